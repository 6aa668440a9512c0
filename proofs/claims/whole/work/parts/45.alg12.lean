/-! SturmRoots$Algebra: signAt, changesAt, isRoot, rootsInside -/
/-- Horner's scheme for the value times K to the power of the degree: after m steps the value and the scale -/
def evS (p : Nat → Int) (n K : Int) (G : Nat) : Nat → Int × Int
  | 0 => (0, 1)
  | m + 1 => ((evS p n K G m).1 * n + p (G - 1 - m) * (evS p n K G m).2, (evS p n K G m).2 * K)
def sgnAt (p : Nat → Int) (n : Int) (k : Nat) : Int := (evS p n (2 ^ k : Nat) (stI p 7) (stI p 7)).1.sign
theorem evS_le {p : Nat → Int} {n K : Int} {G M X : Nat} (hG : G ≤ 7) (hp : ∀ i, i < 7 → (p i).natAbs ≤ M) (hn : n.natAbs ≤ X) (hK : K.natAbs ≤ X) (hX : 1 ≤ X) : ∀ m, m ≤ G → (evS p n K G m).1.natAbs ≤ M * (2 * X) ^ m ∧ (evS p n K G m).2.natAbs ≤ X ^ m
  | 0, _ => ⟨by simp [evS], by simp [evS]⟩
  | m + 1, hm => by
    obtain ⟨h1, h2⟩ := evS_le hG hp hn hK hX m (by omega)
    have h3 := hp (G - 1 - m) (by omega)
    have e1 : ((evS p n K G m).1 * n).natAbs ≤ M * (2 * X) ^ m * X := by rw [Int.natAbs_mul]; exact Nat.mul_le_mul h1 hn
    have e2 : (p (G - 1 - m) * (evS p n K G m).2).natAbs ≤ M * X ^ m := by rw [Int.natAbs_mul]; exact Nat.mul_le_mul h3 h2
    have e3 : X ^ m ≤ (2 * X) ^ m := Nat.pow_le_pow_left (by omega) m
    have e4 : M * X ^ m ≤ M * (2 * X) ^ m := Nat.mul_le_mul_left M e3
    have e5 : M * (2 * X) ^ m * 1 ≤ M * (2 * X) ^ m * X := Nat.mul_le_mul_left _ hX
    have e6 : M * (2 * X) ^ (m + 1) = M * (2 * X) ^ m * X + M * (2 * X) ^ m * X := by rw [Nat.pow_succ, ← Nat.mul_assoc, Nat.two_mul, Nat.mul_add]
    refine ⟨?_, ?_⟩
    · rw [evS]
      dsimp only
      exact Nat.le_trans (Int.natAbs_add_le _ _) (by omega)
    · rw [evS]
      dsimp only
      rw [Int.natAbs_mul, Nat.pow_succ]
      exact Nat.mul_le_mul h2 hK
theorem shl1 : ∀ k, k < 14 → (nI 1 <<< (nI k &&& 31)) = nI (2 ^ k) := by decide
section ALG13
variable {cA : Nat → ClassId} {S : Nat → Nat → Nat} {B : Nat → Int} {P : Nat → Nat → Int} {G Ln : Nat → Nat} {h : mH}
theorem a_multiplyBy (l : Launch) (D : va_G) (hh : hA cA S B G Ln h) {k : Nat} {f : Int32} (hk : k < 164) (hf : f.toInt.natAbs < BB) (hvf : (B k * f.toInt).natAbs < BB ^ 20) :
    mCv l yX1_multiplyBy cX1_multiplyBy 2 (rmd 2) D (mT cA) [.ref (S 0 k), .int f] h (fun g => hfr S g h ∧ hA cA S (updI B k (B k * f.toInt)) G Ln g) := by
  refine mSub_v (k_multiplyBy l D cA (hh.1 k hk) hf hvf) (fun g e => ?_)
  rw [e]
  exact ⟨hfr_mbig hk, hA_mbig hh hk hvf⟩
theorem a_becomeValue (l : Launch) (D : va_G) (hh : hA cA S B G Ln h) {k : Nat} {x : Int64} (hk : k < 164) (hx : x.toInt.natAbs < BB * BB) :
    mCv l yX1_becomeValue cX1_becomeValue 5 (rmd 2) D (mT cA) [.ref (S 0 k), .long x] h (fun g => hfr S g h ∧ hA cA S (updI B k x.toInt) G Ln g) := by
  refine mSub_v (k_becomeValue l D cA (hh.1 k hk) hx) (fun g e => ?_)
  rw [e]
  exact ⟨hfr_mbig hk, hA_mbig hh hk (Nat.lt_trans hx (by decide))⟩
theorem q_signAt (l : Launch) (D : va_G) (hh : hP cA S P G Ln h) {j k M X : Nat} {n : Int32} (hj : j < 22) (hG : G j = stI (P j) 7) (hM : ∀ i, i < 7 → (P j i).natAbs ≤ M) (hn : n.toInt.natAbs ≤ X) (hk : k < 14) (hKX : 2 ^ k ≤ X) (hX : X < BB) (hMX : M * (2 * X) ^ 7 < BB ^ 18) :
    mCi l yX0_signAt cX0_signAt 5 .int (rmd 3) D (mT cA) [.ref (S 6 0), .ref (S 2 j), .int n, .int (nI k)] h (fun x h1 => hfr S h1 h ∧ hP cA S P G Ln h1 ∧ x = s3 (sgnAt (P j) n.toInt k)) := by
  obtain ⟨Y, hY⟩ : ∃ Y, Y = X := ⟨_, rfl⟩
  rw [← hY] at hn hKX hX hMX
  clear hY X
  refine mEnter_i (by decide) (Nat.le_of_ble_eq_true rfl) rfl (fun z X Vz => ?_)
  obtain ⟨B, h0, hB⟩ := hh
  have hG7 := stI_le (P j) 7
  rw [← hG] at hG7
  have a0 := h0.2.2.2.1
  have a1 := (h0.1 162 (by decide)).1
  have hY1 : 1 ≤ Y := Nat.le_trans (Nat.pow_pos (by decide)) hKX
  have h2k : 2 ^ k < 2147483648 := Nat.lt_of_le_of_lt (Nat.pow_le_pow_right (by decide) (show k ≤ 13 by omega)) (by decide)
  have hKi : (nI (2 ^ k)).toInt = ((2 ^ k : Nat) : Int) := nI_int h2k
  have hle := evS_le (p := P j) (n := n.toInt) (K := (2 ^ k : Nat)) (G := G j) (M := M) (X := Y) hG7 hM hn (by rw [Int.natAbs_natCast]; exact hKX) hY1
  have hpow : ∀ m, m ≤ 7 → M * (2 * Y) ^ m ≤ M * (2 * Y) ^ 7 := fun m hm => Nat.mul_le_mul_left M (Nat.pow_le_pow_right (by omega) hm)
  have h1820 : BB ^ 18 * BB = BB ^ 19 := rfl
  have hb19 : BB ^ 18 ≤ BB ^ 19 := Nat.pow_le_pow_right (by decide) (by decide)
  have hb20 : BB ^ 18 ≤ BB ^ 20 := Nat.pow_le_pow_right (by decide) (by decide)
  have hY7 : ∀ m, m ≤ 7 → Y ^ m < BB ^ 7 ∨ Y ^ m ≤ BB ^ 7 := fun m hm => Or.inr (Nat.le_trans (Nat.pow_le_pow_left (Nat.le_of_lt hX) m) (Nat.pow_le_pow_right (by decide) hm))
  refine zi_aload_n X dX0_signAt_0 rfl rfl ?_
  refine zi_getf (C := RX0) (T := TX0) (N := 14) (ci := 4) X (by first | assumption | exact mup_self | (rw [mup_ne (by assumption)]; assumption) | (rw [mup_ne (by assumption)]; exact mup_self) | (rw [mup_ne (by assumption), mup_ne (by assumption)]; assumption)) rfl in_X0 8 (by decide) wf_X0_39 rfl rfl dX0_signAt_1 ?_
  refine zi_callVv X (a_clear l D h0 (k := 162) (by decide)) kc_X1_clear wm_X0_116 (by first | assumption | exact mup_self | (rw [mup_ne (by assumption)]; assumption) | (rw [mup_ne (by assumption)]; exact mup_self) | (rw [mup_ne (by assumption), mup_ne (by assumption)]; assumption)) rfl wim_X1_clear wse_X1_clear ⟨Nat.le_of_ble_eq_true rfl, Nat.le_of_ble_eq_true rfl⟩ rfl rfl (Nat.le_of_ble_eq_true rfl) ⟨Nat.le_of_ble_eq_true rfl, Nat.le_of_ble_eq_true rfl⟩ dX0_signAt_4 (fun g1 e1 => ?_)
  obtain ⟨e1, h1⟩ := e1
  have b0 := h1.2.2.2.1
  have b1 := (h1.1 163 (by decide)).1
  refine zi_aload_n X dX0_signAt_7 rfl rfl ?_
  refine zi_getf (C := RX0) (T := TX0) (N := 14) (ci := 4) X (by first | assumption | exact mup_self | (rw [mup_ne (by assumption)]; assumption) | (rw [mup_ne (by assumption)]; exact mup_self) | (rw [mup_ne (by assumption), mup_ne (by assumption)]; assumption)) rfl in_X0 9 (by decide) wf_X0_42 rfl rfl dX0_signAt_8 ?_
  refine zi_lconst (v := lN 1) X dX0_signAt_11 (by decide) ?_
  refine zi_callVv X (a_becomeValue l D h1 (k := 163) (x := lN 1) (by decide) (by decide)) kc_X1_becomeValue wm_X0_88 (by first | assumption | exact mup_self | (rw [mup_ne (by assumption)]; assumption) | (rw [mup_ne (by assumption)]; exact mup_self) | (rw [mup_ne (by assumption), mup_ne (by assumption)]; assumption)) rfl wim_X1_becomeValue wse_X1_becomeValue ⟨Nat.le_of_ble_eq_true rfl, Nat.le_of_ble_eq_true rfl⟩ rfl rfl (Nat.le_of_ble_eq_true rfl) ⟨Nat.le_of_ble_eq_true rfl, Nat.le_of_ble_eq_true rfl⟩ dX0_signAt_12 (fun g2 e2 => ?_)
  obtain ⟨e2, h2⟩ := e2
  rw [show (lN 1).toInt = 1 by decide] at h2
  have b3 := (h2.2.1 j hj).1
  suffices key : ∀ c m B1 g, m + c = G j → hfr S g h → hA cA S B1 G Ln g → (∀ t, t < 154 → B1 t = B t) → B1 162 = (evS (P j) n.toInt (2 ^ k : Nat) (G j) m).1 → B1 163 = (evS (P j) n.toInt (2 ^ k : Nat) (G j) m).2 → zM z 0 0 21 [some (.ref (S 6 0)), some (.ref (S 2 j)), some (.int n), some (.int (nI k)), some (.int (nI c - nI 1))] [] g by
    refine zi_aload_n X dX0_signAt_15 rfl rfl ?_
    refine zi_getf (C := RX4) (T := TX4) (N := 2) (ci := 8) X (by first | assumption | exact mup_self | (rw [mup_ne (by assumption)]; assumption) | (rw [mup_ne (by assumption)]; exact mup_self) | (rw [mup_ne (by assumption), mup_ne (by assumption)]; assumption)) rfl in_X4 1 (by decide) wf_X0_99 rfl rfl dX0_signAt_16 ?_
    refine zi_istore X dX0_signAt_19 (by decide) ?_
    exact zi_sub (by repeat (first | exact trivial | refine And.intro rfl ?_)) (key (G j) 0 _ g2 (by omega) (hfr_tr e2 e1) h2 (fun t ht => by rw [updI_n (by omega), updI_n (by omega)]) (by rw [updI_n (by decide), updI_s]; rfl) (by rw [updI_s]; rfl))
  intro c
  induction c with
  | zero =>
    intro m B1 g hm hf hB1 hout hv hsc
    have e : m = G j := by omega
    subst e
    have c0 := hB1.2.2.2.1
    have c1 := (hB1.1 162 (by decide)).1
    refine zi_iload X dX0_signAt_21 rfl ?_
    refine zi_if_lt (tgt := 79) X dX0_signAt_23 (by decide) (fun c_23 => ?_) (fun c_23 => (by first | exact absurd ((dI_neg (by decide)).mpr rfl) c_23 | exact absurd c_23 ((dI_neg (by decide)).mpr rfl)))
    refine zi_aload_n X dX0_signAt_79 rfl rfl ?_
    refine zi_getf (C := RX0) (T := TX0) (N := 14) (ci := 4) X (by first | assumption | exact mup_self | (rw [mup_ne (by assumption)]; assumption) | (rw [mup_ne (by assumption)]; exact mup_self) | (rw [mup_ne (by assumption), mup_ne (by assumption)]; assumption)) rfl in_X0 8 (by decide) wf_X0_39 rfl rfl dX0_signAt_80 ?_
    refine zi_callVi X (k_signum l D cA c1 (hB1.1 162 (by decide)).2.2) kc_X1_signum wm_X0_169 (by first | assumption | exact mup_self | (rw [mup_ne (by assumption)]; assumption) | (rw [mup_ne (by assumption)]; exact mup_self) | (rw [mup_ne (by assumption), mup_ne (by assumption)]; assumption)) rfl wim_X1_signum wse_X1_signum ⟨Nat.le_of_ble_eq_true rfl, Nat.le_of_ble_eq_true rfl⟩ rfl rfl (Nat.le_of_ble_eq_true rfl) ⟨Nat.le_of_ble_eq_true rfl, Nat.le_of_ble_eq_true rfl⟩ dX0_signAt_83 (fun x g3 e3 => ?_)
    obtain ⟨rfl, rfl⟩ := e3
    refine zi_ireturn X Vz dX0_signAt_86 ?_
    refine ⟨hf, ⟨B1, hB1, fun j2 hj2 i hi => by rw [hout _ (by omega)]; exact hB j2 hj2 i hi⟩, ?_⟩
    rw [s3_sign, hv]
    unfold sgnAt
    rw [← hG]
  | succ c ih =>
    intro m B1 g hm hf hB1 hout hv hsc
    have c0 := hB1.2.2.2.1
    have c1 := (hB1.1 162 (by decide)).1
    obtain ⟨l1, l2⟩ := hle m (by omega)
    obtain ⟨l3, l4⟩ := hle (m + 1) (by omega)
    have l5 := hpow m (by omega)
    have l6 := hpow (m + 1) (by omega)
    have hcm : G j - 1 - m = c := by omega
    have hBc : B1 (7 * j + c) = P j c := by rw [hout _ (by omega)]; exact hB j hj c (by omega)
    have m1 : ((evS (P j) n.toInt (2 ^ k : Nat) (G j) m).1 * n.toInt).natAbs ≤ M * (2 * Y) ^ m * Y := by rw [Int.natAbs_mul]; exact Nat.mul_le_mul l1 hn
    have m2 : (P j c).natAbs * ((evS (P j) n.toInt (2 ^ k : Nat) (G j) m).2).natAbs ≤ M * Y ^ m := Nat.mul_le_mul (hM c (by omega)) l2
    have m3 : M * (2 * Y) ^ m * Y ≤ M * (2 * Y) ^ (m + 1) := by
      rw [Nat.pow_succ, ← Nat.mul_assoc]
      exact Nat.mul_le_mul_left _ (by omega)
    have m4 : M * Y ^ m ≤ M * (2 * Y) ^ m := Nat.mul_le_mul_left M (Nat.pow_le_pow_left (by omega) m)
    have m5 : Y ^ (m + 1) < BB ^ 18 := by
      refine Nat.lt_of_le_of_lt ((hY7 (m + 1) (by omega)).elim Nat.le_of_lt id) (Nat.pow_lt_pow_right (by decide) (by decide))
    rw [nI_pr]
    refine zi_iload X dX0_signAt_21 rfl ?_
    refine zi_if_lt (tgt := 79) X dX0_signAt_23 (by decide) (fun c_23 => (by first | exact absurd (fun q => Int32.not_lt.mpr (nI_le (show 0 ≤ c by omega) (by omega)) q) c_23 | exact absurd c_23 (fun q => Int32.not_lt.mpr (nI_le (show 0 ≤ c by omega) (by omega)) q))) (fun c_23 => ?_)
    refine zi_aload_n X dX0_signAt_26 rfl rfl ?_
    refine zi_getf (C := RX0) (T := TX0) (N := 14) (ci := 4) X (by first | assumption | exact mup_self | (rw [mup_ne (by assumption)]; assumption) | (rw [mup_ne (by assumption)]; exact mup_self) | (rw [mup_ne (by assumption), mup_ne (by assumption)]; assumption)) rfl in_X0 8 (by decide) wf_X0_39 rfl rfl dX0_signAt_27 ?_
    refine zi_iload_n X dX0_signAt_30 rfl rfl ?_
    refine zi_callVv X (a_multiplyBy l D hB1 (k := 162) (f := n) (by decide) (Nat.lt_of_le_of_lt hn hX) (by rw [hv]; omega)) kc_X1_multiplyBy wm_X0_165 (by first | assumption | exact mup_self | (rw [mup_ne (by assumption)]; assumption) | (rw [mup_ne (by assumption)]; exact mup_self) | (rw [mup_ne (by assumption), mup_ne (by assumption)]; assumption)) rfl wim_X1_multiplyBy wse_X1_multiplyBy ⟨Nat.le_of_ble_eq_true rfl, Nat.le_of_ble_eq_true rfl⟩ rfl rfl (Nat.le_of_ble_eq_true rfl) ⟨Nat.le_of_ble_eq_true rfl, Nat.le_of_ble_eq_true rfl⟩ dX0_signAt_31 (fun g3 e3 => ?_)
    obtain ⟨e3, h3⟩ := e3
    have d0 := h3.2.2.2.1
    have d1 := (h3.1 161 (by decide)).1
    have d2 := (h3.2.1 j hj).1
    have d3 := (h3.2.1 j hj).2
    rw [hv] at h3
    refine zi_aload_n X dX0_signAt_34 rfl rfl ?_
    refine zi_getf (C := RX0) (T := TX0) (N := 14) (ci := 4) X (by first | assumption | exact mup_self | (rw [mup_ne (by assumption)]; assumption) | (rw [mup_ne (by assumption)]; exact mup_self) | (rw [mup_ne (by assumption), mup_ne (by assumption)]; assumption)) rfl in_X0 7 (by decide) wf_X0_36 rfl rfl dX0_signAt_35 ?_
    refine zi_aload_n X dX0_signAt_38 rfl rfl ?_
    refine zi_getf (C := RX4) (T := TX4) (N := 2) (ci := 8) X (by first | assumption | exact mup_self | (rw [mup_ne (by assumption)]; assumption) | (rw [mup_ne (by assumption)]; exact mup_self) | (rw [mup_ne (by assumption), mup_ne (by assumption)]; assumption)) rfl in_X4 0 (by decide) wf_X0_102 rfl rfl dX0_signAt_39 ?_
    refine zi_iload X dX0_signAt_42 rfl ?_
    refine zi_aaldq X 2 (by first | assumption | exact mup_self | (rw [mup_ne (by assumption)]; assumption) | (rw [mup_ne (by assumption)]; exact mup_self) | (rw [mup_ne (by assumption), mup_ne (by assumption)]; assumption)) rfl (vin (show c < 7 by omega) (by decide)) (pa_at (i := c) (by omega)) dX0_signAt_44 ?_
    refine zi_aload_n X dX0_signAt_45 rfl rfl ?_
    refine zi_getf (C := RX0) (T := TX0) (N := 14) (ci := 4) X (by first | assumption | exact mup_self | (rw [mup_ne (by assumption)]; assumption) | (rw [mup_ne (by assumption)]; exact mup_self) | (rw [mup_ne (by assumption), mup_ne (by assumption)]; assumption)) rfl in_X0 9 (by decide) wf_X0_42 rfl rfl dX0_signAt_46 ?_
    refine zi_callVv X (a_product l D h3 (k := 161) (n := 7 * j + c) (m := 163) (by decide) (by omega) (by decide) (by omega) (by decide) (by rw [updI_n (by omega), updI_n (by decide), hBc, hsc]; omega)) kc_X1_becomeProduct wm_X0_125 (by first | assumption | exact mup_self | (rw [mup_ne (by assumption)]; assumption) | (rw [mup_ne (by assumption)]; exact mup_self) | (rw [mup_ne (by assumption), mup_ne (by assumption)]; assumption)) rfl wim_X1_becomeProduct wse_X1_becomeProduct ⟨Nat.le_of_ble_eq_true rfl, Nat.le_of_ble_eq_true rfl⟩ rfl rfl (Nat.le_of_ble_eq_true rfl) ⟨Nat.le_of_ble_eq_true rfl, Nat.le_of_ble_eq_true rfl⟩ dX0_signAt_49 (fun g4 e4 => ?_)
    obtain ⟨e4, h4⟩ := e4
    rw [updI_n (show 7 * j + c ≠ 162 by omega), updI_n (show 163 ≠ 162 by decide), hBc, hsc] at h4
    have f0 := h4.2.2.2.1
    have f1 := (h4.1 162 (by decide)).1
    refine zi_aload_n X dX0_signAt_52 rfl rfl ?_
    refine zi_getf (C := RX0) (T := TX0) (N := 14) (ci := 4) X (by first | assumption | exact mup_self | (rw [mup_ne (by assumption)]; assumption) | (rw [mup_ne (by assumption)]; exact mup_self) | (rw [mup_ne (by assumption), mup_ne (by assumption)]; assumption)) rfl in_X0 8 (by decide) wf_X0_39 rfl rfl dX0_signAt_53 ?_
    refine zi_aload_n X dX0_signAt_56 rfl rfl ?_
    refine zi_getf (C := RX0) (T := TX0) (N := 14) (ci := 4) X (by first | assumption | exact mup_self | (rw [mup_ne (by assumption)]; assumption) | (rw [mup_ne (by assumption)]; exact mup_self) | (rw [mup_ne (by assumption), mup_ne (by assumption)]; assumption)) rfl in_X0 7 (by decide) wf_X0_36 rfl rfl dX0_signAt_57 ?_
    refine zi_callVv X (a_plus l D h4 (k := 162) (n := 161) (by decide) (by decide) (by decide) (by rw [updI_n (by decide), updI_s]; omega) (by rw [updI_s, Int.natAbs_mul]; omega)) kc_X1_plus wm_X0_128 (by first | assumption | exact mup_self | (rw [mup_ne (by assumption)]; assumption) | (rw [mup_ne (by assumption)]; exact mup_self) | (rw [mup_ne (by assumption), mup_ne (by assumption)]; assumption)) rfl wim_X1_plus wse_X1_plus ⟨Nat.le_of_ble_eq_true rfl, Nat.le_of_ble_eq_true rfl⟩ rfl rfl (Nat.le_of_ble_eq_true rfl) ⟨Nat.le_of_ble_eq_true rfl, Nat.le_of_ble_eq_true rfl⟩ dX0_signAt_60 (fun g5 e5 => ?_)
    obtain ⟨e5, h5⟩ := e5
    rw [updI_n (show 162 ≠ 161 by decide), updI_s, updI_s] at h5
    have i0 := h5.2.2.2.1
    have i1 := (h5.1 163 (by decide)).1
    refine zi_aload_n X dX0_signAt_63 rfl rfl ?_
    refine zi_getf (C := RX0) (T := TX0) (N := 14) (ci := 4) X (by first | assumption | exact mup_self | (rw [mup_ne (by assumption)]; assumption) | (rw [mup_ne (by assumption)]; exact mup_self) | (rw [mup_ne (by assumption), mup_ne (by assumption)]; assumption)) rfl in_X0 9 (by decide) wf_X0_42 rfl rfl dX0_signAt_64 ?_
    refine zi_iconst (v := (nI 1)) X dX0_signAt_67 (by decide) ?_
    refine zi_iload_n X dX0_signAt_68 rfl rfl ?_
    refine zi_ishl X dX0_signAt_69 ?_
    rw [shl1 k hk]
    have hs3 : updI (updI (updI B1 162 ((evS (P j) n.toInt (2 ^ k : Nat) (G j) m).1 * n.toInt)) 161 (P j c * (evS (P j) n.toInt (2 ^ k : Nat) (G j) m).2)) 162 ((evS (P j) n.toInt (2 ^ k : Nat) (G j) m).1 * n.toInt + P j c * (evS (P j) n.toInt (2 ^ k : Nat) (G j) m).2) 163 = (evS (P j) n.toInt (2 ^ k : Nat) (G j) m).2 := by
      rw [updI_n (by decide), updI_n (by decide), updI_n (by decide), hsc]
    have hs4 : (evS (P j) n.toInt (2 ^ k : Nat) (G j) (m + 1)).2 = (evS (P j) n.toInt (2 ^ k : Nat) (G j) m).2 * ((2 ^ k : Nat) : Int) := rfl
    refine zi_callVv X (a_multiplyBy l D h5 (k := 163) (f := nI (2 ^ k)) (by decide) (by rw [hKi, Int.natAbs_natCast]; exact Nat.lt_of_le_of_lt hKX hX) (by rw [hKi, hs3, ← hs4]; omega)) kc_X1_multiplyBy wm_X0_165 (by first | assumption | exact mup_self | (rw [mup_ne (by assumption)]; assumption) | (rw [mup_ne (by assumption)]; exact mup_self) | (rw [mup_ne (by assumption), mup_ne (by assumption)]; assumption)) rfl wim_X1_multiplyBy wse_X1_multiplyBy ⟨Nat.le_of_ble_eq_true rfl, Nat.le_of_ble_eq_true rfl⟩ rfl rfl (Nat.le_of_ble_eq_true rfl) ⟨Nat.le_of_ble_eq_true rfl, Nat.le_of_ble_eq_true rfl⟩ dX0_signAt_70 (fun g6 e6 => ?_)
    obtain ⟨e6, h6⟩ := e6
    rw [hKi, hs3, ← hs4] at h6
    refine zi_iinc X dX0_signAt_73 rfl rfl (by decide) ?_
    refine zi_goto (tgt := 21) X dX0_signAt_76 (by decide) ?_
    rw [nI_m1]
    refine zi_sub (by repeat (first | exact trivial | refine And.intro rfl ?_)) (ih (m + 1) _ g6 (by omega) (hfr_tr e6 (hfr_tr e5 (hfr_tr e4 (hfr_tr e3 hf)))) h6 (fun t ht => ?_) ?_ ?_)
    · rw [updI_n (by omega), updI_n (by omega), updI_n (by omega), updI_n (by omega)]
      exact hout t ht
    · rw [updI_n (by decide), updI_s, evS, hcm]
    · rw [updI_s]
end ALG13
