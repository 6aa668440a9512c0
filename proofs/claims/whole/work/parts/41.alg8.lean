/-! SturmRoots$Algebra: reduce -/
theorem mSubL_o {o : Option Value} {t u : List (Option Value)} (h : mSubL t u) : mSubL (o :: t) (o :: u) := by
  cases o with
  | none => exact h
  | some x => exact ⟨rfl, h⟩
theorem dS_int {a b : Nat} (ha : a < 1073741824) (hb : b < 1073741824) : (nI a - nI b).toInt = (a : Int) - (b : Int) := by
  rw [Int32.toInt_sub, nI_int (by omega), nI_int (by omega)]
  simp only [Int.bmod]
  split <;> omega
/-- one step: the coefficient t of the dividend is taken away -/
def redS (f g : Nat → Int) (s t : Nat) : Nat → Int := if f t = 0 then f else fun i => if i = t then 0 else if i < t then f i * ((g s).natAbs : Int) + (if i < t - s then 0 else (if g s < 0 then f t else -f t) * g (i - (t - s))) else f i
def redL (g : Nat → Int) (s : Nat) : Nat → (Nat → Int) → Nat → Int
  | 0, f => f
  | n + 1, f => redL g s n (redS f g s (s + n))
/-- the dividend, reduced -/
def red (f g : Nat → Int) : Nat → Int := if stI g 7 = 0 then f else redL g (stI g 7 - 1) (stI f 7 - (stI g 7 - 1)) f
theorem redS_le {f g : Nat → Int} {s t F H : Nat} (hf : ∀ i, i < 7 → (f i).natAbs ≤ F) (hg : ∀ i, i < 7 → (g i).natAbs ≤ H) (hs : s < 7) (ht : t < 7) (hst : s ≤ t) (hH : 1 ≤ H) : ∀ i, i < 7 → (redS f g s t i).natAbs ≤ F * (2 * H) := by
  intro i hi
  have h1 : F * 1 ≤ F * (2 * H) := Nat.mul_le_mul_left F (by omega)
  have h2 : ∀ j, j < 7 → ∀ k, k < 7 → (f j).natAbs * (g k).natAbs ≤ F * H := fun j hj k hk => Nat.mul_le_mul (hf j hj) (hg k hk)
  have h3 : F * (2 * H) = F * H + F * H := by rw [Nat.mul_left_comm, Nat.two_mul]
  have hi1 := hf i hi
  unfold redS
  split
  · omega
  · dsimp only
    split
    · simp
    · split
      · have e1 : (f i * ((g s).natAbs : Int)).natAbs ≤ F * H := by rw [Int.natAbs_mul, Int.natAbs_natCast]; exact h2 i hi s hs
        have e2 : ((if i < t - s then (0 : Int) else (if g s < 0 then f t else -f t) * g (i - (t - s)))).natAbs ≤ F * H := by
          split
          · simp
          · rw [Int.natAbs_mul]
            have e3 : (if g s < 0 then f t else -f t).natAbs = (f t).natAbs := by split <;> simp
            rw [e3]
            exact h2 t ht _ (by omega)
        exact Nat.le_trans (Int.natAbs_add_le _ _) (by omega)
      · omega
theorem redL_le {g : Nat → Int} {s H : Nat} (hg : ∀ i, i < 7 → (g i).natAbs ≤ H) (hs : s < 7) (hH : 1 ≤ H) : ∀ {n : Nat} {f : Nat → Int} {F : Nat}, s + n ≤ 7 → (∀ i, i < 7 → (f i).natAbs ≤ F) → ∀ i, i < 7 → (redL g s n f i).natAbs ≤ F * (2 * H) ^ n
  | 0, f, F, _, hf, i, hi => by rw [Nat.pow_zero, Nat.mul_one]; exact hf i hi
  | n + 1, f, F, h, hf, i, hi => by
    rw [redL, Nat.pow_succ, Nat.mul_comm _ (2 * H), ← Nat.mul_assoc]
    exact redL_le hg hs hH (by omega) (redS_le hf hg hs (by omega) (by omega) hH) i hi
theorem redS_cong {f f' g g' : Nat → Int} {s t : Nat} (hf : ∀ i, i < 7 → f i = f' i) (hg : ∀ i, i < 7 → g i = g' i) (hs : s < 7) (ht : t < 7) : ∀ i, i < 7 → redS f g s t i = redS f' g' s t i := by
  intro i hi
  unfold redS
  rw [hf t ht, hg s hs]
  split
  · exact hf i hi
  · dsimp only
    rw [hf i hi]
    split
    · rfl
    · split
      · split
        · rfl
        · rw [hg _ (by omega)]
      · rfl
theorem redL_cong {g g' : Nat → Int} {s : Nat} (hg : ∀ i, i < 7 → g i = g' i) (hs : s < 7) : ∀ {n : Nat} {f f' : Nat → Int}, s + n ≤ 7 → (∀ i, i < 7 → f i = f' i) → ∀ i, i < 7 → redL g s n f i = redL g' s n f' i
  | 0, f, f', _, hf, i, hi => hf i hi
  | n + 1, f, f', h, hf, i, hi => redL_cong hg hs (by omega) (redS_cong hf hg hs (by omega)) i hi
theorem red_cong {f f' g g' : Nat → Int} (hf : ∀ i, i < 7 → f i = f' i) (hg : ∀ i, i < 7 → g i = g' i) : ∀ i, i < 7 → red f g i = red f' g' i := by
  intro i hi
  have h1 := stI_le g 7
  have h2 := stI_le f 7
  unfold red
  rw [← stI_cong hf, ← stI_cong hg]
  split
  · exact hf i hi
  · exact redL_cong hg (by omega) (by omega) hf i hi
section ALG8
variable {cA : Nat → ClassId} {S : Nat → Nat → Nat} {B : Nat → Int} {P : Nat → Nat → Int} {G Ln : Nat → Nat} {h : mH}
theorem p_reduce (l : Launch) (D : va_G) (hh : hA cA S B G Ln h) {j j2 F H : Nat} (hj : j < 22) (hj2 : j2 < 22) (hne : j2 ≠ j) (hG : G j = stI (cof B j) 7) (hG2 : G j2 = stI (cof B j2) 7) (hF : ∀ i, i < 7 → (B (7 * j + i)).natAbs ≤ F) (hH : ∀ i, i < 7 → (B (7 * j2 + i)).natAbs ≤ H) (hH1 : 1 ≤ H) (hFH : F * (2 * H) ^ (G j + 1 - G j2) < BB ^ 19) :
    mCv l yX0_reduce cX0_reduce 8 (rmd 4) D (mT cA) [.ref (S 6 0), .ref (S 2 j), .ref (S 2 j2)] h (fun h1 => hfr S h1 h ∧ ∃ B', hA cA S B' (updN G j (stI (red (cof B j) (cof B j2)) 7)) Ln h1 ∧ (∀ n, n < 154 → ¬ (7 * j ≤ n ∧ n < 7 * j + 7) → B' n = B n) ∧ ∀ i, i < 7 → B' (7 * j + i) = red (cof B j) (cof B j2) i) := by
  refine mEnter_v (by decide) (Nat.le_of_ble_eq_true rfl) rfl (fun z X Vz => ?_)
  have a0 := hh.2.2.2.1
  have a1 := (hh.2.1 j hj).1
  have a2 := (hh.2.1 j hj).2
  have a3 := (hh.2.1 j2 hj2).1
  have a4 := (hh.2.1 j2 hj2).2
  have hG7 := stI_le (cof B j) 7
  rw [← hG] at hG7
  have hG27 := stI_le (cof B j2) 7
  rw [← hG2] at hG27
  refine zi_aload_n X dX0_reduce_0 rfl rfl ?_
  refine zi_getf (C := RX4) (T := TX4) (N := 2) (ci := 8) X (by first | assumption | exact mup_self | (rw [mup_ne (by assumption)]; assumption) | (rw [mup_ne (by assumption)]; exact mup_self) | (rw [mup_ne (by assumption), mup_ne (by assumption)]; assumption)) rfl in_X4 1 (by decide) wf_X0_99 rfl rfl dX0_reduce_1 ?_
  refine zi_istore_n X dX0_reduce_4 rfl (by decide) ?_
  refine zi_iload_n X dX0_reduce_5 rfl rfl ?_
  refine zi_if_ge (tgt := 10) X dX0_reduce_6 (by decide) (fun c_6 => ?_) (fun c_6 => ?_)
  · obtain ⟨s, hs⟩ : ∃ s, G j2 = s + 1 := ⟨G j2 - 1, by
      have h3 : ¬ G j2 = 0 := fun q => Int32.not_lt.mpr c_6 ((dI_neg (by omega)).mpr q)
      omega⟩
    have e : nI (G j2) - nI 1 = nI s := by rw [hs, nI_pr]
    have hred : red (cof B j) (cof B j2) = redL (cof B j2) s (G j - s) (cof B j) := by
      unfold red
      rw [← hG2, ← hG, hs, if_neg (by omega)]
      rfl
    rw [e]
    rw [hs] at hFH
    have hFH2 : F * (2 * H) ^ (G j - s) < BB ^ 19 := by rw [show G j - s = G j + 1 - (s + 1) by omega]; exact hFH
    obtain ⟨lead, hlead⟩ : ∃ lead : Nat, lead = (B (7 * j2 + s)).natAbs := ⟨_, rfl⟩
    refine zi_aload_n X dX0_reduce_10 rfl rfl ?_
    refine zi_getf (C := RX0) (T := TX0) (N := 14) (ci := 4) X (by first | assumption | exact mup_self | (rw [mup_ne (by assumption)]; assumption) | (rw [mup_ne (by assumption)]; exact mup_self) | (rw [mup_ne (by assumption), mup_ne (by assumption)]; assumption)) rfl in_X0 5 (by decide) wf_X0_30 rfl rfl dX0_reduce_11 ?_
    refine zi_aload_n X dX0_reduce_14 rfl rfl ?_
    refine zi_getf (C := RX4) (T := TX4) (N := 2) (ci := 8) X (by first | assumption | exact mup_self | (rw [mup_ne (by assumption)]; assumption) | (rw [mup_ne (by assumption)]; exact mup_self) | (rw [mup_ne (by assumption), mup_ne (by assumption)]; assumption)) rfl in_X4 0 (by decide) wf_X0_102 rfl rfl dX0_reduce_15 ?_
    refine zi_iload_n X dX0_reduce_18 rfl rfl ?_
    refine zi_aaldq X 2 (by first | assumption | exact mup_self | (rw [mup_ne (by assumption)]; assumption) | (rw [mup_ne (by assumption)]; exact mup_self) | (rw [mup_ne (by assumption), mup_ne (by assumption)]; assumption)) rfl (vin (show s < 7 by omega) (by decide)) (pa_at (i := s) (by omega)) dX0_reduce_19 ?_
    refine zi_callVv X (a_magnitude l D hh (k := 159) (n := 7 * j2 + s) (by decide) (by omega) (by omega)) kc_X1_becomeMagnitude wm_X0_61 ((hh.1 159 (by decide)).1) rfl wim_X1_becomeMagnitude wse_X1_becomeMagnitude ⟨Nat.le_of_ble_eq_true rfl, Nat.le_of_ble_eq_true rfl⟩ rfl rfl (Nat.le_of_ble_eq_true rfl) ⟨Nat.le_of_ble_eq_true rfl, Nat.le_of_ble_eq_true rfl⟩ dX0_reduce_20 (fun g1 e1 => ?_)
    obtain ⟨e1, e2⟩ := e1
    have b0 := e2.2.2.2.1
    have b1 := (e2.2.1 j hj).1
    have b2 := (e2.2.1 j hj).2
    have b3 := (e2.2.1 j2 hj2).1
    have b4 := (e2.2.1 j2 hj2).2
    have b5 := (e2.1 (7 * j2 + s) (by omega)).1
    rw [updI_n (by omega)] at b5
    have hld : updI B 159 ((B (7 * j2 + s)).natAbs : Nat) 159 = (lead : Nat) := by rw [updI_s, hlead]
    have hleadH : lead ≤ H := by rw [hlead]; exact hH s (by omega)
    have hgs : cof B j2 s = B (7 * j2 + s) := rfl
    have a7 : ∀ (Fk k : Nat), Fk * H ≤ Fk * (2 * H) ^ (k + 1) := fun Fk k => by
      refine Nat.mul_le_mul_left Fk ?_
      rw [Nat.pow_succ]
      have : 1 * (2 * H) ≤ (2 * H) ^ k * (2 * H) := Nat.mul_le_mul_right _ (Nat.pow_pos (by omega))
      omega
    refine zi_aload_n X dX0_reduce_23 rfl rfl ?_
    refine zi_getf (C := RX4) (T := TX4) (N := 2) (ci := 8) X (by first | assumption | exact mup_self | (rw [mup_ne (by assumption)]; assumption) | (rw [mup_ne (by assumption)]; exact mup_self) | (rw [mup_ne (by assumption), mup_ne (by assumption)]; assumption)) rfl in_X4 0 (by decide) wf_X0_102 rfl rfl dX0_reduce_24 ?_
    refine zi_iload_n X dX0_reduce_27 rfl rfl ?_
    refine zi_aaldq X 2 (by first | assumption | exact mup_self | (rw [mup_ne (by assumption)]; assumption) | (rw [mup_ne (by assumption)]; exact mup_self) | (rw [mup_ne (by assumption), mup_ne (by assumption)]; assumption)) rfl (vin (show s < 7 by omega) (by decide)) (pa_at (i := s) (by omega)) dX0_reduce_28 ?_
    refine zi_getf (C := RX1) (T := TX1) (N := 3) (ci := 5) X (by first | assumption | exact mup_self | (rw [mup_ne (by assumption)]; assumption) | (rw [mup_ne (by assumption)]; exact mup_self) | (rw [mup_ne (by assumption), mup_ne (by assumption)]; assumption)) rfl in_X1 2 (by decide) wf_X0_92 rfl rfl dX0_reduce_29 ?_
    refine zi_istore X dX0_reduce_32 (by decide) ?_
    refine zi_aload_n X dX0_reduce_34 rfl rfl ?_
    refine zi_getf (C := RX4) (T := TX4) (N := 2) (ci := 8) X (by first | assumption | exact mup_self | (rw [mup_ne (by assumption)]; assumption) | (rw [mup_ne (by assumption)]; exact mup_self) | (rw [mup_ne (by assumption), mup_ne (by assumption)]; assumption)) rfl in_X4 1 (by decide) wf_X0_99 rfl rfl dX0_reduce_35 ?_
    refine zi_istore X dX0_reduce_38 (by decide) ?_
    suffices key : ∀ k T Bt gg (Fk : Nat) (o6 o7 : Option Value), T - s = k → T ≤ G j → hfr S gg h → hA cA S Bt G Ln gg → (∀ n, n < 154 → ¬ (7 * j ≤ n ∧ n < 7 * j + 7) → Bt n = B n) → Bt 159 = (lead : Nat) → (∀ i, i < 7 → (Bt (7 * j + i)).natAbs ≤ Fk) → Fk * (2 * H) ^ k < BB ^ 19 → (∀ i, i < 7 → redL (cof B j2) s k (cof Bt j) i = redL (cof B j2) s (G j - s) (cof B j) i) → zM z 0 0 40 [some (.ref (S 6 0)), some (.ref (S 2 j)), some (.ref (S 2 j2)), some (.int (nI s)), some (.int (bsg (B (7 * j2 + s)))), some (.int (nI T - nI 1)), o6, o7] [] gg from
      zi_sub (by repeat (first | exact trivial | refine And.intro rfl ?_ | refine mSubL_o ?_)) (key (G j - s) (G j) _ g1 F none none rfl (Nat.le_refl _) e1 e2 (fun n hn _ => updI_n (by omega)) hld (fun i hi => by rw [updI_n (by omega)]; exact hF i hi) hFH2 (redL_cong (fun _ _ => rfl) (by omega) (by omega) (fun i hi => updI_n (by omega))))
    intro k
    induction k with
    | zero =>
      intro T Bt gg Fk o6 o7 hT hTG hf hA1 hB1 hl hFk hFk2 hre
      rw [redL] at hre
      refine zi_iload X dX0_reduce_40 rfl ?_
      refine zi_iload_n X dX0_reduce_42 rfl rfl ?_
      refine zi_icmp_lt (tgt := 153) X dX0_reduce_43 (by decide) (fun c_43 => ?_) (fun c_43 => (by first | exact absurd ((dI_lt (by omega) (by omega)).mpr (by omega)) c_43 | exact absurd c_43 ((dI_lt (by omega) (by omega)).mpr (by omega))))
      refine zi_aload_n X dX0_reduce_153 rfl rfl ?_
      refine zi_callVv X (p_settle l D hA1 hj) kc_X4_settle wm_X0_122 ((hA1.2.1 j hj).1) rfl wim_X4_settle wse_X4_settle ⟨Nat.le_of_ble_eq_true rfl, Nat.le_of_ble_eq_true rfl⟩ rfl rfl (Nat.le_of_ble_eq_true rfl) ⟨Nat.le_of_ble_eq_true rfl, Nat.le_of_ble_eq_true rfl⟩ dX0_reduce_154 (fun g3 e3 => ?_)
      obtain ⟨e3, e4⟩ := e3
      refine zi_return X Vz dX0_reduce_157 ?_
      refine ⟨hfr_tr e3 hf, Bt, ?_, hB1, fun i hi => ?_⟩
      · rw [hred, ← stI_cong hre]
        exact e4
      · rw [hred, ← hre i hi]
        rfl
    | succ k ih =>
      intro T Bt gg Fk o6 o7 hT hTG hf hA1 hB1 hl hFk hFk2 hre
      obtain ⟨t, ht⟩ : ∃ t, t = s + k := ⟨_, rfl⟩
      have hTt : T = t + 1 := by omega
      subst hTt
      have c0 := hA1.2.2.2.1
      have c1 := (hA1.2.1 j hj).1
      have c2 := (hA1.2.1 j hj).2
      have c3 := (hA1.2.1 j2 hj2).1
      have c4 := (hA1.2.1 j2 hj2).2
      have c5 := (hA1.1 160 (by decide)).1
      rw [nI_pr]
      rw [redL, ← ht] at hre
      have hFkH := a7 Fk k
      refine zi_iload X dX0_reduce_40 rfl ?_
      refine zi_iload_n X dX0_reduce_42 rfl rfl ?_
      refine zi_icmp_lt (tgt := 153) X dX0_reduce_43 (by decide) (fun c_43 => (by first | exact absurd (fun q => Int32.not_lt.mpr (nI_le (show s ≤ t by omega) (by omega)) q) c_43 | exact absurd c_43 (fun q => Int32.not_lt.mpr (nI_le (show s ≤ t by omega) (by omega)) q))) (fun c_43 => ?_)
      refine zi_aload_n X dX0_reduce_46 rfl rfl ?_
      refine zi_getf (C := RX0) (T := TX0) (N := 14) (ci := 4) X (by first | assumption | exact mup_self | (rw [mup_ne (by assumption)]; assumption) | (rw [mup_ne (by assumption)]; exact mup_self) | (rw [mup_ne (by assumption), mup_ne (by assumption)]; assumption)) rfl in_X0 6 (by decide) wf_X0_33 rfl rfl dX0_reduce_47 ?_
      refine zi_aload_n X dX0_reduce_50 rfl rfl ?_
      refine zi_getf (C := RX4) (T := TX4) (N := 2) (ci := 8) X (by first | assumption | exact mup_self | (rw [mup_ne (by assumption)]; assumption) | (rw [mup_ne (by assumption)]; exact mup_self) | (rw [mup_ne (by assumption), mup_ne (by assumption)]; assumption)) rfl in_X4 0 (by decide) wf_X0_102 rfl rfl dX0_reduce_51 ?_
      refine zi_iload X dX0_reduce_54 rfl ?_
      refine zi_aaldq X 2 (by first | assumption | exact mup_self | (rw [mup_ne (by assumption)]; assumption) | (rw [mup_ne (by assumption)]; exact mup_self) | (rw [mup_ne (by assumption), mup_ne (by assumption)]; assumption)) rfl (vin (show t < 7 by omega) (by decide)) (pa_at (i := t) (by omega)) dX0_reduce_56 ?_
      refine zi_callVv X (a_become l D hA1 (k := 160) (n := 7 * j + t) (by decide) (by omega) (by omega)) kc_X1_become wm_X0_77 (by first | assumption | exact mup_self | (rw [mup_ne (by assumption)]; assumption) | (rw [mup_ne (by assumption)]; exact mup_self) | (rw [mup_ne (by assumption), mup_ne (by assumption)]; assumption)) rfl wim_X1_become wse_X1_become ⟨Nat.le_of_ble_eq_true rfl, Nat.le_of_ble_eq_true rfl⟩ rfl rfl (Nat.le_of_ble_eq_true rfl) ⟨Nat.le_of_ble_eq_true rfl, Nat.le_of_ble_eq_true rfl⟩ dX0_reduce_57 (fun g3 e3 => ?_)
      obtain ⟨e3, e4⟩ := e3
      have d0 := e4.2.2.2.1
      have d5 := (e4.1 160 (by decide)).1
      refine zi_aload_n X dX0_reduce_60 rfl rfl ?_
      refine zi_getf (C := RX0) (T := TX0) (N := 14) (ci := 4) X (by first | assumption | exact mup_self | (rw [mup_ne (by assumption)]; assumption) | (rw [mup_ne (by assumption)]; exact mup_self) | (rw [mup_ne (by assumption), mup_ne (by assumption)]; assumption)) rfl in_X0 6 (by decide) wf_X0_33 rfl rfl dX0_reduce_61 ?_
      refine zi_callVi X (a_isZero l D e4 (k := 160) (by decide)) kc_X1_isZero wm_X0_73 (by first | assumption | exact mup_self | (rw [mup_ne (by assumption)]; assumption) | (rw [mup_ne (by assumption)]; exact mup_self) | (rw [mup_ne (by assumption), mup_ne (by assumption)]; assumption)) rfl wim_X1_isZero wse_X1_isZero ⟨Nat.le_of_ble_eq_true rfl, Nat.le_of_ble_eq_true rfl⟩ rfl rfl (Nat.le_of_ble_eq_true rfl) ⟨Nat.le_of_ble_eq_true rfl, Nat.le_of_ble_eq_true rfl⟩ dX0_reduce_64 (fun x g4 e5 => ?_)
      obtain ⟨rfl, rfl⟩ := e5
      rw [updI_s]
      refine zi_if_eq (tgt := 73) X dX0_reduce_67 (by decide) (fun c_67 => ?_) (fun c_67 => ?_)
      · have hft : ¬ cof Bt j t = 0 := fun q => by rw [if_pos (show Bt (7 * j + t) = 0 from q)] at c_67; exact absurd c_67 (by decide)
        obtain ⟨fac, hfac⟩ : ∃ fac : Int, fac = if B (7 * j2 + s) < 0 then Bt (7 * j + t) else -Bt (7 * j + t) := ⟨_, rfl⟩
        have hfacn : fac.natAbs ≤ Fk := by
          rw [hfac]
          have := hFk t (by omega)
          split
          · exact this
          · rw [Int.natAbs_neg]; exact this
        suffices mid : ∀ B2 g2, hfr S g2 h → hA cA S B2 G Ln g2 → (∀ n, n < 154 → B2 n = Bt n) → B2 159 = (lead : Nat) → B2 160 = fac → zM z 0 0 85 [some (.ref (S 6 0)), some (.ref (S 2 j)), some (.ref (S 2 j2)), some (.int (nI s)), some (.int (bsg (B (7 * j2 + s)))), some (.int (nI t)), o6, o7] [] g2 by
          refine zi_iload X dX0_reduce_73 rfl ?_
          refine zi_if_ne (tgt := 85) X dX0_reduce_75 (by decide) (fun c_75 => ?_) (fun c_75 => ?_)
          · refine mid _ _ (hfr_tr e3 hf) e4 (fun n hn => updI_n (by omega)) (by rw [updI_n (by decide)]; exact hl) ?_
            rw [updI_s, hfac, if_pos (Decidable.not_not.mp (fun q => c_75 ((bsg_z _).mpr q)))]
          · refine zi_aload_n X dX0_reduce_78 rfl rfl ?_
            refine zi_getf (C := RX0) (T := TX0) (N := 14) (ci := 4) X (by first | assumption | exact mup_self | (rw [mup_ne (by assumption)]; assumption) | (rw [mup_ne (by assumption)]; exact mup_self) | (rw [mup_ne (by assumption), mup_ne (by assumption)]; assumption)) rfl in_X0 6 (by decide) wf_X0_33 rfl rfl dX0_reduce_79 ?_
            refine zi_callVv X (a_flip l D e4 (k := 160) (by decide)) kc_X1_flipSign wm_X0_96 (by first | assumption | exact mup_self | (rw [mup_ne (by assumption)]; assumption) | (rw [mup_ne (by assumption)]; exact mup_self) | (rw [mup_ne (by assumption), mup_ne (by assumption)]; assumption)) rfl wim_X1_flipSign wse_X1_flipSign ⟨Nat.le_of_ble_eq_true rfl, Nat.le_of_ble_eq_true rfl⟩ rfl rfl (Nat.le_of_ble_eq_true rfl) ⟨Nat.le_of_ble_eq_true rfl, Nat.le_of_ble_eq_true rfl⟩ dX0_reduce_82 (fun g5 e5 => ?_)
            obtain ⟨e5, e6⟩ := e5
            refine mid _ _ (hfr_tr e5 (hfr_tr e3 hf)) e6 (fun n hn => by rw [updI_n (by omega), updI_n (by omega)]) (by rw [updI_n (by decide), updI_n (by decide)]; exact hl) ?_
            rw [updI_s, updI_s, hfac, if_neg ((bsg_z _).mp c_75)]
        intro B2 g2 hf2 hA2 hB2 hl2 hfc2
        have f1 := (hA2.2.1 j hj).1
        have f2 := (hA2.2.1 j hj).2
        have f3 := (hA2.1 (7 * j + t) (by omega)).1
        refine zi_aload_n X dX0_reduce_85 rfl rfl ?_
        refine zi_getf (C := RX4) (T := TX4) (N := 2) (ci := 8) X (by first | assumption | exact mup_self | (rw [mup_ne (by assumption)]; assumption) | (rw [mup_ne (by assumption)]; exact mup_self) | (rw [mup_ne (by assumption), mup_ne (by assumption)]; assumption)) rfl in_X4 0 (by decide) wf_X0_102 rfl rfl dX0_reduce_86 ?_
        refine zi_iload X dX0_reduce_89 rfl ?_
        refine zi_aaldq X 2 (by first | assumption | exact mup_self | (rw [mup_ne (by assumption)]; assumption) | (rw [mup_ne (by assumption)]; exact mup_self) | (rw [mup_ne (by assumption), mup_ne (by assumption)]; assumption)) rfl (vin (show t < 7 by omega) (by decide)) (pa_at (i := t) (by omega)) dX0_reduce_91 ?_
        refine zi_callVv X (a_clear l D hA2 (k := 7 * j + t) (by omega)) kc_X1_clear wm_X0_116 (by first | assumption | exact mup_self | (rw [mup_ne (by assumption)]; assumption) | (rw [mup_ne (by assumption)]; exact mup_self) | (rw [mup_ne (by assumption), mup_ne (by assumption)]; assumption)) rfl wim_X1_clear wse_X1_clear ⟨Nat.le_of_ble_eq_true rfl, Nat.le_of_ble_eq_true rfl⟩ rfl rfl (Nat.le_of_ble_eq_true rfl) ⟨Nat.le_of_ble_eq_true rfl, Nat.le_of_ble_eq_true rfl⟩ dX0_reduce_92 (fun g3 e7 => ?_)
        obtain ⟨e7, e8⟩ := e7
        refine zi_iconst (v := (nI 0)) X dX0_reduce_95 (by decide) ?_
        refine zi_istore X dX0_reduce_96 (by decide) ?_
        suffices inner : ∀ m i B3 g3 (o7 : Option Value), i + m = t → hfr S g3 h → hA cA S B3 G Ln g3 → (∀ n, n < 154 → ¬ (7 * j ≤ n ∧ n < 7 * j + 7) → B3 n = B n) → B3 159 = (lead : Nat) → B3 160 = fac → (∀ u, u < 7 → B3 (7 * j + u) = if u = t then 0 else if u < i then redS (cof Bt j) (cof B j2) s t u else Bt (7 * j + u)) → zM z 0 0 98 [some (.ref (S 6 0)), some (.ref (S 2 j)), some (.ref (S 2 j2)), some (.int (nI s)), some (.int (bsg (B (7 * j2 + s)))), some (.int (nI t)), some (.int (nI i)), o7] [] g3 from
          zi_sub (by repeat (first | exact trivial | refine And.intro rfl ?_ | refine mSubL_o ?_)) (inner t 0 _ g3 o7 (by omega) (hfr_tr e7 hf2) e8 (fun n hn hn2 => by rw [updI_n (by omega), hB2 n hn]; exact hB1 n hn hn2) (by rw [updI_n (by omega)]; exact hl2) (by rw [updI_n (by omega)]; exact hfc2) (fun u hu => by
            by_cases q : u = t
            · rw [if_pos q, q, updI_s]
            · rw [if_neg q, if_neg (by omega), updI_n (by omega), hB2 _ (by omega)]))
        intro m
        induction m with
        | zero =>
          intro i B3 g3 o7 hi hf3 hA3 hB3 hl3 hfc3 hP3
          have : i = t := by omega
          subst this
          refine zi_iload X dX0_reduce_98 rfl ?_
          refine zi_iload X dX0_reduce_100 rfl ?_
          refine zi_icmp_ge (tgt := 147) X dX0_reduce_102 (by decide) (fun c_102 => ?_) (fun c_102 => (by first | exact absurd (Int32.le_refl _) c_102 | exact absurd c_102 (Int32.le_refl _)))
          refine zi_iinc X dX0_reduce_147 rfl rfl (by decide) ?_
          refine zi_goto (tgt := 40) X dX0_reduce_150 (by decide) ?_
          rw [nI_m1]
          have hcof : ∀ u, u < 7 → cof B3 j u = redS (cof Bt j) (cof B j2) s i u := fun u hu => by
            refine (hP3 u hu).trans ?_
            by_cases q : u = i
            · rw [if_pos q]; unfold redS; rw [if_neg hft]; exact (if_pos q).symm
            · rw [if_neg q]
              by_cases q2 : u < i
              · rw [if_pos q2]
              · rw [if_neg q2]; unfold redS; rw [if_neg hft]; exact ((if_neg q).trans (if_neg q2)).symm
          refine zi_sub (by repeat (first | exact trivial | refine And.intro rfl ?_ | refine mSubL_o ?_)) (ih i B3 g3 (Fk * (2 * H)) (some (.int (nI i))) o7 (by omega) (by omega) hf3 hA3 hB3 hl3 (fun u hu => ?_) ?_ (fun u hu => ?_))
          · rw [show B3 (7 * j + u) = _ from hcof u hu]
            exact redS_le hFk hH (by omega) (by omega) (by omega) hH1 u hu
          · rw [Nat.mul_assoc, Nat.mul_comm (2 * H), ← Nat.pow_succ]; exact hFk2
          · rw [redL_cong (fun _ _ => rfl) (by omega) (by omega) hcof u hu]
            exact hre u hu
        | succ m ihm =>
          intro i B3 g3 o7 hi hf3 hA3 hB3 hl3 hfc3 hP3
          have i0 := hA3.2.2.2.1
          have i1 := (hA3.2.1 j hj).1
          have i2 := (hA3.2.1 j hj).2
          have i3 := (hA3.2.1 j2 hj2).1
          have i4 := (hA3.2.1 j2 hj2).2
          have hBi : B3 (7 * j + i) = Bt (7 * j + i) := by rw [hP3 i (by omega), if_neg (by omega), if_neg (by omega)]
          have hpr : (B3 (7 * j + i)).natAbs * (B3 159).natAbs < BB ^ 19 := by
            rw [hBi, hl3, Int.natAbs_natCast]
            exact Nat.lt_of_le_of_lt (Nat.le_trans (Nat.mul_le_mul (hFk i (by omega)) hleadH) hFkH) hFk2
          have hbel : nI i - (nI t - nI s) = nI i - nI (t - s) := by rw [pk_sub (by omega)]
          have hbi : (nI i - nI (t - s)).toInt = (i : Int) - ((t - s : Nat) : Int) := dS_int (by omega) (by omega)
          have hrs : redS (cof Bt j) (cof B j2) s t i = Bt (7 * j + i) * (lead : Int) + (if i < t - s then 0 else fac * B (7 * j2 + (i - (t - s)))) := by
            unfold redS
            rw [if_neg hft, if_neg (by omega), if_pos (by omega), hfac, hlead]
            rfl
          have nxt : ∀ B4 g4 (o7 : Option Value), hfr S g4 g3 → hA cA S B4 G Ln g4 → (∀ k, k ≠ 7 * j + i → k ≠ 161 → B4 k = B3 k) → B4 (7 * j + i) = redS (cof Bt j) (cof B j2) s t i → zM z 0 0 98 [some (.ref (S 6 0)), some (.ref (S 2 j)), some (.ref (S 2 j2)), some (.int (nI s)), some (.int (bsg (B (7 * j2 + s)))), some (.int (nI t)), some (.int (nI (i + 1))), o7] [] g4 := fun B4 g4 o7 q1 q2 q3 q4 =>
            ihm (i + 1) B4 g4 o7 (by omega) (hfr_tr q1 hf3) q2 (fun n hn hn2 => by rw [q3 n (by omega) (by omega)]; exact hB3 n hn hn2) (by rw [q3 _ (by omega) (by decide)]; exact hl3) (by rw [q3 _ (by omega) (by decide)]; exact hfc3) (fun u hu => by
              by_cases q : u = i
              · rw [q, q4, if_neg (by omega), if_pos (by omega)]
              · rw [q3 _ (by omega) (by omega), hP3 u hu]
                by_cases w : u = t
                · rw [if_pos w, if_pos w]
                · rw [if_neg w, if_neg w]
                  by_cases w2 : u < i
                  · rw [if_pos w2, if_pos (by omega)]
                  · rw [if_neg w2, if_neg (by omega)])
          refine zi_iload X dX0_reduce_98 rfl ?_
          refine zi_iload X dX0_reduce_100 rfl ?_
          refine zi_icmp_ge (tgt := 147) X dX0_reduce_102 (by decide) (fun c_102 => (by first | exact absurd (nI_ge (show i < t by omega) (by omega)) c_102 | exact absurd c_102 (nI_ge (show i < t by omega) (by omega)))) (fun c_102 => ?_)
          refine zi_iload X dX0_reduce_105 rfl ?_
          refine zi_iload X dX0_reduce_107 rfl ?_
          refine zi_iload_n X dX0_reduce_109 rfl rfl ?_
          refine zi_isub X dX0_reduce_110 ?_
          refine zi_isub X dX0_reduce_111 ?_
          refine zi_istore X dX0_reduce_112 (by decide) ?_
          refine zi_aload_n X dX0_reduce_114 rfl rfl ?_
          refine zi_aload_n X dX0_reduce_115 rfl rfl ?_
          refine zi_getf (C := RX4) (T := TX4) (N := 2) (ci := 8) X (by first | assumption | exact mup_self | (rw [mup_ne (by assumption)]; assumption) | (rw [mup_ne (by assumption)]; exact mup_self) | (rw [mup_ne (by assumption), mup_ne (by assumption)]; assumption)) rfl in_X4 0 (by decide) wf_X0_102 rfl rfl dX0_reduce_116 ?_
          refine zi_iload X dX0_reduce_119 rfl ?_
          refine zi_aaldq X 2 (by first | assumption | exact mup_self | (rw [mup_ne (by assumption)]; assumption) | (rw [mup_ne (by assumption)]; exact mup_self) | (rw [mup_ne (by assumption), mup_ne (by assumption)]; assumption)) rfl (vin (show i < 7 by omega) (by decide)) (pa_at (i := i) (by omega)) dX0_reduce_121 ?_
          refine zi_iload X dX0_reduce_122 rfl ?_
          refine zi_if_ge (tgt := 131) X dX0_reduce_124 (by decide) (fun c_124 => ?_) (fun c_124 => ?_)
          · rw [hbel] at c_124 ⊢
            have hge : t - s ≤ i := by
              have := (fa_le _ _).mp c_124
              rw [hbi] at this
              have e0 : (0 : Int32).toInt = 0 := rfl
              omega
            rw [pk_sub hge]
            have hBm : B3 (7 * j2 + (i - (t - s))) = B (7 * j2 + (i - (t - s))) := hB3 _ (by omega) (by omega)
            refine zi_aload_n X dX0_reduce_131 rfl rfl ?_
            refine zi_getf (C := RX4) (T := TX4) (N := 2) (ci := 8) X (by first | assumption | exact mup_self | (rw [mup_ne (by assumption)]; assumption) | (rw [mup_ne (by assumption)]; exact mup_self) | (rw [mup_ne (by assumption), mup_ne (by assumption)]; assumption)) rfl in_X4 0 (by decide) wf_X0_102 rfl rfl dX0_reduce_132 ?_
            refine zi_iload X dX0_reduce_135 rfl ?_
            refine zi_aaldq X 2 (by first | assumption | exact mup_self | (rw [mup_ne (by assumption)]; assumption) | (rw [mup_ne (by assumption)]; exact mup_self) | (rw [mup_ne (by assumption), mup_ne (by assumption)]; assumption)) rfl (vin (show i - (t - s) < 7 by omega) (by decide)) (pa_at (i := i - (t - s)) (by omega)) dX0_reduce_137 ?_
            refine zi_callVv X (p_combine l D hA3 (n := 7 * j + i) (m := 7 * j2 + (i - (t - s))) (by omega) (by omega) (by omega) hpr (by rw [hfc3, hBm]; exact Nat.lt_of_le_of_lt (Nat.le_trans (Nat.mul_le_mul hfacn (hH _ (by omega))) hFkH) hFk2)) kc_X0_combine wm_X0_119 (by first | assumption | exact mup_self | (rw [mup_ne (by assumption)]; assumption) | (rw [mup_ne (by assumption)]; exact mup_self) | (rw [mup_ne (by assumption), mup_ne (by assumption)]; assumption)) rfl wim_X0_combine wse_X0_combine ⟨Nat.le_of_ble_eq_true rfl, Nat.le_of_ble_eq_true rfl⟩ rfl rfl (Nat.le_of_ble_eq_true rfl) ⟨Nat.le_of_ble_eq_true rfl, Nat.le_of_ble_eq_true rfl⟩ dX0_reduce_138 (fun g4 e9 => ?_)
            obtain ⟨e9, B4, w1, w2, w3⟩ := e9
            refine zi_iinc (v := nI (i + 1)) X dX0_reduce_141 rfl (nI_inc _) (by decide) ?_
            refine zi_goto (tgt := 98) X dX0_reduce_144 (by decide) ?_
            refine zi_sub (by repeat (first | exact trivial | refine And.intro rfl ?_ | refine mSubL_o ?_)) (nxt B4 g4 _ e9 w1 w2 ?_)
            rw [w3, hrs, if_neg (by omega), hBi, hl3, hfc3, hBm]
          · rw [hbel] at c_124 ⊢
            have hlt : i < t - s := by
              have this : ¬ (0 : Int32).toInt ≤ (nI i - nI (t - s)).toInt := fun q => c_124 ((fa_le _ _).mpr q)
              rw [hbi] at this
              have e0 : (0 : Int32).toInt = 0 := rfl
              rw [e0] at this
              omega
            refine zi_aconst_null X dX0_reduce_127 ?_
            refine zi_goto (tgt := 138) X dX0_reduce_128 (by decide) ?_
            refine zi_callVv X (p_combineN l D hA3 (n := 7 * j + i) (by omega) hpr) kc_X0_combine wm_X0_119 (by first | assumption | exact mup_self | (rw [mup_ne (by assumption)]; assumption) | (rw [mup_ne (by assumption)]; exact mup_self) | (rw [mup_ne (by assumption), mup_ne (by assumption)]; assumption)) rfl wim_X0_combine wse_X0_combine ⟨Nat.le_of_ble_eq_true rfl, Nat.le_of_ble_eq_true rfl⟩ rfl rfl (Nat.le_of_ble_eq_true rfl) ⟨Nat.le_of_ble_eq_true rfl, Nat.le_of_ble_eq_true rfl⟩ dX0_reduce_138 (fun g4 e9 => ?_)
            obtain ⟨e9, B4, w1, w2, w3⟩ := e9
            refine zi_iinc (v := nI (i + 1)) X dX0_reduce_141 rfl (nI_inc _) (by decide) ?_
            refine zi_goto (tgt := 98) X dX0_reduce_144 (by decide) ?_
            refine zi_sub (by repeat (first | exact trivial | refine And.intro rfl ?_ | refine mSubL_o ?_)) (nxt B4 g4 _ e9 w1 w2 ?_)
            rw [w3, hrs, if_pos hlt, hBi, hl3, Int.add_zero]
      · have hft : cof Bt j t = 0 := by
          by_cases q : Bt (7 * j + t) = 0
          · exact q
          · rw [if_neg q] at c_67; exact absurd rfl c_67
        refine zi_goto (tgt := 147) X dX0_reduce_70 (by decide) ?_
        refine zi_iinc X dX0_reduce_147 rfl rfl (by decide) ?_
        refine zi_goto (tgt := 40) X dX0_reduce_150 (by decide) ?_
        rw [nI_m1]
        have hrs : redS (cof Bt j) (cof B j2) s t = cof Bt j := by unfold redS; rw [if_pos hft]
        rw [hrs] at hre
        refine zi_sub (by repeat (first | exact trivial | refine And.intro rfl ?_ | refine mSubL_o ?_)) (ih t _ _ Fk o6 o7 (by omega) (by omega) (hfr_tr e3 hf) e4 (fun n hn hn2 => by rw [updI_n (by omega)]; exact hB1 n hn hn2) (by rw [updI_n (by decide)]; exact hl) (fun i hi => by rw [updI_n (by omega)]; exact hFk i hi) ?_ (fun i hi => ?_))
        · refine Nat.lt_of_le_of_lt (Nat.mul_le_mul_left Fk (Nat.pow_le_pow_right (by omega) (Nat.le_succ k))) hFk2
        · rw [← hre i hi]
          exact redL_cong (fun _ _ => rfl) (by omega) (by omega) (fun u hu => updI_n (by omega)) i hi
  · have hg0 : G j2 = 0 := (dI_neg (by omega)).mp (Int32.not_le.mp c_6)
    have hred : red (cof B j) (cof B j2) = cof B j := by
      unfold red
      rw [← hG2, if_pos hg0]
    refine zi_return X Vz dX0_reduce_9 ?_
    refine ⟨hfr_rf S h, B, ?_, fun _ _ _ => rfl, fun i hi => by rw [hred]; rfl⟩
    rw [hred, ← hG]
    exact hA_cong hh (fun _ _ => rfl) (fun k _ => by
      unfold updN
      split
      · next q => rw [q]
      · rfl)
theorem q_reduce (l : Launch) (D : va_G) (hh : hP cA S P G Ln h) {j j2 F H : Nat} (hj : j < 22) (hj2 : j2 < 22) (hne : j2 ≠ j) (hG : G j = stI (P j) 7) (hG2 : G j2 = stI (P j2) 7) (hF : ∀ i, i < 7 → (P j i).natAbs ≤ F) (hH : ∀ i, i < 7 → (P j2 i).natAbs ≤ H) (hH1 : 1 ≤ H) (hFH : F * (2 * H) ^ (G j + 1 - G j2) < BB ^ 19) :
    mCv l yX0_reduce cX0_reduce 8 (rmd 4) D (mT cA) [.ref (S 6 0), .ref (S 2 j), .ref (S 2 j2)] h (fun h1 => hfr S h1 h ∧ hP cA S (updP P j (red (P j) (P j2))) (updN G j (stI (red (P j) (P j2)) 7)) Ln h1) := by
  obtain ⟨B, h1, h2⟩ := hh
  have hc : ∀ i, i < 7 → cof B j i = P j i := fun i hi => h2 j hj i hi
  have hc2 : ∀ i, i < 7 → cof B j2 i = P j2 i := fun i hi => h2 j2 hj2 i hi
  refine mSub_v (p_reduce l D h1 hj hj2 hne (by rw [hG]; exact (stI_cong hc).symm) (by rw [hG2]; exact (stI_cong hc2).symm) (fun i hi => by rw [h2 j hj i hi]; exact hF i hi) (fun i hi => by rw [h2 j2 hj2 i hi]; exact hH i hi) hH1 hFH) (fun g e => ?_)
  obtain ⟨e1, B', e2, e3, e4⟩ := e
  rw [stI_cong (red_cong hc hc2)] at e2
  refine ⟨e1, B', e2, fun k hk i hi => ?_⟩
  unfold updP
  by_cases q : k = j
  · subst q
    rw [if_pos rfl, e4 i hi]
    exact red_cong hc hc2 i hi
  · rw [if_neg q, e3 _ (by omega) (by omega)]
    exact h2 k hk i hi
end ALG8
