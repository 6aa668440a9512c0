/-! SturmRoots$Algebra: writeQuotient -/
def quoD (f g : Nat → Int) (s n : Nat) : Int := (f (n + s)).tdiv (g s)
def quoF (f g : Nat → Int) (s n : Nat) : Nat → Int := fun i => if n ≤ i ∧ i ≤ n + s then f i - quoD f g s n * g (i - n) else f i
def quoL (g : Nat → Int) (s : Nat) : Nat → (Nat → Int) → (Nat → Int) → Nat → Int
  | 0, _, e => e
  | n + 1, f, e => quoL g s n (quoF f g s n) (updI e n (quoD f g s n))
def quoP (a b : Nat → Int) : Nat → Int := if stI b 7 = 0 then fun _ => 0 else mkpos (prm (quoL b (stI b 7 - 1) (stI a 7 + 1 - stI b 7) a (fun _ => 0)))
theorem quoL_cong {g g' : Nat → Int} {s : Nat} (hg : ∀ i, i < 7 → g i = g' i) (hs : s < 7) : ∀ {n : Nat} {f f' e e' : Nat → Int}, n + s ≤ 7 → (∀ i, i < 7 → f i = f' i) → (∀ i, i < 7 → e i = e' i) → ∀ i, i < 7 → quoL g s n f e i = quoL g' s n f' e' i
  | 0, f, f', e, e', _, _, he, i, hi => he i hi
  | n + 1, f, f', e, e', h, hf, he, i, hi => by
    have hD : quoD f g s n = quoD f' g' s n := by unfold quoD; rw [hf _ (by omega), hg s hs]
    refine quoL_cong (f := quoF f g s n) (f' := quoF f' g' s n) (e := updI e n (quoD f g s n)) (e' := updI e' n (quoD f' g' s n)) hg hs (by omega) (fun u hu => ?_) (fun u hu => ?_) i hi
    · unfold quoF
      rw [hD, hf u hu]
      split
      · rw [hg _ (by omega)]
      · rfl
    · unfold updI
      rw [hD, he u hu]
theorem prm_cong {p q : Nat → Int} (h : ∀ i, i < 7 → p i = q i) {i : Nat} (hi : i < 7) : prm p i = prm q i := by
  unfold prm
  rw [h i hi, cont_cong h]
theorem mkpos_cong {p q : Nat → Int} (h : ∀ i, i < 7 → p i = q i) {i : Nat} (hi : i < 7) : mkpos p i = mkpos q i := by
  have h1 := stI_le q 7
  unfold mkpos ldI
  rw [stI_cong h, h (stI q 7 - 1) (by omega), h i hi]
section ALG10
variable {cA : Nat → ClassId} {S : Nat → Nat → Nat} {B : Nat → Int} {P : Nat → Nat → Int} {G Ln : Nat → Nat} {h : mH}
theorem q_writeQuotient (l : Launch) (D : va_G) (hh : hP cA S P G Ln h) {a b c F H : Nat} (ha : a < 22 ∧ a ≠ 10) (hb : b < 22 ∧ b ≠ 10) (hc : c < 22 ∧ c ≠ 10) (hca : c ≠ a) (hcb : c ≠ b) (hGa : G a = stI (P a) 7) (hGb : G b = stI (P b) 7) (hGc : G c = stI (P c) 7) (hab : G b = 0 ∨ G b ≤ G a) (hF : ∀ i, i < 7 → (P a i).natAbs ≤ F) (hH : ∀ i, i < 7 → (P b i).natAbs ≤ H) (hFH : F * (1 + H) ^ (G a + 1 - G b) < BB ^ 18) :
    mCv l yX0_writeQuotient cX0_writeQuotient 8 (rmd 5) D (mT cA) [.ref (S 6 0), .ref (S 2 a), .ref (S 2 b), .ref (S 2 c)] h (fun h1 => hfr S h1 h ∧ ∃ P' G', hP cA S P' G' Ln h1 ∧ upTo [10, c] P' P G' G ∧ P' c = quoP (P a) (P b) ∧ G' c = stI (quoP (P a) (P b)) 7) := by
  refine mEnter_v (by decide) (Nat.le_of_ble_eq_true rfl) rfl (fun z X Vz => ?_)
  have hGa7 := stI_le (P a) 7
  have hGb7 := stI_le (P b) 7
  have hGc7 := stI_le (P c) 7
  rw [← hGa] at hGa7
  rw [← hGb] at hGb7
  rw [← hGc] at hGc7
  have a3 := (hP_p hh hb.1).1
  refine zi_aload_n X dX0_writeQuotient_0 rfl rfl ?_
  refine zi_getf (C := RX4) (T := TX4) (N := 2) (ci := 8) X (by first | assumption | exact mup_self | (rw [mup_ne (by assumption)]; assumption) | (rw [mup_ne (by assumption)]; exact mup_self) | (rw [mup_ne (by assumption), mup_ne (by assumption)]; assumption)) rfl in_X4 1 (by decide) wf_X0_99 rfl rfl dX0_writeQuotient_1 ?_
  refine zi_istore X dX0_writeQuotient_4 (by decide) ?_
  refine zi_aload_n X dX0_writeQuotient_6 rfl rfl ?_
  refine zi_callVv X (q_clear l D hh (j := c) hc.1 hGc7) kc_X4_clear wm_X0_151 ((hP_p hh hc.1).1) rfl wim_X4_clear wse_X4_clear ⟨Nat.le_of_ble_eq_true rfl, Nat.le_of_ble_eq_true rfl⟩ rfl rfl (Nat.le_of_ble_eq_true rfl) ⟨Nat.le_of_ble_eq_true rfl, Nat.le_of_ble_eq_true rfl⟩ dX0_writeQuotient_7 (fun g1 e1 => ?_)
  obtain ⟨e1, h1⟩ := e1
  have h1 : hP cA S (updP P c (fun _ => 0)) (updN G c 0) Ln g1 := hP_cong h1 (fun k _ i hi => by
    unfold updP
    split
    · dsimp only
      split
      · rfl
      · exact stI_z (p := P c) (n := 7) (by omega) hi
    · rfl) (fun _ _ => rfl)
  have u1 : upTo [10, c] (updP P c (fun _ => 0)) P (updN G c 0) G := upTo_up (by simp) (upTo_rf _ _ _)
  refine zi_iload X dX0_writeQuotient_10 rfl ?_
  refine zi_if_ge (tgt := 16) X dX0_writeQuotient_12 (by decide) (fun c_12 => ?_) (fun c_12 => ?_)
  · obtain ⟨s, hs⟩ : ∃ s, G b = s + 1 := ⟨G b - 1, by
      have h3 : ¬ G b = 0 := fun q => Int32.not_lt.mpr c_12 ((dI_neg (by omega)).mpr q)
      omega⟩
    have e : nI (G b) - nI 1 = nI s := by rw [hs, nI_pr]
    rw [e]
    obtain ⟨t, ht⟩ : ∃ t, G a = s + t + 1 := ⟨G a - s - 1, by omega⟩
    have hquo : quoP (P a) (P b) = mkpos (prm (quoL (P b) s (t + 1) (P a) (fun _ => 0))) := by
      unfold quoP
      rw [← hGb, ← hGa, hs, if_neg (by omega), show G a + 1 - (s + 1) = t + 1 by omega]
      rfl
    rw [show G a + 1 - G b = t + 1 by omega] at hFH
    have b0 := hP_a h1
    have b1 := (hP_p h1 (j := 10) (by decide)).1
    have b2 := (hP_p h1 ha.1).1
    rw [updN_n hca.symm] at b2
    refine zi_aload_n X dX0_writeQuotient_16 rfl rfl ?_
    refine zi_getf (C := RX0) (T := TX0) (N := 14) (ci := 4) X (by first | assumption | exact mup_self | (rw [mup_ne (by assumption)]; assumption) | (rw [mup_ne (by assumption)]; exact mup_self) | (rw [mup_ne (by assumption), mup_ne (by assumption)]; assumption)) rfl in_X0 10 (by decide) wf_X0_48 rfl rfl dX0_writeQuotient_17 ?_
    refine zi_aload_n X dX0_writeQuotient_20 rfl rfl ?_
    refine zi_callVv X (q_become l D h1 (j := 10) (j2 := a) (by decide) ha.1 ha.2) kc_X4_become wm_X0_131 (by first | assumption | exact mup_self | (rw [mup_ne (by assumption)]; assumption) | (rw [mup_ne (by assumption)]; exact mup_self) | (rw [mup_ne (by assumption), mup_ne (by assumption)]; assumption)) rfl wim_X4_become wse_X4_become ⟨Nat.le_of_ble_eq_true rfl, Nat.le_of_ble_eq_true rfl⟩ rfl rfl (Nat.le_of_ble_eq_true rfl) ⟨Nat.le_of_ble_eq_true rfl, Nat.le_of_ble_eq_true rfl⟩ dX0_writeQuotient_21 (fun g2 e2 => ?_)
    obtain ⟨e2, h2⟩ := e2
    rw [updP_n hca.symm, updN_n hca.symm] at h2
    have b2 := (hP_p h2 ha.1).1
    rw [updN_n ha.2, updN_n hca.symm] at b2
    refine zi_aload_n X dX0_writeQuotient_24 rfl rfl ?_
    refine zi_getf (C := RX4) (T := TX4) (N := 2) (ci := 8) X (by first | assumption | exact mup_self | (rw [mup_ne (by assumption)]; assumption) | (rw [mup_ne (by assumption)]; exact mup_self) | (rw [mup_ne (by assumption), mup_ne (by assumption)]; assumption)) rfl in_X4 1 (by decide) wf_X0_99 rfl rfl dX0_writeQuotient_25 ?_
    refine zi_iload X dX0_writeQuotient_28 rfl ?_
    refine zi_isub X dX0_writeQuotient_30 ?_
    refine zi_istore X dX0_writeQuotient_31 (by decide) ?_
    rw [ht, nI_pr, pk_sub (by omega), show s + t - s = t by omega]
    obtain ⟨Bs, hBs, hBe⟩ := h2
    have hE : ∀ k, k < 22 → k ≠ 10 → k ≠ c → ∀ i, i < 7 → Bs (7 * k + i) = P k i := fun k hk k1 k2 i hi => by
      rw [hBe k hk i hi, updP_n k1, updP_n k2]
    obtain ⟨G2, hG2⟩ : ∃ G2, G2 = updN (updN G c 0) 10 (G a) := ⟨_, rfl⟩
    rw [← hG2] at hBs
    obtain ⟨E, hEE⟩ : ∃ E, E = quoL (P b) s (t + 1) (P a) (fun _ => 0) := ⟨_, rfl⟩
    suffices key : ∀ n Bt gg (Fk : Nat) (o6 o7 : Option Value), n ≤ t + 1 → hfr S gg h → hA cA S Bt G2 Ln gg → (∀ k, k < 22 → k ≠ 10 → k ≠ c → ∀ i, i < 7 → Bt (7 * k + i) = P k i) → (∀ i, i < 7 → (Bt (70 + i)).natAbs ≤ Fk) → Fk * (1 + H) ^ n < BB ^ 18 → (∀ i, i < 7 → (Bt (7 * c + i)).natAbs < BB ^ 18) → (∀ i, i < 7 → quoL (P b) s n (fun i => Bt (70 + i)) (fun i => Bt (7 * c + i)) i = E i) → zM z 0 0 33 [some (.ref (S 6 0)), some (.ref (S 2 a)), some (.ref (S 2 b)), some (.ref (S 2 c)), some (.int (nI s)), some (.int (nI n - nI 1)), o6, o7] [] gg by
      rw [show nI t = nI (t + 1) - nI 1 from (nI_pr t).symm]
      refine zi_sub (by repeat (first | exact trivial | refine And.intro rfl ?_ | refine mSubL_o ?_)) (key (t + 1) Bs g2 F none none (Nat.le_refl _) (hfr_tr e2 e1) hBs hE (fun i hi => ?_) hFH (fun i hi => ?_) (fun i hi => ?_))
      · rw [show Bs (70 + i) = P a i by rw [hBe 10 (by decide) i hi, updP_s]]
        exact hF i hi
      · rw [show Bs (7 * c + i) = 0 by rw [hBe c hc.1 i hi, updP_n hc.2, updP_s]]
        exact BB_pos 18
      · rw [hEE]
        refine quoL_cong (fun _ _ => rfl) (by omega) (by omega) (fun u hu => ?_) (fun u hu => ?_) i hi
        · rw [hBe 10 (by decide) u hu, updP_s]
        · rw [hBe c hc.1 u hu, updP_n hc.2, updP_s]
    intro n
    induction n with
    | zero =>
      intro Bt gg Fk o6 o7 hn hf hA1 hB1 hFk hFk2 hEk hq
      have hEq : ∀ i, i < 7 → Bt (7 * c + i) = E i := hq
      refine zi_iload X dX0_writeQuotient_33 rfl ?_
      refine zi_if_lt (tgt := 143) X dX0_writeQuotient_35 (by decide) (fun c_35 => ?_) (fun c_35 => (by first | exact absurd ((dI_neg (by decide)).mpr rfl) c_35 | exact absurd c_35 ((dI_neg (by decide)).mpr rfl)))
      have hP1 : hP cA S (updP (fun k i => if k = 10 then Bt (70 + i) else P k i) c E) G2 Ln gg := ⟨Bt, hA1, fun k hk i hi => by
        unfold updP
        by_cases q1 : k = c
        · rw [if_pos q1, q1]; exact hEq i hi
        · rw [if_neg q1]
          dsimp only
          by_cases q2 : k = 10
          · rw [if_pos q2, q2]
          · rw [if_neg q2]; exact hB1 k hk q2 q1 i hi⟩
      have hup : upTo [10, c] (updP (fun k i => if k = 10 then Bt (70 + i) else P k i) c E) P G2 G := fun k hk => by
        have k1 : k ≠ 10 := fun q => hk (by rw [q]; simp)
        have k2 : k ≠ c := fun q => hk (by rw [q]; simp)
        rw [updP_n k2, hG2, updN_n k1, updN_n k2]
        exact ⟨funext fun i => if_neg k1, rfl⟩
      refine zi_aload_n X dX0_writeQuotient_143 rfl rfl ?_
      refine zi_callVv X (q_settle l D hP1 (j := c) hc.1) kc_X4_settle wm_X0_122 ((hP_p hP1 hc.1).1) rfl wim_X4_settle wse_X4_settle ⟨Nat.le_of_ble_eq_true rfl, Nat.le_of_ble_eq_true rfl⟩ rfl rfl (Nat.le_of_ble_eq_true rfl) ⟨Nat.le_of_ble_eq_true rfl, Nat.le_of_ble_eq_true rfl⟩ dX0_writeQuotient_144 (fun g3 e3 => ?_)
      obtain ⟨e3, h3⟩ := e3
      rw [updP_s] at h3
      refine zi_aload_n X dX0_writeQuotient_147 rfl rfl ?_
      refine zi_aload_n X dX0_writeQuotient_148 rfl rfl ?_
      refine zi_callVv X (q_makePrimitive l D h3 (j := c) hc.1 (by rw [updN_s, updP_s]) (fun i hi => by rw [updP_s, ← hEq i hi]; exact hEk i hi)) kc_X0_makePrimitive wm_X0_134 (hP_a h3) rfl wim_X0_makePrimitive wse_X0_makePrimitive ⟨Nat.le_of_ble_eq_true rfl, Nat.le_of_ble_eq_true rfl⟩ rfl rfl (Nat.le_of_ble_eq_true rfl) ⟨Nat.le_of_ble_eq_true rfl, Nat.le_of_ble_eq_true rfl⟩ dX0_writeQuotient_149 (fun g4 e4 => ?_)
      obtain ⟨e4, h4⟩ := e4
      rw [updP_s, updP_updP] at h4
      refine zi_aload_n X dX0_writeQuotient_152 rfl rfl ?_
      refine zi_callVv X (q_makeLeadPositive l D h4 (j := c) hc.1 (by rw [updN_s, updP_s, stI_prm])) kc_X4_makeLeadPositive wm_X0_141 ((hP_p h4 hc.1).1) rfl wim_X4_makeLeadPositive wse_X4_makeLeadPositive ⟨Nat.le_of_ble_eq_true rfl, Nat.le_of_ble_eq_true rfl⟩ rfl rfl (Nat.le_of_ble_eq_true rfl) ⟨Nat.le_of_ble_eq_true rfl, Nat.le_of_ble_eq_true rfl⟩ dX0_writeQuotient_153 (fun g5 e5 => ?_)
      obtain ⟨e5, h5⟩ := e5
      rw [updP_s, updP_updP] at h5
      refine zi_return X Vz dX0_writeQuotient_156 ?_
      refine ⟨hfr_tr e5 (hfr_tr e4 (hfr_tr e3 hf)), _, _, h5, ?_, ?_, ?_⟩
      · have := upTo_up (j := c) (p := mkpos (prm E)) (g := stI E 7) (by simp) hup
        rw [updP_updP] at this
        exact this
      · rw [updP_s, hquo, ← hEE]
      · rw [updN_s, hquo, ← hEE, stI_mkpos, stI_prm]
    | succ n ih =>
      intro Bt gg Fk o6 o7 hn hf hA1 hB1 hFk hFk2 hEk hq
      have c0 := hA1.2.2.2.1
      have c1 := (hA1.2.1 10 (by decide)).1
      have c2 := (hA1.2.1 10 (by decide)).2
      have c3 := (hA1.2.1 b hb.1).1
      have c4 := (hA1.2.1 b hb.1).2
      have c5 := (hA1.2.1 c hc.1).1
      have c6 := (hA1.2.1 c hc.1).2
      have c7 := (hA1.1 (7 * c + n) (by omega)).1
      obtain ⟨d, hd⟩ : ∃ d, d = quoD (fun i => Bt (70 + i)) (P b) s n := ⟨_, rfl⟩
      have hFk1 : Fk * 1 ≤ Fk * (1 + H) := Nat.mul_le_mul_left Fk (by omega)
      have hFk3 : Fk * (1 + H) ≤ Fk * (1 + H) ^ (n + 1) := Nat.mul_le_mul_left Fk (by rw [Nat.pow_succ]; exact Nat.le_mul_of_pos_left _ (Nat.pow_pos (by omega)))
      have hFk4 : Fk * (1 + H) = Fk + Fk * H := by rw [Nat.mul_add, Nat.mul_one]
      have hdn : d.natAbs ≤ Fk := by
        rw [hd]
        unfold quoD
        rw [Int.natAbs_tdiv]
        exact Nat.le_trans (Nat.div_le_self _ _) (hFk _ (by omega))
      have hp19 : BB ^ 18 ≤ BB ^ 19 := Nat.pow_le_pow_right (by decide) (by decide)
      rw [nI_pr]
      refine zi_iload X dX0_writeQuotient_33 rfl ?_
      refine zi_if_lt (tgt := 143) X dX0_writeQuotient_35 (by decide) (fun c_35 => (by first | exact absurd (fun q => Int32.not_lt.mpr (nI_le (show 0 ≤ n by omega) (by omega)) q) c_35 | exact absurd c_35 (fun q => Int32.not_lt.mpr (nI_le (show 0 ≤ n by omega) (by omega)) q))) (fun c_35 => ?_)
      refine zi_aload_n X dX0_writeQuotient_38 rfl rfl ?_
      refine zi_getf (C := RX4) (T := TX4) (N := 2) (ci := 8) X (by first | assumption | exact mup_self | (rw [mup_ne (by assumption)]; assumption) | (rw [mup_ne (by assumption)]; exact mup_self) | (rw [mup_ne (by assumption), mup_ne (by assumption)]; assumption)) rfl in_X4 0 (by decide) wf_X0_102 rfl rfl dX0_writeQuotient_39 ?_
      refine zi_iload X dX0_writeQuotient_42 rfl ?_
      refine zi_aaldq X 2 (by first | assumption | exact mup_self | (rw [mup_ne (by assumption)]; assumption) | (rw [mup_ne (by assumption)]; exact mup_self) | (rw [mup_ne (by assumption), mup_ne (by assumption)]; assumption)) rfl (vin (show n < 7 by omega) (by decide)) (pa_at (i := n) (by omega)) dX0_writeQuotient_44 ?_
      refine zi_astore X dX0_writeQuotient_45 (by decide) ?_
      refine zi_aload X dX0_writeQuotient_47 rfl ?_
      refine zi_aload_n X dX0_writeQuotient_49 rfl rfl ?_
      refine zi_getf (C := RX0) (T := TX0) (N := 14) (ci := 4) X (by first | assumption | exact mup_self | (rw [mup_ne (by assumption)]; assumption) | (rw [mup_ne (by assumption)]; exact mup_self) | (rw [mup_ne (by assumption), mup_ne (by assumption)]; assumption)) rfl in_X0 10 (by decide) wf_X0_48 rfl rfl dX0_writeQuotient_50 ?_
      refine zi_getf (C := RX4) (T := TX4) (N := 2) (ci := 8) X (by first | assumption | exact mup_self | (rw [mup_ne (by assumption)]; assumption) | (rw [mup_ne (by assumption)]; exact mup_self) | (rw [mup_ne (by assumption), mup_ne (by assumption)]; assumption)) rfl in_X4 0 (by decide) wf_X0_102 rfl rfl dX0_writeQuotient_53 ?_
      refine zi_iload X dX0_writeQuotient_56 rfl ?_
      refine zi_iload X dX0_writeQuotient_58 rfl ?_
      refine zi_iadd X dX0_writeQuotient_60 ?_
      refine zi_aaldq X 2 (by first | assumption | exact mup_self | (rw [mup_ne (by assumption)]; assumption) | (rw [mup_ne (by assumption)]; exact mup_self) | (rw [mup_ne (by assumption), mup_ne (by assumption)]; assumption)) rfl (by rw [nI_add]; exact vin (show n + s < 7 by omega) (by decide)) (by rw [nI_add]; exact pa_at (j := 10) (i := n + s) (by omega)) dX0_writeQuotient_61 ?_
      refine zi_callVv X (a_become l D hA1 (k := 7 * c + n) (n := 70 + (n + s)) (by omega) (by omega) (by omega)) kc_X1_become wm_X0_77 (by first | assumption | exact mup_self | (rw [mup_ne (by assumption)]; assumption) | (rw [mup_ne (by assumption)]; exact mup_self) | (rw [mup_ne (by assumption), mup_ne (by assumption)]; assumption)) rfl wim_X1_become wse_X1_become ⟨Nat.le_of_ble_eq_true rfl, Nat.le_of_ble_eq_true rfl⟩ rfl rfl (Nat.le_of_ble_eq_true rfl) ⟨Nat.le_of_ble_eq_true rfl, Nat.le_of_ble_eq_true rfl⟩ dX0_writeQuotient_62 (fun g3 e3 => ?_)
      obtain ⟨e3, h3⟩ := e3
      have d0 := h3.2.2.2.1
      have d3 := (h3.2.1 b hb.1).1
      have d4 := (h3.2.1 b hb.1).2
      have d5 := (h3.1 (7 * c + n) (by omega)).1
      have v1 : updI Bt (7 * c + n) (Bt (70 + (n + s))) (7 * b + s) = P b s := by rw [updI_n (by omega)]; exact hB1 b hb.1 hb.2 hcb.symm s (by omega)
      refine zi_aload_n X dX0_writeQuotient_65 rfl rfl ?_
      refine zi_aload X dX0_writeQuotient_66 rfl ?_
      refine zi_aload_n X dX0_writeQuotient_68 rfl rfl ?_
      refine zi_getf (C := RX4) (T := TX4) (N := 2) (ci := 8) X (by first | assumption | exact mup_self | (rw [mup_ne (by assumption)]; assumption) | (rw [mup_ne (by assumption)]; exact mup_self) | (rw [mup_ne (by assumption), mup_ne (by assumption)]; assumption)) rfl in_X4 0 (by decide) wf_X0_102 rfl rfl dX0_writeQuotient_69 ?_
      refine zi_iload X dX0_writeQuotient_72 rfl ?_
      refine zi_aaldq X 2 (by first | assumption | exact mup_self | (rw [mup_ne (by assumption)]; assumption) | (rw [mup_ne (by assumption)]; exact mup_self) | (rw [mup_ne (by assumption), mup_ne (by assumption)]; assumption)) rfl (vin (show s < 7 by omega) (by decide)) (pa_at (i := s) (by omega)) dX0_writeQuotient_74 ?_
      refine zi_callVv X (p_divideExactly l D h3 (n := 7 * c + n) (m := 7 * b + s) (by omega) (by omega) (by omega) (by rw [updI_s]; exact Nat.lt_of_le_of_lt (hFk _ (by omega)) (by omega))) kc_X0_divideExactly wm_X0_112 (by first | assumption | exact mup_self | (rw [mup_ne (by assumption)]; assumption) | (rw [mup_ne (by assumption)]; exact mup_self) | (rw [mup_ne (by assumption), mup_ne (by assumption)]; assumption)) rfl wim_X0_divideExactly wse_X0_divideExactly ⟨Nat.le_of_ble_eq_true rfl, Nat.le_of_ble_eq_true rfl⟩ rfl rfl (Nat.le_of_ble_eq_true rfl) ⟨Nat.le_of_ble_eq_true rfl, Nat.le_of_ble_eq_true rfl⟩ dX0_writeQuotient_75 (fun g4 e4 => ?_)
      obtain ⟨e4, B4, h4, w1, w2⟩ := e4
      rw [updI_s, v1] at w2
      have w2 : B4 (7 * c + n) = d := w2.trans hd.symm
      have w3 : ∀ k, k ≠ 7 * c + n → k ≠ 156 → k ≠ 157 → B4 k = Bt k := fun k k1 k2 k3 => by rw [w1 k k1 k2 k3, updI_n k1]
      refine zi_iconst (v := (nI 0)) X dX0_writeQuotient_78 (by decide) ?_
      refine zi_istore X dX0_writeQuotient_79 (by decide) ?_
      suffices inner : ∀ m i B5 g5, i + m = s + 1 → hfr S g5 h → hA cA S B5 G2 Ln g5 → (∀ k, k < 22 → k ≠ 10 → k ≠ c → ∀ u, u < 7 → B5 (7 * k + u) = P k u) → (∀ u, u < 7 → B5 (70 + u) = if n ≤ u ∧ u < n + i then Bt (70 + u) - d * P b (u - n) else Bt (70 + u)) → (∀ u, u < 7 → B5 (7 * c + u) = if u = n then d else Bt (7 * c + u)) → zM z 0 0 81 [some (.ref (S 6 0)), some (.ref (S 2 a)), some (.ref (S 2 b)), some (.ref (S 2 c)), some (.int (nI s)), some (.int (nI n)), some (.ref (S 0 (7 * c + n))), some (.int (nI i))] [] g5 from
        zi_sub (by repeat (first | exact trivial | refine And.intro rfl ?_ | refine mSubL_o ?_)) (inner (s + 1) 0 B4 g4 (by omega) (hfr_tr e4 (hfr_tr e3 hf)) h4 (fun k hk k1 k2 u hu => by rw [w3 _ (by omega) (by omega) (by omega)]; exact hB1 k hk k1 k2 u hu) (fun u hu => by rw [if_neg (by omega)]; exact w3 _ (by omega) (by omega) (by omega)) (fun u hu => by
          by_cases q : u = n
          · rw [if_pos q, q]; exact w2
          · rw [if_neg q]; exact w3 _ (by omega) (by omega) (by omega)))
      intro m
      induction m with
      | zero =>
        intro i B5 g5 hi hf5 hA5 hB5 hL5 hC5
        have : i = s + 1 := by omega
        subst this
        refine zi_iload X dX0_writeQuotient_81 rfl ?_
        refine zi_iload X dX0_writeQuotient_83 rfl ?_
        refine zi_icmp_gt (tgt := 137) X dX0_writeQuotient_85 (by decide) (fun c_85 => ?_) (fun c_85 => (by first | exact absurd (nI_lt (show s < s + 1 by omega) (by omega)) c_85 | exact absurd c_85 (nI_lt (show s < s + 1 by omega) (by omega))))
        refine zi_iinc X dX0_writeQuotient_137 rfl rfl (by decide) ?_
        refine zi_goto (tgt := 33) X dX0_writeQuotient_140 (by decide) ?_
        rw [nI_m1]
        refine zi_sub (by repeat (first | exact trivial | refine And.intro rfl ?_ | refine mSubL_o ?_)) (ih B5 g5 (Fk * (1 + H)) _ _ (by omega) hf5 hA5 hB5 (fun u hu => ?_) ?_ (fun u hu => ?_) (fun u hu => ?_))
        · rw [hL5 u hu]
          have := hFk u hu
          split
          · have h7 : (d * P b (u - n)).natAbs ≤ Fk * H := by rw [Int.natAbs_mul]; exact Nat.mul_le_mul hdn (hH _ (by omega))
            have h8 : (Bt (70 + u) - d * P b (u - n)).natAbs ≤ (Bt (70 + u)).natAbs + (d * P b (u - n)).natAbs := Int.natAbs_sub_le _ _
            omega
          · omega
        · rw [Nat.mul_assoc, Nat.mul_comm (1 + H), ← Nat.pow_succ]; exact hFk2
        · rw [hC5 u hu]
          split
          · omega
          · exact hEk u hu
        · rw [← hq u hu, quoL]
          refine quoL_cong (fun _ _ => rfl) (by omega) (by omega) (fun v hv => ?_) (fun v hv => ?_) u hu
          · rw [hL5 v hv]
            unfold quoF
            rw [← hd]
            by_cases q : n ≤ v ∧ v ≤ n + s
            · rw [if_pos q, if_pos (by omega)]
            · rw [if_neg q, if_neg (by omega)]
          · rw [hC5 v hv]
            unfold updI
            rw [← hd]
      | succ m ihm =>
        intro i B5 g5 hi hf5 hA5 hB5 hL5 hC5
        have i0 := hA5.2.2.2.1
        have i1 := (hA5.2.1 10 (by decide)).1
        have i2 := (hA5.2.1 10 (by decide)).2
        have i3 := (hA5.2.1 b hb.1).1
        have i4 := (hA5.2.1 b hb.1).2
        have i5 := (hA5.1 161 (by decide)).1
        have hdc : B5 (7 * c + n) = d := by rw [hC5 n (by omega), if_pos rfl]
        have hbi : B5 (7 * b + i) = P b i := hB5 b hb.1 hb.2 hcb.symm i (by omega)
        have hli : B5 (70 + (n + i)) = Bt (70 + (n + i)) := by rw [hL5 _ (by omega), if_neg (by omega)]
        have h7 : d.natAbs * (P b i).natAbs ≤ Fk * H := Nat.mul_le_mul hdn (hH _ (by omega))
        refine zi_iload X dX0_writeQuotient_81 rfl ?_
        refine zi_iload X dX0_writeQuotient_83 rfl ?_
        refine zi_icmp_gt (tgt := 137) X dX0_writeQuotient_85 (by decide) (fun c_85 => (by first | exact absurd (fun q => absurd ((nI_ltI (by omega) (by omega)).mp q) (show ¬ s < i by omega)) c_85 | exact absurd c_85 (fun q => absurd ((nI_ltI (by omega) (by omega)).mp q) (show ¬ s < i by omega)))) (fun c_85 => ?_)
        refine zi_aload_n X dX0_writeQuotient_88 rfl rfl ?_
        refine zi_getf (C := RX0) (T := TX0) (N := 14) (ci := 4) X (by first | assumption | exact mup_self | (rw [mup_ne (by assumption)]; assumption) | (rw [mup_ne (by assumption)]; exact mup_self) | (rw [mup_ne (by assumption), mup_ne (by assumption)]; assumption)) rfl in_X0 7 (by decide) wf_X0_36 rfl rfl dX0_writeQuotient_89 ?_
        refine zi_aload X dX0_writeQuotient_92 rfl ?_
        refine zi_aload_n X dX0_writeQuotient_94 rfl rfl ?_
        refine zi_getf (C := RX4) (T := TX4) (N := 2) (ci := 8) X (by first | assumption | exact mup_self | (rw [mup_ne (by assumption)]; assumption) | (rw [mup_ne (by assumption)]; exact mup_self) | (rw [mup_ne (by assumption), mup_ne (by assumption)]; assumption)) rfl in_X4 0 (by decide) wf_X0_102 rfl rfl dX0_writeQuotient_95 ?_
        refine zi_iload X dX0_writeQuotient_98 rfl ?_
        refine zi_aaldq X 2 (by first | assumption | exact mup_self | (rw [mup_ne (by assumption)]; assumption) | (rw [mup_ne (by assumption)]; exact mup_self) | (rw [mup_ne (by assumption), mup_ne (by assumption)]; assumption)) rfl (vin (show i < 7 by omega) (by decide)) (pa_at (i := i) (by omega)) dX0_writeQuotient_100 ?_
        refine zi_callVv X (a_product l D hA5 (k := 161) (n := 7 * c + n) (m := 7 * b + i) (by decide) (by omega) (by omega) (by omega) (by omega) (by rw [hdc, hbi]; omega)) kc_X1_becomeProduct wm_X0_125 (by first | assumption | exact mup_self | (rw [mup_ne (by assumption)]; assumption) | (rw [mup_ne (by assumption)]; exact mup_self) | (rw [mup_ne (by assumption), mup_ne (by assumption)]; assumption)) rfl wim_X1_becomeProduct wse_X1_becomeProduct ⟨Nat.le_of_ble_eq_true rfl, Nat.le_of_ble_eq_true rfl⟩ rfl rfl (Nat.le_of_ble_eq_true rfl) ⟨Nat.le_of_ble_eq_true rfl, Nat.le_of_ble_eq_true rfl⟩ dX0_writeQuotient_101 (fun g6 e6 => ?_)
        obtain ⟨e6, h6⟩ := e6
        rw [hdc, hbi] at h6
        have j0 := h6.2.2.2.1
        have j5 := (h6.1 161 (by decide)).1
        refine zi_aload_n X dX0_writeQuotient_104 rfl rfl ?_
        refine zi_getf (C := RX0) (T := TX0) (N := 14) (ci := 4) X (by first | assumption | exact mup_self | (rw [mup_ne (by assumption)]; assumption) | (rw [mup_ne (by assumption)]; exact mup_self) | (rw [mup_ne (by assumption), mup_ne (by assumption)]; assumption)) rfl in_X0 7 (by decide) wf_X0_36 rfl rfl dX0_writeQuotient_105 ?_
        refine zi_callVv X (a_flip l D h6 (k := 161) (by decide)) kc_X1_flipSign wm_X0_96 (by first | assumption | exact mup_self | (rw [mup_ne (by assumption)]; assumption) | (rw [mup_ne (by assumption)]; exact mup_self) | (rw [mup_ne (by assumption), mup_ne (by assumption)]; assumption)) rfl wim_X1_flipSign wse_X1_flipSign ⟨Nat.le_of_ble_eq_true rfl, Nat.le_of_ble_eq_true rfl⟩ rfl rfl (Nat.le_of_ble_eq_true rfl) ⟨Nat.le_of_ble_eq_true rfl, Nat.le_of_ble_eq_true rfl⟩ dX0_writeQuotient_108 (fun g7 e7 => ?_)
        obtain ⟨e7, h7⟩ := e7
        rw [updI_s] at h7
        have k0 := h7.2.2.2.1
        have k1 := (h7.2.1 10 (by decide)).1
        have k2 := (h7.2.1 10 (by decide)).2
        have k3 := (h7.1 (70 + (n + i)) (by omega)).1
        refine zi_aload_n X dX0_writeQuotient_111 rfl rfl ?_
        refine zi_getf (C := RX0) (T := TX0) (N := 14) (ci := 4) X (by first | assumption | exact mup_self | (rw [mup_ne (by assumption)]; assumption) | (rw [mup_ne (by assumption)]; exact mup_self) | (rw [mup_ne (by assumption), mup_ne (by assumption)]; assumption)) rfl in_X0 10 (by decide) wf_X0_48 rfl rfl dX0_writeQuotient_112 ?_
        refine zi_getf (C := RX4) (T := TX4) (N := 2) (ci := 8) X (by first | assumption | exact mup_self | (rw [mup_ne (by assumption)]; assumption) | (rw [mup_ne (by assumption)]; exact mup_self) | (rw [mup_ne (by assumption), mup_ne (by assumption)]; assumption)) rfl in_X4 0 (by decide) wf_X0_102 rfl rfl dX0_writeQuotient_115 ?_
        refine zi_iload X dX0_writeQuotient_118 rfl ?_
        refine zi_iload X dX0_writeQuotient_120 rfl ?_
        refine zi_iadd X dX0_writeQuotient_122 ?_
        refine zi_aaldq X 2 (by first | assumption | exact mup_self | (rw [mup_ne (by assumption)]; assumption) | (rw [mup_ne (by assumption)]; exact mup_self) | (rw [mup_ne (by assumption), mup_ne (by assumption)]; assumption)) rfl (by rw [nI_add]; exact vin (show n + i < 7 by omega) (by decide)) (by rw [nI_add]; exact pa_at (j := 10) (i := n + i) (by omega)) dX0_writeQuotient_123 ?_
        refine zi_aload_n X dX0_writeQuotient_124 rfl rfl ?_
        refine zi_getf (C := RX0) (T := TX0) (N := 14) (ci := 4) X (by first | assumption | exact mup_self | (rw [mup_ne (by assumption)]; assumption) | (rw [mup_ne (by assumption)]; exact mup_self) | (rw [mup_ne (by assumption), mup_ne (by assumption)]; assumption)) rfl in_X0 7 (by decide) wf_X0_36 rfl rfl dX0_writeQuotient_125 ?_
        have l1 : updI (updI B5 161 (d * P b i)) 161 (-(d * P b i)) (70 + (n + i)) = Bt (70 + (n + i)) := by rw [updI_n (by omega), updI_n (by omega), hli]
        have l2 : (-(d * P b i)).natAbs ≤ Fk * H := by rw [Int.natAbs_neg, Int.natAbs_mul]; assumption
        refine zi_callVv X (a_plus l D h7 (k := 70 + (n + i)) (n := 161) (by omega) (by decide) (by omega) (by rw [l1]; exact Nat.lt_of_le_of_lt (hFk _ (by omega)) (by omega)) (by rw [updI_s]; omega)) kc_X1_plus wm_X0_128 (by first | assumption | exact mup_self | (rw [mup_ne (by assumption)]; assumption) | (rw [mup_ne (by assumption)]; exact mup_self) | (rw [mup_ne (by assumption), mup_ne (by assumption)]; assumption)) rfl wim_X1_plus wse_X1_plus ⟨Nat.le_of_ble_eq_true rfl, Nat.le_of_ble_eq_true rfl⟩ rfl rfl (Nat.le_of_ble_eq_true rfl) ⟨Nat.le_of_ble_eq_true rfl, Nat.le_of_ble_eq_true rfl⟩ dX0_writeQuotient_128 (fun g8 e8 => ?_)
        obtain ⟨e8, h8⟩ := e8
        rw [l1, updI_s] at h8
        refine zi_iinc (v := nI (i + 1)) X dX0_writeQuotient_131 rfl (nI_inc _) (by decide) ?_
        refine zi_goto (tgt := 81) X dX0_writeQuotient_134 (by decide) ?_
        refine zi_sub (by repeat (first | exact trivial | refine And.intro rfl ?_ | refine mSubL_o ?_)) (ihm (i + 1) _ g8 (by omega) (hfr_tr e8 (hfr_tr e7 (hfr_tr e6 hf5))) h8 (fun k hk k1 k2 u hu => ?_) (fun u hu => ?_) (fun u hu => ?_))
        · rw [updI_n (by omega), updI_n (by omega), updI_n (by omega)]; exact hB5 k hk k1 k2 u hu
        · by_cases q : u = n + i
          · rw [q, updI_s, if_pos (by omega), show n + i - n = i by omega, Int.sub_eq_add_neg]
          · rw [updI_n (by omega), updI_n (by omega), updI_n (by omega), hL5 u hu]
            by_cases q2 : n ≤ u ∧ u < n + i
            · rw [if_pos q2, if_pos (by omega)]
            · rw [if_neg q2, if_neg (by omega)]
        · rw [updI_n (by omega), updI_n (by omega), updI_n (by omega)]; exact hC5 u hu
  · have hg0 : G b = 0 := (dI_neg (by omega)).mp (Int32.not_le.mp c_12)
    have hquo : quoP (P a) (P b) = fun _ => 0 := by
      unfold quoP
      rw [← hGb, if_pos hg0]
    refine zi_return X Vz dX0_writeQuotient_15 ?_
    exact ⟨e1, _, _, h1, u1, by rw [hquo, updP_s], by rw [hquo, updN_s]; rfl⟩
end ALG10
