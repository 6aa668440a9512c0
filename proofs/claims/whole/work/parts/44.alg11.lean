/-! SturmRoots$Algebra: writeSquareFree, writeSturm -/
def sqfP (p : Nat → Int) : Nat → Int := quoP p (gcdP p (derI p))
theorem sa_at {S : Nat → Nat → Nat} {q i : Nat} (hi : i < 7) : (if (nI i).toNatClampNeg < 7 then some (S 2 (sb q + (nI i).toNatClampNeg)) else none) = some (S 2 (sb q + i)) := by
  rw [nI_cl (by omega), if_pos hi]
/-- Sturm's sequence, with the zeros after its end -/
def stE (p : Nat → Int) : Nat → Nat → Int
  | 0 => prm p
  | 1 => prm (derI p)
  | n + 2 => prm (fun i => -red (stE p n) (stE p (n + 1)) i)
/-- its length -/
def stLen (p : Nat → Int) (m : Nat) : Prop := m ≤ 7 ∧ (∀ i, i < m → stI (stE p i) 7 ≠ 0) ∧ (m < 7 → stI (stE p m) 7 = 0)
theorem derI_z {p : Nat → Int} (h : stI p 7 ≤ 1) : stI (derI p) 7 = 0 := by
  have hz : ∀ i, 1 ≤ i → i < 7 → p i = 0 := fun i h1 h2 => stI_z (n := 7) (by omega) h2
  have : stI (derI p) 7 = stI (fun _ => 0) 7 := stI_cong (fun i hi => by
    unfold derI
    split
    · rw [hz _ (by omega) (by omega), Int.zero_mul]
    · rfl)
  rw [this]
  rfl
theorem derI_nz {p : Nat → Int} (h : 2 ≤ stI p 7) : stI (derI p) 7 ≠ 0 := by
  intro q
  have h7 := stI_le p 7
  have h1 := stI_top (p := p) (n := 7) (by omega)
  have h2 : derI p (stI p 7 - 2) = 0 := stI_z (n := 7) (by omega) (by omega)
  unfold derI at h2
  rw [if_pos (by omega), show stI p 7 - 2 + 1 = stI p 7 - 1 by omega] at h2
  rcases Int.mul_eq_zero.mp h2 with h3 | h3
  · exact h1 h3
  · omega
section ALG11
variable {cA : Nat → ClassId} {S : Nat → Nat → Nat} {B : Nat → Int} {P : Nat → Nat → Int} {G Ln : Nat → Nat} {h : mH}
theorem hP_len (hh : hP cA S P G Ln h) {k : Nat} (hk : k < 2) (n : Nat) : hP cA S P G (updN Ln k n) (mup h (S 4 k) (sO (S 5 k) n)) := by
  obtain ⟨B, h1, h2⟩ := hh
  exact ⟨B, hA_len h1 hk n, h2⟩
theorem q_writeSquareFree (l : Launch) (D : va_G) (hh : hP cA S P G Ln h) {a c F H : Nat} (ha : a < 22 ∧ (a < 10 ∨ 13 < a)) (hc : c < 22 ∧ (c < 10 ∨ 13 < c)) (hca : c ≠ a) (hGa : G a = stI (P a) 7) (hGc : G c = stI (P c) 7) (hva : ∀ i, i < 7 → (P a i).natAbs < BB ^ 18) (hs : ∀ i, i < 6 → (P a (i + 1) * ((i : Int) + 1)).natAbs < BB ^ 18) (hok : gcdOk 10000 (prm (P a)) (prm (derI (P a))))
    (hab : stI (gcdP (P a) (derI (P a))) 7 = 0 ∨ stI (gcdP (P a) (derI (P a))) 7 ≤ G a) (hF : ∀ i, i < 7 → (P a i).natAbs ≤ F) (hH : ∀ i, i < 7 → (gcdP (P a) (derI (P a)) i).natAbs ≤ H) (hFH : F * (1 + H) ^ (G a + 1 - stI (gcdP (P a) (derI (P a))) 7) < BB ^ 18) :
    mCv l yX0_writeSquareFree cX0_writeSquareFree 3 (rmd 6) D (mT cA) [.ref (S 6 0), .ref (S 2 a), .ref (S 2 c)] h (fun h1 => hfr S h1 h ∧ ∃ P' G', hP cA S P' G' Ln h1 ∧ upTo [10, 11, 12, 13, c] P' P G' G ∧ P' c = sqfP (P a) ∧ G' c = stI (sqfP (P a)) 7) := by
  refine mEnter_v (by decide) (Nat.le_of_ble_eq_true rfl) rfl (fun z X Vz => ?_)
  have a0 := hP_a hh
  have a1 := (hP_p hh (j := 12) (by decide)).1
  refine zi_aload_n X dX0_writeSquareFree_0 rfl rfl ?_
  refine zi_getf (C := RX0) (T := TX0) (N := 14) (ci := 4) X (by first | assumption | exact mup_self | (rw [mup_ne (by assumption)]; assumption) | (rw [mup_ne (by assumption)]; exact mup_self) | (rw [mup_ne (by assumption), mup_ne (by assumption)]; assumption)) rfl in_X0 12 (by decide) wf_X0_55 rfl rfl dX0_writeSquareFree_1 ?_
  refine zi_aload_n X dX0_writeSquareFree_4 rfl rfl ?_
  refine zi_callVv X (q_becomeDerivative l D hh (j := 12) (j2 := a) (by decide) ha.1 (by omega) (fun i hi => BB18_20 (hs i hi))) kc_X4_becomeDerivative wm_X0_144 (by first | assumption | exact mup_self | (rw [mup_ne (by assumption)]; assumption) | (rw [mup_ne (by assumption)]; exact mup_self) | (rw [mup_ne (by assumption), mup_ne (by assumption)]; assumption)) rfl wim_X4_becomeDerivative wse_X4_becomeDerivative ⟨Nat.le_of_ble_eq_true rfl, Nat.le_of_ble_eq_true rfl⟩ rfl rfl (Nat.le_of_ble_eq_true rfl) ⟨Nat.le_of_ble_eq_true rfl, Nat.le_of_ble_eq_true rfl⟩ dX0_writeSquareFree_5 (fun g1 e1 => ?_)
  obtain ⟨e1, h1⟩ := e1
  have b0 := hP_a h1
  have e12 : updP P 12 (derI (P a)) a = P a := updP_n (by omega)
  have hd18 : ∀ i, i < 7 → (derI (P a) i).natAbs < BB ^ 18 := by
    intro i hi
    unfold derI
    split
    · exact hs i (by omega)
    · exact BB_pos 18
  refine zi_aload_n X dX0_writeSquareFree_8 rfl rfl ?_
  refine zi_aload_n X dX0_writeSquareFree_9 rfl rfl ?_
  refine zi_aload_n X dX0_writeSquareFree_10 rfl rfl ?_
  refine zi_getf (C := RX0) (T := TX0) (N := 14) (ci := 4) X (by first | assumption | exact mup_self | (rw [mup_ne (by assumption)]; assumption) | (rw [mup_ne (by assumption)]; exact mup_self) | (rw [mup_ne (by assumption), mup_ne (by assumption)]; assumption)) rfl in_X0 12 (by decide) wf_X0_55 rfl rfl dX0_writeSquareFree_11 ?_
  refine zi_aload_n X dX0_writeSquareFree_14 rfl rfl ?_
  refine zi_getf (C := RX0) (T := TX0) (N := 14) (ci := 4) X (by first | assumption | exact mup_self | (rw [mup_ne (by assumption)]; assumption) | (rw [mup_ne (by assumption)]; exact mup_self) | (rw [mup_ne (by assumption), mup_ne (by assumption)]; assumption)) rfl in_X0 13 (by decide) wf_X0_58 rfl rfl dX0_writeSquareFree_15 ?_
  refine zi_callVv X (q_writeCommonDivisor l D h1 (a := a) (b := 12) (c := 13) ⟨ha.1, by omega, by omega⟩ (by decide) (by decide) (by rw [updN_n (by omega), e12]; exact hGa) (by rw [updP_s, updN_s]) (by rw [e12]; exact hva) (by rw [updP_s]; exact hd18) (by rw [e12, updP_s]; exact hok)) kc_X0_writeCommonDivisor wm_X0_147 (by first | assumption | exact mup_self | (rw [mup_ne (by assumption)]; assumption) | (rw [mup_ne (by assumption)]; exact mup_self) | (rw [mup_ne (by assumption), mup_ne (by assumption)]; assumption)) rfl wim_X0_writeCommonDivisor wse_X0_writeCommonDivisor ⟨Nat.le_of_ble_eq_true rfl, Nat.le_of_ble_eq_true rfl⟩ rfl rfl (Nat.le_of_ble_eq_true rfl) ⟨Nat.le_of_ble_eq_true rfl, Nat.le_of_ble_eq_true rfl⟩ dX0_writeSquareFree_18 (fun g2 e2 => ?_)
  obtain ⟨e2, P2, G2, h2, u2, f2, f3⟩ := e2
  rw [e12, updP_s] at f2 f3
  have c0 := hP_a h2
  have u3 : upTo [10, 11, 12, 13] P2 P G2 G := upTo_tr u2 (upTo_up (by simp) (upTo_rf _ _ _)) (fun k hk => by
    simp only [List.mem_cons, List.not_mem_nil, or_false] at hk ⊢
    omega)
  have ua := u3 a (by simp only [List.mem_cons, List.not_mem_nil, or_false]; omega)
  have uc := u3 c (by simp only [List.mem_cons, List.not_mem_nil, or_false]; omega)
  refine zi_aload_n X dX0_writeSquareFree_21 rfl rfl ?_
  refine zi_aload_n X dX0_writeSquareFree_22 rfl rfl ?_
  refine zi_aload_n X dX0_writeSquareFree_23 rfl rfl ?_
  refine zi_getf (C := RX0) (T := TX0) (N := 14) (ci := 4) X (by first | assumption | exact mup_self | (rw [mup_ne (by assumption)]; assumption) | (rw [mup_ne (by assumption)]; exact mup_self) | (rw [mup_ne (by assumption), mup_ne (by assumption)]; assumption)) rfl in_X0 13 (by decide) wf_X0_58 rfl rfl dX0_writeSquareFree_24 ?_
  refine zi_aload_n X dX0_writeSquareFree_27 rfl rfl ?_
  refine zi_callVv X (q_writeQuotient l D h2 (a := a) (b := 13) (c := c) (F := F) (H := H) ⟨ha.1, by omega⟩ (by decide) ⟨hc.1, by omega⟩ hca (by omega) (by rw [ua.1, ua.2]; exact hGa) (by rw [f2, f3]) (by rw [uc.1, uc.2]; exact hGc) (by rw [ua.2, f3]; exact hab) (by rw [ua.1]; exact hF) (by rw [f2]; exact hH) (by rw [ua.2, f3]; exact hFH)) kc_X0_writeQuotient wm_X0_152 (by first | assumption | exact mup_self | (rw [mup_ne (by assumption)]; assumption) | (rw [mup_ne (by assumption)]; exact mup_self) | (rw [mup_ne (by assumption), mup_ne (by assumption)]; assumption)) rfl wim_X0_writeQuotient wse_X0_writeQuotient ⟨Nat.le_of_ble_eq_true rfl, Nat.le_of_ble_eq_true rfl⟩ rfl rfl (Nat.le_of_ble_eq_true rfl) ⟨Nat.le_of_ble_eq_true rfl, Nat.le_of_ble_eq_true rfl⟩ dX0_writeSquareFree_28 (fun g3 e3 => ?_)
  obtain ⟨e3, P3, G3, h3, u4, f4, f5⟩ := e3
  rw [ua.1, f2] at f4 f5
  refine zi_return X Vz dX0_writeSquareFree_31 ?_
  refine ⟨hfr_tr e3 (hfr_tr e2 e1), P3, G3, h3, upTo_tr u4 (upTo_tr u3 (upTo_rf _ _ _) (fun k hk => ?_)) (fun k hk => ?_), f4, f5⟩
  · simp only [List.mem_cons, List.not_mem_nil, or_false] at hk ⊢
    omega
  · simp only [List.mem_cons, List.not_mem_nil, or_false] at hk ⊢
    omega
end ALG11
section ALG12
variable {cA : Nat → ClassId} {S : Nat → Nat → Nat} {B : Nat → Int} {P : Nat → Nat → Int} {G Ln : Nat → Nat} {h : mH}
theorem q_writeSturm (l : Launch) (D : va_G) (hh : hP cA S P G Ln h) {a q : Nat} (hq : q < 2) (ha : a < 22 ∧ (a < sb q ∨ sb q + 7 ≤ a)) (hGa : G a = stI (P a) 7) (hva : ∀ i, i < 7 → (P a i).natAbs < BB ^ 18) (hs : ∀ i, i < 6 → (P a (i + 1) * ((i : Int) + 1)).natAbs < BB ^ 18) (hok : ∀ n, n < 5 → stI (stE (P a) (n + 1)) 7 ≠ 0 → szOk (stE (P a) n) (stE (P a) (n + 1))) :
    mCv l yX0_writeSturm cX0_writeSturm 5 (rmd 5) D (mT cA) [.ref (S 6 0), .ref (S 2 a), .ref (S 4 q)] h (fun h1 => hfr S h1 h ∧ ∃ P' G' m, hP cA S P' G' (updN Ln q m) h1 ∧ stLen (P a) m ∧ (∀ k, k < sb q ∨ sb q + 7 ≤ k → P' k = P k ∧ G' k = G k) ∧ ∀ i, i < m → P' (sb q + i) = stE (P a) i ∧ G' (sb q + i) = stI (stE (P a) i) 7) := by
  refine mEnter_v (by decide) (Nat.le_of_ble_eq_true rfl) rfl (fun z X Vz => ?_)
  have hsb : sb q + 7 ≤ 22 := by unfold sb; split <;> omega
  have hG7 := stI_le (P a) 7
  rw [← hGa] at hG7
  have s1 := (hP_s hh hq).1
  have g1 := (hP_p hh ha.1).1
  have h0 := hP_len hh hq 0
  have g2 := (hP_p h0 ha.1).1
  have hf0 : hfr S (mup h (S 4 q) (sO (S 5 q) 0)) h := hfr_len hq
  obtain ⟨g0, hg0⟩ : ∃ g0, g0 = mup h (S 4 q) (sO (S 5 q) 0) := ⟨_, rfl⟩
  rw [← hg0] at h0 g2 hf0
  refine zi_aload_n X dX0_writeSturm_0 rfl rfl ?_
  refine zi_iconst (v := (nI 0)) X dX0_writeSturm_1 (by decide) ?_
  refine zi_putf (C := RX5) (T := TX5) (N := 2) (ci := 9) (ty0 := tyX5) X (by first | assumption | exact mup_self | (rw [mup_ne (by assumption)]; assumption) | (rw [mup_ne (by assumption)]; exact mup_self) | (rw [mup_ne (by assumption), mup_ne (by assumption)]; assumption)) rfl in_X5 tyX5_ok nmX5 1 (by decide) wf_X0_155 rfl rfl rfl rfl rfl (Nat.le_of_ble_eq_true rfl) dX0_writeSturm_2 ?_
  refine zi_eqh hg0.symm ?_
  refine zi_aload_n X dX0_writeSturm_5 rfl rfl ?_
  refine zi_getf (C := RX4) (T := TX4) (N := 2) (ci := 8) X (by first | assumption | exact mup_self | (rw [mup_ne (by assumption)]; assumption) | (rw [mup_ne (by assumption)]; exact mup_self) | (rw [mup_ne (by assumption), mup_ne (by assumption)]; assumption)) rfl in_X4 1 (by decide) wf_X0_99 rfl rfl dX0_writeSturm_6 ?_
  refine zi_if_ge (tgt := 13) X dX0_writeSturm_9 (by decide) (fun c_9 => ?_) (fun c_9 => ?_)
  · have hGa0 : ¬ G a = 0 := fun z => Int32.not_lt.mpr c_9 ((dI_neg (by omega)).mpr z)
    have s0 := (hP_s h0 hq).1
    have s1 := (hP_s h0 hq).2
    refine zi_aload_n X dX0_writeSturm_13 rfl rfl ?_
    refine zi_getf (C := RX5) (T := TX5) (N := 2) (ci := 9) X (by first | assumption | exact mup_self | (rw [mup_ne (by assumption)]; assumption) | (rw [mup_ne (by assumption)]; exact mup_self) | (rw [mup_ne (by assumption), mup_ne (by assumption)]; assumption)) rfl in_X5 0 (by decide) wf_X0_158 rfl rfl dX0_writeSturm_14 ?_
    refine zi_iconst (v := (nI 0)) X dX0_writeSturm_17 (by decide) ?_
    refine zi_aaldq X 3 (by first | assumption | exact mup_self | (rw [mup_ne (by assumption)]; assumption) | (rw [mup_ne (by assumption)]; exact mup_self) | (rw [mup_ne (by assumption), mup_ne (by assumption)]; assumption)) rfl (vin (show 0 < 7 by decide) (by decide)) (sa_at (i := 0) (by decide)) dX0_writeSturm_18 ?_
    refine zi_aload_n X dX0_writeSturm_19 rfl rfl ?_
    refine zi_callVv X (q_become l D h0 (j := sb q + 0) (j2 := a) (by omega) ha.1 (by omega)) kc_X4_become wm_X0_131 ((hP_p h0 (by omega)).1) rfl wim_X4_become wse_X4_become ⟨Nat.le_of_ble_eq_true rfl, Nat.le_of_ble_eq_true rfl⟩ rfl rfl (Nat.le_of_ble_eq_true rfl) ⟨Nat.le_of_ble_eq_true rfl, Nat.le_of_ble_eq_true rfl⟩ dX0_writeSturm_20 (fun g3 e3 => ?_)
    obtain ⟨e3, h3⟩ := e3
    have b0 := hP_a h3
    have b1 := (hP_s h3 hq).1
    have b2 := (hP_s h3 hq).2
    refine zi_aload_n X dX0_writeSturm_23 rfl rfl ?_
    refine zi_aload_n X dX0_writeSturm_24 rfl rfl ?_
    refine zi_getf (C := RX5) (T := TX5) (N := 2) (ci := 9) X (by first | assumption | exact mup_self | (rw [mup_ne (by assumption)]; assumption) | (rw [mup_ne (by assumption)]; exact mup_self) | (rw [mup_ne (by assumption), mup_ne (by assumption)]; assumption)) rfl in_X5 0 (by decide) wf_X0_158 rfl rfl dX0_writeSturm_25 ?_
    refine zi_iconst (v := (nI 0)) X dX0_writeSturm_28 (by decide) ?_
    refine zi_aaldq X 3 (by first | assumption | exact mup_self | (rw [mup_ne (by assumption)]; assumption) | (rw [mup_ne (by assumption)]; exact mup_self) | (rw [mup_ne (by assumption), mup_ne (by assumption)]; assumption)) rfl (vin (show 0 < 7 by decide) (by decide)) (sa_at (i := 0) (by decide)) dX0_writeSturm_29 ?_
    refine zi_callVv X (q_makePrimitive l D h3 (j := sb q + 0) (by omega) (by rw [updN_s, updP_s]; exact hGa) (fun i hi => by rw [updP_s]; exact hva i hi)) kc_X0_makePrimitive wm_X0_134 (by first | assumption | exact mup_self | (rw [mup_ne (by assumption)]; assumption) | (rw [mup_ne (by assumption)]; exact mup_self) | (rw [mup_ne (by assumption), mup_ne (by assumption)]; assumption)) rfl wim_X0_makePrimitive wse_X0_makePrimitive ⟨Nat.le_of_ble_eq_true rfl, Nat.le_of_ble_eq_true rfl⟩ rfl rfl (Nat.le_of_ble_eq_true rfl) ⟨Nat.le_of_ble_eq_true rfl, Nat.le_of_ble_eq_true rfl⟩ dX0_writeSturm_30 (fun g4 e4 => ?_)
    obtain ⟨e4, h4⟩ := e4
    rw [updP_s, updP_updP] at h4
    have b1 := (hP_s h4 hq).1
    have h5 := hP_len h4 hq 1
    have hf5 : hfr S (mup g4 (S 4 q) (sO (S 5 q) 1)) h := hfr_tr (hfr_len hq) (hfr_tr e4 (hfr_tr e3 hf0))
    obtain ⟨g5, hg5⟩ : ∃ g5, g5 = mup g4 (S 4 q) (sO (S 5 q) 1) := ⟨_, rfl⟩
    have hl5 : updN (updN Ln q 0) q 1 = updN Ln q 1 := by
      funext k
      unfold updN
      split <;> rfl
    rw [← hg5, hl5] at h5
    rw [← hg5] at hf5
    refine zi_aload_n X dX0_writeSturm_33 rfl rfl ?_
    refine zi_iconst (v := (nI 1)) X dX0_writeSturm_34 (by decide) ?_
    refine zi_putf (C := RX5) (T := TX5) (N := 2) (ci := 9) (ty0 := tyX5) X (by first | assumption | exact mup_self | (rw [mup_ne (by assumption)]; assumption) | (rw [mup_ne (by assumption)]; exact mup_self) | (rw [mup_ne (by assumption), mup_ne (by assumption)]; assumption)) rfl in_X5 tyX5_ok nmX5 1 (by decide) wf_X0_155 rfl rfl rfl rfl rfl (Nat.le_of_ble_eq_true rfl) dX0_writeSturm_35 ?_
    refine zi_eqh hg5.symm ?_
    have b4 := (hP_p h5 ha.1).1
    rw [updN_n (by omega)] at b4
    have st0 : stE (P a) 0 = prm (P a) := rfl
    have st1 : stE (P a) 1 = prm (derI (P a)) := rfl
    refine zi_aload_n X dX0_writeSturm_38 rfl rfl ?_
    refine zi_getf (C := RX4) (T := TX4) (N := 2) (ci := 8) X (by first | assumption | exact mup_self | (rw [mup_ne (by assumption)]; assumption) | (rw [mup_ne (by assumption)]; exact mup_self) | (rw [mup_ne (by assumption), mup_ne (by assumption)]; assumption)) rfl in_X4 1 (by decide) wf_X0_99 rfl rfl dX0_writeSturm_39 ?_
    refine zi_if_ne (tgt := 46) X dX0_writeSturm_42 (by decide) (fun c_42 => ?_) (fun c_42 => ?_)
    · have hGa1 : ¬ G a = 1 := fun z => c_42 (by rw [z]; rfl)
      have hdz : stI (derI (P a)) 7 ≠ 0 := derI_nz (by omega)
      have b2 := (hP_s h5 hq).1
      have b3 := (hP_s h5 hq).2
      refine zi_aload_n X dX0_writeSturm_46 rfl rfl ?_
      refine zi_getf (C := RX5) (T := TX5) (N := 2) (ci := 9) X (by first | assumption | exact mup_self | (rw [mup_ne (by assumption)]; assumption) | (rw [mup_ne (by assumption)]; exact mup_self) | (rw [mup_ne (by assumption), mup_ne (by assumption)]; assumption)) rfl in_X5 0 (by decide) wf_X0_158 rfl rfl dX0_writeSturm_47 ?_
      refine zi_iconst (v := (nI 1)) X dX0_writeSturm_50 (by decide) ?_
      refine zi_aaldq X 3 (by first | assumption | exact mup_self | (rw [mup_ne (by assumption)]; assumption) | (rw [mup_ne (by assumption)]; exact mup_self) | (rw [mup_ne (by assumption), mup_ne (by assumption)]; assumption)) rfl (vin (show 1 < 7 by decide) (by decide)) (sa_at (i := 1) (by decide)) dX0_writeSturm_51 ?_
      refine zi_aload_n X dX0_writeSturm_52 rfl rfl ?_
      have v1 : updP P (sb q + 0) (prm (P a)) a = P a := updP_n (by omega)
      refine zi_callVv X (q_becomeDerivative l D h5 (j := sb q + 1) (j2 := a) (by omega) ha.1 (by omega) (fun i hi => by rw [v1]; exact BB18_20 (hs i hi))) kc_X4_becomeDerivative wm_X0_144 ((hP_p h5 (by omega)).1) rfl wim_X4_becomeDerivative wse_X4_becomeDerivative ⟨Nat.le_of_ble_eq_true rfl, Nat.le_of_ble_eq_true rfl⟩ rfl rfl (Nat.le_of_ble_eq_true rfl) ⟨Nat.le_of_ble_eq_true rfl, Nat.le_of_ble_eq_true rfl⟩ dX0_writeSturm_53 (fun g6 e6 => ?_)
      obtain ⟨e6, h6⟩ := e6
      rw [v1] at h6
      have b0 := hP_a h6
      have b2 := (hP_s h6 hq).1
      have b3 := (hP_s h6 hq).2
      refine zi_aload_n X dX0_writeSturm_56 rfl rfl ?_
      refine zi_aload_n X dX0_writeSturm_57 rfl rfl ?_
      refine zi_getf (C := RX5) (T := TX5) (N := 2) (ci := 9) X (by first | assumption | exact mup_self | (rw [mup_ne (by assumption)]; assumption) | (rw [mup_ne (by assumption)]; exact mup_self) | (rw [mup_ne (by assumption), mup_ne (by assumption)]; assumption)) rfl in_X5 0 (by decide) wf_X0_158 rfl rfl dX0_writeSturm_58 ?_
      refine zi_iconst (v := (nI 1)) X dX0_writeSturm_61 (by decide) ?_
      refine zi_aaldq X 3 (by first | assumption | exact mup_self | (rw [mup_ne (by assumption)]; assumption) | (rw [mup_ne (by assumption)]; exact mup_self) | (rw [mup_ne (by assumption), mup_ne (by assumption)]; assumption)) rfl (vin (show 1 < 7 by decide) (by decide)) (sa_at (i := 1) (by decide)) dX0_writeSturm_62 ?_
      have hd18 : ∀ i, i < 7 → (derI (P a) i).natAbs < BB ^ 18 := by
        intro i hi
        unfold derI
        split
        · exact hs i (by omega)
        · exact BB_pos 18
      refine zi_callVv X (q_makePrimitive l D h6 (j := sb q + 1) (by omega) (by rw [updN_s, updP_s]) (fun i hi => by rw [updP_s]; exact hd18 i hi)) kc_X0_makePrimitive wm_X0_134 (by first | assumption | exact mup_self | (rw [mup_ne (by assumption)]; assumption) | (rw [mup_ne (by assumption)]; exact mup_self) | (rw [mup_ne (by assumption), mup_ne (by assumption)]; assumption)) rfl wim_X0_makePrimitive wse_X0_makePrimitive ⟨Nat.le_of_ble_eq_true rfl, Nat.le_of_ble_eq_true rfl⟩ rfl rfl (Nat.le_of_ble_eq_true rfl) ⟨Nat.le_of_ble_eq_true rfl, Nat.le_of_ble_eq_true rfl⟩ dX0_writeSturm_63 (fun g7 e7 => ?_)
      obtain ⟨e7, h7⟩ := e7
      rw [updP_s, updP_updP] at h7
      have b1 := (hP_s h7 hq).1
      have h8 := hP_len h7 hq 2
      have hf8 : hfr S (mup g7 (S 4 q) (sO (S 5 q) 2)) h := hfr_tr (hfr_len hq) (hfr_tr e7 (hfr_tr e6 hf5))
      obtain ⟨g8, hg8⟩ : ∃ g8, g8 = mup g7 (S 4 q) (sO (S 5 q) 2) := ⟨_, rfl⟩
      have hl8 : updN (updN Ln q 1) q 2 = updN Ln q 2 := by
        funext k
        unfold updN
        split <;> rfl
      rw [← hg8, hl8] at h8
      rw [← hg8] at hf8
      refine zi_aload_n X dX0_writeSturm_66 rfl rfl ?_
      refine zi_iconst (v := (nI 2)) X dX0_writeSturm_67 (by decide) ?_
      refine zi_putf (C := RX5) (T := TX5) (N := 2) (ci := 9) (ty0 := tyX5) X (by first | assumption | exact mup_self | (rw [mup_ne (by assumption)]; assumption) | (rw [mup_ne (by assumption)]; exact mup_self) | (rw [mup_ne (by assumption), mup_ne (by assumption)]; assumption)) rfl in_X5 tyX5_ok nmX5 1 (by decide) wf_X0_155 rfl rfl rfl rfl rfl (Nat.le_of_ble_eq_true rfl) dX0_writeSturm_68 ?_
      refine zi_iconst (v := (nI 2)) X dX0_writeSturm_71 (by decide) ?_
      refine zi_istore_n X dX0_writeSturm_72 rfl (by decide) ?_
      refine zi_eqh hg8.symm ?_
      suffices key : ∀ k n P1 G1 g (o : Option Value), n + k = 5 → hfr S g h → hP cA S P1 G1 (updN Ln q (n + 2)) g → (∀ t, t < sb q ∨ sb q + 7 ≤ t → P1 t = P t ∧ G1 t = G t) → (∀ t, t < n + 2 → P1 (sb q + t) = stE (P a) t ∧ G1 (sb q + t) = stI (stE (P a) t) 7 ∧ stI (stE (P a) t) 7 ≠ 0) → zM z 0 0 73 [some (.ref (S 6 0)), some (.ref (S 2 a)), some (.ref (S 4 q)), some (.int (nI (n + 2))), o] [] g by
        refine zi_sub (by repeat (first | exact trivial | refine And.intro rfl ?_ | refine mSubL_o ?_)) (key 5 0 _ _ g8 none rfl hf8 h8 (fun t ht => ?_) (fun t ht => ?_))
        · rw [updP_n (by omega), updP_n (by omega), updN_n (by omega), updN_n (by omega)]
          exact ⟨rfl, rfl⟩
        · rcases (show t = 0 ∨ t = 1 by omega) with q1 | q1
          · subst q1
            rw [updP_n (by omega), updP_s, updN_n (by omega), updN_s, st0, stI_prm]
            exact ⟨rfl, hGa, by omega⟩
          · subst q1
            rw [updP_s, updN_s, st1, stI_prm]
            exact ⟨rfl, rfl, hdz⟩
      intro k
      induction k with
      | zero =>
        intro n P1 G1 g o hn hf hP1 hout hel
        have : n = 5 := by omega
        subst this
        refine zi_iload_n X dX0_writeSturm_73 rfl rfl ?_
        refine zi_bipush (v := (nI 7)) X dX0_writeSturm_74 (by decide) ?_
        refine zi_icmp_ge (tgt := 147) X dX0_writeSturm_76 (by decide) (fun c_76 => ?_) (fun c_76 => (by first | exact absurd (Int32.le_refl _) c_76 | exact absurd c_76 (Int32.le_refl _)))
        refine zi_return X Vz dX0_writeSturm_147 ?_
        exact ⟨hf, P1, G1, 7, hP1, ⟨Nat.le_refl _, fun i hi => (hel i hi).2.2, fun z => absurd z (by decide)⟩, hout, fun i hi => ⟨(hel i hi).1, (hel i hi).2.1⟩⟩
      | succ k ih =>
        intro n P1 G1 g o hn hf hP1 hout hel
        have d0 := hP_a hP1
        have d1 := (hP_s hP1 hq).1
        have d2 := (hP_s hP1 hq).2
        have en := hel n (by omega)
        have en1 := hel (n + 1) (by omega)
        obtain ⟨F, H, o1, o2, o3, o4⟩ := hok n (by omega) en1.2.2
        refine zi_iload_n X dX0_writeSturm_73 rfl rfl ?_
        refine zi_bipush (v := (nI 7)) X dX0_writeSturm_74 (by decide) ?_
        refine zi_icmp_ge (tgt := 147) X dX0_writeSturm_76 (by decide) (fun c_76 => (by first | exact absurd (nI_ge (show n + 2 < 7 by omega) (by decide)) c_76 | exact absurd c_76 (nI_ge (show n + 2 < 7 by omega) (by decide)))) (fun c_76 => ?_)
        refine zi_aload_n X dX0_writeSturm_79 rfl rfl ?_
        refine zi_getf (C := RX5) (T := TX5) (N := 2) (ci := 9) X (by first | assumption | exact mup_self | (rw [mup_ne (by assumption)]; assumption) | (rw [mup_ne (by assumption)]; exact mup_self) | (rw [mup_ne (by assumption), mup_ne (by assumption)]; assumption)) rfl in_X5 0 (by decide) wf_X0_158 rfl rfl dX0_writeSturm_80 ?_
        refine zi_iload_n X dX0_writeSturm_83 rfl rfl ?_
        refine zi_aaldq X 3 (by first | assumption | exact mup_self | (rw [mup_ne (by assumption)]; assumption) | (rw [mup_ne (by assumption)]; exact mup_self) | (rw [mup_ne (by assumption), mup_ne (by assumption)]; assumption)) rfl (vin (show n + 2 < 7 by omega) (by decide)) (sa_at (i := n + 2) (by omega)) dX0_writeSturm_84 ?_
        refine zi_astore X dX0_writeSturm_85 (by decide) ?_
        refine zi_aload X dX0_writeSturm_87 rfl ?_
        refine zi_aload_n X dX0_writeSturm_89 rfl rfl ?_
        refine zi_getf (C := RX5) (T := TX5) (N := 2) (ci := 9) X (by first | assumption | exact mup_self | (rw [mup_ne (by assumption)]; assumption) | (rw [mup_ne (by assumption)]; exact mup_self) | (rw [mup_ne (by assumption), mup_ne (by assumption)]; assumption)) rfl in_X5 0 (by decide) wf_X0_158 rfl rfl dX0_writeSturm_90 ?_
        refine zi_iload_n X dX0_writeSturm_93 rfl rfl ?_
        refine zi_iconst (v := (nI 2)) X dX0_writeSturm_94 (by decide) ?_
        refine zi_isub X dX0_writeSturm_95 ?_
        refine zi_aaldq X 3 (by first | assumption | exact mup_self | (rw [mup_ne (by assumption)]; assumption) | (rw [mup_ne (by assumption)]; exact mup_self) | (rw [mup_ne (by assumption), mup_ne (by assumption)]; assumption)) rfl (by rw [pk_sub (by omega)]; exact vin (show n + 2 - 2 < 7 by omega) (by decide)) (by rw [pk_sub (by omega)]; exact sa_at (i := n) (by omega)) dX0_writeSturm_96 ?_
        refine zi_callVv X (q_become l D hP1 (j := sb q + (n + 2)) (j2 := sb q + n) (by omega) (by omega) (by omega)) kc_X4_become wm_X0_131 ((hP_p hP1 (by omega)).1) rfl wim_X4_become wse_X4_become ⟨Nat.le_of_ble_eq_true rfl, Nat.le_of_ble_eq_true rfl⟩ rfl rfl (Nat.le_of_ble_eq_true rfl) ⟨Nat.le_of_ble_eq_true rfl, Nat.le_of_ble_eq_true rfl⟩ dX0_writeSturm_97 (fun g3 e3 => ?_)
        obtain ⟨e3, h3⟩ := e3
        rw [en.1, en.2.1] at h3
        have b0 := hP_a h3
        have b1 := (hP_s h3 hq).1
        have b2 := (hP_s h3 hq).2
        refine zi_aload_n X dX0_writeSturm_100 rfl rfl ?_
        refine zi_aload X dX0_writeSturm_101 rfl ?_
        refine zi_aload_n X dX0_writeSturm_103 rfl rfl ?_
        refine zi_getf (C := RX5) (T := TX5) (N := 2) (ci := 9) X (by first | assumption | exact mup_self | (rw [mup_ne (by assumption)]; assumption) | (rw [mup_ne (by assumption)]; exact mup_self) | (rw [mup_ne (by assumption), mup_ne (by assumption)]; assumption)) rfl in_X5 0 (by decide) wf_X0_158 rfl rfl dX0_writeSturm_104 ?_
        refine zi_iload_n X dX0_writeSturm_107 rfl rfl ?_
        refine zi_iconst (v := (nI 1)) X dX0_writeSturm_108 (by decide) ?_
        refine zi_isub X dX0_writeSturm_109 ?_
        refine zi_aaldq X 3 (by first | assumption | exact mup_self | (rw [mup_ne (by assumption)]; assumption) | (rw [mup_ne (by assumption)]; exact mup_self) | (rw [mup_ne (by assumption), mup_ne (by assumption)]; assumption)) rfl (by rw [nI_pr]; exact vin (show n + 1 < 7 by omega) (by decide)) (by rw [nI_pr]; exact sa_at (i := n + 1) (by omega)) dX0_writeSturm_110 ?_
        have w1 : updP P1 (sb q + (n + 2)) (stE (P a) n) (sb q + (n + 1)) = stE (P a) (n + 1) := by rw [updP_n (by omega)]; exact en1.1
        have w2 : updN G1 (sb q + (n + 2)) (stI (stE (P a) n) 7) (sb q + (n + 1)) = stI (stE (P a) (n + 1)) 7 := by rw [updN_n (by omega)]; exact en1.2.1
        refine zi_callVv X (q_reduce l D h3 (j := sb q + (n + 2)) (j2 := sb q + (n + 1)) (F := F) (H := H) (by omega) (by omega) (by omega) (by rw [updP_s, updN_s]) (by rw [w1, w2]) (by rw [updP_s]; exact o1) (by rw [w1]; exact o2) o3 (by rw [updN_s, w2]; exact Nat.lt_of_lt_of_le o4 (Nat.pow_le_pow_right (by decide) (by decide)))) kc_X0_reduce wm_X0_137 (by first | assumption | exact mup_self | (rw [mup_ne (by assumption)]; assumption) | (rw [mup_ne (by assumption)]; exact mup_self) | (rw [mup_ne (by assumption), mup_ne (by assumption)]; assumption)) rfl wim_X0_reduce wse_X0_reduce ⟨Nat.le_of_ble_eq_true rfl, Nat.le_of_ble_eq_true rfl⟩ rfl rfl (Nat.le_of_ble_eq_true rfl) ⟨Nat.le_of_ble_eq_true rfl, Nat.le_of_ble_eq_true rfl⟩ dX0_writeSturm_111 (fun g4 e4 => ?_)
        obtain ⟨e4, h4⟩ := e4
        rw [updP_s, w1, updP_updP] at h4
        obtain ⟨R, hR⟩ : ∃ R, R = red (stE (P a) n) (stE (P a) (n + 1)) := ⟨_, rfl⟩
        have hR18 : ∀ i, i < 7 → (R i).natAbs < BB ^ 18 := by rw [hR]; exact red_le o1 o2 o3 o4
        have hst2 : stE (P a) (n + 2) = prm (fun i => -R i) := by rw [hR]; rfl
        have hst3 : stI (stE (P a) (n + 2)) 7 = stI R 7 := by rw [hst2, stI_prm]; exact stI_neg R
        have hR7 := stI_le R 7
        rw [← hR] at h4
        have b3 := (hP_p h4 (j := sb q + (n + 2)) (by omega)).1
        rw [updN_s] at b3
        have hout4 : ∀ p g4, ∀ t, t < sb q ∨ sb q + 7 ≤ t → updP P1 (sb q + (n + 2)) p t = P t ∧ updN (updN G1 (sb q + (n + 2)) (stI (stE (P a) n) 7)) (sb q + (n + 2)) g4 t = G t := fun p g4 t ht => by
          rw [updP_n (by omega), updN_n (by omega), updN_n (by omega)]
          exact hout t ht
        refine zi_aload X dX0_writeSturm_114 rfl ?_
        refine zi_getf (C := RX4) (T := TX4) (N := 2) (ci := 8) X (by first | assumption | exact mup_self | (rw [mup_ne (by assumption)]; assumption) | (rw [mup_ne (by assumption)]; exact mup_self) | (rw [mup_ne (by assumption), mup_ne (by assumption)]; assumption)) rfl in_X4 1 (by decide) wf_X0_99 rfl rfl dX0_writeSturm_116 ?_
        refine zi_if_ge (tgt := 123) X dX0_writeSturm_119 (by decide) (fun c_119 => ?_) (fun c_119 => ?_)
        · have hR0 : ¬ stI R 7 = 0 := fun z => Int32.not_lt.mpr c_119 ((dI_neg (by omega)).mpr z)
          refine zi_aload X dX0_writeSturm_123 rfl ?_
          refine zi_callVv X (q_flipSigns l D h4 (j := sb q + (n + 2)) (by omega) (by rw [updN_s, updP_s])) kc_X4_flipSigns wm_X0_162 (by first | assumption | exact mup_self | (rw [mup_ne (by assumption)]; assumption) | (rw [mup_ne (by assumption)]; exact mup_self) | (rw [mup_ne (by assumption), mup_ne (by assumption)]; assumption)) rfl wim_X4_flipSigns wse_X4_flipSigns ⟨Nat.le_of_ble_eq_true rfl, Nat.le_of_ble_eq_true rfl⟩ rfl rfl (Nat.le_of_ble_eq_true rfl) ⟨Nat.le_of_ble_eq_true rfl, Nat.le_of_ble_eq_true rfl⟩ dX0_writeSturm_125 (fun g5 e5 => ?_)
          obtain ⟨e5, h6⟩ := e5
          rw [updP_s, updP_updP] at h6
          have c0 := hP_a h6
          refine zi_aload_n X dX0_writeSturm_128 rfl rfl ?_
          refine zi_aload X dX0_writeSturm_129 rfl ?_
          refine zi_callVv X (q_makePrimitive l D h6 (j := sb q + (n + 2)) (by omega) (by rw [updN_s, updP_s]; exact (stI_neg R).symm) (fun i hi => by rw [updP_s, Int.natAbs_neg]; exact hR18 i hi)) kc_X0_makePrimitive wm_X0_134 (by first | assumption | exact mup_self | (rw [mup_ne (by assumption)]; assumption) | (rw [mup_ne (by assumption)]; exact mup_self) | (rw [mup_ne (by assumption), mup_ne (by assumption)]; assumption)) rfl wim_X0_makePrimitive wse_X0_makePrimitive ⟨Nat.le_of_ble_eq_true rfl, Nat.le_of_ble_eq_true rfl⟩ rfl rfl (Nat.le_of_ble_eq_true rfl) ⟨Nat.le_of_ble_eq_true rfl, Nat.le_of_ble_eq_true rfl⟩ dX0_writeSturm_131 (fun g6 e6 => ?_)
          obtain ⟨e6, h7⟩ := e6
          rw [updP_s, updP_updP, ← hst2] at h7
          have b1 := (hP_s h7 hq).1
          have h9 := hP_len h7 hq (n + 3)
          have hf9 : hfr S (mup g6 (S 4 q) (sO (S 5 q) (n + 3))) h := hfr_tr (hfr_len hq) (hfr_tr e6 (hfr_tr e5 (hfr_tr e4 (hfr_tr e3 hf))))
          obtain ⟨g9, hg9⟩ : ∃ g9, g9 = mup g6 (S 4 q) (sO (S 5 q) (n + 3)) := ⟨_, rfl⟩
          have hl9 : updN (updN Ln q (n + 2)) q (n + 3) = updN Ln q (n + 3) := by
            funext k
            unfold updN
            split <;> rfl
          rw [← hg9, hl9] at h9
          rw [← hg9] at hf9
          refine zi_aload_n X dX0_writeSturm_134 rfl rfl ?_
          refine zi_iload_n X dX0_writeSturm_135 rfl rfl ?_
          refine zi_iconst (v := (nI 1)) X dX0_writeSturm_136 (by decide) ?_
          refine zi_iadd X dX0_writeSturm_137 ?_
          rw [nI_sc]
          refine zi_putf (C := RX5) (T := TX5) (N := 2) (ci := 9) (ty0 := tyX5) X (by first | assumption | exact mup_self | (rw [mup_ne (by assumption)]; assumption) | (rw [mup_ne (by assumption)]; exact mup_self) | (rw [mup_ne (by assumption), mup_ne (by assumption)]; assumption)) rfl in_X5 tyX5_ok nmX5 1 (by decide) wf_X0_155 rfl rfl rfl rfl rfl (Nat.le_of_ble_eq_true rfl) dX0_writeSturm_138 ?_
          refine zi_eqh hg9.symm ?_
          refine zi_iinc (v := nI ((n + 2) + 1)) X dX0_writeSturm_141 rfl (nI_inc _) (by decide) ?_
          refine zi_goto (tgt := 73) X dX0_writeSturm_144 (by decide) ?_
          refine zi_sub (by repeat (first | exact trivial | refine And.intro rfl ?_ | refine mSubL_o ?_)) (ih (n + 1) _ _ g9 (some (.ref (S 2 (sb q + (n + 2))))) (by omega) hf9 h9 (hout4 _ _) (fun t ht => ?_))
          by_cases q1 : t = n + 2
          · subst q1
            rw [updP_s, updN_s, hst3]
            exact ⟨rfl, rfl, hR0⟩
          · rw [updP_n (by omega), updN_n (by omega), updN_n (by omega)]
            exact hel t (by omega)
        · have hR0 : stI R 7 = 0 := (dI_neg (by omega)).mp (Int32.not_le.mp c_119)
          refine zi_return X Vz dX0_writeSturm_122 ?_
          refine ⟨hfr_tr e4 (hfr_tr e3 hf), _, _, n + 2, h4, ⟨by omega, fun i hi => (hel i hi).2.2, fun _ => hst3.trans hR0⟩, hout4 _ _, fun t ht => ?_⟩
          rw [updP_n (by omega), updN_n (by omega), updN_n (by omega)]
          exact ⟨(hel t ht).1, (hel t ht).2.1⟩
    · have hGa1 : G a = 1 := by
        have := (dI_lt (g := G a) (i := 1) (by omega) (by decide)).mp (by rw [c_42]; decide)
        omega
      refine zi_return X Vz dX0_writeSturm_45 ?_
      refine ⟨hf5, _, _, 1, h5, ⟨by decide, fun i hi => ?_, fun _ => ?_⟩, fun t ht => ?_, fun i hi => ?_⟩
      · rw [show i = 0 by omega, st0, stI_prm, ← hGa]; exact hGa0
      · rw [st1, stI_prm]; exact derI_z (by omega)
      · rw [updP_n (by omega), updN_n (by omega)]; exact ⟨rfl, rfl⟩
      · rw [show i = 0 by omega, updP_s, updN_s, st0, stI_prm]; exact ⟨rfl, hGa⟩
  · have hg0 : G a = 0 := (dI_neg (by omega)).mp (Int32.not_le.mp c_9)
    refine zi_return X Vz dX0_writeSturm_12 ?_
    refine ⟨hf0, P, G, 0, h0, ⟨by decide, fun i hi => absurd hi (by omega), fun _ => ?_⟩, fun _ _ => ⟨rfl, rfl⟩, fun i hi => absurd hi (by omega)⟩
    rw [show stE (P a) 0 = prm (P a) from rfl, stI_prm, ← hGa]
    exact hg0
end ALG12
