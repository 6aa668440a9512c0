/-! SturmRoots$Algebra: divideExactly, makePrimitive -/
theorem bsg_eq {v w : Int} : bsg v = bsg w ↔ (v < 0 ↔ w < 0) := by
  unfold bsg
  by_cases h1 : v < 0 <;> by_cases h2 : w < 0
  · rw [if_pos h1, if_pos h2]; simp [h1, h2]
  · rw [if_pos h1, if_neg h2]; simp [h1, h2]; decide
  · rw [if_neg h1, if_pos h2]; simp [h1, h2]; decide
  · rw [if_neg h1, if_neg h2]; simp [h1, h2]
theorem tdiv_abs {v w : Int} (h : v < 0 ↔ w < 0) : ((v.natAbs / w.natAbs : Nat) : Int) = v.tdiv w := by
  by_cases h1 : v < 0
  · have h2 := h.mp h1
    obtain ⟨a, rfl⟩ : ∃ a : Nat, v = -(a : Int) := ⟨v.natAbs, by omega⟩
    obtain ⟨b, rfl⟩ : ∃ b : Nat, w = -(b : Int) := ⟨w.natAbs, by omega⟩
    rw [Int.neg_tdiv, Int.tdiv_neg, Int.neg_neg, Int.natAbs_neg, Int.natAbs_neg]
    rfl
  · have h2 : ¬ w < 0 := fun q => h1 (h.mpr q)
    obtain ⟨a, rfl⟩ : ∃ a : Nat, v = (a : Int) := ⟨v.natAbs, by omega⟩
    obtain ⟨b, rfl⟩ : ∃ b : Nat, w = (b : Int) := ⟨w.natAbs, by omega⟩
    rfl
theorem tdiv_abs_n {v w : Int} (h : ¬ (v < 0 ↔ w < 0)) : -((v.natAbs / w.natAbs : Nat) : Int) = v.tdiv w := by
  by_cases h1 : v < 0
  · have h2 : ¬ w < 0 := fun q => h ⟨fun _ => q, fun _ => h1⟩
    obtain ⟨a, rfl⟩ : ∃ a : Nat, v = -(a : Int) := ⟨v.natAbs, by omega⟩
    obtain ⟨b, rfl⟩ : ∃ b : Nat, w = (b : Int) := ⟨w.natAbs, by omega⟩
    rw [Int.neg_tdiv, Int.natAbs_neg]
    rfl
  · have h2 : w < 0 := Decidable.not_not.mp (fun q => h ⟨fun z => absurd z h1, fun z => absurd z q⟩)
    obtain ⟨a, rfl⟩ : ∃ a : Nat, v = (a : Int) := ⟨v.natAbs, by omega⟩
    obtain ⟨b, rfl⟩ : ∃ b : Nat, w = -(b : Int) := ⟨w.natAbs, by omega⟩
    rw [Int.tdiv_neg, Int.natAbs_neg]
    rfl
/-- the greatest common divisor of the first n coefficients -/
def cont (p : Nat → Int) : Nat → Nat
  | 0 => 0
  | n + 1 => Nat.gcd (cont p n) (p n).natAbs
theorem cont_cong {p q : Nat → Int} : ∀ {n : Nat}, (∀ i, i < n → p i = q i) → cont p n = cont q n
  | 0, _ => rfl
  | n + 1, h => by rw [cont, cont, h n (Nat.lt_succ_self n), cont_cong (fun i hi => h i (Nat.lt_succ_of_lt hi))]
theorem cont_ext {p : Nat → Int} {G : Nat} : ∀ {n : Nat}, G ≤ n → (∀ i, G ≤ i → i < n → p i = 0) → cont p n = cont p G
  | 0, h, _ => by rw [show G = 0 by omega]
  | n + 1, h, hz => by
    by_cases q : G = n + 1
    · rw [q]
    · rw [cont, hz n (by omega) (Nat.lt_succ_self n), Int.natAbs_zero, Nat.gcd_zero_right]
      exact cont_ext (by omega) (fun i h1 h2 => hz i h1 (Nat.lt_succ_of_lt h2))
theorem cont_le {p : Nat → Int} {M : Nat} (hM : 0 < M) : ∀ {n : Nat}, (∀ i, i < n → (p i).natAbs < M) → cont p n < M
  | 0, _ => hM
  | n + 1, h => by
    rw [cont]
    rcases Nat.eq_zero_or_pos (cont p n) with q | q
    · rw [q, Nat.gcd_zero_left]; exact h n (Nat.lt_succ_self n)
    · exact Nat.lt_of_le_of_lt (Nat.le_of_dvd q (Nat.gcd_dvd_left _ _)) (cont_le hM (fun i hi => h i (Nat.lt_succ_of_lt hi)))
/-- the primitive part -/
def prm (p : Nat → Int) : Nat → Int := fun i => (p i).tdiv (cont p 7 : Nat)
section ALG5
variable {cA : Nat → ClassId} {S : Nat → Nat → Nat} {B : Nat → Int} {P : Nat → Nat → Int} {G Ln : Nat → Nat} {h : mH}
theorem p_divideExactly (l : Launch) (D : va_G) (hh : hA cA S B G Ln h) {n m : Nat} (hn : n < 156 ∨ 157 < n ∧ n < 164) (hm : m < 156 ∨ 157 < m ∧ m < 164) (hnm : n ≠ m) (hv : (B n).natAbs < BB ^ 18) :
    mCv l yX0_divideExactly cX0_divideExactly 4 (rmd 3) D (mT cA) [.ref (S 6 0), .ref (S 0 n), .ref (S 0 m)] h (fun h1 => hfr S h1 h ∧ ∃ B', hA cA S B' G Ln h1 ∧ (∀ k, k ≠ n → k ≠ 156 → k ≠ 157 → B' k = B k) ∧ B' n = (B n).tdiv (B m)) := by
  refine mEnter_v (by decide) (Nat.le_of_ble_eq_true rfl) rfl (fun z X Vz => ?_)
  have a0 := hh.2.2.2.1
  have hn1 : n < 164 := by omega
  have hm1 : m < 164 := by omega
  have a1 := (hh.1 n hn1).1
  have a2 := (hh.1 m hm1).1
  have i0 : ∀ m n, m < 164 → n < 164 → m ≠ n → S 0 m ≠ S 0 n := fun m n => hA_i0 hh
  suffices key : ∀ x : Int32, (x = 0 ↔ ((B n) < 0 ↔ (B m) < 0)) → zM z 0 0 16 [some (.ref (S 6 0)), some (.ref (S 0 n)), some (.ref (S 0 m)), none] [.int x] h by
    refine zi_aload_n X dX0_divideExactly_0 rfl rfl ?_
    refine zi_getf (C := RX1) (T := TX1) (N := 3) (ci := 5) X (by first | assumption | exact mup_self | (rw [mup_ne (by assumption)]; assumption) | (rw [mup_ne (by assumption)]; exact mup_self) | (rw [mup_ne (by assumption), mup_ne (by assumption)]; assumption)) rfl in_X1 2 (by decide) wf_X0_92 rfl rfl dX0_divideExactly_1 ?_
    refine zi_aload_n X dX0_divideExactly_4 rfl rfl ?_
    refine zi_getf (C := RX1) (T := TX1) (N := 3) (ci := 5) X (by first | assumption | exact mup_self | (rw [mup_ne (by assumption)]; assumption) | (rw [mup_ne (by assumption)]; exact mup_self) | (rw [mup_ne (by assumption), mup_ne (by assumption)]; assumption)) rfl in_X1 2 (by decide) wf_X0_92 rfl rfl dX0_divideExactly_5 ?_
    refine zi_icmp_eq (tgt := 15) X dX0_divideExactly_8 (by decide) (fun c_8 => ?_) (fun c_8 => ?_)
    · refine zi_iconst (v := (nI 0)) X dX0_divideExactly_15 (by decide) ?_
      exact key 0 ⟨fun _ => bsg_eq.mp c_8, fun _ => rfl⟩
    · refine zi_iconst (v := (nI 1)) X dX0_divideExactly_11 (by decide) ?_
      refine zi_goto (tgt := 16) X dX0_divideExactly_12 (by decide) ?_
      exact key 1 ⟨fun q => absurd q (by decide), fun q => absurd (bsg_eq.mpr q) c_8⟩
  intro x hx
  refine zi_istore_n X dX0_divideExactly_16 rfl (by decide) ?_
  refine zi_aload_n X dX0_divideExactly_17 rfl rfl ?_
  refine zi_aload_n X dX0_divideExactly_18 rfl rfl ?_
  refine zi_aload_n X dX0_divideExactly_19 rfl rfl ?_
  refine zi_getf (C := RX0) (T := TX0) (N := 14) (ci := 4) X (by first | assumption | exact mup_self | (rw [mup_ne (by assumption)]; assumption) | (rw [mup_ne (by assumption)]; exact mup_self) | (rw [mup_ne (by assumption), mup_ne (by assumption)]; assumption)) rfl in_X0 2 (by decide) wf_X0_21 rfl rfl dX0_divideExactly_20 ?_
  refine zi_aload_n X dX0_divideExactly_23 rfl rfl ?_
  refine zi_getf (C := RX0) (T := TX0) (N := 14) (ci := 4) X (by first | assumption | exact mup_self | (rw [mup_ne (by assumption)]; assumption) | (rw [mup_ne (by assumption)]; exact mup_self) | (rw [mup_ne (by assumption), mup_ne (by assumption)]; assumption)) rfl in_X0 3 (by decide) wf_X0_24 rfl rfl dX0_divideExactly_24 ?_
  refine zi_callVv X (a_reduceBy l D hh hn hm hnm hv) kc_X1_reduceBy wm_X0_69 (by first | assumption | exact mup_self | (rw [mup_ne (by assumption)]; assumption) | (rw [mup_ne (by assumption)]; exact mup_self) | (rw [mup_ne (by assumption), mup_ne (by assumption)]; assumption)) rfl wim_X1_reduceBy wse_X1_reduceBy ⟨Nat.le_of_ble_eq_true rfl, Nat.le_of_ble_eq_true rfl⟩ rfl rfl (Nat.le_of_ble_eq_true rfl) ⟨Nat.le_of_ble_eq_true rfl, Nat.le_of_ble_eq_true rfl⟩ dX0_divideExactly_27 (fun g3 e3 => ?_)
  obtain ⟨e3, B2, e4, e5, e6, e7⟩ := e3
  have b0 := e4.2.2.2.1
  have b1 := (e4.1 n hn1).1
  refine zi_aload_n X dX0_divideExactly_30 rfl rfl ?_
  refine zi_aload_n X dX0_divideExactly_31 rfl rfl ?_
  refine zi_getf (C := RX0) (T := TX0) (N := 14) (ci := 4) X (by first | assumption | exact mup_self | (rw [mup_ne (by assumption)]; assumption) | (rw [mup_ne (by assumption)]; exact mup_self) | (rw [mup_ne (by assumption), mup_ne (by assumption)]; assumption)) rfl in_X0 3 (by decide) wf_X0_24 rfl rfl dX0_divideExactly_32 ?_
  refine zi_callVv X (k_become l D cA (e4.1 n hn1) (e4.1 157 (by decide)) (i0 _ _ (by decide) hn1 (by omega))) kc_X1_become wm_X0_77 (by first | assumption | exact mup_self | (rw [mup_ne (by assumption)]; assumption) | (rw [mup_ne (by assumption)]; exact mup_self) | (rw [mup_ne (by assumption), mup_ne (by assumption)]; assumption)) rfl wim_X1_become wse_X1_become ⟨Nat.le_of_ble_eq_true rfl, Nat.le_of_ble_eq_true rfl⟩ rfl rfl (Nat.le_of_ble_eq_true rfl) ⟨Nat.le_of_ble_eq_true rfl, Nat.le_of_ble_eq_true rfl⟩ dX0_divideExactly_35 (fun g5 e8 => ?_)
  have hh5 := hA_mbig (v := B2 157) e4 hn1 (e4.1 157 (by decide)).2.2
  rw [← e8] at hh5
  have hf5 : hfr S g5 h := hfr_tr (by rw [e8]; exact hfr_mbig hn1) e3
  refine zi_iload_n X dX0_divideExactly_38 rfl rfl ?_
  refine zi_if_eq (tgt := 46) X dX0_divideExactly_39 (by decide) (fun c_39 => ?_) (fun c_39 => ?_)
  · refine zi_return X Vz dX0_divideExactly_46 ?_
    refine ⟨hf5, _, hh5, fun k k1 k2 k3 => ?_, ?_⟩
    · rw [updI_n k1]; exact e5 k k1 k2 k3
    · rw [updI_s, e7]; exact tdiv_abs (hx.mp c_39)
  · refine zi_aload_n X dX0_divideExactly_42 rfl rfl ?_
    refine zi_callVv X (k_flip l D cA (hh5.1 n hn1)) kc_X1_flipSign wm_X0_96 ((hh5.1 n hn1).1) rfl wim_X1_flipSign wse_X1_flipSign ⟨Nat.le_of_ble_eq_true rfl, Nat.le_of_ble_eq_true rfl⟩ rfl rfl (Nat.le_of_ble_eq_true rfl) ⟨Nat.le_of_ble_eq_true rfl, Nat.le_of_ble_eq_true rfl⟩ dX0_divideExactly_43 (fun g6 e9 => ?_)
    have hh6 := hA_mbig (v := -(updI B2 n (B2 157) n)) hh5 hn1 (by rw [Int.natAbs_neg]; exact (hh5.1 n hn1).2.2)
    rw [← e9] at hh6
    refine zi_return X Vz dX0_divideExactly_46 ?_
    refine ⟨hfr_tr (by rw [e9]; exact hfr_mbig hn1) hf5, _, hh6, fun k k1 k2 k3 => ?_, ?_⟩
    · rw [updI_n k1, updI_n k1]; exact e5 k k1 k2 k3
    · rw [updI_s, updI_s, e7]; exact tdiv_abs_n (fun q => c_39 (hx.mpr q))
end ALG5
