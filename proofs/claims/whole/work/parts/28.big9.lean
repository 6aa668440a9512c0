/-! SturmRoots$Big: reduceBy, the long division -/
theorem kn_q {Z S L z P B : Nat} (hP : 0 < P) (hL : L = S / P) (hz : z = Z / P) (hZ : Z < B * S) (hLB : B ≤ 2 * L) (hB : 0 < B) : Z / S ≤ min (z / L) (B - 1) ∧ min (z / L) (B - 1) ≤ Z / S + 2 := by
  have hL0 : 0 < L := by omega
  have h1 : L * P ≤ S := by rw [hL]; exact Nat.div_mul_le_self S P
  have h2 : S < (L + 1) * P := by
    rw [hL]
    have := Nat.lt_div_mul_add hP (a := S)
    rw [Nat.succ_mul]
    exact this
  have hS : 0 < S := Nat.lt_of_lt_of_le (Nat.mul_pos hL0 hP) h1
  have hq : Z / S < B := Nat.div_lt_of_lt_mul (by rw [Nat.mul_comm]; exact hZ)
  have hq1 : Z / S * S ≤ Z := Nat.div_mul_le_self Z S
  constructor
  · have : Z / S ≤ z / L := by
      refine (Nat.le_div_iff_mul_le hL0).mpr ?_
      rw [hz]
      refine (Nat.le_div_iff_mul_le hP).mpr ?_
      rw [Nat.mul_assoc]
      exact Nat.le_trans (Nat.mul_le_mul_left _ h1) hq1
    omega
  · generalize hg : min (z / L) (B - 1) = g
    have hg1 : g ≤ z / L := by omega
    have hg2 : g ≤ B - 1 := by omega
    have h3 : g * L * P ≤ Z := by
      have := (Nat.le_div_iff_mul_le hL0).mp hg1
      rw [hz] at this
      exact (Nat.le_div_iff_mul_le hP).mp this
    have h4 : Z < (Z / S + 1) * S := by
      have := Nat.lt_div_mul_add hS (a := Z)
      rw [Nat.succ_mul]
      exact this
    generalize Z / S = q at h4 ⊢
    by_cases hc : g ≤ q + 2
    · exact hc
    · obtain ⟨k, rfl⟩ : ∃ k, g = k + 2 := ⟨g - 2, by omega⟩
      have h5 : (q + 1) * S ≤ k * S := Nat.mul_le_mul_right _ (by omega)
      have h6 : k * S ≤ k * ((L + 1) * P) := Nat.mul_le_mul_left _ (Nat.le_of_lt h2)
      have h7 : (k + 2) * L * P < k * (L + 1) * P := by
        rw [Nat.mul_assoc k]
        omega
      have h8 := Nat.lt_of_mul_lt_mul_right h7
      rw [Nat.add_mul, Nat.mul_add] at h8
      omega
theorem kn_norm {t B : Nat} (ht : 0 < t) (htB : t < B) : B ≤ 2 * (t * (B / (t + 1))) ∨ (B = 2 * (B / 2) + 1 ∧ B ≤ 2 * (t * (B / (t + 1))) + 1) := by
  have h1 := Nat.div_add_mod B (t + 1)
  have h2 := Nat.mod_lt B (show 0 < t + 1 by omega)
  generalize B / (t + 1) = f at *
  generalize B % (t + 1) = ρ at *
  rw [Nat.succ_mul] at h1
  have h3 : f * t = t * f := Nat.mul_comm f t
  by_cases hf : f ≤ 1
  · have : f = 0 ∨ f = 1 := by omega
    rcases this with rfl | rfl
    · omega
    · by_cases hq : ρ = t
      · right; omega
      · left; omega
  · by_cases ht1 : t = 1
    · subst ht1
      omega
    · have : 2 * (t - 1) ≤ f * (t - 1) := Nat.mul_le_mul_right _ (by omega)
      have h4 : f * (t - 1) + f = t * f := by
        rw [← Nat.mul_succ, h3.symm]
        congr 1
        omega
      left
      omega
theorem kn_norm_BB {t : Nat} (ht : 0 < t) (htB : t < BB) : BB ≤ 2 * (t * (BB / (t + 1))) ∧ 0 < BB / (t + 1) ∧ BB / (t + 1) < BB := by
  refine ⟨?_, Nat.div_pos (by omega) (by omega), Nat.div_lt_self (by omega) (by omega)⟩
  rcases kn_norm ht htB with h | h
  · exact h
  · have := h.1
    exact absurd this (by decide)
/-- the divisor scaled: n limbs, the first of them large -/
theorem kn_scaled {W n t f : Nat} (hW : W < BB ^ (n + 1)) (ht : t = W / BB ^ n) (ht0 : 0 < t) (hf : f = BB / (t + 1)) : W * f < BB ^ (n + 1) ∧ BB ≤ 2 * (W * f / BB ^ n) ∧ 0 < f ∧ f < BB := by
  have htB : t < BB := by
    rw [ht]
    refine Nat.div_lt_of_lt_mul ?_
    rw [← Nat.pow_succ]
    exact hW
  obtain ⟨a1, a2, a3⟩ := kn_norm_BB ht0 htB
  rw [← hf] at a1 a2 a3
  have h1 : W < (t + 1) * BB ^ n := by
    have := Nat.lt_div_mul_add (BB_pos n) (a := W)
    rw [← ht] at this
    rw [Nat.succ_mul]
    exact this
  have h2 : (t + 1) * f ≤ BB := by
    rw [hf]
    exact Nat.mul_div_le BB (t + 1)
  refine ⟨?_, ?_, a2, a3⟩
  · have h3 : W * f < (t + 1) * BB ^ n * f := Nat.mul_lt_mul_of_pos_right h1 a2
    have h4 : (t + 1) * BB ^ n * f = (t + 1) * f * BB ^ n := by ac_rfl
    have h5 : (t + 1) * f * BB ^ n ≤ BB * BB ^ n := Nat.mul_le_mul_right _ h2
    rw [Nat.pow_succ, Nat.mul_comm (BB ^ n) BB]
    omega
  · have h3 : t * f ≤ W * f / BB ^ n := by
      refine (Nat.le_div_iff_mul_le (BB_pos n)).mpr ?_
      have h4 : t * f * BB ^ n = t * BB ^ n * f := by ac_rfl
      rw [h4]
      refine Nat.mul_le_mul_right _ ?_
      rw [ht]
      exact Nat.div_mul_le_self W _
    omega
theorem kn_top {e : Nat → Nat} {i n : Nat} (h : ∀ j, j < 20 → e j < BB) (hn : i + n + 2 ≤ 20) : bval (bsl e i) (n + 2) / BB ^ n = e (i + n + 1) * BB + e (i + n) := by
  have h1 : bval (bsl e i) n < BB ^ n := bval_bsl_lt h (by omega)
  have e1 : bval (bsl e i) (n + 2) = bval (bsl e i) n + (e (i + n + 1) * BB + e (i + n)) * BB ^ n := by
    rw [bval, bval, Nat.add_mul, Nat.pow_succ, Nat.add_assoc]
    congr 1
    have a1 : bsl e i (n + 1) = e (i + n + 1) := by unfold bsl; rw [← Nat.add_assoc]
    have a2 : bsl e i n = e (i + n) := rfl
    rw [a1, a2, Nat.add_comm]
    congr 1
    ac_rfl
  rw [e1, Nat.add_mul_div_right _ _ (BB_pos n), Nat.div_eq_of_lt h1, Nat.zero_add]
