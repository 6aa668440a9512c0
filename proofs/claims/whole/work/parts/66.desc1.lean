/-! Descartes: coefficients and values at increasing points -/
/-- the last that is not 0 -/
def raF : Rat → List Rat → Rat
  | p, [] => p
  | p, a :: t => if a = 0 then raF p t else raF a t
theorem ra_s3 {a b c : Rat} (ha : a ≠ 0) (hb : b ≠ 0) (hc : c ≠ 0) : ((if a * b < 0 then 1 else 0) + (if c * a < 0 then 1 else 0)) % 2 = (if c * b < 0 then 1 else 0 : Nat) := by
  have h1 := ra_neg_iff (a := a) (b := b)
  have h2 := ra_neg_iff (a := c) (b := a)
  have h3 := ra_neg_iff (a := c) (b := b)
  by_cases x1 : a < 0 <;> by_cases x2 : b < 0 <;> by_cases x3 : c < 0
  all_goals
    have y1 : a < 0 ∨ 0 < a := by grind
    have y2 : b < 0 ∨ 0 < b := by grind
    have y3 : c < 0 ∨ 0 < c := by grind
    rw [ra_if h1, ra_if h2, ra_if h3]
    have z1 : ¬ (a < 0 ∧ 0 < a) := by grind
    have z2 : ¬ (b < 0 ∧ 0 < b) := by grind
    have z3 : ¬ (c < 0 ∧ 0 < c) := by grind
    clear h1 h2 h3
    by_cases w1 : 0 < a <;> by_cases w2 : 0 < b <;> by_cases w3 : 0 < c <;> simp_all
theorem raF_nz : ∀ (l : List Rat) (p : Rat), p ≠ 0 → raF p l ≠ 0
  | [], p, h => h
  | a :: t, p, h => by
    rw [raF]
    split
    · exact raF_nz t p h
    · next q => exact raF_nz t a q
theorem raC_par : ∀ (l : List Rat) (p : Rat), p ≠ 0 → raC p l % 2 = if raF p l * p < 0 then 1 else 0
  | [], p, h => by
    have := ra_sq p
    rw [raC, raF, if_neg (Rat.not_lt.mpr this)]
  | a :: t, p, h => by
    rw [raC, raF]
    by_cases ha : a = 0
    · rw [if_pos ha, if_pos ha]; exact raC_par t p h
    · rw [if_neg ha, if_neg ha]
      have ih := raC_par t a ha
      have := ra_s3 ha h (raF_nz t a ha)
      omega
/-- one coefficient takes on some of the next -/
theorem raC_ea {k p a b : Rat} {l : List Rat} (hk : 0 ≤ k) : raC p ((a + k * b) :: b :: l) ≤ raC p (a :: b :: l) := by
  by_cases hb : b = 0
  · rw [hb, Rat.mul_zero, Rat.add_zero]; exact Nat.le_refl _
  · obtain ⟨x, hx⟩ : ∃ x, x = a + k * b := ⟨_, rfl⟩
    rw [← hx]
    have e : ∀ y, raC p (y :: b :: l) = (if y = 0 then (if b * p < 0 then 1 else 0) else (if y * p < 0 then 1 else 0) + (if b * y < 0 then 1 else 0)) + raC b l := fun y => by
      rw [raC, raC, raC, if_neg hb, if_neg hb]
      split <;> omega
    rw [e, e]
    have h1 := ra_neg_iff (a := a) (b := p)
    have h2 := ra_neg_iff (a := b) (b := a)
    have h3 := ra_neg_iff (a := b) (b := p)
    have h4 := ra_neg_iff (a := x) (b := p)
    have h5 := ra_neg_iff (a := b) (b := x)
    have kb : (0 < b → 0 ≤ k * b) ∧ (b < 0 → k * b ≤ 0) := ⟨fun q => Rat.mul_nonneg hk (Rat.le_of_lt q), fun q => by have := Rat.mul_nonneg hk (b := -b) (by grind); grind⟩
    have c1 : 0 < b → a ≤ x := fun q => by have := kb.1 q; grind
    have c2 : b < 0 → x ≤ a := fun q => by have := kb.2 q; grind
    clear hx kb e
    have hb2 : b < 0 ∨ 0 < b := by grind
    refine Nat.add_le_add_right ?_ _
    rw [ra_if h1, ra_if h2, ra_if h3, ra_if h4, ra_if h5]
    clear h1 h2 h3 h4 h5
    rcases hb2 with hb2 | hb2
    · have c3 := c2 hb2
      have n : ¬ 0 < b := by grind
      by_cases p1 : p < 0 <;> by_cases p2 : 0 < p <;> by_cases a1 : a < 0 <;> by_cases a2 : 0 < a <;> by_cases x1 : x < 0 <;> by_cases x2 : 0 < x <;> by_cases a0 : a = 0 <;> by_cases x0 : x = 0 <;> first | (exfalso; grind; done) | (simp only [hb2, n, p1, p2, a1, a2, x1, x2, a0, x0, if_true, if_false, and_true, true_and, and_false, false_and, or_true, true_or, or_false, false_or]; omega) | simp_all
    · have c3 := c1 hb2
      have n : ¬ b < 0 := by grind
      by_cases p1 : p < 0 <;> by_cases p2 : 0 < p <;> by_cases a1 : a < 0 <;> by_cases a2 : 0 < a <;> by_cases x1 : x < 0 <;> by_cases x2 : 0 < x <;> by_cases a0 : a = 0 <;> by_cases x0 : x = 0 <;> first | (exfalso; grind; done) | (simp only [hb2, n, p1, p2, a1, a2, x1, x2, a0, x0, if_true, if_false, and_true, true_and, and_false, false_and, or_true, true_or, or_false, false_or]; omega) | simp_all
