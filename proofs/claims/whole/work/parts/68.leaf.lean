/-! the first that is not 0; lists from behind; signs near 0 -/
def raB : List Rat → Rat
  | [] => 0
  | a :: t => if a = 0 then raB t else a
theorem raF_app : ∀ (l : List Rat) (p a : Rat), raF p (l ++ [a]) = if a = 0 then raF p l else a
  | [], p, a => by simp only [List.nil_append, raF]
  | b :: l, p, a => by
    rw [List.cons_append, raF, raF, raF_app l p a, raF_app l b a]
    split <;> split <;> rfl
theorem raF_rev : ∀ (l : List Rat), raF 0 l.reverse = raB l
  | [] => rfl
  | a :: t => by rw [List.reverse_cons, raF_app, raF_rev t, raB]
theorem raC_app : ∀ (l : List Rat) (p a : Rat), raC p (l ++ [a]) = raC p l + (if a * raF p l < 0 then 1 else 0)
  | [], p, a => by
    rw [List.nil_append, raC, raC, raF]
    by_cases h : a = 0
    · rw [if_pos h, h, Rat.zero_mul, if_neg (by decide)]; rfl
    · rw [if_neg h, raC]; omega
  | b :: l, p, a => by
    rw [List.cons_append, raC, raC, raF, raC_app l p a, raC_app l b a]
    split <;> omega
theorem raC_p : ∀ (l : List Rat) (p : Rat), raC p l = raC 0 l + (if raB l * p < 0 then 1 else 0)
  | [], p => by rw [raC, raC, raB, Rat.zero_mul, if_neg (by decide)]
  | a :: t, p => by
    rw [raB]
    by_cases h : a = 0
    · rw [raC, raC, if_pos h, if_pos h, if_pos h]; exact raC_p t p
    · rw [if_neg h, raC_z h, raC, if_neg h]; omega
theorem raC_rev : ∀ (l : List Rat), raC 0 l.reverse = raC 0 l
  | [] => rfl
  | a :: t => by
    rw [List.reverse_cons, raC_app, raC_rev t, raF_rev]
    by_cases h : a = 0
    · rw [raC, if_pos h, h, Rat.zero_mul, if_neg (by decide), Nat.add_zero]
    · rw [raC_z h, raC_p t a, Rat.mul_comm]
theorem raC_parB (l : List Rat) : raC 0 l % 2 = if raF 0 l * raB l < 0 then 1 else 0 := by
  induction l with
  | nil => rw [raC, raF, Rat.zero_mul, if_neg (by decide)]
  | cons a t ih =>
    rw [raF, raB]
    by_cases h : a = 0
    · rw [raC, if_pos h, if_pos h, if_pos h]; exact ih
    · rw [raC_z h, if_neg h, if_neg h]; exact raC_par t a h
theorem raV_app : ∀ (l : List Rat) (a x : Rat), raV (l ++ [a]) x = raV l x + a * x ^ l.length
  | [], a, x => by simp only [List.nil_append, raV, List.length_nil, Rat.pow_zero]; grind
  | b :: l, a, x => by
    rw [List.cons_append, raV, raV, raV_app l a x, List.length_cons, Rat.pow_succ]
    generalize x ^ l.length = y
    grind
theorem raV_rev : ∀ (l : List Rat) (y : Rat), y ≠ 0 → raV l.reverse y = y ^ (l.length - 1) * raV l y⁻¹
  | [], y, _ => by simp only [List.reverse_nil, raV]; grind
  | [a], y, _ => by simp only [List.reverse_cons, List.reverse_nil, List.nil_append, raV, List.length_cons, List.length_nil, Rat.pow_zero]; grind
  | a :: b :: t, y, h => by
    have ih := raV_rev (b :: t) y h
    rw [List.reverse_cons, raV_app, ih, List.length_reverse, show raV (a :: b :: t) y⁻¹ = a + y⁻¹ * raV (b :: t) y⁻¹ from rfl]
    clear ih
    simp only [List.length_cons, Nat.add_sub_cancel]
    rw [Rat.pow_succ]
    have h2 := Rat.mul_inv_cancel y h
    generalize y ^ t.length = z at *
    generalize raV (b :: t) y⁻¹ = w at *
    grind
theorem ra_nr1 {a x M t : Rat} (hx : 0 < x) (ht : raI M t) (h : M * x < a) : 0 < a + x * t := by
  obtain ⟨h1, h2⟩ := ht
  have := Rat.mul_le_mul_of_nonneg_left h1 (Rat.le_of_lt hx)
  grind
theorem ra_nr2 {a x M t : Rat} (hx : 0 < x) (ht : raI M t) (h : M * x < -a) : a + x * t < 0 := by
  obtain ⟨h1, h2⟩ := ht
  have := Rat.mul_le_mul_of_nonneg_left h2 (Rat.le_of_lt hx)
  grind
/-- right of 0 the first coefficient that isn't 0 gives the sign -/
theorem ra_near : ∀ (l : List Rat), ∃ e, 0 < e ∧ ∀ x, 0 < x → x ≤ e → raG (raV l x) (raB l)
  | [] => ⟨1, by decide, fun x _ _ => raG_rf 0⟩
  | a :: t => by
    by_cases h : a = 0
    · obtain ⟨e, he, h1⟩ := ra_near t
      refine ⟨e, he, fun x hx hx2 => ?_⟩
      have h2 := h1 x hx hx2
      rw [raB, if_pos h, raV, h, Rat.zero_add]
      exact ⟨Iff.trans (raG_k hx).1 h2.1, Iff.trans (raG_k hx).2 h2.2⟩
    · obtain ⟨M, hM, hb⟩ := raV_bd 1 (by decide) t
      rw [raB, if_neg h]
      by_cases h0 : 0 < a
      · obtain ⟨d, hd, h2⟩ := ra_quo hM h0
        obtain ⟨e, he, h3, h4⟩ := ra_min hd (by decide : (0 : Rat) < 1)
        refine ⟨e, he, fun x hx hx2 => ?_⟩
        have := ra_nr1 hx (hb x ⟨by grind, by grind⟩) (ra_mono hM (Rat.le_trans hx2 h3) h2)
        rw [raV]
        exact ⟨⟨fun q => by grind, fun q => by grind⟩, ⟨fun q => by grind, fun q => by grind⟩⟩
      · have h1 : 0 < -a := by grind
        obtain ⟨d, hd, h2⟩ := ra_quo hM h1
        obtain ⟨e, he, h3, h4⟩ := ra_min hd (by decide : (0 : Rat) < 1)
        refine ⟨e, he, fun x hx hx2 => ?_⟩
        have := ra_nr2 hx (hb x ⟨by grind, by grind⟩) (ra_mono hM (Rat.le_trans hx2 h3) h2)
        rw [raV]
        exact ⟨⟨fun q => by grind, fun q => by grind⟩, ⟨fun q => by grind, fun q => by grind⟩⟩
theorem raC_two {l : List Rat} {a b : Rat} (ha : a ∈ l) (hb : b ∈ l) (h : a * b < 0) : 1 ≤ raC 0 l := by
  have key : ∀ (l : List Rat) (p : Rat), raC p l = 0 → ∀ x ∈ l, ¬ x * p < 0 ∧ ∀ y ∈ l, ¬ x * y < 0 := by
    intro l
    induction l with
    | nil => intro p _ x hx; cases hx
    | cons c t ih =>
      intro p h0 x hx
      rw [raC] at h0
      by_cases hc : c = 0
      · rw [if_pos hc] at h0
        have zz : ∀ y, ¬ c * y < 0 := fun y => by rw [hc, Rat.zero_mul]; decide
        have zy : ∀ y, ¬ y * c < 0 := fun y => by rw [hc, Rat.mul_zero]; decide
        rcases List.mem_cons.mp hx with q | q
        · subst q; exact ⟨zz p, fun y _ => zz y⟩
        · refine ⟨(ih p h0 x q).1, fun y hy => ?_⟩
          rcases List.mem_cons.mp hy with r | r
          · subst r; exact zy x
          · exact (ih p h0 x q).2 y r
      · rw [if_neg hc] at h0
        have h1 : ¬ c * p < 0 := fun w => by rw [if_pos w] at h0; omega
        have h2 : raC c t = 0 := by omega
        have own : ¬ c * c < 0 := Rat.not_lt.mpr (ra_sq c)
        rcases List.mem_cons.mp hx with q | q
        · subst q
          refine ⟨h1, fun y hy => ?_⟩
          rcases List.mem_cons.mp hy with r | r
          · subst r; exact own
          · rw [Rat.mul_comm]; exact (ih x h2 y r).1
        · have h3 := ih c h2 x q
          refine ⟨fun w => ?_, fun y hy => ?_⟩
          · have a1 := h3.1
            rw [ra_neg_iff] at w a1 h1
            grind
          · rcases List.mem_cons.mp hy with r | r
            · subst r; exact h3.1
            · exact h3.2 y r
  rcases Nat.eq_zero_or_pos (raC 0 l) with q | q
  · exact absurd h ((key l 0 q a ha).2 b hb)
  · exact q
