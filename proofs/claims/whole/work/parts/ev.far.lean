/-! the bound of the roots; numbers of roots far out; isTrue -/
theorem bdF_ok (lead g : Nat) : ∀ m b, 1 ≤ b → g ≤ (2 ^ m * b - 1) * lead → g ≤ (bdF lead g m b - 1) * lead ∧ 1 ≤ bdF lead g m b
  | 0, b, hb, h => by rw [bdF]; rw [Nat.pow_zero, Nat.one_mul] at h; exact ⟨h, hb⟩
  | m + 1, b, hb, h => by
    rw [bdF]
    split
    · exact bdF_ok lead g m (2 * b) (by omega) (by rw [← Nat.mul_assoc, ← Nat.pow_succ]; exact h)
    · exact ⟨by omega, hb⟩
theorem bdF_l2 (lead g : Nat) : ∀ m n b, g ≤ (2 ^ n * b - 1) * lead → bdF lead g (n + m) b ≤ 2 ^ n * b
  | m, 0, b, h => by
    rw [Nat.pow_zero, Nat.one_mul] at h ⊢
    cases m with
    | zero => rw [Nat.add_zero, bdF]; exact Nat.le_refl _
    | succ m => rw [Nat.zero_add, bdF, if_neg (by omega)]; exact Nat.le_refl _
  | m, n + 1, b, h => by
    rw [show n + 1 + m = n + m + 1 by omega, bdF]
    split
    · have := bdF_l2 lead g m n (2 * b) (by rw [← Nat.mul_assoc, ← Nat.pow_succ]; exact h)
      rw [← Nat.mul_assoc, ← Nat.pow_succ] at this
      exact this
    · exact Nat.le_mul_of_pos_left b (Nat.pow_pos (by decide))
theorem rBd_ok {p : Nat → Int} (hp : ∀ k, k < 7 → (p k).natAbs ≤ 9999) (h0 : stI p 7 ≠ 0) : grP p (stI p 7 - 1) ≤ (rBd p - 1) * (p (stI p 7 - 1)).natAbs ∧ 1 ≤ rBd p ∧ rBd p ≤ 16384 := by
  have h7 := stI_le p 7
  have h1 := grP_le hp (stI p 7 - 1) (by omega)
  have h2 := stI_top (p := p) (n := 7) (by omega)
  have h3 : 1 ≤ (p (stI p 7 - 1)).natAbs := by omega
  unfold rBd
  generalize (p (stI p 7 - 1)).natAbs = lead at *
  generalize grP p (stI p 7 - 1) = g at *
  have e : g ≤ (2 ^ 14 * 1 - 1) * lead := by
    have : (2 ^ 14 * 1 - 1) * 1 ≤ (2 ^ 14 * 1 - 1) * lead := Nat.mul_le_mul_left _ h3
    omega
  have e2 : g ≤ (2 ^ 15 * 1 - 1) * lead := by
    have : (2 ^ 15 * 1 - 1) * 1 ≤ (2 ^ 15 * 1 - 1) * lead := Nat.mul_le_mul_left _ h3
    omega
  obtain ⟨a1, a2⟩ := bdF_ok lead g 15 1 (Nat.le_refl _) e2
  have a3 := bdF_l2 lead g 1 14 1 e
  exact ⟨a1, a2, a3⟩
theorem grP_at (p : Nat → Int) : ∀ n i, i < n → (p i).natAbs ≤ grP p n
  | n + 1, i, h => by
    rw [grP]
    by_cases c : i = n
    · rw [c]; exact Nat.le_max_right _ _
    · exact Nat.le_trans (grP_at p n i (by omega)) (Nat.le_max_left _ _)
theorem far_pp {L M X h x c : Rat} (hL : 0 < L) (hX : 1 ≤ X) (hM : M ≤ (X - 1) * L) (hx : X ≤ x) (hc : -M ≤ c) (hh : L ≤ h) : L ≤ h * x + c := by
  have a1 := Rat.mul_nonneg (a := h - L) (b := x) (by grind) (by grind)
  have a2 := Rat.mul_nonneg (a := L) (b := x - X) (by grind) (by grind)
  grind
theorem far_step {L M X h x c : Rat} (hL : 0 < L) (hX : 1 ≤ X) (hM : M ≤ (X - 1) * L) (hx : X ≤ x ∨ x ≤ -X) (hc : -M ≤ c ∧ c ≤ M) (hh : L ≤ h ∨ h ≤ -L) : L ≤ h * x + c ∨ h * x + c ≤ -L := by
  rcases hx with hx | hx <;> rcases hh with hh | hh
  · exact Or.inl (far_pp hL hX hM hx hc.1 hh)
  · have := far_pp (h := -h) (x := x) (c := -c) hL hX hM hx (by grind) (by grind)
    exact Or.inr (by grind)
  · have := far_pp (h := h) (x := -x) (c := -c) hL hX hM (by grind) (by grind) hh
    exact Or.inr (by grind)
  · have := far_pp (h := -h) (x := -x) (c := c) hL hX hM (by grind) hc.1 (by grind)
    exact Or.inl (by grind)
theorem cast_abs (v : Int) (M : Nat) (h : v.natAbs ≤ M) : -(M : Rat) ≤ (v : Rat) ∧ (v : Rat) ≤ (M : Rat) := by
  have e : ((M : Int) : Rat) = (M : Rat) := Rat.intCast_natCast M
  rw [← e]
  constructor
  · rw [← Rat.intCast_neg, Rat.intCast_le_intCast]; omega
  · rw [Rat.intCast_le_intCast]; omega
/-- what far points ask of a polynomial: M bounds the lower coefficients, L is the lead's size -/
def farK (p : Nat → Int) (b : Nat) : Prop := 1 ≤ b ∧ ∀ i, i < stI p 7 - 1 → (p i).natAbs ≤ (b - 1) * (p (stI p 7 - 1)).natAbs
theorem far_M {p : Nat → Int} {b : Nat} (hb : farK p b) {i : Nat} (hi : i < stI p 7 - 1) : (-(((b : Rat) - 1) * ((p (stI p 7 - 1)).natAbs : Rat)) ≤ (p i : Rat)) ∧ (p i : Rat) ≤ ((b : Rat) - 1) * ((p (stI p 7 - 1)).natAbs : Rat) := by
  have h1 := cast_abs (p i) _ (hb.2 i hi)
  have e : (((b - 1) * (p (stI p 7 - 1)).natAbs : Nat) : Rat) = ((b : Rat) - 1) * ((p (stI p 7 - 1)).natAbs : Rat) := by
    rw [Rat.natCast_mul]
    have : ((b - 1 : Nat) : Rat) + 1 = (b : Rat) := by
      have := ra_c1 (b - 1)
      rw [show b - 1 + 1 = b by have := hb.1; omega] at this
      exact this.symm
    rw [← this]; grind
  rw [e] at h1
  exact h1
theorem far_iv (p : Nat → Int) (x : Rat) : iv p x = hoR p (stI p 7) x (stI p 7) := by
  have e3 := hoR_V p (stI p 7) x (stI p 7) (Nat.le_refl _)
  rw [Nat.sub_self, ivn_0, ← ivn_st p _ 7, Rat.pow_zero] at e3
  unfold iv
  rw [e3]; grind
theorem far_L {p : Nat → Int} (h0 : stI p 7 ≠ 0) : (0 : Rat) < ((p (stI p 7 - 1)).natAbs : Rat) := by
  have h2 := stI_top (p := p) (n := 7) (by omega)
  rw [Rat.natCast_pos]; omega
theorem one_le_c {b : Nat} (h : 1 ≤ b) : (1 : Rat) ≤ (b : Rat) := by
  have : ((1 : Nat) : Rat) ≤ (b : Rat) := Rat.natCast_le_natCast.mpr h
  exact this
/-- far out a polynomial is not small -/
theorem p_far {p : Nat → Int} {b : Nat} (h0 : stI p 7 ≠ 0) (hb : farK p b) {x : Rat} (hx : (b : Rat) ≤ x ∨ x ≤ -(b : Rat)) : ((p (stI p 7 - 1)).natAbs : Rat) ≤ iv p x ∨ iv p x ≤ -((p (stI p 7 - 1)).natAbs : Rat) := by
  rw [far_iv]
  have key : ∀ m, m + 1 ≤ stI p 7 → ((p (stI p 7 - 1)).natAbs : Rat) ≤ hoR p (stI p 7) x (m + 1) ∨ hoR p (stI p 7) x (m + 1) ≤ -((p (stI p 7 - 1)).natAbs : Rat) := by
    intro m
    induction m with
    | zero =>
      intro _
      have e : hoR p (stI p 7) x (0 + 1) = (p (stI p 7 - 1) : Rat) := by rw [hoR, hoR, Nat.sub_zero]; grind
      rw [e]
      generalize p (stI p 7 - 1) = v
      rcases Int.lt_or_le v 0 with w | w
      · refine Or.inr ?_
        have : (v : Rat) = -((v.natAbs : Nat) : Rat) := by
          rw [← Rat.intCast_natCast, ← Rat.intCast_neg]; congr 1; omega
        rw [this]; exact Rat.le_refl
      · refine Or.inl ?_
        have : (v : Rat) = ((v.natAbs : Nat) : Rat) := by
          rw [← Rat.intCast_natCast]; congr 1; omega
        rw [← this]; exact Rat.le_refl
    | succ m ih =>
      intro h
      rw [hoR]
      exact far_step (far_L h0) (one_le_c hb.1) Rat.le_refl hx (far_M hb (by omega)) (ih (by omega))
  have := key (stI p 7 - 1) (by omega)
  rwa [show stI p 7 - 1 + 1 = stI p 7 by omega] at this
theorem p_up {p : Nat → Int} {b : Nat} (h0 : stI p 7 ≠ 0) (hl : 0 < ldI p) (hb : farK p b) {x : Rat} (hx : (b : Rat) ≤ x) : 0 < iv p x := by
  rw [far_iv]
  have key : ∀ m, m + 1 ≤ stI p 7 → ((p (stI p 7 - 1)).natAbs : Rat) ≤ hoR p (stI p 7) x (m + 1) := by
    intro m
    induction m with
    | zero =>
      intro _
      have e : hoR p (stI p 7) x (0 + 1) = (p (stI p 7 - 1) : Rat) := by rw [hoR, hoR, Nat.sub_zero]; grind
      rw [e]
      unfold ldI at hl
      generalize p (stI p 7 - 1) = v at *
      have : (v : Rat) = ((v.natAbs : Nat) : Rat) := by
        rw [← Rat.intCast_natCast]; congr 1; omega
      rw [← this]; exact Rat.le_refl
    | succ m ih =>
      intro h
      rw [hoR]
      exact far_pp (far_L h0) (one_le_c hb.1) Rat.le_refl hx (far_M hb (by omega)).1 (ih (by omega))
  have := key (stI p 7 - 1) (by omega)
  rw [show stI p 7 - 1 + 1 = stI p 7 by omega] at this
  have := far_L h0
  grind
/-- never small, never of another sign -/
theorem sgn_const {l : List Rat} {u v ep : Rat} (hep : 0 < ep) (h : ∀ x, u ≤ x → x ≤ v → ep ≤ raV l x ∨ raV l x ≤ -ep) : ∀ x y, u ≤ x → x < y → y ≤ v → 0 < raV l x * raV l y := by
  intro x y hx hxy hy
  obtain ⟨X, hX, hXx, hXy⟩ := ra_two x y
  obtain ⟨C, hC, hlip⟩ := raV_lip X hX l
  obtain ⟨d, hd, hCd⟩ := ra_quo (K := C) (P := ep) hC hep
  obtain ⟨t, t1, t2, t3⟩ := raZ_ex (d := d) hd hxy
  have pos : ∀ a b : Rat, u ≤ a → b ≤ v → a < b → b - a ≤ d → raI X a → raI X b → 0 < raV l a → 0 < raV l b := by
    intro a b h1 h2 h3 h4 h5 h6 h7
    have k := hlip a b h5 h6 (Rat.le_of_lt h3)
    have kk := Rat.mul_nonneg (a := C) (b := d - (b - a)) hC (by grind)
    rcases h a h1 (by grind) with w | w
    · rcases h b (by grind) h2 with q | q
      · grind
      · have := k.1
        grind
    · grind
  have neg : ∀ a b : Rat, u ≤ a → b ≤ v → a < b → b - a ≤ d → raI X a → raI X b → raV l a < 0 → raV l b < 0 := by
    intro a b h1 h2 h3 h4 h5 h6 h7
    have k := hlip a b h5 h6 (Rat.le_of_lt h3)
    have kk := Rat.mul_nonneg (a := C) (b := d - (b - a)) hC (by grind)
    rcases h a h1 (by grind) with w | w
    · grind
    · rcases h b (by grind) h2 with q | q
      · have := k.2
        grind
      · grind
  have go : ∀ (t : List Rat) (a : Rat), raZ d a t → raE a t = y → x ≤ a → a ≤ y → (0 < raV l a → 0 < raV l y) ∧ (raV l a < 0 → raV l y < 0) := by
    intro t
    induction t with
    | nil => intro a _ h2 _ _; rw [raE] at h2; rw [h2]; exact ⟨id, id⟩
    | cons b t ih =>
      intro a h1 h2 h3 h4
      rw [raE] at h2
      have hb := raZ_le t b h1.2.2
      rw [h2] at hb
      have ia : raI X a := ra_mid hXx hXy h3 h4
      have ib : raI X b := ra_mid hXx hXy (by have := h1.1; grind) hb
      obtain ⟨i1, i2⟩ := ih b h1.2.2 h2 (by have := h1.1; grind) hb
      exact ⟨fun q => i1 (pos a b (by grind) (by grind) h1.1 h1.2.1 ia ib q), fun q => i2 (neg a b (by grind) (by grind) h1.1 h1.2.1 ia ib q)⟩
  obtain ⟨g1, g2⟩ := go t x t2 t3 Rat.le_refl (Rat.le_of_lt hxy)
  rcases h x hx (by grind) with w | w
  · exact Rat.mul_pos (by grind) (g1 (by grind))
  · have a1 := g2 (by grind)
    have := Rat.mul_pos (a := -raV l x) (b := -raV l y) (by grind) (by grind)
    grind
