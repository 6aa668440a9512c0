/-! near two roots: a small combination that is no constant 0 is too small -/
def ab (x : Rat) : Rat := if x < 0 then -x else x
theorem au_nn (x : Rat) : 0 ≤ ab x := by unfold ab; split <;> grind
theorem au_le {x k : Rat} : ab x ≤ k ↔ -k ≤ x ∧ x ≤ k := by unfold ab; split <;> constructor <;> intro h <;> grind
theorem au_add (x y : Rat) : ab (x + y) ≤ ab x + ab y := by unfold ab; split <;> split <;> split <;> grind
theorem au_neg (x : Rat) : ab (-x) = ab x := by unfold ab; split <;> split <;> grind
theorem au_sub (x y : Rat) : ab (x - y) ≤ ab x + ab y := by unfold ab; split <;> split <;> split <;> grind
theorem au_pos {x : Rat} (h : 0 ≤ x) : ab x = x := by unfold ab; split <;> grind
theorem au_mul (x y : Rat) : ab (x * y) = ab x * ab y := by
  rcases ra_lt_or x 0 with a | a
  · rcases ra_lt_or y 0 with b | b
    · have := Rat.mul_pos (a := -x) (b := -y) (by grind) (by grind)
      rw [au_pos (x := x * y) (by grind)]
      unfold ab
      rw [if_pos a, if_pos b]; grind
    · have := Rat.mul_nonneg (a := -x) (b := y) (by grind) b
      rw [au_pos b, ← au_neg, au_pos (x := -(x * y)) (by grind)]
      unfold ab
      rw [if_pos a]; grind
  · rcases ra_lt_or y 0 with b | b
    · have := Rat.mul_nonneg (a := x) (b := -y) a (by grind)
      rw [au_pos a, ← au_neg, au_pos (x := -(x * y)) (by grind)]
      unfold ab
      rw [if_pos b]; grind
    · rw [au_pos a, au_pos b, au_pos (Rat.mul_nonneg a b)]
theorem au_0 : ab 0 = 0 := by unfold ab; split <;> rfl
theorem au_pow (x : Rat) : ∀ n : Nat, ab (x ^ n) = ab x ^ n
  | 0 => by rw [Rat.pow_zero, Rat.pow_zero]; exact au_pos (by decide)
  | n + 1 => by rw [Rat.pow_succ, Rat.pow_succ, au_mul, au_pow x n]
theorem au_int (z : Int) : ab (z : Rat) = ((z.natAbs : Nat) : Rat) := by
  rcases Int.le_total 0 z with h | h
  · obtain ⟨k, rfl⟩ : ∃ k : Nat, z = k := ⟨z.toNat, by omega⟩
    rw [au_pos (by rw [← Rat.intCast_zero]; exact Rat.intCast_le_intCast.mpr h), Int.natAbs_natCast, Rat.intCast_natCast]
  · obtain ⟨k, rfl⟩ : ∃ k : Nat, z = -k := ⟨(-z).toNat, by omega⟩
    rw [Rat.intCast_neg, au_neg, Int.natAbs_neg, Int.natAbs_natCast, Rat.intCast_natCast]
    exact au_pos (Rat.natCast_nonneg)
theorem rm_le {a b c d : Rat} (ha : 0 ≤ a) (hab : a ≤ b) (hc : 0 ≤ c) (hcd : c ≤ d) : a * c ≤ b * d := by
  have h1 := Rat.mul_nonneg (a := b - a) (b := c) (by grind) hc
  have h2 := Rat.mul_nonneg (a := b) (b := d - c) (by grind) (by grind)
  grind
theorem rc_le {a b c : Rat} (hc : 0 < c) (h : a * c ≤ b * c) : a ≤ b := by
  rcases ra_lt_or b a with w | w
  · have := Rat.mul_pos (a := a - b) (b := c) (by grind) hc
    grind
  · exact w
theorem au_m {x y X Y : Rat} (hx : ab x ≤ X) (hy : ab y ≤ Y) : ab (x * y) ≤ X * Y := by
  rw [au_mul]
  exact rm_le (au_nn x) hx (au_nn y) hy
theorem near {A0 A1 B0 B1 s0 s1 t2 F kap w M sg Y : Rat} (hF : F = A0 * s0 + B0 * s1) (hD : A1 * s0 + A0 * s1 + B1 * s1 + B0 * (2 * t2) = kap * F) (hk : ab kap ≤ 10) (a0 : ab A0 ≤ Y) (a1 : ab A1 ≤ Y) (b0 : ab B0 ≤ Y) (b1 : ab B1 ≤ Y) (hw : 0 < w) (hw1 : w ≤ 1) (hsg : 0 ≤ sg) (h0 : ab s0 ≤ 13 * (w * (w * sg))) (h1 : ab s1 ≤ 12 * (w * sg)) (hs : sg ≤ ab t2 + w * M) (hsM : sg ≤ M) : ab F ≤ 4000 * (Y * (w * (w * M))) := by
  have hY : 0 ≤ Y := Rat.le_trans (au_nn A0) a0
  have hM : 0 ≤ M := Rat.le_trans hsg hsM
  have hws : 0 ≤ w * sg := Rat.mul_nonneg (Rat.le_of_lt hw) hsg
  have hwws : 0 ≤ w * (w * sg) := Rat.mul_nonneg (Rat.le_of_lt hw) hws
  have hww : w * (w * sg) ≤ w * sg := by
    have := rm_le (Rat.le_of_lt hw) hw1 hws Rat.le_refl
    grind
  have u0 : 0 ≤ Y * (w * sg) := Rat.mul_nonneg hY hws
  have u1 : 0 ≤ Y * (w * (w * sg)) := Rat.mul_nonneg hY hwws
  have u2 : Y * (w * (w * sg)) ≤ Y * (w * sg) := rm_le hY Rat.le_refl hwws hww
  have u3 : Y * (w * (w * sg)) ≤ Y * (w * (w * M)) := rm_le hY Rat.le_refl hwws (rm_le (Rat.le_of_lt hw) Rat.le_refl hws (rm_le (Rat.le_of_lt hw) Rat.le_refl hsg hsM))
  have e0 : ab (A0 * s0) ≤ 13 * (Y * (w * (w * sg))) := by have := au_m a0 h0; grind
  have e1 : ab (B0 * s1) ≤ 12 * (Y * (w * sg)) := by have := au_m b0 h1; grind
  have e2 : ab (A1 * s0) ≤ 13 * (Y * (w * (w * sg))) := by have := au_m a1 h0; grind
  have e3 : ab (A0 * s1) ≤ 12 * (Y * (w * sg)) := by have := au_m a0 h1; grind
  have e4 : ab (B1 * s1) ≤ 12 * (Y * (w * sg)) := by have := au_m b1 h1; grind
  have f1 : ab F ≤ 13 * (Y * (w * (w * sg))) + 12 * (Y * (w * sg)) := by
    have := au_add (A0 * s0) (B0 * s1)
    rw [hF]; grind
  have f2 : ab (kap * F) ≤ 10 * (25 * (Y * (w * sg))) := au_m hk (by grind)
  have f3 : ab (B0 * (2 * t2)) ≤ 287 * (Y * (w * sg)) := by
    have g1 : B0 * (2 * t2) = kap * F - (A1 * s0 + (A0 * s1 + B1 * s1)) := by grind
    have g2 := au_sub (kap * F) (A1 * s0 + (A0 * s1 + B1 * s1))
    have g3 := au_add (A1 * s0) (A0 * s1 + B1 * s1)
    have g4 := au_add (A0 * s1) (B1 * s1)
    rw [g1]; grind
  rcases ra_lt_or (2 * ab t2) sg with c | c
  · have k1 : sg ≤ 2 * (w * M) := by grind
    have k2 : w * sg ≤ w * (2 * (w * M)) := rm_le (Rat.le_of_lt hw) Rat.le_refl hsg k1
    have k3 : Y * (w * sg) ≤ Y * (w * (2 * (w * M))) := rm_le hY Rat.le_refl hws k2
    have k4 : Y * (w * (2 * (w * M))) = 2 * (Y * (w * (w * M))) := by grind
    have k5 : 0 ≤ Y * (w * (w * M)) := Rat.le_trans u1 u3
    grind
  · rcases ra_lt_or 0 sg with z | z
    · have k1 : ab B0 * sg ≤ 287 * (Y * w) * sg := by
        have := rm_le (au_nn B0) Rat.le_refl hsg c
        rw [au_mul, au_mul, au_pos (x := 2) (by decide)] at f3
        grind
      have k2 := rc_le z k1
      have k3 : ab (B0 * s1) ≤ 287 * (Y * w) * (12 * (w * sg)) := au_m k2 h1
      have k4 := au_add (A0 * s0) (B0 * s1)
      have k5 : 287 * (Y * w) * (12 * (w * sg)) = 3444 * (Y * (w * (w * sg))) := by grind
      rw [← hF] at k4
      have k6 : 0 ≤ Y * (w * (w * M)) := Rat.le_trans u1 u3
      grind
    · have hz : sg = 0 := Rat.le_antisymm z hsg
      have k6 : 0 ≤ Y * (w * (w * M)) := Rat.le_trans u1 u3
      rw [hz, Rat.mul_zero, Rat.mul_zero, Rat.mul_zero] at f1
      grind
/-- Taylor's coefficients at c -/
def tY (S : Nat → Int) (c : Rat) : Nat → Rat
  | 0 => (S 0 : Rat) + (S 1 : Rat) * c + (S 2 : Rat) * c ^ 2 + (S 3 : Rat) * c ^ 3 + (S 4 : Rat) * c ^ 4 + (S 5 : Rat) * c ^ 5 + (S 6 : Rat) * c ^ 6
  | 1 => (S 1 : Rat) + 2 * ((S 2 : Rat) * c) + 3 * ((S 3 : Rat) * c ^ 2) + 4 * ((S 4 : Rat) * c ^ 3) + 5 * ((S 5 : Rat) * c ^ 4) + 6 * ((S 6 : Rat) * c ^ 5)
  | 2 => (S 2 : Rat) + 3 * ((S 3 : Rat) * c) + 6 * ((S 4 : Rat) * c ^ 2) + 10 * ((S 5 : Rat) * c ^ 3) + 15 * ((S 6 : Rat) * c ^ 4)
  | 3 => (S 3 : Rat) + 4 * ((S 4 : Rat) * c) + 10 * ((S 5 : Rat) * c ^ 2) + 20 * ((S 6 : Rat) * c ^ 3)
  | 4 => (S 4 : Rat) + 5 * ((S 5 : Rat) * c) + 15 * ((S 6 : Rat) * c ^ 2)
  | 5 => (S 5 : Rat) + 6 * ((S 6 : Rat) * c)
  | 6 => (S 6 : Rat)
  | _ => 0
theorem iv_7 (S : Nat → Int) (x : Rat) : iv S x = (S 0 : Rat) + x * ((S 1 : Rat) + x * ((S 2 : Rat) + x * ((S 3 : Rat) + x * ((S 4 : Rat) + x * ((S 5 : Rat) + x * (S 6 : Rat)))))) := by
  show _ + _ * (_ + _ * (_ + _ * (_ + _ * (_ + _ * (_ + _ * (_ + _ * (0 : Rat))))))) = _
  grind
theorem tY_V (S : Nat → Int) (c z : Rat) : iv S (c + z) = tY S c 0 + z * (tY S c 1 + z * (tY S c 2 + z * (tY S c 3 + z * (tY S c 4 + z * (tY S c 5 + z * tY S c 6))))) := by
  rw [iv_7]
  unfold tY
  generalize (S 0 : Rat) = a0
  generalize (S 1 : Rat) = a1
  generalize (S 2 : Rat) = a2
  generalize (S 3 : Rat) = a3
  generalize (S 4 : Rat) = a4
  generalize (S 5 : Rat) = a5
  generalize (S 6 : Rat) = a6
  grind
theorem tY_0 (S : Nat → Int) (c : Rat) : iv S c = tY S c 0 := by
  have := tY_V S c 0
  rw [show c + 0 = c by grind] at this
  rw [this]; grind
theorem der_6 (S : Nat → Int) : derI S 0 = S 1 * 1 ∧ derI S 1 = S 2 * 2 ∧ derI S 2 = S 3 * 3 ∧ derI S 3 = S 4 * 4 ∧ derI S 4 = S 5 * 5 ∧ derI S 5 = S 6 * 6 ∧ derI S 6 = 0 := ⟨rfl, rfl, rfl, rfl, rfl, rfl, rfl⟩
theorem tY_1 (S : Nat → Int) (c : Rat) : iv (derI S) c = tY S c 1 := by
  obtain ⟨e0, e1, e2, e3, e4, e5, e6⟩ := der_6 S
  rw [iv_7, e0, e1, e2, e3, e4, e5, e6]
  unfold tY
  simp only [Rat.intCast_mul]
  show (S 1 : Rat) * 1 + c * ((S 2 : Rat) * 2 + c * ((S 3 : Rat) * 3 + c * ((S 4 : Rat) * 4 + c * ((S 5 : Rat) * 5 + c * ((S 6 : Rat) * 6 + c * 0))))) = _
  grind
theorem tY_2 (S : Nat → Int) (c : Rat) : iv (derI (derI S)) c = 2 * tY S c 2 := by
  obtain ⟨e0, e1, e2, e3, e4, e5, e6⟩ := der_6 S
  obtain ⟨f0, f1, f2, f3, f4, f5, f6⟩ := der_6 (derI S)
  rw [iv_7, f0, f1, f2, f3, f4, f5, f6, e1, e2, e3, e4, e5, e6]
  unfold tY
  simp only [Rat.intCast_mul]
  show (S 2 : Rat) * 2 * 1 + c * ((S 3 : Rat) * 3 * 2 + c * ((S 4 : Rat) * 4 * 3 + c * ((S 5 : Rat) * 5 * 4 + c * ((S 6 : Rat) * 6 * 5 + c * (0 * 6 + c * 0))))) = _
  grind
