/-! bounds on an interval; a polynomial whose derivative is positive crosses 0 upwards -/
def raI (X x : Rat) : Prop := -X ≤ x ∧ x ≤ X
theorem ra_mul {X Y x y : Rat} (hX : 0 ≤ X) (hY : 0 ≤ Y) (hx : raI X x) (hy : raI Y y) : raI (X * Y) (x * y) := by
  obtain ⟨a, b⟩ := hx
  obtain ⟨c, d⟩ := hy
  have e1 : 0 ≤ (X - x) * (Y + y) := Rat.mul_nonneg (by grind) (by grind)
  have e2 : 0 ≤ (X + x) * (Y - y) := Rat.mul_nonneg (by grind) (by grind)
  have e3 : 0 ≤ (X - x) * (Y - y) := Rat.mul_nonneg (by grind) (by grind)
  have e4 : 0 ≤ (X + x) * (Y + y) := Rat.mul_nonneg (by grind) (by grind)
  constructor <;> grind
theorem ra_add {X Y x y : Rat} (hx : raI X x) (hy : raI Y y) : raI (X + Y) (x + y) := by
  obtain ⟨a, b⟩ := hx
  obtain ⟨c, d⟩ := hy
  constructor <;> grind
theorem ra_up {X Y x : Rat} (hx : raI X x) (h : X ≤ Y) : raI Y x := ⟨by obtain ⟨a, b⟩ := hx; grind, by obtain ⟨a, b⟩ := hx; grind⟩
theorem ra_own (a : Rat) : ∃ C, 0 ≤ C ∧ raI C a := by
  by_cases h : 0 ≤ a
  · exact ⟨a, h, by grind, by grind⟩
  · exact ⟨-a, by grind, by grind, by grind⟩
/-- a polynomial is bounded -/
theorem raV_bd (X : Rat) (hX : 0 ≤ X) : ∀ (p : List Rat), ∃ C, 0 ≤ C ∧ ∀ x, raI X x → raI C (raV p x)
  | [] => ⟨0, by decide, fun x _ => ⟨by simp only [raV]; grind, by simp only [raV]; grind⟩⟩
  | a :: t => by
    obtain ⟨C, hC, h⟩ := raV_bd X hX t
    obtain ⟨E, hE, h2⟩ := ra_own a
    exact ⟨E + X * C, by have := Rat.mul_nonneg hX hC; grind, fun x hx => ra_add h2 (ra_mul hX hC hx (h x hx))⟩
/-- .. moves little -/
theorem raV_lip (X : Rat) (hX : 0 ≤ X) : ∀ (p : List Rat), ∃ C, 0 ≤ C ∧ ∀ x y, raI X x → raI X y → x ≤ y → raI (C * (y - x)) (raV p y - raV p x)
  | [] => ⟨0, by decide, fun x y _ _ _ => ⟨by simp only [raV]; grind, by simp only [raV]; grind⟩⟩
  | a :: t => by
    obtain ⟨C, hC, h⟩ := raV_lip X hX t
    obtain ⟨E, hE, h2⟩ := raV_bd X hX t
    have hXC := Rat.mul_nonneg hX hC
    refine ⟨E + X * C, by grind, fun x y hx hy hxy => ?_⟩
    have e1 : raI (E * (y - x)) (raV t y * (y - x)) := ra_mul hE (by grind) (h2 y hy) ⟨by grind, by grind⟩
    have e2 : raI (X * (C * (y - x))) (x * (raV t y - raV t x)) := ra_mul hX (Rat.mul_nonneg hC (by grind)) hx (h x y hx hy hxy)
    have e3 := ra_add e1 e2
    rw [show raV (a :: t) y - raV (a :: t) x = raV t y * (y - x) + x * (raV t y - raV t x) by simp only [raV]; grind, show (E + X * C) * (y - x) = E * (y - x) + X * (C * (y - x)) by grind]
    exact e3
/-- .. and nearly as its derivative says -/
theorem raV_quad (X : Rat) (hX : 0 ≤ X) : ∀ (p : List Rat), ∃ C, 0 ≤ C ∧ ∀ x y, raI X x → raI X y → x ≤ y → raI (C * ((y - x) * (y - x))) (raV p y - raV p x - (y - x) * raV (raD p) x)
  | [] => ⟨0, by decide, fun x y _ _ _ => ⟨by simp only [raV, raD]; grind, by simp only [raV, raD]; grind⟩⟩
  | a :: t => by
    obtain ⟨C, hC, h⟩ := raV_quad X hX t
    obtain ⟨E, hE, h2⟩ := raV_lip X hX t
    have hXC := Rat.mul_nonneg hX hC
    refine ⟨E + X * C, by grind, fun x y hx hy hxy => ?_⟩
    have hd : 0 ≤ y - x := by grind
    have e1 : raI ((y - x) * (E * (y - x))) ((y - x) * (raV t y - raV t x)) := ra_mul hd (Rat.mul_nonneg hE hd) ⟨by grind, by grind⟩ (h2 x y hx hy hxy)
    have e2 : raI (X * (C * ((y - x) * (y - x)))) (x * (raV t y - raV t x - (y - x) * raV (raD t) x)) := ra_mul hX (Rat.mul_nonneg hC (Rat.mul_nonneg hd hd)) hx (h x y hx hy hxy)
    have e3 := ra_add e1 e2
    rw [show raV (a :: t) y - raV (a :: t) x - (y - x) * raV (raD (a :: t)) x = (y - x) * (raV t y - raV t x) + x * (raV t y - raV t x - (y - x) * raV (raD t) x) by rw [raV_D]; simp only [raV]; grind, show (E + X * C) * ((y - x) * (y - x)) = (y - x) * (E * (y - x)) + X * (C * ((y - x) * (y - x))) by grind]
    exact e3
theorem ra_arch (r : Rat) : ∃ N : Nat, 0 < N ∧ r < (N : Rat) := by
  refine ⟨r.floor.toNat + 1, by omega, ?_⟩
  have h := Rat.lt_floor_add_one r
  have h2 : r.floor + 1 ≤ ((r.floor.toNat + 1 : Nat) : Int) := by omega
  have h3 := Rat.intCast_le_intCast.mpr h2
  rw [Rat.intCast_natCast] at h3
  grind
theorem ra_sq (x : Rat) : 0 ≤ x * x := by
  by_cases z : 0 ≤ x
  · exact Rat.mul_nonneg z z
  · have := Rat.mul_nonneg (a := -x) (b := -x) (by grind) (by grind)
    grind
theorem ra_sqp {x : Rat} (h : x ≠ 0) : 0 < x * x := by
  have h1 := ra_sq x
  have h2 : x * x ≠ 0 := fun q => (Rat.mul_eq_zero.mp q).elim h h
  grind
theorem ra_st1 {w n m : Rat} (h : n * m = 1) : n * (w * m) = w := by grind
theorem ra_st2 {w n m : Rat} (h : n * m = 1) (hw : w * m ≤ n * m) : w * m ≤ 1 := by grind
theorem ra_st3 {K w Q P n m : Rat} (h : n * m = 1) (hQ : Q * P = 1) (h2 : K * w * Q * (P * m) < n * (P * m)) : K * (w * m) < P := by
  have e1 : K * w * Q * (P * m) = K * (w * m) * (Q * P) := by grind
  have e2 : n * (P * m) = P * (n * m) := by grind
  rw [e1, e2, hQ, h] at h2
  grind
/-- a step: small, and a part of the way -/
theorem ra_step {w K P : Rat} (hw : 0 < w) (hK : 0 ≤ K) (hP : 0 < P) : ∃ (N : Nat) (d : Rat), 0 < d ∧ (N : Rat) * d = w ∧ d ≤ 1 ∧ K * d < P := by
  obtain ⟨Q, hQ, hQ2⟩ : ∃ Q : Rat, 0 < Q ∧ Q * P = 1 := ⟨P⁻¹, Rat.inv_pos.mpr hP, Rat.inv_mul_cancel _ (Rat.ne_of_gt hP)⟩
  obtain ⟨N, hN0, hN⟩ := ra_arch (1 + w + K * w * Q)
  have hKw := Rat.mul_nonneg (Rat.mul_nonneg hK (Rat.le_of_lt hw)) (Rat.le_of_lt hQ)
  have hNp : (0 : Rat) < (N : Rat) := Rat.natCast_pos.mpr hN0
  have hi := Rat.inv_pos.mpr hNp
  have hi2 : (N : Rat) * (N : Rat)⁻¹ = 1 := Rat.mul_inv_cancel _ (Rat.ne_of_gt hNp)
  have b1 : w ≤ (N : Rat) := by clear hi hi2 hNp hQ2; grind
  have b2 : K * w * Q < (N : Rat) := by clear hi hi2 hNp hQ2 b1; grind
  exact ⟨N, w * (N : Rat)⁻¹, Rat.mul_pos hw hi, ra_st1 hi2, ra_st2 hi2 (Rat.mul_le_mul_of_nonneg_right b1 (Rat.le_of_lt hi)), ra_st3 hi2 hQ2 (Rat.mul_lt_mul_of_pos_right b2 (Rat.mul_pos hP hi))⟩
theorem ra_eu1 {P1 P0 Q j e d pd R : Rat} (h1 : P0 ≤ P1 + j * e) (h2 : -e ≤ Q - P1 - d * (pd + pd)) (h3 : 0 ≤ d * pd) : P0 ≤ Q + (j + 1) * e := by grind
theorem ra_eu2 {j N e d C w : Rat} (h : (j + 1) * (C * (d * d)) ≤ N * (C * (d * d))) (hw : N * d = w) : (j + 1) * (C * (d * d)) ≤ C * w * d := by
  have : N * (C * (d * d)) = C * (N * d) * d := by grind
  rw [this, hw] at h
  exact h
theorem ra_eu3 {E L d : Rat} (h : d * (E * E * (L * L) * d) ≤ 1 * (E * E * (L * L) * d)) : E * (L * d) * (E * (L * d)) ≤ E * E * (L * L) * d := by grind
theorem ra_eu4 {P0 Q a b c K d e : Rat} (h1 : P0 ≤ Q + a) (h2 : a ≤ b * d) (h3 : Q ≤ e) (h4 : e ≤ c * d) (h5 : (b + c) * d < P0) : False := by grind
theorem ra_lo {a b L d : Rat} (h : -(L * d) ≤ b - a) (ha : 0 < a) (hb : b ≤ 0) (hl : 0 ≤ L * d) : raI (L * d) b := ⟨by grind, by grind⟩
theorem ra_mid {X y v t : Rat} (hy : raI X y) (hv : raI X v) (a : y ≤ t) (b : t ≤ v) : raI X t := ⟨Rat.le_trans hy.1 a, Rat.le_trans b hv.2⟩
theorem ra_two (y v : Rat) : ∃ X, 0 ≤ X ∧ raI X y ∧ raI X v := by
  obtain ⟨A, hA, h1⟩ := ra_own y
  obtain ⟨B, hB, h2⟩ := ra_own v
  exact ⟨A + B, by grind, ra_up h1 (by grind), ra_up h2 (by grind)⟩
theorem ra_e1 {x d : Rat} : x + d - x = d := by grind
theorem ra_e2 {y j d : Rat} : y + (j + 1) * d = y + j * d + d := by grind
theorem ra_e3 {y j d : Rat} (hj : 0 ≤ j) (hd : 0 ≤ d) : y ≤ y + j * d := by have := Rat.mul_nonneg hj hd; grind
theorem ra_e4 {y v j N d : Rat} (h : (j + 1) * d ≤ N * d) (e : N * d = v - y) : y + j * d + d ≤ v := by grind
theorem ra_e5 {x d : Rat} (h : 0 ≤ d) : x ≤ x + d := by grind
theorem ra_e6 {g s h : Rat} (hs : 0 ≤ s * h) : 0 ≤ g * s * (g * h) := by
  have := Rat.mul_nonneg (ra_sq g) hs
  grind
theorem ra_e7 {a b d : Rat} : d * (a * b + b * a) = d * (b * a + b * a) := by grind
theorem ra_e8 {y v : Rat} : y + (v - y) = v := by grind
theorem ra_c1 (j : Nat) : ((j + 1 : Nat) : Rat) = (j : Rat) + 1 := by rw [Rat.natCast_add]; rfl
/-- p = g s, p' = g h, h > 0 on the interval, s > 0 where it begins and p not 0 there: s stays positive -/
theorem ra_up1 {p g s h : List Rat} (e1 : ∀ x, raV p x = raV g x * raV s x) (e2 : ∀ x, raV (raD p) x = raV g x * raV h x) {y v : Rat} (hyv : y < v) (hh : ∀ x, y ≤ x → x ≤ v → 0 < raV h x) (hp : raV p y ≠ 0) (hs : 0 < raV s y) : 0 < raV s v := by
  refine Rat.not_le.mp (fun hv => ?_)
  obtain ⟨X, hX, hXy, hXv⟩ := ra_two y v
  obtain ⟨C, hC, hq⟩ := raV_quad X hX (raM p p)
  obtain ⟨L, hL, hl⟩ := raV_lip X hX s
  obtain ⟨E, hE, hg⟩ := raV_bd X hX g
  have hEL := Rat.mul_nonneg (Rat.mul_nonneg hE hE) (Rat.mul_nonneg hL hL)
  have hvy : 0 < v - y := (Rat.lt_iff_sub_pos _ _).mp hyv
  have hP := ra_sqp hp
  obtain ⟨N, d, hd0, hdN, hd1, hdK⟩ := ra_step hvy (Rat.add_nonneg (Rat.mul_nonneg hC (Rat.le_of_lt hvy)) hEL) hP
  have hd := Rat.le_of_lt hd0
  have hin : ∀ t, y ≤ t → t ≤ v → raI X t := fun t => ra_mid hXy hXv
  have key : ∀ j : Nat, j ≤ N → 0 < raV s (y + (j : Rat) * d) ∧ raV p y * raV p y ≤ raV p (y + (j : Rat) * d) * raV p (y + (j : Rat) * d) + (j : Rat) * (C * (d * d)) := by
    intro j
    induction j with
    | zero =>
      intro _
      rw [show ((0 : Nat) : Rat) = 0 from rfl, Rat.zero_mul, Rat.zero_mul, Rat.add_zero, Rat.add_zero]
      exact ⟨hs, Rat.le_refl⟩
    | succ j ih =>
      intro hj
      obtain ⟨i1, i2⟩ := ih (by omega)
      have c0 : (0 : Rat) ≤ (j : Rat) := Rat.natCast_nonneg
      have cN : ((j + 1 : Nat) : Rat) ≤ (N : Rat) := Rat.natCast_le_natCast.mpr hj
      rw [ra_c1] at cN ⊢
      rw [ra_e2]
      have b1 : y ≤ y + (j : Rat) * d := ra_e3 c0 hd
      have b2 : y + (j : Rat) * d + d ≤ v := ra_e4 (Rat.mul_le_mul_of_nonneg_right cN hd) hdN
      obtain ⟨x, hx⟩ : ∃ x, x = y + (j : Rat) * d := ⟨_, rfl⟩
      rw [← hx] at i1 i2 b1 b2 ⊢
      have b3 : x ≤ x + d := ra_e5 hd
      have n1 := hin x b1 (Rat.le_trans b3 b2)
      have n2 := hin (x + d) (Rat.le_trans b1 b3) b2
      have q1 := hq x (x + d) n1 n2 b3
      rw [raV_M, raV_M, raV_DM, ra_e1, ra_e7] at q1
      have q2 : 0 ≤ raV p x * raV (raD p) x := by
        rw [e1, e2]
        exact ra_e6 (Rat.mul_nonneg (Rat.le_of_lt i1) (Rat.le_of_lt (hh x b1 (Rat.le_trans b3 b2))))
      have q4 := ra_eu1 (R := 0) i2 q1.1 (Rat.mul_nonneg hd q2)
      refine ⟨?_, q4⟩
      refine Rat.not_le.mp (fun hn => ?_)
      have hLd := Rat.mul_nonneg hL hd
      have l1 := hl x (x + d) n1 n2 b3
      rw [ra_e1] at l1
      have l3 := ra_mul hE hLd (hg _ n2) (ra_lo l1.1 i1 hn hLd)
      rw [← e1] at l3
      have l5 := (ra_mul (Rat.mul_nonneg hE hLd) (Rat.mul_nonneg hE hLd) l3 l3).2
      have m1 := ra_eu2 (e := 0) (Rat.mul_le_mul_of_nonneg_right cN (Rat.mul_nonneg hC (Rat.mul_nonneg hd hd))) hdN
      have m2 := ra_eu3 (Rat.mul_le_mul_of_nonneg_right hd1 (Rat.mul_nonneg hEL hd))
      exact ra_eu4 (K := 0) q4 m1 l5 m2 hdK
  have hf := (key N (Nat.le_refl _)).1
  rw [hdN, ra_e8] at hf
  exact absurd hf (Rat.not_lt.mpr hv)
