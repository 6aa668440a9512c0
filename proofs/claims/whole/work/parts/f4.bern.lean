/-! a node with two sign changes: its first two coefficients are small -/
theorem mvI_lin (a : Int) (r s : Nat → Int) (k : Nat) : mvI (fun t => a * r t + s t) k = fun t => a * mvI r k t + mvI s k t := by
  funext t
  unfold mvI
  split
  · (try dsimp only); rw [Int.mul_add]; omega
  · rfl
theorem mvL_lin (a : Int) : ∀ (m : Nat) (r s : Nat → Int) (f : Nat), mvL m (fun t => a * r t + s t) f = fun t => a * mvL m r f t + mvL m s f t
  | 0, _, _, _ => rfl
  | m + 1, r, s, f => by rw [mvL, mvI_lin, mvL_lin a m, mvL, mvL]
theorem mvA_lin (a : Int) (g : Nat) : ∀ (n : Nat) (r s : Nat → Int), mvA g n (fun t => a * r t + s t) = fun t => a * mvA g n r t + mvA g n s t
  | 0, _, _ => rfl
  | n + 1, r, s => by rw [mvA, mvL_lin, mvA_lin a g n, mvA, mvA]
theorem cwQ_lin (a : Int) (p q : Nat → Int) (g t : Nat) : cwQ (fun t => a * p t + q t) g t = a * cwQ p g t + cwQ q g t := by
  unfold cwQ
  rw [mvA_lin]
/-- one coefficient alone -/
def eU (i : Nat) : Nat → Int := fun t => if t = i then 1 else 0
def eQ (g i j : Nat) : Int := cwQ (eU i) g j
theorem mvL_0 : ∀ (m f t : Nat), mvL m (fun _ => 0) f t = 0
  | 0, _, _ => rfl
  | m + 1, f, t => by
    have : mvI (fun _ => 0) (f + m) = fun _ => 0 := by
      funext t
      unfold mvI
      split <;> rfl
    rw [mvL, this]
    exact mvL_0 m f t
theorem mvA_0 (g : Nat) : ∀ (n t : Nat), mvA g n (fun _ => 0) t = 0
  | 0, _ => rfl
  | n + 1, t => by
    have : mvL (n + 1) (fun _ => 0) (g - 1 - n) = fun _ => 0 := funext (fun t => mvL_0 _ _ t)
    rw [mvA, this]
    exact mvA_0 g n t
theorem cwQ_sum (q : Nat → Int) (g j : Nat) : ∀ n, cwQ (fun t => if t < n then q t else 0) g j = suI (fun i => q i * eQ g i j) n
  | 0 => by
    have : (fun t => if t < 0 then q t else 0) = fun _ => (0 : Int) := funext (fun t => if_neg (Nat.not_lt_zero t))
    rw [this, suI]
    exact mvA_0 g g j
  | n + 1 => by
    have : (fun t => if t < n + 1 then q t else 0) = fun t => q n * eU n t + (if t < n then q t else 0) := by
      funext t
      unfold eU
      by_cases c : t = n
      · rw [if_pos (by omega), if_pos c, if_neg (by omega), c]; omega
      · rw [if_neg c]
        by_cases d : t < n
        · rw [if_pos (by omega), if_pos d]; omega
        · rw [if_neg (by omega), if_neg d]; omega
    rw [this, cwQ_lin, cwQ_sum q g j n, suI]
    unfold eQ
    omega
theorem cwQ_all (q : Nat → Int) {g j : Nat} (hj : j ≤ g) : cwQ q g j = suI (fun i => q i * eQ g i j) (g + 1) := by
  rw [← cwQ_sum]
  exact cwQ_cong (fun t ht => by (try dsimp only); rw [if_pos (by omega)]) j hj
theorem eQ_num : ∀ g, g < 7 → ∀ j, j < 7 → j ≤ g → 1 ≤ eQ g 0 j ∧ (g : Int) * eQ g 1 j = ((g : Int) - (j : Int)) * eQ g 0 j ∧ eQ g 0 j ≤ 20 := by decide +kernel
theorem eQ_le : ((List.range 7).all fun g => (List.range 7).all fun j => (List.range 7).all fun i => decide (j ≤ g → i ≤ g → 0 ≤ eQ g i j ∧ eQ g i j ≤ eQ g 0 j)) = true := by decide +kernel
theorem eQ_b {g j i : Nat} (hg : g < 7) (hj : j ≤ g) (hi : i ≤ g) : 0 ≤ eQ g i j ∧ eQ g i j ≤ eQ g 0 j := by
  have h := List.all_eq_true.mp (List.all_eq_true.mp (List.all_eq_true.mp eQ_le g (List.mem_range.mpr hg)) j (List.mem_range.mpr (by omega))) i (List.mem_range.mpr (by omega))
  exact (of_decide_eq_true h) hj hi
/-- sign changes -/
theorem chg_two {s : Nat → Int} (hs : ∀ i, s i = -1 ∨ s i = 0 ∨ s i = 1) : ∀ n, ((chg s n).1 = -1 ∨ (chg s n).1 = 0 ∨ (chg s n).1 = 1) ∧ ((chg s n).1 ≠ 0 → ∃ j, j < n ∧ s j = (chg s n).1) ∧ (1 ≤ (chg s n).2 → ∃ j k, j < k ∧ k < n ∧ s j = -s k ∧ s k = (chg s n).1 ∧ s k ≠ 0) ∧ (2 ≤ (chg s n).2 → ∃ j k m, j < k ∧ k < m ∧ m < n ∧ s j = -s k ∧ s k = -s m ∧ s k ≠ 0)
  | 0 => ⟨Or.inr (Or.inl rfl), fun h => absurd rfl h, fun h => by rw [chg] at h; omega, fun h => by rw [chg] at h; omega⟩
  | n + 1 => by
    obtain ⟨h0, h1, h2, h3⟩ := chg_two hs n
    have hn := hs n
    rw [chg]
    (try dsimp only)
    by_cases z : s n = 0
    · rw [if_pos z, z, Int.zero_mul, if_neg (by omega)]
      refine ⟨h0, fun q => ?_, fun q => ?_, fun q => ?_⟩
      · obtain ⟨j, a, b⟩ := h1 q
        exact ⟨j, by omega, b⟩
      · obtain ⟨j, k, a, b, c⟩ := h2 q
        exact ⟨j, k, a, by omega, c⟩
      · obtain ⟨j, k, m, a, b, c, d⟩ := h3 q
        exact ⟨j, k, m, a, b, by omega, d⟩
    · rw [if_neg z]
      refine ⟨hn, fun _ => ⟨n, by omega, rfl⟩, ?_, ?_⟩
      · by_cases w : s n * (chg s n).1 < 0
        · rw [if_pos w]
          intro _
          have hl : (chg s n).1 ≠ 0 := fun q => by rw [q] at w; omega
          obtain ⟨j, a, b⟩ := h1 hl
          have e : (chg s n).1 = -s n := by
            rcases hn with hn | hn | hn <;> rcases h0 with h0 | h0 | h0 <;> rw [hn, h0] at w ⊢ <;> omega
          exact ⟨j, n, a, by omega, by omega, rfl, z⟩
        · rw [if_neg w]
          intro q
          obtain ⟨j, k, a, b, c, d, e⟩ := h2 q
          have e2 : (chg s n).1 = s n := by
            rcases hn with hn | hn | hn <;> rcases h0 with h0 | h0 | h0 <;> rw [hn, h0] at w ⊢ <;> omega
          exact ⟨j, k, a, by omega, c, by omega, e⟩
      · by_cases w : s n * (chg s n).1 < 0
        · rw [if_pos w]
          intro q
          obtain ⟨j, k, a, b, c, d, e⟩ := h2 (by omega)
          have e2 : (chg s n).1 = -s n := by
            rcases hn with hn | hn | hn <;> rcases h0 with h0 | h0 | h0 <;> rw [hn, h0] at w ⊢ <;> omega
          exact ⟨j, k, n, a, b, by omega, c, by omega, e⟩
        · rw [if_neg w]
          intro q
          obtain ⟨j, k, m, a, b, c, d⟩ := h3 q
          exact ⟨j, k, m, a, b, by omega, d⟩
theorem sgn_3 (v : Int) : v.sign = -1 ∨ v.sign = 0 ∨ v.sign = 1 := by
  rcases Int.lt_trichotomy v 0 with w | w | w
  · exact Or.inl (Int.sign_eq_neg_one_of_neg w)
  · rw [w]; exact Or.inr (Or.inl rfl)
  · exact Or.inr (Or.inr (Int.sign_eq_one_of_pos w))
theorem sgn_p {v : Int} (h : v.sign = 1) : 0 < v := by
  rcases Int.lt_trichotomy v 0 with w | w | w
  · rw [Int.sign_eq_neg_one_of_neg w] at h; omega
  · rw [w] at h; exact absurd h (by decide)
  · exact w
theorem sgn_n {v : Int} (h : v.sign = -1) : v < 0 := by
  rcases Int.lt_trichotomy v 0 with w | w | w
  · exact w
  · rw [w] at h; exact absurd h (by decide)
  · rw [Int.sign_eq_one_of_pos w] at h; omega
/-- three signs in turn: the first two coefficients against the rest -/
theorem tri_b {A P D1 D2 G b : Int} (h1 : 0 < A + P + D1 + G) (h2 : A + P - G < 0) (h3 : 0 < A + P - D2 + G) (d1 : 0 ≤ b → b ≤ D2) (d2 : b ≤ 0 → D1 ≤ b) : -(2 * G) ≤ b ∧ b ≤ 2 * G := by omega
theorem fac_p {E x : Int} (hE : 1 ≤ E) (h : 0 < E * x) : 0 < x := by
  rcases Int.lt_trichotomy x 0 with w | w | w
  · have := Int.mul_nonneg (a := E) (b := -x) (by omega) (by omega)
    rw [Int.mul_neg] at this
    omega
  · rw [w, Int.mul_zero] at h; omega
  · exact w
theorem suI_mulR (f : Nat → Int) (c : Int) : ∀ n, suI (fun i => f i * c) n = suI f n * c
  | 0 => by rw [suI, suI, Int.zero_mul]
  | n + 1 => by rw [suI, suI, suI_mulR f c n, Int.add_mul]
/-- the rest -/
def rst (q : Nat → Int) (g : Nat) : Int := (suN (fun i => (q (2 + i)).natAbs) (g - 1) : Nat)
theorem cw_main {q : Nat → Int} {g j : Nat} (hg : g < 7) (h2 : 2 ≤ g) (hj : j ≤ g) : ∃ e : Int, (g : Int) * cwQ q g j = eQ g 0 j * ((g : Int) * q 0 + ((g : Int) - j) * q 1) + g * e ∧ -(eQ g 0 j * rst q g) ≤ e ∧ e ≤ eQ g 0 j * rst q g := by
  obtain ⟨n1, n2, _⟩ := eQ_num g hg j (by omega) hj
  refine ⟨suI (fun i => q (2 + i) * eQ g (2 + i) j) (g - 1), ?_, ?_⟩
  · rw [cwQ_all q hj, show g + 1 = 2 + (g - 1) by omega, suI_add, suI, suI, suI]
    have : (g : Int) * (q 1 * eQ g 1 j) = q 1 * ((g : Int) * eQ g 1 j) := by grind
    have e : (g : Int) * (0 + q 0 * eQ g 0 j + q 1 * eQ g 1 j + suI (fun i => q (2 + i) * eQ g (2 + i) j) (g - 1)) = (g : Int) * (q 0 * eQ g 0 j) + (g : Int) * (q 1 * eQ g 1 j) + (g : Int) * suI (fun i => q (2 + i) * eQ g (2 + i) j) (g - 1) := by grind
    rw [e, this, n2]
    grind
  · have h := suI_abs (fun i => q (2 + i) * eQ g (2 + i) j) (g - 1)
    have h3 : suN (fun i => (q (2 + i) * eQ g (2 + i) j).natAbs) (g - 1) ≤ suN (fun i => (q (2 + i)).natAbs * (eQ g 0 j).natAbs) (g - 1) := suN_le (fun i hi => by
      rw [Int.natAbs_mul]
      have := eQ_b hg hj (show 2 + i ≤ g by omega)
      exact Nat.mul_le_mul_left _ (by omega))
    rw [suN_mul] at h3
    have h4 : eQ g 0 j * rst q g = ((suN (fun i => (q (2 + i)).natAbs) (g - 1) * (eQ g 0 j).natAbs : Nat) : Int) := by
      unfold rst
      rw [Int.natCast_mul, show (((eQ g 0 j).natAbs : Nat) : Int) = eQ g 0 j by omega, Int.mul_comm]
    rw [h4]
    (try dsimp only at h)
    omega
theorem cw_pos {q : Nat → Int} {g j : Nat} (hg : g < 7) (h2 : 2 ≤ g) (hj : j ≤ g) (h : 0 < cwQ q g j) : 0 < (g : Int) * q 0 + ((g : Int) - j) * q 1 + g * rst q g := by
  obtain ⟨e, e1, e2, e3⟩ := cw_main (q := q) hg h2 hj
  obtain ⟨n1, _, _⟩ := eQ_num g hg j (by omega) hj
  have a1 := Int.mul_pos (a := (g : Int)) (b := cwQ q g j) (by omega) h
  have a2 := Int.mul_le_mul_of_nonneg_left e3 (show (0 : Int) ≤ g by omega)
  refine fac_p n1 ?_
  have : eQ g 0 j * ((g : Int) * q 0 + ((g : Int) - j) * q 1 + g * rst q g) = eQ g 0 j * ((g : Int) * q 0 + ((g : Int) - j) * q 1) + g * (eQ g 0 j * rst q g) := by grind
  rw [this]
  omega
theorem cw_neg {q : Nat → Int} {g j : Nat} (hg : g < 7) (h2 : 2 ≤ g) (hj : j ≤ g) (h : cwQ q g j < 0) : (g : Int) * q 0 + ((g : Int) - j) * q 1 - g * rst q g < 0 := by
  obtain ⟨e, e1, e2, e3⟩ := cw_main (q := q) hg h2 hj
  obtain ⟨n1, _, _⟩ := eQ_num g hg j (by omega) hj
  have a1 := Int.mul_pos (a := (g : Int)) (b := -cwQ q g j) (by omega) (by omega)
  rw [Int.mul_neg] at a1
  have a2 := Int.mul_le_mul_of_nonneg_left e2 (show (0 : Int) ≤ g by omega)
  rw [Int.mul_neg] at a2
  have : 0 < -((g : Int) * q 0 + ((g : Int) - j) * q 1 - g * rst q g) := by
    refine fac_p n1 ?_
    have : eQ g 0 j * -((g : Int) * q 0 + ((g : Int) - j) * q 1 - g * rst q g) = -(eQ g 0 j * ((g : Int) * q 0 + ((g : Int) - j) * q 1)) + g * (eQ g 0 j * rst q g) := by grind
    rw [this]
    omega
  omega
/-- two sign changes: both are small -/
theorem cw_2 {q : Nat → Int} {g : Nat} (hg : g < 7) (h2 : 2 ≤ g) (h : 2 ≤ cwN q g) : (-(12 * rst q g) ≤ q 1 ∧ q 1 ≤ 12 * rst q g) ∧ -(13 * rst q g) ≤ q 0 ∧ q 0 ≤ 13 * rst q g := by
  have hR : 0 ≤ rst q g := by unfold rst; omega
  unfold cwN at h
  obtain ⟨j, k, m, a, b, c, d, e, f⟩ := (chg_two (s := fun i => (cwQ q g i).sign) (fun i => sgn_3 _) (g + 1)).2.2.2 h
  (try dsimp only at d e f)
  obtain ⟨b1, hb1⟩ : ∃ b1 : Int, b1 = q 1 := ⟨_, rfl⟩
  have mo : ∀ x y : Nat, x < y → (0 ≤ q 1 → q 1 ≤ ((y : Int) - x) * q 1) ∧ (q 1 ≤ 0 → ((y : Int) - x) * q 1 ≤ q 1) := fun x y hxy => by
    refine ⟨fun w => ?_, fun w => ?_⟩
    · have := Int.mul_le_mul_of_nonneg_right (show (1 : Int) ≤ (y : Int) - x by omega) w
      omega
    · have := Int.mul_le_mul_of_nonneg_right (show (1 : Int) ≤ (y : Int) - x by omega) (show 0 ≤ -q 1 by omega)
      rw [Int.mul_neg, Int.mul_neg] at this
      omega
  have up : ∀ x : Nat, x ≤ g → (0 ≤ q 1 → 0 ≤ ((g : Int) - x) * q 1 ∧ ((g : Int) - x) * q 1 ≤ g * q 1) ∧ (q 1 ≤ 0 → g * q 1 ≤ ((g : Int) - x) * q 1 ∧ ((g : Int) - x) * q 1 ≤ 0) := fun x hx => by
    refine ⟨fun w => ⟨Int.mul_nonneg (by omega) w, Int.mul_le_mul_of_nonneg_right (by omega) w⟩, fun w => ?_⟩
    have a1 := Int.mul_nonneg (a := (g : Int) - x) (b := -q 1) (by omega) (by omega)
    have a2 := Int.mul_le_mul_of_nonneg_right (show (g : Int) - x ≤ g by omega) (show 0 ≤ -q 1 by omega)
    rw [Int.mul_neg] at a1 a2
    rw [Int.mul_neg] at a2
    omega
  have fin : (-(2 * (g * rst q g)) ≤ q 1 ∧ q 1 ≤ 2 * (g * rst q g)) ∧ (-((g : Int) * ((2 * g + 1) * rst q g)) ≤ g * q 0 ∧ (g : Int) * q 0 ≤ g * ((2 * g + 1) * rst q g)) := by
    have m1 := mo j k a
    have m2 := mo k m b
    have u1 := up j (by omega)
    have u2 := up k (by omega)
    have u3 := up m (by omega)
    have s1 : ((k : Int) - j) * q 1 = ((g : Int) - j) * q 1 - ((g : Int) - k) * q 1 := by grind
    have s2 : ((m : Int) - k) * q 1 = ((g : Int) - k) * q 1 - ((g : Int) - m) * q 1 := by grind
    rw [s1] at m1
    rw [s2] at m2
    have e3 : (g : Int) * ((2 * g + 1) * rst q g) = 2 * (g * (g * rst q g)) + g * rst q g := by grind
    have big : ∀ x : Int, (-(2 * (g * rst q g)) ≤ x ∧ x ≤ 2 * (g * rst q g)) → -(2 * (g * (g * rst q g))) ≤ g * x ∧ g * x ≤ 2 * (g * (g * rst q g)) := fun x hx => by
      have a1 := Int.mul_le_mul_of_nonneg_left hx.1 (show (0 : Int) ≤ g by omega)
      have a2 := Int.mul_le_mul_of_nonneg_left hx.2 (show (0 : Int) ≤ g by omega)
      have q1 : (g : Int) * -(2 * (g * rst q g)) = -(2 * (g * (g * rst q g))) := by grind
      have q2 : (g : Int) * (2 * (g * rst q g)) = 2 * (g * (g * rst q g)) := by grind
      rw [q1] at a1
      rw [q2] at a2
      exact ⟨a1, a2⟩
    rcases sgn_3 (cwQ q g k) with w | w | w
    · have p1 := cw_pos (q := q) hg h2 (show j ≤ g by omega) (sgn_p (by omega))
      have p2 := cw_neg (q := q) hg h2 (show k ≤ g by omega) (sgn_n w)
      have p3 := cw_pos (q := q) hg h2 (show m ≤ g by omega) (sgn_p (by omega))
      have bb := tri_b (A := g * q 0) (P := ((g : Int) - k) * q 1) (D1 := ((g : Int) - j) * q 1 - ((g : Int) - k) * q 1) (D2 := ((g : Int) - k) * q 1 - ((g : Int) - m) * q 1) (G := g * rst q g) (b := q 1) (by omega) p2 (by omega) m2.1 m1.2
      have b2 := big _ bb
      refine ⟨bb, ?_⟩
      rw [e3]
      rcases Int.le_total 0 (q 1) with z | z
      · have := u1.1 z; have := u2.1 z; omega
      · have := u1.2 z; have := u2.2 z; omega
    · exact absurd w f
    · have p1 := cw_neg (q := q) hg h2 (show j ≤ g by omega) (sgn_n (by omega))
      have p2 := cw_pos (q := q) hg h2 (show k ≤ g by omega) (sgn_p w)
      have p3 := cw_neg (q := q) hg h2 (show m ≤ g by omega) (sgn_n (by omega))
      have bb := tri_b (A := -(g * q 0)) (P := -(((g : Int) - k) * q 1)) (D1 := -(((g : Int) - j) * q 1 - ((g : Int) - k) * q 1)) (D2 := -(((g : Int) - k) * q 1 - ((g : Int) - m) * q 1)) (G := g * rst q g) (b := -q 1) (by omega) (by omega) (by omega) (fun z => by have := m2.2 (by omega); omega) (fun z => by have := m1.1 (by omega); omega)
      have bb2 : -(2 * (g * rst q g)) ≤ q 1 ∧ q 1 ≤ 2 * (g * rst q g) := by omega
      have b2 := big _ bb2
      refine ⟨bb2, ?_⟩
      rw [e3]
      rcases Int.le_total 0 (q 1) with z | z
      · have := u1.1 z; have := u2.1 z; omega
      · have := u1.2 z; have := u2.2 z; omega
  obtain ⟨f1, f2, f3⟩ := fin
  have g6 : (g : Int) * rst q g ≤ 6 * rst q g := Int.mul_le_mul_of_nonneg_right (by omega) hR
  have g7 : (2 * (g : Int) + 1) * rst q g ≤ 13 * rst q g := Int.mul_le_mul_of_nonneg_right (by omega) hR
  have c1 : q 0 ≤ (2 * (g : Int) + 1) * rst q g := Int.le_of_mul_le_mul_left f3 (by omega)
  have c2 : -((2 * (g : Int) + 1) * rst q g) ≤ q 0 := Int.le_of_mul_le_mul_left (a := (g : Int)) (by rw [Int.mul_neg]; exact f2) (by omega)
  omega
