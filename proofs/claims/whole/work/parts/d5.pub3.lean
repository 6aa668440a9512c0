/-! SturmRootsModel: multiply, shift, scale -/
def rowS (s t : Nat → Int) (i k m : Nat) : Int := if i ≤ m ∧ m < i + k then s i * t (m - i) else 0
def cvS (s t : Nat → Int) : Nat → Nat → Int
  | 0, _ => 0
  | i + 1, m => cvS s t i m + rowS s t i 7 m
theorem rowS_bd {s t : Nat → Int} (hs : ∀ k, k < 7 → (s k).natAbs ≤ 9999) (ht : ∀ k, k < 7 → (t k).natAbs ≤ 9999) {i k m : Nat} (hi : i < 7) (hk : k ≤ 7) : (rowS s t i k m).natAbs ≤ 99980001 := by
  unfold rowS
  split
  · rw [Int.natAbs_mul]
    exact Nat.mul_le_mul (hs i hi) (ht (m - i) (by omega))
  · decide
theorem cvS_bd {s t : Nat → Int} (hs : ∀ k, k < 7 → (s k).natAbs ≤ 9999) (ht : ∀ k, k < 7 → (t k).natAbs ≤ 9999) (m : Nat) : ∀ i, i ≤ 7 → (cvS s t i m).natAbs ≤ i * 99980001
  | 0, _ => by simp [cvS]
  | i + 1, h => by
    have h1 := cvS_bd hs ht m i (by omega)
    have h2 := rowS_bd hs ht (i := i) (k := 7) (m := m) (by omega) (Nat.le_refl 7)
    rw [cvS]
    have := Int.natAbs_add_le (cvS s t i m) (rowS s t i 7 m)
    omega
theorem cvS_lo (s t : Nat → Int) {m : Nat} (hm : m < 7) : ∀ i, cvS s t i m = pSum s t m i
  | 0 => rfl
  | i + 1 => by
    rw [cvS, pSum, cvS_lo s t hm i]
    unfold rowS
    by_cases c : i ≤ m
    · rw [if_pos ⟨c, by omega⟩, if_pos c]
    · rw [if_neg (fun q => c q.1), if_neg c]
theorem cvS_one {s t : Nat → Int} {m c : Nat} (h : ∀ i, i ≠ c → i < 7 → rowS s t i 7 m = 0) : ∀ n, n ≤ 7 → cvS s t n m = if c < n then rowS s t c 7 m else 0
  | 0, _ => by rw [if_neg (by omega)]; rfl
  | n + 1, hn => by
    rw [cvS, cvS_one h n (by omega)]
    by_cases q : n = c
    · rw [if_neg (by omega), if_pos (by omega), q, Int.zero_add]
    · rw [h n q (by omega), Int.add_zero]
      by_cases w : c < n
      · rw [if_pos w, if_pos (by omega)]
      · rw [if_neg w, if_neg (by omega)]
theorem cvS_hi {s t : Nat → Int} (hok : mOk s t) {m : Nat} (hm : 7 ≤ m) : cvS s t 7 m = 0 := by
  have ls := stI_le s 7
  have lt := stI_le t 7
  have z : ∀ i, i < 7 → rowS s t i 7 m = 0 := fun i hi => by
    unfold rowS
    split
    · next q =>
      by_cases c : i < stI s 7
      · rw [stI_z (p := t) (n := 7) (j := m - i) (by unfold mOk at hok; omega) (by omega), Int.mul_zero]
      · rw [stI_z (p := s) (n := 7) (j := i) (by omega) hi, Int.zero_mul]
    · rfl
  rw [cvS_one (c := 7) (fun i _ hi => z i hi) 7 (Nat.le_refl 7), if_neg (by decide)]
theorem cvS_top {s t : Nat → Int} (hok : ¬ mOk s t) : ∃ m, 7 ≤ m ∧ m < 14 ∧ cvS s t 7 m ≠ 0 := by
  have ls := stI_le s 7
  have lt := stI_le t 7
  unfold mOk at hok
  have hs := stI_top (p := s) (n := 7) (by omega)
  have ht := stI_top (p := t) (n := 7) (by omega)
  refine ⟨(stI s 7 - 1) + (stI t 7 - 1), by omega, by omega, ?_⟩
  rw [cvS_one (c := stI s 7 - 1) (fun i hi h7 => by
    unfold rowS
    split
    · next q =>
      by_cases c : i < stI s 7
      · rw [stI_z (p := t) (n := 7) (j := (stI s 7 - 1) + (stI t 7 - 1) - i) (by omega) (by omega), Int.mul_zero]
      · rw [stI_z (p := s) (n := 7) (j := i) (by omega) h7, Int.zero_mul]
    · rfl) 7 (Nat.le_refl 7), if_pos (by omega)]
  unfold rowS
  rw [if_pos (by omega), show (stI s 7 - 1) + (stI t 7 - 1) - (stI s 7 - 1) = stI t 7 - 1 by omega]
  exact Int.mul_ne_zero hs ht
/-- the reference's shift, a step -/
def shS (y c : Int) (r : Nat → Int) : Nat → Int := fun t => if t = 0 then r 0 * y + c else if t < 7 then r t * y + r (t - 1) else r t
def shR (s : Nat → Int) (y : Int) : Nat → Nat → Int
  | 0 => fun _ => 0
  | m + 1 => shS y (s (6 - m)) (shR s y m)
theorem shR_bd {s : Nat → Int} {y : Int} (hs : ∀ k, k < 7 → (s k).natAbs ≤ 9999) (hy : y.natAbs ≤ 9) : ∀ m, m ≤ 7 → ∀ t, t < 7 → (shR s y m t).natAbs + 1111 ≤ 1111 * 10 ^ m
  | 0, _, t, _ => by simp [shR]
  | m + 1, h, t, ht => by
    have ih := shR_bd hs hy m (by omega)
    rw [shR, Nat.pow_succ]
    unfold shS
    have mul : ∀ v : Int, (v * y).natAbs ≤ v.natAbs * 9 := fun v => by rw [Int.natAbs_mul]; exact Nat.mul_le_mul_left _ hy
    by_cases c : t = 0
    · rw [if_pos c]
      have h1 := ih 0 (by decide)
      have h2 := mul (shR s y m 0)
      have h3 := hs (6 - m) (by omega)
      have := Int.natAbs_add_le (shR s y m 0 * y) (s (6 - m))
      omega
    · rw [if_neg c, if_pos ht]
      have h1 := ih t ht
      have h4 := ih (t - 1) (by omega)
      have h2 := mul (shR s y m t)
      have := Int.natAbs_add_le (shR s y m t * y) (shR s y m (t - 1))
      omega
theorem shR_val (s : Nat → Int) (y : Int) : ∀ t, t < 7 → shR s y 7 t = shP s y t := by
  obtain ⟨v0, v1, v2, v3, v4, v5, v6⟩ := sh_val s y
  intro t ht
  have : t = 0 ∨ t = 1 ∨ t = 2 ∨ t = 3 ∨ t = 4 ∨ t = 5 ∨ t = 6 := by omega
  rcases this with rfl | rfl | rfl | rfl | rfl | rfl | rfl
  · rw [v0]; simp only [shR, shS]; simp; grind
  · rw [v1]; simp only [shR, shS]; simp; grind
  · rw [v2]; simp only [shR, shS]; simp; grind
  · rw [v3]; simp only [shR, shS]; simp; grind
  · rw [v4]; simp only [shR, shS]; simp; grind
  · rw [v5]; simp only [shR, shS]; simp; grind
  · rw [v6]; simp only [shR, shS]; simp
