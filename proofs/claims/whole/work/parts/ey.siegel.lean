/-! small solutions (Siegel) -/
theorem pig : ∀ (n : Nat) (f : Nat → Nat), (∀ i, i ≤ n → f i < n) → ∃ i j, i < j ∧ j ≤ n ∧ f i = f j
  | 0, f, h => absurd (h 0 (Nat.le_refl 0)) (Nat.not_lt_zero _)
  | n + 1, f, h => by
    by_cases c : ∃ i, i ≤ n ∧ f i = f (n + 1)
    · obtain ⟨i, h1, h2⟩ := c
      exact ⟨i, n + 1, by omega, Nat.le_refl _, h2⟩
    · have hne : ∀ i, i ≤ n → f i ≠ f (n + 1) := fun i hi q => c ⟨i, hi, q⟩
      have hv := h (n + 1) (Nat.le_refl _)
      obtain ⟨i, j, h1, h2, h3⟩ := pig n (fun i => if f (n + 1) < f i then f i - 1 else f i) (fun i hi => by
        have a := hne i hi
        have b := h i (by omega)
        (try dsimp only)
        split <;> omega)
      refine ⟨i, j, h1, by omega, ?_⟩
      have a := hne i (by omega)
      have b := hne j h2
      (try dsimp only at h3)
      split at h3 <;> split at h3 <;> omega
/-- sums -/
def suI (f : Nat → Int) : Nat → Int
  | 0 => 0
  | n + 1 => suI f n + f n
def suN (f : Nat → Nat) : Nat → Nat
  | 0 => 0
  | n + 1 => suN f n + f n
theorem suI_cong {f g : Nat → Int} : ∀ {n : Nat}, (∀ i, i < n → f i = g i) → suI f n = suI g n
  | 0, _ => rfl
  | n + 1, h => by rw [suI, suI, suI_cong (n := n) (fun i hi => h i (by omega)), h n (by omega)]
theorem suI_sub (f g : Nat → Int) : ∀ n, suI (fun j => f j - g j) n = suI f n - suI g n
  | 0 => rfl
  | n + 1 => by rw [suI, suI, suI, suI_sub f g n]; omega
theorem suN_cong {f g : Nat → Nat} : ∀ {n : Nat}, (∀ i, i < n → f i = g i) → suN f n = suN g n
  | 0, _ => rfl
  | n + 1, h => by rw [suN, suN, suN_cong (n := n) (fun i hi => h i (by omega)), h n (by omega)]
theorem suN_le {f g : Nat → Nat} : ∀ {n : Nat}, (∀ i, i < n → f i ≤ g i) → suN f n ≤ suN g n
  | 0, _ => Nat.le_refl _
  | n + 1, h => by
    rw [suN, suN]
    have := suN_le (n := n) (fun i hi => h i (by omega))
    have := h n (by omega)
    omega
theorem suN_c (c : Nat) : ∀ n, suN (fun _ => c) n = n * c
  | 0 => by rw [suN, Nat.zero_mul]
  | n + 1 => by rw [suN, suN_c c n, Nat.succ_mul]
theorem suI_abs (f : Nat → Int) : ∀ n, (suI f n).natAbs ≤ suN (fun j => (f j).natAbs) n
  | 0 => Nat.le_refl _
  | n + 1 => by
    rw [suI, suN]
    have := suI_abs f n
    omega
/-- numbers written in the base B -/
def enc (B : Nat) (w : Nat → Nat) : Nat → Nat
  | 0 => 0
  | n + 1 => enc B w n + w n * B ^ n
theorem enc_lt {B : Nat} {w : Nat → Nat} : ∀ {n : Nat}, (∀ i, i < n → w i < B) → enc B w n < B ^ n
  | 0, _ => by rw [enc, Nat.pow_zero]; decide
  | n + 1, h => by
    have h1 := enc_lt (n := n) (fun i hi => h i (by omega))
    have h2 := h n (by omega)
    rw [enc, Nat.pow_succ]
    have h3 := Nat.mul_le_mul_right (B ^ n) (show w n + 1 ≤ B by omega)
    rw [Nat.add_mul, Nat.one_mul] at h3
    rw [Nat.mul_comm (B ^ n) B]
    omega
theorem enc_inj {B : Nat} {w v : Nat → Nat} : ∀ {n : Nat}, (∀ i, i < n → w i < B) → (∀ i, i < n → v i < B) → enc B w n = enc B v n → ∀ i, i < n → w i = v i
  | 0, _, _, _, i, hi => absurd hi (Nat.not_lt_zero _)
  | n + 1, hw, hv, e, i, hi => by
    have a := enc_lt (n := n) (fun i hi => hw i (by omega))
    have b := enc_lt (n := n) (fun i hi => hv i (by omega))
    rw [enc, enc] at e
    have hB : 0 < B ^ n := by omega
    have e1 : w n = v n := by
      have x := congrArg (fun t => t / B ^ n) e
      (try dsimp only at x)
      rw [Nat.add_mul_div_right _ _ hB, Nat.add_mul_div_right _ _ hB, Nat.div_eq_of_lt a, Nat.div_eq_of_lt b] at x
      omega
    rw [e1] at e
    by_cases c : i = n
    · rw [c]; exact e1
    · exact enc_inj (n := n) (fun i hi => hw i (by omega)) (fun i hi => hv i (by omega)) (by omega) i (by omega)
theorem enc_dig {B : Nat} (hB : 0 < B) : ∀ (n t : Nat), t < B ^ n → enc B (fun j => t / B ^ j % B) n = t
  | 0, t, h => by rw [Nat.pow_zero] at h; rw [enc]; omega
  | n + 1, t, h => by
    have hp : 0 < B ^ n := Nat.pow_pos hB
    have h1 := enc_dig hB n (t % B ^ n) (Nat.mod_lt _ hp)
    have e : ∀ j, j < n → t % B ^ n / B ^ j % B = t / B ^ j % B := fun j hj => by
      obtain ⟨k, hk⟩ : ∃ k, n = j + 1 + k := ⟨n - (j + 1), by omega⟩
      have hj0 : 0 < B ^ j := Nat.pow_pos hB
      have h2 := Nat.div_add_mod t (B ^ n)
      have h3 : B ^ n = B ^ j * (B * B ^ k) := by rw [hk, Nat.pow_add, Nat.pow_succ, Nat.mul_assoc]
      have h4 : t = t % B ^ n + B ^ j * (B * B ^ k * (t / B ^ n)) := by
        rw [← Nat.mul_assoc, ← h3]; omega
      have h5 : t / B ^ j = t % B ^ n / B ^ j + B * (B ^ k * (t / B ^ n)) := by
        have := congrArg (fun x => x / B ^ j) h4
        (try dsimp only at this)
        rw [Nat.add_mul_div_left _ _ hj0, Nat.mul_assoc] at this
        exact this
      rw [h5, Nat.add_mul_mod_self_left]
    have e2 : ∀ m, m ≤ n → enc B (fun j => t % B ^ n / B ^ j % B) m = enc B (fun j => t / B ^ j % B) m := by
      intro m
      induction m with
      | zero => intro _; rfl
      | succ m ih => intro hm; rw [enc, enc, ih (by omega)]; (try dsimp only); rw [e m (by omega)]
    rw [enc, ← e2 n (Nat.le_refl n), h1]
    have h6 : t / B ^ n < B := Nat.div_lt_of_lt_mul (by rw [Nat.pow_succ] at h; exact h)
    (try dsimp only)
    rw [Nat.mod_eq_of_lt h6, Nat.mul_comm]
    have := Nat.div_add_mod t (B ^ n)
    omega
/-- small numbers that solve m equations, one more than m numbers -/
theorem siegel (m : Nat) (a : Nat → Nat → Int) (R : Nat) (hR : 1 ≤ R) (ha : ∀ i, i < m → suN (fun j => (a i j).natAbs) (m + 1) ≤ R) : ∃ x : Nat → Int, (∃ j, j < m + 1 ∧ x j ≠ 0) ∧ (∀ j, j < m + 1 → (x j).natAbs ≤ R ^ m) ∧ ∀ i, i < m → suI (fun j => a i j * x j) (m + 1) = 0 := by
  obtain ⟨X, hX⟩ : ∃ X, X = R ^ m := ⟨_, rfl⟩
  have hdg : ∀ t j, t / (X + 1) ^ j % (X + 1) ≤ X := fun t j => Nat.le_of_lt_succ (Nat.mod_lt _ (Nat.succ_pos X))
  have bd : ∀ (b : Nat → Int) (y : Nat → Nat), (∀ j, y j ≤ X) → ∀ n, -((X * suN (fun j => (-(b j)).toNat) n : Nat) : Int) ≤ suI (fun j => b j * (y j : Int)) n ∧ suI (fun j => b j * (y j : Int)) n + ((X * suN (fun j => (-(b j)).toNat) n : Nat) : Int) ≤ ((X * suN (fun j => (b j).natAbs) n : Nat) : Int) := by
    intro b y hy n
    induction n with
    | zero => rw [suI, suN, suN]; simp
    | succ n ih =>
      rw [suI, suN, suN, Nat.mul_add, Nat.mul_add]
      have hyn := hy n
      have key : -((X * (-(b n)).toNat : Nat) : Int) ≤ b n * (y n : Int) ∧ b n * (y n : Int) + ((X * (-(b n)).toNat : Nat) : Int) ≤ ((X * (b n).natAbs : Nat) : Int) := by
        rcases Int.le_total 0 (b n) with w | w
        · obtain ⟨k, hk⟩ : ∃ k : Nat, b n = (k : Int) := ⟨(b n).toNat, by omega⟩
          rw [hk]
          have e1 : (-((k : Nat) : Int)).toNat = 0 := by omega
          have e2 : ((k : Nat) : Int).natAbs = k := by omega
          rw [e1, e2, Nat.mul_zero, ← Int.natCast_mul]
          have := Nat.mul_le_mul_left k hyn
          rw [Nat.mul_comm X k]
          omega
        · obtain ⟨k, hk⟩ : ∃ k : Nat, b n = -(k : Int) := ⟨(-(b n)).toNat, by omega⟩
          rw [hk]
          have e1 : (- -((k : Nat) : Int)).toNat = k := by omega
          have e2 : (-((k : Nat) : Int)).natAbs = k := by omega
          rw [e1, e2, Int.neg_mul, ← Int.natCast_mul]
          have := Nat.mul_le_mul_left k hyn
          rw [Nat.mul_comm X k]
          omega
      omega
  obtain ⟨v, hv⟩ : ∃ v : Nat → Nat → Nat, v = fun t i => (suI (fun j => a i j * ((t / (X + 1) ^ j % (X + 1) : Nat) : Int)) (m + 1) + ((X * suN (fun j => (-(a i j)).toNat) (m + 1) : Nat) : Int)).toNat := ⟨_, rfl⟩
  have hv1 : ∀ t i, i < m → v t i < X * R + 1 := fun t i hi => by
    have h1 := bd (a i) (fun j => t / (X + 1) ^ j % (X + 1)) (hdg t) (m + 1)
    have h2 := Nat.mul_le_mul_left X (ha i hi)
    rw [hv]
    (try dsimp only at h1 ⊢)
    omega
  have hlt : (X * R + 1) ^ m < (X + 1) ^ (m + 1) := by
    have h1 : (X * R + 1) ^ m ≤ (R * (X + 1)) ^ m := Nat.pow_le_pow_left (by rw [Nat.mul_add, Nat.mul_comm R X]; omega) m
    rw [Nat.mul_pow, ← hX] at h1
    have h2 : 0 < (X + 1) ^ m := Nat.pow_pos (Nat.succ_pos X)
    rw [Nat.pow_succ, Nat.mul_comm _ (X + 1), Nat.add_mul]
    omega
  obtain ⟨t, u, h1, h2, h3⟩ := pig ((X * R + 1) ^ m) (fun t => enc (X * R + 1) (v t) m) (fun t _ => enc_lt (hv1 t))
  have h4 := enc_inj (hv1 t) (hv1 u) h3
  refine ⟨fun j => ((u / (X + 1) ^ j % (X + 1) : Nat) : Int) - ((t / (X + 1) ^ j % (X + 1) : Nat) : Int), ?_, fun j _ => ?_, fun i hi => ?_⟩
  · refine Classical.byContradiction (fun q => ?_)
    have e : ∀ n, n ≤ m + 1 → enc (X + 1) (fun j => u / (X + 1) ^ j % (X + 1)) n = enc (X + 1) (fun j => t / (X + 1) ^ j % (X + 1)) n := by
      intro n
      induction n with
      | zero => intro _; rfl
      | succ n ih =>
        intro hn
        rw [enc, enc, ih (by omega)]
        have : ¬ (((u / (X + 1) ^ n % (X + 1) : Nat) : Int) - ((t / (X + 1) ^ n % (X + 1) : Nat) : Int) ≠ 0) := fun w => q ⟨n, by omega, w⟩
        (try dsimp only)
        rw [show u / (X + 1) ^ n % (X + 1) = t / (X + 1) ^ n % (X + 1) by omega]
    have e1 := e (m + 1) (Nat.le_refl _)
    rw [enc_dig (Nat.succ_pos X) _ _ (show u < (X + 1) ^ (m + 1) by omega), enc_dig (Nat.succ_pos X) _ _ (show t < (X + 1) ^ (m + 1) by omega)] at e1
    omega
  · have a1 := hdg u j
    have a2 := hdg t j
    rw [← hX]
    (try dsimp only)
    omega
  · have a1 := bd (a i) (fun j => t / (X + 1) ^ j % (X + 1)) (hdg t) (m + 1)
    have a2 := bd (a i) (fun j => u / (X + 1) ^ j % (X + 1)) (hdg u) (m + 1)
    have a3 := h4 i hi
    rw [hv] at a3
    (try dsimp only at a1 a2 a3)
    have e : suI (fun j => a i j * (((u / (X + 1) ^ j % (X + 1) : Nat) : Int) - ((t / (X + 1) ^ j % (X + 1) : Nat) : Int))) (m + 1) = suI (fun j => a i j * ((u / (X + 1) ^ j % (X + 1) : Nat) : Int)) (m + 1) - suI (fun j => a i j * ((t / (X + 1) ^ j % (X + 1) : Nat) : Int)) (m + 1) := by
      rw [← suI_sub]
      exact suI_cong (fun j _ => by rw [Int.mul_sub])
    rw [e]
    omega
