/-! polynomial functions and their degrees -/
/-- fewer than n coefficients -/
def raU (n : Nat) (f : Rat → Rat) : Prop := ∃ l : List Rat, l.length ≤ n ∧ ∀ x, f x = raV l x
/-- of the degree k -/
def raW (k : Nat) (f : Rat → Rat) : Prop := ∃ (c : Rat) (g : Rat → Rat), c ≠ 0 ∧ raU k g ∧ ∀ x, f x = g x + c * x ^ k
theorem raU_up {n m : Nat} {f : Rat → Rat} (h : raU n f) (hnm : n ≤ m) : raU m f := by
  obtain ⟨l, h1, h2⟩ := h
  exact ⟨l, Nat.le_trans h1 hnm, h2⟩
theorem raU_eq {n : Nat} {f g : Rat → Rat} (h : raU n f) (e : ∀ x, g x = f x) : raU n g := by
  obtain ⟨l, h1, h2⟩ := h
  exact ⟨l, h1, fun x => (e x).trans (h2 x)⟩
theorem raW_eq {n : Nat} {f g : Rat → Rat} (h : raW n f) (e : ∀ x, g x = f x) : raW n g := by
  obtain ⟨c, k, h1, h2, h3⟩ := h
  exact ⟨c, k, h1, h2, fun x => (e x).trans (h3 x)⟩
theorem raU_0 {f : Rat → Rat} (h : raU 0 f) (x : Rat) : f x = 0 := by
  obtain ⟨l, h1, h2⟩ := h
  rw [List.length_eq_zero_iff.mp (Nat.le_zero.mp h1)] at h2
  exact h2 x
theorem raU_z (n : Nat) : raU n (fun _ => 0) := ⟨[], Nat.zero_le _, fun _ => rfl⟩
theorem raU_l (l : List Rat) : raU l.length (raV l) := ⟨l, Nat.le_refl _, fun _ => rfl⟩
theorem raU_c (c : Rat) : raU 1 (fun _ => c) := ⟨[c], Nat.le_refl _, fun x => by simp only [raV]; grind⟩
theorem raU_add {n : Nat} {f g : Rat → Rat} (hf : raU n f) (hg : raU n g) : raU n (fun x => f x + g x) := by
  obtain ⟨l, h1, h2⟩ := hf
  obtain ⟨m, h3, h4⟩ := hg
  exact ⟨raA l m, by rw [raA_len]; omega, fun x => by (try dsimp only); rw [raV_A, h2, h4]⟩
theorem raU_s {n : Nat} {f : Rat → Rat} (k : Rat) (hf : raU n f) : raU n (fun x => k * f x) := by
  obtain ⟨l, h1, h2⟩ := hf
  exact ⟨raS k l, by rw [raS_len]; exact h1, fun x => by (try dsimp only); rw [raV_S, h2]⟩
theorem raU_sub {n : Nat} {f g : Rat → Rat} (hf : raU n f) (hg : raU n g) : raU n (fun x => f x - g x) :=
  raU_eq (raU_add hf (raU_s (-1) hg)) (fun x => by grind)
theorem raU_mul {n m : Nat} {f g : Rat → Rat} (hf : raU (n + 1) f) (hg : raU (m + 1) g) : raU (n + m + 1) (fun x => f x * g x) := by
  obtain ⟨l, h1, h2⟩ := hf
  obtain ⟨k, h3, h4⟩ := hg
  refine ⟨raM l k, ?_, fun x => by (try dsimp only); rw [raV_M, h2, h4]⟩
  by_cases q1 : l = []
  · subst q1; simp [raM]
  · by_cases q2 : k = []
    · subst q2
      have : ∀ l : List Rat, (raM l []).length ≤ l.length := by
        intro l
        induction l with
        | nil => exact Nat.le_refl _
        | cons a t ih => simp only [raM, raS, raA, List.length_cons]; omega
      have := this l
      omega
    · rw [raM_len l k q1 q2]; omega
/-- times x^k -/
theorem raU_sh {n : Nat} {f : Rat → Rat} (k : Nat) (hf : raU n f) : raU (n + k) (fun x => f x * x ^ k) := by
  induction k with
  | zero => exact raU_eq hf (fun x => by (try dsimp only); rw [Rat.pow_zero]; grind)
  | succ k ih =>
    obtain ⟨l, h1, h2⟩ := ih
    refine ⟨0 :: l, by simp only [List.length_cons]; omega, fun x => ?_⟩
    have h3 := h2 x
    try dsimp only at h3 ⊢
    rw [raV, ← h3, Rat.pow_succ]
    grind
theorem raU_pow (k : Nat) (c : Rat) : raU (k + 1) (fun x => c * x ^ k) := raU_up (raU_sh k (raU_c c)) (by omega)
theorem raU_W {k : Nat} {f : Rat → Rat} (h : raW k f) : raU (k + 1) f := by
  obtain ⟨c, g, h1, h2, h3⟩ := h
  exact raU_eq (raU_add (raU_up h2 (by omega)) (raU_pow k c)) h3
theorem raW_mul {k w : Nat} {f g : Rat → Rat} (hf : raW k f) (hg : raW w g) : raW (k + w) (fun x => f x * g x) := by
  have hg' := raU_W hg
  obtain ⟨c, f1, h1, h2, h3⟩ := hf
  obtain ⟨d, g1, h4, h5, h6⟩ := hg
  have a1 : raU (k + w) (fun x => f1 x * g x) := by
    cases k with
    | zero => exact raU_eq (raU_z _) (fun x => by (try dsimp only); rw [raU_0 h2]; grind)
    | succ k => exact raU_up (raU_mul h2 hg') (by omega)
  have a2 : raU (k + w) (fun x => c * (g1 x * x ^ k)) := raU_s c (raU_up (raU_sh k h5) (by omega))
  refine ⟨c * d, _, fun q => (Rat.mul_eq_zero.mp q).elim h1 h4, raU_add a1 a2, fun x => ?_⟩
  have hp : x ^ (k + w) = x ^ k * x ^ w := by
    induction w with
    | zero => rw [Nat.add_zero, Rat.pow_zero]; grind
    | succ w ih => rw [← Nat.add_assoc, Rat.pow_succ, Rat.pow_succ]; grind
  try dsimp only
  rw [hp, h3, h6]
  generalize x ^ k = y
  generalize x ^ w = z
  grind
theorem raU_ext {n : Nat} {f : Rat → Rat} (h : raU n f) (hz : ∃ u v, u < v ∧ ∀ x, u < x → x < v → f x = 0) : ∀ x, f x = 0 := by
  obtain ⟨l, h1, h2⟩ := h
  obtain ⟨u, v, h3, h4⟩ := hz
  intro x
  rw [h2]
  exact raV_int h3 (fun y a b => by rw [← h2]; exact h4 y a b) x
theorem raW_nU {k n : Nat} {f : Rat → Rat} (h : raW k f) (h2 : raU n f) : k < n := by
  refine Nat.lt_of_not_le (fun hn => ?_)
  obtain ⟨c, g, h3, h4, h5⟩ := h
  obtain ⟨l, e1, e2⟩ := raU_sub (raU_up h2 hn) h4
  have hp : ∃ l' : List Rat, l'.length = k ∧ ∀ x, raV l' x = raV l x := by
    refine ⟨raA l (List.replicate k 0), by rw [raA_len, List.length_replicate]; omega, fun x => ?_⟩
    have : ∀ k : Nat, raV (List.replicate k 0) x = 0 := by
      intro k
      induction k with
      | zero => rfl
      | succ k ih => rw [List.replicate_succ, raV, ih]; grind
    rw [raV_A, this]; grind
  obtain ⟨l', e3, e4⟩ := hp
  have hz : ∀ x, raV (l' ++ [-c]) x = 0 := fun x => by
    have a1 := h5 x
    have a2 := e2 x
    try dsimp only at a2
    rw [raV_app, e3, e4, ← a2, a1]
    grind
  have := raV_zero _ hz (-c) (by simp)
  exact h3 (by grind)
theorem raU_or : ∀ (n : Nat) {f : Rat → Rat}, raU n f → (∀ x, f x = 0) ∨ ∃ k, k < n ∧ raW k f := by
  intro n f h
  obtain ⟨l, h1, h2⟩ := h
  have key : ∀ (m : Nat) (l : List Rat), l.length = m → (∀ x, raV l x = 0) ∨ ∃ k, k < m ∧ raW k (raV l) := by
    intro m
    induction m with
    | zero => intro l h; rw [List.length_eq_zero_iff.mp h]; exact Or.inl (fun _ => rfl)
    | succ m ih =>
      intro l h
      obtain ⟨l', a, rfl⟩ : ∃ l' a, l = l' ++ [a] := by
        rcases List.eq_nil_or_concat l with q | ⟨l', a, q⟩
        · rw [q] at h; simp at h
        · exact ⟨l', a, by rw [q]; simp⟩
      have hl : l'.length = m := by simpa using h
      by_cases ha : a = 0
      · have e : ∀ x, raV (l' ++ [a]) x = raV l' x := fun x => by (try dsimp only); rw [raV_app, ha]; grind
        rcases ih l' hl with q | ⟨k, q1, q2⟩
        · exact Or.inl (fun x => by (try dsimp only); rw [e]; exact q x)
        · exact Or.inr ⟨k, by omega, raW_eq q2 e⟩
      · exact Or.inr ⟨m, by omega, a, raV l', ha, by rw [← hl]; exact raU_l l', fun x => by (try dsimp only); rw [raV_app, hl]⟩
  rcases key l.length l rfl with q | ⟨k, q1, q2⟩
  · exact Or.inl (fun x => by (try dsimp only); rw [h2]; exact q x)
  · exact Or.inr ⟨k, by omega, raW_eq q2 h2⟩
theorem raW_add {k : Nat} {f g : Rat → Rat} (hf : raW k f) (hg : raU k g) : raW k (fun x => f x + g x) := by
  obtain ⟨c, h, h1, h2, h3⟩ := hf
  exact ⟨c, _, h1, raU_add h2 hg, fun x => by (try dsimp only); rw [h3]; grind⟩
theorem raW_s {k : Nat} {c : Rat} {f : Rat → Rat} (hc : c ≠ 0) (hf : raW k f) : raW k (fun x => c * f x) := by
  obtain ⟨d, h, h1, h2, h3⟩ := hf
  exact ⟨c * d, _, fun q => (Rat.mul_eq_zero.mp q).elim hc h1, raU_s c h2, fun x => by (try dsimp only); rw [h3]; grind⟩
theorem raW_n0 {k : Nat} {f : Rat → Rat} (h : raW k f) : ¬ ∀ x, f x = 0 := fun q => by
  have := raW_nU h (raU_eq (raU_z 0) q)
  omega
theorem raW_un {k m : Nat} {f : Rat → Rat} (h : raW k f) (h2 : raW m f) : k = m := by
  have a := raW_nU h (raU_W h2)
  have b := raW_nU h2 (raU_W h)
  omega
/-- of degree 0: constant -/
theorem raW_0 {f : Rat → Rat} (h : raW 0 f) : ∃ c, c ≠ 0 ∧ ∀ x, f x = c := by
  obtain ⟨c, g, h1, h2, h3⟩ := h
  exact ⟨c, h1, fun x => by (try dsimp only); rw [h3, raU_0 h2, Rat.pow_zero]; grind⟩
/-- a product that is 0 -/
theorem raU_nz {n m : Nat} {f g : Rat → Rat} (hf : raU n f) (hg : raU m g) (h : ∀ x, f x * g x = 0) (hn : ¬ ∀ x, f x = 0) : ∀ x, g x = 0 := by
  obtain ⟨l, h1, h2⟩ := hf
  obtain ⟨k, h3, h4⟩ := hg
  intro x
  rw [h4]
  exact raV_nz (p := l) (q := k) (fun y => by rw [← h2, ← h4]; exact h y) (fun z => hn (fun y => by rw [h2]; exact z y)) x
/-- canceled -/
theorem raU_can {n m k : Nat} {f g h : Rat → Rat} (hf : raU n f) (hg : raU m g) (hh : raU k h) (e : ∀ x, f x * g x = f x * h x) (hn : ¬ ∀ x, f x = 0) : ∀ x, g x = h x := by
  intro x
  have := raU_nz hf (raU_sub (raU_up hg (Nat.le_max_left m k)) (raU_up hh (Nat.le_max_right m k))) (fun y => by have := e y; grind) hn x
  grind
