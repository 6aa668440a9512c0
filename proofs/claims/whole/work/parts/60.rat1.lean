/-! POLYNOMIALS OVER THE RATIONALS, as lists of coefficients, and their values -/
def raV : List Rat → Rat → Rat
  | [], _ => 0
  | a :: t, x => a + x * raV t x
def raA : List Rat → List Rat → List Rat
  | [], q => q
  | p, [] => p
  | a :: t, b :: u => (a + b) :: raA t u
def raS (k : Rat) : List Rat → List Rat
  | [] => []
  | a :: t => (k * a) :: raS k t
def raM : List Rat → List Rat → List Rat
  | [], _ => []
  | a :: t, q => raA (raS a q) (0 :: raM t q)
def raD : List Rat → List Rat
  | [] => []
  | [_] => []
  | _ :: b :: t => raA (b :: t) (0 :: raD (b :: t))
/-- the quotient by x - r -/
def raT (r : Rat) : List Rat → List Rat
  | [] => []
  | _ :: t => raA t (raS r (raT r t))
theorem raV_A : ∀ (p q : List Rat) (x : Rat), raV (raA p q) x = raV p x + raV q x
  | [], q, x => by simp only [raA, raV]; grind
  | a :: t, [], x => by simp only [raA, raV]; grind
  | a :: t, b :: u, x => by simp only [raA, raV]; rw [raV_A t u x]; grind
theorem raV_S (k : Rat) : ∀ (p : List Rat) (x : Rat), raV (raS k p) x = k * raV p x
  | [], x => by simp only [raS, raV]; grind
  | a :: t, x => by simp only [raS, raV]; rw [raV_S k t x]; grind
theorem raV_M : ∀ (p q : List Rat) (x : Rat), raV (raM p q) x = raV p x * raV q x
  | [], q, x => by simp only [raM, raV]; grind
  | a :: t, q, x => by simp only [raM, raV]; rw [raV_A, raV_S, raV, raV_M t q x]; grind
theorem raV_D (a : Rat) : ∀ (t : List Rat) (x : Rat), raV (raD (a :: t)) x = raV t x + x * raV (raD t) x
  | [], x => by simp only [raD, raV]; grind
  | b :: t, x => by rw [raD, raV_A]; simp only [raV]; grind
theorem raV_DA : ∀ (p q : List Rat) (x : Rat), raV (raD (raA p q)) x = raV (raD p) x + raV (raD q) x
  | [], q, x => by simp only [raA, raD, raV]; grind
  | a :: t, [], x => by rw [raA]; simp only [raD, raV]; grind; simp
  | a :: t, b :: u, x => by simp only [raA]; rw [raV_D, raV_D, raV_D, raV_A, raV_DA t u x]; grind
theorem raV_DS (k : Rat) : ∀ (p : List Rat) (x : Rat), raV (raD (raS k p)) x = k * raV (raD p) x
  | [], x => by simp only [raS, raD, raV]; grind
  | a :: t, x => by simp only [raS]; rw [raV_D, raV_D, raV_S, raV_DS k t x]; grind
theorem raV_DM : ∀ (p q : List Rat) (x : Rat), raV (raD (raM p q)) x = raV (raD p) x * raV q x + raV p x * raV (raD q) x
  | [], q, x => by simp only [raM, raD, raV]; grind
  | a :: t, q, x => by simp only [raM]; rw [raV_DA, raV_DS, raV_D, raV_D, raV_M, raV_DM t q x, raV]; grind
theorem raV_T (r : Rat) : ∀ (p : List Rat) (x : Rat), raV p x = raV p r + (x - r) * raV (raT r p) x
  | [], x => by simp only [raT, raV]; grind
  | a :: t, x => by
    have h := raV_T r t x
    simp only [raT, raV]
    rw [raV_A, raV_S]
    grind
theorem raA_len : ∀ (p q : List Rat), (raA p q).length = max p.length q.length
  | [], q => by simp [raA]
  | a :: t, [] => by simp [raA]
  | a :: t, b :: u => by simp only [raA, List.length_cons, raA_len t u]; omega
theorem raS_len (k : Rat) : ∀ (p : List Rat), (raS k p).length = p.length
  | [] => rfl
  | a :: t => by simp only [raS, List.length_cons, raS_len k t]
theorem raT_len (r : Rat) : ∀ (p : List Rat), (raT r p).length = p.length - 1
  | [] => rfl
  | a :: t => by simp only [raT, raA_len, raS_len, raT_len r t, List.length_cons]; omega
theorem raD_len : ∀ (p : List Rat), (raD p).length = p.length - 1
  | [] => rfl
  | [a] => rfl
  | a :: b :: t => by
    have h := raD_len (b :: t)
    rw [raD, raA_len]
    simp only [List.length_cons] at h ⊢
    omega
theorem raM_len : ∀ (p q : List Rat), p ≠ [] → q ≠ [] → (raM p q).length = p.length + q.length - 1
  | [], q, h, _ => absurd rfl h
  | [a], q, _, hq => by
    have : 0 < q.length := List.length_pos_iff.mpr hq
    simp only [raM, raA_len, raS_len, List.length_cons, List.length_nil]; omega
  | a :: b :: t, q, _, hq => by
    have : 0 < q.length := List.length_pos_iff.mpr hq
    have h := raM_len (b :: t) q (by simp) hq
    simp only [raM, raA_len, raS_len, List.length_cons] at h ⊢; omega
/-- a polynomial with more roots than its length allows is 0 everywhere -/
theorem raV_roots : ∀ (n : Nat) (p : List Rat) (r : Nat → Rat), p.length ≤ n → (∀ i, i < n → ∀ j, j < n → r i = r j → i = j) → (∀ i, i < n → raV p (r i) = 0) → ∀ x, raV p x = 0
  | 0, p, r, hl, _, _, x => by
    have : p = [] := List.length_eq_zero_iff.mp (by omega)
    subst this; rfl
  | n + 1, p, r, hl, hi, hz, x => by
    have h1 := raV_roots n (raT (r n) p) r (by rw [raT_len]; omega) (fun i h j k => hi i (by omega) j (by omega)) (fun i h => by
      have h2 := raV_T (r n) p (r i)
      rw [hz i (by omega), hz n (by omega)] at h2
      have h3 : r i - r n ≠ 0 := fun q => by
        have : r i = r n := by grind
        have := hi i (by omega) n (by omega) this
        omega
      have h4 : (r i - r n) * raV (raT (r n) p) (r i) = 0 := by grind
      exact (Rat.mul_eq_zero.mp h4).resolve_left h3) x
    have h2 := raV_T (r n) p x
    rw [h1, hz n (by omega)] at h2
    grind
/-- .. 0 on an interval: 0 everywhere -/
theorem raV_int {p : List Rat} {u v : Rat} (h : u < v) (hz : ∀ x, u < x → x < v → raV p x = 0) : ∀ x, raV p x = 0 := by
  obtain ⟨N, hN⟩ : ∃ N : Nat, N = p.length := ⟨_, rfl⟩
  have hp : (0 : Rat) < ((N + 1 : Nat) : Rat) := Rat.natCast_pos.mpr (by omega)
  refine raV_roots N p (fun i => u + (v - u) * (((i + 1 : Nat) : Rat) / ((N + 1 : Nat) : Rat))) (by omega) (fun i hi j hj e => ?_) (fun i hi => ?_)
  · have h1 : (v - u) ≠ 0 := by grind
    have h2 : (v - u) * (((i + 1 : Nat) : Rat) / ((N + 1 : Nat) : Rat) - ((j + 1 : Nat) : Rat) / ((N + 1 : Nat) : Rat)) = 0 := by grind
    have h3 := (Rat.mul_eq_zero.mp h2).resolve_left h1
    have h4 : ((i + 1 : Nat) : Rat) = ((j + 1 : Nat) : Rat) := by
      have e1 := Rat.div_mul_cancel (a := ((i + 1 : Nat) : Rat)) (b := ((N + 1 : Nat) : Rat)) (by grind)
      have e2 := Rat.div_mul_cancel (a := ((j + 1 : Nat) : Rat)) (b := ((N + 1 : Nat) : Rat)) (by grind)
      grind
    have := Rat.natCast_inj.mp h4
    omega
  · have h1 : 0 < ((i + 1 : Nat) : Rat) / ((N + 1 : Nat) : Rat) := (Rat.lt_div_iff hp).mpr (by rw [Rat.zero_mul]; exact Rat.natCast_pos.mpr (by omega))
    have h2 : ((i + 1 : Nat) : Rat) / ((N + 1 : Nat) : Rat) < 1 := (Rat.div_lt_iff hp).mpr (by rw [Rat.one_mul]; exact Rat.natCast_lt_natCast.mpr (by omega))
    have h3 : 0 < v - u := by grind
    have h4 := Rat.mul_pos h3 h1
    have h5 := Rat.mul_lt_mul_of_pos_left h2 h3
    exact hz _ (by grind) (by grind)
/-- 0 everywhere: no coefficient but 0 -/
theorem raV_zero : ∀ (p : List Rat), (∀ x, raV p x = 0) → ∀ a ∈ p, a = 0
  | [], _, a, h => by cases h
  | b :: t, h, a, ha => by
    have h0 : b = 0 := by have := h 0; simp only [raV] at this; grind
    have ht : ∀ x, raV t x = 0 := raV_int (u := 0) (v := 1) (by decide) (fun x hx _ => by
      have := h x
      simp only [raV] at this
      rw [h0] at this
      have h1 : x * raV t x = 0 := by grind
      exact (Rat.mul_eq_zero.mp h1).resolve_left (by grind))
    rcases List.mem_cons.mp ha with q | q
    · rw [q, h0]
    · exact raV_zero t ht a q
/-- a product that is 0 everywhere -/
theorem raV_nz {p q : List Rat} (h : ∀ x, raV p x * raV q x = 0) (hp : ¬ ∀ x, raV p x = 0) : ∀ x, raV q x = 0 := by
  have h1 : ∀ x, raV (raM p q) x = 0 := fun x => by rw [raV_M]; exact h x
  have key : ∀ (n : Nat) (p q : List Rat), p.length ≤ n → (∀ x, raV p x * raV q x = 0) → (¬ ∀ x, raV p x = 0) → ∀ x, raV q x = 0 := by
    intro n
    induction n with
    | zero =>
      intro p q hl _ hp
      have : p = [] := List.length_eq_zero_iff.mp (by omega)
      subst this
      exact absurd (fun x => rfl) hp
    | succ n ih =>
      intro p q hl h hp
      by_cases hc : ∃ r, raV p r = 0
      · obtain ⟨r, hr⟩ := hc
        have e : ∀ x, raV p x = (x - r) * raV (raT r p) x := fun x => by
          have := raV_T r p x
          rw [hr] at this
          grind
        refine ih (raT r p) q (by rw [raT_len]; omega) (fun x => ?_) (fun z => hp (fun x => by rw [e, z, Rat.mul_zero]))
        have : ∀ y, raV (raM (raT r p) q) y = 0 := raV_int (u := r) (v := r + 1) (by grind) (fun y h1 h2 => by
          rw [raV_M]
          have := h y
          rw [e, Rat.mul_assoc] at this
          exact (Rat.mul_eq_zero.mp this).resolve_left (by grind))
        have h2 := this x
        rw [raV_M] at h2
        exact h2
      · intro x
        exact (Rat.mul_eq_zero.mp (h x)).resolve_left (fun z => hc ⟨x, z⟩)
  exact key p.length p q (Nat.le_refl _) h hp
