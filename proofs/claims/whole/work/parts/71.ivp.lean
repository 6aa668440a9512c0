/-! integer coefficients as polynomial functions -/
def ivn (n : Nat) (p : Nat → Int) : List Rat := (List.range n).map (fun i => ((p i : Int) : Rat))
def iv (p : Nat → Int) : Rat → Rat := raV (ivn 7 p)
theorem ivn_len (n : Nat) (p : Nat → Int) : (ivn n p).length = n := by unfold ivn; rw [List.length_map, List.length_range]
theorem ivn_0 (p : Nat → Int) (x : Rat) : raV (ivn 0 p) x = 0 := rfl
theorem ivn_s (n : Nat) (p : Nat → Int) (x : Rat) : raV (ivn (n + 1) p) x = raV (ivn n p) x + (p n : Rat) * x ^ n := by
  unfold ivn
  rw [List.range_succ, List.map_append, List.map_cons, List.map_nil, raV_app, List.length_map, List.length_range]
theorem ivn_st (p : Nat → Int) (x : Rat) : ∀ n, raV (ivn n p) x = raV (ivn (stI p n) p) x
  | 0 => rfl
  | n + 1 => by
    rw [stI]
    by_cases h : p n = 0
    · rw [if_pos h, ivn_s, h, ivn_st p x n, Rat.intCast_zero]; grind
    · rw [if_neg h]
theorem ivn_cong {p q : Nat → Int} {n : Nat} (h : ∀ i, i < n → p i = q i) : ivn n p = ivn n q := by
  unfold ivn
  refine List.map_congr_left (fun i hi => ?_)
  rw [h i (List.mem_range.mp hi)]
theorem iv_cong {p q : Nat → Int} (h : ∀ i, i < 7 → p i = q i) : iv p = iv q := by
  unfold iv
  rw [ivn_cong h]
theorem iv_U (p : Nat → Int) : raU (stI p 7) (iv p) := ⟨ivn (stI p 7) p, by rw [ivn_len]; exact Nat.le_refl _, fun x => ivn_st p x 7⟩
theorem iv_U7 (p : Nat → Int) : raU 7 (iv p) := raU_up (iv_U p) (stI_le _ _)
theorem iv_W {p : Nat → Int} {k : Nat} (h : stI p 7 = k + 1) : raW k (iv p) := by
  have h1 := stI_top (p := p) (n := 7) (by omega)
  rw [h, Nat.add_sub_cancel] at h1
  refine ⟨(p k : Rat), raV (ivn k p), fun q => h1 (Rat.intCast_eq_zero_iff.mp q), ⟨_, by rw [ivn_len]; exact Nat.le_refl _, fun _ => rfl⟩, fun x => ?_⟩
  unfold iv
  rw [ivn_st p x 7, h, ivn_s]
theorem iv_co {c : Rat} {p q : Nat → Int} (h : ∀ x, iv p x = c * iv q x) : ∀ i, i < 7 → (p i : Rat) = c * (q i : Rat) := by
  intro i hi
  have hz : ∀ x, raV ((List.range 7).map (fun i => (p i : Rat) - c * (q i : Rat))) x = 0 := by
    intro x
    have key : ∀ n : Nat, raV ((List.range n).map (fun i => (p i : Rat) - c * (q i : Rat))) x = raV (ivn n p) x - c * raV (ivn n q) x := by
      intro n
      induction n with
      | zero => rw [ivn_0, ivn_0]; simp only [List.range_zero, List.map_nil, raV]; grind
      | succ n ih =>
        rw [List.range_succ, List.map_append, List.map_cons, List.map_nil, raV_app, List.length_map, List.length_range, ih, ivn_s, ivn_s]
        generalize x ^ n = y
        grind
    have h2 := h x
    unfold iv at h2
    rw [key, h2]
    grind
  have := raV_zero _ hz ((p i : Rat) - c * (q i : Rat)) (List.mem_map.mpr ⟨i, List.mem_range.mpr hi, rfl⟩)
  grind
theorem iv_inj {p q : Nat → Int} (h : ∀ x, iv p x = iv q x) : ∀ i, i < 7 → p i = q i := by
  intro i hi
  have := iv_co (c := 1) (p := p) (q := q) (fun x => by rw [h]; grind) i hi
  rw [Rat.one_mul] at this
  exact Rat.intCast_inj.mp this
theorem iv_lin (a b : Int) (p q : Nat → Int) (x : Rat) : iv (fun i => a * p i + b * q i) x = (a : Rat) * iv p x + (b : Rat) * iv q x := by
  have key : ∀ n : Nat, raV (ivn n (fun i => a * p i + b * q i)) x = (a : Rat) * raV (ivn n p) x + (b : Rat) * raV (ivn n q) x := by
    intro n
    induction n with
    | zero => rw [ivn_0, ivn_0, ivn_0]; grind
    | succ n ih =>
      rw [ivn_s, ivn_s, ivn_s, ih, Rat.intCast_add, Rat.intCast_mul, Rat.intCast_mul]
      generalize x ^ n = y
      grind
  exact key 7
theorem iv_neg (p : Nat → Int) (x : Rat) : iv (fun i => -p i) x = -iv p x := by
  have := iv_lin (-1) 0 p p x
  rw [iv_cong (p := fun i => -1 * p i + 0 * p i) (q := fun i => -p i) (fun i _ => by omega)] at this
  rw [this, Rat.intCast_zero, Rat.intCast_neg, Rat.intCast_one]
  grind
theorem iv_scale (a : Int) (p : Nat → Int) (x : Rat) : iv (fun i => a * p i) x = (a : Rat) * iv p x := by
  have := iv_lin a 0 p p x
  rw [iv_cong (p := fun i => a * p i + 0 * p i) (q := fun i => a * p i) (fun i _ => by omega)] at this
  rw [this, Rat.intCast_zero]
  grind
theorem iv_zero {p : Nat → Int} (h : stI p 7 = 0) (x : Rat) : iv p x = 0 := by
  unfold iv
  rw [ivn_st, h]
  rfl
theorem iv_nz {p : Nat → Int} (h : stI p 7 ≠ 0) : ¬ ∀ x, iv p x = 0 := by
  obtain ⟨k, hk⟩ : ∃ k, stI p 7 = k + 1 := ⟨stI p 7 - 1, by omega⟩
  exact raW_n0 (iv_W hk)
theorem stI_0 {p : Nat → Int} (h : ∀ x, iv p x = 0) : stI p 7 = 0 := Classical.byContradiction (fun q => iv_nz q h)
/-- moved d places up -/
theorem iv_shift {g : Nat → Int} {d : Nat} (hg : ∀ i, i < 7 → 7 ≤ i + d → g i = 0) (x : Rat) : iv (fun i => if i < d then 0 else g (i - d)) x = iv g x * x ^ d := by
  have key : ∀ n : Nat, raV (ivn (n + d) (fun i => if i < d then 0 else g (i - d))) x = raV (ivn n g) x * x ^ d := by
    intro n
    induction n with
    | zero =>
      rw [ivn_0, Nat.zero_add]
      have : ∀ k, k ≤ d → raV (ivn k (fun i => if i < d then 0 else g (i - d))) x = 0 := by
        intro k
        induction k with
        | zero => intro _; rfl
        | succ k ih => intro hk; rw [ivn_s, ih (by omega), if_pos (by omega), Rat.intCast_zero]; grind
      rw [this d (Nat.le_refl _)]; grind
    | succ n ih =>
      rw [show n + 1 + d = n + d + 1 by omega, ivn_s, ih, ivn_s, if_neg (by omega), Nat.add_sub_cancel]
      have : x ^ (n + d) = x ^ n * x ^ d := by
        clear ih
        induction d with
        | zero => rw [Nat.add_zero, Rat.pow_zero]; grind
        | succ w ih => rw [← Nat.add_assoc, Rat.pow_succ, Rat.pow_succ, ih (fun i a b => hg i a (by omega))]; grind
      rw [this]
      generalize x ^ n = y
      generalize x ^ d = z
      grind
  unfold iv
  by_cases hd : d ≤ 7
  · obtain ⟨n, hn⟩ : ∃ n, 7 = n + d := ⟨7 - d, by omega⟩
    have h1 := key n
    rw [← hn] at h1
    rw [h1]
    have : raV (ivn n g) x = raV (ivn 7 g) x := by
      have : ∀ k, n + k ≤ 7 → raV (ivn (n + k) g) x = raV (ivn n g) x := by
        intro k
        induction k with
        | zero => intro _; rfl
        | succ k ih => intro hk; rw [← Nat.add_assoc, ivn_s, ih (by omega), hg (n + k) (by omega) (by omega), Rat.intCast_zero]; grind
      rw [← this d (by omega), hn]
    rw [this]
  · have z : ∀ k, k ≤ 7 → raV (ivn k g) x = 0 := by
      intro k
      induction k with
      | zero => intro _; rfl
      | succ k ih => intro hk; rw [ivn_s, ih (by omega), hg k (by omega) (by omega), Rat.intCast_zero]; grind
    have z2 : ∀ k, k ≤ 7 → raV (ivn k (fun i => if i < d then 0 else g (i - d))) x = 0 := by
      intro k
      induction k with
      | zero => intro _; rfl
      | succ k ih => intro hk; rw [ivn_s, ih (by omega), if_pos (by omega), Rat.intCast_zero]; grind
    rw [z 7 (by omega), z2 7 (by omega)]; grind
theorem iv_der (p : Nat → Int) (x : Rat) : iv (derI p) x = raV (raD (ivn 7 p)) x := by
  have e : ivn 7 p = [(p 0 : Rat), (p 1 : Rat), (p 2 : Rat), (p 3 : Rat), (p 4 : Rat), (p 5 : Rat), (p 6 : Rat)] := rfl
  have e2 : ivn 7 (derI p) = [((p 1 * 1 : Int) : Rat), ((p 2 * 2 : Int) : Rat), ((p 3 * 3 : Int) : Rat), ((p 4 * 4 : Int) : Rat), ((p 5 * 5 : Int) : Rat), ((p 6 * 6 : Int) : Rat), ((0 : Int) : Rat)] := rfl
  unfold iv
  rw [e, e2]
  simp only [raV, raD, raA, Rat.intCast_mul, Rat.intCast_ofNat]
  grind
/-- the primitive part -/
theorem iv_prm (p : Nat → Int) (x : Rat) : iv p x = ((cont p 7 : Int) : Rat) * iv (prm p) x := by
  rw [← iv_scale]
  rw [iv_cong (fun i hi => (prm_mul (p := p) hi).symm)]
theorem cont_0 {p : Nat → Int} : ∀ {n : Nat}, cont p n = 0 → ∀ i, i < n → p i = 0
  | 0, _, i, hi => absurd hi (Nat.not_lt_zero _)
  | n + 1, h, i, hi => by
    rw [cont] at h
    have h1 := Nat.eq_zero_of_gcd_eq_zero_left h
    have h2 := Nat.eq_zero_of_gcd_eq_zero_right h
    by_cases q : i = n
    · subst q; omega
    · exact cont_0 h1 i (by omega)
theorem stI_all {p : Nat → Int} : ∀ {n : Nat}, (∀ i, i < n → p i = 0) → stI p n = 0
  | 0, _ => rfl
  | n + 1, h => by rw [stI, if_pos (h n (by omega)), stI_all (fun i hi => h i (by omega))]
theorem cont_pos {p : Nat → Int} (h : stI p 7 ≠ 0) : 0 < cont p 7 := by
  refine Nat.pos_of_ne_zero (fun q => h (stI_all (cont_0 q)))
theorem cont_mul (k : Int) (p : Nat → Int) : ∀ n, cont (fun i => k * p i) n = k.natAbs * cont p n
  | 0 => rfl
  | n + 1 => by rw [cont, cont, cont_mul k p n, Int.natAbs_mul, Nat.gcd_mul_left]
/-- primitive -/
def isPr (p : Nat → Int) : Prop := cont p 7 = 1
theorem prm_pr {p : Nat → Int} (h : stI p 7 ≠ 0) : isPr (prm p) := by
  have h1 := cont_mul (cont p 7 : Int) (prm p) 7
  rw [cont_cong (fun i hi => prm_mul (p := p) hi), Int.natAbs_natCast] at h1
  have h2 := cont_pos h
  have h3 : cont p 7 * 1 = cont p 7 * cont (prm p) 7 := by rw [Nat.mul_one]; exact h1
  exact (Nat.eq_of_mul_eq_mul_left h2 h3).symm
theorem pr_prm {p : Nat → Int} (h : isPr p) : ∀ i, i < 7 → prm p i = p i := by
  intro i hi
  have := prm_mul (p := p) hi
  unfold isPr at h
  rw [h] at this
  omega
theorem pr_nz {p : Nat → Int} (h : isPr p) : stI p 7 ≠ 0 := fun q => by
  have hz : ∀ i, i < 7 → p i = 0 := fun i hi => stI_z (n := 7) (by omega) hi
  have : cont p 7 = cont (fun _ => 0) 7 := cont_cong hz
  rw [h] at this
  revert this
  decide
theorem ra_den (c : Rat) : c * (c.den : Rat) = ((c.num : Int) : Rat) := by
  have h : (c.num : Rat) / (c.den : Rat) = c := by rw [← Rat.mkRat_eq_div, Rat.mkRat_self]
  have h2 := Rat.div_mul_cancel (a := (c.num : Rat)) (b := (c.den : Rat)) (fun q => c.den_nz (Rat.natCast_eq_zero_iff.mp q))
  rw [h] at h2
  exact h2
/-- proportional and primitive: the same, but for the sign -/
theorem pr_uniq {p q : Nat → Int} {c : Rat} (hp : isPr p) (hq : isPr q) (h : ∀ x, iv p x = c * iv q x) : (c = 1 ∧ ∀ i, i < 7 → p i = q i) ∨ (c = -1 ∧ ∀ i, i < 7 → p i = -q i) := by
  have h1 := iv_co h
  have h2 : ∀ i, i < 7 → (c.den : Int) * p i = c.num * q i := by
    intro i hi
    have h3 := h1 i hi
    have h4 : ((c.den : Int) : Rat) * c = ((c.num : Int) : Rat) := by
      rw [Rat.intCast_natCast, Rat.mul_comm]
      exact ra_den c
    have h5 : (((c.den : Int) * p i : Int) : Rat) = ((c.num * q i : Int) : Rat) := by
      rw [Rat.intCast_mul, Rat.intCast_mul, h3, ← h4]
      grind
    exact Rat.intCast_inj.mp h5
  have h3 := cont_mul (c.den : Int) p 7
  have h4 := cont_mul c.num q 7
  rw [cont_cong h2, h4, Int.natAbs_natCast] at h3
  unfold isPr at hp hq
  rw [hp, hq, Nat.mul_one, Nat.mul_one] at h3
  have hd : c.den = 1 := by
    have h6 : Nat.gcd c.num.natAbs c.den = 1 := c.reduced
    rw [h3, Nat.gcd_self] at h6
    exact h6
  have hn : c.num = 1 ∨ c.num = -1 := by omega
  rcases hn with hn | hn
  · left
    refine ⟨Rat.ext (by rw [hn]; rfl) (by rw [hd]; rfl), fun i hi => ?_⟩
    have := h2 i hi
    rw [hn, hd] at this
    omega
  · right
    refine ⟨Rat.ext (by rw [hn]; rfl) (by rw [hd]; rfl), fun i hi => ?_⟩
    have := h2 i hi
    rw [hn, hd] at this
    omega
