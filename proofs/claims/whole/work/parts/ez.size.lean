/-! the sizes of the remainders: small combinations, and one alone -/
theorem suI_add (f : Nat → Int) (s : Nat) : ∀ t, suI f (s + t) = suI f s + suI (fun j => f (s + j)) t
  | 0 => by rw [Nat.add_zero, suI]; omega
  | t + 1 => by rw [← Nat.add_assoc, suI, suI_add f s t, suI]; omega
theorem suN_add (f : Nat → Nat) (s : Nat) : ∀ t, suN f (s + t) = suN f s + suN (fun j => f (s + j)) t
  | 0 => by rw [Nat.add_zero, suN]; omega
  | t + 1 => by rw [← Nat.add_assoc, suN, suN_add f s t, suN]; omega
theorem suN_mul (c : Nat) (f : Nat → Nat) : ∀ n, suN (fun j => f j * c) n = suN f n * c
  | 0 => by rw [suN, suN, Nat.zero_mul]
  | n + 1 => by rw [suN, suN, suN_mul c f n, Nat.add_mul]
theorem ivn_add (p q : Nat → Int) (x : Rat) : ∀ n, raV (ivn n (fun i => p i + q i)) x = raV (ivn n p) x + raV (ivn n q) x
  | 0 => by rw [ivn_0, ivn_0, ivn_0]; grind
  | n + 1 => by rw [ivn_s, ivn_s, ivn_s, ivn_add p q x n, Rat.intCast_add]; grind
theorem ivn_mul (c : Int) (p : Nat → Int) (x : Rat) : ∀ n, raV (ivn n (fun i => p i * c)) x = (c : Rat) * raV (ivn n p) x
  | 0 => by rw [ivn_0, ivn_0]; grind
  | n + 1 => by rw [ivn_s, ivn_s, ivn_mul c p x n, Rat.intCast_mul]; grind
theorem ivn_zz (x : Rat) : ∀ n, raV (ivn n (fun _ => 0)) x = 0
  | 0 => ivn_0 _ _
  | n + 1 => by rw [ivn_s, ivn_zz x n, Rat.intCast_zero]; grind
theorem ivn_cut {p : Nat → Int} {k : Nat} (x : Rat) : ∀ r, (∀ i, k ≤ i → i < k + r → p i = 0) → raV (ivn (k + r) p) x = raV (ivn k p) x
  | 0, _ => rfl
  | r + 1, h => by
    rw [← Nat.add_assoc, ivn_s, ivn_cut x r (fun i a b => h i a (by omega)), h (k + r) (by omega) (by omega), Rat.intCast_zero]; grind
theorem ivn_sh (p : Nat → Int) (s : Nat) (x : Rat) : ∀ k, raV (ivn (s + k) (fun i => if s ≤ i then p (i - s) else 0)) x = x ^ s * raV (ivn k p) x
  | 0 => by
    have : ∀ n, n ≤ s → raV (ivn n (fun i => if s ≤ i then p (i - s) else 0)) x = 0 := by
      intro n
      induction n with
      | zero => intro _; exact ivn_0 _ _
      | succ n ih => intro h; rw [ivn_s, ih (by omega), if_neg (by omega), Rat.intCast_zero]; grind
    rw [Nat.add_zero, this s (Nat.le_refl s), ivn_0]; grind
  | k + 1 => by
    rw [← Nat.add_assoc, ivn_s, ivn_sh p s x k, if_pos (by omega), ivn_s, Nat.add_sub_cancel_left]
    have : x ^ (s + k) = x ^ s * x ^ k := by
      clear ivn_sh
      induction k with
      | zero => rw [Nat.add_zero, Rat.pow_zero]; grind
      | succ k ih => rw [← Nat.add_assoc, Rat.pow_succ, ih, Rat.pow_succ]; grind
    rw [this]; grind
/-- the product's coefficients -/
theorem cv_V {p : Nat → Int} {a : Nat} (hp : ∀ k, a ≤ k → p k = 0) (A : Nat → Int) (n : Nat) (x : Rat) : ∀ s, s + a ≤ n + 1 → raV (ivn n (fun i => suI (fun j => (if j ≤ i then p (i - j) else 0) * A j) s)) x = raV (ivn s A) x * raV (ivn a p) x
  | 0, _ => by
    rw [ivn_0]
    show raV (ivn n (fun _ => 0)) x = _
    rw [ivn_zz]; grind
  | s + 1, h => by
    show raV (ivn n (fun i => suI (fun j => (if j ≤ i then p (i - j) else 0) * A j) s + (if s ≤ i then p (i - s) else 0) * A s)) x = _
    rw [ivn_add, cv_V hp A n x s (by omega), ivn_mul, ivn_s]
    obtain ⟨r, hr⟩ : ∃ r, n = s + a + r := ⟨n - (s + a), by omega⟩
    rw [hr, ivn_cut x r (fun i h1 h2 => by
      rw [if_pos (by omega)]
      exact hp _ (by omega)), ivn_sh]
    grind
/-- f and g stand next to each other in Euclid's sequence of p and q -/
def cfr (p q f g : Nat → Int) : Prop := ∃ (Uf Vf Ug Vg : Rat → Rat) (c : Rat), isPo Uf ∧ isPo Ug ∧ (∀ x, iv f x = Uf x * iv p x + Vf x * iv q x) ∧ (∀ x, iv g x = Ug x * iv p x + Vg x * iv q x) ∧ c ≠ 0 ∧ (∀ x, Uf x * Vg x - Ug x * Vf x = c) ∧ stI g 7 < stI f 7 ∧ raW (stI p 7 - stI f 7) Vg ∧ raU (stI p 7 - stI g 7) Vf ∧ stI f 7 ≤ stI p 7
theorem raW_1 : raW 0 (fun _ => 1) := ⟨1, fun _ => 0, by decide, raU_z 0, fun x => by rw [Rat.pow_zero]; grind⟩
theorem raW_cc {c : Rat} (hc : c ≠ 0) : raW 0 (fun _ => c) := ⟨c, fun _ => 0, hc, raU_z 0, fun x => by rw [Rat.pow_zero]; grind⟩
theorem cfr_0 {p q : Nat → Int} (h : stI q 7 < stI p 7) : cfr p q p q :=
  ⟨fun _ => 1, fun _ => 0, fun _ => 0, fun _ => 1, 1, isPo_c 1, isPo_c 0, fun x => by grind, fun x => by grind, by decide, fun x => by grind, h, by rw [Nat.sub_self]; exact raW_1, raU_z _, Nat.le_refl _⟩
theorem raW_Q {f g r : Nat → Int} {l : Rat} {Q : Rat → Rat} (hl : 0 < l) (hQ : isPo Q) (h : ∀ x, iv r x = l * iv f x - Q x * iv g x) (hg : stI g 7 ≠ 0) (hgf : stI g 7 ≤ stI f 7) (hr : stI r 7 < stI g 7) : raW (stI f 7 - stI g 7) Q := by
  obtain ⟨d, hd⟩ : ∃ d, stI f 7 = d + 1 := ⟨stI f 7 - 1, by omega⟩
  obtain ⟨e, he⟩ : ∃ e, stI g 7 = e + 1 := ⟨stI g 7 - 1, by omega⟩
  have w1 : raW d (fun x => Q x * iv g x) := raW_eq (raW_add (raW_s (Rat.ne_of_gt hl) (iv_W hd)) (raU_s (-1) (raU_up (iv_U r) (by omega)))) (fun x => by rw [h]; grind)
  rcases isPo_W hQ with q | ⟨w, q⟩
  · exact absurd (fun x => by rw [q]; grind) (raW_n0 w1)
  · have := raW_un (raW_mul q (iv_W he)) w1
    rw [show stI f 7 - stI g 7 = w by omega]; exact q
theorem raU_mul2 {n m : Nat} {f g : Rat → Rat} (hf : raU n f) (hg : raU m g) : raU (n + m - 1) (fun x => f x * g x) := by
  cases n with
  | zero => exact raU_eq (raU_z _) (fun x => by rw [raU_0 hf]; grind)
  | succ n =>
    cases m with
    | zero => exact raU_eq (raU_z _) (fun x => by rw [raU_0 hg]; grind)
    | succ m => exact raU_up (raU_mul hf hg) (by omega)
theorem cfr_step {p q f g r r2 : Nat → Int} {e : Rat} (hc : cfr p q f g) (hg : stI g 7 ≠ 0) (hr : isRem r f g) (he : e ≠ 0) (h2 : ∀ x, iv r2 x = e * iv r x) (h3 : stI r2 7 = stI r 7) : cfr p q g r2 := by
  obtain ⟨Uf, Vf, Ug, Vg, c, k1, k2, k3, k4, k5, k6, k7, k8, k9, k10⟩ := hc
  obtain ⟨⟨l, Q, hl, hQ, h1⟩, hlt⟩ := hr
  have hW := raW_Q hl hQ h1 hg (Nat.le_of_lt k7) hlt
  have hl0 := Rat.ne_of_gt hl
  refine ⟨Ug, Vg, fun x => e * (l * Uf x - Q x * Ug x), fun x => e * (l * Vf x - Q x * Vg x), -(e * l * c), k2, isPo_s _ (isPo_sub (isPo_s _ k1) (isPo_mul hQ k2)), k4, fun x => by rw [h2, h1, k3, k4]; grind, fun w => ?_, fun x => by have := k6 x; rw [← this]; grind, by omega, ?_, ?_, by omega⟩
  · have : e * l * c = 0 := by grind
    rcases Rat.mul_eq_zero.mp this with w | w
    · rcases Rat.mul_eq_zero.mp w with w | w
      · exact he w
      · exact hl0 w
    · exact k5 w
  · have w1 := raW_mul hW k8
    rw [show stI f 7 - stI g 7 + (stI p 7 - stI f 7) = stI p 7 - stI g 7 by omega] at w1
    have w2 := raW_add (raW_s (c := -e) (fun q => he (by grind)) w1) (raU_s (e * l) k9)
    exact raW_eq w2 (fun x => by grind)
  · exact raU_up (raU_W k8) (by omega)
theorem cfr_eq {p q r r2 : Nat → Int} {e : Rat} (hg : stI q 7 ≠ 0) (hpq : stI p 7 = stI q 7) (hr : isRem r p q) (he : e ≠ 0) (h2 : ∀ x, iv r2 x = e * iv r x) (h3 : stI r2 7 = stI r 7) : cfr p q q r2 := by
  obtain ⟨⟨l, Q, hl, hQ, h1⟩, hlt⟩ := hr
  have hW := raW_Q hl hQ h1 hg (by omega) hlt
  have hl0 := Rat.ne_of_gt hl
  rw [hpq, Nat.sub_self] at hW
  refine ⟨fun _ => 0, fun _ => 1, fun _ => e * l, fun x => -(e * Q x), -(e * l), isPo_c 0, isPo_c _, fun x => by grind, fun x => by rw [h2, h1]; grind, fun w => ?_, fun x => by grind, by omega, ?_, ?_, by omega⟩
  · have : e * l = 0 := by grind
    rcases Rat.mul_eq_zero.mp this with w | w
    · exact he w
    · exact hl0 w
  · rw [hpq, Nat.sub_self]
    exact raW_eq (raW_s (c := -e) (fun q => he (by grind)) hW) (fun x => by grind)
  · exact raU_up (raU_c 1) (by omega)
theorem ivn_nz {A : Nat → Int} {s j : Nat} (hj : j < s) (h : A j ≠ 0) : ¬ ∀ x, raV (ivn s A) x = 0 := fun q => by
  have := raV_zero _ q ((A j : Int) : Rat) (List.mem_map.mpr ⟨j, List.mem_range.mpr hj, rfl⟩)
  rw [← Rat.intCast_zero] at this
  exact h (Rat.intCast_inj.mp this)
/-- a combination of a low degree is a multiple of the sequence's element -/
theorem elt_uniq {p q f g : Nat → Int} (hc : cfr p q f g) (hg0 : stI g 7 ≠ 0) {A B C : Rat → Rat} (hA : isPo A) (hB : raU (stI p 7 + 1 - stI f 7) B) (hC : raU (stI f 7 - 1) C) (e : ∀ x, C x = A x * iv p x + B x * iv q x) (hn : ¬ ((∀ x, A x = 0) ∧ ∀ x, B x = 0)) : ∃ k : Rat, k ≠ 0 ∧ ∀ x, C x = k * iv g x := by
  obtain ⟨Uf, Vf, Ug, Vg, c, k1, k2, k3, k4, k5, k6, k7, k8, k9, k10⟩ := hc
  have hVg : ¬ ∀ x, Vg x = 0 := raW_n0 k8
  have pVg : isPo Vg := ⟨_, raU_W k8⟩
  have pB : isPo B := ⟨_, hB⟩
  have pC : isPo C := ⟨_, hC⟩
  obtain ⟨a, ha⟩ : ∃ a, stI p 7 = a + 1 := ⟨stI p 7 - 1, by omega⟩
  have e1 : ∀ x, B x * iv g x - Vg x * C x = (B x * Ug x - A x * Vg x) * iv p x := fun x => by rw [e, k4]; grind
  have z : ∀ x, B x * Ug x - A x * Vg x = 0 := by
    rcases isPo_W (isPo_sub (isPo_mul pB k2) (isPo_mul hA pVg)) with w | ⟨w, hw⟩
    · exact w
    · have u1 : raU a (fun x => B x * iv g x - Vg x * C x) := raU_sub (raU_up (raU_mul2 hB (iv_U g)) (by omega)) (raU_up (raU_mul2 (raU_W k8) hC) (by omega))
      have := raW_nU (raW_eq (raW_mul hw (iv_W ha)) e1) u1
      omega
  have e2 : ∀ x, c * B x = Vg x * (B x * Uf x - A x * Vf x) := fun x => by
    have h1 := z x
    rw [← k6 x]
    have : B x * Ug x = A x * Vg x := by grind
    have : (Uf x * Vg x - Ug x * Vf x) * B x = Vg x * (B x * Uf x) - Vf x * (B x * Ug x) := by grind
    rw [this]
    grind
  have hV : ∀ k0 : Rat, (∀ x, c * B x = Vg x * k0) → k0 ≠ 0 → ∃ k : Rat, k ≠ 0 ∧ ∀ x, C x = k * iv g x := fun k0 hk hk0 => by
    have hci := Rat.mul_inv_cancel c k5
    refine ⟨c⁻¹ * k0, fun q => ?_, ra_can pVg pC (isPo_s _ (isPo_iv g)) hVg (fun x => ?_)⟩
    · rcases Rat.mul_eq_zero.mp q with q | q
      · rw [q, Rat.mul_zero] at hci; exact absurd hci (by decide)
      · exact hk0 q
    · have a1 := e1 x
      rw [z, Rat.zero_mul] at a1
      have a2 := hk x
      generalize c⁻¹ = w at *
      have : Vg x * (w * k0 * iv g x) = w * (Vg x * k0) * iv g x := by grind
      rw [this, ← a2]
      have : w * (c * B x) * iv g x = (c * w) * (B x * iv g x) := by grind
      rw [this, hci]
      grind
  rcases isPo_W (isPo_sub (isPo_mul pB k1) (isPo_mul hA (show isPo Vf from ⟨_, k9⟩))) with w | ⟨w, hw⟩
  · exfalso
    have hB0 : ∀ x, B x = 0 := fun x => by
      have := e2 x
      rw [w, Rat.mul_zero] at this
      exact (Rat.mul_eq_zero.mp this).resolve_left k5
    refine hn ⟨ra_can pVg hA (isPo_c 0) hVg (fun x => ?_), hB0⟩
    have := z x
    rw [hB0] at this
    grind
  · have := raW_nU (raW_eq (raW_mul k8 hw) e2) (raU_s c hB)
    have hw0 : w = 0 := by omega
    rw [hw0] at hw
    obtain ⟨k0, hk0, h0⟩ := raW_0 hw
    exact hV k0 (fun x => by rw [e2, h0]) hk0
/-- an integer multiple of a primitive polynomial is no smaller -/
theorem pr_le {g C : Nat → Int} {k : Rat} (hg : isPr g) (hk : k ≠ 0) (h : ∀ x, iv C x = k * iv g x) : ∀ i, i < 7 → (g i).natAbs ≤ (C i).natAbs := by
  have hC0 : stI C 7 ≠ 0 := fun q => by
    refine iv_nz (pr_nz hg) (fun x => ?_)
    have := h x
    rw [iv_zero q] at this
    exact (Rat.mul_eq_zero.mp this.symm).resolve_left hk
  obtain ⟨e, he, h2⟩ := iv_prm2 C
  have hei := Rat.mul_inv_cancel e (Rat.ne_of_gt he)
  have h3 : ∀ x, iv (prm C) x = e⁻¹ * k * iv g x := fun x => by
    have := h2 x
    rw [h] at this
    generalize e⁻¹ = w at *
    have : w * k * iv g x = (e * w) * iv (prm C) x := by
      have : w * k * iv g x = w * (k * iv g x) := by grind
      rw [this, ‹k * iv g x = e * iv (prm C) x›]; grind
    rw [this, hei]; grind
  intro i hi
  have h4 := prm_le C i
  rcases pr_uniq (prm_pr hC0) hg h3 with ⟨_, q⟩ | ⟨_, q⟩
  · rw [q i hi] at h4; exact h4
  · rw [q i hi, Int.natAbs_neg] at h4; exact h4
/-- the size of the sequence's element -/
theorem elt_sz {p q f g : Nat → Int} {K L : Nat} (hp : zb p) (hq : zb q) (hK : ∀ i, i < 7 → (p i).natAbs ≤ K) (hL : ∀ i, i < 7 → (q i).natAbs ≤ L) (hK1 : 1 ≤ K) (hc : cfr p q f g) (hg : isPr g) (hD : stI f 7 ≤ stI q 7) : ∀ i, i < 7 → (g i).natAbs ≤ ((stI q 7 + 1 - stI f 7) * K + (stI p 7 + 1 - stI f 7) * L) ^ (stI p 7 + stI q 7 + 2 - 2 * stI f 7) := by
  have hg0 := pr_nz hg
  have hgf : stI g 7 < stI f 7 := by obtain ⟨_, _, _, _, _, _, _, _, _, _, _, k7, _⟩ := hc; exact k7
  have hfp : stI f 7 ≤ stI p 7 := by obtain ⟨_, _, _, _, _, _, _, _, _, _, _, _, _, _, k10⟩ := hc; exact k10
  have hp7 := stI_le p 7
  have hq7 := stI_le q 7
  have hpz : ∀ k, stI p 7 ≤ k → p k = 0 := fun k hk => by
    by_cases c : k < 7
    · exact stI_z hk c
    · exact hp k (by omega)
  have hqz : ∀ k, stI q 7 ≤ k → q k = 0 := fun k hk => by
    by_cases c : k < 7
    · exact stI_z hk c
    · exact hq k (by omega)
  obtain ⟨s, hs⟩ : ∃ s, s = stI q 7 + 1 - stI f 7 := ⟨_, rfl⟩
  obtain ⟨t, ht⟩ : ∃ t, t = stI p 7 + 1 - stI f 7 := ⟨_, rfl⟩
  obtain ⟨n, hn⟩ : ∃ n, n = stI p 7 + stI q 7 - stI f 7 := ⟨_, rfl⟩
  obtain ⟨m, hm⟩ : ∃ m, m + 1 = s + t := ⟨s + t - 1, by omega⟩
  obtain ⟨M, hM⟩ : ∃ M : Nat → Nat → Int, M = fun i j => if j < s then (if j ≤ i then p (i - j) else 0) else (if j - s ≤ i then q (i - (j - s)) else 0) := ⟨_, rfl⟩
  have hpK : ∀ k, (p k).natAbs ≤ K := fun k => by
    by_cases c : k < 7
    · exact hK k c
    · rw [hp k (by omega)]; exact Nat.zero_le _
  have hqL : ∀ k, (q k).natAbs ≤ L := fun k => by
    by_cases c : k < 7
    · exact hL k c
    · rw [hq k (by omega)]; exact Nat.zero_le _
  have hrow : ∀ i, suN (fun j => (M i j).natAbs) (m + 1) ≤ s * K + t * L := fun i => by
    rw [hm, suN_add]
    refine Nat.add_le_add ?_ ?_
    · rw [← suN_c K s]
      refine suN_le (fun j hj => ?_)
      rw [hM]
      (try dsimp only)
      rw [if_pos hj]
      split
      · exact hpK _
      · exact Nat.zero_le _
    · rw [← suN_c L t]
      refine suN_le (fun j hj => ?_)
      rw [hM]
      (try dsimp only)
      rw [if_neg (by omega)]
      split
      · exact hqL _
      · exact Nat.zero_le _
  have hR1 : 1 ≤ s * K + t * L := by
    have := Nat.mul_le_mul (show 1 ≤ s by omega) hK1
    omega
  obtain ⟨x, ⟨j0, hj0, hx0⟩, hx1, hx2⟩ := siegel m (fun i j => M (stI f 7 - 1 + i) j) (s * K + t * L) hR1 (fun i _ => hrow _)
  obtain ⟨C, hC⟩ : ∃ C : Nat → Int, C = fun i => suI (fun j => M i j * x j) (m + 1) := ⟨_, rfl⟩
  have hCz : ∀ i, stI f 7 - 1 ≤ i → i < n → C i = 0 := fun i h1 h2 => by
    have := hx2 (i - (stI f 7 - 1)) (by omega)
    rw [show stI f 7 - 1 + (i - (stI f 7 - 1)) = i by omega] at this
    rw [hC]; exact this
  have hCV : ∀ y, raV (ivn n C) y = raV (ivn s x) y * iv p y + raV (ivn t (fun j => x (s + j))) y * iv q y := fun y => by
    have e1 : C = fun i => suI (fun j => (if j ≤ i then p (i - j) else 0) * x j) s + suI (fun j => (if j ≤ i then q (i - j) else 0) * x (s + j)) t := by
      rw [hC]
      funext i
      rw [hm, suI_add]
      have a1 : suI (fun j => M i j * x j) s = suI (fun j => (if j ≤ i then p (i - j) else 0) * x j) s := suI_cong (fun j hj => by rw [hM]; (try dsimp only); rw [if_pos hj])
      have a2 : suI (fun j => M i (s + j) * x (s + j)) t = suI (fun j => (if j ≤ i then q (i - j) else 0) * x (s + j)) t := suI_cong (fun j hj => by rw [hM]; (try dsimp only); rw [if_neg (by omega), Nat.add_sub_cancel_left])
      rw [a1, a2]
    rw [e1, ivn_add, cv_V hpz x n y s (by omega), cv_V hqz (fun j => x (s + j)) n y t (by omega)]
    unfold iv
    rw [← ivn_st p y 7, ← ivn_st q y 7]
  have hCn : ∀ y, raV (ivn n C) y = raV (ivn (stI f 7 - 1) C) y := fun y => by
    obtain ⟨r, hr⟩ : ∃ r, n = stI f 7 - 1 + r := ⟨n - (stI f 7 - 1), by omega⟩
    rw [hr, ivn_cut y r (fun i a b => hCz i a (by omega))]
  obtain ⟨k, hk, hu⟩ := elt_uniq (C := raV (ivn n C)) hc hg0 (A := raV (ivn s x)) (B := raV (ivn t (fun j => x (s + j)))) ⟨_, raU_l _⟩ (raU_up (raU_l _) (by rw [ivn_len]; omega)) ⟨ivn (stI f 7 - 1) C, by rw [ivn_len]; exact Nat.le_refl _, hCn⟩ hCV (fun ⟨q1, q2⟩ => by
    by_cases c : j0 < s
    · exact ivn_nz c hx0 q1
    · refine ivn_nz (A := fun j => x (s + j)) (j := j0 - s) (by omega) (fun w => hx0 ?_) q2
      rw [← w, show s + (j0 - s) = j0 by omega])
  have hf7 := stI_le f 7
  have hC2 : ∀ y, iv (fun i => if i < stI f 7 - 1 then C i else 0) y = k * iv g y := fun y => by
    have h1 : raV (ivn (stI f 7 - 1) (fun i => if i < stI f 7 - 1 then C i else 0)) y = raV (ivn (stI f 7 - 1) C) y := by
      rw [ivn_cong (fun i hi => if_pos hi)]
    have h2 : iv (fun i => if i < stI f 7 - 1 then C i else 0) y = raV (ivn (stI f 7 - 1) (fun i => if i < stI f 7 - 1 then C i else 0)) y := by
      unfold iv
      have := ivn_cut (p := fun i => if i < stI f 7 - 1 then C i else 0) (k := stI f 7 - 1) y (7 - (stI f 7 - 1)) (fun i a b => if_neg (by omega))
      rw [show stI f 7 - 1 + (7 - (stI f 7 - 1)) = 7 by omega] at this
      exact this
    rw [h2, h1, ← hCn, hu]
  intro i hi
  refine Nat.le_trans (pr_le hg hk hC2 i hi) ?_
  rw [show stI p 7 + stI q 7 + 2 - 2 * stI f 7 = m + 1 by omega, ← hs, ← ht]
  (try dsimp only)
  split
  · rw [hC]
    (try dsimp only)
    refine Nat.le_trans (suI_abs _ _) ?_
    rw [Nat.pow_succ, Nat.mul_comm]
    refine Nat.le_trans (suN_le (g := fun j => (M i j).natAbs * (s * K + t * L) ^ m) (fun j hj => ?_)) ?_
    · (try dsimp only)
      rw [Int.natAbs_mul]
      exact Nat.mul_le_mul_left _ (hx1 j hj)
    · rw [suN_mul]
      exact Nat.mul_le_mul_right _ (hrow i)
  · exact Nat.zero_le _
