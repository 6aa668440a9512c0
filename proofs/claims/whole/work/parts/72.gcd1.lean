/-! remainders and greatest common divisors -/
def isPo (f : Rat → Rat) : Prop := ∃ n, raU n f
theorem isPo_c (c : Rat) : isPo (fun _ => c) := ⟨1, raU_c c⟩
theorem isPo_add {f g : Rat → Rat} (hf : isPo f) (hg : isPo g) : isPo (fun x => f x + g x) := by
  obtain ⟨n, h⟩ := hf
  obtain ⟨m, k⟩ := hg
  exact ⟨max n m, raU_add (raU_up h (Nat.le_max_left _ _)) (raU_up k (Nat.le_max_right _ _))⟩
theorem isPo_s {f : Rat → Rat} (k : Rat) (hf : isPo f) : isPo (fun x => k * f x) := by
  obtain ⟨n, h⟩ := hf
  exact ⟨n, raU_s k h⟩
theorem isPo_sub {f g : Rat → Rat} (hf : isPo f) (hg : isPo g) : isPo (fun x => f x - g x) := by
  obtain ⟨n, h⟩ := isPo_add hf (isPo_s (-1) hg)
  exact ⟨n, raU_eq h (fun x => by grind)⟩
theorem isPo_mul {f g : Rat → Rat} (hf : isPo f) (hg : isPo g) : isPo (fun x => f x * g x) := by
  obtain ⟨n, h⟩ := hf
  obtain ⟨m, k⟩ := hg
  exact ⟨_, raU_mul (raU_up h (Nat.le_succ n)) (raU_up k (Nat.le_succ m))⟩
theorem isPo_iv (p : Nat → Int) : isPo (iv p) := ⟨7, iv_U7 p⟩
theorem isPo_eq {f g : Rat → Rat} (h : isPo f) (e : ∀ x, g x = f x) : isPo g := by
  obtain ⟨n, h⟩ := h
  exact ⟨n, raU_eq h e⟩
theorem isPo_W {f : Rat → Rat} (h : isPo f) : (∀ x, f x = 0) ∨ ∃ k, raW k f := by
  obtain ⟨n, h⟩ := h
  exact (raU_or n h).imp id (fun ⟨k, _, w⟩ => ⟨k, w⟩)
theorem redS_z {f g : Nat → Int} {s t : Nat} (hf : ∀ i, t < i → i < 7 → f i = 0) : ∀ i, t ≤ i → i < 7 → redS f g s t i = 0 := by
  intro i h1 h2
  unfold redS
  split
  · next h =>
    by_cases q : i = t
    · rw [q]; exact h
    · exact hf i (by omega) h2
  · dsimp only
    by_cases q : i = t
    · rw [if_pos q]
    · rw [if_neg q, if_neg (by omega)]; exact hf i (by omega) h2
theorem redS_iv {f g : Nat → Int} {s t : Nat} (hst : s ≤ t) (ht : t < 7) (hf : ∀ i, t < i → i < 7 → f i = 0) (hg : ∀ i, s < i → i < 7 → g i = 0) (hs : g s ≠ 0) : ∃ l c : Rat, 0 < l ∧ ∀ x, iv (redS f g s t) x = l * iv f x + c * (iv g x * x ^ (t - s)) := by
  by_cases h : f t = 0
  · refine ⟨1, 0, by decide, fun x => ?_⟩
    unfold redS
    rw [if_pos h]; grind
  · obtain ⟨c, hc⟩ : ∃ c : Int, c = if g s < 0 then f t else -f t := ⟨_, rfl⟩
    refine ⟨(((g s).natAbs : Int) : Rat), (c : Rat), by rw [Rat.intCast_pos]; omega, fun x => ?_⟩
    rw [← iv_shift (g := g) (d := t - s) (fun i h1 h2 => hg i (by omega) h1), ← iv_lin]
    refine congrFun (iv_cong (fun i hi => ?_)) x
    unfold redS
    rw [if_neg h]
    (try dsimp only)
    rw [← hc]
    by_cases q1 : i = t
    · rw [if_pos q1, if_neg (by omega), q1, show t - (t - s) = s by omega, hc]
      rcases Int.lt_or_le (g s) 0 with w | w
      · rw [if_pos w, show ((g s).natAbs : Int) = -g s by omega, Int.neg_mul, Int.mul_comm (g s)]; omega
      · rw [if_neg (by omega), show ((g s).natAbs : Int) = g s by omega, Int.neg_mul, Int.mul_comm (g s)]; omega
    · rw [if_neg q1]
      by_cases q2 : i < t
      · rw [if_pos q2, Int.mul_comm]
        by_cases q3 : i < t - s
        · rw [if_pos q3, if_pos q3, Int.mul_zero]
        · rw [if_neg q3, if_neg q3]
      · rw [if_neg q2, hf i (by omega) hi]
        rw [if_neg (by omega), hg (i - (t - s)) (by omega) (by omega), Int.mul_zero, Int.mul_zero]; rfl
theorem redL_iv {g : Nat → Int} {s : Nat} (hg : ∀ i, s < i → i < 7 → g i = 0) (hs : g s ≠ 0) : ∀ (n : Nat) (f : Nat → Int), s + n ≤ 7 → (∀ i, s + n ≤ i → i < 7 → f i = 0) → (∃ (l : Rat) (Q : Rat → Rat), 0 < l ∧ isPo Q ∧ ∀ x, iv (redL g s n f) x = l * iv f x - Q x * iv g x) ∧ ∀ i, s ≤ i → i < 7 → redL g s n f i = 0
  | 0, f, _, hf => ⟨⟨1, fun _ => 0, by decide, isPo_c 0, fun x => by rw [redL]; grind⟩, fun i h1 h2 => hf i h1 h2⟩
  | n + 1, f, h, hf => by
    obtain ⟨l, c, hl, h1⟩ := redS_iv (f := f) (g := g) (s := s) (t := s + n) (by omega) (by omega) (fun i a b => hf i (by omega) b) hg hs
    obtain ⟨⟨l2, Q, hl2, hQ, h2⟩, h3⟩ := redL_iv hg hs n (redS f g s (s + n)) (by omega) (redS_z (fun i a b => hf i (by omega) b))
    refine ⟨⟨l2 * l, fun x => Q x - l2 * c * x ^ n, Rat.mul_pos hl2 hl, isPo_sub hQ ⟨_, raU_pow n (l2 * c)⟩, fun x => ?_⟩, h3⟩
    rw [redL, h2, h1, Nat.add_sub_cancel_left]
    (try dsimp only)
    generalize x ^ n = y
    generalize iv f x = a
    generalize iv g x = b
    clear h1 h2 h3 hf hg
    grind
/-- r is a positive multiple of f, less a multiple of g, and of a lower degree than g -/
def isRem (r f g : Nat → Int) : Prop := (∃ (l : Rat) (Q : Rat → Rat), 0 < l ∧ isPo Q ∧ ∀ x, iv r x = l * iv f x - Q x * iv g x) ∧ stI r 7 < stI g 7
theorem stI_lt {p : Nat → Int} {s : Nat} : ∀ {n : Nat}, (∀ i, s ≤ i → i < n → p i = 0) → stI p n ≤ s
  | 0, _ => Nat.zero_le _
  | n + 1, h => by
    rw [stI]
    by_cases q : p n = 0
    · rw [if_pos q]; exact stI_lt (fun i a b => h i a (by omega))
    · rw [if_neg q]
      refine Classical.byContradiction (fun w => q (h n (by omega) (by omega)))
theorem red_rem {f g : Nat → Int} (hg : stI g 7 ≠ 0) : isRem (red f g) f g := by
  have h1 := stI_le g 7
  have h2 := stI_le f 7
  obtain ⟨s, hs⟩ : ∃ s, stI g 7 = s + 1 := ⟨stI g 7 - 1, by omega⟩
  have ht := stI_top (p := g) (n := 7) (by omega)
  rw [hs, Nat.add_sub_cancel] at ht
  have hz : ∀ i, s < i → i < 7 → g i = 0 := fun i a b => stI_z (n := 7) (by omega) b
  unfold isRem red
  rw [if_neg hg, hs, Nat.add_sub_cancel]
  by_cases hle : stI f 7 ≤ s
  · rw [show stI f 7 - s = 0 by omega, redL]
    exact ⟨⟨1, fun _ => 0, by decide, isPo_c 0, fun x => by grind⟩, by omega⟩
  · obtain ⟨k1, k2⟩ := redL_iv hz ht (stI f 7 - s) f (by omega) (fun i a b => stI_z (n := 7) (by omega) b)
    exact ⟨k1, Nat.lt_succ_of_le (stI_lt k2)⟩
/-- primitive, or 0 -/
def prz (p : Nat → Int) : Prop := isPr p ∨ stI p 7 = 0
theorem prz_prm (p : Nat → Int) : prz (prm p) := by
  by_cases h : stI p 7 = 0
  · exact Or.inr (by rw [stI_prm]; exact h)
  · exact Or.inl (prm_pr h)
theorem prm_rem {r f g : Nat → Int} (h : isRem r f g) : isRem (prm r) f g := by
  obtain ⟨⟨l, Q, hl, hQ, h1⟩, h2⟩ := h
  refine ⟨?_, by rw [stI_prm]; exact h2⟩
  by_cases hr : stI r 7 = 0
  · refine ⟨l, Q, hl, hQ, fun x => ?_⟩
    rw [iv_zero (by rw [stI_prm]; exact hr), ← h1, iv_zero hr]
  · have hc : (0 : Rat) < ((cont r 7 : Int) : Rat) := by rw [Rat.intCast_pos]; have := cont_pos hr; omega
    have hi := Rat.inv_pos.mpr hc
    have hi2 := Rat.mul_inv_cancel _ (Rat.ne_of_gt hc)
    refine ⟨((cont r 7 : Int) : Rat)⁻¹ * l, fun x => ((cont r 7 : Int) : Rat)⁻¹ * Q x, Rat.mul_pos hi hl, isPo_s _ hQ, fun x => ?_⟩
    have h3 := iv_prm r x
    rw [h1] at h3
    generalize ((cont r 7 : Int) : Rat)⁻¹ = w at *
    generalize ((cont r 7 : Int) : Rat) = c at *
    have h4 : w * (l * iv f x - Q x * iv g x) = (c * w) * iv (prm r) x := by rw [h3]; grind
    rw [hi2] at h4
    grind
/-- a remainder is one alone -/
theorem rem_uniq {r s f g : Nat → Int} (h : isRem r f g) (k : isRem s f g) (hr : prz r) (hs : prz s) : ∀ i, i < 7 → r i = s i := by
  obtain ⟨⟨l, Q, hl, hQ, h1⟩, h2⟩ := h
  obtain ⟨⟨m, R, hm, hR, k1⟩, k2⟩ := k
  obtain ⟨d, hd⟩ : ∃ d, stI g 7 = d + 1 := ⟨stI g 7 - 1, by omega⟩
  have e1 : ∀ x, m * iv r x - l * iv s x = (l * R x - m * Q x) * iv g x := fun x => by rw [h1, k1]; grind
  have u1 : raU d (fun x => m * iv r x - l * iv s x) := raU_sub (raU_s m (raU_up (iv_U r) (by omega))) (raU_s l (raU_up (iv_U s) (by omega)))
  have z : ∀ x, l * R x - m * Q x = 0 := by
    rcases isPo_W (isPo_sub (isPo_s l hR) (isPo_s m hQ)) with q | ⟨w, q⟩
    · exact q
    · have a := raW_nU (raW_eq (raW_mul q (iv_W hd)) e1) u1
      omega
  have e2 : ∀ x, m * iv r x = l * iv s x := fun x => by have := e1 x; rw [z] at this; grind
  have hm0 := Rat.mul_inv_cancel m (Rat.ne_of_gt hm)
  have hmi := Rat.inv_pos.mpr hm
  have hl0 := Rat.mul_inv_cancel l (Rat.ne_of_gt hl)
  have e3 : ∀ x, iv r x = m⁻¹ * l * iv s x := fun x => by
    have := e2 x
    generalize m⁻¹ = w at *
    have : m * w * iv r x = w * l * iv s x := by grind
    rw [hm0] at this
    grind
  have zero : ∀ p : Nat → Int, stI p 7 = 0 → ∀ i, i < 7 → p i = 0 := fun p hp i hi => stI_z (n := 7) (by omega) hi
  rcases hr with hr | hr
  · rcases hs with hs | hs
    · rcases pr_uniq hr hs e3 with ⟨_, q⟩ | ⟨q, _⟩
      · exact q
      · have := Rat.mul_pos hmi hl
        rw [q] at this
        exact absurd this (by decide)
    · exact absurd (fun x => by rw [e3, iv_zero hs]; grind) (iv_nz (pr_nz hr))
  · rcases hs with hs | hs
    · refine absurd (fun x => ?_) (iv_nz (pr_nz hs))
      have := e2 x
      rw [iv_zero hr] at this
      have : l * iv s x = 0 := by grind
      exact (Rat.mul_eq_zero.mp this).resolve_left (Rat.ne_of_gt hl)
    · intro i hi
      rw [zero r hr i hi, zero s hs i hi]
/-- d is a greatest common divisor of f and g -/
def isGc (d f g : Nat → Int) : Prop := (∃ u, isPo u ∧ ∀ x, iv f x = u x * iv d x) ∧ (∃ v, isPo v ∧ ∀ x, iv g x = v x * iv d x) ∧ ∃ A B, isPo A ∧ isPo B ∧ ∀ x, iv d x = A x * iv f x + B x * iv g x
theorem isGc_step {d f g r : Nat → Int} (h : isRem r f g) (k : isGc d g r) : isGc d f g := by
  obtain ⟨⟨l, Q, hl, hQ, h1⟩, _⟩ := h
  obtain ⟨⟨u, hu, k1⟩, ⟨v, hv, k2⟩, A, B, hA, hB, k3⟩ := k
  have hl0 := Rat.mul_inv_cancel l (Rat.ne_of_gt hl)
  refine ⟨⟨fun x => l⁻¹ * (v x + Q x * u x), isPo_s _ (isPo_add hv (isPo_mul hQ hu)), fun x => ?_⟩, ⟨u, hu, k1⟩, fun x => l * B x, fun x => A x - B x * Q x, isPo_s _ hB, isPo_sub hA (isPo_mul hB hQ), fun x => ?_⟩
  · have a := h1 x
    have b := k1 x
    have c := k2 x
    generalize l⁻¹ = w at *
    have e : w * (v x + Q x * u x) * iv d x = w * (iv r x + Q x * iv g x) := by rw [b, c]; grind
    rw [e, a]
    have : w * (l * iv f x - Q x * iv g x + Q x * iv g x) = l * w * iv f x := by grind
    rw [this, hl0]; grind
  · rw [k3, h1]; grind
theorem gcdL_gc : ∀ (k : Nat) (f g : Nat → Int), stI g 7 < k → isGc (gcdL k f g).1 f g
  | 0, f, g, h => absurd h (Nat.not_lt_zero _)
  | k + 1, f, g, h => by
    rw [gcdL]
    by_cases hg : stI g 7 = 0
    · rw [if_pos hg]
      exact ⟨⟨fun _ => 1, isPo_c 1, fun x => by grind⟩, ⟨fun _ => 0, isPo_c 0, fun x => by rw [iv_zero hg]; grind⟩, fun _ => 1, fun _ => 0, isPo_c 1, isPo_c 0, fun x => by grind⟩
    · rw [if_neg hg]
      have hr := prm_rem (red_rem (f := f) hg)
      exact isGc_step hr (gcdL_gc k g _ (by have := hr.2; omega))
theorem gcdL_prz : ∀ (k : Nat) (f g : Nat → Int), prz f → prz g → prz (gcdL k f g).1
  | 0, f, g, h, _ => h
  | k + 1, f, g, h1, h2 => by
    rw [gcdL]
    split
    · exact h1
    · exact gcdL_prz k g _ h2 (prz_prm _)
theorem iv_mkpos (p : Nat → Int) : ∃ e : Rat, (e = 1 ∨ e = -1) ∧ ∀ x, iv (mkpos p) x = e * iv p x := by
  by_cases h : ldI p < 0
  · refine ⟨-1, Or.inr rfl, fun x => ?_⟩
    have : mkpos p = fun i => -p i := by funext i; unfold mkpos; rw [if_pos h]
    rw [this, iv_neg]; grind
  · refine ⟨1, Or.inl rfl, fun x => ?_⟩
    have : mkpos p = p := by funext i; unfold mkpos; rw [if_neg h]
    rw [this]; grind
theorem cont_ng (p : Nat → Int) : ∀ n, cont (fun i => -p i) n = cont p n
  | 0 => rfl
  | n + 1 => by rw [cont, cont, cont_ng p n, Int.natAbs_neg]
theorem mkpos_prz {p : Nat → Int} (h : prz p) : prz (mkpos p) := by
  rcases h with h | h
  · left
    unfold isPr mkpos at *
    split
    · rw [cont_ng]; exact h
    · exact h
  · exact Or.inr (by rw [stI_mkpos]; exact h)
theorem mkpos_ld (p : Nat → Int) : 0 ≤ ldI (mkpos p) := by
  unfold ldI
  rw [stI_mkpos]
  unfold mkpos ldI
  split <;> omega
theorem isGc_sc {d d2 f g f2 g2 : Nat → Int} {a b c : Rat} (h : isGc d f g) (ha : a ≠ 0) (hb : b ≠ 0) (hc : c ≠ 0) (ed : ∀ x, iv d2 x = a * iv d x) (ef : ∀ x, iv f2 x = b * iv f x) (eg : ∀ x, iv g2 x = c * iv g x) : isGc d2 f2 g2 := by
  obtain ⟨⟨u, hu, k1⟩, ⟨v, hv, k2⟩, A, B, hA, hB, k3⟩ := h
  have ia := Rat.mul_inv_cancel a ha
  have ib := Rat.mul_inv_cancel b hb
  have ic := Rat.mul_inv_cancel c hc
  refine ⟨⟨fun x => (b * a⁻¹) * u x, isPo_s _ hu, fun x => ?_⟩, ⟨fun x => (c * a⁻¹) * v x, isPo_s _ hv, fun x => ?_⟩, fun x => (a * b⁻¹) * A x, fun x => (a * c⁻¹) * B x, isPo_s _ hA, isPo_s _ hB, fun x => ?_⟩
  · rw [ef, ed, k1]
    have : b * a⁻¹ * u x * (a * iv d x) = a * a⁻¹ * (b * (u x * iv d x)) := by generalize a⁻¹ = w; grind
    rw [this, ia]; grind
  · rw [eg, ed, k2]
    have : c * a⁻¹ * v x * (a * iv d x) = a * a⁻¹ * (c * (v x * iv d x)) := by generalize a⁻¹ = w; grind
    rw [this, ia]; grind
  · rw [ed, ef, eg, k3]
    have : a * b⁻¹ * A x * (b * iv f x) + a * c⁻¹ * B x * (c * iv g x) = a * ((b * b⁻¹) * (A x * iv f x) + (c * c⁻¹) * (B x * iv g x)) := by generalize b⁻¹ = w; generalize c⁻¹ = v; grind
    rw [this, ib, ic]; grind
theorem iv_prm2 (p : Nat → Int) : ∃ c : Rat, 0 < c ∧ ∀ x, iv p x = c * iv (prm p) x := by
  by_cases h : stI p 7 = 0
  · exact ⟨1, by decide, fun x => by rw [iv_zero h, iv_zero (by rw [stI_prm]; exact h)]; grind⟩
  · exact ⟨_, by rw [Rat.intCast_pos]; have := cont_pos h; omega, iv_prm p⟩
theorem gcdP_gc (a b : Nat → Int) : isGc (gcdP a b) a b ∧ prz (gcdP a b) ∧ 0 ≤ ldI (gcdP a b) := by
  unfold gcdP
  have h1 := gcdL_gc 10000 (prm a) (prm b) (by have := stI_le (prm b) 7; omega)
  obtain ⟨e, he, h2⟩ := iv_mkpos (gcdL 10000 (prm a) (prm b)).1
  obtain ⟨c1, hc1, h3⟩ := iv_prm2 a
  obtain ⟨c2, hc2, h4⟩ := iv_prm2 b
  refine ⟨isGc_sc h1 (a := e) (by rcases he with he | he <;> rw [he] <;> decide) (Rat.ne_of_gt hc1) (Rat.ne_of_gt hc2) h2 h3 h4, mkpos_prz (gcdL_prz _ _ _ (prz_prm a) (prz_prm b)), mkpos_ld _⟩
theorem ldI_nz {p : Nat → Int} (h : stI p 7 ≠ 0) : ldI p ≠ 0 := stI_top (p := p) (n := 7) (by omega)
/-- proportional, primitive or 0, leading coefficients not below 0: the same -/
theorem prz_uniq {p q : Nat → Int} {c : Rat} (hc : c ≠ 0) (hp : prz p) (hq : prz q) (lp : 0 ≤ ldI p) (lq : 0 ≤ ldI q) (h : ∀ x, iv p x = c * iv q x) : ∀ i, i < 7 → p i = q i := by
  have zero : ∀ p : Nat → Int, stI p 7 = 0 → ∀ i, i < 7 → p i = 0 := fun p hp i hi => stI_z (n := 7) (by omega) hi
  rcases hp with hp | hp
  · rcases hq with hq | hq
    · rcases pr_uniq hp hq h with ⟨_, k⟩ | ⟨_, k⟩
      · exact k
      · have e1 : stI p 7 = stI q 7 := stI_zc (fun i hi => by rw [k i hi]; omega)
        have n1 := ldI_nz (pr_nz hp)
        have n2 := stI_le q 7
        have n3 := pr_nz hq
        have : ldI p = -ldI q := by unfold ldI; rw [e1]; exact k _ (by omega)
        omega
    · exact absurd (fun x => by rw [h, iv_zero hq]; grind) (iv_nz (pr_nz hp))
  · rcases hq with hq | hq
    · refine absurd (fun x => ?_) (iv_nz (pr_nz hq))
      have := h x
      rw [iv_zero hp] at this
      exact (Rat.mul_eq_zero.mp this.symm).resolve_left hc
    · intro i hi
      rw [zero p hp i hi, zero q hq i hi]
theorem gc_uniq {d e f g : Nat → Int} (h : isGc d f g) (k : isGc e f g) (hd : prz d) (he : prz e) (ld : 0 ≤ ldI d) (le : 0 ≤ ldI e) : ∀ i, i < 7 → d i = e i := by
  obtain ⟨⟨u, hu, h1⟩, ⟨v, hv, h2⟩, A, B, hA, hB, h3⟩ := h
  obtain ⟨⟨u', hu', k1⟩, ⟨v', hv', k2⟩, A', B', hA', hB', k3⟩ := k
  have w1 : ∀ x, iv d x = (A x * u' x + B x * v' x) * iv e x := fun x => by rw [h3, k1, k2]; grind
  have w2 : ∀ x, iv e x = (A' x * u x + B' x * v x) * iv d x := fun x => by rw [k3, h1, h2]; grind
  by_cases hd0 : stI d 7 = 0
  · have : stI e 7 = 0 := stI_0 (fun x => by rw [w2, iv_zero hd0]; grind)
    intro i hi
    rw [stI_z (p := d) (n := 7) (by omega) hi, stI_z (p := e) (n := 7) (by omega) hi]
  · have hW : isPo (fun x => A x * u' x + B x * v' x) := isPo_add (isPo_mul hA hu') (isPo_mul hB hv')
    have hW2 : isPo (fun x => A' x * u x + B' x * v x) := isPo_add (isPo_mul hA' hu) (isPo_mul hB' hv)
    have one : ∀ x, (A x * u' x + B x * v' x) * (A' x * u x + B' x * v x) = 1 := by
      obtain ⟨n, hn⟩ := isPo_mul hW hW2
      exact raU_can (iv_U7 d) hn (raU_c 1) (fun x => by have a := w1 x; have b := w2 x; rw [b] at a; generalize iv d x = y at *; grind) (iv_nz hd0)
    rcases isPo_W hW with q | ⟨k, q⟩
    · have := one 0
      rw [q] at this
      exact absurd this (by rw [Rat.zero_mul]; decide)
    · rcases isPo_W hW2 with q2 | ⟨k2, q2⟩
      · have := one 0
        rw [q2] at this
        exact absurd this (by rw [Rat.mul_zero]; decide)
      · have dd := raW_nU (raW_eq (raW_mul q q2) (fun x => rfl)) (raU_eq (raU_c 1) one)
        obtain ⟨c, hc, h5⟩ := raW_0 (by rw [show k = 0 by omega] at q; exact q)
        exact prz_uniq hc hd he ld le (fun x => by have := h5 x; dsimp only at this; rw [w1, this])
