/-! a cell of a fine grid: signs of a chain at its two ends -/
def raN (a b : Rat) : Prop := raG a b ∧ a ≠ 0
theorem raN_b {a b : Rat} (h : raN a b) : b ≠ 0 := fun q => h.2 (h.1.1.mpr q)
theorem raC_opp {p x c : Rat} {l : List Rat} (h : c * p < 0) : raC p (x :: c :: l) = 1 + raC c l := by
  have hc : c ≠ 0 := fun q => by rw [q, Rat.zero_mul] at h; exact absurd h (by decide)
  rw [raC, raC, raC, if_neg hc, if_neg hc, if_pos h]
  by_cases hx : x = 0
  · rw [if_pos hx]
  · rw [if_neg hx]
    by_cases h1 : x * p < 0
    · have h2 : ¬ c * x < 0 := fun h2 => by
        rw [ra_neg_iff] at h h1 h2
        grind
      rw [if_pos h1, if_neg h2]; omega
    · have h2 : c * x < 0 := by
        rw [ra_neg_iff] at h h1 ⊢
        grind
      rw [if_neg h1, if_pos h2]; omega
theorem raG_op {a b c d : Rat} (h1 : raN a b) (h2 : raN c d) (h : c * a < 0) : d * b < 0 := (raG_mul h2.1 h1.1).mp h
/-- the tails have as many changes -/
theorem raC_tail (A B : Nat → Rat) {r : Nat} (hr : raN (A r) (B r)) (hi : ∀ i, 1 ≤ i → i < r → raN (A i) (B i) ∨ (raN (A (i - 1)) (B (i - 1)) ∧ raN (A (i + 1)) (B (i + 1)) ∧ A (i + 1) * A (i - 1) < 0)) :
    ∀ (n k : Nat), k + n = r → raN (A k) (B k) → raC (A k) ((List.range' (k + 1) n).map A) = raC (B k) ((List.range' (k + 1) n).map B) := by
  intro n
  induction n using Nat.strongRecOn with
  | _ n ih =>
    intro k hk h0
    cases n with
    | zero => rfl
    | succ n =>
      rw [List.range'_succ, List.map_cons, List.map_cons]
      have step : raN (A (k + 1)) (B (k + 1)) → raC (A k) (A (k + 1) :: (List.range' (k + 1 + 1) n).map A) = raC (B k) (B (k + 1) :: (List.range' (k + 1 + 1) n).map B) := fun h1 => by
        rw [raC, raC, if_neg h1.2, if_neg (raN_b h1), ih n (by omega) (k + 1) (by omega) h1]
        by_cases y : A (k + 1) * A k < 0
        · rw [if_pos y, if_pos ((raG_mul h1.1 h0.1).mp y)]
        · rw [if_neg y, if_neg (fun w => y ((raG_mul h1.1 h0.1).mpr w))]
      cases n with
      | zero => exact step (by rw [show k + 1 = r by omega]; exact hr)
      | succ n =>
        rcases hi (k + 1) (by omega) (by omega) with h1 | ⟨h1, h2, h3⟩
        · exact step h1
        · rw [Nat.add_sub_cancel] at h1 h3
          rw [List.range'_succ, List.map_cons, List.map_cons, raC_opp h3, raC_opp (raG_op h1 h2 h3), ih n (by omega) (k + 1 + 1) (by omega) h2]
/-- V at a point -/
def raX (H : Nat → List Rat) (r : Nat) (x : Rat) : Nat := raC 0 ((List.range (r + 1)).map (fun i => raV (H i) x))
theorem raC_z {a : Rat} {l : List Rat} (h : a ≠ 0) : raC 0 (a :: l) = raC a l := by
  rw [raC, if_neg h, Rat.mul_zero, if_neg (by decide)]; omega
theorem raC_2 {a b : Rat} {l : List Rat} (h : b ≠ 0) : raC 0 (a :: b :: l) = (if b * a < 0 then 1 else 0) + raC b l := by
  by_cases ha : a = 0
  · rw [raC, if_pos ha, raC_z h, ha, Rat.mul_zero, if_neg (by decide)]; omega
  · rw [raC_z ha, raC, if_neg h]
theorem ra_range1 (A : Nat → Rat) (r : Nat) : (List.range (r + 1)).map A = A 0 :: (List.range' 1 r).map A := by
  rw [List.range_eq_range', List.range'_succ, List.map_cons]
/-- what a cell from u to v tells of the first polynomial, of the second's sign, and of V -/
def raL (H : Nat → List Rat) (r : Nat) (u v : Rat) : Prop :=
  (raN (raV (H 0) u) (raV (H 0) v) ∧ raX H r u = raX H r v) ∨
  (raN (raV (H 1) u) (raV (H 1) v) ∧ (0 ≤ raV (H 1) u * raV (H 0) u → 0 < raV (H 1) v * raV (H 0) v) ∧ ∃ m, raX H r u = (if raV (H 1) u * raV (H 0) u < 0 then 1 else 0) + m ∧ raX H r v = (if raV (H 1) v * raV (H 0) v < 0 then 1 else 0) + m)
theorem raL_of {H : Nat → List Rat} {r : Nat} {u v : Rat} (hr : raN (raV (H r) u) (raV (H r) v)) (hi : ∀ i, 1 ≤ i → i < r → raN (raV (H i) u) (raV (H i) v) ∨ (raN (raV (H (i - 1)) u) (raV (H (i - 1)) v) ∧ raN (raV (H (i + 1)) u) (raV (H (i + 1)) v) ∧ raV (H (i + 1)) u * raV (H (i - 1)) u < 0))
    (h0 : raN (raV (H 0) u) (raV (H 0) v) ∨ (1 ≤ r ∧ raN (raV (H 1) u) (raV (H 1) v) ∧ (0 ≤ raV (H 1) u * raV (H 0) u → 0 < raV (H 1) v * raV (H 0) v))) : raL H r u v := by
  have key := raC_tail (fun i => raV (H i) u) (fun i => raV (H i) v) hr hi
  rcases h0 with h0 | ⟨h1, h2, h3⟩
  · refine Or.inl ⟨h0, ?_⟩
    have := key r 0 (by omega) h0
    rw [raX, raX, ra_range1, ra_range1, raC_z h0.2, raC_z (raN_b h0)]
    exact this
  · refine Or.inr ⟨h2, h3, ?_⟩
    obtain ⟨q, rfl⟩ : ∃ q, r = q + 1 := ⟨r - 1, by omega⟩
    have := key q 1 (by omega) h2
    refine ⟨raC (raV (H 1) u) ((List.range' (1 + 1) q).map (fun i => raV (H i) u)), ?_, ?_⟩
    · rw [raX, ra_range1, List.range'_succ, List.map_cons, raC_2 h2.2]
    · rw [raX, ra_range1, List.range'_succ, List.map_cons, raC_2 (raN_b h2), this]
theorem ra_if {p q : Prop} [Decidable p] [Decidable q] (h : p ↔ q) : (if p then 1 else 0 : Nat) = if q then 1 else 0 := by
  by_cases hp : p
  · rw [if_pos hp, if_pos (h.mp hp)]
  · rw [if_neg hp, if_neg (fun w => hp (h.mpr w))]
/-- along a grid -/
def raP (H : Nat → List Rat) (r : Nat) : Rat → List Rat → Prop
  | _, [] => True
  | u, v :: t => raL H r u v ∧ raP H r v t
def raE : Rat → List Rat → Rat
  | u, [] => u
  | _, v :: t => raE v t
theorem ra_pm {a b c : Rat} (h1 : 0 < c * a) (h2 : c * b < 0) : a * b < 0 := by
  have e1 : ¬ c * -a ≥ 0 := by grind
  rw [ra_neg_iff] at h2 ⊢
  rcases h2 with ⟨h2, h3⟩ | ⟨h2, h3⟩
  · refine Or.inl ⟨Rat.not_le.mp (fun q => ?_), h3⟩
    have := Rat.mul_nonneg (a := -c) (by grind) q
    grind
  · refine Or.inr ⟨Rat.not_le.mp (fun q => ?_), h3⟩
    have := Rat.mul_nonneg (a := c) (b := -a) (by grind) (by grind)
    grind
theorem raX_grid (H : Nat → List Rat) (r : Nat) : ∀ (t : List Rat) (u : Rat), raP H r u t → raX H r u = raX H r (raE u t) + raC 0 ((u :: t).map (raV (H 0))) + (if t ≠ [] ∧ raV (H 0) (raE u t) = 0 then 1 else 0)
  | [], u, _ => by
    rw [raE, if_neg (by simp), List.map_cons, List.map_nil, raC]
    split <;> simp [raC]
  | v :: t, u, h => by
    obtain ⟨h1, h2⟩ := h
    have ih := raX_grid H r t v h2
    rw [raE]
    rw [List.map_cons] at ih ⊢
    have t1 : (v :: t ≠ [] ∧ raV (H 0) (raE v t) = 0) ↔ raV (H 0) (raE v t) = 0 := ⟨fun q => q.2, fun q => ⟨by simp, q⟩⟩
    rw [ra_if t1, List.map_cons]
    rcases h1 with ⟨a1, a2⟩ | ⟨a1, a2, m, a3, a4⟩
    · have n2 := raN_b a1
      have no : ¬ raV (H 0) v * raV (H 0) u < 0 := fun q => by
        have e := a1.1.2
        have e2 := raG_pos a1.1
        rw [ra_neg_iff] at q
        grind
      rw [raC_2 n2, if_neg no, a2, ih, raC_z n2]
      cases t with
      | nil => rw [raE, if_neg (by simp), if_neg n2]; omega
      | cons w t' => rw [ra_if (show (w :: t' ≠ [] ∧ raV (H 0) (raE v (w :: t')) = 0) ↔ raV (H 0) (raE v (w :: t')) = 0 from ⟨fun q => q.2, fun q => ⟨by simp, q⟩⟩)]; omega
    · by_cases hv : raV (H 0) v = 0
      · have hu : raV (H 1) u * raV (H 0) u < 0 := by
          refine Rat.not_le.mp (fun q => ?_)
          have := a2 q
          rw [hv, Rat.mul_zero] at this
          exact absurd this (by decide)
        have hu0 : raV (H 0) u ≠ 0 := fun q => by rw [q, Rat.mul_zero] at hu; exact absurd hu (by decide)
        rw [if_pos hu] at a3
        rw [hv, Rat.mul_zero, if_neg (by decide)] at a4
        rw [raC_z hu0, hv, raC, if_pos rfl]
        rw [hv, raC, if_pos rfl] at ih
        cases t with
        | nil =>
          rw [raE, if_neg (by simp)] at ih
          rw [raE, if_pos hv]
          simp only [List.map_nil, raC] at ih ⊢
          omega
        | cons w t' =>
          rw [ra_if (show (w :: t' ≠ [] ∧ raV (H 0) (raE v (w :: t')) = 0) ↔ raV (H 0) (raE v (w :: t')) = 0 from ⟨fun q => q.2, fun q => ⟨by simp, q⟩⟩)] at ih
          have hw : 0 < raV (H 1) w * raV (H 0) w ∧ raN (raV (H 1) v) (raV (H 1) w) := by
            rcases h2.1 with ⟨b1, _⟩ | ⟨b1, b2, _⟩
            · exact absurd hv b1.2
            · exact ⟨b2 (by rw [hv, Rat.mul_zero]; exact Rat.le_refl), b1⟩
          have hw0 : raV (H 0) w ≠ 0 := fun q => by rw [q, Rat.mul_zero] at hw; exact absurd hw.1 (by decide)
          have hwu : raV (H 0) w * raV (H 0) u < 0 := by
            refine ra_pm hw.1 ?_
            exact (raG_mul ⟨Iff.trans a1.1.1 hw.2.1.1, Iff.trans a1.1.2 hw.2.1.2⟩ (raG_rf _)).mp hu
          rw [List.map_cons] at ih ⊢
          rw [raC, if_neg hw0, if_pos hwu]
          rw [raC_z hw0] at ih
          omega
      · rw [raC_2 hv]
        have hc : (if raV (H 1) u * raV (H 0) u < 0 then 1 else 0) = (if raV (H 0) v * raV (H 0) u < 0 then 1 else 0) + (if raV (H 1) v * raV (H 0) v < 0 then 1 else 0) := by
          by_cases c1 : raV (H 1) u * raV (H 0) u < 0
          · rw [if_pos c1]
            by_cases c2 : raV (H 1) v * raV (H 0) v < 0
            · have : ¬ raV (H 0) v * raV (H 0) u < 0 := fun q => by
                have c3 := (raG_mul a1.1 (raG_rf (raV (H 0) u))).mp c1
                rw [ra_neg_iff] at q c2 c3
                grind
              rw [if_pos c2, if_neg this]
            · have c4 : 0 < raV (H 1) v * raV (H 0) v := by
                have : raV (H 1) v * raV (H 0) v ≠ 0 := fun q => (Rat.mul_eq_zero.mp q).elim (raN_b a1) hv
                exact Rat.lt_of_le_of_ne (Rat.not_lt.mp c2) (Ne.symm this)
              rw [if_neg c2, if_pos (ra_pm c4 ((raG_mul a1.1 (raG_rf _)).mp c1))]
          · have c4 := a2 (Rat.not_lt.mp c1)
            have : ¬ raV (H 0) v * raV (H 0) u < 0 := fun q => by
              have c3 := (raG_mul a1.1 (raG_rf (raV (H 0) u)))
              refine c1 (c3.mpr ?_)
              rw [Rat.mul_comm] at c4
              have := ra_pm (a := raV (H 1) v) (b := raV (H 0) u) c4 q
              exact this
            rw [if_neg c1, if_neg this, if_neg (Rat.not_lt.mpr (Rat.le_of_lt c4))]
        rw [raC_z hv] at ih
        cases t with
        | nil =>
          rw [raE, if_neg (by simp)] at ih
          rw [raE, if_neg hv]
          omega
        | cons w t' =>
          rw [ra_if (show (w :: t' ≠ [] ∧ raV (H 0) (raE v (w :: t')) = 0) ↔ raV (H 0) (raE v (w :: t')) = 0 from ⟨fun q => q.2, fun q => ⟨by simp, q⟩⟩)] at ih
          omega
