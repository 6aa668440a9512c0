/-! a narrow node has at most one sign change -/
theorem comb {p q : Nat → Int} {a b K L s t m n : Nat} (hpz : ∀ k, a ≤ k → p k = 0) (hqz : ∀ k, b ≤ k → q k = 0) (hpK : ∀ k, (p k).natAbs ≤ K) (hqL : ∀ k, (q k).natAbs ≤ L) (hR1 : 1 ≤ s * K + t * L) (hm : m + 1 = s + t) (hs : s + a ≤ n + 1) (ht : t + b ≤ n + 1) (idx : Nat → Nat) : ∃ x C : Nat → Int, (∃ j, j < s + t ∧ x j ≠ 0) ∧ (∀ j, j < s + t → (x j).natAbs ≤ (s * K + t * L) ^ m) ∧ (∀ i, i < m → C (idx i) = 0) ∧ ∀ y, raV (ivn n C) y = raV (ivn s x) y * raV (ivn a p) y + raV (ivn t (fun j => x (s + j))) y * raV (ivn b q) y := by
  obtain ⟨M, hM⟩ : ∃ M : Nat → Nat → Int, M = fun i j => if j < s then (if j ≤ i then p (i - j) else 0) else (if j - s ≤ i then q (i - (j - s)) else 0) := ⟨_, rfl⟩
  have hrow : ∀ i, suN (fun j => (M i j).natAbs) (m + 1) ≤ s * K + t * L := fun i => by
    rw [hm, suN_add]
    refine Nat.add_le_add ?_ ?_
    · rw [← suN_c K s]
      refine suN_le (fun j hj => ?_)
      rw [hM]
      (try dsimp only)
      rw [if_pos hj]
      split
      · exact hpK _
      · exact Nat.zero_le _
    · rw [← suN_c L t]
      refine suN_le (fun j hj => ?_)
      rw [hM]
      (try dsimp only)
      rw [if_neg (by omega)]
      split
      · exact hqL _
      · exact Nat.zero_le _
  obtain ⟨x, hx0, hx1, hx2⟩ := siegel m (fun i j => M (idx i) j) (s * K + t * L) hR1 (fun i _ => hrow _)
  rw [hm] at hx0 hx1
  refine ⟨x, fun i => suI (fun j => M i j * x j) (m + 1), hx0, hx1, hx2, fun y => ?_⟩
  have e1 : (fun i => suI (fun j => M i j * x j) (m + 1)) = fun i => suI (fun j => (if j ≤ i then p (i - j) else 0) * x j) s + suI (fun j => (if j ≤ i then q (i - j) else 0) * x (s + j)) t := by
    funext i
    rw [hm, suI_add]
    have a1 : suI (fun j => M i j * x j) s = suI (fun j => (if j ≤ i then p (i - j) else 0) * x j) s := suI_cong (fun j hj => by rw [hM]; (try dsimp only); rw [if_pos hj])
    have a2 : suI (fun j => M i (s + j) * x (s + j)) t = suI (fun j => (if j ≤ i then q (i - j) else 0) * x (s + j)) t := suI_cong (fun j hj => by rw [hM]; (try dsimp only); rw [if_neg (by omega), Nat.add_sub_cancel_left])
    rw [a1, a2]
  rw [e1, ivn_add, cv_V hpz x n y s hs, cv_V hqz (fun j => x (s + j)) n y t ht]
theorem Dv_add {f f' g g' : Rat → Rat} (hf : Dv f f') (hg : Dv g g') : Dv (fun x => f x + g x) (fun x => f' x + g' x) := by
  obtain ⟨l, a1, a2⟩ := hf
  obtain ⟨m, b1, b2⟩ := hg
  exact ⟨raA l m, fun x => by (try dsimp only); rw [raV_A, a1, b1], fun x => by (try dsimp only); rw [raV_DA, a2, b2]⟩
theorem Dv_c (k : Rat) : Dv (fun _ => k) (fun _ => 0) := ⟨[k], fun x => by simp only [raV]; grind, fun x => by simp only [raD, raV]⟩
theorem Dv_x : Dv (fun x => x) (fun _ => 1) := ⟨[0, 1], fun x => by simp only [raV]; grind, fun x => by simp only [raD, raA, raV]; grind⟩
theorem Dv_eq2 {f f' g g' : Rat → Rat} (h : Dv f f') (e : ∀ x, g x = f x) (e2 : ∀ x, g' x = f' x) : Dv g g' := by
  obtain ⟨l, a1, a2⟩ := h
  exact ⟨l, fun x => by rw [e, a1], fun x => by rw [e2, a2]⟩
theorem Dv_pw : ∀ n : Nat, Dv (fun x => x ^ (n + 1)) (fun x => ((n : Rat) + 1) * x ^ n)
  | 0 => Dv_eq2 Dv_x (fun x => by rw [Rat.pow_succ, Rat.pow_zero]; grind) (fun x => by rw [Rat.pow_zero, show ((0 : Nat) : Rat) = 0 from rfl]; grind)
  | n + 1 => Dv_eq2 (Dv_mul (Dv_pw n) Dv_x) (fun x => by rw [Rat.pow_succ]) (fun x => by rw [Rat.pow_succ, ra_c1]; grind)
/-- values and derivatives of a small polynomial -/
theorem iv_bd {x : Nat → Int} {X : Nat} {P c : Rat} : ∀ n : Nat, (∀ j, j < n → (x j).natAbs ≤ X) → (∀ j, j < n → ab c ^ j ≤ P) → ab (raV (ivn n x) c) ≤ (n : Rat) * ((X : Rat) * P)
  | 0, _, _ => by rw [ivn_0, au_0, show ((0 : Nat) : Rat) = 0 from rfl, Rat.zero_mul]; exact Rat.le_refl
  | n + 1, hx, hP => by
    have ih := iv_bd n (fun j hj => hx j (by omega)) (fun j hj => hP j (by omega))
    have h1 : ab ((x n : Rat) * c ^ n) ≤ (X : Rat) * P := au_m (by rw [au_int]; exact Rat.natCast_le_natCast.mpr (hx n (by omega))) (by rw [au_pow]; exact hP n (by omega))
    have h2 := au_add (raV (ivn n x) c) ((x n : Rat) * c ^ n)
    rw [ivn_s, ra_c1]
    grind
theorem iv_bdD {x : Nat → Int} {X : Nat} {P c : Rat} (hP1 : 0 ≤ P) : ∀ n : Nat, n ≤ 6 → (∀ j, j < n → (x j).natAbs ≤ X) → (∀ j, j < n → ab c ^ j ≤ P) → ∃ E, Dv (raV (ivn n x)) E ∧ ab (E c) ≤ (n : Rat) * (6 * ((X : Rat) * P))
  | 0, _, _, _ => ⟨fun _ => 0, Dv_eq (Dv_c 0) (fun x => by rw [ivn_0]), by rw [au_0, show ((0 : Nat) : Rat) = 0 from rfl, Rat.zero_mul]; exact Rat.le_refl⟩
  | n + 1, hn, hx, hP => by
    obtain ⟨E, h1, h2⟩ := iv_bdD hP1 n (by omega) (fun j hj => hx j (by omega)) (fun j hj => hP j (by omega))
    have hXP : 0 ≤ (X : Rat) * P := Rat.mul_nonneg Rat.natCast_nonneg hP1
    cases n with
    | zero =>
      refine ⟨fun _ => 0, Dv_eq (Dv_c ((x 0 : Int) : Rat)) (fun y => by rw [ivn_s, ivn_0, Rat.pow_zero]; grind), ?_⟩
      rw [au_0, show ((0 + 1 : Nat) : Rat) = 1 from rfl]
      grind
    | succ n =>
      refine ⟨fun y => E y + ((x (n + 1) : Int) : Rat) * (((n : Rat) + 1) * y ^ n), Dv_eq (Dv_add h1 (Dv_s _ (Dv_pw n))) (fun y => by rw [ivn_s]), ?_⟩
      have h3 : ab (((x (n + 1) : Int) : Rat) * (((n : Rat) + 1) * c ^ n)) ≤ (X : Rat) * (6 * P) := by
        refine au_m (by rw [au_int]; exact Rat.natCast_le_natCast.mpr (hx (n + 1) (by omega))) (au_m ?_ (by rw [au_pow]; exact hP n (by omega)))
        rw [← ra_c1, au_pos Rat.natCast_nonneg]
        exact Rat.natCast_le_natCast.mpr (show n + 1 ≤ 6 by omega)
      have h4 := au_add (E c) (((x (n + 1) : Int) : Rat) * (((n : Rat) + 1) * c ^ n))
      rw [ra_c1]
      grind
/-- Taylor's coefficients are small -/
theorem tY_b {S : Nat → Int} {c Q : Rat} (hS : ∀ t j, j + 1 ≤ t → t ≤ 6 → ab ((S t : Rat) * c ^ j) ≤ Q) : ab (tY S c 2) + ab (tY S c 3) + ab (tY S c 4) + ab (tY S c 5) + ab (tY S c 6) ≤ 99 * Q := by
  have z : ∀ t, 1 ≤ t → t ≤ 6 → ab (S t : Rat) ≤ Q := fun t a b => by
    have := hS t 0 (by omega) b
    rw [Rat.pow_zero, Rat.mul_one] at this
    exact this
  have o : ∀ t, 2 ≤ t → t ≤ 6 → ab ((S t : Rat) * c) ≤ Q := fun t a b => by
    have := hS t 1 (by omega) b
    rw [Rat.pow_succ, Rat.pow_zero, Rat.one_mul] at this
    exact this
  have k : ∀ (n : Rat) (x : Rat), 0 ≤ n → ab x ≤ Q → ab (n * x) ≤ n * Q := fun n x hn hx => by
    rw [au_mul, au_pos hn]
    exact rm_le hn Rat.le_refl (au_nn x) hx
  have t2 : ab (tY S c 2) ≤ 35 * Q := by
    have h0 := z 2 (by decide) (by decide)
    have h1 := k 3 _ (by decide) (o 3 (by decide) (by decide))
    have h2 := k 6 _ (by decide) (hS 4 2 (by decide) (by decide))
    have h3 := k 10 _ (by decide) (hS 5 3 (by decide) (by decide))
    have h4 := k 15 _ (by decide) (hS 6 4 (by decide) (by decide))
    unfold tY
    have a1 := au_add ((S 2 : Rat) + 3 * ((S 3 : Rat) * c) + 6 * ((S 4 : Rat) * c ^ 2) + 10 * ((S 5 : Rat) * c ^ 3)) (15 * ((S 6 : Rat) * c ^ 4))
    have a2 := au_add ((S 2 : Rat) + 3 * ((S 3 : Rat) * c) + 6 * ((S 4 : Rat) * c ^ 2)) (10 * ((S 5 : Rat) * c ^ 3))
    have a3 := au_add ((S 2 : Rat) + 3 * ((S 3 : Rat) * c)) (6 * ((S 4 : Rat) * c ^ 2))
    have a4 := au_add ((S 2 : Rat)) (3 * ((S 3 : Rat) * c))
    grind
  have t3 : ab (tY S c 3) ≤ 35 * Q := by
    have h0 := z 3 (by decide) (by decide)
    have h1 := k 4 _ (by decide) (o 4 (by decide) (by decide))
    have h2 := k 10 _ (by decide) (hS 5 2 (by decide) (by decide))
    have h3 := k 20 _ (by decide) (hS 6 3 (by decide) (by decide))
    unfold tY
    have a2 := au_add ((S 3 : Rat) + 4 * ((S 4 : Rat) * c) + 10 * ((S 5 : Rat) * c ^ 2)) (20 * ((S 6 : Rat) * c ^ 3))
    have a3 := au_add ((S 3 : Rat) + 4 * ((S 4 : Rat) * c)) (10 * ((S 5 : Rat) * c ^ 2))
    have a4 := au_add ((S 3 : Rat)) (4 * ((S 4 : Rat) * c))
    grind
  have t4 : ab (tY S c 4) ≤ 21 * Q := by
    have h0 := z 4 (by decide) (by decide)
    have h1 := k 5 _ (by decide) (o 5 (by decide) (by decide))
    have h2 := k 15 _ (by decide) (hS 6 2 (by decide) (by decide))
    unfold tY
    have a3 := au_add ((S 4 : Rat) + 5 * ((S 5 : Rat) * c)) (15 * ((S 6 : Rat) * c ^ 2))
    have a4 := au_add ((S 4 : Rat)) (5 * ((S 5 : Rat) * c))
    grind
  have t5 : ab (tY S c 5) ≤ 7 * Q := by
    have h0 := z 5 (by decide) (by decide)
    have h1 := k 6 _ (by decide) (o 6 (by decide) (by decide))
    unfold tY
    have a4 := au_add ((S 5 : Rat)) (6 * ((S 6 : Rat) * c))
    grind
  have t6 : ab (tY S c 6) ≤ Q := z 6 (by decide) (by decide)
  grind
/-- a node's coefficients -/
theorem node_q {S q : Nat → Int} {g : Nat} {lam c w : Rat} (hg : g ≤ 6) (hq : ∀ y, raV (ivn (g + 1) q) y = lam * iv S (c + w * y)) : ∀ i, i < 7 → (((if i < g + 1 then q i else 0 : Int)) : Rat) = lam * w ^ i * tY S c i := by
  have e : ivn 7 (fun i => if i < g + 1 then q i else 0) = [lam * tY S c 0, lam * w * tY S c 1, lam * w ^ 2 * tY S c 2, lam * w ^ 3 * tY S c 3, lam * w ^ 4 * tY S c 4, lam * w ^ 5 * tY S c 5, lam * w ^ 6 * tY S c 6] := by
    refine raV_inj _ _ (by rw [ivn_len]; rfl) (fun y => ?_)
    have h1 := ivn_cut (p := fun i => if i < g + 1 then q i else 0) (k := g + 1) y (6 - g) (fun i a b => if_neg (by omega))
    rw [show g + 1 + (6 - g) = 7 by omega] at h1
    rw [h1, ivn_cong (q := q) (fun i hi => if_pos hi), hq, tY_V]
    simp only [raV]
    generalize tY S c 0 = a0
    generalize tY S c 1 = a1
    generalize tY S c 2 = a2
    generalize tY S c 3 = a3
    generalize tY S c 4 = a4
    generalize tY S c 5 = a5
    generalize tY S c 6 = a6
    grind
  have e2 : ivn 7 (fun i => if i < g + 1 then q i else 0) = [(((if 0 < g + 1 then q 0 else 0 : Int)) : Rat), (((if 1 < g + 1 then q 1 else 0 : Int)) : Rat), (((if 2 < g + 1 then q 2 else 0 : Int)) : Rat), (((if 3 < g + 1 then q 3 else 0 : Int)) : Rat), (((if 4 < g + 1 then q 4 else 0 : Int)) : Rat), (((if 5 < g + 1 then q 5 else 0 : Int)) : Rat), (((if 6 < g + 1 then q 6 else 0 : Int)) : Rat)] := rfl
  rw [e2] at e
  simp only [List.cons.injEq, and_true] at e
  obtain ⟨e0, e1, e2, e3, e4, e5, e6⟩ := e
  intro i hi
  rcases (show i = 0 ∨ i = 1 ∨ i = 2 ∨ i = 3 ∨ i = 4 ∨ i = 5 ∨ i = 6 by omega) with h | h | h | h | h | h | h <;> subst h
  · rw [e0, Rat.pow_zero]; grind
  · rw [e1, Rat.pow_succ, Rat.pow_zero]; grind
  · exact e2
  · exact e3
  · exact e4
  · exact e5
  · exact e6
theorem suN_up {f : Nat → Nat} {n : Nat} : ∀ k, suN f n ≤ suN f (n + k)
  | 0 => Nat.le_refl _
  | k + 1 => by rw [← Nat.add_assoc, suN]; exact Nat.le_trans (suN_up k) (Nat.le_add_right _ _)
/-- two sign changes: the polynomial and its derivative are small at the node -/
theorem node_2 {S q : Nat → Int} {g : Nat} {lam c w : Rat} (hg : g ≤ 6) (h2 : 2 ≤ g) (hl : 0 < lam) (hw : 0 < w) (hq : ∀ y, raV (ivn (g + 1) q) y = lam * iv S (c + w * y)) (h : 2 ≤ cwN q g) : ab (tY S c 0) ≤ 13 * (w * (w * (ab (tY S c 2) + w * ab (tY S c 3) + w ^ 2 * ab (tY S c 4) + w ^ 3 * ab (tY S c 5) + w ^ 4 * ab (tY S c 6)))) ∧ ab (tY S c 1) ≤ 12 * (w * (ab (tY S c 2) + w * ab (tY S c 3) + w ^ 2 * ab (tY S c 4) + w ^ 3 * ab (tY S c 5) + w ^ 4 * ab (tY S c 6))) := by
  have hn := node_q hg hq
  obtain ⟨c1, c0⟩ := cw_2 (q := q) (by omega) h2 h
  obtain ⟨sg, hsg⟩ : ∃ sg, sg = ab (tY S c 2) + w * ab (tY S c 3) + w ^ 2 * ab (tY S c 4) + w ^ 3 * ab (tY S c 5) + w ^ 4 * ab (tY S c 6) := ⟨_, rfl⟩
  rw [← hsg]
  have hp : ∀ i : Nat, 0 < w ^ i := fun i => Rat.pow_pos hw
  have an : ∀ i, i < 7 → ab (((if i < g + 1 then q i else 0 : Int)) : Rat) = lam * w ^ i * ab (tY S c i) := fun i hi => by
    rw [hn i hi, au_mul, au_mul, au_pos (Rat.le_of_lt hl), au_pos (Rat.le_of_lt (hp i))]
  have hR : ((rst q g : Int) : Rat) ≤ lam * (w * (w * sg)) := by
    have e1 : suN (fun i => (q (2 + i)).natAbs) (g - 1) = suN (fun i => (if 2 + i < g + 1 then q (2 + i) else 0 : Int).natAbs) (g - 1) := suN_cong (fun i hi => by rw [if_pos (by omega)])
    have e2 := suN_up (f := fun i => (if 2 + i < g + 1 then q (2 + i) else 0 : Int).natAbs) (n := g - 1) (6 - g)
    rw [show g - 1 + (6 - g) = 5 by omega] at e2
    have e3 : ((rst q g : Int) : Rat) ≤ ((suN (fun i => (if 2 + i < g + 1 then q (2 + i) else 0 : Int).natAbs) 5 : Nat) : Rat) := by
      unfold rst
      rw [Rat.intCast_natCast]
      exact Rat.natCast_le_natCast.mpr (by omega)
    refine Rat.le_trans e3 ?_
    have e4 : suN (fun i => (if 2 + i < g + 1 then q (2 + i) else 0 : Int).natAbs) 5 = (((((0 + (if 2 < g + 1 then q 2 else 0 : Int).natAbs) + (if 3 < g + 1 then q 3 else 0 : Int).natAbs) + (if 4 < g + 1 then q 4 else 0 : Int).natAbs) + (if 5 < g + 1 then q 5 else 0 : Int).natAbs) + (if 6 < g + 1 then q 6 else 0 : Int).natAbs) := rfl
    rw [e4, Nat.zero_add, Rat.natCast_add, Rat.natCast_add, Rat.natCast_add, Rat.natCast_add, ← au_int, ← au_int, ← au_int, ← au_int, ← au_int, an 2 (by decide), an 3 (by decide), an 4 (by decide), an 5 (by decide), an 6 (by decide), hsg]
    generalize ab (tY S c 2) = a2
    generalize ab (tY S c 3) = a3
    generalize ab (tY S c 4) = a4
    generalize ab (tY S c 5) = a5
    generalize ab (tY S c 6) = a6
    have : lam * w ^ 2 * a2 + lam * w ^ 3 * a3 + lam * w ^ 4 * a4 + lam * w ^ 5 * a5 + lam * w ^ 6 * a6 = lam * (w * (w * (a2 + w * a3 + w ^ 2 * a4 + w ^ 3 * a5 + w ^ 4 * a6))) := by grind
    rw [this]
    exact Rat.le_refl
  have big : ∀ (i : Nat) (k : Nat), -((k : Int) * rst q g) ≤ q i → q i ≤ (k : Int) * rst q g → ab (q i : Rat) ≤ (k : Rat) * ((rst q g : Int) : Rat) := fun i k a b => by
    rw [au_le]
    have a1 := Rat.intCast_le_intCast.mpr a
    have b1 := Rat.intCast_le_intCast.mpr b
    rw [Rat.intCast_neg, Rat.intCast_mul, Rat.intCast_natCast] at a1
    rw [Rat.intCast_mul, Rat.intCast_natCast] at b1
    exact ⟨a1, b1⟩
  have b0 := big 0 13 c0.1 c0.2
  have b1 := big 1 12 c1.1 c1.2
  have n0 := an 0 (by decide)
  have n1 := an 1 (by decide)
  rw [if_pos (by omega)] at n0 n1
  rw [n0, Rat.pow_zero] at b0
  rw [n1, Rat.pow_succ, Rat.pow_zero] at b1
  have lw := Rat.mul_pos hl hw
  refine ⟨rc_le hl ?_, rc_le lw ?_⟩
  · have := rm_le (show (0 : Rat) ≤ 13 by decide) Rat.le_refl (show 0 ≤ ((rst q g : Int) : Rat) by rw [← Rat.intCast_zero]; exact Rat.intCast_le_intCast.mpr (by unfold rst; omega)) hR
    have e : ((13 : Nat) : Rat) = 13 := rfl
    rw [e] at b0
    grind
  · have := rm_le (show (0 : Rat) ≤ 12 by decide) Rat.le_refl (show 0 ≤ ((rst q g : Int) : Rat) by rw [← Rat.intCast_zero]; exact Rat.intCast_le_intCast.mpr (by unfold rst; omega)) hR
    have e : ((12 : Nat) : Rat) = 12 := rfl
    rw [e] at b1
    grind
