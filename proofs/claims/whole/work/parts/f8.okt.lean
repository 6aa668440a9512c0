/-! the tree ends, and its numbers stay small -/
theorem dp_1 : ∀ g, g < 7 → 2 ≤ g → 14256000 * (((g - 1) * 9999 + g * 59994) ^ (2 * g - 2) * 9999) < 2 ^ 137 * 2 ^ 137 := by decide +kernel
theorem dp_2 : ∀ g, g < 6 → 2 ≤ g → 14256000 * (((g - 1) * 2629737 + g * 13148685) ^ (2 * g - 2) * 2629737) < 2 ^ 137 * 2 ^ 137 := by decide +kernel
theorem node_end {S : Nat → Int} {g : Nat} (h : szB S) (co : copr S) (hg : stI S 7 = g + 1) {q : Nat → Int} {lam c w : Rat} (hl : 0 < lam) (hw : 0 < w) (hwN : w * ((2 ^ 137 : Nat) : Rat) ≤ 1) (hq : ∀ y, raV (ivn (g + 1) q) y = lam * iv S (c + w * y)) : cwN q g < 2 := by
  by_cases c2 : 2 ≤ g
  · obtain ⟨hz, h0, h⟩ := h
    have h7 := stI_le S 7
    have dl : ∀ K c : Nat, (∀ i, i < 7 → (S i).natAbs ≤ K) → (∀ i, i < 6 → S (i + 1) ≠ 0 → i + 1 ≤ c) → ∀ i, i < 7 → (derI S i).natAbs ≤ K * c := fun K c hK hc i hi => by
      unfold derI
      split
      · next q =>
        by_cases z : S (i + 1) = 0
        · rw [z, Int.zero_mul]; exact Nat.zero_le _
        · rw [Int.natAbs_mul]
          have := hc i q z
          exact Nat.mul_le_mul (hK _ (by omega)) (by omega)
      · exact Nat.zero_le _
    rcases h with h | ⟨h6, h⟩
    · exact depth_main (K := 9999) (L := 59994) hg hz c2 co h (dl 9999 6 h (fun i hi _ => by omega)) (by decide) (N := 2 ^ 137) (Nat.pow_pos (by decide)) (dp_1 g (by omega) c2) hl hw hwN hq
    · exact depth_main (K := 2629737) (L := 13148685) hg hz c2 co h (dl 2629737 5 h (fun i hi z => Classical.byContradiction (fun q => z (stI_z (n := 7) (by omega) (by omega))))) (by decide) (N := 2 ^ 137) (Nat.pow_pos (by decide)) (dp_2 g (by omega) c2) hl hw hwN hq
  · refine Nat.not_le.mp (fun q2 => ?_)
    unfold cwN at q2
    obtain ⟨j, k, m, a, b, d, _⟩ := (chg_two (s := fun i => (cwQ q g i).sign) (fun i => sgn_3 _) (g + 1)).2.2.2 q2
    omega
theorem pw_mono {a b : Rat} (h0 : 0 ≤ a) (h : a ≤ b) : ∀ n : Nat, a ^ n ≤ b ^ n
  | 0 => by rw [Rat.pow_zero, Rat.pow_zero]; exact Rat.le_refl
  | n + 1 => by
    rw [Rat.pow_succ, Rat.pow_succ]
    exact rm_le (pw_nn h0 n) (pw_mono h0 h n) h0 h
theorem natR_pow (a : Nat) : ∀ n : Nat, ((a ^ n : Nat) : Rat) = (a : Rat) ^ n
  | 0 => by rw [Nat.pow_zero, Rat.pow_zero]; rfl
  | n + 1 => by rw [Nat.pow_succ, Rat.natCast_mul, natR_pow a n, Rat.pow_succ]
/-- Taylor's coefficients in a wide range -/
theorem tY_w {S : Nat → Int} {c : Rat} (hS : ∀ i, i < 7 → (S i).natAbs ≤ 2629737) (hc : ab c ≤ ((2 ^ 21 : Nat) : Rat)) : ∀ i, i < 7 → ab (tY S c i) ≤ ((2 ^ 156 : Nat) : Rat) := by
  obtain ⟨Q, hQ⟩ : ∃ Q : Rat, Q = ((2629737 * (2 ^ 21) ^ 6 : Nat) : Rat) := ⟨_, rfl⟩
  have hA1 : (1 : Rat) ≤ ((2 ^ 21 : Nat) : Rat) := Rat.natCast_le_natCast.mpr (show 1 ≤ 2 ^ 21 by decide)
  have hb : ∀ t j, t ≤ 6 → j ≤ 6 → ab ((S t : Rat) * c ^ j) ≤ Q := fun t j ht hj => by
    rw [hQ, Rat.natCast_mul, natR_pow]
    refine au_m (by rw [au_int]; exact Rat.natCast_le_natCast.mpr (hS t (by omega))) ?_
    rw [au_pow]
    refine Rat.le_trans (pw_mono (au_nn c) hc j) ?_
    have := pw_up hA1 (j := j) (6 - j)
    rwa [show j + (6 - j) = 6 by omega] at this
  have hQ0 : 0 ≤ Q := by rw [hQ]; exact Rat.natCast_nonneg
  have hQ2 : 99 * Q ≤ ((2 ^ 156 : Nat) : Rat) := by
    have : (99 : Rat) * Q = ((99 * (2629737 * (2 ^ 21) ^ 6) : Nat) : Rat) := by rw [hQ, Rat.natCast_mul 99]; rfl
    rw [this]
    refine Rat.natCast_le_natCast.mpr ?_
    decide +kernel
  have hM := tY_b (c := c) (Q := Q) (fun t j h1 h2 => hb t j h2 (by omega))
  have t2 := au_nn (tY S c 2)
  have t3 := au_nn (tY S c 3)
  have t4 := au_nn (tY S c 4)
  have t5 := au_nn (tY S c 5)
  have t6 := au_nn (tY S c 6)
  have z : ∀ t, t ≤ 6 → ab (S t : Rat) ≤ Q := fun t a => by
    have := hb t 0 a (by decide)
    rw [Rat.pow_zero, Rat.mul_one] at this
    exact this
  have o : ∀ t, t ≤ 6 → ab ((S t : Rat) * c) ≤ Q := fun t a => by
    have := hb t 1 a (by decide)
    rw [Rat.pow_succ, Rat.pow_zero, Rat.one_mul] at this
    exact this
  have k : ∀ (n : Rat) (x : Rat), 0 ≤ n → ab x ≤ Q → ab (n * x) ≤ n * Q := fun n x hn hx => by
    rw [au_mul, au_pos hn]
    exact rm_le hn Rat.le_refl (au_nn x) hx
  have T0 : ab (tY S c 0) ≤ 7 * Q := by
    have h0 := z 0 (by decide)
    have h1 := o 1 (by decide)
    have h2 := hb 2 2 (by decide) (by decide)
    have h3 := hb 3 3 (by decide) (by decide)
    have h4 := hb 4 4 (by decide) (by decide)
    have h5 := hb 5 5 (by decide) (by decide)
    have h6 := hb 6 6 (by decide) (by decide)
    unfold tY
    have a1 := au_add ((S 0 : Rat) + (S 1 : Rat) * c + (S 2 : Rat) * c ^ 2 + (S 3 : Rat) * c ^ 3 + (S 4 : Rat) * c ^ 4 + (S 5 : Rat) * c ^ 5) ((S 6 : Rat) * c ^ 6)
    have a2 := au_add ((S 0 : Rat) + (S 1 : Rat) * c + (S 2 : Rat) * c ^ 2 + (S 3 : Rat) * c ^ 3 + (S 4 : Rat) * c ^ 4) ((S 5 : Rat) * c ^ 5)
    have a3 := au_add ((S 0 : Rat) + (S 1 : Rat) * c + (S 2 : Rat) * c ^ 2 + (S 3 : Rat) * c ^ 3) ((S 4 : Rat) * c ^ 4)
    have a4 := au_add ((S 0 : Rat) + (S 1 : Rat) * c + (S 2 : Rat) * c ^ 2) ((S 3 : Rat) * c ^ 3)
    have a5 := au_add ((S 0 : Rat) + (S 1 : Rat) * c) ((S 2 : Rat) * c ^ 2)
    have a6 := au_add ((S 0 : Rat)) ((S 1 : Rat) * c)
    grind
  have T1 : ab (tY S c 1) ≤ 21 * Q := by
    have h0 := z 1 (by decide)
    have h1 := k 2 _ (by decide) (o 2 (by decide))
    have h2 := k 3 _ (by decide) (hb 3 2 (by decide) (by decide))
    have h3 := k 4 _ (by decide) (hb 4 3 (by decide) (by decide))
    have h4 := k 5 _ (by decide) (hb 5 4 (by decide) (by decide))
    have h5 := k 6 _ (by decide) (hb 6 5 (by decide) (by decide))
    unfold tY
    have a1 := au_add ((S 1 : Rat) + 2 * ((S 2 : Rat) * c) + 3 * ((S 3 : Rat) * c ^ 2) + 4 * ((S 4 : Rat) * c ^ 3) + 5 * ((S 5 : Rat) * c ^ 4)) (6 * ((S 6 : Rat) * c ^ 5))
    have a2 := au_add ((S 1 : Rat) + 2 * ((S 2 : Rat) * c) + 3 * ((S 3 : Rat) * c ^ 2) + 4 * ((S 4 : Rat) * c ^ 3)) (5 * ((S 5 : Rat) * c ^ 4))
    have a3 := au_add ((S 1 : Rat) + 2 * ((S 2 : Rat) * c) + 3 * ((S 3 : Rat) * c ^ 2)) (4 * ((S 4 : Rat) * c ^ 3))
    have a4 := au_add ((S 1 : Rat) + 2 * ((S 2 : Rat) * c)) (3 * ((S 3 : Rat) * c ^ 2))
    have a5 := au_add ((S 1 : Rat)) (2 * ((S 2 : Rat) * c))
    grind
  intro i hi
  refine Rat.le_trans ?_ hQ2
  rcases (show i = 0 ∨ i = 1 ∨ i = 2 ∨ i = 3 ∨ i = 4 ∨ i = 5 ∨ i = 6 by omega) with h | h | h | h | h | h | h <;> subst h <;> grind
/-- a node's numbers -/
theorem node_n {S q : Nat → Int} {g e : Nat} {lam c w : Rat} (hS : ∀ i, i < 7 → (S i).natAbs ≤ 2629737) (hg : g ≤ 6) (hl : 0 < lam) (hle : lam ≤ ((2 ^ e : Nat) : Rat)) (hw : 0 < w) (hw21 : w ≤ ((2 ^ 21 : Nat) : Rat)) (hc : ab c ≤ ((2 ^ 21 : Nat) : Rat)) (hq : ∀ y, raV (ivn (g + 1) q) y = lam * iv S (c + w * y)) : ∀ i, i < g + 1 → (q i).natAbs ≤ 2 ^ (e + 282) := by
  have hn := node_q hg hq
  have hT := tY_w hS hc
  intro i hi
  have h1 := hn i (by omega)
  rw [if_pos hi] at h1
  have hA1 : (1 : Rat) ≤ ((2 ^ 21 : Nat) : Rat) := Rat.natCast_le_natCast.mpr (show 1 ≤ 2 ^ 21 by decide)
  have hwi : w ^ i ≤ ((2 ^ 21 : Nat) : Rat) ^ 6 := by
    refine Rat.le_trans (pw_mono (Rat.le_of_lt hw) hw21 i) ?_
    have := pw_up hA1 (j := i) (6 - i)
    rwa [show i + (6 - i) = 6 by omega] at this
  have h2 : ab (q i : Rat) ≤ ((2 ^ e : Nat) : Rat) * ((2 ^ 21 : Nat) : Rat) ^ 6 * ((2 ^ 156 : Nat) : Rat) := by
    rw [h1]
    refine au_m (au_m ?_ ?_) (hT i (by omega))
    · rw [au_pos (Rat.le_of_lt hl)]; exact hle
    · rw [au_pos (pw_nn (Rat.le_of_lt hw) i)]; exact hwi
  rw [au_int, ← natR_pow, ← Rat.natCast_mul, ← Rat.natCast_mul] at h2
  have h3 := Rat.natCast_le_natCast.mp h2
  have e1 : 2 ^ e * (2 ^ 21) ^ 6 * 2 ^ 156 = 2 ^ (e + 282) := by
    rw [← Nat.pow_mul, ← Nat.pow_add, ← Nat.pow_add]
  rw [e1] at h3
  exact h3
theorem cw_n {q : Nat → Int} {g e : Nat} (hg : g ≤ 6) (h : ∀ i, i < g + 1 → (q i).natAbs ≤ 2 ^ e) (he : e + 8 < 1535) : ∀ j, j ≤ g → nC (cwQ q g j) := fun j hj => by
  rw [cwQ_all q hj]
  have h1 := suI_abs (fun i => q i * eQ g i j) (g + 1)
  have h2 : suN (fun i => (q i * eQ g i j).natAbs) (g + 1) ≤ suN (fun _ => 2 ^ e * 20) (g + 1) := suN_le (fun i hi => by
    rw [Int.natAbs_mul]
    have b := eQ_b (show g < 7 by omega) hj (show i ≤ g by omega)
    have n := (eQ_num g (by omega) j (by omega) hj).2.2
    exact Nat.mul_le_mul (h i hi) (by omega))
  rw [suN_c] at h2
  have h3 : (g + 1) * (2 ^ e * 20) ≤ 7 * (2 ^ e * 20) := Nat.mul_le_mul_right _ (by omega)
  have h4 : 7 * (2 ^ e * 20) < 2 ^ (e + 8) := by
    have : 0 < 2 ^ e := Nat.pow_pos (by decide)
    rw [Nat.pow_add]
    omega
  exact Nat.lt_of_le_of_lt h1 (Nat.lt_of_le_of_lt h2 (Nat.lt_of_le_of_lt h3 (Nat.lt_of_lt_of_le h4 (KN_le (by omega)))))
/-- the tree -/
theorem okT_all {S : Nat → Int} {g : Nat} (h : szB S) (co : copr S) (hg : stI S 7 = g + 1) : ∀ (f e : Nat) (q : Nat → Int) (a w lam : Rat), e + 6 * f ≤ 1038 → 0 < lam → lam ≤ ((2 ^ e : Nat) : Rat) → 0 < w → w ≤ ((2 ^ 21 : Nat) : Rat) → w * ((2 ^ 137 : Nat) : Rat) ≤ ((2 ^ f : Nat) : Rat) → ab a ≤ ((2 ^ 21 : Nat) : Rat) → ab (a + w) ≤ ((2 ^ 21 : Nat) : Rat) → (∀ y, raV (ivn (g + 1) q) y = lam * iv S (a + w * y)) → okT g (f + 1) q := by
  have h7 := stI_le S 7
  have hg6 : g ≤ 6 := by omega
  have hS := szB_m h
  have half : (0 : Rat) < 1 / 2 := by grind
  intro f
  induction f with
  | zero =>
    intro e q a w lam hef hl hle hw hw21 hwN ha haw hq
    exact ⟨cw_n hg6 (node_n hS hg6 hl hle hw hw21 ha hq) (by omega), fun c => absurd (node_end h co hg hl hw (by rw [Nat.pow_zero] at hwN; exact hwN) hq) c⟩
  | succ f ih =>
    intro e q a w lam hef hl hle hw hw21 hwN ha haw hq
    refine ⟨cw_n hg6 (node_n hS hg6 hl hle hw hw21 ha hq) (by omega), fun c => ?_⟩
    have hl2 : 0 < 2 ^ g * lam := Rat.mul_pos (two_pos g) hl
    have hle2 : 2 ^ g * lam ≤ ((2 ^ (e + 6) : Nat) : Rat) := by
      have g1 : (2 : Rat) ^ g ≤ 2 ^ 6 := by
        have := pw_up (a := 2) (by decide) (j := g) (6 - g)
        rwa [show g + (6 - g) = 6 by omega] at this
      have := rm_le (Rat.le_of_lt (two_pos g)) g1 (Rat.le_of_lt hl) hle
      rw [Nat.pow_add, Rat.natCast_mul, Rat.mul_comm ((2 ^ e : Nat) : Rat), natR_pow 2 6]
      exact this
    have hw2 : 0 < w * (1 / 2) := Rat.mul_pos hw half
    have hw221 : w * (1 / 2) ≤ ((2 ^ 21 : Nat) : Rat) := by grind
    have hwN2 : w * (1 / 2) * ((2 ^ 137 : Nat) : Rat) ≤ ((2 ^ f : Nat) : Rat) := by
      have e1 : ((2 ^ (f + 1) : Nat) : Rat) = 2 * ((2 ^ f : Nat) : Rat) := by
        rw [Nat.pow_succ, Rat.natCast_mul, Rat.mul_comm]; rfl
      rw [e1] at hwN
      generalize ((2 ^ 137 : Nat) : Rat) = N at *
      generalize ((2 ^ f : Nat) : Rat) = F at *
      grind
    have ham : ab (a + w * (1 / 2)) ≤ ((2 ^ 21 : Nat) : Rat) := by
      rw [au_le] at ha haw ⊢
      grind
    have hL : ∀ y, raV (ivn (g + 1) (hlQ g q)) y = 2 ^ g * lam * iv S (a + w * (1 / 2) * y) := fun y => by
      have := hlQ_V g q (y * (1 / 2)) (g + 1) (Nat.le_refl _)
      rw [show 2 * (y * (1 / 2)) = y by grind] at this
      rw [this, hq, show a + w * (y * (1 / 2)) = a + w * (1 / 2) * y by grind]; grind
    have hR : ∀ y, raV (ivn (g + 1) (hrQ g q)) y = 2 ^ g * lam * iv S (a + w * (1 / 2) + w * (1 / 2) * y) := fun y => by
      have := hrQ_V g q (y * (1 / 2))
      rw [show 2 * (y * (1 / 2)) = y by grind] at this
      rw [this, hq, show a + w * (y * (1 / 2) + 1 / 2) = a + w * (1 / 2) + w * (1 / 2) * y by grind]; grind
    have hr0 := node_n hS hg6 hl2 hle2 hw2 hw221 ham hR 0 (by omega)
    refine ⟨Nat.lt_of_le_of_lt hr0 (Nat.lt_of_lt_of_le (Nat.pow_lt_pow_right (by decide) (show e + 6 + 282 < 1500 by omega)) (KN_le (by decide))), ?_, ?_⟩
    · exact ih (e + 6) _ a (w * (1 / 2)) (2 ^ g * lam) (by omega) hl2 hle2 hw2 hw221 hwN2 ha ham hL
    · exact ih (e + 6) _ (a + w * (1 / 2)) (w * (1 / 2)) (2 ^ g * lam) (by omega) hl2 hle2 hw2 hw221 hwN2 ham (by rw [show a + w * (1 / 2) + w * (1 / 2) = a + w by grind]; exact haw) hR
