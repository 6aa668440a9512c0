/-! a narrow node has at most one sign change: the proof's end -/
def copr (S : Nat → Int) : Prop := ∃ (al be : Rat → Rat) (e : Rat), isPo al ∧ isPo be ∧ e ≠ 0 ∧ ∀ x, al x * iv S x + be x * iv (derI S) x = e
theorem copr_nz {S : Nat → Int} {g : Nat} (hg : stI S 7 = g + 1) (co : copr S) {A B : Rat → Rat} (hA : isPo A) (hB : raU g B) (h : ∀ x, A x * iv S x + B x * iv (derI S) x = 0) : (∀ x, A x = 0) ∧ ∀ x, B x = 0 := by
  obtain ⟨al, be, e, h1, h2, he, h3⟩ := co
  have hW := iv_W hg
  have e1 : ∀ x, e * B x = (al x * B x - be x * A x) * iv S x := fun x => by
    have a := h x
    rw [← h3 x]
    have : B x * iv (derI S) x = -(A x * iv S x) := by grind
    have : (al x * iv S x + be x * iv (derI S) x) * B x = al x * iv S x * B x + be x * (B x * iv (derI S) x) := by grind
    rw [this, ‹B x * iv (derI S) x = -(A x * iv S x)›]
    grind
  have hB0 : ∀ x, B x = 0 := by
    rcases isPo_W (isPo_sub (isPo_mul h1 (show isPo B from ⟨_, hB⟩)) (isPo_mul h2 hA)) with w | ⟨w, hw⟩
    · intro x
      have := e1 x
      rw [w, Rat.zero_mul] at this
      exact (Rat.mul_eq_zero.mp this).resolve_left he
    · have := raW_nU (raW_eq (raW_mul hw hW) e1) (raU_s e hB)
      omega
  refine ⟨ra_can (isPo_iv S) hA (isPo_c 0) (raW_n0 hW) (fun x => ?_), hB0⟩
  have := h x
  rw [hB0] at this
  grind
/-- the combination: a constant, or a power alone -/
theorem two_co {S : Nat → Int} {g K L : Nat} (hg : stI S 7 = g + 1) (hz : zb S) (h2 : 2 ≤ g) (co : copr S) (hK : ∀ i, i < 7 → (S i).natAbs ≤ K) (hL : ∀ i, i < 7 → (derI S i).natAbs ≤ L) (hK1 : 1 ≤ K) (b : Bool) : ∃ (x : Nat → Int) (C : Int), (∀ j, j < g - 1 + g → (x j).natAbs ≤ ((g - 1) * K + g * L) ^ (2 * g - 2)) ∧ C ≠ 0 ∧ ∀ y, (C : Rat) * y ^ (if b then 2 * g - 2 else 0) = raV (ivn (g - 1) x) y * iv S y + raV (ivn g (fun j => x (g - 1 + j))) y * iv (derI S) y := by
  have h7 := stI_le S 7
  have hd : stI (derI S) 7 = g := by rw [stI_der (by omega)]; omega
  have hpz : ∀ k, g + 1 ≤ k → S k = 0 := fun k hk => by
    by_cases c : k < 7
    · exact stI_z (n := 7) (by omega) c
    · exact hz k (by omega)
  have hqz : ∀ k, g ≤ k → derI S k = 0 := fun k hk => by
    by_cases c : k < 7
    · exact stI_z (n := 7) (by omega) c
    · exact zb_der S k (by omega)
  have hpK : ∀ k, (S k).natAbs ≤ K := fun k => by
    by_cases c : k < 7
    · exact hK k c
    · rw [hz k (by omega)]; exact Nat.zero_le _
  have hqL : ∀ k, (derI S k).natAbs ≤ L := fun k => by
    by_cases c : k < 7
    · exact hL k c
    · rw [zb_der S k (by omega)]; exact Nat.zero_le _
  have hR1 : 1 ≤ (g - 1) * K + g * L := by
    have := Nat.mul_le_mul (show 1 ≤ g - 1 by omega) hK1
    omega
  obtain ⟨x, C, ⟨j0, hj0, hx0⟩, hx1, hC, hV⟩ := comb (s := g - 1) (t := g) (m := 2 * g - 2) (n := 2 * g - 1) hpz hqz hpK hqL hR1 (by omega) (by omega) (by omega) (fun i => if b then i else i + 1)
  have hV2 : ∀ y, raV (ivn (2 * g - 1) C) y = raV (ivn (g - 1) x) y * iv S y + raV (ivn g (fun j => x (g - 1 + j))) y * iv (derI S) y := fun y => by
    rw [hV]
    unfold iv
    rw [ivn_st S y 7, ivn_st (derI S) y 7, hg, hd]
  have e : ∃ C0 : Int, ∀ y, raV (ivn (2 * g - 1) C) y = (C0 : Rat) * y ^ (if b then 2 * g - 2 else 0) := by
    cases b with
    | true =>
      refine ⟨C (2 * g - 2), fun y => ?_⟩
      have h1 := ivn_cut (p := C) (k := 0) y (2 * g - 2) (fun i _ hi => by have := hC i (by omega); simpa using this)
      rw [Nat.zero_add, ivn_0] at h1
      rw [show 2 * g - 1 = 2 * g - 2 + 1 by omega, ivn_s, h1, if_pos rfl]
      grind
    | false =>
      refine ⟨C 0, fun y => ?_⟩
      have h1 := ivn_cut (p := C) (k := 1) y (2 * g - 2) (fun i a hi => by
        have := hC (i - 1) (by omega)
        simp only [Bool.false_eq_true, if_false] at this
        rwa [show i - 1 + 1 = i by omega] at this)
      rw [show 2 * g - 1 = 1 + (2 * g - 2) by omega, h1, ivn_s, ivn_0]
      simp only [Bool.false_eq_true, if_false]
      grind
  obtain ⟨C0, hC0⟩ := e
  refine ⟨x, C0, hx1, fun q => ?_, fun y => by rw [← hC0, hV2]⟩
  have hz0 := copr_nz hg co (A := raV (ivn (g - 1) x)) (B := raV (ivn g (fun j => x (g - 1 + j)))) ⟨_, raU_l _⟩ (raU_up (raU_l _) (by rw [ivn_len]; exact Nat.le_refl _)) (fun y => by rw [← hV2, hC0, q, Rat.intCast_zero, Rat.zero_mul])
  by_cases c : j0 < g - 1
  · exact ivn_nz c hx0 hz0.1
  · refine ivn_nz (A := fun j => x (g - 1 + j)) (j := j0 - (g - 1)) (by omega) (fun w => hx0 ?_) hz0.2
    rw [← w, show g - 1 + (j0 - (g - 1)) = j0 by omega]
theorem pw_1 {a : Rat} (h0 : 0 ≤ a) (h1 : a ≤ 1) : ∀ n : Nat, a ^ n ≤ 1
  | 0 => by rw [Rat.pow_zero]; exact Rat.le_refl
  | n + 1 => by
    rw [Rat.pow_succ]
    have hp : 0 ≤ a ^ n := by
      clear h1
      induction n with
      | zero => rw [Rat.pow_zero]; decide
      | succ n ih => rw [Rat.pow_succ]; exact Rat.mul_nonneg ih h0
    have := rm_le hp (pw_1 h0 h1 n) h0 h1
    grind
theorem pw_nn {a : Rat} (h0 : 0 ≤ a) : ∀ n : Nat, 0 ≤ a ^ n
  | 0 => by rw [Rat.pow_zero]; decide
  | n + 1 => by rw [Rat.pow_succ]; exact Rat.mul_nonneg (pw_nn h0 n) h0
theorem pw_ge {a : Rat} (h1 : 1 ≤ a) : ∀ n : Nat, 1 ≤ a ^ n
  | 0 => by rw [Rat.pow_zero]; exact Rat.le_refl
  | n + 1 => by
    rw [Rat.pow_succ]
    have := rm_le (show (0 : Rat) ≤ 1 by decide) (pw_ge h1 n) (show (0 : Rat) ≤ 1 by decide) h1
    grind
theorem pw_up {a : Rat} (h1 : 1 ≤ a) {j : Nat} : ∀ k : Nat, a ^ j ≤ a ^ (j + k)
  | 0 => Rat.le_refl
  | k + 1 => by
    refine Rat.le_trans (pw_up h1 k) ?_
    rw [← Nat.add_assoc, Rat.pow_succ]
    have := rm_le (pw_nn (a := a) (by grind) (j + k)) Rat.le_refl (show (0 : Rat) ≤ 1 by decide) h1
    grind
theorem dep_num {X K N w P F : Rat} (hP : 1 ≤ P) (hX : 0 ≤ X) (hK : 0 ≤ K) (hw : 0 < w) (hwN : w * N ≤ 1) (hN : 0 < N) (h1 : P * P ≤ F) (h2 : F ≤ 4000 * (36 * (X * P) * (w * (w * (99 * (K * P)))))) : N * N ≤ 14256000 * (X * K) := by
  have hPP : 0 < P * P := Rat.mul_pos (by grind) (by grind)
  have e : 4000 * (36 * (X * P) * (w * (w * (99 * (K * P))))) = 14256000 * (X * K) * (w * w) * (P * P) := by grind
  rw [e] at h2
  have h3 : 1 ≤ 14256000 * (X * K) * (w * w) := rc_le hPP (by have := Rat.le_trans h1 h2; grind)
  have hXK : 0 ≤ 14256000 * (X * K) := Rat.mul_nonneg (by decide) (Rat.mul_nonneg hX hK)
  have hwn := Rat.mul_pos hw hN
  have h4 : w * N * (w * N) ≤ 1 * 1 := rm_le (Rat.le_of_lt hwn) hwN (Rat.le_of_lt hwn) hwN
  have h5 := rm_le hXK Rat.le_refl (Rat.mul_nonneg (Rat.le_of_lt hwn) (Rat.le_of_lt hwn)) h4
  have h6 := rm_le (show (0 : Rat) ≤ 1 by decide) h3 (show 0 ≤ N * N from Rat.le_of_lt (Rat.mul_pos hN hN)) Rat.le_refl
  grind
theorem depth_main {S : Nat → Int} {g K L : Nat} (hg : stI S 7 = g + 1) (hz : zb S) (h2 : 2 ≤ g) (co : copr S) (hK : ∀ i, i < 7 → (S i).natAbs ≤ K) (hL : ∀ i, i < 7 → (derI S i).natAbs ≤ L) (hK1 : 1 ≤ K) {N : Nat} (hN : 0 < N) (hnum : 14256000 * (((g - 1) * K + g * L) ^ (2 * g - 2) * K) < N * N) {q : Nat → Int} {lam c w : Rat} (hl : 0 < lam) (hw : 0 < w) (hwN : w * (N : Rat) ≤ 1) (hq : ∀ y, raV (ivn (g + 1) q) y = lam * iv S (c + w * y)) : cwN q g < 2 := by
  refine Classical.byContradiction (fun hn => ?_)
  have h7 := stI_le S 7
  have hN1 : (1 : Rat) ≤ (N : Rat) := by
    have := Rat.natCast_le_natCast.mpr (show 1 ≤ N by omega)
    exact this
  have hw1 : w ≤ 1 := by
    have := rm_le (Rat.le_of_lt hw) Rat.le_refl (show (0 : Rat) ≤ 1 by decide) hN1
    grind
  obtain ⟨n0, n1⟩ := node_2 (S := S) (by omega) h2 hl hw hq (by omega)
  obtain ⟨X, hX⟩ : ∃ X, X = ((g - 1) * K + g * L) ^ (2 * g - 2) := ⟨_, rfl⟩
  obtain ⟨sg, hsg⟩ : ∃ sg, sg = ab (tY S c 2) + w * ab (tY S c 3) + w ^ 2 * ab (tY S c 4) + w ^ 3 * ab (tY S c 5) + w ^ 4 * ab (tY S c 6) := ⟨_, rfl⟩
  rw [← hsg] at n0 n1
  have fin : ∀ (b : Bool) (P : Rat), 1 ≤ P → (∀ j, j < g → ab c ^ j ≤ P) → P * P ≤ ab c ^ (if b then 2 * g - 2 else 0) → (b = true → 1 ≤ ab c) → False := by
    intro b P hP1 hPj hPP hb
    obtain ⟨x, C, hx, hC0, hV⟩ := two_co hg hz h2 co hK hL hK1 b
    rw [← hX] at hx
    have hP0 : 0 ≤ P := by grind
    have hXr : (0 : Rat) ≤ (X : Rat) := Rat.natCast_nonneg
    have hKr : (0 : Rat) ≤ (K : Rat) := Rat.natCast_nonneg
    have hXP := Rat.mul_nonneg hXr hP0
    have cA : ∀ n : Nat, n ≤ 6 → (n : Rat) * ((X : Rat) * P) ≤ 36 * ((X : Rat) * P) ∧ (n : Rat) * (6 * ((X : Rat) * P)) ≤ 36 * ((X : Rat) * P) := fun n hn => by
      have h1 : (n : Rat) ≤ 6 := Rat.natCast_le_natCast.mpr hn
      have h0 : (0 : Rat) ≤ (n : Rat) := Rat.natCast_nonneg
      have a1 := rm_le h0 h1 hXP Rat.le_refl
      exact ⟨by grind, by grind⟩
    have a0 : ab (raV (ivn (g - 1) x) c) ≤ 36 * ((X : Rat) * P) := Rat.le_trans (iv_bd (g - 1) (fun j hj => hx j (by omega)) (fun j hj => hPj j (by omega))) (cA (g - 1) (by omega)).1
    have b0 : ab (raV (ivn g (fun j => x (g - 1 + j))) c) ≤ 36 * ((X : Rat) * P) := Rat.le_trans (iv_bd g (fun j hj => hx _ (by omega)) (fun j hj => hPj j hj)) (cA g (by omega)).1
    obtain ⟨EA, dA, a1⟩ := iv_bdD (x := x) (X := X) (P := P) (c := c) hP0 (g - 1) (by omega) (fun j hj => hx j (by omega)) (fun j hj => hPj j (by omega))
    obtain ⟨EB, dB, b1⟩ := iv_bdD (x := fun j => x (g - 1 + j)) (X := X) (P := P) (c := c) hP0 g (by omega) (fun j hj => hx _ (by omega)) (fun j hj => hPj j hj)
    have a1 := Rat.le_trans a1 (cA (g - 1) (by omega)).2
    have b1 := Rat.le_trans b1 (cA g (by omega)).2
    have dF := Dv_add (Dv_mul dA (Dv_iv S)) (Dv_mul dB (Dv_iv (derI S)))
    have hF : (C : Rat) * c ^ (if b then 2 * g - 2 else 0) = raV (ivn (g - 1) x) c * tY S c 0 + raV (ivn g (fun j => x (g - 1 + j))) c * tY S c 1 := by rw [hV, tY_0, tY_1]
    have hkap : ∃ kap : Rat, ab kap ≤ 10 ∧ EA c * tY S c 0 + raV (ivn (g - 1) x) c * tY S c 1 + EB c * tY S c 1 + raV (ivn g (fun j => x (g - 1 + j))) c * (2 * tY S c 2) = kap * ((C : Rat) * c ^ (if b then 2 * g - 2 else 0)) := by
      cases b with
      | false =>
        have dG : Dv (fun y => (C : Rat) * y ^ (if false = true then 2 * g - 2 else 0)) (fun _ => 0) := Dv_eq (Dv_c (C : Rat)) (fun y => by simp only [Bool.false_eq_true, if_false]; rw [Rat.pow_zero]; grind)
        have h1 := Dv_un dF dG (fun y => (hV y).symm) c
        (try dsimp only at h1)
        rw [tY_2, ← tY_0, ← tY_1] at *
        exact ⟨0, by rw [au_0]; decide, by grind⟩
      | true =>
        have hc1 := hb rfl
        have hc0 : c ≠ 0 := fun z => by rw [z, au_0] at hc1; exact absurd hc1 (by decide)
        have hci := Rat.mul_inv_cancel c hc0
        obtain ⟨n, hn⟩ : ∃ n, 2 * g - 2 = n + 1 := ⟨2 * g - 3, by omega⟩
        have dG : Dv (fun y => (C : Rat) * y ^ (if true = true then 2 * g - 2 else 0)) (fun y => (C : Rat) * (((n : Rat) + 1) * y ^ n)) := Dv_eq (Dv_s (C : Rat) (Dv_pw n)) (fun y => by rw [if_pos rfl, hn])
        have h1 := Dv_un dF dG (fun y => (hV y).symm) c
        (try dsimp only at h1)
        refine ⟨((n : Rat) + 1) * c⁻¹, ?_, ?_⟩
        · have i1 : ab c * ab c⁻¹ = 1 := by rw [← au_mul, hci]; exact au_pos (by decide)
          have i2 : ab c⁻¹ ≤ 1 := by
            have := rm_le (show (0 : Rat) ≤ 1 by decide) hc1 (au_nn c⁻¹) Rat.le_refl
            grind
          have i3 : ab ((n : Rat) + 1) ≤ 10 := by
            rw [← ra_c1, au_pos Rat.natCast_nonneg]
            exact Rat.natCast_le_natCast.mpr (show n + 1 ≤ 10 by omega)
          have := au_m i3 i2
          grind
        · rw [if_pos rfl, hn, Rat.pow_succ]
          have k1 : ((n : Rat) + 1) * c⁻¹ * ((C : Rat) * (c ^ n * c)) = (C : Rat) * (((n : Rat) + 1) * c ^ n) * (c * c⁻¹) := by
            generalize c⁻¹ = v
            generalize c ^ n = u
            grind
          rw [k1, hci, Rat.mul_one, ← h1, tY_2, ← tY_0, ← tY_1]
          grind
    obtain ⟨kap, hk, hD⟩ := hkap
    have hS : ∀ t j, j + 1 ≤ t → t ≤ 6 → ab ((S t : Rat) * c ^ j) ≤ (K : Rat) * P := fun t j h1 h3 => by
      by_cases z : t ≤ g
      · refine au_m (by rw [au_int]; exact Rat.natCast_le_natCast.mpr (hK t (by omega))) ?_
        rw [au_pow]
        exact hPj j (by omega)
      · have : S t = 0 := stI_z (n := 7) (by omega) (by omega)
        rw [this, Rat.intCast_zero, Rat.zero_mul, au_0]
        exact Rat.mul_nonneg hKr hP0
    have hM := tY_b hS
    have t2 := au_nn (tY S c 2)
    have t3 := au_nn (tY S c 3)
    have t4 := au_nn (tY S c 4)
    have t5 := au_nn (tY S c 5)
    have t6 := au_nn (tY S c 6)
    have hw0 := Rat.le_of_lt hw
    have p : ∀ (i : Nat) (a : Rat), 0 ≤ a → 0 ≤ w ^ i * a ∧ w ^ i * a ≤ a := fun i a ha => by
      have a1 := rm_le (pw_nn hw0 i) (pw_1 hw0 hw1 i) ha Rat.le_refl
      exact ⟨Rat.mul_nonneg (pw_nn hw0 i) ha, by grind⟩
    have m3 := p 0 _ t3
    have m4 := p 1 _ t4
    have m5 := p 2 _ t5
    have m6 := p 3 _ t6
    have v3 := p 1 _ t3
    have v4 := p 2 _ t4
    have v5 := p 3 _ t5
    have v6 := p 4 _ t6
    have w1 : w ^ 1 = w := by rw [Rat.pow_succ, Rat.pow_zero]; grind
    rw [w1] at m4 v3
    have hsg0 : 0 ≤ sg := by rw [hsg]; grind
    have hsgM : sg ≤ 99 * ((K : Rat) * P) := by rw [hsg]; grind
    have hsg2 : sg ≤ ab (tY S c 2) + w * (99 * ((K : Rat) * P)) := by
      have e : sg = ab (tY S c 2) + w * (ab (tY S c 3) + w * ab (tY S c 4) + w ^ 2 * ab (tY S c 5) + w ^ 3 * ab (tY S c 6)) := by
        rw [hsg]
        generalize ab (tY S c 2) = x2
        generalize ab (tY S c 3) = x3
        generalize ab (tY S c 4) = x4
        generalize ab (tY S c 5) = x5
        generalize ab (tY S c 6) = x6
        grind
      have := rm_le hw0 Rat.le_refl (show 0 ≤ ab (tY S c 3) + w * ab (tY S c 4) + w ^ 2 * ab (tY S c 5) + w ^ 3 * ab (tY S c 6) by grind) (show ab (tY S c 3) + w * ab (tY S c 4) + w ^ 2 * ab (tY S c 5) + w ^ 3 * ab (tY S c 6) ≤ 99 * ((K : Rat) * P) by grind)
      rw [e]
      grind
    have hNF := near hF hD hk a0 a1 b0 b1 hw hw1 hsg0 n0 n1 hsg2 hsgM
    have hF1 : P * P ≤ ab ((C : Rat) * c ^ (if b then 2 * g - 2 else 0)) := by
      rw [au_mul, au_pow, au_int]
      have h1 : (1 : Rat) ≤ (C.natAbs : Rat) := Rat.natCast_le_natCast.mpr (show 1 ≤ C.natAbs by omega)
      have := rm_le (show (0 : Rat) ≤ 1 by decide) h1 (Rat.mul_nonneg hP0 hP0) hPP
      grind
    have hNr : (0 : Rat) < (N : Rat) := by grind
    have hE := dep_num hP1 hXr hKr hw hwN hNr hF1 hNF
    have hE2 : ((N * N : Nat) : Rat) ≤ ((14256000 * (X * K) : Nat) : Rat) := by
      rw [Rat.natCast_mul, Rat.natCast_mul, Rat.natCast_mul]
      exact hE
    have := Rat.natCast_le_natCast.mp hE2
    rw [hX] at this
    omega
  rcases ra_lt_or (ab c) 1 with a | a
  · refine fin false 1 Rat.le_refl (fun j _ => pw_1 (au_nn c) (Rat.le_of_lt a) j) ?_ (fun q => by cases q)
    simp only [Bool.false_eq_true, if_false]
    rw [Rat.pow_zero]; grind
  · refine fin true (ab c ^ (g - 1)) (pw_ge a _) (fun j hj => ?_) ?_ (fun _ => a)
    · have := pw_up a (j := j) (g - 1 - j)
      rwa [show j + (g - 1 - j) = g - 1 by omega] at this
    · rw [if_pos rfl, show 2 * g - 2 = g - 1 + (g - 1) by omega, pow_addR]
      exact Rat.le_refl
