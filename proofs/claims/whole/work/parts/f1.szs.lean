/-! the sizes of Euclid's and Sturm's sequences -/
/-- bounds of the element behind one with D coefficients -/
def Tb (D : Nat) : Nat := if D ≤ 2 then 2 ^ 236 else if D = 3 then 2 ^ 182 else if D = 4 then 2 ^ 131 else if D = 5 then 2 ^ 96 else if D = 6 then 2 ^ 62 else if D = 7 then 2 ^ 29 else 2 ^ 24
theorem Tb_s : ∀ D : Nat, D < 8 → Tb (D + 1) ≤ Tb D := by decide +kernel
theorem Tb_le {D : Nat} : ∀ k : Nat, D + k ≤ 8 → Tb (D + k) ≤ Tb D
  | 0, _ => Nat.le_refl _
  | k + 1, h => Nat.le_trans (Tb_s (D + k) (by omega)) (Tb_le k (by omega))
theorem Tb_an {D E : Nat} (h : D ≤ E) (hE : E ≤ 8) : Tb E ≤ Tb D := by
  have := Tb_le (D := D) (E - D) (by omega)
  rwa [show D + (E - D) = E by omega] at this
theorem Tb_24 {D : Nat} (hD : D ≤ 8) : 2 ^ 24 ≤ Tb D := Tb_an (D := D) (E := 8) hD (Nat.le_refl 8)
/-- what is asked of the first two -/
def bas (p q : Nat → Int) : Prop := zb p ∧ zb q ∧ (∀ i, i < 7 → (p i).natAbs ≤ 2 ^ 24) ∧ (∀ i, i < 7 → (q i).natAbs ≤ 2 ^ 24) ∧ ∃ K L : Nat, 1 ≤ K ∧ (∀ i, i < 7 → (p i).natAbs ≤ K) ∧ (∀ i, i < 7 → (q i).natAbs ≤ L) ∧ ∀ D, 2 ≤ D → D ≤ stI p 7 → D ≤ stI q 7 → ((stI q 7 + 1 - D) * K + (stI p 7 + 1 - D) * L) ^ (stI p 7 + stI q 7 + 2 - 2 * D) ≤ Tb D
/-- two neighbors and their sizes -/
def chI (p q f g : Nat → Int) : Prop := bas p q ∧ cfr p q f g ∧ prz g ∧ stI g 7 ≤ stI q 7 ∧ (∀ i, i < 7 → (f i).natAbs ≤ Tb (stI f 7 + 1)) ∧ ∀ i, i < 7 → (g i).natAbs ≤ Tb (stI f 7)
theorem cfr_lt {p q f g : Nat → Int} (h : cfr p q f g) : stI g 7 < stI f 7 ∧ stI f 7 ≤ stI p 7 := by
  obtain ⟨_, _, _, _, _, _, _, _, _, _, _, k7, _, _, k10⟩ := h
  exact ⟨k7, k10⟩
theorem chI_new {p q f g : Nat → Int} (hb : bas p q) (hc : cfr p q f g) (hz : prz g) (hf : ∀ i, i < 7 → (f i).natAbs ≤ Tb (stI f 7 + 1)) (hfq : stI f 7 ≤ stI q 7) : chI p q f g := by
  obtain ⟨b1, b2, b3, b4, K, L, k1, k2, k3, k4⟩ := id hb
  obtain ⟨h1, h2⟩ := cfr_lt hc
  refine ⟨hb, hc, hz, by omega, hf, fun i hi => ?_⟩
  rcases hz with hz | hz
  · have h3 := pr_nz hz
    exact Nat.le_trans (elt_sz b1 b2 k2 k3 k1 hc hz hfq i hi) (k4 _ (by omega) h2 hfq)
  · rw [stI_z (p := g) (n := 7) (by omega) hi]
    exact Nat.zero_le _
theorem chI_step {p q f g r r2 : Nat → Int} {e : Rat} (h : chI p q f g) (hg : stI g 7 ≠ 0) (hr : isRem r f g) (he : e ≠ 0) (h2 : ∀ x, iv r2 x = e * iv r x) (h3 : stI r2 7 = stI r 7) (hz : prz r2) : chI p q g r2 := by
  obtain ⟨hb, hc, _, h5, h6, h7⟩ := h
  have hf7 := stI_le f 7
  refine chI_new hb (cfr_step hc hg hr he h2 h3) hz (fun i hi => Nat.le_trans (h7 i hi) (Tb_an ?_ (by omega))) h5
  have := (cfr_lt hc).1
  omega
theorem pr_one {g : Nat → Int} (hz : prz g) (h1 : stI g 7 = 1) : ∀ i, i < 7 → (g i).natAbs ≤ 1 := by
  have hg : isPr g := hz.resolve_right (by omega)
  have hz0 : ∀ i, 1 ≤ i → i < 7 → g i = 0 := fun i a b => stI_z (n := 7) (by omega) b
  have h : cont g 7 = cont g 1 := cont_ext (G := 1) (by decide) hz0
  unfold isPr at hg
  rw [h, cont, cont, Nat.gcd_zero_left] at hg
  intro i hi
  by_cases c : i = 0
  · rw [c]; omega
  · rw [hz0 i (by omega) hi]; decide
theorem sz_num : ∀ D : Nat, D < 8 → Tb (D + 1) * 2 ^ D < BB ^ 18 := by
  show ∀ D : Nat, D < 8 → Tb (D + 1) * 2 ^ D < (2 ^ 30) ^ 18
  decide +kernel
theorem sz_num2 : ∀ D : Nat, D < 8 → 3 ≤ D → Tb (D + 1) * (2 * Tb D) ^ (D - 1) < BB ^ 18 := by
  show ∀ D : Nat, D < 8 → 3 ≤ D → Tb (D + 1) * (2 * Tb D) ^ (D - 1) < (2 ^ 30) ^ 18
  decide +kernel
theorem chI_sz {p q f g : Nat → Int} (h : chI p q f g) (hg : stI g 7 ≠ 0) : szOk f g := by
  obtain ⟨hb, hc, hz, h5, h6, h7⟩ := h
  have h1 := (cfr_lt hc).1
  have hf7 := stI_le f 7
  by_cases c : stI g 7 = 1
  · refine ⟨Tb (stI f 7 + 1), 1, h6, pr_one hz c, Nat.le_refl 1, ?_⟩
    rw [c, Nat.add_sub_cancel, Nat.mul_one]
    exact sz_num _ (by omega)
  · refine ⟨Tb (stI f 7 + 1), Tb (stI f 7), h6, h7, Nat.le_trans (by decide) (Tb_24 (D := stI f 7) (by omega)), ?_⟩
    refine Nat.lt_of_le_of_lt (Nat.mul_le_mul_left _ (Nat.pow_le_pow_right ?_ ?_)) (sz_num2 (stI f 7) (by omega) (by omega))
    · have := Tb_24 (D := stI f 7) (by omega)
      omega
    · omega
theorem chI_gcd {p q : Nat → Int} : ∀ (k : Nat) (f g : Nat → Int), chI p q f g → gcdOk k f g
  | 0, _, _, _ => trivial
  | k + 1, f, g, h => by
    by_cases c : stI g 7 = 0
    · exact Or.inl c
    · exact Or.inr ⟨chI_sz h c, chI_gcd k g _ (chI_step (e := 1) h c (prm_rem (red_rem c)) (by decide) (fun x => by grind) rfl (prz_prm _))⟩
theorem bas_sz {p q : Nat → Int} (hb : bas p q) (hlt : stI q 7 < stI p 7) (hz : prz q) : chI p q p q := by
  have hp7 := stI_le p 7
  exact ⟨hb, cfr_0 hlt, hz, Nat.le_refl _, fun i hi => Nat.le_trans (hb.2.2.1 i hi) (Tb_24 (by omega)), fun i hi => Nat.le_trans (hb.2.2.2.1 i hi) (Tb_24 (by omega))⟩
theorem sz_small {f g : Nat → Int} (hf : ∀ i, i < 7 → (f i).natAbs ≤ 2 ^ 24) (hg : ∀ i, i < 7 → (g i).natAbs ≤ 2 ^ 24) : szOk f g := by
  refine ⟨2 ^ 24, 2 ^ 24, hf, hg, by decide, ?_⟩
  have := stI_le f 7
  refine Nat.lt_of_le_of_lt (Nat.mul_le_mul_left _ (Nat.pow_le_pow_right (by decide) (show stI f 7 + 1 - stI g 7 ≤ 8 by omega))) ?_
  show 2 ^ 24 * (2 * 2 ^ 24) ^ 8 < (2 ^ 30) ^ 18
  decide +kernel
/-- Euclid's algorithm for two primitive polynomials -/
theorem gcd_sz {p q : Nat → Int} (hb : bas p q) (hb2 : bas q p) (hp : prz p) (hq : prz q) : ∀ k, gcdOk k p q := by
  have s1 := sz_small hb.2.2.1 hb.2.2.2.1
  intro k
  cases k with
  | zero => trivial
  | succ k =>
    by_cases c : stI q 7 = 0
    · exact Or.inl c
    · rcases Nat.lt_trichotomy (stI q 7) (stI p 7) with h | h | h
      · exact chI_gcd (k + 1) p q (bas_sz hb h hq)
      · refine Or.inr ⟨s1, chI_gcd (p := p) (q := q) k q _ ?_⟩
        have hq7 := stI_le q 7
        exact chI_new hb (cfr_eq (e := 1) c h.symm (prm_rem (red_rem c)) (by decide) (fun x => by grind) rfl) (prz_prm _) (fun i hi => Nat.le_trans (hb.2.2.2.1 i hi) (Tb_24 (by omega))) (Nat.le_refl _)
      · refine Or.inr ⟨s1, ?_⟩
        have e : ∀ i, i < 7 → prm (red p q) i = p i := by
          have r1 := prm_rem (red_rem (f := p) c)
          have r2 : isRem p p q := ⟨⟨1, fun _ => 0, by decide, isPo_c 0, fun x => by grind⟩, h⟩
          exact rem_uniq r1 r2 (prz_prm _) hp
        have e2 : prm (red p q) = p := zb_ext (zb_prm (zb_red hb.1)) hb.1 e
        rw [e2]
        exact chI_gcd k q p (bas_sz hb2 h hp)
/-- Sturm's sequence -/
theorem stm_ch {p : Nat → Int} (hb : bas (prm p) (prm (derI p))) (h0 : stI p 7 ≠ 0) : ∀ n, (∀ j, j ≤ n → stI (stE p j) 7 ≠ 0) → chI (prm p) (prm (derI p)) (stE p n) (stE p (n + 1))
  | 0, _ => bas_sz hb (stE_dec h0 0 (by rw [stE, stI_prm]; exact h0)) (prz_prm _)
  | n + 1, h => by
    have h1 := stm_ch hb h0 n (fun j hj => h j (by omega))
    have hg := h (n + 1) (Nat.le_refl _)
    refine chI_step (e := -1) h1 hg (prm_rem (red_rem hg)) (by decide) (fun x => ?_) ?_ (prz_prm _)
    · rw [stE, prm_neg, iv_neg]; grind
    · rw [stE, prm_neg, stI_neg]
theorem suN_at {f : Nat → Nat} : ∀ {n i : Nat}, i < n → f i ≤ suN f n
  | n + 1, i, h => by
    rw [suN]
    by_cases c : i = n
    · rw [c]; omega
    · have := suN_at (f := f) (n := n) (i := i) (by omega)
      omega
theorem stE_2 {p : Nat → Int} {j : Nat} (h : stI (stE p j) 7 = 0) : stI (stE p (j + 2)) 7 = 0 := by
  have e : red (stE p j) (stE p (j + 1)) = stE p j := by
    unfold red
    split
    · rfl
    · rw [h, Nat.zero_sub, redL]
  rw [stE, prm_neg, stI_neg, stI_prm, e]
  exact h
theorem stE_2k {p : Nat → Int} {j : Nat} (h : stI (stE p j) 7 = 0) : ∀ k, stI (stE p (j + 2 * k)) 7 = 0
  | 0 => h
  | k + 1 => stE_2 (stE_2k h k)
theorem stE_all {p : Nat → Int} {n : Nat} (h1 : stI (stE p n) 7 ≠ 0) (h2 : stI (stE p (n + 1)) 7 ≠ 0) : ∀ j, j ≤ n + 1 → stI (stE p j) 7 ≠ 0 := by
  intro j hj q
  have h := stE_2k q ((n + 1 - j) / 2)
  rcases (show j + 2 * ((n + 1 - j) / 2) = n ∨ j + 2 * ((n + 1 - j) / 2) = n + 1 by omega) with e | e
  · rw [e] at h; exact h1 h
  · rw [e] at h; exact h2 h
theorem stm_W {p : Nat → Int} (hb : bas (prm p) (prm (derI p))) (h0 : stI p 7 ≠ 0) (hp : ∀ i, i < 7 → (p i).natAbs ≤ 2 ^ 24) : okW p := by
  refine ⟨fun i hi => Nat.lt_of_le_of_lt (hp i hi) ?_, fun i hi => ?_, fun n hn hg => ?_⟩
  · show 2 ^ 24 < (2 ^ 30) ^ 18
    decide +kernel
  · rw [Int.natAbs_mul]
    have h1 := Nat.mul_le_mul (hp (i + 1) (by omega)) (show ((i : Int) + 1).natAbs ≤ 6 by omega)
    refine Nat.lt_of_le_of_lt h1 ?_
    show 2 ^ 24 * 6 < (2 ^ 30) ^ 18
    decide +kernel
  · by_cases c : stI (stE p n) 7 = 0
    · refine ⟨0, suN (fun i => (stE p (n + 1) i).natAbs) 7 + 1, fun i hi => ?_, fun i hi => ?_, by omega, ?_⟩
      · rw [stI_z (p := stE p n) (n := 7) (by omega) hi]; exact Nat.le_refl _
      · have := suN_at (f := fun i => (stE p (n + 1) i).natAbs) hi
        omega
      · rw [Nat.zero_mul]
        show 0 < (2 ^ 30) ^ 18
        decide
    · exact chI_sz (stm_ch hb h0 n (fun j hj => stE_all c hg j (by omega))) hg
theorem stm_E {p : Nat → Int} (hb : bas (prm p) (prm (derI p))) (h0 : stI p 7 ≠ 0) : okE p := by
  have hM := (stM_ok p).2.1
  have big : ∀ D, D ≤ 8 → Tb D ≤ MS := fun D hD => Nat.le_trans (Tb_an (D := 0) (E := D) (Nat.zero_le _) hD) (Nat.pow_le_pow_right (by decide) (show 236 ≤ 320 by decide))
  intro i hi t ht
  cases i with
  | zero => exact Nat.le_trans (hb.2.2.1 t ht) (Nat.le_trans (Tb_24 (Nat.le_refl 8)) (big 8 (Nat.le_refl 8)))
  | succ n =>
    obtain ⟨_, _, _, _, _, h7⟩ := stm_ch hb h0 n (fun j hj => hM j (by omega))
    have := stI_le (stE p n) 7
    exact Nat.le_trans (h7 t ht) (big _ (by omega))
