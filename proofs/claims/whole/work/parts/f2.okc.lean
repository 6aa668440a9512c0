/-! all sizes that the class asks for -/
def szB (r : Nat → Int) : Prop := zb r ∧ stI r 7 ≠ 0 ∧ ((∀ i, i < 7 → (r i).natAbs ≤ 9999) ∨ (stI r 7 ≤ 6 ∧ ∀ i, i < 7 → (r i).natAbs ≤ 2629737))
/-- a divisor of p -/
def dvP (p r : Nat → Int) : Prop := szB r ∧ ∃ u, isPo u ∧ ∀ x, iv p x = u x * iv r x
theorem dv_szB {p r : Nat → Int} {u : Rat → Rat} (hp : bnd9 p) (h0 : stI p 7 ≠ 0) (hz : zb r) (hr : isPr r) (hu : isPo u) (h : ∀ x, iv p x = u x * iv r x) : szB r := by
  have hr0 := pr_nz hr
  refine ⟨hz, hr0, ?_⟩
  by_cases c : stI r 7 ≤ 6
  · exact Or.inr ⟨c, dv_5 hp.1 h0 hr hu h c⟩
  · refine Or.inl (fun i hi => ?_)
    have hr7 := stI_le r 7
    have hp7 := stI_le p 7
    have hn := iv_nz h0
    rcases isPo_W hu with w | ⟨w, hw⟩
    · exact absurd (fun x => by rw [h, w]; grind) hn
    · have := raW_un (raW_eq (raW_mul hw (iv_W (p := r) (k := stI r 7 - 1) (by omega))) h) (iv_W (p := p) (k := stI p 7 - 1) (by omega))
      have hw0 : w = 0 := by omega
      rw [hw0] at hw
      obtain ⟨k, hk, h2⟩ := raW_0 hw
      exact Nat.le_trans (pr_le hr hk (fun x => by rw [h, h2]) i hi) (hp.1 i hi)
theorem dv_new {p r s : Nat → Int} {w : Rat → Rat} (hp : bnd9 p) (h0 : stI p 7 ≠ 0) (hd : dvP p r) (hz : zb s) (hs : isPr s) (hw : isPo w) (h : ∀ x, iv r x = w x * iv s x) : dvP p s := by
  obtain ⟨_, u, hu, h1⟩ := hd
  have e : ∀ x, iv p x = (u x * w x) * iv s x := fun x => by rw [h1, h]; grind
  exact ⟨dv_szB hp h0 hz hs (isPo_mul hu hw) e, _, isPo_mul hu hw, e⟩
theorem dv_rf {p : Nat → Int} (hp : bnd9 p) (h0 : stI p 7 ≠ 0) : dvP p p := ⟨⟨hp.2, h0, Or.inl hp.1⟩, fun _ => 1, isPo_c 1, fun x => by grind⟩
theorem dv_gcd {p r : Nat → Int} (hp : bnd9 p) (h0 : stI p 7 ≠ 0) (hd : dvP p r) : dvP p (gcdP r (derI r)) := by
  obtain ⟨h1, u, hu, h2⟩ := gcd_pr hd.1.2.1
  exact dv_new hp h0 hd (zb_gcdP hd.1.1 (zb_der r)) h1 hu h2
theorem dv_sqf {p r : Nat → Int} (hp : bnd9 p) (h0 : stI p 7 ≠ 0) (hd : dvP p r) : dvP p (sqfP r) := by
  obtain ⟨⟨u, c1, hc1, hu, h1, h2⟩, h3, _⟩ := sqf_all hd.1.2.1
  have hi := Rat.mul_inv_cancel c1 hc1
  refine dv_new hp h0 hd (zb_sqf r) h3 (isPo_s c1⁻¹ (isPo_iv (gcdP r (derI r)))) (fun x => ?_)
  rw [h1, h2]
  generalize c1⁻¹ = w at *
  generalize iv (gcdP r (derI r)) x = y
  have : w * y * (c1 * u x) = (c1 * w) * (y * u x) := by grind
  rw [this, hi]; grind
theorem stI_der {r : Nat → Int} (h0 : stI r 7 ≠ 0) : stI (derI r) 7 = stI r 7 - 1 := by
  have h7 := stI_le r 7
  have h1 : stI (derI r) 7 ≤ stI r 7 - 1 := stI_lt (fun i a b => by
    unfold derI
    split
    · rw [stI_z (p := r) (n := 7) (by omega) (by omega), Int.zero_mul]
    · rfl)
  by_cases c : stI r 7 = 1
  · omega
  · refine Nat.le_antisymm h1 (Nat.not_lt.mp (fun q => ?_))
    have h2 := stI_z (p := derI r) (n := 7) (j := stI r 7 - 2) (by omega) (by omega)
    unfold derI at h2
    rw [if_pos (by omega), show stI r 7 - 2 + 1 = stI r 7 - 1 by omega] at h2
    have h3 := stI_top (p := r) (n := 7) (by omega)
    rcases Int.mul_eq_zero.mp h2 with w | w
    · exact h3 w
    · omega
theorem bs_1 : ∀ a : Nat, a < 8 → ∀ D : Nat, D < 8 → 2 ≤ D → D ≤ a - 1 → ((a - 1 + 1 - D) * 9999 + (a + 1 - D) * 59994) ^ (a + (a - 1) + 2 - 2 * D) ≤ Tb D := by decide +kernel
theorem bs_2 : ∀ a : Nat, a < 7 → ∀ D : Nat, D < 8 → 2 ≤ D → D ≤ a - 1 → ((a - 1 + 1 - D) * 2629737 + (a + 1 - D) * 13148685) ^ (a + (a - 1) + 2 - 2 * D) ≤ Tb D := by decide +kernel
theorem bs_3q : ((List.range 8).all fun a => (List.range 8).all fun b => (List.range 8).all fun D => !(Nat.ble 2 D && Nat.ble D a && Nat.ble D b) || Nat.ble (((b + 1 - D) * 9999 + (a + 1 - D) * 9999) ^ (a + b + 2 - 2 * D)) (Tb D)) = true := by decide +kernel
theorem bs_3 {a b D : Nat} (ha : a < 8) (hb : b < 8) (hD : D < 8) (h1 : 2 ≤ D) (h2 : D ≤ a) (h3 : D ≤ b) : ((b + 1 - D) * 9999 + (a + 1 - D) * 9999) ^ (a + b + 2 - 2 * D) ≤ Tb D := by
  have h := List.all_eq_true.mp (List.all_eq_true.mp (List.all_eq_true.mp bs_3q a (List.mem_range.mpr ha)) b (List.mem_range.mpr hb)) D (List.mem_range.mpr hD)
  rw [Nat.ble_eq_true_of_le h1, Nat.ble_eq_true_of_le h2, Nat.ble_eq_true_of_le h3] at h
  exact Nat.le_of_ble_eq_true (by simpa using h)
theorem szB_bas {r : Nat → Int} (h : szB r) : bas (prm r) (prm (derI r)) := by
  obtain ⟨hz, h0, h⟩ := h
  have h7 := stI_le r 7
  have hd := stI_der h0
  have e1 := stI_prm r
  have e2 := stI_prm (derI r)
  have dl : ∀ K c : Nat, (∀ i, i < 7 → (r i).natAbs ≤ K) → (∀ i, i < 6 → r (i + 1) ≠ 0 → i + 1 ≤ c) → ∀ i, i < 7 → (prm (derI r) i).natAbs ≤ K * c := fun K c hK hc i hi => by
    refine Nat.le_trans (prm_le _ _) ?_
    unfold derI
    split
    · next q =>
      by_cases z : r (i + 1) = 0
      · rw [z, Int.zero_mul]; exact Nat.zero_le _
      · rw [Int.natAbs_mul]
        have := hc i q z
        exact Nat.mul_le_mul (hK _ (by omega)) (by omega)
    · exact Nat.zero_le _
  rcases h with h | ⟨h6, h⟩
  · have a1 : ∀ i, i < 7 → (prm r i).natAbs ≤ 9999 := fun i hi => Nat.le_trans (prm_le r i) (h i hi)
    have a2 := dl 9999 6 h (fun i hi _ => by omega)
    refine ⟨zb_prm hz, zb_prm (zb_der r), fun i hi => Nat.le_trans (a1 i hi) (by decide), fun i hi => Nat.le_trans (a2 i hi) (by decide), 9999, 59994, by decide, a1, a2, fun D d1 d2 d3 => ?_⟩
    rw [e1] at d2 ⊢
    rw [e2, hd] at d3 ⊢
    exact bs_1 _ (by omega) D (by omega) d1 d3
  · have a1 : ∀ i, i < 7 → (prm r i).natAbs ≤ 2629737 := fun i hi => Nat.le_trans (prm_le r i) (h i hi)
    have a2 := dl 2629737 5 h (fun i hi z => Classical.byContradiction (fun q => z (stI_z (n := 7) (by omega) (by omega))))
    refine ⟨zb_prm hz, zb_prm (zb_der r), fun i hi => Nat.le_trans (a1 i hi) (by decide), fun i hi => Nat.le_trans (a2 i hi) (by decide), 2629737, 13148685, by decide, a1, a2, fun D d1 d2 d3 => ?_⟩
    rw [e1] at d2 ⊢
    rw [e2, hd] at d3 ⊢
    exact bs_2 _ (by omega) D (by omega) d1 d3
theorem bnd_bas {p q : Nat → Int} (hp : bnd9 p) (hq : bnd9 q) : bas (prm p) (prm q) := by
  have a1 : ∀ i, i < 7 → (prm p i).natAbs ≤ 9999 := fun i hi => Nat.le_trans (prm_le p i) (hp.1 i hi)
  have a2 : ∀ i, i < 7 → (prm q i).natAbs ≤ 9999 := fun i hi => Nat.le_trans (prm_le q i) (hq.1 i hi)
  have p7 := stI_le p 7
  have q7 := stI_le q 7
  refine ⟨zb_prm hp.2, zb_prm hq.2, fun i hi => Nat.le_trans (a1 i hi) (by decide), fun i hi => Nat.le_trans (a2 i hi) (by decide), 9999, 9999, by decide, a1, a2, fun D d1 d2 d3 => ?_⟩
  rw [stI_prm] at d2 d3 ⊢
  rw [stI_prm]
  exact bs_3 (by omega) (by omega) (by omega) d1 d2 d3
theorem szB_m {r : Nat → Int} (h : szB r) : ∀ i, i < 7 → (r i).natAbs ≤ 2629737 := fun i hi => by
  rcases h.2.2 with q | ⟨_, q⟩
  · exact Nat.le_trans (q i hi) (by decide)
  · exact q i hi
theorem szB_D {r : Nat → Int} (h : szB r) (hg : szB (gcdP r (derI r))) : okD r := by
  have h0 := h.2.1
  have hb := szB_bas h
  have h7 := stI_le r 7
  refine ⟨chI_gcd 10000 _ _ (bas_sz hb ?_ (prz_prm _)), Or.inr (sqf_dg h0).2.1, 2629737, 2629737, szB_m h, szB_m hg, ?_⟩
  · rw [stI_prm, stI_prm, stI_der h0]; omega
  · refine Nat.lt_of_le_of_lt (Nat.mul_le_mul_left _ (Nat.pow_le_pow_right (by decide) (show stI r 7 + 1 - stI (gcdP r (derI r)) 7 ≤ 8 by omega))) ?_
    show 2629737 * (1 + 2629737) ^ 8 < (2 ^ 30) ^ 18
    decide +kernel
theorem dv_ok1 {p r : Nat → Int} (hp : bnd9 p) (h0 : stI p 7 ≠ 0) (hd : dvP p r) : ok1 r := by
  have hs := dv_sqf hp h0 hd
  have hg := dv_gcd hp h0 hd
  have b1 := szB_bas hd.1
  have b2 := szB_bas hs.1
  have m1 : ∀ i, i < 7 → (r i).natAbs ≤ 2 ^ 24 := fun i hi => Nat.le_trans (szB_m hd.1 i hi) (by decide)
  have m2 : ∀ i, i < 7 → (sqfP r i).natAbs ≤ 2 ^ 24 := fun i hi => Nat.le_trans (szB_m hs.1 i hi) (by decide)
  refine ⟨stm_W b1 hd.1.2.1 m1, stm_E b1 hd.1.2.1, szB_D hd.1 hg.1, stm_W b2 hs.1.2.1 m2, stm_E b2 hs.1.2.1, hs.1.2.1, fun i hi => Nat.le_trans (m1 i hi) ?_, stE_n0 hd.1.2.1, stE_n0 hs.1.2.1⟩
  show 2 ^ 24 ≤ 2 ^ 320
  exact Nat.pow_le_pow_right (by decide) (by decide)
theorem dv_okC {p : Nat → Int} (hp : bnd9 p) (h0 : stI p 7 ≠ 0) : ∀ (k : Nat) (r : Nat → Int), dvP p r → okC k r
  | 0, _, _ => trivial
  | k + 1, r, hd => ⟨hd.1.2.1, dv_ok1 hp h0 hd, dv_okC hp h0 k _ (dv_gcd hp h0 hd)⟩
/-- the class's sizes -/
theorem szAll : SzAll := ⟨fun p hp h0 => dv_okC hp h0 8 p (dv_rf hp h0), fun p q hp hq => gcd_sz (bnd_bas hp hq) (bnd_bas hq hp) (prz_prm _) (prz_prm _) 10000⟩
