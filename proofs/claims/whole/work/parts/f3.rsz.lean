/-! the sizes that the reference asks for, but those of its tree -/
theorem KN_big : 2 ^ 1535 = KN := by
  unfold KN
  show 2 ^ 1535 = 2 ^ 31 * (2 ^ 32) ^ 47
  rw [← Nat.pow_mul, ← Nat.pow_add]
theorem KN_le {a : Nat} (h : a ≤ 1535) : 2 ^ a ≤ KN := by
  rw [← KN_big]
  exact Nat.pow_le_pow_right (by decide) h
theorem BB_18 : BB ^ 18 = 2 ^ 540 := by
  show (2 ^ 30) ^ 18 = 2 ^ 540
  rw [← Nat.pow_mul]
theorem BB_KN : BB ^ 18 ≤ KN := by
  rw [BB_18]
  exact KN_le (by decide)
theorem Tb_KN {D : Nat} (hD : D ≤ 8) : Tb D < KN := by
  refine Nat.lt_of_le_of_lt (Tb_an (D := 0) (Nat.zero_le D) hD) (Nat.lt_of_lt_of_le (m := 2 ^ 237) ?_ (KN_le (by decide)))
  show 2 ^ 236 < 2 ^ 237
  decide +kernel
theorem s24_KN : 2 ^ 24 < KN := Nat.lt_of_lt_of_le (m := 2 ^ 25) (by decide) (KN_le (by decide))
theorem pC_le {f : Nat → Int} {F : Nat} (h : ∀ i, i < 7 → (f i).natAbs ≤ F) (hF : F < KN) : pC f := fun i hi => Nat.lt_of_le_of_lt (h i hi) hF
theorem rm_sz {g : Nat → Int} {H : Nat} (hg : ∀ i, i < 7 → (g i).natAbs ≤ H) (hH : 1 ≤ H) (hg0 : stI g 7 ≠ 0) : ∀ (n : Nat) (f : Nat → Int) (F : Nat), (∀ i, i < 7 → (f i).natAbs ≤ F) → F * (2 * H) ^ (stI f 7 + 1 - stI g 7) < KN → rmOk n f g
  | 0, f, F, hf, h => pC_le hf (Nat.lt_of_le_of_lt (by
      have := Nat.mul_le_mul_left F (Nat.pow_pos (n := stI f 7 + 1 - stI g 7) (show 0 < 2 * H by omega))
      omega) h)
  | n + 1, f, F, hf, h => by
    refine ⟨pC_le hf (Nat.lt_of_le_of_lt (by
      have := Nat.mul_le_mul_left F (Nat.pow_pos (n := stI f 7 + 1 - stI g 7) (show 0 < 2 * H by omega))
      omega) h), fun c => ?_⟩
    have hg7 := stI_le g 7
    have hf7 := stI_le f 7
    have h2 : ∀ i, i < 7 → (rmS f g i).natAbs ≤ F * (2 * H) := redS_le hf hg (by omega) (by omega) (by omega) hH
    have h3 := (rmS_iv (f := f) hg0 (by omega)).2
    have h4 : F * (2 * H) * (2 * H) ^ (stI f 7 - stI g 7) < KN := by
      rw [Nat.mul_assoc, Nat.mul_comm (2 * H), ← Nat.pow_succ]
      rwa [show stI f 7 + 1 - stI g 7 = stI f 7 - stI g 7 + 1 by omega] at h
    refine ⟨pC_le h2 (Nat.lt_of_le_of_lt (by
      have := Nat.mul_le_mul_left (F * (2 * H)) (Nat.pow_pos (n := stI f 7 - stI g 7) (show 0 < 2 * H by omega))
      omega) h4), rm_sz hg hH hg0 n _ (F * (2 * H)) (fun i hi => Nat.le_trans (prm_le _ _) (h2 i hi)) (Nat.lt_of_le_of_lt (Nat.mul_le_mul_left _ (Nat.pow_le_pow_right (by omega) (by omega))) h4)⟩
theorem rm_of {f g : Nat → Int} (h : szOk f g) (hg0 : stI g 7 ≠ 0) (n : Nat) : rmOk n f g := by
  obtain ⟨F, H, h1, h2, h3, h4⟩ := h
  exact rm_sz h2 h3 hg0 n f F h1 (Nat.lt_of_lt_of_le h4 BB_KN)
theorem rm_pC : ∀ (n : Nat) (f g : Nat → Int), rmOk n f g → pC (rmF n f g)
  | 0, _, _, h => h
  | n + 1, f, g, h => by
    rw [rmF]
    split
    · exact h.1
    · next c => exact rm_pC n _ _ (h.2 c).2
theorem chI_pC {p q f g : Nat → Int} (h : chI p q f g) : pC f ∧ pC g := by
  obtain ⟨_, hc, _, _, h6, h7⟩ := h
  have := stI_le f 7
  exact ⟨pC_le h6 (Tb_KN (by omega)), pC_le h7 (Tb_KN (by omega))⟩
theorem chI_rm {p q f g : Nat → Int} (h : chI p q f g) (hg : stI g 7 ≠ 0) : chI p q g (rmF 8 f g) := by
  have hf7 := stI_le f 7
  have h1 := rmF_rem 8 f g hg (by omega)
  refine chI_step (e := 1) h hg h1.1 (by decide) (fun x => by grind) rfl (h1.2 ?_)
  have := (cfr_lt h.2.1).1
  omega
theorem chI_gc {p q : Nat → Int} : ∀ (n : Nat) (f g : Nat → Int), chI p q f g → gcOk n f g
  | 0, _, _, h => chI_pC h
  | n + 1, f, g, h => ⟨(chI_pC h).1, (chI_pC h).2, fun hg => ⟨rm_of (chI_sz h hg) hg 8, chI_gc n _ _ (chI_rm h hg)⟩⟩
theorem gc_new {f g : Nat → Int} (hb : bas f g) (h : stI g 7 ≤ stI f 7) : gcOk 8 f g := by
  have s1 := sz_small hb.2.2.1 hb.2.2.2.1
  have p1 := pC_le hb.2.2.1 s24_KN
  have p2 := pC_le hb.2.2.2.1 s24_KN
  refine ⟨p1, p2, fun hg => ⟨rm_of s1 hg 8, chI_gc (p := f) (q := g) 7 _ _ ?_⟩⟩
  have hf7 := stI_le f 7
  have hg7 := stI_le g 7
  have h1 := rmF_rem 8 f g hg (by omega)
  have hz := h1.2 h
  have hf : ∀ i, i < 7 → (g i).natAbs ≤ Tb (stI g 7 + 1) := fun i hi => Nat.le_trans (hb.2.2.2.1 i hi) (Tb_24 (by omega))
  rcases Nat.lt_or_eq_of_le h with c | c
  · exact chI_new hb (cfr_step (e := 1) (cfr_0 c) hg h1.1 (by decide) (fun x => by grind) rfl) hz hf (Nat.le_refl _)
  · exact chI_new hb (cfr_eq (e := 1) hg c.symm h1.1 (by decide) (fun x => by grind) rfl) hz hf (Nat.le_refl _)
theorem gcF_pC : ∀ (n : Nat) (f g : Nat → Int), gcOk n f g → pC (gcF n f g)
  | 0, _, _, h => h.1
  | n + 1, f, g, h => by
    rw [gcF]
    split
    · exact h.1
    · next c => exact gcF_pC n _ _ (h.2.2 c).2
theorem gcR_ok {f g : Nat → Int} (hb : bas f g) (hb2 : bas g f) : gcRok f g ∧ pC (gcR f g) := by
  have key : ∀ d, pC d → pC (mkpos (prm d)) := fun d hd i hi => by
    have h1 := pC_prm hd i hi
    unfold mkpos nC at *
    split
    · rw [Int.natAbs_neg]; exact h1
    · exact h1
  unfold gcRok gcR
  split
  · have := gc_new hb2 (by omega)
    exact ⟨this, key _ (gcF_pC _ _ _ this)⟩
  · have := gc_new hb (by omega)
    exact ⟨this, key _ (gcF_pC _ _ _ this)⟩
theorem bas_9 {p q : Nat → Int} (hp : bnd9 p) (hq : bnd9 q) : bas p q := by
  have p7 := stI_le p 7
  have q7 := stI_le q 7
  exact ⟨hp.2, hq.2, fun i hi => Nat.le_trans (hp.1 i hi) (by decide), fun i hi => Nat.le_trans (hq.1 i hi) (by decide), 9999, 9999, by decide, hp.1, hq.1, fun D d1 d2 d3 => bs_3 (by omega) (by omega) (by omega) d1 d2 d3⟩
theorem szB_d {r : Nat → Int} (h : szB r) : ∀ i, i < 7 → (derI r i).natAbs ≤ 2 ^ 24 := fun i hi => by
  unfold derI
  split
  · have h1 := szB_m h (i + 1) (by omega)
    rw [Int.natAbs_mul]
    have := Nat.mul_le_mul h1 (show ((i : Int) + 1).natAbs ≤ 6 by omega)
    exact Nat.le_trans this (by decide)
  · exact Nat.zero_le _
theorem szB_bas0 {r : Nat → Int} (h : szB r) : bas r (derI r) := by
  have hd := stI_der h.2.1
  have h7 := stI_le r 7
  have m1 : ∀ i, i < 7 → (r i).natAbs ≤ 2 ^ 24 := fun i hi => Nat.le_trans (szB_m h i hi) (by decide)
  have m2 := szB_d h
  obtain ⟨hz, h0, h⟩ := h
  have dl : ∀ K c : Nat, (∀ i, i < 7 → (r i).natAbs ≤ K) → (∀ i, i < 6 → r (i + 1) ≠ 0 → i + 1 ≤ c) → ∀ i, i < 7 → (derI r i).natAbs ≤ K * c := fun K c hK hc i hi => by
    unfold derI
    split
    · next q =>
      by_cases z : r (i + 1) = 0
      · rw [z, Int.zero_mul]; exact Nat.zero_le _
      · rw [Int.natAbs_mul]
        have := hc i q z
        exact Nat.mul_le_mul (hK _ (by omega)) (by omega)
    · exact Nat.zero_le _
  rcases h with h | ⟨h6, h⟩
  · refine ⟨hz, zb_der r, m1, m2, 9999, 59994, by decide, h, dl 9999 6 h (fun i hi _ => by omega), fun D d1 d2 d3 => ?_⟩
    rw [hd] at d3 ⊢
    exact bs_1 _ (by omega) D (by omega) d1 d3
  · refine ⟨hz, zb_der r, m1, m2, 2629737, 13148685, by decide, h, dl 2629737 5 h (fun i hi z => Classical.byContradiction (fun q => z (stI_z (n := 7) (by omega) (by omega)))), fun D d1 d2 d3 => ?_⟩
    rw [hd] at d3 ⊢
    exact bs_2 _ (by omega) D (by omega) d1 d3
theorem gcR_okd {r : Nat → Int} (h : szB r) : gcRok r (derI r) ∧ pC (gcR r (derI r)) := by
  have hd := stI_der h.2.1
  have hb := szB_bas0 h
  have g := gc_new hb (by omega)
  have key : ∀ d, pC d → pC (mkpos (prm d)) := fun d hd i hi => by
    have h1 := pC_prm hd i hi
    unfold mkpos nC at *
    split
    · rw [Int.natAbs_neg]; exact h1
    · exact h1
  unfold gcRok gcR
  rw [if_neg (by omega), if_neg (by omega)]
  exact ⟨g, key _ (gcF_pC _ _ _ g)⟩
/-- the quotient's sizes -/
theorem qo_sz {g : Nat → Int} {s : Nat} {H : Nat} (hg : ∀ i, s < i → i < 7 → g i = 0) (hs : g s ≠ 0) (hH : ∀ i, i < 7 → (g i).natAbs ≤ H) (q : Nat → Int) : ∀ (n : Nat) (f : Nat → Int) (F : Nat), n + s ≤ 7 → (∀ x, iv f x = raV (ivn n q) x * iv g x) → (∀ i, i < 7 → (f i).natAbs ≤ F) → F * (1 + H) ^ n < KN → qoOk g s n f ∧ ∀ i, i < n → nC (q i)
  | 0, f, F, _, _, _, _ => ⟨trivial, fun i hi => absurd hi (Nat.not_lt_zero i)⟩
  | n + 1, f, F, hn, h, hf, hF => by
    have hgU : raU (s + 1) (iv g) := raU_up (iv_U g) (stI_lt (fun i a b => hg i (by omega) b))
    have e1 : ∀ x, iv (fun i => if n ≤ i ∧ i ≤ n + s then f i - q n * g (i - n) else f i) x = raV (ivn n q) x * iv g x := fun x => by
      rw [quoF_iv (by omega) hg, h, ivn_s]; grind
    have hU : raU (n + s) (iv (fun i => if n ≤ i ∧ i ≤ n + s then f i - q n * g (i - n) else f i)) := by
      cases n with
      | zero => exact raU_eq (raU_z _) (fun x => by rw [e1, ivn_0]; grind)
      | succ n => exact raU_eq (raU_up (raU_mul ⟨_, by rw [ivn_len]; exact Nat.le_refl _, fun _ => rfl⟩ hgU) (by omega)) e1
    have hz := iv_Uz hU (n + s) (Nat.le_refl _) (by omega)
    (try dsimp only at hz)
    rw [if_pos ⟨by omega, Nat.le_refl _⟩, Nat.add_sub_cancel_left] at hz
    have hq : f (n + s) = q n * g s := by omega
    have hD : quoD f g s n = q n := by
      unfold quoD
      rw [hq]
      exact Int.mul_tdiv_cancel _ hs
    have hqF : (q n).natAbs ≤ F := by
      have h1 := hf (n + s) (by omega)
      rw [hq, Int.natAbs_mul] at h1
      have : 1 ≤ (g s).natAbs := by omega
      have := Nat.mul_le_mul_left (q n).natAbs this
      omega
    have hp : F ≤ F * (1 + H) ^ (n + 1) := by
      have := Nat.mul_le_mul_left F (Nat.pow_pos (n := n + 1) (show 0 < 1 + H by omega))
      omega
    have hFk : F < KN := Nat.lt_of_le_of_lt hp hF
    have hFq : quoF f g s n = fun i => if n ≤ i ∧ i ≤ n + s then f i - q n * g (i - n) else f i := by unfold quoF; rw [hD]
    obtain ⟨k1, k2⟩ := qo_sz hg hs hH q n (quoF f g s n) (F * (1 + H)) (by omega) (fun x => by rw [hFq]; exact e1 x) (fun i hi => by
      rw [hFq]
      (try dsimp only)
      have h1 := hf i hi
      have e : F * (1 + H) = F + F * H := by rw [Nat.mul_add, Nat.mul_one]
      split
      · have h2 : (q n * g (i - n)).natAbs ≤ F * H := by
          rw [Int.natAbs_mul]
          exact Nat.mul_le_mul hqF (hH _ (by omega))
        omega
      · omega) (by rw [Nat.mul_assoc, Nat.mul_comm (1 + H), ← Nat.pow_succ]; exact hF)
    refine ⟨⟨Nat.lt_of_le_of_lt (hf _ (by omega)) hFk, ⟨q n, by rw [hq, Int.mul_comm]⟩, k1⟩, fun i hi => ?_⟩
    by_cases c : i = n
    · rw [c]; exact Nat.lt_of_le_of_lt hqF hFk
    · exact k2 i (by omega)
theorem num_q : 2629737 * (1 + 2629737) ^ 7 < 2 ^ 200 := by decide +kernel
/-- what the reference's square-free part asks for -/
theorem fr_ok {r : Nat → Int} (h : szB r) (hg : szB (gcdP r (derI r))) : frOk r ∧ pC (frP r) := by
  have h0 := h.2.1
  have e0 := gcR_eq h.1 (zb_der r)
  obtain ⟨g1, g2⟩ := gcR_okd h
  obtain ⟨hpr, u, hu, h1⟩ := gcd_pr h0
  have hd0 := pr_nz hpr
  have hdg := sqf_dg h0
  have r7 := stI_le r 7
  have d7 := stI_le (gcdP r (derI r)) 7
  have pr1 : pC r := pC_le (szB_m h) (Nat.lt_of_lt_of_le (m := 2 ^ 24) (by decide) (KN_le (by decide)))
  have hl : 0 < ldI (gcdP r (derI r)) := by
    have a := (gcdP_gc r (derI r)).2.2
    have b := ldI_nz hd0
    omega
  obtain ⟨s, hs⟩ : ∃ s, stI (gcdP r (derI r)) 7 = s + 1 := ⟨stI (gcdP r (derI r)) 7 - 1, by omega⟩
  have ht := stI_top (p := gcdP r (derI r)) (n := 7) (by omega)
  rw [hs, Nat.add_sub_cancel] at ht
  have hz : ∀ i, s < i → i < 7 → gcdP r (derI r) i = 0 := fun i a b => stI_z (n := 7) (by omega) b
  obtain ⟨e, he, h3⟩ := iv_prm2 r
  have he2 := Rat.mul_inv_cancel e (Rat.ne_of_gt he)
  obtain ⟨n, hn⟩ : ∃ n, n = stI (prm r) 7 + 1 - stI (gcdP r (derI r)) 7 := ⟨_, rfl⟩
  have hpe : ∀ x, iv (prm r) x = (e⁻¹ * u x) * iv (gcdP r (derI r)) x := fun x => by
    have q1 := h1 x
    rw [h3] at q1
    generalize e⁻¹ = w at *
    have : w * u x * iv (gcdP r (derI r)) x = w * (u x * iv (gcdP r (derI r)) x) := by grind
    rw [this, ← q1]
    have : w * (e * iv (prm r) x) = (e * w) * iv (prm r) x := by grind
    rw [this, he2]; grind
  have hp0 : stI (prm r) 7 ≠ 0 := by rw [stI_prm]; exact h0
  have hU : raU n (fun x => e⁻¹ * u x) := by
    rcases isPo_W (isPo_s e⁻¹ hu) with q | ⟨k, q⟩
    · exact raU_eq (raU_z _) q
    · have hW := raW_eq (raW_mul q (iv_W hs)) hpe
      have p7 := stI_le (prm r) 7
      have := raW_un hW (iv_W (p := prm r) (k := stI (prm r) 7 - 1) (by omega))
      exact raU_up (raU_W q) (by omega)
  have p7 := stI_le (prm r) 7
  obtain ⟨q, hq1, hq2⟩ := gauss hpr hU (by omega) hpe
  have hcut : ∀ x, e⁻¹ * u x = raV (ivn n q) x := fun x => by
    rw [hq2]
    have := ivn_cut (p := q) (k := n) x (7 - n) (fun i a _ => hq1 i a)
    rw [show n + (7 - n) = 7 by omega] at this
    exact this
  have hV : ∀ x, iv (prm r) x = raV (ivn n q) x * iv (gcdP r (derI r)) x := fun x => by rw [hpe, hcut]
  have hnum : 2629737 * (1 + 2629737) ^ n < KN := Nat.lt_of_le_of_lt (Nat.mul_le_mul_left _ (Nat.pow_le_pow_right (by decide) (show n ≤ 7 by omega))) (Nat.lt_of_lt_of_le num_q (KN_le (by decide)))
  obtain ⟨k1, k2⟩ := qo_sz hz ht (szB_m hg) q n (prm r) 2629737 (by omega) hV (fun i hi => Nat.le_trans (prm_le _ _) (szB_m h i hi)) hnum
  have key := quoL_iv hz ht q n (prm r) (fun _ => 0) (by omega) hV
  have hpQ : pC (quoL (gcdP r (derI r)) s n (prm r) (fun _ => 0)) := fun i hi => by
    rw [key]
    split
    · next c => exact k2 i c
    · exact KN_pos
  have hfr : frOk r := by
    unfold frOk
    rw [e0, hs, Nat.add_sub_cancel, ← hs, ← hn]
    rw [e0] at g2
    exact ⟨pr1, g1, hd0, g2, hl, by rw [stI_prm]; omega, k1, hpQ⟩
  refine ⟨hfr, ?_⟩
  unfold frP quoP
  rw [e0, if_neg hd0, hs, Nat.add_sub_cancel, ← hs, ← hn]
  intro i hi
  have h1 := pC_prm hpQ i hi
  unfold mkpos nC at *
  split
  · rw [Int.natAbs_neg]; exact h1
  · exact h1
/-- values -/
theorem ev_ok {p : Nat → Int} {M : Nat} (hp : ∀ i, i < 7 → (p i).natAbs ≤ M) (hM : M ≤ 2 ^ 236) : evOk p := by
  intro x k hx hk
  have h7 := stI_le p 7
  have h1 := (evS_le (X := 2 ^ 28) h7 hp hx (show ((2 ^ k : Nat) : Int).natAbs ≤ 2 ^ 28 by
    rw [Int.natAbs_natCast]
    exact Nat.pow_le_pow_right (by decide) (by omega)) (by decide) (stI p 7) (Nat.le_refl _)).1
  refine Nat.lt_of_le_of_lt h1 ?_
  refine Nat.lt_of_le_of_lt (Nat.mul_le_mul hM (Nat.pow_le_pow_right (by decide) h7)) ?_
  refine Nat.lt_of_lt_of_le (m := 2 ^ 500) ?_ (KN_le (by decide))
  rw [show 2 * 2 ^ 28 = 2 ^ 29 from rfl, ← Nat.pow_mul, ← Nat.pow_add]
  exact Nat.pow_lt_pow_right (by decide) (by decide)
theorem szB_ev {r : Nat → Int} (h : szB r) : evOk r := ev_ok (szB_m h) (Nat.le_trans (show 2629737 ≤ 2 ^ 24 by decide) (Nat.pow_le_pow_right (by decide) (by decide)))
theorem z_ev {r : Nat → Int} (h : stI r 7 = 0) : evOk r := ev_ok (M := 0) (fun i hi => by rw [stI_z (p := r) (n := 7) (by omega) hi]; exact Nat.le_refl 0) (Nat.zero_le _)
/-- the row -/
theorem rw_ok {p : Nat → Int} (hp : bnd9 p) (h0 : stI p 7 ≠ 0) : rwAll stM p := by
  have hsz := (dv_rf hp h0).1
  have hb := szB_bas hsz
  have hM := stM_ok p
  have hMp := stM_p h0
  have eq : ∀ i, i ≤ stM p → rwE p i = stE p i := fun i hi => rwE_eq hp.2 h0 i (fun j _ h => hM.2.1 j (by omega))
  have ch : ∀ i, i + 1 < stM p → chI (prm p) (prm (derI p)) (stE p i) (stE p (i + 1)) := fun i hi => stm_ch hb h0 i (fun j hj => hM.2.1 j (by omega))
  have tb : ∀ i, i < stM p → ∀ t, t < 7 → (stE p i t).natAbs ≤ 2 ^ 236 := fun i hi t ht => by
    cases i with
    | zero =>
      refine Nat.le_trans (hb.2.2.1 t ht) ?_
      exact Nat.pow_le_pow_right (by decide) (by decide)
    | succ n =>
      obtain ⟨_, _, _, _, _, h7⟩ := ch n hi
      have := stI_le (stE p n) 7
      exact Nat.le_trans (h7 t ht) (Tb_an (D := 0) (Nat.zero_le _) (by omega))
  have pe : ∀ i, i < stM p → pC (stE p i) := fun i hi => pC_le (tb i hi) (Nat.lt_of_lt_of_le (Nat.pow_lt_pow_right (by decide) (show 236 < 237 by decide)) (KN_le (by decide)))
  refine ⟨⟨hMp, hM.1, pC_le hp.1 (Nat.lt_of_lt_of_le (m := 2 ^ 24) (by decide) (KN_le (by decide))), pC_le (szB_d hsz) s24_KN, fun i hi => by rw [eq i (by omega)]; exact pe i hi, fun i _ hi => by rw [eq i (by omega)]; exact hM.2.1 i hi, by rw [eq _ (Nat.le_refl _)]; exact stE_end h0, fun i hi => ?_⟩, fun t ht => by rw [eq t (by omega)]; exact ev_ok (tb t ht) (Nat.le_refl _)⟩
  rw [eq i (by omega), eq (i + 1) (by omega)]
  have hg := hM.2.1 (i + 1) (by omega)
  have := rm_of (chI_sz (ch i (by omega)) hg) hg 8
  exact ⟨this, rm_pC _ _ _ this⟩
