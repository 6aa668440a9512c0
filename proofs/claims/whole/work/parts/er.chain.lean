/-! Sturm's sequence as a chain -/
theorem ra_lt_or (a b : Rat) : a < b ∨ b ≤ a := by
  by_cases h : a < b
  · exact Or.inl h
  · exact Or.inr (Rat.not_lt.mp h)
theorem stMr_ok {p : Nat → Int} : ∀ k i, i + k = 7 → (∀ j, j < i → stI (stE p j) 7 ≠ 0) → stLen p (stMr p k i)
  | 0, i, h, hj => by rw [stMr]; exact ⟨by omega, hj, fun q => by omega⟩
  | k + 1, i, h, hj => by
    rw [stMr]
    by_cases c : stI (stE p i) 7 = 0
    · rw [if_pos c]; exact ⟨by omega, hj, fun _ => c⟩
    · rw [if_neg c]
      refine stMr_ok k (i + 1) (by omega) (fun j a => ?_)
      by_cases d : j = i
      · rw [d]; exact c
      · exact hj j (by omega)
theorem stM_ok (p : Nat → Int) : stLen p (stM p) := stMr_ok 7 0 rfl (fun j h => absurd h (Nat.not_lt_zero j))
theorem stE_n0 {p : Nat → Int} (h0 : stI p 7 ≠ 0) : stI (stE p 0) 7 ≠ 0 := by rw [stE, stI_prm]; exact h0
theorem stM_p {p : Nat → Int} (h0 : stI p 7 ≠ 0) : 0 < stM p := stM_pos (stM_ok p) (stE_n0 h0)
theorem stE_dg {p : Nat → Int} (h0 : stI p 7 ≠ 0) : ∀ i, i < stM p → stI (stE p i) 7 + i ≤ stI p 7
  | 0, _ => by rw [stE, stI_prm]; exact Nat.le_refl _
  | i + 1, h => by
    have h1 := stE_dg h0 i (by omega)
    have h2 := stE_dec h0 i ((stM_ok p).2.1 i (by omega))
    omega
/-- behind its end there is zero -/
theorem stE_end {p : Nat → Int} (h0 : stI p 7 ≠ 0) : stI (stE p (stM p)) 7 = 0 := by
  have hM := stM_ok p
  by_cases c : stM p < 7
  · exact hM.2.2 c
  · have h7 : stM p = 7 := by have := hM.1; omega
    have hp := stI_le p 7
    have h1 := stE_dg h0 6 (by omega)
    have h2 := stE_dec h0 6 (hM.2.1 6 (by omega))
    have h8 : stI (stE p 7) 7 < stI (stE p 6) 7 := h2
    rw [h7]; omega
theorem stM_le {p : Nat → Int} (h0 : stI p 7 ≠ 0) : stM p ≤ stI p 7 := by
  have hp := stM_p h0
  have h1 := stE_dg h0 (stM p - 1) (by omega)
  have h2 := (stM_ok p).2.1 (stM p - 1) (by omega)
  omega
/-- three neighbors -/
theorem stE_3 {p : Nat → Int} {i : Nat} (hg : stI (stE p (i + 1)) 7 ≠ 0) : ∃ (l : Rat) (Q : Rat → Rat), 0 < l ∧ isPo Q ∧ ∀ x, l * iv (stE p i) x + iv (stE p (i + 2)) x = Q x * iv (stE p (i + 1)) x := by
  obtain ⟨⟨l, Q, hl, hQ, h1⟩, _⟩ := prm_rem (red_rem (f := stE p i) hg)
  refine ⟨l, Q, hl, hQ, fun x => ?_⟩
  rw [stE, prm_neg, iv_neg, h1]
  grind
/-- the last divides all -/
theorem stE_dv {p : Nat → Int} (h0 : stI p 7 ≠ 0) : ∀ n i, i + n = stM p → (∃ w, isPo w ∧ ∀ x, iv (stE p i) x = w x * iv (stE p (stM p - 1)) x) ∧ (0 < i → ∃ w, isPo w ∧ ∀ x, iv (stE p (i - 1)) x = w x * iv (stE p (stM p - 1)) x)
  | 0, i, h => by
    rw [Nat.add_zero] at h
    refine ⟨⟨fun _ => 0, isPo_c 0, fun x => ?_⟩, fun _ => ⟨fun _ => 1, isPo_c 1, fun x => ?_⟩⟩
    · rw [h, iv_zero (stE_end h0)]; grind
    · rw [h]; grind
  | n + 1, i, h => by
    obtain ⟨k1, k2⟩ := stE_dv h0 n (i + 1) (by omega)
    have k3 := k2 (Nat.succ_pos i)
    rw [Nat.add_sub_cancel] at k3
    refine ⟨k3, fun hi => ?_⟩
    obtain ⟨j, rfl⟩ : ∃ j, i = j + 1 := ⟨i - 1, by omega⟩
    rw [Nat.add_sub_cancel]
    obtain ⟨w1, hw1, e1⟩ := k1
    obtain ⟨w2, hw2, e2⟩ := k3
    obtain ⟨l, Q, hl, hQ, e3⟩ := stE_3 (p := p) (i := j) ((stM_ok p).2.1 _ (by omega))
    have hl0 := Rat.mul_inv_cancel l (Rat.ne_of_gt hl)
    refine ⟨fun x => l⁻¹ * (Q x * w2 x - w1 x), isPo_s _ (isPo_sub (isPo_mul hQ hw2) hw1), fun x => ?_⟩
    have a := e3 x
    rw [e1, e2] at a
    generalize iv (stE p (stM p - 1)) x = D at *
    generalize l⁻¹ = v at *
    have : v * (Q x * w2 x - w1 x) * D = v * (Q x * (w2 x * D) - w1 x * D) := by grind
    rw [this, ← a]
    have : v * (l * iv (stE p j) x + w1 x * D - w1 x * D) = (l * v) * iv (stE p j) x := by grind
    rw [this, hl0]; grind
/-- the last is a greatest common divisor -/
theorem stE_gc {p : Nat → Int} (h0 : stI p 7 ≠ 0) : ∀ n i, i + n + 1 = stM p → isGc (stE p (stM p - 1)) (stE p i) (stE p (i + 1))
  | 0, i, h => by
    rw [show stM p - 1 = i by omega]
    exact isGc_z (by rw [show i + 1 = stM p by omega]; exact stE_end h0)
  | n + 1, i, h => by
    have ih := stE_gc h0 n (i + 1) (by omega)
    have hg : stI (stE p (i + 1)) 7 ≠ 0 := (stM_ok p).2.1 _ (by omega)
    refine isGc_step (r := prm (red (stE p i) (stE p (i + 1)))) (prm_rem (red_rem hg)) ?_
    refine isGc_sc ih (a := 1) (b := 1) (c := -1) (by decide) (by decide) (by decide) (fun x => by grind) (fun x => by grind) (fun x => ?_)
    rw [stE, prm_neg, iv_neg]; grind
theorem stE_last {p : Nat → Int} (h0 : stI p 7 ≠ 0) : ∃ e : Rat, (e = 1 ∨ e = -1) ∧ ∀ x, iv (gcdP p (derI p)) x = e * iv (stE p (stM p - 1)) x := by
  have h1 := stE_gc h0 (stM p - 1) 0 (by have := stM_p h0; omega)
  obtain ⟨e, he, h2⟩ := iv_mkpos (stE p (stM p - 1))
  obtain ⟨c1, hc1, h3⟩ := iv_prm2 p
  obtain ⟨c2, hc2, h4⟩ := iv_prm2 (derI p)
  have pz : prz (stE p (stM p - 1)) := by
    cases stM p - 1 with
    | zero => exact prz_prm _
    | succ n => cases n <;> exact prz_prm _
  have k1 : isGc (mkpos (stE p (stM p - 1))) p (derI p) := isGc_sc h1 (a := e) (by rcases he with he | he <;> rw [he] <;> decide) (Rat.ne_of_gt hc1) (Rat.ne_of_gt hc2) h2 h3 h4
  obtain ⟨b1, b2, b3⟩ := gcdP_gc p (derI p)
  have := gc_uniq b1 k1 b2 (mkpos_prz pz) b3 (mkpos_ld _)
  exact ⟨e, he, fun x => by rw [congrFun (iv_cong this) x]; exact h2 x⟩
/-- what a chain of p is: D, and H i times D is the i-th element -/
def chn (p : Nat → Int) (H : Nat → List Rat) (g : List Rat) (D : Rat → Rat) : Prop := raK H (stM p - 1) ∧ (1 ≤ stM p - 1 → raQ H (ivn 7 p) g) ∧ isPo D ∧ (∃ e : Rat, (e = 1 ∨ e = -1) ∧ ∀ x, iv (gcdP p (derI p)) x = e * D x) ∧ ∀ i, i < stM p → ∀ x, iv (stE p i) x = raV (H i) x * D x
theorem chn_ex {p : Nat → Int} (h0 : stI p 7 ≠ 0) : ∃ H g D, chn p H g D := by
  have hM := stM_p h0
  have hD0 : ¬ ∀ x, iv (stE p (stM p - 1)) x = 0 := iv_nz ((stM_ok p).2.1 _ (by omega))
  have hDP : isPo (iv (stE p (stM p - 1))) := isPo_iv _
  have ex : ∀ i, ∃ l : List Rat, i < stM p → ∀ x, iv (stE p i) x = raV l x * iv (stE p (stM p - 1)) x := fun i => by
    by_cases c : i < stM p
    · obtain ⟨⟨w, ⟨n, l, _, hl⟩, hw⟩, _⟩ := stE_dv h0 (stM p - i) i (by omega)
      exact ⟨l, fun _ x => by rw [hw, hl]⟩
    · exact ⟨[], fun q => absurd q c⟩
  obtain ⟨H, hH⟩ := Classical.axiomOfChoice ex
  obtain ⟨c0, hc0, e0⟩ := iv_prm2 p
  obtain ⟨nD, hnD⟩ := id hDP
  refine ⟨H, raS c0 (ivn 7 (stE p (stM p - 1))), iv (stE p (stM p - 1)), ⟨⟨1, by decide, fun x => ?_⟩, fun i h1 h2 => ?_⟩, fun hr => ⟨fun q => iv_nz h0 q, fun x => ?_, ?_⟩, hDP, stE_last h0, fun i hi x => hH i hi x⟩
  · exact raU_can hnD (raU_l _) (raU_c 1) (fun x => by have := hH (stM p - 1) (by omega) x; grind) hD0 x
  · obtain ⟨l, Q, hl, ⟨nQ, lQ, _, hQ⟩, e3⟩ := stE_3 (p := p) (i := i - 1) ((stM_ok p).2.1 _ (by omega))
    refine ⟨l, 1, lQ, hl, by decide, ?_⟩
    obtain ⟨n1, u1⟩ : isPo (fun x => l * raV (H (i - 1)) x + 1 * raV (H (i + 1)) x) := isPo_add (isPo_s _ ⟨_, raU_l _⟩) (isPo_s _ ⟨_, raU_l _⟩)
    obtain ⟨n2, u2⟩ : isPo (fun x => raV lQ x * raV (H i) x) := isPo_mul ⟨_, raU_l _⟩ ⟨_, raU_l _⟩
    refine raU_can hnD u1 u2 (fun x => ?_) hD0
    have a := e3 x
    rw [show i - 1 + 1 = i by omega, show i - 1 + 2 = i + 1 by omega, hH (i - 1) (by omega), hH i (by omega), hH (i + 1) (by omega), hQ] at a
    generalize iv (stE p (stM p - 1)) x = y at *
    grind
  · have a := hH 0 hM x
    rw [stE] at a
    rw [raV_S]
    show iv p x = c0 * iv (stE p (stM p - 1)) x * raV (H 0) x
    rw [e0, a]; grind
  · obtain ⟨c1, hc1, e1⟩ := iv_prm2 (derI p)
    have hi := Rat.mul_inv_cancel c0 (Rat.ne_of_gt hc0)
    refine ⟨c1 * c0⁻¹, Rat.mul_pos hc1 (Rat.inv_pos.mpr hc0), fun x => ?_⟩
    have a := hH 1 (by omega) x
    rw [stE] at a
    rw [← iv_der, raV_S]
    show iv (derI p) x = c0 * iv (stE p (stM p - 1)) x * (c1 * c0⁻¹ * raV (H 1) x)
    rw [e1, a]
    generalize c0⁻¹ = w at *
    generalize iv (stE p (stM p - 1)) x = y at *
    have : c0 * y * (c1 * w * raV (H 1) x) = (c0 * w) * (c1 * (raV (H 1) x * y)) := by grind
    rw [this, hi]; grind
/-- where D is not 0, the count is the chain's -/
theorem chn_C {p : Nat → Int} {H : Nat → List Rat} {g : List Rat} {D : Rat → Rat} (h0 : stI p 7 ≠ 0) (hc : chn p H g D) {n : Int} {k : Nat} (hD : D (ptR n k) ≠ 0) : stC p n k = raX H (stM p - 1) (ptR n k) := by
  have hM := stM_p h0
  rw [stC_V, raX, show stM p - 1 + 1 = stM p by omega]
  have e : (List.range (stM p)).map (fun i => iv (stE p i) (ptR n k)) = (List.range (stM p)).map (fun i => raV (H i) (ptR n k) * D (ptR n k)) := List.map_congr_left (fun i hi => hc.2.2.2.2 i (List.mem_range.mp hi) _)
  rw [e]
  rcases ra_lt_or 0 (D (ptR n k)) with w | w
  · exact raC_map (fun i _ => by rw [Rat.mul_comm]; exact raG_k w)
  · have hneg : 0 < -D (ptR n k) := by grind
    have e2 : raC 0 ((List.range (stM p)).map (fun i => raV (H i) (ptR n k) * D (ptR n k))) = raC 0 ((List.range (stM p)).map (fun i => -1 * raV (H i) (ptR n k))) := raC_map (fun i _ => by
      have : raV (H i) (ptR n k) * D (ptR n k) = -D (ptR n k) * (-1 * raV (H i) (ptR n k)) := by grind
      rw [this]; exact raG_k hneg)
    have e3 : (List.range (stM p)).map (fun i => -1 * raV (H i) (ptR n k)) = raS (-1) ((List.range (stM p)).map (fun i => raV (H i) (ptR n k))) := by
      have : ∀ l : List Nat, l.map (fun i => -1 * raV (H i) (ptR n k)) = raS (-1) (l.map (fun i => raV (H i) (ptR n k))) := by
        intro l
        induction l with
        | nil => rfl
        | cons a t ih => rw [List.map_cons, List.map_cons, raS, ih]
      exact this _
    rw [e2, e3]
    have := raC_ng ((List.range (stM p)).map (fun i => raV (H i) (ptR n k))) 0
    rwa [show (-0 : Rat) = 0 from rfl] at this
/-- two chains with the same roots count alike -/
theorem chn_two {H K : Nat → List Rat} {r s : Nat} {p g p2 g2 : List Rat} {c : Rat} (hk : raK H r) (hq : 1 ≤ r → raQ H p g) (hk2 : raK K s) (hq2 : 1 ≤ s → raQ K p2 g2) (hc : c ≠ 0) (e : ∀ x, raV (H 0) x = c * raV (K 0) x) {a b : Rat} (hab : a < b) : (raX H r a : Int) - raX H r b = (raX K s a : Int) - raX K s b := by
  obtain ⟨d1, hd1, h1⟩ := ra_sturm hk hq a b
  obtain ⟨d2, hd2, h2⟩ := ra_sturm hk2 hq2 a b
  obtain ⟨d, hd, l1, l2⟩ := ra_min hd1 hd2
  obtain ⟨t, t1, t2, t3⟩ := raZ_ex hd hab
  have up : ∀ {d d' : Rat}, d ≤ d' → ∀ (t : List Rat) (u : Rat), raZ d u t → raZ d' u t := by
    intro d d' hdd t
    induction t with
    | nil => intro u _; trivial
    | cons v t ih => intro u h; exact ⟨h.1, Rat.le_trans h.2.1 hdd, ih v h.2.2⟩
  have k1 := h1 t t1 (up l1 t a t2) t3
  have k2 := h2 t t1 (up l2 t a t2) t3
  have z : raV (H 0) b = 0 ↔ raV (K 0) b = 0 := by
    rw [e]
    exact ⟨fun q => (Rat.mul_eq_zero.mp q).resolve_left hc, fun q => by rw [q, Rat.mul_zero]⟩
  have m : raC 0 ((a :: t).map (raV (H 0))) = raC 0 ((a :: t).map (raV (K 0))) := by
    have ee : (a :: t).map (raV (H 0)) = (a :: t).map (fun x => c * raV (K 0) x) := List.map_congr_left (fun x _ => e x)
    rw [ee]
    rcases ra_lt_or 0 c with w | w
    · exact raC_sg (raG_rf 0) (by simp) (fun i h1 h2 => by simp only [List.getElem_map]; exact raG_k w)
    · have hneg : 0 < -c := by grind
      have e3 : ∀ l : List Rat, raC 0 (l.map (fun x => c * raV (K 0) x)) = raC 0 (raS (-1) (l.map (raV (K 0)))) := fun l => by
        have e4 : ∀ l : List Rat, raS (-1) (l.map (raV (K 0))) = l.map (fun x => -1 * raV (K 0) x) := by
          intro l
          induction l with
          | nil => rfl
          | cons a t ih => rw [List.map_cons, List.map_cons, raS, ih]
        rw [e4]
        refine raC_sg (raG_rf 0) (by simp) (fun i h1 h2 => ?_)
        simp only [List.getElem_map]
        generalize raV (K 0) _ = y
        have : c * y = -c * (-1 * y) := by grind
        rw [this]; exact raG_k hneg
      rw [e3]
      have := raC_ng ((a :: t).map (raV (K 0))) 0
      rwa [show (-0 : Rat) = 0 from rfl] at this
  rw [m, ra_if z] at k1
  omega
