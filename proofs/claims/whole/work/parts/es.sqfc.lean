/-! the square-free part's sequence -/
theorem ra_can {f g h : Rat → Rat} (hf : isPo f) (hg : isPo g) (hh : isPo h) (hn : ¬ ∀ x, f x = 0) (e : ∀ x, f x * g x = f x * h x) : ∀ x, g x = h x := by
  obtain ⟨n, a⟩ := hf
  obtain ⟨m, b⟩ := hg
  obtain ⟨k, c⟩ := hh
  exact raU_can a b c e hn
/-- what a square-free part is -/
theorem sqf_all {p : Nat → Int} (h0 : stI p 7 ≠ 0) : (∃ (u : Rat → Rat) (c1 : Rat), c1 ≠ 0 ∧ isPo u ∧ (∀ x, iv p x = u x * iv (gcdP p (derI p)) x) ∧ ∀ x, iv (sqfP p) x = c1 * u x) ∧ isPr (sqfP p) ∧ 0 < ldI (sqfP p) ∧ (∀ x, iv p x = 0 ↔ iv (sqfP p) x = 0) ∧ ∃ e : Rat, e ≠ 0 ∧ ∀ x, iv (gcdP (sqfP p) (derI (sqfP p))) x = e := by
  obtain ⟨⟨⟨u, hu, h1⟩, ⟨v, hv, h2⟩, A, B, hA, hB, h3⟩, hz, _⟩ := gcdP_gc p (derI p)
  obtain ⟨d, hd⟩ : ∃ d, d = gcdP p (derI p) := ⟨_, rfl⟩
  rw [← hd] at h1 h2 h3 hz
  have hpd : isPr d := hz.resolve_right (fun q => iv_nz h0 (fun x => by rw [h1, iv_zero q]; grind))
  have hd0 : ¬ ∀ x, iv d x = 0 := iv_nz (pr_nz hpd)
  obtain ⟨⟨c1, hc1, s1⟩, s2, s3⟩ := quoP_iv hpd hu h1
  have es : quoP p d = sqfP p := by rw [hd]; rfl
  rw [es] at s1 s2 s3
  have hu0 : ¬ ∀ x, u x = 0 := fun q => iv_nz h0 (fun x => by rw [h1, q]; grind)
  have hs0 : stI (sqfP p) 7 ≠ 0 := fun q => hu0 (fun x => by
    have := s1 x
    rw [iv_zero q] at this
    exact (Rat.mul_eq_zero.mp this.symm).resolve_left hc1)
  have one : ∀ x, A x * u x + B x * v x = 1 := ra_can (isPo_iv d) (isPo_add (isPo_mul hA hu) (isPo_mul hB hv)) (isPo_c 1) hd0 (fun x => by
    have a := h3 x
    rw [h1, h2] at a
    generalize iv d x = y at *
    grind)
  obtain ⟨u', hu', du⟩ := Dv_ex hu
  have dd := Dv_iv d
  have hvd : ∀ x, v x * iv d x = u' x * iv d x + u x * iv (derI d) x := fun x => by
    have := Dv_un (Dv_iv p) (Dv_mul du dd) h1 x
    rw [h2] at this
    exact this
  have rt : ∀ x, iv p x = 0 ↔ iv (sqfP p) x = 0 := fun x => by
    rw [s1]
    constructor
    · intro q
      rw [h1] at q
      have : u x = 0 := by
        rcases Rat.mul_eq_zero.mp q with q | q
        · exact q
        · exact sq_root du dd hv hd0 hvd x q
      rw [this, Rat.mul_zero]
    · intro q
      rw [h1, (Rat.mul_eq_zero.mp q).resolve_left hc1, Rat.zero_mul]
  have hsp := s2.resolve_right hs0
  refine ⟨⟨u, c1, hc1, hu, fun x => by rw [← hd]; exact h1 x, s1⟩, hsp, ?_, rt, ?_⟩
  · have := ldI_nz hs0
    omega
  · obtain ⟨⟨⟨a, ha, t1⟩, ⟨b, hb, t2⟩, _⟩, tz, _⟩ := gcdP_gc (sqfP p) (derI (sqfP p))
    have te : isPr (gcdP (sqfP p) (derI (sqfP p))) := tz.resolve_right (fun q => iv_nz hs0 (fun x => by rw [t1, iv_zero q]; grind))
    obtain ⟨k, hk⟩ : ∃ k, stI (gcdP (sqfP p) (derI (sqfP p))) 7 = k + 1 := ⟨stI (gcdP (sqfP p) (derI (sqfP p))) 7 - 1, by have := pr_nz te; omega⟩
    have hci := Rat.mul_inv_cancel c1 hc1
    have e2 := Dv_un (Dv_iv (sqfP p)) (Dv_s c1 du) s1
    have k0 := sq_co du dd hv hA hB hd0 hvd one (Dv_iv (gcdP (sqfP p) (derI (sqfP p)))) (iv_W hk) ⟨fun x => c1⁻¹ * a x, isPo_s _ ha, fun x => by
      have a1 := t1 x
      rw [s1] at a1
      generalize c1⁻¹ = w at *
      generalize iv (gcdP (sqfP p) (derI (sqfP p))) x = y at *
      have : y * (w * a x) = w * (a x * y) := by grind
      rw [this, ← a1]
      have : w * (c1 * u x) = (c1 * w) * u x := by grind
      rw [this, hci]; grind⟩ ⟨fun x => c1⁻¹ * b x, isPo_s _ hb, fun x => by
      have a1 := t2 x
      rw [e2] at a1
      generalize c1⁻¹ = w at *
      generalize iv (gcdP (sqfP p) (derI (sqfP p))) x = y at *
      have : y * (w * b x) = w * (b x * y) := by grind
      rw [this, ← a1]
      have : w * (c1 * u' x) = (c1 * w) * u' x := by grind
      rw [this, hci]; grind⟩
    rw [k0] at hk
    exact raW_0 (iv_W hk)
theorem sqf_nz {p : Nat → Int} (h0 : stI p 7 ≠ 0) : stI (sqfP p) 7 ≠ 0 := pr_nz (sqf_all h0).2.1
/-- a chain of a square-free part; its counts are the chain's everywhere -/
theorem sqf_chn {p : Nat → Int} (h0 : stI p 7 ≠ 0) : ∃ (H : Nat → List Rat) (g : List Rat) (c : Rat), c ≠ 0 ∧ raK H (stM (sqfP p) - 1) ∧ (1 ≤ stM (sqfP p) - 1 → raQ H (ivn 7 (sqfP p)) g) ∧ (∀ x, raV (H 0) x = c * iv (sqfP p) x) ∧ ∀ n k, stC (sqfP p) n k = raX H (stM (sqfP p) - 1) (ptR n k) := by
  obtain ⟨_, hpr, _, _, e0, he0, h1⟩ := sqf_all h0
  have hs0 := pr_nz hpr
  obtain ⟨H, g, D, hc⟩ := chn_ex hs0
  obtain ⟨k1, k2, k3, ⟨e, he, k4⟩, k5⟩ := id hc
  have he2 : e * e = 1 := by rcases he with he | he <;> rw [he] <;> grind
  have hD : ∀ x, D x = e * e0 := fun x => by
    have := k4 x
    rw [h1] at this
    rw [this]
    have : e * (e * D x) = (e * e) * D x := by grind
    rw [this, he2]; grind
  have hDn : e * e0 ≠ 0 := fun q => by
    have a := h1 0
    rw [k4, hD, q, Rat.mul_zero] at a
    exact he0 a.symm
  have hi := Rat.mul_inv_cancel _ hDn
  refine ⟨H, g, (e * e0)⁻¹, fun q => ?_, k1, k2, fun x => ?_, fun n k => chn_C hs0 hc (by rw [hD]; exact hDn)⟩
  · rw [q, Rat.mul_zero] at hi; exact absurd hi (by decide)
  · have a := k5 0 (stM_p hs0) x
    rw [stE, congrFun (iv_cong (pr_prm hpr)) x, hD] at a
    rw [a]
    generalize (e * e0)⁻¹ = w at *
    have : w * (raV (H 0) x * (e * e0)) = (e * e0 * w) * raV (H 0) x := by grind
    rw [this, hi]; grind
/-- between points that are no roots, p's sequence counts as its square-free part's does -/
theorem cnt_sqf {p : Nat → Int} (h0 : stI p 7 ≠ 0) {n m : Int} {k l : Nat} (hlt : ptR n k < ptR m l) (hn : iv p (ptR n k) ≠ 0) (hm : iv p (ptR m l) ≠ 0) : (stC p n k : Int) - stC p m l = (stC (sqfP p) n k : Int) - stC (sqfP p) m l := by
  obtain ⟨⟨u, c1, hc1, hu, a1, a2⟩, _⟩ := sqf_all h0
  obtain ⟨K, g2, c, hc, b1, b2, b3, b4⟩ := sqf_chn h0
  obtain ⟨H, g, D, hch⟩ := chn_ex h0
  obtain ⟨k1, k2, k3, ⟨e, he, k4⟩, k5⟩ := id hch
  have hDx : ∀ x, iv p x ≠ 0 → D x ≠ 0 := fun x q w => q (by rw [a1, k4, w, Rat.mul_zero, Rat.mul_zero])
  have he2 : e * e = 1 := by rcases he with he | he <;> rw [he] <;> grind
  have hD0 : ¬ ∀ x, D x = 0 := fun q => hDx _ hn (q _)
  obtain ⟨c0, hc0, e0⟩ := iv_prm2 p
  have hi0 := Rat.mul_inv_cancel c0 (Rat.ne_of_gt hc0)
  have hi1 := Rat.mul_inv_cancel c1 hc1
  have hi := Rat.mul_inv_cancel c hc
  have e1 : ∀ x, c0 * raV (H 0) x = e * u x := ra_can k3 (isPo_s _ ⟨_, raU_l _⟩) (isPo_s _ hu) hD0 (fun x => by
    have q1 := k5 0 (stM_p h0) x
    rw [stE] at q1
    have q2 := a1 x
    rw [e0, q1, k4] at q2
    generalize D x = y at *
    grind)
  rw [chn_C h0 hch (hDx _ hn), chn_C h0 hch (hDx _ hm), b4, b4]
  refine chn_two k1 k2 b1 b2 (c := c0⁻¹ * e * c1⁻¹ * c⁻¹) (fun q => ?_) (fun x => ?_) hlt
  · rcases Rat.mul_eq_zero.mp q with q | q
    · rcases Rat.mul_eq_zero.mp q with q | q
      · rcases Rat.mul_eq_zero.mp q with q | q
        · rw [q, Rat.mul_zero] at hi0; exact absurd hi0 (by decide)
        · rw [q, Rat.mul_zero] at he2; exact absurd he2 (by decide)
      · rw [q, Rat.mul_zero] at hi1; exact absurd hi1 (by decide)
    · rw [q, Rat.mul_zero] at hi; exact absurd hi (by decide)
  · have q1 := e1 x
    rw [b3, a2]
    generalize c0⁻¹ = w0 at *
    generalize c1⁻¹ = w1 at *
    generalize c⁻¹ = w at *
    have : w0 * e * w1 * w * (c * (c1 * u x)) = w0 * (c1 * w1) * (c * w) * (e * u x) := by grind
    rw [this, hi1, hi, ← q1]
    have : w0 * 1 * 1 * (c0 * raV (H 0) x) = (c0 * w0) * raV (H 0) x := by grind
    rw [this, hi0]; grind
