/-! class = reference: remainders, greatest common divisors, square-free parts, Sturm's sequence -/
/-- nothing from the power 7 on -/
def zb (p : Nat → Int) : Prop := ∀ i, 7 ≤ i → p i = 0
theorem zb_ext {p q : Nat → Int} (hp : zb p) (hq : zb q) (h : ∀ i, i < 7 → p i = q i) : p = q := by
  funext i
  by_cases c : i < 7
  · exact h i c
  · rw [hp i (by omega), hq i (by omega)]
theorem zb_der (p : Nat → Int) : zb (derI p) := fun i hi => by
  unfold derI
  rw [if_neg (by omega)]
theorem zb_prm {p : Nat → Int} (h : zb p) : zb (prm p) := fun i hi => by
  unfold prm
  rw [h i hi, Int.zero_tdiv]
theorem zb_neg {p : Nat → Int} (h : zb p) : zb (fun i => -p i) := fun i hi => by
  show -p i = 0
  rw [h i hi]; rfl
theorem zb_mkpos {p : Nat → Int} (h : zb p) : zb (mkpos p) := fun i hi => by
  unfold mkpos
  rw [h i hi]
  split <;> rfl
theorem zb_0 : zb (fun _ => 0) := fun _ _ => rfl
theorem zb_redS {f g : Nat → Int} {s t : Nat} (ht : t < 7) (h : zb f) : zb (redS f g s t) := fun i hi => by
  unfold redS
  split
  · exact h i hi
  · dsimp only
    rw [if_neg (by omega), if_neg (by omega)]
    exact h i hi
theorem zb_redL {g : Nat → Int} {s : Nat} : ∀ (n : Nat) (f : Nat → Int), s + n ≤ 7 → zb f → zb (redL g s n f)
  | 0, _, _, h => h
  | n + 1, f, hn, h => by
    rw [redL]
    exact zb_redL n _ (by omega) (zb_redS (by omega) h)
theorem zb_red {f g : Nat → Int} (h : zb f) : zb (red f g) := by
  have h1 := stI_le g 7
  have h2 := stI_le f 7
  unfold red
  split
  · exact h
  · by_cases c : stI f 7 ≤ stI g 7 - 1
    · rw [show stI f 7 - (stI g 7 - 1) = 0 by omega]; exact h
    · exact zb_redL _ _ (by omega) h
theorem zb_gcdL : ∀ (k : Nat) (f g : Nat → Int), zb f → zb g → zb (gcdL k f g).1
  | 0, _, _, h, _ => h
  | k + 1, f, g, h1, h2 => by
    rw [gcdL]
    split
    · exact h1
    · exact zb_gcdL k _ _ h2 (zb_prm (zb_red h1))
theorem zb_gcdP {a b : Nat → Int} (ha : zb a) (hb : zb b) : zb (gcdP a b) := zb_mkpos (zb_gcdL _ _ _ (zb_prm ha) (zb_prm hb))
theorem quoL_z {g : Nat → Int} {s : Nat} : ∀ (n : Nat) (f e : Nat → Int) (i : Nat), n ≤ i → quoL g s n f e i = e i
  | 0, _, _, _, _ => rfl
  | n + 1, f, e, i, h => by
    rw [quoL, quoL_z n _ _ i (by omega)]
    unfold updI
    rw [if_neg (by omega)]
theorem zb_quoP (a b : Nat → Int) : zb (quoP a b) := by
  have h1 := stI_le b 7
  have h2 := stI_le a 7
  unfold quoP
  split
  · exact zb_0
  · exact zb_mkpos (zb_prm (fun i hi => quoL_z _ _ _ i (by omega)))
theorem zb_sqf (p : Nat → Int) : zb (sqfP p) := zb_quoP _ _
theorem zb_stE {p : Nat → Int} (h : zb p) : ∀ n, zb (stE p n)
  | 0 => zb_prm h
  | 1 => zb_prm (zb_der p)
  | n + 2 => zb_prm (zb_neg (zb_red (zb_stE h n)))
theorem zb_rmF : ∀ (n : Nat) (f g : Nat → Int), zb f → zb (rmF n f g)
  | 0, _, _, h => h
  | n + 1, f, g, h => by
    rw [rmF]
    have h2 := stI_le f 7
    split
    · exact h
    · exact zb_rmF n _ _ (zb_prm (zb_redS (by omega) h))
theorem zb_gcF : ∀ (n : Nat) (f g : Nat → Int), zb f → zb g → zb (gcF n f g)
  | 0, _, _, h, _ => h
  | n + 1, f, g, h1, h2 => by
    rw [gcF]
    split
    · exact h1
    · exact zb_gcF n _ _ h2 (zb_rmF 8 _ _ h1)
theorem zb_gcR {f g : Nat → Int} (hf : zb f) (hg : zb g) : zb (gcR f g) := by
  unfold gcR
  refine zb_mkpos (zb_prm ?_)
  split
  · exact zb_gcF _ _ _ hg hf
  · exact zb_gcF _ _ _ hf hg
/-- an elimination, made primitive -/
theorem rmS_iv {f g : Nat → Int} (hg : stI g 7 ≠ 0) (h : stI g 7 ≤ stI f 7) : (∃ (l : Rat) (Q : Rat → Rat), 0 < l ∧ isPo Q ∧ ∀ x, iv (prm (rmS f g)) x = l * iv f x - Q x * iv g x) ∧ stI (prm (rmS f g)) 7 < stI f 7 := by
  have h1 := stI_le g 7
  have h2 := stI_le f 7
  have ht := stI_top (p := g) (n := 7) (by omega)
  obtain ⟨l, c, hl, h3⟩ := redS_iv (f := f) (g := g) (s := stI g 7 - 1) (t := stI f 7 - 1) (by omega) (by omega) (fun i a b => stI_z (n := 7) (by omega) b) (fun i a b => stI_z (n := 7) (by omega) b) ht
  have h4 : stI (rmS f g) 7 ≤ stI f 7 - 1 := stI_lt (fun i a b => redS_z (fun i a b => stI_z (n := 7) (by omega) b) i a b)
  refine ⟨?_, by rw [stI_prm]; omega⟩
  obtain ⟨e, he, h5⟩ := iv_prm2 (rmS f g)
  have he2 := Rat.mul_inv_cancel e (Rat.ne_of_gt he)
  refine ⟨e⁻¹ * l, fun x => e⁻¹ * (-c * x ^ (stI f 7 - 1 - (stI g 7 - 1))), Rat.mul_pos (Rat.inv_pos.mpr he) hl, isPo_s _ ⟨_, raU_pow _ (-c)⟩, fun x => ?_⟩
  have a1 := h5 x
  have a2 := h3 x
  unfold rmS at a1 ⊢
  rw [a2] at a1
  generalize e⁻¹ = w at *
  generalize x ^ (stI f 7 - 1 - (stI g 7 - 1)) = y at *
  have : w * (l * iv f x + c * (iv g x * y)) = (e * w) * iv (prm (redS f g (stI g 7 - 1) (stI f 7 - 1))) x := by rw [a1]; grind
  rw [he2] at this
  grind
theorem rmF_rem : ∀ (n : Nat) (f g : Nat → Int), stI g 7 ≠ 0 → stI f 7 < stI g 7 + n → isRem (rmF n f g) f g ∧ (stI g 7 ≤ stI f 7 → prz (rmF n f g))
  | 0, f, g, _, h => ⟨⟨⟨1, fun _ => 0, by decide, isPo_c 0, fun x => by rw [rmF]; grind⟩, by rw [rmF]; omega⟩, fun q => by omega⟩
  | n + 1, f, g, hg, h => by
    rw [rmF]
    by_cases c : stI f 7 < stI g 7
    · rw [if_pos c]
      exact ⟨⟨⟨1, fun _ => 0, by decide, isPo_c 0, fun x => by grind⟩, c⟩, fun q => by omega⟩
    · rw [if_neg c]
      obtain ⟨⟨l, Q, hl, hQ, h1⟩, h2⟩ := rmS_iv (f := f) hg (by omega)
      obtain ⟨⟨⟨l2, Q2, hl2, hQ2, h3⟩, h4⟩, h5⟩ := rmF_rem n (prm (rmS f g)) g hg (by omega)
      refine ⟨⟨⟨l2 * l, fun x => l2 * Q x + Q2 x, Rat.mul_pos hl2 hl, isPo_add (isPo_s _ hQ) hQ2, fun x => by rw [h3, h1]; grind⟩, h4⟩, fun _ => ?_⟩
      by_cases d : stI g 7 ≤ stI (prm (rmS f g)) 7
      · exact h5 d
      · have : rmF n (prm (rmS f g)) g = prm (rmS f g) := by
          cases n with
          | zero => rfl
          | succ n => rw [rmF, if_pos (by omega)]
        rw [this]
        exact prz_prm _
theorem isGc_z {f g : Nat → Int} (hg : stI g 7 = 0) : isGc f f g := ⟨⟨fun _ => 1, isPo_c 1, fun x => by grind⟩, ⟨fun _ => 0, isPo_c 0, fun x => by rw [iv_zero hg]; grind⟩, fun _ => 1, fun _ => 0, isPo_c 1, isPo_c 0, fun x => by grind⟩
theorem gcF_gc : ∀ (k : Nat) (f g : Nat → Int), stI g 7 ≤ k → isGc (gcF k f g) f g
  | 0, f, g, h => isGc_z (by omega)
  | k + 1, f, g, h => by
    rw [gcF]
    by_cases hg : stI g 7 = 0
    · rw [if_pos hg]; exact isGc_z hg
    · rw [if_neg hg]
      have h2 := stI_le f 7
      have hr := (rmF_rem 8 f g hg (by omega)).1
      exact isGc_step hr (gcF_gc k g _ (by have := hr.2; omega))
theorem isGc_sym {d f g : Nat → Int} (h : isGc d f g) : isGc d g f := by
  obtain ⟨h1, h2, A, B, hA, hB, h3⟩ := h
  exact ⟨h2, h1, B, A, hB, hA, fun x => by rw [h3]; grind⟩
theorem gcR_gc (f g : Nat → Int) : isGc (gcR f g) f g ∧ prz (gcR f g) ∧ 0 ≤ ldI (gcR f g) := by
  have key : ∀ d, isGc d f g → isGc (mkpos (prm d)) f g ∧ prz (mkpos (prm d)) ∧ 0 ≤ ldI (mkpos (prm d)) := fun d hd => by
    obtain ⟨e, he, h2⟩ := iv_mkpos (prm d)
    obtain ⟨c, hc, h3⟩ := iv_prm2 d
    have hc2 := Rat.mul_inv_cancel c (Rat.ne_of_gt hc)
    refine ⟨isGc_sc hd (a := e * c⁻¹) (b := 1) (c := 1) (fun q => ?_) (by decide) (by decide) (fun x => ?_) (fun x => by grind) (fun x => by grind), mkpos_prz (prz_prm d), mkpos_ld _⟩
    · rcases Rat.mul_eq_zero.mp q with q | q
      · rcases he with he | he <;> rw [he] at q <;> exact absurd q (by decide)
      · rw [q, Rat.mul_zero] at hc2; exact absurd hc2 (by decide)
    · rw [h2, h3]
      generalize c⁻¹ = w at *
      have : e * w * (c * iv (prm d) x) = e * (c * w) * iv (prm d) x := by grind
      rw [this, hc2]; grind
  unfold gcR
  split
  · exact key _ (isGc_sym (gcF_gc 8 g f (by have := stI_le f 7; omega)))
  · exact key _ (gcF_gc 8 f g (by have := stI_le g 7; omega))
/-- the reference's greatest common divisor is the class's -/
theorem gcR_eq {f g : Nat → Int} (hf : zb f) (hg : zb g) : gcR f g = gcdP f g := by
  obtain ⟨a1, a2, a3⟩ := gcR_gc f g
  obtain ⟨b1, b2, b3⟩ := gcdP_gc f g
  exact zb_ext (zb_gcR hf hg) (zb_gcdP hf hg) (gc_uniq a1 b1 a2 b2 a3 b3)
/-- p = u d, d its greatest common divisor with its derivative -/
theorem gcd_pr {p : Nat → Int} (h0 : stI p 7 ≠ 0) : isPr (gcdP p (derI p)) ∧ ∃ u, isPo u ∧ ∀ x, iv p x = u x * iv (gcdP p (derI p)) x := by
  obtain ⟨⟨⟨u, hu, h1⟩, _, _⟩, h2, _⟩ := gcdP_gc p (derI p)
  refine ⟨h2.resolve_right (fun q => iv_nz h0 (fun x => by rw [h1, iv_zero q]; grind)), u, hu, h1⟩
theorem frP_eq {p : Nat → Int} (hp : zb p) (h0 : stI p 7 ≠ 0) : frP p = sqfP p := by
  obtain ⟨h1, u, hu, h2⟩ := gcd_pr h0
  unfold frP sqfP
  rw [gcR_eq hp (zb_der p)]
  obtain ⟨⟨c1, hc1, a1⟩, a2, a3⟩ := quoP_iv h1 hu h2
  obtain ⟨e, he, h3⟩ := iv_prm2 p
  have he2 := Rat.mul_inv_cancel e (Rat.ne_of_gt he)
  obtain ⟨⟨c2, hc2, b1⟩, b2, b3⟩ := quoP_iv (a := prm p) h1 (isPo_s e⁻¹ hu) (fun x => by
    have q1 := h2 x
    rw [h3] at q1
    generalize e⁻¹ = w at *
    have : w * u x * iv (gcdP p (derI p)) x = (e * w) * iv (prm p) x := by
      have : w * u x * iv (gcdP p (derI p)) x = w * (u x * iv (gcdP p (derI p)) x) := by grind
      rw [this, ← q1]; grind
    rw [this, he2]; grind)
  have hc12 := Rat.mul_inv_cancel c1 hc1
  refine zb_ext (zb_quoP _ _) (zb_quoP _ _) (prz_uniq (c := c2 * e⁻¹ * c1⁻¹) (fun q => ?_) b2 a2 b3 a3 (fun x => ?_))
  · rcases Rat.mul_eq_zero.mp q with q | q
    · rcases Rat.mul_eq_zero.mp q with q | q
      · exact hc2 q
      · rw [q, Rat.mul_zero] at he2; exact absurd he2 (by decide)
    · rw [q, Rat.mul_zero] at hc12; exact absurd hc12 (by decide)
  · rw [a1, b1]
    generalize e⁻¹ = w at *
    generalize c1⁻¹ = v at *
    have : c2 * w * v * (c1 * u x) = c2 * w * (c1 * v) * u x := by grind
    rw [this, hc12]; grind
theorem prm_neg (f : Nat → Int) : prm (fun i => -f i) = fun i => -prm f i := by
  funext i
  unfold prm
  rw [cont_ng, Int.neg_tdiv]
theorem stE_dec {p : Nat → Int} (h0 : stI p 7 ≠ 0) : ∀ n, stI (stE p n) 7 ≠ 0 → stI (stE p (n + 1)) 7 < stI (stE p n) 7
  | 0, _ => by
    rw [stE, stE, stI_prm, stI_prm]
    refine Nat.lt_of_le_of_lt (stI_lt (s := stI p 7 - 1) (fun i a b => ?_)) (show stI p 7 - 1 < stI p 7 by omega)
    unfold derI
    split
    · rw [stI_z (p := p) (n := 7) (by omega) (by omega), Int.zero_mul]
    · rfl
  | n + 1, h => by
    rw [stE, stI_prm, stI_neg]
    exact (red_rem h).2
/-- the reference's row is Sturm's sequence -/
theorem rwE_eq {p : Nat → Int} (hp : zb p) (h0 : stI p 7 ≠ 0) : ∀ i, (∀ j, 1 ≤ j → j < i → stI (stE p j) 7 ≠ 0) → rwE p i = stE p i
  | 0, _ => rfl
  | 1, _ => rfl
  | n + 2, h => by
    have e1 := rwE_eq hp h0 n (fun j a b => h j a (by omega))
    have e2 := rwE_eq hp h0 (n + 1) (fun j a b => h j a (by omega))
    have hg : stI (stE p (n + 1)) 7 ≠ 0 := h _ (by omega) (by omega)
    have hn : stI (stE p n) 7 ≠ 0 := by
      cases n with
      | zero => rw [stE, stI_prm]; exact h0
      | succ n => exact h _ (by omega) (by omega)
    rw [rwE, e1, e2, stE, prm_neg]
    funext t
    have h7 := stI_le (stE p n) 7
    obtain ⟨a1, a2⟩ := rmF_rem 8 (stE p n) (stE p (n + 1)) hg (by omega)
    have := zb_ext (zb_rmF 8 _ _ (zb_stE hp n)) (zb_prm (zb_red (zb_stE hp n))) (rem_uniq a1 (prm_rem (red_rem hg)) (a2 (Nat.le_of_lt (stE_dec h0 n hn))) (prz_prm _))
    rw [this]
