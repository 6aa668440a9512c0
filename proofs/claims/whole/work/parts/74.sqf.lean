/-! exact quotients -/
theorem iv_Uz {p : Nat → Int} {n : Nat} (h : raU n (iv p)) : ∀ i, n ≤ i → i < 7 → p i = 0 := by
  intro i h1 h2
  by_cases q : stI p 7 = 0
  · exact stI_z (n := 7) (by omega) h2
  · obtain ⟨k, hk⟩ : ∃ k, stI p 7 = k + 1 := ⟨stI p 7 - 1, by omega⟩
    have := raW_nU (iv_W hk) h
    exact stI_z (n := 7) (by omega) h2
theorem quoF_iv {f g : Nat → Int} {s n : Nat} {D : Int} (hn : n + s < 7) (hg : ∀ i, s < i → i < 7 → g i = 0) (x : Rat) : iv (fun i => if n ≤ i ∧ i ≤ n + s then f i - D * g (i - n) else f i) x = iv f x - (D : Rat) * (iv g x * x ^ n) := by
  rw [← iv_shift (g := g) (d := n) (fun i h1 h2 => hg i (by omega) h1)]
  have := iv_lin 1 (-D) f (fun i => if i < n then 0 else g (i - n)) x
  rw [show iv f x - (D : Rat) * iv (fun i => if i < n then 0 else g (i - n)) x = ((1 : Int) : Rat) * iv f x + ((-D : Int) : Rat) * iv (fun i => if i < n then 0 else g (i - n)) x by rw [Rat.intCast_neg, Rat.intCast_one]; grind, ← this]
  refine congrFun (iv_cong (fun i hi => ?_)) x
  by_cases q1 : i < n
  · rw [if_neg (by omega), if_pos q1]; omega
  · rw [if_neg q1]
    by_cases q2 : i ≤ n + s
    · rw [if_pos ⟨by omega, q2⟩, Int.neg_mul]; omega
    · rw [if_neg (by omega), hg (i - n) (by omega) (by omega)]; omega
theorem quoL_iv {g : Nat → Int} {s : Nat} (hg : ∀ i, s < i → i < 7 → g i = 0) (hs : g s ≠ 0) (q : Nat → Int) : ∀ (n : Nat) (f e : Nat → Int), n + s ≤ 7 → (∀ x, iv f x = raV (ivn n q) x * iv g x) → ∀ i, quoL g s n f e i = if i < n then q i else e i
  | 0, f, e, _, _, i => by rw [quoL, if_neg (Nat.not_lt_zero _)]
  | n + 1, f, e, hn, h, i => by
    have hgU : raU (s + 1) (iv g) := raU_up (iv_U g) (stI_lt (fun i a b => hg i (by omega) b))
    have e1 : ∀ x, iv (fun i => if n ≤ i ∧ i ≤ n + s then f i - q n * g (i - n) else f i) x = raV (ivn n q) x * iv g x := fun x => by
      rw [quoF_iv (by omega) hg, h, ivn_s]; grind
    have hU : raU (n + s) (iv (fun i => if n ≤ i ∧ i ≤ n + s then f i - q n * g (i - n) else f i)) := by
      cases n with
      | zero => exact raU_eq (raU_z _) (fun x => by rw [e1, ivn_0]; grind)
      | succ n => exact raU_eq (raU_up (raU_mul ⟨_, by rw [ivn_len]; exact Nat.le_refl _, fun _ => rfl⟩ hgU) (by omega)) e1
    have hz := iv_Uz hU (n + s) (Nat.le_refl _) (by omega)
    (try dsimp only at hz)
    rw [if_pos ⟨by omega, Nat.le_refl _⟩, Nat.add_sub_cancel_left] at hz
    have hD : quoD f g s n = q n := by
      unfold quoD
      rw [show f (n + s) = q n * g s by omega]
      exact Int.mul_tdiv_cancel _ hs
    rw [quoL, hD]
    have hF : quoF f g s n = fun i => if n ≤ i ∧ i ≤ n + s then f i - q n * g (i - n) else f i := by unfold quoF; rw [hD]
    rw [quoL_iv hg hs q n _ _ (by omega) (fun x => by rw [hF]; exact e1 x)]
    unfold updI
    by_cases q1 : i < n
    · rw [if_pos q1, if_pos (by omega)]
    · rw [if_neg q1]
      by_cases q2 : i = n
      · rw [if_pos q2, if_pos (by omega), q2]
      · rw [if_neg q2, if_neg (by omega)]
/-- the quotient by a primitive divisor -/
theorem quoP_iv {a b : Nat → Int} {w : Rat → Rat} (hb : isPr b) (hw : isPo w) (h : ∀ x, iv a x = w x * iv b x) : (∃ c : Rat, c ≠ 0 ∧ ∀ x, iv (quoP a b) x = c * w x) ∧ prz (quoP a b) ∧ 0 ≤ ldI (quoP a b) := by
  have hb0 := pr_nz hb
  have h7 := stI_le b 7
  have h8 := stI_le a 7
  obtain ⟨s, hs⟩ : ∃ s, stI b 7 = s + 1 := ⟨stI b 7 - 1, by omega⟩
  have ht := stI_top (p := b) (n := 7) (by omega)
  rw [hs, Nat.add_sub_cancel] at ht
  have hz : ∀ i, s < i → i < 7 → b i = 0 := fun i a b => stI_z (n := 7) (by omega) b
  obtain ⟨n, hn⟩ : ∃ n, n = stI a 7 + 1 - stI b 7 := ⟨_, rfl⟩
  have hU : raU n w := by
    rcases isPo_W hw with q | ⟨k, q⟩
    · exact raU_eq (raU_z _) q
    · have := raW_mul q (iv_W hs)
      have hW := raW_eq this h
      have ha0 : stI a 7 ≠ 0 := fun z => raW_n0 hW (iv_zero z)
      have := raW_un hW (iv_W (p := a) (k := stI a 7 - 1) (by omega))
      exact raU_up (raU_W q) (by omega)
  obtain ⟨q, hq1, hq2⟩ := gauss hb hU (by omega) h
  have hcut : ∀ x, w x = raV (ivn n q) x := fun x => by
    rw [hq2]
    have : ∀ k, n + k ≤ 7 → raV (ivn (n + k) q) x = raV (ivn n q) x := by
      intro k
      induction k with
      | zero => intro _; rfl
      | succ k ih => intro hk; rw [← Nat.add_assoc, ivn_s, ih (by omega), hq1 _ (by omega), Rat.intCast_zero]; grind
    have h7 := this (7 - n) (by omega)
    rw [show n + (7 - n) = 7 by omega] at h7
    exact h7
  have key := quoL_iv hz ht q n a (fun _ => 0) (by omega) (fun x => by rw [h, hcut])
  have e1 : ∀ x, iv (quoL b s n a (fun _ => 0)) x = w x := fun x => by
    rw [hq2]
    refine congrFun (iv_cong (fun i hi => ?_)) x
    rw [key]
    by_cases c : i < n
    · rw [if_pos c]
    · rw [if_neg c, hq1 i (by omega)]
  have e2 : quoP a b = mkpos (prm (quoL b s n a (fun _ => 0))) := by
    unfold quoP
    rw [if_neg hb0, hs, Nat.add_sub_cancel, hn, hs]
  obtain ⟨e, he, h3⟩ := iv_mkpos (prm (quoL b s n a (fun _ => 0)))
  obtain ⟨c, hc, h4⟩ := iv_prm2 (quoL b s n a (fun _ => 0))
  have he0 : e ≠ 0 := by rcases he with he | he <;> rw [he] <;> decide
  have hci := Rat.mul_inv_cancel c (Rat.ne_of_gt hc)
  refine ⟨⟨e * c⁻¹, fun q => ?_, fun x => ?_⟩, by rw [e2]; exact mkpos_prz (prz_prm _), by rw [e2]; exact mkpos_ld _⟩
  · rcases Rat.mul_eq_zero.mp q with q | q
    · exact he0 q
    · rw [q, Rat.mul_zero] at hci; exact absurd hci (by decide)
  · have a1 := h4 x
    rw [e1] at a1
    rw [e2, h3, a1]
    have : e * c⁻¹ * (c * iv (prm (quoL b s n a fun _ => 0)) x) = e * (c * c⁻¹) * iv (prm (quoL b s n a fun _ => 0)) x := by generalize c⁻¹ = w; grind
    rw [this, hci]; grind
/-! derivatives of polynomial functions -/
def Dv (f f' : Rat → Rat) : Prop := ∃ l, (∀ x, f x = raV l x) ∧ ∀ x, f' x = raV (raD l) x
theorem Dv_ex {f : Rat → Rat} (h : isPo f) : ∃ f', isPo f' ∧ Dv f f' := by
  obtain ⟨n, l, h1, h2⟩ := h
  exact ⟨raV (raD l), ⟨_, raU_l _⟩, l, h2, fun _ => rfl⟩
theorem raD_z : ∀ l : List Rat, (∀ a ∈ l, a = 0) → ∀ x, raV (raD l) x = 0
  | [], _, _ => rfl
  | a :: t, h, x => by
    have hz : ∀ (t : List Rat), (∀ a ∈ t, a = 0) → ∀ x, raV t x = 0 := by
      intro t
      induction t with
      | nil => intro _ _; rfl
      | cons b t ih => intro h x; rw [raV, h b List.mem_cons_self, ih (fun a ha => h a (List.mem_cons_of_mem _ ha))]; grind
    rw [raV_D, hz t (fun b hb => h b (List.mem_cons_of_mem _ hb)), raD_z t (fun b hb => h b (List.mem_cons_of_mem _ hb)) x]; grind
theorem Dv_un {f f' g g' : Rat → Rat} (hf : Dv f f') (hg : Dv g g') (e : ∀ x, f x = g x) : ∀ x, f' x = g' x := by
  obtain ⟨l, a1, a2⟩ := hf
  obtain ⟨m, b1, b2⟩ := hg
  intro x
  have hz : ∀ x, raV (raA l (raS (-1) m)) x = 0 := fun x => by rw [raV_A, raV_S, ← a1, ← b1, e]; grind
  have := raD_z _ (raV_zero _ hz) x
  rw [raV_DA, raV_DS, ← a2, ← b2] at this
  grind
theorem Dv_mul {f f' g g' : Rat → Rat} (hf : Dv f f') (hg : Dv g g') : Dv (fun x => f x * g x) (fun x => f' x * g x + f x * g' x) := by
  obtain ⟨l, a1, a2⟩ := hf
  obtain ⟨m, b1, b2⟩ := hg
  exact ⟨raM l m, fun x => by (try dsimp only); rw [raV_M, a1, b1], fun x => by (try dsimp only); rw [raV_DM, a1, a2, b1, b2]⟩
theorem Dv_iv (p : Nat → Int) : Dv (iv p) (iv (derI p)) := ⟨ivn 7 p, fun _ => rfl, iv_der p⟩
theorem Dv_s {f f' : Rat → Rat} (c : Rat) (h : Dv f f') : Dv (fun x => c * f x) (fun x => c * f' x) := by
  obtain ⟨l, a1, a2⟩ := h
  exact ⟨raS c l, fun x => by (try dsimp only); rw [raV_S, a1], fun x => by (try dsimp only); rw [raV_DS, a2]⟩
theorem Dv_eq {f f' g : Rat → Rat} (h : Dv f f') (e : ∀ x, g x = f x) : Dv g f' := by
  obtain ⟨l, a1, a2⟩ := h
  exact ⟨l, fun x => by rw [e, a1], a2⟩
theorem Dv_po {f f' : Rat → Rat} (h : Dv f f') : isPo f ∧ isPo f' := by
  obtain ⟨l, a1, a2⟩ := h
  exact ⟨isPo_eq ⟨_, raU_l l⟩ a1, isPo_eq ⟨_, raU_l _⟩ a2⟩
theorem Dv_X (r : Rat) : Dv (fun x => x - r) (fun _ => 1) := ⟨[-r, 1], fun x => by simp only [raV]; grind, fun x => by simp only [raD, raA, raV]; grind⟩
theorem sf_1 {A B e a v f f' h : Rat} (o : A * (e * a) + B * v = 1) (s : v * f = e * (a * f' + h * f)) : f = e * (A * (a * f) + B * (a * f' + h * f)) := by
  have e1 : (A * (e * a) + B * v) * f = A * (e * a) * f + B * (v * f) := by grind
  rw [o, s] at e1
  grind
theorem sf_2 {v e e' a a' b f1 f1' h f f' : Rat} (s : v * f = e * (a * f' + h * f)) (h1 : f = e * f1) (h2 : f' = e' * f1 + e * f1') (h3 : e' * a = e * (b - a')) : e * (v * f1) = e * (e * (a * f1' + (h + (b - a')) * f1)) := by
  rw [h1, h2] at s
  have : a * (e' * f1) = e * (b - a') * f1 := by rw [← h3]; grind
  grind
/-- the square-free part: p = u d, u = e a, u' = e b, A u + B v = 1, e not constant: no f but 0 is so -/
theorem sq_free {v e e' a a' b A B : Rat → Rat} {k : Nat} (he : Dv e e') (ha : Dv a a') (hea : ∀ x, e' x * a x = e x * (b x - a' x)) (hb : isPo b) (hv : isPo v) (hA : isPo A) (hB : isPo B) (hk : raW k e) (hk0 : 0 < k) (one : ∀ x, A x * (e x * a x) + B x * v x = 1) : ∀ (n : Nat) (f f' h : Rat → Rat), raU n f → Dv f f' → isPo h → (∀ x, v x * f x = e x * (a x * f' x + h x * f x)) → ∀ x, f x = 0 := by
  intro n
  induction n with
  | zero => intro f f' h hf _ _ _; exact raU_0 hf
  | succ n ih =>
    intro f f' h hf hd hh hs
    have pa := (Dv_po ha).1
    have hf1 : isPo (fun x => A x * (a x * f x) + B x * (a x * f' x + h x * f x)) := isPo_add (isPo_mul hA (isPo_mul pa (Dv_po hd).1)) (isPo_mul hB (isPo_add (isPo_mul pa (Dv_po hd).2) (isPo_mul hh (Dv_po hd).1)))
    obtain ⟨f1, hf1e⟩ : ∃ f1 : Rat → Rat, f1 = fun x => A x * (a x * f x) + B x * (a x * f' x + h x * f x) := ⟨_, rfl⟩
    rw [← hf1e] at hf1
    have e4 : ∀ x, f x = e x * f1 x := fun x => by rw [hf1e]; exact sf_1 (one x) (hs x)
    obtain ⟨f1', hp1, hd1⟩ := Dv_ex hf1
    have e5 := Dv_un hd (Dv_mul he hd1) e4
    have hU1 : raU n f1 := by
      rcases isPo_W hf1 with q | ⟨m, q⟩
      · exact raU_eq (raU_z _) q
      · have := raW_nU (raW_eq (raW_mul hk q) e4) hf
        exact raU_up (raU_W q) (by omega)
    have hh1 : isPo (fun x => h x + (b x - a' x)) := isPo_add hh (isPo_sub hb (Dv_po ha).2)
    have e6 : ∀ x, v x * f1 x = e x * (a x * f1' x + (h x + (b x - a' x)) * f1 x) := by
      obtain ⟨N1, hN1⟩ := (Dv_po he).1
      obtain ⟨N2, hN2⟩ := isPo_mul hv hf1
      obtain ⟨N3, hN3⟩ := isPo_mul (Dv_po he).1 (isPo_add (isPo_mul pa hp1) (isPo_mul hh1 hf1))
      exact raU_can hN1 hN2 hN3 (fun x => sf_2 (hs x) (e4 x) (e5 x) (hea x)) (raW_n0 hk)
    have z := ih f1 f1' (fun x => h x + (b x - a' x)) hU1 hd1 hh1 e6
    intro x
    rw [e4, z, Rat.mul_zero]
theorem sf_3 {v u' u d d' : Rat} (h : v * d = u' * d + u * d') {e a b : Rat} (h1 : u = e * a) (h2 : u' = e * b) : v * d = e * (a * d' + b * d) := by rw [h, h1, h2]; grind
theorem sf_4 {e' a e a' b u' : Rat} (h : u' = e' * a + e * a') (h2 : u' = e * b) : e' * a = e * (b - a') := by grind
/-- u and u' have no common factor -/
theorem sq_co {u v d u' d' A B e e' : Rat → Rat} {k : Nat} (hu : Dv u u') (hd : Dv d d') (hv : isPo v) (hA : isPo A) (hB : isPo B) (hn : ¬ ∀ x, d x = 0) (hvd : ∀ x, v x * d x = u' x * d x + u x * d' x) (one : ∀ x, A x * u x + B x * v x = 1) (he : Dv e e') (hk : raW k e) (d1 : ∃ a, isPo a ∧ ∀ x, u x = e x * a x) (d2 : ∃ b, isPo b ∧ ∀ x, u' x = e x * b x) : k = 0 := by
  rcases Nat.eq_zero_or_pos k with q | q
  · exact q
  · obtain ⟨a, ha, h1⟩ := d1
    obtain ⟨b, hb, h2⟩ := d2
    obtain ⟨a', _, hda⟩ := Dv_ex ha
    obtain ⟨n, hdn⟩ := (Dv_po hd).1
    have e3 := Dv_un hu (Dv_mul he hda) h1
    exact absurd (sq_free (v := v) (b := b) he hda (fun x => sf_4 (e3 x) (h2 x)) hb hv hA hB hk q (fun x => by rw [← h1]; exact one x) n d d' b hdn hd hb (fun x => sf_3 (hvd x) (h1 x) (h2 x))) hn
theorem sf_5 {v u' u y f f' k : Rat} {d : Rat} (h : (v - u') * (y * d) = u * (k * d + y * f')) (hd : d = y * f) {f1' : Rat} (hf : f' = 1 * f + y * f1') : y * ((v - u') * (y * f)) = y * (u * ((k + 1) * f + y * f1')) := by
  rw [hd, hf] at h
  grind
/-- where p is 0, so is its square-free part -/
theorem sq_root {u v d u' d' : Rat → Rat} (hu : Dv u u') (hd : Dv d d') (hv : isPo v) (hn : ¬ ∀ x, d x = 0) (hvd : ∀ x, v x * d x = u' x * d x + u x * d' x) (r : Rat) (hr : d r = 0) : u r = 0 := by
  refine Classical.byContradiction (fun hur => hn ?_)
  have key : ∀ (n : Nat) (k : Nat) (f f' : Rat → Rat), raU n f → Dv f f' → (∀ x, (v x - u' x) * ((x - r) * f x) = u x * ((k : Rat) * f x + (x - r) * f' x)) → f r = 0 → ∀ x, f x = 0 := by
    intro n
    induction n with
    | zero => intro k f f' hf _ _ _; exact raU_0 hf
    | succ n ih =>
      intro k f f' hf hd hs h0
      obtain ⟨l, hl1, hl2⟩ := hf
      have e1 : ∀ x, f x = (x - r) * raV (raT r l) x := fun x => by
        rw [hl2, raV_T r l x, ← hl2 r, h0]; grind
      obtain ⟨f1', hp1, hd1⟩ := Dv_ex (f := raV (raT r l)) ⟨_, raU_l _⟩
      have e2 := Dv_un hd (Dv_mul (Dv_X r) hd1) e1
      have e3 : ∀ x, (v x - u' x) * ((x - r) * raV (raT r l) x) = u x * (((k + 1 : Nat) : Rat) * raV (raT r l) x + (x - r) * f1' x) := by
        have hX : isPo (fun x : Rat => x - r) := (Dv_po (Dv_X r)).1
        have hT : isPo (raV (raT r l)) := ⟨_, raU_l _⟩
        obtain ⟨N1, hN1⟩ := id hX
        obtain ⟨N2, hN2⟩ := isPo_mul (isPo_sub hv (Dv_po hu).2) (isPo_mul hX hT)
        obtain ⟨N3, hN3⟩ := isPo_mul (Dv_po hu).1 (isPo_add (isPo_s ((k + 1 : Nat) : Rat) hT) (isPo_mul hX hp1))
        refine raU_can hN1 hN2 hN3 (fun x => ?_) (fun z => ?_)
        · (try dsimp only)
          rw [ra_c1]
          exact sf_5 (hs x) (e1 x) (e2 x)
        · have := z (r + 1)
          (try dsimp only at this)
          grind
      have e4 : raV (raT r l) r = 0 := by
        have := e3 r
        rw [show r - r = 0 by grind, Rat.zero_mul, Rat.mul_zero, Rat.zero_mul, Rat.add_zero] at this
        have h5 := (Rat.mul_eq_zero.mp this.symm).resolve_left hur
        refine (Rat.mul_eq_zero.mp h5).resolve_left (fun q => ?_)
        have := Rat.natCast_eq_zero_iff.mp q
        omega
      have z := ih (k + 1) (raV (raT r l)) f1' ⟨_, by rw [raT_len]; omega, fun _ => rfl⟩ hd1 e3 e4
      intro x
      rw [e1, z, Rat.mul_zero]
  obtain ⟨n, hdn⟩ := (Dv_po hd).1
  exact key n 0 d d' hdn hd (fun x => by
    rw [show ((0 : Nat) : Rat) = 0 from rfl]
    have := hvd x
    grind) hr
