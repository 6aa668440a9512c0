/-! the square-free part far out; how many roots an interval may have; isTrue tells true -/
theorem far_b {p : Nat → Int} (hp : ∀ k, k < 7 → (p k).natAbs ≤ 9999) (h0 : stI p 7 ≠ 0) : farK p (rBd p) := by
  obtain ⟨a, b, _⟩ := rBd_ok hp h0
  exact ⟨b, fun i hi => Nat.le_trans (grP_at p _ i hi) a⟩
theorem sqf_far {p : Nat → Int} {b : Nat} (h0 : stI p 7 ≠ 0) (hb : farK p b) {u v : Rat} (hf : (b : Rat) ≤ u ∨ v ≤ -(b : Rat)) : ∀ x y, u ≤ x → x < y → y ≤ v → 0 < iv (sqfP p) x * iv (sqfP p) y := by
  obtain ⟨⟨w, c1, hc1, hw, a1, a2⟩, _⟩ := sqf_all h0
  have hi := Rat.mul_inv_cancel c1 hc1
  have e : ∀ x, iv p x = raV (raS c1⁻¹ (ivn 7 (gcdP p (derI p)))) x * iv (sqfP p) x := fun x => by
    rw [raV_S, a1, a2]
    show w x * iv (gcdP p (derI p)) x = c1⁻¹ * iv (gcdP p (derI p)) x * (c1 * w x)
    generalize c1⁻¹ = z at *
    have : z * iv (gcdP p (derI p)) x * (c1 * w x) = (c1 * z) * (w x * iv (gcdP p (derI p)) x) := by grind
    rw [this, hi]; grind
  obtain ⟨X, hX, hXu, hXv⟩ := ra_two u v
  obtain ⟨C, hC, hbd⟩ := raV_bd X hX (raS c1⁻¹ (ivn 7 (gcdP p (derI p))))
  obtain ⟨ep, hep, hCe⟩ := ra_quo (K := C) (P := ((p (stI p 7 - 1)).natAbs : Rat)) hC (far_L h0)
  exact sgn_const (l := ivn 7 (sqfP p)) hep (fun x h1 h2 => by
    show ep ≤ iv (sqfP p) x ∨ iv (sqfP p) x ≤ -ep
    have hx : (b : Rat) ≤ x ∨ x ≤ -(b : Rat) := hf.imp (fun q => Rat.le_trans q h1) (fun q => Rat.le_trans h2 q)
    have pf := p_far h0 hb hx
    rcases ra_lt_or (iv (sqfP p) x) ep with q1 | q1
    · rcases ra_lt_or (-ep) (iv (sqfP p) x) with q2 | q2
      · exfalso
        have := ra_mul hC (Rat.le_of_lt hep) (hbd x (ra_mid hXu hXv h1 h2)) (show raI ep (iv (sqfP p) x) from ⟨Rat.le_of_lt q2, Rat.le_of_lt q1⟩)
        rw [← e] at this
        obtain ⟨t1, t2⟩ := this
        rcases pf with pf | pf <;> grind
      · exact Or.inr q2
    · exact Or.inl q1)
theorem sqf_none {p : Nat → Int} {b : Nat} (h0 : stI p 7 ≠ 0) (hb : farK p b) {n m : Int} {k l : Nat} (hlt : ptR n k < ptR m l) (hf : (b : Rat) ≤ ptR n k ∨ ptR m l ≤ -(b : Rat)) : stC (sqfP p) n k = stC (sqfP p) m l := by
  obtain ⟨H, g, c, hc, k1, k2, k3, k4⟩ := sqf_chp h0
  rw [k4, k4]
  refine ra_none k1 k2 hlt (fun x y a1 a2 a3 a4 => ?_)
  have hcc := Rat.mul_pos hc hc
  have two : ∀ x y, ptR n k ≤ x → x < y → y ≤ ptR m l → 0 < raV (H 0) x * raV (H 0) y := fun x y a1 a2 a3 => by
    have := Rat.mul_pos hcc (sqf_far h0 hb hf x y a1 a2 a3)
    rw [k3, k3]; grind
  have one : ∀ x, ptR n k ≤ x → x ≤ ptR m l → 0 < raV (H 0) x * raV (H 0) x := fun x a1 a2 => by
    refine ra_sqp (fun q => ?_)
    rcases ra_lt_or x (ptR m l) with w | w
    · have := two x _ a1 w Rat.le_refl
      rw [q, Rat.zero_mul] at this
      exact absurd this (by decide)
    · have hx : x = ptR m l := Rat.le_antisymm a2 w
      have := two (ptR n k) x Rat.le_refl (by rw [hx]; exact hlt) a2
      rw [q, Rat.mul_zero] at this
      exact absurd this (by decide)
  rcases ra_lt_or x y with w | w
  · exact two x y a1 w a4
  · rcases ra_lt_or y x with q | q
    · rw [Rat.mul_comm]; exact two y x a3 q a2
    · rw [Rat.le_antisymm q w]; exact one y a3 a4
theorem ptR_0 (n : Int) : ptR n 0 = (n : Rat) := by
  have := ptR_K n 0
  rw [Rat.pow_zero] at this
  rw [this]; grind
/-- the distinct roots, as the class counts them, are those between the bounds -/
theorem dR_rIn {p : Nat → Int} (hp : ∀ k, k < 7 → (p k).natAbs ≤ 9999) (h0 : stI p 7 ≠ 0) : dR p = rIn (sqfP p) 0 (-(rBd p : Int)) (rBd p) ∧ dR p = (stC (sqfP p) (-32768) 0 : Int) - stC (sqfP p) 32768 0 := by
  obtain ⟨_, b1, b2⟩ := rBd_ok hp h0
  have hb := far_b hp h0
  have hL := far_L h0
  have n1 : ∀ n : Int, (rBd p : Int) ≤ n → (rBd p : Rat) ≤ ptR n 0 := fun n hn => by
    rw [ptR_0, ← Rat.intCast_natCast]
    exact Rat.intCast_le_intCast.mpr hn
  have n2 : ∀ n : Int, n ≤ -(rBd p : Int) → ptR n 0 ≤ -(rBd p : Rat) := fun n hn => by
    rw [ptR_0, ← Rat.intCast_natCast, ← Rat.intCast_neg]
    exact Rat.intCast_le_intCast.mpr hn
  have nz : ∀ x : Rat, ((rBd p : Rat) ≤ x ∨ x ≤ -(rBd p : Rat)) → iv p x ≠ 0 := fun x hx q => by
    have := p_far h0 hb hx
    rw [q] at this
    rcases this with w | w <;> grind
  have e1 := cnt_sqf h0 (n := -32768) (m := 32768) (k := 0) (l := 0) (ptR_lt.mpr (by decide)) (nz _ (Or.inr (n2 _ (by omega)))) (nz _ (Or.inl (n1 _ (by omega))))
  have e2 := sqf_none h0 hb (n := -32768) (m := -(rBd p : Int)) (k := 0) (l := 0) (ptR_lt.mpr (by omega)) (Or.inr (n2 _ (Int.le_refl _)))
  have e3 := sqf_none h0 hb (n := (rBd p : Int)) (m := 32768) (k := 0) (l := 0) (ptR_lt.mpr (by omega)) (Or.inl (n1 _ (Int.le_refl _)))
  have e4 : ¬ sgnAt (sqfP p) (rBd p) 0 = 0 := fun q => by
    rw [sgn_0] at q
    exact nz _ (Or.inl (n1 _ (Int.le_refl _))) (((sqf_all h0).2.2.2.1 _).mpr q)
  refine ⟨?_, e1⟩
  unfold rIn dR
  rw [if_neg (by omega), stE_s0 h0, if_neg e4]
  omega
/-- an interval has no more roots than the degree -/
theorem stC_b {p : Nat → Int} (h0 : stI p 7 ≠ 0) (n : Int) (k : Nat) : stC p n k + 1 ≤ stI p 7 := by
  have h1 := stM_p h0
  have h2 := stM_le h0
  rw [stC_V]
  obtain ⟨j, hj⟩ : ∃ j, stM p = j + 1 := ⟨stM p - 1, by omega⟩
  rw [hj, ra_range1]
  have := raC_len0 (iv (stE p 0) (ptR n k)) ((List.range' 1 j).map (fun i => iv (stE p i) (ptR n k)))
  rw [List.length_map, List.length_range'] at this
  omega
theorem rIn_bd {p : Nat → Int} (h0 : stI p 7 ≠ 0) {a b : Int} {k : Nat} (hab : a < b) : 0 ≤ rIn (sqfP p) k a b ∧ rIn (sqfP p) k a b + 1 ≤ stI (sqfP p) 7 := by
  obtain ⟨H, g, c, hc, k1, k2, k3, k4⟩ := sqf_chp h0
  have h1 := stC_b (sqf_nz h0) a k
  obtain ⟨d, hd, h2⟩ := ra_sturm k1 k2 (ptR a k) (ptR b k)
  obtain ⟨t, t1, t2, t3⟩ := raZ_ex hd (ptR_lt.mpr hab)
  have h3 := h2 t t1 t2 t3
  have z : raV (H 0) (ptR b k) = 0 ↔ sgnAt (sqfP p) b k = 0 := by
    rw [sgn_0, k3]
    exact ⟨fun q => (Rat.mul_eq_zero.mp q).resolve_left (Rat.ne_of_gt hc), fun q => by rw [q, Rat.mul_zero]⟩
  rw [ra_if z, ← k4, ← k4] at h3
  unfold rIn
  rw [if_neg (by omega), stE_s0 h0]
  by_cases w : sgnAt (sqfP p) b k = 0
  · rw [if_pos w] at h3 ⊢; omega
  · rw [if_neg w] at h3 ⊢; omega
/-- both halves, and the midpoint -/
theorem rIn_half {p : Nat → Int} {a b : Int} {k : Nat} (hab : a < b) : rIn (sqfP p) k a b = rIn (sqfP p) (k + 1) (2 * a) (a + b) + (if sgnAt (stE (sqfP p) 0) (a + b) (k + 1) = 0 then 1 else 0) + rIn (sqfP p) (k + 1) (a + b) (2 * b) := by
  have ea : ∀ x : Int, ptR (2 * x) (k + 1) = ptR x k := fun x => by
    have := ptR_up x (show k ≤ k + 1 by omega)
    rw [show k + 1 - k = 1 by omega, Int.pow_one, Int.mul_comm] at this
    exact this
  unfold rIn
  rw [if_neg (show ¬ a = b by omega), if_neg (show ¬ 2 * a = a + b by omega), if_neg (show ¬ a + b = 2 * b by omega), stC_pt (ea a), stC_pt (ea b)]
  have : (if sgnAt (stE (sqfP p) 0) (2 * b) (k + 1) = 0 then 1 else 0 : Int) = if sgnAt (stE (sqfP p) 0) b k = 0 then 1 else 0 := by
    by_cases w : sgnAt (stE (sqfP p) 0) b k = 0
    · rw [if_pos w, if_pos ((sgn_pt (ea b)).mpr w)]
    · rw [if_neg w, if_neg (fun q => w ((sgn_pt (ea b)).mp q))]
  rw [this]
  omega
theorem cS_C (p : Nat → Int) : cS p = raC 0 (ivn 7 p) := by
  have h1 : cS p = (chg (fun i => (p i).sign) 7).2 := by
    unfold cS
    have h7 := stI_le p 7
    have key : ∀ n, stI p 7 + n ≤ 7 → (chg (fun i => (p i).sign) (stI p 7)) = chg (fun i => (p i).sign) (stI p 7 + n) := by
      intro n
      induction n with
      | zero => intro _; rfl
      | succ n ih =>
        intro h
        rw [ih (by omega), ← Nat.add_assoc, chg]
        have z : p (stI p 7 + n) = 0 := stI_z (n := 7) (by omega) (by omega)
        have z2 : (p (stI p 7 + n)).sign = 0 := by rw [z]; rfl
        rw [z2, if_pos rfl, Int.zero_mul, if_neg (by omega)]
    rw [key (7 - stI p 7) (by omega), show stI p 7 + (7 - stI p 7) = 7 by omega]
  rw [h1]
  exact chg_G _ _ _ (fun i _ => sgn_int (p i))
theorem raF_ivn (p : Nat → Int) : ∀ n, raF 0 (ivn n p) = if stI p n = 0 then 0 else ((p (stI p n - 1) : Int) : Rat)
  | 0 => rfl
  | n + 1 => by
    have e : ivn (n + 1) p = ivn n p ++ [((p n : Int) : Rat)] := by
      unfold ivn
      rw [List.range_succ, List.map_append, List.map_cons, List.map_nil]
    have z : ((p n : Int) : Rat) = 0 ↔ p n = 0 := ⟨fun h => by rw [← Rat.intCast_zero] at h; exact Rat.intCast_inj.mp h, fun h => by rw [h]; rfl⟩
    rw [e, raF_app, raF_ivn p n, stI]
    by_cases c : p n = 0
    · rw [if_pos (z.mpr c), if_pos c]
    · rw [if_neg (fun q => c (z.mp q)), if_neg c, if_neg (by omega), Nat.add_sub_cancel]
theorem raF_S {k : Rat} (hk : k ≠ 0) : ∀ (l : List Rat) (q : Rat), raF (k * q) (raS k l) = k * raF q l
  | [], q => rfl
  | a :: t, q => by
    rw [raS, raF, raF]
    by_cases c : a = 0
    · rw [if_pos c, if_pos (by rw [c, Rat.mul_zero])]; exact raF_S hk t q
    · rw [if_neg c, if_neg (fun z => c ((Rat.mul_eq_zero.mp z).resolve_left hk))]; exact raF_S hk t a
/-- isTrue tells true -/
theorem tru_all {p : Nat → Int} (hp : ∀ k, k < 7 → (p k).natAbs ≤ 9999) (h0 : stI p 7 ≠ 0) : tru p := by
  have hs0 := sqf_nz h0
  have e1 := (dR_rIn hp h0).2
  have hl := (sqf_all h0).2.2.1
  have hb := far_b hp h0
  obtain ⟨_, b1, b2⟩ := rBd_ok hp h0
  obtain ⟨H, g, c, hc, k1, k2, k3, k4⟩ := sqf_chp h0
  have hl0 : ((sqfP p (stI (sqfP p) 7 - 1) : Int) : Rat) ≠ 0 := fun q => by
    rw [← Rat.intCast_zero] at q
    have := Rat.intCast_inj.mp q
    unfold ldI at hl
    omega
  have hF : raF 0 (raS c (ivn 7 (sqfP p))) = c * ((sqfP p (stI (sqfP p) 7 - 1) : Int) : Rat) := by
    have := raF_S (Rat.ne_of_gt hc) (ivn 7 (sqfP p)) 0
    rw [Rat.mul_zero, raF_ivn, if_neg hs0] at this
    exact this
  have hpos : 0 < iv (sqfP p) (ptR 32768 0) := by
    obtain ⟨N, hN⟩ : ∃ N : Nat, farK (sqfP p) N ∧ 32768 < N := by
      refine ⟨grP (sqfP p) 7 + 40000, ⟨by omega, fun i hi => ?_⟩, by omega⟩
      have h7 := stI_le (sqfP p) 7
      have a1 := grP_at (sqfP p) 7 i (by omega)
      have a2 : 1 ≤ (sqfP p (stI (sqfP p) 7 - 1)).natAbs := by unfold ldI at hl; omega
      have := Nat.mul_le_mul_left (grP (sqfP p) 7 + 40000 - 1) a2
      omega
    have a1 := p_up hs0 hl hN.1 (x := (N : Rat)) Rat.le_refl
    have a2 := sqf_far h0 hb (u := ptR 32768 0) (v := (N : Rat)) (Or.inl (by
      rw [ptR_0, ← Rat.intCast_natCast]
      exact Rat.intCast_le_intCast.mpr (by omega))) (ptR 32768 0) (N : Rat) Rat.le_refl (by
      rw [ptR_0, ← Rat.intCast_natCast]
      exact Rat.intCast_lt_intCast.mpr (by omega)) Rat.le_refl
    rcases ra_lt_or 0 (iv (sqfP p) (ptR 32768 0)) with w | w
    · exact w
    · exfalso
      have := Rat.mul_nonneg (a := -iv (sqfP p) (ptR 32768 0)) (b := iv (sqfP p) (N : Rat)) (by grind) (Rat.le_of_lt a1)
      grind
  have hH0 : ∀ x, raV (raS c (ivn 7 (sqfP p))) x = raV (H 0) x := fun x => by rw [raV_S, k3]; rfl
  obtain ⟨K, hK⟩ : ∃ K : Nat → List Rat, K = fun i => if i = 0 then raS c (ivn 7 (sqfP p)) else H i := ⟨_, rfl⟩
  have hKV : ∀ i x, raV (K i) x = raV (H i) x := fun i x => by
    rw [hK]
    (try dsimp only)
    by_cases q : i = 0
    · rw [if_pos q, q]; exact hH0 x
    · rw [if_neg q]
  have hKX : ∀ r x, raX K r x = raX H r x := fun r x => by
    rw [raX, raX]
    exact congrArg (raC 0) (List.map_congr_left (fun i _ => hKV i x))
  have kK : raK K (stM (sqfP p) - 1) := by
    refine ⟨?_, fun i h1 h2 => ?_⟩
    · obtain ⟨c1, hc1, h1⟩ := k1.1
      exact ⟨c1, hc1, fun x => by rw [hKV, h1]⟩
    · obtain ⟨al, be, Q, ha, hb, h3⟩ := k1.2 i h1 h2
      exact ⟨al, be, Q, ha, hb, fun x => by rw [hKV, hKV, hKV]; exact h3 x⟩
  have kQ : 1 ≤ stM (sqfP p) - 1 → raQ K (ivn 7 (sqfP p)) g := fun h => by
    obtain ⟨q1, q2, k, hk, q3⟩ := k2 h
    exact ⟨q1, fun x => by rw [hKV]; exact q2 x, k, hk, fun x => by rw [hKV]; exact q3 x⟩
  have eK : K 0 = raS c (ivn 7 (sqfP p)) := by rw [hK]; rfl
  have p0 : (0 : Rat) = ptR 0 0 := by rw [ptR_0]; rfl
  obtain ⟨m, hm⟩ := ra_rule kK kQ (v := ptR 32768 0) (by rw [p0]; exact ptR_lt.mpr (by decide)) (by
    rw [eK, hF, raV_S]
    have q1 : 0 < c * ((sqfP p (stI (sqfP p) 7 - 1) : Int) : Rat) := Rat.mul_pos hc (by rw [Rat.intCast_pos]; exact hl)
    have q2 : 0 < c * raV (ivn 7 (sqfP p)) (ptR 32768 0) := Rat.mul_pos hc hpos
    exact ⟨⟨fun q => by grind, fun q => by grind⟩, ⟨fun q => by grind, fun q => by grind⟩⟩) (by
    rw [eK, hF]
    exact fun q => hl0 ((Rat.mul_eq_zero.mp q).resolve_left (Rat.ne_of_gt hc)))
  have x0 : raX H (stM (sqfP p) - 1) 0 = stC (sqfP p) 0 0 := by rw [k4 0 0, ← p0]
  rw [eK, hKX, hKX, ← k4, x0] at hm
  have hcS : raC 0 (raS c (ivn 7 (sqfP p))) = cS (sqfP p) := by
    rw [cS_C]
    have : ∀ l : List Rat, raC 0 (raS c l) = raC 0 l := fun l => by
      have e : ∀ l : List Rat, raS c l = l.map (fun x => c * x) := by
        intro l
        induction l with
        | nil => rfl
        | cons a t ih => rw [raS, List.map_cons, ih]
      rw [e]
      refine raC_sg (raG_rf 0) (by simp) (fun i h1 h2 => ?_)
      simp only [List.getElem_map]
      exact raG_k hc
    exact this _
  rw [hcS] at hm
  have b3 := stC_b hs0 (-32768) 0
  unfold tru sDeg
  refine ⟨e1.symm, ?_, ?_, ?_⟩ <;> omega
