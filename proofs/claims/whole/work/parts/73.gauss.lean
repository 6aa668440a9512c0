/-! Gauss's lemma -/
def iw (l : List Int) : Rat → Rat := raV (l.map (fun c : Int => (c : Rat)))
theorem iw_c (a : Int) (t : List Int) (x : Rat) : iw (a :: t) x = (a : Rat) + x * iw t x := rfl
def iwL : Int → List Int → List Int → List Int
  | a, k, [] => k
  | a, [], q => q.map (fun c => -(a * c))
  | a, k :: ks, q :: qs => (k - a * q) :: iwL a ks qs
theorem iw_L (a : Int) : ∀ (k q : List Int) (x : Rat), iw (iwL a k q) x = iw k x - (a : Rat) * iw q x
  | k, [], x => by
    rw [iwL]
    show iw k x = iw k x - (a : Rat) * 0
    grind
  | [], b :: q, x => by
    have : ∀ q : List Int, iw (q.map (fun c => -(a * c))) x = -((a : Rat) * iw q x) := by
      intro q
      induction q with
      | nil => show (0 : Rat) = -((a : Rat) * 0); grind
      | cons b q ih => rw [List.map_cons, iw_c, iw_c, ih, Rat.intCast_neg, Rat.intCast_mul]; grind
    rw [iwL, this]
    show _ = 0 - _
    · grind
    · simp
  | b :: k, c :: q, x => by rw [iwL, iw_c, iw_c, iw_c, iw_L a k q x, Rat.intCast_sub, Rat.intCast_mul]; grind
def pri (r : Int) : Prop := 1 < r ∧ ∀ a b : Int, r ∣ a * b → r ∣ a ∨ r ∣ b
theorem pri_ex (m : Nat) (h : 1 < m) : ∃ r : Nat, pri (r : Int) ∧ r ∣ m := by
  have ex : ∃ r, 1 < r ∧ r ∣ m ∧ ∀ q, 1 < q → q ∣ m → r ≤ q := by
    have : ∀ n r : Nat, r ≤ n → 1 < r → r ∣ m → ∃ r, 1 < r ∧ r ∣ m ∧ ∀ q, 1 < q → q ∣ m → r ≤ q := by
      intro n
      induction n with
      | zero => intro r h1 h2; omega
      | succ n ih =>
        intro r h1 h2 h3
        by_cases c : ∃ q, q < r ∧ 1 < q ∧ q ∣ m
        · obtain ⟨q, c1, c2, c3⟩ := c
          exact ih q (by omega) c2 c3
        · exact ⟨r, h2, h3, fun q q1 q2 => Classical.byContradiction (fun w => c ⟨q, by omega, q1, q2⟩)⟩
    exact this m m (Nat.le_refl _) h (Nat.dvd_refl _)
  obtain ⟨r, h1, h2, h3⟩ := ex
  refine ⟨r, ⟨by omega, fun a b hab => ?_⟩, h2⟩
  rw [Int.ofNat_dvd_left, Int.natAbs_mul] at hab
  rw [Int.ofNat_dvd_left, Int.ofNat_dvd_left]
  by_cases g : Nat.gcd r a.natAbs = 1
  · exact Or.inr (Nat.Coprime.dvd_of_dvd_mul_left g hab)
  · left
    have g1 : 1 < Nat.gcd r a.natAbs := by
      have : Nat.gcd r a.natAbs ≠ 0 := fun q => by have := Nat.eq_zero_of_gcd_eq_zero_left q; omega
      omega
    have g2 := h3 _ g1 (Nat.dvd_trans (Nat.gcd_dvd_left _ _) h2)
    have g3 : Nat.gcd r a.natAbs = r := Nat.le_antisymm (Nat.le_of_dvd (by omega) (Nat.gcd_dvd_left _ _)) g2
    rw [← g3]
    exact Nat.gcd_dvd_right _ _
theorem iw_0 (l : List Int) : iw l 0 = ((l.head?.getD 0 : Int) : Rat) := by
  cases l with
  | nil => rfl
  | cons a t => rw [iw_c]; simp only [List.head?_cons, Option.getD_some]; grind
theorem iw_ext {n : Nat} {f : Rat → Rat} (hf : raU n f) (h : ∀ x, x ≠ 0 → f x = 0) : ∀ x, f x = 0 := raU_ext hf ⟨0, 1, by decide, fun x a _ => h x (fun q => by rw [q] at a; exact absurd a (by decide))⟩
theorem iw_U (l : List Int) : raU l.length (iw l) := ⟨_, by rw [List.length_map]; exact Nat.le_refl _, fun _ => rfl⟩
/-- a product that is divisible by r -/
theorem iw_pri {r : Int} (hr : pri r) : ∀ (n : Nat) (d q : List Int), d.length + q.length ≤ n → (∃ k, ∀ x, iw d x * iw q x = (r : Rat) * iw k x) → (∀ c ∈ d, r ∣ c) ∨ (∀ c ∈ q, r ∣ c) := by
  intro n
  induction n with
  | zero =>
    intro d q h _
    have : d = [] := List.length_eq_zero_iff.mp (by omega)
    subst this
    exact Or.inl (fun c hc => nomatch hc)
  | succ n ih =>
    intro d q h hk
    -- one side begins with a multiple of r: take it away
    have side : ∀ (a : Int) (t q : List Int), (a :: t).length + q.length ≤ n + 1 → (∃ k, ∀ x, iw (a :: t) x * iw q x = (r : Rat) * iw k x) → r ∣ a → ∃ k, ∀ x, iw t x * iw q x = (r : Rat) * iw k x := by
      rintro a t q hl ⟨k, hk⟩ ⟨a', ha⟩
      have e1 : ∀ x, x * (iw t x * iw q x) = (r : Rat) * iw (iwL a' k q) x := fun x => by
        have := hk x
        rw [iw_c, ha, Rat.intCast_mul] at this
        rw [iw_L]
        grind
      have e2 : (r : Rat) ≠ 0 := fun z => by have := Rat.intCast_eq_zero_iff.mp z; have := hr.1; omega
      obtain ⟨m, hm⟩ : ∃ m, m = iwL a' k q := ⟨_, rfl⟩
      rw [← hm] at e1
      have e3 : iw m 0 = 0 := by
        have := e1 0
        rw [Rat.zero_mul] at this
        exact (Rat.mul_eq_zero.mp this.symm).resolve_left e2
      have e4 : ∃ k2, ∀ x, iw m x = x * iw k2 x := by
        cases m with
        | nil => exact ⟨[], fun x => by show (0 : Rat) = x * 0; grind⟩
        | cons c m => exact ⟨m, fun x => by rw [iw_0] at e3; simp only [List.head?_cons, Option.getD_some] at e3; rw [iw_c, e3]; grind⟩
      obtain ⟨k2, hk2⟩ := e4
      refine ⟨k2, fun x => ?_⟩
      have hU : isPo (fun x => iw t x * iw q x - (r : Rat) * iw k2 x) := isPo_sub (isPo_mul ⟨_, iw_U t⟩ ⟨_, iw_U q⟩) (isPo_s _ ⟨_, iw_U k2⟩)
      obtain ⟨N, hN⟩ := hU
      have := iw_ext hN (fun x hx => by
        have a1 := e1 x
        rw [hk2] at a1
        have : x * (iw t x * iw q x - (r : Rat) * iw k2 x) = 0 := by grind
        exact (Rat.mul_eq_zero.mp this).resolve_left hx) x
      grind
    cases d with
    | nil => exact Or.inl (fun c hc => nomatch hc)
    | cons a t =>
      cases q with
      | nil => exact Or.inr (fun c hc => nomatch hc)
      | cons b u =>
        have hab : r ∣ a * b := by
          obtain ⟨k, hk⟩ := hk
          have h0 := hk 0
          rw [iw_0, iw_0, iw_0] at h0
          simp only [List.head?_cons, Option.getD_some] at h0
          rw [← Rat.intCast_mul, ← Rat.intCast_mul] at h0
          exact ⟨_, Rat.intCast_inj.mp h0⟩
        rcases hr.2 a b hab with w | w
        · have h2 := side a t (b :: u) h hk w
          rcases ih t (b :: u) (by simp only [List.length_cons] at h ⊢; omega) h2 with q | q
          · exact Or.inl (fun c hc => (List.mem_cons.mp hc).elim (fun e => e ▸ w) (q c))
          · exact Or.inr q
        · have h2 := side b u (a :: t) (by simp only [List.length_cons] at h ⊢; omega) (by obtain ⟨k, hk⟩ := hk; exact ⟨k, fun x => by rw [Rat.mul_comm]; exact hk x⟩) w
          rcases ih u (a :: t) (by simp only [List.length_cons] at h ⊢; omega) h2 with q | q
          · exact Or.inr (fun c hc => (List.mem_cons.mp hc).elim (fun e => e ▸ w) (q c))
          · exact Or.inl q
theorem iw_dv {r : Int} : ∀ (q : List Int), (∀ c ∈ q, r ∣ c) → ∃ q1 : List Int, ∀ x, iw q x = (r : Rat) * iw q1 x
  | [], _ => ⟨[], fun x => by show (0 : Rat) = (r : Rat) * 0; grind⟩
  | a :: t, h => by
    obtain ⟨q1, h1⟩ := iw_dv t (fun c hc => h c (List.mem_cons_of_mem _ hc))
    obtain ⟨a', ha⟩ := h a List.mem_cons_self
    exact ⟨a' :: q1, fun x => by rw [iw_c, iw_c, h1, ha, Rat.intCast_mul]; grind⟩
def ivi (p : Nat → Int) : List Int := (List.range 7).map p
theorem iw_ivi (p : Nat → Int) : iw (ivi p) = iv p := by
  unfold iw ivi iv ivn
  rw [List.map_map]
  rfl
theorem iw_gauss {d : Nat → Int} (hd : isPr d) : ∀ (m : Nat), 0 < m → ∀ (q p : List Int), (∀ x, iv d x * iw q x = ((m : Int) : Rat) * iw p x) → ∃ q1 : List Int, ∀ x, iw q x = ((m : Int) : Rat) * iw q1 x := by
  intro m
  induction m using Nat.strongRecOn with
  | _ m ih =>
    intro hm q p h
    by_cases h1 : m = 1
    · subst h1
      exact ⟨q, fun x => by rw [show (((1 : Nat) : Int) : Rat) = 1 from rfl]; grind⟩
    · obtain ⟨r, hr, k, hk⟩ := pri_ex m (by omega)
      have hr1 := hr.1
      have e1 : ∀ x, iw (ivi d) x * iw q x = ((r : Int) : Rat) * iw (iwL (-(k : Int)) [] p) x := fun x => by
        rw [iw_ivi, h, iw_L, hk, Int.natCast_mul, Rat.intCast_mul, Rat.intCast_neg]
        show _ = ((r : Int) : Rat) * (0 - _)
        grind
      rcases iw_pri hr _ (ivi d) q (Nat.le_refl _) ⟨_, e1⟩ with c | c
      · exfalso
        have : ∀ n, n ≤ 7 → r ∣ cont d n := by
          intro n
          induction n with
          | zero => intro _; exact ⟨0, by rw [cont]; omega⟩
          | succ n ihn =>
            intro hn
            rw [cont]
            refine Nat.dvd_gcd (ihn (by omega)) ?_
            exact Int.ofNat_dvd_left.mp (c _ (List.mem_map.mpr ⟨n, List.mem_range.mpr (by omega), rfl⟩))
        have := this 7 (Nat.le_refl _)
        rw [hd] at this
        have := Nat.dvd_one.mp this
        omega
      · obtain ⟨q1, hq1⟩ := iw_dv q c
        have hk0 : 0 < k := Nat.pos_of_ne_zero (fun z => by rw [z] at hk; omega)
        have hkm : k < m := by
          rw [hk]
          have : 1 * k < r * k := Nat.mul_lt_mul_of_pos_right (by omega) hk0
          omega
        have e3 : ((r : Int) : Rat) ≠ 0 := fun z => by have := Rat.intCast_eq_zero_iff.mp z; omega
        obtain ⟨q2, hq2⟩ := ih k hkm hk0 q1 p (fun x => by
          have a1 := h x
          rw [hq1, hk, Int.natCast_mul, Rat.intCast_mul] at a1
          have : ((r : Int) : Rat) * (iv d x * iw q1 x - ((k : Int) : Rat) * iw p x) = 0 := by grind
          have := (Rat.mul_eq_zero.mp this).resolve_left e3
          grind)
        exact ⟨q2, fun x => by rw [hq1, hq2, hk, Int.natCast_mul, Rat.intCast_mul]; grind⟩
theorem ra_clear : ∀ l : List Rat, ∃ (m : Nat) (q : List Int), 0 < m ∧ q.length = l.length ∧ ∀ x, ((m : Int) : Rat) * raV l x = iw q x
  | [] => ⟨1, [], by omega, rfl, fun x => by show _ * (0 : Rat) = 0; grind⟩
  | a :: t => by
    obtain ⟨m, q, hm, hl, h⟩ := ra_clear t
    refine ⟨m * a.den, (m * a.num) :: q.map (fun c => (a.den : Int) * c), Nat.mul_pos hm a.den_pos, by simp [hl], fun x => ?_⟩
    have e : ∀ q : List Int, iw (q.map (fun c => (a.den : Int) * c)) x = ((a.den : Int) : Rat) * iw q x := by
      intro q
      induction q with
      | nil => show (0 : Rat) = _ * 0; grind
      | cons b q ih => rw [List.map_cons, iw_c, iw_c, ih, Rat.intCast_mul]; grind
    rw [iw_c, e, ← h, Int.natCast_mul, Rat.intCast_mul, Rat.intCast_mul, raV]
    have := ra_den a
    rw [← Rat.intCast_natCast] at this
    grind
/-- p = w d, d primitive: w has integer coefficients -/
theorem gauss {d p : Nat → Int} {w : Rat → Rat} {n : Nat} (hd : isPr d) (hw : raU n w) (hn : n ≤ 7) (h : ∀ x, iv p x = w x * iv d x) : ∃ q : Nat → Int, (∀ i, n ≤ i → q i = 0) ∧ ∀ x, w x = iv q x := by
  obtain ⟨l, hl, h2⟩ := hw
  obtain ⟨m, q, hm, hq, h3⟩ := ra_clear l
  have hm0 : ((m : Int) : Rat) ≠ 0 := fun z => by have := Rat.intCast_eq_zero_iff.mp z; omega
  obtain ⟨q1, h4⟩ := iw_gauss hd m hm q (ivi p) (fun x => by rw [iw_ivi, h, ← h3, h2]; grind)
  have h5 : ∀ x, w x = iw q1 x := fun x => by
    have a := h3 x
    rw [h4, ← h2] at a
    have : ((m : Int) : Rat) * (w x - iw q1 x) = 0 := by grind
    have := (Rat.mul_eq_zero.mp this).resolve_left hm0
    grind
  -- cut to n coefficients
  have cut : ∀ (k : List Int) (n : Nat), raU n (iw k) → ∀ x, iw k x = raV (ivn n (fun i => k.getD i 0)) x := by
    intro k
    induction k with
    | nil =>
      intro n _ x
      have : ∀ n, raV (ivn n (fun i => ([] : List Int).getD i 0)) x = 0 := by
        intro n
        induction n with
        | zero => rfl
        | succ n ih => rw [ivn_s, ih, List.getD_nil, Rat.intCast_zero]; grind
      rw [this]; rfl
    | cons a t ih =>
      intro n hU x
      cases n with
      | zero => rw [raU_0 hU]; rfl
      | succ n =>
        have hz : raV (ivn (n + 1) (fun i => (a :: t).getD i 0)) x = (a : Rat) + x * raV (ivn n (fun i => t.getD i 0)) x := by
          unfold ivn
          rw [List.range_succ_eq_map, List.map_cons, List.map_map, raV]
          rfl
        have hT : raU n (iw t) := by
          obtain ⟨l, e1, e2⟩ := hU
          cases l with
          | nil =>
            refine ⟨[], Nat.zero_le _, fun y => ?_⟩
            have : ∀ y, (a : Rat) + y * iw t y = 0 := fun y => by rw [← iw_c]; exact e2 y
            have a0 : (a : Rat) = 0 := by have := this 0; grind
            have := iw_ext (iw_U t) (fun y hy => by
              have := this y
              rw [a0] at this
              have : y * iw t y = 0 := by grind
              exact (Rat.mul_eq_zero.mp this).resolve_left hy) y
            exact this
          | cons b l =>
            refine ⟨l, by simp only [List.length_cons] at e1; omega, fun y => ?_⟩
            have e3 : ∀ y, (a : Rat) + y * iw t y = b + y * raV l y := fun y => by rw [← iw_c]; exact e2 y
            have a0 : (a : Rat) = b := by have := e3 0; grind
            obtain ⟨N, hN⟩ : isPo (fun y => iw t y - raV l y) := isPo_sub ⟨_, iw_U t⟩ ⟨_, raU_l l⟩
            have := iw_ext hN (fun y hy => by
              have := e3 y
              have : y * (iw t y - raV l y) = 0 := by grind
              exact (Rat.mul_eq_zero.mp this).resolve_left hy) y
            grind
        rw [iw_c, ih n hT, hz]
  refine ⟨fun i => if i < n then q1.getD i 0 else 0, fun i hi => if_neg (by omega), fun x => ?_⟩
  rw [h5, cut q1 n ⟨l, hl, fun x => by rw [← h5, h2]⟩ x]
  have : ∀ k, n + k ≤ 7 → raV (ivn (n + k) (fun i => if i < n then q1.getD i 0 else 0)) x = raV (ivn n (fun i => q1.getD i 0)) x := by
    intro k
    induction k with
    | zero => intro _; rw [Nat.add_zero, ivn_cong (fun i hi => if_pos hi)]
    | succ k ih => intro hk; rw [← Nat.add_assoc, ivn_s, ih (by omega), if_neg (by omega), Rat.intCast_zero]; grind
  have h7 := this (7 - n) (by omega)
  rw [show n + (7 - n) = 7 by omega] at h7
  exact h7.symm
