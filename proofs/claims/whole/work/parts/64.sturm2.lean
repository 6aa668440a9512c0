/-! every chain has cells, if they are small enough -/
theorem ra_cell1 {L d a b : Rat} (h : raI (L * d) (b - a)) (n : ¬ raN a b) (h0 : 0 ≤ L * d) : raI (L * d) a ∧ raI (L * d) b := by
  obtain ⟨h1, h2⟩ := h
  unfold raN raG at n
  by_cases ha : a = 0
  · exact ⟨⟨by grind, by grind⟩, ⟨by grind, by grind⟩⟩
  · by_cases hb : b = 0
    · exact ⟨⟨by grind, by grind⟩, ⟨by grind, by grind⟩⟩
    · have n2 : ¬ (a < 0 ↔ b < 0) := fun q => n ⟨⟨⟨fun w => absurd w ha, fun w => absurd w hb⟩, q⟩, ha⟩
      by_cases h3 : a < 0
      · have h4 : ¬ b < 0 := fun q => n2 ⟨fun _ => q, fun _ => h3⟩
        exact ⟨⟨by grind, by grind⟩, ⟨by grind, by grind⟩⟩
      · have h4 : b < 0 := Classical.byContradiction (fun q => n2 ⟨fun w => absurd w h3, fun w => absurd w q⟩)
        exact ⟨⟨by grind, by grind⟩, ⟨by grind, by grind⟩⟩
theorem ra_cell2 {e E a b : Rat} (h : raI e (b - a)) (n : ¬ raI E a) (h0 : e ≤ E) : raN a b := by
  obtain ⟨h1, h2⟩ := h
  have n2 : a < -E ∨ E < a := by
    by_cases h3 : a < -E
    · exact Or.inl h3
    · exact Or.inr (Rat.not_le.mp (fun q => n ⟨Rat.not_lt.mp h3, q⟩))
  have he : 0 ≤ e := by grind
  refine ⟨⟨?_, ?_⟩, ?_⟩
  · rcases n2 with n2 | n2
    · constructor <;> intro <;> grind
    · constructor <;> intro <;> grind
  · rcases n2 with n2 | n2
    · constructor <;> intro <;> grind
    · constructor <;> intro <;> grind
  · rcases n2 with n2 | n2 <;> grind
theorem ra_cell3 {a b al be M l E w : Rat} (ha : ¬ raI E a) (hb : ¬ raI E b) (h : al * a + be * b = w) (hw : raI (M * l) w) (hal : 0 < al) (hbe : 0 < be) (hE : 0 < E) (hM : M * l < al * E) : b * a < 0 := by
  have na : a < -E ∨ E < a := by
    by_cases h3 : a < -E
    · exact Or.inl h3
    · exact Or.inr (Rat.not_le.mp (fun q => ha ⟨Rat.not_lt.mp h3, q⟩))
  have nb : b < -E ∨ E < b := by
    by_cases h3 : b < -E
    · exact Or.inl h3
    · exact Or.inr (Rat.not_le.mp (fun q => hb ⟨Rat.not_lt.mp h3, q⟩))
  obtain ⟨h1, h2⟩ := hw
  rw [ra_neg_iff]
  rcases na with na | na <;> rcases nb with nb | nb
  · have e1 := Rat.mul_lt_mul_of_pos_left na hal
    have e2 := Rat.mul_lt_mul_of_pos_left nb hbe
    have e3 := Rat.mul_pos hbe hE
    grind
  · grind
  · grind
  · have e1 := Rat.mul_lt_mul_of_pos_left na hal
    have e2 := Rat.mul_lt_mul_of_pos_left nb hbe
    have e3 := Rat.mul_pos hbe hE
    grind
/-- a small number below every one of two bounds -/
theorem ra_min {a b : Rat} (ha : 0 < a) (hb : 0 < b) : ∃ c, 0 < c ∧ c ≤ a ∧ c ≤ b := by
  by_cases h : a ≤ b
  · exact ⟨a, ha, Rat.le_refl, h⟩
  · exact ⟨b, hb, by grind, Rat.le_refl⟩
theorem ra_quo {K P : Rat} (hK : 0 ≤ K) (hP : 0 < P) : ∃ d, 0 < d ∧ K * d < P := by
  obtain ⟨N, d, h1, h2, h3, h4⟩ := ra_step (w := 1) (by decide) hK hP
  exact ⟨d, h1, h4⟩
theorem ra_mono {K c d P : Rat} (hK : 0 ≤ K) (h : c ≤ d) (h2 : K * d < P) : K * c < P := by
  have := Rat.mul_le_mul_of_nonneg_left h hK
  grind
/-- what makes a chain: neighbors, the last one -/
def raK (H : Nat → List Rat) (r : Nat) : Prop := (∃ c, c ≠ 0 ∧ ∀ x, raV (H r) x = c) ∧ ∀ i, 1 ≤ i → i < r → ∃ (al be : Rat) (Q : List Rat), 0 < al ∧ 0 < be ∧ ∀ x, al * raV (H (i - 1)) x + be * raV (H (i + 1)) x = raV Q x * raV (H i) x
theorem ra_eps1 {al be M e e1 a b c q : Rat} (h : al * a + be * c = q * b) (ha : raI e a) (hb : raI e b) (hq : raI M q) (hM : 0 ≤ M) (hal : 0 < al) (hbe : 0 < be) (he : 0 < e) (he1 : (M + al) * e < be * e1) : raI e1 c := by
  have h1 := ra_mul hM (Rat.le_of_lt he) hq hb
  have h2 := ra_mul (Rat.le_of_lt hal) (Rat.le_of_lt he) (⟨by grind, by grind⟩ : raI al al) ha
  obtain ⟨a1, a2⟩ := h1
  obtain ⟨b1, b2⟩ := h2
  have e2 : be * c < be * e1 := by grind
  have e3 : be * -e1 < be * c := by grind
  exact ⟨Rat.le_of_lt (Rat.lt_of_mul_lt_mul_left e3 (Rat.le_of_lt hbe)), Rat.le_of_lt (Rat.lt_of_mul_lt_mul_left e2 (Rat.le_of_lt hbe))⟩
theorem ra_eps (H : Nat → List Rat) {r : Nat} (hk : raK H r) (X : Rat) (hX : 0 ≤ X) : ∀ n : Nat, ∃ e, 0 < e ∧ ∀ i, i < r → r ≤ i + n → ∀ x, raI X x → raI e (raV (H i) x) → raI e (raV (H (i + 1)) x) → False := by
  intro n
  induction n with
  | zero => exact ⟨1, by decide, fun i h1 h2 => by omega⟩
  | succ n ih =>
    obtain ⟨e1, he1, h1⟩ := ih
    by_cases hn : n + 1 ≤ r
    · obtain ⟨i, hi⟩ : ∃ i, i + (n + 1) = r := ⟨r - (n + 1), by omega⟩
      have new : ∃ e, 0 < e ∧ ∀ x, raI X x → raI e (raV (H i) x) → raI e (raV (H (i + 1)) x) → False := by
        by_cases h0 : n = 0
        · subst h0
          obtain ⟨c, hc, h2⟩ := hk.1
          have h3 := ra_sqp hc
          obtain ⟨d, hd, h4⟩ := ra_min (a := c * c) (b := 1) h3 (by decide)
          obtain ⟨d2, hd2, h5⟩ := ra_quo (K := 1) (P := d) (by decide) hd
          refine ⟨d2, hd2, fun x _ _ h6 => ?_⟩
          rw [show i + 1 = r by omega, h2] at h6
          have h7 := (ra_mul (Rat.le_of_lt hd2) (Rat.le_of_lt hd2) h6 h6).2
          have h8 : d2 * d2 ≤ d2 * 1 := Rat.mul_le_mul_of_nonneg_left (by grind) (Rat.le_of_lt hd2)
          grind
        · obtain ⟨al, be, Q, hal, hbe, h2⟩ := hk.2 (i + 1) (by omega) (by omega)
          obtain ⟨M, hM, h3⟩ := raV_bd X hX Q
          obtain ⟨d, hd, h4⟩ := ra_quo (K := M + al) (P := be * e1) (by grind) (Rat.mul_pos hbe he1)
          obtain ⟨e, he, h5, h6⟩ := ra_min hd he1
          refine ⟨e, he, fun x hx a1 a2 => ?_⟩
          have := h2 x
          rw [Nat.add_sub_cancel] at this
          exact h1 (i + 1) (by omega) (by omega) x hx (ra_up a2 h6) (ra_eps1 this a1 a2 (h3 x hx) hM hal hbe he (ra_mono (by grind) h5 h4))
      obtain ⟨e2, he2, h2⟩ := new
      obtain ⟨e, he, h5, h6⟩ := ra_min he1 he2
      refine ⟨e, he, fun j hj hj2 x hx a1 a2 => ?_⟩
      by_cases hij : j = i
      · subst hij
        exact h2 x hx (ra_up a1 h6) (ra_up a2 h6)
      · exact h1 j hj (by omega) x hx (ra_up a1 h5) (ra_up a2 h5)
    · exact ⟨e1, he1, fun i a1 a2 => h1 i a1 (by omega)⟩
/-- a common bound of how far they move -/
theorem ra_lips (H : Nat → List Rat) (X : Rat) (hX : 0 ≤ X) : ∀ r : Nat, ∃ L, 0 ≤ L ∧ ∀ i, i < r → ∀ x y, raI X x → raI X y → x ≤ y → raI (L * (y - x)) (raV (H i) y - raV (H i) x) := by
  intro r
  induction r with
  | zero => exact ⟨0, by decide, fun i h => by omega⟩
  | succ r ih =>
    obtain ⟨L, hL, h1⟩ := ih
    obtain ⟨E, hE, h2⟩ := raV_lip X hX (H r)
    refine ⟨L + E, by grind, fun i hi x y hx hy hxy => ?_⟩
    have hd : 0 ≤ y - x := by grind
    have m1 := Rat.mul_nonneg hL hd
    have m2 := Rat.mul_nonneg hE hd
    by_cases q : i = r
    · subst q; exact ra_up (h2 x y hx hy hxy) (by grind)
    · exact ra_up (h1 i (by omega) x y hx hy hxy) (by grind)
theorem ra_ng1 {s : Rat} (h : s < 0) : 0 < -1 * s := by grind
theorem raS_m (p : List Rat) (x : Rat) : raV (raS (-1) p) x = -raV p x := by rw [raV_S]; grind
/-- how p and its derivative hang together with a chain -/
def raQ (H : Nat → List Rat) (p g : List Rat) : Prop := (¬ ∀ x, raV p x = 0) ∧ (∀ x, raV p x = raV g x * raV (H 0) x) ∧ ∃ k, 0 < k ∧ ∀ x, raV (raD p) x = raV g x * (k * raV (H 1) x)
theorem ra_cross2 {H : Nat → List Rat} {p g : List Rat} (hq : raQ H p g) {u v : Rat} (huv : u < v) (hh : ∀ x, u ≤ x → x ≤ v → raN (raV (H 1) u) (raV (H 1) x)) : 0 ≤ raV (H 1) u * raV (H 0) u → 0 < raV (H 1) v * raV (H 0) v := by
  obtain ⟨q1, q2, k, hk, q3⟩ := hq
  intro h0
  have hv := hh v (Rat.le_of_lt huv) Rat.le_refl
  have hu := hh u Rat.le_refl (Rat.le_of_lt huv)
  rcases Rat.le_total (a := 0) (b := raV (H 1) u) with w | w
  · have hp : 0 < raV (H 1) u := Rat.lt_of_le_of_ne w (Ne.symm hu.2)
    have := ra_cross (p := p) (g := g) (s := H 0) (h := raS k (H 1)) q2 (fun x => by rw [raV_S]; exact q3 x) q1 huv (fun x a b => by rw [raV_S]; exact Rat.mul_pos hk ((raG_pos (hh x a b).1).mp hp)) (by
      refine Rat.not_lt.mp (fun z => ?_)
      exact absurd h0 (Rat.not_le.mpr (ra_neg_iff.mpr (Or.inr ⟨hp, z⟩))))
    exact Rat.mul_pos ((raG_pos hv.1).mp hp) this
  · have hp : raV (H 1) u < 0 := Rat.lt_of_le_of_ne w hu.2
    have := ra_cross (p := p) (g := raS (-1) g) (s := raS (-1) (H 0)) (h := raS (-1) (raS k (H 1))) (fun x => by rw [q2, raS_m, raS_m]; grind) (fun x => by rw [q3, raS_m, raS_m, raV_S]; grind) q1 huv (fun x a b => by rw [raV_S, raV_S]; exact ra_ng1 ((Rat.mul_neg_iff_of_pos_left hk).mpr ((hh x a b).1.2.mp hp))) (by
      rw [raS_m]
      refine Rat.not_lt.mp (fun z => ?_)
      exact absurd h0 (Rat.not_le.mpr (ra_neg_iff.mpr (Or.inl ⟨hp, by grind⟩))))
    rw [raS_m] at this
    have h5 := hv.1.2.mp hp
    have := Rat.mul_pos (a := -raV (H 1) v) (b := -raV (H 0) v) (by grind) this
    grind
/-- small cells are cells -/
theorem raL_ex {H : Nat → List Rat} {r : Nat} {p g : List Rat} (hk : raK H r) (hq : 1 ≤ r → raQ H p g) (X : Rat) (hX : 0 ≤ X) : ∃ d, 0 < d ∧ ∀ u v, raI X u → raI X v → u < v → v - u ≤ d → raL H r u v := by
  obtain ⟨e, he, h1⟩ := ra_eps H hk X hX r
  obtain ⟨L, hL, h2⟩ := ra_lips H X hX (r + 1)
  obtain ⟨c, hc, hc2⟩ := hk.1
  have hr : ∀ u v, raN (raV (H r) u) (raV (H r) v) := fun u v => by rw [hc2, hc2]; exact ⟨raG_rf c, hc⟩
  obtain ⟨d1, hd1, hd2⟩ := ra_quo (K := L + L) (P := e) (by grind) he
  have inner : ∀ n : Nat, ∃ d, 0 < d ∧ d ≤ d1 ∧ ∀ i, 1 ≤ i → i < r → i < n → ∀ u v, raI X u → raI X v → u < v → v - u ≤ d → raN (raV (H i) u) (raV (H i) v) ∨ (raN (raV (H (i - 1)) u) (raV (H (i - 1)) v) ∧ raN (raV (H (i + 1)) u) (raV (H (i + 1)) v) ∧ raV (H (i + 1)) u * raV (H (i - 1)) u < 0) := by
    intro n
    induction n with
    | zero => exact ⟨d1, hd1, Rat.le_refl, fun i _ _ h => by omega⟩
    | succ n ih =>
      obtain ⟨d, hd, hdd, h3⟩ := ih
      by_cases hn : 1 ≤ n ∧ n < r
      · obtain ⟨al, be, Q, hal, hbe, h4⟩ := hk.2 n hn.1 hn.2
        obtain ⟨M, hM, h5⟩ := raV_bd X hX Q
        obtain ⟨d2, hd2', h6⟩ := ra_quo (K := M * L) (P := al * e) (Rat.mul_nonneg hM hL) (Rat.mul_pos hal he)
        obtain ⟨d3, hd3, h7, h8⟩ := ra_min hd hd2'
        refine ⟨d3, hd3, Rat.le_trans h7 hdd, fun i i1 i2 i3 u v hu hv huv hw => ?_⟩
        by_cases hin : i = n
        · subst hin
          have hvu : 0 ≤ v - u := by grind
          have huv' := Rat.le_of_lt huv
          have hLd := Rat.mul_nonneg hL hvu
          have hLe : L * (v - u) ≤ e := by
            have a1 := ra_mono (K := L + L) (c := v - u) (d := d1) (by grind) (Rat.le_trans hw (Rat.le_trans h7 hdd)) hd2
            grind
          by_cases n0 : raN (raV (H i) u) (raV (H i) v)
          · exact Or.inl n0
          · have a1 := (ra_cell1 (h2 i (by omega) u v hu hv huv') n0 hLd).1
            have a2 : raI e (raV (H i) u) := ra_up a1 hLe
            have b1 : ¬ raI e (raV (H (i - 1)) u) := fun w => h1 (i - 1) (by omega) (by omega) u hu w (by rw [Nat.sub_add_cancel i1]; exact a2)
            have b2 : ¬ raI e (raV (H (i + 1)) u) := fun w => h1 i (by omega) (by omega) u hu a2 w
            refine Or.inr ⟨ra_cell2 (h2 _ (by omega) u v hu hv huv') b1 hLe, ra_cell2 (h2 _ (by omega) u v hu hv huv') b2 hLe, ?_⟩
            refine ra_cell3 b1 b2 (h4 u) (ra_mul hM hLd (h5 u hu) a1) hal hbe he ?_
            rw [← Rat.mul_assoc]
            exact ra_mono (Rat.mul_nonneg hM hL) (Rat.le_trans hw h8) h6
        · exact h3 i i1 i2 (by omega) u v hu hv huv (Rat.le_trans hw h7)
      · exact ⟨d, hd, hdd, fun i i1 i2 i3 => h3 i i1 i2 (by omega)⟩
  obtain ⟨d, hd, hdd, h3⟩ := inner r
  refine ⟨d, hd, fun u v hu hv huv hw => raL_of (hr u v) (fun i i1 i2 => h3 i i1 i2 i2 u v hu hv huv hw) ?_⟩
  have hvu : 0 ≤ v - u := by grind
  have huv' := Rat.le_of_lt huv
  have hLd := Rat.mul_nonneg hL hvu
  have hL2 : (L + L) * (v - u) < e := ra_mono (K := L + L) (c := v - u) (d := d1) (by grind) (Rat.le_trans hw hdd) hd2
  by_cases n0 : raN (raV (H 0) u) (raV (H 0) v)
  · exact Or.inl n0
  · by_cases h0 : r = 0
    · subst h0; exact absurd (hr u v) n0
    · have a1 := (ra_cell1 (h2 0 (by omega) u v hu hv huv') n0 hLd).1
      have hN : ∀ x, u ≤ x → x ≤ v → raN (raV (H 1) u) (raV (H 1) x) := fun x b1 b2 => by
        have hx : raI X x := ra_mid hu hv b1 b2
        have hd : 0 ≤ x - u := by grind
        have hle : L * (x - u) ≤ L * (v - u) := Rat.mul_le_mul_of_nonneg_left (by grind) hL
        have c2 : ¬ raI e (raV (H 1) u) := fun w => h1 0 (by omega) (by omega) u hu (ra_up a1 (by grind)) w
        exact ra_cell2 (h2 1 (by omega) u x hu hx b1) c2 (by grind)
      exact Or.inr ⟨by omega, hN v huv' Rat.le_refl, ra_cross2 (hq (by omega)) huv hN⟩
