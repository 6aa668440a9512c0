/-! grids; Sturm's theorem over a grid -/
def raZ (d : Rat) : Rat → List Rat → Prop
  | _, [] => True
  | u, v :: t => u < v ∧ v - u ≤ d ∧ raZ d v t
theorem raZ_le {d : Rat} : ∀ (t : List Rat) (u : Rat), raZ d u t → u ≤ raE u t
  | [], u, _ => Rat.le_refl
  | v :: t, u, h => Rat.le_trans (Rat.le_of_lt h.1) (raZ_le t v h.2.2)
theorem raZ_lt {d : Rat} {t : List Rat} {u : Rat} (h : raZ d u t) (ht : t ≠ []) : u < raE u t := by
  cases t with
  | nil => exact absurd rfl ht
  | cons v t =>
    have h1 := raZ_le t v h.2.2
    have h2 := h.1
    rw [raE]
    grind
theorem raZ_in {d : Rat} : ∀ (t : List Rat) (u : Rat), raZ d u t → ∀ x ∈ t, u < x ∧ x ≤ raE u t
  | [], u, _, x, hx => by cases hx
  | v :: t, u, h, x, hx => by
    rcases List.mem_cons.mp hx with q | q
    · subst q; exact ⟨h.1, raZ_le t x h.2.2⟩
    · have h1 := raZ_in t v h.2.2 x q
      have h2 := h.1
      exact ⟨by grind, h1.2⟩
theorem raZ_app {d : Rat} : ∀ (s t : List Rat) (u w : Rat), raZ d u s → raE u s = w → raZ d w t → raZ d u (s ++ t) ∧ raE u (s ++ t) = raE w t
  | [], t, u, w, _, h2, h3 => by subst h2; exact ⟨h3, rfl⟩
  | v :: s, t, u, w, h1, h2, h3 => by
    have ih := raZ_app s t v w h1.2.2 h2 h3
    exact ⟨⟨h1.1, h1.2.1, ih.1⟩, ih.2⟩
theorem raZ_mem : ∀ (t : List Rat) (u : Rat), t ≠ [] → raE u t ∈ t
  | [], _, h => absurd rfl h
  | [v], u, _ => by simp [raE]
  | v :: w :: t, u, _ => by
    rw [raE]
    exact List.mem_cons_of_mem _ (raZ_mem (w :: t) v (by simp))
theorem ra_g1 {u d j : Rat} : u + j * d + d = u + (j + 1) * d := by grind
theorem ra_g2 {u d : Rat} (h : 0 < d) : u < u + d := by grind
theorem ra_g3 {u d : Rat} : u + d - u = d := by grind
theorem ra_g4 {u v d : Rat} (h : d = v - u) : u + d = v := by grind
theorem raZ_ex {d u v : Rat} (hd : 0 < d) (h : u < v) : ∃ t, t ≠ [] ∧ raZ d u t ∧ raE u t = v := by
  have hw : 0 < v - u := (Rat.lt_iff_sub_pos _ _).mp h
  obtain ⟨N, e, h1, h2, h3, h4⟩ := ra_step (K := 1) hw (by decide) hd
  rw [Rat.one_mul] at h4
  have key : ∀ (n : Nat) (u : Rat), ∃ t, raZ d u t ∧ raE u t = u + (n : Rat) * e ∧ (0 < n → t ≠ []) := by
    intro n
    induction n with
    | zero => exact fun u => ⟨[], trivial, by rw [raE, show ((0 : Nat) : Rat) = 0 from rfl, Rat.zero_mul, Rat.add_zero], fun q => by omega⟩
    | succ n ih =>
      intro u
      obtain ⟨t, a1, a2, a3⟩ := ih (u + e)
      refine ⟨(u + e) :: t, ⟨ra_g2 h1, by rw [ra_g3]; exact Rat.le_of_lt h4, a1⟩, ?_, fun _ => by simp⟩
      rw [raE, a2, ra_c1, ← ra_g1]
      grind
  obtain ⟨t, a1, a2, a3⟩ := key N u
  refine ⟨t, a3 (Nat.pos_of_ne_zero (fun q => ?_)), a1, by rw [a2]; exact ra_g4 h2⟩
  rw [q, show ((0 : Nat) : Rat) = 0 from rfl, Rat.zero_mul] at h2
  grind
theorem raP_of {H : Nat → List Rat} {r : Nat} {X d : Rat} (h : ∀ u v, raI X u → raI X v → u < v → v - u ≤ d → raL H r u v) : ∀ (t : List Rat) (u : Rat), raZ d u t → raI X u → raI X (raE u t) → raP H r u t
  | [], _, _, _, _ => trivial
  | v :: t, u, hz, hu, he => by
    have h1 := raZ_le t v hz.2.2
    rw [raE] at he
    have hv := ra_mid hu he (Rat.le_of_lt hz.1) h1
    exact ⟨h u v hu hv hz.1 hz.2.1, raP_of h t v hz.2.2 hv he⟩
/-- Sturm: on every grid that is fine enough -/
theorem ra_sturm {H : Nat → List Rat} {r : Nat} {p g : List Rat} (hk : raK H r) (hq : 1 ≤ r → raQ H p g) (u v : Rat) : ∃ d, 0 < d ∧ ∀ t, t ≠ [] → raZ d u t → raE u t = v → raX H r u = raX H r v + raC 0 ((u :: t).map (raV (H 0))) + (if raV (H 0) v = 0 then 1 else 0) := by
  obtain ⟨X, hX, hu, hv⟩ := ra_two u v
  obtain ⟨d, hd, h⟩ := raL_ex hk hq X hX
  refine ⟨d, hd, fun t ht hz he => ?_⟩
  have h1 := raX_grid H r t u (raP_of h t u hz hu (by rw [he]; exact hv))
  rw [he] at h1
  rw [h1, ra_if (show (t ≠ [] ∧ raV (H 0) v = 0) ↔ raV (H 0) v = 0 from ⟨fun q => q.2, fun q => ⟨ht, q⟩⟩)]
