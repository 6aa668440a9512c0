/-! a divisor's size: its values at -2 to 3 -/
/-- x becomes x + k -/
def iwH (k : Int) : List Int → List Int
  | [] => []
  | a :: t => iwL (-k) (a :: iwH k t) (iwH k t)
theorem iw_H (k : Int) : ∀ (l : List Int) (x : Rat), iw (iwH k l) x = iw l (x + (k : Rat))
  | [], _ => rfl
  | a :: t, x => by rw [iwH, iw_L, iw_c, iw_c, iw_H k t x, Rat.intCast_neg]; grind
theorem low_le : ∀ (l1 l l2 : List Int) (c2 : Int), (∀ y, iw l y = iw l1 y * iw l2 y) → iw l2 0 = (c2 : Rat) → (¬ ∀ y, iw l y = 0) → ∃ c ∈ l, c2.natAbs ≤ c.natAbs
  | [], l, l2, c2, h, _, hn => absurd (fun y => by
      rw [h]
      show (0 : Rat) * _ = 0
      grind) hn
  | c1 :: t1, l, l2, c2, h, h2, hn => by
    have h0 := h 0
    rw [iw_0, iw_0, h2] at h0
    (try dsimp only [List.head?, Option.getD] at h0)
    rw [← Rat.intCast_mul] at h0
    have h1 := Rat.intCast_inj.mp h0
    cases l with
    | nil => exact absurd (fun y => rfl) hn
    | cons a t =>
      (try dsimp only [List.head?, Option.getD] at h1)
      by_cases c : c1 = 0
      · have ha : a = 0 := by rw [h1, c, Int.zero_mul]
        have e : ∀ y, iw t y = iw t1 y * iw l2 y := fun y => by
          have := iw_ext (f := fun y => iw t y - iw t1 y * iw l2 y) (n := t.length + (t1.length + l2.length)) (raU_sub (raU_up (iw_U t) (by omega)) (raU_up (raU_mul2 (iw_U t1) (iw_U l2)) (by omega))) (fun x hx => by
            have := h x
            rw [iw_c, iw_c, ha, c, Rat.intCast_zero] at this
            have : x * (iw t x - iw t1 x * iw l2 x) = 0 := by grind
            exact (Rat.mul_eq_zero.mp this).resolve_left hx) y
          (try dsimp only at this)
          grind
        obtain ⟨c', hc, h3⟩ := low_le t1 t l2 c2 e h2 (fun q => hn (fun y => by rw [iw_c, ha, q, Rat.intCast_zero]; grind))
        exact ⟨c', List.mem_cons_of_mem _ hc, h3⟩
      · refine ⟨a, List.mem_cons_self, ?_⟩
        rw [h1, Int.natAbs_mul]
        have : 1 ≤ c1.natAbs := by omega
        have := Nat.mul_le_mul_right c2.natAbs this
        omega
/-- p = u r, r primitive: r's value at k is no greater than a coefficient of p(x + k) -/
theorem dv_at {p r : Nat → Int} {u : Rat → Rat} (h0 : stI p 7 ≠ 0) (hr : isPr r) (hu : isPo u) (h : ∀ x, iv p x = u x * iv r x) (k c2 : Int) (h2 : iv r (k : Rat) = (c2 : Rat)) : ∃ c ∈ iwH k (ivi p), c2.natAbs ≤ c.natAbs := by
  have hn := iv_nz h0
  obtain ⟨a, ha⟩ : ∃ a, stI p 7 = a + 1 := ⟨stI p 7 - 1, by omega⟩
  have hp7 := stI_le p 7
  have hr0 := pr_nz hr
  have hu7 : raU 7 u := by
    rcases isPo_W hu with w | ⟨w, hw⟩
    · exact absurd (fun x => by rw [h, w]; grind) hn
    · have := raW_un (raW_eq (raW_mul hw (iv_W (p := r) (k := stI r 7 - 1) (by omega))) h) (iv_W ha)
      exact raU_up (raU_W hw) (by omega)
  obtain ⟨q, _, hq⟩ := gauss hr hu7 (Nat.le_refl 7) h
  refine low_le (iwH k (ivi q)) _ (iwH k (ivi r)) c2 (fun y => ?_) ?_ (fun w => hn (fun x => ?_))
  · rw [iw_H, iw_H, iw_H, iw_ivi, iw_ivi, iw_ivi, h, hq]
  · rw [iw_H, iw_ivi, show (0 : Rat) + (k : Rat) = (k : Rat) by grind, h2]
  · have := w (x - (k : Rat))
    rw [iw_H, iw_ivi, show x - (k : Rat) + (k : Rat) = x by grind] at this
    exact this
theorem ivi_7 (p : Nat → Int) : ivi p = [p 0, p 1, p 2, p 3, p 4, p 5, p 6] := rfl
theorem iv_at (p : Nat → Int) (k : Int) : iv p (k : Rat) = ((p 0 + k * (p 1 + k * (p 2 + k * (p 3 + k * (p 4 + k * (p 5 + k * p 6))))) : Int) : Rat) := by
  rw [← iw_ivi, ivi_7]
  simp only [iw_c, Rat.intCast_add, Rat.intCast_mul]
  show _ + _ * (_ + _ * (_ + _ * (_ + _ * (_ + _ * (_ + _ * (_ + _ * (0 : Rat))))))) = _
  grind
theorem dv_k {p r : Nat → Int} {u : Rat → Rat} (h0 : stI p 7 ≠ 0) (hr : isPr r) (hu : isPo u) (h : ∀ x, iv p x = u x * iv r x) (k : Int) {b : Nat} (hb : ∀ c ∈ iwH k [p 0, p 1, p 2, p 3, p 4, p 5, p 6], c.natAbs ≤ b) : (r 0 + k * (r 1 + k * (r 2 + k * (r 3 + k * (r 4 + k * (r 5 + k * r 6)))))).natAbs ≤ b := by
  obtain ⟨c, hc, h1⟩ := dv_at h0 hr hu h k _ (iv_at r k)
  exact Nat.le_trans h1 (hb c hc)
theorem nab {a : Int} {b : Nat} (h1 : -(b : Int) ≤ a) (h2 : a ≤ (b : Int)) : a.natAbs ≤ b := by omega
theorem lgE0 (r0 r1 r2 r3 r4 r5 : Int) : 120 * r0 = (120) * (r0 + 0 * (r1 + 0 * (r2 + 0 * (r3 + 0 * (r4 + 0 * (r5 + 0 * 0)))))) := by omega
theorem lgB0 {r V2 : Int} (b2 : -9999 ≤ V2 ∧ V2 ≤ 9999) (e : 120 * r = (120) * V2) : r.natAbs ≤ 2629737 := nab (by omega) (by omega)
theorem lgE1 (r0 r1 r2 r3 r4 r5 : Int) : 120 * r1 = (6) * (r0 + (-2) * (r1 + (-2) * (r2 + (-2) * (r3 + (-2) * (r4 + (-2) * (r5 + (-2) * 0)))))) + (-60) * (r0 + (-1) * (r1 + (-1) * (r2 + (-1) * (r3 + (-1) * (r4 + (-1) * (r5 + (-1) * 0)))))) + (-40) * (r0 + 0 * (r1 + 0 * (r2 + 0 * (r3 + 0 * (r4 + 0 * (r5 + 0 * 0)))))) + (120) * (r0 + 1 * (r1 + 1 * (r2 + 1 * (r3 + 1 * (r4 + 1 * (r5 + 1 * 0)))))) + (-30) * (r0 + 2 * (r1 + 2 * (r2 + 2 * (r3 + 2 * (r4 + 2 * (r5 + 2 * 0)))))) + (4) * (r0 + 3 * (r1 + 3 * (r2 + 3 * (r3 + 3 * (r4 + 3 * (r5 + 3 * 0)))))) := by omega
theorem lgB1 {r V0 V1 V2 V3 V4 V5 : Int} (b0 : -3509649 ≤ V0 ∧ V0 ≤ 3509649) (b1 : -349965 ≤ V1 ∧ V1 ≤ 349965) (b2 : -9999 ≤ V2 ∧ V2 ≤ 9999) (b3 : -349965 ≤ V3 ∧ V3 ≤ 349965) (b4 : -3509649 ≤ V4 ∧ V4 ≤ 3509649) (b5 : -20047995 ≤ V5 ∧ V5 ≤ 20047995) (e : 120 * r = (6) * V0 + (-60) * V1 + (-40) * V2 + (120) * V3 + (-30) * V4 + (4) * V5) : r.natAbs ≤ 2629737 := nab (by omega) (by omega)
theorem lgE2 (r0 r1 r2 r3 r4 r5 : Int) : 120 * r2 = (-5) * (r0 + (-2) * (r1 + (-2) * (r2 + (-2) * (r3 + (-2) * (r4 + (-2) * (r5 + (-2) * 0)))))) + (80) * (r0 + (-1) * (r1 + (-1) * (r2 + (-1) * (r3 + (-1) * (r4 + (-1) * (r5 + (-1) * 0)))))) + (-150) * (r0 + 0 * (r1 + 0 * (r2 + 0 * (r3 + 0 * (r4 + 0 * (r5 + 0 * 0)))))) + (80) * (r0 + 1 * (r1 + 1 * (r2 + 1 * (r3 + 1 * (r4 + 1 * (r5 + 1 * 0)))))) + (-5) * (r0 + 2 * (r1 + 2 * (r2 + 2 * (r3 + 2 * (r4 + 2 * (r5 + 2 * 0)))))) := by omega
theorem lgB2 {r V0 V1 V2 V3 V4 : Int} (b0 : -3509649 ≤ V0 ∧ V0 ≤ 3509649) (b1 : -349965 ≤ V1 ∧ V1 ≤ 349965) (b2 : -9999 ≤ V2 ∧ V2 ≤ 9999) (b3 : -349965 ≤ V3 ∧ V3 ≤ 349965) (b4 : -3509649 ≤ V4 ∧ V4 ≤ 3509649) (e : 120 * r = (-5) * V0 + (80) * V1 + (-150) * V2 + (80) * V3 + (-5) * V4) : r.natAbs ≤ 2629737 := nab (by omega) (by omega)
theorem lgE3 (r0 r1 r2 r3 r4 r5 : Int) : 120 * r3 = (-5) * (r0 + (-2) * (r1 + (-2) * (r2 + (-2) * (r3 + (-2) * (r4 + (-2) * (r5 + (-2) * 0)))))) + (-5) * (r0 + (-1) * (r1 + (-1) * (r2 + (-1) * (r3 + (-1) * (r4 + (-1) * (r5 + (-1) * 0)))))) + (50) * (r0 + 0 * (r1 + 0 * (r2 + 0 * (r3 + 0 * (r4 + 0 * (r5 + 0 * 0)))))) + (-70) * (r0 + 1 * (r1 + 1 * (r2 + 1 * (r3 + 1 * (r4 + 1 * (r5 + 1 * 0)))))) + (35) * (r0 + 2 * (r1 + 2 * (r2 + 2 * (r3 + 2 * (r4 + 2 * (r5 + 2 * 0)))))) + (-5) * (r0 + 3 * (r1 + 3 * (r2 + 3 * (r3 + 3 * (r4 + 3 * (r5 + 3 * 0)))))) := by omega
theorem lgB3 {r V0 V1 V2 V3 V4 V5 : Int} (b0 : -3509649 ≤ V0 ∧ V0 ≤ 3509649) (b1 : -349965 ≤ V1 ∧ V1 ≤ 349965) (b2 : -9999 ≤ V2 ∧ V2 ≤ 9999) (b3 : -349965 ≤ V3 ∧ V3 ≤ 349965) (b4 : -3509649 ≤ V4 ∧ V4 ≤ 3509649) (b5 : -20047995 ≤ V5 ∧ V5 ≤ 20047995) (e : 120 * r = (-5) * V0 + (-5) * V1 + (50) * V2 + (-70) * V3 + (35) * V4 + (-5) * V5) : r.natAbs ≤ 2629737 := nab (by omega) (by omega)
theorem lgE4 (r0 r1 r2 r3 r4 r5 : Int) : 120 * r4 = (5) * (r0 + (-2) * (r1 + (-2) * (r2 + (-2) * (r3 + (-2) * (r4 + (-2) * (r5 + (-2) * 0)))))) + (-20) * (r0 + (-1) * (r1 + (-1) * (r2 + (-1) * (r3 + (-1) * (r4 + (-1) * (r5 + (-1) * 0)))))) + (30) * (r0 + 0 * (r1 + 0 * (r2 + 0 * (r3 + 0 * (r4 + 0 * (r5 + 0 * 0)))))) + (-20) * (r0 + 1 * (r1 + 1 * (r2 + 1 * (r3 + 1 * (r4 + 1 * (r5 + 1 * 0)))))) + (5) * (r0 + 2 * (r1 + 2 * (r2 + 2 * (r3 + 2 * (r4 + 2 * (r5 + 2 * 0)))))) := by omega
theorem lgB4 {r V0 V1 V2 V3 V4 : Int} (b0 : -3509649 ≤ V0 ∧ V0 ≤ 3509649) (b1 : -349965 ≤ V1 ∧ V1 ≤ 349965) (b2 : -9999 ≤ V2 ∧ V2 ≤ 9999) (b3 : -349965 ≤ V3 ∧ V3 ≤ 349965) (b4 : -3509649 ≤ V4 ∧ V4 ≤ 3509649) (e : 120 * r = (5) * V0 + (-20) * V1 + (30) * V2 + (-20) * V3 + (5) * V4) : r.natAbs ≤ 2629737 := nab (by omega) (by omega)
theorem lgE5 (r0 r1 r2 r3 r4 r5 : Int) : 120 * r5 = (-1) * (r0 + (-2) * (r1 + (-2) * (r2 + (-2) * (r3 + (-2) * (r4 + (-2) * (r5 + (-2) * 0)))))) + (5) * (r0 + (-1) * (r1 + (-1) * (r2 + (-1) * (r3 + (-1) * (r4 + (-1) * (r5 + (-1) * 0)))))) + (-10) * (r0 + 0 * (r1 + 0 * (r2 + 0 * (r3 + 0 * (r4 + 0 * (r5 + 0 * 0)))))) + (10) * (r0 + 1 * (r1 + 1 * (r2 + 1 * (r3 + 1 * (r4 + 1 * (r5 + 1 * 0)))))) + (-5) * (r0 + 2 * (r1 + 2 * (r2 + 2 * (r3 + 2 * (r4 + 2 * (r5 + 2 * 0)))))) + (1) * (r0 + 3 * (r1 + 3 * (r2 + 3 * (r3 + 3 * (r4 + 3 * (r5 + 3 * 0)))))) := by omega
theorem lgB5 {r V0 V1 V2 V3 V4 V5 : Int} (b0 : -3509649 ≤ V0 ∧ V0 ≤ 3509649) (b1 : -349965 ≤ V1 ∧ V1 ≤ 349965) (b2 : -9999 ≤ V2 ∧ V2 ≤ 9999) (b3 : -349965 ≤ V3 ∧ V3 ≤ 349965) (b4 : -3509649 ≤ V4 ∧ V4 ≤ 3509649) (b5 : -20047995 ≤ V5 ∧ V5 ≤ 20047995) (e : 120 * r = (-1) * V0 + (5) * V1 + (-10) * V2 + (10) * V3 + (-5) * V4 + (1) * V5) : r.natAbs ≤ 2629737 := nab (by omega) (by omega)
theorem nab2 {a : Int} {b : Nat} (h : a.natAbs ≤ b) : -(b : Int) ≤ a ∧ a ≤ (b : Int) := by omega
/-- a divisor of a degree below 6 -/
theorem dv_5 {p r : Nat → Int} {u : Rat → Rat} (hp : ∀ i, i < 7 → (p i).natAbs ≤ 9999) (h0 : stI p 7 ≠ 0) (hr : isPr r) (hu : isPo u) (h : ∀ x, iv p x = u x * iv r x) (h5 : stI r 7 ≤ 6) : ∀ i, i < 7 → (r i).natAbs ≤ 2629737 := by
  have a0 : -9999 ≤ p 0 ∧ p 0 ≤ 9999 := by have := hp 0 (by decide); omega
  have a1 : -9999 ≤ p 1 ∧ p 1 ≤ 9999 := by have := hp 1 (by decide); omega
  have a2 : -9999 ≤ p 2 ∧ p 2 ≤ 9999 := by have := hp 2 (by decide); omega
  have a3 : -9999 ≤ p 3 ∧ p 3 ≤ 9999 := by have := hp 3 (by decide); omega
  have a4 : -9999 ≤ p 4 ∧ p 4 ≤ 9999 := by have := hp 4 (by decide); omega
  have a5 : -9999 ≤ p 5 ∧ p 5 ≤ 9999 := by have := hp 5 (by decide); omega
  have a6 : -9999 ≤ p 6 ∧ p 6 ≤ 9999 := by have := hp 6 (by decide); omega
  have z6 : r 6 = 0 := stI_z (n := 7) h5 (by decide)
  have z6' := z6
  have qv0 : ∀ c ∈ iwH 0 [p 0, p 1, p 2, p 3, p 4, p 5, p 6], c.natAbs ≤ 9999 := by
    simp only [iwH, iwL, List.mem_cons, List.not_mem_nil, or_false, forall_eq_or_imp, forall_eq]
    refine ⟨?_, ?_, ?_, ?_, ?_, ?_, ?_⟩ <;> exact nab (by omega) (by omega)
  have qv1 : ∀ c ∈ iwH 1 [p 0, p 1, p 2, p 3, p 4, p 5, p 6], c.natAbs ≤ 349965 := by
    simp only [iwH, iwL, List.mem_cons, List.not_mem_nil, or_false, forall_eq_or_imp, forall_eq]
    refine ⟨?_, ?_, ?_, ?_, ?_, ?_, ?_⟩ <;> exact nab (by omega) (by omega)
  have qv2 : ∀ c ∈ iwH 2 [p 0, p 1, p 2, p 3, p 4, p 5, p 6], c.natAbs ≤ 3509649 := by
    simp only [iwH, iwL, List.mem_cons, List.not_mem_nil, or_false, forall_eq_or_imp, forall_eq]
    refine ⟨?_, ?_, ?_, ?_, ?_, ?_, ?_⟩ <;> exact nab (by omega) (by omega)
  have qv3 : ∀ c ∈ iwH 3 [p 0, p 1, p 2, p 3, p 4, p 5, p 6], c.natAbs ≤ 20047995 := by
    simp only [iwH, iwL, List.mem_cons, List.not_mem_nil, or_false, forall_eq_or_imp, forall_eq]
    refine ⟨?_, ?_, ?_, ?_, ?_, ?_, ?_⟩ <;> exact nab (by omega) (by omega)
  have qw1 : ∀ c ∈ iwH (-1) [p 0, p 1, p 2, p 3, p 4, p 5, p 6], c.natAbs ≤ 349965 := by
    simp only [iwH, iwL, List.mem_cons, List.not_mem_nil, or_false, forall_eq_or_imp, forall_eq]
    refine ⟨?_, ?_, ?_, ?_, ?_, ?_, ?_⟩ <;> exact nab (by omega) (by omega)
  have qw2 : ∀ c ∈ iwH (-2) [p 0, p 1, p 2, p 3, p 4, p 5, p 6], c.natAbs ≤ 3509649 := by
    simp only [iwH, iwL, List.mem_cons, List.not_mem_nil, or_false, forall_eq_or_imp, forall_eq]
    refine ⟨?_, ?_, ?_, ?_, ?_, ?_, ?_⟩ <;> exact nab (by omega) (by omega)
  have v0 := dv_k h0 hr hu h 0 qv0
  have v1 := dv_k h0 hr hu h 1 qv1
  have v2 := dv_k h0 hr hu h 2 qv2
  have v3 := dv_k h0 hr hu h 3 qv3
  have w1 := dv_k h0 hr hu h (-1) qw1
  have w2 := dv_k h0 hr hu h (-2) qw2
  clear qv0 qv1 qv2 qv3 qw1 qw2
  clear hp h0 hr hu h a0 a1 a2 a3 a4 a5 a6
  obtain ⟨r0, h0⟩ : ∃ x, x = r 0 := ⟨_, rfl⟩
  obtain ⟨r1, h1⟩ : ∃ x, x = r 1 := ⟨_, rfl⟩
  obtain ⟨r2, h2⟩ : ∃ x, x = r 2 := ⟨_, rfl⟩
  obtain ⟨r3, h3⟩ : ∃ x, x = r 3 := ⟨_, rfl⟩
  obtain ⟨r4, h4⟩ : ∃ x, x = r 4 := ⟨_, rfl⟩
  obtain ⟨r5, h5'⟩ : ∃ x, x = r 5 := ⟨_, rfl⟩
  rw [z6, ← h0, ← h1, ← h2, ← h3, ← h4, ← h5'] at v0 v1 v2 v3 w1 w2
  have f0 : r0.natAbs ≤ 2629737 := lgB0 (nab2 v0) (lgE0 r0 r1 r2 r3 r4 r5)
  have f1 : r1.natAbs ≤ 2629737 := lgB1 (nab2 w2) (nab2 w1) (nab2 v0) (nab2 v1) (nab2 v2) (nab2 v3) (lgE1 r0 r1 r2 r3 r4 r5)
  have f2 : r2.natAbs ≤ 2629737 := lgB2 (nab2 w2) (nab2 w1) (nab2 v0) (nab2 v1) (nab2 v2) (lgE2 r0 r1 r2 r3 r4 r5)
  have f3 : r3.natAbs ≤ 2629737 := lgB3 (nab2 w2) (nab2 w1) (nab2 v0) (nab2 v1) (nab2 v2) (nab2 v3) (lgE3 r0 r1 r2 r3 r4 r5)
  have f4 : r4.natAbs ≤ 2629737 := lgB4 (nab2 w2) (nab2 w1) (nab2 v0) (nab2 v1) (nab2 v2) (lgE4 r0 r1 r2 r3 r4 r5)
  have f5 : r5.natAbs ≤ 2629737 := lgB5 (nab2 w2) (nab2 w1) (nab2 v0) (nab2 v1) (nab2 v2) (nab2 v3) (lgE5 r0 r1 r2 r3 r4 r5)
  intro i hi
  rcases (show i = 0 ∨ i = 1 ∨ i = 2 ∨ i = 3 ∨ i = 4 ∨ i = 5 ∨ i = 6 by omega) with q | q | q | q | q | q | q <;> subst q
  · rw [← h0]; exact f0
  · rw [← h1]; exact f1
  · rw [← h2]; exact f2
  · rw [← h3]; exact f3
  · rw [← h4]; exact f4
  · rw [← h5']; exact f5
  · rw [z6']; decide
