/-! mirrored; and a root of s is crossed upwards -/
def raR : List Rat → List Rat
  | [] => []
  | a :: t => a :: raS (-1) (raR t)
theorem raV_R : ∀ (p : List Rat) (x : Rat), raV (raR p) x = raV p (-x)
  | [], x => rfl
  | a :: t, x => by simp only [raR, raV]; rw [raV_S, raV_R t x]; grind
theorem raV_DR : ∀ (p : List Rat) (x : Rat), raV (raD (raR p)) x = -raV (raD p) (-x)
  | [], x => by simp only [raR, raD, raV]; grind
  | a :: t, x => by simp only [raR]; rw [raV_D, raV_D, raV_S, raV_DS, raV_R, raV_DR t x]; grind
theorem ra_n1 {a b : Rat} (h : a < b) : -b < -a := by grind
theorem ra_n2 {a b : Rat} (h : -b ≤ a) : -a ≤ b := by grind
theorem ra_n3 {a b : Rat} (h : a ≤ -b) : b ≤ -a := by grind
theorem ra_n4 {a b : Rat} : -1 * a * (-1 * b) = a * b := by grind
theorem ra_n5 {a b : Rat} : -1 * a * b = -(a * b) := by grind
theorem ra_n6 {a : Rat} (h : a < 0) : 0 < -1 * a := by grind
theorem ra_n7 {a : Rat} (h : 0 < -1 * a) : a < 0 := by grind
theorem ra_n8 {a : Rat} : -(-a) = a := by grind
theorem ra_dn1 {p g s h : List Rat} (e1 : ∀ x, raV p x = raV g x * raV s x) (e2 : ∀ x, raV (raD p) x = raV g x * raV h x) {y v : Rat} (hyv : y < v) (hh : ∀ x, y ≤ x → x ≤ v → 0 < raV h x) (hp : raV p v ≠ 0) (hs : raV s v < 0) : raV s y < 0 := by
  have := ra_up1 (p := raR p) (g := raS (-1) (raR g)) (s := raS (-1) (raR s)) (h := raR h) (y := -v) (v := -y) (fun x => by rw [raV_R, raV_S, raV_S, raV_R, raV_R, ra_n4]; exact e1 _) (fun x => by rw [raV_DR, raV_S, raV_R, raV_R, ra_n5, e2]) (ra_n1 hyv) (fun x a b => by rw [raV_R]; exact hh _ (ra_n3 b) (ra_n2 a)) (by rw [raV_R, ra_n8]; exact hp) (by rw [raV_S, raV_R, ra_n8]; exact ra_n6 hs)
  rw [raV_S, raV_R, ra_n8] at this
  exact ra_n7 this
/-- h > 0 from u to v and s(u) ≥ 0: s(v) > 0 -/
theorem ra_cross {p g s h : List Rat} (e1 : ∀ x, raV p x = raV g x * raV s x) (e2 : ∀ x, raV (raD p) x = raV g x * raV h x) (hp : ¬ ∀ x, raV p x = 0) {u v : Rat} (huv : u < v) (hh : ∀ x, u ≤ x → x ≤ v → 0 < raV h x) (hs : 0 ≤ raV s u) : 0 < raV s v := by
  obtain ⟨y, hy1, hy2, hy3⟩ : ∃ y, u < y ∧ y < v ∧ raV p y ≠ 0 := by
    refine Classical.byContradiction (fun n => hp (raV_int huv (fun x h1 h2 => ?_)))
    exact Classical.byContradiction (fun m => n ⟨x, h1, h2, m⟩)
  have hsy : raV s y ≠ 0 := fun q => hy3 (by rw [e1, q, Rat.mul_zero])
  rcases Rat.le_total (a := 0) (b := raV s y) with q | q
  · exact ra_up1 e1 e2 hy2 (fun x a b => hh x (Rat.le_trans (Rat.le_of_lt hy1) a) b) hy3 (Rat.lt_of_le_of_ne q (Ne.symm hsy))
  · have := ra_dn1 e1 e2 hy1 (fun x a b => hh x a (Rat.le_trans b (Rat.le_of_lt hy2))) hy3 (Rat.lt_of_le_of_ne q hsy)
    exact absurd this (Rat.not_lt.mpr hs)
/-! sign changes: zeros are left out -/
def raC : Rat → List Rat → Nat
  | _, [] => 0
  | p, a :: t => if a = 0 then raC p t else (if a * p < 0 then 1 else 0) + raC a t
theorem ra_neg_iff {a b : Rat} : a * b < 0 ↔ (a < 0 ∧ 0 < b) ∨ (0 < a ∧ b < 0) := by
  constructor
  · intro h
    rcases Rat.le_total (a := 0) (b := a) with q | q <;> rcases Rat.le_total (a := 0) (b := b) with r | r
    · have := Rat.mul_nonneg q r; grind
    · have : a ≠ 0 := fun z => by rw [z, Rat.zero_mul] at h; exact absurd h (by decide)
      have : b ≠ 0 := fun z => by rw [z, Rat.mul_zero] at h; exact absurd h (by decide)
      grind
    · have : a ≠ 0 := fun z => by rw [z, Rat.zero_mul] at h; exact absurd h (by decide)
      have : b ≠ 0 := fun z => by rw [z, Rat.mul_zero] at h; exact absurd h (by decide)
      grind
    · have := Rat.mul_nonneg (a := -a) (b := -b) (by grind) (by grind); grind
  · rintro (⟨h1, h2⟩ | ⟨h1, h2⟩)
    · have := Rat.mul_pos (a := -a) (b := b) (by grind) h2; grind
    · have := Rat.mul_pos (a := a) (b := -b) h1 (by grind); grind
/-- the sign alone counts -/
def raG (a b : Rat) : Prop := (a = 0 ↔ b = 0) ∧ (a < 0 ↔ b < 0)
theorem raG_pos {a b : Rat} (h : raG a b) : 0 < a ↔ 0 < b := by
  obtain ⟨h1, h2⟩ := h
  constructor <;> intro q <;> grind
theorem raG_mul {a b c d : Rat} (h1 : raG a b) (h2 : raG c d) : a * c < 0 ↔ b * d < 0 := by
  rw [ra_neg_iff, ra_neg_iff, h1.2, h2.2, raG_pos h1, raG_pos h2]
theorem raG_rf (a : Rat) : raG a a := ⟨Iff.rfl, Iff.rfl⟩
theorem raG_sm {a b : Rat} (h : raG a b) : raG b a := ⟨h.1.symm, h.2.symm⟩
theorem raG_k {k a : Rat} (h : 0 < k) : raG (k * a) a := by
  refine ⟨?_, ?_⟩
  · rw [Rat.mul_eq_zero]
    exact ⟨fun q => q.resolve_left (Rat.ne_of_gt h), Or.inr⟩
  · exact Rat.mul_neg_iff_of_pos_left h
theorem raC_sg : ∀ {l m : List Rat} {p q : Rat}, raG p q → l.length = m.length → (∀ i (h : i < l.length) (h2 : i < m.length), raG l[i] m[i]) → raC p l = raC q m
  | [], [], p, q, _, _, _ => rfl
  | a :: t, b :: u, p, q, h, hl, hh => by
    have h0 := hh 0 (by simp) (by simp)
    simp only [List.getElem_cons_zero] at h0
    have ht : t.length = u.length := by simpa using hl
    have h1 : ∀ i (h : i < t.length) (h2 : i < u.length), raG t[i] u[i] := fun i a1 a2 => hh (i + 1) (Nat.succ_lt_succ a1) (Nat.succ_lt_succ a2)
    rw [raC, raC]
    by_cases z : a = 0
    · rw [if_pos z, if_pos (h0.1.mp z)]
      exact raC_sg h ht h1
    · rw [if_neg z, if_neg (fun w => z (h0.1.mpr w)), raC_sg h0 ht h1]
      by_cases y : a * p < 0
      · rw [if_pos y, if_pos ((raG_mul h0 h).mp y)]
      · rw [if_neg y, if_neg (fun w => y ((raG_mul h0 h).mpr w))]
/-- all signs turned -/
theorem raC_ng : ∀ (l : List Rat) (p : Rat), raC (-p) (raS (-1) l) = raC p l
  | [], p => rfl
  | a :: t, p => by
    rw [raS, raC, raC]
    have h1 : (-1 * a = 0) ↔ a = 0 := by constructor <;> intro q <;> grind
    have h2 : -1 * a * -p = a * p := by grind
    have h3 : -1 * a = -a := by grind
    by_cases z : a = 0
    · rw [if_pos z, if_pos (h1.mpr z)]; exact raC_ng t p
    · rw [if_neg z, if_neg (fun w => z (h1.mp w)), h2, h3, raC_ng t a]
