/-! a node with no change of signs, or one -/
theorem ra_z1 {a b x : Rat} (h1 : a < x) (h2 : x ≤ b) : 0 ≤ (b - a) * (x - a)⁻¹ - 1 := by
  have h3 : 0 < x - a := by grind
  have h4 := Rat.inv_pos.mpr h3
  have h5 := Rat.mul_inv_cancel (x - a) (by grind)
  have h6 := Rat.mul_nonneg (a := b - x) (by grind) (Rat.le_of_lt h4)
  generalize (x - a)⁻¹ = w at *
  grind
theorem ra_z2 {a b x y : Rat} (h1 : a < x) (h2 : x < y) (h3 : y ≤ b) : (b - a) * (y - a)⁻¹ - 1 ≤ (b - a) * (x - a)⁻¹ - 1 := by
  have p1 : 0 < x - a := by grind
  have p2 : 0 < y - a := by grind
  have i1 := Rat.inv_pos.mpr p1
  have i2 := Rat.inv_pos.mpr p2
  have e1 := Rat.mul_inv_cancel (x - a) (by grind)
  have e2 := Rat.mul_inv_cancel (y - a) (by grind)
  have m1 := Rat.mul_nonneg (a := (b - a) * (y - x)) (b := (x - a)⁻¹ * (y - a)⁻¹) (Rat.mul_nonneg (by grind) (by grind)) (Rat.le_of_lt (Rat.mul_pos i1 i2))
  generalize (x - a)⁻¹ = w at *
  generalize (y - a)⁻¹ = u at *
  have : (b - a) * (y - x) * (w * u) = (b - a) * ((y - a) * u) * w - (b - a) * ((x - a) * w) * u := by grind
  rw [this, e1, e2] at m1
  grind
theorem ra_z3 {a b x : Rat} (h1 : a < x) (h2 : a < b) : ((b - a) * (x - a)⁻¹ - 1 + 1) ≠ 0 ∧ 0 < (b - a) * (x - a)⁻¹ - 1 + 1 ∧ a + (b - a) * ((b - a) * (x - a)⁻¹ - 1 + 1)⁻¹ = x := by
  have p1 : 0 < x - a := by grind
  have p2 : 0 < b - a := by grind
  have i1 := Rat.inv_pos.mpr p1
  have m := Rat.mul_pos p2 i1
  have e : (b - a) * (x - a)⁻¹ - 1 + 1 = (b - a) * (x - a)⁻¹ := by grind
  rw [e]
  refine ⟨Rat.ne_of_gt m, m, ?_⟩
  have e1 := Rat.mul_inv_cancel (x - a) (Rat.ne_of_gt p1)
  have e2 := Rat.mul_inv_cancel _ (Rat.ne_of_gt m)
  have e3 := Rat.mul_inv_cancel (b - a) (Rat.ne_of_gt p2)
  generalize ((b - a) * (x - a)⁻¹)⁻¹ = w at *
  generalize (x - a)⁻¹ = u at *
  generalize b - a = k at *
  generalize hy : x - a = y at *
  have : k * w = y * (k * u * w) := by
    have : y * (k * u * w) = (y * u) * (k * w) := by grind
    rw [this, e1]; grind
  rw [this, e2]
  grind
/-- the sign of r at z(x) is that of s at x -/
theorem ra_node {s q : List Rat} {a b lam : Rat} (hl : 0 < lam) (hq : ∀ y, raV q y = lam * raV s (a + (b - a) * y)) (hab : a < b) {x : Rat} (hx : a < x) : raG (raV (raH 1 q.reverse) ((b - a) * (x - a)⁻¹ - 1)) (raV s x) := by
  obtain ⟨h1, h2, h3⟩ := ra_z3 (b := b) hx hab
  rw [raV_H, raV_rev _ _ h1, hq, h3, ← Rat.mul_assoc]
  exact raG_k (Rat.mul_pos (Rat.pow_pos h2) hl)
/-- the images of a grid, from its end on -/
theorem ra_imgs {a b d : Rat} (hab : a < b) : ∀ (t : List Rat) (u : Rat), raZ d u t → a ≤ u → raE u t ≤ b → ∀ (acc : List Rat), (∀ v t', t = v :: t' → raO ((b - a) * (v - a)⁻¹ - 1) acc) → ∀ z, (∀ x, a < x → x = raE u t → z ≤ (b - a) * (x - a)⁻¹ - 1) → t ≠ [] → raO z (((t.map (fun x => (b - a) * (x - a)⁻¹ - 1)).reverse) ++ acc) := by
  intro t
  induction t with
  | nil => intro u _ _ _ acc _ z _ h; exact absurd rfl h
  | cons v t ih =>
    intro u hz hu he acc hacc z hzz _
    have hav : a < v := by have := hz.1; grind
    have hvb : v ≤ b := Rat.le_trans (raZ_le t v hz.2.2) he
    have hacc2 := hacc v t rfl
    rw [List.map_cons, List.reverse_cons, List.append_assoc, List.singleton_append]
    cases t with
    | nil =>
      rw [List.map_nil, List.reverse_nil, List.nil_append]
      exact ⟨hzz v hav rfl, hacc2⟩
    | cons w t =>
      have hwb : w ≤ b := Rat.le_trans (raZ_le t w hz.2.2.2.2) he
      refine ih v hz.2.2 (Rat.le_of_lt hav) he _ (fun v' t' q => ?_) z hzz (by simp)
      simp only [List.cons.injEq] at q
      obtain ⟨q, _⟩ := q
      subst q
      exact ⟨ra_z2 hav hz.2.2.1 hwb, hacc2⟩
theorem raO_up {z w : Rat} (h : z ≤ w) {l : List Rat} (k : raO w l) : raO z l := by
  cases l with
  | nil => trivial
  | cons y l => exact ⟨Rat.le_trans h k.1, k.2⟩
theorem raC_le1 (l : List Rat) (a : Rat) : raC 0 l ≤ raC 0 (l ++ [a]) := by
  rw [raC_app]; omega
/-- on a grid: no more changes than the node has -/
theorem ra_node_le {s q : List Rat} {a b lam d : Rat} (hl : 0 < lam) (hq : ∀ y, raV q y = lam * raV s (a + (b - a) * y)) (hab : a < b) {t : List Rat} (ht : t ≠ []) (hz : raZ d a t) (he : raE a t = b) : raC 0 ((a :: t).map (raV s)) ≤ raC 0 (raH 1 q.reverse) := by
  have h1 := ra_imgs hab t a hz Rat.le_refl (by rw [he]; exact Rat.le_refl) [] (fun _ _ _ => trivial) 0 (fun x hx hx2 => by rw [hx2, he]; exact ra_z1 hab Rat.le_refl) ht
  have h2 := h1
  rw [List.append_nil] at h2
  have h3 := ra_desc (c := raH 1 q.reverse) h2
  rw [← raC_rev, List.map_cons, List.reverse_cons]
  have e1 : ∀ (L1 L2 : Rat), raG L1 L2 → raC 0 (((t.map (raV s)).reverse) ++ [L1]) = raC 0 (((t.map (fun x => (b - a) * (x - a)⁻¹ - 1)).reverse).map (raV (raH 1 q.reverse)) ++ [L2]) := fun L1 L2 hL => by
    refine raC_sg (raG_rf 0) (by simp) (fun i i1 i2 => ?_)
    rw [← List.map_reverse, List.map_map] at *
    simp only [List.length_append, List.length_map, List.length_reverse, List.length_cons, List.length_nil] at i1
    by_cases hi : i < t.length
    · rw [List.getElem_append_left (by simp; exact hi), List.getElem_append_left (by simp; exact hi)]
      simp only [List.getElem_map, List.getElem_reverse, Function.comp, List.length_map]
      have hm : t[t.length - 1 - i] ∈ t := List.getElem_mem _
      exact raG_sm (ra_node hl hq hab (raZ_in t a hz _ hm).1)
    · rw [List.getElem_append_right (by simp; omega), List.getElem_append_right (by simp; omega)]
      simp only [List.length_map, List.length_reverse, show i - t.length = 0 by omega, List.getElem_cons_zero]
      exact hL
  by_cases hs : raV s a = 0
  · rw [hs]
    have e2 := e1 0 0 (raG_rf 0)
    rw [e2, raC_app, Rat.zero_mul, if_neg (by decide)]
    exact Nat.le_trans (Nat.le_trans (Nat.le_of_eq rfl) (raC_le1 _ _)) h3
  · rw [e1 _ (raF 0 (raH 1 q.reverse)) ?_]
    · exact h3
    · rw [raF_H, raF_rev]
      have e0 := hq 0
      rw [Rat.mul_zero, Rat.add_zero] at e0
      have : raB q = lam * raV s a := by
        cases q with
        | nil => rw [raV] at e0; exact absurd (Rat.mul_eq_zero.mp e0.symm) (fun w => w.elim (Rat.ne_of_gt hl) hs)
        | cons c q =>
          rw [raV_z0] at e0
          have : c ≠ 0 := fun w => by rw [w] at e0; exact absurd (Rat.mul_eq_zero.mp e0.symm) (fun w => w.elim (Rat.ne_of_gt hl) hs)
          rw [raB, if_neg this, e0]
      rw [this]
      exact raG_sm (raG_k hl)
/-- a root-free part, left and right: where the signs are those of the outer coefficients -/
theorem ra_ends {s q : List Rat} {a b lam : Rat} (hl : 0 < lam) (hq : ∀ y, raV q y = lam * raV s (a + (b - a) * y)) (hab : a < b) : ∃ x y, a < x ∧ x < y ∧ y < b ∧ raG (raV s x) (raF 0 (raH 1 q.reverse)) ∧ raG (raV s y) (raB (raH 1 q.reverse)) := by
  have p1 : 0 < b - a := (Rat.lt_iff_sub_pos _ _).mp hab
  obtain ⟨e1, he1, n1⟩ := ra_near q
  obtain ⟨e2, he2, n2⟩ := ra_near (raH 1 q.reverse)
  obtain ⟨e3, he3, h1, h2⟩ := ra_min he1 (by grind : (0 : Rat) < 1 / 4)
  obtain ⟨e4, he4, h3, h4⟩ := ra_min he2 (by grind : (0 : Rat) < 1 / 2)
  have e5 : 0 < 1 + e4 := by grind
  have i5 := Rat.inv_pos.mpr e5
  have m5 := Rat.mul_inv_cancel (1 + e4) (Rat.ne_of_gt e5)
  have m6 := Rat.mul_inv_cancel (b - a) (Rat.ne_of_gt p1)
  have w1 : (1 + e4)⁻¹ < 1 := by
    have := Rat.mul_lt_mul_of_pos_right (a := 1) (b := 1 + e4) (by grind) i5
    grind
  have w2 : 1 / 2 < (1 + e4)⁻¹ := by
    have := Rat.mul_le_mul_of_nonneg_right (a := 1 + e4) (b := 3 / 2) (by grind) (Rat.le_of_lt i5)
    grind
  obtain ⟨w, hw⟩ : ∃ w, w = (1 + e4)⁻¹ := ⟨_, rfl⟩
  rw [← hw] at w1 w2 m5 i5
  have k1 := Rat.mul_pos p1 he3
  have k2 : (b - a) * e3 ≤ (b - a) * (1 / 4) := Rat.mul_le_mul_of_nonneg_left h2 (Rat.le_of_lt p1)
  have k3 : (b - a) * (1 / 2) < (b - a) * w := Rat.mul_lt_mul_of_pos_left w2 p1
  have k4 : (b - a) * w < (b - a) * 1 := Rat.mul_lt_mul_of_pos_left w1 p1
  have hay : a < a + (b - a) * w := by grind
  refine ⟨a + (b - a) * e3, a + (b - a) * w, by grind, by grind, by grind, ?_, ?_⟩
  · rw [raF_H, raF_rev]
    have a1 := n1 e3 he3 h1
    rw [hq] at a1
    exact ⟨Iff.trans (raG_sm (raG_k hl)).1 a1.1, Iff.trans (raG_sm (raG_k hl)).2 a1.2⟩
  · have a1 := ra_node hl hq hab hay
    have e6 : (b - a) * (a + (b - a) * w - a)⁻¹ - 1 = e4 := by
      have : a + (b - a) * w - a = (b - a) * w := by grind
      rw [this, Rat.inv_mul_rev]
      have e7 : w⁻¹ = 1 + e4 := by rw [hw, Rat.inv_inv]
      rw [e7]
      clear n1 n2 hq a1
      generalize (b - a)⁻¹ = v at *
      grind
    rw [e6] at a1
    have a2 := n2 e4 he4 h3
    exact ⟨Iff.trans a1.1.symm a2.1, Iff.trans a1.2.symm a2.2⟩
/-- a node with fewer than two changes tells its number of roots -/
theorem ra_leaf {H : Nat → List Rat} {r : Nat} {p g q : List Rat} {a b lam : Rat} (hk : raK H r) (hr : 1 ≤ r → raQ H p g) (hl : 0 < lam) (hq : ∀ y, raV q y = lam * raV (H 0) (a + (b - a) * y)) (hab : a < b) (hn : raC 0 (raH 1 q.reverse) < 2) :
    raX H r a = raX H r b + raC 0 (raH 1 q.reverse) + (if raV (H 0) b = 0 then 1 else 0) := by
  obtain ⟨d, hd, h1⟩ := ra_sturm hk hr a b
  obtain ⟨x, y, h2, h3, h4, h5, h6⟩ := ra_ends hl hq hab
  obtain ⟨t1, a1, a2, a3⟩ := raZ_ex hd h2
  obtain ⟨t2, b1, b2, b3⟩ := raZ_ex hd h3
  obtain ⟨t3, c1, c2, c3⟩ := raZ_ex hd h4
  obtain ⟨d1, d2⟩ := raZ_app t2 t3 x y b2 b3 c2
  obtain ⟨f1, f2⟩ := raZ_app t1 (t2 ++ t3) a x a2 a3 d1
  rw [d2, c3] at f2
  have hne : t1 ++ (t2 ++ t3) ≠ [] := by simp [a1]
  have k1 := h1 _ hne f1 f2
  have k2 := ra_node_le hl hq hab hne f1 f2
  rw [k1]
  suffices raC 0 ((a :: (t1 ++ (t2 ++ t3))).map (raV (H 0))) = raC 0 (raH 1 q.reverse) by rw [this]
  rcases Nat.eq_zero_or_pos (raC 0 (raH 1 q.reverse)) with z | z
  · omega
  · have o : raC 0 (raH 1 q.reverse) = 1 := by omega
    have par := raC_parB (raH 1 q.reverse)
    rw [o] at par
    have neg : raF 0 (raH 1 q.reverse) * raB (raH 1 q.reverse) < 0 := by
      refine Classical.byContradiction (fun w => ?_)
      rw [if_neg w] at par
      omega
    have neg2 : raV (H 0) x * raV (H 0) y < 0 := (raG_mul h5 h6).mpr neg
    have mx : raV (H 0) x ∈ (a :: (t1 ++ (t2 ++ t3))).map (raV (H 0)) := List.mem_map.mpr ⟨x, List.mem_cons_of_mem _ (List.mem_append_left _ (by rw [← a3]; exact raZ_mem t1 a a1)), rfl⟩
    have my : raV (H 0) y ∈ (a :: (t1 ++ (t2 ++ t3))).map (raV (H 0)) := List.mem_map.mpr ⟨y, List.mem_cons_of_mem _ (List.mem_append_right _ (List.mem_append_left _ (by rw [← b3]; exact raZ_mem t2 x b1))), rfl⟩
    have := raC_two mx my neg2
    omega
/-- no root from u to v: as many changes here as there -/
theorem ra_none {H : Nat → List Rat} {r : Nat} {p g : List Rat} {u v : Rat} (hk : raK H r) (hr : 1 ≤ r → raQ H p g) (huv : u < v) (hs : ∀ x y, u ≤ x → x ≤ v → u ≤ y → y ≤ v → 0 < raV (H 0) x * raV (H 0) y) : raX H r u = raX H r v := by
  obtain ⟨d, hd, h1⟩ := ra_sturm hk hr u v
  obtain ⟨t, a1, a2, a3⟩ := raZ_ex hd huv
  have h2 := h1 t a1 a2 a3
  have hv : raV (H 0) v ≠ 0 := fun q => by
    have := hs v v (Rat.le_of_lt huv) Rat.le_refl (Rat.le_of_lt huv) Rat.le_refl
    rw [q, Rat.mul_zero] at this
    exact absurd this (by decide)
  rw [if_neg hv] at h2
  have h3 : raC 0 ((u :: t).map (raV (H 0))) = 0 := by
    rcases Nat.eq_zero_or_pos (raC 0 ((u :: t).map (raV (H 0)))) with q | q
    · exact q
    · have key : ∀ (l : List Rat) (p : Rat), 0 < raC p l → ∃ x ∈ l, ∃ y, (y = p ∨ y ∈ l) ∧ x * y < 0 := by
        intro l
        induction l with
        | nil => intro p h; exact absurd h (by simp [raC])
        | cons c t ih =>
          intro p h
          rw [raC] at h
          by_cases hc : c = 0
          · rw [if_pos hc] at h
            obtain ⟨x, hx, y, hy, hxy⟩ := ih p h
            exact ⟨x, List.mem_cons_of_mem _ hx, y, hy.imp id (List.mem_cons_of_mem _), hxy⟩
          · rw [if_neg hc] at h
            by_cases w : c * p < 0
            · exact ⟨c, List.mem_cons_self, p, Or.inl rfl, w⟩
            · rw [if_neg w] at h
              obtain ⟨x, hx, y, hy, hxy⟩ := ih c (by omega)
              refine ⟨x, List.mem_cons_of_mem _ hx, y, Or.inr ?_, hxy⟩
              rcases hy with hy | hy
              · rw [hy]; exact List.mem_cons_self
              · exact List.mem_cons_of_mem _ hy
      obtain ⟨x, hx, y, hy, hxy⟩ := key _ 0 q
      have hin : ∀ z ∈ u :: t, u ≤ z ∧ z ≤ v := fun z hz => by
        rcases List.mem_cons.mp hz with e | e
        · subst e; exact ⟨Rat.le_refl, Rat.le_of_lt huv⟩
        · have := raZ_in t u a2 z e
          rw [a3] at this
          exact ⟨Rat.le_of_lt this.1, this.2⟩
      obtain ⟨x1, hx1, rfl⟩ := List.mem_map.mp hx
      rcases hy with hy | hy
      · rw [hy, Rat.mul_zero] at hxy; exact absurd hxy (by decide)
      · obtain ⟨y1, hy1, rfl⟩ := List.mem_map.mp hy
        have i1 := hin x1 hx1
        have i2 := hin y1 hy1
        have := hs x1 y1 i1.1 i1.2 i2.1 i2.2
        exact absurd hxy (Rat.not_lt.mpr (Rat.le_of_lt this))
  omega
/-- Descartes' rule for a chain's first polynomial, from 0 to a point right of which it has its last sign -/
theorem ra_rule {H : Nat → List Rat} {r : Nat} {p g : List Rat} {v : Rat} (hk : raK H r) (hr : 1 ≤ r → raQ H p g) (hv : 0 < v) (hs : raG (raV (H 0) v) (raF 0 (H 0))) (hn : raF 0 (H 0) ≠ 0) : ∃ m, raC 0 (H 0) + raX H r v = raX H r 0 + 2 * m := by
  obtain ⟨d, hd, h1⟩ := ra_sturm hk hr 0 v
  obtain ⟨e, he, n1⟩ := ra_near (H 0)
  obtain ⟨x, hx, x1, x2⟩ := ra_min he (show 0 < v * (1 / 2) from Rat.mul_pos hv (by grind))
  have hxv : x < v := by grind
  obtain ⟨t1, a1, a2, a3⟩ := raZ_ex (d := d) hd hxv
  obtain ⟨t0, b1, b2, b3⟩ := raZ_ex (d := d) hd hx
  have hd2 : ∃ y, 0 < y ∧ y ≤ d ∧ y < x := by
    obtain ⟨y, h1, h2, h3⟩ := ra_min hd (show 0 < x * (1 / 2) from Rat.mul_pos hx (by grind))
    exact ⟨y, h1, h2, by grind⟩
  obtain ⟨y, y1, y2, y3⟩ := hd2
  obtain ⟨t2, c1, c2, c3⟩ := raZ_ex (d := d) hd y3
  have z1 : raZ d 0 (y :: (t2 ++ t1)) ∧ raE 0 (y :: (t2 ++ t1)) = v := by
    obtain ⟨k1, k2⟩ := raZ_app t2 t1 y x c2 c3 a2
    exact ⟨⟨y1, by grind, k1⟩, by rw [raE, k2, a3]⟩
  have k1 := h1 _ (by simp) z1.1 z1.2
  have hv0 : raV (H 0) v ≠ 0 := fun q => hn (hs.1.mp q)
  rw [if_neg hv0] at k1
  have ord : ∀ (t : List Rat) (u : Rat), raZ d u t → raO u t := by
    intro t
    induction t with
    | nil => intro u _; trivial
    | cons w t ih => intro u h; exact ⟨Rat.le_of_lt h.1, ih w h.2.2⟩
  have k2 := ra_desc (c := H 0) (t := 0 :: y :: (t2 ++ t1)) ⟨Rat.le_refl, ord _ _ z1.1⟩
  have k3 := Nat.le_trans (raC_le1 ((0 :: y :: (t2 ++ t1)).map (raV (H 0))) (raF 0 (H 0))) k2
  have p1 := raC_parB (H 0)
  have p2 := raC_parB ((0 :: y :: (t2 ++ t1)).map (raV (H 0)))
  have sy : raG (raV (H 0) y) (raB (H 0)) := n1 y y1 (by grind)
  have hB0 : raB (H 0) ≠ 0 := fun q => by
    have : ∀ l : List Rat, raB l = 0 → raF 0 l = 0 := by
      intro l
      induction l with
      | nil => intro _; rfl
      | cons a t ih =>
        intro h
        rw [raB] at h
        by_cases ha : a = 0
        · rw [if_pos ha] at h; rw [raF, if_pos ha]; exact ih h
        · rw [if_neg ha] at h; exact absurd h ha
    exact hn (this _ q)
  have sB : raG (raB ((0 :: y :: (t2 ++ t1)).map (raV (H 0)))) (raB (H 0)) := by
    rw [List.map_cons, List.map_cons, raB, raB]
    by_cases w : raV (H 0) 0 = 0
    · rw [if_pos w, if_neg (fun q => hB0 (sy.1.mp q))]; exact sy
    · rw [if_neg w]
      cases hh : H 0 with
      | nil => rw [hh] at w; exact absurd rfl w
      | cons c l =>
        rw [hh, raV_z0] at w
        rw [raV_z0, raB, if_neg w]
        exact raG_rf c
  have sF : raF 0 ((0 :: y :: (t2 ++ t1)).map (raV (H 0))) = raV (H 0) v := by
    have : ∀ (t : List Rat) (u q : Rat), t ≠ [] → raE u t = v → raF q (t.map (raV (H 0))) = raV (H 0) v := by
      intro t
      induction t with
      | nil => intro u q h; exact absurd rfl h
      | cons w t ih =>
        intro u q _ h2
        rw [raE] at h2
        cases t with
        | nil => rw [raE] at h2; subst h2; rw [List.map_cons, List.map_nil, raF, if_neg hv0]; rfl
        | cons w2 t => rw [List.map_cons, raF]; split <;> exact ih w _ (by simp) h2
    rw [List.map_cons, raF]
    split <;> exact this _ 0 _ (by simp) z1.2
  rw [sF] at p2
  have eq : (raV (H 0) v * raB ((0 :: y :: (t2 ++ t1)).map (raV (H 0))) < 0) ↔ (raF 0 (H 0) * raB (H 0) < 0) := raG_mul hs sB
  rw [ra_if eq] at p2
  refine ⟨(raC 0 (H 0) - raC 0 ((0 :: y :: (t2 ++ t1)).map (raV (H 0)))) / 2, ?_⟩
  omega
