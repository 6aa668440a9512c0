/-! the coefficients of p(x + k); Descartes' rule for values at increasing points -/
def raH (k : Rat) : List Rat → List Rat
  | [] => []
  | a :: t => raA (a :: raH k t) (raS k (raH k t))
theorem raV_H (k : Rat) : ∀ (p : List Rat) (x : Rat), raV (raH k p) x = raV p (x + k)
  | [], x => rfl
  | a :: t, x => by simp only [raH, raV]; rw [raV_A, raV_S, raV, raV_H k t x]; grind
theorem raH_len (k : Rat) : ∀ (p : List Rat), (raH k p).length = p.length
  | [] => rfl
  | a :: t => by simp only [raH, raA_len, raS_len, List.length_cons, raH_len k t]; omega
theorem raC_mono {p : Rat} {a : Rat} {l m : List Rat} (h : ∀ q, raC q l ≤ raC q m) : raC p (a :: l) ≤ raC p (a :: m) := by
  rw [raC, raC]
  split
  · exact h p
  · exact Nat.add_le_add_left (h a) _
theorem raC_AS {k : Rat} (hk : 0 ≤ k) : ∀ (m : List Rat) (p a : Rat), raC p (raA (a :: m) (raS k m)) ≤ raC p (a :: m)
  | [], p, a => by simp only [raS, raA]; exact Nat.le_refl _
  | b :: m, p, a => by
    simp only [raS, raA]
    refine Nat.le_trans (raC_mono (m := b :: m) (fun q => raC_AS hk m q b)) (raC_ea hk)
theorem raC_H {k : Rat} (hk : 0 ≤ k) : ∀ (l : List Rat) (p : Rat), raC p (raH k l) ≤ raC p l
  | [], p => Nat.le_refl _
  | a :: t, p => by
    rw [raH]
    exact Nat.le_trans (raC_AS hk _ p a) (raC_mono (fun q => raC_H hk t q))
theorem raF_any : ∀ (l : List Rat), (∀ a ∈ l, a = 0) ∨ ∀ p q, raF p l = raF q l
  | [] => Or.inl (fun a h => by cases h)
  | a :: t => by
    by_cases ha : a = 0
    · rcases raF_any t with h | h
      · exact Or.inl (fun x hx => (List.mem_cons.mp hx).elim (fun e => by rw [e, ha]) (h x))
      · exact Or.inr (fun p q => by rw [raF, raF, if_pos ha, if_pos ha]; exact h p q)
    · exact Or.inr (fun p q => by rw [raF, raF, if_neg ha, if_neg ha])
theorem raF_z : ∀ (l : List Rat) (p : Rat), (∀ a ∈ l, a = 0) → raF p l = p
  | [], p, _ => rfl
  | a :: t, p, h => by rw [raF, if_pos (h a List.mem_cons_self)]; exact raF_z t p (fun x hx => h x (List.mem_cons_of_mem _ hx))
theorem raF_AS {k : Rat} : ∀ (m : List Rat) (p a : Rat), raF p (raA (a :: m) (raS k m)) = raF p (a :: m)
  | [], p, a => by simp only [raS, raA]
  | b :: m, p, a => by
    simp only [raS, raA]
    rw [raF, raF, raF_AS m, raF_AS m]
    rcases raF_any (b :: m) with h | h
    · have hb : b = 0 := h b List.mem_cons_self
      rw [hb, Rat.mul_zero, Rat.add_zero]
    · split <;> split <;> exact h _ _
theorem raF_H {k : Rat} : ∀ (l : List Rat) (p : Rat), raF p (raH k l) = raF p l
  | [], p => rfl
  | a :: t, p => by
    rw [raH, raF_AS, raF, raF, raF_H t, raF_H t]
/-- the values at the points that these steps reach, from 0; then the leading coefficient -/
def raJ (L : Rat) : List Rat → List Rat → List Rat
  | _, [] => [L]
  | c, d :: ds => raV c d :: raJ L (raH d c) ds
theorem raH_hd {k : Rat} {c : List Rat} {a : Rat} {t : List Rat} (h : raH k c = a :: t) : raV c k = a := by
  have h1 := raV_H k c 0
  rw [h, raV, Rat.zero_mul, Rat.add_zero, Rat.zero_add] at h1
  exact h1.symm
theorem raV_z0 {a : Rat} {t : List Rat} : raV (a :: t) 0 = a := by rw [raV, Rat.zero_mul, Rat.add_zero]
theorem raJ_le (L : Rat) : ∀ (ds : List Rat), (∀ d ∈ ds, 0 ≤ d) → ∀ (f : Rat) (c0 c1 : List Rat), f ≠ 0 → raF f c0 = L → raF 0 c1 = L ∨ c1 = [] → raC f c1 ≤ raC f c0 → (∃ t, c0 = f :: t) → raC 0 c1 ≤ raC 0 c0 → c1.length = c0.length → raC f (raJ L c1 ds) ≤ raC 0 c0
  | [], _, f, c0, c1, hf, hL, _, _, ⟨t, ht⟩, _, _ => by
    have hL0 : L ≠ 0 := by rw [← hL]; exact raF_nz c0 f hf
    rw [raJ, raC, if_neg hL0, raC]
    subst ht
    have h1 := raC_par t f hf
    rw [raF, if_neg hf] at hL
    rw [hL] at h1
    rw [raC_z hf]
    split
    · next q => rw [if_pos q] at h1; omega
    · omega
  | d :: ds, hd, f, c0, c1, hf, hL, h1, h2, ⟨t, ht⟩, h3, hl => by
    have hd0 := hd d List.mem_cons_self
    have hds : ∀ x ∈ ds, 0 ≤ x := fun x hx => hd x (List.mem_cons_of_mem _ hx)
    have hL0 : L ≠ 0 := by rw [← hL]; exact raF_nz c0 f hf
    rw [raJ]
    obtain ⟨c2, hc2⟩ : ∃ c2, c2 = raH d c1 := ⟨_, rfl⟩
    rw [← hc2]
    have l2 : c2.length = c0.length := by rw [hc2, raH_len, hl]
    have m1 : raC 0 c2 ≤ raC 0 c1 := by rw [hc2]; exact raC_H hd0 c1 0
    have m2 : raC f c2 ≤ raC f c1 := by rw [hc2]; exact raC_H hd0 c1 f
    have m3 : raF 0 c2 = L := by
      rcases h1 with h1 | h1
      · rw [hc2, raF_H]; exact h1
      · rw [h1, ht] at hl; simp at hl
    obtain ⟨g, t2, hg⟩ : ∃ g t2, c2 = g :: t2 := by
      cases c2 with
      | nil => rw [ht] at l2; simp at l2
      | cons g t2 => exact ⟨g, t2, rfl⟩
    have hv : raV c1 d = g := raH_hd (by rw [← hc2]; exact hg)
    rw [hv, raC]
    by_cases hg0 : g = 0
    · rw [if_pos hg0]
      exact raJ_le L ds hds f c0 c2 hf hL (Or.inl m3) (Nat.le_trans m2 h2) ⟨t, ht⟩ (Nat.le_trans m1 h3) l2
    · rw [if_neg hg0]
      have m4 : raF g c2 = L := by rw [← m3, hg, raF, raF, if_neg hg0, if_neg hg0]
      have ih := raJ_le L ds hds g c2 c2 hg0 m4 (Or.inl m3) (Nat.le_refl _) ⟨t2, hg⟩ (Nat.le_refl _) rfl
      split
      · next q =>
        have p1 := raC_par t f hf
        have p2 := raC_par t2 g hg0
        rw [ht, raF, if_neg hf] at hL
        rw [hg, raF, if_neg hg0] at m4
        rw [hL] at p1
        rw [m4] at p2
        have e1 : raC 0 c0 = raC f t := by rw [ht, raC_z hf]
        have e2 : raC 0 c2 = raC g t2 := by rw [hg, raC_z hg0]
        have p3 := ra_s3 hg0 hf hL0
        rw [if_pos q] at p3
        have a := ra_neg_iff (a := L) (b := g)
        have b := ra_neg_iff (a := L) (b := f)
        rw [ra_if Iff.rfl] at p1
        omega
      · omega
theorem raJ_le0 (L : Rat) : ∀ (ds : List Rat), (∀ d ∈ ds, 0 ≤ d) → ∀ (c : List Rat), raF 0 c = L → raC 0 (raJ L c ds) ≤ raC 0 c
  | [], _, c, hL => by
    rw [raJ, raC]
    split
    · exact Nat.zero_le _
    · rw [Rat.mul_zero, if_neg (by decide), raC]; exact Nat.zero_le _
  | d :: ds, hd, c, hL => by
    have hd0 := hd d List.mem_cons_self
    have hds : ∀ x ∈ ds, 0 ≤ x := fun x hx => hd x (List.mem_cons_of_mem _ hx)
    rw [raJ]
    obtain ⟨c2, hc2⟩ : ∃ c2, c2 = raH d c := ⟨_, rfl⟩
    rw [← hc2]
    have m1 : raC 0 c2 ≤ raC 0 c := by rw [hc2]; exact raC_H hd0 c 0
    have m3 : raF 0 c2 = L := by rw [hc2, raF_H]; exact hL
    cases hcc : c2 with
    | nil =>
      have : c = [] := List.length_eq_zero_iff.mp (by rw [← raH_len d c, ← hc2, hcc]; rfl)
      subst this
      rw [hcc] at m3 m1
      show raC 0 (0 :: raJ L [] ds) ≤ raC 0 []
      rw [show raC 0 (0 :: raJ L [] ds) = raC 0 (raJ L [] ds) from if_pos rfl]
      exact Nat.le_trans (raJ_le0 L ds hds [] m3) m1
    | cons g t2 =>
      have hv : raV c d = g := raH_hd (by rw [← hc2]; exact hcc)
      rw [hv, ← hcc]
      by_cases hg0 : g = 0
      · rw [raC, if_pos hg0]
        exact Nat.le_trans (raJ_le0 L ds hds c2 m3) m1
      · rw [raC_z hg0]
        have m4 : raF g c2 = L := by rw [← m3, hcc, raF, raF, if_neg hg0, if_neg hg0]
        exact Nat.le_trans (raJ_le L ds hds g c2 c2 hg0 m4 (Or.inl m3) (Nat.le_refl _) ⟨t2, hcc⟩ (Nat.le_refl _) rfl) m1
/-- from increasing points -/
def raO : Rat → List Rat → Prop
  | _, [] => True
  | u, v :: t => u ≤ v ∧ raO v t
theorem raJ_pts (L : Rat) : ∀ (t : List Rat) (u : Rat) (c : List Rat), raO u t → ∃ ds, (∀ d ∈ ds, 0 ≤ d) ∧ raJ L c ds = t.map (fun x => raV c (x - u)) ++ [L]
  | [], u, c, _ => ⟨[], (fun d h => nomatch h), rfl⟩
  | v :: t, u, c, h => by
    obtain ⟨ds, h1, h2⟩ := raJ_pts L t v (raH (v - u) c) h.2
    refine ⟨(v - u) :: ds, fun d hd => ?_, ?_⟩
    · rcases List.mem_cons.mp hd with q | q
      · rw [q]; have := h.1; grind
      · exact h1 d q
    · rw [raJ, h2, List.map_cons, List.cons_append]
      congr 2
      refine List.map_congr_left (fun x _ => ?_)
      rw [raV_H]
      congr 1
      grind
/-- Descartes: at points from 0 on, in order, and then the leading coefficient -/
theorem ra_desc {c : List Rat} {t : List Rat} (h : raO 0 t) : raC 0 (t.map (raV c) ++ [raF 0 c]) ≤ raC 0 c := by
  obtain ⟨ds, h1, h2⟩ := raJ_pts (raF 0 c) t 0 c h
  have h3 := raJ_le0 (raF 0 c) ds h1 c rfl
  rw [h2] at h3
  have e : (fun x => raV c (x - 0)) = raV c := by
    funext x
    congr 1
    grind
  rw [e] at h3
  exact h3
