/-! the tree of halves counts roots -/
/-- a polynomial's value from the power t on -/
def vW (r : Nat → Rat) (x : Rat) : Nat → Nat → Rat
  | 0, _ => 0
  | n + 1, t => r t + x * vW r x n (t + 1)
theorem vW_ivn (p : Nat → Int) (x : Rat) (n : Nat) : raV (ivn n p) x = vW (fun i => (p i : Rat)) x n 0 := by
  have key : ∀ n t, raV ((List.range' t n).map (fun i => ((p i : Int) : Rat))) x = vW (fun i => (p i : Rat)) x n t := by
    intro n
    induction n with
    | zero => intro t; rfl
    | succ n ih => intro t; rw [List.range'_succ, List.map_cons, raV, ih, vW]
  unfold ivn
  rw [List.range_eq_range', key]
theorem vW_cong {r s : Nat → Rat} {x : Rat} : ∀ n t, (∀ i, t ≤ i → i < t + n → r i = s i) → vW r x n t = vW s x n t
  | 0, _, _ => rfl
  | n + 1, t, h => by rw [vW, vW, h t (Nat.le_refl _) (by omega), vW_cong n (t + 1) (fun i a b => h i (by omega) (by omega))]
theorem vW_end (r : Nat → Rat) (x : Rat) : ∀ n t, vW r x (n + 1) t = vW r x n t + x ^ n * r (t + n)
  | 0, t => by rw [vW, vW, vW, Rat.pow_zero, Nat.add_zero]; grind
  | n + 1, t => by
    rw [vW, vW_end r x n (t + 1), vW, Rat.pow_succ, show t + 1 + n = t + (n + 1) by omega]; grind
/-- sums -/
def suR (r : Nat → Rat) : Nat → Nat → Rat
  | 0, _ => 0
  | n + 1, t => r t + suR r n (t + 1)
theorem suR_end (r : Nat → Rat) : ∀ n t, suR r (n + 1) t = suR r n t + r (t + n)
  | 0, t => by rw [suR, suR, suR, Nat.add_zero]; grind
  | n + 1, t => by
    rw [suR, suR_end r n (t + 1), suR, show t + 1 + n = t + (n + 1) by omega]; grind
theorem suR_cong {r s : Nat → Rat} : ∀ n t, (∀ i, t ≤ i → i < t + n → r i = s i) → suR r n t = suR s n t
  | 0, _, _ => rfl
  | n + 1, t, h => by rw [suR, suR, h t (Nat.le_refl _) (by omega), suR_cong n (t + 1) (fun i a b => h i (by omega) (by omega))]
/-- division by x - 1 -/
theorem vW_syn (r s : Nat → Rat) (X : Rat) (N : Nat) (hs : ∀ t, t ≤ N → s t = suR r (N + 1 - t) t) : ∀ n f, f + n = N → vW r (X + 1) (n + 1) f = s f + X * vW s (X + 1) n (f + 1)
  | 0, f, h => by
    rw [hs f (by omega), show N + 1 - f = 1 by omega, suR, suR, vW, vW, vW]; grind
  | n + 1, f, h => by
    have ih := vW_syn r s X N hs n (f + 1) (by omega)
    have e1 := hs f (by omega)
    have e2 := hs (f + 1) (by omega)
    rw [show N + 1 - f = n + 1 + 1 by omega, suR] at e1
    rw [show N + 1 - (f + 1) = n + 1 by omega] at e2
    rw [vW, ih, vW, e1, e2]
    grind
theorem mvL_at : ∀ (m : Nat) (r : Nat → Int) (f t : Nat), ((mvL m r f t : Int) : Rat) = if f ≤ t ∧ t < f + m then suR (fun i => (r i : Rat)) (f + m + 1 - t) t else (r t : Rat)
  | 0, r, f, t => by rw [mvL, if_neg (by omega)]
  | m + 1, r, f, t => by
    rw [mvL, mvL_at m _ f t]
    have hI : ∀ i, ((mvI r (f + m) i : Int) : Rat) = if i = f + m then (r (f + m) : Rat) + (r (f + m + 1) : Rat) else (r i : Rat) := fun i => by
      unfold mvI
      split
      · rw [Rat.intCast_add]
      · rfl
    by_cases c : f ≤ t ∧ t < f + m
    · rw [if_pos c, if_pos (by omega), show f + (m + 1) + 1 - t = (f + m + 1 - t) + 1 by omega, suR_end]
      obtain ⟨j, hj⟩ : ∃ j, f + m + 1 - t = j + 1 := ⟨f + m - t, by omega⟩
      rw [hj, suR_end, suR_end, suR_cong (s := fun i => (r i : Rat)) j t (fun i a b => by rw [hI, if_neg (by omega)]), hI, if_pos (by omega), show t + j = f + m by omega, show t + (j + 1) = f + m + 1 by omega]
      grind
    · rw [if_neg c, hI]
      by_cases d : t = f + m
      · rw [if_pos d, if_pos (by omega), show f + (m + 1) + 1 - t = 1 + 1 by omega, suR, suR, suR, d]; grind
      · rw [if_neg d, if_neg (by omega)]
/-- x becomes x + 1 -/
theorem mvA_V (g : Nat) (X : Rat) : ∀ (n : Nat) (r : Nat → Int), n ≤ g → vW (fun i => ((mvA g n r i : Int) : Rat)) X (g + 1) 0 = vW (fun i => (r i : Rat)) X (g - n) 0 + X ^ (g - n) * vW (fun i => (r i : Rat)) (X + 1) (n + 1) (g - n)
  | 0, r, _ => by
    rw [mvA, Nat.sub_zero, vW_end, Nat.zero_add, vW, vW]; grind
  | n + 1, r, h => by
    rw [mvA, mvA_V g X n _ (by omega)]
    obtain ⟨f, hf⟩ : ∃ f, g - (n + 1) = f := ⟨_, rfl⟩
    rw [show g - 1 - n = f by omega, show g - n = f + 1 by omega, hf]
    have hs := mvL_at (n + 1) r f
    have e1 : vW (fun i => ((mvL (n + 1) r f i : Int) : Rat)) X f 0 = vW (fun i => (r i : Rat)) X f 0 := vW_cong f 0 (fun i a b => by rw [hs, if_neg (by omega)])
    have e2 := vW_syn (fun i => (r i : Rat)) (fun i => if i < f then suR (fun i => (r i : Rat)) (f + (n + 1) + 1 - i) i else ((mvL (n + 1) r f i : Int) : Rat)) X (f + (n + 1)) (fun t ht => by
      (try dsimp only)
      by_cases c : t < f
      · rw [if_pos c]
      · rw [if_neg c, hs]
        by_cases d : t < f + (n + 1)
        · rw [if_pos (by omega)]
        · rw [if_neg (by omega), show f + (n + 1) + 1 - t = 1 by omega, suR, suR]; grind) (n + 1) f rfl
    have e3 : vW (fun i => if i < f then suR (fun i => (r i : Rat)) (f + (n + 1) + 1 - i) i else ((mvL (n + 1) r f i : Int) : Rat)) (X + 1) (n + 1) (f + 1) = vW (fun i => ((mvL (n + 1) r f i : Int) : Rat)) (X + 1) (n + 1) (f + 1) := vW_cong _ _ (fun i a b => by (try dsimp only); rw [if_neg (by omega)])
    rw [e3] at e2
    rw [e2, vW_end, e1, Nat.zero_add, Rat.pow_succ]
    (try dsimp only)
    rw [if_neg (by omega)]
    clear e1 e2 e3 hs
    generalize vW (fun i => (r i : Rat)) X f 0 = a1
    generalize vW (fun i => ((mvL (n + 1) r f i : Int) : Rat)) (X + 1) (n + 1) (f + 1) = a2
    grind
theorem mvA_all (g : Nat) (X : Rat) (r : Nat → Int) : raV (ivn (g + 1) (mvA g g r)) X = raV (ivn (g + 1) r) (X + 1) := by
  rw [vW_ivn, vW_ivn, mvA_V g X g r (Nat.le_refl _), Nat.sub_self, vW, Rat.pow_zero]; grind
/-- lists with the same values -/
theorem raV_inj : ∀ (l m : List Rat), l.length = m.length → (∀ x, raV l x = raV m x) → l = m
  | [], [], _, _ => rfl
  | a :: t, b :: u, h, e => by
    have h0 := raV_zero (raA (a :: t) (raS (-1) (b :: u))) (fun x => by rw [raV_A, raV_S, e]; grind)
    have hab : a = b := by
      have := h0 (a + -1 * b) (by rw [raS, raA]; exact List.mem_cons_self)
      grind
    have htu : ∀ x, raV t x = raV u x := by
      have z : ∀ x, raV (raA t (raS (-1) u)) x = 0 := by
        have : ∀ l : List Rat, (∀ a ∈ l, a = 0) → ∀ x, raV l x = 0 := by
          intro l
          induction l with
          | nil => intro _ _; rfl
          | cons c l ih => intro q x; rw [raV, q c List.mem_cons_self, ih (fun d hd => q d (List.mem_cons_of_mem _ hd))]; grind
        refine this _ (fun c hc => h0 c ?_)
        rw [raS, raA]; exact List.mem_cons_of_mem _ hc
      intro x
      have := z x
      rw [raV_A, raV_S] at this
      grind
    rw [hab, raV_inj t u (by simpa using h) htu]
theorem ivn_rev (q : Nat → Int) (g : Nat) : (ivn (g + 1) q).reverse = ivn (g + 1) (fun t => q (g - t)) := by
  unfold ivn
  refine List.ext_getElem (by simp) (fun i h1 h2 => ?_)
  simp only [List.length_map, List.length_range, List.length_reverse] at h1 h2
  rw [List.getElem_reverse]
  simp only [List.getElem_map, List.getElem_range, List.length_map, List.length_range]
  rw [show g + 1 - 1 - i = g - i by omega]
/-- a node's sign changes -/
theorem cwN_C (q : Nat → Int) (g : Nat) : cwN q g = raC 0 (raH 1 (ivn (g + 1) q).reverse) := by
  have e : raH 1 (ivn (g + 1) q).reverse = ivn (g + 1) (cwQ q g) := by
    refine raV_inj _ _ (by rw [raH_len, List.length_reverse, ivn_len, ivn_len]) (fun x => ?_)
    rw [raV_H, ivn_rev]
    unfold cwQ
    rw [mvA_all]
  rw [e]
  unfold cwN ivn
  refine chg_G _ _ _ (fun i _ => ?_)
  have := sgn_int (cwQ q g i)
  exact this
theorem pow_mulR (a b : Rat) : ∀ n : Nat, (a * b) ^ n = a ^ n * b ^ n
  | 0 => by rw [Rat.pow_zero, Rat.pow_zero, Rat.pow_zero]; grind
  | n + 1 => by rw [Rat.pow_succ, Rat.pow_succ, Rat.pow_succ, pow_mulR a b n]; grind
theorem pow_addR (a : Rat) (m : Nat) : ∀ n : Nat, a ^ (m + n) = a ^ m * a ^ n
  | 0 => by rw [Nat.add_zero, Rat.pow_zero]; grind
  | n + 1 => by rw [← Nat.add_assoc, Rat.pow_succ, pow_addR a m n, Rat.pow_succ]; grind
theorem hlQ_V (g : Nat) (q : Nat → Int) (z : Rat) : ∀ n, n ≤ g + 1 → raV (ivn n (hlQ g q)) (2 * z) = 2 ^ g * raV (ivn n q) z
  | 0, _ => by rw [ivn_0, ivn_0, Rat.mul_zero]
  | n + 1, h => by
    rw [ivn_s, ivn_s, hlQ_V g q z n (by omega), pow_mulR]
    have e : (2 : Rat) ^ g = 2 ^ (g - n) * 2 ^ n := by rw [← pow_addR, show g - n + n = g by omega]
    have e2 : ((hlQ g q n : Int) : Rat) = (q n : Rat) * 2 ^ (g - n) := by
      unfold hlQ
      rw [Rat.intCast_mul]
      have := cast_pow2 (g - n)
      rw [Int.natCast_pow] at this
      exact congrArg (fun w => (q n : Rat) * w) this
    rw [e2, e]; grind
theorem hrQ_V (g : Nat) (q : Nat → Int) (z : Rat) : raV (ivn (g + 1) (hrQ g q)) (2 * z) = 2 ^ g * raV (ivn (g + 1) q) (z + 1 / 2) := by
  unfold hrQ
  rw [mvA_all, show 2 * z + 1 = 2 * (z + 1 / 2) by grind, hlQ_V g q _ (g + 1) (Nat.le_refl _)]
theorem ivn_at0 (q : Nat → Int) (g : Nat) : raV (ivn (g + 1) q) 0 = (q 0 : Rat) := by
  rw [vW_ivn, vW]; grind
/-- the tree -/
theorem tree {H : Nat → List Rat} {r : Nat} {p gg : List Rat} (hk : raK H r) (hr : 1 ≤ r → raQ H p gg) (g : Nat) : ∀ (f : Nat) (q : Nat → Int) (a b lam : Rat), okT g f q → 0 < lam → a < b → (∀ y, raV (ivn (g + 1) q) y = lam * raV (H 0) (a + (b - a) * y)) → raX H r a = raX H r b + cntN g f q + (if raV (H 0) b = 0 then 1 else 0)
  | 0, _, _, _, _, h, _, _, _ => h.elim
  | f + 1, q, a, b, lam, ok, hl, hab, hq => by
    rw [cntN]
    by_cases c : cwN q g < 2
    · rw [if_pos c]
      rw [cwN_C] at c ⊢
      exact ra_leaf hk hr hl hq hab c
    · rw [if_neg c]
      obtain ⟨_, o1, o2⟩ := ok.2 c
      obtain ⟨m, hm⟩ : ∃ m, m = a + (b - a) * (1 / 2) := ⟨_, rfl⟩
      have ham : a < m := by grind
      have hmb : m < b := by grind
      have hl2 : 0 < 2 ^ g * lam := Rat.mul_pos (two_pos g) hl
      have L := tree hk hr g f (hlQ g q) a m (2 ^ g * lam) o1 hl2 ham (fun y => by
        have := hlQ_V g q (y * (1 / 2)) (g + 1) (Nat.le_refl _)
        rw [show 2 * (y * (1 / 2)) = y by grind] at this
        rw [this, hq, show a + (b - a) * (y * (1 / 2)) = a + (m - a) * y by grind]; grind)
      have Rr : ∀ y, raV (ivn (g + 1) (hrQ g q)) y = 2 ^ g * lam * raV (H 0) (m + (b - m) * y) := fun y => by
        have := hrQ_V g q (y * (1 / 2))
        rw [show 2 * (y * (1 / 2)) = y by grind] at this
        rw [this, hq, show a + (b - a) * (y * (1 / 2) + 1 / 2) = m + (b - m) * y by grind]; grind
      have R := tree hk hr g f (hrQ g q) m b (2 ^ g * lam) o2 hl2 hmb Rr
      have z : hrQ g q 0 = 0 ↔ raV (H 0) m = 0 := by
        have := Rr 0
        rw [ivn_at0, show m + (b - m) * 0 = m by grind] at this
        constructor
        · intro w
          rw [w, Rat.intCast_zero] at this
          exact (Rat.mul_eq_zero.mp this.symm).resolve_left (Rat.ne_of_gt hl2)
        · intro w
          rw [w, Rat.mul_zero, ← Rat.intCast_zero] at this
          exact Rat.intCast_inj.mp this
      have zz : (if hrQ g q 0 = 0 then 1 else 0 : Nat) = if raV (H 0) m = 0 then 1 else 0 := ra_if z
      omega
