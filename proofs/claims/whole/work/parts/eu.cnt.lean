/-! what the reference counts in an interval is what the class counts -/
theorem raS_map (l : List Nat) (f : Nat → Rat) : l.map (fun i => -1 * f i) = raS (-1) (l.map f) := by
  induction l with
  | nil => rfl
  | cons a t ih => rw [List.map_cons, List.map_cons, raS, ih]
theorem sqf_chp {p : Nat → Int} (h0 : stI p 7 ≠ 0) : ∃ (H : Nat → List Rat) (g : List Rat) (c : Rat), 0 < c ∧ raK H (stM (sqfP p) - 1) ∧ (1 ≤ stM (sqfP p) - 1 → raQ H (ivn 7 (sqfP p)) g) ∧ (∀ x, raV (H 0) x = c * iv (sqfP p) x) ∧ ∀ n k, stC (sqfP p) n k = raX H (stM (sqfP p) - 1) (ptR n k) := by
  obtain ⟨H, g, c, hc, k1, k2, k3, k4⟩ := sqf_chn h0
  rcases ra_lt_or 0 c with w | w
  · exact ⟨H, g, c, w, k1, k2, k3, k4⟩
  · refine ⟨fun i => raS (-1) (H i), raS (-1) g, -c, by grind, ⟨?_, fun i h1 h2 => ?_⟩, fun h => ?_, fun x => ?_, fun n k => ?_⟩
    · obtain ⟨c1, hc1, h1⟩ := k1.1
      exact ⟨-1 * c1, by grind, fun x => by rw [raV_S, h1]⟩
    · obtain ⟨al, be, Q, ha, hb, h3⟩ := k1.2 i h1 h2
      exact ⟨al, be, Q, ha, hb, fun x => by have := h3 x; rw [raV_S, raV_S, raV_S]; grind⟩
    · obtain ⟨q1, q2, k, hk, q3⟩ := k2 h
      exact ⟨q1, fun x => by rw [raV_S, raV_S, q2]; grind, k, hk, fun x => by rw [raV_S, raV_S, q3]; grind⟩
    · rw [raV_S, k3]; grind
    · rw [k4, raX, raX]
      have := raC_ng ((List.range (stM (sqfP p) - 1 + 1)).map (fun i => raV (H i) (ptR n k))) 0
      rw [show (-0 : Rat) = 0 from rfl, ← raS_map] at this
      rw [← this]
      exact congrArg (raC 0) (List.map_congr_left (fun i _ => (raV_S (-1) (H i) _).symm))
theorem btS_V {r : Nat → Int} {a d v : Int} {G : Nat} (y : Rat) : ∀ n, n + 1 ≤ G → raV (ivn (n + 1) (btS a d v r G)) y = (v : Rat) + (a : Rat) * raV (ivn (n + 1) r) y + (d : Rat) * y * raV (ivn n r) y
  | 0, _ => by
    rw [ivn_s, ivn_s, ivn_0, ivn_0, Rat.pow_zero]
    unfold btS
    rw [if_pos rfl, Rat.intCast_add, Rat.intCast_mul]; grind
  | n + 1, h => by
    rw [ivn_s, btS_V y n (by omega), ivn_s (n + 1) r]
    have e : ((btS a d v r G (n + 1) : Int) : Rat) = (r (n + 1) : Rat) * (a : Rat) + (r n : Rat) * (d : Rat) := by
      unfold btS
      rw [if_neg (by omega), if_pos (by omega), Nat.add_sub_cancel, Rat.intCast_add, Rat.intCast_mul, Rat.intCast_mul]
    have e2 := ivn_s n r y
    rw [e, e2, Rat.pow_succ]; grind
theorem btF_z (p : Nat → Int) (a d : Int) (k G : Nat) : ∀ m t, m ≤ t → btF p a d k G m t = 0
  | 0, _, _ => rfl
  | m + 1, t, h => by
    rw [btF]
    unfold btS
    rw [if_neg (by omega), btF_z p a d k G m t (by omega)]
    split
    · rw [btF_z p a d k G m (t - 1) (by omega)]; omega
    · rfl
theorem btF_V (p : Nat → Int) (a d : Int) (k G : Nat) (y : Rat) {x : Rat} (hx : (a : Rat) + (d : Rat) * y = x * 2 ^ k) : ∀ m, m ≤ G → raV (ivn G (btF p a d k G m)) y * 2 ^ k = (2 ^ k) ^ m * hoR p G x m
  | 0, _ => by
    have z : ∀ n, raV (ivn n (btF p a d k G 0)) y = 0 := by
      intro n
      induction n with
      | zero => exact ivn_0 _ _
      | succ n ih => rw [ivn_s, ih, btF]; rw [Rat.intCast_zero]; grind
    rw [z, hoR]; grind
  | m + 1, h => by
    have ih := btF_V p a d k G y hx m (by omega)
    obtain ⟨j, hj⟩ : ∃ j, G = j + 1 := ⟨G - 1, by omega⟩
    have e1 : raV (ivn G (btF p a d k G (m + 1))) y = ((p (G - 1 - m) * 2 ^ (k * m) : Int) : Rat) + (a : Rat) * raV (ivn G (btF p a d k G m)) y + (d : Rat) * y * raV (ivn (G - 1) (btF p a d k G m)) y := by
      rw [btF]
      have := btS_V (r := btF p a d k G m) (a := a) (d := d) (v := p (G - 1 - m) * 2 ^ (k * m)) (G := G) y j (by omega)
      rw [← hj] at this
      rw [this, show G - 1 = j by omega]
    have e2 : raV (ivn G (btF p a d k G m)) y = raV (ivn (G - 1) (btF p a d k G m)) y := by
      have := ivn_s j (btF p a d k G m) y
      rw [← hj] at this
      rw [this, btF_z p a d k G m j (by omega), show G - 1 = j by omega, Rat.intCast_zero]; grind
    rw [← e2] at e1
    have e3 : ((p (G - 1 - m) * 2 ^ (k * m) : Int) : Rat) = (p (G - 1 - m) : Rat) * (2 ^ k) ^ m := by
      rw [Rat.intCast_mul]
      have := cast_pow2 (k * m)
      rw [Int.natCast_pow] at this
      have q : (2 : Rat) ^ (k * m) = (2 ^ k) ^ m := by
        clear ih e1 e2 this h
        induction m with
        | zero => rw [Nat.mul_zero, Rat.pow_zero, Rat.pow_zero]
        | succ m ih => rw [Nat.mul_succ, pow_addR, ih, Rat.pow_succ]
      rw [← q, ← this]
      rfl
    rw [e1, e3, hoR, Rat.pow_succ]
    generalize raV (ivn G (btF p a d k G m)) y = w at *
    have : ((p (G - 1 - m) : Rat) * (2 ^ k) ^ m + (a : Rat) * w + (d : Rat) * y * w) * 2 ^ k = (p (G - 1 - m) : Rat) * (2 ^ k) ^ m * 2 ^ k + ((a : Rat) + (d : Rat) * y) * (w * 2 ^ k) := by grind
    rw [this, ih, hx]; grind
/-- the node that the search begins with -/
theorem btF_top {s : Nat → Int} (h0 : stI s 7 ≠ 0) (a b : Int) (k : Nat) : ∃ lam : Rat, 0 < lam ∧ ∀ y, raV (ivn (stI s 7) (btF s a (b - a) k (stI s 7) (stI s 7))) y = lam * iv s (ptR a k + (ptR b k - ptR a k) * y) := by
  obtain ⟨j, hj⟩ : ∃ j, stI s 7 = j + 1 := ⟨stI s 7 - 1, by omega⟩
  have h2 := two_pos k
  refine ⟨(2 ^ k) ^ j, Rat.pow_pos h2, fun y => ?_⟩
  have e := btF_V s a (b - a) k (stI s 7) y (x := ptR a k + (ptR b k - ptR a k) * y) (by
    rw [Rat.intCast_sub]
    have ea := ptR_K a k
    have eb := ptR_K b k
    rw [ea, eb]; grind) (stI s 7) (Nat.le_refl _)
  have e3 := hoR_V s (stI s 7) (ptR a k + (ptR b k - ptR a k) * y) (stI s 7) (Nat.le_refl _)
  rw [Nat.sub_self, ivn_0, ← ivn_st s _ 7, Rat.pow_zero] at e3
  have e4 : hoR s (stI s 7) (ptR a k + (ptR b k - ptR a k) * y) (stI s 7) = iv s (ptR a k + (ptR b k - ptR a k) * y) := by unfold iv; rw [e3]; grind
  rw [e4] at e
  have e5 : ((2 : Rat) ^ k) ^ (stI s 7) = (2 ^ k) ^ j * 2 ^ k := by rw [hj, Rat.pow_succ]
  rw [e5] at e
  have hi := Rat.mul_inv_cancel _ (Rat.ne_of_gt h2)
  generalize ((2 : Rat) ^ k)⁻¹ = w at *
  generalize raV (ivn (stI s 7) (btF s a (b - a) k (stI s 7) (stI s 7))) y = v at *
  have : v = v * 2 ^ k * w := by
    have : v * 2 ^ k * w = v * (2 ^ k * w) := by grind
    rw [this, hi]; grind
  rw [this, e]
  have : (2 ^ k) ^ j * 2 ^ k * iv s (ptR a k + (ptR b k - ptR a k) * y) * w = (2 ^ k) ^ j * iv s (ptR a k + (ptR b k - ptR a k) * y) * (2 ^ k * w) := by grind
  rw [this, hi]; grind
theorem ptR_lt {a b : Int} {k : Nat} : ptR a k < ptR b k ↔ a < b := by
  have hi : (0 : Rat) < ((2 : Rat) ^ k)⁻¹ := Rat.inv_pos.mpr (two_pos k)
  unfold ptR
  rw [Rat.mul_lt_mul_right hi, Rat.intCast_lt_intCast]
theorem stE_s0 {p : Nat → Int} (h0 : stI p 7 ≠ 0) : stE (sqfP p) 0 = sqfP p := zb_ext (zb_prm (zb_sqf p)) (zb_sqf p) (pr_prm (sqf_all h0).2.1)
/-- the tree counts as the sequence does -/
theorem cnt_tree {p : Nat → Int} (h0 : stI p 7 ≠ 0) {a b : Int} {k f : Nat} (hab : a < b) (ok : okT (stI (sqfP p) 7 - 1) f (btF (sqfP p) a (b - a) k (stI (sqfP p) 7) (stI (sqfP p) 7))) : (cntN (stI (sqfP p) 7 - 1) f (btF (sqfP p) a (b - a) k (stI (sqfP p) 7) (stI (sqfP p) 7)) : Int) = rIn (sqfP p) k a b := by
  have hs0 := sqf_nz h0
  obtain ⟨H, g, c, hc, k1, k2, k3, k4⟩ := sqf_chp h0
  obtain ⟨lam, hl, h1⟩ := btF_top hs0 a b k
  have hci := Rat.mul_inv_cancel c (Rat.ne_of_gt hc)
  have T := tree k1 k2 (stI (sqfP p) 7 - 1) f _ (ptR a k) (ptR b k) (lam * c⁻¹) ok (Rat.mul_pos hl (Rat.inv_pos.mpr hc)) (ptR_lt.mpr hab) (fun y => by
    rw [show stI (sqfP p) 7 - 1 + 1 = stI (sqfP p) 7 by omega, h1, k3]
    generalize c⁻¹ = w at *
    have : lam * w * (c * iv (sqfP p) (ptR a k + (ptR b k - ptR a k) * y)) = lam * (c * w) * iv (sqfP p) (ptR a k + (ptR b k - ptR a k) * y) := by grind
    rw [this, hci]; grind)
  unfold rIn
  rw [if_neg (by omega), k4, k4, stE_s0 h0]
  have z : raV (H 0) (ptR b k) = 0 ↔ sgnAt (sqfP p) b k = 0 := by
    rw [sgn_0, k3]
    exact ⟨fun q => (Rat.mul_eq_zero.mp q).resolve_left (Rat.ne_of_gt hc), fun q => by rw [q, Rat.mul_zero]⟩
  rw [ra_if z] at T
  by_cases w : sgnAt (sqfP p) b k = 0
  · rw [if_pos w] at T ⊢; omega
  · rw [if_neg w] at T ⊢; omega
theorem stC_pt {p : Nat → Int} {n m : Int} {k l : Nat} (h : ptR n k = ptR m l) : stC p n k = stC p m l := by rw [stC_V, stC_V, h]
theorem sgn_pt {p : Nat → Int} {n m : Int} {k l : Nat} (h : ptR n k = ptR m l) : sgnAt p n k = 0 ↔ sgnAt p m l = 0 := by rw [sgn_0, sgn_0, h]
theorem ptR_up (x : Int) {k l : Nat} (h : k ≤ l) : ptR (x * 2 ^ (l - k)) l = ptR x k := by
  have e1 := ptR_K (x * 2 ^ (l - k)) l
  have e2 := ptR_K x k
  have e3 : ((x * 2 ^ (l - k) : Int) : Rat) = (x : Rat) * 2 ^ (l - k) := by
    rw [Rat.intCast_mul]
    have := cast_pow2 (l - k)
    rw [Int.natCast_pow] at this
    exact congrArg (fun w => (x : Rat) * w) this
  have e4 : (2 : Rat) ^ l = 2 ^ k * 2 ^ (l - k) := by rw [← pow_addR, show k + (l - k) = l by omega]
  rw [e3, e2, e4] at e1
  have h1 := Rat.mul_inv_cancel _ (Rat.ne_of_gt (two_pos k))
  have h2 := Rat.mul_inv_cancel _ (Rat.ne_of_gt (two_pos (l - k)))
  generalize ptR (x * 2 ^ (l - k)) l = u at *
  generalize ptR x k = v at *
  generalize ((2 : Rat) ^ k)⁻¹ = w1 at *
  generalize ((2 : Rat) ^ (l - k))⁻¹ = w2 at *
  have : v * 2 ^ k * 2 ^ (l - k) * w1 * w2 = u * (2 ^ k * 2 ^ (l - k)) * w1 * w2 := by rw [e1]
  have t1 : v * 2 ^ k * 2 ^ (l - k) * w1 * w2 = v * (2 ^ k * w1) * (2 ^ (l - k) * w2) := by grind
  have t2 : u * (2 ^ k * 2 ^ (l - k)) * w1 * w2 = u * (2 ^ k * w1) * (2 ^ (l - k) * w2) := by grind
  rw [t1, t2, h1, h2] at this
  grind
