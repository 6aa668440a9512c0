/-! what the reference's counts ask for holds -/
theorem copr_sqf {p : Nat → Int} (h0 : stI p 7 ≠ 0) : copr (sqfP p) := by
  obtain ⟨_, _, _, _, e, he, h1⟩ := sqf_all h0
  obtain ⟨⟨_, _, A, B, hA, hB, h3⟩, _, _⟩ := gcdP_gc (sqfP p) (derI (sqfP p))
  exact ⟨A, B, e, hA, hB, he, fun x => by rw [← h3, h1]⟩
theorem btF_top2 {s : Nat → Int} (h0 : stI s 7 ≠ 0) (a b : Int) (k : Nat) : ∀ y, raV (ivn (stI s 7) (btF s a (b - a) k (stI s 7) (stI s 7))) y = (2 ^ k) ^ (stI s 7 - 1) * iv s (ptR a k + (ptR b k - ptR a k) * y) := by
  intro y
  obtain ⟨j, hj⟩ : ∃ j, stI s 7 = j + 1 := ⟨stI s 7 - 1, by omega⟩
  have h2 := two_pos k
  rw [show stI s 7 - 1 = j by omega]
  have e := btF_V s a (b - a) k (stI s 7) y (x := ptR a k + (ptR b k - ptR a k) * y) (by
    rw [Rat.intCast_sub]
    have ea := ptR_K a k
    have eb := ptR_K b k
    rw [ea, eb]; grind) (stI s 7) (Nat.le_refl _)
  have e3 := hoR_V s (stI s 7) (ptR a k + (ptR b k - ptR a k) * y) (stI s 7) (Nat.le_refl _)
  rw [Nat.sub_self, ivn_0, ← ivn_st s _ 7, Rat.pow_zero] at e3
  have e4 : hoR s (stI s 7) (ptR a k + (ptR b k - ptR a k) * y) (stI s 7) = iv s (ptR a k + (ptR b k - ptR a k) * y) := by unfold iv; rw [e3]; grind
  rw [e4] at e
  have e5 : ((2 : Rat) ^ k) ^ (stI s 7) = (2 ^ k) ^ j * 2 ^ k := by rw [hj, Rat.pow_succ]
  rw [e5] at e
  have hi := Rat.mul_inv_cancel _ (Rat.ne_of_gt h2)
  generalize ((2 : Rat) ^ k)⁻¹ = w at *
  generalize raV (ivn (stI s 7) (btF s a (b - a) k (stI s 7) (stI s 7))) y = v at *
  have : v = v * 2 ^ k * w := by
    have : v * 2 ^ k * w = v * (2 ^ k * w) := by grind
    rw [this, hi]; grind
  rw [this, e]
  have : (2 ^ k) ^ j * 2 ^ k * iv s (ptR a k + (ptR b k - ptR a k) * y) * w = (2 ^ k) ^ j * iv s (ptR a k + (ptR b k - ptR a k) * y) * (2 ^ k * w) := by grind
  rw [this, hi]; grind
theorem ptR_ab {a : Int} {k : Nat} (h : a.natAbs ≤ 1000000 * 2 ^ k) : ab (ptR a k) ≤ 1000000 := by
  have h2 := two_pos k
  refine rc_le h2 ?_
  have e := ptR_K a k
  have e1 : ab (ptR a k) * 2 ^ k = ((a.natAbs : Nat) : Rat) := by
    rw [← au_int, e, au_mul, au_pos (x := (2 : Rat) ^ k) (Rat.le_of_lt h2)]
  rw [e1]
  have h3 := Rat.natCast_le_natCast.mpr h
  rw [Rat.natCast_mul, natR_pow] at h3
  exact h3
/-- the tree of a square-free part -/
theorem tr_ok {p r : Nat → Int} (hp : bnd9 p) (h0 : stI p 7 ≠ 0) (hd : dvP p r) {a b : Int} {k : Nat} (hab : a < b) (hk : k ≤ 13) (ha : a.natAbs ≤ 1000000 * 2 ^ k) (hb : b.natAbs ≤ 1000000 * 2 ^ k) : okT (stI (sqfP r) 7 - 1) 159 (btF (sqfP r) a (b - a) k (stI (sqfP r) 7) (stI (sqfP r) 7)) := by
  have hs := dv_sqf hp h0 hd
  have hs0 := hs.1.2.1
  have s7 := stI_le (sqfP r) 7
  have a1 := ptR_ab ha
  have b1 := ptR_ab hb
  have hlt := ptR_lt (k := k).mpr hab
  have q21 : ((2 ^ 21 : Nat) : Rat) = 2097152 := rfl
  have hl : (((2 : Rat) ^ k) ^ (stI (sqfP r) 7 - 1)) = ((2 ^ (k * (stI (sqfP r) 7 - 1)) : Nat) : Rat) := by
    rw [Nat.pow_mul, natR_pow, natR_pow]; rfl
  have hle : k * (stI (sqfP r) 7 - 1) ≤ 78 := by
    have := Nat.mul_le_mul hk (show stI (sqfP r) 7 - 1 ≤ 6 by omega)
    omega
  have hw2 : ptR b k - ptR a k ≤ 2000000 := by
    rw [au_le] at a1 b1
    grind
  refine okT_all hs.1 (copr_sqf hd.1.2.1) (show stI (sqfP r) 7 = stI (sqfP r) 7 - 1 + 1 by omega) 158 (k * (stI (sqfP r) 7 - 1)) _ (ptR a k) (ptR b k - ptR a k) ((2 ^ k) ^ (stI (sqfP r) 7 - 1)) (by omega) (Rat.pow_pos (two_pos k)) (by rw [hl]; exact Rat.le_refl) (by grind) (by rw [q21]; grind) ?_ (by rw [q21]; grind) (by rw [q21, show ptR a k + (ptR b k - ptR a k) = ptR b k by grind]; grind) (fun y => ?_)
  · have h1 : ptR b k - ptR a k ≤ ((2 ^ 21 : Nat) : Rat) := by rw [q21]; grind
    have := rm_le (show 0 ≤ ptR b k - ptR a k by grind) h1 (show (0 : Rat) ≤ ((2 ^ 137 : Nat) : Rat) from Rat.natCast_nonneg) Rat.le_refl
    rw [← Rat.natCast_mul, ← Nat.pow_add] at this
    exact this
  · rw [show stI (sqfP r) 7 - 1 + 1 = stI (sqfP r) 7 by omega]
    exact btF_top2 hs0 a b k y
theorem dv_fr {p r : Nat → Int} (hp : bnd9 p) (h0 : stI p 7 ≠ 0) (hd : dvP p r) : frOk r ∧ pC (frP r) ∧ frP r = sqfP r := by
  obtain ⟨h1, h2⟩ := fr_ok hd.1 (dv_gcd hp h0 hd).1
  exact ⟨h1, h2, frP_eq hd.1.1 hd.1.2.1⟩
theorem ct_ok {p r : Nat → Int} (hp : bnd9 p) (h0 : stI p 7 ≠ 0) (hd : dvP p r) {d : Nat} {m n : Int} (hmn : m ≤ n) (hk : d ≤ 13) (hm : m.natAbs ≤ 16384 * 2 ^ d) (hn : n.natAbs ≤ 16384 * 2 ^ d) : ctOk (frP r) d m n := by
  obtain ⟨_, f2, f3⟩ := dv_fr hp h0 hd
  have hs := dv_sqf hp h0 hd
  have h13 : 2 ^ d ≤ 2 ^ 13 := Nat.pow_le_pow_right (by decide) hk
  have q13 : (2 : Nat) ^ 13 = 8192 := by decide
  have m1 : m.natAbs ≤ 1000000 * 2 ^ d := Nat.le_trans hm (Nat.mul_le_mul_right _ (by decide))
  have n1 : n.natAbs ≤ 1000000 * 2 ^ d := Nat.le_trans hn (Nat.mul_le_mul_right _ (by decide))
  refine ⟨by omega, by omega, hk, fun hne => ⟨f2, ?_, ?_⟩⟩
  · rw [f3]; exact hs.1.2.1
  · rw [f3]; exact tr_ok hp h0 hd (by omega) hk m1 n1
theorem ct_6 {p r : Nat → Int} (hp : bnd9 p) (h0 : stI p 7 ≠ 0) (hd : dvP p r) {d : Nat} {m n : Int} (hmn : m < n) (ok : ctOk (frP r) d m n) : ctI (frP r) d m n ≤ 6 := by
  have e := ctI_eq hd.1.1 hd.1.2.1 hmn ok
  have b := rIn_bd hd.1.2.1 (k := d) hmn
  have s7 := stI_le (sqfP r) 7
  omega
theorem ds_ok {p r : Nat → Int} (hp : bnd9 p) (h0 : stI p 7 ≠ 0) (hd : dvP p r) {x y : Int} {k l : Nat} (hx : x.natAbs ≤ 1000000) (hy : y.natAbs ≤ 1000000) (hk : k ≤ 12) (hl : l ≤ 12) (hlt : x * 2 ^ l < y * 2 ^ k) : dsOk r x k y l := by
  obtain ⟨f1, f2, f3⟩ := dv_fr hp h0 hd
  have hs := dv_sqf hp h0 hd
  have e2 : ptR (dsX y l k) (max k l) = ptR y l := by rw [Nat.max_comm]; exact dsX_pt y l k
  have h1 : dsX x k l < dsX y l k := by
    rw [← ptR_lt (k := max k l), dsX_pt, e2]
    exact ptR_lt2 hlt
  have bd : ∀ (x : Int) (k l : Nat), x.natAbs ≤ 1000000 → (dsX x k l).natAbs ≤ 1000000 * 2 ^ (max k l) := fun x k l hx => by
    unfold dsX
    rw [Int.natAbs_mul]
    refine Nat.mul_le_mul hx ?_
    have : ((2 : Int) ^ (max k l - k)).natAbs = 2 ^ (max k l - k) := by rw [Int.natAbs_pow]; rfl
    rw [this]
    exact Nat.pow_le_pow_right (by decide) (Nat.sub_le _ _)
  refine ⟨f1, f2, by rw [f3]; exact hs.1.2.1, ?_⟩
  unfold dsG dsB dsG
  rw [f3]
  have := tr_ok hp h0 hd h1 (show max k l ≤ 13 by omega) (bd x k l hx) (by have := bd y l k hy; rwa [Nat.max_comm] at this)
  have hs0 := hs.1.2.1
  rwa [show stI (sqfP r) 7 - 1 + 1 = stI (sqfP r) 7 by omega]
theorem gcd_lt {r : Nat → Int} (h0 : stI r 7 ≠ 0) (h2 : 2 ≤ stI r 7) : stI (gcdP r (derI r)) 7 + 1 ≤ stI r 7 := by
  have hd := stI_der h0
  obtain ⟨⟨_, ⟨v, hv, h1⟩, _⟩, _, _⟩ := gcdP_gc r (derI r)
  have hg := pr_nz (gcd_pr h0).1
  have hn := iv_nz (p := derI r) (by omega)
  rcases isPo_W hv with w | ⟨w, hw⟩
  · exact absurd (fun x => by rw [h1, w]; grind) hn
  · have := raW_un (raW_eq (raW_mul hw (iv_W (p := gcdP r (derI r)) (k := stI (gcdP r (derI r)) 7 - 1) (by omega))) h1) (iv_W (p := derI r) (k := stI (derI r) 7 - 1) (by omega))
    omega
theorem da_ok {p : Nat → Int} (hp : bnd9 p) (h0 : stI p 7 ≠ 0) {x y : Int} {k l : Nat} (hx : x.natAbs ≤ 1000000) (hy : y.natAbs ≤ 1000000) (hk : k ≤ 12) (hl : l ≤ 12) (hlt : x * 2 ^ l < y * 2 ^ k) : ∀ (n : Nat) (r : Nat → Int), dvP p r → stI r 7 ≤ n + 1 → daOk x k y l n r
  | 0, r, hd, h => ⟨pC_le (szB_m hd.1) (Nat.lt_of_lt_of_le (m := 2 ^ 24) (by decide) (KN_le (by decide))), by omega⟩
  | n + 1, r, hd, h => ⟨pC_le (szB_m hd.1) (Nat.lt_of_lt_of_le (m := 2 ^ 24) (by decide) (KN_le (by decide))), fun c => ⟨ds_ok hp h0 hd hx hy hk hl hlt, by
      have := gcd_lt hd.1.2.1 (by omega)
      rw [gcR_eq hd.1.1 (zb_der r)]
      exact da_ok hp h0 hx hy hk hl hlt n _ (dv_gcd hp h0 hd) (by omega)⟩⟩
/-- bisect, refine -/
theorem bs_ok {p : Nat → Int} (hp : bnd9 p) (h0 : stI p 7 ≠ 0) {v : Iv} (hle : v.2.1 ≤ v.2.2.1) (ho : ivOk v) : bsOk (frP p) v := by
  intro hne hl
  obtain ⟨_, h2, h3, _⟩ := ho
  have e : 16384 * 2 ^ (v.1 + 1) = 2 * (16384 * 2 ^ v.1) := by rw [Nat.pow_succ]; omega
  exact ⟨ct_ok hp h0 (dv_rf hp h0) (by omega) (by omega) (by rw [e]; omega) (by rw [e]; omega), ct_ok hp h0 (dv_rf hp h0) (by omega) (by omega) (by rw [e]; omega) (by rw [e]; omega)⟩
theorem rf_ok {p : Nat → Int} (hp : bnd9 p) (h0 : stI p 7 ≠ 0) : ∀ (m : Nat) (v : Iv), v.2.1 ≤ v.2.2.1 → v.1 + m ≤ 12 → v.2.1.natAbs ≤ 16384 * 2 ^ v.1 → v.2.2.1.natAbs ≤ 16384 * 2 ^ v.1 → rfOk p (frP p) m v
  | m, v, hle, hm, h2, h3 => by
    have h12 : 2 ^ v.1 ≤ 2 ^ 12 := Nat.pow_le_pow_right (by decide) (by omega)
    have q12 : (2 : Nat) ^ 12 = 4096 := by decide
    have q26 : (2 : Nat) ^ 26 = 67108864 := by decide
    cases m with
    | zero => exact ⟨by omega, by omega⟩
    | succ m =>
      refine ⟨by omega, by omega, fun hlt => ?_⟩
      have e : 16384 * 2 ^ (v.1 + 1) = 2 * (16384 * 2 ^ v.1) := by rw [Nat.pow_succ]; omega
      have c1 := ct_ok hp h0 (dv_rf hp h0) (d := v.1 + 1) (m := 2 * v.2.1) (n := v.2.1 + v.2.2.1) (by omega) (by omega) (by rw [e]; omega) (by rw [e]; omega)
      have c2 := ct_ok hp h0 (dv_rf hp h0) (d := v.1 + 1) (m := v.2.1 + v.2.2.1) (n := 2 * v.2.2.1) (by omega) (by omega) (by rw [e]; omega) (by rw [e]; omega)
      refine ⟨c1, c2, ct_6 hp h0 (dv_rf hp h0) (by omega) c1, ?_⟩
      unfold rfX
      split
      · exact rf_ok hp h0 m _ (Int.le_refl _) (by dsimp only; omega) (by dsimp only; rw [e]; omega) (by dsimp only; rw [e]; omega)
      · split
        · exact rf_ok hp h0 m _ (by dsimp only; omega) (by dsimp only; omega) (by dsimp only; rw [e]; omega) (by dsimp only; rw [e]; omega)
        · exact rf_ok hp h0 m _ (by dsimp only; omega) (by dsimp only; omega) (by dsimp only; rw [e]; omega) (by dsimp only; rw [e]; omega)
/-- multiplicity -/
theorem mu_ok {p : Nat → Int} (hp : bnd9 p) (h0 : stI p 7 ≠ 0) {v : Iv} (hle : v.2.1 ≤ v.2.2.1) (ho : ivOk v) : ∀ (n : Nat) (r : Nat → Int), dvP p r → stI r 7 ≤ n → muOk v n r
  | 0, r, hd, h => absurd (Nat.le_zero.mp h) hd.1.2.1
  | n + 1, r, hd, h => by
    have hg := dv_gcd hp h0 hd
    obtain ⟨h1, h2, h3, _⟩ := ho
    have h12 : 2 ^ v.1 ≤ 2 ^ 12 := Nat.pow_le_pow_right (by decide) (by omega)
    have q12 : (2 : Nat) ^ 12 = 4096 := by decide
    refine ⟨(dv_fr hp h0 hd).1, ?_⟩
    rw [gcR_eq hd.1.1 (zb_der r)]
    intro c
    refine ⟨fun _ => szB_ev hg.1 v.2.1 v.1 (by omega) (by omega), fun hne => ?_, fun _ => ?_⟩
    · have ct := ct_ok hp h0 hg (d := v.1) hle (by omega) h2 h3
      exact ⟨(dv_fr hp h0 hg).1, ct, ct_6 hp h0 hg (by omega) ct⟩
    · have r2 : 2 ≤ stI r 7 := by
        have := (sqf_dg hd.1.2.1).2.1
        omega
      have := gcd_lt hd.1.2.1 r2
      exact mu_ok hp h0 hle ⟨h1, h2, h3, by assumption⟩ n _ hg (by omega)
