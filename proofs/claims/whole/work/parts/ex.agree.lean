/-! what the reference counts, bisects, refines, keeps is what the class does -/
theorem ctI_eq {p : Nat → Int} (hp : zb p) (h0 : stI p 7 ≠ 0) {d : Nat} {m n : Int} (hmn : m < n) (ok : ctOk (frP p) d m n) : (ctI (frP p) d m n : Int) = rIn (sqfP p) d m n := by
  have hs := sqf_nz h0
  obtain ⟨_, _, _, ok⟩ := ok
  obtain ⟨_, _, ok⟩ := ok (by omega)
  rw [frP_eq hp h0] at ok ⊢
  unfold ctI
  rw [if_neg (by omega)]
  exact cnt_tree h0 hmn ok
theorem sqf_sgn {p : Nat → Int} (h0 : stI p 7 ≠ 0) (n : Int) (k : Nat) : sgnAt p n k = 0 ↔ sgnAt (stE (sqfP p) 0) n k = 0 := by
  rw [stE_s0 h0, sgn_0, sgn_0]
  exact (sqf_all h0).2.2.2.1 _
theorem sqf_dg {p : Nat → Int} (h0 : stI p 7 ≠ 0) : stI (sqfP p) 7 ≤ stI p 7 ∧ stI (gcdP p (derI p)) 7 ≤ stI p 7 ∧ stI p 7 + 1 = stI (sqfP p) 7 + stI (gcdP p (derI p)) 7 := by
  obtain ⟨⟨u, c1, hc1, hu, h1, h2⟩, _⟩ := sqf_all h0
  have hs := sqf_nz h0
  have hd := pr_nz (gcd_pr h0).1
  have w1 := iv_W (p := sqfP p) (k := stI (sqfP p) 7 - 1) (by omega)
  have w2 := iv_W (p := gcdP p (derI p)) (k := stI (gcdP p (derI p)) 7 - 1) (by omega)
  have w3 := iv_W (p := p) (k := stI p 7 - 1) (by omega)
  have w4 := raW_eq (raW_mul w1 w2) (g := fun x => c1 * iv p x) (fun x => by rw [h1, h2]; grind)
  have := raW_un w4 (raW_s hc1 w3)
  omega
/-- what an interval's record keeps to -/
def ivI (s : Nat → Int) (v : Iv) : Prop := v.2.1 ≤ v.2.2.1 ∧ v.2.2.2 = rIn s v.1 v.2.1 v.2.2.1 ∧ (v.2.1 = v.2.2.1 → v.2.2.2 = 1)
theorem rIn_pt {s : Nat → Int} {k : Nat} {a : Int} (h : sgnAt (stE s 0) a k = 0) : rIn s k a a = 1 := by
  unfold rIn
  rw [if_pos rfl, if_pos h]
/-! bisect -/
theorem spl_eq {p : Nat → Int} (hp : zb p) (h0 : stI p 7 ≠ 0) {v : Iv} {V : Nat → Iv} {i n : Nat} (hv : v = V i) (hI : ivI (sqfP p) v) (hne : v.2.1 ≠ v.2.2.1) (hl : v.1 < 12) (ok : bsOk (frP p) v) : splN (sqfP p) v n = n + rsO p v ∧ splV (sqfP p) v V i = rsV p (frP p) v V i ∧ ∀ j, i ≤ j → j ≤ i + rsO p v → ivI (sqfP p) (rsV p (frP p) v V i j) := by
  obtain ⟨d, lo, hi, rt⟩ := v
  obtain ⟨i1, i2, i3⟩ := hI
  obtain ⟨o1, o2⟩ := ok hne hl
  dsimp only at *
  have hlt : lo < hi := by omega
  have e1 := ctI_eq hp h0 (show 2 * lo < lo + hi by omega) o1
  have e2 := ctI_eq hp h0 (show lo + hi < 2 * hi by omega) o2
  have e3 := rIn_half (p := p) (k := d) hlt
  have sg := sqf_sgn h0 (lo + hi) (d + 1)
  have c1 : ∀ x : Int, ctI (frP p) (d + 1) x x = 1 := fun x => by unfold ctI; rw [if_pos rfl]
  unfold splN splV rsV rsO
  dsimp only
  by_cases c : sgnAt p (lo + hi) (d + 1) = 0
  · have c2 := sg.mp c
    rw [if_pos c2] at e3
    rw [if_pos c2, if_pos c]
    refine ⟨rfl, ?_, fun j j1 j2 => ?_⟩
    · funext j
      rw [if_pos c2]
      unfold insV setV
      simp only [if_pos c2]
      by_cases q1 : j < i
      · rw [if_pos (show j < i + 1 by omega), if_pos (show j < i + 1 by omega), if_neg (show ¬ j = i by omega), if_pos q1]
      · rw [if_neg q1]
        by_cases q2 : j = i
        · rw [if_pos q2, if_pos (show j < i + 1 by omega), if_pos (show j < i + 1 by omega), if_pos q2, e1]
        · simp only [if_neg q2]
          rw [if_neg (show ¬ j < i + 1 by omega)]
          by_cases q3 : j = i + 1
          · rw [if_pos q3, if_pos (show j < i + 2 by omega), c1]; rfl
          · rw [if_neg q3, if_neg (show ¬ j < i + 2 by omega), if_neg (show ¬ j - 1 < i + 1 by omega)]
            by_cases q4 : j = i + 2
            · rw [if_pos (show j - 1 = i + 1 by omega), if_pos q4, e2]
              rw [i2, e3, show rIn (sqfP p) (d + 1) (2 * lo) (lo + hi) + 1 + rIn (sqfP p) (d + 1) (lo + hi) (2 * hi) - rIn (sqfP p) (d + 1) (2 * lo) (lo + hi) - 1 = rIn (sqfP p) (d + 1) (lo + hi) (2 * hi) by omega]
            · rw [if_neg (show ¬ j - 1 = i + 1 by omega), if_neg q4, show j - 1 - 1 = j - 2 by omega, if_neg (show ¬ j - 2 = i by omega)]
    · rw [if_neg (show ¬ j < i by omega)]
      by_cases q2 : j = i
      · rw [if_pos q2]
        exact ⟨by dsimp only; omega, e1, fun q => by dsimp only at q; omega⟩
      · rw [if_neg q2]
        by_cases q3 : j = i + 1
        · rw [if_pos (show j < i + 2 by omega)]
          exact ⟨Int.le_refl _, by dsimp only; rw [c1, rIn_pt c2]; rfl, fun _ => by dsimp only; rw [c1]; rfl⟩
        · rw [if_neg (show ¬ j < i + 2 by omega), if_pos (show j = i + 2 by omega)]
          exact ⟨by dsimp only; omega, e2, fun q => by dsimp only at q; omega⟩
  · have c2 : ¬ sgnAt (stE (sqfP p) 0) (lo + hi) (d + 1) = 0 := fun q => c (sg.mpr q)
    rw [if_neg c2] at e3
    rw [if_neg c2, if_neg c]
    refine ⟨rfl, ?_, fun j j1 j2 => ?_⟩
    · funext j
      rw [if_neg c2]
      unfold insV setV
      simp only [if_neg c2]
      by_cases q1 : j < i
      · rw [if_pos (show j < i + 1 by omega), if_neg (show ¬ j = i by omega), if_pos q1]
      · rw [if_neg q1]
        by_cases q2 : j = i
        · rw [if_pos q2, if_pos (show j < i + 1 by omega), if_pos q2, e1]
        · simp only [if_neg q2]
          rw [if_neg (show ¬ j < i + 1 by omega), if_neg (show ¬ j < i + 1 by omega)]
          by_cases q4 : j = i + 1
          · rw [if_pos q4, if_pos q4, e2]
            rw [i2, e3, show rIn (sqfP p) (d + 1) (2 * lo) (lo + hi) + 0 + rIn (sqfP p) (d + 1) (lo + hi) (2 * hi) - rIn (sqfP p) (d + 1) (2 * lo) (lo + hi) - 0 = rIn (sqfP p) (d + 1) (lo + hi) (2 * hi) by omega]
          · rw [if_neg q4, if_neg q4, if_neg (show ¬ j - 1 = i by omega)]
    · rw [if_neg (show ¬ j < i by omega)]
      by_cases q2 : j = i
      · rw [if_pos q2]
        exact ⟨by dsimp only; omega, e1, fun q => by dsimp only at q; omega⟩
      · rw [if_neg q2, if_neg (show ¬ j < i + 1 by omega), if_pos (show j = i + 1 by omega)]
        exact ⟨by dsimp only; omega, e2, fun q => by dsimp only at q; omega⟩
/-! refine -/
theorem rfn_eq {p : Nat → Int} (hp : zb p) (h0 : stI p 7 ≠ 0) : ∀ (m : Nat) (v : Iv), ivI (sqfP p) v → v.2.2.2 = 1 → rfOk p (frP p) m v → rfn (sqfP p) m v = rfN p (frP p) m v ∧ ivI (sqfP p) (rfn (sqfP p) m v) ∧ (rfn (sqfP p) m v).2.2.2 = 1
  | 0, v, hI, h1, _ => ⟨rfl, hI, h1⟩
  | m + 1, v, hI, h1, ok => by
    rw [rfn, rfN]
    by_cases c : v.2.1 = v.2.2.1
    · rw [if_pos c, if_neg (by omega)]; exact ⟨rfl, hI, h1⟩
    · have hlt : v.2.1 < v.2.2.1 := by have := hI.1; omega
      rw [if_neg c, if_pos hlt]
      obtain ⟨o1, o2, _, o4⟩ := ok.2.2 hlt
      have e1 := ctI_eq hp h0 (show 2 * v.2.1 < v.2.1 + v.2.2.1 by omega) o1
      have e2 := ctI_eq hp h0 (show v.2.1 + v.2.2.1 < 2 * v.2.2.1 by omega) o2
      have e3 := rIn_half (p := p) (k := v.1) hlt
      have b1 := rIn_bd h0 (k := v.1 + 1) (show 2 * v.2.1 < v.2.1 + v.2.2.1 by omega)
      have b2 := rIn_bd h0 (k := v.1 + 1) (show v.2.1 + v.2.2.1 < 2 * v.2.2.1 by omega)
      rw [← hI.2.1, h1] at e3
      have sg := sqf_sgn h0 (v.2.1 + v.2.2.1) (v.1 + 1)
      have key : (v.1 + 1, (nrwI (sqfP p) v.1 v.2.1 v.2.2.1).1, (nrwI (sqfP p) v.1 v.2.1 v.2.2.1).2, (1 : Int)) = rfX p (frP p) v ∧ ivI (sqfP p) (rfX p (frP p) v) ∧ (rfX p (frP p) v).2.2.2 = 1 := by
        unfold nrwI rfX
        by_cases q : sgnAt p (v.2.1 + v.2.2.1) (v.1 + 1) = 0
        · have q2 := sg.mp q
          rw [if_pos q, if_pos q2]
          have c1 : ctI (frP p) (v.1 + 1) (v.2.1 + v.2.2.1) (v.2.1 + v.2.2.1) = 1 := by unfold ctI; rw [if_pos rfl]
          rw [c1]
          exact ⟨rfl, ⟨Int.le_refl _, (rIn_pt q2).symm, fun _ => rfl⟩, rfl⟩
        · have q2 : ¬ sgnAt (stE (sqfP p) 0) (v.2.1 + v.2.2.1) (v.1 + 1) = 0 := fun w => q (sg.mpr w)
          rw [if_neg q2] at e3
          rw [if_neg q, if_neg q2]
          by_cases w : rIn (sqfP p) (v.1 + 1) (2 * v.2.1) (v.2.1 + v.2.2.1) = 1
          · rw [if_pos w, if_pos (by omega), e1, w]
            exact ⟨rfl, ⟨by dsimp only; omega, w.symm, fun z => by dsimp only at z; omega⟩, rfl⟩
          · have w2 : rIn (sqfP p) (v.1 + 1) (v.2.1 + v.2.2.1) (2 * v.2.2.1) = 1 := by omega
            rw [if_neg w, if_neg (by omega), e2, w2]
            exact ⟨rfl, ⟨by dsimp only; omega, w2.symm, fun z => by dsimp only at z; omega⟩, rfl⟩
      rw [key.1]
      exact rfn_eq hp h0 m _ key.2.1 key.2.2 o4
/-! removeEmpty -/
theorem cmpV_s (V : Nat → Iv) (j t : Nat) : cmpV V (j + 1) t = if t = cmpN V j then V j else cmpV V j t := rfl
theorem cmp_cong {V W : Nat → Iv} : ∀ (i : Nat), (∀ j, j < i → V j = W j) → cmpN V i = cmpN W i ∧ ∀ t, t < cmpN V i → cmpV V i t = cmpV W i t
  | 0, _ => ⟨rfl, fun t h => by rw [cmpN] at h; omega⟩
  | i + 1, h => by
    obtain ⟨h1, h2⟩ := cmp_cong i (fun j hj => h j (by omega))
    have h3 := h i (by omega)
    have e : cmpN V (i + 1) = cmpN W (i + 1) := by rw [cmpN, cmpN, h3, h1]
    refine ⟨e, fun t ht => ?_⟩
    rw [cmpV_s, cmpV_s, ← h1, h3]
    by_cases c : t = cmpN V i
    · rw [if_pos c, if_pos c]
    · rw [if_neg c, if_neg c]
      refine h2 t ?_
      rw [cmpN] at ht
      split at ht <;> omega
theorem drp_eq : ∀ (i n : Nat) (V : Nat → Iv), i ≤ n → (∀ j, j < i → 0 ≤ (V j).2.2.2) → (drpV i n V).1 = n - i + cmpN V i ∧ (∀ t, t < cmpN V i → (drpV i n V).2 t = cmpV V i t) ∧ ∀ u, (drpV i n V).2 (cmpN V i + u) = V (i + u)
  | 0, n, V, _, _ => ⟨by rw [drpV, cmpN]; omega, fun t h => by rw [cmpN] at h; omega, fun u => by rw [drpV, cmpN]⟩
  | i + 1, n, V, h, hV => by
    have hi := hV i (by omega)
    rw [drpV]
    by_cases c : (V i).2.2.2 = 0
    · have eN : cmpN V (i + 1) = cmpN V i := by rw [cmpN, if_neg (by omega)]
      have hd : ∀ j, j < i → delV V i j = V j := fun j hj => by unfold delV; rw [if_pos hj]
      obtain ⟨k1, k2⟩ := cmp_cong i hd
      obtain ⟨h1, h2, h3⟩ := drp_eq i (n - 1) (delV V i) (by omega) (fun j hj => by rw [hd j hj]; exact hV j (by omega))
      rw [if_pos c, eN]
      refine ⟨by rw [h1, k1]; omega, fun t ht => ?_, fun u => ?_⟩
      · rw [h2 t (by omega), k2 t (by omega), cmpV_s, if_neg (by omega)]
      · rw [← k1, h3]
        unfold delV
        rw [if_neg (by omega), show i + u + 1 = i + 1 + u by omega]
    · have eN : cmpN V (i + 1) = cmpN V i + 1 := by rw [cmpN, if_pos (by omega)]
      obtain ⟨h1, h2, h3⟩ := drp_eq i n V (by omega) (fun j hj => hV j (by omega))
      rw [if_neg c, eN]
      refine ⟨by rw [h1]; omega, fun t ht => ?_, fun u => ?_⟩
      · rw [cmpV_s]
        by_cases q : t = cmpN V i
        · have := h3 0
          rw [if_pos q, q]; exact this
        · rw [if_neg q]; exact h2 t (by omega)
      · rw [show cmpN V i + 1 + u = cmpN V i + (1 + u) by omega, h3, show i + (1 + u) = i + 1 + u by omega]
/-- each that is kept was there -/
theorem cmp_in (V : Nat → Iv) : ∀ i t, t < cmpN V i → ∃ j, j < i ∧ cmpV V i t = V j
  | 0, t, h => by rw [cmpN] at h; omega
  | i + 1, t, h => by
    rw [cmpV_s]
    by_cases c : t = cmpN V i
    · rw [if_pos c]; exact ⟨i, by omega, rfl⟩
    · rw [if_neg c]
      obtain ⟨j, h1, h2⟩ := cmp_in V i t (by rw [cmpN] at h; split at h <;> omega)
      exact ⟨j, by omega, h2⟩
/-! multiplicity -/
theorem rIn_c {p : Nat → Int} (h0 : stI p 7 ≠ 0) (h1 : stI p 7 ≤ 1) {v : Iv} (hle : v.2.1 ≤ v.2.2.1) : rIn (sqfP p) v.1 v.2.1 v.2.2.1 = 0 := by
  have hs := (sqf_dg h0).1
  have hs0 := sqf_nz h0
  by_cases c : v.2.1 = v.2.2.1
  · have hne : ¬ sgnAt (stE (sqfP p) 0) v.2.2.1 v.1 = 0 := fun q => by
      rw [stE_s0 h0, sgn_0] at q
      obtain ⟨e, he, h2⟩ := raW_0 (iv_W (p := sqfP p) (k := 0) (by omega))
      rw [h2] at q
      exact he q
    unfold rIn
    rw [if_pos c, if_neg hne]
  · have := rIn_bd h0 (k := v.1) (show v.2.1 < v.2.2.1 by omega)
    omega
theorem muH_eq {p : Nat → Int} (hp : zb p) (h0 : stI p 7 ≠ 0) {v : Iv} (hle : v.2.1 ≤ v.2.2.1) (ok : v.2.1 ≠ v.2.2.1 → ctOk (frP p) v.1 v.2.1 v.2.2.1) : muH v p ↔ rIn (sqfP p) v.1 v.2.1 v.2.2.1 ≠ 0 := by
  unfold muH
  by_cases c : v.2.1 = v.2.2.1
  · rw [if_pos c]
    unfold rIn
    rw [if_pos c, sqf_sgn h0, c]
    by_cases q : sgnAt (stE (sqfP p) 0) v.2.2.1 v.1 = 0
    · rw [if_pos q]; exact ⟨fun _ => by omega, fun _ => q⟩
    · rw [if_neg q]; exact ⟨fun w => absurd w q, fun w => absurd rfl w⟩
  · rw [if_neg c]
    have := ctI_eq hp h0 (show v.2.1 < v.2.2.1 by omega) (ok c)
    omega
theorem mul_eq {v : Iv} (hle : v.2.1 ≤ v.2.2.1) : ∀ (r : Nat) (p : Nat → Int), zb p → 2 ≤ stI p 7 → rIn (sqfP p) v.1 v.2.1 v.2.2.1 ≠ 0 → muOk v r p → mulF v r p = muR v r p
  | 0, _, _, _, _, ok => ok.elim
  | r + 1, p, hp, h2, hr, ok => by
    have h0 : stI p 7 ≠ 0 := by omega
    have hd0 := pr_nz (gcd_pr h0).1
    have hz := zb_gcdP hp (zb_der p)
    have eg := gcR_eq hp (zb_der p)
    obtain ⟨_, ok2⟩ := ok
    rw [eg] at ok2
    rw [mulF, muR, if_neg (by omega), if_neg hr, eg]
    by_cases c : stI (gcdP p (derI p)) 7 ≤ 1
    · rw [if_pos c]
      have : mulF v r (gcdP p (derI p)) = 0 := by
        cases r with
        | zero => rfl
        | succ r => rw [mulF, if_pos c]
      omega
    · rw [if_neg c]
      obtain ⟨_, o2, o3⟩ := ok2 c
      have hm := muH_eq hz hd0 hle (fun q => (o2 q).2.1)
      by_cases d : muH v (gcdP p (derI p))
      · rw [if_pos d, mul_eq hle r _ hz (by omega) (hm.mp d) (o3 d)]
      · have z : rIn (sqfP (gcdP p (derI p))) v.1 v.2.1 v.2.2.1 = 0 := Decidable.not_not.mp (fun q => d (hm.mpr q))
        rw [if_neg d]
        have : mulF v r (gcdP p (derI p)) = 0 := by
          cases r with
          | zero => rfl
          | succ r => rw [mulF, if_neg c, if_pos z]
        omega
/-! countDistinct, countAll -/
theorem ptR_lt2 {x y : Int} {k l : Nat} (h : x * 2 ^ l < y * 2 ^ k) : ptR x k < ptR y l := by
  have e1 := ptR_up x (show k ≤ k + l by omega)
  have e2 := ptR_up y (show l ≤ k + l by omega)
  rw [show k + l - k = l by omega] at e1
  rw [show k + l - l = k by omega] at e2
  rw [← e1, ← e2]
  exact ptR_lt.mpr h
theorem dsX_pt (x : Int) (k l : Nat) : ptR (dsX x k l) (max k l) = ptR x k := ptR_up x (Nat.le_max_left k l)
theorem ds_rIn {p : Nat → Int} (hp : zb p) (h0 : stI p 7 ≠ 0) {x y : Int} {k l : Nat} (h : x * 2 ^ l < y * 2 ^ k) (ok : dsOk p x k y l) : dsX x k l < dsX y l k ∧ (dsN p x k y l : Int) = rIn (sqfP p) (max k l) (dsX x k l) (dsX y l k) := by
  have e2 : ptR (dsX y l k) (max k l) = ptR y l := by rw [Nat.max_comm]; exact dsX_pt y l k
  have hlt : dsX x k l < dsX y l k := by
    rw [← ptR_lt (k := max k l), dsX_pt, e2]
    exact ptR_lt2 h
  refine ⟨hlt, ?_⟩
  obtain ⟨_, _, o1, o2⟩ := ok
  unfold dsN
  unfold dsB dsG at *
  rw [frP_eq hp h0] at *
  rw [show stI (sqfP p) 7 - 1 + 1 = stI (sqfP p) 7 by omega] at *
  exact cnt_tree h0 hlt o2
theorem ds_eq {p : Nat → Int} (hp : zb p) (h0 : stI p 7 ≠ 0) {x y : Int} {k l : Nat} (h : x * 2 ^ l < y * 2 ^ k) (ok : dsOk p x k y l) (n1 : sgnAt p x k ≠ 0) (n2 : sgnAt p y l ≠ 0) : (dsN p x k y l : Int) = (stC p x k : Int) - stC p y l := by
  have e2 : ptR (dsX y l k) (max k l) = ptR y l := by rw [Nat.max_comm]; exact dsX_pt y l k
  obtain ⟨hlt, h2⟩ := ds_rIn hp h0 h ok
  have h3 := cnt_sqf h0 (ptR_lt2 h) (fun q => n1 ((sgn_0 _ _ _).mpr q)) (fun q => n2 ((sgn_0 _ _ _).mpr q))
  have h4 : ¬ sgnAt (stE (sqfP p) 0) (dsX y l k) (max k l) = 0 := fun q => n2 ((sqf_sgn h0 y l).mpr ((sgn_pt e2).mp q))
  rw [h2, h3]
  unfold rIn
  rw [if_neg (by omega), if_neg h4, stC_pt (dsX_pt x k l), stC_pt e2]
  omega
theorem da_eq {x y : Int} {k l : Nat} (h : x * 2 ^ l < y * 2 ^ k) : ∀ (r : Nat) (p : Nat → Int), zb p → stI p 7 ≠ 0 → daOk x k y l r p → sgnAt p x k ≠ 0 → sgnAt p y l ≠ 0 → ∀ m k2 m2 l2 : Int32, m.toInt = x → k2.toInt.toNat = k → m2.toInt = y → l2.toInt.toNat = l → (daN x k y l r p : Int) = cntA m k2 m2 l2 r p
  | 0, _, _, _, _, _, _, _, _, _, _, _, _, _, _ => rfl
  | r + 1, p, hp, h0, ok, n1, n2, m, k2, m2, l2, q1, q2, q3, q4 => by
    rw [daN, cntA]
    by_cases c : stI p 7 ≤ 1
    · rw [if_pos c, if_pos c]; rfl
    · rw [if_neg c, if_neg c]
      obtain ⟨o1, o2⟩ := ok.2 c
      have eg := gcR_eq hp (zb_der p)
      rw [eg] at o2 ⊢
      obtain ⟨hpr, u, _, hu⟩ := gcd_pr h0
      have nz : ∀ n k, sgnAt p n k ≠ 0 → sgnAt (gcdP p (derI p)) n k ≠ 0 := fun n k q w => q (by
        rw [sgn_0] at w ⊢
        rw [hu, w, Rat.mul_zero])
      have ih := da_eq h r _ (zb_gcdP hp (zb_der p)) (pr_nz hpr) o2 (nz _ _ n1) (nz _ _ n2) m k2 m2 l2 q1 q2 q3 q4
      have e := ds_eq hp h0 h o1 n1 n2
      unfold cntP
      rw [Int.natCast_add, e, ih, q1, q2, q3, q4]
/-- the number of distinct roots -/
theorem dR_eq {p : Nat → Int} (hb : bnd9 p) (h0 : stI p 7 ≠ 0) (ok : dsOk p (-(rBd p : Int)) 0 (rBd p) 0) : (dsN p (-(rBd p : Int)) 0 (rBd p) 0 : Int) = dR p := by
  have h1 := (rBd_ok hb.1 h0).2.1
  obtain ⟨hlt, h2⟩ := ds_rIn hb.2 h0 (x := -(rBd p : Int)) (y := rBd p) (k := 0) (l := 0) (by omega) ok
  rw [h2, (dR_rIn hb.1 h0).1]
  unfold dsX
  rw [Nat.max_self, Nat.sub_self, Int.pow_zero, Int.mul_one, Int.mul_one]
