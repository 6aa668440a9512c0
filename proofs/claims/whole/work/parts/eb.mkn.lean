/-! what constructors make: new addresses in a row -/
def nw (h h1 : mH) (a c : Nat) (N : Nat → Nat) : Prop := (∀ i j, i < c → j < c → N i = N j → i = j) ∧ (∀ i, i < c → h (N i) = none) ∧ (∀ i, i < c → h1 (N i) ≠ none) ∧ ∀ b, b ≠ a → (∀ i, i < c → b ≠ N i) → h1 b = h b
def cat (c : Nat) (N M : Nat → Nat) (i : Nat) : Nat := if i < c then N i else M (i - c)
theorem cat_l {c : Nat} {N M : Nat → Nat} {i : Nat} (h : i < c) : cat c N M i = N i := if_pos h
theorem cat_r {c : Nat} {N M : Nat → Nat} {i : Nat} : cat c N M (c + i) = M i := by
  unfold cat
  rw [if_neg (by omega), Nat.add_sub_cancel_left]
theorem cat_0 {c : Nat} {N M : Nat → Nat} : cat c N M c = M 0 := cat_r (i := 0)
def made (h h1 : mH) (a c : Nat) (E : (Nat → Nat) → Nat → va_E) : Prop := ∃ N, N 0 = a ∧ (∀ i j, i < c → j < c → N i = N j → i = j) ∧ (∀ i, 0 < i → i < c → h (N i) = none) ∧ (∀ i, i < c → h1 (N i) = some (E N i)) ∧ ∀ b, (∀ i, i < c → b ≠ N i) → h1 b = h b
def locE (c : Nat) (E : (Nat → Nat) → Nat → va_E) : Prop := ∀ N N' : Nat → Nat, (∀ k, k < c → N k = N' k) → ∀ i, i < c → E N i = E N' i
section NW
variable {h h1 h2 g : mH} {a c c1 c2 : Nat} {N N1 N2 : Nat → Nat} {E : (Nat → Nat) → Nat → va_E}
theorem nw_rf : nw h h a 0 N := ⟨fun i j hi => absurd hi (Nat.not_lt_zero i), fun i hi => absurd hi (Nat.not_lt_zero i), fun i hi => absurd hi (Nat.not_lt_zero i), fun _ _ _ => rfl⟩
theorem nw_a (hn : nw h h1 a c N) (ha : h a ≠ none) {i : Nat} (hi : i < c) : N i ≠ a := fun q => ha (by rw [← q]; exact hn.2.1 i hi)
theorem nw_get (hn : nw h h1 a c N) {b : Nat} {e : va_E} (hb : h b = some e) (hne : b ≠ a) : h1 b = some e := by
  rw [hn.2.2.2 b hne (fun i hi q => by rw [q, hn.2.1 i hi] at hb; cases hb)]
  exact hb
theorem nw_tr (x : nw h h1 a c1 N1) (y : nw h1 h2 a c2 N2) (ha : h a ≠ none) (ha1 : h1 a ≠ none) : nw h h2 a (c1 + c2) (cat c1 N1 N2) := by
  have f2 : ∀ j, j < c2 → N2 j ≠ a ∧ (∀ i, i < c1 → N2 j ≠ N1 i) ∧ h (N2 j) = none := fun j hj => by
    have q1 : N2 j ≠ a := nw_a y ha1 hj
    have q2 : ∀ i, i < c1 → N2 j ≠ N1 i := fun i hi q => x.2.2.1 i hi (by rw [← q]; exact y.2.1 j hj)
    exact ⟨q1, q2, by rw [← x.2.2.2 _ q1 q2]; exact y.2.1 j hj⟩
  have k1 : ∀ i, i < c1 → h2 (N1 i) = h1 (N1 i) := fun i hi => y.2.2.2 _ (nw_a x ha hi) (fun j hj q => (f2 j hj).2.1 i hi q.symm)
  refine ⟨fun i j hi hj w => ?_, fun i hi => ?_, fun i hi => ?_, fun b hb hbn => ?_⟩
  · unfold cat at w
    by_cases u : i < c1
    · by_cases v : j < c1
      · rw [if_pos u, if_pos v] at w
        exact x.1 i j u v w
      · rw [if_pos u, if_neg v] at w
        exact absurd w.symm ((f2 (j - c1) (by omega)).2.1 i u)
    · by_cases v : j < c1
      · rw [if_neg u, if_pos v] at w
        exact absurd w ((f2 (i - c1) (by omega)).2.1 j v)
      · rw [if_neg u, if_neg v] at w
        have := y.1 (i - c1) (j - c1) (by omega) (by omega) w
        omega
  · unfold cat
    by_cases u : i < c1
    · rw [if_pos u]
      exact x.2.1 i u
    · rw [if_neg u]
      exact (f2 (i - c1) (by omega)).2.2
  · unfold cat
    by_cases u : i < c1
    · rw [if_pos u, k1 i u]
      exact x.2.2.1 i u
    · rw [if_neg u]
      exact y.2.2.1 (i - c1) (by omega)
  · rw [y.2.2.2 b hb (fun j hj => ?_), x.2.2.2 b hb (fun i hi => ?_)]
    · have := hbn i (by omega)
      rw [cat_l hi] at this
      exact this
    · have := hbn (c1 + j) (by omega)
      rw [cat_r] at this
      exact this
theorem nw_up (hn : nw h h1 a c N) {b : Nat} {e : va_E} (hb : b = a ∨ ∃ i, i < c ∧ b = N i) : nw h (mup h1 b e) a c N := by
  refine ⟨hn.1, hn.2.1, fun i hi => ?_, fun x hx hxn => ?_⟩
  · by_cases q : N i = b
    · rw [q, mup_self]
      exact Option.some_ne_none e
    · rw [mup_ne q]
      exact hn.2.2.1 i hi
  · have : x ≠ b := by
      rcases hb with hb | ⟨i, hi, hb⟩
      · rw [hb]; exact hx
      · rw [hb]; exact hxn i hi
    rw [mup_ne this]
    exact hn.2.2.2 x hx hxn
theorem nw_1 {q : Nat} (hq : h q = none) (e : va_E) : nw h (mup h q e) a 1 (fun _ => q) := by
  refine ⟨fun i j hi hj _ => by omega, fun i _ => hq, fun i _ => ?_, fun b hb hbn => mup_ne (hbn 0 (by decide))⟩
  rw [mup_self]
  exact Option.some_ne_none e
/-- new, and its constructor -/
theorem nw_made {q : Nat} {e : va_E} (hq : g q = none) (hc : 0 < c) (hm : made (mup g q e) h1 q c E) : ∃ N, N 0 = q ∧ nw g h1 a c N ∧ ∀ i, i < c → h1 (N i) = some (E N i) := by
  obtain ⟨N, n0, m1, m2, m3, m4⟩ := hm
  refine ⟨N, n0, ⟨m1, fun i hi => ?_, fun i hi => by rw [m3 i hi]; exact Option.some_ne_none _, fun b _ hbn => ?_⟩, m3⟩
  · by_cases c0 : i = 0
    · rw [c0, n0]
      exact hq
    · have := m2 i (by omega) hi
      by_cases w : N i = q
      · exact absurd (m1 i 0 hi hc (w.trans n0.symm)) c0
      · rw [mup_ne w] at this
        exact this
  · rw [m4 b hbn, mup_ne (by rw [← n0]; exact hbn 0 hc)]
/-- the end of a constructor -/
def cns (a : Nat) (N : Nat → Nat) (i : Nat) : Nat := if i = 0 then a else N (i - 1)
theorem cns_s {a : Nat} {N : Nat → Nat} {i : Nat} : cns a N (i + 1) = N i := by
  unfold cns
  rw [if_neg (Nat.succ_ne_zero i), Nat.add_sub_cancel]
theorem made_is (hn : nw h h1 a c N) (ha : h a ≠ none) (h0 : h1 a = some (E (cns a N) 0)) (hE : ∀ i, i < c → h1 (N i) = some (E (cns a N) (i + 1))) : cns a N 0 = a ∧ (∀ i j, i < c + 1 → j < c + 1 → cns a N i = cns a N j → i = j) ∧ (∀ i, 0 < i → i < c + 1 → h (cns a N i) = none) ∧ (∀ i, i < c + 1 → h1 (cns a N i) = some (E (cns a N) i)) ∧ ∀ b, (∀ i, i < c + 1 → b ≠ cns a N i) → h1 b = h b := by
  refine ⟨rfl, fun i j hi hj w => ?_, fun i h0 hi => ?_, fun i hi => ?_, fun b hb => ?_⟩
  · unfold cns at w
    by_cases u : i = 0
    · by_cases v : j = 0
      · omega
      · rw [if_pos u, if_neg v] at w
        exact absurd w.symm (nw_a hn ha (by omega))
    · by_cases v : j = 0
      · rw [if_neg u, if_pos v] at w
        exact absurd w (nw_a hn ha (by omega))
      · rw [if_neg u, if_neg v] at w
        have := hn.1 (i - 1) (j - 1) (by omega) (by omega) w
        omega
  · unfold cns
    rw [if_neg (by omega)]
    exact hn.2.1 (i - 1) (by omega)
  · cases i with
    | zero => exact h0
    | succ i =>
      rw [cns_s]
      exact hE i (by omega)
  · refine hn.2.2.2 b (hb 0 (by omega)) (fun i hi => ?_)
    have := hb (i + 1) (by omega)
    rw [cns_s] at this
    exact this
theorem made_of (hn : nw h h1 a c N) (ha : h a ≠ none) (h0 : h1 a = some (E (cns a N) 0)) (hE : ∀ i, i < c → h1 (N i) = some (E (cns a N) (i + 1))) : made h h1 a (c + 1) E := ⟨cns a N, made_is hn ha h0 hE⟩
/-- a row of t things, each of B cells -/
def rwI (h g : mH) (a B : Nat) (cr : ClassId) (O : Nat → va_E) (E : (Nat → Nat) → Nat → va_E) (t : Nat) (N : Nat → Nat) : Prop := nw h g a (1 + B * t) N ∧ g a = some (O (N 0)) ∧ g (N 0) = some (.inl (cr, 7, .inr (.inr (.inr (.inr (fun i => if i < t then some (N (1 + B * i)) else none)))))) ∧ ∀ j i, j < t → i < B → g (N (1 + B * j + i)) = some (E (fun k => N (1 + B * j + k)) i)
theorem mul_blk {B j t i : Nat} (hj : j < t) (hi : i < B) : 1 + B * j + i < 1 + B * t := by
  have := Nat.mul_le_mul_left B (show j + 1 ≤ t from hj)
  rw [Nat.mul_succ] at this
  omega
theorem rwI_step {B t q : Nat} {cr : ClassId} {O : Nat → va_E} {obj : va_E} (hB : 0 < B) (hl : locE B E) (hI : rwI h g a B cr O E t N) (ha : h a ≠ none) (hq : g q = none) (hm : made (mup g q obj) h1 q B E) :
    h1 a = some (O (N 0)) ∧ h1 (N 0) = some (.inl (cr, 7, .inr (.inr (.inr (.inr (fun i => if i < t then some (N (1 + B * i)) else none)))))) ∧ (∃ e, h1 q = some e ∧ ∃ M, M 0 = q ∧ e = E M 0) ∧ ∀ f : Nat → Option Nat, (f = fun i => if i = t then some q else if i < t then some (N (1 + B * i)) else none) → ∃ N', N' 0 = N 0 ∧ rwI h (mup h1 (N 0) (.inl (cr, 7, .inr (.inr (.inr (.inr f)))))) a B cr O E (t + 1) N' := by
  obtain ⟨i1, i2, i3, i4⟩ := hI
  obtain ⟨M, m0, m1, m2⟩ := nw_made (a := a) hq hB hm
  have ga : g a ≠ none := by rw [i2]; exact Option.some_ne_none _
  have tr := nw_tr i1 m1 ha ga
  have h0a : N 0 ≠ a := nw_a i1 ha (by omega)
  have b1 : h1 a = some (O (N 0)) := by
    rw [← i2]
    obtain ⟨M', w0, w1, w2, w3, w4⟩ := hm
    have qa : a ≠ q := fun w => ga (by rw [w]; exact hq)
    rw [w4 a (fun i hi w => ?_), mup_ne qa]
    by_cases c0 : i = 0
    · rw [c0, w0] at w
      exact qa w
    · have := w2 i (by omega) hi
      rw [← w, mup_ne qa] at this
      exact ga this
  have b2 := nw_get m1 i3 h0a
  refine ⟨b1, b2, ⟨_, by rw [← m0]; exact m2 0 hB, M, m0, rfl⟩, fun f hf => ?_⟩
  refine ⟨cat (1 + B * t) N M, cat_l (by omega), ?_⟩
  have e0 : cat (1 + B * t) N M 0 = N 0 := cat_l (by omega)
  have tr2 : nw h (mup h1 (N 0) (.inl (cr, 7, .inr (.inr (.inr (.inr f)))))) a (1 + B * (t + 1)) (cat (1 + B * t) N M) := by
    have := nw_up tr (b := N 0) (e := .inl (cr, 7, .inr (.inr (.inr (.inr f))))) (Or.inr ⟨0, by omega, e0.symm⟩)
    rw [Nat.mul_succ, ← Nat.add_assoc]
    exact this
  refine ⟨tr2, ?_, ?_, fun j i hj hi => ?_⟩
  · rw [mup_ne h0a.symm, e0]
    exact b1
  · rw [e0, mup_self]
    have : f = fun i => if i < t + 1 then some (cat (1 + B * t) N M (1 + B * i)) else none := by
      rw [hf]
      funext i
      by_cases c1 : i = t
      · rw [if_pos c1, if_pos (by omega), c1, cat_0, m0]
      · rw [if_neg c1]
        by_cases c2 : i < t
        · have := mul_blk (B := B) c2 hB
          rw [if_pos c2, if_pos (by omega), cat_l (by omega)]
        · rw [if_neg c2, if_neg (by omega)]
    rw [this]
  · have hne : cat (1 + B * t) N M (1 + B * j + i) ≠ N 0 := fun w => by
      rw [← e0] at w
      have := tr2.1 _ _ (mul_blk hj hi) (by have := mul_blk hj hi; omega) w
      omega
    rw [mup_ne hne]
    by_cases c1 : j = t
    · subst c1
      have ek : (fun k => cat (1 + B * j) N M (1 + B * j + k)) = M := funext fun k => cat_r
      rw [ek, cat_r]
      exact m2 i hi
    · have hjt : j < t := by omega
      rw [cat_l (mul_blk hjt hi), hl (fun k => cat (1 + B * t) N M (1 + B * j + k)) (fun k => N (1 + B * j + k)) (fun k hk => cat_l (mul_blk hjt hk)) i hi]
      exact nw_get m1 (i4 j i hjt hi) (nw_a i1 ha (mul_blk hjt hi))
end NW
