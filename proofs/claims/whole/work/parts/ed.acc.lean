/-! constructors: what has been made so far, block by block; where each block begins -/
abbrev blkE : Type := Nat × ((Nat → Nat) → Nat → va_E)
def entL : List blkE → (Nat → Nat) → Nat → va_E
  | [], _, _ => .inr (0, [])
  | (B, E) :: ps, N, i => if i < B then E N i else entL ps (fun k => N (B + k)) (i - B)
def lenL : List blkE → Nat
  | [] => 0
  | (B, _) :: ps => B + lenL ps
def locL : List blkE → Prop
  | [] => True
  | (B, E) :: ps => locE B E ∧ locL ps
theorem entL_loc : ∀ {ps : List blkE}, locL ps → locE (lenL ps) (entL ps)
  | [], _ => fun N N' hN i hi => absurd hi (Nat.not_lt_zero i)
  | (B, E) :: ps, h => fun N N' hN i hi => by
    have hi : i < B + lenL ps := hi
    unfold entL
    by_cases c : i < B
    · rw [if_pos c, if_pos c]
      exact h.1 N N' (fun k hk => hN k (Nat.lt_of_lt_of_le hk (Nat.le_add_right _ _))) i c
    · rw [if_neg c, if_neg c]
      exact entL_loc h.2 _ _ (fun k hk => hN (B + k) (Nat.add_lt_add_left hk B)) (i - B) (by omega)
theorem entL_l : ∀ {ps qs : List blkE} {N : Nat → Nat} {i : Nat}, i < lenL ps → entL (ps ++ qs) N i = entL ps N i
  | [], _, _, i, h => absurd h (Nat.not_lt_zero i)
  | (B, E) :: ps, qs, N, i, h => by
    have h : i < B + lenL ps := h
    show (if i < B then E N i else entL (ps ++ qs) (fun k => N (B + k)) (i - B)) = if i < B then E N i else entL ps (fun k => N (B + k)) (i - B)
    by_cases c : i < B
    · rw [if_pos c, if_pos c]
    · rw [if_neg c, if_neg c]
      exact entL_l (by omega)
theorem entL_r : ∀ {ps qs : List blkE} {N : Nat → Nat} {i : Nat}, entL (ps ++ qs) N (lenL ps + i) = entL qs (fun k => N (lenL ps + k)) i
  | [], qs, N, i => by
    show entL qs N (0 + i) = entL qs (fun k => N (0 + k)) i
    rw [Nat.zero_add]
    have : (fun k => N (0 + k)) = N := funext fun k => by rw [Nat.zero_add]
    rw [this]
  | (B, E) :: ps, qs, N, i => by
    show (if B + lenL ps + i < B then E N (B + lenL ps + i) else entL (ps ++ qs) (fun k => N (B + k)) (B + lenL ps + i - B)) = entL qs (fun k => N (B + lenL ps + k)) i
    rw [if_neg (by omega), show B + lenL ps + i - B = lenL ps + i by omega, entL_r]
    have : (fun k => N (B + (lenL ps + k))) = fun k => N (B + lenL ps + k) := funext fun k => by rw [Nat.add_assoc]
    rw [← this]
theorem lenL_app : ∀ (ps qs : List blkE), lenL (ps ++ qs) = lenL ps + lenL qs
  | [], qs => by rw [List.nil_append]; exact (Nat.zero_add _).symm
  | (B, E) :: ps, qs => by
    show B + lenL (ps ++ qs) = B + lenL ps + lenL qs
    rw [lenL_app ps qs, Nat.add_assoc]
theorem locL_app : ∀ {ps qs : List blkE}, locL ps → locL qs → locL (ps ++ qs)
  | [], _, _, h => h
  | (_, _) :: _, _, h, h2 => ⟨h.1, locL_app h.2 h2⟩
def acc (h g : mH) (a n : Nat) (ps : List blkE) (L : List (Nat × Nat)) : Prop := lenL ps = n ∧ locL ps ∧ ∃ N, nw h g a n N ∧ (∀ i, i < n → g (N i) = some (entL ps N i)) ∧ ∀ p ∈ L, p.1 < n ∧ N p.1 = p.2
section ACC
variable {h g h1 : mH} {a B q n m : Nat} {ps ps' : List blkE} {L : List (Nat × Nat)} {E : (Nat → Nat) → Nat → va_E}
theorem acc_0 : acc h h a 0 [] [] := ⟨rfl, trivial, fun _ => 0, nw_rf, fun i hi => absurd hi (Nat.not_lt_zero i), fun p hp => absurd hp List.not_mem_nil⟩
theorem acc_up (hA : acc h g a n ps L) (ha : h a ≠ none) (e : va_E) : acc h (mup g a e) a n ps L := by
  obtain ⟨hn, hl, N, n1, n2, n3⟩ := hA
  exact ⟨hn, hl, N, nw_up n1 (Or.inl rfl), fun i hi => by rw [mup_ne (nw_a n1 ha hi)]; exact n2 i hi, n3⟩
theorem acc_nw (hA : acc h g a n ps L) (hm : n + B = m) (hp : ps ++ [(B, E)] = ps') (ha : h a ≠ none) (ga : g a ≠ none) (hB : 0 < B) (hE : locE B E) (hw : ∃ M, M 0 = q ∧ nw g h1 a B M ∧ ∀ i, i < B → h1 (M i) = some (E M i)) : acc h h1 a m ps' ((n, q) :: L) := by
  obtain ⟨hn, hl, N, n1, n2, n3⟩ := hA
  obtain ⟨M, m0, m1, m2⟩ := hw
  subst hn
  subst hm
  subst hp
  refine ⟨lenL_app ps [(B, E)], locL_app hl ⟨hE, trivial⟩, cat (lenL ps) N M, nw_tr n1 m1 ha ga, fun i hi => ?_, fun p hp => ?_⟩
  · by_cases c : i < lenL ps
    · rw [cat_l c, entL_l c, entL_loc hl (cat (lenL ps) N M) N (fun k hk => cat_l hk) i c]
      exact nw_get m1 (n2 i c) (nw_a n1 ha c)
    · obtain ⟨j, rfl⟩ : ∃ j, i = lenL ps + j := ⟨i - lenL ps, by omega⟩
      rw [cat_r, entL_r]
      have ek : (fun k => cat (lenL ps) N M (lenL ps + k)) = M := funext fun k => cat_r
      rw [ek, entL, if_pos (by omega)]
      exact m2 j (by omega)
  · rcases List.mem_cons.mp hp with hp | hp
    · subst hp
      exact ⟨by show lenL ps < lenL ps + B; omega, by show cat (lenL ps) N M (lenL ps) = q; rw [cat_0, m0]⟩
    · obtain ⟨u, v⟩ := n3 p hp
      exact ⟨by omega, by rw [cat_l u]; exact v⟩
theorem acc_obj (hA : acc h g a n ps L) (hm : n + B = m) (hp : ps ++ [(B, E)] = ps') (ha : h a ≠ none) (ga : g a ≠ none) (hB : 0 < B) (hE : locE B E) {obj : va_E} (hq : g q = none) (hw : made (mup g q obj) h1 q B E) : acc h h1 a m ps' ((n, q) :: L) ∧ h1 a = g a := by
  obtain ⟨M, m0, m1, m2⟩ := nw_made (a := a) hq hB hw
  refine ⟨acc_nw hA hm hp ha ga hB hE ⟨M, m0, m1, m2⟩, ?_⟩
  obtain ⟨M', w0, w1, w2, w3, w4⟩ := hw
  have qa : a ≠ q := fun w => ga (by rw [w]; exact hq)
  rw [w4 a (fun i hi w => ?_), mup_ne qa]
  by_cases c0 : i = 0
  · rw [c0, w0] at w
    exact qa w
  · have := w2 i (by omega) hi
    rw [← w, mup_ne qa] at this
    exact ga this
theorem acc_arr (hA : acc h g a n ps L) (hm : n + 1 = m) {e : va_E} (hp : ps ++ [(1, fun _ _ => e)] = ps') (ha : h a ≠ none) (ga : g a ≠ none) (hq : g q = none) : acc h (mup g q e) a m ps' ((n, q) :: L) ∧ mup g q e a = g a := by
  have qa : a ≠ q := fun w => ga (by rw [w]; exact hq)
  refine ⟨acc_nw hA hm hp ha ga (by decide) (fun _ _ _ _ _ => rfl) ⟨fun _ => q, rfl, nw_1 hq e, fun i _ => mup_self⟩, mup_ne qa⟩
theorem acc_mups (hA : acc h g a n ps L) (hm : n + B = m) (hp : ps ++ [(B, E)] = ps') (ha : h a ≠ none) (ga : g a ≠ none) (hB : 0 < B) (hE : locE B E) {A : Nat → Nat} (h1 : ∀ i, i < B → g (A i) = none) (h2 : ∀ i j, i < B → j < B → A i = A j → i = j) : acc h (mups g A (E A) B) a m ps' ((n, A 0) :: L) ∧ mups g A (E A) B a = g a := by
  have qa : ∀ i, i < B → a ≠ A i := fun i hi w => ga (by rw [w]; exact h1 i hi)
  refine ⟨acc_nw hA hm hp ha ga hB hE ⟨A, rfl, ⟨h2, h1, fun i hi => ?_, fun b _ hb => mups_out B hb⟩, fun i hi => mups_in B h2 i hi⟩, mups_out B qa⟩
  rw [mups_in B h2 i hi]
  exact Option.some_ne_none _
def entO (O : (Nat → Nat) → va_E) (ps : List blkE) (N : Nat → Nat) (i : Nat) : va_E := if i = 0 then O N else entL ps (fun k => N (1 + k)) (i - 1)
theorem acc_made (hA : acc h g a n ps L) (ha : h a ≠ none) {O : (Nat → Nat) → va_E} (hO : ∀ N : Nat → Nat, N 0 = a → (∀ p ∈ L, N (p.1 + 1) = p.2) → g a = some (O N)) : made h g a (n + 1) (entO O ps) := by
  obtain ⟨hn, hl, N, n1, n2, n3⟩ := hA
  exact made_of (c := n) (E := entO O ps) n1 ha (by
    unfold entO
    rw [if_pos rfl]
    exact hO _ rfl (fun p hp => by rw [cns_s]; exact (n3 p hp).2)) (fun i hi => by
    unfold entO
    rw [if_neg (Nat.succ_ne_zero i), Nat.add_sub_cancel]
    have ek : (fun k => cns a N (1 + k)) = N := funext fun k => by rw [Nat.add_comm, cns_s]
    rw [ek]
    exact n2 i hi)
/-- what is made, and where the parts begin -/
def madeL (h g : mH) (a c : Nat) (E : (Nat → Nat) → Nat → va_E) (L : List (Nat × Nat)) : Prop := ∃ N : Nat → Nat, (N 0 = a ∧ (∀ i j, i < c → j < c → N i = N j → i = j) ∧ (∀ i, 0 < i → i < c → h (N i) = none) ∧ (∀ i, i < c → g (N i) = some (E N i)) ∧ ∀ b, (∀ i, i < c → b ≠ N i) → g b = h b) ∧ ∀ p ∈ L, N (p.1 + 1) = p.2
theorem acc_madeL (hA : acc h g a n ps L) (ha : h a ≠ none) {O : (Nat → Nat) → va_E} (hO : ∀ N : Nat → Nat, N 0 = a → (∀ p ∈ L, N (p.1 + 1) = p.2) → g a = some (O N)) : madeL h g a (n + 1) (entO O ps) L := by
  obtain ⟨hn, hl, N, n1, n2, n3⟩ := hA
  refine ⟨cns a N, made_is (c := n) (E := entO O ps) n1 ha (by
    unfold entO
    rw [if_pos rfl]
    exact hO _ rfl (fun p hp => by rw [cns_s]; exact (n3 p hp).2)) (fun i hi => by
    unfold entO
    rw [if_neg (Nat.succ_ne_zero i), Nat.add_sub_cancel]
    have ek : (fun k => cns a N (1 + k)) = N := funext fun k => by rw [Nat.add_comm, cns_s]
    rw [ek]
    exact n2 i hi), fun p hp => by rw [cns_s]; exact (n3 p hp).2⟩
theorem entO_loc {O : (Nat → Nat) → va_E} (hn : lenL ps = n) (hl : locL ps) (hO : ∀ N N' : Nat → Nat, (∀ k, k < n + 1 → N k = N' k) → O N = O N') : locE (n + 1) (entO O ps) := fun N N' hN i hi => by
  unfold entO
  by_cases c : i = 0
  · rw [if_pos c, if_pos c, hO N N' hN]
  · rw [if_neg c, if_neg c]
    exact entL_loc hl _ _ (fun k hk => hN (1 + k) (by omega)) (i - 1) (by omega)
end ACC
