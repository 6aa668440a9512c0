/-! methods with handlers: calls of a part of the heap that may throw, catches, contracts of methods with a table -/
theorem hnew_of {D : va_G} {h hs h1 : mH} {H : Heap} (hR : mR D h H) (hB : ∀ a e, h1 a = some e → mA hs H.size a) : ∀ a, hs a = none → h a ≠ none → h1 a = none := fun a h0 h2 => by
  cases hq : h1 a with
  | none => rfl
  | some e =>
    rcases hB a e hq with ⟨x, hx⟩ | hz
    · rw [hx] at h0
      cases h0
    · cases hy : h a with
      | none => exact absurd hy h2
      | some y => exact absurd (hR a y hy).lt (Nat.not_lt.mpr hz)
theorem mjoin_l {h hs h1 : mH} {a : Nat} {e : va_E} (he : h1 a = some e) : mjoin h hs h1 a = some e := by
  unfold mjoin
  rw [he]
theorem mjoin_r {h hs h1 : mH} (hn : ∀ a, hs a = none → h a ≠ none → h1 a = none) {a : Nat} {e : va_E} (h0 : hs a = none) (he : h a = some e) : mjoin h hs h1 a = some e := by
  unfold mjoin
  rw [hn a h0 (by rw [he]; exact Option.some_ne_none e), h0]
  exact he
section MHROWS
variable {z : mZ} {l : Launch} {R : Room} {D : va_G} {nL : Nat} {cells slots : Nat}
variable {cc : ByteArray} {own nm : String} {tys : List (ClassId × FieldType)} {ret : Option FieldType} {pc : Nat} {L : List (Option Value)} {st : List Value} {h h0 : mH} {P : String → mH → Prop}
theorem zi_xcallViF (X : zX z l D cc own tys nL ret R nm) {y : MethodName} {bytes : ByteArray} {maxL n index : Nat} {ty : FieldType} {rm : Room} {As : List Value} {hs : mH} {b : Nat} {ci N : Nat} {fs : List Value} {T : u_T} {post : Int32 → mH → Prop} {PX : String → mH → Prop} {st0 : List Value} (hM : mCx l y bytes maxL (some ty) rm D tys (.ref b :: As) hs (mFi hs post) PX) (hc : mCal y bytes maxL (some ty) n) (hl : Cond.methodLink own index y ∈ mAll) (hb : h b = some (.inr (ci, fs))) (hcl : vwCl[ci]? = some (y.cls, T, N)) (hw2 : Cond.instanceMethod y ∈ mAll) (hw3 : Cond.selects y.cls y y ∈ mAll) (hsub : ∀ a e, hs a = some e → h a = some e) (hRm : rm.frames + 1 ≤ R.frames ∧ 8 + (maxL + 11) + rm.locals ≤ R.locals) (hn : As.length = n) (hst : st0 = As.reverse ++ .ref b :: st) (hroom : (st.map fun v => v.category).sum ≤ 8) (hf : cells + rm.cells ≤ R.cells ∧ slots + rm.slots ≤ R.slots) (hdg : decode cc pc = .ok (.invokevirtual index, 3))
    (kx : ∀ (E : String) (h1 : mH), PX E h1 → (∀ a, hs a = none → h a ≠ none → h1 a = none) → zT z (cells + rm.cells) (slots + rm.slots) pc L st (mjoin h hs h1) E)
    (k : ∀ (r : Int32) (h1 : mH), post r h1 → (∀ a, hs a = none → h a ≠ none → h1 a = none) → zM z (cells + rm.cells) (slots + rm.slots) (pc + 3) L (.int r :: st) (mjoin h hs h1)) : zM z cells slots pc L st0 h := by
  subst hst
  obtain ⟨p, l1, e, R1, s, m, args, below, meth, c, D1, A0, H0, nL1, Q⟩ := z
  obtain ⟨e1, e2, e3, e4, e5, X⟩ := X
  subst e1 e2 e3 e4
  intro H locs ls hR hA hS hL
  have hq1 : ∀ q, q < H.size → mA hs H.size q → A0 q := fun q hq hz => by
    rcases hz with ⟨x, hx⟩ | hz
    · exact hA q x (hsub q x hx)
    · exact absurd hq (Nat.not_lt.mpr hz)
  have hq2 : ∀ q, mA hs H.size q → A0 q := fun q hz => by
    rcases hz with ⟨x, hx⟩ | hz
    · exact hA q x (hsub q x hx)
    · exact X.2.2.2.2.2.2.1 q (Nat.le_trans hS.1 hz)
  obtain ⟨q0, hq0⟩ := mR_get hR hb
  refine vx_calli (vx_runV (As := As) (rest := st) ⟨X.1, X.2.1, X.2.2.2.2.1, X.2.2.2.1, X.2.2.1⟩ (hM H.size) ⟨mcB X.2.2.1 hc hl hRm, X.2.2.1 _ hw2, X.2.2.1 _ hw3⟩ ⟨mPre_blind, va_recv (q0 := q0) X.2.2.2.2.2.1 (mR_P hR) hcl hq0, fun U hU hW => ⟨rfl, by rw [hU], by rw [hU]; exact fun a x hx => hR a x (hsub a x hx), va_K.moved hW.alike X.2.2.2.2.2.1, mNG.warm hW e5.2.1, mST.call e5.2.2 hU hW hS hA hsub X.2.2.2.2.2.2.1⟩⟩ rfl hn hL.1 rfl (lv_room hroom) hdg hf) hS hq1 hq2 hq1 (fun E ce q9 u t H1 locs1 ht hvm _ hB hz1 hk1 hS1 hq9 hv9 hc9 => ?_) (fun r u t H1 locs1 ht hvm hw hB hz1 hk1 hS1 => ?_)
  · have hk2 := kx E u hB.1 (hnew_of hR hB.2.2)
    exact hk2 H1 locs1 ls q9 ce (mjoin_R hR (by rw [← ht]; exact hB.2.1) hk1) (mjoin_dom (H0 := H0) (H := H) hA hsub X.2.2.2.2.2.2.1 hS.1 hB.2.2) hS1 hL hq9 hv9 hc9
  · have hk2 := k r u hw (hnew_of hR hB.2)
    exact hk2 H1 locs1 ls (mjoin_R hR (by rw [← ht]; exact hB.1) hk1) (mjoin_dom (H0 := H0) (H := H) hA hsub X.2.2.2.2.2.2.1 hS.1 hB.2) hS1 hL
theorem zi_xcallVlF (X : zX z l D cc own tys nL ret R nm) {y : MethodName} {bytes : ByteArray} {maxL n index : Nat} {rm : Room} {As : List Value} {hs : mH} {b : Nat} {ci N : Nat} {fs : List Value} {T : u_T} {post : Int64 → mH → Prop} {PX : String → mH → Prop} {st0 : List Value} (hM : mCx l y bytes maxL (some .long) rm D tys (.ref b :: As) hs (mFl hs post) PX) (hc : mCal y bytes maxL (some .long) n) (hl : Cond.methodLink own index y ∈ mAll) (hb : h b = some (.inr (ci, fs))) (hcl : vwCl[ci]? = some (y.cls, T, N)) (hw2 : Cond.instanceMethod y ∈ mAll) (hw3 : Cond.selects y.cls y y ∈ mAll) (hsub : ∀ a e, hs a = some e → h a = some e) (hRm : rm.frames + 1 ≤ R.frames ∧ 8 + (maxL + 11) + rm.locals ≤ R.locals) (hn : As.length = n) (hst : st0 = As.reverse ++ .ref b :: st) (hroom : (st.map fun v => v.category).sum ≤ 8) (hf : cells + rm.cells ≤ R.cells ∧ slots + rm.slots ≤ R.slots) (hdg : decode cc pc = .ok (.invokevirtual index, 3))
    (kx : ∀ (E : String) (h1 : mH), PX E h1 → (∀ a, hs a = none → h a ≠ none → h1 a = none) → zT z (cells + rm.cells) (slots + rm.slots) pc L st (mjoin h hs h1) E)
    (k : ∀ (r : Int64) (h1 : mH), post r h1 → (∀ a, hs a = none → h a ≠ none → h1 a = none) → zM z (cells + rm.cells) (slots + rm.slots) (pc + 3) L (.long r :: st) (mjoin h hs h1)) : zM z cells slots pc L st0 h := by
  subst hst
  obtain ⟨p, l1, e, R1, s, m, args, below, meth, c, D1, A0, H0, nL1, Q⟩ := z
  obtain ⟨e1, e2, e3, e4, e5, X⟩ := X
  subst e1 e2 e3 e4
  intro H locs ls hR hA hS hL
  have hq1 : ∀ q, q < H.size → mA hs H.size q → A0 q := fun q hq hz => by
    rcases hz with ⟨x, hx⟩ | hz
    · exact hA q x (hsub q x hx)
    · exact absurd hq (Nat.not_lt.mpr hz)
  have hq2 : ∀ q, mA hs H.size q → A0 q := fun q hz => by
    rcases hz with ⟨x, hx⟩ | hz
    · exact hA q x (hsub q x hx)
    · exact X.2.2.2.2.2.2.1 q (Nat.le_trans hS.1 hz)
  obtain ⟨q0, hq0⟩ := mR_get hR hb
  refine vx_calll (vx_runV (As := As) (rest := st) ⟨X.1, X.2.1, X.2.2.2.2.1, X.2.2.2.1, X.2.2.1⟩ (hM H.size) ⟨mcB X.2.2.1 hc hl hRm, X.2.2.1 _ hw2, X.2.2.1 _ hw3⟩ ⟨mPre_blind, va_recv (q0 := q0) X.2.2.2.2.2.1 (mR_P hR) hcl hq0, fun U hU hW => ⟨rfl, by rw [hU], by rw [hU]; exact fun a x hx => hR a x (hsub a x hx), va_K.moved hW.alike X.2.2.2.2.2.1, mNG.warm hW e5.2.1, mST.call e5.2.2 hU hW hS hA hsub X.2.2.2.2.2.2.1⟩⟩ rfl hn hL.1 rfl (lv_room hroom) hdg hf) hS hq1 hq2 hq1 (fun E ce q9 u t H1 locs1 ht hvm _ hB hz1 hk1 hS1 hq9 hv9 hc9 => ?_) (fun r u t H1 locs1 ht hvm hw hB hz1 hk1 hS1 => ?_)
  · have hk2 := kx E u hB.1 (hnew_of hR hB.2.2)
    exact hk2 H1 locs1 ls q9 ce (mjoin_R hR (by rw [← ht]; exact hB.2.1) hk1) (mjoin_dom (H0 := H0) (H := H) hA hsub X.2.2.2.2.2.2.1 hS.1 hB.2.2) hS1 hL hq9 hv9 hc9
  · have hk2 := k r u hw (hnew_of hR hB.2)
    exact hk2 H1 locs1 ls (mjoin_R hR (by rw [← ht]; exact hB.1) hk1) (mjoin_dom (H0 := H0) (H := H) hA hsub X.2.2.2.2.2.2.1 hS.1 hB.2) hS1 hL
theorem zi_callViG (X : zX z l D cc own tys nL ret R nm) {y : MethodName} {bytes : ByteArray} {maxL n index : Nat} {ty : FieldType} {rm : Room} {As : List Value} {hs : mH} {b : Nat} {ci N : Nat} {fs : List Value} {T : u_T} {post : Int32 → mH → Prop} {st0 : List Value} (hM : mCi l y bytes maxL ty rm D tys (.ref b :: As) hs post) (hc : mCal y bytes maxL (some ty) n) (hl : Cond.methodLink own index y ∈ mAll) (hb : h b = some (.inr (ci, fs))) (hcl : vwCl[ci]? = some (y.cls, T, N)) (hw2 : Cond.instanceMethod y ∈ mAll) (hw3 : Cond.selects y.cls y y ∈ mAll) (hsub : ∀ a e, hs a = some e → h a = some e) (hRm : rm.frames + 1 ≤ R.frames ∧ 8 + (maxL + 11) + rm.locals ≤ R.locals) (hn : As.length = n) (hst : st0 = As.reverse ++ .ref b :: st) (hroom : (st.map fun v => v.category).sum ≤ 8) (hf : cells + rm.cells ≤ R.cells ∧ slots + rm.slots ≤ R.slots) (hdg : decode cc pc = .ok (.invokevirtual index, 3))
    (k : ∀ (r : Int32) (h1 : mH), post r h1 → (∀ a, hs a = none → h a ≠ none → h1 a = none) → zM z (cells + rm.cells) (slots + rm.slots) (pc + 3) L (.int r :: st) (mjoin h hs h1)) : zM z cells slots pc L st0 h := by
  subst hst
  obtain ⟨p, l1, e, R1, s, m, args, below, meth, c, D1, A0, H0, nL1, Q⟩ := z
  obtain ⟨e1, e2, e3, e4, e5, X⟩ := X
  subst e1 e2 e3 e4
  intro H locs ls hR hA hS hL
  obtain ⟨q0, hq0⟩ := mR_get hR hb
  refine va_calli (va_runV (As := As) (rest := st) ⟨X.1, X.2.1, X.2.2.2.2.1, X.2.2.2.1, X.2.2.1⟩ (hM H.size) ⟨mcB X.2.2.1 hc hl hRm, X.2.2.1 _ hw2, X.2.2.1 _ hw3⟩ ⟨mPre_blind, va_recv (q0 := q0) X.2.2.2.2.2.1 (mR_P hR) hcl hq0, fun U hU hW => ⟨rfl, by rw [hU], by rw [hU]; exact fun a x hx => hR a x (hsub a x hx), va_K.moved hW.alike X.2.2.2.2.2.1, mNG.warm hW e5.2.1, mST.call e5.2.2 hU hW hS hA hsub X.2.2.2.2.2.2.1⟩⟩ rfl hn hL.1 rfl (lv_room hroom) hdg hf) hS (fun q hq hz => ?_) (fun q hz => ?_) (fun r u t H1 locs1 ht hvm hw hB hz1 hk1 hS1 => ?_)
  · rcases hz with ⟨x, hx⟩ | hz
    · exact hA q x (hsub q x hx)
    · exact absurd hq (Nat.not_lt.mpr hz)
  · rcases hz with ⟨x, hx⟩ | hz
    · exact hA q x (hsub q x hx)
    · exact X.2.2.2.2.2.2.1 q (Nat.le_trans hS.1 hz)
  · have hk2 := k r u hw (hnew_of hR hB.2)
    exact hk2 H1 locs1 ls (mjoin_R hR (by rw [← ht]; exact hB.1) hk1) (mjoin_dom (H0 := H0) (H := H) hA hsub X.2.2.2.2.2.2.1 hS.1 hB.2) hS1 hL
theorem zi_callVlG (X : zX z l D cc own tys nL ret R nm) {y : MethodName} {bytes : ByteArray} {maxL n index : Nat} {rm : Room} {As : List Value} {hs : mH} {b : Nat} {ci N : Nat} {fs : List Value} {T : u_T} {post : Int64 → mH → Prop} {st0 : List Value} (hM : mCl l y bytes maxL rm D tys (.ref b :: As) hs post) (hc : mCal y bytes maxL (some .long) n) (hl : Cond.methodLink own index y ∈ mAll) (hb : h b = some (.inr (ci, fs))) (hcl : vwCl[ci]? = some (y.cls, T, N)) (hw2 : Cond.instanceMethod y ∈ mAll) (hw3 : Cond.selects y.cls y y ∈ mAll) (hsub : ∀ a e, hs a = some e → h a = some e) (hRm : rm.frames + 1 ≤ R.frames ∧ 8 + (maxL + 11) + rm.locals ≤ R.locals) (hn : As.length = n) (hst : st0 = As.reverse ++ .ref b :: st) (hroom : (st.map fun v => v.category).sum ≤ 8) (hf : cells + rm.cells ≤ R.cells ∧ slots + rm.slots ≤ R.slots) (hdg : decode cc pc = .ok (.invokevirtual index, 3))
    (k : ∀ (r : Int64) (h1 : mH), post r h1 → (∀ a, hs a = none → h a ≠ none → h1 a = none) → zM z (cells + rm.cells) (slots + rm.slots) (pc + 3) L (.long r :: st) (mjoin h hs h1)) : zM z cells slots pc L st0 h := by
  subst hst
  obtain ⟨p, l1, e, R1, s, m, args, below, meth, c, D1, A0, H0, nL1, Q⟩ := z
  obtain ⟨e1, e2, e3, e4, e5, X⟩ := X
  subst e1 e2 e3 e4
  intro H locs ls hR hA hS hL
  obtain ⟨q0, hq0⟩ := mR_get hR hb
  refine va_calll (va_runV (As := As) (rest := st) ⟨X.1, X.2.1, X.2.2.2.2.1, X.2.2.2.1, X.2.2.1⟩ (hM H.size) ⟨mcB X.2.2.1 hc hl hRm, X.2.2.1 _ hw2, X.2.2.1 _ hw3⟩ ⟨mPre_blind, va_recv (q0 := q0) X.2.2.2.2.2.1 (mR_P hR) hcl hq0, fun U hU hW => ⟨rfl, by rw [hU], by rw [hU]; exact fun a x hx => hR a x (hsub a x hx), va_K.moved hW.alike X.2.2.2.2.2.1, mNG.warm hW e5.2.1, mST.call e5.2.2 hU hW hS hA hsub X.2.2.2.2.2.2.1⟩⟩ rfl hn hL.1 rfl (lv_room hroom) hdg hf) hS (fun q hq hz => ?_) (fun q hz => ?_) (fun r u t H1 locs1 ht hvm hw hB hz1 hk1 hS1 => ?_)
  · rcases hz with ⟨x, hx⟩ | hz
    · exact hA q x (hsub q x hx)
    · exact absurd hq (Nat.not_lt.mpr hz)
  · rcases hz with ⟨x, hx⟩ | hz
    · exact hA q x (hsub q x hx)
    · exact X.2.2.2.2.2.2.1 q (Nat.le_trans hS.1 hz)
  · have hk2 := k r u hw (hnew_of hR hB.2)
    exact hk2 H1 locs1 ls (mjoin_R hR (by rw [← ht]; exact hB.1) hk1) (mjoin_dom (H0 := H0) (H := H) hA hsub X.2.2.2.2.2.2.1 hS.1 hB.2) hS1 hL
/-- a method with a table -/
abbrev mHT : Type := List (Nat × Nat × Nat × Nat)
def mWH (y : MethodName) (bytes : ByteArray) (maxL : Nat) (ret : Option FieldType) (hh : mHT) : List Cond := Cond.codeWith y bytes maxL ret hh :: mAll
def mCh (l : Launch) (y : MethodName) (bytes : ByteArray) (maxL : Nat) (ret : Option FieldType) (hh : mHT) (rm : Room) (D : va_G) (tys : List (ClassId × FieldType)) (av : List Value) (hs : mH) (F : mQF) : Prop := ∀ sz, vx_Met l y (mWH y bytes maxL ret hh) rm (mPre D tys hs sz av) (F D sz) (mXC (fun _ _ => False) D hs sz) rm.cells rm.slots (mA hs sz)
def zVh (z : mZ) (h0 : mH) (F : mQF) (hh : mHT) (mc ms : Nat) : Prop := match z with
  | (_, _, _, _, s, _, args, below, _, c, D, A0, H0, _, Q) => A0 = mA h0 s.heap.size ∧ H0 = s.heap ∧ c.exceptionTable.toList = tableOf hh ∧ Q = vx_MQ below (F D s.heap.size) (mXC (fun _ _ => False) D h0 s.heap.size) args s mc ms (mA h0 s.heap.size)
theorem mEnter_h {l : Launch} {y : MethodName} {bytes : ByteArray} {maxL : Nat} {ret : Option FieldType} {hh : mHT} {rm : Room} {D : va_G} {tys : List (ClassId × FieldType)} {av : List Value} {hs : mH} {F : mQF} (hy : plainName y.cls = true) (hlen : (lg_sl av).length ≤ maxL) {L : List (Option Value)} (hL : mEnt av ++ List.replicate (maxL - (mEnt av).length) none = L)
    (body : ∀ z : mZ, zX z l D bytes y.cls tys maxL ret rm y.name → zVh z hs F hh rm.cells rm.slots → zM z 0 0 0 L [] hs) : mCh l y bytes maxL ret hh rm D tys av hs F := by
  intro sz
  refine vx_ofWH (cc := bytes) (maxL := maxL) (ret := ret) (hh := hh) hy rfl ?_
  intro p e s m args below meth c s₁ B hml hv
  obtain ⟨rfl, hsz, hR, hK, hN, hT⟩ := hv
  subst hsz
  have hts := atoms_spec (ws := mWH y bytes maxL ret hh) B.pre
  have htab := vx_table (x := y) B (hts _ List.mem_cons_self)
  have hl := lv_entry av (n := maxL) hlen
  rw [lg_entry_eq]
  generalize (lg_sl av ++ List.replicate (maxL - (lg_sl av).length) Slot.unset).toArray = ls at hl ⊢
  exact body (p, l, e, rm, s, m, _, below, meth, c, D, mA hs s.heap.size, s.heap, maxL, _) ⟨rfl, rfl, rfl, rfl, ⟨(name_of_methodNamed B.named B.method).1, hN, rfl, hT⟩, ⟨B.exec, B.bytes, fun w hw => hts w (List.mem_cons_of_mem _ hw), findClass_of_methodNamed B.named, hml, hK, fun q hq => Or.inr hq, B.notSynchronized, B.returns⟩⟩ ⟨rfl, rfl, htab, rfl⟩ s.heap [] ls hR (fun a e he => Or.inl ⟨e, he⟩) va_S.rf (mL_ent hl hL)
theorem zi_hireturn {hh : mHT} {post : Int32 → mH → Prop} {v : Int32} (X : zX z l D cc own tys nL (some .int) R nm) (V : zVh z h0 (mFi h0 post) hh cells slots) (hdg : decode cc pc = .ok (.ireturn, 1)) (hp : post v h) : zM z cells slots pc L [.int v] h := by
  obtain ⟨p, l1, e, R1, s, m, args, below, meth, c, D1, A0, H0, nL1, Q⟩ := z
  obtain ⟨e1, e2, e3, e4, e5, X⟩ := X
  obtain ⟨e6, e7, e9, e8⟩ := V
  subst e1 e2 e3 e4 e6 e7 e8
  intro H locs ls hR hA hS hL
  exact vx_ret (W.iret X.1 X.2.1 X.2.2.2.2.2.2.2.2 (fun t ht hW => ⟨⟨v, h, rfl, hp, by rw [ht]; exact hR, hA⟩, hS.F ht⟩) hS.2.2 hdg (hlocks := X.2.2.2.2.2.2.2.1))
/-- caught: the rows ahead are of classes that the thrown one cannot be cast to -/
theorem zt_catch {hh : mHT} {F : mQF} {mc ms : Nat} {E : String} (X : zX z l D cc own tys nL ret R nm) (V : zVh z h0 F hh mc ms) (pre : mHT) (x : Nat × Nat × Nat × Nat) (suf : mHT) (hsplit : hh = pre ++ x :: suf) (hpass : ∀ q ∈ pre, q.2.2.2 ≠ 0 ∧ ∃ k, k ∈ mXs ∧ Cond.classLink own q.2.2.2 k ∈ mAll ∧ E ≠ k) (hE : E ∈ mXs) (hx : x.1 ≤ pc ∧ pc < x.2.1) (h0x : x.2.2.2 ≠ 0) (hlink : Cond.classLink own x.2.2.2 E ∈ mAll) (hcast : Cond.castable E E ∈ mBad)
    (k : ∀ q, zM z cells slots x.2.2.1 L [.ref q] h) : zT z cells slots pc L st h E := by
  obtain ⟨p, l1, e, R1, s, m, args, below, meth, c, D1, A0, H0, nL1, Q⟩ := z
  obtain ⟨e1, e2, e3, e4, e5, X⟩ := X
  obtain ⟨e6, e7, e9, e8⟩ := V
  subst e1 e2 e3 e4 e6 e7 e8
  intro H locs ls q ce hR hA hS hL hq hv hcl
  have hmap : c.exceptionTable.toList = tableOf pre ++ (⟨x.1, x.2.1, x.2.2.1, x.2.2.2⟩ : ExceptionTableEntry) :: tableOf suf := by
    rw [e9, hsplit]
    unfold tableOf
    rw [List.map_append, List.map_cons]
  refine vx_catch (name := E) X.2.2.2.1 (tableOf pre) ⟨x.1, x.2.1, x.2.2.1, x.2.2.2⟩ (tableOf suf) hmap (fun w hw => ?_) ?_ h0x (X.2.2.1 _ hlink) (e5.2.1 _ hcast) hq hv hcl (k q H locs ls hR hA hS hL)
  · obtain ⟨y, hy, rfl⟩ := List.mem_map.mp hw
    obtain ⟨p1, k1, k2, k3, k4⟩ := hpass y hy
    exact Or.inr ⟨p1, k1, X.2.2.1 _ k3, e5.2.2.2.2.2.2.2.2.2.2.2.2 E hE k1 k2 k4⟩
  · simp [covers, hx.1, hx.2]
/-- a static call of such a method, of a part of the heap -/
def mCalH (y : MethodName) (bytes : ByteArray) (maxL : Nat) (ret : Option FieldType) (hh : mHT) (n : Nat) : Prop := Cond.initialized y.cls ∈ mAll ∧ Cond.codeWith y bytes maxL ret hh ∈ mAll ∧ (y.cls ≠ "java/lang/invoke/MethodHandle" ∧ y.cls ≠ "java/lang/invoke/VarHandle" ∧ (parseMethodDescriptor y.desc).map (fun d => d.parameters.length) = some n)
theorem zi_hcallSiF (X : zX z l D cc own tys nL ret R nm) {y : MethodName} {bytes : ByteArray} {maxL n index : Nat} {hh : mHT} {rm : Room} {As : List Value} {hs : mH} {post : Int32 → mH → Prop} {st0 : List Value} (hM : mCh l y bytes maxL (some .int) hh rm D tys As hs (mFi hs post)) (hc : mCalH y bytes maxL (some .int) hh n) (hl : Cond.methodLink own index y ∈ mAll) (hw2 : Cond.static y ∈ mAll) (hsub : ∀ a e, hs a = some e → h a = some e) (hRm : rm.frames + 1 ≤ R.frames ∧ 8 + (maxL + 11) + rm.locals ≤ R.locals) (hn : As.length = n) (hst : st0 = As.reverse ++ st) (hroom : (st.map fun v => v.category).sum ≤ 8) (hf : cells + rm.cells ≤ R.cells ∧ slots + rm.slots ≤ R.slots) (hdg : decode cc pc = .ok (.invokestatic index, 3))
    (k : ∀ (r : Int32) (h1 : mH), post r h1 → (∀ a, hs a = none → h a ≠ none → h1 a = none) → zM z (cells + rm.cells) (slots + rm.slots) (pc + 3) L (.int r :: st) (mjoin h hs h1)) : zM z cells slots pc L st0 h := by
  subst hst
  obtain ⟨p, l1, e, R1, s, m, args, below, meth, c, D1, A0, H0, nL1, Q⟩ := z
  obtain ⟨e1, e2, e3, e4, e5, X⟩ := X
  subst e1 e2 e3 e4
  intro H locs ls hR hA hS hL
  have hq1 : ∀ q, q < H.size → mA hs H.size q → A0 q := fun q hq hz => by
    rcases hz with ⟨x, hx⟩ | hz
    · exact hA q x (hsub q x hx)
    · exact absurd hq (Nat.not_lt.mpr hz)
  have hq2 : ∀ q, mA hs H.size q → A0 q := fun q hz => by
    rcases hz with ⟨x, hx⟩ | hz
    · exact hA q x (hsub q x hx)
    · exact X.2.2.2.2.2.2.1 q (Nat.le_trans hS.1 hz)
  have hG : GoodIn mAll (va_wsS own index y (mWH y bytes maxL (some .int) hh)) := by
    intro w hw
    have : w ∈ mAll := by
      unfold va_wsS at hw
      rcases List.mem_append.mp hw with hw | hw
      · rcases List.mem_cons.mp hw with rfl | hw
        · exact hl
        · rcases List.mem_cons.mp hw with rfl | hw
          · exact hw2
          · rw [List.mem_singleton] at hw
            rw [hw]
            exact hc.1
      · rcases List.mem_cons.mp hw with rfl | hw
        · exact hc.2.1
        · exact hw
    exact ⟨this, mAll_good this⟩
  refine vx_calli (vx_runSX (As := As) (rest := st) (hh := hh) ⟨X.1, X.2.1, X.2.2.2.2.1, X.2.2.2.1, X.2.2.1⟩ (hM H.size) (vx_cwSW n X.2.2.1 hG rfl rfl rfl hc.2.2 hRm) ⟨mPre_blind, fun U hU hW => ⟨rfl, by rw [hU], by rw [hU]; exact fun a x hx => hR a x (hsub a x hx), va_K.moved hW.alike X.2.2.2.2.2.1, mNG.warm hW e5.2.1, mST.call e5.2.2 hU hW hS hA hsub X.2.2.2.2.2.2.1⟩⟩ rfl hn hL.1 rfl (lv_room hroom) hdg hf) hS hq1 hq2 hq1 (fun E ce q9 u t H1 locs1 ht hvm _ hB hz1 hk1 hS1 hq9 hv9 hc9 => hB.1.elim) (fun r u t H1 locs1 ht hvm hw hB hz1 hk1 hS1 => ?_)
  have hk2 := k r u hw (hnew_of hR hB.2)
  exact hk2 H1 locs1 ls (mjoin_R hR (by rw [← ht]; exact hB.1) hk1) (mjoin_dom (H0 := H0) (H := H) hA hsub X.2.2.2.2.2.2.1 hS.1 hB.2) hS1 hL
end MHROWS
theorem wcc_eI : Cond.castable eI eI ∈ mBad := List.mem_filter.mpr ⟨(List.mem_append_right _ (List.mem_append_right _ (List.mem_append_left _ (List.mem_of_getElem? (l := tables_1_2) (i := 135) rfl)))), rfl⟩
theorem wcc_eA : Cond.castable eA eA ∈ mBad := List.mem_filter.mpr ⟨(List.mem_append_right _ (List.mem_append_right _ (List.mem_append_left _ (List.mem_of_getElem? (l := tables_1_2) (i := 152) rfl)))), rfl⟩
theorem wcc_eS : Cond.castable eS eS ∈ mBad := List.mem_filter.mpr ⟨(List.mem_append_right _ (List.mem_append_right _ (List.mem_append_left _ (List.mem_of_getElem? (l := tables_1_2) (i := 214) rfl)))), rfl⟩
theorem wcc_eM : Cond.castable eM eM ∈ mBad := List.mem_filter.mpr ⟨(List.mem_append_right _ (List.mem_append_right _ (List.mem_append_right _ (List.mem_append_left _ (List.mem_of_getElem? (l := tables_1_3) (i := 192) rfl))))), rfl⟩
theorem wcc_eN : Cond.castable eN eN ∈ mBad := List.mem_filter.mpr ⟨(List.mem_append_right _ (List.mem_append_right _ (List.mem_append_right _ (List.mem_append_right _ (List.mem_append_left _ (List.mem_of_getElem? (l := tables_1_4) (i := 18) rfl)))))), rfl⟩
