/-! METHODS THAT MAY THROW: contracts, entries, ends, calls; the thrown object's class and the heap it leaves -/
abbrev mQF : Type := va_G → Nat → Array Value → State → Outcome → State → Prop
def mFv (h0 : mH) (post : mH → Prop) : mQF := fun D sz => va_Qv post (mB D h0 sz) (mA h0 sz)
def mFi (h0 : mH) (post : Int32 → mH → Prop) : mQF := fun D sz => va_Qi post (mB D h0 sz) (mA h0 sz)
def mFl (h0 : mH) (post : Int64 → mH → Prop) : mQF := fun D sz => va_Ql post (mB D h0 sz) (mA h0 sz)
def mXC (P : String → mH → Prop) (D : va_G) (hs : mH) (sz : Nat) : String → State → State → Prop := vx_X (S := mH) (fun _ => True) (fun E u t => P E u ∧ mB D hs sz u t) (mA hs sz)
def mCx (l : Launch) (y : MethodName) (bytes : ByteArray) (maxL : Nat) (ret : Option FieldType) (rm : Room) (D : va_G) (tys : List (ClassId × FieldType)) (av : List Value) (hs : mH) (F : mQF) (P : String → mH → Prop) : Prop := ∀ sz, vx_Met l y (mW y bytes maxL ret) rm (mPre D tys hs sz av) (F D sz) (mXC P D hs sz) rm.cells rm.slots (mA hs sz)
def zVx (z : mZ) (h0 : mH) (F : mQF) (P : String → mH → Prop) (mc ms : Nat) : Prop := match z with
  | (_, _, _, _, s, _, args, below, _, c, D, A0, H0, _, Q) => A0 = mA h0 s.heap.size ∧ H0 = s.heap ∧ (∀ x ∈ c.exceptionTable.toList, False) ∧ Q = vx_MQ below (F D s.heap.size) (mXC P D h0 s.heap.size) args s mc ms (mA h0 s.heap.size)
/-- an object of the class E has been thrown in this frame -/
def zT (z : mZ) (cells slots pc : Nat) (L : List (Option Value)) (st : List Value) (h : mH) (E : String) : Prop := match z with
  | (p, l, e, R, s, m, args, below, meth, c, D, A0, H0, nL, Q) => ∀ (H : Heap) (locs : List Loc) (ls : Array Slot) (q : Addr) (ce : Cell), mR D h H → (∀ a e, h a = some e → A0 a) → va_S A0 H0 H locs → mL ls nL L → H[q]? = some ce → ce.vm = .none → s.vm.findClass E = some ce.cls → vx_W p l e R s m args below meth c H locs cells slots Q (F0 m pc ls st) q
theorem mEnter_x {l : Launch} {y : MethodName} {bytes : ByteArray} {maxL : Nat} {ret : Option FieldType} {rm : Room} {D : va_G} {tys : List (ClassId × FieldType)} {av : List Value} {hs : mH} {F : mQF} {P : String → mH → Prop} (hy : plainName y.cls = true) (hlen : (lg_sl av).length ≤ maxL) {L : List (Option Value)} (hL : mEnt av ++ List.replicate (maxL - (mEnt av).length) none = L)
    (body : ∀ z : mZ, zX z l D bytes y.cls tys maxL ret rm y.name → zVx z hs F P rm.cells rm.slots → zM z 0 0 0 L [] hs) : mCx l y bytes maxL ret rm D tys av hs F P := by
  intro sz
  refine vx_ofW (cc := bytes) (maxL := maxL) (ret := ret) hy rfl ?_
  intro p e s m args below meth c s₁ B hml htab hv
  obtain ⟨rfl, hsz, hR, hK, hN, hT⟩ := hv
  subst hsz
  have hts := atoms_spec (ws := mW y bytes maxL ret) B.pre
  have hl := lv_entry av (n := maxL) hlen
  rw [lg_entry_eq]
  generalize (lg_sl av ++ List.replicate (maxL - (lg_sl av).length) Slot.unset).toArray = ls at hl ⊢
  exact body (p, l, e, rm, s, m, _, below, meth, c, D, mA hs s.heap.size, s.heap, maxL, _) ⟨rfl, rfl, rfl, rfl, ⟨(name_of_methodNamed B.named B.method).1, hN, rfl, hT⟩, ⟨B.exec, B.bytes, fun w hw => hts w (List.mem_cons_of_mem _ hw), findClass_of_methodNamed B.named, hml, hK, fun q hq => Or.inr hq, B.notSynchronized, B.returns⟩⟩ ⟨rfl, rfl, htab, rfl⟩ s.heap [] ls hR (fun a e he => Or.inl ⟨e, he⟩) va_S.rf (mL_ent hl hL)
section MXROWS
variable {z : mZ} {l : Launch} {R : Room} {D : va_G} {nL : Nat} {cells slots : Nat}
variable {cc : ByteArray} {own nm : String} {tys : List (ClassId × FieldType)} {ret : Option FieldType} {pc : Nat} {L : List (Option Value)} {st : List Value} {h h0 : mH} {P : String → mH → Prop}
theorem zi_xreturn {post : mH → Prop}  (X : zX z l D cc own tys nL none R nm) (V : zVx z h0 (mFv h0 post) P cells slots) (hdg : decode cc pc = .ok (.return_, 1)) (hp : post h) : zM z cells slots pc L [] h := by
  obtain ⟨p, l1, e, R1, s, m, args, below, meth, c, D1, A0, H0, nL1, Q⟩ := z
  obtain ⟨e1, e2, e3, e4, e5, X⟩ := X
  obtain ⟨e6, e7, e9, e8⟩ := V
  subst e1 e2 e3 e4 e6 e7 e8
  intro H locs ls hR hA hS hL
  exact vx_ret (W.vret X.1 X.2.1 X.2.2.2.2.2.2.2.2 (fun t ht hW => ⟨⟨h, rfl, hp, by rw [ht]; exact hR, hA⟩, hS.F ht⟩) hS.2.2 hdg (hlocks := X.2.2.2.2.2.2.2.1))
theorem zi_xireturn {post : Int32 → mH → Prop} {v : Int32} (X : zX z l D cc own tys nL (some .int) R nm) (V : zVx z h0 (mFi h0 post) P cells slots) (hdg : decode cc pc = .ok (.ireturn, 1)) (hp : post v h) : zM z cells slots pc L [.int v] h := by
  obtain ⟨p, l1, e, R1, s, m, args, below, meth, c, D1, A0, H0, nL1, Q⟩ := z
  obtain ⟨e1, e2, e3, e4, e5, X⟩ := X
  obtain ⟨e6, e7, e9, e8⟩ := V
  subst e1 e2 e3 e4 e6 e7 e8
  intro H locs ls hR hA hS hL
  exact vx_ret (W.iret X.1 X.2.1 X.2.2.2.2.2.2.2.2 (fun t ht hW => ⟨⟨v, h, rfl, hp, by rw [ht]; exact hR, hA⟩, hS.F ht⟩) hS.2.2 hdg (hlocks := X.2.2.2.2.2.2.2.1))
theorem zi_xzreturn {post : Int32 → mH → Prop} {v : Int32} {ty : FieldType} (X : zX z l D cc own tys nL (some ty) R nm) (V : zVx z h0 (mFi h0 post) P cells slots) (hn : narrow ty (.int v) = .int v) (hdg : decode cc pc = .ok (.ireturn, 1)) (hp : post v h) : zM z cells slots pc L [.int v] h := by
  obtain ⟨p, l1, e, R1, s, m, args, below, meth, c, D1, A0, H0, nL1, Q⟩ := z
  obtain ⟨e1, e2, e3, e4, e5, X⟩ := X
  obtain ⟨e6, e7, e9, e8⟩ := V
  subst e1 e2 e3 e4 e6 e7 e8
  intro H locs ls hR hA hS hL
  exact vx_ret (W.zret X.1 X.2.1 X.2.2.2.2.2.2.2.2 hn (fun t ht hW => ⟨⟨v, h, rfl, hp, by rw [ht]; exact hR, hA⟩, hS.F ht⟩) hS.2.2 hdg (hlocks := X.2.2.2.2.2.2.2.1))
theorem zi_xlreturn {post : Int64 → mH → Prop} {v : Int64} (X : zX z l D cc own tys nL (some .long) R nm) (V : zVx z h0 (mFl h0 post) P cells slots) (hdg : decode cc pc = .ok (.lreturn, 1)) (hp : post v h) : zM z cells slots pc L [.long v] h := by
  obtain ⟨p, l1, e, R1, s, m, args, below, meth, c, D1, A0, H0, nL1, Q⟩ := z
  obtain ⟨e1, e2, e3, e4, e5, X⟩ := X
  obtain ⟨e6, e7, e9, e8⟩ := V
  subst e1 e2 e3 e4 e6 e7 e8
  intro H locs ls hR hA hS hL
  exact vx_ret (W.lret X.1 X.2.1 X.2.2.2.2.2.2.2.2 (fun t ht hW => ⟨⟨v, h, rfl, hp, by rw [ht]; exact hR, hA⟩, hS.F ht⟩) hS.2.2 hdg (hlocks := X.2.2.2.2.2.2.2.1))
/-- not caught here: on to the caller -/
theorem zt_out {F : mQF} {mc ms : Nat} {E : String} (X : zX z l D cc own tys nL ret R nm) (V : zVx z h0 F P mc ms) (hp : P E h) (hc : cells ≤ mc) (hs : slots ≤ ms) : zT z cells slots pc L st h E := by
  obtain ⟨p, l1, e, R1, s, m, args, below, meth, c, D1, A0, H0, nL1, Q⟩ := z
  obtain ⟨e1, e2, e3, e4, e5, X⟩ := X
  obtain ⟨e6, e7, e9, e8⟩ := V
  subst e1 e2 e3 e4 e6 e7 e8
  intro H locs ls q ce hR hA hS hL hq hv hcl
  exact vx_out (fun x hx => (e9 x hx).elim) X.2.2.2.2.2.2.2.1 hq hv hcl (fun t ht _ => ⟨h, trivial, ⟨hp, by rw [ht]; exact hR, hA⟩, hS.F ht⟩) hS.2.2 hc hs
theorem mXw {W0 : List Cond} {args : Array Value} {s : State} (h1 : W0.all (fun w => lw_tbl.contains w) = true) (h2 : W0.all (fun w => goodWord w || mBadK w) = true) (hw : ∀ w ∈ mAll, w.before args s = true) (hb : mNG s) : ∀ w ∈ W0, w.before args s = true := by
  intro w h
  have a1 : w ∈ lw_tbl := by simpa using List.all_eq_true.mp h1 w h
  have a2 := List.all_eq_true.mp h2 w h
  by_cases g : goodWord w = true
  · exact hw w (mAll_of a1 g)
  · have a3 : mBadK w = true := by simpa [g] using a2
    have a4 : w.before #[] s = true := hb w (List.mem_filter.mpr ⟨a1, a3⟩)
    cases w with
    | arrayOver ty =>
      simp only [Cond.before, Cond.holds, Cond.value] at a4 ⊢
      exact a4
    | methodLinkNest a i x g => exact va_any rfl a4
    | declares x => exact va_any rfl a4
    | castable C T => exact va_any rfl a4
    | _ => exact absurd a3 (by simp [mBadK])
def mXn : List String := ["java/lang/RuntimeException", "java/lang/Exception"]
/-- what a throw of cls needs of the tables -/
def mXok (own : String) (ik ic : Nat) (cls : String) : Prop := Cond.classLink own ik cls ∈ mAll ∧ Cond.initialized cls ∈ mAll ∧ (vx_atS own ic cls mXn).all (fun w => lw_tbl.contains w) = true ∧ (vx_atS own ic cls mXn).all (fun w => goodWord w || mBadK w) = true ∧ (∀ w ∈ Cond.classLink own ik cls :: Cond.initialized cls :: vx_atS own ic cls mXn, vx_ot w = true) ∧ Bundle.fit cls = true
theorem mStr_of {own : String} {is : Nat} {U : State} {D : va_G} {A : Nat → Prop} {H : Heap} (h : mST D A U H) (hi : mStrs.any (fun q => q.1 == own && q.2.1 == is) = true) : ∃ tx sa, vk_R own is tx sa U := by
  obtain ⟨q, hq, h1⟩ := List.any_eq_true.mp hi
  simp only [Bool.and_eq_true, beq_iff_eq] at h1
  obtain ⟨sa, h2⟩ := h.2.2.2.2.2.2.2.2.1 q hq
  rw [h1.1, h1.2] at h2
  exact ⟨_, sa, h2⟩
theorem zi_throwS (hl : l.stackTraces = false) {F : mQF} {mc ms ik ic is : Nat} {cls : String} (X : zX z l D cc own tys nL ret R nm) (V : zVx z h0 F P mc ms) (ok : mXok own ik ic cls) (hi : mStrs.any (fun q => q.1 == own && q.2.1 == is) = true)
    (d0 : decode cc pc = .ok (.new ik, 3)) (d3 : decode cc (pc + 3) = .ok (.dup, 1)) (d4 : decode cc (pc + 4) = .ok (.ldc is, 2)) (d6 : decode cc (pc + 6) = .ok (.invokespecial ic, 3)) (d9 : decode cc (pc + 9) = .ok (.athrow, 1))
    (hRf : 5 < R.frames) (hRl : (st.map fun v => v.category).sum + 82 ≤ R.locals) (hRc : cells + 1 ≤ R.cells) (hRs : slots + 6 ≤ R.slots) (hc : cells + 1 ≤ mc) (hs : slots + 6 ≤ ms) (hp : P cls h) : zM z cells slots pc L st h := by
  obtain ⟨p, l1, e, R1, s, m, args, below, meth, c, D1, A0, H0, nL1, Q⟩ := z
  obtain ⟨e1, e2, e3, e4, e5, X⟩ := X
  obtain ⟨e6, e7, e9, e8⟩ := V
  subst e1 e2 e3 e4 e6 e7 e8
  intro H locs ls hR hA hS hL
  obtain ⟨tx, sa, hstr⟩ := mStr_of e5.2.2.2 hi
  exact vx_throwS (names := mXn) X.1 X.2.1 hl X.2.2.2.1 ok.2.2.2.2.2 (by decide) (X.2.2.1 _ ok.1) (X.2.2.1 _ ok.2.1) hstr (mXw ok.2.2.1 ok.2.2.2.1 X.2.2.1 e5.2.1) ok.2.2.2.2.1 e5.2.2.2.1 e5.2.2.2.2.1 hS (hL.1.trans X.2.2.2.2.1.symm) d0 d3 d4 d6 d9 (fun x hx => (e9 x hx).elim) hRf hRl hRc hRs X.2.2.2.2.2.2.2.1 (fun t _ hz hk => ⟨h, trivial, ⟨hp, fun a e he => (hR a e he).kept (hk a (hR a e he).lt), hA⟩, Nat.le_trans hS.1 hz, fun q hq hn => (hk q (Nat.lt_of_lt_of_le hq hS.1)).trans (hS.2.1 q hq hn)⟩) hS.2.2 hc hs
theorem zi_throwSW (hl : l.stackTraces = false) {F : mQF} {mc ms ik ic is : Nat} {cls : String} (X : zX z l D cc own tys nL ret R nm) (V : zVx z h0 F P mc ms) (ok : mXok own ik ic cls) (hi : mStrs.any (fun q => q.1 == own && q.2.1 == is) = true)
    (d0 : decode cc pc = .ok (.new ik, 3)) (d3 : decode cc (pc + 3) = .ok (.dup, 1)) (d4 : decode cc (pc + 4) = .ok (.ldc_w is, 3)) (d7 : decode cc (pc + 7) = .ok (.invokespecial ic, 3)) (d10 : decode cc (pc + 10) = .ok (.athrow, 1))
    (hRf : 5 < R.frames) (hRl : (st.map fun v => v.category).sum + 82 ≤ R.locals) (hRc : cells + 1 ≤ R.cells) (hRs : slots + 6 ≤ R.slots) (hc : cells + 1 ≤ mc) (hs : slots + 6 ≤ ms) (hp : P cls h) : zM z cells slots pc L st h := by
  obtain ⟨p, l1, e, R1, s, m, args, below, meth, c, D1, A0, H0, nL1, Q⟩ := z
  obtain ⟨e1, e2, e3, e4, e5, X⟩ := X
  obtain ⟨e6, e7, e9, e8⟩ := V
  subst e1 e2 e3 e4 e6 e7 e8
  intro H locs ls hR hA hS hL
  obtain ⟨tx, sa, hstr⟩ := mStr_of e5.2.2.2 hi
  exact vx_throwSW (names := mXn) X.1 X.2.1 hl X.2.2.2.1 ok.2.2.2.2.2 (by decide) (X.2.2.1 _ ok.1) (X.2.2.1 _ ok.2.1) hstr (mXw ok.2.2.1 ok.2.2.2.1 X.2.2.1 e5.2.1) ok.2.2.2.2.1 e5.2.2.2.1 e5.2.2.2.2.1 hS (hL.1.trans X.2.2.2.2.1.symm) d0 d3 d4 d7 d10 (fun x hx => (e9 x hx).elim) hRf hRl hRc hRs X.2.2.2.2.2.2.2.1 (fun t _ hz hk => ⟨h, trivial, ⟨hp, fun a e he => (hR a e he).kept (hk a (hR a e he).lt), hA⟩, Nat.le_trans hS.1 hz, fun q hq hn => (hk q (Nat.lt_of_lt_of_le hq hS.1)).trans (hS.2.1 q hq hn)⟩) hS.2.2 hc hs
theorem zi_xcallVv (X : zX z l D cc own tys nL ret R nm) {y : MethodName} {bytes : ByteArray} {maxL n index : Nat} {rm : Room} {As : List Value} {b : Nat} {ci N : Nat} {fs : List Value} {T : u_T} {post : mH → Prop} {PX : String → mH → Prop} {st0 : List Value} (hM : mCx l y bytes maxL none rm D tys (.ref b :: As) h (mFv h post) PX) (hc : mCal y bytes maxL none n) (hl : Cond.methodLink own index y ∈ mAll) (hb : h b = some (.inr (ci, fs))) (hcl : vwCl[ci]? = some (y.cls, T, N)) (hw2 : Cond.instanceMethod y ∈ mAll) (hw3 : Cond.selects y.cls y y ∈ mAll) (hRm : rm.frames + 1 ≤ R.frames ∧ 8 + (maxL + 11) + rm.locals ≤ R.locals) (hn : As.length = n) (hst : st0 = As.reverse ++ .ref b :: st) (hroom : (st.map fun v => v.category).sum ≤ 8) (hf : cells + rm.cells ≤ R.cells ∧ slots + rm.slots ≤ R.slots) (hdg : decode cc pc = .ok (.invokevirtual index, 3))
    (kx : ∀ (E : String) (h1 : mH), PX E h1 → zT z (cells + rm.cells) (slots + rm.slots) pc L st h1 E)
    (k : ∀ (h1 : mH), post h1 → zM z (cells + rm.cells) (slots + rm.slots) (pc + 3) L st h1) : zM z cells slots pc L st0 h := by
  subst hst
  obtain ⟨p, l1, e, R1, s, m, args, below, meth, c, D1, A0, H0, nL1, Q⟩ := z
  obtain ⟨e1, e2, e3, e4, e5, X⟩ := X
  subst e1 e2 e3 e4
  intro H locs ls hR hA hS hL
  have hq1 : ∀ q, q < H.size → mA h H.size q → A0 q := fun q hq hz => by
    rcases hz with ⟨x, hx⟩ | hz
    · exact hA q x hx
    · exact absurd hq (Nat.not_lt.mpr hz)
  have hq2 : ∀ q, mA h H.size q → A0 q := fun q hz => by
    rcases hz with ⟨x, hx⟩ | hz
    · exact hA q x hx
    · exact X.2.2.2.2.2.2.1 q (Nat.le_trans hS.1 hz)
  obtain ⟨q0, hq0⟩ := mR_get hR hb
  refine vx_callv (vx_runV (As := As) (rest := st) ⟨X.1, X.2.1, X.2.2.2.2.1, X.2.2.2.1, X.2.2.1⟩ (hM H.size) ⟨mcB X.2.2.1 hc hl hRm, X.2.2.1 _ hw2, X.2.2.1 _ hw3⟩ ⟨mPre_blind, va_recv (q0 := q0) X.2.2.2.2.2.1 (mR_P hR) hcl hq0, fun U hU hW => ⟨rfl, by rw [hU], by rw [hU]; exact hR, va_K.moved hW.alike X.2.2.2.2.2.1, mNG.warm hW e5.2.1, mST.call e5.2.2 hU hW hS hA (fun _ _ z => z) X.2.2.2.2.2.2.1⟩⟩ rfl hn hL.1 rfl (lv_room hroom) hdg hf) hS hq1 hq2 hq1 (fun E ce q9 u t H1 locs1 ht hvm _ hB hz1 hk1 hS1 hq9 hv9 hc9 => ?_) (fun u t H1 locs1 ht hvm hw hB hz1 hk1 hS1 => ?_)
  · have hk2 := kx E u hB.1
    exact hk2 H1 locs1 ls q9 ce (by rw [← ht]; exact hB.2.1) (fun a x hx => hq2 a (hB.2.2 a x hx)) hS1 hL hq9 hv9 hc9
  · have hk2 := k u hw
    exact hk2 H1 locs1 ls (by rw [← ht]; exact hB.1) (fun a x hx => hq2 a (hB.2 a x hx)) hS1 hL
theorem zi_xcallVi (X : zX z l D cc own tys nL ret R nm) {y : MethodName} {bytes : ByteArray} {maxL n index : Nat} {ty : FieldType} {rm : Room} {As : List Value} {b : Nat} {ci N : Nat} {fs : List Value} {T : u_T} {post : Int32 → mH → Prop} {PX : String → mH → Prop} {st0 : List Value} (hM : mCx l y bytes maxL (some ty) rm D tys (.ref b :: As) h (mFi h post) PX) (hc : mCal y bytes maxL (some ty) n) (hl : Cond.methodLink own index y ∈ mAll) (hb : h b = some (.inr (ci, fs))) (hcl : vwCl[ci]? = some (y.cls, T, N)) (hw2 : Cond.instanceMethod y ∈ mAll) (hw3 : Cond.selects y.cls y y ∈ mAll) (hRm : rm.frames + 1 ≤ R.frames ∧ 8 + (maxL + 11) + rm.locals ≤ R.locals) (hn : As.length = n) (hst : st0 = As.reverse ++ .ref b :: st) (hroom : (st.map fun v => v.category).sum ≤ 8) (hf : cells + rm.cells ≤ R.cells ∧ slots + rm.slots ≤ R.slots) (hdg : decode cc pc = .ok (.invokevirtual index, 3))
    (kx : ∀ (E : String) (h1 : mH), PX E h1 → zT z (cells + rm.cells) (slots + rm.slots) pc L st h1 E)
    (k : ∀ (r : Int32) (h1 : mH), post r h1 → zM z (cells + rm.cells) (slots + rm.slots) (pc + 3) L (.int r :: st) h1) : zM z cells slots pc L st0 h := by
  subst hst
  obtain ⟨p, l1, e, R1, s, m, args, below, meth, c, D1, A0, H0, nL1, Q⟩ := z
  obtain ⟨e1, e2, e3, e4, e5, X⟩ := X
  subst e1 e2 e3 e4
  intro H locs ls hR hA hS hL
  have hq1 : ∀ q, q < H.size → mA h H.size q → A0 q := fun q hq hz => by
    rcases hz with ⟨x, hx⟩ | hz
    · exact hA q x hx
    · exact absurd hq (Nat.not_lt.mpr hz)
  have hq2 : ∀ q, mA h H.size q → A0 q := fun q hz => by
    rcases hz with ⟨x, hx⟩ | hz
    · exact hA q x hx
    · exact X.2.2.2.2.2.2.1 q (Nat.le_trans hS.1 hz)
  obtain ⟨q0, hq0⟩ := mR_get hR hb
  refine vx_calli (vx_runV (As := As) (rest := st) ⟨X.1, X.2.1, X.2.2.2.2.1, X.2.2.2.1, X.2.2.1⟩ (hM H.size) ⟨mcB X.2.2.1 hc hl hRm, X.2.2.1 _ hw2, X.2.2.1 _ hw3⟩ ⟨mPre_blind, va_recv (q0 := q0) X.2.2.2.2.2.1 (mR_P hR) hcl hq0, fun U hU hW => ⟨rfl, by rw [hU], by rw [hU]; exact hR, va_K.moved hW.alike X.2.2.2.2.2.1, mNG.warm hW e5.2.1, mST.call e5.2.2 hU hW hS hA (fun _ _ z => z) X.2.2.2.2.2.2.1⟩⟩ rfl hn hL.1 rfl (lv_room hroom) hdg hf) hS hq1 hq2 hq1 (fun E ce q9 u t H1 locs1 ht hvm _ hB hz1 hk1 hS1 hq9 hv9 hc9 => ?_) (fun r u t H1 locs1 ht hvm hw hB hz1 hk1 hS1 => ?_)
  · have hk2 := kx E u hB.1
    exact hk2 H1 locs1 ls q9 ce (by rw [← ht]; exact hB.2.1) (fun a x hx => hq2 a (hB.2.2 a x hx)) hS1 hL hq9 hv9 hc9
  · have hk2 := k r u hw
    exact hk2 H1 locs1 ls (by rw [← ht]; exact hB.1) (fun a x hx => hq2 a (hB.2 a x hx)) hS1 hL
theorem zi_xcallVl (X : zX z l D cc own tys nL ret R nm) {y : MethodName} {bytes : ByteArray} {maxL n index : Nat} {rm : Room} {As : List Value} {b : Nat} {ci N : Nat} {fs : List Value} {T : u_T} {post : Int64 → mH → Prop} {PX : String → mH → Prop} {st0 : List Value} (hM : mCx l y bytes maxL (some .long) rm D tys (.ref b :: As) h (mFl h post) PX) (hc : mCal y bytes maxL (some .long) n) (hl : Cond.methodLink own index y ∈ mAll) (hb : h b = some (.inr (ci, fs))) (hcl : vwCl[ci]? = some (y.cls, T, N)) (hw2 : Cond.instanceMethod y ∈ mAll) (hw3 : Cond.selects y.cls y y ∈ mAll) (hRm : rm.frames + 1 ≤ R.frames ∧ 8 + (maxL + 11) + rm.locals ≤ R.locals) (hn : As.length = n) (hst : st0 = As.reverse ++ .ref b :: st) (hroom : (st.map fun v => v.category).sum ≤ 8) (hf : cells + rm.cells ≤ R.cells ∧ slots + rm.slots ≤ R.slots) (hdg : decode cc pc = .ok (.invokevirtual index, 3))
    (kx : ∀ (E : String) (h1 : mH), PX E h1 → zT z (cells + rm.cells) (slots + rm.slots) pc L st h1 E)
    (k : ∀ (r : Int64) (h1 : mH), post r h1 → zM z (cells + rm.cells) (slots + rm.slots) (pc + 3) L (.long r :: st) h1) : zM z cells slots pc L st0 h := by
  subst hst
  obtain ⟨p, l1, e, R1, s, m, args, below, meth, c, D1, A0, H0, nL1, Q⟩ := z
  obtain ⟨e1, e2, e3, e4, e5, X⟩ := X
  subst e1 e2 e3 e4
  intro H locs ls hR hA hS hL
  have hq1 : ∀ q, q < H.size → mA h H.size q → A0 q := fun q hq hz => by
    rcases hz with ⟨x, hx⟩ | hz
    · exact hA q x hx
    · exact absurd hq (Nat.not_lt.mpr hz)
  have hq2 : ∀ q, mA h H.size q → A0 q := fun q hz => by
    rcases hz with ⟨x, hx⟩ | hz
    · exact hA q x hx
    · exact X.2.2.2.2.2.2.1 q (Nat.le_trans hS.1 hz)
  obtain ⟨q0, hq0⟩ := mR_get hR hb
  refine vx_calll (vx_runV (As := As) (rest := st) ⟨X.1, X.2.1, X.2.2.2.2.1, X.2.2.2.1, X.2.2.1⟩ (hM H.size) ⟨mcB X.2.2.1 hc hl hRm, X.2.2.1 _ hw2, X.2.2.1 _ hw3⟩ ⟨mPre_blind, va_recv (q0 := q0) X.2.2.2.2.2.1 (mR_P hR) hcl hq0, fun U hU hW => ⟨rfl, by rw [hU], by rw [hU]; exact hR, va_K.moved hW.alike X.2.2.2.2.2.1, mNG.warm hW e5.2.1, mST.call e5.2.2 hU hW hS hA (fun _ _ z => z) X.2.2.2.2.2.2.1⟩⟩ rfl hn hL.1 rfl (lv_room hroom) hdg hf) hS hq1 hq2 hq1 (fun E ce q9 u t H1 locs1 ht hvm _ hB hz1 hk1 hS1 hq9 hv9 hc9 => ?_) (fun r u t H1 locs1 ht hvm hw hB hz1 hk1 hS1 => ?_)
  · have hk2 := kx E u hB.1
    exact hk2 H1 locs1 ls q9 ce (by rw [← ht]; exact hB.2.1) (fun a x hx => hq2 a (hB.2.2 a x hx)) hS1 hL hq9 hv9 hc9
  · have hk2 := k r u hw
    exact hk2 H1 locs1 ls (by rw [← ht]; exact hB.1) (fun a x hx => hq2 a (hB.2 a x hx)) hS1 hL
theorem zi_xcallSv (X : zX z l D cc own tys nL ret R nm) {y : MethodName} {bytes : ByteArray} {maxL n index : Nat} {rm : Room} {As : List Value} {post : mH → Prop} {PX : String → mH → Prop} {st0 : List Value} (hM : mCx l y bytes maxL none rm D tys As h (mFv h post) PX) (hc : mCal y bytes maxL none n) (hl : Cond.methodLink own index y ∈ mAll) (hw2 : Cond.static y ∈ mAll) (hRm : rm.frames + 1 ≤ R.frames ∧ 8 + (maxL + 11) + rm.locals ≤ R.locals) (hn : As.length = n) (hst : st0 = As.reverse ++ st) (hroom : (st.map fun v => v.category).sum ≤ 8) (hf : cells + rm.cells ≤ R.cells ∧ slots + rm.slots ≤ R.slots) (hdg : decode cc pc = .ok (.invokestatic index, 3))
    (kx : ∀ (E : String) (h1 : mH), PX E h1 → zT z (cells + rm.cells) (slots + rm.slots) pc L st h1 E)
    (k : ∀ (h1 : mH), post h1 → zM z (cells + rm.cells) (slots + rm.slots) (pc + 3) L st h1) : zM z cells slots pc L st0 h := by
  subst hst
  obtain ⟨p, l1, e, R1, s, m, args, below, meth, c, D1, A0, H0, nL1, Q⟩ := z
  obtain ⟨e1, e2, e3, e4, e5, X⟩ := X
  subst e1 e2 e3 e4
  intro H locs ls hR hA hS hL
  have hq1 : ∀ q, q < H.size → mA h H.size q → A0 q := fun q hq hz => by
    rcases hz with ⟨x, hx⟩ | hz
    · exact hA q x hx
    · exact absurd hq (Nat.not_lt.mpr hz)
  have hq2 : ∀ q, mA h H.size q → A0 q := fun q hz => by
    rcases hz with ⟨x, hx⟩ | hz
    · exact hA q x hx
    · exact X.2.2.2.2.2.2.1 q (Nat.le_trans hS.1 hz)
  refine vx_callv (vx_runS (As := As) (rest := st) ⟨X.1, X.2.1, X.2.2.2.2.1, X.2.2.2.1, X.2.2.1⟩ (hM H.size) ⟨mcB X.2.2.1 hc hl hRm, X.2.2.1 _ hw2⟩ ⟨mPre_blind, fun U hU hW => ⟨rfl, by rw [hU], by rw [hU]; exact hR, va_K.moved hW.alike X.2.2.2.2.2.1, mNG.warm hW e5.2.1, mST.call e5.2.2 hU hW hS hA (fun _ _ z => z) X.2.2.2.2.2.2.1⟩⟩ rfl hn hL.1 rfl (lv_room hroom) hdg hf) hS hq1 hq2 hq1 (fun E ce q9 u t H1 locs1 ht hvm _ hB hz1 hk1 hS1 hq9 hv9 hc9 => ?_) (fun u t H1 locs1 ht hvm hw hB hz1 hk1 hS1 => ?_)
  · have hk2 := kx E u hB.1
    exact hk2 H1 locs1 ls q9 ce (by rw [← ht]; exact hB.2.1) (fun a x hx => hq2 a (hB.2.2 a x hx)) hS1 hL hq9 hv9 hc9
  · have hk2 := k u hw
    exact hk2 H1 locs1 ls (by rw [← ht]; exact hB.1) (fun a x hx => hq2 a (hB.2 a x hx)) hS1 hL
theorem zi_xcallSi (X : zX z l D cc own tys nL ret R nm) {y : MethodName} {bytes : ByteArray} {maxL n index : Nat} {ty : FieldType} {rm : Room} {As : List Value} {post : Int32 → mH → Prop} {PX : String → mH → Prop} {st0 : List Value} (hM : mCx l y bytes maxL (some ty) rm D tys As h (mFi h post) PX) (hc : mCal y bytes maxL (some ty) n) (hl : Cond.methodLink own index y ∈ mAll) (hw2 : Cond.static y ∈ mAll) (hRm : rm.frames + 1 ≤ R.frames ∧ 8 + (maxL + 11) + rm.locals ≤ R.locals) (hn : As.length = n) (hst : st0 = As.reverse ++ st) (hroom : (st.map fun v => v.category).sum ≤ 8) (hf : cells + rm.cells ≤ R.cells ∧ slots + rm.slots ≤ R.slots) (hdg : decode cc pc = .ok (.invokestatic index, 3))
    (kx : ∀ (E : String) (h1 : mH), PX E h1 → zT z (cells + rm.cells) (slots + rm.slots) pc L st h1 E)
    (k : ∀ (r : Int32) (h1 : mH), post r h1 → zM z (cells + rm.cells) (slots + rm.slots) (pc + 3) L (.int r :: st) h1) : zM z cells slots pc L st0 h := by
  subst hst
  obtain ⟨p, l1, e, R1, s, m, args, below, meth, c, D1, A0, H0, nL1, Q⟩ := z
  obtain ⟨e1, e2, e3, e4, e5, X⟩ := X
  subst e1 e2 e3 e4
  intro H locs ls hR hA hS hL
  have hq1 : ∀ q, q < H.size → mA h H.size q → A0 q := fun q hq hz => by
    rcases hz with ⟨x, hx⟩ | hz
    · exact hA q x hx
    · exact absurd hq (Nat.not_lt.mpr hz)
  have hq2 : ∀ q, mA h H.size q → A0 q := fun q hz => by
    rcases hz with ⟨x, hx⟩ | hz
    · exact hA q x hx
    · exact X.2.2.2.2.2.2.1 q (Nat.le_trans hS.1 hz)
  refine vx_calli (vx_runS (As := As) (rest := st) ⟨X.1, X.2.1, X.2.2.2.2.1, X.2.2.2.1, X.2.2.1⟩ (hM H.size) ⟨mcB X.2.2.1 hc hl hRm, X.2.2.1 _ hw2⟩ ⟨mPre_blind, fun U hU hW => ⟨rfl, by rw [hU], by rw [hU]; exact hR, va_K.moved hW.alike X.2.2.2.2.2.1, mNG.warm hW e5.2.1, mST.call e5.2.2 hU hW hS hA (fun _ _ z => z) X.2.2.2.2.2.2.1⟩⟩ rfl hn hL.1 rfl (lv_room hroom) hdg hf) hS hq1 hq2 hq1 (fun E ce q9 u t H1 locs1 ht hvm _ hB hz1 hk1 hS1 hq9 hv9 hc9 => ?_) (fun r u t H1 locs1 ht hvm hw hB hz1 hk1 hS1 => ?_)
  · have hk2 := kx E u hB.1
    exact hk2 H1 locs1 ls q9 ce (by rw [← ht]; exact hB.2.1) (fun a x hx => hq2 a (hB.2.2 a x hx)) hS1 hL hq9 hv9 hc9
  · have hk2 := k r u hw
    exact hk2 H1 locs1 ls (by rw [← ht]; exact hB.1) (fun a x hx => hq2 a (hB.2 a x hx)) hS1 hL
theorem zi_xcallSl (X : zX z l D cc own tys nL ret R nm) {y : MethodName} {bytes : ByteArray} {maxL n index : Nat} {rm : Room} {As : List Value} {post : Int64 → mH → Prop} {PX : String → mH → Prop} {st0 : List Value} (hM : mCx l y bytes maxL (some .long) rm D tys As h (mFl h post) PX) (hc : mCal y bytes maxL (some .long) n) (hl : Cond.methodLink own index y ∈ mAll) (hw2 : Cond.static y ∈ mAll) (hRm : rm.frames + 1 ≤ R.frames ∧ 8 + (maxL + 11) + rm.locals ≤ R.locals) (hn : As.length = n) (hst : st0 = As.reverse ++ st) (hroom : (st.map fun v => v.category).sum ≤ 8) (hf : cells + rm.cells ≤ R.cells ∧ slots + rm.slots ≤ R.slots) (hdg : decode cc pc = .ok (.invokestatic index, 3))
    (kx : ∀ (E : String) (h1 : mH), PX E h1 → zT z (cells + rm.cells) (slots + rm.slots) pc L st h1 E)
    (k : ∀ (r : Int64) (h1 : mH), post r h1 → zM z (cells + rm.cells) (slots + rm.slots) (pc + 3) L (.long r :: st) h1) : zM z cells slots pc L st0 h := by
  subst hst
  obtain ⟨p, l1, e, R1, s, m, args, below, meth, c, D1, A0, H0, nL1, Q⟩ := z
  obtain ⟨e1, e2, e3, e4, e5, X⟩ := X
  subst e1 e2 e3 e4
  intro H locs ls hR hA hS hL
  have hq1 : ∀ q, q < H.size → mA h H.size q → A0 q := fun q hq hz => by
    rcases hz with ⟨x, hx⟩ | hz
    · exact hA q x hx
    · exact absurd hq (Nat.not_lt.mpr hz)
  have hq2 : ∀ q, mA h H.size q → A0 q := fun q hz => by
    rcases hz with ⟨x, hx⟩ | hz
    · exact hA q x hx
    · exact X.2.2.2.2.2.2.1 q (Nat.le_trans hS.1 hz)
  refine vx_calll (vx_runS (As := As) (rest := st) ⟨X.1, X.2.1, X.2.2.2.2.1, X.2.2.2.1, X.2.2.1⟩ (hM H.size) ⟨mcB X.2.2.1 hc hl hRm, X.2.2.1 _ hw2⟩ ⟨mPre_blind, fun U hU hW => ⟨rfl, by rw [hU], by rw [hU]; exact hR, va_K.moved hW.alike X.2.2.2.2.2.1, mNG.warm hW e5.2.1, mST.call e5.2.2 hU hW hS hA (fun _ _ z => z) X.2.2.2.2.2.2.1⟩⟩ rfl hn hL.1 rfl (lv_room hroom) hdg hf) hS hq1 hq2 hq1 (fun E ce q9 u t H1 locs1 ht hvm _ hB hz1 hk1 hS1 hq9 hv9 hc9 => ?_) (fun r u t H1 locs1 ht hvm hw hB hz1 hk1 hS1 => ?_)
  · have hk2 := kx E u hB.1
    exact hk2 H1 locs1 ls q9 ce (by rw [← ht]; exact hB.2.1) (fun a x hx => hq2 a (hB.2.2 a x hx)) hS1 hL hq9 hv9 hc9
  · have hk2 := k r u hw
    exact hk2 H1 locs1 ls (by rw [← ht]; exact hB.1) (fun a x hx => hq2 a (hB.2 a x hx)) hS1 hL
end MXROWS
