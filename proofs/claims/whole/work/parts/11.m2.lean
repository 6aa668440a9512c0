/-! CONTRACTS AND CALLS over heaps as partial functions. -/
theorem mAll_of {w : Cond} (h : w ∈ lw_tbl) (g : goodWord w = true) : w ∈ mAll := List.mem_filter.mpr ⟨h, g⟩
theorem mAll_good {w : Cond} (h : w ∈ mAll) : (w.onTables && w.keeps) = true ∨ ∃ ty, w = .arrayClass ty := good_of_word (List.mem_filter.mp h).2
abbrev mW (y : MethodName) (bytes : ByteArray) (maxL : Nat) (ret : Option FieldType) : List Cond := Cond.code y bytes maxL ret :: mAll
def mA (h : mH) (sz : Nat) : Nat → Prop := fun q => (∃ e, h q = some e) ∨ sz ≤ q
theorem mST.call {D : va_G} {A0 : Nat → Prop} {s U : State} {H0 H : Heap} {locs : List Loc} {h hs : mH} (h0 : H0 = s.heap ∧ mST D A0 s s.heap) (hU : U.heap = H) (hW : s.WarmedH U.vm) (hS : va_S A0 H0 H locs) (hA : ∀ a e, h a = some e → A0 a) (hsub : ∀ a e, hs a = some e → h a = some e) (hq : ∀ q, H0.size ≤ q → A0 q) : mST D (mA hs H.size) U U.heap := by
  obtain ⟨e0, h0⟩ := h0
  subst e0
  rw [hU]
  refine mST.narrow (A := A0) ((h0.warm hW).kept hS.2.1) (fun q hz => ?_)
  rcases hz with ⟨e, he⟩ | hz
  · exact hA q e (hsub q e he)
  · exact hq q (Nat.le_trans hS.1 hz)
def mPre (D : va_G) (tys : List (ClassId × FieldType)) (hs : mH) (sz : Nat) (av : List Value) : Array Value → State → Prop := va_Pc av (fun U => U.heap.size = sz ∧ mR D hs U.heap ∧ va_K D vwCl tys U ∧ mNG U ∧ mST D (mA hs sz) U U.heap)
def mB (D : va_G) (hs : mH) (sz : Nat) (h1 : mH) (t : State) : Prop := mR D h1 t.heap ∧ ∀ a e, h1 a = some e → mA hs sz a
def mjoin (h hs h1 : mH) : mH := fun a => match h1 a with
  | some e => some e
  | none => match hs a with
    | some _ => none
    | none => h a
theorem mjoin_self {h h1 : mH} : mjoin h h h1 = h1 := by
  funext a
  unfold mjoin
  cases h1 a with
  | some e => rfl
  | none => cases h a <;> rfl
theorem mPre_blind {D : va_G} {tys : List (ClassId × FieldType)} {hs : mH} {sz : Nat} {av : List Value} : FrameBlind (mPre D tys hs sz av) := by
  intro a U g mk q
  obtain ⟨q0, q1, q2, q3, q4, q5⟩ := q
  exact ⟨q0, q1, q2, va_K.moved (u := U) (U := U.calling g mk a) (Vm.Alike.refl U.vm) q3, mNG.same (u := U) (U := U.calling g mk a) rfl q4, mST.same (u := U) (U := U.calling g mk a) rfl q5⟩
theorem mjoin_R {D : va_G} {h hs h1 : mH} {H H1 : Heap} (hR : mR D h H) (hR1 : mR D h1 H1) (hk : ∀ q : Nat, q < H.size → ¬ mA hs H.size q → H1[q]? = H[q]?) : mR D (mjoin h hs h1) H1 := by
  intro a e he
  unfold mjoin at he
  cases h2 : h1 a with
  | some x => rw [h2] at he; simp only at he; cases he; exact hR1 a _ h2
  | none =>
    rw [h2] at he
    simp only at he
    cases h3 : hs a with
    | some x => rw [h3] at he; cases he
    | none =>
      rw [h3] at he
      simp only at he
      have hlt := (hR a e he).lt
      refine (hR a e he).kept (hk a hlt ?_)
      rintro (⟨x, hx⟩ | hz)
      · rw [h3] at hx; cases hx
      · exact absurd hlt (Nat.not_lt.mpr hz)
theorem mjoin_dom {h hs h1 : mH} {H0 H : Heap} {A0 : Nat → Prop} (hA : ∀ a e, h a = some e → A0 a) (hsub : ∀ a e, hs a = some e → h a = some e) (hn : ∀ q, H0.size ≤ q → A0 q) (hz : H0.size ≤ H.size) (hd : ∀ a e, h1 a = some e → mA hs H.size a) : ∀ a e, mjoin h hs h1 a = some e → A0 a := by
  intro a e he
  unfold mjoin at he
  cases h2 : h1 a with
  | some x =>
    rcases hd a x h2 with ⟨y, hy⟩ | hy
    · exact hA a _ (hsub a y hy)
    · exact hn a (Nat.le_trans hz hy)
  | none =>
    rw [h2] at he
    simp only at he
    cases h3 : hs a with
    | some x => rw [h3] at he; cases he
    | none => rw [h3] at he; exact hA a e he
/-- what a call needs of the callee, whoever calls -/
def mCal (y : MethodName) (bytes : ByteArray) (maxL : Nat) (ret : Option FieldType) (n : Nat) : Prop := Cond.initialized y.cls ∈ mAll ∧ Cond.code y bytes maxL ret ∈ mAll ∧ (y.cls ≠ "java/lang/invoke/MethodHandle" ∧ y.cls ≠ "java/lang/invoke/VarHandle" ∧ (parseMethodDescriptor y.desc).map (fun d => d.parameters.length) = some n)
theorem mcB {R : Room} {s : State} {args : Array Value} {own : String} {index maxL n : Nat} {y : MethodName} {bytes : ByteArray} {ret : Option FieldType} {rm : Room} (hts : ∀ w ∈ mAll, w.before args s = true) (hc : mCal y bytes maxL ret n) (hl : Cond.methodLink own index y ∈ mAll) (hR : rm.frames + 1 ≤ R.frames ∧ 8 + (maxL + 11) + rm.locals ≤ R.locals) :
    CallB R s args own index y bytes maxL ret (mW y bytes maxL ret) rm rm.cells rm.slots n := by
  refine callB_of (Ts := mAll) n hts ?_ rfl rfl rfl (hts _ hc.1) (hts _ hl) hc.2.2 hR
  intro w hw
  have : w ∈ mAll := by
    rcases List.mem_cons.mp hw with rfl | h
    · exact hc.2.1
    · exact h
  exact ⟨this, mAll_good this⟩
theorem mGood {y : MethodName} {bytes : ByteArray} {maxL : Nat} {ret : Option FieldType} (h : Cond.code y bytes maxL ret ∈ mAll) : GoodIn mAll (mW y bytes maxL ret) := by
  intro w hw
  have : w ∈ mAll := by
    rcases List.mem_cons.mp hw with rfl | q
    · exact h
    · exact q
  exact ⟨this, mAll_good this⟩
/-- a word that isn't among the good ones, where the method began -/
def zN (z : mZ) (w : Cond) : Prop := match z with
  | (_, _, _, _, s, _) => va_Nw w s
def mQv (below : List Frame) (D : va_G) (s : State) (args : Array Value) (h0 : mH) (post : mH → Prop) (mc ms : Nat) : State → Prop := MQ below (va_Qv post (mB D h0 s.heap.size) (mA h0 s.heap.size)) args s mc ms (mA h0 s.heap.size)
def mQi (below : List Frame) (D : va_G) (s : State) (args : Array Value) (h0 : mH) (post : Int32 → mH → Prop) (mc ms : Nat) : State → Prop := MQ below (va_Qi post (mB D h0 s.heap.size) (mA h0 s.heap.size)) args s mc ms (mA h0 s.heap.size)
def mQl (below : List Frame) (D : va_G) (s : State) (args : Array Value) (h0 : mH) (post : Int64 → mH → Prop) (mc ms : Nat) : State → Prop := MQ below (va_Ql post (mB D h0 s.heap.size) (mA h0 s.heap.size)) args s mc ms (mA h0 s.heap.size)
def mQr (below : List Frame) (D : va_G) (s : State) (args : Array Value) (h0 : mH) (post : Nat → mH → Prop) (mc ms : Nat) : State → Prop := MQ below (va_Qr (S := Nat × mH) (fun u => post u.1 u.2) (fun u a t => a = u.1 ∧ mB D h0 s.heap.size u.2 t) (mA h0 s.heap.size)) args s mc ms (mA h0 s.heap.size)
/-- the contracts -/
def mCv (l : Launch) (y : MethodName) (bytes : ByteArray) (maxL : Nat) (rm : Room) (D : va_G) (tys : List (ClassId × FieldType)) (av : List Value) (hs : mH) (post : mH → Prop) : Prop := ∀ sz, Met l y (mW y bytes maxL none) rm (mPre D tys hs sz av) (va_Qv post (mB D hs sz) (mA hs sz)) rm.cells rm.slots (mA hs sz)
def mCi (l : Launch) (y : MethodName) (bytes : ByteArray) (maxL : Nat) (ty : FieldType) (rm : Room) (D : va_G) (tys : List (ClassId × FieldType)) (av : List Value) (hs : mH) (post : Int32 → mH → Prop) : Prop := ∀ sz, Met l y (mW y bytes maxL (some ty)) rm (mPre D tys hs sz av) (va_Qi post (mB D hs sz) (mA hs sz)) rm.cells rm.slots (mA hs sz)
def mCl (l : Launch) (y : MethodName) (bytes : ByteArray) (maxL : Nat) (rm : Room) (D : va_G) (tys : List (ClassId × FieldType)) (av : List Value) (hs : mH) (post : Int64 → mH → Prop) : Prop := ∀ sz, Met l y (mW y bytes maxL (some .long)) rm (mPre D tys hs sz av) (va_Ql post (mB D hs sz) (mA hs sz)) rm.cells rm.slots (mA hs sz)
def mCr (l : Launch) (y : MethodName) (bytes : ByteArray) (maxL : Nat) (ty : FieldType) (rm : Room) (D : va_G) (tys : List (ClassId × FieldType)) (av : List Value) (hs : mH) (post : Nat → mH → Prop) : Prop := ∀ sz, Met l y (mW y bytes maxL (some ty)) rm (mPre D tys hs sz av) (va_Qr (S := Nat × mH) (fun u => post u.1 u.2) (fun u a t => a = u.1 ∧ mB D hs sz u.2 t) (mA hs sz)) rm.cells rm.slots (mA hs sz)
def zV (z : mZ) (h0 : mH) (post : mH → Prop) (mc ms : Nat) : Prop := match z with
  | (_, _, _, _, s, _, args, below, _, _, D, A0, H0, _, Q) => A0 = mA h0 s.heap.size ∧ H0 = s.heap ∧ Q = mQv below D s args h0 post mc ms
def zI (z : mZ) (h0 : mH) (post : Int32 → mH → Prop) (mc ms : Nat) : Prop := match z with
  | (_, _, _, _, s, _, args, below, _, _, D, A0, H0, _, Q) => A0 = mA h0 s.heap.size ∧ H0 = s.heap ∧ Q = mQi below D s args h0 post mc ms
def zJ (z : mZ) (h0 : mH) (post : Int64 → mH → Prop) (mc ms : Nat) : Prop := match z with
  | (_, _, _, _, s, _, args, below, _, _, D, A0, H0, _, Q) => A0 = mA h0 s.heap.size ∧ H0 = s.heap ∧ Q = mQl below D s args h0 post mc ms
def zR (z : mZ) (h0 : mH) (post : Nat → mH → Prop) (mc ms : Nat) : Prop := match z with
  | (_, _, _, _, s, _, args, below, _, _, D, A0, H0, _, Q) => A0 = mA h0 s.heap.size ∧ H0 = s.heap ∧ Q = mQr below D s args h0 post mc ms
section MENTER
variable {l : Launch} {y : MethodName} {bytes : ByteArray} {maxL : Nat} {rm : Room} {D : va_G} {tys : List (ClassId × FieldType)} {av : List Value} {hs : mH} {ty : FieldType}
theorem mEnter {ret : Option FieldType} {Qc : Nat → Array Value → State → Outcome → State → Prop} (hy : plainName y.cls = true) (hlen : (lg_sl av).length ≤ maxL) {L : List (Option Value)} (hL : mEnt av ++ List.replicate (maxL - (mEnt av).length) none = L)
    (body : ∀ (p : Program) (e : Env) (s : State) (m : MethodId) (args : Array Value) (below : List Frame) (meth : Method) (c : Code), mX p s m args meth c bytes y.cls D tys maxL ret (mA hs s.heap.size) s.heap → meth.name = y.name ∧ mNG s ∧ s.heap = s.heap ∧ mST D (mA hs s.heap.size) s s.heap → mM p l e rm s m args below meth c D (mA hs s.heap.size) s.heap maxL (MQ below (Qc s.heap.size) args s rm.cells rm.slots (mA hs s.heap.size)) 0 0 0 L [] hs) (sz : Nat) :
    Met l y (mW y bytes maxL ret) rm (mPre D tys hs sz av) (Qc sz) rm.cells rm.slots (mA hs sz) := by
  refine Met.ofW (cc := bytes) (maxL := maxL) (ret := ret) hy rfl ?_
  intro p e s m args below meth c s₁ B hml hv
  obtain ⟨rfl, hsz, hR, hK, hN, hT⟩ := hv
  subst hsz
  have hts := atoms_spec (ws := mW y bytes maxL ret) B.pre
  have hl := lv_entry av (n := maxL) hlen
  rw [lg_entry_eq]
  generalize (lg_sl av ++ List.replicate (maxL - (lg_sl av).length) Slot.unset).toArray = ls at hl ⊢
  exact body p e s m _ below meth c ⟨B.exec, B.bytes, fun w hw => hts w (List.mem_cons_of_mem _ hw), findClass_of_methodNamed B.named, hml, hK, fun q hq => Or.inr hq, B.notSynchronized, B.returns⟩ ⟨(name_of_methodNamed B.named B.method).1, hN, rfl, hT⟩ s.heap [] ls hR (fun a e he => Or.inl ⟨e, he⟩) va_S.rf (mL_ent hl hL)
theorem mEnter_v {post : mH → Prop} (hy : plainName y.cls = true) (hlen : (lg_sl av).length ≤ maxL) {L : List (Option Value)} (hL : mEnt av ++ List.replicate (maxL - (mEnt av).length) none = L)
    (body : ∀ z : mZ, zX z l D bytes y.cls tys maxL none rm y.name → zV z hs post rm.cells rm.slots → zM z 0 0 0 L [] hs) : mCv l y bytes maxL rm D tys av hs post :=
  fun sz => mEnter (Qc := fun sz => va_Qv post (mB D hs sz) (mA hs sz)) hy hlen hL (fun p e s m args below meth c X hn => body (p, l, e, rm, s, m, args, below, meth, c, D, mA hs s.heap.size, s.heap, maxL, _) ⟨rfl, rfl, rfl, rfl, hn, X⟩ ⟨rfl, rfl, rfl⟩) sz
theorem mEnter_i {post : Int32 → mH → Prop} (hy : plainName y.cls = true) (hlen : (lg_sl av).length ≤ maxL) {L : List (Option Value)} (hL : mEnt av ++ List.replicate (maxL - (mEnt av).length) none = L)
    (body : ∀ z : mZ, zX z l D bytes y.cls tys maxL (some ty) rm y.name → zI z hs post rm.cells rm.slots → zM z 0 0 0 L [] hs) : mCi l y bytes maxL ty rm D tys av hs post :=
  fun sz => mEnter (Qc := fun sz => va_Qi post (mB D hs sz) (mA hs sz)) hy hlen hL (fun p e s m args below meth c X hn => body (p, l, e, rm, s, m, args, below, meth, c, D, mA hs s.heap.size, s.heap, maxL, _) ⟨rfl, rfl, rfl, rfl, hn, X⟩ ⟨rfl, rfl, rfl⟩) sz
theorem mEnter_l {post : Int64 → mH → Prop} (hy : plainName y.cls = true) (hlen : (lg_sl av).length ≤ maxL) {L : List (Option Value)} (hL : mEnt av ++ List.replicate (maxL - (mEnt av).length) none = L)
    (body : ∀ z : mZ, zX z l D bytes y.cls tys maxL (some .long) rm y.name → zJ z hs post rm.cells rm.slots → zM z 0 0 0 L [] hs) : mCl l y bytes maxL rm D tys av hs post :=
  fun sz => mEnter (Qc := fun sz => va_Ql post (mB D hs sz) (mA hs sz)) hy hlen hL (fun p e s m args below meth c X hn => body (p, l, e, rm, s, m, args, below, meth, c, D, mA hs s.heap.size, s.heap, maxL, _) ⟨rfl, rfl, rfl, rfl, hn, X⟩ ⟨rfl, rfl, rfl⟩) sz
theorem mEnter_r {post : Nat → mH → Prop} (hy : plainName y.cls = true) (hlen : (lg_sl av).length ≤ maxL) {L : List (Option Value)} (hL : mEnt av ++ List.replicate (maxL - (mEnt av).length) none = L)
    (body : ∀ z : mZ, zX z l D bytes y.cls tys maxL (some ty) rm y.name → zR z hs post rm.cells rm.slots → zM z 0 0 0 L [] hs) : mCr l y bytes maxL ty rm D tys av hs post :=
  fun sz => mEnter (Qc := fun sz => va_Qr (S := Nat × mH) (fun u => post u.1 u.2) (fun u a t => a = u.1 ∧ mB D hs sz u.2 t) (mA hs sz)) hy hlen hL (fun p e s m args below meth c X hn => body (p, l, e, rm, s, m, args, below, meth, c, D, mA hs s.heap.size, s.heap, maxL, _) ⟨rfl, rfl, rfl, rfl, hn, X⟩ ⟨rfl, rfl, rfl⟩) sz
end MENTER
section MROWS2
variable {z : mZ} {l : Launch} {R : Room} {D : va_G} {nL : Nat} {cells slots : Nat}
variable {cc : ByteArray} {own nm : String} {tys : List (ClassId × FieldType)} {ret : Option FieldType} {pc : Nat} {L : List (Option Value)} {st : List Value} {h h0 : mH}
theorem zi_widen {k n : Nat} (h1 : cells ≤ k) (h2 : slots ≤ n) (kk : zM z k n pc L st h) : zM z cells slots pc L st h := by
  obtain ⟨p, l1, e, R1, s, m, args, below, meth, c, D1, A0, H0, nL1, Q⟩ := z
  intro H locs ls hR hA hS hL
  exact W.widen h1 h2 (kk H locs ls hR hA hS hL)
theorem zi_eqh {h' : mH} (eh : h = h') (kk : zM z cells slots pc L st h') : zM z cells slots pc L st h := by rw [eh]; exact kk
theorem zi_eqs {st' : List Value} (es : st = st') (kk : zM z cells slots pc L st' h) : zM z cells slots pc L st h := by rw [es]; exact kk
theorem zi_eqL {L' : List (Option Value)} (es : L = L') (kk : zM z cells slots pc L' st h) : zM z cells slots pc L st h := by rw [es]; exact kk
def mSubL : List (Option Value) → List (Option Value) → Prop
  | [], _ => True
  | none :: t, [] => mSubL t []
  | none :: t, _ :: u => mSubL t u
  | some _ :: _, [] => False
  | some x :: t, y :: u => y = some x ∧ mSubL t u
theorem mSubL_of : ∀ (L' L : List (Option Value)), mSubL L' L → ∀ (i : Nat) (v : Value), L'[i]? = some (some v) → L[i]? = some (some v)
  | [], _, _, i, v, h => by simp at h
  | none :: t, [], hs, i, v, h => by
    cases i with
    | zero => simp at h
    | succ i => have := mSubL_of t [] hs i v (by simpa using h); simp at this
  | none :: t, u :: us, hs, i, v, h => by
    cases i with
    | zero => simp at h
    | succ i => simpa using mSubL_of t us hs i v (by simpa using h)
  | some x :: t, [], hs, i, v, h => hs.elim
  | some x :: t, u :: us, hs, i, v, h => by
    cases i with
    | zero => simp at h; subst h; simp [hs.1]
    | succ i => simpa using mSubL_of t us hs.2 i v (by simpa using h)
/-- fewer locals are known -/
theorem zi_sub {L' : List (Option Value)} (hs : mSubL L' L) (kk : zM z cells slots pc L' st h) : zM z cells slots pc L st h := by
  obtain ⟨p, l1, e, R1, s, m, args, below, meth, c, D1, A0, H0, nL1, Q⟩ := z
  intro H locs ls hR hA hS hL
  exact kk H locs ls hR hA hS ⟨hL.1, hL.2.1, fun i v hi => hL.2.2 i v (mSubL_of _ _ hs i v hi)⟩
theorem zi_return {post : mH → Prop}  (X : zX z l D cc own tys nL none R nm) (V : zV z h0 post cells slots) (hdg : decode cc pc = .ok (.return_, 1)) (hp : post h) : zM z cells slots pc L [] h := by
  obtain ⟨p, l1, e, R1, s, m, args, below, meth, c, D1, A0, H0, nL1, Q⟩ := z
  obtain ⟨e1, e2, e3, e4, e5, X⟩ := X
  obtain ⟨e6, e7, e8⟩ := V
  subst e1 e2 e3 e4 e6 e7 e8
  intro H locs ls hR hA hS hL
  exact W.vret X.1 X.2.1 X.2.2.2.2.2.2.2.2 (fun t ht hW => ⟨⟨h, rfl, hp, by rw [ht]; exact hR, hA⟩, hS.F ht⟩) hS.2.2 hdg (hlocks := X.2.2.2.2.2.2.2.1)
theorem zi_ireturn {post : Int32 → mH → Prop} {v : Int32} (X : zX z l D cc own tys nL (some .int) R nm) (V : zI z h0 post cells slots) (hdg : decode cc pc = .ok (.ireturn, 1)) (hp : post v h) : zM z cells slots pc L [.int v] h := by
  obtain ⟨p, l1, e, R1, s, m, args, below, meth, c, D1, A0, H0, nL1, Q⟩ := z
  obtain ⟨e1, e2, e3, e4, e5, X⟩ := X
  obtain ⟨e6, e7, e8⟩ := V
  subst e1 e2 e3 e4 e6 e7 e8
  intro H locs ls hR hA hS hL
  exact W.iret X.1 X.2.1 X.2.2.2.2.2.2.2.2 (fun t ht hW => ⟨⟨v, h, rfl, hp, by rw [ht]; exact hR, hA⟩, hS.F ht⟩) hS.2.2 hdg (hlocks := X.2.2.2.2.2.2.2.1)
theorem zi_zreturn {post : Int32 → mH → Prop} {v : Int32} {ty : FieldType} (X : zX z l D cc own tys nL (some ty) R nm) (V : zI z h0 post cells slots) (hn : narrow ty (.int v) = .int v) (hdg : decode cc pc = .ok (.ireturn, 1)) (hp : post v h) : zM z cells slots pc L [.int v] h := by
  obtain ⟨p, l1, e, R1, s, m, args, below, meth, c, D1, A0, H0, nL1, Q⟩ := z
  obtain ⟨e1, e2, e3, e4, e5, X⟩ := X
  obtain ⟨e6, e7, e8⟩ := V
  subst e1 e2 e3 e4 e6 e7 e8
  intro H locs ls hR hA hS hL
  exact W.zret X.1 X.2.1 X.2.2.2.2.2.2.2.2 hn (fun t ht hW => ⟨⟨v, h, rfl, hp, by rw [ht]; exact hR, hA⟩, hS.F ht⟩) hS.2.2 hdg (hlocks := X.2.2.2.2.2.2.2.1)
theorem zi_lreturn {post : Int64 → mH → Prop} {v : Int64} (X : zX z l D cc own tys nL (some .long) R nm) (V : zJ z h0 post cells slots) (hdg : decode cc pc = .ok (.lreturn, 1)) (hp : post v h) : zM z cells slots pc L [.long v] h := by
  obtain ⟨p, l1, e, R1, s, m, args, below, meth, c, D1, A0, H0, nL1, Q⟩ := z
  obtain ⟨e1, e2, e3, e4, e5, X⟩ := X
  obtain ⟨e6, e7, e8⟩ := V
  subst e1 e2 e3 e4 e6 e7 e8
  intro H locs ls hR hA hS hL
  exact W.lret X.1 X.2.1 X.2.2.2.2.2.2.2.2 (fun t ht hW => ⟨⟨v, h, rfl, hp, by rw [ht]; exact hR, hA⟩, hS.F ht⟩) hS.2.2 hdg (hlocks := X.2.2.2.2.2.2.2.1)
theorem zi_areturn {post : Nat → mH → Prop} {v : Nat} {ty : FieldType} (X : zX z l D cc own tys nL (some ty) R nm) (V : zR z h0 post cells slots) (hrt : (∃ n, ty = .object n) ∨ ∃ t, ty = .array t) (hdg : decode cc pc = .ok (.areturn, 1)) (hp : post v h) : zM z cells slots pc L [.ref v] h := by
  obtain ⟨p, l1, e, R1, s, m, args, below, meth, c, D1, A0, H0, nL1, Q⟩ := z
  obtain ⟨e1, e2, e3, e4, e5, X⟩ := X
  obtain ⟨e6, e7, e8⟩ := V
  subst e1 e2 e3 e4 e6 e7 e8
  intro H locs ls hR hA hS hL
  exact W.aret X.1 X.2.1 X.2.2.2.2.2.2.2.2 hrt (Or.inr ⟨v, rfl⟩) (fun t ht hW => ⟨⟨(v, h), v, rfl, hp, rfl, by rw [ht]; exact hR, hA⟩, hS.F ht⟩) hS.2.2 hdg (hlocks := X.2.2.2.2.2.2.2.1)
theorem zi_callVv (X : zX z l D cc own tys nL ret R nm) {y : MethodName} {bytes : ByteArray} {maxL n index : Nat} {rm : Room} {As : List Value} {b : Nat} {ci N : Nat} {fs : List Value} {T : u_T} {post : mH → Prop} {st0 : List Value} (hM : mCv l y bytes maxL rm D tys (.ref b :: As) h post) (hc : mCal y bytes maxL none n) (hl : Cond.methodLink own index y ∈ mAll) (hb : h b = some (.inr (ci, fs))) (hcl : vwCl[ci]? = some (y.cls, T, N)) (hw2 : Cond.instanceMethod y ∈ mAll) (hw3 : Cond.selects y.cls y y ∈ mAll) (hRm : rm.frames + 1 ≤ R.frames ∧ 8 + (maxL + 11) + rm.locals ≤ R.locals) (hn : As.length = n) (hst : st0 = As.reverse ++ .ref b :: st) (hroom : (st.map fun v => v.category).sum ≤ 8) (hf : cells + rm.cells ≤ R.cells ∧ slots + rm.slots ≤ R.slots) (hdg : decode cc pc = .ok (.invokevirtual index, 3))
    (k : ∀ (h1 : mH), post h1 → zM z (cells + rm.cells) (slots + rm.slots) (pc + 3) L st h1) : zM z cells slots pc L st0 h := by
  subst hst
  have hsub : ∀ a e, h a = some e → h a = some e := fun _ _ z => z
  obtain ⟨p, l1, e, R1, s, m, args, below, meth, c, D1, A0, H0, nL1, Q⟩ := z
  obtain ⟨e1, e2, e3, e4, e5, X⟩ := X
  subst e1 e2 e3 e4
  intro H locs ls hR hA hS hL
  obtain ⟨q0, hq0⟩ := mR_get hR hb
  refine va_callv (va_runV (As := As) (rest := st) ⟨X.1, X.2.1, X.2.2.2.2.1, X.2.2.2.1, X.2.2.1⟩ (hM H.size) ⟨mcB X.2.2.1 hc hl hRm, X.2.2.1 _ hw2, X.2.2.1 _ hw3⟩ ⟨mPre_blind, va_recv (q0 := q0) X.2.2.2.2.2.1 (mR_P hR) hcl hq0, fun U hU hW => ⟨rfl, by rw [hU], by rw [hU]; exact fun a x hx => hR a x (hsub a x hx), va_K.moved hW.alike X.2.2.2.2.2.1, mNG.warm hW e5.2.1, mST.call e5.2.2 hU hW hS hA hsub X.2.2.2.2.2.2.1⟩⟩ rfl hn hL.1 rfl (lv_room hroom) hdg hf) hS (fun q hq hz => ?_) (fun q hz => ?_) (fun u t H1 locs1 ht hvm hw hB hz1 hk1 hS1 => ?_)
  · rcases hz with ⟨x, hx⟩ | hz
    · exact hA q x (hsub q x hx)
    · exact absurd hq (Nat.not_lt.mpr hz)
  · rcases hz with ⟨x, hx⟩ | hz
    · exact hA q x (hsub q x hx)
    · exact X.2.2.2.2.2.2.1 q (Nat.le_trans hS.1 hz)
  · have hk2 := k u hw
    rw [← mjoin_self (h := h) (h1 := u)] at hk2
    exact hk2 H1 locs1 ls (mjoin_R hR (by rw [← ht]; exact hB.1) hk1) (mjoin_dom (H0 := H0) (H := H) hA hsub X.2.2.2.2.2.2.1 hS.1 hB.2) hS1 hL
theorem zi_callVvF (X : zX z l D cc own tys nL ret R nm) {y : MethodName} {bytes : ByteArray} {maxL n index : Nat} {rm : Room} {As : List Value} {hs : mH} {b : Nat} {ci N : Nat} {fs : List Value} {T : u_T} {post : mH → Prop} {st0 : List Value} (hM : mCv l y bytes maxL rm D tys (.ref b :: As) hs post) (hc : mCal y bytes maxL none n) (hl : Cond.methodLink own index y ∈ mAll) (hb : h b = some (.inr (ci, fs))) (hcl : vwCl[ci]? = some (y.cls, T, N)) (hw2 : Cond.instanceMethod y ∈ mAll) (hw3 : Cond.selects y.cls y y ∈ mAll) (hsub : ∀ a e, hs a = some e → h a = some e) (hRm : rm.frames + 1 ≤ R.frames ∧ 8 + (maxL + 11) + rm.locals ≤ R.locals) (hn : As.length = n) (hst : st0 = As.reverse ++ .ref b :: st) (hroom : (st.map fun v => v.category).sum ≤ 8) (hf : cells + rm.cells ≤ R.cells ∧ slots + rm.slots ≤ R.slots) (hdg : decode cc pc = .ok (.invokevirtual index, 3))
    (k : ∀ (h1 : mH), post h1 → zM z (cells + rm.cells) (slots + rm.slots) (pc + 3) L st (mjoin h hs h1)) : zM z cells slots pc L st0 h := by
  subst hst
  obtain ⟨p, l1, e, R1, s, m, args, below, meth, c, D1, A0, H0, nL1, Q⟩ := z
  obtain ⟨e1, e2, e3, e4, e5, X⟩ := X
  subst e1 e2 e3 e4
  intro H locs ls hR hA hS hL
  obtain ⟨q0, hq0⟩ := mR_get hR hb
  refine va_callv (va_runV (As := As) (rest := st) ⟨X.1, X.2.1, X.2.2.2.2.1, X.2.2.2.1, X.2.2.1⟩ (hM H.size) ⟨mcB X.2.2.1 hc hl hRm, X.2.2.1 _ hw2, X.2.2.1 _ hw3⟩ ⟨mPre_blind, va_recv (q0 := q0) X.2.2.2.2.2.1 (mR_P hR) hcl hq0, fun U hU hW => ⟨rfl, by rw [hU], by rw [hU]; exact fun a x hx => hR a x (hsub a x hx), va_K.moved hW.alike X.2.2.2.2.2.1, mNG.warm hW e5.2.1, mST.call e5.2.2 hU hW hS hA hsub X.2.2.2.2.2.2.1⟩⟩ rfl hn hL.1 rfl (lv_room hroom) hdg hf) hS (fun q hq hz => ?_) (fun q hz => ?_) (fun u t H1 locs1 ht hvm hw hB hz1 hk1 hS1 => ?_)
  · rcases hz with ⟨x, hx⟩ | hz
    · exact hA q x (hsub q x hx)
    · exact absurd hq (Nat.not_lt.mpr hz)
  · rcases hz with ⟨x, hx⟩ | hz
    · exact hA q x (hsub q x hx)
    · exact X.2.2.2.2.2.2.1 q (Nat.le_trans hS.1 hz)
  · have hk2 := k u hw
    exact hk2 H1 locs1 ls (mjoin_R hR (by rw [← ht]; exact hB.1) hk1) (mjoin_dom (H0 := H0) (H := H) hA hsub X.2.2.2.2.2.2.1 hS.1 hB.2) hS1 hL
theorem zi_callVi (X : zX z l D cc own tys nL ret R nm) {y : MethodName} {bytes : ByteArray} {maxL n index : Nat} {ty : FieldType} {rm : Room} {As : List Value} {b : Nat} {ci N : Nat} {fs : List Value} {T : u_T} {post : Int32 → mH → Prop} {st0 : List Value} (hM : mCi l y bytes maxL ty rm D tys (.ref b :: As) h post) (hc : mCal y bytes maxL (some ty) n) (hl : Cond.methodLink own index y ∈ mAll) (hb : h b = some (.inr (ci, fs))) (hcl : vwCl[ci]? = some (y.cls, T, N)) (hw2 : Cond.instanceMethod y ∈ mAll) (hw3 : Cond.selects y.cls y y ∈ mAll) (hRm : rm.frames + 1 ≤ R.frames ∧ 8 + (maxL + 11) + rm.locals ≤ R.locals) (hn : As.length = n) (hst : st0 = As.reverse ++ .ref b :: st) (hroom : (st.map fun v => v.category).sum ≤ 8) (hf : cells + rm.cells ≤ R.cells ∧ slots + rm.slots ≤ R.slots) (hdg : decode cc pc = .ok (.invokevirtual index, 3))
    (k : ∀ (r : Int32) (h1 : mH), post r h1 → zM z (cells + rm.cells) (slots + rm.slots) (pc + 3) L (.int r :: st) h1) : zM z cells slots pc L st0 h := by
  subst hst
  have hsub : ∀ a e, h a = some e → h a = some e := fun _ _ z => z
  obtain ⟨p, l1, e, R1, s, m, args, below, meth, c, D1, A0, H0, nL1, Q⟩ := z
  obtain ⟨e1, e2, e3, e4, e5, X⟩ := X
  subst e1 e2 e3 e4
  intro H locs ls hR hA hS hL
  obtain ⟨q0, hq0⟩ := mR_get hR hb
  refine va_calli (va_runV (As := As) (rest := st) ⟨X.1, X.2.1, X.2.2.2.2.1, X.2.2.2.1, X.2.2.1⟩ (hM H.size) ⟨mcB X.2.2.1 hc hl hRm, X.2.2.1 _ hw2, X.2.2.1 _ hw3⟩ ⟨mPre_blind, va_recv (q0 := q0) X.2.2.2.2.2.1 (mR_P hR) hcl hq0, fun U hU hW => ⟨rfl, by rw [hU], by rw [hU]; exact fun a x hx => hR a x (hsub a x hx), va_K.moved hW.alike X.2.2.2.2.2.1, mNG.warm hW e5.2.1, mST.call e5.2.2 hU hW hS hA hsub X.2.2.2.2.2.2.1⟩⟩ rfl hn hL.1 rfl (lv_room hroom) hdg hf) hS (fun q hq hz => ?_) (fun q hz => ?_) (fun r u t H1 locs1 ht hvm hw hB hz1 hk1 hS1 => ?_)
  · rcases hz with ⟨x, hx⟩ | hz
    · exact hA q x (hsub q x hx)
    · exact absurd hq (Nat.not_lt.mpr hz)
  · rcases hz with ⟨x, hx⟩ | hz
    · exact hA q x (hsub q x hx)
    · exact X.2.2.2.2.2.2.1 q (Nat.le_trans hS.1 hz)
  · have hk2 := k r u hw
    rw [← mjoin_self (h := h) (h1 := u)] at hk2
    exact hk2 H1 locs1 ls (mjoin_R hR (by rw [← ht]; exact hB.1) hk1) (mjoin_dom (H0 := H0) (H := H) hA hsub X.2.2.2.2.2.2.1 hS.1 hB.2) hS1 hL
theorem zi_callViF (X : zX z l D cc own tys nL ret R nm) {y : MethodName} {bytes : ByteArray} {maxL n index : Nat} {ty : FieldType} {rm : Room} {As : List Value} {hs : mH} {b : Nat} {ci N : Nat} {fs : List Value} {T : u_T} {post : Int32 → mH → Prop} {st0 : List Value} (hM : mCi l y bytes maxL ty rm D tys (.ref b :: As) hs post) (hc : mCal y bytes maxL (some ty) n) (hl : Cond.methodLink own index y ∈ mAll) (hb : h b = some (.inr (ci, fs))) (hcl : vwCl[ci]? = some (y.cls, T, N)) (hw2 : Cond.instanceMethod y ∈ mAll) (hw3 : Cond.selects y.cls y y ∈ mAll) (hsub : ∀ a e, hs a = some e → h a = some e) (hRm : rm.frames + 1 ≤ R.frames ∧ 8 + (maxL + 11) + rm.locals ≤ R.locals) (hn : As.length = n) (hst : st0 = As.reverse ++ .ref b :: st) (hroom : (st.map fun v => v.category).sum ≤ 8) (hf : cells + rm.cells ≤ R.cells ∧ slots + rm.slots ≤ R.slots) (hdg : decode cc pc = .ok (.invokevirtual index, 3))
    (k : ∀ (r : Int32) (h1 : mH), post r h1 → zM z (cells + rm.cells) (slots + rm.slots) (pc + 3) L (.int r :: st) (mjoin h hs h1)) : zM z cells slots pc L st0 h := by
  subst hst
  obtain ⟨p, l1, e, R1, s, m, args, below, meth, c, D1, A0, H0, nL1, Q⟩ := z
  obtain ⟨e1, e2, e3, e4, e5, X⟩ := X
  subst e1 e2 e3 e4
  intro H locs ls hR hA hS hL
  obtain ⟨q0, hq0⟩ := mR_get hR hb
  refine va_calli (va_runV (As := As) (rest := st) ⟨X.1, X.2.1, X.2.2.2.2.1, X.2.2.2.1, X.2.2.1⟩ (hM H.size) ⟨mcB X.2.2.1 hc hl hRm, X.2.2.1 _ hw2, X.2.2.1 _ hw3⟩ ⟨mPre_blind, va_recv (q0 := q0) X.2.2.2.2.2.1 (mR_P hR) hcl hq0, fun U hU hW => ⟨rfl, by rw [hU], by rw [hU]; exact fun a x hx => hR a x (hsub a x hx), va_K.moved hW.alike X.2.2.2.2.2.1, mNG.warm hW e5.2.1, mST.call e5.2.2 hU hW hS hA hsub X.2.2.2.2.2.2.1⟩⟩ rfl hn hL.1 rfl (lv_room hroom) hdg hf) hS (fun q hq hz => ?_) (fun q hz => ?_) (fun r u t H1 locs1 ht hvm hw hB hz1 hk1 hS1 => ?_)
  · rcases hz with ⟨x, hx⟩ | hz
    · exact hA q x (hsub q x hx)
    · exact absurd hq (Nat.not_lt.mpr hz)
  · rcases hz with ⟨x, hx⟩ | hz
    · exact hA q x (hsub q x hx)
    · exact X.2.2.2.2.2.2.1 q (Nat.le_trans hS.1 hz)
  · have hk2 := k r u hw
    exact hk2 H1 locs1 ls (mjoin_R hR (by rw [← ht]; exact hB.1) hk1) (mjoin_dom (H0 := H0) (H := H) hA hsub X.2.2.2.2.2.2.1 hS.1 hB.2) hS1 hL
theorem zi_callVl (X : zX z l D cc own tys nL ret R nm) {y : MethodName} {bytes : ByteArray} {maxL n index : Nat} {rm : Room} {As : List Value} {b : Nat} {ci N : Nat} {fs : List Value} {T : u_T} {post : Int64 → mH → Prop} {st0 : List Value} (hM : mCl l y bytes maxL rm D tys (.ref b :: As) h post) (hc : mCal y bytes maxL (some .long) n) (hl : Cond.methodLink own index y ∈ mAll) (hb : h b = some (.inr (ci, fs))) (hcl : vwCl[ci]? = some (y.cls, T, N)) (hw2 : Cond.instanceMethod y ∈ mAll) (hw3 : Cond.selects y.cls y y ∈ mAll) (hRm : rm.frames + 1 ≤ R.frames ∧ 8 + (maxL + 11) + rm.locals ≤ R.locals) (hn : As.length = n) (hst : st0 = As.reverse ++ .ref b :: st) (hroom : (st.map fun v => v.category).sum ≤ 8) (hf : cells + rm.cells ≤ R.cells ∧ slots + rm.slots ≤ R.slots) (hdg : decode cc pc = .ok (.invokevirtual index, 3))
    (k : ∀ (r : Int64) (h1 : mH), post r h1 → zM z (cells + rm.cells) (slots + rm.slots) (pc + 3) L (.long r :: st) h1) : zM z cells slots pc L st0 h := by
  subst hst
  have hsub : ∀ a e, h a = some e → h a = some e := fun _ _ z => z
  obtain ⟨p, l1, e, R1, s, m, args, below, meth, c, D1, A0, H0, nL1, Q⟩ := z
  obtain ⟨e1, e2, e3, e4, e5, X⟩ := X
  subst e1 e2 e3 e4
  intro H locs ls hR hA hS hL
  obtain ⟨q0, hq0⟩ := mR_get hR hb
  refine va_calll (va_runV (As := As) (rest := st) ⟨X.1, X.2.1, X.2.2.2.2.1, X.2.2.2.1, X.2.2.1⟩ (hM H.size) ⟨mcB X.2.2.1 hc hl hRm, X.2.2.1 _ hw2, X.2.2.1 _ hw3⟩ ⟨mPre_blind, va_recv (q0 := q0) X.2.2.2.2.2.1 (mR_P hR) hcl hq0, fun U hU hW => ⟨rfl, by rw [hU], by rw [hU]; exact fun a x hx => hR a x (hsub a x hx), va_K.moved hW.alike X.2.2.2.2.2.1, mNG.warm hW e5.2.1, mST.call e5.2.2 hU hW hS hA hsub X.2.2.2.2.2.2.1⟩⟩ rfl hn hL.1 rfl (lv_room hroom) hdg hf) hS (fun q hq hz => ?_) (fun q hz => ?_) (fun r u t H1 locs1 ht hvm hw hB hz1 hk1 hS1 => ?_)
  · rcases hz with ⟨x, hx⟩ | hz
    · exact hA q x (hsub q x hx)
    · exact absurd hq (Nat.not_lt.mpr hz)
  · rcases hz with ⟨x, hx⟩ | hz
    · exact hA q x (hsub q x hx)
    · exact X.2.2.2.2.2.2.1 q (Nat.le_trans hS.1 hz)
  · have hk2 := k r u hw
    rw [← mjoin_self (h := h) (h1 := u)] at hk2
    exact hk2 H1 locs1 ls (mjoin_R hR (by rw [← ht]; exact hB.1) hk1) (mjoin_dom (H0 := H0) (H := H) hA hsub X.2.2.2.2.2.2.1 hS.1 hB.2) hS1 hL
theorem zi_callVlF (X : zX z l D cc own tys nL ret R nm) {y : MethodName} {bytes : ByteArray} {maxL n index : Nat} {rm : Room} {As : List Value} {hs : mH} {b : Nat} {ci N : Nat} {fs : List Value} {T : u_T} {post : Int64 → mH → Prop} {st0 : List Value} (hM : mCl l y bytes maxL rm D tys (.ref b :: As) hs post) (hc : mCal y bytes maxL (some .long) n) (hl : Cond.methodLink own index y ∈ mAll) (hb : h b = some (.inr (ci, fs))) (hcl : vwCl[ci]? = some (y.cls, T, N)) (hw2 : Cond.instanceMethod y ∈ mAll) (hw3 : Cond.selects y.cls y y ∈ mAll) (hsub : ∀ a e, hs a = some e → h a = some e) (hRm : rm.frames + 1 ≤ R.frames ∧ 8 + (maxL + 11) + rm.locals ≤ R.locals) (hn : As.length = n) (hst : st0 = As.reverse ++ .ref b :: st) (hroom : (st.map fun v => v.category).sum ≤ 8) (hf : cells + rm.cells ≤ R.cells ∧ slots + rm.slots ≤ R.slots) (hdg : decode cc pc = .ok (.invokevirtual index, 3))
    (k : ∀ (r : Int64) (h1 : mH), post r h1 → zM z (cells + rm.cells) (slots + rm.slots) (pc + 3) L (.long r :: st) (mjoin h hs h1)) : zM z cells slots pc L st0 h := by
  subst hst
  obtain ⟨p, l1, e, R1, s, m, args, below, meth, c, D1, A0, H0, nL1, Q⟩ := z
  obtain ⟨e1, e2, e3, e4, e5, X⟩ := X
  subst e1 e2 e3 e4
  intro H locs ls hR hA hS hL
  obtain ⟨q0, hq0⟩ := mR_get hR hb
  refine va_calll (va_runV (As := As) (rest := st) ⟨X.1, X.2.1, X.2.2.2.2.1, X.2.2.2.1, X.2.2.1⟩ (hM H.size) ⟨mcB X.2.2.1 hc hl hRm, X.2.2.1 _ hw2, X.2.2.1 _ hw3⟩ ⟨mPre_blind, va_recv (q0 := q0) X.2.2.2.2.2.1 (mR_P hR) hcl hq0, fun U hU hW => ⟨rfl, by rw [hU], by rw [hU]; exact fun a x hx => hR a x (hsub a x hx), va_K.moved hW.alike X.2.2.2.2.2.1, mNG.warm hW e5.2.1, mST.call e5.2.2 hU hW hS hA hsub X.2.2.2.2.2.2.1⟩⟩ rfl hn hL.1 rfl (lv_room hroom) hdg hf) hS (fun q hq hz => ?_) (fun q hz => ?_) (fun r u t H1 locs1 ht hvm hw hB hz1 hk1 hS1 => ?_)
  · rcases hz with ⟨x, hx⟩ | hz
    · exact hA q x (hsub q x hx)
    · exact absurd hq (Nat.not_lt.mpr hz)
  · rcases hz with ⟨x, hx⟩ | hz
    · exact hA q x (hsub q x hx)
    · exact X.2.2.2.2.2.2.1 q (Nat.le_trans hS.1 hz)
  · have hk2 := k r u hw
    exact hk2 H1 locs1 ls (mjoin_R hR (by rw [← ht]; exact hB.1) hk1) (mjoin_dom (H0 := H0) (H := H) hA hsub X.2.2.2.2.2.2.1 hS.1 hB.2) hS1 hL
theorem zi_callVr (X : zX z l D cc own tys nL ret R nm) {y : MethodName} {bytes : ByteArray} {maxL n index : Nat} {ty : FieldType} {rm : Room} {As : List Value} {b : Nat} {ci N : Nat} {fs : List Value} {T : u_T} {post : Nat → mH → Prop} {st0 : List Value} (hM : mCr l y bytes maxL ty rm D tys (.ref b :: As) h post) (hc : mCal y bytes maxL (some ty) n) (hl : Cond.methodLink own index y ∈ mAll) (hb : h b = some (.inr (ci, fs))) (hcl : vwCl[ci]? = some (y.cls, T, N)) (hw2 : Cond.instanceMethod y ∈ mAll) (hw3 : Cond.selects y.cls y y ∈ mAll) (hRm : rm.frames + 1 ≤ R.frames ∧ 8 + (maxL + 11) + rm.locals ≤ R.locals) (hn : As.length = n) (hst : st0 = As.reverse ++ .ref b :: st) (hroom : (st.map fun v => v.category).sum ≤ 8) (hf : cells + rm.cells ≤ R.cells ∧ slots + rm.slots ≤ R.slots) (hdg : decode cc pc = .ok (.invokevirtual index, 3))
    (k : ∀ (r : Nat) (h1 : mH), post r h1 → zM z (cells + rm.cells) (slots + rm.slots) (pc + 3) L (.ref r :: st) h1) : zM z cells slots pc L st0 h := by
  subst hst
  have hsub : ∀ a e, h a = some e → h a = some e := fun _ _ z => z
  obtain ⟨p, l1, e, R1, s, m, args, below, meth, c, D1, A0, H0, nL1, Q⟩ := z
  obtain ⟨e1, e2, e3, e4, e5, X⟩ := X
  subst e1 e2 e3 e4
  intro H locs ls hR hA hS hL
  obtain ⟨q0, hq0⟩ := mR_get hR hb
  refine va_callr (va_runV (As := As) (rest := st) ⟨X.1, X.2.1, X.2.2.2.2.1, X.2.2.2.1, X.2.2.1⟩ (hM H.size) ⟨mcB X.2.2.1 hc hl hRm, X.2.2.1 _ hw2, X.2.2.1 _ hw3⟩ ⟨mPre_blind, va_recv (q0 := q0) X.2.2.2.2.2.1 (mR_P hR) hcl hq0, fun U hU hW => ⟨rfl, by rw [hU], by rw [hU]; exact fun a x hx => hR a x (hsub a x hx), va_K.moved hW.alike X.2.2.2.2.2.1, mNG.warm hW e5.2.1, mST.call e5.2.2 hU hW hS hA hsub X.2.2.2.2.2.2.1⟩⟩ rfl hn hL.1 rfl (lv_room hroom) hdg hf) hS (fun q hq hz => ?_) (fun q hz => ?_) (fun u r t H1 locs1 ht hvm hw hB hz1 hk1 hS1 => ?_)
  · rcases hz with ⟨x, hx⟩ | hz
    · exact hA q x (hsub q x hx)
    · exact absurd hq (Nat.not_lt.mpr hz)
  · rcases hz with ⟨x, hx⟩ | hz
    · exact hA q x (hsub q x hx)
    · exact X.2.2.2.2.2.2.1 q (Nat.le_trans hS.1 hz)
  ·
    obtain ⟨rfl, hB⟩ := hB
    have hk2 := k u.1 u.2 hw
    rw [← mjoin_self (h := h) (h1 := u.2)] at hk2
    exact hk2 H1 locs1 ls (mjoin_R hR (by rw [← ht]; exact hB.1) hk1) (mjoin_dom (H0 := H0) (H := H) hA hsub X.2.2.2.2.2.2.1 hS.1 hB.2) hS1 hL
theorem zi_callVrF (X : zX z l D cc own tys nL ret R nm) {y : MethodName} {bytes : ByteArray} {maxL n index : Nat} {ty : FieldType} {rm : Room} {As : List Value} {hs : mH} {b : Nat} {ci N : Nat} {fs : List Value} {T : u_T} {post : Nat → mH → Prop} {st0 : List Value} (hM : mCr l y bytes maxL ty rm D tys (.ref b :: As) hs post) (hc : mCal y bytes maxL (some ty) n) (hl : Cond.methodLink own index y ∈ mAll) (hb : h b = some (.inr (ci, fs))) (hcl : vwCl[ci]? = some (y.cls, T, N)) (hw2 : Cond.instanceMethod y ∈ mAll) (hw3 : Cond.selects y.cls y y ∈ mAll) (hsub : ∀ a e, hs a = some e → h a = some e) (hRm : rm.frames + 1 ≤ R.frames ∧ 8 + (maxL + 11) + rm.locals ≤ R.locals) (hn : As.length = n) (hst : st0 = As.reverse ++ .ref b :: st) (hroom : (st.map fun v => v.category).sum ≤ 8) (hf : cells + rm.cells ≤ R.cells ∧ slots + rm.slots ≤ R.slots) (hdg : decode cc pc = .ok (.invokevirtual index, 3))
    (k : ∀ (r : Nat) (h1 : mH), post r h1 → zM z (cells + rm.cells) (slots + rm.slots) (pc + 3) L (.ref r :: st) (mjoin h hs h1)) : zM z cells slots pc L st0 h := by
  subst hst
  obtain ⟨p, l1, e, R1, s, m, args, below, meth, c, D1, A0, H0, nL1, Q⟩ := z
  obtain ⟨e1, e2, e3, e4, e5, X⟩ := X
  subst e1 e2 e3 e4
  intro H locs ls hR hA hS hL
  obtain ⟨q0, hq0⟩ := mR_get hR hb
  refine va_callr (va_runV (As := As) (rest := st) ⟨X.1, X.2.1, X.2.2.2.2.1, X.2.2.2.1, X.2.2.1⟩ (hM H.size) ⟨mcB X.2.2.1 hc hl hRm, X.2.2.1 _ hw2, X.2.2.1 _ hw3⟩ ⟨mPre_blind, va_recv (q0 := q0) X.2.2.2.2.2.1 (mR_P hR) hcl hq0, fun U hU hW => ⟨rfl, by rw [hU], by rw [hU]; exact fun a x hx => hR a x (hsub a x hx), va_K.moved hW.alike X.2.2.2.2.2.1, mNG.warm hW e5.2.1, mST.call e5.2.2 hU hW hS hA hsub X.2.2.2.2.2.2.1⟩⟩ rfl hn hL.1 rfl (lv_room hroom) hdg hf) hS (fun q hq hz => ?_) (fun q hz => ?_) (fun u r t H1 locs1 ht hvm hw hB hz1 hk1 hS1 => ?_)
  · rcases hz with ⟨x, hx⟩ | hz
    · exact hA q x (hsub q x hx)
    · exact absurd hq (Nat.not_lt.mpr hz)
  · rcases hz with ⟨x, hx⟩ | hz
    · exact hA q x (hsub q x hx)
    · exact X.2.2.2.2.2.2.1 q (Nat.le_trans hS.1 hz)
  ·
    obtain ⟨rfl, hB⟩ := hB
    have hk2 := k u.1 u.2 hw
    exact hk2 H1 locs1 ls (mjoin_R hR (by rw [← ht]; exact hB.1) hk1) (mjoin_dom (H0 := H0) (H := H) hA hsub X.2.2.2.2.2.2.1 hS.1 hB.2) hS1 hL
theorem zi_callSv (X : zX z l D cc own tys nL ret R nm) {y : MethodName} {bytes : ByteArray} {maxL n index : Nat} {rm : Room} {As : List Value} {post : mH → Prop} {st0 : List Value} (hM : mCv l y bytes maxL rm D tys As h post) (hc : mCal y bytes maxL none n) (hl : Cond.methodLink own index y ∈ mAll) (hw2 : Cond.static y ∈ mAll) (hRm : rm.frames + 1 ≤ R.frames ∧ 8 + (maxL + 11) + rm.locals ≤ R.locals) (hn : As.length = n) (hst : st0 = As.reverse ++ st) (hroom : (st.map fun v => v.category).sum ≤ 8) (hf : cells + rm.cells ≤ R.cells ∧ slots + rm.slots ≤ R.slots) (hdg : decode cc pc = .ok (.invokestatic index, 3))
    (k : ∀ (h1 : mH), post h1 → zM z (cells + rm.cells) (slots + rm.slots) (pc + 3) L st h1) : zM z cells slots pc L st0 h := by
  subst hst
  have hsub : ∀ a e, h a = some e → h a = some e := fun _ _ z => z
  obtain ⟨p, l1, e, R1, s, m, args, below, meth, c, D1, A0, H0, nL1, Q⟩ := z
  obtain ⟨e1, e2, e3, e4, e5, X⟩ := X
  subst e1 e2 e3 e4
  intro H locs ls hR hA hS hL
  refine va_callv (va_runS (As := As) (rest := st) ⟨X.1, X.2.1, X.2.2.2.2.1, X.2.2.2.1, X.2.2.1⟩ (hM H.size) ⟨mcB X.2.2.1 hc hl hRm, X.2.2.1 _ hw2⟩ ⟨mPre_blind, fun U hU hW => ⟨rfl, by rw [hU], by rw [hU]; exact fun a x hx => hR a x (hsub a x hx), va_K.moved hW.alike X.2.2.2.2.2.1, mNG.warm hW e5.2.1, mST.call e5.2.2 hU hW hS hA hsub X.2.2.2.2.2.2.1⟩⟩ rfl hn hL.1 rfl (lv_room hroom) hdg hf) hS (fun q hq hz => ?_) (fun q hz => ?_) (fun u t H1 locs1 ht hvm hw hB hz1 hk1 hS1 => ?_)
  · rcases hz with ⟨x, hx⟩ | hz
    · exact hA q x (hsub q x hx)
    · exact absurd hq (Nat.not_lt.mpr hz)
  · rcases hz with ⟨x, hx⟩ | hz
    · exact hA q x (hsub q x hx)
    · exact X.2.2.2.2.2.2.1 q (Nat.le_trans hS.1 hz)
  · have hk2 := k u hw
    rw [← mjoin_self (h := h) (h1 := u)] at hk2
    exact hk2 H1 locs1 ls (mjoin_R hR (by rw [← ht]; exact hB.1) hk1) (mjoin_dom (H0 := H0) (H := H) hA hsub X.2.2.2.2.2.2.1 hS.1 hB.2) hS1 hL
theorem zi_callSvF (X : zX z l D cc own tys nL ret R nm) {y : MethodName} {bytes : ByteArray} {maxL n index : Nat} {rm : Room} {As : List Value} {hs : mH} {post : mH → Prop} {st0 : List Value} (hM : mCv l y bytes maxL rm D tys As hs post) (hc : mCal y bytes maxL none n) (hl : Cond.methodLink own index y ∈ mAll) (hw2 : Cond.static y ∈ mAll) (hsub : ∀ a e, hs a = some e → h a = some e) (hRm : rm.frames + 1 ≤ R.frames ∧ 8 + (maxL + 11) + rm.locals ≤ R.locals) (hn : As.length = n) (hst : st0 = As.reverse ++ st) (hroom : (st.map fun v => v.category).sum ≤ 8) (hf : cells + rm.cells ≤ R.cells ∧ slots + rm.slots ≤ R.slots) (hdg : decode cc pc = .ok (.invokestatic index, 3))
    (k : ∀ (h1 : mH), post h1 → zM z (cells + rm.cells) (slots + rm.slots) (pc + 3) L st (mjoin h hs h1)) : zM z cells slots pc L st0 h := by
  subst hst
  obtain ⟨p, l1, e, R1, s, m, args, below, meth, c, D1, A0, H0, nL1, Q⟩ := z
  obtain ⟨e1, e2, e3, e4, e5, X⟩ := X
  subst e1 e2 e3 e4
  intro H locs ls hR hA hS hL
  refine va_callv (va_runS (As := As) (rest := st) ⟨X.1, X.2.1, X.2.2.2.2.1, X.2.2.2.1, X.2.2.1⟩ (hM H.size) ⟨mcB X.2.2.1 hc hl hRm, X.2.2.1 _ hw2⟩ ⟨mPre_blind, fun U hU hW => ⟨rfl, by rw [hU], by rw [hU]; exact fun a x hx => hR a x (hsub a x hx), va_K.moved hW.alike X.2.2.2.2.2.1, mNG.warm hW e5.2.1, mST.call e5.2.2 hU hW hS hA hsub X.2.2.2.2.2.2.1⟩⟩ rfl hn hL.1 rfl (lv_room hroom) hdg hf) hS (fun q hq hz => ?_) (fun q hz => ?_) (fun u t H1 locs1 ht hvm hw hB hz1 hk1 hS1 => ?_)
  · rcases hz with ⟨x, hx⟩ | hz
    · exact hA q x (hsub q x hx)
    · exact absurd hq (Nat.not_lt.mpr hz)
  · rcases hz with ⟨x, hx⟩ | hz
    · exact hA q x (hsub q x hx)
    · exact X.2.2.2.2.2.2.1 q (Nat.le_trans hS.1 hz)
  · have hk2 := k u hw
    exact hk2 H1 locs1 ls (mjoin_R hR (by rw [← ht]; exact hB.1) hk1) (mjoin_dom (H0 := H0) (H := H) hA hsub X.2.2.2.2.2.2.1 hS.1 hB.2) hS1 hL
theorem zi_callSi (X : zX z l D cc own tys nL ret R nm) {y : MethodName} {bytes : ByteArray} {maxL n index : Nat} {ty : FieldType} {rm : Room} {As : List Value} {post : Int32 → mH → Prop} {st0 : List Value} (hM : mCi l y bytes maxL ty rm D tys As h post) (hc : mCal y bytes maxL (some ty) n) (hl : Cond.methodLink own index y ∈ mAll) (hw2 : Cond.static y ∈ mAll) (hRm : rm.frames + 1 ≤ R.frames ∧ 8 + (maxL + 11) + rm.locals ≤ R.locals) (hn : As.length = n) (hst : st0 = As.reverse ++ st) (hroom : (st.map fun v => v.category).sum ≤ 8) (hf : cells + rm.cells ≤ R.cells ∧ slots + rm.slots ≤ R.slots) (hdg : decode cc pc = .ok (.invokestatic index, 3))
    (k : ∀ (r : Int32) (h1 : mH), post r h1 → zM z (cells + rm.cells) (slots + rm.slots) (pc + 3) L (.int r :: st) h1) : zM z cells slots pc L st0 h := by
  subst hst
  have hsub : ∀ a e, h a = some e → h a = some e := fun _ _ z => z
  obtain ⟨p, l1, e, R1, s, m, args, below, meth, c, D1, A0, H0, nL1, Q⟩ := z
  obtain ⟨e1, e2, e3, e4, e5, X⟩ := X
  subst e1 e2 e3 e4
  intro H locs ls hR hA hS hL
  refine va_calli (va_runS (As := As) (rest := st) ⟨X.1, X.2.1, X.2.2.2.2.1, X.2.2.2.1, X.2.2.1⟩ (hM H.size) ⟨mcB X.2.2.1 hc hl hRm, X.2.2.1 _ hw2⟩ ⟨mPre_blind, fun U hU hW => ⟨rfl, by rw [hU], by rw [hU]; exact fun a x hx => hR a x (hsub a x hx), va_K.moved hW.alike X.2.2.2.2.2.1, mNG.warm hW e5.2.1, mST.call e5.2.2 hU hW hS hA hsub X.2.2.2.2.2.2.1⟩⟩ rfl hn hL.1 rfl (lv_room hroom) hdg hf) hS (fun q hq hz => ?_) (fun q hz => ?_) (fun r u t H1 locs1 ht hvm hw hB hz1 hk1 hS1 => ?_)
  · rcases hz with ⟨x, hx⟩ | hz
    · exact hA q x (hsub q x hx)
    · exact absurd hq (Nat.not_lt.mpr hz)
  · rcases hz with ⟨x, hx⟩ | hz
    · exact hA q x (hsub q x hx)
    · exact X.2.2.2.2.2.2.1 q (Nat.le_trans hS.1 hz)
  · have hk2 := k r u hw
    rw [← mjoin_self (h := h) (h1 := u)] at hk2
    exact hk2 H1 locs1 ls (mjoin_R hR (by rw [← ht]; exact hB.1) hk1) (mjoin_dom (H0 := H0) (H := H) hA hsub X.2.2.2.2.2.2.1 hS.1 hB.2) hS1 hL
theorem zi_callSiF (X : zX z l D cc own tys nL ret R nm) {y : MethodName} {bytes : ByteArray} {maxL n index : Nat} {ty : FieldType} {rm : Room} {As : List Value} {hs : mH} {post : Int32 → mH → Prop} {st0 : List Value} (hM : mCi l y bytes maxL ty rm D tys As hs post) (hc : mCal y bytes maxL (some ty) n) (hl : Cond.methodLink own index y ∈ mAll) (hw2 : Cond.static y ∈ mAll) (hsub : ∀ a e, hs a = some e → h a = some e) (hRm : rm.frames + 1 ≤ R.frames ∧ 8 + (maxL + 11) + rm.locals ≤ R.locals) (hn : As.length = n) (hst : st0 = As.reverse ++ st) (hroom : (st.map fun v => v.category).sum ≤ 8) (hf : cells + rm.cells ≤ R.cells ∧ slots + rm.slots ≤ R.slots) (hdg : decode cc pc = .ok (.invokestatic index, 3))
    (k : ∀ (r : Int32) (h1 : mH), post r h1 → zM z (cells + rm.cells) (slots + rm.slots) (pc + 3) L (.int r :: st) (mjoin h hs h1)) : zM z cells slots pc L st0 h := by
  subst hst
  obtain ⟨p, l1, e, R1, s, m, args, below, meth, c, D1, A0, H0, nL1, Q⟩ := z
  obtain ⟨e1, e2, e3, e4, e5, X⟩ := X
  subst e1 e2 e3 e4
  intro H locs ls hR hA hS hL
  refine va_calli (va_runS (As := As) (rest := st) ⟨X.1, X.2.1, X.2.2.2.2.1, X.2.2.2.1, X.2.2.1⟩ (hM H.size) ⟨mcB X.2.2.1 hc hl hRm, X.2.2.1 _ hw2⟩ ⟨mPre_blind, fun U hU hW => ⟨rfl, by rw [hU], by rw [hU]; exact fun a x hx => hR a x (hsub a x hx), va_K.moved hW.alike X.2.2.2.2.2.1, mNG.warm hW e5.2.1, mST.call e5.2.2 hU hW hS hA hsub X.2.2.2.2.2.2.1⟩⟩ rfl hn hL.1 rfl (lv_room hroom) hdg hf) hS (fun q hq hz => ?_) (fun q hz => ?_) (fun r u t H1 locs1 ht hvm hw hB hz1 hk1 hS1 => ?_)
  · rcases hz with ⟨x, hx⟩ | hz
    · exact hA q x (hsub q x hx)
    · exact absurd hq (Nat.not_lt.mpr hz)
  · rcases hz with ⟨x, hx⟩ | hz
    · exact hA q x (hsub q x hx)
    · exact X.2.2.2.2.2.2.1 q (Nat.le_trans hS.1 hz)
  · have hk2 := k r u hw
    exact hk2 H1 locs1 ls (mjoin_R hR (by rw [← ht]; exact hB.1) hk1) (mjoin_dom (H0 := H0) (H := H) hA hsub X.2.2.2.2.2.2.1 hS.1 hB.2) hS1 hL
theorem zi_callSl (X : zX z l D cc own tys nL ret R nm) {y : MethodName} {bytes : ByteArray} {maxL n index : Nat} {rm : Room} {As : List Value} {post : Int64 → mH → Prop} {st0 : List Value} (hM : mCl l y bytes maxL rm D tys As h post) (hc : mCal y bytes maxL (some .long) n) (hl : Cond.methodLink own index y ∈ mAll) (hw2 : Cond.static y ∈ mAll) (hRm : rm.frames + 1 ≤ R.frames ∧ 8 + (maxL + 11) + rm.locals ≤ R.locals) (hn : As.length = n) (hst : st0 = As.reverse ++ st) (hroom : (st.map fun v => v.category).sum ≤ 8) (hf : cells + rm.cells ≤ R.cells ∧ slots + rm.slots ≤ R.slots) (hdg : decode cc pc = .ok (.invokestatic index, 3))
    (k : ∀ (r : Int64) (h1 : mH), post r h1 → zM z (cells + rm.cells) (slots + rm.slots) (pc + 3) L (.long r :: st) h1) : zM z cells slots pc L st0 h := by
  subst hst
  have hsub : ∀ a e, h a = some e → h a = some e := fun _ _ z => z
  obtain ⟨p, l1, e, R1, s, m, args, below, meth, c, D1, A0, H0, nL1, Q⟩ := z
  obtain ⟨e1, e2, e3, e4, e5, X⟩ := X
  subst e1 e2 e3 e4
  intro H locs ls hR hA hS hL
  refine va_calll (va_runS (As := As) (rest := st) ⟨X.1, X.2.1, X.2.2.2.2.1, X.2.2.2.1, X.2.2.1⟩ (hM H.size) ⟨mcB X.2.2.1 hc hl hRm, X.2.2.1 _ hw2⟩ ⟨mPre_blind, fun U hU hW => ⟨rfl, by rw [hU], by rw [hU]; exact fun a x hx => hR a x (hsub a x hx), va_K.moved hW.alike X.2.2.2.2.2.1, mNG.warm hW e5.2.1, mST.call e5.2.2 hU hW hS hA hsub X.2.2.2.2.2.2.1⟩⟩ rfl hn hL.1 rfl (lv_room hroom) hdg hf) hS (fun q hq hz => ?_) (fun q hz => ?_) (fun r u t H1 locs1 ht hvm hw hB hz1 hk1 hS1 => ?_)
  · rcases hz with ⟨x, hx⟩ | hz
    · exact hA q x (hsub q x hx)
    · exact absurd hq (Nat.not_lt.mpr hz)
  · rcases hz with ⟨x, hx⟩ | hz
    · exact hA q x (hsub q x hx)
    · exact X.2.2.2.2.2.2.1 q (Nat.le_trans hS.1 hz)
  · have hk2 := k r u hw
    rw [← mjoin_self (h := h) (h1 := u)] at hk2
    exact hk2 H1 locs1 ls (mjoin_R hR (by rw [← ht]; exact hB.1) hk1) (mjoin_dom (H0 := H0) (H := H) hA hsub X.2.2.2.2.2.2.1 hS.1 hB.2) hS1 hL
theorem zi_callSlF (X : zX z l D cc own tys nL ret R nm) {y : MethodName} {bytes : ByteArray} {maxL n index : Nat} {rm : Room} {As : List Value} {hs : mH} {post : Int64 → mH → Prop} {st0 : List Value} (hM : mCl l y bytes maxL rm D tys As hs post) (hc : mCal y bytes maxL (some .long) n) (hl : Cond.methodLink own index y ∈ mAll) (hw2 : Cond.static y ∈ mAll) (hsub : ∀ a e, hs a = some e → h a = some e) (hRm : rm.frames + 1 ≤ R.frames ∧ 8 + (maxL + 11) + rm.locals ≤ R.locals) (hn : As.length = n) (hst : st0 = As.reverse ++ st) (hroom : (st.map fun v => v.category).sum ≤ 8) (hf : cells + rm.cells ≤ R.cells ∧ slots + rm.slots ≤ R.slots) (hdg : decode cc pc = .ok (.invokestatic index, 3))
    (k : ∀ (r : Int64) (h1 : mH), post r h1 → zM z (cells + rm.cells) (slots + rm.slots) (pc + 3) L (.long r :: st) (mjoin h hs h1)) : zM z cells slots pc L st0 h := by
  subst hst
  obtain ⟨p, l1, e, R1, s, m, args, below, meth, c, D1, A0, H0, nL1, Q⟩ := z
  obtain ⟨e1, e2, e3, e4, e5, X⟩ := X
  subst e1 e2 e3 e4
  intro H locs ls hR hA hS hL
  refine va_calll (va_runS (As := As) (rest := st) ⟨X.1, X.2.1, X.2.2.2.2.1, X.2.2.2.1, X.2.2.1⟩ (hM H.size) ⟨mcB X.2.2.1 hc hl hRm, X.2.2.1 _ hw2⟩ ⟨mPre_blind, fun U hU hW => ⟨rfl, by rw [hU], by rw [hU]; exact fun a x hx => hR a x (hsub a x hx), va_K.moved hW.alike X.2.2.2.2.2.1, mNG.warm hW e5.2.1, mST.call e5.2.2 hU hW hS hA hsub X.2.2.2.2.2.2.1⟩⟩ rfl hn hL.1 rfl (lv_room hroom) hdg hf) hS (fun q hq hz => ?_) (fun q hz => ?_) (fun r u t H1 locs1 ht hvm hw hB hz1 hk1 hS1 => ?_)
  · rcases hz with ⟨x, hx⟩ | hz
    · exact hA q x (hsub q x hx)
    · exact absurd hq (Nat.not_lt.mpr hz)
  · rcases hz with ⟨x, hx⟩ | hz
    · exact hA q x (hsub q x hx)
    · exact X.2.2.2.2.2.2.1 q (Nat.le_trans hS.1 hz)
  · have hk2 := k r u hw
    exact hk2 H1 locs1 ls (mjoin_R hR (by rw [← ht]; exact hB.1) hk1) (mjoin_dom (H0 := H0) (H := H) hA hsub X.2.2.2.2.2.2.1 hS.1 hB.2) hS1 hL
theorem zi_callSr (X : zX z l D cc own tys nL ret R nm) {y : MethodName} {bytes : ByteArray} {maxL n index : Nat} {ty : FieldType} {rm : Room} {As : List Value} {post : Nat → mH → Prop} {st0 : List Value} (hM : mCr l y bytes maxL ty rm D tys As h post) (hc : mCal y bytes maxL (some ty) n) (hl : Cond.methodLink own index y ∈ mAll) (hw2 : Cond.static y ∈ mAll) (hRm : rm.frames + 1 ≤ R.frames ∧ 8 + (maxL + 11) + rm.locals ≤ R.locals) (hn : As.length = n) (hst : st0 = As.reverse ++ st) (hroom : (st.map fun v => v.category).sum ≤ 8) (hf : cells + rm.cells ≤ R.cells ∧ slots + rm.slots ≤ R.slots) (hdg : decode cc pc = .ok (.invokestatic index, 3))
    (k : ∀ (r : Nat) (h1 : mH), post r h1 → zM z (cells + rm.cells) (slots + rm.slots) (pc + 3) L (.ref r :: st) h1) : zM z cells slots pc L st0 h := by
  subst hst
  have hsub : ∀ a e, h a = some e → h a = some e := fun _ _ z => z
  obtain ⟨p, l1, e, R1, s, m, args, below, meth, c, D1, A0, H0, nL1, Q⟩ := z
  obtain ⟨e1, e2, e3, e4, e5, X⟩ := X
  subst e1 e2 e3 e4
  intro H locs ls hR hA hS hL
  refine va_callr (va_runS (As := As) (rest := st) ⟨X.1, X.2.1, X.2.2.2.2.1, X.2.2.2.1, X.2.2.1⟩ (hM H.size) ⟨mcB X.2.2.1 hc hl hRm, X.2.2.1 _ hw2⟩ ⟨mPre_blind, fun U hU hW => ⟨rfl, by rw [hU], by rw [hU]; exact fun a x hx => hR a x (hsub a x hx), va_K.moved hW.alike X.2.2.2.2.2.1, mNG.warm hW e5.2.1, mST.call e5.2.2 hU hW hS hA hsub X.2.2.2.2.2.2.1⟩⟩ rfl hn hL.1 rfl (lv_room hroom) hdg hf) hS (fun q hq hz => ?_) (fun q hz => ?_) (fun u r t H1 locs1 ht hvm hw hB hz1 hk1 hS1 => ?_)
  · rcases hz with ⟨x, hx⟩ | hz
    · exact hA q x (hsub q x hx)
    · exact absurd hq (Nat.not_lt.mpr hz)
  · rcases hz with ⟨x, hx⟩ | hz
    · exact hA q x (hsub q x hx)
    · exact X.2.2.2.2.2.2.1 q (Nat.le_trans hS.1 hz)
  ·
    obtain ⟨rfl, hB⟩ := hB
    have hk2 := k u.1 u.2 hw
    rw [← mjoin_self (h := h) (h1 := u.2)] at hk2
    exact hk2 H1 locs1 ls (mjoin_R hR (by rw [← ht]; exact hB.1) hk1) (mjoin_dom (H0 := H0) (H := H) hA hsub X.2.2.2.2.2.2.1 hS.1 hB.2) hS1 hL
theorem zi_callSrF (X : zX z l D cc own tys nL ret R nm) {y : MethodName} {bytes : ByteArray} {maxL n index : Nat} {ty : FieldType} {rm : Room} {As : List Value} {hs : mH} {post : Nat → mH → Prop} {st0 : List Value} (hM : mCr l y bytes maxL ty rm D tys As hs post) (hc : mCal y bytes maxL (some ty) n) (hl : Cond.methodLink own index y ∈ mAll) (hw2 : Cond.static y ∈ mAll) (hsub : ∀ a e, hs a = some e → h a = some e) (hRm : rm.frames + 1 ≤ R.frames ∧ 8 + (maxL + 11) + rm.locals ≤ R.locals) (hn : As.length = n) (hst : st0 = As.reverse ++ st) (hroom : (st.map fun v => v.category).sum ≤ 8) (hf : cells + rm.cells ≤ R.cells ∧ slots + rm.slots ≤ R.slots) (hdg : decode cc pc = .ok (.invokestatic index, 3))
    (k : ∀ (r : Nat) (h1 : mH), post r h1 → zM z (cells + rm.cells) (slots + rm.slots) (pc + 3) L (.ref r :: st) (mjoin h hs h1)) : zM z cells slots pc L st0 h := by
  subst hst
  obtain ⟨p, l1, e, R1, s, m, args, below, meth, c, D1, A0, H0, nL1, Q⟩ := z
  obtain ⟨e1, e2, e3, e4, e5, X⟩ := X
  subst e1 e2 e3 e4
  intro H locs ls hR hA hS hL
  refine va_callr (va_runS (As := As) (rest := st) ⟨X.1, X.2.1, X.2.2.2.2.1, X.2.2.2.1, X.2.2.1⟩ (hM H.size) ⟨mcB X.2.2.1 hc hl hRm, X.2.2.1 _ hw2⟩ ⟨mPre_blind, fun U hU hW => ⟨rfl, by rw [hU], by rw [hU]; exact fun a x hx => hR a x (hsub a x hx), va_K.moved hW.alike X.2.2.2.2.2.1, mNG.warm hW e5.2.1, mST.call e5.2.2 hU hW hS hA hsub X.2.2.2.2.2.2.1⟩⟩ rfl hn hL.1 rfl (lv_room hroom) hdg hf) hS (fun q hq hz => ?_) (fun q hz => ?_) (fun u r t H1 locs1 ht hvm hw hB hz1 hk1 hS1 => ?_)
  · rcases hz with ⟨x, hx⟩ | hz
    · exact hA q x (hsub q x hx)
    · exact absurd hq (Nat.not_lt.mpr hz)
  · rcases hz with ⟨x, hx⟩ | hz
    · exact hA q x (hsub q x hx)
    · exact X.2.2.2.2.2.2.1 q (Nat.le_trans hS.1 hz)
  ·
    obtain ⟨rfl, hB⟩ := hB
    have hk2 := k u.1 u.2 hw
    exact hk2 H1 locs1 ls (mjoin_R hR (by rw [← ht]; exact hB.1) hk1) (mjoin_dom (H0 := H0) (H := H) hA hsub X.2.2.2.2.2.2.1 hS.1 hB.2) hS1 hL
theorem zi_callIv (X : zX z l D cc own tys nL ret R nm) {y : MethodName} {bytes : ByteArray} {maxL n index : Nat} {rm : Room} {As : List Value} {b : Nat} {host : String} {post : mH → Prop} {st0 : List Value} (hM : mCv l y bytes maxL rm D tys (.ref b :: As) h post) (hc : mCal y bytes maxL none n) (hl : Cond.methodLink own index y ∈ mAll) (hw2 : Cond.instanceMethod y ∈ mAll) (hin : y.name = "<init>") (hRm : rm.frames + 1 ≤ R.frames ∧ 8 + (maxL + 11) + rm.locals ≤ R.locals) (hn : As.length = n) (hst : st0 = As.reverse ++ .ref b :: st) (hroom : (st.map fun v => v.category).sum ≤ 8) (hf : cells + rm.cells ≤ R.cells ∧ slots + rm.slots ≤ R.slots) (hdg : decode cc pc = .ok (.invokespecial index, 3))
    (k : ∀ (h1 : mH), post h1 → zM z (cells + rm.cells) (slots + rm.slots) (pc + 3) L st h1) : zM z cells slots pc L st0 h := by
  subst hst
  have hsub : ∀ a e, h a = some e → h a = some e := fun _ _ z => z
  obtain ⟨p, l1, e, R1, s, m, args, below, meth, c, D1, A0, H0, nL1, Q⟩ := z
  obtain ⟨e1, e2, e3, e4, e5, X⟩ := X
  subst e1 e2 e3 e4
  intro H locs ls hR hA hS hL
  refine va_callv (va_runI (As := As) (rest := st) ⟨X.1, X.2.1, X.2.2.2.2.1, X.2.2.2.1, X.2.2.1⟩ (hM H.size) ⟨mcB X.2.2.1 hc hl hRm, hin, X.2.2.1 _ hw2⟩ ⟨mPre_blind, fun U hU hW => ⟨rfl, by rw [hU], by rw [hU]; exact fun a x hx => hR a x (hsub a x hx), va_K.moved hW.alike X.2.2.2.2.2.1, mNG.warm hW e5.2.1, mST.call e5.2.2 hU hW hS hA hsub X.2.2.2.2.2.2.1⟩⟩ rfl hn hL.1 rfl (lv_room hroom) hdg hf) hS (fun q hq hz => ?_) (fun q hz => ?_) (fun u t H1 locs1 ht hvm hw hB hz1 hk1 hS1 => ?_)
  · rcases hz with ⟨x, hx⟩ | hz
    · exact hA q x (hsub q x hx)
    · exact absurd hq (Nat.not_lt.mpr hz)
  · rcases hz with ⟨x, hx⟩ | hz
    · exact hA q x (hsub q x hx)
    · exact X.2.2.2.2.2.2.1 q (Nat.le_trans hS.1 hz)
  · have hk2 := k u hw
    rw [← mjoin_self (h := h) (h1 := u)] at hk2
    exact hk2 H1 locs1 ls (mjoin_R hR (by rw [← ht]; exact hB.1) hk1) (mjoin_dom (H0 := H0) (H := H) hA hsub X.2.2.2.2.2.2.1 hS.1 hB.2) hS1 hL
theorem zi_callIvF (X : zX z l D cc own tys nL ret R nm) {y : MethodName} {bytes : ByteArray} {maxL n index : Nat} {rm : Room} {As : List Value} {hs : mH} {b : Nat} {host : String} {post : mH → Prop} {st0 : List Value} (hM : mCv l y bytes maxL rm D tys (.ref b :: As) hs post) (hc : mCal y bytes maxL none n) (hl : Cond.methodLink own index y ∈ mAll) (hw2 : Cond.instanceMethod y ∈ mAll) (hin : y.name = "<init>") (hsub : ∀ a e, hs a = some e → h a = some e) (hRm : rm.frames + 1 ≤ R.frames ∧ 8 + (maxL + 11) + rm.locals ≤ R.locals) (hn : As.length = n) (hst : st0 = As.reverse ++ .ref b :: st) (hroom : (st.map fun v => v.category).sum ≤ 8) (hf : cells + rm.cells ≤ R.cells ∧ slots + rm.slots ≤ R.slots) (hdg : decode cc pc = .ok (.invokespecial index, 3))
    (k : ∀ (h1 : mH), post h1 → zM z (cells + rm.cells) (slots + rm.slots) (pc + 3) L st (mjoin h hs h1)) : zM z cells slots pc L st0 h := by
  subst hst
  obtain ⟨p, l1, e, R1, s, m, args, below, meth, c, D1, A0, H0, nL1, Q⟩ := z
  obtain ⟨e1, e2, e3, e4, e5, X⟩ := X
  subst e1 e2 e3 e4
  intro H locs ls hR hA hS hL
  refine va_callv (va_runI (As := As) (rest := st) ⟨X.1, X.2.1, X.2.2.2.2.1, X.2.2.2.1, X.2.2.1⟩ (hM H.size) ⟨mcB X.2.2.1 hc hl hRm, hin, X.2.2.1 _ hw2⟩ ⟨mPre_blind, fun U hU hW => ⟨rfl, by rw [hU], by rw [hU]; exact fun a x hx => hR a x (hsub a x hx), va_K.moved hW.alike X.2.2.2.2.2.1, mNG.warm hW e5.2.1, mST.call e5.2.2 hU hW hS hA hsub X.2.2.2.2.2.2.1⟩⟩ rfl hn hL.1 rfl (lv_room hroom) hdg hf) hS (fun q hq hz => ?_) (fun q hz => ?_) (fun u t H1 locs1 ht hvm hw hB hz1 hk1 hS1 => ?_)
  · rcases hz with ⟨x, hx⟩ | hz
    · exact hA q x (hsub q x hx)
    · exact absurd hq (Nat.not_lt.mpr hz)
  · rcases hz with ⟨x, hx⟩ | hz
    · exact hA q x (hsub q x hx)
    · exact X.2.2.2.2.2.2.1 q (Nat.le_trans hS.1 hz)
  · have hk2 := k u hw
    exact hk2 H1 locs1 ls (mjoin_R hR (by rw [← ht]; exact hB.1) hk1) (mjoin_dom (H0 := H0) (H := H) hA hsub X.2.2.2.2.2.2.1 hS.1 hB.2) hS1 hL
theorem zi_callNv (X : zX z l D cc own tys nL ret R nm) {y : MethodName} {bytes : ByteArray} {maxL n index : Nat} {rm : Room} {As : List Value} {b : Nat} {host : String} {post : mH → Prop} {st0 : List Value} (hM : mCv l y bytes maxL rm D tys (.ref b :: As) h post) (hc : mCal y bytes maxL none n) (hw2 : Cond.instanceMethod y ∈ mAll) (hin : y.name = "<init>") (hnest : zN z (.methodLinkNest own index y host)) (hRm : rm.frames + 1 ≤ R.frames ∧ 8 + (maxL + 11) + rm.locals ≤ R.locals) (hn : As.length = n) (hst : st0 = As.reverse ++ .ref b :: st) (hroom : (st.map fun v => v.category).sum ≤ 8) (hf : cells + rm.cells ≤ R.cells ∧ slots + rm.slots ≤ R.slots) (hdg : decode cc pc = .ok (.invokespecial index, 3))
    (k : ∀ (h1 : mH), post h1 → zM z (cells + rm.cells) (slots + rm.slots) (pc + 3) L st h1) : zM z cells slots pc L st0 h := by
  subst hst
  have hsub : ∀ a e, h a = some e → h a = some e := fun _ _ z => z
  obtain ⟨p, l1, e, R1, s, m, args, below, meth, c, D1, A0, H0, nL1, Q⟩ := z
  obtain ⟨e1, e2, e3, e4, e5, X⟩ := X
  subst e1 e2 e3 e4
  intro H locs ls hR hA hS hL
  refine va_callv (va_runIN (As := As) (rest := st) ⟨X.1, X.2.1, X.2.2.2.2.1, X.2.2.2.1, X.2.2.1⟩ (hM H.size) ⟨va_cnB (Ts := mAll) n X.2.2.1 (mGood hc.2.1) rfl rfl rfl hnest (X.2.2.1 _ hc.1) hc.2.2 hRm, hin, X.2.2.1 _ hw2⟩ ⟨mPre_blind, fun U hU hW => ⟨rfl, by rw [hU], by rw [hU]; exact fun a x hx => hR a x (hsub a x hx), va_K.moved hW.alike X.2.2.2.2.2.1, mNG.warm hW e5.2.1, mST.call e5.2.2 hU hW hS hA hsub X.2.2.2.2.2.2.1⟩⟩ rfl hn hL.1 rfl (lv_room hroom) hdg hf) hS (fun q hq hz => ?_) (fun q hz => ?_) (fun u t H1 locs1 ht hvm hw hB hz1 hk1 hS1 => ?_)
  · rcases hz with ⟨x, hx⟩ | hz
    · exact hA q x (hsub q x hx)
    · exact absurd hq (Nat.not_lt.mpr hz)
  · rcases hz with ⟨x, hx⟩ | hz
    · exact hA q x (hsub q x hx)
    · exact X.2.2.2.2.2.2.1 q (Nat.le_trans hS.1 hz)
  · have hk2 := k u hw
    rw [← mjoin_self (h := h) (h1 := u)] at hk2
    exact hk2 H1 locs1 ls (mjoin_R hR (by rw [← ht]; exact hB.1) hk1) (mjoin_dom (H0 := H0) (H := H) hA hsub X.2.2.2.2.2.2.1 hS.1 hB.2) hS1 hL
theorem zi_callNvF (X : zX z l D cc own tys nL ret R nm) {y : MethodName} {bytes : ByteArray} {maxL n index : Nat} {rm : Room} {As : List Value} {hs : mH} {b : Nat} {host : String} {post : mH → Prop} {st0 : List Value} (hM : mCv l y bytes maxL rm D tys (.ref b :: As) hs post) (hc : mCal y bytes maxL none n) (hw2 : Cond.instanceMethod y ∈ mAll) (hin : y.name = "<init>") (hnest : zN z (.methodLinkNest own index y host)) (hsub : ∀ a e, hs a = some e → h a = some e) (hRm : rm.frames + 1 ≤ R.frames ∧ 8 + (maxL + 11) + rm.locals ≤ R.locals) (hn : As.length = n) (hst : st0 = As.reverse ++ .ref b :: st) (hroom : (st.map fun v => v.category).sum ≤ 8) (hf : cells + rm.cells ≤ R.cells ∧ slots + rm.slots ≤ R.slots) (hdg : decode cc pc = .ok (.invokespecial index, 3))
    (k : ∀ (h1 : mH), post h1 → zM z (cells + rm.cells) (slots + rm.slots) (pc + 3) L st (mjoin h hs h1)) : zM z cells slots pc L st0 h := by
  subst hst
  obtain ⟨p, l1, e, R1, s, m, args, below, meth, c, D1, A0, H0, nL1, Q⟩ := z
  obtain ⟨e1, e2, e3, e4, e5, X⟩ := X
  subst e1 e2 e3 e4
  intro H locs ls hR hA hS hL
  refine va_callv (va_runIN (As := As) (rest := st) ⟨X.1, X.2.1, X.2.2.2.2.1, X.2.2.2.1, X.2.2.1⟩ (hM H.size) ⟨va_cnB (Ts := mAll) n X.2.2.1 (mGood hc.2.1) rfl rfl rfl hnest (X.2.2.1 _ hc.1) hc.2.2 hRm, hin, X.2.2.1 _ hw2⟩ ⟨mPre_blind, fun U hU hW => ⟨rfl, by rw [hU], by rw [hU]; exact fun a x hx => hR a x (hsub a x hx), va_K.moved hW.alike X.2.2.2.2.2.1, mNG.warm hW e5.2.1, mST.call e5.2.2 hU hW hS hA hsub X.2.2.2.2.2.2.1⟩⟩ rfl hn hL.1 rfl (lv_room hroom) hdg hf) hS (fun q hq hz => ?_) (fun q hz => ?_) (fun u t H1 locs1 ht hvm hw hB hz1 hk1 hS1 => ?_)
  · rcases hz with ⟨x, hx⟩ | hz
    · exact hA q x (hsub q x hx)
    · exact absurd hq (Nat.not_lt.mpr hz)
  · rcases hz with ⟨x, hx⟩ | hz
    · exact hA q x (hsub q x hx)
    · exact X.2.2.2.2.2.2.1 q (Nat.le_trans hS.1 hz)
  · have hk2 := k u hw
    exact hk2 H1 locs1 ls (mjoin_R hR (by rw [← ht]; exact hB.1) hk1) (mjoin_dom (H0 := H0) (H := H) hA hsub X.2.2.2.2.2.2.1 hS.1 hB.2) hS1 hL
end MROWS2
