/-! more rows: statics, ArrayList's empty row, casts, references into rows of Object, arraycopy of references, getClass -/
theorem wx_same : Cond.sameField "java/util/ArrayList" "java/util/AbstractList" "modCount" "I" ∈ mAll := mAll_of (List.mem_append_right _ (List.mem_append_left _ (List.mem_of_getElem? (l := tables_1_1) (i := 182) rfl))) rfl
theorem wx_gci : Cond.instanceMethod ⟨"java/lang/Object", "getClass", "()Ljava/lang/Class;"⟩ ∈ mAll := mAll_of (List.mem_append_right _ (List.mem_append_right _ (List.mem_append_right _ (List.mem_append_right _ (List.mem_append_right _ (List.mem_append_left _ (List.mem_of_getElem? (l := tables_1_5) (i := 211) rfl))))))) rfl
theorem wx_gcs : Cond.selects "[Ljava/lang/Object;" ⟨"java/lang/Object", "getClass", "()Ljava/lang/Class;"⟩ ⟨"java/lang/Object", "getClass", "()Ljava/lang/Class;"⟩ ∈ mAll := mAll_of (List.mem_append_right _ (List.mem_append_right _ (List.mem_append_right _ (List.mem_append_right _ (List.mem_append_right _ (List.mem_append_right _ (List.mem_append_right _ (List.mem_append_right _ (List.mem_of_getElem? (l := tables_1_8) (i := 27) rfl))))))))) rfl
theorem wb_gcd : Cond.declares ⟨"java/lang/Object", "getClass", "()Ljava/lang/Class;"⟩ ∈ mBad := List.mem_filter.mpr ⟨(List.mem_append_right _ (List.mem_append_right _ (List.mem_append_right _ (List.mem_append_right _ (List.mem_append_right _ (List.mem_append_right _ (List.mem_append_right _ (List.mem_append_right _ (List.mem_of_getElem? (l := tables_1_8) (i := 28) rfl))))))))), rfl⟩
theorem wb_X2 : Cond.castable RX2 "java/lang/Object" ∈ mBad := List.mem_filter.mpr ⟨(List.mem_append_right _ (List.mem_append_right _ (List.mem_append_right _ (List.mem_append_right _ (List.mem_append_right _ (List.mem_append_right _ (List.mem_append_right _ (List.mem_append_right _ (List.mem_of_getElem? (l := tables_1_8) (i := 22) rfl))))))))), rfl⟩
theorem wb_obj : Cond.arrayOver (.object "java/lang/Object") ∈ mBad := List.mem_filter.mpr ⟨(List.mem_append_right _ (List.mem_append_right _ (List.mem_append_right _ (List.mem_append_right _ (List.mem_append_right _ (List.mem_append_left _ (List.mem_of_getElem? (l := tables_1_5) (i := 235) rfl))))))), rfl⟩
theorem wb_X1 : Cond.arrayOver (.object RX1) ∈ mBad := List.mem_filter.mpr ⟨(List.mem_append_right _ (List.mem_append_left _ (List.mem_of_getElem? (l := tables_1_1) (i := 79) rfl))), rfl⟩
theorem wb_X4 : Cond.arrayOver (.object RX4) ∈ mBad := List.mem_filter.mpr ⟨(List.mem_append_right _ (List.mem_append_left _ (List.mem_of_getElem? (l := tables_1_1) (i := 144) rfl))), rfl⟩
theorem wb_I : Cond.arrayOver (.array .int) ∈ mBad := List.mem_filter.mpr ⟨(List.mem_append_right _ (List.mem_append_left _ (List.mem_of_getElem? (l := tables_1_1) (i := 43) rfl))), rfl⟩
theorem wb_II : Cond.arrayOver (.array (.array .int)) ∈ mBad := List.mem_filter.mpr ⟨(List.mem_append_right _ (List.mem_append_right _ (List.mem_append_right _ (List.mem_append_right _ (List.mem_append_right _ (List.mem_append_right _ (List.mem_append_left _ (List.mem_of_getElem? (l := tables_1_6) (i := 74) rfl)))))))), rfl⟩
section MROWS3
variable {z : mZ} {l : Launch} {R : Room} {D : va_G} {nL : Nat} {cells slots : Nat}
variable {cc : ByteArray} {own nm : String} {tys : List (ClassId × FieldType)} {ret : Option FieldType} {pc : Nat} {L : List (Option Value)} {st : List Value} {h : mH}
def zS (z : mZ) : State := match z with
  | (_, _, _, _, s, _) => s
theorem zN_of (X : zX z l D cc own tys nL ret R nm) {w : Cond} (hw : w ∈ mBad) : zN z w := by
  obtain ⟨p, l1, e, R1, s, m, args, below, meth, c, D1, A0, H0, nL1, Q⟩ := z
  obtain ⟨e1, e2, e3, e4, e5, X⟩ := X
  exact e5.2.1 w hw
/-- a row whose elements are rows -/
theorem zi_aaldA (X : zX z l D cc own tys nL ret R nm) {a : Nat} (t0 : Nat) {cA : ClassId} {ty : FieldType} {n : Nat} {f : Nat → Option Nat} {i : Int32} {r : Nat} (ha : h a = some (.inl (cA, n, .inr (.inr (.inr (.inr f)))))) (ht : tys[t0]? = some (cA, .array ty)) (hi : vp_in i n) (hr : f i.toNatClampNeg = some r) (hdg : decode cc pc = .ok (.aaload, 1)) (k : zM z cells slots (pc + 1) L (.ref r :: st) h) : zM z cells slots pc L (.int i :: .ref a :: st) h := by
  obtain ⟨p, l1, e, R1, s, m, args, below, meth, c, D1, A0, H0, nL1, Q⟩ := z
  obtain ⟨e1, e2, e3, e4, e5, X⟩ := X
  subst e1 e2 e3 e4
  intro H locs ls hR hA hS hL
  obtain ⟨q, hq⟩ := mR_get hR ha
  have hlt : i.toNatClampNeg < n := Nat.not_le.mp fun q => hi (Or.inr q)
  have hk := k H locs ls hR hA hS hL
  rw [show (Value.ref r) = va_rf (f i.toNatClampNeg) by rw [hr]; rfl] at hk
  exact W.aald (v := va_rf (f i.toNatClampNeg)) (ty := .array ty) X.1 X.2.1 (mR_P hR q _ hq) ((X.2.2.2.2.2.1.2 t0 _ ht).1 n (fun j => va_rf (f j))) rfl (fun q => by cases q) (by show ¬ (i < 0 ∨ (arrV _ _ _).slots.size ≤ _); rw [arrV_size]; exact hi) (by show (arrV _ _ _).slots[_]? = _; rw [arrV_read _ _ hlt]) rfl rfl hdg hk
/-- ArrayList's empty row -/
theorem zi_getsE (X : zX z l D cc own tys nL ret R nm) {index : Nat} (hlink : Cond.fieldLink own index mAL mALe mALd ∈ mAll) (hdg : decode cc pc = .ok (.getstatic index, 3)) (k : zM z cells slots (pc + 3) L (.ref (D.2 1000 0) :: st) h) : zM z cells slots pc L st h := by
  obtain ⟨p, l1, e, R1, s, m, args, below, meth, c, D1, A0, H0, nL1, Q⟩ := z
  obtain ⟨e1, e2, e3, e4, e5, X⟩ := X
  subst e1 e2 e3 e4
  intro H locs ls hR hA hS hL
  obtain ⟨-, -, e6, e7⟩ := e5
  subst e6
  exact va_gets X.1 X.2.1 e7.2.2.1 hS X.2.2.2.1 (X.2.2.1 _ hlink) (fun _ z => z) hdg (k H locs ls hR hA hS hL)
theorem zi_alenE (X : zX z l D cc own tys nL ret R nm) (hdg : decode cc pc = .ok (.arraylength, 1)) (k : zM z cells slots (pc + 1) L (.int 0 :: st) h) : zM z cells slots pc L (.ref (D.2 1000 0) :: st) h := by
  obtain ⟨p, l1, e, R1, s, m, args, below, meth, c, D1, A0, H0, nL1, Q⟩ := z
  obtain ⟨e1, e2, e3, e4, e5, X⟩ := X
  subst e1 e2 e3 e4
  intro H locs ls hR hA hS hL
  obtain ⟨-, -, e6, e7⟩ := e5
  subst e6
  obtain ⟨cell, c1, c2, c3, c4⟩ := e7.2.2.2.1
  have hlt := (Array.getElem?_eq_some_iff.mp c1).1
  exact W.alen (n := 0) X.1 X.2.1 (by rw [hS.2.1 _ hlt e7.2.2.2.2.1]; exact c1) c2 (by rw [c4] <;> rfl) rfl rfl hdg (k H locs ls hR hA hS hL)
theorem zi_acmp_eq (X : zX z l D cc own tys nL ret R nm) {x y : Nat} {off : Int} {tgt : Nat} (hdg : decode cc pc = .ok (.if_acmp .eq off, 3)) (ht : (pc : Int) + off = (tgt : Int)) (kt : x = y → zM z cells slots tgt L st h) (kf : ¬ x = y → zM z cells slots (pc + 3) L st h) : zM z cells slots pc L (.ref y :: .ref x :: st) h := by
  obtain ⟨p, l1, e, R1, s, m, args, below, meth, c, D1, A0, H0, nL1, Q⟩ := z
  obtain ⟨e1, e2, e3, e4, e5, X⟩ := X
  subst e1 e2 e3 e4
  intro H locs ls hR hA hS hL
  exact lv_acmp_eq (rx := some x) (ry := some y) X.1 X.2.1 hdg ht (fun q => kt (Option.some.inj q) H locs ls hR hA hS hL) (fun q => kf (fun w => q (by rw [w])) H locs ls hR hA hS hL)
theorem zi_ishr (X : zX z l D cc own tys nL ret R nm) {x y : Int32} (hdg : decode cc pc = .ok (.ishr, 1)) (k : zM z cells slots (pc + 1) L (.int (x >>> (y &&& 31)) :: st) h) : zM z cells slots pc L (.int y :: .int x :: st) h := by
  obtain ⟨p, l1, e, R1, s, m, args, below, meth, c, D1, A0, H0, nL1, Q⟩ := z
  obtain ⟨e1, e2, e3, e4, e5, X⟩ := X
  subst e1 e2 e3 e4
  intro H locs ls hR hA hS hL
  exact lv_ishr X.1 X.2.1 hdg (k H locs ls hR hA hS hL)
theorem zi_cast (X : zX z l D cc own tys nL ret R nm) {index a ci N : Nat} {C : String} {T : u_T} {fs : List Value} (hlink : Cond.classLink own index C ∈ mAll) (he : h a = some (.inr (ci, fs))) (hc : vwCl[ci]? = some (C, T, N)) (hdg : decode cc pc = .ok (.checkcast index, 3)) (k : zM z cells slots (pc + 3) L (.ref a :: st) h) : zM z cells slots pc L (.ref a :: st) h := by
  obtain ⟨p, l1, e, R1, s, m, args, below, meth, c, D1, A0, H0, nL1, Q⟩ := z
  obtain ⟨e1, e2, e3, e4, e5, X⟩ := X
  subst e1 e2 e3 e4
  intro H locs ls hR hA hS hL
  obtain ⟨q, hq⟩ := mR_get hR he
  exact va_castS X.1 X.2.1 X.2.2.2.1 (X.2.2.1 _ hlink) (X.2.2.2.2.2.1.1 ci _ hc).2 (va_recv X.2.2.2.2.2.1 (mR_P hR) hc hq) hdg (k H locs ls hR hA hS hL)
/-- into a row of Object -/
theorem zi_astqO (X : zX z l D cc own tys nL ret R nm) {a v : Nat} (t0 : Nat) {cA : ClassId} {E : String} {r : vw_C} {n ci : Nat} {vs : List Value} {f : Nat → Option Nat} {i : Int32} (ha : h a = some (.inl (cA, n, .inr (.inr (.inr (.inr f)))))) (ht : tys[t0]? = some (cA, .object E)) (hca : Cond.castable r.1 E ∈ mBad) (hv : h v = some (.inr (ci, vs))) (hc : vwCl[ci]? = some r) (hi : vp_in i n) (hdg : decode cc pc = .ok (.aastore, 1)) (k : zM z cells slots (pc + 1) L st (mup h a (.inl (cA, n, .inr (.inr (.inr (.inr (va_up f i.toNatClampNeg (some v))))))))) : zM z cells slots pc L (.ref v :: .int i :: .ref a :: st) h := by
  obtain ⟨p, l1, e, R1, s, m, args, below, meth, c, D1, A0, H0, nL1, Q⟩ := z
  obtain ⟨e1, e2, e3, e4, e5, X⟩ := X
  subst e1 e2 e3 e4
  intro H locs ls hR hA hS hL
  obtain ⟨q, hq⟩ := mR_get hR ha
  obtain ⟨q2, hq2⟩ := mR_get hR hv
  exact va_astqO X.1 X.2.1 X.2.2.2.2.2.1 (mR_P hR) (mR_D hR hA) hS q t0 q2 ci hq ht (e5.2.1 _ hca) hq2 hc hi hdg (fun H1 locs1 hP1 hD1 hS1 => k H1 locs1 ls (mR_set hR hA ha hq hP1) (mR_dom hA (hA a _ ha)) hS1 hL)
/-- fields of a class above, named by this class -/
theorem zi_getfU (X : zX z l D cc own tys nL ret R nm) {a : Nat} {ref C : String} {T : u_T} {N ci index : Nat} {fs : List Value} {v : Value} (he : h a = some (.inr (ci, fs))) (hc : vwCl[ci]? = some (C, T, N)) (hin : ∀ w ∈ u_ws C T N, w ∈ mAll) (k0 : Nat) (hk0 : k0 < N) (hlink : Cond.fieldLink own index ref (T k0).2.1 (T k0).2.2.1 ∈ mAll) (hsame : Cond.sameField ref (T k0).1 (T k0).2.1 (T k0).2.2.1 ∈ mAll) (hv : fs[k0]? = some v) (hdg : decode cc pc = .ok (.getfield index, 3)) (k : zM z cells slots (pc + 3) L (v :: st) h) : zM z cells slots pc L (.ref a :: st) h := by
  obtain ⟨p, l1, e, R1, s, m, args, below, meth, c, D1, A0, H0, nL1, Q⟩ := z
  obtain ⟨e1, e2, e3, e4, e5, X⟩ := X
  subst e1 e2 e3 e4
  intro H locs ls hR hA hS hL
  obtain ⟨q, hq⟩ := mR_get hR he
  exact va_get X.1 X.2.1 X.2.2.1 hin X.2.2.2.1 X.2.2.2.2.2.1 (mR_P hR) q hq hc k0 hk0 (X.2.2.1 _ hlink) (u_same (X.2.2.1 _ hsame)) hv hdg (k H locs ls hR hA hS hL)
theorem zi_putfU (X : zX z l D cc own tys nL ret R nm) {a : Nat} {ref C : String} {T : u_T} {N ci index : Nat} {fs : List Value} {v : Value} {ty0 : Nat → FieldType} {ty : FieldType} (he : h a = some (.inr (ci, fs))) (hc : vwCl[ci]? = some (C, T, N)) (hin : ∀ w ∈ u_ws C T N, w ∈ mAll) (hty : ∀ k, k < N → parseFieldDescriptor (T k).2.2.1 = some (ty0 k)) (hnm : ∀ a, a < N → ∀ b, b < N → a ≠ b → (T a).2.1 ≠ (T b).2.1) (k0 : Nat) (hk0 : k0 < N) (hlink : Cond.fieldLink own index ref (T k0).2.1 (T k0).2.2.1 ∈ mAll) (hsame : Cond.sameField ref (T k0).1 (T k0).2.1 (T k0).2.2.1 ∈ mAll) (hfin : (T k0).2.2.2 = false) (hty0 : ty0 k0 = ty) (hn : narrow ty v = v) (hfit : fits ty v = true) (hlen : k0 < fs.length) (hdg : decode cc pc = .ok (.putfield index, 3)) (k : zM z cells slots (pc + 3) L st (mup h a (.inr (ci, fs.set k0 v)))) : zM z cells slots pc L (v :: .ref a :: st) h := by
  obtain ⟨p, l1, e, R1, s, m, args, below, meth, c, D1, A0, H0, nL1, Q⟩ := z
  obtain ⟨e1, e2, e3, e4, e5, X⟩ := X
  subst e1 e2 e3 e4
  intro H locs ls hR hA hS hL
  obtain ⟨q, hq⟩ := mR_get hR he
  exact va_put X.1 X.2.1 X.2.2.1 hin ty0 hty hnm X.2.2.2.1 X.2.2.2.2.2.1 (mR_P hR) (mR_D hR hA) hS q hq hc k0 hk0 (X.2.2.1 _ hlink) (u_same (X.2.2.1 _ hsame)) hfin (by rw [hty k0 hk0, hty0]) hn hfit hlen hdg (fun H1 locs1 hP1 hD1 hS1 => k H1 locs1 ls (mR_set hR hA he hq hP1) (mR_dom hA (hA a _ he)) hS1 hL)
theorem zi_ldcM (X : zX z l D cc own tys nL ret R nm) {index : Nat} (hlink : Cond.classLink own index mALd ∈ mAll) (hdg : decode cc pc = .ok (.ldc index, 2)) (k : zM z cells slots (pc + 2) L (.ref (D.2 1000 1) :: st) h) : zM z cells slots pc L st h := by
  obtain ⟨p, l1, e, R1, s, m, args, below, meth, c, D1, A0, H0, nL1, Q⟩ := z
  obtain ⟨e1, e2, e3, e4, e5, X⟩ := X
  subst e1 e2 e3 e4
  intro H locs ls hR hA hS hL
  exact va_ldcM X.1 X.2.1 X.2.2.2.1 (X.2.2.1 _ hlink) e5.2.2.2.2.2.2.2.2.2.2.1 hdg (k H locs ls hR hA hS hL)
theorem zi_getC (X : zX z l D cc own tys nL ret R nm) {index a t0 n : Nat} {cA : ClassId} {f : Nat → Option Nat} (hlink : Cond.methodLink own index ⟨"java/lang/Object", "getClass", "()Ljava/lang/Class;"⟩ ∈ mAll) (ha : h a = some (.inl (cA, n, .inr (.inr (.inr (.inr f)))))) (ht : tys[t0]? = some (cA, .object "java/lang/Object")) (hframes : 1 ≤ R.frames) (hlocals : (st.map fun v => v.category).sum + 14 ≤ R.locals) (hdg : decode cc pc = .ok (.invokevirtual index, 3)) (k : zM z cells slots (pc + 3) L (.ref (D.2 1000 1) :: st) h) : zM z cells slots pc L (.ref a :: st) h := by
  obtain ⟨p, l1, e, R1, s, m, args, below, meth, c, D1, A0, H0, nL1, Q⟩ := z
  obtain ⟨e1, e2, e3, e4, e5, X⟩ := X
  subst e1 e2 e3 e4
  intro H locs ls hR hA hS hL
  obtain ⟨q, hq⟩ := mR_get hR ha
  exact va_getC X.1 X.2.1 (X.2.2.2.2.1.trans hL.1.symm) X.2.2.2.1 (X.2.2.1 _ hlink) (va_any rfl (e5.2.1 _ wb_gcd)) (X.2.2.1 _ wx_gcs) (X.2.2.1 _ wx_gci) (X.2.2.1 _ wnat_5_230) e5.2.2.2.2.2.2.2.2.2.2.1 ⟨_, mR_P hR q _ hq, rfl, va_nmO (X.2.2.2.2.2.1.2 t0 _ ht).2 (by decide)⟩ hframes hlocals hdg (k H locs ls hR hA hS hL)
/-- arraycopy of references to objects of one class, within rows of Object -/
theorem zi_copyq (X : zX z l D cc own tys nL ret R nm) {a0 a n0 n1 index ci t0 : Nat} {cA : ClassId} {r : vw_C} {f g : Nat → Option Nat} {sp dp n : Int32} (ht : tys[t0]? = some (cA, .object "java/lang/Object")) (ha0 : h a0 = some (.inl (cA, n0, .inr (.inr (.inr (.inr f)))))) (ha1 : h a = some (.inl (cA, n1, .inr (.inr (.inr (.inr g)))))) (hl : Cond.methodLink own index arraycopyName ∈ mAll) (hc : vwCl[ci]? = some r) (hca : Cond.castable r.1 "java/lang/Object" ∈ mBad)
    (h1 : ¬ sp < 0) (h2 : ¬ dp < 0) (h3 : ¬ n < 0) (h4 : sp.toNatClampNeg + n.toNatClampNeg ≤ n0) (h5 : dp.toNatClampNeg + n.toNatClampNeg ≤ n1) (hel : ∀ i : Nat, i < n.toNatClampNeg → ∀ y : Nat, f (sp.toNatClampNeg + i) = some y → ∃ fs, h y = some (.inr (ci, fs))) (hframes : 1 ≤ R.frames) (hlocals : (st.map fun v => v.category).sum + (nativeFrameWords "java/lang/System" "arraycopy" 5 + 11) ≤ R.locals) (hdg : decode cc pc = .ok (.invokestatic index, 3))
    (k : zM z cells slots (pc + 3) L st (mup h a (.inl (cA, n1, .inr (.inr (.inr (.inr (va_cpy f g sp.toNatClampNeg dp.toNatClampNeg n.toNatClampNeg)))))))) : zM z cells slots pc L (.int n :: .int dp :: .ref a :: .int sp :: .ref a0 :: st) h := by
  obtain ⟨p, l1, e, R1, s, m, args, below, meth, c, D1, A0, H0, nL1, Q⟩ := z
  obtain ⟨e1, e2, e3, e4, e5, X⟩ := X
  subst e1 e2 e3 e4
  intro H locs ls hR hA hS hL
  obtain ⟨q0, hq0⟩ := mR_get hR ha0
  obtain ⟨q1, hq1⟩ := mR_get hR ha1
  obtain ⟨c5, t5, f1, f2, f3⟩ := Cond.castable_spec (va_Nw.use (A := args) rfl (e5.2.1 _ hca))
  refine va_copyq (C := r.1) X.1 X.2.1 (X.2.2.2.2.1.trans hL.1.symm) X.2.2.2.1 (X.2.2.1 _ hl) (X.2.2.1 _ wnat_2_34) (X.2.2.1 _ wst_copy) (X.2.2.1 _ win_J10) X.2.2.2.2.2.1 (mR_P hR) (mR_D hR hA) hS q0 q1 t0 t0 hq0 hq1 ht ht h1 h2 h3 h4 h5 (fun i hi y hy => ?_) (fun comp c0 g1 g2 => ?_) hframes hlocals hdg (fun H1 locs1 hP1 hD1 hS1 => k H1 locs1 ls (mR_set hR hA ha1 hq1 hP1) (mR_dom hA (hA a _ ha1)) hS1 hL)
  · obtain ⟨fs, hfs⟩ := hel i hi y hy
    obtain ⟨q2, hq2⟩ := mR_get hR hfs
    exact va_recv X.2.2.2.2.2.1 (mR_P hR) hc hq2
  · cases Option.some.inj (g1.symm.trans f2)
    cases Option.some.inj (g2.symm.trans f1)
    exact f3
end MROWS3
