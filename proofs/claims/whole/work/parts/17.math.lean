theorem wst_copy : Cond.static arraycopyName ∈ mAll := mAll_of (List.mem_append_right _ (List.mem_append_right _ (List.mem_append_left _ (List.mem_of_getElem? (l := tables_1_2) (i := 33) rfl)))) rfl
/-! arraycopy of int rows -/
theorem zi_copyi {z : mZ} {l : Launch} {R : Room} {D : va_G} {nL : Nat} {cells slots : Nat} {cc : ByteArray} {own nm : String} {cA : Nat → ClassId} {ret : Option FieldType} {pc : Nat} {L : List (Option Value)} {st : List Value} {h : mH} {index : Nat} (X : zX z l D cc own (mT cA) nL ret R nm) {a0 a n0 n1 : Nat} {f g : Nat → Int32} {sp dp n : Int32} (ha0 : h a0 = some (.inl (cA 0, n0, .inl f))) (ha1 : h a = some (.inl (cA 0, n1, .inl g))) (hl : Cond.methodLink own index arraycopyName ∈ mAll)
    (h1 : ¬ sp < 0) (h2 : ¬ dp < 0) (h3 : ¬ n < 0) (h4 : sp.toNatClampNeg + n.toNatClampNeg ≤ n0) (h5 : dp.toNatClampNeg + n.toNatClampNeg ≤ n1) (hframes : 1 ≤ R.frames) (hlocals : (st.map fun v => v.category).sum + (nativeFrameWords "java/lang/System" "arraycopy" 5 + 11) ≤ R.locals) (hdg : decode cc pc = .ok (.invokestatic index, 3))
    (k : zM z cells slots (pc + 3) L st (mup h a (.inl (cA 0, n1, .inl (va_cpy f g sp.toNatClampNeg dp.toNatClampNeg n.toNatClampNeg))))) : zM z cells slots pc L (.int n :: .int dp :: .ref a :: .int sp :: .ref a0 :: st) h := by
  obtain ⟨p, l1, e, R1, s, m, args, below, meth, c, D1, A0, H0, nL1, Q⟩ := z
  obtain ⟨e1, e2, e3, e4, e5, X⟩ := X
  subst e1 e2 e3 e4
  intro H locs ls hR hA hS hL
  obtain ⟨q0, hq0⟩ := mR_get hR ha0
  obtain ⟨q1, hq1⟩ := mR_get hR ha1
  exact va_copyi X.1 X.2.1 (X.2.2.2.2.1.trans hL.1.symm) X.2.2.2.1 (X.2.2.1 _ hl) (X.2.2.1 _ wnat_2_34) (X.2.2.1 _ wst_copy) (X.2.2.1 _ win_J10) X.2.2.2.2.2.1 (mR_P hR) (mR_D hR hA) hS q0 q1 0 0 hq0 hq1 rfl rfl rfl h1 h2 h3 h4 h5 (fun _ _ => rfl) hframes hlocals hdg (fun H1 locs1 hP1 hD1 hS1 => k H1 locs1 ls (mR_set hR hA ha1 hq1 hP1) (mR_dom hA (hA a _ ha1)) hS1 hL)
/-! Math -/
section MMATH
variable {z : mZ} {l : Launch} {R : Room} {D : va_G} {nL : Nat} {cells slots : Nat} {cc : ByteArray} {own nm : String} {tys : List (ClassId × FieldType)} {ret : Option FieldType} {pc : Nat} {L : List (Option Value)} {st : List Value} {h : mH}
theorem zi_mmax (X : zX z l D cc own tys nL ret R nm) {index : Nat} {x y : Int32} (hl : Cond.methodLink own index Lib.Math.max.name ∈ mAll) (hframes : 1 ≤ R.frames) (hlocals : (st.map fun v => v.category).sum + 13 ≤ R.locals) (hf : cells ≤ R.cells ∧ slots ≤ R.slots) (hdg : decode cc pc = .ok (.invokestatic index, 3))
    (k : zM z cells slots (pc + 3) L (.int (if x < y then y else x) :: st) h) : zM z cells slots pc L (.int y :: .int x :: st) h := by
  obtain ⟨p, l1, e, R1, s, m, args, below, meth, c, D1, A0, H0, nL1, Q⟩ := z
  obtain ⟨e1, e2, e3, e4, e5, X⟩ := X
  subst e1 e2 e3 e4
  intro H locs ls hR hA hS hL
  have w1 : Cond.static Lib.Math.max.name ∈ mAll := wst_J9_max_7cf53
  have w2 : Cond.code Lib.Math.max.name Lib.Math.max.code 2 (some .int) ∈ mAll := wcode_J9_max_7cf53
  have w3 : Cond.initialized "java/lang/Math" ∈ mAll := win_J9
  exact va_mmax X.1 X.2.1 (X.2.2.2.2.1.trans hL.1.symm) X.2.2.2.1 (X.2.2.1 _ hl) (X.2.2.1 _ w1) (X.2.2.1 _ w3) (X.2.2.1 _ w2) hframes hlocals hf.1 hf.2 hdg (k H locs ls hR hA hS hL)
theorem zi_mmin (X : zX z l D cc own tys nL ret R nm) {index : Nat} {x y : Int32} (hl : Cond.methodLink own index Lib.Math.min.name ∈ mAll) (hframes : 1 ≤ R.frames) (hlocals : (st.map fun v => v.category).sum + 13 ≤ R.locals) (hf : cells ≤ R.cells ∧ slots ≤ R.slots) (hdg : decode cc pc = .ok (.invokestatic index, 3))
    (k : zM z cells slots (pc + 3) L (.int (if y < x then y else x) :: st) h) : zM z cells slots pc L (.int y :: .int x :: st) h := by
  obtain ⟨p, l1, e, R1, s, m, args, below, meth, c, D1, A0, H0, nL1, Q⟩ := z
  obtain ⟨e1, e2, e3, e4, e5, X⟩ := X
  subst e1 e2 e3 e4
  intro H locs ls hR hA hS hL
  have w1 : Cond.static Lib.Math.min.name ∈ mAll := wst_J9_min_7cf53
  have w2 : Cond.code Lib.Math.min.name Lib.Math.min.code 2 (some .int) ∈ mAll := wcode_J9_min_7cf53
  have w3 : Cond.initialized "java/lang/Math" ∈ mAll := win_J9
  exact va_mmin X.1 X.2.1 (X.2.2.2.2.1.trans hL.1.symm) X.2.2.2.1 (X.2.2.1 _ hl) (X.2.2.1 _ w1) (X.2.2.1 _ w3) (X.2.2.1 _ w2) hframes hlocals hf.1 hf.2 hdg (k H locs ls hR hA hS hL)
theorem zi_mabs (X : zX z l D cc own tys nL ret R nm) {index : Nat} {x : Int32} (hl : Cond.methodLink own index Lib.Math.abs.name ∈ mAll) (hframes : 1 ≤ R.frames) (hlocals : (st.map fun v => v.category).sum + 13 ≤ R.locals) (hf : cells ≤ R.cells ∧ slots ≤ R.slots) (hdg : decode cc pc = .ok (.invokestatic index, 3))
    (k : zM z cells slots (pc + 3) L (.int (if 0 ≤ x then x else 0 - x) :: st) h) : zM z cells slots pc L (.int x :: st) h := by
  obtain ⟨p, l1, e, R1, s, m, args, below, meth, c, D1, A0, H0, nL1, Q⟩ := z
  obtain ⟨e1, e2, e3, e4, e5, X⟩ := X
  subst e1 e2 e3 e4
  intro H locs ls hR hA hS hL
  have w1 : Cond.static Lib.Math.abs.name ∈ mAll := wst_J9_abs_0f7a4
  have w2 : Cond.code Lib.Math.abs.name Lib.Math.abs.code 1 (some .int) ∈ mAll := wcode_J9_abs_0f7a4
  have w3 : Cond.initialized "java/lang/Math" ∈ mAll := win_J9
  exact va_mabs X.1 X.2.1 (X.2.2.2.2.1.trans hL.1.symm) X.2.2.2.1 (X.2.2.1 _ hl) (X.2.2.1 _ w1) (X.2.2.1 _ w3) (X.2.2.1 _ w2) hframes hlocals hf.1 hf.2 hdg (k H locs ls hR hA hS hL)
theorem zi_mminl (X : zX z l D cc own tys nL ret R nm) {index : Nat} {x y : Int64} (hl : Cond.methodLink own index Lib.MathLoose.min_long.x ∈ mAll) (hframes : 1 ≤ R.frames) (hlocals : (st.map fun v => v.category).sum + 15 ≤ R.locals) (hf : cells ≤ R.cells ∧ slots ≤ R.slots) (hdg : decode cc pc = .ok (.invokestatic index, 3))
    (k : zM z cells slots (pc + 3) L (.long (if y < x then y else x) :: st) h) : zM z cells slots pc L (.long y :: .long x :: st) h := by
  obtain ⟨p, l1, e, R1, s, m, args, below, meth, c, D1, A0, H0, nL1, Q⟩ := z
  obtain ⟨e1, e2, e3, e4, e5, X⟩ := X
  subst e1 e2 e3 e4
  intro H locs ls hR hA hS hL
  have w1 : Cond.static Lib.MathLoose.min_long.x ∈ mAll := wst_J9_min_f86c9
  have w2 : Cond.code Lib.MathLoose.min_long.x Lib.MathLoose.min_long.code 4 (some .long) ∈ mAll := wcode_J9_min_f86c9
  have w3 : Cond.initialized "java/lang/Math" ∈ mAll := win_J9
  exact va_mmin_long X.1 X.2.1 (X.2.2.2.2.1.trans hL.1.symm) X.2.2.2.1 (X.2.2.1 _ hl) (X.2.2.1 _ w1) (X.2.2.1 _ w3) (X.2.2.1 _ w2) hframes hlocals hf.1 hf.2 hdg (k H locs ls hR hA hS hL)
theorem zi_mabsl (X : zX z l D cc own tys nL ret R nm) {index : Nat} {x : Int64} (hl : Cond.methodLink own index Lib.MathLoose.abs_long.x ∈ mAll) (hframes : 1 ≤ R.frames) (hlocals : (st.map fun v => v.category).sum + 13 ≤ R.locals) (hf : cells ≤ R.cells ∧ slots ≤ R.slots) (hdg : decode cc pc = .ok (.invokestatic index, 3))
    (k : zM z cells slots (pc + 3) L (.long (if 0 < x then x else -x) :: st) h) : zM z cells slots pc L (.long x :: st) h := by
  obtain ⟨p, l1, e, R1, s, m, args, below, meth, c, D1, A0, H0, nL1, Q⟩ := z
  obtain ⟨e1, e2, e3, e4, e5, X⟩ := X
  subst e1 e2 e3 e4
  intro H locs ls hR hA hS hL
  have w1 : Cond.static Lib.MathLoose.abs_long.x ∈ mAll := wst_J9_abs_067f4
  have w2 : Cond.code Lib.MathLoose.abs_long.x Lib.MathLoose.abs_long.code 2 (some .long) ∈ mAll := wcode_J9_abs_067f4
  have w3 : Cond.initialized "java/lang/Math" ∈ mAll := win_J9
  exact va_mabs_long X.1 X.2.1 (X.2.2.2.2.1.trans hL.1.symm) X.2.2.2.1 (X.2.2.1 _ hl) (X.2.2.1 _ w1) (X.2.2.1 _ w3) (X.2.2.1 _ w2) hframes hlocals hf.1 hf.2 hdg (k H locs ls hR hA hS hL)
end MMATH
