/-! rows that make objects and arrays -/
section MNEW
variable {z : mZ} {l : Launch} {R : Room} {D : va_G} {nL : Nat} {cells slots : Nat}
variable {cc : ByteArray} {own nm : String} {tys : List (ClassId × FieldType)} {ret : Option FieldType} {pc : Nat} {L : List (Option Value)} {st : List Value} {h : mH}
theorem mNew_none {D : va_G} {h : mH} {H : Heap} {A : Nat → Prop} (hR : mR D h H) {q : Nat} {e : va_E} (hD : va_D A (va_pl (mDom h H) (mG h) ++ [(q, e)])) : h q = none := by
  cases hq : h q with
  | none => rfl
  | some x =>
    obtain ⟨k, hk⟩ := mR_get hR hq
    have hl := (List.getElem?_eq_some_iff.mp hk).1
    have h1 : (va_pl (mDom h H) (mG h) ++ [(q, e)])[k]? = some (q, x) := by rw [List.getElem?_append_left hl]; exact hk
    have h2 : (va_pl (mDom h H) (mG h) ++ [(q, e)])[(va_pl (mDom h H) (mG h)).length]? = some (q, e) := by
      rw [List.getElem?_append_right (Nat.le_refl _), Nat.sub_self]
      rfl
    have := hD.1 _ _ _ _ h1 h2 rfl
    omega
theorem mNew_A {A : Nat → Prop} {ws : va_W} {q : Nat} {e : va_E} (hD : va_D A (ws ++ [(q, e)])) : A q := hD.2 ws.length (q, e) (by rw [List.getElem?_append_right (Nat.le_refl _), Nat.sub_self]; rfl)
theorem zi_new (X : zX z l D cc own tys nL ret R nm) {C : String} {T : u_T} {N ci index : Nat} {ty : Nat → FieldType} {fs : List Value} (hc : vwCl[ci]? = some (C, T, N)) (hin : ∀ w ∈ u_ws C T N, w ∈ mAll) (hty : ∀ k, k < N → parseFieldDescriptor (T k).2.2.1 = some (ty k)) (hcl : Cond.classLink own index C ∈ mAll) (hinst : Cond.instantiable C N ∈ mAll) (hini : Cond.initialized C ∈ mAll) (hfs : ∀ j, j < N → defaultValue (ty j) = vp_V fs j) (hcells : cells + 1 ≤ R.cells) (hslots : slots + N ≤ R.slots) (hdg : decode cc pc = .ok (.new index, 3))
    (k : ∀ q, h q = none → zM z (cells + 1) (slots + N) (pc + 3) L (.ref q :: st) (mup h q (.inr (ci, fs)))) : zM z cells slots pc L st h := by
  obtain ⟨p, l1, e, R1, s, m, args, below, meth, c, D1, A0, H0, nL1, Q⟩ := z
  obtain ⟨e1, e2, e3, e4, e5, X⟩ := X
  subst e1 e2 e3 e4
  intro H locs ls hR hA hS hL
  exact va_new X.1 X.2.1 X.2.2.1 hin ty hty X.2.2.2.1 (X.2.2.1 _ hcl) (X.2.2.1 _ hinst) (X.2.2.1 _ hini) X.2.2.2.2.2.1 (mR_P hR) (mR_D hR hA) hS X.2.2.2.2.2.2.1 hc hfs hcells hslots hdg (fun q H1 hP1 hD1 hS1 => k q (mNew_none hR hD1) H1 locs ls (mR_new hR hP1) (mR_dom hA (mNew_A hD1)) hS1 hL)
theorem va_RA_eq {U : State} {c1 c2 : ClassId} {ty : FieldType} (h1 : va_RA U c1 ty) (h2 : va_RA U c2 ty) : c1 = c2 := by
  cases ty with
  | object C =>
    obtain ⟨_, _, _, _, _, a⟩ := h1
    obtain ⟨_, _, _, _, _, b⟩ := h2
    exact Option.some.inj (a.symm.trans b)
  | _ => exact Option.some.inj (Eq.trans (Eq.symm h1) h2)
theorem mNew_c {D : va_G} {tys : List (ClassId × FieldType)} {U : State} {t0 : Nat} {c1 c2 : ClassId} {ty : FieldType} (hK : va_K D vwCl (tys ++ [(c2, ty)]) U) (ht : tys[t0]? = some (c1, ty)) : c2 = c1 := by
  have hl := (List.getElem?_eq_some_iff.mp ht).1
  have h1 := (hK.2 t0 (c1, ty) (by rw [List.getElem?_append_left hl]; exact ht)).2
  have h2 := (hK.2 tys.length (c2, ty) (by rw [List.getElem?_append_right (Nat.le_refl _), Nat.sub_self]; rfl)).2
  exact va_RA_eq h2 h1
theorem zi_newa (X : zX z l D cc own tys nL ret R nm) {atype : ArrayType} {ty : FieldType} {t0 : Nat} {cA : ClassId} (ht : tys[t0]? = some (cA, ty)) (harr : Cond.arrayClass (newarray.typeOf atype) ∈ mAll) (hty : newarray.typeOf atype = ty) {n : Int32} {N' : Nat} {a0 : vp_A} (ha : ∀ cA : ClassId, vp_cell cA a0 = arrV cA N' (fun _ => defaultValue ty)) (hn : ¬ n < 0) (hN : n.toNatClampNeg = N') (hbytes : N' * componentBytes ty ≤ 536870912) (hcells : cells + 1 ≤ R.cells) (hslots : slots + N' ≤ R.slots) (hdg : decode cc pc = .ok (.newarray atype, 2))
    (k : ∀ q, h q = none → zM z (cells + 1) (slots + N') (pc + 2) L (.ref q :: st) (mup h q (.inl (cA, a0)))) : zM z cells slots pc L (.int n :: st) h := by
  obtain ⟨p, l1, e, R1, s, m, args, below, meth, c, D1, A0, H0, nL1, Q⟩ := z
  obtain ⟨e1, e2, e3, e4, e5, X⟩ := X
  subst e1 e2 e3 e4
  intro H locs ls hR hA hS hL
  refine va_newa X.1 X.2.1 (X.2.2.1 _ harr) hty X.2.2.2.2.2.1 (mR_P hR) (mR_D hR hA) hS X.2.2.2.2.2.2.1 ha hn hN hbytes hcells hslots hdg (fun q cA1 H1 hK1 hP1 hD1 hS1 => ?_)
  have := mNew_c hK1 ht
  subst this
  exact k q (mNew_none hR hD1) H1 locs ls (mR_new hR hP1) (mR_dom hA (mNew_A hD1)) hS1 hL
/-- a new array of references; hover is the state's word for it -/
theorem zi_newq (X : zX z l D cc own tys nL ret R nm) {C : String} {index t0 : Nat} {cA : ClassId} (ht : tys[t0]? = some (cA, .object C)) (hcl : Cond.classLink own index C ∈ mAll) (hover : zN z (.arrayOver (.object C))) {n : Int32} {N' : Nat} (hn : ¬ n < 0) (hN : n.toNatClampNeg = N') (hbytes : N' * 4 ≤ 536870912) (hcells : cells + 1 ≤ R.cells) (hslots : slots + N' ≤ R.slots) (hdg : decode cc pc = .ok (.anewarray index, 3))
    (k : ∀ q, h q = none → zM z (cells + 1) (slots + N') (pc + 3) L (.ref q :: st) (mup h q (.inl (cA, N', .inr (.inr (.inr (.inr (fun _ => none)))))))) : zM z cells slots pc L (.int n :: st) h := by
  obtain ⟨p, l1, e, R1, s, m, args, below, meth, c, D1, A0, H0, nL1, Q⟩ := z
  obtain ⟨e1, e2, e3, e4, e5, X⟩ := X
  subst e1 e2 e3 e4
  intro H locs ls hR hA hS hL
  refine va_newq X.1 X.2.1 X.2.2.2.1 (X.2.2.1 _ hcl) hover X.2.2.2.2.2.1 (mR_P hR) (mR_D hR hA) hS X.2.2.2.2.2.2.1 hn hN hbytes hcells hslots hdg (fun q cA1 H1 hK1 hP1 hD1 hS1 => ?_)
  have := mNew_c hK1 ht
  subst this
  exact k q (mNew_none hR hD1) H1 locs ls (mR_new hR hP1) (mR_dom hA (mNew_A hD1)) hS1 hL
theorem zi_objInit (X : zX z l D cc own tys nL ret R nm) {index a : Nat} (hlink : Cond.methodLink own index objectInit ∈ mAll) (hinst : Cond.instanceMethod objectInit ∈ mAll) (hcode : Cond.code objectInit ⟨#[0xb1]⟩ 1 none ∈ mAll) (hst : (st.map fun v => v.category).sum ≤ 8) (hR0 : 1 ≤ R.frames ∧ 20 ≤ R.locals) (hdg : decode cc pc = .ok (.invokespecial index, 3)) (k : zM z cells slots (pc + 3) L st h) : zM z cells slots pc L (.ref a :: st) h := by
  obtain ⟨p, l1, e, R1, s, m, args, below, meth, c, D1, A0, H0, nL1, Q⟩ := z
  obtain ⟨e1, e2, e3, e4, e5, X⟩ := X
  subst e1 e2 e3 e4
  intro H locs ls hR hA hS hL
  refine W.objInit X.1 X.2.1 X.2.2.2.1 (X.2.2.1 _ hlink) (X.2.2.1 _ hinst) (X.2.2.1 _ hcode) rfl (by rw [X.2.2.2.2.1]; exact hL.1) rfl hdg ?_ ?_ ?_
  · exact hR0.1
  · show 2 * 0 + _ + 12 ≤ _
    have := hR0.2
    omega
  · exact W.eq (g2 := F0 m (pc + 3) ls st) rfl (k H locs ls hR hA hS hL)
end MNEW
theorem wob_i : Cond.instanceMethod objectInit ∈ mAll := mAll_of (List.mem_append_right _ (List.mem_append_left _ (List.mem_of_getElem? (l := tables_1_1) (i := 40) rfl))) rfl
theorem wob_c : Cond.code objectInit ⟨#[0xb1]⟩ 1 none ∈ mAll := mAll_of (List.mem_append_right _ (List.mem_append_left _ (List.mem_of_getElem? (l := tables_1_1) (i := 41) rfl))) rfl
/-! SturmRoots$Interval -/
def iO (lv lo hi rt : Int32) : va_E := .inr (6, [.int lv, .int lo, .int hi, .int rt])
theorem i_init (l : Launch) (D : va_G) (cA : Nat → ClassId) {h : mH} {a : Nat} : mCv l yX2_init cX2_init 1 (rmd 2) D (mT cA) [.ref a] h (fun h1 => h1 = h) := by
  refine mEnter_v (by decide) (Nat.le_of_ble_eq_true rfl) rfl (fun z X Vz => ?_)
  refine zi_aload_n X dX2_init_0 rfl rfl ?_
  refine zi_objInit X wm_X2_1 wob_i wob_c (by decide) (by decide) dX2_init_1 ?_
  refine zi_return X Vz dX2_init_4 ?_
  rfl
theorem i_become (l : Launch) (D : va_G) (cA : Nat → ClassId) {h : mH} {a : Nat} {x1 x2 x3 x4 lv lo hi rt : Int32} (ha : h a = some (iO x1 x2 x3 x4)) : mCv l yX2_become cX2_become 5 (rmd 1) D (mT cA) [.ref a, .int lv, .int lo, .int hi, .int rt] h (fun h1 => h1 = mup h a (iO lv lo hi rt)) := by
  refine mEnter_v (by decide) (Nat.le_of_ble_eq_true rfl) rfl (fun z X Vz => ?_)
  refine zi_aload_n X dX2_become_0 rfl rfl ?_
  refine zi_iload_n X dX2_become_1 rfl rfl ?_
  refine zi_putf (C := RX2) (T := TX2) (N := 4) (ci := 6) (ty0 := tyX2) X (by first | assumption | exact mup_self | (rw [mup_ne (by assumption)]; assumption) | (rw [mup_ne (by assumption)]; exact mup_self) | (rw [mup_ne (by assumption), mup_ne (by assumption)]; assumption)) rfl in_X2 tyX2_ok nmX2 0 (by decide) wf_X2_7 rfl rfl rfl rfl rfl (Nat.le_of_ble_eq_true rfl) dX2_become_2 ?_
  refine zi_aload_n X dX2_become_5 rfl rfl ?_
  refine zi_iload_n X dX2_become_6 rfl rfl ?_
  refine zi_putf (C := RX2) (T := TX2) (N := 4) (ci := 6) (ty0 := tyX2) X (by first | assumption | exact mup_self | (rw [mup_ne (by assumption)]; assumption) | (rw [mup_ne (by assumption)]; exact mup_self) | (rw [mup_ne (by assumption), mup_ne (by assumption)]; assumption)) rfl in_X2 tyX2_ok nmX2 1 (by decide) wf_X2_13 rfl rfl rfl rfl rfl (Nat.le_of_ble_eq_true rfl) dX2_become_7 ?_
  refine zi_aload_n X dX2_become_10 rfl rfl ?_
  refine zi_iload_n X dX2_become_11 rfl rfl ?_
  refine zi_putf (C := RX2) (T := TX2) (N := 4) (ci := 6) (ty0 := tyX2) X (by first | assumption | exact mup_self | (rw [mup_ne (by assumption)]; assumption) | (rw [mup_ne (by assumption)]; exact mup_self) | (rw [mup_ne (by assumption), mup_ne (by assumption)]; assumption)) rfl in_X2 tyX2_ok nmX2 2 (by decide) wf_X2_16 rfl rfl rfl rfl rfl (Nat.le_of_ble_eq_true rfl) dX2_become_12 ?_
  refine zi_aload_n X dX2_become_15 rfl rfl ?_
  refine zi_iload X dX2_become_16 rfl ?_
  refine zi_putf (C := RX2) (T := TX2) (N := 4) (ci := 6) (ty0 := tyX2) X (by first | assumption | exact mup_self | (rw [mup_ne (by assumption)]; assumption) | (rw [mup_ne (by assumption)]; exact mup_self) | (rw [mup_ne (by assumption), mup_ne (by assumption)]; assumption)) rfl in_X2 tyX2_ok nmX2 3 (by decide) wf_X2_19 rfl rfl rfl rfl rfl (Nat.le_of_ble_eq_true rfl) dX2_become_18 ?_
  refine zi_return X Vz dX2_become_21 ?_
  rw [mup_mup, mup_mup, mup_mup]
  rfl
theorem i_isPoint (l : Launch) (D : va_G) (cA : Nat → ClassId) {h : mH} {a : Nat} {lv lo hi rt : Int32} (ha : h a = some (iO lv lo hi rt)) : mCi l yX2_isPoint cX2_isPoint 1 .boolean (rmd 1) D (mT cA) [.ref a] h (fun x h1 => h1 = h ∧ x = if lo = hi then nI 1 else nI 0) := by
  refine mEnter_i (by decide) (Nat.le_of_ble_eq_true rfl) rfl (fun z X Vz => ?_)
  refine zi_aload_n X dX2_isPoint_0 rfl rfl ?_
  refine zi_getf (C := RX2) (T := TX2) (N := 4) (ci := 6) X (by first | assumption | exact mup_self | (rw [mup_ne (by assumption)]; assumption) | (rw [mup_ne (by assumption)]; exact mup_self) | (rw [mup_ne (by assumption), mup_ne (by assumption)]; assumption)) rfl in_X2 1 (by decide) wf_X2_13 rfl rfl dX2_isPoint_1 ?_
  refine zi_aload_n X dX2_isPoint_4 rfl rfl ?_
  refine zi_getf (C := RX2) (T := TX2) (N := 4) (ci := 6) X (by first | assumption | exact mup_self | (rw [mup_ne (by assumption)]; assumption) | (rw [mup_ne (by assumption)]; exact mup_self) | (rw [mup_ne (by assumption), mup_ne (by assumption)]; assumption)) rfl in_X2 2 (by decide) wf_X2_16 rfl rfl dX2_isPoint_5 ?_
  refine zi_icmp_ne (tgt := 15) X dX2_isPoint_8 (by decide) (fun c_8 => ?_) (fun c_8 => ?_)
  · refine zi_iconst (v := (nI 0)) X dX2_isPoint_15 (by decide) ?_
    refine zi_zreturn X Vz rfl dX2_isPoint_16 ?_
    exact ⟨rfl, (if_neg c_8).symm⟩
  · refine zi_iconst (v := (nI 1)) X dX2_isPoint_11 (by decide) ?_
    refine zi_goto (tgt := 16) X dX2_isPoint_12 (by decide) ?_
    refine zi_zreturn X Vz rfl dX2_isPoint_16 ?_
    exact ⟨rfl, (if_pos (Decidable.not_not.mp (fun q => q c_8))).symm⟩
