/-! A HEAP AS A PARTIAL FUNCTION, LOCALS AS A LIST: rows over the kit's own. -/
abbrev mH : Type := Nat → Option va_E
def mR (D : va_G) (h : mH) (H : Heap) : Prop := ∀ (a : Nat) (e : va_E), h a = some e → va_at D vwCl (a, e) H
def mup (h : mH) (a : Nat) (e : va_E) : mH := fun b => if b = a then some e else h b
theorem mup_self {h : mH} {a : Nat} {e : va_E} : mup h a e a = some e := if_pos rfl
theorem mup_ne {h : mH} {a b : Nat} {e : va_E} (n : b ≠ a) : mup h a e b = h b := if_neg n
theorem mup_mup {h : mH} {a : Nat} {e e2 : va_E} : mup (mup h a e) a e2 = mup h a e2 := by
  funext b
  by_cases n : b = a <;> simp [mup, n]
theorem mup_comm {h : mH} {a b : Nat} {e e2 : va_E} (n : a ≠ b) : mup (mup h a e) b e2 = mup (mup h b e2) a e := by
  funext q
  by_cases h1 : q = a <;> by_cases h2 : q = b <;> simp [mup, h1, h2]
  · exact absurd (h1.symm.trans h2) n
  · intro z; exact absurd z n
  · intro z; exact absurd z.symm n
theorem mup_same {h : mH} {a : Nat} {e : va_E} (k : h a = some e) : mup h a e = h := by
  funext b
  by_cases n : b = a
  · subst n; rw [mup_self, k]
  · rw [mup_ne n]
def mG (h : mH) (a : Nat) : va_E := (h a).getD (.inr (0, []))
def mDom (h : mH) (H : Heap) : List Nat := (List.range H.size).filter (fun a => (h a).isSome)
theorem mDom_in {D : va_G} {h : mH} {H : Heap} (hR : mR D h H) {a : Nat} {e : va_E} (he : h a = some e) : a ∈ mDom h H := by
  refine List.mem_filter.mpr ⟨List.mem_range.mpr (hR a e he).lt, by rw [he]; rfl⟩
theorem mDom_of {h : mH} {H : Heap} {a : Nat} (ha : a ∈ mDom h H) : h a = some (mG h a) := by
  obtain ⟨-, h2⟩ := List.mem_filter.mp ha
  obtain ⟨e, he⟩ := Option.isSome_iff_exists.mp h2
  rw [mG, he]; rfl
theorem mDom_nodup (h : mH) (H : Heap) : (mDom h H).Nodup := List.Nodup.sublist List.filter_sublist List.nodup_range
theorem mG_of {h : mH} {a : Nat} {e : va_E} (he : h a = some e) : mG h a = e := by rw [mG, he]; rfl
theorem mR_P {D : va_G} {h : mH} {H : Heap} (hR : mR D h H) : va_P D vwCl (va_pl (mDom h H) (mG h)) H := by
  intro k q hk
  obtain ⟨a, ha, rfl⟩ := List.mem_map.mp (List.mem_of_getElem? hk)
  exact hR a _ (mDom_of ha)
theorem mR_D {D : va_G} {h : mH} {H : Heap} {A : Nat → Prop} (_ : mR D h H) (hA : ∀ a e, h a = some e → A a) : va_D A (va_pl (mDom h H) (mG h)) := by
  refine ⟨fun i j p q hi hj hpq => ?_, fun k q hk => ?_⟩
  · have h1 : (mDom h H)[i]? = some p.1 := by
      simp only [va_pl, List.getElem?_map, Option.map_eq_some_iff] at hi
      obtain ⟨a, h1, rfl⟩ := hi
      exact h1
    have h2 : (mDom h H)[j]? = some q.1 := by
      simp only [va_pl, List.getElem?_map, Option.map_eq_some_iff] at hj
      obtain ⟨a, h1, rfl⟩ := hj
      exact h1
    rw [hpq] at h1
    exact (List.getElem?_inj (List.getElem?_eq_some_iff.mp h1).1 (mDom_nodup h H)).mp (h1.trans h2.symm)
  · obtain ⟨a, ha, rfl⟩ := List.mem_map.mp (List.mem_of_getElem? hk)
    exact hA a _ (mDom_of ha)
theorem mR_get {D : va_G} {h : mH} {H : Heap} (hR : mR D h H) {a : Nat} {e : va_E} (he : h a = some e) : ∃ k : Nat, (va_pl (mDom h H) (mG h))[k]? = some (a, e) := by
  obtain ⟨k, hk⟩ := va_pl_get (X := []) (f := mG h) (mDom_in hR he)
  exact ⟨k, by rw [← mG_of he]; exact hk⟩
theorem mR_of {D : va_G} {h : mH} {L : List Nat} {g : Nat → va_E} {H : Heap} (hP : va_P D vwCl (va_pl L g) H) (hh : ∀ a e, h a = some e → a ∈ L ∧ g a = e) : mR D h H := by
  intro a e he
  obtain ⟨h1, h2⟩ := hh a e he
  obtain ⟨k, hk⟩ := va_pl_get (X := []) (f := g) h1
  have := hP k _ hk
  rw [h2] at this
  exact this
theorem mR_set {D : va_G} {h : mH} {H H1 : Heap} (hR : mR D h H) {A : Nat → Prop} (hA : ∀ a e, h a = some e → A a) {a : Nat} {e e' : va_E} (he : h a = some e) {k : Nat} (hk : (va_pl (mDom h H) (mG h))[k]? = some (a, e)) (hP : va_P D vwCl ((va_pl (mDom h H) (mG h)).set k (a, e')) H1) : mR D (mup h a e') H1 := by
  have hD := mR_D (H := H) hR hA
  have hk' : ([] ++ va_pl (mDom h H) (mG h))[k]? = some (a, mG h a) := by rw [mG_of he]; exact hk
  have e1 := va_pl_set (X := []) (e := e') hD (mDom_in hR he) hk'
  rw [List.nil_append, List.nil_append] at e1
  rw [e1] at hP
  refine mR_of hP (fun b x hx => ?_)
  by_cases n : b = a
  · subst n
    rw [mup_self] at hx
    exact ⟨mDom_in hR he, by rw [va_up_self]; exact Option.some.inj hx⟩
  · rw [mup_ne n] at hx
    exact ⟨mDom_in hR hx, by rw [va_up_ne _ _ n]; exact mG_of hx⟩
theorem mR_new {D : va_G} {h : mH} {H H1 : Heap} (hR : mR D h H) {q : Nat} {e : va_E} (hP : va_P D vwCl (va_pl (mDom h H) (mG h) ++ [(q, e)]) H1) : mR D (mup h q e) H1 := by
  intro b x hx
  by_cases n : b = q
  · subst n
    rw [mup_self] at hx
    cases hx
    exact hP _ _ (by rw [List.getElem?_append_right (Nat.le_refl _), Nat.sub_self]; rfl)
  · rw [mup_ne n] at hx
    obtain ⟨k, hk⟩ := mR_get hR hx
    exact hP k _ (by rw [List.getElem?_append_left (List.getElem?_eq_some_iff.mp hk).1]; exact hk)
theorem mR_dom {h : mH} {A : Nat → Prop} {q : Nat} {e : va_E} (hA : ∀ a x, h a = some x → A a) (hq : A q) : ∀ a x, mup h q e a = some x → A a := by
  intro a x hx
  by_cases n : a = q
  · rw [n]; exact hq
  · rw [mup_ne n] at hx; exact hA a x hx
/-! locals -/
def mk2 : Option Value → Option Value
  | some (.long _) => none
  | some (.double _) => none
  | x => x
def mset1 : List (Option Value) → Nat → Value → List (Option Value)
  | [], _, _ => []
  | _ :: t, 0, v => some v :: t
  | a :: t, 1, v => mk2 a :: (match t with
    | [] => []
    | _ :: t => some v :: t)
  | a :: t, n + 2, v => a :: mset1 t (n + 1) v
def mset2 : List (Option Value) → Nat → Value → List (Option Value)
  | [], _, _ => []
  | _ :: t, 0, v => some v :: (match t with
    | [] => []
    | _ :: t => none :: t)
  | a :: t, 1, v => mk2 a :: (match t with
    | [] => []
    | [_] => [some v]
    | _ :: _ :: t => some v :: none :: t)
  | a :: t, n + 2, v => a :: mset2 t (n + 1) v
theorem mk2_spec {a : Option Value} {v : Value} (h : mk2 a = some v) : a = some v ∧ ¬ v.category = 2 := by
  cases a with
  | none => cases h
  | some x => cases x <;> first | (cases h; done) | (cases h; exact ⟨rfl, by decide⟩) | (simp only [mk2] at h; cases h; exact ⟨rfl, by simp [Value.category]⟩)
theorem mset1_spec (v : Value) : ∀ (L : List (Option Value)) (i j : Nat) (u : Value), (mset1 L i v)[j]? = some (some u) → (j = i ∧ u = v) ∨ (j ≠ i ∧ L[j]? = some (some u) ∧ ¬ (j + 1 = i ∧ u.category = 2))
  | [], i, j, u, h => by simp [mset1] at h
  | x :: t, 0, j, u, h => by
    cases j with
    | zero => simp [mset1] at h; exact Or.inl ⟨rfl, h.symm⟩
    | succ j => simp [mset1] at h; exact Or.inr ⟨by omega, by simpa using h, by omega⟩
  | x :: t, 1, j, u, h => by
    cases j with
    | zero =>
      simp [mset1] at h
      obtain ⟨h1, h2⟩ := mk2_spec h
      exact Or.inr ⟨by omega, by simp [h1], by simp [h2]⟩
    | succ j =>
      cases t with
      | nil => simp [mset1] at h
      | cons y t =>
        cases j with
        | zero => simp [mset1] at h; exact Or.inl ⟨rfl, h.symm⟩
        | succ j => simp [mset1] at h; exact Or.inr ⟨by omega, by simpa using h, by omega⟩
  | x :: t, n + 2, j, u, h => by
    cases j with
    | zero => simp [mset1] at h; exact Or.inr ⟨by omega, by simp [h], by omega⟩
    | succ j =>
      simp [mset1] at h
      rcases mset1_spec v t (n + 1) j u h with ⟨h1, h2⟩ | ⟨h1, h2, h3⟩
      · exact Or.inl ⟨by omega, h2⟩
      · exact Or.inr ⟨by omega, by simpa using h2, fun z => h3 ⟨by omega, z.2⟩⟩
theorem mset2_spec (v : Value) : ∀ (L : List (Option Value)) (i j : Nat) (u : Value), (mset2 L i v)[j]? = some (some u) → (j = i ∧ u = v) ∨ (j ≠ i ∧ j ≠ i + 1 ∧ L[j]? = some (some u) ∧ ¬ (j + 1 = i ∧ u.category = 2))
  | [], i, j, u, h => by simp [mset2] at h
  | x :: t, 0, j, u, h => by
    cases j with
    | zero => simp [mset2] at h; exact Or.inl ⟨rfl, h.symm⟩
    | succ j =>
      cases t with
      | nil => simp [mset2] at h
      | cons y t =>
        cases j with
        | zero => simp [mset2] at h
        | succ j => simp [mset2] at h; exact Or.inr ⟨by omega, by omega, by simpa using h, by omega⟩
  | x :: t, 1, j, u, h => by
    cases j with
    | zero =>
      simp [mset2] at h
      obtain ⟨h1, h2⟩ := mk2_spec h
      exact Or.inr ⟨by omega, by omega, by simp [h1], by simp [h2]⟩
    | succ j =>
      match t, h with
      | [], h => simp [mset2] at h
      | [y], h =>
        cases j with
        | zero => simp [mset2] at h; exact Or.inl ⟨rfl, h.symm⟩
        | succ j => simp [mset2] at h
      | y :: z :: t, h =>
        cases j with
        | zero => simp [mset2] at h; exact Or.inl ⟨rfl, h.symm⟩
        | succ j =>
          cases j with
          | zero => simp [mset2] at h
          | succ j => simp [mset2] at h; exact Or.inr ⟨by omega, by omega, by simpa using h, by omega⟩
  | x :: t, n + 2, j, u, h => by
    cases j with
    | zero => simp [mset2] at h; exact Or.inr ⟨by omega, by omega, by simp [h], by omega⟩
    | succ j =>
      simp [mset2] at h
      rcases mset2_spec v t (n + 1) j u h with ⟨h1, h2⟩ | ⟨h1, h1', h2, h3⟩
      · exact Or.inl ⟨by omega, h2⟩
      · exact Or.inr ⟨by omega, by omega, by simpa using h2, fun z => h3 ⟨by omega, z.2⟩⟩
def mL (ls : Array Slot) (nL : Nat) (L : List (Option Value)) : Prop := ls.size = nL ∧ lv_wf ls ∧ ∀ (i : Nat) (v : Value), L[i]? = some (some v) → ls[i]? = some (.val v)
def mTo (L : List (Option Value)) : List (Nat × Value) := L.zipIdx.filterMap (fun q => q.1.map (fun v => (q.2, v)))
theorem mTo_in {L : List (Option Value)} {i : Nat} {v : Value} : (i, v) ∈ mTo L ↔ L[i]? = some (some v) := by
  simp only [mTo, List.mem_filterMap, Option.map_eq_some_iff]
  constructor
  · rintro ⟨⟨o, k⟩, h1, x, h2, h3⟩
    simp only [Prod.mk.injEq] at h3
    obtain ⟨rfl, rfl⟩ := h3
    have := List.mem_zipIdx_iff_getElem?.mp h1
    simp only at h2 this
    rw [this, h2]
  · intro h
    exact ⟨(some v, i), List.mem_zipIdx_iff_getElem?.mpr h, v, rfl, rfl⟩
theorem mL_has {ls : Array Slot} {nL : Nat} {L : List (Option Value)} (h : mL ls nL L) : lv_has ls nL (mTo L) := ⟨h.1, h.2.1, fun q hq => h.2.2 q.1 q.2 (mTo_in.mp hq)⟩
theorem mL_store1 {ls' : Array Slot} {nL i : Nat} {v : Value} {L : List (Option Value)} (h : lv_has ls' nL ((i, v) :: (mTo L).filter (fun q => !(q.1 == i) && !(q.1 + 1 == i && q.2.category == 2)))) : mL ls' nL (mset1 L i v) := by
  refine ⟨h.1, h.2.1, fun j u hj => ?_⟩
  rcases mset1_spec v L i j u hj with ⟨rfl, rfl⟩ | ⟨h1, h2, h3⟩
  · exact h.2.2 (j, u) List.mem_cons_self
  · refine h.2.2 (j, u) (List.mem_cons_of_mem _ (List.mem_filter.mpr ⟨mTo_in.mpr h2, ?_⟩))
    simp only [Bool.and_eq_true, Bool.not_eq_true', beq_eq_false_iff_ne, Bool.and_eq_false_imp, beq_iff_eq]
    exact ⟨h1, fun z w => h3 ⟨z, w⟩⟩
theorem mL_store2 {ls' : Array Slot} {nL i : Nat} {v : Value} {L : List (Option Value)} (h : lv_has ls' nL ((i, v) :: (mTo L).filter (fun q => !(q.1 == i) && (!(q.1 == i + 1) && !(q.1 + 1 == i && q.2.category == 2))))) : mL ls' nL (mset2 L i v) := by
  refine ⟨h.1, h.2.1, fun j u hj => ?_⟩
  rcases mset2_spec v L i j u hj with ⟨rfl, rfl⟩ | ⟨h1, h1', h2, h3⟩
  · exact h.2.2 (j, u) List.mem_cons_self
  · refine h.2.2 (j, u) (List.mem_cons_of_mem _ (List.mem_filter.mpr ⟨mTo_in.mpr h2, ?_⟩))
    simp only [Bool.and_eq_true, Bool.not_eq_true', beq_eq_false_iff_ne, Bool.and_eq_false_imp, beq_iff_eq]
    exact ⟨h1, h1', fun z w => h3 ⟨z, w⟩⟩
def mEnt : List Value → List (Option Value)
  | [] => []
  | .long x :: t => some (.long x) :: none :: mEnt t
  | .double x :: t => some (.double x) :: none :: mEnt t
  | v :: t => some v :: mEnt t
theorem mEnt_in : ∀ (vs : List Value) (k i : Nat) (v : Value), (mEnt vs)[i]? = some (some v) → (k + i, v) ∈ lv_args k vs
  | [], k, i, v, h => by simp [mEnt] at h
  | x :: t, k, i, v, h => by
    cases x <;> cases i with
    | zero => simp [mEnt] at h; subst h; simp [lv_args]
    | succ i =>
      first
      | (simp only [mEnt, List.getElem?_cons_succ] at h
         have := mEnt_in t (k + 1) i v h
         rw [lv_args]
         refine List.mem_cons_of_mem _ ?_
         simp only [Value.category]
         rw [show k + (i + 1) = k + 1 + i by omega]
         exact this)
      | (cases i with
         | zero => simp [mEnt] at h
         | succ i =>
           simp only [mEnt, List.getElem?_cons_succ] at h
           have := mEnt_in t (k + 2) i v h
           rw [lv_args]
           refine List.mem_cons_of_mem _ ?_
           simp only [Value.category]
           rw [show k + (i + 1 + 1) = k + 2 + i by omega]
           exact this)
theorem mL_ent {ls : Array Slot} {n : Nat} {vs : List Value} (h : lv_has ls n (lv_args 0 vs)) {L : List (Option Value)} (hL : mEnt vs ++ List.replicate (n - (mEnt vs).length) none = L) : mL ls n L := by
  subst hL
  refine ⟨h.1, h.2.1, fun i v hi => ?_⟩
  by_cases hl : i < (mEnt vs).length
  · rw [List.getElem?_append_left hl] at hi
    have := h.2.2 _ (mEnt_in vs 0 i v hi)
    simpa using this
  · rw [List.getElem?_append_right (by omega), List.getElem?_replicate] at hi
    split at hi <;> simp at hi
/-! the judgement -/
def mAll : List Cond := lw_tbl.filter goodWord
def mX (p : Program) (s : State) (m : MethodId) (args : Array Value) (meth : Method) (c : Code) (cc : ByteArray) (own : String) (D : va_G) (tys : List (ClassId × FieldType)) (nL : Nat) (ret : Option FieldType) (A0 : Nat → Prop) (H0 : Heap) : Prop :=
  p.tables.exec = Jvm.exec ∧ c.code = cc ∧ (∀ w ∈ mAll, w.before args s = true) ∧ s.vm.findClass own = some m.cls ∧ c.maxLocals = nL ∧ va_K D vwCl tys s ∧ (∀ q, H0.size ≤ q → A0 q) ∧ meth.locks = false ∧ meth.sig.returnType = ret
def mM (p : Program) (l : Launch) (e : Env) (R : Room) (s : State) (m : MethodId) (args : Array Value) (below : List Frame) (meth : Method) (c : Code) (D : va_G) (A0 : Nat → Prop) (H0 : Heap) (nL : Nat) (Q : State → Prop) (cells slots : Nat) (pc : Nat) (L : List (Option Value)) (st : List Value) (h : mH) : Prop :=
  ∀ (H : Heap) (locs : List Loc) (ls : Array Slot), mR D h H → (∀ a e, h a = some e → A0 a) → va_S A0 H0 H locs → mL ls nL L → W p l e R s m args below meth c H locs cells slots Q (F0 m pc ls st)
abbrev mZ : Type := Program × Launch × Env × Room × State × MethodId × Array Value × List Frame × Method × Code × va_G × (Nat → Prop) × Heap × Nat × (State → Prop)
def zM (z : mZ) (cells slots pc : Nat) (L : List (Option Value)) (st : List Value) (h : mH) : Prop := match z with
  | (p, l, e, R, s, m, args, below, meth, c, D, A0, H0, nL, Q) => mM p l e R s m args below meth c D A0 H0 nL Q cells slots pc L st h
def zX (z : mZ) (l : Launch) (D : va_G) (cc : ByteArray) (own : String) (tys : List (ClassId × FieldType)) (nL : Nat) (ret : Option FieldType) (R : Room) (nm : String) : Prop := match z with
  | (p, l1, _, R1, s, m, args, _, meth, c, D1, A0, H0, nL1, _) => l1 = l ∧ D1 = D ∧ nL1 = nL ∧ R1 = R ∧ (meth.name = nm ∧ mNG s ∧ H0 = s.heap ∧ mST D A0 s s.heap) ∧ mX p s m args meth c cc own D tys nL ret A0 H0
section MROWS
variable {z : mZ} {l : Launch} {R : Room} {D : va_G} {nL : Nat} {cells slots : Nat}
variable {cc : ByteArray} {own nm : String} {tys : List (ClassId × FieldType)} {ret : Option FieldType} {pc : Nat} {L : List (Option Value)} {st : List Value} {h : mH}

theorem zi_iload_n (X : zX z l D cc own tys nL ret R nm) {k : Fin 4} {i : Nat} {x : Int32} (hdg : decode cc pc = .ok (.iload_n k, 1)) (hi : (k : Nat) = i) (hl : L[i]? = some (some (.int x))) (k : zM z cells slots (pc + 1) L (.int x :: st) h) : zM z cells slots pc L st h := by
  obtain ⟨p, l1, e, R1, s, m, args, below, meth, c, D1, A0, H0, nL1, Q⟩ := z
  obtain ⟨e1, e2, e3, e4, e5, X⟩ := X
  subst e1 e2 e3 e4
  intro H locs ls hR hA hS hL
  exact lv_iload_n X.1 X.2.1 hdg hi (hL.2.2 i _ hl) (k H locs ls hR hA hS hL)
theorem zi_iload (X : zX z l D cc own tys nL ret R nm) {i : Nat} {x : Int32} (hdg : decode cc pc = .ok (.iload i, 2)) (hl : L[i]? = some (some (.int x))) (k : zM z cells slots (pc + 2) L (.int x :: st) h) : zM z cells slots pc L st h := by
  obtain ⟨p, l1, e, R1, s, m, args, below, meth, c, D1, A0, H0, nL1, Q⟩ := z
  obtain ⟨e1, e2, e3, e4, e5, X⟩ := X
  subst e1 e2 e3 e4
  intro H locs ls hR hA hS hL
  exact lv_iload X.1 X.2.1 hdg (hL.2.2 i _ hl) (k H locs ls hR hA hS hL)
theorem zi_istore_n (X : zX z l D cc own tys nL ret R nm) {k : Fin 4} {i : Nat} {x : Int32} (hdg : decode cc pc = .ok (.istore_n k, 1)) (hi : (k : Nat) = i) (hn : i < nL) (k : zM z cells slots (pc + 1) (mset1 L i (.int x)) st h) : zM z cells slots pc L (.int x :: st) h := by
  obtain ⟨p, l1, e, R1, s, m, args, below, meth, c, D1, A0, H0, nL1, Q⟩ := z
  obtain ⟨e1, e2, e3, e4, e5, X⟩ := X
  subst e1 e2 e3 e4
  intro H locs ls hR hA hS hL
  exact lv_istore_n X.1 X.2.1 hdg hi (mL_has hL) hn rfl (fun ls1 h1 => k H locs ls1 hR hA hS (mL_store1 h1))
theorem zi_istore (X : zX z l D cc own tys nL ret R nm) {i : Nat} {x : Int32} (hdg : decode cc pc = .ok (.istore i, 2)) (hn : i < nL) (k : zM z cells slots (pc + 2) (mset1 L i (.int x)) st h) : zM z cells slots pc L (.int x :: st) h := by
  obtain ⟨p, l1, e, R1, s, m, args, below, meth, c, D1, A0, H0, nL1, Q⟩ := z
  obtain ⟨e1, e2, e3, e4, e5, X⟩ := X
  subst e1 e2 e3 e4
  intro H locs ls hR hA hS hL
  exact lv_istore X.1 X.2.1 hdg (mL_has hL) hn rfl (fun ls1 h1 => k H locs ls1 hR hA hS (mL_store1 h1))
theorem zi_lload_n (X : zX z l D cc own tys nL ret R nm) {k : Fin 4} {i : Nat} {x : Int64} (hdg : decode cc pc = .ok (.lload_n k, 1)) (hi : (k : Nat) = i) (hl : L[i]? = some (some (.long x))) (k : zM z cells slots (pc + 1) L (.long x :: st) h) : zM z cells slots pc L st h := by
  obtain ⟨p, l1, e, R1, s, m, args, below, meth, c, D1, A0, H0, nL1, Q⟩ := z
  obtain ⟨e1, e2, e3, e4, e5, X⟩ := X
  subst e1 e2 e3 e4
  intro H locs ls hR hA hS hL
  exact lv_lload_n X.1 X.2.1 hdg hi (hL.2.2 i _ hl) (k H locs ls hR hA hS hL)
theorem zi_lload (X : zX z l D cc own tys nL ret R nm) {i : Nat} {x : Int64} (hdg : decode cc pc = .ok (.lload i, 2)) (hl : L[i]? = some (some (.long x))) (k : zM z cells slots (pc + 2) L (.long x :: st) h) : zM z cells slots pc L st h := by
  obtain ⟨p, l1, e, R1, s, m, args, below, meth, c, D1, A0, H0, nL1, Q⟩ := z
  obtain ⟨e1, e2, e3, e4, e5, X⟩ := X
  subst e1 e2 e3 e4
  intro H locs ls hR hA hS hL
  exact lv_lload X.1 X.2.1 hdg (hL.2.2 i _ hl) (k H locs ls hR hA hS hL)
theorem zi_lstore_n (X : zX z l D cc own tys nL ret R nm) {k : Fin 4} {i : Nat} {x : Int64} (hdg : decode cc pc = .ok (.lstore_n k, 1)) (hi : (k : Nat) = i) (hn : i + 1 < nL) (k : zM z cells slots (pc + 1) (mset2 L i (.long x)) st h) : zM z cells slots pc L (.long x :: st) h := by
  obtain ⟨p, l1, e, R1, s, m, args, below, meth, c, D1, A0, H0, nL1, Q⟩ := z
  obtain ⟨e1, e2, e3, e4, e5, X⟩ := X
  subst e1 e2 e3 e4
  intro H locs ls hR hA hS hL
  exact lv_lstore_n X.1 X.2.1 hdg hi (mL_has hL) hn rfl (fun ls1 h1 => k H locs ls1 hR hA hS (mL_store2 h1))
theorem zi_lstore (X : zX z l D cc own tys nL ret R nm) {i : Nat} {x : Int64} (hdg : decode cc pc = .ok (.lstore i, 2)) (hn : i + 1 < nL) (k : zM z cells slots (pc + 2) (mset2 L i (.long x)) st h) : zM z cells slots pc L (.long x :: st) h := by
  obtain ⟨p, l1, e, R1, s, m, args, below, meth, c, D1, A0, H0, nL1, Q⟩ := z
  obtain ⟨e1, e2, e3, e4, e5, X⟩ := X
  subst e1 e2 e3 e4
  intro H locs ls hR hA hS hL
  exact lv_lstore X.1 X.2.1 hdg (mL_has hL) hn rfl (fun ls1 h1 => k H locs ls1 hR hA hS (mL_store2 h1))
theorem zi_aload_n (X : zX z l D cc own tys nL ret R nm) {k : Fin 4} {i : Nat} {x : Nat} (hdg : decode cc pc = .ok (.aload_n k, 1)) (hi : (k : Nat) = i) (hl : L[i]? = some (some (.ref x))) (k : zM z cells slots (pc + 1) L (.ref x :: st) h) : zM z cells slots pc L st h := by
  obtain ⟨p, l1, e, R1, s, m, args, below, meth, c, D1, A0, H0, nL1, Q⟩ := z
  obtain ⟨e1, e2, e3, e4, e5, X⟩ := X
  subst e1 e2 e3 e4
  intro H locs ls hR hA hS hL
  exact lv_aload_n X.1 X.2.1 hdg hi (hL.2.2 i _ hl) (k H locs ls hR hA hS hL)
theorem zi_aload (X : zX z l D cc own tys nL ret R nm) {i : Nat} {x : Nat} (hdg : decode cc pc = .ok (.aload i, 2)) (hl : L[i]? = some (some (.ref x))) (k : zM z cells slots (pc + 2) L (.ref x :: st) h) : zM z cells slots pc L st h := by
  obtain ⟨p, l1, e, R1, s, m, args, below, meth, c, D1, A0, H0, nL1, Q⟩ := z
  obtain ⟨e1, e2, e3, e4, e5, X⟩ := X
  subst e1 e2 e3 e4
  intro H locs ls hR hA hS hL
  exact lv_aload X.1 X.2.1 hdg (hL.2.2 i _ hl) (k H locs ls hR hA hS hL)
theorem zi_astore_n (X : zX z l D cc own tys nL ret R nm) {k : Fin 4} {i : Nat} {x : Nat} (hdg : decode cc pc = .ok (.astore_n k, 1)) (hi : (k : Nat) = i) (hn : i < nL) (k : zM z cells slots (pc + 1) (mset1 L i (.ref x)) st h) : zM z cells slots pc L (.ref x :: st) h := by
  obtain ⟨p, l1, e, R1, s, m, args, below, meth, c, D1, A0, H0, nL1, Q⟩ := z
  obtain ⟨e1, e2, e3, e4, e5, X⟩ := X
  subst e1 e2 e3 e4
  intro H locs ls hR hA hS hL
  exact lv_astore_n X.1 X.2.1 hdg hi (mL_has hL) hn rfl (fun ls1 h1 => k H locs ls1 hR hA hS (mL_store1 h1))
theorem zi_astore (X : zX z l D cc own tys nL ret R nm) {i : Nat} {x : Nat} (hdg : decode cc pc = .ok (.astore i, 2)) (hn : i < nL) (k : zM z cells slots (pc + 2) (mset1 L i (.ref x)) st h) : zM z cells slots pc L (.ref x :: st) h := by
  obtain ⟨p, l1, e, R1, s, m, args, below, meth, c, D1, A0, H0, nL1, Q⟩ := z
  obtain ⟨e1, e2, e3, e4, e5, X⟩ := X
  subst e1 e2 e3 e4
  intro H locs ls hR hA hS hL
  exact lv_astore X.1 X.2.1 hdg (mL_has hL) hn rfl (fun ls1 h1 => k H locs ls1 hR hA hS (mL_store1 h1))
theorem zi_iconst (X : zX z l D cc own tys nL ret R nm) {n : Int} {v : Int32} (hdg : decode cc pc = .ok (.iconst n, 1)) (hv : Int32.ofInt n = v) (k : zM z cells slots (pc + 1) L (.int v :: st) h) : zM z cells slots pc L st h := by
  obtain ⟨p, l1, e, R1, s, m, args, below, meth, c, D1, A0, H0, nL1, Q⟩ := z
  obtain ⟨e1, e2, e3, e4, e5, X⟩ := X
  subst e1 e2 e3 e4
  intro H locs ls hR hA hS hL
  exact lv_iconst X.1 X.2.1 hdg hv (k H locs ls hR hA hS hL)
theorem zi_bipush (X : zX z l D cc own tys nL ret R nm) {n : Int} {v : Int32} (hdg : decode cc pc = .ok (.bipush n, 2)) (hv : (Int8.ofInt n).toInt32 = v) (k : zM z cells slots (pc + 2) L (.int v :: st) h) : zM z cells slots pc L st h := by
  obtain ⟨p, l1, e, R1, s, m, args, below, meth, c, D1, A0, H0, nL1, Q⟩ := z
  obtain ⟨e1, e2, e3, e4, e5, X⟩ := X
  subst e1 e2 e3 e4
  intro H locs ls hR hA hS hL
  exact lv_bipush X.1 X.2.1 hdg hv (k H locs ls hR hA hS hL)
theorem zi_sipush (X : zX z l D cc own tys nL ret R nm) {n : Int} {v : Int32} (hdg : decode cc pc = .ok (.sipush n, 3)) (hv : (Int16.ofInt n).toInt32 = v) (k : zM z cells slots (pc + 3) L (.int v :: st) h) : zM z cells slots pc L st h := by
  obtain ⟨p, l1, e, R1, s, m, args, below, meth, c, D1, A0, H0, nL1, Q⟩ := z
  obtain ⟨e1, e2, e3, e4, e5, X⟩ := X
  subst e1 e2 e3 e4
  intro H locs ls hR hA hS hL
  exact lv_sipush X.1 X.2.1 hdg hv (k H locs ls hR hA hS hL)
theorem zi_lconst (X : zX z l D cc own tys nL ret R nm) {n : Fin 2} {v : Int64} (hdg : decode cc pc = .ok (.lconst n, 1)) (hv : Int64.ofNat (n : Nat) = v) (k : zM z cells slots (pc + 1) L (.long v :: st) h) : zM z cells slots pc L st h := by
  obtain ⟨p, l1, e, R1, s, m, args, below, meth, c, D1, A0, H0, nL1, Q⟩ := z
  obtain ⟨e1, e2, e3, e4, e5, X⟩ := X
  subst e1 e2 e3 e4
  intro H locs ls hR hA hS hL
  exact lv_lconst X.1 X.2.1 hdg hv (k H locs ls hR hA hS hL)
theorem zi_ldc (X : zX z l D cc own tys nL ret R nm) {index : Nat} {v : Int32} (hc : Cond.constant own index v ∈ mAll) (hdg : decode cc pc = .ok (.ldc index, 2)) (k : zM z cells slots (pc + 2) L (.int v :: st) h) : zM z cells slots pc L st h := by
  obtain ⟨p, l1, e, R1, s, m, args, below, meth, c, D1, A0, H0, nL1, Q⟩ := z
  obtain ⟨e1, e2, e3, e4, e5, X⟩ := X
  subst e1 e2 e3 e4
  intro H locs ls hR hA hS hL
  exact lv_ldc X.1 X.2.1 X.2.2.2.1 (X.2.2.1 _ hc) hdg (k H locs ls hR hA hS hL)
theorem zi_ldc_w (X : zX z l D cc own tys nL ret R nm) {index : Nat} {v : Int32} (hc : Cond.constant own index v ∈ mAll) (hdg : decode cc pc = .ok (.ldc_w index, 3)) (k : zM z cells slots (pc + 3) L (.int v :: st) h) : zM z cells slots pc L st h := by
  obtain ⟨p, l1, e, R1, s, m, args, below, meth, c, D1, A0, H0, nL1, Q⟩ := z
  obtain ⟨e1, e2, e3, e4, e5, X⟩ := X
  subst e1 e2 e3 e4
  intro H locs ls hR hA hS hL
  exact lv_ldcw X.1 X.2.1 X.2.2.2.1 (X.2.2.1 _ hc) hdg (k H locs ls hR hA hS hL)
theorem zi_ldc2_w (X : zX z l D cc own tys nL ret R nm) {index : Nat} {v : Int64} (hc : Cond.constantLong own index v ∈ mAll) (hdg : decode cc pc = .ok (.ldc2_w index, 3)) (k : zM z cells slots (pc + 3) L (.long v :: st) h) : zM z cells slots pc L st h := by
  obtain ⟨p, l1, e, R1, s, m, args, below, meth, c, D1, A0, H0, nL1, Q⟩ := z
  obtain ⟨e1, e2, e3, e4, e5, X⟩ := X
  subst e1 e2 e3 e4
  intro H locs ls hR hA hS hL
  exact lv_ldc2 X.1 X.2.1 X.2.2.2.1 (X.2.2.1 _ hc) hdg (k H locs ls hR hA hS hL)
theorem zi_aconst_null (X : zX z l D cc own tys nL ret R nm) (hdg : decode cc pc = .ok (.aconst_null, 1)) (k : zM z cells slots (pc + 1) L (.null :: st) h) : zM z cells slots pc L st h := by
  obtain ⟨p, l1, e, R1, s, m, args, below, meth, c, D1, A0, H0, nL1, Q⟩ := z
  obtain ⟨e1, e2, e3, e4, e5, X⟩ := X
  subst e1 e2 e3 e4
  intro H locs ls hR hA hS hL
  exact lv_null X.1 X.2.1 hdg (k H locs ls hR hA hS hL)
theorem zi_iinc (X : zX z l D cc own tys nL ret R nm) {i : Nat} {n : Int} {x v : Int32} (hdg : decode cc pc = .ok (.iinc i n, 3)) (hl : L[i]? = some (some (.int x))) (hv : x + Int32.ofInt n = v) (hn : i < nL) (k : zM z cells slots (pc + 3) (mset1 L i (.int v)) st h) : zM z cells slots pc L st h := by
  obtain ⟨p, l1, e, R1, s, m, args, below, meth, c, D1, A0, H0, nL1, Q⟩ := z
  obtain ⟨e1, e2, e3, e4, e5, X⟩ := X
  subst e1 e2 e3 e4
  intro H locs ls hR hA hS hL
  obtain ⟨k0, hk0⟩ := List.getElem?_of_mem (mTo_in.mpr hl)
  exact lv_iinc X.1 X.2.1 hdg (mL_has hL) hk0 hv hn rfl (fun ls1 h1 => k H locs ls1 hR hA hS (mL_store1 h1))
theorem zi_iadd (X : zX z l D cc own tys nL ret R nm) {x y : Int32} (hdg : decode cc pc = .ok (.iadd, 1)) (k : zM z cells slots (pc + 1) L (.int (x + y) :: st) h) : zM z cells slots pc L (.int y :: .int x :: st) h := by
  obtain ⟨p, l1, e, R1, s, m, args, below, meth, c, D1, A0, H0, nL1, Q⟩ := z
  obtain ⟨e1, e2, e3, e4, e5, X⟩ := X
  subst e1 e2 e3 e4
  intro H locs ls hR hA hS hL
  exact lv_iadd X.1 X.2.1 hdg (k H locs ls hR hA hS hL)
theorem zi_isub (X : zX z l D cc own tys nL ret R nm) {x y : Int32} (hdg : decode cc pc = .ok (.isub, 1)) (k : zM z cells slots (pc + 1) L (.int (x - y) :: st) h) : zM z cells slots pc L (.int y :: .int x :: st) h := by
  obtain ⟨p, l1, e, R1, s, m, args, below, meth, c, D1, A0, H0, nL1, Q⟩ := z
  obtain ⟨e1, e2, e3, e4, e5, X⟩ := X
  subst e1 e2 e3 e4
  intro H locs ls hR hA hS hL
  exact lv_isub X.1 X.2.1 hdg (k H locs ls hR hA hS hL)
theorem zi_imul (X : zX z l D cc own tys nL ret R nm) {x y : Int32} (hdg : decode cc pc = .ok (.imul, 1)) (k : zM z cells slots (pc + 1) L (.int (x * y) :: st) h) : zM z cells slots pc L (.int y :: .int x :: st) h := by
  obtain ⟨p, l1, e, R1, s, m, args, below, meth, c, D1, A0, H0, nL1, Q⟩ := z
  obtain ⟨e1, e2, e3, e4, e5, X⟩ := X
  subst e1 e2 e3 e4
  intro H locs ls hR hA hS hL
  exact lv_imul X.1 X.2.1 hdg (k H locs ls hR hA hS hL)
theorem zi_iand (X : zX z l D cc own tys nL ret R nm) {x y : Int32} (hdg : decode cc pc = .ok (.iand, 1)) (k : zM z cells slots (pc + 1) L (.int (x &&& y) :: st) h) : zM z cells slots pc L (.int y :: .int x :: st) h := by
  obtain ⟨p, l1, e, R1, s, m, args, below, meth, c, D1, A0, H0, nL1, Q⟩ := z
  obtain ⟨e1, e2, e3, e4, e5, X⟩ := X
  subst e1 e2 e3 e4
  intro H locs ls hR hA hS hL
  exact lv_iand X.1 X.2.1 hdg (k H locs ls hR hA hS hL)
theorem zi_ior (X : zX z l D cc own tys nL ret R nm) {x y : Int32} (hdg : decode cc pc = .ok (.ior, 1)) (k : zM z cells slots (pc + 1) L (.int (x ||| y) :: st) h) : zM z cells slots pc L (.int y :: .int x :: st) h := by
  obtain ⟨p, l1, e, R1, s, m, args, below, meth, c, D1, A0, H0, nL1, Q⟩ := z
  obtain ⟨e1, e2, e3, e4, e5, X⟩ := X
  subst e1 e2 e3 e4
  intro H locs ls hR hA hS hL
  exact lv_ior X.1 X.2.1 hdg (k H locs ls hR hA hS hL)
theorem zi_ixor (X : zX z l D cc own tys nL ret R nm) {x y : Int32} (hdg : decode cc pc = .ok (.ixor, 1)) (k : zM z cells slots (pc + 1) L (.int (x ^^^ y) :: st) h) : zM z cells slots pc L (.int y :: .int x :: st) h := by
  obtain ⟨p, l1, e, R1, s, m, args, below, meth, c, D1, A0, H0, nL1, Q⟩ := z
  obtain ⟨e1, e2, e3, e4, e5, X⟩ := X
  subst e1 e2 e3 e4
  intro H locs ls hR hA hS hL
  exact lv_ixor X.1 X.2.1 hdg (k H locs ls hR hA hS hL)
theorem zi_ishl (X : zX z l D cc own tys nL ret R nm) {x y : Int32} (hdg : decode cc pc = .ok (.ishl, 1)) (k : zM z cells slots (pc + 1) L (.int (x <<< (y &&& 31)) :: st) h) : zM z cells slots pc L (.int y :: .int x :: st) h := by
  obtain ⟨p, l1, e, R1, s, m, args, below, meth, c, D1, A0, H0, nL1, Q⟩ := z
  obtain ⟨e1, e2, e3, e4, e5, X⟩ := X
  subst e1 e2 e3 e4
  intro H locs ls hR hA hS hL
  exact lv_ishl X.1 X.2.1 hdg (k H locs ls hR hA hS hL)
theorem zi_idiv (X : zX z l D cc own tys nL ret R nm) {x y : Int32} (hdg : decode cc pc = .ok (.idiv, 1)) (hne : ¬ y = 0) (k : zM z cells slots (pc + 1) L (.int (x / y) :: st) h) : zM z cells slots pc L (.int y :: .int x :: st) h := by
  obtain ⟨p, l1, e, R1, s, m, args, below, meth, c, D1, A0, H0, nL1, Q⟩ := z
  obtain ⟨e1, e2, e3, e4, e5, X⟩ := X
  subst e1 e2 e3 e4
  intro H locs ls hR hA hS hL
  exact lv_idiv X.1 X.2.1 hdg hne (k H locs ls hR hA hS hL)
theorem zi_irem (X : zX z l D cc own tys nL ret R nm) {x y : Int32} (hdg : decode cc pc = .ok (.irem, 1)) (hne : ¬ y = 0) (k : zM z cells slots (pc + 1) L (.int (x - x / y * y) :: st) h) : zM z cells slots pc L (.int y :: .int x :: st) h := by
  obtain ⟨p, l1, e, R1, s, m, args, below, meth, c, D1, A0, H0, nL1, Q⟩ := z
  obtain ⟨e1, e2, e3, e4, e5, X⟩ := X
  subst e1 e2 e3 e4
  intro H locs ls hR hA hS hL
  exact lv_irem X.1 X.2.1 hdg hne (k H locs ls hR hA hS hL)
theorem zi_ladd (X : zX z l D cc own tys nL ret R nm) {x y : Int64} (hdg : decode cc pc = .ok (.ladd, 1)) (k : zM z cells slots (pc + 1) L (.long (x + y) :: st) h) : zM z cells slots pc L (.long y :: .long x :: st) h := by
  obtain ⟨p, l1, e, R1, s, m, args, below, meth, c, D1, A0, H0, nL1, Q⟩ := z
  obtain ⟨e1, e2, e3, e4, e5, X⟩ := X
  subst e1 e2 e3 e4
  intro H locs ls hR hA hS hL
  exact lv_ladd X.1 X.2.1 hdg (k H locs ls hR hA hS hL)
theorem zi_lsub (X : zX z l D cc own tys nL ret R nm) {x y : Int64} (hdg : decode cc pc = .ok (.lsub, 1)) (k : zM z cells slots (pc + 1) L (.long (x - y) :: st) h) : zM z cells slots pc L (.long y :: .long x :: st) h := by
  obtain ⟨p, l1, e, R1, s, m, args, below, meth, c, D1, A0, H0, nL1, Q⟩ := z
  obtain ⟨e1, e2, e3, e4, e5, X⟩ := X
  subst e1 e2 e3 e4
  intro H locs ls hR hA hS hL
  exact lv_lsub X.1 X.2.1 hdg (k H locs ls hR hA hS hL)
theorem zi_lmul (X : zX z l D cc own tys nL ret R nm) {x y : Int64} (hdg : decode cc pc = .ok (.lmul, 1)) (k : zM z cells slots (pc + 1) L (.long (x * y) :: st) h) : zM z cells slots pc L (.long y :: .long x :: st) h := by
  obtain ⟨p, l1, e, R1, s, m, args, below, meth, c, D1, A0, H0, nL1, Q⟩ := z
  obtain ⟨e1, e2, e3, e4, e5, X⟩ := X
  subst e1 e2 e3 e4
  intro H locs ls hR hA hS hL
  exact lv_lmul X.1 X.2.1 hdg (k H locs ls hR hA hS hL)
theorem zi_land (X : zX z l D cc own tys nL ret R nm) {x y : Int64} (hdg : decode cc pc = .ok (.land, 1)) (k : zM z cells slots (pc + 1) L (.long (x &&& y) :: st) h) : zM z cells slots pc L (.long y :: .long x :: st) h := by
  obtain ⟨p, l1, e, R1, s, m, args, below, meth, c, D1, A0, H0, nL1, Q⟩ := z
  obtain ⟨e1, e2, e3, e4, e5, X⟩ := X
  subst e1 e2 e3 e4
  intro H locs ls hR hA hS hL
  exact lv_land X.1 X.2.1 hdg (k H locs ls hR hA hS hL)
theorem zi_lor (X : zX z l D cc own tys nL ret R nm) {x y : Int64} (hdg : decode cc pc = .ok (.lor, 1)) (k : zM z cells slots (pc + 1) L (.long (x ||| y) :: st) h) : zM z cells slots pc L (.long y :: .long x :: st) h := by
  obtain ⟨p, l1, e, R1, s, m, args, below, meth, c, D1, A0, H0, nL1, Q⟩ := z
  obtain ⟨e1, e2, e3, e4, e5, X⟩ := X
  subst e1 e2 e3 e4
  intro H locs ls hR hA hS hL
  exact lv_lor X.1 X.2.1 hdg (k H locs ls hR hA hS hL)
theorem zi_lxor (X : zX z l D cc own tys nL ret R nm) {x y : Int64} (hdg : decode cc pc = .ok (.lxor, 1)) (k : zM z cells slots (pc + 1) L (.long (x ^^^ y) :: st) h) : zM z cells slots pc L (.long y :: .long x :: st) h := by
  obtain ⟨p, l1, e, R1, s, m, args, below, meth, c, D1, A0, H0, nL1, Q⟩ := z
  obtain ⟨e1, e2, e3, e4, e5, X⟩ := X
  subst e1 e2 e3 e4
  intro H locs ls hR hA hS hL
  exact lv_lxor X.1 X.2.1 hdg (k H locs ls hR hA hS hL)
theorem zi_ldiv (X : zX z l D cc own tys nL ret R nm) {x y : Int64} (hdg : decode cc pc = .ok (.ldiv, 1)) (hne : ¬ y = 0) (k : zM z cells slots (pc + 1) L (.long (x / y) :: st) h) : zM z cells slots pc L (.long y :: .long x :: st) h := by
  obtain ⟨p, l1, e, R1, s, m, args, below, meth, c, D1, A0, H0, nL1, Q⟩ := z
  obtain ⟨e1, e2, e3, e4, e5, X⟩ := X
  subst e1 e2 e3 e4
  intro H locs ls hR hA hS hL
  exact lv_ldiv X.1 X.2.1 hdg hne (k H locs ls hR hA hS hL)
theorem zi_lrem (X : zX z l D cc own tys nL ret R nm) {x y : Int64} (hdg : decode cc pc = .ok (.lrem, 1)) (hne : ¬ y = 0) (k : zM z cells slots (pc + 1) L (.long (x - x / y * y) :: st) h) : zM z cells slots pc L (.long y :: .long x :: st) h := by
  obtain ⟨p, l1, e, R1, s, m, args, below, meth, c, D1, A0, H0, nL1, Q⟩ := z
  obtain ⟨e1, e2, e3, e4, e5, X⟩ := X
  subst e1 e2 e3 e4
  intro H locs ls hR hA hS hL
  exact lv_lrem X.1 X.2.1 hdg hne (k H locs ls hR hA hS hL)
theorem zi_ineg (X : zX z l D cc own tys nL ret R nm) {x : Int32} (hdg : decode cc pc = .ok (.ineg, 1)) (k : zM z cells slots (pc + 1) L (.int (-x) :: st) h) : zM z cells slots pc L (.int x :: st) h := by
  obtain ⟨p, l1, e, R1, s, m, args, below, meth, c, D1, A0, H0, nL1, Q⟩ := z
  obtain ⟨e1, e2, e3, e4, e5, X⟩ := X
  subst e1 e2 e3 e4
  intro H locs ls hR hA hS hL
  exact lv_ineg X.1 X.2.1 hdg (k H locs ls hR hA hS hL)
theorem zi_lneg (X : zX z l D cc own tys nL ret R nm) {x : Int64} (hdg : decode cc pc = .ok (.lneg, 1)) (k : zM z cells slots (pc + 1) L (.long (-x) :: st) h) : zM z cells slots pc L (.long x :: st) h := by
  obtain ⟨p, l1, e, R1, s, m, args, below, meth, c, D1, A0, H0, nL1, Q⟩ := z
  obtain ⟨e1, e2, e3, e4, e5, X⟩ := X
  subst e1 e2 e3 e4
  intro H locs ls hR hA hS hL
  exact lv_lneg X.1 X.2.1 hdg (k H locs ls hR hA hS hL)
theorem zi_iushr (X : zX z l D cc own tys nL ret R nm) {x y : Int32} (hdg : decode cc pc = .ok (.iushr, 1)) (k : zM z cells slots (pc + 1) L (.int (x.toUInt32 >>> (y.toUInt32 &&& Int32.toUInt32 31)).toInt32 :: st) h) : zM z cells slots pc L (.int y :: .int x :: st) h := by
  obtain ⟨p, l1, e, R1, s, m, args, below, meth, c, D1, A0, H0, nL1, Q⟩ := z
  obtain ⟨e1, e2, e3, e4, e5, X⟩ := X
  subst e1 e2 e3 e4
  intro H locs ls hR hA hS hL
  exact lv_iushr X.1 X.2.1 hdg rfl (k H locs ls hR hA hS hL)
theorem zi_lushr (X : zX z l D cc own tys nL ret R nm) {x : Int64} {y : Int32} (hdg : decode cc pc = .ok (.lushr, 1)) (k : zM z cells slots (pc + 1) L (.long (x.toUInt64 >>> (y.toInt64.toUInt64 &&& Int64.toUInt64 63)).toInt64 :: st) h) : zM z cells slots pc L (.int y :: .long x :: st) h := by
  obtain ⟨p, l1, e, R1, s, m, args, below, meth, c, D1, A0, H0, nL1, Q⟩ := z
  obtain ⟨e1, e2, e3, e4, e5, X⟩ := X
  subst e1 e2 e3 e4
  intro H locs ls hR hA hS hL
  exact lv_lushr X.1 X.2.1 hdg rfl (k H locs ls hR hA hS hL)
theorem zi_lshl (X : zX z l D cc own tys nL ret R nm) {x : Int64} {y : Int32} (hdg : decode cc pc = .ok (.lshl, 1)) (k : zM z cells slots (pc + 1) L (.long (x <<< (y.toInt64 &&& 63)) :: st) h) : zM z cells slots pc L (.int y :: .long x :: st) h := by
  obtain ⟨p, l1, e, R1, s, m, args, below, meth, c, D1, A0, H0, nL1, Q⟩ := z
  obtain ⟨e1, e2, e3, e4, e5, X⟩ := X
  subst e1 e2 e3 e4
  intro H locs ls hR hA hS hL
  exact lv_lshl X.1 X.2.1 hdg rfl (k H locs ls hR hA hS hL)
theorem zi_lshr (X : zX z l D cc own tys nL ret R nm) {x : Int64} {y : Int32} (hdg : decode cc pc = .ok (.lshr, 1)) (k : zM z cells slots (pc + 1) L (.long (x >>> (y.toInt64 &&& 63)) :: st) h) : zM z cells slots pc L (.int y :: .long x :: st) h := by
  obtain ⟨p, l1, e, R1, s, m, args, below, meth, c, D1, A0, H0, nL1, Q⟩ := z
  obtain ⟨e1, e2, e3, e4, e5, X⟩ := X
  subst e1 e2 e3 e4
  intro H locs ls hR hA hS hL
  exact lv_lshr X.1 X.2.1 hdg rfl (k H locs ls hR hA hS hL)
theorem zi_i2l (X : zX z l D cc own tys nL ret R nm) {x : Int32} (hdg : decode cc pc = .ok (.i2l, 1)) (k : zM z cells slots (pc + 1) L (.long x.toInt64 :: st) h) : zM z cells slots pc L (.int x :: st) h := by
  obtain ⟨p, l1, e, R1, s, m, args, below, meth, c, D1, A0, H0, nL1, Q⟩ := z
  obtain ⟨e1, e2, e3, e4, e5, X⟩ := X
  subst e1 e2 e3 e4
  intro H locs ls hR hA hS hL
  exact lv_i2l X.1 X.2.1 hdg rfl (k H locs ls hR hA hS hL)
theorem zi_l2i (X : zX z l D cc own tys nL ret R nm) {x : Int64} (hdg : decode cc pc = .ok (.l2i, 1)) (k : zM z cells slots (pc + 1) L (.int x.toInt32 :: st) h) : zM z cells slots pc L (.long x :: st) h := by
  obtain ⟨p, l1, e, R1, s, m, args, below, meth, c, D1, A0, H0, nL1, Q⟩ := z
  obtain ⟨e1, e2, e3, e4, e5, X⟩ := X
  subst e1 e2 e3 e4
  intro H locs ls hR hA hS hL
  exact lv_l2i X.1 X.2.1 hdg rfl (k H locs ls hR hA hS hL)
theorem zi_i2c (X : zX z l D cc own tys nL ret R nm) {x : Int32} (hdg : decode cc pc = .ok (.i2c, 1)) (k : zM z cells slots (pc + 1) L (.int (x.toUInt32 % 65536).toInt32 :: st) h) : zM z cells slots pc L (.int x :: st) h := by
  obtain ⟨p, l1, e, R1, s, m, args, below, meth, c, D1, A0, H0, nL1, Q⟩ := z
  obtain ⟨e1, e2, e3, e4, e5, X⟩ := X
  subst e1 e2 e3 e4
  intro H locs ls hR hA hS hL
  exact lv_i2c X.1 X.2.1 hdg rfl (k H locs ls hR hA hS hL)
theorem zi_lcmp (X : zX z l D cc own tys nL ret R nm) {x y : Int64} (hdg : decode cc pc = .ok (.lcmp, 1)) (k : zM z cells slots (pc + 1) L (.int (lg_cmp x y) :: st) h) : zM z cells slots pc L (.long y :: .long x :: st) h := by
  obtain ⟨p, l1, e, R1, s, m, args, below, meth, c, D1, A0, H0, nL1, Q⟩ := z
  obtain ⟨e1, e2, e3, e4, e5, X⟩ := X
  subst e1 e2 e3 e4
  intro H locs ls hR hA hS hL
  exact W.lcmp X.1 X.2.1 hdg (k H locs ls hR hA hS hL)
theorem zi_dup (X : zX z l D cc own tys nL ret R nm) {v : Value} (hdg : decode cc pc = .ok (.dup, 1)) (hv : v.category = 1) (k : zM z cells slots (pc + 1) L (v :: v :: st) h) : zM z cells slots pc L (v :: st) h := by
  obtain ⟨p, l1, e, R1, s, m, args, below, meth, c, D1, A0, H0, nL1, Q⟩ := z
  obtain ⟨e1, e2, e3, e4, e5, X⟩ := X
  subst e1 e2 e3 e4
  intro H locs ls hR hA hS hL
  exact lv_dup X.1 X.2.1 hdg hv (k H locs ls hR hA hS hL)
theorem zi_pop (X : zX z l D cc own tys nL ret R nm) {v : Value} (hdg : decode cc pc = .ok (.pop, 1)) (hv : v.category = 1) (k : zM z cells slots (pc + 1) L st h) : zM z cells slots pc L (v :: st) h := by
  obtain ⟨p, l1, e, R1, s, m, args, below, meth, c, D1, A0, H0, nL1, Q⟩ := z
  obtain ⟨e1, e2, e3, e4, e5, X⟩ := X
  subst e1 e2 e3 e4
  intro H locs ls hR hA hS hL
  exact lv_pop X.1 X.2.1 hdg hv (k H locs ls hR hA hS hL)
theorem zi_pop2 (X : zX z l D cc own tys nL ret R nm) {v : Value} (hdg : decode cc pc = .ok (.pop2, 1)) (hv : v.category = 2) (k : zM z cells slots (pc + 1) L st h) : zM z cells slots pc L (v :: st) h := by
  obtain ⟨p, l1, e, R1, s, m, args, below, meth, c, D1, A0, H0, nL1, Q⟩ := z
  obtain ⟨e1, e2, e3, e4, e5, X⟩ := X
  subst e1 e2 e3 e4
  intro H locs ls hR hA hS hL
  exact lv_pop2_2 X.1 X.2.1 hdg hv (k H locs ls hR hA hS hL)
theorem zi_dup2 (X : zX z l D cc own tys nL ret R nm) {v u : Value} (hdg : decode cc pc = .ok (.dup2, 1)) (hv : v.category = 1) (hu : u.category = 1) (k : zM z cells slots (pc + 1) L (v :: u :: v :: u :: st) h) : zM z cells slots pc L (v :: u :: st) h := by
  obtain ⟨p, l1, e, R1, s, m, args, below, meth, c, D1, A0, H0, nL1, Q⟩ := z
  obtain ⟨e1, e2, e3, e4, e5, X⟩ := X
  subst e1 e2 e3 e4
  intro H locs ls hR hA hS hL
  exact lv_dup2_11 X.1 X.2.1 hdg hv hu (k H locs ls hR hA hS hL)
theorem zi_dup_x1 (X : zX z l D cc own tys nL ret R nm) {v u : Value} (hdg : decode cc pc = .ok (.dup_x1, 1)) (hv : v.category = 1) (hu : u.category = 1) (k : zM z cells slots (pc + 1) L (v :: u :: v :: st) h) : zM z cells slots pc L (v :: u :: st) h := by
  obtain ⟨p, l1, e, R1, s, m, args, below, meth, c, D1, A0, H0, nL1, Q⟩ := z
  obtain ⟨e1, e2, e3, e4, e5, X⟩ := X
  subst e1 e2 e3 e4
  intro H locs ls hR hA hS hL
  exact lv_dup_x1 X.1 X.2.1 hdg hv hu (k H locs ls hR hA hS hL)
theorem zi_if_eq (X : zX z l D cc own tys nL ret R nm) {x : Int32} {off : Int} {tgt : Nat} (hdg : decode cc pc = .ok (.ifCond .eq off, 3)) (ht : (pc : Int) + off = (tgt : Int)) (kt : x = 0 → zM z cells slots tgt L st h) (kf : ¬ x = 0 → zM z cells slots (pc + 3) L st h) : zM z cells slots pc L (.int x :: st) h := by
  obtain ⟨p, l1, e, R1, s, m, args, below, meth, c, D1, A0, H0, nL1, Q⟩ := z
  obtain ⟨e1, e2, e3, e4, e5, X⟩ := X
  subst e1 e2 e3 e4
  intro H locs ls hR hA hS hL
  exact lv_if_eq X.1 X.2.1 hdg ht (fun q => kt q H locs ls hR hA hS hL) (fun q => kf q H locs ls hR hA hS hL)
theorem zi_if_ne (X : zX z l D cc own tys nL ret R nm) {x : Int32} {off : Int} {tgt : Nat} (hdg : decode cc pc = .ok (.ifCond .ne off, 3)) (ht : (pc : Int) + off = (tgt : Int)) (kt : ¬ x = 0 → zM z cells slots tgt L st h) (kf : x = 0 → zM z cells slots (pc + 3) L st h) : zM z cells slots pc L (.int x :: st) h := by
  obtain ⟨p, l1, e, R1, s, m, args, below, meth, c, D1, A0, H0, nL1, Q⟩ := z
  obtain ⟨e1, e2, e3, e4, e5, X⟩ := X
  subst e1 e2 e3 e4
  intro H locs ls hR hA hS hL
  exact lv_if_ne X.1 X.2.1 hdg ht (fun q => kt q H locs ls hR hA hS hL) (fun q => kf q H locs ls hR hA hS hL)
theorem zi_if_lt (X : zX z l D cc own tys nL ret R nm) {x : Int32} {off : Int} {tgt : Nat} (hdg : decode cc pc = .ok (.ifCond .lt off, 3)) (ht : (pc : Int) + off = (tgt : Int)) (kt : x < 0 → zM z cells slots tgt L st h) (kf : ¬ x < 0 → zM z cells slots (pc + 3) L st h) : zM z cells slots pc L (.int x :: st) h := by
  obtain ⟨p, l1, e, R1, s, m, args, below, meth, c, D1, A0, H0, nL1, Q⟩ := z
  obtain ⟨e1, e2, e3, e4, e5, X⟩ := X
  subst e1 e2 e3 e4
  intro H locs ls hR hA hS hL
  exact lv_if_lt X.1 X.2.1 hdg ht (fun q => kt q H locs ls hR hA hS hL) (fun q => kf q H locs ls hR hA hS hL)
theorem zi_if_ge (X : zX z l D cc own tys nL ret R nm) {x : Int32} {off : Int} {tgt : Nat} (hdg : decode cc pc = .ok (.ifCond .ge off, 3)) (ht : (pc : Int) + off = (tgt : Int)) (kt : 0 ≤ x → zM z cells slots tgt L st h) (kf : ¬ 0 ≤ x → zM z cells slots (pc + 3) L st h) : zM z cells slots pc L (.int x :: st) h := by
  obtain ⟨p, l1, e, R1, s, m, args, below, meth, c, D1, A0, H0, nL1, Q⟩ := z
  obtain ⟨e1, e2, e3, e4, e5, X⟩ := X
  subst e1 e2 e3 e4
  intro H locs ls hR hA hS hL
  exact lv_if_ge X.1 X.2.1 hdg ht (fun q => kt q H locs ls hR hA hS hL) (fun q => kf q H locs ls hR hA hS hL)
theorem zi_if_gt (X : zX z l D cc own tys nL ret R nm) {x : Int32} {off : Int} {tgt : Nat} (hdg : decode cc pc = .ok (.ifCond .gt off, 3)) (ht : (pc : Int) + off = (tgt : Int)) (kt : 0 < x → zM z cells slots tgt L st h) (kf : ¬ 0 < x → zM z cells slots (pc + 3) L st h) : zM z cells slots pc L (.int x :: st) h := by
  obtain ⟨p, l1, e, R1, s, m, args, below, meth, c, D1, A0, H0, nL1, Q⟩ := z
  obtain ⟨e1, e2, e3, e4, e5, X⟩ := X
  subst e1 e2 e3 e4
  intro H locs ls hR hA hS hL
  exact lv_if_gt X.1 X.2.1 hdg ht (fun q => kt q H locs ls hR hA hS hL) (fun q => kf q H locs ls hR hA hS hL)
theorem zi_if_le (X : zX z l D cc own tys nL ret R nm) {x : Int32} {off : Int} {tgt : Nat} (hdg : decode cc pc = .ok (.ifCond .le off, 3)) (ht : (pc : Int) + off = (tgt : Int)) (kt : x ≤ 0 → zM z cells slots tgt L st h) (kf : ¬ x ≤ 0 → zM z cells slots (pc + 3) L st h) : zM z cells slots pc L (.int x :: st) h := by
  obtain ⟨p, l1, e, R1, s, m, args, below, meth, c, D1, A0, H0, nL1, Q⟩ := z
  obtain ⟨e1, e2, e3, e4, e5, X⟩ := X
  subst e1 e2 e3 e4
  intro H locs ls hR hA hS hL
  exact lv_if_le X.1 X.2.1 hdg ht (fun q => kt q H locs ls hR hA hS hL) (fun q => kf q H locs ls hR hA hS hL)
theorem zi_icmp_eq (X : zX z l D cc own tys nL ret R nm) {x y : Int32} {off : Int} {tgt : Nat} (hdg : decode cc pc = .ok (.if_icmp .eq off, 3)) (ht : (pc : Int) + off = (tgt : Int)) (kt : x = y → zM z cells slots tgt L st h) (kf : ¬ x = y → zM z cells slots (pc + 3) L st h) : zM z cells slots pc L (.int y :: .int x :: st) h := by
  obtain ⟨p, l1, e, R1, s, m, args, below, meth, c, D1, A0, H0, nL1, Q⟩ := z
  obtain ⟨e1, e2, e3, e4, e5, X⟩ := X
  subst e1 e2 e3 e4
  intro H locs ls hR hA hS hL
  exact lv_icmp_eq X.1 X.2.1 hdg ht (fun q => kt q H locs ls hR hA hS hL) (fun q => kf q H locs ls hR hA hS hL)
theorem zi_icmp_ne (X : zX z l D cc own tys nL ret R nm) {x y : Int32} {off : Int} {tgt : Nat} (hdg : decode cc pc = .ok (.if_icmp .ne off, 3)) (ht : (pc : Int) + off = (tgt : Int)) (kt : ¬ x = y → zM z cells slots tgt L st h) (kf : x = y → zM z cells slots (pc + 3) L st h) : zM z cells slots pc L (.int y :: .int x :: st) h := by
  obtain ⟨p, l1, e, R1, s, m, args, below, meth, c, D1, A0, H0, nL1, Q⟩ := z
  obtain ⟨e1, e2, e3, e4, e5, X⟩ := X
  subst e1 e2 e3 e4
  intro H locs ls hR hA hS hL
  exact lv_icmp_ne X.1 X.2.1 hdg ht (fun q => kt q H locs ls hR hA hS hL) (fun q => kf q H locs ls hR hA hS hL)
theorem zi_icmp_lt (X : zX z l D cc own tys nL ret R nm) {x y : Int32} {off : Int} {tgt : Nat} (hdg : decode cc pc = .ok (.if_icmp .lt off, 3)) (ht : (pc : Int) + off = (tgt : Int)) (kt : x < y → zM z cells slots tgt L st h) (kf : ¬ x < y → zM z cells slots (pc + 3) L st h) : zM z cells slots pc L (.int y :: .int x :: st) h := by
  obtain ⟨p, l1, e, R1, s, m, args, below, meth, c, D1, A0, H0, nL1, Q⟩ := z
  obtain ⟨e1, e2, e3, e4, e5, X⟩ := X
  subst e1 e2 e3 e4
  intro H locs ls hR hA hS hL
  exact lv_icmp_lt X.1 X.2.1 hdg ht (fun q => kt q H locs ls hR hA hS hL) (fun q => kf q H locs ls hR hA hS hL)
theorem zi_icmp_ge (X : zX z l D cc own tys nL ret R nm) {x y : Int32} {off : Int} {tgt : Nat} (hdg : decode cc pc = .ok (.if_icmp .ge off, 3)) (ht : (pc : Int) + off = (tgt : Int)) (kt : y ≤ x → zM z cells slots tgt L st h) (kf : ¬ y ≤ x → zM z cells slots (pc + 3) L st h) : zM z cells slots pc L (.int y :: .int x :: st) h := by
  obtain ⟨p, l1, e, R1, s, m, args, below, meth, c, D1, A0, H0, nL1, Q⟩ := z
  obtain ⟨e1, e2, e3, e4, e5, X⟩ := X
  subst e1 e2 e3 e4
  intro H locs ls hR hA hS hL
  exact lv_icmp_ge X.1 X.2.1 hdg ht (fun q => kt q H locs ls hR hA hS hL) (fun q => kf q H locs ls hR hA hS hL)
theorem zi_icmp_gt (X : zX z l D cc own tys nL ret R nm) {x y : Int32} {off : Int} {tgt : Nat} (hdg : decode cc pc = .ok (.if_icmp .gt off, 3)) (ht : (pc : Int) + off = (tgt : Int)) (kt : y < x → zM z cells slots tgt L st h) (kf : ¬ y < x → zM z cells slots (pc + 3) L st h) : zM z cells slots pc L (.int y :: .int x :: st) h := by
  obtain ⟨p, l1, e, R1, s, m, args, below, meth, c, D1, A0, H0, nL1, Q⟩ := z
  obtain ⟨e1, e2, e3, e4, e5, X⟩ := X
  subst e1 e2 e3 e4
  intro H locs ls hR hA hS hL
  exact lv_icmp_gt X.1 X.2.1 hdg ht (fun q => kt q H locs ls hR hA hS hL) (fun q => kf q H locs ls hR hA hS hL)
theorem zi_icmp_le (X : zX z l D cc own tys nL ret R nm) {x y : Int32} {off : Int} {tgt : Nat} (hdg : decode cc pc = .ok (.if_icmp .le off, 3)) (ht : (pc : Int) + off = (tgt : Int)) (kt : x ≤ y → zM z cells slots tgt L st h) (kf : ¬ x ≤ y → zM z cells slots (pc + 3) L st h) : zM z cells slots pc L (.int y :: .int x :: st) h := by
  obtain ⟨p, l1, e, R1, s, m, args, below, meth, c, D1, A0, H0, nL1, Q⟩ := z
  obtain ⟨e1, e2, e3, e4, e5, X⟩ := X
  subst e1 e2 e3 e4
  intro H locs ls hR hA hS hL
  exact lv_icmp_le X.1 X.2.1 hdg ht (fun q => kt q H locs ls hR hA hS hL) (fun q => kf q H locs ls hR hA hS hL)
theorem zi_goto (X : zX z l D cc own tys nL ret R nm) {off : Int} {tgt : Nat} (hdg : decode cc pc = .ok (.goto off, 3)) (ht : (pc : Int) + off = (tgt : Int)) (k : zM z cells slots tgt L st h) : zM z cells slots pc L st h := by
  obtain ⟨p, l1, e, R1, s, m, args, below, meth, c, D1, A0, H0, nL1, Q⟩ := z
  obtain ⟨e1, e2, e3, e4, e5, X⟩ := X
  subst e1 e2 e3 e4
  intro H locs ls hR hA hS hL
  exact lv_goto X.1 X.2.1 hdg ht (k H locs ls hR hA hS hL)
theorem zi_ifnull_ref (X : zX z l D cc own tys nL ret R nm) {x : Nat} {off : Int} (hdg : decode cc pc = .ok (.ifnull off, 3)) (k : zM z cells slots (pc + 3) L st h) : zM z cells slots pc L (.ref x :: st) h := by
  obtain ⟨p, l1, e, R1, s, m, args, below, meth, c, D1, A0, H0, nL1, Q⟩ := z
  obtain ⟨e1, e2, e3, e4, e5, X⟩ := X
  subst e1 e2 e3 e4
  intro H locs ls hR hA hS hL
  exact lv_ifnull X.1 X.2.1 hdg (k H locs ls hR hA hS hL)
theorem zi_ifnull_null (X : zX z l D cc own tys nL ret R nm) {off : Int} {tgt : Nat} (hdg : decode cc pc = .ok (.ifnull off, 3)) (ht : (pc : Int) + off = (tgt : Int)) (k : zM z cells slots tgt L st h) : zM z cells slots pc L (.null :: st) h := by
  obtain ⟨p, l1, e, R1, s, m, args, below, meth, c, D1, A0, H0, nL1, Q⟩ := z
  obtain ⟨e1, e2, e3, e4, e5, X⟩ := X
  subst e1 e2 e3 e4
  intro H locs ls hR hA hS hL
  exact lv_ifnullN X.1 X.2.1 hdg ht (k H locs ls hR hA hS hL)
theorem zi_aload_nN (X : zX z l D cc own tys nL ret R nm) {k : Fin 4} {i : Nat} (hdg : decode cc pc = .ok (.aload_n k, 1)) (hi : (k : Nat) = i) (hl : L[i]? = some (some .null)) (k : zM z cells slots (pc + 1) L (.null :: st) h) : zM z cells slots pc L st h := by
  obtain ⟨p, l1, e, R1, s, m, args, below, meth, c, D1, A0, H0, nL1, Q⟩ := z
  obtain ⟨e1, e2, e3, e4, e5, X⟩ := X
  subst e1 e2 e3 e4
  intro H locs ls hR hA hS hL
  exact lv_aload_nN X.1 X.2.1 hdg hi (hL.2.2 i _ hl) (k H locs ls hR hA hS hL)
theorem zi_acmp_ne (X : zX z l D cc own tys nL ret R nm) {x y : Nat} {off : Int} {tgt : Nat} (hdg : decode cc pc = .ok (.if_acmp .ne off, 3)) (ht : (pc : Int) + off = (tgt : Int)) (kt : ¬ x = y → zM z cells slots tgt L st h) (kf : x = y → zM z cells slots (pc + 3) L st h) : zM z cells slots pc L (.ref y :: .ref x :: st) h := by
  obtain ⟨p, l1, e, R1, s, m, args, below, meth, c, D1, A0, H0, nL1, Q⟩ := z
  obtain ⟨e1, e2, e3, e4, e5, X⟩ := X
  subst e1 e2 e3 e4
  intro H locs ls hR hA hS hL
  exact lv_acmp_ne (rx := some x) (ry := some y) X.1 X.2.1 hdg ht (fun q => kt (fun z => q (congrArg some z)) H locs ls hR hA hS hL) (fun q => kf (Option.some.inj q) H locs ls hR hA hS hL)
theorem zi_getf (X : zX z l D cc own tys nL ret R nm) {a : Nat} {ref C : String} {T : u_T} {N ci index : Nat} {fs : List Value} {v : Value} (he : h a = some (.inr (ci, fs))) (hc : vwCl[ci]? = some (C, T, N)) (hin : ∀ w ∈ u_ws C T N, w ∈ mAll) (k0 : Nat) (hk0 : k0 < N) (hlink : Cond.fieldLink own index ref (T k0).2.1 (T k0).2.2.1 ∈ mAll) (href : ref = (T k0).1) (hv : fs[k0]? = some v) (hdg : decode cc pc = .ok (.getfield index, 3)) (k : zM z cells slots (pc + 3) L (v :: st) h) : zM z cells slots pc L (.ref a :: st) h := by
  obtain ⟨p, l1, e, R1, s, m, args, below, meth, c, D1, A0, H0, nL1, Q⟩ := z
  obtain ⟨e1, e2, e3, e4, e5, X⟩ := X
  subst e1 e2 e3 e4
  intro H locs ls hR hA hS hL
  obtain ⟨q, hq⟩ := mR_get hR he
  subst href
  exact va_get X.1 X.2.1 X.2.2.1 hin X.2.2.2.1 X.2.2.2.2.2.1 (mR_P hR) q hq hc k0 hk0 (X.2.2.1 _ hlink) (fun _ z => z) hv hdg (k H locs ls hR hA hS hL)
theorem zi_getfN (X : zX z l D cc own tys nL ret R nm) {a : Nat} {ref C host : String} {T : u_T} {N ci index : Nat} {fs : List Value} {v : Value} (he : h a = some (.inr (ci, fs))) (hc : vwCl[ci]? = some (C, T, N)) (hin : ∀ w ∈ u_ws C T N, w ∈ mAll) (k0 : Nat) (hk0 : k0 < N) (hlink : Cond.fieldLinkNest own index ref (T k0).2.1 (T k0).2.2.1 host ∈ mAll) (href : ref = (T k0).1) (hv : fs[k0]? = some v) (hdg : decode cc pc = .ok (.getfield index, 3)) (k : zM z cells slots (pc + 3) L (v :: st) h) : zM z cells slots pc L (.ref a :: st) h := by
  obtain ⟨p, l1, e, R1, s, m, args, below, meth, c, D1, A0, H0, nL1, Q⟩ := z
  obtain ⟨e1, e2, e3, e4, e5, X⟩ := X
  subst e1 e2 e3 e4
  intro H locs ls hR hA hS hL
  obtain ⟨q, hq⟩ := mR_get hR he
  subst href
  exact va_getN X.1 X.2.1 X.2.2.1 hin X.2.2.2.1 X.2.2.2.2.2.1 (mR_P hR) q hq hc k0 hk0 (X.2.2.1 _ hlink) (fun _ z => z) hv hdg (k H locs ls hR hA hS hL)
theorem zi_iald (X : zX z l D cc own tys nL ret R nm) {a : Nat} (t0 : Nat) {cA : ClassId} {n : Nat} {f : Nat → Int32} {i : Int32} (ha : h a = some (.inl (cA, n, .inl f))) (ht : tys[t0]? = some (cA, .int)) (hi : vp_in i n) (hdg : decode cc pc = .ok (.iaload, 1)) (k : zM z cells slots (pc + 1) L (.int (f i.toNatClampNeg) :: st) h) : zM z cells slots pc L (.int i :: .ref a :: st) h := by
  obtain ⟨p, l1, e, R1, s, m, args, below, meth, c, D1, A0, H0, nL1, Q⟩ := z
  obtain ⟨e1, e2, e3, e4, e5, X⟩ := X
  subst e1 e2 e3 e4
  intro H locs ls hR hA hS hL
  obtain ⟨q, hq⟩ := mR_get hR ha
  exact va_iald X.1 X.2.1 X.2.2.2.2.2.1 (mR_P hR) q t0 hq ht hi hdg (k H locs ls hR hA hS hL)
theorem zi_lald (X : zX z l D cc own tys nL ret R nm) {a : Nat} (t0 : Nat) {cA : ClassId} {n : Nat} {f : Nat → Int64} {i : Int32} (ha : h a = some (.inl (cA, n, .inr (.inl f)))) (ht : tys[t0]? = some (cA, .long)) (hi : vp_in i n) (hdg : decode cc pc = .ok (.laload, 1)) (k : zM z cells slots (pc + 1) L (.long (f i.toNatClampNeg) :: st) h) : zM z cells slots pc L (.int i :: .ref a :: st) h := by
  obtain ⟨p, l1, e, R1, s, m, args, below, meth, c, D1, A0, H0, nL1, Q⟩ := z
  obtain ⟨e1, e2, e3, e4, e5, X⟩ := X
  subst e1 e2 e3 e4
  intro H locs ls hR hA hS hL
  obtain ⟨q, hq⟩ := mR_get hR ha
  exact va_lald X.1 X.2.1 X.2.2.2.2.2.1 (mR_P hR) q t0 hq ht hi hdg (k H locs ls hR hA hS hL)
theorem zi_aaldq (X : zX z l D cc own tys nL ret R nm) {a : Nat} (t0 : Nat) {cA : ClassId} {C : String} {n : Nat} {f : Nat → Option Nat} {i : Int32} {r : Nat} (ha : h a = some (.inl (cA, n, .inr (.inr (.inr (.inr f)))))) (ht : tys[t0]? = some (cA, .object C)) (hi : vp_in i n) (hr : f i.toNatClampNeg = some r) (hdg : decode cc pc = .ok (.aaload, 1)) (k : zM z cells slots (pc + 1) L (.ref r :: st) h) : zM z cells slots pc L (.int i :: .ref a :: st) h := by
  obtain ⟨p, l1, e, R1, s, m, args, below, meth, c, D1, A0, H0, nL1, Q⟩ := z
  obtain ⟨e1, e2, e3, e4, e5, X⟩ := X
  subst e1 e2 e3 e4
  intro H locs ls hR hA hS hL
  obtain ⟨q, hq⟩ := mR_get hR ha
  refine va_aldq X.1 X.2.1 X.2.2.2.2.2.1 (mR_P hR) q t0 hq ht hi hdg ?_
  rw [hr]
  exact k H locs ls hR hA hS hL
theorem zi_alen (X : zX z l D cc own tys nL ret R nm) {a : Nat} (t0 : Nat) {cA : ClassId} {x : vp_A} {ty : FieldType} {v : Int32} (ha : h a = some (.inl (cA, x))) (ht : tys[t0]? = some (cA, ty)) (hv : Int32.ofNat x.1 = v) (hdg : decode cc pc = .ok (.arraylength, 1)) (k : zM z cells slots (pc + 1) L (.int v :: st) h) : zM z cells slots pc L (.ref a :: st) h := by
  obtain ⟨p, l1, e, R1, s, m, args, below, meth, c, D1, A0, H0, nL1, Q⟩ := z
  obtain ⟨e1, e2, e3, e4, e5, X⟩ := X
  subst e1 e2 e3 e4
  intro H locs ls hR hA hS hL
  obtain ⟨q, hq⟩ := mR_get hR ha
  exact va_alen X.1 X.2.1 X.2.2.2.2.2.1 (mR_P hR) q t0 hq ht hv hdg (k H locs ls hR hA hS hL)
theorem zi_putf (X : zX z l D cc own tys nL ret R nm) {a : Nat} {ref C : String} {T : u_T} {N ci index : Nat} {fs : List Value} {v : Value} {ty0 : Nat → FieldType} {ty : FieldType} (he : h a = some (.inr (ci, fs))) (hc : vwCl[ci]? = some (C, T, N)) (hin : ∀ w ∈ u_ws C T N, w ∈ mAll) (hty : ∀ k, k < N → parseFieldDescriptor (T k).2.2.1 = some (ty0 k)) (hnm : ∀ a, a < N → ∀ b, b < N → a ≠ b → (T a).2.1 ≠ (T b).2.1) (k0 : Nat) (hk0 : k0 < N) (hlink : Cond.fieldLink own index ref (T k0).2.1 (T k0).2.2.1 ∈ mAll) (href : ref = (T k0).1) (hfin : (T k0).2.2.2 = false) (hty0 : ty0 k0 = ty) (hn : narrow ty v = v) (hfit : fits ty v = true) (hlen : k0 < fs.length) (hdg : decode cc pc = .ok (.putfield index, 3)) (k : zM z cells slots (pc + 3) L st (mup h a (.inr (ci, fs.set k0 v)))) : zM z cells slots pc L (v :: .ref a :: st) h := by
  obtain ⟨p, l1, e, R1, s, m, args, below, meth, c, D1, A0, H0, nL1, Q⟩ := z
  obtain ⟨e1, e2, e3, e4, e5, X⟩ := X
  subst e1 e2 e3 e4
  intro H locs ls hR hA hS hL
  obtain ⟨q, hq⟩ := mR_get hR he
  subst href
  exact va_put X.1 X.2.1 X.2.2.1 hin ty0 hty hnm X.2.2.2.1 X.2.2.2.2.2.1 (mR_P hR) (mR_D hR hA) hS q hq hc k0 hk0 (X.2.2.1 _ hlink) (fun _ z => z) hfin (by rw [hty k0 hk0, hty0]) hn hfit hlen hdg (fun H1 locs1 hP1 hD1 hS1 => k H1 locs1 ls (mR_set hR hA he hq hP1) (mR_dom hA (hA a _ he)) hS1 hL)
theorem zi_putfN (X : zX z l D cc own tys nL ret R nm) {a : Nat} {ref C host : String} {T : u_T} {N ci index : Nat} {fs : List Value} {v : Value} {ty0 : Nat → FieldType} {ty : FieldType} (he : h a = some (.inr (ci, fs))) (hc : vwCl[ci]? = some (C, T, N)) (hin : ∀ w ∈ u_ws C T N, w ∈ mAll) (hty : ∀ k, k < N → parseFieldDescriptor (T k).2.2.1 = some (ty0 k)) (hnm : ∀ a, a < N → ∀ b, b < N → a ≠ b → (T a).2.1 ≠ (T b).2.1) (k0 : Nat) (hk0 : k0 < N) (hlink : Cond.fieldLinkNest own index ref (T k0).2.1 (T k0).2.2.1 host ∈ mAll) (href : ref = (T k0).1) (hfin : (T k0).2.2.2 = false) (hty0 : ty0 k0 = ty) (hn : narrow ty v = v) (hfit : fits ty v = true) (hlen : k0 < fs.length) (hdg : decode cc pc = .ok (.putfield index, 3)) (k : zM z cells slots (pc + 3) L st (mup h a (.inr (ci, fs.set k0 v)))) : zM z cells slots pc L (v :: .ref a :: st) h := by
  obtain ⟨p, l1, e, R1, s, m, args, below, meth, c, D1, A0, H0, nL1, Q⟩ := z
  obtain ⟨e1, e2, e3, e4, e5, X⟩ := X
  subst e1 e2 e3 e4
  intro H locs ls hR hA hS hL
  obtain ⟨q, hq⟩ := mR_get hR he
  subst href
  exact va_putN X.1 X.2.1 X.2.2.1 hin ty0 hty hnm X.2.2.2.1 X.2.2.2.2.2.1 (mR_P hR) (mR_D hR hA) hS q hq hc k0 hk0 (X.2.2.1 _ hlink) (fun _ z => z) hfin (by rw [hty k0 hk0, hty0]) hn hfit hlen hdg (fun H1 locs1 hP1 hD1 hS1 => k H1 locs1 ls (mR_set hR hA he hq hP1) (mR_dom hA (hA a _ he)) hS1 hL)
theorem zi_putfF (X : zX z l D cc own tys nL ret R nm) {a : Nat} {ref C : String} {T : u_T} {N ci index : Nat} {fs : List Value} {v : Value} {ty0 : Nat → FieldType} {ty : FieldType} (he : h a = some (.inr (ci, fs))) (hc : vwCl[ci]? = some (C, T, N)) (hin : ∀ w ∈ u_ws C T N, w ∈ mAll) (hty : ∀ k, k < N → parseFieldDescriptor (T k).2.2.1 = some (ty0 k)) (hnm : ∀ a, a < N → ∀ b, b < N → a ≠ b → (T a).2.1 ≠ (T b).2.1) (k0 : Nat) (hk0 : k0 < N) (hlink : Cond.fieldLink own index ref (T k0).2.1 (T k0).2.2.1 ∈ mAll) (href : ref = (T k0).1) (hfin : (T k0).2.2.2 = true) (hini : nm = "<init>") (hown : (T k0).1 = own) (hty0 : ty0 k0 = ty) (hn : narrow ty v = v) (hfit : fits ty v = true) (hlen : k0 < fs.length) (hdg : decode cc pc = .ok (.putfield index, 3)) (k : zM z cells slots (pc + 3) L st (mup h a (.inr (ci, fs.set k0 v)))) : zM z cells slots pc L (v :: .ref a :: st) h := by
  obtain ⟨p, l1, e, R1, s, m, args, below, meth, c, D1, A0, H0, nL1, Q⟩ := z
  obtain ⟨e1, e2, e3, e4, e5, X⟩ := X
  subst e1 e2 e3 e4
  intro H locs ls hR hA hS hL
  obtain ⟨q, hq⟩ := mR_get hR he
  subst href
  exact va_putF X.1 X.2.1 X.2.2.1 hin ty0 hty hnm X.2.2.2.1 X.2.2.2.2.2.1 (mR_P hR) (mR_D hR hA) hS q hq hc k0 hk0 (X.2.2.1 _ hlink) (fun _ z => z) hfin (e5.1.trans hini) hown (by rw [hty k0 hk0, hty0]) hn hfit hlen hdg (fun H1 locs1 hP1 hD1 hS1 => k H1 locs1 ls (mR_set hR hA he hq hP1) (mR_dom hA (hA a _ he)) hS1 hL)
theorem zi_iast (X : zX z l D cc own tys nL ret R nm) {a : Nat} (t0 : Nat) {cA : ClassId} {n : Nat} {f : Nat → Int32} {i x : Int32} (ha : h a = some (.inl (cA, n, .inl f))) (ht : tys[t0]? = some (cA, .int)) (hi : vp_in i n) (hdg : decode cc pc = .ok (.iastore, 1)) (k : zM z cells slots (pc + 1) L st (mup h a (.inl (cA, n, .inl (upd f i.toNatClampNeg x))))) : zM z cells slots pc L (.int x :: .int i :: .ref a :: st) h := by
  obtain ⟨p, l1, e, R1, s, m, args, below, meth, c, D1, A0, H0, nL1, Q⟩ := z
  obtain ⟨e1, e2, e3, e4, e5, X⟩ := X
  subst e1 e2 e3 e4
  intro H locs ls hR hA hS hL
  obtain ⟨q, hq⟩ := mR_get hR ha
  exact va_iast X.1 X.2.1 X.2.2.2.2.2.1 (mR_P hR) (mR_D hR hA) hS q t0 hq ht hi hdg (fun H1 locs1 hP1 hD1 hS1 => k H1 locs1 ls (mR_set hR hA ha hq hP1) (mR_dom hA (hA a _ ha)) hS1 hL)
theorem zi_last (X : zX z l D cc own tys nL ret R nm) {a : Nat} (t0 : Nat) {cA : ClassId} {n : Nat} {f : Nat → Int64} {i : Int32} {x : Int64} (ha : h a = some (.inl (cA, n, .inr (.inl f)))) (ht : tys[t0]? = some (cA, .long)) (hi : vp_in i n) (hdg : decode cc pc = .ok (.lastore, 1)) (k : zM z cells slots (pc + 1) L st (mup h a (.inl (cA, n, .inr (.inl (vp_updL f i.toNatClampNeg x)))))) : zM z cells slots pc L (.long x :: .int i :: .ref a :: st) h := by
  obtain ⟨p, l1, e, R1, s, m, args, below, meth, c, D1, A0, H0, nL1, Q⟩ := z
  obtain ⟨e1, e2, e3, e4, e5, X⟩ := X
  subst e1 e2 e3 e4
  intro H locs ls hR hA hS hL
  obtain ⟨q, hq⟩ := mR_get hR ha
  exact va_last X.1 X.2.1 X.2.2.2.2.2.1 (mR_P hR) (mR_D hR hA) hS q t0 hq ht hi hdg (fun H1 locs1 hP1 hD1 hS1 => k H1 locs1 ls (mR_set hR hA ha hq hP1) (mR_dom hA (hA a _ ha)) hS1 hL)
theorem zi_astqN (X : zX z l D cc own tys nL ret R nm) {a : Nat} (t0 : Nat) {cA : ClassId} {C : String} {n : Nat} {f : Nat → Option Nat} {i : Int32} (ha : h a = some (.inl (cA, n, .inr (.inr (.inr (.inr f)))))) (ht : tys[t0]? = some (cA, .object C)) (hi : vp_in i n) (hdg : decode cc pc = .ok (.aastore, 1)) (k : zM z cells slots (pc + 1) L st (mup h a (.inl (cA, n, .inr (.inr (.inr (.inr (va_up f i.toNatClampNeg none)))))))) : zM z cells slots pc L (.null :: .int i :: .ref a :: st) h := by
  obtain ⟨p, l1, e, R1, s, m, args, below, meth, c, D1, A0, H0, nL1, Q⟩ := z
  obtain ⟨e1, e2, e3, e4, e5, X⟩ := X
  subst e1 e2 e3 e4
  intro H locs ls hR hA hS hL
  obtain ⟨q, hq⟩ := mR_get hR ha
  exact va_astqN X.1 X.2.1 X.2.2.2.2.2.1 (mR_P hR) (mR_D hR hA) hS q t0 hq ht hi hdg (fun H1 locs1 hP1 hD1 hS1 => k H1 locs1 ls (mR_set hR hA ha hq hP1) (mR_dom hA (hA a _ ha)) hS1 hL)
theorem zi_astq (X : zX z l D cc own tys nL ret R nm) {a v : Nat} (t0 : Nat) {cA : ClassId} {r : vw_C} {n ci : Nat} {vs : List Value} {f : Nat → Option Nat} {i : Int32} (ha : h a = some (.inl (cA, n, .inr (.inr (.inr (.inr f)))))) (ht : tys[t0]? = some (cA, .object r.1)) (hv : h v = some (.inr (ci, vs))) (hc : vwCl[ci]? = some r) (hi : vp_in i n) (hdg : decode cc pc = .ok (.aastore, 1)) (k : zM z cells slots (pc + 1) L st (mup h a (.inl (cA, n, .inr (.inr (.inr (.inr (va_up f i.toNatClampNeg (some v))))))))) : zM z cells slots pc L (.ref v :: .int i :: .ref a :: st) h := by
  obtain ⟨p, l1, e, R1, s, m, args, below, meth, c, D1, A0, H0, nL1, Q⟩ := z
  obtain ⟨e1, e2, e3, e4, e5, X⟩ := X
  subst e1 e2 e3 e4
  intro H locs ls hR hA hS hL
  obtain ⟨q, hq⟩ := mR_get hR ha
  obtain ⟨q2, hq2⟩ := mR_get hR hv
  exact va_astq X.1 X.2.1 X.2.2.2.2.2.1 (mR_P hR) (mR_D hR hA) hS q t0 q2 ci hq ht hq2 hc hi hdg (fun H1 locs1 hP1 hD1 hS1 => k H1 locs1 ls (mR_set hR hA ha hq hP1) (mR_dom hA (hA a _ ha)) hS1 hL)
end MROWS
