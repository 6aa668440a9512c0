/-! the words that are not good, at a state -/
def mBadK : Cond → Bool
  | .arrayOver _ => true
  | .methodLinkNest _ _ _ _ => true
  | .declares _ => true
  | .castable _ _ => true
  | _ => false
abbrev mBad : List Cond := lw_tbl.filter mBadK
def mNG (U : State) : Prop := ∀ w ∈ mBad, va_Nw w U
theorem mNG.warm {s U : State} (hW : s.WarmedH U.vm) (h : mNG s) : mNG U := by
  intro w hw
  have h1 := h w hw
  have h2 := (List.mem_filter.mp hw).2
  cases w with
  | arrayOver ty =>
    have h3 : (Cond.arrayOver ty).before #[] (s.setVm U.vm) = true := (Cond.arrayOver_setVmC hW.alike ty).trans h1
    unfold va_Nw
    simp only [Cond.before, Cond.holds, Cond.value] at h3 ⊢
    exact h3
  | methodLinkNest a i x g => exact va_Nw.warmM hW h1
  | declares x => exact va_Nw.warmD hW h1
  | castable C T => exact va_Nw.warmC hW h1
  | _ => exact absurd h2 (by simp [mBadK])
theorem mNG.same {u U : State} (h : u.vm = U.vm) (k : mNG u) : mNG U := by
  intro w hw
  have h1 := k w hw
  have h2 := (List.mem_filter.mp hw).2
  cases w with
  | arrayOver ty =>
    unfold va_Nw at h1 ⊢
    simp only [Cond.before, Cond.holds, Cond.value] at h1 ⊢
    rw [← h]
    exact h1
  | methodLinkNest a i x g => exact va_Nw.same rfl h h1
  | declares x => exact va_Nw.same rfl h h1
  | castable C T => exact va_Nw.same rfl h h1
  | _ => exact absurd h2 (by simp [mBadK])
/-! what the state holds beside the method's own world: three statics, the texts, a Class object; D.2 1000 0 is the address of ArrayList's empty row, D.1 1000 its class, D.2 1000 1 the Class object of Object[] -/
def mAL : String := "java/util/ArrayList"
def mALe : String := "DEFAULTCAPACITY_EMPTY_ELEMENTDATA"
def mALd : String := "[Ljava/lang/Object;"
def mStrs : List (String × Nat × String) := lw_tbl.filterMap (fun w => match w with
  | .stringRef o k t => some (o, k, t)
  | _ => none)
def mXs : List String := ["java/lang/IndexOutOfBoundsException", "java/lang/IllegalArgumentException", "java/lang/IllegalStateException", "java/lang/ArithmeticException", "java/util/NoSuchElementException"]
/-- a row of Object without places; its cell stood before the law -/
def mE0 (e : Nat) (U : State) (H : Heap) : Prop := ∃ cell : Cell, H[e]? = some cell ∧ U.isArrayOf cell (.object "java/lang/Object") ∧ cell.vm ≠ .unknown ∧ cell.slots.size = 0
theorem mE0.moved {e : Nat} {u U : State} {H : Heap} (hv : u.vm.Alike U.vm) (h : mE0 e u H) : mE0 e U H := by
  obtain ⟨c, h1, h2, h3, h4⟩ := h
  exact ⟨c, h1, State.isArrayOf_alike hv h2, h3, h4⟩
theorem mE0.kept {e : Nat} {U : State} {H H1 : Heap} (h : mE0 e U H) (hq : e < H.size → H1[e]? = H[e]?) : mE0 e U H1 := by
  obtain ⟨c, h1, h2, h3, h4⟩ := h
  exact ⟨c, (hq (Array.getElem?_eq_some_iff.mp h1).1).trans h1, h2, h3, h4⟩
def mST (D : va_G) (A : Nat → Prop) (U : State) (H : Heap) : Prop :=
  vx_Zq Bundle.tN "UNASSIGNED_STACK" Bundle.steD A U H ∧ vx_Zq Bundle.tN "SUPPRESSED_SENTINEL" Bundle.listD A U H ∧ va_Z mAL mALe mALd (.ref (D.2 1000 0)) A U H ∧ mE0 (D.2 1000 0) U H ∧ ¬ A (D.2 1000 0) ∧ va_RA U (D.1 1000) (.object "java/lang/Object") ∧ ArrOfT U (D.1 1000) (.object "java/lang/Object") ∧ va_Mi mALd (D.2 1000 1) U ∧ (∀ q ∈ mStrs, ∃ sa, vk_R q.1 q.2.1 q.2.2 sa U) ∧ ∀ a ∈ mXs, ∀ b ∈ mXs, a ≠ b → va_Nc a b U
theorem mST.warm {D : va_G} {A : Nat → Prop} {s U : State} {H : Heap} (hW : s.WarmedH U.vm) (h : mST D A s H) : mST D A U H := by
  obtain ⟨h1, h2, h3, h4, h5, h6, h7, h8, h9, h10⟩ := h
  refine ⟨h1.moved hW.alike, h2.moved hW.alike, va_Z.moved hW.alike h3, h4.moved hW.alike, h5, h6.moved hW.alike, arrOfT_moved hW.alike h7, h8.moved hW.alike, fun q hq => ?_, fun a ha b hb n => (h10 a ha b hb n).moved hW.alike⟩
  obtain ⟨sa, h⟩ := h9 q hq
  exact ⟨sa, h.warm hW⟩
theorem mST.same {D : va_G} {A : Nat → Prop} {u U : State} {H : Heap} (e : U.vm = u.vm) (h : mST D A u H) : mST D A U H := by
  obtain ⟨h1, h2, h3, h4, h5, h6, h7, h8, h9, h10⟩ := h
  have hv : u.vm.Alike U.vm := by rw [e]; exact Vm.Alike.refl u.vm
  refine ⟨h1.moved hv, h2.moved hv, va_Z.moved hv h3, h4.moved hv, h5, h6.moved hv, arrOfT_moved hv h7, h8.moved hv, fun q hq => ?_, fun a ha b hb n => (h10 a ha b hb n).moved hv⟩
  obtain ⟨sa, h⟩ := h9 q hq
  exact ⟨sa, h.same e⟩
theorem mST.kept {D : va_G} {A : Nat → Prop} {U : State} {H H1 : Heap} (h : mST D A U H) (hq : ∀ a : Nat, a < H.size → ¬ A a → H1[a]? = H[a]?) : mST D A U H1 := by
  obtain ⟨h1, h2, h3, h4, h5, h6, h7, h8, h9, h10⟩ := h
  exact ⟨h1.kept hq, h2.kept hq, va_Z.kept h3 hq, h4.kept (fun hl => hq _ hl h5), h5, h6, h7, h8, h9, h10⟩
theorem mST.narrow {D : va_G} {A B : Nat → Prop} {U : State} {H : Heap} (h : mST D A U H) (hAB : ∀ q, B q → A q) : mST D B U H := by
  obtain ⟨h1, h2, h3, h4, h5, h6, h7, h8, h9, h10⟩ := h
  exact ⟨h1.narrow hAB, h2.narrow hAB, va_Z.narrow h3 hAB, h4, fun z => h5 (hAB _ z), h6, h7, h8, h9, h10⟩
