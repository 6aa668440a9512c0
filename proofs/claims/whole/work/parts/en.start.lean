/-! the start: the classes, the kinds of rows -/
theorem in_J0 : ∀ w ∈ u_ws RJ0 TJ0 4, w ∈ mAll := by
  have h : ∀ w ∈ u_ws RJ0 TJ0 4, w ∈ lw_tbl ∧ goodWord w = true := by decide +kernel
  exact fun w hw => mAll_of (h w hw).1 (h w hw).2
theorem in_J4 : ∀ w ∈ u_ws RJ4 TJ4 4, w ∈ mAll := by
  have h : ∀ w ∈ u_ws RJ4 TJ4 4, w ∈ lw_tbl ∧ goodWord w = true := by decide +kernel
  exact fun w hw => mAll_of (h w hw).1 (h w hw).2
theorem in_Jx00060 : ∀ w ∈ u_ws RJx00060 TJx00060 6, w ∈ mAll := by
  have h : ∀ w ∈ u_ws RJx00060 TJx00060 6, w ∈ lw_tbl ∧ goodWord w = true := by decide +kernel
  exact fun w hw => mAll_of (h w hw).1 (h w hw).2
section START
variable {args : Array Value} {s : State}
theorem st_cl (hts : ∀ w ∈ mAll, w.before args s = true) : ∃ (d1 : Nat → ClassId) (d2 : Nat → Nat → Nat), ∀ (c : Nat) (q : vw_C), vwCl[c]? = some q → u_Kn s q.1 q.2.1 q.2.2 (d1 c) (d2 c) := by
  have one : ∀ q ∈ vwCl, ∃ (cC : ClassId) (iS : Nat → Nat), u_Kn s q.1 q.2.1 q.2.2 cC iS :=
    List.forall_mem_cons.mpr ⟨u_known hts in_J0 (hts _ wit_J0), List.forall_mem_cons.mpr ⟨u_known hts in_J4 (hts _ wit_J4), List.forall_mem_cons.mpr ⟨u_known hts in_Jx00060 (hts _ wit_Jx00060), List.forall_mem_cons.mpr ⟨u_known hts in_Jx4a65c (hts _ wit_Jx4a65c), List.forall_mem_cons.mpr ⟨u_known hts in_X0 (hts _ wit_X0), List.forall_mem_cons.mpr ⟨u_known hts in_X1 (hts _ wit_X1), List.forall_mem_cons.mpr ⟨u_known hts in_X2 (hts _ wit_X2), List.forall_mem_cons.mpr ⟨u_known hts in_X3 (hts _ wit_X3), List.forall_mem_cons.mpr ⟨u_known hts in_X4 (hts _ wit_X4), List.forall_mem_cons.mpr ⟨u_known hts in_X5 (hts _ wit_X5), List.forall_mem_cons.mpr ⟨u_known hts in_X6 (hts _ wit_X6), List.forall_mem_cons.mpr ⟨u_known hts in_X7 (hts _ wit_X7), fun q hq => absurd hq List.not_mem_nil⟩⟩⟩⟩⟩⟩⟩⟩⟩⟩⟩⟩
  have two : ∀ c : Nat, ∃ p : ClassId × (Nat → Nat), ∀ q, vwCl[c]? = some q → u_Kn s q.1 q.2.1 q.2.2 p.1 p.2 := fun c => by
    cases hc : vwCl[c]? with
    | none => exact ⟨(0, fun _ => 0), fun q hq => by cases hq⟩
    | some q0 =>
      obtain ⟨a, b, h⟩ := one q0 (List.mem_of_getElem? hc)
      exact ⟨(a, b), fun q hq => by cases hq; exact h⟩
  exact ⟨fun c => (Classical.choose (two c)).1, fun c => (Classical.choose (two c)).2, fun c q h => Classical.choose_spec (two c) q h⟩
theorem st_arr {t : FieldType} (h : (Cond.arrayClass t).before args s = true) (ho : ∀ C, t ≠ .object C) : ∃ c : ClassId, ArrOfT s c t ∧ va_RA s c t := by
  obtain ⟨c, k, comp, h1, h2, h3⟩ := Cond.arrayClass_spec h
  refine ⟨c, fun N z => ⟨(fun q hq => by cases hq), k, h2, comp, h3⟩, ?_⟩
  cases t <;> first | exact h1 | exact absurd rfl (ho _)
theorem st_over {t : FieldType} (h : (Cond.arrayOver (.array t)).before args s = true) : ∃ c : ClassId, ArrOfT s c (.array t) ∧ va_RA s c (.array t) := by
  obtain ⟨comp, c, k, h1, h2, h3, h4⟩ := mk_over h
  exact ⟨c, fun N z => ⟨(fun q hq => by cases hq), k, h2, comp, h3⟩, h4⟩
theorem st_obj {C : String} (h : (Cond.arrayOver (.object C)).before args s = true) : ∃ c : ClassId, ArrOfT s c (.object C) ∧ va_RA s c (.object C) := by
  obtain ⟨comp, c, k, h1, h2, h3, h4, h5⟩ := Cond.arrayOver_spec h
  exact ⟨c, fun N z => ⟨(fun q hq => by cases hq), k, h3, comp, h4⟩, k, comp, h3, h4, h1, h5⟩
theorem st_tys (hts : ∀ w ∈ mAll, w.before args s = true) (hb : ∀ w ∈ mBad, w.before args s = true) : ∃ cA : Nat → ClassId, ∀ (k : Nat) (q : ClassId × FieldType), (mT cA)[k]? = some q → ArrOfT s q.1 q.2 ∧ va_RA s q.1 q.2 := by
  obtain ⟨c0, h0⟩ := st_arr (hts _ wac_int) (fun C q => by cases q)
  obtain ⟨c1, h1⟩ := st_arr (hts _ wac_long) (fun C q => by cases q)
  obtain ⟨c2, h2⟩ := st_obj (hb _ wb_X1)
  obtain ⟨c3, h3⟩ := st_obj (hb _ wb_X4)
  obtain ⟨c4, h4⟩ := st_over (hb _ wb_I)
  obtain ⟨c5, h5⟩ := st_over (hb _ wb_II)
  obtain ⟨c6, h6⟩ := st_obj (hb _ wb_obj)
  refine ⟨fun k => if k = 0 then c0 else if k = 1 then c1 else if k = 2 then c2 else if k = 3 then c3 else if k = 4 then c4 else if k = 5 then c5 else c6, fun k q hq => ?_⟩
  match k, hq with
  | 0, hq => cases hq; exact h0
  | 1, hq => cases hq; exact h1
  | 2, hq => cases hq; exact h2
  | 3, hq => cases hq; exact h3
  | 4, hq => cases hq; exact h4
  | 5, hq => cases hq; exact h5
  | 6, hq => cases hq; exact h6
  | n + 7, hq => cases hq
theorem st_ng (hts : ∀ w ∈ lw_tbl, w.before args s = true) : (∀ w ∈ mAll, w.before args s = true) ∧ ∀ w ∈ mBad, w.before args s = true :=
  ⟨fun w hw => hts w (List.mem_filter.mp hw).1, fun w hw => hts w (List.mem_filter.mp hw).1⟩
end START
theorem st_mng {args : Array Value} {s : State} (hb : ∀ w ∈ mBad, w.before args s = true) : mNG s := by
  intro w hw
  have h1 := hb w hw
  have h2 := (List.mem_filter.mp hw).2
  cases w with
  | arrayOver ty =>
    unfold va_Nw
    simp only [Cond.before, Cond.holds, Cond.value] at h1 ⊢
    exact h1
  | methodLinkNest a i x g => exact va_tabs rfl rfl h1
  | declares x => exact va_tabs rfl rfl h1
  | castable C T => exact va_tabs rfl rfl h1
  | _ => exact absurd h2 (by simp [mBadK])
