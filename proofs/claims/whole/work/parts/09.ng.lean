/-! the words that are not good, at a state -/
def mBadK : Cond → Bool
  | .arrayOver _ => true
  | .methodLinkNest _ _ _ _ => true
  | .declares _ => true
  | .castable _ _ => true
  | _ => false
abbrev mBad : List Cond := lw_tbl.filter mBadK
def mNG (U : State) : Prop := ∀ w ∈ mBad, va_Nw w U
theorem mNG.warm {s U : State} (hW : s.WarmedH U.vm) (h : mNG s) : mNG U := by
  intro w hw
  have h1 := h w hw
  have h2 := (List.mem_filter.mp hw).2
  cases w with
  | arrayOver ty =>
    have h3 : (Cond.arrayOver ty).before #[] (s.setVm U.vm) = true := (Cond.arrayOver_setVmC hW.alike ty).trans h1
    unfold va_Nw
    simp only [Cond.before, Cond.holds, Cond.value] at h3 ⊢
    exact h3
  | methodLinkNest a i x g => exact va_Nw.warmM hW h1
  | declares x => exact va_Nw.warmD hW h1
  | castable C T => exact va_Nw.warmC hW h1
  | _ => exact absurd h2 (by simp [mBadK])
theorem mNG.same {u U : State} (h : u.vm = U.vm) (k : mNG u) : mNG U := by
  intro w hw
  have h1 := k w hw
  have h2 := (List.mem_filter.mp hw).2
  cases w with
  | arrayOver ty =>
    unfold va_Nw at h1 ⊢
    simp only [Cond.before, Cond.holds, Cond.value] at h1 ⊢
    rw [← h]
    exact h1
  | methodLinkNest a i x g => exact va_Nw.same rfl h h1
  | declares x => exact va_Nw.same rfl h h1
  | castable C T => exact va_Nw.same rfl h h1
  | _ => exact absurd h2 (by simp [mBadK])
