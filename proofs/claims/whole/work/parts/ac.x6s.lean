/-! SturmRoots: requireElement, sturmDegree, sturmCoefficient -/
section X6S
variable {cA : Nat → ClassId} {D : va_G} {S : Nat → Nat → Nat} {h : mH} {x sl rw is lst n : Nat} {sa : Nat → Nat} {Sl : Nat → Nat → Int} {V : Nat → Iv} {src : Nat → Int} {l : Launch} {T : Nat → Prop} {P : Nat → Nat → Int} {G Ln : Nat → Nat}
theorem x_requireElement (hl : l.stackTraces = false) (hx : h x = some (xO S sl rw is)) (hh : hP cA S P G Ln h) {N : Nat} (hN : Ln 0 = N) (hN7 : N ≤ 7) {a : Int32} : mCx l yX6_requireElement cX6_requireElement 2 none (rmc 6 1 6) D (mT cA) [.ref x, .int a] h (mFv h (fun h1 => h1 = h ∧ ∃ m, m < N ∧ a = nI m)) (fun E h1 => E = eN ∧ h1 = h ∧ ¬ inR a N) := by
  have k1 := (hP_s hh (q := 0) (by decide)).1
  refine mEnter_x (by decide) (Nat.le_of_ble_eq_true rfl) rfl (fun z X Vz => ?_)
  refine zi_iload_n X dX6_requireElement_0 rfl rfl ?_
  refine zi_if_lt (tgt := 15) X dX6_requireElement_1 (by decide) (fun c_1 => ?_) (fun c_1 => ?_)
  · refine zi_throwNW hl X Vz xok_X6_272 xs_X6_270 dX6_requireElement_15 dX6_requireElement_18 dX6_requireElement_19 dX6_requireElement_22 dX6_requireElement_25 (Nat.le_of_ble_eq_true rfl) (Nat.le_of_ble_eq_true rfl) (Nat.le_of_ble_eq_true rfl) (Nat.le_of_ble_eq_true rfl) (Nat.le_of_ble_eq_true rfl) (Nat.le_of_ble_eq_true rfl) ⟨rfl, rfl, fun ⟨i, hi, e⟩ => (i_out (by omega) hi e).1 c_1⟩
  · refine zi_iload_n X dX6_requireElement_4 rfl rfl ?_
    refine zi_aload_n X dX6_requireElement_5 rfl rfl ?_
    refine zi_getf (C := RX6) (T := TX6) (N := 8) (ci := 10) X (by first | assumption | exact mup_self | (rw [mup_ne (by assumption)]; assumption) | (rw [mup_ne (by assumption)]; exact mup_self) | (rw [mup_ne (by assumption), mup_ne (by assumption)]; assumption)) rfl in_X6 6 (by decide) wf_X6_41 rfl rfl dX6_requireElement_6 ?_
    refine zi_getf (C := RX5) (T := TX5) (N := 2) (ci := 9) X (by first | assumption | exact mup_self | (rw [mup_ne (by assumption)]; assumption) | (rw [mup_ne (by assumption)]; exact mup_self) | (rw [mup_ne (by assumption), mup_ne (by assumption)]; assumption)) rfl in_X5 1 (by decide) wf_X6_116 rfl rfl dX6_requireElement_9 ?_
    refine zi_icmp_lt (tgt := 26) X dX6_requireElement_12 (by decide) (fun c_12 => ?_) (fun c_12 => ?_)
    · rw [hN] at c_12
      refine zi_widen (k := 1) (n := 6) (by decide) (by decide) ?_
      refine zi_xreturn X Vz dX6_requireElement_26 ?_
      exact ⟨rfl, i_in c_1 c_12 (by omega)⟩
    · rw [hN] at c_12
      refine zi_throwNW hl X Vz xok_X6_272 xs_X6_270 dX6_requireElement_15 dX6_requireElement_18 dX6_requireElement_19 dX6_requireElement_22 dX6_requireElement_25 (Nat.le_of_ble_eq_true rfl) (Nat.le_of_ble_eq_true rfl) (Nat.le_of_ble_eq_true rfl) (Nat.le_of_ble_eq_true rfl) (Nat.le_of_ble_eq_true rfl) (Nat.le_of_ble_eq_true rfl) ⟨rfl, rfl, fun ⟨i, hi, e⟩ => c_12 (i_out (by omega) hi e).2⟩
end X6S
