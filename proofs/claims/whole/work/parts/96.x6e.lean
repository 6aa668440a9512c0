/-! SturmRoots: set, coefficient, degree, copy, reflect -/
def inR (x : Int32) (n : Nat) : Prop := ∃ i, i < n ∧ x = nI i
theorem rd_nI {i n : Nat} (h : i < n) : inR (nI i) n := ⟨i, h, rfl⟩
section X6E
variable {cA : Nat → ClassId} {D : va_G} {S : Nat → Nat → Nat} {h : mH} {x sl rw is lst n : Nat} {sa : Nat → Nat} {Sl : Nat → Nat → Int} {V : Nat → Iv} {src : Nat → Int} {l : Launch}
/-- what a face method that throws E when C leaves: nothing changed -/
def pX (E : String) (C : Prop) (W : mH → Prop) : String → mH → Prop := fun E' h1 => E' = E ∧ C ∧ W h1
theorem x_set (hl : l.stackTraces = false) (hw : isW cA D S (x, sl, rw, is, lst, sa) h (Sl, n, V, src)) {a b v : Int32} :
    mCx l yX6_set cX6_set 4 (some .int) (rmc 7 3 18) D (mT cA) [.ref x, .int a, .int b, .int v] h (mFi h (fun r h1 => ∃ i k, i < 5 ∧ a = nI i ∧ k < 7 ∧ b = nI k ∧ -99 ≤ v.toInt ∧ v.toInt ≤ 99 ∧ r = iI (sDeg (fun j => if j = k then v.toInt else Sl i j)) ∧ isW cA D S (x, sl, rw, is, lst, sa) h1 (setS Sl i (fun j => if j = k then v.toInt else Sl i j), n, V, src)))
      (fun E h1 => h1 = h ∧ (E = eI ∧ (¬ inR a 5 ∨ ¬ inR b 7) ∨ E = eA ∧ inR a 5 ∧ inR b 7 ∧ ¬ (-99 ≤ v.toInt ∧ v.toInt ≤ 99))) := by
  obtain ⟨T, P, G, Ln, hw⟩ := hw
  have ho := hw.2.2.1
  have hz := hw.2.2.2.2
  have a1 : (Int32.toInt (-99)) = -99 := by decide
  have a2 : (nI 99).toInt = 99 := by decide
  refine mEnter_x (by decide) (Nat.le_of_ble_eq_true rfl) rfl (fun z X Vz => ?_)
  refine zi_iload_n X dX6_set_0 rfl rfl ?_
  refine zi_xcallSv X (x_requireSlot hl) kc_X6_requireSlot wm_X6_54 wst_X6_requireSlot ⟨Nat.le_of_ble_eq_true rfl, Nat.le_of_ble_eq_true rfl⟩ rfl rfl (Nat.le_of_ble_eq_true rfl) ⟨Nat.le_of_ble_eq_true rfl, Nat.le_of_ble_eq_true rfl⟩ dX6_set_1 (fun E g e1 => zt_out X Vz (by obtain ⟨e1, e2, e3⟩ := e1; exact ⟨e2, Or.inl ⟨e1, Or.inl e3⟩⟩) (by decide) (by decide)) (fun g e1 => ?_)
  obtain ⟨rfl, i, hi, rfl⟩ := e1
  refine zi_iload_n X dX6_set_4 rfl rfl ?_
  refine zi_xcallSv X (x_requirePower hl) kc_X6_requirePower wm_X6_58 wst_X6_requirePower ⟨Nat.le_of_ble_eq_true rfl, Nat.le_of_ble_eq_true rfl⟩ rfl rfl (Nat.le_of_ble_eq_true rfl) ⟨Nat.le_of_ble_eq_true rfl, Nat.le_of_ble_eq_true rfl⟩ dX6_set_5 (fun E g1 e1 => zt_out X Vz (by obtain ⟨e1, e2, e3⟩ := e1; exact ⟨e2, Or.inl ⟨e1, Or.inr e3⟩⟩) (by decide) (by decide)) (fun g1 e1 => ?_)
  obtain ⟨rfl, k, hk, rfl⟩ := e1
  refine zi_iload_n X dX6_set_8 rfl rfl ?_
  refine zi_bipush (v := (-99)) X dX6_set_9 (by decide) ?_
  refine zi_icmp_lt (tgt := 20) X dX6_set_11 (by decide) (fun c_11 => ?_) (fun c_11 => ?_)
  · refine zi_throwS hl X Vz xok_X6_65 xs_X6_63 dX6_set_20 dX6_set_23 dX6_set_24 dX6_set_26 dX6_set_29 (Nat.le_of_ble_eq_true rfl) (Nat.le_of_ble_eq_true rfl) (Nat.le_of_ble_eq_true rfl) (Nat.le_of_ble_eq_true rfl) (Nat.le_of_ble_eq_true rfl) (Nat.le_of_ble_eq_true rfl) ⟨rfl, Or.inr ⟨rfl, rd_nI hi, rd_nI hk, fun q => by have := (fa_lt _ _).mp c_11; rw [a1] at this; omega⟩⟩
  · have b1 := (fa_le _ _).mp (Int32.not_lt.mp c_11)
    rw [a1] at b1
    refine zi_iload_n X dX6_set_14 rfl rfl ?_
    refine zi_bipush (v := (nI 99)) X dX6_set_15 (by decide) ?_
    refine zi_icmp_le (tgt := 30) X dX6_set_17 (by decide) (fun c_17 => ?_) (fun c_17 => ?_)
    · have b2 := (fa_le _ _).mp c_17
      rw [a2] at b2
      obtain ⟨hx, hsl, hsa, ⟨g0, hr⟩, hinj, hb, -⟩ := ho
      have k0 := hsa i hi
      have hin : vp_in (nI k) 7 := vin hk (by decide)
      have hxs : x ≠ sa i := fun w => by rw [← w, hx] at k0; cases k0
      have hss : sl ≠ sa i := fun w => by rw [← w, hsl] at k0; simp [qA, slotA] at k0
      sorry
    · refine zi_throwS hl X Vz xok_X6_65 xs_X6_63 dX6_set_20 dX6_set_23 dX6_set_24 dX6_set_26 dX6_set_29 (Nat.le_of_ble_eq_true rfl) (Nat.le_of_ble_eq_true rfl) (Nat.le_of_ble_eq_true rfl) (Nat.le_of_ble_eq_true rfl) (Nat.le_of_ble_eq_true rfl) (Nat.le_of_ble_eq_true rfl) ⟨rfl, Or.inr ⟨rfl, rd_nI hi, rd_nI hk, fun q => c_17 ((fa_le _ _).mpr (by rw [a2]; exact q.2))⟩⟩
end X6E
