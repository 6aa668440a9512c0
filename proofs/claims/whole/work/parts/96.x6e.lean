/-! SturmRoots: set, coefficient, degree, copy, reflect -/
def inR (x : Int32) (n : Nat) : Prop := ∃ i, i < n ∧ x = nI i
theorem rd_nI {i n : Nat} (h : i < n) : inR (nI i) n := ⟨i, h, rfl⟩
theorem tr_id {r : Nat → Int} (h : ∀ k, 7 ≤ k → r k = 0) : tr r = r := by
  funext k
  unfold tr
  by_cases c : k < 7
  · rw [if_pos c]
  · rw [if_neg c, h k (by omega)]
section X6E
variable {cA : Nat → ClassId} {D : va_G} {S : Nat → Nat → Nat} {h : mH} {x sl rw is lst n : Nat} {sa : Nat → Nat} {Sl : Nat → Nat → Int} {V : Nat → Iv} {src : Nat → Int} {l : Launch}
/-- what a face method that throws E when C leaves: nothing changed -/
def pX (E : String) (C : Prop) (W : mH → Prop) : String → mH → Prop := fun E' h1 => E' = E ∧ C ∧ W h1
theorem x_set (hl : l.stackTraces = false) (hw : isW cA D S (x, sl, rw, is, lst, sa) h (Sl, n, V, src)) {a b v : Int32} :
    mCx l yX6_set cX6_set 4 (some .int) (rmc 7 3 18) D (mT cA) [.ref x, .int a, .int b, .int v] h (mFi h (fun r h1 => ∃ i k, i < 5 ∧ a = nI i ∧ k < 7 ∧ b = nI k ∧ -99 ≤ v.toInt ∧ v.toInt ≤ 99 ∧ r = iI (sDeg (fun j => if j = k then v.toInt else Sl i j)) ∧ isW cA D S (x, sl, rw, is, lst, sa) h1 (setS Sl i (fun j => if j = k then v.toInt else Sl i j), n, V, src)))
      (fun E h1 => h1 = h ∧ (E = eI ∧ (¬ inR a 5 ∨ ¬ inR b 7) ∨ E = eA ∧ inR a 5 ∧ inR b 7 ∧ ¬ (-99 ≤ v.toInt ∧ v.toInt ≤ 99))) := by
  obtain ⟨T, P, G, Ln, hw⟩ := hw
  have ho := hw.2.2.1
  have hz := hw.2.2.2.2.1
  have a1 : (Int32.toInt (-99)) = -99 := by decide
  have a2 : (nI 99).toInt = 99 := by decide
  refine mEnter_x (by decide) (Nat.le_of_ble_eq_true rfl) rfl (fun z X Vz => ?_)
  refine zi_iload_n X dX6_set_0 rfl rfl ?_
  refine zi_xcallSv X (x_requireSlot hl) kc_X6_requireSlot wm_X6_54 wst_X6_requireSlot ⟨Nat.le_of_ble_eq_true rfl, Nat.le_of_ble_eq_true rfl⟩ rfl rfl (Nat.le_of_ble_eq_true rfl) ⟨Nat.le_of_ble_eq_true rfl, Nat.le_of_ble_eq_true rfl⟩ dX6_set_1 (fun E g e1 => zt_out X Vz (by obtain ⟨e1, e2, e3⟩ := e1; exact ⟨e2, Or.inl ⟨e1, Or.inl e3⟩⟩) (by decide) (by decide)) (fun g e1 => ?_)
  obtain ⟨rfl, i, hi, rfl⟩ := e1
  refine zi_iload_n X dX6_set_4 rfl rfl ?_
  refine zi_xcallSv X (x_requirePower hl) kc_X6_requirePower wm_X6_58 wst_X6_requirePower ⟨Nat.le_of_ble_eq_true rfl, Nat.le_of_ble_eq_true rfl⟩ rfl rfl (Nat.le_of_ble_eq_true rfl) ⟨Nat.le_of_ble_eq_true rfl, Nat.le_of_ble_eq_true rfl⟩ dX6_set_5 (fun E g1 e1 => zt_out X Vz (by obtain ⟨e1, e2, e3⟩ := e1; exact ⟨e2, Or.inl ⟨e1, Or.inr e3⟩⟩) (by decide) (by decide)) (fun g1 e1 => ?_)
  obtain ⟨rfl, k, hk, rfl⟩ := e1
  refine zi_iload_n X dX6_set_8 rfl rfl ?_
  refine zi_bipush (v := (-99)) X dX6_set_9 (by decide) ?_
  refine zi_icmp_lt (tgt := 20) X dX6_set_11 (by decide) (fun c_11 => ?_) (fun c_11 => ?_)
  · refine zi_throwS hl X Vz xok_X6_65 xs_X6_63 dX6_set_20 dX6_set_23 dX6_set_24 dX6_set_26 dX6_set_29 (Nat.le_of_ble_eq_true rfl) (Nat.le_of_ble_eq_true rfl) (Nat.le_of_ble_eq_true rfl) (Nat.le_of_ble_eq_true rfl) (Nat.le_of_ble_eq_true rfl) (Nat.le_of_ble_eq_true rfl) ⟨rfl, Or.inr ⟨rfl, rd_nI hi, rd_nI hk, fun q => by have := (fa_lt _ _).mp c_11; rw [a1] at this; omega⟩⟩
  · have b1 := (fa_le _ _).mp (Int32.not_lt.mp c_11)
    rw [a1] at b1
    refine zi_iload_n X dX6_set_14 rfl rfl ?_
    refine zi_bipush (v := (nI 99)) X dX6_set_15 (by decide) ?_
    refine zi_icmp_le (tgt := 30) X dX6_set_17 (by decide) (fun c_17 => ?_) (fun c_17 => ?_)
    · have b2 := (fa_le _ _).mp c_17
      rw [a2] at b2
      obtain ⟨hx, hsl, hsa, ⟨g0, hr⟩, hinj, hb, -⟩ := ho
      have k0 := hsa i hi
      have hin : vp_in (nI k) 7 := vin hk (by decide)
      have hxs : x ≠ sa i := fun w => by rw [← w, hx] at k0; cases k0
      have hss : sl ≠ sa i := fun w => by rw [← w, hsl] at k0; simp [qA, slotA] at k0
      refine zi_aload_n X dX6_set_30 rfl rfl ?_
      refine zi_getf (C := RX6) (T := TX6) (N := 8) (ci := 10) X (by first | assumption | exact mup_self | (rw [mup_ne (by assumption)]; assumption) | (rw [mup_ne (by assumption)]; exact mup_self) | (rw [mup_ne (by assumption), mup_ne (by assumption)]; assumption)) rfl in_X6 0 (by decide) wf_X6_11 rfl rfl dX6_set_31 ?_
      refine zi_iload_n X dX6_set_34 rfl rfl ?_
      refine zi_aaldA X 4 (by first | assumption | exact mup_self | (rw [mup_ne (by assumption)]; assumption) | (rw [mup_ne (by assumption)]; exact mup_self) | (rw [mup_ne (by assumption), mup_ne (by assumption)]; assumption)) rfl (vin hi (by decide)) (sl_at hi) dX6_set_35 ?_
      refine zi_iload_n X dX6_set_36 rfl rfl ?_
      refine zi_iload_n X dX6_set_37 rfl rfl ?_
      refine zi_iast X 0 (by first | assumption | exact mup_self | (rw [mup_ne (by assumption)]; assumption) | (rw [mup_ne (by assumption)]; exact mup_self) | (rw [mup_ne (by assumption), mup_ne (by assumption)]; assumption)) rfl (by assumption) dX6_set_38 ?_
      have e9 : slotA (cA 0) (fun j => if j = k then v.toInt else Sl i j) = (.inl (cA 0, 7, .inl (upd (fun j => if j < 7 then iI (Sl i j) else 0) (nI k).toNatClampNeg v)) : va_E) := by
        unfold slotA
        refine congrArg (fun f => (Sum.inl (cA 0, 7, Sum.inl f) : va_E)) (funext fun j => ?_)
        show (if j < 7 then iI (if j = k then v.toInt else Sl i j) else 0) = if j = (nI k).toNatClampNeg then v else (if j < 7 then iI (Sl i j) else 0)
        rw [nI_cl (by omega)]
        by_cases q : j = k
        · rw [if_pos q, if_pos (by omega), if_pos q]; exact Int32.ofInt_toInt v
        · rw [if_neg q, if_neg q]
      refine zi_eqh (h' := mup g1 (sa i) (slotA (cA 0) (fun j => if j = k then v.toInt else Sl i j))) (by rw [e9]) ?_
      have hs9 : ∀ j, j < 7 → (if j = k then v.toInt else Sl i j).natAbs ≤ 9999 := fun j hj => by
        by_cases q : j = k
        · rw [if_pos q]; omega
        · rw [if_neg q]; exact hb i j hi hj
      have kx : mup g1 (sa i) (slotA (cA 0) (fun j => if j = k then v.toInt else Sl i j)) x = some (xO S sl rw is) := by rw [mup_ne hxs]; exact hx
      have ksl : mup g1 (sa i) (slotA (cA 0) (fun j => if j = k then v.toInt else Sl i j)) sl = some (qA (cA 4) 5 (fun i => if i < 5 then some (sa i) else none)) := by rw [mup_ne hss]; exact hsl
      have k1 : mup g1 (sa i) (slotA (cA 0) (fun j => if j = k then v.toInt else Sl i j)) (sa i) = some (slotA (cA 0) (fun j => if j = k then v.toInt else Sl i j)) := mup_self
      refine zi_aload_n X dX6_set_39 rfl rfl ?_
      refine zi_getf (C := RX6) (T := TX6) (N := 8) (ci := 10) X (by first | assumption | exact mup_self | (rw [mup_ne (by assumption)]; assumption) | (rw [mup_ne (by assumption)]; exact mup_self) | (rw [mup_ne (by assumption), mup_ne (by assumption)]; assumption)) rfl in_X6 0 (by decide) wf_X6_11 rfl rfl dX6_set_40 ?_
      refine zi_iload_n X dX6_set_43 rfl rfl ?_
      refine zi_aaldA X 4 (by first | assumption | exact mup_self | (rw [mup_ne (by assumption)]; assumption) | (rw [mup_ne (by assumption)]; exact mup_self) | (rw [mup_ne (by assumption), mup_ne (by assumption)]; assumption)) rfl (vin hi (by decide)) (sl_at hi) dX6_set_44 ?_
      refine zi_callSi X (x_degreeOf l D k1 hs9) kc_X6_degreeOf wm_X6_68 wst_X6_degreeOf ⟨Nat.le_of_ble_eq_true rfl, Nat.le_of_ble_eq_true rfl⟩ rfl rfl (Nat.le_of_ble_eq_true rfl) ⟨Nat.le_of_ble_eq_true rfl, Nat.le_of_ble_eq_true rfl⟩ dX6_set_45 (fun y g2 e1 => ?_)
      obtain ⟨rfl, rfl⟩ := e1
      refine zi_widen (k := 3) (n := 18) (by decide) (by decide) ?_
      refine zi_xireturn X Vz dX6_set_48 ?_
      refine ⟨i, k, hi, rfl, hk, rfl, b1, b2, rfl, T, P, G, Ln, ?_⟩
      have h9 := isWT_set hw hi hs9
      rw [tr_id (fun j hj => by rw [if_neg (by omega)]; exact hz i j hi hj)] at h9
      exact h9
    · refine zi_throwS hl X Vz xok_X6_65 xs_X6_63 dX6_set_20 dX6_set_23 dX6_set_24 dX6_set_26 dX6_set_29 (Nat.le_of_ble_eq_true rfl) (Nat.le_of_ble_eq_true rfl) (Nat.le_of_ble_eq_true rfl) (Nat.le_of_ble_eq_true rfl) (Nat.le_of_ble_eq_true rfl) (Nat.le_of_ble_eq_true rfl) ⟨rfl, Or.inr ⟨rfl, rd_nI hi, rd_nI hk, fun q => c_17 ((fa_le _ _).mpr (by rw [a2]; exact q.2))⟩⟩
theorem x_coefficient (hl : l.stackTraces = false) (hw : isW cA D S (x, sl, rw, is, lst, sa) h (Sl, n, V, src)) {a b : Int32} :
    mCx l yX6_coefficient cX6_coefficient 3 (some .int) (rmc 7 2 12) D (mT cA) [.ref x, .int a, .int b] h (mFi h (fun r h1 => h1 = h ∧ ∃ i k, i < 5 ∧ a = nI i ∧ k < 7 ∧ b = nI k ∧ r = iI (Sl i k)))
      (fun E h1 => h1 = h ∧ E = eI ∧ (¬ inR a 5 ∨ ¬ inR b 7)) := by
  obtain ⟨T, P, G, Ln, hw⟩ := hw
  obtain ⟨hx, hsl, hsa, -⟩ := hw.2.2.1
  refine mEnter_x (by decide) (Nat.le_of_ble_eq_true rfl) rfl (fun z X Vz => ?_)
  refine zi_iload_n X dX6_coefficient_0 rfl rfl ?_
  refine zi_xcallSv X (x_requireSlot hl) kc_X6_requireSlot wm_X6_54 wst_X6_requireSlot ⟨Nat.le_of_ble_eq_true rfl, Nat.le_of_ble_eq_true rfl⟩ rfl rfl (Nat.le_of_ble_eq_true rfl) ⟨Nat.le_of_ble_eq_true rfl, Nat.le_of_ble_eq_true rfl⟩ dX6_coefficient_1 (fun E g e1 => zt_out X Vz (by obtain ⟨e1, e2, e3⟩ := e1; exact ⟨e2, e1, Or.inl e3⟩) (by decide) (by decide)) (fun g e1 => ?_)
  obtain ⟨rfl, i, hi, rfl⟩ := e1
  refine zi_iload_n X dX6_coefficient_4 rfl rfl ?_
  refine zi_xcallSv X (x_requirePower hl) kc_X6_requirePower wm_X6_58 wst_X6_requirePower ⟨Nat.le_of_ble_eq_true rfl, Nat.le_of_ble_eq_true rfl⟩ rfl rfl (Nat.le_of_ble_eq_true rfl) ⟨Nat.le_of_ble_eq_true rfl, Nat.le_of_ble_eq_true rfl⟩ dX6_coefficient_5 (fun E g1 e1 => zt_out X Vz (by obtain ⟨e1, e2, e3⟩ := e1; exact ⟨e2, e1, Or.inr e3⟩) (by decide) (by decide)) (fun g1 e1 => ?_)
  obtain ⟨rfl, k, hk, rfl⟩ := e1
  have k0 := hsa i hi
  have hin : vp_in (nI k) 7 := vin hk (by decide)
  refine zi_aload_n X dX6_coefficient_8 rfl rfl ?_
  refine zi_getf (C := RX6) (T := TX6) (N := 8) (ci := 10) X (by first | assumption | exact mup_self | (rw [mup_ne (by assumption)]; assumption) | (rw [mup_ne (by assumption)]; exact mup_self) | (rw [mup_ne (by assumption), mup_ne (by assumption)]; assumption)) rfl in_X6 0 (by decide) wf_X6_11 rfl rfl dX6_coefficient_9 ?_
  refine zi_iload_n X dX6_coefficient_12 rfl rfl ?_
  refine zi_aaldA X 4 (by first | assumption | exact mup_self | (rw [mup_ne (by assumption)]; assumption) | (rw [mup_ne (by assumption)]; exact mup_self) | (rw [mup_ne (by assumption), mup_ne (by assumption)]; assumption)) rfl (vin hi (by decide)) (sl_at hi) dX6_coefficient_13 ?_
  refine zi_iload_n X dX6_coefficient_14 rfl rfl ?_
  refine zi_iald X 0 (by first | assumption | exact mup_self | (rw [mup_ne (by assumption)]; assumption) | (rw [mup_ne (by assumption)]; exact mup_self) | (rw [mup_ne (by assumption), mup_ne (by assumption)]; assumption)) rfl (by assumption) dX6_coefficient_15 ?_
  rw [slot_rd hk]
  refine zi_xireturn X Vz dX6_coefficient_16 ?_
  exact ⟨rfl, i, k, hi, rfl, hk, rfl, rfl⟩
theorem x_degree (hl : l.stackTraces = false) (hw : isW cA D S (x, sl, rw, is, lst, sa) h (Sl, n, V, src)) {a : Int32} :
    mCx l yX6_degree cX6_degree 2 (some .int) (rmc 7 1 6) D (mT cA) [.ref x, .int a] h (mFi h (fun r h1 => h1 = h ∧ ∃ i, i < 5 ∧ a = nI i ∧ r = iI (sDeg (Sl i))))
      (fun E h1 => h1 = h ∧ E = eI ∧ ¬ inR a 5) := by
  obtain ⟨T, P, G, Ln, hw⟩ := hw
  obtain ⟨hx, hsl, hsa, hr, hinj, hb, -⟩ := hw.2.2.1
  refine mEnter_x (by decide) (Nat.le_of_ble_eq_true rfl) rfl (fun z X Vz => ?_)
  refine zi_iload_n X dX6_degree_0 rfl rfl ?_
  refine zi_xcallSv X (x_requireSlot hl) kc_X6_requireSlot wm_X6_54 wst_X6_requireSlot ⟨Nat.le_of_ble_eq_true rfl, Nat.le_of_ble_eq_true rfl⟩ rfl rfl (Nat.le_of_ble_eq_true rfl) ⟨Nat.le_of_ble_eq_true rfl, Nat.le_of_ble_eq_true rfl⟩ dX6_degree_1 (fun E g e1 => zt_out X Vz (by obtain ⟨e1, e2, e3⟩ := e1; exact ⟨e2, e1, e3⟩) (by decide) (by decide)) (fun g e1 => ?_)
  obtain ⟨rfl, i, hi, rfl⟩ := e1
  have k0 := hsa i hi
  refine zi_aload_n X dX6_degree_4 rfl rfl ?_
  refine zi_getf (C := RX6) (T := TX6) (N := 8) (ci := 10) X (by first | assumption | exact mup_self | (rw [mup_ne (by assumption)]; assumption) | (rw [mup_ne (by assumption)]; exact mup_self) | (rw [mup_ne (by assumption), mup_ne (by assumption)]; assumption)) rfl in_X6 0 (by decide) wf_X6_11 rfl rfl dX6_degree_5 ?_
  refine zi_iload_n X dX6_degree_8 rfl rfl ?_
  refine zi_aaldA X 4 (by first | assumption | exact mup_self | (rw [mup_ne (by assumption)]; assumption) | (rw [mup_ne (by assumption)]; exact mup_self) | (rw [mup_ne (by assumption), mup_ne (by assumption)]; assumption)) rfl (vin hi (by decide)) (sl_at hi) dX6_degree_9 ?_
  refine zi_callSi X (x_degreeOf l D k0 (fun k hk => hb i k hi hk)) kc_X6_degreeOf wm_X6_68 wst_X6_degreeOf ⟨Nat.le_of_ble_eq_true rfl, Nat.le_of_ble_eq_true rfl⟩ rfl rfl (Nat.le_of_ble_eq_true rfl) ⟨Nat.le_of_ble_eq_true rfl, Nat.le_of_ble_eq_true rfl⟩ dX6_degree_10 (fun y g1 e1 => ?_)
  obtain ⟨rfl, rfl⟩ := e1
  refine zi_xireturn X Vz dX6_degree_13 ?_
  exact ⟨rfl, i, hi, rfl, rfl⟩
/-- the row's content comes to a slot: what every storing method does at its end -/
theorem x_copy (hl : l.stackTraces = false) (hw : isW cA D S (x, sl, rw, is, lst, sa) h (Sl, n, V, src)) {a b : Int32} :
    mCx l yX6_copy cX6_copy 3 (some .int) (rmc 7 2 12) D (mT cA) [.ref x, .int a, .int b] h (mFi h (fun r h1 => ∃ i k, i < 5 ∧ a = nI i ∧ k < 5 ∧ b = nI k ∧ r = iI (sDeg (Sl i)) ∧ isW cA D S (x, sl, rw, is, lst, sa) h1 (setS Sl k (Sl i), n, V, src)))
      (fun E h1 => h1 = h ∧ E = eI ∧ (¬ inR a 5 ∨ ¬ inR b 5)) := by
  obtain ⟨T, P, G, Ln, hw⟩ := hw
  have hx := hw.2.2.1.1
  have hb := hw.2.2.1.2.2.2.2.2.1
  have hz := hw.2.2.2.2.1
  refine mEnter_x (by decide) (Nat.le_of_ble_eq_true rfl) rfl (fun z X Vz => ?_)
  refine zi_iload_n X dX6_copy_0 rfl rfl ?_
  refine zi_xcallSv X (x_requireSlot hl) kc_X6_requireSlot wm_X6_54 wst_X6_requireSlot ⟨Nat.le_of_ble_eq_true rfl, Nat.le_of_ble_eq_true rfl⟩ rfl rfl (Nat.le_of_ble_eq_true rfl) ⟨Nat.le_of_ble_eq_true rfl, Nat.le_of_ble_eq_true rfl⟩ dX6_copy_1 (fun E g e1 => zt_out X Vz (by obtain ⟨e1, e2, e3⟩ := e1; exact ⟨e2, e1, Or.inl e3⟩) (by decide) (by decide)) (fun g e1 => ?_)
  obtain ⟨rfl, i, hi, rfl⟩ := e1
  refine zi_iload_n X dX6_copy_4 rfl rfl ?_
  refine zi_xcallSv X (x_requireSlot hl) kc_X6_requireSlot wm_X6_54 wst_X6_requireSlot ⟨Nat.le_of_ble_eq_true rfl, Nat.le_of_ble_eq_true rfl⟩ rfl rfl (Nat.le_of_ble_eq_true rfl) ⟨Nat.le_of_ble_eq_true rfl, Nat.le_of_ble_eq_true rfl⟩ dX6_copy_5 (fun E g1 e1 => zt_out X Vz (by obtain ⟨e1, e2, e3⟩ := e1; exact ⟨e2, e1, Or.inr e3⟩) (by decide) (by decide)) (fun g1 e1 => ?_)
  obtain ⟨rfl, k, hk, rfl⟩ := e1
  refine zi_aload_n X dX6_copy_8 rfl rfl ?_
  refine zi_iload_n X dX6_copy_9 rfl rfl ?_
  refine zi_callVv X (x_readRow l D hw.2.2.1 hi) kc_X6_readRow wm_X6_72 hx rfl wim_X6_readRow wse_X6_readRow ⟨Nat.le_of_ble_eq_true rfl, Nat.le_of_ble_eq_true rfl⟩ rfl rfl (Nat.le_of_ble_eq_true rfl) ⟨Nat.le_of_ble_eq_true rfl, Nat.le_of_ble_eq_true rfl⟩ dX6_copy_10 (fun g2 e1 => ?_)
  obtain ⟨r, rfl, hr⟩ := e1
  have hw2 := isWT_row hw r
  have hx2 := hw2.2.2.1.1
  refine zi_aload_n X dX6_copy_13 rfl rfl ?_
  refine zi_iload_n X dX6_copy_14 rfl rfl ?_
  refine zi_callVi X (x_storeRow l D hw2.2.2.1 hk mup_self hr (fun t ht => hb i t hi ht)) kc_X6_storeRow wm_X6_75 hx2 rfl wim_X6_storeRow wse_X6_storeRow ⟨Nat.le_of_ble_eq_true rfl, Nat.le_of_ble_eq_true rfl⟩ rfl rfl (Nat.le_of_ble_eq_true rfl) ⟨Nat.le_of_ble_eq_true rfl, Nat.le_of_ble_eq_true rfl⟩ dX6_copy_15 (fun y g3 e1 => ?_)
  obtain ⟨rfl, rfl⟩ := e1
  refine zi_xireturn X Vz dX6_copy_18 ?_
  refine ⟨i, k, hi, rfl, hk, rfl, rfl, T, P, G, Ln, ?_⟩
  have h9 := isWT_set hw2 hk (fun t ht => hb i t hi ht)
  rw [tr_id (fun t ht => hz i t hi ht)] at h9
  exact h9
end X6E
