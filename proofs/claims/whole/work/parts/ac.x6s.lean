/-! SturmRoots: requireElement, sturmDegree, sturmCoefficient -/
section X6S
variable {cA : Nat → ClassId} {D : va_G} {S : Nat → Nat → Nat} {h : mH} {x sl rw is lst n : Nat} {sa : Nat → Nat} {Sl : Nat → Nat → Int} {V : Nat → Iv} {src : Nat → Int} {l : Launch} {T : Nat → Prop} {P : Nat → Nat → Int} {G Ln : Nat → Nat}
theorem x_requireElement (hl : l.stackTraces = false) (hx : h x = some (xO S sl rw is)) (hh : hP cA S P G Ln h) {N : Nat} (hN : Ln 0 = N) (hN7 : N ≤ 7) {a : Int32} : mCx l yX6_requireElement cX6_requireElement 2 none (rmc 6 1 6) D (mT cA) [.ref x, .int a] h (mFv h (fun h1 => h1 = h ∧ ∃ m, m < N ∧ a = nI m)) (fun E h1 => E = eN ∧ h1 = h ∧ ¬ inR a N) := by
  have k1 := (hP_s hh (q := 0) (by decide)).1
  refine mEnter_x (by decide) (Nat.le_of_ble_eq_true rfl) rfl (fun z X Vz => ?_)
  refine zi_iload_n X dX6_requireElement_0 rfl rfl ?_
  refine zi_if_lt (tgt := 15) X dX6_requireElement_1 (by decide) (fun c_1 => ?_) (fun c_1 => ?_)
  · refine zi_throwNW hl X Vz xok_X6_272 xs_X6_270 dX6_requireElement_15 dX6_requireElement_18 dX6_requireElement_19 dX6_requireElement_22 dX6_requireElement_25 (Nat.le_of_ble_eq_true rfl) (Nat.le_of_ble_eq_true rfl) (Nat.le_of_ble_eq_true rfl) (Nat.le_of_ble_eq_true rfl) (Nat.le_of_ble_eq_true rfl) (Nat.le_of_ble_eq_true rfl) ⟨rfl, rfl, fun ⟨i, hi, e⟩ => (i_out (by omega) hi e).1 c_1⟩
  · refine zi_iload_n X dX6_requireElement_4 rfl rfl ?_
    refine zi_aload_n X dX6_requireElement_5 rfl rfl ?_
    refine zi_getf (C := RX6) (T := TX6) (N := 8) (ci := 10) X (by first | assumption | exact mup_self | (rw [mup_ne (by assumption)]; assumption) | (rw [mup_ne (by assumption)]; exact mup_self) | (rw [mup_ne (by assumption), mup_ne (by assumption)]; assumption)) rfl in_X6 6 (by decide) wf_X6_41 rfl rfl dX6_requireElement_6 ?_
    refine zi_getf (C := RX5) (T := TX5) (N := 2) (ci := 9) X (by first | assumption | exact mup_self | (rw [mup_ne (by assumption)]; assumption) | (rw [mup_ne (by assumption)]; exact mup_self) | (rw [mup_ne (by assumption), mup_ne (by assumption)]; assumption)) rfl in_X5 1 (by decide) wf_X6_116 rfl rfl dX6_requireElement_9 ?_
    refine zi_icmp_lt (tgt := 26) X dX6_requireElement_12 (by decide) (fun c_12 => ?_) (fun c_12 => ?_)
    · rw [hN] at c_12
      refine zi_widen (k := 1) (n := 6) (by decide) (by decide) ?_
      refine zi_xreturn X Vz dX6_requireElement_26 ?_
      exact ⟨rfl, i_in c_1 c_12 (by omega)⟩
    · rw [hN] at c_12
      refine zi_throwNW hl X Vz xok_X6_272 xs_X6_270 dX6_requireElement_15 dX6_requireElement_18 dX6_requireElement_19 dX6_requireElement_22 dX6_requireElement_25 (Nat.le_of_ble_eq_true rfl) (Nat.le_of_ble_eq_true rfl) (Nat.le_of_ble_eq_true rfl) (Nat.le_of_ble_eq_true rfl) (Nat.le_of_ble_eq_true rfl) (Nat.le_of_ble_eq_true rfl) ⟨rfl, rfl, fun ⟨i, hi, e⟩ => c_12 (i_out (by omega) hi e).2⟩
theorem x_sturmDegree (hl : l.stackTraces = false) (hz : SzAll) (hw : isW cA D S (x, sl, rw, is, lst, sa) h (Sl, n, V, src)) {a b : Int32} :
    mCx l yX6_sturmDegree cX6_sturmDegree 3 (some .int) (rmc 8 3 18) D (mT cA) [.ref x, .int a, .int b] h (mFi h (fun r h1 => ∃ i m, i < 5 ∧ a = nI i ∧ stI (Sl i) 7 ≠ 0 ∧ m < stM (Sl i) ∧ b = nI m ∧ r = iI (sDeg (stE (Sl i) m)) ∧ isW cA D S (x, sl, rw, is, lst, sa) h1 (Sl, n, V, src)))
      (fun E h1 => isW cA D S (x, sl, rw, is, lst, sa) h1 (Sl, n, V, src) ∧ (E = eI ∧ ¬ inR a 5 ∨ E = eM ∧ (∃ i, i < 5 ∧ a = nI i ∧ stI (Sl i) 7 = 0) ∨ E = eN ∧ ∃ i, i < 5 ∧ a = nI i ∧ stI (Sl i) 7 ≠ 0 ∧ ¬ inR b (stM (Sl i)))) := by
  have hw0 := hw
  obtain ⟨T, P, G, Ln, hw⟩ := hw
  refine mEnter_x (by decide) (Nat.le_of_ble_eq_true rfl) rfl (fun z X Vz => ?_)
  refine zi_iload_n X dX6_sturmDegree_0 rfl rfl ?_
  refine zi_xcallSv X (x_requireSlot hl) kc_X6_requireSlot wm_X6_54 wst_X6_requireSlot ⟨Nat.le_of_ble_eq_true rfl, Nat.le_of_ble_eq_true rfl⟩ rfl rfl (Nat.le_of_ble_eq_true rfl) ⟨Nat.le_of_ble_eq_true rfl, Nat.le_of_ble_eq_true rfl⟩ dX6_sturmDegree_1 (fun E g e1 => zt_out X Vz (by obtain ⟨e1, e2, e3⟩ := e1; exact ⟨isW_same hw0 e2, Or.inl ⟨e1, e3⟩⟩) (by decide) (by decide)) (fun g e1 => ?_)
  obtain ⟨rfl, i, hi, rfl⟩ := e1
  have hx := hw.2.2.1.1
  refine zi_aload_n X dX6_sturmDegree_4 rfl rfl ?_
  refine zi_iload_n X dX6_sturmDegree_5 rfl rfl ?_
  refine zi_xcallVv X (x_requireNotZero hl hw.2.2.1 hi) kc_X6_requireNotZero wm_X6_106 hx rfl wim_X6_requireNotZero wse_X6_requireNotZero ⟨Nat.le_of_ble_eq_true rfl, Nat.le_of_ble_eq_true rfl⟩ rfl rfl (Nat.le_of_ble_eq_true rfl) ⟨Nat.le_of_ble_eq_true rfl, Nat.le_of_ble_eq_true rfl⟩ dX6_sturmDegree_6 (fun E g1 e1 => zt_out X Vz (by obtain ⟨e1, e2, e3⟩ := e1; exact ⟨isW_same hw0 e2, Or.inr (Or.inl ⟨e1, i, hi, rfl, e3⟩)⟩) (by decide) (by decide)) (fun g1 e1 => ?_)
  obtain ⟨rfl, h0⟩ := e1
  have hx := hw.2.2.1.1
  refine zi_aload_n X dX6_sturmDegree_9 rfl rfl ?_
  refine zi_iload_n X dX6_sturmDegree_10 rfl rfl ?_
  refine zi_callVv X (x_buildSequence l hz hw hi h0) kc_X6_buildSequence wm_X6_113 hx rfl wim_X6_buildSequence wse_X6_buildSequence ⟨Nat.le_of_ble_eq_true rfl, Nat.le_of_ble_eq_true rfl⟩ rfl rfl (Nat.le_of_ble_eq_true rfl) ⟨Nat.le_of_ble_eq_true rfl, Nat.le_of_ble_eq_true rfl⟩ dX6_sturmDegree_11 (fun g2 e1 => ?_)
  obtain ⟨P2, G2, L2, hw2, -, -, sq⟩ := e1
  have hx2 := hw2.2.2.1.1
  have hM7 : stM (Sl i) ≤ 7 := sq.1.1
  refine zi_aload_n X dX6_sturmDegree_14 rfl rfl ?_
  refine zi_iload_n X dX6_sturmDegree_15 rfl rfl ?_
  refine zi_xcallVv X (x_requireElement hl hx2 hw2.1 sq.2.1 hM7) kc_X6_requireElement wm_X6_120 hx2 rfl wim_X6_requireElement wse_X6_requireElement ⟨Nat.le_of_ble_eq_true rfl, Nat.le_of_ble_eq_true rfl⟩ rfl rfl (Nat.le_of_ble_eq_true rfl) ⟨Nat.le_of_ble_eq_true rfl, Nat.le_of_ble_eq_true rfl⟩ dX6_sturmDegree_16 (fun E g3 e1 => zt_out X Vz (by obtain ⟨e1, e2, e3⟩ := e1; subst e2; exact ⟨⟨T, P2, G2, L2, hw2⟩, Or.inr (Or.inr ⟨e1, i, hi, rfl, h0, e3⟩)⟩) (by decide) (by decide)) (fun g3 e1 => ?_)
  obtain ⟨rfl, m, hm, rfl⟩ := e1
  have hx3 := hw2.2.2.1.1
  have hm7 : m < 7 := Nat.lt_of_lt_of_le hm hM7
  have k1 := (hP_s hw2.1 (q := 0) (by decide)).1
  have k2 := (hP_s hw2.1 (q := 0) (by decide)).2
  have k3 := (hP_p hw2.1 (j := sb 0 + m) (Nat.add_lt_add_left (Nat.lt_of_lt_of_le hm7 (by decide : 7 ≤ 19)) 3)).1
  refine zi_aload_n X dX6_sturmDegree_19 rfl rfl ?_
  refine zi_getf (C := RX6) (T := TX6) (N := 8) (ci := 10) X (by first | assumption | exact mup_self | (rw [mup_ne (by assumption)]; assumption) | (rw [mup_ne (by assumption)]; exact mup_self) | (rw [mup_ne (by assumption), mup_ne (by assumption)]; assumption)) rfl in_X6 6 (by decide) wf_X6_41 rfl rfl dX6_sturmDegree_20 ?_
  refine zi_getf (C := RX5) (T := TX5) (N := 2) (ci := 9) X (by first | assumption | exact mup_self | (rw [mup_ne (by assumption)]; assumption) | (rw [mup_ne (by assumption)]; exact mup_self) | (rw [mup_ne (by assumption), mup_ne (by assumption)]; assumption)) rfl in_X5 0 (by decide) wf_X6_123 rfl rfl dX6_sturmDegree_23 ?_
  refine zi_iload_n X dX6_sturmDegree_26 rfl rfl ?_
  refine zi_aaldq X 3 (by first | assumption | exact mup_self | (rw [mup_ne (by assumption)]; assumption) | (rw [mup_ne (by assumption)]; exact mup_self) | (rw [mup_ne (by assumption), mup_ne (by assumption)]; assumption)) rfl (vin hm7 (by decide)) (sa_at (i := m) hm7) dX6_sturmDegree_27 ?_
  refine zi_getf (C := RX4) (T := TX4) (N := 2) (ci := 8) X (by first | assumption | exact mup_self | (rw [mup_ne (by assumption)]; assumption) | (rw [mup_ne (by assumption)]; exact mup_self) | (rw [mup_ne (by assumption), mup_ne (by assumption)]; assumption)) rfl in_X4 1 (by decide) wf_X6_137 rfl rfl dX6_sturmDegree_28 ?_
  have e5 : nI (G2 (sb 0 + m)) - nI 1 = iI (sDeg (stE (Sl i) m)) := by rw [sDeg_I, (sq.2.2 m hm).2]
  rw [e5]
  refine zi_xireturn X Vz dX6_sturmDegree_31 ?_
  exact ⟨i, m, hi, rfl, h0, hm, rfl, rfl, T, P2, G2, L2, hw2⟩
theorem x_sturmCoefficient (hl : l.stackTraces = false) (hz : SzAll) (hw : isW cA D S (x, sl, rw, is, lst, sa) h (Sl, n, V, src)) {a b c : Int32} :
    mCx l yX6_sturmCoefficient cX6_sturmCoefficient 4 (some .long) (rmc 8 4 24) D (mT cA) [.ref x, .int a, .int b, .int c] h (mFl h (fun r h1 => ∃ i m k, i < 5 ∧ a = nI i ∧ stI (Sl i) 7 ≠ 0 ∧ m < stM (Sl i) ∧ b = nI m ∧ k < 7 ∧ c = nI k ∧ r = lV (stE (Sl i) m k) ∧ isW cA D S (x, sl, rw, is, lst, sa) h1 (Sl, n, V, src)))
      (fun E h1 => isW cA D S (x, sl, rw, is, lst, sa) h1 (Sl, n, V, src) ∧ (E = eI ∧ (¬ inR a 5 ∨ ¬ inR c 7) ∨ E = eM ∧ inR c 7 ∧ (∃ i, i < 5 ∧ a = nI i ∧ stI (Sl i) 7 = 0) ∨ E = eN ∧ inR c 7 ∧ ∃ i, i < 5 ∧ a = nI i ∧ stI (Sl i) 7 ≠ 0 ∧ ¬ inR b (stM (Sl i)))) := by
  have hw0 := hw
  obtain ⟨T, P, G, Ln, hw⟩ := hw
  refine mEnter_x (by decide) (Nat.le_of_ble_eq_true rfl) rfl (fun z X Vz => ?_)
  refine zi_iload_n X dX6_sturmCoefficient_0 rfl rfl ?_
  refine zi_xcallSv X (x_requireSlot hl) kc_X6_requireSlot wm_X6_54 wst_X6_requireSlot ⟨Nat.le_of_ble_eq_true rfl, Nat.le_of_ble_eq_true rfl⟩ rfl rfl (Nat.le_of_ble_eq_true rfl) ⟨Nat.le_of_ble_eq_true rfl, Nat.le_of_ble_eq_true rfl⟩ dX6_sturmCoefficient_1 (fun E g e1 => zt_out X Vz (by obtain ⟨e1, e2, e3⟩ := e1; exact ⟨isW_same hw0 e2, Or.inl ⟨e1, Or.inl e3⟩⟩) (by decide) (by decide)) (fun g e1 => ?_)
  obtain ⟨rfl, i, hi, rfl⟩ := e1
  refine zi_iload_n X dX6_sturmCoefficient_4 rfl rfl ?_
  refine zi_xcallSv X (x_requirePower hl) kc_X6_requirePower wm_X6_58 wst_X6_requirePower ⟨Nat.le_of_ble_eq_true rfl, Nat.le_of_ble_eq_true rfl⟩ rfl rfl (Nat.le_of_ble_eq_true rfl) ⟨Nat.le_of_ble_eq_true rfl, Nat.le_of_ble_eq_true rfl⟩ dX6_sturmCoefficient_5 (fun E g1 e1 => zt_out X Vz (by obtain ⟨e1, e2, e3⟩ := e1; exact ⟨isW_same hw0 e2, Or.inl ⟨e1, Or.inr e3⟩⟩) (by decide) (by decide)) (fun g1 e1 => ?_)
  obtain ⟨rfl, k, hk, rfl⟩ := e1
  have hx := hw.2.2.1.1
  refine zi_aload_n X dX6_sturmCoefficient_8 rfl rfl ?_
  refine zi_iload_n X dX6_sturmCoefficient_9 rfl rfl ?_
  refine zi_xcallVv X (x_requireNotZero hl hw.2.2.1 hi) kc_X6_requireNotZero wm_X6_106 hx rfl wim_X6_requireNotZero wse_X6_requireNotZero ⟨Nat.le_of_ble_eq_true rfl, Nat.le_of_ble_eq_true rfl⟩ rfl rfl (Nat.le_of_ble_eq_true rfl) ⟨Nat.le_of_ble_eq_true rfl, Nat.le_of_ble_eq_true rfl⟩ dX6_sturmCoefficient_10 (fun E g1 e1 => zt_out X Vz (by obtain ⟨e1, e2, e3⟩ := e1; exact ⟨isW_same hw0 e2, Or.inr (Or.inl ⟨e1, rd_nI hk, i, hi, rfl, e3⟩)⟩) (by decide) (by decide)) (fun g1 e1 => ?_)
  obtain ⟨rfl, h0⟩ := e1
  have hx := hw.2.2.1.1
  refine zi_aload_n X dX6_sturmCoefficient_13 rfl rfl ?_
  refine zi_iload_n X dX6_sturmCoefficient_14 rfl rfl ?_
  refine zi_callVv X (x_buildSequence l hz hw hi h0) kc_X6_buildSequence wm_X6_113 hx rfl wim_X6_buildSequence wse_X6_buildSequence ⟨Nat.le_of_ble_eq_true rfl, Nat.le_of_ble_eq_true rfl⟩ rfl rfl (Nat.le_of_ble_eq_true rfl) ⟨Nat.le_of_ble_eq_true rfl, Nat.le_of_ble_eq_true rfl⟩ dX6_sturmCoefficient_15 (fun g2 e1 => ?_)
  obtain ⟨P2, G2, L2, hw2, -, -, sq⟩ := e1
  have hx2 := hw2.2.2.1.1
  have hM7 : stM (Sl i) ≤ 7 := sq.1.1
  refine zi_aload_n X dX6_sturmCoefficient_18 rfl rfl ?_
  refine zi_iload_n X dX6_sturmCoefficient_19 rfl rfl ?_
  refine zi_xcallVv X (x_requireElement hl hx2 hw2.1 sq.2.1 hM7) kc_X6_requireElement wm_X6_120 hx2 rfl wim_X6_requireElement wse_X6_requireElement ⟨Nat.le_of_ble_eq_true rfl, Nat.le_of_ble_eq_true rfl⟩ rfl rfl (Nat.le_of_ble_eq_true rfl) ⟨Nat.le_of_ble_eq_true rfl, Nat.le_of_ble_eq_true rfl⟩ dX6_sturmCoefficient_20 (fun E g3 e1 => zt_out X Vz (by obtain ⟨e1, e2, e3⟩ := e1; subst e2; exact ⟨⟨T, P2, G2, L2, hw2⟩, Or.inr (Or.inr ⟨e1, rd_nI hk, i, hi, rfl, h0, e3⟩)⟩) (by decide) (by decide)) (fun g3 e1 => ?_)
  obtain ⟨rfl, m, hm, rfl⟩ := e1
  have hx3 := hw2.2.2.1.1
  have hm7 : m < 7 := Nat.lt_of_lt_of_le hm hM7
  have k1 := (hP_s hw2.1 (q := 0) (by decide)).1
  have k2 := (hP_s hw2.1 (q := 0) (by decide)).2
  have k3 := hP_p hw2.1 (j := sb 0 + m) (Nat.add_lt_add_left (Nat.lt_of_lt_of_le hm7 (by decide : 7 ≤ 19)) 3)
  have k4 := k3.1
  have k5 := k3.2
  obtain ⟨B, hB, eB⟩ := hw2.1
  have k6 := hB.1 (7 * (sb 0 + m) + k) (show 7 * (3 + m) + k < 164 by omega)
  rw [eB (sb 0 + m) (Nat.add_lt_add_left (Nat.lt_of_lt_of_le hm7 (by decide : 7 ≤ 19)) 3) k hk, (sq.2.2 m hm).1] at k6
  refine zi_aload_n X dX6_sturmCoefficient_23 rfl rfl ?_
  refine zi_getf (C := RX6) (T := TX6) (N := 8) (ci := 10) X (by first | assumption | exact mup_self | (rw [mup_ne (by assumption)]; assumption) | (rw [mup_ne (by assumption)]; exact mup_self) | (rw [mup_ne (by assumption), mup_ne (by assumption)]; assumption)) rfl in_X6 6 (by decide) wf_X6_41 rfl rfl dX6_sturmCoefficient_24 ?_
  refine zi_getf (C := RX5) (T := TX5) (N := 2) (ci := 9) X (by first | assumption | exact mup_self | (rw [mup_ne (by assumption)]; assumption) | (rw [mup_ne (by assumption)]; exact mup_self) | (rw [mup_ne (by assumption), mup_ne (by assumption)]; assumption)) rfl in_X5 0 (by decide) wf_X6_123 rfl rfl dX6_sturmCoefficient_27 ?_
  refine zi_iload_n X dX6_sturmCoefficient_30 rfl rfl ?_
  refine zi_aaldq X 3 (by first | assumption | exact mup_self | (rw [mup_ne (by assumption)]; assumption) | (rw [mup_ne (by assumption)]; exact mup_self) | (rw [mup_ne (by assumption), mup_ne (by assumption)]; assumption)) rfl (vin hm7 (by decide)) (sa_at (i := m) hm7) dX6_sturmCoefficient_31 ?_
  refine zi_getf (C := RX4) (T := TX4) (N := 2) (ci := 8) X (by first | assumption | exact mup_self | (rw [mup_ne (by assumption)]; assumption) | (rw [mup_ne (by assumption)]; exact mup_self) | (rw [mup_ne (by assumption), mup_ne (by assumption)]; assumption)) rfl in_X4 0 (by decide) wf_X6_127 rfl rfl dX6_sturmCoefficient_32 ?_
  refine zi_iload_n X dX6_sturmCoefficient_35 rfl rfl ?_
  refine zi_aaldq X 2 (by first | assumption | exact mup_self | (rw [mup_ne (by assumption)]; assumption) | (rw [mup_ne (by assumption)]; exact mup_self) | (rw [mup_ne (by assumption), mup_ne (by assumption)]; assumption)) rfl (vin hk (by decide)) (pa_at (i := k) hk) dX6_sturmCoefficient_36 ?_
  refine zi_callVl X (k_lowestBits l D cA k6) kc_X1_lowestBits wm_X6_131 (k6.1) rfl wim_X1_lowestBits wse_X1_lowestBits ⟨Nat.le_of_ble_eq_true rfl, Nat.le_of_ble_eq_true rfl⟩ rfl rfl (Nat.le_of_ble_eq_true rfl) ⟨Nat.le_of_ble_eq_true rfl, Nat.le_of_ble_eq_true rfl⟩ dX6_sturmCoefficient_37 (fun y g4 e1 => ?_)
  obtain ⟨rfl, rfl⟩ := e1
  refine zi_xlreturn X Vz dX6_sturmCoefficient_40 ?_
  exact ⟨i, m, k, hi, rfl, h0, hm, rfl, hk, rfl, rfl, T, P2, G2, L2, hw2⟩
end X6S
