/-! SturmRoots: sturmLength, signChanges, sign, distinctRoots, coefficientSignChanges, countDistinct -/
section X6L
variable {cA : Nat → ClassId} {D : va_G} {S : Nat → Nat → Nat} {h : mH} {x sl rw is lst n : Nat} {sa : Nat → Nat} {Sl : Nat → Nat → Int} {V : Nat → Iv} {src : Nat → Int} {l : Launch} {T : Nat → Prop} {P : Nat → Nat → Int} {G Ln : Nat → Nat}
theorem x_sturmLength (hl : l.stackTraces = false) (hz : SzAll) (hw : isW cA D S (x, sl, rw, is, lst, sa) h (Sl, n, V, src)) {a : Int32} :
    mCx l yX6_sturmLength cX6_sturmLength 2 (some .int) (rmc 8 2 12) D (mT cA) [.ref x, .int a] h (mFi h (fun r h1 => ∃ i, i < 5 ∧ a = nI i ∧ stI (Sl i) 7 ≠ 0 ∧ r = nI (stM (Sl i)) ∧ isW cA D S (x, sl, rw, is, lst, sa) h1 (Sl, n, V, src)))
      (fun E h1 => isW cA D S (x, sl, rw, is, lst, sa) h1 (Sl, n, V, src) ∧ (E = eI ∧ ¬ inR a 5 ∨ E = eM ∧ ∃ i, i < 5 ∧ a = nI i ∧ stI (Sl i) 7 = 0)) := by
  have hw0 := hw
  obtain ⟨T, P, G, Ln, hw⟩ := hw
  refine mEnter_x (by decide) (Nat.le_of_ble_eq_true rfl) rfl (fun z X Vz => ?_)
  refine zi_iload_n X dX6_sturmLength_0 rfl rfl ?_
  refine zi_xcallSv X (x_requireSlot hl) kc_X6_requireSlot wm_X6_54 wst_X6_requireSlot ⟨Nat.le_of_ble_eq_true rfl, Nat.le_of_ble_eq_true rfl⟩ rfl rfl (Nat.le_of_ble_eq_true rfl) ⟨Nat.le_of_ble_eq_true rfl, Nat.le_of_ble_eq_true rfl⟩ dX6_sturmLength_1 (fun E g e1 => zt_out X Vz (by obtain ⟨e1, e2, e3⟩ := e1; exact ⟨isW_same hw0 e2, Or.inl ⟨e1, e3⟩⟩) (by decide) (by decide)) (fun g e1 => ?_)
  obtain ⟨rfl, i, hi, rfl⟩ := e1
  have hx := hw.2.2.1.1
  refine zi_aload_n X dX6_sturmLength_4 rfl rfl ?_
  refine zi_iload_n X dX6_sturmLength_5 rfl rfl ?_
  refine zi_xcallVv X (x_requireNotZero hl hw.2.2.1 hi) kc_X6_requireNotZero wm_X6_106 hx rfl wim_X6_requireNotZero wse_X6_requireNotZero ⟨Nat.le_of_ble_eq_true rfl, Nat.le_of_ble_eq_true rfl⟩ rfl rfl (Nat.le_of_ble_eq_true rfl) ⟨Nat.le_of_ble_eq_true rfl, Nat.le_of_ble_eq_true rfl⟩ dX6_sturmLength_6 (fun E g1 e1 => zt_out X Vz (by obtain ⟨e1, e2, e3⟩ := e1; exact ⟨isW_same hw0 e2, Or.inr ⟨e1, i, hi, rfl, e3⟩⟩) (by decide) (by decide)) (fun g1 e1 => ?_)
  obtain ⟨rfl, h0⟩ := e1
  have hx := hw.2.2.1.1
  refine zi_aload_n X dX6_sturmLength_9 rfl rfl ?_
  refine zi_iload_n X dX6_sturmLength_10 rfl rfl ?_
  refine zi_callVv X (x_buildSequence l hz hw hi h0) kc_X6_buildSequence wm_X6_113 hx rfl wim_X6_buildSequence wse_X6_buildSequence ⟨Nat.le_of_ble_eq_true rfl, Nat.le_of_ble_eq_true rfl⟩ rfl rfl (Nat.le_of_ble_eq_true rfl) ⟨Nat.le_of_ble_eq_true rfl, Nat.le_of_ble_eq_true rfl⟩ dX6_sturmLength_11 (fun g2 e1 => ?_)
  obtain ⟨P2, G2, L2, hw2, -, -, sq⟩ := e1
  have hx2 := hw2.2.2.1.1
  have k1 := (hP_s hw2.1 (q := 0) (by decide)).1
  refine zi_aload_n X dX6_sturmLength_14 rfl rfl ?_
  refine zi_getf (C := RX6) (T := TX6) (N := 8) (ci := 10) X (by first | assumption | exact mup_self | (rw [mup_ne (by assumption)]; assumption) | (rw [mup_ne (by assumption)]; exact mup_self) | (rw [mup_ne (by assumption), mup_ne (by assumption)]; assumption)) rfl in_X6 6 (by decide) wf_X6_41 rfl rfl dX6_sturmLength_15 ?_
  refine zi_getf (C := RX5) (T := TX5) (N := 2) (ci := 9) X (by first | assumption | exact mup_self | (rw [mup_ne (by assumption)]; assumption) | (rw [mup_ne (by assumption)]; exact mup_self) | (rw [mup_ne (by assumption), mup_ne (by assumption)]; assumption)) rfl in_X5 1 (by decide) wf_X6_116 rfl rfl dX6_sturmLength_18 ?_
  refine zi_xireturn X Vz dX6_sturmLength_21 ?_
  exact ⟨i, hi, rfl, h0, by rw [sq.2.1], T, P2, G2, L2, hw2⟩
theorem nn_sub (a b : Nat) : nI a - nI b = iI ((a : Int) - (b : Int)) := by rw [iI_nat, iI_nat, iI_sub]
theorem okE_of (hz : SzAll) {p : Nat → Int} (hb : bnd9 p) (h0 : stI p 7 ≠ 0) : okE p := (hz.1 _ hb h0).2.1.2.1
theorem x_signChanges (hl : l.stackTraces = false) (hz : SzAll) (hw : isW cA D S (x, sl, rw, is, lst, sa) h (Sl, n, V, src)) {a m k : Int32} :
    mCx l yX6_signChanges cX6_signChanges 4 (some .int) (rmc 8 3 18) D (mT cA) [.ref x, .int a, .int m, .int k] h (mFi h (fun r h1 => ∃ i kk, i < 5 ∧ a = nI i ∧ isPt m k ∧ kk < 13 ∧ k = nI kk ∧ stI (Sl i) 7 ≠ 0 ∧ r = nI (stC (Sl i) m.toInt kk) ∧ isW cA D S (x, sl, rw, is, lst, sa) h1 (Sl, n, V, src)))
      (fun E h1 => isW cA D S (x, sl, rw, is, lst, sa) h1 (Sl, n, V, src) ∧ (E = eI ∧ ¬ inR a 5 ∨ E = eA ∧ inR a 5 ∧ ¬ isPt m k ∨ E = eM ∧ isPt m k ∧ ∃ i, i < 5 ∧ a = nI i ∧ stI (Sl i) 7 = 0)) := by
  have hw0 := hw
  obtain ⟨T, P, G, Ln, hw⟩ := hw
  refine mEnter_x (by decide) (Nat.le_of_ble_eq_true rfl) rfl (fun z X Vz => ?_)
  refine zi_iload_n X dX6_signChanges_0 rfl rfl ?_
  refine zi_xcallSv X (x_requireSlot hl) kc_X6_requireSlot wm_X6_54 wst_X6_requireSlot ⟨Nat.le_of_ble_eq_true rfl, Nat.le_of_ble_eq_true rfl⟩ rfl rfl (Nat.le_of_ble_eq_true rfl) ⟨Nat.le_of_ble_eq_true rfl, Nat.le_of_ble_eq_true rfl⟩ dX6_signChanges_1 (fun E g e1 => zt_out X Vz (by obtain ⟨e1, e2, e3⟩ := e1; exact ⟨isW_same hw0 e2, Or.inl ⟨e1, e3⟩⟩) (by decide) (by decide)) (fun g e1 => ?_)
  obtain ⟨rfl, i, hi, rfl⟩ := e1
  refine zi_iload_n X dX6_signChanges_4 rfl rfl ?_
  refine zi_iload_n X dX6_signChanges_5 rfl rfl ?_
  refine zi_xcallSv X (x_requirePoint hl) kc_X6_requirePoint wm_X6_140 wst_X6_requirePoint ⟨Nat.le_of_ble_eq_true rfl, Nat.le_of_ble_eq_true rfl⟩ rfl rfl (Nat.le_of_ble_eq_true rfl) ⟨Nat.le_of_ble_eq_true rfl, Nat.le_of_ble_eq_true rfl⟩ dX6_signChanges_6 (fun E g e1 => zt_out X Vz (by obtain ⟨e1, e2, e3⟩ := e1; exact ⟨isW_same hw0 e2, Or.inr (Or.inl ⟨e1, rd_nI hi, e3⟩)⟩) (by decide) (by decide)) (fun g e1 => ?_)
  obtain ⟨rfl, hp⟩ := e1
  obtain ⟨kk, hkk, rfl⟩ := pt_in hp
  have hx := hw.2.2.1.1
  refine zi_aload_n X dX6_signChanges_9 rfl rfl ?_
  refine zi_iload_n X dX6_signChanges_10 rfl rfl ?_
  refine zi_xcallVv X (x_requireNotZero hl hw.2.2.1 hi) kc_X6_requireNotZero wm_X6_106 hx rfl wim_X6_requireNotZero wse_X6_requireNotZero ⟨Nat.le_of_ble_eq_true rfl, Nat.le_of_ble_eq_true rfl⟩ rfl rfl (Nat.le_of_ble_eq_true rfl) ⟨Nat.le_of_ble_eq_true rfl, Nat.le_of_ble_eq_true rfl⟩ dX6_signChanges_11 (fun E g1 e1 => zt_out X Vz (by obtain ⟨e1, e2, e3⟩ := e1; exact ⟨isW_same hw0 e2, Or.inr (Or.inr ⟨e1, hp, i, hi, rfl, e3⟩)⟩) (by decide) (by decide)) (fun g1 e1 => ?_)
  obtain ⟨rfl, h0⟩ := e1
  have hx := hw.2.2.1.1
  refine zi_aload_n X dX6_signChanges_14 rfl rfl ?_
  refine zi_iload_n X dX6_signChanges_15 rfl rfl ?_
  refine zi_callVv X (x_buildSequence l hz hw hi h0) kc_X6_buildSequence wm_X6_113 hx rfl wim_X6_buildSequence wse_X6_buildSequence ⟨Nat.le_of_ble_eq_true rfl, Nat.le_of_ble_eq_true rfl⟩ rfl rfl (Nat.le_of_ble_eq_true rfl) ⟨Nat.le_of_ble_eq_true rfl, Nat.le_of_ble_eq_true rfl⟩ dX6_signChanges_16 (fun g2 e1 => ?_)
  obtain ⟨P2, G2, L2, hw2, -, -, sq⟩ := e1
  have hx2 := hw2.2.2.1.1
  have oE := sq_ok sq (okE_of hz (isWT_b hw hi) h0)
  refine zi_aload_n X dX6_signChanges_19 rfl rfl ?_
  refine zi_getf (C := RX6) (T := TX6) (N := 8) (ci := 10) X (by first | assumption | exact mup_self | (rw [mup_ne (by assumption)]; assumption) | (rw [mup_ne (by assumption)]; exact mup_self) | (rw [mup_ne (by assumption), mup_ne (by assumption)]; assumption)) rfl in_X6 2 (by decide) wf_X6_21 rfl rfl dX6_signChanges_20 ?_
  refine zi_aload_n X dX6_signChanges_23 rfl rfl ?_
  refine zi_getf (C := RX6) (T := TX6) (N := 8) (ci := 10) X (by first | assumption | exact mup_self | (rw [mup_ne (by assumption)]; assumption) | (rw [mup_ne (by assumption)]; exact mup_self) | (rw [mup_ne (by assumption), mup_ne (by assumption)]; assumption)) rfl in_X6 6 (by decide) wf_X6_41 rfl rfl dX6_signChanges_24 ?_
  refine zi_iload_n X dX6_signChanges_27 rfl rfl ?_
  refine zi_iload_n X dX6_signChanges_28 rfl rfl ?_
  refine zi_callVi X (q_changesAt l D hw2.1 (q := 0) (k := kk) (M := MS) (X := 2 ^ 29) (by decide) oE (pt_X hp) (by omega) (two_X (by omega)) X_BB MS_X) kc_X0_changesAt wm_X6_144 (hP_a hw2.1) rfl wim_X0_changesAt wse_X0_changesAt ⟨Nat.le_of_ble_eq_true rfl, Nat.le_of_ble_eq_true rfl⟩ rfl rfl (Nat.le_of_ble_eq_true rfl) ⟨Nat.le_of_ble_eq_true rfl, Nat.le_of_ble_eq_true rfl⟩ dX6_signChanges_29 (fun y g3 e1 => ?_)
  obtain ⟨f3, h3, rfl⟩ := e1
  rw [sq_C sq]
  refine zi_xireturn X Vz dX6_signChanges_32 ?_
  exact ⟨i, kk, hi, rfl, hp, by omega, rfl, h0, rfl, T, P2, G2, L2, isWT_alg hw2 f3 h3 hw2.2.2.2.1 hw2.2.2.2.2.2⟩
theorem b9_MS {p : Nat → Int} (hb : bnd9 p) : ∀ i, i < 7 → (p i).natAbs ≤ MS := fun i hi => Nat.le_trans (hb.1 i hi) (by show 9999 ≤ 2 ^ 320; decide +kernel)
theorem x_sign (hl : l.stackTraces = false) (hw : isW cA D S (x, sl, rw, is, lst, sa) h (Sl, n, V, src)) {a m k : Int32} :
    mCx l yX6_sign cX6_sign 4 (some .int) (rmc 8 2 12) D (mT cA) [.ref x, .int a, .int m, .int k] h (mFi h (fun r h1 => ∃ i kk, i < 5 ∧ a = nI i ∧ isPt m k ∧ kk < 13 ∧ k = nI kk ∧ r = s3 (sgnAt (Sl i) m.toInt kk) ∧ isW cA D S (x, sl, rw, is, lst, sa) h1 (Sl, n, V, src)))
      (fun E h1 => h1 = h ∧ (E = eI ∧ ¬ inR a 5 ∨ E = eA ∧ inR a 5 ∧ ¬ isPt m k)) := by
  obtain ⟨T, P, G, Ln, hw⟩ := hw
  refine mEnter_x (by decide) (Nat.le_of_ble_eq_true rfl) rfl (fun z X Vz => ?_)
  refine zi_iload_n X dX6_sign_0 rfl rfl ?_
  refine zi_xcallSv X (x_requireSlot hl) kc_X6_requireSlot wm_X6_54 wst_X6_requireSlot ⟨Nat.le_of_ble_eq_true rfl, Nat.le_of_ble_eq_true rfl⟩ rfl rfl (Nat.le_of_ble_eq_true rfl) ⟨Nat.le_of_ble_eq_true rfl, Nat.le_of_ble_eq_true rfl⟩ dX6_sign_1 (fun E g e1 => zt_out X Vz (by obtain ⟨e1, e2, e3⟩ := e1; exact ⟨e2, Or.inl ⟨e1, e3⟩⟩) (by decide) (by decide)) (fun g e1 => ?_)
  obtain ⟨rfl, i, hi, rfl⟩ := e1
  refine zi_iload_n X dX6_sign_4 rfl rfl ?_
  refine zi_iload_n X dX6_sign_5 rfl rfl ?_
  refine zi_xcallSv X (x_requirePoint hl) kc_X6_requirePoint wm_X6_140 wst_X6_requirePoint ⟨Nat.le_of_ble_eq_true rfl, Nat.le_of_ble_eq_true rfl⟩ rfl rfl (Nat.le_of_ble_eq_true rfl) ⟨Nat.le_of_ble_eq_true rfl, Nat.le_of_ble_eq_true rfl⟩ dX6_sign_6 (fun E g e1 => zt_out X Vz (by obtain ⟨e1, e2, e3⟩ := e1; exact ⟨e2, Or.inr ⟨e1, rd_nI hi, e3⟩⟩) (by decide) (by decide)) (fun g e1 => ?_)
  obtain ⟨rfl, hp⟩ := e1
  obtain ⟨kk, hkk, rfl⟩ := pt_in hp
  have hbi := isWT_b hw hi
  obtain ⟨hx, hsl, hsa, hr, ho⟩ := isWT_own hw
  have k3 := hsa i hi
  refine zi_aload_n X dX6_sign_9 rfl rfl ?_
  refine zi_getf (C := RX6) (T := TX6) (N := 8) (ci := 10) X (by first | assumption | exact mup_self | (rw [mup_ne (by assumption)]; assumption) | (rw [mup_ne (by assumption)]; exact mup_self) | (rw [mup_ne (by assumption), mup_ne (by assumption)]; assumption)) rfl in_X6 3 (by decide) wf_X6_28 rfl rfl dX6_sign_10 ?_
  refine zi_aload_n X dX6_sign_13 rfl rfl ?_
  refine zi_getf (C := RX6) (T := TX6) (N := 8) (ci := 10) X (by first | assumption | exact mup_self | (rw [mup_ne (by assumption)]; assumption) | (rw [mup_ne (by assumption)]; exact mup_self) | (rw [mup_ne (by assumption), mup_ne (by assumption)]; assumption)) rfl in_X6 0 (by decide) wf_X6_11 rfl rfl dX6_sign_14 ?_
  refine zi_iload_n X dX6_sign_17 rfl rfl ?_
  refine zi_aaldA X 4 (by first | assumption | exact mup_self | (rw [mup_ne (by assumption)]; assumption) | (rw [mup_ne (by assumption)]; exact mup_self) | (rw [mup_ne (by assumption), mup_ne (by assumption)]; assumption)) rfl (vin hi (by decide)) (sl_at hi) dX6_sign_18 ?_
  refine zi_callVv X (q_becomeRow l D hw.1 (j := 0) (by decide) k3 (ho i hi)) kc_X4_becomeRow wm_X6_94 ((hP_p hw.1 (j := 0) (by decide)).1) rfl wim_X4_becomeRow wse_X4_becomeRow ⟨Nat.le_of_ble_eq_true rfl, Nat.le_of_ble_eq_true rfl⟩ rfl rfl (Nat.le_of_ble_eq_true rfl) ⟨Nat.le_of_ble_eq_true rfl, Nat.le_of_ble_eq_true rfl⟩ dX6_sign_19 (fun g2 e1 => ?_)
  obtain ⟨f1, h1⟩ := e1
  rw [row_P hbi] at h1
  have hw1 := isWT_alg hw f1 h1 (isoK_up hw.2.2.2.1 (fun k hk => ⟨updP_n (by omega), updN_n (by omega)⟩) rfl) (g3_up hw.2.2.2.2.2)
  have hx1 := hw1.2.2.1.1
  refine zi_aload_n X dX6_sign_22 rfl rfl ?_
  refine zi_getf (C := RX6) (T := TX6) (N := 8) (ci := 10) X (by first | assumption | exact mup_self | (rw [mup_ne (by assumption)]; assumption) | (rw [mup_ne (by assumption)]; exact mup_self) | (rw [mup_ne (by assumption), mup_ne (by assumption)]; assumption)) rfl in_X6 2 (by decide) wf_X6_21 rfl rfl dX6_sign_23 ?_
  refine zi_aload_n X dX6_sign_26 rfl rfl ?_
  refine zi_getf (C := RX6) (T := TX6) (N := 8) (ci := 10) X (by first | assumption | exact mup_self | (rw [mup_ne (by assumption)]; assumption) | (rw [mup_ne (by assumption)]; exact mup_self) | (rw [mup_ne (by assumption), mup_ne (by assumption)]; assumption)) rfl in_X6 3 (by decide) wf_X6_28 rfl rfl dX6_sign_27 ?_
  refine zi_iload_n X dX6_sign_30 rfl rfl ?_
  refine zi_iload_n X dX6_sign_31 rfl rfl ?_
  refine zi_callVi X (q_signAt l D h1 (j := 0) (k := kk) (M := MS) (X := 2 ^ 29) (by decide) (by rw [updN_s, updP_s]) (by rw [updP_s]; exact b9_MS hbi) (pt_X hp) (by omega) (two_X (by omega)) X_BB MS_X) kc_X0_signAt wm_X6_148 (hP_a h1) rfl wim_X0_signAt wse_X0_signAt ⟨Nat.le_of_ble_eq_true rfl, Nat.le_of_ble_eq_true rfl⟩ rfl rfl (Nat.le_of_ble_eq_true rfl) ⟨Nat.le_of_ble_eq_true rfl, Nat.le_of_ble_eq_true rfl⟩ dX6_sign_32 (fun y g3 e1 => ?_)
  obtain ⟨f3, h3, e3⟩ := e1
  rw [updP_s] at e3
  subst e3
  refine zi_xireturn X Vz dX6_sign_35 ?_
  exact ⟨i, kk, hi, rfl, hp, by omega, rfl, rfl, T, _, _, _, isWT_alg hw1 f3 h3 hw1.2.2.2.1 hw1.2.2.2.2.2⟩
theorem x_distinctRoots (hl : l.stackTraces = false) (hz : SzAll) (hw : isW cA D S (x, sl, rw, is, lst, sa) h (Sl, n, V, src)) {a : Int32} :
    mCx l yX6_distinctRoots cX6_distinctRoots 2 (some .int) (rmc 8 2 12) D (mT cA) [.ref x, .int a] h (mFi h (fun r h1 => ∃ i, i < 5 ∧ a = nI i ∧ stI (Sl i) 7 ≠ 0 ∧ r = iI (dR (Sl i)) ∧ isW cA D S (x, sl, rw, is, lst, sa) h1 (Sl, n, V, src)))
      (fun E h1 => isW cA D S (x, sl, rw, is, lst, sa) h1 (Sl, n, V, src) ∧ (E = eI ∧ ¬ inR a 5 ∨ E = eM ∧ ∃ i, i < 5 ∧ a = nI i ∧ stI (Sl i) 7 = 0)) := by
  have hw0 := hw
  obtain ⟨T, P, G, Ln, hw⟩ := hw
  refine mEnter_x (by decide) (Nat.le_of_ble_eq_true rfl) rfl (fun z X Vz => ?_)
  refine zi_iload_n X dX6_distinctRoots_0 rfl rfl ?_
  refine zi_xcallSv X (x_requireSlot hl) kc_X6_requireSlot wm_X6_54 wst_X6_requireSlot ⟨Nat.le_of_ble_eq_true rfl, Nat.le_of_ble_eq_true rfl⟩ rfl rfl (Nat.le_of_ble_eq_true rfl) ⟨Nat.le_of_ble_eq_true rfl, Nat.le_of_ble_eq_true rfl⟩ dX6_distinctRoots_1 (fun E g e1 => zt_out X Vz (by obtain ⟨e1, e2, e3⟩ := e1; exact ⟨isW_same hw0 e2, Or.inl ⟨e1, e3⟩⟩) (by decide) (by decide)) (fun g e1 => ?_)
  obtain ⟨rfl, i, hi, rfl⟩ := e1
  have hx := hw.2.2.1.1
  refine zi_aload_n X dX6_distinctRoots_4 rfl rfl ?_
  refine zi_iload_n X dX6_distinctRoots_5 rfl rfl ?_
  refine zi_xcallVv X (x_requireNotZero hl hw.2.2.1 hi) kc_X6_requireNotZero wm_X6_106 hx rfl wim_X6_requireNotZero wse_X6_requireNotZero ⟨Nat.le_of_ble_eq_true rfl, Nat.le_of_ble_eq_true rfl⟩ rfl rfl (Nat.le_of_ble_eq_true rfl) ⟨Nat.le_of_ble_eq_true rfl, Nat.le_of_ble_eq_true rfl⟩ dX6_distinctRoots_6 (fun E g1 e1 => zt_out X Vz (by obtain ⟨e1, e2, e3⟩ := e1; exact ⟨isW_same hw0 e2, Or.inr ⟨e1, i, hi, rfl, e3⟩⟩) (by decide) (by decide)) (fun g1 e1 => ?_)
  obtain ⟨rfl, h0⟩ := e1
  have hx := hw.2.2.1.1
  refine zi_aload_n X dX6_distinctRoots_9 rfl rfl ?_
  refine zi_iload_n X dX6_distinctRoots_10 rfl rfl ?_
  refine zi_callVv X (x_buildSequence l hz hw hi h0) kc_X6_buildSequence wm_X6_113 hx rfl wim_X6_buildSequence wse_X6_buildSequence ⟨Nat.le_of_ble_eq_true rfl, Nat.le_of_ble_eq_true rfl⟩ rfl rfl (Nat.le_of_ble_eq_true rfl) ⟨Nat.le_of_ble_eq_true rfl, Nat.le_of_ble_eq_true rfl⟩ dX6_distinctRoots_11 (fun g2 e1 => ?_)
  obtain ⟨P2, G2, L2, hw2, -, -, sq⟩ := e1
  have hx2 := hw2.2.2.1.1
  have oE := sq_ok sq (okE_of hz (isWT_b hw hi) h0)
  have n1 : (Int32.toInt (-32768)) = -32768 := by decide
  have n2 : (Int32.toInt 32768) = 32768 := by decide
  have m1 : (Int32.toInt (-32768)).natAbs ≤ 2 ^ 29 := by decide
  have m2 : (Int32.toInt 32768).natAbs ≤ 2 ^ 29 := by decide
  refine zi_aload_n X dX6_distinctRoots_14 rfl rfl ?_
  refine zi_getf (C := RX6) (T := TX6) (N := 8) (ci := 10) X (by first | assumption | exact mup_self | (rw [mup_ne (by assumption)]; assumption) | (rw [mup_ne (by assumption)]; exact mup_self) | (rw [mup_ne (by assumption), mup_ne (by assumption)]; assumption)) rfl in_X6 2 (by decide) wf_X6_21 rfl rfl dX6_distinctRoots_15 ?_
  refine zi_aload_n X dX6_distinctRoots_18 rfl rfl ?_
  refine zi_getf (C := RX6) (T := TX6) (N := 8) (ci := 10) X (by first | assumption | exact mup_self | (rw [mup_ne (by assumption)]; assumption) | (rw [mup_ne (by assumption)]; exact mup_self) | (rw [mup_ne (by assumption), mup_ne (by assumption)]; assumption)) rfl in_X6 6 (by decide) wf_X6_41 rfl rfl dX6_distinctRoots_19 ?_
  refine zi_sipush (v := (-32768)) X dX6_distinctRoots_22 (by decide) ?_
  refine zi_iconst (v := (nI 0)) X dX6_distinctRoots_25 (by decide) ?_
  refine zi_callVi X (q_changesAt l D hw2.1 (q := 0) (k := 0) (M := MS) (X := 2 ^ 29) (by decide) oE m1 (by omega) (by decide) X_BB MS_X) kc_X0_changesAt wm_X6_144 (hP_a hw2.1) rfl wim_X0_changesAt wse_X0_changesAt ⟨Nat.le_of_ble_eq_true rfl, Nat.le_of_ble_eq_true rfl⟩ rfl rfl (Nat.le_of_ble_eq_true rfl) ⟨Nat.le_of_ble_eq_true rfl, Nat.le_of_ble_eq_true rfl⟩ dX6_distinctRoots_26 (fun y g3 e1 => ?_)
  obtain ⟨f3, h3, rfl⟩ := e1
  have hw3 := isWT_alg hw2 f3 h3 hw2.2.2.2.1 hw2.2.2.2.2.2
  have hx3 := hw3.2.2.1.1
  rw [sq_C sq, n1]
  refine zi_aload_n X dX6_distinctRoots_29 rfl rfl ?_
  refine zi_getf (C := RX6) (T := TX6) (N := 8) (ci := 10) X (by first | assumption | exact mup_self | (rw [mup_ne (by assumption)]; assumption) | (rw [mup_ne (by assumption)]; exact mup_self) | (rw [mup_ne (by assumption), mup_ne (by assumption)]; assumption)) rfl in_X6 2 (by decide) wf_X6_21 rfl rfl dX6_distinctRoots_30 ?_
  refine zi_aload_n X dX6_distinctRoots_33 rfl rfl ?_
  refine zi_getf (C := RX6) (T := TX6) (N := 8) (ci := 10) X (by first | assumption | exact mup_self | (rw [mup_ne (by assumption)]; assumption) | (rw [mup_ne (by assumption)]; exact mup_self) | (rw [mup_ne (by assumption), mup_ne (by assumption)]; assumption)) rfl in_X6 6 (by decide) wf_X6_41 rfl rfl dX6_distinctRoots_34 ?_
  refine zi_ldc X wk_X6_170 dX6_distinctRoots_37 ?_
  refine zi_iconst (v := (nI 0)) X dX6_distinctRoots_39 (by decide) ?_
  refine zi_callVi X (q_changesAt l D hw3.1 (q := 0) (k := 0) (M := MS) (X := 2 ^ 29) (by decide) oE m2 (by omega) (by decide) X_BB MS_X) kc_X0_changesAt wm_X6_144 (hP_a hw3.1) rfl wim_X0_changesAt wse_X0_changesAt ⟨Nat.le_of_ble_eq_true rfl, Nat.le_of_ble_eq_true rfl⟩ rfl rfl (Nat.le_of_ble_eq_true rfl) ⟨Nat.le_of_ble_eq_true rfl, Nat.le_of_ble_eq_true rfl⟩ dX6_distinctRoots_40 (fun y g4 e1 => ?_)
  obtain ⟨f4, h4, rfl⟩ := e1
  rw [sq_C sq, n2]
  refine zi_isub X dX6_distinctRoots_43 ?_
  rw [nn_sub]
  refine zi_xireturn X Vz dX6_distinctRoots_44 ?_
  exact ⟨i, hi, rfl, h0, rfl, T, P2, G2, L2, isWT_alg hw3 f4 h4 hw3.2.2.2.1 hw3.2.2.2.2.2⟩
theorem x_coefficientSignChanges (hl : l.stackTraces = false) (hw : isW cA D S (x, sl, rw, is, lst, sa) h (Sl, n, V, src)) {a : Int32} :
    mCx l yX6_coefficientSignChanges cX6_coefficientSignChanges 2 (some .int) (rmc 7 1 6) D (mT cA) [.ref x, .int a] h (mFi h (fun r h1 => ∃ i, i < 5 ∧ a = nI i ∧ r = nI (cS (Sl i)) ∧ isW cA D S (x, sl, rw, is, lst, sa) h1 (Sl, n, V, src)))
      (fun E h1 => h1 = h ∧ E = eI ∧ ¬ inR a 5) := by
  obtain ⟨T, P, G, Ln, hw⟩ := hw
  refine mEnter_x (by decide) (Nat.le_of_ble_eq_true rfl) rfl (fun z X Vz => ?_)
  refine zi_iload_n X dX6_coefficientSignChanges_0 rfl rfl ?_
  refine zi_xcallSv X (x_requireSlot hl) kc_X6_requireSlot wm_X6_54 wst_X6_requireSlot ⟨Nat.le_of_ble_eq_true rfl, Nat.le_of_ble_eq_true rfl⟩ rfl rfl (Nat.le_of_ble_eq_true rfl) ⟨Nat.le_of_ble_eq_true rfl, Nat.le_of_ble_eq_true rfl⟩ dX6_coefficientSignChanges_1 (fun E g e1 => zt_out X Vz (by obtain ⟨e1, e2, e3⟩ := e1; exact ⟨e2, e1, e3⟩) (by decide) (by decide)) (fun g e1 => ?_)
  obtain ⟨rfl, i, hi, rfl⟩ := e1
  have hbi := isWT_b hw hi
  obtain ⟨hx, hsl, hsa, hr, ho⟩ := isWT_own hw
  have k3 := hsa i hi
  refine zi_aload_n X dX6_coefficientSignChanges_4 rfl rfl ?_
  refine zi_getf (C := RX6) (T := TX6) (N := 8) (ci := 10) X (by first | assumption | exact mup_self | (rw [mup_ne (by assumption)]; assumption) | (rw [mup_ne (by assumption)]; exact mup_self) | (rw [mup_ne (by assumption), mup_ne (by assumption)]; assumption)) rfl in_X6 3 (by decide) wf_X6_28 rfl rfl dX6_coefficientSignChanges_5 ?_
  refine zi_aload_n X dX6_coefficientSignChanges_8 rfl rfl ?_
  refine zi_getf (C := RX6) (T := TX6) (N := 8) (ci := 10) X (by first | assumption | exact mup_self | (rw [mup_ne (by assumption)]; assumption) | (rw [mup_ne (by assumption)]; exact mup_self) | (rw [mup_ne (by assumption), mup_ne (by assumption)]; assumption)) rfl in_X6 0 (by decide) wf_X6_11 rfl rfl dX6_coefficientSignChanges_9 ?_
  refine zi_iload_n X dX6_coefficientSignChanges_12 rfl rfl ?_
  refine zi_aaldA X 4 (by first | assumption | exact mup_self | (rw [mup_ne (by assumption)]; assumption) | (rw [mup_ne (by assumption)]; exact mup_self) | (rw [mup_ne (by assumption), mup_ne (by assumption)]; assumption)) rfl (vin hi (by decide)) (sl_at hi) dX6_coefficientSignChanges_13 ?_
  refine zi_callVv X (q_becomeRow l D hw.1 (j := 0) (by decide) k3 (ho i hi)) kc_X4_becomeRow wm_X6_94 ((hP_p hw.1 (j := 0) (by decide)).1) rfl wim_X4_becomeRow wse_X4_becomeRow ⟨Nat.le_of_ble_eq_true rfl, Nat.le_of_ble_eq_true rfl⟩ rfl rfl (Nat.le_of_ble_eq_true rfl) ⟨Nat.le_of_ble_eq_true rfl, Nat.le_of_ble_eq_true rfl⟩ dX6_coefficientSignChanges_14 (fun g2 e1 => ?_)
  obtain ⟨f1, h1⟩ := e1
  rw [row_P hbi] at h1
  have hw1 := isWT_alg hw f1 h1 (isoK_up hw.2.2.2.1 (fun k hk => ⟨updP_n (by omega), updN_n (by omega)⟩) rfl) (g3_up hw.2.2.2.2.2)
  have hx1 := hw1.2.2.1.1
  refine zi_aload_n X dX6_coefficientSignChanges_17 rfl rfl ?_
  refine zi_getf (C := RX6) (T := TX6) (N := 8) (ci := 10) X (by first | assumption | exact mup_self | (rw [mup_ne (by assumption)]; assumption) | (rw [mup_ne (by assumption)]; exact mup_self) | (rw [mup_ne (by assumption), mup_ne (by assumption)]; assumption)) rfl in_X6 3 (by decide) wf_X6_28 rfl rfl dX6_coefficientSignChanges_18 ?_
  refine zi_callVi X (q_coefficientChanges l D h1 (j := 0) (by decide) (by rw [updN_s]; exact stI_le _ _)) kc_X4_coefficientChanges wm_X6_171 ((hP_p h1 (j := 0) (by decide)).1) rfl wim_X4_coefficientChanges wse_X4_coefficientChanges ⟨Nat.le_of_ble_eq_true rfl, Nat.le_of_ble_eq_true rfl⟩ rfl rfl (Nat.le_of_ble_eq_true rfl) ⟨Nat.le_of_ble_eq_true rfl, Nat.le_of_ble_eq_true rfl⟩ dX6_coefficientSignChanges_21 (fun y g3 e1 => ?_)
  obtain ⟨rfl, e3⟩ := e1
  rw [updP_s, updN_s] at e3
  subst e3
  refine zi_xireturn X Vz dX6_coefficientSignChanges_24 ?_
  exact ⟨i, hi, rfl, rfl, T, _, _, _, hw1⟩
end X6L
