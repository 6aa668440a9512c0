/-! SturmRoots: gcd, squareFreePart, sturmLength, signChanges, sign, distinctRoots, coefficientSignChanges -/
theorem wr_ok {v : Int} (hv : v.natAbs < BB ^ 20) : ((wr v).toInt.natAbs ≤ 9999 ↔ v.natAbs ≤ 9999) ∧ (v.natAbs ≤ 9999 → (wr v).toInt = v) := by
  have hB : BB = 1073741824 := rfl
  have e1 : BB ^ 1 = 1073741824 := rfl
  unfold wr
  by_cases c : blen v.natAbs ≤ 1
  · rw [if_pos c]
    have h1 : v.natAbs < 1073741824 := by
      have h2 := blen_lt hv
      have h3 : BB ^ blen v.natAbs ≤ BB ^ 1 := Nat.pow_le_pow_right (by decide) c
      omega
    rw [lV_int (by omega)]
    exact ⟨Iff.rfl, fun _ => rfl⟩
  · rw [if_neg c]
    have h1 : ¬ v.natAbs ≤ 9999 := fun w => c (blen_le_of hv (by omega))
    have h2 : (Int64.toInt 10000).natAbs = 10000 := by decide
    exact ⟨⟨fun w => by omega, fun w => absurd w h1⟩, fun w => absurd w h1⟩
/-- the number of distinct roots, as the program counts it -/
def dR (p : Nat → Int) : Int := (stC p (-32768) 0 : Int) - stC p 32768 0
/-- sign changes of coefficients -/
def cS (p : Nat → Int) : Nat := (chg (fun i => (p i).sign) (stI p 7)).2
section X6K
variable {cA : Nat → ClassId} {D : va_G} {S : Nat → Nat → Nat} {h : mH} {x sl rw is lst n : Nat} {sa : Nat → Nat} {Sl : Nat → Nat → Int} {V : Nat → Iv} {src : Nat → Int} {l : Launch} {T : Nat → Prop} {P : Nat → Nat → Int} {G Ln : Nat → Nat}
theorem isWT_own (hw : isWT cA D S (x, sl, rw, is, lst, sa) h (Sl, n, V, src) T P G Ln) : h x = some (xO S sl rw is) ∧ h sl = some (qA (cA 4) 5 (fun i => if i < 5 then some (sa i) else none)) ∧ (∀ i, i < 5 → h (sa i) = some (slotA (cA 0) (Sl i))) ∧ (∃ g, h rw = some (rowA (cA 1) g)) ∧ ∀ i, i < 5 → hOut S (sa i) := by
  obtain ⟨hx, hsl, hsa, hr, hinj, hbb, r1, r2, r3, r4⟩ := hw.2.2.1
  exact ⟨hx, hsl, hsa, hr, fun i hi => hOut_own (r4 i hi)⟩
theorem x_gcd (hl : l.stackTraces = false) (hz : SzAll) (hw : isW cA D S (x, sl, rw, is, lst, sa) h (Sl, n, V, src)) {a b c : Int32} :
    mCx l yX6_gcd cX6_gcd 4 (some .int) (rmc 8 4 24) D (mT cA) [.ref x, .int a, .int b, .int c] h (mFi h (fun r h1 => ∃ i j k, i < 5 ∧ a = nI i ∧ j < 5 ∧ b = nI j ∧ k < 5 ∧ c = nI k ∧ st9 (gcdP (Sl i) (Sl j)) ∧ r = iI (sDeg (gcdP (Sl i) (Sl j))) ∧ isW cA D S (x, sl, rw, is, lst, sa) h1 (setS Sl k (tr (gcdP (Sl i) (Sl j))), n, V, src)))
      (fun E h1 => isW cA D S (x, sl, rw, is, lst, sa) h1 (Sl, n, V, src) ∧ (E = eI ∧ (¬ inR a 5 ∨ ¬ inR b 5 ∨ ¬ inR c 5) ∨ E = eS ∧ ∃ i j k, i < 5 ∧ a = nI i ∧ j < 5 ∧ b = nI j ∧ k < 5 ∧ c = nI k ∧ ¬ st9 (gcdP (Sl i) (Sl j)))) := by
  have hw0 := hw
  obtain ⟨T, P, G, Ln, hw⟩ := hw
  refine mEnter_x (by decide) (Nat.le_of_ble_eq_true rfl) rfl (fun z X Vz => ?_)
  refine zi_iload_n X dX6_gcd_0 rfl rfl ?_
  refine zi_xcallSv X (x_requireSlot hl) kc_X6_requireSlot wm_X6_54 wst_X6_requireSlot ⟨Nat.le_of_ble_eq_true rfl, Nat.le_of_ble_eq_true rfl⟩ rfl rfl (Nat.le_of_ble_eq_true rfl) ⟨Nat.le_of_ble_eq_true rfl, Nat.le_of_ble_eq_true rfl⟩ dX6_gcd_1 (fun E g e1 => zt_out X Vz (by obtain ⟨e1, e2, e3⟩ := e1; exact ⟨isW_same hw0 e2, Or.inl ⟨e1, Or.inl e3⟩⟩) (by decide) (by decide)) (fun g e1 => ?_)
  obtain ⟨rfl, i, hi, rfl⟩ := e1
  refine zi_iload_n X dX6_gcd_4 rfl rfl ?_
  refine zi_xcallSv X (x_requireSlot hl) kc_X6_requireSlot wm_X6_54 wst_X6_requireSlot ⟨Nat.le_of_ble_eq_true rfl, Nat.le_of_ble_eq_true rfl⟩ rfl rfl (Nat.le_of_ble_eq_true rfl) ⟨Nat.le_of_ble_eq_true rfl, Nat.le_of_ble_eq_true rfl⟩ dX6_gcd_5 (fun E g1 e1 => zt_out X Vz (by obtain ⟨e1, e2, e3⟩ := e1; exact ⟨isW_same hw0 e2, Or.inl ⟨e1, Or.inr (Or.inl e3)⟩⟩) (by decide) (by decide)) (fun g1 e1 => ?_)
  obtain ⟨rfl, j, hj, rfl⟩ := e1
  refine zi_iload_n X dX6_gcd_8 rfl rfl ?_
  refine zi_xcallSv X (x_requireSlot hl) kc_X6_requireSlot wm_X6_54 wst_X6_requireSlot ⟨Nat.le_of_ble_eq_true rfl, Nat.le_of_ble_eq_true rfl⟩ rfl rfl (Nat.le_of_ble_eq_true rfl) ⟨Nat.le_of_ble_eq_true rfl, Nat.le_of_ble_eq_true rfl⟩ dX6_gcd_9 (fun E g1 e1 => zt_out X Vz (by obtain ⟨e1, e2, e3⟩ := e1; exact ⟨isW_same hw0 e2, Or.inl ⟨e1, Or.inr (Or.inr e3)⟩⟩) (by decide) (by decide)) (fun g1 e1 => ?_)
  obtain ⟨rfl, k, hk, rfl⟩ := e1
  have hbi := isWT_b hw hi
  have hbj := isWT_b hw hj
  obtain ⟨hx, hsl, hsa, hr, ho⟩ := isWT_own hw
  have k3 := hsa i hi
  refine zi_aload_n X dX6_gcd_12 rfl rfl ?_
  refine zi_getf (C := RX6) (T := TX6) (N := 8) (ci := 10) X (by first | assumption | exact mup_self | (rw [mup_ne (by assumption)]; assumption) | (rw [mup_ne (by assumption)]; exact mup_self) | (rw [mup_ne (by assumption), mup_ne (by assumption)]; assumption)) rfl in_X6 3 (by decide) wf_X6_28 rfl rfl dX6_gcd_13 ?_
  refine zi_aload_n X dX6_gcd_16 rfl rfl ?_
  refine zi_getf (C := RX6) (T := TX6) (N := 8) (ci := 10) X (by first | assumption | exact mup_self | (rw [mup_ne (by assumption)]; assumption) | (rw [mup_ne (by assumption)]; exact mup_self) | (rw [mup_ne (by assumption), mup_ne (by assumption)]; assumption)) rfl in_X6 0 (by decide) wf_X6_11 rfl rfl dX6_gcd_17 ?_
  refine zi_iload_n X dX6_gcd_20 rfl rfl ?_
  refine zi_aaldA X 4 (by first | assumption | exact mup_self | (rw [mup_ne (by assumption)]; assumption) | (rw [mup_ne (by assumption)]; exact mup_self) | (rw [mup_ne (by assumption), mup_ne (by assumption)]; assumption)) rfl (vin hi (by decide)) (sl_at hi) dX6_gcd_21 ?_
  refine zi_callVv X (q_becomeRow l D hw.1 (j := 0) (by decide) k3 (ho i hi)) kc_X4_becomeRow wm_X6_94 ((hP_p hw.1 (j := 0) (by decide)).1) rfl wim_X4_becomeRow wse_X4_becomeRow ⟨Nat.le_of_ble_eq_true rfl, Nat.le_of_ble_eq_true rfl⟩ rfl rfl (Nat.le_of_ble_eq_true rfl) ⟨Nat.le_of_ble_eq_true rfl, Nat.le_of_ble_eq_true rfl⟩ dX6_gcd_22 (fun g2 e1 => ?_)
  obtain ⟨f1, h1⟩ := e1
  rw [row_P hbi] at h1
  have hw1 := isWT_alg hw f1 h1 (isoK_up hw.2.2.2.1 (fun k hk => ⟨updP_n (by omega), updN_n (by omega)⟩) rfl) (g3_up hw.2.2.2.2.2)
  obtain ⟨hx1, hsl1, hsa1, hr1, ho1⟩ := isWT_own hw1
  have k4 := hsa1 j hj
  refine zi_aload_n X dX6_gcd_25 rfl rfl ?_
  refine zi_getf (C := RX6) (T := TX6) (N := 8) (ci := 10) X (by first | assumption | exact mup_self | (rw [mup_ne (by assumption)]; assumption) | (rw [mup_ne (by assumption)]; exact mup_self) | (rw [mup_ne (by assumption), mup_ne (by assumption)]; assumption)) rfl in_X6 4 (by decide) wf_X6_32 rfl rfl dX6_gcd_26 ?_
  refine zi_aload_n X dX6_gcd_29 rfl rfl ?_
  refine zi_getf (C := RX6) (T := TX6) (N := 8) (ci := 10) X (by first | assumption | exact mup_self | (rw [mup_ne (by assumption)]; assumption) | (rw [mup_ne (by assumption)]; exact mup_self) | (rw [mup_ne (by assumption), mup_ne (by assumption)]; assumption)) rfl in_X6 0 (by decide) wf_X6_11 rfl rfl dX6_gcd_30 ?_
  refine zi_iload_n X dX6_gcd_33 rfl rfl ?_
  refine zi_aaldA X 4 (by first | assumption | exact mup_self | (rw [mup_ne (by assumption)]; assumption) | (rw [mup_ne (by assumption)]; exact mup_self) | (rw [mup_ne (by assumption), mup_ne (by assumption)]; assumption)) rfl (vin hj (by decide)) (sl_at hj) dX6_gcd_34 ?_
  refine zi_callVv X (q_becomeRow l D h1 (j := 1) (by decide) k4 (ho1 j hj)) kc_X4_becomeRow wm_X6_94 ((hP_p h1 (j := 1) (by decide)).1) rfl wim_X4_becomeRow wse_X4_becomeRow ⟨Nat.le_of_ble_eq_true rfl, Nat.le_of_ble_eq_true rfl⟩ rfl rfl (Nat.le_of_ble_eq_true rfl) ⟨Nat.le_of_ble_eq_true rfl, Nat.le_of_ble_eq_true rfl⟩ dX6_gcd_35 (fun g3 e1 => ?_)
  obtain ⟨f2, h2⟩ := e1
  rw [row_P hbj] at h2
  have hw2 := isWT_alg hw1 f2 h2 (isoK_up hw1.2.2.2.1 (fun k hk => ⟨updP_n (by omega), updN_n (by omega)⟩) rfl) (g3_up hw1.2.2.2.2.2)
  obtain ⟨hx2, hsl2, hsa2, hr2, ho2⟩ := isWT_own hw2
  have p1 : updP (updP P 0 (Sl i)) 1 (Sl j) 1 = Sl j := updP_s
  have p0 : updP (updP P 0 (Sl i)) 1 (Sl j) 0 = Sl i := by rw [updP_n (by decide), updP_s]
  have g1' : updN (updN G 0 (stI (Sl i) 7)) 1 (stI (Sl j) 7) 1 = stI (Sl j) 7 := updN_s
  have g0' : updN (updN G 0 (stI (Sl i) 7)) 1 (stI (Sl j) 7) 0 = stI (Sl i) 7 := by rw [updN_n (by decide), updN_s]
  generalize updP (updP P 0 (Sl i)) 1 (Sl j) = P2 at h2 hw2 p0 p1
  generalize updN (updN G 0 (stI (Sl i) 7)) 1 (stI (Sl j) 7) = G2 at h2 hw2 g0' g1'
  have b18 : ∀ s, bnd9 s → ∀ u, u < 7 → (s u).natAbs < BB ^ 18 := fun s hs u hu => Nat.lt_of_le_of_lt (hs.1 u hu) (by show 9999 < (2 ^ 30) ^ 18; decide)
  refine zi_aload_n X dX6_gcd_38 rfl rfl ?_
  refine zi_getf (C := RX6) (T := TX6) (N := 8) (ci := 10) X (by first | assumption | exact mup_self | (rw [mup_ne (by assumption)]; assumption) | (rw [mup_ne (by assumption)]; exact mup_self) | (rw [mup_ne (by assumption), mup_ne (by assumption)]; assumption)) rfl in_X6 2 (by decide) wf_X6_21 rfl rfl dX6_gcd_39 ?_
  refine zi_aload_n X dX6_gcd_42 rfl rfl ?_
  refine zi_getf (C := RX6) (T := TX6) (N := 8) (ci := 10) X (by first | assumption | exact mup_self | (rw [mup_ne (by assumption)]; assumption) | (rw [mup_ne (by assumption)]; exact mup_self) | (rw [mup_ne (by assumption), mup_ne (by assumption)]; assumption)) rfl in_X6 3 (by decide) wf_X6_28 rfl rfl dX6_gcd_43 ?_
  refine zi_aload_n X dX6_gcd_46 rfl rfl ?_
  refine zi_getf (C := RX6) (T := TX6) (N := 8) (ci := 10) X (by first | assumption | exact mup_self | (rw [mup_ne (by assumption)]; assumption) | (rw [mup_ne (by assumption)]; exact mup_self) | (rw [mup_ne (by assumption), mup_ne (by assumption)]; assumption)) rfl in_X6 4 (by decide) wf_X6_32 rfl rfl dX6_gcd_47 ?_
  refine zi_aload_n X dX6_gcd_50 rfl rfl ?_
  refine zi_getf (C := RX6) (T := TX6) (N := 8) (ci := 10) X (by first | assumption | exact mup_self | (rw [mup_ne (by assumption)]; assumption) | (rw [mup_ne (by assumption)]; exact mup_self) | (rw [mup_ne (by assumption), mup_ne (by assumption)]; assumption)) rfl in_X6 5 (by decide) wf_X6_35 rfl rfl dX6_gcd_51 ?_
  refine zi_callVv X (q_writeCommonDivisor l D h2 (a := 0) (b := 1) (c := 2) (by decide) (by decide) (by decide) (by rw [g0', p0]) (by rw [g1', p1]) (by rw [p0]; exact b18 _ hbi) (by rw [p1]; exact b18 _ hbj) (by rw [p0, p1]; exact hz.2 _ _ hbi hbj)) kc_X0_writeCommonDivisor wm_X6_98 (hP_a h2) rfl wim_X0_writeCommonDivisor wse_X0_writeCommonDivisor ⟨Nat.le_of_ble_eq_true rfl, Nat.le_of_ble_eq_true rfl⟩ rfl rfl (Nat.le_of_ble_eq_true rfl) ⟨Nat.le_of_ble_eq_true rfl, Nat.le_of_ble_eq_true rfl⟩ dX6_gcd_54 (fun g4 e1 => ?_)
  obtain ⟨f3, P3, G3, h3, u3, p3, q3⟩ := e1
  rw [p0, p1] at p3 q3
  have hw3 := isWT_alg hw2 f3 h3 (isoK_up hw2.2.2.2.1 (fun k hk => u3 k (by simp; omega)) rfl) (g3_to hw2.2.2.2.2.2 u3 (fun k h1 h2 => by have : k = 2 := by { simp at h2; omega }; rw [this, q3, p3]))
  obtain ⟨hx3, hsl3, hsa3, ⟨r0, hr3⟩, ho3⟩ := isWT_own hw3
  refine zi_aload_n X dX6_gcd_57 rfl rfl ?_
  refine zi_getf (C := RX6) (T := TX6) (N := 8) (ci := 10) X (by first | assumption | exact mup_self | (rw [mup_ne (by assumption)]; assumption) | (rw [mup_ne (by assumption)]; exact mup_self) | (rw [mup_ne (by assumption), mup_ne (by assumption)]; assumption)) rfl in_X6 5 (by decide) wf_X6_35 rfl rfl dX6_gcd_58 ?_
  refine zi_aload_n X dX6_gcd_61 rfl rfl ?_
  refine zi_getf (C := RX6) (T := TX6) (N := 8) (ci := 10) X (by first | assumption | exact mup_self | (rw [mup_ne (by assumption)]; assumption) | (rw [mup_ne (by assumption)]; exact mup_self) | (rw [mup_ne (by assumption), mup_ne (by assumption)]; assumption)) rfl in_X6 1 (by decide) wf_X6_14 rfl rfl dX6_gcd_62 ?_
  refine zi_callVv X (q_writeRow l D h3 (j := 2) (by decide) hr3) kc_X4_writeRow wm_X6_102 ((hP_p h3 (j := 2) (by decide)).1) rfl wim_X4_writeRow wse_X4_writeRow ⟨Nat.le_of_ble_eq_true rfl, Nat.le_of_ble_eq_true rfl⟩ rfl rfl (Nat.le_of_ble_eq_true rfl) ⟨Nat.le_of_ble_eq_true rfl, Nat.le_of_ble_eq_true rfl⟩ dX6_gcd_65 (fun g5 e1 => ?_)
  subst e1
  rw [p3]
  have hw5 := isWT_row hw3 (fun i_1 => if i_1 < 7 then wr (gcdP (Sl i) (Sl j) i_1) else r0 i_1)
  have hx5 := hw5.2.2.1.1
  have lt3 : ∀ u, u < 7 → (gcdP (Sl i) (Sl j) u).natAbs < BB ^ 20 := fun u hu => by rw [← p3]; exact hP_lt h3 (by decide) hu
  refine zi_aload_n X dX6_gcd_68 rfl rfl ?_
  refine zi_xcallVv X (x_requireStorable l hl D hx5 mup_self) kc_X6_requireStorable wm_X6_79 hx5 rfl wim_X6_requireStorable wse_X6_requireStorable ⟨Nat.le_of_ble_eq_true rfl, Nat.le_of_ble_eq_true rfl⟩ rfl rfl (Nat.le_of_ble_eq_true rfl) ⟨Nat.le_of_ble_eq_true rfl, Nat.le_of_ble_eq_true rfl⟩ dX6_gcd_69 (fun E g6 e1 => zt_out X Vz (by obtain ⟨e1, e2, e3⟩ := e1; rw [e2]; exact ⟨⟨T, P3, G3, _, hw5⟩, Or.inr ⟨e1, i, j, k, hi, rfl, hj, rfl, hk, rfl, fun w => e3 (fun u hu => by rw [if_pos hu]; exact (wr_ok (lt3 u hu)).1.mpr (w u hu))⟩⟩) (by decide) (by decide)) (fun g6 e1 => ?_)
  obtain ⟨rfl, e1⟩ := e1
  have hr9 : st9 (gcdP (Sl i) (Sl j)) := fun u hu => by
    have := e1 u hu
    rw [if_pos hu] at this
    exact (wr_ok (lt3 u hu)).1.mp this
  refine zi_aload_n X dX6_gcd_72 rfl rfl ?_
  refine zi_iload_n X dX6_gcd_73 rfl rfl ?_
  refine zi_callVi X (x_storeRow l D hw5.2.2.1 hk mup_self (r := gcdP (Sl i) (Sl j)) (fun u hu => (by rw [if_pos hu]; exact (wr_ok (lt3 u hu)).2 (hr9 u hu))) hr9) kc_X6_storeRow wm_X6_75 hx5 rfl wim_X6_storeRow wse_X6_storeRow ⟨Nat.le_of_ble_eq_true rfl, Nat.le_of_ble_eq_true rfl⟩ rfl rfl (Nat.le_of_ble_eq_true rfl) ⟨Nat.le_of_ble_eq_true rfl, Nat.le_of_ble_eq_true rfl⟩ dX6_gcd_74 (fun y g6 e1 => ?_)
  obtain ⟨rfl, rfl⟩ := e1
  refine zi_xireturn X Vz dX6_gcd_77 ?_
  exact ⟨i, j, k, hi, rfl, hj, rfl, hk, rfl, hr9, rfl, T, P3, G3, _, isWT_set hw5 hk hr9⟩
theorem x_squareFreePart (hl : l.stackTraces = false) (hz : SzAll) (hw : isW cA D S (x, sl, rw, is, lst, sa) h (Sl, n, V, src)) {a b : Int32} :
    mCx l yX6_squareFreePart cX6_squareFreePart 3 (some .int) (rmc 8 4 24) D (mT cA) [.ref x, .int a, .int b] h (mFi h (fun r h1 => ∃ i k, i < 5 ∧ a = nI i ∧ k < 5 ∧ b = nI k ∧ stI (Sl i) 7 ≠ 0 ∧ st9 (sqfP (Sl i)) ∧ r = iI (sDeg (sqfP (Sl i))) ∧ isW cA D S (x, sl, rw, is, lst, sa) h1 (setS Sl k (tr (sqfP (Sl i))), n, V, src)))
      (fun E h1 => isW cA D S (x, sl, rw, is, lst, sa) h1 (Sl, n, V, src) ∧ (E = eI ∧ (¬ inR a 5 ∨ ¬ inR b 5) ∨ E = eM ∧ inR b 5 ∧ (∃ i, i < 5 ∧ a = nI i ∧ stI (Sl i) 7 = 0) ∨ E = eS ∧ ∃ i k, i < 5 ∧ a = nI i ∧ k < 5 ∧ b = nI k ∧ stI (Sl i) 7 ≠ 0 ∧ ¬ st9 (sqfP (Sl i)))) := by
  have hw0 := hw
  obtain ⟨T, P, G, Ln, hw⟩ := hw
  refine mEnter_x (by decide) (Nat.le_of_ble_eq_true rfl) rfl (fun z X Vz => ?_)
  refine zi_iload_n X dX6_squareFreePart_0 rfl rfl ?_
  refine zi_xcallSv X (x_requireSlot hl) kc_X6_requireSlot wm_X6_54 wst_X6_requireSlot ⟨Nat.le_of_ble_eq_true rfl, Nat.le_of_ble_eq_true rfl⟩ rfl rfl (Nat.le_of_ble_eq_true rfl) ⟨Nat.le_of_ble_eq_true rfl, Nat.le_of_ble_eq_true rfl⟩ dX6_squareFreePart_1 (fun E g e1 => zt_out X Vz (by obtain ⟨e1, e2, e3⟩ := e1; exact ⟨isW_same hw0 e2, Or.inl ⟨e1, Or.inl e3⟩⟩) (by decide) (by decide)) (fun g e1 => ?_)
  obtain ⟨rfl, i, hi, rfl⟩ := e1
  refine zi_iload_n X dX6_squareFreePart_4 rfl rfl ?_
  refine zi_xcallSv X (x_requireSlot hl) kc_X6_requireSlot wm_X6_54 wst_X6_requireSlot ⟨Nat.le_of_ble_eq_true rfl, Nat.le_of_ble_eq_true rfl⟩ rfl rfl (Nat.le_of_ble_eq_true rfl) ⟨Nat.le_of_ble_eq_true rfl, Nat.le_of_ble_eq_true rfl⟩ dX6_squareFreePart_5 (fun E g1 e1 => zt_out X Vz (by obtain ⟨e1, e2, e3⟩ := e1; exact ⟨isW_same hw0 e2, Or.inl ⟨e1, Or.inr e3⟩⟩) (by decide) (by decide)) (fun g1 e1 => ?_)
  obtain ⟨rfl, k, hk, rfl⟩ := e1
  have hx := hw.2.2.1.1
  refine zi_aload_n X dX6_squareFreePart_8 rfl rfl ?_
  refine zi_iload_n X dX6_squareFreePart_9 rfl rfl ?_
  refine zi_xcallVv X (x_requireNotZero hl hw.2.2.1 hi) kc_X6_requireNotZero wm_X6_106 hx rfl wim_X6_requireNotZero wse_X6_requireNotZero ⟨Nat.le_of_ble_eq_true rfl, Nat.le_of_ble_eq_true rfl⟩ rfl rfl (Nat.le_of_ble_eq_true rfl) ⟨Nat.le_of_ble_eq_true rfl, Nat.le_of_ble_eq_true rfl⟩ dX6_squareFreePart_10 (fun E g1 e1 => zt_out X Vz (by obtain ⟨e1, e2, e3⟩ := e1; exact ⟨isW_same hw0 e2, Or.inr (Or.inl ⟨e1, rd_nI hk, i, hi, rfl, e3⟩)⟩) (by decide) (by decide)) (fun g1 e1 => ?_)
  obtain ⟨rfl, h0⟩ := e1
  have hbi := isWT_b hw hi
  obtain ⟨hx, hsl, hsa, hr, ho⟩ := isWT_own hw
  have k3 := hsa i hi
  refine zi_aload_n X dX6_squareFreePart_13 rfl rfl ?_
  refine zi_getf (C := RX6) (T := TX6) (N := 8) (ci := 10) X (by first | assumption | exact mup_self | (rw [mup_ne (by assumption)]; assumption) | (rw [mup_ne (by assumption)]; exact mup_self) | (rw [mup_ne (by assumption), mup_ne (by assumption)]; assumption)) rfl in_X6 3 (by decide) wf_X6_28 rfl rfl dX6_squareFreePart_14 ?_
  refine zi_aload_n X dX6_squareFreePart_17 rfl rfl ?_
  refine zi_getf (C := RX6) (T := TX6) (N := 8) (ci := 10) X (by first | assumption | exact mup_self | (rw [mup_ne (by assumption)]; assumption) | (rw [mup_ne (by assumption)]; exact mup_self) | (rw [mup_ne (by assumption), mup_ne (by assumption)]; assumption)) rfl in_X6 0 (by decide) wf_X6_11 rfl rfl dX6_squareFreePart_18 ?_
  refine zi_iload_n X dX6_squareFreePart_21 rfl rfl ?_
  refine zi_aaldA X 4 (by first | assumption | exact mup_self | (rw [mup_ne (by assumption)]; assumption) | (rw [mup_ne (by assumption)]; exact mup_self) | (rw [mup_ne (by assumption), mup_ne (by assumption)]; assumption)) rfl (vin hi (by decide)) (sl_at hi) dX6_squareFreePart_22 ?_
  refine zi_callVv X (q_becomeRow l D hw.1 (j := 0) (by decide) k3 (ho i hi)) kc_X4_becomeRow wm_X6_94 ((hP_p hw.1 (j := 0) (by decide)).1) rfl wim_X4_becomeRow wse_X4_becomeRow ⟨Nat.le_of_ble_eq_true rfl, Nat.le_of_ble_eq_true rfl⟩ rfl rfl (Nat.le_of_ble_eq_true rfl) ⟨Nat.le_of_ble_eq_true rfl, Nat.le_of_ble_eq_true rfl⟩ dX6_squareFreePart_23 (fun g2 e1 => ?_)
  obtain ⟨f1, h1⟩ := e1
  rw [row_P hbi] at h1
  have hw1 := isWT_alg hw f1 h1 (isoK_up hw.2.2.2.1 (fun k hk => ⟨updP_n (by omega), updN_n (by omega)⟩) rfl) (g3_up hw.2.2.2.2.2)
  obtain ⟨hx1, hsl1, hsa1, hr1, ho1⟩ := isWT_own hw1
  have p0 : updP P 0 (Sl i) 0 = Sl i := updP_s
  have g0' : updN G 0 (stI (Sl i) 7) 0 = stI (Sl i) 7 := updN_s
  have ok := (hz.1 _ hbi h0).2.1
  obtain ⟨F, H, d1, d2, d3⟩ := ok.2.2.1.2.2
  generalize updP P 0 (Sl i) = P2 at h1 hw1 p0
  generalize updN G 0 (stI (Sl i) 7) = G2 at h1 hw1 g0'
  refine zi_aload_n X dX6_squareFreePart_26 rfl rfl ?_
  refine zi_getf (C := RX6) (T := TX6) (N := 8) (ci := 10) X (by first | assumption | exact mup_self | (rw [mup_ne (by assumption)]; assumption) | (rw [mup_ne (by assumption)]; exact mup_self) | (rw [mup_ne (by assumption), mup_ne (by assumption)]; assumption)) rfl in_X6 2 (by decide) wf_X6_21 rfl rfl dX6_squareFreePart_27 ?_
  refine zi_aload_n X dX6_squareFreePart_30 rfl rfl ?_
  refine zi_getf (C := RX6) (T := TX6) (N := 8) (ci := 10) X (by first | assumption | exact mup_self | (rw [mup_ne (by assumption)]; assumption) | (rw [mup_ne (by assumption)]; exact mup_self) | (rw [mup_ne (by assumption), mup_ne (by assumption)]; assumption)) rfl in_X6 3 (by decide) wf_X6_28 rfl rfl dX6_squareFreePart_31 ?_
  refine zi_aload_n X dX6_squareFreePart_34 rfl rfl ?_
  refine zi_getf (C := RX6) (T := TX6) (N := 8) (ci := 10) X (by first | assumption | exact mup_self | (rw [mup_ne (by assumption)]; assumption) | (rw [mup_ne (by assumption)]; exact mup_self) | (rw [mup_ne (by assumption), mup_ne (by assumption)]; assumption)) rfl in_X6 5 (by decide) wf_X6_35 rfl rfl dX6_squareFreePart_35 ?_
  refine zi_callVv X (q_writeSquareFree l D h1 (a := 0) (c := 2) (F := F) (H := H) (by decide) (by decide) (by decide) (by rw [g0', p0]) (hw1.2.2.2.2.2 2 (by decide)) (by rw [p0]; exact ok.1.1) (by rw [p0]; exact ok.1.2.1) (by rw [p0]; exact ok.2.2.1.1) (by rw [p0, g0']; exact ok.2.2.1.2.1) (by rw [p0]; exact d1) (by rw [p0]; exact d2) (by rw [p0, g0']; exact d3)) kc_X0_writeSquareFree wm_X6_109 (hP_a h1) rfl wim_X0_writeSquareFree wse_X0_writeSquareFree ⟨Nat.le_of_ble_eq_true rfl, Nat.le_of_ble_eq_true rfl⟩ rfl rfl (Nat.le_of_ble_eq_true rfl) ⟨Nat.le_of_ble_eq_true rfl, Nat.le_of_ble_eq_true rfl⟩ dX6_squareFreePart_38 (fun g4 e1 => ?_)
  obtain ⟨f3, P3, G3, h3, u3, p3, q3⟩ := e1
  rw [p0] at p3 q3
  have hw3 := isWT_alg hw1 f3 h3 (isoK_up hw1.2.2.2.1 (fun k hk => u3 k (by simp; omega)) rfl) (g3_to hw1.2.2.2.2.2 u3 (fun k h1 h2 => by have : k = 2 := by { simp at h2; omega }; rw [this, q3, p3]))
  obtain ⟨hx3, hsl3, hsa3, ⟨r0, hr3⟩, ho3⟩ := isWT_own hw3
  refine zi_aload_n X dX6_squareFreePart_41 rfl rfl ?_
  refine zi_getf (C := RX6) (T := TX6) (N := 8) (ci := 10) X (by first | assumption | exact mup_self | (rw [mup_ne (by assumption)]; assumption) | (rw [mup_ne (by assumption)]; exact mup_self) | (rw [mup_ne (by assumption), mup_ne (by assumption)]; assumption)) rfl in_X6 5 (by decide) wf_X6_35 rfl rfl dX6_squareFreePart_42 ?_
  refine zi_aload_n X dX6_squareFreePart_45 rfl rfl ?_
  refine zi_getf (C := RX6) (T := TX6) (N := 8) (ci := 10) X (by first | assumption | exact mup_self | (rw [mup_ne (by assumption)]; assumption) | (rw [mup_ne (by assumption)]; exact mup_self) | (rw [mup_ne (by assumption), mup_ne (by assumption)]; assumption)) rfl in_X6 1 (by decide) wf_X6_14 rfl rfl dX6_squareFreePart_46 ?_
  refine zi_callVv X (q_writeRow l D h3 (j := 2) (by decide) hr3) kc_X4_writeRow wm_X6_102 ((hP_p h3 (j := 2) (by decide)).1) rfl wim_X4_writeRow wse_X4_writeRow ⟨Nat.le_of_ble_eq_true rfl, Nat.le_of_ble_eq_true rfl⟩ rfl rfl (Nat.le_of_ble_eq_true rfl) ⟨Nat.le_of_ble_eq_true rfl, Nat.le_of_ble_eq_true rfl⟩ dX6_squareFreePart_49 (fun g5 e1 => ?_)
  subst e1
  rw [p3]
  have hw5 := isWT_row hw3 (fun i_1 => if i_1 < 7 then wr (sqfP (Sl i) i_1) else r0 i_1)
  have hx5 := hw5.2.2.1.1
  have lt3 : ∀ u, u < 7 → (sqfP (Sl i) u).natAbs < BB ^ 20 := fun u hu => by rw [← p3]; exact hP_lt h3 (by decide) hu
  refine zi_aload_n X dX6_squareFreePart_52 rfl rfl ?_
  refine zi_xcallVv X (x_requireStorable l hl D hx5 mup_self) kc_X6_requireStorable wm_X6_79 hx5 rfl wim_X6_requireStorable wse_X6_requireStorable ⟨Nat.le_of_ble_eq_true rfl, Nat.le_of_ble_eq_true rfl⟩ rfl rfl (Nat.le_of_ble_eq_true rfl) ⟨Nat.le_of_ble_eq_true rfl, Nat.le_of_ble_eq_true rfl⟩ dX6_squareFreePart_53 (fun E g6 e1 => zt_out X Vz (by obtain ⟨e1, e2, e3⟩ := e1; rw [e2]; exact ⟨⟨T, P3, G3, _, hw5⟩, Or.inr (Or.inr ⟨e1, i, k, hi, rfl, hk, rfl, h0, fun w => e3 (fun u hu => by rw [if_pos hu]; exact (wr_ok (lt3 u hu)).1.mpr (w u hu))⟩)⟩) (by decide) (by decide)) (fun g6 e1 => ?_)
  obtain ⟨rfl, e1⟩ := e1
  have hr9 : st9 (sqfP (Sl i)) := fun u hu => by
    have := e1 u hu
    rw [if_pos hu] at this
    exact (wr_ok (lt3 u hu)).1.mp this
  refine zi_aload_n X dX6_squareFreePart_56 rfl rfl ?_
  refine zi_iload_n X dX6_squareFreePart_57 rfl rfl ?_
  refine zi_callVi X (x_storeRow l D hw5.2.2.1 hk mup_self (r := sqfP (Sl i)) (fun u hu => (by rw [if_pos hu]; exact (wr_ok (lt3 u hu)).2 (hr9 u hu))) hr9) kc_X6_storeRow wm_X6_75 hx5 rfl wim_X6_storeRow wse_X6_storeRow ⟨Nat.le_of_ble_eq_true rfl, Nat.le_of_ble_eq_true rfl⟩ rfl rfl (Nat.le_of_ble_eq_true rfl) ⟨Nat.le_of_ble_eq_true rfl, Nat.le_of_ble_eq_true rfl⟩ dX6_squareFreePart_58 (fun y g6 e1 => ?_)
  obtain ⟨rfl, rfl⟩ := e1
  refine zi_xireturn X Vz dX6_squareFreePart_61 ?_
  exact ⟨i, k, hi, rfl, hk, rfl, h0, hr9, rfl, T, P3, G3, _, isWT_set hw5 hk hr9⟩
end X6K
