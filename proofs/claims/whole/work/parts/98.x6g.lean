/-! SturmRoots: derivative, scale, shift -/
/-- coefficient i times f to the power (degree - i) -/
def scP (s : Nat → Int) (f : Int) : Nat → Int := fun k => if k < stI s 7 then s k * f ^ (stI s 7 - 1 - k) else s k
def shI (by_ : Int) (r : Nat → Int) (i : Nat) : Nat → Int := fun k => if k = i then r i + by_ * r (i + 1) else r k
/-- from 5 down to first -/
def shL (by_ : Int) : Nat → (Nat → Int) → Nat → Nat → Int
  | 0, r, _ => r
  | m + 1, r, first => shL by_ m (shI by_ r (first + m)) first
/-- for first .. 5 -/
def shO (by_ : Int) : Nat → (Nat → Int) → Nat → Int
  | 0, r => r
  | m + 1, r => shO by_ m (shL by_ (m + 1) r (5 - m))
/-- p(x + by) -/
def shP (s : Nat → Int) (by_ : Int) : Nat → Int := shO by_ 6 s
section X6G
variable {cA : Nat → ClassId} {D : va_G} {S : Nat → Nat → Nat} {h : mH} {x sl rw is lst n : Nat} {sa : Nat → Nat} {Sl : Nat → Nat → Int} {V : Nat → Iv} {src : Nat → Int} {l : Launch}
theorem x_derivative (hl : l.stackTraces = false) (hw : isW cA D S (x, sl, rw, is, lst, sa) h (Sl, n, V, src)) {a b : Int32} :
    mCx l yX6_derivative cX6_derivative 4 (some .int) (rmc 7 3 18) D (mT cA) [.ref x, .int a, .int b] h (mFi h (fun r h1 => ∃ i k, i < 5 ∧ a = nI i ∧ k < 5 ∧ b = nI k ∧ st9 (derI (Sl i)) ∧ r = iI (sDeg (derI (Sl i))) ∧ isW cA D S (x, sl, rw, is, lst, sa) h1 (setS Sl k (tr (derI (Sl i))), n, V, src)))
      (fun E h1 => isW cA D S (x, sl, rw, is, lst, sa) h1 (Sl, n, V, src) ∧ (E = eI ∧ (¬ inR a 5 ∨ ¬ inR b 5) ∨ E = eS ∧ ∃ i k, i < 5 ∧ a = nI i ∧ k < 5 ∧ b = nI k ∧ ¬ st9 (derI (Sl i)))) := by
  have hw0 := hw
  obtain ⟨T, P, G, Ln, hw⟩ := hw
  have hb := hw.2.2.1.2.2.2.2.2.1
  have hx := hw.2.2.1.1
  refine mEnter_x (by decide) (Nat.le_of_ble_eq_true rfl) rfl (fun z X Vz => ?_)
  refine zi_iload_n X dX6_derivative_0 rfl rfl ?_
  refine zi_xcallSv X (x_requireSlot hl) kc_X6_requireSlot wm_X6_54 wst_X6_requireSlot ⟨Nat.le_of_ble_eq_true rfl, Nat.le_of_ble_eq_true rfl⟩ rfl rfl (Nat.le_of_ble_eq_true rfl) ⟨Nat.le_of_ble_eq_true rfl, Nat.le_of_ble_eq_true rfl⟩ dX6_derivative_1 (fun E g e1 => zt_out X Vz (by obtain ⟨e1, e2, e3⟩ := e1; exact ⟨isW_same hw0 e2, Or.inl ⟨e1, Or.inl e3⟩⟩) (by decide) (by decide)) (fun g e1 => ?_)
  obtain ⟨rfl, i, hi, rfl⟩ := e1
  refine zi_iload_n X dX6_derivative_4 rfl rfl ?_
  refine zi_xcallSv X (x_requireSlot hl) kc_X6_requireSlot wm_X6_54 wst_X6_requireSlot ⟨Nat.le_of_ble_eq_true rfl, Nat.le_of_ble_eq_true rfl⟩ rfl rfl (Nat.le_of_ble_eq_true rfl) ⟨Nat.le_of_ble_eq_true rfl, Nat.le_of_ble_eq_true rfl⟩ dX6_derivative_5 (fun E g1 e1 => zt_out X Vz (by obtain ⟨e1, e2, e3⟩ := e1; exact ⟨isW_same hw0 e2, Or.inl ⟨e1, Or.inr e3⟩⟩) (by decide) (by decide)) (fun g1 e1 => ?_)
  obtain ⟨rfl, k, hk, rfl⟩ := e1
  obtain ⟨q0, hq0⟩ := hw.2.2.1.2.2.2.1
  refine zi_aload_n X dX6_derivative_8 rfl rfl ?_
  refine zi_callVv X (x_clearRow l D hx hq0) kc_X6_clearRow wm_X6_87 hx rfl wim_X6_clearRow wse_X6_clearRow ⟨Nat.le_of_ble_eq_true rfl, Nat.le_of_ble_eq_true rfl⟩ rfl rfl (Nat.le_of_ble_eq_true rfl) ⟨Nat.le_of_ble_eq_true rfl, Nat.le_of_ble_eq_true rfl⟩ dX6_derivative_9 (fun g2 e1 => ?_)
  obtain ⟨q1, rfl, hq1⟩ := e1
  refine zi_iconst (v := (nI 1)) X dX6_derivative_12 (by decide) ?_
  refine zi_istore_n X dX6_derivative_13 rfl (by decide) ?_
  have dI : ∀ t, t < 6 → derI (Sl i) t = ((t : Int) + 1) * Sl i (t + 1) := fun t ht => by unfold derI; rw [if_pos ht, Int.mul_comm]
  have dB : ∀ t, t < 7 → (derI (Sl i) t).natAbs < 9223372036854775808 := fun t ht => by
    by_cases c : t < 6
    · rw [dI t c, Int.natAbs_mul]
      have h1 := hb i (t + 1) hi (by omega)
      have h2 : ((t : Int) + 1).natAbs ≤ 6 := by omega
      have := Nat.mul_le_mul h2 h1
      omega
    · unfold derI; rw [if_neg c]; decide
  have loop : ∀ m t, t + 1 + m = 7 → ∀ q : Nat → Int64, (∀ u, u < 7 → q u = lI (if u < t then derI (Sl i) u else 0)) → zM z (0 + 1 + 1) (0 + 6 + 6) 14 [some (.ref x), some (.int (nI i)), some (.int (nI k)), some (.int (nI (t + 1)))] [] (mup g1 rw (rowA (cA 1) q)) := by
    intro m
    induction m with
    | zero =>
      intro t ht q hq
      have : t = 6 := by omega
      subst this
      have c17 : nI 7 ≤ nI (6 + 1) := by decide
      have hw2 := isWT_row hw q
      have hx2 := hw2.2.2.1.1
      have hq9 : ∀ u, u < 7 → (q u).toInt = derI (Sl i) u := fun u hu => by
        rw [hq u hu]
        by_cases c : u < 6
        · rw [if_pos c, lI_int (dB u hu)]
        · rw [if_neg c]; unfold derI; rw [if_neg c]; rfl
      refine zi_iload_n X dX6_derivative_14 rfl rfl ?_
      refine zi_bipush (v := (nI 7)) X dX6_derivative_15 (by decide) ?_
      refine zi_icmp_ge (tgt := 46) X dX6_derivative_17 (by decide) (fun c_17 => ?_) (fun c_17 => (by first | exact absurd c17 c_17 | exact absurd c_17 c17))
      refine zi_aload_n X dX6_derivative_46 rfl rfl ?_
      refine zi_xcallVv X (x_requireStorable l hl D hx2 mup_self) kc_X6_requireStorable wm_X6_79 hx2 rfl wim_X6_requireStorable wse_X6_requireStorable ⟨Nat.le_of_ble_eq_true rfl, Nat.le_of_ble_eq_true rfl⟩ rfl rfl (Nat.le_of_ble_eq_true rfl) ⟨Nat.le_of_ble_eq_true rfl, Nat.le_of_ble_eq_true rfl⟩ dX6_derivative_47 (fun E g3 e1 => zt_out X Vz (by obtain ⟨e1, e2, e3⟩ := e1; rw [e2]; exact ⟨⟨T, P, G, Ln, hw2⟩, Or.inr ⟨e1, i, k, hi, rfl, hk, rfl, fun w => e3 (fun u hu => by rw [hq9 u hu]; exact w u hu)⟩⟩) (by decide) (by decide)) (fun g3 e1 => ?_)
      obtain ⟨rfl, e1⟩ := e1
      have hr9 : st9 (derI (Sl i)) := fun u hu => by rw [← hq9 u hu]; exact e1 u hu
      refine zi_aload_n X dX6_derivative_50 rfl rfl ?_
      refine zi_iload_n X dX6_derivative_51 rfl rfl ?_
      refine zi_callVi X (x_storeRow l D hw2.2.2.1 hk mup_self hq9 hr9) kc_X6_storeRow wm_X6_75 hx2 rfl wim_X6_storeRow wse_X6_storeRow ⟨Nat.le_of_ble_eq_true rfl, Nat.le_of_ble_eq_true rfl⟩ rfl rfl (Nat.le_of_ble_eq_true rfl) ⟨Nat.le_of_ble_eq_true rfl, Nat.le_of_ble_eq_true rfl⟩ dX6_derivative_52 (fun y g3 e1 => ?_)
      obtain ⟨rfl, rfl⟩ := e1
      refine zi_xireturn X Vz dX6_derivative_55 ?_
      exact ⟨i, k, hi, rfl, hk, rfl, hr9, rfl, T, P, G, Ln, isWT_set hw2 hk hr9⟩
    | succ m ih =>
      intro t ht q hq
      obtain ⟨hx2, hsl, hsa, -⟩ := (isWT_row hw q).2.2.1
      have k2 : mup g1 rw (rowA (cA 1) q) rw = some (rowA (cA 1) q) := mup_self
      have k3 := hsa i hi
      have hin0 : vp_in (nI (t + 1)) 7 := vin (by omega) (by decide)
      have hin : vp_in (nI t) 7 := vin (by omega) (by decide)
      refine zi_iload_n X dX6_derivative_14 rfl rfl ?_
      refine zi_bipush (v := (nI 7)) X dX6_derivative_15 (by decide) ?_
      refine zi_icmp_ge (tgt := 46) X dX6_derivative_17 (by decide) (fun c_17 => (by first | exact absurd (c7 (by omega)) c_17 | exact absurd c_17 (c7 (by omega)))) (fun c_17 => ?_)
      refine zi_aload_n X dX6_derivative_20 rfl rfl ?_
      refine zi_getf (C := RX6) (T := TX6) (N := 8) (ci := 10) X (by first | assumption | exact mup_self | (rw [mup_ne (by assumption)]; assumption) | (rw [mup_ne (by assumption)]; exact mup_self) | (rw [mup_ne (by assumption), mup_ne (by assumption)]; assumption)) rfl in_X6 1 (by decide) wf_X6_14 rfl rfl dX6_derivative_21 ?_
      refine zi_iload_n X dX6_derivative_24 rfl rfl ?_
      refine zi_iconst (v := (nI 1)) X dX6_derivative_25 (by decide) ?_
      refine zi_isub X dX6_derivative_26 ?_
      rw [nI_pr]
      refine zi_iload_n X dX6_derivative_27 rfl rfl ?_
      refine zi_i2l X dX6_derivative_28 ?_
      refine zi_aload_n X dX6_derivative_29 rfl rfl ?_
      refine zi_getf (C := RX6) (T := TX6) (N := 8) (ci := 10) X (by first | assumption | exact mup_self | (rw [mup_ne (by assumption)]; assumption) | (rw [mup_ne (by assumption)]; exact mup_self) | (rw [mup_ne (by assumption), mup_ne (by assumption)]; assumption)) rfl in_X6 0 (by decide) wf_X6_11 rfl rfl dX6_derivative_30 ?_
      refine zi_iload_n X dX6_derivative_33 rfl rfl ?_
      refine zi_aaldA X 4 (by first | assumption | exact mup_self | (rw [mup_ne (by assumption)]; assumption) | (rw [mup_ne (by assumption)]; exact mup_self) | (rw [mup_ne (by assumption), mup_ne (by assumption)]; assumption)) rfl (vin hi (by decide)) (sl_at hi) dX6_derivative_34 ?_
      refine zi_iload_n X dX6_derivative_35 rfl rfl ?_
      refine zi_iald X 0 (by first | assumption | exact mup_self | (rw [mup_ne (by assumption)]; assumption) | (rw [mup_ne (by assumption)]; exact mup_self) | (rw [mup_ne (by assumption), mup_ne (by assumption)]; assumption)) rfl (by assumption) dX6_derivative_36 ?_
      refine zi_i2l X dX6_derivative_37 ?_
      refine zi_lmul X dX6_derivative_38 ?_
      rw [nI_cl (by omega : t + 1 < 2147483648), if_pos (by omega), iI_nat (t + 1), iI_lI (v := Sl i (t + 1)) (by have := hb i (t + 1) hi (by omega); omega), iI_lI (v := ((t + 1 : Nat) : Int)) (by omega), lI_mul]
      refine zi_last X 1 (by first | assumption | exact mup_self | (rw [mup_ne (by assumption)]; assumption) | (rw [mup_ne (by assumption)]; exact mup_self) | (rw [mup_ne (by assumption), mup_ne (by assumption)]; assumption)) rfl (by assumption) dX6_derivative_39 ?_
      rw [mup_mup, nI_cl (by omega : t < 2147483648)]
      refine zi_iinc (v := nI ((t + 1) + 1)) X dX6_derivative_40 rfl (nI_inc _) (by decide) ?_
      refine zi_goto (tgt := 14) X dX6_derivative_43 (by decide) ?_
      refine ih (t + 1) (by omega) (vp_updL q t (lI (((t + 1 : Nat) : Int) * Sl i (t + 1)))) (fun u hu => ?_)
      by_cases c : u = t
      · rw [c, vpL_s, if_pos (by omega), dI t (by omega)]; rfl
      · rw [vpL_n c, hq u hu]
        by_cases c2 : u < t
        · rw [if_pos c2, if_pos (by omega)]
        · rw [if_neg c2, if_neg (by omega)]
  exact loop 6 0 rfl q1 (fun u hu => by rw [if_neg (Nat.not_lt_zero _)]; exact hq1 u hu)
theorem x_scale (hl : l.stackTraces = false) (hw : isW cA D S (x, sl, rw, is, lst, sa) h (Sl, n, V, src)) {a f b : Int32} :
    mCx l yX6_scale cX6_scale 7 (some .int) (rmc 7 3 18) D (mT cA) [.ref x, .int a, .int f, .int b] h (mFi h (fun r h1 => ∃ i k, i < 5 ∧ a = nI i ∧ k < 5 ∧ b = nI k ∧ (2 ≤ f.toInt ∧ f.toInt ≤ 9) ∧ st9 (scP (Sl i) f.toInt) ∧ r = iI (sDeg (scP (Sl i) f.toInt)) ∧ isW cA D S (x, sl, rw, is, lst, sa) h1 (setS Sl k (tr (scP (Sl i) f.toInt)), n, V, src)))
      (fun E h1 => isW cA D S (x, sl, rw, is, lst, sa) h1 (Sl, n, V, src) ∧ (E = eI ∧ (¬ inR a 5 ∨ ¬ inR b 5) ∨ E = eA ∧ inR a 5 ∧ inR b 5 ∧ ¬ (2 ≤ f.toInt ∧ f.toInt ≤ 9) ∨ E = eS ∧ ∃ i k, i < 5 ∧ a = nI i ∧ k < 5 ∧ b = nI k ∧ (2 ≤ f.toInt ∧ f.toInt ≤ 9) ∧ ¬ st9 (scP (Sl i) f.toInt))) := by
  have hw0 := hw
  obtain ⟨T, P, G, Ln, hw⟩ := hw
  have hb := hw.2.2.1.2.2.2.2.2.1
  have hx := hw.2.2.1.1
  have a1 : (nI 2).toInt = 2 := by decide
  have a2 : (nI 9).toInt = 9 := by decide
  refine mEnter_x (by decide) (Nat.le_of_ble_eq_true rfl) rfl (fun z X Vz => ?_)
  refine zi_iload_n X dX6_scale_0 rfl rfl ?_
  refine zi_xcallSv X (x_requireSlot hl) kc_X6_requireSlot wm_X6_54 wst_X6_requireSlot ⟨Nat.le_of_ble_eq_true rfl, Nat.le_of_ble_eq_true rfl⟩ rfl rfl (Nat.le_of_ble_eq_true rfl) ⟨Nat.le_of_ble_eq_true rfl, Nat.le_of_ble_eq_true rfl⟩ dX6_scale_1 (fun E g e1 => zt_out X Vz (by obtain ⟨e1, e2, e3⟩ := e1; exact ⟨isW_same hw0 e2, Or.inl ⟨e1, Or.inl e3⟩⟩) (by decide) (by decide)) (fun g e1 => ?_)
  obtain ⟨rfl, i, hi, rfl⟩ := e1
  refine zi_iload_n X dX6_scale_4 rfl rfl ?_
  refine zi_xcallSv X (x_requireSlot hl) kc_X6_requireSlot wm_X6_54 wst_X6_requireSlot ⟨Nat.le_of_ble_eq_true rfl, Nat.le_of_ble_eq_true rfl⟩ rfl rfl (Nat.le_of_ble_eq_true rfl) ⟨Nat.le_of_ble_eq_true rfl, Nat.le_of_ble_eq_true rfl⟩ dX6_scale_5 (fun E g1 e1 => zt_out X Vz (by obtain ⟨e1, e2, e3⟩ := e1; exact ⟨isW_same hw0 e2, Or.inl ⟨e1, Or.inr e3⟩⟩) (by decide) (by decide)) (fun g1 e1 => ?_)
  obtain ⟨rfl, k, hk, rfl⟩ := e1
  refine zi_iload_n X dX6_scale_8 rfl rfl ?_
  refine zi_iconst (v := (nI 2)) X dX6_scale_9 (by decide) ?_
  refine zi_icmp_lt (tgt := 19) X dX6_scale_10 (by decide) (fun c_10 => ?_) (fun c_10 => ?_)
  · refine zi_throwS hl X Vz xok_X6_65 xs_X6_92 dX6_scale_19 dX6_scale_22 dX6_scale_23 dX6_scale_25 dX6_scale_28 (Nat.le_of_ble_eq_true rfl) (Nat.le_of_ble_eq_true rfl) (Nat.le_of_ble_eq_true rfl) (Nat.le_of_ble_eq_true rfl) (Nat.le_of_ble_eq_true rfl) (Nat.le_of_ble_eq_true rfl) ⟨hw0, Or.inr (Or.inl ⟨rfl, rd_nI hi, rd_nI hk, fun q => by have := (fa_lt _ _).mp c_10; rw [a1] at this; omega⟩)⟩
  · have b1 := (fa_le _ _).mp (Int32.not_lt.mp c_10)
    rw [a1] at b1
    refine zi_iload_n X dX6_scale_13 rfl rfl ?_
    refine zi_bipush (v := (nI 9)) X dX6_scale_14 (by decide) ?_
    refine zi_icmp_le (tgt := 29) X dX6_scale_16 (by decide) (fun c_16 => ?_) (fun c_16 => ?_)
    · have b2 := (fa_le _ _).mp c_16
      rw [a2] at b2
      obtain ⟨F, hF⟩ : ∃ F, F = f.toInt := ⟨_, rfl⟩
      have ef : f.toInt64 = lI F := by rw [hF]; exact lI_of (i32_i64 f)
      rw [← hF] at b1 b2
      refine zi_aload_n X dX6_scale_29 rfl rfl ?_
      refine zi_iload_n X dX6_scale_30 rfl rfl ?_
      refine zi_callVv X (x_readRow l D hw.2.2.1 hi) kc_X6_readRow wm_X6_72 hx rfl wim_X6_readRow wse_X6_readRow ⟨Nat.le_of_ble_eq_true rfl, Nat.le_of_ble_eq_true rfl⟩ rfl rfl (Nat.le_of_ble_eq_true rfl) ⟨Nat.le_of_ble_eq_true rfl, Nat.le_of_ble_eq_true rfl⟩ dX6_scale_31 (fun g2 e1 => ?_)
      obtain ⟨r, rfl, hr⟩ := e1
      obtain ⟨hx2, hsl, hsa, -⟩ := (isWT_row hw r).2.2.1
      have k3 := hsa i hi
      refine zi_lconst (v := lN 1) X dX6_scale_34 (by decide) ?_
      refine zi_lstore X dX6_scale_35 (by decide) ?_
      refine zi_aload_n X dX6_scale_37 rfl rfl ?_
      refine zi_getf (C := RX6) (T := TX6) (N := 8) (ci := 10) X (by first | assumption | exact mup_self | (rw [mup_ne (by assumption)]; assumption) | (rw [mup_ne (by assumption)]; exact mup_self) | (rw [mup_ne (by assumption), mup_ne (by assumption)]; assumption)) rfl in_X6 0 (by decide) wf_X6_11 rfl rfl dX6_scale_38 ?_
      refine zi_iload_n X dX6_scale_41 rfl rfl ?_
      refine zi_aaldA X 4 (by first | assumption | exact mup_self | (rw [mup_ne (by assumption)]; assumption) | (rw [mup_ne (by assumption)]; exact mup_self) | (rw [mup_ne (by assumption), mup_ne (by assumption)]; assumption)) rfl (vin hi (by decide)) (sl_at hi) dX6_scale_42 ?_
      refine zi_callSi X (x_degreeOf l D k3 (fun t ht => hb i t hi ht)) kc_X6_degreeOf wm_X6_68 wst_X6_degreeOf ⟨Nat.le_of_ble_eq_true rfl, Nat.le_of_ble_eq_true rfl⟩ rfl rfl (Nat.le_of_ble_eq_true rfl) ⟨Nat.le_of_ble_eq_true rfl, Nat.le_of_ble_eq_true rfl⟩ dX6_scale_43 (fun y g3 e1 => ?_)
      obtain ⟨rfl, rfl⟩ := e1
      refine zi_istore X dX6_scale_46 (by decide) ?_
      have hst := stI_le (Sl i) 7
      have pB : ∀ e, e ≤ 7 → (F ^ e).natAbs ≤ 9 ^ 7 := fun e he => by
        rw [Int.natAbs_pow]
        exact Nat.le_trans (Nat.pow_le_pow_left (by omega) e) (Nat.pow_le_pow_right (by decide) he)
      have sB : ∀ t, t < 7 → (scP (Sl i) F t).natAbs < 9223372036854775808 := fun t ht => by
        have h1 := hb i t hi ht
        unfold scP
        split
        · rw [Int.natAbs_mul]
          have := Nat.mul_le_mul h1 (pB (stI (Sl i) 7 - 1 - t) (by omega))
          omega
        · omega
      have loop : ∀ m, m ≤ stI (Sl i) 7 → ∀ q : Nat → Int64, (∀ u, u < 7 → q u = lI (if m ≤ u then scP (Sl i) F u else Sl i u)) → zM z (0 + 1 + 1) (0 + 6 + 6) 48 [some (.ref x), some (.int (nI i)), some (.int f), some (.int (nI k)), some (.long (lI (F ^ (stI (Sl i) 7 - m)))), none, some (.int (nI m - nI 1))] [] (mup g1 rw (rowA (cA 1) q)) := by
        intro m
        induction m with
        | zero =>
          intro _ q hq
          have c50 : nI 0 - nI 1 < 0 := by decide
          have hw2 := isWT_row hw q
          have hx2 := hw2.2.2.1.1
          have hq9 : ∀ u, u < 7 → (q u).toInt = scP (Sl i) F u := fun u hu => by rw [hq u hu, if_pos (Nat.zero_le _), lI_int (sB u hu)]
          refine zi_iload X dX6_scale_48 rfl ?_
          refine zi_if_lt (tgt := 78) X dX6_scale_50 (by decide) (fun c_50 => ?_) (fun c_50 => (by first | exact absurd c50 c_50 | exact absurd c_50 c50))
          refine zi_aload_n X dX6_scale_78 rfl rfl ?_
          refine zi_xcallVv X (x_requireStorable l hl D hx2 mup_self) kc_X6_requireStorable wm_X6_79 hx2 rfl wim_X6_requireStorable wse_X6_requireStorable ⟨Nat.le_of_ble_eq_true rfl, Nat.le_of_ble_eq_true rfl⟩ rfl rfl (Nat.le_of_ble_eq_true rfl) ⟨Nat.le_of_ble_eq_true rfl, Nat.le_of_ble_eq_true rfl⟩ dX6_scale_79 (fun E g3 e1 => zt_out X Vz (by obtain ⟨e1, e2, e3⟩ := e1; rw [e2]; exact ⟨⟨T, P, G, Ln, hw2⟩, Or.inr (Or.inr ⟨e1, i, k, hi, rfl, hk, rfl, by rw [← hF]; exact ⟨b1, b2⟩, fun w => e3 (fun u hu => by rw [hq9 u hu, hF]; exact w u hu)⟩)⟩) (by decide) (by decide)) (fun g3 e1 => ?_)
          obtain ⟨rfl, e1⟩ := e1
          have hr9 : st9 (scP (Sl i) F) := fun u hu => by rw [← hq9 u hu]; exact e1 u hu
          refine zi_aload_n X dX6_scale_82 rfl rfl ?_
          refine zi_iload_n X dX6_scale_83 rfl rfl ?_
          refine zi_callVi X (x_storeRow l D hw2.2.2.1 hk mup_self hq9 hr9) kc_X6_storeRow wm_X6_75 hx2 rfl wim_X6_storeRow wse_X6_storeRow ⟨Nat.le_of_ble_eq_true rfl, Nat.le_of_ble_eq_true rfl⟩ rfl rfl (Nat.le_of_ble_eq_true rfl) ⟨Nat.le_of_ble_eq_true rfl, Nat.le_of_ble_eq_true rfl⟩ dX6_scale_84 (fun y g3 e1 => ?_)
          obtain ⟨rfl, rfl⟩ := e1
          refine zi_xireturn X Vz dX6_scale_87 ?_
          rw [← hF]
          exact ⟨i, k, hi, rfl, hk, rfl, ⟨b1, b2⟩, hr9, rfl, T, P, G, Ln, isWT_set hw2 hk hr9⟩
        | succ m ih =>
          intro hm q hq
          rw [nI_pr]
          have c50 : ¬ nI m < 0 := (i_out (n := 7) (by decide) (by omega) rfl).1
          obtain ⟨hx2, hsl, hsa, -⟩ := (isWT_row hw q).2.2.1
          have k2 : mup g1 rw (rowA (cA 1) q) rw = some (rowA (cA 1) q) := mup_self
          have hin : vp_in (nI m) 7 := vin (by omega) (by decide)
          refine zi_iload X dX6_scale_48 rfl ?_
          refine zi_if_lt (tgt := 78) X dX6_scale_50 (by decide) (fun c_50 => (by first | exact absurd c50 c_50 | exact absurd c_50 c50)) (fun c_50 => ?_)
          refine zi_aload_n X dX6_scale_53 rfl rfl ?_
          refine zi_getf (C := RX6) (T := TX6) (N := 8) (ci := 10) X (by first | assumption | exact mup_self | (rw [mup_ne (by assumption)]; assumption) | (rw [mup_ne (by assumption)]; exact mup_self) | (rw [mup_ne (by assumption), mup_ne (by assumption)]; assumption)) rfl in_X6 1 (by decide) wf_X6_14 rfl rfl dX6_scale_54 ?_
          refine zi_iload X dX6_scale_57 rfl ?_
          refine zi_dup2 X dX6_scale_59 rfl rfl ?_
          refine zi_lald X 1 (by first | assumption | exact mup_self | (rw [mup_ne (by assumption)]; assumption) | (rw [mup_ne (by assumption)]; exact mup_self) | (rw [mup_ne (by assumption), mup_ne (by assumption)]; assumption)) rfl (by assumption) dX6_scale_60 ?_
          rw [nI_cl (by omega), hq m (by omega), if_neg (by omega)]
          refine zi_lload X dX6_scale_61 rfl ?_
          refine zi_lmul X dX6_scale_63 ?_
          rw [lI_mul]
          refine zi_last X 1 (by first | assumption | exact mup_self | (rw [mup_ne (by assumption)]; assumption) | (rw [mup_ne (by assumption)]; exact mup_self) | (rw [mup_ne (by assumption), mup_ne (by assumption)]; assumption)) rfl (by assumption) dX6_scale_64 ?_
          rw [mup_mup, nI_cl (by omega)]
          refine zi_lload X dX6_scale_65 rfl ?_
          refine zi_iload_n X dX6_scale_67 rfl rfl ?_
          refine zi_i2l X dX6_scale_68 ?_
          refine zi_lmul X dX6_scale_69 ?_
          rw [ef, lI_mul]
          refine zi_lstore X dX6_scale_70 (by decide) ?_
          refine zi_iinc X dX6_scale_72 rfl rfl (by decide) ?_
          refine zi_goto (tgt := 48) X dX6_scale_75 (by decide) ?_
          rw [i_m1, show F ^ (stI (Sl i) 7 - (m + 1)) * F = F ^ (stI (Sl i) 7 - m) by rw [← Int.pow_succ]; congr 1; omega]
          refine ih (by omega) (vp_updL q m (lI (Sl i m * F ^ (stI (Sl i) 7 - (m + 1))))) (fun u hu => ?_)
          by_cases c : u = m
          · rw [c, vpL_s, if_pos (Nat.le_refl _)]
            unfold scP
            rw [if_pos (by omega), show stI (Sl i) 7 - (m + 1) = stI (Sl i) 7 - 1 - m by omega]
          · rw [vpL_n c, hq u hu]
            by_cases c2 : m + 1 ≤ u
            · rw [if_pos c2, if_pos (by omega)]
            · rw [if_neg c2, if_neg (by omega)]
      have h9 := loop (stI (Sl i) 7) (Nat.le_refl _) r (fun u hu => by
        rw [lI_of (hr u hu)]
        by_cases c : stI (Sl i) 7 ≤ u
        · rw [if_pos c]; unfold scP; rw [if_neg (by omega)]
        · rw [if_neg c])
      rw [Nat.sub_self, Int.pow_zero, iI_nat (stI (Sl i) 7), show nI 1 = iI 1 from rfl, iI_sub] at h9
      exact h9
    · refine zi_throwS hl X Vz xok_X6_65 xs_X6_92 dX6_scale_19 dX6_scale_22 dX6_scale_23 dX6_scale_25 dX6_scale_28 (Nat.le_of_ble_eq_true rfl) (Nat.le_of_ble_eq_true rfl) (Nat.le_of_ble_eq_true rfl) (Nat.le_of_ble_eq_true rfl) (Nat.le_of_ble_eq_true rfl) (Nat.le_of_ble_eq_true rfl) ⟨hw0, Or.inr (Or.inl ⟨rfl, rd_nI hi, rd_nI hk, fun q => c_16 ((fa_le _ _).mpr (by rw [a2]; exact q.2))⟩)⟩
end X6G
