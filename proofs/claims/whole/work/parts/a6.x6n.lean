/-! SturmRoots: rootBound, isolate, intervals, rootsIn, interval, removeEmpty -/
/-- the greatest size among the first ones -/
def grP (p : Nat → Int) : Nat → Nat
  | 0 => 0
  | k + 1 => max (grP p k) (p k).natAbs
def bdF (lead g : Nat) : Nat → Nat → Nat
  | 0, b => b
  | m + 1, b => if (b - 1) * lead < g then bdF lead g m (2 * b) else b
/-- the bound of the roots of a polynomial that isn't zero -/
def rBd (p : Nat → Int) : Nat := bdF (p (stI p 7 - 1)).natAbs (grP p (stI p 7 - 1)) 15 1
theorem grP_le {p : Nat → Int} (hp : ∀ k, k < 7 → (p k).natAbs ≤ 9999) : ∀ k, k ≤ 7 → grP p k ≤ 9999
  | 0, _ => Nat.zero_le _
  | k + 1, h => Nat.max_le.mpr ⟨grP_le hp k (by omega), hp k (by omega)⟩
theorem bdF_le (lead g : Nat) : ∀ m b, bdF lead g m b ≤ 2 ^ m * b
  | 0, b => by simp [bdF]
  | m + 1, b => by
    rw [bdF]
    split
    · have := bdF_le lead g m (2 * b)
      rw [Nat.pow_succ, Nat.mul_assoc]
      exact this
    · exact Nat.le_mul_of_pos_left _ (Nat.two_pow_pos _)
theorem i_abs {v : Int} (h : v.natAbs < 2147483648) : (if 0 ≤ iI v then iI v else 0 - iI v) = nI v.natAbs := by
  have e0 : (0 : Int32).toInt = 0 := by decide
  by_cases c : 0 ≤ v
  · rw [if_pos (by rw [fa_le, iI_int h, e0]; exact c), iI_nat]
    congr 1
    omega
  · rw [if_neg (by rw [fa_le, iI_int h, e0]; exact c), show (0 : Int32) = iI 0 from rfl, iI_sub, iI_nat]
    congr 1
    omega
theorem i_max {a b : Nat} (ha : a < 2147483648) (hb : b < 2147483648) : (if nI a < nI b then nI b else nI a) = nI (max a b) := by
  by_cases c : a < b
  · rw [if_pos ((nI_ltI ha hb).mpr c), Nat.max_eq_right (by omega)]
  · rw [if_neg (fun q => c ((nI_ltI ha hb).mp q)), Nat.max_eq_left (by omega)]
theorem nn_l (k : Nat) (h : k < 2147483648) : (nI k).toInt64 = lI (k : Int) := by
  rw [iI_nat]
  exact iI_lI (by omega)
section X6N
variable {cA : Nat → ClassId} {D : va_G} {S : Nat → Nat → Nat} {h : mH} {x sl rw is lst n : Nat} {sa : Nat → Nat} {Sl : Nat → Nat → Int} {V : Nat → Iv} {src : Nat → Int} {l : Launch} {T : Nat → Prop} {P : Nat → Nat → Int} {G Ln : Nat → Nat}
theorem x_rootBound (l : Launch) (D : va_G) {a : Nat} {s : Nat → Int} (ha : h a = some (slotA (cA 0) s)) (hs : ∀ k, k < 7 → (s k).natAbs ≤ 9999) (h0 : stI s 7 ≠ 0) : mCi l yX6_rootBound cX6_rootBound 5 .int (rmd 2) D (mT cA) [.ref a] h (fun r h1 => h1 = h ∧ r = nI (rBd s)) := by
  refine mEnter_i (by decide) (Nat.le_of_ble_eq_true rfl) rfl (fun z X Vz => ?_)
  refine zi_aload_n X dX6_rootBound_0 rfl rfl ?_
  refine zi_callSi X (x_degreeOf l D ha hs) kc_X6_degreeOf wm_X6_68 wst_X6_degreeOf ⟨Nat.le_of_ble_eq_true rfl, Nat.le_of_ble_eq_true rfl⟩ rfl rfl (Nat.le_of_ble_eq_true rfl) ⟨Nat.le_of_ble_eq_true rfl, Nat.le_of_ble_eq_true rfl⟩ dX6_rootBound_1 (fun y g e1 => ?_)
  obtain ⟨rfl, rfl⟩ := e1
  obtain ⟨d, hd⟩ : ∃ d, stI s 7 = d + 1 := ⟨stI s 7 - 1, by omega⟩
  have hd7 : d < 7 := by have := stI_le s 7; omega
  rw [sDeg_I, hd, nI_pr]
  refine zi_istore_n X dX6_rootBound_4 rfl (by decide) ?_
  refine zi_iconst (v := (nI 0)) X dX6_rootBound_5 (by decide) ?_
  refine zi_istore_n X dX6_rootBound_6 rfl (by decide) ?_
  refine zi_iconst (v := (nI 0)) X dX6_rootBound_7 (by decide) ?_
  refine zi_istore_n X dX6_rootBound_8 rfl (by decide) ?_
  have loop : ∀ m t, t + m = d → zM z 0 0 9 [some (.ref a), some (.int (nI d)), some (.int (nI (grP s t))), some (.int (nI t)), none] [] g := by
    intro m
    induction m with
    | zero =>
      intro t ht
      have : t = d := by omega
      subst this
      have c11 : nI t ≤ nI t := Int32.le_refl _
      have c32 : 0 ≤ nI t := Int32.not_lt.mp (i_out (n := 7) (by decide) hd7 rfl).1
      have hin : vp_in (nI t) 7 := vin hd7 (by decide)
      have ev : (if (nI t).toNatClampNeg < 7 then iI (s (nI t).toNatClampNeg) else 0) = iI (s t) := slot_rd hd7
      refine zi_iload_n X dX6_rootBound_9 rfl rfl ?_
      refine zi_iload_n X dX6_rootBound_10 rfl rfl ?_
      refine zi_icmp_ge (tgt := 31) X dX6_rootBound_11 (by decide) (fun c_11 => ?_) (fun c_11 => (by first | exact absurd c11 c_11 | exact absurd c_11 c11))
      refine zi_iload_n X dX6_rootBound_31 rfl rfl ?_
      refine zi_if_ge (tgt := 39) X dX6_rootBound_32 (by decide) (fun c_32 => ?_) (fun c_32 => (by first | exact absurd c32 c_32 | exact absurd c_32 c32))
      refine zi_aload_n X dX6_rootBound_39 rfl rfl ?_
      refine zi_iload_n X dX6_rootBound_40 rfl rfl ?_
      refine zi_iald X 0 (by first | assumption | exact mup_self | (rw [mup_ne (by assumption)]; assumption) | (rw [mup_ne (by assumption)]; exact mup_self) | (rw [mup_ne (by assumption), mup_ne (by assumption)]; assumption)) rfl (by assumption) dX6_rootBound_41 ?_
      rw [ev]
      refine zi_mabs X wm_X6_283 (Nat.le_of_ble_eq_true rfl) (Nat.le_of_ble_eq_true rfl) ⟨(Nat.le_of_ble_eq_true rfl), (Nat.le_of_ble_eq_true rfl)⟩ dX6_rootBound_42 ?_
      rw [i_abs (by have := hs t hd7; omega)]
      refine zi_istore_n X dX6_rootBound_45 rfl (by decide) ?_
      refine zi_iconst (v := (nI 1)) X dX6_rootBound_46 (by decide) ?_
      refine zi_istore X dX6_rootBound_47 (by decide) ?_
      have hg9 := grP_le hs t (by omega)
      have hl9 := hs t hd7
      have hfin : bdF (s t).natAbs (grP s t) 15 1 = rBd s := by unfold rBd; rw [hd]; rfl
      have lp2 : ∀ m b, 2 ^ m * b = 32768 → 0 < b → bdF (s t).natAbs (grP s t) m b = rBd s → zM z 0 0 49 [some (.ref a), some (.int (nI t)), some (.int (nI (grP s t))), some (.int (nI (s t).natAbs)), some (.int (nI b))] [] g := by
        intro m
        induction m with
        | zero =>
          intro b hb _ hr
          have c53 : 32768 ≤ nI b := by
            rw [show b = 32768 by omega]; decide
          refine zi_iload X dX6_rootBound_49 rfl ?_
          refine zi_ldc X wk_X6_170 dX6_rootBound_51 ?_
          refine zi_icmp_ge (tgt := 79) X dX6_rootBound_53 (by decide) (fun c_53 => ?_) (fun c_53 => (by first | exact absurd c53 c_53 | exact absurd c_53 c53))
          refine zi_iload X dX6_rootBound_79 rfl ?_
          refine zi_ireturn X Vz dX6_rootBound_81 ?_
          exact ⟨rfl, by rw [← hr]; rfl⟩
        | succ m ih =>
          intro b hb hb0 hr
          have hb3 : b < 32768 := by
            have : 2 ≤ 2 ^ (m + 1) := by rw [Nat.pow_succ]; have := Nat.two_pow_pos m; omega
            have := Nat.mul_le_mul this (Nat.le_refl b)
            omega
          have c53 : ¬ 32768 ≤ nI b := by
            rw [show (32768 : Int32) = nI 32768 from rfl, Int32.not_le, nI_ltI (by omega) (by decide)]
            exact hb3
          refine zi_iload X dX6_rootBound_49 rfl ?_
          refine zi_ldc X wk_X6_170 dX6_rootBound_51 ?_
          refine zi_icmp_ge (tgt := 79) X dX6_rootBound_53 (by decide) (fun c_53 => (by first | exact absurd c53 c_53 | exact absurd c_53 c53)) (fun c_53 => ?_)
          refine zi_iload X dX6_rootBound_56 rfl ?_
          refine zi_iconst (v := (nI 1)) X dX6_rootBound_58 (by decide) ?_
          refine zi_isub X dX6_rootBound_59 ?_
          rw [show nI b - nI 1 = nI (b - 1) from nI_sub hb0]
          refine zi_i2l X dX6_rootBound_60 ?_
          refine zi_iload_n X dX6_rootBound_61 rfl rfl ?_
          refine zi_i2l X dX6_rootBound_62 ?_
          rw [nn_l (b - 1) (by omega), nn_l (s t).natAbs (by omega)]
          refine zi_lmul X dX6_rootBound_63 ?_
          refine zi_iload_n X dX6_rootBound_64 rfl rfl ?_
          refine zi_i2l X dX6_rootBound_65 ?_
          rw [lI_mul, nn_l (grP s t) (by omega)]
          refine zi_lcmp X dX6_rootBound_66 ?_
          have hmul : (b - 1) * (s t).natAbs ≤ 32768 * 9999 := Nat.mul_le_mul (by omega) hl9
          have cv : (lI (((b - 1 : Nat) : Int) * ((s t).natAbs : Int))).toInt = (((b - 1) * (s t).natAbs : Nat) : Int) := by
            rw [lI_int (by rw [← Int.natCast_mul, Int.natAbs_natCast]; omega), Int.natCast_mul]
          have cg : (lI (grP s t : Int)).toInt = (grP s t : Int) := lI_int (by omega)
          rw [bdF] at hr
          by_cases c : (b - 1) * (s t).natAbs < grP s t
          · have c67 : ¬ (0 : Int32) ≤ lg_cmp (lI (((b - 1 : Nat) : Int) * ((s t).natAbs : Int))) (lI (grP s t : Int)) := fun w => by
              have := (fa_le64 _ _).mp ((lg_cmp_ge _ _).mp w)
              rw [cv, cg] at this
              omega
            rw [if_pos c] at hr
            refine zi_if_ge (tgt := 79) X dX6_rootBound_67 (by decide) (fun c_67 => (by first | exact absurd c67 c_67 | exact absurd c_67 c67)) (fun c_67 => ?_)
            refine zi_iload X dX6_rootBound_70 rfl ?_
            refine zi_iconst (v := (nI 2)) X dX6_rootBound_72 (by decide) ?_
            refine zi_imul X dX6_rootBound_73 ?_
            rw [show nI b * nI 2 = nI (2 * b) from by rw [Int32.mul_comm, iI_nat b, iI_mul2]; rfl]
            refine zi_istore X dX6_rootBound_74 (by decide) ?_
            refine zi_goto (tgt := 49) X dX6_rootBound_76 (by decide) ?_
            exact ih (2 * b) (by rw [← hb, Nat.pow_succ, Nat.mul_assoc]) (by omega) hr
          · have c67 : (0 : Int32) ≤ lg_cmp (lI (((b - 1 : Nat) : Int) * ((s t).natAbs : Int))) (lI (grP s t : Int)) := by
              refine (lg_cmp_ge _ _).mpr ((fa_le64 _ _).mpr ?_)
              rw [cv, cg]
              omega
            rw [if_neg c] at hr
            refine zi_if_ge (tgt := 79) X dX6_rootBound_67 (by decide) (fun c_67 => ?_) (fun c_67 => (by first | exact absurd c67 c_67 | exact absurd c_67 c67))
            refine zi_iload X dX6_rootBound_79 rfl ?_
            refine zi_ireturn X Vz dX6_rootBound_81 ?_
            exact ⟨rfl, by rw [← hr]⟩
      exact lp2 15 1 rfl (by decide) hfin
    | succ m ih =>
      intro t ht
      have c11 : ¬ nI d ≤ nI t := Int32.not_le.mpr ((nI_ltI (by omega) (by omega)).mpr (by omega))
      have hin : vp_in (nI t) 7 := vin (by omega) (by decide)
      have ev : (if (nI t).toNatClampNeg < 7 then iI (s (nI t).toNatClampNeg) else 0) = iI (s t) := slot_rd (by omega)
      have hg9 := grP_le hs t (by omega)
      have hl9 := hs t (by omega)
      refine zi_iload_n X dX6_rootBound_9 rfl rfl ?_
      refine zi_iload_n X dX6_rootBound_10 rfl rfl ?_
      refine zi_icmp_ge (tgt := 31) X dX6_rootBound_11 (by decide) (fun c_11 => (by first | exact absurd c11 c_11 | exact absurd c_11 c11)) (fun c_11 => ?_)
      refine zi_iload_n X dX6_rootBound_14 rfl rfl ?_
      refine zi_aload_n X dX6_rootBound_15 rfl rfl ?_
      refine zi_iload_n X dX6_rootBound_16 rfl rfl ?_
      refine zi_iald X 0 (by first | assumption | exact mup_self | (rw [mup_ne (by assumption)]; assumption) | (rw [mup_ne (by assumption)]; exact mup_self) | (rw [mup_ne (by assumption), mup_ne (by assumption)]; assumption)) rfl (by assumption) dX6_rootBound_17 ?_
      rw [ev]
      refine zi_mabs X wm_X6_283 (Nat.le_of_ble_eq_true rfl) (Nat.le_of_ble_eq_true rfl) ⟨(Nat.le_of_ble_eq_true rfl), (Nat.le_of_ble_eq_true rfl)⟩ dX6_rootBound_18 ?_
      rw [i_abs (by omega)]
      refine zi_mmax X wm_X6_288 (Nat.le_of_ble_eq_true rfl) (Nat.le_of_ble_eq_true rfl) ⟨(Nat.le_of_ble_eq_true rfl), (Nat.le_of_ble_eq_true rfl)⟩ dX6_rootBound_21 ?_
      rw [i_max (by omega) (by omega)]
      refine zi_istore_n X dX6_rootBound_24 rfl (by decide) ?_
      refine zi_iinc (v := nI (t + 1)) X dX6_rootBound_25 rfl (nI_inc _) (by decide) ?_
      refine zi_goto (tgt := 9) X dX6_rootBound_28 (by decide) ?_
      exact ih (t + 1) (by omega)
  refine zi_sub (L' := [some (.ref a), some (.int (nI d)), some (.int (nI 0)), some (.int (nI 0)), none]) (by repeat (first | exact trivial | refine And.intro rfl ?_)) ?_
  exact loop d 0 (Nat.zero_add d)
theorem x_isolate (hl : l.stackTraces = false) (hz : SzAll) (hw : isW cA D S (x, sl, rw, is, lst, sa) h (Sl, n, V, src)) {a : Int32} :
    mCx l yX6_isolate cX6_isolate 2 (some .int) (rmc 10 4 2516) D (mT cA) [.ref x, .int a] h (mFi h (fun r h1 => ∃ i, i < 5 ∧ a = nI i ∧ stI (Sl i) 7 ≠ 0 ∧ r = iI (rIn (sqfP (Sl i)) 0 (-(rBd (Sl i) : Int)) (rBd (Sl i))) ∧ isW cA D S (x, sl, rw, is, lst, sa) h1 (Sl, 1, (fun _ => (0, -(rBd (Sl i) : Int), (rBd (Sl i) : Int), rIn (sqfP (Sl i)) 0 (-(rBd (Sl i) : Int)) (rBd (Sl i)))), Sl i)))
      (fun E h1 => isW cA D S (x, sl, rw, is, lst, sa) h1 (Sl, n, V, src) ∧ (E = eI ∧ ¬ inR a 5 ∨ E = eM ∧ ∃ i, i < 5 ∧ a = nI i ∧ stI (Sl i) 7 = 0)) := by
  have hw0 := hw
  obtain ⟨T, P, G, Ln, hw⟩ := hw
  refine mEnter_x (by decide) (Nat.le_of_ble_eq_true rfl) rfl (fun z X Vz => ?_)
  refine zi_iload_n X dX6_isolate_0 rfl rfl ?_
  refine zi_xcallSv X (x_requireSlot hl) kc_X6_requireSlot wm_X6_54 wst_X6_requireSlot ⟨Nat.le_of_ble_eq_true rfl, Nat.le_of_ble_eq_true rfl⟩ rfl rfl (Nat.le_of_ble_eq_true rfl) ⟨Nat.le_of_ble_eq_true rfl, Nat.le_of_ble_eq_true rfl⟩ dX6_isolate_1 (fun E g e1 => zt_out X Vz (by obtain ⟨e1, e2, e3⟩ := e1; exact ⟨isW_same hw0 e2, Or.inl ⟨e1, e3⟩⟩) (by decide) (by decide)) (fun g e1 => ?_)
  obtain ⟨rfl, i, hi, rfl⟩ := e1
  have hx := hw.2.2.1.1
  refine zi_aload_n X dX6_isolate_4 rfl rfl ?_
  refine zi_iload_n X dX6_isolate_5 rfl rfl ?_
  refine zi_xcallVv X (x_requireNotZero hl hw.2.2.1 hi) kc_X6_requireNotZero wm_X6_106 hx rfl wim_X6_requireNotZero wse_X6_requireNotZero ⟨Nat.le_of_ble_eq_true rfl, Nat.le_of_ble_eq_true rfl⟩ rfl rfl (Nat.le_of_ble_eq_true rfl) ⟨Nat.le_of_ble_eq_true rfl, Nat.le_of_ble_eq_true rfl⟩ dX6_isolate_6 (fun E g1 e1 => zt_out X Vz (by obtain ⟨e1, e2, e3⟩ := e1; exact ⟨isW_same hw0 e2, Or.inr ⟨e1, i, hi, rfl, e3⟩⟩) (by decide) (by decide)) (fun g1 e1 => ?_)
  obtain ⟨rfl, h0⟩ := e1
  have hbi := isWT_b hw hi
  have ok := (hz.1 _ hbi h0).2.1
  obtain ⟨F, H, d1, d2, d3⟩ := ok.2.2.1.2.2
  obtain ⟨hx, hsl, hsa, hr, ho⟩ := isWT_own hw
  have k3 := hsa i hi
  refine zi_aload_n X dX6_isolate_9 rfl rfl ?_
  refine zi_getf (C := RX6) (T := TX6) (N := 8) (ci := 10) X (by first | assumption | exact mup_self | (rw [mup_ne (by assumption)]; assumption) | (rw [mup_ne (by assumption)]; exact mup_self) | (rw [mup_ne (by assumption), mup_ne (by assumption)]; assumption)) rfl in_X6 3 (by decide) wf_X6_28 rfl rfl dX6_isolate_10 ?_
  refine zi_aload_n X dX6_isolate_13 rfl rfl ?_
  refine zi_getf (C := RX6) (T := TX6) (N := 8) (ci := 10) X (by first | assumption | exact mup_self | (rw [mup_ne (by assumption)]; assumption) | (rw [mup_ne (by assumption)]; exact mup_self) | (rw [mup_ne (by assumption), mup_ne (by assumption)]; assumption)) rfl in_X6 0 (by decide) wf_X6_11 rfl rfl dX6_isolate_14 ?_
  refine zi_iload_n X dX6_isolate_17 rfl rfl ?_
  refine zi_aaldA X 4 (by first | assumption | exact mup_self | (rw [mup_ne (by assumption)]; assumption) | (rw [mup_ne (by assumption)]; exact mup_self) | (rw [mup_ne (by assumption), mup_ne (by assumption)]; assumption)) rfl (vin hi (by decide)) (sl_at hi) dX6_isolate_18 ?_
  refine zi_callVv X (q_becomeRow l D hw.1 (j := 0) (by decide) k3 (ho i hi)) kc_X4_becomeRow wm_X6_94 ((hP_p hw.1 (j := 0) (by decide)).1) rfl wim_X4_becomeRow wse_X4_becomeRow ⟨Nat.le_of_ble_eq_true rfl, Nat.le_of_ble_eq_true rfl⟩ rfl rfl (Nat.le_of_ble_eq_true rfl) ⟨Nat.le_of_ble_eq_true rfl, Nat.le_of_ble_eq_true rfl⟩ dX6_isolate_19 (fun g2 e1 => ?_)
  obtain ⟨f1, h1⟩ := e1
  rw [row_P hbi] at h1
  have hw1 := isWT_alg hw f1 h1 (isoK_up hw.2.2.2.1 (fun k hk => ⟨updP_n (by omega), updN_n (by omega)⟩) rfl) (g3_up hw.2.2.2.2.2)
  have hx1 := hw1.2.2.1.1
  have p0 : updP P 0 (Sl i) 0 = Sl i := updP_s
  have g0' : updN G 0 (stI (Sl i) 7) 0 = stI (Sl i) 7 := updN_s
  generalize updP P 0 (Sl i) = P2 at h1 hw1 p0
  generalize updN G 0 (stI (Sl i) 7) = G2 at h1 hw1 g0'
  refine zi_aload_n X dX6_isolate_22 rfl rfl ?_
  refine zi_getf (C := RX6) (T := TX6) (N := 8) (ci := 10) X (by first | assumption | exact mup_self | (rw [mup_ne (by assumption)]; assumption) | (rw [mup_ne (by assumption)]; exact mup_self) | (rw [mup_ne (by assumption), mup_ne (by assumption)]; assumption)) rfl in_X6 2 (by decide) wf_X6_21 rfl rfl dX6_isolate_23 ?_
  refine zi_aload_n X dX6_isolate_26 rfl rfl ?_
  refine zi_getf (C := RX6) (T := TX6) (N := 8) (ci := 10) X (by first | assumption | exact mup_self | (rw [mup_ne (by assumption)]; assumption) | (rw [mup_ne (by assumption)]; exact mup_self) | (rw [mup_ne (by assumption), mup_ne (by assumption)]; assumption)) rfl in_X6 3 (by decide) wf_X6_28 rfl rfl dX6_isolate_27 ?_
  refine zi_aload_n X dX6_isolate_30 rfl rfl ?_
  refine zi_getf (C := RX6) (T := TX6) (N := 8) (ci := 10) X (by first | assumption | exact mup_self | (rw [mup_ne (by assumption)]; assumption) | (rw [mup_ne (by assumption)]; exact mup_self) | (rw [mup_ne (by assumption), mup_ne (by assumption)]; assumption)) rfl in_X6 5 (by decide) wf_X6_35 rfl rfl dX6_isolate_31 ?_
  refine zi_callVv X (q_writeSquareFree l D h1 (a := 0) (c := 2) (F := F) (H := H) (by decide) (by decide) (by decide) (by rw [g0', p0]) (hw1.2.2.2.2.2 2 (by decide)) (by rw [p0]; exact ok.1.1) (by rw [p0]; exact ok.1.2.1) (by rw [p0]; exact ok.2.2.1.1) (by rw [p0, g0']; exact ok.2.2.1.2.1) (by rw [p0]; exact d1) (by rw [p0]; exact d2) (by rw [p0, g0']; exact d3)) kc_X0_writeSquareFree wm_X6_109 (hP_a h1) rfl wim_X0_writeSquareFree wse_X0_writeSquareFree ⟨Nat.le_of_ble_eq_true rfl, Nat.le_of_ble_eq_true rfl⟩ rfl rfl (Nat.le_of_ble_eq_true rfl) ⟨Nat.le_of_ble_eq_true rfl, Nat.le_of_ble_eq_true rfl⟩ dX6_isolate_34 (fun g4 e1 => ?_)
  obtain ⟨f3, P3, G3, h3, u3, p3, q3⟩ := e1
  rw [p0] at p3 q3
  have hw3 := isWT_alg hw1 f3 h3 (isoK_up hw1.2.2.2.1 (fun k hk => u3 k (by simp; omega)) rfl) (g3_to hw1.2.2.2.2.2 u3 (fun k h1 h2 => by have : k = 2 := by { simp at h2; omega }; rw [this, q3, p3]))
  obtain ⟨hx3, hsl3, hsa3, hr3, ho3⟩ := isWT_own hw3
  have k4 := hsa3 i hi
  have p30 : P3 0 = Sl i := by rw [(u3 0 (by simp)).1]; exact p0
  have g30 : G3 0 = stI (Sl i) 7 := by rw [(u3 0 (by simp)).2]; exact g0'
  refine zi_aload_n X dX6_isolate_37 rfl rfl ?_
  refine zi_getf (C := RX6) (T := TX6) (N := 8) (ci := 10) X (by first | assumption | exact mup_self | (rw [mup_ne (by assumption)]; assumption) | (rw [mup_ne (by assumption)]; exact mup_self) | (rw [mup_ne (by assumption), mup_ne (by assumption)]; assumption)) rfl in_X6 7 (by decide) wf_X6_50 rfl rfl dX6_isolate_38 ?_
  refine zi_aload_n X dX6_isolate_41 rfl rfl ?_
  refine zi_getf (C := RX6) (T := TX6) (N := 8) (ci := 10) X (by first | assumption | exact mup_self | (rw [mup_ne (by assumption)]; assumption) | (rw [mup_ne (by assumption)]; exact mup_self) | (rw [mup_ne (by assumption), mup_ne (by assumption)]; assumption)) rfl in_X6 3 (by decide) wf_X6_28 rfl rfl dX6_isolate_42 ?_
  refine zi_aload_n X dX6_isolate_45 rfl rfl ?_
  refine zi_getf (C := RX6) (T := TX6) (N := 8) (ci := 10) X (by first | assumption | exact mup_self | (rw [mup_ne (by assumption)]; assumption) | (rw [mup_ne (by assumption)]; exact mup_self) | (rw [mup_ne (by assumption), mup_ne (by assumption)]; assumption)) rfl in_X6 5 (by decide) wf_X6_35 rfl rfl dX6_isolate_46 ?_
  refine zi_aload_n X dX6_isolate_49 rfl rfl ?_
  refine zi_getf (C := RX6) (T := TX6) (N := 8) (ci := 10) X (by first | assumption | exact mup_self | (rw [mup_ne (by assumption)]; assumption) | (rw [mup_ne (by assumption)]; exact mup_self) | (rw [mup_ne (by assumption), mup_ne (by assumption)]; assumption)) rfl in_X6 0 (by decide) wf_X6_11 rfl rfl dX6_isolate_50 ?_
  refine zi_iload_n X dX6_isolate_53 rfl rfl ?_
  refine zi_aaldA X 4 (by first | assumption | exact mup_self | (rw [mup_ne (by assumption)]; assumption) | (rw [mup_ne (by assumption)]; exact mup_self) | (rw [mup_ne (by assumption), mup_ne (by assumption)]; assumption)) rfl (vin hi (by decide)) (sl_at hi) dX6_isolate_54 ?_
  refine zi_callSi X (x_rootBound l D k4 hbi.1 h0) kc_X6_rootBound wm_X6_175 wst_X6_rootBound ⟨Nat.le_of_ble_eq_true rfl, Nat.le_of_ble_eq_true rfl⟩ rfl rfl (Nat.le_of_ble_eq_true rfl) ⟨Nat.le_of_ble_eq_true rfl, Nat.le_of_ble_eq_true rfl⟩ dX6_isolate_55 (fun y g5 e1 => ?_)
  obtain ⟨rfl, rfl⟩ := e1
  have hB : rBd (Sl i) ≤ 2 ^ 15 * 1 := bdF_le _ _ 15 1
  have i0 := hw3.2.1.1
  rw [iI_nat (rBd (Sl i))]
  refine zi_callVi X (iso_begin l D h3 hw3.2.1 (a := 0) (c := 2) (by decide) (by decide) (by rw [q3, p3]) (by rw [p3]; exact ok.2.2.2.1) (by rw [p3]; exact ok.2.2.2.2.1) (by rw [p3]; exact ok.2.2.2.2.2.2.2.2) (b := (rBd (Sl i) : Int)) (by rw [Int.natAbs_natCast]; omega)) kc_X3_begin wm_X6_178 i0 rfl wim_X3_begin wse_X3_begin ⟨Nat.le_of_ble_eq_true rfl, Nat.le_of_ble_eq_true rfl⟩ rfl rfl (Nat.le_of_ble_eq_true rfl) ⟨Nat.le_of_ble_eq_true rfl, Nat.le_of_ble_eq_true rfl⟩ dX6_isolate_58 (fun y g6 e1 => ?_)
  rw [p3] at e1
  obtain ⟨rfl, P6, G6, L6, T6, h6, I6, fr6, a1, a2, a3, a4, a5⟩ := e1
  refine zi_xireturn X Vz dX6_isolate_61 ?_
  refine ⟨i, hi, rfl, h0, rfl, T6, P6, G6, L6, h6, I6, own_fr hw3.2.2.1 fr6, fun _ => ⟨by rw [a1, p30], by rw [a2, g30], a4⟩, hw3.2.2.2.2.1, fun j hj => ?_⟩
  rw [(a3 j (by omega)).1, (a3 j (by omega)).2]
  exact hw3.2.2.2.2.2 j hj
end X6N
