/-! SturmRoots: shift, multiply -/
theorem sh_val (s : Nat → Int) (y : Int) : shP s y 0 = s 0 + y * (s 1 + y * (s 2 + y * (s 3 + y * (s 4 + y * (s 5 + y * s 6))))) ∧ shP s y 1 = s 1 + y * (2 * s 2 + y * (3 * s 3 + y * (4 * s 4 + y * (5 * s 5 + y * (6 * s 6))))) ∧ shP s y 2 = s 2 + y * (3 * s 3 + y * (6 * s 4 + y * (10 * s 5 + y * (15 * s 6)))) ∧ shP s y 3 = s 3 + y * (4 * s 4 + y * (10 * s 5 + y * (20 * s 6))) ∧ shP s y 4 = s 4 + y * (5 * s 5 + y * (15 * s 6)) ∧ shP s y 5 = s 5 + y * (6 * s 6) ∧ shP s y 6 = s 6 := by
  refine ⟨?_, ?_, ?_, ?_, ?_, ?_, ?_⟩ <;> simp [shP, shO, shL, shI] <;> grind
theorem mB1 {a y : Int} {A : Nat} (ha : a.natAbs ≤ A) (hy : -9 ≤ y ∧ y ≤ 9) : (y * a).natAbs ≤ 9 * A := by
  rw [Int.natAbs_mul]
  exact Nat.mul_le_mul (by omega) ha
theorem mB2 {a b y : Int} {A B : Nat} (ha : a.natAbs ≤ A) (hb : b.natAbs ≤ B) (hy : -9 ≤ y ∧ y ≤ 9) : (a + y * b).natAbs ≤ A + 9 * B :=
  Nat.le_trans (Int.natAbs_add_le _ _) (Nat.add_le_add ha (mB1 hb hy))
theorem mBk {a : Int} {A : Nat} (k : Nat) (ha : a.natAbs ≤ A) : ((k : Int) * a).natAbs ≤ k * A := by
  rw [Int.natAbs_mul]
  exact Nat.mul_le_mul (Nat.le_refl _) ha
theorem sh_bd {s : Nat → Int} {y : Int} (hs : ∀ k, k < 7 → (s k).natAbs ≤ 9999) (hy : -9 ≤ y ∧ y ≤ 9) : ∀ t, t < 7 → (shP s y t).natAbs < 9223372036854775808 := by
  obtain ⟨e0, e1, e2, e3, e4, e5, e6⟩ := sh_val s y
  have h0 := hs 0 (by decide)
  have h1 := hs 1 (by decide)
  have h2 := hs 2 (by decide)
  have h3 := hs 3 (by decide)
  have h4 := hs 4 (by decide)
  have h5 := hs 5 (by decide)
  have h6 := hs 6 (by decide)
  intro t ht
  match t, ht with
  | 0, _ => rw [e0]; exact Nat.lt_of_le_of_lt (mB2 h0 (mB2 h1 (mB2 h2 (mB2 h3 (mB2 h4 (mB2 h5 h6 hy) hy) hy) hy) hy) hy) (by decide)
  | 1, _ => rw [e1]; exact Nat.lt_of_le_of_lt (mB2 h1 (mB2 (mBk 2 h2) (mB2 (mBk 3 h3) (mB2 (mBk 4 h4) (mB2 (mBk 5 h5) (mBk 6 h6) hy) hy) hy) hy) hy) (by decide)
  | 2, _ => rw [e2]; exact Nat.lt_of_le_of_lt (mB2 h2 (mB2 (mBk 3 h3) (mB2 (mBk 6 h4) (mB2 (mBk 10 h5) (mBk 15 h6) hy) hy) hy) hy) (by decide)
  | 3, _ => rw [e3]; exact Nat.lt_of_le_of_lt (mB2 h3 (mB2 (mBk 4 h4) (mB2 (mBk 10 h5) (mBk 20 h6) hy) hy) hy) (by decide)
  | 4, _ => rw [e4]; exact Nat.lt_of_le_of_lt (mB2 h4 (mB2 (mBk 5 h5) (mBk 15 h6) hy) hy) (by decide)
  | 5, _ => rw [e5]; exact Nat.lt_of_le_of_lt (mB2 h5 (mBk 6 h6) hy) (by decide)
  | 6, _ => rw [e6]; omega
section X6H
variable {cA : Nat → ClassId} {D : va_G} {S : Nat → Nat → Nat} {h : mH} {x sl rw is lst n : Nat} {sa : Nat → Nat} {Sl : Nat → Nat → Int} {V : Nat → Iv} {src : Nat → Int} {l : Launch}
theorem x_shift (hl : l.stackTraces = false) (hw : isW cA D S (x, sl, rw, is, lst, sa) h (Sl, n, V, src)) {a y b : Int32} :
    mCx l yX6_shift cX6_shift 6 (some .int) (rmc 7 3 18) D (mT cA) [.ref x, .int a, .int y, .int b] h (mFi h (fun r h1 => ∃ i k, i < 5 ∧ a = nI i ∧ k < 5 ∧ b = nI k ∧ (-9 ≤ y.toInt ∧ y.toInt ≤ 9) ∧ st9 (shP (Sl i) y.toInt) ∧ r = iI (sDeg (shP (Sl i) y.toInt)) ∧ isW cA D S (x, sl, rw, is, lst, sa) h1 (setS Sl k (tr (shP (Sl i) y.toInt)), n, V, src)))
      (fun E h1 => isW cA D S (x, sl, rw, is, lst, sa) h1 (Sl, n, V, src) ∧ (E = eI ∧ (¬ inR a 5 ∨ ¬ inR b 5) ∨ E = eA ∧ inR a 5 ∧ inR b 5 ∧ ¬ (-9 ≤ y.toInt ∧ y.toInt ≤ 9) ∨ E = eS ∧ ∃ i k, i < 5 ∧ a = nI i ∧ k < 5 ∧ b = nI k ∧ (-9 ≤ y.toInt ∧ y.toInt ≤ 9) ∧ ¬ st9 (shP (Sl i) y.toInt))) := by
  have hw0 := hw
  obtain ⟨T, P, G, Ln, hw⟩ := hw
  have hb := hw.2.2.1.2.2.2.2.2.1
  have hx := hw.2.2.1.1
  have a1 : Int32.toInt (-9) = -9 := by decide
  have a2 : (nI 9).toInt = 9 := by decide
  refine mEnter_x (by decide) (Nat.le_of_ble_eq_true rfl) rfl (fun z X Vz => ?_)
  refine zi_iload_n X dX6_shift_0 rfl rfl ?_
  refine zi_xcallSv X (x_requireSlot hl) kc_X6_requireSlot wm_X6_54 wst_X6_requireSlot ⟨Nat.le_of_ble_eq_true rfl, Nat.le_of_ble_eq_true rfl⟩ rfl rfl (Nat.le_of_ble_eq_true rfl) ⟨Nat.le_of_ble_eq_true rfl, Nat.le_of_ble_eq_true rfl⟩ dX6_shift_1 (fun E g e1 => zt_out X Vz (by obtain ⟨e1, e2, e3⟩ := e1; exact ⟨isW_same hw0 e2, Or.inl ⟨e1, Or.inl e3⟩⟩) (by decide) (by decide)) (fun g e1 => ?_)
  obtain ⟨rfl, i, hi, rfl⟩ := e1
  refine zi_iload_n X dX6_shift_4 rfl rfl ?_
  refine zi_xcallSv X (x_requireSlot hl) kc_X6_requireSlot wm_X6_54 wst_X6_requireSlot ⟨Nat.le_of_ble_eq_true rfl, Nat.le_of_ble_eq_true rfl⟩ rfl rfl (Nat.le_of_ble_eq_true rfl) ⟨Nat.le_of_ble_eq_true rfl, Nat.le_of_ble_eq_true rfl⟩ dX6_shift_5 (fun E g1 e1 => zt_out X Vz (by obtain ⟨e1, e2, e3⟩ := e1; exact ⟨isW_same hw0 e2, Or.inl ⟨e1, Or.inr e3⟩⟩) (by decide) (by decide)) (fun g1 e1 => ?_)
  obtain ⟨rfl, k, hk, rfl⟩ := e1
  refine zi_iload_n X dX6_shift_8 rfl rfl ?_
  refine zi_bipush (v := (-9)) X dX6_shift_9 (by decide) ?_
  refine zi_icmp_lt (tgt := 20) X dX6_shift_11 (by decide) (fun c_11 => ?_) (fun c_11 => ?_)
  · refine zi_throwS hl X Vz xok_X6_65 xs_X6_90 dX6_shift_20 dX6_shift_23 dX6_shift_24 dX6_shift_26 dX6_shift_29 (Nat.le_of_ble_eq_true rfl) (Nat.le_of_ble_eq_true rfl) (Nat.le_of_ble_eq_true rfl) (Nat.le_of_ble_eq_true rfl) (Nat.le_of_ble_eq_true rfl) (Nat.le_of_ble_eq_true rfl) ⟨hw0, Or.inr (Or.inl ⟨rfl, rd_nI hi, rd_nI hk, fun q => by have := (fa_lt _ _).mp c_11; rw [a1] at this; omega⟩)⟩
  · have b1 := (fa_le _ _).mp (Int32.not_lt.mp c_11)
    rw [a1] at b1
    refine zi_iload_n X dX6_shift_14 rfl rfl ?_
    refine zi_bipush (v := (nI 9)) X dX6_shift_15 (by decide) ?_
    refine zi_icmp_le (tgt := 30) X dX6_shift_17 (by decide) (fun c_17 => ?_) (fun c_17 => ?_)
    · have b2 := (fa_le _ _).mp c_17
      rw [a2] at b2
      obtain ⟨F, hF⟩ : ∃ F, F = y.toInt := ⟨_, rfl⟩
      have ef : y.toInt64 = lI F := by rw [hF]; exact lI_of (i32_i64 y)
      rw [← hF] at b1 b2
      refine zi_aload_n X dX6_shift_30 rfl rfl ?_
      refine zi_iload_n X dX6_shift_31 rfl rfl ?_
      refine zi_callVv X (x_readRow l D hw.2.2.1 hi) kc_X6_readRow wm_X6_72 hx rfl wim_X6_readRow wse_X6_readRow ⟨Nat.le_of_ble_eq_true rfl, Nat.le_of_ble_eq_true rfl⟩ rfl rfl (Nat.le_of_ble_eq_true rfl) ⟨Nat.le_of_ble_eq_true rfl, Nat.le_of_ble_eq_true rfl⟩ dX6_shift_32 (fun g2 e1 => ?_)
      obtain ⟨r, rfl, hr⟩ := e1
      refine zi_iconst (v := (nI 0)) X dX6_shift_35 (by decide) ?_
      refine zi_istore X dX6_shift_36 (by decide) ?_
      have loop : ∀ m f, f + m = 6 → ∀ (s : Nat → Int) (q : Nat → Int64), (∀ u, u < 7 → q u = lI (s u)) → shO F m s = shP (Sl i) F → zM z (0 + 1 + 1) (0 + 6 + 6) 38 [some (.ref x), some (.int (nI i)), some (.int y), some (.int (nI k)), some (.int (nI f)), none] [] (mup g1 rw (rowA (cA 1) q)) := by
        intro m
        induction m with
        | zero =>
          intro f hf s q hq hs
          have : f = 6 := by omega
          subst this
          have c42 : nI 6 ≤ nI 6 := by decide
          have hw2 := isWT_row hw q
          have hx2 := hw2.2.2.1.1
          have hs' : s = shP (Sl i) F := hs
          have hq9 : ∀ u, u < 7 → (q u).toInt = shP (Sl i) F u := fun u hu => by rw [hq u hu, hs', lI_int (sh_bd (fun t ht => hb i t hi ht) ⟨b1, b2⟩ u hu)]
          refine zi_iload X dX6_shift_38 rfl ?_
          refine zi_bipush (v := (nI 6)) X dX6_shift_40 (by decide) ?_
          refine zi_icmp_ge (tgt := 89) X dX6_shift_42 (by decide) (fun c_42 => ?_) (fun c_42 => (by first | exact absurd c42 c_42 | exact absurd c_42 c42))
          refine zi_aload_n X dX6_shift_89 rfl rfl ?_
          refine zi_xcallVv X (x_requireStorable l hl D hx2 mup_self) kc_X6_requireStorable wm_X6_79 hx2 rfl wim_X6_requireStorable wse_X6_requireStorable ⟨Nat.le_of_ble_eq_true rfl, Nat.le_of_ble_eq_true rfl⟩ rfl rfl (Nat.le_of_ble_eq_true rfl) ⟨Nat.le_of_ble_eq_true rfl, Nat.le_of_ble_eq_true rfl⟩ dX6_shift_90 (fun E g3 e1 => zt_out X Vz (by obtain ⟨e1, e2, e3⟩ := e1; rw [e2]; exact ⟨⟨T, P, G, Ln, hw2⟩, Or.inr (Or.inr ⟨e1, i, k, hi, rfl, hk, rfl, by rw [← hF]; exact ⟨b1, b2⟩, fun w => e3 (fun u hu => by rw [hq9 u hu, hF]; exact w u hu)⟩)⟩) (by decide) (by decide)) (fun g3 e1 => ?_)
          obtain ⟨rfl, e1⟩ := e1
          have hr9 : st9 (shP (Sl i) F) := fun u hu => by rw [← hq9 u hu]; exact e1 u hu
          refine zi_aload_n X dX6_shift_93 rfl rfl ?_
          refine zi_iload_n X dX6_shift_94 rfl rfl ?_
          refine zi_callVi X (x_storeRow l D hw2.2.2.1 hk mup_self hq9 hr9) kc_X6_storeRow wm_X6_75 hx2 rfl wim_X6_storeRow wse_X6_storeRow ⟨Nat.le_of_ble_eq_true rfl, Nat.le_of_ble_eq_true rfl⟩ rfl rfl (Nat.le_of_ble_eq_true rfl) ⟨Nat.le_of_ble_eq_true rfl, Nat.le_of_ble_eq_true rfl⟩ dX6_shift_95 (fun y g3 e1 => ?_)
          obtain ⟨rfl, rfl⟩ := e1
          refine zi_xireturn X Vz dX6_shift_98 ?_
          rw [← hF]
          exact ⟨i, k, hi, rfl, hk, rfl, ⟨b1, b2⟩, hr9, rfl, T, P, G, Ln, isWT_set hw2 hk hr9⟩
        | succ m ih =>
          intro f hf s q hq hs
          have c42 : ¬ nI 6 ≤ nI f := Int32.not_le.mpr ((nI_ltI (by omega) (by decide)).mpr (by omega))
          refine zi_iload X dX6_shift_38 rfl ?_
          refine zi_bipush (v := (nI 6)) X dX6_shift_40 (by decide) ?_
          refine zi_icmp_ge (tgt := 89) X dX6_shift_42 (by decide) (fun c_42 => (by first | exact absurd c42 c_42 | exact absurd c_42 c42)) (fun c_42 => ?_)
          refine zi_iconst (v := (nI 5)) X dX6_shift_45 (by decide) ?_
          refine zi_istore X dX6_shift_46 (by decide) ?_
          have inner : ∀ m2, f + m2 ≤ 6 → ∀ (s2 : Nat → Int) (q : Nat → Int64), (∀ u, u < 7 → q u = lI (s2 u)) → shL F m2 s2 f = shL F (m + 1) s f → zM z (0 + 1 + 1) (0 + 6 + 6) 48 [some (.ref x), some (.int (nI i)), some (.int y), some (.int (nI k)), some (.int (nI f)), some (.int (nI (f + m2) - nI 1))] [] (mup g1 rw (rowA (cA 1) q)) := by
            intro m2
            induction m2 with
            | zero =>
              intro hm2 s2 q hq hs2
              have c52 : nI (f + 0) - nI 1 < nI f := (dI_lt (by omega) (by omega)).mpr (by omega)
              refine zi_iload X dX6_shift_48 rfl ?_
              refine zi_iload X dX6_shift_50 rfl ?_
              refine zi_icmp_lt (tgt := 83) X dX6_shift_52 (by decide) (fun c_52 => ?_) (fun c_52 => (by first | exact absurd c52 c_52 | exact absurd c_52 c52))
              refine zi_iinc (v := nI (f + 1)) X dX6_shift_83 rfl (nI_inc _) (by decide) ?_
              refine zi_goto (tgt := 38) X dX6_shift_86 (by decide) ?_
              refine zi_sub (L' := [some (.ref x), some (.int (nI i)), some (.int y), some (.int (nI k)), some (.int (nI (f + 1))), none]) (by repeat (first | exact trivial | refine And.intro rfl ?_)) ?_
              refine ih (f + 1) (by omega) s2 q hq ?_
              have h5 : 5 - m = f := by omega
              rw [← hs, show s2 = shL F (m + 1) s f from hs2]
              show _ = shO F m (shL F (m + 1) s (5 - m))
              rw [h5]
            | succ m2 ih2 =>
              intro hm2 s2 q hq hs2
              rw [show f + (m2 + 1) = f + m2 + 1 from rfl, nI_pr]
              have c52 : ¬ nI (f + m2) < nI f := fun w => by rw [nI_ltI (by omega) (by omega)] at w; omega
              obtain ⟨hx2, hsl, hsa, -⟩ := (isWT_row hw q).2.2.1
              have k2 : mup g1 rw (rowA (cA 1) q) rw = some (rowA (cA 1) q) := mup_self
              have hin : vp_in (nI (f + m2)) 7 := vin (by omega) (by decide)
              have hin2 : vp_in (nI (f + m2 + 1)) 7 := vin (by omega) (by decide)
              refine zi_iload X dX6_shift_48 rfl ?_
              refine zi_iload X dX6_shift_50 rfl ?_
              refine zi_icmp_lt (tgt := 83) X dX6_shift_52 (by decide) (fun c_52 => (by first | exact absurd c52 c_52 | exact absurd c_52 c52)) (fun c_52 => ?_)
              refine zi_aload_n X dX6_shift_55 rfl rfl ?_
              refine zi_getf (C := RX6) (T := TX6) (N := 8) (ci := 10) X (by first | assumption | exact mup_self | (rw [mup_ne (by assumption)]; assumption) | (rw [mup_ne (by assumption)]; exact mup_self) | (rw [mup_ne (by assumption), mup_ne (by assumption)]; assumption)) rfl in_X6 1 (by decide) wf_X6_14 rfl rfl dX6_shift_56 ?_
              refine zi_iload X dX6_shift_59 rfl ?_
              refine zi_dup2 X dX6_shift_61 rfl rfl ?_
              refine zi_lald X 1 (by first | assumption | exact mup_self | (rw [mup_ne (by assumption)]; assumption) | (rw [mup_ne (by assumption)]; exact mup_self) | (rw [mup_ne (by assumption), mup_ne (by assumption)]; assumption)) rfl (by assumption) dX6_shift_62 ?_
              refine zi_iload_n X dX6_shift_63 rfl rfl ?_
              refine zi_i2l X dX6_shift_64 ?_
              refine zi_aload_n X dX6_shift_65 rfl rfl ?_
              refine zi_getf (C := RX6) (T := TX6) (N := 8) (ci := 10) X (by first | assumption | exact mup_self | (rw [mup_ne (by assumption)]; assumption) | (rw [mup_ne (by assumption)]; exact mup_self) | (rw [mup_ne (by assumption), mup_ne (by assumption)]; assumption)) rfl in_X6 1 (by decide) wf_X6_14 rfl rfl dX6_shift_66 ?_
              refine zi_iload X dX6_shift_69 rfl ?_
              refine zi_iconst (v := (nI 1)) X dX6_shift_71 (by decide) ?_
              refine zi_iadd X dX6_shift_72 ?_
              rw [show nI (f + m2) + nI 1 = nI (f + m2 + 1) from (nI_succ _).symm]
              refine zi_lald X 1 (by first | assumption | exact mup_self | (rw [mup_ne (by assumption)]; assumption) | (rw [mup_ne (by assumption)]; exact mup_self) | (rw [mup_ne (by assumption), mup_ne (by assumption)]; assumption)) rfl (by assumption) dX6_shift_73 ?_
              rw [nI_cl (by omega : f + m2 < 2147483648), nI_cl (by omega : f + m2 + 1 < 2147483648), hq _ (by omega), hq _ (by omega), ef]
              refine zi_lmul X dX6_shift_74 ?_
              refine zi_ladd X dX6_shift_75 ?_
              rw [lI_mul, lI_add]
              refine zi_last X 1 (by first | assumption | exact mup_self | (rw [mup_ne (by assumption)]; assumption) | (rw [mup_ne (by assumption)]; exact mup_self) | (rw [mup_ne (by assumption), mup_ne (by assumption)]; assumption)) rfl (by assumption) dX6_shift_76 ?_
              rw [mup_mup, nI_cl (by omega)]
              refine zi_iinc X dX6_shift_77 rfl rfl (by decide) ?_
              refine zi_goto (tgt := 48) X dX6_shift_80 (by decide) ?_
              rw [i_m1]
              refine ih2 (by omega) (shI F s2 (f + m2)) (vp_updL q (f + m2) (lI (s2 (f + m2) + F * s2 (f + m2 + 1)))) (fun u hu => ?_) hs2
              unfold shI
              by_cases c : u = f + m2
              · rw [c, vpL_s, if_pos rfl]
              · rw [vpL_n c, if_neg c]; exact hq u hu
          have h9 := inner (m + 1) (by omega) s q hq rfl
          rw [show f + (m + 1) = 6 by omega, show nI 6 - nI 1 = nI 5 from by decide] at h9
          exact h9
      exact loop 6 0 rfl (Sl i) r (fun u hu => lI_of (hr u hu)) rfl
    · refine zi_throwS hl X Vz xok_X6_65 xs_X6_90 dX6_shift_20 dX6_shift_23 dX6_shift_24 dX6_shift_26 dX6_shift_29 (Nat.le_of_ble_eq_true rfl) (Nat.le_of_ble_eq_true rfl) (Nat.le_of_ble_eq_true rfl) (Nat.le_of_ble_eq_true rfl) (Nat.le_of_ble_eq_true rfl) (Nat.le_of_ble_eq_true rfl) ⟨hw0, Or.inr (Or.inl ⟨rfl, rd_nI hi, rd_nI hk, fun q => c_17 ((fa_le _ _).mpr (by rw [a2]; exact q.2))⟩)⟩
end X6H
