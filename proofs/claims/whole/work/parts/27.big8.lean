/-! SturmRoots$Big: divideBy -/
theorem lN_of {x : Int64} {X : Nat} (h : x.toInt = (X : Int)) : x = lN X := by
  have hr := fb_rngL x
  exact i64_ext (h.trans (pk_lT (by omega)).symm)
theorem lN_int {X : Nat} (h : X < 9223372036854775808) : (lN X).toInt = (X : Int) := pk_lT h
theorem dv_step {X Y d F B : Nat} (hF : 0 < F) (hFB : F < B) (hX : X = B * Y + d) (hd : d < B) : (X / F) % B = ((Y % F) * B + d) / F ∧ X % F = ((Y % F) * B + d) % F ∧ ((Y % F) * B + d) / F < B := by
  have h1 : Y = F * (Y / F) + Y % F := (Nat.div_add_mod Y F).symm
  have h2 : X = F * (B * (Y / F)) + ((Y % F) * B + d) := by
    rw [hX]
    generalize Y / F = q at h1
    generalize Y % F = r at h1
    rw [h1]
    grind
  have h3 : ((Y % F) * B + d) / F < B := by
    have : Y % F < F := Nat.mod_lt _ hF
    refine Nat.div_lt_of_lt_mul ?_
    have h4 : (Y % F + 1) * B ≤ F * B := Nat.mul_le_mul_right _ this
    rw [Nat.succ_mul] at h4
    omega
  refine ⟨?_, ?_, h3⟩
  · rw [h2, Nat.mul_add_div hF, Nat.mul_add_mod, Nat.mod_eq_of_lt h3]
  · rw [h2, Nat.mul_add_mod]
theorem bdig_div {U F i : Nat} : bdig (U / F) i = (U / BB ^ i / F) % BB := by
  unfold bdig
  rw [Nat.div_div_eq_div_mul, Nat.div_div_eq_div_mul, Nat.mul_comm F]
theorem div_next {U i : Nat} : U / BB ^ i = BB * (U / BB ^ (i + 1)) + bdig U i := by
  unfold bdig
  rw [Nat.pow_succ, ← Nat.div_div_eq_div_mul]
  exact (Nat.div_add_mod _ _).symm
theorem blen_div {U F : Nat} (hU : U < BB ^ 20) (hF0 : 0 < F) (hF : F < BB) : blen (U / F) = if blen U = 0 then 0 else if bdig (U / F) (blen U - 1) = 0 then blen U - 1 else blen U := by
  have hq : U / F < BB ^ 20 := Nat.lt_of_le_of_lt (Nat.div_le_self _ _) hU
  have hlt := blen_lt hU
  have hq2 : U / F < BB ^ blen U := Nat.lt_of_le_of_lt (Nat.div_le_self _ _) hlt
  have hle := blen_le_of hq hq2
  by_cases h0 : blen U = 0
  · rw [if_pos h0]; omega
  · rw [if_neg h0]
    obtain ⟨n, hn⟩ : ∃ n, blen U = n + 1 := ⟨blen U - 1, by omega⟩
    rw [hn] at hle hq2 ⊢
    have hge := blen_ge hU (by omega)
    rw [hn] at hge
    rw [show n + 1 - 1 = n by omega] at hge ⊢
    have e : blen (U / F) = stN (bdig (U / F)) (n + 1) := by
      have h20 := blen_le U
      exact stN_cut (by omega) (fun j h1 _ => bdig_big hq2 h1)
    rw [e, stN]
    by_cases hz : bdig (U / F) n = 0
    · rw [if_pos hz, if_pos hz]
      cases n with
      | zero => rfl
      | succ n =>
        have h2 : BB ^ n ≤ U / F := by
          refine (Nat.le_div_iff_mul_le hF0).mpr ?_
          rw [Nat.pow_succ] at hge
          exact Nat.le_trans (Nat.mul_le_mul_left _ (Nat.le_of_lt hF)) hge
        have h3 : U / F < BB ^ (n + 1) := by
          have e2 : bval (bdig (U / F)) (n + 2) = U / F := bval_bdig' hq2
          rw [bval, hz, Nat.zero_mul, Nat.add_zero] at e2
          rw [← e2]
          exact bval_lt (fun j _ => bdig_lt _ j)
        have h4 : bdig (U / F) n ≠ 0 := by
          unfold bdig
          have : 1 ≤ U / F / BB ^ n := (Nat.le_div_iff_mul_le (BB_pos n)).mpr (by omega)
          have h5 : U / F / BB ^ n < BB := Nat.div_lt_of_lt_mul (by rw [← Nat.pow_succ]; exact h3)
          rw [Nat.mod_eq_of_lt h5]
          omega
        rw [stN, if_neg h4]
    · rw [if_neg hz, if_neg hz]
theorem l_shl30 {x : Int64} {X : Nat} (h : x = lN X) : x <<< ((nI 30).toInt64 &&& 63) = lN (X * BB) := by
  rw [h, wb_shl X (k := 30) (by decide)]
theorem nI_m1 (x : Int32) : x + Int32.ofInt (-1) = x - nI 1 := by rw [Int32.sub_eq_add_neg]; rfl
theorem k_divideBy (l : Launch) (D : va_G) (cA : Nat → ClassId) {h : mH} {b r : Nat} {U F : Nat} {g f : Int32} (hb : h b = some (bO r (nI (blen U)) g)) (hr : h r = some (bA (cA 0) (bN (bdig U)))) (hU : U < BB ^ 20) (hf : f = nI F) (hF0 : 0 < F) (hF : F < BB) :
    mCv l yX1_divideBy cX1_divideBy 7 (rmd 1) D (mT cA) [.ref b, .int f] h (fun h1 => h1 = mup (mup h r (bA (cA 0) (bN (bdig (U / F))))) b (bO r (nI (blen (U / F))) g)) := by
  have hbr : b ≠ r := fun q => by rw [q, hr] at hb; cases hb
  have hBB : BB = 1073741824 := rfl
  have hl20 := blen_le U
  subst hf
  refine mEnter_v (by decide) (Nat.le_of_ble_eq_true rfl) rfl (fun z X Vz => ?_)
  have hfl : (nI F).toInt64 = lN F := nI_l (by rw [hBB] at hF; omega)
  have hne : ¬ (nI F).toInt64 = 0 := by
    rw [hfl]
    intro q
    have := (pk_lEQ (a := F) (b := 0) (by rw [hBB] at hF; omega) (by decide)).mp q
    omega
  refine zi_iload_n X dX1_divideBy_0 rfl rfl ?_
  refine zi_if_gt (tgt := 5) X dX1_divideBy_1 (by decide) (fun c_1 => ?_) (fun c_1 => (by first | exact absurd (show (0 : Int32) < nI F from nI_lt (a := 0) hF0 (by rw [hBB] at hF; omega)) c_1 | exact absurd c_1 (show (0 : Int32) < nI F from nI_lt (a := 0) hF0 (by rw [hBB] at hF; omega))))
  refine zi_lconst (v := lN 0) X dX1_divideBy_5 (by decide) ?_
  refine zi_lstore_n X dX1_divideBy_6 rfl (by decide) ?_
  refine zi_aload_n X dX1_divideBy_7 rfl rfl ?_
  refine zi_getf (C := RX1) (T := TX1) (N := 3) (ci := 5) X (by first | assumption | exact mup_self | (rw [mup_ne (by assumption)]; assumption) | (rw [mup_ne (by assumption)]; exact mup_self) | (rw [mup_ne (by assumption), mup_ne (by assumption)]; assumption)) rfl in_X1 1 (by decide) wf_X1_13 rfl rfl dX1_divideBy_8 ?_
  refine zi_iconst (v := (nI 1)) X dX1_divideBy_11 (by decide) ?_
  have fin : zM z 0 0 60 [some (.ref b), some (.int (nI F)), none, none, none, none, none] [] (mup h r (bA (cA 0) (bN (bdig (U / F))))) := by
    have hbl := blen_div hU hF0 hF
    have g1 : mup h r (bA (cA 0) (bN (bdig (U / F)))) b = some (bO r (nI (blen U)) g) := by rw [mup_ne hbr]; exact hb
    refine zi_aload_n X dX1_divideBy_60 rfl rfl ?_
    refine zi_getf (C := RX1) (T := TX1) (N := 3) (ci := 5) X (by first | assumption | exact mup_self | (rw [mup_ne (by assumption)]; assumption) | (rw [mup_ne (by assumption)]; exact mup_self) | (rw [mup_ne (by assumption), mup_ne (by assumption)]; assumption)) rfl in_X1 1 (by decide) wf_X1_13 rfl rfl dX1_divideBy_61 ?_
    refine zi_if_le (tgt := 91) X dX1_divideBy_64 (by decide) (fun c_64 => ?_) (fun c_64 => ?_)
    · have h0 := (nI_lez (by omega)).mp c_64
      refine zi_return X Vz dX1_divideBy_91 ?_
      rw [if_pos h0] at hbl
      rw [hbl]
      rw [h0] at g1
      exact (mup_same g1).symm
    · have h0 : ¬ blen U = 0 := fun q => c_64 ((nI_lez (by omega)).mpr q)
      obtain ⟨n, hn⟩ : ∃ n, blen U = n + 1 := ⟨blen U - 1, by omega⟩
      rw [if_neg h0, hn, show n + 1 - 1 = n by omega] at hbl
      rw [hn] at g1
      refine zi_aload_n X dX1_divideBy_67 rfl rfl ?_
      refine zi_getf (C := RX1) (T := TX1) (N := 3) (ci := 5) X (by first | assumption | exact mup_self | (rw [mup_ne (by assumption)]; assumption) | (rw [mup_ne (by assumption)]; exact mup_self) | (rw [mup_ne (by assumption), mup_ne (by assumption)]; assumption)) rfl in_X1 0 (by decide) wf_X1_9 rfl rfl dX1_divideBy_68 ?_
      refine zi_aload_n X dX1_divideBy_71 rfl rfl ?_
      refine zi_getf (C := RX1) (T := TX1) (N := 3) (ci := 5) X (by first | assumption | exact mup_self | (rw [mup_ne (by assumption)]; assumption) | (rw [mup_ne (by assumption)]; exact mup_self) | (rw [mup_ne (by assumption), mup_ne (by assumption)]; assumption)) rfl in_X1 1 (by decide) wf_X1_13 rfl rfl dX1_divideBy_72 ?_
      refine zi_iconst (v := (nI 1)) X dX1_divideBy_75 (by decide) ?_
      refine zi_isub X dX1_divideBy_76 ?_
      refine zi_iald X 0 (by first | assumption | exact mup_self | (rw [mup_ne (by assumption)]; assumption) | (rw [mup_ne (by assumption)]; exact mup_self) | (rw [mup_ne (by assumption), mup_ne (by assumption)]; assumption)) rfl (by rw [nI_pr]; exact vin (show n < 20 by omega) (by decide)) dX1_divideBy_77 ?_
      refine zi_if_ne (tgt := 91) X dX1_divideBy_78 (by decide) (fun c_78 => ?_) (fun c_78 => ?_)
      · have hz : ¬ bdig (U / F) n = 0 := fun q => c_78 (by rw [nI_pr, bN_at (by omega), q]; rfl)
        refine zi_return X Vz dX1_divideBy_91 ?_
        rw [if_neg hz] at hbl
        rw [hbl]
        exact (mup_same g1).symm
      · have hz : bdig (U / F) n = 0 := by
          rw [nI_pr, bN_at (by omega)] at c_78
          have := bdig_lt (U / F) n
          rw [hBB] at this
          exact (nI_z (by omega)).mp c_78
        refine zi_aload_n X dX1_divideBy_81 rfl rfl ?_
        refine zi_dup X dX1_divideBy_82 rfl ?_
        refine zi_getf (C := RX1) (T := TX1) (N := 3) (ci := 5) X (by first | assumption | exact mup_self | (rw [mup_ne (by assumption)]; assumption) | (rw [mup_ne (by assumption)]; exact mup_self) | (rw [mup_ne (by assumption), mup_ne (by assumption)]; assumption)) rfl in_X1 1 (by decide) wf_X1_13 rfl rfl dX1_divideBy_83 ?_
        refine zi_iconst (v := (nI 1)) X dX1_divideBy_86 (by decide) ?_
        refine zi_isub X dX1_divideBy_87 ?_
        refine zi_putf (C := RX1) (T := TX1) (N := 3) (ci := 5) (ty0 := tyX1) X (by first | assumption | exact mup_self | (rw [mup_ne (by assumption)]; assumption) | (rw [mup_ne (by assumption)]; exact mup_self) | (rw [mup_ne (by assumption), mup_ne (by assumption)]; assumption)) rfl in_X1 tyX1_ok nmX1 1 (by decide) wf_X1_13 rfl rfl rfl rfl rfl (Nat.le_of_ble_eq_true rfl) dX1_divideBy_88 ?_
        refine zi_return X Vz dX1_divideBy_91 ?_
        rw [if_pos hz] at hbl
        rw [hbl, nI_pr]
        rfl
  suffices key : ∀ i (c : Int64) (e : Nat → Nat), i ≤ blen U → c = lN ((U / BB ^ i) % F) → (∀ j, e j = if i ≤ j then bdig (U / F) j else bdig U j) → zM z 0 0 15 [some (.ref b), some (.int (nI F)), some (.long c), none, some (.int (nI i - nI 1)), none, none] [] (mup h r (bA (cA 0) (bN e))) from by
    refine zi_isub X dX1_divideBy_12 ?_
    refine zi_istore X dX1_divideBy_13 (by decide) ?_
    refine zi_sub (by repeat (first | exact trivial | refine And.intro rfl ?_)) (zi_eqh (mup_same hr).symm (key (blen U) (lN 0) (bdig U) (Nat.le_refl _) ?_ ?_))
    · rw [Nat.div_eq_of_lt (blen_lt hU), Nat.zero_mod]
    · intro j
      by_cases q : blen U ≤ j
      · rw [if_pos q, bdig_big (blen_lt hU) q, bdig_big (Nat.lt_of_le_of_lt (Nat.div_le_self _ _) (blen_lt hU)) q]
      · rw [if_neg q]
  intro i
  induction i with
  | zero =>
    intro c e hi hc he
    refine zi_iload X dX1_divideBy_15 rfl ?_
    refine zi_if_lt (tgt := 60) X dX1_divideBy_17 (by decide) (fun c_17 => ?_) (fun c_17 => (by first | exact absurd (by decide) c_17 | exact absurd c_17 (by decide)))
    refine zi_sub (by repeat (first | exact trivial | refine And.intro rfl ?_)) (zi_eqh ?_ fin)
    congr 3
    funext j
    rw [he j, if_pos (Nat.zero_le _)]
  | succ i ih =>
    intro c e hi hc he
    have hlt0 : ¬ nI (i + 1) - nI 1 < 0 := by rw [nI_pr]; exact nI_pos (by omega)
    have hei : e i = bdig U i := by rw [he i, if_neg (by omega)]
    have hdl := bdig_lt U i
    have hR : U / BB ^ (i + 1) % F < F := Nat.mod_lt _ hF0
    have hst := dv_step (X := U / BB ^ i) (Y := U / BB ^ (i + 1)) (B := BB) hF0 hF div_next hdl
    generalize hRe : U / BB ^ (i + 1) % F = R at hR hc hst
    have hbd : R * BB + bdig U i < 9223372036854775808 := by
      rw [hBB] at hF hdl ⊢
      omega
    have hval : c <<< ((nI 30).toInt64 &&& 63) + ((bN e) (nI (i + 1) - nI 1).toNatClampNeg).toInt64 = lN (R * BB + bdig U i) := by
      rw [l_shl30 hc, nI_pr, bN_at (by omega), hei, nI_l (by rw [hBB] at hdl; omega), lN_add]
    refine zi_iload X dX1_divideBy_15 rfl ?_
    refine zi_if_lt (tgt := 60) X dX1_divideBy_17 (by decide) (fun c_17 => (by first | exact absurd hlt0 c_17 | exact absurd c_17 hlt0)) (fun c_17 => ?_)
    refine zi_lload_n X dX1_divideBy_20 rfl rfl ?_
    refine zi_bipush (v := (nI 30)) X dX1_divideBy_21 (by decide) ?_
    refine zi_lshl X dX1_divideBy_23 ?_
    refine zi_aload_n X dX1_divideBy_24 rfl rfl ?_
    refine zi_getf (C := RX1) (T := TX1) (N := 3) (ci := 5) X (by first | assumption | exact mup_self | (rw [mup_ne (by assumption)]; assumption) | (rw [mup_ne (by assumption)]; exact mup_self) | (rw [mup_ne (by assumption), mup_ne (by assumption)]; assumption)) rfl in_X1 0 (by decide) wf_X1_9 rfl rfl dX1_divideBy_25 ?_
    refine zi_iload X dX1_divideBy_28 rfl ?_
    refine zi_iald X 0 (by first | assumption | exact mup_self | (rw [mup_ne (by assumption)]; assumption) | (rw [mup_ne (by assumption)]; exact mup_self) | (rw [mup_ne (by assumption), mup_ne (by assumption)]; assumption)) rfl (by rw [nI_pr]; exact vin (show i < 20 by omega) (by decide)) dX1_divideBy_30 ?_
    refine zi_i2l X dX1_divideBy_31 ?_
    refine zi_ladd X dX1_divideBy_32 ?_
    refine zi_lstore X dX1_divideBy_33 (by decide) ?_
    refine zi_aload_n X dX1_divideBy_35 rfl rfl ?_
    refine zi_getf (C := RX1) (T := TX1) (N := 3) (ci := 5) X (by first | assumption | exact mup_self | (rw [mup_ne (by assumption)]; assumption) | (rw [mup_ne (by assumption)]; exact mup_self) | (rw [mup_ne (by assumption), mup_ne (by assumption)]; assumption)) rfl in_X1 0 (by decide) wf_X1_9 rfl rfl dX1_divideBy_36 ?_
    refine zi_iload X dX1_divideBy_39 rfl ?_
    refine zi_lload X dX1_divideBy_41 rfl ?_
    refine zi_iload_n X dX1_divideBy_43 rfl rfl ?_
    refine zi_i2l X dX1_divideBy_44 ?_
    refine zi_ldiv X dX1_divideBy_45 hne ?_
    refine zi_l2i X dX1_divideBy_46 ?_
    refine zi_iast X 0 (by first | assumption | exact mup_self | (rw [mup_ne (by assumption)]; assumption) | (rw [mup_ne (by assumption)]; exact mup_self) | (rw [mup_ne (by assumption), mup_ne (by assumption)]; assumption)) rfl (by rw [nI_pr]; exact vin (show i < 20 by omega) (by decide)) dX1_divideBy_47 ?_
    refine zi_lload X dX1_divideBy_48 rfl ?_
    refine zi_iload_n X dX1_divideBy_50 rfl rfl ?_
    refine zi_i2l X dX1_divideBy_51 ?_
    refine zi_lrem X dX1_divideBy_52 hne ?_
    refine zi_lstore_n X dX1_divideBy_53 rfl (by decide) ?_
    refine zi_iinc X dX1_divideBy_54 rfl rfl (by decide) ?_
    rw [hval, hfl, pk_lRem hbd hF0 (by rw [hBB] at hF; omega), pk_lDiv hbd hF0 (by rw [hBB] at hF; omega), lN_i, nI_pr, bN_upd (by omega), mup_mup, nI_m1]
    refine zi_goto (tgt := 15) X dX1_divideBy_57 (by decide) ?_
    refine zi_sub (by repeat (first | exact trivial | refine And.intro rfl ?_)) (ih _ (updN e i ((R * BB + bdig U i) / F)) (by omega) ?_ ?_)
    · rw [← hst.2.1]
    · intro j
      by_cases q : j = i
      · subst q
        rw [updN_s, if_pos (Nat.le_refl _), bdig_div, hst.1]
      · rw [updN_n q, he j]
        by_cases q2 : i + 1 ≤ j
        · rw [if_pos q2, if_pos (by omega)]
        · rw [if_neg q2, if_neg (by omega)]
