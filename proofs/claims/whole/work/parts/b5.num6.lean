/-! SturmRootsModel's numbers: left, right, compare, ints -/
theorem fmd_at {w v : Int} {k j : Nat} (hj : j < k) (h : j < 48) : fmd w v k (nI j).toNatClampNeg = nI (nd v j) := by
  rw [nI_cl (by omega)]; unfold fmd; rw [if_pos hj, nf_at h]
theorem nI_dm (k : Nat) : nI k + Int32.ofInt (-1) = nI k - nI 1 := by
  rw [Int32.sub_eq_add_neg]
  rfl
theorem nI_s3 {k f : Nat} (hk : k < 100) (hf : f < 100000) (h : k < f + 1) : nI k - nI f - nI 1 < 0 := by
  have h1 := pk_sub_toInt (a := k) (b := f) (by omega) (by omega)
  have h2 : (nI 1).toInt = 1 := by decide
  rw [fa_lt, fb_subI (by rw [h1, h2]; omega) (by rw [h1, h2]; omega), h1, h2]
  have : (0 : Int32).toInt = 0 := by decide
  omega
section NUM6
variable {cA : Nat → ClassId} {h : mH} {a b : Nat} {va vb : Int}
theorem n_left (l : Launch) (D : va_G) (ha : h a = some (nE (cA 0) va)) {B : Nat} (hB : B < 100000) :
    mCv l yX7_left cX7_left 7 (rmd 1) D (mT cA) [.ref a, .int (nI B)] h (fun h1 => h1 = mup h a (nE (cA 0) (va * 2 ^ B))) := by
  refine mEnter_v (by decide) (Nat.le_of_ble_eq_true rfl) rfl (fun z X Vz => ?_)
  refine zi_iload_n X dX7_left_0 rfl rfl ?_
  refine zi_bipush (v := (nI 32)) X dX7_left_1 (by decide) ?_
  refine zi_idiv X dX7_left_3 (by decide) ?_
  refine zi_istore_n X dX7_left_4 rfl (by decide) ?_
  refine zi_iload_n X dX7_left_5 rfl rfl ?_
  refine zi_bipush (v := (nI 32)) X dX7_left_6 (by decide) ?_
  refine zi_irem X dX7_left_8 (by decide) ?_
  refine zi_istore_n X dX7_left_9 rfl (by decide) ?_
  refine zi_bipush (v := (nI 47)) X dX7_left_10 (by decide) ?_
  refine zi_istore X dX7_left_12 (by decide) ?_
  rw [pk_rem (by omega) (by decide) (by decide), pk_div (by omega) (by decide) (by decide)]
  generalize hf : B / 32 = f
  generalize hy : B % 32 = y
  have hy32 : y < 32 := by omega
  have hBf : B = 32 * f + y := by omega
  have hf1 : f < 100000 := by omega
  suffices key : ∀ m, m ≤ 48 → zM z 0 0 14 [some (.ref a), some (.int (nI B)), some (.int (nI f)), some (.int (nI y)), some (.int (nI m - nI 1)), none, none] [] (mup h a (nA (cA 0) (fmd (va * 2 ^ B) va m))) from by
    have := key 48 (Nat.le_refl 48)
    rw [fmd_48] at this
    exact zi_sub (by repeat (first | exact trivial | refine And.intro rfl ?_)) (zi_eqh (mup_same ha).symm this)
  intro m
  induction m with
  | zero =>
    intro hm
    refine zi_iload X dX7_left_14 rfl ?_
    refine zi_if_lt (tgt := 92) X dX7_left_16 (by decide) (fun c_16 => ?_) (fun c_16 => (by first | exact absurd (by decide) c_16 | exact absurd c_16 (by decide)))
    refine zi_return X Vz dX7_left_92 ?_
    rw [fmd_0]
    rfl
  | succ k ih =>
    intro hm
    have hk : k < 48 := by omega
    rw [nI_pr]
    have hs := nd_shl va (f := f) (b := y) (k := k) hy32
    rw [← hBf] at hs
    generalize hH : (if f ≤ k then nd va (k - f) else 0) = H at hs
    generalize hL : (if f + 1 ≤ k then nd va (k - f - 1) else 0) = Lw at hs
    have hLl : Lw < CC := by
      rw [← hL]
      split
      · exact nd_lt _ _
      · decide
    have hd : nI (nd (va * 2 ^ B) k) = nI (2 ^ y * H + Lw / 2 ^ (32 - y)) := by
      refine (nI_of_int ?_).symm
      rw [hs, Int.natCast_add, Int.natCast_mul, Int.natCast_ediv, Int.natCast_pow, Int.natCast_pow]
      rfl
    have s85 : ∀ v : Int32, v = nI (nd (va * 2 ^ B) k) → zM z 0 0 85 [some (.ref a), some (.int (nI B)), some (.int (nI f)), some (.int (nI y)), some (.int (nI k)), none, none] [.int v, .int (nI k), .ref a] (mup h a (nA (cA 0) (fmd (va * 2 ^ B) va (k + 1)))) := fun v hv => by
      refine zi_iast X 0 (by first | assumption | exact mup_self | (rw [mup_ne (by assumption)]; assumption) | (rw [mup_ne (by assumption)]; exact mup_self) | (rw [mup_ne (by assumption), mup_ne (by assumption)]; assumption)) rfl (vin hk (by decide)) dX7_left_85 ?_
      rw [hv, fmd_up hk, mup_mup]
      refine zi_iinc X dX7_left_86 rfl rfl (by decide) ?_
      refine zi_goto (tgt := 14) X dX7_left_89 (by decide) ?_
      rw [nI_dm]
      exact zi_sub (by repeat (first | exact trivial | refine And.intro rfl ?_)) (ih (by omega))
    have s59 : zM z 0 0 59 [some (.ref a), some (.int (nI B)), some (.int (nI f)), some (.int (nI y)), some (.int (nI k)), some (.int (nI H)), none] [.int (nI Lw)] (mup h a (nA (cA 0) (fmd (va * 2 ^ B) va (k + 1)))) := by
      refine zi_istore X dX7_left_59 (by decide) ?_
      refine zi_aload_n X dX7_left_61 rfl rfl ?_
      refine zi_iload X dX7_left_62 rfl ?_
      refine zi_iload_n X dX7_left_64 rfl rfl ?_
      refine zi_if_ne (tgt := 73) X dX7_left_65 (by decide) (fun c_65 => ?_) (fun c_65 => ?_)
      · have hy0 : ¬ y = 0 := fun q => c_65 (by rw [q]; rfl)
        refine zi_iload X dX7_left_73 rfl ?_
        refine zi_iload_n X dX7_left_75 rfl rfl ?_
        refine zi_ishl X dX7_left_76 ?_
        refine zi_iload X dX7_left_77 rfl ?_
        refine zi_bipush (v := (nI 32)) X dX7_left_79 (by decide) ?_
        refine zi_iload_n X dX7_left_81 rfl rfl ?_
        refine zi_isub X dX7_left_82 ?_
        refine zi_iushr X dX7_left_83 ?_
        refine zi_ior X dX7_left_84 ?_
        refine zi_sub (by repeat (first | exact trivial | refine And.intro rfl ?_)) (s85 _ ?_)
        rw [hd, nI_shl hy32, pk_sub (by omega), nI_ushr hLl (by omega)]
        refine fa_or_sum (k := y) H ?_
        refine Nat.div_lt_of_lt_mul ?_
        rw [← Nat.pow_add, show 32 - y + y = 32 by omega]
        exact hLl
      · have hy0 : y = 0 := (nI_z (by omega)).mp c_65
        refine zi_iload X dX7_left_68 rfl ?_
        refine zi_goto (tgt := 85) X dX7_left_70 (by decide) ?_
        refine zi_sub (by repeat (first | exact trivial | refine And.intro rfl ?_)) (s85 _ ?_)
        rw [hd, hy0, Nat.pow_zero, Nat.one_mul, Nat.div_eq_of_lt hLl]
        rfl
    have s36 : zM z 0 0 36 [some (.ref a), some (.int (nI B)), some (.int (nI f)), some (.int (nI y)), some (.int (nI k)), none, none] [.int (nI H)] (mup h a (nA (cA 0) (fmd (va * 2 ^ B) va (k + 1)))) := by
      by_cases c : f + 1 ≤ k
      · have e : nI k - nI f - nI 1 = nI (k - f - 1) := by rw [pk_sub (by omega), pk_sub (by omega)]
        refine zi_istore X dX7_left_36 (by decide) ?_
        refine zi_iload X dX7_left_38 rfl ?_
        refine zi_iload_n X dX7_left_40 rfl rfl ?_
        refine zi_isub X dX7_left_41 ?_
        refine zi_iconst (v := (nI 1)) X dX7_left_42 (by decide) ?_
        refine zi_isub X dX7_left_43 ?_
        refine zi_if_lt (tgt := 58) X dX7_left_44 (by decide) (fun c_44 => (by first | exact absurd (by rw [e]; exact nI_pos (by omega)) c_44 | exact absurd c_44 (by rw [e]; exact nI_pos (by omega)))) (fun c_44 => ?_)
        refine zi_aload_n X dX7_left_47 rfl rfl ?_
        refine zi_iload X dX7_left_48 rfl ?_
        refine zi_iload_n X dX7_left_50 rfl rfl ?_
        refine zi_isub X dX7_left_51 ?_
        refine zi_iconst (v := (nI 1)) X dX7_left_52 (by decide) ?_
        refine zi_isub X dX7_left_53 ?_
        refine zi_iald X 0 (by first | assumption | exact mup_self | (rw [mup_ne (by assumption)]; assumption) | (rw [mup_ne (by assumption)]; exact mup_self) | (rw [mup_ne (by assumption), mup_ne (by assumption)]; assumption)) rfl (by rw [e]; exact vin (show k - f - 1 < 48 by omega) (by decide)) dX7_left_54 ?_
        refine zi_goto (tgt := 59) X dX7_left_55 (by decide) ?_
        rw [e, fmd_at (by omega) (by omega)]
        rw [if_pos c] at hL
        rw [hL]
        exact s59
      · refine zi_istore X dX7_left_36 (by decide) ?_
        refine zi_iload X dX7_left_38 rfl ?_
        refine zi_iload_n X dX7_left_40 rfl rfl ?_
        refine zi_isub X dX7_left_41 ?_
        refine zi_iconst (v := (nI 1)) X dX7_left_42 (by decide) ?_
        refine zi_isub X dX7_left_43 ?_
        refine zi_if_lt (tgt := 58) X dX7_left_44 (by decide) (fun c_44 => ?_) (fun c_44 => (by first | exact absurd (nI_s3 (by omega) hf1 (by omega)) c_44 | exact absurd c_44 (nI_s3 (by omega) hf1 (by omega))))
        refine zi_iconst (v := (nI 0)) X dX7_left_58 (by decide) ?_
        rw [if_neg c] at hL
        rw [← hL] at s59
        exact s59
    by_cases c : f ≤ k
    · have e : nI k - nI f = nI (k - f) := by rw [pk_sub (by omega)]
      refine zi_iload X dX7_left_14 rfl ?_
      refine zi_if_lt (tgt := 92) X dX7_left_16 (by decide) (fun c_16 => (by first | exact absurd (nI_pos (by omega)) c_16 | exact absurd c_16 (nI_pos (by omega)))) (fun c_16 => ?_)
      refine zi_iload X dX7_left_19 rfl ?_
      refine zi_iload_n X dX7_left_21 rfl rfl ?_
      refine zi_isub X dX7_left_22 ?_
      refine zi_if_lt (tgt := 35) X dX7_left_23 (by decide) (fun c_23 => (by first | exact absurd (by rw [e]; exact nI_pos (by omega)) c_23 | exact absurd c_23 (by rw [e]; exact nI_pos (by omega)))) (fun c_23 => ?_)
      refine zi_aload_n X dX7_left_26 rfl rfl ?_
      refine zi_iload X dX7_left_27 rfl ?_
      refine zi_iload_n X dX7_left_29 rfl rfl ?_
      refine zi_isub X dX7_left_30 ?_
      refine zi_iald X 0 (by first | assumption | exact mup_self | (rw [mup_ne (by assumption)]; assumption) | (rw [mup_ne (by assumption)]; exact mup_self) | (rw [mup_ne (by assumption), mup_ne (by assumption)]; assumption)) rfl (by rw [e]; exact vin (show k - f < 48 by omega) (by decide)) dX7_left_31 ?_
      refine zi_goto (tgt := 36) X dX7_left_32 (by decide) ?_
      rw [e, fmd_at (by omega) (by omega)]
      rw [if_pos c] at hH
      rw [hH]
      exact s36
    · refine zi_iload X dX7_left_14 rfl ?_
      refine zi_if_lt (tgt := 92) X dX7_left_16 (by decide) (fun c_16 => (by first | exact absurd (nI_pos (by omega)) c_16 | exact absurd c_16 (nI_pos (by omega)))) (fun c_16 => ?_)
      refine zi_iload X dX7_left_19 rfl ?_
      refine zi_iload_n X dX7_left_21 rfl rfl ?_
      refine zi_isub X dX7_left_22 ?_
      refine zi_if_lt (tgt := 35) X dX7_left_23 (by decide) (fun c_23 => ?_) (fun c_23 => (by first | exact absurd (pk_sneg (by omega) (by omega)) c_23 | exact absurd c_23 (pk_sneg (by omega) (by omega))))
      refine zi_iconst (v := (nI 0)) X dX7_left_35 (by decide) ?_
      rw [if_neg c] at hH
      rw [← hH] at s36
      exact s36
theorem n_right (l : Launch) (D : va_G) (ha : h a = some (nE (cA 0) va)) {B n : Nat} (hB : B < 100000) (hn : n ≤ 48) (h0 : 0 ≤ va) (hv : va < cp n) :
    mCv l yX7_right cX7_right 8 (rmd 1) D (mT cA) [.ref a, .int (nI B), .int (nI n)] h (fun h1 => h1 = mup h a (nE (cA 0) (va / 2 ^ B))) := by
  refine mEnter_v (by decide) (Nat.le_of_ble_eq_true rfl) rfl (fun z X Vz => ?_)
  refine zi_iload_n X dX7_right_0 rfl rfl ?_
  refine zi_bipush (v := (nI 32)) X dX7_right_1 (by decide) ?_
  refine zi_idiv X dX7_right_3 (by decide) ?_
  refine zi_istore_n X dX7_right_4 rfl (by decide) ?_
  refine zi_iload_n X dX7_right_5 rfl rfl ?_
  refine zi_bipush (v := (nI 32)) X dX7_right_6 (by decide) ?_
  refine zi_irem X dX7_right_8 (by decide) ?_
  refine zi_istore X dX7_right_9 (by decide) ?_
  refine zi_iconst (v := (nI 0)) X dX7_right_11 (by decide) ?_
  refine zi_istore X dX7_right_12 (by decide) ?_
  rw [pk_rem (by omega) (by decide) (by decide), pk_div (by omega) (by decide) (by decide)]
  generalize hf : B / 32 = f
  generalize hy : B % 32 = y
  have hy32 : y < 32 := by omega
  have hBf : B = 32 * f + y := by omega
  have hf1 : f < 100000 := by omega
  have hw : va / 2 ^ B < cp n := by
    have h1 : va / 2 ^ B ≤ va := Int.ediv_le_self _ h0
    omega
  have hw0 : 0 ≤ va / 2 ^ B := Int.ediv_nonneg h0 (Int.le_of_lt (tw_pos B))
  suffices key : ∀ m k, k + m = n → zM z 0 0 14 [some (.ref a), some (.int (nI B)), some (.int (nI n)), some (.int (nI f)), some (.int (nI y)), some (.int (nI k)), none, none] [] (mup h a (nA (cA 0) (fmx (va / 2 ^ B) va k))) from by
    have := key n 0 (Nat.zero_add n)
    rw [fmx_0] at this
    exact zi_sub (by repeat (first | exact trivial | refine And.intro rfl ?_)) (zi_eqh (mup_same ha).symm this)
  intro m
  induction m with
  | zero =>
    intro k hk
    obtain rfl : k = n := by omega
    refine zi_iload X dX7_right_14 rfl ?_
    refine zi_iload_n X dX7_right_16 rfl rfl ?_
    refine zi_icmp_ge (tgt := 98) X dX7_right_17 (by decide) (fun c_17 => ?_) (fun c_17 => (by first | exact absurd (Int32.le_refl _) c_17 | exact absurd c_17 (Int32.le_refl _)))
    refine zi_return X Vz dX7_right_98 ?_
    have e : fmx (va / 2 ^ B) va k = nf (va / 2 ^ B) := by
      funext j
      unfold fmx
      by_cases q : j < k
      · rw [if_pos q]
      · rw [if_neg q]
        by_cases q2 : j < 48
        · rw [nf_at q2, nf_at q2, nd_big h0 hv (by omega), nd_big hw0 hw (by omega)]
        · rw [nf_z q2, nf_z q2]
    rw [e]
    rfl
  | succ m ih =>
    intro k hkm
    have hk : k < 48 := by omega
    have hs := nd_shr va (f := f) (b := y) (k := k) hy32
    rw [← hBf] at hs
    have hd : nI (nd (va / 2 ^ B) k) = nI (2 ^ (32 - y) * nd va (k + f + 1) + nd va (k + f) / 2 ^ y) := by
      refine (nI_of_int ?_).symm
      rw [hs, Int.natCast_add, Int.natCast_mul, Int.natCast_ediv, Int.natCast_pow, Int.natCast_pow]
      rfl
    have s91 : ∀ v : Int32, v = nI (nd (va / 2 ^ B) k) → zM z 0 0 91 [some (.ref a), some (.int (nI B)), some (.int (nI n)), some (.int (nI f)), some (.int (nI y)), some (.int (nI k)), none, none] [.int v, .int (nI k), .ref a] (mup h a (nA (cA 0) (fmx (va / 2 ^ B) va k))) := fun v hv => by
      refine zi_iast X 0 (by first | assumption | exact mup_self | (rw [mup_ne (by assumption)]; assumption) | (rw [mup_ne (by assumption)]; exact mup_self) | (rw [mup_ne (by assumption), mup_ne (by assumption)]; assumption)) rfl (vin hk (by decide)) dX7_right_91 ?_
      rw [hv, fmx_up hk, mup_mup]
      refine zi_iinc (v := nI (k + 1)) X dX7_right_92 rfl (nI_inc _) (by decide) ?_
      refine zi_goto (tgt := 14) X dX7_right_95 (by decide) ?_
      exact zi_sub (by repeat (first | exact trivial | refine And.intro rfl ?_)) (ih (k + 1) (by omega))
    have at_ : ∀ j, k ≤ j → j < 48 → fmx (va / 2 ^ B) va k (nI j).toNatClampNeg = nI (nd va j) := fun j h1 h2 => by
      rw [nI_cl (by omega)]; unfold fmx; rw [if_neg (by omega), nf_at h2]
    have s62 : zM z 0 0 62 [some (.ref a), some (.int (nI B)), some (.int (nI n)), some (.int (nI f)), some (.int (nI y)), some (.int (nI k)), some (.int (nI (nd va (k + f)))), none] [.int (nI (nd va (k + f + 1)))] (mup h a (nA (cA 0) (fmx (va / 2 ^ B) va k))) := by
      refine zi_istore X dX7_right_62 (by decide) ?_
      refine zi_aload_n X dX7_right_64 rfl rfl ?_
      refine zi_iload X dX7_right_65 rfl ?_
      refine zi_iload X dX7_right_67 rfl ?_
      refine zi_if_ne (tgt := 77) X dX7_right_69 (by decide) (fun c_69 => ?_) (fun c_69 => ?_)
      · have hy0 : ¬ y = 0 := fun q => c_69 (by rw [q]; rfl)
        refine zi_iload X dX7_right_77 rfl ?_
        refine zi_iload X dX7_right_79 rfl ?_
        refine zi_iushr X dX7_right_81 ?_
        refine zi_iload X dX7_right_82 rfl ?_
        refine zi_bipush (v := (nI 32)) X dX7_right_84 (by decide) ?_
        refine zi_iload X dX7_right_86 rfl ?_
        refine zi_isub X dX7_right_88 ?_
        refine zi_ishl X dX7_right_89 ?_
        refine zi_ior X dX7_right_90 ?_
        refine zi_sub (by repeat (first | exact trivial | refine And.intro rfl ?_)) (s91 _ ?_)
        rw [hd, pk_sub (by omega), nI_shl (by omega), nI_ushr (nd_lt _ _) (by omega), Int32.or_comm]
        refine fa_or_sum (k := 32 - y) (nd va (k + f + 1)) ?_
        refine Nat.div_lt_of_lt_mul ?_
        rw [← Nat.pow_add, show y + (32 - y) = 32 by omega]
        exact nd_lt _ _
      · have hy0 : y = 0 := (nI_z (by omega)).mp c_69
        refine zi_iload X dX7_right_72 rfl ?_
        refine zi_goto (tgt := 91) X dX7_right_74 (by decide) ?_
        refine zi_sub (by repeat (first | exact trivial | refine And.intro rfl ?_)) (s91 _ ?_)
        rw [hd, hy0, Nat.pow_zero, Nat.div_one]
        refine (nI_eqm ?_).symm
        exact Nat.mul_add_mod _ _ _
    have s38 : zM z 0 0 38 [some (.ref a), some (.int (nI B)), some (.int (nI n)), some (.int (nI f)), some (.int (nI y)), some (.int (nI k)), none, none] [.int (nI (nd va (k + f)))] (mup h a (nA (cA 0) (fmx (va / 2 ^ B) va k))) := by
      by_cases c : k + f + 1 < n
      · refine zi_istore X dX7_right_38 (by decide) ?_
        refine zi_iload X dX7_right_40 rfl ?_
        refine zi_iload_n X dX7_right_42 rfl rfl ?_
        refine zi_iadd X dX7_right_43 ?_
        refine zi_iconst (v := (nI 1)) X dX7_right_44 (by decide) ?_
        refine zi_iadd X dX7_right_45 ?_
        refine zi_iload_n X dX7_right_46 rfl rfl ?_
        refine zi_icmp_ge (tgt := 61) X dX7_right_47 (by decide) (fun c_47 => (by first | exact absurd (by rw [nI_add, nI_add]; exact nI_ge c (by omega)) c_47 | exact absurd c_47 (by rw [nI_add, nI_add]; exact nI_ge c (by omega)))) (fun c_47 => ?_)
        refine zi_aload_n X dX7_right_50 rfl rfl ?_
        refine zi_iload X dX7_right_51 rfl ?_
        refine zi_iload_n X dX7_right_53 rfl rfl ?_
        refine zi_iadd X dX7_right_54 ?_
        refine zi_iconst (v := (nI 1)) X dX7_right_55 (by decide) ?_
        refine zi_iadd X dX7_right_56 ?_
        refine zi_iald X 0 (by first | assumption | exact mup_self | (rw [mup_ne (by assumption)]; assumption) | (rw [mup_ne (by assumption)]; exact mup_self) | (rw [mup_ne (by assumption), mup_ne (by assumption)]; assumption)) rfl (by rw [nI_add, nI_add]; exact vin (show k + f + 1 < 48 by omega) (by decide)) dX7_right_57 ?_
        refine zi_goto (tgt := 62) X dX7_right_58 (by decide) ?_
        rw [nI_add, nI_add, at_ _ (by omega) (by omega)]
        exact s62
      · refine zi_istore X dX7_right_38 (by decide) ?_
        refine zi_iload X dX7_right_40 rfl ?_
        refine zi_iload_n X dX7_right_42 rfl rfl ?_
        refine zi_iadd X dX7_right_43 ?_
        refine zi_iconst (v := (nI 1)) X dX7_right_44 (by decide) ?_
        refine zi_iadd X dX7_right_45 ?_
        refine zi_iload_n X dX7_right_46 rfl rfl ?_
        refine zi_icmp_ge (tgt := 61) X dX7_right_47 (by decide) (fun c_47 => ?_) (fun c_47 => (by first | exact absurd (by rw [nI_add, nI_add]; exact nI_le (show n ≤ k + f + 1 by omega) (by omega)) c_47 | exact absurd c_47 (by rw [nI_add, nI_add]; exact nI_le (show n ≤ k + f + 1 by omega) (by omega))))
        refine zi_iconst (v := (nI 0)) X dX7_right_61 (by decide) ?_
        have e := nd_big h0 hv (show n ≤ k + f + 1 by omega)
        rw [e] at s62
        exact s62
    by_cases c : k + f < n
    · refine zi_iload X dX7_right_14 rfl ?_
      refine zi_iload_n X dX7_right_16 rfl rfl ?_
      refine zi_icmp_ge (tgt := 98) X dX7_right_17 (by decide) (fun c_17 => (by first | exact absurd (nI_ge (show k < n by omega) (by omega)) c_17 | exact absurd c_17 (nI_ge (show k < n by omega) (by omega)))) (fun c_17 => ?_)
      refine zi_iload X dX7_right_20 rfl ?_
      refine zi_iload_n X dX7_right_22 rfl rfl ?_
      refine zi_iadd X dX7_right_23 ?_
      refine zi_iload_n X dX7_right_24 rfl rfl ?_
      refine zi_icmp_ge (tgt := 37) X dX7_right_25 (by decide) (fun c_25 => (by first | exact absurd (by rw [nI_add]; exact nI_ge c (by omega)) c_25 | exact absurd c_25 (by rw [nI_add]; exact nI_ge c (by omega)))) (fun c_25 => ?_)
      refine zi_aload_n X dX7_right_28 rfl rfl ?_
      refine zi_iload X dX7_right_29 rfl ?_
      refine zi_iload_n X dX7_right_31 rfl rfl ?_
      refine zi_iadd X dX7_right_32 ?_
      refine zi_iald X 0 (by first | assumption | exact mup_self | (rw [mup_ne (by assumption)]; assumption) | (rw [mup_ne (by assumption)]; exact mup_self) | (rw [mup_ne (by assumption), mup_ne (by assumption)]; assumption)) rfl (by rw [nI_add]; exact vin (show k + f < 48 by omega) (by decide)) dX7_right_33 ?_
      refine zi_goto (tgt := 38) X dX7_right_34 (by decide) ?_
      rw [nI_add, at_ _ (by omega) (by omega)]
      exact s38
    · refine zi_iload X dX7_right_14 rfl ?_
      refine zi_iload_n X dX7_right_16 rfl rfl ?_
      refine zi_icmp_ge (tgt := 98) X dX7_right_17 (by decide) (fun c_17 => (by first | exact absurd (nI_ge (show k < n by omega) (by omega)) c_17 | exact absurd c_17 (nI_ge (show k < n by omega) (by omega)))) (fun c_17 => ?_)
      refine zi_iload X dX7_right_20 rfl ?_
      refine zi_iload_n X dX7_right_22 rfl rfl ?_
      refine zi_iadd X dX7_right_23 ?_
      refine zi_iload_n X dX7_right_24 rfl rfl ?_
      refine zi_icmp_ge (tgt := 37) X dX7_right_25 (by decide) (fun c_25 => ?_) (fun c_25 => (by first | exact absurd (by rw [nI_add]; exact nI_le (show n ≤ k + f by omega) (by omega)) c_25 | exact absurd c_25 (by rw [nI_add]; exact nI_le (show n ≤ k + f by omega) (by omega))))
      refine zi_iconst (v := (nI 0)) X dX7_right_37 (by decide) ?_
      have e := nd_big h0 hv (show n ≤ k + f by omega)
      rw [e] at s38
      exact s38
end NUM6
