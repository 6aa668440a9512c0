/-! SturmRootsModel's numbers: sign, less, negate, bare, times -/
section NUM4
variable {cA : Nat → ClassId} {h : mH} {a b : Nat} {va vb : Int}
theorem n_sign (l : Launch) (D : va_G) (ha : h a = some (nE (cA 0) va)) (hv : nB va) :
    mCi l yX7_sign cX7_sign 2 .int (rmd 1) D (mT cA) [.ref a] h (fun r h1 => h1 = h ∧ r = sgI va) := by
  refine mEnter_i (by decide) (Nat.le_of_ble_eq_true rfl) rfl (fun z X Vz => ?_)
  have h47 : nf va (nI 47).toNatClampNeg < 0 ↔ va < 0 := by rw [nf_rd (by decide), nI_sgn (nd_lt _ _), nd_sg hv]
  refine zi_aload_n X dX7_sign_0 rfl rfl ?_
  refine zi_bipush (v := (nI 47)) X dX7_sign_1 (by decide) ?_
  refine zi_iald X 0 (by first | assumption | exact mup_self | (rw [mup_ne (by assumption)]; assumption) | (rw [mup_ne (by assumption)]; exact mup_self) | (rw [mup_ne (by assumption), mup_ne (by assumption)]; assumption)) rfl (vin (show 47 < 48 by decide) (by decide)) dX7_sign_3 ?_
  refine zi_if_ge (tgt := 9) X dX7_sign_4 (by decide) (fun c_4 => ?_) (fun c_4 => ?_)
  · have c : ¬ va < 0 := fun q => by
      have := h47.mpr q
      exact absurd this (Int32.not_lt.mpr c_4)
    refine zi_iconst (v := (nI 0)) X dX7_sign_9 (by decide) ?_
    refine zi_istore_n X dX7_sign_10 rfl (by decide) ?_
    suffices key : ∀ m k, k + m = 48 → (∀ j, j < k → nd va j = 0) → zM z 0 0 11 [some (.ref a), some (.int (nI k))] [] h from key 48 0 rfl (fun j hj => absurd hj (Nat.not_lt_zero j))
    intro m
    induction m with
    | zero =>
      intro k hk hz
      obtain rfl : k = 48 := by omega
      refine zi_iload_n X dX7_sign_11 rfl rfl ?_
      refine zi_bipush (v := (nI 48)) X dX7_sign_12 (by decide) ?_
      refine zi_icmp_ge (tgt := 31) X dX7_sign_14 (by decide) (fun c_14 => ?_) (fun c_14 => (by first | exact absurd (by decide) c_14 | exact absurd c_14 (by decide)))
      refine zi_iconst (v := (nI 0)) X dX7_sign_31 (by decide) ?_
      refine zi_ireturn X Vz dX7_sign_32 ?_
      have := nB_z hv (nm_z hz)
      exact ⟨rfl, by unfold sgI; rw [if_neg c, if_pos this]⟩
    | succ m ih =>
      intro k hk hz
      have hk48 : k < 48 := by omega
      refine zi_iload_n X dX7_sign_11 rfl rfl ?_
      refine zi_bipush (v := (nI 48)) X dX7_sign_12 (by decide) ?_
      refine zi_icmp_ge (tgt := 31) X dX7_sign_14 (by decide) (fun c_14 => (by first | exact absurd (nI_ge hk48 (by omega)) c_14 | exact absurd c_14 (nI_ge hk48 (by omega)))) (fun c_14 => ?_)
      refine zi_aload_n X dX7_sign_17 rfl rfl ?_
      refine zi_iload_n X dX7_sign_18 rfl rfl ?_
      refine zi_iald X 0 (by first | assumption | exact mup_self | (rw [mup_ne (by assumption)]; assumption) | (rw [mup_ne (by assumption)]; exact mup_self) | (rw [mup_ne (by assumption), mup_ne (by assumption)]; assumption)) rfl (vin hk48 (by decide)) dX7_sign_19 ?_
      refine zi_if_eq (tgt := 25) X dX7_sign_20 (by decide) (fun c_20 => ?_) (fun c_20 => ?_)
      · have q : nd va k = 0 := by rw [nf_rd hk48] at c_20; exact (nI_0d (nd_lt _ _)).mp c_20
        refine zi_iinc (v := nI (k + 1)) X dX7_sign_25 rfl (nI_inc _) (by decide) ?_
        refine zi_goto (tgt := 11) X dX7_sign_28 (by decide) ?_
        exact zi_sub (by repeat (first | exact trivial | refine And.intro rfl ?_)) (ih (k + 1) (by omega) (fun j hj => by
          by_cases e : j = k
          · rw [e, q]
          · exact hz j (by omega)))
      · refine zi_iconst (v := (nI 1)) X dX7_sign_23 (by decide) ?_
        refine zi_ireturn X Vz dX7_sign_24 ?_
        refine ⟨rfl, ?_⟩
        unfold sgI
        rw [if_neg c, if_neg (fun q => c_20 ?_)]
        rw [nf_rd hk48, q, nd_zero]
        rfl
  · refine zi_iconst (v := (-1)) X dX7_sign_7 (by decide) ?_
    refine zi_ireturn X Vz dX7_sign_8 ?_
    have c : va < 0 := h47.mp (Int32.not_le.mp c_4)
    exact ⟨rfl, by unfold sgI; rw [if_pos c]⟩
theorem n_less (l : Launch) (D : va_G) (ha : h a = some (nE (cA 0) va)) (hb : h b = some (nE (cA 0) vb)) (hne : b ≠ a) {n : Nat} (hn : n ≤ 48) (hd : n = 48 ∨ 0 ≤ vb ∧ vb ≤ va ∧ va < cp n) :
    mCv l yX7_less cX7_less 6 (rmd 1) D (mT cA) [.ref a, .ref b, .int (nI n)] h (fun h1 => h1 = mup h a (nE (cA 0) (va - vb))) := by
  refine mEnter_v (by decide) (Nat.le_of_ble_eq_true rfl) rfl (fun z X Vz => ?_)
  refine zi_lconst (v := lN 0) X dX7_less_0 (by decide) ?_
  refine zi_lstore_n X dX7_less_1 rfl (by decide) ?_
  refine zi_iconst (v := (nI 0)) X dX7_less_2 (by decide) ?_
  refine zi_istore X dX7_less_3 (by decide) ?_
  suffices key : ∀ m k, k + m = n → ∀ c : Int64, c.toInt = (va % cp k - vb % cp k) / cp k → zM z 0 0 5 [some (.ref a), some (.ref b), some (.int (nI n)), some (.long c), none, some (.int (nI k))] [] (mup h a (nA (cA 0) (fmx (va - vb) va k))) from by
    have := key n 0 (Nat.zero_add n) (lN 0) (by rw [cp_0, Int.emod_one, Int.emod_one]; decide)
    rw [fmx_0] at this
    exact zi_sub (by repeat (first | exact trivial | refine And.intro rfl ?_)) (zi_eqh (mup_same ha).symm this)
  intro m
  induction m with
  | zero =>
    intro k hk c hc
    obtain rfl : k = n := by omega
    refine zi_iload X dX7_less_5 rfl ?_
    refine zi_iload_n X dX7_less_7 rfl rfl ?_
    refine zi_icmp_ge (tgt := 50) X dX7_less_8 (by decide) (fun c_8 => ?_) (fun c_8 => (by first | exact absurd (Int32.le_refl _) c_8 | exact absurd c_8 (Int32.le_refl _)))
    refine zi_return X Vz dX7_less_50 ?_
    have e : fmx (va - vb) va k = nf (va - vb) := by
      rcases hd with rfl | ⟨h0, h1, h2⟩
      · exact fmx_48 _ _
      · funext j
        unfold fmx
        by_cases q : j < k
        · rw [if_pos q]
        · rw [if_neg q]
          by_cases q2 : j < 48
          · rw [nf_at q2, nf_at q2, nd_big (by omega) h2 (by omega), nd_big (v := va - vb) (by omega) (show va - vb < cp k by omega) (by omega)]
          · rw [nf_z q2, nf_z q2]
    rw [e]
    rfl
  | succ m ih =>
    intro k hk c hc
    have hk48 : k < 48 := by omega
    have hc1 : -1 ≤ c.toInt ∧ c.toInt ≤ 0 := by
      have q1 := nm_0 va k
      have q2 := nm_0 vb k
      rw [hc]
      refine ⟨(Int.le_ediv_iff_mul_le (cp_pos k)).mpr (by omega), ?_⟩
      have := Int.ediv_lt_of_lt_mul (cp_pos k) (a := va % cp k - vb % cp k) (b := 1) (by omega)
      omega
    have da := nd_lt va k
    have db := nd_lt vb k
    have hs := nd_sub va vb k
    rw [← hc] at hs
    refine zi_iload X dX7_less_5 rfl ?_
    refine zi_iload_n X dX7_less_7 rfl rfl ?_
    refine zi_icmp_ge (tgt := 50) X dX7_less_8 (by decide) (fun c_8 => (by first | exact absurd (nI_ge (show k < n by omega) (by omega)) c_8 | exact absurd c_8 (nI_ge (show k < n by omega) (by omega)))) (fun c_8 => ?_)
    refine zi_lload_n X dX7_less_11 rfl rfl ?_
    refine zi_aload_n X dX7_less_12 rfl rfl ?_
    refine zi_iload X dX7_less_13 rfl ?_
    refine zi_iald X 0 (by first | assumption | exact mup_self | (rw [mup_ne (by assumption)]; assumption) | (rw [mup_ne (by assumption)]; exact mup_self) | (rw [mup_ne (by assumption), mup_ne (by assumption)]; assumption)) rfl (vin hk48 (by decide)) dX7_less_15 ?_
    refine zi_i2l X dX7_less_16 ?_
    refine zi_ldc2_w X wK_X7_91 dX7_less_17 ?_
    refine zi_land X dX7_less_20 ?_
    refine zi_aload_n X dX7_less_21 rfl rfl ?_
    refine zi_iload X dX7_less_22 rfl ?_
    refine zi_iald X 0 (by first | assumption | exact mup_self | (rw [mup_ne (by assumption)]; assumption) | (rw [mup_ne (by assumption)]; exact mup_self) | (rw [mup_ne (by assumption), mup_ne (by assumption)]; assumption)) rfl (vin hk48 (by decide)) dX7_less_24 ?_
    refine zi_i2l X dX7_less_25 ?_
    refine zi_ldc2_w X wK_X7_91 dX7_less_26 ?_
    refine zi_land X dX7_less_29 ?_
    refine zi_lsub X dX7_less_30 ?_
    refine zi_ladd X dX7_less_31 ?_
    rw [fmx_at hk48, nf_rd hk48]
    generalize ht : c + (((nI (nd va k)).toInt64 &&& 4294967295) - ((nI (nd vb k)).toInt64 &&& 4294967295)) = t
    have hu : t.toInt = c.toInt + ((nd va k : Int) - nd vb k) := by
      unfold CC at da db
      rw [← ht]
      exact l_add rfl (l_sub (uq_low _ da) (uq_low _ db) (by omega) (by omega)) (by omega) (by omega)
    have hd1 : t.toInt32 = nI (nd (va - vb) k) := l2i_d (by rw [hu]; exact hs.1)
    refine zi_lstore_n X dX7_less_32 rfl (by decide) ?_
    refine zi_aload_n X dX7_less_33 rfl rfl ?_
    refine zi_iload X dX7_less_34 rfl ?_
    refine zi_lload_n X dX7_less_36 rfl rfl ?_
    refine zi_l2i X dX7_less_37 ?_
    refine zi_iast X 0 (by first | assumption | exact mup_self | (rw [mup_ne (by assumption)]; assumption) | (rw [mup_ne (by assumption)]; exact mup_self) | (rw [mup_ne (by assumption), mup_ne (by assumption)]; assumption)) rfl (vin hk48 (by decide)) dX7_less_38 ?_
    rw [hd1, fmx_up hk48, mup_mup]
    refine zi_lload_n X dX7_less_39 rfl rfl ?_
    refine zi_bipush (v := (nI 32)) X dX7_less_40 (by decide) ?_
    refine zi_lshr X dX7_less_42 ?_
    refine zi_lstore_n X dX7_less_43 rfl (by decide) ?_
    refine zi_iinc (v := nI (k + 1)) X dX7_less_44 rfl (nI_inc _) (by decide) ?_
    refine zi_goto (tgt := 5) X dX7_less_47 (by decide) ?_
    exact zi_sub (by repeat (first | exact trivial | refine And.intro rfl ?_)) (ih (k + 1) (by omega) _ (by rw [l_shr32, hu, hs.2]))
theorem n_negate (l : Launch) (D : va_G) (ha : h a = some (nE (cA 0) va)) :
    mCv l yX7_negate cX7_negate 4 (rmd 1) D (mT cA) [.ref a] h (fun h1 => h1 = mup h a (nE (cA 0) (-va))) := by
  refine mEnter_v (by decide) (Nat.le_of_ble_eq_true rfl) rfl (fun z X Vz => ?_)
  refine zi_lconst (v := lN 1) X dX7_negate_0 (by decide) ?_
  refine zi_lstore_n X dX7_negate_1 rfl (by decide) ?_
  refine zi_iconst (v := (nI 0)) X dX7_negate_2 (by decide) ?_
  refine zi_istore_n X dX7_negate_3 rfl (by decide) ?_
  suffices key : ∀ m k, k + m = 48 → ∀ c : Int64, ((uq c : Nat) : Int) = (cp k - va % cp k) / cp k → zM z 0 0 4 [some (.ref a), some (.long c), none, some (.int (nI k))] [] (mup h a (nA (cA 0) (fmx (-va) va k))) from by
    have := key 48 0 rfl (lN 1) (by rw [cp_0, Int.emod_one]; decide)
    rw [fmx_0] at this
    exact zi_sub (by repeat (first | exact trivial | refine And.intro rfl ?_)) (zi_eqh (mup_same ha).symm this)
  intro m
  induction m with
  | zero =>
    intro k hk c hc
    obtain rfl : k = 48 := by omega
    refine zi_iload_n X dX7_negate_4 rfl rfl ?_
    refine zi_bipush (v := (nI 48)) X dX7_negate_5 (by decide) ?_
    refine zi_icmp_ge (tgt := 39) X dX7_negate_7 (by decide) (fun c_7 => ?_) (fun c_7 => (by first | exact absurd (by decide) c_7 | exact absurd c_7 (by decide)))
    refine zi_return X Vz dX7_negate_39 ?_
    rw [fmx_48]
    rfl
  | succ m ih =>
    intro k hk c hc
    have hk48 : k < 48 := by omega
    have hc1 := ediv_01 (cp_pos k) (S := cp k - va % cp k) (by have := nm_0 va k; omega) (by have := nm_0 va k; omega)
    have da := nd_lt va k
    have hs := nd_neg va k
    rw [← hc] at hs hc1
    refine zi_iload_n X dX7_negate_4 rfl rfl ?_
    refine zi_bipush (v := (nI 48)) X dX7_negate_5 (by decide) ?_
    refine zi_icmp_ge (tgt := 39) X dX7_negate_7 (by decide) (fun c_7 => (by first | exact absurd (nI_ge hk48 (by omega)) c_7 | exact absurd c_7 (nI_ge hk48 (by omega)))) (fun c_7 => ?_)
    refine zi_lload_n X dX7_negate_10 rfl rfl ?_
    refine zi_aload_n X dX7_negate_11 rfl rfl ?_
    refine zi_iload_n X dX7_negate_12 rfl rfl ?_
    refine zi_iald X 0 (by first | assumption | exact mup_self | (rw [mup_ne (by assumption)]; assumption) | (rw [mup_ne (by assumption)]; exact mup_self) | (rw [mup_ne (by assumption), mup_ne (by assumption)]; assumption)) rfl (vin hk48 (by decide)) dX7_negate_13 ?_
    refine zi_iconst (v := (-1)) X dX7_negate_14 (by decide) ?_
    refine zi_ixor X dX7_negate_15 ?_
    refine zi_i2l X dX7_negate_16 ?_
    refine zi_ldc2_w X wK_X7_91 dX7_negate_17 ?_
    refine zi_land X dX7_negate_20 ?_
    refine zi_ladd X dX7_negate_21 ?_
    have e0 : (-1 : Int32) = -1 := rfl
    rw [fmx_at hk48, nI_not da]
    generalize ht : c + ((nI (CC - 1 - nd va k)).toInt64 &&& 4294967295) = t
    have db : CC - 1 - nd va k < CC := by unfold CC; omega
    have hu : uq t = uq c + (CC - 1 - nd va k) := by
      rw [← ht, uq_add (by rw [uq_low' db]; unfold CC; omega), uq_low' db]
    have hd : t.toInt32 = nI (nd (-va) k) := by
      rw [l2i_u]
      refine nI_eqm ?_
      rw [Nat.mod_eq_of_lt (nd_lt (-va) k)]
      have := hs.1
      unfold CC at *
      omega
    refine zi_lstore_n X dX7_negate_22 rfl (by decide) ?_
    refine zi_aload_n X dX7_negate_23 rfl rfl ?_
    refine zi_iload_n X dX7_negate_24 rfl rfl ?_
    refine zi_lload_n X dX7_negate_25 rfl rfl ?_
    refine zi_l2i X dX7_negate_26 ?_
    refine zi_iast X 0 (by first | assumption | exact mup_self | (rw [mup_ne (by assumption)]; assumption) | (rw [mup_ne (by assumption)]; exact mup_self) | (rw [mup_ne (by assumption), mup_ne (by assumption)]; assumption)) rfl (vin hk48 (by decide)) dX7_negate_27 ?_
    rw [hd, fmx_up hk48, mup_mup]
    refine zi_lload_n X dX7_negate_28 rfl rfl ?_
    refine zi_bipush (v := (nI 32)) X dX7_negate_29 (by decide) ?_
    refine zi_lushr X dX7_negate_31 ?_
    refine zi_lstore_n X dX7_negate_32 rfl (by decide) ?_
    refine zi_iinc (v := nI (k + 1)) X dX7_negate_33 rfl (nI_inc _) (by decide) ?_
    refine zi_goto (tgt := 4) X dX7_negate_36 (by decide) ?_
    exact zi_sub (by repeat (first | exact trivial | refine And.intro rfl ?_)) (ih (k + 1) (by omega) _ (by rw [uq_shr, hs.2]; unfold CC at *; omega))
theorem n_bare (l : Launch) (D : va_G) (ha : h a = some (nE (cA 0) va)) (hv : nB va) :
    mCi l yX7_bare cX7_bare 2 .boolean (rmd 2) D (mT cA) [.ref a] h (fun r h1 => r = (if va < 0 then nI 1 else nI 0) ∧ h1 = mup h a (nE (cA 0) (va.natAbs : Int))) := by
  refine mEnter_i (by decide) (Nat.le_of_ble_eq_true rfl) rfl (fun z X Vz => ?_)
  have h47 : nf va (nI 47).toNatClampNeg < 0 ↔ va < 0 := by rw [nf_rd (by decide), nI_sgn (nd_lt _ _), nd_sg hv]
  refine zi_aload_n X dX7_bare_0 rfl rfl ?_
  refine zi_bipush (v := (nI 47)) X dX7_bare_1 (by decide) ?_
  refine zi_iald X 0 (by first | assumption | exact mup_self | (rw [mup_ne (by assumption)]; assumption) | (rw [mup_ne (by assumption)]; exact mup_self) | (rw [mup_ne (by assumption), mup_ne (by assumption)]; assumption)) rfl (vin (show 47 < 48 by decide) (by decide)) dX7_bare_3 ?_
  refine zi_if_ge (tgt := 11) X dX7_bare_4 (by decide) (fun c_4 => ?_) (fun c_4 => ?_)
  · have c : ¬ va < 0 := fun q => by
      have := h47.mpr q
      exact absurd this (Int32.not_lt.mpr c_4)
    refine zi_iconst (v := (nI 0)) X dX7_bare_11 (by decide) ?_
    refine zi_istore_n X dX7_bare_12 rfl (by decide) ?_
    refine zi_iload_n X dX7_bare_13 rfl rfl ?_
    refine zi_if_eq (tgt := 21) X dX7_bare_14 (by decide) (fun c_14 => ?_) (fun c_14 => (by first | exact absurd (by decide) c_14 | exact absurd c_14 (by decide)))
    refine zi_iload_n X dX7_bare_21 rfl rfl ?_
    refine zi_zreturn X Vz rfl dX7_bare_22 ?_
    rw [if_neg c, show ((va.natAbs : Nat) : Int) = va by omega]
    exact ⟨rfl, (mup_same ha).symm⟩
  · have c : va < 0 := h47.mp (Int32.not_le.mp c_4)
    refine zi_iconst (v := (nI 1)) X dX7_bare_7 (by decide) ?_
    refine zi_goto (tgt := 12) X dX7_bare_8 (by decide) ?_
    refine zi_istore_n X dX7_bare_12 rfl (by decide) ?_
    refine zi_iload_n X dX7_bare_13 rfl rfl ?_
    refine zi_if_eq (tgt := 21) X dX7_bare_14 (by decide) (fun c_14 => (by first | exact absurd (by decide) c_14 | exact absurd c_14 (by decide))) (fun c_14 => ?_)
    refine zi_aload_n X dX7_bare_17 rfl rfl ?_
    refine zi_callSv X (n_negate l D ha) kc_X7_negate wm_X7_93 wst_X7_negate ⟨Nat.le_of_ble_eq_true rfl, Nat.le_of_ble_eq_true rfl⟩ rfl rfl (Nat.le_of_ble_eq_true rfl) ⟨Nat.le_of_ble_eq_true rfl, Nat.le_of_ble_eq_true rfl⟩ dX7_bare_18 (fun h1 hp => ?_)
    subst hp
    refine zi_iload_n X dX7_bare_21 rfl rfl ?_
    refine zi_zreturn X Vz rfl dX7_bare_22 ?_
    rw [if_pos c, show ((va.natAbs : Nat) : Int) = -va by omega]
    exact ⟨rfl, rfl⟩
theorem n_times (l : Launch) (D : va_G) (ha : h a = some (nE (cA 0) va)) {x : Int64} (hx : x.toInt.natAbs < CC) :
    mCv l yX7_times cX7_times 8 (rmd 2) D (mT cA) [.ref a, .long x] h (fun h1 => h1 = mup h a (nE (cA 0) (va * x.toInt))) := by
  refine mEnter_v (by decide) (Nat.le_of_ble_eq_true rfl) rfl (fun z X Vz => ?_)
  have hm1 : ∀ B : Nat, 0 ≤ (B : Int) → ∀ k, 0 ≤ va % cp k * B / cp k ∧ va % cp k * B / cp k ≤ B := fun B _ k => by
    have q := nm_0 va k
    have hp := cp_pos k
    refine ⟨Int.ediv_nonneg (Int.mul_nonneg q.1 (by omega)) (Int.le_of_lt hp), ?_⟩
    have : va % cp k * B ≤ B * cp k := by
      rw [Int.mul_comm]
      exact Int.mul_le_mul_of_nonneg_left (Int.le_of_lt q.2) (by omega)
    exact Int.ediv_le_of_le_mul hp this
  have go : ∀ y : Int64, ∀ B : Nat, y.toInt = (B : Int) → B < CC → (∀ h1, h1 = mup h a (nE (cA 0) (va * B)) → zM z 0 0 62 [some (.ref a), some (.long x), none, none, none, none, none, none] [] h1) → zM z 0 0 12 [some (.ref a), some (.long x), none, none, none, none, none, none] [.long y] h := fun y B hy hB kk => by
    refine zi_lstore_n X dX7_times_12 rfl (by decide) ?_
    refine zi_lconst (v := lN 0) X dX7_times_13 (by decide) ?_
    refine zi_lstore X dX7_times_14 (by decide) ?_
    refine zi_iconst (v := (nI 0)) X dX7_times_16 (by decide) ?_
    refine zi_istore X dX7_times_17 (by decide) ?_
    suffices key : ∀ m k, k + m = 48 → ∀ c : Int64, ((uq c : Nat) : Int) = va % cp k * B / cp k → zM z 0 0 19 [some (.ref a), some (.long x), none, some (.long y), none, some (.long c), none, some (.int (nI k))] [] (mup h a (nA (cA 0) (fmx (va * B) va k))) from by
      have := key 48 0 rfl (lN 0) (by rw [cp_0, Int.emod_one]; rw [Int.zero_mul]; decide)
      rw [fmx_0] at this
      exact zi_sub (by repeat (first | exact trivial | refine And.intro rfl ?_)) (zi_eqh (mup_same ha).symm this)
    intro m
    induction m with
    | zero =>
      intro k hk c hc
      obtain rfl : k = 48 := by omega
      refine zi_iload X dX7_times_19 rfl ?_
      refine zi_bipush (v := (nI 48)) X dX7_times_21 (by decide) ?_
      refine zi_icmp_ge (tgt := 62) X dX7_times_23 (by decide) (fun c_23 => ?_) (fun c_23 => (by first | exact absurd (by decide) c_23 | exact absurd c_23 (by decide)))
      rw [fmx_48]
      exact zi_sub (by repeat (first | exact trivial | refine And.intro rfl ?_)) (kk _ rfl)
    | succ m ih =>
      intro k hk c hc
      have hk48 : k < 48 := by omega
      have hc1 := hm1 B (by omega) k
      have da := nd_lt va k
      have hs := nd_mul va B k
      rw [← hc] at hs hc1
      refine zi_iload X dX7_times_19 rfl ?_
      refine zi_bipush (v := (nI 48)) X dX7_times_21 (by decide) ?_
      refine zi_icmp_ge (tgt := 62) X dX7_times_23 (by decide) (fun c_23 => (by first | exact absurd (nI_ge hk48 (by omega)) c_23 | exact absurd c_23 (nI_ge hk48 (by omega)))) (fun c_23 => ?_)
      refine zi_lload X dX7_times_26 rfl ?_
      refine zi_aload_n X dX7_times_28 rfl rfl ?_
      refine zi_iload X dX7_times_29 rfl ?_
      refine zi_iald X 0 (by first | assumption | exact mup_self | (rw [mup_ne (by assumption)]; assumption) | (rw [mup_ne (by assumption)]; exact mup_self) | (rw [mup_ne (by assumption), mup_ne (by assumption)]; assumption)) rfl (vin hk48 (by decide)) dX7_times_31 ?_
      refine zi_i2l X dX7_times_32 ?_
      refine zi_ldc2_w X wK_X7_91 dX7_times_33 ?_
      refine zi_land X dX7_times_36 ?_
      refine zi_lload_n X dX7_times_37 rfl rfl ?_
      refine zi_lmul X dX7_times_38 ?_
      refine zi_ladd X dX7_times_39 ?_
      rw [fmx_at hk48]
      generalize ht : c + (((nI (nd va k)).toInt64 &&& 4294967295) * y) = t
      have hyu : uq y = B := by
        have := uq_int (x := y) (by omega)
        omega
      have hle : nd va k * B ≤ 4294967295 * 4294967295 := Nat.mul_le_mul (by unfold CC at da; omega) (by unfold CC at hB; omega)
      have hu : uq t = uq c + nd va k * B := by
        unfold CC at hB
        rw [← ht, uq_add (by rw [uq_mul (by rw [uq_low' da, hyu]; omega), uq_low' da, hyu]; omega), uq_mul (by rw [uq_low' da, hyu]; omega), uq_low' da, hyu]
      have hu2 : ((uq t : Nat) : Int) = uq c + nd va k * (B : Int) := by rw [hu, Int.natCast_add, Int.natCast_mul]
      have hd : t.toInt32 = nI (nd (va * B) k) := by
        rw [l2i_u]
        refine nI_eqm ?_
        rw [Nat.mod_eq_of_lt (nd_lt (va * B) k)]
        have := hs.1
        rw [← hu2] at this
        unfold CC at *
        omega
      refine zi_lstore X dX7_times_40 (by decide) ?_
      refine zi_aload_n X dX7_times_42 rfl rfl ?_
      refine zi_iload X dX7_times_43 rfl ?_
      refine zi_lload X dX7_times_45 rfl ?_
      refine zi_l2i X dX7_times_47 ?_
      refine zi_iast X 0 (by first | assumption | exact mup_self | (rw [mup_ne (by assumption)]; assumption) | (rw [mup_ne (by assumption)]; exact mup_self) | (rw [mup_ne (by assumption), mup_ne (by assumption)]; assumption)) rfl (vin hk48 (by decide)) dX7_times_48 ?_
      rw [hd, fmx_up hk48, mup_mup]
      refine zi_lload X dX7_times_49 rfl ?_
      refine zi_bipush (v := (nI 32)) X dX7_times_51 (by decide) ?_
      refine zi_lushr X dX7_times_53 ?_
      refine zi_lstore X dX7_times_54 (by decide) ?_
      refine zi_iinc (v := nI (k + 1)) X dX7_times_56 rfl (nI_inc _) (by decide) ?_
      refine zi_goto (tgt := 19) X dX7_times_59 (by decide) ?_
      exact zi_sub (by repeat (first | exact trivial | refine And.intro rfl ?_)) (ih (k + 1) (by omega) _ (by rw [uq_shr, hs.2, ← hu2]; unfold CC; omega))
  refine zi_lload_n X dX7_times_0 rfl rfl ?_
  refine zi_lconst (v := lN 0) X dX7_times_1 (by decide) ?_
  refine zi_lcmp X dX7_times_2 ?_
  refine zi_if_ge (tgt := 11) X dX7_times_3 (by decide) (fun c_3 => ?_) (fun c_3 => ?_)
  · have c : 0 ≤ x.toInt := by
      have := (fa_le64 _ _).mp ((lg_cmp_ge _ _).mp c_3)
      rw [lN0] at this
      exact this
    refine zi_lload_n X dX7_times_11 rfl rfl ?_
    refine zi_sub (by repeat (first | exact trivial | refine And.intro rfl ?_)) (go x x.toInt.natAbs (by omega) hx (fun h1 hp => ?_))
    subst hp
    refine zi_lload_n X dX7_times_62 rfl rfl ?_
    refine zi_lconst (v := lN 0) X dX7_times_63 (by decide) ?_
    refine zi_lcmp X dX7_times_64 ?_
    refine zi_if_ge (tgt := 72) X dX7_times_65 (by decide) (fun c_65 => ?_) (fun c_65 => (by first | exact absurd c_3 c_65 | exact absurd c_65 c_3))
    refine zi_return X Vz dX7_times_72 ?_
    rw [show ((x.toInt.natAbs : Nat) : Int) = x.toInt by omega]
  · have c : x.toInt < 0 := by
      have : ¬ (lN 0).toInt ≤ x.toInt := fun q => c_3 ((lg_cmp_ge _ _).mpr ((fa_le64 _ _).mpr q))
      rw [lN0] at this
      omega
    refine zi_lload_n X dX7_times_6 rfl rfl ?_
    refine zi_lneg X dX7_times_7 ?_
    refine zi_goto (tgt := 12) X dX7_times_8 (by decide) ?_
    have hneg : (-x).toInt = (x.toInt.natAbs : Int) := by
      have := fb_rngL x
      unfold CC at hx
      rw [Int64.toInt_neg, fb_bmodL (by omega) (by omega)]
      omega
    refine zi_sub (by repeat (first | exact trivial | refine And.intro rfl ?_)) (go (-x) x.toInt.natAbs hneg hx (fun h1 hp => ?_))
    subst hp
    refine zi_lload_n X dX7_times_62 rfl rfl ?_
    refine zi_lconst (v := lN 0) X dX7_times_63 (by decide) ?_
    refine zi_lcmp X dX7_times_64 ?_
    refine zi_if_ge (tgt := 72) X dX7_times_65 (by decide) (fun c_65 => (by first | exact absurd c_3 c_65 | exact absurd c_65 c_3)) (fun c_65 => ?_)
    refine zi_aload_n X dX7_times_68 rfl rfl ?_
    refine zi_callSv X (n_negate l D (a := a) (va := va * (x.toInt.natAbs : Nat)) mup_self) kc_X7_negate wm_X7_93 wst_X7_negate ⟨Nat.le_of_ble_eq_true rfl, Nat.le_of_ble_eq_true rfl⟩ rfl rfl (Nat.le_of_ble_eq_true rfl) ⟨Nat.le_of_ble_eq_true rfl, Nat.le_of_ble_eq_true rfl⟩ dX7_times_69 (fun h1 hp => ?_)
    subst hp
    refine zi_return X Vz dX7_times_72 ?_
    rw [mup_mup, ← Int.mul_neg, show -((x.toInt.natAbs : Nat) : Int) = x.toInt by omega]
end NUM4
