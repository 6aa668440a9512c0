/-! SturmRoots$Big: more -/
def isBig (h : mH) (c : ClassId) (b r : Nat) (v : Int) : Prop := h b = some (bigO r v) ∧ h r = some (bigA c v) ∧ v.natAbs < BB ^ 20
def mbig (h : mH) (c : ClassId) (b r : Nat) (v : Int) : mH := mup (mup h r (bigA c v)) b (bigO r v)
theorem isBig.ne {h : mH} {c c2 : ClassId} {b r b2 r2 : Nat} {v v2 : Int} (h1 : isBig h c b r v) (h2 : isBig h c2 b2 r2 v2) : b ≠ r2 := fun q => by
  have := h1.1
  rw [q, h2.2.1] at this
  cases this
theorem mbig_b {h : mH} {c : ClassId} {b r : Nat} {v : Int} : mbig h c b r v b = some (bigO r v) := mup_self
theorem mbig_r {h : mH} {c : ClassId} {b r : Nat} {v : Int} (n : r ≠ b) : mbig h c b r v r = some (bigA c v) := by
  unfold mbig
  rw [mup_ne n]
  exact mup_self
theorem mbig_o {h : mH} {c : ClassId} {b r : Nat} {v : Int} {a : Nat} (n : a ≠ b) (n2 : a ≠ r) : mbig h c b r v a = h a := by
  unfold mbig
  rw [mup_ne n, mup_ne n2]
theorem mbig_is {h : mH} {c : ClassId} {b r : Nat} {v : Int} (n : r ≠ b) (hv : v.natAbs < BB ^ 20) : isBig (mbig h c b r v) c b r v := ⟨mbig_b, mbig_r n, hv⟩
theorem mbig_mbig {h : mH} {c : ClassId} {b r : Nat} {v w : Int} : mbig (mbig h c b r v) c b r w = mbig h c b r w := by
  funext a
  unfold mbig mup
  by_cases h1 : a = b <;> by_cases h2 : a = r <;> simp [h1, h2]
theorem mbig_same {h : mH} {c : ClassId} {b r : Nat} {v : Int} (hi : isBig h c b r v) : mbig h c b r v = h := by
  unfold mbig
  rw [mup_same hi.2.1, mup_same hi.1]
theorem bdig_0 (j : Nat) : bdig 0 j = 0 := by simp [bdig]
theorem k_isOne (l : Launch) (D : va_G) (cA : Nat → ClassId) {h : mH} {b r : Nat} {v : Int} (hB : isBig h (cA 0) b r v) :
    mCi l yX1_isOne cX1_isOne 1 .boolean (rmd 1) D (mT cA) [.ref b] h (fun x h1 => h1 = h ∧ x = if v = 1 then nI 1 else nI 0) := by
  obtain ⟨hb, hr, hv⟩ := hB
  refine mEnter_i (by decide) (Nat.le_of_ble_eq_true rfl) rfl (fun z X Vz => ?_)
  have hl := blen_le v.natAbs
  have h0 : (nI 0).toNatClampNeg = 0 := rfl
  have hd : bN (bdig v.natAbs) (nI 0).toNatClampNeg = nI (bdig v.natAbs 0) := rfl
  have hd2 := bdig_lt v.natAbs 0
  have hone : v = 1 ↔ (blen v.natAbs = 1 ∧ bdig v.natAbs 0 = 1 ∧ ¬ v < 0) := by
    constructor
    · rintro rfl
      exact ⟨by decide, by decide, by decide⟩
    · rintro ⟨h1, h2, h3⟩
      have := blen_lt hv
      rw [h1] at this
      have e : bdig v.natAbs 0 = v.natAbs := by
        unfold bdig
        rw [Nat.pow_zero, Nat.div_one]
        exact Nat.mod_eq_of_lt (by simpa using this)
      omega
  have f1 : nI (blen v.natAbs) = nI 1 ↔ blen v.natAbs = 1 := nI_eq (by omega) (by decide)
  have f2 : nI (bdig v.natAbs 0) = nI 1 ↔ bdig v.natAbs 0 = 1 := nI_eq (by unfold BB at hd2; omega) (by decide)
  refine zi_aload_n X dX1_isOne_0 rfl rfl ?_
  refine zi_getf (C := RX1) (T := TX1) (N := 3) (ci := 5) X (by first | assumption | exact mup_self | (rw [mup_ne (by assumption)]; assumption) | (rw [mup_ne (by assumption)]; exact mup_self) | (rw [mup_ne (by assumption), mup_ne (by assumption)]; assumption)) rfl in_X1 1 (by decide) wf_X1_13 rfl rfl dX1_isOne_1 ?_
  refine zi_iconst (v := (nI 1)) X dX1_isOne_4 (by decide) ?_
  refine zi_icmp_ne (tgt := 29) X dX1_isOne_5 (by decide) (fun c_5 => ?_) (fun c_5 => ?_)
  · refine zi_iconst (v := (nI 0)) X dX1_isOne_29 (by decide) ?_
    refine zi_zreturn X Vz rfl dX1_isOne_30 ?_
    rw [if_neg (fun q => c_5 (f1.mpr (hone.mp q).1))]
    exact ⟨rfl, rfl⟩
  · refine zi_aload_n X dX1_isOne_8 rfl rfl ?_
    refine zi_getf (C := RX1) (T := TX1) (N := 3) (ci := 5) X (by first | assumption | exact mup_self | (rw [mup_ne (by assumption)]; assumption) | (rw [mup_ne (by assumption)]; exact mup_self) | (rw [mup_ne (by assumption), mup_ne (by assumption)]; assumption)) rfl in_X1 0 (by decide) wf_X1_9 rfl rfl dX1_isOne_9 ?_
    refine zi_iconst (v := (nI 0)) X dX1_isOne_12 (by decide) ?_
    refine zi_iald X 0 (by first | assumption | exact mup_self | (rw [mup_ne (by assumption)]; assumption) | (rw [mup_ne (by assumption)]; exact mup_self) | (rw [mup_ne (by assumption), mup_ne (by assumption)]; assumption)) rfl (vin (show 0 < 20 by decide) (by decide)) dX1_isOne_13 ?_
    refine zi_iconst (v := (nI 1)) X dX1_isOne_14 (by decide) ?_
    refine zi_icmp_ne (tgt := 29) X dX1_isOne_15 (by decide) (fun c_15 => ?_) (fun c_15 => ?_)
    · refine zi_iconst (v := (nI 0)) X dX1_isOne_29 (by decide) ?_
      refine zi_zreturn X Vz rfl dX1_isOne_30 ?_
      rw [if_neg (fun q => c_15 (f2.mpr (hone.mp q).2.1))]
      exact ⟨rfl, rfl⟩
    · refine zi_aload_n X dX1_isOne_18 rfl rfl ?_
      refine zi_getf (C := RX1) (T := TX1) (N := 3) (ci := 5) X (by first | assumption | exact mup_self | (rw [mup_ne (by assumption)]; assumption) | (rw [mup_ne (by assumption)]; exact mup_self) | (rw [mup_ne (by assumption), mup_ne (by assumption)]; assumption)) rfl in_X1 2 (by decide) wf_X1_17 rfl rfl dX1_isOne_19 ?_
      refine zi_if_ne (tgt := 29) X dX1_isOne_22 (by decide) (fun c_22 => ?_) (fun c_22 => ?_)
      · refine zi_iconst (v := (nI 0)) X dX1_isOne_29 (by decide) ?_
        refine zi_zreturn X Vz rfl dX1_isOne_30 ?_
        rw [if_neg (fun q => c_22 ((bsg_z v).mpr (hone.mp q).2.2))]
        exact ⟨rfl, rfl⟩
      · refine zi_iconst (v := (nI 1)) X dX1_isOne_25 (by decide) ?_
        refine zi_goto (tgt := 30) X dX1_isOne_26 (by decide) ?_
        refine zi_zreturn X Vz rfl dX1_isOne_30 ?_
        rw [if_pos (hone.mpr ⟨f1.mp c_5, f2.mp c_15, (bsg_z v).mp c_22⟩)]
        exact ⟨rfl, rfl⟩
/-- the lowest 64 bits -/
def lV (v : Int) : Int64 := if v < 0 then -lN v.natAbs else lN v.natAbs
theorem k_lowestBits (l : Launch) (D : va_G) (cA : Nat → ClassId) {h : mH} {b r : Nat} {v : Int} (hB : isBig h (cA 0) b r v) :
    mCl l yX1_lowestBits cX1_lowestBits 3 (rmd 1) D (mT cA) [.ref b] h (fun x h1 => h1 = h ∧ x = lV v) := by
  obtain ⟨hb, hr, hv⟩ := hB
  refine mEnter_l (by decide) (Nat.le_of_ble_eq_true rfl) rfl (fun z X Vz => ?_)
  have e0 : (bN (bdig v.natAbs) (nI 0).toNatClampNeg).toInt64 + (bN (bdig v.natAbs) (nI 1).toNatClampNeg).toInt64 <<< ((nI 30).toInt64 &&& 63) + (bN (bdig v.natAbs) (nI 2).toNatClampNeg).toInt64 <<< ((nI 60).toInt64 &&& 63) = lN v.natAbs := by
    have b0 := bdig_lt v.natAbs 0
    have b1 := bdig_lt v.natAbs 1
    have b2 := bdig_lt v.natAbs 2
    unfold BB at b0 b1 b2
    show (nI (bdig v.natAbs 0)).toInt64 + (nI (bdig v.natAbs 1)).toInt64 <<< ((nI 30).toInt64 &&& 63) + (nI (bdig v.natAbs 2)).toInt64 <<< ((nI 60).toInt64 &&& 63) = lN v.natAbs
    rw [nI_l (n := bdig v.natAbs 0) (by omega), nI_l (n := bdig v.natAbs 1) (by omega), nI_l (n := bdig v.natAbs 2) (by omega), wb_shl (k := 30) _ (by decide), wb_shl (k := 60) _ (by decide), lN_add, lN_add, wb_mod, wb_mod v.natAbs]
    congr 1
    unfold bdig BB
    omega
  refine zi_aload_n X dX1_lowestBits_0 rfl rfl ?_
  refine zi_getf (C := RX1) (T := TX1) (N := 3) (ci := 5) X (by first | assumption | exact mup_self | (rw [mup_ne (by assumption)]; assumption) | (rw [mup_ne (by assumption)]; exact mup_self) | (rw [mup_ne (by assumption), mup_ne (by assumption)]; assumption)) rfl in_X1 0 (by decide) wf_X1_9 rfl rfl dX1_lowestBits_1 ?_
  refine zi_iconst (v := (nI 0)) X dX1_lowestBits_4 (by decide) ?_
  refine zi_iald X 0 (by first | assumption | exact mup_self | (rw [mup_ne (by assumption)]; assumption) | (rw [mup_ne (by assumption)]; exact mup_self) | (rw [mup_ne (by assumption), mup_ne (by assumption)]; assumption)) rfl (vin (show 0 < 20 by decide) (by decide)) dX1_lowestBits_5 ?_
  refine zi_i2l X dX1_lowestBits_6 ?_
  refine zi_aload_n X dX1_lowestBits_7 rfl rfl ?_
  refine zi_getf (C := RX1) (T := TX1) (N := 3) (ci := 5) X (by first | assumption | exact mup_self | (rw [mup_ne (by assumption)]; assumption) | (rw [mup_ne (by assumption)]; exact mup_self) | (rw [mup_ne (by assumption), mup_ne (by assumption)]; assumption)) rfl in_X1 0 (by decide) wf_X1_9 rfl rfl dX1_lowestBits_8 ?_
  refine zi_iconst (v := (nI 1)) X dX1_lowestBits_11 (by decide) ?_
  refine zi_iald X 0 (by first | assumption | exact mup_self | (rw [mup_ne (by assumption)]; assumption) | (rw [mup_ne (by assumption)]; exact mup_self) | (rw [mup_ne (by assumption), mup_ne (by assumption)]; assumption)) rfl (vin (show 1 < 20 by decide) (by decide)) dX1_lowestBits_12 ?_
  refine zi_i2l X dX1_lowestBits_13 ?_
  refine zi_bipush (v := (nI 30)) X dX1_lowestBits_14 (by decide) ?_
  refine zi_lshl X dX1_lowestBits_16 ?_
  refine zi_ladd X dX1_lowestBits_17 ?_
  refine zi_aload_n X dX1_lowestBits_18 rfl rfl ?_
  refine zi_getf (C := RX1) (T := TX1) (N := 3) (ci := 5) X (by first | assumption | exact mup_self | (rw [mup_ne (by assumption)]; assumption) | (rw [mup_ne (by assumption)]; exact mup_self) | (rw [mup_ne (by assumption), mup_ne (by assumption)]; assumption)) rfl in_X1 0 (by decide) wf_X1_9 rfl rfl dX1_lowestBits_19 ?_
  refine zi_iconst (v := (nI 2)) X dX1_lowestBits_22 (by decide) ?_
  refine zi_iald X 0 (by first | assumption | exact mup_self | (rw [mup_ne (by assumption)]; assumption) | (rw [mup_ne (by assumption)]; exact mup_self) | (rw [mup_ne (by assumption), mup_ne (by assumption)]; assumption)) rfl (vin (show 2 < 20 by decide) (by decide)) dX1_lowestBits_23 ?_
  refine zi_i2l X dX1_lowestBits_24 ?_
  refine zi_bipush (v := (nI 60)) X dX1_lowestBits_25 (by decide) ?_
  refine zi_lshl X dX1_lowestBits_27 ?_
  refine zi_ladd X dX1_lowestBits_28 ?_
  refine zi_lstore_n X dX1_lowestBits_29 rfl (by decide) ?_
  refine zi_aload_n X dX1_lowestBits_30 rfl rfl ?_
  refine zi_getf (C := RX1) (T := TX1) (N := 3) (ci := 5) X (by first | assumption | exact mup_self | (rw [mup_ne (by assumption)]; assumption) | (rw [mup_ne (by assumption)]; exact mup_self) | (rw [mup_ne (by assumption), mup_ne (by assumption)]; assumption)) rfl in_X1 2 (by decide) wf_X1_17 rfl rfl dX1_lowestBits_31 ?_
  refine zi_if_eq (tgt := 42) X dX1_lowestBits_34 (by decide) (fun c_34 => ?_) (fun c_34 => ?_)
  · refine zi_lload_n X dX1_lowestBits_42 rfl rfl ?_
    refine zi_lreturn X Vz dX1_lowestBits_43 ?_
    rw [e0]
    unfold lV
    rw [if_neg ((bsg_z v).mp c_34)]
    exact ⟨rfl, rfl⟩
  · refine zi_lload_n X dX1_lowestBits_37 rfl rfl ?_
    refine zi_lneg X dX1_lowestBits_38 ?_
    refine zi_goto (tgt := 43) X dX1_lowestBits_39 (by decide) ?_
    refine zi_lreturn X Vz dX1_lowestBits_43 ?_
    rw [e0]
    unfold lV
    rw [if_pos (Decidable.not_not.mp (fun q => c_34 ((bsg_z v).mpr q)))]
    exact ⟨rfl, rfl⟩
theorem k_clear (l : Launch) (D : va_G) (cA : Nat → ClassId) {h : mH} {b r : Nat} {v : Int} (hB : isBig h (cA 0) b r v) :
    mCv l yX1_clear cX1_clear 2 (rmd 1) D (mT cA) [.ref b] h (fun h1 => h1 = mbig h (cA 0) b r 0) := by
  have hrb := (hB.ne hB).symm
  have hbr := hB.ne hB
  obtain ⟨hb, hr, hv⟩ := hB
  refine mEnter_v (by decide) (Nat.le_of_ble_eq_true rfl) rfl (fun z X Vz => ?_)
  have hl := blen_le v.natAbs
  refine zi_iconst (v := (nI 0)) X dX1_clear_0 (by decide) ?_
  refine zi_istore_n X dX1_clear_1 rfl (by decide) ?_
  suffices key : ∀ k i, i + k = blen v.natAbs → zM z 0 0 2 [some (.ref b), some (.int (nI i))] [] (mup h r (bA (cA 0) (bN (fun j => if j < i then 0 else bdig v.natAbs j)))) from by
    refine zi_eqh (h' := mup h r (bA (cA 0) (bN (fun j => if j < 0 then 0 else bdig v.natAbs j)))) (mup_same hr).symm (key (blen v.natAbs) 0 (by omega))
  intro k
  induction k with
  | zero =>
    intro i hi
    refine zi_iload_n X dX1_clear_2 rfl rfl ?_
    refine zi_aload_n X dX1_clear_3 rfl rfl ?_
    refine zi_getf (C := RX1) (T := TX1) (N := 3) (ci := 5) X (by first | assumption | exact mup_self | (rw [mup_ne (by assumption)]; assumption) | (rw [mup_ne (by assumption)]; exact mup_self) | (rw [mup_ne (by assumption), mup_ne (by assumption)]; assumption)) rfl in_X1 1 (by decide) wf_X1_13 rfl rfl dX1_clear_4 ?_
    refine zi_icmp_ge (tgt := 23) X dX1_clear_7 (by decide) (fun c_7 => ?_) (fun c_7 => (by first | exact absurd (nI_le (show blen v.natAbs ≤ i by omega) (by omega)) c_7 | exact absurd c_7 (nI_le (show blen v.natAbs ≤ i by omega) (by omega))))
    refine zi_aload_n X dX1_clear_23 rfl rfl ?_
    refine zi_iconst (v := (nI 0)) X dX1_clear_24 (by decide) ?_
    refine zi_putf (C := RX1) (T := TX1) (N := 3) (ci := 5) (ty0 := tyX1) X (by first | assumption | exact mup_self | (rw [mup_ne (by assumption)]; assumption) | (rw [mup_ne (by assumption)]; exact mup_self) | (rw [mup_ne (by assumption), mup_ne (by assumption)]; assumption)) rfl in_X1 tyX1_ok nmX1 1 (by decide) wf_X1_13 rfl rfl rfl rfl rfl (Nat.le_of_ble_eq_true rfl) dX1_clear_25 ?_
    refine zi_aload_n X dX1_clear_28 rfl rfl ?_
    refine zi_iconst (v := (nI 0)) X dX1_clear_29 (by decide) ?_
    refine zi_putf (C := RX1) (T := TX1) (N := 3) (ci := 5) (ty0 := tyX1) X (by first | assumption | exact mup_self | (rw [mup_ne (by assumption)]; assumption) | (rw [mup_ne (by assumption)]; exact mup_self) | (rw [mup_ne (by assumption), mup_ne (by assumption)]; assumption)) rfl in_X1 tyX1_ok nmX1 2 (by decide) wf_X1_17 rfl rfl rfl rfl rfl (Nat.le_of_ble_eq_true rfl) dX1_clear_30 ?_
    refine zi_return X Vz dX1_clear_33 ?_
    unfold mbig
    have e : bA (cA 0) (bN (fun j => if j < i then 0 else bdig v.natAbs j)) = bigA (cA 0) 0 := by
      unfold bigA
      congr 2
      funext j
      by_cases hj : j < i
      · rw [if_pos hj]; exact (bdig_0 j).symm
      · rw [if_neg hj, bdig_big (blen_lt hv) (by omega)]; exact (bdig_0 j).symm
    rw [e, mup_mup]
    rfl
  | succ k ih =>
    intro i hi
    refine zi_iload_n X dX1_clear_2 rfl rfl ?_
    refine zi_aload_n X dX1_clear_3 rfl rfl ?_
    refine zi_getf (C := RX1) (T := TX1) (N := 3) (ci := 5) X (by first | assumption | exact mup_self | (rw [mup_ne (by assumption)]; assumption) | (rw [mup_ne (by assumption)]; exact mup_self) | (rw [mup_ne (by assumption), mup_ne (by assumption)]; assumption)) rfl in_X1 1 (by decide) wf_X1_13 rfl rfl dX1_clear_4 ?_
    refine zi_icmp_ge (tgt := 23) X dX1_clear_7 (by decide) (fun c_7 => (by first | exact absurd (nI_ge (show i < blen v.natAbs by omega) (by omega)) c_7 | exact absurd c_7 (nI_ge (show i < blen v.natAbs by omega) (by omega)))) (fun c_7 => ?_)
    refine zi_aload_n X dX1_clear_10 rfl rfl ?_
    refine zi_getf (C := RX1) (T := TX1) (N := 3) (ci := 5) X (by first | assumption | exact mup_self | (rw [mup_ne (by assumption)]; assumption) | (rw [mup_ne (by assumption)]; exact mup_self) | (rw [mup_ne (by assumption), mup_ne (by assumption)]; assumption)) rfl in_X1 0 (by decide) wf_X1_9 rfl rfl dX1_clear_11 ?_
    refine zi_iload_n X dX1_clear_14 rfl rfl ?_
    refine zi_iconst (v := (nI 0)) X dX1_clear_15 (by decide) ?_
    refine zi_iast X 0 (by first | assumption | exact mup_self | (rw [mup_ne (by assumption)]; assumption) | (rw [mup_ne (by assumption)]; exact mup_self) | (rw [mup_ne (by assumption), mup_ne (by assumption)]; assumption)) rfl (vin (show i < 20 by omega) (by decide)) dX1_clear_16 ?_
    refine zi_iinc (v := nI (i + 1)) X dX1_clear_17 rfl (nI_inc _) (by decide) ?_
    refine zi_goto (tgt := 2) X dX1_clear_20 (by decide) ?_
    refine zi_sub (by repeat (first | exact trivial | refine And.intro rfl ?_)) (zi_eqh ?_ (ih (i + 1) (by omega)))
    rw [mup_mup]
    congr 1
    show bA (cA 0) _ = bA (cA 0) _
    rw [bN_upd (by omega)]
    congr 2
    funext j
    unfold updN
    dsimp only
    by_cases h1 : j = i
    · subst h1
      rw [if_pos rfl, if_pos (by omega)]
    · rw [if_neg h1]
      by_cases h2 : j < i
      · rw [if_pos h2, if_pos (by omega)]
      · rw [if_neg h2, if_neg (by omega)]
theorem k_become (l : Launch) (D : va_G) (cA : Nat → ClassId) {h : mH} {b r b2 r2 : Nat} {v w : Int} (hB : isBig h (cA 0) b r v) (hB2 : isBig h (cA 0) b2 r2 w) (hne : b2 ≠ b) :
    mCv l yX1_become cX1_become 2 (rmd 1) D (mT cA) [.ref b, .ref b2] h (fun h1 => h1 = mbig h (cA 0) b r w) := by
  have hbr := hB.ne hB
  have hb2r := hB2.ne hB
  obtain ⟨hb, hr, hv⟩ := hB
  obtain ⟨hb2, hr2, hw⟩ := hB2
  refine mEnter_v (by decide) (Nat.le_of_ble_eq_true rfl) rfl (fun z X Vz => ?_)
  refine zi_aload_n X dX1_become_0 rfl rfl ?_
  refine zi_getf (C := RX1) (T := TX1) (N := 3) (ci := 5) X (by first | assumption | exact mup_self | (rw [mup_ne (by assumption)]; assumption) | (rw [mup_ne (by assumption)]; exact mup_self) | (rw [mup_ne (by assumption), mup_ne (by assumption)]; assumption)) rfl in_X1 0 (by decide) wf_X1_9 rfl rfl dX1_become_1 ?_
  refine zi_iconst (v := (nI 0)) X dX1_become_4 (by decide) ?_
  refine zi_aload_n X dX1_become_5 rfl rfl ?_
  refine zi_getf (C := RX1) (T := TX1) (N := 3) (ci := 5) X (by first | assumption | exact mup_self | (rw [mup_ne (by assumption)]; assumption) | (rw [mup_ne (by assumption)]; exact mup_self) | (rw [mup_ne (by assumption), mup_ne (by assumption)]; assumption)) rfl in_X1 0 (by decide) wf_X1_9 rfl rfl dX1_become_6 ?_
  refine zi_iconst (v := (nI 0)) X dX1_become_9 (by decide) ?_
  refine zi_bipush (v := (nI 20)) X dX1_become_10 (by decide) ?_
  refine zi_copyi X (by first | assumption | exact mup_self | (rw [mup_ne (by assumption)]; assumption) | (rw [mup_ne (by assumption)]; exact mup_self) | (rw [mup_ne (by assumption), mup_ne (by assumption)]; assumption)) (by first | assumption | exact mup_self | (rw [mup_ne (by assumption)]; assumption) | (rw [mup_ne (by assumption)]; exact mup_self) | (rw [mup_ne (by assumption), mup_ne (by assumption)]; assumption)) wm_X1_36 (by decide) (by decide) (by decide) (by decide) (by decide) (Nat.le_of_ble_eq_true rfl) (Nat.le_of_ble_eq_true rfl) dX1_become_12 ?_
  refine zi_aload_n X dX1_become_15 rfl rfl ?_
  refine zi_aload_n X dX1_become_16 rfl rfl ?_
  refine zi_getf (C := RX1) (T := TX1) (N := 3) (ci := 5) X (by first | assumption | exact mup_self | (rw [mup_ne (by assumption)]; assumption) | (rw [mup_ne (by assumption)]; exact mup_self) | (rw [mup_ne (by assumption), mup_ne (by assumption)]; assumption)) rfl in_X1 1 (by decide) wf_X1_13 rfl rfl dX1_become_17 ?_
  refine zi_putf (C := RX1) (T := TX1) (N := 3) (ci := 5) (ty0 := tyX1) X (by first | assumption | exact mup_self | (rw [mup_ne (by assumption)]; assumption) | (rw [mup_ne (by assumption)]; exact mup_self) | (rw [mup_ne (by assumption), mup_ne (by assumption)]; assumption)) rfl in_X1 tyX1_ok nmX1 1 (by decide) wf_X1_13 rfl rfl rfl rfl rfl (Nat.le_of_ble_eq_true rfl) dX1_become_20 ?_
  refine zi_aload_n X dX1_become_23 rfl rfl ?_
  refine zi_aload_n X dX1_become_24 rfl rfl ?_
  refine zi_getf (C := RX1) (T := TX1) (N := 3) (ci := 5) X (by first | assumption | exact mup_self | (rw [mup_ne (by assumption)]; assumption) | (rw [mup_ne (by assumption)]; exact mup_self) | (rw [mup_ne (by assumption), mup_ne (by assumption)]; assumption)) rfl in_X1 2 (by decide) wf_X1_17 rfl rfl dX1_become_25 ?_
  refine zi_putf (C := RX1) (T := TX1) (N := 3) (ci := 5) (ty0 := tyX1) X (by first | assumption | exact mup_self | (rw [mup_ne (by assumption)]; assumption) | (rw [mup_ne (by assumption)]; exact mup_self) | (rw [mup_ne (by assumption), mup_ne (by assumption)]; assumption)) rfl in_X1 tyX1_ok nmX1 2 (by decide) wf_X1_17 rfl rfl rfl (bsg_nar w).1 (bsg_nar w).2 (Nat.le_of_ble_eq_true rfl) dX1_become_28 ?_
  refine zi_return X Vz dX1_become_31 ?_
  unfold mbig
  have e : (Sum.inl (cA 0, 20, Sum.inl (va_cpy (bN (bdig w.natAbs)) (bN (bdig v.natAbs)) (nI 0).toNatClampNeg (nI 0).toNatClampNeg (nI 20).toNatClampNeg)) : va_E) = bigA (cA 0) w := by
    refine congrArg (fun f => (Sum.inl (cA 0, 20, Sum.inl f) : va_E)) (funext fun j => ?_)
    have e2 : (nI 20).toNatClampNeg = 20 := rfl
    have e3 : (nI 0).toNatClampNeg = 0 := rfl
    unfold va_cpy bN
    rw [e2, e3]
    by_cases hj : j < 20
    · rw [if_pos ⟨Nat.zero_le _, by omega⟩, Nat.zero_add, Nat.sub_zero]
    · rw [if_neg (by omega), bdig_big hv (by omega), bdig_big hw (by omega)]
  rw [e, mup_mup]
  rfl
theorem k_becomeMagnitude (l : Launch) (D : va_G) (cA : Nat → ClassId) {h : mH} {b r b2 r2 : Nat} {v w : Int} (hB : isBig h (cA 0) b r v) (hB2 : isBig h (cA 0) b2 r2 w) (hne : b2 ≠ b) :
    mCv l yX1_becomeMagnitude cX1_becomeMagnitude 2 (rmd 2) D (mT cA) [.ref b, .ref b2] h (fun h1 => h1 = mbig h (cA 0) b r (w.natAbs : Int)) := by
  have hb := hB.1
  refine mEnter_v (by decide) (Nat.le_of_ble_eq_true rfl) rfl (fun z X Vz => ?_)
  refine zi_aload_n X dX1_becomeMagnitude_0 rfl rfl ?_
  refine zi_aload_n X dX1_becomeMagnitude_1 rfl rfl ?_
  refine zi_callVv X (k_become l D cA hB hB2 hne) kc_X1_become wm_X1_42 (by first | assumption | exact mup_self | (rw [mup_ne (by assumption)]; assumption) | (rw [mup_ne (by assumption)]; exact mup_self) | (rw [mup_ne (by assumption), mup_ne (by assumption)]; assumption)) rfl wim_X1_become wse_X1_become ⟨Nat.le_of_ble_eq_true rfl, Nat.le_of_ble_eq_true rfl⟩ rfl rfl (Nat.le_of_ble_eq_true rfl) ⟨Nat.le_of_ble_eq_true rfl, Nat.le_of_ble_eq_true rfl⟩ dX1_becomeMagnitude_2 (fun h1 e1 => ?_)
  have hb1 : h1 b = some (bigO r w) := by rw [e1]; exact mbig_b
  refine zi_aload_n X dX1_becomeMagnitude_5 rfl rfl ?_
  refine zi_iconst (v := (nI 0)) X dX1_becomeMagnitude_6 (by decide) ?_
  refine zi_putf (C := RX1) (T := TX1) (N := 3) (ci := 5) (ty0 := tyX1) X (by first | assumption | exact mup_self | (rw [mup_ne (by assumption)]; assumption) | (rw [mup_ne (by assumption)]; exact mup_self) | (rw [mup_ne (by assumption), mup_ne (by assumption)]; assumption)) rfl in_X1 tyX1_ok nmX1 2 (by decide) wf_X1_17 rfl rfl rfl rfl rfl (Nat.le_of_ble_eq_true rfl) dX1_becomeMagnitude_7 ?_
  refine zi_return X Vz dX1_becomeMagnitude_10 ?_
  rw [e1]
  unfold mbig
  rw [mup_mup]
  have e : bigO r (w.natAbs : Int) = .inr (5, [.ref r, .int (nI (blen w.natAbs)), .int (nI 0)]) := by
    unfold bigO bO bsg
    rw [if_neg (by omega), Int.natAbs_natCast]
  have e2 : bigA (cA 0) (w.natAbs : Int) = bigA (cA 0) w := by
    unfold bigA
    rw [Int.natAbs_natCast]
  rw [e, e2]
  rfl
theorem k_flip (l : Launch) (D : va_G) (cA : Nat → ClassId) {h : mH} {b r : Nat} {v : Int} (hB : isBig h (cA 0) b r v) :
    mCv l yX1_flipSign cX1_flipSign 1 (rmd 1) D (mT cA) [.ref b] h (fun h1 => h1 = mbig h (cA 0) b r (-v)) := by
  have e : mbig h (cA 0) b r (-v) = mup h b (bigO r (-v)) := by
    unfold mbig
    have e2 : bigA (cA 0) (-v) = bigA (cA 0) v := by unfold bigA; rw [Int.natAbs_neg]
    rw [e2, mup_same hB.2.1]
  rw [e]
  exact k_flipSign l D cA hB.1 hB.2.2
