/-! SturmRoots$Big: the small methods -/
theorem k_isZero (l : Launch) (D : va_G) (cA : Nat → ClassId) {h : mH} {b r : Nat} {v : Int} (hb : h b = some (bigO r v)) (hv : v.natAbs < BB ^ 20) :
    mCi l yX1_isZero cX1_isZero 1 .boolean (rmd 1) D (mT cA) [.ref b] h (fun x h1 => h1 = h ∧ x = if v = 0 then nI 1 else nI 0) := by
  refine mEnter_i (by decide) (Nat.le_of_ble_eq_true rfl) rfl (fun z X Vz => ?_)
  have hz : nI (blen v.natAbs) = 0 ↔ v = 0 := by rw [nI_z (by have := blen_le v.natAbs; omega), blen_0 hv, Int.natAbs_eq_zero]
  refine zi_aload_n X dX1_isZero_0 rfl rfl ?_
  refine zi_getf (C := RX1) (T := TX1) (N := 3) (ci := 5) X (by first | assumption | exact mup_self | (rw [mup_ne (by assumption)]; assumption) | (rw [mup_ne (by assumption)]; exact mup_self) | (rw [mup_ne (by assumption), mup_ne (by assumption)]; assumption)) rfl in_X1 1 (by decide) wf_X1_13 rfl rfl dX1_isZero_1 ?_
  refine zi_if_ne (tgt := 11) X dX1_isZero_4 (by decide) (fun c_4 => ?_) (fun c_4 => ?_)
  · refine zi_iconst (v := (nI 0)) X dX1_isZero_11 (by decide) ?_
    refine zi_zreturn X Vz rfl dX1_isZero_12 ?_
    rw [if_neg (fun q => c_4 (hz.mpr q))]
    exact ⟨rfl, rfl⟩
  · refine zi_iconst (v := (nI 1)) X dX1_isZero_7 (by decide) ?_
    refine zi_goto (tgt := 12) X dX1_isZero_8 (by decide) ?_
    refine zi_zreturn X Vz rfl dX1_isZero_12 ?_
    rw [if_pos (hz.mp c_4)]
    exact ⟨rfl, rfl⟩
theorem k_signum (l : Launch) (D : va_G) (cA : Nat → ClassId) {h : mH} {b r : Nat} {v : Int} (hb : h b = some (bigO r v)) (hv : v.natAbs < BB ^ 20) :
    mCi l yX1_signum cX1_signum 1 .int (rmd 1) D (mT cA) [.ref b] h (fun x h1 => h1 = h ∧ x = if v = 0 then nI 0 else if v < 0 then -1 else nI 1) := by
  refine mEnter_i (by decide) (Nat.le_of_ble_eq_true rfl) rfl (fun z X Vz => ?_)
  have hz : nI (blen v.natAbs) = 0 ↔ v = 0 := by rw [nI_z (by have := blen_le v.natAbs; omega), blen_0 hv, Int.natAbs_eq_zero]
  refine zi_aload_n X dX1_signum_0 rfl rfl ?_
  refine zi_getf (C := RX1) (T := TX1) (N := 3) (ci := 5) X (by first | assumption | exact mup_self | (rw [mup_ne (by assumption)]; assumption) | (rw [mup_ne (by assumption)]; exact mup_self) | (rw [mup_ne (by assumption), mup_ne (by assumption)]; assumption)) rfl in_X1 1 (by decide) wf_X1_13 rfl rfl dX1_signum_1 ?_
  refine zi_if_ne (tgt := 11) X dX1_signum_4 (by decide) (fun c_4 => ?_) (fun c_4 => ?_)
  · refine zi_aload_n X dX1_signum_11 rfl rfl ?_
    refine zi_getf (C := RX1) (T := TX1) (N := 3) (ci := 5) X (by first | assumption | exact mup_self | (rw [mup_ne (by assumption)]; assumption) | (rw [mup_ne (by assumption)]; exact mup_self) | (rw [mup_ne (by assumption), mup_ne (by assumption)]; assumption)) rfl in_X1 2 (by decide) wf_X1_17 rfl rfl dX1_signum_12 ?_
    refine zi_if_eq (tgt := 22) X dX1_signum_15 (by decide) (fun c_15 => ?_) (fun c_15 => ?_)
    · refine zi_iconst (v := (nI 1)) X dX1_signum_22 (by decide) ?_
      refine zi_ireturn X Vz dX1_signum_23 ?_
      rw [if_neg (fun q => c_4 (hz.mpr q)), if_neg ((bsg_z v).mp c_15)]
      exact ⟨rfl, rfl⟩
    · refine zi_iconst (v := (-1)) X dX1_signum_18 (by decide) ?_
      refine zi_goto (tgt := 23) X dX1_signum_19 (by decide) ?_
      refine zi_ireturn X Vz dX1_signum_23 ?_
      rw [if_neg (fun q => c_4 (hz.mpr q)), if_pos (Decidable.not_not.mp (fun q => c_15 ((bsg_z v).mpr q)))]
      exact ⟨rfl, rfl⟩
  · refine zi_iconst (v := (nI 0)) X dX1_signum_7 (by decide) ?_
    refine zi_goto (tgt := 23) X dX1_signum_8 (by decide) ?_
    refine zi_ireturn X Vz dX1_signum_23 ?_
    rw [if_pos (hz.mp c_4)]
    exact ⟨rfl, rfl⟩
theorem k_flipSign (l : Launch) (D : va_G) (cA : Nat → ClassId) {h : mH} {b r : Nat} {v : Int} (hb : h b = some (bigO r v)) (hv : v.natAbs < BB ^ 20) :
    mCv l yX1_flipSign cX1_flipSign 1 (rmd 1) D (mT cA) [.ref b] h (fun h1 => h1 = mup h b (bigO r (-v))) := by
  refine mEnter_v (by decide) (Nat.le_of_ble_eq_true rfl) rfl (fun z X Vz => ?_)
  have hz : nI (blen v.natAbs) ≤ 0 ↔ v = 0 := by rw [nI_lez (by have := blen_le v.natAbs; omega), blen_0 hv, Int.natAbs_eq_zero]
  refine zi_aload_n X dX1_flipSign_0 rfl rfl ?_
  refine zi_getf (C := RX1) (T := TX1) (N := 3) (ci := 5) X (by first | assumption | exact mup_self | (rw [mup_ne (by assumption)]; assumption) | (rw [mup_ne (by assumption)]; exact mup_self) | (rw [mup_ne (by assumption), mup_ne (by assumption)]; assumption)) rfl in_X1 1 (by decide) wf_X1_13 rfl rfl dX1_flipSign_1 ?_
  refine zi_if_le (tgt := 23) X dX1_flipSign_4 (by decide) (fun c_4 => ?_) (fun c_4 => ?_)
  · refine zi_return X Vz dX1_flipSign_23 ?_
    have e := hz.mp c_4
    subst e
    exact (mup_same hb).symm
  · have hne : ¬ v = 0 := fun q => c_4 (hz.mpr q)
    refine zi_aload_n X dX1_flipSign_7 rfl rfl ?_
    refine zi_aload_n X dX1_flipSign_8 rfl rfl ?_
    refine zi_getf (C := RX1) (T := TX1) (N := 3) (ci := 5) X (by first | assumption | exact mup_self | (rw [mup_ne (by assumption)]; assumption) | (rw [mup_ne (by assumption)]; exact mup_self) | (rw [mup_ne (by assumption), mup_ne (by assumption)]; assumption)) rfl in_X1 2 (by decide) wf_X1_17 rfl rfl dX1_flipSign_9 ?_
    refine zi_if_ne (tgt := 19) X dX1_flipSign_12 (by decide) (fun c_12 => ?_) (fun c_12 => ?_)
    · refine zi_iconst (v := (nI 0)) X dX1_flipSign_19 (by decide) ?_
      refine zi_putf (C := RX1) (T := TX1) (N := 3) (ci := 5) (ty0 := tyX1) X (by first | assumption | exact mup_self | (rw [mup_ne (by assumption)]; assumption) | (rw [mup_ne (by assumption)]; exact mup_self) | (rw [mup_ne (by assumption), mup_ne (by assumption)]; assumption)) rfl in_X1 tyX1_ok nmX1 2 (by decide) wf_X1_17 rfl rfl rfl rfl rfl (Nat.le_of_ble_eq_true rfl) dX1_flipSign_20 ?_
      refine zi_return X Vz dX1_flipSign_23 ?_
      have h0 : v < 0 := Decidable.not_not.mp (fun q => c_12 ((bsg_z v).mpr q))
      have e : bigO r (-v) = .inr (5, [.ref r, .int (nI (blen v.natAbs)), .int (nI 0)]) := by
        unfold bigO bO bsg
        rw [Int.natAbs_neg, if_neg (by omega)]
      rw [e]
      rfl
    · refine zi_iconst (v := (nI 1)) X dX1_flipSign_15 (by decide) ?_
      refine zi_goto (tgt := 20) X dX1_flipSign_16 (by decide) ?_
      refine zi_putf (C := RX1) (T := TX1) (N := 3) (ci := 5) (ty0 := tyX1) X (by first | assumption | exact mup_self | (rw [mup_ne (by assumption)]; assumption) | (rw [mup_ne (by assumption)]; exact mup_self) | (rw [mup_ne (by assumption), mup_ne (by assumption)]; assumption)) rfl in_X1 tyX1_ok nmX1 2 (by decide) wf_X1_17 rfl rfl rfl rfl rfl (Nat.le_of_ble_eq_true rfl) dX1_flipSign_20 ?_
      refine zi_return X Vz dX1_flipSign_23 ?_
      have h0 : ¬ v < 0 := (bsg_z v).mp c_12
      have e : bigO r (-v) = .inr (5, [.ref r, .int (nI (blen v.natAbs)), .int (nI 1)]) := by
        unfold bigO bO bsg
        rw [Int.natAbs_neg, if_pos (by omega)]
      rw [e]
      rfl
theorem k_settle (l : Launch) (D : va_G) (cA : Nat → ClassId) {h : mH} {b r E : Nat} {n g : Int32} {d : Nat → Nat} (hE : E ≤ 20) (hd : ∀ j, j < E → d j < BB) (hb : h b = some (bO r n g)) (hr : h r = some (bA (cA 0) (bN d))) :
    mCv l yX1_settle cX1_settle 2 (rmd 1) D (mT cA) [.ref b, .int (nI E)] h (fun h1 => h1 = mup h b (bO r (nI (stN d E)) (if stN d E = 0 then nI 0 else g))) := by
  refine mEnter_v (by decide) (Nat.le_of_ble_eq_true rfl) rfl (fun z X Vz => ?_)
  have hbr : r ≠ b := fun q => by rw [q, hb] at hr; cases hr
  refine zi_aload_n X dX1_settle_0 rfl rfl ?_
  refine zi_iload_n X dX1_settle_1 rfl rfl ?_
  refine zi_putf (C := RX1) (T := TX1) (N := 3) (ci := 5) (ty0 := tyX1) X (by first | assumption | exact mup_self | (rw [mup_ne (by assumption)]; assumption) | (rw [mup_ne (by assumption)]; exact mup_self) | (rw [mup_ne (by assumption), mup_ne (by assumption)]; assumption)) rfl in_X1 tyX1_ok nmX1 1 (by decide) wf_X1_13 rfl rfl rfl rfl rfl (Nat.le_of_ble_eq_true rfl) dX1_settle_2 ?_
  suffices key : ∀ j, j ≤ E → stN d j = stN d E → zM z 0 0 5 [some (.ref b), some (.int (nI E))] [] (mup h b (bO r (nI j) g)) from key E (Nat.le_refl E) rfl
  intro j
  induction j with
  | zero =>
    intro hj hs
    refine zi_aload_n X dX1_settle_5 rfl rfl ?_
    refine zi_getf (C := RX1) (T := TX1) (N := 3) (ci := 5) X (by first | assumption | exact mup_self | (rw [mup_ne (by assumption)]; assumption) | (rw [mup_ne (by assumption)]; exact mup_self) | (rw [mup_ne (by assumption), mup_ne (by assumption)]; assumption)) rfl in_X1 1 (by decide) wf_X1_13 rfl rfl dX1_settle_6 ?_
    refine zi_if_le (tgt := 39) X dX1_settle_9 (by decide) (fun c_9 => ?_) (fun c_9 => (by first | exact absurd (by decide) c_9 | exact absurd c_9 (by decide)))
    refine zi_aload_n X dX1_settle_39 rfl rfl ?_
    refine zi_getf (C := RX1) (T := TX1) (N := 3) (ci := 5) X (by first | assumption | exact mup_self | (rw [mup_ne (by assumption)]; assumption) | (rw [mup_ne (by assumption)]; exact mup_self) | (rw [mup_ne (by assumption), mup_ne (by assumption)]; assumption)) rfl in_X1 1 (by decide) wf_X1_13 rfl rfl dX1_settle_40 ?_
    refine zi_if_ne (tgt := 51) X dX1_settle_43 (by decide) (fun c_43 => (by first | exact absurd (rfl : nI 0 = 0) c_43 | exact absurd c_43 (rfl : nI 0 = 0))) (fun c_43 => ?_)
    refine zi_aload_n X dX1_settle_46 rfl rfl ?_
    refine zi_iconst (v := (nI 0)) X dX1_settle_47 (by decide) ?_
    refine zi_putf (C := RX1) (T := TX1) (N := 3) (ci := 5) (ty0 := tyX1) X (by first | assumption | exact mup_self | (rw [mup_ne (by assumption)]; assumption) | (rw [mup_ne (by assumption)]; exact mup_self) | (rw [mup_ne (by assumption), mup_ne (by assumption)]; assumption)) rfl in_X1 tyX1_ok nmX1 2 (by decide) wf_X1_17 rfl rfl rfl rfl rfl (Nat.le_of_ble_eq_true rfl) dX1_settle_48 ?_
    refine zi_return X Vz dX1_settle_51 ?_
    rw [← hs, mup_mup]
    rfl
  | succ j ih =>
    intro hj hs
    have hj1 : ¬ nI (j + 1) ≤ 0 := by rw [nI_lez (by omega)]; omega
    refine zi_aload_n X dX1_settle_5 rfl rfl ?_
    refine zi_getf (C := RX1) (T := TX1) (N := 3) (ci := 5) X (by first | assumption | exact mup_self | (rw [mup_ne (by assumption)]; assumption) | (rw [mup_ne (by assumption)]; exact mup_self) | (rw [mup_ne (by assumption), mup_ne (by assumption)]; assumption)) rfl in_X1 1 (by decide) wf_X1_13 rfl rfl dX1_settle_6 ?_
    refine zi_if_le (tgt := 39) X dX1_settle_9 (by decide) (fun c_9 => (by first | exact absurd hj1 c_9 | exact absurd c_9 hj1)) (fun c_9 => ?_)
    refine zi_aload_n X dX1_settle_12 rfl rfl ?_
    refine zi_getf (C := RX1) (T := TX1) (N := 3) (ci := 5) X (by first | assumption | exact mup_self | (rw [mup_ne (by assumption)]; assumption) | (rw [mup_ne (by assumption)]; exact mup_self) | (rw [mup_ne (by assumption), mup_ne (by assumption)]; assumption)) rfl in_X1 0 (by decide) wf_X1_9 rfl rfl dX1_settle_13 ?_
    refine zi_aload_n X dX1_settle_16 rfl rfl ?_
    refine zi_getf (C := RX1) (T := TX1) (N := 3) (ci := 5) X (by first | assumption | exact mup_self | (rw [mup_ne (by assumption)]; assumption) | (rw [mup_ne (by assumption)]; exact mup_self) | (rw [mup_ne (by assumption), mup_ne (by assumption)]; assumption)) rfl in_X1 1 (by decide) wf_X1_13 rfl rfl dX1_settle_17 ?_
    refine zi_iconst (v := (nI 1)) X dX1_settle_20 (by decide) ?_
    refine zi_isub X dX1_settle_21 ?_
    refine zi_iald X 0 (by first | assumption | exact mup_self | (rw [mup_ne (by assumption)]; assumption) | (rw [mup_ne (by assumption)]; exact mup_self) | (rw [mup_ne (by assumption), mup_ne (by assumption)]; assumption)) rfl (by rw [nI_pr]; exact vin (show j < 20 by omega) (by decide)) dX1_settle_22 ?_
    refine zi_if_ne (tgt := 39) X dX1_settle_23 (by decide) (fun c_23 => ?_) (fun c_23 => ?_)
    · have h0 : ¬ d j = 0 := fun q => c_23 (by rw [nI_pr, bN_at (by omega), q]; rfl)
      refine zi_aload_n X dX1_settle_39 rfl rfl ?_
      refine zi_getf (C := RX1) (T := TX1) (N := 3) (ci := 5) X (by first | assumption | exact mup_self | (rw [mup_ne (by assumption)]; assumption) | (rw [mup_ne (by assumption)]; exact mup_self) | (rw [mup_ne (by assumption), mup_ne (by assumption)]; assumption)) rfl in_X1 1 (by decide) wf_X1_13 rfl rfl dX1_settle_40 ?_
      refine zi_if_ne (tgt := 51) X dX1_settle_43 (by decide) (fun c_43 => ?_) (fun c_43 => (by first | exact absurd (by rw [nI_z (by omega)]; omega) c_43 | exact absurd c_43 (by rw [nI_z (by omega)]; omega)))
      refine zi_return X Vz dX1_settle_51 ?_
      rw [← hs, stN, if_neg h0, if_neg (by omega)]
    · have h0 : d j = 0 := by
        have q := c_23
        rw [nI_pr, bN_at (by omega)] at q
        exact (nI_z (by have := hd j (by omega); unfold BB at this; omega)).mp q
      refine zi_aload_n X dX1_settle_26 rfl rfl ?_
      refine zi_dup X dX1_settle_27 rfl ?_
      refine zi_getf (C := RX1) (T := TX1) (N := 3) (ci := 5) X (by first | assumption | exact mup_self | (rw [mup_ne (by assumption)]; assumption) | (rw [mup_ne (by assumption)]; exact mup_self) | (rw [mup_ne (by assumption), mup_ne (by assumption)]; assumption)) rfl in_X1 1 (by decide) wf_X1_13 rfl rfl dX1_settle_28 ?_
      refine zi_iconst (v := (nI 1)) X dX1_settle_31 (by decide) ?_
      refine zi_isub X dX1_settle_32 ?_
      refine zi_putf (C := RX1) (T := TX1) (N := 3) (ci := 5) (ty0 := tyX1) X (by first | assumption | exact mup_self | (rw [mup_ne (by assumption)]; assumption) | (rw [mup_ne (by assumption)]; exact mup_self) | (rw [mup_ne (by assumption), mup_ne (by assumption)]; assumption)) rfl in_X1 tyX1_ok nmX1 1 (by decide) wf_X1_13 rfl rfl rfl rfl rfl (Nat.le_of_ble_eq_true rfl) dX1_settle_33 ?_
      refine zi_goto (tgt := 5) X dX1_settle_36 (by decide) ?_
      rw [mup_mup]
      refine zi_eqh (h' := mup h b (bO r (nI j) g)) (by rw [← nI_pr j]; rfl) ?_
      exact ih (by omega) (by rw [← hs, stN, if_pos h0])
