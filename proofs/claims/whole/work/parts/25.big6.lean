/-! SturmRoots$Big: becomeProduct, divideBy -/
theorem bpow_mono {a b : Nat} (h : a ≤ b) : BB ^ a ≤ BB ^ b := Nat.pow_le_pow_right (by decide) h
theorem bval_bsl_lt {d : Nat → Nat} {A K : Nat} (h : ∀ j, j < 20 → d j < BB) (hK : A + K ≤ 20) : bval (bsl d A) K < BB ^ K := bval_lt (fun j hj => h (A + j) (by omega))
/-- what addMultiple leaves when nothing is carried out -/
theorem am_total {d e o : Nat → Nat} {A K : Nat} {F C : Int} (hP : amP d e A K F C o) (hC : C = 0) : (bval e (A + K) : Int) = bval d (A + K) + F * bval o K * (BB ^ A : Nat) := by
  obtain ⟨h1, h2, h3⟩ := hP
  have e1 : bval e A = bval d A := bval_cong (fun j hj => h2 j (Or.inl hj))
  rw [bval_split e A K, bval_split d A K, e1]
  rw [hC, Int.zero_mul, Int.add_zero] at h3
  rw [Int.natCast_add, Int.natCast_mul, Int.natCast_add, Int.natCast_mul, h3]
  generalize ((BB ^ A : Nat) : Int) = P
  grind
theorem bp_zero {X Y P R Q : Int} (h1 : X + Y * P = R) (hX0 : 0 ≤ X) (hX : X < P) (hR0 : 0 ≤ R) (hR : R < P) : Y = 0 := by
  have hP : 0 < P := by omega
  rcases Int.lt_trichotomy Y 0 with h | h | h
  · have : Y * P ≤ -1 * P := Int.mul_le_mul_of_nonneg_right (by omega) (by omega)
    omega
  · exact h
  · have : 1 * P ≤ Y * P := Int.mul_le_mul_of_nonneg_right (by omega) (by omega)
    omega
theorem bsg_prod {v w : Int} (hv : v ≠ 0) (hw : w ≠ 0) : bsg (v * w) = if bsg v = bsg w then nI 0 else nI 1 := by
  have n01 : ¬ (nI 0 = nI 1) := by decide
  have n10 : ¬ (nI 1 = nI 0) := by decide
  unfold bsg
  rcases Int.lt_or_gt_of_ne hv with h1 | h1 <;> rcases Int.lt_or_gt_of_ne hw with h2 | h2
  · have h3 := Int.mul_pos_of_neg_of_neg h1 h2
    have h4 : ¬ v * w < 0 := by omega
    rw [if_neg h4, if_pos h1, if_pos h2, if_pos rfl]
  · have h3 := Int.mul_neg_of_neg_of_pos h1 h2
    have h4 : ¬ w < 0 := by omega
    rw [if_pos h3, if_pos h1, if_neg h4, if_neg n10]
  · have h3 := Int.mul_neg_of_pos_of_neg h1 h2
    have h4 : ¬ v < 0 := by omega
    rw [if_pos h3, if_neg h4, if_pos h2, if_neg n01]
  · have h3 := Int.mul_pos h1 h2
    have h4 : ¬ v * w < 0 := by omega
    have h5 : ¬ v < 0 := by omega
    have h6 : ¬ w < 0 := by omega
    rw [if_neg h4, if_neg h5, if_neg h6, if_pos rfl]
theorem bp_lt {e : Nat → Nat} {i m V2 : Nat} {d1 : Nat → Nat} (h3 : bval e (i + m) = bval d1 i * V2) (hd1 : ∀ j, j < i → d1 j < BB) (hV2 : 0 < V2) : bval (bsl e i) m < V2 := by
  have h4 := bval_lt (d := d1) (n := i) hd1
  rw [bval_split] at h3
  have h5 : bval d1 i * V2 < BB ^ i * V2 := Nat.mul_lt_mul_of_pos_right h4 hV2
  exact Nat.lt_of_mul_lt_mul_left (a := BB ^ i) (by omega)
theorem bp_fit {x y V2 m : Nat} (hx : x < V2) (hy : y < BB) (hV : V2 < BB ^ m) : x + y * V2 < BB ^ (m + 1) := by
  have h1 : y * V2 ≤ (BB - 1) * V2 := Nat.mul_le_mul_right _ (by omega)
  have h2 : (BB - 1) * V2 + V2 = BB * V2 := (Nat.succ_mul (BB - 1) V2).symm
  have h3 : BB * V2 ≤ BB * BB ^ m := Nat.mul_le_mul_left _ (by omega)
  rw [Nat.pow_succ, Nat.mul_comm (BB ^ m) BB]
  omega
theorem k_becomeProduct (l : Launch) (D : va_G) (cA : Nat → ClassId) {h : mH} {b r b1 r1 b2 r2 : Nat} {v v1 v2 : Int} (hB : isBig h (cA 0) b r v) (hB1 : isBig h (cA 0) b1 r1 v1) (hB2 : isBig h (cA 0) b2 r2 v2) (hb1 : b1 ≠ b) (hb2 : b2 ≠ b) (hr1 : r1 ≠ r) (hr2 : r2 ≠ r) (hlen : blen v1.natAbs + blen v2.natAbs ≤ 20) :
    mCv l yX1_becomeProduct cX1_becomeProduct 4 (rmd 2) D (mT cA) [.ref b, .ref b1, .ref b2] h (fun h1 => h1 = mbig h (cA 0) b r (v1 * v2)) := by
  have hbr := hB.ne hB
  have hrb := hbr.symm
  have hb1r := hB1.ne hB
  have hb2r := hB2.ne hB
  have hr1b := (hB.ne hB1).symm
  have hr2b := (hB.ne hB2).symm
  have hb := hB.1
  generalize hn1 : blen v1.natAbs = n1 at hlen
  generalize hn2 : blen v2.natAbs = n2 at hlen
  have hV1 : v1.natAbs < BB ^ n1 := by rw [← hn1]; exact blen_lt hB1.2.2
  have hV2 : v2.natAbs < BB ^ n2 := by rw [← hn2]; exact blen_lt hB2.2.2
  refine mEnter_v (by decide) (Nat.le_of_ble_eq_true rfl) rfl (fun z X Vz => ?_)
  refine zi_aload_n X dX1_becomeProduct_0 rfl rfl ?_
  refine zi_callVv X (k_clear l D cA hB) kc_X1_clear wm_X1_21 (by first | assumption | exact mup_self | (rw [mup_ne (by assumption)]; assumption) | (rw [mup_ne (by assumption)]; exact mup_self) | (rw [mup_ne (by assumption), mup_ne (by assumption)]; assumption)) rfl wim_X1_clear wse_X1_clear ⟨Nat.le_of_ble_eq_true rfl, Nat.le_of_ble_eq_true rfl⟩ rfl rfl (Nat.le_of_ble_eq_true rfl) ⟨Nat.le_of_ble_eq_true rfl, Nat.le_of_ble_eq_true rfl⟩ dX1_becomeProduct_1 (fun h0 e0 => ?_)
  refine zi_iconst (v := (nI 0)) X dX1_becomeProduct_4 (by decide) ?_
  refine zi_istore_n X dX1_becomeProduct_5 rfl (by decide) ?_
  have f1 : h0 b1 = some (bigO r1 v1) := by rw [e0, mbig_o hb1 hb1r]; exact hB1.1
  have f2 : h0 b2 = some (bigO r2 v2) := by rw [e0, mbig_o hb2 hb2r]; exact hB2.1
  have f3 : h0 r1 = some (bigA (cA 0) v1) := by rw [e0, mbig_o hr1b hr1]; exact hB1.2.1
  have f4 : h0 r2 = some (bigA (cA 0) v2) := by rw [e0, mbig_o hr2b hr2]; exact hB2.2.1
  have f5 : h0 b = some (bigO r 0) := by rw [e0]; exact mbig_b
  have f6 : h0 r = some (bigA (cA 0) 0) := by rw [e0]; exact mbig_r hrb
  have hdz2 : ∀ j, n2 ≤ j → bdig v2.natAbs j = 0 := fun j hj => bdig_big hV2 hj
  have hv2n : bval (bdig v2.natAbs) (n2 + 1) = v2.natAbs := bval_bdig' (Nat.lt_of_lt_of_le hV2 (bpow_mono (by omega)))
  suffices key : ∀ k i (e : Nat → Nat), i + k = n1 → (∀ j, j < 20 → e j < BB) → (∀ j, i + n2 ≤ j → e j = 0) → bval e (i + n2) = bval (bdig v1.natAbs) i * v2.natAbs → zM z 0 0 6 [some (.ref b), some (.ref b1), some (.ref b2), some (.int (nI i))] [] (mup h0 r (bA (cA 0) (bN e))) from by
    refine zi_sub (by repeat (first | exact trivial | refine And.intro rfl ?_)) (zi_eqh (mup_same f6).symm (key n1 0 (bdig 0) (by omega) (fun j _ => bdig_lt 0 j) (fun j _ => bdig_0 j) ?_))
    rw [bval, Nat.zero_mul, bval_bdig, Nat.zero_mod]
  intro k
  induction k with
  | zero =>
    intro i e hi h1 h2 h3
    have : i = n1 := by omega
    subst this
    rw [bval_bdig' hV1] at h3
    refine zi_iload_n X dX1_becomeProduct_6 rfl rfl ?_
    refine zi_aload_n X dX1_becomeProduct_7 rfl rfl ?_
    refine zi_getf (C := RX1) (T := TX1) (N := 3) (ci := 5) X (by first | assumption | exact mup_self | (rw [mup_ne (by assumption)]; assumption) | (rw [mup_ne (by assumption)]; exact mup_self) | (rw [mup_ne (by assumption), mup_ne (by assumption)]; assumption)) rfl in_X1 1 (by decide) wf_X1_13 rfl rfl dX1_becomeProduct_8 ?_
    refine zi_icmp_ge (tgt := 34) X dX1_becomeProduct_11 (by decide) (fun c_11 => ?_) (fun c_11 => (by first | exact absurd (by rw [hn1]; exact Int32.le_refl _) c_11 | exact absurd c_11 (by rw [hn1]; exact Int32.le_refl _)))
    refine zi_aload_n X dX1_becomeProduct_34 rfl rfl ?_
    refine zi_bipush (v := (nI 20)) X dX1_becomeProduct_35 (by decide) ?_
    refine zi_aload_n X dX1_becomeProduct_37 rfl rfl ?_
    refine zi_getf (C := RX1) (T := TX1) (N := 3) (ci := 5) X (by first | assumption | exact mup_self | (rw [mup_ne (by assumption)]; assumption) | (rw [mup_ne (by assumption)]; exact mup_self) | (rw [mup_ne (by assumption), mup_ne (by assumption)]; assumption)) rfl in_X1 1 (by decide) wf_X1_13 rfl rfl dX1_becomeProduct_38 ?_
    refine zi_aload_n X dX1_becomeProduct_41 rfl rfl ?_
    refine zi_getf (C := RX1) (T := TX1) (N := 3) (ci := 5) X (by first | assumption | exact mup_self | (rw [mup_ne (by assumption)]; assumption) | (rw [mup_ne (by assumption)]; exact mup_self) | (rw [mup_ne (by assumption), mup_ne (by assumption)]; assumption)) rfl in_X1 1 (by decide) wf_X1_13 rfl rfl dX1_becomeProduct_42 ?_
    refine zi_iadd X dX1_becomeProduct_45 ?_
    refine zi_mmin X wm_X1_50 (Nat.le_of_ble_eq_true rfl) (Nat.le_of_ble_eq_true rfl) ⟨(Nat.le_of_ble_eq_true rfl), (Nat.le_of_ble_eq_true rfl)⟩ dX1_becomeProduct_46 ?_
    have hmin : (if nI (blen v1.natAbs) + nI (blen v2.natAbs) < nI 20 then nI (blen v1.natAbs) + nI (blen v2.natAbs) else nI 20) = nI (i + n2) := by
      rw [hn1, hn2, nI_add]
      by_cases q : i + n2 = 20
      · rw [q, if_neg (nI_nlt (Nat.le_refl 20) (by decide))]
      · rw [if_pos (nI_lt (by omega) (by decide))]
    rw [hmin]
    have g1 : mup h0 r (bA (cA 0) (bN e)) b = some (bigO r 0) := by rw [mup_ne hbr]; exact f5
    have g2 : mup h0 r (bA (cA 0) (bN e)) b1 = some (bigO r1 v1) := by rw [mup_ne hb1r]; exact f1
    have g3 : mup h0 r (bA (cA 0) (bN e)) b2 = some (bigO r2 v2) := by rw [mup_ne hb2r]; exact f2
    refine zi_callVv X (k_settle l D cA (E := i + n2) (n := nI (blen 0)) (g := bsg 0) hlen (fun j hj => h1 j (by omega)) g1 mup_self) kc_X1_settle wm_X1_32 g1 rfl wim_X1_settle wse_X1_settle ⟨Nat.le_of_ble_eq_true rfl, Nat.le_of_ble_eq_true rfl⟩ rfl rfl (Nat.le_of_ble_eq_true rfl) ⟨Nat.le_of_ble_eq_true rfl, Nat.le_of_ble_eq_true rfl⟩ dX1_becomeProduct_49 (fun h5 e5 => ?_)
    have hP : v1.natAbs * v2.natAbs < BB ^ 20 := by rw [← h3]; exact Nat.lt_of_lt_of_le (bval_lt (fun j hj => h1 j (by omega))) (bpow_mono hlen)
    have hst : stN e (i + n2) = blen (v1.natAbs * v2.natAbs) := by rw [← h3, blen_of hlen (fun j hj => h1 j (by omega)) h2]
    have hdg : bdig (v1.natAbs * v2.natAbs) = e := by rw [← h3]; exact bdig_of (fun j hj => h1 j (by omega)) h2
    have hl20 := blen_le (v1.natAbs * v2.natAbs)
    rw [hst] at e5
    have k1 : h5 b = some (bO r (nI (blen (v1.natAbs * v2.natAbs))) (if blen (v1.natAbs * v2.natAbs) = 0 then nI 0 else bsg 0)) := by rw [e5]; exact mup_self
    have k2 : h5 b1 = some (bigO r1 v1) := by rw [e5, mup_ne hb1]; exact g2
    have k3 : h5 b2 = some (bigO r2 v2) := by rw [e5, mup_ne hb2]; exact g3
    have hfin : ∀ g, g = bsg (v1 * v2) → mup (mup h0 r (bA (cA 0) (bN e))) b (bO r (nI (blen (v1.natAbs * v2.natAbs))) g) = mbig h (cA 0) b r (v1 * v2) := by
      intro g hg
      rw [e0, hg]
      unfold mbig bigO bigA
      rw [Int.natAbs_mul, hdg]
      funext a
      unfold mup
      by_cases q1 : a = b <;> by_cases q2 : a = r <;> simp [q1, q2]
    refine zi_aload_n X dX1_becomeProduct_52 rfl rfl ?_
    refine zi_getf (C := RX1) (T := TX1) (N := 3) (ci := 5) X (by first | assumption | exact mup_self | (rw [mup_ne (by assumption)]; assumption) | (rw [mup_ne (by assumption)]; exact mup_self) | (rw [mup_ne (by assumption), mup_ne (by assumption)]; assumption)) rfl in_X1 1 (by decide) wf_X1_13 rfl rfl dX1_becomeProduct_53 ?_
    refine zi_if_le (tgt := 79) X dX1_becomeProduct_56 (by decide) (fun c_56 => ?_) (fun c_56 => ?_)
    · have q := (nI_lez (by omega)).mp c_56
      have q0 := (blen_0 hP).mp q
      refine zi_return X Vz dX1_becomeProduct_79 ?_
      rw [e5]
      refine hfin _ ?_
      have : v1 * v2 = 0 := by rw [← Int.natAbs_eq_zero, Int.natAbs_mul]; exact q0
      rw [this, if_pos q]
      rfl
    · have hp : ¬ blen (v1.natAbs * v2.natAbs) = 0 := fun q => c_56 ((nI_lez (by omega)).mpr q)
      have hnz : v1.natAbs * v2.natAbs ≠ 0 := fun q => hp ((blen_0 hP).mpr q)
      have hnz1 : v1 ≠ 0 := fun q => hnz (by rw [q]; simp)
      have hnz2 : v2 ≠ 0 := fun q => hnz (by rw [q]; simp)
      refine zi_aload_n X dX1_becomeProduct_59 rfl rfl ?_
      refine zi_aload_n X dX1_becomeProduct_60 rfl rfl ?_
      refine zi_getf (C := RX1) (T := TX1) (N := 3) (ci := 5) X (by first | assumption | exact mup_self | (rw [mup_ne (by assumption)]; assumption) | (rw [mup_ne (by assumption)]; exact mup_self) | (rw [mup_ne (by assumption), mup_ne (by assumption)]; assumption)) rfl in_X1 2 (by decide) wf_X1_17 rfl rfl dX1_becomeProduct_61 ?_
      refine zi_aload_n X dX1_becomeProduct_64 rfl rfl ?_
      refine zi_getf (C := RX1) (T := TX1) (N := 3) (ci := 5) X (by first | assumption | exact mup_self | (rw [mup_ne (by assumption)]; assumption) | (rw [mup_ne (by assumption)]; exact mup_self) | (rw [mup_ne (by assumption), mup_ne (by assumption)]; assumption)) rfl in_X1 2 (by decide) wf_X1_17 rfl rfl dX1_becomeProduct_65 ?_
      refine zi_icmp_eq (tgt := 75) X dX1_becomeProduct_68 (by decide) (fun c_68 => ?_) (fun c_68 => ?_)
      · refine zi_iconst (v := (nI 0)) X dX1_becomeProduct_75 (by decide) ?_
        refine zi_putf (C := RX1) (T := TX1) (N := 3) (ci := 5) (ty0 := tyX1) X (by first | assumption | exact mup_self | (rw [mup_ne (by assumption)]; assumption) | (rw [mup_ne (by assumption)]; exact mup_self) | (rw [mup_ne (by assumption), mup_ne (by assumption)]; assumption)) rfl in_X1 tyX1_ok nmX1 2 (by decide) wf_X1_17 rfl rfl rfl rfl rfl (Nat.le_of_ble_eq_true rfl) dX1_becomeProduct_76 ?_
        refine zi_return X Vz dX1_becomeProduct_79 ?_
        rw [e5, mup_mup]
        refine hfin _ ?_
        rw [bsg_prod hnz1 hnz2, if_pos c_68]
      · refine zi_iconst (v := (nI 1)) X dX1_becomeProduct_71 (by decide) ?_
        refine zi_goto (tgt := 76) X dX1_becomeProduct_72 (by decide) ?_
        refine zi_putf (C := RX1) (T := TX1) (N := 3) (ci := 5) (ty0 := tyX1) X (by first | assumption | exact mup_self | (rw [mup_ne (by assumption)]; assumption) | (rw [mup_ne (by assumption)]; exact mup_self) | (rw [mup_ne (by assumption), mup_ne (by assumption)]; assumption)) rfl in_X1 tyX1_ok nmX1 2 (by decide) wf_X1_17 rfl rfl rfl rfl rfl (Nat.le_of_ble_eq_true rfl) dX1_becomeProduct_76 ?_
        refine zi_return X Vz dX1_becomeProduct_79 ?_
        rw [e5, mup_mup]
        refine hfin _ ?_
        rw [bsg_prod hnz1 hnz2, if_neg c_68]
  | succ k ih =>
    intro i e hi h1 h2 h3
    have g1 : mup h0 r (bA (cA 0) (bN e)) b = some (bigO r 0) := by rw [mup_ne hbr]; exact f5
    have g2 : mup h0 r (bA (cA 0) (bN e)) b1 = some (bigO r1 v1) := by rw [mup_ne hb1r]; exact f1
    have g3 : mup h0 r (bA (cA 0) (bN e)) b2 = some (bigO r2 v2) := by rw [mup_ne hb2r]; exact f2
    have g4 : mup h0 r (bA (cA 0) (bN e)) r1 = some (bigA (cA 0) v1) := by rw [mup_ne hr1]; exact f3
    have g5 : mup h0 r (bA (cA 0) (bN e)) r2 = some (bigA (cA 0) v2) := by rw [mup_ne hr2]; exact f4
    refine zi_iload_n X dX1_becomeProduct_6 rfl rfl ?_
    refine zi_aload_n X dX1_becomeProduct_7 rfl rfl ?_
    refine zi_getf (C := RX1) (T := TX1) (N := 3) (ci := 5) X (by first | assumption | exact mup_self | (rw [mup_ne (by assumption)]; assumption) | (rw [mup_ne (by assumption)]; exact mup_self) | (rw [mup_ne (by assumption), mup_ne (by assumption)]; assumption)) rfl in_X1 1 (by decide) wf_X1_13 rfl rfl dX1_becomeProduct_8 ?_
    refine zi_icmp_ge (tgt := 34) X dX1_becomeProduct_11 (by decide) (fun c_11 => (by first | exact absurd (by rw [hn1]; exact nI_ge (show i < n1 by omega) (by omega)) c_11 | exact absurd c_11 (by rw [hn1]; exact nI_ge (show i < n1 by omega) (by omega)))) (fun c_11 => ?_)
    refine zi_aload_n X dX1_becomeProduct_14 rfl rfl ?_
    refine zi_aload_n X dX1_becomeProduct_15 rfl rfl ?_
    refine zi_iload_n X dX1_becomeProduct_16 rfl rfl ?_
    refine zi_aload_n X dX1_becomeProduct_17 rfl rfl ?_
    refine zi_getf (C := RX1) (T := TX1) (N := 3) (ci := 5) X (by first | assumption | exact mup_self | (rw [mup_ne (by assumption)]; assumption) | (rw [mup_ne (by assumption)]; exact mup_self) | (rw [mup_ne (by assumption), mup_ne (by assumption)]; assumption)) rfl in_X1 0 (by decide) wf_X1_9 rfl rfl dX1_becomeProduct_18 ?_
    refine zi_iload_n X dX1_becomeProduct_21 rfl rfl ?_
    refine zi_iald X 0 (by first | assumption | exact mup_self | (rw [mup_ne (by assumption)]; assumption) | (rw [mup_ne (by assumption)]; exact mup_self) | (rw [mup_ne (by assumption), mup_ne (by assumption)]; assumption)) rfl (vin (show i < 20 by omega) (by decide)) dX1_becomeProduct_22 ?_
    refine zi_i2l X dX1_becomeProduct_23 ?_
    rw [bN_at (by omega)]
    have hdl := bdig_lt v1.natAbs i
    refine zi_callVl X (k_addMultiple l D cA (A := i) (M := n2) (n := nI (blen 0)) (g := bsg 0) (g2 := bsg v2) (o := bdig v2.natAbs) (F := (bdig v1.natAbs i : Int)) (K := n2 + 1) g1 mup_self (by rw [← hn2]; exact g3) g5 hr2 h1 (fun j _ => bdig_lt _ j) (by omega) (by omega) (l_d hdl) (by omega) (by omega) (by omega)) kc_X1_addMultiple wm_X1_46 g1 rfl wim_X1_addMultiple wse_X1_addMultiple ⟨Nat.le_of_ble_eq_true rfl, Nat.le_of_ble_eq_true rfl⟩ rfl rfl (Nat.le_of_ble_eq_true rfl) ⟨Nat.le_of_ble_eq_true rfl, Nat.le_of_ble_eq_true rfl⟩ dX1_becomeProduct_24 (fun x h5 hx => ?_)
    obtain ⟨e', e5, hP⟩ := hx
    refine zi_pop2 X dX1_becomeProduct_27 rfl ?_
    refine zi_iinc (v := nI (i + 1)) X dX1_becomeProduct_28 rfl (nI_inc _) (by decide) ?_
    refine zi_goto (tgt := 6) X dX1_becomeProduct_31 (by decide) ?_
    rw [e5, mup_mup]
    have hC : x.toInt = 0 := by
      by_cases q : v2.natAbs = 0
      · have hz := hP.2.2
        rw [hv2n, q] at hz
        have hh : bval (bsl e i) (n2 + 1) < BB ^ (n2 + 1) := bval_bsl_lt h1 (by omega)
        have hh2 : bval (bsl e' i) (n2 + 1) < BB ^ (n2 + 1) := bval_bsl_lt hP.1 (by omega)
        exact bp_zero (Q := 0) hz (by omega) (by omega) (by omega) (by omega)
      · have hz := hP.2.2
        rw [hv2n] at hz
        have hc : bval (bsl e i) (n2 + 1) = bval (bsl e i) n2 := by
          rw [bval]
          have : bsl e i n2 = 0 := h2 _ (Nat.le_refl _)
          rw [this, Nat.zero_mul, Nat.add_zero]
        have hlt := bp_lt h3 (fun j _ => bdig_lt _ j) (Nat.pos_of_ne_zero q)
        have hfit := bp_fit hlt hdl hV2
        have hh2 : bval (bsl e' i) (n2 + 1) < BB ^ (n2 + 1) := bval_bsl_lt hP.1 (by omega)
        rw [hc] at hz
        have hcast : ((bval (bsl e i) n2 : Nat) : Int) + (bdig v1.natAbs i : Int) * (v2.natAbs : Nat) = ((bval (bsl e i) n2 + bdig v1.natAbs i * v2.natAbs : Nat) : Int) := by rw [Int.natCast_add, Int.natCast_mul]
        rw [hcast] at hz
        exact bp_zero (Q := 0) hz (by omega) (by omega) (by omega) (by omega)
    have ht := am_total hP hC
    rw [hv2n] at ht
    refine zi_sub (by repeat (first | exact trivial | refine And.intro rfl ?_)) (ih (i + 1) e' (by omega) hP.1 (fun j hj => ?_) ?_)
    · rw [hP.2.1 j (Or.inr (by omega))]
      exact h2 j (by omega)
    · have e6 : i + 1 + n2 = i + (n2 + 1) := by omega
      have e7 : bval e (i + (n2 + 1)) = bval e (i + n2) := by
        rw [← Nat.add_assoc, bval, h2 _ (Nat.le_refl _), Nat.zero_mul, Nat.add_zero]
      rw [e7, h3] at ht
      rw [e6, bval, Nat.add_mul]
      have e8 : ((bval (bdig v1.natAbs) i * v2.natAbs : Nat) : Int) + (bdig v1.natAbs i : Int) * (v2.natAbs : Nat) * (BB ^ i : Nat) = ((bval (bdig v1.natAbs) i * v2.natAbs + bdig v1.natAbs i * BB ^ i * v2.natAbs : Nat) : Int) := by
        rw [Int.natCast_add, Int.natCast_mul (bdig v1.natAbs i * BB ^ i), Int.natCast_mul (bdig v1.natAbs i)]
        congr 1
        ac_rfl
      rw [e8] at ht
      exact Int.natCast_inj.mp ht
