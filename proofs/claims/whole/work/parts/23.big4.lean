/-! SturmRoots$Big: multiplyBy, becomeValue, complement -/
theorem isBig.mag {h : mH} {c : ClassId} {b r : Nat} {v : Int} (hB : isBig h c b r v) : h b = some (bO r (nI (blen v.natAbs)) (bsg v)) ∧ h r = some (bA c (bN (bdig v.natAbs))) := ⟨hB.1, hB.2.1⟩
theorem bsg_mul {v : Int} {F : Nat} (hF : 0 < F) : bsg (v * F) = bsg v := by
  have h : v * (F : Int) < 0 ↔ v < 0 := by
    constructor
    · intro h
      by_cases q : v < 0
      · exact q
      · have := Int.mul_nonneg (show 0 ≤ v by omega) (show (0 : Int) ≤ F by omega)
        omega
    · intro h
      exact Int.mul_neg_of_neg_of_pos h (by omega)
  unfold bsg
  by_cases q : v < 0
  · rw [if_pos q, if_pos (h.mpr q)]
  · rw [if_neg q, if_neg (fun z => q (h.mp z))]
theorem k_multiplyBy (l : Launch) (D : va_G) (cA : Nat → ClassId) {h : mH} {b r : Nat} {v : Int} {f : Int32} (hB : isBig h (cA 0) b r v) (hf : f.toInt.natAbs < BB) (hvf : (v * f.toInt).natAbs < BB ^ 20) :
    mCv l yX1_multiplyBy cX1_multiplyBy 2 (rmd 2) D (mT cA) [.ref b, .int f] h (fun h1 => h1 = mbig h (cA 0) b r (v * f.toInt)) := by
  have hrb := (hB.ne hB).symm
  have hb := hB.1
  refine mEnter_v (by decide) (Nat.le_of_ble_eq_true rfl) rfl (fun z X Vz => ?_)
  refine zi_iload_n X dX1_multiplyBy_0 rfl rfl ?_
  refine zi_if_ne (tgt := 9) X dX1_multiplyBy_1 (by decide) (fun c_1 => ?_) (fun c_1 => ?_)
  · have hf0 : f.toInt ≠ 0 := fun q => c_1 (i32_ext q)
    generalize hFe : f.toInt.natAbs = F at hf
    have hF0 : 0 < F := by omega
    have hnf : (v * f.toInt).natAbs = v.natAbs * F := by rw [Int.natAbs_mul, hFe]
    refine zi_aload_n X dX1_multiplyBy_9 rfl rfl ?_
    refine zi_iload_n X dX1_multiplyBy_10 rfl rfl ?_
    refine zi_i2l X dX1_multiplyBy_11 ?_
    refine zi_mabsl X wm_X1_24 (Nat.le_of_ble_eq_true rfl) (Nat.le_of_ble_eq_true rfl) ⟨(Nat.le_of_ble_eq_true rfl), (Nat.le_of_ble_eq_true rfl)⟩ dX1_multiplyBy_12 ?_
    have habs : (if 0 < f.toInt64 then f.toInt64 else -f.toInt64).toInt = (F : Int) := by
      have h1 : f.toInt64.toInt = f.toInt := i32_i64 f
      by_cases q : 0 < f.toInt64
      · rw [if_pos q, h1]
        have := (fa_lt64 _ _).mp q
        rw [h1] at this
        have e0 : (0 : Int64).toInt = 0 := rfl
        omega
      · rw [if_neg q]
        have h2 : ¬ (0 : Int64).toInt < f.toInt64.toInt := fun z => q ((fa_lt64 _ _).mpr z)
        have e0 : (0 : Int64).toInt = 0 := rfl
        rw [e0, h1] at h2
        have e1 : (-f.toInt64 : Int64) = 0 - f.toInt64 := (Int64.zero_sub _).symm
        have hr := fb_rng f
        rw [e1, l_sub e0 h1 (by omega) (by omega)]
        omega
    refine zi_callVv X (k_magnify l D cA hB.mag.1 hB.mag.2 habs hF0 hf (by rw [← hnf]; exact hvf)) kc_X1_magnify wm_X1_60 (by first | assumption | exact mup_self | (rw [mup_ne (by assumption)]; assumption) | (rw [mup_ne (by assumption)]; exact mup_self) | (rw [mup_ne (by assumption), mup_ne (by assumption)]; assumption)) rfl wim_X1_magnify wse_X1_magnify ⟨Nat.le_of_ble_eq_true rfl, Nat.le_of_ble_eq_true rfl⟩ rfl rfl (Nat.le_of_ble_eq_true rfl) ⟨Nat.le_of_ble_eq_true rfl, Nat.le_of_ble_eq_true rfl⟩ dX1_multiplyBy_15 (fun h1 e1 => ?_)
    have e2 : h1 = mbig h (cA 0) b r (v * (F : Int)) := by
      rw [e1]
      unfold mbig bigO bigA
      rw [Int.natAbs_mul, Int.natAbs_natCast, bsg_mul hF0]
    refine zi_iload_n X dX1_multiplyBy_18 rfl rfl ?_
    refine zi_if_ge (tgt := 26) X dX1_multiplyBy_19 (by decide) (fun c_19 => ?_) (fun c_19 => ?_)
    · refine zi_return X Vz dX1_multiplyBy_26 ?_
      have := (fa_le _ _).mp c_19
      have e0 : (0 : Int32).toInt = 0 := rfl
      rw [e2, show (F : Int) = f.toInt by omega]
    · have q : ¬ (0 : Int32).toInt ≤ f.toInt := fun z => c_19 ((fa_le _ _).mpr z)
      have e0 : (0 : Int32).toInt = 0 := rfl
      have hB1 : isBig h1 (cA 0) b r (v * (F : Int)) := by
        rw [e2]
        exact mbig_is hrb (by rw [Int.natAbs_mul, Int.natAbs_natCast, ← hnf]; exact hvf)
      have hb1 := hB1.1
      refine zi_aload_n X dX1_multiplyBy_22 rfl rfl ?_
      refine zi_callVv X (k_flip l D cA hB1) kc_X1_flipSign wm_X1_64 (by first | assumption | exact mup_self | (rw [mup_ne (by assumption)]; assumption) | (rw [mup_ne (by assumption)]; exact mup_self) | (rw [mup_ne (by assumption), mup_ne (by assumption)]; assumption)) rfl wim_X1_flipSign wse_X1_flipSign ⟨Nat.le_of_ble_eq_true rfl, Nat.le_of_ble_eq_true rfl⟩ rfl rfl (Nat.le_of_ble_eq_true rfl) ⟨Nat.le_of_ble_eq_true rfl, Nat.le_of_ble_eq_true rfl⟩ dX1_multiplyBy_23 (fun h2 e3 => ?_)
      refine zi_return X Vz dX1_multiplyBy_26 ?_
      rw [e3, e2, mbig_mbig]
      congr 1
      rw [show f.toInt = -(F : Int) by omega, Int.mul_neg]
  · refine zi_aload_n X dX1_multiplyBy_4 rfl rfl ?_
    refine zi_callVv X (k_clear l D cA hB) kc_X1_clear wm_X1_21 (by first | assumption | exact mup_self | (rw [mup_ne (by assumption)]; assumption) | (rw [mup_ne (by assumption)]; exact mup_self) | (rw [mup_ne (by assumption), mup_ne (by assumption)]; assumption)) rfl wim_X1_clear wse_X1_clear ⟨Nat.le_of_ble_eq_true rfl, Nat.le_of_ble_eq_true rfl⟩ rfl rfl (Nat.le_of_ble_eq_true rfl) ⟨Nat.le_of_ble_eq_true rfl, Nat.le_of_ble_eq_true rfl⟩ dX1_multiplyBy_5 (fun h1 e1 => ?_)
    refine zi_return X Vz dX1_multiplyBy_8 ?_
    rw [e1, c_1]
    congr 1
    show 0 = v * 0
    rw [Int.mul_zero]
theorem bval2 (M : Nat) : bval (updN (updN (bdig 0) 0 (M % BB)) 1 (M / BB % BB)) 2 = M % (BB * BB) := by
  rw [bval, bval, bval, updN_s, updN_n (by decide), updN_s, Nat.pow_zero, Nat.pow_one, Nat.mul_one, Nat.zero_add, Nat.mod_mul, Nat.mul_comm]
theorem k_becomeValue (l : Launch) (D : va_G) (cA : Nat → ClassId) {h : mH} {b r : Nat} {v0 : Int} {x : Int64} (hB : isBig h (cA 0) b r v0) (hx : x.toInt.natAbs < BB * BB) :
    mCv l yX1_becomeValue cX1_becomeValue 5 (rmd 2) D (mT cA) [.ref b, .long x] h (fun h1 => h1 = mbig h (cA 0) b r x.toInt) := by
  have hrb := (hB.ne hB).symm
  have hbr := hB.ne hB
  have hb := hB.1
  have hBB : BB = 1073741824 := rfl
  refine mEnter_v (by decide) (Nat.le_of_ble_eq_true rfl) rfl (fun z X Vz => ?_)
  refine zi_aload_n X dX1_becomeValue_0 rfl rfl ?_
  refine zi_callVv X (k_clear l D cA hB) kc_X1_clear wm_X1_21 (by first | assumption | exact mup_self | (rw [mup_ne (by assumption)]; assumption) | (rw [mup_ne (by assumption)]; exact mup_self) | (rw [mup_ne (by assumption), mup_ne (by assumption)]; assumption)) rfl wim_X1_clear wse_X1_clear ⟨Nat.le_of_ble_eq_true rfl, Nat.le_of_ble_eq_true rfl⟩ rfl rfl (Nat.le_of_ble_eq_true rfl) ⟨Nat.le_of_ble_eq_true rfl, Nat.le_of_ble_eq_true rfl⟩ dX1_becomeValue_1 (fun h1 e1 => ?_)
  have hb1 : h1 b = some (bigO r 0) := by rw [e1]; exact mbig_b
  have hr1 : h1 r = some (bigA (cA 0) 0) := by rw [e1]; exact mbig_r hrb
  generalize hMe : x.toInt.natAbs = M at hx
  have habs : (if 0 < x then x else -x).toInt = (M : Int) := by
    have e0 : (0 : Int64).toInt = 0 := rfl
    by_cases q : 0 < x
    · rw [if_pos q]
      have := (fa_lt64 _ _).mp q
      omega
    · rw [if_neg q]
      have h2 : ¬ (0 : Int64).toInt < x.toInt := fun z => q ((fa_lt64 _ _).mpr z)
      have e1 : (-x : Int64) = 0 - x := (Int64.zero_sub _).symm
      rw [hBB] at hx
      rw [e1, l_sub e0 rfl (by omega) (by omega)]
      omega
  refine zi_lload_n X dX1_becomeValue_4 rfl rfl ?_
  refine zi_mabsl X wm_X1_24 (Nat.le_of_ble_eq_true rfl) (Nat.le_of_ble_eq_true rfl) ⟨(Nat.le_of_ble_eq_true rfl), (Nat.le_of_ble_eq_true rfl)⟩ dX1_becomeValue_5 ?_
  refine zi_lstore_n X dX1_becomeValue_8 rfl (by decide) ?_
  refine zi_aload_n X dX1_becomeValue_9 rfl rfl ?_
  refine zi_getf (C := RX1) (T := TX1) (N := 3) (ci := 5) X (by first | assumption | exact mup_self | (rw [mup_ne (by assumption)]; assumption) | (rw [mup_ne (by assumption)]; exact mup_self) | (rw [mup_ne (by assumption), mup_ne (by assumption)]; assumption)) rfl in_X1 0 (by decide) wf_X1_9 rfl rfl dX1_becomeValue_10 ?_
  refine zi_iconst (v := (nI 0)) X dX1_becomeValue_13 (by decide) ?_
  refine zi_lload_n X dX1_becomeValue_14 rfl rfl ?_
  refine zi_ldc2_w X wK_X1_30 dX1_becomeValue_15 ?_
  refine zi_land X dX1_becomeValue_18 ?_
  refine zi_l2i X dX1_becomeValue_19 ?_
  refine zi_iast X 0 (by first | assumption | exact mup_self | (rw [mup_ne (by assumption)]; assumption) | (rw [mup_ne (by assumption)]; exact mup_self) | (rw [mup_ne (by assumption), mup_ne (by assumption)]; assumption)) rfl (vin (show 0 < 20 by decide) (by decide)) dX1_becomeValue_20 ?_
  refine zi_aload_n X dX1_becomeValue_21 rfl rfl ?_
  refine zi_getf (C := RX1) (T := TX1) (N := 3) (ci := 5) X (by first | assumption | exact mup_self | (rw [mup_ne (by assumption)]; assumption) | (rw [mup_ne (by assumption)]; exact mup_self) | (rw [mup_ne (by assumption), mup_ne (by assumption)]; assumption)) rfl in_X1 0 (by decide) wf_X1_9 rfl rfl dX1_becomeValue_22 ?_
  refine zi_iconst (v := (nI 1)) X dX1_becomeValue_25 (by decide) ?_
  refine zi_lload_n X dX1_becomeValue_26 rfl rfl ?_
  refine zi_bipush (v := (nI 30)) X dX1_becomeValue_27 (by decide) ?_
  refine zi_lshr X dX1_becomeValue_29 ?_
  refine zi_ldc2_w X wK_X1_30 dX1_becomeValue_30 ?_
  refine zi_land X dX1_becomeValue_33 ?_
  refine zi_l2i X dX1_becomeValue_34 ?_
  refine zi_iast X 0 (by first | assumption | exact mup_self | (rw [mup_ne (by assumption)]; assumption) | (rw [mup_ne (by assumption)]; exact mup_self) | (rw [mup_ne (by assumption), mup_ne (by assumption)]; assumption)) rfl (vin (show 1 < 20 by decide) (by decide)) dX1_becomeValue_35 ?_
  refine zi_aload_n X dX1_becomeValue_36 rfl rfl ?_
  refine zi_iconst (v := (nI 2)) X dX1_becomeValue_37 (by decide) ?_
  rw [l_low habs, l_low (l_hi habs)]
  rw [mup_mup]
  refine zi_eqh (h' := mup h1 r (bA (cA 0) (bN (updN (updN (bdig 0) 0 (M % BB)) 1 (M / BB % BB))))) ?_ ?_
  · congr 1
    show bA (cA 0) _ = bA (cA 0) _
    have e := bN_upd (d := bdig 0) (k := 0) (x := M % BB) (by decide)
    have e' := bN_upd (d := updN (bdig 0) 0 (M % BB)) (k := 1) (x := M / BB % BB) (by decide)
    rw [← e', ← e]
    rfl
  generalize hd : updN (updN (bdig 0) 0 (M % BB)) 1 (M / BB % BB) = d
  have hdl : ∀ j, j < 2 → d j < BB := fun j hj => by
    rw [← hd]
    have : j = 0 ∨ j = 1 := by omega
    rcases this with rfl | rfl
    · rw [updN_n (by decide), updN_s]; exact Nat.mod_lt _ (by decide)
    · rw [updN_s]; exact Nat.mod_lt _ (by decide)
  have hdz : ∀ j, 2 ≤ j → d j = 0 := fun j hj => by rw [← hd, updN_n (by omega), updN_n (by omega), bdig_0]
  have hval : bval d 2 = M := by rw [← hd, bval2, Nat.mod_eq_of_lt hx]
  have hdig : bdig M = d := by rw [← hval]; exact bdig_of hdl hdz
  have hlen : stN d 2 = blen M := by rw [← hval, blen_of (by decide) hdl hdz]
  have hM20 : M < BB ^ 20 := Nat.lt_of_lt_of_le hx (by decide)
  refine zi_callVv X (k_settle l D cA (n := nI (blen 0)) (g := bsg 0) (by decide) hdl (by rw [mup_ne hbr]; exact hb1) mup_self) kc_X1_settle wm_X1_32 (by rw [mup_ne hbr]; exact hb1) rfl wim_X1_settle wse_X1_settle ⟨Nat.le_of_ble_eq_true rfl, Nat.le_of_ble_eq_true rfl⟩ rfl rfl (Nat.le_of_ble_eq_true rfl) ⟨Nat.le_of_ble_eq_true rfl, Nat.le_of_ble_eq_true rfl⟩ dX1_becomeValue_38 (fun h2 e2 => ?_)
  rw [hlen] at e2
  have hb2 : h2 b = some (bO r (nI (blen M)) (if blen M = 0 then nI 0 else bsg 0)) := by rw [e2]; exact mup_self
  have hfin : ∀ g, g = bsg x.toInt → mup (mup h1 r (bA (cA 0) (bN d))) b (bO r (nI (blen M)) g) = mbig h (cA 0) b r x.toInt := by
    intro g hg
    rw [e1, hg]
    unfold mbig bigO bigA
    rw [hMe, hdig]
    funext a
    unfold mup
    by_cases q1 : a = b <;> by_cases q2 : a = r <;> simp [q1, q2]
  have hl20 := blen_le M
  refine zi_aload_n X dX1_becomeValue_41 rfl rfl ?_
  refine zi_getf (C := RX1) (T := TX1) (N := 3) (ci := 5) X (by first | assumption | exact mup_self | (rw [mup_ne (by assumption)]; assumption) | (rw [mup_ne (by assumption)]; exact mup_self) | (rw [mup_ne (by assumption), mup_ne (by assumption)]; assumption)) rfl in_X1 1 (by decide) wf_X1_13 rfl rfl dX1_becomeValue_42 ?_
  refine zi_if_le (tgt := 63) X dX1_becomeValue_45 (by decide) (fun c_45 => ?_) (fun c_45 => ?_)
  · have : blen M = 0 := (nI_lez (by omega)).mp c_45
    have hM0 := (blen_0 hM20).mp this
    refine zi_return X Vz dX1_becomeValue_63 ?_
    rw [e2]
    exact hfin _ (by rw [if_pos this]; unfold bsg; rw [if_neg (by omega)])
  · have hp : ¬ blen M = 0 := fun q => c_45 ((nI_lez (by omega)).mpr q)
    refine zi_aload_n X dX1_becomeValue_48 rfl rfl ?_
    refine zi_lload_n X dX1_becomeValue_49 rfl rfl ?_
    refine zi_lconst (v := lN 0) X dX1_becomeValue_50 (by decide) ?_
    refine zi_lcmp X dX1_becomeValue_51 ?_
    refine zi_if_ge (tgt := 59) X dX1_becomeValue_52 (by decide) (fun c_52 => ?_) (fun c_52 => ?_)
    · refine zi_iconst (v := (nI 0)) X dX1_becomeValue_59 (by decide) ?_
      refine zi_putf (C := RX1) (T := TX1) (N := 3) (ci := 5) (ty0 := tyX1) X (by first | assumption | exact mup_self | (rw [mup_ne (by assumption)]; assumption) | (rw [mup_ne (by assumption)]; exact mup_self) | (rw [mup_ne (by assumption), mup_ne (by assumption)]; assumption)) rfl in_X1 tyX1_ok nmX1 2 (by decide) wf_X1_17 rfl rfl rfl rfl rfl (Nat.le_of_ble_eq_true rfl) dX1_becomeValue_60 ?_
      refine zi_return X Vz dX1_becomeValue_63 ?_
      rw [e2, mup_mup]
      refine hfin _ ?_
      have := (fa_le64 _ _).mp ((lg_cmp_ge _ _).mp c_52)
      have e0 : (lN 0).toInt = 0 := rfl
      unfold bsg
      rw [if_neg (by omega)]
    · refine zi_iconst (v := (nI 1)) X dX1_becomeValue_55 (by decide) ?_
      refine zi_goto (tgt := 60) X dX1_becomeValue_56 (by decide) ?_
      refine zi_putf (C := RX1) (T := TX1) (N := 3) (ci := 5) (ty0 := tyX1) X (by first | assumption | exact mup_self | (rw [mup_ne (by assumption)]; assumption) | (rw [mup_ne (by assumption)]; exact mup_self) | (rw [mup_ne (by assumption), mup_ne (by assumption)]; assumption)) rfl in_X1 tyX1_ok nmX1 2 (by decide) wf_X1_17 rfl rfl rfl rfl rfl (Nat.le_of_ble_eq_true rfl) dX1_becomeValue_60 ?_
      refine zi_return X Vz dX1_becomeValue_63 ?_
      rw [e2, mup_mup]
      refine hfin _ ?_
      have : ¬ (lN 0).toInt ≤ x.toInt := fun q => c_52 ((lg_cmp_ge _ _).mpr ((fa_le64 _ _).mpr q))
      have e0 : (lN 0).toInt = 0 := rfl
      unfold bsg
      rw [if_pos (by omega)]
theorem cmp_div (a : Nat) {C : Nat} (hC : C ≤ 1) : (BB - 1 - a + C) / BB ≤ 1 := by
  have h : BB - 1 - a + C ≤ BB := by
    generalize hB : BB = B
    have : 0 < B := by rw [← hB]; decide
    omega
  exact Nat.le_trans (Nat.div_le_div_right h) (Nat.le_of_eq (Nat.div_self (by decide)))
theorem k_complement (l : Launch) (D : va_G) (cA : Nat → ClassId) {h : mH} {b r E : Nat} {n g : Int32} {d : Nat → Nat} (hE : E ≤ 20) (hd : ∀ j, j < E → d j < BB) (hb : h b = some (bO r n g)) (hr : h r = some (bA (cA 0) (bN d))) :
    mCv l yX1_complement cX1_complement 7 (rmd 1) D (mT cA) [.ref b, .int (nI E)] h (fun h1 => ∃ e, h1 = mup h r (bA (cA 0) (bN e)) ∧ (∀ j, j < E → e j < BB) ∧ (∀ j, E ≤ j → e j = d j) ∧ (0 < bval d E → bval e E + bval d E = BB ^ E)) := by
  have hbr : b ≠ r := fun q => by rw [q, hr] at hb; cases hb
  have hBB : BB = 1073741824 := rfl
  refine mEnter_v (by decide) (Nat.le_of_ble_eq_true rfl) rfl (fun z X Vz => ?_)
  refine zi_lconst (v := lN 1) X dX1_complement_0 (by decide) ?_
  refine zi_lstore_n X dX1_complement_1 rfl (by decide) ?_
  refine zi_iconst (v := (nI 0)) X dX1_complement_2 (by decide) ?_
  refine zi_istore X dX1_complement_3 (by decide) ?_
  suffices key : ∀ k i (e : Nat → Nat) (C : Nat) (c : Int64), i + k = E → c.toInt = (C : Int) → C ≤ 1 → (∀ j, j < i → e j < BB) → (∀ j, i ≤ j → e j = d j) → bval e i + bval d i + C * BB ^ i = BB ^ i → zM z 0 0 5 [some (.ref b), some (.int (nI E)), some (.long c), none, some (.int (nI i)), none, none] [] (mup h r (bA (cA 0) (bN e))) from
    zi_sub (by repeat (first | exact trivial | refine And.intro rfl ?_)) (zi_eqh (mup_same hr).symm (key E 0 d 1 (lN 1) (by omega) rfl (by decide) (fun j hj => absurd hj (Nat.not_lt_zero j)) (fun j _ => rfl) (by simp [bval])))
  intro k
  induction k with
  | zero =>
    intro i e C c hi hc hC h1 h2 h3
    have : i = E := by omega
    subst this
    refine zi_iload X dX1_complement_5 rfl ?_
    refine zi_iload_n X dX1_complement_7 rfl rfl ?_
    refine zi_icmp_ge (tgt := 52) X dX1_complement_8 (by decide) (fun c_8 => ?_) (fun c_8 => (by first | exact absurd (Int32.le_refl _) c_8 | exact absurd c_8 (Int32.le_refl _)))
    refine zi_return X Vz dX1_complement_52 ?_
    refine ⟨e, rfl, h1, h2, fun hp => ?_⟩
    by_cases q : C = 0
    · rw [q] at h3; omega
    · have : C = 1 := by omega
      rw [this] at h3
      omega
  | succ k ih =>
    intro i e C c hi hc hC h1 h2 h3
    have hdi : e i < BB := by rw [h2 i (Nat.le_refl i)]; exact hd i (by omega)
    refine zi_iload X dX1_complement_5 rfl ?_
    refine zi_iload_n X dX1_complement_7 rfl rfl ?_
    refine zi_icmp_ge (tgt := 52) X dX1_complement_8 (by decide) (fun c_8 => (by first | exact absurd (nI_ge (show i < E by omega) (by omega)) c_8 | exact absurd c_8 (nI_ge (show i < E by omega) (by omega)))) (fun c_8 => ?_)
    have hval : ((1073741823 - (bN e) (nI i).toNatClampNeg : Int32).toInt64 + c).toInt = ((BB - 1 - e i + C : Nat) : Int) := by
      rw [bN_at (by omega), show (1073741823 : Int32) = nI 1073741823 from rfl, pk_sub (by rw [hBB] at hdi; omega)]
      rw [hBB] at hdi ⊢
      rw [l_add (l_d (show 1073741823 - e i < BB by rw [hBB]; omega)) hc (by omega) (by omega)]
      omega
    refine zi_ldc X wk_X1_74 dX1_complement_11 ?_
    refine zi_aload_n X dX1_complement_13 rfl rfl ?_
    refine zi_getf (C := RX1) (T := TX1) (N := 3) (ci := 5) X (by first | assumption | exact mup_self | (rw [mup_ne (by assumption)]; assumption) | (rw [mup_ne (by assumption)]; exact mup_self) | (rw [mup_ne (by assumption), mup_ne (by assumption)]; assumption)) rfl in_X1 0 (by decide) wf_X1_9 rfl rfl dX1_complement_14 ?_
    refine zi_iload X dX1_complement_17 rfl ?_
    refine zi_iald X 0 (by first | assumption | exact mup_self | (rw [mup_ne (by assumption)]; assumption) | (rw [mup_ne (by assumption)]; exact mup_self) | (rw [mup_ne (by assumption), mup_ne (by assumption)]; assumption)) rfl (vin (show i < 20 by omega) (by decide)) dX1_complement_19 ?_
    refine zi_isub X dX1_complement_20 ?_
    refine zi_i2l X dX1_complement_21 ?_
    refine zi_lload_n X dX1_complement_22 rfl rfl ?_
    refine zi_ladd X dX1_complement_23 ?_
    refine zi_lstore X dX1_complement_24 (by decide) ?_
    refine zi_aload_n X dX1_complement_26 rfl rfl ?_
    refine zi_getf (C := RX1) (T := TX1) (N := 3) (ci := 5) X (by first | assumption | exact mup_self | (rw [mup_ne (by assumption)]; assumption) | (rw [mup_ne (by assumption)]; exact mup_self) | (rw [mup_ne (by assumption), mup_ne (by assumption)]; assumption)) rfl in_X1 0 (by decide) wf_X1_9 rfl rfl dX1_complement_27 ?_
    refine zi_iload X dX1_complement_30 rfl ?_
    refine zi_lload X dX1_complement_32 rfl ?_
    refine zi_ldc2_w X wK_X1_30 dX1_complement_34 ?_
    refine zi_land X dX1_complement_37 ?_
    refine zi_l2i X dX1_complement_38 ?_
    refine zi_iast X 0 (by first | assumption | exact mup_self | (rw [mup_ne (by assumption)]; assumption) | (rw [mup_ne (by assumption)]; exact mup_self) | (rw [mup_ne (by assumption), mup_ne (by assumption)]; assumption)) rfl (vin (show i < 20 by omega) (by decide)) dX1_complement_39 ?_
    refine zi_lload X dX1_complement_40 rfl ?_
    refine zi_bipush (v := (nI 30)) X dX1_complement_42 (by decide) ?_
    refine zi_lshr X dX1_complement_44 ?_
    refine zi_lstore_n X dX1_complement_45 rfl (by decide) ?_
    refine zi_iinc (v := nI (i + 1)) X dX1_complement_46 rfl (nI_inc _) (by decide) ?_
    refine zi_goto (tgt := 5) X dX1_complement_49 (by decide) ?_
    rw [l_low hval, bN_upd (by omega), mup_mup]
    refine zi_sub (by repeat (first | exact trivial | refine And.intro rfl ?_)) (ih (i + 1) (updN e i ((BB - 1 - e i + C) % BB)) ((BB - 1 - e i + C) / BB) _ (by omega) (l_hi hval) ?_ ?_ ?_ ?_)
    · exact cmp_div (e i) hC
    · intro j hj
      by_cases q : j = i
      · subst q; rw [updN_s]; exact Nat.mod_lt _ (by decide)
      · rw [updN_n q]; exact h1 j (by omega)
    · intro j hj
      rw [updN_n (by omega)]
      exact h2 j (by omega)
    · rw [bval_succ_eq, mul_pow_succ, bval, ← h2 i (Nat.le_refl i)]
      have h4 := mag_div (BB - 1 - e i + C)
      generalize (BB - 1 - e i + C) % BB = A at h4
      generalize (BB - 1 - e i + C) / BB = G at h4
      have h5 : A * BB ^ i + (G * BB) * BB ^ i + e i * BB ^ i + BB ^ i = (BB + C) * BB ^ i := by
        rw [← Nat.add_mul, h4, ← Nat.add_mul, ← Nat.succ_mul]
        congr 1
        rw [hBB] at hdi ⊢
        omega
      rw [Nat.add_mul] at h5
      rw [Nat.pow_succ, Nat.mul_comm (BB ^ i) BB]
      omega
