/-! SturmRoots$Big: addMultiple, becomeProduct -/
/-- the value of the limbs from A on -/
def bsl (d : Nat → Nat) (A : Nat) : Nat → Nat := fun j => d (A + j)
theorem bval_split (d : Nat → Nat) (A : Nat) : ∀ K, bval d (A + K) = bval d A + BB ^ A * bval (bsl d A) K
  | 0 => by simp [bval]
  | K + 1 => by
    rw [← Nat.add_assoc, bval, bval_split d A K, bval, Nat.mul_add, Nat.add_assoc, Nat.pow_add]
    congr 2
    unfold bsl
    ac_rfl
theorem am_step {B d F o C : Int} (hB : 0 < B) (hd0 : 0 ≤ d) (hd : d ≤ B - 1) (hF0 : -B < F) (hF : F < B) (ho0 : 0 ≤ o) (ho : o ≤ B - 1) (hC0 : -B ≤ C) (hC : C ≤ B) : -(B * B) ≤ d + F * o + C ∧ d + F * o + C ≤ B * B + B ∧ -B ≤ (d + F * o + C) / B ∧ (d + F * o + C) / B ≤ B := by
  have h1 : F * o ≤ (B - 1) * (B - 1) := by
    rcases Int.le_total 0 F with h | h
    · exact Int.mul_le_mul (by omega) ho ho0 (by omega)
    · have := Int.mul_nonneg (show 0 ≤ -F by omega) ho0
      rw [Int.neg_mul] at this
      have := Int.mul_nonneg (show 0 ≤ B - 1 by omega) (show 0 ≤ B - 1 by omega)
      omega
  have h2 : -((B - 1) * (B - 1)) ≤ F * o := by
    rcases Int.le_total 0 F with h | h
    · have := Int.mul_nonneg h ho0
      have := Int.mul_nonneg (show 0 ≤ B - 1 by omega) (show 0 ≤ B - 1 by omega)
      omega
    · have : -F * o ≤ (B - 1) * (B - 1) := Int.mul_le_mul (by omega) ho ho0 (by omega)
      rw [Int.neg_mul] at this
      omega
  have e : (B - 1) * (B - 1) = B * B - 2 * B + 1 := by
    rw [Int.sub_mul, Int.mul_sub]
    omega
  rw [e] at h1 h2
  refine ⟨by omega, by omega, ?_, ?_⟩
  · refine (Int.le_ediv_iff_mul_le hB).mpr ?_
    rw [Int.neg_mul]
    omega
  · have : (d + F * o + C) / B < B + 1 := Int.ediv_lt_of_lt_mul hB (by rw [Int.add_mul]; omega)
    omega
theorem am_inv {e d F o C M X x y R G : Int} (h : e + C * M = d + F * o) (hX : R + 1073741824 * G = X) (hx : X = x + F * y + C) : (e + R * M) + G * (M * 1073741824) = (d + x * M) + F * (o + y * M) := by grind
def amP (d e : Nat → Nat) (A K : Nat) (F C : Int) (o : Nat → Nat) : Prop := (∀ j, j < 20 → e j < BB) ∧ (∀ j, j < A ∨ A + K ≤ j → e j = d j) ∧ (bval (bsl e A) K : Int) + C * (BB ^ K : Nat) = bval (bsl d A) K + F * bval o K
theorem k_addMultiple (l : Launch) (D : va_G) (cA : Nat → ClassId) {h : mH} {b r b2 r2 A M : Nat} {n g g2 : Int32} {d o : Nat → Nat} {f : Int64} {F : Int} (hb : h b = some (bO r n g)) (hr : h r = some (bA (cA 0) (bN d))) (hb2 : h b2 = some (bO r2 (nI M) g2)) (hr2 : h r2 = some (bA (cA 0) (bN o))) (hrr : r2 ≠ r) (hd : ∀ j, j < 20 → d j < BB) (ho : ∀ j, j < 20 → o j < BB) (hA : A ≤ 20) (hM : M ≤ 20) (hf : f.toInt = F) (hF0 : -(BB : Int) < F) (hF : F < BB) {K : Nat} (hK : K = min (M + 1) (20 - A)) :
    mCl l yX1_addMultiple cX1_addMultiple 10 (rmd 1) D (mT cA) [.ref b, .ref b2, .int (nI A), .long f] h (fun x h1 => ∃ e, h1 = mup h r (bA (cA 0) (bN e)) ∧ amP d e A K F x.toInt o) := by
  have hbr : b ≠ r := fun q => by rw [q, hr] at hb; cases hb
  have hb2r : b2 ≠ r := fun q => by rw [q, hr] at hb2; cases hb2
  have hrb : r ≠ b := hbr.symm
  refine mEnter_l (by decide) (Nat.le_of_ble_eq_true rfl) rfl (fun z X Vz => ?_)
  refine zi_lconst (v := lN 0) X dX1_addMultiple_0 (by decide) ?_
  refine zi_lstore X dX1_addMultiple_1 (by decide) ?_
  refine zi_iconst (v := (nI 0)) X dX1_addMultiple_3 (by decide) ?_
  refine zi_istore X dX1_addMultiple_4 (by decide) ?_
  suffices key : ∀ k i (e : Nat → Nat) (c : Int64), i + k = K → -(BB : Int) ≤ c.toInt → c.toInt ≤ BB → amP d e A i F c.toInt o → zM z 0 0 6 [some (.ref b), some (.ref b2), some (.int (nI A)), some (.long f), none, some (.long c), none, some (.int (nI i)), none, none] [] (mup h r (bA (cA 0) (bN e))) from
    zi_sub (by repeat (first | exact trivial | refine And.intro rfl ?_)) (zi_eqh (mup_same hr).symm (key K 0 d (lN 0) (by omega) (by rw [lN0]; decide) (by rw [lN0]; decide) ⟨hd, fun j _ => rfl, by rw [lN0]; simp [bval]⟩))
  intro k
  induction k with
  | zero =>
    intro i e c hi hc0 hc1 hP
    have : i = K := by omega
    subst this
    refine zi_iload X dX1_addMultiple_6 rfl ?_
    refine zi_aload_n X dX1_addMultiple_8 rfl rfl ?_
    refine zi_getf (C := RX1) (T := TX1) (N := 3) (ci := 5) X (by first | assumption | exact mup_self | (rw [mup_ne (by assumption)]; assumption) | (rw [mup_ne (by assumption)]; exact mup_self) | (rw [mup_ne (by assumption), mup_ne (by assumption)]; assumption)) rfl in_X1 1 (by decide) wf_X1_13 rfl rfl dX1_addMultiple_9 ?_
    refine zi_icmp_gt (tgt := 90) X dX1_addMultiple_12 (by decide) (fun c_12 => ?_) (fun c_12 => ?_)
    · refine zi_lload X dX1_addMultiple_90 rfl ?_
      refine zi_lreturn X Vz dX1_addMultiple_92 ?_
      exact ⟨e, rfl, hP⟩
    · have hle : i ≤ M := by
        have : ¬ M < i := fun q => c_12 ((nI_ltI (by omega) (by omega)).mpr q)
        omega
      have h20 : 20 ≤ A + i := by omega
      refine zi_iload_n X dX1_addMultiple_15 rfl rfl ?_
      refine zi_iload X dX1_addMultiple_16 rfl ?_
      refine zi_iadd X dX1_addMultiple_18 ?_
      refine zi_bipush (v := (nI 20)) X dX1_addMultiple_19 (by decide) ?_
      refine zi_icmp_ge (tgt := 90) X dX1_addMultiple_21 (by decide) (fun c_21 => ?_) (fun c_21 => (by first | exact absurd (by rw [nI_add]; exact nI_le h20 (by omega)) c_21 | exact absurd c_21 (by rw [nI_add]; exact nI_le h20 (by omega))))
      refine zi_lload X dX1_addMultiple_90 rfl ?_
      refine zi_lreturn X Vz dX1_addMultiple_92 ?_
      exact ⟨e, rfl, hP⟩
  | succ k ih =>
    intro i e c hi hc0 hc1 hP
    obtain ⟨h1, h2, h3⟩ := hP
    have hi1 : i ≤ M := by omega
    have hi2 : A + i < 20 := by omega
    refine zi_iload X dX1_addMultiple_6 rfl ?_
    refine zi_aload_n X dX1_addMultiple_8 rfl rfl ?_
    refine zi_getf (C := RX1) (T := TX1) (N := 3) (ci := 5) X (by first | assumption | exact mup_self | (rw [mup_ne (by assumption)]; assumption) | (rw [mup_ne (by assumption)]; exact mup_self) | (rw [mup_ne (by assumption), mup_ne (by assumption)]; assumption)) rfl in_X1 1 (by decide) wf_X1_13 rfl rfl dX1_addMultiple_9 ?_
    refine zi_icmp_gt (tgt := 90) X dX1_addMultiple_12 (by decide) (fun c_12 => (by first | exact absurd (nI_nlt (show i ≤ M by omega) (by omega)) c_12 | exact absurd c_12 (nI_nlt (show i ≤ M by omega) (by omega)))) (fun c_12 => ?_)
    refine zi_iload_n X dX1_addMultiple_15 rfl rfl ?_
    refine zi_iload X dX1_addMultiple_16 rfl ?_
    refine zi_iadd X dX1_addMultiple_18 ?_
    refine zi_bipush (v := (nI 20)) X dX1_addMultiple_19 (by decide) ?_
    refine zi_icmp_ge (tgt := 90) X dX1_addMultiple_21 (by decide) (fun c_21 => (by first | exact absurd (by rw [nI_add]; exact nI_ge (show A + i < 20 by omega) (by omega)) c_21 | exact absurd c_21 (by rw [nI_add]; exact nI_ge (show A + i < 20 by omega) (by omega)))) (fun c_21 => ?_)
    refine zi_aload_n X dX1_addMultiple_24 rfl rfl ?_
    refine zi_getf (C := RX1) (T := TX1) (N := 3) (ci := 5) X (by first | assumption | exact mup_self | (rw [mup_ne (by assumption)]; assumption) | (rw [mup_ne (by assumption)]; exact mup_self) | (rw [mup_ne (by assumption), mup_ne (by assumption)]; assumption)) rfl in_X1 0 (by decide) wf_X1_9 rfl rfl dX1_addMultiple_25 ?_
    refine zi_iload_n X dX1_addMultiple_28 rfl rfl ?_
    refine zi_iload X dX1_addMultiple_29 rfl ?_
    refine zi_iadd X dX1_addMultiple_31 ?_
    refine zi_iald X 0 (by first | assumption | exact mup_self | (rw [mup_ne (by assumption)]; assumption) | (rw [mup_ne (by assumption)]; exact mup_self) | (rw [mup_ne (by assumption), mup_ne (by assumption)]; assumption)) rfl (by rw [nI_add]; exact vin (show A + i < 20 by omega) (by decide)) dX1_addMultiple_32 ?_
    refine zi_i2l X dX1_addMultiple_33 ?_
    refine zi_lload_n X dX1_addMultiple_34 rfl rfl ?_
    refine zi_iload X dX1_addMultiple_35 rfl ?_
    refine zi_bipush (v := (nI 20)) X dX1_addMultiple_37 (by decide) ?_
    refine zi_icmp_ge (tgt := 52) X dX1_addMultiple_39 (by decide) (fun c_39 => (by first | exact absurd (nI_ge (show i < 20 by omega) (by omega)) c_39 | exact absurd c_39 (nI_ge (show i < 20 by omega) (by omega)))) (fun c_39 => ?_)
    refine zi_aload_n X dX1_addMultiple_42 rfl rfl ?_
    refine zi_getf (C := RX1) (T := TX1) (N := 3) (ci := 5) X (by first | assumption | exact mup_self | (rw [mup_ne (by assumption)]; assumption) | (rw [mup_ne (by assumption)]; exact mup_self) | (rw [mup_ne (by assumption), mup_ne (by assumption)]; assumption)) rfl in_X1 0 (by decide) wf_X1_9 rfl rfl dX1_addMultiple_43 ?_
    refine zi_iload X dX1_addMultiple_46 rfl ?_
    refine zi_iald X 0 (by first | assumption | exact mup_self | (rw [mup_ne (by assumption)]; assumption) | (rw [mup_ne (by assumption)]; exact mup_self) | (rw [mup_ne (by assumption), mup_ne (by assumption)]; assumption)) rfl (vin (show i < 20 by omega) (by decide)) dX1_addMultiple_48 ?_
    refine zi_goto (tgt := 53) X dX1_addMultiple_49 (by decide) ?_
    have hdi : e (A + i) = d (A + i) := h2 _ (Or.inr (Nat.le_refl _))
    have hval : ((bN e (nI (A + i)).toNatClampNeg).toInt64 + f * (bN o (nI i).toNatClampNeg).toInt64 + c).toInt = (d (A + i) : Int) + F * (o i : Int) + c.toInt ∧ -(BB : Int) ≤ ((d (A + i) : Int) + F * (o i : Int) + c.toInt) / 1073741824 ∧ ((d (A + i) : Int) + F * (o i : Int) + c.toInt) / 1073741824 ≤ BB := by
      have q1 := hd (A + i) (by omega)
      have q2 := ho i (by omega)
      have hs := am_step (B := (BB : Nat)) (d := (d (A + i) : Int)) (F := F) (o := (o i : Int)) (C := c.toInt) (by decide) (by omega) (by omega) hF0 hF (by omega) (by omega) hc0 hc1
      have hs0 := am_step (B := (BB : Nat)) (d := (d (A + i) : Int)) (F := F) (o := (o i : Int)) (C := 0) (by decide) (by omega) (by omega) hF0 hF (by omega) (by omega) (by decide) (by decide)
      have hs1 := am_step (B := (BB : Nat)) (d := 0) (F := F) (o := (o i : Int)) (C := 0) (by decide) (by omega) (by decide) hF0 hF (by omega) (by omega) (by decide) (by decide)
      have e1 : ((BB : Nat) : Int) * ((BB : Nat) : Int) = 1152921504606846976 := by decide
      have e2 : ((BB : Nat) : Int) = 1073741824 := rfl
      rw [e1, e2] at hs hs0 hs1
      rw [e2]
      rw [Int.add_zero, Int.zero_add] at hs1
      rw [Int.add_zero] at hs0
      refine ⟨?_, hs.2.2.1, hs.2.2.2⟩
      rw [bN_at (by omega), bN_at (by omega), hdi, l_add (l_add (l_d q1) (l_mul hf (l_d q2) (by omega) (by omega)) (by omega) (by omega)) rfl (by omega) (by omega)]
    obtain ⟨hval, hv1, hv2⟩ := hval
    refine zi_i2l X dX1_addMultiple_53 ?_
    refine zi_lmul X dX1_addMultiple_54 ?_
    refine zi_ladd X dX1_addMultiple_55 ?_
    refine zi_lload X dX1_addMultiple_56 rfl ?_
    refine zi_ladd X dX1_addMultiple_58 ?_
    refine zi_lstore X dX1_addMultiple_59 (by decide) ?_
    refine zi_aload_n X dX1_addMultiple_61 rfl rfl ?_
    refine zi_getf (C := RX1) (T := TX1) (N := 3) (ci := 5) X (by first | assumption | exact mup_self | (rw [mup_ne (by assumption)]; assumption) | (rw [mup_ne (by assumption)]; exact mup_self) | (rw [mup_ne (by assumption), mup_ne (by assumption)]; assumption)) rfl in_X1 0 (by decide) wf_X1_9 rfl rfl dX1_addMultiple_62 ?_
    refine zi_iload_n X dX1_addMultiple_65 rfl rfl ?_
    refine zi_iload X dX1_addMultiple_66 rfl ?_
    refine zi_iadd X dX1_addMultiple_68 ?_
    refine zi_lload X dX1_addMultiple_69 rfl ?_
    refine zi_ldc2_w X wK_X1_30 dX1_addMultiple_71 ?_
    refine zi_land X dX1_addMultiple_74 ?_
    refine zi_l2i X dX1_addMultiple_75 ?_
    refine zi_iast X 0 (by first | assumption | exact mup_self | (rw [mup_ne (by assumption)]; assumption) | (rw [mup_ne (by assumption)]; exact mup_self) | (rw [mup_ne (by assumption), mup_ne (by assumption)]; assumption)) rfl (by rw [nI_add]; exact vin (show A + i < 20 by omega) (by decide)) dX1_addMultiple_76 ?_
    refine zi_lload X dX1_addMultiple_77 rfl ?_
    refine zi_bipush (v := (nI 30)) X dX1_addMultiple_79 (by decide) ?_
    refine zi_lshr X dX1_addMultiple_81 ?_
    refine zi_lstore X dX1_addMultiple_82 (by decide) ?_
    refine zi_iinc (v := nI (i + 1)) X dX1_addMultiple_84 rfl (nI_inc _) (by decide) ?_
    refine zi_goto (tgt := 6) X dX1_addMultiple_87 (by decide) ?_
    rw [nI_add, l_lowI hval, bN_upd (by omega), mup_mup]
    have hlow0 := Int.emod_nonneg ((d (A + i) : Int) + F * (o i : Int) + c.toInt) (show (1073741824 : Int) ≠ 0 by decide)
    have hlow1 := Int.emod_lt_of_pos ((d (A + i) : Int) + F * (o i : Int) + c.toInt) (show (0 : Int) < 1073741824 by decide)
    have hmd := Int.emod_add_mul_ediv ((d (A + i) : Int) + F * (o i : Int) + c.toInt) 1073741824
    refine zi_sub (by repeat (first | exact trivial | refine And.intro rfl ?_)) (ih (i + 1) (updN e (A + i) (((d (A + i) : Int) + F * (o i : Int) + c.toInt) % 1073741824).toNat) _ (by omega) (by rw [l_hiI hval]; exact hv1) (by rw [l_hiI hval]; exact hv2) ⟨?_, ?_, ?_⟩)
    · intro j hj
      by_cases q : j = A + i
      · subst q; rw [updN_s]; unfold BB; omega
      · rw [updN_n q]; exact h1 j hj
    · intro j hj
      rw [updN_n (by omega)]
      exact h2 j (by omega)
    · rw [l_hiI hval]
      have e1 : bval (bsl (updN e (A + i) (((d (A + i) : Int) + F * (o i : Int) + c.toInt) % 1073741824).toNat) A) (i + 1) = bval (bsl e A) i + (((d (A + i) : Int) + F * (o i : Int) + c.toInt) % 1073741824).toNat * BB ^ i := by
        rw [bval]
        congr 1
        · refine bval_cong (fun j hj => ?_)
          unfold bsl
          rw [updN_n (by omega)]
        · unfold bsl
          rw [updN_s]
      rw [e1, bval, bval]
      have e2 : ((BB ^ (i + 1) : Nat) : Int) = ((BB ^ i : Nat) : Int) * 1073741824 := by
        rw [Nat.pow_succ, Int.natCast_mul]
        rfl
      rw [e2]
      have e3 : bsl d A i = d (A + i) := rfl
      rw [e3, Int.natCast_add, Int.natCast_mul, Int.natCast_add, Int.natCast_mul, Int.natCast_add, Int.natCast_mul, Int.toNat_of_nonneg hlow0]
      exact am_inv h3 hmd rfl
