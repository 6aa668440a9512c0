/-! SturmRoots$Polynomial: writeRow, coefficientChanges -/
/-- what writeRow writes: a coefficient that is too long stays too great -/
def wr (v : Int) : Int64 := if blen v.natAbs ≤ 1 then lV v else 10000
theorem lV_int {v : Int} (h : v.natAbs < 9223372036854775808) : (lV v).toInt = v := by
  unfold lV
  have h1 : (lN v.natAbs).toInt = (v.natAbs : Int) := lN_int h
  by_cases q : v < 0
  · rw [if_pos q, l_neg h1 (by omega) (by omega)]
    omega
  · rw [if_neg q, h1]
    omega
theorem wr_int {v : Int} (h : v.natAbs < BB ^ 20) : (v.natAbs < BB → (wr v).toInt = v) ∧ (¬ v.natAbs < BB → (wr v).toInt = 10000) := by
  unfold wr
  constructor
  · intro q
    have : blen v.natAbs ≤ 1 := blen_le_of h (by rw [Nat.pow_one]; exact q)
    rw [if_pos this]
    exact lV_int (Nat.lt_trans q (by decide))
  · intro q
    have : ¬ blen v.natAbs ≤ 1 := fun z => q (by
      have h1 := blen_lt h
      have h2 := bpow_mono z
      rw [Nat.pow_one] at h2
      omega)
    rw [if_neg this]
    rfl
/-- how often signs change: the last that wasn't 0, and the count -/
def chg (s : Nat → Int) : Nat → Int × Nat
  | 0 => (0, 0)
  | n + 1 => (if s n = 0 then (chg s n).1 else s n, if s n * (chg s n).1 < 0 then (chg s n).2 + 1 else (chg s n).2)
theorem chg_le (s : Nat → Int) : ∀ n, (chg s n).2 ≤ n
  | 0 => Nat.le_refl _
  | n + 1 => by
    have := chg_le s n
    rw [chg]
    dsimp only
    split <;> omega
theorem chg_cong {s t : Nat → Int} : ∀ {n : Nat}, (∀ i, i < n → s i = t i) → chg s n = chg t n
  | 0, _ => rfl
  | n + 1, h => by rw [chg, chg, h n (Nat.lt_succ_self n), chg_cong (fun i hi => h i (Nat.lt_succ_of_lt hi))]
theorem chg_sg {s : Nat → Int} (h : ∀ i, s i = 0 ∨ s i = 1 ∨ s i = -1) : ∀ n, (chg s n).1 = 0 ∨ (chg s n).1 = 1 ∨ (chg s n).1 = -1
  | 0 => Or.inl rfl
  | n + 1 => by
    rw [chg]
    dsimp only
    split
    · exact chg_sg h n
    · exact h n
/-- -1, 0, 1 as an int -/
def s3 (x : Int) : Int32 := if x = 0 then nI 0 else if x < 0 then -1 else nI 1
theorem s3_sign (v : Int) : (if v = 0 then nI 0 else if v < 0 then -1 else nI 1) = s3 v.sign := by
  unfold s3
  rcases Int.lt_trichotomy v 0 with h | h | h
  · rw [if_neg (by omega), if_pos h, Int.sign_eq_neg_one_of_neg h]
    rfl
  · subst h
    rfl
  · rw [if_neg (by omega), if_neg (by omega), Int.sign_eq_one_of_pos h]
    rfl
theorem s3_mul {x y : Int} (hx : x = 0 ∨ x = 1 ∨ x = -1) (hy : y = 0 ∨ y = 1 ∨ y = -1) : (0 ≤ s3 x * s3 y) ↔ ¬ x * y < 0 := by
  rcases hx with rfl | rfl | rfl <;> rcases hy with rfl | rfl | rfl <;> decide
theorem s3_z {x : Int} (hx : x = 0 ∨ x = 1 ∨ x = -1) : s3 x = 0 ↔ x = 0 := by
  rcases hx with rfl | rfl | rfl <;> decide
theorem sign3 (v : Int) : v.sign = 0 ∨ v.sign = 1 ∨ v.sign = -1 := by
  rcases Int.lt_trichotomy v 0 with h | h | h
  · exact Or.inr (Or.inr (Int.sign_eq_neg_one_of_neg h))
  · exact Or.inl (by rw [h]; rfl)
  · exact Or.inr (Or.inl (Int.sign_eq_one_of_pos h))
section POLY3
variable {cA : Nat → ClassId} {S : Nat → Nat → Nat} {B : Nat → Int} {G Ln : Nat → Nat} {h : mH}
theorem p_coefficientChanges (l : Launch) (D : va_G) (hh : hA cA S B G Ln h) {j : Nat} (hj : j < 22) (hG : G j ≤ 7) :
    mCi l yX4_coefficientChanges cX4_coefficientChanges 5 .int (rmd 2) D (mT cA) [.ref (S 2 j)] h (fun x h1 => h1 = h ∧ x = nI (chg (fun i => (cof B j i).sign) (G j)).2) := by
  refine mEnter_i (by decide) (Nat.le_of_ble_eq_true rfl) rfl (fun z X Vz => ?_)
  have a1 := (hh.2.1 j hj).1
  have a2 := (hh.2.1 j hj).2
  obtain ⟨s, hs⟩ : ∃ s : Nat → Int, s = fun i => (cof B j i).sign := ⟨_, rfl⟩
  rw [← hs] at Vz
  have hs3 : ∀ i, s i = 0 ∨ s i = 1 ∨ s i = -1 := fun i => by rw [hs]; exact sign3 _
  refine zi_iconst (v := (nI 0)) X dX4_coefficientChanges_0 (by decide) ?_
  refine zi_istore_n X dX4_coefficientChanges_1 rfl (by decide) ?_
  refine zi_iconst (v := (nI 0)) X dX4_coefficientChanges_2 (by decide) ?_
  refine zi_istore_n X dX4_coefficientChanges_3 rfl (by decide) ?_
  refine zi_iconst (v := (nI 0)) X dX4_coefficientChanges_4 (by decide) ?_
  refine zi_istore_n X dX4_coefficientChanges_5 rfl (by decide) ?_
  suffices key : ∀ k i, i + k = G j → zM z 0 0 6 [some (.ref (S 2 j)), some (.int (nI (chg s i).2)), some (.int (s3 (chg s i).1)), some (.int (nI i)), none] [] h from
    zi_sub (by repeat (first | exact trivial | refine And.intro rfl ?_)) (key (G j) 0 (by omega))
  intro k
  induction k with
  | zero =>
    intro i hi
    have e : i = G j := by omega
    subst e
    refine zi_iload_n X dX4_coefficientChanges_6 rfl rfl ?_
    refine zi_aload_n X dX4_coefficientChanges_7 rfl rfl ?_
    refine zi_getf (C := RX4) (T := TX4) (N := 2) (ci := 8) X (by first | assumption | exact mup_self | (rw [mup_ne (by assumption)]; assumption) | (rw [mup_ne (by assumption)]; exact mup_self) | (rw [mup_ne (by assumption), mup_ne (by assumption)]; assumption)) rfl in_X4 1 (by decide) wf_X4_17 rfl rfl dX4_coefficientChanges_8 ?_
    refine zi_icmp_gt (tgt := 49) X dX4_coefficientChanges_11 (by decide) (fun c_11 => ?_) (fun c_11 => (by first | exact absurd ((dI_lt (by omega) (by omega)).mpr (Nat.le_refl _)) c_11 | exact absurd c_11 ((dI_lt (by omega) (by omega)).mpr (Nat.le_refl _))))
    refine zi_iload_n X dX4_coefficientChanges_49 rfl rfl ?_
    refine zi_ireturn X Vz dX4_coefficientChanges_50 ?_
    exact ⟨rfl, rfl⟩
  | succ k ih =>
    intro i hi
    have a3 := hh.1 (7 * j + i) (by omega)
    have a4 := a3.1
    have hle := chg_le s i
    have ih1 := ih (i + 1) (by omega)
    have hc := chg_sg hs3 i
    refine zi_iload_n X dX4_coefficientChanges_6 rfl rfl ?_
    refine zi_aload_n X dX4_coefficientChanges_7 rfl rfl ?_
    refine zi_getf (C := RX4) (T := TX4) (N := 2) (ci := 8) X (by first | assumption | exact mup_self | (rw [mup_ne (by assumption)]; assumption) | (rw [mup_ne (by assumption)]; exact mup_self) | (rw [mup_ne (by assumption), mup_ne (by assumption)]; assumption)) rfl in_X4 1 (by decide) wf_X4_17 rfl rfl dX4_coefficientChanges_8 ?_
    refine zi_icmp_gt (tgt := 49) X dX4_coefficientChanges_11 (by decide) (fun c_11 => (by first | exact absurd (fun q => absurd ((dI_lt (by omega) (by omega)).mp q) (show ¬ G j ≤ i by omega)) c_11 | exact absurd c_11 (fun q => absurd ((dI_lt (by omega) (by omega)).mp q) (show ¬ G j ≤ i by omega)))) (fun c_11 => ?_)
    refine zi_aload_n X dX4_coefficientChanges_14 rfl rfl ?_
    refine zi_getf (C := RX4) (T := TX4) (N := 2) (ci := 8) X (by first | assumption | exact mup_self | (rw [mup_ne (by assumption)]; assumption) | (rw [mup_ne (by assumption)]; exact mup_self) | (rw [mup_ne (by assumption), mup_ne (by assumption)]; assumption)) rfl in_X4 0 (by decide) wf_X4_11 rfl rfl dX4_coefficientChanges_15 ?_
    refine zi_iload_n X dX4_coefficientChanges_18 rfl rfl ?_
    refine zi_aaldq X 2 (by first | assumption | exact mup_self | (rw [mup_ne (by assumption)]; assumption) | (rw [mup_ne (by assumption)]; exact mup_self) | (rw [mup_ne (by assumption), mup_ne (by assumption)]; assumption)) rfl (vin (show i < 7 by omega) (by decide)) (pa_at (i := i) (by omega)) dX4_coefficientChanges_19 ?_
    refine zi_callVi X (k_signum l D cA a4 a3.2.2) kc_X1_signum wm_X4_63 (by first | assumption | exact mup_self | (rw [mup_ne (by assumption)]; assumption) | (rw [mup_ne (by assumption)]; exact mup_self) | (rw [mup_ne (by assumption), mup_ne (by assumption)]; assumption)) rfl wim_X1_signum wse_X1_signum ⟨Nat.le_of_ble_eq_true rfl, Nat.le_of_ble_eq_true rfl⟩ rfl rfl (Nat.le_of_ble_eq_true rfl) ⟨Nat.le_of_ble_eq_true rfl, Nat.le_of_ble_eq_true rfl⟩ dX4_coefficientChanges_20 (fun x g1 e1 => ?_)
    obtain ⟨rfl, rfl⟩ := e1
    have hsi : (if B (7 * j + i) = 0 then nI 0 else if B (7 * j + i) < 0 then -1 else nI 1) = s3 (s i) := by rw [s3_sign, hs]; rfl
    rw [hsi]
    refine zi_istore X dX4_coefficientChanges_23 (by decide) ?_
    refine zi_iload X dX4_coefficientChanges_25 rfl ?_
    refine zi_iload_n X dX4_coefficientChanges_27 rfl rfl ?_
    refine zi_imul X dX4_coefficientChanges_28 ?_
    refine zi_if_ge (tgt := 35) X dX4_coefficientChanges_29 (by decide) (fun c_29 => ?_) (fun c_29 => ?_)
    · have hm := (s3_mul (hs3 i) hc).mp c_29
      rw [chg] at ih1
      dsimp only at ih1
      rw [if_neg hm] at ih1
      refine zi_iload X dX4_coefficientChanges_35 rfl ?_
      refine zi_if_eq (tgt := 43) X dX4_coefficientChanges_37 (by decide) (fun c_37 => ?_) (fun c_37 => ?_)
      · have hz := (s3_z (hs3 i)).mp c_37
        rw [if_pos hz] at ih1
        refine zi_iinc (v := nI (i + 1)) X dX4_coefficientChanges_43 rfl (nI_inc _) (by decide) ?_
        refine zi_goto (tgt := 6) X dX4_coefficientChanges_46 (by decide) ?_
        exact zi_sub (by repeat (first | exact trivial | refine And.intro rfl ?_)) ih1
      · have hz : ¬ s i = 0 := fun q => c_37 ((s3_z (hs3 i)).mpr q)
        rw [if_neg hz] at ih1
        refine zi_iload X dX4_coefficientChanges_40 rfl ?_
        refine zi_istore_n X dX4_coefficientChanges_42 rfl (by decide) ?_
        refine zi_iinc (v := nI (i + 1)) X dX4_coefficientChanges_43 rfl (nI_inc _) (by decide) ?_
        refine zi_goto (tgt := 6) X dX4_coefficientChanges_46 (by decide) ?_
        exact zi_sub (by repeat (first | exact trivial | refine And.intro rfl ?_)) ih1
    · have hm : s i * (chg s i).1 < 0 := by
        by_cases q : s i * (chg s i).1 < 0
        · exact q
        · exact absurd ((s3_mul (hs3 i) hc).mpr q) c_29
      have hz : ¬ s i = 0 := fun q => by rw [q, Int.zero_mul] at hm; omega
      rw [chg] at ih1
      dsimp only at ih1
      rw [if_pos hm, if_neg hz] at ih1
      refine zi_iinc (v := nI ((chg s i).2 + 1)) X dX4_coefficientChanges_32 rfl (nI_inc _) (by decide) ?_
      refine zi_iload X dX4_coefficientChanges_35 rfl ?_
      refine zi_if_eq (tgt := 43) X dX4_coefficientChanges_37 (by decide) (fun c_37 => (by first | exact absurd (fun q => hz ((s3_z (hs3 i)).mp q)) c_37 | exact absurd c_37 (fun q => hz ((s3_z (hs3 i)).mp q)))) (fun c_37 => ?_)
      refine zi_iload X dX4_coefficientChanges_40 rfl ?_
      refine zi_istore_n X dX4_coefficientChanges_42 rfl (by decide) ?_
      refine zi_iinc (v := nI (i + 1)) X dX4_coefficientChanges_43 rfl (nI_inc _) (by decide) ?_
      refine zi_goto (tgt := 6) X dX4_coefficientChanges_46 (by decide) ?_
      exact zi_sub (by repeat (first | exact trivial | refine And.intro rfl ?_)) ih1
theorem p_writeRow (l : Launch) (D : va_G) (hh : hA cA S B G Ln h) {j a : Nat} {f : Nat → Int64} (hj : j < 22) (ha : h a = some (.inl (cA 1, 7, .inr (.inl f)))) :
    mCv l yX4_writeRow cX4_writeRow 4 (rmd 2) D (mT cA) [.ref (S 2 j), .ref a] h (fun h1 => h1 = mup h a (.inl (cA 1, 7, .inr (.inl (fun i => if i < 7 then wr (cof B j i) else f i))))) := by
  refine mEnter_v (by decide) (Nat.le_of_ble_eq_true rfl) rfl (fun z X Vz => ?_)
  have n1 : S 2 j ≠ a := fun q => by rw [← q, (hh.2.1 j hj).1] at ha; cases ha
  have n2 : S 3 j ≠ a := fun q => by rw [← q, (hh.2.1 j hj).2] at ha; simp [pA] at ha
  have n3 : ∀ n, n < 164 → S 0 n ≠ a := fun n hn q => by rw [← q, (hh.1 n hn).1] at ha; cases ha
  have n4 : ∀ n, n < 164 → S 1 n ≠ a := fun n hn q => by
    rw [← q, (hh.1 n hn).2.1] at ha
    simp [bigA, bA] at ha
  refine zi_iconst (v := (nI 0)) X dX4_writeRow_0 (by decide) ?_
  refine zi_istore_n X dX4_writeRow_1 rfl (by decide) ?_
  suffices key : ∀ k i, i + k = 7 → zM z 0 0 2 [some (.ref (S 2 j)), some (.ref a), some (.int (nI i)), none] [] (mup h a (.inl (cA 1, 7, .inr (.inl (fun t => if t < i then wr (cof B j t) else f t))))) from
    zi_sub (by repeat (first | exact trivial | refine And.intro rfl ?_)) (zi_eqh (mup_same ha).symm (key 7 0 (by omega)))
  intro k
  induction k with
  | zero =>
    intro i hi
    have : i = 7 := by omega
    subst this
    refine zi_iload_n X dX4_writeRow_2 rfl rfl ?_
    refine zi_bipush (v := (nI 7)) X dX4_writeRow_3 (by decide) ?_
    refine zi_icmp_ge (tgt := 55) X dX4_writeRow_5 (by decide) (fun c_5 => ?_) (fun c_5 => (by first | exact absurd (Int32.le_refl _) c_5 | exact absurd c_5 (Int32.le_refl _)))
    refine zi_return X Vz dX4_writeRow_55 ?_
    rfl
  | succ k ih =>
    intro i hi
    obtain ⟨g, hg⟩ : ∃ g, g = mup h a (.inl (cA 1, 7, .inr (.inl (fun t => if t < i then wr (cof B j t) else f t)))) := ⟨_, rfl⟩
    have a1 : g (S 2 j) = some (pO (S 3 j) (G j)) := by rw [hg, mup_ne n1]; exact (hh.2.1 j hj).1
    have a2 : g (S 3 j) = some (pA (cA 2) S j) := by rw [hg, mup_ne n2]; exact (hh.2.1 j hj).2
    have b3 := hh.1 (7 * j + i) (by omega)
    have a3 : isBig g (cA 0) (S 0 (7 * j + i)) (S 1 (7 * j + i)) (B (7 * j + i)) := ⟨by rw [hg, mup_ne (n3 _ (by omega))]; exact b3.1, by rw [hg, mup_ne (n4 _ (by omega))]; exact b3.2.1, b3.2.2⟩
    have a4 := a3.1
    have a5 : g a = some (.inl (cA 1, 7, .inr (.inl (fun t => if t < i then wr (cof B j t) else f t)))) := by rw [hg]; exact mup_self
    have ih1 := ih (i + 1) (by omega)
    have hle := blen_le (B (7 * j + i)).natAbs
    have fin : ∀ x : Int64, x = wr (cof B j i) → mup g a (.inl (cA 1, 7, .inr (.inl (vp_updL (fun t => if t < i then wr (cof B j t) else f t) (nI i).toNatClampNeg x)))) = mup h a (.inl (cA 1, 7, .inr (.inl (fun t => if t < i + 1 then wr (cof B j t) else f t)))) := by
      intro x hx
      rw [hg, mup_mup]
      refine congrArg (fun f : Nat → Int64 => mup h a (.inl (cA 1, 7, .inr (.inl f)))) (funext fun t => ?_)
      rw [nI_cl (by omega)]
      unfold vp_updL
      by_cases q : t = i
      · rw [if_pos q, if_pos (by omega), hx, q]
      · rw [if_neg q]
        dsimp only
        by_cases q2 : t < i
        · rw [if_pos q2, if_pos (by omega)]
        · rw [if_neg q2, if_neg (by omega)]
    rw [← hg]
    refine zi_iload_n X dX4_writeRow_2 rfl rfl ?_
    refine zi_bipush (v := (nI 7)) X dX4_writeRow_3 (by decide) ?_
    refine zi_icmp_ge (tgt := 55) X dX4_writeRow_5 (by decide) (fun c_5 => (by first | exact absurd (nI_ge (show i < 7 by omega) (by decide)) c_5 | exact absurd c_5 (nI_ge (show i < 7 by omega) (by decide)))) (fun c_5 => ?_)
    refine zi_aload_n X dX4_writeRow_8 rfl rfl ?_
    refine zi_getf (C := RX4) (T := TX4) (N := 2) (ci := 8) X (by first | assumption | exact mup_self | (rw [mup_ne (by assumption)]; assumption) | (rw [mup_ne (by assumption)]; exact mup_self) | (rw [mup_ne (by assumption), mup_ne (by assumption)]; assumption)) rfl in_X4 0 (by decide) wf_X4_11 rfl rfl dX4_writeRow_9 ?_
    refine zi_iload_n X dX4_writeRow_12 rfl rfl ?_
    refine zi_aaldq X 2 (by first | assumption | exact mup_self | (rw [mup_ne (by assumption)]; assumption) | (rw [mup_ne (by assumption)]; exact mup_self) | (rw [mup_ne (by assumption), mup_ne (by assumption)]; assumption)) rfl (vin (show i < 7 by omega) (by decide)) (pa_at (i := i) (by omega)) dX4_writeRow_13 ?_
    refine zi_getf (C := RX1) (T := TX1) (N := 3) (ci := 5) X (by first | assumption | exact mup_self | (rw [mup_ne (by assumption)]; assumption) | (rw [mup_ne (by assumption)]; exact mup_self) | (rw [mup_ne (by assumption), mup_ne (by assumption)]; assumption)) rfl in_X1 1 (by decide) wf_X4_40 rfl rfl dX4_writeRow_14 ?_
    refine zi_iconst (v := (nI 1)) X dX4_writeRow_17 (by decide) ?_
    refine zi_icmp_le (tgt := 25) X dX4_writeRow_18 (by decide) (fun c_18 => ?_) (fun c_18 => ?_)
    · have q := (nI_leI (by omega) (by omega)).mp c_18
      refine zi_iconst (v := (nI 0)) X dX4_writeRow_25 (by decide) ?_
      refine zi_istore_n X dX4_writeRow_26 rfl (by decide) ?_
      refine zi_aload_n X dX4_writeRow_27 rfl rfl ?_
      refine zi_iload_n X dX4_writeRow_28 rfl rfl ?_
      refine zi_iload_n X dX4_writeRow_29 rfl rfl ?_
      refine zi_if_eq (tgt := 39) X dX4_writeRow_30 (by decide) (fun c_30 => ?_) (fun c_30 => (by first | exact absurd (rfl : nI 0 = 0) c_30 | exact absurd c_30 (rfl : nI 0 = 0)))
      refine zi_aload_n X dX4_writeRow_39 rfl rfl ?_
      refine zi_getf (C := RX4) (T := TX4) (N := 2) (ci := 8) X (by first | assumption | exact mup_self | (rw [mup_ne (by assumption)]; assumption) | (rw [mup_ne (by assumption)]; exact mup_self) | (rw [mup_ne (by assumption), mup_ne (by assumption)]; assumption)) rfl in_X4 0 (by decide) wf_X4_11 rfl rfl dX4_writeRow_40 ?_
      refine zi_iload_n X dX4_writeRow_43 rfl rfl ?_
      refine zi_aaldq X 2 (by first | assumption | exact mup_self | (rw [mup_ne (by assumption)]; assumption) | (rw [mup_ne (by assumption)]; exact mup_self) | (rw [mup_ne (by assumption), mup_ne (by assumption)]; assumption)) rfl (vin (show i < 7 by omega) (by decide)) (pa_at (i := i) (by omega)) dX4_writeRow_44 ?_
      refine zi_callVl X (k_lowestBits l D cA a3) kc_X1_lowestBits wm_X4_45 (by first | assumption | exact mup_self | (rw [mup_ne (by assumption)]; assumption) | (rw [mup_ne (by assumption)]; exact mup_self) | (rw [mup_ne (by assumption), mup_ne (by assumption)]; assumption)) rfl wim_X1_lowestBits wse_X1_lowestBits ⟨Nat.le_of_ble_eq_true rfl, Nat.le_of_ble_eq_true rfl⟩ rfl rfl (Nat.le_of_ble_eq_true rfl) ⟨Nat.le_of_ble_eq_true rfl, Nat.le_of_ble_eq_true rfl⟩ dX4_writeRow_45 (fun x g1 e1 => ?_)
      obtain ⟨rfl, rfl⟩ := e1
      refine zi_last X 1 (by first | assumption | exact mup_self | (rw [mup_ne (by assumption)]; assumption) | (rw [mup_ne (by assumption)]; exact mup_self) | (rw [mup_ne (by assumption), mup_ne (by assumption)]; assumption)) rfl (vin (show i < 7 by omega) (by decide)) dX4_writeRow_48 ?_
      refine zi_iinc (v := nI (i + 1)) X dX4_writeRow_49 rfl (nI_inc _) (by decide) ?_
      refine zi_goto (tgt := 2) X dX4_writeRow_52 (by decide) ?_
      refine zi_sub (by repeat (first | exact trivial | refine And.intro rfl ?_)) (zi_eqh (fin _ ?_) ih1)
      unfold wr
      exact (if_pos q).symm
    · have q : ¬ blen (B (7 * j + i)).natAbs ≤ 1 := fun z => c_18 ((nI_leI (by omega) (by omega)).mpr z)
      refine zi_iconst (v := (nI 1)) X dX4_writeRow_21 (by decide) ?_
      refine zi_goto (tgt := 26) X dX4_writeRow_22 (by decide) ?_
      refine zi_istore_n X dX4_writeRow_26 rfl (by decide) ?_
      refine zi_aload_n X dX4_writeRow_27 rfl rfl ?_
      refine zi_iload_n X dX4_writeRow_28 rfl rfl ?_
      refine zi_iload_n X dX4_writeRow_29 rfl rfl ?_
      refine zi_if_eq (tgt := 39) X dX4_writeRow_30 (by decide) (fun c_30 => (by first | exact absurd (show ¬ nI 1 = 0 by decide) c_30 | exact absurd c_30 (show ¬ nI 1 = 0 by decide))) (fun c_30 => ?_)
      refine zi_ldc2_w X wK_X4_43 dX4_writeRow_33 ?_
      refine zi_goto (tgt := 48) X dX4_writeRow_36 (by decide) ?_
      refine zi_last X 1 (by first | assumption | exact mup_self | (rw [mup_ne (by assumption)]; assumption) | (rw [mup_ne (by assumption)]; exact mup_self) | (rw [mup_ne (by assumption), mup_ne (by assumption)]; assumption)) rfl (vin (show i < 7 by omega) (by decide)) dX4_writeRow_48 ?_
      refine zi_iinc (v := nI (i + 1)) X dX4_writeRow_49 rfl (nI_inc _) (by decide) ?_
      refine zi_goto (tgt := 2) X dX4_writeRow_52 (by decide) ?_
      refine zi_sub (by repeat (first | exact trivial | refine And.intro rfl ?_)) (zi_eqh (fin _ ?_) ih1)
      unfold wr
      exact (if_neg q).symm
end POLY3
