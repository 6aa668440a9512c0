/-! SturmRoots$Polynomial: more -/
section POLY2
variable {cA : Nat → ClassId} {S : Nat → Nat → Nat} {B : Nat → Int} {G Ln : Nat → Nat} {h : mH}
theorem p_becomeRow (l : Launch) (D : va_G) (hh : hA cA S B G Ln h) {j a : Nat} {f : Nat → Int32} (hj : j < 22) (ha : h a = some (.inl (cA 0, 7, .inl f))) (hout : hOut S a) :
    mCv l yX4_becomeRow cX4_becomeRow 3 (rmd 3) D (mT cA) [.ref (S 2 j), .ref a] h (fun h1 => hfr S h1 h ∧ hA cA S (setP B j (fun i => (f i).toInt)) (updN G j (stI (fun i => (f i).toInt) 7)) Ln h1) := by
  refine mEnter_v (by decide) (Nat.le_of_ble_eq_true rfl) rfl (fun z X Vz => ?_)
  have hb : ∀ x : Int32, x.toInt.natAbs < BB * BB := fun x => by
    have := fb_rng x
    have e : BB * BB = 1152921504606846976 := by decide
    omega
  refine zi_iconst (v := (nI 0)) X dX4_becomeRow_0 (by decide) ?_
  refine zi_istore_n X dX4_becomeRow_1 rfl (by decide) ?_
  suffices key : ∀ k i (g : mH), i + k = 7 → hfr S g h → hA cA S (setP B j (fun t => if t < i then (f t).toInt else cof B j t)) G Ln g → zM z 0 0 2 [some (.ref (S 2 j)), some (.ref a), some (.int (nI i))] [] g from
    zi_sub (by repeat (first | exact trivial | refine And.intro rfl ?_)) (key 7 0 h (by omega) (hfr_rf S h) (hA_P (p := cof B j) (by rw [setP_self]; exact hh) (fun i _ => rfl)))
  intro k
  induction k with
  | zero =>
    intro i g hi hf hg
    have : i = 7 := by omega
    subst this
    have a1 := (hg.2.1 j hj).1
    refine zi_iload_n X dX4_becomeRow_2 rfl rfl ?_
    refine zi_bipush (v := (nI 7)) X dX4_becomeRow_3 (by decide) ?_
    refine zi_icmp_ge (tgt := 27) X dX4_becomeRow_5 (by decide) (fun c_5 => ?_) (fun c_5 => (by first | exact absurd (Int32.le_refl _) c_5 | exact absurd c_5 (Int32.le_refl _)))
    refine zi_aload_n X dX4_becomeRow_27 rfl rfl ?_
    refine zi_callVv X (p_settle l D hg hj) kc_X4_settle wm_X4_33 (by first | assumption | exact mup_self | (rw [mup_ne (by assumption)]; assumption) | (rw [mup_ne (by assumption)]; exact mup_self) | (rw [mup_ne (by assumption), mup_ne (by assumption)]; assumption)) rfl wim_X4_settle wse_X4_settle ⟨Nat.le_of_ble_eq_true rfl, Nat.le_of_ble_eq_true rfl⟩ rfl rfl (Nat.le_of_ble_eq_true rfl) ⟨Nat.le_of_ble_eq_true rfl, Nat.le_of_ble_eq_true rfl⟩ dX4_becomeRow_28 (fun g1 e1 => ?_)
    refine zi_return X Vz dX4_becomeRow_31 ?_
    refine ⟨hfr_tr e1.1 hf, ?_⟩
    have e2 := e1.2
    rw [setP_cong (q := fun i => (f i).toInt) (fun t ht => if_pos ht)] at e2
    rw [stI_cong (q := fun i => (f i).toInt) (fun t ht => cof_set ht)] at e2
    exact e2
  | succ k ih =>
    intro i g hi hf hg
    have a1 := (hg.2.1 j hj).1
    have a2 := (hg.2.1 j hj).2
    have b1 : g a = some (.inl (cA 0, 7, .inl f)) := by rw [hf a hout]; exact ha
    have a3 := hg.1 (7 * j + i) (by omega)
    have a4 := a3.1
    refine zi_iload_n X dX4_becomeRow_2 rfl rfl ?_
    refine zi_bipush (v := (nI 7)) X dX4_becomeRow_3 (by decide) ?_
    refine zi_icmp_ge (tgt := 27) X dX4_becomeRow_5 (by decide) (fun c_5 => (by first | exact absurd (nI_ge (show i < 7 by omega) (by decide)) c_5 | exact absurd c_5 (nI_ge (show i < 7 by omega) (by decide)))) (fun c_5 => ?_)
    refine zi_aload_n X dX4_becomeRow_8 rfl rfl ?_
    refine zi_getf (C := RX4) (T := TX4) (N := 2) (ci := 8) X (by first | assumption | exact mup_self | (rw [mup_ne (by assumption)]; assumption) | (rw [mup_ne (by assumption)]; exact mup_self) | (rw [mup_ne (by assumption), mup_ne (by assumption)]; assumption)) rfl in_X4 0 (by decide) wf_X4_11 rfl rfl dX4_becomeRow_9 ?_
    refine zi_iload_n X dX4_becomeRow_12 rfl rfl ?_
    refine zi_aaldq X 2 (by first | assumption | exact mup_self | (rw [mup_ne (by assumption)]; assumption) | (rw [mup_ne (by assumption)]; exact mup_self) | (rw [mup_ne (by assumption), mup_ne (by assumption)]; assumption)) rfl (vin (show i < 7 by omega) (by decide)) (pa_at (i := i) (by omega)) dX4_becomeRow_13 ?_
    refine zi_aload_n X dX4_becomeRow_14 rfl rfl ?_
    refine zi_iload_n X dX4_becomeRow_15 rfl rfl ?_
    refine zi_iald X 0 (by first | assumption | exact mup_self | (rw [mup_ne (by assumption)]; assumption) | (rw [mup_ne (by assumption)]; exact mup_self) | (rw [mup_ne (by assumption), mup_ne (by assumption)]; assumption)) rfl (vin (show i < 7 by omega) (by decide)) dX4_becomeRow_16 ?_
    refine zi_i2l X dX4_becomeRow_17 ?_
    have hx : (f (nI i).toNatClampNeg).toInt64.toInt = (f i).toInt := by rw [i32_i64, nI_cl (by omega)]
    refine zi_callVv X (k_becomeValue l D cA a3 (by rw [hx]; exact hb _)) kc_X1_becomeValue wm_X4_29 (by first | assumption | exact mup_self | (rw [mup_ne (by assumption)]; assumption) | (rw [mup_ne (by assumption)]; exact mup_self) | (rw [mup_ne (by assumption), mup_ne (by assumption)]; assumption)) rfl wim_X1_becomeValue wse_X1_becomeValue ⟨Nat.le_of_ble_eq_true rfl, Nat.le_of_ble_eq_true rfl⟩ rfl rfl (Nat.le_of_ble_eq_true rfl) ⟨Nat.le_of_ble_eq_true rfl, Nat.le_of_ble_eq_true rfl⟩ dX4_becomeRow_18 (fun g1 e1 => ?_)
    refine zi_iinc (v := nI (i + 1)) X dX4_becomeRow_21 rfl (nI_inc _) (by decide) ?_
    refine zi_goto (tgt := 2) X dX4_becomeRow_24 (by decide) ?_
    rw [hx] at e1
    refine zi_sub (by repeat (first | exact trivial | refine And.intro rfl ?_)) (ih (i + 1) g1 (by omega) (hfr_tr (by rw [e1]; exact hfr_mbig (by omega)) hf) ?_)
    rw [e1]
    refine hA_up hg hj (by omega) (Nat.lt_of_lt_of_le (hb _) (by decide)) (fun t ht => ?_)
    unfold updI
    dsimp only
    by_cases q : t = i
    · rw [if_pos q, if_pos (by omega), q]
    · rw [if_neg q]
      by_cases q2 : t < i
      · rw [if_pos q2, if_pos (by omega)]
      · rw [if_neg q2, if_neg (by omega)]
/-- the derivative's coefficients -/
def derI (p : Nat → Int) : Nat → Int := fun i => if i < 6 then p (i + 1) * ((i : Int) + 1) else 0
theorem p_becomeDerivative (l : Launch) (D : va_G) (hh : hA cA S B G Ln h) {j j2 : Nat} (hj : j < 22) (hj2 : j2 < 22) (hne : j2 ≠ j) (hs : ∀ i, i < 6 → (cof B j2 (i + 1) * ((i : Int) + 1)).natAbs < BB ^ 20) :
    mCv l yX4_becomeDerivative cX4_becomeDerivative 3 (rmd 3) D (mT cA) [.ref (S 2 j), .ref (S 2 j2)] h (fun h1 => hfr S h1 h ∧ hA cA S (setP B j (derI (cof B j2))) (updN G j (stI (derI (cof B j2)) 7)) Ln h1) := by
  refine mEnter_v (by decide) (Nat.le_of_ble_eq_true rfl) rfl (fun z X Vz => ?_)
  refine zi_iconst (v := (nI 1)) X dX4_becomeDerivative_0 (by decide) ?_
  refine zi_istore_n X dX4_becomeDerivative_1 rfl (by decide) ?_
  suffices key : ∀ k i (g : mH), i + k = 6 → hfr S g h → hA cA S (setP B j (fun t => if t < i then derI (cof B j2) t else cof B j t)) G Ln g → zM z 0 0 2 [some (.ref (S 2 j)), some (.ref (S 2 j2)), some (.int (nI (i + 1)))] [] g from
    zi_sub (by repeat (first | exact trivial | refine And.intro rfl ?_)) (key 6 0 h (by omega) (hfr_rf S h) (hA_P (p := cof B j) (by rw [setP_self]; exact hh) (fun i _ => rfl)))
  intro k
  induction k with
  | zero =>
    intro i g hi hf hg
    have : i = 6 := by omega
    subst this
    have a1 := (hg.2.1 j hj).1
    have a2 := (hg.2.1 j hj).2
    have a3 := hg.1 (7 * j + 6) (by omega)
    have a4 := a3.1
    refine zi_iload_n X dX4_becomeDerivative_2 rfl rfl ?_
    refine zi_bipush (v := (nI 7)) X dX4_becomeDerivative_3 (by decide) ?_
    refine zi_icmp_ge (tgt := 43) X dX4_becomeDerivative_5 (by decide) (fun c_5 => ?_) (fun c_5 => (by first | exact absurd (Int32.le_refl _) c_5 | exact absurd c_5 (Int32.le_refl _)))
    refine zi_aload_n X dX4_becomeDerivative_43 rfl rfl ?_
    refine zi_getf (C := RX4) (T := TX4) (N := 2) (ci := 8) X (by first | assumption | exact mup_self | (rw [mup_ne (by assumption)]; assumption) | (rw [mup_ne (by assumption)]; exact mup_self) | (rw [mup_ne (by assumption), mup_ne (by assumption)]; assumption)) rfl in_X4 0 (by decide) wf_X4_11 rfl rfl dX4_becomeDerivative_44 ?_
    refine zi_bipush (v := (nI 6)) X dX4_becomeDerivative_47 (by decide) ?_
    refine zi_aaldq X 2 (by first | assumption | exact mup_self | (rw [mup_ne (by assumption)]; assumption) | (rw [mup_ne (by assumption)]; exact mup_self) | (rw [mup_ne (by assumption), mup_ne (by assumption)]; assumption)) rfl (vin (show 6 < 7 by omega) (by decide)) (pa_at (i := 6) (by omega)) dX4_becomeDerivative_49 ?_
    refine zi_callVv X (k_clear l D cA a3) kc_X1_clear wm_X4_22 (by first | assumption | exact mup_self | (rw [mup_ne (by assumption)]; assumption) | (rw [mup_ne (by assumption)]; exact mup_self) | (rw [mup_ne (by assumption), mup_ne (by assumption)]; assumption)) rfl wim_X1_clear wse_X1_clear ⟨Nat.le_of_ble_eq_true rfl, Nat.le_of_ble_eq_true rfl⟩ rfl rfl (Nat.le_of_ble_eq_true rfl) ⟨Nat.le_of_ble_eq_true rfl, Nat.le_of_ble_eq_true rfl⟩ dX4_becomeDerivative_50 (fun g1 e1 => ?_)
    have hg1 : hA cA S (setP B j (derI (cof B j2))) G Ln g1 := by
      rw [e1]
      refine hA_up hg hj (by omega) (by decide) (fun t ht => ?_)
      unfold updI
      dsimp only
      by_cases q : t = 6
      · rw [if_pos q, q]; rfl
      · rw [if_neg q, if_pos (by omega)]
    have b1 := (hg1.2.1 j hj).1
    refine zi_aload_n X dX4_becomeDerivative_53 rfl rfl ?_
    refine zi_callVv X (p_settle l D hg1 hj) kc_X4_settle wm_X4_33 (by first | assumption | exact mup_self | (rw [mup_ne (by assumption)]; assumption) | (rw [mup_ne (by assumption)]; exact mup_self) | (rw [mup_ne (by assumption), mup_ne (by assumption)]; assumption)) rfl wim_X4_settle wse_X4_settle ⟨Nat.le_of_ble_eq_true rfl, Nat.le_of_ble_eq_true rfl⟩ rfl rfl (Nat.le_of_ble_eq_true rfl) ⟨Nat.le_of_ble_eq_true rfl, Nat.le_of_ble_eq_true rfl⟩ dX4_becomeDerivative_54 (fun g2 e2 => ?_)
    refine zi_return X Vz dX4_becomeDerivative_57 ?_
    refine ⟨hfr_tr e2.1 (hfr_tr (by rw [e1]; exact hfr_mbig (by omega)) hf), ?_⟩
    have e3 := e2.2
    rw [stI_cong (q := derI (cof B j2)) (fun t ht => cof_set ht)] at e3
    exact e3
  | succ k ih =>
    intro i g hi hf hg
    have a1 := (hg.2.1 j hj).1
    have a2 := (hg.2.1 j hj).2
    have b1 := (hg.2.1 j2 hj2).1
    have b2 := (hg.2.1 j2 hj2).2
    have a3 := hg.1 (7 * j + i) (by omega)
    have b3 := hg.1 (7 * j2 + (i + 1)) (by omega)
    rw [setP_out hne (by omega)] at b3
    have a4 := a3.1
    have n1 : S 0 (7 * j2 + (i + 1)) ≠ S 0 (7 * j + i) := fun q => by have := hh.2.2.2.2.1 _ _ (by omega) (by omega) q; omega
    refine zi_iload_n X dX4_becomeDerivative_2 rfl rfl ?_
    refine zi_bipush (v := (nI 7)) X dX4_becomeDerivative_3 (by decide) ?_
    refine zi_icmp_ge (tgt := 43) X dX4_becomeDerivative_5 (by decide) (fun c_5 => (by first | exact absurd (nI_ge (show i + 1 < 7 by omega) (by decide)) c_5 | exact absurd c_5 (nI_ge (show i + 1 < 7 by omega) (by decide)))) (fun c_5 => ?_)
    refine zi_aload_n X dX4_becomeDerivative_8 rfl rfl ?_
    refine zi_getf (C := RX4) (T := TX4) (N := 2) (ci := 8) X (by first | assumption | exact mup_self | (rw [mup_ne (by assumption)]; assumption) | (rw [mup_ne (by assumption)]; exact mup_self) | (rw [mup_ne (by assumption), mup_ne (by assumption)]; assumption)) rfl in_X4 0 (by decide) wf_X4_11 rfl rfl dX4_becomeDerivative_9 ?_
    refine zi_iload_n X dX4_becomeDerivative_12 rfl rfl ?_
    refine zi_iconst (v := (nI 1)) X dX4_becomeDerivative_13 (by decide) ?_
    refine zi_isub X dX4_becomeDerivative_14 ?_
    refine zi_aaldq X 2 (by first | assumption | exact mup_self | (rw [mup_ne (by assumption)]; assumption) | (rw [mup_ne (by assumption)]; exact mup_self) | (rw [mup_ne (by assumption), mup_ne (by assumption)]; assumption)) rfl (by rw [nI_pr]; exact vin (show i < 7 by omega) (by decide)) (by rw [nI_pr]; exact pa_at (i := i) (by omega)) dX4_becomeDerivative_15 ?_
    refine zi_aload_n X dX4_becomeDerivative_16 rfl rfl ?_
    refine zi_getf (C := RX4) (T := TX4) (N := 2) (ci := 8) X (by first | assumption | exact mup_self | (rw [mup_ne (by assumption)]; assumption) | (rw [mup_ne (by assumption)]; exact mup_self) | (rw [mup_ne (by assumption), mup_ne (by assumption)]; assumption)) rfl in_X4 0 (by decide) wf_X4_11 rfl rfl dX4_becomeDerivative_17 ?_
    refine zi_iload_n X dX4_becomeDerivative_20 rfl rfl ?_
    refine zi_aaldq X 2 (by first | assumption | exact mup_self | (rw [mup_ne (by assumption)]; assumption) | (rw [mup_ne (by assumption)]; exact mup_self) | (rw [mup_ne (by assumption), mup_ne (by assumption)]; assumption)) rfl (vin (show i + 1 < 7 by omega) (by decide)) (pa_at (i := i + 1) (by omega)) dX4_becomeDerivative_21 ?_
    refine zi_callVv X (k_become l D cA a3 b3 n1) kc_X1_become wm_X4_25 (by first | assumption | exact mup_self | (rw [mup_ne (by assumption)]; assumption) | (rw [mup_ne (by assumption)]; exact mup_self) | (rw [mup_ne (by assumption), mup_ne (by assumption)]; assumption)) rfl wim_X1_become wse_X1_become ⟨Nat.le_of_ble_eq_true rfl, Nat.le_of_ble_eq_true rfl⟩ rfl rfl (Nat.le_of_ble_eq_true rfl) ⟨Nat.le_of_ble_eq_true rfl, Nat.le_of_ble_eq_true rfl⟩ dX4_becomeDerivative_22 (fun g1 e1 => ?_)
    have hg1 : hA cA S (setP B j (updI (fun t => if t < i then derI (cof B j2) t else cof B j t) i (cof B j2 (i + 1)))) G Ln g1 := by
      rw [e1]
      exact hA_up hg hj (by omega) b3.2.2 (fun t ht => rfl)
    have c1 := (hg1.2.1 j hj).1
    have c2 := (hg1.2.1 j hj).2
    have c3 := hg1.1 (7 * j + i) (by omega)
    rw [setP_at (by omega), updI_s] at c3
    have c4 := c3.1
    have hfi : (nI (i + 1)).toInt = (i : Int) + 1 := by rw [nI_int (by omega)]; omega
    refine zi_aload_n X dX4_becomeDerivative_25 rfl rfl ?_
    refine zi_getf (C := RX4) (T := TX4) (N := 2) (ci := 8) X (by first | assumption | exact mup_self | (rw [mup_ne (by assumption)]; assumption) | (rw [mup_ne (by assumption)]; exact mup_self) | (rw [mup_ne (by assumption), mup_ne (by assumption)]; assumption)) rfl in_X4 0 (by decide) wf_X4_11 rfl rfl dX4_becomeDerivative_26 ?_
    refine zi_iload_n X dX4_becomeDerivative_29 rfl rfl ?_
    refine zi_iconst (v := (nI 1)) X dX4_becomeDerivative_30 (by decide) ?_
    refine zi_isub X dX4_becomeDerivative_31 ?_
    refine zi_aaldq X 2 (by first | assumption | exact mup_self | (rw [mup_ne (by assumption)]; assumption) | (rw [mup_ne (by assumption)]; exact mup_self) | (rw [mup_ne (by assumption), mup_ne (by assumption)]; assumption)) rfl (by rw [nI_pr]; exact vin (show i < 7 by omega) (by decide)) (by rw [nI_pr]; exact pa_at (i := i) (by omega)) dX4_becomeDerivative_32 ?_
    refine zi_iload_n X dX4_becomeDerivative_33 rfl rfl ?_
    refine zi_callVv X (k_multiplyBy l D cA c3 (by rw [hfi]; unfold BB; omega) (by rw [hfi]; exact hs i (by omega))) kc_X1_multiplyBy wm_X4_36 (by first | assumption | exact mup_self | (rw [mup_ne (by assumption)]; assumption) | (rw [mup_ne (by assumption)]; exact mup_self) | (rw [mup_ne (by assumption), mup_ne (by assumption)]; assumption)) rfl wim_X1_multiplyBy wse_X1_multiplyBy ⟨Nat.le_of_ble_eq_true rfl, Nat.le_of_ble_eq_true rfl⟩ rfl rfl (Nat.le_of_ble_eq_true rfl) ⟨Nat.le_of_ble_eq_true rfl, Nat.le_of_ble_eq_true rfl⟩ dX4_becomeDerivative_34 (fun g2 e2 => ?_)
    refine zi_iinc (v := nI ((i + 1) + 1)) X dX4_becomeDerivative_37 rfl (nI_inc _) (by decide) ?_
    refine zi_goto (tgt := 2) X dX4_becomeDerivative_40 (by decide) ?_
    rw [hfi] at e2
    refine zi_sub (by repeat (first | exact trivial | refine And.intro rfl ?_)) (ih (i + 1) g2 (by omega) (hfr_tr (by rw [e2]; exact hfr_mbig (by omega)) (hfr_tr (by rw [e1]; exact hfr_mbig (by omega)) hf)) ?_)
    rw [e2]
    refine hA_up hg1 hj (by omega) (hs i (by omega)) (fun t ht => ?_)
    unfold updI
    dsimp only
    by_cases q : t = i
    · rw [if_pos q, if_pos (by omega), q]
      unfold derI
      rw [if_pos (by omega)]
    · rw [if_neg q, if_neg q]
      by_cases q2 : t < i
      · rw [if_pos q2, if_pos (by omega)]
      · rw [if_neg q2, if_neg (by omega)]
theorem p_flipSigns (l : Launch) (D : va_G) (hh : hA cA S B G Ln h) {j : Nat} (hj : j < 22) (hG : G j ≤ 7) :
    mCv l yX4_flipSigns cX4_flipSigns 2 (rmd 2) D (mT cA) [.ref (S 2 j)] h (fun h1 => hfr S h1 h ∧ hA cA S (setP B j (fun i => if i < G j then -cof B j i else cof B j i)) G Ln h1) := by
  refine mEnter_v (by decide) (Nat.le_of_ble_eq_true rfl) rfl (fun z X Vz => ?_)
  refine zi_iconst (v := (nI 0)) X dX4_flipSigns_0 (by decide) ?_
  refine zi_istore_n X dX4_flipSigns_1 rfl (by decide) ?_
  suffices key : ∀ k i (g : mH), i + k = G j → hfr S g h → hA cA S (setP B j (fun t => if t < i then -cof B j t else cof B j t)) G Ln g → zM z 0 0 2 [some (.ref (S 2 j)), some (.int (nI i))] [] g from
    zi_sub (by repeat (first | exact trivial | refine And.intro rfl ?_)) (key (G j) 0 h (by omega) (hfr_rf S h) (hA_P (p := cof B j) (by rw [setP_self]; exact hh) (fun i _ => rfl)))
  intro k
  induction k with
  | zero =>
    intro i g hi hf hg
    have a1 := (hg.2.1 j hj).1
    refine zi_iload_n X dX4_flipSigns_2 rfl rfl ?_
    refine zi_aload_n X dX4_flipSigns_3 rfl rfl ?_
    refine zi_getf (C := RX4) (T := TX4) (N := 2) (ci := 8) X (by first | assumption | exact mup_self | (rw [mup_ne (by assumption)]; assumption) | (rw [mup_ne (by assumption)]; exact mup_self) | (rw [mup_ne (by assumption), mup_ne (by assumption)]; assumption)) rfl in_X4 1 (by decide) wf_X4_17 rfl rfl dX4_flipSigns_4 ?_
    refine zi_icmp_gt (tgt := 25) X dX4_flipSigns_7 (by decide) (fun c_7 => ?_) (fun c_7 => (by first | exact absurd ((dI_lt (by omega) (by omega)).mpr (show G j ≤ i by omega)) c_7 | exact absurd c_7 ((dI_lt (by omega) (by omega)).mpr (show G j ≤ i by omega))))
    refine zi_return X Vz dX4_flipSigns_25 ?_
    have e : i = G j := by omega
    rw [← e]
    exact ⟨hf, hg⟩
  | succ k ih =>
    intro i g hi hf hg
    have a1 := (hg.2.1 j hj).1
    have a2 := (hg.2.1 j hj).2
    have a3 := hg.1 (7 * j + i) (by omega)
    rw [setP_at (by omega), if_neg (by omega)] at a3
    have a4 := a3.1
    refine zi_iload_n X dX4_flipSigns_2 rfl rfl ?_
    refine zi_aload_n X dX4_flipSigns_3 rfl rfl ?_
    refine zi_getf (C := RX4) (T := TX4) (N := 2) (ci := 8) X (by first | assumption | exact mup_self | (rw [mup_ne (by assumption)]; assumption) | (rw [mup_ne (by assumption)]; exact mup_self) | (rw [mup_ne (by assumption), mup_ne (by assumption)]; assumption)) rfl in_X4 1 (by decide) wf_X4_17 rfl rfl dX4_flipSigns_4 ?_
    refine zi_icmp_gt (tgt := 25) X dX4_flipSigns_7 (by decide) (fun c_7 => (by first | exact absurd (fun q => absurd ((dI_lt (by omega) (by omega)).mp q) (show ¬ G j ≤ i by omega)) c_7 | exact absurd c_7 (fun q => absurd ((dI_lt (by omega) (by omega)).mp q) (show ¬ G j ≤ i by omega)))) (fun c_7 => ?_)
    refine zi_aload_n X dX4_flipSigns_10 rfl rfl ?_
    refine zi_getf (C := RX4) (T := TX4) (N := 2) (ci := 8) X (by first | assumption | exact mup_self | (rw [mup_ne (by assumption)]; assumption) | (rw [mup_ne (by assumption)]; exact mup_self) | (rw [mup_ne (by assumption), mup_ne (by assumption)]; assumption)) rfl in_X4 0 (by decide) wf_X4_11 rfl rfl dX4_flipSigns_11 ?_
    refine zi_iload_n X dX4_flipSigns_14 rfl rfl ?_
    refine zi_aaldq X 2 (by first | assumption | exact mup_self | (rw [mup_ne (by assumption)]; assumption) | (rw [mup_ne (by assumption)]; exact mup_self) | (rw [mup_ne (by assumption), mup_ne (by assumption)]; assumption)) rfl (vin (show i < 7 by omega) (by decide)) (pa_at (i := i) (by omega)) dX4_flipSigns_15 ?_
    refine zi_callVv X (k_flip l D cA a3) kc_X1_flipSign wm_X4_53 (by first | assumption | exact mup_self | (rw [mup_ne (by assumption)]; assumption) | (rw [mup_ne (by assumption)]; exact mup_self) | (rw [mup_ne (by assumption), mup_ne (by assumption)]; assumption)) rfl wim_X1_flipSign wse_X1_flipSign ⟨Nat.le_of_ble_eq_true rfl, Nat.le_of_ble_eq_true rfl⟩ rfl rfl (Nat.le_of_ble_eq_true rfl) ⟨Nat.le_of_ble_eq_true rfl, Nat.le_of_ble_eq_true rfl⟩ dX4_flipSigns_16 (fun g1 e1 => ?_)
    refine zi_iinc (v := nI (i + 1)) X dX4_flipSigns_19 rfl (nI_inc _) (by decide) ?_
    refine zi_goto (tgt := 2) X dX4_flipSigns_22 (by decide) ?_
    refine zi_sub (by repeat (first | exact trivial | refine And.intro rfl ?_)) (ih (i + 1) g1 (by omega) (hfr_tr (by rw [e1]; exact hfr_mbig (by omega)) hf) ?_)
    rw [e1]
    refine hA_up hg hj (by omega) (by rw [Int.natAbs_neg]; exact a3.2.2) (fun t ht => ?_)
    unfold updI
    dsimp only
    by_cases q : t = i
    · rw [if_pos q, if_pos (by omega), q]
    · rw [if_neg q]
      by_cases q2 : t < i
      · rw [if_pos q2, if_pos (by omega)]
      · rw [if_neg q2, if_neg (by omega)]
theorem p_makeLeadPositive (l : Launch) (D : va_G) (hh : hA cA S B G Ln h) {j : Nat} (hj : j < 22) (hG : G j ≤ 7) :
    mCv l yX4_makeLeadPositive cX4_makeLeadPositive 1 (rmd 3) D (mT cA) [.ref (S 2 j)] h (fun h1 => hfr S h1 h ∧ hA cA S (setP B j (fun i => if i < G j ∧ cof B j (G j - 1) < 0 then -cof B j i else cof B j i)) G Ln h1) := by
  refine mEnter_v (by decide) (Nat.le_of_ble_eq_true rfl) rfl (fun z X Vz => ?_)
  have a1 := (hh.2.1 j hj).1
  have a2 := (hh.2.1 j hj).2
  have hno : (¬ 0 < G j ∨ ¬ cof B j (G j - 1) < 0) → hfr S h h ∧ hA cA S (setP B j (fun i => if i < G j ∧ cof B j (G j - 1) < 0 then -cof B j i else cof B j i)) G Ln h := by
    intro hq
    refine ⟨hfr_rf S h, hA_P (p := cof B j) (by rw [setP_self]; exact hh) (fun i _ => ?_)⟩
    rw [if_neg (by omega)]
  refine zi_aload_n X dX4_makeLeadPositive_0 rfl rfl ?_
  refine zi_getf (C := RX4) (T := TX4) (N := 2) (ci := 8) X (by first | assumption | exact mup_self | (rw [mup_ne (by assumption)]; assumption) | (rw [mup_ne (by assumption)]; exact mup_self) | (rw [mup_ne (by assumption), mup_ne (by assumption)]; assumption)) rfl in_X4 1 (by decide) wf_X4_17 rfl rfl dX4_makeLeadPositive_1 ?_
  refine zi_if_lt (tgt := 26) X dX4_makeLeadPositive_4 (by decide) (fun c_4 => ?_) (fun c_4 => ?_)
  · refine zi_return X Vz dX4_makeLeadPositive_26 ?_
    exact hno (Or.inl (by have := (dI_neg (by omega)).mp c_4; omega))
  · have hg0 : ¬ G j = 0 := fun q => c_4 ((dI_neg (by omega)).mpr q)
    obtain ⟨i, hi⟩ : ∃ i, G j = i + 1 := ⟨G j - 1, by omega⟩
    have a3 := hh.1 (7 * j + i) (by omega)
    have a4 := a3.1
    rw [hi] at a1
    refine zi_aload_n X dX4_makeLeadPositive_7 rfl rfl ?_
    refine zi_getf (C := RX4) (T := TX4) (N := 2) (ci := 8) X (by first | assumption | exact mup_self | (rw [mup_ne (by assumption)]; assumption) | (rw [mup_ne (by assumption)]; exact mup_self) | (rw [mup_ne (by assumption), mup_ne (by assumption)]; assumption)) rfl in_X4 0 (by decide) wf_X4_11 rfl rfl dX4_makeLeadPositive_8 ?_
    refine zi_aload_n X dX4_makeLeadPositive_11 rfl rfl ?_
    refine zi_getf (C := RX4) (T := TX4) (N := 2) (ci := 8) X (by first | assumption | exact mup_self | (rw [mup_ne (by assumption)]; assumption) | (rw [mup_ne (by assumption)]; exact mup_self) | (rw [mup_ne (by assumption), mup_ne (by assumption)]; assumption)) rfl in_X4 1 (by decide) wf_X4_17 rfl rfl dX4_makeLeadPositive_12 ?_
    refine zi_aaldq X 2 (by first | assumption | exact mup_self | (rw [mup_ne (by assumption)]; assumption) | (rw [mup_ne (by assumption)]; exact mup_self) | (rw [mup_ne (by assumption), mup_ne (by assumption)]; assumption)) rfl (by rw [nI_pr]; exact vin (show i < 7 by omega) (by decide)) (by rw [nI_pr]; exact pa_at (i := i) (by omega)) dX4_makeLeadPositive_15 ?_
    refine zi_getf (C := RX1) (T := TX1) (N := 3) (ci := 5) X (by first | assumption | exact mup_self | (rw [mup_ne (by assumption)]; assumption) | (rw [mup_ne (by assumption)]; exact mup_self) | (rw [mup_ne (by assumption), mup_ne (by assumption)]; assumption)) rfl in_X1 2 (by decide) wf_X4_56 rfl rfl dX4_makeLeadPositive_16 ?_
    refine zi_if_eq (tgt := 26) X dX4_makeLeadPositive_19 (by decide) (fun c_19 => ?_) (fun c_19 => ?_)
    · refine zi_return X Vz dX4_makeLeadPositive_26 ?_
      exact hno (Or.inr (by rw [hi]; exact (bsg_z _).mp c_19))
    · have hneg : cof B j i < 0 := by
        by_cases q : cof B j i < 0
        · exact q
        · exact absurd ((bsg_z _).mpr q) c_19
      refine zi_aload_n X dX4_makeLeadPositive_22 rfl rfl ?_
      refine zi_callVv X (p_flipSigns l D hh hj hG) kc_X4_flipSigns wm_X4_60 (by first | assumption | exact mup_self | (rw [mup_ne (by assumption)]; assumption) | (rw [mup_ne (by assumption)]; exact mup_self) | (rw [mup_ne (by assumption), mup_ne (by assumption)]; assumption)) rfl wim_X4_flipSigns wse_X4_flipSigns ⟨Nat.le_of_ble_eq_true rfl, Nat.le_of_ble_eq_true rfl⟩ rfl rfl (Nat.le_of_ble_eq_true rfl) ⟨Nat.le_of_ble_eq_true rfl, Nat.le_of_ble_eq_true rfl⟩ dX4_makeLeadPositive_23 (fun g1 e1 => ?_)
      refine zi_return X Vz dX4_makeLeadPositive_26 ?_
      refine ⟨e1.1, hA_P e1.2 (fun t _ => ?_)⟩
      by_cases q : t < G j
      · rw [if_pos q, if_pos ⟨q, by rw [hi]; exact hneg⟩]
      · rw [if_neg q, if_neg (by omega)]
end POLY2
