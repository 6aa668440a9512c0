/-! SturmRoots$Polynomial -/
theorem pa_at {S : Nat → Nat → Nat} {j i : Nat} (hi : i < 7) : (fun i => if i < 7 then some (S 0 (7 * j + i)) else none) (nI i).toNatClampNeg = some (S 0 (7 * j + i)) := by
  rw [nI_cl (by omega)]
  exact if_pos hi
theorem hA_P {cA : Nat → ClassId} {S : Nat → Nat → Nat} {B : Nat → Int} {G Ln : Nat → Nat} {h : mH} {j : Nat} {p q : Nat → Int} (hh : hA cA S (setP B j p) G Ln h) (e : ∀ i, i < 7 → p i = q i) : hA cA S (setP B j q) G Ln h := by rw [← setP_cong e]; exact hh
theorem hA_up {cA : Nat → ClassId} {S : Nat → Nat → Nat} {B : Nat → Int} {G Ln : Nat → Nat} {h : mH} {j i : Nat} {p q : Nat → Int} {v : Int} (hh : hA cA S (setP B j p) G Ln h) (hj : j < 22) (hi : i < 7) (hv : v.natAbs < BB ^ 20) (e : ∀ t, t < 7 → updI p i v t = q t) : hA cA S (setP B j q) G Ln (mbig h (cA 0) (S 0 (7 * j + i)) (S 1 (7 * j + i)) v) := by
  have := hA_mbig hh (n := 7 * j + i) (by omega) hv
  rw [setP_upd hi] at this
  exact hA_P this e
section POLY
variable {cA : Nat → ClassId} {S : Nat → Nat → Nat} {B : Nat → Int} {G Ln : Nat → Nat} {h : mH}
theorem p_clear (l : Launch) (D : va_G) (hh : hA cA S B G Ln h) {j : Nat} (hj : j < 22) (hG : G j ≤ 7) :
    mCv l yX4_clear cX4_clear 2 (rmd 3) D (mT cA) [.ref (S 2 j)] h (fun h1 => hfr S h1 h ∧ hA cA S (setP B j (fun i => if i < G j then 0 else cof B j i)) (updN G j 0) Ln h1) := by
  refine mEnter_v (by decide) (Nat.le_of_ble_eq_true rfl) rfl (fun z X Vz => ?_)
  refine zi_iconst (v := (nI 0)) X dX4_clear_0 (by decide) ?_
  refine zi_istore_n X dX4_clear_1 rfl (by decide) ?_
  suffices key : ∀ k i (g : mH), i + k = G j → hfr S g h → hA cA S (setP B j (fun t => if t < i then 0 else cof B j t)) G Ln g → zM z 0 0 2 [some (.ref (S 2 j)), some (.int (nI i))] [] g from
    zi_sub (by repeat (first | exact trivial | refine And.intro rfl ?_)) (key (G j) 0 h (by omega) (hfr_rf S h) (hA_P (p := cof B j) (by rw [setP_self]; exact hh) (fun i _ => rfl)))
  intro k
  induction k with
  | zero =>
    intro i g hi hf hg
    have a1 := (hg.2.1 j hj).1
    refine zi_iload_n X dX4_clear_2 rfl rfl ?_
    refine zi_aload_n X dX4_clear_3 rfl rfl ?_
    refine zi_getf (C := RX4) (T := TX4) (N := 2) (ci := 8) X (by first | assumption | exact mup_self | (rw [mup_ne (by assumption)]; assumption) | (rw [mup_ne (by assumption)]; exact mup_self) | (rw [mup_ne (by assumption), mup_ne (by assumption)]; assumption)) rfl in_X4 1 (by decide) wf_X4_17 rfl rfl dX4_clear_4 ?_
    refine zi_icmp_gt (tgt := 25) X dX4_clear_7 (by decide) (fun c_7 => ?_) (fun c_7 => (by first | exact absurd ((dI_lt (by omega) (by omega)).mpr (show G j ≤ i by omega)) c_7 | exact absurd c_7 ((dI_lt (by omega) (by omega)).mpr (show G j ≤ i by omega))))
    refine zi_aload_n X dX4_clear_25 rfl rfl ?_
    refine zi_iconst (v := (-1)) X dX4_clear_26 (by decide) ?_
    refine zi_putf (C := RX4) (T := TX4) (N := 2) (ci := 8) (ty0 := tyX4) X (by first | assumption | exact mup_self | (rw [mup_ne (by assumption)]; assumption) | (rw [mup_ne (by assumption)]; exact mup_self) | (rw [mup_ne (by assumption), mup_ne (by assumption)]; assumption)) rfl in_X4 tyX4_ok nmX4 1 (by decide) wf_X4_17 rfl rfl rfl rfl rfl (Nat.le_of_ble_eq_true rfl) dX4_clear_27 ?_
    refine zi_return X Vz dX4_clear_30 ?_
    refine ⟨hfr_tr (hfr_deg hj) hf, ?_⟩
    have e : i = G j := by omega
    rw [← e]
    exact hA_deg hg hj 0
  | succ k ih =>
    intro i g hi hf hg
    have a1 := (hg.2.1 j hj).1
    have a2 := (hg.2.1 j hj).2
    have a3 := hg.1 (7 * j + i) (by omega)
    have a4 := a3.1
    refine zi_iload_n X dX4_clear_2 rfl rfl ?_
    refine zi_aload_n X dX4_clear_3 rfl rfl ?_
    refine zi_getf (C := RX4) (T := TX4) (N := 2) (ci := 8) X (by first | assumption | exact mup_self | (rw [mup_ne (by assumption)]; assumption) | (rw [mup_ne (by assumption)]; exact mup_self) | (rw [mup_ne (by assumption), mup_ne (by assumption)]; assumption)) rfl in_X4 1 (by decide) wf_X4_17 rfl rfl dX4_clear_4 ?_
    refine zi_icmp_gt (tgt := 25) X dX4_clear_7 (by decide) (fun c_7 => (by first | exact absurd (fun q => absurd ((dI_lt (by omega) (by omega)).mp q) (show ¬ G j ≤ i by omega)) c_7 | exact absurd c_7 (fun q => absurd ((dI_lt (by omega) (by omega)).mp q) (show ¬ G j ≤ i by omega)))) (fun c_7 => ?_)
    refine zi_aload_n X dX4_clear_10 rfl rfl ?_
    refine zi_getf (C := RX4) (T := TX4) (N := 2) (ci := 8) X (by first | assumption | exact mup_self | (rw [mup_ne (by assumption)]; assumption) | (rw [mup_ne (by assumption)]; exact mup_self) | (rw [mup_ne (by assumption), mup_ne (by assumption)]; assumption)) rfl in_X4 0 (by decide) wf_X4_11 rfl rfl dX4_clear_11 ?_
    refine zi_iload_n X dX4_clear_14 rfl rfl ?_
    refine zi_aaldq X 2 (by first | assumption | exact mup_self | (rw [mup_ne (by assumption)]; assumption) | (rw [mup_ne (by assumption)]; exact mup_self) | (rw [mup_ne (by assumption), mup_ne (by assumption)]; assumption)) rfl (vin (show i < 7 by omega) (by decide)) (pa_at (i := i) (by omega)) dX4_clear_15 ?_
    refine zi_callVv X (k_clear l D cA a3) kc_X1_clear wm_X4_22 (by first | assumption | exact mup_self | (rw [mup_ne (by assumption)]; assumption) | (rw [mup_ne (by assumption)]; exact mup_self) | (rw [mup_ne (by assumption), mup_ne (by assumption)]; assumption)) rfl wim_X1_clear wse_X1_clear ⟨Nat.le_of_ble_eq_true rfl, Nat.le_of_ble_eq_true rfl⟩ rfl rfl (Nat.le_of_ble_eq_true rfl) ⟨Nat.le_of_ble_eq_true rfl, Nat.le_of_ble_eq_true rfl⟩ dX4_clear_16 (fun g1 e1 => ?_)
    refine zi_iinc (v := nI (i + 1)) X dX4_clear_19 rfl (nI_inc _) (by decide) ?_
    refine zi_goto (tgt := 2) X dX4_clear_22 (by decide) ?_
    refine zi_sub (by repeat (first | exact trivial | refine And.intro rfl ?_)) (ih (i + 1) g1 (by omega) (hfr_tr (by rw [e1]; exact hfr_mbig (by omega)) hf) ?_)
    rw [e1]
    refine hA_up hg hj (by omega) (by decide) (fun t ht => ?_)
    unfold updI
    dsimp only
    by_cases q : t = i
    · rw [if_pos q, if_pos (by omega)]
    · rw [if_neg q]
      by_cases q2 : t < i
      · rw [if_pos q2, if_pos (by omega)]
      · rw [if_neg q2, if_neg (by omega)]
theorem p_become (l : Launch) (D : va_G) (hh : hA cA S B G Ln h) {j j2 : Nat} (hj : j < 22) (hj2 : j2 < 22) (hne : j2 ≠ j) :
    mCv l yX4_become cX4_become 3 (rmd 3) D (mT cA) [.ref (S 2 j), .ref (S 2 j2)] h (fun h1 => hfr S h1 h ∧ hA cA S (setP B j (cof B j2)) (updN G j (G j2)) Ln h1) := by
  refine mEnter_v (by decide) (Nat.le_of_ble_eq_true rfl) rfl (fun z X Vz => ?_)
  refine zi_iconst (v := (nI 0)) X dX4_become_0 (by decide) ?_
  refine zi_istore_n X dX4_become_1 rfl (by decide) ?_
  suffices key : ∀ k i (g : mH), i + k = 7 → hfr S g h → hA cA S (setP B j (fun t => if t < i then cof B j2 t else cof B j t)) G Ln g → zM z 0 0 2 [some (.ref (S 2 j)), some (.ref (S 2 j2)), some (.int (nI i))] [] g from
    zi_sub (by repeat (first | exact trivial | refine And.intro rfl ?_)) (key 7 0 h (by omega) (hfr_rf S h) (hA_P (p := cof B j) (by rw [setP_self]; exact hh) (fun i _ => rfl)))
  intro k
  induction k with
  | zero =>
    intro i g hi hf hg
    have : i = 7 := by omega
    subst this
    have a1 := (hg.2.1 j hj).1
    have a2 := (hg.2.1 j2 hj2).1
    refine zi_iload_n X dX4_become_2 rfl rfl ?_
    refine zi_bipush (v := (nI 7)) X dX4_become_3 (by decide) ?_
    refine zi_icmp_ge (tgt := 29) X dX4_become_5 (by decide) (fun c_5 => ?_) (fun c_5 => (by first | exact absurd (Int32.le_refl _) c_5 | exact absurd c_5 (Int32.le_refl _)))
    refine zi_aload_n X dX4_become_29 rfl rfl ?_
    refine zi_aload_n X dX4_become_30 rfl rfl ?_
    refine zi_getf (C := RX4) (T := TX4) (N := 2) (ci := 8) X (by first | assumption | exact mup_self | (rw [mup_ne (by assumption)]; assumption) | (rw [mup_ne (by assumption)]; exact mup_self) | (rw [mup_ne (by assumption), mup_ne (by assumption)]; assumption)) rfl in_X4 1 (by decide) wf_X4_17 rfl rfl dX4_become_31 ?_
    refine zi_putf (C := RX4) (T := TX4) (N := 2) (ci := 8) (ty0 := tyX4) X (by first | assumption | exact mup_self | (rw [mup_ne (by assumption)]; assumption) | (rw [mup_ne (by assumption)]; exact mup_self) | (rw [mup_ne (by assumption), mup_ne (by assumption)]; assumption)) rfl in_X4 tyX4_ok nmX4 1 (by decide) wf_X4_17 rfl rfl rfl rfl rfl (Nat.le_of_ble_eq_true rfl) dX4_become_34 ?_
    refine zi_return X Vz dX4_become_37 ?_
    refine ⟨hfr_tr (hfr_deg hj) hf, ?_⟩
    exact hA_deg (hA_P hg (fun t ht => if_pos ht)) hj (G j2)
  | succ k ih =>
    intro i g hi hf hg
    have a1 := (hg.2.1 j hj).1
    have a2 := (hg.2.1 j hj).2
    have b1 := (hg.2.1 j2 hj2).1
    have b2 := (hg.2.1 j2 hj2).2
    have a3 := hg.1 (7 * j + i) (by omega)
    have b3 := hg.1 (7 * j2 + i) (by omega)
    rw [setP_out hne (by omega)] at b3
    have a4 := a3.1
    have n1 : S 0 (7 * j2 + i) ≠ S 0 (7 * j + i) := fun q => by have := hh.2.2.2.2.1 _ _ (by omega) (by omega) q; omega
    refine zi_iload_n X dX4_become_2 rfl rfl ?_
    refine zi_bipush (v := (nI 7)) X dX4_become_3 (by decide) ?_
    refine zi_icmp_ge (tgt := 29) X dX4_become_5 (by decide) (fun c_5 => (by first | exact absurd (nI_ge (show i < 7 by omega) (by decide)) c_5 | exact absurd c_5 (nI_ge (show i < 7 by omega) (by decide)))) (fun c_5 => ?_)
    refine zi_aload_n X dX4_become_8 rfl rfl ?_
    refine zi_getf (C := RX4) (T := TX4) (N := 2) (ci := 8) X (by first | assumption | exact mup_self | (rw [mup_ne (by assumption)]; assumption) | (rw [mup_ne (by assumption)]; exact mup_self) | (rw [mup_ne (by assumption), mup_ne (by assumption)]; assumption)) rfl in_X4 0 (by decide) wf_X4_11 rfl rfl dX4_become_9 ?_
    refine zi_iload_n X dX4_become_12 rfl rfl ?_
    refine zi_aaldq X 2 (by first | assumption | exact mup_self | (rw [mup_ne (by assumption)]; assumption) | (rw [mup_ne (by assumption)]; exact mup_self) | (rw [mup_ne (by assumption), mup_ne (by assumption)]; assumption)) rfl (vin (show i < 7 by omega) (by decide)) (pa_at (i := i) (by omega)) dX4_become_13 ?_
    refine zi_aload_n X dX4_become_14 rfl rfl ?_
    refine zi_getf (C := RX4) (T := TX4) (N := 2) (ci := 8) X (by first | assumption | exact mup_self | (rw [mup_ne (by assumption)]; assumption) | (rw [mup_ne (by assumption)]; exact mup_self) | (rw [mup_ne (by assumption), mup_ne (by assumption)]; assumption)) rfl in_X4 0 (by decide) wf_X4_11 rfl rfl dX4_become_15 ?_
    refine zi_iload_n X dX4_become_18 rfl rfl ?_
    refine zi_aaldq X 2 (by first | assumption | exact mup_self | (rw [mup_ne (by assumption)]; assumption) | (rw [mup_ne (by assumption)]; exact mup_self) | (rw [mup_ne (by assumption), mup_ne (by assumption)]; assumption)) rfl (vin (show i < 7 by omega) (by decide)) (pa_at (i := i) (by omega)) dX4_become_19 ?_
    refine zi_callVv X (k_become l D cA a3 b3 n1) kc_X1_become wm_X4_25 (by first | assumption | exact mup_self | (rw [mup_ne (by assumption)]; assumption) | (rw [mup_ne (by assumption)]; exact mup_self) | (rw [mup_ne (by assumption), mup_ne (by assumption)]; assumption)) rfl wim_X1_become wse_X1_become ⟨Nat.le_of_ble_eq_true rfl, Nat.le_of_ble_eq_true rfl⟩ rfl rfl (Nat.le_of_ble_eq_true rfl) ⟨Nat.le_of_ble_eq_true rfl, Nat.le_of_ble_eq_true rfl⟩ dX4_become_20 (fun g1 e1 => ?_)
    refine zi_iinc (v := nI (i + 1)) X dX4_become_23 rfl (nI_inc _) (by decide) ?_
    refine zi_goto (tgt := 2) X dX4_become_26 (by decide) ?_
    refine zi_sub (by repeat (first | exact trivial | refine And.intro rfl ?_)) (ih (i + 1) g1 (by omega) (hfr_tr (by rw [e1]; exact hfr_mbig (by omega)) hf) ?_)
    rw [e1]
    refine hA_up hg hj (by omega) b3.2.2 (fun t ht => ?_)
    unfold updI
    dsimp only
    by_cases q : t = i
    · rw [if_pos q, if_pos (by omega), q]
      rfl
    · rw [if_neg q]
      by_cases q2 : t < i
      · rw [if_pos q2, if_pos (by omega)]
      · rw [if_neg q2, if_neg (by omega)]
theorem p_settle (l : Launch) (D : va_G) (hh : hA cA S B G Ln h) {j : Nat} (hj : j < 22) :
    mCv l yX4_settle cX4_settle 1 (rmd 2) D (mT cA) [.ref (S 2 j)] h (fun h1 => hfr S h1 h ∧ hA cA S B (updN G j (stI (cof B j) 7)) Ln h1) := by
  refine mEnter_v (by decide) (Nat.le_of_ble_eq_true rfl) rfl (fun z X Vz => ?_)
  have f1 := (hh.2.1 j hj).1
  refine zi_aload_n X dX4_settle_0 rfl rfl ?_
  refine zi_bipush (v := (nI 6)) X dX4_settle_1 (by decide) ?_
  refine zi_putf (C := RX4) (T := TX4) (N := 2) (ci := 8) (ty0 := tyX4) X (by first | assumption | exact mup_self | (rw [mup_ne (by assumption)]; assumption) | (rw [mup_ne (by assumption)]; exact mup_self) | (rw [mup_ne (by assumption), mup_ne (by assumption)]; assumption)) rfl in_X4 tyX4_ok nmX4 1 (by decide) wf_X4_17 rfl rfl rfl rfl rfl (Nat.le_of_ble_eq_true rfl) dX4_settle_3 ?_
  suffices key : ∀ i, i ≤ 7 → stI (cof B j) 7 = stI (cof B j) i → zM z 0 0 6 [some (.ref (S 2 j))] [] (mup h (S 2 j) (pO (S 3 j) i)) from key 7 (Nat.le_refl _) rfl
  intro i
  induction i with
  | zero =>
    intro hi he
    refine zi_aload_n X dX4_settle_6 rfl rfl ?_
    refine zi_getf (C := RX4) (T := TX4) (N := 2) (ci := 8) X (by first | assumption | exact mup_self | (rw [mup_ne (by assumption)]; assumption) | (rw [mup_ne (by assumption)]; exact mup_self) | (rw [mup_ne (by assumption), mup_ne (by assumption)]; assumption)) rfl in_X4 1 (by decide) wf_X4_17 rfl rfl dX4_settle_7 ?_
    refine zi_if_lt (tgt := 41) X dX4_settle_10 (by decide) (fun c_10 => ?_) (fun c_10 => (by first | exact absurd (by decide) c_10 | exact absurd c_10 (by decide)))
    refine zi_return X Vz dX4_settle_41 ?_
    rw [he]
    exact ⟨hfr_deg hj, hA_deg hh hj 0⟩
  | succ i ih =>
    intro hi he
    have hg := hA_deg hh hj (i + 1)
    have a1 := (hg.2.1 j hj).1
    have a2 := (hg.2.1 j hj).2
    have a3 := hg.1 (7 * j + i) (by omega)
    have a4 := a3.1
    rw [updN_s] at a1
    refine zi_aload_n X dX4_settle_6 rfl rfl ?_
    refine zi_getf (C := RX4) (T := TX4) (N := 2) (ci := 8) X (by first | assumption | exact mup_self | (rw [mup_ne (by assumption)]; assumption) | (rw [mup_ne (by assumption)]; exact mup_self) | (rw [mup_ne (by assumption), mup_ne (by assumption)]; assumption)) rfl in_X4 1 (by decide) wf_X4_17 rfl rfl dX4_settle_7 ?_
    refine zi_if_lt (tgt := 41) X dX4_settle_10 (by decide) (fun c_10 => (by first | exact absurd (fun q => absurd ((dI_neg (by omega)).mp q) (by omega)) c_10 | exact absurd c_10 (fun q => absurd ((dI_neg (by omega)).mp q) (by omega)))) (fun c_10 => ?_)
    refine zi_aload_n X dX4_settle_13 rfl rfl ?_
    refine zi_getf (C := RX4) (T := TX4) (N := 2) (ci := 8) X (by first | assumption | exact mup_self | (rw [mup_ne (by assumption)]; assumption) | (rw [mup_ne (by assumption)]; exact mup_self) | (rw [mup_ne (by assumption), mup_ne (by assumption)]; assumption)) rfl in_X4 0 (by decide) wf_X4_11 rfl rfl dX4_settle_14 ?_
    refine zi_aload_n X dX4_settle_17 rfl rfl ?_
    refine zi_getf (C := RX4) (T := TX4) (N := 2) (ci := 8) X (by first | assumption | exact mup_self | (rw [mup_ne (by assumption)]; assumption) | (rw [mup_ne (by assumption)]; exact mup_self) | (rw [mup_ne (by assumption), mup_ne (by assumption)]; assumption)) rfl in_X4 1 (by decide) wf_X4_17 rfl rfl dX4_settle_18 ?_
    refine zi_aaldq X 2 (by first | assumption | exact mup_self | (rw [mup_ne (by assumption)]; assumption) | (rw [mup_ne (by assumption)]; exact mup_self) | (rw [mup_ne (by assumption), mup_ne (by assumption)]; assumption)) rfl (by rw [nI_pr]; exact vin (show i < 7 by omega) (by decide)) (by rw [nI_pr]; exact pa_at (by omega)) dX4_settle_21 ?_
    refine zi_callVi X (k_isZero l D cA a3.1 a3.2.2) kc_X1_isZero wm_X4_49 (by first | assumption | exact mup_self | (rw [mup_ne (by assumption)]; assumption) | (rw [mup_ne (by assumption)]; exact mup_self) | (rw [mup_ne (by assumption), mup_ne (by assumption)]; assumption)) rfl wim_X1_isZero wse_X1_isZero ⟨Nat.le_of_ble_eq_true rfl, Nat.le_of_ble_eq_true rfl⟩ rfl rfl (Nat.le_of_ble_eq_true rfl) ⟨Nat.le_of_ble_eq_true rfl, Nat.le_of_ble_eq_true rfl⟩ dX4_settle_22 (fun x g1 e1 => ?_)
    obtain ⟨rfl, e1⟩ := e1
    refine zi_if_eq (tgt := 41) X dX4_settle_25 (by decide) (fun c_25 => ?_) (fun c_25 => ?_)
    · have hz : ¬ cof B j i = 0 := fun q => by
        rw [e1] at c_25
        unfold cof at q
        rw [if_pos q] at c_25
        exact absurd c_25 (by decide)
      refine zi_return X Vz dX4_settle_41 ?_
      rw [he, stI, if_neg hz]
      exact ⟨hfr_deg hj, hg⟩
    · have hz : cof B j i = 0 := by
        by_cases q : cof B j i = 0
        · exact q
        · rw [e1] at c_25
          unfold cof at q
          rw [if_neg q] at c_25
          exact absurd rfl c_25
      refine zi_aload_n X dX4_settle_28 rfl rfl ?_
      refine zi_dup X dX4_settle_29 rfl ?_
      refine zi_getf (C := RX4) (T := TX4) (N := 2) (ci := 8) X (by first | assumption | exact mup_self | (rw [mup_ne (by assumption)]; assumption) | (rw [mup_ne (by assumption)]; exact mup_self) | (rw [mup_ne (by assumption), mup_ne (by assumption)]; assumption)) rfl in_X4 1 (by decide) wf_X4_17 rfl rfl dX4_settle_30 ?_
      refine zi_iconst (v := (nI 1)) X dX4_settle_33 (by decide) ?_
      refine zi_isub X dX4_settle_34 ?_
      refine zi_putf (C := RX4) (T := TX4) (N := 2) (ci := 8) (ty0 := tyX4) X (by first | assumption | exact mup_self | (rw [mup_ne (by assumption)]; assumption) | (rw [mup_ne (by assumption)]; exact mup_self) | (rw [mup_ne (by assumption), mup_ne (by assumption)]; assumption)) rfl in_X4 tyX4_ok nmX4 1 (by decide) wf_X4_17 rfl rfl rfl rfl rfl (Nat.le_of_ble_eq_true rfl) dX4_settle_35 ?_
      refine zi_goto (tgt := 6) X dX4_settle_38 (by decide) ?_
      rw [mup_mup, nI_pr]
      exact ih (by omega) (by rw [he, stI, if_pos hz])
end POLY
