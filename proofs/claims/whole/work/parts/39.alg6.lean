/-! SturmRoots$Algebra: makePrimitive -/
section ALG6
variable {cA : Nat → ClassId} {S : Nat → Nat → Nat} {B : Nat → Int} {P : Nat → Nat → Int} {G Ln : Nat → Nat} {h : mH}
theorem p_makePrimitive (l : Launch) (D : va_G) (hh : hA cA S B G Ln h) {j : Nat} (hj : j < 22) (hG : G j = stI (cof B j) 7) (hv : ∀ i, i < 7 → (B (7 * j + i)).natAbs < BB ^ 18) :
    mCv l yX0_makePrimitive cX0_makePrimitive 4 (rmd 4) D (mT cA) [.ref (S 6 0), .ref (S 2 j)] h (fun h1 => hfr S h1 h ∧ ∃ B', hA cA S B' G Ln h1 ∧ (∀ n, n < 154 → ¬ (7 * j ≤ n ∧ n < 7 * j + 7) → B' n = B n) ∧ ∀ i, i < 7 → B' (7 * j + i) = prm (cof B j) i) := by
  refine mEnter_v (by decide) (Nat.le_of_ble_eq_true rfl) rfl (fun z X Vz => ?_)
  have a0 := hh.2.2.2.1
  have a1 := (hh.2.1 j hj).1
  have a2 := (hh.2.1 j hj).2
  have hG7 := stI_le (cof B j) 7
  rw [← hG] at hG7
  have hz : ∀ i, G j ≤ i → i < 7 → B (7 * j + i) = 0 := fun i h1 h2 => stI_z (p := cof B j) (n := 7) (by omega) h2
  have i0 : ∀ m n, m < 164 → n < 164 → m ≠ n → S 0 m ≠ S 0 n := fun m n => hA_i0 hh
  obtain ⟨C, hC⟩ : ∃ C, C = cont (cof B j) 7 := ⟨_, rfl⟩
  have hCG : cont (cof B j) (G j) = C := by rw [hC]; exact (cont_ext hG7 hz).symm
  have hCl : C < BB ^ 18 := by rw [hC]; exact cont_le (BB_pos 18) hv
  have hprm : ∀ i, prm (cof B j) i = (B (7 * j + i)).tdiv (C : Nat) := fun i => by unfold prm; rw [← hC]; rfl
  suffices fin2 : ∀ k i B1 gg, i + k = G j → hfr S gg h → hA cA S B1 G Ln gg → (∀ n, n < 154 → ¬ (7 * j ≤ n ∧ n < 7 * j + 7) → B1 n = B n) → (∀ t, t < 7 → B1 (7 * j + t) = if t < i then (B (7 * j + t)).tdiv (C : Nat) else B (7 * j + t)) → B1 158 = (C : Nat) → zM z 0 0 90 [some (.ref (S 6 0)), some (.ref (S 2 j)), some (.int (nI (G j) - nI 1)), some (.int (nI i))] [] gg by
    suffices fin1 : ∀ (x : Option Value) B1 gg, hfr S gg h → hA cA S B1 G Ln gg → (∀ n, n < 154 → B1 n = B n) → B1 158 = (C : Nat) → zM z 0 0 77 [some (.ref (S 6 0)), some (.ref (S 2 j)), some (.int (nI (G j) - nI 1)), x] [] gg by
      refine zi_aload_n X dX0_makePrimitive_0 rfl rfl ?_
      refine zi_getf (C := RX4) (T := TX4) (N := 2) (ci := 8) X (by first | assumption | exact mup_self | (rw [mup_ne (by assumption)]; assumption) | (rw [mup_ne (by assumption)]; exact mup_self) | (rw [mup_ne (by assumption), mup_ne (by assumption)]; assumption)) rfl in_X4 1 (by decide) wf_X0_99 rfl rfl dX0_makePrimitive_1 ?_
      refine zi_istore_n X dX0_makePrimitive_4 rfl (by decide) ?_
      refine zi_iload_n X dX0_makePrimitive_5 rfl rfl ?_
      refine zi_if_ge (tgt := 10) X dX0_makePrimitive_6 (by decide) (fun c_6 => ?_) (fun c_6 => ?_)
      · obtain ⟨g, hg⟩ : ∃ g, G j = g + 1 := ⟨G j - 1, by
          have h3 : ¬ G j = 0 := fun q => Int32.not_lt.mpr c_6 ((dI_neg (by omega)).mpr q)
          omega⟩
        have e : nI (G j) - nI 1 = nI g := by rw [hg, nI_pr]
        rw [e] at fin1 ⊢
        refine zi_aload_n X dX0_makePrimitive_10 rfl rfl ?_
        refine zi_getf (C := RX0) (T := TX0) (N := 14) (ci := 4) X (by first | assumption | exact mup_self | (rw [mup_ne (by assumption)]; assumption) | (rw [mup_ne (by assumption)]; exact mup_self) | (rw [mup_ne (by assumption), mup_ne (by assumption)]; assumption)) rfl in_X0 4 (by decide) wf_X0_27 rfl rfl dX0_makePrimitive_11 ?_
        refine zi_aload_n X dX0_makePrimitive_14 rfl rfl ?_
        refine zi_getf (C := RX4) (T := TX4) (N := 2) (ci := 8) X (by first | assumption | exact mup_self | (rw [mup_ne (by assumption)]; assumption) | (rw [mup_ne (by assumption)]; exact mup_self) | (rw [mup_ne (by assumption), mup_ne (by assumption)]; assumption)) rfl in_X4 0 (by decide) wf_X0_102 rfl rfl dX0_makePrimitive_15 ?_
        refine zi_iload_n X dX0_makePrimitive_18 rfl rfl ?_
        refine zi_aaldq X 2 (by first | assumption | exact mup_self | (rw [mup_ne (by assumption)]; assumption) | (rw [mup_ne (by assumption)]; exact mup_self) | (rw [mup_ne (by assumption), mup_ne (by assumption)]; assumption)) rfl (vin (show g < 7 by omega) (by decide)) (pa_at (i := g) (by omega)) dX0_makePrimitive_19 ?_
        refine zi_callVv X (k_becomeMagnitude l D cA (hh.1 158 (by decide)) (hh.1 (7 * j + g) (by omega)) (i0 _ _ (by omega) (by decide) (by omega))) kc_X1_becomeMagnitude wm_X0_61 ((hh.1 158 (by decide)).1) rfl wim_X1_becomeMagnitude wse_X1_becomeMagnitude ⟨Nat.le_of_ble_eq_true rfl, Nat.le_of_ble_eq_true rfl⟩ rfl rfl (Nat.le_of_ble_eq_true rfl) ⟨Nat.le_of_ble_eq_true rfl, Nat.le_of_ble_eq_true rfl⟩ dX0_makePrimitive_20 (fun g1 e1 => ?_)
        have hh1 := hA_mbig (v := ((B (7 * j + g)).natAbs : Int)) hh (n := 158) (by decide) (by exact BB18_20 (hv g (by omega)))
        rw [← e1] at hh1
        refine zi_iload_n X dX0_makePrimitive_23 rfl rfl ?_
        refine zi_iconst (v := (nI 1)) X dX0_makePrimitive_24 (by decide) ?_
        refine zi_isub X dX0_makePrimitive_25 ?_
        refine zi_istore_n X dX0_makePrimitive_26 rfl (by decide) ?_
        suffices key : ∀ k c B1 gg, k ≤ g → hfr S gg h → hA cA S B1 G Ln gg → (∀ n, n < 154 → B1 n = B n) → B1 158 = (c : Nat) → c < BB ^ 18 → Nat.gcd (cont (cof B j) k) c = C → zM z 0 0 27 [some (.ref (S 6 0)), some (.ref (S 2 j)), some (.int (nI g)), some (.int (nI k - nI 1))] [] gg from
          zi_sub (by repeat (first | exact trivial | refine And.intro rfl ?_)) (key g (B (7 * j + g)).natAbs _ g1 (Nat.le_refl _) (by rw [e1]; exact hfr_mbig (by decide)) hh1 (fun n hn => updI_n (by omega)) updI_s (hv g (by omega)) (by rw [← hCG, hg]; rfl))
        intro k
        induction k with
        | zero =>
          intro c B1 gg hk hf hA1 hB1 hc hcl hgc
          refine zi_iload_n X dX0_makePrimitive_27 rfl rfl ?_
          refine zi_if_lt (tgt := 77) X dX0_makePrimitive_28 (by decide) (fun c_28 => ?_) (fun c_28 => (by first | exact absurd ((dI_neg (by decide)).mpr rfl) c_28 | exact absurd c_28 ((dI_neg (by decide)).mpr rfl)))
          refine fin1 _ B1 gg hf hA1 hB1 ?_
          rw [hc, ← hgc, cont, Nat.gcd_zero_left]
        | succ k ih =>
          intro c B1 gg hk hf hA1 hB1 hc hcl hgc
          have b0 := hA1.2.2.2.1
          have b1 := (hA1.2.1 j hj).1
          have b2 := (hA1.2.1 j hj).2
          have b3 := (hA1.1 158 (by decide)).1
          have b4 := (hA1.1 (7 * j + k) (by omega))
          have b5 := b4.1
          have hBk : B1 (7 * j + k) = B (7 * j + k) := hB1 _ (by omega)
          refine zi_iload_n X dX0_makePrimitive_27 rfl rfl ?_
          refine zi_if_lt (tgt := 77) X dX0_makePrimitive_28 (by decide) (fun c_28 => (by first | exact absurd (fun q => absurd ((dI_neg (by omega)).mp q) (by omega)) c_28 | exact absurd c_28 (fun q => absurd ((dI_neg (by omega)).mp q) (by omega)))) (fun c_28 => ?_)
          rw [nI_pr]
          refine zi_aload_n X dX0_makePrimitive_31 rfl rfl ?_
          refine zi_getf (C := RX0) (T := TX0) (N := 14) (ci := 4) X (by first | assumption | exact mup_self | (rw [mup_ne (by assumption)]; assumption) | (rw [mup_ne (by assumption)]; exact mup_self) | (rw [mup_ne (by assumption), mup_ne (by assumption)]; assumption)) rfl in_X0 4 (by decide) wf_X0_27 rfl rfl dX0_makePrimitive_32 ?_
          refine zi_callVi X (k_isOne l D cA (hA1.1 158 (by decide))) kc_X1_isOne wm_X0_106 (by first | assumption | exact mup_self | (rw [mup_ne (by assumption)]; assumption) | (rw [mup_ne (by assumption)]; exact mup_self) | (rw [mup_ne (by assumption), mup_ne (by assumption)]; assumption)) rfl wim_X1_isOne wse_X1_isOne ⟨Nat.le_of_ble_eq_true rfl, Nat.le_of_ble_eq_true rfl⟩ rfl rfl (Nat.le_of_ble_eq_true rfl) ⟨Nat.le_of_ble_eq_true rfl, Nat.le_of_ble_eq_true rfl⟩ dX0_makePrimitive_35 (fun x g2 e2 => ?_)
          obtain ⟨rfl, rfl⟩ := e2
          refine zi_if_ne (tgt := 77) X dX0_makePrimitive_38 (by decide) (fun c_38 => ?_) (fun c_38 => ?_)
          · have hc1 : c = 1 := by
              by_cases q : B1 158 = 1
              · rw [hc] at q; omega
              · rw [if_neg q] at c_38; exact absurd rfl c_38
            refine fin1 _ B1 g2 hf hA1 hB1 ?_
            rw [hc, ← hgc, hc1, Nat.gcd_one_right]
          · refine zi_aload_n X dX0_makePrimitive_41 rfl rfl ?_
            refine zi_getf (C := RX4) (T := TX4) (N := 2) (ci := 8) X (by first | assumption | exact mup_self | (rw [mup_ne (by assumption)]; assumption) | (rw [mup_ne (by assumption)]; exact mup_self) | (rw [mup_ne (by assumption), mup_ne (by assumption)]; assumption)) rfl in_X4 0 (by decide) wf_X0_102 rfl rfl dX0_makePrimitive_42 ?_
            refine zi_iload_n X dX0_makePrimitive_45 rfl rfl ?_
            refine zi_aaldq X 2 (by first | assumption | exact mup_self | (rw [mup_ne (by assumption)]; assumption) | (rw [mup_ne (by assumption)]; exact mup_self) | (rw [mup_ne (by assumption), mup_ne (by assumption)]; assumption)) rfl (vin (show k < 7 by omega) (by decide)) (pa_at (i := k) (by omega)) dX0_makePrimitive_46 ?_
            refine zi_callVi X (k_isZero l D cA b5 b4.2.2) kc_X1_isZero wm_X0_73 (by first | assumption | exact mup_self | (rw [mup_ne (by assumption)]; assumption) | (rw [mup_ne (by assumption)]; exact mup_self) | (rw [mup_ne (by assumption), mup_ne (by assumption)]; assumption)) rfl wim_X1_isZero wse_X1_isZero ⟨Nat.le_of_ble_eq_true rfl, Nat.le_of_ble_eq_true rfl⟩ rfl rfl (Nat.le_of_ble_eq_true rfl) ⟨Nat.le_of_ble_eq_true rfl, Nat.le_of_ble_eq_true rfl⟩ dX0_makePrimitive_47 (fun x g3 e3 => ?_)
            obtain ⟨rfl, rfl⟩ := e3
            refine zi_if_ne (tgt := 71) X dX0_makePrimitive_50 (by decide) (fun c_50 => ?_) (fun c_50 => ?_)
            · have hz0 : B1 (7 * j + k) = 0 := by
                by_cases q : B1 (7 * j + k) = 0
                · exact q
                · rw [if_neg q] at c_50; exact absurd rfl c_50
              refine zi_iinc X dX0_makePrimitive_71 rfl rfl (by decide) ?_
              refine zi_goto (tgt := 27) X dX0_makePrimitive_74 (by decide) ?_
              rw [nI_m1]
              refine zi_sub (by repeat (first | exact trivial | refine And.intro rfl ?_)) (ih c B1 g3 (by omega) hf hA1 hB1 hc hcl ?_)
              rw [← hgc, cont, show cof B j k = 0 from hBk.symm.trans hz0, Int.natAbs_zero, Nat.gcd_zero_right]
            · refine zi_aload_n X dX0_makePrimitive_53 rfl rfl ?_
              refine zi_aload_n X dX0_makePrimitive_54 rfl rfl ?_
              refine zi_getf (C := RX0) (T := TX0) (N := 14) (ci := 4) X (by first | assumption | exact mup_self | (rw [mup_ne (by assumption)]; assumption) | (rw [mup_ne (by assumption)]; exact mup_self) | (rw [mup_ne (by assumption), mup_ne (by assumption)]; assumption)) rfl in_X0 4 (by decide) wf_X0_27 rfl rfl dX0_makePrimitive_55 ?_
              refine zi_aload_n X dX0_makePrimitive_58 rfl rfl ?_
              refine zi_getf (C := RX4) (T := TX4) (N := 2) (ci := 8) X (by first | assumption | exact mup_self | (rw [mup_ne (by assumption)]; assumption) | (rw [mup_ne (by assumption)]; exact mup_self) | (rw [mup_ne (by assumption), mup_ne (by assumption)]; assumption)) rfl in_X4 0 (by decide) wf_X0_102 rfl rfl dX0_makePrimitive_59 ?_
              refine zi_iload_n X dX0_makePrimitive_62 rfl rfl ?_
              refine zi_aaldq X 2 (by first | assumption | exact mup_self | (rw [mup_ne (by assumption)]; assumption) | (rw [mup_ne (by assumption)]; exact mup_self) | (rw [mup_ne (by assumption), mup_ne (by assumption)]; assumption)) rfl (vin (show k < 7 by omega) (by decide)) (pa_at (i := k) (by omega)) dX0_makePrimitive_63 ?_
              refine zi_aload_n X dX0_makePrimitive_64 rfl rfl ?_
              refine zi_getf (C := RX0) (T := TX0) (N := 14) (ci := 4) X (by first | assumption | exact mup_self | (rw [mup_ne (by assumption)]; assumption) | (rw [mup_ne (by assumption)]; exact mup_self) | (rw [mup_ne (by assumption), mup_ne (by assumption)]; assumption)) rfl in_X0 4 (by decide) wf_X0_27 rfl rfl dX0_makePrimitive_65 ?_
              refine zi_callVv X (p_writeCommonFactor l D hA1 (a := 158) (b := 7 * j + k) (c := 158) (by decide) (by omega) (by decide) (by rw [hc]; exact hcl) (by rw [hBk]; exact hv k (by omega))) kc_X0_writeCommonFactor wm_X0_109 (by first | assumption | exact mup_self | (rw [mup_ne (by assumption)]; assumption) | (rw [mup_ne (by assumption)]; exact mup_self) | (rw [mup_ne (by assumption), mup_ne (by assumption)]; assumption)) rfl wim_X0_writeCommonFactor wse_X0_writeCommonFactor ⟨Nat.le_of_ble_eq_true rfl, Nat.le_of_ble_eq_true rfl⟩ rfl rfl (Nat.le_of_ble_eq_true rfl) ⟨Nat.le_of_ble_eq_true rfl, Nat.le_of_ble_eq_true rfl⟩ dX0_makePrimitive_68 (fun g4 e4 => ?_)
              obtain ⟨e4, B2, e5, e6, e7⟩ := e4
              refine zi_iinc X dX0_makePrimitive_71 rfl rfl (by decide) ?_
              refine zi_goto (tgt := 27) X dX0_makePrimitive_74 (by decide) ?_
              rw [nI_m1]
              have hcn : (B1 158).natAbs = c := by rw [hc]; rfl
              rw [hcn, hBk] at e7
              refine zi_sub (by repeat (first | exact trivial | refine And.intro rfl ?_)) (ih _ B2 g4 (by omega) (hfr_tr e4 hf) e5 (fun n hn => ?_) e7 ?_ ?_)
              · rw [e6 n (by omega) (by omega)]
                exact hB1 n hn
              · rcases Nat.eq_zero_or_pos c with q | q
                · rw [q, Nat.gcd_zero_left]; exact hv k (by omega)
                · exact Nat.lt_of_le_of_lt (Nat.le_of_dvd q (Nat.gcd_dvd_left _ _)) hcl
              · rw [← hgc, cont]
                show Nat.gcd (cont (cof B j) k) (Nat.gcd c (B (7 * j + k)).natAbs) = Nat.gcd (Nat.gcd (cont (cof B j) k) (B (7 * j + k)).natAbs) c
                rw [Nat.gcd_assoc, Nat.gcd_comm c]
      · have hg0 : G j = 0 := (dI_neg (by omega)).mp (Int32.not_le.mp c_6)
        refine zi_return X Vz dX0_makePrimitive_9 ?_
        refine ⟨hfr_rf S h, B, hh, fun _ _ _ => rfl, fun i hi => ?_⟩
        rw [hprm, hz i (by omega) hi, Int.zero_tdiv]
    intro x B1 gg hf hA1 hB1 hc
    have b3 := (hA1.1 158 (by decide)).1
    have b0 := hA1.2.2.2.1
    refine zi_aload_n X dX0_makePrimitive_77 rfl rfl ?_
    refine zi_getf (C := RX0) (T := TX0) (N := 14) (ci := 4) X (by first | assumption | exact mup_self | (rw [mup_ne (by assumption)]; assumption) | (rw [mup_ne (by assumption)]; exact mup_self) | (rw [mup_ne (by assumption), mup_ne (by assumption)]; assumption)) rfl in_X0 4 (by decide) wf_X0_27 rfl rfl dX0_makePrimitive_78 ?_
    refine zi_callVi X (k_isOne l D cA (hA1.1 158 (by decide))) kc_X1_isOne wm_X0_106 (by first | assumption | exact mup_self | (rw [mup_ne (by assumption)]; assumption) | (rw [mup_ne (by assumption)]; exact mup_self) | (rw [mup_ne (by assumption), mup_ne (by assumption)]; assumption)) rfl wim_X1_isOne wse_X1_isOne ⟨Nat.le_of_ble_eq_true rfl, Nat.le_of_ble_eq_true rfl⟩ rfl rfl (Nat.le_of_ble_eq_true rfl) ⟨Nat.le_of_ble_eq_true rfl, Nat.le_of_ble_eq_true rfl⟩ dX0_makePrimitive_81 (fun x g1 e1 => ?_)
    obtain ⟨rfl, rfl⟩ := e1
    refine zi_if_eq (tgt := 88) X dX0_makePrimitive_84 (by decide) (fun c_84 => ?_) (fun c_84 => ?_)
    · refine zi_iconst (v := (nI 0)) X dX0_makePrimitive_88 (by decide) ?_
      refine zi_istore_n X dX0_makePrimitive_89 rfl (by decide) ?_
      exact fin2 (G j) 0 B1 g1 (by omega) hf hA1 (fun n hn _ => hB1 n hn) (fun t ht => by rw [if_neg (by omega)]; exact hB1 _ (by omega)) hc
    · refine zi_return X Vz dX0_makePrimitive_87 ?_
      have hC1 : C = 1 := by
        by_cases q : B1 158 = 1
        · rw [hc] at q; omega
        · rw [if_neg q] at c_84; exact absurd rfl c_84
      refine ⟨hf, B1, hA1, fun n hn _ => hB1 n hn, fun i hi => ?_⟩
      rw [hprm, hC1, hB1 _ (by omega)]
      exact (Int.tdiv_one _).symm
  intro k
  induction k with
  | zero =>
    intro i B1 gg hi hf hA1 hB1 hB2 hc
    have e : i = G j := by omega
    subst e
    refine zi_iload_n X dX0_makePrimitive_90 rfl rfl ?_
    refine zi_iload_n X dX0_makePrimitive_91 rfl rfl ?_
    refine zi_icmp_gt (tgt := 115) X dX0_makePrimitive_92 (by decide) (fun c_92 => ?_) (fun c_92 => (by first | exact absurd ((dI_lt (by omega) (by omega)).mpr (Nat.le_refl _)) c_92 | exact absurd c_92 ((dI_lt (by omega) (by omega)).mpr (Nat.le_refl _))))
    refine zi_return X Vz dX0_makePrimitive_115 ?_
    refine ⟨hf, B1, hA1, hB1, fun i hi => ?_⟩
    rw [hB2 i hi, hprm]
    by_cases q : i < G j
    · rw [if_pos q]
    · rw [if_neg q, hz i (by omega) hi, Int.zero_tdiv]
  | succ k ih =>
    intro i B1 gg hi hf hA1 hB1 hB2 hc
    have b0 := hA1.2.2.2.1
    have b1 := (hA1.2.1 j hj).1
    have b2 := (hA1.2.1 j hj).2
    have hBi : B1 (7 * j + i) = B (7 * j + i) := by rw [hB2 i (by omega), if_neg (by omega)]
    refine zi_iload_n X dX0_makePrimitive_90 rfl rfl ?_
    refine zi_iload_n X dX0_makePrimitive_91 rfl rfl ?_
    refine zi_icmp_gt (tgt := 115) X dX0_makePrimitive_92 (by decide) (fun c_92 => (by first | exact absurd (fun q => absurd ((dI_lt (by omega) (by omega)).mp q) (show ¬ G j ≤ i by omega)) c_92 | exact absurd c_92 (fun q => absurd ((dI_lt (by omega) (by omega)).mp q) (show ¬ G j ≤ i by omega)))) (fun c_92 => ?_)
    refine zi_aload_n X dX0_makePrimitive_95 rfl rfl ?_
    refine zi_aload_n X dX0_makePrimitive_96 rfl rfl ?_
    refine zi_getf (C := RX4) (T := TX4) (N := 2) (ci := 8) X (by first | assumption | exact mup_self | (rw [mup_ne (by assumption)]; assumption) | (rw [mup_ne (by assumption)]; exact mup_self) | (rw [mup_ne (by assumption), mup_ne (by assumption)]; assumption)) rfl in_X4 0 (by decide) wf_X0_102 rfl rfl dX0_makePrimitive_97 ?_
    refine zi_iload_n X dX0_makePrimitive_100 rfl rfl ?_
    refine zi_aaldq X 2 (by first | assumption | exact mup_self | (rw [mup_ne (by assumption)]; assumption) | (rw [mup_ne (by assumption)]; exact mup_self) | (rw [mup_ne (by assumption), mup_ne (by assumption)]; assumption)) rfl (vin (show i < 7 by omega) (by decide)) (pa_at (i := i) (by omega)) dX0_makePrimitive_101 ?_
    refine zi_aload_n X dX0_makePrimitive_102 rfl rfl ?_
    refine zi_getf (C := RX0) (T := TX0) (N := 14) (ci := 4) X (by first | assumption | exact mup_self | (rw [mup_ne (by assumption)]; assumption) | (rw [mup_ne (by assumption)]; exact mup_self) | (rw [mup_ne (by assumption), mup_ne (by assumption)]; assumption)) rfl in_X0 4 (by decide) wf_X0_27 rfl rfl dX0_makePrimitive_103 ?_
    refine zi_callVv X (p_divideExactly l D hA1 (n := 7 * j + i) (m := 158) (by omega) (by decide) (by omega) (by rw [hBi]; exact hv i (by omega))) kc_X0_divideExactly wm_X0_112 (by first | assumption | exact mup_self | (rw [mup_ne (by assumption)]; assumption) | (rw [mup_ne (by assumption)]; exact mup_self) | (rw [mup_ne (by assumption), mup_ne (by assumption)]; assumption)) rfl wim_X0_divideExactly wse_X0_divideExactly ⟨Nat.le_of_ble_eq_true rfl, Nat.le_of_ble_eq_true rfl⟩ rfl rfl (Nat.le_of_ble_eq_true rfl) ⟨Nat.le_of_ble_eq_true rfl, Nat.le_of_ble_eq_true rfl⟩ dX0_makePrimitive_106 (fun g1 e1 => ?_)
    obtain ⟨e1, B2, e2, e3, e4⟩ := e1
    refine zi_iinc (v := nI (i + 1)) X dX0_makePrimitive_109 rfl (nI_inc _) (by decide) ?_
    refine zi_goto (tgt := 90) X dX0_makePrimitive_112 (by decide) ?_
    refine zi_sub (by repeat (first | exact trivial | refine And.intro rfl ?_)) (ih (i + 1) B2 g1 (by omega) (hfr_tr e1 hf) e2 (fun n hn hn2 => ?_) (fun t ht => ?_) ?_)
    · rw [e3 n (by omega) (by omega) (by omega)]
      exact hB1 n hn hn2
    · by_cases q : t = i
      · rw [q, e4, hBi, if_pos (by omega), hc]
      · rw [e3 _ (by omega) (by omega) (by omega), hB2 t ht]
        by_cases q2 : t < i
        · rw [if_pos q2, if_pos (by omega)]
        · rw [if_neg q2, if_neg (by omega)]
    · rw [e3 158 (by omega) (by decide) (by decide)]
      exact hc
theorem q_makePrimitive (l : Launch) (D : va_G) (hh : hP cA S P G Ln h) {j : Nat} (hj : j < 22) (hG : G j = stI (P j) 7) (hv : ∀ i, i < 7 → (P j i).natAbs < BB ^ 18) :
    mCv l yX0_makePrimitive cX0_makePrimitive 4 (rmd 4) D (mT cA) [.ref (S 6 0), .ref (S 2 j)] h (fun h1 => hfr S h1 h ∧ hP cA S (updP P j (prm (P j))) G Ln h1) := by
  obtain ⟨B, h1, h2⟩ := hh
  have hc : ∀ i, i < 7 → cof B j i = P j i := fun i hi => h2 j hj i hi
  refine mSub_v (p_makePrimitive l D h1 hj (by rw [hG]; exact (stI_cong hc).symm) (fun i hi => by rw [h2 j hj i hi]; exact hv i hi)) (fun g e => ?_)
  obtain ⟨e1, B', e2, e3, e4⟩ := e
  refine ⟨e1, B', e2, fun k hk i hi => ?_⟩
  unfold updP
  by_cases q : k = j
  · subst q
    rw [if_pos rfl, e4 i hi]
    unfold prm
    rw [hc i hi, cont_cong hc]
  · rw [if_neg q, e3 _ (by omega) (by omega)]
    exact h2 k hk i hi
end ALG6
