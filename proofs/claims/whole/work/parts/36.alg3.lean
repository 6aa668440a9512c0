/-! SturmRoots$Algebra: writeCommonFactor, divideExactly -/
theorem eu2_lt {b : Nat} (hb : b < BB ^ 20) (h : eu2 b = true) : b < BB * BB := by
  have h1 := blen_lt hb
  have h2 := eu2_z.mp h
  have h3 : BB ^ blen b ≤ BB ^ 2 := Nat.pow_le_pow_right (by decide) h2
  have h4 : BB ^ 2 = BB * BB := Nat.pow_two BB
  omega
theorem lV_nat (n : Nat) : lV (n : Int) = lN n := by
  unfold lV
  rw [if_neg (by omega), Int.natAbs_natCast]
theorem BB18 : BB ^ 18 = 2 ^ 540 := by unfold BB; rw [show (1073741824 : Nat) = 2 ^ 30 from rfl, ← Nat.pow_mul]
theorem BB18_20 {n : Nat} (h : n < BB ^ 18) : n < BB ^ 20 := Nat.lt_of_lt_of_le h (Nat.pow_le_pow_right (by decide) (by decide))
section ALG3
variable {cA : Nat → ClassId} {S : Nat → Nat → Nat} {B : Nat → Int} {G Ln : Nat → Nat} {h : mH}
theorem p_writeCommonFactor (l : Launch) (D : va_G) (hh : hA cA S B G Ln h) {a b c : Nat} (ha : a < 154 ∨ 157 < a ∧ a < 164) (hb : b < 154 ∨ 157 < b ∧ b < 164) (hc : c < 154 ∨ 157 < c ∧ c < 164) (hva : (B a).natAbs < BB ^ 18) (hvb : (B b).natAbs < BB ^ 18) :
    mCv l yX0_writeCommonFactor cX0_writeCommonFactor 8 (rmd 3) D (mT cA) [.ref (S 6 0), .ref (S 0 a), .ref (S 0 b), .ref (S 0 c)] h (fun h1 => hfr S h1 h ∧ ∃ B', hA cA S B' G Ln h1 ∧ (∀ n, (n < 154 ∨ 157 < n) → n ≠ c → B' n = B n) ∧ B' c = (Nat.gcd (B a).natAbs (B b).natAbs : Nat)) := by
  refine mEnter_v (by decide) (Nat.le_of_ble_eq_true rfl) rfl (fun z X Vz => ?_)
  have a0 := hh.2.2.2.1
  have i0 : ∀ m n, m < 164 → n < 164 → m ≠ n → S 0 m ≠ S 0 n := fun m n => hA_i0 hh
  obtain ⟨M, hM⟩ : ∃ M, M = (B a).natAbs := ⟨_, rfl⟩
  obtain ⟨N, hN⟩ : ∃ N, N = (B b).natAbs := ⟨_, rfl⟩
  rw [← hM, ← hN] at Vz
  rw [← hM] at hva
  rw [← hN] at hvb
  obtain ⟨E, hE⟩ : ∃ E, E = eu eu2 10000 M N := ⟨_, rfl⟩
  have hEg : Nat.gcd E.1 E.2 = Nat.gcd M N := by rw [hE]; exact eu_gcd _ _ _ _
  have hE2 : eu2 E.2 = true := by rw [hE]; exact eu_all (n := 540) eu2 (by decide) (BB18 ▸ hva) (BB18 ▸ hvb) (by decide)
  have hElt : E.1 < BB ^ 18 ∧ E.2 < BB ^ 18 := by rw [hE]; exact eu_lt _ _ _ _ hva hvb
  refine zi_aload_n X dX0_writeCommonFactor_0 rfl rfl ?_
  refine zi_getf (C := RX0) (T := TX0) (N := 14) (ci := 4) X (by first | assumption | exact mup_self | (rw [mup_ne (by assumption)]; assumption) | (rw [mup_ne (by assumption)]; exact mup_self) | (rw [mup_ne (by assumption), mup_ne (by assumption)]; assumption)) rfl in_X0 0 (by decide) wf_X0_12 rfl rfl dX0_writeCommonFactor_1 ?_
  refine zi_astore X dX0_writeCommonFactor_4 (by decide) ?_
  refine zi_aload_n X dX0_writeCommonFactor_6 rfl rfl ?_
  refine zi_getf (C := RX0) (T := TX0) (N := 14) (ci := 4) X (by first | assumption | exact mup_self | (rw [mup_ne (by assumption)]; assumption) | (rw [mup_ne (by assumption)]; exact mup_self) | (rw [mup_ne (by assumption), mup_ne (by assumption)]; assumption)) rfl in_X0 1 (by decide) wf_X0_18 rfl rfl dX0_writeCommonFactor_7 ?_
  refine zi_astore X dX0_writeCommonFactor_10 (by decide) ?_
  refine zi_aload X dX0_writeCommonFactor_12 rfl ?_
  refine zi_aload_n X dX0_writeCommonFactor_14 rfl rfl ?_
  refine zi_callVv X (k_becomeMagnitude l D cA (hh.1 154 (by decide)) (hh.1 a (by omega)) (i0 _ _ (by omega) (by decide) (by omega))) kc_X1_becomeMagnitude wm_X0_61 ((hh.1 154 (by decide)).1) rfl wim_X1_becomeMagnitude wse_X1_becomeMagnitude ⟨Nat.le_of_ble_eq_true rfl, Nat.le_of_ble_eq_true rfl⟩ rfl rfl (Nat.le_of_ble_eq_true rfl) ⟨Nat.le_of_ble_eq_true rfl, Nat.le_of_ble_eq_true rfl⟩ dX0_writeCommonFactor_15 (fun g1 e1 => ?_)
  have hh1 := hA_mbig (v := ((B a).natAbs : Int)) hh (n := 154) (by decide) (by rw [← hM]; exact BB18_20 hva)
  rw [← e1] at hh1
  refine zi_aload X dX0_writeCommonFactor_18 rfl ?_
  refine zi_aload_n X dX0_writeCommonFactor_20 rfl rfl ?_
  refine zi_callVv X (k_becomeMagnitude l D cA (hh1.1 155 (by decide)) (hh1.1 b (by omega)) (i0 _ _ (by omega) (by decide) (by omega))) kc_X1_becomeMagnitude wm_X0_61 ((hh1.1 155 (by decide)).1) rfl wim_X1_becomeMagnitude wse_X1_becomeMagnitude ⟨Nat.le_of_ble_eq_true rfl, Nat.le_of_ble_eq_true rfl⟩ rfl rfl (Nat.le_of_ble_eq_true rfl) ⟨Nat.le_of_ble_eq_true rfl, Nat.le_of_ble_eq_true rfl⟩ dX0_writeCommonFactor_21 (fun g2 e2 => ?_)
  rw [updI_n (show b ≠ 154 by omega)] at e2
  have hh2 := hA_mbig (v := ((B b).natAbs : Int)) hh1 (n := 155) (by decide) (by rw [← hN]; exact BB18_20 hvb)
  rw [← e2] at hh2
  have hf2 : hfr S g2 h := by
    rw [e2]
    refine hfr_tr (hfr_mbig (by decide)) ?_
    rw [e1]
    exact hfr_mbig (by decide)
  refine zi_iconst (v := (nI 0)) X dX0_writeCommonFactor_24 (by decide) ?_
  refine zi_istore X dX0_writeCommonFactor_25 (by decide) ?_
  suffices key : ∀ k i p q a1 b1 B1 g (o : Option Value), i + k = 10000 → (p = 154 ∧ q = 155 ∨ p = 155 ∧ q = 154) → a1 < BB ^ 18 → b1 < BB ^ 18 → E = eu eu2 k a1 b1 → hfr S g h → hA cA S B1 G Ln g → (∀ n, (n < 154 ∨ 157 < n) → B1 n = B n) → B1 p = (a1 : Nat) → B1 q = (b1 : Nat) → zM z 0 0 27 [some (.ref (S 6 0)), some (.ref (S 0 a)), some (.ref (S 0 b)), some (.ref (S 0 c)), some (.ref (S 0 p)), some (.ref (S 0 q)), some (.int (nI i)), o] [] g from
    zi_sub (by repeat (first | exact trivial | refine And.intro rfl ?_)) (key 10000 0 154 155 M N _ g2 none rfl (Or.inl ⟨rfl, rfl⟩) hva hvb hE hf2 hh2 (fun n hn => by rw [updI_n (by omega), updI_n (by omega)]) (by rw [updI_n (by decide), updI_s, hM]) (by rw [updI_s, hN]))
  suffices fin : ∀ i p q B1 g (o : Option Value), (p = 154 ∧ q = 155 ∨ p = 155 ∧ q = 154) → hfr S g h → hA cA S B1 G Ln g → (∀ n, (n < 154 ∨ 157 < n) → B1 n = B n) → B1 p = (E.1 : Nat) → B1 q = (E.2 : Nat) → zM z 0 0 77 [some (.ref (S 6 0)), some (.ref (S 0 a)), some (.ref (S 0 b)), some (.ref (S 0 c)), some (.ref (S 0 p)), some (.ref (S 0 q)), some (.int (nI i)), o] [] g by
    intro k
    induction k with
    | zero =>
      intro i p q a1 b1 B1 g o hi hpq ha1 hb1 he hf hg hB1 hp hq
      have : i = 10000 := by omega
      subst this
      rw [eu] at he
      refine zi_iload X dX0_writeCommonFactor_27 rfl ?_
      refine zi_sipush (v := (nI 10000)) X dX0_writeCommonFactor_29 (by decide) ?_
      refine zi_icmp_ge (tgt := 77) X dX0_writeCommonFactor_32 (by decide) (fun c_32 => ?_) (fun c_32 => (by first | exact absurd (Int32.le_refl _) c_32 | exact absurd c_32 (Int32.le_refl _)))
      exact fin 10000 p q B1 g o hpq hf hg hB1 (by rw [he, hp]) (by rw [he, hq])
    | succ k ih =>
      intro i p q a1 b1 B1 g o hi hpq ha1 hb1 he hf hg hB1 hp hq
      have a3 := hg.1 q (by omega)
      have a4 := a3.1
      have b0 := hg.2.2.2.1
      have hbl : (B1 q).natAbs = b1 := by rw [hq]; rfl
      have hal : (B1 p).natAbs = a1 := by rw [hp]; rfl
      rw [eu] at he
      refine zi_iload X dX0_writeCommonFactor_27 rfl ?_
      refine zi_sipush (v := (nI 10000)) X dX0_writeCommonFactor_29 (by decide) ?_
      refine zi_icmp_ge (tgt := 77) X dX0_writeCommonFactor_32 (by decide) (fun c_32 => (by first | exact absurd (nI_ge (show i < 10000 by omega) (by decide)) c_32 | exact absurd c_32 (nI_ge (show i < 10000 by omega) (by decide)))) (fun c_32 => ?_)
      have hle := blen_le (B1 q).natAbs
      refine zi_aload X dX0_writeCommonFactor_35 rfl ?_
      refine zi_getf (C := RX1) (T := TX1) (N := 3) (ci := 5) X (by first | assumption | exact mup_self | (rw [mup_ne (by assumption)]; assumption) | (rw [mup_ne (by assumption)]; exact mup_self) | (rw [mup_ne (by assumption), mup_ne (by assumption)]; assumption)) rfl in_X1 1 (by decide) wf_X0_65 rfl rfl dX0_writeCommonFactor_37 ?_
      refine zi_iconst (v := (nI 2)) X dX0_writeCommonFactor_40 (by decide) ?_
      refine zi_icmp_le (tgt := 77) X dX0_writeCommonFactor_41 (by decide) (fun c_41 => ?_) (fun c_41 => ?_)
      · have q1 := (nI_leI (by omega) (by omega)).mp c_41
        rw [hbl] at q1
        rw [if_pos (eu2_z.mpr q1)] at he
        exact fin i p q B1 g o hpq hf hg hB1 (by rw [he, hp]) (by rw [he, hq])
      · have q1 : ¬ blen b1 ≤ 2 := fun q2 => c_41 ((nI_leI (by omega) (by omega)).mpr (by rw [hbl]; exact q2))
        rw [if_neg (fun q2 => q1 (eu2_z.mp q2))] at he
        refine zi_aload X dX0_writeCommonFactor_44 rfl ?_
        refine zi_aload X dX0_writeCommonFactor_46 rfl ?_
        refine zi_aload_n X dX0_writeCommonFactor_48 rfl rfl ?_
        refine zi_getf (C := RX0) (T := TX0) (N := 14) (ci := 4) X (by first | assumption | exact mup_self | (rw [mup_ne (by assumption)]; assumption) | (rw [mup_ne (by assumption)]; exact mup_self) | (rw [mup_ne (by assumption), mup_ne (by assumption)]; assumption)) rfl in_X0 2 (by decide) wf_X0_21 rfl rfl dX0_writeCommonFactor_49 ?_
        refine zi_aload_n X dX0_writeCommonFactor_52 rfl rfl ?_
        refine zi_getf (C := RX0) (T := TX0) (N := 14) (ci := 4) X (by first | assumption | exact mup_self | (rw [mup_ne (by assumption)]; assumption) | (rw [mup_ne (by assumption)]; exact mup_self) | (rw [mup_ne (by assumption), mup_ne (by assumption)]; assumption)) rfl in_X0 3 (by decide) wf_X0_24 rfl rfl dX0_writeCommonFactor_53 ?_
        refine zi_callVv X (a_reduceBy l D hg (p := p) (q := q) (by omega) (by omega) (by omega) (by rw [hal]; exact ha1)) kc_X1_reduceBy wm_X0_69 ((hg.1 p (by omega)).1) rfl wim_X1_reduceBy wse_X1_reduceBy ⟨Nat.le_of_ble_eq_true rfl, Nat.le_of_ble_eq_true rfl⟩ rfl rfl (Nat.le_of_ble_eq_true rfl) ⟨Nat.le_of_ble_eq_true rfl, Nat.le_of_ble_eq_true rfl⟩ dX0_writeCommonFactor_56 (fun g3 e3 => ?_)
        obtain ⟨e3, B2, e4, e5, e6, e7⟩ := e3
        refine zi_aload X dX0_writeCommonFactor_59 rfl ?_
        refine zi_astore X dX0_writeCommonFactor_61 (by decide) ?_
        refine zi_aload X dX0_writeCommonFactor_63 rfl ?_
        refine zi_astore X dX0_writeCommonFactor_65 (by decide) ?_
        refine zi_aload X dX0_writeCommonFactor_67 rfl ?_
        refine zi_astore X dX0_writeCommonFactor_69 (by decide) ?_
        refine zi_iinc (v := nI (i + 1)) X dX0_writeCommonFactor_71 rfl (nI_inc _) (by decide) ?_
        refine zi_goto (tgt := 27) X dX0_writeCommonFactor_74 (by decide) ?_
        refine zi_sub (by repeat (first | exact trivial | refine And.intro rfl ?_)) (ih (i + 1) q p b1 (a1 % b1) B2 g3 (some (.ref (S 0 p))) (by omega) (by omega) hb1 (Nat.lt_of_le_of_lt (Nat.mod_le a1 b1) ha1) he (hfr_tr e3 hf) e4 (fun n hn => ?_) ?_ ?_)
        · rw [e5 n (by omega) (by omega) (by omega)]; exact hB1 n hn
        · rw [e5 q (by omega) (by omega) (by omega)]; exact hq
        · rw [e6, hbl, hal]
  intro i p q B1 g o hpq hf hg hB1 hp hq
  have a3 := hg.1 q (by omega)
  have a4 := a3.1
  have b0 := hg.2.2.2.1
  have hbl : (B1 q).natAbs = E.2 := by rw [hq]; rfl
  have hal : (B1 p).natAbs = E.1 := by rw [hp]; rfl
  refine zi_aload X dX0_writeCommonFactor_77 rfl ?_
  refine zi_callVi X (k_isZero l D cA a4 a3.2.2) kc_X1_isZero wm_X0_73 (by first | assumption | exact mup_self | (rw [mup_ne (by assumption)]; assumption) | (rw [mup_ne (by assumption)]; exact mup_self) | (rw [mup_ne (by assumption), mup_ne (by assumption)]; assumption)) rfl wim_X1_isZero wse_X1_isZero ⟨Nat.le_of_ble_eq_true rfl, Nat.le_of_ble_eq_true rfl⟩ rfl rfl (Nat.le_of_ble_eq_true rfl) ⟨Nat.le_of_ble_eq_true rfl, Nat.le_of_ble_eq_true rfl⟩ dX0_writeCommonFactor_79 (fun x g1 e1 => ?_)
  obtain ⟨rfl, rfl⟩ := e1
  refine zi_if_eq (tgt := 92) X dX0_writeCommonFactor_82 (by decide) (fun c_82 => ?_) (fun c_82 => ?_)
  · have hq0 : ¬ B1 q = 0 := fun q2 => by rw [if_pos q2] at c_82; exact absurd c_82 (by decide)
    have hy0 : 0 < E.2 := by rw [hq] at hq0; omega
    have hy2 := eu2_lt (BB18_20 hElt.2) hE2
    refine zi_aload X dX0_writeCommonFactor_92 rfl ?_
    refine zi_aload X dX0_writeCommonFactor_94 rfl ?_
    refine zi_aload_n X dX0_writeCommonFactor_96 rfl rfl ?_
    refine zi_getf (C := RX0) (T := TX0) (N := 14) (ci := 4) X (by first | assumption | exact mup_self | (rw [mup_ne (by assumption)]; assumption) | (rw [mup_ne (by assumption)]; exact mup_self) | (rw [mup_ne (by assumption), mup_ne (by assumption)]; assumption)) rfl in_X0 2 (by decide) wf_X0_21 rfl rfl dX0_writeCommonFactor_97 ?_
    refine zi_aload_n X dX0_writeCommonFactor_100 rfl rfl ?_
    refine zi_getf (C := RX0) (T := TX0) (N := 14) (ci := 4) X (by first | assumption | exact mup_self | (rw [mup_ne (by assumption)]; assumption) | (rw [mup_ne (by assumption)]; exact mup_self) | (rw [mup_ne (by assumption), mup_ne (by assumption)]; assumption)) rfl in_X0 3 (by decide) wf_X0_24 rfl rfl dX0_writeCommonFactor_101 ?_
    refine zi_callVv X (a_reduceBy l D hg (p := p) (q := q) (by omega) (by omega) (by omega) (by rw [hal]; exact hElt.1)) kc_X1_reduceBy wm_X0_69 ((hg.1 p (by omega)).1) rfl wim_X1_reduceBy wse_X1_reduceBy ⟨Nat.le_of_ble_eq_true rfl, Nat.le_of_ble_eq_true rfl⟩ rfl rfl (Nat.le_of_ble_eq_true rfl) ⟨Nat.le_of_ble_eq_true rfl, Nat.le_of_ble_eq_true rfl⟩ dX0_writeCommonFactor_104 (fun g3 e3 => ?_)
    obtain ⟨e3, B2, e4, e5, e6, e7⟩ := e3
    have f1 : B2 q = (E.2 : Nat) := by rw [e5 q (by omega) (by omega) (by omega)]; exact hq
    have f2 : B2 p = (E.1 % E.2 : Nat) := by rw [e6, hbl, hal]
    have hm : E.1 % E.2 < BB * BB := Nat.lt_trans (Nat.mod_lt _ hy0) hy2
    refine zi_aload_n X dX0_writeCommonFactor_107 rfl rfl ?_
    refine zi_aload X dX0_writeCommonFactor_108 rfl ?_
    refine zi_callVl X (k_lowestBits l D cA (e4.1 q (by omega))) kc_X1_lowestBits wm_X0_80 ((e4.1 q (by omega)).1) rfl wim_X1_lowestBits wse_X1_lowestBits ⟨Nat.le_of_ble_eq_true rfl, Nat.le_of_ble_eq_true rfl⟩ rfl rfl (Nat.le_of_ble_eq_true rfl) ⟨Nat.le_of_ble_eq_true rfl, Nat.le_of_ble_eq_true rfl⟩ dX0_writeCommonFactor_110 (fun x g4 e8 => ?_)
    obtain ⟨rfl, rfl⟩ := e8
    refine zi_aload X dX0_writeCommonFactor_113 rfl ?_
    refine zi_callVl X (k_lowestBits l D cA (e4.1 p (by omega))) kc_X1_lowestBits wm_X0_80 ((e4.1 p (by omega)).1) rfl wim_X1_lowestBits wse_X1_lowestBits ⟨Nat.le_of_ble_eq_true rfl, Nat.le_of_ble_eq_true rfl⟩ rfl rfl (Nat.le_of_ble_eq_true rfl) ⟨Nat.le_of_ble_eq_true rfl, Nat.le_of_ble_eq_true rfl⟩ dX0_writeCommonFactor_115 (fun x g4 e8 => ?_)
    obtain ⟨rfl, rfl⟩ := e8
    rw [f1, f2, lV_nat, lV_nat]
    refine zi_callSl X (k_commonFactor l D cA hy2 hm) kc_X0_commonFactor wm_X0_84 wst_X0_commonFactor ⟨Nat.le_of_ble_eq_true rfl, Nat.le_of_ble_eq_true rfl⟩ rfl rfl (Nat.le_of_ble_eq_true rfl) ⟨Nat.le_of_ble_eq_true rfl, Nat.le_of_ble_eq_true rfl⟩ dX0_writeCommonFactor_118 (fun x g4 e8 => ?_)
    obtain ⟨rfl, rfl⟩ := e8
    have hgcd : Nat.gcd E.2 (E.1 % E.2) = Nat.gcd M N := by rw [← hEg, Nat.gcd_comm, ← Nat.gcd_rec, Nat.gcd_comm]
    have hgl : Nat.gcd M N < BB * BB := by
      rw [← hgcd]
      exact Nat.lt_of_le_of_lt (Nat.le_of_dvd hy0 (Nat.gcd_dvd_left _ _)) hy2
    have hgi : (lN (Nat.gcd M N)).toInt = (Nat.gcd M N : Nat) := lN_int (Nat.lt_trans hgl (by decide))
    rw [hgcd]
    refine zi_callVv X (k_becomeValue l D cA (e4.1 c (by omega)) (by rw [hgi]; exact hgl)) kc_X1_becomeValue wm_X0_88 ((e4.1 c (by omega)).1) rfl wim_X1_becomeValue wse_X1_becomeValue ⟨Nat.le_of_ble_eq_true rfl, Nat.le_of_ble_eq_true rfl⟩ rfl rfl (Nat.le_of_ble_eq_true rfl) ⟨Nat.le_of_ble_eq_true rfl, Nat.le_of_ble_eq_true rfl⟩ dX0_writeCommonFactor_121 (fun g5 e8 => ?_)
    rw [hgi] at e8
    have hh5 := hA_mbig (v := (Nat.gcd M N : Nat)) e4 (n := c) (by omega) (Nat.lt_trans hgl (by decide))
    rw [← e8] at hh5
    refine zi_return X Vz dX0_writeCommonFactor_124 ?_
    refine ⟨hfr_tr (by rw [e8]; exact hfr_mbig (by omega)) (hfr_tr e3 hf), _, hh5, fun n hn hnc => ?_, updI_s⟩
    rw [updI_n hnc, e5 n (by omega) (by omega) (by omega)]
    exact hB1 n hn
  · have hq0 : B1 q = 0 := by
      by_cases q2 : B1 q = 0
      · exact q2
      · rw [if_neg q2] at c_82; exact absurd rfl c_82
    have hg0 : E.1 = Nat.gcd M N := by
      have : E.2 = 0 := by rw [hq] at hq0; omega
      rw [← hEg, this, Nat.gcd_zero_right]
    refine zi_aload_n X dX0_writeCommonFactor_85 rfl rfl ?_
    refine zi_aload X dX0_writeCommonFactor_86 rfl ?_
    refine zi_callVv X (k_become l D cA (hg.1 c (by omega)) (hg.1 p (by omega)) (i0 _ _ (by omega) (by omega) (by omega))) kc_X1_become wm_X0_77 ((hg.1 c (by omega)).1) rfl wim_X1_become wse_X1_become ⟨Nat.le_of_ble_eq_true rfl, Nat.le_of_ble_eq_true rfl⟩ rfl rfl (Nat.le_of_ble_eq_true rfl) ⟨Nat.le_of_ble_eq_true rfl, Nat.le_of_ble_eq_true rfl⟩ dX0_writeCommonFactor_88 (fun g5 e8 => ?_)
    have hh5 := hA_mbig (v := B1 p) hg (n := c) (by omega) (hg.1 p (by omega)).2.2
    rw [← e8] at hh5
    refine zi_return X Vz dX0_writeCommonFactor_91 ?_
    refine ⟨hfr_tr (by rw [e8]; exact hfr_mbig (by omega)) hf, _, hh5, fun n hn hnc => ?_, ?_⟩
    · rw [updI_n hnc]
      exact hB1 n hn
    · rw [updI_s, hp, hg0]
end ALG3
