/-! SturmRootsModel: refine -/
def rfX (kp p : Nat → Int) (v : Iv) : Iv := if sgnAt kp (v.2.1 + v.2.2.1) (v.1 + 1) = 0 then (v.1 + 1, v.2.1 + v.2.2.1, v.2.1 + v.2.2.1, (ctI p (v.1 + 1) (v.2.1 + v.2.2.1) (v.2.1 + v.2.2.1) : Int)) else if ctI p (v.1 + 1) (2 * v.2.1) (v.2.1 + v.2.2.1) ≠ 0 then (v.1 + 1, 2 * v.2.1, v.2.1 + v.2.2.1, (ctI p (v.1 + 1) (2 * v.2.1) (v.2.1 + v.2.2.1) : Int)) else (v.1 + 1, v.2.1 + v.2.2.1, 2 * v.2.2.1, (ctI p (v.1 + 1) (v.2.1 + v.2.2.1) (2 * v.2.2.1) : Int))
def rfN (kp p : Nat → Int) : Nat → Iv → Iv
  | 0, v => v
  | m + 1, v => if v.2.1 < v.2.2.1 then rfN kp p m (rfX kp p v) else v
def rfOk (kp p : Nat → Int) : Nat → Iv → Prop
  | 0, v => v.2.1.natAbs ≤ 2 ^ 26 ∧ v.2.2.1.natAbs ≤ 2 ^ 26
  | m + 1, v => v.2.1.natAbs ≤ 2 ^ 26 ∧ v.2.2.1.natAbs ≤ 2 ^ 26 ∧ (v.2.1 < v.2.2.1 → ctOk p (v.1 + 1) (2 * v.2.1) (v.2.1 + v.2.2.1) ∧ ctOk p (v.1 + 1) (v.2.1 + v.2.2.1) (2 * v.2.2.1) ∧ ctI p (v.1 + 1) (2 * v.2.1) (v.2.1 + v.2.2.1) ≤ 6 ∧ rfOk kp p m (rfX kp p v))
theorem rfOk_b {kp p : Nat → Int} : ∀ {m : Nat} {v : Iv}, rfOk kp p m v → v.2.1.natAbs ≤ 2 ^ 26 ∧ v.2.2.1.natAbs ≤ 2 ^ 26
  | 0, _, h => h
  | _ + 1, _, h => ⟨h.1, h.2.1⟩
def rcOk (v : Iv) (m : Nat) : Prop := v.2.2.2 = 1 ∧ v.2.1 ≠ v.2.2.1 ∧ v.1 + m ≤ 12
theorem iI_le {a b : Int} (ha : a.natAbs < 2147483648) (hb : b.natAbs < 2147483648) : iI a ≤ iI b ↔ a ≤ b := by rw [fa_le, iI_int ha, iI_int hb]
section RF
variable {cA : Nat → ClassId} {M : Nat → Nat → Nat} {h h1 : mH} {o : RO} {Sl : Nat → Nat → Int} {kp : Nat → Int} {cap n : Nat} {V : Nat → Iv} {P : Nat → Nat → Int}
theorem u_refine (l : Launch) (D : va_G) (hu : rU cA M h o Sl kp cap n V P) (ho : o.2.2.1 = nI n) (hn : n ≤ 1035) (hkk : 0 < n → (∀ k, k < 7 → (kp k).natAbs ≤ 9999) ∧ evOk kp) (hV : ∀ i, i < n → ivB (V i)) (hok : ∀ i m, i < n → 1 ≤ m → m ≤ 6 → rcOk (V i) m → rfOk kp (P 7) m (V i)) {a b : Int32} :
    mCi l yX7_refine cX7_refine 8 .int (rmd 8) D (mT cA) [.ref (M 3 0), .int a, .int b] h (fun r h1 => ¬ inR a n ∧ uT cA M o kp cap n V P 1 Sl h1 ∨ inR a n ∧ ¬ (1 ≤ b.toInt ∧ b.toInt ≤ 6) ∧ uT cA M o kp cap n V P 2 Sl h1 ∨ ∃ i m, i < n ∧ a = nI i ∧ 1 ≤ m ∧ m ≤ 6 ∧ b = nI m ∧ (¬ rcOk (V i) m ∧ uT cA M o kp cap n V P 3 Sl h1 ∨ rcOk (V i) m ∧ r = nI (rfN kp (P 7) m (V i)).1 ∧ uT cA M o kp cap n (setV V i (rfN kp (P 7) m (V i))) P 0 Sl h1)) := by
  have x1 := hu.2.1.1
  have t1 : (nI 1).toInt = 1 := by decide
  have t6 : (nI 6).toInt = 6 := by decide
  refine mEnter_i (by decide) (Nat.le_of_ble_eq_true rfl) rfl (fun z X Vz => ?_)
  refine zi_aload_n X dX7_refine_0 rfl rfl ?_
  refine zi_iload_n X dX7_refine_1 rfl rfl ?_
  refine zi_callVi X (u_isInterval l D hu ho) kc_X7_isInterval wm_X7_296 (by first | assumption | exact mup_self | (rw [mup_ne (by assumption)]; assumption) | (rw [mup_ne (by assumption)]; exact mup_self) | (rw [mup_ne (by assumption), mup_ne (by assumption)]; assumption)) rfl wim_X7_isInterval wse_X7_isInterval ⟨Nat.le_of_ble_eq_true rfl, Nat.le_of_ble_eq_true rfl⟩ rfl rfl (Nat.le_of_ble_eq_true rfl) ⟨Nat.le_of_ble_eq_true rfl, Nat.le_of_ble_eq_true rfl⟩ dX7_refine_2 (fun r h1 hp => ?_)
  obtain ⟨rfl, ⟨q1, rfl⟩ | ⟨q1, rfl⟩⟩ := hp
  · refine zi_if_ne (tgt := 14) X dX7_refine_5 (by decide) (fun c_5 => ?_) (fun c_5 => (by first | exact absurd (by decide) c_5 | exact absurd c_5 (by decide)))
    refine zi_iload_n X dX7_refine_14 rfl rfl ?_
    refine zi_iconst (v := (nI 1)) X dX7_refine_15 (by decide) ?_
    refine zi_bipush (v := (nI 6)) X dX7_refine_16 (by decide) ?_
    refine zi_callSi X (s_in l D) kc_X7_in wm_X7_232 wst_X7_in ⟨Nat.le_of_ble_eq_true rfl, Nat.le_of_ble_eq_true rfl⟩ rfl rfl (Nat.le_of_ble_eq_true rfl) ⟨Nat.le_of_ble_eq_true rfl, Nat.le_of_ble_eq_true rfl⟩ dX7_refine_18 (fun r h1 hp => ?_)
    obtain ⟨rfl, hp⟩ := hp
    rw [t1, t6] at hp
    rcases hp with ⟨q2, rfl⟩ | ⟨q2, rfl⟩
    · obtain ⟨m, hm⟩ : ∃ m, m = b.toInt.toNat := ⟨_, rfl⟩
      have hb : b = nI m := by rw [hm, iI_nat, Int.toNat_of_nonneg (by omega)]; exact (Int32.ofInt_toInt b).symm
      have m1 : 1 ≤ m := by omega
      have m6 : m ≤ 6 := by omega
      obtain ⟨i, hi, rfl⟩ := q1
      clear hm q2
      subst hb
      obtain ⟨f, hF, hnc, hv⟩ := rU_F hu
      have cl : cap ≤ 2048 := (hF.2.2.1.1 0 (by decide)).2.1
      have b0 := (hF.2.2.1.1 0 (by decide)).1
      have b1 := (hF.2.2.1.1 1 (by decide)).1
      have b2 := (hF.2.2.1.1 2 (by decide)).1
      have b3 := (hF.2.2.1.1 3 (by decide)).1
      have hv2 := ivs_cp.mp hv
      have e0 : f 0 i = nI (V i).1 := hv2 i 0 hi (by decide)
      have e1 : f 1 i = iI (V i).2.1 := hv2 i 1 hi (by decide)
      have e2 : f 2 i = iI (V i).2.2.1 := hv2 i 2 hi (by decide)
      have e3 : f 3 i = iI (V i).2.2.2 := hv2 i 3 hi (by decide)
      obtain ⟨vb0, vb1, vb2, vb3⟩ := hV i hi
      have hoki := hok i m hi m1 m6
      have hin : vp_in (nI i) cap := vp_in_nI (show i < cap by omega) (by omega)
      have hcl : (nI i).toNatClampNeg = i := nI_cl (by omega)
      have f3 : ¬ rcOk (V i) m → zM z 0 0 68 [some (.ref (M 3 0)), some (.int (nI i)), some (.int (nI m)), none, none, none, none, none] [] h1 := fun q => by
        refine zi_aload_n X dX7_refine_68 rfl rfl ?_
        refine zi_iconst (v := (nI 3)) X dX7_refine_69 (by decide) ?_
        refine zi_callVi X (u_fails l D hu) kc_X7_fails wm_X7_212 (by first | assumption | exact mup_self | (rw [mup_ne (by assumption)]; assumption) | (rw [mup_ne (by assumption)]; exact mup_self) | (rw [mup_ne (by assumption), mup_ne (by assumption)]; assumption)) rfl wim_X7_fails wse_X7_fails ⟨Nat.le_of_ble_eq_true rfl, Nat.le_of_ble_eq_true rfl⟩ rfl rfl (Nat.le_of_ble_eq_true rfl) ⟨Nat.le_of_ble_eq_true rfl, Nat.le_of_ble_eq_true rfl⟩ dX7_refine_70 (fun r h3 hp => ?_)
        refine zi_ireturn X Vz dX7_refine_73 ?_
        exact Or.inr (Or.inr ⟨i, m, hi, rfl, m1, m6, rfl, Or.inl ⟨q, uT_of hp.2⟩⟩)
      -- the loop
      have stop : ∀ (t : Nat) (g : mH) (Q : Nat → Nat → Int) (f' : Nat → Nat → Int32) (L4 L5 L6 L7 : Option Value), rcOk (V i) m → rF cA M g o Sl kp (fun _ => cap) f' Q → Q 7 = P 7 → (∀ t, t < 4 → f' t i = cpI t (rfN kp (P 7) m (V i)) ∧ ∀ j, j ≠ i → f' t j = f t j) → zM z 0 0 203 [some (.ref (M 3 0)), some (.int (nI i)), some (.int (nI m)), some (.int (nI t)), L4, L5, L6, L7] [] g := fun t g Q f' L4 L5 L6 L7 rc hg q7 hf => by
        have y1 := hg.2.1.1
        have d0 := (hg.2.2.1.1 0 (by decide)).1
        have hU := rF_U hg (n := n) (V := setV V i (rfN kp (P 7) m (V i))) hnc (ivs_cp.mpr (fun j t hj ht => by
          unfold setV
          by_cases c : j = i
          · rw [if_pos c, c]
            exact (hf t ht).1
          · rw [if_neg c, (hf t ht).2 j c]
            exact hv2 j t hj ht))
        refine zi_aload_n X dX7_refine_203 rfl rfl ?_
        refine zi_aload_n X dX7_refine_204 rfl rfl ?_
        refine zi_getf (C := RX7) (T := TX7) (N := 27) (ci := 11) X (by first | assumption | exact mup_self | (rw [mup_ne (by assumption)]; assumption) | (rw [mup_ne (by assumption)]; exact mup_self) | (rw [mup_ne (by assumption), mup_ne (by assumption)]; assumption)) rfl in_X7 22 (by decide) wf_X7_75 rfl rfl dX7_refine_205 ?_
        refine zi_iload_n X dX7_refine_208 rfl rfl ?_
        refine zi_iald X 0 (by first | assumption | exact mup_self | (rw [mup_ne (by assumption)]; assumption) | (rw [mup_ne (by assumption)]; exact mup_self) | (rw [mup_ne (by assumption), mup_ne (by assumption)]; assumption)) rfl hin dX7_refine_209 ?_
        rw [hcl, (hf 0 (by decide)).1]
        refine zi_callVi X (u_tells l D hU) kc_X7_tells wm_X7_217 (by first | assumption | exact mup_self | (rw [mup_ne (by assumption)]; assumption) | (rw [mup_ne (by assumption)]; exact mup_self) | (rw [mup_ne (by assumption), mup_ne (by assumption)]; assumption)) rfl wim_X7_tells wse_X7_tells ⟨Nat.le_of_ble_eq_true rfl, Nat.le_of_ble_eq_true rfl⟩ rfl rfl (Nat.le_of_ble_eq_true rfl) ⟨Nat.le_of_ble_eq_true rfl, Nat.le_of_ble_eq_true rfl⟩ dX7_refine_210 (fun r h3 hp => ?_)
        obtain ⟨rfl, -, hp⟩ := hp
        refine zi_ireturn X Vz dX7_refine_213 ?_
        exact Or.inr (Or.inr ⟨i, m, hi, rfl, m1, m6, rfl, Or.inr ⟨rc, rfl, Q, hp, q7⟩⟩)
      have loop : ∀ (w t : Nat) (v : Iv) (g : mH) (Q : Nat → Nat → Int) (f' : Nat → Nat → Int32) (L4 L5 L6 L7 : Option Value), rcOk (V i) m → t + w = m → v.1 + w ≤ 12 → rfOk kp (P 7) w v → rfN kp (P 7) w v = rfN kp (P 7) m (V i) → rF cA M g o Sl kp (fun _ => cap) f' Q → Q 7 = P 7 → (∀ t, t < 4 → f' t i = cpI t v ∧ ∀ j, j ≠ i → f' t j = f t j) → zM z 0 0 76 [some (.ref (M 3 0)), some (.int (nI i)), some (.int (nI m)), some (.int (nI t)), L4, L5, L6, L7] [] g := by
        intro w
        induction w with
        | zero =>
          intro t v g Q f' L4 L5 L6 L7 rc ht hl hk he hg q7 hf
          obtain rfl : t = m := by omega
          refine zi_iload_n X dX7_refine_76 rfl rfl ?_
          refine zi_iload_n X dX7_refine_77 rfl rfl ?_
          refine zi_icmp_ge (tgt := 203) X dX7_refine_78 (by decide) (fun c_78 => ?_) (fun c_78 => (by first | exact absurd (Int32.le_refl _) c_78 | exact absurd c_78 (Int32.le_refl _)))
          refine stop t g Q f' L4 L5 L6 L7 rc hg q7 ?_
          rw [← he]
          exact hf
        | succ w ih =>
          intro t v g Q f' L4 L5 L6 L7 rc ht hl hk he hg q7 hf
          have hkb := rfOk_b hk
          obtain ⟨lv, lo, hh, rt⟩ := v
          obtain ⟨kb1, kb2⟩ := hkb
          have kb1 : lo.natAbs ≤ 67108864 := kb1
          have kb2 : hh.natAbs ≤ 67108864 := kb2
          have hl : lv + (w + 1) ≤ 12 := hl
          have y1 := hg.2.1.1
          have d0 := (hg.2.2.1.1 0 (by decide)).1
          have d1 := (hg.2.2.1.1 1 (by decide)).1
          have d2 := (hg.2.2.1.1 2 (by decide)).1
          have g0 : f' 0 i = nI lv := (hf 0 (by decide)).1
          have g1 : f' 1 i = iI lo := (hf 1 (by decide)).1
          have g2 : f' 2 i = iI hh := (hf 2 (by decide)).1
          refine zi_iload_n X dX7_refine_76 rfl rfl ?_
          refine zi_iload_n X dX7_refine_77 rfl rfl ?_
          refine zi_icmp_ge (tgt := 203) X dX7_refine_78 (by decide) (fun c_78 => (by first | exact absurd (nI_ge (show t < m by omega) (by omega)) c_78 | exact absurd c_78 (nI_ge (show t < m by omega) (by omega)))) (fun c_78 => ?_)
          refine zi_aload_n X dX7_refine_81 rfl rfl ?_
          refine zi_getf (C := RX7) (T := TX7) (N := 27) (ci := 11) X (by first | assumption | exact mup_self | (rw [mup_ne (by assumption)]; assumption) | (rw [mup_ne (by assumption)]; exact mup_self) | (rw [mup_ne (by assumption), mup_ne (by assumption)]; assumption)) rfl in_X7 23 (by decide) wf_X7_78 rfl rfl dX7_refine_82 ?_
          refine zi_iload_n X dX7_refine_85 rfl rfl ?_
          refine zi_iald X 0 (by first | assumption | exact mup_self | (rw [mup_ne (by assumption)]; assumption) | (rw [mup_ne (by assumption)]; exact mup_self) | (rw [mup_ne (by assumption), mup_ne (by assumption)]; assumption)) rfl hin dX7_refine_86 ?_
          refine zi_aload_n X dX7_refine_87 rfl rfl ?_
          refine zi_getf (C := RX7) (T := TX7) (N := 27) (ci := 11) X (by first | assumption | exact mup_self | (rw [mup_ne (by assumption)]; assumption) | (rw [mup_ne (by assumption)]; exact mup_self) | (rw [mup_ne (by assumption), mup_ne (by assumption)]; assumption)) rfl in_X7 24 (by decide) wf_X7_81 rfl rfl dX7_refine_88 ?_
          refine zi_iload_n X dX7_refine_91 rfl rfl ?_
          refine zi_iald X 0 (by first | assumption | exact mup_self | (rw [mup_ne (by assumption)]; assumption) | (rw [mup_ne (by assumption)]; exact mup_self) | (rw [mup_ne (by assumption), mup_ne (by assumption)]; assumption)) rfl hin dX7_refine_92 ?_
          rw [hcl, g1, g2]
          by_cases c1 : lo < hh
          · obtain ⟨-, -, hk3⟩ := hk
            obtain ⟨ok1, ok2, ct6, hk4⟩ := hk3 c1
            rw [rfN, if_pos (show (lv, lo, hh, rt).2.1 < (lv, lo, hh, rt).2.2.1 from c1)] at he
            have ok1 : ctOk (P 7) (lv + 1) (2 * lo) (lo + hh) := ok1
            have ok2 : ctOk (P 7) (lv + 1) (lo + hh) (2 * hh) := ok2
            have okm : ctOk (P 7) (lv + 1) (lo + hh) (lo + hh) := ⟨by omega, by omega, by omega, fun q => absurd rfl q⟩
            have lo31 : lo.natAbs < 2147483648 := by omega
            have hh31 : hh.natAbs < 2147483648 := by omega
            have mb : (lo + hh).natAbs ≤ 268435456 := by omega
            refine zi_icmp_ge (tgt := 203) X dX7_refine_93 (by decide) (fun c_93 => (by first | exact absurd (fun q => by have := (iI_le hh31 lo31).mp q; omega) c_93 | exact absurd c_93 (fun q => by have := (iI_le hh31 lo31).mp q; omega))) (fun c_93 => ?_)
            refine zi_aload_n X dX7_refine_96 rfl rfl ?_
            refine zi_getf (C := RX7) (T := TX7) (N := 27) (ci := 11) X (by first | assumption | exact mup_self | (rw [mup_ne (by assumption)]; assumption) | (rw [mup_ne (by assumption)]; exact mup_self) | (rw [mup_ne (by assumption), mup_ne (by assumption)]; assumption)) rfl in_X7 22 (by decide) wf_X7_75 rfl rfl dX7_refine_97 ?_
            refine zi_iload_n X dX7_refine_100 rfl rfl ?_
            refine zi_iald X 0 (by first | assumption | exact mup_self | (rw [mup_ne (by assumption)]; assumption) | (rw [mup_ne (by assumption)]; exact mup_self) | (rw [mup_ne (by assumption), mup_ne (by assumption)]; assumption)) rfl hin dX7_refine_101 ?_
            rw [hcl, g0]
            refine zi_iconst (v := (nI 1)) X dX7_refine_102 (by decide) ?_
            refine zi_iadd X dX7_refine_103 ?_
            rw [nI_add]
            refine zi_istore X dX7_refine_104 (by decide) ?_
            refine zi_iconst (v := (nI 2)) X dX7_refine_106 (by decide) ?_
            refine zi_aload_n X dX7_refine_107 rfl rfl ?_
            refine zi_getf (C := RX7) (T := TX7) (N := 27) (ci := 11) X (by first | assumption | exact mup_self | (rw [mup_ne (by assumption)]; assumption) | (rw [mup_ne (by assumption)]; exact mup_self) | (rw [mup_ne (by assumption), mup_ne (by assumption)]; assumption)) rfl in_X7 23 (by decide) wf_X7_78 rfl rfl dX7_refine_108 ?_
            refine zi_iload_n X dX7_refine_111 rfl rfl ?_
            refine zi_iald X 0 (by first | assumption | exact mup_self | (rw [mup_ne (by assumption)]; assumption) | (rw [mup_ne (by assumption)]; exact mup_self) | (rw [mup_ne (by assumption), mup_ne (by assumption)]; assumption)) rfl hin dX7_refine_112 ?_
            rw [hcl, g1]
            refine zi_imul X dX7_refine_113 ?_
            rw [iI_mul2]
            refine zi_istore X dX7_refine_114 (by decide) ?_
            refine zi_iconst (v := (nI 2)) X dX7_refine_116 (by decide) ?_
            refine zi_aload_n X dX7_refine_117 rfl rfl ?_
            refine zi_getf (C := RX7) (T := TX7) (N := 27) (ci := 11) X (by first | assumption | exact mup_self | (rw [mup_ne (by assumption)]; assumption) | (rw [mup_ne (by assumption)]; exact mup_self) | (rw [mup_ne (by assumption), mup_ne (by assumption)]; assumption)) rfl in_X7 24 (by decide) wf_X7_81 rfl rfl dX7_refine_118 ?_
            refine zi_iload_n X dX7_refine_121 rfl rfl ?_
            refine zi_iald X 0 (by first | assumption | exact mup_self | (rw [mup_ne (by assumption)]; assumption) | (rw [mup_ne (by assumption)]; exact mup_self) | (rw [mup_ne (by assumption), mup_ne (by assumption)]; assumption)) rfl hin dX7_refine_122 ?_
            rw [hcl, g2]
            refine zi_imul X dX7_refine_123 ?_
            rw [iI_mul2]
            refine zi_istore X dX7_refine_124 (by decide) ?_
            refine zi_aload_n X dX7_refine_126 rfl rfl ?_
            refine zi_getf (C := RX7) (T := TX7) (N := 27) (ci := 11) X (by first | assumption | exact mup_self | (rw [mup_ne (by assumption)]; assumption) | (rw [mup_ne (by assumption)]; exact mup_self) | (rw [mup_ne (by assumption), mup_ne (by assumption)]; assumption)) rfl in_X7 23 (by decide) wf_X7_78 rfl rfl dX7_refine_127 ?_
            refine zi_iload_n X dX7_refine_130 rfl rfl ?_
            refine zi_iald X 0 (by first | assumption | exact mup_self | (rw [mup_ne (by assumption)]; assumption) | (rw [mup_ne (by assumption)]; exact mup_self) | (rw [mup_ne (by assumption), mup_ne (by assumption)]; assumption)) rfl hin dX7_refine_131 ?_
            refine zi_aload_n X dX7_refine_132 rfl rfl ?_
            refine zi_getf (C := RX7) (T := TX7) (N := 27) (ci := 11) X (by first | assumption | exact mup_self | (rw [mup_ne (by assumption)]; assumption) | (rw [mup_ne (by assumption)]; exact mup_self) | (rw [mup_ne (by assumption), mup_ne (by assumption)]; assumption)) rfl in_X7 24 (by decide) wf_X7_81 rfl rfl dX7_refine_133 ?_
            refine zi_iload_n X dX7_refine_136 rfl rfl ?_
            refine zi_iald X 0 (by first | assumption | exact mup_self | (rw [mup_ne (by assumption)]; assumption) | (rw [mup_ne (by assumption)]; exact mup_self) | (rw [mup_ne (by assumption), mup_ne (by assumption)]; assumption)) rfl hin dX7_refine_137 ?_
            rw [hcl, g1, g2]
            refine zi_iadd X dX7_refine_138 ?_
            rw [iI_add]
            refine zi_istore X dX7_refine_139 (by decide) ?_
            refine zi_aload_n X dX7_refine_141 rfl rfl ?_
            refine zi_iload X dX7_refine_142 rfl ?_
            refine zi_iload X dX7_refine_144 rfl ?_
            obtain ⟨hk9, hev⟩ := hkk (by omega)
            refine zi_callVi X (u_isRoot l D hg hk9 hev mb (k := lv + 1) (by omega)) kc_X7_isRoot wm_X7_299 (by first | assumption | exact mup_self | (rw [mup_ne (by assumption)]; assumption) | (rw [mup_ne (by assumption)]; exact mup_self) | (rw [mup_ne (by assumption), mup_ne (by assumption)]; assumption)) rfl wim_X7_isRoot wse_X7_isRoot ⟨Nat.le_of_ble_eq_true rfl, Nat.le_of_ble_eq_true rfl⟩ rfl rfl (Nat.le_of_ble_eq_true rfl) ⟨Nat.le_of_ble_eq_true rfl, Nat.le_of_ble_eq_true rfl⟩ dX7_refine_146 (fun r h2 hp => ?_)
            obtain ⟨rfl, P2, hF2, p7⟩ := hp
            rw [q7] at p7
            have z1 := hF2.2.1.1
            -- on to the next step
            have nx : ∀ (g3 : mH) (Q3 : Nat → Nat → Int) (f3 : Nat → Nat → Int32), rF cA M g3 o Sl kp (fun _ => cap) f3 Q3 → Q3 7 = P 7 → (∀ t, t < 4 → f3 t i = cpI t (rfX kp (P 7) (lv, lo, hh, rt)) ∧ ∀ j, j ≠ i → f3 t j = f t j) → zM z 0 0 197 [some (.ref (M 3 0)), some (.int (nI i)), some (.int (nI m)), some (.int (nI t)), some (.int (nI (lv + 1))), some (.int (iI (2 * lo))), some (.int (iI (2 * hh))), some (.int (iI (lo + hh)))] [] g3 := fun g3 Q3 f3 hg3 q37 hf3 => by
              refine zi_iinc (v := nI (t + 1)) X dX7_refine_197 rfl (nI_inc _) (by decide) ?_
              refine zi_goto (tgt := 76) X dX7_refine_200 (by decide) ?_
              have hl2 : (rfX kp (P 7) (lv, lo, hh, rt)).1 + w ≤ 12 := by
                have : (rfX kp (P 7) (lv, lo, hh, rt)).1 = lv + 1 := by
                  unfold rfX
                  split
                  · rfl
                  · split <;> rfl
                rw [this]
                omega
              exact zi_sub (by repeat (first | exact trivial | refine And.intro rfl ?_)) (ih (t + 1) (rfX kp (P 7) (lv, lo, hh, rt)) g3 Q3 f3 (some (.int (nI (lv + 1)))) (some (.int (iI (2 * lo)))) (some (.int (iI (2 * hh)))) (some (.int (iI (lo + hh)))) rc (by omega) hl2 hk4 he hg3 q37 hf3)
            have up : ∀ (f3 : Nat → Nat → Int32) (x : Iv) (F : Nat → Nat → Int32), (∀ t, t < 4 → ∀ j, j ≠ i → f3 t j = f t j) → (∀ t, t < 4 → F t = upd (f3 t) i (cpI t x)) → ∀ t, t < 4 → F t i = cpI t x ∧ ∀ j, j ≠ i → F t j = f t j := fun f3 x F h3 hF t ht => by
              rw [hF t ht]
              refine ⟨?_, fun j hj => ?_⟩
              · unfold upd
                rw [if_pos rfl]
              · unfold upd
                rw [if_neg hj]
                exact h3 t ht j hj
            by_cases on : sgnAt kp (lo + hh) (lv + 1) = 0
            · have eX : rfX kp (P 7) (lv, lo, hh, rt) = (lv + 1, lo + hh, lo + hh, (ctI (P 7) (lv + 1) (lo + hh) (lo + hh) : Int)) := by unfold rfX; rw [if_pos on]
              rw [if_pos on]
              refine zi_if_eq (tgt := 166) X dX7_refine_149 (by decide) (fun c_149 => (by first | exact absurd (by decide) c_149 | exact absurd c_149 (by decide))) (fun c_149 => ?_)
              refine zi_aload_n X dX7_refine_152 rfl rfl ?_
              refine zi_iload_n X dX7_refine_153 rfl rfl ?_
              refine zi_iload X dX7_refine_154 rfl ?_
              refine zi_iload X dX7_refine_156 rfl ?_
              refine zi_iload X dX7_refine_158 rfl ?_
              refine zi_callVv X (u_place l D hF2 (a := i) (d := lv + 1) (m := lo + hh) (n := lo + hh) (fun t ht => by omega) (by rw [p7]; exact okm)) kc_X7_place wm_X7_292 (by first | assumption | exact mup_self | (rw [mup_ne (by assumption)]; assumption) | (rw [mup_ne (by assumption)]; exact mup_self) | (rw [mup_ne (by assumption), mup_ne (by assumption)]; assumption)) rfl wim_X7_place wse_X7_place ⟨Nat.le_of_ble_eq_true rfl, Nat.le_of_ble_eq_true rfl⟩ rfl rfl (Nat.le_of_ble_eq_true rfl) ⟨Nat.le_of_ble_eq_true rfl, Nat.le_of_ble_eq_true rfl⟩ dX7_refine_160 (fun h4 hp => ?_)
              obtain ⟨P4, hF4, p47⟩ := hp
              rw [p7] at hF4 p47
              refine zi_goto (tgt := 197) X dX7_refine_163 (by decide) ?_
              refine zi_sub (by repeat (first | exact trivial | refine And.intro rfl ?_)) (nx h4 P4 _ hF4 p47 ?_)
              rw [eX]
              exact up f' _ _ (fun t ht j hj => (hf t ht).2 j hj) (fun t ht => rfl)
            · rw [if_neg on]
              refine zi_if_eq (tgt := 166) X dX7_refine_149 (by decide) (fun c_149 => ?_) (fun c_149 => (by first | exact absurd rfl c_149 | exact absurd c_149 rfl))
              refine zi_aload_n X dX7_refine_166 rfl rfl ?_
              refine zi_iload_n X dX7_refine_167 rfl rfl ?_
              refine zi_iload X dX7_refine_168 rfl ?_
              refine zi_iload X dX7_refine_170 rfl ?_
              refine zi_iload X dX7_refine_172 rfl ?_
              refine zi_callVv X (u_place l D hF2 (a := i) (d := lv + 1) (m := 2 * lo) (n := lo + hh) (fun t ht => by omega) (by rw [p7]; exact ok1)) kc_X7_place wm_X7_292 (by first | assumption | exact mup_self | (rw [mup_ne (by assumption)]; assumption) | (rw [mup_ne (by assumption)]; exact mup_self) | (rw [mup_ne (by assumption), mup_ne (by assumption)]; assumption)) rfl wim_X7_place wse_X7_place ⟨Nat.le_of_ble_eq_true rfl, Nat.le_of_ble_eq_true rfl⟩ rfl rfl (Nat.le_of_ble_eq_true rfl) ⟨Nat.le_of_ble_eq_true rfl, Nat.le_of_ble_eq_true rfl⟩ dX7_refine_174 (fun h4 hp => ?_)
              obtain ⟨P4, hF4, p47⟩ := hp
              rw [p7] at hF4 p47
              have z4 := hF4.2.1.1
              have d3 := (hF4.2.2.1.1 3 (by decide)).1
              have u1 := up f' (lv + 1, 2 * lo, lo + hh, (ctI (P 7) (lv + 1) (2 * lo) (lo + hh) : Int)) (fun t => upd (f' t) i (if t = 0 then nI (lv + 1) else if t = 1 then iI (2 * lo) else if t = 2 then iI (lo + hh) else nI (ctI (P 7) (lv + 1) (2 * lo) (lo + hh)))) (fun t ht j hj => (hf t ht).2 j hj) (fun t ht => rfl)
              have u13 : upd (f' 3) i (if 3 = 0 then nI (lv + 1) else if 3 = 1 then iI (2 * lo) else if 3 = 2 then iI (lo + hh) else nI (ctI (P 7) (lv + 1) (2 * lo) (lo + hh))) i = nI (ctI (P 7) (lv + 1) (2 * lo) (lo + hh)) := (u1 3 (by decide)).1
              refine zi_aload_n X dX7_refine_177 rfl rfl ?_
              refine zi_getf (C := RX7) (T := TX7) (N := 27) (ci := 11) X (by first | assumption | exact mup_self | (rw [mup_ne (by assumption)]; assumption) | (rw [mup_ne (by assumption)]; exact mup_self) | (rw [mup_ne (by assumption), mup_ne (by assumption)]; assumption)) rfl in_X7 25 (by decide) wf_X7_84 rfl rfl dX7_refine_178 ?_
              refine zi_iload_n X dX7_refine_181 rfl rfl ?_
              refine zi_iald X 0 (by first | assumption | exact mup_self | (rw [mup_ne (by assumption)]; assumption) | (rw [mup_ne (by assumption)]; exact mup_self) | (rw [mup_ne (by assumption), mup_ne (by assumption)]; assumption)) rfl hin dX7_refine_182 ?_
              rw [hcl]
              refine zi_eqs (st' := [.int (nI (ctI (P 7) (lv + 1) (2 * lo) (lo + hh)))]) (congrArg (fun x => [Value.int x]) u13) ?_
              by_cases ct : ctI (P 7) (lv + 1) (2 * lo) (lo + hh) = 0
              · have eX : rfX kp (P 7) (lv, lo, hh, rt) = (lv + 1, lo + hh, 2 * hh, (ctI (P 7) (lv + 1) (lo + hh) (2 * hh) : Int)) := by unfold rfX; rw [if_neg on, if_neg (fun q => q ct)]
                refine zi_if_ne (tgt := 197) X dX7_refine_183 (by decide) (fun c_183 => (by first | exact absurd (by rw [ct]; decide) c_183 | exact absurd c_183 (by rw [ct]; decide))) (fun c_183 => ?_)
                refine zi_aload_n X dX7_refine_186 rfl rfl ?_
                refine zi_iload_n X dX7_refine_187 rfl rfl ?_
                refine zi_iload X dX7_refine_188 rfl ?_
                refine zi_iload X dX7_refine_190 rfl ?_
                refine zi_iload X dX7_refine_192 rfl ?_
                refine zi_callVv X (u_place l D hF4 (a := i) (d := lv + 1) (m := lo + hh) (n := 2 * hh) (fun t ht => by omega) (by rw [p47]; exact ok2)) kc_X7_place wm_X7_292 (by first | assumption | exact mup_self | (rw [mup_ne (by assumption)]; assumption) | (rw [mup_ne (by assumption)]; exact mup_self) | (rw [mup_ne (by assumption), mup_ne (by assumption)]; assumption)) rfl wim_X7_place wse_X7_place ⟨Nat.le_of_ble_eq_true rfl, Nat.le_of_ble_eq_true rfl⟩ rfl rfl (Nat.le_of_ble_eq_true rfl) ⟨Nat.le_of_ble_eq_true rfl, Nat.le_of_ble_eq_true rfl⟩ dX7_refine_194 (fun h6 hp => ?_)
                obtain ⟨P6, hF6, p67⟩ := hp
                rw [p47] at hF6 p67
                refine zi_sub (by repeat (first | exact trivial | refine And.intro rfl ?_)) (nx h6 P6 _ hF6 p67 ?_)
                rw [eX]
                exact up _ _ _ (fun t ht j hj => (u1 t ht).2 j hj) (fun t ht => rfl)
              · have eX : rfX kp (P 7) (lv, lo, hh, rt) = (lv + 1, 2 * lo, lo + hh, (ctI (P 7) (lv + 1) (2 * lo) (lo + hh) : Int)) := by unfold rfX; rw [if_neg on, if_pos ct]
                have ctb : ctI (P 7) (lv + 1) (2 * lo) (lo + hh) < 2147483648 := Nat.lt_of_le_of_lt (show ctI (P 7) (lv + 1) (2 * lo) (lo + hh) ≤ 6 from ct6) (by decide)
                refine zi_if_ne (tgt := 197) X dX7_refine_183 (by decide) (fun c_183 => ?_) (fun c_183 => (by first | exact absurd (fun q => ct (nI_inj ctb (by decide) q)) c_183 | exact absurd c_183 (fun q => ct (nI_inj ctb (by decide) q))))
                refine zi_sub (by repeat (first | exact trivial | refine And.intro rfl ?_)) (nx h4 P4 _ hF4 p47 ?_)
                rw [eX]
                exact u1
          · rw [rfN, if_neg (show ¬ (lv, lo, hh, rt).2.1 < (lv, lo, hh, rt).2.2.1 from c1)] at he
            refine zi_icmp_ge (tgt := 203) X dX7_refine_93 (by decide) (fun c_93 => ?_) (fun c_93 => (by first | exact absurd ((iI_le (by omega) (by omega)).mpr (by omega)) c_93 | exact absurd c_93 ((iI_le (by omega) (by omega)).mpr (by omega))))
            refine stop t g Q f' L4 L5 L6 L7 rc hg q7 ?_
            rw [← he]
            exact hf
      refine zi_if_ne (tgt := 30) X dX7_refine_21 (by decide) (fun c_21 => ?_) (fun c_21 => (by first | exact absurd (by decide) c_21 | exact absurd c_21 (by decide)))
      refine zi_aload_n X dX7_refine_30 rfl rfl ?_
      refine zi_getf (C := RX7) (T := TX7) (N := 27) (ci := 11) X (by first | assumption | exact mup_self | (rw [mup_ne (by assumption)]; assumption) | (rw [mup_ne (by assumption)]; exact mup_self) | (rw [mup_ne (by assumption), mup_ne (by assumption)]; assumption)) rfl in_X7 25 (by decide) wf_X7_84 rfl rfl dX7_refine_31 ?_
      refine zi_iload_n X dX7_refine_34 rfl rfl ?_
      refine zi_iald X 0 (by first | assumption | exact mup_self | (rw [mup_ne (by assumption)]; assumption) | (rw [mup_ne (by assumption)]; exact mup_self) | (rw [mup_ne (by assumption), mup_ne (by assumption)]; assumption)) rfl hin dX7_refine_35 ?_
      refine zi_iconst (v := (nI 1)) X dX7_refine_36 (by decide) ?_
      rw [hcl, e3]
      by_cases c1 : (V i).2.2.2 = 1
      · refine zi_icmp_ne (tgt := 68) X dX7_refine_37 (by decide) (fun c_37 => (by first | exact absurd (fun q => q (by rw [c1]; rfl)) c_37 | exact absurd c_37 (fun q => q (by rw [c1]; rfl)))) (fun c_37 => ?_)
        refine zi_aload_n X dX7_refine_40 rfl rfl ?_
        refine zi_getf (C := RX7) (T := TX7) (N := 27) (ci := 11) X (by first | assumption | exact mup_self | (rw [mup_ne (by assumption)]; assumption) | (rw [mup_ne (by assumption)]; exact mup_self) | (rw [mup_ne (by assumption), mup_ne (by assumption)]; assumption)) rfl in_X7 23 (by decide) wf_X7_78 rfl rfl dX7_refine_41 ?_
        refine zi_iload_n X dX7_refine_44 rfl rfl ?_
        refine zi_iald X 0 (by first | assumption | exact mup_self | (rw [mup_ne (by assumption)]; assumption) | (rw [mup_ne (by assumption)]; exact mup_self) | (rw [mup_ne (by assumption), mup_ne (by assumption)]; assumption)) rfl hin dX7_refine_45 ?_
        refine zi_aload_n X dX7_refine_46 rfl rfl ?_
        refine zi_getf (C := RX7) (T := TX7) (N := 27) (ci := 11) X (by first | assumption | exact mup_self | (rw [mup_ne (by assumption)]; assumption) | (rw [mup_ne (by assumption)]; exact mup_self) | (rw [mup_ne (by assumption), mup_ne (by assumption)]; assumption)) rfl in_X7 24 (by decide) wf_X7_81 rfl rfl dX7_refine_47 ?_
        refine zi_iload_n X dX7_refine_50 rfl rfl ?_
        refine zi_iald X 0 (by first | assumption | exact mup_self | (rw [mup_ne (by assumption)]; assumption) | (rw [mup_ne (by assumption)]; exact mup_self) | (rw [mup_ne (by assumption), mup_ne (by assumption)]; assumption)) rfl hin dX7_refine_51 ?_
        rw [hcl, e1, e2]
        by_cases c2 : (V i).2.1 = (V i).2.2.1
        · refine zi_icmp_eq (tgt := 68) X dX7_refine_52 (by decide) (fun c_52 => ?_) (fun c_52 => (by first | exact absurd (by rw [c2]) c_52 | exact absurd c_52 (by rw [c2])))
          exact zi_sub (by repeat (first | exact trivial | refine And.intro rfl ?_)) (f3 (fun q => q.2.1 c2))
        · refine zi_icmp_eq (tgt := 68) X dX7_refine_52 (by decide) (fun c_52 => (by first | exact absurd (fun q => c2 (iI_inj (by omega) (by omega) q)) c_52 | exact absurd c_52 (fun q => c2 (iI_inj (by omega) (by omega) q)))) (fun c_52 => ?_)
          refine zi_aload_n X dX7_refine_55 rfl rfl ?_
          refine zi_getf (C := RX7) (T := TX7) (N := 27) (ci := 11) X (by first | assumption | exact mup_self | (rw [mup_ne (by assumption)]; assumption) | (rw [mup_ne (by assumption)]; exact mup_self) | (rw [mup_ne (by assumption), mup_ne (by assumption)]; assumption)) rfl in_X7 22 (by decide) wf_X7_75 rfl rfl dX7_refine_56 ?_
          refine zi_iload_n X dX7_refine_59 rfl rfl ?_
          refine zi_iald X 0 (by first | assumption | exact mup_self | (rw [mup_ne (by assumption)]; assumption) | (rw [mup_ne (by assumption)]; exact mup_self) | (rw [mup_ne (by assumption), mup_ne (by assumption)]; assumption)) rfl hin dX7_refine_60 ?_
          refine zi_iload_n X dX7_refine_61 rfl rfl ?_
          rw [hcl, e0]
          refine zi_iadd X dX7_refine_62 ?_
          rw [nI_add]
          by_cases c3 : (V i).1 + m ≤ 12
          · refine zi_bipush (v := (nI 12)) X dX7_refine_63 (by decide) ?_
            refine zi_icmp_le (tgt := 74) X dX7_refine_65 (by decide) (fun c_65 => ?_) (fun c_65 => (by first | exact absurd (nI_le c3 (by decide)) c_65 | exact absurd c_65 (nI_le c3 (by decide))))
            refine zi_iconst (v := (nI 0)) X dX7_refine_74 (by decide) ?_
            refine zi_istore_n X dX7_refine_75 rfl (by decide) ?_
            exact zi_sub (by repeat (first | exact trivial | refine And.intro rfl ?_)) (loop m 0 (V i) h1 P f none none none none ⟨c1, c2, c3⟩ (Nat.zero_add m) c3 (hoki ⟨c1, c2, c3⟩) rfl hF rfl (fun t ht => ⟨hv2 i t hi ht, fun j hj => rfl⟩))
          · refine zi_bipush (v := (nI 12)) X dX7_refine_63 (by decide) ?_
            refine zi_icmp_le (tgt := 74) X dX7_refine_65 (by decide) (fun c_65 => (by first | exact absurd (fun q => c3 ((nI_leI (by omega) (by decide)).mp q)) c_65 | exact absurd c_65 (fun q => c3 ((nI_leI (by omega) (by decide)).mp q)))) (fun c_65 => ?_)
            exact zi_sub (by repeat (first | exact trivial | refine And.intro rfl ?_)) (f3 (fun q => c3 q.2.2))
      · refine zi_icmp_ne (tgt := 68) X dX7_refine_37 (by decide) (fun c_37 => ?_) (fun c_37 => (by first | exact absurd (fun q => c1 (iI_inj vb3 (by decide) q)) c_37 | exact absurd c_37 (fun q => c1 (iI_inj vb3 (by decide) q))))
        exact zi_sub (by repeat (first | exact trivial | refine And.intro rfl ?_)) (f3 (fun q => c1 q.1))
    · refine zi_if_ne (tgt := 30) X dX7_refine_21 (by decide) (fun c_21 => (by first | exact absurd (by decide) c_21 | exact absurd c_21 (by decide))) (fun c_21 => ?_)
      refine zi_aload_n X dX7_refine_24 rfl rfl ?_
      refine zi_iconst (v := (nI 2)) X dX7_refine_25 (by decide) ?_
      refine zi_callVi X (u_fails l D hu) kc_X7_fails wm_X7_212 (by first | assumption | exact mup_self | (rw [mup_ne (by assumption)]; assumption) | (rw [mup_ne (by assumption)]; exact mup_self) | (rw [mup_ne (by assumption), mup_ne (by assumption)]; assumption)) rfl wim_X7_fails wse_X7_fails ⟨Nat.le_of_ble_eq_true rfl, Nat.le_of_ble_eq_true rfl⟩ rfl rfl (Nat.le_of_ble_eq_true rfl) ⟨Nat.le_of_ble_eq_true rfl, Nat.le_of_ble_eq_true rfl⟩ dX7_refine_26 (fun r h3 hp => ?_)
      refine zi_ireturn X Vz dX7_refine_29 ?_
      exact Or.inr (Or.inl ⟨q1, q2, uT_of hp.2⟩)
  · refine zi_if_ne (tgt := 14) X dX7_refine_5 (by decide) (fun c_5 => (by first | exact absurd (by decide) c_5 | exact absurd c_5 (by decide))) (fun c_5 => ?_)
    refine zi_aload_n X dX7_refine_8 rfl rfl ?_
    refine zi_iconst (v := (nI 1)) X dX7_refine_9 (by decide) ?_
    refine zi_callVi X (u_fails l D hu) kc_X7_fails wm_X7_212 (by first | assumption | exact mup_self | (rw [mup_ne (by assumption)]; assumption) | (rw [mup_ne (by assumption)]; exact mup_self) | (rw [mup_ne (by assumption), mup_ne (by assumption)]; assumption)) rfl wim_X7_fails wse_X7_fails ⟨Nat.le_of_ble_eq_true rfl, Nat.le_of_ble_eq_true rfl⟩ rfl rfl (Nat.le_of_ble_eq_true rfl) ⟨Nat.le_of_ble_eq_true rfl, Nat.le_of_ble_eq_true rfl⟩ dX7_refine_10 (fun r h1 hp => ?_)
    refine zi_ireturn X Vz dX7_refine_13 ?_
    exact Or.inl ⟨q1, uT_of hp.2⟩
end RF
