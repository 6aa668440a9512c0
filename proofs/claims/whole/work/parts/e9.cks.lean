/-! SturmRootsModel: isTrue, checksum -/
section CK
variable {cA : Nat → ClassId} {M : Nat → Nat → Nat} {h h1 : mH} {o : RO} {Sl : Nat → Nat → Int} {kp : Nat → Int} {cap n : Nat} {V : Nat → Iv} {P : Nat → Nat → Int}
theorem u_isTrue (l : Launch) (D : va_G) (hu : rU cA M h o Sl kp cap n V P) {a : Int32} :
    mCi l yX7_isTrue cX7_isTrue 2 .boolean (rmd 2) D (mT cA) [.ref (M 3 0), .int a] h (fun r h1 => ¬ inR a 5 ∧ uT cA M o kp cap n V P 1 Sl h1 ∨ inR a 5 ∧ r = nI 1 ∧ uT cA M o kp cap n V P 0 Sl h1) := by
  have x1 := hu.2.1.1
  refine mEnter_i (by decide) (Nat.le_of_ble_eq_true rfl) rfl (fun z X Vz => ?_)
  refine zi_iload_n X dX7_isTrue_0 rfl rfl ?_
  refine zi_callSi X (s_isSlot l D) kc_X7_isSlot wm_X7_228 wst_X7_isSlot ⟨Nat.le_of_ble_eq_true rfl, Nat.le_of_ble_eq_true rfl⟩ rfl rfl (Nat.le_of_ble_eq_true rfl) ⟨Nat.le_of_ble_eq_true rfl, Nat.le_of_ble_eq_true rfl⟩ dX7_isTrue_1 (fun r h1 hp => ?_)
  obtain ⟨rfl, ⟨q1, rfl⟩ | ⟨q1, rfl⟩⟩ := hp
  · refine zi_if_eq (tgt := 24) X dX7_isTrue_4 (by decide) (fun c_4 => (by first | exact absurd (by decide) c_4 | exact absurd c_4 (by decide))) (fun c_4 => ?_)
    refine zi_aload_n X dX7_isTrue_7 rfl rfl ?_
    refine zi_iconst (v := (nI 1)) X dX7_isTrue_8 (by decide) ?_
    refine zi_callVi X (u_tells l D hu) kc_X7_tells wm_X7_217 (by first | assumption | exact mup_self | (rw [mup_ne (by assumption)]; assumption) | (rw [mup_ne (by assumption)]; exact mup_self) | (rw [mup_ne (by assumption), mup_ne (by assumption)]; assumption)) rfl wim_X7_tells wse_X7_tells ⟨Nat.le_of_ble_eq_true rfl, Nat.le_of_ble_eq_true rfl⟩ rfl rfl (Nat.le_of_ble_eq_true rfl) ⟨Nat.le_of_ble_eq_true rfl, Nat.le_of_ble_eq_true rfl⟩ dX7_isTrue_9 (fun r h2 hp => ?_)
    obtain ⟨rfl, -, hp⟩ := hp
    refine zi_iconst (v := (nI 1)) X dX7_isTrue_12 (by decide) ?_
    refine zi_icmp_ne (tgt := 20) X dX7_isTrue_13 (by decide) (fun c_13 => (by first | exact absurd (fun q => q rfl) c_13 | exact absurd c_13 (fun q => q rfl))) (fun c_13 => ?_)
    refine zi_iconst (v := (nI 1)) X dX7_isTrue_16 (by decide) ?_
    refine zi_goto (tgt := 38) X dX7_isTrue_17 (by decide) ?_
    refine zi_zreturn X Vz rfl dX7_isTrue_38 ?_
    exact Or.inr ⟨q1, rfl, uT_of hp⟩
  · refine zi_if_eq (tgt := 24) X dX7_isTrue_4 (by decide) (fun c_4 => ?_) (fun c_4 => (by first | exact absurd (by decide) c_4 | exact absurd c_4 (by decide)))
    refine zi_aload_n X dX7_isTrue_24 rfl rfl ?_
    refine zi_iconst (v := (nI 1)) X dX7_isTrue_25 (by decide) ?_
    refine zi_callVi X (u_fails l D hu) kc_X7_fails wm_X7_212 (by first | assumption | exact mup_self | (rw [mup_ne (by assumption)]; assumption) | (rw [mup_ne (by assumption)]; exact mup_self) | (rw [mup_ne (by assumption), mup_ne (by assumption)]; assumption)) rfl wim_X7_fails wse_X7_fails ⟨Nat.le_of_ble_eq_true rfl, Nat.le_of_ble_eq_true rfl⟩ rfl rfl (Nat.le_of_ble_eq_true rfl) ⟨Nat.le_of_ble_eq_true rfl, Nat.le_of_ble_eq_true rfl⟩ dX7_isTrue_26 (fun r h2 hp => ?_)
    obtain ⟨rfl, hp⟩ := hp
    refine zi_iconst (v := (nI 1)) X dX7_isTrue_29 (by decide) ?_
    refine zi_icmp_ne (tgt := 37) X dX7_isTrue_30 (by decide) (fun c_30 => ?_) (fun c_30 => (by first | exact absurd (by decide) c_30 | exact absurd c_30 (by decide)))
    refine zi_iconst (v := (nI 0)) X dX7_isTrue_37 (by decide) ?_
    refine zi_zreturn X Vz rfl dX7_isTrue_38 ?_
    exact Or.inl ⟨q1, uT_of hp⟩
theorem u_checksum (l : Launch) (D : va_G) (hu : rU cA M h o Sl kp cap n V P) (ho : o.2.2.1 = nI n) (hb : slB Sl) (hV : ∀ i, i < n → ivB (V i)) {src : Nat → Int} :
    mCl l yX7_checksum cX7_checksum 8 (rmd 1) D (mT cA) [.ref (M 3 0)] h (fun r h1 => r = lI (csA (Sl, n, V, src)) ∧ uT cA M o kp cap n V P 0 Sl h1) := by
  have x1 := hu.2.1.1
  have l31 : (31 : Int64) = lI 31 := rfl
  refine mEnter_l (by decide) (Nat.le_of_ble_eq_true rfl) rfl (fun z X Vz => ?_)
  refine zi_aload_n X dX7_checksum_0 rfl rfl ?_
  refine zi_iconst (v := (nI 0)) X dX7_checksum_1 (by decide) ?_
  refine zi_putf (C := RX7) (T := TX7) (N := 27) (ci := 11) (ty0 := tyX7) X (by first | assumption | exact mup_self | (rw [mup_ne (by assumption)]; assumption) | (rw [mup_ne (by assumption)]; exact mup_self) | (rw [mup_ne (by assumption), mup_ne (by assumption)]; assumption)) rfl in_X7 tyX7_ok nmX7 0 (by decide) wf_X7_87 rfl rfl rfl rfl rfl (Nat.le_of_ble_eq_true rfl) dX7_checksum_2 ?_
  have hu := rU_o hu (nI 0, o.2) rfl
  have y1 := hu.2.1.1
  have y2 := hu.2.1.2.1
  refine zi_eqh (h' := mup h (M 3 0) (mO M (nI 0, o.2))) rfl ?_
  generalize mup h (M 3 0) (mO M (nI 0, o.2)) = g at *
  obtain ⟨f, hF, hnc, hv⟩ := rU_F hu
  have cl : cap ≤ 2048 := (hF.2.2.1.1 0 (by decide)).2.1
  have b0 := (hF.2.2.1.1 0 (by decide)).1
  have b1 := (hF.2.2.1.1 1 (by decide)).1
  have b2 := (hF.2.2.1.1 2 (by decide)).1
  have b3 := (hF.2.2.1.1 3 (by decide)).1
  have hv2 := ivs_cp.mp hv
  have ho2 : (nI 0, o.2).2.2.1 = nI n := ho
  refine zi_ldc2_w X wK_X7_306 dX7_checksum_5 ?_
  refine zi_lstore_n X dX7_checksum_8 rfl (by decide) ?_
  refine zi_iconst (v := (nI 0)) X dX7_checksum_9 (by decide) ?_
  refine zi_istore_n X dX7_checksum_10 rfl (by decide) ?_
  rw [show (7 : Int64) = lI (csS Sl 0) from rfl]
  have outer : ∀ m t, t + m = 5 → ∀ L4 L5 L6 L7, zM z 0 0 11 [some (.ref (M 3 0)), some (.long (lI (csS Sl t))), none, some (.int (nI t)), L4, L5, L6, L7] [] g := by
    intro m
    induction m with
    | zero =>
      intro t ht L4 L5 L6 L7
      obtain rfl : t = 5 := by omega
      refine zi_iload_n X dX7_checksum_11 rfl rfl ?_
      refine zi_iconst (v := (nI 5)) X dX7_checksum_12 (by decide) ?_
      refine zi_icmp_ge (tgt := 68) X dX7_checksum_13 (by decide) (fun c_13 => ?_) (fun c_13 => (by first | exact absurd (by decide) c_13 | exact absurd c_13 (by decide)))
      refine zi_ldc2_w X wK_X7_308 dX7_checksum_68 ?_
      refine zi_lload_n X dX7_checksum_71 rfl rfl ?_
      rw [l31]
      refine zi_lmul X dX7_checksum_72 ?_
      rw [lI_mul]
      refine zi_aload_n X dX7_checksum_73 rfl rfl ?_
      refine zi_getf (C := RX7) (T := TX7) (N := 27) (ci := 11) X (by first | assumption | exact mup_self | (rw [mup_ne (by assumption)]; assumption) | (rw [mup_ne (by assumption)]; exact mup_self) | (rw [mup_ne (by assumption), mup_ne (by assumption)]; assumption)) rfl in_X7 26 (by decide) wf_X7_285 rfl rfl dX7_checksum_74 ?_
      rw [ho2]
      refine zi_i2l X dX7_checksum_77 ?_
      rw [nn_l n (by omega)]
      refine zi_ladd X dX7_checksum_78 ?_
      rw [lI_add]
      refine zi_lstore_n X dX7_checksum_79 rfl (by decide) ?_
      refine zi_iconst (v := (nI 0)) X dX7_checksum_80 (by decide) ?_
      refine zi_istore_n X dX7_checksum_81 rfl (by decide) ?_
      have iv : ∀ m t, t + m = n → zM z 0 0 82 [some (.ref (M 3 0)), some (.long (lI (csV V t (31 * csS Sl 5 + n)))), none, some (.int (nI t)), L4, L5, L6, L7] [] g := by
        intro m
        induction m with
        | zero =>
          intro t ht
          obtain rfl : t = n := by omega
          refine zi_iload_n X dX7_checksum_82 rfl rfl ?_
          refine zi_aload_n X dX7_checksum_83 rfl rfl ?_
          refine zi_getf (C := RX7) (T := TX7) (N := 27) (ci := 11) X (by first | assumption | exact mup_self | (rw [mup_ne (by assumption)]; assumption) | (rw [mup_ne (by assumption)]; exact mup_self) | (rw [mup_ne (by assumption), mup_ne (by assumption)]; assumption)) rfl in_X7 26 (by decide) wf_X7_285 rfl rfl dX7_checksum_84 ?_
          rw [ho2]
          refine zi_icmp_ge (tgt := 146) X dX7_checksum_87 (by decide) (fun c_87 => ?_) (fun c_87 => (by first | exact absurd (Int32.le_refl _) c_87 | exact absurd c_87 (Int32.le_refl _)))
          refine zi_lload_n X dX7_checksum_146 rfl rfl ?_
          refine zi_lreturn X Vz dX7_checksum_147 ?_
          exact ⟨rfl, P, hu, rfl⟩
        | succ m ih =>
          intro t ht
          have tn : t < n := by omega
          obtain ⟨vb0, vb1, vb2, vb3⟩ := hV t tn
          have hin : vp_in (nI t) cap := vp_in_nI (by omega) (by omega)
          have hcl : (nI t).toNatClampNeg = t := nI_cl (by omega)
          have e0 : f 0 t = nI (V t).1 := hv2 t 0 tn (by decide)
          have e1 : f 1 t = iI (V t).2.1 := hv2 t 1 tn (by decide)
          have e2 : f 2 t = iI (V t).2.2.1 := hv2 t 2 tn (by decide)
          have e3 : f 3 t = iI (V t).2.2.2 := hv2 t 3 tn (by decide)
          refine zi_iload_n X dX7_checksum_82 rfl rfl ?_
          refine zi_aload_n X dX7_checksum_83 rfl rfl ?_
          refine zi_getf (C := RX7) (T := TX7) (N := 27) (ci := 11) X (by first | assumption | exact mup_self | (rw [mup_ne (by assumption)]; assumption) | (rw [mup_ne (by assumption)]; exact mup_self) | (rw [mup_ne (by assumption), mup_ne (by assumption)]; assumption)) rfl in_X7 26 (by decide) wf_X7_285 rfl rfl dX7_checksum_84 ?_
          rw [ho2]
          refine zi_icmp_ge (tgt := 146) X dX7_checksum_87 (by decide) (fun c_87 => (by first | exact absurd (nI_ge tn (by omega)) c_87 | exact absurd c_87 (nI_ge tn (by omega)))) (fun c_87 => ?_)
          refine zi_ldc2_w X wK_X7_308 dX7_checksum_90 ?_
          refine zi_ldc2_w X wK_X7_308 dX7_checksum_93 ?_
          refine zi_ldc2_w X wK_X7_308 dX7_checksum_96 ?_
          refine zi_ldc2_w X wK_X7_308 dX7_checksum_99 ?_
          refine zi_lload_n X dX7_checksum_102 rfl rfl ?_
          rw [l31]
          refine zi_lmul X dX7_checksum_103 ?_
          rw [lI_mul]
          refine zi_aload_n X dX7_checksum_104 rfl rfl ?_
          refine zi_getf (C := RX7) (T := TX7) (N := 27) (ci := 11) X (by first | assumption | exact mup_self | (rw [mup_ne (by assumption)]; assumption) | (rw [mup_ne (by assumption)]; exact mup_self) | (rw [mup_ne (by assumption), mup_ne (by assumption)]; assumption)) rfl in_X7 22 (by decide) wf_X7_75 rfl rfl dX7_checksum_105 ?_
          refine zi_iload_n X dX7_checksum_108 rfl rfl ?_
          refine zi_iald X 0 (by first | assumption | exact mup_self | (rw [mup_ne (by assumption)]; assumption) | (rw [mup_ne (by assumption)]; exact mup_self) | (rw [mup_ne (by assumption), mup_ne (by assumption)]; assumption)) rfl hin dX7_checksum_109 ?_
          rw [hcl, e0]
          refine zi_i2l X dX7_checksum_110 ?_
          rw [nn_l (V t).1 (by omega)]
          refine zi_ladd X dX7_checksum_111 ?_
          rw [lI_add]
          refine zi_lmul X dX7_checksum_112 ?_
          rw [lI_mul]
          refine zi_aload_n X dX7_checksum_113 rfl rfl ?_
          refine zi_getf (C := RX7) (T := TX7) (N := 27) (ci := 11) X (by first | assumption | exact mup_self | (rw [mup_ne (by assumption)]; assumption) | (rw [mup_ne (by assumption)]; exact mup_self) | (rw [mup_ne (by assumption), mup_ne (by assumption)]; assumption)) rfl in_X7 23 (by decide) wf_X7_78 rfl rfl dX7_checksum_114 ?_
          refine zi_iload_n X dX7_checksum_117 rfl rfl ?_
          refine zi_iald X 0 (by first | assumption | exact mup_self | (rw [mup_ne (by assumption)]; assumption) | (rw [mup_ne (by assumption)]; exact mup_self) | (rw [mup_ne (by assumption), mup_ne (by assumption)]; assumption)) rfl hin dX7_checksum_118 ?_
          rw [hcl, e1]
          refine zi_i2l X dX7_checksum_119 ?_
          rw [iI_lI (v := (V t).2.1) (by omega)]
          refine zi_ladd X dX7_checksum_120 ?_
          rw [lI_add]
          refine zi_lmul X dX7_checksum_121 ?_
          rw [lI_mul]
          refine zi_aload_n X dX7_checksum_122 rfl rfl ?_
          refine zi_getf (C := RX7) (T := TX7) (N := 27) (ci := 11) X (by first | assumption | exact mup_self | (rw [mup_ne (by assumption)]; assumption) | (rw [mup_ne (by assumption)]; exact mup_self) | (rw [mup_ne (by assumption), mup_ne (by assumption)]; assumption)) rfl in_X7 24 (by decide) wf_X7_81 rfl rfl dX7_checksum_123 ?_
          refine zi_iload_n X dX7_checksum_126 rfl rfl ?_
          refine zi_iald X 0 (by first | assumption | exact mup_self | (rw [mup_ne (by assumption)]; assumption) | (rw [mup_ne (by assumption)]; exact mup_self) | (rw [mup_ne (by assumption), mup_ne (by assumption)]; assumption)) rfl hin dX7_checksum_127 ?_
          rw [hcl, e2]
          refine zi_i2l X dX7_checksum_128 ?_
          rw [iI_lI (v := (V t).2.2.1) (by omega)]
          refine zi_ladd X dX7_checksum_129 ?_
          rw [lI_add]
          refine zi_lmul X dX7_checksum_130 ?_
          rw [lI_mul]
          refine zi_aload_n X dX7_checksum_131 rfl rfl ?_
          refine zi_getf (C := RX7) (T := TX7) (N := 27) (ci := 11) X (by first | assumption | exact mup_self | (rw [mup_ne (by assumption)]; assumption) | (rw [mup_ne (by assumption)]; exact mup_self) | (rw [mup_ne (by assumption), mup_ne (by assumption)]; assumption)) rfl in_X7 25 (by decide) wf_X7_84 rfl rfl dX7_checksum_132 ?_
          refine zi_iload_n X dX7_checksum_135 rfl rfl ?_
          refine zi_iald X 0 (by first | assumption | exact mup_self | (rw [mup_ne (by assumption)]; assumption) | (rw [mup_ne (by assumption)]; exact mup_self) | (rw [mup_ne (by assumption), mup_ne (by assumption)]; assumption)) rfl hin dX7_checksum_136 ?_
          rw [hcl, e3]
          refine zi_i2l X dX7_checksum_137 ?_
          rw [iI_lI (v := (V t).2.2.2) (by omega)]
          refine zi_ladd X dX7_checksum_138 ?_
          rw [lI_add]
          refine zi_lstore_n X dX7_checksum_139 rfl (by decide) ?_
          refine zi_iinc (v := nI (t + 1)) X dX7_checksum_140 rfl (nI_inc _) (by decide) ?_
          refine zi_goto (tgt := 82) X dX7_checksum_143 (by decide) ?_
          exact ih (t + 1) (by omega)
      exact iv n 0 (Nat.zero_add n)
    | succ m ih =>
      intro t ht L4 L5 L6 L7
      have t5 : t < 5 := by omega
      have c8 : ¬ nI 5 ≤ nI t := nI_ge t5 (by decide)
      have k3 := hu.2.1.2.2.1 t t5
      refine zi_iload_n X dX7_checksum_11 rfl rfl ?_
      refine zi_iconst (v := (nI 5)) X dX7_checksum_12 (by decide) ?_
      refine zi_icmp_ge (tgt := 68) X dX7_checksum_13 (by decide) (fun c_13 => (by first | exact absurd c8 c_13 | exact absurd c_13 c8)) (fun c_13 => ?_)
      refine zi_aload_n X dX7_checksum_16 rfl rfl ?_
      refine zi_getf (C := RX7) (T := TX7) (N := 27) (ci := 11) X (by first | assumption | exact mup_self | (rw [mup_ne (by assumption)]; assumption) | (rw [mup_ne (by assumption)]; exact mup_self) | (rw [mup_ne (by assumption), mup_ne (by assumption)]; assumption)) rfl in_X7 1 (by decide) wf_X7_11 rfl rfl dX7_checksum_17 ?_
      refine zi_iload_n X dX7_checksum_20 rfl rfl ?_
      refine zi_aaldA X 4 (by first | assumption | exact mup_self | (rw [mup_ne (by assumption)]; assumption) | (rw [mup_ne (by assumption)]; exact mup_self) | (rw [mup_ne (by assumption), mup_ne (by assumption)]; assumption)) rfl (vin t5 (by decide)) (sl4_at t5) dX7_checksum_21 ?_
      refine zi_astore X dX7_checksum_22 (by decide) ?_
      refine zi_aload X dX7_checksum_24 rfl ?_
      refine zi_alen X 0 (by first | assumption | exact mup_self | (rw [mup_ne (by assumption)]; assumption) | (rw [mup_ne (by assumption)]; exact mup_self) | (rw [mup_ne (by assumption), mup_ne (by assumption)]; assumption)) rfl (show Int32.ofNat 7 = nI 7 from rfl) dX7_checksum_26 ?_
      refine zi_istore X dX7_checksum_27 (by decide) ?_
      refine zi_iconst (v := (nI 0)) X dX7_checksum_29 (by decide) ?_
      refine zi_istore X dX7_checksum_30 (by decide) ?_
      have inner : ∀ m2 u L7, u + m2 = 7 → zM z 0 0 32 [some (.ref (M 3 0)), some (.long (lI (csR (Sl t) u (csS Sl t)))), none, some (.int (nI t)), some (.ref (M 4 t)), some (.int (nI 7)), some (.int (nI u)), L7] [] g := by
        intro m2
        induction m2 with
        | zero =>
          intro u L7 hu7
          obtain rfl : u = 7 := by omega
          refine zi_iload X dX7_checksum_32 rfl ?_
          refine zi_iload X dX7_checksum_34 rfl ?_
          refine zi_icmp_ge (tgt := 62) X dX7_checksum_36 (by decide) (fun c_36 => ?_) (fun c_36 => (by first | exact absurd (by decide) c_36 | exact absurd c_36 (by decide)))
          refine zi_iinc (v := nI (t + 1)) X dX7_checksum_62 rfl (nI_inc _) (by decide) ?_
          refine zi_goto (tgt := 11) X dX7_checksum_65 (by decide) ?_
          exact ih (t + 1) (by omega) _ _ _ _
        | succ m2 ih2 =>
          intro u L7 hu7
          have u7 : u < 7 := by omega
          have hbu := hb t u t5 u7
          refine zi_iload X dX7_checksum_32 rfl ?_
          refine zi_iload X dX7_checksum_34 rfl ?_
          refine zi_icmp_ge (tgt := 62) X dX7_checksum_36 (by decide) (fun c_36 => (by first | exact absurd (c7 u7) c_36 | exact absurd c_36 (c7 u7))) (fun c_36 => ?_)
          refine zi_aload X dX7_checksum_39 rfl ?_
          refine zi_iload X dX7_checksum_41 rfl ?_
          refine zi_iald X 0 (by first | assumption | exact mup_self | (rw [mup_ne (by assumption)]; assumption) | (rw [mup_ne (by assumption)]; exact mup_self) | (rw [mup_ne (by assumption), mup_ne (by assumption)]; assumption)) rfl (vin u7 (by decide)) dX7_checksum_43 ?_
          refine zi_istore X dX7_checksum_44 (by decide) ?_
          rw [slot_rd u7]
          refine zi_ldc2_w X wK_X7_308 dX7_checksum_46 ?_
          refine zi_lload_n X dX7_checksum_49 rfl rfl ?_
          rw [l31]
          refine zi_lmul X dX7_checksum_50 ?_
          rw [lI_mul]
          refine zi_iload X dX7_checksum_51 rfl ?_
          refine zi_i2l X dX7_checksum_53 ?_
          rw [iI_lI (v := Sl t u) (by omega)]
          refine zi_ladd X dX7_checksum_54 ?_
          rw [lI_add]
          refine zi_lstore_n X dX7_checksum_55 rfl (by decide) ?_
          refine zi_iinc (v := nI (u + 1)) X dX7_checksum_56 rfl (nI_inc _) (by decide) ?_
          refine zi_goto (tgt := 32) X dX7_checksum_59 (by decide) ?_
          exact ih2 (u + 1) _ (by omega)
      exact inner 7 0 _ rfl
  exact outer 5 0 rfl _ _ _ _
end CK
