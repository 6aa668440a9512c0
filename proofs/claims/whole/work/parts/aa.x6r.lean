/-! SturmRoots: isTrue, checksum -/
/-- what isTrue tells of a polynomial that isn't zero -/
def tru (p : Nat → Int) : Prop :=
  (stC (sqfP p) (-32768) 0 : Int) - stC (sqfP p) 32768 0 = dR p ∧ (stC (sqfP p) (-32768) 0 : Int) - stC (sqfP p) 32768 0 ≤ sDeg (sqfP p) ∧ 0 ≤ (cS (sqfP p) : Int) - ((stC (sqfP p) 0 0 : Int) - stC (sqfP p) 32768 0) ∧ ((cS (sqfP p) : Int) - ((stC (sqfP p) 0 0 : Int) - stC (sqfP p) 32768 0)) % 2 = 0
/-- the checksum's part of the slots -/
def csR (s : Nat → Int) : Nat → Int → Int
  | 0, c => c
  | k + 1, c => 31 * csR s k c + s k
def csS (Sl : Nat → Nat → Int) : Nat → Int
  | 0 => 7
  | k + 1 => csR (Sl k) 7 (csS Sl k)
def csV (V : Nat → Iv) : Nat → Int → Int
  | 0, c => c
  | k + 1, c => 31 * (31 * (31 * (31 * csV V k c + (V k).1) + (V k).2.1) + (V k).2.2.1) + (V k).2.2.2
def csA (A : AState) : Int := csV A.2.2.1 A.2.1 (31 * csS A.1 5 + A.2.1)
section X6R
variable {cA : Nat → ClassId} {D : va_G} {S : Nat → Nat → Nat} {h : mH} {x sl rw is lst n : Nat} {sa : Nat → Nat} {Sl : Nat → Nat → Int} {V : Nat → Iv} {src : Nat → Int} {l : Launch} {T : Nat → Prop} {P : Nat → Nat → Int} {G Ln : Nat → Nat}
theorem x_checksum (hA : aOk (Sl, n, V, src)) (hw : isW cA D S (x, sl, rw, is, lst, sa) h (Sl, n, V, src)) :
    mCl l yX6_checksum cX6_checksum 6 (rmd 5) D (mT cA) [.ref x] h (fun r h1 => h1 = h ∧ r = lI (csA (Sl, n, V, src))) := by
  obtain ⟨T, P, G, Ln, hw⟩ := hw
  obtain ⟨hx, hsl, hsa, hr, ho⟩ := isWT_own hw
  have hbb := hw.2.2.1.2.2.2.2.2.1
  have i0 := hw.2.1.1
  have hn : n ≤ 1035 := hA.1
  have l31 : (31 : Int64) = lI 31 := rfl
  refine mEnter_l (by decide) (Nat.le_of_ble_eq_true rfl) rfl (fun z X Vz => ?_)
  refine zi_ldc2_w X wK_X6_246 dX6_checksum_0 ?_
  refine zi_lstore_n X dX6_checksum_3 rfl (by decide) ?_
  refine zi_iconst (v := (nI 0)) X dX6_checksum_4 (by decide) ?_
  refine zi_istore_n X dX6_checksum_5 rfl (by decide) ?_
  rw [show (7 : Int64) = lI (csS Sl 0) from rfl]
  have outer : ∀ m t, t + m = 5 → ∀ L4 L5, zM z 0 0 6 [some (.ref x), some (.long (lI (csS Sl t))), none, some (.int (nI t)), L4, L5] [] h := by
    intro m
    induction m with
    | zero =>
      intro t ht L4 L5
      have : t = 5 := by omega
      subst this
      have c8 : nI 5 ≤ nI 5 := by decide
      obtain ⟨e, cap, mc, f, hs⟩ := iso_lsize hw.2.1
      refine zi_iload_n X dX6_checksum_6 rfl rfl ?_
      refine zi_iconst (v := (nI 5)) X dX6_checksum_7 (by decide) ?_
      refine zi_icmp_ge (tgt := 50) X dX6_checksum_8 (by decide) (fun c_8 => ?_) (fun c_8 => (by first | exact absurd c8 c_8 | exact absurd c_8 c8))
      refine zi_aload_n X dX6_checksum_50 rfl rfl ?_
      refine zi_getf (C := RX6) (T := TX6) (N := 8) (ci := 10) X (by first | assumption | exact mup_self | (rw [mup_ne (by assumption)]; assumption) | (rw [mup_ne (by assumption)]; exact mup_self) | (rw [mup_ne (by assumption), mup_ne (by assumption)]; assumption)) rfl in_X6 7 (by decide) wf_X6_50 rfl rfl dX6_checksum_51 ?_
      refine zi_getf (C := RX3) (T := TX3) (N := 4) (ci := 7) X (by first | assumption | exact mup_self | (rw [mup_ne (by assumption)]; assumption) | (rw [mup_ne (by assumption)]; exact mup_self) | (rw [mup_ne (by assumption), mup_ne (by assumption)]; assumption)) rfl in_X3 1 (by decide) wf_X6_182 rfl rfl dX6_checksum_54 ?_
      refine zi_callVi X (al_size l D hs) kc_Jx4a65c_size_8abf5 wm_X6_186 hs.1 rfl wim_Jx4a65c_size_8abf5 wse_Jx4a65c_size_8abf5 ⟨Nat.le_of_ble_eq_true rfl, Nat.le_of_ble_eq_true rfl⟩ rfl rfl (Nat.le_of_ble_eq_true rfl) ⟨Nat.le_of_ble_eq_true rfl, Nat.le_of_ble_eq_true rfl⟩ dX6_checksum_57 (fun y g e1 => ?_)
      obtain ⟨rfl, rfl⟩ := e1
      refine zi_istore_n X dX6_checksum_60 rfl (by decide) ?_
      refine zi_ldc2_w X wK_X6_248 dX6_checksum_61 ?_
      refine zi_lload_n X dX6_checksum_64 rfl rfl ?_
      refine zi_lmul X dX6_checksum_65 ?_
      rw [l31, lI_mul]
      refine zi_iload_n X dX6_checksum_66 rfl rfl ?_
      refine zi_i2l X dX6_checksum_67 ?_
      rw [nn_l n (by omega)]
      refine zi_ladd X dX6_checksum_68 ?_
      rw [lI_add]
      refine zi_lstore_n X dX6_checksum_69 rfl (by decide) ?_
      refine zi_iconst (v := (nI 0)) X dX6_checksum_70 (by decide) ?_
      refine zi_istore X dX6_checksum_71 (by decide) ?_
      have iv : ∀ m t, t + m = n → ∀ L5, zM z 0 0 73 [some (.ref x), some (.long (lI (csV V t (31 * csS Sl 5 + n)))), none, some (.int (nI n)), some (.int (nI t)), L5] [] g := by
        intro m
        induction m with
        | zero =>
          intro t ht L5
          have : t = n := by omega
          subst this
          have c76 : nI t ≤ nI t := Int32.le_refl _
          refine zi_iload X dX6_checksum_73 rfl ?_
          refine zi_iload_n X dX6_checksum_75 rfl rfl ?_
          refine zi_icmp_ge (tgt := 154) X dX6_checksum_76 (by decide) (fun c_76 => ?_) (fun c_76 => (by first | exact absurd c76 c_76 | exact absurd c_76 c76))
          refine zi_lload_n X dX6_checksum_154 rfl rfl ?_
          refine zi_lreturn X Vz dX6_checksum_155 ?_
          exact ⟨rfl, rfl⟩
        | succ m ih =>
          intro t ht L5
          have c76 : ¬ nI n ≤ nI t := Int32.not_le.mpr ((nI_ltI (by omega) (by omega)).mpr (by omega))
          obtain ⟨r, e, cap, mc, f, hs, hf, hr, -⟩ := iso_at hw.2.1 (i := t) (by omega)
          have hv : ivOk (V t) := hA.2.2 t (show t < n by omega)
          have hvb := iv_b hv
          have hk := hv.1
          have hv4 := hv.2.2.2
          refine zi_iload X dX6_checksum_73 rfl ?_
          refine zi_iload_n X dX6_checksum_75 rfl rfl ?_
          refine zi_icmp_ge (tgt := 154) X dX6_checksum_76 (by decide) (fun c_76 => (by first | exact absurd c76 c_76 | exact absurd c_76 c76)) (fun c_76 => ?_)
          refine zi_aload_n X dX6_checksum_79 rfl rfl ?_
          refine zi_getf (C := RX6) (T := TX6) (N := 8) (ci := 10) X (by first | assumption | exact mup_self | (rw [mup_ne (by assumption)]; assumption) | (rw [mup_ne (by assumption)]; exact mup_self) | (rw [mup_ne (by assumption), mup_ne (by assumption)]; assumption)) rfl in_X6 7 (by decide) wf_X6_50 rfl rfl dX6_checksum_80 ?_
          refine zi_getf (C := RX3) (T := TX3) (N := 4) (ci := 7) X (by first | assumption | exact mup_self | (rw [mup_ne (by assumption)]; assumption) | (rw [mup_ne (by assumption)]; exact mup_self) | (rw [mup_ne (by assumption), mup_ne (by assumption)]; assumption)) rfl in_X3 1 (by decide) wf_X6_182 rfl rfl dX6_checksum_83 ?_
          refine zi_iload X dX6_checksum_86 rfl ?_
          refine zi_callVr X (al_get l D hs (by omega) hf) kc_Jx4a65c_get_915e3 wm_X6_194 hs.1 rfl wim_Jx4a65c_get_915e3 wse_Jx4a65c_get_915e3 ⟨Nat.le_of_ble_eq_true rfl, Nat.le_of_ble_eq_true rfl⟩ rfl rfl (Nat.le_of_ble_eq_true rfl) ⟨Nat.le_of_ble_eq_true rfl, Nat.le_of_ble_eq_true rfl⟩ dX6_checksum_88 (fun y g2 e1 => ?_)
          obtain ⟨rfl, rfl⟩ := e1
          refine zi_cast (C := RX2) (T := TX2) (N := 4) (ci := 6) X wc_X6_198 (by first | assumption | exact mup_self | (rw [mup_ne (by assumption)]; assumption) | (rw [mup_ne (by assumption)]; exact mup_self) | (rw [mup_ne (by assumption), mup_ne (by assumption)]; assumption)) rfl dX6_checksum_91 ?_
          refine zi_astore X dX6_checksum_94 (by decide) ?_
          refine zi_ldc2_w X wK_X6_248 dX6_checksum_96 ?_
          refine zi_lload_n X dX6_checksum_99 rfl rfl ?_
          rw [l31]
          refine zi_lmul X dX6_checksum_100 ?_
          rw [lI_mul]
          refine zi_aload X dX6_checksum_101 rfl ?_
          refine zi_getf (C := RX2) (T := TX2) (N := 4) (ci := 6) X (by first | assumption | exact mup_self | (rw [mup_ne (by assumption)]; assumption) | (rw [mup_ne (by assumption)]; exact mup_self) | (rw [mup_ne (by assumption), mup_ne (by assumption)]; assumption)) rfl in_X2 0 (by decide) wf_X6_205 rfl rfl dX6_checksum_103 ?_
          refine zi_i2l X dX6_checksum_106 ?_
          rw [nn_l (V t).1 (by omega)]
          refine zi_ladd X dX6_checksum_107 ?_
          rw [lI_add]
          refine zi_lstore_n X dX6_checksum_108 rfl (by decide) ?_
          refine zi_ldc2_w X wK_X6_248 dX6_checksum_109 ?_
          rw [l31]
          refine zi_lload_n X dX6_checksum_112 rfl rfl ?_
          refine zi_lmul X dX6_checksum_113 ?_
          rw [lI_mul]
          refine zi_aload X dX6_checksum_114 rfl ?_
          refine zi_getf (C := RX2) (T := TX2) (N := 4) (ci := 6) X (by first | assumption | exact mup_self | (rw [mup_ne (by assumption)]; assumption) | (rw [mup_ne (by assumption)]; exact mup_self) | (rw [mup_ne (by assumption), mup_ne (by assumption)]; assumption)) rfl in_X2 1 (by decide) wf_X6_208 rfl rfl dX6_checksum_116 ?_
          refine zi_i2l X dX6_checksum_119 ?_
          rw [iI_lI (v := (V t).2.1) (by omega)]
          refine zi_ladd X dX6_checksum_120 ?_
          rw [lI_add]
          refine zi_lstore_n X dX6_checksum_121 rfl (by decide) ?_
          refine zi_ldc2_w X wK_X6_248 dX6_checksum_122 ?_
          rw [l31]
          refine zi_lload_n X dX6_checksum_125 rfl rfl ?_
          refine zi_lmul X dX6_checksum_126 ?_
          rw [lI_mul]
          refine zi_aload X dX6_checksum_127 rfl ?_
          refine zi_getf (C := RX2) (T := TX2) (N := 4) (ci := 6) X (by first | assumption | exact mup_self | (rw [mup_ne (by assumption)]; assumption) | (rw [mup_ne (by assumption)]; exact mup_self) | (rw [mup_ne (by assumption), mup_ne (by assumption)]; assumption)) rfl in_X2 2 (by decide) wf_X6_211 rfl rfl dX6_checksum_129 ?_
          refine zi_i2l X dX6_checksum_132 ?_
          rw [iI_lI (v := (V t).2.2.1) (by omega)]
          refine zi_ladd X dX6_checksum_133 ?_
          rw [lI_add]
          refine zi_lstore_n X dX6_checksum_134 rfl (by decide) ?_
          refine zi_ldc2_w X wK_X6_248 dX6_checksum_135 ?_
          rw [l31]
          refine zi_lload_n X dX6_checksum_138 rfl rfl ?_
          refine zi_lmul X dX6_checksum_139 ?_
          rw [lI_mul]
          refine zi_aload X dX6_checksum_140 rfl ?_
          refine zi_getf (C := RX2) (T := TX2) (N := 4) (ci := 6) X (by first | assumption | exact mup_self | (rw [mup_ne (by assumption)]; assumption) | (rw [mup_ne (by assumption)]; exact mup_self) | (rw [mup_ne (by assumption), mup_ne (by assumption)]; assumption)) rfl in_X2 3 (by decide) wf_X6_200 rfl rfl dX6_checksum_142 ?_
          refine zi_i2l X dX6_checksum_145 ?_
          rw [iI_lI (v := (V t).2.2.2) (by omega)]
          refine zi_ladd X dX6_checksum_146 ?_
          rw [lI_add]
          refine zi_lstore_n X dX6_checksum_147 rfl (by decide) ?_
          refine zi_iinc (v := nI (t + 1)) X dX6_checksum_148 rfl (nI_inc _) (by decide) ?_
          refine zi_goto (tgt := 73) X dX6_checksum_151 (by decide) ?_
          exact ih (t + 1) (by omega) _
      exact iv n 0 (Nat.zero_add n) _
    | succ m ih =>
      intro t ht L4 L5
      have c8 : ¬ nI 5 ≤ nI t := Int32.not_le.mpr ((nI_ltI (by omega) (by decide)).mpr (by omega))
      have ht5 : t < 5 := by omega
      refine zi_iload_n X dX6_checksum_6 rfl rfl ?_
      refine zi_iconst (v := (nI 5)) X dX6_checksum_7 (by decide) ?_
      refine zi_icmp_ge (tgt := 50) X dX6_checksum_8 (by decide) (fun c_8 => (by first | exact absurd c8 c_8 | exact absurd c_8 c8)) (fun c_8 => ?_)
      refine zi_iconst (v := (nI 0)) X dX6_checksum_11 (by decide) ?_
      refine zi_istore X dX6_checksum_12 (by decide) ?_
      have inner : ∀ m2 u, u + m2 = 7 → zM z 0 0 14 [some (.ref x), some (.long (lI (csR (Sl t) u (csS Sl t)))), none, some (.int (nI t)), some (.int (nI u)), L5] [] h := by
        intro m2
        induction m2 with
        | zero =>
          intro u hu
          have : u = 7 := by omega
          subst this
          have c18 : nI 7 ≤ nI 7 := by decide
          refine zi_iload X dX6_checksum_14 rfl ?_
          refine zi_bipush (v := (nI 7)) X dX6_checksum_16 (by decide) ?_
          refine zi_icmp_ge (tgt := 44) X dX6_checksum_18 (by decide) (fun c_18 => ?_) (fun c_18 => (by first | exact absurd c18 c_18 | exact absurd c_18 c18))
          refine zi_iinc (v := nI (t + 1)) X dX6_checksum_44 rfl (nI_inc _) (by decide) ?_
          refine zi_goto (tgt := 6) X dX6_checksum_47 (by decide) ?_
          exact ih (t + 1) (by omega) _ _
        | succ m2 ih2 =>
          intro u hu
          have k3 := hsa t ht5
          have hin : vp_in (nI u) 7 := vin (by omega) (by decide)
          refine zi_iload X dX6_checksum_14 rfl ?_
          refine zi_bipush (v := (nI 7)) X dX6_checksum_16 (by decide) ?_
          refine zi_icmp_ge (tgt := 44) X dX6_checksum_18 (by decide) (fun c_18 => (by first | exact absurd (c7 (by omega)) c_18 | exact absurd c_18 (c7 (by omega)))) (fun c_18 => ?_)
          refine zi_ldc2_w X wK_X6_248 dX6_checksum_21 ?_
          rw [l31]
          refine zi_lload_n X dX6_checksum_24 rfl rfl ?_
          refine zi_lmul X dX6_checksum_25 ?_
          rw [lI_mul]
          refine zi_aload_n X dX6_checksum_26 rfl rfl ?_
          refine zi_getf (C := RX6) (T := TX6) (N := 8) (ci := 10) X (by first | assumption | exact mup_self | (rw [mup_ne (by assumption)]; assumption) | (rw [mup_ne (by assumption)]; exact mup_self) | (rw [mup_ne (by assumption), mup_ne (by assumption)]; assumption)) rfl in_X6 0 (by decide) wf_X6_11 rfl rfl dX6_checksum_27 ?_
          refine zi_iload_n X dX6_checksum_30 rfl rfl ?_
          refine zi_aaldA X 4 (by first | assumption | exact mup_self | (rw [mup_ne (by assumption)]; assumption) | (rw [mup_ne (by assumption)]; exact mup_self) | (rw [mup_ne (by assumption), mup_ne (by assumption)]; assumption)) rfl (vin ht5 (by decide)) (sl_at ht5) dX6_checksum_31 ?_
          refine zi_iload X dX6_checksum_32 rfl ?_
          refine zi_iald X 0 (by first | assumption | exact mup_self | (rw [mup_ne (by assumption)]; assumption) | (rw [mup_ne (by assumption)]; exact mup_self) | (rw [mup_ne (by assumption), mup_ne (by assumption)]; assumption)) rfl (by assumption) dX6_checksum_34 ?_
          rw [slot_rd (by omega : u < 7)]
          refine zi_i2l X dX6_checksum_35 ?_
          rw [iI_lI (by have := hbb t u ht5 (by omega); omega)]
          refine zi_ladd X dX6_checksum_36 ?_
          rw [lI_add]
          refine zi_lstore_n X dX6_checksum_37 rfl (by decide) ?_
          refine zi_iinc (v := nI (u + 1)) X dX6_checksum_38 rfl (nI_inc _) (by decide) ?_
          refine zi_goto (tgt := 14) X dX6_checksum_41 (by decide) ?_
          exact ih2 (u + 1) (by omega)
      exact inner 7 0 rfl
  exact outer 5 0 rfl _ _
theorem i_rem2 {v : Int} (h0 : 0 ≤ v) (hv : v < 1000000) : iI v - iI v / nI 2 * nI 2 = iI (v % 2) := by
  obtain ⟨u, rfl⟩ := Int.eq_ofNat_of_zero_le h0
  have h1 := fa_rem (a := u) (k := 1) (by omega) (by decide)
  rw [show (2 : Nat) ^ 1 = 2 from rfl] at h1
  show nI u - nI u / nI 2 * nI 2 = _
  rw [h1, iI_nat]
  congr 1
theorem x_isTrue (hl : l.stackTraces = false) (hz : SzAll) (hw : isW cA D S (x, sl, rw, is, lst, sa) h (Sl, n, V, src)) {a : Int32} :
    mCx l yX6_isTrue cX6_isTrue 7 (some .boolean) (rmc 8 1 6) D (mT cA) [.ref x, .int a] h (mFi h (fun r h1 => ∃ i, i < 5 ∧ a = nI i ∧ (r = nI 1 ∨ r = nI 0) ∧ (r = nI 1 ↔ stI (Sl i) 7 = 0 ∨ tru (Sl i)) ∧ isW cA D S (x, sl, rw, is, lst, sa) h1 (Sl, n, V, src)))
      (fun E h1 => h1 = h ∧ E = eI ∧ ¬ inR a 5) := by
  have hw0 := hw
  obtain ⟨T, P, G, Ln, hw⟩ := hw
  refine mEnter_x (by decide) (Nat.le_of_ble_eq_true rfl) rfl (fun z X Vz => ?_)
  refine zi_iload_n X dX6_isTrue_0 rfl rfl ?_
  refine zi_xcallSv X (x_requireSlot hl) kc_X6_requireSlot wm_X6_54 wst_X6_requireSlot ⟨Nat.le_of_ble_eq_true rfl, Nat.le_of_ble_eq_true rfl⟩ rfl rfl (Nat.le_of_ble_eq_true rfl) ⟨Nat.le_of_ble_eq_true rfl, Nat.le_of_ble_eq_true rfl⟩ dX6_isTrue_1 (fun E g e1 => zt_out X Vz (by obtain ⟨e1, e2, e3⟩ := e1; exact ⟨e2, e1, e3⟩) (by decide) (by decide)) (fun g e1 => ?_)
  obtain ⟨rfl, i, hi, rfl⟩ := e1
  have hbi := isWT_b hw hi
  obtain ⟨hx, hsl, hsa, hr, ho⟩ := isWT_own hw
  have k3 := hsa i hi
  have hle := stI_le (Sl i) 7
  refine zi_aload_n X dX6_isTrue_4 rfl rfl ?_
  refine zi_getf (C := RX6) (T := TX6) (N := 8) (ci := 10) X (by first | assumption | exact mup_self | (rw [mup_ne (by assumption)]; assumption) | (rw [mup_ne (by assumption)]; exact mup_self) | (rw [mup_ne (by assumption), mup_ne (by assumption)]; assumption)) rfl in_X6 0 (by decide) wf_X6_11 rfl rfl dX6_isTrue_5 ?_
  refine zi_iload_n X dX6_isTrue_8 rfl rfl ?_
  refine zi_aaldA X 4 (by first | assumption | exact mup_self | (rw [mup_ne (by assumption)]; assumption) | (rw [mup_ne (by assumption)]; exact mup_self) | (rw [mup_ne (by assumption), mup_ne (by assumption)]; assumption)) rfl (vin hi (by decide)) (sl_at hi) dX6_isTrue_9 ?_
  refine zi_callSi X (x_degreeOf l D k3 hbi.1) kc_X6_degreeOf wm_X6_68 wst_X6_degreeOf ⟨Nat.le_of_ble_eq_true rfl, Nat.le_of_ble_eq_true rfl⟩ rfl rfl (Nat.le_of_ble_eq_true rfl) ⟨Nat.le_of_ble_eq_true rfl, Nat.le_of_ble_eq_true rfl⟩ dX6_isTrue_10 (fun y g1 e1 => ?_)
  obtain ⟨rfl, rfl⟩ := e1
  rw [sDeg_I]
  by_cases c : stI (Sl i) 7 = 0
  · have c13 : ¬ 0 ≤ nI (stI (Sl i) 7) - nI 1 := Int32.not_le.mpr ((dI_neg (by omega)).mpr c)
    refine zi_if_ge (tgt := 18) X dX6_isTrue_13 (by decide) (fun c_13 => (by first | exact absurd c13 c_13 | exact absurd c_13 c13)) (fun c_13 => ?_)
    refine zi_iconst (v := (nI 1)) X dX6_isTrue_16 (by decide) ?_
    refine zi_xzreturn X Vz rfl dX6_isTrue_17 ?_
    exact ⟨i, hi, rfl, Or.inl rfl, ⟨fun _ => Or.inl c, fun _ => rfl⟩, hw0⟩
  have c13 : 0 ≤ nI (stI (Sl i) 7) - nI 1 := Int32.not_lt.mp (fun w => c ((dI_neg (by omega)).mp w))
  have ok := (hz.1 _ hbi c).2.1
  obtain ⟨F, H, d1, d2, d3⟩ := ok.2.2.1.2.2
  have n1 : (Int32.toInt (-32768)) = -32768 := by decide
  have n2 : (Int32.toInt 32768) = 32768 := by decide
  have n0 : (nI 0).toInt = 0 := by decide
  have m1 : (Int32.toInt (-32768)).natAbs ≤ 2 ^ 29 := by decide
  have m2 : (Int32.toInt 32768).natAbs ≤ 2 ^ 29 := by decide
  have m0 : (nI 0).toInt.natAbs ≤ 2 ^ 29 := by decide
  refine zi_if_ge (tgt := 18) X dX6_isTrue_13 (by decide) (fun c_13 => ?_) (fun c_13 => (by first | exact absurd c13 c_13 | exact absurd c_13 c13))
  refine zi_aload_n X dX6_isTrue_18 rfl rfl ?_
  refine zi_iload_n X dX6_isTrue_19 rfl rfl ?_
  refine zi_callVv X (x_buildSequence l hz hw hi c) kc_X6_buildSequence wm_X6_113 hx rfl wim_X6_buildSequence wse_X6_buildSequence ⟨Nat.le_of_ble_eq_true rfl, Nat.le_of_ble_eq_true rfl⟩ rfl rfl (Nat.le_of_ble_eq_true rfl) ⟨Nat.le_of_ble_eq_true rfl, Nat.le_of_ble_eq_true rfl⟩ dX6_isTrue_20 (fun g2 e1 => ?_)
  obtain ⟨P2, G2, L2, hw2, p0, g0', sq⟩ := e1
  have hx2 := hw2.2.2.1.1
  have oE := sq_ok sq ok.2.1
  refine zi_aload_n X dX6_isTrue_23 rfl rfl ?_
  refine zi_getf (C := RX6) (T := TX6) (N := 8) (ci := 10) X (by first | assumption | exact mup_self | (rw [mup_ne (by assumption)]; assumption) | (rw [mup_ne (by assumption)]; exact mup_self) | (rw [mup_ne (by assumption), mup_ne (by assumption)]; assumption)) rfl in_X6 2 (by decide) wf_X6_21 rfl rfl dX6_isTrue_24 ?_
  refine zi_aload_n X dX6_isTrue_27 rfl rfl ?_
  refine zi_getf (C := RX6) (T := TX6) (N := 8) (ci := 10) X (by first | assumption | exact mup_self | (rw [mup_ne (by assumption)]; assumption) | (rw [mup_ne (by assumption)]; exact mup_self) | (rw [mup_ne (by assumption), mup_ne (by assumption)]; assumption)) rfl in_X6 6 (by decide) wf_X6_41 rfl rfl dX6_isTrue_28 ?_
  refine zi_sipush (v := (-32768)) X dX6_isTrue_31 (by decide) ?_
  refine zi_iconst (v := (nI 0)) X dX6_isTrue_34 (by decide) ?_
  refine zi_callVi X (q_changesAt l D hw2.1 (q := 0) (k := 0) (M := MS) (X := 2 ^ 29) (by decide) oE m1 (by omega) (by decide) X_BB MS_X) kc_X0_changesAt wm_X6_144 (hP_a hw2.1) rfl wim_X0_changesAt wse_X0_changesAt ⟨Nat.le_of_ble_eq_true rfl, Nat.le_of_ble_eq_true rfl⟩ rfl rfl (Nat.le_of_ble_eq_true rfl) ⟨Nat.le_of_ble_eq_true rfl, Nat.le_of_ble_eq_true rfl⟩ dX6_isTrue_35 (fun y g3 e1 => ?_)
  obtain ⟨f3, h3, rfl⟩ := e1
  have hw3 := isWT_alg hw2 f3 h3 hw2.2.2.2.1 hw2.2.2.2.2.2
  have hx3 := hw3.2.2.1.1
  rw [sq_C sq, n1]
  refine zi_aload_n X dX6_isTrue_38 rfl rfl ?_
  refine zi_getf (C := RX6) (T := TX6) (N := 8) (ci := 10) X (by first | assumption | exact mup_self | (rw [mup_ne (by assumption)]; assumption) | (rw [mup_ne (by assumption)]; exact mup_self) | (rw [mup_ne (by assumption), mup_ne (by assumption)]; assumption)) rfl in_X6 2 (by decide) wf_X6_21 rfl rfl dX6_isTrue_39 ?_
  refine zi_aload_n X dX6_isTrue_42 rfl rfl ?_
  refine zi_getf (C := RX6) (T := TX6) (N := 8) (ci := 10) X (by first | assumption | exact mup_self | (rw [mup_ne (by assumption)]; assumption) | (rw [mup_ne (by assumption)]; exact mup_self) | (rw [mup_ne (by assumption), mup_ne (by assumption)]; assumption)) rfl in_X6 6 (by decide) wf_X6_41 rfl rfl dX6_isTrue_43 ?_
  refine zi_ldc X wk_X6_170 dX6_isTrue_46 ?_
  refine zi_iconst (v := (nI 0)) X dX6_isTrue_48 (by decide) ?_
  refine zi_callVi X (q_changesAt l D hw3.1 (q := 0) (k := 0) (M := MS) (X := 2 ^ 29) (by decide) oE m2 (by omega) (by decide) X_BB MS_X) kc_X0_changesAt wm_X6_144 (hP_a hw3.1) rfl wim_X0_changesAt wse_X0_changesAt ⟨Nat.le_of_ble_eq_true rfl, Nat.le_of_ble_eq_true rfl⟩ rfl rfl (Nat.le_of_ble_eq_true rfl) ⟨Nat.le_of_ble_eq_true rfl, Nat.le_of_ble_eq_true rfl⟩ dX6_isTrue_49 (fun y g4 e1 => ?_)
  obtain ⟨f4, h4, rfl⟩ := e1
  have hw4 := isWT_alg hw3 f4 h4 hw3.2.2.2.1 hw3.2.2.2.2.2
  have hx4 := hw4.2.2.1.1
  rw [sq_C sq, n2]
  refine zi_isub X dX6_isTrue_52 ?_
  rw [nn_sub]
  refine zi_istore_n X dX6_isTrue_53 rfl (by decide) ?_
  refine zi_aload_n X dX6_isTrue_54 rfl rfl ?_
  refine zi_getf (C := RX6) (T := TX6) (N := 8) (ci := 10) X (by first | assumption | exact mup_self | (rw [mup_ne (by assumption)]; assumption) | (rw [mup_ne (by assumption)]; exact mup_self) | (rw [mup_ne (by assumption), mup_ne (by assumption)]; assumption)) rfl in_X6 2 (by decide) wf_X6_21 rfl rfl dX6_isTrue_55 ?_
  refine zi_aload_n X dX6_isTrue_58 rfl rfl ?_
  refine zi_getf (C := RX6) (T := TX6) (N := 8) (ci := 10) X (by first | assumption | exact mup_self | (rw [mup_ne (by assumption)]; assumption) | (rw [mup_ne (by assumption)]; exact mup_self) | (rw [mup_ne (by assumption), mup_ne (by assumption)]; assumption)) rfl in_X6 3 (by decide) wf_X6_28 rfl rfl dX6_isTrue_59 ?_
  refine zi_aload_n X dX6_isTrue_62 rfl rfl ?_
  refine zi_getf (C := RX6) (T := TX6) (N := 8) (ci := 10) X (by first | assumption | exact mup_self | (rw [mup_ne (by assumption)]; assumption) | (rw [mup_ne (by assumption)]; exact mup_self) | (rw [mup_ne (by assumption), mup_ne (by assumption)]; assumption)) rfl in_X6 5 (by decide) wf_X6_35 rfl rfl dX6_isTrue_63 ?_
  refine zi_callVv X (q_writeSquareFree l D h4 (a := 0) (c := 2) (F := F) (H := H) (by decide) (by decide) (by decide) (by rw [g0', p0]) (hw4.2.2.2.2.2 2 (by decide)) (by rw [p0]; exact ok.1.1) (by rw [p0]; exact ok.1.2.1) (by rw [p0]; exact ok.2.2.1.1) (by rw [p0, g0']; exact ok.2.2.1.2.1) (by rw [p0]; exact d1) (by rw [p0]; exact d2) (by rw [p0, g0']; exact d3)) kc_X0_writeSquareFree wm_X6_109 (hP_a h4) rfl wim_X0_writeSquareFree wse_X0_writeSquareFree ⟨Nat.le_of_ble_eq_true rfl, Nat.le_of_ble_eq_true rfl⟩ rfl rfl (Nat.le_of_ble_eq_true rfl) ⟨Nat.le_of_ble_eq_true rfl, Nat.le_of_ble_eq_true rfl⟩ dX6_isTrue_66 (fun g5 e1 => ?_)
  obtain ⟨f5, P5, G5, h5, u5, p5, q5⟩ := e1
  rw [p0] at p5 q5
  have hw5 := isWT_alg hw4 f5 h5 (isoK_up hw4.2.2.2.1 (fun k hk => u5 k (by simp; omega)) rfl) (g3_to hw4.2.2.2.2.2 u5 (fun k h1 h2 => by have : k = 2 := by { simp at h2; omega }; rw [this, q5, p5]))
  have hx5 := hw5.2.2.1.1
  refine zi_aload_n X dX6_isTrue_69 rfl rfl ?_
  refine zi_getf (C := RX6) (T := TX6) (N := 8) (ci := 10) X (by first | assumption | exact mup_self | (rw [mup_ne (by assumption)]; assumption) | (rw [mup_ne (by assumption)]; exact mup_self) | (rw [mup_ne (by assumption), mup_ne (by assumption)]; assumption)) rfl in_X6 2 (by decide) wf_X6_21 rfl rfl dX6_isTrue_70 ?_
  refine zi_aload_n X dX6_isTrue_73 rfl rfl ?_
  refine zi_getf (C := RX6) (T := TX6) (N := 8) (ci := 10) X (by first | assumption | exact mup_self | (rw [mup_ne (by assumption)]; assumption) | (rw [mup_ne (by assumption)]; exact mup_self) | (rw [mup_ne (by assumption), mup_ne (by assumption)]; assumption)) rfl in_X6 5 (by decide) wf_X6_35 rfl rfl dX6_isTrue_74 ?_
  refine zi_aload_n X dX6_isTrue_77 rfl rfl ?_
  refine zi_getf (C := RX6) (T := TX6) (N := 8) (ci := 10) X (by first | assumption | exact mup_self | (rw [mup_ne (by assumption)]; assumption) | (rw [mup_ne (by assumption)]; exact mup_self) | (rw [mup_ne (by assumption), mup_ne (by assumption)]; assumption)) rfl in_X6 6 (by decide) wf_X6_41 rfl rfl dX6_isTrue_78 ?_
  refine zi_callVv X (q_writeSturm l D h5 (q := 0) (a := 2) (by decide) ⟨by decide, Or.inl (by decide)⟩ (by rw [q5, p5]) (by rw [p5]; exact ok.2.2.2.1.1) (by rw [p5]; exact ok.2.2.2.1.2.1) (by rw [p5]; exact ok.2.2.2.1.2.2)) kc_X0_writeSturm wm_X6_159 (hP_a h5) rfl wim_X0_writeSturm wse_X0_writeSturm ⟨Nat.le_of_ble_eq_true rfl, Nat.le_of_ble_eq_true rfl⟩ rfl rfl (Nat.le_of_ble_eq_true rfl) ⟨Nat.le_of_ble_eq_true rfl, Nat.le_of_ble_eq_true rfl⟩ dX6_isTrue_81 (fun g6 e2 => ?_)
  obtain ⟨f6, P6, G6, mm, h6, b1, b2, b3⟩ := e2
  rw [p5] at b1 b3
  have hm := stLen_M b1
  subst hm
  have hw6 := isWT_alg hw5 f6 h6 (isoK_up hw5.2.2.2.1 (fun k hk => b2 k (Or.inr (show 10 ≤ k by omega))) (updN_n (by decide))) (fun k hk => by rw [(b2 k (Or.inl (show k < 3 by omega))).1, (b2 k (Or.inl (show k < 3 by omega))).2]; exact hw5.2.2.2.2.2 k hk)
  have sq6 : sqIs 0 (sqfP (Sl i)) P6 G6 (updN L2 0 (stM (sqfP (Sl i)))) := ⟨b1, updN_s, b3⟩
  have oE6 := sq_ok sq6 ok.2.2.2.2.1
  have hx6 := hw6.2.2.1.1
  have p62 : P6 2 = sqfP (Sl i) := by rw [(b2 2 (Or.inl (by decide))).1]; exact p5
  have g62 : G6 2 = stI (sqfP (Sl i)) 7 := by rw [(b2 2 (Or.inl (by decide))).2]; exact q5
  refine zi_aload_n X dX6_isTrue_84 rfl rfl ?_
  refine zi_getf (C := RX6) (T := TX6) (N := 8) (ci := 10) X (by first | assumption | exact mup_self | (rw [mup_ne (by assumption)]; assumption) | (rw [mup_ne (by assumption)]; exact mup_self) | (rw [mup_ne (by assumption), mup_ne (by assumption)]; assumption)) rfl in_X6 2 (by decide) wf_X6_21 rfl rfl dX6_isTrue_85 ?_
  refine zi_aload_n X dX6_isTrue_88 rfl rfl ?_
  refine zi_getf (C := RX6) (T := TX6) (N := 8) (ci := 10) X (by first | assumption | exact mup_self | (rw [mup_ne (by assumption)]; assumption) | (rw [mup_ne (by assumption)]; exact mup_self) | (rw [mup_ne (by assumption), mup_ne (by assumption)]; assumption)) rfl in_X6 6 (by decide) wf_X6_41 rfl rfl dX6_isTrue_89 ?_
  refine zi_ldc X wk_X6_170 dX6_isTrue_92 ?_
  refine zi_iconst (v := (nI 0)) X dX6_isTrue_94 (by decide) ?_
  refine zi_callVi X (q_changesAt l D h6 (q := 0) (k := 0) (M := MS) (X := 2 ^ 29) (by decide) oE6 m2 (by omega) (by decide) X_BB MS_X) kc_X0_changesAt wm_X6_144 (hP_a h6) rfl wim_X0_changesAt wse_X0_changesAt ⟨Nat.le_of_ble_eq_true rfl, Nat.le_of_ble_eq_true rfl⟩ rfl rfl (Nat.le_of_ble_eq_true rfl) ⟨Nat.le_of_ble_eq_true rfl, Nat.le_of_ble_eq_true rfl⟩ dX6_isTrue_95 (fun y g7 e1 => ?_)
  obtain ⟨f7, h7, rfl⟩ := e1
  have hw7 := isWT_alg hw6 f7 h7 hw6.2.2.2.1 hw6.2.2.2.2.2
  have hx7 := hw7.2.2.1.1
  rw [sq_C sq6, n2]
  refine zi_istore_n X dX6_isTrue_98 rfl (by decide) ?_
  refine zi_aload_n X dX6_isTrue_99 rfl rfl ?_
  refine zi_getf (C := RX6) (T := TX6) (N := 8) (ci := 10) X (by first | assumption | exact mup_self | (rw [mup_ne (by assumption)]; assumption) | (rw [mup_ne (by assumption)]; exact mup_self) | (rw [mup_ne (by assumption), mup_ne (by assumption)]; assumption)) rfl in_X6 2 (by decide) wf_X6_21 rfl rfl dX6_isTrue_100 ?_
  refine zi_aload_n X dX6_isTrue_103 rfl rfl ?_
  refine zi_getf (C := RX6) (T := TX6) (N := 8) (ci := 10) X (by first | assumption | exact mup_self | (rw [mup_ne (by assumption)]; assumption) | (rw [mup_ne (by assumption)]; exact mup_self) | (rw [mup_ne (by assumption), mup_ne (by assumption)]; assumption)) rfl in_X6 6 (by decide) wf_X6_41 rfl rfl dX6_isTrue_104 ?_
  refine zi_sipush (v := (-32768)) X dX6_isTrue_107 (by decide) ?_
  refine zi_iconst (v := (nI 0)) X dX6_isTrue_110 (by decide) ?_
  refine zi_callVi X (q_changesAt l D h7 (q := 0) (k := 0) (M := MS) (X := 2 ^ 29) (by decide) oE6 m1 (by omega) (by decide) X_BB MS_X) kc_X0_changesAt wm_X6_144 (hP_a h7) rfl wim_X0_changesAt wse_X0_changesAt ⟨Nat.le_of_ble_eq_true rfl, Nat.le_of_ble_eq_true rfl⟩ rfl rfl (Nat.le_of_ble_eq_true rfl) ⟨Nat.le_of_ble_eq_true rfl, Nat.le_of_ble_eq_true rfl⟩ dX6_isTrue_111 (fun y g8 e1 => ?_)
  obtain ⟨f8, h8, rfl⟩ := e1
  have hw8 := isWT_alg hw7 f8 h8 hw7.2.2.2.1 hw7.2.2.2.2.2
  have hx8 := hw8.2.2.1.1
  rw [sq_C sq6, n1]
  refine zi_iload_n X dX6_isTrue_114 rfl rfl ?_
  refine zi_isub X dX6_isTrue_115 ?_
  rw [nn_sub]
  refine zi_istore X dX6_isTrue_116 (by decide) ?_
  refine zi_aload_n X dX6_isTrue_118 rfl rfl ?_
  refine zi_getf (C := RX6) (T := TX6) (N := 8) (ci := 10) X (by first | assumption | exact mup_self | (rw [mup_ne (by assumption)]; assumption) | (rw [mup_ne (by assumption)]; exact mup_self) | (rw [mup_ne (by assumption), mup_ne (by assumption)]; assumption)) rfl in_X6 2 (by decide) wf_X6_21 rfl rfl dX6_isTrue_119 ?_
  refine zi_aload_n X dX6_isTrue_122 rfl rfl ?_
  refine zi_getf (C := RX6) (T := TX6) (N := 8) (ci := 10) X (by first | assumption | exact mup_self | (rw [mup_ne (by assumption)]; assumption) | (rw [mup_ne (by assumption)]; exact mup_self) | (rw [mup_ne (by assumption), mup_ne (by assumption)]; assumption)) rfl in_X6 6 (by decide) wf_X6_41 rfl rfl dX6_isTrue_123 ?_
  refine zi_iconst (v := (nI 0)) X dX6_isTrue_126 (by decide) ?_
  refine zi_iconst (v := (nI 0)) X dX6_isTrue_127 (by decide) ?_
  refine zi_callVi X (q_changesAt l D h8 (q := 0) (k := 0) (M := MS) (X := 2 ^ 29) (by decide) oE6 m0 (by omega) (by decide) X_BB MS_X) kc_X0_changesAt wm_X6_144 (hP_a h8) rfl wim_X0_changesAt wse_X0_changesAt ⟨Nat.le_of_ble_eq_true rfl, Nat.le_of_ble_eq_true rfl⟩ rfl rfl (Nat.le_of_ble_eq_true rfl) ⟨Nat.le_of_ble_eq_true rfl, Nat.le_of_ble_eq_true rfl⟩ dX6_isTrue_128 (fun y g9 e1 => ?_)
  obtain ⟨f9, h9, rfl⟩ := e1
  have hw9 := isWT_alg hw8 f9 h9 hw8.2.2.2.1 hw8.2.2.2.2.2
  have hx9 := hw9.2.2.1.1
  rw [sq_C sq6, n0]
  refine zi_iload_n X dX6_isTrue_131 rfl rfl ?_
  refine zi_isub X dX6_isTrue_132 ?_
  rw [nn_sub]
  refine zi_istore X dX6_isTrue_133 (by decide) ?_
  refine zi_aload_n X dX6_isTrue_135 rfl rfl ?_
  refine zi_getf (C := RX6) (T := TX6) (N := 8) (ci := 10) X (by first | assumption | exact mup_self | (rw [mup_ne (by assumption)]; assumption) | (rw [mup_ne (by assumption)]; exact mup_self) | (rw [mup_ne (by assumption), mup_ne (by assumption)]; assumption)) rfl in_X6 5 (by decide) wf_X6_35 rfl rfl dX6_isTrue_136 ?_
  have k9 := (hP_p h9 (j := 2) (by decide)).1
  rw [g62] at k9
  refine zi_callVi X (q_coefficientChanges l D h9 (j := 2) (by decide) (by rw [g62]; exact stI_le _ _)) kc_X4_coefficientChanges wm_X6_171 k9 rfl wim_X4_coefficientChanges wse_X4_coefficientChanges ⟨Nat.le_of_ble_eq_true rfl, Nat.le_of_ble_eq_true rfl⟩ rfl rfl (Nat.le_of_ble_eq_true rfl) ⟨Nat.le_of_ble_eq_true rfl, Nat.le_of_ble_eq_true rfl⟩ dX6_isTrue_139 (fun y g10 e1 => ?_)
  obtain ⟨rfl, e3⟩ := e1
  rw [p62, g62] at e3
  rw [show (chg (fun i_1 => (sqfP (Sl i) i_1).sign) (stI (sqfP (Sl i)) 7)).2 = cS (sqfP (Sl i)) from rfl] at e3
  subst e3
  refine zi_iload X dX6_isTrue_142 rfl ?_
  rw [iI_nat (cS (sqfP (Sl i)))]
  refine zi_isub X dX6_isTrue_144 ?_
  rw [iI_sub]
  refine zi_istore X dX6_isTrue_145 (by decide) ?_
  refine zi_iload X dX6_isTrue_147 rfl ?_
  refine zi_iload_n X dX6_isTrue_149 rfl rfl ?_
  have hl1 := stC_le b1 (-32768) 0
  have hl2 := stC_le b1 32768 0
  have hl3 := stC_le b1 0 0
  have hl4 := stC_le sq.1 (-32768) 0
  have hl5 := stC_le sq.1 32768 0
  have hl6 : cS (sqfP (Sl i)) ≤ 7 := Nat.le_trans (chg_le _ _) (stI_le _ _)
  have hl7 := stI_le (sqfP (Sl i)) 7
  have fin : ∀ (L : List (Option Value)) (r : Int32), ((r = nI 1 ∧ tru (Sl i)) ∨ (r = nI 0 ∧ ¬ tru (Sl i))) → zM z (0 + 1) (0 + 6) 182 L [.int r] g10 := by
    intro L r hr
    have hnw : narrow .boolean (.int r) = .int r := by rcases hr with ⟨rfl, _⟩ | ⟨rfl, _⟩ <;> rfl
    refine zi_xzreturn X Vz hnw dX6_isTrue_182 ?_
    refine ⟨i, hi, rfl, ?_, ?_, T, P6, G6, _, hw9⟩
    · rcases hr with hr | hr
      · exact Or.inl hr.1
      · exact Or.inr hr.1
    · rcases hr with ⟨rfl, hr⟩ | ⟨rfl, hr⟩
      · exact ⟨fun _ => Or.inr hr, fun _ => rfl⟩
      · exact ⟨fun w => absurd w (by decide), fun w => by
          rcases w with w | w
          · exact absurd w c
          · exact absurd w hr⟩
  have no : ∀ (L : List (Option Value)), ¬ tru (Sl i) → zM z (0 + 1) (0 + 6) 181 L [] g10 := by
    intro L hn
    refine zi_iconst (v := (nI 0)) X dX6_isTrue_181 (by decide) ?_
    exact fin L (nI 0) (Or.inr ⟨rfl, hn⟩)
  by_cases t1 : (stC (sqfP (Sl i)) (-32768) 0 : Int) - stC (sqfP (Sl i)) 32768 0 = dR (Sl i)
  rotate_left
  · have c150 : ¬ iI ((stC (sqfP (Sl i)) (-32768) 0 : Int) - stC (sqfP (Sl i)) 32768 0) = iI ((stC (Sl i) (-32768) 0 : Int) - stC (Sl i) 32768 0) := fun w => t1 ((iI_inj (by omega) (by omega) w).trans rfl)
    refine zi_icmp_ne (tgt := 181) X dX6_isTrue_150 (by decide) (fun c_150 => ?_) (fun c_150 => (by first | exact absurd c150 c_150 | exact absurd c_150 c150))
    exact no _ (fun w => t1 w.1)
  have c150 : ¬ ¬ iI ((stC (sqfP (Sl i)) (-32768) 0 : Int) - stC (sqfP (Sl i)) 32768 0) = iI ((stC (Sl i) (-32768) 0 : Int) - stC (Sl i) 32768 0) := fun w => w (by rw [t1]; rfl)
  refine zi_icmp_ne (tgt := 181) X dX6_isTrue_150 (by decide) (fun c_150 => (by first | exact absurd c150 c_150 | exact absurd c_150 c150)) (fun c_150 => ?_)
  refine zi_iload X dX6_isTrue_153 rfl ?_
  refine zi_aload_n X dX6_isTrue_155 rfl rfl ?_
  refine zi_getf (C := RX6) (T := TX6) (N := 8) (ci := 10) X (by first | assumption | exact mup_self | (rw [mup_ne (by assumption)]; assumption) | (rw [mup_ne (by assumption)]; exact mup_self) | (rw [mup_ne (by assumption), mup_ne (by assumption)]; assumption)) rfl in_X6 5 (by decide) wf_X6_35 rfl rfl dX6_isTrue_156 ?_
  refine zi_getf (C := RX4) (T := TX4) (N := 2) (ci := 8) X (by first | assumption | exact mup_self | (rw [mup_ne (by assumption)]; assumption) | (rw [mup_ne (by assumption)]; exact mup_self) | (rw [mup_ne (by assumption), mup_ne (by assumption)]; assumption)) rfl in_X4 1 (by decide) wf_X6_137 rfl rfl dX6_isTrue_159 ?_
  rw [← sDeg_I]
  have sb : (sDeg (sqfP (Sl i))).natAbs ≤ 7 := by unfold sDeg; omega
  by_cases t2 : (stC (sqfP (Sl i)) (-32768) 0 : Int) - stC (sqfP (Sl i)) 32768 0 ≤ sDeg (sqfP (Sl i))
  rotate_left
  · have c162 : iI (sDeg (sqfP (Sl i))) < iI ((stC (sqfP (Sl i)) (-32768) 0 : Int) - stC (sqfP (Sl i)) 32768 0) := by
      rw [fa_lt, iI_int (by omega), iI_int (by omega)]
      omega
    refine zi_icmp_gt (tgt := 181) X dX6_isTrue_162 (by decide) (fun c_162 => ?_) (fun c_162 => (by first | exact absurd c162 c_162 | exact absurd c_162 c162))
    exact no _ (fun w => t2 w.2.1)
  have c162 : ¬ iI (sDeg (sqfP (Sl i))) < iI ((stC (sqfP (Sl i)) (-32768) 0 : Int) - stC (sqfP (Sl i)) 32768 0) := by
    rw [fa_lt, iI_int (by omega), iI_int (by omega)]
    omega
  refine zi_icmp_gt (tgt := 181) X dX6_isTrue_162 (by decide) (fun c_162 => (by first | exact absurd c162 c_162 | exact absurd c_162 c162)) (fun c_162 => ?_)
  refine zi_iload X dX6_isTrue_165 rfl ?_
  have e0 : (0 : Int32).toInt = 0 := by decide
  by_cases t3 : 0 ≤ (cS (sqfP (Sl i)) : Int) - ((stC (sqfP (Sl i)) 0 0 : Int) - stC (sqfP (Sl i)) 32768 0)
  rotate_left
  · have c167 : iI ((cS (sqfP (Sl i)) : Int) - ((stC (sqfP (Sl i)) 0 0 : Int) - stC (sqfP (Sl i)) 32768 0)) < 0 := by
      rw [fa_lt, iI_int (by omega), e0]
      omega
    refine zi_if_lt (tgt := 181) X dX6_isTrue_167 (by decide) (fun c_167 => ?_) (fun c_167 => (by first | exact absurd c167 c_167 | exact absurd c_167 c167))
    exact no _ (fun w => t3 w.2.2.1)
  have c167 : ¬ iI ((cS (sqfP (Sl i)) : Int) - ((stC (sqfP (Sl i)) 0 0 : Int) - stC (sqfP (Sl i)) 32768 0)) < 0 := by
    rw [fa_lt, iI_int (by omega), e0]
    omega
  have ne2 : ¬ nI 2 = 0 := by decide
  refine zi_if_lt (tgt := 181) X dX6_isTrue_167 (by decide) (fun c_167 => (by first | exact absurd c167 c_167 | exact absurd c_167 c167)) (fun c_167 => ?_)
  refine zi_iload X dX6_isTrue_170 rfl ?_
  refine zi_iconst (v := (nI 2)) X dX6_isTrue_172 (by decide) ?_
  refine zi_irem X dX6_isTrue_173 (by assumption) ?_
  rw [i_rem2 t3 (by omega)]
  by_cases t4 : ((cS (sqfP (Sl i)) : Int) - ((stC (sqfP (Sl i)) 0 0 : Int) - stC (sqfP (Sl i)) 32768 0)) % 2 = 0
  · have c174 : ¬ ¬ iI (((cS (sqfP (Sl i)) : Int) - ((stC (sqfP (Sl i)) 0 0 : Int) - stC (sqfP (Sl i)) 32768 0)) % 2) = 0 := fun w => w (by rw [t4]; rfl)
    refine zi_if_ne (tgt := 181) X dX6_isTrue_174 (by decide) (fun c_174 => (by first | exact absurd c174 c_174 | exact absurd c_174 c174)) (fun c_174 => ?_)
    refine zi_iconst (v := (nI 1)) X dX6_isTrue_177 (by decide) ?_
    refine zi_goto (tgt := 182) X dX6_isTrue_178 (by decide) ?_
    exact fin _ (nI 1) (Or.inl ⟨rfl, t1, t2, t3, t4⟩)
  · have c174 : ¬ iI (((cS (sqfP (Sl i)) : Int) - ((stC (sqfP (Sl i)) 0 0 : Int) - stC (sqfP (Sl i)) 32768 0)) % 2) = 0 := fun w => t4 (iI_inj (by omega) (by decide) w)
    refine zi_if_ne (tgt := 181) X dX6_isTrue_174 (by decide) (fun c_174 => ?_) (fun c_174 => (by first | exact absurd c174 c_174 | exact absurd c_174 c174))
    exact no _ (fun w => t4 w.2.2.2)
end X6R
