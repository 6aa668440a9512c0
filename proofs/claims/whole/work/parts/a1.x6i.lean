/-! SturmRoots: multiply -/
def pSum (s t : Nat → Int) (k : Nat) : Nat → Int
  | 0 => 0
  | m + 1 => pSum s t k m + (if m ≤ k then s m * t (k - m) else 0)
def mulP (s t : Nat → Int) : Nat → Int := fun k => pSum s t k 7
/-- the product's degree isn't too great -/
def mOk (s t : Nat → Int) : Prop := ¬ (0 < stI s 7 ∧ 0 < stI t 7 ∧ 9 ≤ stI s 7 + stI t 7)
theorem pSum_z {s t : Nat → Int} {k d : Nat} (hz : ∀ i, d ≤ i → i < 7 → s i = 0) : ∀ m, d ≤ m → m ≤ 7 → pSum s t k m = pSum s t k d
  | 0, h1, _ => by rw [show d = 0 by omega]
  | m + 1, h1, h2 => by
    by_cases c : d = m + 1
    · rw [c]
    · rw [pSum, pSum_z hz m (by omega) (by omega), hz m (by omega) (by omega)]
      split
      · rw [Int.zero_mul, Int.add_zero]
      · rw [Int.add_zero]
theorem pSum_bd {s t : Nat → Int} {k : Nat} (hs : ∀ k, k < 7 → (s k).natAbs ≤ 9999) (ht : ∀ k, k < 7 → (t k).natAbs ≤ 9999) (hk : k < 7) : ∀ m, m ≤ 7 → (pSum s t k m).natAbs ≤ m * 99980001
  | 0, _ => by simp [pSum]
  | m + 1, h => by
    rw [pSum]
    have h1 := pSum_bd hs ht hk m (by omega)
    have h2 : (if m ≤ k then s m * t (k - m) else 0).natAbs ≤ 99980001 := by
      split
      · rw [Int.natAbs_mul]
        exact Nat.mul_le_mul (hs m (by omega)) (ht (k - m) (by omega))
      · decide
    have := Int.natAbs_add_le (pSum s t k m) (if m ≤ k then s m * t (k - m) else 0)
    omega
theorem sDeg_I (s : Nat → Int) : iI (sDeg s) = nI (stI s 7) - nI 1 := by
  unfold sDeg
  rw [iI_nat, show nI 1 = iI 1 from rfl, iI_sub]
section X6I
variable {cA : Nat → ClassId} {D : va_G} {S : Nat → Nat → Nat} {h : mH} {x sl rw is lst n : Nat} {sa : Nat → Nat} {Sl : Nat → Nat → Int} {V : Nat → Iv} {src : Nat → Int} {l : Launch}
theorem x_multiply (hl : l.stackTraces = false) (hw : isW cA D S (x, sl, rw, is, lst, sa) h (Sl, n, V, src)) {a b c : Int32} :
    mCx l yX6_multiply cX6_multiply 8 (some .int) (rmc 7 4 24) D (mT cA) [.ref x, .int a, .int b, .int c] h (mFi h (fun r h1 => ∃ i j k, i < 5 ∧ a = nI i ∧ j < 5 ∧ b = nI j ∧ k < 5 ∧ c = nI k ∧ (mOk (Sl i) (Sl j) ∧ st9 (mulP (Sl i) (Sl j))) ∧ r = iI (sDeg (mulP (Sl i) (Sl j))) ∧ isW cA D S (x, sl, rw, is, lst, sa) h1 (setS Sl k (tr (mulP (Sl i) (Sl j))), n, V, src)))
      (fun E h1 => isW cA D S (x, sl, rw, is, lst, sa) h1 (Sl, n, V, src) ∧ (E = eI ∧ (¬ inR a 5 ∨ ¬ inR b 5 ∨ ¬ inR c 5) ∨ E = eS ∧ ∃ i j k, i < 5 ∧ a = nI i ∧ j < 5 ∧ b = nI j ∧ k < 5 ∧ c = nI k ∧ ¬ (mOk (Sl i) (Sl j) ∧ st9 (mulP (Sl i) (Sl j))))) := by
  have hw0 := hw
  obtain ⟨T, P, G, Ln, hw⟩ := hw
  have hb := hw.2.2.1.2.2.2.2.2.1
  obtain ⟨hx, hsl, hsa, ⟨q0, hq0⟩, -⟩ := hw.2.2.1
  refine mEnter_x (by decide) (Nat.le_of_ble_eq_true rfl) rfl (fun z X Vz => ?_)
  refine zi_iload_n X dX6_multiply_0 rfl rfl ?_
  refine zi_xcallSv X (x_requireSlot hl) kc_X6_requireSlot wm_X6_54 wst_X6_requireSlot ⟨Nat.le_of_ble_eq_true rfl, Nat.le_of_ble_eq_true rfl⟩ rfl rfl (Nat.le_of_ble_eq_true rfl) ⟨Nat.le_of_ble_eq_true rfl, Nat.le_of_ble_eq_true rfl⟩ dX6_multiply_1 (fun E g e1 => zt_out X Vz (by obtain ⟨e1, e2, e3⟩ := e1; exact ⟨isW_same hw0 e2, Or.inl ⟨e1, Or.inl e3⟩⟩) (by decide) (by decide)) (fun g e1 => ?_)
  obtain ⟨rfl, i, hi, rfl⟩ := e1
  refine zi_iload_n X dX6_multiply_4 rfl rfl ?_
  refine zi_xcallSv X (x_requireSlot hl) kc_X6_requireSlot wm_X6_54 wst_X6_requireSlot ⟨Nat.le_of_ble_eq_true rfl, Nat.le_of_ble_eq_true rfl⟩ rfl rfl (Nat.le_of_ble_eq_true rfl) ⟨Nat.le_of_ble_eq_true rfl, Nat.le_of_ble_eq_true rfl⟩ dX6_multiply_5 (fun E g1 e1 => zt_out X Vz (by obtain ⟨e1, e2, e3⟩ := e1; exact ⟨isW_same hw0 e2, Or.inl ⟨e1, Or.inr (Or.inl e3)⟩⟩) (by decide) (by decide)) (fun g1 e1 => ?_)
  obtain ⟨rfl, j, hj, rfl⟩ := e1
  refine zi_iload_n X dX6_multiply_8 rfl rfl ?_
  refine zi_xcallSv X (x_requireSlot hl) kc_X6_requireSlot wm_X6_54 wst_X6_requireSlot ⟨Nat.le_of_ble_eq_true rfl, Nat.le_of_ble_eq_true rfl⟩ rfl rfl (Nat.le_of_ble_eq_true rfl) ⟨Nat.le_of_ble_eq_true rfl, Nat.le_of_ble_eq_true rfl⟩ dX6_multiply_9 (fun E g1 e1 => zt_out X Vz (by obtain ⟨e1, e2, e3⟩ := e1; exact ⟨isW_same hw0 e2, Or.inl ⟨e1, Or.inr (Or.inr e3)⟩⟩) (by decide) (by decide)) (fun g1 e1 => ?_)
  obtain ⟨rfl, k, hk, rfl⟩ := e1
  have k3 := hsa i hi
  have k4 := hsa j hj
  refine zi_aload_n X dX6_multiply_12 rfl rfl ?_
  refine zi_getf (C := RX6) (T := TX6) (N := 8) (ci := 10) X (by first | assumption | exact mup_self | (rw [mup_ne (by assumption)]; assumption) | (rw [mup_ne (by assumption)]; exact mup_self) | (rw [mup_ne (by assumption), mup_ne (by assumption)]; assumption)) rfl in_X6 0 (by decide) wf_X6_11 rfl rfl dX6_multiply_13 ?_
  refine zi_iload_n X dX6_multiply_16 rfl rfl ?_
  refine zi_aaldA X 4 (by first | assumption | exact mup_self | (rw [mup_ne (by assumption)]; assumption) | (rw [mup_ne (by assumption)]; exact mup_self) | (rw [mup_ne (by assumption), mup_ne (by assumption)]; assumption)) rfl (vin hi (by decide)) (sl_at hi) dX6_multiply_17 ?_
  refine zi_callSi X (x_degreeOf l D k3 (fun t ht => hb i t hi ht)) kc_X6_degreeOf wm_X6_68 wst_X6_degreeOf ⟨Nat.le_of_ble_eq_true rfl, Nat.le_of_ble_eq_true rfl⟩ rfl rfl (Nat.le_of_ble_eq_true rfl) ⟨Nat.le_of_ble_eq_true rfl, Nat.le_of_ble_eq_true rfl⟩ dX6_multiply_18 (fun y g2 e1 => ?_)
  obtain ⟨rfl, rfl⟩ := e1
  rw [sDeg_I]
  refine zi_istore X dX6_multiply_21 (by decide) ?_
  refine zi_aload_n X dX6_multiply_23 rfl rfl ?_
  refine zi_getf (C := RX6) (T := TX6) (N := 8) (ci := 10) X (by first | assumption | exact mup_self | (rw [mup_ne (by assumption)]; assumption) | (rw [mup_ne (by assumption)]; exact mup_self) | (rw [mup_ne (by assumption), mup_ne (by assumption)]; assumption)) rfl in_X6 0 (by decide) wf_X6_11 rfl rfl dX6_multiply_24 ?_
  refine zi_iload_n X dX6_multiply_27 rfl rfl ?_
  refine zi_aaldA X 4 (by first | assumption | exact mup_self | (rw [mup_ne (by assumption)]; assumption) | (rw [mup_ne (by assumption)]; exact mup_self) | (rw [mup_ne (by assumption), mup_ne (by assumption)]; assumption)) rfl (vin hj (by decide)) (sl_at hj) dX6_multiply_28 ?_
  refine zi_callSi X (x_degreeOf l D k4 (fun t ht => hb j t hj ht)) kc_X6_degreeOf wm_X6_68 wst_X6_degreeOf ⟨Nat.le_of_ble_eq_true rfl, Nat.le_of_ble_eq_true rfl⟩ rfl rfl (Nat.le_of_ble_eq_true rfl) ⟨Nat.le_of_ble_eq_true rfl, Nat.le_of_ble_eq_true rfl⟩ dX6_multiply_29 (fun y g9 e1 => ?_)
  obtain ⟨rfl, rfl⟩ := e1
  rw [sDeg_I]
  refine zi_istore X dX6_multiply_32 (by decide) ?_
  refine zi_iload X dX6_multiply_34 rfl ?_
  have hdS := stI_le (Sl i) 7
  have hdT := stI_le (Sl j) 7
  have zS : ∀ u, stI (Sl i) 7 ≤ u → u < 7 → Sl i u = 0 := fun u h1 h2 => stI_z h1 h2
  have zT : ∀ u, stI (Sl j) 7 ≤ u → u < 7 → Sl j u = 0 := fun u h1 h2 => stI_z h1 h2
  obtain ⟨dS, hdSe⟩ : ∃ d, d = stI (Sl i) 7 := ⟨_, rfl⟩
  obtain ⟨dT, hdTe⟩ : ∃ d, d = stI (Sl j) 7 := ⟨_, rfl⟩
  rw [← hdSe] at hdS zS
  rw [← hdTe] at hdT zT
  rw [← hdSe, ← hdTe]
  have tail : mOk (Sl i) (Sl j) → zM z (0 + 1 + 1 + 1) (0 + 6 + 6 + 6) 64 [some (.ref x), some (.int (nI i)), some (.int (nI j)), some (.int (nI k)), some (.int (nI dS - nI 1)), some (.int (nI dT - nI 1)), none, none] [] g9 := by
    intro hok
    refine zi_aload_n X dX6_multiply_64 rfl rfl ?_
    refine zi_callVv X (x_clearRow l D hx hq0) kc_X6_clearRow wm_X6_87 hx rfl wim_X6_clearRow wse_X6_clearRow ⟨Nat.le_of_ble_eq_true rfl, Nat.le_of_ble_eq_true rfl⟩ rfl rfl (Nat.le_of_ble_eq_true rfl) ⟨Nat.le_of_ble_eq_true rfl, Nat.le_of_ble_eq_true rfl⟩ dX6_multiply_65 (fun g2 e1 => ?_)
    obtain ⟨q1, rfl, hq1⟩ := e1
    refine zi_iconst (v := (nI 0)) X dX6_multiply_68 (by decide) ?_
    refine zi_istore X dX6_multiply_69 (by decide) ?_
    have outer : ∀ m u, u + m = dS → ∀ q : Nat → Int64, (∀ v, v < 7 → q v = lI (pSum (Sl i) (Sl j) v u)) → zM z (0 + 1 + 1 + 1) (0 + 6 + 6 + 6) 71 [some (.ref x), some (.int (nI i)), some (.int (nI j)), some (.int (nI k)), some (.int (nI dS - nI 1)), some (.int (nI dT - nI 1)), some (.int (nI u)), none] [] (mup g9 rw (rowA (cA 1) q)) := by
      intro m
      induction m with
      | zero =>
        intro u hu q hq
        have c75 : nI dS - nI 1 < nI u := (dI_lt (by omega) (by omega)).mpr (by omega)
        have hw2 := isWT_row hw q
        have hx2 := hw2.2.2.1.1
        have hq9 : ∀ v, v < 7 → (q v).toInt = mulP (Sl i) (Sl j) v := fun v hv => by
          have h1 := pSum_bd (fun t ht => hb i t hi ht) (fun t ht => hb j t hj ht) hv 7 (Nat.le_refl _)
          rw [hq v hv, show u = dS by omega, ← pSum_z zS 7 hdS (Nat.le_refl _), lI_int (by omega)]
          rfl
        refine zi_iload X dX6_multiply_71 rfl ?_
        refine zi_iload X dX6_multiply_73 rfl ?_
        refine zi_icmp_gt (tgt := 144) X dX6_multiply_75 (by decide) (fun c_75 => ?_) (fun c_75 => (by first | exact absurd c75 c_75 | exact absurd c_75 c75))
        refine zi_aload_n X dX6_multiply_144 rfl rfl ?_
        refine zi_xcallVv X (x_requireStorable l hl D hx2 mup_self) kc_X6_requireStorable wm_X6_79 hx2 rfl wim_X6_requireStorable wse_X6_requireStorable ⟨Nat.le_of_ble_eq_true rfl, Nat.le_of_ble_eq_true rfl⟩ rfl rfl (Nat.le_of_ble_eq_true rfl) ⟨Nat.le_of_ble_eq_true rfl, Nat.le_of_ble_eq_true rfl⟩ dX6_multiply_145 (fun E g3 e1 => zt_out X Vz (by obtain ⟨e1, e2, e3⟩ := e1; rw [e2]; exact ⟨⟨T, P, G, Ln, hw2⟩, Or.inr ⟨e1, i, j, k, hi, rfl, hj, rfl, hk, rfl, fun w => e3 (fun u hu => by rw [hq9 u hu]; exact w.2 u hu)⟩⟩) (by decide) (by decide)) (fun g3 e1 => ?_)
        obtain ⟨rfl, e1⟩ := e1
        have hr9 : st9 (mulP (Sl i) (Sl j)) := fun u hu => by rw [← hq9 u hu]; exact e1 u hu
        refine zi_aload_n X dX6_multiply_148 rfl rfl ?_
        refine zi_iload_n X dX6_multiply_149 rfl rfl ?_
        refine zi_callVi X (x_storeRow l D hw2.2.2.1 hk mup_self hq9 hr9) kc_X6_storeRow wm_X6_75 hx2 rfl wim_X6_storeRow wse_X6_storeRow ⟨Nat.le_of_ble_eq_true rfl, Nat.le_of_ble_eq_true rfl⟩ rfl rfl (Nat.le_of_ble_eq_true rfl) ⟨Nat.le_of_ble_eq_true rfl, Nat.le_of_ble_eq_true rfl⟩ dX6_multiply_150 (fun y g3 e1 => ?_)
        obtain ⟨rfl, rfl⟩ := e1
        refine zi_xireturn X Vz dX6_multiply_153 ?_
        exact ⟨i, j, k, hi, rfl, hj, rfl, hk, rfl, ⟨hok, hr9⟩, rfl, T, P, G, Ln, isWT_set hw2 hk hr9⟩
      | succ m ih =>
        intro u hu q hq
        have c75 : ¬ nI dS - nI 1 < nI u := fun w => by rw [dI_lt (by omega) (by omega)] at w; omega
        refine zi_iload X dX6_multiply_71 rfl ?_
        refine zi_iload X dX6_multiply_73 rfl ?_
        refine zi_icmp_gt (tgt := 144) X dX6_multiply_75 (by decide) (fun c_75 => (by first | exact absurd c75 c_75 | exact absurd c_75 c75)) (fun c_75 => ?_)
        refine zi_iconst (v := (nI 0)) X dX6_multiply_78 (by decide) ?_
        refine zi_istore X dX6_multiply_79 (by decide) ?_
        have inner : ∀ m2 v, v + m2 = dT → ∀ q : Nat → Int64, (∀ w, w < 7 → q w = lI (pSum (Sl i) (Sl j) w u + (if u ≤ w ∧ w - u < v then Sl i u * Sl j (w - u) else 0))) → zM z (0 + 1 + 1 + 1) (0 + 6 + 6 + 6) 81 [some (.ref x), some (.int (nI i)), some (.int (nI j)), some (.int (nI k)), some (.int (nI dS - nI 1)), some (.int (nI dT - nI 1)), some (.int (nI u)), some (.int (nI v))] [] (mup g9 rw (rowA (cA 1) q)) := by
          intro m2
          have done : ∀ v (q : Nat → Int64), v = dT ∨ 7 ≤ u + v → (∀ w, w < 7 → q w = lI (pSum (Sl i) (Sl j) w u + (if u ≤ w ∧ w - u < v then Sl i u * Sl j (w - u) else 0))) → zM z (0 + 1 + 1 + 1) (0 + 6 + 6 + 6) 138 [some (.ref x), some (.int (nI i)), some (.int (nI j)), some (.int (nI k)), some (.int (nI dS - nI 1)), some (.int (nI dT - nI 1)), some (.int (nI u)), some (.int (nI v))] [] (mup g9 rw (rowA (cA 1) q)) := by
            intro v q hv hq
            refine zi_iinc (v := nI (u + 1)) X dX6_multiply_138 rfl (nI_inc _) (by decide) ?_
            refine zi_goto (tgt := 71) X dX6_multiply_141 (by decide) ?_
            refine zi_sub (L' := [some (.ref x), some (.int (nI i)), some (.int (nI j)), some (.int (nI k)), some (.int (nI dS - nI 1)), some (.int (nI dT - nI 1)), some (.int (nI (u + 1))), none]) (by repeat (first | exact trivial | refine And.intro rfl ?_)) ?_
            refine ih (u + 1) (by omega) q (fun w hw => ?_)
            rw [hq w hw, pSum]
            congr 2
            by_cases c1 : u ≤ w
            · rw [if_pos c1]
              by_cases c2 : w - u < v
              · rw [if_pos ⟨c1, c2⟩]
              · rw [if_neg (fun r => c2 r.2), zT (w - u) (by omega) (by omega), Int.mul_zero]
            · rw [if_neg c1, if_neg (fun r => c1 r.1)]
          induction m2 with
          | zero =>
            intro v hv q hq
            have c85 : nI dT - nI 1 < nI v := (dI_lt (by omega) (by omega)).mpr (by omega)
            refine zi_iload X dX6_multiply_81 rfl ?_
            refine zi_iload X dX6_multiply_83 rfl ?_
            refine zi_icmp_gt (tgt := 138) X dX6_multiply_85 (by decide) (fun c_85 => ?_) (fun c_85 => (by first | exact absurd c85 c_85 | exact absurd c_85 c85))
            exact done v q (Or.inl (by omega)) hq
          | succ m2 ih2 =>
            intro v hv q hq
            have c85 : ¬ nI dT - nI 1 < nI v := fun w => by rw [dI_lt (by omega) (by omega)] at w; omega
            refine zi_iload X dX6_multiply_81 rfl ?_
            refine zi_iload X dX6_multiply_83 rfl ?_
            refine zi_icmp_gt (tgt := 138) X dX6_multiply_85 (by decide) (fun c_85 => (by first | exact absurd c85 c_85 | exact absurd c_85 c85)) (fun c_85 => ?_)
            refine zi_iload X dX6_multiply_88 rfl ?_
            refine zi_iload X dX6_multiply_90 rfl ?_
            refine zi_iadd X dX6_multiply_92 ?_
            rw [nI_add]
            by_cases c : 7 ≤ u + v
            · have c95 : nI 7 ≤ nI (u + v) := Int32.not_lt.mp (fun w => by rw [nI_ltI (by omega) (by omega)] at w; omega)
              refine zi_bipush (v := (nI 7)) X dX6_multiply_93 (by decide) ?_
              refine zi_icmp_ge (tgt := 138) X dX6_multiply_95 (by decide) (fun c_95 => ?_) (fun c_95 => (by first | exact absurd c95 c_95 | exact absurd c_95 c95))
              exact done v q (Or.inr c) hq
            · obtain ⟨hx2, hsl2, hsa2, -⟩ := (isWT_row hw q).2.2.1
              have k2 : mup g9 rw (rowA (cA 1) q) rw = some (rowA (cA 1) q) := mup_self
              have k5 := hsa2 i hi
              have k6 := hsa2 j hj
              have hin : vp_in (nI (u + v)) 7 := vin (by omega) (by decide)
              have hinu : vp_in (nI u) 7 := vin (by omega) (by decide)
              have hinv : vp_in (nI v) 7 := vin (by omega) (by decide)
              refine zi_bipush (v := (nI 7)) X dX6_multiply_93 (by decide) ?_
              refine zi_icmp_ge (tgt := 138) X dX6_multiply_95 (by decide) (fun c_95 => (by first | exact absurd (c7 (by omega)) c_95 | exact absurd c_95 (c7 (by omega)))) (fun c_95 => ?_)
              refine zi_aload_n X dX6_multiply_98 rfl rfl ?_
              refine zi_getf (C := RX6) (T := TX6) (N := 8) (ci := 10) X (by first | assumption | exact mup_self | (rw [mup_ne (by assumption)]; assumption) | (rw [mup_ne (by assumption)]; exact mup_self) | (rw [mup_ne (by assumption), mup_ne (by assumption)]; assumption)) rfl in_X6 1 (by decide) wf_X6_14 rfl rfl dX6_multiply_99 ?_
              refine zi_iload X dX6_multiply_102 rfl ?_
              refine zi_iload X dX6_multiply_104 rfl ?_
              refine zi_iadd X dX6_multiply_106 ?_
              rw [nI_add]
              refine zi_dup2 X dX6_multiply_107 rfl rfl ?_
              refine zi_lald X 1 (by first | assumption | exact mup_self | (rw [mup_ne (by assumption)]; assumption) | (rw [mup_ne (by assumption)]; exact mup_self) | (rw [mup_ne (by assumption), mup_ne (by assumption)]; assumption)) rfl (by assumption) dX6_multiply_108 ?_
              refine zi_aload_n X dX6_multiply_109 rfl rfl ?_
              refine zi_getf (C := RX6) (T := TX6) (N := 8) (ci := 10) X (by first | assumption | exact mup_self | (rw [mup_ne (by assumption)]; assumption) | (rw [mup_ne (by assumption)]; exact mup_self) | (rw [mup_ne (by assumption), mup_ne (by assumption)]; assumption)) rfl in_X6 0 (by decide) wf_X6_11 rfl rfl dX6_multiply_110 ?_
              refine zi_iload_n X dX6_multiply_113 rfl rfl ?_
              refine zi_aaldA X 4 (by first | assumption | exact mup_self | (rw [mup_ne (by assumption)]; assumption) | (rw [mup_ne (by assumption)]; exact mup_self) | (rw [mup_ne (by assumption), mup_ne (by assumption)]; assumption)) rfl (vin hi (by decide)) (sl_at hi) dX6_multiply_114 ?_
              refine zi_iload X dX6_multiply_115 rfl ?_
              refine zi_iald X 0 (by first | assumption | exact mup_self | (rw [mup_ne (by assumption)]; assumption) | (rw [mup_ne (by assumption)]; exact mup_self) | (rw [mup_ne (by assumption), mup_ne (by assumption)]; assumption)) rfl (by assumption) dX6_multiply_117 ?_
              refine zi_i2l X dX6_multiply_118 ?_
              refine zi_aload_n X dX6_multiply_119 rfl rfl ?_
              refine zi_getf (C := RX6) (T := TX6) (N := 8) (ci := 10) X (by first | assumption | exact mup_self | (rw [mup_ne (by assumption)]; assumption) | (rw [mup_ne (by assumption)]; exact mup_self) | (rw [mup_ne (by assumption), mup_ne (by assumption)]; assumption)) rfl in_X6 0 (by decide) wf_X6_11 rfl rfl dX6_multiply_120 ?_
              refine zi_iload_n X dX6_multiply_123 rfl rfl ?_
              refine zi_aaldA X 4 (by first | assumption | exact mup_self | (rw [mup_ne (by assumption)]; assumption) | (rw [mup_ne (by assumption)]; exact mup_self) | (rw [mup_ne (by assumption), mup_ne (by assumption)]; assumption)) rfl (vin hj (by decide)) (sl_at hj) dX6_multiply_124 ?_
              refine zi_iload X dX6_multiply_125 rfl ?_
              refine zi_iald X 0 (by first | assumption | exact mup_self | (rw [mup_ne (by assumption)]; assumption) | (rw [mup_ne (by assumption)]; exact mup_self) | (rw [mup_ne (by assumption), mup_ne (by assumption)]; assumption)) rfl (by assumption) dX6_multiply_127 ?_
              refine zi_i2l X dX6_multiply_128 ?_
              rw [nI_cl (by omega : u + v < 2147483648), nI_cl (by omega : u < 2147483648), nI_cl (by omega : v < 2147483648), if_pos (by omega : u < 7), if_pos (by omega : v < 7), hq _ (by omega), iI_lI (v := Sl i u) (by have := hb i u hi (by omega); omega), iI_lI (v := Sl j v) (by have := hb j v hj (by omega); omega)]
              refine zi_lmul X dX6_multiply_129 ?_
              refine zi_ladd X dX6_multiply_130 ?_
              rw [lI_mul, lI_add, if_neg (by omega), Int.add_zero]
              refine zi_last X 1 (by first | assumption | exact mup_self | (rw [mup_ne (by assumption)]; assumption) | (rw [mup_ne (by assumption)]; exact mup_self) | (rw [mup_ne (by assumption), mup_ne (by assumption)]; assumption)) rfl (by assumption) dX6_multiply_131 ?_
              rw [mup_mup, nI_cl (by omega)]
              refine zi_iinc (v := nI (v + 1)) X dX6_multiply_132 rfl (nI_inc _) (by decide) ?_
              refine zi_goto (tgt := 81) X dX6_multiply_135 (by decide) ?_
              refine ih2 (v + 1) (by omega) (vp_updL q (u + v) (lI (pSum (Sl i) (Sl j) (u + v) u + Sl i u * Sl j v))) (fun w hw => ?_)
              by_cases c2 : w = u + v
              · rw [c2, vpL_s, if_pos (by omega), show u + v - u = v by omega]
              · rw [vpL_n c2, hq w hw]
                by_cases c3 : u ≤ w ∧ w - u < v
                · rw [if_pos c3, if_pos (by omega)]
                · rw [if_neg c3, if_neg (by omega)]
        exact inner dT 0 (by omega) q (fun w hw => by rw [if_neg (by omega), Int.add_zero]; exact hq w hw)
    exact outer dS 0 (by omega) q1 (fun v hv => hq1 v hv)
  by_cases c1 : dS = 0
  · have c36 : nI dS - nI 1 < 0 := (dI_neg (by omega)).mpr c1
    refine zi_if_lt (tgt := 64) X dX6_multiply_36 (by decide) (fun c_36 => ?_) (fun c_36 => (by first | exact absurd c36 c_36 | exact absurd c_36 c36))
    exact tail (fun q => by omega)
  · have c36 : ¬ nI dS - nI 1 < 0 := fun w => c1 ((dI_neg (by omega)).mp w)
    refine zi_if_lt (tgt := 64) X dX6_multiply_36 (by decide) (fun c_36 => (by first | exact absurd c36 c_36 | exact absurd c_36 c36)) (fun c_36 => ?_)
    refine zi_iload X dX6_multiply_39 rfl ?_
    by_cases c2 : dT = 0
    · have c41 : nI dT - nI 1 < 0 := (dI_neg (by omega)).mpr c2
      refine zi_if_lt (tgt := 64) X dX6_multiply_41 (by decide) (fun c_41 => ?_) (fun c_41 => (by first | exact absurd c41 c_41 | exact absurd c_41 c41))
      exact tail (fun q => by omega)
    · have c41 : ¬ nI dT - nI 1 < 0 := fun w => c2 ((dI_neg (by omega)).mp w)
      refine zi_if_lt (tgt := 64) X dX6_multiply_41 (by decide) (fun c_41 => (by first | exact absurd c41 c_41 | exact absurd c_41 c41)) (fun c_41 => ?_)
      refine zi_iload X dX6_multiply_44 rfl ?_
      refine zi_iload X dX6_multiply_46 rfl ?_
      refine zi_iadd X dX6_multiply_48 ?_
      obtain ⟨u, hu⟩ : ∃ u, dS = u + 1 := ⟨dS - 1, by omega⟩
      obtain ⟨v, hv⟩ : ∃ v, dT = v + 1 := ⟨dT - 1, by omega⟩
      have e9 : nI dS - nI 1 + (nI dT - nI 1) = nI (u + v) := by rw [hu, hv, nI_pr, nI_pr, nI_add]
      rw [e9]
      refine zi_bipush (v := (nI 7)) X dX6_multiply_49 (by decide) ?_
      refine zi_icmp_lt (tgt := 64) X dX6_multiply_51 (by decide) (fun c_51 => ?_) (fun c_51 => ?_)
      · exact tail (fun q => by
          rw [nI_ltI (by omega) (by decide)] at c_51
          omega)
      · refine zi_throwS hl X Vz xok_X6_86 xs_X6_84 dX6_multiply_54 dX6_multiply_57 dX6_multiply_58 dX6_multiply_60 dX6_multiply_63 (Nat.le_of_ble_eq_true rfl) (Nat.le_of_ble_eq_true rfl) (Nat.le_of_ble_eq_true rfl) (Nat.le_of_ble_eq_true rfl) (Nat.le_of_ble_eq_true rfl) (Nat.le_of_ble_eq_true rfl) ⟨hw0, Or.inr ⟨rfl, i, j, k, hi, rfl, hj, rfl, hk, rfl, fun w => w.1 ⟨by omega, by omega, by rw [nI_ltI (by omega) (by decide)] at c_51; omega⟩⟩⟩
end X6I
