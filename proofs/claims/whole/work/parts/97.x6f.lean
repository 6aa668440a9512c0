/-! SturmRoots: reflect, add, derivative -/
def st9 (r : Nat → Int) : Prop := ∀ k, k < 7 → (r k).natAbs ≤ 9999
def rfP (s : Nat → Int) : Nat → Int := fun k => if k % 2 = 1 then -s k else s k
section X6F
variable {cA : Nat → ClassId} {D : va_G} {S : Nat → Nat → Nat} {h : mH} {x sl rw is lst n : Nat} {sa : Nat → Nat} {Sl : Nat → Nat → Int} {V : Nat → Iv} {src : Nat → Int} {l : Launch}
theorem isW_same (hw : isW cA D S (x, sl, rw, is, lst, sa) h (Sl, n, V, src)) {h1 : mH} (e : h1 = h) : isW cA D S (x, sl, rw, is, lst, sa) h1 (Sl, n, V, src) := by rw [e]; exact hw
theorem lI_add (a b : Int) : lI a + lI b = lI (a + b) := (Int64.ofInt_add a b).symm
theorem lI_mul (a b : Int) : lI a * lI b = lI (a * b) := (Int64.ofInt_mul a b).symm
theorem lI_neg (a : Int) : -lI a = lI (-a) := (Int64.ofInt_neg a).symm
theorem lI_of {g : Int64} {v : Int} (h : g.toInt = v) : g = lI v := by rw [← h]; exact (Int64.ofInt_toInt g).symm
theorem iI_lI {v : Int} (h : v.natAbs < 2147483648) : (iI v).toInt64 = lI v := lI_of (iI_l h)
theorem c7 {j : Nat} (h : j < 7) : ¬ nI 7 ≤ nI j := Int32.not_le.mpr ((nI_ltI (by omega) (by decide)).mpr (by omega))
theorem x_reflect (hl : l.stackTraces = false) (hw : isW cA D S (x, sl, rw, is, lst, sa) h (Sl, n, V, src)) {a b : Int32} :
    mCx l yX6_reflect cX6_reflect 4 (some .int) (rmc 7 2 12) D (mT cA) [.ref x, .int a, .int b] h (mFi h (fun r h1 => ∃ i k, i < 5 ∧ a = nI i ∧ k < 5 ∧ b = nI k ∧ r = iI (sDeg (rfP (Sl i))) ∧ isW cA D S (x, sl, rw, is, lst, sa) h1 (setS Sl k (tr (rfP (Sl i))), n, V, src)))
      (fun E h1 => h1 = h ∧ E = eI ∧ (¬ inR a 5 ∨ ¬ inR b 5)) := by
  obtain ⟨T, P, G, Ln, hw⟩ := hw
  have hx := hw.2.2.1.1
  have hb := hw.2.2.1.2.2.2.2.2.1
  have hz := hw.2.2.2.2.1
  refine mEnter_x (by decide) (Nat.le_of_ble_eq_true rfl) rfl (fun z X Vz => ?_)
  refine zi_iload_n X dX6_reflect_0 rfl rfl ?_
  refine zi_xcallSv X (x_requireSlot hl) kc_X6_requireSlot wm_X6_54 wst_X6_requireSlot ⟨Nat.le_of_ble_eq_true rfl, Nat.le_of_ble_eq_true rfl⟩ rfl rfl (Nat.le_of_ble_eq_true rfl) ⟨Nat.le_of_ble_eq_true rfl, Nat.le_of_ble_eq_true rfl⟩ dX6_reflect_1 (fun E g e1 => zt_out X Vz (by obtain ⟨e1, e2, e3⟩ := e1; exact ⟨e2, e1, Or.inl e3⟩) (by decide) (by decide)) (fun g e1 => ?_)
  obtain ⟨rfl, i, hi, rfl⟩ := e1
  refine zi_iload_n X dX6_reflect_4 rfl rfl ?_
  refine zi_xcallSv X (x_requireSlot hl) kc_X6_requireSlot wm_X6_54 wst_X6_requireSlot ⟨Nat.le_of_ble_eq_true rfl, Nat.le_of_ble_eq_true rfl⟩ rfl rfl (Nat.le_of_ble_eq_true rfl) ⟨Nat.le_of_ble_eq_true rfl, Nat.le_of_ble_eq_true rfl⟩ dX6_reflect_5 (fun E g1 e1 => zt_out X Vz (by obtain ⟨e1, e2, e3⟩ := e1; exact ⟨e2, e1, Or.inr e3⟩) (by decide) (by decide)) (fun g1 e1 => ?_)
  obtain ⟨rfl, k, hk, rfl⟩ := e1
  refine zi_aload_n X dX6_reflect_8 rfl rfl ?_
  refine zi_iload_n X dX6_reflect_9 rfl rfl ?_
  refine zi_callVv X (x_readRow l D hw.2.2.1 hi) kc_X6_readRow wm_X6_72 hx rfl wim_X6_readRow wse_X6_readRow ⟨Nat.le_of_ble_eq_true rfl, Nat.le_of_ble_eq_true rfl⟩ rfl rfl (Nat.le_of_ble_eq_true rfl) ⟨Nat.le_of_ble_eq_true rfl, Nat.le_of_ble_eq_true rfl⟩ dX6_reflect_10 (fun g2 e1 => ?_)
  obtain ⟨r, rfl, hr⟩ := e1
  refine zi_iconst (v := (nI 1)) X dX6_reflect_13 (by decide) ?_
  refine zi_istore_n X dX6_reflect_14 rfl (by decide) ?_
  have loop : ∀ m j, j + 2 * m = 7 → ∀ q : Nat → Int64, (∀ t, t < 7 → q t = lI (if t < j ∧ t % 2 = 1 then -Sl i t else Sl i t)) → zM z (0 + 1 + 1) (0 + 6 + 6) 15 [some (.ref x), some (.int (nI i)), some (.int (nI k)), some (.int (nI j))] [] (mup g1 rw (rowA (cA 1) q)) := by
    intro m
    induction m with
    | zero =>
      intro j hj q hq
      have : j = 7 := by omega
      subst this
      have c18 : nI 7 ≤ nI 7 := by decide
      have hw2 := isWT_row hw q
      have hx2 := hw2.2.2.1.1
      have hr9 : ∀ t, t < 7 → (rfP (Sl i) t).natAbs ≤ 9999 := fun t ht => by
        have := hb i t hi ht
        unfold rfP
        split
        · rw [Int.natAbs_neg]; exact this
        · exact this
      refine zi_iload_n X dX6_reflect_15 rfl rfl ?_
      refine zi_bipush (v := (nI 7)) X dX6_reflect_16 (by decide) ?_
      refine zi_icmp_ge (tgt := 40) X dX6_reflect_18 (by decide) (fun c_18 => ?_) (fun c_18 => (by first | exact absurd c18 c_18 | exact absurd c_18 c18))
      refine zi_aload_n X dX6_reflect_40 rfl rfl ?_
      refine zi_iload_n X dX6_reflect_41 rfl rfl ?_
      refine zi_callVi X (x_storeRow l D hw2.2.2.1 hk mup_self (r := rfP (Sl i)) (fun t ht => (by rw [hq t ht, lI_int (by have := hb i t hi ht; split <;> omega)]; unfold rfP; by_cases c : t % 2 = 1 <;> simp [c, ht])) hr9) kc_X6_storeRow wm_X6_75 hx2 rfl wim_X6_storeRow wse_X6_storeRow ⟨Nat.le_of_ble_eq_true rfl, Nat.le_of_ble_eq_true rfl⟩ rfl rfl (Nat.le_of_ble_eq_true rfl) ⟨Nat.le_of_ble_eq_true rfl, Nat.le_of_ble_eq_true rfl⟩ dX6_reflect_42 (fun y g3 e1 => ?_)
      obtain ⟨rfl, rfl⟩ := e1
      refine zi_xireturn X Vz dX6_reflect_45 ?_
      exact ⟨i, k, hi, rfl, hk, rfl, rfl, T, P, G, Ln, isWT_set hw2 hk hr9⟩
    | succ m ih =>
      intro j hj q hq
      have hjo : j % 2 = 1 := by omega
      have hw2 := isWT_row hw q
      have hx2 := hw2.2.2.1.1
      have k2 : mup g1 rw (rowA (cA 1) q) rw = some (rowA (cA 1) q) := mup_self
      have hin : vp_in (nI j) 7 := vin (by omega) (by decide)
      refine zi_iload_n X dX6_reflect_15 rfl rfl ?_
      refine zi_bipush (v := (nI 7)) X dX6_reflect_16 (by decide) ?_
      refine zi_icmp_ge (tgt := 40) X dX6_reflect_18 (by decide) (fun c_18 => (by first | exact absurd (c7 (by omega)) c_18 | exact absurd c_18 (c7 (by omega)))) (fun c_18 => ?_)
      refine zi_aload_n X dX6_reflect_21 rfl rfl ?_
      refine zi_getf (C := RX6) (T := TX6) (N := 8) (ci := 10) X (by first | assumption | exact mup_self | (rw [mup_ne (by assumption)]; assumption) | (rw [mup_ne (by assumption)]; exact mup_self) | (rw [mup_ne (by assumption), mup_ne (by assumption)]; assumption)) rfl in_X6 1 (by decide) wf_X6_14 rfl rfl dX6_reflect_22 ?_
      refine zi_iload_n X dX6_reflect_25 rfl rfl ?_
      refine zi_aload_n X dX6_reflect_26 rfl rfl ?_
      refine zi_getf (C := RX6) (T := TX6) (N := 8) (ci := 10) X (by first | assumption | exact mup_self | (rw [mup_ne (by assumption)]; assumption) | (rw [mup_ne (by assumption)]; exact mup_self) | (rw [mup_ne (by assumption), mup_ne (by assumption)]; assumption)) rfl in_X6 1 (by decide) wf_X6_14 rfl rfl dX6_reflect_27 ?_
      refine zi_iload_n X dX6_reflect_30 rfl rfl ?_
      refine zi_lald X 1 (by first | assumption | exact mup_self | (rw [mup_ne (by assumption)]; assumption) | (rw [mup_ne (by assumption)]; exact mup_self) | (rw [mup_ne (by assumption), mup_ne (by assumption)]; assumption)) rfl (by assumption) dX6_reflect_31 ?_
      rw [nI_cl (by omega), hq j (by omega), if_neg (by omega)]
      refine zi_lneg X dX6_reflect_32 ?_
      refine zi_last X 1 (by first | assumption | exact mup_self | (rw [mup_ne (by assumption)]; assumption) | (rw [mup_ne (by assumption)]; exact mup_self) | (rw [mup_ne (by assumption), mup_ne (by assumption)]; assumption)) rfl (by assumption) dX6_reflect_33 ?_
      rw [mup_mup, nI_cl (by omega), lI_neg]
      refine zi_iinc (v := nI (j + 2)) X dX6_reflect_34 rfl (by rw [show Int32.ofInt 2 = nI 2 from rfl, nI_add]) (by decide) ?_
      refine zi_goto (tgt := 15) X dX6_reflect_37 (by decide) ?_
      refine ih (j + 2) (by omega) (vp_updL q j (lI (-Sl i j))) (fun t ht => ?_)
      by_cases c : t = j
      · rw [c, vpL_s, if_pos ⟨by omega, hjo⟩]
      · rw [vpL_n c, hq t ht]
        by_cases c2 : t % 2 = 1
        · by_cases c3 : t < j
          · rw [if_pos ⟨c3, c2⟩, if_pos ⟨by omega, c2⟩]
          · rw [if_neg (fun w => c3 w.1), if_neg (fun w => by omega)]
        · rw [if_neg (fun w => c2 w.2), if_neg (fun w => c2 w.2)]
  exact loop 3 1 rfl r (fun t ht => by rw [if_neg (by omega)]; exact lI_of (hr t ht))
theorem x_add (hl : l.stackTraces = false) (hw : isW cA D S (x, sl, rw, is, lst, sa) h (Sl, n, V, src)) {a b c : Int32} :
    mCx l yX6_add cX6_add 5 (some .int) (rmc 7 4 24) D (mT cA) [.ref x, .int a, .int b, .int c] h (mFi h (fun r h1 => ∃ i j k, i < 5 ∧ a = nI i ∧ j < 5 ∧ b = nI j ∧ k < 5 ∧ c = nI k ∧ st9 (fun t => Sl i t + Sl j t) ∧ r = iI (sDeg (fun t => Sl i t + Sl j t)) ∧ isW cA D S (x, sl, rw, is, lst, sa) h1 (setS Sl k (tr (fun t => Sl i t + Sl j t)), n, V, src)))
      (fun E h1 => isW cA D S (x, sl, rw, is, lst, sa) h1 (Sl, n, V, src) ∧ (E = eI ∧ (¬ inR a 5 ∨ ¬ inR b 5 ∨ ¬ inR c 5) ∨ E = eS ∧ ∃ i j k, i < 5 ∧ a = nI i ∧ j < 5 ∧ b = nI j ∧ k < 5 ∧ c = nI k ∧ ¬ st9 (fun t => Sl i t + Sl j t))) := by
  have hw0 := hw
  obtain ⟨T, P, G, Ln, hw⟩ := hw
  have hb := hw.2.2.1.2.2.2.2.2.1
  refine mEnter_x (by decide) (Nat.le_of_ble_eq_true rfl) rfl (fun z X Vz => ?_)
  refine zi_iload_n X dX6_add_0 rfl rfl ?_
  refine zi_xcallSv X (x_requireSlot hl) kc_X6_requireSlot wm_X6_54 wst_X6_requireSlot ⟨Nat.le_of_ble_eq_true rfl, Nat.le_of_ble_eq_true rfl⟩ rfl rfl (Nat.le_of_ble_eq_true rfl) ⟨Nat.le_of_ble_eq_true rfl, Nat.le_of_ble_eq_true rfl⟩ dX6_add_1 (fun E g e1 => zt_out X Vz (by obtain ⟨e1, e2, e3⟩ := e1; exact ⟨isW_same hw0 e2, Or.inl ⟨e1, Or.inl e3⟩⟩) (by decide) (by decide)) (fun g e1 => ?_)
  obtain ⟨rfl, i, hi, rfl⟩ := e1
  refine zi_iload_n X dX6_add_4 rfl rfl ?_
  refine zi_xcallSv X (x_requireSlot hl) kc_X6_requireSlot wm_X6_54 wst_X6_requireSlot ⟨Nat.le_of_ble_eq_true rfl, Nat.le_of_ble_eq_true rfl⟩ rfl rfl (Nat.le_of_ble_eq_true rfl) ⟨Nat.le_of_ble_eq_true rfl, Nat.le_of_ble_eq_true rfl⟩ dX6_add_5 (fun E g1 e1 => zt_out X Vz (by obtain ⟨e1, e2, e3⟩ := e1; exact ⟨isW_same hw0 e2, Or.inl ⟨e1, Or.inr (Or.inl e3)⟩⟩) (by decide) (by decide)) (fun g1 e1 => ?_)
  obtain ⟨rfl, j, hj, rfl⟩ := e1
  refine zi_iload_n X dX6_add_8 rfl rfl ?_
  refine zi_xcallSv X (x_requireSlot hl) kc_X6_requireSlot wm_X6_54 wst_X6_requireSlot ⟨Nat.le_of_ble_eq_true rfl, Nat.le_of_ble_eq_true rfl⟩ rfl rfl (Nat.le_of_ble_eq_true rfl) ⟨Nat.le_of_ble_eq_true rfl, Nat.le_of_ble_eq_true rfl⟩ dX6_add_9 (fun E g1 e1 => zt_out X Vz (by obtain ⟨e1, e2, e3⟩ := e1; exact ⟨isW_same hw0 e2, Or.inl ⟨e1, Or.inr (Or.inr e3)⟩⟩) (by decide) (by decide)) (fun g1 e1 => ?_)
  obtain ⟨rfl, k, hk, rfl⟩ := e1
  refine zi_iconst (v := (nI 0)) X dX6_add_12 (by decide) ?_
  refine zi_istore X dX6_add_13 (by decide) ?_
  obtain ⟨q0, hq0⟩ := hw.2.2.1.2.2.2.1
  have loop : ∀ m t, t + m = 7 → ∀ q : Nat → Int64, (∀ u, u < t → (q u).toInt = Sl i u + Sl j u) → zM z (0 + 1 + 1 + 1) (0 + 6 + 6 + 6) 15 [some (.ref x), some (.int (nI i)), some (.int (nI j)), some (.int (nI k)), some (.int (nI t))] [] (mup g1 rw (rowA (cA 1) q)) := by
    intro m
    induction m with
    | zero =>
      intro t ht q hq
      have : t = 7 := by omega
      subst this
      have c19 : nI 7 ≤ nI 7 := by decide
      have hw2 := isWT_row hw q
      have hx2 := hw2.2.2.1.1
      refine zi_iload X dX6_add_15 rfl ?_
      refine zi_bipush (v := (nI 7)) X dX6_add_17 (by decide) ?_
      refine zi_icmp_ge (tgt := 56) X dX6_add_19 (by decide) (fun c_19 => ?_) (fun c_19 => (by first | exact absurd c19 c_19 | exact absurd c_19 c19))
      refine zi_aload_n X dX6_add_56 rfl rfl ?_
      refine zi_xcallVv X (x_requireStorable l hl D hx2 mup_self) kc_X6_requireStorable wm_X6_79 hx2 rfl wim_X6_requireStorable wse_X6_requireStorable ⟨Nat.le_of_ble_eq_true rfl, Nat.le_of_ble_eq_true rfl⟩ rfl rfl (Nat.le_of_ble_eq_true rfl) ⟨Nat.le_of_ble_eq_true rfl, Nat.le_of_ble_eq_true rfl⟩ dX6_add_57 (fun E g3 e1 => zt_out X Vz (by obtain ⟨e1, e2, e3⟩ := e1; rw [e2]; exact ⟨⟨T, P, G, Ln, hw2⟩, Or.inr ⟨e1, i, j, k, hi, rfl, hj, rfl, hk, rfl, fun w => e3 (fun u hu => by rw [hq u hu]; exact w u hu)⟩⟩) (by decide) (by decide)) (fun g3 e1 => ?_)
      obtain ⟨rfl, e1⟩ := e1
      have hr9 : st9 (fun t => Sl i t + Sl j t) := fun u hu => by show (Sl i u + Sl j u).natAbs ≤ 9999; rw [← hq u hu]; exact e1 u hu
      refine zi_aload_n X dX6_add_60 rfl rfl ?_
      refine zi_iload_n X dX6_add_61 rfl rfl ?_
      refine zi_callVi X (x_storeRow l D hw2.2.2.1 hk mup_self hq hr9) kc_X6_storeRow wm_X6_75 hx2 rfl wim_X6_storeRow wse_X6_storeRow ⟨Nat.le_of_ble_eq_true rfl, Nat.le_of_ble_eq_true rfl⟩ rfl rfl (Nat.le_of_ble_eq_true rfl) ⟨Nat.le_of_ble_eq_true rfl, Nat.le_of_ble_eq_true rfl⟩ dX6_add_62 (fun y g3 e1 => ?_)
      obtain ⟨rfl, rfl⟩ := e1
      refine zi_xireturn X Vz dX6_add_65 ?_
      exact ⟨i, j, k, hi, rfl, hj, rfl, hk, rfl, hr9, rfl, T, P, G, Ln, isWT_set hw2 hk hr9⟩
    | succ m ih =>
      intro t ht q hq
      obtain ⟨hx2, hsl, hsa, -⟩ := (isWT_row hw q).2.2.1
      have k2 : mup g1 rw (rowA (cA 1) q) rw = some (rowA (cA 1) q) := mup_self
      have k3 := hsa i hi
      have k4 := hsa j hj
      have hin : vp_in (nI t) 7 := vin (by omega) (by decide)
      refine zi_iload X dX6_add_15 rfl ?_
      refine zi_bipush (v := (nI 7)) X dX6_add_17 (by decide) ?_
      refine zi_icmp_ge (tgt := 56) X dX6_add_19 (by decide) (fun c_19 => (by first | exact absurd (c7 (by omega)) c_19 | exact absurd c_19 (c7 (by omega)))) (fun c_19 => ?_)
      refine zi_aload_n X dX6_add_22 rfl rfl ?_
      refine zi_getf (C := RX6) (T := TX6) (N := 8) (ci := 10) X (by first | assumption | exact mup_self | (rw [mup_ne (by assumption)]; assumption) | (rw [mup_ne (by assumption)]; exact mup_self) | (rw [mup_ne (by assumption), mup_ne (by assumption)]; assumption)) rfl in_X6 1 (by decide) wf_X6_14 rfl rfl dX6_add_23 ?_
      refine zi_iload X dX6_add_26 rfl ?_
      refine zi_aload_n X dX6_add_28 rfl rfl ?_
      refine zi_getf (C := RX6) (T := TX6) (N := 8) (ci := 10) X (by first | assumption | exact mup_self | (rw [mup_ne (by assumption)]; assumption) | (rw [mup_ne (by assumption)]; exact mup_self) | (rw [mup_ne (by assumption), mup_ne (by assumption)]; assumption)) rfl in_X6 0 (by decide) wf_X6_11 rfl rfl dX6_add_29 ?_
      refine zi_iload_n X dX6_add_32 rfl rfl ?_
      refine zi_aaldA X 4 (by first | assumption | exact mup_self | (rw [mup_ne (by assumption)]; assumption) | (rw [mup_ne (by assumption)]; exact mup_self) | (rw [mup_ne (by assumption), mup_ne (by assumption)]; assumption)) rfl (vin hi (by decide)) (sl_at hi) dX6_add_33 ?_
      refine zi_iload X dX6_add_34 rfl ?_
      refine zi_iald X 0 (by first | assumption | exact mup_self | (rw [mup_ne (by assumption)]; assumption) | (rw [mup_ne (by assumption)]; exact mup_self) | (rw [mup_ne (by assumption), mup_ne (by assumption)]; assumption)) rfl (by assumption) dX6_add_36 ?_
      refine zi_i2l X dX6_add_37 ?_
      refine zi_aload_n X dX6_add_38 rfl rfl ?_
      refine zi_getf (C := RX6) (T := TX6) (N := 8) (ci := 10) X (by first | assumption | exact mup_self | (rw [mup_ne (by assumption)]; assumption) | (rw [mup_ne (by assumption)]; exact mup_self) | (rw [mup_ne (by assumption), mup_ne (by assumption)]; assumption)) rfl in_X6 0 (by decide) wf_X6_11 rfl rfl dX6_add_39 ?_
      refine zi_iload_n X dX6_add_42 rfl rfl ?_
      refine zi_aaldA X 4 (by first | assumption | exact mup_self | (rw [mup_ne (by assumption)]; assumption) | (rw [mup_ne (by assumption)]; exact mup_self) | (rw [mup_ne (by assumption), mup_ne (by assumption)]; assumption)) rfl (vin hj (by decide)) (sl_at hj) dX6_add_43 ?_
      refine zi_iload X dX6_add_44 rfl ?_
      refine zi_iald X 0 (by first | assumption | exact mup_self | (rw [mup_ne (by assumption)]; assumption) | (rw [mup_ne (by assumption)]; exact mup_self) | (rw [mup_ne (by assumption), mup_ne (by assumption)]; assumption)) rfl (by assumption) dX6_add_46 ?_
      refine zi_i2l X dX6_add_47 ?_
      refine zi_ladd X dX6_add_48 ?_
      rw [nI_cl (by omega), if_pos (by omega), if_pos (by omega), iI_lI (by have := hb i t hi (by omega); omega), iI_lI (by have := hb j t hj (by omega); omega), lI_add]
      refine zi_last X 1 (by first | assumption | exact mup_self | (rw [mup_ne (by assumption)]; assumption) | (rw [mup_ne (by assumption)]; exact mup_self) | (rw [mup_ne (by assumption), mup_ne (by assumption)]; assumption)) rfl (by assumption) dX6_add_49 ?_
      rw [mup_mup, nI_cl (by omega)]
      refine zi_iinc (v := nI (t + 1)) X dX6_add_50 rfl (nI_inc _) (by decide) ?_
      refine zi_goto (tgt := 15) X dX6_add_53 (by decide) ?_
      refine ih (t + 1) (by omega) (vp_updL q t (lI (Sl i t + Sl j t))) (fun u hu => ?_)
      by_cases c : u = t
      · rw [c, vpL_s, lI_int (by have := hb i t hi (by omega); have := hb j t hj (by omega); omega)]
      · rw [vpL_n c]; exact hq u (by omega)
  have := loop 7 0 rfl q0 (fun t ht => absurd ht (Nat.not_lt_zero _))
  rw [mup_same hq0] at this
  exact this
end X6F
