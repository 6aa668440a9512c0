/-! SturmRootsModel: sign, signChanges, coefficientSignChanges, bound, refused -/
theorem isPt_k {x k : Int32} (h : isPt x k) : x.toInt.natAbs ≤ 1000000 ∧ k.toInt.toNat < 13 ∧ k = nI k.toInt.toNat := by
  obtain ⟨h1, h2, h3, h4⟩ := h
  refine ⟨by omega, by omega, ?_⟩
  apply i32_ext
  rw [nI_int (by omega)]
  omega
theorem sgn_s3 (p : Nat → Int) (x : Int) (k : Nat) : sgnAt p x k = 0 ∨ sgnAt p x k = 1 ∨ sgnAt p x k = -1 := by
  unfold sgnAt
  generalize (evS p x (2 ^ k : Nat) (stI p 7) (stI p 7)).1 = v
  rcases Int.lt_trichotomy v 0 with q | q | q
  · exact Or.inr (Or.inr (Int.sign_eq_neg_one_of_neg q))
  · rw [q]; exact Or.inl rfl
  · exact Or.inr (Or.inl (Int.sign_eq_one_of_pos q))
theorem s3_e {x y : Int} (hx : x = 0 ∨ x = 1 ∨ x = -1) (hy : y = 0 ∨ y = 1 ∨ y = -1) : s3 x = s3 y ↔ x = y := by
  rcases hx with rfl | rfl | rfl <;> rcases hy with rfl | rfl | rfl <;> decide
theorem chg_st {s : Nat → Int} (hs3 : ∀ i, s i = 0 ∨ s i = 1 ∨ s i = -1) (i : Nat) : (s i ≠ 0 ∧ (chg s i).1 ≠ 0 ∧ s i ≠ (chg s i).1 → (chg s i).2 + 1 = (chg s (i + 1)).2) ∧ (¬ (s i ≠ 0 ∧ (chg s i).1 ≠ 0 ∧ s i ≠ (chg s i).1) → (chg s i).2 + 0 = (chg s (i + 1)).2) := by
  have hl := chg_sg hs3 i
  have neg : s i * (chg s i).1 < 0 ↔ s i ≠ 0 ∧ (chg s i).1 ≠ 0 ∧ s i ≠ (chg s i).1 := by
    rcases hs3 i with q | q | q <;> rcases hl with w | w | w <;> rw [q, w] <;> decide
  exact ⟨fun q => by rw [chg, if_pos (neg.mpr q)], fun q => by rw [chg, if_neg (fun w => q (neg.mp w))]; rfl⟩
section SG9
variable {cA : Nat → ClassId} {M : Nat → Nat → Nat} {h : mH} {o : RO} {Sl : Nat → Nat → Int} {kp : Nat → Int} {cap n : Nat} {V : Nat → Iv} {P : Nat → Nat → Int} {rL : (Nat → Int) → Nat}
theorem pC_9 {p : Nat → Int} (h : ∀ k, k < 7 → (p k).natAbs ≤ 9999) : pC p := fun k hk => by
  have h1 := h k hk
  have h2 : 9999 < KN := by
    unfold KN
    have : 0 < CC ^ 47 := Nat.pow_pos (by decide)
    have := Nat.mul_le_mul_left 2147483648 this
    omega
  unfold nC
  omega
theorem u_sign (l : Launch) (D : va_G) (hu : rU cA M h o Sl kp cap n V P) (hb : slB Sl) (hz : ∀ i, i < 5 → evOk (Sl i)) {a x k : Int32} :
    mCi l yX7_sign_ cX7_sign_ 4 .int (rmd 4) D (mT cA) [.ref (M 3 0), .int a, .int x, .int k] h (fun r h1 => ¬ inR a 5 ∧ uT cA M o kp cap n V P 1 Sl h1 ∨ inR a 5 ∧ ¬ isPt x k ∧ uT cA M o kp cap n V P 2 Sl h1 ∨ ∃ i, i < 5 ∧ a = nI i ∧ isPt x k ∧ r = s3 (sgnAt (Sl i) x.toInt k.toInt.toNat) ∧ uT cA M o kp cap n V P 0 Sl h1) := by
  have x1 := hu.2.1.1
  have x2 := hu.2.1.2.1
  refine mEnter_i (by decide) (Nat.le_of_ble_eq_true rfl) rfl (fun z X Vz => ?_)
  refine zi_iload_n X dX7_sign__0 rfl rfl ?_
  refine zi_callSi X (s_isSlot l D) kc_X7_isSlot wm_X7_228 wst_X7_isSlot ⟨Nat.le_of_ble_eq_true rfl, Nat.le_of_ble_eq_true rfl⟩ rfl rfl (Nat.le_of_ble_eq_true rfl) ⟨Nat.le_of_ble_eq_true rfl, Nat.le_of_ble_eq_true rfl⟩ dX7_sign__1 (fun r h1 hp => ?_)
  obtain ⟨rfl, ⟨q1, rfl⟩ | ⟨q1, rfl⟩⟩ := hp
  · obtain ⟨i, hi, rfl⟩ := q1
    have y3 := hu.2.1.2.2.1 i hi
    refine zi_if_ne (tgt := 13) X dX7_sign__4 (by decide) (fun c_4 => ?_) (fun c_4 => (by first | exact absurd (by decide) c_4 | exact absurd c_4 (by decide)))
    refine zi_iload_n X dX7_sign__13 rfl rfl ?_
    refine zi_iload_n X dX7_sign__14 rfl rfl ?_
    refine zi_callSi X (s_isPoint l D) kc_X7_isPoint wm_X7_259 wst_X7_isPoint ⟨Nat.le_of_ble_eq_true rfl, Nat.le_of_ble_eq_true rfl⟩ rfl rfl (Nat.le_of_ble_eq_true rfl) ⟨Nat.le_of_ble_eq_true rfl, Nat.le_of_ble_eq_true rfl⟩ dX7_sign__15 (fun r h2 hp => ?_)
    obtain ⟨rfl, ⟨c0, rfl⟩ | ⟨c0, rfl⟩⟩ := hp
    · obtain ⟨hx, hk, ek⟩ := isPt_k c0
      generalize hkn : k.toInt.toNat = kn at *
      subst ek
      refine zi_if_ne (tgt := 27) X dX7_sign__18 (by decide) (fun c_18 => ?_) (fun c_18 => (by first | exact absurd (by decide) c_18 | exact absurd c_18 (by decide)))
      refine zi_aload_n X dX7_sign__27 rfl rfl ?_
      refine zi_getf (C := RX7) (T := TX7) (N := 27) (ci := 11) X (by first | assumption | exact mup_self | (rw [mup_ne (by assumption)]; assumption) | (rw [mup_ne (by assumption)]; exact mup_self) | (rw [mup_ne (by assumption), mup_ne (by assumption)]; assumption)) rfl in_X7 1 (by decide) wf_X7_11 rfl rfl dX7_sign__28 ?_
      refine zi_iload_n X dX7_sign__31 rfl rfl ?_
      refine zi_aaldA X 4 (by first | assumption | exact mup_self | (rw [mup_ne (by assumption)]; assumption) | (rw [mup_ne (by assumption)]; exact mup_self) | (rw [mup_ne (by assumption), mup_ne (by assumption)]; assumption)) rfl (vin hi (by decide)) (sl4_at hi) dX7_sign__32 ?_
      refine zi_aload_n X dX7_sign__33 rfl rfl ?_
      refine zi_getf (C := RX7) (T := TX7) (N := 27) (ci := 11) X (by first | assumption | exact mup_self | (rw [mup_ne (by assumption)]; assumption) | (rw [mup_ne (by assumption)]; exact mup_self) | (rw [mup_ne (by assumption), mup_ne (by assumption)]; assumption)) rfl in_X7 17 (by decide) wf_X7_63 rfl rfl dX7_sign__34 ?_
      refine zi_callSv X (r_loadS l D hu.1 (j := 6) (by decide) y3 (fun t ht => hb i t hi ht)) kc_X7_load wm_X7_236 wst_X7_load ⟨Nat.le_of_ble_eq_true rfl, Nat.le_of_ble_eq_true rfl⟩ rfl rfl (Nat.le_of_ble_eq_true rfl) ⟨Nat.le_of_ble_eq_true rfl, Nat.le_of_ble_eq_true rfl⟩ dX7_sign__37 (fun h3 hp => ?_)
      obtain ⟨hf3, hq3⟩ := hp
      have hu3 := rU_n hu hf3 hq3
      have z1 := hu3.2.1.1
      have ex := i32_i64 x
      refine zi_aload_n X dX7_sign__40 rfl rfl ?_
      refine zi_aload_n X dX7_sign__41 rfl rfl ?_
      refine zi_aload_n X dX7_sign__42 rfl rfl ?_
      refine zi_getf (C := RX7) (T := TX7) (N := 27) (ci := 11) X (by first | assumption | exact mup_self | (rw [mup_ne (by assumption)]; assumption) | (rw [mup_ne (by assumption)]; exact mup_self) | (rw [mup_ne (by assumption), mup_ne (by assumption)]; assumption)) rfl in_X7 17 (by decide) wf_X7_63 rfl rfl dX7_sign__43 ?_
      refine zi_iload_n X dX7_sign__46 rfl rfl ?_
      refine zi_i2l X dX7_sign__47 ?_
      refine zi_iload_n X dX7_sign__48 rfl rfl ?_
      refine zi_callVi X (r_signAt l D z1 hu3.1 (j := 6) (by decide) (by rw [updP_s]; exact pC_9 (fun t ht => hb i t hi ht)) (x := x.toInt64) (by rw [ex]; unfold CC; omega) (k := kn) (by omega) (by rw [updP_s, ex]; exact hz i hi x.toInt kn (by omega) (by omega))) kc_X7_signAt wm_X7_263 (by first | assumption | exact mup_self | (rw [mup_ne (by assumption)]; assumption) | (rw [mup_ne (by assumption)]; exact mup_self) | (rw [mup_ne (by assumption), mup_ne (by assumption)]; assumption)) rfl wim_X7_signAt wse_X7_signAt ⟨Nat.le_of_ble_eq_true rfl, Nat.le_of_ble_eq_true rfl⟩ rfl rfl (Nat.le_of_ble_eq_true rfl) ⟨Nat.le_of_ble_eq_true rfl, Nat.le_of_ble_eq_true rfl⟩ dX7_sign__49 (fun r h4 hp => ?_)
      obtain ⟨hf4, hq4, rfl⟩ := hp
      have hu4 := rU_n hu3 hf4 hq4
      have w1 := hu4.2.1.1
      rw [updP_s, ex]
      refine zi_callVi X (u_tells l D hu4) kc_X7_tells wm_X7_217 (by first | assumption | exact mup_self | (rw [mup_ne (by assumption)]; assumption) | (rw [mup_ne (by assumption)]; exact mup_self) | (rw [mup_ne (by assumption), mup_ne (by assumption)]; assumption)) rfl wim_X7_tells wse_X7_tells ⟨Nat.le_of_ble_eq_true rfl, Nat.le_of_ble_eq_true rfl⟩ rfl rfl (Nat.le_of_ble_eq_true rfl) ⟨Nat.le_of_ble_eq_true rfl, Nat.le_of_ble_eq_true rfl⟩ dX7_sign__52 (fun r h5 hp => ?_)
      obtain ⟨rfl, -, hp⟩ := hp
      refine zi_ireturn X Vz dX7_sign__55 ?_
      exact Or.inr (Or.inr ⟨i, hi, rfl, c0, rfl, uT_o hp (updP_n (by decide))⟩)
    · refine zi_if_ne (tgt := 27) X dX7_sign__18 (by decide) (fun c_18 => (by first | exact absurd (by decide) c_18 | exact absurd c_18 (by decide))) (fun c_18 => ?_)
      refine zi_aload_n X dX7_sign__21 rfl rfl ?_
      refine zi_iconst (v := (nI 2)) X dX7_sign__22 (by decide) ?_
      refine zi_callVi X (u_fails l D hu) kc_X7_fails wm_X7_212 (by first | assumption | exact mup_self | (rw [mup_ne (by assumption)]; assumption) | (rw [mup_ne (by assumption)]; exact mup_self) | (rw [mup_ne (by assumption), mup_ne (by assumption)]; assumption)) rfl wim_X7_fails wse_X7_fails ⟨Nat.le_of_ble_eq_true rfl, Nat.le_of_ble_eq_true rfl⟩ rfl rfl (Nat.le_of_ble_eq_true rfl) ⟨Nat.le_of_ble_eq_true rfl, Nat.le_of_ble_eq_true rfl⟩ dX7_sign__23 (fun r h3 hp => ?_)
      refine zi_ireturn X Vz dX7_sign__26 ?_
      exact Or.inr (Or.inl ⟨⟨i, hi, rfl⟩, c0, uT_of hp.2⟩)
  · refine zi_if_ne (tgt := 13) X dX7_sign__4 (by decide) (fun c_4 => (by first | exact absurd (by decide) c_4 | exact absurd c_4 (by decide))) (fun c_4 => ?_)
    refine zi_aload_n X dX7_sign__7 rfl rfl ?_
    refine zi_iconst (v := (nI 1)) X dX7_sign__8 (by decide) ?_
    refine zi_callVi X (u_fails l D hu) kc_X7_fails wm_X7_212 (by first | assumption | exact mup_self | (rw [mup_ne (by assumption)]; assumption) | (rw [mup_ne (by assumption)]; exact mup_self) | (rw [mup_ne (by assumption), mup_ne (by assumption)]; assumption)) rfl wim_X7_fails wse_X7_fails ⟨Nat.le_of_ble_eq_true rfl, Nat.le_of_ble_eq_true rfl⟩ rfl rfl (Nat.le_of_ble_eq_true rfl) ⟨Nat.le_of_ble_eq_true rfl, Nat.le_of_ble_eq_true rfl⟩ dX7_sign__9 (fun r h1 hp => ?_)
    refine zi_ireturn X Vz dX7_sign__12 ?_
    exact Or.inl ⟨q1, uT_of hp.2⟩
theorem u_coefficientSignChanges (l : Launch) (D : va_G) (hu : rU cA M h o Sl kp cap n V P) (hb : slB Sl) {a : Int32} :
    mCi l yX7_coefficientSignChanges cX7_coefficientSignChanges 2 .int (rmd 3) D (mT cA) [.ref (M 3 0), .int a] h (fun r h1 => ¬ inR a 5 ∧ uT cA M o kp cap n V P 1 Sl h1 ∨ ∃ i, i < 5 ∧ a = nI i ∧ r = nI (chg (fun k => (Sl i k).sign) 7).2 ∧ uT cA M o kp cap n V P 0 Sl h1) := by
  have x1 := hu.2.1.1
  have x2 := hu.2.1.2.1
  refine mEnter_i (by decide) (Nat.le_of_ble_eq_true rfl) rfl (fun z X Vz => ?_)
  refine zi_iload_n X dX7_coefficientSignChanges_0 rfl rfl ?_
  refine zi_callSi X (s_isSlot l D) kc_X7_isSlot wm_X7_228 wst_X7_isSlot ⟨Nat.le_of_ble_eq_true rfl, Nat.le_of_ble_eq_true rfl⟩ rfl rfl (Nat.le_of_ble_eq_true rfl) ⟨Nat.le_of_ble_eq_true rfl, Nat.le_of_ble_eq_true rfl⟩ dX7_coefficientSignChanges_1 (fun r h1 hp => ?_)
  obtain ⟨rfl, ⟨q1, rfl⟩ | ⟨q1, rfl⟩⟩ := hp
  · obtain ⟨i, hi, rfl⟩ := q1
    have y3 := hu.2.1.2.2.1 i hi
    refine zi_if_ne (tgt := 13) X dX7_coefficientSignChanges_4 (by decide) (fun c_4 => ?_) (fun c_4 => (by first | exact absurd (by decide) c_4 | exact absurd c_4 (by decide)))
    refine zi_aload_n X dX7_coefficientSignChanges_13 rfl rfl ?_
    refine zi_getf (C := RX7) (T := TX7) (N := 27) (ci := 11) X (by first | assumption | exact mup_self | (rw [mup_ne (by assumption)]; assumption) | (rw [mup_ne (by assumption)]; exact mup_self) | (rw [mup_ne (by assumption), mup_ne (by assumption)]; assumption)) rfl in_X7 1 (by decide) wf_X7_11 rfl rfl dX7_coefficientSignChanges_14 ?_
    refine zi_iload_n X dX7_coefficientSignChanges_17 rfl rfl ?_
    refine zi_aaldA X 4 (by first | assumption | exact mup_self | (rw [mup_ne (by assumption)]; assumption) | (rw [mup_ne (by assumption)]; exact mup_self) | (rw [mup_ne (by assumption), mup_ne (by assumption)]; assumption)) rfl (vin hi (by decide)) (sl4_at hi) dX7_coefficientSignChanges_18 ?_
    refine zi_aload_n X dX7_coefficientSignChanges_19 rfl rfl ?_
    refine zi_getf (C := RX7) (T := TX7) (N := 27) (ci := 11) X (by first | assumption | exact mup_self | (rw [mup_ne (by assumption)]; assumption) | (rw [mup_ne (by assumption)]; exact mup_self) | (rw [mup_ne (by assumption), mup_ne (by assumption)]; assumption)) rfl in_X7 17 (by decide) wf_X7_63 rfl rfl dX7_coefficientSignChanges_20 ?_
    refine zi_callSv X (r_loadS l D hu.1 (j := 6) (by decide) y3 (fun t ht => hb i t hi ht)) kc_X7_load wm_X7_236 wst_X7_load ⟨Nat.le_of_ble_eq_true rfl, Nat.le_of_ble_eq_true rfl⟩ rfl rfl (Nat.le_of_ble_eq_true rfl) ⟨Nat.le_of_ble_eq_true rfl, Nat.le_of_ble_eq_true rfl⟩ dX7_coefficientSignChanges_23 (fun h3 hp => ?_)
    obtain ⟨hf3, hq3⟩ := hp
    have hu3 := rU_n hu hf3 hq3
    have z1 := hu3.2.1.1
    obtain ⟨N, hN0, hP⟩ := id hq3
    have ev : ∀ t, t < 7 → cof N 6 t = Sl i t := fun t ht => by
      show N (7 * 6 + t) = _
      rw [hP 6 (by decide) t ht, updP_s]
    refine zi_aload_n X dX7_coefficientSignChanges_26 rfl rfl ?_
    refine zi_aload_n X dX7_coefficientSignChanges_27 rfl rfl ?_
    refine zi_getf (C := RX7) (T := TX7) (N := 27) (ci := 11) X (by first | assumption | exact mup_self | (rw [mup_ne (by assumption)]; assumption) | (rw [mup_ne (by assumption)]; exact mup_self) | (rw [mup_ne (by assumption), mup_ne (by assumption)]; assumption)) rfl in_X7 17 (by decide) wf_X7_63 rfl rfl dX7_coefficientSignChanges_28 ?_
    refine zi_bipush (v := (nI 6)) X dX7_coefficientSignChanges_31 (by decide) ?_
    refine zi_callSi X (m_changes l D hN0 (j := 6) (g := 6) (by decide) (by decide) (fun t ht => by rw [hP 6 (by decide) t (by omega), updP_s]; exact nB_C (pC_9 (fun t ht => hb i t hi ht) t (by omega)))) kc_X7_changes wm_X7_201 wst_X7_changes ⟨Nat.le_of_ble_eq_true rfl, Nat.le_of_ble_eq_true rfl⟩ rfl rfl (Nat.le_of_ble_eq_true rfl) ⟨Nat.le_of_ble_eq_true rfl, Nat.le_of_ble_eq_true rfl⟩ dX7_coefficientSignChanges_33 (fun r h4 hp => ?_)
    obtain ⟨rfl, rfl⟩ := hp
    refine zi_callVi X (u_tells l D hu3) kc_X7_tells wm_X7_217 (by first | assumption | exact mup_self | (rw [mup_ne (by assumption)]; assumption) | (rw [mup_ne (by assumption)]; exact mup_self) | (rw [mup_ne (by assumption), mup_ne (by assumption)]; assumption)) rfl wim_X7_tells wse_X7_tells ⟨Nat.le_of_ble_eq_true rfl, Nat.le_of_ble_eq_true rfl⟩ rfl rfl (Nat.le_of_ble_eq_true rfl) ⟨Nat.le_of_ble_eq_true rfl, Nat.le_of_ble_eq_true rfl⟩ dX7_coefficientSignChanges_36 (fun r h5 hp => ?_)
    obtain ⟨rfl, -, hp⟩ := hp
    refine zi_ireturn X Vz dX7_coefficientSignChanges_39 ?_
    refine Or.inr ⟨i, hi, rfl, ?_, uT_o hp (updP_n (by decide))⟩
    rw [chg_cong (fun t ht => by rw [ev t ht])]
  · refine zi_if_ne (tgt := 13) X dX7_coefficientSignChanges_4 (by decide) (fun c_4 => (by first | exact absurd (by decide) c_4 | exact absurd c_4 (by decide))) (fun c_4 => ?_)
    refine zi_aload_n X dX7_coefficientSignChanges_7 rfl rfl ?_
    refine zi_iconst (v := (nI 1)) X dX7_coefficientSignChanges_8 (by decide) ?_
    refine zi_callVi X (u_fails l D hu) kc_X7_fails wm_X7_212 (by first | assumption | exact mup_self | (rw [mup_ne (by assumption)]; assumption) | (rw [mup_ne (by assumption)]; exact mup_self) | (rw [mup_ne (by assumption), mup_ne (by assumption)]; assumption)) rfl wim_X7_fails wse_X7_fails ⟨Nat.le_of_ble_eq_true rfl, Nat.le_of_ble_eq_true rfl⟩ rfl rfl (Nat.le_of_ble_eq_true rfl) ⟨Nat.le_of_ble_eq_true rfl, Nat.le_of_ble_eq_true rfl⟩ dX7_coefficientSignChanges_9 (fun r h1 hp => ?_)
    refine zi_ireturn X Vz dX7_coefficientSignChanges_12 ?_
    exact Or.inl ⟨q1, uT_of hp.2⟩
theorem u_signChanges (l : Launch) (D : va_G) (hu : rU cA M h o Sl kp cap n V P) (hb : slB Sl) (hz : ∀ i, i < 5 → stI (Sl i) 7 ≠ 0 → rwAll rL (Sl i)) {a x k : Int32} :
    mCi l yX7_signChanges cX7_signChanges 8 .int (rmd 9) D (mT cA) [.ref (M 3 0), .int a, .int x, .int k] h (fun r h1 => ¬ inR a 5 ∧ uL cA M o kp cap n V P 1 Sl h1 ∨ inR a 5 ∧ ¬ isPt x k ∧ uL cA M o kp cap n V P 2 Sl h1 ∨ ∃ i, i < 5 ∧ a = nI i ∧ isPt x k ∧ (stI (Sl i) 7 = 0 ∧ uL cA M o kp cap n V P 3 Sl h1 ∨ stI (Sl i) 7 ≠ 0 ∧ r = nI (chg (fun t => sgnAt (rwE (Sl i) t) x.toInt k.toInt.toNat) (rL (Sl i))).2 ∧ uL cA M o kp cap n V P 0 Sl h1)) := by
  have x1 := hu.2.1.1
  refine mEnter_i (by decide) (Nat.le_of_ble_eq_true rfl) rfl (fun z X Vz => ?_)
  refine zi_iload_n X dX7_signChanges_0 rfl rfl ?_
  refine zi_callSi X (s_isSlot l D) kc_X7_isSlot wm_X7_228 wst_X7_isSlot ⟨Nat.le_of_ble_eq_true rfl, Nat.le_of_ble_eq_true rfl⟩ rfl rfl (Nat.le_of_ble_eq_true rfl) ⟨Nat.le_of_ble_eq_true rfl, Nat.le_of_ble_eq_true rfl⟩ dX7_signChanges_1 (fun r h1 hp => ?_)
  obtain ⟨rfl, ⟨q1, rfl⟩ | ⟨q1, rfl⟩⟩ := hp
  · obtain ⟨i, hi, rfl⟩ := q1
    refine zi_if_ne (tgt := 13) X dX7_signChanges_4 (by decide) (fun c_4 => ?_) (fun c_4 => (by first | exact absurd (by decide) c_4 | exact absurd c_4 (by decide)))
    refine zi_iload_n X dX7_signChanges_13 rfl rfl ?_
    refine zi_iload_n X dX7_signChanges_14 rfl rfl ?_
    refine zi_callSi X (s_isPoint l D) kc_X7_isPoint wm_X7_259 wst_X7_isPoint ⟨Nat.le_of_ble_eq_true rfl, Nat.le_of_ble_eq_true rfl⟩ rfl rfl (Nat.le_of_ble_eq_true rfl) ⟨Nat.le_of_ble_eq_true rfl, Nat.le_of_ble_eq_true rfl⟩ dX7_signChanges_15 (fun r h2 hp => ?_)
    obtain ⟨rfl, ⟨c0, rfl⟩ | ⟨c0, rfl⟩⟩ := hp
    · obtain ⟨hx, hk, ek⟩ := isPt_k c0
      generalize hkn : k.toInt.toNat = kn at *
      subst ek
      refine zi_if_ne (tgt := 27) X dX7_signChanges_18 (by decide) (fun c_18 => ?_) (fun c_18 => (by first | exact absurd (by decide) c_18 | exact absurd c_18 (by decide)))
      refine zi_aload_n X dX7_signChanges_27 rfl rfl ?_
      refine zi_iload_n X dX7_signChanges_28 rfl rfl ?_
      refine zi_callVi X (u_isZero l D hu hi (fun t ht => hb i t hi ht)) kc_X7_isZero wm_X7_244 (by first | assumption | exact mup_self | (rw [mup_ne (by assumption)]; assumption) | (rw [mup_ne (by assumption)]; exact mup_self) | (rw [mup_ne (by assumption), mup_ne (by assumption)]; assumption)) rfl wim_X7_isZero wse_X7_isZero ⟨Nat.le_of_ble_eq_true rfl, Nat.le_of_ble_eq_true rfl⟩ rfl rfl (Nat.le_of_ble_eq_true rfl) ⟨Nat.le_of_ble_eq_true rfl, Nat.le_of_ble_eq_true rfl⟩ dX7_signChanges_29 (fun r h2 hp => ?_)
      obtain ⟨rfl, ⟨c1, rfl⟩ | ⟨c1, rfl⟩⟩ := hp
      · refine zi_if_eq (tgt := 41) X dX7_signChanges_32 (by decide) (fun c_32 => (by first | exact absurd (by decide) c_32 | exact absurd c_32 (by decide))) (fun c_32 => ?_)
        refine zi_aload_n X dX7_signChanges_35 rfl rfl ?_
        refine zi_iconst (v := (nI 3)) X dX7_signChanges_36 (by decide) ?_
        refine zi_callVi X (u_fails l D hu) kc_X7_fails wm_X7_212 (by first | assumption | exact mup_self | (rw [mup_ne (by assumption)]; assumption) | (rw [mup_ne (by assumption)]; exact mup_self) | (rw [mup_ne (by assumption), mup_ne (by assumption)]; assumption)) rfl wim_X7_fails wse_X7_fails ⟨Nat.le_of_ble_eq_true rfl, Nat.le_of_ble_eq_true rfl⟩ rfl rfl (Nat.le_of_ble_eq_true rfl) ⟨Nat.le_of_ble_eq_true rfl, Nat.le_of_ble_eq_true rfl⟩ dX7_signChanges_37 (fun r h3 hp => ?_)
        refine zi_ireturn X Vz dX7_signChanges_40 ?_
        exact Or.inr (Or.inr ⟨i, hi, rfl, c0, Or.inl ⟨c1, o.2.1, uT_o (o1 := (o.1, o.2.1, o.2.2)) hp.2 rfl⟩⟩)
      · have zr := hz i hi c1
        have l7 := zr.1.2.1
        refine zi_if_eq (tgt := 41) X dX7_signChanges_32 (by decide) (fun c_32 => ?_) (fun c_32 => (by first | exact absurd (by decide) c_32 | exact absurd c_32 (by decide)))
        refine zi_aload_n X dX7_signChanges_41 rfl rfl ?_
        refine zi_iload_n X dX7_signChanges_42 rfl rfl ?_
        refine zi_callVv X (u_findRow l D hu hb hi zr.1) kc_X7_findRow wm_X7_253 (by first | assumption | exact mup_self | (rw [mup_ne (by assumption)]; assumption) | (rw [mup_ne (by assumption)]; exact mup_self) | (rw [mup_ne (by assumption), mup_ne (by assumption)]; assumption)) rfl wim_X7_findRow wse_X7_findRow ⟨Nat.le_of_ble_eq_true rfl, Nat.le_of_ble_eq_true rfl⟩ rfl rfl (Nat.le_of_ble_eq_true rfl) ⟨Nat.le_of_ble_eq_true rfl, Nat.le_of_ble_eq_true rfl⟩ dX7_signChanges_43 (fun h3 hp => ?_)
        obtain ⟨Q, hu3, q7, qr⟩ := hp
        have ex := i32_i64 x
        obtain ⟨s, hs⟩ : ∃ s : Nat → Int, s = fun t => sgnAt (rwE (Sl i) t) x.toInt kn := ⟨_, rfl⟩
        have hst : ∀ t, sgnAt (rwE (Sl i) t) x.toInt kn = s t := fun t => by rw [hs]
        have hs3 : ∀ t, s t = 0 ∨ s t = 1 ∨ s t = -1 := fun t => by rw [← hst t]; exact sgn_s3 _ _ _
        have cS := chg_st hs3
        have cL := chg_sg hs3
        refine zi_iconst (v := (nI 0)) X dX7_signChanges_46 (by decide) ?_
        refine zi_istore X dX7_signChanges_47 (by decide) ?_
        refine zi_iconst (v := (nI 0)) X dX7_signChanges_49 (by decide) ?_
        refine zi_istore X dX7_signChanges_50 (by decide) ?_
        refine zi_iconst (v := (nI 0)) X dX7_signChanges_52 (by decide) ?_
        refine zi_istore X dX7_signChanges_53 (by decide) ?_
        suffices key : ∀ w t (g : mH) (Q : Nat → Nat → Int), t + w = rL (Sl i) → rU cA M g (o.1, nI (rL (Sl i)), o.2.2) Sl kp cap n V Q → Q 7 = P 7 → (∀ t, t < rL (Sl i) → Q (8 + t) = rwE (Sl i) t) → zM z 0 0 55 [some (.ref (M 3 0)), some (.int (nI i)), some (.int x), some (.int (nI kn)), some (.int (nI (chg s t).2)), some (.int (s3 (chg s t).1)), some (.int (nI t)), none] [] g from
          zi_sub (by repeat (first | exact trivial | refine And.intro rfl ?_)) (key (rL (Sl i)) 0 h3 Q (by omega) hu3 q7 qr)
        intro w
        induction w with
        | zero =>
          intro t g Q ht hu q7 qr
          obtain rfl : t = rL (Sl i) := by omega
          have y1 := hu.2.1.1
          refine zi_iload X dX7_signChanges_55 rfl ?_
          refine zi_aload_n X dX7_signChanges_57 rfl rfl ?_
          refine zi_getf (C := RX7) (T := TX7) (N := 27) (ci := 11) X (by first | assumption | exact mup_self | (rw [mup_ne (by assumption)]; assumption) | (rw [mup_ne (by assumption)]; exact mup_self) | (rw [mup_ne (by assumption), mup_ne (by assumption)]; assumption)) rfl in_X7 19 (by decide) wf_X7_250 rfl rfl dX7_signChanges_58 ?_
          refine zi_icmp_ge (tgt := 127) X dX7_signChanges_61 (by decide) (fun c_61 => ?_) (fun c_61 => (by first | exact absurd (Int32.le_refl _) c_61 | exact absurd c_61 (Int32.le_refl _)))
          refine zi_aload_n X dX7_signChanges_127 rfl rfl ?_
          refine zi_iload X dX7_signChanges_128 rfl ?_
          refine zi_callVi X (u_tells l D hu) kc_X7_tells wm_X7_217 (by first | assumption | exact mup_self | (rw [mup_ne (by assumption)]; assumption) | (rw [mup_ne (by assumption)]; exact mup_self) | (rw [mup_ne (by assumption), mup_ne (by assumption)]; assumption)) rfl wim_X7_tells wse_X7_tells ⟨Nat.le_of_ble_eq_true rfl, Nat.le_of_ble_eq_true rfl⟩ rfl rfl (Nat.le_of_ble_eq_true rfl) ⟨Nat.le_of_ble_eq_true rfl, Nat.le_of_ble_eq_true rfl⟩ dX7_signChanges_130 (fun r h5 hp => ?_)
          obtain ⟨rfl, -, hp⟩ := hp
          refine zi_ireturn X Vz dX7_signChanges_133 ?_
          exact Or.inr (Or.inr ⟨i, hi, rfl, c0, Or.inr ⟨c1, by rw [hs], nI (rL (Sl i)), uT_o (o1 := (o.1, nI (rL (Sl i)), o.2.2)) hp q7⟩⟩)
        | succ w ih =>
          intro t g Q ht hu q7 qr
          have y1 := hu.2.1.1
          have y6 := hu.2.1.2.2.2.2.2.1
          have tl : t < rL (Sl i) := by omega
          refine zi_iload X dX7_signChanges_55 rfl ?_
          refine zi_aload_n X dX7_signChanges_57 rfl rfl ?_
          refine zi_getf (C := RX7) (T := TX7) (N := 27) (ci := 11) X (by first | assumption | exact mup_self | (rw [mup_ne (by assumption)]; assumption) | (rw [mup_ne (by assumption)]; exact mup_self) | (rw [mup_ne (by assumption), mup_ne (by assumption)]; assumption)) rfl in_X7 19 (by decide) wf_X7_250 rfl rfl dX7_signChanges_58 ?_
          refine zi_icmp_ge (tgt := 127) X dX7_signChanges_61 (by decide) (fun c_61 => (by first | exact absurd (nI_ge tl (by omega)) c_61 | exact absurd c_61 (nI_ge tl (by omega)))) (fun c_61 => ?_)
          refine zi_aload_n X dX7_signChanges_64 rfl rfl ?_
          refine zi_aload_n X dX7_signChanges_65 rfl rfl ?_
          refine zi_getf (C := RX7) (T := TX7) (N := 27) (ci := 11) X (by first | assumption | exact mup_self | (rw [mup_ne (by assumption)]; assumption) | (rw [mup_ne (by assumption)]; exact mup_self) | (rw [mup_ne (by assumption), mup_ne (by assumption)]; assumption)) rfl in_X7 18 (by decide) wf_X7_66 rfl rfl dX7_signChanges_66 ?_
          refine zi_iload X dX7_signChanges_69 rfl ?_
          refine zi_aaldA X 5 (by first | assumption | exact mup_self | (rw [mup_ne (by assumption)]; assumption) | (rw [mup_ne (by assumption)]; exact mup_self) | (rw [mup_ne (by assumption), mup_ne (by assumption)]; assumption)) rfl (vin (show t < 8 by omega) (by decide)) (r8_at (d := t) rfl (by omega)) dX7_signChanges_71 ?_
          refine zi_iload_n X dX7_signChanges_72 rfl rfl ?_
          refine zi_i2l X dX7_signChanges_73 ?_
          refine zi_iload_n X dX7_signChanges_74 rfl rfl ?_
          refine zi_callVi X (r_signAt l D y1 hu.1 (j := 8 + t) (by omega) (by rw [qr t tl]; exact zr.1.2.2.2.2.1 t tl) (x := x.toInt64) (by rw [ex]; unfold CC; omega) (k := kn) (by omega) (by rw [qr t tl, ex]; exact zr.2 t tl x.toInt kn (by omega) (by omega))) kc_X7_signAt wm_X7_263 (by first | assumption | exact mup_self | (rw [mup_ne (by assumption)]; assumption) | (rw [mup_ne (by assumption)]; exact mup_self) | (rw [mup_ne (by assumption), mup_ne (by assumption)]; assumption)) rfl wim_X7_signAt wse_X7_signAt ⟨Nat.le_of_ble_eq_true rfl, Nat.le_of_ble_eq_true rfl⟩ rfl rfl (Nat.le_of_ble_eq_true rfl) ⟨Nat.le_of_ble_eq_true rfl, Nat.le_of_ble_eq_true rfl⟩ dX7_signChanges_75 (fun r h4 hp => ?_)
          obtain ⟨hf4, hq4, rfl⟩ := hp
          have hu4 := rU_n hu hf4 hq4
          have z1 := hu4.2.1.1
          rw [qr t tl, ex, hst t]
          have hl := cL t
          have s119 : ∀ c' : Nat, c' = (chg s (t + 1)).2 → ∀ v : Int, v = (chg s (t + 1)).1 → zM z 0 0 119 [some (.ref (M 3 0)), some (.int (nI i)), some (.int x), some (.int (nI kn)), some (.int (nI c')), none, some (.int (nI t)), none] [.int (s3 v)] h4 := fun c' hc v hv => by
            subst hc hv
            refine zi_istore X dX7_signChanges_119 (by decide) ?_
            refine zi_iinc (v := nI (t + 1)) X dX7_signChanges_121 rfl (nI_inc _) (by decide) ?_
            refine zi_goto (tgt := 55) X dX7_signChanges_124 (by decide) ?_
            exact zi_sub (by repeat (first | exact trivial | refine And.intro rfl ?_)) (ih (t + 1) h4 Q (by omega) hu4 q7 qr)
          have s104 : ∀ d : Nat, (chg s t).2 + d = (chg s (t + 1)).2 → zM z 0 0 104 [some (.ref (M 3 0)), some (.int (nI i)), some (.int x), some (.int (nI kn)), some (.int (nI (chg s t).2)), some (.int (s3 (chg s t).1)), some (.int (nI t)), some (.int (s3 (s t)))] [.int (nI d), .int (nI (chg s t).2)] h4 := fun d hd => by
            by_cases c : s t = 0
            · refine zi_iadd X dX7_signChanges_104 ?_
              refine zi_istore X dX7_signChanges_105 (by decide) ?_
              refine zi_iload X dX7_signChanges_107 rfl ?_
              refine zi_if_ne (tgt := 117) X dX7_signChanges_109 (by decide) (fun c_109 => (by first | exact absurd (s3_0.mpr c) c_109 | exact absurd c_109 (s3_0.mpr c))) (fun c_109 => ?_)
              rw [nI_add]
              refine zi_iload X dX7_signChanges_112 rfl ?_
              refine zi_goto (tgt := 119) X dX7_signChanges_114 (by decide) ?_
              exact zi_sub (by repeat (first | exact trivial | refine And.intro rfl ?_)) (s119 _ hd _ (by rw [chg, if_pos c]))
            · refine zi_iadd X dX7_signChanges_104 ?_
              refine zi_istore X dX7_signChanges_105 (by decide) ?_
              refine zi_iload X dX7_signChanges_107 rfl ?_
              refine zi_if_ne (tgt := 117) X dX7_signChanges_109 (by decide) (fun c_109 => ?_) (fun c_109 => (by first | exact absurd (fun q => c (s3_0.mp q)) c_109 | exact absurd c_109 (fun q => c (s3_0.mp q))))
              rw [nI_add]
              refine zi_iload X dX7_signChanges_117 rfl ?_
              exact zi_sub (by repeat (first | exact trivial | refine And.intro rfl ?_)) (s119 _ hd _ (by rw [chg, if_neg c]))
          have d1 := (cS t).1
          have d0 := (cS t).2
          by_cases c1' : s t = 0
          · refine zi_istore X dX7_signChanges_78 (by decide) ?_
            refine zi_iload X dX7_signChanges_80 rfl ?_
            refine zi_iload X dX7_signChanges_82 rfl ?_
            refine zi_if_eq (tgt := 103) X dX7_signChanges_84 (by decide) (fun c_84 => ?_) (fun c_84 => (by first | exact absurd (s3_0.mpr c1') c_84 | exact absurd c_84 (s3_0.mpr c1')))
            refine zi_iconst (v := (nI 0)) X dX7_signChanges_103 (by decide) ?_
            exact zi_sub (by repeat (first | exact trivial | refine And.intro rfl ?_)) (s104 0 (d0 (fun q => q.1 c1')))
          · refine zi_istore X dX7_signChanges_78 (by decide) ?_
            refine zi_iload X dX7_signChanges_80 rfl ?_
            refine zi_iload X dX7_signChanges_82 rfl ?_
            refine zi_if_eq (tgt := 103) X dX7_signChanges_84 (by decide) (fun c_84 => (by first | exact absurd (fun q => c1' (s3_0.mp q)) c_84 | exact absurd c_84 (fun q => c1' (s3_0.mp q)))) (fun c_84 => ?_)
            by_cases c2 : (chg s t).1 = 0
            · refine zi_iload X dX7_signChanges_87 rfl ?_
              refine zi_if_eq (tgt := 103) X dX7_signChanges_89 (by decide) (fun c_89 => ?_) (fun c_89 => (by first | exact absurd (s3_0.mpr c2) c_89 | exact absurd c_89 (s3_0.mpr c2)))
              refine zi_iconst (v := (nI 0)) X dX7_signChanges_103 (by decide) ?_
              exact zi_sub (by repeat (first | exact trivial | refine And.intro rfl ?_)) (s104 0 (d0 (fun q => q.2.1 c2)))
            · refine zi_iload X dX7_signChanges_87 rfl ?_
              refine zi_if_eq (tgt := 103) X dX7_signChanges_89 (by decide) (fun c_89 => (by first | exact absurd (fun q => c2 (s3_0.mp q)) c_89 | exact absurd c_89 (fun q => c2 (s3_0.mp q)))) (fun c_89 => ?_)
              by_cases c3 : s t = (chg s t).1
              · refine zi_iload X dX7_signChanges_92 rfl ?_
                refine zi_iload X dX7_signChanges_94 rfl ?_
                refine zi_icmp_eq (tgt := 103) X dX7_signChanges_96 (by decide) (fun c_96 => ?_) (fun c_96 => (by first | exact absurd ((s3_e (hs3 t) hl).mpr c3) c_96 | exact absurd c_96 ((s3_e (hs3 t) hl).mpr c3)))
                refine zi_iconst (v := (nI 0)) X dX7_signChanges_103 (by decide) ?_
                exact zi_sub (by repeat (first | exact trivial | refine And.intro rfl ?_)) (s104 0 (d0 (fun q => q.2.2 c3)))
              · refine zi_iload X dX7_signChanges_92 rfl ?_
                refine zi_iload X dX7_signChanges_94 rfl ?_
                refine zi_icmp_eq (tgt := 103) X dX7_signChanges_96 (by decide) (fun c_96 => (by first | exact absurd (fun q => c3 ((s3_e (hs3 t) hl).mp q)) c_96 | exact absurd c_96 (fun q => c3 ((s3_e (hs3 t) hl).mp q)))) (fun c_96 => ?_)
                refine zi_iconst (v := (nI 1)) X dX7_signChanges_99 (by decide) ?_
                refine zi_goto (tgt := 104) X dX7_signChanges_100 (by decide) ?_
                exact zi_sub (by repeat (first | exact trivial | refine And.intro rfl ?_)) (s104 1 (d1 ⟨c1', c2, c3⟩))
    · refine zi_if_ne (tgt := 27) X dX7_signChanges_18 (by decide) (fun c_18 => (by first | exact absurd (by decide) c_18 | exact absurd c_18 (by decide))) (fun c_18 => ?_)
      refine zi_aload_n X dX7_signChanges_21 rfl rfl ?_
      refine zi_iconst (v := (nI 2)) X dX7_signChanges_22 (by decide) ?_
      refine zi_callVi X (u_fails l D hu) kc_X7_fails wm_X7_212 (by first | assumption | exact mup_self | (rw [mup_ne (by assumption)]; assumption) | (rw [mup_ne (by assumption)]; exact mup_self) | (rw [mup_ne (by assumption), mup_ne (by assumption)]; assumption)) rfl wim_X7_fails wse_X7_fails ⟨Nat.le_of_ble_eq_true rfl, Nat.le_of_ble_eq_true rfl⟩ rfl rfl (Nat.le_of_ble_eq_true rfl) ⟨Nat.le_of_ble_eq_true rfl, Nat.le_of_ble_eq_true rfl⟩ dX7_signChanges_23 (fun r h3 hp => ?_)
      refine zi_ireturn X Vz dX7_signChanges_26 ?_
      exact Or.inr (Or.inl ⟨⟨i, hi, rfl⟩, c0, o.2.1, uT_o (o1 := (o.1, o.2.1, o.2.2)) hp.2 rfl⟩)
  · refine zi_if_ne (tgt := 13) X dX7_signChanges_4 (by decide) (fun c_4 => (by first | exact absurd (by decide) c_4 | exact absurd c_4 (by decide))) (fun c_4 => ?_)
    refine zi_aload_n X dX7_signChanges_7 rfl rfl ?_
    refine zi_iconst (v := (nI 1)) X dX7_signChanges_8 (by decide) ?_
    refine zi_callVi X (u_fails l D hu) kc_X7_fails wm_X7_212 (by first | assumption | exact mup_self | (rw [mup_ne (by assumption)]; assumption) | (rw [mup_ne (by assumption)]; exact mup_self) | (rw [mup_ne (by assumption), mup_ne (by assumption)]; assumption)) rfl wim_X7_fails wse_X7_fails ⟨Nat.le_of_ble_eq_true rfl, Nat.le_of_ble_eq_true rfl⟩ rfl rfl (Nat.le_of_ble_eq_true rfl) ⟨Nat.le_of_ble_eq_true rfl, Nat.le_of_ble_eq_true rfl⟩ dX7_signChanges_9 (fun r h1 hp => ?_)
    refine zi_ireturn X Vz dX7_signChanges_12 ?_
    exact Or.inl ⟨q1, o.2.1, uT_o (o1 := (o.1, o.2.1, o.2.2)) hp.2 rfl⟩
end SG9
