/-! SturmRootsModel: its small methods -/
theorem inR_iff {x : Int32} {n : Nat} (hn : n < 2147483648) : inR x n ↔ ¬ x < 0 ∧ x < nI n := ⟨fun ⟨_, hi, e⟩ => i_out hn hi e, fun h => i_in h.1 h.2 hn⟩
def okM (f : Nat → Int64) : Prop := ∀ k, k < 14 → (7 ≤ k → f k = 0) ∧ (f k).toInt.natAbs ≤ 9999
section SM
variable {cA : Nat → ClassId} {M : Nat → Nat → Nat} {h : mH} {o : RO} {Sl : Nat → Nat → Int} {kp : Nat → Int} {cap n : Nat} {V : Nat → Iv} {P : Nat → Nat → Int}
theorem s_isSlot (l : Launch) (D : va_G) {x : Int32} : mCi l yX7_isSlot cX7_isSlot 1 .boolean (rmd 1) D (mT cA) [.int x] h (fun r h1 => h1 = h ∧ (inR x 5 ∧ r = nI 1 ∨ ¬ inR x 5 ∧ r = nI 0)) := by
  refine mEnter_i (by decide) (Nat.le_of_ble_eq_true rfl) rfl (fun z X Vz => ?_)
  by_cases c : inR x 5
  · obtain ⟨c1, c2⟩ := (inR_iff (by decide)).mp c
    refine zi_iload_n X dX7_isSlot_0 rfl rfl ?_
    refine zi_if_lt (tgt := 13) X dX7_isSlot_1 (by decide) (fun c_1 => (by first | exact absurd c1 c_1 | exact absurd c_1 c1)) (fun c_1 => ?_)
    refine zi_iload_n X dX7_isSlot_4 rfl rfl ?_
    refine zi_iconst (v := (nI 5)) X dX7_isSlot_5 (by decide) ?_
    refine zi_icmp_ge (tgt := 13) X dX7_isSlot_6 (by decide) (fun c_6 => (by first | exact absurd (Int32.not_le.mpr c2) c_6 | exact absurd c_6 (Int32.not_le.mpr c2))) (fun c_6 => ?_)
    refine zi_iconst (v := (nI 1)) X dX7_isSlot_9 (by decide) ?_
    refine zi_goto (tgt := 14) X dX7_isSlot_10 (by decide) ?_
    refine zi_zreturn X Vz rfl dX7_isSlot_14 ?_
    exact ⟨rfl, Or.inl ⟨c, rfl⟩⟩
  · by_cases c1 : x < 0
    · refine zi_iload_n X dX7_isSlot_0 rfl rfl ?_
      refine zi_if_lt (tgt := 13) X dX7_isSlot_1 (by decide) (fun c_1 => ?_) (fun c_1 => (by first | exact absurd c1 c_1 | exact absurd c_1 c1))
      refine zi_iconst (v := (nI 0)) X dX7_isSlot_13 (by decide) ?_
      refine zi_zreturn X Vz rfl dX7_isSlot_14 ?_
      exact ⟨rfl, Or.inr ⟨c, rfl⟩⟩
    · have c2 : ¬ x < nI 5 := fun q => c ((inR_iff (by decide)).mpr ⟨c1, q⟩)
      refine zi_iload_n X dX7_isSlot_0 rfl rfl ?_
      refine zi_if_lt (tgt := 13) X dX7_isSlot_1 (by decide) (fun c_1 => (by first | exact absurd c1 c_1 | exact absurd c_1 c1)) (fun c_1 => ?_)
      refine zi_iload_n X dX7_isSlot_4 rfl rfl ?_
      refine zi_iconst (v := (nI 5)) X dX7_isSlot_5 (by decide) ?_
      refine zi_icmp_ge (tgt := 13) X dX7_isSlot_6 (by decide) (fun c_6 => ?_) (fun c_6 => (by first | exact absurd (Int32.not_lt.mp c2) c_6 | exact absurd c_6 (Int32.not_lt.mp c2)))
      refine zi_iconst (v := (nI 0)) X dX7_isSlot_13 (by decide) ?_
      refine zi_zreturn X Vz rfl dX7_isSlot_14 ?_
      exact ⟨rfl, Or.inr ⟨c, rfl⟩⟩
theorem s_in (l : Launch) (D : va_G) {x a b : Int32} : mCi l yX7_in cX7_in 3 .boolean (rmd 1) D (mT cA) [.int x, .int a, .int b] h (fun r h1 => h1 = h ∧ ((a.toInt ≤ x.toInt ∧ x.toInt ≤ b.toInt) ∧ r = nI 1 ∨ ¬ (a.toInt ≤ x.toInt ∧ x.toInt ≤ b.toInt) ∧ r = nI 0)) := by
  refine mEnter_i (by decide) (Nat.le_of_ble_eq_true rfl) rfl (fun z X Vz => ?_)
  by_cases c1 : a.toInt ≤ x.toInt
  · by_cases c2 : x.toInt ≤ b.toInt
    · refine zi_iload_n X dX7_in_0 rfl rfl ?_
      refine zi_iload_n X dX7_in_1 rfl rfl ?_
      refine zi_icmp_lt (tgt := 14) X dX7_in_2 (by decide) (fun c_2 => (by first | exact absurd (Int32.not_lt.mpr ((fa_le _ _).mpr c1)) c_2 | exact absurd c_2 (Int32.not_lt.mpr ((fa_le _ _).mpr c1)))) (fun c_2 => ?_)
      refine zi_iload_n X dX7_in_5 rfl rfl ?_
      refine zi_iload_n X dX7_in_6 rfl rfl ?_
      refine zi_icmp_gt (tgt := 14) X dX7_in_7 (by decide) (fun c_7 => (by first | exact absurd (Int32.not_lt.mpr ((fa_le _ _).mpr c2)) c_7 | exact absurd c_7 (Int32.not_lt.mpr ((fa_le _ _).mpr c2)))) (fun c_7 => ?_)
      refine zi_iconst (v := (nI 1)) X dX7_in_10 (by decide) ?_
      refine zi_goto (tgt := 15) X dX7_in_11 (by decide) ?_
      refine zi_zreturn X Vz rfl dX7_in_15 ?_
      exact ⟨rfl, Or.inl ⟨⟨c1, c2⟩, rfl⟩⟩
    · refine zi_iload_n X dX7_in_0 rfl rfl ?_
      refine zi_iload_n X dX7_in_1 rfl rfl ?_
      refine zi_icmp_lt (tgt := 14) X dX7_in_2 (by decide) (fun c_2 => (by first | exact absurd (Int32.not_lt.mpr ((fa_le _ _).mpr c1)) c_2 | exact absurd c_2 (Int32.not_lt.mpr ((fa_le _ _).mpr c1)))) (fun c_2 => ?_)
      refine zi_iload_n X dX7_in_5 rfl rfl ?_
      refine zi_iload_n X dX7_in_6 rfl rfl ?_
      refine zi_icmp_gt (tgt := 14) X dX7_in_7 (by decide) (fun c_7 => ?_) (fun c_7 => (by first | exact absurd ((fa_lt _ _).mpr (by omega)) c_7 | exact absurd c_7 ((fa_lt _ _).mpr (by omega))))
      refine zi_iconst (v := (nI 0)) X dX7_in_14 (by decide) ?_
      refine zi_zreturn X Vz rfl dX7_in_15 ?_
      exact ⟨rfl, Or.inr ⟨fun q => c2 q.2, rfl⟩⟩
  · refine zi_iload_n X dX7_in_0 rfl rfl ?_
    refine zi_iload_n X dX7_in_1 rfl rfl ?_
    refine zi_icmp_lt (tgt := 14) X dX7_in_2 (by decide) (fun c_2 => ?_) (fun c_2 => (by first | exact absurd ((fa_lt _ _).mpr (by omega)) c_2 | exact absurd c_2 ((fa_lt _ _).mpr (by omega))))
    refine zi_iconst (v := (nI 0)) X dX7_in_14 (by decide) ?_
    refine zi_zreturn X Vz rfl dX7_in_15 ?_
    exact ⟨rfl, Or.inr ⟨fun q => c1 q.1, rfl⟩⟩
theorem in_R {x : Int32} {n : Nat} (hn : n < 2147483647) : ((nI 0).toInt ≤ x.toInt ∧ x.toInt ≤ (nI n).toInt) ↔ inR x (n + 1) := by
  rw [inR_iff (by omega), fa_lt, fa_lt, nI_int (by omega), nI_int (by omega), nI_int (by omega)]
  have : (0 : Int32).toInt = 0 := by decide
  omega
theorem s_isPoint (l : Launch) (D : va_G) {x k : Int32} : mCi l yX7_isPoint cX7_isPoint 2 .boolean (rmd 2) D (mT cA) [.int x, .int k] h (fun r h1 => h1 = h ∧ (isPt x k ∧ r = nI 1 ∨ ¬ isPt x k ∧ r = nI 0)) := by
  have e1 : ((-1000000 : Int32)).toInt = -1000000 := by decide
  have e2 : ((1000000 : Int32)).toInt = 1000000 := by decide
  have e3 : (nI 0).toInt = 0 := by decide
  have e4 : (nI 12).toInt = 12 := by decide
  refine mEnter_i (by decide) (Nat.le_of_ble_eq_true rfl) rfl (fun z X Vz => ?_)
  refine zi_iload_n X dX7_isPoint_0 rfl rfl ?_
  refine zi_ldc_w X wk_X7_257 dX7_isPoint_1 ?_
  refine zi_ldc_w X wk_X7_258 dX7_isPoint_4 ?_
  refine zi_callSi X (s_in l D) kc_X7_in wm_X7_232 wst_X7_in ⟨Nat.le_of_ble_eq_true rfl, Nat.le_of_ble_eq_true rfl⟩ rfl rfl (Nat.le_of_ble_eq_true rfl) ⟨Nat.le_of_ble_eq_true rfl, Nat.le_of_ble_eq_true rfl⟩ dX7_isPoint_7 (fun r h1 hp => ?_)
  obtain ⟨rfl, hp⟩ := hp
  rw [e1, e2] at hp
  rcases hp with ⟨c, rfl⟩ | ⟨c, rfl⟩
  · refine zi_if_eq (tgt := 27) X dX7_isPoint_10 (by decide) (fun c_10 => (by first | exact absurd (by decide) c_10 | exact absurd c_10 (by decide))) (fun c_10 => ?_)
    refine zi_iload_n X dX7_isPoint_13 rfl rfl ?_
    refine zi_iconst (v := (nI 0)) X dX7_isPoint_14 (by decide) ?_
    refine zi_bipush (v := (nI 12)) X dX7_isPoint_15 (by decide) ?_
    refine zi_callSi X (s_in l D) kc_X7_in wm_X7_232 wst_X7_in ⟨Nat.le_of_ble_eq_true rfl, Nat.le_of_ble_eq_true rfl⟩ rfl rfl (Nat.le_of_ble_eq_true rfl) ⟨Nat.le_of_ble_eq_true rfl, Nat.le_of_ble_eq_true rfl⟩ dX7_isPoint_17 (fun r h1 hp => ?_)
    obtain ⟨rfl, hp⟩ := hp
    rw [e3, e4] at hp
    rcases hp with ⟨c2, rfl⟩ | ⟨c2, rfl⟩
    · refine zi_if_eq (tgt := 27) X dX7_isPoint_20 (by decide) (fun c_20 => (by first | exact absurd (by decide) c_20 | exact absurd c_20 (by decide))) (fun c_20 => ?_)
      refine zi_iconst (v := (nI 1)) X dX7_isPoint_23 (by decide) ?_
      refine zi_goto (tgt := 28) X dX7_isPoint_24 (by decide) ?_
      refine zi_zreturn X Vz rfl dX7_isPoint_28 ?_
      exact ⟨rfl, Or.inl ⟨⟨c.1, c.2, c2.1, c2.2⟩, rfl⟩⟩
    · refine zi_if_eq (tgt := 27) X dX7_isPoint_20 (by decide) (fun c_20 => ?_) (fun c_20 => (by first | exact absurd (by decide) c_20 | exact absurd c_20 (by decide)))
      refine zi_iconst (v := (nI 0)) X dX7_isPoint_27 (by decide) ?_
      refine zi_zreturn X Vz rfl dX7_isPoint_28 ?_
      exact ⟨rfl, Or.inr ⟨fun q => c2 ⟨q.2.2.1, q.2.2.2⟩, rfl⟩⟩
  · refine zi_if_eq (tgt := 27) X dX7_isPoint_10 (by decide) (fun c_10 => ?_) (fun c_10 => (by first | exact absurd (by decide) c_10 | exact absurd c_10 (by decide)))
    refine zi_iconst (v := (nI 0)) X dX7_isPoint_27 (by decide) ?_
    refine zi_zreturn X Vz rfl dX7_isPoint_28 ?_
    exact ⟨rfl, Or.inr ⟨fun q => c ⟨q.1, q.2.1⟩, rfl⟩⟩
theorem s_degree (l : Launch) (D : va_G) {a : Nat} {s : Nat → Int} (ha : h a = some (slotA (cA 0) s)) (hs : ∀ k, k < 7 → (s k).natAbs ≤ 9999) : mCi l yX7_degree_ cX7_degree_ 2 .int (rmd 1) D (mT cA) [.ref a] h (fun r h1 => h1 = h ∧ r = iI (sDeg s)) := by
  refine mEnter_i (by decide) (Nat.le_of_ble_eq_true rfl) rfl (fun z X Vz => ?_)
  refine zi_bipush (v := (nI 6)) X dX7_degree__0 (by decide) ?_
  refine zi_istore_n X dX7_degree__2 rfl (by decide) ?_
  suffices key : ∀ m, m ≤ 7 → stI s 7 = stI s m → zM z 0 0 3 [some (.ref a), some (.int (nI m - nI 1))] [] h from by
    exact zi_sub (by repeat (first | exact trivial | refine And.intro rfl ?_)) (key 7 (Nat.le_refl 7) rfl)
  intro m
  induction m with
  | zero =>
    intro hm hq
    refine zi_iload_n X dX7_degree__3 rfl rfl ?_
    refine zi_if_lt (tgt := 19) X dX7_degree__4 (by decide) (fun c_4 => ?_) (fun c_4 => (by first | exact absurd (by decide) c_4 | exact absurd c_4 (by decide)))
    refine zi_iload_n X dX7_degree__19 rfl rfl ?_
    refine zi_ireturn X Vz dX7_degree__20 ?_
    exact ⟨rfl, by rw [sDeg_I, hq]; rfl⟩
  | succ k ih =>
    intro hm hq
    have k7 : k < 7 := by omega
    rw [nI_pr]
    refine zi_iload_n X dX7_degree__3 rfl rfl ?_
    refine zi_if_lt (tgt := 19) X dX7_degree__4 (by decide) (fun c_4 => (by first | exact absurd (nI_pos (by omega)) c_4 | exact absurd c_4 (nI_pos (by omega)))) (fun c_4 => ?_)
    refine zi_aload_n X dX7_degree__7 rfl rfl ?_
    refine zi_iload_n X dX7_degree__8 rfl rfl ?_
    refine zi_iald X 0 (by first | assumption | exact mup_self | (rw [mup_ne (by assumption)]; assumption) | (rw [mup_ne (by assumption)]; exact mup_self) | (rw [mup_ne (by assumption), mup_ne (by assumption)]; assumption)) rfl (vin k7 (by decide)) dX7_degree__9 ?_
    rw [slot_rd k7]
    by_cases c : s k = 0
    · refine zi_if_ne (tgt := 19) X dX7_degree__10 (by decide) (fun c_10 => (by first | exact absurd (by rw [c]; rfl) c_10 | exact absurd c_10 (by rw [c]; rfl))) (fun c_10 => ?_)
      refine zi_iinc X dX7_degree__13 rfl rfl (by decide) ?_
      refine zi_goto (tgt := 3) X dX7_degree__16 (by decide) ?_
      rw [nI_dm]
      exact zi_sub (by repeat (first | exact trivial | refine And.intro rfl ?_)) (ih (by omega) (by rw [hq, stI, if_pos c]))
    · have hne : ¬ iI (s k) = 0 := fun q => c (iI_inj (by have := hs k k7; omega) (by decide) (q.trans rfl))
      refine zi_if_ne (tgt := 19) X dX7_degree__10 (by decide) (fun c_10 => ?_) (fun c_10 => (by first | exact absurd hne c_10 | exact absurd c_10 hne))
      refine zi_iload_n X dX7_degree__19 rfl rfl ?_
      refine zi_ireturn X Vz dX7_degree__20 ?_
      exact ⟨rfl, by rw [sDeg_I, hq, stI, if_neg c, nI_pr]⟩
theorem u_tells (l : Launch) (D : va_G) (hu : rU cA M h o Sl kp cap n V P) {v : Int32} : mCi l yX7_tells cX7_tells 2 .int (rmd 1) D (mT cA) [.ref (M 3 0), .int v] h (fun r h1 => r = v ∧ h1 = mup h (M 3 0) (mO M (nI 0, o.2)) ∧ rU cA M h1 (nI 0, o.2) Sl kp cap n V P) := by
  have x1 := hu.2.1.1
  refine mEnter_i (by decide) (Nat.le_of_ble_eq_true rfl) rfl (fun z X Vz => ?_)
  refine zi_aload_n X dX7_tells_0 rfl rfl ?_
  refine zi_iconst (v := (nI 0)) X dX7_tells_1 (by decide) ?_
  refine zi_putf (C := RX7) (T := TX7) (N := 27) (ci := 11) (ty0 := tyX7) X (by first | assumption | exact mup_self | (rw [mup_ne (by assumption)]; assumption) | (rw [mup_ne (by assumption)]; exact mup_self) | (rw [mup_ne (by assumption), mup_ne (by assumption)]; assumption)) rfl in_X7 tyX7_ok nmX7 0 (by decide) wf_X7_87 rfl rfl rfl rfl rfl (Nat.le_of_ble_eq_true rfl) dX7_tells_2 ?_
  refine zi_iload_n X dX7_tells_5 rfl rfl ?_
  refine zi_ireturn X Vz dX7_tells_6 ?_
  exact ⟨rfl, rfl, rU_o hu (nI 0, o.2) rfl⟩
theorem u_fails (l : Launch) (D : va_G) (hu : rU cA M h o Sl kp cap n V P) {v : Int32} : mCi l yX7_fails cX7_fails 2 .int (rmd 1) D (mT cA) [.ref (M 3 0), .int v] h (fun r h1 => r = nI 0 ∧ rU cA M h1 (v, o.2) Sl kp cap n V P) := by
  have x1 := hu.2.1.1
  refine mEnter_i (by decide) (Nat.le_of_ble_eq_true rfl) rfl (fun z X Vz => ?_)
  refine zi_aload_n X dX7_fails_0 rfl rfl ?_
  refine zi_iload_n X dX7_fails_1 rfl rfl ?_
  refine zi_putf (C := RX7) (T := TX7) (N := 27) (ci := 11) (ty0 := tyX7) X (by first | assumption | exact mup_self | (rw [mup_ne (by assumption)]; assumption) | (rw [mup_ne (by assumption)]; exact mup_self) | (rw [mup_ne (by assumption), mup_ne (by assumption)]; assumption)) rfl in_X7 tyX7_ok nmX7 0 (by decide) wf_X7_87 rfl rfl rfl rfl rfl (Nat.le_of_ble_eq_true rfl) dX7_fails_2 ?_
  refine zi_iconst (v := (nI 0)) X dX7_fails_5 (by decide) ?_
  refine zi_ireturn X Vz dX7_fails_6 ?_
  exact ⟨rfl, rU_o hu (v, o.2) rfl⟩
theorem u_thrown (l : Launch) (D : va_G) (hu : rU cA M h o Sl kp cap n V P) : mCi l yX7_thrown cX7_thrown 1 .int (rmd 1) D (mT cA) [.ref (M 3 0)] h (fun r h1 => h1 = h ∧ r = o.1) := by
  have x1 := hu.2.1.1
  refine mEnter_i (by decide) (Nat.le_of_ble_eq_true rfl) rfl (fun z X Vz => ?_)
  refine zi_aload_n X dX7_thrown_0 rfl rfl ?_
  refine zi_getf (C := RX7) (T := TX7) (N := 27) (ci := 11) X (by first | assumption | exact mup_self | (rw [mup_ne (by assumption)]; assumption) | (rw [mup_ne (by assumption)]; exact mup_self) | (rw [mup_ne (by assumption), mup_ne (by assumption)]; assumption)) rfl in_X7 0 (by decide) wf_X7_87 rfl rfl dX7_thrown_1 ?_
  refine zi_ireturn X Vz dX7_thrown_4 ?_
  exact ⟨rfl, rfl⟩
theorem u_isZero (l : Launch) (D : va_G) (hu : rU cA M h o Sl kp cap n V P) {i : Nat} (hi : i < 5) (hs : ∀ k, k < 7 → (Sl i k).natAbs ≤ 9999) : mCi l yX7_isZero cX7_isZero 2 .boolean (rmd 2) D (mT cA) [.ref (M 3 0), .int (nI i)] h (fun r h1 => h1 = h ∧ (stI (Sl i) 7 = 0 ∧ r = nI 1 ∨ stI (Sl i) 7 ≠ 0 ∧ r = nI 0)) := by
  have x1 := hu.2.1.1
  have x2 := hu.2.1.2.1
  have x3 := hu.2.1.2.2.1 i hi
  refine mEnter_i (by decide) (Nat.le_of_ble_eq_true rfl) rfl (fun z X Vz => ?_)
  refine zi_aload_n X dX7_isZero_0 rfl rfl ?_
  refine zi_getf (C := RX7) (T := TX7) (N := 27) (ci := 11) X (by first | assumption | exact mup_self | (rw [mup_ne (by assumption)]; assumption) | (rw [mup_ne (by assumption)]; exact mup_self) | (rw [mup_ne (by assumption), mup_ne (by assumption)]; assumption)) rfl in_X7 1 (by decide) wf_X7_11 rfl rfl dX7_isZero_1 ?_
  refine zi_iload_n X dX7_isZero_4 rfl rfl ?_
  refine zi_aaldA X 4 (by first | assumption | exact mup_self | (rw [mup_ne (by assumption)]; assumption) | (rw [mup_ne (by assumption)]; exact mup_self) | (rw [mup_ne (by assumption), mup_ne (by assumption)]; assumption)) rfl (vin hi (by decide)) (sl4_at hi) dX7_isZero_5 ?_
  refine zi_callSi X (s_degree l D x3 hs) kc_X7_degree_ wm_X7_215 wst_X7_degree_ ⟨Nat.le_of_ble_eq_true rfl, Nat.le_of_ble_eq_true rfl⟩ rfl rfl (Nat.le_of_ble_eq_true rfl) ⟨Nat.le_of_ble_eq_true rfl, Nat.le_of_ble_eq_true rfl⟩ dX7_isZero_6 (fun r h1 hp => ?_)
  obtain ⟨rfl, rfl⟩ := hp
  rw [sDeg_I]
  by_cases c : stI (Sl i) 7 = 0
  · refine zi_if_ge (tgt := 16) X dX7_isZero_9 (by decide) (fun c_9 => (by first | exact absurd (by rw [c]; decide) c_9 | exact absurd c_9 (by rw [c]; decide))) (fun c_9 => ?_)
    refine zi_iconst (v := (nI 1)) X dX7_isZero_12 (by decide) ?_
    refine zi_goto (tgt := 17) X dX7_isZero_13 (by decide) ?_
    refine zi_zreturn X Vz rfl dX7_isZero_17 ?_
    exact ⟨rfl, Or.inl ⟨c, rfl⟩⟩
  · obtain ⟨s, hs⟩ : ∃ s, stI (Sl i) 7 = s + 1 := ⟨stI (Sl i) 7 - 1, by omega⟩
    have := stI_le (Sl i) 7
    refine zi_if_ge (tgt := 16) X dX7_isZero_9 (by decide) (fun c_9 => ?_) (fun c_9 => (by first | exact absurd (by rw [hs, nI_pr]; exact nI_pos' (by omega)) c_9 | exact absurd c_9 (by rw [hs, nI_pr]; exact nI_pos' (by omega))))
    refine zi_iconst (v := (nI 0)) X dX7_isZero_16 (by decide) ?_
    refine zi_zreturn X Vz rfl dX7_isZero_17 ?_
    exact ⟨rfl, Or.inr ⟨c, rfl⟩⟩
theorem u_clear (l : Launch) (D : va_G) (hu : rU cA M h o Sl kp cap n V P) : mCv l yX7_clear cX7_clear 2 (rmd 1) D (mT cA) [.ref (M 3 0)] h (fun h1 => rU cA M h1 o Sl kp cap n V P ∧ ∃ f, h1 (M 2 3) = some (mdE (cA 1) f) ∧ ∀ k, k < 14 → f k = 0) := by
  refine mEnter_v (by decide) (Nat.le_of_ble_eq_true rfl) rfl (fun z X Vz => ?_)
  refine zi_iconst (v := (nI 0)) X dX7_clear_0 (by decide) ?_
  refine zi_istore_n X dX7_clear_1 rfl (by decide) ?_
  suffices key : ∀ w i (g : mH) (f : Nat → Int64), i + w = 14 → rU cA M g o Sl kp cap n V P → g (M 2 3) = some (mdE (cA 1) f) → (∀ k, k < i → f k = 0) → zM z 0 0 2 [some (.ref (M 3 0)), some (.int (nI i))] [] g from by
    obtain ⟨f, hf⟩ := hu.2.1.2.2.2.2.2.2.2
    exact zi_sub (by repeat (first | exact trivial | refine And.intro rfl ?_)) (key 14 0 h f rfl hu hf (fun k hk => absurd hk (Nat.not_lt_zero k)))
  intro w
  induction w with
  | zero =>
    intro i g f hi hu hf hz
    obtain rfl : i = 14 := by omega
    have x1 := hu.2.1.1
    refine zi_iload_n X dX7_clear_2 rfl rfl ?_
    refine zi_aload_n X dX7_clear_3 rfl rfl ?_
    refine zi_getf (C := RX7) (T := TX7) (N := 27) (ci := 11) X (by first | assumption | exact mup_self | (rw [mup_ne (by assumption)]; assumption) | (rw [mup_ne (by assumption)]; exact mup_self) | (rw [mup_ne (by assumption), mup_ne (by assumption)]; assumption)) rfl in_X7 16 (by decide) wf_X7_59 rfl rfl dX7_clear_4 ?_
    refine zi_alen X 1 (by first | assumption | exact mup_self | (rw [mup_ne (by assumption)]; assumption) | (rw [mup_ne (by assumption)]; exact mup_self) | (rw [mup_ne (by assumption), mup_ne (by assumption)]; assumption)) rfl (show Int32.ofNat 14 = nI 14 from rfl) dX7_clear_7 ?_
    refine zi_icmp_ge (tgt := 24) X dX7_clear_8 (by decide) (fun c_8 => ?_) (fun c_8 => (by first | exact absurd (by decide) c_8 | exact absurd c_8 (by decide)))
    refine zi_return X Vz dX7_clear_24 ?_
    exact ⟨hu, f, hf, hz⟩
  | succ w ih =>
    intro i g f hi hu hf hz
    have x1 := hu.2.1.1
    refine zi_iload_n X dX7_clear_2 rfl rfl ?_
    refine zi_aload_n X dX7_clear_3 rfl rfl ?_
    refine zi_getf (C := RX7) (T := TX7) (N := 27) (ci := 11) X (by first | assumption | exact mup_self | (rw [mup_ne (by assumption)]; assumption) | (rw [mup_ne (by assumption)]; exact mup_self) | (rw [mup_ne (by assumption), mup_ne (by assumption)]; assumption)) rfl in_X7 16 (by decide) wf_X7_59 rfl rfl dX7_clear_4 ?_
    refine zi_alen X 1 (by first | assumption | exact mup_self | (rw [mup_ne (by assumption)]; assumption) | (rw [mup_ne (by assumption)]; exact mup_self) | (rw [mup_ne (by assumption), mup_ne (by assumption)]; assumption)) rfl (show Int32.ofNat 14 = nI 14 from rfl) dX7_clear_7 ?_
    refine zi_icmp_ge (tgt := 24) X dX7_clear_8 (by decide) (fun c_8 => (by first | exact absurd (nI_ge (show i < 14 by omega) (by decide)) c_8 | exact absurd c_8 (nI_ge (show i < 14 by omega) (by decide)))) (fun c_8 => ?_)
    refine zi_aload_n X dX7_clear_11 rfl rfl ?_
    refine zi_getf (C := RX7) (T := TX7) (N := 27) (ci := 11) X (by first | assumption | exact mup_self | (rw [mup_ne (by assumption)]; assumption) | (rw [mup_ne (by assumption)]; exact mup_self) | (rw [mup_ne (by assumption), mup_ne (by assumption)]; assumption)) rfl in_X7 16 (by decide) wf_X7_59 rfl rfl dX7_clear_12 ?_
    refine zi_iload_n X dX7_clear_15 rfl rfl ?_
    refine zi_lconst (v := lN 0) X dX7_clear_16 (by decide) ?_
    refine zi_last X 1 (by first | assumption | exact mup_self | (rw [mup_ne (by assumption)]; assumption) | (rw [mup_ne (by assumption)]; exact mup_self) | (rw [mup_ne (by assumption), mup_ne (by assumption)]; assumption)) rfl (vin (show i < 14 by omega) (by decide)) dX7_clear_17 ?_
    refine zi_iinc (v := nI (i + 1)) X dX7_clear_18 rfl (nI_inc _) (by decide) ?_
    refine zi_goto (tgt := 2) X dX7_clear_21 (by decide) ?_
    rw [nI_cl (show i < 2147483648 by omega)]
    refine zi_sub (by repeat (first | exact trivial | refine And.intro rfl ?_)) (ih (i + 1) _ (vp_updL f i (lN 0)) (by omega) (rU_m hu _) mup_self (fun k hk => ?_))
    by_cases c : k = i
    · rw [c, vpL_s]; rfl
    · rw [vpL_n c]; exact hz k (by omega)
end SM
