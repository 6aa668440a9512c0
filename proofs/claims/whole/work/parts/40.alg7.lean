/-! SturmRoots$Algebra: combine -/
theorem blen_mul {a b : Nat} (ha : a < BB ^ 20) (hb : b < BB ^ 20) (h : a * b < BB ^ 19) : blen a + blen b ≤ 20 := by
  have h1 := blen_le a
  have h2 := blen_le b
  rcases Nat.eq_zero_or_pos (blen a) with q1 | q1
  · omega
  · rcases Nat.eq_zero_or_pos (blen b) with q2 | q2
    · omega
    · have h3 := blen_ge ha q1
      have h4 := blen_ge hb q2
      have h5 : BB ^ (blen a - 1 + (blen b - 1)) ≤ a * b := by
        rw [Nat.pow_add]
        exact Nat.mul_le_mul h3 h4
      have h6 : BB ^ (blen a - 1 + (blen b - 1)) < BB ^ 19 := Nat.lt_of_le_of_lt h5 h
      have h7 : blen a - 1 + (blen b - 1) < 19 := (Nat.pow_lt_pow_iff_right (by decide)).mp h6
      omega
theorem add19 {a b : Int} (ha : a.natAbs < BB ^ 19) (hb : b.natAbs < BB ^ 19) : (a + b).natAbs < BB ^ 20 := by
  have h1 : (a + b).natAbs ≤ a.natAbs + b.natAbs := Int.natAbs_add_le a b
  have h2 : BB ^ 19 + BB ^ 19 ≤ BB ^ 20 := by
    have : BB ^ 19 * 2 ≤ BB ^ 19 * BB := Nat.mul_le_mul_left _ (by decide)
    rw [Nat.pow_succ BB 19]
    omega
  omega
theorem p19_20 {n : Nat} (h : n < BB ^ 19) : n < BB ^ 20 := Nat.lt_of_lt_of_le h (Nat.pow_le_pow_right (by decide) (by decide))
section ALG7
variable {cA : Nat → ClassId} {S : Nat → Nat → Nat} {B : Nat → Int} {P : Nat → Nat → Int} {G Ln : Nat → Nat} {h : mH}
/-- a product among the algebra's bigs -/
theorem a_product (l : Launch) (D : va_G) (hh : hA cA S B G Ln h) {k n m : Nat} (hk : k < 164) (hn : n < 164) (hm : m < 164) (h1 : n ≠ k) (h2 : m ≠ k) (hp : (B n).natAbs * (B m).natAbs < BB ^ 19) :
    mCv l yX1_becomeProduct cX1_becomeProduct 4 (rmd 2) D (mT cA) [.ref (S 0 k), .ref (S 0 n), .ref (S 0 m)] h (fun g => hfr S g h ∧ hA cA S (updI B k (B n * B m)) G Ln g) := by
  have b1 := hh.1 k hk
  have b2 := hh.1 n hn
  have b3 := hh.1 m hm
  refine mSub_v (k_becomeProduct l D cA b1 b2 b3 (hA_i0 hh hn hk h1) (hA_i0 hh hm hk h2) (hA_i1 hh hn hk h1) (hA_i1 hh hm hk h2) (blen_mul b2.2.2 b3.2.2 hp)) (fun g e => ?_)
  rw [e]
  exact ⟨hfr_mbig hk, hA_mbig hh hk (by rw [Int.natAbs_mul]; exact p19_20 hp)⟩
theorem a_plus (l : Launch) (D : va_G) (hh : hA cA S B G Ln h) {k n : Nat} (hk : k < 164) (hn : n < 164) (h1 : n ≠ k) (hv : (B k).natAbs < BB ^ 19) (hw : (B n).natAbs < BB ^ 19) :
    mCv l yX1_plus cX1_plus 9 (rmd 2) D (mT cA) [.ref (S 0 k), .ref (S 0 n)] h (fun g => hfr S g h ∧ hA cA S (updI B k (B k + B n)) G Ln g) := by
  refine mSub_v (k_plus l D cA (hh.1 k hk) (hh.1 n hn) (hA_i0 hh hn hk h1) (hA_i1 hh hn hk h1) hv hw) (fun g e => ?_)
  rw [e]
  exact ⟨hfr_mbig hk, hA_mbig hh hk (add19 hv hw)⟩
theorem a_become (l : Launch) (D : va_G) (hh : hA cA S B G Ln h) {k n : Nat} (hk : k < 164) (hn : n < 164) (h1 : n ≠ k) :
    mCv l yX1_become cX1_become 2 (rmd 1) D (mT cA) [.ref (S 0 k), .ref (S 0 n)] h (fun g => hfr S g h ∧ hA cA S (updI B k (B n)) G Ln g) := by
  refine mSub_v (k_become l D cA (hh.1 k hk) (hh.1 n hn) (hA_i0 hh hn hk h1)) (fun g e => ?_)
  rw [e]
  exact ⟨hfr_mbig hk, hA_mbig hh hk (hh.1 n hn).2.2⟩
theorem a_magnitude (l : Launch) (D : va_G) (hh : hA cA S B G Ln h) {k n : Nat} (hk : k < 164) (hn : n < 164) (h1 : n ≠ k) :
    mCv l yX1_becomeMagnitude cX1_becomeMagnitude 2 (rmd 2) D (mT cA) [.ref (S 0 k), .ref (S 0 n)] h (fun g => hfr S g h ∧ hA cA S (updI B k ((B n).natAbs : Nat)) G Ln g) := by
  refine mSub_v (k_becomeMagnitude l D cA (hh.1 k hk) (hh.1 n hn) (hA_i0 hh hn hk h1)) (fun g e => ?_)
  rw [e]
  exact ⟨hfr_mbig hk, hA_mbig hh hk (hh.1 n hn).2.2⟩
theorem a_clear (l : Launch) (D : va_G) (hh : hA cA S B G Ln h) {k : Nat} (hk : k < 164) :
    mCv l yX1_clear cX1_clear 2 (rmd 1) D (mT cA) [.ref (S 0 k)] h (fun g => hfr S g h ∧ hA cA S (updI B k 0) G Ln g) := by
  refine mSub_v (k_clear l D cA (hh.1 k hk)) (fun g e => ?_)
  rw [e]
  exact ⟨hfr_mbig hk, hA_mbig hh hk (BB_pos 20)⟩
theorem a_flip (l : Launch) (D : va_G) (hh : hA cA S B G Ln h) {k : Nat} (hk : k < 164) :
    mCv l yX1_flipSign cX1_flipSign 1 (rmd 1) D (mT cA) [.ref (S 0 k)] h (fun g => hfr S g h ∧ hA cA S (updI B k (-B k)) G Ln g) := by
  refine mSub_v (k_flip l D cA (hh.1 k hk)) (fun g e => ?_)
  rw [e]
  exact ⟨hfr_mbig hk, hA_mbig hh hk (by rw [Int.natAbs_neg]; exact (hh.1 k hk).2.2)⟩
theorem a_isZero (l : Launch) (D : va_G) (hh : hA cA S B G Ln h) {k : Nat} (hk : k < 164) :
    mCi l yX1_isZero cX1_isZero 1 .boolean (rmd 1) D (mT cA) [.ref (S 0 k)] h (fun x h1 => h1 = h ∧ x = if B k = 0 then nI 1 else nI 0) :=
  k_isZero l D cA (hh.1 k hk).1 (hh.1 k hk).2.2
theorem p_combineN (l : Launch) (D : va_G) (hh : hA cA S B G Ln h) {n : Nat} (hn : n < 154) (h1 : (B n).natAbs * (B 159).natAbs < BB ^ 19) :
    mCv l yX0_combine cX0_combine 3 (rmd 3) D (mT cA) [.ref (S 6 0), .ref (S 0 n), .null] h (fun g => hfr S g h ∧ ∃ B', hA cA S B' G Ln g ∧ (∀ k, k ≠ n → k ≠ 161 → B' k = B k) ∧ B' n = B n * B 159) := by
  refine mEnter_v (by decide) (Nat.le_of_ble_eq_true rfl) rfl (fun z X Vz => ?_)
  have a0 := hh.2.2.2.1
  have hn1 : n < 164 := by omega
  have a1 := (hh.1 n hn1).1
  have a2 := (hh.1 161 (by decide)).1
  refine zi_aload_n X dX0_combine_0 rfl rfl ?_
  refine zi_getf (C := RX0) (T := TX0) (N := 14) (ci := 4) X (by first | assumption | exact mup_self | (rw [mup_ne (by assumption)]; assumption) | (rw [mup_ne (by assumption)]; exact mup_self) | (rw [mup_ne (by assumption), mup_ne (by assumption)]; assumption)) rfl in_X0 7 (by decide) wf_X0_36 rfl rfl dX0_combine_1 ?_
  refine zi_aload_n X dX0_combine_4 rfl rfl ?_
  refine zi_aload_n X dX0_combine_5 rfl rfl ?_
  refine zi_getf (C := RX0) (T := TX0) (N := 14) (ci := 4) X (by first | assumption | exact mup_self | (rw [mup_ne (by assumption)]; assumption) | (rw [mup_ne (by assumption)]; exact mup_self) | (rw [mup_ne (by assumption), mup_ne (by assumption)]; assumption)) rfl in_X0 5 (by decide) wf_X0_30 rfl rfl dX0_combine_6 ?_
  refine zi_callVv X (a_product l D hh (k := 161) (n := n) (m := 159) (by decide) hn1 (by decide) (by omega) (by decide) h1) kc_X1_becomeProduct wm_X0_125 (by first | assumption | exact mup_self | (rw [mup_ne (by assumption)]; assumption) | (rw [mup_ne (by assumption)]; exact mup_self) | (rw [mup_ne (by assumption), mup_ne (by assumption)]; assumption)) rfl wim_X1_becomeProduct wse_X1_becomeProduct ⟨Nat.le_of_ble_eq_true rfl, Nat.le_of_ble_eq_true rfl⟩ rfl rfl (Nat.le_of_ble_eq_true rfl) ⟨Nat.le_of_ble_eq_true rfl, Nat.le_of_ble_eq_true rfl⟩ dX0_combine_9 (fun g1 e1 => ?_)
  obtain ⟨e1, e2⟩ := e1
  have b0 := e2.2.2.2.1
  have b1 := (e2.1 n hn1).1
  refine zi_aload_n X dX0_combine_12 rfl rfl ?_
  refine zi_aload_n X dX0_combine_13 rfl rfl ?_
  refine zi_getf (C := RX0) (T := TX0) (N := 14) (ci := 4) X (by first | assumption | exact mup_self | (rw [mup_ne (by assumption)]; assumption) | (rw [mup_ne (by assumption)]; exact mup_self) | (rw [mup_ne (by assumption), mup_ne (by assumption)]; assumption)) rfl in_X0 7 (by decide) wf_X0_36 rfl rfl dX0_combine_14 ?_
  refine zi_callVv X (a_become l D e2 (k := n) (n := 161) hn1 (by decide) (by omega)) kc_X1_become wm_X0_77 (by first | assumption | exact mup_self | (rw [mup_ne (by assumption)]; assumption) | (rw [mup_ne (by assumption)]; exact mup_self) | (rw [mup_ne (by assumption), mup_ne (by assumption)]; assumption)) rfl wim_X1_become wse_X1_become ⟨Nat.le_of_ble_eq_true rfl, Nat.le_of_ble_eq_true rfl⟩ rfl rfl (Nat.le_of_ble_eq_true rfl) ⟨Nat.le_of_ble_eq_true rfl, Nat.le_of_ble_eq_true rfl⟩ dX0_combine_17 (fun g2 e3 => ?_)
  obtain ⟨e3, e4⟩ := e3
  refine zi_aload_nN X dX0_combine_20 rfl rfl ?_
  refine zi_ifnull_null X dX0_combine_21 (tgt := 44) (by decide) ?_
  refine zi_return X Vz dX0_combine_44 ?_
  refine ⟨hfr_tr e3 e1, _, e4, fun k k1 k2 => ?_, ?_⟩
  · rw [updI_n k1, updI_n k2]
  · rw [updI_s, updI_s]
theorem p_combine (l : Launch) (D : va_G) (hh : hA cA S B G Ln h) {n m : Nat} (hn : n < 154) (hm : m < 154) (hnm : m ≠ n) (h1 : (B n).natAbs * (B 159).natAbs < BB ^ 19) (h2 : (B 160).natAbs * (B m).natAbs < BB ^ 19) :
    mCv l yX0_combine cX0_combine 3 (rmd 3) D (mT cA) [.ref (S 6 0), .ref (S 0 n), .ref (S 0 m)] h (fun g => hfr S g h ∧ ∃ B', hA cA S B' G Ln g ∧ (∀ k, k ≠ n → k ≠ 161 → B' k = B k) ∧ B' n = B n * B 159 + B 160 * B m) := by
  refine mEnter_v (by decide) (Nat.le_of_ble_eq_true rfl) rfl (fun z X Vz => ?_)
  have a0 := hh.2.2.2.1
  have hn1 : n < 164 := by omega
  have hm1 : m < 164 := by omega
  have a1 := (hh.1 n hn1).1
  have a2 := (hh.1 161 (by decide)).1
  refine zi_aload_n X dX0_combine_0 rfl rfl ?_
  refine zi_getf (C := RX0) (T := TX0) (N := 14) (ci := 4) X (by first | assumption | exact mup_self | (rw [mup_ne (by assumption)]; assumption) | (rw [mup_ne (by assumption)]; exact mup_self) | (rw [mup_ne (by assumption), mup_ne (by assumption)]; assumption)) rfl in_X0 7 (by decide) wf_X0_36 rfl rfl dX0_combine_1 ?_
  refine zi_aload_n X dX0_combine_4 rfl rfl ?_
  refine zi_aload_n X dX0_combine_5 rfl rfl ?_
  refine zi_getf (C := RX0) (T := TX0) (N := 14) (ci := 4) X (by first | assumption | exact mup_self | (rw [mup_ne (by assumption)]; assumption) | (rw [mup_ne (by assumption)]; exact mup_self) | (rw [mup_ne (by assumption), mup_ne (by assumption)]; assumption)) rfl in_X0 5 (by decide) wf_X0_30 rfl rfl dX0_combine_6 ?_
  refine zi_callVv X (a_product l D hh (k := 161) (n := n) (m := 159) (by decide) hn1 (by decide) (by omega) (by decide) h1) kc_X1_becomeProduct wm_X0_125 (by first | assumption | exact mup_self | (rw [mup_ne (by assumption)]; assumption) | (rw [mup_ne (by assumption)]; exact mup_self) | (rw [mup_ne (by assumption), mup_ne (by assumption)]; assumption)) rfl wim_X1_becomeProduct wse_X1_becomeProduct ⟨Nat.le_of_ble_eq_true rfl, Nat.le_of_ble_eq_true rfl⟩ rfl rfl (Nat.le_of_ble_eq_true rfl) ⟨Nat.le_of_ble_eq_true rfl, Nat.le_of_ble_eq_true rfl⟩ dX0_combine_9 (fun g1 e1 => ?_)
  obtain ⟨e1, e2⟩ := e1
  have b0 := e2.2.2.2.1
  have b1 := (e2.1 n hn1).1
  refine zi_aload_n X dX0_combine_12 rfl rfl ?_
  refine zi_aload_n X dX0_combine_13 rfl rfl ?_
  refine zi_getf (C := RX0) (T := TX0) (N := 14) (ci := 4) X (by first | assumption | exact mup_self | (rw [mup_ne (by assumption)]; assumption) | (rw [mup_ne (by assumption)]; exact mup_self) | (rw [mup_ne (by assumption), mup_ne (by assumption)]; assumption)) rfl in_X0 7 (by decide) wf_X0_36 rfl rfl dX0_combine_14 ?_
  refine zi_callVv X (a_become l D e2 (k := n) (n := 161) hn1 (by decide) (by omega)) kc_X1_become wm_X0_77 (by first | assumption | exact mup_self | (rw [mup_ne (by assumption)]; assumption) | (rw [mup_ne (by assumption)]; exact mup_self) | (rw [mup_ne (by assumption), mup_ne (by assumption)]; assumption)) rfl wim_X1_become wse_X1_become ⟨Nat.le_of_ble_eq_true rfl, Nat.le_of_ble_eq_true rfl⟩ rfl rfl (Nat.le_of_ble_eq_true rfl) ⟨Nat.le_of_ble_eq_true rfl, Nat.le_of_ble_eq_true rfl⟩ dX0_combine_17 (fun g2 e3 => ?_)
  obtain ⟨e3, e4⟩ := e3
  rw [updI_s] at e4
  have c0 := e4.2.2.2.1
  have c1 := (e4.1 161 (by decide)).1
  have f160 : updI (updI B 161 (B n * B 159)) n (B n * B 159) 160 = B 160 := by rw [updI_n (by omega), updI_n (by decide)]
  have fm : updI (updI B 161 (B n * B 159)) n (B n * B 159) m = B m := by rw [updI_n hnm, updI_n (by omega)]
  refine zi_aload_n X dX0_combine_20 rfl rfl ?_
  refine zi_ifnull_ref X dX0_combine_21 ?_
  refine zi_aload_n X dX0_combine_24 rfl rfl ?_
  refine zi_getf (C := RX0) (T := TX0) (N := 14) (ci := 4) X (by first | assumption | exact mup_self | (rw [mup_ne (by assumption)]; assumption) | (rw [mup_ne (by assumption)]; exact mup_self) | (rw [mup_ne (by assumption), mup_ne (by assumption)]; assumption)) rfl in_X0 7 (by decide) wf_X0_36 rfl rfl dX0_combine_25 ?_
  refine zi_aload_n X dX0_combine_28 rfl rfl ?_
  refine zi_getf (C := RX0) (T := TX0) (N := 14) (ci := 4) X (by first | assumption | exact mup_self | (rw [mup_ne (by assumption)]; assumption) | (rw [mup_ne (by assumption)]; exact mup_self) | (rw [mup_ne (by assumption), mup_ne (by assumption)]; assumption)) rfl in_X0 6 (by decide) wf_X0_33 rfl rfl dX0_combine_29 ?_
  refine zi_aload_n X dX0_combine_32 rfl rfl ?_
  refine zi_callVv X (a_product l D e4 (k := 161) (n := 160) (m := m) (by decide) (by decide) hm1 (by decide) (by omega) (by rw [f160, fm]; exact h2)) kc_X1_becomeProduct wm_X0_125 (by first | assumption | exact mup_self | (rw [mup_ne (by assumption)]; assumption) | (rw [mup_ne (by assumption)]; exact mup_self) | (rw [mup_ne (by assumption), mup_ne (by assumption)]; assumption)) rfl wim_X1_becomeProduct wse_X1_becomeProduct ⟨Nat.le_of_ble_eq_true rfl, Nat.le_of_ble_eq_true rfl⟩ rfl rfl (Nat.le_of_ble_eq_true rfl) ⟨Nat.le_of_ble_eq_true rfl, Nat.le_of_ble_eq_true rfl⟩ dX0_combine_33 (fun g3 e5 => ?_)
  obtain ⟨e5, e6⟩ := e5
  rw [f160, fm] at e6
  have d0 := e6.2.2.2.1
  have d1 := (e6.1 n hn1).1
  have fn : updI (updI (updI B 161 (B n * B 159)) n (B n * B 159)) 161 (B 160 * B m) n = B n * B 159 := by rw [updI_n (by omega), updI_s]
  refine zi_aload_n X dX0_combine_36 rfl rfl ?_
  refine zi_aload_n X dX0_combine_37 rfl rfl ?_
  refine zi_getf (C := RX0) (T := TX0) (N := 14) (ci := 4) X (by first | assumption | exact mup_self | (rw [mup_ne (by assumption)]; assumption) | (rw [mup_ne (by assumption)]; exact mup_self) | (rw [mup_ne (by assumption), mup_ne (by assumption)]; assumption)) rfl in_X0 7 (by decide) wf_X0_36 rfl rfl dX0_combine_38 ?_
  refine zi_callVv X (a_plus l D e6 (k := n) (n := 161) hn1 (by decide) (by omega) (by rw [fn, Int.natAbs_mul]; exact h1) (by rw [updI_s, Int.natAbs_mul]; exact h2)) kc_X1_plus wm_X0_128 (by first | assumption | exact mup_self | (rw [mup_ne (by assumption)]; assumption) | (rw [mup_ne (by assumption)]; exact mup_self) | (rw [mup_ne (by assumption), mup_ne (by assumption)]; assumption)) rfl wim_X1_plus wse_X1_plus ⟨Nat.le_of_ble_eq_true rfl, Nat.le_of_ble_eq_true rfl⟩ rfl rfl (Nat.le_of_ble_eq_true rfl) ⟨Nat.le_of_ble_eq_true rfl, Nat.le_of_ble_eq_true rfl⟩ dX0_combine_41 (fun g4 e7 => ?_)
  obtain ⟨e7, e8⟩ := e7
  refine zi_return X Vz dX0_combine_44 ?_
  refine ⟨hfr_tr e7 (hfr_tr e5 (hfr_tr e3 e1)), _, e8, fun k k1 k2 => ?_, ?_⟩
  · rw [updI_n k1, updI_n k2, updI_n k1, updI_n k2]
  · rw [updI_s, fn, updI_s]
end ALG7
