/-! SturmRoots$Big: magnify, multiplyBy, becomeValue, complement -/
theorem l_low {x : Int64} {X : Nat} (h : x.toInt = (X : Int)) : (x &&& 1073741823).toInt32 = nI (X % BB) := by
  rw [l_and30, h]
  congr 1
theorem l_lowI {x : Int64} {X : Int} (h : x.toInt = X) : (x &&& 1073741823).toInt32 = nI (X % 1073741824).toNat := by
  rw [l_and30, h]
theorem l_hi {x : Int64} {X : Nat} (h : x.toInt = (X : Int)) : (x >>> ((nI 30).toInt64 &&& 63)).toInt = ((X / BB : Nat) : Int) := by
  rw [l_shr30, h]
  rfl
theorem l_hiI {x : Int64} {X : Int} (h : x.toInt = X) : (x >>> ((nI 30).toInt64 &&& 63)).toInt = X / 1073741824 := by
  rw [l_shr30, h]
theorem l_d {d : Nat} (h : d < BB) : (nI d).toInt64.toInt = (d : Int) := by
  rw [i32_i64, nI_int (by unfold BB at h; omega)]
theorem lN0 : (lN 0).toInt = ((0 : Nat) : Int) := rfl
theorem lN1 : (lN 1).toInt = ((1 : Nat) : Int) := rfl
theorem l_eq0 {x : Int64} {X : Nat} (h : x.toInt = (X : Int)) : x = lN 0 ↔ X = 0 := by
  constructor
  · intro e
    rw [e, lN0] at h
    omega
  · rintro rfl
    exact i64_ext (h.trans lN0.symm)
theorem bval_succ_eq {e : Nat → Nat} {i x : Nat} : bval (updN e i x) (i + 1) = bval e i + x * BB ^ i := by
  rw [bval, updN_s, bval_cong (fun j hj => updN_n (by omega))]
theorem mag_div (val : Nat) : val % BB + (val / BB) * BB = val := by
  rw [Nat.mul_comm]
  exact Nat.mod_add_div val BB
theorem mul_pow_succ (a i : Nat) : a * BB ^ (i + 1) = (a * BB) * BB ^ i := by rw [Nat.pow_succ, Nat.mul_assoc, Nat.mul_comm (BB ^ i) BB]
theorem k_magnify (l : Launch) (D : va_G) (cA : Nat → ClassId) {h : mH} {b r : Nat} {V F : Nat} {g : Int32} {f : Int64} (hb : h b = some (bO r (nI (blen V)) g)) (hr : h r = some (bA (cA 0) (bN (bdig V)))) (hf : f.toInt = (F : Int)) (hF0 : 0 < F) (hF : F < BB) (hVF : V * F < BB ^ 20) :
    mCv l yX1_magnify cX1_magnify 8 (rmd 1) D (mT cA) [.ref b, .long f] h (fun h1 => h1 = mup (mup h r (bA (cA 0) (bN (bdig (V * F))))) b (bO r (nI (blen (V * F))) g)) := by
  have hbr : b ≠ r := fun q => by rw [q, hr] at hb; cases hb
  have hV : V < BB ^ 20 := Nat.lt_of_le_of_lt (Nat.le_mul_of_pos_right V hF0) hVF
  refine mEnter_v (by decide) (Nat.le_of_ble_eq_true rfl) rfl (fun z X Vz => ?_)
  have hl := blen_le V
  have hdz : ∀ j, blen V ≤ j → bdig V j = 0 := fun j hj => bdig_big (blen_lt hV) hj
  have hVd : ∀ i, blen V ≤ i → bval (bdig V) i = V := fun i hi => bval_bdig' (Nat.lt_of_lt_of_le (blen_lt hV) (Nat.pow_le_pow_right (by decide) hi))
  have hBB : BB = 1073741824 := rfl
  refine zi_lconst (v := lN 0) X dX1_magnify_0 (by decide) ?_
  refine zi_lstore_n X dX1_magnify_1 rfl (by decide) ?_
  refine zi_iconst (v := (nI 0)) X dX1_magnify_2 (by decide) ?_
  refine zi_istore X dX1_magnify_3 (by decide) ?_
  suffices key : ∀ k i (e : Nat → Nat) (C : Nat) (c : Int64) (o : Option Value), i + k = 20 → c.toInt = (C : Int) → C < BB → (∀ j, j < i → e j < BB) → (∀ j, i ≤ j → e j = bdig V j) → bval e i + C * BB ^ i = F * bval (bdig V) i → (0 < i → blen V ≤ i → C = 0 → e (i - 1) ≠ 0) → zM z 0 0 5 [some (.ref b), some (.long f), none, some (.long c), none, some (.int (nI i)), none, none] [] (mup h r (bA (cA 0) (bN e))) from by
    refine zi_sub (by repeat (first | exact trivial | refine And.intro rfl ?_)) (zi_eqh (h' := mup h r (bA (cA 0) (bN (bdig V)))) (mup_same hr).symm (key 20 0 (bdig V) 0 (lN 0) none rfl rfl (by decide) (fun j hj => absurd hj (Nat.not_lt_zero j)) (fun j _ => rfl) (by simp [bval]) (fun q => absurd q (Nat.lt_irrefl 0))))
  intro k
  have fin : ∀ i (e : Nat → Nat) (C : Nat) (c : Int64), i ≤ 20 → (∀ j, j < i → e j < BB) → (∀ j, i ≤ j → e j = bdig V j) → bval e i + C * BB ^ i = F * bval (bdig V) i → (0 < i → blen V ≤ i → C = 0 → e (i - 1) ≠ 0) → (i = 20 ∨ (blen V ≤ i ∧ C = 0)) → zM z 0 0 67 [some (.ref b), some (.long f), none, some (.long c), none, some (.int (nI i)), none, none] [] (mup h r (bA (cA 0) (bN e))) := by
    intro i e C c hi h1 h2 h3 h4 h5
    have hn : blen V ≤ i := by rcases h5 with h5 | h5 <;> omega
    have hC : C = 0 := by
      rcases h5 with h5 | h5
      · subst h5
        rw [hVd 20 hl, Nat.mul_comm F V] at h3
        by_cases q : C = 0
        · exact q
        · have : 1 * BB ^ 20 ≤ C * BB ^ 20 := Nat.mul_le_mul_right _ (Nat.pos_of_ne_zero q)
          omega
      · exact h5.2
    have hez : ∀ j, i ≤ j → e j = 0 := fun j hj => by rw [h2 j hj, hdz j (by omega)]
    rw [hC, hVd i hn, Nat.zero_mul, Nat.add_zero, Nat.mul_comm F V] at h3
    have e1 : bdig (V * F) = e := by rw [← h3]; exact bdig_of h1 hez
    have e2 : blen (V * F) = i := by
      rw [← h3, blen_of hi h1 hez]
      by_cases q : i = 0
      · subst q; rfl
      · have h6 := h4 (by omega) hn hC
        obtain ⟨i', rfl⟩ : ∃ i', i = i' + 1 := ⟨i - 1, by omega⟩
        rw [stN, if_neg (by simpa using h6)]
    refine zi_aload_n X dX1_magnify_67 rfl rfl ?_
    refine zi_iload X dX1_magnify_68 rfl ?_
    refine zi_putf (C := RX1) (T := TX1) (N := 3) (ci := 5) (ty0 := tyX1) X (by first | assumption | exact mup_self | (rw [mup_ne (by assumption)]; assumption) | (rw [mup_ne (by assumption)]; exact mup_self) | (rw [mup_ne (by assumption), mup_ne (by assumption)]; assumption)) rfl in_X1 tyX1_ok nmX1 1 (by decide) wf_X1_13 rfl rfl rfl rfl rfl (Nat.le_of_ble_eq_true rfl) dX1_magnify_70 ?_
    refine zi_return X Vz dX1_magnify_73 ?_
    rw [e1, e2]
    rfl
  induction k with
  | zero =>
    intro i e C c o hi hc hC h1 h2 h3 h4
    have : i = 20 := by omega
    subst this
    refine zi_iload X dX1_magnify_5 rfl ?_
    refine zi_bipush (v := (nI 20)) X dX1_magnify_7 (by decide) ?_
    refine zi_icmp_ge (tgt := 67) X dX1_magnify_9 (by decide) (fun c_9 => ?_) (fun c_9 => (by first | exact absurd (Int32.le_refl _) c_9 | exact absurd c_9 (Int32.le_refl _)))
    exact fin 20 e C c (Nat.le_refl _) h1 h2 h3 h4 (Or.inl rfl)
  | succ k ih =>
    intro i e C c o hi hc hC h1 h2 h3 h4
    have body : (i < blen V ∨ C ≠ 0) → zM z 0 0 27 [some (.ref b), some (.long f), none, some (.long c), none, some (.int (nI i)), none, none] [] (mup h r (bA (cA 0) (bN e))) := by
      intro hgo
      have hd : e i < BB := by rw [h2 i (Nat.le_refl i)]; exact bdig_lt V i
      have hm : e i * F + C ≤ BB * BB := by
        have : e i * F ≤ (BB - 1) * (BB - 1) := Nat.mul_le_mul (by omega) (by omega)
        rw [hBB] at this ⊢
        omega
      have hval : (((bN e) (nI i).toNatClampNeg).toInt64 * f + c).toInt = ((e i * F + C : Nat) : Int) := by
        rw [bN_at (by omega)]
        have hm0 : e i * F ≤ BB * BB := by omega
        have hm1 : ((e i : Int) * (F : Int)) = ((e i * F : Nat) : Int) := by rw [Int.natCast_mul]
        rw [hBB] at hm hm0
        rw [l_add (l_mul (l_d hd) hf (by rw [hm1]; omega) (by rw [hm1]; omega)) hc (by rw [hm1]; omega) (by rw [hm1]; omega), hm1]
        rfl
      refine zi_aload_n X dX1_magnify_27 rfl rfl ?_
      refine zi_getf (C := RX1) (T := TX1) (N := 3) (ci := 5) X (by first | assumption | exact mup_self | (rw [mup_ne (by assumption)]; assumption) | (rw [mup_ne (by assumption)]; exact mup_self) | (rw [mup_ne (by assumption), mup_ne (by assumption)]; assumption)) rfl in_X1 0 (by decide) wf_X1_9 rfl rfl dX1_magnify_28 ?_
      refine zi_iload X dX1_magnify_31 rfl ?_
      refine zi_iald X 0 (by first | assumption | exact mup_self | (rw [mup_ne (by assumption)]; assumption) | (rw [mup_ne (by assumption)]; exact mup_self) | (rw [mup_ne (by assumption), mup_ne (by assumption)]; assumption)) rfl (vin (show i < 20 by omega) (by decide)) dX1_magnify_33 ?_
      refine zi_i2l X dX1_magnify_34 ?_
      refine zi_lload_n X dX1_magnify_35 rfl rfl ?_
      refine zi_lmul X dX1_magnify_36 ?_
      refine zi_lload_n X dX1_magnify_37 rfl rfl ?_
      refine zi_ladd X dX1_magnify_38 ?_
      refine zi_lstore X dX1_magnify_39 (by decide) ?_
      refine zi_aload_n X dX1_magnify_41 rfl rfl ?_
      refine zi_getf (C := RX1) (T := TX1) (N := 3) (ci := 5) X (by first | assumption | exact mup_self | (rw [mup_ne (by assumption)]; assumption) | (rw [mup_ne (by assumption)]; exact mup_self) | (rw [mup_ne (by assumption), mup_ne (by assumption)]; assumption)) rfl in_X1 0 (by decide) wf_X1_9 rfl rfl dX1_magnify_42 ?_
      refine zi_iload X dX1_magnify_45 rfl ?_
      refine zi_lload X dX1_magnify_47 rfl ?_
      refine zi_ldc2_w X wK_X1_30 dX1_magnify_49 ?_
      refine zi_land X dX1_magnify_52 ?_
      refine zi_l2i X dX1_magnify_53 ?_
      refine zi_iast X 0 (by first | assumption | exact mup_self | (rw [mup_ne (by assumption)]; assumption) | (rw [mup_ne (by assumption)]; exact mup_self) | (rw [mup_ne (by assumption), mup_ne (by assumption)]; assumption)) rfl (vin (show i < 20 by omega) (by decide)) dX1_magnify_54 ?_
      refine zi_lload X dX1_magnify_55 rfl ?_
      refine zi_bipush (v := (nI 30)) X dX1_magnify_57 (by decide) ?_
      refine zi_lshr X dX1_magnify_59 ?_
      refine zi_lstore_n X dX1_magnify_60 rfl (by decide) ?_
      refine zi_iinc (v := nI (i + 1)) X dX1_magnify_61 rfl (nI_inc _) (by decide) ?_
      refine zi_goto (tgt := 5) X dX1_magnify_64 (by decide) ?_
      rw [l_low hval, bN_upd (by omega), mup_mup]
      refine zi_sub (by repeat (first | exact trivial | refine And.intro rfl ?_)) (ih (i + 1) (updN e i ((e i * F + C) % BB)) ((e i * F + C) / BB) _ none (by omega) (l_hi hval) ?_ ?_ ?_ ?_ ?_)
      · refine Nat.div_lt_of_lt_mul (Nat.lt_of_le_of_lt (m := (BB - 1) * (BB - 1) + (BB - 1)) ?_ (by decide))
        have : e i * F ≤ (BB - 1) * (BB - 1) := Nat.mul_le_mul (by omega) (by omega)
        omega
      · intro j hj
        by_cases q : j = i
        · subst q; rw [updN_s]; exact Nat.mod_lt _ (by decide)
        · rw [updN_n q]; exact h1 j (by omega)
      · intro j hj
        rw [updN_n (by omega)]
        exact h2 j (by omega)
      · rw [bval_succ_eq, mul_pow_succ, Nat.add_assoc, ← Nat.add_mul, mag_div, bval, Nat.mul_add, ← h3, h2 i (Nat.le_refl i), Nat.add_mul]
        have : F * (bdig V i * BB ^ i) = bdig V i * F * BB ^ i := by ac_rfl
        rw [this]
        omega
      · intro _ hn hz
        rw [show i + 1 - 1 = i by omega, updN_s]
        have hlt : e i * F + C < BB := by
          by_cases q : e i * F + C < BB
          · exact q
          · have := Nat.div_pos (show BB ≤ e i * F + C by omega) (by decide)
            omega
        rw [Nat.mod_eq_of_lt hlt]
        rcases hgo with hgo | hgo
        · have : i = blen V - 1 := by omega
          have h6 := stN_top (d := bdig V) (n := 20) (show 0 < stN (bdig V) 20 by show 0 < blen V; omega)
          have h7 : bdig V i ≠ 0 := by rw [this]; exact h6
          have h8 : 0 < e i * F := by rw [h2 i (Nat.le_refl i)]; exact Nat.mul_pos (Nat.pos_of_ne_zero h7) hF0
          omega
        · omega
    refine zi_iload X dX1_magnify_5 rfl ?_
    refine zi_bipush (v := (nI 20)) X dX1_magnify_7 (by decide) ?_
    refine zi_icmp_ge (tgt := 67) X dX1_magnify_9 (by decide) (fun c_9 => (by first | exact absurd (nI_ge (show i < 20 by omega) (by decide)) c_9 | exact absurd c_9 (nI_ge (show i < 20 by omega) (by decide)))) (fun c_9 => ?_)
    refine zi_iload X dX1_magnify_12 rfl ?_
    refine zi_aload_n X dX1_magnify_14 rfl rfl ?_
    refine zi_getf (C := RX1) (T := TX1) (N := 3) (ci := 5) X (by first | assumption | exact mup_self | (rw [mup_ne (by assumption)]; assumption) | (rw [mup_ne (by assumption)]; exact mup_self) | (rw [mup_ne (by assumption), mup_ne (by assumption)]; assumption)) rfl in_X1 1 (by decide) wf_X1_13 rfl rfl dX1_magnify_15 ?_
    refine zi_icmp_lt (tgt := 27) X dX1_magnify_18 (by decide) (fun c_18 => ?_) (fun c_18 => ?_)
    · exact body (Or.inl ((nI_ltI (by omega) (by omega)).mp c_18))
    · have hn : ¬ i < blen V := fun q => c_18 ((nI_ltI (by omega) (by omega)).mpr q)
      refine zi_lload_n X dX1_magnify_21 rfl rfl ?_
      refine zi_lconst (v := lN 0) X dX1_magnify_22 (by decide) ?_
      refine zi_lcmp X dX1_magnify_23 ?_
      refine zi_if_eq (tgt := 67) X dX1_magnify_24 (by decide) (fun c_24 => ?_) (fun c_24 => ?_)
      · have hC0 : C = 0 := (l_eq0 hc).mp ((lg_cmp_eq _ _).mp c_24)
        exact fin i e C c (by omega) h1 h2 h3 h4 (Or.inr ⟨by omega, hC0⟩)
      · exact body (Or.inr (fun q => c_24 ((lg_cmp_eq _ _).mpr ((l_eq0 hc).mpr q))))
