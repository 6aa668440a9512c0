/-! SturmRoots$Big: plus, divideBy -/
theorem pl_inv {e C M x y S R G X : Int} {p q : Int} (h : e + C * M = p + S * q) (hX : R + 1073741824 * G = X) (hx : X = x + S * y + C) : (e + R * M) + G * (M * 1073741824) = (p + x * M) + S * (q + y * M) := by grind
theorem pl_fin {v w : Int} {E : Nat} {S T : Int} (hS : S = if bsg v = bsg w then 1 else -1) (hT : T = (v.natAbs : Int) + S * w.natAbs) (_ : E = E) : (0 ≤ T → (v + w).natAbs = T.natAbs ∧ (T = 0 → v + w = 0) ∧ (0 < T → bsg (v + w) = bsg v)) ∧ (T < 0 → (v + w).natAbs = T.natAbs ∧ bsg (v + w) = if bsg v = 0 then nI 1 else nI 0) := by
  have n01 : ¬ (nI 0 = nI 1) := by decide
  have n10 : ¬ (nI 1 = nI 0) := by decide
  have z0 : nI 0 = 0 := rfl
  have z1 : ¬ nI 1 = 0 := by decide
  have sv : (v < 0 ∧ bsg v = nI 1) ∨ (¬ v < 0 ∧ bsg v = nI 0) := by
    unfold bsg
    by_cases q : v < 0
    · exact Or.inl ⟨q, if_pos q⟩
    · exact Or.inr ⟨q, if_neg q⟩
  have sw : (w < 0 ∧ bsg w = nI 1) ∨ (¬ w < 0 ∧ bsg w = nI 0) := by
    unfold bsg
    by_cases q : w < 0
    · exact Or.inl ⟨q, if_pos q⟩
    · exact Or.inr ⟨q, if_neg q⟩
  have svw : (v + w < 0 ∧ bsg (v + w) = nI 1) ∨ (¬ v + w < 0 ∧ bsg (v + w) = nI 0) := by
    unfold bsg
    by_cases q : v + w < 0
    · exact Or.inl ⟨q, if_pos q⟩
    · exact Or.inr ⟨q, if_neg q⟩
  rcases sv with ⟨a1, a2⟩ | ⟨a1, a2⟩ <;> rcases sw with ⟨b1, b2⟩ | ⟨b1, b2⟩ <;> rw [a2, b2] at hS <;> rw [a2]
  · rw [if_pos rfl] at hS
    subst hS
    refine ⟨fun h => ⟨by omega, fun _ => by omega, fun _ => ?_⟩, fun h => by omega⟩
    rcases svw with ⟨c1, c2⟩ | ⟨c1, c2⟩
    · exact c2
    · omega
  · rw [if_neg n10] at hS
    subst hS
    refine ⟨fun h => ⟨by omega, fun _ => by omega, fun _ => ?_⟩, fun h => ⟨by omega, ?_⟩⟩
    · rcases svw with ⟨c1, c2⟩ | ⟨c1, c2⟩
      · exact c2
      · omega
    · rw [if_neg z1]
      rcases svw with ⟨c1, c2⟩ | ⟨c1, c2⟩
      · omega
      · exact c2
  · rw [if_neg n01] at hS
    subst hS
    refine ⟨fun h => ⟨by omega, fun _ => by omega, fun _ => ?_⟩, fun h => ⟨by omega, ?_⟩⟩
    · rcases svw with ⟨c1, c2⟩ | ⟨c1, c2⟩
      · omega
      · exact c2
    · rw [if_pos z0]
      rcases svw with ⟨c1, c2⟩ | ⟨c1, c2⟩
      · exact c2
      · omega
  · rw [if_pos rfl] at hS
    subst hS
    refine ⟨fun h => ⟨by omega, fun _ => by omega, fun _ => ?_⟩, fun h => by omega⟩
    rcases svw with ⟨c1, c2⟩ | ⟨c1, c2⟩
    · omega
    · exact c2
theorem pl_bd {d o : Nat} {S C : Int} (hd : d < BB) (ho : o < BB) (hS : S = 1 ∨ S = -1) (hC : -1 ≤ C ∧ C ≤ 1) : -2147483648 ≤ S * (o : Int) ∧ S * (o : Int) ≤ 2147483648 ∧ -2147483648 ≤ (d : Int) + S * o + C ∧ (d : Int) + S * o + C ≤ 2147483648 ∧ -1 ≤ ((d : Int) + S * o + C) / 1073741824 ∧ ((d : Int) + S * o + C) / 1073741824 ≤ 1 := by
  unfold BB at hd ho
  rcases hS with rfl | rfl <;> omega
theorem pl_last {e p q S C M T : Int} (h : e + C * M = T) (_ : T = p + S * q) (he0 : 0 ≤ e) (he : e < M) (hC : -1 ≤ C ∧ C ≤ 1) (hT1 : -M < T) (hT2 : T < M) : (0 ≤ T → C = 0 ∧ e = T) ∧ (T < 0 → C = -1 ∧ e = M + T) := by
  have : C = -1 ∨ C = 0 ∨ C = 1 := by omega
  rcases this with rfl | rfl | rfl
  · exact ⟨fun h => by omega, fun _ => ⟨rfl, by omega⟩⟩
  · exact ⟨fun _ => ⟨rfl, by omega⟩, fun h => by omega⟩
  · exact ⟨fun h => by omega, fun h => by omega⟩
theorem pl_E {n1 n2 : Nat} {x y : Nat} (h1 : x < BB ^ n1) (h2 : y < BB ^ n2) {E : Nat} (hE : E = max n1 n2 + 1) : x + y < BB ^ E := by
  have a1 := Nat.lt_of_lt_of_le h1 (bpow_mono (show n1 ≤ max n1 n2 by omega))
  have a2 := Nat.lt_of_lt_of_le h2 (bpow_mono (show n2 ≤ max n1 n2 by omega))
  rw [hE, Nat.pow_succ]
  have : BB ^ max n1 n2 * 2 ≤ BB ^ max n1 n2 * BB := Nat.mul_le_mul_left _ (by decide)
  omega
theorem k_plus (l : Launch) (D : va_G) (cA : Nat → ClassId) {h : mH} {b r b2 r2 : Nat} {v w : Int} (hB : isBig h (cA 0) b r v) (hB2 : isBig h (cA 0) b2 r2 w) (hne : b2 ≠ b) (hrr : r2 ≠ r) (hv19 : v.natAbs < BB ^ 19) (hw19 : w.natAbs < BB ^ 19) :
    mCv l yX1_plus cX1_plus 9 (rmd 2) D (mT cA) [.ref b, .ref b2] h (fun h1 => h1 = mbig h (cA 0) b r (v + w)) := by
  have hbr := hB.ne hB
  have hrb := hbr.symm
  have hb2r := hB2.ne hB
  have hb := hB.1
  have hb2 := hB2.1
  have hl1 : blen v.natAbs ≤ 19 := blen_le_of hB.2.2 hv19
  have hl2 : blen w.natAbs ≤ 19 := blen_le_of hB2.2.2 hw19
  obtain ⟨E, hE⟩ : ∃ E, E = max (blen v.natAbs) (blen w.natAbs) + 1 := ⟨_, rfl⟩
  have hE20 : E ≤ 20 := by omega
  have hsum := pl_E (blen_lt hB.2.2) (blen_lt hB2.2.2) hE
  have hvE : bval (bdig v.natAbs) E = v.natAbs := bval_bdig' (by omega)
  have hwE : bval (bdig w.natAbs) E = w.natAbs := bval_bdig' (by omega)
  have hdz : ∀ j, E ≤ j → bdig v.natAbs j = 0 := fun j hj => bdig_big (blen_lt hB.2.2) (by omega)
  refine mEnter_v (by decide) (Nat.le_of_ble_eq_true rfl) rfl (fun z X Vz => ?_)
  obtain ⟨S, hS⟩ : ∃ S : Int, S = if bsg v = bsg w then 1 else -1 := ⟨_, rfl⟩
  have hS2 : S = 1 ∨ S = -1 := by
    rw [hS]
    by_cases q : bsg v = bsg w
    · rw [if_pos q]; exact Or.inl rfl
    · rw [if_neg q]; exact Or.inr rfl
  obtain ⟨T, hT⟩ : ∃ T : Int, T = (v.natAbs : Int) + S * w.natAbs := ⟨_, rfl⟩
  have hfs := pl_fin (E := E) hS hT rfl
  have hTb : -((BB ^ E : Nat) : Int) < T ∧ T < ((BB ^ E : Nat) : Int) := by rcases hS2 with q | q <;> rw [q] at hT <;> omega
  have hTn : T.natAbs < BB ^ E := by omega
  have hTn20 : T.natAbs < BB ^ 20 := Nat.lt_of_lt_of_le hTn (bpow_mono hE20)
  have tail : ∀ s : Int32, s.toInt = S → zM z 0 0 16 [some (.ref b), some (.ref b2), none, none, none, none, none, none, none] [.int s] h := by
    intro s hs
    refine zi_istore_n X dX1_plus_16 rfl (by decide) ?_
    refine zi_bipush (v := (nI 20)) X dX1_plus_17 (by decide) ?_
    refine zi_aload_n X dX1_plus_19 rfl rfl ?_
    refine zi_getf (C := RX1) (T := TX1) (N := 3) (ci := 5) X (by first | assumption | exact mup_self | (rw [mup_ne (by assumption)]; assumption) | (rw [mup_ne (by assumption)]; exact mup_self) | (rw [mup_ne (by assumption), mup_ne (by assumption)]; assumption)) rfl in_X1 1 (by decide) wf_X1_13 rfl rfl dX1_plus_20 ?_
    refine zi_aload_n X dX1_plus_23 rfl rfl ?_
    refine zi_getf (C := RX1) (T := TX1) (N := 3) (ci := 5) X (by first | assumption | exact mup_self | (rw [mup_ne (by assumption)]; assumption) | (rw [mup_ne (by assumption)]; exact mup_self) | (rw [mup_ne (by assumption), mup_ne (by assumption)]; assumption)) rfl in_X1 1 (by decide) wf_X1_13 rfl rfl dX1_plus_24 ?_
    refine zi_mmax X wm_X1_54 (Nat.le_of_ble_eq_true rfl) (Nat.le_of_ble_eq_true rfl) ⟨(Nat.le_of_ble_eq_true rfl), (Nat.le_of_ble_eq_true rfl)⟩ dX1_plus_27 ?_
    refine zi_iconst (v := (nI 1)) X dX1_plus_30 (by decide) ?_
    refine zi_iadd X dX1_plus_31 ?_
    refine zi_mmin X wm_X1_50 (Nat.le_of_ble_eq_true rfl) (Nat.le_of_ble_eq_true rfl) ⟨(Nat.le_of_ble_eq_true rfl), (Nat.le_of_ble_eq_true rfl)⟩ dX1_plus_32 ?_
    have hmx : (if (if nI (blen v.natAbs) < nI (blen w.natAbs) then nI (blen w.natAbs) else nI (blen v.natAbs)) + nI 1 < nI 20 then (if nI (blen v.natAbs) < nI (blen w.natAbs) then nI (blen w.natAbs) else nI (blen v.natAbs)) + nI 1 else nI 20) = nI E := by
      have e1 : (if nI (blen v.natAbs) < nI (blen w.natAbs) then nI (blen w.natAbs) else nI (blen v.natAbs)) = nI (max (blen v.natAbs) (blen w.natAbs)) := by
        by_cases q : blen v.natAbs < blen w.natAbs
        · rw [if_pos (nI_lt q (by omega)), Nat.max_eq_right (by omega)]
        · rw [if_neg (nI_nlt (by omega) (by omega)), Nat.max_eq_left (by omega)]
      rw [e1, nI_sc, ← hE]
      by_cases q : E = 20
      · rw [q, if_neg (nI_nlt (Nat.le_refl 20) (by decide))]
      · rw [if_pos (nI_lt (by omega) (by decide))]
    rw [hmx]
    refine zi_istore_n X dX1_plus_35 rfl (by decide) ?_
    refine zi_lconst (v := lN 0) X dX1_plus_36 (by decide) ?_
    refine zi_lstore X dX1_plus_37 (by decide) ?_
    refine zi_iconst (v := (nI 0)) X dX1_plus_39 (by decide) ?_
    refine zi_istore X dX1_plus_40 (by decide) ?_
    suffices key : ∀ k i (e : Nat → Nat) (c : Int64), i + k = E → (-1 ≤ c.toInt ∧ c.toInt ≤ 1) → (∀ j, j < i → e j < BB) → (∀ j, i ≤ j → e j = bdig v.natAbs j) → (bval e i : Int) + c.toInt * (BB ^ i : Nat) = bval (bdig v.natAbs) i + S * bval (bdig w.natAbs) i → zM z 0 0 42 [some (.ref b), some (.ref b2), some (.int s), some (.int (nI E)), some (.long c), none, some (.int (nI i)), none, none] [] (mup h r (bA (cA 0) (bN e))) from
      zi_sub (by repeat (first | exact trivial | refine And.intro rfl ?_)) (zi_eqh (mup_same hB.2.1).symm (key E 0 (bdig v.natAbs) (lN 0) (by omega) (by rw [lN0]; decide) (fun j hj => absurd hj (Nat.not_lt_zero j)) (fun j _ => rfl) (by rw [lN0]; simp [bval])))
    intro k
    induction k with
    | zero =>
      intro i e c hi hc h1 h2 h3
      have : i = E := by omega
      subst this
      rw [hvE, hwE] at h3
      have he := bval_lt (d := e) (n := i) h1
      have hez : ∀ j, i ≤ j → e j = 0 := fun j hj => by rw [h2 j hj]; exact hdz j hj
      have hlast := pl_last (h3.trans hT.symm) hT (by omega) (by omega) hc hTb.1 hTb.2
      have g1 : mup h r (bA (cA 0) (bN e)) b = some (bigO r v) := by rw [mup_ne hbr]; exact hb
      refine zi_iload X dX1_plus_42 rfl ?_
      refine zi_iload_n X dX1_plus_44 rfl rfl ?_
      refine zi_icmp_ge (tgt := 100) X dX1_plus_45 (by decide) (fun c_45 => ?_) (fun c_45 => (by first | exact absurd (Int32.le_refl _) c_45 | exact absurd c_45 (Int32.le_refl _)))
      refine zi_lload X dX1_plus_100 rfl ?_
      refine zi_lconst (v := lN 0) X dX1_plus_102 (by decide) ?_
      refine zi_lcmp X dX1_plus_103 ?_
      refine zi_if_ge (tgt := 128) X dX1_plus_104 (by decide) (fun c_104 => ?_) (fun c_104 => ?_)
      · -- no borrow
        have hc0 : ¬ c.toInt < 0 := by
          have := (fa_le64 _ _).mp ((lg_cmp_ge _ _).mp c_104)
          rw [lN0] at this
          omega
        have hT0 : 0 ≤ T := by
          by_cases q : 0 ≤ T
          · exact q
          · have := (hlast.2 (by omega)).1
            omega
        have hval : bval e i = T.natAbs := by
          have := (hlast.1 hT0).2
          omega
        have hst : stN e i = blen T.natAbs := by rw [← hval, blen_of hE20 h1 hez]
        have hdg : bdig T.natAbs = e := by rw [← hval]; exact bdig_of h1 hez
        refine zi_aload_n X dX1_plus_128 rfl rfl ?_
        refine zi_iload_n X dX1_plus_129 rfl rfl ?_
        refine zi_callVv X (k_settle l D cA (E := i) (n := nI (blen v.natAbs)) (g := bsg v) hE20 h1 g1 mup_self) kc_X1_settle wm_X1_32 g1 rfl wim_X1_settle wse_X1_settle ⟨Nat.le_of_ble_eq_true rfl, Nat.le_of_ble_eq_true rfl⟩ rfl rfl (Nat.le_of_ble_eq_true rfl) ⟨Nat.le_of_ble_eq_true rfl, Nat.le_of_ble_eq_true rfl⟩ dX1_plus_130 (fun h5 e5 => ?_)
        refine zi_return X Vz dX1_plus_133 ?_
        rw [e5, hst]
        have hf := hfs.1 hT0
        unfold mbig bigO bigA
        rw [hf.1, hdg]
        congr 2
        by_cases q : blen T.natAbs = 0
        · have := (blen_0 hTn20).mp q
          rw [if_pos q, hf.2.1 (by omega)]
          rfl
        · have : T.natAbs ≠ 0 := fun q2 => q ((blen_0 hTn20).mpr q2)
          rw [if_neg q, hf.2.2 (by omega)]
      · have hc0 : c.toInt < 0 := by
          have : ¬ (lN 0).toInt ≤ c.toInt := fun q => c_104 ((lg_cmp_ge _ _).mpr ((fa_le64 _ _).mpr q))
          rw [lN0] at this
          omega
        have hT0 : T < 0 := by
          by_cases q : 0 ≤ T
          · have := (hlast.1 q).1
            omega
          · omega
        have hval0 := (hlast.2 hT0).2
        refine zi_aload_n X dX1_plus_107 rfl rfl ?_
        refine zi_iload_n X dX1_plus_108 rfl rfl ?_
        refine zi_callVv X (k_complement l D cA (E := i) (n := nI (blen v.natAbs)) (g := bsg v) hE20 h1 g1 mup_self) kc_X1_complement wm_X1_57 g1 rfl wim_X1_complement wse_X1_complement ⟨Nat.le_of_ble_eq_true rfl, Nat.le_of_ble_eq_true rfl⟩ rfl rfl (Nat.le_of_ble_eq_true rfl) ⟨Nat.le_of_ble_eq_true rfl, Nat.le_of_ble_eq_true rfl⟩ dX1_plus_109 (fun h5 e5 => ?_)
        obtain ⟨e', e5, q1, q2, q3⟩ := e5
        rw [mup_mup] at e5
        have hval : bval e' i = T.natAbs := by
          have := q3 (by omega)
          omega
        have hez' : ∀ j, i ≤ j → e' j = 0 := fun j hj => by rw [q2 j hj]; exact hez j hj
        have hst : stN e' i = blen T.natAbs := by rw [← hval, blen_of hE20 q1 hez']
        have hdg : bdig T.natAbs = e' := by rw [← hval]; exact bdig_of q1 hez'
        have hf := hfs.2 hT0
        have g2 : h5 b = some (bigO r v) := by rw [e5, mup_ne hbr]; exact hb
        have g3 : h5 r = some (bA (cA 0) (bN e')) := by rw [e5]; exact mup_self
        have fin : ∀ g : Int32, g = bsg (v + w) → zM z 0 0 128 [some (.ref b), some (.ref b2), some (.int s), some (.int (nI i)), none, none, none, none, none] [] (mup h5 b (bO r (nI (blen v.natAbs)) g)) := by
          intro g hg
          have g4 : mup h5 b (bO r (nI (blen v.natAbs)) g) r = some (bA (cA 0) (bN e')) := by rw [mup_ne hrb]; exact g3
          refine zi_aload_n X dX1_plus_128 rfl rfl ?_
          refine zi_iload_n X dX1_plus_129 rfl rfl ?_
          refine zi_callVv X (k_settle l D cA (E := i) (n := nI (blen v.natAbs)) (g := g) hE20 q1 mup_self g4) kc_X1_settle wm_X1_32 mup_self rfl wim_X1_settle wse_X1_settle ⟨Nat.le_of_ble_eq_true rfl, Nat.le_of_ble_eq_true rfl⟩ rfl rfl (Nat.le_of_ble_eq_true rfl) ⟨Nat.le_of_ble_eq_true rfl, Nat.le_of_ble_eq_true rfl⟩ dX1_plus_130 (fun h6 e6 => ?_)
          refine zi_return X Vz dX1_plus_133 ?_
          rw [e6, mup_mup, hst, e5]
          unfold mbig bigO bigA
          rw [hf.1, hdg, hg]
          congr 2
          rw [if_neg (fun q => by have := (blen_0 hTn20).mp q; omega)]
        refine zi_aload_n X dX1_plus_112 rfl rfl ?_
        refine zi_aload_n X dX1_plus_113 rfl rfl ?_
        refine zi_getf (C := RX1) (T := TX1) (N := 3) (ci := 5) X (by first | assumption | exact mup_self | (rw [mup_ne (by assumption)]; assumption) | (rw [mup_ne (by assumption)]; exact mup_self) | (rw [mup_ne (by assumption), mup_ne (by assumption)]; assumption)) rfl in_X1 2 (by decide) wf_X1_17 rfl rfl dX1_plus_114 ?_
        refine zi_if_ne (tgt := 124) X dX1_plus_117 (by decide) (fun c_117 => ?_) (fun c_117 => ?_)
        · refine zi_iconst (v := (nI 0)) X dX1_plus_124 (by decide) ?_
          refine zi_putf (C := RX1) (T := TX1) (N := 3) (ci := 5) (ty0 := tyX1) X (by first | assumption | exact mup_self | (rw [mup_ne (by assumption)]; assumption) | (rw [mup_ne (by assumption)]; exact mup_self) | (rw [mup_ne (by assumption), mup_ne (by assumption)]; assumption)) rfl in_X1 tyX1_ok nmX1 2 (by decide) wf_X1_17 rfl rfl rfl rfl rfl (Nat.le_of_ble_eq_true rfl) dX1_plus_125 ?_
          refine zi_sub (by repeat (first | exact trivial | refine And.intro rfl ?_)) (fin (nI 0) ?_)
          rw [hf.2, if_neg c_117]
        · refine zi_iconst (v := (nI 1)) X dX1_plus_120 (by decide) ?_
          refine zi_goto (tgt := 125) X dX1_plus_121 (by decide) ?_
          refine zi_putf (C := RX1) (T := TX1) (N := 3) (ci := 5) (ty0 := tyX1) X (by first | assumption | exact mup_self | (rw [mup_ne (by assumption)]; assumption) | (rw [mup_ne (by assumption)]; exact mup_self) | (rw [mup_ne (by assumption), mup_ne (by assumption)]; assumption)) rfl in_X1 tyX1_ok nmX1 2 (by decide) wf_X1_17 rfl rfl rfl rfl rfl (Nat.le_of_ble_eq_true rfl) dX1_plus_125 ?_
          refine zi_sub (by repeat (first | exact trivial | refine And.intro rfl ?_)) (fin (nI 1) ?_)
          rw [hf.2, if_pos c_117]
    | succ k ih =>
      intro i e c hi hc h1 h2 h3
      have g1 : mup h r (bA (cA 0) (bN e)) b = some (bigO r v) := by rw [mup_ne hbr]; exact hb
      have g2 : mup h r (bA (cA 0) (bN e)) b2 = some (bigO r2 w) := by rw [mup_ne hb2r]; exact hb2
      have g3 : mup h r (bA (cA 0) (bN e)) r2 = some (bigA (cA 0) w) := by rw [mup_ne hrr]; exact hB2.2.1
      refine zi_iload X dX1_plus_42 rfl ?_
      refine zi_iload_n X dX1_plus_44 rfl rfl ?_
      refine zi_icmp_ge (tgt := 100) X dX1_plus_45 (by decide) (fun c_45 => (by first | exact absurd (nI_ge (show i < E by omega) (by omega)) c_45 | exact absurd c_45 (nI_ge (show i < E by omega) (by omega)))) (fun c_45 => ?_)
      have hdi : e i = bdig v.natAbs i := h2 i (Nat.le_refl i)
      have hp := pl_bd (bdig_lt v.natAbs i) (bdig_lt w.natAbs i) hS2 hc
      have hval : (((bN e) (nI i).toNatClampNeg).toInt64 + s.toInt64 * ((bN (bdig w.natAbs)) (nI i).toNatClampNeg).toInt64 + c).toInt = (bdig v.natAbs i : Int) + S * (bdig w.natAbs i : Int) + c.toInt := by
        have b1 := bdig_lt v.natAbs i
        unfold BB at b1
        rw [bN_at (by omega), bN_at (by omega), hdi]
        rw [l_add (l_add (l_d (bdig_lt _ _)) (l_mul ((i32_i64 s).trans hs) (l_d (bdig_lt _ _)) (by omega) (by omega)) (by omega) (by omega)) rfl (by omega) (by omega)]
      refine zi_aload_n X dX1_plus_48 rfl rfl ?_
      refine zi_getf (C := RX1) (T := TX1) (N := 3) (ci := 5) X (by first | assumption | exact mup_self | (rw [mup_ne (by assumption)]; assumption) | (rw [mup_ne (by assumption)]; exact mup_self) | (rw [mup_ne (by assumption), mup_ne (by assumption)]; assumption)) rfl in_X1 0 (by decide) wf_X1_9 rfl rfl dX1_plus_49 ?_
      refine zi_iload X dX1_plus_52 rfl ?_
      refine zi_iald X 0 (by first | assumption | exact mup_self | (rw [mup_ne (by assumption)]; assumption) | (rw [mup_ne (by assumption)]; exact mup_self) | (rw [mup_ne (by assumption), mup_ne (by assumption)]; assumption)) rfl (vin (show i < 20 by omega) (by decide)) dX1_plus_54 ?_
      refine zi_i2l X dX1_plus_55 ?_
      refine zi_iload_n X dX1_plus_56 rfl rfl ?_
      refine zi_i2l X dX1_plus_57 ?_
      refine zi_aload_n X dX1_plus_58 rfl rfl ?_
      refine zi_getf (C := RX1) (T := TX1) (N := 3) (ci := 5) X (by first | assumption | exact mup_self | (rw [mup_ne (by assumption)]; assumption) | (rw [mup_ne (by assumption)]; exact mup_self) | (rw [mup_ne (by assumption), mup_ne (by assumption)]; assumption)) rfl in_X1 0 (by decide) wf_X1_9 rfl rfl dX1_plus_59 ?_
      refine zi_iload X dX1_plus_62 rfl ?_
      refine zi_iald X 0 (by first | assumption | exact mup_self | (rw [mup_ne (by assumption)]; assumption) | (rw [mup_ne (by assumption)]; exact mup_self) | (rw [mup_ne (by assumption), mup_ne (by assumption)]; assumption)) rfl (vin (show i < 20 by omega) (by decide)) dX1_plus_64 ?_
      refine zi_i2l X dX1_plus_65 ?_
      refine zi_lmul X dX1_plus_66 ?_
      refine zi_ladd X dX1_plus_67 ?_
      refine zi_lload X dX1_plus_68 rfl ?_
      refine zi_ladd X dX1_plus_70 ?_
      refine zi_lstore X dX1_plus_71 (by decide) ?_
      refine zi_aload_n X dX1_plus_73 rfl rfl ?_
      refine zi_getf (C := RX1) (T := TX1) (N := 3) (ci := 5) X (by first | assumption | exact mup_self | (rw [mup_ne (by assumption)]; assumption) | (rw [mup_ne (by assumption)]; exact mup_self) | (rw [mup_ne (by assumption), mup_ne (by assumption)]; assumption)) rfl in_X1 0 (by decide) wf_X1_9 rfl rfl dX1_plus_74 ?_
      refine zi_iload X dX1_plus_77 rfl ?_
      refine zi_lload X dX1_plus_79 rfl ?_
      refine zi_ldc2_w X wK_X1_30 dX1_plus_81 ?_
      refine zi_land X dX1_plus_84 ?_
      refine zi_l2i X dX1_plus_85 ?_
      refine zi_iast X 0 (by first | assumption | exact mup_self | (rw [mup_ne (by assumption)]; assumption) | (rw [mup_ne (by assumption)]; exact mup_self) | (rw [mup_ne (by assumption), mup_ne (by assumption)]; assumption)) rfl (vin (show i < 20 by omega) (by decide)) dX1_plus_86 ?_
      refine zi_lload X dX1_plus_87 rfl ?_
      refine zi_bipush (v := (nI 30)) X dX1_plus_89 (by decide) ?_
      refine zi_lshr X dX1_plus_91 ?_
      refine zi_lstore X dX1_plus_92 (by decide) ?_
      refine zi_iinc (v := nI (i + 1)) X dX1_plus_94 rfl (nI_inc _) (by decide) ?_
      refine zi_goto (tgt := 42) X dX1_plus_97 (by decide) ?_
      rw [l_lowI hval, bN_upd (by omega), mup_mup]
      have hlow0 := Int.emod_nonneg ((bdig v.natAbs i : Int) + S * (bdig w.natAbs i : Int) + c.toInt) (show (1073741824 : Int) ≠ 0 by decide)
      have hlow1 := Int.emod_lt_of_pos ((bdig v.natAbs i : Int) + S * (bdig w.natAbs i : Int) + c.toInt) (show (0 : Int) < 1073741824 by decide)
      have hmd := Int.emod_add_mul_ediv ((bdig v.natAbs i : Int) + S * (bdig w.natAbs i : Int) + c.toInt) 1073741824
      refine zi_sub (by repeat (first | exact trivial | refine And.intro rfl ?_)) (ih (i + 1) (updN e i (((bdig v.natAbs i : Int) + S * (bdig w.natAbs i : Int) + c.toInt) % 1073741824).toNat) _ (by omega) (by rw [l_hiI hval]; exact hp.2.2.2.2) ?_ ?_ ?_)
      · intro j hj
        by_cases q : j = i
        · subst q; rw [updN_s]; unfold BB; omega
        · rw [updN_n q]; exact h1 j (by omega)
      · intro j hj
        rw [updN_n (by omega)]
        exact h2 j (by omega)
      · rw [l_hiI hval, bval_succ_eq, bval, bval]
        have e2 : ((BB ^ (i + 1) : Nat) : Int) = ((BB ^ i : Nat) : Int) * 1073741824 := by
          rw [Nat.pow_succ, Int.natCast_mul]
          rfl
        rw [e2, Int.natCast_add, Int.natCast_mul, Int.natCast_add, Int.natCast_mul, Int.natCast_add, Int.natCast_mul, Int.toNat_of_nonneg hlow0]
        exact pl_inv h3 hmd rfl
  refine zi_aload_n X dX1_plus_0 rfl rfl ?_
  refine zi_getf (C := RX1) (T := TX1) (N := 3) (ci := 5) X (by first | assumption | exact mup_self | (rw [mup_ne (by assumption)]; assumption) | (rw [mup_ne (by assumption)]; exact mup_self) | (rw [mup_ne (by assumption), mup_ne (by assumption)]; assumption)) rfl in_X1 2 (by decide) wf_X1_17 rfl rfl dX1_plus_1 ?_
  refine zi_aload_n X dX1_plus_4 rfl rfl ?_
  refine zi_getf (C := RX1) (T := TX1) (N := 3) (ci := 5) X (by first | assumption | exact mup_self | (rw [mup_ne (by assumption)]; assumption) | (rw [mup_ne (by assumption)]; exact mup_self) | (rw [mup_ne (by assumption), mup_ne (by assumption)]; assumption)) rfl in_X1 2 (by decide) wf_X1_17 rfl rfl dX1_plus_5 ?_
  refine zi_icmp_ne (tgt := 15) X dX1_plus_8 (by decide) (fun c_8 => ?_) (fun c_8 => ?_)
  · refine zi_iconst (v := (-1)) X dX1_plus_15 (by decide) ?_
    refine zi_sub (by repeat (first | exact trivial | refine And.intro rfl ?_)) (tail (-1) ?_)
    rw [hS, if_neg c_8]
    rfl
  · refine zi_iconst (v := (nI 1)) X dX1_plus_11 (by decide) ?_
    refine zi_goto (tgt := 16) X dX1_plus_12 (by decide) ?_
    refine zi_sub (by repeat (first | exact trivial | refine And.intro rfl ?_)) (tail (nI 1) ?_)
    rw [hS, if_pos c_8]
    rfl
