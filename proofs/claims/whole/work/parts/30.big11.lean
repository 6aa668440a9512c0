/-! SturmRoots$Big: reduceBy, the walk -/
theorem rb_last {e q : Nat → Nat} {X S n f W V : Nat} (h : rbI e q X S n 0) (hS0 : 0 < S) (hX : X = V * f) (hSW : S = W * f) (hf : 0 < f) : bval e 20 = (V % W) * f ∧ bval q 20 = V / W := by
  obtain ⟨h1, h2, h3, h4, h5, h6⟩ := h
  rw [Nat.pow_zero, Nat.one_mul] at h5
  have a1 : X % S = bval e 20 := by rw [h6, Nat.add_mul_mod_self_left, Nat.mod_eq_of_lt h5]
  have a2 : X / S = bval q 20 := by rw [h6, Nat.add_mul_div_left _ _ hS0, Nat.div_eq_of_lt h5, Nat.zero_add]
  rw [← a1, ← a2, hX, hSW, Nat.mul_mod_mul_right, Nat.mul_div_mul_right _ _ hf]
  exact ⟨rfl, rfl⟩
theorem l_neg {x : Int64} {a : Int} (h : x.toInt = a) (h1 : -9223372036854775807 ≤ a) (h2 : a ≤ 9223372036854775807) : (-x).toInt = -a := by
  have e1 : (-x : Int64) = 0 - x := (Int64.zero_sub _).symm
  have e0 : (0 : Int64).toInt = 0 := rfl
  rw [e1, l_sub e0 h (by omega) (by omega)]
  omega
theorem minl {a b : Nat} (ha : a < 9223372036854775808) (hb : b < 9223372036854775808) : (if lN b < lN a then lN b else lN a) = lN (min a b) := by
  by_cases q : b < a
  · rw [if_pos ((pk_lLT hb ha).mpr q), Nat.min_eq_right (by omega)]
  · rw [if_neg (fun z => q ((pk_lLT hb ha).mp z)), Nat.min_eq_left (by omega)]
/-- behind the loop of the long division -/
theorem k_rb_end {l : Launch} {D : va_G} {cA : Nat → ClassId} {z : mZ} {h g : mH} {b r b1 b2 r2 b3 r3 m k S f Ld W V XX : Nat} {w : Int} {e q : Nat → Nat} {post : mH → Prop} (X : zX z l D cX1_reduceBy yX1_reduceBy.cls (mT cA) 15 none (rmd 2) yX1_reduceBy.name) (Vz : zV z h post 0 0)
    (hp : ∀ h1, (hsame [b, r, b2, r2, b3, r3] h1 h ∧ isBig h1 (cA 0) b r ((V % W : Nat) : Int) ∧ isBig h1 (cA 0) b3 r3 ((V / W : Nat) : Int) ∧ ∃ s', isBig h1 (cA 0) b2 r2 s') → post h1)
    (hnn : rbN b r b2 r2 b3 r3) (hV20 : V < BB ^ 20) (hS0 : 0 < S) (hXX : XX = V * f) (hS : S = W * f) (hW : w.natAbs = W) (s3 : 0 < f) (s4 : f < BB) (hm19 : m ≤ 19) (hkm : k + 1 ≤ m) (hSlen : blen S = k + 1) (hS20 : S < BB ^ 20)
    (hs : rbS (cA 0) h g b r b2 r2 b3 r3 m (k + 1) S (bsg w) e q) (hI : rbI e q XX S (k + 1) 0) (hqz : ∀ j, m - (k + 1) + 1 ≤ j → q j = 0) :
    zM z 0 0 93 [some (.ref b), some (.ref b1), some (.ref b2), some (.ref b3), some (.int (nI (k + 1))), some (.int (nI f)), some (.int (nI Ld)), some (.int (nI 0 - nI 1)), none, none, none, none, none, none, none] [] g := by
  have hlast := rb_last hI hS0 hXX hS s3
  obtain ⟨h1, h2, h3, h4, h5, h6⟩ := hI
  obtain ⟨f1, f2, f3, f4, f5, f6, f7⟩ := hs
  have nrb := hnn
  obtain ⟨⟨p1, p2, p3, p4, p5⟩, ⟨p6, p7, p8, p9⟩, ⟨p10, p11, p12⟩, ⟨p13, p14⟩, p15⟩ := nrb
  have hUq : bval e m = V % W * f := by rw [← hlast.1]; exact (bval_cut (by omega) (fun j q1 _ => h2 j (by omega))).symm
  have hQq : bval q (m - (k + 1) + 1) = V / W := by rw [← hlast.2]; exact (bval_cut (by omega) (fun j q1 _ => hqz j q1)).symm
  have hez : ∀ j, m ≤ j → e j = 0 := fun j hj => h2 j (by omega)
  have hdU : bdig (V % W * f) = e := by rw [← hUq]; exact bdig_of (fun j hj => h1 j (by omega)) hez
  have hlU : stN e m = blen (V % W * f) := by rw [← hUq, blen_of (by omega) (fun j hj => h1 j (by omega)) hez]
  have hdQ : bdig (V / W) = q := by rw [← hQq]; exact bdig_of (fun j hj => h3 j (by omega)) hqz
  have hlQ : stN q (m - (k + 1) + 1) = blen (V / W) := by rw [← hQq, blen_of (by omega) (fun j hj => h3 j (by omega)) hqz]
  have hU20 : V % W * f < BB ^ 20 := by rw [← hUq]; exact Nat.lt_of_lt_of_le (bval_lt (fun j hj => h1 j (by omega))) (bpow_mono (by omega))
  refine zi_iload X dX1_reduceBy_93 rfl ?_
  refine zi_if_lt (tgt := 236) X dX1_reduceBy_95 (by decide) (fun c_95 => ?_) (fun c_95 => (by first | exact absurd (show nI 0 - nI 1 < 0 by decide) c_95 | exact absurd c_95 (show nI 0 - nI 1 < 0 by decide)))
  refine zi_aload_n X dX1_reduceBy_236 rfl rfl ?_
  refine zi_aload_n X dX1_reduceBy_237 rfl rfl ?_
  refine zi_getf (C := RX1) (T := TX1) (N := 3) (ci := 5) X (by first | assumption | exact mup_self | (rw [mup_ne (by assumption)]; assumption) | (rw [mup_ne (by assumption)]; exact mup_self) | (rw [mup_ne (by assumption), mup_ne (by assumption)]; assumption)) rfl in_X1 1 (by decide) wf_X1_13 rfl rfl dX1_reduceBy_238 ?_
  refine zi_iload X dX1_reduceBy_241 rfl ?_
  refine zi_isub X dX1_reduceBy_243 ?_
  refine zi_iconst (v := (nI 1)) X dX1_reduceBy_244 (by decide) ?_
  refine zi_iadd X dX1_reduceBy_245 ?_
  rw [pk_sub hkm, nI_sc]
  refine zi_callVv X (k_settle l D cA (E := m - (k + 1) + 1) (n := nI 0) (g := nI 0) (by omega) (fun j hj => h3 j (by omega)) f5 f6) kc_X1_settle wm_X1_32 (by first | assumption | exact mup_self | (rw [mup_ne (by assumption)]; assumption) | (rw [mup_ne (by assumption)]; exact mup_self) | (rw [mup_ne (by assumption), mup_ne (by assumption)]; assumption)) rfl wim_X1_settle wse_X1_settle ⟨Nat.le_of_ble_eq_true rfl, Nat.le_of_ble_eq_true rfl⟩ rfl rfl (Nat.le_of_ble_eq_true rfl) ⟨Nat.le_of_ble_eq_true rfl, Nat.le_of_ble_eq_true rfl⟩ dX1_reduceBy_246 (fun g6 e6 => ?_)
  rw [hlQ] at e6
  have y1 : g6 b = some (bO r (nI m) (nI 0)) := by rw [e6, mup_ne p4]; exact f1
  have y2 : g6 r = some (bA (cA 0) (bN e)) := by rw [e6, mup_ne p8]; exact f2
  refine zi_aload_n X dX1_reduceBy_249 rfl rfl ?_
  refine zi_aload_n X dX1_reduceBy_250 rfl rfl ?_
  refine zi_getf (C := RX1) (T := TX1) (N := 3) (ci := 5) X (by first | assumption | exact mup_self | (rw [mup_ne (by assumption)]; assumption) | (rw [mup_ne (by assumption)]; exact mup_self) | (rw [mup_ne (by assumption), mup_ne (by assumption)]; assumption)) rfl in_X1 1 (by decide) wf_X1_13 rfl rfl dX1_reduceBy_251 ?_
  refine zi_callVv X (k_settle l D cA (E := m) (n := nI m) (g := nI 0) (by omega) (fun j hj => h1 j (by omega)) y1 y2) kc_X1_settle wm_X1_32 (by first | assumption | exact mup_self | (rw [mup_ne (by assumption)]; assumption) | (rw [mup_ne (by assumption)]; exact mup_self) | (rw [mup_ne (by assumption), mup_ne (by assumption)]; assumption)) rfl wim_X1_settle wse_X1_settle ⟨Nat.le_of_ble_eq_true rfl, Nat.le_of_ble_eq_true rfl⟩ rfl rfl (Nat.le_of_ble_eq_true rfl) ⟨Nat.le_of_ble_eq_true rfl, Nat.le_of_ble_eq_true rfl⟩ dX1_reduceBy_254 (fun g7 e7 => ?_)
  rw [hlU] at e7
  have y3 : g7 b = some (bO r (nI (blen (V % W * f))) (if blen (V % W * f) = 0 then nI 0 else nI 0)) := by rw [e7]; exact mup_self
  have y4 : g7 r = some (bA (cA 0) (bN (bdig (V % W * f)))) := by rw [e7, mup_ne p1.symm, hdU]; exact y2
  refine zi_aload_n X dX1_reduceBy_257 rfl rfl ?_
  refine zi_iload X dX1_reduceBy_258 rfl ?_
  refine zi_callVv X (k_divideBy l D cA (U := V % W * f) (F := f) y3 y4 hU20 rfl s3 s4) kc_X1_divideBy wm_X1_71 (by first | assumption | exact mup_self | (rw [mup_ne (by assumption)]; assumption) | (rw [mup_ne (by assumption)]; exact mup_self) | (rw [mup_ne (by assumption), mup_ne (by assumption)]; assumption)) rfl wim_X1_divideBy wse_X1_divideBy ⟨Nat.le_of_ble_eq_true rfl, Nat.le_of_ble_eq_true rfl⟩ rfl rfl (Nat.le_of_ble_eq_true rfl) ⟨Nat.le_of_ble_eq_true rfl, Nat.le_of_ble_eq_true rfl⟩ dX1_reduceBy_260 (fun g8 e8 => ?_)
  rw [Nat.mul_div_cancel _ s3] at e8
  refine zi_return X Vz dX1_reduceBy_263 ?_
  have hz0 : ∀ c : Nat, (if c = 0 then nI 0 else nI 0) = nI 0 := fun c => by split <;> rfl
  refine hp _ ⟨?_, ⟨?_, ?_, ?_⟩, ⟨?_, ?_, ?_⟩, w * f, ?_, ?_, ?_⟩
  · rw [e8]
    refine hsame_up (hsame_up ?_ (by simp)) (by simp)
    rw [e7]
    refine hsame_up ?_ (by simp)
    rw [e6]
    exact hsame_up f7 (by simp)
  · rw [e8, mup_self, hz0]
    unfold bigO bsg
    rw [Int.natAbs_natCast, if_neg (by omega)]
  · rw [e8, mup_ne p1.symm, mup_self]
    unfold bigA
    rw [Int.natAbs_natCast]
  · rw [Int.natAbs_natCast]
    have := Nat.mod_le V W
    omega
  · rw [e8, mup_ne p4.symm, mup_ne p8.symm, e7, mup_ne p4.symm, e6, mup_self, hz0]
    unfold bigO bsg
    rw [Int.natAbs_natCast, if_neg (by omega)]
  · rw [e8, mup_ne p5.symm, mup_ne p9.symm, e7, mup_ne p5.symm, e6, mup_ne p15.symm, f6]
    unfold bigA
    rw [Int.natAbs_natCast, hdQ]
  · rw [Int.natAbs_natCast]
    have := Nat.div_le_self V W
    omega
  · rw [e8, mup_ne p2.symm, mup_ne p6.symm, e7, mup_ne p2.symm, e6, mup_ne p11, f3]
    unfold bigO
    rw [Int.natAbs_mul, Int.natAbs_natCast, hW, ← hS, hSlen, bsg_mul s3]
  · rw [e8, mup_ne p3.symm, mup_ne p7.symm, e7, mup_ne p3.symm, e6, mup_ne p13, f4]
    unfold bigA
    rw [Int.natAbs_mul, Int.natAbs_natCast, hW, ← hS]
  · rw [Int.natAbs_mul, Int.natAbs_natCast, hW, ← hS]
    exact hS20
set_option maxRecDepth 20000 in
set_option maxHeartbeats 4000000 in
/-- one round of the loop of the long division -/
theorem k_rb_step {l : Launch} {D : va_G} {cA : Nat → ClassId} {z : mZ} {h g : mH} {b r b1 b2 r2 b3 r3 m k S f Ld XX i : Nat} {sg : Int32} {e q : Nat → Nat} (X : zX z l D cX1_reduceBy yX1_reduceBy.cls (mT cA) 15 none (rmd 2) yX1_reduceBy.name)
    (hnn : rbN b r b2 r2 b3 r3) (hS0 : 0 < S) (hLd : Ld = S / BB ^ k) (s1 : S < BB ^ (k + 1)) (s2 : BB ≤ 2 * Ld) (hLB : Ld < BB) (hik : i + k + 2 ≤ 20)
    (hs : rbS (cA 0) h g b r b2 r2 b3 r3 m (k + 1) S sg e q) (hI : rbI e q XX S (k + 1) (i + 1))
    (cont : ∀ (g' : mH) (e' q' : Nat → Nat), rbS (cA 0) h g' b r b2 r2 b3 r3 m (k + 1) S sg e' q' → rbI e' q' XX S (k + 1) i → (∀ j, j ≠ i → q' j = q j) → zM z 0 0 93 [some (.ref b), some (.ref b1), some (.ref b2), some (.ref b3), some (.int (nI (k + 1))), some (.int (nI f)), some (.int (nI Ld)), some (.int (nI i - nI 1)), none, none, none, none, none, none, none] [] g') :
    zM z 0 0 93 [some (.ref b), some (.ref b1), some (.ref b2), some (.ref b3), some (.int (nI (k + 1))), some (.int (nI f)), some (.int (nI Ld)), some (.int (nI (i + 1) - nI 1)), none, none, none, none, none, none, none] [] g := by
  have hBB : BB = 1073741824 := rfl
  have hI' := hI
  obtain ⟨h1, h2, h3, h4, h5, h6⟩ := hI
  have hs' := hs
  obtain ⟨f1, f2, f3, f4, f5, f6, f7⟩ := hs
  obtain ⟨Z, hZ⟩ : ∃ Z, Z = bval (bsl e i) (k + 1 + 1) := ⟨_, rfl⟩
  have hz0 : ∀ j, i + (k + 1 + 1) ≤ j → e j = 0 := fun j hj => h2 j (by omega)
  have hZS : Z < BB * S := by
    rw [bval_at (e := e) (i := i) (k := k + 1 + 1) hz0 (by omega), ← hZ, Nat.pow_succ] at h5
    have : BB ^ i * Z < BB ^ i * (BB * S) := by
      rw [Nat.mul_assoc] at h5
      omega
    exact Nat.lt_of_mul_lt_mul_left this
  obtain ⟨zz, hzz⟩ : ∃ zz, zz = e (i + k + 1) * BB + e (i + k) := ⟨_, rfl⟩
  have hzt : zz = Z / BB ^ k := by rw [hzz, hZ]; exact (kn_top h1 (by omega)).symm
  obtain ⟨kq1, kq2⟩ := kn_q (BB_pos k) hLd hzt hZS s2 (by decide)
  have hqB : Z / S < BB := Nat.div_lt_of_lt_mul (by rw [Nat.mul_comm]; exact hZS)
  obtain ⟨G0, hG0⟩ : ∃ G0, G0 = min (zz / Ld) (BB - 1) := ⟨_, rfl⟩
  rw [← hG0] at kq1 kq2
  have hGB : G0 < BB := by rw [hG0]; have : BB - 1 < BB := (by decide); omega
  have ea := h1 (i + k + 1) (by omega)
  have eb := h1 (i + k) (by omega)
  have hzzB : zz < 9223372036854775808 := by rw [hzz]; rw [hBB] at ea eb ⊢; omega
  have hLd0 : 0 < Ld := by have : 0 < BB := (by decide); omega
  have hne : ¬ (nI Ld).toInt64 = 0 := by
    rw [nI_l (by rw [hBB] at hLB; omega)]
    intro q
    have := (pk_lEQ (a := Ld) (b := 0) (by rw [hBB] at hLB; omega) (by decide)).mp q
    omega
  have e20 : i + (k + 1) = i + k + 1 := by omega
  rw [nI_pr]
  refine zi_iload X dX1_reduceBy_93 rfl ?_
  refine zi_if_lt (tgt := 236) X dX1_reduceBy_95 (by decide) (fun c_95 => (by first | exact absurd (nI_pos (by omega)) c_95 | exact absurd c_95 (nI_pos (by omega)))) (fun c_95 => ?_)
  refine zi_iload X dX1_reduceBy_98 rfl ?_
  refine zi_iload X dX1_reduceBy_100 rfl ?_
  refine zi_iadd X dX1_reduceBy_102 ?_
  refine zi_bipush (v := (nI 20)) X dX1_reduceBy_103 (by decide) ?_
  refine zi_icmp_ge (tgt := 122) X dX1_reduceBy_105 (by decide) (fun c_105 => (by first | exact absurd (by rw [nI_add]; exact nI_ge (show i + (k + 1) < 20 by omega) (by decide)) c_105 | exact absurd c_105 (by rw [nI_add]; exact nI_ge (show i + (k + 1) < 20 by omega) (by decide)))) (fun c_105 => ?_)
  refine zi_aload_n X dX1_reduceBy_108 rfl rfl ?_
  refine zi_getf (C := RX1) (T := TX1) (N := 3) (ci := 5) X (by first | assumption | exact mup_self | (rw [mup_ne (by assumption)]; assumption) | (rw [mup_ne (by assumption)]; exact mup_self) | (rw [mup_ne (by assumption), mup_ne (by assumption)]; assumption)) rfl in_X1 0 (by decide) wf_X1_9 rfl rfl dX1_reduceBy_109 ?_
  refine zi_iload X dX1_reduceBy_112 rfl ?_
  refine zi_iload X dX1_reduceBy_114 rfl ?_
  refine zi_iadd X dX1_reduceBy_116 ?_
  refine zi_iald X 0 (by first | assumption | exact mup_self | (rw [mup_ne (by assumption)]; assumption) | (rw [mup_ne (by assumption)]; exact mup_self) | (rw [mup_ne (by assumption), mup_ne (by assumption)]; assumption)) rfl (by rw [nI_add]; exact vin (show i + (k + 1) < 20 by omega) (by decide)) dX1_reduceBy_117 ?_
  refine zi_i2l X dX1_reduceBy_118 ?_
  refine zi_goto (tgt := 123) X dX1_reduceBy_119 (by decide) ?_
  refine zi_lstore X dX1_reduceBy_123 (by decide) ?_
  refine zi_lload X dX1_reduceBy_125 rfl ?_
  refine zi_bipush (v := (nI 30)) X dX1_reduceBy_127 (by decide) ?_
  refine zi_lshl X dX1_reduceBy_129 ?_
  refine zi_aload_n X dX1_reduceBy_130 rfl rfl ?_
  refine zi_getf (C := RX1) (T := TX1) (N := 3) (ci := 5) X (by first | assumption | exact mup_self | (rw [mup_ne (by assumption)]; assumption) | (rw [mup_ne (by assumption)]; exact mup_self) | (rw [mup_ne (by assumption), mup_ne (by assumption)]; assumption)) rfl in_X1 0 (by decide) wf_X1_9 rfl rfl dX1_reduceBy_131 ?_
  refine zi_iload X dX1_reduceBy_134 rfl ?_
  refine zi_iload X dX1_reduceBy_136 rfl ?_
  refine zi_iadd X dX1_reduceBy_138 ?_
  refine zi_iconst (v := (nI 1)) X dX1_reduceBy_139 (by decide) ?_
  refine zi_isub X dX1_reduceBy_140 ?_
  refine zi_iald X 0 (by first | assumption | exact mup_self | (rw [mup_ne (by assumption)]; assumption) | (rw [mup_ne (by assumption)]; exact mup_self) | (rw [mup_ne (by assumption), mup_ne (by assumption)]; assumption)) rfl (by rw [nI_add, e20, nI_pr]; exact vin (show i + k < 20 by omega) (by decide)) dX1_reduceBy_141 ?_
  refine zi_i2l X dX1_reduceBy_142 ?_
  refine zi_ladd X dX1_reduceBy_143 ?_
  refine zi_iload X dX1_reduceBy_144 rfl ?_
  refine zi_i2l X dX1_reduceBy_146 ?_
  refine zi_ldiv X dX1_reduceBy_147 hne ?_
  have hval : ((bN e (nI i + nI (k + 1)).toNatClampNeg).toInt64 <<< ((nI 30).toInt64 &&& 63) + (bN e (nI i + nI (k + 1) - nI 1).toNatClampNeg).toInt64) / (nI Ld).toInt64 = lN (zz / Ld) := by
    rw [hBB] at ea eb hLB
    rw [nI_add, e20, nI_pr, bN_at (by omega), bN_at (by omega), nI_l (n := e (i + k + 1)) (by omega), nI_l (n := e (i + k)) (by omega), nI_l (n := Ld) (by omega), l_shl30 rfl, lN_add, ← hzz, pk_lDiv hzzB hLd0 (by omega)]
  rw [hval]
  refine zi_ldc2_w X wK_X1_30 dX1_reduceBy_148 ?_
  refine zi_mminl X wm_X1_68 (Nat.le_of_ble_eq_true rfl) (Nat.le_of_ble_eq_true rfl) ⟨(Nat.le_of_ble_eq_true rfl), (Nat.le_of_ble_eq_true rfl)⟩ dX1_reduceBy_151 ?_
  have hmin : (if (1073741823 : Int64) < lN (zz / Ld) then (1073741823 : Int64) else lN (zz / Ld)) = lN G0 := by
    have := minl (a := zz / Ld) (b := BB - 1) (Nat.lt_of_le_of_lt (Nat.div_le_self _ _) hzzB) (by decide)
    rw [hG0, ← this]
    rfl
  rw [hmin]
  have hKm : k + 1 + 1 = min (k + 1 + 1) (20 - i) := by omega
  have hSo : bval (bdig S) (k + 1 + 1) = S := bval_bdig' (Nat.lt_of_lt_of_le s1 (bpow_mono (by omega)))
  have h2S : 2 * S < BB ^ (k + 1 + 1) := by
    rw [Nat.pow_succ BB (k + 1)]
    have : BB ^ (k + 1) * 2 ≤ BB ^ (k + 1) * BB := Nat.mul_le_mul_left _ (by decide)
    omega
  have hZm := Nat.div_add_mod Z S
  have hZr := Nat.mod_lt Z hS0
  obtain ⟨Qd, hQd⟩ : ∃ Qd, Qd = Z / S := ⟨_, rfl⟩
  rw [← hQd] at kq1 kq2 hqB hZm
  -- the corrections
  have fixl : ∀ (u t : Nat) (g' : mH) (e1 : Nat → Nat) (c : Int64), u + t ≤ 2 → rbS (cA 0) h g' b r b2 r2 b3 r3 m (k + 1) S sg e1 q → (∀ j, j < 20 → e1 j < BB) → (∀ j, j < i ∨ i + (k + 1 + 1) ≤ j → e1 j = e j) → (bval (bsl e1 i) (k + 1 + 1) : Int) + c.toInt * (BB ^ (k + 1 + 1) : Nat) = Z - ((Qd + u : Nat) : Int) * S →
      zM z 0 0 182 [some (.ref b), some (.ref b1), some (.ref b2), some (.ref b3), some (.int (nI (k + 1))), some (.int (nI f)), some (.int (nI Ld)), some (.int (nI i)), none, none, some (.long (lN (Qd + u))), none, some (.long c), none, some (.int (nI t))] [] g' := by
    intro u
    induction u with
    | zero =>
      intro t g' e1 c ht hg d1 d2 d3
      have hb1 := bval_lt (d := bsl e1 i) (n := k + 1 + 1) (fun j hj => d1 (i + j) (by omega))
      have hT : (Z : Int) - ((Qd + 0 : Nat) : Int) * S = ((Z % S : Nat) : Int) := by
        rw [Nat.add_zero]
        have : ((S * Qd + Z % S : Nat) : Int) = (Z : Int) := by rw [hZm]
        rw [Int.natCast_add, Int.natCast_mul] at this
        rw [← this, Int.mul_comm (S : Int)]
        omega
      rw [hT] at d3
      have hcar := rb_car (S := S) d3 (by omega) (by omega) (by omega) (by omega) (by omega)
      have hc0 : c.toInt = 0 := by rcases hcar with h | h <;> omega
      rw [hc0, Int.zero_mul, Int.add_zero] at d3
      have d4 : bval (bsl e1 i) (k + 1 + 1) = Z % S := by omega
      have hcz : (0 : Int32) ≤ lg_cmp c (lN 0) := by
        refine (lg_cmp_ge _ _).mpr ((fa_le64 _ _).mpr ?_)
        rw [hc0, lN0]
        decide
      obtain ⟨k1, k2, k3, k4, k5, k6, k7⟩ := id hg
      refine zi_iload X dX1_reduceBy_182 rfl ?_
      refine zi_iconst (v := (nI 3)) X dX1_reduceBy_184 (by decide) ?_
      refine zi_icmp_ge (tgt := 220) X dX1_reduceBy_185 (by decide) (fun c_185 => (by first | exact absurd (nI_ge (show t < 3 by omega) (by decide)) c_185 | exact absurd c_185 (nI_ge (show t < 3 by omega) (by decide)))) (fun c_185 => ?_)
      refine zi_lload X dX1_reduceBy_188 rfl ?_
      refine zi_lconst (v := lN 0) X dX1_reduceBy_190 (by decide) ?_
      refine zi_lcmp X dX1_reduceBy_191 ?_
      refine zi_if_ge (tgt := 220) X dX1_reduceBy_192 (by decide) (fun c_192 => ?_) (fun c_192 => (by first | exact absurd hcz c_192 | exact absurd c_192 hcz))
      refine zi_aload_n X dX1_reduceBy_220 rfl rfl ?_
      refine zi_getf (C := RX1) (T := TX1) (N := 3) (ci := 5) X (by first | assumption | exact mup_self | (rw [mup_ne (by assumption)]; assumption) | (rw [mup_ne (by assumption)]; exact mup_self) | (rw [mup_ne (by assumption), mup_ne (by assumption)]; assumption)) rfl in_X1 0 (by decide) wf_X1_9 rfl rfl dX1_reduceBy_221 ?_
      refine zi_iload X dX1_reduceBy_224 rfl ?_
      refine zi_lload X dX1_reduceBy_226 rfl ?_
      refine zi_l2i X dX1_reduceBy_228 ?_
      refine zi_iast X 0 (by first | assumption | exact mup_self | (rw [mup_ne (by assumption)]; assumption) | (rw [mup_ne (by assumption)]; exact mup_self) | (rw [mup_ne (by assumption), mup_ne (by assumption)]; assumption)) rfl (vin (show i < 20 by omega) (by decide)) dX1_reduceBy_229 ?_
      refine zi_iinc X dX1_reduceBy_230 rfl rfl (by decide) ?_
      refine zi_goto (tgt := 93) X dX1_reduceBy_233 (by decide) ?_
      rw [lN_i, Nat.add_zero, bN_upd (by omega), nI_m1]
      refine zi_sub (by repeat (first | exact trivial | refine And.intro rfl ?_)) (cont _ e1 (updN q i Qd) (rbS_q hnn hg) ?_ (fun j hj => updN_n hj))
      rw [hQd]
      refine rbI_step hI' (by omega) hZ s1 d1 d2 ?_ hS0 (by rw [← hQd]; exact hqB)
      rw [d4, ← hQd, Nat.mul_comm Qd S, Nat.add_comm]
      exact hZm
    | succ u ihu =>
      intro t g' e1 c ht hg d1 d2 d3
      have hb1 := bval_lt (d := bsl e1 i) (n := k + 1 + 1) (fun j hj => d1 (i + j) (by omega))
      have hT : (Z : Int) - ((Qd + (u + 1) : Nat) : Int) * S = ((Z % S : Nat) : Int) - ((u + 1) * S : Nat) := by
        have : ((S * Qd + Z % S : Nat) : Int) = (Z : Int) := by rw [hZm]
        rw [Int.natCast_add, Int.natCast_mul] at this
        rw [← this, Int.natCast_add, Int.add_mul, Int.natCast_mul (u + 1), Int.mul_comm (S : Int)]
        omega
      have hu1 : S ≤ (u + 1) * S := Nat.le_mul_of_pos_left S (by omega)
      have hu2 : (u + 1) * S ≤ 2 * S := Nat.mul_le_mul_right _ (by omega)
      rw [hT] at d3
      have hcar := rb_car (S := S) d3 (by omega) (by omega) (by omega) (by omega) (by omega)
      have hc0 : c.toInt = -1 := by rcases hcar with h | h <;> omega
      have hcz : ¬ (0 : Int32) ≤ lg_cmp c (lN 0) := by
        intro q
        have := (fa_le64 _ _).mp ((lg_cmp_ge _ _).mp q)
        rw [hc0, lN0] at this
        omega
      obtain ⟨k1, k2, k3, k4, k5, k6, k7⟩ := id hg
      refine zi_iload X dX1_reduceBy_182 rfl ?_
      refine zi_iconst (v := (nI 3)) X dX1_reduceBy_184 (by decide) ?_
      refine zi_icmp_ge (tgt := 220) X dX1_reduceBy_185 (by decide) (fun c_185 => (by first | exact absurd (nI_ge (show t < 3 by omega) (by decide)) c_185 | exact absurd c_185 (nI_ge (show t < 3 by omega) (by decide)))) (fun c_185 => ?_)
      refine zi_lload X dX1_reduceBy_188 rfl ?_
      refine zi_lconst (v := lN 0) X dX1_reduceBy_190 (by decide) ?_
      refine zi_lcmp X dX1_reduceBy_191 ?_
      refine zi_if_ge (tgt := 220) X dX1_reduceBy_192 (by decide) (fun c_192 => (by first | exact absurd hcz c_192 | exact absurd c_192 hcz)) (fun c_192 => ?_)
      refine zi_lload X dX1_reduceBy_195 rfl ?_
      refine zi_aload_n X dX1_reduceBy_197 rfl rfl ?_
      refine zi_aload_n X dX1_reduceBy_198 rfl rfl ?_
      refine zi_iload X dX1_reduceBy_199 rfl ?_
      refine zi_lconst (v := lN 1) X dX1_reduceBy_201 (by decide) ?_
      refine zi_callVl X (k_addMultiple l D cA (A := i) (M := k + 1) (o := bdig S) (F := 1) (K := k + 1 + 1) k1 k2 k3 k4 hnn.2.1.2.1.symm d1 (fun j _ => bdig_lt _ j) (by omega) (by omega) rfl (by decide) (by decide) hKm) kc_X1_addMultiple wm_X1_46 (by first | assumption | exact mup_self | (rw [mup_ne (by assumption)]; assumption) | (rw [mup_ne (by assumption)]; exact mup_self) | (rw [mup_ne (by assumption), mup_ne (by assumption)]; assumption)) rfl wim_X1_addMultiple wse_X1_addMultiple ⟨Nat.le_of_ble_eq_true rfl, Nat.le_of_ble_eq_true rfl⟩ rfl rfl (Nat.le_of_ble_eq_true rfl) ⟨Nat.le_of_ble_eq_true rfl, Nat.le_of_ble_eq_true rfl⟩ dX1_reduceBy_202 (fun x g2 hx => ?_)
      obtain ⟨e2, rfl, hP⟩ := hx
      have hxr := rb_fix hP hSo (g := ((Qd + (u + 1) : Nat) : Int)) (Z := Z) (c := c.toInt) (by rw [hT]; exact d3)
      have hxa : (c + x).toInt = c.toInt + x.toInt := by
        refine l_add rfl rfl ?_ ?_
        all_goals
          have hb2 := bval_lt (d := bsl e2 i) (n := k + 1 + 1) (fun j hj => hP.1 (i + j) (by omega))
          have hT2 : (Z : Int) - (((Qd + (u + 1) : Nat) : Int) - 1) * S = ((Z % S : Nat) : Int) - (u * S : Nat) := by
            have : ((S * Qd + Z % S : Nat) : Int) = (Z : Int) := by rw [hZm]
            rw [Int.natCast_add, Int.natCast_mul] at this
            rw [← this, Int.natCast_add, Int.sub_mul, Int.add_mul, Int.natCast_mul u, Int.mul_comm (S : Int), Int.natCast_add u, Int.add_mul]
            omega
          have hu3 : u * S ≤ 2 * S := Nat.mul_le_mul_right _ (by omega)
          rw [hT2] at hxr
          have := rb_car (S := S) hxr (by omega) (by omega) (by omega) (by omega) (by omega)
          omega
      refine zi_ladd X dX1_reduceBy_205 ?_
      refine zi_lstore X dX1_reduceBy_206 (by decide) ?_
      refine zi_lload X dX1_reduceBy_208 rfl ?_
      refine zi_lconst (v := lN 1) X dX1_reduceBy_210 (by decide) ?_
      refine zi_lsub X dX1_reduceBy_211 ?_
      refine zi_lstore X dX1_reduceBy_212 (by decide) ?_
      refine zi_iinc (v := nI (t + 1)) X dX1_reduceBy_214 rfl (nI_inc _) (by decide) ?_
      refine zi_goto (tgt := 182) X dX1_reduceBy_217 (by decide) ?_
      have hgm : lN (Qd + (u + 1)) - lN 1 = lN (Qd + u) := by rw [lN_sub (by omega)]; rfl
      rw [hgm]
      refine zi_sub (by repeat (first | exact trivial | refine And.intro rfl ?_)) (ihu (t + 1) _ e2 (c + x) (by omega) (rbS_r hnn hg) hP.1 (fun j hj => by rw [hP.2.1 j hj]; exact d2 j hj) ?_)
      rw [hxa, hxr]
      congr 2
      omega
  refine zi_lstore X dX1_reduceBy_154 (by decide) ?_
  refine zi_lload X dX1_reduceBy_156 rfl ?_
  refine zi_lconst (v := lN 0) X dX1_reduceBy_158 (by decide) ?_
  refine zi_lcmp X dX1_reduceBy_159 ?_
  refine zi_if_ne (tgt := 167) X dX1_reduceBy_160 (by decide) (fun c_160 => ?_) (fun c_160 => ?_)
  · have hg0 : ¬ G0 = 0 := fun q => c_160 ((lg_cmp_eq _ _).mpr (by rw [q]))
    have hGi : (lN G0).toInt = (G0 : Int) := lN_int (by rw [hBB] at hGB; omega)
    have hneg : (-lN G0).toInt = -(G0 : Int) := l_neg hGi (by rw [hBB] at hGB; omega) (by omega)
    refine zi_aload_n X dX1_reduceBy_167 rfl rfl ?_
    refine zi_aload_n X dX1_reduceBy_168 rfl rfl ?_
    refine zi_iload X dX1_reduceBy_169 rfl ?_
    refine zi_lload X dX1_reduceBy_171 rfl ?_
    refine zi_lneg X dX1_reduceBy_173 ?_
    refine zi_callVl X (k_addMultiple l D cA (A := i) (M := k + 1) (o := bdig S) (F := -(G0 : Int)) (K := k + 1 + 1) f1 f2 f3 f4 hnn.2.1.2.1.symm h1 (fun j _ => bdig_lt _ j) (by omega) (by omega) hneg (by omega) (by omega) hKm) kc_X1_addMultiple wm_X1_46 (by first | assumption | exact mup_self | (rw [mup_ne (by assumption)]; assumption) | (rw [mup_ne (by assumption)]; exact mup_self) | (rw [mup_ne (by assumption), mup_ne (by assumption)]; assumption)) rfl wim_X1_addMultiple wse_X1_addMultiple ⟨Nat.le_of_ble_eq_true rfl, Nat.le_of_ble_eq_true rfl⟩ rfl rfl (Nat.le_of_ble_eq_true rfl) ⟨Nat.le_of_ble_eq_true rfl, Nat.le_of_ble_eq_true rfl⟩ dX1_reduceBy_174 (fun x g2 hx => ?_)
    obtain ⟨e2, rfl, hP⟩ := hx
    refine zi_lstore X dX1_reduceBy_177 (by decide) ?_
    refine zi_iconst (v := (nI 0)) X dX1_reduceBy_179 (by decide) ?_
    refine zi_istore X dX1_reduceBy_180 (by decide) ?_
    obtain ⟨u, rfl⟩ : ∃ u, G0 = Qd + u := ⟨G0 - Qd, by omega⟩
    refine zi_sub (by repeat (first | exact trivial | refine And.intro rfl ?_)) (fixl u 0 _ e2 x (by omega) (rbS_r hnn hs') hP.1 hP.2.1 ?_)
    have := hP.2.2
    rw [hSo, ← hZ] at this
    rw [this, Int.neg_mul]
    omega
  · have hg0 : G0 = 0 := by
      have := (lg_cmp_eq _ _).mp c_160
      exact (pk_lEQ (a := G0) (b := 0) (by rw [hBB] at hGB; omega) (by decide)).mp this
    have hQ0 : Qd = 0 := by omega
    refine zi_lconst (v := lN 0) X dX1_reduceBy_163 (by decide) ?_
    refine zi_goto (tgt := 177) X dX1_reduceBy_164 (by decide) ?_
    refine zi_lstore X dX1_reduceBy_177 (by decide) ?_
    refine zi_iconst (v := (nI 0)) X dX1_reduceBy_179 (by decide) ?_
    refine zi_istore X dX1_reduceBy_180 (by decide) ?_
    rw [hg0]
    have := fixl 0 0 g e (lN 0) (by omega) hs' h1 (fun j _ => rfl) (by rw [lN0, hQ0, ← hZ]; omega)
    rw [hQ0] at this
    exact zi_sub (by repeat (first | exact trivial | refine And.intro rfl ?_)) this
set_option maxHeartbeats 4000000 in
set_option maxRecDepth 20000 in
theorem k_reduceBy (l : Launch) (D : va_G) (cA : Nat → ClassId) {h : mH} {b r b1 r1 b2 r2 b3 r3 : Nat} {v w s t : Int} (hB : isBig h (cA 0) b r v) (hB1 : isBig h (cA 0) b1 r1 w) (hB2 : isBig h (cA 0) b2 r2 s) (hB3 : isBig h (cA 0) b3 r3 t)
    (n1 : b1 ≠ b) (n2 : b2 ≠ b) (n3 : b3 ≠ b) (n4 : b2 ≠ b1) (n5 : b3 ≠ b1) (n6 : b3 ≠ b2) (m1 : r1 ≠ r) (m2 : r2 ≠ r) (m3 : r3 ≠ r) (m4 : r2 ≠ r1) (m5 : r3 ≠ r1) (m6 : r3 ≠ r2) (hv : v.natAbs < BB ^ 18) :
    mCv l yX1_reduceBy cX1_reduceBy 15 (rmd 2) D (mT cA) [.ref b, .ref b1, .ref b2, .ref b3] h (fun h1 => hsame [b, r, b2, r2, b3, r3] h1 h ∧ isBig h1 (cA 0) b r ((v.natAbs % w.natAbs : Nat) : Int) ∧ isBig h1 (cA 0) b3 r3 ((v.natAbs / w.natAbs : Nat) : Int) ∧ ∃ s', isBig h1 (cA 0) b2 r2 s') := by
  have hnn : rbN b r b2 r2 b3 r3 := ⟨⟨hB.ne hB, n2.symm, hB.ne hB2, n3.symm, hB.ne hB3⟩, ⟨(hB2.ne hB).symm, m2.symm, (hB3.ne hB).symm, m3.symm⟩, ⟨hB2.ne hB2, n6.symm, hB2.ne hB3⟩, ⟨(hB3.ne hB2).symm, m6.symm⟩, hB3.ne hB3⟩
  have hb := hB.1
  have hb1 := hB1.1
  have hb3 := hB3.1
  have hr1b3 := (hB3.ne hB1).symm
  have hb1r3 := hB1.ne hB3
  have hbr3 := hB.ne hB3
  have hBB : BB = 1073741824 := rfl
  refine mEnter_v (by decide) (Nat.le_of_ble_eq_true rfl) rfl (fun z X Vz => ?_)
  refine zi_aload_n X dX1_reduceBy_0 rfl rfl ?_
  refine zi_callVv X (k_clear l D cA hB3) kc_X1_clear wm_X1_21 (by first | assumption | exact mup_self | (rw [mup_ne (by assumption)]; assumption) | (rw [mup_ne (by assumption)]; exact mup_self) | (rw [mup_ne (by assumption), mup_ne (by assumption)]; assumption)) rfl wim_X1_clear wse_X1_clear ⟨Nat.le_of_ble_eq_true rfl, Nat.le_of_ble_eq_true rfl⟩ rfl rfl (Nat.le_of_ble_eq_true rfl) ⟨Nat.le_of_ble_eq_true rfl, Nat.le_of_ble_eq_true rfl⟩ dX1_reduceBy_1 (fun g1 e1 => ?_)
  have a1 : g1 b = some (bigO r v) := by rw [e1, mbig_o n3.symm hbr3]; exact hb
  have a2 : g1 r = some (bigA (cA 0) v) := by rw [e1, mbig_o (hB3.ne hB).symm m3.symm]; exact hB.2.1
  have a3 : g1 b1 = some (bigO r1 w) := by rw [e1, mbig_o n5.symm hb1r3]; exact hb1
  have a4 : g1 r1 = some (bigA (cA 0) w) := by rw [e1, mbig_o hr1b3 m5.symm]; exact hB1.2.1
  have a5 : g1 b2 = some (bigO r2 s) := by rw [e1, mbig_o n6.symm (hB2.ne hB3)]; exact hB2.1
  have a6 : g1 r2 = some (bigA (cA 0) s) := by rw [e1, mbig_o (hB3.ne hB2).symm m6.symm]; exact hB2.2.1
  have a7 : g1 b3 = some (bigO r3 0) := by rw [e1]; exact mbig_b
  have a8 : g1 r3 = some (bigA (cA 0) 0) := by rw [e1]; exact mbig_r (hB3.ne hB3).symm
  have a9 : hsame [b, r, b2, r2, b3, r3] g1 h := by
    rw [e1]
    unfold mbig
    exact hsame_up (hsame_up (hsame_rf _ _) (by simp)) (by simp)
  have hl18 : blen v.natAbs ≤ 18 := blen_le_of hB.2.2 hv
  have hlw := blen_le w.natAbs
  refine zi_aload_n X dX1_reduceBy_4 rfl rfl ?_
  refine zi_iconst (v := (nI 0)) X dX1_reduceBy_5 (by decide) ?_
  refine zi_putf (C := RX1) (T := TX1) (N := 3) (ci := 5) (ty0 := tyX1) X (by first | assumption | exact mup_self | (rw [mup_ne (by assumption)]; assumption) | (rw [mup_ne (by assumption)]; exact mup_self) | (rw [mup_ne (by assumption), mup_ne (by assumption)]; assumption)) rfl in_X1 tyX1_ok nmX1 2 (by decide) wf_X1_17 rfl rfl rfl rfl rfl (Nat.le_of_ble_eq_true rfl) dX1_reduceBy_6 ?_
  have c1 : mup g1 b (bO r (nI (blen v.natAbs)) (nI 0)) b1 = some (bigO r1 w) := by rw [mup_ne n1]; exact a3
  refine zi_eqh (h' := mup g1 b (bO r (nI (blen v.natAbs)) (nI 0))) rfl ?_
  obtain ⟨g2, e2⟩ : ∃ g2, g2 = mup g1 b (bO r (nI (blen v.natAbs)) (nI 0)) := ⟨_, rfl⟩
  rw [← e2] at c1 ⊢
  have b1' : g2 b = some (bO r (nI (blen v.natAbs)) (nI 0)) := by rw [e2]; exact mup_self
  have b2' : g2 r = some (bA (cA 0) (bN (bdig v.natAbs))) := by rw [e2, mup_ne (hB.ne hB).symm]; exact a2
  have b4' : g2 r1 = some (bigA (cA 0) w) := by rw [e2, mup_ne (hB.ne hB1).symm]; exact a4
  have b5' : g2 b2 = some (bigO r2 s) := by rw [e2, mup_ne n2]; exact a5
  have b6' : g2 r2 = some (bigA (cA 0) s) := by rw [e2, mup_ne (hB.ne hB2).symm]; exact a6
  have b7' : g2 b3 = some (bigO r3 0) := by rw [e2, mup_ne n3]; exact a7
  have b8' : g2 r3 = some (bigA (cA 0) 0) := by rw [e2, mup_ne hbr3.symm]; exact a8
  have b9' : hsame [b, r, b2, r2, b3, r3] g2 h := by rw [e2]; exact hsame_up a9 (by simp)
  have hret : v.natAbs % w.natAbs = v.natAbs → v.natAbs / w.natAbs = 0 → hsame [b, r, b2, r2, b3, r3] g2 h ∧ isBig g2 (cA 0) b r ((v.natAbs % w.natAbs : Nat) : Int) ∧ isBig g2 (cA 0) b3 r3 ((v.natAbs / w.natAbs : Nat) : Int) ∧ ∃ s', isBig g2 (cA 0) b2 r2 s' := by
    intro q1 q2
    rw [q1, q2]
    refine ⟨b9', ⟨?_, ?_, hB.2.2⟩, ⟨b7', b8', by decide⟩, s, b5', b6', hB2.2.2⟩
    · rw [b1']
      unfold bigO bO bsg
      rw [if_neg (by omega), Int.natAbs_natCast]
    · rw [b2']
      unfold bigA
      rw [Int.natAbs_natCast]
  refine zi_aload_n X dX1_reduceBy_9 rfl rfl ?_
  refine zi_getf (C := RX1) (T := TX1) (N := 3) (ci := 5) X (by first | assumption | exact mup_self | (rw [mup_ne (by assumption)]; assumption) | (rw [mup_ne (by assumption)]; exact mup_self) | (rw [mup_ne (by assumption), mup_ne (by assumption)]; assumption)) rfl in_X1 1 (by decide) wf_X1_13 rfl rfl dX1_reduceBy_10 ?_
  refine zi_istore X dX1_reduceBy_13 (by decide) ?_
  refine zi_iload X dX1_reduceBy_15 rfl ?_
  refine zi_if_eq (tgt := 29) X dX1_reduceBy_17 (by decide) (fun c_17 => ?_) (fun c_17 => ?_)
  · have hw0 : w.natAbs = 0 := (blen_0 hB1.2.2).mp ((nI_z (by omega)).mp c_17)
    refine zi_return X Vz dX1_reduceBy_29 ?_
    exact hret (by rw [hw0, Nat.mod_zero]) (by rw [hw0, Nat.div_zero])
  have hw0 : ¬ blen w.natAbs = 0 := fun q => c_17 ((nI_z (by omega)).mpr q)
  refine zi_aload_n X dX1_reduceBy_20 rfl rfl ?_
  refine zi_getf (C := RX1) (T := TX1) (N := 3) (ci := 5) X (by first | assumption | exact mup_self | (rw [mup_ne (by assumption)]; assumption) | (rw [mup_ne (by assumption)]; exact mup_self) | (rw [mup_ne (by assumption), mup_ne (by assumption)]; assumption)) rfl in_X1 1 (by decide) wf_X1_13 rfl rfl dX1_reduceBy_21 ?_
  refine zi_iload X dX1_reduceBy_24 rfl ?_
  refine zi_icmp_ge (tgt := 30) X dX1_reduceBy_26 (by decide) (fun c_26 => ?_) (fun c_26 => ?_)
  rotate_left
  · have hlt : blen v.natAbs < blen w.natAbs := by
      have : ¬ blen w.natAbs ≤ blen v.natAbs := fun q => c_26 (nI_le q (by omega))
      omega
    have hvw : v.natAbs < w.natAbs := Nat.lt_of_lt_of_le (blen_lt hB.2.2) (Nat.le_trans (bpow_mono (show blen v.natAbs ≤ blen w.natAbs - 1 by omega)) (blen_ge hB1.2.2 (by omega)))
    refine zi_return X Vz dX1_reduceBy_29 ?_
    exact hret (Nat.mod_eq_of_lt hvw) (Nat.div_eq_of_lt hvw)
  have hle : blen w.natAbs ≤ blen v.natAbs := (nI_leI (by omega) (by omega)).mp c_26
  obtain ⟨k, hk⟩ : ∃ k, blen w.natAbs = k + 1 := ⟨blen w.natAbs - 1, by omega⟩
  rw [hk] at hle
  rw [hk]
  have hWlt := blen_lt hB1.2.2
  have hWge := blen_ge hB1.2.2 (by omega)
  rw [hk] at hWlt hWge
  rw [show k + 1 - 1 = k by omega] at hWge
  generalize hV : v.natAbs = V at *
  generalize hW : w.natAbs = W at *
  obtain ⟨tp, htp⟩ : ∃ tp, tp = W / BB ^ k := ⟨_, rfl⟩
  have htp0 : 0 < tp := by rw [htp]; exact Nat.div_pos hWge (BB_pos k)
  have htpB : tp < BB := by
    rw [htp]
    exact Nat.div_lt_of_lt_mul (by rw [← Nat.pow_succ]; exact hWlt)
  have htpd : bdig W k = tp := by
    unfold bdig
    rw [← htp, Nat.mod_eq_of_lt htpB]
  obtain ⟨f, hf⟩ : ∃ f, f = BB / (tp + 1) := ⟨_, rfl⟩
  obtain ⟨s1, s2, s3, s4⟩ := kn_scaled hWlt htp htp0 hf
  obtain ⟨S, hS⟩ : ∃ S, S = W * f := ⟨_, rfl⟩
  obtain ⟨Ld, hLd⟩ : ∃ Ld, Ld = S / BB ^ k := ⟨_, rfl⟩
  rw [← hS] at s1 s2
  rw [← hLd] at s2
  have hLB : Ld < BB := by
    rw [hLd]
    exact Nat.div_lt_of_lt_mul (by rw [← Nat.pow_succ]; exact s1)
  have hLdd : bdig S k = Ld := by
    unfold bdig
    rw [← hLd, Nat.mod_eq_of_lt hLB]
  have hS0 : 0 < S := by
    by_cases q : 0 < S
    · exact q
    · have : S = 0 := by omega
      rw [this, Nat.zero_div] at hLd
      omega
  have hS20 : S < BB ^ 20 := Nat.lt_of_lt_of_le s1 (bpow_mono (by omega))
  have hSk : BB ^ k ≤ S := by
    have : 1 ≤ S / BB ^ k := by omega
    have := (Nat.le_div_iff_mul_le (BB_pos k)).mp this
    omega
  have hSlen : blen S = k + 1 := by
    have q1 := blen_le_of hS20 s1
    by_cases q2 : blen S = k + 1
    · exact q2
    · have q3 := blen_lt hS20
      have := bpow_mono (show blen S ≤ k by omega)
      omega
  have hd1 : (nI tp + nI 1 : Int32) = nI (tp + 1) := nI_sc tp
  have hmax : (if nI 1 < (bN (bdig W) (nI (k + 1) - nI 1).toNatClampNeg + nI 1 : Int32) then (bN (bdig W) (nI (k + 1) - nI 1).toNatClampNeg + nI 1 : Int32) else nI 1) = nI (tp + 1) := by
    rw [nI_pr, bN_at (by omega), htpd, hd1]
    rw [hBB] at htpB
    rw [if_pos (nI_lt (a := 1) (by omega) (by omega))]
  have hdne : ¬ (nI (tp + 1) : Int32) = 0 := by
    rw [nI_z (by rw [hBB] at htpB; omega)]
    omega
  refine zi_ldc X wk_X1_67 dX1_reduceBy_30 ?_
  refine zi_iconst (v := (nI 1)) X dX1_reduceBy_32 (by decide) ?_
  refine zi_aload_n X dX1_reduceBy_33 rfl rfl ?_
  refine zi_getf (C := RX1) (T := TX1) (N := 3) (ci := 5) X (by first | assumption | exact mup_self | (rw [mup_ne (by assumption)]; assumption) | (rw [mup_ne (by assumption)]; exact mup_self) | (rw [mup_ne (by assumption), mup_ne (by assumption)]; assumption)) rfl in_X1 0 (by decide) wf_X1_9 rfl rfl dX1_reduceBy_34 ?_
  refine zi_iload X dX1_reduceBy_37 rfl ?_
  refine zi_iconst (v := (nI 1)) X dX1_reduceBy_39 (by decide) ?_
  refine zi_isub X dX1_reduceBy_40 ?_
  refine zi_iald X 0 (by first | assumption | exact mup_self | (rw [mup_ne (by assumption)]; assumption) | (rw [mup_ne (by assumption)]; exact mup_self) | (rw [mup_ne (by assumption), mup_ne (by assumption)]; assumption)) rfl (by rw [nI_pr]; exact vin (show k < 20 by omega) (by decide)) dX1_reduceBy_41 ?_
  refine zi_iconst (v := (nI 1)) X dX1_reduceBy_42 (by decide) ?_
  refine zi_iadd X dX1_reduceBy_43 ?_
  refine zi_mmax X wm_X1_54 (Nat.le_of_ble_eq_true rfl) (Nat.le_of_ble_eq_true rfl) ⟨(Nat.le_of_ble_eq_true rfl), (Nat.le_of_ble_eq_true rfl)⟩ dX1_reduceBy_44 ?_
  have hfac : (1073741824 / nI (tp + 1) : Int32) = nI f := by
    rw [show (1073741824 : Int32) = nI BB from rfl, pk_div (by decide) (by omega) (by rw [hBB] at htpB; omega), hf]
  rw [hW, hmax]
  refine zi_idiv X dX1_reduceBy_47 hdne ?_
  rw [hfac]
  refine zi_istore X dX1_reduceBy_48 (by decide) ?_
  refine zi_aload_n X dX1_reduceBy_50 rfl rfl ?_
  refine zi_aload_n X dX1_reduceBy_51 rfl rfl ?_
  have i1 : isBig g2 (cA 0) b1 r1 w := ⟨c1, b4', hB1.2.2⟩
  have i2 : isBig g2 (cA 0) b2 r2 s := ⟨b5', b6', hB2.2.2⟩
  refine zi_callVv X (k_become l D cA i2 i1 n4.symm) kc_X1_become wm_X1_42 (by first | assumption | exact mup_self | (rw [mup_ne (by assumption)]; assumption) | (rw [mup_ne (by assumption)]; exact mup_self) | (rw [mup_ne (by assumption), mup_ne (by assumption)]; assumption)) rfl wim_X1_become wse_X1_become ⟨Nat.le_of_ble_eq_true rfl, Nat.le_of_ble_eq_true rfl⟩ rfl rfl (Nat.le_of_ble_eq_true rfl) ⟨Nat.le_of_ble_eq_true rfl, Nat.le_of_ble_eq_true rfl⟩ dX1_reduceBy_52 (fun g3 e3 => ?_)
  have d5 : g3 b2 = some (bO r2 (nI (blen W)) (bsg w)) := by rw [e3, mbig_b, ← hW]; rfl
  have d6 : g3 r2 = some (bA (cA 0) (bN (bdig W))) := by rw [e3, mbig_r (hB2.ne hB2).symm, ← hW]; rfl
  have hfi : (nI f).toInt64.toInt = (f : Int) := l_d s4
  refine zi_aload_n X dX1_reduceBy_55 rfl rfl ?_
  refine zi_iload X dX1_reduceBy_56 rfl ?_
  refine zi_i2l X dX1_reduceBy_58 ?_
  refine zi_callVv X (k_magnify l D cA (V := W) (F := f) d5 d6 hfi s3 s4 (by rw [← hS]; exact hS20)) kc_X1_magnify wm_X1_60 (by first | assumption | exact mup_self | (rw [mup_ne (by assumption)]; assumption) | (rw [mup_ne (by assumption)]; exact mup_self) | (rw [mup_ne (by assumption), mup_ne (by assumption)]; assumption)) rfl wim_X1_magnify wse_X1_magnify ⟨Nat.le_of_ble_eq_true rfl, Nat.le_of_ble_eq_true rfl⟩ rfl rfl (Nat.le_of_ble_eq_true rfl) ⟨Nat.le_of_ble_eq_true rfl, Nat.le_of_ble_eq_true rfl⟩ dX1_reduceBy_59 (fun g4 e4 => ?_)
  rw [← hS, hSlen] at e4
  have o1 : g4 b = some (bO r (nI (blen V)) (nI 0)) := by rw [e4, mup_ne n2.symm, mup_ne (hB.ne hB2), e3, mbig_o n2.symm (hB.ne hB2)]; exact b1'
  have o2 : g4 r = some (bA (cA 0) (bN (bdig V))) := by rw [e4, mup_ne (hB2.ne hB).symm, mup_ne m2.symm, e3, mbig_o (hB2.ne hB).symm m2.symm]; exact b2'
  have hXlt : V * f < BB ^ 19 := by
    have : V * f < BB ^ 18 * BB := by
      have := Nat.mul_le_mul_left V (Nat.le_of_lt s4)
      have := Nat.mul_lt_mul_of_pos_right hv (show 0 < BB by decide)
      omega
    rw [← Nat.pow_succ] at this
    exact this
  refine zi_aload_n X dX1_reduceBy_62 rfl rfl ?_
  refine zi_iload X dX1_reduceBy_63 rfl ?_
  refine zi_i2l X dX1_reduceBy_65 ?_
  refine zi_callVv X (k_magnify l D cA (V := V) (F := f) o1 o2 hfi s3 s4 (Nat.lt_of_lt_of_le hXlt (bpow_mono (by decide)))) kc_X1_magnify wm_X1_60 (by first | assumption | exact mup_self | (rw [mup_ne (by assumption)]; assumption) | (rw [mup_ne (by assumption)]; exact mup_self) | (rw [mup_ne (by assumption), mup_ne (by assumption)]; assumption)) rfl wim_X1_magnify wse_X1_magnify ⟨Nat.le_of_ble_eq_true rfl, Nat.le_of_ble_eq_true rfl⟩ rfl rfl (Nat.le_of_ble_eq_true rfl) ⟨Nat.le_of_ble_eq_true rfl, Nat.le_of_ble_eq_true rfl⟩ dX1_reduceBy_66 (fun g5 e5 => ?_)
  obtain ⟨XX, hXX⟩ : ∃ XX, XX = V * f := ⟨_, rfl⟩
  rw [← hXX] at e5 hXlt
  have hXX20 : XX < BB ^ 20 := Nat.lt_of_lt_of_le hXlt (bpow_mono (by decide))
  obtain ⟨m, hm⟩ : ∃ m, m = blen XX := ⟨_, rfl⟩
  rw [← hm] at e5
  have hm19 : m ≤ 19 := by rw [hm]; exact blen_le_of hXX20 hXlt
  have hVX : V ≤ XX := by rw [hXX]; exact Nat.le_mul_of_pos_right V s3
  have hkm : k + 1 ≤ m := by
    have q1 := blen_ge (v := V) (by rw [← hV]; exact hB.2.2) (by omega)
    have q2 := blen_lt hXX20
    rw [← hm] at q2
    have q3 : BB ^ (blen V - 1) < BB ^ m := by omega
    have := (Nat.pow_lt_pow_iff_right (by decide : 1 < BB)).mp q3
    omega
  have hst : rbS (cA 0) h g5 b r b2 r2 b3 r3 m (k + 1) S (bsg w) (bdig XX) (bdig 0) := by
    have nrb := hnn
    obtain ⟨⟨p1, p2, p3, p4, p5⟩, ⟨p6, p7, p8, p9⟩, ⟨p10, p11, p12⟩, ⟨p13, p14⟩, p15⟩ := nrb
    refine ⟨by rw [e5]; exact mup_self, by rw [e5, mup_ne p1.symm]; exact mup_self, ?_, ?_, ?_, ?_, ?_⟩
    · rw [e5, mup_ne p2.symm, mup_ne p6.symm, e4]
      exact mup_self
    · rw [e5, mup_ne p3.symm, mup_ne p7.symm, e4, mup_ne p10.symm]
      exact mup_self
    · rw [e5, mup_ne p4.symm, mup_ne p8.symm, e4, mup_ne p11.symm, mup_ne p13.symm, e3, mbig_o p11.symm p13.symm]
      exact b7'
    · rw [e5, mup_ne p5.symm, mup_ne p9.symm, e4, mup_ne p12.symm, mup_ne p14.symm, e3, mbig_o p12.symm p14.symm]
      exact b8'
    · rw [e5]
      refine hsame_up (hsame_up ?_ (by simp)) (by simp)
      rw [e4]
      refine hsame_up (hsame_up ?_ (by simp)) (by simp)
      rw [e3]
      unfold mbig
      exact hsame_up (hsame_up b9' (by simp)) (by simp)
  have hI0 : rbI (bdig XX) (bdig 0) XX S (k + 1) (m - (k + 1) + 1) := by
    have q2 := blen_lt hXX20
    rw [← hm] at q2
    refine ⟨fun j _ => bdig_lt _ j, fun j hj => bdig_big q2 (by omega), fun j _ => bdig_lt _ j, fun j _ => bdig_0 j, ?_, ?_⟩
    · rw [bval_bdig' hXX20]
      refine Nat.lt_of_lt_of_le q2 ?_
      have : BB ^ (m - (k + 1) + 1) * BB ^ k ≤ BB ^ (m - (k + 1) + 1) * S := Nat.mul_le_mul_left _ hSk
      rw [← Nat.pow_add] at this
      rw [show m - (k + 1) + 1 + k = m by omega] at this
      exact this
    · rw [bval_bdig' hXX20, bval_bdig, Nat.zero_mod, Nat.mul_zero, Nat.add_zero]
  clear hret
  have x1 := hst.1
  have x2 := hst.2.2.1
  have x3 := hst.2.2.2.1
  refine zi_iconst (v := (nI 1)) X dX1_reduceBy_69 (by decide) ?_
  refine zi_aload_n X dX1_reduceBy_70 rfl rfl ?_
  refine zi_getf (C := RX1) (T := TX1) (N := 3) (ci := 5) X (by first | assumption | exact mup_self | (rw [mup_ne (by assumption)]; assumption) | (rw [mup_ne (by assumption)]; exact mup_self) | (rw [mup_ne (by assumption), mup_ne (by assumption)]; assumption)) rfl in_X1 0 (by decide) wf_X1_9 rfl rfl dX1_reduceBy_71 ?_
  refine zi_iload X dX1_reduceBy_74 rfl ?_
  refine zi_iconst (v := (nI 1)) X dX1_reduceBy_76 (by decide) ?_
  refine zi_isub X dX1_reduceBy_77 ?_
  refine zi_iald X 0 (by first | assumption | exact mup_self | (rw [mup_ne (by assumption)]; assumption) | (rw [mup_ne (by assumption)]; exact mup_self) | (rw [mup_ne (by assumption), mup_ne (by assumption)]; assumption)) rfl (by rw [nI_pr]; exact vin (show k < 20 by omega) (by decide)) dX1_reduceBy_78 ?_
  have hlead : (if nI 1 < bN (bdig S) (nI (k + 1) - nI 1).toNatClampNeg then bN (bdig S) (nI (k + 1) - nI 1).toNatClampNeg else nI 1) = nI Ld := by
    rw [nI_pr, bN_at (by omega), hLdd]
    rw [hBB] at s2 hLB
    rw [if_pos (nI_lt (a := 1) (by omega) (by omega))]
  refine zi_mmax X wm_X1_54 (Nat.le_of_ble_eq_true rfl) (Nat.le_of_ble_eq_true rfl) ⟨(Nat.le_of_ble_eq_true rfl), (Nat.le_of_ble_eq_true rfl)⟩ dX1_reduceBy_79 ?_
  refine zi_istore X dX1_reduceBy_82 (by decide) ?_
  refine zi_aload_n X dX1_reduceBy_84 rfl rfl ?_
  refine zi_getf (C := RX1) (T := TX1) (N := 3) (ci := 5) X (by first | assumption | exact mup_self | (rw [mup_ne (by assumption)]; assumption) | (rw [mup_ne (by assumption)]; exact mup_self) | (rw [mup_ne (by assumption), mup_ne (by assumption)]; assumption)) rfl in_X1 1 (by decide) wf_X1_13 rfl rfl dX1_reduceBy_85 ?_
  refine zi_iload X dX1_reduceBy_88 rfl ?_
  refine zi_isub X dX1_reduceBy_90 ?_
  rw [hlead, pk_sub hkm]
  suffices key : ∀ i (g : mH) (e q : Nat → Nat), i ≤ m - (k + 1) + 1 → rbS (cA 0) h g b r b2 r2 b3 r3 m (k + 1) S (bsg w) e q → rbI e q XX S (k + 1) i → (∀ j, m - (k + 1) + 1 ≤ j → q j = 0) → g b1 = some (bigO r1 w) → zM z 0 0 93 [some (.ref b), some (.ref b1), some (.ref b2), some (.ref b3), some (.int (nI (k + 1))), some (.int (nI f)), some (.int (nI Ld)), some (.int (nI i - nI 1)), none, none, none, none, none, none, none] [] g from by
    refine zi_istore X dX1_reduceBy_91 (by decide) ?_
    have q1 : g5 b1 = some (bigO r1 w) := by rw [e5, mup_ne n1, mup_ne (hB1.ne hB), e4, mup_ne n4.symm, mup_ne (hB1.ne hB2), e3, mbig_o n4.symm (hB1.ne hB2)]; exact c1
    have key2 := key (m - (k + 1) + 1) g5 (bdig XX) (bdig 0) (Nat.le_refl _) hst hI0 (fun j _ => bdig_0 j) q1
    rw [nI_pr] at key2
    exact zi_sub (by repeat (first | exact trivial | refine And.intro rfl ?_)) key2
  have hsgn : ∀ x : Int32, (if x = 0 then nI 0 else nI 0) = nI 0 := fun x => by split <;> rfl
  clear hst hI0 x1 x2 x3 e5 o1 o2 e4 d5 d6 e3 i1 i2 c1 b1' b2' b4' b5' b6' b7' b8' b9' a1 a2 a3 a4 a5 a6 a7 a8 a9 e1 e2 hlead
  intro i
  induction i with
  | zero =>
    intro g e q _ hs hI hqz hg1
    exact k_rb_end X Vz (fun _ z => z) hnn (by rw [← hV]; exact hB.2.2) hS0 hXX hS hW s3 s4 hm19 hkm hSlen hS20 hs hI hqz
  | succ i ih =>
    intro g e q hi hs hI hqz hg1
    refine k_rb_step X hnn hS0 hLd s1 s2 hLB (by omega) hs hI (fun g' e' q' hs1 hI1 hq1 => ih g' e' q' (by omega) hs1 hI1 (fun j hj => by rw [hq1 j (by omega)]; exact hqz j hj) ?_)
    rw [hs1.2.2.2.2.2.2 b1 (by simp [n1, n4.symm, n5.symm, hB1.ne hB, hB1.ne hB2, hb1r3])]
    exact hb1
