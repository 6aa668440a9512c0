/-! SturmRoots: what is required of polynomials, points, intervals; sizes -/
/-- what the calls need of one polynomial's sizes -/
def okD (p : Nat → Int) : Prop := gcdOk 10000 (prm p) (prm (derI p)) ∧ (stI (gcdP p (derI p)) 7 = 0 ∨ stI (gcdP p (derI p)) 7 ≤ stI p 7) ∧ ∃ F H, (∀ i, i < 7 → (p i).natAbs ≤ F) ∧ (∀ i, i < 7 → (gcdP p (derI p) i).natAbs ≤ H) ∧ F * (1 + H) ^ (stI p 7 + 1 - stI (gcdP p (derI p)) 7) < BB ^ 18
def ok1 (p : Nat → Int) : Prop := okW p ∧ okE p ∧ okD p ∧ okW (sqfP p) ∧ okE (sqfP p) ∧ stI (sqfP p) 7 ≠ 0 ∧ (∀ i, i < 7 → (p i).natAbs ≤ MS) ∧ stI (stE p 0) 7 ≠ 0 ∧ stI (stE (sqfP p) 0) 7 ≠ 0
/-- p, and what is repeated in it, and so on -/
def okC : Nat → (Nat → Int) → Prop
  | 0, _ => True
  | k + 1, p => stI p 7 ≠ 0 ∧ ok1 p ∧ okC k (gcdP p (derI p))
def bnd9 (p : Nat → Int) : Prop := (∀ k, k < 7 → (p k).natAbs ≤ 9999) ∧ ∀ k, 7 ≤ k → p k = 0
/-- to be met by mathematics -/
def SzAll : Prop := (∀ p, bnd9 p → stI p 7 ≠ 0 → okC 8 p) ∧ ∀ p q, bnd9 p → bnd9 q → gcdOk 10000 (prm p) (prm q)
theorem hOut_own {S : Nat → Nat → Nat} {a : Nat} {T : Nat → Prop} (h : ¬ hIn S a ∧ ¬ T a) : hOut S a := hIn_out h.1
section X6J
variable {cA : Nat → ClassId} {D : va_G} {S : Nat → Nat → Nat} {h : mH} {x sl rw is lst n : Nat} {sa : Nat → Nat} {Sl : Nat → Nat → Int} {V : Nat → Iv} {src : Nat → Int} {l : Launch} {T : Nat → Prop} {P : Nat → Nat → Int} {G Ln : Nat → Nat}
theorem stI_0i {s : Nat → Int} : stI s 7 = 0 ↔ ∀ k, k < 7 → s k = 0 := ⟨fun h k hk => stI_z (p := s) (n := 7) (by omega) hk, fun h => stI_all h⟩
theorem x_requireNotZero (hl : l.stackTraces = false) (ho : own cA S T h x sl rw is sa Sl) {i : Nat} (hi : i < 5) : mCx l yX6_requireNotZero cX6_requireNotZero 2 none (rmc 6 1 6) D (mT cA) [.ref x, .int (nI i)] h (mFv h (fun h1 => h1 = h ∧ stI (Sl i) 7 ≠ 0)) (fun E h1 => E = eM ∧ h1 = h ∧ stI (Sl i) 7 = 0) := by
  obtain ⟨hx, hsl, hsa, hr, hinj, hb, -⟩ := ho
  have k3 := hsa i hi
  refine mEnter_x (by decide) (Nat.le_of_ble_eq_true rfl) rfl (fun z X Vz => ?_)
  refine zi_aload_n X dX6_requireNotZero_0 rfl rfl ?_
  refine zi_getf (C := RX6) (T := TX6) (N := 8) (ci := 10) X (by first | assumption | exact mup_self | (rw [mup_ne (by assumption)]; assumption) | (rw [mup_ne (by assumption)]; exact mup_self) | (rw [mup_ne (by assumption), mup_ne (by assumption)]; assumption)) rfl in_X6 0 (by decide) wf_X6_11 rfl rfl dX6_requireNotZero_1 ?_
  refine zi_iload_n X dX6_requireNotZero_4 rfl rfl ?_
  refine zi_aaldA X 4 (by first | assumption | exact mup_self | (rw [mup_ne (by assumption)]; assumption) | (rw [mup_ne (by assumption)]; exact mup_self) | (rw [mup_ne (by assumption), mup_ne (by assumption)]; assumption)) rfl (vin hi (by decide)) (sl_at hi) dX6_requireNotZero_5 ?_
  refine zi_callSi X (x_degreeOf l D k3 (fun t ht => hb i t hi ht)) kc_X6_degreeOf wm_X6_68 wst_X6_degreeOf ⟨Nat.le_of_ble_eq_true rfl, Nat.le_of_ble_eq_true rfl⟩ rfl rfl (Nat.le_of_ble_eq_true rfl) ⟨Nat.le_of_ble_eq_true rfl, Nat.le_of_ble_eq_true rfl⟩ dX6_requireNotZero_6 (fun y g e1 => ?_)
  obtain ⟨rfl, rfl⟩ := e1
  rw [sDeg_I]
  have hle := stI_le (Sl i) 7
  by_cases c : stI (Sl i) 7 = 0
  · have c9 : ¬ 0 ≤ nI (stI (Sl i) 7) - nI 1 := Int32.not_le.mpr ((dI_neg (by omega)).mpr c)
    refine zi_if_ge (tgt := 23) X dX6_requireNotZero_9 (by decide) (fun c_9 => (by first | exact absurd c9 c_9 | exact absurd c_9 c9)) (fun c_9 => ?_)
    refine zi_throwSW hl X Vz xok_X6_267 xs_X6_265 dX6_requireNotZero_12 dX6_requireNotZero_15 dX6_requireNotZero_16 dX6_requireNotZero_19 dX6_requireNotZero_22 (Nat.le_of_ble_eq_true rfl) (Nat.le_of_ble_eq_true rfl) (Nat.le_of_ble_eq_true rfl) (Nat.le_of_ble_eq_true rfl) (Nat.le_of_ble_eq_true rfl) (Nat.le_of_ble_eq_true rfl) ⟨rfl, rfl, c⟩
  · have c9 : 0 ≤ nI (stI (Sl i) 7) - nI 1 := Int32.not_lt.mp (fun w => c ((dI_neg (by omega)).mp w))
    refine zi_if_ge (tgt := 23) X dX6_requireNotZero_9 (by decide) (fun c_9 => ?_) (fun c_9 => (by first | exact absurd c9 c_9 | exact absurd c_9 c9))
    refine zi_widen (k := 1) (n := 6) (by decide) (by decide) ?_
    refine zi_xreturn X Vz dX6_requireNotZero_23 ?_
    exact ⟨rfl, c⟩
theorem s3_0 {v : Int} : s3 v = 0 ↔ v = 0 := by
  unfold s3
  split
  · next c => exact ⟨fun _ => c, fun _ => rfl⟩
  · next c =>
    split
    · exact ⟨fun w => absurd w (by decide), fun w => absurd w c⟩
    · exact ⟨fun w => absurd w (by decide), fun w => absurd w c⟩
theorem pt_in {m k : Int32} (hp : isPt m k) : ∃ kk, kk < 13 ∧ k = nI kk := by
  refine ⟨k.toInt.toNat, by have := hp.2.2; omega, ?_⟩
  apply Int32.toInt_inj.mp
  rw [nI_int (by have := hp.2.2; omega)]
  have := hp.2.2
  omega
theorem pt_X {m k : Int32} (hp : isPt m k) : m.toInt.natAbs ≤ 2 ^ 29 := by
  have h1 := hp.1
  have h2 := hp.2.1
  have : (2 : Nat) ^ 29 = 536870912 := rfl
  omega
/-- a point that is no root of the subject -/
theorem x_requireNoRoot (hl : l.stackTraces = false) (hx : h x = some (xO S sl rw is)) (hh : hP cA S P G Ln h) (hG : G 0 = stI (P 0) 7) (hM : ∀ i, i < 7 → (P 0 i).natAbs ≤ MS) {m : Int32} {k : Nat} (hk : k < 13) (hm : m.toInt.natAbs ≤ 2 ^ 29) :
    mCx l yX6_requireNoRoot cX6_requireNoRoot 3 none (rmc 6 1 6) D (mT cA) [.ref x, .int m, .int (nI k)] h (mFv h (fun h1 => hfr S h1 h ∧ hP cA S P G Ln h1 ∧ sgnAt (P 0) m.toInt k ≠ 0)) (fun E h1 => E = eS ∧ hfr S h1 h ∧ hP cA S P G Ln h1 ∧ sgnAt (P 0) m.toInt k = 0) := by
  refine mEnter_x (by decide) (Nat.le_of_ble_eq_true rfl) rfl (fun z X Vz => ?_)
  refine zi_aload_n X dX6_requireNoRoot_0 rfl rfl ?_
  refine zi_getf (C := RX6) (T := TX6) (N := 8) (ci := 10) X (by first | assumption | exact mup_self | (rw [mup_ne (by assumption)]; assumption) | (rw [mup_ne (by assumption)]; exact mup_self) | (rw [mup_ne (by assumption), mup_ne (by assumption)]; assumption)) rfl in_X6 2 (by decide) wf_X6_21 rfl rfl dX6_requireNoRoot_1 ?_
  refine zi_aload_n X dX6_requireNoRoot_4 rfl rfl ?_
  refine zi_getf (C := RX6) (T := TX6) (N := 8) (ci := 10) X (by first | assumption | exact mup_self | (rw [mup_ne (by assumption)]; assumption) | (rw [mup_ne (by assumption)]; exact mup_self) | (rw [mup_ne (by assumption), mup_ne (by assumption)]; assumption)) rfl in_X6 3 (by decide) wf_X6_28 rfl rfl dX6_requireNoRoot_5 ?_
  refine zi_iload_n X dX6_requireNoRoot_8 rfl rfl ?_
  refine zi_iload_n X dX6_requireNoRoot_9 rfl rfl ?_
  refine zi_callVi X (q_signAt l D hh (j := 0) (k := k) (M := MS) (X := 2 ^ 29) (by decide) hG hM hm (by omega) (two_X (by omega)) X_BB MS_X) kc_X0_signAt wm_X6_148 (hP_a hh) rfl wim_X0_signAt wse_X0_signAt ⟨Nat.le_of_ble_eq_true rfl, Nat.le_of_ble_eq_true rfl⟩ rfl rfl (Nat.le_of_ble_eq_true rfl) ⟨Nat.le_of_ble_eq_true rfl, Nat.le_of_ble_eq_true rfl⟩ dX6_requireNoRoot_10 (fun y g e1 => ?_)
  obtain ⟨f1, h1, rfl⟩ := e1
  by_cases c : sgnAt (P 0) m.toInt k = 0
  · have c13 : s3 (sgnAt (P 0) m.toInt k) = 0 := s3_0.mpr c
    refine zi_if_ne (tgt := 27) X dX6_requireNoRoot_13 (by decide) (fun c_13 => (by first | exact absurd c13 c_13 | exact absurd c_13 c13)) (fun c_13 => ?_)
    refine zi_throwSW hl X Vz xok_X6_86 xs_X6_273 dX6_requireNoRoot_16 dX6_requireNoRoot_19 dX6_requireNoRoot_20 dX6_requireNoRoot_23 dX6_requireNoRoot_26 (Nat.le_of_ble_eq_true rfl) (Nat.le_of_ble_eq_true rfl) (Nat.le_of_ble_eq_true rfl) (Nat.le_of_ble_eq_true rfl) (Nat.le_of_ble_eq_true rfl) (Nat.le_of_ble_eq_true rfl) ⟨rfl, f1, h1, c⟩
  · have c13 : ¬ s3 (sgnAt (P 0) m.toInt k) = 0 := fun w => c (s3_0.mp w)
    refine zi_if_ne (tgt := 27) X dX6_requireNoRoot_13 (by decide) (fun c_13 => ?_) (fun c_13 => (by first | exact absurd c13 c_13 | exact absurd c_13 c13))
    refine zi_widen (k := 1) (n := 6) (by decide) (by decide) ?_
    refine zi_xreturn X Vz dX6_requireNoRoot_27 ?_
    exact ⟨f1, h1, c⟩
theorem x_requireInterval (hl : l.stackTraces = false) (hx : h x = some (xO S sl rw is)) (hI : isIso cA D S h is lst T n V) (hn : n ≤ 1600) {a : Int32} : mCx l yX6_requireInterval cX6_requireInterval 2 none (rmc 6 1 6) D (mT cA) [.ref x, .int a] h (mFv h (fun h1 => h1 = h ∧ inR a n)) (fun E h1 => E = eI ∧ h1 = h ∧ ¬ inR a n) := by
  obtain ⟨e, cap, mc, f, hs⟩ := iso_lsize hI
  have hi0 := hI.1
  refine mEnter_x (by decide) (Nat.le_of_ble_eq_true rfl) rfl (fun z X Vz => ?_)
  refine zi_iload_n X dX6_requireInterval_0 rfl rfl ?_
  refine zi_if_lt (tgt := 18) X dX6_requireInterval_1 (by decide) (fun c_1 => ?_) (fun c_1 => ?_)
  · refine zi_throwSW hl X Vz xok_X6_254 xs_X6_275 dX6_requireInterval_18 dX6_requireInterval_21 dX6_requireInterval_22 dX6_requireInterval_25 dX6_requireInterval_28 (Nat.le_of_ble_eq_true rfl) (Nat.le_of_ble_eq_true rfl) (Nat.le_of_ble_eq_true rfl) (Nat.le_of_ble_eq_true rfl) (Nat.le_of_ble_eq_true rfl) (Nat.le_of_ble_eq_true rfl) ⟨rfl, rfl, fun ⟨i, hi, e⟩ => (i_out (n := n) (by omega) hi e).1 c_1⟩
  · refine zi_iload_n X dX6_requireInterval_4 rfl rfl ?_
    refine zi_aload_n X dX6_requireInterval_5 rfl rfl ?_
    refine zi_getf (C := RX6) (T := TX6) (N := 8) (ci := 10) X (by first | assumption | exact mup_self | (rw [mup_ne (by assumption)]; assumption) | (rw [mup_ne (by assumption)]; exact mup_self) | (rw [mup_ne (by assumption), mup_ne (by assumption)]; assumption)) rfl in_X6 7 (by decide) wf_X6_50 rfl rfl dX6_requireInterval_6 ?_
    refine zi_getf (C := RX3) (T := TX3) (N := 4) (ci := 7) X (by first | assumption | exact mup_self | (rw [mup_ne (by assumption)]; assumption) | (rw [mup_ne (by assumption)]; exact mup_self) | (rw [mup_ne (by assumption), mup_ne (by assumption)]; assumption)) rfl in_X3 1 (by decide) wf_X6_182 rfl rfl dX6_requireInterval_9 ?_
    refine zi_callVi X (al_size l D hs) kc_Jx4a65c_size_8abf5 wm_X6_186 hs.1 rfl wim_Jx4a65c_size_8abf5 wse_Jx4a65c_size_8abf5 ⟨Nat.le_of_ble_eq_true rfl, Nat.le_of_ble_eq_true rfl⟩ rfl rfl (Nat.le_of_ble_eq_true rfl) ⟨Nat.le_of_ble_eq_true rfl, Nat.le_of_ble_eq_true rfl⟩ dX6_requireInterval_12 (fun y g e1 => ?_)
    obtain ⟨rfl, rfl⟩ := e1
    refine zi_icmp_lt (tgt := 29) X dX6_requireInterval_15 (by decide) (fun c_15 => ?_) (fun c_15 => ?_)
    · refine zi_widen (k := 1) (n := 6) (by decide) (by decide) ?_
      refine zi_xreturn X Vz dX6_requireInterval_29 ?_
      exact ⟨rfl, i_in c_1 c_15 (by omega)⟩
    · refine zi_throwSW hl X Vz xok_X6_254 xs_X6_275 dX6_requireInterval_18 dX6_requireInterval_21 dX6_requireInterval_22 dX6_requireInterval_25 dX6_requireInterval_28 (Nat.le_of_ble_eq_true rfl) (Nat.le_of_ble_eq_true rfl) (Nat.le_of_ble_eq_true rfl) (Nat.le_of_ble_eq_true rfl) (Nat.le_of_ble_eq_true rfl) (Nat.le_of_ble_eq_true rfl) ⟨rfl, rfl, fun ⟨i, hi, e⟩ => c_15 (i_out (n := n) (by omega) hi e).2⟩
/-- the subject becomes a slot's polynomial -/
theorem row_P {s : Nat → Int} (hs : bnd9 s) : (fun i => ((fun k => if k < 7 then iI (s k) else 0) i : Int32).toInt) = s := by
  funext i
  dsimp only
  by_cases c : i < 7
  · rw [if_pos c, iI_int (by have := hs.1 i c; omega)]
  · rw [if_neg c, hs.2 i (by omega)]; rfl
theorem isWT_b (hw : isWT cA D S (x, sl, rw, is, lst, sa) h (Sl, n, V, src) T P G Ln) {i : Nat} (hi : i < 5) : bnd9 (Sl i) := ⟨fun k hk => hw.2.2.1.2.2.2.2.2.1 i k hi hk, fun k hk => hw.2.2.2.2.1 i k hi hk⟩
theorem x_buildSequence (l : Launch) (hz : SzAll) (hw : isWT cA D S (x, sl, rw, is, lst, sa) h (Sl, n, V, src) T P G Ln) {i : Nat} (hi : i < 5) (h0 : stI (Sl i) 7 ≠ 0) :
    mCv l yX6_buildSequence cX6_buildSequence 2 (rmd 6) D (mT cA) [.ref x, .int (nI i)] h (fun h1 => ∃ P' G' Ln', isWT cA D S (x, sl, rw, is, lst, sa) h1 (Sl, n, V, src) T P' G' Ln' ∧ P' 0 = Sl i ∧ G' 0 = stI (Sl i) 7 ∧ sqIs 0 (Sl i) P' G' Ln') := by
  have hb := isWT_b hw hi
  have ho := hw.2.2.1
  obtain ⟨hx, hsl, hsa, hr, hinj, hbb, r1, r2, r3, r4⟩ := ho
  have k3 := hsa i hi
  have ok := (hz.1 _ hb h0).2.1
  refine mEnter_v (by decide) (Nat.le_of_ble_eq_true rfl) rfl (fun z X Vz => ?_)
  refine zi_aload_n X dX6_buildSequence_0 rfl rfl ?_
  refine zi_getf (C := RX6) (T := TX6) (N := 8) (ci := 10) X (by first | assumption | exact mup_self | (rw [mup_ne (by assumption)]; assumption) | (rw [mup_ne (by assumption)]; exact mup_self) | (rw [mup_ne (by assumption), mup_ne (by assumption)]; assumption)) rfl in_X6 3 (by decide) wf_X6_28 rfl rfl dX6_buildSequence_1 ?_
  refine zi_aload_n X dX6_buildSequence_4 rfl rfl ?_
  refine zi_getf (C := RX6) (T := TX6) (N := 8) (ci := 10) X (by first | assumption | exact mup_self | (rw [mup_ne (by assumption)]; assumption) | (rw [mup_ne (by assumption)]; exact mup_self) | (rw [mup_ne (by assumption), mup_ne (by assumption)]; assumption)) rfl in_X6 0 (by decide) wf_X6_11 rfl rfl dX6_buildSequence_5 ?_
  refine zi_iload_n X dX6_buildSequence_8 rfl rfl ?_
  refine zi_aaldA X 4 (by first | assumption | exact mup_self | (rw [mup_ne (by assumption)]; assumption) | (rw [mup_ne (by assumption)]; exact mup_self) | (rw [mup_ne (by assumption), mup_ne (by assumption)]; assumption)) rfl (vin hi (by decide)) (sl_at hi) dX6_buildSequence_9 ?_
  refine zi_callVv X (q_becomeRow l D hw.1 (j := 0) (by decide) k3 (hOut_own (r4 i hi))) kc_X4_becomeRow wm_X6_94 ((hP_p hw.1 (j := 0) (by decide)).1) rfl wim_X4_becomeRow wse_X4_becomeRow ⟨Nat.le_of_ble_eq_true rfl, Nat.le_of_ble_eq_true rfl⟩ rfl rfl (Nat.le_of_ble_eq_true rfl) ⟨Nat.le_of_ble_eq_true rfl, Nat.le_of_ble_eq_true rfl⟩ dX6_buildSequence_10 (fun g1 e1 => ?_)
  obtain ⟨f1, h1⟩ := e1
  rw [row_P hb] at h1
  have u0 : ∀ k, k ≠ 0 → updP P 0 (Sl i) k = P k ∧ updN G 0 (stI (Sl i) 7) k = G k := fun k hk => ⟨updP_n hk, updN_n hk⟩
  have hw1 := isWT_alg hw f1 h1 (isoK_up hw.2.2.2.1 (fun k hk => u0 k (by omega)) rfl) (g3_up hw.2.2.2.2.2)
  have hx1 := hw1.2.2.1.1
  refine zi_aload_n X dX6_buildSequence_13 rfl rfl ?_
  refine zi_getf (C := RX6) (T := TX6) (N := 8) (ci := 10) X (by first | assumption | exact mup_self | (rw [mup_ne (by assumption)]; assumption) | (rw [mup_ne (by assumption)]; exact mup_self) | (rw [mup_ne (by assumption), mup_ne (by assumption)]; assumption)) rfl in_X6 2 (by decide) wf_X6_21 rfl rfl dX6_buildSequence_14 ?_
  refine zi_aload_n X dX6_buildSequence_17 rfl rfl ?_
  refine zi_getf (C := RX6) (T := TX6) (N := 8) (ci := 10) X (by first | assumption | exact mup_self | (rw [mup_ne (by assumption)]; assumption) | (rw [mup_ne (by assumption)]; exact mup_self) | (rw [mup_ne (by assumption), mup_ne (by assumption)]; assumption)) rfl in_X6 3 (by decide) wf_X6_28 rfl rfl dX6_buildSequence_18 ?_
  refine zi_aload_n X dX6_buildSequence_21 rfl rfl ?_
  refine zi_getf (C := RX6) (T := TX6) (N := 8) (ci := 10) X (by first | assumption | exact mup_self | (rw [mup_ne (by assumption)]; assumption) | (rw [mup_ne (by assumption)]; exact mup_self) | (rw [mup_ne (by assumption), mup_ne (by assumption)]; assumption)) rfl in_X6 6 (by decide) wf_X6_41 rfl rfl dX6_buildSequence_22 ?_
  refine zi_callVv X (q_writeSturm l D h1 (q := 0) (a := 0) (by decide) ⟨by decide, Or.inl (by decide)⟩ (by rw [updN_s, updP_s]) (by rw [updP_s]; exact ok.1.1) (by rw [updP_s]; exact ok.1.2.1) (by rw [updP_s]; exact ok.1.2.2)) kc_X0_writeSturm wm_X6_159 (hP_a h1) rfl wim_X0_writeSturm wse_X0_writeSturm ⟨Nat.le_of_ble_eq_true rfl, Nat.le_of_ble_eq_true rfl⟩ rfl rfl (Nat.le_of_ble_eq_true rfl) ⟨Nat.le_of_ble_eq_true rfl, Nat.le_of_ble_eq_true rfl⟩ dX6_buildSequence_25 (fun g2 e2 => ?_)
  obtain ⟨f2, P2, G2, m, h2, b1, b2, b3⟩ := e2
  rw [updP_s] at b1 b3
  have hm := stLen_M b1
  subst hm
  refine zi_return X Vz dX6_buildSequence_28 ?_
  have e3 : sb 0 = 3 := rfl
  have hk2 : isoK n src P2 G2 (updN Ln 0 (stM (Sl i))) := isoK_up hw1.2.2.2.1 (fun k hk => b2 k (Or.inr (by omega))) (updN_n (by decide))
  exact ⟨P2, G2, _, isWT_alg hw1 f2 h2 hk2 (fun k hk => by rw [(b2 k (Or.inl (by omega))).1, (b2 k (Or.inl (by omega))).2]; exact hw1.2.2.2.2.2 k hk), by rw [(b2 0 (Or.inl (by decide))).1, updP_s], by rw [(b2 0 (Or.inl (by decide))).2, updN_s], b1, updN_s, b3⟩
end X6J
