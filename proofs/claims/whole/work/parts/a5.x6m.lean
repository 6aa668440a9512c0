/-! SturmRoots: countDistinct, countAll -/
/-- the first point is less than the second -/
def ptLt (m : Int32) (k : Nat) (m2 : Int32) (k2 : Nat) : Prop := m.toInt * 2 ^ k2 < m2.toInt * 2 ^ k
theorem lN_all (y : Int64) : y = lN y.toBitVec.toNat := by
  apply Int64.toBitVec_inj.mp
  show y.toBitVec = BitVec.ofNat 64 y.toBitVec.toNat
  rw [BitVec.ofNat_toNat, BitVec.setWidth_eq]
theorem l_shlm (y : Int64) {k : Nat} (hk : k < 64) : y <<< ((nI k).toInt64 &&& 63) = y * lN (2 ^ k) := by
  have h1 := lN_all y
  generalize y.toBitVec.toNat = N at h1
  rw [h1, wb_shl N hk]
  exact Int64.ofNat_mul N (2 ^ k)
theorem lN_lI (n : Nat) : lN n = lI (n : Int) := rfl
theorem l_shlI {x : Int32} {k : Nat} (hx : x.toInt.natAbs ≤ 1000000) (hk : k < 13) : (x.toInt64 <<< ((nI k).toInt64 &&& 63)).toInt = x.toInt * 2 ^ k := by
  have hp : (2 : Nat) ^ k ≤ 2 ^ 12 := Nat.pow_le_pow_right (by decide) (by omega)
  have e1 : x.toInt64 = lI x.toInt := lI_of (i32_i64 x)
  rw [l_shlm _ (by omega), e1, lN_lI, lI_mul, lI_int]
  · rw [Int.natCast_pow]; rfl
  · rw [Int.natAbs_mul]
    have h2 : (((2 ^ k : Nat) : Int)).natAbs ≤ 2 ^ 12 := by rw [Int.natAbs_natCast]; exact hp
    have := Nat.mul_le_mul hx h2
    omega
section X6M
variable {cA : Nat → ClassId} {D : va_G} {S : Nat → Nat → Nat} {h : mH} {x sl rw is lst n : Nat} {sa : Nat → Nat} {Sl : Nat → Nat → Int} {V : Nat → Iv} {src : Nat → Int} {l : Launch} {T : Nat → Prop} {P : Nat → Nat → Int} {G Ln : Nat → Nat} {tys : List (ClassId × FieldType)}
theorem x_requireOrder (hl : l.stackTraces = false) {m k m2 k2 : Int32} : mCx l yX6_requireOrder cX6_requireOrder 4 none (rmc 7 3 18) D tys [.int m, .int k, .int m2, .int k2] h (mFv h (fun h1 => h1 = h ∧ isPt m k ∧ isPt m2 k2 ∧ m.toInt * 2 ^ k2.toInt.toNat < m2.toInt * 2 ^ k.toInt.toNat)) (fun E h1 => E = eA ∧ h1 = h ∧ ¬ (isPt m k ∧ isPt m2 k2 ∧ m.toInt * 2 ^ k2.toInt.toNat < m2.toInt * 2 ^ k.toInt.toNat)) := by
  refine mEnter_x (by decide) (Nat.le_of_ble_eq_true rfl) rfl (fun z X Vz => ?_)
  refine zi_iload_n X dX6_requireOrder_0 rfl rfl ?_
  refine zi_iload_n X dX6_requireOrder_1 rfl rfl ?_
  refine zi_xcallSv X (x_requirePoint hl) kc_X6_requirePoint wm_X6_140 wst_X6_requirePoint ⟨Nat.le_of_ble_eq_true rfl, Nat.le_of_ble_eq_true rfl⟩ rfl rfl (Nat.le_of_ble_eq_true rfl) ⟨Nat.le_of_ble_eq_true rfl, Nat.le_of_ble_eq_true rfl⟩ dX6_requireOrder_2 (fun E g e1 => zt_out X Vz (by obtain ⟨e1, e2, e3⟩ := e1; exact ⟨e1, e2, fun w => e3 w.1⟩) (by decide) (by decide)) (fun g e1 => ?_)
  obtain ⟨rfl, p1⟩ := e1
  refine zi_iload_n X dX6_requireOrder_5 rfl rfl ?_
  refine zi_iload_n X dX6_requireOrder_6 rfl rfl ?_
  refine zi_xcallSv X (x_requirePoint hl) kc_X6_requirePoint wm_X6_140 wst_X6_requirePoint ⟨Nat.le_of_ble_eq_true rfl, Nat.le_of_ble_eq_true rfl⟩ rfl rfl (Nat.le_of_ble_eq_true rfl) ⟨Nat.le_of_ble_eq_true rfl, Nat.le_of_ble_eq_true rfl⟩ dX6_requireOrder_7 (fun E g e1 => zt_out X Vz (by obtain ⟨e1, e2, e3⟩ := e1; exact ⟨e1, e2, fun w => e3 w.2.1⟩) (by decide) (by decide)) (fun g e1 => ?_)
  obtain ⟨rfl, p2⟩ := e1
  obtain ⟨a, ha, rfl⟩ := pt_in p1
  obtain ⟨b, hb, rfl⟩ := pt_in p2
  have q1 : m.toInt.natAbs ≤ 1000000 := by have := p1.1; have := p1.2.1; omega
  have q2 : m2.toInt.natAbs ≤ 1000000 := by have := p2.1; have := p2.2.1; omega
  have ea : (nI a).toInt.toNat = a := by rw [nI_int (by omega)]; omega
  have eb : (nI b).toInt.toNat = b := by rw [nI_int (by omega)]; omega
  rw [ea, eb] at Vz
  refine zi_iload_n X dX6_requireOrder_10 rfl rfl ?_
  refine zi_i2l X dX6_requireOrder_11 ?_
  refine zi_iload_n X dX6_requireOrder_12 rfl rfl ?_
  refine zi_lshl X dX6_requireOrder_13 ?_
  refine zi_iload_n X dX6_requireOrder_14 rfl rfl ?_
  refine zi_i2l X dX6_requireOrder_15 ?_
  refine zi_iload_n X dX6_requireOrder_16 rfl rfl ?_
  refine zi_lshl X dX6_requireOrder_17 ?_
  refine zi_lcmp X dX6_requireOrder_18 ?_
  refine zi_if_lt (tgt := 33) X dX6_requireOrder_19 (by decide) (fun c_19 => ?_) (fun c_19 => ?_)
  · have := (fa_lt64 _ _).mp ((lg_cmp_lt _ _).mp c_19)
    rw [l_shlI q1 hb, l_shlI q2 ha] at this
    refine zi_widen (k := 3) (n := 18) (by decide) (by decide) ?_
    refine zi_xreturn X Vz dX6_requireOrder_33 ?_
    exact ⟨rfl, p1, p2, this⟩
  · refine zi_throwSW hl X Vz xok_X6_65 xs_X6_261 dX6_requireOrder_22 dX6_requireOrder_25 dX6_requireOrder_26 dX6_requireOrder_29 dX6_requireOrder_32 (Nat.le_of_ble_eq_true rfl) (Nat.le_of_ble_eq_true rfl) (Nat.le_of_ble_eq_true rfl) (Nat.le_of_ble_eq_true rfl) (Nat.le_of_ble_eq_true rfl) (Nat.le_of_ble_eq_true rfl) ⟨rfl, rfl, fun w => c_19 ((lg_cmp_lt _ _).mpr ((fa_lt64 _ _).mpr (by rw [l_shlI q1 hb, l_shlI q2 ha]; exact w.2.2)))⟩
/-- the points' condition -/
def ptOk (m k m2 k2 : Int32) : Prop := isPt m k ∧ isPt m2 k2 ∧ m.toInt * 2 ^ k2.toInt.toNat < m2.toInt * 2 ^ k.toInt.toNat
def noRt (p : Nat → Int) (m k m2 k2 : Int32) : Prop := sgnAt p m.toInt k.toInt.toNat ≠ 0 ∧ sgnAt p m2.toInt k2.toInt.toNat ≠ 0
def cntP (p : Nat → Int) (m k m2 k2 : Int32) : Int := (stC p m.toInt k.toInt.toNat : Int) - stC p m2.toInt k2.toInt.toNat
/-- the end of countDistinct and countAll: what is thrown, what is left -/
def cntX (cA : Nat → ClassId) (D : va_G) (S : Nat → Nat → Nat) (X : XAd) (A : AState) (a m k m2 k2 : Int32) : String → mH → Prop := fun E h1 => isW cA D S X h1 A ∧ (E = eI ∧ ¬ inR a 5 ∨ E = eA ∧ inR a 5 ∧ ¬ ptOk m k m2 k2 ∨ E = eM ∧ ptOk m k m2 k2 ∧ (∃ i, i < 5 ∧ a = nI i ∧ stI (A.1 i) 7 = 0) ∨ E = eS ∧ ptOk m k m2 k2 ∧ ∃ i, i < 5 ∧ a = nI i ∧ stI (A.1 i) 7 ≠ 0 ∧ ¬ noRt (A.1 i) m k m2 k2)
theorem x_countDistinct (hl : l.stackTraces = false) (hz : SzAll) (hw : isW cA D S (x, sl, rw, is, lst, sa) h (Sl, n, V, src)) {a m k m2 k2 : Int32} :
    mCx l yX6_countDistinct cX6_countDistinct 6 (some .int) (rmc 8 7 42) D (mT cA) [.ref x, .int a, .int m, .int k, .int m2, .int k2] h (mFi h (fun r h1 => ∃ i, i < 5 ∧ a = nI i ∧ ptOk m k m2 k2 ∧ stI (Sl i) 7 ≠ 0 ∧ noRt (Sl i) m k m2 k2 ∧ r = iI (cntP (Sl i) m k m2 k2) ∧ isW cA D S (x, sl, rw, is, lst, sa) h1 (Sl, n, V, src)))
      (cntX cA D S (x, sl, rw, is, lst, sa) (Sl, n, V, src) a m k m2 k2) := by
  have hw0 := hw
  obtain ⟨T, P, G, Ln, hw⟩ := hw
  refine mEnter_x (by decide) (Nat.le_of_ble_eq_true rfl) rfl (fun z X Vz => ?_)
  refine zi_iload_n X dX6_countDistinct_0 rfl rfl ?_
  refine zi_xcallSv X (x_requireSlot hl) kc_X6_requireSlot wm_X6_54 wst_X6_requireSlot ⟨Nat.le_of_ble_eq_true rfl, Nat.le_of_ble_eq_true rfl⟩ rfl rfl (Nat.le_of_ble_eq_true rfl) ⟨Nat.le_of_ble_eq_true rfl, Nat.le_of_ble_eq_true rfl⟩ dX6_countDistinct_1 (fun E g e1 => zt_out X Vz (by obtain ⟨e1, e2, e3⟩ := e1; exact ⟨isW_same hw0 e2, Or.inl ⟨e1, e3⟩⟩) (by decide) (by decide)) (fun g e1 => ?_)
  obtain ⟨rfl, i, hi, rfl⟩ := e1
  refine zi_iload_n X dX6_countDistinct_4 rfl rfl ?_
  refine zi_iload_n X dX6_countDistinct_5 rfl rfl ?_
  refine zi_iload X dX6_countDistinct_6 rfl ?_
  refine zi_iload X dX6_countDistinct_8 rfl ?_
  refine zi_xcallSv X (x_requireOrder hl) kc_X6_requireOrder wm_X6_152 wst_X6_requireOrder ⟨Nat.le_of_ble_eq_true rfl, Nat.le_of_ble_eq_true rfl⟩ rfl rfl (Nat.le_of_ble_eq_true rfl) ⟨Nat.le_of_ble_eq_true rfl, Nat.le_of_ble_eq_true rfl⟩ dX6_countDistinct_10 (fun E g e1 => zt_out X Vz (by obtain ⟨e1, e2, e3⟩ := e1; exact ⟨isW_same hw0 e2, Or.inr (Or.inl ⟨e1, rd_nI hi, e3⟩)⟩) (by decide) (by decide)) (fun g e1 => ?_)
  obtain ⟨rfl, hp⟩ := e1
  obtain ⟨u, hu, rfl⟩ := pt_in hp.1
  obtain ⟨v, hv, rfl⟩ := pt_in hp.2.1
  have eu : (nI u).toInt.toNat = u := by rw [nI_int (by omega)]; omega
  have ev : (nI v).toInt.toNat = v := by rw [nI_int (by omega)]; omega
  have hx := hw.2.2.1.1
  refine zi_aload_n X dX6_countDistinct_13 rfl rfl ?_
  refine zi_iload_n X dX6_countDistinct_14 rfl rfl ?_
  refine zi_xcallVv X (x_requireNotZero hl hw.2.2.1 hi) kc_X6_requireNotZero wm_X6_106 hx rfl wim_X6_requireNotZero wse_X6_requireNotZero ⟨Nat.le_of_ble_eq_true rfl, Nat.le_of_ble_eq_true rfl⟩ rfl rfl (Nat.le_of_ble_eq_true rfl) ⟨Nat.le_of_ble_eq_true rfl, Nat.le_of_ble_eq_true rfl⟩ dX6_countDistinct_15 (fun E g1 e1 => zt_out X Vz (by obtain ⟨e1, e2, e3⟩ := e1; exact ⟨isW_same hw0 e2, Or.inr (Or.inr (Or.inl ⟨e1, hp, i, hi, rfl, e3⟩))⟩) (by decide) (by decide)) (fun g1 e1 => ?_)
  obtain ⟨rfl, h0⟩ := e1
  have hbi := isWT_b hw hi
  have ok := (hz.1 _ hbi h0).2.1
  obtain ⟨hx, hsl, hsa, hr, ho⟩ := isWT_own hw
  have k3 := hsa i hi
  refine zi_aload_n X dX6_countDistinct_18 rfl rfl ?_
  refine zi_getf (C := RX6) (T := TX6) (N := 8) (ci := 10) X (by first | assumption | exact mup_self | (rw [mup_ne (by assumption)]; assumption) | (rw [mup_ne (by assumption)]; exact mup_self) | (rw [mup_ne (by assumption), mup_ne (by assumption)]; assumption)) rfl in_X6 3 (by decide) wf_X6_28 rfl rfl dX6_countDistinct_19 ?_
  refine zi_aload_n X dX6_countDistinct_22 rfl rfl ?_
  refine zi_getf (C := RX6) (T := TX6) (N := 8) (ci := 10) X (by first | assumption | exact mup_self | (rw [mup_ne (by assumption)]; assumption) | (rw [mup_ne (by assumption)]; exact mup_self) | (rw [mup_ne (by assumption), mup_ne (by assumption)]; assumption)) rfl in_X6 0 (by decide) wf_X6_11 rfl rfl dX6_countDistinct_23 ?_
  refine zi_iload_n X dX6_countDistinct_26 rfl rfl ?_
  refine zi_aaldA X 4 (by first | assumption | exact mup_self | (rw [mup_ne (by assumption)]; assumption) | (rw [mup_ne (by assumption)]; exact mup_self) | (rw [mup_ne (by assumption), mup_ne (by assumption)]; assumption)) rfl (vin hi (by decide)) (sl_at hi) dX6_countDistinct_27 ?_
  refine zi_callVv X (q_becomeRow l D hw.1 (j := 0) (by decide) k3 (ho i hi)) kc_X4_becomeRow wm_X6_94 ((hP_p hw.1 (j := 0) (by decide)).1) rfl wim_X4_becomeRow wse_X4_becomeRow ⟨Nat.le_of_ble_eq_true rfl, Nat.le_of_ble_eq_true rfl⟩ rfl rfl (Nat.le_of_ble_eq_true rfl) ⟨Nat.le_of_ble_eq_true rfl, Nat.le_of_ble_eq_true rfl⟩ dX6_countDistinct_28 (fun g2 e1 => ?_)
  obtain ⟨f1, h1⟩ := e1
  rw [row_P hbi] at h1
  have hw1 := isWT_alg hw f1 h1 (isoK_up hw.2.2.2.1 (fun k hk => ⟨updP_n (by omega), updN_n (by omega)⟩) rfl) (g3_up hw.2.2.2.2.2)
  have hx1 := hw1.2.2.1.1
  have p0 : updP P 0 (Sl i) 0 = Sl i := updP_s
  have g0' : updN G 0 (stI (Sl i) 7) 0 = stI (Sl i) 7 := updN_s
  generalize updP P 0 (Sl i) = P2 at h1 hw1 p0
  generalize updN G 0 (stI (Sl i) 7) = G2 at h1 hw1 g0'
  refine zi_aload_n X dX6_countDistinct_31 rfl rfl ?_
  refine zi_iload_n X dX6_countDistinct_32 rfl rfl ?_
  refine zi_iload_n X dX6_countDistinct_33 rfl rfl ?_
  refine zi_xcallVv X (x_requireNoRoot hl hx1 h1 (by rw [g0', p0]) (by rw [p0]; exact b9_MS hbi) hu (pt_X hp.1)) kc_X6_requireNoRoot wm_X6_156 hx1 rfl wim_X6_requireNoRoot wse_X6_requireNoRoot ⟨Nat.le_of_ble_eq_true rfl, Nat.le_of_ble_eq_true rfl⟩ rfl rfl (Nat.le_of_ble_eq_true rfl) ⟨Nat.le_of_ble_eq_true rfl, Nat.le_of_ble_eq_true rfl⟩ dX6_countDistinct_34 (fun E g3 e1 => zt_out X Vz (by obtain ⟨e1, e2, e3, e4⟩ := e1; rw [p0] at e4; exact ⟨⟨T, P2, G2, _, isWT_alg hw1 e2 e3 hw1.2.2.2.1 hw1.2.2.2.2.2⟩, Or.inr (Or.inr (Or.inr ⟨e1, hp, i, hi, rfl, h0, fun w => w.1 (by rw [eu]; exact e4)⟩))⟩) (by decide) (by decide)) (fun g3 e1 => ?_)
  obtain ⟨f2, h2, z1⟩ := e1
  rw [p0] at z1
  have hw2 := isWT_alg hw1 f2 h2 hw1.2.2.2.1 hw1.2.2.2.2.2
  have hx2 := hw2.2.2.1.1
  refine zi_aload_n X dX6_countDistinct_37 rfl rfl ?_
  refine zi_iload X dX6_countDistinct_38 rfl ?_
  refine zi_iload X dX6_countDistinct_40 rfl ?_
  refine zi_xcallVv X (x_requireNoRoot hl hx2 h2 (by rw [g0', p0]) (by rw [p0]; exact b9_MS hbi) hv (pt_X hp.2.1)) kc_X6_requireNoRoot wm_X6_156 hx2 rfl wim_X6_requireNoRoot wse_X6_requireNoRoot ⟨Nat.le_of_ble_eq_true rfl, Nat.le_of_ble_eq_true rfl⟩ rfl rfl (Nat.le_of_ble_eq_true rfl) ⟨Nat.le_of_ble_eq_true rfl, Nat.le_of_ble_eq_true rfl⟩ dX6_countDistinct_42 (fun E g4 e1 => zt_out X Vz (by obtain ⟨e1, e2, e3, e4⟩ := e1; rw [p0] at e4; exact ⟨⟨T, P2, G2, _, isWT_alg hw2 e2 e3 hw2.2.2.2.1 hw2.2.2.2.2.2⟩, Or.inr (Or.inr (Or.inr ⟨e1, hp, i, hi, rfl, h0, fun w => w.2 (by rw [ev]; exact e4)⟩))⟩) (by decide) (by decide)) (fun g4 e1 => ?_)
  obtain ⟨f3, h3, z2⟩ := e1
  rw [p0] at z2
  have hw3 := isWT_alg hw2 f3 h3 hw2.2.2.2.1 hw2.2.2.2.2.2
  have hx3 := hw3.2.2.1.1
  refine zi_aload_n X dX6_countDistinct_45 rfl rfl ?_
  refine zi_getf (C := RX6) (T := TX6) (N := 8) (ci := 10) X (by first | assumption | exact mup_self | (rw [mup_ne (by assumption)]; assumption) | (rw [mup_ne (by assumption)]; exact mup_self) | (rw [mup_ne (by assumption), mup_ne (by assumption)]; assumption)) rfl in_X6 2 (by decide) wf_X6_21 rfl rfl dX6_countDistinct_46 ?_
  refine zi_aload_n X dX6_countDistinct_49 rfl rfl ?_
  refine zi_getf (C := RX6) (T := TX6) (N := 8) (ci := 10) X (by first | assumption | exact mup_self | (rw [mup_ne (by assumption)]; assumption) | (rw [mup_ne (by assumption)]; exact mup_self) | (rw [mup_ne (by assumption), mup_ne (by assumption)]; assumption)) rfl in_X6 3 (by decide) wf_X6_28 rfl rfl dX6_countDistinct_50 ?_
  refine zi_aload_n X dX6_countDistinct_53 rfl rfl ?_
  refine zi_getf (C := RX6) (T := TX6) (N := 8) (ci := 10) X (by first | assumption | exact mup_self | (rw [mup_ne (by assumption)]; assumption) | (rw [mup_ne (by assumption)]; exact mup_self) | (rw [mup_ne (by assumption), mup_ne (by assumption)]; assumption)) rfl in_X6 6 (by decide) wf_X6_41 rfl rfl dX6_countDistinct_54 ?_
  refine zi_callVv X (q_writeSturm l D h3 (q := 0) (a := 0) (by decide) ⟨by decide, Or.inl (by decide)⟩ (by rw [g0', p0]) (by rw [p0]; exact ok.1.1) (by rw [p0]; exact ok.1.2.1) (by rw [p0]; exact ok.1.2.2)) kc_X0_writeSturm wm_X6_159 (hP_a h3) rfl wim_X0_writeSturm wse_X0_writeSturm ⟨Nat.le_of_ble_eq_true rfl, Nat.le_of_ble_eq_true rfl⟩ rfl rfl (Nat.le_of_ble_eq_true rfl) ⟨Nat.le_of_ble_eq_true rfl, Nat.le_of_ble_eq_true rfl⟩ dX6_countDistinct_57 (fun g5 e2 => ?_)
  obtain ⟨f4, P4, G4, mm, h4, b1, b2, b3⟩ := e2
  rw [p0] at b1 b3
  have hm := stLen_M b1
  subst hm
  have hw4 := isWT_alg hw3 f4 h4 (isoK_up hw3.2.2.2.1 (fun k hk => b2 k (Or.inr (show 10 ≤ k by omega))) (updN_n (by decide))) (fun k hk => by rw [(b2 k (Or.inl (show k < 3 by omega))).1, (b2 k (Or.inl (show k < 3 by omega))).2]; exact hw3.2.2.2.2.2 k hk)
  have sq : sqIs 0 (Sl i) P4 G4 (updN Ln 0 (stM (Sl i))) := ⟨b1, updN_s, b3⟩
  have oE := sq_ok sq ok.2.1
  have hx4 := hw4.2.2.1.1
  refine zi_aload_n X dX6_countDistinct_60 rfl rfl ?_
  refine zi_getf (C := RX6) (T := TX6) (N := 8) (ci := 10) X (by first | assumption | exact mup_self | (rw [mup_ne (by assumption)]; assumption) | (rw [mup_ne (by assumption)]; exact mup_self) | (rw [mup_ne (by assumption), mup_ne (by assumption)]; assumption)) rfl in_X6 2 (by decide) wf_X6_21 rfl rfl dX6_countDistinct_61 ?_
  refine zi_aload_n X dX6_countDistinct_64 rfl rfl ?_
  refine zi_getf (C := RX6) (T := TX6) (N := 8) (ci := 10) X (by first | assumption | exact mup_self | (rw [mup_ne (by assumption)]; assumption) | (rw [mup_ne (by assumption)]; exact mup_self) | (rw [mup_ne (by assumption), mup_ne (by assumption)]; assumption)) rfl in_X6 6 (by decide) wf_X6_41 rfl rfl dX6_countDistinct_65 ?_
  refine zi_iload_n X dX6_countDistinct_68 rfl rfl ?_
  refine zi_iload_n X dX6_countDistinct_69 rfl rfl ?_
  refine zi_callVi X (q_changesAt l D h4 (q := 0) (k := u) (M := MS) (X := 2 ^ 29) (by decide) oE (pt_X hp.1) (by omega) (two_X (by omega)) X_BB MS_X) kc_X0_changesAt wm_X6_144 (hP_a h4) rfl wim_X0_changesAt wse_X0_changesAt ⟨Nat.le_of_ble_eq_true rfl, Nat.le_of_ble_eq_true rfl⟩ rfl rfl (Nat.le_of_ble_eq_true rfl) ⟨Nat.le_of_ble_eq_true rfl, Nat.le_of_ble_eq_true rfl⟩ dX6_countDistinct_70 (fun y g6 e1 => ?_)
  obtain ⟨f5, h5, rfl⟩ := e1
  have hw5 := isWT_alg hw4 f5 h5 hw4.2.2.2.1 hw4.2.2.2.2.2
  have hx5 := hw5.2.2.1.1
  rw [sq_C sq]
  refine zi_aload_n X dX6_countDistinct_73 rfl rfl ?_
  refine zi_getf (C := RX6) (T := TX6) (N := 8) (ci := 10) X (by first | assumption | exact mup_self | (rw [mup_ne (by assumption)]; assumption) | (rw [mup_ne (by assumption)]; exact mup_self) | (rw [mup_ne (by assumption), mup_ne (by assumption)]; assumption)) rfl in_X6 2 (by decide) wf_X6_21 rfl rfl dX6_countDistinct_74 ?_
  refine zi_aload_n X dX6_countDistinct_77 rfl rfl ?_
  refine zi_getf (C := RX6) (T := TX6) (N := 8) (ci := 10) X (by first | assumption | exact mup_self | (rw [mup_ne (by assumption)]; assumption) | (rw [mup_ne (by assumption)]; exact mup_self) | (rw [mup_ne (by assumption), mup_ne (by assumption)]; assumption)) rfl in_X6 6 (by decide) wf_X6_41 rfl rfl dX6_countDistinct_78 ?_
  refine zi_iload X dX6_countDistinct_81 rfl ?_
  refine zi_iload X dX6_countDistinct_83 rfl ?_
  refine zi_callVi X (q_changesAt l D h5 (q := 0) (k := v) (M := MS) (X := 2 ^ 29) (by decide) oE (pt_X hp.2.1) (by omega) (two_X (by omega)) X_BB MS_X) kc_X0_changesAt wm_X6_144 (hP_a h5) rfl wim_X0_changesAt wse_X0_changesAt ⟨Nat.le_of_ble_eq_true rfl, Nat.le_of_ble_eq_true rfl⟩ rfl rfl (Nat.le_of_ble_eq_true rfl) ⟨Nat.le_of_ble_eq_true rfl, Nat.le_of_ble_eq_true rfl⟩ dX6_countDistinct_85 (fun y g7 e1 => ?_)
  obtain ⟨f6, h6, rfl⟩ := e1
  rw [sq_C sq]
  refine zi_isub X dX6_countDistinct_88 ?_
  rw [nn_sub]
  refine zi_xireturn X Vz dX6_countDistinct_89 ?_
  refine ⟨i, hi, rfl, hp, h0, ⟨by rw [eu]; exact z1, by rw [ev]; exact z2⟩, ?_, T, P4, G4, _, isWT_alg hw5 f6 h6 hw5.2.2.2.1 hw5.2.2.2.2.2⟩
  unfold cntP
  rw [eu, ev]
/-- roots counted with multiplicity -/
def cntA (m k m2 k2 : Int32) : Nat → (Nat → Int) → Int
  | 0, _ => 0
  | j + 1, p => if stI p 7 ≤ 1 then 0 else cntP p m k m2 k2 + cntA m k m2 k2 j (gcdP p (derI p))
theorem x_countAll (hl : l.stackTraces = false) (hz : SzAll) (hw : isW cA D S (x, sl, rw, is, lst, sa) h (Sl, n, V, src)) {a m k m2 k2 : Int32} :
    mCx l yX6_countAll cX6_countAll 8 (some .int) (rmc 8 7 42) D (mT cA) [.ref x, .int a, .int m, .int k, .int m2, .int k2] h (mFi h (fun r h1 => ∃ i, i < 5 ∧ a = nI i ∧ ptOk m k m2 k2 ∧ stI (Sl i) 7 ≠ 0 ∧ noRt (Sl i) m k m2 k2 ∧ r = iI (cntA m k m2 k2 7 (Sl i)) ∧ isW cA D S (x, sl, rw, is, lst, sa) h1 (Sl, n, V, src)))
      (cntX cA D S (x, sl, rw, is, lst, sa) (Sl, n, V, src) a m k m2 k2) := by
  have hw0 := hw
  obtain ⟨T, P, G, Ln, hw⟩ := hw
  refine mEnter_x (by decide) (Nat.le_of_ble_eq_true rfl) rfl (fun z X Vz => ?_)
  refine zi_iload_n X dX6_countAll_0 rfl rfl ?_
  refine zi_xcallSv X (x_requireSlot hl) kc_X6_requireSlot wm_X6_54 wst_X6_requireSlot ⟨Nat.le_of_ble_eq_true rfl, Nat.le_of_ble_eq_true rfl⟩ rfl rfl (Nat.le_of_ble_eq_true rfl) ⟨Nat.le_of_ble_eq_true rfl, Nat.le_of_ble_eq_true rfl⟩ dX6_countAll_1 (fun E g e1 => zt_out X Vz (by obtain ⟨e1, e2, e3⟩ := e1; exact ⟨isW_same hw0 e2, Or.inl ⟨e1, e3⟩⟩) (by decide) (by decide)) (fun g e1 => ?_)
  obtain ⟨rfl, i, hi, rfl⟩ := e1
  refine zi_iload_n X dX6_countAll_4 rfl rfl ?_
  refine zi_iload_n X dX6_countAll_5 rfl rfl ?_
  refine zi_iload X dX6_countAll_6 rfl ?_
  refine zi_iload X dX6_countAll_8 rfl ?_
  refine zi_xcallSv X (x_requireOrder hl) kc_X6_requireOrder wm_X6_152 wst_X6_requireOrder ⟨Nat.le_of_ble_eq_true rfl, Nat.le_of_ble_eq_true rfl⟩ rfl rfl (Nat.le_of_ble_eq_true rfl) ⟨Nat.le_of_ble_eq_true rfl, Nat.le_of_ble_eq_true rfl⟩ dX6_countAll_10 (fun E g e1 => zt_out X Vz (by obtain ⟨e1, e2, e3⟩ := e1; exact ⟨isW_same hw0 e2, Or.inr (Or.inl ⟨e1, rd_nI hi, e3⟩)⟩) (by decide) (by decide)) (fun g e1 => ?_)
  obtain ⟨rfl, hp⟩ := e1
  obtain ⟨u, hu, rfl⟩ := pt_in hp.1
  obtain ⟨v, hv, rfl⟩ := pt_in hp.2.1
  have eu : (nI u).toInt.toNat = u := by rw [nI_int (by omega)]; omega
  have ev : (nI v).toInt.toNat = v := by rw [nI_int (by omega)]; omega
  have hx := hw.2.2.1.1
  refine zi_aload_n X dX6_countAll_13 rfl rfl ?_
  refine zi_iload_n X dX6_countAll_14 rfl rfl ?_
  refine zi_xcallVv X (x_requireNotZero hl hw.2.2.1 hi) kc_X6_requireNotZero wm_X6_106 hx rfl wim_X6_requireNotZero wse_X6_requireNotZero ⟨Nat.le_of_ble_eq_true rfl, Nat.le_of_ble_eq_true rfl⟩ rfl rfl (Nat.le_of_ble_eq_true rfl) ⟨Nat.le_of_ble_eq_true rfl, Nat.le_of_ble_eq_true rfl⟩ dX6_countAll_15 (fun E g1 e1 => zt_out X Vz (by obtain ⟨e1, e2, e3⟩ := e1; exact ⟨isW_same hw0 e2, Or.inr (Or.inr (Or.inl ⟨e1, hp, i, hi, rfl, e3⟩))⟩) (by decide) (by decide)) (fun g1 e1 => ?_)
  obtain ⟨rfl, h0⟩ := e1
  have hbi := isWT_b hw hi
  have ok := (hz.1 _ hbi h0).2.1
  obtain ⟨hx, hsl, hsa, hr, ho⟩ := isWT_own hw
  have k3 := hsa i hi
  refine zi_aload_n X dX6_countAll_18 rfl rfl ?_
  refine zi_getf (C := RX6) (T := TX6) (N := 8) (ci := 10) X (by first | assumption | exact mup_self | (rw [mup_ne (by assumption)]; assumption) | (rw [mup_ne (by assumption)]; exact mup_self) | (rw [mup_ne (by assumption), mup_ne (by assumption)]; assumption)) rfl in_X6 3 (by decide) wf_X6_28 rfl rfl dX6_countAll_19 ?_
  refine zi_aload_n X dX6_countAll_22 rfl rfl ?_
  refine zi_getf (C := RX6) (T := TX6) (N := 8) (ci := 10) X (by first | assumption | exact mup_self | (rw [mup_ne (by assumption)]; assumption) | (rw [mup_ne (by assumption)]; exact mup_self) | (rw [mup_ne (by assumption), mup_ne (by assumption)]; assumption)) rfl in_X6 0 (by decide) wf_X6_11 rfl rfl dX6_countAll_23 ?_
  refine zi_iload_n X dX6_countAll_26 rfl rfl ?_
  refine zi_aaldA X 4 (by first | assumption | exact mup_self | (rw [mup_ne (by assumption)]; assumption) | (rw [mup_ne (by assumption)]; exact mup_self) | (rw [mup_ne (by assumption), mup_ne (by assumption)]; assumption)) rfl (vin hi (by decide)) (sl_at hi) dX6_countAll_27 ?_
  refine zi_callVv X (q_becomeRow l D hw.1 (j := 0) (by decide) k3 (ho i hi)) kc_X4_becomeRow wm_X6_94 ((hP_p hw.1 (j := 0) (by decide)).1) rfl wim_X4_becomeRow wse_X4_becomeRow ⟨Nat.le_of_ble_eq_true rfl, Nat.le_of_ble_eq_true rfl⟩ rfl rfl (Nat.le_of_ble_eq_true rfl) ⟨Nat.le_of_ble_eq_true rfl, Nat.le_of_ble_eq_true rfl⟩ dX6_countAll_28 (fun g2 e1 => ?_)
  obtain ⟨f1, h1⟩ := e1
  rw [row_P hbi] at h1
  have hw1 := isWT_alg hw f1 h1 (isoK_up hw.2.2.2.1 (fun k hk => ⟨updP_n (by omega), updN_n (by omega)⟩) rfl) (g3_up hw.2.2.2.2.2)
  have hx1 := hw1.2.2.1.1
  have p0 : updP P 0 (Sl i) 0 = Sl i := updP_s
  have g0' : updN G 0 (stI (Sl i) 7) 0 = stI (Sl i) 7 := updN_s
  generalize updP P 0 (Sl i) = P2 at h1 hw1 p0
  generalize updN G 0 (stI (Sl i) 7) = G2 at h1 hw1 g0'
  refine zi_aload_n X dX6_countAll_31 rfl rfl ?_
  refine zi_iload_n X dX6_countAll_32 rfl rfl ?_
  refine zi_iload_n X dX6_countAll_33 rfl rfl ?_
  refine zi_xcallVv X (x_requireNoRoot hl hx1 h1 (by rw [g0', p0]) (by rw [p0]; exact b9_MS hbi) hu (pt_X hp.1)) kc_X6_requireNoRoot wm_X6_156 hx1 rfl wim_X6_requireNoRoot wse_X6_requireNoRoot ⟨Nat.le_of_ble_eq_true rfl, Nat.le_of_ble_eq_true rfl⟩ rfl rfl (Nat.le_of_ble_eq_true rfl) ⟨Nat.le_of_ble_eq_true rfl, Nat.le_of_ble_eq_true rfl⟩ dX6_countAll_34 (fun E g3 e1 => zt_out X Vz (by obtain ⟨e1, e2, e3, e4⟩ := e1; rw [p0] at e4; exact ⟨⟨T, P2, G2, _, isWT_alg hw1 e2 e3 hw1.2.2.2.1 hw1.2.2.2.2.2⟩, Or.inr (Or.inr (Or.inr ⟨e1, hp, i, hi, rfl, h0, fun w => w.1 (by rw [eu]; exact e4)⟩))⟩) (by decide) (by decide)) (fun g3 e1 => ?_)
  obtain ⟨f2, h2, z1⟩ := e1
  rw [p0] at z1
  have hw2 := isWT_alg hw1 f2 h2 hw1.2.2.2.1 hw1.2.2.2.2.2
  have hx2 := hw2.2.2.1.1
  refine zi_aload_n X dX6_countAll_37 rfl rfl ?_
  refine zi_iload X dX6_countAll_38 rfl ?_
  refine zi_iload X dX6_countAll_40 rfl ?_
  refine zi_xcallVv X (x_requireNoRoot hl hx2 h2 (by rw [g0', p0]) (by rw [p0]; exact b9_MS hbi) hv (pt_X hp.2.1)) kc_X6_requireNoRoot wm_X6_156 hx2 rfl wim_X6_requireNoRoot wse_X6_requireNoRoot ⟨Nat.le_of_ble_eq_true rfl, Nat.le_of_ble_eq_true rfl⟩ rfl rfl (Nat.le_of_ble_eq_true rfl) ⟨Nat.le_of_ble_eq_true rfl, Nat.le_of_ble_eq_true rfl⟩ dX6_countAll_42 (fun E g4 e1 => zt_out X Vz (by obtain ⟨e1, e2, e3, e4⟩ := e1; rw [p0] at e4; exact ⟨⟨T, P2, G2, _, isWT_alg hw2 e2 e3 hw2.2.2.2.1 hw2.2.2.2.2.2⟩, Or.inr (Or.inr (Or.inr ⟨e1, hp, i, hi, rfl, h0, fun w => w.2 (by rw [ev]; exact e4)⟩))⟩) (by decide) (by decide)) (fun g4 e1 => ?_)
  obtain ⟨f3, h3, z2⟩ := e1
  rw [p0] at z2
  have hw3 := isWT_alg hw2 f3 h3 hw2.2.2.2.1 hw2.2.2.2.2.2
  have hx3 := hw3.2.2.1.1
  have okc := hz.1 _ hbi h0
  refine zi_iconst (v := (nI 0)) X dX6_countAll_45 (by decide) ?_
  refine zi_istore X dX6_countAll_46 (by decide) ?_
  refine zi_iconst (v := (nI 0)) X dX6_countAll_48 (by decide) ?_
  refine zi_istore X dX6_countAll_49 (by decide) ?_
  have loop : ∀ r t, t + r = 7 → ∀ (c : Int) (p : Nat → Int) (P4 : Nat → Nat → Int) (G4 L4 : Nat → Nat) (g5 : mH), isWT cA D S (x, sl, rw, is, lst, sa) g5 (Sl, n, V, src) T P4 G4 L4 → P4 0 = p → okC (r + 1) p → c + cntA m (nI u) m2 (nI v) r p = cntA m (nI u) m2 (nI v) 7 (Sl i) → zM z (0 + 1 + 3 + 1 + 1 + 1) (0 + 6 + 18 + 6 + 6 + 6) 51 [some (.ref x), some (.int (nI i)), some (.int m), some (.int (nI u)), some (.int m2), some (.int (nI v)), some (.int (iI c)), some (.int (nI t))] [] g5 := by
    intro r
    have stop : ∀ t (c : Int) (P4 : Nat → Nat → Int) (G4 L4 : Nat → Nat) (g5 : mH), isWT cA D S (x, sl, rw, is, lst, sa) g5 (Sl, n, V, src) T P4 G4 L4 → c = cntA m (nI u) m2 (nI v) 7 (Sl i) → zM z (0 + 1 + 3 + 1 + 1 + 1) (0 + 6 + 18 + 6 + 6 + 6) 149 [some (.ref x), some (.int (nI i)), some (.int m), some (.int (nI u)), some (.int m2), some (.int (nI v)), some (.int (iI c)), some (.int (nI t))] [] g5 := by
      intro t c P4 G4 L4 g5 hw4 hc
      refine zi_iload X dX6_countAll_149 rfl ?_
      refine zi_xireturn X Vz dX6_countAll_151 ?_
      exact ⟨i, hi, rfl, hp, h0, ⟨by rw [eu]; exact z1, by rw [ev]; exact z2⟩, by rw [hc], T, P4, G4, L4, hw4⟩
    induction r with
    | zero =>
      intro t ht c p P4 G4 L4 g5 hw4 hp4 hok hc
      have : t = 7 := by omega
      subst this
      have c55 : nI 7 ≤ nI 7 := by decide
      refine zi_iload X dX6_countAll_51 rfl ?_
      refine zi_bipush (v := (nI 7)) X dX6_countAll_53 (by decide) ?_
      refine zi_icmp_ge (tgt := 149) X dX6_countAll_55 (by decide) (fun c_55 => ?_) (fun c_55 => (by first | exact absurd c55 c_55 | exact absurd c_55 c55))
      exact stop 7 c P4 G4 L4 g5 hw4 (by rw [← hc]; unfold cntA; rw [Int.add_zero])
    | succ r ih =>
      intro t ht c p P4 G4 L4 g5 hw4 hp4 hok hc
      have hx4 := hw4.2.2.1.1
      have kp := (hP_p hw4.1 (j := 0) (by decide)).1
      have hg0 := hw4.2.2.2.2.2 0 (by decide)
      rw [hp4] at hg0
      rw [hg0] at kp
      have hle := stI_le p 7
      refine zi_iload X dX6_countAll_51 rfl ?_
      refine zi_bipush (v := (nI 7)) X dX6_countAll_53 (by decide) ?_
      refine zi_icmp_ge (tgt := 149) X dX6_countAll_55 (by decide) (fun c_55 => (by first | exact absurd (c7 (by omega)) c_55 | exact absurd c_55 (c7 (by omega)))) (fun c_55 => ?_)
      refine zi_aload_n X dX6_countAll_58 rfl rfl ?_
      refine zi_getf (C := RX6) (T := TX6) (N := 8) (ci := 10) X (by first | assumption | exact mup_self | (rw [mup_ne (by assumption)]; assumption) | (rw [mup_ne (by assumption)]; exact mup_self) | (rw [mup_ne (by assumption), mup_ne (by assumption)]; assumption)) rfl in_X6 3 (by decide) wf_X6_28 rfl rfl dX6_countAll_59 ?_
      refine zi_getf (C := RX4) (T := TX4) (N := 2) (ci := 8) X (by first | assumption | exact mup_self | (rw [mup_ne (by assumption)]; assumption) | (rw [mup_ne (by assumption)]; exact mup_self) | (rw [mup_ne (by assumption), mup_ne (by assumption)]; assumption)) rfl in_X4 1 (by decide) wf_X6_137 rfl rfl dX6_countAll_62 ?_
      by_cases cd : stI p 7 ≤ 1
      · have c65 : nI (stI p 7) - nI 1 ≤ 0 := by
          rw [show (0 : Int32) = nI 0 from rfl]
          refine Int32.not_lt.mp (fun w => ?_)
          obtain ⟨d, hd⟩ : ∃ d, stI p 7 = d + 1 := ⟨stI p 7 - 1, by have := hok.1; omega⟩
          rw [hd, nI_pr, nI_ltI (by omega) (by omega)] at w
          omega
        refine zi_if_le (tgt := 149) X dX6_countAll_65 (by decide) (fun c_65 => ?_) (fun c_65 => (by first | exact absurd c65 c_65 | exact absurd c_65 c65))
        exact stop t c P4 G4 L4 g5 hw4 (by rw [← hc]; unfold cntA; rw [if_pos cd, Int.add_zero])
      · have c65 : ¬ nI (stI p 7) - nI 1 ≤ 0 := by
          obtain ⟨d, hd⟩ : ∃ d, stI p 7 = d + 1 := ⟨stI p 7 - 1, by omega⟩
          rw [hd, nI_pr, Int32.not_le, show (0 : Int32) = nI 0 from rfl, nI_ltI (by omega) (by omega)]
          omega
        obtain ⟨hok0, ok, hokn⟩ := hok
        refine zi_if_le (tgt := 149) X dX6_countAll_65 (by decide) (fun c_65 => (by first | exact absurd c65 c_65 | exact absurd c_65 c65)) (fun c_65 => ?_)
        refine zi_aload_n X dX6_countAll_68 rfl rfl ?_
        refine zi_getf (C := RX6) (T := TX6) (N := 8) (ci := 10) X (by first | assumption | exact mup_self | (rw [mup_ne (by assumption)]; assumption) | (rw [mup_ne (by assumption)]; exact mup_self) | (rw [mup_ne (by assumption), mup_ne (by assumption)]; assumption)) rfl in_X6 2 (by decide) wf_X6_21 rfl rfl dX6_countAll_69 ?_
        refine zi_aload_n X dX6_countAll_72 rfl rfl ?_
        refine zi_getf (C := RX6) (T := TX6) (N := 8) (ci := 10) X (by first | assumption | exact mup_self | (rw [mup_ne (by assumption)]; assumption) | (rw [mup_ne (by assumption)]; exact mup_self) | (rw [mup_ne (by assumption), mup_ne (by assumption)]; assumption)) rfl in_X6 3 (by decide) wf_X6_28 rfl rfl dX6_countAll_73 ?_
        refine zi_aload_n X dX6_countAll_76 rfl rfl ?_
        refine zi_getf (C := RX6) (T := TX6) (N := 8) (ci := 10) X (by first | assumption | exact mup_self | (rw [mup_ne (by assumption)]; assumption) | (rw [mup_ne (by assumption)]; exact mup_self) | (rw [mup_ne (by assumption), mup_ne (by assumption)]; assumption)) rfl in_X6 6 (by decide) wf_X6_41 rfl rfl dX6_countAll_77 ?_
        refine zi_callVv X (q_writeSturm l D hw4.1 (q := 0) (a := 0) (by decide) ⟨by decide, Or.inl (by decide)⟩ (by rw [hp4]; exact hw4.2.2.2.2.2 0 (by decide) ▸ (by rw [hp4])) (by rw [hp4]; exact ok.1.1) (by rw [hp4]; exact ok.1.2.1) (by rw [hp4]; exact ok.1.2.2)) kc_X0_writeSturm wm_X6_159 (hP_a hw4.1) rfl wim_X0_writeSturm wse_X0_writeSturm ⟨Nat.le_of_ble_eq_true rfl, Nat.le_of_ble_eq_true rfl⟩ rfl rfl (Nat.le_of_ble_eq_true rfl) ⟨Nat.le_of_ble_eq_true rfl, Nat.le_of_ble_eq_true rfl⟩ dX6_countAll_80 (fun g6 e2 => ?_)
        obtain ⟨f4, P5, G5, mm, h5, b1, b2, b3⟩ := e2
        rw [hp4] at b1 b3
        have hm := stLen_M b1
        subst hm
        have hw5 := isWT_alg hw4 f4 h5 (isoK_up hw4.2.2.2.1 (fun k hk => b2 k (Or.inr (show 10 ≤ k by omega))) (updN_n (by decide))) (fun k hk => by rw [(b2 k (Or.inl (show k < 3 by omega))).1, (b2 k (Or.inl (show k < 3 by omega))).2]; exact hw4.2.2.2.2.2 k hk)
        have hp5 : P5 0 = p := by rw [(b2 0 (Or.inl (by decide))).1]; exact hp4
        have sq : sqIs 0 p P5 G5 (updN L4 0 (stM p)) := ⟨b1, updN_s, b3⟩
        have oE := sq_ok sq ok.2.1
        have hx5 := hw5.2.2.1.1
        refine zi_iload X dX6_countAll_83 rfl ?_
        refine zi_aload_n X dX6_countAll_85 rfl rfl ?_
        refine zi_getf (C := RX6) (T := TX6) (N := 8) (ci := 10) X (by first | assumption | exact mup_self | (rw [mup_ne (by assumption)]; assumption) | (rw [mup_ne (by assumption)]; exact mup_self) | (rw [mup_ne (by assumption), mup_ne (by assumption)]; assumption)) rfl in_X6 2 (by decide) wf_X6_21 rfl rfl dX6_countAll_86 ?_
        refine zi_aload_n X dX6_countAll_89 rfl rfl ?_
        refine zi_getf (C := RX6) (T := TX6) (N := 8) (ci := 10) X (by first | assumption | exact mup_self | (rw [mup_ne (by assumption)]; assumption) | (rw [mup_ne (by assumption)]; exact mup_self) | (rw [mup_ne (by assumption), mup_ne (by assumption)]; assumption)) rfl in_X6 6 (by decide) wf_X6_41 rfl rfl dX6_countAll_90 ?_
        refine zi_iload_n X dX6_countAll_93 rfl rfl ?_
        refine zi_iload_n X dX6_countAll_94 rfl rfl ?_
        refine zi_callVi X (q_changesAt l D h5 (q := 0) (k := u) (M := MS) (X := 2 ^ 29) (by decide) oE (pt_X hp.1) (by omega) (two_X (by omega)) X_BB MS_X) kc_X0_changesAt wm_X6_144 (hP_a h5) rfl wim_X0_changesAt wse_X0_changesAt ⟨Nat.le_of_ble_eq_true rfl, Nat.le_of_ble_eq_true rfl⟩ rfl rfl (Nat.le_of_ble_eq_true rfl) ⟨Nat.le_of_ble_eq_true rfl, Nat.le_of_ble_eq_true rfl⟩ dX6_countAll_95 (fun y g7 e1 => ?_)
        obtain ⟨f6, h6, rfl⟩ := e1
        have hw6 := isWT_alg hw5 f6 h6 hw5.2.2.2.1 hw5.2.2.2.2.2
        have hx6 := hw6.2.2.1.1
        rw [sq_C sq]
        refine zi_aload_n X dX6_countAll_98 rfl rfl ?_
        refine zi_getf (C := RX6) (T := TX6) (N := 8) (ci := 10) X (by first | assumption | exact mup_self | (rw [mup_ne (by assumption)]; assumption) | (rw [mup_ne (by assumption)]; exact mup_self) | (rw [mup_ne (by assumption), mup_ne (by assumption)]; assumption)) rfl in_X6 2 (by decide) wf_X6_21 rfl rfl dX6_countAll_99 ?_
        refine zi_aload_n X dX6_countAll_102 rfl rfl ?_
        refine zi_getf (C := RX6) (T := TX6) (N := 8) (ci := 10) X (by first | assumption | exact mup_self | (rw [mup_ne (by assumption)]; assumption) | (rw [mup_ne (by assumption)]; exact mup_self) | (rw [mup_ne (by assumption), mup_ne (by assumption)]; assumption)) rfl in_X6 6 (by decide) wf_X6_41 rfl rfl dX6_countAll_103 ?_
        refine zi_iload X dX6_countAll_106 rfl ?_
        refine zi_iload X dX6_countAll_108 rfl ?_
        refine zi_callVi X (q_changesAt l D h6 (q := 0) (k := v) (M := MS) (X := 2 ^ 29) (by decide) oE (pt_X hp.2.1) (by omega) (two_X (by omega)) X_BB MS_X) kc_X0_changesAt wm_X6_144 (hP_a h6) rfl wim_X0_changesAt wse_X0_changesAt ⟨Nat.le_of_ble_eq_true rfl, Nat.le_of_ble_eq_true rfl⟩ rfl rfl (Nat.le_of_ble_eq_true rfl) ⟨Nat.le_of_ble_eq_true rfl, Nat.le_of_ble_eq_true rfl⟩ dX6_countAll_110 (fun y g8 e1 => ?_)
        obtain ⟨f7, h7, rfl⟩ := e1
        have hw7 := isWT_alg hw6 f7 h7 hw6.2.2.2.1 hw6.2.2.2.2.2
        have hx7 := hw7.2.2.1.1
        rw [sq_C sq]
        refine zi_isub X dX6_countAll_113 ?_
        rw [nn_sub]
        refine zi_iadd X dX6_countAll_114 ?_
        rw [iI_add]
        refine zi_istore X dX6_countAll_115 (by decide) ?_
        refine zi_aload_n X dX6_countAll_117 rfl rfl ?_
        refine zi_getf (C := RX6) (T := TX6) (N := 8) (ci := 10) X (by first | assumption | exact mup_self | (rw [mup_ne (by assumption)]; assumption) | (rw [mup_ne (by assumption)]; exact mup_self) | (rw [mup_ne (by assumption), mup_ne (by assumption)]; assumption)) rfl in_X6 2 (by decide) wf_X6_21 rfl rfl dX6_countAll_118 ?_
        refine zi_aload_n X dX6_countAll_121 rfl rfl ?_
        refine zi_getf (C := RX6) (T := TX6) (N := 8) (ci := 10) X (by first | assumption | exact mup_self | (rw [mup_ne (by assumption)]; assumption) | (rw [mup_ne (by assumption)]; exact mup_self) | (rw [mup_ne (by assumption), mup_ne (by assumption)]; assumption)) rfl in_X6 3 (by decide) wf_X6_28 rfl rfl dX6_countAll_122 ?_
        refine zi_aload_n X dX6_countAll_125 rfl rfl ?_
        refine zi_getf (C := RX6) (T := TX6) (N := 8) (ci := 10) X (by first | assumption | exact mup_self | (rw [mup_ne (by assumption)]; assumption) | (rw [mup_ne (by assumption)]; exact mup_self) | (rw [mup_ne (by assumption), mup_ne (by assumption)]; assumption)) rfl in_X6 5 (by decide) wf_X6_35 rfl rfl dX6_countAll_126 ?_
        refine zi_callVv X (q_writeRepeated l D h7 (a := 0) (c := 2) (by decide) (by decide) (by rw [hp5]; exact (hw7.2.2.2.2.2 0 (by decide)).trans (by rw [hp5])) (by rw [hp5]; exact ok.1.1) (by rw [hp5]; exact ok.1.2.1) (by rw [hp5]; exact ok.2.2.1.1)) kc_X0_writeRepeated wm_X6_163 (hP_a h7) rfl wim_X0_writeRepeated wse_X0_writeRepeated ⟨Nat.le_of_ble_eq_true rfl, Nat.le_of_ble_eq_true rfl⟩ rfl rfl (Nat.le_of_ble_eq_true rfl) ⟨Nat.le_of_ble_eq_true rfl, Nat.le_of_ble_eq_true rfl⟩ dX6_countAll_129 (fun g9 e1 => ?_)
        obtain ⟨f8, P8, G8, h8, u8, p8, q8⟩ := e1
        rw [hp5] at p8 q8
        have hw8 := isWT_alg hw7 f8 h8 (isoK_up hw7.2.2.2.1 (fun k hk => u8 k (by simp; omega)) rfl) (g3_to hw7.2.2.2.2.2 u8 (fun k h1 h2 => by have : k = 2 := by { simp at h2; omega }; rw [this, q8, p8]))
        have hx8 := hw8.2.2.1.1
        refine zi_aload_n X dX6_countAll_132 rfl rfl ?_
        refine zi_getf (C := RX6) (T := TX6) (N := 8) (ci := 10) X (by first | assumption | exact mup_self | (rw [mup_ne (by assumption)]; assumption) | (rw [mup_ne (by assumption)]; exact mup_self) | (rw [mup_ne (by assumption), mup_ne (by assumption)]; assumption)) rfl in_X6 3 (by decide) wf_X6_28 rfl rfl dX6_countAll_133 ?_
        refine zi_aload_n X dX6_countAll_136 rfl rfl ?_
        refine zi_getf (C := RX6) (T := TX6) (N := 8) (ci := 10) X (by first | assumption | exact mup_self | (rw [mup_ne (by assumption)]; assumption) | (rw [mup_ne (by assumption)]; exact mup_self) | (rw [mup_ne (by assumption), mup_ne (by assumption)]; assumption)) rfl in_X6 5 (by decide) wf_X6_35 rfl rfl dX6_countAll_137 ?_
        refine zi_callVv X (q_become l D h8 (j := 0) (j2 := 2) (by decide) (by decide) (by decide)) kc_X4_become wm_X6_166 ((hP_p h8 (j := 0) (by decide)).1) rfl wim_X4_become wse_X4_become ⟨Nat.le_of_ble_eq_true rfl, Nat.le_of_ble_eq_true rfl⟩ rfl rfl (Nat.le_of_ble_eq_true rfl) ⟨Nat.le_of_ble_eq_true rfl, Nat.le_of_ble_eq_true rfl⟩ dX6_countAll_140 (fun g10 e1 => ?_)
        obtain ⟨f9, h9⟩ := e1
        have hw9 := isWT_alg hw8 f9 h9 (isoK_up hw8.2.2.2.1 (fun k hk => ⟨updP_n (by omega), updN_n (by omega)⟩) rfl) (fun k hk => by
          by_cases c0 : k = 0
          · rw [c0, updN_s, updP_s]; exact hw8.2.2.2.2.2 2 (by decide)
          · rw [updN_n c0, updP_n c0]; exact hw8.2.2.2.2.2 k hk)
        refine zi_iinc (v := nI (t + 1)) X dX6_countAll_143 rfl (nI_inc _) (by decide) ?_
        refine zi_goto (tgt := 51) X dX6_countAll_146 (by decide) ?_
        refine ih (t + 1) (by omega) (c + ((stC p m.toInt u : Int) - (stC p m2.toInt v : Int))) (gcdP p (derI p)) _ _ _ g10 hw9 (by rw [updP_s, p8]) hokn ?_
        rw [← hc]
        show _ = c + (if stI p 7 ≤ 1 then 0 else cntP p m (nI u) m2 (nI v) + cntA m (nI u) m2 (nI v) r (gcdP p (derI p)))
        rw [if_neg cd, ← Int.add_assoc]
        unfold cntP
        rw [eu, ev]
  exact loop 7 0 rfl 0 (Sl i) _ _ _ _ hw3 p0 okc (Int.zero_add _)
end X6M
