/-! SturmRootsModel: the object; quotient -/
abbrev RO : Type := Int32 × Int32 × Int32 × (Nat → Nat)
def mO (M : Nat → Nat → Nat) (o : RO) : va_E := .inr (11, [.int o.1, .ref (M 2 0), .ref (M 0 1232), .ref (M 0 1233), .ref (M 0 1234), .ref (M 0 1235), .ref (M 0 1236), .ref (M 0 1237), .ref (M 1 0), .ref (M 1 1), .ref (M 1 2), .ref (M 1 3), .ref (M 1 4), .ref (M 2 1), .ref (M 2 2), .ref (M 1 5), .ref (M 2 3), .ref (M 1 6), .ref (M 2 4), .int o.2.1, .ref (M 2 5), .ref (M 1 7), .ref (o.2.2.2 0), .ref (o.2.2.2 1), .ref (o.2.2.2 2), .ref (o.2.2.2 3), .int o.2.2.1])
theorem tw_s (k : Nat) : (2 : Int) ^ (k + 1) = 2 ^ k * 2 := Int.pow_succ _ _
theorem ml_lt {P A M : Int} (hP : 0 < P) (h0 : 0 ≤ A) (h : A < M) (hA : ∃ q, A = P * q) (hM : ∃ q, M = P * q) : A + P ≤ M := by
  obtain ⟨q, rfl⟩ := hA
  obtain ⟨r, rfl⟩ := hM
  have h1 : q < r := by
    by_cases c : q < r
    · exact c
    · have := Int.mul_le_mul_of_nonneg_left (show r ≤ q by omega) (Int.le_of_lt hP)
      omega
  have := Int.mul_le_mul_of_nonneg_left (show q + 1 ≤ r by omega) (Int.le_of_lt hP)
  rw [Int.mul_add, Int.mul_one] at this
  exact this
/-- one bit set, those up to it being 0 -/
theorem nd_or {q : Int} {j b : Nat} (hq : 0 ≤ q) (hb : b < 32) (i : Nat) : nd (cp j * (2 ^ (b + 1) * q) + cp j * 2 ^ b) i = if i = j then nd (cp j * (2 ^ (b + 1) * q)) j + 2 ^ b else nd (cp j * (2 ^ (b + 1) * q)) i := by
  have hp := cp_pos j
  have hB := tw_pos b
  have hB1 := tw_pos (b + 1)
  have hC : (CC : Int) = 2 ^ (b + 1) * 2 ^ (31 - b) := by
    rw [← Int.pow_add, show b + 1 + (31 - b) = 32 by omega]
    rfl
  have hQ : 0 ≤ 2 ^ (b + 1) * q := Int.mul_nonneg (Int.le_of_lt hB1) hq
  by_cases c : i = j
  · subst c
    rw [if_pos rfl]
    have e1 := nd_int (cp i * (2 ^ (b + 1) * q)) i
    have e2 := nd_int (cp i * (2 ^ (b + 1) * q) + cp i * 2 ^ b) i
    rw [Int.mul_ediv_cancel_left _ (Int.ne_of_gt hp)] at e1
    rw [← Int.mul_add, Int.mul_ediv_cancel_left _ (Int.ne_of_gt hp)] at e2
    have h1 := Int.emod_nonneg (2 ^ (b + 1) * q) (show (CC : Int) ≠ 0 by decide)
    have h2 := Int.emod_lt_of_pos (2 ^ (b + 1) * q) (show (0 : Int) < (CC : Int) by decide)
    have h3 := ml_lt hB1 h1 h2 ⟨q % 2 ^ (31 - b), by rw [hC, Int.mul_emod_mul_of_pos _ _ hB1]⟩ ⟨_, hC⟩
    have e3 : (2 ^ (b + 1) * q + 2 ^ b) % (CC : Int) = 2 ^ (b + 1) * q % (CC : Int) + 2 ^ b := by
      rw [← Int.emod_add_emod]
      have h5 := tw_s b
      exact Int.emod_eq_of_lt (by omega) (by omega)
    rw [e3, ← e1] at e2
    apply Int.ofNat.inj
    show ((nd _ _ : Nat) : Int) = ((nd _ _ + 2 ^ b : Nat) : Int)
    rw [← Int.mul_add, e2, Int.natCast_add, tw_c]
  · rw [if_neg c]
    by_cases l : i < j
    · refine nd_cong l ⟨2 ^ b, rfl⟩
    · have hi := cp_pos i
      have ei : cp i = cp j * 2 ^ (b + 1) * (2 ^ (31 - b) * cp (i - j - 1)) := by
        have : cp i = cp j * ((CC : Int) * cp (i - j - 1)) := by
          rw [Int.mul_comm (CC : Int), ← cp_s, ← cp_add]
          congr 1; omega
        rw [this, hC]
        ac_rfl
      have e0 : cp j * (2 ^ (b + 1) * q) = cp j * 2 ^ (b + 1) * q := by ac_rfl
      have hP : 0 < cp j * 2 ^ (b + 1) := Int.mul_pos hp hB1
      have h1 := Int.emod_nonneg (cp j * (2 ^ (b + 1) * q)) (Int.ne_of_gt hi)
      have h2 := Int.emod_lt_of_pos (cp j * (2 ^ (b + 1) * q)) hi
      have h3 := ml_lt hP h1 h2 ⟨q % (2 ^ (31 - b) * cp (i - j - 1)), by rw [e0, ei, Int.mul_emod_mul_of_pos _ _ hP]⟩ ⟨_, ei⟩
      have h4 := Int.mul_ediv_add_emod (cp j * (2 ^ (b + 1) * q)) (cp i)
      have h5 : cp j * 2 ^ (b + 1) = cp j * 2 ^ b + cp j * 2 ^ b := by rw [tw_s]; grind
      have h6 : 0 < cp j * 2 ^ b := Int.mul_pos hp hB
      have e3 : (cp j * (2 ^ (b + 1) * q) + cp j * 2 ^ b) / cp i = cp j * (2 ^ (b + 1) * q) / cp i := by
        generalize cp j * (2 ^ (b + 1) * q) = A at *
        generalize cp j * 2 ^ b = B at *
        generalize hE : A / cp i = E at *
        have : A + B = (A % cp i + B) + cp i * E := by omega
        rw [this, Int.add_mul_ediv_left _ _ (Int.ne_of_gt hi), Int.ediv_eq_zero_of_lt (by omega) (by omega), Int.zero_add]
      have e1 := nd_int (cp j * (2 ^ (b + 1) * q)) i
      have e2 := nd_int (cp j * (2 ^ (b + 1) * q) + cp j * 2 ^ b) i
      rw [e3, ← e1] at e2
      omega
theorem nd_mul2 {q : Int} {j b : Nat} (hb : b < 32) : ∃ y : Nat, nd (cp j * (2 ^ (b + 1) * q)) j = 2 ^ (b + 1) * y := by
  have hp := cp_pos j
  have hB1 := tw_pos (b + 1)
  have hC : (CC : Int) = 2 ^ (b + 1) * 2 ^ (31 - b) := by
    rw [← Int.pow_add, show b + 1 + (31 - b) = 32 by omega]
    rfl
  have e1 := nd_int (cp j * (2 ^ (b + 1) * q)) j
  rw [Int.mul_ediv_cancel_left _ (Int.ne_of_gt hp), hC, Int.mul_emod_mul_of_pos _ _ hB1] at e1
  have h1 := Int.emod_nonneg q (Int.ne_of_gt (tw_pos (31 - b)))
  refine ⟨(q % 2 ^ (31 - b)).toNat, ?_⟩
  apply Int.ofNat.inj
  show ((nd _ _ : Nat) : Int) = ((2 ^ (b + 1) * (q % 2 ^ (31 - b)).toNat : Nat) : Int)
  rw [e1, Int.natCast_mul, tw_c, Int.toNat_of_nonneg h1]
/-- three rows written -/
def qH (h : mH) (c : ClassId) (to a y : Nat) (Q r v : Int) : mH := mup (mup (mup h to (nE c Q)) a (nE c r)) y (nE c v)
section QUO
variable {cA : Nat → ClassId} {M : Nat → Nat → Nat} {h : mH} {m a b c : Nat} {va vb vc vy : Int} {o : RO}
theorem n_quotient (l : Launch) (D : va_G) (hm : h m = some (mO M o)) (ha : h a = some (nE (cA 0) va)) (hb : h b = some (nE (cA 0) vb)) (hc : h c = some (nE (cA 0) vc)) (hy : h (M 0 1237) = some (nE (cA 0) vy)) (hab : a ≠ b) (hac : a ≠ c) (hbc : b ≠ c) (hay : a ≠ M 0 1237) (hby : b ≠ M 0 1237) (hcy : c ≠ M 0 1237)
    (h0 : 0 ≤ va) (hva : nB va) (b0 : 0 < vb) (hvb : nB vb) (hd : ∃ q, va = vb * q) :
    mCv l yX7_quotient cX7_quotient 7 (rmd 4) D (mT cA) [.ref m, .ref a, .ref b, .ref c] h (fun h1 => ∃ r v : Int, h1 = qH h (cA 0) c a (M 0 1237) (va / vb) r v) := by
  have hca : c ≠ a := fun q => hac q.symm
  have hba : b ≠ a := fun q => hab q.symm
  have hcb : c ≠ b := fun q => hbc q.symm
  have hya : M 0 1237 ≠ a := fun q => hay q.symm
  have hyb : M 0 1237 ≠ b := fun q => hby q.symm
  have hyc : M 0 1237 ≠ c := fun q => hcy q.symm
  have hne : ∀ {x : Nat} {v : Int}, h x = some (nE (cA 0) v) → m ≠ x := fun hx q => by rw [← q, hm] at hx; cases hx
  have hma := hne ha
  have hmb := hne hb
  have hmc := hne hc
  have hmy := hne hy
  have va48 := nB_p hva h0
  have vb48 := nB_p hvb (by omega)
  have gm : ∀ Q r v, qH h (cA 0) c a (M 0 1237) Q r v m = some (mO M o) := fun Q r v => by unfold qH; rw [mup_ne hmy, mup_ne hma, mup_ne hmc]; exact hm
  have ga : ∀ Q r v, qH h (cA 0) c a (M 0 1237) Q r v a = some (nE (cA 0) r) := fun Q r v => by unfold qH; rw [mup_ne hay, mup_self]
  have gc : ∀ Q r v, qH h (cA 0) c a (M 0 1237) Q r v c = some (nE (cA 0) Q) := fun Q r v => by unfold qH; rw [mup_ne hcy, mup_ne hca, mup_self]
  have gy : ∀ Q r v, qH h (cA 0) c a (M 0 1237) Q r v (M 0 1237) = some (nE (cA 0) v) := fun Q r v => by unfold qH; rw [mup_self]
  have sa : ∀ Q r v w, mup (qH h (cA 0) c a (M 0 1237) Q r v) a (nE (cA 0) w) = qH h (cA 0) c a (M 0 1237) Q w v := fun Q r v w => by unfold qH; rw [mup_comm hya, mup_mup]
  have sc : ∀ Q r v w, mup (qH h (cA 0) c a (M 0 1237) Q r v) c (nE (cA 0) w) = qH h (cA 0) c a (M 0 1237) w r v := fun Q r v w => by unfold qH; rw [mup_comm hyc, mup_comm hac, mup_mup]
  have sy : ∀ Q r v w, mup (qH h (cA 0) c a (M 0 1237) Q r v) (M 0 1237) (nE (cA 0) w) = qH h (cA 0) c a (M 0 1237) Q r w := fun Q r v w => by unfold qH; rw [mup_mup]
  refine mEnter_v (by decide) (Nat.le_of_ble_eq_true rfl) rfl (fun z X Vz => ?_)
  refine zi_aload_n X dX7_quotient_0 rfl rfl ?_
  refine zi_lconst (v := lN 0) X dX7_quotient_1 (by decide) ?_
  refine zi_callSv X (n_set l D hc) kc_X7_set wm_X7_145 wst_X7_set ⟨Nat.le_of_ble_eq_true rfl, Nat.le_of_ble_eq_true rfl⟩ rfl rfl (Nat.le_of_ble_eq_true rfl) ⟨Nat.le_of_ble_eq_true rfl, Nat.le_of_ble_eq_true rfl⟩ dX7_quotient_2 (fun h1 hp => ?_)
  subst hp
  have e00 : (lN 0).toInt = 0 := by decide
  rw [e00]
  have eh : mup h c (nE (cA 0) 0) = qH h (cA 0) c a (M 0 1237) 0 va vy := by
    unfold qH
    have e1 : mup (mup h c (nE (cA 0) 0)) a (nE (cA 0) va) = mup h c (nE (cA 0) 0) := mup_same (by rw [mup_ne hac]; exact ha)
    have e2 : mup (mup h c (nE (cA 0) 0)) (M 0 1237) (nE (cA 0) vy) = mup h c (nE (cA 0) 0) := mup_same (by rw [mup_ne hyc]; exact hy)
    rw [e1, e2]
  rw [eh]
  have gb : ∀ Q r v, qH h (cA 0) c a (M 0 1237) Q r v b = some (nE (cA 0) vb) := fun Q r v => by unfold qH; rw [mup_ne hby, mup_ne hba, mup_ne hbc]; exact hb
  refine zi_aload_n X dX7_quotient_5 rfl rfl ?_
  refine zi_callSi X (n_bits l D (ga 0 va vy) h0 va48) kc_X7_bits wm_X7_149 wst_X7_bits ⟨Nat.le_of_ble_eq_true rfl, Nat.le_of_ble_eq_true rfl⟩ rfl rfl (Nat.le_of_ble_eq_true rfl) ⟨Nat.le_of_ble_eq_true rfl, Nat.le_of_ble_eq_true rfl⟩ dX7_quotient_6 (fun r h1 hp => ?_)
  obtain ⟨rfl, rfl⟩ := hp
  refine zi_aload_n X dX7_quotient_9 rfl rfl ?_
  refine zi_callSi X (n_bits l D (gb 0 va vy) (by omega) vb48) kc_X7_bits wm_X7_149 wst_X7_bits ⟨Nat.le_of_ble_eq_true rfl, Nat.le_of_ble_eq_true rfl⟩ rfl rfl (Nat.le_of_ble_eq_true rfl) ⟨Nat.le_of_ble_eq_true rfl, Nat.le_of_ble_eq_true rfl⟩ dX7_quotient_10 (fun r h1 hp => ?_)
  obtain ⟨rfl, rfl⟩ := hp
  have t1535 : (2147483648 : Int) * cp 47 = 2 ^ 1535 := by
    have e31 : (2 : Int) ^ 31 = 2147483648 := by decide
    rw [show (1535 : Nat) = 32 * 47 + 31 from rfl, Int.pow_add, tw_32, e31, Int.mul_comm]
  have la : va = 0 ∨ ∃ t, bl va = t + 1 ∧ 2 ^ t ≤ va ∧ t < 1535 := by
    by_cases q : va = 0
    · exact Or.inl q
    · obtain ⟨t, h1, h2⟩ := bl_ge (v := va) (by omega)
      refine Or.inr ⟨t, h1, h2, ?_⟩
      have h3 : (2 : Int) ^ t < 2 ^ 1535 := by have := hva.2; rw [t1535] at this; omega
      have h4 : ((2 ^ t : Nat) : Int) < ((2 ^ 1535 : Nat) : Int) := by rw [tw_c, tw_c]; exact h3
      exact (Nat.pow_lt_pow_iff_right (by decide)).mp (Int.ofNat_lt.mp h4)
  obtain ⟨s, hs1, hs2⟩ := bl_ge b0
  have hs3 : s < 1535 := by
    have h3 : (2 : Int) ^ s < 2 ^ 1535 := by have := hvb.2; rw [t1535] at this; omega
    have h4 : ((2 ^ s : Nat) : Int) < ((2 ^ 1535 : Nat) : Int) := by rw [tw_c, tw_c]; exact h3
    exact (Nat.pow_lt_pow_iff_right (by decide)).mp (Int.ofNat_lt.mp h4)
  have lb := bl_lt (v := vb) (by omega)
  have lva := bl_lt h0
  have bla : bl va ≤ 1535 := by
    rcases la with q | ⟨t, h1, -, h3⟩
    · rw [q]; decide
    · omega
  by_cases cl : bl va < bl vb
  · refine zi_isub X dX7_quotient_13 ?_
    refine zi_istore X dX7_quotient_14 (by decide) ?_
    refine zi_iload X dX7_quotient_16 rfl ?_
    refine zi_if_ge (tgt := 22) X dX7_quotient_18 (by decide) (fun c_18 => (by first | exact absurd (Int32.not_le.mpr (pk_sneg (by omega) cl)) c_18 | exact absurd c_18 (Int32.not_le.mpr (pk_sneg (by omega) cl)))) (fun c_18 => ?_)
    refine zi_return X Vz dX7_quotient_21 ?_
    have h1 : va < vb := by
      rw [hs1] at cl
      have : (2 : Int) ^ bl va ≤ 2 ^ s := by
        have : ((2 ^ bl va : Nat) : Int) ≤ ((2 ^ s : Nat) : Int) := Int.ofNat_le.mpr (Nat.pow_le_pow_right (by decide) (by omega))
        rw [tw_c, tw_c] at this
        exact this
      omega
    exact ⟨va, vy, by rw [Int.ediv_eq_zero_of_lt h0 h1]⟩
  -- more bits
  obtain ⟨mo, hmo⟩ : ∃ mo, bl va = bl vb + mo := ⟨bl va - bl vb, by omega⟩
  have hmo2 : mo < 1536 := by omega
  have e1 : nI (bl va) - nI (bl vb) = nI mo := by rw [pk_sub (by omega)]; congr 1; omega
  refine zi_isub X dX7_quotient_13 ?_
  refine zi_istore X dX7_quotient_14 (by decide) ?_
  refine zi_iload X dX7_quotient_16 rfl ?_
  refine zi_if_ge (tgt := 22) X dX7_quotient_18 (by decide) (fun c_18 => ?_) (fun c_18 => (by first | exact absurd (by rw [e1]; exact nI_pos' (by omega)) c_18 | exact absurd c_18 (by rw [e1]; exact nI_pos' (by omega))))
  rw [e1]
  refine zi_aload_n X dX7_quotient_22 rfl rfl ?_
  refine zi_aload_n X dX7_quotient_23 rfl rfl ?_
  refine zi_getf (C := RX7) (T := TX7) (N := 27) (ci := 11) X (gm _ _ _) rfl in_X7 7 (by decide) wf_X7_30 rfl rfl dX7_quotient_24 ?_
  refine zi_callSv X (n_copy l D (gb 0 va vy) (gy 0 va vy) hby) kc_X7_copy wm_X7_113 wst_X7_copy ⟨Nat.le_of_ble_eq_true rfl, Nat.le_of_ble_eq_true rfl⟩ rfl rfl (Nat.le_of_ble_eq_true rfl) ⟨Nat.le_of_ble_eq_true rfl, Nat.le_of_ble_eq_true rfl⟩ dX7_quotient_27 (fun h1 hp => ?_)
  subst hp
  rw [sy]
  refine zi_aload_n X dX7_quotient_30 rfl rfl ?_
  refine zi_getf (C := RX7) (T := TX7) (N := 27) (ci := 11) X (gm _ _ _) rfl in_X7 7 (by decide) wf_X7_30 rfl rfl dX7_quotient_31 ?_
  refine zi_iload X dX7_quotient_34 rfl ?_
  refine zi_callSv X (n_left l D (gy 0 va vb) (B := mo) (by omega)) kc_X7_left wm_X7_141 wst_X7_left ⟨Nat.le_of_ble_eq_true rfl, Nat.le_of_ble_eq_true rfl⟩ rfl rfl (Nat.le_of_ble_eq_true rfl) ⟨Nat.le_of_ble_eq_true rfl, Nat.le_of_ble_eq_true rfl⟩ dX7_quotient_36 (fun h1 hp => ?_)
  subst hp
  rw [sy]
  have ybd : vb * 2 ^ mo < 2 ^ bl va := by
    rw [hmo, Int.pow_add]
    exact Int.mul_lt_mul_of_pos_right lb (tw_pos mo)
  have t48 : (2 : Int) ^ bl va ≤ cp 48 := by
    have : ((2 ^ bl va : Nat) : Int) ≤ ((2 ^ 1536 : Nat) : Int) := Int.ofNat_le.mpr (Nat.pow_le_pow_right (by decide) (by omega))
    rw [tw_c, tw_c] at this
    rw [← tw_32]
    exact this
  have y0 : 0 ≤ vb * 2 ^ mo := Int.mul_nonneg (by omega) (Int.le_of_lt (tw_pos mo))
  refine zi_iconst (v := (nI 1)) X dX7_quotient_39 (by decide) ?_
  refine zi_aload_n X dX7_quotient_40 rfl rfl ?_
  refine zi_callSi X (n_ints l D (ga 0 va (vb * 2 ^ mo))) kc_X7_ints wm_X7_97 wst_X7_ints ⟨Nat.le_of_ble_eq_true rfl, Nat.le_of_ble_eq_true rfl⟩ rfl rfl (Nat.le_of_ble_eq_true rfl) ⟨Nat.le_of_ble_eq_true rfl, Nat.le_of_ble_eq_true rfl⟩ dX7_quotient_41 (fun r h1 hp => ?_)
  obtain ⟨rfl, rfl⟩ := hp
  refine zi_aload_n X dX7_quotient_44 rfl rfl ?_
  refine zi_getf (C := RX7) (T := TX7) (N := 27) (ci := 11) X (gm _ _ _) rfl in_X7 7 (by decide) wf_X7_30 rfl rfl dX7_quotient_45 ?_
  refine zi_callSi X (n_ints l D (gy 0 va (vb * 2 ^ mo))) kc_X7_ints wm_X7_97 wst_X7_ints ⟨Nat.le_of_ble_eq_true rfl, Nat.le_of_ble_eq_true rfl⟩ rfl rfl (Nat.le_of_ble_eq_true rfl) ⟨Nat.le_of_ble_eq_true rfl, Nat.le_of_ble_eq_true rfl⟩ dX7_quotient_48 (fun r h1 hp => ?_)
  obtain ⟨rfl, rfl⟩ := hp
  have lx := nzl_le va
  have ly := nzl_le (vb * 2 ^ mo)
  have bx := nzl_lt h0 va48
  have by_ := nzl_lt y0 (by omega)
  refine zi_mmax X wm_X7_117 (Nat.le_of_ble_eq_true rfl) (Nat.le_of_ble_eq_true rfl) ⟨(Nat.le_of_ble_eq_true rfl), (Nat.le_of_ble_eq_true rfl)⟩ dX7_quotient_51 ?_
  refine zi_mmax X wm_X7_117 (Nat.le_of_ble_eq_true rfl) (Nat.le_of_ble_eq_true rfl) ⟨(Nat.le_of_ble_eq_true rfl), (Nat.le_of_ble_eq_true rfl)⟩ dX7_quotient_54 ?_
  refine zi_istore X dX7_quotient_57 (by decide) ?_
  refine zi_iload X dX7_quotient_59 rfl ?_
  refine zi_istore X dX7_quotient_61 (by decide) ?_
  rw [nI_mx (by omega) (by omega), nI_mx (by omega) (by omega)]
  have cx := cp_le (Nat.le_trans (Nat.le_max_left (nzl va) (nzl (vb * 2 ^ mo))) (Nat.le_max_right 1 _))
  have cy := cp_le (Nat.le_trans (Nat.le_max_right (nzl va) (nzl (vb * 2 ^ mo))) (Nat.le_max_right 1 _))
  have hn : max 1 (max (nzl va) (nzl (vb * 2 ^ mo))) ≤ 48 := Nat.max_le.mpr ⟨by decide, Nat.max_le.mpr ⟨lx, ly⟩⟩
  generalize hnn : max 1 (max (nzl va) (nzl (vb * 2 ^ mo))) = n at *
  -- the bits
  suffices key : ∀ k, k ≤ mo + 1 → ∀ r q v : Int, 0 ≤ r → 0 ≤ q → va = r + vb * (2 ^ k * q) → r < vb * 2 ^ k → r < cp n → (∀ j, k = j + 1 → v = vb * 2 ^ j) → 0 ≤ v → v < cp n → zM z 0 0 63 [some (.ref m), some (.ref a), some (.ref b), some (.ref c), some (.int (nI mo)), some (.int (nI n)), some (.int (nI k - nI 1))] [] (qH h (cA 0) c a (M 0 1237) (2 ^ k * q) r v) from by
    have h1 : va < vb * 2 ^ (mo + 1) := by
      refine Int.lt_of_lt_of_le lva ?_
      rw [hmo, hs1, show s + 1 + mo = s + (mo + 1) by omega, Int.pow_add]
      exact Int.mul_le_mul_of_nonneg_right hs2 (Int.le_of_lt (tw_pos _))
    have := key (mo + 1) (Nat.le_refl _) va 0 (vb * 2 ^ mo) h0 (Int.le_refl 0) (by rw [Int.mul_zero, Int.mul_zero, Int.add_zero]) h1 (by omega) (fun j hj => by rw [show j = mo by omega]) y0 (by omega)
    rw [Int.mul_zero, nI_pr] at this
    exact zi_sub (by repeat (first | exact trivial | refine And.intro rfl ?_)) this
  intro k
  induction k with
  | zero =>
    intro hk r q v r0 q0 hva1 hr1 hr2 hv1 hv2 hv3
    refine zi_iload X dX7_quotient_63 rfl ?_
    refine zi_if_lt (tgt := 124) X dX7_quotient_65 (by decide) (fun c_65 => ?_) (fun c_65 => (by first | exact absurd (by decide) c_65 | exact absurd c_65 (by decide)))
    refine zi_return X Vz dX7_quotient_124 ?_
    obtain ⟨w, hw⟩ := hd
    rw [Int.pow_zero, Int.mul_one] at hr1
    rw [Int.pow_zero, Int.one_mul] at hva1 ⊢
    have e2 : r = vb * (w - q) := by rw [Int.mul_sub, ← hw]; omega
    have e3 : w - q = 0 := by
      rw [e2] at r0 hr1
      rcases Int.lt_trichotomy (w - q) 0 with u | u | u
      · have := Int.mul_le_mul_of_nonneg_left (show w - q ≤ -1 by omega) (Int.le_of_lt b0)
        omega
      · exact u
      · have := Int.mul_le_mul_of_nonneg_left (show 1 ≤ w - q by omega) (Int.le_of_lt b0)
        omega
    refine ⟨r, v, ?_⟩
    have e4 : va / vb = q := by rw [hw, Int.mul_ediv_cancel_left _ (Int.ne_of_gt b0)]; omega
    rw [e4]
  | succ k ih =>
    intro hk r q v r0 q0 hva1 hr1 hr2 hv1 hv2 hv3
    have hv := hv1 k rfl
    rw [nI_pr]
    have hkm : k < 1536 := by omega
    -- behind the subtraction
    have s108 : ∀ r2 q2 : Int, 0 ≤ r2 → 0 ≤ q2 → va = r2 + vb * (2 ^ k * q2) → r2 < vb * 2 ^ k → r2 < cp n → zM z 0 0 108 [some (.ref m), some (.ref a), some (.ref b), some (.ref c), some (.int (nI mo)), some (.int (nI n)), some (.int (nI k))] [] (qH h (cA 0) c a (M 0 1237) (2 ^ k * q2) r2 v) := fun r2 q2 h1 h2 h3 h4 h5 => by
      refine zi_aload_n X dX7_quotient_108 rfl rfl ?_
      refine zi_getf (C := RX7) (T := TX7) (N := 27) (ci := 11) X (gm _ _ _) rfl in_X7 7 (by decide) wf_X7_30 rfl rfl dX7_quotient_109 ?_
      refine zi_iconst (v := (nI 1)) X dX7_quotient_112 (by decide) ?_
      refine zi_iload X dX7_quotient_113 rfl ?_
      refine zi_callSv X (n_right l D (gy _ _ _) (B := 1) (n := n) (by decide) hn hv2 hv3) kc_X7_right wm_X7_126 wst_X7_right ⟨Nat.le_of_ble_eq_true rfl, Nat.le_of_ble_eq_true rfl⟩ rfl rfl (Nat.le_of_ble_eq_true rfl) ⟨Nat.le_of_ble_eq_true rfl, Nat.le_of_ble_eq_true rfl⟩ dX7_quotient_115 (fun h1 hp => ?_)
      subst hp
      rw [sy]
      refine zi_iinc X dX7_quotient_118 rfl rfl (by decide) ?_
      refine zi_goto (tgt := 63) X dX7_quotient_121 (by decide) ?_
      rw [nI_dm]
      have p1 : (2 : Int) ^ 1 = 2 := rfl
      refine zi_sub (by repeat (first | exact trivial | refine And.intro rfl ?_)) (ih (by omega) r2 q2 (v / 2 ^ 1) h1 h2 h3 h4 h5 (fun j hj => ?_) (by rw [p1]; omega) (by rw [p1]; omega))
      rw [hv, hj, p1, tw_s, ← Int.mul_assoc, Int.mul_ediv_cancel _ (by decide)]
    refine zi_iload X dX7_quotient_63 rfl ?_
    refine zi_if_lt (tgt := 124) X dX7_quotient_65 (by decide) (fun c_65 => (by first | exact absurd (nI_pos (by omega)) c_65 | exact absurd c_65 (nI_pos (by omega)))) (fun c_65 => ?_)
    refine zi_aload_n X dX7_quotient_68 rfl rfl ?_
    refine zi_aload_n X dX7_quotient_69 rfl rfl ?_
    refine zi_getf (C := RX7) (T := TX7) (N := 27) (ci := 11) X (gm _ _ _) rfl in_X7 7 (by decide) wf_X7_30 rfl rfl dX7_quotient_70 ?_
    refine zi_iload X dX7_quotient_73 rfl ?_
    refine zi_callSi X (n_compare l D (ga _ _ _) (gy _ _ _) hn r0 hv2 hr2 hv3) kc_X7_compare wm_X7_130 wst_X7_compare ⟨Nat.le_of_ble_eq_true rfl, Nat.le_of_ble_eq_true rfl⟩ rfl rfl (Nat.le_of_ble_eq_true rfl) ⟨Nat.le_of_ble_eq_true rfl, Nat.le_of_ble_eq_true rfl⟩ dX7_quotient_75 (fun rr h1 hp => ?_)
    obtain ⟨rfl, rfl⟩ := hp
    have e5 : (2 : Int) ^ (k + 1) * q = 2 ^ k * (2 * q) := by rw [tw_s, Int.mul_assoc]
    by_cases cc : r < v
    · have lt : cmI r v < 0 := by unfold cmI; rw [if_pos cc]; decide
      refine zi_if_lt (tgt := 108) X dX7_quotient_78 (by decide) (fun c_78 => ?_) (fun c_78 => (by first | exact absurd lt c_78 | exact absurd c_78 lt))
      rw [e5]
      exact zi_sub (by repeat (first | exact trivial | refine And.intro rfl ?_)) (s108 r (2 * q) r0 (by omega) (by rw [← e5]; exact hva1) (by omega) hr2)
    · have lt : ¬ cmI r v < 0 := by
        unfold cmI
        rw [if_neg cc]
        split <;> decide
      refine zi_if_lt (tgt := 108) X dX7_quotient_78 (by decide) (fun c_78 => (by first | exact absurd lt c_78 | exact absurd c_78 lt)) (fun c_78 => ?_)
      refine zi_aload_n X dX7_quotient_81 rfl rfl ?_
      refine zi_aload_n X dX7_quotient_82 rfl rfl ?_
      refine zi_getf (C := RX7) (T := TX7) (N := 27) (ci := 11) X (gm _ _ _) rfl in_X7 7 (by decide) wf_X7_30 rfl rfl dX7_quotient_83 ?_
      refine zi_iload X dX7_quotient_86 rfl ?_
      refine zi_callSv X (n_less l D (ga _ _ _) (gy _ _ _) hya hn (Or.inr ⟨hv2, by omega, hr2⟩)) kc_X7_less wm_X7_134 wst_X7_less ⟨Nat.le_of_ble_eq_true rfl, Nat.le_of_ble_eq_true rfl⟩ rfl rfl (Nat.le_of_ble_eq_true rfl) ⟨Nat.le_of_ble_eq_true rfl, Nat.le_of_ble_eq_true rfl⟩ dX7_quotient_88 (fun h1 hp => ?_)
      subst hp
      rw [sa]
      obtain ⟨f, y, hy32, hky⟩ : ∃ f y, y < 32 ∧ k = 32 * f + y := ⟨k / 32, k % 32, by omega, by omega⟩
      have hf : f < 48 := by omega
      have ed : nI k / nI 32 = nI f := by rw [pk_div (by omega) (by decide) (by decide)]; congr 1; omega
      have em : nI k - nI k / nI 32 * nI 32 = nI y := by rw [pk_rem (by omega) (by decide) (by decide)]; congr 1; omega
      have eQ : (2 : Int) ^ (k + 1) * q = cp f * (2 ^ (y + 1) * q) := by rw [hky, Nat.add_assoc, Int.pow_add, tw_32, Int.mul_assoc]
      obtain ⟨w, hw⟩ := nd_mul2 (q := q) (j := f) hy32
      refine zi_aload_n X dX7_quotient_91 rfl rfl ?_
      refine zi_iload X dX7_quotient_92 rfl ?_
      refine zi_bipush (v := (nI 32)) X dX7_quotient_94 (by decide) ?_
      refine zi_idiv X dX7_quotient_96 (by decide) ?_
      refine zi_dup2 X dX7_quotient_97 rfl rfl ?_
      refine zi_iald X 0 (gc _ _ _) rfl (by rw [ed]; exact vin hf (by decide)) dX7_quotient_98 ?_
      refine zi_iconst (v := (nI 1)) X dX7_quotient_99 (by decide) ?_
      refine zi_iload X dX7_quotient_100 rfl ?_
      refine zi_bipush (v := (nI 32)) X dX7_quotient_102 (by decide) ?_
      refine zi_irem X dX7_quotient_104 (by decide) ?_
      refine zi_ishl X dX7_quotient_105 ?_
      refine zi_ior X dX7_quotient_106 ?_
      have eor : nf (2 ^ (k + 1) * q) (nI f).toNatClampNeg ||| nI 1 <<< (nI y &&& 31) = nI (nd (2 ^ (k + 1) * q + 2 ^ k) f) := by
        rw [nf_rd hf, nI_shl hy32, eQ, hw, Nat.mul_one, fa_or_sum (k := y + 1) w (Nat.pow_lt_pow_right (by decide) (Nat.lt_succ_self y))]
        congr 1
        have := nd_or (j := f) (b := y) q0 hy32 f
        rw [if_pos rfl, hw] at this
        rw [← this]
        congr 2
        rw [hky, Int.pow_add, tw_32]
      rw [em, ed, eor]
      refine zi_iast X 0 (gc _ _ _) rfl (vin hf (by decide)) dX7_quotient_107 ?_
      have eup : upd (nf (2 ^ (k + 1) * q)) (nI f).toNatClampNeg (nI (nd (2 ^ (k + 1) * q + 2 ^ k) f)) = nf (2 ^ (k + 1) * q + 2 ^ k) := by
        funext i
        rw [nI_cl (by omega)]
        unfold upd
        by_cases ci : i = f
        · rw [if_pos ci, ci, nf_at hf]
        · rw [if_neg ci]
          by_cases c48 : i < 48
          · have := nd_or (j := f) (b := y) q0 hy32 i
            rw [if_neg ci] at this
            rw [nf_at c48, nf_at c48, eQ, ← this]
            congr 3
            rw [hky, Int.pow_add, tw_32]
          · rw [nf_z c48, nf_z c48]
      rw [eup]
      refine zi_eqh (sc _ _ _ (2 ^ (k + 1) * q + 2 ^ k)) ?_
      have e6 : (2 : Int) ^ (k + 1) * q + 2 ^ k = 2 ^ k * (2 * q + 1) := by rw [e5, Int.mul_add, Int.mul_one]
      rw [e6]
      refine zi_sub (by repeat (first | exact trivial | refine And.intro rfl ?_)) (s108 (r - v) (2 * q + 1) (by omega) (by omega) ?_ ?_ (by omega))
      · rw [← e6, Int.mul_add, ← hv]
        omega
      · rw [hv]
        rw [tw_s, ← Int.mul_assoc] at hr1
        omega
end QUO
