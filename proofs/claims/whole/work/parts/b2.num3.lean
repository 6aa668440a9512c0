/-! SturmRootsModel's numbers: copy, set, sign, less, negate, bare, times -/
/-- within the 48 ints, with its sign -/
def nB (v : Int) : Prop := -(2147483648 * cp 47) ≤ v ∧ v < 2147483648 * cp 47
def sgI (v : Int) : Int32 := if v < 0 then -1 else if v = 0 then nI 0 else nI 1
theorem nI_sgn {d : Nat} (h : d < CC) : nI d < 0 ↔ 2147483648 ≤ d := by
  rw [fa_lt]
  have : (nI d).toInt = ((d : Nat) : Int).bmod (2 ^ 32) := by
    show (Int32.ofNat d).toInt = _
    exact Int32.toInt_ofNat' (n := d)
  rw [this]
  have h0 : (0 : Int32).toInt = 0 := by decide
  rw [h0]
  unfold CC at h
  unfold Int.bmod
  simp only []
  split <;> omega
theorem nI_0d {d : Nat} (h : d < CC) : nI d = 0 ↔ d = 0 := by
  constructor
  · intro e
    have e1 : (nI d).toBitVec.toNat = 0 := by rw [e]; rfl
    rw [nI_bv, BitVec.toNat_ofNat] at e1
    unfold CC at h
    omega
  · rintro rfl; rfl
theorem cp_48 : cp 48 = 2 * (2147483648 * cp 47) := by
  rw [show cp 48 = cp 47 * (CC : Int) from cp_s 47]
  unfold CC
  omega
theorem nd_sg {v : Int} (h : nB v) : 2147483648 ≤ nd v 47 ↔ v < 0 := by
  obtain ⟨h1, h2⟩ := h
  have hp := cp_pos 47
  have hd := nd_int v 47
  by_cases c : v < 0
  · have e1 : v / cp 47 < 0 := Int.ediv_lt_of_lt_mul hp (by omega)
    have e2 : -2147483648 ≤ v / cp 47 := (Int.le_ediv_iff_mul_le hp).mpr (by omega)
    unfold CC at hd
    omega
  · have e2 : 0 ≤ v / cp 47 := Int.ediv_nonneg (by omega) (Int.le_of_lt hp)
    have e3 : v / cp 47 < 2147483648 := Int.ediv_lt_of_lt_mul hp (by omega)
    unfold CC at hd
    omega
/-- all places below k are 0 -/
theorem nm_z {v : Int} : ∀ {k : Nat}, (∀ j, j < k → nd v j = 0) → v % cp k = 0
  | 0, _ => by rw [cp_0, Int.emod_one]
  | k + 1, h => by rw [nm_s, nm_z (fun j hj => h j (Nat.lt_succ_of_lt hj)), h k (Nat.lt_succ_self k), Int.natCast_zero, Int.mul_zero, Int.add_zero]
theorem nB_z {v : Int} (h : nB v) (hz : v % cp 48 = 0) : v = 0 := by
  obtain ⟨h1, h2⟩ := h
  rw [cp_48] at hz
  have hp := cp_pos 47
  generalize 2147483648 * cp 47 = M at *
  have h3 := Int.mul_ediv_add_emod v (2 * M)
  have hM : 0 < M ∨ M ≤ 0 := by omega
  rcases hM with hM | hM
  · rcases Int.lt_trichotomy (v / (2 * M)) 0 with q | q | q
    · have : 2 * M * (v / (2 * M)) ≤ 2 * M * (-1) := Int.mul_le_mul_of_nonneg_left (by omega) (by omega)
      omega
    · rw [q] at h3; omega
    · have : 2 * M * 1 ≤ 2 * M * (v / (2 * M)) := Int.mul_le_mul_of_nonneg_left (by omega) (by omega)
      omega
  · omega
theorem nB_p {v : Int} (h : nB v) (h0 : 0 ≤ v) : v < cp 48 := by
  have := h.2
  rw [cp_48]
  omega
theorem nI_not {d : Nat} (h : d < CC) : nI d ^^^ (-1) = nI (CC - 1 - d) := by
  apply Int32.toBitVec_inj.mp
  rw [Int32.toBitVec_xor, nI_bv, nI_bv]
  have e : (-1 : Int32).toBitVec = BitVec.allOnes 32 := by decide
  rw [e, BitVec.xor_allOnes]
  apply BitVec.eq_of_toNat_eq
  rw [BitVec.toNat_not, BitVec.toNat_ofNat, BitVec.toNat_ofNat]
  unfold CC at *
  omega
section NUM3
variable {cA : Nat → ClassId} {h : mH} {a b : Nat} {va vb : Int}
theorem n_copy (l : Launch) (D : va_G) (ha : h a = some (nE (cA 0) va)) (hb : h b = some (nE (cA 0) vb)) (hne : a ≠ b) :
    mCv l yX7_copy cX7_copy 3 (rmd 1) D (mT cA) [.ref a, .ref b] h (fun h1 => h1 = mup h b (nE (cA 0) va)) := by
  refine mEnter_v (by decide) (Nat.le_of_ble_eq_true rfl) rfl (fun z X Vz => ?_)
  refine zi_iconst (v := (nI 0)) X dX7_copy_0 (by decide) ?_
  refine zi_istore_n X dX7_copy_1 rfl (by decide) ?_
  suffices key : ∀ m k, k + m = 48 → zM z 0 0 2 [some (.ref a), some (.ref b), some (.int (nI k))] [] (mup h b (nA (cA 0) (fmx va vb k))) from by
    have := key 48 0 rfl
    rw [fmx_0] at this
    exact zi_sub (by repeat (first | exact trivial | refine And.intro rfl ?_)) (zi_eqh (mup_same hb).symm this)
  intro m
  induction m with
  | zero =>
    intro k hk
    obtain rfl : k = 48 := by omega
    refine zi_iload_n X dX7_copy_2 rfl rfl ?_
    refine zi_bipush (v := (nI 48)) X dX7_copy_3 (by decide) ?_
    refine zi_icmp_ge (tgt := 20) X dX7_copy_5 (by decide) (fun c_5 => ?_) (fun c_5 => (by first | exact absurd (by decide) c_5 | exact absurd c_5 (by decide)))
    refine zi_return X Vz dX7_copy_20 ?_
    rw [fmx_48]
    rfl
  | succ m ih =>
    intro k hk
    have hk48 : k < 48 := by omega
    refine zi_iload_n X dX7_copy_2 rfl rfl ?_
    refine zi_bipush (v := (nI 48)) X dX7_copy_3 (by decide) ?_
    refine zi_icmp_ge (tgt := 20) X dX7_copy_5 (by decide) (fun c_5 => (by first | exact absurd (nI_ge hk48 (by omega)) c_5 | exact absurd c_5 (nI_ge hk48 (by omega)))) (fun c_5 => ?_)
    refine zi_aload_n X dX7_copy_8 rfl rfl ?_
    refine zi_iload_n X dX7_copy_9 rfl rfl ?_
    refine zi_aload_n X dX7_copy_10 rfl rfl ?_
    refine zi_iload_n X dX7_copy_11 rfl rfl ?_
    refine zi_iald X 0 (by first | assumption | exact mup_self | (rw [mup_ne (by assumption)]; assumption) | (rw [mup_ne (by assumption)]; exact mup_self) | (rw [mup_ne (by assumption), mup_ne (by assumption)]; assumption)) rfl (vin hk48 (by decide)) dX7_copy_12 ?_
    refine zi_iast X 0 (by first | assumption | exact mup_self | (rw [mup_ne (by assumption)]; assumption) | (rw [mup_ne (by assumption)]; exact mup_self) | (rw [mup_ne (by assumption), mup_ne (by assumption)]; assumption)) rfl (vin hk48 (by decide)) dX7_copy_13 ?_
    refine zi_iinc (v := nI (k + 1)) X dX7_copy_14 rfl (nI_inc _) (by decide) ?_
    refine zi_goto (tgt := 2) X dX7_copy_17 (by decide) ?_
    rw [nf_rd hk48, fmx_up hk48, mup_mup]
    exact zi_sub (by repeat (first | exact trivial | refine And.intro rfl ?_)) (ih (k + 1) (by omega))
theorem n_set (l : Launch) (D : va_G) (ha : h a = some (nE (cA 0) va)) {x : Int64} :
    mCv l yX7_set cX7_set 4 (rmd 1) D (mT cA) [.ref a, .long x] h (fun h1 => h1 = mup h a (nE (cA 0) x.toInt)) := by
  refine mEnter_v (by decide) (Nat.le_of_ble_eq_true rfl) rfl (fun z X Vz => ?_)
  refine zi_iconst (v := (nI 2)) X dX7_set_0 (by decide) ?_
  refine zi_istore_n X dX7_set_1 rfl (by decide) ?_
  have hr := fb_rngL x
  have cp2 : ∀ k, 2 ≤ k → 9223372036854775808 ≤ cp k := fun k hk => by
    have e : cp k = cp 2 * cp (k - 2) := by rw [← cp_add]; congr 1; omega
    have e2 : cp 2 = 18446744073709551616 := by decide
    have := cp_pos (k - 2)
    rw [e, e2]
    omega
  have hi : ∀ k, 2 ≤ k → nI (nd x.toInt k) = if x.toInt < 0 then -1 else nI 0 := fun k hk => by
    have h1 := cp2 k hk
    have hd := nd_int x.toInt k
    split
    · next c =>
      have e1 : x.toInt / cp k = -1 := by
        have q1 : x.toInt / cp k < 0 := Int.ediv_lt_of_lt_mul (cp_pos k) (by omega)
        have q2 : -1 ≤ x.toInt / cp k := (Int.le_ediv_iff_mul_le (cp_pos k)).mpr (by omega)
        omega
      rw [e1] at hd
      have : nd x.toInt k = 4294967295 := by
        have : ((-1 : Int) % (CC : Int)) = 4294967295 := by decide
        omega
      rw [this]
      decide
    · next c =>
      rw [Int.ediv_eq_zero_of_lt (by omega) (by omega), Int.zero_emod] at hd
      have : nd x.toInt k = 0 := by omega
      rw [this]
  suffices key : ∀ m k, k + m = 48 → 2 ≤ k → ∀ f, (∀ j, 2 ≤ j → j < k → f j = nf x.toInt j) → (∀ j, 48 ≤ j → f j = 0) → zM z 0 0 2 [some (.ref a), some (.long x), none, some (.int (nI k))] [] (mup h a (nA (cA 0) f)) from by
    have := key 46 2 rfl (Nat.le_refl 2) (nf va) (fun j h1 h2 => by omega) (fun j hj => nf_z (by omega))
    exact zi_sub (by repeat (first | exact trivial | refine And.intro rfl ?_)) (zi_eqh (mup_same ha).symm this)
  intro m
  induction m with
  | zero =>
    intro k hk k2 f hf hz
    obtain rfl : k = 48 := by omega
    refine zi_iload_n X dX7_set_2 rfl rfl ?_
    refine zi_bipush (v := (nI 48)) X dX7_set_3 (by decide) ?_
    refine zi_icmp_ge (tgt := 28) X dX7_set_5 (by decide) (fun c_5 => ?_) (fun c_5 => (by first | exact absurd (by decide) c_5 | exact absurd c_5 (by decide)))
    refine zi_aload_n X dX7_set_28 rfl rfl ?_
    refine zi_iconst (v := (nI 0)) X dX7_set_29 (by decide) ?_
    refine zi_lload_n X dX7_set_30 rfl rfl ?_
    refine zi_l2i X dX7_set_31 ?_
    refine zi_iast X 0 (by first | assumption | exact mup_self | (rw [mup_ne (by assumption)]; assumption) | (rw [mup_ne (by assumption)]; exact mup_self) | (rw [mup_ne (by assumption), mup_ne (by assumption)]; assumption)) rfl (vin (show 0 < 48 by decide) (by decide)) dX7_set_32 ?_
    refine zi_aload_n X dX7_set_33 rfl rfl ?_
    refine zi_iconst (v := (nI 1)) X dX7_set_34 (by decide) ?_
    refine zi_lload_n X dX7_set_35 rfl rfl ?_
    refine zi_bipush (v := (nI 32)) X dX7_set_36 (by decide) ?_
    refine zi_lshr X dX7_set_38 ?_
    refine zi_l2i X dX7_set_39 ?_
    refine zi_iast X 0 (by first | assumption | exact mup_self | (rw [mup_ne (by assumption)]; assumption) | (rw [mup_ne (by assumption)]; exact mup_self) | (rw [mup_ne (by assumption), mup_ne (by assumption)]; assumption)) rfl (vin (show 1 < 48 by decide) (by decide)) dX7_set_40 ?_
    refine zi_return X Vz dX7_set_41 ?_
    rw [mup_mup, mup_mup]
    unfold nE
    have e : upd (upd f (nI 0).toNatClampNeg x.toInt32) (nI 1).toNatClampNeg (x >>> ((nI 32).toInt64 &&& 63)).toInt32 = nf x.toInt := by
      funext j
      rw [nI_cl (by decide), nI_cl (by decide)]
      unfold upd
      by_cases c1 : j = 1
      · rw [if_pos c1, c1, nf_at (by decide), l2i_d (d := nd x.toInt 1)]
        rw [l_shr32, nd_int]
        rfl
      · rw [if_neg c1]
        by_cases c0 : j = 0
        · rw [if_pos c0, c0, nf_at (by decide), l2i_d (d := nd x.toInt 0)]
          rw [nd_int, cp_0, Int.ediv_one]
        · rw [if_neg c0]
          by_cases c2 : j < 48
          · exact hf j (by omega) c2
          · rw [hz j (by omega), nf_z c2]
    rw [← e]
  | succ m ih =>
    intro k hk k2 f hf hz
    have hk48 : k < 48 := by omega
    have go : ∀ v : Int32, v = nI (nd x.toInt k) → zM z 0 0 21 [some (.ref a), some (.long x), none, some (.int (nI k))] [.int v, .int (nI k), .ref a] (mup h a (nA (cA 0) f)) := fun v hv => by
      refine zi_iast X 0 (by first | assumption | exact mup_self | (rw [mup_ne (by assumption)]; assumption) | (rw [mup_ne (by assumption)]; exact mup_self) | (rw [mup_ne (by assumption), mup_ne (by assumption)]; assumption)) rfl (vin hk48 (by decide)) dX7_set_21 ?_
      refine zi_iinc (v := nI (k + 1)) X dX7_set_22 rfl (nI_inc _) (by decide) ?_
      refine zi_goto (tgt := 2) X dX7_set_25 (by decide) ?_
      rw [mup_mup]
      refine zi_sub (by repeat (first | exact trivial | refine And.intro rfl ?_)) (ih (k + 1) (by omega) (by omega) _ (fun j h1 h2 => ?_) (fun j hj => ?_))
      · unfold upd
        rw [nI_cl (by omega)]
        by_cases c : j = k
        · rw [if_pos c, hv, c, nf_at hk48]
        · rw [if_neg c]; exact hf j h1 (by omega)
      · unfold upd
        rw [nI_cl (by omega), if_neg (by omega)]
        exact hz j hj
    refine zi_iload_n X dX7_set_2 rfl rfl ?_
    refine zi_bipush (v := (nI 48)) X dX7_set_3 (by decide) ?_
    refine zi_icmp_ge (tgt := 28) X dX7_set_5 (by decide) (fun c_5 => (by first | exact absurd (nI_ge hk48 (by omega)) c_5 | exact absurd c_5 (nI_ge hk48 (by omega)))) (fun c_5 => ?_)
    refine zi_aload_n X dX7_set_8 rfl rfl ?_
    refine zi_iload_n X dX7_set_9 rfl rfl ?_
    refine zi_lload_n X dX7_set_10 rfl rfl ?_
    refine zi_lconst (v := lN 0) X dX7_set_11 (by decide) ?_
    refine zi_lcmp X dX7_set_12 ?_
    refine zi_if_ge (tgt := 20) X dX7_set_13 (by decide) (fun c_13 => ?_) (fun c_13 => ?_)
    · refine zi_iconst (v := (nI 0)) X dX7_set_20 (by decide) ?_
      refine go _ ?_
      have := (fa_le64 _ _).mp ((lg_cmp_ge _ _).mp c_13)
      rw [hi k (by omega), if_neg (by rw [lN0] at this; omega)]
    · refine zi_iconst (v := (-1)) X dX7_set_16 (by decide) ?_
      refine zi_goto (tgt := 21) X dX7_set_17 (by decide) ?_
      refine go _ ?_
      have : ¬ (lN 0).toInt ≤ x.toInt := fun q => c_13 ((lg_cmp_ge _ _).mpr ((fa_le64 _ _).mpr q))
      rw [hi k (by omega), if_pos (by rw [lN0] at this; omega)]
end NUM3
