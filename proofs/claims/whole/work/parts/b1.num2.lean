/-! SturmRootsModel's numbers: set, copy, sign, add, less, negate, bare, times -/
def uq (x : Int64) : Nat := x.toBitVec.toNat
theorem uq_add {x y : Int64} (h : uq x + uq y < 18446744073709551616) : uq (x + y) = uq x + uq y := by
  unfold uq at *
  rw [Int64.toBitVec_add, BitVec.toNat_add, Nat.mod_eq_of_lt h]
theorem uq_mul {x y : Int64} (h : uq x * uq y < 18446744073709551616) : uq (x * y) = uq x * uq y := by
  unfold uq at *
  rw [Int64.toBitVec_mul, BitVec.toNat_mul, Nat.mod_eq_of_lt h]
theorem uq_int {x : Int64} (h : 0 ≤ x.toInt) : (uq x : Int) = x.toInt := by
  have := l_tn x
  have h2 := fb_rngL x
  have h3 : uq x < 18446744073709551616 := x.toBitVec.isLt
  unfold uq at *
  omega
theorem uq_low (d : Nat) (h : d < CC) : ((nI d).toInt64 &&& 4294967295).toInt = (d : Int) := by
  have e : ((nI d).toInt64 &&& 4294967295).toBitVec = BitVec.ofNat 64 d := by
    apply BitVec.eq_of_toNat_eq
    rw [Int64.toBitVec_and, BitVec.toNat_and, BitVec.toNat_ofNat]
    have e2 : (4294967295 : Int64).toBitVec.toNat = 2 ^ 32 - 1 := by decide
    rw [e2, Nat.and_two_pow_sub_one_eq_mod]
    have e3 := l_tn (nI d).toInt64
    rw [i32_i64] at e3
    have e4 : (nI d).toInt % 4294967296 = (d : Int) := by
      have : (nI d).toInt = ((d : Nat) : Int).bmod (2 ^ 32) := by
        show (Int32.ofNat d).toInt = _
        exact Int32.toInt_ofNat' (n := d)
      rw [this]
      unfold CC at h
      unfold Int.bmod
      simp only []
      split <;> omega
    unfold CC at h
    omega
  show ((nI d).toInt64 &&& 4294967295).toBitVec.toInt = _
  rw [e]
  unfold CC at h
  rw [BitVec.toInt_eq_toNat_bmod, BitVec.toNat_ofNat]
  unfold Int.bmod
  simp only []
  split <;> omega
theorem uq_low' {d : Nat} (h : d < CC) : uq ((nI d).toInt64 &&& 4294967295) = d := by
  have h1 := uq_low d h
  have := uq_int (x := (nI d).toInt64 &&& 4294967295) (by omega)
  omega
theorem nI_eqm {a b : Nat} (h : a % CC = b % CC) : nI a = nI b := by
  apply Int32.toBitVec_inj.mp
  rw [nI_bv, nI_bv]
  apply BitVec.eq_of_toNat_eq
  rw [BitVec.toNat_ofNat, BitVec.toNat_ofNat]
  exact h
theorem nI_mod (a : Nat) : nI (a % CC) = nI a := nI_eqm (Nat.mod_mod _ _)
theorem l2i_u (x : Int64) : x.toInt32 = nI (uq x) := by
  apply Int32.toBitVec_inj.mp
  rw [nI_bv]
  apply BitVec.eq_of_toNat_eq
  rw [Int64.toBitVec_toInt32, BitVec.signExtend_eq_setWidth_of_le _ (by decide), BitVec.toNat_setWidth, BitVec.toNat_ofNat]
  rfl
theorem l2i_d {x : Int64} {d : Nat} (h : (d : Int) = x.toInt % (CC : Int)) : x.toInt32 = nI d := by
  rw [l2i_u]
  refine nI_eqm ?_
  have := l_tn x
  unfold uq
  unfold CC at *
  omega
/-- an int's digit -/
theorem i_dig (x : Int32) : x = nI (x.toInt % (CC : Int)).toNat := by
  apply Int32.toBitVec_inj.mp
  rw [nI_bv]
  apply BitVec.eq_of_toNat_eq
  rw [BitVec.toNat_ofNat]
  have h : x.toInt = x.toBitVec.toInt := rfl
  rw [h, BitVec.toInt_eq_toNat_bmod]
  have := x.toBitVec.isLt
  unfold CC Int.bmod
  simp only []
  split <;> omega
theorem uq_shr (x : Int64) : uq (x.toUInt64 >>> ((nI 32).toInt64.toUInt64 &&& Int64.toUInt64 63)).toInt64 = uq x / CC := by
  have e : ((nI 32).toInt64.toUInt64 &&& Int64.toUInt64 63) = 32 := by decide
  rw [e]
  show (x.toUInt64 >>> (32 : UInt64)).toBitVec.toNat = x.toBitVec.toNat / CC
  rw [UInt64.toBitVec_shiftRight]
  have e2 : (32 : UInt64).toBitVec % 64 = 32#64 := by decide
  rw [e2]
  show (x.toBitVec >>> (32#64).toNat).toNat = _
  rw [BitVec.toNat_ushiftRight]
  have : (32#64).toNat = 32 := by decide
  rw [this, Nat.shiftRight_eq_div_pow]
theorem l_shr32 (x : Int64) : (x >>> ((nI 32).toInt64 &&& 63)).toInt = x.toInt / (CC : Int) := by
  have e : ((nI 32).toInt64 &&& 63) = 32 := by decide
  rw [e]
  show (x >>> (32 : Int64)).toBitVec.toInt = x.toBitVec.toInt / (CC : Int)
  rw [Int64.toBitVec_shiftRight]
  have e2 : (32 : Int64).toBitVec.smod 64 = 32#64 := by decide
  rw [e2]
  show (x.toBitVec.sshiftRight (32#64).toNat).toInt = _
  rw [BitVec.toInt_sshiftRight]
  have : (32#64).toNat = 32 := by decide
  rw [this, Int.shiftRight_eq_div_pow]
theorem ediv_01 {S P : Int} (hP : 0 < P) (h0 : 0 ≤ S) (h : S < 2 * P) : 0 ≤ S / P ∧ S / P ≤ 1 := by
  refine ⟨Int.ediv_nonneg h0 (Int.le_of_lt hP), ?_⟩
  have := Int.ediv_lt_of_lt_mul hP h
  omega
theorem nm_0 (v : Int) (k : Nat) : 0 ≤ v % cp k ∧ v % cp k < cp k := ⟨Int.emod_nonneg _ (Int.ne_of_gt (cp_pos k)), Int.emod_lt_of_pos _ (cp_pos k)⟩
section NUM2
variable {cA : Nat → ClassId} {h : mH} {a b : Nat} {va vb : Int}
theorem n_add (l : Launch) (D : va_G) (ha : h a = some (nE (cA 0) va)) (hb : h b = some (nE (cA 0) vb)) (hne : b ≠ a) :
    mCv l yX7_add cX7_add 5 (rmd 1) D (mT cA) [.ref a, .ref b] h (fun h1 => h1 = mup h a (nE (cA 0) (va + vb))) := by
  refine mEnter_v (by decide) (Nat.le_of_ble_eq_true rfl) rfl (fun z X Vz => ?_)
  refine zi_lconst (v := lN 0) X dX7_add_0 (by decide) ?_
  refine zi_lstore_n X dX7_add_1 rfl (by decide) ?_
  refine zi_iconst (v := (nI 0)) X dX7_add_2 (by decide) ?_
  refine zi_istore X dX7_add_3 (by decide) ?_
  suffices key : ∀ m k, k + m = 48 → ∀ c : Int64, ((uq c : Nat) : Int) = (va % cp k + vb % cp k) / cp k → zM z 0 0 5 [some (.ref a), some (.ref b), some (.long c), none, some (.int (nI k))] [] (mup h a (nA (cA 0) (fmx (va + vb) va k))) from by
    have := key 48 0 rfl (lN 0) (by rw [cp_0, Int.emod_one, Int.emod_one]; decide)
    rw [fmx_0] at this
    exact zi_sub (by repeat (first | exact trivial | refine And.intro rfl ?_)) (zi_eqh (mup_same ha).symm this)
  intro m
  induction m with
  | zero =>
    intro k hk c hc
    obtain rfl : k = 48 := by omega
    refine zi_iload X dX7_add_5 rfl ?_
    refine zi_bipush (v := (nI 48)) X dX7_add_7 (by decide) ?_
    refine zi_icmp_ge (tgt := 51) X dX7_add_9 (by decide) (fun c_9 => ?_) (fun c_9 => (by first | exact absurd (by decide) c_9 | exact absurd c_9 (by decide)))
    refine zi_return X Vz dX7_add_51 ?_
    rw [fmx_48]
    rfl
  | succ m ih =>
    intro k hk c hc
    have hk48 : k < 48 := by omega
    have hc1 := ediv_01 (cp_pos k) (S := va % cp k + vb % cp k) (by have := nm_0 va k; have := nm_0 vb k; omega) (by have := nm_0 va k; have := nm_0 vb k; omega)
    have da := nd_lt va k
    have db := nd_lt vb k
    have hs := nd_add va vb k
    rw [← hc] at hs hc1
    refine zi_iload X dX7_add_5 rfl ?_
    refine zi_bipush (v := (nI 48)) X dX7_add_7 (by decide) ?_
    refine zi_icmp_ge (tgt := 51) X dX7_add_9 (by decide) (fun c_9 => (by first | exact absurd (nI_ge hk48 (by omega)) c_9 | exact absurd c_9 (nI_ge hk48 (by omega)))) (fun c_9 => ?_)
    refine zi_lload_n X dX7_add_12 rfl rfl ?_
    refine zi_aload_n X dX7_add_13 rfl rfl ?_
    refine zi_iload X dX7_add_14 rfl ?_
    refine zi_iald X 0 (by first | assumption | exact mup_self | (rw [mup_ne (by assumption)]; assumption) | (rw [mup_ne (by assumption)]; exact mup_self) | (rw [mup_ne (by assumption), mup_ne (by assumption)]; assumption)) rfl (vin hk48 (by decide)) dX7_add_16 ?_
    refine zi_i2l X dX7_add_17 ?_
    refine zi_ldc2_w X wK_X7_91 dX7_add_18 ?_
    refine zi_land X dX7_add_21 ?_
    refine zi_aload_n X dX7_add_22 rfl rfl ?_
    refine zi_iload X dX7_add_23 rfl ?_
    refine zi_iald X 0 (by first | assumption | exact mup_self | (rw [mup_ne (by assumption)]; assumption) | (rw [mup_ne (by assumption)]; exact mup_self) | (rw [mup_ne (by assumption), mup_ne (by assumption)]; assumption)) rfl (vin hk48 (by decide)) dX7_add_25 ?_
    refine zi_i2l X dX7_add_26 ?_
    refine zi_ldc2_w X wK_X7_91 dX7_add_27 ?_
    refine zi_land X dX7_add_30 ?_
    refine zi_ladd X dX7_add_31 ?_
    refine zi_ladd X dX7_add_32 ?_
    rw [fmx_at hk48, nf_rd hk48]
    generalize ht : c + (((nI (nd va k)).toInt64 &&& 4294967295) + ((nI (nd vb k)).toInt64 &&& 4294967295)) = t
    have hu : uq t = uq c + (nd va k + nd vb k) := by
      unfold CC at da db
      rw [← ht, uq_add (by rw [uq_add (by rw [uq_low' da, uq_low' db]; omega), uq_low' da, uq_low' db]; omega), uq_add (by rw [uq_low' da, uq_low' db]; omega), uq_low' da, uq_low' db]
    have hd : t.toInt32 = nI (nd (va + vb) k) := by
      rw [l2i_u]
      refine nI_eqm ?_
      rw [Nat.mod_eq_of_lt (nd_lt (va + vb) k)]
      have := hs.1
      unfold CC at *
      omega
    refine zi_lstore_n X dX7_add_33 rfl (by decide) ?_
    refine zi_aload_n X dX7_add_34 rfl rfl ?_
    refine zi_iload X dX7_add_35 rfl ?_
    refine zi_lload_n X dX7_add_37 rfl rfl ?_
    refine zi_l2i X dX7_add_38 ?_
    refine zi_iast X 0 (by first | assumption | exact mup_self | (rw [mup_ne (by assumption)]; assumption) | (rw [mup_ne (by assumption)]; exact mup_self) | (rw [mup_ne (by assumption), mup_ne (by assumption)]; assumption)) rfl (vin hk48 (by decide)) dX7_add_39 ?_
    rw [hd, fmx_up hk48, mup_mup]
    refine zi_lload_n X dX7_add_40 rfl rfl ?_
    refine zi_bipush (v := (nI 32)) X dX7_add_41 (by decide) ?_
    refine zi_lushr X dX7_add_43 ?_
    refine zi_lstore_n X dX7_add_44 rfl (by decide) ?_
    refine zi_iinc (v := nI (k + 1)) X dX7_add_45 rfl (nI_inc _) (by decide) ?_
    refine zi_goto (tgt := 5) X dX7_add_48 (by decide) ?_
    exact zi_sub (by repeat (first | exact trivial | refine And.intro rfl ?_)) (ih (k + 1) (by omega) _ (by rw [uq_shr, hs.2]; unfold CC; omega))
end NUM2
