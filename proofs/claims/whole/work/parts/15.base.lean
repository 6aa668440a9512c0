/-! names of states, words of numbers -/
abbrev rmd (d : Nat) : Room := { frames := d, cells := 0, slots := 0, locals := 60 * d }
abbrev rmc (d c s : Nat) : Room := { frames := d, cells := c, slots := s, locals := 60 * d }
abbrev mT (cA : Nat → ClassId) : List (ClassId × FieldType) := [(cA 0, .int), (cA 1, .long), (cA 2, .object RX1), (cA 3, .object RX4), (cA 4, .array .int), (cA 5, .array (.array .int)), (cA 6, .object "java/lang/Object")]
theorem n31 {n : Nat} {N : Nat} (h : n ≤ N) (hN : N < 2147483648) : n < 2 ^ 31 := Nat.lt_of_le_of_lt h hN
theorem nI_cl {n : Nat} (h : n < 2147483648) : (nI n).toNatClampNeg = n := nI_clamp h
theorem vin {n N : Nat} (h : n < N) (hN : N ≤ 100000) : vp_in (nI n) N := vp_in_nI h (by omega)
theorem nI_int {n : Nat} (h : n < 2147483648) : (nI n).toInt = (n : Int) := nI_toInt h
theorem i64_ext {x y : Int64} (h : x.toInt = y.toInt) : x = y := Int64.toInt_inj.mp h
theorem i32_ext {x y : Int32} (h : x.toInt = y.toInt) : x = y := Int32.toInt_inj.mp h
theorem i32_i64 (x : Int32) : x.toInt64.toInt = x.toInt := Int32.toInt_toInt64 x
theorem l_tn (x : Int64) : (x.toBitVec.toNat : Int) % 18446744073709551616 = x.toInt % 18446744073709551616 := by
  have h : x.toInt = x.toBitVec.toInt := rfl
  rw [h, BitVec.toInt_eq_toNat_bmod]
  unfold Int.bmod
  simp only []
  split <;> omega
theorem l_tnm (x : Int64) (k : Nat) (hk : 18446744073709551616 % k = 0) (h0 : 0 < k) : ((x.toBitVec.toNat % k : Nat) : Int) = x.toInt % k := by
  have h := l_tn x
  obtain ⟨m, hm⟩ := Nat.dvd_of_mod_eq_zero hk
  have e1 : (x.toBitVec.toNat : Int) % k = x.toInt % k := by
    have h2 : ((x.toBitVec.toNat : Int) % 18446744073709551616) % k = (x.toInt % 18446744073709551616) % k := by rw [h]
    have hd : (k : Int) ∣ 18446744073709551616 := ⟨(m : Int), by rw [← Int.natCast_mul, ← hm]; rfl⟩
    rw [Int.emod_emod_of_dvd _ hd, Int.emod_emod_of_dvd _ hd] at h2
    exact h2
  rw [← e1]
  rfl
theorem nI_bv {n : Nat} : (nI n).toBitVec = BitVec.ofNat 32 n := rfl
/-- (int) (x & 1073741823) -/
theorem l_and30 (x : Int64) : (x &&& 1073741823).toInt32 = nI (x.toInt % 1073741824).toNat := by
  have h1 := l_tnm x 1073741824 (by decide) (by decide)
  have h2 : (x.toInt % 1073741824).toNat = x.toBitVec.toNat % 1073741824 := by
    have h3 : x.toInt % 1073741824 = ((x.toBitVec.toNat % 1073741824 : Nat) : Int) := h1.symm
    rw [h3, Int.toNat_natCast]
  rw [h2]
  apply Int32.toBitVec_inj.mp
  rw [nI_bv]
  apply BitVec.eq_of_toNat_eq
  have e : (x &&& 1073741823).toInt32.toBitVec = (x.toBitVec &&& 1073741823#64).setWidth 32 := by
    rw [Int64.toBitVec_toInt32, BitVec.signExtend_eq_setWidth_of_le _ (by decide), Int64.toBitVec_and]; rfl
  rw [e, BitVec.toNat_setWidth, BitVec.toNat_and, BitVec.toNat_ofNat, BitVec.toNat_ofNat]
  have e2 : x.toBitVec.toNat &&& (1073741823 % 2 ^ 64) = x.toBitVec.toNat % 1073741824 := Nat.and_two_pow_sub_one_eq_mod x.toBitVec.toNat 30
  rw [e2]
/-- x >> 30 -/
theorem l_shr30 (x : Int64) : (x >>> ((nI 30).toInt64 &&& 63)).toInt = x.toInt / 1073741824 := by
  have e : ((nI 30).toInt64 &&& 63) = 30 := by decide
  rw [e]
  show (x >>> (30 : Int64)).toBitVec.toInt = x.toBitVec.toInt / 1073741824
  rw [Int64.toBitVec_shiftRight]
  have e2 : (30 : Int64).toBitVec.smod 64 = 30#64 := by decide
  rw [e2]
  show (x.toBitVec.sshiftRight (30#64).toNat).toInt = _
  rw [BitVec.toInt_sshiftRight]
  have : (30#64).toNat = 30 := by decide
  rw [this, Int.shiftRight_eq_div_pow]
  rfl
theorem l_add {x y : Int64} {a b : Int} (hx : x.toInt = a) (hy : y.toInt = b) (h1 : -9223372036854775808 ≤ a + b) (h2 : a + b < 9223372036854775808) : (x + y).toInt = a + b := by
  rw [fb_addL (by rw [hx, hy]; exact h1) (by rw [hx, hy]; exact h2), hx, hy]
theorem l_mul {x y : Int64} {a b : Int} (hx : x.toInt = a) (hy : y.toInt = b) (h1 : -9223372036854775808 ≤ a * b) (h2 : a * b < 9223372036854775808) : (x * y).toInt = a * b := by
  rw [fb_mulL (by rw [hx, hy]; exact h1) (by rw [hx, hy]; exact h2), hx, hy]
theorem l_sub {x y : Int64} {a b : Int} (hx : x.toInt = a) (hy : y.toInt = b) (h1 : -9223372036854775808 ≤ a - b) (h2 : a - b < 9223372036854775808) : (x - y).toInt = a - b := by
  rw [fb_subL (by rw [hx, hy]; exact h1) (by rw [hx, hy]; exact h2), hx, hy]
