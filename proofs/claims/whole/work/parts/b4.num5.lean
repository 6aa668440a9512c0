/-! SturmRootsModel's numbers: shifts, comparisons, bits -/
theorem tw_32 : ∀ f : Nat, (2 : Int) ^ (32 * f) = cp f
  | 0 => rfl
  | f + 1 => by rw [Nat.mul_succ, Int.pow_add, tw_32 f, cp_s]; rfl
theorem tw_pos (k : Nat) : (0 : Int) < 2 ^ k := Int.pow_pos (by decide)
theorem tw_spl {b : Nat} (h : b ≤ 32) : (CC : Int) = 2 ^ (32 - b) * 2 ^ b := by
  rw [← Int.pow_add, show 32 - b + b = 32 by omega]
  rfl
/-- a place of v times a power of two -/
theorem nd_shl (v : Int) {f b k : Nat} (hb : b < 32) : (nd (v * 2 ^ (32 * f + b)) k : Int) = (2 ^ b * ((if f ≤ k then nd v (k - f) else 0 : Nat) : Int) + ((if f + 1 ≤ k then nd v (k - f - 1) else 0 : Nat) : Int) / 2 ^ (32 - b)) % (CC : Int) := by
  have h2 : v * 2 ^ (32 * f + b) = v * 2 ^ b * cp f := by rw [Int.pow_add, tw_32]; ac_rfl
  have hM := tw_pos (32 - b)
  have hB := tw_pos b
  have hsp := tw_spl (b := b) (by omega)
  rw [nd_int, h2]
  by_cases c1 : f + 1 ≤ k
  · rw [if_pos (by omega), if_pos c1]
    obtain ⟨j, rfl⟩ : ∃ j, k = f + 1 + j := ⟨k - f - 1, by omega⟩
    rw [show f + 1 + j - f = j + 1 by omega, show j + 1 - 1 = j by omega]
    have e1 : cp (f + 1 + j) = cp j * 2 ^ (32 - b) * 2 ^ b * cp f := by
      rw [show f + 1 + j = j + 1 + f by omega, cp_add, cp_s, hsp]
      ac_rfl
    rw [e1, Int.mul_ediv_mul_of_pos_left _ _ (cp_pos f), Int.mul_ediv_mul_of_pos_left _ _ hB, ← Int.ediv_ediv_of_nonneg (Int.le_of_lt (cp_pos j))]
    obtain ⟨q, hq⟩ := nd_q v j
    obtain ⟨q2, hq2⟩ := nd_q v (j + 1)
    have e2 : v / cp (j + 1) = q := by
      rw [cp_s, ← Int.ediv_ediv_of_nonneg (Int.le_of_lt (cp_pos j)), hq, Int.add_mul_ediv_left _ _ (by decide), Int.ediv_eq_zero_of_lt (by omega) (by have := nd_lt v j; omega), Int.zero_add]
    rw [e2] at hq2
    rw [hq, hq2]
    have e3 : (nd v j : Int) + (CC : Int) * ((nd v (j + 1) : Int) + (CC : Int) * q2) = (nd v j : Int) + 2 ^ (32 - b) * (2 ^ b * ((nd v (j + 1) : Int) + (CC : Int) * q2)) := by
      rw [← Int.mul_assoc (2 ^ (32 - b)) (2 ^ b), ← hsp]
    rw [e3, Int.add_mul_ediv_left _ _ (Int.ne_of_gt hM), Int.mul_add]
    have e4 : (nd v j : Int) / 2 ^ (32 - b) + (2 ^ b * (nd v (j + 1) : Int) + 2 ^ b * ((CC : Int) * q2)) = (2 ^ b * (nd v (j + 1) : Int) + (nd v j : Int) / 2 ^ (32 - b)) + (CC : Int) * (2 ^ b * q2) := by
      have : 2 ^ b * ((CC : Int) * q2) = (CC : Int) * (2 ^ b * q2) := by ac_rfl
      rw [this]
      omega
    rw [e4, Int.add_mul_emod_self_left]
  · rw [if_neg c1]
    by_cases c2 : f ≤ k
    · obtain rfl : k = f := by omega
      rw [if_pos c2, Nat.sub_self, Int.mul_ediv_cancel _ (Int.ne_of_gt (cp_pos k))]
      obtain ⟨q, hq⟩ := nd_q v 0
      rw [cp_0, Int.ediv_one] at hq
      rw [Int.natCast_zero, Int.zero_ediv, Int.add_zero]
      conv => lhs; rw [hq]
      rw [Int.add_mul, Int.mul_assoc, Int.add_mul_emod_self_left, Int.mul_comm]
    · rw [if_neg c2]
      have e1 : cp f = (cp (f - k - 1) * (CC : Int)) * cp k := by rw [← cp_s, ← cp_add]; congr 1; omega
      rw [e1, ← Int.mul_assoc, Int.mul_ediv_cancel _ (Int.ne_of_gt (cp_pos k)), ← Int.mul_assoc, Int.mul_emod_left]
      simp
/-- a place of v divided by a power of two -/
theorem nd_shr (v : Int) {f b k : Nat} (hb : b < 32) : (nd (v / 2 ^ (32 * f + b)) k : Int) = (2 ^ (32 - b) * (nd v (k + f + 1) : Int) + (nd v (k + f) : Int) / 2 ^ b) % (CC : Int) := by
  have hB := tw_pos b
  have hsp := tw_spl (b := b) (by omega)
  have e1 : v / 2 ^ (32 * f + b) / cp k = v / cp (k + f) / 2 ^ b := by
    rw [Int.pow_add, tw_32, ← Int.ediv_ediv_of_nonneg (Int.le_of_lt (cp_pos f)), Int.ediv_ediv_of_nonneg (Int.le_of_lt hB), Int.ediv_ediv_of_nonneg (Int.le_of_lt (cp_pos f)), Int.ediv_ediv_of_nonneg (Int.le_of_lt (cp_pos (k + f))), cp_add]
    congr 1
    ac_rfl
  rw [nd_int, e1]
  obtain ⟨q, hq⟩ := nd_q v (k + f)
  obtain ⟨q2, hq2⟩ := nd_q v (k + f + 1)
  have e2 : v / cp (k + f + 1) = q := by
    rw [cp_s, ← Int.ediv_ediv_of_nonneg (Int.le_of_lt (cp_pos (k + f))), hq, Int.add_mul_ediv_left _ _ (by decide), Int.ediv_eq_zero_of_lt (by omega) (by have := nd_lt v (k + f); omega), Int.zero_add]
  rw [e2] at hq2
  rw [hq, hq2]
  have e3 : (nd v (k + f) : Int) + (CC : Int) * ((nd v (k + f + 1) : Int) + (CC : Int) * q2) = (nd v (k + f) : Int) + 2 ^ b * (2 ^ (32 - b) * ((nd v (k + f + 1) : Int) + (CC : Int) * q2)) := by
    rw [← Int.mul_assoc (2 ^ b) (2 ^ (32 - b)), Int.mul_comm (2 ^ b) (2 ^ (32 - b)), ← hsp]
  rw [e3, Int.add_mul_ediv_left _ _ (Int.ne_of_gt hB), Int.mul_add]
  have e4 : (nd v (k + f) : Int) / 2 ^ b + (2 ^ (32 - b) * (nd v (k + f + 1) : Int) + 2 ^ (32 - b) * ((CC : Int) * q2)) = (2 ^ (32 - b) * (nd v (k + f + 1) : Int) + (nd v (k + f) : Int) / 2 ^ b) + (CC : Int) * (2 ^ (32 - b) * q2) := by
    have : 2 ^ (32 - b) * ((CC : Int) * q2) = (CC : Int) * (2 ^ (32 - b) * q2) := by ac_rfl
    rw [this]
    omega
  rw [e4, Int.add_mul_emod_self_left]
theorem nI_shl {n k : Nat} (hk : k < 32) : nI n <<< (nI k &&& 31) = nI (2 ^ k * n) := by
  have hs : ∀ k, k < 32 → ((nI k &&& 31).toBitVec.smod 32).toNat = k := by decide +kernel
  apply Int32.toBitVec_inj.mp
  apply BitVec.eq_of_toNat_eq
  rw [pk_shl (nI n) (nI k &&& 31) k (hs k hk), nI_bv, nI_bv, BitVec.toNat_ofNat, BitVec.toNat_ofNat, Nat.mul_comm (2 ^ k), Nat.mod_mul_mod]
theorem nI_ushr {n k : Nat} (hn : n < CC) (hk : k < 32) : ((nI n).toUInt32 >>> ((nI k).toUInt32 &&& Int32.toUInt32 31)).toInt32 = nI (n / 2 ^ k) := by
  have hs : ∀ k, k < 32 → (((nI k).toUInt32 &&& Int32.toUInt32 31).toBitVec % 32).toNat = k := by decide +kernel
  exact pk_ushrN hn (nI k) k (hs k hk)
/-- as a natural number -/
theorem nI_of_int {d : Nat} {e : Nat} (h : (d : Int) = (e : Int) % (CC : Int)) : nI e = nI d := by
  refine nI_eqm ?_
  unfold CC at *
  omega
