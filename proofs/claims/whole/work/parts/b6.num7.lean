/-! SturmRootsModel's numbers: compare, ints, bits, zeros -/
def cmI (x y : Int) : Int32 := if x < y then -1 else if x = y then nI 0 else nI 1
theorem nI_inj32 {a b : Nat} (ha : a < CC) (hb : b < CC) (h : nI a = nI b) : a = b := by
  have := congrArg (fun x => x.toBitVec.toNat) h
  simp only [nI_bv, BitVec.toNat_ofNat] at this
  unfold CC at *
  omega
theorem nd_split (v : Int) (k : Nat) : v / cp k = v / cp (k + 1) * (CC : Int) + nd v k := by
  have h1 := Int.mul_ediv_add_emod (v / cp k) (CC : Int)
  rw [cp_s, ← Int.ediv_ediv_of_nonneg (Int.le_of_lt (cp_pos k)), nd_int]
  rw [Int.mul_comm (CC : Int)] at h1
  omega
def nzl (v : Int) : Nat := stN (nd v) 48
theorem nd_0top {v : Int} {n : Nat} (h0 : 0 ≤ v) : ∀ {m : Nat}, n ≤ m → v < cp m → (∀ j, n ≤ j → j < m → nd v j = 0) → v < cp n
  | 0, h, hv, _ => by rw [Nat.le_zero.mp h]; exact hv
  | m + 1, h, hv, hz => by
    by_cases c : n = m + 1
    · rw [c]; exact hv
    · refine nd_0top h0 (m := m) (by omega) ?_ (fun j h1 h2 => hz j h1 (by omega))
      have e := nm_s v m
      rw [Int.emod_eq_of_lt h0 hv, hz m (by omega) (by omega), Int.natCast_zero, Int.mul_zero, Int.add_zero] at e
      have := (nm_0 v m).2
      omega
theorem nzl_lt {v : Int} (h0 : 0 ≤ v) (h : v < cp 48) : v < cp (nzl v) := nd_0top h0 (stN_le _ _) h (fun _ h1 h2 => stN_z h1 h2)
theorem nzl_ge {v : Int} (h0 : 0 ≤ v) {j : Nat} (h : nzl v = j + 1) : cp j ≤ v := by
  by_cases c : cp j ≤ v
  · exact c
  · exfalso
    have h1 := stN_top (d := nd v) (n := 48) (by unfold nzl at h; omega)
    unfold nzl at h
    rw [h, Nat.add_sub_cancel] at h1
    exact h1 (nd_big h0 (by omega) (Nat.le_refl j))
theorem nzl_le (v : Int) : nzl v ≤ 48 := stN_le _ _
theorem nzl_of {v : Int} {n : Nat} (h0 : 0 ≤ v) (h : v < cp n) (hn : n ≤ 48) : nzl v ≤ n := by
  have e : nzl v = stN (nd v) n := stN_cut hn (fun j h1 h2 => nd_big h0 h h1)
  rw [e]
  exact stN_le _ _
theorem tw_c (n : Nat) : ((2 ^ n : Nat) : Int) = (2 : Int) ^ n := by
  rw [Int.natCast_pow]
  rfl
/-- bits -/
def bl (v : Int) : Nat := if v = 0 then 0 else Nat.log2 v.toNat + 1
theorem bl_lt {v : Int} (h0 : 0 ≤ v) : v < 2 ^ bl v := by
  unfold bl
  split
  · next c => rw [c]; decide
  · next c =>
    have h1 := (Nat.log2_lt (n := v.toNat) (k := Nat.log2 v.toNat + 1) (by omega)).mp (Nat.lt_succ_self _)
    have h2 : (v.toNat : Int) < ((2 ^ (Nat.log2 v.toNat + 1) : Nat) : Int) := by exact_mod_cast h1
    rw [tw_c] at h2
    omega
theorem bl_ge {v : Int} (h0 : 0 < v) : ∃ b, bl v = b + 1 ∧ 2 ^ b ≤ v := by
  refine ⟨Nat.log2 v.toNat, by unfold bl; rw [if_neg (by omega)], ?_⟩
  have h1 := Nat.log2_self_le (n := v.toNat) (by omega)
  have h2 : ((2 ^ Nat.log2 v.toNat : Nat) : Int) ≤ (v.toNat : Int) := by exact_mod_cast h1
  rw [tw_c] at h2
  omega
theorem bl_eq {v : Int} {b : Nat} (h1 : 2 ^ b ≤ v) (h2 : v < 2 ^ (b + 1)) : bl v = b + 1 := by
  have h0 := tw_pos b
  unfold bl
  rw [if_neg (by omega)]
  congr 1
  refine (Nat.log2_eq_iff (by omega)).mpr ⟨?_, ?_⟩
  · have : ((2 ^ b : Nat) : Int) ≤ (v.toNat : Int) := by rw [tw_c]; omega
    exact_mod_cast this
  · have : (v.toNat : Int) < ((2 ^ (b + 1) : Nat) : Int) := by rw [tw_c]; omega
    exact_mod_cast this
theorem bl_top {v : Int} (h0 : 0 ≤ v) (h : v < cp 48) {j : Nat} (hj : nzl v = j + 1) : nd v j ≠ 0 ∧ bl v = 32 * j + (Nat.log2 (nd v j) + 1) := by
  have h1 := stN_top (d := nd v) (n := 48) (by unfold nzl at hj; omega)
  have hj' := hj
  unfold nzl at hj'
  rw [hj', Nat.add_sub_cancel] at h1
  refine ⟨h1, ?_⟩
  have h2 := nzl_lt h0 h
  rw [hj] at h2
  have e := nd_split v j
  rw [Int.ediv_eq_zero_of_lt h0 h2, Int.zero_mul, Int.zero_add] at e
  have h3 := Int.mul_ediv_add_emod v (cp j)
  have h4 := nm_0 v j
  rw [e] at h3
  have p1 := Nat.log2_self_le h1
  have p2 := (Nat.log2_lt (n := nd v j) (k := Nat.log2 (nd v j) + 1) h1).mp (Nat.lt_succ_self _)
  have q1 : (2 : Int) ^ Nat.log2 (nd v j) ≤ nd v j := by
    have : ((2 ^ Nat.log2 (nd v j) : Nat) : Int) ≤ (nd v j : Int) := by exact_mod_cast p1
    rw [tw_c] at this
    exact this
  have q2 : (nd v j : Int) + 1 ≤ 2 ^ (Nat.log2 (nd v j) + 1) := by
    have : (nd v j : Int) + 1 ≤ ((2 ^ (Nat.log2 (nd v j) + 1) : Nat) : Int) := by exact_mod_cast p2
    rw [tw_c] at this
    exact this
  rw [← Nat.add_assoc]
  refine bl_eq ?_ ?_
  · rw [Int.pow_add, tw_32]
    have := Int.mul_le_mul_of_nonneg_left q1 (Int.le_of_lt (cp_pos j))
    omega
  · rw [Nat.add_assoc, Int.pow_add, tw_32]
    have := Int.mul_le_mul_of_nonneg_left q2 (Int.le_of_lt (cp_pos j))
    rw [Int.mul_add] at this
    omega
section NUM7
variable {cA : Nat → ClassId} {h : mH} {a b : Nat} {va vb : Int}
theorem n_compare (l : Launch) (D : va_G) (ha : h a = some (nE (cA 0) va)) (hb : h b = some (nE (cA 0) vb)) {n : Nat} (hn : n ≤ 48) (a0 : 0 ≤ va) (b0 : 0 ≤ vb) (an : va < cp n) (bn : vb < cp n) :
    mCi l yX7_compare cX7_compare 4 .int (rmd 1) D (mT cA) [.ref a, .ref b, .int (nI n)] h (fun r h1 => h1 = h ∧ r = cmI va vb) := by
  refine mEnter_i (by decide) (Nat.le_of_ble_eq_true rfl) rfl (fun z X Vz => ?_)
  refine zi_iload_n X dX7_compare_0 rfl rfl ?_
  refine zi_iconst (v := (nI 1)) X dX7_compare_1 (by decide) ?_
  refine zi_isub X dX7_compare_2 ?_
  refine zi_istore_n X dX7_compare_3 rfl (by decide) ?_
  suffices key : ∀ m, m ≤ n → va / cp m = vb / cp m → zM z 0 0 4 [some (.ref a), some (.ref b), some (.int (nI n)), some (.int (nI m - nI 1))] [] h from by
    exact zi_sub (by repeat (first | exact trivial | refine And.intro rfl ?_)) (key n (Nat.le_refl n) (by rw [Int.ediv_eq_zero_of_lt a0 an, Int.ediv_eq_zero_of_lt b0 bn]))
  intro m
  induction m with
  | zero =>
    intro hm hq
    refine zi_iload_n X dX7_compare_4 rfl rfl ?_
    refine zi_if_lt (tgt := 49) X dX7_compare_5 (by decide) (fun c_5 => ?_) (fun c_5 => (by first | exact absurd (by decide) c_5 | exact absurd c_5 (by decide)))
    refine zi_iconst (v := (nI 0)) X dX7_compare_49 (by decide) ?_
    refine zi_ireturn X Vz dX7_compare_50 ?_
    rw [cp_0, Int.ediv_one, Int.ediv_one] at hq
    exact ⟨rfl, by unfold cmI; rw [if_neg (by omega), if_pos hq]⟩
  | succ k ih =>
    intro hm hq
    have hk : k < 48 := by omega
    rw [nI_pr]
    have sa := nd_split va k
    have sb := nd_split vb k
    rw [hq] at sa
    refine zi_iload_n X dX7_compare_4 rfl rfl ?_
    refine zi_if_lt (tgt := 49) X dX7_compare_5 (by decide) (fun c_5 => (by first | exact absurd (nI_pos (by omega)) c_5 | exact absurd c_5 (nI_pos (by omega)))) (fun c_5 => ?_)
    refine zi_aload_n X dX7_compare_8 rfl rfl ?_
    refine zi_iload_n X dX7_compare_9 rfl rfl ?_
    refine zi_iald X 0 (by first | assumption | exact mup_self | (rw [mup_ne (by assumption)]; assumption) | (rw [mup_ne (by assumption)]; exact mup_self) | (rw [mup_ne (by assumption), mup_ne (by assumption)]; assumption)) rfl (vin hk (by decide)) dX7_compare_10 ?_
    refine zi_aload_n X dX7_compare_11 rfl rfl ?_
    refine zi_iload_n X dX7_compare_12 rfl rfl ?_
    refine zi_iald X 0 (by first | assumption | exact mup_self | (rw [mup_ne (by assumption)]; assumption) | (rw [mup_ne (by assumption)]; exact mup_self) | (rw [mup_ne (by assumption), mup_ne (by assumption)]; assumption)) rfl (vin hk (by decide)) dX7_compare_13 ?_
    refine zi_icmp_eq (tgt := 43) X dX7_compare_14 (by decide) (fun c_14 => ?_) (fun c_14 => ?_)
    · rw [nf_rd hk, nf_rd hk] at c_14
      have c := nI_inj32 (nd_lt _ _) (nd_lt _ _) c_14
      refine zi_iinc X dX7_compare_43 rfl rfl (by decide) ?_
      refine zi_goto (tgt := 4) X dX7_compare_46 (by decide) ?_
      rw [nI_dm]
      exact zi_sub (by repeat (first | exact trivial | refine And.intro rfl ?_)) (ih (by omega) (by rw [sa, sb, c]))
    · rw [nf_rd hk, nf_rd hk] at c_14
      have c : ¬ nd va k = nd vb k := fun q => c_14 (by rw [q])
      have hlt : va < vb ↔ nd va k < nd vb k := by
        constructor
        · intro q
          have := Int.ediv_le_ediv (cp_pos k) (Int.le_of_lt q)
          omega
        · intro q
          by_cases w : va < vb
          · exact w
          · have := Int.ediv_le_ediv (cp_pos k) (show vb ≤ va by omega)
            omega
      have hne : ¬ va = vb := fun q => c (by rw [q])
      refine zi_aload_n X dX7_compare_17 rfl rfl ?_
      refine zi_iload_n X dX7_compare_18 rfl rfl ?_
      refine zi_iald X 0 (by first | assumption | exact mup_self | (rw [mup_ne (by assumption)]; assumption) | (rw [mup_ne (by assumption)]; exact mup_self) | (rw [mup_ne (by assumption), mup_ne (by assumption)]; assumption)) rfl (vin hk (by decide)) dX7_compare_19 ?_
      refine zi_i2l X dX7_compare_20 ?_
      refine zi_ldc2_w X wK_X7_91 dX7_compare_21 ?_
      refine zi_land X dX7_compare_24 ?_
      refine zi_aload_n X dX7_compare_25 rfl rfl ?_
      refine zi_iload_n X dX7_compare_26 rfl rfl ?_
      refine zi_iald X 0 (by first | assumption | exact mup_self | (rw [mup_ne (by assumption)]; assumption) | (rw [mup_ne (by assumption)]; exact mup_self) | (rw [mup_ne (by assumption), mup_ne (by assumption)]; assumption)) rfl (vin hk (by decide)) dX7_compare_27 ?_
      refine zi_i2l X dX7_compare_28 ?_
      refine zi_ldc2_w X wK_X7_91 dX7_compare_29 ?_
      refine zi_land X dX7_compare_32 ?_
      refine zi_lcmp X dX7_compare_33 ?_
      refine zi_if_ge (tgt := 41) X dX7_compare_34 (by decide) (fun c_34 => ?_) (fun c_34 => ?_)
      · rw [nf_rd hk, nf_rd hk] at c_34
        have := (fa_le64 _ _).mp ((lg_cmp_ge _ _).mp c_34)
        rw [uq_low _ (nd_lt _ _), uq_low _ (nd_lt _ _)] at this
        refine zi_iconst (v := (nI 1)) X dX7_compare_41 (by decide) ?_
        refine zi_ireturn X Vz dX7_compare_42 ?_
        exact ⟨rfl, by unfold cmI; rw [if_neg (fun q => by have := hlt.mp q; omega), if_neg hne]⟩
      · rw [nf_rd hk, nf_rd hk] at c_34
        have : ¬ (nd vb k : Int) ≤ nd va k := fun q => c_34 ((lg_cmp_ge _ _).mpr ((fa_le64 _ _).mpr (by rw [uq_low _ (nd_lt _ _), uq_low _ (nd_lt _ _)]; exact q)))
        refine zi_iconst (v := (-1)) X dX7_compare_37 (by decide) ?_
        refine zi_goto (tgt := 42) X dX7_compare_38 (by decide) ?_
        refine zi_ireturn X Vz dX7_compare_42 ?_
        exact ⟨rfl, by unfold cmI; rw [if_pos (hlt.mpr (by omega))]⟩
theorem n_ints (l : Launch) (D : va_G) (ha : h a = some (nE (cA 0) va)) :
    mCi l yX7_ints cX7_ints 2 .int (rmd 1) D (mT cA) [.ref a] h (fun r h1 => h1 = h ∧ r = nI (nzl va)) := by
  refine mEnter_i (by decide) (Nat.le_of_ble_eq_true rfl) rfl (fun z X Vz => ?_)
  refine zi_bipush (v := (nI 48)) X dX7_ints_0 (by decide) ?_
  refine zi_istore_n X dX7_ints_2 rfl (by decide) ?_
  suffices key : ∀ m, m ≤ 48 → stN (nd va) m = nzl va → zM z 0 0 3 [some (.ref a), some (.int (nI m))] [] h from by
    exact zi_sub (by repeat (first | exact trivial | refine And.intro rfl ?_)) (key 48 (Nat.le_refl 48) rfl)
  intro m
  induction m with
  | zero =>
    intro hm hq
    refine zi_iload_n X dX7_ints_3 rfl rfl ?_
    refine zi_if_le (tgt := 21) X dX7_ints_4 (by decide) (fun c_4 => ?_) (fun c_4 => (by first | exact absurd (by decide) c_4 | exact absurd c_4 (by decide)))
    refine zi_iload_n X dX7_ints_21 rfl rfl ?_
    refine zi_ireturn X Vz dX7_ints_22 ?_
    exact ⟨rfl, by rw [← hq]; rfl⟩
  | succ k ih =>
    intro hm hq
    have hk : k < 48 := by omega
    refine zi_iload_n X dX7_ints_3 rfl rfl ?_
    refine zi_if_le (tgt := 21) X dX7_ints_4 (by decide) (fun c_4 => (by first | exact absurd (by rw [nI_lez (by omega)]; omega) c_4 | exact absurd c_4 (by rw [nI_lez (by omega)]; omega))) (fun c_4 => ?_)
    refine zi_aload_n X dX7_ints_7 rfl rfl ?_
    refine zi_iload_n X dX7_ints_8 rfl rfl ?_
    refine zi_iconst (v := (nI 1)) X dX7_ints_9 (by decide) ?_
    refine zi_isub X dX7_ints_10 ?_
    refine zi_iald X 0 (by first | assumption | exact mup_self | (rw [mup_ne (by assumption)]; assumption) | (rw [mup_ne (by assumption)]; exact mup_self) | (rw [mup_ne (by assumption), mup_ne (by assumption)]; assumption)) rfl (by rw [nI_pr]; exact vin hk (by decide)) dX7_ints_11 ?_
    refine zi_if_ne (tgt := 21) X dX7_ints_12 (by decide) (fun c_12 => ?_) (fun c_12 => ?_)
    · rw [nI_pr, nf_rd hk, nI_0d (nd_lt _ _)] at c_12
      refine zi_iload_n X dX7_ints_21 rfl rfl ?_
      refine zi_ireturn X Vz dX7_ints_22 ?_
      exact ⟨rfl, by rw [← hq, stN, if_neg c_12]⟩
    · rw [nI_pr, nf_rd hk] at c_12
      have c : nd va k = 0 := by
        by_cases q : nd va k = 0
        · exact q
        · exact absurd c_12 (fun w => q ((nI_0d (nd_lt _ _)).mp w))
      refine zi_iinc (v := nI (k)) X dX7_ints_15 rfl (nI_dec _) (by decide) ?_
      refine zi_goto (tgt := 3) X dX7_ints_18 (by decide) ?_
      exact zi_sub (by repeat (first | exact trivial | refine And.intro rfl ?_)) (ih (by omega) (by rw [← hq, stN, if_pos c]))
end NUM7
