/-! Integer.numberOfLeadingZeros, numberOfTrailingZeros; bits, zeros, multiply -/
theorem nI_sbn (n s : Nat) (h : s ≤ n) : nI n + Int32.ofInt (-(s : Int)) = nI (n - s) := by
  have e : nI n = nI (n - s) + nI s := by rw [nI_add]; congr 1; omega
  rw [e, Int32.ofInt_neg]
  show nI (n - s) + nI s + -(nI s) = nI (n - s)
  rw [← Int32.sub_eq_add_neg, Int32.add_sub_cancel]
theorem nI_adn (n s : Nat) : nI n + Int32.ofInt (s : Int) = nI (n + s) := nI_add n s
theorem n_nlz (l : Launch) (D : va_G) (cA : Nat → ClassId) {h : mH} {d : Nat} (h0 : d ≠ 0) (hd : d < CC) :
    mCi l yJ6_numberOfLeadingZeros_0f7a4 cJ6_numberOfLeadingZeros_0f7a4 2 .int (rmd 1) D (mT cA) [.int (nI d)] h (fun r h1 => h1 = h ∧ r = nI (31 - Nat.log2 d)) := by
  refine mEnter_i (by decide) (Nat.le_of_ble_eq_true rfl) rfl (fun z X Vz => ?_)
  have hne : ¬ nI d = 0 := fun q => h0 ((nI_0d hd).mp q)
  by_cases hs : 2147483648 ≤ d
  · have hneg := (nI_sgn hd).mpr hs
    refine zi_iload_n X dJ6_numberOfLeadingZeros_0f7a4_0 rfl rfl ?_
    refine zi_if_gt (tgt := 15) X dJ6_numberOfLeadingZeros_0f7a4_1 (by decide) (fun c_1 => (by first | exact absurd (Int32.not_lt.mpr (Int32.le_of_lt hneg)) c_1 | exact absurd c_1 (Int32.not_lt.mpr (Int32.le_of_lt hneg)))) (fun c_1 => ?_)
    refine zi_iload_n X dJ6_numberOfLeadingZeros_0f7a4_4 rfl rfl ?_
    refine zi_if_ne (tgt := 13) X dJ6_numberOfLeadingZeros_0f7a4_5 (by decide) (fun c_5 => ?_) (fun c_5 => (by first | exact absurd hne c_5 | exact absurd c_5 hne))
    refine zi_iconst (v := (nI 0)) X dJ6_numberOfLeadingZeros_0f7a4_13 (by decide) ?_
    refine zi_ireturn X Vz dJ6_numberOfLeadingZeros_0f7a4_14 ?_
    have : Nat.log2 d = 31 := (Nat.log2_eq_iff h0).mpr ⟨hs, hd⟩
    exact ⟨rfl, by rw [this]⟩
  have hd31 : d < 2147483648 := by omega
  have hpos : (0 : Int32) < nI d := by
    rw [show (0 : Int32) = nI 0 from rfl]
    exact (nI_ltI (by omega) (by omega)).mpr (by omega)
  -- i = d / 2^e, n = 31 - e
  have s73 : ∀ e i, e ≤ 30 → i = d / 2 ^ e → 0 < i → i < 4 → zM z 0 0 73 [some (.int (nI i)), some (.int (nI (31 - e)))] [] h := fun e i he hi i0 i4 => by
    refine zi_iload_n X dJ6_numberOfLeadingZeros_0f7a4_73 rfl rfl ?_
    refine zi_iload_n X dJ6_numberOfLeadingZeros_0f7a4_74 rfl rfl ?_
    refine zi_iconst (v := (nI 1)) X dJ6_numberOfLeadingZeros_0f7a4_75 (by decide) ?_
    refine zi_iushr X dJ6_numberOfLeadingZeros_0f7a4_76 ?_
    refine zi_isub X dJ6_numberOfLeadingZeros_0f7a4_77 ?_
    refine zi_ireturn X Vz dJ6_numberOfLeadingZeros_0f7a4_78 ?_
    have q : i / 2 + e = Nat.log2 d := by
      symm
      refine (Nat.log2_eq_iff h0).mpr ?_
      have hp : 0 < 2 ^ e := Nat.two_pow_pos e
      have hm := Nat.div_add_mod d (2 ^ e)
      have hl := Nat.mod_lt d hp
      rw [← hi] at hm
      rw [Nat.pow_add, show i / 2 + e + 1 = (i / 2 + 1) + e by omega, Nat.pow_add]
      have : i = 1 ∨ i = 2 ∨ i = 3 := by omega
      rcases this with rfl | rfl | rfl <;> simp <;> omega
    refine ⟨rfl, ?_⟩
    rw [show (nI 1) = nI 1 from rfl, nI_ushr (by unfold CC; omega) (by decide), Nat.pow_one, pk_sub (by omega)]
    congr 1
    omega
  have s61 : ∀ e i, e ≤ 28 → i = d / 2 ^ e → 0 < i → i < 16 → zM z 0 0 61 [some (.int (nI i)), some (.int (nI (31 - e)))] [] h := fun e i he hi i0 i4 => by
    refine zi_iload_n X dJ6_numberOfLeadingZeros_0f7a4_61 rfl rfl ?_
    refine zi_iconst (v := (nI 4)) X dJ6_numberOfLeadingZeros_0f7a4_62 (by decide) ?_
    refine zi_icmp_lt (tgt := 73) X dJ6_numberOfLeadingZeros_0f7a4_63 (by decide) (fun c_63 => ?_) (fun c_63 => ?_)
    · have c : i < 4 := by have := (nI_ltI (by omega) (by decide)).mp c_63; omega
      exact s73 e i (by omega) hi i0 c
    · have c : 4 ≤ i := by
        by_cases q : i < 4
        · exact absurd ((nI_ltI (by omega) (by decide)).mpr q) c_63
        · omega
      refine zi_iinc X dJ6_numberOfLeadingZeros_0f7a4_66 rfl rfl (by decide) ?_
      refine zi_iload_n X dJ6_numberOfLeadingZeros_0f7a4_69 rfl rfl ?_
      refine zi_iconst (v := (nI 2)) X dJ6_numberOfLeadingZeros_0f7a4_70 (by decide) ?_
      refine zi_iushr X dJ6_numberOfLeadingZeros_0f7a4_71 ?_
      refine zi_istore_n X dJ6_numberOfLeadingZeros_0f7a4_72 rfl (by decide) ?_
      rw [nI_ushr (by unfold CC; omega) (by decide), show Int32.ofInt (-2) = Int32.ofInt (-((2 : Nat) : Int)) from rfl, nI_sbn _ _ (by omega), show 31 - e - 2 = 31 - (e + 2) by omega]
      exact zi_sub (by repeat (first | exact trivial | refine And.intro rfl ?_)) (s73 (e + 2) (i / 2 ^ 2) (by omega) (by rw [hi, Nat.div_div_eq_div_mul, ← Nat.pow_add]) (by omega) (by omega))
  have s48 : ∀ e i, e ≤ 24 → i = d / 2 ^ e → 0 < i → i < 256 → zM z 0 0 48 [some (.int (nI i)), some (.int (nI (31 - e)))] [] h := fun e i he hi i0 i4 => by
    refine zi_iload_n X dJ6_numberOfLeadingZeros_0f7a4_48 rfl rfl ?_
    refine zi_bipush (v := (nI 16)) X dJ6_numberOfLeadingZeros_0f7a4_49 (by decide) ?_
    refine zi_icmp_lt (tgt := 61) X dJ6_numberOfLeadingZeros_0f7a4_51 (by decide) (fun c_51 => ?_) (fun c_51 => ?_)
    · have c : i < 16 := by have := (nI_ltI (by omega) (by decide)).mp c_51; omega
      exact s61 e i (by omega) hi i0 c
    · have c : 16 ≤ i := by
        by_cases q : i < 16
        · exact absurd ((nI_ltI (by omega) (by decide)).mpr q) c_51
        · omega
      refine zi_iinc X dJ6_numberOfLeadingZeros_0f7a4_54 rfl rfl (by decide) ?_
      refine zi_iload_n X dJ6_numberOfLeadingZeros_0f7a4_57 rfl rfl ?_
      refine zi_iconst (v := (nI 4)) X dJ6_numberOfLeadingZeros_0f7a4_58 (by decide) ?_
      refine zi_iushr X dJ6_numberOfLeadingZeros_0f7a4_59 ?_
      refine zi_istore_n X dJ6_numberOfLeadingZeros_0f7a4_60 rfl (by decide) ?_
      rw [nI_ushr (by unfold CC; omega) (by decide), show Int32.ofInt (-4) = Int32.ofInt (-((4 : Nat) : Int)) from rfl, nI_sbn _ _ (by omega), show 31 - e - 4 = 31 - (e + 4) by omega]
      exact zi_sub (by repeat (first | exact trivial | refine And.intro rfl ?_)) (s61 (e + 4) (i / 2 ^ 4) (by omega) (by rw [hi, Nat.div_div_eq_div_mul, ← Nat.pow_add]) (by omega) (by omega))
  have s33 : ∀ e i, e ≤ 16 → i = d / 2 ^ e → 0 < i → i < 65536 → zM z 0 0 33 [some (.int (nI i)), some (.int (nI (31 - e)))] [] h := fun e i he hi i0 i4 => by
    refine zi_iload_n X dJ6_numberOfLeadingZeros_0f7a4_33 rfl rfl ?_
    refine zi_sipush (v := (nI 256)) X dJ6_numberOfLeadingZeros_0f7a4_34 (by decide) ?_
    refine zi_icmp_lt (tgt := 48) X dJ6_numberOfLeadingZeros_0f7a4_37 (by decide) (fun c_37 => ?_) (fun c_37 => ?_)
    · have c : i < 256 := by have := (nI_ltI (by omega) (by decide)).mp c_37; omega
      exact s48 e i (by omega) hi i0 c
    · have c : 256 ≤ i := by
        by_cases q : i < 256
        · exact absurd ((nI_ltI (by omega) (by decide)).mpr q) c_37
        · omega
      refine zi_iinc X dJ6_numberOfLeadingZeros_0f7a4_40 rfl rfl (by decide) ?_
      refine zi_iload_n X dJ6_numberOfLeadingZeros_0f7a4_43 rfl rfl ?_
      refine zi_bipush (v := (nI 8)) X dJ6_numberOfLeadingZeros_0f7a4_44 (by decide) ?_
      refine zi_iushr X dJ6_numberOfLeadingZeros_0f7a4_46 ?_
      refine zi_istore_n X dJ6_numberOfLeadingZeros_0f7a4_47 rfl (by decide) ?_
      rw [nI_ushr (by unfold CC; omega) (by decide), show Int32.ofInt (-8) = Int32.ofInt (-((8 : Nat) : Int)) from rfl, nI_sbn _ _ (by omega), show 31 - e - 8 = 31 - (e + 8) by omega]
      exact zi_sub (by repeat (first | exact trivial | refine And.intro rfl ?_)) (s48 (e + 8) (i / 2 ^ 8) (by omega) (by rw [hi, Nat.div_div_eq_div_mul, ← Nat.pow_add]) (by omega) (by omega))
  refine zi_iload_n X dJ6_numberOfLeadingZeros_0f7a4_0 rfl rfl ?_
  refine zi_if_gt (tgt := 15) X dJ6_numberOfLeadingZeros_0f7a4_1 (by decide) (fun c_1 => ?_) (fun c_1 => (by first | exact absurd hpos c_1 | exact absurd c_1 hpos))
  refine zi_bipush (v := (nI 31)) X dJ6_numberOfLeadingZeros_0f7a4_15 (by decide) ?_
  refine zi_istore_n X dJ6_numberOfLeadingZeros_0f7a4_17 rfl (by decide) ?_
  refine zi_iload_n X dJ6_numberOfLeadingZeros_0f7a4_18 rfl rfl ?_
  refine zi_ldc_w X wk_J6_264 dJ6_numberOfLeadingZeros_0f7a4_19 ?_
  refine zi_icmp_lt (tgt := 33) X dJ6_numberOfLeadingZeros_0f7a4_22 (by decide) (fun c_22 => ?_) (fun c_22 => ?_)
  · have c : d < 65536 := (nI_ltI (by omega) (by decide)).mp c_22
    exact zi_sub (by repeat (first | exact trivial | refine And.intro rfl ?_)) (s33 0 d (by omega) (by rw [Nat.pow_zero, Nat.div_one]) (by omega) c)
  · have c : 65536 ≤ d := by
      by_cases q : d < 65536
      · exact absurd ((nI_ltI (by omega) (by decide)).mpr q) c_22
      · omega
    refine zi_iinc X dJ6_numberOfLeadingZeros_0f7a4_25 rfl rfl (by decide) ?_
    refine zi_iload_n X dJ6_numberOfLeadingZeros_0f7a4_28 rfl rfl ?_
    refine zi_bipush (v := (nI 16)) X dJ6_numberOfLeadingZeros_0f7a4_29 (by decide) ?_
    refine zi_iushr X dJ6_numberOfLeadingZeros_0f7a4_31 ?_
    refine zi_istore_n X dJ6_numberOfLeadingZeros_0f7a4_32 rfl (by decide) ?_
    rw [nI_ushr (by unfold CC; omega) (by decide), show Int32.ofInt (-16) = Int32.ofInt (-((16 : Nat) : Int)) from rfl, nI_sbn _ _ (by omega)]
    exact zi_sub (by repeat (first | exact trivial | refine And.intro rfl ?_)) (s33 16 (d / 2 ^ 16) (by omega) rfl (by omega) (by omega))
theorem tz_and {t q : Nat} (h : 2 ^ t * (2 * q + 1) < CC) : nI (CC - 1 - 2 ^ t * (2 * q + 1)) &&& nI (2 ^ t * (2 * q + 1) - 1) = nI (2 ^ t - 1) := by
  rw [fa_and]
  congr 1
  have hp : 0 < 2 ^ t := Nat.two_pow_pos t
  have e1 : 2 ^ t * (2 * q + 1) = 2 ^ (t + 1) * q + 2 ^ t := by rw [Nat.pow_succ, Nat.mul_add]; ac_rfl
  have e2 : 2 ^ t * (2 * q + 1) - 1 = 2 ^ (t + 1) * q + (2 ^ t - 1) := by omega
  have l1 : 2 ^ t < 2 ^ (t + 1) := by rw [Nat.pow_succ]; omega
  rw [e1] at h
  have e3 : CC - 1 - 2 ^ t * (2 * q + 1) = 2 ^ 32 - (2 ^ (t + 1) * q + 2 ^ t + 1) := by rw [e1]; unfold CC; omega
  apply Nat.eq_of_testBit_eq
  intro i
  rw [Nat.testBit_and, e3, Nat.testBit_two_pow_sub_succ h, e2, Nat.testBit_two_pow_mul_add _ l1, Nat.testBit_two_pow_mul_add _ (show 2 ^ t - 1 < 2 ^ (t + 1) by omega), Nat.testBit_two_pow_sub_one]
  have t32 : t < 32 := by
    have : 2 ^ t < 2 ^ 32 := by unfold CC at h; omega
    exact (Nat.pow_lt_pow_iff_right (by decide)).mp this
  by_cases c : i < t + 1
  · rw [if_pos c, if_pos c, Nat.testBit_two_pow]
    by_cases e : i < t
    · have : ¬ t = i := by omega
      simp [e, this]
      omega
    · simp [e]
  · rw [if_neg c, if_neg c]
    have : ¬ i < t := by omega
    simp [this]
theorem tz_ex : ∀ (n d : Nat), d < 2 ^ n → d ≠ 0 → ∃ t q, d = 2 ^ t * (2 * q + 1)
  | 0, d, h, h0 => by simp at h; omega
  | n + 1, d, h, h0 => by
    by_cases c : d % 2 = 1
    · exact ⟨0, d / 2, by rw [Nat.pow_zero]; omega⟩
    · obtain ⟨t, q, e⟩ := tz_ex n (d / 2) (by rw [Nat.pow_succ] at h; omega) (by omega)
      refine ⟨t + 1, q, ?_⟩
      rw [Nat.pow_succ, Nat.mul_assoc, Nat.mul_left_comm, ← e]
      omega
theorem n_ntz (l : Launch) (D : va_G) (cA : Nat → ClassId) {h : mH} {d t q : Nat} (hd : d < CC) (e : d = 2 ^ t * (2 * q + 1)) :
    mCi l yJ6_numberOfTrailingZeros_0f7a4 cJ6_numberOfTrailingZeros_0f7a4 2 .int (rmd 1) D (mT cA) [.int (nI d)] h (fun r h1 => h1 = h ∧ r = nI t) := by
  refine mEnter_i (by decide) (Nat.le_of_ble_eq_true rfl) rfl (fun z X Vz => ?_)
  have hp : 0 < 2 ^ t := Nat.two_pow_pos t
  have hge : 2 ^ t ≤ d := by rw [e, Nat.mul_add]; omega
  have t32 : t < 32 := by
    have : 2 ^ t < 2 ^ 32 := by unfold CC at hd; omega
    exact (Nat.pow_lt_pow_iff_right (by decide)).mp this
  refine zi_iload_n X dJ6_numberOfTrailingZeros_0f7a4_0 rfl rfl ?_
  refine zi_iconst (v := (-1)) X dJ6_numberOfTrailingZeros_0f7a4_1 (by decide) ?_
  refine zi_ixor X dJ6_numberOfTrailingZeros_0f7a4_2 ?_
  refine zi_iload_n X dJ6_numberOfTrailingZeros_0f7a4_3 rfl rfl ?_
  refine zi_iconst (v := (nI 1)) X dJ6_numberOfTrailingZeros_0f7a4_4 (by decide) ?_
  refine zi_isub X dJ6_numberOfTrailingZeros_0f7a4_5 ?_
  refine zi_iand X dJ6_numberOfTrailingZeros_0f7a4_6 ?_
  refine zi_istore_n X dJ6_numberOfTrailingZeros_0f7a4_7 rfl (by decide) ?_
  rw [nI_not hd, pk_sub (by omega)]
  have hand := tz_and (t := t) (q := q) (by rw [← e]; exact hd)
  rw [← e] at hand
  rw [hand]
  have t31 : 2 ^ t ≤ 2147483648 := Nat.pow_le_pow_right (by decide) (show t ≤ 31 by omega)
  -- t = n - 1 + s, i = 2^s - 1
  have fin : ∀ n s, n + s = t + 1 → 0 < s → s ≤ 2 → zM z 0 0 74 [some (.int (nI (2 ^ s - 1))), some (.int (nI n))] [] h := fun n s hn h0 h2 => by
    refine zi_iload_n X dJ6_numberOfTrailingZeros_0f7a4_74 rfl rfl ?_
    refine zi_iload_n X dJ6_numberOfTrailingZeros_0f7a4_75 rfl rfl ?_
    refine zi_iconst (v := (nI 1)) X dJ6_numberOfTrailingZeros_0f7a4_76 (by decide) ?_
    refine zi_iushr X dJ6_numberOfTrailingZeros_0f7a4_77 ?_
    refine zi_iadd X dJ6_numberOfTrailingZeros_0f7a4_78 ?_
    refine zi_ireturn X Vz dJ6_numberOfTrailingZeros_0f7a4_79 ?_
    refine ⟨rfl, ?_⟩
    have : s = 1 ∨ s = 2 := by omega
    rcases this with rfl | rfl
    · rw [nI_ushr (by decide) (by decide), nI_add, show (2 ^ 1 - 1) / 2 ^ 1 = 0 from rfl, show n + 0 = t by omega]
    · rw [nI_ushr (by decide) (by decide), nI_add, show (2 ^ 2 - 1) / 2 ^ 1 = 1 from rfl, show n + 1 = t by omega]
  have cmp : ∀ s k : Nat, s ≤ 31 → 1 ≤ k → k ≤ 16 → (nI (2 ^ k) < nI (2 ^ s - 1) ↔ k < s) := fun s k hs hk1 hk => by
    have h1 : 2 ^ s ≤ 2147483648 := Nat.pow_le_pow_right (by decide) hs
    have h2 : 2 ^ k ≤ 65536 := Nat.pow_le_pow_right (by decide) hk
    rw [nI_ltI (by omega) (by omega)]
    constructor
    · intro w
      have : 2 ^ k < 2 ^ s := Nat.lt_of_lt_of_le w (Nat.sub_le _ _)
      exact (Nat.pow_lt_pow_iff_right (by decide)).mp this
    · intro w
      have : 2 ^ (k + 1) ≤ 2 ^ s := Nat.pow_le_pow_right (by decide) w
      have h3 : 2 ^ 1 ≤ 2 ^ k := Nat.pow_le_pow_right (by decide) hk1
      rw [Nat.pow_succ] at this
      omega
  have shr : ∀ s k : Nat, s ≤ 31 → k ≤ s → k < 32 → ((nI (2 ^ s - 1)).toUInt32 >>> ((nI k).toUInt32 &&& Int32.toUInt32 31)).toInt32 = nI (2 ^ (s - k) - 1) := fun s k hs hk h3 => by
    have h1 : 2 ^ s ≤ 2147483648 := Nat.pow_le_pow_right (by decide) hs
    rw [nI_ushr (by unfold CC; omega) h3]
    congr 1
    have hA := Nat.two_pow_pos (s - k)
    have hB := Nat.two_pow_pos k
    have e : 2 ^ s = (2 ^ (s - k) - 1) * 2 ^ k + 2 ^ k := by
      rw [show 2 ^ s = 2 ^ (s - k) * 2 ^ k by rw [← Nat.pow_add]; congr 1; omega, Nat.sub_mul, Nat.one_mul]
      have := Nat.le_mul_of_pos_left (2 ^ k) hA
      omega
    rw [e, Nat.add_sub_assoc hB, Nat.mul_comm, Nat.mul_add_div hB, Nat.div_eq_of_lt (by omega), Nat.add_zero]
  have s64 : ∀ n s, n + s = t + 1 → 0 < s → s ≤ 4 → zM z 0 0 62 [some (.int (nI (2 ^ s - 1))), some (.int (nI n))] [] h := fun n s hn h0 h2 => by
    refine zi_iload_n X dJ6_numberOfTrailingZeros_0f7a4_62 rfl rfl ?_
    refine zi_iconst (v := (nI 4)) X dJ6_numberOfTrailingZeros_0f7a4_63 (by decide) ?_
    refine zi_icmp_le (tgt := 74) X dJ6_numberOfTrailingZeros_0f7a4_64 (by decide) (fun c_64 => ?_) (fun c_64 => ?_)
    · have c : ¬ 2 < s := fun w => absurd ((cmp s 2 (by omega) (by decide) (by decide)).mpr w) (Int32.not_lt.mpr c_64)
      exact fin n s hn h0 (by omega)
    · have c : 2 < s := (cmp s 2 (by omega) (by decide) (by decide)).mp (Int32.not_le.mp c_64)
      refine zi_iinc X dJ6_numberOfTrailingZeros_0f7a4_67 rfl rfl (by decide) ?_
      refine zi_iload_n X dJ6_numberOfTrailingZeros_0f7a4_70 rfl rfl ?_
      refine zi_iconst (v := (nI 2)) X dJ6_numberOfTrailingZeros_0f7a4_71 (by decide) ?_
      refine zi_iushr X dJ6_numberOfTrailingZeros_0f7a4_72 ?_
      refine zi_istore_n X dJ6_numberOfTrailingZeros_0f7a4_73 rfl (by decide) ?_
      rw [shr s 2 (by omega) (by omega) (by decide), show Int32.ofInt 2 = Int32.ofInt ((2 : Nat) : Int) from rfl, nI_adn]
      exact zi_sub (by repeat (first | exact trivial | refine And.intro rfl ?_)) (fin (n + 2) (s - 2) (by omega) (by omega) (by omega))
  have s49 : ∀ n s, n + s = t + 1 → 0 < s → s ≤ 8 → zM z 0 0 49 [some (.int (nI (2 ^ s - 1))), some (.int (nI n))] [] h := fun n s hn h0 h2 => by
    refine zi_iload_n X dJ6_numberOfTrailingZeros_0f7a4_49 rfl rfl ?_
    refine zi_bipush (v := (nI 16)) X dJ6_numberOfTrailingZeros_0f7a4_50 (by decide) ?_
    refine zi_icmp_le (tgt := 62) X dJ6_numberOfTrailingZeros_0f7a4_52 (by decide) (fun c_52 => ?_) (fun c_52 => ?_)
    · have c : ¬ 4 < s := fun w => absurd ((cmp s 4 (by omega) (by decide) (by decide)).mpr w) (Int32.not_lt.mpr c_52)
      exact s64 n s hn h0 (by omega)
    · have c : 4 < s := (cmp s 4 (by omega) (by decide) (by decide)).mp (Int32.not_le.mp c_52)
      refine zi_iinc X dJ6_numberOfTrailingZeros_0f7a4_55 rfl rfl (by decide) ?_
      refine zi_iload_n X dJ6_numberOfTrailingZeros_0f7a4_58 rfl rfl ?_
      refine zi_iconst (v := (nI 4)) X dJ6_numberOfTrailingZeros_0f7a4_59 (by decide) ?_
      refine zi_iushr X dJ6_numberOfTrailingZeros_0f7a4_60 ?_
      refine zi_istore_n X dJ6_numberOfTrailingZeros_0f7a4_61 rfl (by decide) ?_
      rw [shr s 4 (by omega) (by omega) (by decide), show Int32.ofInt 4 = Int32.ofInt ((4 : Nat) : Int) from rfl, nI_adn]
      exact zi_sub (by repeat (first | exact trivial | refine And.intro rfl ?_)) (s64 (n + 4) (s - 4) (by omega) (by omega) (by omega))
  have s34 : ∀ n s, n + s = t + 1 → 0 < s → s ≤ 16 → zM z 0 0 34 [some (.int (nI (2 ^ s - 1))), some (.int (nI n))] [] h := fun n s hn h0 h2 => by
    refine zi_iload_n X dJ6_numberOfTrailingZeros_0f7a4_34 rfl rfl ?_
    refine zi_sipush (v := (nI 256)) X dJ6_numberOfTrailingZeros_0f7a4_35 (by decide) ?_
    refine zi_icmp_le (tgt := 49) X dJ6_numberOfTrailingZeros_0f7a4_38 (by decide) (fun c_38 => ?_) (fun c_38 => ?_)
    · have c : ¬ 8 < s := fun w => absurd ((cmp s 8 (by omega) (by decide) (by decide)).mpr w) (Int32.not_lt.mpr c_38)
      exact s49 n s hn h0 (by omega)
    · have c : 8 < s := (cmp s 8 (by omega) (by decide) (by decide)).mp (Int32.not_le.mp c_38)
      refine zi_iinc X dJ6_numberOfTrailingZeros_0f7a4_41 rfl rfl (by decide) ?_
      refine zi_iload_n X dJ6_numberOfTrailingZeros_0f7a4_44 rfl rfl ?_
      refine zi_bipush (v := (nI 8)) X dJ6_numberOfTrailingZeros_0f7a4_45 (by decide) ?_
      refine zi_iushr X dJ6_numberOfTrailingZeros_0f7a4_47 ?_
      refine zi_istore_n X dJ6_numberOfTrailingZeros_0f7a4_48 rfl (by decide) ?_
      rw [shr s 8 (by omega) (by omega) (by decide), show Int32.ofInt 8 = Int32.ofInt ((8 : Nat) : Int) from rfl, nI_adn]
      exact zi_sub (by repeat (first | exact trivial | refine And.intro rfl ?_)) (s49 (n + 8) (s - 8) (by omega) (by omega) (by omega))
  refine zi_iload_n X dJ6_numberOfTrailingZeros_0f7a4_8 rfl rfl ?_
  refine zi_if_gt (tgt := 17) X dJ6_numberOfTrailingZeros_0f7a4_9 (by decide) (fun c_9 => ?_) (fun c_9 => ?_)
  · have t0 : 0 < t := by
      by_cases w : t = 0
      · rw [w] at c_9
        exact absurd c_9 (by decide)
      · omega
    refine zi_iconst (v := (nI 1)) X dJ6_numberOfTrailingZeros_0f7a4_17 (by decide) ?_
    refine zi_istore_n X dJ6_numberOfTrailingZeros_0f7a4_18 rfl (by decide) ?_
    refine zi_iload_n X dJ6_numberOfTrailingZeros_0f7a4_19 rfl rfl ?_
    refine zi_ldc_w X wk_J6_264 dJ6_numberOfTrailingZeros_0f7a4_20 ?_
    refine zi_icmp_le (tgt := 34) X dJ6_numberOfTrailingZeros_0f7a4_23 (by decide) (fun c_23 => ?_) (fun c_23 => ?_)
    · have c : ¬ 16 < t := fun w => absurd ((cmp t 16 (by omega) (by decide) (by decide)).mpr w) (Int32.not_lt.mpr c_23)
      exact zi_sub (by repeat (first | exact trivial | refine And.intro rfl ?_)) (s34 1 t (by omega) t0 (by omega))
    · have c : 16 < t := (cmp t 16 (by omega) (by decide) (by decide)).mp (Int32.not_le.mp c_23)
      refine zi_iinc X dJ6_numberOfTrailingZeros_0f7a4_26 rfl rfl (by decide) ?_
      refine zi_iload_n X dJ6_numberOfTrailingZeros_0f7a4_29 rfl rfl ?_
      refine zi_bipush (v := (nI 16)) X dJ6_numberOfTrailingZeros_0f7a4_30 (by decide) ?_
      refine zi_iushr X dJ6_numberOfTrailingZeros_0f7a4_32 ?_
      refine zi_istore_n X dJ6_numberOfTrailingZeros_0f7a4_33 rfl (by decide) ?_
      rw [shr t 16 (by omega) (by omega) (by decide), show Int32.ofInt 16 = Int32.ofInt ((16 : Nat) : Int) from rfl, nI_adn]
      exact zi_sub (by repeat (first | exact trivial | refine And.intro rfl ?_)) (s34 (1 + 16) (t - 16) (by omega) (by omega) (by omega))
  · have t0 : t = 0 := by
      by_cases w : t = 0
      · exact w
      · have h3 : 2 ^ 1 ≤ 2 ^ t := Nat.pow_le_pow_right (by decide) (by omega)
        exact absurd ((nI_ltI (a := 0) (b := 2 ^ t - 1) (by decide) (by omega)).mpr (by omega)) c_9
    refine zi_iload_n X dJ6_numberOfTrailingZeros_0f7a4_12 rfl rfl ?_
    refine zi_bipush (v := (nI 32)) X dJ6_numberOfTrailingZeros_0f7a4_13 (by decide) ?_
    refine zi_iand X dJ6_numberOfTrailingZeros_0f7a4_15 ?_
    refine zi_ireturn X Vz dJ6_numberOfTrailingZeros_0f7a4_16 ?_
    rw [t0]
    exact ⟨rfl, by decide⟩
section NUM8
variable {cA : Nat → ClassId} {h : mH} {a b c : Nat} {va vb vc : Int}
theorem n_bits (l : Launch) (D : va_G) (ha : h a = some (nE (cA 0) va)) (h0 : 0 ≤ va) (hv : va < cp 48) :
    mCi l yX7_bits cX7_bits 2 .int (rmd 2) D (mT cA) [.ref a] h (fun r h1 => h1 = h ∧ r = nI (bl va)) := by
  refine mEnter_i (by decide) (Nat.le_of_ble_eq_true rfl) rfl (fun z X Vz => ?_)
  refine zi_aload_n X dX7_bits_0 rfl rfl ?_
  refine zi_callSi X (n_ints l D ha) kc_X7_ints wm_X7_97 wst_X7_ints ⟨Nat.le_of_ble_eq_true rfl, Nat.le_of_ble_eq_true rfl⟩ rfl rfl (Nat.le_of_ble_eq_true rfl) ⟨Nat.le_of_ble_eq_true rfl, Nat.le_of_ble_eq_true rfl⟩ dX7_bits_1 (fun r h1 hp => ?_)
  obtain ⟨rfl, rfl⟩ := hp
  have hle := nzl_le va
  have hlt := nzl_lt h0 hv
  by_cases c : nzl va = 0
  · refine zi_istore_n X dX7_bits_4 rfl (by decide) ?_
    refine zi_iload_n X dX7_bits_5 rfl rfl ?_
    refine zi_if_ne (tgt := 13) X dX7_bits_6 (by decide) (fun c_6 => (by first | exact absurd (by rw [c]; rfl) c_6 | exact absurd c_6 (by rw [c]; rfl))) (fun c_6 => ?_)
    refine zi_iconst (v := (nI 0)) X dX7_bits_9 (by decide) ?_
    refine zi_goto (tgt := 26) X dX7_bits_10 (by decide) ?_
    refine zi_ireturn X Vz dX7_bits_26 ?_
    rw [c, cp_0] at hlt
    refine ⟨rfl, ?_⟩
    unfold bl
    rw [if_pos (by omega)]
  · obtain ⟨j, hj⟩ : ∃ j, nzl va = j + 1 := ⟨nzl va - 1, by omega⟩
    have hb := bl_top h0 hv hj
    refine zi_istore_n X dX7_bits_4 rfl (by decide) ?_
    refine zi_iload_n X dX7_bits_5 rfl rfl ?_
    refine zi_if_ne (tgt := 13) X dX7_bits_6 (by decide) (fun c_6 => ?_) (fun c_6 => (by first | exact absurd (by rw [nI_z (by omega)]; exact c) c_6 | exact absurd c_6 (by rw [nI_z (by omega)]; exact c)))
    refine zi_bipush (v := (nI 32)) X dX7_bits_13 (by decide) ?_
    refine zi_iload_n X dX7_bits_15 rfl rfl ?_
    refine zi_imul X dX7_bits_16 ?_
    refine zi_aload_n X dX7_bits_17 rfl rfl ?_
    refine zi_iload_n X dX7_bits_18 rfl rfl ?_
    refine zi_iconst (v := (nI 1)) X dX7_bits_19 (by decide) ?_
    refine zi_isub X dX7_bits_20 ?_
    refine zi_iald X 0 (by first | assumption | exact mup_self | (rw [mup_ne (by assumption)]; assumption) | (rw [mup_ne (by assumption)]; exact mup_self) | (rw [mup_ne (by assumption), mup_ne (by assumption)]; assumption)) rfl (by rw [hj, nI_pr]; exact vin (show j < 48 by omega) (by decide)) dX7_bits_21 ?_
    rw [hj, nI_pr, nf_rd (by omega)]
    refine zi_callSi X (n_nlz l D cA hb.1 (nd_lt va j)) kc_J6_numberOfLeadingZeros_0f7a4 wm_X7_101 wst_J6_numberOfLeadingZeros_0f7a4 ⟨Nat.le_of_ble_eq_true rfl, Nat.le_of_ble_eq_true rfl⟩ rfl rfl (Nat.le_of_ble_eq_true rfl) ⟨Nat.le_of_ble_eq_true rfl, Nat.le_of_ble_eq_true rfl⟩ dX7_bits_22 (fun r h1 hp => ?_)
    obtain ⟨rfl, rfl⟩ := hp
    refine zi_isub X dX7_bits_25 ?_
    refine zi_ireturn X Vz dX7_bits_26 ?_
    refine ⟨rfl, ?_⟩
    have hl : Nat.log2 (nd va j) < 32 := (Nat.log2_lt hb.1).mpr (nd_lt va j)
    rw [hb.2, pk_mul, pk_sub (by omega)]
    congr 1
    omega
/-- how many of the lowest bits are 0 -/
def tzI (v : Int) (e : Nat) : Prop := ∃ q : Int, v = 2 ^ e * (2 * q + 1)
theorem n_zeros (l : Launch) (D : va_G) (ha : h a = some (nE (cA 0) va)) (h0 : 0 < va) (hv : va < cp 48) :
    mCi l yX7_zeros cX7_zeros 2 .int (rmd 2) D (mT cA) [.ref a] h (fun r h1 => h1 = h ∧ ∃ e, e < 1536 ∧ r = nI e ∧ tzI va e) := by
  refine mEnter_i (by decide) (Nat.le_of_ble_eq_true rfl) rfl (fun z X Vz => ?_)
  refine zi_iconst (v := (nI 0)) X dX7_zeros_0 (by decide) ?_
  refine zi_istore_n X dX7_zeros_1 rfl (by decide) ?_
  suffices key : ∀ m k, k + m = 48 → (∀ j, j < k → nd va j = 0) → zM z 0 0 2 [some (.ref a), some (.int (nI k))] [] h from by
    exact zi_sub (by repeat (first | exact trivial | refine And.intro rfl ?_)) (key 48 0 rfl (fun j hj => absurd hj (Nat.not_lt_zero j)))
  intro m
  induction m with
  | zero =>
    intro k hk hz
    obtain rfl : k = 48 := by omega
    have := nm_z hz
    rw [Int.emod_eq_of_lt (by omega) hv] at this
    omega
  | succ m ih =>
    intro k hkm hz
    have hk : k < 48 := by omega
    refine zi_aload_n X dX7_zeros_2 rfl rfl ?_
    refine zi_iload_n X dX7_zeros_3 rfl rfl ?_
    refine zi_iald X 0 (by first | assumption | exact mup_self | (rw [mup_ne (by assumption)]; assumption) | (rw [mup_ne (by assumption)]; exact mup_self) | (rw [mup_ne (by assumption), mup_ne (by assumption)]; assumption)) rfl (vin hk (by decide)) dX7_zeros_4 ?_
    refine zi_if_ne (tgt := 14) X dX7_zeros_5 (by decide) (fun c_5 => ?_) (fun c_5 => ?_)
    · rw [nf_rd hk] at c_5
      have c : nd va k ≠ 0 := fun q => c_5 ((nI_0d (nd_lt _ _)).mpr q)
      obtain ⟨t, q, e⟩ := tz_ex 32 (nd va k) (nd_lt _ _) c
      refine zi_bipush (v := (nI 32)) X dX7_zeros_14 (by decide) ?_
      refine zi_iload_n X dX7_zeros_16 rfl rfl ?_
      refine zi_imul X dX7_zeros_17 ?_
      refine zi_aload_n X dX7_zeros_18 rfl rfl ?_
      refine zi_iload_n X dX7_zeros_19 rfl rfl ?_
      refine zi_iald X 0 (by first | assumption | exact mup_self | (rw [mup_ne (by assumption)]; assumption) | (rw [mup_ne (by assumption)]; exact mup_self) | (rw [mup_ne (by assumption), mup_ne (by assumption)]; assumption)) rfl (vin hk (by decide)) dX7_zeros_20 ?_
      rw [nf_rd hk]
      refine zi_callSi X (n_ntz l D cA (nd_lt va k) e) kc_J6_numberOfTrailingZeros_0f7a4 wm_X7_107 wst_J6_numberOfTrailingZeros_0f7a4 ⟨Nat.le_of_ble_eq_true rfl, Nat.le_of_ble_eq_true rfl⟩ rfl rfl (Nat.le_of_ble_eq_true rfl) ⟨Nat.le_of_ble_eq_true rfl, Nat.le_of_ble_eq_true rfl⟩ dX7_zeros_21 (fun r h1 hp => ?_)
      obtain ⟨rfl, rfl⟩ := hp
      refine zi_iadd X dX7_zeros_24 ?_
      refine zi_ireturn X Vz dX7_zeros_25 ?_
      have t32 : t < 32 := by
        have hp : 0 < 2 ^ t := Nat.two_pow_pos t
        have hge : 2 ^ t ≤ nd va k := by rw [e, Nat.mul_add]; omega
        have : 2 ^ t < 2 ^ 32 := Nat.lt_of_le_of_lt hge (nd_lt _ _)
        exact (Nat.pow_lt_pow_iff_right (by decide)).mp this
      refine ⟨rfl, 32 * k + t, by omega, by rw [pk_mul, nI_add], ?_⟩
      have h1 := nm_q va k
      rw [nm_z hz, Int.zero_add] at h1
      have h2 := nd_split va k
      have e2 : (nd va k : Int) = 2 ^ t * (2 * (q : Int) + 1) := by
        rw [e, Int.natCast_mul, tw_c]
        rfl
      refine ⟨va / cp (k + 1) * 2 ^ (31 - t) + q, ?_⟩
      rw [Int.pow_add, tw_32, Int.mul_assoc]
      refine h1.trans (congrArg (cp k * ·) ?_)
      have h3 : va / cp k = va / cp (k + 1) * (CC : Int) + 2 ^ t * (2 * (q : Int) + 1) := by rw [h2, e2]
      have h4 : (CC : Int) = 2 ^ t * (2 ^ (31 - t) * 2) := by
        rw [← Int.mul_assoc, ← Int.pow_add, show t + (31 - t) = 31 by omega]
        rfl
      rw [h3, h4]
      generalize va / cp (k + 1) = W
      generalize (2 : Int) ^ (31 - t) = M
      generalize (2 : Int) ^ t = N
      grind
    · rw [nf_rd hk] at c_5
      have c : nd va k = 0 := by
        by_cases q : nd va k = 0
        · exact q
        · exact absurd c_5 (fun w => q ((nI_0d (nd_lt _ _)).mp w))
      refine zi_iinc (v := nI (k + 1)) X dX7_zeros_8 rfl (nI_inc _) (by decide) ?_
      refine zi_goto (tgt := 2) X dX7_zeros_11 (by decide) ?_
      exact zi_sub (by repeat (first | exact trivial | refine And.intro rfl ?_)) (ih (k + 1) (by omega) (fun j hj => by
        by_cases e : j = k
        · rw [e, c]
        · exact hz j (by omega)))
end NUM8
