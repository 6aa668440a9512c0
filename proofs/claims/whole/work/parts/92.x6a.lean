/-! SturmRoots: what its throws need; its cells; its small methods -/
theorem xok_X6_254 : mXok RX6 250 254 "java/lang/IndexOutOfBoundsException" := ⟨wc_X6_250, win_java_lang_IndexOutOfBoundsException, by decide +kernel, by decide +kernel, by decide +kernel, by decide⟩
theorem xok_X6_65 : mXok RX6 61 65 "java/lang/IllegalArgumentException" := ⟨wc_X6_61, win_java_lang_IllegalArgumentException, by decide +kernel, by decide +kernel, by decide +kernel, by decide⟩
theorem xok_X6_86 : mXok RX6 82 86 "java/lang/IllegalStateException" := ⟨wc_X6_82, win_java_lang_IllegalStateException, by decide +kernel, by decide +kernel, by decide +kernel, by decide⟩
theorem xok_X6_267 : mXok RX6 263 267 "java/lang/ArithmeticException" := ⟨wc_X6_263, win_java_lang_ArithmeticException, by decide +kernel, by decide +kernel, by decide +kernel, by decide⟩
theorem xs_X6_252 : mStrs.any (fun q => q.1 == RX6 && q.2.1 == 252) = true := by decide +kernel
theorem xs_X6_255 : mStrs.any (fun q => q.1 == RX6 && q.2.1 == 255) = true := by decide +kernel
theorem xs_X6_259 : mStrs.any (fun q => q.1 == RX6 && q.2.1 == 259) = true := by decide +kernel
theorem xs_X6_261 : mStrs.any (fun q => q.1 == RX6 && q.2.1 == 261) = true := by decide +kernel
theorem xs_X6_265 : mStrs.any (fun q => q.1 == RX6 && q.2.1 == 265) = true := by decide +kernel
theorem xs_X6_270 : mStrs.any (fun q => q.1 == RX6 && q.2.1 == 270) = true := by decide +kernel
theorem xs_X6_273 : mStrs.any (fun q => q.1 == RX6 && q.2.1 == 273) = true := by decide +kernel
theorem xs_X6_275 : mStrs.any (fun q => q.1 == RX6 && q.2.1 == 275) = true := by decide +kernel
theorem xs_X6_281 : mStrs.any (fun q => q.1 == RX6 && q.2.1 == 281) = true := by decide +kernel
theorem xs_X6_63 : mStrs.any (fun q => q.1 == RX6 && q.2.1 == 63) = true := by decide +kernel
theorem xs_X6_84 : mStrs.any (fun q => q.1 == RX6 && q.2.1 == 84) = true := by decide +kernel
theorem xs_X6_90 : mStrs.any (fun q => q.1 == RX6 && q.2.1 == 90) = true := by decide +kernel
theorem xs_X6_92 : mStrs.any (fun q => q.1 == RX6 && q.2.1 == 92) = true := by decide +kernel
theorem xs_X6_203 : mStrs.any (fun q => q.1 == RX6 && q.2.1 == 203) = true := by decide +kernel
theorem xs_X6_218 : mStrs.any (fun q => q.1 == RX6 && q.2.1 == 218) = true := by decide +kernel
theorem xs_X6_223 : mStrs.any (fun q => q.1 == RX6 && q.2.1 == 223) = true := by decide +kernel
theorem xs_X6_225 : mStrs.any (fun q => q.1 == RX6 && q.2.1 == 225) = true := by decide +kernel
theorem xs_X6_234 : mStrs.any (fun q => q.1 == RX6 && q.2.1 == 234) = true := by decide +kernel
def eI : String := "java/lang/IndexOutOfBoundsException"
def eA : String := "java/lang/IllegalArgumentException"
def eS : String := "java/lang/IllegalStateException"
def eM : String := "java/lang/ArithmeticException"
def eN : String := "java/util/NoSuchElementException"
theorem i_in {x : Int32} {n : Nat} (h1 : ¬ x < 0) (h2 : x < nI n) (hn : n < 2147483648) : ∃ i, i < n ∧ x = nI i := by
  have a1 : 0 ≤ x.toInt := by
    have := Int32.not_lt.mp h1
    rw [fa_le] at this
    exact this
  rw [fa_lt, nI_int hn] at h2
  refine ⟨x.toInt.toNat, by omega, ?_⟩
  apply Int32.toInt_inj.mp
  rw [nI_int (by omega)]
  omega
theorem i_out {x : Int32} {n i : Nat} (hn : n < 2147483648) (hi : i < n) (e : x = nI i) : ¬ x < 0 ∧ x < nI n := by
  subst e
  exact ⟨by rw [show (0 : Int32) = nI 0 from rfl, nI_ltI (by omega) (by decide)]; omega, (nI_ltI (by omega) hn).mpr hi⟩
section REQ
variable {l : Launch} {D : va_G} {tys : List (ClassId × FieldType)} {h : mH}
theorem x_requireSlot (hl : l.stackTraces = false) {x : Int32} : mCx l yX6_requireSlot cX6_requireSlot 1 none (rmc 6 1 6) D tys [.int x] h (mFv h (fun h1 => h1 = h ∧ ∃ i, i < 5 ∧ x = nI i)) (fun E h1 => E = eI ∧ h1 = h ∧ ¬ ∃ i, i < 5 ∧ x = nI i) := by
  refine mEnter_x (by decide) (Nat.le_of_ble_eq_true rfl) rfl (fun z X Vz => ?_)
  refine zi_iload_n X dX6_requireSlot_0 rfl rfl ?_
  refine zi_if_lt (tgt := 9) X dX6_requireSlot_1 (by decide) (fun c_1 => ?_) (fun c_1 => ?_)
  · refine zi_throwS hl X Vz xok_X6_254 xs_X6_252 dX6_requireSlot_9 dX6_requireSlot_12 dX6_requireSlot_13 dX6_requireSlot_15 dX6_requireSlot_18 (Nat.le_of_ble_eq_true rfl) (Nat.le_of_ble_eq_true rfl) (Nat.le_of_ble_eq_true rfl) (Nat.le_of_ble_eq_true rfl) (Nat.le_of_ble_eq_true rfl) (Nat.le_of_ble_eq_true rfl) ⟨rfl, rfl, fun ⟨i, hi, e⟩ => (i_out (by decide) hi e).1 c_1⟩
  · refine zi_iload_n X dX6_requireSlot_4 rfl rfl ?_
    refine zi_iconst (v := (nI 5)) X dX6_requireSlot_5 (by decide) ?_
    refine zi_icmp_lt (tgt := 19) X dX6_requireSlot_6 (by decide) (fun c_6 => ?_) (fun c_6 => ?_)
    · refine zi_widen (k := 1) (n := 6) (by decide) (by decide) ?_
      refine zi_xreturn X Vz dX6_requireSlot_19 ?_
      exact ⟨rfl, i_in c_1 c_6 (by decide)⟩
    · refine zi_throwS hl X Vz xok_X6_254 xs_X6_252 dX6_requireSlot_9 dX6_requireSlot_12 dX6_requireSlot_13 dX6_requireSlot_15 dX6_requireSlot_18 (Nat.le_of_ble_eq_true rfl) (Nat.le_of_ble_eq_true rfl) (Nat.le_of_ble_eq_true rfl) (Nat.le_of_ble_eq_true rfl) (Nat.le_of_ble_eq_true rfl) (Nat.le_of_ble_eq_true rfl) ⟨rfl, rfl, fun ⟨i, hi, e⟩ => c_6 (i_out (by decide) hi e).2⟩
theorem x_requirePower (hl : l.stackTraces = false) {x : Int32} : mCx l yX6_requirePower cX6_requirePower 1 none (rmc 6 1 6) D tys [.int x] h (mFv h (fun h1 => h1 = h ∧ ∃ i, i < 7 ∧ x = nI i)) (fun E h1 => E = eI ∧ h1 = h ∧ ¬ ∃ i, i < 7 ∧ x = nI i) := by
  refine mEnter_x (by decide) (Nat.le_of_ble_eq_true rfl) rfl (fun z X Vz => ?_)
  refine zi_iload_n X dX6_requirePower_0 rfl rfl ?_
  refine zi_if_lt (tgt := 10) X dX6_requirePower_1 (by decide) (fun c_1 => ?_) (fun c_1 => ?_)
  · refine zi_throwS hl X Vz xok_X6_254 xs_X6_255 dX6_requirePower_10 dX6_requirePower_13 dX6_requirePower_14 dX6_requirePower_16 dX6_requirePower_19 (Nat.le_of_ble_eq_true rfl) (Nat.le_of_ble_eq_true rfl) (Nat.le_of_ble_eq_true rfl) (Nat.le_of_ble_eq_true rfl) (Nat.le_of_ble_eq_true rfl) (Nat.le_of_ble_eq_true rfl) ⟨rfl, rfl, fun ⟨i, hi, e⟩ => (i_out (by decide) hi e).1 c_1⟩
  · refine zi_iload_n X dX6_requirePower_4 rfl rfl ?_
    refine zi_bipush (v := (nI 7)) X dX6_requirePower_5 (by decide) ?_
    refine zi_icmp_lt (tgt := 20) X dX6_requirePower_7 (by decide) (fun c_7 => ?_) (fun c_7 => ?_)
    · refine zi_widen (k := 1) (n := 6) (by decide) (by decide) ?_
      refine zi_xreturn X Vz dX6_requirePower_20 ?_
      exact ⟨rfl, i_in c_1 c_7 (by decide)⟩
    · refine zi_throwS hl X Vz xok_X6_254 xs_X6_255 dX6_requirePower_10 dX6_requirePower_13 dX6_requirePower_14 dX6_requirePower_16 dX6_requirePower_19 (Nat.le_of_ble_eq_true rfl) (Nat.le_of_ble_eq_true rfl) (Nat.le_of_ble_eq_true rfl) (Nat.le_of_ble_eq_true rfl) (Nat.le_of_ble_eq_true rfl) (Nat.le_of_ble_eq_true rfl) ⟨rfl, rfl, fun ⟨i, hi, e⟩ => c_7 (i_out (by decide) hi e).2⟩
/-- a point -/
def isPt (n k : Int32) : Prop := -1000000 ≤ n.toInt ∧ n.toInt ≤ 1000000 ∧ 0 ≤ k.toInt ∧ k.toInt ≤ 12
theorem x_requirePoint (hl : l.stackTraces = false) {n k : Int32} : mCx l yX6_requirePoint cX6_requirePoint 2 none (rmc 6 1 6) D tys [.int n, .int k] h (mFv h (fun h1 => h1 = h ∧ isPt n k)) (fun E h1 => E = eA ∧ h1 = h ∧ ¬ isPt n k) := by
  refine mEnter_x (by decide) (Nat.le_of_ble_eq_true rfl) rfl (fun z X Vz => ?_)
  have a1 : (Int32.toInt (-1000000)) = -1000000 := by decide
  have a2 : (Int32.toInt 1000000) = 1000000 := by decide
  have a3 : (nI 12).toInt = 12 := by decide
  have a4 : (0 : Int32).toInt = 0 := by decide
  refine zi_iload_n X dX6_requirePoint_0 rfl rfl ?_
  refine zi_ldc_w X wk_X6_257 dX6_requirePoint_1 ?_
  refine zi_icmp_lt (tgt := 24) X dX6_requirePoint_4 (by decide) (fun c_4 => ?_) (fun c_4 => ?_)
  · refine zi_throwSW hl X Vz xok_X6_65 xs_X6_259 dX6_requirePoint_24 dX6_requirePoint_27 dX6_requirePoint_28 dX6_requirePoint_31 dX6_requirePoint_34 (Nat.le_of_ble_eq_true rfl) (Nat.le_of_ble_eq_true rfl) (Nat.le_of_ble_eq_true rfl) (Nat.le_of_ble_eq_true rfl) (Nat.le_of_ble_eq_true rfl) (Nat.le_of_ble_eq_true rfl) ⟨rfl, rfl, fun q => by have := (fa_lt _ _).mp c_4; rw [a1] at this; have := q.1; omega⟩
  · have b1 := (fa_le _ _).mp (Int32.not_lt.mp c_4)
    rw [a1] at b1
    refine zi_iload_n X dX6_requirePoint_7 rfl rfl ?_
    refine zi_ldc_w X wk_X6_258 dX6_requirePoint_8 ?_
    refine zi_icmp_gt (tgt := 24) X dX6_requirePoint_11 (by decide) (fun c_11 => ?_) (fun c_11 => ?_)
    · refine zi_throwSW hl X Vz xok_X6_65 xs_X6_259 dX6_requirePoint_24 dX6_requirePoint_27 dX6_requirePoint_28 dX6_requirePoint_31 dX6_requirePoint_34 (Nat.le_of_ble_eq_true rfl) (Nat.le_of_ble_eq_true rfl) (Nat.le_of_ble_eq_true rfl) (Nat.le_of_ble_eq_true rfl) (Nat.le_of_ble_eq_true rfl) (Nat.le_of_ble_eq_true rfl) ⟨rfl, rfl, fun q => by have := (fa_lt _ _).mp c_11; rw [a2] at this; have := q.2.1; omega⟩
    · have b2 := (fa_le _ _).mp (Int32.not_lt.mp c_11)
      rw [a2] at b2
      refine zi_iload_n X dX6_requirePoint_14 rfl rfl ?_
      refine zi_if_lt (tgt := 24) X dX6_requirePoint_15 (by decide) (fun c_15 => ?_) (fun c_15 => ?_)
      · refine zi_throwSW hl X Vz xok_X6_65 xs_X6_259 dX6_requirePoint_24 dX6_requirePoint_27 dX6_requirePoint_28 dX6_requirePoint_31 dX6_requirePoint_34 (Nat.le_of_ble_eq_true rfl) (Nat.le_of_ble_eq_true rfl) (Nat.le_of_ble_eq_true rfl) (Nat.le_of_ble_eq_true rfl) (Nat.le_of_ble_eq_true rfl) (Nat.le_of_ble_eq_true rfl) ⟨rfl, rfl, fun q => by have := (fa_lt _ _).mp c_15; rw [a4] at this; have := q.2.2.1; omega⟩
      · have b3 := (fa_le _ _).mp (Int32.not_lt.mp c_15)
        rw [a4] at b3
        refine zi_iload_n X dX6_requirePoint_18 rfl rfl ?_
        refine zi_bipush (v := (nI 12)) X dX6_requirePoint_19 (by decide) ?_
        refine zi_icmp_le (tgt := 35) X dX6_requirePoint_21 (by decide) (fun c_21 => ?_) (fun c_21 => ?_)
        · refine zi_widen (k := 1) (n := 6) (by decide) (by decide) ?_
          refine zi_xreturn X Vz dX6_requirePoint_35 ?_
          have b4 := (fa_le _ _).mp c_21
          rw [a3] at b4
          exact ⟨rfl, b1, b2, b3, b4⟩
        · refine zi_throwSW hl X Vz xok_X6_65 xs_X6_259 dX6_requirePoint_24 dX6_requirePoint_27 dX6_requirePoint_28 dX6_requirePoint_31 dX6_requirePoint_34 (Nat.le_of_ble_eq_true rfl) (Nat.le_of_ble_eq_true rfl) (Nat.le_of_ble_eq_true rfl) (Nat.le_of_ble_eq_true rfl) (Nat.le_of_ble_eq_true rfl) (Nat.le_of_ble_eq_true rfl) ⟨rfl, rfl, fun q => c_21 ((fa_le _ _).mpr (by rw [a3]; exact q.2.2.2))⟩
end REQ
