/-! the law: its loop -/
theorem and31 (x : Int32) : ∃ k, k < 32 ∧ x &&& nI 31 = nI k := by
  have hb : (x &&& nI 31).toBitVec.toNat < 32 := by
    rw [Int32.toBitVec_and, BitVec.toNat_and]
    exact Nat.lt_of_le_of_lt Nat.and_le_right (by decide)
  have ht : (x &&& nI 31).toInt = (((x &&& nI 31).toBitVec.toNat : Nat) : Int) := BitVec.toInt_eq_toNat_of_lt (by omega)
  refine ⟨(x &&& nI 31).toBitVec.toNat, hb, ?_⟩
  rw [iI_nat (x &&& nI 31).toBitVec.toNat, ← ht]
  exact (Int32.ofInt_toInt _).symm
theorem lt32 {P : Nat → Prop} (h0 : P 0) (h1 : P 1) (h2 : P 2) (h3 : P 3) (h4 : P 4) (h5 : P 5) (h6 : P 6) (h7 : P 7) (h8 : P 8) (h9 : P 9) (h10 : P 10) (h11 : P 11) (h12 : P 12) (h13 : P 13) (h14 : P 14) (h15 : P 15) (h16 : P 16) (h17 : P 17) (h18 : P 18) (h19 : P 19) (h20 : P 20) (h21 : P 21) (h22 : P 22) (h23 : P 23) (h24 : P 24) (h25 : P 25) (h26 : P 26) (h27 : P 27) (h28 : P 28) (h29 : P 29) (h30 : P 30) (h31 : P 31) : ∀ k, k < 32 → P k
  | 0, _ => h0
  | 1, _ => h1
  | 2, _ => h2
  | 3, _ => h3
  | 4, _ => h4
  | 5, _ => h5
  | 6, _ => h6
  | 7, _ => h7
  | 8, _ => h8
  | 9, _ => h9
  | 10, _ => h10
  | 11, _ => h11
  | 12, _ => h12
  | 13, _ => h13
  | 14, _ => h14
  | 15, _ => h15
  | 16, _ => h16
  | 17, _ => h17
  | 18, _ => h18
  | 19, _ => h19
  | 20, _ => h20
  | 21, _ => h21
  | 22, _ => h22
  | 23, _ => h23
  | 24, _ => h24
  | 25, _ => h25
  | 26, _ => h26
  | 27, _ => h27
  | 28, _ => h28
  | 29, _ => h29
  | 30, _ => h30
  | 31, _ => h31
  | n + 32, h => absurd h (Nat.not_lt.mpr (Nat.le_add_left 32 n))
/-- the two agree everywhere -/
def AgAll (l : Launch) (D : va_G) (cA : Nat → ClassId) (S : Nat → Nat → Nat) (Xa : XAd) (M : Nat → Nat → Nat) (Inv Inv2 : AState → Prop) : Prop :=
  (∀ a1 a2 a3 : Int32, Ag l D cA S Xa M Inv Inv2 yX6_set cX6_set 4 .int (rmc 7 3 18) Int32.toInt64 yX7_set_ cX7_set_ 4 .int (rmd 2) [eI, eA] [.int a1, .int a2, .int a3]) ∧
  (∀ a1 a2 : Int32, Ag l D cA S Xa M Inv Inv2 yX6_coefficient cX6_coefficient 3 .int (rmc 7 2 12) Int32.toInt64 yX7_coefficient cX7_coefficient 3 .int (rmd 2) [eI] [.int a1, .int a2]) ∧
  (∀ a1 : Int32, Ag l D cA S Xa M Inv Inv2 yX6_degree cX6_degree 2 .int (rmc 7 1 6) Int32.toInt64 yX7_degree__ cX7_degree__ 2 .int (rmd 2) [eI] [.int a1]) ∧
  (∀ a1 a2 : Int32, Ag l D cA S Xa M Inv Inv2 yX6_copy cX6_copy 3 .int (rmc 7 2 12) Int32.toInt64 yX7_copy__ cX7_copy__ 4 .int (rmd 3) [eI] [.int a1, .int a2]) ∧
  (∀ a1 a2 a3 : Int32, Ag l D cA S Xa M Inv Inv2 yX6_add cX6_add 5 .int (rmc 7 4 24) Int32.toInt64 yX7_add_ cX7_add_ 5 .int (rmd 3) [eI, eS] [.int a1, .int a2, .int a3]) ∧
  (∀ a1 a2 a3 : Int32, Ag l D cA S Xa M Inv Inv2 yX6_multiply cX6_multiply 8 .int (rmc 7 4 24) Int32.toInt64 yX7_multiply_ cX7_multiply_ 6 .int (rmd 3) [eI, eS] [.int a1, .int a2, .int a3]) ∧
  (∀ a1 a2 : Int32, Ag l D cA S Xa M Inv Inv2 yX6_derivative cX6_derivative 4 .int (rmc 7 3 18) Int32.toInt64 yX7_derivative cX7_derivative 4 .int (rmd 3) [eI, eS] [.int a1, .int a2]) ∧
  (∀ a1 a2 a3 : Int32, Ag l D cA S Xa M Inv Inv2 yX6_shift cX6_shift 6 .int (rmc 7 3 18) Int32.toInt64 yX7_shift cX7_shift 6 .int (rmd 3) [eI, eA, eS] [.int a1, .int a2, .int a3]) ∧
  (∀ a1 a2 : Int32, Ag l D cA S Xa M Inv Inv2 yX6_reflect cX6_reflect 4 .int (rmc 7 2 12) Int32.toInt64 yX7_reflect cX7_reflect 4 .int (rmd 3) [eI] [.int a1, .int a2]) ∧
  (∀ a1 a2 a3 : Int32, Ag l D cA S Xa M Inv Inv2 yX6_scale cX6_scale 7 .int (rmc 7 3 18) Int32.toInt64 yX7_scale cX7_scale 7 .int (rmd 3) [eI, eA, eS] [.int a1, .int a2, .int a3]) ∧
  (∀ a1 a2 a3 : Int32, Ag l D cA S Xa M Inv Inv2 yX6_gcd cX6_gcd 4 .int (rmc 8 4 24) Int32.toInt64 yX7_gcd cX7_gcd 4 .int (rmd 8) [eI, eS] [.int a1, .int a2, .int a3]) ∧
  (∀ a1 a2 : Int32, Ag l D cA S Xa M Inv Inv2 yX6_squareFreePart cX6_squareFreePart 3 .int (rmc 8 4 24) Int32.toInt64 yX7_squareFreePart cX7_squareFreePart 3 .int (rmd 9) [eI, eM, eS] [.int a1, .int a2]) ∧
  (∀ a1 : Int32, Ag l D cA S Xa M Inv Inv2 yX6_sturmLength cX6_sturmLength 2 .int (rmc 8 2 12) Int32.toInt64 yX7_sturmLength cX7_sturmLength 2 .int (rmd 9) [eI, eM] [.int a1]) ∧
  (∀ a1 a2 a3 : Int32, AgL l D cA S Xa M Inv Inv2 [eI, eM, eN] [.int a1, .int a2, .int a3]) ∧
  (∀ a1 a2 : Int32, Ag l D cA S Xa M Inv Inv2 yX6_sturmDegree cX6_sturmDegree 3 .int (rmc 8 3 18) Int32.toInt64 yX7_sturmDegree cX7_sturmDegree 3 .int (rmd 9) [eI, eM, eN] [.int a1, .int a2]) ∧
  (∀ a1 a2 a3 : Int32, Ag l D cA S Xa M Inv Inv2 yX6_signChanges cX6_signChanges 4 .int (rmc 8 3 18) Int32.toInt64 yX7_signChanges cX7_signChanges 8 .int (rmd 9) [eI, eA, eM] [.int a1, .int a2, .int a3]) ∧
  (∀ a1 a2 a3 : Int32, Ag l D cA S Xa M Inv Inv2 yX6_sign cX6_sign 4 .int (rmc 8 2 12) Int32.toInt64 yX7_sign_ cX7_sign_ 4 .int (rmd 4) [eI, eA] [.int a1, .int a2, .int a3]) ∧
  (∀ a1 a2 a3 a4 a5 : Int32, Ag l D cA S Xa M Inv Inv2 yX6_countDistinct cX6_countDistinct 6 .int (rmc 8 7 42) Int32.toInt64 yX7_countDistinct cX7_countDistinct 7 .int (rmd 10) [eI, eA, eM, eS] [.int a1, .int a2, .int a3, .int a4, .int a5]) ∧
  (∀ a1 a2 a3 a4 a5 : Int32, Ag l D cA S Xa M Inv Inv2 yX6_countAll cX6_countAll 8 .int (rmc 8 7 42) Int32.toInt64 yX7_countAll cX7_countAll 8 .int (rmd 10) [eI, eA, eM, eS] [.int a1, .int a2, .int a3, .int a4, .int a5]) ∧
  (∀ a1 : Int32, Ag l D cA S Xa M Inv Inv2 yX6_distinctRoots cX6_distinctRoots 2 .int (rmc 8 2 12) Int32.toInt64 yX7_distinctRoots cX7_distinctRoots 3 .int (rmd 10) [eI, eM] [.int a1]) ∧
  (∀ a1 : Int32, Ag l D cA S Xa M Inv Inv2 yX6_coefficientSignChanges cX6_coefficientSignChanges 2 .int (rmc 7 1 6) Int32.toInt64 yX7_coefficientSignChanges cX7_coefficientSignChanges 2 .int (rmd 3) [eI] [.int a1]) ∧
  (∀ a1 : Int32, Ag l D cA S Xa M Inv Inv2 yX6_isolate cX6_isolate 2 .int (rmc 10 4 2516) Int32.toInt64 yX7_isolate cX7_isolate 3 .int (rmd 9) [eI, eM] [.int a1]) ∧
  (Ag_intervals l D cA S Xa M Inv Inv2) ∧
  (∀ a1 : Int32, Ag l D cA S Xa M Inv Inv2 yX6_rootsIn cX6_rootsIn 2 .int (rmc 7 1 6) Int32.toInt64 yX7_rootsIn cX7_rootsIn 2 .int (rmd 2) [eI] [.int a1]) ∧
  (∀ a1 a2 : Int32, Ag l D cA S Xa M Inv Inv2 yX6_interval cX6_interval 4 .int (rmc 7 2 12) Int32.toInt64 yX7_interval cX7_interval 3 .int (rmd 2) [eI, eA] [.int a1, .int (a2.toUInt32 % 65536).toInt32]) ∧
  (∀ a1 : Int32, Ag l D cA S Xa M Inv Inv2 yX6_bisect cX6_bisect 3 .int (rmc 9 6 5020) Int32.toInt64 yX7_bisect cX7_bisect 7 .int (rmc 8 4 8192) [eI, eS] [.int a1]) ∧
  (∀ a1 a2 : Int32, Ag l D cA S Xa M Inv Inv2 yX6_refine cX6_refine 5 .int (rmc 9 3 18) Int32.toInt64 yX7_refine cX7_refine 8 .int (rmd 8) [eI, eA, eS] [.int a1, .int a2]) ∧
  (Ag_removeEmpty l D cA S Xa M Inv Inv2) ∧
  (∀ a1 : Int32, Ag l D cA S Xa M Inv Inv2 yX6_multiplicity cX6_multiplicity 5 .int (rmc 9 3 18) Int32.toInt64 yX7_multiplicity cX7_multiplicity 7 .int (rmd 9) [eI, eS] [.int a1]) ∧
  (∀ a1 : Int32, Ag l D cA S Xa M Inv Inv2 yX6_isTrue cX6_isTrue 7 .boolean (rmc 8 1 6) (fun r => if r = 0 then lN 0 else lN 1) yX7_isTrue cX7_isTrue 2 .boolean (rmd 2) [eI] [.int a1]) ∧
  (Ag_checksum l D cA S Xa M Inv Inv2)
section LOOP
variable {z : mZ} {l : Launch} {D : va_G} {cA : Nat → ClassId} {S : Nat → Nat → Nat} {Xa : XAd} {M : Nat → Nat → Nat} {Inv : Nat → AState → Prop} {scr sn ou : Nat} {sf : Nat → Int32}
theorem law_loop (X : zX z l D cL_law yL_law.cls (mT cA) 8 (some .boolean) room_1 yL_law.name) (hag : ∀ t, t < 512 → AgAll l D cA S Xa M (Inv t) (Inv (t + 1))) (hmono : ∀ t A, Inv t A → Inv (t + 1) A) (hB : zB z scr sn sf) (hsn : sn ≤ 3072) {c0 s0 : Nat} (hc0 : c0 ≤ 500000) (hs0 : s0 ≤ 400000) (fin : ∀ c s L h, c ≤ 603072 → s ≤ 7202922 → zM z c s 2210 L [] h) :
    ∀ w t h L5 L6, t + w = sn / 6 → LW cA D S Xa M (Inv t) ou h → zM z (c0 + 10 * t) (s0 + 13212 * t) 23 [some (.ref scr), some (.ref Xa.1), some (.ref (M 3 0)), some (.ref ou), some (.int (nI (6 * t))), L5, L6, none] [] h := by
  intro w
  induction w with
  | zero =>
    intro t h L5 L6 ht hw
    have e6 : nI sn - nI 6 = iI ((sn : Int) - 6) := iI_sub (sn : Int) 6
    refine zi_iload X dL_law_23 rfl ?_
    refine zi_aload_n X dL_law_25 rfl rfl ?_
    refine zi_slen X hB dL_law_26 ?_
    refine zi_bipush (v := (nI 6)) X dL_law_27 (by decide) ?_
    refine zi_isub X dL_law_29 ?_
    rw [e6]
    refine zi_icmp_gt (tgt := 2210) X dL_law_30 (by decide) (fun c_30 => ?_) (fun c_30 => (by first | exact absurd ((fa_lt _ _).mpr (by rw [iI_int (by omega), nI_int (by omega)]; omega)) c_30 | exact absurd c_30 ((fa_lt _ _).mpr (by rw [iI_int (by omega), nI_int (by omega)]; omega))))
    exact fin _ _ _ _ (by omega) (by omega)
  | succ w ih =>
    intro t h L5 L6 ht hw
    have e6 : nI sn - nI 6 = iI ((sn : Int) - 6) := iI_sub (sn : Int) 6
    have hi : 6 * t + 6 ≤ sn := by omega
    have hag := hag t (by omega)
    have nx : ∀ h' L5 L6, LW cA D S Xa M (Inv (t + 1)) ou h' → zM z (c0 + 10 * t + 10) (s0 + 13212 * t + 13212) 2204 [some (.ref scr), some (.ref Xa.1), some (.ref (M 3 0)), some (.ref ou), some (.int (nI (6 * t))), L5, L6, none] [] h' := fun h' L5 L6 hw' => by
      refine zi_iinc X dL_law_2204 rfl rfl (by decide) ?_
      refine zi_goto (tgt := 23) X dL_law_2207 (by decide) ?_
      have e : nI (6 * t) + Int32.ofInt 6 = nI (6 * (t + 1)) := by
        rw [show Int32.ofInt 6 = nI 6 from rfl, nI_add]
        rfl
      rw [e]
      have h1 := ih (t + 1) h' L5 L6 (by omega) hw'
      rw [show c0 + 10 * (t + 1) = c0 + 10 * t + 10 by omega, show s0 + 13212 * (t + 1) = s0 + 13212 * t + 13212 by omega] at h1
      exact h1
    refine zi_iload X dL_law_23 rfl ?_
    refine zi_aload_n X dL_law_25 rfl rfl ?_
    refine zi_slen X hB dL_law_26 ?_
    refine zi_bipush (v := (nI 6)) X dL_law_27 (by decide) ?_
    refine zi_isub X dL_law_29 ?_
    rw [e6]
    refine zi_icmp_gt (tgt := 2210) X dL_law_30 (by decide) (fun c_30 => (by first | exact absurd (fun q => by have := (fa_lt _ _).mp q; rw [iI_int (by omega), nI_int (by omega)] at this; omega) c_30 | exact absurd c_30 (fun q => by have := (fa_lt _ _).mp q; rw [iI_int (by omega), nI_int (by omega)] at this; omega))) (fun c_30 => ?_)
    refine zi_aload_n X dL_law_33 rfl rfl ?_
    refine zi_iload X dL_law_34 rfl ?_
    refine zi_sld X hB (vp_in_nI (by omega) (by omega)) dL_law_36 ?_
    refine zi_bipush (v := (nI 31)) X dL_law_37 (by decide) ?_
    refine zi_iand X dL_law_39 ?_
    rw [nI_cl (show 6 * t < 2147483648 by omega)]
    obtain ⟨k, hk, ek⟩ := and31 (sf (6 * t))
    rw [ek]
    clear ek
    revert k
    refine lt32 ?_ ?_ ?_ ?_ ?_ ?_ ?_ ?_ ?_ ?_ ?_ ?_ ?_ ?_ ?_ ?_ ?_ ?_ ?_ ?_ ?_ ?_ ?_ ?_ ?_ ?_ ?_ ?_ ?_ ?_ ?_ ?_
    · refine zi_tableIn (off := 140) (tgt := 180) X dL_law_40 (by decide) (by decide) rfl (by decide) ?_
      exact lc_set X (hag.1 (sf (6 * t + 1)) (sf (6 * t + 2)) (sf (6 * t + 3))) hB hi hsn (by omega) (by omega) hw nx
    · refine zi_tableIn (off := 220) (tgt := 260) X dL_law_40 (by decide) (by decide) rfl (by decide) ?_
      exact lc_coefficient X (hag.2.1 (sf (6 * t + 1)) (sf (6 * t + 2))) hB hi hsn (by omega) (by omega) hw nx
    · refine zi_tableIn (off := 288) (tgt := 328) X dL_law_40 (by decide) (by decide) rfl (by decide) ?_
      exact lc_degree X (hag.2.2.1 (sf (6 * t + 1))) hB hi hsn (by omega) (by omega) hw nx
    · refine zi_tableIn (off := 344) (tgt := 384) X dL_law_40 (by decide) (by decide) rfl (by decide) ?_
      exact lc_copy X (hag.2.2.2.1 (sf (6 * t + 1)) (sf (6 * t + 2))) hB hi hsn (by omega) (by omega) hw nx
    · refine zi_tableIn (off := 412) (tgt := 452) X dL_law_40 (by decide) (by decide) rfl (by decide) ?_
      exact lc_add X (hag.2.2.2.2.1 (sf (6 * t + 1)) (sf (6 * t + 2)) (sf (6 * t + 3))) hB hi hsn (by omega) (by omega) hw nx
    · refine zi_tableIn (off := 492) (tgt := 532) X dL_law_40 (by decide) (by decide) rfl (by decide) ?_
      exact lc_multiply X (hag.2.2.2.2.2.1 (sf (6 * t + 1)) (sf (6 * t + 2)) (sf (6 * t + 3))) hB hi hsn (by omega) (by omega) hw nx
    · refine zi_tableIn (off := 572) (tgt := 612) X dL_law_40 (by decide) (by decide) rfl (by decide) ?_
      exact lc_derivative X (hag.2.2.2.2.2.2.1 (sf (6 * t + 1)) (sf (6 * t + 2))) hB hi hsn (by omega) (by omega) hw nx
    · refine zi_tableIn (off := 640) (tgt := 680) X dL_law_40 (by decide) (by decide) rfl (by decide) ?_
      exact lc_shift X (hag.2.2.2.2.2.2.2.1 (sf (6 * t + 1)) (sf (6 * t + 2)) (sf (6 * t + 3))) hB hi hsn (by omega) (by omega) hw nx
    · refine zi_tableIn (off := 720) (tgt := 760) X dL_law_40 (by decide) (by decide) rfl (by decide) ?_
      exact lc_reflect X (hag.2.2.2.2.2.2.2.2.1 (sf (6 * t + 1)) (sf (6 * t + 2))) hB hi hsn (by omega) (by omega) hw nx
    · refine zi_tableIn (off := 788) (tgt := 828) X dL_law_40 (by decide) (by decide) rfl (by decide) ?_
      exact lc_scale X (hag.2.2.2.2.2.2.2.2.2.1 (sf (6 * t + 1)) (sf (6 * t + 2)) (sf (6 * t + 3))) hB hi hsn (by omega) (by omega) hw nx
    · refine zi_tableIn (off := 868) (tgt := 908) X dL_law_40 (by decide) (by decide) rfl (by decide) ?_
      exact lc_gcd X (hag.2.2.2.2.2.2.2.2.2.2.1 (sf (6 * t + 1)) (sf (6 * t + 2)) (sf (6 * t + 3))) hB hi hsn (by omega) (by omega) hw nx
    · refine zi_tableIn (off := 948) (tgt := 988) X dL_law_40 (by decide) (by decide) rfl (by decide) ?_
      exact lc_squareFreePart X (hag.2.2.2.2.2.2.2.2.2.2.2.1 (sf (6 * t + 1)) (sf (6 * t + 2))) hB hi hsn (by omega) (by omega) hw nx
    · refine zi_tableIn (off := 1016) (tgt := 1056) X dL_law_40 (by decide) (by decide) rfl (by decide) ?_
      exact lc_sturmLength X (hag.2.2.2.2.2.2.2.2.2.2.2.2.1 (sf (6 * t + 1))) hB hi hsn (by omega) (by omega) hw nx
    · refine zi_tableIn (off := 1072) (tgt := 1112) X dL_law_40 (by decide) (by decide) rfl (by decide) ?_
      exact lc_sturmCoefficient X (hag.2.2.2.2.2.2.2.2.2.2.2.2.2.1 (sf (6 * t + 1)) (sf (6 * t + 2)) (sf (6 * t + 3))) hB hi hsn (by omega) (by omega) hw nx
    · refine zi_tableIn (off := 1151) (tgt := 1191) X dL_law_40 (by decide) (by decide) rfl (by decide) ?_
      exact lc_sturmDegree X (hag.2.2.2.2.2.2.2.2.2.2.2.2.2.2.1 (sf (6 * t + 1)) (sf (6 * t + 2))) hB hi hsn (by omega) (by omega) hw nx
    · refine zi_tableIn (off := 1219) (tgt := 1259) X dL_law_40 (by decide) (by decide) rfl (by decide) ?_
      exact lc_signChanges X (hag.2.2.2.2.2.2.2.2.2.2.2.2.2.2.2.1 (sf (6 * t + 1)) (sf (6 * t + 2)) (sf (6 * t + 3))) hB hi hsn (by omega) (by omega) hw nx
    · refine zi_tableIn (off := 1299) (tgt := 1339) X dL_law_40 (by decide) (by decide) rfl (by decide) ?_
      exact lc_sign X (hag.2.2.2.2.2.2.2.2.2.2.2.2.2.2.2.2.1 (sf (6 * t + 1)) (sf (6 * t + 2)) (sf (6 * t + 3))) hB hi hsn (by omega) (by omega) hw nx
    · refine zi_tableIn (off := 1379) (tgt := 1419) X dL_law_40 (by decide) (by decide) rfl (by decide) ?_
      exact lc_countDistinct X (hag.2.2.2.2.2.2.2.2.2.2.2.2.2.2.2.2.2.1 (sf (6 * t + 1)) (sf (6 * t + 2)) (sf (6 * t + 3)) (sf (6 * t + 4)) (sf (6 * t + 5))) hB hi hsn (by omega) (by omega) hw nx
    · refine zi_tableIn (off := 1483) (tgt := 1523) X dL_law_40 (by decide) (by decide) rfl (by decide) ?_
      exact lc_countAll X (hag.2.2.2.2.2.2.2.2.2.2.2.2.2.2.2.2.2.2.1 (sf (6 * t + 1)) (sf (6 * t + 2)) (sf (6 * t + 3)) (sf (6 * t + 4)) (sf (6 * t + 5))) hB hi hsn (by omega) (by omega) hw nx
    · refine zi_tableIn (off := 1587) (tgt := 1627) X dL_law_40 (by decide) (by decide) rfl (by decide) ?_
      exact lc_distinctRoots X (hag.2.2.2.2.2.2.2.2.2.2.2.2.2.2.2.2.2.2.2.1 (sf (6 * t + 1))) hB hi hsn (by omega) (by omega) hw nx
    · refine zi_tableIn (off := 1643) (tgt := 1683) X dL_law_40 (by decide) (by decide) rfl (by decide) ?_
      exact lc_coefficientSignChanges X (hag.2.2.2.2.2.2.2.2.2.2.2.2.2.2.2.2.2.2.2.2.1 (sf (6 * t + 1))) hB hi hsn (by omega) (by omega) hw nx
    · refine zi_tableIn (off := 1699) (tgt := 1739) X dL_law_40 (by decide) (by decide) rfl (by decide) ?_
      exact lc_isolate X (hag.2.2.2.2.2.2.2.2.2.2.2.2.2.2.2.2.2.2.2.2.2.1 (sf (6 * t + 1))) hB hi hsn (by omega) (by omega) hw nx
    · refine zi_tableIn (off := 1755) (tgt := 1795) X dL_law_40 (by decide) (by decide) rfl (by decide) ?_
      exact lc_intervals X (hag.2.2.2.2.2.2.2.2.2.2.2.2.2.2.2.2.2.2.2.2.2.2.1) (by omega) (by omega) hw nx
    · refine zi_tableIn (off := 1768) (tgt := 1808) X dL_law_40 (by decide) (by decide) rfl (by decide) ?_
      exact lc_rootsIn X (hag.2.2.2.2.2.2.2.2.2.2.2.2.2.2.2.2.2.2.2.2.2.2.2.1 (sf (6 * t + 1))) hB hi hsn (by omega) (by omega) hw nx
    · refine zi_tableIn (off := 1824) (tgt := 1864) X dL_law_40 (by decide) (by decide) rfl (by decide) ?_
      exact lc_interval X (hag.2.2.2.2.2.2.2.2.2.2.2.2.2.2.2.2.2.2.2.2.2.2.2.2.1 (sf (6 * t + 1)) (sf (6 * t + 2))) hB hi hsn (by omega) (by omega) hw nx
    · refine zi_tableIn (off := 1894) (tgt := 1934) X dL_law_40 (by decide) (by decide) rfl (by decide) ?_
      exact lc_bisect X (hag.2.2.2.2.2.2.2.2.2.2.2.2.2.2.2.2.2.2.2.2.2.2.2.2.2.1 (sf (6 * t + 1))) hB hi hsn (by omega) (by omega) hw nx
    · refine zi_tableIn (off := 1950) (tgt := 1990) X dL_law_40 (by decide) (by decide) rfl (by decide) ?_
      exact lc_refine X (hag.2.2.2.2.2.2.2.2.2.2.2.2.2.2.2.2.2.2.2.2.2.2.2.2.2.2.1 (sf (6 * t + 1)) (sf (6 * t + 2))) hB hi hsn (by omega) (by omega) hw nx
    · refine zi_tableIn (off := 2018) (tgt := 2058) X dL_law_40 (by decide) (by decide) rfl (by decide) ?_
      exact lc_removeEmpty X (hag.2.2.2.2.2.2.2.2.2.2.2.2.2.2.2.2.2.2.2.2.2.2.2.2.2.2.2.1) (by omega) (by omega) hw nx
    · refine zi_tableIn (off := 2031) (tgt := 2071) X dL_law_40 (by decide) (by decide) rfl (by decide) ?_
      exact lc_multiplicity X (hag.2.2.2.2.2.2.2.2.2.2.2.2.2.2.2.2.2.2.2.2.2.2.2.2.2.2.2.2.1 (sf (6 * t + 1))) hB hi hsn (by omega) (by omega) hw nx
    · refine zi_tableIn (off := 2087) (tgt := 2127) X dL_law_40 (by decide) (by decide) rfl (by decide) ?_
      exact lc_isTrue X (hag.2.2.2.2.2.2.2.2.2.2.2.2.2.2.2.2.2.2.2.2.2.2.2.2.2.2.2.2.2.1 (sf (6 * t + 1))) hB hi hsn (by omega) (by omega) hw nx
    · refine zi_tableIn (off := 2150) (tgt := 2190) X dL_law_40 (by decide) (by decide) rfl (by decide) ?_
      exact lc_checksum X (hag.2.2.2.2.2.2.2.2.2.2.2.2.2.2.2.2.2.2.2.2.2.2.2.2.2.2.2.2.2.2) (by omega) (by omega) hw nx
    · refine zi_tableOut (tgt := 2204) X dL_law_40 (Or.inr (by decide)) (by decide) ?_
      exact zi_widen (k := c0 + 10 * t + 10) (n := s0 + 13212 * t + 13212) (by omega) (by omega) (nx h L5 L6 (by obtain ⟨a, b, c, d, e, p1, p2, p3⟩ := hw; exact ⟨a, b, c, d, e, p1, hmono t _ p2, p3⟩))
end LOOP
