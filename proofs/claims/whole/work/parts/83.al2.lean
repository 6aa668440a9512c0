section AL2a
variable {z : mZ} {l : Launch} {R : Room} {D : va_G} {nL : Nat} {cells slots : Nat}
variable {cc : ByteArray} {own nm : String} {tys : List (ClassId × FieldType)} {ret : Option FieldType} {pc : Nat} {L : List (Option Value)} {st : List Value} {h : mH}
theorem zi_acmp_eqT (X : zX z l D cc own tys nL ret R nm) {x : Nat} {off : Int} (hdg : decode cc pc = .ok (.if_acmp .ne off, 3)) (ht : (pc : Int) + off = ((((pc : Int) + off).toNat : Nat) : Int)) (k : zM z cells slots (pc + 3) L st h) : zM z cells slots pc L (.ref x :: .ref x :: st) h := zi_acmp_ne X hdg ht (fun q => absurd rfl q) (fun _ => k)
end AL2a
section AL2
variable {cA : Nat → ClassId} {h : mH} {lst e cap n : Nat} {mc : Int32} {f : Nat → Option Nat}
theorem al_newLen (l : Launch) (D : va_G) {a m p : Nat} (ha : a < 1000000) (hm : m < 1000000) (hp : p < 1000000) (h0 : 0 < a + max m p) : mCi l yJ8_newLength_cabcc cJ8_newLength_cabcc 4 .int (rmd 2) D (mT cA) [.int (nI a), .int (nI m), .int (nI p)] h (fun x h1 => h1 = h ∧ x = nI (a + max m p)) := by
  refine mEnter_i (by decide) (Nat.le_of_ble_eq_true rfl) rfl (fun z X Vz => ?_)
  have e1 : (if nI m < nI p then nI p else nI m) = nI (max m p) := by
    by_cases c : m < p
    · rw [if_pos ((nI_ltI (by omega) (by omega)).mpr c), Nat.max_eq_right (by omega)]
    · rw [if_neg (fun q => c ((nI_ltI (by omega) (by omega)).mp q)), Nat.max_eq_left (by omega)]
  have hmx : max m p < 1000000 := Nat.max_lt.mpr ⟨hm, hp⟩
  obtain ⟨M, hM⟩ : ∃ M, M = max m p := ⟨_, rfl⟩
  rw [← hM] at e1 h0 hmx
  refine zi_iload_n X dJ8_newLength_cabcc_0 rfl rfl ?_
  refine zi_iload_n X dJ8_newLength_cabcc_1 rfl rfl ?_
  refine zi_iload_n X dJ8_newLength_cabcc_2 rfl rfl ?_
  refine zi_mmax X wm_J8_194 (Nat.le_of_ble_eq_true rfl) (Nat.le_of_ble_eq_true rfl) ⟨(Nat.le_of_ble_eq_true rfl), (Nat.le_of_ble_eq_true rfl)⟩ dJ8_newLength_cabcc_3 ?_
  rw [e1]
  refine zi_iadd X dJ8_newLength_cabcc_6 ?_
  rw [nI_add]
  refine zi_istore_n X dJ8_newLength_cabcc_7 rfl (by decide) ?_
  refine zi_iconst (v := (nI 0)) X dJ8_newLength_cabcc_8 (by decide) ?_
  refine zi_iload_n X dJ8_newLength_cabcc_9 rfl rfl ?_
  have c10 : ¬ nI (a + M) ≤ nI 0 := by
    rw [Int32.not_le, nI_ltI (by decide) (by omega)]
    exact h0
  have c16 : ¬ 2147483639 < nI (a + M) := by
    rw [show (2147483639 : Int32) = nI 2147483639 from rfl, nI_ltI (by decide) (by omega)]
    omega
  refine zi_icmp_ge (tgt := 21) X dJ8_newLength_cabcc_10 (by decide) (fun c_10 => (by first | exact absurd c10 c_10 | exact absurd c_10 c10)) (fun c_10 => ?_)
  refine zi_iload_n X dJ8_newLength_cabcc_13 rfl rfl ?_
  refine zi_ldc X wk_J8_200 dJ8_newLength_cabcc_14 ?_
  refine zi_icmp_gt (tgt := 21) X dJ8_newLength_cabcc_16 (by decide) (fun c_16 => (by first | exact absurd c16 c_16 | exact absurd c_16 c16)) (fun c_16 => ?_)
  refine zi_iload_n X dJ8_newLength_cabcc_19 rfl rfl ?_
  refine zi_ireturn X Vz dJ8_newLength_cabcc_20 ?_
  exact ⟨rfl, by rw [hM]⟩
/-- Arrays.copyOf of a row of objects of the class ci, to a greater one -/
theorem al_copy2 (l : Launch) (D : va_G) {ci : Nat} {r : vw_C} (hc : vwCl[ci]? = some r) (hca : Cond.castable r.1 "java/lang/Object" ∈ mBad) (he : h e = some (qA (cA 6) cap f)) {N : Nat} (hN : N ≤ 2500) (hcN : cap ≤ N) (hel : ∀ i y, i < cap → f i = some y → ∃ fs, h y = some (.inr (ci, fs))) :
    mCr l yJ7_copyOf_6403c cJ7_copyOf_6403c 4 (.array (.object "java/lang/Object")) (rmc 2 1 2500) D (mT cA) [.ref e, .int (nI N), .ref (D.2 1000 1)] h (fun x h1 => h x = none ∧ h1 = mup h x (qA (cA 6) N (fun i => if i < cap then f i else none))) := by
  refine mEnter_r (by decide) (Nat.le_of_ble_eq_true rfl) rfl (fun z X Vz => ?_)
  refine zi_aload_n X dJ7_copyOf_6403c_0 rfl rfl ?_
  refine zi_ldcM X wc_J7_110 dJ7_copyOf_6403c_1 ?_
  refine zi_acmp_eqT X dJ7_copyOf_6403c_3 (by decide) ?_
  refine zi_iload_n X dJ7_copyOf_6403c_6 rfl rfl ?_
  have hn0 : ¬ nI N < 0 := by
    rw [show (0 : Int32) = nI 0 from rfl, nI_ltI (by omega) (by decide)]
    omega
  refine zi_newq (t0 := 6) (N' := N) X rfl wc_J7_2 (zN_of X wb_obj) hn0 (nI_cl (by omega)) (by omega) (Nat.le_of_ble_eq_true rfl) (by show 0 + N ≤ 2500; omega) dJ7_copyOf_6403c_7 (fun q hq => ?_)
  refine zi_widen (k := 1) (n := 2500) (by omega) (by omega) ?_
  have hqe : q ≠ e := fun w => by rw [w, he] at hq; cases hq
  have he1 : mup h q (qA (cA 6) N (fun _ => none)) e = some (qA (cA 6) cap f) := by rw [mup_ne (Ne.symm hqe)]; exact he
  refine zi_goto (tgt := 24) X dJ7_copyOf_6403c_10 (by decide) ?_
  refine zi_astore_n X dJ7_copyOf_6403c_24 rfl (by decide) ?_
  refine zi_aload_n X dJ7_copyOf_6403c_25 rfl rfl ?_
  refine zi_iconst (v := (nI 0)) X dJ7_copyOf_6403c_26 (by decide) ?_
  refine zi_aload_n X dJ7_copyOf_6403c_27 rfl rfl ?_
  refine zi_iconst (v := (nI 0)) X dJ7_copyOf_6403c_28 (by decide) ?_
  refine zi_aload_n X dJ7_copyOf_6403c_29 rfl rfl ?_
  have hv : Int32.ofNat cap = nI cap := rfl
  refine zi_alen X 6 (by first | assumption | exact mup_self | (rw [mup_ne (by assumption)]; assumption) | (rw [mup_ne (by assumption)]; exact mup_self) | (rw [mup_ne (by assumption), mup_ne (by assumption)]; assumption)) rfl hv dJ7_copyOf_6403c_30 ?_
  refine zi_iload_n X dJ7_copyOf_6403c_31 rfl rfl ?_
  refine zi_mmin X wm_J7_304 (Nat.le_of_ble_eq_true rfl) (Nat.le_of_ble_eq_true rfl) ⟨(Nat.le_of_ble_eq_true rfl), (Nat.le_of_ble_eq_true rfl)⟩ dJ7_copyOf_6403c_32 ?_
  have hmin : (if nI N < nI cap then nI N else nI cap) = nI cap := if_neg (fun w => by rw [nI_ltI (by omega) (by omega)] at w; omega)
  rw [hmin]
  have hc0 : ¬ nI cap < 0 := by
    rw [show (0 : Int32) = nI 0 from rfl, nI_ltI (by omega) (by decide)]
    omega
  have h00 : ¬ nI 0 < 0 := by decide
  refine zi_copyq (t0 := 6) X rfl he1 mup_self wm_J7_150 hc hca h00 h00 hc0 (by rw [nI_cl (by decide), nI_cl (by omega)]; omega) (by rw [nI_cl (by decide), nI_cl (by omega)]; omega) (fun i hi y hy => ?_) (Nat.le_of_ble_eq_true rfl) (Nat.le_of_ble_eq_true rfl) dJ7_copyOf_6403c_35 ?_
  · rw [nI_cl (by omega)] at hi
    rw [nI_cl (by decide), Nat.zero_add] at hy
    obtain ⟨fs, hfs⟩ := hel i y hi hy
    refine ⟨fs, ?_⟩
    rw [mup_ne (fun w => by rw [w, hq] at hfs; cases hfs)]
    exact hfs
  · refine zi_aload_n X dJ7_copyOf_6403c_38 rfl rfl ?_
    refine zi_areturn X Vz (by first | exact Or.inl ⟨_, rfl⟩ | exact Or.inr ⟨_, rfl⟩) dJ7_copyOf_6403c_39 ?_
    refine ⟨hq, ?_⟩
    rw [mup_mup, nI_cl (by decide), nI_cl (by omega), show va_cpy f (fun _ => none) 0 0 cap = (fun i => if i < cap then f i else none) from funext (fun i => by unfold va_cpy; simp)]
theorem al_copy (l : Launch) (D : va_G) {ci : Nat} {r : vw_C} (hc : vwCl[ci]? = some r) (hca : Cond.castable r.1 "java/lang/Object" ∈ mBad) (he : h e = some (qA (cA 6) cap f)) {N : Nat} (hN : N ≤ 2500) (hcN : cap ≤ N) (hel : ∀ i y, i < cap → f i = some y → ∃ fs, h y = some (.inr (ci, fs))) :
    mCr l yJ7_copyOf_1904c cJ7_copyOf_1904c 2 (.array (.object "java/lang/Object")) (rmc 3 1 2500) D (mT cA) [.ref e, .int (nI N)] h (fun x h1 => h x = none ∧ h1 = mup h x (qA (cA 6) N (fun i => if i < cap then f i else none))) := by
  refine mEnter_r (by decide) (Nat.le_of_ble_eq_true rfl) rfl (fun z X Vz => ?_)
  refine zi_aload_n X dJ7_copyOf_1904c_0 rfl rfl ?_
  refine zi_iload_n X dJ7_copyOf_1904c_1 rfl rfl ?_
  refine zi_aload_n X dJ7_copyOf_1904c_2 rfl rfl ?_
  refine zi_getC (t0 := 6) X wm_J7_86 he rfl (Nat.le_of_ble_eq_true rfl) (Nat.le_of_ble_eq_true rfl) dJ7_copyOf_1904c_3 ?_
  refine zi_callSr X (al_copy2 l D hc hca he hN hcN hel) kc_J7_copyOf_6403c wm_J7_300 wst_J7_copyOf_6403c ⟨Nat.le_of_ble_eq_true rfl, Nat.le_of_ble_eq_true rfl⟩ rfl rfl (Nat.le_of_ble_eq_true rfl) ⟨Nat.le_of_ble_eq_true rfl, Nat.le_of_ble_eq_true rfl⟩ dJ7_copyOf_1904c_6 (fun x h1 e1 => ?_)
  refine zi_areturn X Vz (by first | exact Or.inl ⟨_, rfl⟩ | exact Or.inr ⟨_, rfl⟩) dJ7_copyOf_1904c_9 ?_
  exact e1
end AL2
