section AL3
variable {cA : Nat → ClassId} {h : mH} {lst e cap n : Nat} {mc : Int32} {f : Nat → Option Nat}
theorem shr1 {n : Nat} (h : n < 2147483648) : nI n >>> (nI 1 &&& 31) = nI (n / 2) := by
  apply Int32.toInt_inj.mp
  rw [nI_int (by omega : n / 2 < 2147483648)]
  have e1 : (nI 1 &&& 31 : Int32) = 1 := by decide
  rw [e1]
  show ((nI n) >>> (1 : Int32)).toBitVec.toInt = _
  rw [Int32.toBitVec_shiftRight]
  have e2 : (1 : Int32).toBitVec.smod 32 = 1#32 := by decide
  rw [e2]
  show ((nI n).toBitVec.sshiftRight (1#32).toNat).toInt = _
  rw [BitVec.toInt_sshiftRight, show (1#32).toNat = 1 from by decide]
  have e3 : (nI n).toBitVec.toInt = (n : Int) := nI_int h
  rw [e3, Int.shiftRight_eq_div_pow]
  omega
/-- grow: a row with more room -/
theorem al_grow2 (l : Launch) (D : va_G) {ci : Nat} {r : vw_C} (hc : vwCl[ci]? = some r) (hca : Cond.castable r.1 "java/lang/Object" ∈ mBad) (hs : isLs cA D h lst e cap n mc f) (hcn : cap = n) (hn : n ≤ 1050) (hne : lst ≠ e) (hel : ∀ i y, i < n → f i = some y → ∃ fs, h y = some (.inr (ci, fs))) (hE : cap = 0 → e = D.2 1000 0) :
    mCr l yJx4a65c_grow_92f84 cJx4a65c_grow_92f84 4 (.array (.object "java/lang/Object")) (rmc 4 1 2500) D (mT cA) [.ref lst, .int (nI (n + 1))] h (fun x h1 => h x = none ∧ ∃ cap', n < cap' ∧ cap' ≤ 1600 ∧ h1 = mup (mup h x (qA (cA 6) cap' (fun i => if i < n then f i else none))) lst (alO mc x n)) := by
  obtain ⟨h0, h1, h2, h3⟩ := hs
  subst hcn
  refine mEnter_r (by decide) (Nat.le_of_ble_eq_true rfl) rfl (fun z X Vz => ?_)
  refine zi_aload_n X dJx4a65c_grow_92f84_0 rfl rfl ?_
  refine zi_getf (C := RJx4a65c) (T := TJx4a65c) (N := 3) (ci := 3) X (by first | assumption | exact mup_self | (rw [mup_ne (by assumption)]; assumption) | (rw [mup_ne (by assumption)]; exact mup_self) | (rw [mup_ne (by assumption), mup_ne (by assumption)]; assumption)) rfl in_Jx4a65c 1 (by decide) wf_Jx4a65c_9 rfl rfl dJx4a65c_grow_92f84_1 ?_
  by_cases hz : cap = 0
  · have he := hE hz
    subst hz
    subst he
    refine zi_alenE X dJx4a65c_grow_92f84_4 ?_
    have c7 : ¬ (0 : Int32) < 0 := by decide
    refine zi_istore_n X dJx4a65c_grow_92f84_5 rfl (by decide) ?_
    refine zi_iload_n X dJx4a65c_grow_92f84_6 rfl rfl ?_
    refine zi_if_gt (tgt := 20) X dJx4a65c_grow_92f84_7 (by decide) (fun c_7 => (by first | exact absurd c7 c_7 | exact absurd c_7 c7)) (fun c_7 => ?_)
    refine zi_aload_n X dJx4a65c_grow_92f84_10 rfl rfl ?_
    refine zi_getf (C := RJx4a65c) (T := TJx4a65c) (N := 3) (ci := 3) X (by first | assumption | exact mup_self | (rw [mup_ne (by assumption)]; assumption) | (rw [mup_ne (by assumption)]; exact mup_self) | (rw [mup_ne (by assumption), mup_ne (by assumption)]; assumption)) rfl in_Jx4a65c 1 (by decide) wf_Jx4a65c_9 rfl rfl dJx4a65c_grow_92f84_11 ?_
    refine zi_getsE X wf_Jx4a65c_39 dJx4a65c_grow_92f84_14 ?_
    refine zi_acmp_eq (tgt := 45) X dJx4a65c_grow_92f84_17 (by decide) (fun _ => ?_) (fun q => absurd rfl q)
    refine zi_aload_n X dJx4a65c_grow_92f84_45 rfl rfl ?_
    refine zi_bipush (v := (nI 10)) X dJx4a65c_grow_92f84_46 (by decide) ?_
    refine zi_iload_n X dJx4a65c_grow_92f84_48 rfl rfl ?_
    refine zi_mmax X wm_Jx4a65c_79 (Nat.le_of_ble_eq_true rfl) (Nat.le_of_ble_eq_true rfl) ⟨(Nat.le_of_ble_eq_true rfl), (Nat.le_of_ble_eq_true rfl)⟩ dJx4a65c_grow_92f84_49 ?_
    have e9 : (if nI 10 < nI (0 + 1) then nI (0 + 1) else nI 10) = nI 10 := by decide
    rw [e9]
    refine zi_newq (t0 := 6) (N' := 10) X rfl wc_Jx4a65c_7 (zN_of X wb_obj) (by decide) rfl (Nat.le_of_ble_eq_true rfl) (Nat.le_of_ble_eq_true rfl) (Nat.le_of_ble_eq_true rfl) dJx4a65c_grow_92f84_52 (fun q hq => ?_)
    have hql : q ≠ lst := fun w => by rw [w, h0] at hq; cases hq
    have h9 : mup h q (qA (cA 6) 10 (fun _ => none)) lst = some (alO mc (D.2 1000 0) 0) := by rw [mup_ne (Ne.symm hql)]; exact h0
    refine zi_dup_x1 X dJx4a65c_grow_92f84_55 rfl rfl ?_
    refine zi_putf (C := RJx4a65c) (T := TJx4a65c) (N := 3) (ci := 3) (ty0 := tyJx4a65c) X (by first | assumption | exact mup_self | (rw [mup_ne (by assumption)]; assumption) | (rw [mup_ne (by assumption)]; exact mup_self) | (rw [mup_ne (by assumption), mup_ne (by assumption)]; assumption)) rfl in_Jx4a65c tyJx4a65c_ok nmJx4a65c 1 (by decide) wf_Jx4a65c_9 rfl rfl rfl rfl rfl (Nat.le_of_ble_eq_true rfl) dJx4a65c_grow_92f84_56 ?_
    refine zi_widen (k := 1) (n := 2500) (by omega) (by omega) ?_
    refine zi_areturn X Vz (by first | exact Or.inl ⟨_, rfl⟩ | exact Or.inr ⟨_, rfl⟩) dJx4a65c_grow_92f84_59 ?_
    refine ⟨hq, 10, by omega, by omega, ?_⟩
    rw [show (fun i => if i < 0 then f i else none) = (fun _ => (none : Option Nat)) from funext (fun i => if_neg (Nat.not_lt_zero _))]
    rfl
  · have h4 : h e = some (qA (cA 6) cap f) := by
      rcases h1 with h1 | h1
      · exact absurd h1.2 hz
      · exact h1
    have hv : Int32.ofNat cap = nI cap := rfl
    have c7 : 0 < nI cap := by
      rw [show (0 : Int32) = nI 0 from rfl, nI_ltI (by omega) (by omega)]
      omega
    refine zi_alen X 6 (by first | assumption | exact mup_self | (rw [mup_ne (by assumption)]; assumption) | (rw [mup_ne (by assumption)]; exact mup_self) | (rw [mup_ne (by assumption), mup_ne (by assumption)]; assumption)) rfl hv dJx4a65c_grow_92f84_4 ?_
    refine zi_istore_n X dJx4a65c_grow_92f84_5 rfl (by decide) ?_
    refine zi_iload_n X dJx4a65c_grow_92f84_6 rfl rfl ?_
    refine zi_if_gt (tgt := 20) X dJx4a65c_grow_92f84_7 (by decide) (fun c_7 => ?_) (fun c_7 => (by first | exact absurd c7 c_7 | exact absurd c_7 c7))
    refine zi_iload_n X dJx4a65c_grow_92f84_20 rfl rfl ?_
    refine zi_iload_n X dJx4a65c_grow_92f84_21 rfl rfl ?_
    refine zi_iload_n X dJx4a65c_grow_92f84_22 rfl rfl ?_
    refine zi_isub X dJx4a65c_grow_92f84_23 ?_
    rw [show nI (cap + 1) - nI cap = nI 1 by rw [nI_succ, Int32.add_comm, Int32.add_sub_cancel]; rfl]
    refine zi_iload_n X dJx4a65c_grow_92f84_24 rfl rfl ?_
    refine zi_iconst (v := (nI 1)) X dJx4a65c_grow_92f84_25 (by decide) ?_
    refine zi_ishr X dJx4a65c_grow_92f84_26 ?_
    rw [shr1 (by omega)]
    refine zi_callSi X (al_newLen l D (a := cap) (m := 1) (p := cap / 2) (by omega) (by omega) (by omega) (by omega)) kc_J8_newLength_cabcc wm_Jx4a65c_73 wst_J8_newLength_cabcc ⟨Nat.le_of_ble_eq_true rfl, Nat.le_of_ble_eq_true rfl⟩ rfl rfl (Nat.le_of_ble_eq_true rfl) ⟨Nat.le_of_ble_eq_true rfl, Nat.le_of_ble_eq_true rfl⟩ dJx4a65c_grow_92f84_27 (fun x g e1 => ?_)
    obtain ⟨e1, e2⟩ := e1
    subst e1 e2
    refine zi_istore_n X dJx4a65c_grow_92f84_30 rfl (by decide) ?_
    refine zi_aload_n X dJx4a65c_grow_92f84_31 rfl rfl ?_
    refine zi_aload_n X dJx4a65c_grow_92f84_32 rfl rfl ?_
    refine zi_getf (C := RJx4a65c) (T := TJx4a65c) (N := 3) (ci := 3) X (by first | assumption | exact mup_self | (rw [mup_ne (by assumption)]; assumption) | (rw [mup_ne (by assumption)]; exact mup_self) | (rw [mup_ne (by assumption), mup_ne (by assumption)]; assumption)) rfl in_Jx4a65c 1 (by decide) wf_Jx4a65c_9 rfl rfl dJx4a65c_grow_92f84_33 ?_
    refine zi_iload_n X dJx4a65c_grow_92f84_36 rfl rfl ?_
    have hle : cap + max 1 (cap / 2) ≤ 1600 ∧ cap < cap + max 1 (cap / 2) := by
      have h5 : max 1 (cap / 2) ≤ 525 := Nat.max_le.mpr ⟨by omega, by omega⟩
      have h6 : 1 ≤ max 1 (cap / 2) := Nat.le_max_left _ _
      omega
    obtain ⟨N, hN⟩ : ∃ N, N = cap + max 1 (cap / 2) := ⟨_, rfl⟩
    rw [← hN] at hle
    rw [← hN]
    refine zi_callSr X (al_copy l D hc hca h4 (N := N) (by omega) (by omega) hel) kc_J7_copyOf_1904c wm_Jx4a65c_66 wst_J7_copyOf_1904c ⟨Nat.le_of_ble_eq_true rfl, Nat.le_of_ble_eq_true rfl⟩ rfl rfl (Nat.le_of_ble_eq_true rfl) ⟨Nat.le_of_ble_eq_true rfl, Nat.le_of_ble_eq_true rfl⟩ dJx4a65c_grow_92f84_37 (fun x g1 e1 => ?_)
    obtain ⟨hx, e1⟩ := e1
    subst e1
    have hql : x ≠ lst := fun w => by rw [w, h0] at hx; cases hx
    have h9 : mup g x (qA (cA 6) N (fun i => if i < cap then f i else none)) lst = some (alO mc e cap) := by rw [mup_ne (Ne.symm hql)]; exact h0
    refine zi_dup_x1 X dJx4a65c_grow_92f84_40 rfl rfl ?_
    refine zi_putf (C := RJx4a65c) (T := TJx4a65c) (N := 3) (ci := 3) (ty0 := tyJx4a65c) X (by first | assumption | exact mup_self | (rw [mup_ne (by assumption)]; assumption) | (rw [mup_ne (by assumption)]; exact mup_self) | (rw [mup_ne (by assumption), mup_ne (by assumption)]; assumption)) rfl in_Jx4a65c tyJx4a65c_ok nmJx4a65c 1 (by decide) wf_Jx4a65c_9 rfl rfl rfl rfl rfl (Nat.le_of_ble_eq_true rfl) dJx4a65c_grow_92f84_41 ?_
    refine zi_areturn X Vz (by first | exact Or.inl ⟨_, rfl⟩ | exact Or.inr ⟨_, rfl⟩) dJx4a65c_grow_92f84_44 ?_
    exact ⟨hx, N, by omega, by omega, rfl⟩
theorem al_grow1 (l : Launch) (D : va_G) {ci : Nat} {r : vw_C} (hc : vwCl[ci]? = some r) (hca : Cond.castable r.1 "java/lang/Object" ∈ mBad) (hs : isLs cA D h lst e cap n mc f) (hcn : cap = n) (hn : n ≤ 1050) (hne : lst ≠ e) (hel : ∀ i y, i < n → f i = some y → ∃ fs, h y = some (.inr (ci, fs))) (hE : cap = 0 → e = D.2 1000 0) :
    mCr l yJx4a65c_grow_d5877 cJx4a65c_grow_d5877 1 (.array (.object "java/lang/Object")) (rmc 5 1 2500) D (mT cA) [.ref lst] h (fun x h1 => h x = none ∧ ∃ cap', n < cap' ∧ cap' ≤ 1600 ∧ h1 = mup (mup h x (qA (cA 6) cap' (fun i => if i < n then f i else none))) lst (alO mc x n)) := by
  have h0 := hs.1
  refine mEnter_r (by decide) (Nat.le_of_ble_eq_true rfl) rfl (fun z X Vz => ?_)
  refine zi_aload_n X dJx4a65c_grow_d5877_0 rfl rfl ?_
  refine zi_aload_n X dJx4a65c_grow_d5877_1 rfl rfl ?_
  refine zi_getf (C := RJx4a65c) (T := TJx4a65c) (N := 3) (ci := 3) X (by first | assumption | exact mup_self | (rw [mup_ne (by assumption)]; assumption) | (rw [mup_ne (by assumption)]; exact mup_self) | (rw [mup_ne (by assumption), mup_ne (by assumption)]; assumption)) rfl in_Jx4a65c 2 (by decide) wf_Jx4a65c_48 rfl rfl dJx4a65c_grow_d5877_2 ?_
  refine zi_iconst (v := (nI 1)) X dJx4a65c_grow_d5877_5 (by decide) ?_
  refine zi_iadd X dJx4a65c_grow_d5877_6 ?_
  rw [show nI n + nI 1 = nI (n + 1) from (nI_succ n).symm]
  refine zi_callVr X (al_grow2 l D hc hca hs hcn hn hne hel hE) kc_Jx4a65c_grow_92f84 wm_Jx4a65c_69 h0 rfl wim_Jx4a65c_grow_92f84 wse_Jx4a65c_grow_92f84 ⟨Nat.le_of_ble_eq_true rfl, Nat.le_of_ble_eq_true rfl⟩ rfl rfl (Nat.le_of_ble_eq_true rfl) ⟨Nat.le_of_ble_eq_true rfl, Nat.le_of_ble_eq_true rfl⟩ dJx4a65c_grow_d5877_7 (fun x g e1 => ?_)
  refine zi_areturn X Vz (by first | exact Or.inl ⟨_, rfl⟩ | exact Or.inr ⟨_, rfl⟩) dJx4a65c_grow_d5877_10 ?_
  exact e1
end AL3
