section AL5
variable {cA : Nat → ClassId} {h : mH} {lst e cap n : Nat} {mc : Int32} {f : Nat → Option Nat}
def delF (f : Nat → Option Nat) (i : Nat) : Nat → Option Nat := fun j => if j < i then f j else f (j + 1)
def remP (cA : Nat → ClassId) (D : va_G) (h : mH) (lst e cap n i : Nat) (f : Nat → Option Nat) (h1 : mH) : Prop := ∃ mc' f', isLs cA D h1 lst e cap (n - 1) mc' f' ∧ (∀ j, j < n - 1 → f' j = delF f i j) ∧ h1 e = some (qA (cA 6) cap f') ∧ hsame [lst, e] h1 h
theorem al_fast (l : Launch) (D : va_G) {ci : Nat} {r : vw_C} (hc : vwCl[ci]? = some r) (hca : Cond.castable r.1 "java/lang/Object" ∈ mBad) (h0 : h lst = some (alO mc e n)) (h3 : h e = some (qA (cA 6) cap f)) (h4 : n ≤ cap) (h5 : cap ≤ 1600) (hel : ∀ i y, i < n → f i = some y → ∃ fs, h y = some (.inr (ci, fs))) (hly : ∀ i y, i < n → f i = some y → y ≠ lst) {i : Nat} (hi : i < n) :
    mCv l yJx4a65c_fastRemove_b59b0 cJx4a65c_fastRemove_b59b0 4 (rmd 2) D (mT cA) [.ref lst, .ref e, .int (nI i)] h (remP cA D h lst e cap n i f) := by
  have hne : lst ≠ e := fun w => by rw [w, h3] at h0; cases h0
  refine mEnter_v (by decide) (Nat.le_of_ble_eq_true rfl) rfl (fun z X Vz => ?_)
  refine zi_aload_n X dJx4a65c_fastRemove_b59b0_0 rfl rfl ?_
  refine zi_dup X dJx4a65c_fastRemove_b59b0_1 rfl ?_
  refine zi_getfU (C := RJx4a65c) (T := TJx4a65c) (N := 3) (ci := 3) X (by first | assumption | exact mup_self | (rw [mup_ne (by assumption)]; assumption) | (rw [mup_ne (by assumption)]; exact mup_self) | (rw [mup_ne (by assumption), mup_ne (by assumption)]; assumption)) rfl in_Jx4a65c 0 (by decide) wf_Jx4a65c_63 wx_same rfl dJx4a65c_fastRemove_b59b0_2 ?_
  refine zi_iconst (v := (nI 1)) X dJx4a65c_fastRemove_b59b0_5 (by decide) ?_
  refine zi_iadd X dJx4a65c_fastRemove_b59b0_6 ?_
  refine zi_putfU (C := RJx4a65c) (T := TJx4a65c) (N := 3) (ci := 3) (ty0 := tyJx4a65c) X (by first | assumption | exact mup_self | (rw [mup_ne (by assumption)]; assumption) | (rw [mup_ne (by assumption)]; exact mup_self) | (rw [mup_ne (by assumption), mup_ne (by assumption)]; assumption)) rfl in_Jx4a65c tyJx4a65c_ok nmJx4a65c 0 (by decide) wf_Jx4a65c_63 wx_same rfl rfl rfl rfl (Nat.le_of_ble_eq_true rfl) dJx4a65c_fastRemove_b59b0_7 ?_
  have es : (List.set [Value.int mc, .ref e, .int (nI n)] 0 (.int (mc + nI 1))) = [Value.int (mc + nI 1), .ref e, .int (nI n)] := rfl
  rw [es]
  refine zi_aload_n X dJx4a65c_fastRemove_b59b0_10 rfl rfl ?_
  refine zi_getf (C := RJx4a65c) (T := TJx4a65c) (N := 3) (ci := 3) X (by first | assumption | exact mup_self | (rw [mup_ne (by assumption)]; assumption) | (rw [mup_ne (by assumption)]; exact mup_self) | (rw [mup_ne (by assumption), mup_ne (by assumption)]; assumption)) rfl in_Jx4a65c 2 (by decide) wf_Jx4a65c_48 rfl rfl dJx4a65c_fastRemove_b59b0_11 ?_
  refine zi_iconst (v := (nI 1)) X dJx4a65c_fastRemove_b59b0_14 (by decide) ?_
  refine zi_isub X dJx4a65c_fastRemove_b59b0_15 ?_
  rw [show nI n - nI 1 = nI (n - 1) from nI_sub (by omega)]
  have h3' : mup h lst (alO (mc + nI 1) e n) e = some (qA (cA 6) cap f) := by rw [mup_ne (Ne.symm hne)]; exact h3
  have g0 : mup h lst (alO (mc + nI 1) e n) lst = some (alO (mc + nI 1) e n) := mup_self
  have k9 : hsame [lst, e] (mup h lst (alO (mc + nI 1) e n)) h := hsame_up (hsame_rf _ _) (by simp)
  have hel' : ∀ j y, j < n → f j = some y → ∃ fs, mup h lst (alO (mc + nI 1) e n) y = some (.inr (ci, fs)) := fun j y hj hy => by
    obtain ⟨fs, hfs⟩ := hel j y hj hy
    exact ⟨fs, by rw [mup_ne (hly j y hj hy)]; exact hfs⟩
  show zM z _ _ _ _ _ (mup h lst (alO (mc + nI 1) e n))
  generalize mup h lst (alO (mc + nI 1) e n) = g at h3' g0 k9 hel' ⊢
  have tail : ∀ (g1 : mH) (f1 : Nat → Option Nat), g1 lst = some (alO (mc + nI 1) e n) → g1 e = some (qA (cA 6) cap f1) → (∀ j, j < n - 1 → f1 j = delF f i j) → hsame [lst, e] g1 h → zM z 0 0 34 [some (.ref lst), some (.ref e), some (.int (nI i)), some (.int (nI (n - 1)))] [] g1 := by
    intro g1 f1 k1 k2 k3 k4
    refine zi_aload_n X dJx4a65c_fastRemove_b59b0_34 rfl rfl ?_
    refine zi_aload_n X dJx4a65c_fastRemove_b59b0_35 rfl rfl ?_
    refine zi_iload_n X dJx4a65c_fastRemove_b59b0_36 rfl rfl ?_
    refine zi_dup_x1 X dJx4a65c_fastRemove_b59b0_37 rfl rfl ?_
    refine zi_putf (C := RJx4a65c) (T := TJx4a65c) (N := 3) (ci := 3) (ty0 := tyJx4a65c) X (by first | assumption | exact mup_self | (rw [mup_ne (by assumption)]; assumption) | (rw [mup_ne (by assumption)]; exact mup_self) | (rw [mup_ne (by assumption), mup_ne (by assumption)]; assumption)) rfl in_Jx4a65c tyJx4a65c_ok nmJx4a65c 2 (by decide) wf_Jx4a65c_48 rfl rfl rfl rfl rfl (Nat.le_of_ble_eq_true rfl) dJx4a65c_fastRemove_b59b0_38 ?_
    refine zi_aconst_null X dJx4a65c_fastRemove_b59b0_41 ?_
    have k2' : mup g1 lst (alO (mc + nI 1) e (n - 1)) e = some (qA (cA 6) cap f1) := by rw [mup_ne (Ne.symm hne)]; exact k2
    refine zi_astqN X 6 k2' rfl (vin (by omega) (by omega)) dJx4a65c_fastRemove_b59b0_42 ?_
    rw [nI_cl (by omega)]
    refine zi_return X Vz dJx4a65c_fastRemove_b59b0_43 ?_
    refine ⟨mc + nI 1, va_up f1 (n - 1) none, ⟨?_, Or.inr mup_self, by omega, h5⟩, fun j hj => ?_, mup_self, hsame_up (hsame_up k4 (by simp)) (by simp)⟩
    · rw [mup_ne hne]; exact mup_self
    · unfold va_up
      rw [if_neg (by omega)]
      exact k3 j hj
  refine zi_dup X dJx4a65c_fastRemove_b59b0_16 rfl ?_
  refine zi_istore_n X dJx4a65c_fastRemove_b59b0_17 rfl (by decide) ?_
  refine zi_iload_n X dJx4a65c_fastRemove_b59b0_18 rfl rfl ?_
  by_cases c : n - 1 ≤ i
  · have c19 : nI (n - 1) ≤ nI i := Int32.not_lt.mp (fun q => by rw [nI_ltI (by omega) (by omega)] at q; omega)
    refine zi_icmp_le (tgt := 34) X dJx4a65c_fastRemove_b59b0_19 (by decide) (fun c_19 => ?_) (fun c_19 => (by first | exact absurd c19 c_19 | exact absurd c_19 c19))
    exact tail g f g0 h3' (fun j hj => by unfold delF; rw [if_pos (by omega)]) k9
  · have c19 : ¬ nI (n - 1) ≤ nI i := fun q => Int32.not_lt.mpr q ((nI_ltI (by omega) (by omega)).mpr (by omega))
    refine zi_icmp_le (tgt := 34) X dJx4a65c_fastRemove_b59b0_19 (by decide) (fun c_19 => (by first | exact absurd c19 c_19 | exact absurd c_19 c19)) (fun c_19 => ?_)
    refine zi_aload_n X dJx4a65c_fastRemove_b59b0_22 rfl rfl ?_
    refine zi_iload_n X dJx4a65c_fastRemove_b59b0_23 rfl rfl ?_
    refine zi_iconst (v := (nI 1)) X dJx4a65c_fastRemove_b59b0_24 (by decide) ?_
    refine zi_iadd X dJx4a65c_fastRemove_b59b0_25 ?_
    rw [show nI i + nI 1 = nI (i + 1) from (nI_succ i).symm]
    refine zi_aload_n X dJx4a65c_fastRemove_b59b0_26 rfl rfl ?_
    refine zi_iload_n X dJx4a65c_fastRemove_b59b0_27 rfl rfl ?_
    refine zi_iload_n X dJx4a65c_fastRemove_b59b0_28 rfl rfl ?_
    refine zi_iload_n X dJx4a65c_fastRemove_b59b0_29 rfl rfl ?_
    refine zi_isub X dJx4a65c_fastRemove_b59b0_30 ?_
    rw [show nI (n - 1) - nI i = nI (n - 1 - i) from nI_sub (by omega)]
    have c0 : ∀ k, k < 2147483648 → ¬ nI k < 0 := fun k hk => by
      rw [show (0 : Int32) = nI 0 from rfl, nI_ltI hk (by decide)]
      omega
    refine zi_copyq (t0 := 6) X rfl h3' h3' wm_Jx4a65c_112 hc hca (c0 _ (by omega)) (c0 _ (by omega)) (c0 _ (by omega)) (by rw [nI_cl (by omega), nI_cl (by omega)]; omega) (by rw [nI_cl (by omega), nI_cl (by omega)]; omega) (fun j hj y hy => ?_) (Nat.le_of_ble_eq_true rfl) (Nat.le_of_ble_eq_true rfl) dJx4a65c_fastRemove_b59b0_31 ?_
    · rw [nI_cl (by omega)] at hj hy
      exact hel' _ y (by omega) hy
    · rw [nI_cl (by omega), nI_cl (by omega), nI_cl (by omega)]
      refine tail _ _ (by rw [mup_ne hne]; exact g0) mup_self (fun j hj => ?_) (hsame_up k9 (by simp))
      unfold va_cpy delF
      by_cases q : j < i
      · rw [if_neg (by omega), if_pos q]
      · rw [if_pos (by omega), if_neg q]
        congr 1
        omega
theorem al_remove (l : Launch) (D : va_G) {ci : Nat} {r : vw_C} (hc : vwCl[ci]? = some r) (hca : Cond.castable r.1 "java/lang/Object" ∈ mBad) (hs : isLs cA D h lst e cap n mc f) (hel : ∀ i, i < n → ∃ y, f i = some y ∧ ∃ fs, h y = some (.inr (ci, fs))) (hly : ∀ i y, i < n → f i = some y → y ≠ lst) {i : Nat} (hi : i < n) :
    mCr l yJx4a65c_remove_915e3 cJx4a65c_remove_915e3 4 (.object "java/lang/Object") (rmd 3) D (mT cA) [.ref lst, .int (nI i)] h (fun _ h1 => remP cA D h lst e cap n i f h1) := by
  obtain ⟨h0, h1, h4, h5⟩ := hs
  have h3 : h e = some (qA (cA 6) cap f) := by
    rcases h1 with h1 | h1
    · omega
    · exact h1
  obtain ⟨y, hy, fs, hfs⟩ := hel i hi
  refine mEnter_r (by decide) (Nat.le_of_ble_eq_true rfl) rfl (fun z X Vz => ?_)
  refine zi_iload_n X dJx4a65c_remove_915e3_0 rfl rfl ?_
  refine zi_aload_n X dJx4a65c_remove_915e3_1 rfl rfl ?_
  refine zi_getf (C := RJx4a65c) (T := TJx4a65c) (N := 3) (ci := 3) X (by first | assumption | exact mup_self | (rw [mup_ne (by assumption)]; assumption) | (rw [mup_ne (by assumption)]; exact mup_self) | (rw [mup_ne (by assumption), mup_ne (by assumption)]; assumption)) rfl in_Jx4a65c 2 (by decide) wf_Jx4a65c_48 rfl rfl dJx4a65c_remove_915e3_2 ?_
  refine zi_callSi X (al_chk l D hi (by omega)) kc_J15_checkIndex_7cf53 wm_Jx4a65c_118 wst_J15_checkIndex_7cf53 ⟨Nat.le_of_ble_eq_true rfl, Nat.le_of_ble_eq_true rfl⟩ rfl rfl (Nat.le_of_ble_eq_true rfl) ⟨Nat.le_of_ble_eq_true rfl, Nat.le_of_ble_eq_true rfl⟩ dJx4a65c_remove_915e3_5 (fun x g e1 => ?_)
  obtain ⟨e1, e2⟩ := e1
  subst e1 e2
  have hin : vp_in (nI i) cap := vin (by omega) (by omega)
  have hf : f (nI i).toNatClampNeg = some y := by rw [nI_cl (by omega)]; exact hy
  refine zi_pop X dJx4a65c_remove_915e3_8 rfl ?_
  refine zi_aload_n X dJx4a65c_remove_915e3_9 rfl rfl ?_
  refine zi_getf (C := RJx4a65c) (T := TJx4a65c) (N := 3) (ci := 3) X (by first | assumption | exact mup_self | (rw [mup_ne (by assumption)]; assumption) | (rw [mup_ne (by assumption)]; exact mup_self) | (rw [mup_ne (by assumption), mup_ne (by assumption)]; assumption)) rfl in_Jx4a65c 1 (by decide) wf_Jx4a65c_9 rfl rfl dJx4a65c_remove_915e3_10 ?_
  refine zi_astore_n X dJx4a65c_remove_915e3_13 rfl (by decide) ?_
  refine zi_aload_n X dJx4a65c_remove_915e3_14 rfl rfl ?_
  refine zi_iload_n X dJx4a65c_remove_915e3_15 rfl rfl ?_
  refine zi_aaldq X 6 (by first | assumption | exact mup_self | (rw [mup_ne (by assumption)]; assumption) | (rw [mup_ne (by assumption)]; exact mup_self) | (rw [mup_ne (by assumption), mup_ne (by assumption)]; assumption)) rfl (by assumption) (by assumption) dJx4a65c_remove_915e3_16 ?_
  refine zi_astore_n X dJx4a65c_remove_915e3_17 rfl (by decide) ?_
  refine zi_aload_n X dJx4a65c_remove_915e3_18 rfl rfl ?_
  refine zi_aload_n X dJx4a65c_remove_915e3_19 rfl rfl ?_
  refine zi_iload_n X dJx4a65c_remove_915e3_20 rfl rfl ?_
  refine zi_callVv X (al_fast l D hc hca h0 h3 h4 h5 (fun j y hj hy => (by obtain ⟨y2, q1, q2⟩ := hel j hj; rw [hy] at q1; cases q1; exact q2)) hly hi) kc_Jx4a65c_fastRemove_b59b0 wm_Jx4a65c_144 h0 rfl wim_Jx4a65c_fastRemove_b59b0 wse_Jx4a65c_fastRemove_b59b0 ⟨Nat.le_of_ble_eq_true rfl, Nat.le_of_ble_eq_true rfl⟩ rfl rfl (Nat.le_of_ble_eq_true rfl) ⟨Nat.le_of_ble_eq_true rfl, Nat.le_of_ble_eq_true rfl⟩ dJx4a65c_remove_915e3_21 (fun g1 e1 => ?_)
  refine zi_aload_n X dJx4a65c_remove_915e3_24 rfl rfl ?_
  refine zi_areturn X Vz (by first | exact Or.inl ⟨_, rfl⟩ | exact Or.inr ⟨_, rfl⟩) dJx4a65c_remove_915e3_25 ?_
  exact e1
end AL5
/-! a new object is not at the empty row's address -/
section MNEW2
variable {z : mZ} {l : Launch} {R : Room} {D : va_G} {nL : Nat} {cells slots : Nat}
variable {cc : ByteArray} {own nm : String} {tys : List (ClassId × FieldType)} {ret : Option FieldType} {pc : Nat} {L : List (Option Value)} {st : List Value} {h : mH}
theorem zi_dA (X : zX z l D cc own tys nL ret R nm) (k : h (D.2 1000 0) = none → zM z cells slots pc L st h) : zM z cells slots pc L st h := by
  by_cases c : h (D.2 1000 0) = none
  · exact k c
  · obtain ⟨p, l1, e, R1, s, m, args, below, meth, cc1, D1, A0, H0, nL1, Q⟩ := z
    obtain ⟨e1, e2, e3, e4, e5, X⟩ := X
    subst e1 e2 e3 e4
    intro H locs ls hR hA hS hL
    refine absurd ?_ e5.2.2.2.2.2.2.2.1
    cases hx : h (D1.2 1000 0) with
    | none => exact absurd hx c
    | some x => exact hA _ x hx
end MNEW2
