/-! java.util.ArrayList: a list of objects of one class (ci); its row e has room for cap, n are used; the empty list may share the state's empty row -/
def alO (mc : Int32) (e n : Nat) : va_E := .inr (3, [.int mc, .ref e, .int (nI n)])
abbrev qA (c : ClassId) (n : Nat) (f : Nat → Option Nat) : va_E := .inl (c, n, .inr (.inr (.inr (.inr f))))
def isLs (cA : Nat → ClassId) (D : va_G) (h : mH) (lst e cap n : Nat) (mc : Int32) (f : Nat → Option Nat) : Prop := h lst = some (alO mc e n) ∧ ((e = D.2 1000 0 ∧ cap = 0) ∨ h e = some (qA (cA 6) cap f)) ∧ n ≤ cap ∧ cap ≤ 1600
section AL
variable {cA : Nat → ClassId} {h : mH} {lst e cap n : Nat} {mc : Int32} {f : Nat → Option Nat}
theorem al_size (l : Launch) (D : va_G) (hs : isLs cA D h lst e cap n mc f) : mCi l yJx4a65c_size_8abf5 cJx4a65c_size_8abf5 1 .int (rmd 1) D (mT cA) [.ref lst] h (fun x h1 => h1 = h ∧ x = nI n) := by
  refine mEnter_i (by decide) (Nat.le_of_ble_eq_true rfl) rfl (fun z X Vz => ?_)
  obtain ⟨h0, h1, h2, h3⟩ := hs
  refine zi_aload_n X dJx4a65c_size_8abf5_0 rfl rfl ?_
  refine zi_getf (C := RJx4a65c) (T := TJx4a65c) (N := 3) (ci := 3) X (by first | assumption | exact mup_self | (rw [mup_ne (by assumption)]; assumption) | (rw [mup_ne (by assumption)]; exact mup_self) | (rw [mup_ne (by assumption), mup_ne (by assumption)]; assumption)) rfl in_Jx4a65c 2 (by decide) wf_Jx4a65c_48 rfl rfl dJx4a65c_size_8abf5_1 ?_
  refine zi_ireturn X Vz dJx4a65c_size_8abf5_4 ?_
  exact ⟨rfl, rfl⟩
theorem al_chk3 (l : Launch) (D : va_G) {i : Nat} (hi : i < n) (hn : n < 2147483648) : mCi l yJ3_checkIndex_8e157 cJ3_checkIndex_8e157 3 .int (rmd 1) D (mT cA) [.int (nI i), .int (nI n), .null] h (fun x h1 => h1 = h ∧ x = nI i) := by
  refine mEnter_i (by decide) (Nat.le_of_ble_eq_true rfl) rfl (fun z X Vz => ?_)
  have c0 : ¬ nI i < 0 := by
    rw [show (0 : Int32) = nI 0 from rfl, nI_ltI (by omega) (by decide)]
    omega
  have c1 : nI i < nI n := (nI_ltI (by omega) hn).mpr hi
  refine zi_iload_n X dJ3_checkIndex_8e157_0 rfl rfl ?_
  refine zi_if_lt (tgt := 9) X dJ3_checkIndex_8e157_1 (by decide) (fun c_1 => (by first | exact absurd c0 c_1 | exact absurd c_1 c0)) (fun c_1 => ?_)
  refine zi_iload_n X dJ3_checkIndex_8e157_4 rfl rfl ?_
  refine zi_iload_n X dJ3_checkIndex_8e157_5 rfl rfl ?_
  refine zi_icmp_lt (tgt := 16) X dJ3_checkIndex_8e157_6 (by decide) (fun c_6 => ?_) (fun c_6 => (by first | exact absurd c1 c_6 | exact absurd c_6 c1))
  refine zi_iload_n X dJ3_checkIndex_8e157_16 rfl rfl ?_
  refine zi_ireturn X Vz dJ3_checkIndex_8e157_17 ?_
  exact ⟨rfl, rfl⟩
theorem al_chk (l : Launch) (D : va_G) {i : Nat} (hi : i < n) (hn : n < 2147483648) : mCi l yJ15_checkIndex_7cf53 cJ15_checkIndex_7cf53 2 .int (rmd 2) D (mT cA) [.int (nI i), .int (nI n)] h (fun x h1 => h1 = h ∧ x = nI i) := by
  refine mEnter_i (by decide) (Nat.le_of_ble_eq_true rfl) rfl (fun z X Vz => ?_)
  refine zi_iload_n X dJ15_checkIndex_7cf53_0 rfl rfl ?_
  refine zi_iload_n X dJ15_checkIndex_7cf53_1 rfl rfl ?_
  refine zi_aconst_null X dJ15_checkIndex_7cf53_2 ?_
  refine zi_callSi X (al_chk3 l D hi hn) kc_J3_checkIndex_8e157 wm_J15_105 wst_J3_checkIndex_8e157 ⟨Nat.le_of_ble_eq_true rfl, Nat.le_of_ble_eq_true rfl⟩ rfl rfl (Nat.le_of_ble_eq_true rfl) ⟨Nat.le_of_ble_eq_true rfl, Nat.le_of_ble_eq_true rfl⟩ dJ15_checkIndex_7cf53_3 (fun x h1 e1 => ?_)
  obtain ⟨e1, e2⟩ := e1
  subst e1 e2
  refine zi_ireturn X Vz dJ15_checkIndex_7cf53_6 ?_
  exact ⟨rfl, rfl⟩
theorem al_elem (l : Launch) (D : va_G) (hs : isLs cA D h lst e cap n mc f) {i r : Nat} (hi : i < n) (hr : f i = some r) : mCr l yJx4a65c_elementData_915e3 cJx4a65c_elementData_915e3 2 (.object "java/lang/Object") (rmd 1) D (mT cA) [.ref lst, .int (nI i)] h (fun x h1 => h1 = h ∧ x = r) := by
  refine mEnter_r (by decide) (Nat.le_of_ble_eq_true rfl) rfl (fun z X Vz => ?_)
  obtain ⟨h0, h1, h2, h3⟩ := hs
  have h4 : h e = some (qA (cA 6) cap f) := by
    rcases h1 with h1 | h1
    · omega
    · exact h1
  have hin : vp_in (nI i) cap := vin (by omega) (by omega)
  have hf : f (nI i).toNatClampNeg = some r := by rw [nI_cl (by omega)]; exact hr
  refine zi_aload_n X dJx4a65c_elementData_915e3_0 rfl rfl ?_
  refine zi_getf (C := RJx4a65c) (T := TJx4a65c) (N := 3) (ci := 3) X (by first | assumption | exact mup_self | (rw [mup_ne (by assumption)]; assumption) | (rw [mup_ne (by assumption)]; exact mup_self) | (rw [mup_ne (by assumption), mup_ne (by assumption)]; assumption)) rfl in_Jx4a65c 1 (by decide) wf_Jx4a65c_9 rfl rfl dJx4a65c_elementData_915e3_1 ?_
  refine zi_iload_n X dJx4a65c_elementData_915e3_4 rfl rfl ?_
  refine zi_aaldq X 6 (by first | assumption | exact mup_self | (rw [mup_ne (by assumption)]; assumption) | (rw [mup_ne (by assumption)]; exact mup_self) | (rw [mup_ne (by assumption), mup_ne (by assumption)]; assumption)) rfl (by assumption) (by assumption) dJx4a65c_elementData_915e3_5 ?_
  refine zi_areturn X Vz (by first | exact Or.inl ⟨_, rfl⟩ | exact Or.inr ⟨_, rfl⟩) dJx4a65c_elementData_915e3_6 ?_
  exact ⟨rfl, rfl⟩
theorem al_get (l : Launch) (D : va_G) (hs : isLs cA D h lst e cap n mc f) {i r : Nat} (hi : i < n) (hr : f i = some r) : mCr l yJx4a65c_get_915e3 cJx4a65c_get_915e3 2 (.object "java/lang/Object") (rmd 3) D (mT cA) [.ref lst, .int (nI i)] h (fun x h1 => h1 = h ∧ x = r) := by
  refine mEnter_r (by decide) (Nat.le_of_ble_eq_true rfl) rfl (fun z X Vz => ?_)
  have h0 := hs.1
  have hn : n < 2147483648 := by have := hs.2.2; omega
  refine zi_iload_n X dJx4a65c_get_915e3_0 rfl rfl ?_
  refine zi_aload_n X dJx4a65c_get_915e3_1 rfl rfl ?_
  refine zi_getf (C := RJx4a65c) (T := TJx4a65c) (N := 3) (ci := 3) X (by first | assumption | exact mup_self | (rw [mup_ne (by assumption)]; assumption) | (rw [mup_ne (by assumption)]; exact mup_self) | (rw [mup_ne (by assumption), mup_ne (by assumption)]; assumption)) rfl in_Jx4a65c 2 (by decide) wf_Jx4a65c_48 rfl rfl dJx4a65c_get_915e3_2 ?_
  refine zi_callSi X (al_chk l D hi hn) kc_J15_checkIndex_7cf53 wm_Jx4a65c_118 wst_J15_checkIndex_7cf53 ⟨Nat.le_of_ble_eq_true rfl, Nat.le_of_ble_eq_true rfl⟩ rfl rfl (Nat.le_of_ble_eq_true rfl) ⟨Nat.le_of_ble_eq_true rfl, Nat.le_of_ble_eq_true rfl⟩ dJx4a65c_get_915e3_5 (fun x h1 e1 => ?_)
  obtain ⟨e1, e2⟩ := e1
  subst e1 e2
  refine zi_pop X dJx4a65c_get_915e3_8 rfl ?_
  refine zi_aload_n X dJx4a65c_get_915e3_9 rfl rfl ?_
  refine zi_iload_n X dJx4a65c_get_915e3_10 rfl rfl ?_
  refine zi_callVr X (al_elem l D hs hi hr) kc_Jx4a65c_elementData_915e3 wm_Jx4a65c_123 h0 rfl wim_Jx4a65c_elementData_915e3 wse_Jx4a65c_elementData_915e3 ⟨Nat.le_of_ble_eq_true rfl, Nat.le_of_ble_eq_true rfl⟩ rfl rfl (Nat.le_of_ble_eq_true rfl) ⟨Nat.le_of_ble_eq_true rfl, Nat.le_of_ble_eq_true rfl⟩ dJx4a65c_get_915e3_11 (fun x h1 e1 => ?_)
  obtain ⟨e1, e2⟩ := e1
  subst e1 e2
  refine zi_areturn X Vz (by first | exact Or.inl ⟨_, rfl⟩ | exact Or.inr ⟨_, rfl⟩) dJx4a65c_get_915e3_14 ?_
  exact ⟨rfl, rfl⟩
/-- all references are taken out -/
theorem al_clear (l : Launch) (D : va_G) (hs : isLs cA D h lst e cap n mc f) (hne : lst ≠ e) : mCv l yJx4a65c_clear_da8c8 cJx4a65c_clear_da8c8 4 (rmd 1) D (mT cA) [.ref lst] h (fun h1 => (∃ mc' f', isLs cA D h1 lst e cap 0 mc' f' ∧ (cap ≠ 0 → h1 e = some (qA (cA 6) cap f'))) ∧ ∀ a, a ≠ lst → (cap ≠ 0 → a ≠ e) → h1 a = h a) := by
  refine mEnter_v (by decide) (Nat.le_of_ble_eq_true rfl) rfl (fun z X Vz => ?_)
  obtain ⟨h0, h1, h2, h3⟩ := hs
  refine zi_aload_n X dJx4a65c_clear_da8c8_0 rfl rfl ?_
  refine zi_dup X dJx4a65c_clear_da8c8_1 rfl ?_
  refine zi_getfU (C := RJx4a65c) (T := TJx4a65c) (N := 3) (ci := 3) X (by first | assumption | exact mup_self | (rw [mup_ne (by assumption)]; assumption) | (rw [mup_ne (by assumption)]; exact mup_self) | (rw [mup_ne (by assumption), mup_ne (by assumption)]; assumption)) rfl in_Jx4a65c 0 (by decide) wf_Jx4a65c_63 wx_same rfl dJx4a65c_clear_da8c8_2 ?_
  refine zi_iconst (v := (nI 1)) X dJx4a65c_clear_da8c8_5 (by decide) ?_
  refine zi_iadd X dJx4a65c_clear_da8c8_6 ?_
  refine zi_putfU (C := RJx4a65c) (T := TJx4a65c) (N := 3) (ci := 3) (ty0 := tyJx4a65c) X (by first | assumption | exact mup_self | (rw [mup_ne (by assumption)]; assumption) | (rw [mup_ne (by assumption)]; exact mup_self) | (rw [mup_ne (by assumption), mup_ne (by assumption)]; assumption)) rfl in_Jx4a65c tyJx4a65c_ok nmJx4a65c 0 (by decide) wf_Jx4a65c_63 wx_same rfl rfl rfl rfl (Nat.le_of_ble_eq_true rfl) dJx4a65c_clear_da8c8_7 ?_
  refine zi_aload_n X dJx4a65c_clear_da8c8_10 rfl rfl ?_
  refine zi_getf (C := RJx4a65c) (T := TJx4a65c) (N := 3) (ci := 3) X (by first | assumption | exact mup_self | (rw [mup_ne (by assumption)]; assumption) | (rw [mup_ne (by assumption)]; exact mup_self) | (rw [mup_ne (by assumption), mup_ne (by assumption)]; assumption)) rfl in_Jx4a65c 1 (by decide) wf_Jx4a65c_9 rfl rfl dJx4a65c_clear_da8c8_11 ?_
  refine zi_astore_n X dJx4a65c_clear_da8c8_14 rfl (by decide) ?_
  refine zi_aload_n X dJx4a65c_clear_da8c8_15 rfl rfl ?_
  refine zi_getf (C := RJx4a65c) (T := TJx4a65c) (N := 3) (ci := 3) X (by first | assumption | exact mup_self | (rw [mup_ne (by assumption)]; assumption) | (rw [mup_ne (by assumption)]; exact mup_self) | (rw [mup_ne (by assumption), mup_ne (by assumption)]; assumption)) rfl in_Jx4a65c 2 (by decide) wf_Jx4a65c_48 rfl rfl dJx4a65c_clear_da8c8_16 ?_
  refine zi_istore_n X dJx4a65c_clear_da8c8_19 rfl (by decide) ?_
  refine zi_aload_n X dJx4a65c_clear_da8c8_20 rfl rfl ?_
  refine zi_iconst (v := (nI 0)) X dJx4a65c_clear_da8c8_21 (by decide) ?_
  refine zi_dup_x1 X dJx4a65c_clear_da8c8_22 rfl rfl ?_
  refine zi_putf (C := RJx4a65c) (T := TJx4a65c) (N := 3) (ci := 3) (ty0 := tyJx4a65c) X (by first | assumption | exact mup_self | (rw [mup_ne (by assumption)]; assumption) | (rw [mup_ne (by assumption)]; exact mup_self) | (rw [mup_ne (by assumption), mup_ne (by assumption)]; assumption)) rfl in_Jx4a65c tyJx4a65c_ok nmJx4a65c 2 (by decide) wf_Jx4a65c_48 rfl rfl rfl rfl rfl (Nat.le_of_ble_eq_true rfl) dJx4a65c_clear_da8c8_23 ?_
  refine zi_istore_n X dJx4a65c_clear_da8c8_26 rfl (by decide) ?_
  have loop : ∀ k i : Nat, i + k = n → ∀ (g : mH) (f' : Nat → Option Nat), (∀ a, a ≠ lst → (cap ≠ 0 → a ≠ e) → g a = h a) → isLs cA D g lst e cap 0 (mc + nI 1) f' → (cap ≠ 0 → g e = some (qA (cA 6) cap f')) → zM z 0 0 27 [some (.ref lst), some (.ref e), some (.int (nI n)), some (.int (nI i))] [] g := by
    intro k
    induction k with
    | zero =>
      intro i hik g f' hg hs he9
      have c : ¬ nI i < nI n := by rw [nI_ltI (by omega) (by omega)]; omega
      have c27 : nI n ≤ nI i := Int32.not_lt.mp c
      refine zi_iload_n X dJx4a65c_clear_da8c8_27 rfl rfl ?_
      refine zi_iload_n X dJx4a65c_clear_da8c8_28 rfl rfl ?_
      refine zi_icmp_ge (tgt := 42) X dJx4a65c_clear_da8c8_29 (by decide) (fun c_29 => ?_) (fun c_29 => (by first | exact absurd c27 c_29 | exact absurd c_29 c27))
      refine zi_return X Vz dJx4a65c_clear_da8c8_42 ?_
      exact ⟨⟨_, _, hs, he9⟩, hg⟩
    | succ k ih =>
      intro i hik g f' hg hs he9
      have c : nI i < nI n := by rw [nI_ltI (by omega) (by omega)]; omega
      have c27 : ¬ nI n ≤ nI i := Int32.not_le.mpr c
      obtain ⟨a1, a2, a3, a4⟩ := hs
      have a5 : g e = some (qA (cA 6) cap f') := by
        rcases a2 with a2 | a2
        · omega
        · exact a2
      refine zi_iload_n X dJx4a65c_clear_da8c8_27 rfl rfl ?_
      refine zi_iload_n X dJx4a65c_clear_da8c8_28 rfl rfl ?_
      refine zi_icmp_ge (tgt := 42) X dJx4a65c_clear_da8c8_29 (by decide) (fun c_29 => (by first | exact absurd c27 c_29 | exact absurd c_29 c27)) (fun c_29 => ?_)
      refine zi_aload_n X dJx4a65c_clear_da8c8_32 rfl rfl ?_
      refine zi_iload_n X dJx4a65c_clear_da8c8_33 rfl rfl ?_
      refine zi_aconst_null X dJx4a65c_clear_da8c8_34 ?_
      refine zi_astqN X 6 a5 rfl (vin (by omega) (by omega)) dJx4a65c_clear_da8c8_35 ?_
      refine zi_iinc (v := nI (i + 1)) X dJx4a65c_clear_da8c8_36 rfl (nI_inc _) (by decide) ?_
      refine zi_goto (tgt := 27) X dJx4a65c_clear_da8c8_39 (by decide) ?_
      refine ih (i + 1) (by omega) _ (va_up f' (nI i).toNatClampNeg none) (fun a q1 q2 => by rw [mup_ne (q2 (by omega))]; exact hg a q1 q2) ⟨by rw [mup_ne hne]; exact a1, Or.inr mup_self, a3, a4⟩ (fun _ => mup_self)
  refine loop n 0 (by omega) _ f (fun a q1 _ => by rw [mup_ne q1, mup_ne q1]) ⟨by rw [mup_self]; rfl, ?_, Nat.zero_le _, h3⟩ (fun c => ?_)
  · rcases h1 with h1 | h1
    · exact Or.inl h1
    · refine Or.inr ?_
      rw [mup_ne (Ne.symm hne), mup_ne (Ne.symm hne)]
      exact h1
  · rcases h1 with h1 | h1
    · exact absurd h1.2 c
    · rw [mup_ne (Ne.symm hne), mup_ne (Ne.symm hne)]
      exact h1
end AL
