section AL4
variable {cA : Nat → ClassId} {h : mH} {lst e cap n : Nat} {mc : Int32} {f : Nat → Option Nat}
def insF (f : Nat → Option Nat) (i v : Nat) : Nat → Option Nat := fun j => if j < i then f j else if j = i then some v else f (j - 1)
theorem nI_inj {a b : Nat} (ha : a < 2147483648) (hb : b < 2147483648) (h : nI a = nI b) : a = b := by
  have := congrArg Int32.toInt h
  rw [nI_int ha, nI_int hb] at this
  omega
theorem nI_sub {a b : Nat} (h : b ≤ a) : nI a - nI b = nI (a - b) := by
  have e : nI a = nI (a - b) + nI b := by rw [nI_add, Nat.sub_add_cancel h]
  rw [e, Int32.add_sub_cancel]
theorem al_range (l : Launch) (D : va_G) (h0 : h lst = some (alO mc e n)) {i : Nat} (hi : i ≤ n) (hn : n < 2147483648) : mCv l yJx4a65c_rangeCheckForAdd_d00df cJx4a65c_rangeCheckForAdd_d00df 2 (rmd 1) D (mT cA) [.ref lst, .int (nI i)] h (fun h1 => h1 = h) := by
  refine mEnter_v (by decide) (Nat.le_of_ble_eq_true rfl) rfl (fun z X Vz => ?_)
  have c5 : ¬ nI n < nI i := by rw [nI_ltI (by omega) (by omega)]; omega
  have c9 : 0 ≤ nI i := by
    rw [show (0 : Int32) = nI 0 from rfl]
    refine Int32.not_lt.mp (fun q => ?_)
    rw [nI_ltI (by omega) (by omega)] at q
    omega
  refine zi_iload_n X dJx4a65c_rangeCheckForAdd_d00df_0 rfl rfl ?_
  refine zi_aload_n X dJx4a65c_rangeCheckForAdd_d00df_1 rfl rfl ?_
  refine zi_getf (C := RJx4a65c) (T := TJx4a65c) (N := 3) (ci := 3) X (by first | assumption | exact mup_self | (rw [mup_ne (by assumption)]; assumption) | (rw [mup_ne (by assumption)]; exact mup_self) | (rw [mup_ne (by assumption), mup_ne (by assumption)]; assumption)) rfl in_Jx4a65c 2 (by decide) wf_Jx4a65c_48 rfl rfl dJx4a65c_rangeCheckForAdd_d00df_2 ?_
  refine zi_icmp_gt (tgt := 12) X dJx4a65c_rangeCheckForAdd_d00df_5 (by decide) (fun c_5 => (by first | exact absurd c5 c_5 | exact absurd c_5 c5)) (fun c_5 => ?_)
  refine zi_iload_n X dJx4a65c_rangeCheckForAdd_d00df_8 rfl rfl ?_
  refine zi_if_ge (tgt := 25) X dJx4a65c_rangeCheckForAdd_d00df_9 (by decide) (fun c_9 => ?_) (fun c_9 => (by first | exact absurd c9 c_9 | exact absurd c_9 c9))
  refine zi_return X Vz dJx4a65c_rangeCheckForAdd_d00df_25 ?_
  rfl
/-- what add leaves -/
def addP (cA : Nat → ClassId) (D : va_G) (h : mH) (lst e cap n i v : Nat) (f : Nat → Option Nat) (h1 : mH) : Prop := ∃ e' cap' mc' f', isLs cA D h1 lst e' cap' (n + 1) mc' f' ∧ (∀ j, j < n + 1 → f' j = insF f i v j) ∧ (e' = e ∧ 0 < cap ∨ h e' = none) ∧ 0 < cap' ∧ h1 e' = some (qA (cA 6) cap' f') ∧ hsame [lst, e'] h1 h
theorem al_add (l : Launch) (D : va_G) {ci : Nat} {r : vw_C} (hc : vwCl[ci]? = some r) (hca : Cond.castable r.1 "java/lang/Object" ∈ mBad) (hs : isLs cA D h lst e cap n mc f) (hn : n ≤ 1050) (hne : lst ≠ e) (hel : ∀ i y, i < n → f i = some y → ∃ fs, h y = some (.inr (ci, fs))) (hE : cap = 0 → e = D.2 1000 0) {i v : Nat} (hi : i ≤ n) {fs : List Value} (hv : h v = some (.inr (ci, fs))) (hvl : v ≠ lst) (hve : v ≠ e) (hly : ∀ i y, i < n → f i = some y → y ≠ lst) :
    mCv l yJx4a65c_add_7a177 cJx4a65c_add_7a177 5 (rmc 6 1 2500) D (mT cA) [.ref lst, .int (nI i), .ref v] h (addP cA D h lst e cap n i v f) := by
  have h0 := hs.1
  refine mEnter_v (by decide) (Nat.le_of_ble_eq_true rfl) rfl (fun z X Vz => ?_)
  refine zi_aload_n X dJx4a65c_add_7a177_0 rfl rfl ?_
  refine zi_iload_n X dJx4a65c_add_7a177_1 rfl rfl ?_
  refine zi_callVv X (al_range l D h0 hi (by omega)) kc_Jx4a65c_rangeCheckForAdd_d00df wm_Jx4a65c_135 h0 rfl wim_Jx4a65c_rangeCheckForAdd_d00df wse_Jx4a65c_rangeCheckForAdd_d00df ⟨Nat.le_of_ble_eq_true rfl, Nat.le_of_ble_eq_true rfl⟩ rfl rfl (Nat.le_of_ble_eq_true rfl) ⟨Nat.le_of_ble_eq_true rfl, Nat.le_of_ble_eq_true rfl⟩ dJx4a65c_add_7a177_2 (fun g e1 => ?_)
  subst e1
  refine zi_aload_n X dJx4a65c_add_7a177_5 rfl rfl ?_
  refine zi_dup X dJx4a65c_add_7a177_6 rfl ?_
  refine zi_getfU (C := RJx4a65c) (T := TJx4a65c) (N := 3) (ci := 3) X (by first | assumption | exact mup_self | (rw [mup_ne (by assumption)]; assumption) | (rw [mup_ne (by assumption)]; exact mup_self) | (rw [mup_ne (by assumption), mup_ne (by assumption)]; assumption)) rfl in_Jx4a65c 0 (by decide) wf_Jx4a65c_63 wx_same rfl dJx4a65c_add_7a177_7 ?_
  refine zi_iconst (v := (nI 1)) X dJx4a65c_add_7a177_10 (by decide) ?_
  refine zi_iadd X dJx4a65c_add_7a177_11 ?_
  refine zi_putfU (C := RJx4a65c) (T := TJx4a65c) (N := 3) (ci := 3) (ty0 := tyJx4a65c) X (by first | assumption | exact mup_self | (rw [mup_ne (by assumption)]; assumption) | (rw [mup_ne (by assumption)]; exact mup_self) | (rw [mup_ne (by assumption), mup_ne (by assumption)]; assumption)) rfl in_Jx4a65c tyJx4a65c_ok nmJx4a65c 0 (by decide) wf_Jx4a65c_63 wx_same rfl rfl rfl rfl (Nat.le_of_ble_eq_true rfl) dJx4a65c_add_7a177_12 ?_
  obtain ⟨h2, h3, h4, h5⟩ := hs
  have es : (List.set [Value.int mc, .ref e, .int (nI n)] 0 (.int (mc + nI 1))) = [Value.int (mc + nI 1), .ref e, .int (nI n)] := rfl
  rw [es]
  have g0 : mup g lst (alO (mc + nI 1) e n) lst = some (alO (mc + nI 1) e n) := mup_self
  refine zi_aload_n X dJx4a65c_add_7a177_15 rfl rfl ?_
  refine zi_getf (C := RJx4a65c) (T := TJx4a65c) (N := 3) (ci := 3) X (by first | assumption | exact mup_self | (rw [mup_ne (by assumption)]; assumption) | (rw [mup_ne (by assumption)]; exact mup_self) | (rw [mup_ne (by assumption), mup_ne (by assumption)]; assumption)) rfl in_Jx4a65c 2 (by decide) wf_Jx4a65c_48 rfl rfl dJx4a65c_add_7a177_16 ?_
  refine zi_dup X dJx4a65c_add_7a177_19 rfl ?_
  refine zi_istore_n X dJx4a65c_add_7a177_20 rfl (by decide) ?_
  refine zi_aload_n X dJx4a65c_add_7a177_21 rfl rfl ?_
  refine zi_getf (C := RJx4a65c) (T := TJx4a65c) (N := 3) (ci := 3) X (by first | assumption | exact mup_self | (rw [mup_ne (by assumption)]; assumption) | (rw [mup_ne (by assumption)]; exact mup_self) | (rw [mup_ne (by assumption), mup_ne (by assumption)]; assumption)) rfl in_Jx4a65c 1 (by decide) wf_Jx4a65c_9 rfl rfl dJx4a65c_add_7a177_22 ?_
  refine zi_dup X dJx4a65c_add_7a177_25 rfl ?_
  refine zi_astore X dJx4a65c_add_7a177_26 (by decide) ?_
  -- behind the test: the row e1 with room
  have rest : ∀ (cells slots : Nat) (e1 cap1 : Nat) (g1 : mH) (f1 : Nat → Option Nat), cells ≤ 1 → slots ≤ 2500 → g1 lst = some (alO (mc + nI 1) e1 n) → g1 e1 = some (qA (cA 6) cap1 f1) → n < cap1 → cap1 ≤ 1600 → (∀ j, j < n → f1 j = f j) → (e1 = e ∧ 0 < cap ∨ g e1 = none) → e1 ≠ lst → hsame [lst, e1] g1 g →
      zM z cells slots 38 [some (.ref lst), some (.int (nI i)), some (.ref v), some (.int (nI n)), some (.ref e1)] [] g1 := by
    intro cells slots e1 cap1 g1 f1 k1 k2 k3 k4 k5 k6 k7 k8 k9 k10
    refine zi_widen (k := 1) (n := 2500) k1 k2 ?_
    clear k1 k2
    have hob : ∀ y fs, g y = some (.inr (ci, fs)) → y ≠ lst → y ≠ e → g1 y = some (.inr (ci, fs)) := fun y fs q q2 q3 => by
      rw [k10 y (by
        simp only [List.mem_cons, List.not_mem_nil, or_false, not_or]
        refine ⟨q2, fun w => ?_⟩
        rcases k8 with k8 | k8
        · exact q3 (w.trans k8.1)
        · rw [w, k8] at q; cases q)]
      exact q
    refine zi_aload X dJx4a65c_add_7a177_38 rfl ?_
    refine zi_iload_n X dJx4a65c_add_7a177_40 rfl rfl ?_
    refine zi_aload X dJx4a65c_add_7a177_41 rfl ?_
    refine zi_iload_n X dJx4a65c_add_7a177_43 rfl rfl ?_
    refine zi_iconst (v := (nI 1)) X dJx4a65c_add_7a177_44 (by decide) ?_
    refine zi_iadd X dJx4a65c_add_7a177_45 ?_
    rw [show nI i + nI 1 = nI (i + 1) from (nI_succ i).symm]
    refine zi_iload_n X dJx4a65c_add_7a177_46 rfl rfl ?_
    refine zi_iload_n X dJx4a65c_add_7a177_47 rfl rfl ?_
    refine zi_isub X dJx4a65c_add_7a177_48 ?_
    rw [show nI n - nI i = nI (n - i) from nI_sub (by omega)]
    have c0 : ∀ k, k < 2147483648 → ¬ nI k < 0 := fun k hk => by
      rw [show (0 : Int32) = nI 0 from rfl, nI_ltI hk (by decide)]
      omega
    refine zi_copyq (t0 := 6) X rfl k4 k4 wm_Jx4a65c_112 hc hca (c0 _ (by omega)) (c0 _ (by omega)) (c0 _ (by omega)) (by rw [nI_cl (by omega), nI_cl (by omega)]; omega) (by rw [nI_cl (by omega), nI_cl (by omega)]; omega) (fun j hj y hy => ?_) (Nat.le_of_ble_eq_true rfl) (Nat.le_of_ble_eq_true rfl) dJx4a65c_add_7a177_49 ?_
    · rw [nI_cl (by omega)] at hj hy
      rw [k7 _ (by omega)] at hy
      obtain ⟨fs, hfs⟩ := hel _ y (by omega) hy
      refine ⟨fs, hob y fs hfs (hly _ y (by omega) hy) (fun w => ?_)⟩
      rcases h3 with h3 | h3
      · omega
      · rw [w, h3] at hfs; cases hfs
    · rw [nI_cl (by omega), nI_cl (by omega), nI_cl (by omega)]
      refine zi_aload X dJx4a65c_add_7a177_52 rfl ?_
      refine zi_iload_n X dJx4a65c_add_7a177_54 rfl rfl ?_
      refine zi_aload_n X dJx4a65c_add_7a177_55 rfl rfl ?_
      have hv1 : mup g1 e1 (qA (cA 6) cap1 (va_cpy f1 f1 i (i + 1) (n - i))) v = some (.inr (ci, fs)) := by
        have := hob v fs hv hvl hve
        rw [mup_ne (fun w => by rw [w, k4] at this; cases this)]
        exact this
      refine zi_astqO (ci := ci) X 6 mup_self rfl hca hv1 hc (vin (by omega) (by omega)) dJx4a65c_add_7a177_56 ?_
      rw [mup_mup, nI_cl (by omega)]
      have k3' : mup g1 e1 (qA (cA 6) cap1 (va_up (va_cpy f1 f1 i (i + 1) (n - i)) i (some v))) lst = some (alO (mc + nI 1) e1 n) := by rw [mup_ne (Ne.symm k9)]; exact k3
      refine zi_aload_n X dJx4a65c_add_7a177_57 rfl rfl ?_
      refine zi_iload_n X dJx4a65c_add_7a177_58 rfl rfl ?_
      refine zi_iconst (v := (nI 1)) X dJx4a65c_add_7a177_59 (by decide) ?_
      refine zi_iadd X dJx4a65c_add_7a177_60 ?_
      rw [show nI n + nI 1 = nI (n + 1) from (nI_succ n).symm]
      refine zi_putf (C := RJx4a65c) (T := TJx4a65c) (N := 3) (ci := 3) (ty0 := tyJx4a65c) X (by first | assumption | exact mup_self | (rw [mup_ne (by assumption)]; assumption) | (rw [mup_ne (by assumption)]; exact mup_self) | (rw [mup_ne (by assumption), mup_ne (by assumption)]; assumption)) rfl in_Jx4a65c tyJx4a65c_ok nmJx4a65c 2 (by decide) wf_Jx4a65c_48 rfl rfl rfl rfl rfl (Nat.le_of_ble_eq_true rfl) dJx4a65c_add_7a177_61 ?_
      refine zi_return X Vz dJx4a65c_add_7a177_64 ?_
      refine ⟨e1, cap1, mc + nI 1, va_up (va_cpy f1 f1 i (i + 1) (n - i)) i (some v), ⟨mup_self, Or.inr ?_, by omega, k6⟩, fun j hj => ?_, k8, by omega, ?_, hsame_up (hsame_up k10 (by simp)) (by simp)⟩
      · rw [mup_ne k9, mup_self]
      · unfold va_up va_cpy insF
        by_cases q : j = i
        · rw [if_pos q, if_neg (by omega), if_pos q]
        · rw [if_neg q]
          by_cases q2 : j < i
          · rw [if_neg (by omega), if_pos q2, k7 _ (by omega)]
          · rw [if_pos (by omega), if_neg q2, if_neg q, k7 _ (by omega)]
            congr 1
            omega
      · rw [mup_ne k9, mup_self]
  have hv9 : Int32.ofNat cap = nI cap := rfl
  by_cases hcn : n = cap
  · -- no room left: grow
    have grow : zM z 0 0 32 [some (.ref lst), some (.int (nI i)), some (.ref v), some (.int (nI n)), some (.ref e)] [] (mup g lst (alO (mc + nI 1) e n)) := by
      refine zi_aload_n X dJx4a65c_add_7a177_32 rfl rfl ?_
      have hs9 : isLs cA D (mup g lst (alO (mc + nI 1) e n)) lst e cap n (mc + nI 1) f := ⟨mup_self, by
        rcases h3 with h3 | h3
        · exact Or.inl h3
        · exact Or.inr (by rw [mup_ne (Ne.symm hne)]; exact h3), h4, h5⟩
      have hel9 : ∀ j y, j < n → f j = some y → ∃ fs, mup g lst (alO (mc + nI 1) e n) y = some (.inr (ci, fs)) := fun j y hj hy => by
        obtain ⟨fs, hfs⟩ := hel j y hj hy
        exact ⟨fs, by rw [mup_ne (hly j y hj hy)]; exact hfs⟩
      refine zi_callVr X (al_grow1 l D hc hca hs9 hcn.symm hn hne hel9 hE) kc_Jx4a65c_grow_d5877 wm_Jx4a65c_129 mup_self rfl wim_Jx4a65c_grow_d5877 wse_Jx4a65c_grow_d5877 ⟨Nat.le_of_ble_eq_true rfl, Nat.le_of_ble_eq_true rfl⟩ rfl rfl (Nat.le_of_ble_eq_true rfl) ⟨Nat.le_of_ble_eq_true rfl, Nat.le_of_ble_eq_true rfl⟩ dJx4a65c_add_7a177_33 (fun x g9 e1 => ?_)
      obtain ⟨hx, cap', b1, b2, e1⟩ := e1
      have hxl : x ≠ lst := fun w => by rw [w, mup_self] at hx; cases hx
      have hxg : g x = none := by rw [mup_ne hxl] at hx; exact hx
      refine zi_astore X dJx4a65c_add_7a177_36 (by decide) ?_
      refine rest _ _ x cap' g9 (fun i => if i < n then f i else none) (by show 0 + 1 ≤ 1; omega) (by show 0 + 2500 ≤ 2500; omega) (by rw [e1, mup_self]) (by rw [e1, mup_ne hxl, mup_self]) b1 b2 (fun j hj => if_pos hj) (Or.inr hxg) hxl ?_
      rw [e1]
      exact hsame_up (hsame_up (hsame_up (hsame_rf _ _) (by simp)) (by simp)) (by simp)
    rcases h3 with h3 | h3
    · obtain ⟨rfl, h3⟩ := h3
      refine zi_alenE X dJx4a65c_add_7a177_28 ?_
      have hn0 : n = 0 := by omega
      subst hn0
      refine zi_icmp_ne (tgt := 38) X dJx4a65c_add_7a177_29 (by decide) (fun c_29 => (by first | exact absurd rfl c_29 | exact absurd c_29 rfl)) (fun c_29 => ?_)
      exact grow
    · have h3' : mup g lst (alO (mc + nI 1) e n) e = some (qA (cA 6) cap f) := by rw [mup_ne (Ne.symm hne)]; exact h3
      have c29 : nI n = nI cap := by rw [hcn]
      refine zi_alen X 6 (by first | assumption | exact mup_self | (rw [mup_ne (by assumption)]; assumption) | (rw [mup_ne (by assumption)]; exact mup_self) | (rw [mup_ne (by assumption), mup_ne (by assumption)]; assumption)) rfl hv9 dJx4a65c_add_7a177_28 ?_
      refine zi_icmp_ne (tgt := 38) X dJx4a65c_add_7a177_29 (by decide) (fun c_29 => (by first | exact absurd c29 c_29 | exact absurd c_29 c29)) (fun c_29 => ?_)
      exact grow
  · have h3 : g e = some (qA (cA 6) cap f) := by
      rcases h3 with h3 | h3
      · omega
      · exact h3
    have h3' : mup g lst (alO (mc + nI 1) e n) e = some (qA (cA 6) cap f) := by rw [mup_ne (Ne.symm hne)]; exact h3
    have c29 : ¬ nI n = nI cap := fun q => hcn (nI_inj (by omega) (by omega) q)
    refine zi_alen X 6 (by first | assumption | exact mup_self | (rw [mup_ne (by assumption)]; assumption) | (rw [mup_ne (by assumption)]; exact mup_self) | (rw [mup_ne (by assumption), mup_ne (by assumption)]; assumption)) rfl hv9 dJx4a65c_add_7a177_28 ?_
    refine zi_icmp_ne (tgt := 38) X dJx4a65c_add_7a177_29 (by decide) (fun c_29 => ?_) (fun c_29 => (by first | exact absurd c29 c_29 | exact absurd c_29 c29))
    exact rest 0 0 e cap _ f (by omega) (by omega) mup_self h3' (by omega) h5 (fun _ _ => rfl) (Or.inl ⟨rfl, by omega⟩) (Ne.symm hne) (hsame_up (hsame_rf _ _) (by simp))
end AL4
