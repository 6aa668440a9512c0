/-! Isolation: dropEmpty -/
def delV (V : Nat → Iv) (i : Nat) : Nat → Iv := fun j => if j < i then V j else V (j + 1)
/-- the intervals below i without roots are taken out, from above -/
def drpV : Nat → Nat → (Nat → Iv) → Nat × (Nat → Iv)
  | 0, n, V => (n, V)
  | i + 1, n, V => if (V i).2.2.2 = 0 then drpV i (n - 1) (delV V i) else drpV i n V
theorem drpV_le : ∀ (i n : Nat) (V : Nat → Iv), i ≤ n → (drpV i n V).1 ≤ n
  | 0, n, V, h => Nat.le_refl _
  | i + 1, n, V, h => by
    unfold drpV
    split
    · exact Nat.le_trans (drpV_le i (n - 1) _ (by omega)) (by omega)
    · exact drpV_le i n V (by omega)
theorem i_m1 (x : Int32) : x + Int32.ofInt (-1) = x - nI 1 := by
  rw [Int32.sub_eq_add_neg, show -(nI 1) = Int32.ofInt (-1) from by decide]
section ISO8
variable {cA : Nat → ClassId} {S : Nat → Nat → Nat} {P : Nat → Nat → Int} {G Ln : Nat → Nat} {h : mH} {is lst n : Nat} {T : Nat → Prop} {V : Nat → Iv}
theorem iso_open {D : va_G} (hI : isIso cA D S h is lst T n V) (hn : 0 < n) : ∃ e cap mc f, isLs cA D h lst e cap n mc f ∧ (∀ i, i < n → ∃ r, f i = some r ∧ h r = some (ivO (V i))) ∧ lst ≠ e ∧ T lst ∧ T e ∧ h e = some (qA (cA 6) cap f) ∧ (∀ i r, i < n → f i = some r → r ≠ lst) ∧ ∀ i h1, i < n → remP cA D h lst e cap n i f h1 → isIso cA D S h1 is lst T (n - 1) (delV V i) := by
  obtain ⟨i0, e, cap, mc, f, rs, hs, hE, hel, hinj, t1, t2, t3, t4⟩ := hI
  have hc : cap ≠ 0 := by have := hs.2.2.1; omega
  have he := (t2 hc).2
  refine ⟨e, cap, mc, f, hs, fun i hi => ⟨rs i, hel i hi⟩, (fun w => by have := hs.1; rw [w, he] at this; cases this), t1, (t2 hc).1, he, fun i r hi hr w => ?_, fun i h1 hi hr => ?_⟩
  · have h9 := (hel i hi).2
    rw [(hel i hi).1] at hr
    cases hr
    rw [w, hs.1] at h9; cases h9
  · obtain ⟨mc', f', b1, b2, b3, b4⟩ := hr
    have o : ∀ a ci fs, h a = some (.inr (ci, fs)) → ci ≠ 3 → h1 a = some (.inr (ci, fs)) := fun a ci fs q q2 => by
      rw [b4 a (by
        simp only [List.mem_cons, List.not_mem_nil, or_false, not_or]
        exact ⟨fun w => by rw [w, hs.1] at q; exact q2 (by cases q; rfl), fun w => by rw [w, he] at q; cases q⟩)]
      exact q
    refine ⟨o _ _ _ i0 (by decide), e, cap, mc', f', fun j => if j < i then rs j else rs (j + 1), b1, hE, fun j hj => ?_, fun j k hj hk w => ?_, t1, fun c => ⟨(t2 c).1, b3⟩, fun j hj => ?_, t4⟩
    · rw [b2 j hj]
      unfold delF delV
      dsimp only
      by_cases c : j < i
      · rw [if_pos c, if_pos c, if_pos c]
        exact ⟨(hel j (by omega)).1, o _ _ _ (hel j (by omega)).2 (by decide)⟩
      · rw [if_neg c, if_neg c, if_neg c]
        exact ⟨(hel (j + 1) (by omega)).1, o _ _ _ (hel (j + 1) (by omega)).2 (by decide)⟩
    · dsimp only at w
      by_cases j1 : j < i <;> by_cases k1 : k < i
      · rw [if_pos j1, if_pos k1] at w; exact hinj _ _ (by omega) (by omega) w
      · rw [if_pos j1, if_neg k1] at w; have := hinj _ _ (by omega) (by omega) w; omega
      · rw [if_neg j1, if_pos k1] at w; have := hinj _ _ (by omega) (by omega) w; omega
      · rw [if_neg j1, if_neg k1] at w; have := hinj _ _ (by omega) (by omega) w; omega
    · dsimp only
      split
      · exact t3 _ (by omega)
      · exact t3 _ (by omega)
theorem remP_fr {D : va_G} {e cap i : Nat} {f : Nat → Option Nat} {h1 : mH} (hr : remP cA D h lst e cap n i f h1) (t1 : T lst) (t2 : T e) : isoFr S T h h1 T := by
  obtain ⟨mc', f', b1, b2, b3, b4⟩ := hr
  refine ⟨fun _ w => Or.inl w, fun a x w _ w3 => ?_, fun a w => ?_⟩
  · rw [b4 a (by
      simp only [List.mem_cons, List.not_mem_nil, or_false, not_or]
      exact ⟨fun q => w3 (by rw [q]; exact t1), fun q => w3 (by rw [q]; exact t2)⟩)]
    exact w
  · by_cases c1 : a = lst
    · rw [c1, b1.1] at w; cases w
    · by_cases c2 : a = e
      · rw [c2, b3] at w; cases w
      · rw [b4 a (by simp [c1, c2])] at w; exact w
theorem remP_in {D : va_G} {e cap i : Nat} {f : Nat → Option Nat} {h1 : mH} (hr : remP cA D h lst e cap n i f h1) (t1 : ¬ hIn S lst) (t2 : ¬ hIn S e) : ∀ a, hIn S a → h1 a = h a := by
  obtain ⟨mc', f', b1, b2, b3, b4⟩ := hr
  exact fun a w => b4 a (by
    simp only [List.mem_cons, List.not_mem_nil, or_false, not_or]
    exact ⟨fun q => t1 (by rw [← q]; exact w), fun q => t2 (by rw [← q]; exact w)⟩)
theorem iso_lsize {D : va_G} (hI : isIso cA D S h is lst T n V) : ∃ e cap mc f, isLs cA D h lst e cap n mc f := by
  obtain ⟨i0, e, cap, mc, f, rs, hs, -⟩ := hI
  exact ⟨e, cap, mc, f, hs⟩
theorem iso_drop (l : Launch) (D : va_G) (hh : hP cA S P G Ln h) (hI : isIso cA D S h is lst T n V) (hn : n ≤ 1500) (hr : ∀ i, i < n → (V i).2.2.2.natAbs < 2147483648) :
    mCi l yX3_dropEmpty cX3_dropEmpty 3 .int (rmd 4) D (mT cA) [.ref is] h (fun x h1 => x = nI (n - (drpV n n V).1) ∧ hP cA S P G Ln h1 ∧ isIso cA D S h1 is lst T (drpV n n V).1 (drpV n n V).2 ∧ isoFr S T h h1 T) := by
  have hi0 := hI.1
  refine mEnter_i (by decide) (Nat.le_of_ble_eq_true rfl) rfl (fun z X Vz => ?_)
  obtain ⟨e0, cap0, mc0, f0, hs0⟩ := iso_lsize hI
  refine zi_iconst (v := (nI 0)) X dX3_dropEmpty_0 (by decide) ?_
  refine zi_istore_n X dX3_dropEmpty_1 rfl (by decide) ?_
  refine zi_aload_n X dX3_dropEmpty_2 rfl rfl ?_
  refine zi_getf (C := RX3) (T := TX3) (N := 4) (ci := 7) X (by first | assumption | exact mup_self | (rw [mup_ne (by assumption)]; assumption) | (rw [mup_ne (by assumption)]; exact mup_self) | (rw [mup_ne (by assumption), mup_ne (by assumption)]; assumption)) rfl in_X3 1 (by decide) wf_X3_19 rfl rfl dX3_dropEmpty_3 ?_
  refine zi_callVi X (al_size l D hs0) kc_Jx4a65c_size_8abf5 wm_X3_81 hs0.1 rfl wim_Jx4a65c_size_8abf5 wse_Jx4a65c_size_8abf5 ⟨Nat.le_of_ble_eq_true rfl, Nat.le_of_ble_eq_true rfl⟩ rfl rfl (Nat.le_of_ble_eq_true rfl) ⟨Nat.le_of_ble_eq_true rfl, Nat.le_of_ble_eq_true rfl⟩ dX3_dropEmpty_6 (fun x g e1 => ?_)
  obtain ⟨e1, e2⟩ := e1
  subst e1 e2
  obtain ⟨R, hR⟩ : ∃ R, R = drpV n n V := ⟨_, rfl⟩
  rw [← hR] at Vz
  have loop : ∀ (i m rm : Nat) (W : Nat → Iv) (g1 : mH), i ≤ m → m ≤ n → rm = n - m → drpV i m W = R → (∀ j, j < m → (W j).2.2.2.natAbs < 2147483648) → hP cA S P G Ln g1 → isIso cA D S g1 is lst T m W → isoFr S T g g1 T → zM z 0 0 12 [some (.ref is), some (.int (nI rm)), some (.int (nI i - nI 1))] [] g1 := by
    intro i
    induction i with
    | zero =>
      intro m rm W g1 k1 k2 k3 k4 k5 k6 k7 k8
      have c13 : nI 0 - nI 1 < 0 := by decide
      refine zi_iload_n X dX3_dropEmpty_12 rfl rfl ?_
      refine zi_if_lt (tgt := 51) X dX3_dropEmpty_13 (by decide) (fun c_13 => ?_) (fun c_13 => (by first | exact absurd c13 c_13 | exact absurd c_13 c13))
      refine zi_iload_n X dX3_dropEmpty_51 rfl rfl ?_
      refine zi_ireturn X Vz dX3_dropEmpty_52 ?_
      rw [← k4]
      exact ⟨by rw [k3]; rfl, k6, k7, k8⟩
    | succ i ih =>
      intro m rm W g1 k1 k2 k3 k4 k5 k6 k7 k8
      have e9 : nI (i + 1) - nI 1 = nI i := nI_pr i
      rw [e9]
      have c13 : ¬ nI i < 0 := by
        rw [show (0 : Int32) = nI 0 from rfl, nI_ltI (by omega) (by decide)]
        omega
      obtain ⟨e, cap, mc, f, hs, hel, hne, t1, t2, he, hrl, rem⟩ := iso_open k7 (by omega)
      obtain ⟨r, hfr, hgr⟩ := hel i (by omega)
      have ki := k7.1
      refine zi_iload_n X dX3_dropEmpty_12 rfl rfl ?_
      refine zi_if_lt (tgt := 51) X dX3_dropEmpty_13 (by decide) (fun c_13 => (by first | exact absurd c13 c_13 | exact absurd c_13 c13)) (fun c_13 => ?_)
      refine zi_aload_n X dX3_dropEmpty_16 rfl rfl ?_
      refine zi_getf (C := RX3) (T := TX3) (N := 4) (ci := 7) X (by first | assumption | exact mup_self | (rw [mup_ne (by assumption)]; assumption) | (rw [mup_ne (by assumption)]; exact mup_self) | (rw [mup_ne (by assumption), mup_ne (by assumption)]; assumption)) rfl in_X3 1 (by decide) wf_X3_19 rfl rfl dX3_dropEmpty_17 ?_
      refine zi_iload_n X dX3_dropEmpty_20 rfl rfl ?_
      refine zi_callVr X (al_get l D hs (by omega) hfr) kc_Jx4a65c_get_915e3 wm_X3_55 hs.1 rfl wim_Jx4a65c_get_915e3 wse_Jx4a65c_get_915e3 ⟨Nat.le_of_ble_eq_true rfl, Nat.le_of_ble_eq_true rfl⟩ rfl rfl (Nat.le_of_ble_eq_true rfl) ⟨Nat.le_of_ble_eq_true rfl, Nat.le_of_ble_eq_true rfl⟩ dX3_dropEmpty_21 (fun x g2 e1 => ?_)
      obtain ⟨e1, e2⟩ := e1
      subst e1 e2
      refine zi_cast (C := RX2) (T := TX2) (N := 4) (ci := 6) X wc_X3_59 (by first | assumption | exact mup_self | (rw [mup_ne (by assumption)]; assumption) | (rw [mup_ne (by assumption)]; exact mup_self) | (rw [mup_ne (by assumption), mup_ne (by assumption)]; assumption)) rfl dX3_dropEmpty_24 ?_
      refine zi_getf (C := RX2) (T := TX2) (N := 4) (ci := 6) X (by first | assumption | exact mup_self | (rw [mup_ne (by assumption)]; assumption) | (rw [mup_ne (by assumption)]; exact mup_self) | (rw [mup_ne (by assumption), mup_ne (by assumption)]; assumption)) rfl in_X2 3 (by decide) wf_X3_75 rfl rfl dX3_dropEmpty_27 ?_
      unfold drpV at k4
      by_cases c : (W i).2.2.2 = 0
      · rw [if_pos c] at k4
        have c30 : iI (W i).2.2.2 = 0 := by rw [c]; rfl
        refine zi_if_ne (tgt := 45) X dX3_dropEmpty_30 (by decide) (fun c_30 => (by first | exact absurd c30 c_30 | exact absurd c_30 c30)) (fun c_30 => ?_)
        refine zi_aload_n X dX3_dropEmpty_33 rfl rfl ?_
        refine zi_getf (C := RX3) (T := TX3) (N := 4) (ci := 7) X (by first | assumption | exact mup_self | (rw [mup_ne (by assumption)]; assumption) | (rw [mup_ne (by assumption)]; exact mup_self) | (rw [mup_ne (by assumption), mup_ne (by assumption)]; assumption)) rfl in_X3 1 (by decide) wf_X3_19 rfl rfl dX3_dropEmpty_34 ?_
        refine zi_iload_n X dX3_dropEmpty_37 rfl rfl ?_
        refine zi_callVr X (al_remove l D (ci := 6) rfl wb_X2 hs (fun j hj => (by obtain ⟨r', q1, q2⟩ := hel j hj; exact ⟨r', q1, _, q2⟩)) hrl (by omega)) kc_Jx4a65c_remove_915e3 wm_X3_85 hs.1 rfl wim_Jx4a65c_remove_915e3 wse_Jx4a65c_remove_915e3 ⟨Nat.le_of_ble_eq_true rfl, Nat.le_of_ble_eq_true rfl⟩ rfl rfl (Nat.le_of_ble_eq_true rfl) ⟨Nat.le_of_ble_eq_true rfl, Nat.le_of_ble_eq_true rfl⟩ dX3_dropEmpty_38 (fun x2 g3 e3 => ?_)
        refine zi_pop X dX3_dropEmpty_41 rfl ?_
        refine zi_iinc (v := nI (rm + 1)) X dX3_dropEmpty_42 rfl (nI_inc _) (by decide) ?_
        refine zi_iinc X dX3_dropEmpty_45 rfl rfl (by decide) ?_
        refine zi_goto (tgt := 12) X dX3_dropEmpty_48 (by decide) ?_
        rw [i_m1]
        have f3 := remP_fr (S := S) (T := T) e3 t1 t2
        have h3 : hP cA S P G Ln g3 := hP_keep k6 (remP_in e3 (iso_T k7 _ t1) (iso_T k7 _ t2))
        have I3 := rem i g3 (by omega) e3
        refine ih (m - 1) (rm + 1) (delV W i) g3 (by omega) (by omega) (by omega) k4 (fun j hj => ?_) h3 I3 (isoFr_tr k8 f3)
        unfold delV
        split
        · exact k5 j (by omega)
        · exact k5 (j + 1) (by omega)
      · rw [if_neg c] at k4
        have c30 : ¬ iI (W i).2.2.2 = 0 := fun w => c (iI_inj (k5 i (by omega)) (by decide) w)
        refine zi_if_ne (tgt := 45) X dX3_dropEmpty_30 (by decide) (fun c_30 => ?_) (fun c_30 => (by first | exact absurd c30 c_30 | exact absurd c_30 c30))
        refine zi_iinc X dX3_dropEmpty_45 rfl rfl (by decide) ?_
        refine zi_goto (tgt := 12) X dX3_dropEmpty_48 (by decide) ?_
        rw [i_m1]
        exact ih m rm W g2 (by omega) k2 k3 k4 k5 k6 k7 k8
  refine zi_iconst (v := (nI 1)) X dX3_dropEmpty_9 (by decide) ?_
  refine zi_isub X dX3_dropEmpty_10 ?_
  refine zi_istore_n X dX3_dropEmpty_11 rfl (by decide) ?_
  exact loop n n 0 V g (Nat.le_refl _) (Nat.le_refl _) (Nat.sub_self n).symm hR.symm hr hh hI isoFr_rf
end ISO8
