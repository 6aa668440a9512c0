/-! SturmRoots$Isolation -/
def isoO (S : Nat → Nat → Nat) (prt : Nat) : va_E := .inr (7, [.ref (S 2 14), .ref prt, .ref (S 6 0), .ref (S 4 1)])
section ISO
variable {cA : Nat → ClassId} {S : Nat → Nat → Nat} {B : Nat → Int} {P : Nat → Nat → Int} {G Ln : Nat → Nat} {h : mH}
/-- an object of another class is none of the algebra's -/
theorem hA_obj (hh : hA cA S B G Ln h) {a ci : Nat} {fs : List Value} {e : va_E} (ha : h a = some (.inr (ci, fs))) (hci : ci ≠ 4 ∧ ci ≠ 5 ∧ ci ≠ 8 ∧ ci ≠ 9) : hA cA S B G Ln (mup h a e) ∧ hOut S a := by
  obtain ⟨a1, a2, a3, a4, a5⟩ := hh
  have o : ∀ b x, h b = some x → (∀ fs, x ≠ .inr (ci, fs)) → b ≠ a := fun b x q1 q2 q3 => by
    rw [q3, ha] at q1
    exact q2 fs (Option.some.inj q1).symm
  have n0 : ∀ n, n < 164 → S 0 n ≠ a := fun n hn => o _ _ (a1 n hn).1 (fun fs q => by cases q; exact hci.2.1 rfl)
  have n1 : ∀ n, n < 164 → S 1 n ≠ a := fun n hn => o _ _ (a1 n hn).2.1 (fun fs q => by cases q)
  have n2 : ∀ j, j < 22 → S 2 j ≠ a := fun j hj => o _ _ (a2 j hj).1 (fun fs q => by cases q; exact hci.2.2.1 rfl)
  have n3 : ∀ j, j < 22 → S 3 j ≠ a := fun j hj => o _ _ (a2 j hj).2 (fun fs q => by cases q)
  have n4 : ∀ q, q < 2 → S 4 q ≠ a := fun q hq => o _ _ (a3 q hq).1 (fun fs q => by cases q; exact hci.2.2.2 rfl)
  have n5 : ∀ q, q < 2 → S 5 q ≠ a := fun q hq => o _ _ (a3 q hq).2 (fun fs q => by cases q)
  have n6 : S 6 0 ≠ a := o _ _ a4 (fun fs q => by cases q; exact hci.1 rfl)
  refine ⟨⟨fun n hn => ⟨?_, ?_, (a1 n hn).2.2⟩, fun j hj => ⟨?_, ?_⟩, fun q hq => ⟨?_, ?_⟩, ?_, a5⟩, fun n hn => ⟨(n0 n hn).symm, (n1 n hn).symm⟩, fun j hj => (n2 j hj).symm, fun q hq => (n4 q hq).symm⟩
  · rw [mup_ne (n0 n hn)]; exact (a1 n hn).1
  · rw [mup_ne (n1 n hn)]; exact (a1 n hn).2.1
  · rw [mup_ne (n2 j hj)]; exact (a2 j hj).1
  · rw [mup_ne (n3 j hj)]; exact (a2 j hj).2
  · rw [mup_ne (n4 q hq)]; exact (a3 q hq).1
  · rw [mup_ne (n5 q hq)]; exact (a3 q hq).2
  · rw [mup_ne n6]; exact a4
theorem hP_obj (hh : hP cA S P G Ln h) {a ci : Nat} {fs : List Value} {e : va_E} (ha : h a = some (.inr (ci, fs))) (hci : ci ≠ 4 ∧ ci ≠ 5 ∧ ci ≠ 8 ∧ ci ≠ 9) : hP cA S P G Ln (mup h a e) := by
  obtain ⟨B, h1, h2⟩ := hh
  exact ⟨B, (hA_obj h1 ha hci).1, h2⟩
theorem hP_out (hh : hP cA S P G Ln h) {a ci : Nat} {fs : List Value} (ha : h a = some (.inr (ci, fs))) (hci : ci ≠ 4 ∧ ci ≠ 5 ∧ ci ≠ 8 ∧ ci ≠ 9) : hOut S a := by
  obtain ⟨B, h1, h2⟩ := hh
  exact (hA_obj (e := .inr (0, [])) h1 ha hci).2
end ISO
section ISO2
variable {cA : Nat → ClassId} {S : Nat → Nat → Nat} {B : Nat → Int} {P : Nat → Nat → Int} {G Ln : Nat → Nat} {h : mH}
/-- the half, or the midpoint, that narrow keeps: lo, hi, and whether it is the upper half -/
def nrw (P : Nat → Nat → Int) (Ln : Nat → Nat) (k : Nat) (lo hi : Int32) : Int32 × Int32 := if sgnAt (P (sb 1 + 0)) (lo + hi).toInt (k + 1) = 0 then (lo + hi, lo + hi) else if sqI P Ln 1 (k + 1) (nI 2 * lo) (lo + hi) = nI 1 then (nI 2 * lo, lo + hi) else (lo + hi, nI 2 * hi)
theorem iso_narrow (l : Launch) (D : va_G) (hh : hP cA S P G Ln h) {is prt part k M X : Nat} {lo hi rt : Int32} (hi0 : h is = some (isoO S prt)) (hp0 : h part = some (iO (nI k) lo hi rt)) (hs : sqOk P G Ln 1 M) (hG : G (sb 1 + 0) = stI (P (sb 1 + 0)) 7) (hM : ∀ t, t < 7 → (P (sb 1 + 0) t).natAbs ≤ M) (hlo : (nI 2 * lo).toInt.natAbs ≤ X) (hmi : (lo + hi).toInt.natAbs ≤ X) (hk : k < 13) (hKX : 2 ^ (k + 1) ≤ X) (hX : X < BB) (hMX : M * (2 * X) ^ 7 < BB ^ 18) :
    mCv l yX3_narrow cX3_narrow 4 (rmd 6) D (mT cA) [.ref is, .ref part] h (fun h1 => ∃ g, hfr S g h ∧ hP cA S P G Ln g ∧ h1 = mup g part (iO (nI (k + 1)) (nrw P Ln k lo hi).1 (nrw P Ln k lo hi).2 (nI 1))) := by
  obtain ⟨Y, hY⟩ : ∃ Y, Y = X := ⟨_, rfl⟩
  rw [← hY] at hlo hmi hKX hX hMX
  clear hY X
  refine mEnter_v (by decide) (Nat.le_of_ble_eq_true rfl) rfl (fun z X Vz => ?_)
  have oi := hP_out hh hi0 (by decide)
  have op := hP_out hh hp0 (by decide)
  refine zi_aload_n X dX3_narrow_0 rfl rfl ?_
  refine zi_getf (C := RX2) (T := TX2) (N := 4) (ci := 6) X (by first | assumption | exact mup_self | (rw [mup_ne (by assumption)]; assumption) | (rw [mup_ne (by assumption)]; exact mup_self) | (rw [mup_ne (by assumption), mup_ne (by assumption)]; assumption)) rfl in_X2 0 (by decide) wf_X3_61 rfl rfl dX3_narrow_1 ?_
  refine zi_iconst (v := (nI 1)) X dX3_narrow_4 (by decide) ?_
  refine zi_iadd X dX3_narrow_5 ?_
  rw [nI_sc]
  refine zi_istore_n X dX3_narrow_6 rfl (by decide) ?_
  refine zi_aload_n X dX3_narrow_7 rfl rfl ?_
  refine zi_getf (C := RX2) (T := TX2) (N := 4) (ci := 6) X (by first | assumption | exact mup_self | (rw [mup_ne (by assumption)]; assumption) | (rw [mup_ne (by assumption)]; exact mup_self) | (rw [mup_ne (by assumption), mup_ne (by assumption)]; assumption)) rfl in_X2 1 (by decide) wf_X3_65 rfl rfl dX3_narrow_8 ?_
  refine zi_aload_n X dX3_narrow_11 rfl rfl ?_
  refine zi_getf (C := RX2) (T := TX2) (N := 4) (ci := 6) X (by first | assumption | exact mup_self | (rw [mup_ne (by assumption)]; assumption) | (rw [mup_ne (by assumption)]; exact mup_self) | (rw [mup_ne (by assumption), mup_ne (by assumption)]; assumption)) rfl in_X2 2 (by decide) wf_X3_68 rfl rfl dX3_narrow_12 ?_
  refine zi_iadd X dX3_narrow_15 ?_
  refine zi_istore_n X dX3_narrow_16 rfl (by decide) ?_
  refine zi_aload_n X dX3_narrow_17 rfl rfl ?_
  refine zi_getf (C := RX3) (T := TX3) (N := 4) (ci := 7) X (by first | assumption | exact mup_self | (rw [mup_ne (by assumption)]; assumption) | (rw [mup_ne (by assumption)]; exact mup_self) | (rw [mup_ne (by assumption), mup_ne (by assumption)]; assumption)) rfl in_X3 2 (by decide) wf_X3_30 rfl rfl dX3_narrow_18 ?_
  refine zi_aload_n X dX3_narrow_21 rfl rfl ?_
  refine zi_getf (C := RX3) (T := TX3) (N := 4) (ci := 7) X (by first | assumption | exact mup_self | (rw [mup_ne (by assumption)]; assumption) | (rw [mup_ne (by assumption)]; exact mup_self) | (rw [mup_ne (by assumption), mup_ne (by assumption)]; assumption)) rfl in_X3 3 (by decide) wf_X3_26 rfl rfl dX3_narrow_22 ?_
  refine zi_iload_n X dX3_narrow_25 rfl rfl ?_
  refine zi_iload_n X dX3_narrow_26 rfl rfl ?_
  refine zi_callVi X (q_isRoot l D hh (q := 1) (k := k + 1) (by decide) hG hM hmi (by omega) hKX hX hMX) kc_X0_isRoot wm_X3_71 (hP_a hh) rfl wim_X0_isRoot wse_X0_isRoot ⟨Nat.le_of_ble_eq_true rfl, Nat.le_of_ble_eq_true rfl⟩ rfl rfl (Nat.le_of_ble_eq_true rfl) ⟨Nat.le_of_ble_eq_true rfl, Nat.le_of_ble_eq_true rfl⟩ dX3_narrow_27 (fun x g1 e1 => ?_)
  obtain ⟨e1, h1, e3⟩ := e1
  subst e3
  have ip : g1 part = some (iO (nI k) lo hi rt) := by rw [e1 part op]; exact hp0
  have ii : g1 is = some (isoO S prt) := by rw [e1 is oi]; exact hi0
  refine zi_if_eq (tgt := 44) X dX3_narrow_30 (by decide) (fun c_30 => ?_) (fun c_30 => ?_)
  · have hz : ¬ sgnAt (P (sb 1 + 0)) (lo + hi).toInt (k + 1) = 0 := fun w => by rw [if_pos w] at c_30; exact absurd c_30 (by decide)
    refine zi_aload_n X dX3_narrow_44 rfl rfl ?_
    refine zi_getf (C := RX3) (T := TX3) (N := 4) (ci := 7) X (by first | assumption | exact mup_self | (rw [mup_ne (by assumption)]; assumption) | (rw [mup_ne (by assumption)]; exact mup_self) | (rw [mup_ne (by assumption), mup_ne (by assumption)]; assumption)) rfl in_X3 2 (by decide) wf_X3_30 rfl rfl dX3_narrow_45 ?_
    refine zi_aload_n X dX3_narrow_48 rfl rfl ?_
    refine zi_getf (C := RX3) (T := TX3) (N := 4) (ci := 7) X (by first | assumption | exact mup_self | (rw [mup_ne (by assumption)]; assumption) | (rw [mup_ne (by assumption)]; exact mup_self) | (rw [mup_ne (by assumption), mup_ne (by assumption)]; assumption)) rfl in_X3 3 (by decide) wf_X3_26 rfl rfl dX3_narrow_49 ?_
    refine zi_iload_n X dX3_narrow_52 rfl rfl ?_
    refine zi_iconst (v := (nI 2)) X dX3_narrow_53 (by decide) ?_
    refine zi_aload_n X dX3_narrow_54 rfl rfl ?_
    refine zi_getf (C := RX2) (T := TX2) (N := 4) (ci := 6) X (by first | assumption | exact mup_self | (rw [mup_ne (by assumption)]; assumption) | (rw [mup_ne (by assumption)]; exact mup_self) | (rw [mup_ne (by assumption), mup_ne (by assumption)]; assumption)) rfl in_X2 1 (by decide) wf_X3_65 rfl rfl dX3_narrow_55 ?_
    refine zi_imul X dX3_narrow_58 ?_
    refine zi_iload_n X dX3_narrow_59 rfl rfl ?_
    refine zi_callVi X (q_rootsInside l D h1 (q := 1) (k := k + 1) (by decide) hs hG hM hlo hmi (by omega) hKX hX hMX) kc_X0_rootsInside wm_X3_47 (hP_a h1) rfl wim_X0_rootsInside wse_X0_rootsInside ⟨Nat.le_of_ble_eq_true rfl, Nat.le_of_ble_eq_true rfl⟩ rfl rfl (Nat.le_of_ble_eq_true rfl) ⟨Nat.le_of_ble_eq_true rfl, Nat.le_of_ble_eq_true rfl⟩ dX3_narrow_60 (fun x g2 e4 => ?_)
    obtain ⟨e4, h2, e5⟩ := e4
    subst e5
    have jp : g2 part = some (iO (nI k) lo hi rt) := by rw [e4 part op]; exact ip
    refine zi_iconst (v := (nI 1)) X dX3_narrow_63 (by decide) ?_
    refine zi_icmp_ne (tgt := 83) X dX3_narrow_64 (by decide) (fun c_64 => ?_) (fun c_64 => ?_)
    · refine zi_aload_n X dX3_narrow_83 rfl rfl ?_
      refine zi_iload_n X dX3_narrow_84 rfl rfl ?_
      refine zi_iload_n X dX3_narrow_85 rfl rfl ?_
      refine zi_iconst (v := (nI 2)) X dX3_narrow_86 (by decide) ?_
      refine zi_aload_n X dX3_narrow_87 rfl rfl ?_
      refine zi_getf (C := RX2) (T := TX2) (N := 4) (ci := 6) X (by first | assumption | exact mup_self | (rw [mup_ne (by assumption)]; assumption) | (rw [mup_ne (by assumption)]; exact mup_self) | (rw [mup_ne (by assumption), mup_ne (by assumption)]; assumption)) rfl in_X2 2 (by decide) wf_X3_68 rfl rfl dX3_narrow_88 ?_
      refine zi_imul X dX3_narrow_91 ?_
      refine zi_iconst (v := (nI 1)) X dX3_narrow_92 (by decide) ?_
      refine zi_callVv X (i_become l D cA jp) kc_X2_become wm_X3_78 (by first | assumption | exact mup_self | (rw [mup_ne (by assumption)]; assumption) | (rw [mup_ne (by assumption)]; exact mup_self) | (rw [mup_ne (by assumption), mup_ne (by assumption)]; assumption)) rfl wim_X2_become wse_X2_become ⟨Nat.le_of_ble_eq_true rfl, Nat.le_of_ble_eq_true rfl⟩ rfl rfl (Nat.le_of_ble_eq_true rfl) ⟨Nat.le_of_ble_eq_true rfl, Nat.le_of_ble_eq_true rfl⟩ dX3_narrow_93 (fun g3 e6 => ?_)
      refine zi_return X Vz dX3_narrow_96 ?_
      refine ⟨g2, hfr_tr e4 e1, h2, ?_⟩
      rw [e6]
      unfold nrw
      rw [if_neg hz, if_neg c_64]
    · refine zi_aload_n X dX3_narrow_67 rfl rfl ?_
      refine zi_iload_n X dX3_narrow_68 rfl rfl ?_
      refine zi_iconst (v := (nI 2)) X dX3_narrow_69 (by decide) ?_
      refine zi_aload_n X dX3_narrow_70 rfl rfl ?_
      refine zi_getf (C := RX2) (T := TX2) (N := 4) (ci := 6) X (by first | assumption | exact mup_self | (rw [mup_ne (by assumption)]; assumption) | (rw [mup_ne (by assumption)]; exact mup_self) | (rw [mup_ne (by assumption), mup_ne (by assumption)]; assumption)) rfl in_X2 1 (by decide) wf_X3_65 rfl rfl dX3_narrow_71 ?_
      refine zi_imul X dX3_narrow_74 ?_
      refine zi_iload_n X dX3_narrow_75 rfl rfl ?_
      refine zi_iconst (v := (nI 1)) X dX3_narrow_76 (by decide) ?_
      refine zi_callVv X (i_become l D cA jp) kc_X2_become wm_X3_78 (by first | assumption | exact mup_self | (rw [mup_ne (by assumption)]; assumption) | (rw [mup_ne (by assumption)]; exact mup_self) | (rw [mup_ne (by assumption), mup_ne (by assumption)]; assumption)) rfl wim_X2_become wse_X2_become ⟨Nat.le_of_ble_eq_true rfl, Nat.le_of_ble_eq_true rfl⟩ rfl rfl (Nat.le_of_ble_eq_true rfl) ⟨Nat.le_of_ble_eq_true rfl, Nat.le_of_ble_eq_true rfl⟩ dX3_narrow_77 (fun g3 e6 => ?_)
      refine zi_goto (tgt := 96) X dX3_narrow_80 (by decide) ?_
      refine zi_return X Vz dX3_narrow_96 ?_
      refine ⟨g2, hfr_tr e4 e1, h2, ?_⟩
      rw [e6]
      unfold nrw
      rw [if_neg hz, if_pos c_64]
  · have hz : sgnAt (P (sb 1 + 0)) (lo + hi).toInt (k + 1) = 0 := by
      by_cases w : sgnAt (P (sb 1 + 0)) (lo + hi).toInt (k + 1) = 0
      · exact w
      · rw [if_neg w] at c_30; exact absurd rfl c_30
    refine zi_aload_n X dX3_narrow_33 rfl rfl ?_
    refine zi_iload_n X dX3_narrow_34 rfl rfl ?_
    refine zi_iload_n X dX3_narrow_35 rfl rfl ?_
    refine zi_iload_n X dX3_narrow_36 rfl rfl ?_
    refine zi_iconst (v := (nI 1)) X dX3_narrow_37 (by decide) ?_
    refine zi_callVv X (i_become l D cA ip) kc_X2_become wm_X3_78 (by first | assumption | exact mup_self | (rw [mup_ne (by assumption)]; assumption) | (rw [mup_ne (by assumption)]; exact mup_self) | (rw [mup_ne (by assumption), mup_ne (by assumption)]; assumption)) rfl wim_X2_become wse_X2_become ⟨Nat.le_of_ble_eq_true rfl, Nat.le_of_ble_eq_true rfl⟩ rfl rfl (Nat.le_of_ble_eq_true rfl) ⟨Nat.le_of_ble_eq_true rfl, Nat.le_of_ble_eq_true rfl⟩ dX3_narrow_38 (fun g3 e6 => ?_)
    refine zi_goto (tgt := 96) X dX3_narrow_41 (by decide) ?_
    refine zi_return X Vz dX3_narrow_96 ?_
    refine ⟨g1, e1, h1, ?_⟩
    rw [e6]
    unfold nrw
    rw [if_pos hz]
end ISO2
