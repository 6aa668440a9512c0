/-! Isolation: begin, split, narrow, dropEmpty -/
theorem MS_X : MS * (2 * 2 ^ 29) ^ 7 < BB ^ 18 := by
  show 2 ^ 320 * (2 * 2 ^ 29) ^ 7 < (2 ^ 30) ^ 18
  decide +kernel
theorem X_BB : 2 ^ 29 < BB := by
  show 2 ^ 29 < 2 ^ 30
  decide
theorem two_X {k : Nat} (h : k < 14) : 2 ^ k ≤ 2 ^ 29 := Nat.pow_le_pow_right (by decide) (by omega)
/-- what writeSturm needs -/
def okW (p : Nat → Int) : Prop := (∀ i, i < 7 → (p i).natAbs < BB ^ 18) ∧ (∀ i, i < 6 → (p (i + 1) * ((i : Int) + 1)).natAbs < BB ^ 18) ∧ ∀ n, n < 5 → stI (stE p (n + 1)) 7 ≠ 0 → szOk (stE p n) (stE p (n + 1))
theorem stM_pos {p : Nat → Int} (hl : stLen p (stM p)) (h0 : stI (stE p 0) 7 ≠ 0) : 0 < stM p := by
  by_cases c : stM p = 0
  · have h1 := hl.2.2 (by omega)
    rw [c] at h1
    exact absurd h1 h0
  · omega
section ISO6
variable {cA : Nat → ClassId} {S : Nat → Nat → Nat} {P : Nat → Nat → Int} {G Ln : Nat → Nat} {h : mH} {is lst n : Nat} {T : Nat → Prop} {V : Nat → Iv}
theorem iso_cong {V' : Nat → Iv} {D : va_G} (hI : isIso cA D S h is lst T n V) (e9 : ∀ j, j < n → V j = V' j) : isIso cA D S h is lst T n V' := by
  obtain ⟨i0, e, cap, mc, f, rs, hs, hE, hel, hinj, t1, t2, t3, t4⟩ := hI
  exact ⟨i0, e, cap, mc, f, rs, hs, hE, fun i hi => ⟨(hel i hi).1, by rw [← e9 i hi]; exact (hel i hi).2⟩, hinj, t1, t2, t3, t4⟩
theorem iso_begin (l : Launch) (D : va_G) (hh : hP cA S P G Ln h) (hI : isIso cA D S h is lst T n V) {a c : Nat} (ha : a < 22 ∧ a ≠ 14) (hc : c < 14) (hGc : G c = stI (P c) 7) (hw : okW (P c)) (hE : okE (P c)) (h0 : stI (stE (P c) 0) 7 ≠ 0) {b : Int} (hb : b.natAbs ≤ 2 ^ 29) :
    mCi l yX3_begin cX3_begin 5 .int (rmc 8 2 2504) D (mT cA) [.ref is, .ref (S 2 a), .ref (S 2 c), .int (iI b)] h (fun x h1 => x = iI (rIn (P c) 0 (-b) b) ∧ ∃ P' G' Ln' T1, hP cA S P' G' Ln' h1 ∧ isIso cA D S h1 is lst T1 1 (fun _ => (0, -b, b, rIn (P c) 0 (-b) b)) ∧ isoFr S T h h1 T1 ∧ P' 14 = P a ∧ G' 14 = G a ∧ (∀ k, k < 14 → P' k = P k ∧ G' k = G k) ∧ sqIs 1 (P c) P' G' Ln' ∧ Ln' 0 = Ln 0) := by
  have hi0 := hI.1
  have hout := hP_out hh hi0 (by decide)
  refine mEnter_i (by decide) (Nat.le_of_ble_eq_true rfl) rfl (fun z X Vz => ?_)
  refine zi_aload_n X dX3_begin_0 rfl rfl ?_
  refine zi_getf (C := RX3) (T := TX3) (N := 4) (ci := 7) X (by first | assumption | exact mup_self | (rw [mup_ne (by assumption)]; assumption) | (rw [mup_ne (by assumption)]; exact mup_self) | (rw [mup_ne (by assumption), mup_ne (by assumption)]; assumption)) rfl in_X3 0 (by decide) wf_X3_10 rfl rfl dX3_begin_1 ?_
  refine zi_aload_n X dX3_begin_4 rfl rfl ?_
  refine zi_callVv X (q_become l D hh (j := 14) (j2 := a) (by decide) ha.1 ha.2) kc_X4_become wm_X3_34 ((hP_p hh (j := 14) (by decide)).1) rfl wim_X4_become wse_X4_become ⟨Nat.le_of_ble_eq_true rfl, Nat.le_of_ble_eq_true rfl⟩ rfl rfl (Nat.le_of_ble_eq_true rfl) ⟨Nat.le_of_ble_eq_true rfl, Nat.le_of_ble_eq_true rfl⟩ dX3_begin_5 (fun g1 e1 => ?_)
  obtain ⟨f1, h1⟩ := e1
  have I1 := iso_hfr hI hh f1
  have i1 := I1.1
  have u14 : ∀ k, k ≠ 14 → updP P 14 (P a) k = P k ∧ updN G 14 (G a) k = G k := fun k hk => ⟨updP_n hk, updN_n hk⟩
  refine zi_aload_n X dX3_begin_8 rfl rfl ?_
  refine zi_getf (C := RX3) (T := TX3) (N := 4) (ci := 7) X (by first | assumption | exact mup_self | (rw [mup_ne (by assumption)]; assumption) | (rw [mup_ne (by assumption)]; exact mup_self) | (rw [mup_ne (by assumption), mup_ne (by assumption)]; assumption)) rfl in_X3 2 (by decide) wf_X3_30 rfl rfl dX3_begin_9 ?_
  refine zi_aload_n X dX3_begin_12 rfl rfl ?_
  refine zi_aload_n X dX3_begin_13 rfl rfl ?_
  refine zi_getf (C := RX3) (T := TX3) (N := 4) (ci := 7) X (by first | assumption | exact mup_self | (rw [mup_ne (by assumption)]; assumption) | (rw [mup_ne (by assumption)]; exact mup_self) | (rw [mup_ne (by assumption), mup_ne (by assumption)]; assumption)) rfl in_X3 3 (by decide) wf_X3_26 rfl rfl dX3_begin_14 ?_
  refine zi_callVv X (q_writeSturm l D h1 (q := 1) (a := c) (by decide) ⟨by omega, Or.inl (show c < 15 by omega)⟩ (by rw [(u14 c (by omega)).1, (u14 c (by omega)).2]; exact hGc) (by rw [(u14 c (by omega)).1]; exact hw.1) (by rw [(u14 c (by omega)).1]; exact hw.2.1) (by rw [(u14 c (by omega)).1]; exact hw.2.2)) kc_X0_writeSturm wm_X3_38 (hP_a h1) rfl wim_X0_writeSturm wse_X0_writeSturm ⟨Nat.le_of_ble_eq_true rfl, Nat.le_of_ble_eq_true rfl⟩ rfl rfl (Nat.le_of_ble_eq_true rfl) ⟨Nat.le_of_ble_eq_true rfl, Nat.le_of_ble_eq_true rfl⟩ dX3_begin_17 (fun g2 e2 => ?_)
  obtain ⟨f2, P2, G2, m, h2, b1, b2, b3⟩ := e2
  rw [(u14 c (by omega)).1] at b1 b3
  have hm := stLen_M b1
  subst hm
  have I2 := iso_hfr I1 h1 f2
  have i2 := I2.1
  have sq : sqIs 1 (P c) P2 G2 (updN Ln 1 (stM (P c))) := ⟨b1, updN_s, b3⟩
  have hpos := stM_pos b1 h0
  have oE := sq_ok sq hE
  have fr2 : isoFr S T h g2 T := isoFr_tr (isoFr_hfr f1 h1) (isoFr_hfr f2 h2)
  refine zi_aload_n X dX3_begin_20 rfl rfl ?_
  refine zi_getf (C := RX3) (T := TX3) (N := 4) (ci := 7) X (by first | assumption | exact mup_self | (rw [mup_ne (by assumption)]; assumption) | (rw [mup_ne (by assumption)]; exact mup_self) | (rw [mup_ne (by assumption), mup_ne (by assumption)]; assumption)) rfl in_X3 1 (by decide) wf_X3_19 rfl rfl dX3_begin_21 ?_
  obtain ⟨-, e, cap, mc, f, rs, hs, hE2, hel, hinj, t1, t2, t3, t4⟩ := I2
  refine zi_dA X (fun hd => ?_)
  have ndA : ∀ a x, g2 a = some x → a ≠ D.2 1000 0 := fun a x w w2 => by rw [w2, hd] at w; cases w
  have hne : lst ≠ e := fun w => by
    by_cases c : cap = 0
    · exact ndA _ _ hs.1 (w.trans (hE2 c))
    · have := hs.1
      rw [w, (t2 c).2] at this; cases this
  refine zi_callVv X (al_clear l D hs hne) kc_Jx4a65c_clear_da8c8 wm_X3_44 hs.1 rfl wim_Jx4a65c_clear_da8c8 wse_Jx4a65c_clear_da8c8 ⟨Nat.le_of_ble_eq_true rfl, Nat.le_of_ble_eq_true rfl⟩ rfl rfl (Nat.le_of_ble_eq_true rfl) ⟨Nat.le_of_ble_eq_true rfl, Nat.le_of_ble_eq_true rfl⟩ dX3_begin_24 (fun g3 e3 => ?_)
  obtain ⟨⟨mc3, f3, hs3, he3⟩, e3⟩ := e3
  have hIn3 : ∀ a, hIn S a → g3 a = g2 a := fun a w => e3 a (fun q => t4 _ t1 (by rw [← q]; exact w)) (fun c q => t4 _ (t2 c).1 (by rw [← q]; exact w))
  have h3 := hP_keep h2 hIn3
  have I3 : isIso cA D S g3 is lst T 0 V := by
    refine ⟨?_, e, cap, mc3, f3, rs, hs3, hE2, fun i hi => absurd hi (Nat.not_lt_zero _), fun i j hi => absurd hi (Nat.not_lt_zero _), t1, fun c => ⟨(t2 c).1, he3 c⟩, fun i hi => absurd hi (Nat.not_lt_zero _), t4⟩
    rw [e3 is (fun q => by have := i2; rw [q, hs.1] at this; cases this) (fun c q => by have := i2; rw [q, (t2 c).2] at this; cases this)]
    exact i2
  have fr3 : isoFr S T g2 g3 T := by
    refine ⟨fun _ w => Or.inl w, fun a x w _ w3 => by rw [e3 a (fun q => w3 (by rw [q]; exact t1)) (fun c q => w3 (by rw [q]; exact (t2 c).1))]; exact w, fun a w => ?_⟩
    by_cases c1 : a = lst
    · rw [c1, hs3.1] at w; cases w
    · by_cases c2 : cap ≠ 0 ∧ a = e
      · rw [c2.2, he3 c2.1] at w; cases w
      · rw [e3 a c1 (fun q1 q2 => c2 ⟨q1, q2⟩)] at w
        exact w
  have i3 := I3.1
  have hb1 : (-b).natAbs < 2147483648 := by omega
  have hb2 : b.natAbs < 2147483648 := by omega
  have hX1 : (iI (-b)).toInt.natAbs ≤ 2 ^ 29 := by rw [iI_int hb1]; omega
  have hX2 : (iI b).toInt.natAbs ≤ 2 ^ 29 := by rw [iI_int hb2]; exact hb
  refine zi_aload_n X dX3_begin_27 rfl rfl ?_
  refine zi_getf (C := RX3) (T := TX3) (N := 4) (ci := 7) X (by first | assumption | exact mup_self | (rw [mup_ne (by assumption)]; assumption) | (rw [mup_ne (by assumption)]; exact mup_self) | (rw [mup_ne (by assumption), mup_ne (by assumption)]; assumption)) rfl in_X3 2 (by decide) wf_X3_30 rfl rfl dX3_begin_28 ?_
  refine zi_aload_n X dX3_begin_31 rfl rfl ?_
  refine zi_getf (C := RX3) (T := TX3) (N := 4) (ci := 7) X (by first | assumption | exact mup_self | (rw [mup_ne (by assumption)]; assumption) | (rw [mup_ne (by assumption)]; exact mup_self) | (rw [mup_ne (by assumption), mup_ne (by assumption)]; assumption)) rfl in_X3 3 (by decide) wf_X3_26 rfl rfl dX3_begin_32 ?_
  refine zi_iconst (v := (nI 0)) X dX3_begin_35 (by decide) ?_
  refine zi_iload_n X dX3_begin_36 rfl rfl ?_
  refine zi_ineg X dX3_begin_37 ?_
  rw [iI_neg]
  have z0 : (0 : Nat) < 14 := by decide
  have oE0 := oE.2 0 (by rw [sq.2.1]; exact hpos)
  refine zi_iload_n X dX3_begin_38 rfl rfl ?_
  refine zi_callVi X (q_rootsInside l D h3 (q := 1) (k := 0) (M := MS) (X := 2 ^ 29) (by decide) oE oE0.1 oE0.2 hX1 hX2 z0 (by decide) X_BB MS_X) kc_X0_rootsInside wm_X3_47 (hP_a h3) rfl wim_X0_rootsInside wse_X0_rootsInside ⟨Nat.le_of_ble_eq_true rfl, Nat.le_of_ble_eq_true rfl⟩ rfl rfl (Nat.le_of_ble_eq_true rfl) ⟨Nat.le_of_ble_eq_true rfl, Nat.le_of_ble_eq_true rfl⟩ dX3_begin_39 (fun x g4 e4 => ?_)
  obtain ⟨f4, h4, e4⟩ := e4
  rw [sq_I sq hpos hb1 hb2] at e4
  subst e4
  have I4 := iso_hfr I3 h3 f4
  have i4 := I4.1
  have fr4 : isoFr S T h g4 T := isoFr_tr fr2 (isoFr_tr fr3 (isoFr_hfr f4 h4))
  refine zi_istore X dX3_begin_42 (by decide) ?_
  refine zi_aload_n X dX3_begin_44 rfl rfl ?_
  refine zi_iconst (v := (nI 0)) X dX3_begin_45 (by decide) ?_
  refine zi_iconst (v := (nI 0)) X dX3_begin_46 (by decide) ?_
  refine zi_iload_n X dX3_begin_47 rfl rfl ?_
  refine zi_ineg X dX3_begin_48 ?_
  rw [iI_neg]
  refine zi_iload_n X dX3_begin_49 rfl rfl ?_
  refine zi_iload X dX3_begin_50 rfl ?_
  refine zi_callVv X (iso_insert l D I4 (by decide) (i := 0) (Nat.le_refl _) (0, -b, b, rIn (P c) 0 (-b) b) (hP_some h4)) kc_X3_insert wm_X3_51 i4 rfl wim_X3_insert wse_X3_insert ⟨Nat.le_of_ble_eq_true rfl, Nat.le_of_ble_eq_true rfl⟩ rfl rfl (Nat.le_of_ble_eq_true rfl) ⟨Nat.le_of_ble_eq_true rfl, Nat.le_of_ble_eq_true rfl⟩ dX3_begin_52 (fun g5 e5 => ?_)
  obtain ⟨T1, I5, hIn5, fr5⟩ := e5
  refine zi_iload X dX3_begin_55 rfl ?_
  refine zi_ireturn X Vz dX3_begin_57 ?_
  refine ⟨rfl, P2, G2, _, T1, hP_keep h4 hIn5, ?_, isoFr_tr fr4 fr5, ?_, ?_, fun k hk => ?_, sq, ?_⟩
  · have e9 : ∀ j, j < 1 → insV V 0 (0, -b, b, rIn (P c) 0 (-b) b) j = (0, -b, b, rIn (P c) 0 (-b) b) := fun j hj => by
      have : j = 0 := by omega
      subst this
      rfl
    exact iso_cong I5 e9
  · rw [(b2 14 (Or.inl (show 14 < 15 by decide))).1, updP_s]
  · rw [(b2 14 (Or.inl (show 14 < 15 by decide))).2, updN_s]
  · rw [(b2 k (Or.inl (show k < 15 by omega))).1, (b2 k (Or.inl (show k < 15 by omega))).2]
    exact u14 k (by omega)
  · exact updN_n (by decide)
end ISO6
