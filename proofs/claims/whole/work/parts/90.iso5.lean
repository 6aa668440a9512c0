/-! Isolation: split, dropEmpty -/
def splN (p : Nat → Int) (v : Iv) (n : Nat) : Nat := if sgnAt (stE p 0) (v.2.1 + v.2.2.1) (v.1 + 1) = 0 then n + 2 else n + 1
def splV (p : Nat → Int) (v : Iv) (V : Nat → Iv) (i : Nat) : Nat → Iv :=
  let mid := v.2.1 + v.2.2.1
  let bef := rIn p (v.1 + 1) (2 * v.2.1) mid
  let on : Int := if sgnAt (stE p 0) mid (v.1 + 1) = 0 then 1 else 0
  let V2 := insV (setV V i (v.1 + 1, 2 * v.2.1, mid, bef)) (i + 1) (v.1 + 1, mid, 2 * v.2.2.1, v.2.2.2 - bef - on)
  if sgnAt (stE p 0) mid (v.1 + 1) = 0 then insV V2 (i + 1) (v.1 + 1, mid, mid, 1) else V2
section ISO7
variable {cA : Nat → ClassId} {S : Nat → Nat → Nat} {P : Nat → Nat → Int} {G Ln : Nat → Nat} {h : mH} {is lst n : Nat} {T : Nat → Prop} {V : Nat → Iv}
theorem iso_T {D : va_G} (hI : isIso cA D S h is lst T n V) : ∀ a, T a → ¬ hIn S a := by
  obtain ⟨i0, e, cap, mc, f, rs, hs, hE, hel, hinj, t1, t2, t3, t4⟩ := hI
  exact t4
theorem iso_split (l : Launch) (D : va_G) (hh : hP cA S P G Ln h) (hI : isIso cA D S h is lst T n V) (hn : n ≤ 1040) {i : Nat} (hi : i < n) {p : Nat → Int} (sq : sqIs 1 p P G Ln) (hE : okE p) (hpos : 0 < stM p) {k : Nat} {lo hi' rt : Int} (hv : V i = (k, lo, hi', rt)) (hk : k < 13) (hlo : lo.natAbs ≤ 2 ^ 27) (hhi : hi'.natAbs ≤ 2 ^ 27) :
    mCv l yX3_split cX3_split 10 (rmc 8 4 5008) D (mT cA) [.ref is, .int (nI i)] h (fun h1 => ∃ T1, hP cA S P G Ln h1 ∧ isIso cA D S h1 is lst T1 (splN p (k, lo, hi', rt) n) (splV p (k, lo, hi', rt) V i) ∧ isoFr S T h h1 T1) := by
  have hi0 := hI.1
  have oE := sq_ok sq hE
  have oE0 := oE.2 0 (by rw [sq.2.1]; exact hpos)
  refine mEnter_v (by decide) (Nat.le_of_ble_eq_true rfl) rfl (fun z X Vz => ?_)
  obtain ⟨r, e, cap, mc, f, hs, hf, hr, ht, hnr, up⟩ := iso_at hI hi
  have tI := iso_T hI
  rw [hv] at hr
  refine zi_aload_n X dX3_split_0 rfl rfl ?_
  refine zi_getf (C := RX3) (T := TX3) (N := 4) (ci := 7) X (by first | assumption | exact mup_self | (rw [mup_ne (by assumption)]; assumption) | (rw [mup_ne (by assumption)]; exact mup_self) | (rw [mup_ne (by assumption), mup_ne (by assumption)]; assumption)) rfl in_X3 1 (by decide) wf_X3_19 rfl rfl dX3_split_1 ?_
  refine zi_iload_n X dX3_split_4 rfl rfl ?_
  refine zi_callVr X (al_get l D hs hi hf) kc_Jx4a65c_get_915e3 wm_X3_55 hs.1 rfl wim_Jx4a65c_get_915e3 wse_Jx4a65c_get_915e3 ⟨Nat.le_of_ble_eq_true rfl, Nat.le_of_ble_eq_true rfl⟩ rfl rfl (Nat.le_of_ble_eq_true rfl) ⟨Nat.le_of_ble_eq_true rfl, Nat.le_of_ble_eq_true rfl⟩ dX3_split_5 (fun x g e1 => ?_)
  obtain ⟨e1, e2⟩ := e1
  subst e1 e2
  refine zi_cast (C := RX2) (T := TX2) (N := 4) (ci := 6) X wc_X3_59 (by first | assumption | exact mup_self | (rw [mup_ne (by assumption)]; assumption) | (rw [mup_ne (by assumption)]; exact mup_self) | (rw [mup_ne (by assumption), mup_ne (by assumption)]; assumption)) rfl dX3_split_8 ?_
  refine zi_astore_n X dX3_split_11 rfl (by decide) ?_
  refine zi_aload_n X dX3_split_12 rfl rfl ?_
  refine zi_getf (C := RX2) (T := TX2) (N := 4) (ci := 6) X (by first | assumption | exact mup_self | (rw [mup_ne (by assumption)]; assumption) | (rw [mup_ne (by assumption)]; exact mup_self) | (rw [mup_ne (by assumption), mup_ne (by assumption)]; assumption)) rfl in_X2 0 (by decide) wf_X3_61 rfl rfl dX3_split_13 ?_
  refine zi_iconst (v := (nI 1)) X dX3_split_16 (by decide) ?_
  refine zi_iadd X dX3_split_17 ?_
  rw [show nI k + nI 1 = nI (k + 1) from (nI_succ k).symm]
  refine zi_istore_n X dX3_split_18 rfl (by decide) ?_
  refine zi_iconst (v := (nI 2)) X dX3_split_19 (by decide) ?_
  refine zi_aload_n X dX3_split_20 rfl rfl ?_
  refine zi_getf (C := RX2) (T := TX2) (N := 4) (ci := 6) X (by first | assumption | exact mup_self | (rw [mup_ne (by assumption)]; assumption) | (rw [mup_ne (by assumption)]; exact mup_self) | (rw [mup_ne (by assumption), mup_ne (by assumption)]; assumption)) rfl in_X2 1 (by decide) wf_X3_65 rfl rfl dX3_split_21 ?_
  refine zi_imul X dX3_split_24 ?_
  rw [show nI 2 * iI (k, lo, hi', rt).2.1 = iI (2 * lo) from iI_mul2 lo]
  refine zi_istore X dX3_split_25 (by decide) ?_
  refine zi_aload_n X dX3_split_27 rfl rfl ?_
  refine zi_getf (C := RX2) (T := TX2) (N := 4) (ci := 6) X (by first | assumption | exact mup_self | (rw [mup_ne (by assumption)]; assumption) | (rw [mup_ne (by assumption)]; exact mup_self) | (rw [mup_ne (by assumption), mup_ne (by assumption)]; assumption)) rfl in_X2 1 (by decide) wf_X3_65 rfl rfl dX3_split_28 ?_
  refine zi_aload_n X dX3_split_31 rfl rfl ?_
  refine zi_getf (C := RX2) (T := TX2) (N := 4) (ci := 6) X (by first | assumption | exact mup_self | (rw [mup_ne (by assumption)]; assumption) | (rw [mup_ne (by assumption)]; exact mup_self) | (rw [mup_ne (by assumption), mup_ne (by assumption)]; assumption)) rfl in_X2 2 (by decide) wf_X3_68 rfl rfl dX3_split_32 ?_
  refine zi_iadd X dX3_split_35 ?_
  rw [show iI (k, lo, hi', rt).2.1 + iI (k, lo, hi', rt).2.2.1 = iI (lo + hi') from iI_add lo hi']
  refine zi_istore X dX3_split_36 (by decide) ?_
  refine zi_iconst (v := (nI 2)) X dX3_split_38 (by decide) ?_
  refine zi_aload_n X dX3_split_39 rfl rfl ?_
  refine zi_getf (C := RX2) (T := TX2) (N := 4) (ci := 6) X (by first | assumption | exact mup_self | (rw [mup_ne (by assumption)]; assumption) | (rw [mup_ne (by assumption)]; exact mup_self) | (rw [mup_ne (by assumption), mup_ne (by assumption)]; assumption)) rfl in_X2 2 (by decide) wf_X3_68 rfl rfl dX3_split_40 ?_
  refine zi_imul X dX3_split_43 ?_
  rw [show nI 2 * iI (k, lo, hi', rt).2.2.1 = iI (2 * hi') from iI_mul2 hi']
  refine zi_istore X dX3_split_44 (by decide) ?_
  refine zi_aload_n X dX3_split_46 rfl rfl ?_
  refine zi_getf (C := RX3) (T := TX3) (N := 4) (ci := 7) X (by first | assumption | exact mup_self | (rw [mup_ne (by assumption)]; assumption) | (rw [mup_ne (by assumption)]; exact mup_self) | (rw [mup_ne (by assumption), mup_ne (by assumption)]; assumption)) rfl in_X3 2 (by decide) wf_X3_30 rfl rfl dX3_split_47 ?_
  refine zi_aload_n X dX3_split_50 rfl rfl ?_
  refine zi_getf (C := RX3) (T := TX3) (N := 4) (ci := 7) X (by first | assumption | exact mup_self | (rw [mup_ne (by assumption)]; assumption) | (rw [mup_ne (by assumption)]; exact mup_self) | (rw [mup_ne (by assumption), mup_ne (by assumption)]; assumption)) rfl in_X3 3 (by decide) wf_X3_26 rfl rfl dX3_split_51 ?_
  refine zi_iload_n X dX3_split_54 rfl rfl ?_
  refine zi_iload X dX3_split_55 rfl ?_
  refine zi_iload X dX3_split_57 rfl ?_
  have z1 : (2 * lo).natAbs < 2147483648 := by omega
  have z2 : (lo + hi').natAbs < 2147483648 := by omega
  have z3 : (iI (2 * lo)).toInt.natAbs ≤ 2 ^ 29 := by rw [iI_int z1]; omega
  have z4 : (iI (lo + hi')).toInt.natAbs ≤ 2 ^ 29 := by rw [iI_int z2]; omega
  refine zi_callVi X (q_rootsInside l D hh (q := 1) (k := k + 1) (M := MS) (X := 2 ^ 29) (by decide) oE oE0.1 oE0.2 z3 z4 (by omega) (two_X (by omega)) X_BB MS_X) kc_X0_rootsInside wm_X3_47 (hP_a hh) rfl wim_X0_rootsInside wse_X0_rootsInside ⟨Nat.le_of_ble_eq_true rfl, Nat.le_of_ble_eq_true rfl⟩ rfl rfl (Nat.le_of_ble_eq_true rfl) ⟨Nat.le_of_ble_eq_true rfl, Nat.le_of_ble_eq_true rfl⟩ dX3_split_59 (fun x g2 e4 => ?_)
  obtain ⟨f2, h2, e4⟩ := e4
  rw [sq_I sq hpos z1 z2] at e4
  subst e4
  have I2 := iso_hfr hI hh f2
  have i2 := I2.1
  have r2 : g2 x = some (ivO (k, lo, hi', rt)) := by rw [f2 _ (hIn_out hnr)]; exact hr
  refine zi_istore X dX3_split_62 (by decide) ?_
  refine zi_aload_n X dX3_split_64 rfl rfl ?_
  refine zi_getf (C := RX3) (T := TX3) (N := 4) (ci := 7) X (by first | assumption | exact mup_self | (rw [mup_ne (by assumption)]; assumption) | (rw [mup_ne (by assumption)]; exact mup_self) | (rw [mup_ne (by assumption), mup_ne (by assumption)]; assumption)) rfl in_X3 2 (by decide) wf_X3_30 rfl rfl dX3_split_65 ?_
  refine zi_aload_n X dX3_split_68 rfl rfl ?_
  refine zi_getf (C := RX3) (T := TX3) (N := 4) (ci := 7) X (by first | assumption | exact mup_self | (rw [mup_ne (by assumption)]; assumption) | (rw [mup_ne (by assumption)]; exact mup_self) | (rw [mup_ne (by assumption), mup_ne (by assumption)]; assumption)) rfl in_X3 3 (by decide) wf_X3_26 rfl rfl dX3_split_69 ?_
  refine zi_iload_n X dX3_split_72 rfl rfl ?_
  refine zi_iload X dX3_split_73 rfl ?_
  refine zi_callVi X (q_isRoot l D h2 (q := 1) (k := k + 1) (M := MS) (X := 2 ^ 29) (by decide) oE0.1 oE0.2 z4 (by omega) (two_X (by omega)) X_BB MS_X) kc_X0_isRoot wm_X3_71 (hP_a h2) rfl wim_X0_isRoot wse_X0_isRoot ⟨Nat.le_of_ble_eq_true rfl, Nat.le_of_ble_eq_true rfl⟩ rfl rfl (Nat.le_of_ble_eq_true rfl) ⟨Nat.le_of_ble_eq_true rfl, Nat.le_of_ble_eq_true rfl⟩ dX3_split_75 (fun y g3 e5 => ?_)
  obtain ⟨f3, h3, e5⟩ := e5
  rw [(sq.2.2 0 hpos).1, iI_int z2] at e5
  have I3 := iso_hfr I2 h2 f3
  have r3 : g3 x = some (ivO (k, lo, hi', rt)) := by rw [f3 _ (hIn_out hnr)]; exact r2
  have fr3 : isoFr S T g g3 T := isoFr_tr (isoFr_hfr f2 h2) (isoFr_hfr f3 h3)
  have tail : ∀ on : Int, on = (if sgnAt (stE p 0) (lo + hi') (k + 1) = 0 then 1 else 0) → zM z 0 0 86 [some (.ref is), some (.int (nI i)), some (.ref x), some (.int (nI (k + 1))), some (.int (iI (2 * lo))), some (.int (iI (lo + hi'))), some (.int (iI (2 * hi'))), some (.int (iI (rIn p (k + 1) (2 * lo) (lo + hi')))), none, none] [.int (iI on)] g3 := by
    intro on hon
    have hon2 : on = 1 ∧ sgnAt (stE p 0) (lo + hi') (k + 1) = 0 ∨ on = 0 ∧ ¬ sgnAt (stE p 0) (lo + hi') (k + 1) = 0 := by
      by_cases c : sgnAt (stE p 0) (lo + hi') (k + 1) = 0
      · exact Or.inl ⟨by rw [hon, if_pos c], c⟩
      · exact Or.inr ⟨by rw [hon, if_neg c], c⟩
    refine zi_istore X dX3_split_86 (by decide) ?_
    refine zi_aload_n X dX3_split_88 rfl rfl ?_
    refine zi_getf (C := RX2) (T := TX2) (N := 4) (ci := 6) X (by first | assumption | exact mup_self | (rw [mup_ne (by assumption)]; assumption) | (rw [mup_ne (by assumption)]; exact mup_self) | (rw [mup_ne (by assumption), mup_ne (by assumption)]; assumption)) rfl in_X2 3 (by decide) wf_X3_75 rfl rfl dX3_split_89 ?_
    refine zi_iload X dX3_split_92 rfl ?_
    refine zi_isub X dX3_split_94 ?_
    rw [show iI (k, lo, hi', rt).2.2.2 - iI (rIn p (k + 1) (2 * lo) (lo + hi')) = iI (rt - rIn p (k + 1) (2 * lo) (lo + hi')) from iI_sub _ _]
    refine zi_iload X dX3_split_95 rfl ?_
    refine zi_isub X dX3_split_97 ?_
    rw [iI_sub]
    refine zi_istore X dX3_split_98 (by decide) ?_
    refine zi_aload_n X dX3_split_100 rfl rfl ?_
    refine zi_iload_n X dX3_split_101 rfl rfl ?_
    refine zi_iload X dX3_split_102 rfl ?_
    refine zi_iload X dX3_split_104 rfl ?_
    refine zi_iload X dX3_split_106 rfl ?_
    generalize hbef : rIn p (k + 1) (2 * lo) (lo + hi') = bef
    refine zi_callVv X (i_become l D cA r3) kc_X2_become wm_X3_78 r3 rfl wim_X2_become wse_X2_become ⟨Nat.le_of_ble_eq_true rfl, Nat.le_of_ble_eq_true rfl⟩ rfl rfl (Nat.le_of_ble_eq_true rfl) ⟨Nat.le_of_ble_eq_true rfl, Nat.le_of_ble_eq_true rfl⟩ dX3_split_108 (fun g4 e6 => ?_)
    have hag : ∀ a, T a ∨ a = is → g3 a = g a := fun a w => by
      have q : hOut S a := by
        rcases w with w | w
        · exact hIn_out (tI _ w)
        · rw [w]; exact hP_out hh hi0 (by decide)
      rw [f3 a q, f2 a q]
    have I4 : isIso cA D S g4 is lst T n (setV V i (k + 1, 2 * lo, lo + hi', bef)) := by
      rw [e6]
      exact up g3 hag (k + 1, 2 * lo, lo + hi', bef)
    have fr4 : isoFr S T g g4 T := by
      rw [e6]
      exact isoFr_tr fr3 (isoFr_up r3 ht)
    have h4 : hP cA S P G Ln g4 := by rw [e6]; exact hP_up h3 hnr
    have i4 := I4.1
    refine zi_aload_n X dX3_split_111 rfl rfl ?_
    refine zi_iload_n X dX3_split_112 rfl rfl ?_
    refine zi_iconst (v := (nI 1)) X dX3_split_113 (by decide) ?_
    refine zi_iadd X dX3_split_114 ?_
    rw [show nI i + nI 1 = nI (i + 1) from (nI_succ i).symm]
    refine zi_iload_n X dX3_split_115 rfl rfl ?_
    refine zi_iload X dX3_split_116 rfl ?_
    refine zi_iload X dX3_split_118 rfl ?_
    refine zi_iload X dX3_split_120 rfl ?_
    refine zi_callVv X (iso_insert l D I4 (by omega) (i := i + 1) (by omega) (k + 1, lo + hi', 2 * hi', rt - bef - on) (hP_some h4)) kc_X3_insert wm_X3_51 i4 rfl wim_X3_insert wse_X3_insert ⟨Nat.le_of_ble_eq_true rfl, Nat.le_of_ble_eq_true rfl⟩ rfl rfl (Nat.le_of_ble_eq_true rfl) ⟨Nat.le_of_ble_eq_true rfl, Nat.le_of_ble_eq_true rfl⟩ dX3_split_122 (fun g5 e7 => ?_)
    obtain ⟨T5, I5, hIn5, fr5⟩ := e7
    have h5 := hP_keep h4 hIn5
    have i5 := I5.1
    have fr5' := isoFr_tr fr4 fr5
    refine zi_iload X dX3_split_125 rfl ?_
    rcases hon2 with ⟨rfl, c⟩ | ⟨rfl, c⟩
    · have c127 : ¬ iI 1 ≤ 0 := by decide
      refine zi_if_le (tgt := 144) X dX3_split_127 (by decide) (fun c_127 => (by first | exact absurd c127 c_127 | exact absurd c_127 c127)) (fun c_127 => ?_)
      refine zi_aload_n X dX3_split_130 rfl rfl ?_
      refine zi_iload_n X dX3_split_131 rfl rfl ?_
      refine zi_iconst (v := (nI 1)) X dX3_split_132 (by decide) ?_
      refine zi_iadd X dX3_split_133 ?_
      rw [show nI i + nI 1 = nI (i + 1) from (nI_succ i).symm]
      refine zi_iload_n X dX3_split_134 rfl rfl ?_
      refine zi_iload X dX3_split_135 rfl ?_
      refine zi_iload X dX3_split_137 rfl ?_
      refine zi_iload X dX3_split_139 rfl ?_
      refine zi_callVv X (iso_insert l D I5 (by omega) (i := i + 1) (by omega) (k + 1, lo + hi', lo + hi', 1) (hP_some h5)) kc_X3_insert wm_X3_51 i5 rfl wim_X3_insert wse_X3_insert ⟨Nat.le_of_ble_eq_true rfl, Nat.le_of_ble_eq_true rfl⟩ rfl rfl (Nat.le_of_ble_eq_true rfl) ⟨Nat.le_of_ble_eq_true rfl, Nat.le_of_ble_eq_true rfl⟩ dX3_split_141 (fun g6 e8 => ?_)
      obtain ⟨T6, I6, hIn6, fr6⟩ := e8
      refine zi_return X Vz dX3_split_144 ?_
      refine ⟨T6, hP_keep h5 hIn6, ?_, isoFr_tr fr5' fr6⟩
      unfold splN splV
      dsimp only
      rw [if_pos c, if_pos c, if_pos c, hbef]
      exact I6
    · have c127 : iI 0 ≤ 0 := by decide
      refine zi_if_le (tgt := 144) X dX3_split_127 (by decide) (fun c_127 => ?_) (fun c_127 => (by first | exact absurd c127 c_127 | exact absurd c_127 c127))
      refine zi_widen (k := 4) (n := 5008) (by decide) (by decide) ?_
      refine zi_return X Vz dX3_split_144 ?_
      refine ⟨T5, h5, ?_, fr5'⟩
      unfold splN splV
      dsimp only
      rw [if_neg c, if_neg c, if_neg c, hbef]
      exact I5
  by_cases c : sgnAt (stE p 0) (lo + hi') (k + 1) = 0
  · rw [if_pos c] at e5
    subst e5
    have c78 : ¬ nI 1 = 0 := by decide
    refine zi_if_eq (tgt := 85) X dX3_split_78 (by decide) (fun c_78 => (by first | exact absurd c78 c_78 | exact absurd c_78 c78)) (fun c_78 => ?_)
    refine zi_iconst (v := (nI 1)) X dX3_split_81 (by decide) ?_
    refine zi_goto (tgt := 86) X dX3_split_82 (by decide) ?_
    exact tail 1 (if_pos c).symm
  · rw [if_neg c] at e5
    subst e5
    have c78 : nI 0 = 0 := by decide
    refine zi_if_eq (tgt := 85) X dX3_split_78 (by decide) (fun c_78 => ?_) (fun c_78 => (by first | exact absurd c78 c_78 | exact absurd c_78 c78))
    refine zi_iconst (v := (nI 0)) X dX3_split_85 (by decide) ?_
    exact tail 0 (if_neg c).symm
end ISO7
