/-! SturmRootsModel: removeEmpty -/
def cmpN (V : Nat → Iv) : Nat → Nat
  | 0 => 0
  | j + 1 => if 0 < (V j).2.2.2 then cmpN V j + 1 else cmpN V j
def cmpV (V : Nat → Iv) : Nat → Nat → Iv
  | 0 => V
  | j + 1 => fun t => if t = cmpN V j then V j else cmpV V j t
theorem cmpN_le (V : Nat → Iv) : ∀ j, cmpN V j ≤ j
  | 0 => Nat.le_refl 0
  | j + 1 => by
    have := cmpN_le V j
    rw [cmpN]
    split <;> omega
theorem cmpV_ge (V : Nat → Iv) : ∀ j t, j ≤ t → cmpV V j t = V t
  | 0, t, _ => rfl
  | j + 1, t, h => by
    have := cmpN_le V j
    rw [cmpV]
    dsimp only
    rw [if_neg (by omega)]
    exact cmpV_ge V j t (by omega)
section RE
variable {cA : Nat → ClassId} {M : Nat → Nat → Nat} {h h1 : mH} {o : RO} {Sl : Nat → Nat → Int} {kp : Nat → Int} {cap n : Nat} {V : Nat → Iv} {P : Nat → Nat → Int}
theorem u_removeEmpty (l : Launch) (D : va_G) (hu : rU cA M h o Sl kp cap n V P) (ho : o.2.2.1 = nI n) (hV : ∀ i, i < n → ivB (V i)) :
    mCi l yX7_removeEmpty cX7_removeEmpty 3 .int (rmd 2) D (mT cA) [.ref (M 3 0)] h (fun r h1 => r = nI (n - cmpN V n) ∧ rU cA M h1 (nI 0, o.2.1, nI (cmpN V n), o.2.2.2) Sl kp cap (cmpN V n) (cmpV V n) P) := by
  obtain ⟨f, hF, hnc, hv⟩ := rU_F hu
  have cl : cap ≤ 2048 := (hF.2.2.1.1 0 (by decide)).2.1
  have x1 := hu.2.1.1
  refine mEnter_i (by decide) (Nat.le_of_ble_eq_true rfl) rfl (fun z X Vz => ?_)
  refine zi_iconst (v := (nI 0)) X dX7_removeEmpty_0 (by decide) ?_
  refine zi_istore_n X dX7_removeEmpty_1 rfl (by decide) ?_
  refine zi_iconst (v := (nI 0)) X dX7_removeEmpty_2 (by decide) ?_
  refine zi_istore_n X dX7_removeEmpty_3 rfl (by decide) ?_
  suffices key : ∀ w j (g : mH) (f' : Nat → Nat → Int32), j + w = n → rF cA M g o Sl kp (fun _ => cap) f' P → (∀ i t, i < n → t < 4 → f' t i = cpI t (cmpV V j i)) → zM z 0 0 4 [some (.ref (M 3 0)), some (.int (nI (cmpN V j))), some (.int (nI j))] [] g from
    zi_sub (by repeat (first | exact trivial | refine And.intro rfl ?_)) (key n 0 h f (Nat.zero_add n) hF (ivs_cp.mp hv))
  intro w
  induction w with
  | zero =>
    intro j g f' hj hg hf
    obtain rfl : j = n := by omega
    have y1 := hg.2.1.1
    have kn := cmpN_le V j
    refine zi_iload_n X dX7_removeEmpty_4 rfl rfl ?_
    refine zi_aload_n X dX7_removeEmpty_5 rfl rfl ?_
    refine zi_getf (C := RX7) (T := TX7) (N := 27) (ci := 11) X (by first | assumption | exact mup_self | (rw [mup_ne (by assumption)]; assumption) | (rw [mup_ne (by assumption)]; exact mup_self) | (rw [mup_ne (by assumption), mup_ne (by assumption)]; assumption)) rfl in_X7 26 (by decide) wf_X7_285 rfl rfl dX7_removeEmpty_6 ?_
    rw [ho]
    refine zi_icmp_ge (tgt := 83) X dX7_removeEmpty_9 (by decide) (fun c_9 => ?_) (fun c_9 => (by first | exact absurd (Int32.le_refl _) c_9 | exact absurd c_9 (Int32.le_refl _)))
    refine zi_aload_n X dX7_removeEmpty_83 rfl rfl ?_
    refine zi_getf (C := RX7) (T := TX7) (N := 27) (ci := 11) X (by first | assumption | exact mup_self | (rw [mup_ne (by assumption)]; assumption) | (rw [mup_ne (by assumption)]; exact mup_self) | (rw [mup_ne (by assumption), mup_ne (by assumption)]; assumption)) rfl in_X7 26 (by decide) wf_X7_285 rfl rfl dX7_removeEmpty_84 ?_
    rw [ho]
    refine zi_iload_n X dX7_removeEmpty_87 rfl rfl ?_
    refine zi_isub X dX7_removeEmpty_88 ?_
    rw [pk_sub kn]
    refine zi_istore_n X dX7_removeEmpty_89 rfl (by decide) ?_
    refine zi_aload_n X dX7_removeEmpty_90 rfl rfl ?_
    refine zi_iload_n X dX7_removeEmpty_91 rfl rfl ?_
    refine zi_putf (C := RX7) (T := TX7) (N := 27) (ci := 11) (ty0 := tyX7) X (by first | assumption | exact mup_self | (rw [mup_ne (by assumption)]; assumption) | (rw [mup_ne (by assumption)]; exact mup_self) | (rw [mup_ne (by assumption), mup_ne (by assumption)]; assumption)) rfl in_X7 tyX7_ok nmX7 26 (by decide) wf_X7_285 rfl rfl rfl rfl rfl (Nat.le_of_ble_eq_true rfl) dX7_removeEmpty_92 ?_
    have hg2 := rF_o hg (o.1, o.2.1, nI (cmpN V j), o.2.2.2) rfl
    refine zi_eqh (h' := mup g (M 3 0) (mO M (o.1, o.2.1, nI (cmpN V j), o.2.2.2))) rfl ?_
    have hU := rF_U hg2 (n := cmpN V j) (V := cmpV V j) (by omega) (ivs_cp.mpr (fun i t hi ht => hf i t (by omega) ht))
    refine zi_aload_n X dX7_removeEmpty_95 rfl rfl ?_
    refine zi_iload_n X dX7_removeEmpty_96 rfl rfl ?_
    refine zi_callVi X (u_tells l D hU) kc_X7_tells wm_X7_217 (by first | assumption | exact mup_self | (rw [mup_ne (by assumption)]; assumption) | (rw [mup_ne (by assumption)]; exact mup_self) | (rw [mup_ne (by assumption), mup_ne (by assumption)]; assumption)) rfl wim_X7_tells wse_X7_tells ⟨Nat.le_of_ble_eq_true rfl, Nat.le_of_ble_eq_true rfl⟩ rfl rfl (Nat.le_of_ble_eq_true rfl) ⟨Nat.le_of_ble_eq_true rfl, Nat.le_of_ble_eq_true rfl⟩ dX7_removeEmpty_97 (fun r h3 hp => ?_)
    obtain ⟨rfl, -, hp⟩ := hp
    refine zi_ireturn X Vz dX7_removeEmpty_100 ?_
    exact ⟨rfl, hp⟩
  | succ w ih =>
    intro j g f' hj hg hf
    have jn : j < n := by omega
    have kn := cmpN_le V j
    obtain ⟨k, hk⟩ : ∃ k, k = cmpN V j := ⟨_, rfl⟩
    rw [← hk] at kn
    rw [← hk]
    have y1 := hg.2.1.1
    have l0 := (hg.2.2.1.1 0 (by decide)).1
    have vin1 : vp_in (nI j) cap := vp_in_nI (by omega) (by omega)
    have vin2 : vp_in (nI k) cap := vp_in_nI (by omega) (by omega)
    have cl1 : (nI j).toNatClampNeg = j := nI_cl (by omega)
    have cl2 : (nI k).toNatClampNeg = k := nI_cl (by omega)
    refine zi_iload_n X dX7_removeEmpty_4 rfl rfl ?_
    refine zi_aload_n X dX7_removeEmpty_5 rfl rfl ?_
    refine zi_getf (C := RX7) (T := TX7) (N := 27) (ci := 11) X (by first | assumption | exact mup_self | (rw [mup_ne (by assumption)]; assumption) | (rw [mup_ne (by assumption)]; exact mup_self) | (rw [mup_ne (by assumption), mup_ne (by assumption)]; assumption)) rfl in_X7 26 (by decide) wf_X7_285 rfl rfl dX7_removeEmpty_6 ?_
    rw [ho]
    refine zi_icmp_ge (tgt := 83) X dX7_removeEmpty_9 (by decide) (fun c_9 => (by first | exact absurd (nI_ge jn (by omega)) c_9 | exact absurd c_9 (nI_ge jn (by omega)))) (fun c_9 => ?_)
    refine zi_aload_n X dX7_removeEmpty_12 rfl rfl ?_
    refine zi_getf (C := RX7) (T := TX7) (N := 27) (ci := 11) X (by first | assumption | exact mup_self | (rw [mup_ne (by assumption)]; assumption) | (rw [mup_ne (by assumption)]; exact mup_self) | (rw [mup_ne (by assumption), mup_ne (by assumption)]; assumption)) rfl in_X7 22 (by decide) wf_X7_75 rfl rfl dX7_removeEmpty_13 ?_
    refine zi_iload_n X dX7_removeEmpty_16 rfl rfl ?_
    refine zi_aload_n X dX7_removeEmpty_17 rfl rfl ?_
    refine zi_getf (C := RX7) (T := TX7) (N := 27) (ci := 11) X (by first | assumption | exact mup_self | (rw [mup_ne (by assumption)]; assumption) | (rw [mup_ne (by assumption)]; exact mup_self) | (rw [mup_ne (by assumption), mup_ne (by assumption)]; assumption)) rfl in_X7 22 (by decide) wf_X7_75 rfl rfl dX7_removeEmpty_18 ?_
    refine zi_iload_n X dX7_removeEmpty_21 rfl rfl ?_
    refine zi_iald X 0 (by first | assumption | exact mup_self | (rw [mup_ne (by assumption)]; assumption) | (rw [mup_ne (by assumption)]; exact mup_self) | (rw [mup_ne (by assumption), mup_ne (by assumption)]; assumption)) rfl vin1 dX7_removeEmpty_22 ?_
    refine zi_iast X 0 (by first | assumption | exact mup_self | (rw [mup_ne (by assumption)]; assumption) | (rw [mup_ne (by assumption)]; exact mup_self) | (rw [mup_ne (by assumption), mup_ne (by assumption)]; assumption)) rfl vin2 dX7_removeEmpty_23 ?_
    rw [cl1, cl2]
    have hu3 := rF_l hg (t := 0) (by decide) (upd (f' 0) k (f' 0 j))
    have y3 := hu3.2.1.1
    have l1 := (hu3.2.2.1.1 1 (by decide)).1
    refine zi_eqh (h' := mup g (o.2.2.2 0) (liE (cA 0) cap (upd (f' 0) k (f' 0 j)))) rfl ?_
    generalize mup g (o.2.2.2 0) (liE (cA 0) cap (upd (f' 0) k (f' 0 j))) = g3 at *
    refine zi_aload_n X dX7_removeEmpty_24 rfl rfl ?_
    refine zi_getf (C := RX7) (T := TX7) (N := 27) (ci := 11) X (by first | assumption | exact mup_self | (rw [mup_ne (by assumption)]; assumption) | (rw [mup_ne (by assumption)]; exact mup_self) | (rw [mup_ne (by assumption), mup_ne (by assumption)]; assumption)) rfl in_X7 23 (by decide) wf_X7_78 rfl rfl dX7_removeEmpty_25 ?_
    refine zi_iload_n X dX7_removeEmpty_28 rfl rfl ?_
    refine zi_aload_n X dX7_removeEmpty_29 rfl rfl ?_
    refine zi_getf (C := RX7) (T := TX7) (N := 27) (ci := 11) X (by first | assumption | exact mup_self | (rw [mup_ne (by assumption)]; assumption) | (rw [mup_ne (by assumption)]; exact mup_self) | (rw [mup_ne (by assumption), mup_ne (by assumption)]; assumption)) rfl in_X7 23 (by decide) wf_X7_78 rfl rfl dX7_removeEmpty_30 ?_
    refine zi_iload_n X dX7_removeEmpty_33 rfl rfl ?_
    refine zi_iald X 0 (by first | assumption | exact mup_self | (rw [mup_ne (by assumption)]; assumption) | (rw [mup_ne (by assumption)]; exact mup_self) | (rw [mup_ne (by assumption), mup_ne (by assumption)]; assumption)) rfl vin1 dX7_removeEmpty_34 ?_
    refine zi_iast X 0 (by first | assumption | exact mup_self | (rw [mup_ne (by assumption)]; assumption) | (rw [mup_ne (by assumption)]; exact mup_self) | (rw [mup_ne (by assumption), mup_ne (by assumption)]; assumption)) rfl vin2 dX7_removeEmpty_35 ?_
    rw [cl1, cl2]
    have hu4 := rF_l hu3 (t := 1) (by decide) (upd (f' 1) k (f' 1 j))
    have y4 := hu4.2.1.1
    have l2 := (hu4.2.2.1.1 2 (by decide)).1
    refine zi_eqh (h' := mup g3 (o.2.2.2 1) (liE (cA 0) cap (upd (f' 1) k (f' 1 j)))) rfl ?_
    generalize mup g3 (o.2.2.2 1) (liE (cA 0) cap (upd (f' 1) k (f' 1 j))) = g4 at *
    refine zi_aload_n X dX7_removeEmpty_36 rfl rfl ?_
    refine zi_getf (C := RX7) (T := TX7) (N := 27) (ci := 11) X (by first | assumption | exact mup_self | (rw [mup_ne (by assumption)]; assumption) | (rw [mup_ne (by assumption)]; exact mup_self) | (rw [mup_ne (by assumption), mup_ne (by assumption)]; assumption)) rfl in_X7 24 (by decide) wf_X7_81 rfl rfl dX7_removeEmpty_37 ?_
    refine zi_iload_n X dX7_removeEmpty_40 rfl rfl ?_
    refine zi_aload_n X dX7_removeEmpty_41 rfl rfl ?_
    refine zi_getf (C := RX7) (T := TX7) (N := 27) (ci := 11) X (by first | assumption | exact mup_self | (rw [mup_ne (by assumption)]; assumption) | (rw [mup_ne (by assumption)]; exact mup_self) | (rw [mup_ne (by assumption), mup_ne (by assumption)]; assumption)) rfl in_X7 24 (by decide) wf_X7_81 rfl rfl dX7_removeEmpty_42 ?_
    refine zi_iload_n X dX7_removeEmpty_45 rfl rfl ?_
    refine zi_iald X 0 (by first | assumption | exact mup_self | (rw [mup_ne (by assumption)]; assumption) | (rw [mup_ne (by assumption)]; exact mup_self) | (rw [mup_ne (by assumption), mup_ne (by assumption)]; assumption)) rfl vin1 dX7_removeEmpty_46 ?_
    refine zi_iast X 0 (by first | assumption | exact mup_self | (rw [mup_ne (by assumption)]; assumption) | (rw [mup_ne (by assumption)]; exact mup_self) | (rw [mup_ne (by assumption), mup_ne (by assumption)]; assumption)) rfl vin2 dX7_removeEmpty_47 ?_
    rw [cl1, cl2]
    have hu5 := rF_l hu4 (t := 2) (by decide) (upd (f' 2) k (f' 2 j))
    have y5 := hu5.2.1.1
    have l3 := (hu5.2.2.1.1 3 (by decide)).1
    refine zi_eqh (h' := mup g4 (o.2.2.2 2) (liE (cA 0) cap (upd (f' 2) k (f' 2 j)))) rfl ?_
    generalize mup g4 (o.2.2.2 2) (liE (cA 0) cap (upd (f' 2) k (f' 2 j))) = g5 at *
    refine zi_aload_n X dX7_removeEmpty_48 rfl rfl ?_
    refine zi_getf (C := RX7) (T := TX7) (N := 27) (ci := 11) X (by first | assumption | exact mup_self | (rw [mup_ne (by assumption)]; assumption) | (rw [mup_ne (by assumption)]; exact mup_self) | (rw [mup_ne (by assumption), mup_ne (by assumption)]; assumption)) rfl in_X7 25 (by decide) wf_X7_84 rfl rfl dX7_removeEmpty_49 ?_
    refine zi_iload_n X dX7_removeEmpty_52 rfl rfl ?_
    refine zi_aload_n X dX7_removeEmpty_53 rfl rfl ?_
    refine zi_getf (C := RX7) (T := TX7) (N := 27) (ci := 11) X (by first | assumption | exact mup_self | (rw [mup_ne (by assumption)]; assumption) | (rw [mup_ne (by assumption)]; exact mup_self) | (rw [mup_ne (by assumption), mup_ne (by assumption)]; assumption)) rfl in_X7 25 (by decide) wf_X7_84 rfl rfl dX7_removeEmpty_54 ?_
    refine zi_iload_n X dX7_removeEmpty_57 rfl rfl ?_
    refine zi_iald X 0 (by first | assumption | exact mup_self | (rw [mup_ne (by assumption)]; assumption) | (rw [mup_ne (by assumption)]; exact mup_self) | (rw [mup_ne (by assumption), mup_ne (by assumption)]; assumption)) rfl vin1 dX7_removeEmpty_58 ?_
    refine zi_iast X 0 (by first | assumption | exact mup_self | (rw [mup_ne (by assumption)]; assumption) | (rw [mup_ne (by assumption)]; exact mup_self) | (rw [mup_ne (by assumption), mup_ne (by assumption)]; assumption)) rfl vin2 dX7_removeEmpty_59 ?_
    rw [cl1, cl2]
    have hu6 := rF_l hu5 (t := 3) (by decide) (upd (f' 3) k (f' 3 j))
    refine zi_eqh (h' := mup g5 (o.2.2.2 3) (liE (cA 0) cap (upd (f' 3) k (f' 3 j)))) rfl ?_
    generalize mup g5 (o.2.2.2 3) (liE (cA 0) cap (upd (f' 3) k (f' 3 j))) = g6 at *
    have hu7 := rF_cong hu6 (caps' := fun _ => cap) (f' := fun t => upd (f' t) k (f' t j)) (fun t ht => ⟨rfl, by
      rcases (show t = 0 ∨ t = 1 ∨ t = 2 ∨ t = 3 by omega) with rfl | rfl | rfl | rfl <;> rfl⟩)
    have y7 := hu7.2.1.1
    have l7 := (hu7.2.2.1.1 3 (by decide)).1
    have ej : upd (f' 3) k (f' 3 j) j = iI (V j).2.2.2 := by
      have e3 : f' 3 j = iI (V j).2.2.2 := by
        rw [hf j 3 jn (by decide), cmpV_ge V j j (Nat.le_refl j)]
        rfl
      unfold upd
      split
      · exact e3
      · exact e3
    have vb := (hV j jn).2.2.2
    refine zi_iload_n X dX7_removeEmpty_60 rfl rfl ?_
    refine zi_aload_n X dX7_removeEmpty_61 rfl rfl ?_
    refine zi_getf (C := RX7) (T := TX7) (N := 27) (ci := 11) X (by first | assumption | exact mup_self | (rw [mup_ne (by assumption)]; assumption) | (rw [mup_ne (by assumption)]; exact mup_self) | (rw [mup_ne (by assumption), mup_ne (by assumption)]; assumption)) rfl in_X7 25 (by decide) wf_X7_84 rfl rfl dX7_removeEmpty_62 ?_
    refine zi_iload_n X dX7_removeEmpty_65 rfl rfl ?_
    refine zi_iald X 0 (by first | assumption | exact mup_self | (rw [mup_ne (by assumption)]; assumption) | (rw [mup_ne (by assumption)]; exact mup_self) | (rw [mup_ne (by assumption), mup_ne (by assumption)]; assumption)) rfl vin1 dX7_removeEmpty_66 ?_
    refine zi_eqs (st' := [.int (iI (V j).2.2.2), .int (nI k)]) (by rw [cl1]; exact congrArg (fun x => [Value.int x, .int (nI k)]) ej) ?_
    have nx : cmpN V (j + 1) = (if 0 < (V j).2.2.2 then k + 1 else k) := by rw [cmpN, ← hk]
    have fx : ∀ i t, i < n → t < 4 → upd (f' t) k (f' t j) i = cpI t (cmpV V (j + 1) i) := fun i t hi ht => by
      rw [cmpV, ← hk]
      unfold upd
      dsimp only
      by_cases c : i = k
      · rw [if_pos c, if_pos c, hf j t jn ht, cmpV_ge V j j (Nat.le_refl j)]
      · rw [if_neg c, if_neg c]
        exact hf i t hi ht
    by_cases c : 0 < (V j).2.2.2
    · rw [if_pos c] at nx
      refine zi_if_le (tgt := 74) X dX7_removeEmpty_67 (by decide) (fun c_67 => (by first | exact absurd (fun q => by have := (iI_le vb (by decide)).mp (show iI (V j).2.2.2 ≤ iI 0 from q); omega) c_67 | exact absurd c_67 (fun q => by have := (iI_le vb (by decide)).mp (show iI (V j).2.2.2 ≤ iI 0 from q); omega))) (fun c_67 => ?_)
      refine zi_iconst (v := (nI 1)) X dX7_removeEmpty_70 (by decide) ?_
      refine zi_goto (tgt := 75) X dX7_removeEmpty_71 (by decide) ?_
      refine zi_iadd X dX7_removeEmpty_75 ?_
      rw [nI_add]
      refine zi_istore_n X dX7_removeEmpty_76 rfl (by decide) ?_
      refine zi_iinc (v := nI (j + 1)) X dX7_removeEmpty_77 rfl (nI_inc _) (by decide) ?_
      refine zi_goto (tgt := 4) X dX7_removeEmpty_80 (by decide) ?_
      have := ih (j + 1) g6 _ (by omega) hu7 fx
      rw [nx] at this
      exact zi_sub (by repeat (first | exact trivial | refine And.intro rfl ?_)) this
    · rw [if_neg c] at nx
      refine zi_if_le (tgt := 74) X dX7_removeEmpty_67 (by decide) (fun c_67 => ?_) (fun c_67 => (by first | exact absurd (fun q => q ((iI_le (b := 0) vb (by decide)).mpr (by omega))) c_67 | exact absurd c_67 (fun q => q ((iI_le (b := 0) vb (by decide)).mpr (by omega)))))
      refine zi_iconst (v := (nI 0)) X dX7_removeEmpty_74 (by decide) ?_
      refine zi_iadd X dX7_removeEmpty_75 ?_
      rw [nI_add]
      refine zi_istore_n X dX7_removeEmpty_76 rfl (by decide) ?_
      refine zi_iinc (v := nI (j + 1)) X dX7_removeEmpty_77 rfl (nI_inc _) (by decide) ?_
      refine zi_goto (tgt := 4) X dX7_removeEmpty_80 (by decide) ?_
      have := ih (j + 1) g6 _ (by omega) hu7 fx
      rw [nx] at this
      exact zi_sub (by repeat (first | exact trivial | refine And.intro rfl ?_)) this
end RE
