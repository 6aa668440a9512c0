/-! SturmRootsModel: comes, comesGreat -/
section CM
variable {cA : Nat → ClassId} {M : Nat → Nat → Nat} {h : mH} {o : RO} {Sl : Nat → Nat → Int} {kp : Nat → Int} {cap n : Nat} {V : Nat → Iv} {P : Nat → Nat → Int}
theorem trI (f : Nat → Int64) (k : Nat) (hk : k < 7) : tr (fun k => (f k).toInt) k = (f k).toInt := by unfold tr; rw [if_pos hk]
theorem sDeg_tr (r : Nat → Int) : sDeg (tr r) = sDeg r := by
  unfold sDeg
  rw [stI_cong (fun k hk => show tr r k = r k by unfold tr; rw [if_pos hk])]
theorem u_comes (l : Launch) (D : va_G) (hu : rU cA M h o Sl kp cap n V P) {f : Nat → Int64} (hf : h (M 2 3) = some (mdE (cA 1) f)) {t : Nat} (ht : t < 5) {rf : Int32} :
    mCi l yX7_comes cX7_comes 4 .int (rmd 2) D (mT cA) [.ref (M 3 0), .int (nI t), .int rf] h (fun r h1 => okM f ∧ r = iI (sDeg (fun k => (f k).toInt)) ∧ rU cA M h1 (nI 0, o.2) (setS Sl t (tr (fun k => (f k).toInt))) kp cap n V P ∨ ¬ okM f ∧ rU cA M h1 (rf, o.2) Sl kp cap n V P) := by
  refine mEnter_i (by decide) (Nat.le_of_ble_eq_true rfl) rfl (fun z X Vz => ?_)
  have x1 := hu.2.1.1
  have x2 := hu.2.1.2.1
  have e9 : (9999 : Int64).toInt = 9999 := by decide
  have e9' : (-9999 : Int64).toInt = -9999 := by decide
  have e0 : (lN 0).toInt = 0 := by decide
  -- stored
  have store : okM f → zM z 0 0 66 [some (.ref (M 3 0)), some (.int (nI t)), some (.int rf), none] [] h := fun ok => by
    refine zi_iconst (v := (nI 0)) X dX7_comes_66 (by decide) ?_
    refine zi_istore_n X dX7_comes_67 rfl (by decide) ?_
    suffices key : ∀ w i (s : Nat → Int), i + w = 7 → (∀ k, k < i → s k = (f k).toInt) → (∀ k, i ≤ k → s k = Sl t k) → zM z 0 0 68 [some (.ref (M 3 0)), some (.int (nI t)), some (.int rf), some (.int (nI i))] [] (mup h (M 4 t) (slotA (cA 0) s)) from by
      have := key 7 0 (Sl t) rfl (fun k hk => absurd hk (Nat.not_lt_zero k)) (fun k _ => rfl)
      exact zi_sub (by repeat (first | exact trivial | refine And.intro rfl ?_)) (zi_eqh (mup_same (hu.2.1.2.2.1 t ht)).symm this)
    intro w
    induction w with
    | zero =>
      intro i s hi h1 h2
      obtain rfl : i = 7 := by omega
      have hu1 := rU_s hu ht s
      have y1 := hu1.2.1.1
      have y2 := hu1.2.1.2.1
      have y3 := hu1.2.1.2.2.1 t ht
      have es : setS Sl t s t = s := by unfold setS; rw [if_pos rfl]
      rw [es] at y3
      have s9 : ∀ k, k < 7 → (s k).natAbs ≤ 9999 := fun k hk => by rw [h1 k hk]; exact (ok k (by omega)).2
      refine zi_iload_n X dX7_comes_68 rfl rfl ?_
      refine zi_bipush (v := (nI 7)) X dX7_comes_69 (by decide) ?_
      refine zi_icmp_ge (tgt := 95) X dX7_comes_71 (by decide) (fun c_71 => ?_) (fun c_71 => (by first | exact absurd (by decide) c_71 | exact absurd c_71 (by decide)))
      refine zi_aload_n X dX7_comes_95 rfl rfl ?_
      refine zi_aload_n X dX7_comes_96 rfl rfl ?_
      refine zi_getf (C := RX7) (T := TX7) (N := 27) (ci := 11) X (by first | assumption | exact mup_self | (rw [mup_ne (by assumption)]; assumption) | (rw [mup_ne (by assumption)]; exact mup_self) | (rw [mup_ne (by assumption), mup_ne (by assumption)]; assumption)) rfl in_X7 1 (by decide) wf_X7_11 rfl rfl dX7_comes_97 ?_
      refine zi_iload_n X dX7_comes_100 rfl rfl ?_
      refine zi_aaldA X 4 (by first | assumption | exact mup_self | (rw [mup_ne (by assumption)]; assumption) | (rw [mup_ne (by assumption)]; exact mup_self) | (rw [mup_ne (by assumption), mup_ne (by assumption)]; assumption)) rfl (vin ht (by decide)) (sl4_at ht) dX7_comes_101 ?_
      refine zi_callSi X (s_degree l D y3 s9) kc_X7_degree_ wm_X7_215 wst_X7_degree_ ⟨Nat.le_of_ble_eq_true rfl, Nat.le_of_ble_eq_true rfl⟩ rfl rfl (Nat.le_of_ble_eq_true rfl) ⟨Nat.le_of_ble_eq_true rfl, Nat.le_of_ble_eq_true rfl⟩ dX7_comes_102 (fun r h2 hp => ?_)
      obtain ⟨rfl, rfl⟩ := hp
      refine zi_callVi X (u_tells l D hu1) kc_X7_tells wm_X7_217 (by first | assumption | exact mup_self | (rw [mup_ne (by assumption)]; assumption) | (rw [mup_ne (by assumption)]; exact mup_self) | (rw [mup_ne (by assumption), mup_ne (by assumption)]; assumption)) rfl wim_X7_tells wse_X7_tells ⟨Nat.le_of_ble_eq_true rfl, Nat.le_of_ble_eq_true rfl⟩ rfl rfl (Nat.le_of_ble_eq_true rfl) ⟨Nat.le_of_ble_eq_true rfl, Nat.le_of_ble_eq_true rfl⟩ dX7_comes_105 (fun r h3 hp => ?_)
      obtain ⟨rfl, -, hu3⟩ := hp
      refine zi_ireturn X Vz dX7_comes_108 ?_
      have e1 : stI s 7 = stI (fun k => (f k).toInt) 7 := stI_cong (fun k hk => h1 k hk)
      refine Or.inl ⟨ok, by unfold sDeg; rw [e1], ?_⟩
      have e2 : rX cA M h3 (nI 0, o.2) (setS Sl t (tr (fun k => (f k).toInt))) kp := by
        obtain ⟨a1, a2, a3, a4⟩ := hu3.2.1
        refine ⟨a1, a2, fun i hi => ?_, a4⟩
        rw [a3 i hi]
        unfold setS
        by_cases c : i = t
        · rw [if_pos c, if_pos c]
          exact congrArg some (slotA_cong (fun k hk => by rw [trI f k hk, h1 k hk]))
        · rw [if_neg c, if_neg c]
      exact ⟨hu3.1, e2, hu3.2.2⟩
    | succ w ih =>
      intro i s hi h1 h2
      have i7 : i < 7 := by omega
      have hu1 := rU_s hu ht s
      have y1 := hu1.2.1.1
      have y2 := hu1.2.1.2.1
      have y3 := hu1.2.1.2.2.1 t ht
      have es : setS Sl t s t = s := by unfold setS; rw [if_pos rfl]
      rw [es] at y3
      have y8 : mup h (M 4 t) (slotA (cA 0) s) (M 2 3) = some (mdE (cA 1) f) := by rw [mup_ne (kd_ne hf (hu.2.1.2.2.1 t ht) rfl)]; exact hf
      refine zi_iload_n X dX7_comes_68 rfl rfl ?_
      refine zi_bipush (v := (nI 7)) X dX7_comes_69 (by decide) ?_
      refine zi_icmp_ge (tgt := 95) X dX7_comes_71 (by decide) (fun c_71 => (by first | exact absurd (c7 i7) c_71 | exact absurd c_71 (c7 i7))) (fun c_71 => ?_)
      refine zi_aload_n X dX7_comes_74 rfl rfl ?_
      refine zi_getf (C := RX7) (T := TX7) (N := 27) (ci := 11) X (by first | assumption | exact mup_self | (rw [mup_ne (by assumption)]; assumption) | (rw [mup_ne (by assumption)]; exact mup_self) | (rw [mup_ne (by assumption), mup_ne (by assumption)]; assumption)) rfl in_X7 1 (by decide) wf_X7_11 rfl rfl dX7_comes_75 ?_
      refine zi_iload_n X dX7_comes_78 rfl rfl ?_
      refine zi_aaldA X 4 (by first | assumption | exact mup_self | (rw [mup_ne (by assumption)]; assumption) | (rw [mup_ne (by assumption)]; exact mup_self) | (rw [mup_ne (by assumption), mup_ne (by assumption)]; assumption)) rfl (vin ht (by decide)) (sl4_at ht) dX7_comes_79 ?_
      refine zi_iload_n X dX7_comes_80 rfl rfl ?_
      refine zi_aload_n X dX7_comes_81 rfl rfl ?_
      refine zi_getf (C := RX7) (T := TX7) (N := 27) (ci := 11) X (by first | assumption | exact mup_self | (rw [mup_ne (by assumption)]; assumption) | (rw [mup_ne (by assumption)]; exact mup_self) | (rw [mup_ne (by assumption), mup_ne (by assumption)]; assumption)) rfl in_X7 16 (by decide) wf_X7_59 rfl rfl dX7_comes_82 ?_
      refine zi_iload_n X dX7_comes_85 rfl rfl ?_
      refine zi_lald X 1 (by first | assumption | exact mup_self | (rw [mup_ne (by assumption)]; assumption) | (rw [mup_ne (by assumption)]; exact mup_self) | (rw [mup_ne (by assumption), mup_ne (by assumption)]; assumption)) rfl (vin (show i < 14 by omega) (by decide)) dX7_comes_86 ?_
      refine zi_l2i X dX7_comes_87 ?_
      refine zi_iast X 0 (by first | assumption | exact mup_self | (rw [mup_ne (by assumption)]; assumption) | (rw [mup_ne (by assumption)]; exact mup_self) | (rw [mup_ne (by assumption), mup_ne (by assumption)]; assumption)) rfl (vin i7 (by decide)) dX7_comes_88 ?_
      rw [nI_cl (show i < 2147483648 by omega), mup_mup]
      have ef : upd (fun k => if k < 7 then iI (s k) else 0) i (f i).toInt32 = fun k => if k < 7 then iI (if k = i then (f i).toInt else s k) else 0 := by
        funext k
        unfold upd
        by_cases c : k = i
        · rw [if_pos c, c, if_pos i7, if_pos rfl]
          have := (ok i (by omega)).2
          rw [l2i_d (d := ((f i).toInt % (CC : Int)).toNat) (by have := Int.emod_nonneg (f i).toInt (show (CC : Int) ≠ 0 by decide); omega)]
          have q := i_dig (iI (f i).toInt)
          rw [iI_int (by omega)] at q
          exact q.symm
        · rw [if_neg c]
          dsimp only
          by_cases c7 : k < 7
          · rw [if_pos c7, if_pos c7, if_neg c]
          · rw [if_neg c7, if_neg c7]
      refine zi_eqh (h' := mup h (M 4 t) (slotA (cA 0) (fun k => if k = i then (f i).toInt else s k))) ?_ ?_
      · unfold slotA
        rw [← ef]
      refine zi_iinc (v := nI (i + 1)) X dX7_comes_89 rfl (nI_inc _) (by decide) ?_
      refine zi_goto (tgt := 68) X dX7_comes_92 (by decide) ?_
      refine zi_sub (by repeat (first | exact trivial | refine And.intro rfl ?_)) (ih (i + 1) _ (by omega) (fun k hk => ?_) (fun k hk => ?_))
      · by_cases c : k = i
        · rw [if_pos c, c]
        · rw [if_neg c]; exact h1 k (by omega)
      · rw [if_neg (by omega)]
        exact h2 k (by omega)
  -- refused
  have refuse : ¬ okM f → ∀ i : Nat, zM z 0 0 54 [some (.ref (M 3 0)), some (.int (nI t)), some (.int rf), some (.int (nI i))] [] h := fun ok i => by
    refine zi_aload_n X dX7_comes_54 rfl rfl ?_
    refine zi_iload_n X dX7_comes_55 rfl rfl ?_
    refine zi_callVi X (u_fails l D hu) kc_X7_fails wm_X7_212 (by first | assumption | exact mup_self | (rw [mup_ne (by assumption)]; assumption) | (rw [mup_ne (by assumption)]; exact mup_self) | (rw [mup_ne (by assumption), mup_ne (by assumption)]; assumption)) rfl wim_X7_fails wse_X7_fails ⟨Nat.le_of_ble_eq_true rfl, Nat.le_of_ble_eq_true rfl⟩ rfl rfl (Nat.le_of_ble_eq_true rfl) ⟨Nat.le_of_ble_eq_true rfl, Nat.le_of_ble_eq_true rfl⟩ dX7_comes_56 (fun r h2 hp => ?_)
    refine zi_ireturn X Vz dX7_comes_59 ?_
    exact Or.inr ⟨ok, hp.2⟩
  refine zi_iconst (v := (nI 0)) X dX7_comes_0 (by decide) ?_
  refine zi_istore_n X dX7_comes_1 rfl (by decide) ?_
  suffices key : ∀ w i, i + w = 14 → (∀ k, k < i → (7 ≤ k → f k = 0) ∧ (f k).toInt.natAbs ≤ 9999) → zM z 0 0 2 [some (.ref (M 3 0)), some (.int (nI t)), some (.int rf), some (.int (nI i))] [] h from
    zi_sub (by repeat (first | exact trivial | refine And.intro rfl ?_)) (key 14 0 rfl (fun k hk => absurd hk (Nat.not_lt_zero k)))
  intro w
  induction w with
  | zero =>
    intro i hi hok
    obtain rfl : i = 14 := by omega
    refine zi_iload_n X dX7_comes_2 rfl rfl ?_
    refine zi_aload_n X dX7_comes_3 rfl rfl ?_
    refine zi_getf (C := RX7) (T := TX7) (N := 27) (ci := 11) X (by first | assumption | exact mup_self | (rw [mup_ne (by assumption)]; assumption) | (rw [mup_ne (by assumption)]; exact mup_self) | (rw [mup_ne (by assumption), mup_ne (by assumption)]; assumption)) rfl in_X7 16 (by decide) wf_X7_59 rfl rfl dX7_comes_4 ?_
    refine zi_alen X 1 (by first | assumption | exact mup_self | (rw [mup_ne (by assumption)]; assumption) | (rw [mup_ne (by assumption)]; exact mup_self) | (rw [mup_ne (by assumption), mup_ne (by assumption)]; assumption)) rfl (show Int32.ofNat 14 = nI 14 from rfl) dX7_comes_7 ?_
    refine zi_icmp_ge (tgt := 66) X dX7_comes_8 (by decide) (fun c_8 => ?_) (fun c_8 => (by first | exact absurd (by decide) c_8 | exact absurd c_8 (by decide)))
    exact zi_sub (by repeat (first | exact trivial | refine And.intro rfl ?_)) (store hok)
  | succ w ih =>
    intro i hi hok
    have i14 : i < 14 := by omega
    have next : ((7 ≤ i → f i = 0) ∧ (f i).toInt.natAbs ≤ 9999) → zM z 0 0 60 [some (.ref (M 3 0)), some (.int (nI t)), some (.int rf), some (.int (nI i))] [] h := fun q => by
      refine zi_iinc (v := nI (i + 1)) X dX7_comes_60 rfl (nI_inc _) (by decide) ?_
      refine zi_goto (tgt := 2) X dX7_comes_63 (by decide) ?_
      exact zi_sub (by repeat (first | exact trivial | refine And.intro rfl ?_)) (ih (i + 1) (by omega) (fun k hk => by
        by_cases c : k = i
        · rw [c]; exact q
        · exact hok k (by omega)))
    have s28 : (7 ≤ i → f i = 0) → zM z 0 0 28 [some (.ref (M 3 0)), some (.int (nI t)), some (.int rf), some (.int (nI i))] [] h := fun q7 => by
      refine zi_aload_n X dX7_comes_28 rfl rfl ?_
      refine zi_getf (C := RX7) (T := TX7) (N := 27) (ci := 11) X (by first | assumption | exact mup_self | (rw [mup_ne (by assumption)]; assumption) | (rw [mup_ne (by assumption)]; exact mup_self) | (rw [mup_ne (by assumption), mup_ne (by assumption)]; assumption)) rfl in_X7 16 (by decide) wf_X7_59 rfl rfl dX7_comes_29 ?_
      refine zi_iload_n X dX7_comes_32 rfl rfl ?_
      refine zi_lald X 1 (by first | assumption | exact mup_self | (rw [mup_ne (by assumption)]; assumption) | (rw [mup_ne (by assumption)]; exact mup_self) | (rw [mup_ne (by assumption), mup_ne (by assumption)]; assumption)) rfl (vin i14 (by decide)) dX7_comes_33 ?_
      refine zi_ldc2_w X wK_X7_208 dX7_comes_34 ?_
      refine zi_lcmp X dX7_comes_37 ?_
      refine zi_if_gt (tgt := 54) X dX7_comes_38 (by decide) (fun c_38 => ?_) (fun c_38 => ?_)
      · rw [nI_cl (show i < 2147483648 by omega)] at c_38
        have := (fa_lt64 _ _).mp ((lg_cmp_gt _ _).mp c_38)
        rw [e9] at this
        exact refuse (fun ok => by have := (ok i i14).2; omega) i
      · rw [nI_cl (show i < 2147483648 by omega)] at c_38
        have c1 : ¬ 9999 < (f i).toInt := fun q => c_38 ((lg_cmp_gt _ _).mpr ((fa_lt64 _ _).mpr (by rw [e9]; exact q)))
        refine zi_aload_n X dX7_comes_41 rfl rfl ?_
        refine zi_getf (C := RX7) (T := TX7) (N := 27) (ci := 11) X (by first | assumption | exact mup_self | (rw [mup_ne (by assumption)]; assumption) | (rw [mup_ne (by assumption)]; exact mup_self) | (rw [mup_ne (by assumption), mup_ne (by assumption)]; assumption)) rfl in_X7 16 (by decide) wf_X7_59 rfl rfl dX7_comes_42 ?_
        refine zi_iload_n X dX7_comes_45 rfl rfl ?_
        refine zi_lald X 1 (by first | assumption | exact mup_self | (rw [mup_ne (by assumption)]; assumption) | (rw [mup_ne (by assumption)]; exact mup_self) | (rw [mup_ne (by assumption), mup_ne (by assumption)]; assumption)) rfl (vin i14 (by decide)) dX7_comes_46 ?_
        refine zi_ldc2_w X wK_X7_210 dX7_comes_47 ?_
        refine zi_lcmp X dX7_comes_50 ?_
        refine zi_if_ge (tgt := 60) X dX7_comes_51 (by decide) (fun c_51 => ?_) (fun c_51 => ?_)
        · rw [nI_cl (show i < 2147483648 by omega)] at c_51
          have := (fa_le64 _ _).mp ((lg_cmp_ge _ _).mp c_51)
          rw [e9'] at this
          exact next ⟨q7, by omega⟩
        · rw [nI_cl (show i < 2147483648 by omega)] at c_51
          have c2 : ¬ -9999 ≤ (f i).toInt := fun q => c_51 ((lg_cmp_ge _ _).mpr ((fa_le64 _ _).mpr (by rw [e9']; exact q)))
          exact refuse (fun ok => by have := (ok i i14).2; omega) i
    by_cases c7 : i < 7
    · refine zi_iload_n X dX7_comes_2 rfl rfl ?_
      refine zi_aload_n X dX7_comes_3 rfl rfl ?_
      refine zi_getf (C := RX7) (T := TX7) (N := 27) (ci := 11) X (by first | assumption | exact mup_self | (rw [mup_ne (by assumption)]; assumption) | (rw [mup_ne (by assumption)]; exact mup_self) | (rw [mup_ne (by assumption), mup_ne (by assumption)]; assumption)) rfl in_X7 16 (by decide) wf_X7_59 rfl rfl dX7_comes_4 ?_
      refine zi_alen X 1 (by first | assumption | exact mup_self | (rw [mup_ne (by assumption)]; assumption) | (rw [mup_ne (by assumption)]; exact mup_self) | (rw [mup_ne (by assumption), mup_ne (by assumption)]; assumption)) rfl (show Int32.ofNat 14 = nI 14 from rfl) dX7_comes_7 ?_
      refine zi_icmp_ge (tgt := 66) X dX7_comes_8 (by decide) (fun c_8 => (by first | exact absurd (nI_ge i14 (by decide)) c_8 | exact absurd c_8 (nI_ge i14 (by decide)))) (fun c_8 => ?_)
      refine zi_iload_n X dX7_comes_11 rfl rfl ?_
      refine zi_bipush (v := (nI 7)) X dX7_comes_12 (by decide) ?_
      refine zi_icmp_lt (tgt := 28) X dX7_comes_14 (by decide) (fun c_14 => ?_) (fun c_14 => (by first | exact absurd (nI_lt c7 (by decide)) c_14 | exact absurd c_14 (nI_lt c7 (by decide))))
      exact s28 (fun q => absurd c7 (by omega))
    · refine zi_iload_n X dX7_comes_2 rfl rfl ?_
      refine zi_aload_n X dX7_comes_3 rfl rfl ?_
      refine zi_getf (C := RX7) (T := TX7) (N := 27) (ci := 11) X (by first | assumption | exact mup_self | (rw [mup_ne (by assumption)]; assumption) | (rw [mup_ne (by assumption)]; exact mup_self) | (rw [mup_ne (by assumption), mup_ne (by assumption)]; assumption)) rfl in_X7 16 (by decide) wf_X7_59 rfl rfl dX7_comes_4 ?_
      refine zi_alen X 1 (by first | assumption | exact mup_self | (rw [mup_ne (by assumption)]; assumption) | (rw [mup_ne (by assumption)]; exact mup_self) | (rw [mup_ne (by assumption), mup_ne (by assumption)]; assumption)) rfl (show Int32.ofNat 14 = nI 14 from rfl) dX7_comes_7 ?_
      refine zi_icmp_ge (tgt := 66) X dX7_comes_8 (by decide) (fun c_8 => (by first | exact absurd (nI_ge i14 (by decide)) c_8 | exact absurd c_8 (nI_ge i14 (by decide)))) (fun c_8 => ?_)
      refine zi_iload_n X dX7_comes_11 rfl rfl ?_
      refine zi_bipush (v := (nI 7)) X dX7_comes_12 (by decide) ?_
      refine zi_icmp_lt (tgt := 28) X dX7_comes_14 (by decide) (fun c_14 => (by first | exact absurd (nI_nlt (show 7 ≤ i by omega) (by omega)) c_14 | exact absurd c_14 (nI_nlt (show 7 ≤ i by omega) (by omega)))) (fun c_14 => ?_)
      refine zi_aload_n X dX7_comes_17 rfl rfl ?_
      refine zi_getf (C := RX7) (T := TX7) (N := 27) (ci := 11) X (by first | assumption | exact mup_self | (rw [mup_ne (by assumption)]; assumption) | (rw [mup_ne (by assumption)]; exact mup_self) | (rw [mup_ne (by assumption), mup_ne (by assumption)]; assumption)) rfl in_X7 16 (by decide) wf_X7_59 rfl rfl dX7_comes_18 ?_
      refine zi_iload_n X dX7_comes_21 rfl rfl ?_
      refine zi_lald X 1 (by first | assumption | exact mup_self | (rw [mup_ne (by assumption)]; assumption) | (rw [mup_ne (by assumption)]; exact mup_self) | (rw [mup_ne (by assumption), mup_ne (by assumption)]; assumption)) rfl (vin i14 (by decide)) dX7_comes_22 ?_
      refine zi_lconst (v := lN 0) X dX7_comes_23 (by decide) ?_
      refine zi_lcmp X dX7_comes_24 ?_
      refine zi_if_ne (tgt := 54) X dX7_comes_25 (by decide) (fun c_25 => ?_) (fun c_25 => ?_)
      · rw [nI_cl (show i < 2147483648 by omega)] at c_25
        exact refuse (fun ok => c_25 ((lg_cmp_eq _ _).mpr (by rw [(ok i i14).1 (by omega)]; rfl))) i
      · rw [nI_cl (show i < 2147483648 by omega)] at c_25
        exact s28 (fun _ => (lg_cmp_eq _ _).mp c_25)
/-- what comesGreat makes of a polynomial -/
def okG (p : Nat → Int) : Prop := ∀ k, k < 7 → (p k).natAbs ≤ 9999
theorem u_comesGreat (l : Launch) (D : va_G) (hu : rU cA M h o Sl kp cap n V P) {j : Nat} (hj : j < 176) (hb : pC (P j)) {t : Nat} (ht : t < 5) {rf : Int32} :
    mCi l yX7_comesGreat cX7_comesGreat 6 .int (rmd 3) D (mT cA) [.ref (M 3 0), .ref (M 1 j), .int (nI t), .int rf] h (fun r h1 => okG (P j) ∧ r = iI (sDeg (P j)) ∧ rU cA M h1 (nI 0, o.2) (setS Sl t (tr (P j))) kp cap n V P ∨ ¬ okG (P j) ∧ rU cA M h1 (rf, o.2) Sl kp cap n V P) := by
  refine mEnter_i (by decide) (Nat.le_of_ble_eq_true rfl) rfl (fun z X Vz => ?_)
  have x1 := hu.2.1.1
  refine zi_aload_n X dX7_comesGreat_0 rfl rfl ?_
  refine zi_callVv X (u_clear l D hu) kc_X7_clear wm_X7_220 (by first | assumption | exact mup_self | (rw [mup_ne (by assumption)]; assumption) | (rw [mup_ne (by assumption)]; exact mup_self) | (rw [mup_ne (by assumption), mup_ne (by assumption)]; assumption)) rfl wim_X7_clear wse_X7_clear ⟨Nat.le_of_ble_eq_true rfl, Nat.le_of_ble_eq_true rfl⟩ rfl rfl (Nat.le_of_ble_eq_true rfl) ⟨Nat.le_of_ble_eq_true rfl, Nat.le_of_ble_eq_true rfl⟩ dX7_comesGreat_1 (fun h1 hp => ?_)
  obtain ⟨hu1, f0, hf0, hz0⟩ := hp
  refine zi_iconst (v := (nI 0)) X dX7_comesGreat_4 (by decide) ?_
  refine zi_istore X dX7_comesGreat_5 (by decide) ?_
  -- what each becomes
  suffices key : ∀ w i (g : mH) (f : Nat → Int64), i + w = 7 → rU cA M g o Sl kp cap n V P → g (M 2 3) = some (mdE (cA 1) f) → (∀ k, k < i → (f k).toInt = P j k ∨ 9999 < (P j k).natAbs ∧ 9999 < (f k).toInt.natAbs) → (∀ k, i ≤ k → k < 14 → f k = 0) → zM z 0 0 7 [some (.ref (M 3 0)), some (.ref (M 1 j)), some (.int (nI t)), some (.int rf), some (.int (nI i)), none] [] g from
    zi_sub (by repeat (first | exact trivial | refine And.intro rfl ?_)) (key 7 0 h1 f0 rfl hu1 hf0 (fun k hk => absurd hk (Nat.not_lt_zero k)) (fun k _ hk => hz0 k hk))
  intro w
  induction w with
  | zero =>
    intro i g f hi hu hf h1 h2
    obtain rfl : i = 7 := by omega
    have x1 := hu.2.1.1
    refine zi_iload X dX7_comesGreat_7 rfl ?_
    refine zi_bipush (v := (nI 7)) X dX7_comesGreat_9 (by decide) ?_
    refine zi_icmp_ge (tgt := 88) X dX7_comesGreat_11 (by decide) (fun c_11 => ?_) (fun c_11 => (by first | exact absurd (by decide) c_11 | exact absurd c_11 (by decide)))
    refine zi_aload_n X dX7_comesGreat_88 rfl rfl ?_
    refine zi_iload_n X dX7_comesGreat_89 rfl rfl ?_
    refine zi_iload_n X dX7_comesGreat_90 rfl rfl ?_
    refine zi_callVi X (u_comes l D hu hf ht) kc_X7_comes wm_X7_225 (by first | assumption | exact mup_self | (rw [mup_ne (by assumption)]; assumption) | (rw [mup_ne (by assumption)]; exact mup_self) | (rw [mup_ne (by assumption), mup_ne (by assumption)]; assumption)) rfl wim_X7_comes wse_X7_comes ⟨Nat.le_of_ble_eq_true rfl, Nat.le_of_ble_eq_true rfl⟩ rfl rfl (Nat.le_of_ble_eq_true rfl) ⟨Nat.le_of_ble_eq_true rfl, Nat.le_of_ble_eq_true rfl⟩ dX7_comesGreat_91 (fun r h9 hp => ?_)
    have eq_ : okM f ↔ okG (P j) := by
      constructor
      · intro ok k hk
        have := (ok k (by omega)).2
        rcases h1 k hk with q | q
        · rw [← q]; exact this
        · omega
      · intro ok k hk
        refine ⟨fun q => h2 k q hk, ?_⟩
        by_cases c : k < 7
        · rcases h1 k c with q | q
          · rw [q]; exact ok k c
          · have := ok k c; omega
        · rw [h2 k (by omega) hk]; decide
    refine zi_ireturn X Vz dX7_comesGreat_94 ?_
    rcases hp with ⟨ok, e1, e2⟩ | ⟨ok, e2⟩
    · have okg := eq_.mp ok
      have ev : ∀ k, k < 7 → (f k).toInt = P j k := fun k hk => by
        rcases h1 k hk with q | q
        · exact q
        · have := okg k hk; omega
      refine Or.inl ⟨okg, ?_, ?_⟩
      · rw [e1]
        unfold sDeg
        rw [stI_cong (fun k hk => ev k hk)]
      · have : tr (fun k => (f k).toInt) = tr (P j) := by
          funext k
          unfold tr
          split
          · next c => exact ev k c
          · rfl
        rw [← this]
        exact e2
    · exact Or.inr ⟨fun q => ok (eq_.mpr q), e2⟩
  | succ w ih =>
    intro i g f hi hu hf h1 h2
    have i7 : i < 7 := by omega
    have x1 := hu.2.1.1
    obtain ⟨N, hN0, hP⟩ := id hu.1
    have a1 := hN0.2.1 j hj
    have b1 := hN0.1 (7 * j + i) (by omega)
    have bu := hN0.1 1233 (by decide)
    rw [hP j hj i i7] at b1
    have nn : nC (P j i) := hb i i7
    refine zi_iload X dX7_comesGreat_7 rfl ?_
    refine zi_bipush (v := (nI 7)) X dX7_comesGreat_9 (by decide) ?_
    refine zi_icmp_ge (tgt := 88) X dX7_comesGreat_11 (by decide) (fun c_11 => (by first | exact absurd (c7 i7) c_11 | exact absurd c_11 (c7 i7))) (fun c_11 => ?_)
    refine zi_aload_n X dX7_comesGreat_14 rfl rfl ?_
    refine zi_iload X dX7_comesGreat_15 rfl ?_
    refine zi_aaldA X 4 (by first | assumption | exact mup_self | (rw [mup_ne (by assumption)]; assumption) | (rw [mup_ne (by assumption)]; exact mup_self) | (rw [mup_ne (by assumption), mup_ne (by assumption)]; assumption)) rfl (vin i7 (by decide)) (pa_at (i := i) i7) dX7_comesGreat_17 ?_
    refine zi_aload_n X dX7_comesGreat_18 rfl rfl ?_
    refine zi_getf (C := RX7) (T := TX7) (N := 27) (ci := 11) X (by first | assumption | exact mup_self | (rw [mup_ne (by assumption)]; assumption) | (rw [mup_ne (by assumption)]; exact mup_self) | (rw [mup_ne (by assumption), mup_ne (by assumption)]; assumption)) rfl in_X7 3 (by decide) wf_X7_18 rfl rfl dX7_comesGreat_19 ?_
    refine zi_callSv X (n_copy l D b1 bu (hN_ne hN0 (by omega) (by decide) (by omega))) kc_X7_copy wm_X7_113 wst_X7_copy ⟨Nat.le_of_ble_eq_true rfl, Nat.le_of_ble_eq_true rfl⟩ rfl rfl (Nat.le_of_ble_eq_true rfl) ⟨Nat.le_of_ble_eq_true rfl, Nat.le_of_ble_eq_true rfl⟩ dX7_comesGreat_22 (fun h3 hp => ?_)
    subst hp
    have hN1 := hN_up hN0 (n := 1233) (by decide) (P j i)
    have hq1 : ∀ (v : Int), hQ cA M P (mup g (M 0 1233) (nE (cA 0) v)) := fun v => ⟨_, hN_up hN0 (n := 1233) (by decide) v, fun k hk t ht => by rw [updI_n (by omega)]; exact hP k hk t ht⟩
    have hu1 : ∀ (v : Int), rU cA M (mup g (M 0 1233) (nE (cA 0) v)) o Sl kp cap n V P := fun v => rU_n hu (nfr_up (by decide)) (hq1 v)
    have y1 := (hu1 (P j i)).2.1.1
    have cu := hN1.1 1233 (by decide)
    rw [updI_s] at cu
    refine zi_aload_n X dX7_comesGreat_25 rfl rfl ?_
    refine zi_getf (C := RX7) (T := TX7) (N := 27) (ci := 11) X (by first | assumption | exact mup_self | (rw [mup_ne (by assumption)]; assumption) | (rw [mup_ne (by assumption)]; exact mup_self) | (rw [mup_ne (by assumption), mup_ne (by assumption)]; assumption)) rfl in_X7 3 (by decide) wf_X7_18 rfl rfl dX7_comesGreat_26 ?_
    refine zi_callSi X (n_bare l D cu (nB_C nn)) kc_X7_bare wm_X7_155 wst_X7_bare ⟨Nat.le_of_ble_eq_true rfl, Nat.le_of_ble_eq_true rfl⟩ rfl rfl (Nat.le_of_ble_eq_true rfl) ⟨Nat.le_of_ble_eq_true rfl, Nat.le_of_ble_eq_true rfl⟩ dX7_comesGreat_29 (fun r h3 hp => ?_)
    obtain ⟨rfl, rfl⟩ := hp
    rw [mup_mup]
    have hu2 := hu1 ((P j i).natAbs : Int)
    have y2 := hu2.2.1.1
    have yf : mup g (M 0 1233) (nE (cA 0) ((P j i).natAbs : Int)) (M 2 3) = some (mdE (cA 1) f) := by rw [mup_ne (kd_ne hf bu rfl)]; exact hf
    have du : mup g (M 0 1233) (nE (cA 0) ((P j i).natAbs : Int)) (M 0 1233) = some (nE (cA 0) ((P j i).natAbs : Int)) := mup_self
    generalize hg2 : mup g (M 0 1233) (nE (cA 0) ((P j i).natAbs : Int)) = g2 at *
    refine zi_istore X dX7_comesGreat_32 (by decide) ?_
    refine zi_aload_n X dX7_comesGreat_34 rfl rfl ?_
    refine zi_getf (C := RX7) (T := TX7) (N := 27) (ci := 11) X (by first | assumption | exact mup_self | (rw [mup_ne (by assumption)]; assumption) | (rw [mup_ne (by assumption)]; exact mup_self) | (rw [mup_ne (by assumption), mup_ne (by assumption)]; assumption)) rfl in_X7 16 (by decide) wf_X7_59 rfl rfl dX7_comesGreat_35 ?_
    refine zi_iload X dX7_comesGreat_38 rfl ?_
    refine zi_aload_n X dX7_comesGreat_40 rfl rfl ?_
    refine zi_getf (C := RX7) (T := TX7) (N := 27) (ci := 11) X (by first | assumption | exact mup_self | (rw [mup_ne (by assumption)]; assumption) | (rw [mup_ne (by assumption)]; exact mup_self) | (rw [mup_ne (by assumption), mup_ne (by assumption)]; assumption)) rfl in_X7 3 (by decide) wf_X7_18 rfl rfl dX7_comesGreat_41 ?_
    refine zi_callSi X (n_bits l D du (by omega) (nB_p (nC_abs nn) (by omega))) kc_X7_bits wm_X7_149 wst_X7_bits ⟨Nat.le_of_ble_eq_true rfl, Nat.le_of_ble_eq_true rfl⟩ rfl rfl (Nat.le_of_ble_eq_true rfl) ⟨Nat.le_of_ble_eq_true rfl, Nat.le_of_ble_eq_true rfl⟩ dX7_comesGreat_44 (fun r h3 hp => ?_)
    obtain ⟨rfl, rfl⟩ := hp
    have hbl := bl_lt (v := ((P j i).natAbs : Int)) (by omega)
    have bl5 : bl ((P j i).natAbs : Int) < 1540 := by
      by_cases q : ((P j i).natAbs : Int) = 0
      · rw [q]; decide
      · obtain ⟨b, hb1, hb2⟩ := bl_ge (v := ((P j i).natAbs : Int)) (by omega)
        have hb4 : b < 32 * 48 := by
          have h3 : (2 : Int) ^ b < 2 ^ (32 * 48) := by rw [tw_32]; have := nB_p (nC_abs nn) (by omega); omega
          have h4 : ((2 ^ b : Nat) : Int) < ((2 ^ (32 * 48) : Nat) : Int) := by rw [tw_c, tw_c]; exact h3
          exact (Nat.pow_lt_pow_iff_right (by decide)).mp (Int.ofNat_lt.mp h4)
        omega
    -- stored
    have s81 : ∀ v : Int64, (v.toInt = P j i ∨ 9999 < (P j i).natAbs ∧ 9999 < v.toInt.natAbs) → zM z 0 0 81 [some (.ref (M 3 0)), some (.ref (M 1 j)), some (.int (nI t)), some (.int rf), some (.int (nI i)), none] [.long v, .int (nI i), .ref (M 2 3)] h3 := fun v hv => by
      refine zi_last X 1 (by first | assumption | exact mup_self | (rw [mup_ne (by assumption)]; assumption) | (rw [mup_ne (by assumption)]; exact mup_self) | (rw [mup_ne (by assumption), mup_ne (by assumption)]; assumption)) rfl (vin (show i < 14 by omega) (by decide)) dX7_comesGreat_81 ?_
      refine zi_iinc (v := nI (i + 1)) X dX7_comesGreat_82 rfl (nI_inc _) (by decide) ?_
      refine zi_goto (tgt := 7) X dX7_comesGreat_85 (by decide) ?_
      rw [nI_cl (show i < 2147483648 by omega)]
      refine zi_sub (by repeat (first | exact trivial | refine And.intro rfl ?_)) (ih (i + 1) _ (vp_updL f i v) (by omega) (rU_m hu2 _) mup_self (fun k hk => ?_) (fun k h1 h2' => ?_))
      · by_cases c : k = i
        · rw [c, vpL_s]; exact hv
        · rw [vpL_n c]; exact h1 k (by omega)
      · rw [vpL_n (by omega)]
        exact h2 k (by omega) h2'
    by_cases c31 : bl ((P j i).natAbs : Int) ≤ 31
    · have small : ((P j i).natAbs : Int) < 2147483648 := by
        have : (2 : Int) ^ bl ((P j i).natAbs : Int) ≤ 2 ^ 31 := by
          have : ((2 ^ bl ((P j i).natAbs : Int) : Nat) : Int) ≤ ((2 ^ 31 : Nat) : Int) := Int.ofNat_le.mpr (Nat.pow_le_pow_right (by decide) c31)
          rw [tw_c, tw_c] at this
          exact this
        have e31 : (2 : Int) ^ 31 = 2147483648 := by decide
        omega
      have d0 : nd ((P j i).natAbs : Int) 0 = (P j i).natAbs := by
        have := nd_int ((P j i).natAbs : Int) 0
        rw [cp_0, Int.ediv_one, Int.emod_eq_of_lt (by omega) (by unfold CC; omega)] at this
        omega
      have rd : nf ((P j i).natAbs : Int) (nI 0).toNatClampNeg = nI (P j i).natAbs := by rw [nf_rd (by decide), d0]
      have ti : (nI (P j i).natAbs).toInt = ((P j i).natAbs : Int) := nI_int (by omega)
      by_cases cs : P j i < 0
      · rw [if_pos cs]
        refine zi_bipush (v := (nI 31)) X dX7_comesGreat_47 (by decide) ?_
        refine zi_icmp_le (tgt := 58) X dX7_comesGreat_49 (by decide) (fun c_49 => ?_) (fun c_49 => (by first | exact absurd (nI_le c31 (by decide)) c_49 | exact absurd c_49 (nI_le c31 (by decide))))
        refine zi_iload X dX7_comesGreat_58 rfl ?_
        refine zi_if_eq (tgt := 74) X dX7_comesGreat_60 (by decide) (fun c_60 => (by first | exact absurd (by decide) c_60 | exact absurd c_60 (by decide))) (fun c_60 => ?_)
        refine zi_aload_n X dX7_comesGreat_63 rfl rfl ?_
        refine zi_getf (C := RX7) (T := TX7) (N := 27) (ci := 11) X (by first | assumption | exact mup_self | (rw [mup_ne (by assumption)]; assumption) | (rw [mup_ne (by assumption)]; exact mup_self) | (rw [mup_ne (by assumption), mup_ne (by assumption)]; assumption)) rfl in_X7 3 (by decide) wf_X7_18 rfl rfl dX7_comesGreat_64 ?_
        refine zi_iconst (v := (nI 0)) X dX7_comesGreat_67 (by decide) ?_
        refine zi_iald X 0 (by first | assumption | exact mup_self | (rw [mup_ne (by assumption)]; assumption) | (rw [mup_ne (by assumption)]; exact mup_self) | (rw [mup_ne (by assumption), mup_ne (by assumption)]; assumption)) rfl (vin (show 0 < 48 by decide) (by decide)) dX7_comesGreat_68 ?_
        refine zi_ineg X dX7_comesGreat_69 ?_
        refine zi_i2l X dX7_comesGreat_70 ?_
        refine zi_goto (tgt := 81) X dX7_comesGreat_71 (by decide) ?_
        rw [rd]
        refine zi_sub (by repeat (first | exact trivial | refine And.intro rfl ?_)) (s81 _ (Or.inl ?_))
        rw [i32_i64, fb_negI (by omega), ti]
        omega
      · rw [if_neg cs]
        refine zi_bipush (v := (nI 31)) X dX7_comesGreat_47 (by decide) ?_
        refine zi_icmp_le (tgt := 58) X dX7_comesGreat_49 (by decide) (fun c_49 => ?_) (fun c_49 => (by first | exact absurd (nI_le c31 (by decide)) c_49 | exact absurd c_49 (nI_le c31 (by decide))))
        refine zi_iload X dX7_comesGreat_58 rfl ?_
        refine zi_if_eq (tgt := 74) X dX7_comesGreat_60 (by decide) (fun c_60 => ?_) (fun c_60 => (by first | exact absurd (by decide) c_60 | exact absurd c_60 (by decide)))
        refine zi_aload_n X dX7_comesGreat_74 rfl rfl ?_
        refine zi_getf (C := RX7) (T := TX7) (N := 27) (ci := 11) X (by first | assumption | exact mup_self | (rw [mup_ne (by assumption)]; assumption) | (rw [mup_ne (by assumption)]; exact mup_self) | (rw [mup_ne (by assumption), mup_ne (by assumption)]; assumption)) rfl in_X7 3 (by decide) wf_X7_18 rfl rfl dX7_comesGreat_75 ?_
        refine zi_iconst (v := (nI 0)) X dX7_comesGreat_78 (by decide) ?_
        refine zi_iald X 0 (by first | assumption | exact mup_self | (rw [mup_ne (by assumption)]; assumption) | (rw [mup_ne (by assumption)]; exact mup_self) | (rw [mup_ne (by assumption), mup_ne (by assumption)]; assumption)) rfl (vin (show 0 < 48 by decide) (by decide)) dX7_comesGreat_79 ?_
        refine zi_i2l X dX7_comesGreat_80 ?_
        rw [rd]
        refine zi_sub (by repeat (first | exact trivial | refine And.intro rfl ?_)) (s81 _ (Or.inl ?_))
        rw [i32_i64, ti]
        omega
    · have big : 9999 < (P j i).natAbs := by
        by_cases q : (P j i).natAbs ≤ 9999
        · exfalso
          apply c31
          by_cases q0 : ((P j i).natAbs : Int) = 0
          · rw [q0]; decide
          · obtain ⟨b, hb1, hb2⟩ := bl_ge (v := ((P j i).natAbs : Int)) (by omega)
            rw [hb1]
            have e14 : (2 : Int) ^ 14 = 16384 := by decide
            have h3 : (2 : Int) ^ b < 2 ^ 14 := by omega
            have h4 : ((2 ^ b : Nat) : Int) < ((2 ^ 14 : Nat) : Int) := by rw [tw_c, tw_c]; exact h3
            have := (Nat.pow_lt_pow_iff_right (by decide)).mp (Int.ofNat_lt.mp h4)
            omega
        · omega
      refine zi_bipush (v := (nI 31)) X dX7_comesGreat_47 (by decide) ?_
      refine zi_icmp_le (tgt := 58) X dX7_comesGreat_49 (by decide) (fun c_49 => (by first | exact absurd (nI_ge (show 31 < bl ((P j i).natAbs : Int) by omega) (by omega)) c_49 | exact absurd c_49 (nI_ge (show 31 < bl ((P j i).natAbs : Int) by omega) (by omega)))) (fun c_49 => ?_)
      refine zi_ldc2_w X wK_X7_223 dX7_comesGreat_52 ?_
      refine zi_goto (tgt := 81) X dX7_comesGreat_55 (by decide) ?_
      exact zi_sub (by repeat (first | exact trivial | refine And.intro rfl ?_)) (s81 10000 (Or.inr ⟨big, by decide⟩))
end CM
