/-! SturmRoots$Algebra: changesAt, isRoot, rootsInside -/
/-- a sequence's elements are settled and small -/
def sqOk (P : Nat → Nat → Int) (G Ln : Nat → Nat) (q M : Nat) : Prop := Ln q ≤ 7 ∧ ∀ i, i < Ln q → G (sb q + i) = stI (P (sb q + i)) 7 ∧ ∀ t, t < 7 → (P (sb q + i) t).natAbs ≤ M
/-- its sign changes -/
def sqC (P : Nat → Nat → Int) (Ln : Nat → Nat) (q : Nat) (n : Int) (k : Nat) : Nat := (chg (fun i => sgnAt (P (sb q + i)) n k) (Ln q)).2
theorem sgnAt_3 (p : Nat → Int) (n : Int) (k : Nat) : sgnAt p n k = 0 ∨ sgnAt p n k = 1 ∨ sgnAt p n k = -1 := sign3 _
/-- 1 at a root of the first element -/
def sqR (P : Nat → Nat → Int) (q : Nat) (n : Int) (k : Nat) : Int32 := if sgnAt (P (sb q + 0)) n k = 0 then nI 1 else nI 0
def sqI (P : Nat → Nat → Int) (Ln : Nat → Nat) (q k : Nat) (lo hi : Int32) : Int32 := if lo = hi then sqR P q hi.toInt k else nI (sqC P Ln q lo.toInt k) - nI (sqC P Ln q hi.toInt k) - sqR P q hi.toInt k
section ALG14
variable {cA : Nat → ClassId} {S : Nat → Nat → Nat} {B : Nat → Int} {P : Nat → Nat → Int} {G Ln : Nat → Nat} {h : mH}
theorem sb_le {q : Nat} : sb q + 7 ≤ 22 := by unfold sb; split <;> omega
theorem q_changesAt (l : Launch) (D : va_G) (hh : hP cA S P G Ln h) {q k M X : Nat} {n : Int32} (hq : q < 2) (hs : sqOk P G Ln q M) (hn : n.toInt.natAbs ≤ X) (hk : k < 14) (hKX : 2 ^ k ≤ X) (hX : X < BB) (hMX : M * (2 * X) ^ 7 < BB ^ 18) :
    mCi l yX0_changesAt cX0_changesAt 8 .int (rmd 4) D (mT cA) [.ref (S 6 0), .ref (S 4 q), .int n, .int (nI k)] h (fun x h1 => hfr S h1 h ∧ hP cA S P G Ln h1 ∧ x = nI (sqC P Ln q n.toInt k)) := by
  obtain ⟨Y, hY⟩ : ∃ Y, Y = X := ⟨_, rfl⟩
  rw [← hY] at hn hKX hX hMX
  clear hY X
  have hsb : sb q + 7 ≤ 22 := sb_le
  refine mEnter_i (by decide) (Nat.le_of_ble_eq_true rfl) rfl (fun z X Vz => ?_)
  obtain ⟨s, hss⟩ : ∃ s : Nat → Int, s = fun i => sgnAt (P (sb q + i)) n.toInt k := ⟨_, rfl⟩
  have hs3 : ∀ i, s i = 0 ∨ s i = 1 ∨ s i = -1 := fun i => by rw [hss]; exact sign3 _
  unfold sqC at Vz
  rw [← hss] at Vz
  refine zi_iconst (v := (nI 0)) X dX0_changesAt_0 (by decide) ?_
  refine zi_istore X dX0_changesAt_1 (by decide) ?_
  refine zi_iconst (v := (nI 0)) X dX0_changesAt_3 (by decide) ?_
  refine zi_istore X dX0_changesAt_4 (by decide) ?_
  refine zi_iconst (v := (nI 0)) X dX0_changesAt_6 (by decide) ?_
  refine zi_istore X dX0_changesAt_7 (by decide) ?_
  suffices key : ∀ c i g (o : Option Value), i + c = Ln q → hfr S g h → hP cA S P G Ln g → zM z 0 0 9 [some (.ref (S 6 0)), some (.ref (S 4 q)), some (.int n), some (.int (nI k)), some (.int (nI (chg s i).2)), some (.int (s3 (chg s i).1)), some (.int (nI i)), o] [] g from
    zi_sub (by repeat (first | exact trivial | refine And.intro rfl ?_ | refine mSubL_o ?_)) (key (Ln q) 0 h none (by omega) (hfr_rf S h) hh)
  intro c
  induction c with
  | zero =>
    intro i g o hi hf hg
    have e : i = Ln q := by omega
    subst e
    have a1 := (hP_s hg hq).1
    refine zi_iload X dX0_changesAt_9 rfl ?_
    refine zi_aload_n X dX0_changesAt_11 rfl rfl ?_
    refine zi_getf (C := RX5) (T := TX5) (N := 2) (ci := 9) X (by first | assumption | exact mup_self | (rw [mup_ne (by assumption)]; assumption) | (rw [mup_ne (by assumption)]; exact mup_self) | (rw [mup_ne (by assumption), mup_ne (by assumption)]; assumption)) rfl in_X5 1 (by decide) wf_X0_155 rfl rfl dX0_changesAt_12 ?_
    refine zi_icmp_ge (tgt := 59) X dX0_changesAt_15 (by decide) (fun c_15 => ?_) (fun c_15 => (by first | exact absurd (Int32.le_refl _) c_15 | exact absurd c_15 (Int32.le_refl _)))
    refine zi_iload X dX0_changesAt_59 rfl ?_
    refine zi_ireturn X Vz dX0_changesAt_61 ?_
    exact ⟨hf, hg, rfl⟩
  | succ c ih =>
    intro i g o hi hf hg
    have hl7 := hs.1
    have a1 := (hP_s hg hq).1
    have a2 := (hP_s hg hq).2
    have a0 := hP_a hg
    have hsi := hs.2 i (by omega)
    have hle := chg_le s i
    have hc := chg_sg hs3 i
    refine zi_iload X dX0_changesAt_9 rfl ?_
    refine zi_aload_n X dX0_changesAt_11 rfl rfl ?_
    refine zi_getf (C := RX5) (T := TX5) (N := 2) (ci := 9) X (by first | assumption | exact mup_self | (rw [mup_ne (by assumption)]; assumption) | (rw [mup_ne (by assumption)]; exact mup_self) | (rw [mup_ne (by assumption), mup_ne (by assumption)]; assumption)) rfl in_X5 1 (by decide) wf_X0_155 rfl rfl dX0_changesAt_12 ?_
    refine zi_icmp_ge (tgt := 59) X dX0_changesAt_15 (by decide) (fun c_15 => (by first | exact absurd (nI_ge (show i < Ln q by omega) (by omega)) c_15 | exact absurd c_15 (nI_ge (show i < Ln q by omega) (by omega)))) (fun c_15 => ?_)
    refine zi_aload_n X dX0_changesAt_18 rfl rfl ?_
    refine zi_aload_n X dX0_changesAt_19 rfl rfl ?_
    refine zi_getf (C := RX5) (T := TX5) (N := 2) (ci := 9) X (by first | assumption | exact mup_self | (rw [mup_ne (by assumption)]; assumption) | (rw [mup_ne (by assumption)]; exact mup_self) | (rw [mup_ne (by assumption), mup_ne (by assumption)]; assumption)) rfl in_X5 0 (by decide) wf_X0_158 rfl rfl dX0_changesAt_20 ?_
    refine zi_iload X dX0_changesAt_23 rfl ?_
    refine zi_aaldq X 3 (by first | assumption | exact mup_self | (rw [mup_ne (by assumption)]; assumption) | (rw [mup_ne (by assumption)]; exact mup_self) | (rw [mup_ne (by assumption), mup_ne (by assumption)]; assumption)) rfl (vin (show i < 7 by omega) (by decide)) (sa_at (i := i) (by omega)) dX0_changesAt_25 ?_
    refine zi_iload_n X dX0_changesAt_26 rfl rfl ?_
    refine zi_iload_n X dX0_changesAt_27 rfl rfl ?_
    refine zi_callVi X (q_signAt l D hg (j := sb q + i) (by omega) hsi.1 hsi.2 hn hk hKX hX hMX) kc_X0_signAt wm_X0_173 (by first | assumption | exact mup_self | (rw [mup_ne (by assumption)]; assumption) | (rw [mup_ne (by assumption)]; exact mup_self) | (rw [mup_ne (by assumption), mup_ne (by assumption)]; assumption)) rfl wim_X0_signAt wse_X0_signAt ⟨Nat.le_of_ble_eq_true rfl, Nat.le_of_ble_eq_true rfl⟩ rfl rfl (Nat.le_of_ble_eq_true rfl) ⟨Nat.le_of_ble_eq_true rfl, Nat.le_of_ble_eq_true rfl⟩ dX0_changesAt_28 (fun x g1 e1 => ?_)
    obtain ⟨e1, e2, e3⟩ := e1
    rw [show sgnAt (P (sb q + i)) n.toInt k = s i by rw [hss]] at e3
    subst e3
    have ih1 := fun o => ih (i + 1) g1 o (by omega) (hfr_tr e1 hf) e2
    refine zi_istore X dX0_changesAt_31 (by decide) ?_
    refine zi_iload X dX0_changesAt_33 rfl ?_
    refine zi_iload X dX0_changesAt_35 rfl ?_
    refine zi_imul X dX0_changesAt_37 ?_
    refine zi_if_ge (tgt := 44) X dX0_changesAt_38 (by decide) (fun c_38 => ?_) (fun c_38 => ?_)
    · have hm := (s3_mul (hs3 i) hc).mp c_38
      rw [chg] at ih1
      dsimp only at ih1
      rw [if_neg hm] at ih1
      refine zi_iload X dX0_changesAt_44 rfl ?_
      refine zi_if_eq (tgt := 53) X dX0_changesAt_46 (by decide) (fun c_46 => ?_) (fun c_46 => ?_)
      · have hz := (s3_z (hs3 i)).mp c_46
        rw [if_pos hz] at ih1
        refine zi_iinc (v := nI (i + 1)) X dX0_changesAt_53 rfl (nI_inc _) (by decide) ?_
        refine zi_goto (tgt := 9) X dX0_changesAt_56 (by decide) ?_
        exact zi_sub (by repeat (first | exact trivial | refine And.intro rfl ?_ | refine mSubL_o ?_)) (ih1 _)
      · have hz : ¬ s i = 0 := fun q => c_46 ((s3_z (hs3 i)).mpr q)
        rw [if_neg hz] at ih1
        refine zi_iload X dX0_changesAt_49 rfl ?_
        refine zi_istore X dX0_changesAt_51 (by decide) ?_
        refine zi_iinc (v := nI (i + 1)) X dX0_changesAt_53 rfl (nI_inc _) (by decide) ?_
        refine zi_goto (tgt := 9) X dX0_changesAt_56 (by decide) ?_
        exact zi_sub (by repeat (first | exact trivial | refine And.intro rfl ?_ | refine mSubL_o ?_)) (ih1 _)
    · have hm : s i * (chg s i).1 < 0 := by
        by_cases q : s i * (chg s i).1 < 0
        · exact q
        · exact absurd ((s3_mul (hs3 i) hc).mpr q) c_38
      have hz : ¬ s i = 0 := fun q => by rw [q, Int.zero_mul] at hm; omega
      rw [chg] at ih1
      dsimp only at ih1
      rw [if_pos hm, if_neg hz] at ih1
      refine zi_iinc (v := nI ((chg s i).2 + 1)) X dX0_changesAt_41 rfl (nI_inc _) (by decide) ?_
      refine zi_iload X dX0_changesAt_44 rfl ?_
      refine zi_if_eq (tgt := 53) X dX0_changesAt_46 (by decide) (fun c_46 => (by first | exact absurd (fun q => hz ((s3_z (hs3 i)).mp q)) c_46 | exact absurd c_46 (fun q => hz ((s3_z (hs3 i)).mp q)))) (fun c_46 => ?_)
      refine zi_iload X dX0_changesAt_49 rfl ?_
      refine zi_istore X dX0_changesAt_51 (by decide) ?_
      refine zi_iinc (v := nI (i + 1)) X dX0_changesAt_53 rfl (nI_inc _) (by decide) ?_
      refine zi_goto (tgt := 9) X dX0_changesAt_56 (by decide) ?_
      exact zi_sub (by repeat (first | exact trivial | refine And.intro rfl ?_ | refine mSubL_o ?_)) (ih1 _)
theorem q_isRoot (l : Launch) (D : va_G) (hh : hP cA S P G Ln h) {q k M X : Nat} {n : Int32} (hq : q < 2) (hG : G (sb q + 0) = stI (P (sb q + 0)) 7) (hM : ∀ t, t < 7 → (P (sb q + 0) t).natAbs ≤ M) (hn : n.toInt.natAbs ≤ X) (hk : k < 14) (hKX : 2 ^ k ≤ X) (hX : X < BB) (hMX : M * (2 * X) ^ 7 < BB ^ 18) :
    mCi l yX0_isRoot cX0_isRoot 4 .boolean (rmd 4) D (mT cA) [.ref (S 6 0), .ref (S 4 q), .int (nI k), .int n] h (fun x h1 => hfr S h1 h ∧ hP cA S P G Ln h1 ∧ x = if sgnAt (P (sb q + 0)) n.toInt k = 0 then nI 1 else nI 0) := by
  obtain ⟨Y, hY⟩ : ∃ Y, Y = X := ⟨_, rfl⟩
  rw [← hY] at hn hKX hX hMX
  clear hY X
  have hsb : sb q + 7 ≤ 22 := sb_le
  refine mEnter_i (by decide) (Nat.le_of_ble_eq_true rfl) rfl (fun z X Vz => ?_)
  have a0 := hP_a hh
  have a1 := (hP_s hh hq).1
  have a2 := (hP_s hh hq).2
  refine zi_aload_n X dX0_isRoot_0 rfl rfl ?_
  refine zi_aload_n X dX0_isRoot_1 rfl rfl ?_
  refine zi_getf (C := RX5) (T := TX5) (N := 2) (ci := 9) X (by first | assumption | exact mup_self | (rw [mup_ne (by assumption)]; assumption) | (rw [mup_ne (by assumption)]; exact mup_self) | (rw [mup_ne (by assumption), mup_ne (by assumption)]; assumption)) rfl in_X5 0 (by decide) wf_X0_158 rfl rfl dX0_isRoot_2 ?_
  refine zi_iconst (v := (nI 0)) X dX0_isRoot_5 (by decide) ?_
  refine zi_aaldq X 3 (by first | assumption | exact mup_self | (rw [mup_ne (by assumption)]; assumption) | (rw [mup_ne (by assumption)]; exact mup_self) | (rw [mup_ne (by assumption), mup_ne (by assumption)]; assumption)) rfl (vin (show 0 < 7 by decide) (by decide)) (sa_at (i := 0) (by decide)) dX0_isRoot_6 ?_
  refine zi_iload_n X dX0_isRoot_7 rfl rfl ?_
  refine zi_iload_n X dX0_isRoot_8 rfl rfl ?_
  refine zi_callVi X (q_signAt l D hh (j := sb q + 0) (by omega) hG hM hn hk hKX hX hMX) kc_X0_signAt wm_X0_173 (by first | assumption | exact mup_self | (rw [mup_ne (by assumption)]; assumption) | (rw [mup_ne (by assumption)]; exact mup_self) | (rw [mup_ne (by assumption), mup_ne (by assumption)]; assumption)) rfl wim_X0_signAt wse_X0_signAt ⟨Nat.le_of_ble_eq_true rfl, Nat.le_of_ble_eq_true rfl⟩ rfl rfl (Nat.le_of_ble_eq_true rfl) ⟨Nat.le_of_ble_eq_true rfl, Nat.le_of_ble_eq_true rfl⟩ dX0_isRoot_9 (fun x g1 e1 => ?_)
  obtain ⟨e1, e2, e3⟩ := e1
  subst e3
  have hz := s3_z (sgnAt_3 (P (sb q + 0)) n.toInt k)
  refine zi_if_ne (tgt := 19) X dX0_isRoot_12 (by decide) (fun c_12 => ?_) (fun c_12 => ?_)
  · refine zi_iconst (v := (nI 0)) X dX0_isRoot_19 (by decide) ?_
    refine zi_zreturn X Vz rfl dX0_isRoot_20 ?_
    rw [if_neg (fun q => c_12 (hz.mpr q))]
    exact ⟨e1, e2, rfl⟩
  · refine zi_iconst (v := (nI 1)) X dX0_isRoot_15 (by decide) ?_
    refine zi_goto (tgt := 20) X dX0_isRoot_16 (by decide) ?_
    refine zi_zreturn X Vz rfl dX0_isRoot_20 ?_
    rw [if_pos (hz.mp c_12)]
    exact ⟨e1, e2, rfl⟩
theorem q_rootsInside (l : Launch) (D : va_G) (hh : hP cA S P G Ln h) {q k M X : Nat} {lo hi : Int32} (hq : q < 2) (hs : sqOk P G Ln q M) (hG : G (sb q + 0) = stI (P (sb q + 0)) 7) (hM : ∀ t, t < 7 → (P (sb q + 0) t).natAbs ≤ M) (hlo : lo.toInt.natAbs ≤ X) (hhi : hi.toInt.natAbs ≤ X) (hk : k < 14) (hKX : 2 ^ k ≤ X) (hX : X < BB) (hMX : M * (2 * X) ^ 7 < BB ^ 18) :
    mCi l yX0_rootsInside cX0_rootsInside 6 .int (rmd 5) D (mT cA) [.ref (S 6 0), .ref (S 4 q), .int (nI k), .int lo, .int hi] h (fun x h1 => hfr S h1 h ∧ hP cA S P G Ln h1 ∧ x = sqI P Ln q k lo hi) := by
  obtain ⟨Y, hY⟩ : ∃ Y, Y = X := ⟨_, rfl⟩
  rw [← hY] at hlo hhi hKX hX hMX
  clear hY X
  refine mEnter_i (by decide) (Nat.le_of_ble_eq_true rfl) rfl (fun z X Vz => ?_)
  have a0 := hP_a hh
  refine zi_aload_n X dX0_rootsInside_0 rfl rfl ?_
  refine zi_aload_n X dX0_rootsInside_1 rfl rfl ?_
  refine zi_iload_n X dX0_rootsInside_2 rfl rfl ?_
  refine zi_iload X dX0_rootsInside_3 rfl ?_
  refine zi_callVi X (q_isRoot l D hh hq hG hM hhi hk hKX hX hMX) kc_X0_isRoot wm_X0_177 (by first | assumption | exact mup_self | (rw [mup_ne (by assumption)]; assumption) | (rw [mup_ne (by assumption)]; exact mup_self) | (rw [mup_ne (by assumption), mup_ne (by assumption)]; assumption)) rfl wim_X0_isRoot wse_X0_isRoot ⟨Nat.le_of_ble_eq_true rfl, Nat.le_of_ble_eq_true rfl⟩ rfl rfl (Nat.le_of_ble_eq_true rfl) ⟨Nat.le_of_ble_eq_true rfl, Nat.le_of_ble_eq_true rfl⟩ dX0_rootsInside_5 (fun x g1 e1 => ?_)
  obtain ⟨e1, h1, e3⟩ := e1
  have b0 := hP_a h1
  suffices key : zM z 0 0 16 [some (.ref (S 6 0)), some (.ref (S 4 q)), some (.int (nI k)), some (.int lo), some (.int hi), none] [.int (sqR P q hi.toInt k)] g1 by
    unfold sqR at key
    subst e3
    refine zi_if_eq (tgt := 15) X dX0_rootsInside_8 (by decide) (fun c_8 => ?_) (fun c_8 => ?_)
    · have : ¬ sgnAt (P (sb q + 0)) hi.toInt k = 0 := fun w => by rw [if_pos w] at c_8; exact absurd c_8 (by decide)
      rw [if_neg this] at key
      refine zi_iconst (v := (nI 0)) X dX0_rootsInside_15 (by decide) ?_
      exact key
    · have : sgnAt (P (sb q + 0)) hi.toInt k = 0 := by
        by_cases w : sgnAt (P (sb q + 0)) hi.toInt k = 0
        · exact w
        · rw [if_neg w] at c_8; exact absurd rfl c_8
      rw [if_pos this] at key
      refine zi_iconst (v := (nI 1)) X dX0_rootsInside_11 (by decide) ?_
      refine zi_goto (tgt := 16) X dX0_rootsInside_12 (by decide) ?_
      exact key
  refine zi_istore X dX0_rootsInside_16 (by decide) ?_
  refine zi_iload_n X dX0_rootsInside_18 rfl rfl ?_
  refine zi_iload X dX0_rootsInside_19 rfl ?_
  refine zi_icmp_ne (tgt := 27) X dX0_rootsInside_21 (by decide) (fun c_21 => ?_) (fun c_21 => ?_)
  · refine zi_aload_n X dX0_rootsInside_27 rfl rfl ?_
    refine zi_aload_n X dX0_rootsInside_28 rfl rfl ?_
    refine zi_iload_n X dX0_rootsInside_29 rfl rfl ?_
    refine zi_iload_n X dX0_rootsInside_30 rfl rfl ?_
    refine zi_callVi X (q_changesAt l D h1 hq hs hlo hk hKX hX hMX) kc_X0_changesAt wm_X0_181 (by first | assumption | exact mup_self | (rw [mup_ne (by assumption)]; assumption) | (rw [mup_ne (by assumption)]; exact mup_self) | (rw [mup_ne (by assumption), mup_ne (by assumption)]; assumption)) rfl wim_X0_changesAt wse_X0_changesAt ⟨Nat.le_of_ble_eq_true rfl, Nat.le_of_ble_eq_true rfl⟩ rfl rfl (Nat.le_of_ble_eq_true rfl) ⟨Nat.le_of_ble_eq_true rfl, Nat.le_of_ble_eq_true rfl⟩ dX0_rootsInside_31 (fun x g2 e4 => ?_)
    obtain ⟨e4, h2, rfl⟩ := e4
    have c0 := hP_a h2
    refine zi_aload_n X dX0_rootsInside_34 rfl rfl ?_
    refine zi_aload_n X dX0_rootsInside_35 rfl rfl ?_
    refine zi_iload X dX0_rootsInside_36 rfl ?_
    refine zi_iload_n X dX0_rootsInside_38 rfl rfl ?_
    refine zi_callVi X (q_changesAt l D h2 hq hs hhi hk hKX hX hMX) kc_X0_changesAt wm_X0_181 (by first | assumption | exact mup_self | (rw [mup_ne (by assumption)]; assumption) | (rw [mup_ne (by assumption)]; exact mup_self) | (rw [mup_ne (by assumption), mup_ne (by assumption)]; assumption)) rfl wim_X0_changesAt wse_X0_changesAt ⟨Nat.le_of_ble_eq_true rfl, Nat.le_of_ble_eq_true rfl⟩ rfl rfl (Nat.le_of_ble_eq_true rfl) ⟨Nat.le_of_ble_eq_true rfl, Nat.le_of_ble_eq_true rfl⟩ dX0_rootsInside_39 (fun x g3 e5 => ?_)
    obtain ⟨e5, h3, rfl⟩ := e5
    refine zi_isub X dX0_rootsInside_42 ?_
    refine zi_iload X dX0_rootsInside_43 rfl ?_
    refine zi_isub X dX0_rootsInside_45 ?_
    refine zi_ireturn X Vz dX0_rootsInside_46 ?_
    refine ⟨hfr_tr e5 (hfr_tr e4 e1), h3, ?_⟩
    unfold sqI
    rw [if_neg c_21]
  · refine zi_iload X dX0_rootsInside_24 rfl ?_
    refine zi_ireturn X Vz dX0_rootsInside_26 ?_
    refine ⟨e1, h1, ?_⟩
    unfold sqI
    rw [if_pos c_21]
end ALG14
