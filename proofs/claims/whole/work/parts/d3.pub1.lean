/-! SturmRootsModel: set, coefficient, degree, copy, add, derivative, reflect -/
def uT (cA : Nat → ClassId) (M : Nat → Nat → Nat) (o : RO) (kp : Nat → Int) (cap n : Nat) (V : Nat → Iv) (P : Nat → Nat → Int) (th : Nat) (Sl : Nat → Nat → Int) (h1 : mH) : Prop := ∃ P', rU cA M h1 (nI th, o.2) Sl kp cap n V P' ∧ P' 7 = P 7
theorem uT_of {cA : Nat → ClassId} {M : Nat → Nat → Nat} {o : RO} {kp : Nat → Int} {cap n : Nat} {V : Nat → Iv} {P : Nat → Nat → Int} {th : Nat} {Sl : Nat → Nat → Int} {h1 : mH} (h : rU cA M h1 (nI th, o.2) Sl kp cap n V P) : uT cA M o kp cap n V P th Sl h1 := ⟨P, h, rfl⟩
def slB (Sl : Nat → Nat → Int) : Prop := ∀ i k, i < 5 → k < 7 → (Sl i k).natAbs ≤ 9999
theorem lI_toI {v : Int} (h : v.natAbs < 9223372036854775808) : (lI v).toInt = v := lI_int h
theorem vU_at {f : Nat → Int64} {i k : Nat} {v : Int64} : vp_updL f i v k = if k = i then v else f k := by
  by_cases c : k = i
  · rw [c, vpL_s, if_pos rfl]
  · rw [vpL_n c, if_neg c]
theorem slE_at {c : ClassId} {M : Nat → Nat → Nat} : slE c M = .inl (c, 5, .inr (.inr (.inr (.inr (fun i => if i < 5 then some (M 4 i) else none))))) := rfl
theorem setS_k {Sl : Nat → Nat → Int} {i : Nat} {s : Nat → Int} (hs : ∀ k, s k = Sl i k) : setS Sl i s = Sl := by
  funext j k
  unfold setS
  by_cases c : j = i
  · rw [if_pos c, c, hs k]
  · rw [if_neg c]
section P1
variable {cA : Nat → ClassId} {M : Nat → Nat → Nat} {h : mH} {o : RO} {Sl : Nat → Nat → Int} {kp : Nat → Int} {cap n : Nat} {V : Nat → Iv} {P : Nat → Nat → Int}
theorem rU_m2 {o : RO} (hu : rU cA M h o Sl kp cap n V P) {i : Nat} (hi : i < 5) (f : Nat → Int64) : mup h (M 2 3) (mdE (cA 1) f) (M 4 i) = some (slotA (cA 0) (Sl i)) := (rU_m hu f).2.1.2.2.1 i hi
theorem u_set (l : Launch) (D : va_G) (hu : rU cA M h o Sl kp cap n V P) (hb : slB Sl) {a b v : Int32} :
    mCi l yX7_set_ cX7_set_ 4 .int (rmd 2) D (mT cA) [.ref (M 3 0), .int a, .int b, .int v] h (fun r h1 => (¬ inR a 5 ∨ ¬ inR b 7) ∧ uT cA M o kp cap n V P 1 Sl h1 ∨ inR a 5 ∧ inR b 7 ∧ ¬ (-99 ≤ v.toInt ∧ v.toInt ≤ 99) ∧ uT cA M o kp cap n V P 2 Sl h1 ∨ ∃ i k, i < 5 ∧ a = nI i ∧ k < 7 ∧ b = nI k ∧ -99 ≤ v.toInt ∧ v.toInt ≤ 99 ∧ r = iI (sDeg (fun j => if j = k then v.toInt else Sl i j)) ∧ uT cA M o kp cap n V P 0 (setS Sl i (fun j => if j = k then v.toInt else Sl i j)) h1) := by
  have x1 := hu.2.1.1
  have x2 := hu.2.1.2.1
  refine mEnter_i (by decide) (Nat.le_of_ble_eq_true rfl) rfl (fun z X Vz => ?_)
  have f1 : (¬ inR a 5 ∨ ¬ inR b 7) → zM z 0 0 17 [some (.ref (M 3 0)), some (.int a), some (.int b), some (.int v)] [] h := fun q => by
    refine zi_aload_n X dX7_set__17 rfl rfl ?_
    refine zi_iconst (v := (nI 1)) X dX7_set__18 (by decide) ?_
    refine zi_callVi X (u_fails l D hu) kc_X7_fails wm_X7_212 (by first | assumption | exact mup_self | (rw [mup_ne (by assumption)]; assumption) | (rw [mup_ne (by assumption)]; exact mup_self) | (rw [mup_ne (by assumption), mup_ne (by assumption)]; assumption)) rfl wim_X7_fails wse_X7_fails ⟨Nat.le_of_ble_eq_true rfl, Nat.le_of_ble_eq_true rfl⟩ rfl rfl (Nat.le_of_ble_eq_true rfl) ⟨Nat.le_of_ble_eq_true rfl, Nat.le_of_ble_eq_true rfl⟩ dX7_set__19 (fun r h1 hp => ?_)
    refine zi_ireturn X Vz dX7_set__22 ?_
    exact Or.inl ⟨q, uT_of hp.2⟩
  refine zi_iload_n X dX7_set__0 rfl rfl ?_
  refine zi_callSi X (s_isSlot l D) kc_X7_isSlot wm_X7_228 wst_X7_isSlot ⟨Nat.le_of_ble_eq_true rfl, Nat.le_of_ble_eq_true rfl⟩ rfl rfl (Nat.le_of_ble_eq_true rfl) ⟨Nat.le_of_ble_eq_true rfl, Nat.le_of_ble_eq_true rfl⟩ dX7_set__1 (fun r h1 hp => ?_)
  obtain ⟨rfl, ⟨q1, rfl⟩ | ⟨q1, rfl⟩⟩ := hp
  · refine zi_if_eq (tgt := 17) X dX7_set__4 (by decide) (fun c_4 => (by first | exact absurd (by decide) c_4 | exact absurd c_4 (by decide))) (fun c_4 => ?_)
    refine zi_iload_n X dX7_set__7 rfl rfl ?_
    refine zi_iconst (v := (nI 0)) X dX7_set__8 (by decide) ?_
    refine zi_bipush (v := (nI 6)) X dX7_set__9 (by decide) ?_
    refine zi_callSi X (s_in l D) kc_X7_in wm_X7_232 wst_X7_in ⟨Nat.le_of_ble_eq_true rfl, Nat.le_of_ble_eq_true rfl⟩ rfl rfl (Nat.le_of_ble_eq_true rfl) ⟨Nat.le_of_ble_eq_true rfl, Nat.le_of_ble_eq_true rfl⟩ dX7_set__11 (fun r h1 hp => ?_)
    obtain ⟨rfl, hp⟩ := hp
    rw [in_R (n := 6) (by decide)] at hp
    rcases hp with ⟨q2, rfl⟩ | ⟨q2, rfl⟩
    · have e1 : (-99 : Int32).toInt = -99 := by decide
      have e2 : (nI 99).toInt = 99 := by decide
      refine zi_if_ne (tgt := 23) X dX7_set__14 (by decide) (fun c_14 => ?_) (fun c_14 => (by first | exact absurd (by decide) c_14 | exact absurd c_14 (by decide)))
      refine zi_iload_n X dX7_set__23 rfl rfl ?_
      refine zi_bipush (v := (-99)) X dX7_set__24 (by decide) ?_
      refine zi_bipush (v := (nI 99)) X dX7_set__26 (by decide) ?_
      refine zi_callSi X (s_in l D) kc_X7_in wm_X7_232 wst_X7_in ⟨Nat.le_of_ble_eq_true rfl, Nat.le_of_ble_eq_true rfl⟩ rfl rfl (Nat.le_of_ble_eq_true rfl) ⟨Nat.le_of_ble_eq_true rfl, Nat.le_of_ble_eq_true rfl⟩ dX7_set__28 (fun r h1 hp => ?_)
      obtain ⟨rfl, hp⟩ := hp
      rw [e1, e2] at hp
      obtain ⟨i, hi, rfl⟩ := q1
      obtain ⟨k, hk, rfl⟩ := q2
      rcases hp with ⟨q3, rfl⟩ | ⟨q3, rfl⟩
      · have y3 := hu.2.1.2.2.1 i hi
        refine zi_if_ne (tgt := 40) X dX7_set__31 (by decide) (fun c_31 => ?_) (fun c_31 => (by first | exact absurd (by decide) c_31 | exact absurd c_31 (by decide)))
        refine zi_aload_n X dX7_set__40 rfl rfl ?_
        refine zi_getf (C := RX7) (T := TX7) (N := 27) (ci := 11) X (by first | assumption | exact mup_self | (rw [mup_ne (by assumption)]; assumption) | (rw [mup_ne (by assumption)]; exact mup_self) | (rw [mup_ne (by assumption), mup_ne (by assumption)]; assumption)) rfl in_X7 1 (by decide) wf_X7_11 rfl rfl dX7_set__41 ?_
        refine zi_iload_n X dX7_set__44 rfl rfl ?_
        refine zi_aaldA X 4 (by first | assumption | exact mup_self | (rw [mup_ne (by assumption)]; assumption) | (rw [mup_ne (by assumption)]; exact mup_self) | (rw [mup_ne (by assumption), mup_ne (by assumption)]; assumption)) rfl (vin hi (by decide)) (sl4_at hi) dX7_set__45 ?_
        refine zi_iload_n X dX7_set__46 rfl rfl ?_
        refine zi_iload_n X dX7_set__47 rfl rfl ?_
        refine zi_iast X 0 (by first | assumption | exact mup_self | (rw [mup_ne (by assumption)]; assumption) | (rw [mup_ne (by assumption)]; exact mup_self) | (rw [mup_ne (by assumption), mup_ne (by assumption)]; assumption)) rfl (vin hk (by decide)) dX7_set__48 ?_
        have ef : upd (fun k => if k < 7 then iI (Sl i k) else 0) (nI k).toNatClampNeg v = fun j => if j < 7 then iI (if j = k then v.toInt else Sl i j) else 0 := by
          rw [nI_cl (by omega)]
          funext j
          unfold upd
          by_cases c : j = k
          · rw [if_pos c, c, if_pos hk, if_pos rfl]
            exact (Int32.ofInt_toInt v).symm
          · rw [if_neg c]
            dsimp only
            rw [if_neg c]
        refine zi_eqh (h' := mup h1 (M 4 i) (slotA (cA 0) (fun j => if j = k then v.toInt else Sl i j))) (by unfold slotA; rw [← ef]) ?_
        have hu1 := rU_s hu hi (fun j => if j = k then v.toInt else Sl i j)
        have z1 := hu1.2.1.1
        have z2 := hu1.2.1.2.1
        have z3 : mup h1 (M 4 i) (slotA (cA 0) (fun j => if j = k then v.toInt else Sl i j)) (M 4 i) = some (slotA (cA 0) (fun j => if j = k then v.toInt else Sl i j)) := mup_self
        refine zi_aload_n X dX7_set__49 rfl rfl ?_
        refine zi_aload_n X dX7_set__50 rfl rfl ?_
        refine zi_getf (C := RX7) (T := TX7) (N := 27) (ci := 11) X (by first | assumption | exact mup_self | (rw [mup_ne (by assumption)]; assumption) | (rw [mup_ne (by assumption)]; exact mup_self) | (rw [mup_ne (by assumption), mup_ne (by assumption)]; assumption)) rfl in_X7 1 (by decide) wf_X7_11 rfl rfl dX7_set__51 ?_
        refine zi_iload_n X dX7_set__54 rfl rfl ?_
        refine zi_aaldA X 4 (by first | assumption | exact mup_self | (rw [mup_ne (by assumption)]; assumption) | (rw [mup_ne (by assumption)]; exact mup_self) | (rw [mup_ne (by assumption), mup_ne (by assumption)]; assumption)) rfl (vin hi (by decide)) (sl4_at hi) dX7_set__55 ?_
        have z9 : ∀ t, t < 7 → ((fun j => if j = k then v.toInt else Sl i j) t).natAbs ≤ 9999 := fun t ht => by
          dsimp only
          split
          · omega
          · exact hb i t hi ht
        refine zi_callSi X (s_degree l D z3 z9) kc_X7_degree_ wm_X7_215 wst_X7_degree_ ⟨Nat.le_of_ble_eq_true rfl, Nat.le_of_ble_eq_true rfl⟩ rfl rfl (Nat.le_of_ble_eq_true rfl) ⟨Nat.le_of_ble_eq_true rfl, Nat.le_of_ble_eq_true rfl⟩ dX7_set__56 (fun r h2 hp => ?_)
        obtain ⟨rfl, rfl⟩ := hp
        refine zi_callVi X (u_tells l D hu1) kc_X7_tells wm_X7_217 (by first | assumption | exact mup_self | (rw [mup_ne (by assumption)]; assumption) | (rw [mup_ne (by assumption)]; exact mup_self) | (rw [mup_ne (by assumption), mup_ne (by assumption)]; assumption)) rfl wim_X7_tells wse_X7_tells ⟨Nat.le_of_ble_eq_true rfl, Nat.le_of_ble_eq_true rfl⟩ rfl rfl (Nat.le_of_ble_eq_true rfl) ⟨Nat.le_of_ble_eq_true rfl, Nat.le_of_ble_eq_true rfl⟩ dX7_set__59 (fun r h3 hp => ?_)
        obtain ⟨rfl, -, hp⟩ := hp
        refine zi_ireturn X Vz dX7_set__62 ?_
        exact Or.inr (Or.inr ⟨i, k, hi, rfl, hk, rfl, q3.1, q3.2, rfl, uT_of hp⟩)
      · refine zi_if_ne (tgt := 40) X dX7_set__31 (by decide) (fun c_31 => (by first | exact absurd (by decide) c_31 | exact absurd c_31 (by decide))) (fun c_31 => ?_)
        refine zi_aload_n X dX7_set__34 rfl rfl ?_
        refine zi_iconst (v := (nI 2)) X dX7_set__35 (by decide) ?_
        refine zi_callVi X (u_fails l D hu) kc_X7_fails wm_X7_212 (by first | assumption | exact mup_self | (rw [mup_ne (by assumption)]; assumption) | (rw [mup_ne (by assumption)]; exact mup_self) | (rw [mup_ne (by assumption), mup_ne (by assumption)]; assumption)) rfl wim_X7_fails wse_X7_fails ⟨Nat.le_of_ble_eq_true rfl, Nat.le_of_ble_eq_true rfl⟩ rfl rfl (Nat.le_of_ble_eq_true rfl) ⟨Nat.le_of_ble_eq_true rfl, Nat.le_of_ble_eq_true rfl⟩ dX7_set__36 (fun r h2 hp => ?_)
        refine zi_ireturn X Vz dX7_set__39 ?_
        exact Or.inr (Or.inl ⟨⟨i, hi, rfl⟩, ⟨k, hk, rfl⟩, q3, uT_of hp.2⟩)
    · refine zi_if_ne (tgt := 23) X dX7_set__14 (by decide) (fun c_14 => (by first | exact absurd (by decide) c_14 | exact absurd c_14 (by decide))) (fun c_14 => ?_)
      exact f1 (Or.inr q2)
  · refine zi_if_eq (tgt := 17) X dX7_set__4 (by decide) (fun c_4 => ?_) (fun c_4 => (by first | exact absurd (by decide) c_4 | exact absurd c_4 (by decide)))
    exact f1 (Or.inl q1)
theorem u_coefficient (l : Launch) (D : va_G) (hu : rU cA M h o Sl kp cap n V P) {a b : Int32} :
    mCi l yX7_coefficient cX7_coefficient 3 .int (rmd 2) D (mT cA) [.ref (M 3 0), .int a, .int b] h (fun r h1 => (¬ inR a 5 ∨ ¬ inR b 7) ∧ uT cA M o kp cap n V P 1 Sl h1 ∨ ∃ i k, i < 5 ∧ a = nI i ∧ k < 7 ∧ b = nI k ∧ r = iI (Sl i k) ∧ uT cA M o kp cap n V P 0 Sl h1) := by
  have x1 := hu.2.1.1
  have x2 := hu.2.1.2.1
  refine mEnter_i (by decide) (Nat.le_of_ble_eq_true rfl) rfl (fun z X Vz => ?_)
  have f1 : (¬ inR a 5 ∨ ¬ inR b 7) → zM z 0 0 32 [some (.ref (M 3 0)), some (.int a), some (.int b)] [] h := fun q => by
    refine zi_aload_n X dX7_coefficient_32 rfl rfl ?_
    refine zi_iconst (v := (nI 1)) X dX7_coefficient_33 (by decide) ?_
    refine zi_callVi X (u_fails l D hu) kc_X7_fails wm_X7_212 (by first | assumption | exact mup_self | (rw [mup_ne (by assumption)]; assumption) | (rw [mup_ne (by assumption)]; exact mup_self) | (rw [mup_ne (by assumption), mup_ne (by assumption)]; assumption)) rfl wim_X7_fails wse_X7_fails ⟨Nat.le_of_ble_eq_true rfl, Nat.le_of_ble_eq_true rfl⟩ rfl rfl (Nat.le_of_ble_eq_true rfl) ⟨Nat.le_of_ble_eq_true rfl, Nat.le_of_ble_eq_true rfl⟩ dX7_coefficient_34 (fun r h1 hp => ?_)
    refine zi_ireturn X Vz dX7_coefficient_37 ?_
    exact Or.inl ⟨q, uT_of hp.2⟩
  refine zi_iload_n X dX7_coefficient_0 rfl rfl ?_
  refine zi_callSi X (s_isSlot l D) kc_X7_isSlot wm_X7_228 wst_X7_isSlot ⟨Nat.le_of_ble_eq_true rfl, Nat.le_of_ble_eq_true rfl⟩ rfl rfl (Nat.le_of_ble_eq_true rfl) ⟨Nat.le_of_ble_eq_true rfl, Nat.le_of_ble_eq_true rfl⟩ dX7_coefficient_1 (fun r h1 hp => ?_)
  obtain ⟨rfl, ⟨q1, rfl⟩ | ⟨q1, rfl⟩⟩ := hp
  · refine zi_if_eq (tgt := 32) X dX7_coefficient_4 (by decide) (fun c_4 => (by first | exact absurd (by decide) c_4 | exact absurd c_4 (by decide))) (fun c_4 => ?_)
    refine zi_iload_n X dX7_coefficient_7 rfl rfl ?_
    refine zi_iconst (v := (nI 0)) X dX7_coefficient_8 (by decide) ?_
    refine zi_bipush (v := (nI 6)) X dX7_coefficient_9 (by decide) ?_
    refine zi_callSi X (s_in l D) kc_X7_in wm_X7_232 wst_X7_in ⟨Nat.le_of_ble_eq_true rfl, Nat.le_of_ble_eq_true rfl⟩ rfl rfl (Nat.le_of_ble_eq_true rfl) ⟨Nat.le_of_ble_eq_true rfl, Nat.le_of_ble_eq_true rfl⟩ dX7_coefficient_11 (fun r h1 hp => ?_)
    obtain ⟨rfl, hp⟩ := hp
    rw [in_R (n := 6) (by decide)] at hp
    rcases hp with ⟨q2, rfl⟩ | ⟨q2, rfl⟩
    · obtain ⟨i, hi, rfl⟩ := q1
      obtain ⟨k, hk, rfl⟩ := q2
      have y3 := hu.2.1.2.2.1 i hi
      refine zi_if_eq (tgt := 32) X dX7_coefficient_14 (by decide) (fun c_14 => (by first | exact absurd (by decide) c_14 | exact absurd c_14 (by decide))) (fun c_14 => ?_)
      refine zi_aload_n X dX7_coefficient_17 rfl rfl ?_
      refine zi_aload_n X dX7_coefficient_18 rfl rfl ?_
      refine zi_getf (C := RX7) (T := TX7) (N := 27) (ci := 11) X (by first | assumption | exact mup_self | (rw [mup_ne (by assumption)]; assumption) | (rw [mup_ne (by assumption)]; exact mup_self) | (rw [mup_ne (by assumption), mup_ne (by assumption)]; assumption)) rfl in_X7 1 (by decide) wf_X7_11 rfl rfl dX7_coefficient_19 ?_
      refine zi_iload_n X dX7_coefficient_22 rfl rfl ?_
      refine zi_aaldA X 4 (by first | assumption | exact mup_self | (rw [mup_ne (by assumption)]; assumption) | (rw [mup_ne (by assumption)]; exact mup_self) | (rw [mup_ne (by assumption), mup_ne (by assumption)]; assumption)) rfl (vin hi (by decide)) (sl4_at hi) dX7_coefficient_23 ?_
      refine zi_iload_n X dX7_coefficient_24 rfl rfl ?_
      refine zi_iald X 0 (by first | assumption | exact mup_self | (rw [mup_ne (by assumption)]; assumption) | (rw [mup_ne (by assumption)]; exact mup_self) | (rw [mup_ne (by assumption), mup_ne (by assumption)]; assumption)) rfl (vin hk (by decide)) dX7_coefficient_25 ?_
      rw [slot_rd hk]
      refine zi_callVi X (u_tells l D hu) kc_X7_tells wm_X7_217 (by first | assumption | exact mup_self | (rw [mup_ne (by assumption)]; assumption) | (rw [mup_ne (by assumption)]; exact mup_self) | (rw [mup_ne (by assumption), mup_ne (by assumption)]; assumption)) rfl wim_X7_tells wse_X7_tells ⟨Nat.le_of_ble_eq_true rfl, Nat.le_of_ble_eq_true rfl⟩ rfl rfl (Nat.le_of_ble_eq_true rfl) ⟨Nat.le_of_ble_eq_true rfl, Nat.le_of_ble_eq_true rfl⟩ dX7_coefficient_26 (fun r h3 hp => ?_)
      obtain ⟨rfl, -, hp⟩ := hp
      refine zi_goto (tgt := 37) X dX7_coefficient_29 (by decide) ?_
      refine zi_ireturn X Vz dX7_coefficient_37 ?_
      exact Or.inr ⟨i, k, hi, rfl, hk, rfl, rfl, uT_of hp⟩
    · refine zi_if_eq (tgt := 32) X dX7_coefficient_14 (by decide) (fun c_14 => ?_) (fun c_14 => (by first | exact absurd (by decide) c_14 | exact absurd c_14 (by decide)))
      exact f1 (Or.inr q2)
  · refine zi_if_eq (tgt := 32) X dX7_coefficient_4 (by decide) (fun c_4 => ?_) (fun c_4 => (by first | exact absurd (by decide) c_4 | exact absurd c_4 (by decide)))
    exact f1 (Or.inl q1)
theorem u_degree (l : Launch) (D : va_G) (hu : rU cA M h o Sl kp cap n V P) (hb : slB Sl) {a : Int32} :
    mCi l yX7_degree__ cX7_degree__ 2 .int (rmd 2) D (mT cA) [.ref (M 3 0), .int a] h (fun r h1 => ¬ inR a 5 ∧ uT cA M o kp cap n V P 1 Sl h1 ∨ ∃ i, i < 5 ∧ a = nI i ∧ r = iI (sDeg (Sl i)) ∧ uT cA M o kp cap n V P 0 Sl h1) := by
  have x1 := hu.2.1.1
  have x2 := hu.2.1.2.1
  refine mEnter_i (by decide) (Nat.le_of_ble_eq_true rfl) rfl (fun z X Vz => ?_)
  refine zi_iload_n X dX7_degree___0 rfl rfl ?_
  refine zi_callSi X (s_isSlot l D) kc_X7_isSlot wm_X7_228 wst_X7_isSlot ⟨Nat.le_of_ble_eq_true rfl, Nat.le_of_ble_eq_true rfl⟩ rfl rfl (Nat.le_of_ble_eq_true rfl) ⟨Nat.le_of_ble_eq_true rfl, Nat.le_of_ble_eq_true rfl⟩ dX7_degree___1 (fun r h1 hp => ?_)
  obtain ⟨rfl, ⟨q1, rfl⟩ | ⟨q1, rfl⟩⟩ := hp
  · obtain ⟨i, hi, rfl⟩ := q1
    have y3 := hu.2.1.2.2.1 i hi
    refine zi_if_eq (tgt := 23) X dX7_degree___4 (by decide) (fun c_4 => (by first | exact absurd (by decide) c_4 | exact absurd c_4 (by decide))) (fun c_4 => ?_)
    refine zi_aload_n X dX7_degree___7 rfl rfl ?_
    refine zi_aload_n X dX7_degree___8 rfl rfl ?_
    refine zi_getf (C := RX7) (T := TX7) (N := 27) (ci := 11) X (by first | assumption | exact mup_self | (rw [mup_ne (by assumption)]; assumption) | (rw [mup_ne (by assumption)]; exact mup_self) | (rw [mup_ne (by assumption), mup_ne (by assumption)]; assumption)) rfl in_X7 1 (by decide) wf_X7_11 rfl rfl dX7_degree___9 ?_
    refine zi_iload_n X dX7_degree___12 rfl rfl ?_
    refine zi_aaldA X 4 (by first | assumption | exact mup_self | (rw [mup_ne (by assumption)]; assumption) | (rw [mup_ne (by assumption)]; exact mup_self) | (rw [mup_ne (by assumption), mup_ne (by assumption)]; assumption)) rfl (vin hi (by decide)) (sl4_at hi) dX7_degree___13 ?_
    refine zi_callSi X (s_degree l D y3 (fun t ht => hb i t hi ht)) kc_X7_degree_ wm_X7_215 wst_X7_degree_ ⟨Nat.le_of_ble_eq_true rfl, Nat.le_of_ble_eq_true rfl⟩ rfl rfl (Nat.le_of_ble_eq_true rfl) ⟨Nat.le_of_ble_eq_true rfl, Nat.le_of_ble_eq_true rfl⟩ dX7_degree___14 (fun r h2 hp => ?_)
    obtain ⟨rfl, rfl⟩ := hp
    refine zi_callVi X (u_tells l D hu) kc_X7_tells wm_X7_217 (by first | assumption | exact mup_self | (rw [mup_ne (by assumption)]; assumption) | (rw [mup_ne (by assumption)]; exact mup_self) | (rw [mup_ne (by assumption), mup_ne (by assumption)]; assumption)) rfl wim_X7_tells wse_X7_tells ⟨Nat.le_of_ble_eq_true rfl, Nat.le_of_ble_eq_true rfl⟩ rfl rfl (Nat.le_of_ble_eq_true rfl) ⟨Nat.le_of_ble_eq_true rfl, Nat.le_of_ble_eq_true rfl⟩ dX7_degree___17 (fun r h3 hp => ?_)
    obtain ⟨rfl, -, hp⟩ := hp
    refine zi_goto (tgt := 28) X dX7_degree___20 (by decide) ?_
    refine zi_ireturn X Vz dX7_degree___28 ?_
    exact Or.inr ⟨i, hi, rfl, rfl, uT_of hp⟩
  · refine zi_if_eq (tgt := 23) X dX7_degree___4 (by decide) (fun c_4 => ?_) (fun c_4 => (by first | exact absurd (by decide) c_4 | exact absurd c_4 (by decide)))
    refine zi_aload_n X dX7_degree___23 rfl rfl ?_
    refine zi_iconst (v := (nI 1)) X dX7_degree___24 (by decide) ?_
    refine zi_callVi X (u_fails l D hu) kc_X7_fails wm_X7_212 (by first | assumption | exact mup_self | (rw [mup_ne (by assumption)]; assumption) | (rw [mup_ne (by assumption)]; exact mup_self) | (rw [mup_ne (by assumption), mup_ne (by assumption)]; assumption)) rfl wim_X7_fails wse_X7_fails ⟨Nat.le_of_ble_eq_true rfl, Nat.le_of_ble_eq_true rfl⟩ rfl rfl (Nat.le_of_ble_eq_true rfl) ⟨Nat.le_of_ble_eq_true rfl, Nat.le_of_ble_eq_true rfl⟩ dX7_degree___25 (fun r h1 hp => ?_)
    refine zi_ireturn X Vz dX7_degree___28 ?_
    exact Or.inl ⟨q1, uT_of hp.2⟩
/-- the outcome of comes, of a row that holds r in its first seven places, 0 behind -/
theorem okM_of {f : Nat → Int64} {r : Nat → Int} (h1 : ∀ k, k < 7 → (f k).toInt = r k) (h2 : ∀ k, 7 ≤ k → k < 14 → f k = 0) : okM f ↔ st9 r := by
  constructor
  · intro ok k hk
    rw [← h1 k hk]
    exact (ok k (by omega)).2
  · intro ok k hk
    refine ⟨fun q => h2 k q hk, ?_⟩
    by_cases c : k < 7
    · rw [h1 k c]; exact ok k c
    · rw [h2 k (by omega) hk]; decide
theorem cm_of {r : Nat → Int} {f : Nat → Int64} (h1 : ∀ k, k < 7 → (f k).toInt = r k) : sDeg (fun k => (f k).toInt) = sDeg r ∧ tr (fun k => (f k).toInt) = tr r := by
  refine ⟨?_, ?_⟩
  · unfold sDeg
    rw [stI_cong h1]
  · funext k
    unfold tr
    split
    · next c => exact h1 k c
    · rfl
theorem u_copy (l : Launch) (D : va_G) (hu : rU cA M h o Sl kp cap n V P) (hb : slB Sl) {a b : Int32} :
    mCi l yX7_copy__ cX7_copy__ 4 .int (rmd 3) D (mT cA) [.ref (M 3 0), .int a, .int b] h (fun r h1 => (¬ inR a 5 ∨ ¬ inR b 5) ∧ uT cA M o kp cap n V P 1 Sl h1 ∨ ∃ i k, i < 5 ∧ a = nI i ∧ k < 5 ∧ b = nI k ∧ r = iI (sDeg (Sl i)) ∧ uT cA M o kp cap n V P 0 (setS Sl k (tr (Sl i))) h1) := by
  have x1 := hu.2.1.1
  have x2 := hu.2.1.2.1
  refine mEnter_i (by decide) (Nat.le_of_ble_eq_true rfl) rfl (fun z X Vz => ?_)
  have f1 : (¬ inR a 5 ∨ ¬ inR b 5) → zM z 0 0 14 [some (.ref (M 3 0)), some (.int a), some (.int b), none] [] h := fun q => by
    refine zi_aload_n X dX7_copy___14 rfl rfl ?_
    refine zi_iconst (v := (nI 1)) X dX7_copy___15 (by decide) ?_
    refine zi_callVi X (u_fails l D hu) kc_X7_fails wm_X7_212 (by first | assumption | exact mup_self | (rw [mup_ne (by assumption)]; assumption) | (rw [mup_ne (by assumption)]; exact mup_self) | (rw [mup_ne (by assumption), mup_ne (by assumption)]; assumption)) rfl wim_X7_fails wse_X7_fails ⟨Nat.le_of_ble_eq_true rfl, Nat.le_of_ble_eq_true rfl⟩ rfl rfl (Nat.le_of_ble_eq_true rfl) ⟨Nat.le_of_ble_eq_true rfl, Nat.le_of_ble_eq_true rfl⟩ dX7_copy___16 (fun r h1 hp => ?_)
    refine zi_ireturn X Vz dX7_copy___19 ?_
    exact Or.inl ⟨q, uT_of hp.2⟩
  refine zi_iload_n X dX7_copy___0 rfl rfl ?_
  refine zi_callSi X (s_isSlot l D) kc_X7_isSlot wm_X7_228 wst_X7_isSlot ⟨Nat.le_of_ble_eq_true rfl, Nat.le_of_ble_eq_true rfl⟩ rfl rfl (Nat.le_of_ble_eq_true rfl) ⟨Nat.le_of_ble_eq_true rfl, Nat.le_of_ble_eq_true rfl⟩ dX7_copy___1 (fun r h1 hp => ?_)
  obtain ⟨rfl, ⟨q1, rfl⟩ | ⟨q1, rfl⟩⟩ := hp
  · refine zi_if_eq (tgt := 14) X dX7_copy___4 (by decide) (fun c_4 => (by first | exact absurd (by decide) c_4 | exact absurd c_4 (by decide))) (fun c_4 => ?_)
    refine zi_iload_n X dX7_copy___7 rfl rfl ?_
    refine zi_callSi X (s_isSlot l D) kc_X7_isSlot wm_X7_228 wst_X7_isSlot ⟨Nat.le_of_ble_eq_true rfl, Nat.le_of_ble_eq_true rfl⟩ rfl rfl (Nat.le_of_ble_eq_true rfl) ⟨Nat.le_of_ble_eq_true rfl, Nat.le_of_ble_eq_true rfl⟩ dX7_copy___8 (fun r h1 hp => ?_)
    obtain ⟨rfl, ⟨q2, rfl⟩ | ⟨q2, rfl⟩⟩ := hp
    · obtain ⟨i, hi, rfl⟩ := q1
      obtain ⟨k, hk, rfl⟩ := q2
      refine zi_if_ne (tgt := 20) X dX7_copy___11 (by decide) (fun c_11 => ?_) (fun c_11 => (by first | exact absurd (by decide) c_11 | exact absurd c_11 (by decide)))
      refine zi_aload_n X dX7_copy___20 rfl rfl ?_
      refine zi_callVv X (u_clear l D hu) kc_X7_clear wm_X7_220 (by first | assumption | exact mup_self | (rw [mup_ne (by assumption)]; assumption) | (rw [mup_ne (by assumption)]; exact mup_self) | (rw [mup_ne (by assumption), mup_ne (by assumption)]; assumption)) rfl wim_X7_clear wse_X7_clear ⟨Nat.le_of_ble_eq_true rfl, Nat.le_of_ble_eq_true rfl⟩ rfl rfl (Nat.le_of_ble_eq_true rfl) ⟨Nat.le_of_ble_eq_true rfl, Nat.le_of_ble_eq_true rfl⟩ dX7_copy___21 (fun h2 hp => ?_)
      obtain ⟨hu2, f0, hf0, hz0⟩ := hp
      refine zi_iconst (v := (nI 0)) X dX7_copy___24 (by decide) ?_
      refine zi_istore_n X dX7_copy___25 rfl (by decide) ?_
      suffices key : ∀ w t (g : mH) (f : Nat → Int64), t + w = 7 → rU cA M g o Sl kp cap n V P → g (M 2 3) = some (mdE (cA 1) f) → (∀ k, k < t → (f k).toInt = Sl i k) → (∀ k, t ≤ k → k < 14 → f k = 0) → zM z 0 0 26 [some (.ref (M 3 0)), some (.int (nI i)), some (.int (nI k)), some (.int (nI t))] [] g from
        zi_sub (by repeat (first | exact trivial | refine And.intro rfl ?_)) (key 7 0 h2 f0 rfl hu2 hf0 (fun k hk => absurd hk (Nat.not_lt_zero k)) (fun k _ hk => hz0 k hk))
      intro w
      induction w with
      | zero =>
        intro t g f ht hu hf h1' h2'
        obtain rfl : t = 7 := by omega
        have x1 := hu.2.1.1
        have ok : okM f := (okM_of h1' h2').mpr (fun k hk => hb i k hi hk)
        have cm := cm_of h1'
        refine zi_iload_n X dX7_copy___26 rfl rfl ?_
        refine zi_bipush (v := (nI 7)) X dX7_copy___27 (by decide) ?_
        refine zi_icmp_ge (tgt := 53) X dX7_copy___29 (by decide) (fun c_29 => ?_) (fun c_29 => (by first | exact absurd (by decide) c_29 | exact absurd c_29 (by decide)))
        refine zi_aload_n X dX7_copy___53 rfl rfl ?_
        refine zi_iload_n X dX7_copy___54 rfl rfl ?_
        refine zi_iconst (v := (nI 0)) X dX7_copy___55 (by decide) ?_
        refine zi_callVi X (u_comes l D hu hf hk) kc_X7_comes wm_X7_225 (by first | assumption | exact mup_self | (rw [mup_ne (by assumption)]; assumption) | (rw [mup_ne (by assumption)]; exact mup_self) | (rw [mup_ne (by assumption), mup_ne (by assumption)]; assumption)) rfl wim_X7_comes wse_X7_comes ⟨Nat.le_of_ble_eq_true rfl, Nat.le_of_ble_eq_true rfl⟩ rfl rfl (Nat.le_of_ble_eq_true rfl) ⟨Nat.le_of_ble_eq_true rfl, Nat.le_of_ble_eq_true rfl⟩ dX7_copy___56 (fun r h3 hp => ?_)
        refine zi_ireturn X Vz dX7_copy___59 ?_
        rcases hp with ⟨-, e1, e2⟩ | ⟨q, -⟩
        · rw [cm.1] at e1
          rw [cm.2] at e2
          exact Or.inr ⟨i, k, hi, rfl, hk, rfl, e1, uT_of e2⟩
        · exact absurd ok q
      | succ w ih =>
        intro t g f ht hu hf h1' h2'
        have t7 : t < 7 := by omega
        have x1 := hu.2.1.1
        have x2 := hu.2.1.2.1
        have y3 := hu.2.1.2.2.1 i hi
        refine zi_iload_n X dX7_copy___26 rfl rfl ?_
        refine zi_bipush (v := (nI 7)) X dX7_copy___27 (by decide) ?_
        refine zi_icmp_ge (tgt := 53) X dX7_copy___29 (by decide) (fun c_29 => (by first | exact absurd (c7 t7) c_29 | exact absurd c_29 (c7 t7))) (fun c_29 => ?_)
        refine zi_aload_n X dX7_copy___32 rfl rfl ?_
        refine zi_getf (C := RX7) (T := TX7) (N := 27) (ci := 11) X (by first | assumption | exact mup_self | (rw [mup_ne (by assumption)]; assumption) | (rw [mup_ne (by assumption)]; exact mup_self) | (rw [mup_ne (by assumption), mup_ne (by assumption)]; assumption)) rfl in_X7 16 (by decide) wf_X7_59 rfl rfl dX7_copy___33 ?_
        refine zi_iload_n X dX7_copy___36 rfl rfl ?_
        refine zi_aload_n X dX7_copy___37 rfl rfl ?_
        refine zi_getf (C := RX7) (T := TX7) (N := 27) (ci := 11) X (by first | assumption | exact mup_self | (rw [mup_ne (by assumption)]; assumption) | (rw [mup_ne (by assumption)]; exact mup_self) | (rw [mup_ne (by assumption), mup_ne (by assumption)]; assumption)) rfl in_X7 1 (by decide) wf_X7_11 rfl rfl dX7_copy___38 ?_
        refine zi_iload_n X dX7_copy___41 rfl rfl ?_
        refine zi_aaldA X 4 (by first | assumption | exact mup_self | (rw [mup_ne (by assumption)]; assumption) | (rw [mup_ne (by assumption)]; exact mup_self) | (rw [mup_ne (by assumption), mup_ne (by assumption)]; assumption)) rfl (vin hi (by decide)) (sl4_at hi) dX7_copy___42 ?_
        refine zi_iload_n X dX7_copy___43 rfl rfl ?_
        refine zi_iald X 0 (by first | assumption | exact mup_self | (rw [mup_ne (by assumption)]; assumption) | (rw [mup_ne (by assumption)]; exact mup_self) | (rw [mup_ne (by assumption), mup_ne (by assumption)]; assumption)) rfl (vin t7 (by decide)) dX7_copy___44 ?_
        refine zi_i2l X dX7_copy___45 ?_
        refine zi_last X 1 (by first | assumption | exact mup_self | (rw [mup_ne (by assumption)]; assumption) | (rw [mup_ne (by assumption)]; exact mup_self) | (rw [mup_ne (by assumption), mup_ne (by assumption)]; assumption)) rfl (vin (show t < 14 by omega) (by decide)) dX7_copy___46 ?_
        refine zi_iinc (v := nI (t + 1)) X dX7_copy___47 rfl (nI_inc _) (by decide) ?_
        refine zi_goto (tgt := 26) X dX7_copy___50 (by decide) ?_
        rw [slot_rd t7, nI_cl (show t < 2147483648 by omega)]
        refine zi_sub (by repeat (first | exact trivial | refine And.intro rfl ?_)) (ih (t + 1) _ _ (by omega) (rU_m hu _) mup_self (fun j hj => ?_) (fun j h1 h2 => ?_))
        · rw [vU_at]
          by_cases c : j = t
          · rw [if_pos c, iI_l (by have := hb i t hi t7; omega), c]
          · rw [if_neg c]; exact h1' j (by omega)
        · rw [vU_at, if_neg (by omega)]
          exact h2' j (by omega) h2
    · refine zi_if_ne (tgt := 20) X dX7_copy___11 (by decide) (fun c_11 => (by first | exact absurd (by decide) c_11 | exact absurd c_11 (by decide))) (fun c_11 => ?_)
      exact zi_sub (by repeat (first | exact trivial | refine And.intro rfl ?_)) (f1 (Or.inr q2))
  · refine zi_if_eq (tgt := 14) X dX7_copy___4 (by decide) (fun c_4 => ?_) (fun c_4 => (by first | exact absurd (by decide) c_4 | exact absurd c_4 (by decide)))
    exact zi_sub (by repeat (first | exact trivial | refine And.intro rfl ?_)) (f1 (Or.inl q1))
end P1
