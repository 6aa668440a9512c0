/-! SturmRootsModel: add, reflect, derivative -/
section P2
variable {cA : Nat → ClassId} {M : Nat → Nat → Nat} {h : mH} {o : RO} {Sl : Nat → Nat → Int} {kp : Nat → Int} {cap n : Nat} {V : Nat → Iv} {P : Nat → Nat → Int}
theorem u_add (l : Launch) (D : va_G) (hu : rU cA M h o Sl kp cap n V P) (hb : slB Sl) {a b c : Int32} :
    mCi l yX7_add_ cX7_add_ 5 .int (rmd 3) D (mT cA) [.ref (M 3 0), .int a, .int b, .int c] h (fun r h1 => (¬ inR a 5 ∨ ¬ inR b 5 ∨ ¬ inR c 5) ∧ uT cA M o kp cap n V P 1 Sl h1 ∨ ∃ i j k, i < 5 ∧ a = nI i ∧ j < 5 ∧ b = nI j ∧ k < 5 ∧ c = nI k ∧ (st9 (fun t => Sl i t + Sl j t) ∧ r = iI (sDeg (fun t => Sl i t + Sl j t)) ∧ uT cA M o kp cap n V P 0 (setS Sl k (tr (fun t => Sl i t + Sl j t))) h1 ∨ ¬ st9 (fun t => Sl i t + Sl j t) ∧ uT cA M o kp cap n V P 2 Sl h1)) := by
  have x1 := hu.2.1.1
  have x2 := hu.2.1.2.1
  refine mEnter_i (by decide) (Nat.le_of_ble_eq_true rfl) rfl (fun z X Vz => ?_)
  have f1 : (¬ inR a 5 ∨ ¬ inR b 5 ∨ ¬ inR c 5) → zM z 0 0 21 [some (.ref (M 3 0)), some (.int a), some (.int b), some (.int c), none] [] h := fun q => by
    refine zi_aload_n X dX7_add__21 rfl rfl ?_
    refine zi_iconst (v := (nI 1)) X dX7_add__22 (by decide) ?_
    refine zi_callVi X (u_fails l D hu) kc_X7_fails wm_X7_212 (by first | assumption | exact mup_self | (rw [mup_ne (by assumption)]; assumption) | (rw [mup_ne (by assumption)]; exact mup_self) | (rw [mup_ne (by assumption), mup_ne (by assumption)]; assumption)) rfl wim_X7_fails wse_X7_fails ⟨Nat.le_of_ble_eq_true rfl, Nat.le_of_ble_eq_true rfl⟩ rfl rfl (Nat.le_of_ble_eq_true rfl) ⟨Nat.le_of_ble_eq_true rfl, Nat.le_of_ble_eq_true rfl⟩ dX7_add__23 (fun r h1 hp => ?_)
    refine zi_ireturn X Vz dX7_add__26 ?_
    exact Or.inl ⟨q, uT_of hp.2⟩
  refine zi_iload_n X dX7_add__0 rfl rfl ?_
  refine zi_callSi X (s_isSlot l D) kc_X7_isSlot wm_X7_228 wst_X7_isSlot ⟨Nat.le_of_ble_eq_true rfl, Nat.le_of_ble_eq_true rfl⟩ rfl rfl (Nat.le_of_ble_eq_true rfl) ⟨Nat.le_of_ble_eq_true rfl, Nat.le_of_ble_eq_true rfl⟩ dX7_add__1 (fun r h1 hp => ?_)
  obtain ⟨rfl, ⟨q1, rfl⟩ | ⟨q1, rfl⟩⟩ := hp
  · refine zi_if_eq (tgt := 21) X dX7_add__4 (by decide) (fun c_4 => (by first | exact absurd (by decide) c_4 | exact absurd c_4 (by decide))) (fun c_4 => ?_)
    refine zi_iload_n X dX7_add__7 rfl rfl ?_
    refine zi_callSi X (s_isSlot l D) kc_X7_isSlot wm_X7_228 wst_X7_isSlot ⟨Nat.le_of_ble_eq_true rfl, Nat.le_of_ble_eq_true rfl⟩ rfl rfl (Nat.le_of_ble_eq_true rfl) ⟨Nat.le_of_ble_eq_true rfl, Nat.le_of_ble_eq_true rfl⟩ dX7_add__8 (fun r h1 hp => ?_)
    obtain ⟨rfl, ⟨q2, rfl⟩ | ⟨q2, rfl⟩⟩ := hp
    · refine zi_if_eq (tgt := 21) X dX7_add__11 (by decide) (fun c_11 => (by first | exact absurd (by decide) c_11 | exact absurd c_11 (by decide))) (fun c_11 => ?_)
      refine zi_iload_n X dX7_add__14 rfl rfl ?_
      refine zi_callSi X (s_isSlot l D) kc_X7_isSlot wm_X7_228 wst_X7_isSlot ⟨Nat.le_of_ble_eq_true rfl, Nat.le_of_ble_eq_true rfl⟩ rfl rfl (Nat.le_of_ble_eq_true rfl) ⟨Nat.le_of_ble_eq_true rfl, Nat.le_of_ble_eq_true rfl⟩ dX7_add__15 (fun r h1 hp => ?_)
      obtain ⟨rfl, ⟨q3, rfl⟩ | ⟨q3, rfl⟩⟩ := hp
      · obtain ⟨i, hi, rfl⟩ := q1
        obtain ⟨j, hj, rfl⟩ := q2
        obtain ⟨k, hk, rfl⟩ := q3
        refine zi_if_ne (tgt := 27) X dX7_add__18 (by decide) (fun c_18 => ?_) (fun c_18 => (by first | exact absurd (by decide) c_18 | exact absurd c_18 (by decide)))
        refine zi_aload_n X dX7_add__27 rfl rfl ?_
        refine zi_callVv X (u_clear l D hu) kc_X7_clear wm_X7_220 (by first | assumption | exact mup_self | (rw [mup_ne (by assumption)]; assumption) | (rw [mup_ne (by assumption)]; exact mup_self) | (rw [mup_ne (by assumption), mup_ne (by assumption)]; assumption)) rfl wim_X7_clear wse_X7_clear ⟨Nat.le_of_ble_eq_true rfl, Nat.le_of_ble_eq_true rfl⟩ rfl rfl (Nat.le_of_ble_eq_true rfl) ⟨Nat.le_of_ble_eq_true rfl, Nat.le_of_ble_eq_true rfl⟩ dX7_add__28 (fun h2 hp => ?_)
        obtain ⟨hu2, f0, hf0, hz0⟩ := hp
        refine zi_iconst (v := (nI 0)) X dX7_add__31 (by decide) ?_
        refine zi_istore X dX7_add__32 (by decide) ?_
        suffices key : ∀ w t (g : mH) (f : Nat → Int64), t + w = 7 → rU cA M g o Sl kp cap n V P → g (M 2 3) = some (mdE (cA 1) f) → (∀ k, k < t → (f k).toInt = Sl i k + Sl j k) → (∀ k, t ≤ k → k < 14 → f k = 0) → zM z 0 0 34 [some (.ref (M 3 0)), some (.int (nI i)), some (.int (nI j)), some (.int (nI k)), some (.int (nI t))] [] g from
          zi_sub (by repeat (first | exact trivial | refine And.intro rfl ?_)) (key 7 0 h2 f0 rfl hu2 hf0 (fun k hk => absurd hk (Nat.not_lt_zero k)) (fun k _ hk => hz0 k hk))
        intro w
        induction w with
        | zero =>
          intro t g f ht hu hf h1' h2'
          obtain rfl : t = 7 := by omega
          have x1 := hu.2.1.1
          have ok := okM_of (r := fun t => Sl i t + Sl j t) h1' h2'
          have cm := cm_of (r := fun t => Sl i t + Sl j t) h1'
          refine zi_iload X dX7_add__34 rfl ?_
          refine zi_bipush (v := (nI 7)) X dX7_add__36 (by decide) ?_
          refine zi_icmp_ge (tgt := 74) X dX7_add__38 (by decide) (fun c_38 => ?_) (fun c_38 => (by first | exact absurd (by decide) c_38 | exact absurd c_38 (by decide)))
          refine zi_aload_n X dX7_add__74 rfl rfl ?_
          refine zi_iload_n X dX7_add__75 rfl rfl ?_
          refine zi_iconst (v := (nI 2)) X dX7_add__76 (by decide) ?_
          refine zi_callVi X (u_comes l D hu hf hk) kc_X7_comes wm_X7_225 (by first | assumption | exact mup_self | (rw [mup_ne (by assumption)]; assumption) | (rw [mup_ne (by assumption)]; exact mup_self) | (rw [mup_ne (by assumption), mup_ne (by assumption)]; assumption)) rfl wim_X7_comes wse_X7_comes ⟨Nat.le_of_ble_eq_true rfl, Nat.le_of_ble_eq_true rfl⟩ rfl rfl (Nat.le_of_ble_eq_true rfl) ⟨Nat.le_of_ble_eq_true rfl, Nat.le_of_ble_eq_true rfl⟩ dX7_add__77 (fun r h3 hp => ?_)
          refine zi_ireturn X Vz dX7_add__80 ?_
          refine Or.inr ⟨i, j, k, hi, rfl, hj, rfl, hk, rfl, ?_⟩
          rcases hp with ⟨q, e1, e2⟩ | ⟨q, e2⟩
          · rw [cm.1] at e1
            rw [cm.2] at e2
            exact Or.inl ⟨ok.mp q, e1, uT_of e2⟩
          · exact Or.inr ⟨fun w => q (ok.mpr w), uT_of e2⟩
        | succ w ih =>
          intro t g f ht hu hf h1' h2'
          have t7 : t < 7 := by omega
          have x1 := hu.2.1.1
          have x2 := hu.2.1.2.1
          have y3 := hu.2.1.2.2.1 i hi
          have y4 := hu.2.1.2.2.1 j hj
          have b1 := hb i t hi t7
          have b2 := hb j t hj t7
          refine zi_iload X dX7_add__34 rfl ?_
          refine zi_bipush (v := (nI 7)) X dX7_add__36 (by decide) ?_
          refine zi_icmp_ge (tgt := 74) X dX7_add__38 (by decide) (fun c_38 => (by first | exact absurd (c7 t7) c_38 | exact absurd c_38 (c7 t7))) (fun c_38 => ?_)
          refine zi_aload_n X dX7_add__41 rfl rfl ?_
          refine zi_getf (C := RX7) (T := TX7) (N := 27) (ci := 11) X (by first | assumption | exact mup_self | (rw [mup_ne (by assumption)]; assumption) | (rw [mup_ne (by assumption)]; exact mup_self) | (rw [mup_ne (by assumption), mup_ne (by assumption)]; assumption)) rfl in_X7 16 (by decide) wf_X7_59 rfl rfl dX7_add__42 ?_
          refine zi_iload X dX7_add__45 rfl ?_
          refine zi_aload_n X dX7_add__47 rfl rfl ?_
          refine zi_getf (C := RX7) (T := TX7) (N := 27) (ci := 11) X (by first | assumption | exact mup_self | (rw [mup_ne (by assumption)]; assumption) | (rw [mup_ne (by assumption)]; exact mup_self) | (rw [mup_ne (by assumption), mup_ne (by assumption)]; assumption)) rfl in_X7 1 (by decide) wf_X7_11 rfl rfl dX7_add__48 ?_
          refine zi_iload_n X dX7_add__51 rfl rfl ?_
          refine zi_aaldA X 4 (by first | assumption | exact mup_self | (rw [mup_ne (by assumption)]; assumption) | (rw [mup_ne (by assumption)]; exact mup_self) | (rw [mup_ne (by assumption), mup_ne (by assumption)]; assumption)) rfl (vin hi (by decide)) (sl4_at hi) dX7_add__52 ?_
          refine zi_iload X dX7_add__53 rfl ?_
          refine zi_iald X 0 (by first | assumption | exact mup_self | (rw [mup_ne (by assumption)]; assumption) | (rw [mup_ne (by assumption)]; exact mup_self) | (rw [mup_ne (by assumption), mup_ne (by assumption)]; assumption)) rfl (vin t7 (by decide)) dX7_add__55 ?_
          refine zi_aload_n X dX7_add__56 rfl rfl ?_
          refine zi_getf (C := RX7) (T := TX7) (N := 27) (ci := 11) X (by first | assumption | exact mup_self | (rw [mup_ne (by assumption)]; assumption) | (rw [mup_ne (by assumption)]; exact mup_self) | (rw [mup_ne (by assumption), mup_ne (by assumption)]; assumption)) rfl in_X7 1 (by decide) wf_X7_11 rfl rfl dX7_add__57 ?_
          refine zi_iload_n X dX7_add__60 rfl rfl ?_
          refine zi_aaldA X 4 (by first | assumption | exact mup_self | (rw [mup_ne (by assumption)]; assumption) | (rw [mup_ne (by assumption)]; exact mup_self) | (rw [mup_ne (by assumption), mup_ne (by assumption)]; assumption)) rfl (vin hj (by decide)) (sl4_at hj) dX7_add__61 ?_
          refine zi_iload X dX7_add__62 rfl ?_
          refine zi_iald X 0 (by first | assumption | exact mup_self | (rw [mup_ne (by assumption)]; assumption) | (rw [mup_ne (by assumption)]; exact mup_self) | (rw [mup_ne (by assumption), mup_ne (by assumption)]; assumption)) rfl (vin t7 (by decide)) dX7_add__64 ?_
          refine zi_iadd X dX7_add__65 ?_
          refine zi_i2l X dX7_add__66 ?_
          refine zi_last X 1 (by first | assumption | exact mup_self | (rw [mup_ne (by assumption)]; assumption) | (rw [mup_ne (by assumption)]; exact mup_self) | (rw [mup_ne (by assumption), mup_ne (by assumption)]; assumption)) rfl (vin (show t < 14 by omega) (by decide)) dX7_add__67 ?_
          refine zi_iinc (v := nI (t + 1)) X dX7_add__68 rfl (nI_inc _) (by decide) ?_
          refine zi_goto (tgt := 34) X dX7_add__71 (by decide) ?_
          rw [slot_rd t7, slot_rd t7, iI_add, nI_cl (show t < 2147483648 by omega)]
          refine zi_sub (by repeat (first | exact trivial | refine And.intro rfl ?_)) (ih (t + 1) _ _ (by omega) (rU_m hu _) mup_self (fun m hm => ?_) (fun m h1 h2 => ?_))
          · rw [vU_at]
            by_cases c : m = t
            · rw [if_pos c, iI_l (by omega), c]
            · rw [if_neg c]; exact h1' m (by omega)
          · rw [vU_at, if_neg (by omega)]
            exact h2' m (by omega) h2
      · refine zi_if_ne (tgt := 27) X dX7_add__18 (by decide) (fun c_18 => (by first | exact absurd (by decide) c_18 | exact absurd c_18 (by decide))) (fun c_18 => ?_)
        exact zi_sub (by repeat (first | exact trivial | refine And.intro rfl ?_)) (f1 (Or.inr (Or.inr q3)))
    · refine zi_if_eq (tgt := 21) X dX7_add__11 (by decide) (fun c_11 => ?_) (fun c_11 => (by first | exact absurd (by decide) c_11 | exact absurd c_11 (by decide)))
      exact zi_sub (by repeat (first | exact trivial | refine And.intro rfl ?_)) (f1 (Or.inr (Or.inl q2)))
  · refine zi_if_eq (tgt := 21) X dX7_add__4 (by decide) (fun c_4 => ?_) (fun c_4 => (by first | exact absurd (by decide) c_4 | exact absurd c_4 (by decide)))
    exact zi_sub (by repeat (first | exact trivial | refine And.intro rfl ?_)) (f1 (Or.inl q1))
theorem u_reflect (l : Launch) (D : va_G) (hu : rU cA M h o Sl kp cap n V P) (hb : slB Sl) {a b : Int32} :
    mCi l yX7_reflect cX7_reflect 4 .int (rmd 3) D (mT cA) [.ref (M 3 0), .int a, .int b] h (fun r h1 => (¬ inR a 5 ∨ ¬ inR b 5) ∧ uT cA M o kp cap n V P 1 Sl h1 ∨ ∃ i k, i < 5 ∧ a = nI i ∧ k < 5 ∧ b = nI k ∧ r = iI (sDeg (rfP (Sl i))) ∧ uT cA M o kp cap n V P 0 (setS Sl k (tr (rfP (Sl i)))) h1) := by
  have x1 := hu.2.1.1
  have x2 := hu.2.1.2.1
  refine mEnter_i (by decide) (Nat.le_of_ble_eq_true rfl) rfl (fun z X Vz => ?_)
  have f1 : (¬ inR a 5 ∨ ¬ inR b 5) → zM z 0 0 14 [some (.ref (M 3 0)), some (.int a), some (.int b), none] [] h := fun q => by
    refine zi_aload_n X dX7_reflect_14 rfl rfl ?_
    refine zi_iconst (v := (nI 1)) X dX7_reflect_15 (by decide) ?_
    refine zi_callVi X (u_fails l D hu) kc_X7_fails wm_X7_212 (by first | assumption | exact mup_self | (rw [mup_ne (by assumption)]; assumption) | (rw [mup_ne (by assumption)]; exact mup_self) | (rw [mup_ne (by assumption), mup_ne (by assumption)]; assumption)) rfl wim_X7_fails wse_X7_fails ⟨Nat.le_of_ble_eq_true rfl, Nat.le_of_ble_eq_true rfl⟩ rfl rfl (Nat.le_of_ble_eq_true rfl) ⟨Nat.le_of_ble_eq_true rfl, Nat.le_of_ble_eq_true rfl⟩ dX7_reflect_16 (fun r h1 hp => ?_)
    refine zi_ireturn X Vz dX7_reflect_19 ?_
    exact Or.inl ⟨q, uT_of hp.2⟩
  refine zi_iload_n X dX7_reflect_0 rfl rfl ?_
  refine zi_callSi X (s_isSlot l D) kc_X7_isSlot wm_X7_228 wst_X7_isSlot ⟨Nat.le_of_ble_eq_true rfl, Nat.le_of_ble_eq_true rfl⟩ rfl rfl (Nat.le_of_ble_eq_true rfl) ⟨Nat.le_of_ble_eq_true rfl, Nat.le_of_ble_eq_true rfl⟩ dX7_reflect_1 (fun r h1 hp => ?_)
  obtain ⟨rfl, ⟨q1, rfl⟩ | ⟨q1, rfl⟩⟩ := hp
  · refine zi_if_eq (tgt := 14) X dX7_reflect_4 (by decide) (fun c_4 => (by first | exact absurd (by decide) c_4 | exact absurd c_4 (by decide))) (fun c_4 => ?_)
    refine zi_iload_n X dX7_reflect_7 rfl rfl ?_
    refine zi_callSi X (s_isSlot l D) kc_X7_isSlot wm_X7_228 wst_X7_isSlot ⟨Nat.le_of_ble_eq_true rfl, Nat.le_of_ble_eq_true rfl⟩ rfl rfl (Nat.le_of_ble_eq_true rfl) ⟨Nat.le_of_ble_eq_true rfl, Nat.le_of_ble_eq_true rfl⟩ dX7_reflect_8 (fun r h1 hp => ?_)
    obtain ⟨rfl, ⟨q2, rfl⟩ | ⟨q2, rfl⟩⟩ := hp
    · obtain ⟨i, hi, rfl⟩ := q1
      obtain ⟨k, hk, rfl⟩ := q2
      refine zi_if_ne (tgt := 20) X dX7_reflect_11 (by decide) (fun c_11 => ?_) (fun c_11 => (by first | exact absurd (by decide) c_11 | exact absurd c_11 (by decide)))
      refine zi_aload_n X dX7_reflect_20 rfl rfl ?_
      refine zi_callVv X (u_clear l D hu) kc_X7_clear wm_X7_220 (by first | assumption | exact mup_self | (rw [mup_ne (by assumption)]; assumption) | (rw [mup_ne (by assumption)]; exact mup_self) | (rw [mup_ne (by assumption), mup_ne (by assumption)]; assumption)) rfl wim_X7_clear wse_X7_clear ⟨Nat.le_of_ble_eq_true rfl, Nat.le_of_ble_eq_true rfl⟩ rfl rfl (Nat.le_of_ble_eq_true rfl) ⟨Nat.le_of_ble_eq_true rfl, Nat.le_of_ble_eq_true rfl⟩ dX7_reflect_21 (fun h2 hp => ?_)
      obtain ⟨hu2, f0, hf0, hz0⟩ := hp
      refine zi_iconst (v := (nI 0)) X dX7_reflect_24 (by decide) ?_
      refine zi_istore_n X dX7_reflect_25 rfl (by decide) ?_
      suffices key : ∀ w t (g : mH) (f : Nat → Int64), t + w = 7 → rU cA M g o Sl kp cap n V P → g (M 2 3) = some (mdE (cA 1) f) → (∀ k, k < t → (f k).toInt = rfP (Sl i) k) → (∀ k, t ≤ k → k < 14 → f k = 0) → zM z 0 0 26 [some (.ref (M 3 0)), some (.int (nI i)), some (.int (nI k)), some (.int (nI t))] [] g from
        zi_sub (by repeat (first | exact trivial | refine And.intro rfl ?_)) (key 7 0 h2 f0 rfl hu2 hf0 (fun k hk => absurd hk (Nat.not_lt_zero k)) (fun k _ hk => hz0 k hk))
      intro w
      induction w with
      | zero =>
        intro t g f ht hu hf h1' h2'
        obtain rfl : t = 7 := by omega
        have x1 := hu.2.1.1
        have ok : okM f := (okM_of h1' h2').mpr (fun k hk => by
          have := hb i k hi hk
          unfold rfP
          split <;> omega)
        have cm := cm_of h1'
        refine zi_iload_n X dX7_reflect_26 rfl rfl ?_
        refine zi_bipush (v := (nI 7)) X dX7_reflect_27 (by decide) ?_
        refine zi_icmp_ge (tgt := 72) X dX7_reflect_29 (by decide) (fun c_29 => ?_) (fun c_29 => (by first | exact absurd (by decide) c_29 | exact absurd c_29 (by decide)))
        refine zi_aload_n X dX7_reflect_72 rfl rfl ?_
        refine zi_iload_n X dX7_reflect_73 rfl rfl ?_
        refine zi_iconst (v := (nI 0)) X dX7_reflect_74 (by decide) ?_
        refine zi_callVi X (u_comes l D hu hf hk) kc_X7_comes wm_X7_225 (by first | assumption | exact mup_self | (rw [mup_ne (by assumption)]; assumption) | (rw [mup_ne (by assumption)]; exact mup_self) | (rw [mup_ne (by assumption), mup_ne (by assumption)]; assumption)) rfl wim_X7_comes wse_X7_comes ⟨Nat.le_of_ble_eq_true rfl, Nat.le_of_ble_eq_true rfl⟩ rfl rfl (Nat.le_of_ble_eq_true rfl) ⟨Nat.le_of_ble_eq_true rfl, Nat.le_of_ble_eq_true rfl⟩ dX7_reflect_75 (fun r h3 hp => ?_)
        refine zi_ireturn X Vz dX7_reflect_78 ?_
        rcases hp with ⟨-, e1, e2⟩ | ⟨q, -⟩
        · rw [cm.1] at e1
          rw [cm.2] at e2
          exact Or.inr ⟨i, k, hi, rfl, hk, rfl, e1, uT_of e2⟩
        · exact absurd ok q
      | succ w ih =>
        intro t g f ht hu hf h1' h2'
        have t7 : t < 7 := by omega
        have x1 := hu.2.1.1
        have x2 := hu.2.1.2.1
        have y3 := hu.2.1.2.2.1 i hi
        have b1 := hb i t hi t7
        have s65 : ∀ v : Int, v = rfP (Sl i) t → v.natAbs ≤ 9999 → zM z 0 0 65 [some (.ref (M 3 0)), some (.int (nI i)), some (.int (nI k)), some (.int (nI t))] [.long (iI v).toInt64, .int (nI t), .ref (M 2 3)] g := fun v hv hv2 => by
          refine zi_last X 1 (by first | assumption | exact mup_self | (rw [mup_ne (by assumption)]; assumption) | (rw [mup_ne (by assumption)]; exact mup_self) | (rw [mup_ne (by assumption), mup_ne (by assumption)]; assumption)) rfl (vin (show t < 14 by omega) (by decide)) dX7_reflect_65 ?_
          refine zi_iinc (v := nI (t + 1)) X dX7_reflect_66 rfl (nI_inc _) (by decide) ?_
          refine zi_goto (tgt := 26) X dX7_reflect_69 (by decide) ?_
          rw [nI_cl (show t < 2147483648 by omega)]
          refine zi_sub (by repeat (first | exact trivial | refine And.intro rfl ?_)) (ih (t + 1) _ _ (by omega) (rU_m hu _) mup_self (fun j hj => ?_) (fun j h1 h2 => ?_))
          · rw [vU_at]
            by_cases c : j = t
            · rw [if_pos c, iI_l (by omega), c, hv]
            · rw [if_neg c]; exact h1' j (by omega)
          · rw [vU_at, if_neg (by omega)]
            exact h2' j (by omega) h2
        have em : nI t - nI t / nI 2 * nI 2 = nI (t % 2) := pk_rem (by omega) (by decide) (by decide)
        by_cases c : t % 2 = 0
        · refine zi_iload_n X dX7_reflect_26 rfl rfl ?_
          refine zi_bipush (v := (nI 7)) X dX7_reflect_27 (by decide) ?_
          refine zi_icmp_ge (tgt := 72) X dX7_reflect_29 (by decide) (fun c_29 => (by first | exact absurd (c7 t7) c_29 | exact absurd c_29 (c7 t7))) (fun c_29 => ?_)
          refine zi_aload_n X dX7_reflect_32 rfl rfl ?_
          refine zi_getf (C := RX7) (T := TX7) (N := 27) (ci := 11) X (by first | assumption | exact mup_self | (rw [mup_ne (by assumption)]; assumption) | (rw [mup_ne (by assumption)]; exact mup_self) | (rw [mup_ne (by assumption), mup_ne (by assumption)]; assumption)) rfl in_X7 16 (by decide) wf_X7_59 rfl rfl dX7_reflect_33 ?_
          refine zi_iload_n X dX7_reflect_36 rfl rfl ?_
          refine zi_iload_n X dX7_reflect_37 rfl rfl ?_
          refine zi_iconst (v := (nI 2)) X dX7_reflect_38 (by decide) ?_
          refine zi_irem X dX7_reflect_39 (by decide) ?_
          refine zi_if_ne (tgt := 55) X dX7_reflect_40 (by decide) (fun c_40 => (by first | exact absurd (by rw [em, c]; rfl) c_40 | exact absurd c_40 (by rw [em, c]; rfl))) (fun c_40 => ?_)
          refine zi_aload_n X dX7_reflect_43 rfl rfl ?_
          refine zi_getf (C := RX7) (T := TX7) (N := 27) (ci := 11) X (by first | assumption | exact mup_self | (rw [mup_ne (by assumption)]; assumption) | (rw [mup_ne (by assumption)]; exact mup_self) | (rw [mup_ne (by assumption), mup_ne (by assumption)]; assumption)) rfl in_X7 1 (by decide) wf_X7_11 rfl rfl dX7_reflect_44 ?_
          refine zi_iload_n X dX7_reflect_47 rfl rfl ?_
          refine zi_aaldA X 4 (by first | assumption | exact mup_self | (rw [mup_ne (by assumption)]; assumption) | (rw [mup_ne (by assumption)]; exact mup_self) | (rw [mup_ne (by assumption), mup_ne (by assumption)]; assumption)) rfl (vin hi (by decide)) (sl4_at hi) dX7_reflect_48 ?_
          refine zi_iload_n X dX7_reflect_49 rfl rfl ?_
          refine zi_iald X 0 (by first | assumption | exact mup_self | (rw [mup_ne (by assumption)]; assumption) | (rw [mup_ne (by assumption)]; exact mup_self) | (rw [mup_ne (by assumption), mup_ne (by assumption)]; assumption)) rfl (vin t7 (by decide)) dX7_reflect_50 ?_
          refine zi_i2l X dX7_reflect_51 ?_
          refine zi_goto (tgt := 65) X dX7_reflect_52 (by decide) ?_
          rw [slot_rd t7]
          exact s65 (Sl i t) (by unfold rfP; rw [if_neg (by omega)]) b1
        · have c1 : t % 2 = 1 := by omega
          refine zi_iload_n X dX7_reflect_26 rfl rfl ?_
          refine zi_bipush (v := (nI 7)) X dX7_reflect_27 (by decide) ?_
          refine zi_icmp_ge (tgt := 72) X dX7_reflect_29 (by decide) (fun c_29 => (by first | exact absurd (c7 t7) c_29 | exact absurd c_29 (c7 t7))) (fun c_29 => ?_)
          refine zi_aload_n X dX7_reflect_32 rfl rfl ?_
          refine zi_getf (C := RX7) (T := TX7) (N := 27) (ci := 11) X (by first | assumption | exact mup_self | (rw [mup_ne (by assumption)]; assumption) | (rw [mup_ne (by assumption)]; exact mup_self) | (rw [mup_ne (by assumption), mup_ne (by assumption)]; assumption)) rfl in_X7 16 (by decide) wf_X7_59 rfl rfl dX7_reflect_33 ?_
          refine zi_iload_n X dX7_reflect_36 rfl rfl ?_
          refine zi_iload_n X dX7_reflect_37 rfl rfl ?_
          refine zi_iconst (v := (nI 2)) X dX7_reflect_38 (by decide) ?_
          refine zi_irem X dX7_reflect_39 (by decide) ?_
          refine zi_if_ne (tgt := 55) X dX7_reflect_40 (by decide) (fun c_40 => ?_) (fun c_40 => (by first | exact absurd (by rw [em, c1]; decide) c_40 | exact absurd c_40 (by rw [em, c1]; decide)))
          refine zi_aload_n X dX7_reflect_55 rfl rfl ?_
          refine zi_getf (C := RX7) (T := TX7) (N := 27) (ci := 11) X (by first | assumption | exact mup_self | (rw [mup_ne (by assumption)]; assumption) | (rw [mup_ne (by assumption)]; exact mup_self) | (rw [mup_ne (by assumption), mup_ne (by assumption)]; assumption)) rfl in_X7 1 (by decide) wf_X7_11 rfl rfl dX7_reflect_56 ?_
          refine zi_iload_n X dX7_reflect_59 rfl rfl ?_
          refine zi_aaldA X 4 (by first | assumption | exact mup_self | (rw [mup_ne (by assumption)]; assumption) | (rw [mup_ne (by assumption)]; exact mup_self) | (rw [mup_ne (by assumption), mup_ne (by assumption)]; assumption)) rfl (vin hi (by decide)) (sl4_at hi) dX7_reflect_60 ?_
          refine zi_iload_n X dX7_reflect_61 rfl rfl ?_
          refine zi_iald X 0 (by first | assumption | exact mup_self | (rw [mup_ne (by assumption)]; assumption) | (rw [mup_ne (by assumption)]; exact mup_self) | (rw [mup_ne (by assumption), mup_ne (by assumption)]; assumption)) rfl (vin t7 (by decide)) dX7_reflect_62 ?_
          refine zi_ineg X dX7_reflect_63 ?_
          refine zi_i2l X dX7_reflect_64 ?_
          rw [slot_rd t7, iI_neg]
          exact s65 (-Sl i t) (by unfold rfP; rw [if_pos c1]) (by omega)
    · refine zi_if_ne (tgt := 20) X dX7_reflect_11 (by decide) (fun c_11 => (by first | exact absurd (by decide) c_11 | exact absurd c_11 (by decide))) (fun c_11 => ?_)
      exact zi_sub (by repeat (first | exact trivial | refine And.intro rfl ?_)) (f1 (Or.inr q2))
  · refine zi_if_eq (tgt := 14) X dX7_reflect_4 (by decide) (fun c_4 => ?_) (fun c_4 => (by first | exact absurd (by decide) c_4 | exact absurd c_4 (by decide)))
    exact zi_sub (by repeat (first | exact trivial | refine And.intro rfl ?_)) (f1 (Or.inl q1))
theorem u_derivative (l : Launch) (D : va_G) (hu : rU cA M h o Sl kp cap n V P) (hb : slB Sl) {a b : Int32} :
    mCi l yX7_derivative cX7_derivative 4 .int (rmd 3) D (mT cA) [.ref (M 3 0), .int a, .int b] h (fun r h1 => (¬ inR a 5 ∨ ¬ inR b 5) ∧ uT cA M o kp cap n V P 1 Sl h1 ∨ ∃ i k, i < 5 ∧ a = nI i ∧ k < 5 ∧ b = nI k ∧ (st9 (derI (Sl i)) ∧ r = iI (sDeg (derI (Sl i))) ∧ uT cA M o kp cap n V P 0 (setS Sl k (tr (derI (Sl i)))) h1 ∨ ¬ st9 (derI (Sl i)) ∧ uT cA M o kp cap n V P 2 Sl h1)) := by
  have x1 := hu.2.1.1
  have x2 := hu.2.1.2.1
  refine mEnter_i (by decide) (Nat.le_of_ble_eq_true rfl) rfl (fun z X Vz => ?_)
  have f1 : (¬ inR a 5 ∨ ¬ inR b 5) → zM z 0 0 14 [some (.ref (M 3 0)), some (.int a), some (.int b), none] [] h := fun q => by
    refine zi_aload_n X dX7_derivative_14 rfl rfl ?_
    refine zi_iconst (v := (nI 1)) X dX7_derivative_15 (by decide) ?_
    refine zi_callVi X (u_fails l D hu) kc_X7_fails wm_X7_212 (by first | assumption | exact mup_self | (rw [mup_ne (by assumption)]; assumption) | (rw [mup_ne (by assumption)]; exact mup_self) | (rw [mup_ne (by assumption), mup_ne (by assumption)]; assumption)) rfl wim_X7_fails wse_X7_fails ⟨Nat.le_of_ble_eq_true rfl, Nat.le_of_ble_eq_true rfl⟩ rfl rfl (Nat.le_of_ble_eq_true rfl) ⟨Nat.le_of_ble_eq_true rfl, Nat.le_of_ble_eq_true rfl⟩ dX7_derivative_16 (fun r h1 hp => ?_)
    refine zi_ireturn X Vz dX7_derivative_19 ?_
    exact Or.inl ⟨q, uT_of hp.2⟩
  refine zi_iload_n X dX7_derivative_0 rfl rfl ?_
  refine zi_callSi X (s_isSlot l D) kc_X7_isSlot wm_X7_228 wst_X7_isSlot ⟨Nat.le_of_ble_eq_true rfl, Nat.le_of_ble_eq_true rfl⟩ rfl rfl (Nat.le_of_ble_eq_true rfl) ⟨Nat.le_of_ble_eq_true rfl, Nat.le_of_ble_eq_true rfl⟩ dX7_derivative_1 (fun r h1 hp => ?_)
  obtain ⟨rfl, ⟨q1, rfl⟩ | ⟨q1, rfl⟩⟩ := hp
  · refine zi_if_eq (tgt := 14) X dX7_derivative_4 (by decide) (fun c_4 => (by first | exact absurd (by decide) c_4 | exact absurd c_4 (by decide))) (fun c_4 => ?_)
    refine zi_iload_n X dX7_derivative_7 rfl rfl ?_
    refine zi_callSi X (s_isSlot l D) kc_X7_isSlot wm_X7_228 wst_X7_isSlot ⟨Nat.le_of_ble_eq_true rfl, Nat.le_of_ble_eq_true rfl⟩ rfl rfl (Nat.le_of_ble_eq_true rfl) ⟨Nat.le_of_ble_eq_true rfl, Nat.le_of_ble_eq_true rfl⟩ dX7_derivative_8 (fun r h1 hp => ?_)
    obtain ⟨rfl, ⟨q2, rfl⟩ | ⟨q2, rfl⟩⟩ := hp
    · obtain ⟨i, hi, rfl⟩ := q1
      obtain ⟨k, hk, rfl⟩ := q2
      refine zi_if_ne (tgt := 20) X dX7_derivative_11 (by decide) (fun c_11 => ?_) (fun c_11 => (by first | exact absurd (by decide) c_11 | exact absurd c_11 (by decide)))
      refine zi_aload_n X dX7_derivative_20 rfl rfl ?_
      refine zi_callVv X (u_clear l D hu) kc_X7_clear wm_X7_220 (by first | assumption | exact mup_self | (rw [mup_ne (by assumption)]; assumption) | (rw [mup_ne (by assumption)]; exact mup_self) | (rw [mup_ne (by assumption), mup_ne (by assumption)]; assumption)) rfl wim_X7_clear wse_X7_clear ⟨Nat.le_of_ble_eq_true rfl, Nat.le_of_ble_eq_true rfl⟩ rfl rfl (Nat.le_of_ble_eq_true rfl) ⟨Nat.le_of_ble_eq_true rfl, Nat.le_of_ble_eq_true rfl⟩ dX7_derivative_21 (fun h2 hp => ?_)
      obtain ⟨hu2, f0, hf0, hz0⟩ := hp
      refine zi_iconst (v := (nI 1)) X dX7_derivative_24 (by decide) ?_
      refine zi_istore_n X dX7_derivative_25 rfl (by decide) ?_
      suffices key : ∀ w t (g : mH) (f : Nat → Int64), t + w = 6 → rU cA M g o Sl kp cap n V P → g (M 2 3) = some (mdE (cA 1) f) → (∀ k, k < t → (f k).toInt = derI (Sl i) k) → (∀ k, t ≤ k → k < 14 → f k = 0) → zM z 0 0 26 [some (.ref (M 3 0)), some (.int (nI i)), some (.int (nI k)), some (.int (nI (t + 1)))] [] g from
        zi_sub (by repeat (first | exact trivial | refine And.intro rfl ?_)) (key 6 0 h2 f0 rfl hu2 hf0 (fun k hk => absurd hk (Nat.not_lt_zero k)) (fun k _ hk => hz0 k hk))
      intro w
      induction w with
      | zero =>
        intro t g f ht hu hf h1' h2'
        obtain rfl : t = 6 := by omega
        have x1 := hu.2.1.1
        have h1'' : ∀ k, k < 7 → (f k).toInt = derI (Sl i) k := fun k hk => by
          by_cases c : k < 6
          · exact h1' k c
          · rw [h2' k (by omega) (by omega)]
            unfold derI
            rw [if_neg c]
            decide
        have ok := okM_of h1'' (fun k h1 h2 => h2' k (by omega) h2)
        have cm := cm_of h1''
        refine zi_iload_n X dX7_derivative_26 rfl rfl ?_
        refine zi_bipush (v := (nI 7)) X dX7_derivative_27 (by decide) ?_
        refine zi_icmp_ge (tgt := 58) X dX7_derivative_29 (by decide) (fun c_29 => ?_) (fun c_29 => (by first | exact absurd (by decide) c_29 | exact absurd c_29 (by decide)))
        refine zi_aload_n X dX7_derivative_58 rfl rfl ?_
        refine zi_iload_n X dX7_derivative_59 rfl rfl ?_
        refine zi_iconst (v := (nI 2)) X dX7_derivative_60 (by decide) ?_
        refine zi_callVi X (u_comes l D hu hf hk) kc_X7_comes wm_X7_225 (by first | assumption | exact mup_self | (rw [mup_ne (by assumption)]; assumption) | (rw [mup_ne (by assumption)]; exact mup_self) | (rw [mup_ne (by assumption), mup_ne (by assumption)]; assumption)) rfl wim_X7_comes wse_X7_comes ⟨Nat.le_of_ble_eq_true rfl, Nat.le_of_ble_eq_true rfl⟩ rfl rfl (Nat.le_of_ble_eq_true rfl) ⟨Nat.le_of_ble_eq_true rfl, Nat.le_of_ble_eq_true rfl⟩ dX7_derivative_61 (fun r h3 hp => ?_)
        refine zi_ireturn X Vz dX7_derivative_64 ?_
        refine Or.inr ⟨i, k, hi, rfl, hk, rfl, ?_⟩
        rcases hp with ⟨q, e1, e2⟩ | ⟨q, e2⟩
        · rw [cm.1] at e1
          rw [cm.2] at e2
          exact Or.inl ⟨ok.mp q, e1, uT_of e2⟩
        · exact Or.inr ⟨fun w => q (ok.mpr w), uT_of e2⟩
      | succ w ih =>
        intro t g f ht hu hf h1' h2'
        have t7 : t + 1 < 7 := by omega
        have x1 := hu.2.1.1
        have x2 := hu.2.1.2.1
        have y3 := hu.2.1.2.2.1 i hi
        have b1 := hb i (t + 1) hi t7
        have e1 : (nI (t + 1)).toInt64.toInt = (t : Int) + 1 := by rw [i32_i64, nI_int (by omega)]; omega
        have ee : ((nI (t + 1)).toInt64 * (iI (Sl i (t + 1))).toInt64).toInt = derI (Sl i) t := by
          have hm : (((t : Int) + 1) * Sl i (t + 1)).natAbs ≤ 7 * 9999 := by
            rw [Int.natAbs_mul]
            exact Nat.mul_le_mul (by omega) b1
          rw [l_mul e1 (iI_l (by omega)) (by omega) (by omega)]
          unfold derI
          rw [if_pos (by omega), Int.mul_comm]
        refine zi_iload_n X dX7_derivative_26 rfl rfl ?_
        refine zi_bipush (v := (nI 7)) X dX7_derivative_27 (by decide) ?_
        refine zi_icmp_ge (tgt := 58) X dX7_derivative_29 (by decide) (fun c_29 => (by first | exact absurd (c7 t7) c_29 | exact absurd c_29 (c7 t7))) (fun c_29 => ?_)
        refine zi_aload_n X dX7_derivative_32 rfl rfl ?_
        refine zi_getf (C := RX7) (T := TX7) (N := 27) (ci := 11) X (by first | assumption | exact mup_self | (rw [mup_ne (by assumption)]; assumption) | (rw [mup_ne (by assumption)]; exact mup_self) | (rw [mup_ne (by assumption), mup_ne (by assumption)]; assumption)) rfl in_X7 16 (by decide) wf_X7_59 rfl rfl dX7_derivative_33 ?_
        refine zi_iload_n X dX7_derivative_36 rfl rfl ?_
        refine zi_iconst (v := (nI 1)) X dX7_derivative_37 (by decide) ?_
        refine zi_isub X dX7_derivative_38 ?_
        refine zi_iload_n X dX7_derivative_39 rfl rfl ?_
        refine zi_i2l X dX7_derivative_40 ?_
        refine zi_aload_n X dX7_derivative_41 rfl rfl ?_
        refine zi_getf (C := RX7) (T := TX7) (N := 27) (ci := 11) X (by first | assumption | exact mup_self | (rw [mup_ne (by assumption)]; assumption) | (rw [mup_ne (by assumption)]; exact mup_self) | (rw [mup_ne (by assumption), mup_ne (by assumption)]; assumption)) rfl in_X7 1 (by decide) wf_X7_11 rfl rfl dX7_derivative_42 ?_
        refine zi_iload_n X dX7_derivative_45 rfl rfl ?_
        refine zi_aaldA X 4 (by first | assumption | exact mup_self | (rw [mup_ne (by assumption)]; assumption) | (rw [mup_ne (by assumption)]; exact mup_self) | (rw [mup_ne (by assumption), mup_ne (by assumption)]; assumption)) rfl (vin hi (by decide)) (sl4_at hi) dX7_derivative_46 ?_
        refine zi_iload_n X dX7_derivative_47 rfl rfl ?_
        refine zi_iald X 0 (by first | assumption | exact mup_self | (rw [mup_ne (by assumption)]; assumption) | (rw [mup_ne (by assumption)]; exact mup_self) | (rw [mup_ne (by assumption), mup_ne (by assumption)]; assumption)) rfl (vin t7 (by decide)) dX7_derivative_48 ?_
        refine zi_i2l X dX7_derivative_49 ?_
        refine zi_lmul X dX7_derivative_50 ?_
        refine zi_last X 1 (by first | assumption | exact mup_self | (rw [mup_ne (by assumption)]; assumption) | (rw [mup_ne (by assumption)]; exact mup_self) | (rw [mup_ne (by assumption), mup_ne (by assumption)]; assumption)) rfl (by rw [nI_pr]; exact vin (show t < 14 by omega) (by decide)) dX7_derivative_51 ?_
        refine zi_iinc (v := nI ((t + 1) + 1)) X dX7_derivative_52 rfl (nI_inc _) (by decide) ?_
        refine zi_goto (tgt := 26) X dX7_derivative_55 (by decide) ?_
        rw [slot_rd t7, nI_pr, nI_cl (show t < 2147483648 by omega)]
        refine zi_sub (by repeat (first | exact trivial | refine And.intro rfl ?_)) (ih (t + 1) _ _ (by omega) (rU_m hu _) mup_self (fun j hj => ?_) (fun j h1 h2 => ?_))
        · rw [vU_at]
          by_cases c : j = t
          · rw [if_pos c, ee, c]
          · rw [if_neg c]; exact h1' j (by omega)
        · rw [vU_at, if_neg (by omega)]
          exact h2' j (by omega) h2
    · refine zi_if_ne (tgt := 20) X dX7_derivative_11 (by decide) (fun c_11 => (by first | exact absurd (by decide) c_11 | exact absurd c_11 (by decide))) (fun c_11 => ?_)
      exact zi_sub (by repeat (first | exact trivial | refine And.intro rfl ?_)) (f1 (Or.inr q2))
  · refine zi_if_eq (tgt := 14) X dX7_derivative_4 (by decide) (fun c_4 => ?_) (fun c_4 => (by first | exact absurd (by decide) c_4 | exact absurd c_4 (by decide)))
    exact zi_sub (by repeat (first | exact trivial | refine And.intro rfl ?_)) (f1 (Or.inl q1))
end P2
