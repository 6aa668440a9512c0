/-! SturmRootsModel: multiply, shift, scale (walked) -/
section P4
variable {cA : Nat → ClassId} {M : Nat → Nat → Nat} {h : mH} {o : RO} {Sl : Nat → Nat → Int} {kp : Nat → Int} {cap n : Nat} {V : Nat → Iv} {P : Nat → Nat → Int}
theorem u_multiply (l : Launch) (D : va_G) (hu : rU cA M h o Sl kp cap n V P) (hb : slB Sl) {a b c : Int32} :
    mCi l yX7_multiply_ cX7_multiply_ 6 .int (rmd 3) D (mT cA) [.ref (M 3 0), .int a, .int b, .int c] h (fun r h1 => (¬ inR a 5 ∨ ¬ inR b 5 ∨ ¬ inR c 5) ∧ uT cA M o kp cap n V P 1 Sl h1 ∨ ∃ i j k, i < 5 ∧ a = nI i ∧ j < 5 ∧ b = nI j ∧ k < 5 ∧ c = nI k ∧ ((mOk (Sl i) (Sl j) ∧ st9 (mulP (Sl i) (Sl j))) ∧ r = iI (sDeg (mulP (Sl i) (Sl j))) ∧ uT cA M o kp cap n V P 0 (setS Sl k (tr (mulP (Sl i) (Sl j)))) h1 ∨ ¬ (mOk (Sl i) (Sl j) ∧ st9 (mulP (Sl i) (Sl j))) ∧ uT cA M o kp cap n V P 2 Sl h1)) := by
  have x1 := hu.2.1.1
  have x2 := hu.2.1.2.1
  refine mEnter_i (by decide) (Nat.le_of_ble_eq_true rfl) rfl (fun z X Vz => ?_)
  have f1 : (¬ inR a 5 ∨ ¬ inR b 5 ∨ ¬ inR c 5) → zM z 0 0 21 [some (.ref (M 3 0)), some (.int a), some (.int b), some (.int c), none, none] [] h := fun q => by
    refine zi_aload_n X dX7_multiply__21 rfl rfl ?_
    refine zi_iconst (v := (nI 1)) X dX7_multiply__22 (by decide) ?_
    refine zi_callVi X (u_fails l D hu) kc_X7_fails wm_X7_212 (by first | assumption | exact mup_self | (rw [mup_ne (by assumption)]; assumption) | (rw [mup_ne (by assumption)]; exact mup_self) | (rw [mup_ne (by assumption), mup_ne (by assumption)]; assumption)) rfl wim_X7_fails wse_X7_fails ⟨Nat.le_of_ble_eq_true rfl, Nat.le_of_ble_eq_true rfl⟩ rfl rfl (Nat.le_of_ble_eq_true rfl) ⟨Nat.le_of_ble_eq_true rfl, Nat.le_of_ble_eq_true rfl⟩ dX7_multiply__23 (fun r h1 hp => ?_)
    refine zi_ireturn X Vz dX7_multiply__26 ?_
    exact Or.inl ⟨q, uT_of hp.2⟩
  refine zi_iload_n X dX7_multiply__0 rfl rfl ?_
  refine zi_callSi X (s_isSlot l D) kc_X7_isSlot wm_X7_228 wst_X7_isSlot ⟨Nat.le_of_ble_eq_true rfl, Nat.le_of_ble_eq_true rfl⟩ rfl rfl (Nat.le_of_ble_eq_true rfl) ⟨Nat.le_of_ble_eq_true rfl, Nat.le_of_ble_eq_true rfl⟩ dX7_multiply__1 (fun r h1 hp => ?_)
  obtain ⟨rfl, ⟨q1, rfl⟩ | ⟨q1, rfl⟩⟩ := hp
  · refine zi_if_eq (tgt := 21) X dX7_multiply__4 (by decide) (fun c_4 => (by first | exact absurd (by decide) c_4 | exact absurd c_4 (by decide))) (fun c_4 => ?_)
    refine zi_iload_n X dX7_multiply__7 rfl rfl ?_
    refine zi_callSi X (s_isSlot l D) kc_X7_isSlot wm_X7_228 wst_X7_isSlot ⟨Nat.le_of_ble_eq_true rfl, Nat.le_of_ble_eq_true rfl⟩ rfl rfl (Nat.le_of_ble_eq_true rfl) ⟨Nat.le_of_ble_eq_true rfl, Nat.le_of_ble_eq_true rfl⟩ dX7_multiply__8 (fun r h1 hp => ?_)
    obtain ⟨rfl, ⟨q2, rfl⟩ | ⟨q2, rfl⟩⟩ := hp
    · refine zi_if_eq (tgt := 21) X dX7_multiply__11 (by decide) (fun c_11 => (by first | exact absurd (by decide) c_11 | exact absurd c_11 (by decide))) (fun c_11 => ?_)
      refine zi_iload_n X dX7_multiply__14 rfl rfl ?_
      refine zi_callSi X (s_isSlot l D) kc_X7_isSlot wm_X7_228 wst_X7_isSlot ⟨Nat.le_of_ble_eq_true rfl, Nat.le_of_ble_eq_true rfl⟩ rfl rfl (Nat.le_of_ble_eq_true rfl) ⟨Nat.le_of_ble_eq_true rfl, Nat.le_of_ble_eq_true rfl⟩ dX7_multiply__15 (fun r h1 hp => ?_)
      obtain ⟨rfl, ⟨q3, rfl⟩ | ⟨q3, rfl⟩⟩ := hp
      · obtain ⟨i, hi, rfl⟩ := q1
        obtain ⟨j, hj, rfl⟩ := q2
        obtain ⟨k, hk, rfl⟩ := q3
        have bs : ∀ t, t < 7 → (Sl i t).natAbs ≤ 9999 := fun t ht => hb i t hi ht
        have bt : ∀ t, t < 7 → (Sl j t).natAbs ≤ 9999 := fun t ht => hb j t hj ht
        refine zi_if_ne (tgt := 27) X dX7_multiply__18 (by decide) (fun c_18 => ?_) (fun c_18 => (by first | exact absurd (by decide) c_18 | exact absurd c_18 (by decide)))
        refine zi_aload_n X dX7_multiply__27 rfl rfl ?_
        refine zi_callVv X (u_clear l D hu) kc_X7_clear wm_X7_220 (by first | assumption | exact mup_self | (rw [mup_ne (by assumption)]; assumption) | (rw [mup_ne (by assumption)]; exact mup_self) | (rw [mup_ne (by assumption), mup_ne (by assumption)]; assumption)) rfl wim_X7_clear wse_X7_clear ⟨Nat.le_of_ble_eq_true rfl, Nat.le_of_ble_eq_true rfl⟩ rfl rfl (Nat.le_of_ble_eq_true rfl) ⟨Nat.le_of_ble_eq_true rfl, Nat.le_of_ble_eq_true rfl⟩ dX7_multiply__28 (fun h2 hp => ?_)
        obtain ⟨hu2, f0, hf0, hz0⟩ := hp
        refine zi_iconst (v := (nI 0)) X dX7_multiply__31 (by decide) ?_
        refine zi_istore X dX7_multiply__32 (by decide) ?_
        suffices key : ∀ w t (g : mH) (f : Nat → Int64), t + w = 7 → rU cA M g o Sl kp cap n V P → g (M 2 3) = some (mdE (cA 1) f) → (∀ m, m < 14 → (f m).toInt = cvS (Sl i) (Sl j) t m) → zM z 0 0 34 [some (.ref (M 3 0)), some (.int (nI i)), some (.int (nI j)), some (.int (nI k)), some (.int (nI t)), none] [] g from
          zi_sub (by repeat (first | exact trivial | refine And.intro rfl ?_)) (key 7 0 h2 f0 rfl hu2 hf0 (fun m hm => by rw [hz0 m hm]; show (0 : Int64).toInt = 0; decide))
        intro w
        induction w with
        | zero =>
          intro t g f ht hu hf h1'
          obtain rfl : t = 7 := by omega
          have x1 := hu.2.1.1
          have ev : ∀ m, m < 7 → (f m).toInt = mulP (Sl i) (Sl j) m := fun m hm => by
            rw [h1' m (by omega), cvS_lo _ _ hm]
            rfl
          have cm := cm_of ev
          have ok : okM f ↔ mOk (Sl i) (Sl j) ∧ st9 (mulP (Sl i) (Sl j)) := by
            constructor
            · intro q
              refine ⟨?_, fun m hm => by rw [← ev m hm]; exact (q m (by omega)).2⟩
              apply Classical.byContradiction
              intro w
              obtain ⟨m, m7, m14, hm⟩ := cvS_top w
              rw [← h1' m m14, (q m m14).1 m7] at hm
              exact hm (by decide)
            · intro ⟨q1, q2⟩
              refine (okM_of ev (fun m m7 m14 => ?_)).mpr q2
              apply i64_ext
              rw [h1' m m14, cvS_hi q1 m7]
              decide
          refine zi_iload X dX7_multiply__34 rfl ?_
          refine zi_bipush (v := (nI 7)) X dX7_multiply__36 (by decide) ?_
          refine zi_icmp_ge (tgt := 97) X dX7_multiply__38 (by decide) (fun c_38 => ?_) (fun c_38 => (by first | exact absurd (by decide) c_38 | exact absurd c_38 (by decide)))
          refine zi_aload_n X dX7_multiply__97 rfl rfl ?_
          refine zi_iload_n X dX7_multiply__98 rfl rfl ?_
          refine zi_iconst (v := (nI 2)) X dX7_multiply__99 (by decide) ?_
          refine zi_callVi X (u_comes l D hu hf hk) kc_X7_comes wm_X7_225 (by first | assumption | exact mup_self | (rw [mup_ne (by assumption)]; assumption) | (rw [mup_ne (by assumption)]; exact mup_self) | (rw [mup_ne (by assumption), mup_ne (by assumption)]; assumption)) rfl wim_X7_comes wse_X7_comes ⟨Nat.le_of_ble_eq_true rfl, Nat.le_of_ble_eq_true rfl⟩ rfl rfl (Nat.le_of_ble_eq_true rfl) ⟨Nat.le_of_ble_eq_true rfl, Nat.le_of_ble_eq_true rfl⟩ dX7_multiply__100 (fun r h3 hp => ?_)
          refine zi_ireturn X Vz dX7_multiply__103 ?_
          refine Or.inr ⟨i, j, k, hi, rfl, hj, rfl, hk, rfl, ?_⟩
          rcases hp with ⟨q, e1, e2⟩ | ⟨q, e2⟩
          · rw [cm.1] at e1
            rw [cm.2] at e2
            exact Or.inl ⟨ok.mp q, e1, uT_of e2⟩
          · exact Or.inr ⟨fun w => q (ok.mpr w), uT_of e2⟩
        | succ w ih =>
          intro t g f ht hu hf h1'
          have t7 : t < 7 := by omega
          refine zi_iload X dX7_multiply__34 rfl ?_
          refine zi_bipush (v := (nI 7)) X dX7_multiply__36 (by decide) ?_
          refine zi_icmp_ge (tgt := 97) X dX7_multiply__38 (by decide) (fun c_38 => (by first | exact absurd (c7 t7) c_38 | exact absurd c_38 (c7 t7))) (fun c_38 => ?_)
          refine zi_iconst (v := (nI 0)) X dX7_multiply__41 (by decide) ?_
          refine zi_istore X dX7_multiply__42 (by decide) ?_
          suffices inner : ∀ u s (g : mH) (f : Nat → Int64), s + u = 7 → rU cA M g o Sl kp cap n V P → g (M 2 3) = some (mdE (cA 1) f) → (∀ m, m < 14 → (f m).toInt = cvS (Sl i) (Sl j) t m + rowS (Sl i) (Sl j) t s m) → zM z 0 0 44 [some (.ref (M 3 0)), some (.int (nI i)), some (.int (nI j)), some (.int (nI k)), some (.int (nI t)), some (.int (nI s))] [] g from
            zi_sub (by repeat (first | exact trivial | refine And.intro rfl ?_)) (inner 7 0 g f rfl hu hf (fun m hm => by
              rw [h1' m hm]
              unfold rowS
              rw [if_neg (by omega), Int.add_zero]))
          intro u
          induction u with
          | zero =>
            intro s g f hs hu hf h1'
            obtain rfl : s = 7 := by omega
            refine zi_iload X dX7_multiply__44 rfl ?_
            refine zi_bipush (v := (nI 7)) X dX7_multiply__46 (by decide) ?_
            refine zi_icmp_ge (tgt := 91) X dX7_multiply__48 (by decide) (fun c_48 => ?_) (fun c_48 => (by first | exact absurd (by decide) c_48 | exact absurd c_48 (by decide)))
            refine zi_iinc (v := nI (t + 1)) X dX7_multiply__91 rfl (nI_inc _) (by decide) ?_
            refine zi_goto (tgt := 34) X dX7_multiply__94 (by decide) ?_
            exact zi_sub (by repeat (first | exact trivial | refine And.intro rfl ?_)) (ih (t + 1) g f (by omega) hu hf h1')
          | succ u ihu =>
            intro s g f hs hu hf h1'
            have s7 : s < 7 := by omega
            have x1 := hu.2.1.1
            have x2 := hu.2.1.2.1
            have y3 := hu.2.1.2.2.1 i hi
            have y4 := hu.2.1.2.2.1 j hj
            have b1 := bs t t7
            have b2 := bt s s7
            have c1 := cvS_bd bs bt (t + s) t (by omega)
            have c2 := rowS_bd bs bt (i := t) (k := s) (m := t + s) t7 (by omega)
            have c3 : (Sl i t * Sl j s).natAbs ≤ 99980001 := by rw [Int.natAbs_mul]; exact Nat.mul_le_mul b1 b2
            have c4 := Int.natAbs_add_le (cvS (Sl i) (Sl j) t (t + s)) (rowS (Sl i) (Sl j) t s (t + s))
            have ee : (f (t + s) + (iI (Sl i t)).toInt64 * (iI (Sl j s)).toInt64).toInt = cvS (Sl i) (Sl j) t (t + s) + rowS (Sl i) (Sl j) t (s + 1) (t + s) := by
              rw [l_add (h1' _ (by omega)) (l_mul (iI_l (by omega)) (iI_l (by omega)) (by omega) (by omega)) (by omega) (by omega)]
              unfold rowS
              rw [if_neg (by omega), if_pos (by omega), show t + s - t = s by omega]
              omega
            refine zi_iload X dX7_multiply__44 rfl ?_
            refine zi_bipush (v := (nI 7)) X dX7_multiply__46 (by decide) ?_
            refine zi_icmp_ge (tgt := 91) X dX7_multiply__48 (by decide) (fun c_48 => (by first | exact absurd (c7 s7) c_48 | exact absurd c_48 (c7 s7))) (fun c_48 => ?_)
            refine zi_aload_n X dX7_multiply__51 rfl rfl ?_
            refine zi_getf (C := RX7) (T := TX7) (N := 27) (ci := 11) X (by first | assumption | exact mup_self | (rw [mup_ne (by assumption)]; assumption) | (rw [mup_ne (by assumption)]; exact mup_self) | (rw [mup_ne (by assumption), mup_ne (by assumption)]; assumption)) rfl in_X7 16 (by decide) wf_X7_59 rfl rfl dX7_multiply__52 ?_
            refine zi_iload X dX7_multiply__55 rfl ?_
            refine zi_iload X dX7_multiply__57 rfl ?_
            refine zi_iadd X dX7_multiply__59 ?_
            refine zi_dup2 X dX7_multiply__60 rfl rfl ?_
            refine zi_lald X 1 (by first | assumption | exact mup_self | (rw [mup_ne (by assumption)]; assumption) | (rw [mup_ne (by assumption)]; exact mup_self) | (rw [mup_ne (by assumption), mup_ne (by assumption)]; assumption)) rfl (by rw [nI_add]; exact vin (show t + s < 14 by omega) (by decide)) dX7_multiply__61 ?_
            refine zi_aload_n X dX7_multiply__62 rfl rfl ?_
            refine zi_getf (C := RX7) (T := TX7) (N := 27) (ci := 11) X (by first | assumption | exact mup_self | (rw [mup_ne (by assumption)]; assumption) | (rw [mup_ne (by assumption)]; exact mup_self) | (rw [mup_ne (by assumption), mup_ne (by assumption)]; assumption)) rfl in_X7 1 (by decide) wf_X7_11 rfl rfl dX7_multiply__63 ?_
            refine zi_iload_n X dX7_multiply__66 rfl rfl ?_
            refine zi_aaldA X 4 (by first | assumption | exact mup_self | (rw [mup_ne (by assumption)]; assumption) | (rw [mup_ne (by assumption)]; exact mup_self) | (rw [mup_ne (by assumption), mup_ne (by assumption)]; assumption)) rfl (vin hi (by decide)) (sl4_at hi) dX7_multiply__67 ?_
            refine zi_iload X dX7_multiply__68 rfl ?_
            refine zi_iald X 0 (by first | assumption | exact mup_self | (rw [mup_ne (by assumption)]; assumption) | (rw [mup_ne (by assumption)]; exact mup_self) | (rw [mup_ne (by assumption), mup_ne (by assumption)]; assumption)) rfl (vin t7 (by decide)) dX7_multiply__70 ?_
            refine zi_i2l X dX7_multiply__71 ?_
            refine zi_aload_n X dX7_multiply__72 rfl rfl ?_
            refine zi_getf (C := RX7) (T := TX7) (N := 27) (ci := 11) X (by first | assumption | exact mup_self | (rw [mup_ne (by assumption)]; assumption) | (rw [mup_ne (by assumption)]; exact mup_self) | (rw [mup_ne (by assumption), mup_ne (by assumption)]; assumption)) rfl in_X7 1 (by decide) wf_X7_11 rfl rfl dX7_multiply__73 ?_
            refine zi_iload_n X dX7_multiply__76 rfl rfl ?_
            refine zi_aaldA X 4 (by first | assumption | exact mup_self | (rw [mup_ne (by assumption)]; assumption) | (rw [mup_ne (by assumption)]; exact mup_self) | (rw [mup_ne (by assumption), mup_ne (by assumption)]; assumption)) rfl (vin hj (by decide)) (sl4_at hj) dX7_multiply__77 ?_
            refine zi_iload X dX7_multiply__78 rfl ?_
            refine zi_iald X 0 (by first | assumption | exact mup_self | (rw [mup_ne (by assumption)]; assumption) | (rw [mup_ne (by assumption)]; exact mup_self) | (rw [mup_ne (by assumption), mup_ne (by assumption)]; assumption)) rfl (vin s7 (by decide)) dX7_multiply__80 ?_
            refine zi_i2l X dX7_multiply__81 ?_
            refine zi_lmul X dX7_multiply__82 ?_
            refine zi_ladd X dX7_multiply__83 ?_
            refine zi_last X 1 (by first | assumption | exact mup_self | (rw [mup_ne (by assumption)]; assumption) | (rw [mup_ne (by assumption)]; exact mup_self) | (rw [mup_ne (by assumption), mup_ne (by assumption)]; assumption)) rfl (by rw [nI_add]; exact vin (show t + s < 14 by omega) (by decide)) dX7_multiply__84 ?_
            rw [slot_rd t7, slot_rd s7, nI_add, nI_cl (show t + s < 2147483648 by omega)]
            refine zi_iinc (v := nI (s + 1)) X dX7_multiply__85 rfl (nI_inc _) (by decide) ?_
            refine zi_goto (tgt := 44) X dX7_multiply__88 (by decide) ?_
            refine zi_sub (by repeat (first | exact trivial | refine And.intro rfl ?_)) (ihu (s + 1) _ _ (by omega) (rU_m hu _) mup_self (fun m hm => ?_))
            rw [vU_at]
            by_cases c : m = t + s
            · rw [if_pos c, ee, c]
            · rw [if_neg c, h1' m hm]
              congr 1
              unfold rowS
              by_cases q : t ≤ m ∧ m < t + s
              · rw [if_pos q, if_pos (by omega)]
              · rw [if_neg q, if_neg (by omega)]
      · refine zi_if_ne (tgt := 27) X dX7_multiply__18 (by decide) (fun c_18 => (by first | exact absurd (by decide) c_18 | exact absurd c_18 (by decide))) (fun c_18 => ?_)
        exact zi_sub (by repeat (first | exact trivial | refine And.intro rfl ?_)) (f1 (Or.inr (Or.inr q3)))
    · refine zi_if_eq (tgt := 21) X dX7_multiply__11 (by decide) (fun c_11 => ?_) (fun c_11 => (by first | exact absurd (by decide) c_11 | exact absurd c_11 (by decide)))
      exact zi_sub (by repeat (first | exact trivial | refine And.intro rfl ?_)) (f1 (Or.inr (Or.inl q2)))
  · refine zi_if_eq (tgt := 21) X dX7_multiply__4 (by decide) (fun c_4 => ?_) (fun c_4 => (by first | exact absurd (by decide) c_4 | exact absurd c_4 (by decide)))
    exact zi_sub (by repeat (first | exact trivial | refine And.intro rfl ?_)) (f1 (Or.inl q1))
theorem u_shift (l : Launch) (D : va_G) (hu : rU cA M h o Sl kp cap n V P) (hb : slB Sl) {a y b : Int32} :
    mCi l yX7_shift cX7_shift 6 .int (rmd 3) D (mT cA) [.ref (M 3 0), .int a, .int y, .int b] h (fun r h1 => (¬ inR a 5 ∨ ¬ inR b 5) ∧ uT cA M o kp cap n V P 1 Sl h1 ∨ inR a 5 ∧ inR b 5 ∧ ¬ (-9 ≤ y.toInt ∧ y.toInt ≤ 9) ∧ uT cA M o kp cap n V P 2 Sl h1 ∨ ∃ i k, i < 5 ∧ a = nI i ∧ k < 5 ∧ b = nI k ∧ (-9 ≤ y.toInt ∧ y.toInt ≤ 9) ∧ (st9 (shP (Sl i) y.toInt) ∧ r = iI (sDeg (shP (Sl i) y.toInt)) ∧ uT cA M o kp cap n V P 0 (setS Sl k (tr (shP (Sl i) y.toInt))) h1 ∨ ¬ st9 (shP (Sl i) y.toInt) ∧ uT cA M o kp cap n V P 3 Sl h1)) := by
  have x1 := hu.2.1.1
  have x2 := hu.2.1.2.1
  refine mEnter_i (by decide) (Nat.le_of_ble_eq_true rfl) rfl (fun z X Vz => ?_)
  have f1 : (¬ inR a 5 ∨ ¬ inR b 5) → zM z 0 0 14 [some (.ref (M 3 0)), some (.int a), some (.int y), some (.int b), none, none] [] h := fun q => by
    refine zi_aload_n X dX7_shift_14 rfl rfl ?_
    refine zi_iconst (v := (nI 1)) X dX7_shift_15 (by decide) ?_
    refine zi_callVi X (u_fails l D hu) kc_X7_fails wm_X7_212 (by first | assumption | exact mup_self | (rw [mup_ne (by assumption)]; assumption) | (rw [mup_ne (by assumption)]; exact mup_self) | (rw [mup_ne (by assumption), mup_ne (by assumption)]; assumption)) rfl wim_X7_fails wse_X7_fails ⟨Nat.le_of_ble_eq_true rfl, Nat.le_of_ble_eq_true rfl⟩ rfl rfl (Nat.le_of_ble_eq_true rfl) ⟨Nat.le_of_ble_eq_true rfl, Nat.le_of_ble_eq_true rfl⟩ dX7_shift_16 (fun r h1 hp => ?_)
    refine zi_ireturn X Vz dX7_shift_19 ?_
    exact Or.inl ⟨q, uT_of hp.2⟩
  refine zi_iload_n X dX7_shift_0 rfl rfl ?_
  refine zi_callSi X (s_isSlot l D) kc_X7_isSlot wm_X7_228 wst_X7_isSlot ⟨Nat.le_of_ble_eq_true rfl, Nat.le_of_ble_eq_true rfl⟩ rfl rfl (Nat.le_of_ble_eq_true rfl) ⟨Nat.le_of_ble_eq_true rfl, Nat.le_of_ble_eq_true rfl⟩ dX7_shift_1 (fun r h1 hp => ?_)
  obtain ⟨rfl, ⟨q1, rfl⟩ | ⟨q1, rfl⟩⟩ := hp
  · refine zi_if_eq (tgt := 14) X dX7_shift_4 (by decide) (fun c_4 => (by first | exact absurd (by decide) c_4 | exact absurd c_4 (by decide))) (fun c_4 => ?_)
    refine zi_iload_n X dX7_shift_7 rfl rfl ?_
    refine zi_callSi X (s_isSlot l D) kc_X7_isSlot wm_X7_228 wst_X7_isSlot ⟨Nat.le_of_ble_eq_true rfl, Nat.le_of_ble_eq_true rfl⟩ rfl rfl (Nat.le_of_ble_eq_true rfl) ⟨Nat.le_of_ble_eq_true rfl, Nat.le_of_ble_eq_true rfl⟩ dX7_shift_8 (fun r h1 hp => ?_)
    obtain ⟨rfl, ⟨q2, rfl⟩ | ⟨q2, rfl⟩⟩ := hp
    · have e1 : (-9 : Int32).toInt = -9 := by decide
      have e2 : (nI 9).toInt = 9 := by decide
      refine zi_if_ne (tgt := 20) X dX7_shift_11 (by decide) (fun c_11 => ?_) (fun c_11 => (by first | exact absurd (by decide) c_11 | exact absurd c_11 (by decide)))
      refine zi_iload_n X dX7_shift_20 rfl rfl ?_
      refine zi_bipush (v := (-9)) X dX7_shift_21 (by decide) ?_
      refine zi_bipush (v := (nI 9)) X dX7_shift_23 (by decide) ?_
      refine zi_callSi X (s_in l D) kc_X7_in wm_X7_232 wst_X7_in ⟨Nat.le_of_ble_eq_true rfl, Nat.le_of_ble_eq_true rfl⟩ rfl rfl (Nat.le_of_ble_eq_true rfl) ⟨Nat.le_of_ble_eq_true rfl, Nat.le_of_ble_eq_true rfl⟩ dX7_shift_25 (fun r h1 hp => ?_)
      obtain ⟨rfl, hp⟩ := hp
      rw [e1, e2] at hp
      obtain ⟨i, hi, rfl⟩ := q1
      obtain ⟨k, hk, rfl⟩ := q2
      rcases hp with ⟨q3, rfl⟩ | ⟨q3, rfl⟩
      · have bs : ∀ t, t < 7 → (Sl i t).natAbs ≤ 9999 := fun t ht => hb i t hi ht
        have ey : y.toInt64 = lI y.toInt := lI_of (i32_i64 y)
        refine zi_if_ne (tgt := 37) X dX7_shift_28 (by decide) (fun c_28 => ?_) (fun c_28 => (by first | exact absurd (by decide) c_28 | exact absurd c_28 (by decide)))
        refine zi_aload_n X dX7_shift_37 rfl rfl ?_
        refine zi_callVv X (u_clear l D hu) kc_X7_clear wm_X7_220 (by first | assumption | exact mup_self | (rw [mup_ne (by assumption)]; assumption) | (rw [mup_ne (by assumption)]; exact mup_self) | (rw [mup_ne (by assumption), mup_ne (by assumption)]; assumption)) rfl wim_X7_clear wse_X7_clear ⟨Nat.le_of_ble_eq_true rfl, Nat.le_of_ble_eq_true rfl⟩ rfl rfl (Nat.le_of_ble_eq_true rfl) ⟨Nat.le_of_ble_eq_true rfl, Nat.le_of_ble_eq_true rfl⟩ dX7_shift_38 (fun h2 hp => ?_)
        obtain ⟨hu2, f0, hf0, hz0⟩ := hp
        refine zi_bipush (v := (nI 6)) X dX7_shift_41 (by decide) ?_
        refine zi_istore X dX7_shift_43 (by decide) ?_
        suffices key : ∀ w u (g : mH) (f : Nat → Int64), u + w = 7 → rU cA M g o Sl kp cap n V P → g (M 2 3) = some (mdE (cA 1) f) → (∀ m, m < 7 → f m = lI (shR (Sl i) y.toInt u m)) → (∀ m, 7 ≤ m → m < 14 → f m = 0) → zM z 0 0 45 [some (.ref (M 3 0)), some (.int (nI i)), some (.int y), some (.int (nI k)), some (.int (nI w - nI 1)), none] [] g from
          zi_sub (by repeat (first | exact trivial | refine And.intro rfl ?_)) (key 7 0 h2 f0 rfl hu2 hf0 (fun m hm => by rw [hz0 m (by omega)]; rfl) (fun m _ hm => hz0 m hm))
        intro w
        induction w with
        | zero =>
          intro u g f hw hu hf h1' h2'
          obtain rfl : u = 7 := by omega
          have x1 := hu.2.1.1
          have ev : ∀ m, m < 7 → (f m).toInt = shP (Sl i) y.toInt m := fun m hm => by
            rw [h1' m hm, shR_val _ _ m hm]
            refine lI_int ?_
            have := shR_bd bs (y := y.toInt) (by omega) 7 (Nat.le_refl 7) m hm
            rw [shR_val _ _ m hm] at this
            omega
          have cm := cm_of ev
          have ok := okM_of ev h2'
          refine zi_iload X dX7_shift_45 rfl ?_
          refine zi_if_lt (tgt := 116) X dX7_shift_47 (by decide) (fun c_47 => ?_) (fun c_47 => (by first | exact absurd (by decide) c_47 | exact absurd c_47 (by decide)))
          refine zi_aload_n X dX7_shift_116 rfl rfl ?_
          refine zi_iload_n X dX7_shift_117 rfl rfl ?_
          refine zi_iconst (v := (nI 3)) X dX7_shift_118 (by decide) ?_
          refine zi_callVi X (u_comes l D hu hf hk) kc_X7_comes wm_X7_225 (by first | assumption | exact mup_self | (rw [mup_ne (by assumption)]; assumption) | (rw [mup_ne (by assumption)]; exact mup_self) | (rw [mup_ne (by assumption), mup_ne (by assumption)]; assumption)) rfl wim_X7_comes wse_X7_comes ⟨Nat.le_of_ble_eq_true rfl, Nat.le_of_ble_eq_true rfl⟩ rfl rfl (Nat.le_of_ble_eq_true rfl) ⟨Nat.le_of_ble_eq_true rfl, Nat.le_of_ble_eq_true rfl⟩ dX7_shift_119 (fun r h3 hp => ?_)
          refine zi_ireturn X Vz dX7_shift_122 ?_
          refine Or.inr (Or.inr ⟨i, k, hi, rfl, hk, rfl, q3, ?_⟩)
          rcases hp with ⟨q, e1, e2⟩ | ⟨q, e2⟩
          · rw [cm.1] at e1
            rw [cm.2] at e2
            exact Or.inl ⟨ok.mp q, e1, uT_of e2⟩
          · exact Or.inr ⟨fun w => q (ok.mpr w), uT_of e2⟩
        | succ w ih =>
          intro u g f hw hu hf h1' h2'
          have w7 : w < 7 := by omega
          rw [nI_pr]
          refine zi_iload X dX7_shift_45 rfl ?_
          refine zi_if_lt (tgt := 116) X dX7_shift_47 (by decide) (fun c_47 => (by first | exact absurd (nI_pos (by omega)) c_47 | exact absurd c_47 (nI_pos (by omega)))) (fun c_47 => ?_)
          refine zi_bipush (v := (nI 6)) X dX7_shift_50 (by decide) ?_
          refine zi_istore X dX7_shift_52 (by decide) ?_
          suffices inner : ∀ s (g : mH) (f : Nat → Int64), s ≤ 7 → rU cA M g o Sl kp cap n V P → g (M 2 3) = some (mdE (cA 1) f) → (∀ m, m < 7 → f m = if m < s then lI (shR (Sl i) y.toInt u m) else lI (shR (Sl i) y.toInt (u + 1) m)) → (∀ m, 7 ≤ m → m < 14 → f m = 0) → zM z 0 0 54 [some (.ref (M 3 0)), some (.int (nI i)), some (.int y), some (.int (nI k)), some (.int (nI w)), some (.int (nI s - nI 1))] [] g from
            zi_sub (by repeat (first | exact trivial | refine And.intro rfl ?_)) (inner 7 g f (Nat.le_refl 7) hu hf (fun m hm => by rw [if_pos hm]; exact h1' m hm) h2')
          intro s
          induction s with
          | zero =>
            intro g f hs hu hf h1' h2'
            refine zi_iload X dX7_shift_54 rfl ?_
            refine zi_if_lt (tgt := 110) X dX7_shift_56 (by decide) (fun c_56 => ?_) (fun c_56 => (by first | exact absurd (by decide) c_56 | exact absurd c_56 (by decide)))
            refine zi_iinc X dX7_shift_110 rfl rfl (by decide) ?_
            refine zi_goto (tgt := 45) X dX7_shift_113 (by decide) ?_
            rw [nI_dm]
            exact zi_sub (by repeat (first | exact trivial | refine And.intro rfl ?_)) (ih (u + 1) g f (by omega) hu hf (fun m hm => by rw [h1' m hm, if_neg (by omega)]) h2')
          | succ s ihs =>
            intro g f hs hu hf h1' h2'
            have s7 : s < 7 := by omega
            have x1 := hu.2.1.1
            have x2 := hu.2.1.2.1
            have y3 := hu.2.1.2.2.1 i hi
            rw [nI_pr]
            have fs := h1' s s7
            rw [if_pos (by omega)] at fs
            have s102 : ∀ v : Int, shS y.toInt (Sl i (6 - u)) (shR (Sl i) y.toInt u) s = shR (Sl i) y.toInt u s * y.toInt + v → zM z 0 0 102 [some (.ref (M 3 0)), some (.int (nI i)), some (.int y), some (.int (nI k)), some (.int (nI w)), some (.int (nI s))] [.long (lI v), .long (lI (shR (Sl i) y.toInt u s * y.toInt)), .int (nI s), .ref (M 2 3)] g := fun v hv => by
              refine zi_ladd X dX7_shift_102 ?_
              refine zi_last X 1 (by first | assumption | exact mup_self | (rw [mup_ne (by assumption)]; assumption) | (rw [mup_ne (by assumption)]; exact mup_self) | (rw [mup_ne (by assumption), mup_ne (by assumption)]; assumption)) rfl (vin (show s < 14 by omega) (by decide)) dX7_shift_103 ?_
              refine zi_iinc X dX7_shift_104 rfl rfl (by decide) ?_
              refine zi_goto (tgt := 54) X dX7_shift_107 (by decide) ?_
              rw [lI_add, ← hv, nI_dm, nI_cl (show s < 2147483648 by omega)]
              refine zi_sub (by repeat (first | exact trivial | refine And.intro rfl ?_)) (ihs _ _ (by omega) (rU_m hu _) mup_self (fun m hm => ?_) (fun m h1 h2 => ?_))
              · rw [vU_at]
                by_cases c : m = s
                · rw [if_pos c, c, if_neg (by omega)]
                  rfl
                · rw [if_neg c, h1' m hm]
                  by_cases q : m < s
                  · rw [if_pos q, if_pos (by omega)]
                  · rw [if_neg q, if_neg (by omega)]
              · rw [vU_at, if_neg (by omega)]
                exact h2' m h1 h2
            by_cases c0 : s = 0
            · have b1 := bs w w7
              refine zi_iload X dX7_shift_54 rfl ?_
              refine zi_if_lt (tgt := 110) X dX7_shift_56 (by decide) (fun c_56 => (by first | exact absurd (nI_pos (by omega)) c_56 | exact absurd c_56 (nI_pos (by omega)))) (fun c_56 => ?_)
              refine zi_aload_n X dX7_shift_59 rfl rfl ?_
              refine zi_getf (C := RX7) (T := TX7) (N := 27) (ci := 11) X (by first | assumption | exact mup_self | (rw [mup_ne (by assumption)]; assumption) | (rw [mup_ne (by assumption)]; exact mup_self) | (rw [mup_ne (by assumption), mup_ne (by assumption)]; assumption)) rfl in_X7 16 (by decide) wf_X7_59 rfl rfl dX7_shift_60 ?_
              refine zi_iload X dX7_shift_63 rfl ?_
              refine zi_aload_n X dX7_shift_65 rfl rfl ?_
              refine zi_getf (C := RX7) (T := TX7) (N := 27) (ci := 11) X (by first | assumption | exact mup_self | (rw [mup_ne (by assumption)]; assumption) | (rw [mup_ne (by assumption)]; exact mup_self) | (rw [mup_ne (by assumption), mup_ne (by assumption)]; assumption)) rfl in_X7 16 (by decide) wf_X7_59 rfl rfl dX7_shift_66 ?_
              refine zi_iload X dX7_shift_69 rfl ?_
              refine zi_lald X 1 (by first | assumption | exact mup_self | (rw [mup_ne (by assumption)]; assumption) | (rw [mup_ne (by assumption)]; exact mup_self) | (rw [mup_ne (by assumption), mup_ne (by assumption)]; assumption)) rfl (vin (show s < 14 by omega) (by decide)) dX7_shift_71 ?_
              refine zi_iload_n X dX7_shift_72 rfl rfl ?_
              refine zi_i2l X dX7_shift_73 ?_
              refine zi_lmul X dX7_shift_74 ?_
              refine zi_iload X dX7_shift_75 rfl ?_
              refine zi_if_le (tgt := 92) X dX7_shift_77 (by decide) (fun c_77 => ?_) (fun c_77 => (by first | exact absurd (by rw [c0]; decide) c_77 | exact absurd c_77 (by rw [c0]; decide)))
              refine zi_aload_n X dX7_shift_92 rfl rfl ?_
              refine zi_getf (C := RX7) (T := TX7) (N := 27) (ci := 11) X (by first | assumption | exact mup_self | (rw [mup_ne (by assumption)]; assumption) | (rw [mup_ne (by assumption)]; exact mup_self) | (rw [mup_ne (by assumption), mup_ne (by assumption)]; assumption)) rfl in_X7 1 (by decide) wf_X7_11 rfl rfl dX7_shift_93 ?_
              refine zi_iload_n X dX7_shift_96 rfl rfl ?_
              refine zi_aaldA X 4 (by first | assumption | exact mup_self | (rw [mup_ne (by assumption)]; assumption) | (rw [mup_ne (by assumption)]; exact mup_self) | (rw [mup_ne (by assumption), mup_ne (by assumption)]; assumption)) rfl (vin hi (by decide)) (sl4_at hi) dX7_shift_97 ?_
              refine zi_iload X dX7_shift_98 rfl ?_
              refine zi_iald X 0 (by first | assumption | exact mup_self | (rw [mup_ne (by assumption)]; assumption) | (rw [mup_ne (by assumption)]; exact mup_self) | (rw [mup_ne (by assumption), mup_ne (by assumption)]; assumption)) rfl (vin w7 (by decide)) dX7_shift_100 ?_
              refine zi_i2l X dX7_shift_101 ?_
              rw [slot_rd w7, nI_cl (show s < 2147483648 by omega), fs, ey, lI_mul, iI_lI (by omega)]
              refine s102 (Sl i w) ?_
              unfold shS
              rw [if_pos c0, c0, show 6 - u = w by omega]
            · obtain ⟨s1, rfl⟩ : ∃ s1, s = s1 + 1 := ⟨s - 1, by omega⟩
              have fs1 := h1' s1 (by omega)
              rw [if_pos (by omega)] at fs1
              refine zi_iload X dX7_shift_54 rfl ?_
              refine zi_if_lt (tgt := 110) X dX7_shift_56 (by decide) (fun c_56 => (by first | exact absurd (nI_pos (by omega)) c_56 | exact absurd c_56 (nI_pos (by omega)))) (fun c_56 => ?_)
              refine zi_aload_n X dX7_shift_59 rfl rfl ?_
              refine zi_getf (C := RX7) (T := TX7) (N := 27) (ci := 11) X (by first | assumption | exact mup_self | (rw [mup_ne (by assumption)]; assumption) | (rw [mup_ne (by assumption)]; exact mup_self) | (rw [mup_ne (by assumption), mup_ne (by assumption)]; assumption)) rfl in_X7 16 (by decide) wf_X7_59 rfl rfl dX7_shift_60 ?_
              refine zi_iload X dX7_shift_63 rfl ?_
              refine zi_aload_n X dX7_shift_65 rfl rfl ?_
              refine zi_getf (C := RX7) (T := TX7) (N := 27) (ci := 11) X (by first | assumption | exact mup_self | (rw [mup_ne (by assumption)]; assumption) | (rw [mup_ne (by assumption)]; exact mup_self) | (rw [mup_ne (by assumption), mup_ne (by assumption)]; assumption)) rfl in_X7 16 (by decide) wf_X7_59 rfl rfl dX7_shift_66 ?_
              refine zi_iload X dX7_shift_69 rfl ?_
              refine zi_lald X 1 (by first | assumption | exact mup_self | (rw [mup_ne (by assumption)]; assumption) | (rw [mup_ne (by assumption)]; exact mup_self) | (rw [mup_ne (by assumption), mup_ne (by assumption)]; assumption)) rfl (vin (show s1 + 1 < 14 by omega) (by decide)) dX7_shift_71 ?_
              refine zi_iload_n X dX7_shift_72 rfl rfl ?_
              refine zi_i2l X dX7_shift_73 ?_
              refine zi_lmul X dX7_shift_74 ?_
              refine zi_iload X dX7_shift_75 rfl ?_
              refine zi_if_le (tgt := 92) X dX7_shift_77 (by decide) (fun c_77 => (by first | exact absurd (nI_nle (by omega) (by omega)) c_77 | exact absurd c_77 (nI_nle (by omega) (by omega)))) (fun c_77 => ?_)
              refine zi_aload_n X dX7_shift_80 rfl rfl ?_
              refine zi_getf (C := RX7) (T := TX7) (N := 27) (ci := 11) X (by first | assumption | exact mup_self | (rw [mup_ne (by assumption)]; assumption) | (rw [mup_ne (by assumption)]; exact mup_self) | (rw [mup_ne (by assumption), mup_ne (by assumption)]; assumption)) rfl in_X7 16 (by decide) wf_X7_59 rfl rfl dX7_shift_81 ?_
              refine zi_iload X dX7_shift_84 rfl ?_
              refine zi_iconst (v := (nI 1)) X dX7_shift_86 (by decide) ?_
              refine zi_isub X dX7_shift_87 ?_
              refine zi_lald X 1 (by first | assumption | exact mup_self | (rw [mup_ne (by assumption)]; assumption) | (rw [mup_ne (by assumption)]; exact mup_self) | (rw [mup_ne (by assumption), mup_ne (by assumption)]; assumption)) rfl (by rw [nI_pr]; exact vin (show s1 < 14 by omega) (by decide)) dX7_shift_88 ?_
              refine zi_goto (tgt := 102) X dX7_shift_89 (by decide) ?_
              rw [nI_pr, nI_cl (show s1 + 1 < 2147483648 by omega), nI_cl (show s1 < 2147483648 by omega), fs, fs1, ey, lI_mul]
              refine s102 (shR (Sl i) y.toInt u s1) ?_
              unfold shS
              rw [if_neg (by omega), if_pos s7]
              rfl
      · refine zi_if_ne (tgt := 37) X dX7_shift_28 (by decide) (fun c_28 => (by first | exact absurd (by decide) c_28 | exact absurd c_28 (by decide))) (fun c_28 => ?_)
        refine zi_aload_n X dX7_shift_31 rfl rfl ?_
        refine zi_iconst (v := (nI 2)) X dX7_shift_32 (by decide) ?_
        refine zi_callVi X (u_fails l D hu) kc_X7_fails wm_X7_212 (by first | assumption | exact mup_self | (rw [mup_ne (by assumption)]; assumption) | (rw [mup_ne (by assumption)]; exact mup_self) | (rw [mup_ne (by assumption), mup_ne (by assumption)]; assumption)) rfl wim_X7_fails wse_X7_fails ⟨Nat.le_of_ble_eq_true rfl, Nat.le_of_ble_eq_true rfl⟩ rfl rfl (Nat.le_of_ble_eq_true rfl) ⟨Nat.le_of_ble_eq_true rfl, Nat.le_of_ble_eq_true rfl⟩ dX7_shift_33 (fun r h2 hp => ?_)
        refine zi_ireturn X Vz dX7_shift_36 ?_
        exact Or.inr (Or.inl ⟨⟨i, hi, rfl⟩, ⟨k, hk, rfl⟩, q3, uT_of hp.2⟩)
    · refine zi_if_ne (tgt := 20) X dX7_shift_11 (by decide) (fun c_11 => (by first | exact absurd (by decide) c_11 | exact absurd c_11 (by decide))) (fun c_11 => ?_)
      exact zi_sub (by repeat (first | exact trivial | refine And.intro rfl ?_)) (f1 (Or.inr q2))
  · refine zi_if_eq (tgt := 14) X dX7_shift_4 (by decide) (fun c_4 => ?_) (fun c_4 => (by first | exact absurd (by decide) c_4 | exact absurd c_4 (by decide)))
    exact zi_sub (by repeat (first | exact trivial | refine And.intro rfl ?_)) (f1 (Or.inl q1))
theorem u_scale (l : Launch) (D : va_G) (hu : rU cA M h o Sl kp cap n V P) (hb : slB Sl) {a f b : Int32} :
    mCi l yX7_scale cX7_scale 7 .int (rmd 3) D (mT cA) [.ref (M 3 0), .int a, .int f, .int b] h (fun r h1 => (¬ inR a 5 ∨ ¬ inR b 5) ∧ uT cA M o kp cap n V P 1 Sl h1 ∨ inR a 5 ∧ inR b 5 ∧ ¬ (2 ≤ f.toInt ∧ f.toInt ≤ 9) ∧ uT cA M o kp cap n V P 2 Sl h1 ∨ ∃ i k, i < 5 ∧ a = nI i ∧ k < 5 ∧ b = nI k ∧ (2 ≤ f.toInt ∧ f.toInt ≤ 9) ∧ (st9 (scP (Sl i) f.toInt) ∧ r = iI (sDeg (scP (Sl i) f.toInt)) ∧ uT cA M o kp cap n V P 0 (setS Sl k (tr (scP (Sl i) f.toInt))) h1 ∨ ¬ st9 (scP (Sl i) f.toInt) ∧ uT cA M o kp cap n V P 3 Sl h1)) := by
  have x1 := hu.2.1.1
  have x2 := hu.2.1.2.1
  refine mEnter_i (by decide) (Nat.le_of_ble_eq_true rfl) rfl (fun z X Vz => ?_)
  have f1 : (¬ inR a 5 ∨ ¬ inR b 5) → zM z 0 0 14 [some (.ref (M 3 0)), some (.int a), some (.int f), some (.int b), none, none, none] [] h := fun q => by
    refine zi_aload_n X dX7_scale_14 rfl rfl ?_
    refine zi_iconst (v := (nI 1)) X dX7_scale_15 (by decide) ?_
    refine zi_callVi X (u_fails l D hu) kc_X7_fails wm_X7_212 (by first | assumption | exact mup_self | (rw [mup_ne (by assumption)]; assumption) | (rw [mup_ne (by assumption)]; exact mup_self) | (rw [mup_ne (by assumption), mup_ne (by assumption)]; assumption)) rfl wim_X7_fails wse_X7_fails ⟨Nat.le_of_ble_eq_true rfl, Nat.le_of_ble_eq_true rfl⟩ rfl rfl (Nat.le_of_ble_eq_true rfl) ⟨Nat.le_of_ble_eq_true rfl, Nat.le_of_ble_eq_true rfl⟩ dX7_scale_16 (fun r h1 hp => ?_)
    refine zi_ireturn X Vz dX7_scale_19 ?_
    exact Or.inl ⟨q, uT_of hp.2⟩
  refine zi_iload_n X dX7_scale_0 rfl rfl ?_
  refine zi_callSi X (s_isSlot l D) kc_X7_isSlot wm_X7_228 wst_X7_isSlot ⟨Nat.le_of_ble_eq_true rfl, Nat.le_of_ble_eq_true rfl⟩ rfl rfl (Nat.le_of_ble_eq_true rfl) ⟨Nat.le_of_ble_eq_true rfl, Nat.le_of_ble_eq_true rfl⟩ dX7_scale_1 (fun r h1 hp => ?_)
  obtain ⟨rfl, ⟨q1, rfl⟩ | ⟨q1, rfl⟩⟩ := hp
  · refine zi_if_eq (tgt := 14) X dX7_scale_4 (by decide) (fun c_4 => (by first | exact absurd (by decide) c_4 | exact absurd c_4 (by decide))) (fun c_4 => ?_)
    refine zi_iload_n X dX7_scale_7 rfl rfl ?_
    refine zi_callSi X (s_isSlot l D) kc_X7_isSlot wm_X7_228 wst_X7_isSlot ⟨Nat.le_of_ble_eq_true rfl, Nat.le_of_ble_eq_true rfl⟩ rfl rfl (Nat.le_of_ble_eq_true rfl) ⟨Nat.le_of_ble_eq_true rfl, Nat.le_of_ble_eq_true rfl⟩ dX7_scale_8 (fun r h1 hp => ?_)
    obtain ⟨rfl, ⟨q2, rfl⟩ | ⟨q2, rfl⟩⟩ := hp
    · have e1 : (nI 2).toInt = 2 := by decide
      have e2 : (nI 9).toInt = 9 := by decide
      refine zi_if_ne (tgt := 20) X dX7_scale_11 (by decide) (fun c_11 => ?_) (fun c_11 => (by first | exact absurd (by decide) c_11 | exact absurd c_11 (by decide)))
      refine zi_iload_n X dX7_scale_20 rfl rfl ?_
      refine zi_iconst (v := (nI 2)) X dX7_scale_21 (by decide) ?_
      refine zi_bipush (v := (nI 9)) X dX7_scale_22 (by decide) ?_
      refine zi_callSi X (s_in l D) kc_X7_in wm_X7_232 wst_X7_in ⟨Nat.le_of_ble_eq_true rfl, Nat.le_of_ble_eq_true rfl⟩ rfl rfl (Nat.le_of_ble_eq_true rfl) ⟨Nat.le_of_ble_eq_true rfl, Nat.le_of_ble_eq_true rfl⟩ dX7_scale_24 (fun r h1 hp => ?_)
      obtain ⟨rfl, hp⟩ := hp
      rw [e1, e2] at hp
      obtain ⟨i, hi, rfl⟩ := q1
      obtain ⟨k, hk, rfl⟩ := q2
      rcases hp with ⟨q3, rfl⟩ | ⟨q3, rfl⟩
      · have bs : ∀ t, t < 7 → (Sl i t).natAbs ≤ 9999 := fun t ht => hb i t hi ht
        have ey : f.toInt64 = lI f.toInt := lI_of (i32_i64 f)
        refine zi_if_ne (tgt := 36) X dX7_scale_27 (by decide) (fun c_27 => ?_) (fun c_27 => (by first | exact absurd (by decide) c_27 | exact absurd c_27 (by decide)))
        refine zi_aload_n X dX7_scale_36 rfl rfl ?_
        refine zi_callVv X (u_clear l D hu) kc_X7_clear wm_X7_220 (by first | assumption | exact mup_self | (rw [mup_ne (by assumption)]; assumption) | (rw [mup_ne (by assumption)]; exact mup_self) | (rw [mup_ne (by assumption), mup_ne (by assumption)]; assumption)) rfl wim_X7_clear wse_X7_clear ⟨Nat.le_of_ble_eq_true rfl, Nat.le_of_ble_eq_true rfl⟩ rfl rfl (Nat.le_of_ble_eq_true rfl) ⟨Nat.le_of_ble_eq_true rfl, Nat.le_of_ble_eq_true rfl⟩ dX7_scale_37 (fun h2 hp => ?_)
        obtain ⟨hu2, f0, hf0, hz0⟩ := hp
        have y1 := hu2.2.1.1
        have y2 := hu2.2.1.2.1
        have y3 := hu2.2.1.2.2.1 i hi
        refine zi_lconst (v := lN 1) X dX7_scale_40 (by decide) ?_
        refine zi_lstore X dX7_scale_41 (by decide) ?_
        refine zi_aload_n X dX7_scale_43 rfl rfl ?_
        refine zi_getf (C := RX7) (T := TX7) (N := 27) (ci := 11) X (by first | assumption | exact mup_self | (rw [mup_ne (by assumption)]; assumption) | (rw [mup_ne (by assumption)]; exact mup_self) | (rw [mup_ne (by assumption), mup_ne (by assumption)]; assumption)) rfl in_X7 1 (by decide) wf_X7_11 rfl rfl dX7_scale_44 ?_
        refine zi_iload_n X dX7_scale_47 rfl rfl ?_
        refine zi_aaldA X 4 (by first | assumption | exact mup_self | (rw [mup_ne (by assumption)]; assumption) | (rw [mup_ne (by assumption)]; exact mup_self) | (rw [mup_ne (by assumption), mup_ne (by assumption)]; assumption)) rfl (vin hi (by decide)) (sl4_at hi) dX7_scale_48 ?_
        refine zi_callSi X (s_degree l D y3 bs) kc_X7_degree_ wm_X7_215 wst_X7_degree_ ⟨Nat.le_of_ble_eq_true rfl, Nat.le_of_ble_eq_true rfl⟩ rfl rfl (Nat.le_of_ble_eq_true rfl) ⟨Nat.le_of_ble_eq_true rfl, Nat.le_of_ble_eq_true rfl⟩ dX7_scale_49 (fun r h3 hp => ?_)
        obtain ⟨rfl, rfl⟩ := hp
        rw [sDeg_I, show lN 1 = lI (f.toInt ^ 0) by rw [Int.pow_zero]; rfl]
        have lG := stI_le (Sl i) 7
        refine zi_istore X dX7_scale_52 (by decide) ?_
        suffices key : ∀ w u (g : mH) (fm : Nat → Int64), u + w = stI (Sl i) 7 → rU cA M g o Sl kp cap n V P → g (M 2 3) = some (mdE (cA 1) fm) → (∀ m, m < 14 → fm m = if w ≤ m ∧ m < stI (Sl i) 7 then lI (Sl i m * f.toInt ^ (stI (Sl i) 7 - 1 - m)) else 0) → zM z 0 0 54 [some (.ref (M 3 0)), some (.int (nI i)), some (.int f), some (.int (nI k)), some (.long (lI (f.toInt ^ u))), none, some (.int (nI w - nI 1))] [] g from
          zi_sub (by repeat (first | exact trivial | refine And.intro rfl ?_)) (key (stI (Sl i) 7) 0 h3 f0 (by omega) hu2 hf0 (fun m hm => by rw [hz0 m hm, if_neg (by omega)]))
        intro w
        induction w with
        | zero =>
          intro u g fm hw hu hf h1'
          have x1 := hu.2.1.1
          have ev : ∀ m, m < 7 → (fm m).toInt = scP (Sl i) f.toInt m := fun m hm => by
            rw [h1' m (by omega)]
            unfold scP
            by_cases c : m < stI (Sl i) 7
            · rw [if_pos ⟨Nat.zero_le m, c⟩, if_pos c]
              refine lI_int ?_
              rw [Int.natAbs_mul, Int.natAbs_pow]
              have p1 : f.toInt.natAbs ^ (stI (Sl i) 7 - 1 - m) ≤ 9 ^ 6 := Nat.le_trans (Nat.pow_le_pow_left (by omega) _) (Nat.pow_le_pow_right (by decide) (by omega))
              have := Nat.mul_le_mul (bs m hm) p1
              omega
            · rw [if_neg (fun q => c q.2), if_neg c, stI_z (p := Sl i) (n := 7) (by omega) hm]
              decide
          have ok := okM_of ev (fun m m7 m14 => by rw [h1' m m14, if_neg (by omega)])
          have cm := cm_of ev
          refine zi_iload X dX7_scale_54 rfl ?_
          refine zi_if_lt (tgt := 92) X dX7_scale_56 (by decide) (fun c_56 => ?_) (fun c_56 => (by first | exact absurd (by decide) c_56 | exact absurd c_56 (by decide)))
          refine zi_aload_n X dX7_scale_92 rfl rfl ?_
          refine zi_iload_n X dX7_scale_93 rfl rfl ?_
          refine zi_iconst (v := (nI 3)) X dX7_scale_94 (by decide) ?_
          refine zi_callVi X (u_comes l D hu hf hk) kc_X7_comes wm_X7_225 (by first | assumption | exact mup_self | (rw [mup_ne (by assumption)]; assumption) | (rw [mup_ne (by assumption)]; exact mup_self) | (rw [mup_ne (by assumption), mup_ne (by assumption)]; assumption)) rfl wim_X7_comes wse_X7_comes ⟨Nat.le_of_ble_eq_true rfl, Nat.le_of_ble_eq_true rfl⟩ rfl rfl (Nat.le_of_ble_eq_true rfl) ⟨Nat.le_of_ble_eq_true rfl, Nat.le_of_ble_eq_true rfl⟩ dX7_scale_95 (fun r h3 hp => ?_)
          refine zi_ireturn X Vz dX7_scale_98 ?_
          refine Or.inr (Or.inr ⟨i, k, hi, rfl, hk, rfl, q3, ?_⟩)
          rcases hp with ⟨q, e1, e2⟩ | ⟨q, e2⟩
          · rw [cm.1] at e1
            rw [cm.2] at e2
            exact Or.inl ⟨ok.mp q, e1, uT_of e2⟩
          · exact Or.inr ⟨fun w => q (ok.mpr w), uT_of e2⟩
        | succ w ih =>
          intro u g fm hw hu hf h1'
          have w7 : w < 7 := by omega
          have x1 := hu.2.1.1
          have x2 := hu.2.1.2.1
          have y3 := hu.2.1.2.2.1 i hi
          have b1 := bs w w7
          rw [nI_pr]
          refine zi_iload X dX7_scale_54 rfl ?_
          refine zi_if_lt (tgt := 92) X dX7_scale_56 (by decide) (fun c_56 => (by first | exact absurd (nI_pos (by omega)) c_56 | exact absurd c_56 (nI_pos (by omega)))) (fun c_56 => ?_)
          refine zi_aload_n X dX7_scale_59 rfl rfl ?_
          refine zi_getf (C := RX7) (T := TX7) (N := 27) (ci := 11) X (by first | assumption | exact mup_self | (rw [mup_ne (by assumption)]; assumption) | (rw [mup_ne (by assumption)]; exact mup_self) | (rw [mup_ne (by assumption), mup_ne (by assumption)]; assumption)) rfl in_X7 16 (by decide) wf_X7_59 rfl rfl dX7_scale_60 ?_
          refine zi_iload X dX7_scale_63 rfl ?_
          refine zi_aload_n X dX7_scale_65 rfl rfl ?_
          refine zi_getf (C := RX7) (T := TX7) (N := 27) (ci := 11) X (by first | assumption | exact mup_self | (rw [mup_ne (by assumption)]; assumption) | (rw [mup_ne (by assumption)]; exact mup_self) | (rw [mup_ne (by assumption), mup_ne (by assumption)]; assumption)) rfl in_X7 1 (by decide) wf_X7_11 rfl rfl dX7_scale_66 ?_
          refine zi_iload_n X dX7_scale_69 rfl rfl ?_
          refine zi_aaldA X 4 (by first | assumption | exact mup_self | (rw [mup_ne (by assumption)]; assumption) | (rw [mup_ne (by assumption)]; exact mup_self) | (rw [mup_ne (by assumption), mup_ne (by assumption)]; assumption)) rfl (vin hi (by decide)) (sl4_at hi) dX7_scale_70 ?_
          refine zi_iload X dX7_scale_71 rfl ?_
          refine zi_iald X 0 (by first | assumption | exact mup_self | (rw [mup_ne (by assumption)]; assumption) | (rw [mup_ne (by assumption)]; exact mup_self) | (rw [mup_ne (by assumption), mup_ne (by assumption)]; assumption)) rfl (vin w7 (by decide)) dX7_scale_73 ?_
          refine zi_i2l X dX7_scale_74 ?_
          refine zi_lload X dX7_scale_75 rfl ?_
          refine zi_lmul X dX7_scale_77 ?_
          refine zi_last X 1 (by first | assumption | exact mup_self | (rw [mup_ne (by assumption)]; assumption) | (rw [mup_ne (by assumption)]; exact mup_self) | (rw [mup_ne (by assumption), mup_ne (by assumption)]; assumption)) rfl (vin (show w < 14 by omega) (by decide)) dX7_scale_78 ?_
          refine zi_lload X dX7_scale_79 rfl ?_
          refine zi_iload_n X dX7_scale_81 rfl rfl ?_
          refine zi_i2l X dX7_scale_82 ?_
          refine zi_lmul X dX7_scale_83 ?_
          refine zi_lstore X dX7_scale_84 (by decide) ?_
          refine zi_iinc X dX7_scale_86 rfl rfl (by decide) ?_
          refine zi_goto (tgt := 54) X dX7_scale_89 (by decide) ?_
          rw [slot_rd w7, iI_lI (by omega), ey, lI_mul, lI_mul, nI_dm, nI_cl (show w < 2147483648 by omega)]
          rw [← Int.pow_succ]
          refine zi_sub (by repeat (first | exact trivial | refine And.intro rfl ?_)) (ih (u + 1) _ _ (by omega) (rU_m hu _) mup_self (fun m hm => ?_))
          rw [vU_at]
          by_cases c : m = w
          · rw [if_pos c, c, if_pos (by omega), show stI (Sl i) 7 - 1 - w = u by omega]
          · rw [if_neg c, h1' m hm]
            by_cases q : w + 1 ≤ m ∧ m < stI (Sl i) 7
            · rw [if_pos q, if_pos (by omega)]
            · rw [if_neg q, if_neg (by omega)]
      · refine zi_if_ne (tgt := 36) X dX7_scale_27 (by decide) (fun c_27 => (by first | exact absurd (by decide) c_27 | exact absurd c_27 (by decide))) (fun c_27 => ?_)
        refine zi_aload_n X dX7_scale_30 rfl rfl ?_
        refine zi_iconst (v := (nI 2)) X dX7_scale_31 (by decide) ?_
        refine zi_callVi X (u_fails l D hu) kc_X7_fails wm_X7_212 (by first | assumption | exact mup_self | (rw [mup_ne (by assumption)]; assumption) | (rw [mup_ne (by assumption)]; exact mup_self) | (rw [mup_ne (by assumption), mup_ne (by assumption)]; assumption)) rfl wim_X7_fails wse_X7_fails ⟨Nat.le_of_ble_eq_true rfl, Nat.le_of_ble_eq_true rfl⟩ rfl rfl (Nat.le_of_ble_eq_true rfl) ⟨Nat.le_of_ble_eq_true rfl, Nat.le_of_ble_eq_true rfl⟩ dX7_scale_32 (fun r h2 hp => ?_)
        refine zi_ireturn X Vz dX7_scale_35 ?_
        exact Or.inr (Or.inl ⟨⟨i, hi, rfl⟩, ⟨k, hk, rfl⟩, q3, uT_of hp.2⟩)
    · refine zi_if_ne (tgt := 20) X dX7_scale_11 (by decide) (fun c_11 => (by first | exact absurd (by decide) c_11 | exact absurd c_11 (by decide))) (fun c_11 => ?_)
      exact zi_sub (by repeat (first | exact trivial | refine And.intro rfl ?_)) (f1 (Or.inr q2))
  · refine zi_if_eq (tgt := 14) X dX7_scale_4 (by decide) (fun c_4 => ?_) (fun c_4 => (by first | exact absurd (by decide) c_4 | exact absurd c_4 (by decide)))
    exact zi_sub (by repeat (first | exact trivial | refine And.intro rfl ?_)) (f1 (Or.inl q1))
end P4
