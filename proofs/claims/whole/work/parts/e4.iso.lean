/-! SturmRootsModel: isolate, intervals, isInterval, rootsIn, interval -/
theorem slotA_k {c : ClassId} {s s' : Nat → Int} (h : ∀ k, k < 7 → s k = s' k) : slotA c s = slotA c s' := by
  unfold slotA
  have : (fun k => if k < 7 then iI (s k) else 0) = fun k => if k < 7 then iI (s' k) else 0 := by
    funext k
    split
    · next hk => rw [h k hk]
    · rfl
  rw [this]
section IS
variable {cA : Nat → ClassId} {M : Nat → Nat → Nat} {h h1 : mH} {o : RO} {Sl : Nat → Nat → Int} {kp : Nat → Int} {cap n : Nat} {V : Nat → Iv} {P : Nat → Nat → Int}
theorem rU_kc (hu : rU cA M h o Sl kp cap n V P) {kp' : Nat → Int} (hk : ∀ k, k < 7 → kp k = kp' k) : rU cA M h o Sl kp' cap n V P := by
  obtain ⟨h0, ⟨x1, x2, x3, x4, x5, x6, x7, x8⟩, hv, hd⟩ := hu
  exact ⟨h0, ⟨x1, x2, x3, by rw [← slotA_k hk]; exact x4, x5, x6, x7, x8⟩, hv, hd⟩
def isV (p : Nat → Int) : Nat → Iv := fun _ => (0, -(rBd p : Int), (rBd p : Int), (ctI (frP p) 0 (-(rBd p : Int)) (rBd p) : Int))
theorem u_isolate (l : Launch) (D : va_G) (hu : rU cA M h o Sl kp cap n V P) (hb : slB Sl) (hz : ∀ i, i < 5 → stI (Sl i) 7 ≠ 0 → frOk (Sl i) ∧ ctOk (frP (Sl i)) 0 (-(rBd (Sl i) : Int)) (rBd (Sl i))) {a : Int32} :
    mCi l yX7_isolate cX7_isolate 3 .int (rmd 9) D (mT cA) [.ref (M 3 0), .int a] h (fun r h1 => ¬ inR a 5 ∧ uT cA M o kp cap n V P 1 Sl h1 ∨ ∃ i, i < 5 ∧ a = nI i ∧ (stI (Sl i) 7 = 0 ∧ uT cA M o kp cap n V P 2 Sl h1 ∨ stI (Sl i) 7 ≠ 0 ∧ r = iI (isV (Sl i) 0).2.2.2 ∧ ∃ P', rU cA M h1 (nI 0, o.2.1, nI 1, o.2.2.2) Sl (Sl i) cap 1 (isV (Sl i)) P' ∧ P' 7 = frP (Sl i))) := by
  have x1 := hu.2.1.1
  refine mEnter_i (by decide) (Nat.le_of_ble_eq_true rfl) rfl (fun z X Vz => ?_)
  refine zi_iload_n X dX7_isolate_0 rfl rfl ?_
  refine zi_callSi X (s_isSlot l D) kc_X7_isSlot wm_X7_228 wst_X7_isSlot ⟨Nat.le_of_ble_eq_true rfl, Nat.le_of_ble_eq_true rfl⟩ rfl rfl (Nat.le_of_ble_eq_true rfl) ⟨Nat.le_of_ble_eq_true rfl, Nat.le_of_ble_eq_true rfl⟩ dX7_isolate_1 (fun r h1 hp => ?_)
  obtain ⟨rfl, ⟨q1, rfl⟩ | ⟨q1, rfl⟩⟩ := hp
  · obtain ⟨i, hi, rfl⟩ := q1
    refine zi_if_ne (tgt := 13) X dX7_isolate_4 (by decide) (fun c_4 => ?_) (fun c_4 => (by first | exact absurd (by decide) c_4 | exact absurd c_4 (by decide)))
    refine zi_aload_n X dX7_isolate_13 rfl rfl ?_
    refine zi_iload_n X dX7_isolate_14 rfl rfl ?_
    refine zi_callVi X (u_isZero l D hu hi (fun t ht => hb i t hi ht)) kc_X7_isZero wm_X7_244 (by first | assumption | exact mup_self | (rw [mup_ne (by assumption)]; assumption) | (rw [mup_ne (by assumption)]; exact mup_self) | (rw [mup_ne (by assumption), mup_ne (by assumption)]; assumption)) rfl wim_X7_isZero wse_X7_isZero ⟨Nat.le_of_ble_eq_true rfl, Nat.le_of_ble_eq_true rfl⟩ rfl rfl (Nat.le_of_ble_eq_true rfl) ⟨Nat.le_of_ble_eq_true rfl, Nat.le_of_ble_eq_true rfl⟩ dX7_isolate_15 (fun r h2 hp => ?_)
    obtain ⟨rfl, ⟨c0, rfl⟩ | ⟨c0, rfl⟩⟩ := hp
    · refine zi_if_eq (tgt := 27) X dX7_isolate_18 (by decide) (fun c_18 => (by first | exact absurd (by decide) c_18 | exact absurd c_18 (by decide))) (fun c_18 => ?_)
      refine zi_aload_n X dX7_isolate_21 rfl rfl ?_
      refine zi_iconst (v := (nI 2)) X dX7_isolate_22 (by decide) ?_
      refine zi_callVi X (u_fails l D hu) kc_X7_fails wm_X7_212 (by first | assumption | exact mup_self | (rw [mup_ne (by assumption)]; assumption) | (rw [mup_ne (by assumption)]; exact mup_self) | (rw [mup_ne (by assumption), mup_ne (by assumption)]; assumption)) rfl wim_X7_fails wse_X7_fails ⟨Nat.le_of_ble_eq_true rfl, Nat.le_of_ble_eq_true rfl⟩ rfl rfl (Nat.le_of_ble_eq_true rfl) ⟨Nat.le_of_ble_eq_true rfl, Nat.le_of_ble_eq_true rfl⟩ dX7_isolate_23 (fun r h3 hp => ?_)
      refine zi_ireturn X Vz dX7_isolate_26 ?_
      exact Or.inr ⟨i, hi, rfl, Or.inl ⟨c0, uT_of hp.2⟩⟩
    · have zk := hz i hi c0
      have k9 : ∀ k, k < 7 → (Sl i k).natAbs ≤ 9999 := fun t ht => hb i t hi ht
      refine zi_if_eq (tgt := 27) X dX7_isolate_18 (by decide) (fun c_18 => ?_) (fun c_18 => (by first | exact absurd (by decide) c_18 | exact absurd c_18 (by decide)))
      refine zi_iconst (v := (nI 0)) X dX7_isolate_27 (by decide) ?_
      refine zi_istore_n X dX7_isolate_28 rfl (by decide) ?_
      suffices rest : ∀ (g : mH), rU cA M g o Sl (Sl i) cap n V P → zM z 0 0 55 [some (.ref (M 3 0)), some (.int (nI i)), some (.int (nI 7))] [] g from by
        suffices key : ∀ w t (g : mH), t + w = 7 → rU cA M g o Sl (fun k => if k < t then Sl i k else kp k) cap n V P → zM z 0 0 29 [some (.ref (M 3 0)), some (.int (nI i)), some (.int (nI t))] [] g from by
          exact zi_sub (by repeat (first | exact trivial | refine And.intro rfl ?_)) (key 7 0 h2 rfl (rU_kc hu (fun k hk => (if_neg (Nat.not_lt_zero k)).symm)))
        intro w
        induction w with
        | zero =>
          intro t g ht hu1
          obtain rfl : t = 7 := by omega
          refine zi_iload_n X dX7_isolate_29 rfl rfl ?_
          refine zi_bipush (v := (nI 7)) X dX7_isolate_30 (by decide) ?_
          refine zi_icmp_ge (tgt := 55) X dX7_isolate_32 (by decide) (fun c_32 => ?_) (fun c_32 => (by first | exact absurd (by decide) c_32 | exact absurd c_32 (by decide)))
          exact zi_sub (by repeat (first | exact trivial | refine And.intro rfl ?_)) (rest g (rU_kc hu1 (fun k hk => if_pos hk)))
        | succ w ih =>
          intro t g ht hu1
          have t7 : t < 7 := by omega
          have y1 := hu1.2.1.1
          have y2 := hu1.2.1.2.1
          have y3 := hu1.2.1.2.2.1 i hi
          have y4 := hu1.2.1.2.2.2.1
          refine zi_iload_n X dX7_isolate_29 rfl rfl ?_
          refine zi_bipush (v := (nI 7)) X dX7_isolate_30 (by decide) ?_
          refine zi_icmp_ge (tgt := 55) X dX7_isolate_32 (by decide) (fun c_32 => (by first | exact absurd (c7 t7) c_32 | exact absurd c_32 (c7 t7))) (fun c_32 => ?_)
          refine zi_aload_n X dX7_isolate_35 rfl rfl ?_
          refine zi_getf (C := RX7) (T := TX7) (N := 27) (ci := 11) X (by first | assumption | exact mup_self | (rw [mup_ne (by assumption)]; assumption) | (rw [mup_ne (by assumption)]; exact mup_self) | (rw [mup_ne (by assumption), mup_ne (by assumption)]; assumption)) rfl in_X7 20 (by decide) wf_X7_69 rfl rfl dX7_isolate_36 ?_
          refine zi_iload_n X dX7_isolate_39 rfl rfl ?_
          refine zi_aload_n X dX7_isolate_40 rfl rfl ?_
          refine zi_getf (C := RX7) (T := TX7) (N := 27) (ci := 11) X (by first | assumption | exact mup_self | (rw [mup_ne (by assumption)]; assumption) | (rw [mup_ne (by assumption)]; exact mup_self) | (rw [mup_ne (by assumption), mup_ne (by assumption)]; assumption)) rfl in_X7 1 (by decide) wf_X7_11 rfl rfl dX7_isolate_41 ?_
          refine zi_iload_n X dX7_isolate_44 rfl rfl ?_
          refine zi_aaldA X 4 (by first | assumption | exact mup_self | (rw [mup_ne (by assumption)]; assumption) | (rw [mup_ne (by assumption)]; exact mup_self) | (rw [mup_ne (by assumption), mup_ne (by assumption)]; assumption)) rfl (vin hi (by decide)) (sl4_at hi) dX7_isolate_45 ?_
          refine zi_iload_n X dX7_isolate_46 rfl rfl ?_
          refine zi_iald X 0 (by first | assumption | exact mup_self | (rw [mup_ne (by assumption)]; assumption) | (rw [mup_ne (by assumption)]; exact mup_self) | (rw [mup_ne (by assumption), mup_ne (by assumption)]; assumption)) rfl (vin t7 (by decide)) dX7_isolate_47 ?_
          refine zi_iast X 0 (by first | assumption | exact mup_self | (rw [mup_ne (by assumption)]; assumption) | (rw [mup_ne (by assumption)]; exact mup_self) | (rw [mup_ne (by assumption), mup_ne (by assumption)]; assumption)) rfl (vin t7 (by decide)) dX7_isolate_48 ?_
          refine zi_iinc (v := nI (t + 1)) X dX7_isolate_49 rfl (nI_inc _) (by decide) ?_
          refine zi_goto (tgt := 29) X dX7_isolate_52 (by decide) ?_
          rw [slot_rd t7, nI_cl (show t < 2147483648 by omega)]
          have ef : (.inl (cA 0, 7, .inl (upd (fun k => if k < 7 then iI (if k < t then Sl i k else kp k) else 0) t (iI (Sl i t)))) : va_E) = slotA (cA 0) (fun k => if k < t + 1 then Sl i k else kp k) := by
            unfold slotA
            have : upd (fun k => if k < 7 then iI (if k < t then Sl i k else kp k) else 0) t (iI (Sl i t)) = fun k => if k < 7 then iI (if k < t + 1 then Sl i k else kp k) else 0 := by
              funext k
              unfold upd
              dsimp only
              by_cases c : k = t
              · rw [if_pos c, c, if_pos t7, if_pos (Nat.lt_succ_self t)]
              · rw [if_neg c]
                by_cases q : k < t
                · rw [if_pos q, if_pos (show k < t + 1 by omega)]
                · rw [if_neg q, if_neg (show ¬ k < t + 1 by omega)]
            rw [this]
          refine zi_eqh (h' := mup g (M 2 5) (slotA (cA 0) (fun k => if k < t + 1 then Sl i k else kp k))) (by rw [← ef]) ?_
          exact zi_sub (by repeat (first | exact trivial | refine And.intro rfl ?_)) (ih (t + 1) _ (by omega) (rU_k hu1 _))
      intro g hu1
      have y1 := hu1.2.1.1
      have y4 := hu1.2.1.2.2.2.1
      refine zi_aload_n X dX7_isolate_55 rfl rfl ?_
      refine zi_getf (C := RX7) (T := TX7) (N := 27) (ci := 11) X (by first | assumption | exact mup_self | (rw [mup_ne (by assumption)]; assumption) | (rw [mup_ne (by assumption)]; exact mup_self) | (rw [mup_ne (by assumption), mup_ne (by assumption)]; assumption)) rfl in_X7 20 (by decide) wf_X7_69 rfl rfl dX7_isolate_56 ?_
      refine zi_aload_n X dX7_isolate_59 rfl rfl ?_
      refine zi_getf (C := RX7) (T := TX7) (N := 27) (ci := 11) X (by first | assumption | exact mup_self | (rw [mup_ne (by assumption)]; assumption) | (rw [mup_ne (by assumption)]; exact mup_self) | (rw [mup_ne (by assumption), mup_ne (by assumption)]; assumption)) rfl in_X7 17 (by decide) wf_X7_63 rfl rfl dX7_isolate_60 ?_
      refine zi_callSv X (r_loadS l D hu1.1 (j := 6) (by decide) y4 k9) kc_X7_load wm_X7_236 wst_X7_load ⟨Nat.le_of_ble_eq_true rfl, Nat.le_of_ble_eq_true rfl⟩ rfl rfl (Nat.le_of_ble_eq_true rfl) ⟨Nat.le_of_ble_eq_true rfl, Nat.le_of_ble_eq_true rfl⟩ dX7_isolate_63 (fun h3 hp => ?_)
      obtain ⟨hf3, hq3⟩ := hp
      have hu3 := rU_n hu1 hf3 hq3
      have z1 := hu3.2.1.1
      refine zi_aload_n X dX7_isolate_66 rfl rfl ?_
      refine zi_aload_n X dX7_isolate_67 rfl rfl ?_
      refine zi_getf (C := RX7) (T := TX7) (N := 27) (ci := 11) X (by first | assumption | exact mup_self | (rw [mup_ne (by assumption)]; assumption) | (rw [mup_ne (by assumption)]; exact mup_self) | (rw [mup_ne (by assumption), mup_ne (by assumption)]; assumption)) rfl in_X7 17 (by decide) wf_X7_63 rfl rfl dX7_isolate_68 ?_
      refine zi_callVv X (r_findFree l D z1 hu3.1 (j := 6) (by decide) (by decide) (by rw [updP_s]; exact zk.1)) kc_X7_findFree wm_X7_247 (by first | assumption | exact mup_self | (rw [mup_ne (by assumption)]; assumption) | (rw [mup_ne (by assumption)]; exact mup_self) | (rw [mup_ne (by assumption), mup_ne (by assumption)]; assumption)) rfl wim_X7_findFree wse_X7_findFree ⟨Nat.le_of_ble_eq_true rfl, Nat.le_of_ble_eq_true rfl⟩ rfl rfl (Nat.le_of_ble_eq_true rfl) ⟨Nat.le_of_ble_eq_true rfl, Nat.le_of_ble_eq_true rfl⟩ dX7_isolate_71 (fun h4 hp => ?_)
      obtain ⟨hf4, Q, hq4, -, q4, qk⟩ := hp
      rw [updP_s] at q4
      have hu4 := rU_n hu3 hf4 hq4
      have v1 := hu4.2.1.1
      refine zi_aload_n X dX7_isolate_74 rfl rfl ?_
      refine zi_getf (C := RX7) (T := TX7) (N := 27) (ci := 11) X (by first | assumption | exact mup_self | (rw [mup_ne (by assumption)]; assumption) | (rw [mup_ne (by assumption)]; exact mup_self) | (rw [mup_ne (by assumption), mup_ne (by assumption)]; assumption)) rfl in_X7 12 (by decide) wf_X7_45 rfl rfl dX7_isolate_75 ?_
      refine zi_aload_n X dX7_isolate_78 rfl rfl ?_
      refine zi_getf (C := RX7) (T := TX7) (N := 27) (ci := 11) X (by first | assumption | exact mup_self | (rw [mup_ne (by assumption)]; assumption) | (rw [mup_ne (by assumption)]; exact mup_self) | (rw [mup_ne (by assumption), mup_ne (by assumption)]; assumption)) rfl in_X7 21 (by decide) wf_X7_72 rfl rfl dX7_isolate_79 ?_
      refine zi_callSv X (r_copy l D hu4.1 (j := 7) (j2 := 4) (by decide) (by decide) (by decide)) kc_X7_copy_ wm_X7_186 wst_X7_copy_ ⟨Nat.le_of_ble_eq_true rfl, Nat.le_of_ble_eq_true rfl⟩ rfl rfl (Nat.le_of_ble_eq_true rfl) ⟨Nat.le_of_ble_eq_true rfl, Nat.le_of_ble_eq_true rfl⟩ dX7_isolate_82 (fun h5 hp => ?_)
      obtain ⟨hf5, hq5⟩ := hp
      have hu5 := rU_n hu4 hf5 hq5
      have e7 : updP Q 7 (Q 4) 7 = frP (Sl i) := by rw [updP_s, q4]
      generalize updP Q 7 (Q 4) = Q5 at *
      obtain ⟨f, hF, -, -⟩ := rU_F hu5
      have c64 : 64 ≤ cap := by
        have ck : capK cap := (hF.2.2.1.1 0 (by decide)).2
        obtain ⟨_, e, he⟩ := ck
        have := Nat.two_pow_pos e
        omega
      have w1 := hF.2.1.1
      refine zi_aload_n X dX7_isolate_85 rfl rfl ?_
      refine zi_iconst (v := (nI 1)) X dX7_isolate_86 (by decide) ?_
      refine zi_putf (C := RX7) (T := TX7) (N := 27) (ci := 11) (ty0 := tyX7) X (by first | assumption | exact mup_self | (rw [mup_ne (by assumption)]; assumption) | (rw [mup_ne (by assumption)]; exact mup_self) | (rw [mup_ne (by assumption), mup_ne (by assumption)]; assumption)) rfl in_X7 tyX7_ok nmX7 26 (by decide) wf_X7_285 rfl rfl rfl rfl rfl (Nat.le_of_ble_eq_true rfl) dX7_isolate_87 ?_
      have hF6 := rF_o hF (o.1, o.2.1, nI 1, o.2.2.2) rfl
      have a1 := hF6.2.1.1
      have a4 := hF6.2.1.2.2.2.1
      refine zi_eqh (h' := mup h5 (M 3 0) (mO M (o.1, o.2.1, nI 1, o.2.2.2))) rfl ?_
      generalize mup h5 (M 3 0) (mO M (o.1, o.2.1, nI 1, o.2.2.2)) = g6 at *
      refine zi_aload_n X dX7_isolate_90 rfl rfl ?_
      refine zi_iconst (v := (nI 0)) X dX7_isolate_91 (by decide) ?_
      refine zi_iconst (v := (nI 0)) X dX7_isolate_92 (by decide) ?_
      refine zi_aload_n X dX7_isolate_93 rfl rfl ?_
      refine zi_getf (C := RX7) (T := TX7) (N := 27) (ci := 11) X (by first | assumption | exact mup_self | (rw [mup_ne (by assumption)]; assumption) | (rw [mup_ne (by assumption)]; exact mup_self) | (rw [mup_ne (by assumption), mup_ne (by assumption)]; assumption)) rfl in_X7 20 (by decide) wf_X7_69 rfl rfl dX7_isolate_94 ?_
      refine zi_callSi X (s_bound l D a4 k9 c0) kc_X7_bound wm_X7_282 wst_X7_bound ⟨Nat.le_of_ble_eq_true rfl, Nat.le_of_ble_eq_true rfl⟩ rfl rfl (Nat.le_of_ble_eq_true rfl) ⟨Nat.le_of_ble_eq_true rfl, Nat.le_of_ble_eq_true rfl⟩ dX7_isolate_97 (fun r h7 hp => ?_)
      obtain ⟨rfl, rfl⟩ := hp
      refine zi_ineg X dX7_isolate_100 ?_
      refine zi_aload_n X dX7_isolate_101 rfl rfl ?_
      refine zi_getf (C := RX7) (T := TX7) (N := 27) (ci := 11) X (by first | assumption | exact mup_self | (rw [mup_ne (by assumption)]; assumption) | (rw [mup_ne (by assumption)]; exact mup_self) | (rw [mup_ne (by assumption), mup_ne (by assumption)]; assumption)) rfl in_X7 20 (by decide) wf_X7_69 rfl rfl dX7_isolate_102 ?_
      rw [iI_nat (rBd (Sl i)), iI_neg]
      refine zi_callSi X (s_bound l D a4 k9 c0) kc_X7_bound wm_X7_282 wst_X7_bound ⟨Nat.le_of_ble_eq_true rfl, Nat.le_of_ble_eq_true rfl⟩ rfl rfl (Nat.le_of_ble_eq_true rfl) ⟨Nat.le_of_ble_eq_true rfl, Nat.le_of_ble_eq_true rfl⟩ dX7_isolate_105 (fun r h8 hp => ?_)
      obtain ⟨rfl, rfl⟩ := hp
      rw [iI_nat (rBd (Sl i))]
      refine zi_callVv X (u_place l D hF6 (a := 0) (d := 0) (m := -(rBd (Sl i) : Int)) (n := (rBd (Sl i) : Int)) (fun t ht => Nat.lt_of_lt_of_le (by decide) c64) (by rw [e7]; exact zk.2)) kc_X7_place wm_X7_292 (by first | assumption | exact mup_self | (rw [mup_ne (by assumption)]; assumption) | (rw [mup_ne (by assumption)]; exact mup_self) | (rw [mup_ne (by assumption), mup_ne (by assumption)]; assumption)) rfl wim_X7_place wse_X7_place ⟨Nat.le_of_ble_eq_true rfl, Nat.le_of_ble_eq_true rfl⟩ rfl rfl (Nat.le_of_ble_eq_true rfl) ⟨Nat.le_of_ble_eq_true rfl, Nat.le_of_ble_eq_true rfl⟩ dX7_isolate_108 (fun h9 hp => ?_)
      obtain ⟨Q9, hF9, q9⟩ := hp
      rw [e7] at hF9 q9
      have b1 := hF9.2.1.1
      have b3 := (hF9.2.2.1.1 3 (by decide)).1
      refine zi_aload_n X dX7_isolate_111 rfl rfl ?_
      refine zi_aload_n X dX7_isolate_112 rfl rfl ?_
      refine zi_getf (C := RX7) (T := TX7) (N := 27) (ci := 11) X (by first | assumption | exact mup_self | (rw [mup_ne (by assumption)]; assumption) | (rw [mup_ne (by assumption)]; exact mup_self) | (rw [mup_ne (by assumption), mup_ne (by assumption)]; assumption)) rfl in_X7 25 (by decide) wf_X7_84 rfl rfl dX7_isolate_113 ?_
      refine zi_iconst (v := (nI 0)) X dX7_isolate_116 (by decide) ?_
      refine zi_iald X 0 (by first | assumption | exact mup_self | (rw [mup_ne (by assumption)]; assumption) | (rw [mup_ne (by assumption)]; exact mup_self) | (rw [mup_ne (by assumption), mup_ne (by assumption)]; assumption)) rfl (vp_in_nI (show 0 < cap by omega) (Nat.lt_of_le_of_lt (show cap ≤ 2048 from (hF9.2.2.1.1 0 (by decide)).2.1) (by decide))) dX7_isolate_117 ?_
      have hU := rF_U hF9 (n := 1) (V := isV (Sl i)) (by omega) (fun j hj => by
        obtain rfl : j = 0 := by omega
        exact ⟨rfl, rfl, rfl, rfl⟩)
      refine zi_callVi X (u_tells l D hU) kc_X7_tells wm_X7_217 (by first | assumption | exact mup_self | (rw [mup_ne (by assumption)]; assumption) | (rw [mup_ne (by assumption)]; exact mup_self) | (rw [mup_ne (by assumption), mup_ne (by assumption)]; assumption)) rfl wim_X7_tells wse_X7_tells ⟨Nat.le_of_ble_eq_true rfl, Nat.le_of_ble_eq_true rfl⟩ rfl rfl (Nat.le_of_ble_eq_true rfl) ⟨Nat.le_of_ble_eq_true rfl, Nat.le_of_ble_eq_true rfl⟩ dX7_isolate_118 (fun r h10 hp => ?_)
      obtain ⟨rfl, -, hp⟩ := hp
      refine zi_ireturn X Vz dX7_isolate_121 ?_
      exact Or.inr ⟨i, hi, rfl, Or.inr ⟨c0, rfl, Q9, hp, q9⟩⟩
  · refine zi_if_ne (tgt := 13) X dX7_isolate_4 (by decide) (fun c_4 => (by first | exact absurd (by decide) c_4 | exact absurd c_4 (by decide))) (fun c_4 => ?_)
    refine zi_aload_n X dX7_isolate_7 rfl rfl ?_
    refine zi_iconst (v := (nI 1)) X dX7_isolate_8 (by decide) ?_
    refine zi_callVi X (u_fails l D hu) kc_X7_fails wm_X7_212 (by first | assumption | exact mup_self | (rw [mup_ne (by assumption)]; assumption) | (rw [mup_ne (by assumption)]; exact mup_self) | (rw [mup_ne (by assumption), mup_ne (by assumption)]; assumption)) rfl wim_X7_fails wse_X7_fails ⟨Nat.le_of_ble_eq_true rfl, Nat.le_of_ble_eq_true rfl⟩ rfl rfl (Nat.le_of_ble_eq_true rfl) ⟨Nat.le_of_ble_eq_true rfl, Nat.le_of_ble_eq_true rfl⟩ dX7_isolate_9 (fun r h1 hp => ?_)
    refine zi_ireturn X Vz dX7_isolate_12 ?_
    exact Or.inl ⟨q1, uT_of hp.2⟩
theorem u_intervals (l : Launch) (D : va_G) (hu : rU cA M h o Sl kp cap n V P) (ho : o.2.2.1 = nI n) :
    mCi l yX7_intervals cX7_intervals 1 .int (rmd 2) D (mT cA) [.ref (M 3 0)] h (fun r h1 => r = nI n ∧ uT cA M o kp cap n V P 0 Sl h1) := by
  have x1 := hu.2.1.1
  refine mEnter_i (by decide) (Nat.le_of_ble_eq_true rfl) rfl (fun z X Vz => ?_)
  refine zi_aload_n X dX7_intervals_0 rfl rfl ?_
  refine zi_aload_n X dX7_intervals_1 rfl rfl ?_
  refine zi_getf (C := RX7) (T := TX7) (N := 27) (ci := 11) X (by first | assumption | exact mup_self | (rw [mup_ne (by assumption)]; assumption) | (rw [mup_ne (by assumption)]; exact mup_self) | (rw [mup_ne (by assumption), mup_ne (by assumption)]; assumption)) rfl in_X7 26 (by decide) wf_X7_285 rfl rfl dX7_intervals_2 ?_
  rw [ho]
  refine zi_callVi X (u_tells l D hu) kc_X7_tells wm_X7_217 (by first | assumption | exact mup_self | (rw [mup_ne (by assumption)]; assumption) | (rw [mup_ne (by assumption)]; exact mup_self) | (rw [mup_ne (by assumption), mup_ne (by assumption)]; assumption)) rfl wim_X7_tells wse_X7_tells ⟨Nat.le_of_ble_eq_true rfl, Nat.le_of_ble_eq_true rfl⟩ rfl rfl (Nat.le_of_ble_eq_true rfl) ⟨Nat.le_of_ble_eq_true rfl, Nat.le_of_ble_eq_true rfl⟩ dX7_intervals_5 (fun r h1 hp => ?_)
  obtain ⟨rfl, -, hp⟩ := hp
  refine zi_ireturn X Vz dX7_intervals_8 ?_
  exact ⟨rfl, uT_of hp⟩
theorem u_isInterval (l : Launch) (D : va_G) (hu : rU cA M h o Sl kp cap n V P) (ho : o.2.2.1 = nI n) {a : Int32} :
    mCi l yX7_isInterval cX7_isInterval 2 .boolean (rmd 1) D (mT cA) [.ref (M 3 0), .int a] h (fun r h1 => h1 = h ∧ (inR a n ∧ r = nI 1 ∨ ¬ inR a n ∧ r = nI 0)) := by
  have x1 := hu.2.1.1
  have n31 : n < 2147483648 := by
    obtain ⟨f, -, -, v3, v4, -⟩ := hu.2.2.1
    have := v4.2.1
    omega
  refine mEnter_i (by decide) (Nat.le_of_ble_eq_true rfl) rfl (fun z X Vz => ?_)
  by_cases c1 : a < 0
  · refine zi_iload_n X dX7_isInterval_0 rfl rfl ?_
    refine zi_if_lt (tgt := 16) X dX7_isInterval_1 (by decide) (fun c_1 => ?_) (fun c_1 => (by first | exact absurd c1 c_1 | exact absurd c_1 c1))
    refine zi_iconst (v := (nI 0)) X dX7_isInterval_16 (by decide) ?_
    refine zi_zreturn X Vz rfl dX7_isInterval_17 ?_
    exact ⟨rfl, Or.inr ⟨fun q => ((inR_iff n31).mp q).1 c1, rfl⟩⟩
  · by_cases c2 : a < nI n
    · refine zi_iload_n X dX7_isInterval_0 rfl rfl ?_
      refine zi_if_lt (tgt := 16) X dX7_isInterval_1 (by decide) (fun c_1 => (by first | exact absurd c1 c_1 | exact absurd c_1 c1)) (fun c_1 => ?_)
      refine zi_iload_n X dX7_isInterval_4 rfl rfl ?_
      refine zi_aload_n X dX7_isInterval_5 rfl rfl ?_
      refine zi_getf (C := RX7) (T := TX7) (N := 27) (ci := 11) X (by first | assumption | exact mup_self | (rw [mup_ne (by assumption)]; assumption) | (rw [mup_ne (by assumption)]; exact mup_self) | (rw [mup_ne (by assumption), mup_ne (by assumption)]; assumption)) rfl in_X7 26 (by decide) wf_X7_285 rfl rfl dX7_isInterval_6 ?_
      rw [ho]
      refine zi_icmp_ge (tgt := 16) X dX7_isInterval_9 (by decide) (fun c_9 => (by first | exact absurd (Int32.not_le.mpr c2) c_9 | exact absurd c_9 (Int32.not_le.mpr c2))) (fun c_9 => ?_)
      refine zi_iconst (v := (nI 1)) X dX7_isInterval_12 (by decide) ?_
      refine zi_goto (tgt := 17) X dX7_isInterval_13 (by decide) ?_
      refine zi_zreturn X Vz rfl dX7_isInterval_17 ?_
      exact ⟨rfl, Or.inl ⟨(inR_iff n31).mpr ⟨c1, c2⟩, rfl⟩⟩
    · refine zi_iload_n X dX7_isInterval_0 rfl rfl ?_
      refine zi_if_lt (tgt := 16) X dX7_isInterval_1 (by decide) (fun c_1 => (by first | exact absurd c1 c_1 | exact absurd c_1 c1)) (fun c_1 => ?_)
      refine zi_iload_n X dX7_isInterval_4 rfl rfl ?_
      refine zi_aload_n X dX7_isInterval_5 rfl rfl ?_
      refine zi_getf (C := RX7) (T := TX7) (N := 27) (ci := 11) X (by first | assumption | exact mup_self | (rw [mup_ne (by assumption)]; assumption) | (rw [mup_ne (by assumption)]; exact mup_self) | (rw [mup_ne (by assumption), mup_ne (by assumption)]; assumption)) rfl in_X7 26 (by decide) wf_X7_285 rfl rfl dX7_isInterval_6 ?_
      rw [ho]
      refine zi_icmp_ge (tgt := 16) X dX7_isInterval_9 (by decide) (fun c_9 => ?_) (fun c_9 => (by first | exact absurd (Int32.not_lt.mp c2) c_9 | exact absurd c_9 (Int32.not_lt.mp c2)))
      refine zi_iconst (v := (nI 0)) X dX7_isInterval_16 (by decide) ?_
      refine zi_zreturn X Vz rfl dX7_isInterval_17 ?_
      exact ⟨rfl, Or.inr ⟨fun q => c2 ((inR_iff n31).mp q).2, rfl⟩⟩
theorem u_rootsIn (l : Launch) (D : va_G) (hu : rU cA M h o Sl kp cap n V P) (ho : o.2.2.1 = nI n) {a : Int32} :
    mCi l yX7_rootsIn cX7_rootsIn 2 .int (rmd 2) D (mT cA) [.ref (M 3 0), .int a] h (fun r h1 => ¬ inR a n ∧ uT cA M o kp cap n V P 1 Sl h1 ∨ ∃ i, i < n ∧ a = nI i ∧ r = iI (V i).2.2.2 ∧ uT cA M o kp cap n V P 0 Sl h1) := by
  have x1 := hu.2.1.1
  refine mEnter_i (by decide) (Nat.le_of_ble_eq_true rfl) rfl (fun z X Vz => ?_)
  refine zi_aload_n X dX7_rootsIn_0 rfl rfl ?_
  refine zi_iload_n X dX7_rootsIn_1 rfl rfl ?_
  refine zi_callVi X (u_isInterval l D hu ho) kc_X7_isInterval wm_X7_296 (by first | assumption | exact mup_self | (rw [mup_ne (by assumption)]; assumption) | (rw [mup_ne (by assumption)]; exact mup_self) | (rw [mup_ne (by assumption), mup_ne (by assumption)]; assumption)) rfl wim_X7_isInterval wse_X7_isInterval ⟨Nat.le_of_ble_eq_true rfl, Nat.le_of_ble_eq_true rfl⟩ rfl rfl (Nat.le_of_ble_eq_true rfl) ⟨Nat.le_of_ble_eq_true rfl, Nat.le_of_ble_eq_true rfl⟩ dX7_rootsIn_2 (fun r h1 hp => ?_)
  obtain ⟨rfl, ⟨q1, rfl⟩ | ⟨q1, rfl⟩⟩ := hp
  · obtain ⟨i, hi, rfl⟩ := q1
    obtain ⟨f, v1, v2, v3, v4, v5⟩ := hu.2.2.1
    have b3 := v1 3 (by decide)
    have := v4.2.1
    have ei := (v5 i hi).2.2.2
    refine zi_if_eq (tgt := 21) X dX7_rootsIn_5 (by decide) (fun c_5 => (by first | exact absurd (by decide) c_5 | exact absurd c_5 (by decide))) (fun c_5 => ?_)
    refine zi_aload_n X dX7_rootsIn_8 rfl rfl ?_
    refine zi_aload_n X dX7_rootsIn_9 rfl rfl ?_
    refine zi_getf (C := RX7) (T := TX7) (N := 27) (ci := 11) X (by first | assumption | exact mup_self | (rw [mup_ne (by assumption)]; assumption) | (rw [mup_ne (by assumption)]; exact mup_self) | (rw [mup_ne (by assumption), mup_ne (by assumption)]; assumption)) rfl in_X7 25 (by decide) wf_X7_84 rfl rfl dX7_rootsIn_10 ?_
    refine zi_iload_n X dX7_rootsIn_13 rfl rfl ?_
    refine zi_iald X 0 (by first | assumption | exact mup_self | (rw [mup_ne (by assumption)]; assumption) | (rw [mup_ne (by assumption)]; exact mup_self) | (rw [mup_ne (by assumption), mup_ne (by assumption)]; assumption)) rfl (vp_in_nI (show i < cap by omega) (by omega)) dX7_rootsIn_14 ?_
    rw [nI_cl (show i < 2147483648 by omega), ei]
    refine zi_callVi X (u_tells l D hu) kc_X7_tells wm_X7_217 (by first | assumption | exact mup_self | (rw [mup_ne (by assumption)]; assumption) | (rw [mup_ne (by assumption)]; exact mup_self) | (rw [mup_ne (by assumption), mup_ne (by assumption)]; assumption)) rfl wim_X7_tells wse_X7_tells ⟨Nat.le_of_ble_eq_true rfl, Nat.le_of_ble_eq_true rfl⟩ rfl rfl (Nat.le_of_ble_eq_true rfl) ⟨Nat.le_of_ble_eq_true rfl, Nat.le_of_ble_eq_true rfl⟩ dX7_rootsIn_15 (fun r h3 hp => ?_)
    obtain ⟨rfl, -, hp⟩ := hp
    refine zi_goto (tgt := 26) X dX7_rootsIn_18 (by decide) ?_
    refine zi_ireturn X Vz dX7_rootsIn_26 ?_
    exact Or.inr ⟨i, hi, rfl, rfl, uT_of hp⟩
  · refine zi_if_eq (tgt := 21) X dX7_rootsIn_5 (by decide) (fun c_5 => ?_) (fun c_5 => (by first | exact absurd (by decide) c_5 | exact absurd c_5 (by decide)))
    refine zi_aload_n X dX7_rootsIn_21 rfl rfl ?_
    refine zi_iconst (v := (nI 1)) X dX7_rootsIn_22 (by decide) ?_
    refine zi_callVi X (u_fails l D hu) kc_X7_fails wm_X7_212 (by first | assumption | exact mup_self | (rw [mup_ne (by assumption)]; assumption) | (rw [mup_ne (by assumption)]; exact mup_self) | (rw [mup_ne (by assumption), mup_ne (by assumption)]; assumption)) rfl wim_X7_fails wse_X7_fails ⟨Nat.le_of_ble_eq_true rfl, Nat.le_of_ble_eq_true rfl⟩ rfl rfl (Nat.le_of_ble_eq_true rfl) ⟨Nat.le_of_ble_eq_true rfl, Nat.le_of_ble_eq_true rfl⟩ dX7_rootsIn_23 (fun r h1 hp => ?_)
    refine zi_ireturn X Vz dX7_rootsIn_26 ?_
    exact Or.inl ⟨q1, uT_of hp.2⟩
theorem u_interval (l : Launch) (D : va_G) (hu : rU cA M h o Sl kp cap n V P) (ho : o.2.2.1 = nI n) {a c : Int32} :
    mCi l yX7_interval cX7_interval 3 .int (rmd 2) D (mT cA) [.ref (M 3 0), .int a, .int c] h (fun r h1 => ¬ inR a n ∧ uT cA M o kp cap n V P 1 Sl h1 ∨ inR a n ∧ c ≠ 100 ∧ c ≠ 109 ∧ c ≠ 110 ∧ uT cA M o kp cap n V P 2 Sl h1 ∨ ∃ i, i < n ∧ a = nI i ∧ (c = 100 ∧ r = nI (V i).1 ∨ c = 109 ∧ r = iI (V i).2.1 ∨ c = 110 ∧ r = iI (V i).2.2.1) ∧ uT cA M o kp cap n V P 0 Sl h1) := by
  have x1 := hu.2.1.1
  refine mEnter_i (by decide) (Nat.le_of_ble_eq_true rfl) rfl (fun z X Vz => ?_)
  refine zi_aload_n X dX7_interval_0 rfl rfl ?_
  refine zi_iload_n X dX7_interval_1 rfl rfl ?_
  refine zi_callVi X (u_isInterval l D hu ho) kc_X7_isInterval wm_X7_296 (by first | assumption | exact mup_self | (rw [mup_ne (by assumption)]; assumption) | (rw [mup_ne (by assumption)]; exact mup_self) | (rw [mup_ne (by assumption), mup_ne (by assumption)]; assumption)) rfl wim_X7_isInterval wse_X7_isInterval ⟨Nat.le_of_ble_eq_true rfl, Nat.le_of_ble_eq_true rfl⟩ rfl rfl (Nat.le_of_ble_eq_true rfl) ⟨Nat.le_of_ble_eq_true rfl, Nat.le_of_ble_eq_true rfl⟩ dX7_interval_2 (fun r h1 hp => ?_)
  obtain ⟨rfl, ⟨q1, rfl⟩ | ⟨q1, rfl⟩⟩ := hp
  · obtain ⟨i, hi, rfl⟩ := q1
    obtain ⟨f, v1, v2, v3, v4, v5⟩ := hu.2.2.1
    have b0 := v1 0 (by decide)
    have b1 := v1 1 (by decide)
    have b2 := v1 2 (by decide)
    have := v4.2.1
    have ei := v5 i hi
    have hin : vp_in (nI i) cap := vp_in_nI (show i < cap by omega) (by omega)
    have hcl : (nI i).toNatClampNeg = i := nI_cl (by omega)
    have s75 : ∀ v, (c = 100 ∧ v = nI (V i).1 ∨ c = 109 ∧ v = iI (V i).2.1 ∨ c = 110 ∧ v = iI (V i).2.2.1) → zM z 0 0 75 [some (.ref (M 3 0)), some (.int (nI i)), some (.int c)] [.int v, .ref (M 3 0)] h1 := fun v hv => by
      refine zi_callVi X (u_tells l D hu) kc_X7_tells wm_X7_217 (by first | assumption | exact mup_self | (rw [mup_ne (by assumption)]; assumption) | (rw [mup_ne (by assumption)]; exact mup_self) | (rw [mup_ne (by assumption), mup_ne (by assumption)]; assumption)) rfl wim_X7_tells wse_X7_tells ⟨Nat.le_of_ble_eq_true rfl, Nat.le_of_ble_eq_true rfl⟩ rfl rfl (Nat.le_of_ble_eq_true rfl) ⟨Nat.le_of_ble_eq_true rfl, Nat.le_of_ble_eq_true rfl⟩ dX7_interval_75 (fun r h3 hp => ?_)
      obtain ⟨rfl, -, hp⟩ := hp
      refine zi_ireturn X Vz dX7_interval_78 ?_
      exact Or.inr (Or.inr ⟨i, hi, rfl, hv, uT_of hp⟩)
    refine zi_if_ne (tgt := 14) X dX7_interval_5 (by decide) (fun c_5 => ?_) (fun c_5 => (by first | exact absurd (by decide) c_5 | exact absurd c_5 (by decide)))
    by_cases c1 : c = 100
    · refine zi_iload_n X dX7_interval_14 rfl rfl ?_
      refine zi_bipush (v := (nI 100)) X dX7_interval_15 (by decide) ?_
      refine zi_icmp_eq (tgt := 38) X dX7_interval_17 (by decide) (fun c_17 => ?_) (fun c_17 => (by first | exact absurd c1 c_17 | exact absurd c_17 c1))
      refine zi_aload_n X dX7_interval_38 rfl rfl ?_
      refine zi_iload_n X dX7_interval_39 rfl rfl ?_
      refine zi_bipush (v := (nI 100)) X dX7_interval_40 (by decide) ?_
      refine zi_icmp_ne (tgt := 54) X dX7_interval_42 (by decide) (fun c_42 => (by first | exact absurd (fun q => q c1) c_42 | exact absurd c_42 (fun q => q c1))) (fun c_42 => ?_)
      refine zi_aload_n X dX7_interval_45 rfl rfl ?_
      refine zi_getf (C := RX7) (T := TX7) (N := 27) (ci := 11) X (by first | assumption | exact mup_self | (rw [mup_ne (by assumption)]; assumption) | (rw [mup_ne (by assumption)]; exact mup_self) | (rw [mup_ne (by assumption), mup_ne (by assumption)]; assumption)) rfl in_X7 22 (by decide) wf_X7_75 rfl rfl dX7_interval_46 ?_
      refine zi_iload_n X dX7_interval_49 rfl rfl ?_
      refine zi_iald X 0 (by first | assumption | exact mup_self | (rw [mup_ne (by assumption)]; assumption) | (rw [mup_ne (by assumption)]; exact mup_self) | (rw [mup_ne (by assumption), mup_ne (by assumption)]; assumption)) rfl hin dX7_interval_50 ?_
      rw [hcl, ei.1]
      refine zi_goto (tgt := 75) X dX7_interval_51 (by decide) ?_
      exact zi_sub (by repeat (first | exact trivial | refine And.intro rfl ?_)) (s75 _ (Or.inl ⟨c1, rfl⟩))
    · by_cases c2 : c = 109
      · refine zi_iload_n X dX7_interval_14 rfl rfl ?_
        refine zi_bipush (v := (nI 100)) X dX7_interval_15 (by decide) ?_
        refine zi_icmp_eq (tgt := 38) X dX7_interval_17 (by decide) (fun c_17 => (by first | exact absurd c1 c_17 | exact absurd c_17 c1)) (fun c_17 => ?_)
        refine zi_iload_n X dX7_interval_20 rfl rfl ?_
        refine zi_bipush (v := (nI 109)) X dX7_interval_21 (by decide) ?_
        refine zi_icmp_eq (tgt := 38) X dX7_interval_23 (by decide) (fun c_23 => ?_) (fun c_23 => (by first | exact absurd c2 c_23 | exact absurd c_23 c2))
        refine zi_aload_n X dX7_interval_38 rfl rfl ?_
        refine zi_iload_n X dX7_interval_39 rfl rfl ?_
        refine zi_bipush (v := (nI 100)) X dX7_interval_40 (by decide) ?_
        refine zi_icmp_ne (tgt := 54) X dX7_interval_42 (by decide) (fun c_42 => ?_) (fun c_42 => (by first | exact absurd c1 c_42 | exact absurd c_42 c1))
        refine zi_iload_n X dX7_interval_54 rfl rfl ?_
        refine zi_bipush (v := (nI 109)) X dX7_interval_55 (by decide) ?_
        refine zi_icmp_ne (tgt := 69) X dX7_interval_57 (by decide) (fun c_57 => (by first | exact absurd (fun q => q c2) c_57 | exact absurd c_57 (fun q => q c2))) (fun c_57 => ?_)
        refine zi_aload_n X dX7_interval_60 rfl rfl ?_
        refine zi_getf (C := RX7) (T := TX7) (N := 27) (ci := 11) X (by first | assumption | exact mup_self | (rw [mup_ne (by assumption)]; assumption) | (rw [mup_ne (by assumption)]; exact mup_self) | (rw [mup_ne (by assumption), mup_ne (by assumption)]; assumption)) rfl in_X7 23 (by decide) wf_X7_78 rfl rfl dX7_interval_61 ?_
        refine zi_iload_n X dX7_interval_64 rfl rfl ?_
        refine zi_iald X 0 (by first | assumption | exact mup_self | (rw [mup_ne (by assumption)]; assumption) | (rw [mup_ne (by assumption)]; exact mup_self) | (rw [mup_ne (by assumption), mup_ne (by assumption)]; assumption)) rfl hin dX7_interval_65 ?_
        rw [hcl, ei.2.1]
        refine zi_goto (tgt := 75) X dX7_interval_66 (by decide) ?_
        exact zi_sub (by repeat (first | exact trivial | refine And.intro rfl ?_)) (s75 _ (Or.inr (Or.inl ⟨c2, rfl⟩)))
      · by_cases c3 : c = 110
        · refine zi_iload_n X dX7_interval_14 rfl rfl ?_
          refine zi_bipush (v := (nI 100)) X dX7_interval_15 (by decide) ?_
          refine zi_icmp_eq (tgt := 38) X dX7_interval_17 (by decide) (fun c_17 => (by first | exact absurd c1 c_17 | exact absurd c_17 c1)) (fun c_17 => ?_)
          refine zi_iload_n X dX7_interval_20 rfl rfl ?_
          refine zi_bipush (v := (nI 109)) X dX7_interval_21 (by decide) ?_
          refine zi_icmp_eq (tgt := 38) X dX7_interval_23 (by decide) (fun c_23 => (by first | exact absurd c2 c_23 | exact absurd c_23 c2)) (fun c_23 => ?_)
          refine zi_iload_n X dX7_interval_26 rfl rfl ?_
          refine zi_bipush (v := (nI 110)) X dX7_interval_27 (by decide) ?_
          refine zi_icmp_eq (tgt := 38) X dX7_interval_29 (by decide) (fun c_29 => ?_) (fun c_29 => (by first | exact absurd c3 c_29 | exact absurd c_29 c3))
          refine zi_aload_n X dX7_interval_38 rfl rfl ?_
          refine zi_iload_n X dX7_interval_39 rfl rfl ?_
          refine zi_bipush (v := (nI 100)) X dX7_interval_40 (by decide) ?_
          refine zi_icmp_ne (tgt := 54) X dX7_interval_42 (by decide) (fun c_42 => ?_) (fun c_42 => (by first | exact absurd c1 c_42 | exact absurd c_42 c1))
          refine zi_iload_n X dX7_interval_54 rfl rfl ?_
          refine zi_bipush (v := (nI 109)) X dX7_interval_55 (by decide) ?_
          refine zi_icmp_ne (tgt := 69) X dX7_interval_57 (by decide) (fun c_57 => ?_) (fun c_57 => (by first | exact absurd c2 c_57 | exact absurd c_57 c2))
          refine zi_aload_n X dX7_interval_69 rfl rfl ?_
          refine zi_getf (C := RX7) (T := TX7) (N := 27) (ci := 11) X (by first | assumption | exact mup_self | (rw [mup_ne (by assumption)]; assumption) | (rw [mup_ne (by assumption)]; exact mup_self) | (rw [mup_ne (by assumption), mup_ne (by assumption)]; assumption)) rfl in_X7 24 (by decide) wf_X7_81 rfl rfl dX7_interval_70 ?_
          refine zi_iload_n X dX7_interval_73 rfl rfl ?_
          refine zi_iald X 0 (by first | assumption | exact mup_self | (rw [mup_ne (by assumption)]; assumption) | (rw [mup_ne (by assumption)]; exact mup_self) | (rw [mup_ne (by assumption), mup_ne (by assumption)]; assumption)) rfl hin dX7_interval_74 ?_
          rw [hcl, ei.2.2.1]
          exact zi_sub (by repeat (first | exact trivial | refine And.intro rfl ?_)) (s75 _ (Or.inr (Or.inr ⟨c3, rfl⟩)))
        · refine zi_iload_n X dX7_interval_14 rfl rfl ?_
          refine zi_bipush (v := (nI 100)) X dX7_interval_15 (by decide) ?_
          refine zi_icmp_eq (tgt := 38) X dX7_interval_17 (by decide) (fun c_17 => (by first | exact absurd c1 c_17 | exact absurd c_17 c1)) (fun c_17 => ?_)
          refine zi_iload_n X dX7_interval_20 rfl rfl ?_
          refine zi_bipush (v := (nI 109)) X dX7_interval_21 (by decide) ?_
          refine zi_icmp_eq (tgt := 38) X dX7_interval_23 (by decide) (fun c_23 => (by first | exact absurd c2 c_23 | exact absurd c_23 c2)) (fun c_23 => ?_)
          refine zi_iload_n X dX7_interval_26 rfl rfl ?_
          refine zi_bipush (v := (nI 110)) X dX7_interval_27 (by decide) ?_
          refine zi_icmp_eq (tgt := 38) X dX7_interval_29 (by decide) (fun c_29 => (by first | exact absurd c3 c_29 | exact absurd c_29 c3)) (fun c_29 => ?_)
          refine zi_aload_n X dX7_interval_32 rfl rfl ?_
          refine zi_iconst (v := (nI 2)) X dX7_interval_33 (by decide) ?_
          refine zi_callVi X (u_fails l D hu) kc_X7_fails wm_X7_212 (by first | assumption | exact mup_self | (rw [mup_ne (by assumption)]; assumption) | (rw [mup_ne (by assumption)]; exact mup_self) | (rw [mup_ne (by assumption), mup_ne (by assumption)]; assumption)) rfl wim_X7_fails wse_X7_fails ⟨Nat.le_of_ble_eq_true rfl, Nat.le_of_ble_eq_true rfl⟩ rfl rfl (Nat.le_of_ble_eq_true rfl) ⟨Nat.le_of_ble_eq_true rfl, Nat.le_of_ble_eq_true rfl⟩ dX7_interval_34 (fun r h1 hp => ?_)
          refine zi_ireturn X Vz dX7_interval_37 ?_
          exact Or.inr (Or.inl ⟨⟨i, hi, rfl⟩, c1, c2, c3, uT_of hp.2⟩)
  · refine zi_if_ne (tgt := 14) X dX7_interval_5 (by decide) (fun c_5 => (by first | exact absurd (by decide) c_5 | exact absurd c_5 (by decide))) (fun c_5 => ?_)
    refine zi_aload_n X dX7_interval_8 rfl rfl ?_
    refine zi_iconst (v := (nI 1)) X dX7_interval_9 (by decide) ?_
    refine zi_callVi X (u_fails l D hu) kc_X7_fails wm_X7_212 (by first | assumption | exact mup_self | (rw [mup_ne (by assumption)]; assumption) | (rw [mup_ne (by assumption)]; exact mup_self) | (rw [mup_ne (by assumption), mup_ne (by assumption)]; assumption)) rfl wim_X7_fails wse_X7_fails ⟨Nat.le_of_ble_eq_true rfl, Nat.le_of_ble_eq_true rfl⟩ rfl rfl (Nat.le_of_ble_eq_true rfl) ⟨Nat.le_of_ble_eq_true rfl, Nat.le_of_ble_eq_true rfl⟩ dX7_interval_10 (fun r h1 hp => ?_)
    refine zi_ireturn X Vz dX7_interval_13 ?_
    exact Or.inl ⟨q1, uT_of hp.2⟩
end IS
