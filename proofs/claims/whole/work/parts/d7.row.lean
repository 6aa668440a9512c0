/-! SturmRootsModel: gcd, squareFreePart, findRow -/
def rwE (p : Nat → Int) : Nat → Nat → Int
  | 0 => prm p
  | 1 => prm (derI p)
  | i + 2 => fun t => -rmF 8 (rwE p i) (rwE p (i + 1)) t
def rwOk (p : Nat → Int) (L : Nat) : Prop := 1 ≤ L ∧ L ≤ 7 ∧ pC p ∧ pC (derI p) ∧ (∀ i, i < L → pC (rwE p i)) ∧ (∀ i, 1 ≤ i → i < L → stI (rwE p i) 7 ≠ 0) ∧ stI (rwE p L) 7 = 0 ∧ ∀ i, i + 2 ≤ L → rmOk 8 (rwE p i) (rwE p (i + 1)) ∧ pC (rmF 8 (rwE p i) (rwE p (i + 1)))
section RO7
variable {cA : Nat → ClassId} {M : Nat → Nat → Nat} {h : mH} {o : RO} {Sl : Nat → Nat → Int} {kp : Nat → Int} {cap n : Nat} {V : Nat → Iv} {P : Nat → Nat → Int}
theorem r_loadS (l : Launch) (D : va_G) (hh : hQ cA M P h) {j a : Nat} {s : Nat → Int} (hj : j < 176) (ha : h a = some (slotA (cA 0) s)) (hs : ∀ k, k < 7 → (s k).natAbs ≤ 9999) :
    mCv l yX7_load cX7_load 3 (rmd 2) D (mT cA) [.ref a, .ref (M 1 j)] h (fun h1 => nfr M h1 h ∧ hQ cA M (updP P j s) h1) := by
  refine mSub_v (r_load l D hh hj ha) (fun g hg => ⟨hg.1, hQ_cong hg.2 (fun k hk i hi => ?_)⟩)
  unfold updP
  by_cases c : k = j
  · rw [if_pos c, if_pos c]
    dsimp only
    rw [if_pos hi, iI_int (by have := hs i hi; omega)]
  · rw [if_neg c, if_neg c]
theorem u_gcd (l : Launch) (D : va_G) (hu : rU cA M h o Sl kp cap n V P) (hb : slB Sl) (hz : ∀ i j, i < 5 → j < 5 → gcRok (Sl i) (Sl j) ∧ pC (gcR (Sl i) (Sl j))) {a b c : Int32} :
    mCi l yX7_gcd cX7_gcd 4 .int (rmd 8) D (mT cA) [.ref (M 3 0), .int a, .int b, .int c] h (fun r h1 => (¬ inR a 5 ∨ ¬ inR b 5 ∨ ¬ inR c 5) ∧ uT cA M o kp cap n V P 1 Sl h1 ∨ ∃ i j k, i < 5 ∧ a = nI i ∧ j < 5 ∧ b = nI j ∧ k < 5 ∧ c = nI k ∧ (okG (gcR (Sl i) (Sl j)) ∧ r = iI (sDeg (gcR (Sl i) (Sl j))) ∧ uT cA M o kp cap n V P 0 (setS Sl k (tr (gcR (Sl i) (Sl j)))) h1 ∨ ¬ okG (gcR (Sl i) (Sl j)) ∧ uT cA M o kp cap n V P 2 Sl h1)) := by
  have x1 := hu.2.1.1
  have x2 := hu.2.1.2.1
  refine mEnter_i (by decide) (Nat.le_of_ble_eq_true rfl) rfl (fun z X Vz => ?_)
  have f1 : (¬ inR a 5 ∨ ¬ inR b 5 ∨ ¬ inR c 5) → zM z 0 0 21 [some (.ref (M 3 0)), some (.int a), some (.int b), some (.int c)] [] h := fun q => by
    refine zi_aload_n X dX7_gcd_21 rfl rfl ?_
    refine zi_iconst (v := (nI 1)) X dX7_gcd_22 (by decide) ?_
    refine zi_callVi X (u_fails l D hu) kc_X7_fails wm_X7_212 (by first | assumption | exact mup_self | (rw [mup_ne (by assumption)]; assumption) | (rw [mup_ne (by assumption)]; exact mup_self) | (rw [mup_ne (by assumption), mup_ne (by assumption)]; assumption)) rfl wim_X7_fails wse_X7_fails ⟨Nat.le_of_ble_eq_true rfl, Nat.le_of_ble_eq_true rfl⟩ rfl rfl (Nat.le_of_ble_eq_true rfl) ⟨Nat.le_of_ble_eq_true rfl, Nat.le_of_ble_eq_true rfl⟩ dX7_gcd_23 (fun r h1 hp => ?_)
    refine zi_ireturn X Vz dX7_gcd_26 ?_
    exact Or.inl ⟨q, uT_of hp.2⟩
  refine zi_iload_n X dX7_gcd_0 rfl rfl ?_
  refine zi_callSi X (s_isSlot l D) kc_X7_isSlot wm_X7_228 wst_X7_isSlot ⟨Nat.le_of_ble_eq_true rfl, Nat.le_of_ble_eq_true rfl⟩ rfl rfl (Nat.le_of_ble_eq_true rfl) ⟨Nat.le_of_ble_eq_true rfl, Nat.le_of_ble_eq_true rfl⟩ dX7_gcd_1 (fun r h1 hp => ?_)
  obtain ⟨rfl, ⟨q1, rfl⟩ | ⟨q1, rfl⟩⟩ := hp
  · refine zi_if_eq (tgt := 21) X dX7_gcd_4 (by decide) (fun c_4 => (by first | exact absurd (by decide) c_4 | exact absurd c_4 (by decide))) (fun c_4 => ?_)
    refine zi_iload_n X dX7_gcd_7 rfl rfl ?_
    refine zi_callSi X (s_isSlot l D) kc_X7_isSlot wm_X7_228 wst_X7_isSlot ⟨Nat.le_of_ble_eq_true rfl, Nat.le_of_ble_eq_true rfl⟩ rfl rfl (Nat.le_of_ble_eq_true rfl) ⟨Nat.le_of_ble_eq_true rfl, Nat.le_of_ble_eq_true rfl⟩ dX7_gcd_8 (fun r h1 hp => ?_)
    obtain ⟨rfl, ⟨q2, rfl⟩ | ⟨q2, rfl⟩⟩ := hp
    · refine zi_if_eq (tgt := 21) X dX7_gcd_11 (by decide) (fun c_11 => (by first | exact absurd (by decide) c_11 | exact absurd c_11 (by decide))) (fun c_11 => ?_)
      refine zi_iload_n X dX7_gcd_14 rfl rfl ?_
      refine zi_callSi X (s_isSlot l D) kc_X7_isSlot wm_X7_228 wst_X7_isSlot ⟨Nat.le_of_ble_eq_true rfl, Nat.le_of_ble_eq_true rfl⟩ rfl rfl (Nat.le_of_ble_eq_true rfl) ⟨Nat.le_of_ble_eq_true rfl, Nat.le_of_ble_eq_true rfl⟩ dX7_gcd_15 (fun r h1 hp => ?_)
      obtain ⟨rfl, ⟨q3, rfl⟩ | ⟨q3, rfl⟩⟩ := hp
      · obtain ⟨i, hi, rfl⟩ := q1
        obtain ⟨j, hj, rfl⟩ := q2
        obtain ⟨k, hk, rfl⟩ := q3
        have y3 := hu.2.1.2.2.1 i hi
        refine zi_if_ne (tgt := 27) X dX7_gcd_18 (by decide) (fun c_18 => ?_) (fun c_18 => (by first | exact absurd (by decide) c_18 | exact absurd c_18 (by decide)))
        refine zi_aload_n X dX7_gcd_27 rfl rfl ?_
        refine zi_getf (C := RX7) (T := TX7) (N := 27) (ci := 11) X (by first | assumption | exact mup_self | (rw [mup_ne (by assumption)]; assumption) | (rw [mup_ne (by assumption)]; exact mup_self) | (rw [mup_ne (by assumption), mup_ne (by assumption)]; assumption)) rfl in_X7 1 (by decide) wf_X7_11 rfl rfl dX7_gcd_28 ?_
        refine zi_iload_n X dX7_gcd_31 rfl rfl ?_
        refine zi_aaldA X 4 (by first | assumption | exact mup_self | (rw [mup_ne (by assumption)]; assumption) | (rw [mup_ne (by assumption)]; exact mup_self) | (rw [mup_ne (by assumption), mup_ne (by assumption)]; assumption)) rfl (vin hi (by decide)) (sl4_at hi) dX7_gcd_32 ?_
        refine zi_aload_n X dX7_gcd_33 rfl rfl ?_
        refine zi_getf (C := RX7) (T := TX7) (N := 27) (ci := 11) X (by first | assumption | exact mup_self | (rw [mup_ne (by assumption)]; assumption) | (rw [mup_ne (by assumption)]; exact mup_self) | (rw [mup_ne (by assumption), mup_ne (by assumption)]; assumption)) rfl in_X7 8 (by decide) wf_X7_33 rfl rfl dX7_gcd_34 ?_
        refine zi_callSv X (r_loadS l D hu.1 (j := 0) (by decide) y3 (fun t ht => hb i t hi ht)) kc_X7_load wm_X7_236 wst_X7_load ⟨Nat.le_of_ble_eq_true rfl, Nat.le_of_ble_eq_true rfl⟩ rfl rfl (Nat.le_of_ble_eq_true rfl) ⟨Nat.le_of_ble_eq_true rfl, Nat.le_of_ble_eq_true rfl⟩ dX7_gcd_37 (fun h2 hp => ?_)
        obtain ⟨hf2, hq2⟩ := hp
        have hu2 := rU_n hu hf2 hq2
        have z1 := hu2.2.1.1
        have z2 := hu2.2.1.2.1
        have z3 := hu2.2.1.2.2.1 j hj
        refine zi_aload_n X dX7_gcd_40 rfl rfl ?_
        refine zi_getf (C := RX7) (T := TX7) (N := 27) (ci := 11) X (by first | assumption | exact mup_self | (rw [mup_ne (by assumption)]; assumption) | (rw [mup_ne (by assumption)]; exact mup_self) | (rw [mup_ne (by assumption), mup_ne (by assumption)]; assumption)) rfl in_X7 1 (by decide) wf_X7_11 rfl rfl dX7_gcd_41 ?_
        refine zi_iload_n X dX7_gcd_44 rfl rfl ?_
        refine zi_aaldA X 4 (by first | assumption | exact mup_self | (rw [mup_ne (by assumption)]; assumption) | (rw [mup_ne (by assumption)]; exact mup_self) | (rw [mup_ne (by assumption), mup_ne (by assumption)]; assumption)) rfl (vin hj (by decide)) (sl4_at hj) dX7_gcd_45 ?_
        refine zi_aload_n X dX7_gcd_46 rfl rfl ?_
        refine zi_getf (C := RX7) (T := TX7) (N := 27) (ci := 11) X (by first | assumption | exact mup_self | (rw [mup_ne (by assumption)]; assumption) | (rw [mup_ne (by assumption)]; exact mup_self) | (rw [mup_ne (by assumption), mup_ne (by assumption)]; assumption)) rfl in_X7 9 (by decide) wf_X7_36 rfl rfl dX7_gcd_47 ?_
        refine zi_callSv X (r_loadS l D hu2.1 (j := 1) (by decide) z3 (fun t ht => hb j t hj ht)) kc_X7_load wm_X7_236 wst_X7_load ⟨Nat.le_of_ble_eq_true rfl, Nat.le_of_ble_eq_true rfl⟩ rfl rfl (Nat.le_of_ble_eq_true rfl) ⟨Nat.le_of_ble_eq_true rfl, Nat.le_of_ble_eq_true rfl⟩ dX7_gcd_50 (fun h3 hp => ?_)
        obtain ⟨hf3, hq3⟩ := hp
        have hu3 := rU_n hu2 hf3 hq3
        have w1 := hu3.2.1.1
        have e0 : updP (updP P 0 (Sl i)) 1 (Sl j) 0 = Sl i := by rw [updP_n (by decide), updP_s]
        have e1 : updP (updP P 0 (Sl i)) 1 (Sl j) 1 = Sl j := updP_s
        refine zi_aload_n X dX7_gcd_53 rfl rfl ?_
        refine zi_callVv X (r_findCommon l D w1 hu3.1 (by rw [e0, e1]; exact (hz i j hi hj).1)) kc_X7_findCommon wm_X7_191 (by first | assumption | exact mup_self | (rw [mup_ne (by assumption)]; assumption) | (rw [mup_ne (by assumption)]; exact mup_self) | (rw [mup_ne (by assumption), mup_ne (by assumption)]; assumption)) rfl wim_X7_findCommon wse_X7_findCommon ⟨Nat.le_of_ble_eq_true rfl, Nat.le_of_ble_eq_true rfl⟩ rfl rfl (Nat.le_of_ble_eq_true rfl) ⟨Nat.le_of_ble_eq_true rfl, Nat.le_of_ble_eq_true rfl⟩ dX7_gcd_54 (fun h4 hp => ?_)
        obtain ⟨hf4, Q, hq4, q3, qk⟩ := hp
        rw [e0, e1] at q3
        have hu4 := rU_n hu3 hf4 hq4
        have v1 := hu4.2.1.1
        have q7 : Q 7 = P 7 := by rw [qk 7 (by decide) (by decide) (by decide), updP_n (by decide), updP_n (by decide)]
        refine zi_aload_n X dX7_gcd_57 rfl rfl ?_
        refine zi_aload_n X dX7_gcd_58 rfl rfl ?_
        refine zi_getf (C := RX7) (T := TX7) (N := 27) (ci := 11) X (by first | assumption | exact mup_self | (rw [mup_ne (by assumption)]; assumption) | (rw [mup_ne (by assumption)]; exact mup_self) | (rw [mup_ne (by assumption), mup_ne (by assumption)]; assumption)) rfl in_X7 11 (by decide) wf_X7_42 rfl rfl dX7_gcd_59 ?_
        refine zi_iload_n X dX7_gcd_62 rfl rfl ?_
        refine zi_iconst (v := (nI 2)) X dX7_gcd_63 (by decide) ?_
        refine zi_callVi X (u_comesGreat l D hu4 (j := 3) (by decide) (by rw [q3]; exact (hz i j hi hj).2) hk) kc_X7_comesGreat wm_X7_240 (by first | assumption | exact mup_self | (rw [mup_ne (by assumption)]; assumption) | (rw [mup_ne (by assumption)]; exact mup_self) | (rw [mup_ne (by assumption), mup_ne (by assumption)]; assumption)) rfl wim_X7_comesGreat wse_X7_comesGreat ⟨Nat.le_of_ble_eq_true rfl, Nat.le_of_ble_eq_true rfl⟩ rfl rfl (Nat.le_of_ble_eq_true rfl) ⟨Nat.le_of_ble_eq_true rfl, Nat.le_of_ble_eq_true rfl⟩ dX7_gcd_64 (fun r h5 hp => ?_)
        rw [q3] at hp
        refine zi_ireturn X Vz dX7_gcd_67 ?_
        refine Or.inr ⟨i, j, k, hi, rfl, hj, rfl, hk, rfl, ?_⟩
        rcases hp with ⟨a1, a2, a3⟩ | ⟨a1, a2⟩
        · exact Or.inl ⟨a1, a2, Q, a3, q7⟩
        · exact Or.inr ⟨a1, Q, a2, q7⟩
      · refine zi_if_ne (tgt := 27) X dX7_gcd_18 (by decide) (fun c_18 => (by first | exact absurd (by decide) c_18 | exact absurd c_18 (by decide))) (fun c_18 => ?_)
        exact zi_sub (by repeat (first | exact trivial | refine And.intro rfl ?_)) (f1 (Or.inr (Or.inr q3)))
    · refine zi_if_eq (tgt := 21) X dX7_gcd_11 (by decide) (fun c_11 => ?_) (fun c_11 => (by first | exact absurd (by decide) c_11 | exact absurd c_11 (by decide)))
      exact zi_sub (by repeat (first | exact trivial | refine And.intro rfl ?_)) (f1 (Or.inr (Or.inl q2)))
  · refine zi_if_eq (tgt := 21) X dX7_gcd_4 (by decide) (fun c_4 => ?_) (fun c_4 => (by first | exact absurd (by decide) c_4 | exact absurd c_4 (by decide)))
    exact zi_sub (by repeat (first | exact trivial | refine And.intro rfl ?_)) (f1 (Or.inl q1))
theorem u_squareFreePart (l : Launch) (D : va_G) (hu : rU cA M h o Sl kp cap n V P) (hb : slB Sl) (hz : ∀ i, i < 5 → stI (Sl i) 7 ≠ 0 → frOk (Sl i) ∧ pC (frP (Sl i))) {a b : Int32} :
    mCi l yX7_squareFreePart cX7_squareFreePart 3 .int (rmd 9) D (mT cA) [.ref (M 3 0), .int a, .int b] h (fun r h1 => (¬ inR a 5 ∨ ¬ inR b 5) ∧ uT cA M o kp cap n V P 1 Sl h1 ∨ ∃ i k, i < 5 ∧ a = nI i ∧ k < 5 ∧ b = nI k ∧ (stI (Sl i) 7 = 0 ∧ uT cA M o kp cap n V P 2 Sl h1 ∨ stI (Sl i) 7 ≠ 0 ∧ (okG (frP (Sl i)) ∧ r = iI (sDeg (frP (Sl i))) ∧ uT cA M o kp cap n V P 0 (setS Sl k (tr (frP (Sl i)))) h1 ∨ ¬ okG (frP (Sl i)) ∧ uT cA M o kp cap n V P 3 Sl h1))) := by
  have x1 := hu.2.1.1
  have x2 := hu.2.1.2.1
  refine mEnter_i (by decide) (Nat.le_of_ble_eq_true rfl) rfl (fun z X Vz => ?_)
  have f1 : (¬ inR a 5 ∨ ¬ inR b 5) → zM z 0 0 14 [some (.ref (M 3 0)), some (.int a), some (.int b)] [] h := fun q => by
    refine zi_aload_n X dX7_squareFreePart_14 rfl rfl ?_
    refine zi_iconst (v := (nI 1)) X dX7_squareFreePart_15 (by decide) ?_
    refine zi_callVi X (u_fails l D hu) kc_X7_fails wm_X7_212 (by first | assumption | exact mup_self | (rw [mup_ne (by assumption)]; assumption) | (rw [mup_ne (by assumption)]; exact mup_self) | (rw [mup_ne (by assumption), mup_ne (by assumption)]; assumption)) rfl wim_X7_fails wse_X7_fails ⟨Nat.le_of_ble_eq_true rfl, Nat.le_of_ble_eq_true rfl⟩ rfl rfl (Nat.le_of_ble_eq_true rfl) ⟨Nat.le_of_ble_eq_true rfl, Nat.le_of_ble_eq_true rfl⟩ dX7_squareFreePart_16 (fun r h1 hp => ?_)
    refine zi_ireturn X Vz dX7_squareFreePart_19 ?_
    exact Or.inl ⟨q, uT_of hp.2⟩
  refine zi_iload_n X dX7_squareFreePart_0 rfl rfl ?_
  refine zi_callSi X (s_isSlot l D) kc_X7_isSlot wm_X7_228 wst_X7_isSlot ⟨Nat.le_of_ble_eq_true rfl, Nat.le_of_ble_eq_true rfl⟩ rfl rfl (Nat.le_of_ble_eq_true rfl) ⟨Nat.le_of_ble_eq_true rfl, Nat.le_of_ble_eq_true rfl⟩ dX7_squareFreePart_1 (fun r h1 hp => ?_)
  obtain ⟨rfl, ⟨q1, rfl⟩ | ⟨q1, rfl⟩⟩ := hp
  · refine zi_if_eq (tgt := 14) X dX7_squareFreePart_4 (by decide) (fun c_4 => (by first | exact absurd (by decide) c_4 | exact absurd c_4 (by decide))) (fun c_4 => ?_)
    refine zi_iload_n X dX7_squareFreePart_7 rfl rfl ?_
    refine zi_callSi X (s_isSlot l D) kc_X7_isSlot wm_X7_228 wst_X7_isSlot ⟨Nat.le_of_ble_eq_true rfl, Nat.le_of_ble_eq_true rfl⟩ rfl rfl (Nat.le_of_ble_eq_true rfl) ⟨Nat.le_of_ble_eq_true rfl, Nat.le_of_ble_eq_true rfl⟩ dX7_squareFreePart_8 (fun r h1 hp => ?_)
    obtain ⟨rfl, ⟨q2, rfl⟩ | ⟨q2, rfl⟩⟩ := hp
    · obtain ⟨i, hi, rfl⟩ := q1
      obtain ⟨k, hk, rfl⟩ := q2
      have y3 := hu.2.1.2.2.1 i hi
      refine zi_if_ne (tgt := 20) X dX7_squareFreePart_11 (by decide) (fun c_11 => ?_) (fun c_11 => (by first | exact absurd (by decide) c_11 | exact absurd c_11 (by decide)))
      refine zi_aload_n X dX7_squareFreePart_20 rfl rfl ?_
      refine zi_iload_n X dX7_squareFreePart_21 rfl rfl ?_
      refine zi_callVi X (u_isZero l D hu hi (fun t ht => hb i t hi ht)) kc_X7_isZero wm_X7_244 (by first | assumption | exact mup_self | (rw [mup_ne (by assumption)]; assumption) | (rw [mup_ne (by assumption)]; exact mup_self) | (rw [mup_ne (by assumption), mup_ne (by assumption)]; assumption)) rfl wim_X7_isZero wse_X7_isZero ⟨Nat.le_of_ble_eq_true rfl, Nat.le_of_ble_eq_true rfl⟩ rfl rfl (Nat.le_of_ble_eq_true rfl) ⟨Nat.le_of_ble_eq_true rfl, Nat.le_of_ble_eq_true rfl⟩ dX7_squareFreePart_22 (fun r h2 hp => ?_)
      obtain ⟨rfl, ⟨c0, rfl⟩ | ⟨c0, rfl⟩⟩ := hp
      · refine zi_if_eq (tgt := 34) X dX7_squareFreePart_25 (by decide) (fun c_25 => (by first | exact absurd (by decide) c_25 | exact absurd c_25 (by decide))) (fun c_25 => ?_)
        refine zi_aload_n X dX7_squareFreePart_28 rfl rfl ?_
        refine zi_iconst (v := (nI 2)) X dX7_squareFreePart_29 (by decide) ?_
        refine zi_callVi X (u_fails l D hu) kc_X7_fails wm_X7_212 (by first | assumption | exact mup_self | (rw [mup_ne (by assumption)]; assumption) | (rw [mup_ne (by assumption)]; exact mup_self) | (rw [mup_ne (by assumption), mup_ne (by assumption)]; assumption)) rfl wim_X7_fails wse_X7_fails ⟨Nat.le_of_ble_eq_true rfl, Nat.le_of_ble_eq_true rfl⟩ rfl rfl (Nat.le_of_ble_eq_true rfl) ⟨Nat.le_of_ble_eq_true rfl, Nat.le_of_ble_eq_true rfl⟩ dX7_squareFreePart_30 (fun r h3 hp => ?_)
        refine zi_ireturn X Vz dX7_squareFreePart_33 ?_
        exact Or.inr ⟨i, k, hi, rfl, hk, rfl, Or.inl ⟨c0, uT_of hp.2⟩⟩
      · refine zi_if_eq (tgt := 34) X dX7_squareFreePart_25 (by decide) (fun c_25 => ?_) (fun c_25 => (by first | exact absurd (by decide) c_25 | exact absurd c_25 (by decide)))
        refine zi_aload_n X dX7_squareFreePart_34 rfl rfl ?_
        refine zi_getf (C := RX7) (T := TX7) (N := 27) (ci := 11) X (by first | assumption | exact mup_self | (rw [mup_ne (by assumption)]; assumption) | (rw [mup_ne (by assumption)]; exact mup_self) | (rw [mup_ne (by assumption), mup_ne (by assumption)]; assumption)) rfl in_X7 1 (by decide) wf_X7_11 rfl rfl dX7_squareFreePart_35 ?_
        refine zi_iload_n X dX7_squareFreePart_38 rfl rfl ?_
        refine zi_aaldA X 4 (by first | assumption | exact mup_self | (rw [mup_ne (by assumption)]; assumption) | (rw [mup_ne (by assumption)]; exact mup_self) | (rw [mup_ne (by assumption), mup_ne (by assumption)]; assumption)) rfl (vin hi (by decide)) (sl4_at hi) dX7_squareFreePart_39 ?_
        refine zi_aload_n X dX7_squareFreePart_40 rfl rfl ?_
        refine zi_getf (C := RX7) (T := TX7) (N := 27) (ci := 11) X (by first | assumption | exact mup_self | (rw [mup_ne (by assumption)]; assumption) | (rw [mup_ne (by assumption)]; exact mup_self) | (rw [mup_ne (by assumption), mup_ne (by assumption)]; assumption)) rfl in_X7 17 (by decide) wf_X7_63 rfl rfl dX7_squareFreePart_41 ?_
        refine zi_callSv X (r_loadS l D hu.1 (j := 6) (by decide) y3 (fun t ht => hb i t hi ht)) kc_X7_load wm_X7_236 wst_X7_load ⟨Nat.le_of_ble_eq_true rfl, Nat.le_of_ble_eq_true rfl⟩ rfl rfl (Nat.le_of_ble_eq_true rfl) ⟨Nat.le_of_ble_eq_true rfl, Nat.le_of_ble_eq_true rfl⟩ dX7_squareFreePart_44 (fun h3 hp => ?_)
        obtain ⟨hf3, hq3⟩ := hp
        have hu3 := rU_n hu hf3 hq3
        have z1 := hu3.2.1.1
        have zk := hz i hi c0
        refine zi_aload_n X dX7_squareFreePart_47 rfl rfl ?_
        refine zi_aload_n X dX7_squareFreePart_48 rfl rfl ?_
        refine zi_getf (C := RX7) (T := TX7) (N := 27) (ci := 11) X (by first | assumption | exact mup_self | (rw [mup_ne (by assumption)]; assumption) | (rw [mup_ne (by assumption)]; exact mup_self) | (rw [mup_ne (by assumption), mup_ne (by assumption)]; assumption)) rfl in_X7 17 (by decide) wf_X7_63 rfl rfl dX7_squareFreePart_49 ?_
        refine zi_callVv X (r_findFree l D z1 hu3.1 (j := 6) (by decide) (by decide) (by rw [updP_s]; exact zk.1)) kc_X7_findFree wm_X7_247 (by first | assumption | exact mup_self | (rw [mup_ne (by assumption)]; assumption) | (rw [mup_ne (by assumption)]; exact mup_self) | (rw [mup_ne (by assumption), mup_ne (by assumption)]; assumption)) rfl wim_X7_findFree wse_X7_findFree ⟨Nat.le_of_ble_eq_true rfl, Nat.le_of_ble_eq_true rfl⟩ rfl rfl (Nat.le_of_ble_eq_true rfl) ⟨Nat.le_of_ble_eq_true rfl, Nat.le_of_ble_eq_true rfl⟩ dX7_squareFreePart_52 (fun h4 hp => ?_)
        obtain ⟨hf4, Q, hq4, -, q4, qk⟩ := hp
        rw [updP_s] at q4
        have hu4 := rU_n hu3 hf4 hq4
        have v1 := hu4.2.1.1
        have q7 : Q 7 = P 7 := by rw [qk 7 (by decide), updP_n (by decide)]
        refine zi_aload_n X dX7_squareFreePart_55 rfl rfl ?_
        refine zi_aload_n X dX7_squareFreePart_56 rfl rfl ?_
        refine zi_getf (C := RX7) (T := TX7) (N := 27) (ci := 11) X (by first | assumption | exact mup_self | (rw [mup_ne (by assumption)]; assumption) | (rw [mup_ne (by assumption)]; exact mup_self) | (rw [mup_ne (by assumption), mup_ne (by assumption)]; assumption)) rfl in_X7 12 (by decide) wf_X7_45 rfl rfl dX7_squareFreePart_57 ?_
        refine zi_iload_n X dX7_squareFreePart_60 rfl rfl ?_
        refine zi_iconst (v := (nI 3)) X dX7_squareFreePart_61 (by decide) ?_
        refine zi_callVi X (u_comesGreat l D hu4 (j := 4) (by decide) (by rw [q4]; exact zk.2) hk) kc_X7_comesGreat wm_X7_240 (by first | assumption | exact mup_self | (rw [mup_ne (by assumption)]; assumption) | (rw [mup_ne (by assumption)]; exact mup_self) | (rw [mup_ne (by assumption), mup_ne (by assumption)]; assumption)) rfl wim_X7_comesGreat wse_X7_comesGreat ⟨Nat.le_of_ble_eq_true rfl, Nat.le_of_ble_eq_true rfl⟩ rfl rfl (Nat.le_of_ble_eq_true rfl) ⟨Nat.le_of_ble_eq_true rfl, Nat.le_of_ble_eq_true rfl⟩ dX7_squareFreePart_62 (fun r h5 hp => ?_)
        rw [q4] at hp
        refine zi_ireturn X Vz dX7_squareFreePart_65 ?_
        refine Or.inr ⟨i, k, hi, rfl, hk, rfl, Or.inr ⟨c0, ?_⟩⟩
        rcases hp with ⟨a1, a2, a3⟩ | ⟨a1, a2⟩
        · exact Or.inl ⟨a1, a2, Q, a3, q7⟩
        · exact Or.inr ⟨a1, Q, a2, q7⟩
    · refine zi_if_ne (tgt := 20) X dX7_squareFreePart_11 (by decide) (fun c_11 => (by first | exact absurd (by decide) c_11 | exact absurd c_11 (by decide))) (fun c_11 => ?_)
      exact zi_sub (by repeat (first | exact trivial | refine And.intro rfl ?_)) (f1 (Or.inr q2))
  · refine zi_if_eq (tgt := 14) X dX7_squareFreePart_4 (by decide) (fun c_4 => ?_) (fun c_4 => (by first | exact absurd (by decide) c_4 | exact absurd c_4 (by decide)))
    exact zi_sub (by repeat (first | exact trivial | refine And.intro rfl ?_)) (f1 (Or.inl q1))
theorem u_findRow (l : Launch) (D : va_G) (hu : rU cA M h o Sl kp cap n V P) (hb : slB Sl) {i L : Nat} (hi : i < 5) (hL : rwOk (Sl i) L) :
    mCv l yX7_findRow cX7_findRow 2 (rmd 8) D (mT cA) [.ref (M 3 0), .int (nI i)] h (fun h1 => ∃ P', rU cA M h1 (o.1, nI L, o.2.2) Sl kp cap n V P' ∧ P' 7 = P 7 ∧ ∀ t, t < L → P' (8 + t) = rwE (Sl i) t) := by
  have x1 := hu.2.1.1
  have x2 := hu.2.1.2.1
  have x6 := hu.2.1.2.2.2.2.2.1
  have y3 := hu.2.1.2.2.1 i hi
  obtain ⟨l1, l7, lp, ld, lc, lz, lL, lr⟩ := hL
  refine mEnter_v (by decide) (Nat.le_of_ble_eq_true rfl) rfl (fun z X Vz => ?_)
  refine zi_aload_n X dX7_findRow_0 rfl rfl ?_
  refine zi_getf (C := RX7) (T := TX7) (N := 27) (ci := 11) X (by first | assumption | exact mup_self | (rw [mup_ne (by assumption)]; assumption) | (rw [mup_ne (by assumption)]; exact mup_self) | (rw [mup_ne (by assumption), mup_ne (by assumption)]; assumption)) rfl in_X7 1 (by decide) wf_X7_11 rfl rfl dX7_findRow_1 ?_
  refine zi_iload_n X dX7_findRow_4 rfl rfl ?_
  refine zi_aaldA X 4 (by first | assumption | exact mup_self | (rw [mup_ne (by assumption)]; assumption) | (rw [mup_ne (by assumption)]; exact mup_self) | (rw [mup_ne (by assumption), mup_ne (by assumption)]; assumption)) rfl (vin hi (by decide)) (sl4_at hi) dX7_findRow_5 ?_
  refine zi_aload_n X dX7_findRow_6 rfl rfl ?_
  refine zi_getf (C := RX7) (T := TX7) (N := 27) (ci := 11) X (by first | assumption | exact mup_self | (rw [mup_ne (by assumption)]; assumption) | (rw [mup_ne (by assumption)]; exact mup_self) | (rw [mup_ne (by assumption), mup_ne (by assumption)]; assumption)) rfl in_X7 18 (by decide) wf_X7_66 rfl rfl dX7_findRow_7 ?_
  refine zi_iconst (v := (nI 0)) X dX7_findRow_10 (by decide) ?_
  refine zi_aaldA X 5 (by first | assumption | exact mup_self | (rw [mup_ne (by assumption)]; assumption) | (rw [mup_ne (by assumption)]; exact mup_self) | (rw [mup_ne (by assumption), mup_ne (by assumption)]; assumption)) rfl (vin (show 0 < 8 by decide) (by decide)) (r8_at (d := 0) rfl (by decide)) dX7_findRow_11 ?_
  refine zi_callSv X (r_loadS l D hu.1 (j := 8) (by decide) y3 (fun t ht => hb i t hi ht)) kc_X7_load wm_X7_236 wst_X7_load ⟨Nat.le_of_ble_eq_true rfl, Nat.le_of_ble_eq_true rfl⟩ rfl rfl (Nat.le_of_ble_eq_true rfl) ⟨Nat.le_of_ble_eq_true rfl, Nat.le_of_ble_eq_true rfl⟩ dX7_findRow_12 (fun h2 hp => ?_)
  obtain ⟨hf2, hq2⟩ := hp
  have hu2 := rU_n hu hf2 hq2
  have z1 := hu2.2.1.1
  have z6 := hu2.2.1.2.2.2.2.2.1
  refine zi_aload_n X dX7_findRow_15 rfl rfl ?_
  refine zi_getf (C := RX7) (T := TX7) (N := 27) (ci := 11) X (by first | assumption | exact mup_self | (rw [mup_ne (by assumption)]; assumption) | (rw [mup_ne (by assumption)]; exact mup_self) | (rw [mup_ne (by assumption), mup_ne (by assumption)]; assumption)) rfl in_X7 18 (by decide) wf_X7_66 rfl rfl dX7_findRow_16 ?_
  refine zi_iconst (v := (nI 0)) X dX7_findRow_19 (by decide) ?_
  refine zi_aaldA X 5 (by first | assumption | exact mup_self | (rw [mup_ne (by assumption)]; assumption) | (rw [mup_ne (by assumption)]; exact mup_self) | (rw [mup_ne (by assumption), mup_ne (by assumption)]; assumption)) rfl (vin (show 0 < 8 by decide) (by decide)) (r8_at (d := 0) rfl (by decide)) dX7_findRow_20 ?_
  refine zi_aload_n X dX7_findRow_21 rfl rfl ?_
  refine zi_getf (C := RX7) (T := TX7) (N := 27) (ci := 11) X (by first | assumption | exact mup_self | (rw [mup_ne (by assumption)]; assumption) | (rw [mup_ne (by assumption)]; exact mup_self) | (rw [mup_ne (by assumption), mup_ne (by assumption)]; assumption)) rfl in_X7 18 (by decide) wf_X7_66 rfl rfl dX7_findRow_22 ?_
  refine zi_iconst (v := (nI 1)) X dX7_findRow_25 (by decide) ?_
  refine zi_aaldA X 5 (by first | assumption | exact mup_self | (rw [mup_ne (by assumption)]; assumption) | (rw [mup_ne (by assumption)]; exact mup_self) | (rw [mup_ne (by assumption), mup_ne (by assumption)]; assumption)) rfl (vin (show 1 < 8 by decide) (by decide)) (r8_at (d := 1) rfl (by decide)) dX7_findRow_26 ?_
  refine zi_callSv X (r_derive l D hu2.1 (j := 9) (j2 := 8) (by decide) (by decide) (by decide)) kc_X7_derive wm_X7_188 wst_X7_derive ⟨Nat.le_of_ble_eq_true rfl, Nat.le_of_ble_eq_true rfl⟩ rfl rfl (Nat.le_of_ble_eq_true rfl) ⟨Nat.le_of_ble_eq_true rfl, Nat.le_of_ble_eq_true rfl⟩ dX7_findRow_27 (fun h3 hp => ?_)
  obtain ⟨hf3, hq3⟩ := hp
  rw [updP_s] at hq3
  have hu3 := rU_n hu2 hf3 hq3
  have w1 := hu3.2.1.1
  have w6 := hu3.2.1.2.2.2.2.2.1
  refine zi_aload_n X dX7_findRow_30 rfl rfl ?_
  refine zi_aload_n X dX7_findRow_31 rfl rfl ?_
  refine zi_getf (C := RX7) (T := TX7) (N := 27) (ci := 11) X (by first | assumption | exact mup_self | (rw [mup_ne (by assumption)]; assumption) | (rw [mup_ne (by assumption)]; exact mup_self) | (rw [mup_ne (by assumption), mup_ne (by assumption)]; assumption)) rfl in_X7 18 (by decide) wf_X7_66 rfl rfl dX7_findRow_32 ?_
  refine zi_iconst (v := (nI 0)) X dX7_findRow_35 (by decide) ?_
  refine zi_aaldA X 5 (by first | assumption | exact mup_self | (rw [mup_ne (by assumption)]; assumption) | (rw [mup_ne (by assumption)]; exact mup_self) | (rw [mup_ne (by assumption), mup_ne (by assumption)]; assumption)) rfl (vin (show 0 < 8 by decide) (by decide)) (r8_at (d := 0) rfl (by decide)) dX7_findRow_36 ?_
  refine zi_callVv X (r_primitive l D w1 hu3.1 (j := 8) (by decide) (by rw [updP_n (by decide), updP_s]; exact lp)) kc_X7_primitive wm_X7_176 (by first | assumption | exact mup_self | (rw [mup_ne (by assumption)]; assumption) | (rw [mup_ne (by assumption)]; exact mup_self) | (rw [mup_ne (by assumption), mup_ne (by assumption)]; assumption)) rfl wim_X7_primitive wse_X7_primitive ⟨Nat.le_of_ble_eq_true rfl, Nat.le_of_ble_eq_true rfl⟩ rfl rfl (Nat.le_of_ble_eq_true rfl) ⟨Nat.le_of_ble_eq_true rfl, Nat.le_of_ble_eq_true rfl⟩ dX7_findRow_37 (fun h4 hp => ?_)
  obtain ⟨hf4, hq4⟩ := hp
  rw [updP_n (by decide), updP_s] at hq4
  have hu4 := rU_n hu3 hf4 hq4
  have v1 := hu4.2.1.1
  have v6 := hu4.2.1.2.2.2.2.2.1
  refine zi_aload_n X dX7_findRow_40 rfl rfl ?_
  refine zi_aload_n X dX7_findRow_41 rfl rfl ?_
  refine zi_getf (C := RX7) (T := TX7) (N := 27) (ci := 11) X (by first | assumption | exact mup_self | (rw [mup_ne (by assumption)]; assumption) | (rw [mup_ne (by assumption)]; exact mup_self) | (rw [mup_ne (by assumption), mup_ne (by assumption)]; assumption)) rfl in_X7 18 (by decide) wf_X7_66 rfl rfl dX7_findRow_42 ?_
  refine zi_iconst (v := (nI 1)) X dX7_findRow_45 (by decide) ?_
  refine zi_aaldA X 5 (by first | assumption | exact mup_self | (rw [mup_ne (by assumption)]; assumption) | (rw [mup_ne (by assumption)]; exact mup_self) | (rw [mup_ne (by assumption), mup_ne (by assumption)]; assumption)) rfl (vin (show 1 < 8 by decide) (by decide)) (r8_at (d := 1) rfl (by decide)) dX7_findRow_46 ?_
  refine zi_callVv X (r_primitive l D v1 hu4.1 (j := 9) (by decide) (by rw [updP_n (by decide), updP_s]; exact ld)) kc_X7_primitive wm_X7_176 (by first | assumption | exact mup_self | (rw [mup_ne (by assumption)]; assumption) | (rw [mup_ne (by assumption)]; exact mup_self) | (rw [mup_ne (by assumption), mup_ne (by assumption)]; assumption)) rfl wim_X7_primitive wse_X7_primitive ⟨Nat.le_of_ble_eq_true rfl, Nat.le_of_ble_eq_true rfl⟩ rfl rfl (Nat.le_of_ble_eq_true rfl) ⟨Nat.le_of_ble_eq_true rfl, Nat.le_of_ble_eq_true rfl⟩ dX7_findRow_47 (fun h5 hp => ?_)
  obtain ⟨hf5, hq5⟩ := hp
  rw [updP_n (by decide), updP_s] at hq5
  have hu5 := rU_n hu4 hf5 hq5
  generalize hP5 : updP (updP (updP (updP P 8 (Sl i)) 9 (derI (Sl i))) 8 (prm (Sl i))) 9 (prm (derI (Sl i))) = P5 at hu5
  have p8 : P5 8 = rwE (Sl i) 0 := by rw [← hP5, updP_n (by decide), updP_s]; rfl
  have p9 : P5 9 = rwE (Sl i) 1 := by rw [← hP5, updP_s]; rfl
  have p7 : P5 7 = P 7 := by rw [← hP5, updP_n (by decide), updP_n (by decide), updP_n (by decide), updP_n (by decide)]
  have t1 := hu5.2.1.1
  have t6 := hu5.2.1.2.2.2.2.2.1
  have pc9 : pC (rwE (Sl i) 1) := pC_prm ld
  refine zi_aload_n X dX7_findRow_50 rfl rfl ?_
  refine zi_aload_n X dX7_findRow_51 rfl rfl ?_
  refine zi_getf (C := RX7) (T := TX7) (N := 27) (ci := 11) X (by first | assumption | exact mup_self | (rw [mup_ne (by assumption)]; assumption) | (rw [mup_ne (by assumption)]; exact mup_self) | (rw [mup_ne (by assumption), mup_ne (by assumption)]; assumption)) rfl in_X7 18 (by decide) wf_X7_66 rfl rfl dX7_findRow_52 ?_
  refine zi_iconst (v := (nI 1)) X dX7_findRow_55 (by decide) ?_
  refine zi_aaldA X 5 (by first | assumption | exact mup_self | (rw [mup_ne (by assumption)]; assumption) | (rw [mup_ne (by assumption)]; exact mup_self) | (rw [mup_ne (by assumption), mup_ne (by assumption)]; assumption)) rfl (vin (show 1 < 8 by decide) (by decide)) (r8_at (d := 1) rfl (by decide)) dX7_findRow_56 ?_
  refine zi_callSi X (r_degree l D hu5.1 (j := 9) (by decide) (by rw [p9]; exact pc9)) kc_X7_degree wm_X7_166 wst_X7_degree ⟨Nat.le_of_ble_eq_true rfl, Nat.le_of_ble_eq_true rfl⟩ rfl rfl (Nat.le_of_ble_eq_true rfl) ⟨Nat.le_of_ble_eq_true rfl, Nat.le_of_ble_eq_true rfl⟩ dX7_findRow_57 (fun r h6 hp => ?_)
  obtain ⟨rfl, rfl⟩ := hp
  rw [p9]
  -- the loop
  have loop : ∀ w s (g : mH) (Q : Nat → Nat → Int), s + w = L → 2 ≤ s → rU cA M g (o.1, nI s, o.2.2) Sl kp cap n V Q → Q 7 = P 7 → (∀ t, t < s → Q (8 + t) = rwE (Sl i) t) → zM z 0 0 71 [some (.ref (M 3 0)), some (.int (nI i))] [] g := by
    intro w
    induction w with
    | zero =>
      intro s g Q hs s2 hu q7 qr
      obtain rfl : s = L := by omega
      obtain ⟨s, rfl⟩ : ∃ t, s = t + 2 := ⟨s - 2, by omega⟩
      have x1 := hu.2.1.1
      have x6 := hu.2.1.2.2.2.2.2.1
      have e2 : nI (s + 2) - nI 2 = nI s := by rw [pk_sub (by omega)]; rfl
      have e1 : nI (s + 2) - nI 1 = nI (s + 1) := nI_pr (s + 1)
      refine zi_aload_n X dX7_findRow_71 rfl rfl ?_
      refine zi_getf (C := RX7) (T := TX7) (N := 27) (ci := 11) X (by first | assumption | exact mup_self | (rw [mup_ne (by assumption)]; assumption) | (rw [mup_ne (by assumption)]; exact mup_self) | (rw [mup_ne (by assumption), mup_ne (by assumption)]; assumption)) rfl in_X7 19 (by decide) wf_X7_250 rfl rfl dX7_findRow_72 ?_
      refine zi_iconst (v := (nI 1)) X dX7_findRow_75 (by decide) ?_
      refine zi_icmp_le (tgt := 163) X dX7_findRow_76 (by decide) (fun c_76 => (by first | exact absurd (fun q => by have := (nI_leI (a := s + 2) (b := 1) (by omega) (by decide)).mp q; omega) c_76 | exact absurd c_76 (fun q => by have := (nI_leI (a := s + 2) (b := 1) (by omega) (by decide)).mp q; omega))) (fun c_76 => ?_)
      refine zi_aload_n X dX7_findRow_79 rfl rfl ?_
      refine zi_getf (C := RX7) (T := TX7) (N := 27) (ci := 11) X (by first | assumption | exact mup_self | (rw [mup_ne (by assumption)]; assumption) | (rw [mup_ne (by assumption)]; exact mup_self) | (rw [mup_ne (by assumption), mup_ne (by assumption)]; assumption)) rfl in_X7 18 (by decide) wf_X7_66 rfl rfl dX7_findRow_80 ?_
      refine zi_aload_n X dX7_findRow_83 rfl rfl ?_
      refine zi_getf (C := RX7) (T := TX7) (N := 27) (ci := 11) X (by first | assumption | exact mup_self | (rw [mup_ne (by assumption)]; assumption) | (rw [mup_ne (by assumption)]; exact mup_self) | (rw [mup_ne (by assumption), mup_ne (by assumption)]; assumption)) rfl in_X7 19 (by decide) wf_X7_250 rfl rfl dX7_findRow_84 ?_
      refine zi_iconst (v := (nI 2)) X dX7_findRow_87 (by decide) ?_
      refine zi_isub X dX7_findRow_88 ?_
      refine zi_aaldA X 5 (by first | assumption | exact mup_self | (rw [mup_ne (by assumption)]; assumption) | (rw [mup_ne (by assumption)]; exact mup_self) | (rw [mup_ne (by assumption), mup_ne (by assumption)]; assumption)) rfl (by rw [e2]; exact vin (show s < 8 by omega) (by decide)) (r8_at (d := s) e2 (by omega)) dX7_findRow_89 ?_
      refine zi_aload_n X dX7_findRow_90 rfl rfl ?_
      refine zi_getf (C := RX7) (T := TX7) (N := 27) (ci := 11) X (by first | assumption | exact mup_self | (rw [mup_ne (by assumption)]; assumption) | (rw [mup_ne (by assumption)]; exact mup_self) | (rw [mup_ne (by assumption), mup_ne (by assumption)]; assumption)) rfl in_X7 10 (by decide) wf_X7_39 rfl rfl dX7_findRow_91 ?_
      refine zi_callSv X (r_copy l D hu.1 (j := 2) (j2 := 8 + s) (by decide) (by omega) (by omega)) kc_X7_copy_ wm_X7_186 wst_X7_copy_ ⟨Nat.le_of_ble_eq_true rfl, Nat.le_of_ble_eq_true rfl⟩ rfl rfl (Nat.le_of_ble_eq_true rfl) ⟨Nat.le_of_ble_eq_true rfl, Nat.le_of_ble_eq_true rfl⟩ dX7_findRow_94 (fun h7 hp => ?_)
      obtain ⟨hf7, hq7⟩ := hp
      have hu7 := rU_n hu hf7 hq7
      have y1 := hu7.2.1.1
      have y6 := hu7.2.1.2.2.2.2.2.1
      have q2 : updP Q 2 (Q (8 + s)) 2 = rwE (Sl i) s := by rw [updP_s, qr s (by omega)]
      have q3 : updP Q 2 (Q (8 + s)) (8 + (s + 1)) = rwE (Sl i) (s + 1) := by rw [updP_n (by omega), qr (s + 1) (by omega)]
      have lr2 := lr s (by omega)
      refine zi_aload_n X dX7_findRow_97 rfl rfl ?_
      refine zi_aload_n X dX7_findRow_98 rfl rfl ?_
      refine zi_getf (C := RX7) (T := TX7) (N := 27) (ci := 11) X (by first | assumption | exact mup_self | (rw [mup_ne (by assumption)]; assumption) | (rw [mup_ne (by assumption)]; exact mup_self) | (rw [mup_ne (by assumption), mup_ne (by assumption)]; assumption)) rfl in_X7 10 (by decide) wf_X7_39 rfl rfl dX7_findRow_99 ?_
      refine zi_aload_n X dX7_findRow_102 rfl rfl ?_
      refine zi_getf (C := RX7) (T := TX7) (N := 27) (ci := 11) X (by first | assumption | exact mup_self | (rw [mup_ne (by assumption)]; assumption) | (rw [mup_ne (by assumption)]; exact mup_self) | (rw [mup_ne (by assumption), mup_ne (by assumption)]; assumption)) rfl in_X7 18 (by decide) wf_X7_66 rfl rfl dX7_findRow_103 ?_
      refine zi_aload_n X dX7_findRow_106 rfl rfl ?_
      refine zi_getf (C := RX7) (T := TX7) (N := 27) (ci := 11) X (by first | assumption | exact mup_self | (rw [mup_ne (by assumption)]; assumption) | (rw [mup_ne (by assumption)]; exact mup_self) | (rw [mup_ne (by assumption), mup_ne (by assumption)]; assumption)) rfl in_X7 19 (by decide) wf_X7_250 rfl rfl dX7_findRow_107 ?_
      refine zi_iconst (v := (nI 1)) X dX7_findRow_110 (by decide) ?_
      refine zi_isub X dX7_findRow_111 ?_
      refine zi_aaldA X 5 (by first | assumption | exact mup_self | (rw [mup_ne (by assumption)]; assumption) | (rw [mup_ne (by assumption)]; exact mup_self) | (rw [mup_ne (by assumption), mup_ne (by assumption)]; assumption)) rfl (by rw [e1]; exact vin (show s + 1 < 8 by omega) (by decide)) (r8_at (d := s + 1) e1 (by omega)) dX7_findRow_112 ?_
      refine zi_callVv X (r_remainder l D y1 hu7.1 (j := 2) (j2 := 8 + (s + 1)) (by decide) (by omega) (by omega) (by rw [q3]; exact lc (s + 1) (by omega)) (by rw [q3]; exact lz (s + 1) (by omega) (by omega)) (n := 8) (by have := stI_le (updP Q 2 (Q (8 + s)) 2) 7; omega) (by rw [q2, q3]; exact lr2.1)) kc_X7_remainder wm_X7_179 (by first | assumption | exact mup_self | (rw [mup_ne (by assumption)]; assumption) | (rw [mup_ne (by assumption)]; exact mup_self) | (rw [mup_ne (by assumption), mup_ne (by assumption)]; assumption)) rfl wim_X7_remainder wse_X7_remainder ⟨Nat.le_of_ble_eq_true rfl, Nat.le_of_ble_eq_true rfl⟩ rfl rfl (Nat.le_of_ble_eq_true rfl) ⟨Nat.le_of_ble_eq_true rfl, Nat.le_of_ble_eq_true rfl⟩ dX7_findRow_113 (fun h8 hp => ?_)
      obtain ⟨hf8, hq8⟩ := hp
      rw [q2, q3] at hq8
      have hu8 := rU_n hu7 hf8 hq8
      have w1 := hu8.2.1.1
      refine zi_aload_n X dX7_findRow_116 rfl rfl ?_
      refine zi_getf (C := RX7) (T := TX7) (N := 27) (ci := 11) X (by first | assumption | exact mup_self | (rw [mup_ne (by assumption)]; assumption) | (rw [mup_ne (by assumption)]; exact mup_self) | (rw [mup_ne (by assumption), mup_ne (by assumption)]; assumption)) rfl in_X7 10 (by decide) wf_X7_39 rfl rfl dX7_findRow_117 ?_
      refine zi_callSi X (r_degree l D hu8.1 (j := 2) (by decide) (by rw [updP_s]; exact lr2.2)) kc_X7_degree wm_X7_166 wst_X7_degree ⟨Nat.le_of_ble_eq_true rfl, Nat.le_of_ble_eq_true rfl⟩ rfl rfl (Nat.le_of_ble_eq_true rfl) ⟨Nat.le_of_ble_eq_true rfl, Nat.le_of_ble_eq_true rfl⟩ dX7_findRow_120 (fun r h9 hp => ?_)
      obtain ⟨rfl, rfl⟩ := hp
      have z0 : stI (rmF 8 (rwE (Sl i) s) (rwE (Sl i) (s + 1))) 7 = 0 := by
        have := lL
        rw [rwE, stI_neg] at this
        exact this
      rw [updP_s, z0]
      refine zi_if_ge (tgt := 127) X dX7_findRow_123 (by decide) (fun c_123 => (by first | exact absurd (by decide) c_123 | exact absurd c_123 (by decide))) (fun c_123 => ?_)
      refine zi_return X Vz dX7_findRow_126 ?_
      exact ⟨_, hu8, by rw [updP_n (by decide), updP_n (by decide)]; exact q7, fun t ht => by rw [updP_n (by omega), updP_n (by omega)]; exact qr t ht⟩
    | succ w ih =>
      intro s g Q hs s2 hu q7 qr
      obtain ⟨s, rfl⟩ : ∃ t, s = t + 2 := ⟨s - 2, by omega⟩
      have x1 := hu.2.1.1
      have x6 := hu.2.1.2.2.2.2.2.1
      have e2 : nI (s + 2) - nI 2 = nI s := by rw [pk_sub (by omega)]; rfl
      have e1 : nI (s + 2) - nI 1 = nI (s + 1) := nI_pr (s + 1)
      refine zi_aload_n X dX7_findRow_71 rfl rfl ?_
      refine zi_getf (C := RX7) (T := TX7) (N := 27) (ci := 11) X (by first | assumption | exact mup_self | (rw [mup_ne (by assumption)]; assumption) | (rw [mup_ne (by assumption)]; exact mup_self) | (rw [mup_ne (by assumption), mup_ne (by assumption)]; assumption)) rfl in_X7 19 (by decide) wf_X7_250 rfl rfl dX7_findRow_72 ?_
      refine zi_iconst (v := (nI 1)) X dX7_findRow_75 (by decide) ?_
      refine zi_icmp_le (tgt := 163) X dX7_findRow_76 (by decide) (fun c_76 => (by first | exact absurd (fun q => by have := (nI_leI (a := s + 2) (b := 1) (by omega) (by decide)).mp q; omega) c_76 | exact absurd c_76 (fun q => by have := (nI_leI (a := s + 2) (b := 1) (by omega) (by decide)).mp q; omega))) (fun c_76 => ?_)
      refine zi_aload_n X dX7_findRow_79 rfl rfl ?_
      refine zi_getf (C := RX7) (T := TX7) (N := 27) (ci := 11) X (by first | assumption | exact mup_self | (rw [mup_ne (by assumption)]; assumption) | (rw [mup_ne (by assumption)]; exact mup_self) | (rw [mup_ne (by assumption), mup_ne (by assumption)]; assumption)) rfl in_X7 18 (by decide) wf_X7_66 rfl rfl dX7_findRow_80 ?_
      refine zi_aload_n X dX7_findRow_83 rfl rfl ?_
      refine zi_getf (C := RX7) (T := TX7) (N := 27) (ci := 11) X (by first | assumption | exact mup_self | (rw [mup_ne (by assumption)]; assumption) | (rw [mup_ne (by assumption)]; exact mup_self) | (rw [mup_ne (by assumption), mup_ne (by assumption)]; assumption)) rfl in_X7 19 (by decide) wf_X7_250 rfl rfl dX7_findRow_84 ?_
      refine zi_iconst (v := (nI 2)) X dX7_findRow_87 (by decide) ?_
      refine zi_isub X dX7_findRow_88 ?_
      refine zi_aaldA X 5 (by first | assumption | exact mup_self | (rw [mup_ne (by assumption)]; assumption) | (rw [mup_ne (by assumption)]; exact mup_self) | (rw [mup_ne (by assumption), mup_ne (by assumption)]; assumption)) rfl (by rw [e2]; exact vin (show s < 8 by omega) (by decide)) (r8_at (d := s) e2 (by omega)) dX7_findRow_89 ?_
      refine zi_aload_n X dX7_findRow_90 rfl rfl ?_
      refine zi_getf (C := RX7) (T := TX7) (N := 27) (ci := 11) X (by first | assumption | exact mup_self | (rw [mup_ne (by assumption)]; assumption) | (rw [mup_ne (by assumption)]; exact mup_self) | (rw [mup_ne (by assumption), mup_ne (by assumption)]; assumption)) rfl in_X7 10 (by decide) wf_X7_39 rfl rfl dX7_findRow_91 ?_
      refine zi_callSv X (r_copy l D hu.1 (j := 2) (j2 := 8 + s) (by decide) (by omega) (by omega)) kc_X7_copy_ wm_X7_186 wst_X7_copy_ ⟨Nat.le_of_ble_eq_true rfl, Nat.le_of_ble_eq_true rfl⟩ rfl rfl (Nat.le_of_ble_eq_true rfl) ⟨Nat.le_of_ble_eq_true rfl, Nat.le_of_ble_eq_true rfl⟩ dX7_findRow_94 (fun h7 hp => ?_)
      obtain ⟨hf7, hq7⟩ := hp
      have hu7 := rU_n hu hf7 hq7
      have y1 := hu7.2.1.1
      have y6 := hu7.2.1.2.2.2.2.2.1
      have q2 : updP Q 2 (Q (8 + s)) 2 = rwE (Sl i) s := by rw [updP_s, qr s (by omega)]
      have q3 : updP Q 2 (Q (8 + s)) (8 + (s + 1)) = rwE (Sl i) (s + 1) := by rw [updP_n (by omega), qr (s + 1) (by omega)]
      have lr2 := lr s (by omega)
      refine zi_aload_n X dX7_findRow_97 rfl rfl ?_
      refine zi_aload_n X dX7_findRow_98 rfl rfl ?_
      refine zi_getf (C := RX7) (T := TX7) (N := 27) (ci := 11) X (by first | assumption | exact mup_self | (rw [mup_ne (by assumption)]; assumption) | (rw [mup_ne (by assumption)]; exact mup_self) | (rw [mup_ne (by assumption), mup_ne (by assumption)]; assumption)) rfl in_X7 10 (by decide) wf_X7_39 rfl rfl dX7_findRow_99 ?_
      refine zi_aload_n X dX7_findRow_102 rfl rfl ?_
      refine zi_getf (C := RX7) (T := TX7) (N := 27) (ci := 11) X (by first | assumption | exact mup_self | (rw [mup_ne (by assumption)]; assumption) | (rw [mup_ne (by assumption)]; exact mup_self) | (rw [mup_ne (by assumption), mup_ne (by assumption)]; assumption)) rfl in_X7 18 (by decide) wf_X7_66 rfl rfl dX7_findRow_103 ?_
      refine zi_aload_n X dX7_findRow_106 rfl rfl ?_
      refine zi_getf (C := RX7) (T := TX7) (N := 27) (ci := 11) X (by first | assumption | exact mup_self | (rw [mup_ne (by assumption)]; assumption) | (rw [mup_ne (by assumption)]; exact mup_self) | (rw [mup_ne (by assumption), mup_ne (by assumption)]; assumption)) rfl in_X7 19 (by decide) wf_X7_250 rfl rfl dX7_findRow_107 ?_
      refine zi_iconst (v := (nI 1)) X dX7_findRow_110 (by decide) ?_
      refine zi_isub X dX7_findRow_111 ?_
      refine zi_aaldA X 5 (by first | assumption | exact mup_self | (rw [mup_ne (by assumption)]; assumption) | (rw [mup_ne (by assumption)]; exact mup_self) | (rw [mup_ne (by assumption), mup_ne (by assumption)]; assumption)) rfl (by rw [e1]; exact vin (show s + 1 < 8 by omega) (by decide)) (r8_at (d := s + 1) e1 (by omega)) dX7_findRow_112 ?_
      refine zi_callVv X (r_remainder l D y1 hu7.1 (j := 2) (j2 := 8 + (s + 1)) (by decide) (by omega) (by omega) (by rw [q3]; exact lc (s + 1) (by omega)) (by rw [q3]; exact lz (s + 1) (by omega) (by omega)) (n := 8) (by have := stI_le (updP Q 2 (Q (8 + s)) 2) 7; omega) (by rw [q2, q3]; exact lr2.1)) kc_X7_remainder wm_X7_179 (by first | assumption | exact mup_self | (rw [mup_ne (by assumption)]; assumption) | (rw [mup_ne (by assumption)]; exact mup_self) | (rw [mup_ne (by assumption), mup_ne (by assumption)]; assumption)) rfl wim_X7_remainder wse_X7_remainder ⟨Nat.le_of_ble_eq_true rfl, Nat.le_of_ble_eq_true rfl⟩ rfl rfl (Nat.le_of_ble_eq_true rfl) ⟨Nat.le_of_ble_eq_true rfl, Nat.le_of_ble_eq_true rfl⟩ dX7_findRow_113 (fun h8 hp => ?_)
      obtain ⟨hf8, hq8⟩ := hp
      rw [q2, q3] at hq8
      have hu8 := rU_n hu7 hf8 hq8
      have w1 := hu8.2.1.1
      refine zi_aload_n X dX7_findRow_116 rfl rfl ?_
      refine zi_getf (C := RX7) (T := TX7) (N := 27) (ci := 11) X (by first | assumption | exact mup_self | (rw [mup_ne (by assumption)]; assumption) | (rw [mup_ne (by assumption)]; exact mup_self) | (rw [mup_ne (by assumption), mup_ne (by assumption)]; assumption)) rfl in_X7 10 (by decide) wf_X7_39 rfl rfl dX7_findRow_117 ?_
      refine zi_callSi X (r_degree l D hu8.1 (j := 2) (by decide) (by rw [updP_s]; exact lr2.2)) kc_X7_degree wm_X7_166 wst_X7_degree ⟨Nat.le_of_ble_eq_true rfl, Nat.le_of_ble_eq_true rfl⟩ rfl rfl (Nat.le_of_ble_eq_true rfl) ⟨Nat.le_of_ble_eq_true rfl, Nat.le_of_ble_eq_true rfl⟩ dX7_findRow_120 (fun r h9 hp => ?_)
      obtain ⟨rfl, rfl⟩ := hp
      have z0 : stI (rmF 8 (rwE (Sl i) s) (rwE (Sl i) (s + 1))) 7 ≠ 0 := by
        have := lz (s + 2) (by omega) (by omega)
        rw [rwE, stI_neg] at this
        exact this
      obtain ⟨d, hd⟩ : ∃ d, stI (rmF 8 (rwE (Sl i) s) (rwE (Sl i) (s + 1))) 7 = d + 1 := ⟨_, (Nat.succ_pred_eq_of_pos (Nat.pos_of_ne_zero z0)).symm⟩
      have hdl := stI_le (rmF 8 (rwE (Sl i) s) (rwE (Sl i) (s + 1))) 7
      rw [updP_s, hd, nI_pr]
      refine zi_if_ge (tgt := 127) X dX7_findRow_123 (by decide) (fun c_123 => ?_) (fun c_123 => (by first | exact absurd (nI_pos' (by omega)) c_123 | exact absurd c_123 (nI_pos' (by omega))))
      refine zi_aload_n X dX7_findRow_127 rfl rfl ?_
      refine zi_getf (C := RX7) (T := TX7) (N := 27) (ci := 11) X (by first | assumption | exact mup_self | (rw [mup_ne (by assumption)]; assumption) | (rw [mup_ne (by assumption)]; exact mup_self) | (rw [mup_ne (by assumption), mup_ne (by assumption)]; assumption)) rfl in_X7 10 (by decide) wf_X7_39 rfl rfl dX7_findRow_128 ?_
      refine zi_callSv X (r_negate l D hu8.1 (j := 2) (by decide)) kc_X7_negate_ wm_X7_170 wst_X7_negate_ ⟨Nat.le_of_ble_eq_true rfl, Nat.le_of_ble_eq_true rfl⟩ rfl rfl (Nat.le_of_ble_eq_true rfl) ⟨Nat.le_of_ble_eq_true rfl, Nat.le_of_ble_eq_true rfl⟩ dX7_findRow_131 (fun h10 hp => ?_)
      obtain ⟨hf10, hq10⟩ := hp
      rw [updP_s] at hq10
      have hu10 := rU_n hu8 hf10 hq10
      have a1 := hu10.2.1.1
      have a6 := hu10.2.1.2.2.2.2.2.1
      refine zi_aload_n X dX7_findRow_134 rfl rfl ?_
      refine zi_getf (C := RX7) (T := TX7) (N := 27) (ci := 11) X (by first | assumption | exact mup_self | (rw [mup_ne (by assumption)]; assumption) | (rw [mup_ne (by assumption)]; exact mup_self) | (rw [mup_ne (by assumption), mup_ne (by assumption)]; assumption)) rfl in_X7 10 (by decide) wf_X7_39 rfl rfl dX7_findRow_135 ?_
      refine zi_aload_n X dX7_findRow_138 rfl rfl ?_
      refine zi_getf (C := RX7) (T := TX7) (N := 27) (ci := 11) X (by first | assumption | exact mup_self | (rw [mup_ne (by assumption)]; assumption) | (rw [mup_ne (by assumption)]; exact mup_self) | (rw [mup_ne (by assumption), mup_ne (by assumption)]; assumption)) rfl in_X7 18 (by decide) wf_X7_66 rfl rfl dX7_findRow_139 ?_
      refine zi_aload_n X dX7_findRow_142 rfl rfl ?_
      refine zi_getf (C := RX7) (T := TX7) (N := 27) (ci := 11) X (by first | assumption | exact mup_self | (rw [mup_ne (by assumption)]; assumption) | (rw [mup_ne (by assumption)]; exact mup_self) | (rw [mup_ne (by assumption), mup_ne (by assumption)]; assumption)) rfl in_X7 19 (by decide) wf_X7_250 rfl rfl dX7_findRow_143 ?_
      refine zi_aaldA X 5 (by first | assumption | exact mup_self | (rw [mup_ne (by assumption)]; assumption) | (rw [mup_ne (by assumption)]; exact mup_self) | (rw [mup_ne (by assumption), mup_ne (by assumption)]; assumption)) rfl (vin (show s + 2 < 8 by omega) (by decide)) (r8_at (d := s + 2) rfl (by omega)) dX7_findRow_146 ?_
      refine zi_callSv X (r_copy l D hu10.1 (j := 8 + (s + 2)) (j2 := 2) (by omega) (by decide) (by omega)) kc_X7_copy_ wm_X7_186 wst_X7_copy_ ⟨Nat.le_of_ble_eq_true rfl, Nat.le_of_ble_eq_true rfl⟩ rfl rfl (Nat.le_of_ble_eq_true rfl) ⟨Nat.le_of_ble_eq_true rfl, Nat.le_of_ble_eq_true rfl⟩ dX7_findRow_147 (fun h11 hp => ?_)
      obtain ⟨hf11, hq11⟩ := hp
      rw [updP_s] at hq11
      have hu11 := rU_n hu10 hf11 hq11
      have b1 := hu11.2.1.1
      refine zi_aload_n X dX7_findRow_150 rfl rfl ?_
      refine zi_dup X dX7_findRow_151 rfl ?_
      refine zi_getf (C := RX7) (T := TX7) (N := 27) (ci := 11) X (by first | assumption | exact mup_self | (rw [mup_ne (by assumption)]; assumption) | (rw [mup_ne (by assumption)]; exact mup_self) | (rw [mup_ne (by assumption), mup_ne (by assumption)]; assumption)) rfl in_X7 19 (by decide) wf_X7_250 rfl rfl dX7_findRow_152 ?_
      refine zi_iconst (v := (nI 1)) X dX7_findRow_155 (by decide) ?_
      refine zi_iadd X dX7_findRow_156 ?_
      refine zi_putf (C := RX7) (T := TX7) (N := 27) (ci := 11) (ty0 := tyX7) X (by first | assumption | exact mup_self | (rw [mup_ne (by assumption)]; assumption) | (rw [mup_ne (by assumption)]; exact mup_self) | (rw [mup_ne (by assumption), mup_ne (by assumption)]; assumption)) rfl in_X7 tyX7_ok nmX7 19 (by decide) wf_X7_250 rfl rfl rfl rfl rfl (Nat.le_of_ble_eq_true rfl) dX7_findRow_157 ?_
      rw [nI_add]
      refine zi_goto (tgt := 71) X dX7_findRow_160 (by decide) ?_
      refine zi_sub (by repeat (first | exact trivial | refine And.intro rfl ?_)) (ih (s + 2 + 1) _ _ (by omega) (by omega) (rU_o hu11 (o.1, nI (s + 2 + 1), o.2.2) rfl) ?_ (fun t ht => ?_))
      · rw [updP_n (by omega), updP_n (by decide), updP_n (by decide), updP_n (by decide)]
        exact q7
      · by_cases c : t = s + 2
        · rw [c, updP_s]
          rfl
        · rw [updP_n (by omega), updP_n (by omega), updP_n (by omega), updP_n (by omega)]
          exact qr t (by omega)
  by_cases c : L = 1
  · have z0 : stI (rwE (Sl i) 1) 7 = 0 := by rw [← c]; exact lL
    rw [z0]
    refine zi_if_ge (tgt := 67) X dX7_findRow_60 (by decide) (fun c_60 => (by first | exact absurd (by decide) c_60 | exact absurd c_60 (by decide))) (fun c_60 => ?_)
    refine zi_iconst (v := (nI 1)) X dX7_findRow_63 (by decide) ?_
    refine zi_goto (tgt := 68) X dX7_findRow_64 (by decide) ?_
    refine zi_putf (C := RX7) (T := TX7) (N := 27) (ci := 11) (ty0 := tyX7) X (by first | assumption | exact mup_self | (rw [mup_ne (by assumption)]; assumption) | (rw [mup_ne (by assumption)]; exact mup_self) | (rw [mup_ne (by assumption), mup_ne (by assumption)]; assumption)) rfl in_X7 tyX7_ok nmX7 19 (by decide) wf_X7_250 rfl rfl rfl rfl rfl (Nat.le_of_ble_eq_true rfl) dX7_findRow_68 ?_
    have hu6 := rU_o hu5 (o.1, nI 1, o.2.2) rfl
    have g1 := hu6.2.1.1
    refine zi_eqh (h' := mup h6 (M 3 0) (mO M (o.1, nI 1, o.2.2))) rfl ?_
    refine zi_aload_n X dX7_findRow_71 rfl rfl ?_
    refine zi_getf (C := RX7) (T := TX7) (N := 27) (ci := 11) X (by first | assumption | exact mup_self | (rw [mup_ne (by assumption)]; assumption) | (rw [mup_ne (by assumption)]; exact mup_self) | (rw [mup_ne (by assumption), mup_ne (by assumption)]; assumption)) rfl in_X7 19 (by decide) wf_X7_250 rfl rfl dX7_findRow_72 ?_
    refine zi_iconst (v := (nI 1)) X dX7_findRow_75 (by decide) ?_
    refine zi_icmp_le (tgt := 163) X dX7_findRow_76 (by decide) (fun c_76 => ?_) (fun c_76 => (by first | exact absurd (Int32.le_refl (nI 1)) c_76 | exact absurd c_76 (Int32.le_refl (nI 1))))
    refine zi_return X Vz dX7_findRow_163 ?_
    refine ⟨P5, by rw [c]; exact hu6, p7, fun t ht => ?_⟩
    rw [show t = 0 by omega]
    exact p8
  · have z0 : stI (rwE (Sl i) 1) 7 ≠ 0 := lz 1 (Nat.le_refl 1) (by omega)
    obtain ⟨d, hd⟩ : ∃ d, stI (rwE (Sl i) 1) 7 = d + 1 := ⟨_, (Nat.succ_pred_eq_of_pos (Nat.pos_of_ne_zero z0)).symm⟩
    have hdl := stI_le (rwE (Sl i) 1) 7
    rw [hd, nI_pr]
    refine zi_if_ge (tgt := 67) X dX7_findRow_60 (by decide) (fun c_60 => ?_) (fun c_60 => (by first | exact absurd (nI_pos' (by omega)) c_60 | exact absurd c_60 (nI_pos' (by omega))))
    refine zi_iconst (v := (nI 2)) X dX7_findRow_67 (by decide) ?_
    refine zi_putf (C := RX7) (T := TX7) (N := 27) (ci := 11) (ty0 := tyX7) X (by first | assumption | exact mup_self | (rw [mup_ne (by assumption)]; assumption) | (rw [mup_ne (by assumption)]; exact mup_self) | (rw [mup_ne (by assumption), mup_ne (by assumption)]; assumption)) rfl in_X7 tyX7_ok nmX7 19 (by decide) wf_X7_250 rfl rfl rfl rfl rfl (Nat.le_of_ble_eq_true rfl) dX7_findRow_68 ?_
    refine zi_sub (by repeat (first | exact trivial | refine And.intro rfl ?_)) (loop (L - 2) 2 _ P5 (by omega) (Nat.le_refl 2) (rU_o hu5 (o.1, nI 2, o.2.2) rfl) p7 (fun t ht => ?_))
    rcases (show t = 0 ∨ t = 1 by omega) with rfl | rfl
    · exact p8
    · exact p9
end RO7
