/-! SturmRootsModel: countDistinct, countAll, distinctRoots -/
theorem ptOk_b {x k y l2 : Int32} (h : ptOk x k y l2) : x.toInt.natAbs ≤ 1000000 ∧ k.toInt.toNat ≤ 12 ∧ k = nI k.toInt.toNat ∧ y.toInt.natAbs ≤ 1000000 ∧ l2.toInt.toNat ≤ 12 ∧ l2 = nI l2.toInt.toNat := by
  obtain ⟨h1, h2, -⟩ := h
  have a := isPt_k h1
  have b := isPt_k h2
  exact ⟨a.1, by omega, a.2.2, b.1, by omega, b.2.2⟩
section CN2
variable {cA : Nat → ClassId} {M : Nat → Nat → Nat} {h : mH} {o : RO} {Sl : Nat → Nat → Int} {kp : Nat → Int} {cap n : Nat} {V : Nat → Iv} {P : Nat → Nat → Int}
theorem u_countDistinct (l : Launch) (D : va_G) (hu : rU cA M h o Sl kp cap n V P) (hb : slB Sl) (hz : ∀ i, i < 5 → evOk (Sl i)) {a x k y l2 : Int32} (hd : ∀ i, i < 5 → stI (Sl i) 7 ≠ 0 → ptOk x k y l2 → dsOk (Sl i) x.toInt k.toInt.toNat y.toInt l2.toInt.toNat) :
    mCi l yX7_countDistinct cX7_countDistinct 7 .int (rmd 10) D (mT cA) [.ref (M 3 0), .int a, .int x, .int k, .int y, .int l2] h (fun r h1 => (∃ v, 0 < v ∧ v < 5 ∧ rfs Sl a x k y l2 v ∧ uT cA M o kp cap n V P v Sl h1) ∨ ∃ i, i < 5 ∧ a = nI i ∧ ptOk x k y l2 ∧ stI (Sl i) 7 ≠ 0 ∧ noRt (Sl i) x k y l2 ∧ r = nI (dsN (Sl i) x.toInt k.toInt.toNat y.toInt l2.toInt.toNat) ∧ uT cA M o kp cap n V P 0 Sl h1) := by
  have x1 := hu.2.1.1
  refine mEnter_i (by decide) (Nat.le_of_ble_eq_true rfl) rfl (fun z X Vz => ?_)
  refine zi_aload_n X dX7_countDistinct_0 rfl rfl ?_
  refine zi_iload_n X dX7_countDistinct_1 rfl rfl ?_
  refine zi_iload_n X dX7_countDistinct_2 rfl rfl ?_
  refine zi_iload_n X dX7_countDistinct_3 rfl rfl ?_
  refine zi_iload X dX7_countDistinct_4 rfl ?_
  refine zi_iload X dX7_countDistinct_6 rfl ?_
  refine zi_callVi X (u_refused l D hu hb hz) kc_X7_refused wm_X7_271 (by first | assumption | exact mup_self | (rw [mup_ne (by assumption)]; assumption) | (rw [mup_ne (by assumption)]; exact mup_self) | (rw [mup_ne (by assumption), mup_ne (by assumption)]; assumption)) rfl wim_X7_refused wse_X7_refused ⟨Nat.le_of_ble_eq_true rfl, Nat.le_of_ble_eq_true rfl⟩ rfl rfl (Nat.le_of_ble_eq_true rfl) ⟨Nat.le_of_ble_eq_true rfl, Nat.le_of_ble_eq_true rfl⟩ dX7_countDistinct_8 (fun r h2 hp => ?_)
  rcases hp with ⟨v, v0, v5, rfl, hr, Q, hu2, q7⟩ | ⟨i, hi, rfl, pt, c3, nr, rfl, Q, hu2, q7, q6⟩
  · have w1 := hu2.2.1.1
    refine zi_istore X dX7_countDistinct_11 (by decide) ?_
    refine zi_iload X dX7_countDistinct_13 rfl ?_
    refine zi_if_le (tgt := 27) X dX7_countDistinct_15 (by decide) (fun c_15 => (by first | exact absurd (nI_nle v0 (by omega)) c_15 | exact absurd c_15 (nI_nle v0 (by omega)))) (fun c_15 => ?_)
    refine zi_aload_n X dX7_countDistinct_18 rfl rfl ?_
    refine zi_iload X dX7_countDistinct_19 rfl ?_
    refine zi_callVi X (u_fails l D hu2) kc_X7_fails wm_X7_212 (by first | assumption | exact mup_self | (rw [mup_ne (by assumption)]; assumption) | (rw [mup_ne (by assumption)]; exact mup_self) | (rw [mup_ne (by assumption), mup_ne (by assumption)]; assumption)) rfl wim_X7_fails wse_X7_fails ⟨Nat.le_of_ble_eq_true rfl, Nat.le_of_ble_eq_true rfl⟩ rfl rfl (Nat.le_of_ble_eq_true rfl) ⟨Nat.le_of_ble_eq_true rfl, Nat.le_of_ble_eq_true rfl⟩ dX7_countDistinct_21 (fun r h3 hp => ?_)
    refine zi_goto (tgt := 41) X dX7_countDistinct_24 (by decide) ?_
    refine zi_ireturn X Vz dX7_countDistinct_41 ?_
    exact Or.inl ⟨v, v0, v5, hr, uT_o hp.2 q7⟩
  · have w1 := hu2.2.1.1
    obtain ⟨hx, hk, ek, hy, hl2, el⟩ := ptOk_b pt
    have hd := hd i hi c3 pt
    refine zi_istore X dX7_countDistinct_11 (by decide) ?_
    refine zi_iload X dX7_countDistinct_13 rfl ?_
    refine zi_if_le (tgt := 27) X dX7_countDistinct_15 (by decide) (fun c_15 => ?_) (fun c_15 => (by first | exact absurd (by decide) c_15 | exact absurd c_15 (by decide)))
    refine zi_aload_n X dX7_countDistinct_27 rfl rfl ?_
    refine zi_aload_n X dX7_countDistinct_28 rfl rfl ?_
    refine zi_iload_n X dX7_countDistinct_29 rfl rfl ?_
    refine zi_iload_n X dX7_countDistinct_30 rfl rfl ?_
    refine zi_iload X dX7_countDistinct_31 rfl ?_
    refine zi_iload X dX7_countDistinct_33 rfl ?_
    refine zi_eqs (st' := [.int (nI l2.toInt.toNat), .int y, .int (nI k.toInt.toNat), .int x, .ref (M 3 0), .ref (M 3 0)]) (by rw [← ek, ← el]) ?_
    refine zi_callVi X (u_distinct l D hu2 (k := k.toInt.toNat) (l2 := l2.toInt.toNat) hk hl2 hx hy (by rw [q6]; exact hd)) kc_X7_distinct wm_X7_275 (by first | assumption | exact mup_self | (rw [mup_ne (by assumption)]; assumption) | (rw [mup_ne (by assumption)]; exact mup_self) | (rw [mup_ne (by assumption), mup_ne (by assumption)]; assumption)) rfl wim_X7_distinct wse_X7_distinct ⟨Nat.le_of_ble_eq_true rfl, Nat.le_of_ble_eq_true rfl⟩ rfl rfl (Nat.le_of_ble_eq_true rfl) ⟨Nat.le_of_ble_eq_true rfl, Nat.le_of_ble_eq_true rfl⟩ dX7_countDistinct_35 (fun r h3 hp => ?_)
    obtain ⟨rfl, Q3, hu3, q37, -, -⟩ := hp
    have v1 := hu3.2.1.1
    rw [q6]
    refine zi_callVi X (u_tells l D hu3) kc_X7_tells wm_X7_217 (by first | assumption | exact mup_self | (rw [mup_ne (by assumption)]; assumption) | (rw [mup_ne (by assumption)]; exact mup_self) | (rw [mup_ne (by assumption), mup_ne (by assumption)]; assumption)) rfl wim_X7_tells wse_X7_tells ⟨Nat.le_of_ble_eq_true rfl, Nat.le_of_ble_eq_true rfl⟩ rfl rfl (Nat.le_of_ble_eq_true rfl) ⟨Nat.le_of_ble_eq_true rfl, Nat.le_of_ble_eq_true rfl⟩ dX7_countDistinct_38 (fun r h4 hp => ?_)
    obtain ⟨rfl, -, hp⟩ := hp
    refine zi_ireturn X Vz dX7_countDistinct_41 ?_
    exact Or.inr ⟨i, hi, rfl, pt, c3, nr, rfl, uT_o hp (q37.trans q7)⟩
theorem u_countAll (l : Launch) (D : va_G) (hu : rU cA M h o Sl kp cap n V P) (hb : slB Sl) (hz : ∀ i, i < 5 → evOk (Sl i)) {a x k y l2 : Int32} (hd : ∀ i, i < 5 → stI (Sl i) 7 ≠ 0 → ptOk x k y l2 → daOk x.toInt k.toInt.toNat y.toInt l2.toInt.toNat 7 (Sl i)) :
    mCi l yX7_countAll cX7_countAll 8 .int (rmd 10) D (mT cA) [.ref (M 3 0), .int a, .int x, .int k, .int y, .int l2] h (fun r h1 => (∃ v, 0 < v ∧ v < 5 ∧ rfs Sl a x k y l2 v ∧ uT cA M o kp cap n V P v Sl h1) ∨ ∃ i, i < 5 ∧ a = nI i ∧ ptOk x k y l2 ∧ stI (Sl i) 7 ≠ 0 ∧ noRt (Sl i) x k y l2 ∧ r = nI (daN x.toInt k.toInt.toNat y.toInt l2.toInt.toNat 7 (Sl i)) ∧ uT cA M o kp cap n V P 0 Sl h1) := by
  have x1 := hu.2.1.1
  refine mEnter_i (by decide) (Nat.le_of_ble_eq_true rfl) rfl (fun z X Vz => ?_)
  refine zi_aload_n X dX7_countAll_0 rfl rfl ?_
  refine zi_iload_n X dX7_countAll_1 rfl rfl ?_
  refine zi_iload_n X dX7_countAll_2 rfl rfl ?_
  refine zi_iload_n X dX7_countAll_3 rfl rfl ?_
  refine zi_iload X dX7_countAll_4 rfl ?_
  refine zi_iload X dX7_countAll_6 rfl ?_
  refine zi_callVi X (u_refused l D hu hb hz) kc_X7_refused wm_X7_271 (by first | assumption | exact mup_self | (rw [mup_ne (by assumption)]; assumption) | (rw [mup_ne (by assumption)]; exact mup_self) | (rw [mup_ne (by assumption), mup_ne (by assumption)]; assumption)) rfl wim_X7_refused wse_X7_refused ⟨Nat.le_of_ble_eq_true rfl, Nat.le_of_ble_eq_true rfl⟩ rfl rfl (Nat.le_of_ble_eq_true rfl) ⟨Nat.le_of_ble_eq_true rfl, Nat.le_of_ble_eq_true rfl⟩ dX7_countAll_8 (fun r h2 hp => ?_)
  rcases hp with ⟨v, v0, v5, rfl, hr, Q, hu2, q7⟩ | ⟨i, hi, rfl, pt, c3, nr, rfl, Q, hu2, q7, q6⟩
  · have w1 := hu2.2.1.1
    refine zi_istore X dX7_countAll_11 (by decide) ?_
    refine zi_iload X dX7_countAll_13 rfl ?_
    refine zi_if_le (tgt := 25) X dX7_countAll_15 (by decide) (fun c_15 => (by first | exact absurd (nI_nle v0 (by omega)) c_15 | exact absurd c_15 (nI_nle v0 (by omega)))) (fun c_15 => ?_)
    refine zi_aload_n X dX7_countAll_18 rfl rfl ?_
    refine zi_iload X dX7_countAll_19 rfl ?_
    refine zi_callVi X (u_fails l D hu2) kc_X7_fails wm_X7_212 (by first | assumption | exact mup_self | (rw [mup_ne (by assumption)]; assumption) | (rw [mup_ne (by assumption)]; exact mup_self) | (rw [mup_ne (by assumption), mup_ne (by assumption)]; assumption)) rfl wim_X7_fails wse_X7_fails ⟨Nat.le_of_ble_eq_true rfl, Nat.le_of_ble_eq_true rfl⟩ rfl rfl (Nat.le_of_ble_eq_true rfl) ⟨Nat.le_of_ble_eq_true rfl, Nat.le_of_ble_eq_true rfl⟩ dX7_countAll_21 (fun r h3 hp => ?_)
    refine zi_ireturn X Vz dX7_countAll_24 ?_
    exact Or.inl ⟨v, v0, v5, hr, uT_o hp.2 q7⟩
  · obtain ⟨hx, hk, ek, hy, hl2, el⟩ := ptOk_b pt
    have hd := hd i hi c3 pt
    refine zi_istore X dX7_countAll_11 (by decide) ?_
    refine zi_iload X dX7_countAll_13 rfl ?_
    refine zi_if_le (tgt := 25) X dX7_countAll_15 (by decide) (fun c_15 => ?_) (fun c_15 => (by first | exact absurd (by decide) c_15 | exact absurd c_15 (by decide)))
    refine zi_iconst (v := (nI 0)) X dX7_countAll_25 (by decide) ?_
    refine zi_istore X dX7_countAll_26 (by decide) ?_
    suffices key : ∀ w t (p : Nat → Int) (g : mH) (Q : Nat → Nat → Int), rU cA M g o Sl kp cap n V Q → Q 7 = P 7 → Q 6 = p → daOk x.toInt k.toInt.toNat y.toInt l2.toInt.toNat w p → t + daN x.toInt k.toInt.toNat y.toInt l2.toInt.toNat w p = daN x.toInt k.toInt.toNat y.toInt l2.toInt.toNat 7 (Sl i) → zM z 0 0 28 [some (.ref (M 3 0)), some (.int (nI i)), some (.int x), some (.int k), some (.int y), some (.int l2), none, some (.int (nI t))] [] g from
      zi_sub (by repeat (first | exact trivial | refine And.intro rfl ?_)) (key 7 0 (Sl i) h2 Q hu2 q7 q6 hd (Nat.zero_add _))
    have fin : ∀ t (p : Nat → Int) (g : mH) (Q : Nat → Nat → Int), rU cA M g o Sl kp cap n V Q → Q 7 = P 7 → Q 6 = p → pC p → stI p 7 ≤ 1 → t = daN x.toInt k.toInt.toNat y.toInt l2.toInt.toNat 7 (Sl i) → zM z 0 0 28 [some (.ref (M 3 0)), some (.int (nI i)), some (.int x), some (.int k), some (.int y), some (.int l2), none, some (.int (nI t))] [] g := fun t p g Q hu q7 q6 hp1 hp2 ht => by
      have w1 := hu.2.1.1
      refine zi_aload_n X dX7_countAll_28 rfl rfl ?_
      refine zi_getf (C := RX7) (T := TX7) (N := 27) (ci := 11) X (by first | assumption | exact mup_self | (rw [mup_ne (by assumption)]; assumption) | (rw [mup_ne (by assumption)]; exact mup_self) | (rw [mup_ne (by assumption), mup_ne (by assumption)]; assumption)) rfl in_X7 17 (by decide) wf_X7_63 rfl rfl dX7_countAll_29 ?_
      refine zi_callSi X (r_degree l D hu.1 (j := 6) (by decide) (by rw [q6]; exact hp1)) kc_X7_degree wm_X7_166 wst_X7_degree ⟨Nat.le_of_ble_eq_true rfl, Nat.le_of_ble_eq_true rfl⟩ rfl rfl (Nat.le_of_ble_eq_true rfl) ⟨Nat.le_of_ble_eq_true rfl, Nat.le_of_ble_eq_true rfl⟩ dX7_countAll_32 (fun r h3 hp => ?_)
      obtain ⟨rfl, rfl⟩ := hp
      rw [q6]
      have le : nI (stI p 7) - nI 1 ≤ 0 := by
        rcases (show stI p 7 = 0 ∨ stI p 7 = 1 by omega) with q | q <;> rw [q] <;> decide
      refine zi_if_le (tgt := 67) X dX7_countAll_35 (by decide) (fun c_35 => ?_) (fun c_35 => (by first | exact absurd le c_35 | exact absurd c_35 le))
      refine zi_aload_n X dX7_countAll_67 rfl rfl ?_
      refine zi_iload X dX7_countAll_68 rfl ?_
      refine zi_callVi X (u_tells l D hu) kc_X7_tells wm_X7_217 (by first | assumption | exact mup_self | (rw [mup_ne (by assumption)]; assumption) | (rw [mup_ne (by assumption)]; exact mup_self) | (rw [mup_ne (by assumption), mup_ne (by assumption)]; assumption)) rfl wim_X7_tells wse_X7_tells ⟨Nat.le_of_ble_eq_true rfl, Nat.le_of_ble_eq_true rfl⟩ rfl rfl (Nat.le_of_ble_eq_true rfl) ⟨Nat.le_of_ble_eq_true rfl, Nat.le_of_ble_eq_true rfl⟩ dX7_countAll_70 (fun r h4 hp => ?_)
      obtain ⟨rfl, -, hp⟩ := hp
      refine zi_ireturn X Vz dX7_countAll_73 ?_
      exact Or.inr ⟨i, hi, rfl, pt, c3, nr, by rw [ht], uT_o hp q7⟩
    intro w
    induction w with
    | zero =>
      intro t p g Q hu q7 q6 hok ht
      exact fin t p g Q hu q7 q6 hok.1 hok.2 (by rw [← ht]; rfl)
    | succ w ih =>
      intro t p g Q hu q7 q6 hok ht
      by_cases c : stI p 7 ≤ 1
      · exact fin t p g Q hu q7 q6 hok.1 c (by rw [← ht, daN, if_pos c]; rfl)
      · have ok := hok.2 c
        have w1 := hu.2.1.1
        refine zi_aload_n X dX7_countAll_28 rfl rfl ?_
        refine zi_getf (C := RX7) (T := TX7) (N := 27) (ci := 11) X (by first | assumption | exact mup_self | (rw [mup_ne (by assumption)]; assumption) | (rw [mup_ne (by assumption)]; exact mup_self) | (rw [mup_ne (by assumption), mup_ne (by assumption)]; assumption)) rfl in_X7 17 (by decide) wf_X7_63 rfl rfl dX7_countAll_29 ?_
        refine zi_callSi X (r_degree l D hu.1 (j := 6) (by decide) (by rw [q6]; exact hok.1)) kc_X7_degree wm_X7_166 wst_X7_degree ⟨Nat.le_of_ble_eq_true rfl, Nat.le_of_ble_eq_true rfl⟩ rfl rfl (Nat.le_of_ble_eq_true rfl) ⟨Nat.le_of_ble_eq_true rfl, Nat.le_of_ble_eq_true rfl⟩ dX7_countAll_32 (fun r h3 hp => ?_)
        obtain ⟨rfl, rfl⟩ := hp
        rw [q6]
        obtain ⟨d, hd⟩ : ∃ d, stI p 7 = d + 2 := ⟨stI p 7 - 2, by omega⟩
        have l7 := stI_le p 7
        have le : ¬ nI (stI p 7) - nI 1 ≤ 0 := by
          rw [hd, show nI (d + 2) - nI 1 = nI (d + 1) from nI_pr (d + 1)]
          exact nI_nle (by omega) (by omega)
        refine zi_if_le (tgt := 67) X dX7_countAll_35 (by decide) (fun c_35 => (by first | exact absurd le c_35 | exact absurd c_35 le)) (fun c_35 => ?_)
        refine zi_iload X dX7_countAll_38 rfl ?_
        refine zi_aload_n X dX7_countAll_40 rfl rfl ?_
        refine zi_iload_n X dX7_countAll_41 rfl rfl ?_
        refine zi_iload_n X dX7_countAll_42 rfl rfl ?_
        refine zi_iload X dX7_countAll_43 rfl ?_
        refine zi_iload X dX7_countAll_45 rfl ?_
        refine zi_eqs (st' := [.int (nI l2.toInt.toNat), .int y, .int (nI k.toInt.toNat), .int x, .ref (M 3 0), .int (nI t)]) (by rw [← ek, ← el]) ?_
        refine zi_callVi X (u_distinct l D hu (k := k.toInt.toNat) (l2 := l2.toInt.toNat) hk hl2 hx hy (by rw [q6]; exact ok.1)) kc_X7_distinct wm_X7_275 (by first | assumption | exact mup_self | (rw [mup_ne (by assumption)]; assumption) | (rw [mup_ne (by assumption)]; exact mup_self) | (rw [mup_ne (by assumption), mup_ne (by assumption)]; assumption)) rfl wim_X7_distinct wse_X7_distinct ⟨Nat.le_of_ble_eq_true rfl, Nat.le_of_ble_eq_true rfl⟩ rfl rfl (Nat.le_of_ble_eq_true rfl) ⟨Nat.le_of_ble_eq_true rfl, Nat.le_of_ble_eq_true rfl⟩ dX7_countAll_47 (fun r h4 hp => ?_)
        obtain ⟨rfl, Q3, hu3, q37, q36, q33⟩ := hp
        rw [q6] at q33 q36
        have v1 := hu3.2.1.1
        rw [q6]
        refine zi_iadd X dX7_countAll_50 ?_
        rw [nI_add]
        refine zi_istore X dX7_countAll_51 (by decide) ?_
        refine zi_aload_n X dX7_countAll_53 rfl rfl ?_
        refine zi_getf (C := RX7) (T := TX7) (N := 27) (ci := 11) X (by first | assumption | exact mup_self | (rw [mup_ne (by assumption)]; assumption) | (rw [mup_ne (by assumption)]; exact mup_self) | (rw [mup_ne (by assumption), mup_ne (by assumption)]; assumption)) rfl in_X7 11 (by decide) wf_X7_42 rfl rfl dX7_countAll_54 ?_
        refine zi_aload_n X dX7_countAll_57 rfl rfl ?_
        refine zi_getf (C := RX7) (T := TX7) (N := 27) (ci := 11) X (by first | assumption | exact mup_self | (rw [mup_ne (by assumption)]; assumption) | (rw [mup_ne (by assumption)]; exact mup_self) | (rw [mup_ne (by assumption), mup_ne (by assumption)]; assumption)) rfl in_X7 17 (by decide) wf_X7_63 rfl rfl dX7_countAll_58 ?_
        refine zi_callSv X (r_copy l D hu3.1 (j := 6) (j2 := 3) (by decide) (by decide) (by decide)) kc_X7_copy_ wm_X7_186 wst_X7_copy_ ⟨Nat.le_of_ble_eq_true rfl, Nat.le_of_ble_eq_true rfl⟩ rfl rfl (Nat.le_of_ble_eq_true rfl) ⟨Nat.le_of_ble_eq_true rfl, Nat.le_of_ble_eq_true rfl⟩ dX7_countAll_61 (fun h5 hp => ?_)
        obtain ⟨hf5, hq5⟩ := hp
        have hu5 := rU_n hu3 hf5 hq5
        rw [q33] at hu5
        refine zi_goto (tgt := 28) X dX7_countAll_64 (by decide) ?_
        refine zi_sub (by repeat (first | exact trivial | refine And.intro rfl ?_)) (ih _ (gcR p (derI p)) h5 _ hu5 (by rw [updP_n (by decide)]; exact q37.trans q7) updP_s ok.2 ?_)
        rw [← ht]
        conv => rhs; rw [daN, if_neg c]
        omega
theorem u_distinctRoots (l : Launch) (D : va_G) (hu : rU cA M h o Sl kp cap n V P) (hb : slB Sl) {a : Int32} (hd : ∀ i, i < 5 → stI (Sl i) 7 ≠ 0 → rBd (Sl i) ≤ 32768 ∧ dsOk (Sl i) (-(rBd (Sl i) : Int)) 0 (rBd (Sl i)) 0) :
    mCi l yX7_distinctRoots cX7_distinctRoots 3 .int (rmd 10) D (mT cA) [.ref (M 3 0), .int a] h (fun r h1 => ¬ inR a 5 ∧ uT cA M o kp cap n V P 1 Sl h1 ∨ ∃ i, i < 5 ∧ a = nI i ∧ (stI (Sl i) 7 = 0 ∧ uT cA M o kp cap n V P 2 Sl h1 ∨ stI (Sl i) 7 ≠ 0 ∧ r = nI (dsN (Sl i) (-(rBd (Sl i) : Int)) 0 (rBd (Sl i)) 0) ∧ uT cA M o kp cap n V P 0 Sl h1)) := by
  have x1 := hu.2.1.1
  have x2 := hu.2.1.2.1
  refine mEnter_i (by decide) (Nat.le_of_ble_eq_true rfl) rfl (fun z X Vz => ?_)
  refine zi_iload_n X dX7_distinctRoots_0 rfl rfl ?_
  refine zi_callSi X (s_isSlot l D) kc_X7_isSlot wm_X7_228 wst_X7_isSlot ⟨Nat.le_of_ble_eq_true rfl, Nat.le_of_ble_eq_true rfl⟩ rfl rfl (Nat.le_of_ble_eq_true rfl) ⟨Nat.le_of_ble_eq_true rfl, Nat.le_of_ble_eq_true rfl⟩ dX7_distinctRoots_1 (fun r h1 hp => ?_)
  obtain ⟨rfl, ⟨q1, rfl⟩ | ⟨q1, rfl⟩⟩ := hp
  · obtain ⟨i, hi, rfl⟩ := q1
    have y3 := hu.2.1.2.2.1 i hi
    refine zi_if_ne (tgt := 13) X dX7_distinctRoots_4 (by decide) (fun c_4 => ?_) (fun c_4 => (by first | exact absurd (by decide) c_4 | exact absurd c_4 (by decide)))
    refine zi_aload_n X dX7_distinctRoots_13 rfl rfl ?_
    refine zi_iload_n X dX7_distinctRoots_14 rfl rfl ?_
    refine zi_callVi X (u_isZero l D hu hi (fun t ht => hb i t hi ht)) kc_X7_isZero wm_X7_244 (by first | assumption | exact mup_self | (rw [mup_ne (by assumption)]; assumption) | (rw [mup_ne (by assumption)]; exact mup_self) | (rw [mup_ne (by assumption), mup_ne (by assumption)]; assumption)) rfl wim_X7_isZero wse_X7_isZero ⟨Nat.le_of_ble_eq_true rfl, Nat.le_of_ble_eq_true rfl⟩ rfl rfl (Nat.le_of_ble_eq_true rfl) ⟨Nat.le_of_ble_eq_true rfl, Nat.le_of_ble_eq_true rfl⟩ dX7_distinctRoots_15 (fun r h2 hp => ?_)
    obtain ⟨rfl, ⟨c0, rfl⟩ | ⟨c0, rfl⟩⟩ := hp
    · refine zi_if_eq (tgt := 27) X dX7_distinctRoots_18 (by decide) (fun c_18 => (by first | exact absurd (by decide) c_18 | exact absurd c_18 (by decide))) (fun c_18 => ?_)
      refine zi_aload_n X dX7_distinctRoots_21 rfl rfl ?_
      refine zi_iconst (v := (nI 2)) X dX7_distinctRoots_22 (by decide) ?_
      refine zi_callVi X (u_fails l D hu) kc_X7_fails wm_X7_212 (by first | assumption | exact mup_self | (rw [mup_ne (by assumption)]; assumption) | (rw [mup_ne (by assumption)]; exact mup_self) | (rw [mup_ne (by assumption), mup_ne (by assumption)]; assumption)) rfl wim_X7_fails wse_X7_fails ⟨Nat.le_of_ble_eq_true rfl, Nat.le_of_ble_eq_true rfl⟩ rfl rfl (Nat.le_of_ble_eq_true rfl) ⟨Nat.le_of_ble_eq_true rfl, Nat.le_of_ble_eq_true rfl⟩ dX7_distinctRoots_23 (fun r h3 hp => ?_)
      refine zi_ireturn X Vz dX7_distinctRoots_26 ?_
      exact Or.inr ⟨i, hi, rfl, Or.inl ⟨c0, uT_of hp.2⟩⟩
    · obtain ⟨hr, hd⟩ := hd i hi c0
      refine zi_if_eq (tgt := 27) X dX7_distinctRoots_18 (by decide) (fun c_18 => ?_) (fun c_18 => (by first | exact absurd (by decide) c_18 | exact absurd c_18 (by decide)))
      refine zi_aload_n X dX7_distinctRoots_27 rfl rfl ?_
      refine zi_getf (C := RX7) (T := TX7) (N := 27) (ci := 11) X (by first | assumption | exact mup_self | (rw [mup_ne (by assumption)]; assumption) | (rw [mup_ne (by assumption)]; exact mup_self) | (rw [mup_ne (by assumption), mup_ne (by assumption)]; assumption)) rfl in_X7 1 (by decide) wf_X7_11 rfl rfl dX7_distinctRoots_28 ?_
      refine zi_iload_n X dX7_distinctRoots_31 rfl rfl ?_
      refine zi_aaldA X 4 (by first | assumption | exact mup_self | (rw [mup_ne (by assumption)]; assumption) | (rw [mup_ne (by assumption)]; exact mup_self) | (rw [mup_ne (by assumption), mup_ne (by assumption)]; assumption)) rfl (vin hi (by decide)) (sl4_at hi) dX7_distinctRoots_32 ?_
      refine zi_aload_n X dX7_distinctRoots_33 rfl rfl ?_
      refine zi_getf (C := RX7) (T := TX7) (N := 27) (ci := 11) X (by first | assumption | exact mup_self | (rw [mup_ne (by assumption)]; assumption) | (rw [mup_ne (by assumption)]; exact mup_self) | (rw [mup_ne (by assumption), mup_ne (by assumption)]; assumption)) rfl in_X7 17 (by decide) wf_X7_63 rfl rfl dX7_distinctRoots_34 ?_
      refine zi_callSv X (r_loadS l D hu.1 (j := 6) (by decide) y3 (fun t ht => hb i t hi ht)) kc_X7_load wm_X7_236 wst_X7_load ⟨Nat.le_of_ble_eq_true rfl, Nat.le_of_ble_eq_true rfl⟩ rfl rfl (Nat.le_of_ble_eq_true rfl) ⟨Nat.le_of_ble_eq_true rfl, Nat.le_of_ble_eq_true rfl⟩ dX7_distinctRoots_37 (fun h3 hp => ?_)
      obtain ⟨hf3, hq3⟩ := hp
      have hu3 := rU_n hu hf3 hq3
      have w1 := hu3.2.1.1
      have w2 := hu3.2.1.2.1
      have w3 := hu3.2.1.2.2.1 i hi
      refine zi_aload_n X dX7_distinctRoots_40 rfl rfl ?_
      refine zi_getf (C := RX7) (T := TX7) (N := 27) (ci := 11) X (by first | assumption | exact mup_self | (rw [mup_ne (by assumption)]; assumption) | (rw [mup_ne (by assumption)]; exact mup_self) | (rw [mup_ne (by assumption), mup_ne (by assumption)]; assumption)) rfl in_X7 1 (by decide) wf_X7_11 rfl rfl dX7_distinctRoots_41 ?_
      refine zi_iload_n X dX7_distinctRoots_44 rfl rfl ?_
      refine zi_aaldA X 4 (by first | assumption | exact mup_self | (rw [mup_ne (by assumption)]; assumption) | (rw [mup_ne (by assumption)]; exact mup_self) | (rw [mup_ne (by assumption), mup_ne (by assumption)]; assumption)) rfl (vin hi (by decide)) (sl4_at hi) dX7_distinctRoots_45 ?_
      refine zi_callSi X (s_bound l D w3 (fun t ht => hb i t hi ht) c0) kc_X7_bound wm_X7_282 wst_X7_bound ⟨Nat.le_of_ble_eq_true rfl, Nat.le_of_ble_eq_true rfl⟩ rfl rfl (Nat.le_of_ble_eq_true rfl) ⟨Nat.le_of_ble_eq_true rfl, Nat.le_of_ble_eq_true rfl⟩ dX7_distinctRoots_46 (fun r h4 hp => ?_)
      obtain ⟨rfl, rfl⟩ := hp
      have e1 : (nI (rBd (Sl i))).toInt = (rBd (Sl i) : Int) := nI_int (by omega)
      have e2 : (-nI (rBd (Sl i))).toInt = -(rBd (Sl i) : Int) := by rw [fb_negI (by omega), e1]
      refine zi_istore_n X dX7_distinctRoots_49 rfl (by decide) ?_
      refine zi_aload_n X dX7_distinctRoots_50 rfl rfl ?_
      refine zi_aload_n X dX7_distinctRoots_51 rfl rfl ?_
      refine zi_iload_n X dX7_distinctRoots_52 rfl rfl ?_
      refine zi_ineg X dX7_distinctRoots_53 ?_
      refine zi_iconst (v := (nI 0)) X dX7_distinctRoots_54 (by decide) ?_
      refine zi_iload_n X dX7_distinctRoots_55 rfl rfl ?_
      refine zi_iconst (v := (nI 0)) X dX7_distinctRoots_56 (by decide) ?_
      refine zi_callVi X (u_distinct l D hu3 (x := -nI (rBd (Sl i))) (y := nI (rBd (Sl i))) (k := 0) (l2 := 0) (by decide) (by decide) (by rw [e2]; omega) (by rw [e1]; omega) (by rw [updP_s, e1, e2]; exact hd)) kc_X7_distinct wm_X7_275 (by first | assumption | exact mup_self | (rw [mup_ne (by assumption)]; assumption) | (rw [mup_ne (by assumption)]; exact mup_self) | (rw [mup_ne (by assumption), mup_ne (by assumption)]; assumption)) rfl wim_X7_distinct wse_X7_distinct ⟨Nat.le_of_ble_eq_true rfl, Nat.le_of_ble_eq_true rfl⟩ rfl rfl (Nat.le_of_ble_eq_true rfl) ⟨Nat.le_of_ble_eq_true rfl, Nat.le_of_ble_eq_true rfl⟩ dX7_distinctRoots_57 (fun r h5 hp => ?_)
      obtain ⟨rfl, Q3, hu4, q37, -, -⟩ := hp
      have v1 := hu4.2.1.1
      rw [updP_s, e1, e2]
      refine zi_callVi X (u_tells l D hu4) kc_X7_tells wm_X7_217 (by first | assumption | exact mup_self | (rw [mup_ne (by assumption)]; assumption) | (rw [mup_ne (by assumption)]; exact mup_self) | (rw [mup_ne (by assumption), mup_ne (by assumption)]; assumption)) rfl wim_X7_tells wse_X7_tells ⟨Nat.le_of_ble_eq_true rfl, Nat.le_of_ble_eq_true rfl⟩ rfl rfl (Nat.le_of_ble_eq_true rfl) ⟨Nat.le_of_ble_eq_true rfl, Nat.le_of_ble_eq_true rfl⟩ dX7_distinctRoots_60 (fun r h6 hp => ?_)
      obtain ⟨rfl, -, hp⟩ := hp
      refine zi_ireturn X Vz dX7_distinctRoots_63 ?_
      exact Or.inr ⟨i, hi, rfl, Or.inr ⟨c0, rfl, uT_o hp (by rw [q37, updP_n (by decide)])⟩⟩
  · refine zi_if_ne (tgt := 13) X dX7_distinctRoots_4 (by decide) (fun c_4 => (by first | exact absurd (by decide) c_4 | exact absurd c_4 (by decide))) (fun c_4 => ?_)
    refine zi_aload_n X dX7_distinctRoots_7 rfl rfl ?_
    refine zi_iconst (v := (nI 1)) X dX7_distinctRoots_8 (by decide) ?_
    refine zi_callVi X (u_fails l D hu) kc_X7_fails wm_X7_212 (by first | assumption | exact mup_self | (rw [mup_ne (by assumption)]; assumption) | (rw [mup_ne (by assumption)]; exact mup_self) | (rw [mup_ne (by assumption), mup_ne (by assumption)]; assumption)) rfl wim_X7_fails wse_X7_fails ⟨Nat.le_of_ble_eq_true rfl, Nat.le_of_ble_eq_true rfl⟩ rfl rfl (Nat.le_of_ble_eq_true rfl) ⟨Nat.le_of_ble_eq_true rfl, Nat.le_of_ble_eq_true rfl⟩ dX7_distinctRoots_9 (fun r h1 hp => ?_)
    refine zi_ireturn X Vz dX7_distinctRoots_12 ?_
    exact Or.inl ⟨q1, uT_of hp.2⟩
end CN2
