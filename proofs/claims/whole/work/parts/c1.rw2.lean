/-! SturmRootsModel: negate, load, derive, moves, changes -/
theorem pa_at2 {M : Nat → Nat → Nat} {j i : Nat} {x : Int32} (hx : x = nI i) (hi : i < 7) : (fun i => if i < 7 then some (M 0 (7 * j + i)) else none) x.toNatClampNeg = some (M 0 (7 * j + i)) := by
  rw [hx]
  exact pa_at hi
theorem cof_up {N : Nat → Int} {j k : Nat} {p : Nat → Int} {v : Int} (hk : k < 7) : ∀ t, t < 7 → updI p k v t = (fun t => if t = k then v else p t) t := fun t _ => rfl
/-- from first + m - 1 down to first: to each the one above is added -/
def mvI (r : Nat → Int) (k : Nat) : Nat → Int := fun t => if t = k then r k + r (k + 1) else r t
def mvL : Nat → (Nat → Int) → Nat → Nat → Int
  | 0, r, _ => r
  | m + 1, r, f => mvL m (mvI r (f + m)) f
def mvA (g : Nat) : Nat → (Nat → Int) → Nat → Int
  | 0, r => r
  | n + 1, r => mvA g n (mvL (n + 1) r (g - 1 - n))
section RW1
variable {cA : Nat → ClassId} {M : Nat → Nat → Nat} {N : Nat → Int} {h : mH}
theorem m_negate (l : Launch) (D : va_G) (hh : hN cA M N h) {j : Nat} (hj : j < 176) :
    mCv l yX7_negate_ cX7_negate_ 2 (rmd 2) D (mT cA) [.ref (M 1 j)] h (fun h1 => nfr M h1 h ∧ hN cA M (setP N j (fun i => -cof N j i)) h1) := by
  refine mEnter_v (by decide) (Nat.le_of_ble_eq_true rfl) rfl (fun z X Vz => ?_)
  refine zi_iconst (v := (nI 0)) X dX7_negate__0 (by decide) ?_
  refine zi_istore_n X dX7_negate__1 rfl (by decide) ?_
  suffices key : ∀ k i (g : mH), i + k = 7 → nfr M g h → hN cA M (setP N j (fun t => if t < i then -cof N j t else cof N j t)) g → zM z 0 0 2 [some (.ref (M 1 j)), some (.int (nI i))] [] g from
    zi_sub (by repeat (first | exact trivial | refine And.intro rfl ?_)) (key 7 0 h (by omega) (nfr_rf M h) (hN_P (p := cof N j) (by rw [setP_self]; exact hh) (fun i _ => rfl)))
  intro k
  induction k with
  | zero =>
    intro i g hi hf hg
    obtain rfl : i = 7 := by omega
    refine zi_iload_n X dX7_negate__2 rfl rfl ?_
    refine zi_bipush (v := (nI 7)) X dX7_negate__3 (by decide) ?_
    refine zi_icmp_ge (tgt := 20) X dX7_negate__5 (by decide) (fun c_5 => ?_) (fun c_5 => (by first | exact absurd (by decide) c_5 | exact absurd c_5 (by decide)))
    refine zi_return X Vz dX7_negate__20 ?_
    exact ⟨hf, hN_P hg (fun i hi => by rw [if_pos hi])⟩
  | succ k ih =>
    intro i g hi hf hg
    have a1 := hg.2.1 j hj
    have a3 := hg.1 (7 * j + i) (by omega)
    rw [setP_at (by omega), if_neg (by omega)] at a3
    refine zi_iload_n X dX7_negate__2 rfl rfl ?_
    refine zi_bipush (v := (nI 7)) X dX7_negate__3 (by decide) ?_
    refine zi_icmp_ge (tgt := 20) X dX7_negate__5 (by decide) (fun c_5 => (by first | exact absurd (c7 (show i < 7 by omega)) c_5 | exact absurd c_5 (c7 (show i < 7 by omega)))) (fun c_5 => ?_)
    refine zi_aload_n X dX7_negate__8 rfl rfl ?_
    refine zi_iload_n X dX7_negate__9 rfl rfl ?_
    refine zi_aaldA X 4 (by first | assumption | exact mup_self | (rw [mup_ne (by assumption)]; assumption) | (rw [mup_ne (by assumption)]; exact mup_self) | (rw [mup_ne (by assumption), mup_ne (by assumption)]; assumption)) rfl (vin (show i < 7 by omega) (by decide)) (pa_at (i := i) (by omega)) dX7_negate__10 ?_
    refine zi_callSv X (n_negate l D a3) kc_X7_negate wm_X7_93 wst_X7_negate ⟨Nat.le_of_ble_eq_true rfl, Nat.le_of_ble_eq_true rfl⟩ rfl rfl (Nat.le_of_ble_eq_true rfl) ⟨Nat.le_of_ble_eq_true rfl, Nat.le_of_ble_eq_true rfl⟩ dX7_negate__11 (fun h1 hp => ?_)
    subst hp
    refine zi_iinc (v := nI (i + 1)) X dX7_negate__14 rfl (nI_inc _) (by decide) ?_
    refine zi_goto (tgt := 2) X dX7_negate__17 (by decide) ?_
    refine zi_sub (by repeat (first | exact trivial | refine And.intro rfl ?_)) (ih (i + 1) _ (by omega) (nfr_tr (nfr_up (by omega)) hf) (hN_pup hg hj (by omega) (fun t ht => ?_)))
    unfold updI
    dsimp only
    by_cases q : t = i
    · rw [if_pos q, if_pos (by omega), q]
    · rw [if_neg q]
      by_cases q2 : t < i
      · rw [if_pos q2, if_pos (by omega)]
      · rw [if_neg q2, if_neg (by omega)]
theorem m_load (l : Launch) (D : va_G) (hh : hN cA M N h) {j a : Nat} {f : Nat → Int32} (hj : j < 176) (ha : h a = some (.inl (cA 0, 7, .inl f))) :
    mCv l yX7_load cX7_load 3 (rmd 2) D (mT cA) [.ref a, .ref (M 1 j)] h (fun h1 => nfr M h1 h ∧ hN cA M (setP N j (fun i => (f i).toInt)) h1) := by
  refine mEnter_v (by decide) (Nat.le_of_ble_eq_true rfl) rfl (fun z X Vz => ?_)
  refine zi_iconst (v := (nI 0)) X dX7_load_0 (by decide) ?_
  refine zi_istore_n X dX7_load_1 rfl (by decide) ?_
  suffices key : ∀ k i (g : mH), i + k = 7 → nfr M g h → hN cA M (setP N j (fun t => if t < i then (f t).toInt else cof N j t)) g → zM z 0 0 2 [some (.ref a), some (.ref (M 1 j)), some (.int (nI i))] [] g from
    zi_sub (by repeat (first | exact trivial | refine And.intro rfl ?_)) (key 7 0 h (by omega) (nfr_rf M h) (hN_P (p := cof N j) (by rw [setP_self]; exact hh) (fun i _ => rfl)))
  intro k
  induction k with
  | zero =>
    intro i g hi hf hg
    obtain rfl : i = 7 := by omega
    refine zi_iload_n X dX7_load_2 rfl rfl ?_
    refine zi_bipush (v := (nI 7)) X dX7_load_3 (by decide) ?_
    refine zi_icmp_ge (tgt := 24) X dX7_load_5 (by decide) (fun c_5 => ?_) (fun c_5 => (by first | exact absurd (by decide) c_5 | exact absurd c_5 (by decide)))
    refine zi_return X Vz dX7_load_24 ?_
    exact ⟨hf, hN_P hg (fun i hi => by rw [if_pos hi])⟩
  | succ k ih =>
    intro i g hi hf hg
    have a1 := hg.2.1 j hj
    have a0 := nfr_at hh hf ha (fun c v q => by simp [nE] at q)
    have a3 := hg.1 (7 * j + i) (by omega)
    refine zi_iload_n X dX7_load_2 rfl rfl ?_
    refine zi_bipush (v := (nI 7)) X dX7_load_3 (by decide) ?_
    refine zi_icmp_ge (tgt := 24) X dX7_load_5 (by decide) (fun c_5 => (by first | exact absurd (c7 (show i < 7 by omega)) c_5 | exact absurd c_5 (c7 (show i < 7 by omega)))) (fun c_5 => ?_)
    refine zi_aload_n X dX7_load_8 rfl rfl ?_
    refine zi_iload_n X dX7_load_9 rfl rfl ?_
    refine zi_aaldA X 4 (by first | assumption | exact mup_self | (rw [mup_ne (by assumption)]; assumption) | (rw [mup_ne (by assumption)]; exact mup_self) | (rw [mup_ne (by assumption), mup_ne (by assumption)]; assumption)) rfl (vin (show i < 7 by omega) (by decide)) (pa_at (i := i) (by omega)) dX7_load_10 ?_
    refine zi_aload_n X dX7_load_11 rfl rfl ?_
    refine zi_iload_n X dX7_load_12 rfl rfl ?_
    refine zi_iald X 0 (by first | assumption | exact mup_self | (rw [mup_ne (by assumption)]; assumption) | (rw [mup_ne (by assumption)]; exact mup_self) | (rw [mup_ne (by assumption), mup_ne (by assumption)]; assumption)) rfl (vin (show i < 7 by omega) (by decide)) dX7_load_13 ?_
    refine zi_i2l X dX7_load_14 ?_
    rw [nI_cl (show i < 2147483648 by omega)]
    refine zi_callSv X (n_set l D a3) kc_X7_set wm_X7_145 wst_X7_set ⟨Nat.le_of_ble_eq_true rfl, Nat.le_of_ble_eq_true rfl⟩ rfl rfl (Nat.le_of_ble_eq_true rfl) ⟨Nat.le_of_ble_eq_true rfl, Nat.le_of_ble_eq_true rfl⟩ dX7_load_15 (fun h1 hp => ?_)
    subst hp
    rw [i32_i64]
    refine zi_iinc (v := nI (i + 1)) X dX7_load_18 rfl (nI_inc _) (by decide) ?_
    refine zi_goto (tgt := 2) X dX7_load_21 (by decide) ?_
    refine zi_sub (by repeat (first | exact trivial | refine And.intro rfl ?_)) (ih (i + 1) _ (by omega) (nfr_tr (nfr_up (by omega)) hf) (hN_pup hg hj (by omega) (fun t ht => ?_)))
    unfold updI
    dsimp only
    by_cases q : t = i
    · rw [if_pos q, if_pos (by omega), q]
    · rw [if_neg q]
      by_cases q2 : t < i
      · rw [if_pos q2, if_pos (by omega)]
      · rw [if_neg q2, if_neg (by omega)]
theorem m_derive (l : Launch) (D : va_G) (hh : hN cA M N h) {j j2 : Nat} (hj : j < 176) (hj2 : j2 < 176) (hne : j2 ≠ j) :
    mCv l yX7_derive cX7_derive 3 (rmd 3) D (mT cA) [.ref (M 1 j2), .ref (M 1 j)] h (fun h1 => nfr M h1 h ∧ hN cA M (setP N j (derI (cof N j2))) h1) := by
  refine mEnter_v (by decide) (Nat.le_of_ble_eq_true rfl) rfl (fun z X Vz => ?_)
  refine zi_iconst (v := (nI 0)) X dX7_derive_0 (by decide) ?_
  refine zi_istore_n X dX7_derive_1 rfl (by decide) ?_
  suffices key : ∀ k i (g : mH), i + k = 7 → nfr M g h → hN cA M (setP N j (fun t => if t < i then derI (cof N j2) t else cof N j t)) g → zM z 0 0 2 [some (.ref (M 1 j2)), some (.ref (M 1 j)), some (.int (nI i))] [] g from
    zi_sub (by repeat (first | exact trivial | refine And.intro rfl ?_)) (key 7 0 h (by omega) (nfr_rf M h) (hN_P (p := cof N j) (by rw [setP_self]; exact hh) (fun i _ => rfl)))
  intro k
  induction k with
  | zero =>
    intro i g hi hf hg
    obtain rfl : i = 7 := by omega
    refine zi_iload_n X dX7_derive_2 rfl rfl ?_
    refine zi_bipush (v := (nI 7)) X dX7_derive_3 (by decide) ?_
    refine zi_icmp_ge (tgt := 58) X dX7_derive_5 (by decide) (fun c_5 => ?_) (fun c_5 => (by first | exact absurd (by decide) c_5 | exact absurd c_5 (by decide)))
    refine zi_return X Vz dX7_derive_58 ?_
    exact ⟨hf, hN_P hg (fun i hi => by rw [if_pos hi])⟩
  | succ k ih =>
    intro i g hi hf hg
    have i7 : i < 7 := by omega
    have a1 := hg.2.1 j hj
    have a2 := hg.2.1 j2 hj2
    have a3 := hg.1 (7 * j + i) (by omega)
    -- from 42 on: the number holds w
    have s42 : ∀ (w : Int) (g1 : mH), w * ((i : Int) + 1) = derI (cof N j2) i → nfr M g1 h → hN cA M (setP N j (fun t => if t = i then w else if t < i then derI (cof N j2) t else cof N j t)) g1 → zM z 0 0 42 [some (.ref (M 1 j2)), some (.ref (M 1 j)), some (.int (nI i))] [] g1 := fun w g1 hw hf1 hg1 => by
      have b1 := hg1.2.1 j hj
      have b3 := hg1.1 (7 * j + i) (by omega)
      rw [setP_at i7, if_pos rfl] at b3
      refine zi_aload_n X dX7_derive_42 rfl rfl ?_
      refine zi_iload_n X dX7_derive_43 rfl rfl ?_
      refine zi_aaldA X 4 (by first | assumption | exact mup_self | (rw [mup_ne (by assumption)]; assumption) | (rw [mup_ne (by assumption)]; exact mup_self) | (rw [mup_ne (by assumption), mup_ne (by assumption)]; assumption)) rfl (vin i7 (by decide)) (pa_at (i := i) i7) dX7_derive_44 ?_
      refine zi_iload_n X dX7_derive_45 rfl rfl ?_
      refine zi_iconst (v := (nI 1)) X dX7_derive_46 (by decide) ?_
      refine zi_iadd X dX7_derive_47 ?_
      refine zi_i2l X dX7_derive_48 ?_
      rw [nI_add]
      have e : (nI (i + 1)).toInt64.toInt = (i : Int) + 1 := by
        rw [i32_i64, nI_int (by omega)]
        omega
      refine zi_callSv X (n_times l D b3 (x := (nI (i + 1)).toInt64) (by rw [e]; unfold CC; omega)) kc_X7_times wm_X7_152 wst_X7_times ⟨Nat.le_of_ble_eq_true rfl, Nat.le_of_ble_eq_true rfl⟩ rfl rfl (Nat.le_of_ble_eq_true rfl) ⟨Nat.le_of_ble_eq_true rfl, Nat.le_of_ble_eq_true rfl⟩ dX7_derive_49 (fun h1 hp => ?_)
      subst hp
      rw [e, hw]
      refine zi_iinc (v := nI (i + 1)) X dX7_derive_52 rfl (nI_inc _) (by decide) ?_
      refine zi_goto (tgt := 2) X dX7_derive_55 (by decide) ?_
      refine zi_sub (by repeat (first | exact trivial | refine And.intro rfl ?_)) (ih (i + 1) _ (by omega) (nfr_tr (nfr_up (by omega)) hf1) (hN_pup hg1 hj i7 (fun t ht => ?_)))
      unfold updI
      dsimp only
      by_cases q : t = i
      · rw [if_pos q, if_pos (by omega), q]
      · rw [if_neg q, if_neg q]
        by_cases q2 : t < i
        · rw [if_pos q2, if_pos (by omega)]
        · rw [if_neg q2, if_neg (by omega)]
    have seq : ∀ w : Int, ∀ t, t < 7 → updI (fun t => if t < i then derI (cof N j2) t else cof N j t) i w t = (fun t => if t = i then w else if t < i then derI (cof N j2) t else cof N j t) t := fun w t _ => rfl
    by_cases c6 : i = 6
    · refine zi_iload_n X dX7_derive_2 rfl rfl ?_
      refine zi_bipush (v := (nI 7)) X dX7_derive_3 (by decide) ?_
      refine zi_icmp_ge (tgt := 58) X dX7_derive_5 (by decide) (fun c_5 => (by first | exact absurd (c7 i7) c_5 | exact absurd c_5 (c7 i7))) (fun c_5 => ?_)
      refine zi_iload_n X dX7_derive_8 rfl rfl ?_
      refine zi_iconst (v := (nI 1)) X dX7_derive_9 (by decide) ?_
      refine zi_iadd X dX7_derive_10 ?_
      refine zi_bipush (v := (nI 7)) X dX7_derive_11 (by decide) ?_
      refine zi_icmp_ge (tgt := 27) X dX7_derive_13 (by decide) (fun c_13 => ?_) (fun c_13 => (by first | exact absurd (by rw [c6]; decide) c_13 | exact absurd c_13 (by rw [c6]; decide)))
      refine zi_iload_n X dX7_derive_27 rfl rfl ?_
      refine zi_iconst (v := (nI 1)) X dX7_derive_28 (by decide) ?_
      refine zi_iadd X dX7_derive_29 ?_
      refine zi_bipush (v := (nI 7)) X dX7_derive_30 (by decide) ?_
      refine zi_icmp_ne (tgt := 42) X dX7_derive_32 (by decide) (fun c_32 => (by first | exact absurd (by rw [c6]; decide) c_32 | exact absurd c_32 (by rw [c6]; decide))) (fun c_32 => ?_)
      refine zi_aload_n X dX7_derive_35 rfl rfl ?_
      refine zi_iload_n X dX7_derive_36 rfl rfl ?_
      refine zi_aaldA X 4 (by first | assumption | exact mup_self | (rw [mup_ne (by assumption)]; assumption) | (rw [mup_ne (by assumption)]; exact mup_self) | (rw [mup_ne (by assumption), mup_ne (by assumption)]; assumption)) rfl (vin i7 (by decide)) (pa_at (i := i) i7) dX7_derive_37 ?_
      refine zi_lconst (v := lN 0) X dX7_derive_38 (by decide) ?_
      refine zi_callSv X (n_set l D a3) kc_X7_set wm_X7_145 wst_X7_set ⟨Nat.le_of_ble_eq_true rfl, Nat.le_of_ble_eq_true rfl⟩ rfl rfl (Nat.le_of_ble_eq_true rfl) ⟨Nat.le_of_ble_eq_true rfl, Nat.le_of_ble_eq_true rfl⟩ dX7_derive_39 (fun h1 hp => ?_)
      subst hp
      refine s42 0 _ (by unfold derI; rw [if_neg (by omega), Int.zero_mul]) (nfr_tr (nfr_up (by omega)) hf) ?_
      have e0 : (lN 0).toInt = 0 := by decide
      rw [e0]
      exact hN_pup hg hj i7 (seq 0)
    · have a4 := hg.1 (7 * j2 + (i + 1)) (by omega)
      rw [setP_out hne (by omega)] at a4
      have n7 : ¬ nI 7 ≤ nI i + nI 1 := by rw [nI_add]; exact c7 (by omega)
      have nn7 : ¬ nI i + nI 1 = nI 7 := by rw [nI_add, nI_eq (by omega) (by decide)]; omega
      refine zi_iload_n X dX7_derive_2 rfl rfl ?_
      refine zi_bipush (v := (nI 7)) X dX7_derive_3 (by decide) ?_
      refine zi_icmp_ge (tgt := 58) X dX7_derive_5 (by decide) (fun c_5 => (by first | exact absurd (c7 i7) c_5 | exact absurd c_5 (c7 i7))) (fun c_5 => ?_)
      refine zi_iload_n X dX7_derive_8 rfl rfl ?_
      refine zi_iconst (v := (nI 1)) X dX7_derive_9 (by decide) ?_
      refine zi_iadd X dX7_derive_10 ?_
      refine zi_bipush (v := (nI 7)) X dX7_derive_11 (by decide) ?_
      refine zi_icmp_ge (tgt := 27) X dX7_derive_13 (by decide) (fun c_13 => (by first | exact absurd n7 c_13 | exact absurd c_13 n7)) (fun c_13 => ?_)
      refine zi_aload_n X dX7_derive_16 rfl rfl ?_
      refine zi_iload_n X dX7_derive_17 rfl rfl ?_
      refine zi_iconst (v := (nI 1)) X dX7_derive_18 (by decide) ?_
      refine zi_iadd X dX7_derive_19 ?_
      refine zi_aaldA X 4 (by first | assumption | exact mup_self | (rw [mup_ne (by assumption)]; assumption) | (rw [mup_ne (by assumption)]; exact mup_self) | (rw [mup_ne (by assumption), mup_ne (by assumption)]; assumption)) rfl (by rw [nI_add]; exact vin (show i + 1 < 7 by omega) (by decide)) (pa_at2 (i := i + 1) (nI_add i 1) (by omega)) dX7_derive_20 ?_
      refine zi_aload_n X dX7_derive_21 rfl rfl ?_
      refine zi_iload_n X dX7_derive_22 rfl rfl ?_
      refine zi_aaldA X 4 (by first | assumption | exact mup_self | (rw [mup_ne (by assumption)]; assumption) | (rw [mup_ne (by assumption)]; exact mup_self) | (rw [mup_ne (by assumption), mup_ne (by assumption)]; assumption)) rfl (vin i7 (by decide)) (pa_at (i := i) i7) dX7_derive_23 ?_
      refine zi_callSv X (n_copy l D a4 a3 (hN_ne hg (by omega) (by omega) (by omega))) kc_X7_copy wm_X7_113 wst_X7_copy ⟨Nat.le_of_ble_eq_true rfl, Nat.le_of_ble_eq_true rfl⟩ rfl rfl (Nat.le_of_ble_eq_true rfl) ⟨Nat.le_of_ble_eq_true rfl, Nat.le_of_ble_eq_true rfl⟩ dX7_derive_24 (fun h1 hp => ?_)
      subst hp
      refine zi_iload_n X dX7_derive_27 rfl rfl ?_
      refine zi_iconst (v := (nI 1)) X dX7_derive_28 (by decide) ?_
      refine zi_iadd X dX7_derive_29 ?_
      refine zi_bipush (v := (nI 7)) X dX7_derive_30 (by decide) ?_
      refine zi_icmp_ne (tgt := 42) X dX7_derive_32 (by decide) (fun c_32 => ?_) (fun c_32 => (by first | exact absurd nn7 c_32 | exact absurd c_32 nn7))
      refine s42 (N (7 * j2 + (i + 1))) _ (by unfold derI; rw [if_pos (by omega)]; rfl) (nfr_tr (nfr_up (by omega)) hf) (hN_pup hg hj i7 (seq _))
theorem m_moves (l : Launch) (D : va_G) (hh : hN cA M N h) {j g : Nat} (hj : j < 176) (hg7 : g < 7) :
    mCv l yX7_moves cX7_moves 4 (rmd 2) D (mT cA) [.ref (M 1 j), .int (nI g)] h (fun h1 => nfr M h1 h ∧ hN cA M (setP N j (mvA g g (cof N j))) h1) := by
  refine mEnter_v (by decide) (Nat.le_of_ble_eq_true rfl) rfl (fun z X Vz => ?_)
  refine zi_iconst (v := (nI 0)) X dX7_moves_0 (by decide) ?_
  refine zi_istore_n X dX7_moves_1 rfl (by decide) ?_
  suffices key : ∀ n i (r : Nat → Int) (h1 : mH), i + n = g → mvA g n r = mvA g g (cof N j) → nfr M h1 h → hN cA M (setP N j r) h1 → zM z 0 0 2 [some (.ref (M 1 j)), some (.int (nI g)), some (.int (nI i)), none] [] h1 from
    zi_sub (by repeat (first | exact trivial | refine And.intro rfl ?_)) (key g 0 (cof N j) h (by omega) rfl (nfr_rf M h) (by rw [setP_self]; exact hh))
  intro n
  induction n with
  | zero =>
    intro i r h1 hi hr hf hn
    obtain rfl : i = g := by omega
    refine zi_iload_n X dX7_moves_2 rfl rfl ?_
    refine zi_iload_n X dX7_moves_3 rfl rfl ?_
    refine zi_icmp_ge (tgt := 39) X dX7_moves_4 (by decide) (fun c_4 => ?_) (fun c_4 => (by first | exact absurd (Int32.le_refl _) c_4 | exact absurd c_4 (Int32.le_refl _)))
    refine zi_return X Vz dX7_moves_39 ?_
    rw [← hr]
    exact ⟨hf, hn⟩
  | succ n ih =>
    intro i r h1 hi hr hf hn
    have eg : nI g - nI 1 = nI (g - 1) := by rw [pk_sub (by omega)]
    refine zi_iload_n X dX7_moves_2 rfl rfl ?_
    refine zi_iload_n X dX7_moves_3 rfl rfl ?_
    refine zi_icmp_ge (tgt := 39) X dX7_moves_4 (by decide) (fun c_4 => (by first | exact absurd (nI_ge (show i < g by omega) (by omega)) c_4 | exact absurd c_4 (nI_ge (show i < g by omega) (by omega)))) (fun c_4 => ?_)
    refine zi_iload_n X dX7_moves_7 rfl rfl ?_
    refine zi_iconst (v := (nI 1)) X dX7_moves_8 (by decide) ?_
    refine zi_isub X dX7_moves_9 ?_
    refine zi_istore_n X dX7_moves_10 rfl (by decide) ?_
    rw [eg]
    suffices inner : ∀ m (r1 : Nat → Int) (h2 : mH), m ≤ n + 1 → mvL m r1 i = mvL (n + 1) r i → nfr M h2 h → hN cA M (setP N j r1) h2 → zM z 0 0 11 [some (.ref (M 1 j)), some (.int (nI g)), some (.int (nI i)), some (.int (nI (i + m) - nI 1))] [] h2 from by
      have := inner (n + 1) r h1 (Nat.le_refl _) rfl hf hn
      rw [show i + (n + 1) = (g - 1) + 1 by omega, nI_pr] at this
      exact zi_sub (by repeat (first | exact trivial | refine And.intro rfl ?_)) this
    intro m
    induction m with
    | zero =>
      intro r1 h2 hm hr1 hf2 hn2
      have lt : nI (i + 0) - nI 1 < nI i := by
        rw [dI_lt (by omega) (by omega)]
        omega
      refine zi_iload_n X dX7_moves_11 rfl rfl ?_
      refine zi_iload_n X dX7_moves_12 rfl rfl ?_
      refine zi_icmp_lt (tgt := 33) X dX7_moves_13 (by decide) (fun c_13 => ?_) (fun c_13 => (by first | exact absurd lt c_13 | exact absurd c_13 lt))
      refine zi_iinc (v := nI (i + 1)) X dX7_moves_33 rfl (nI_inc _) (by decide) ?_
      refine zi_goto (tgt := 2) X dX7_moves_36 (by decide) ?_
      refine zi_sub (by repeat (first | exact trivial | refine And.intro rfl ?_)) (ih (i + 1) r1 h2 (by omega) ?_ hf2 hn2)
      rw [← hr, mvA, show g - 1 - n = i by omega, ← hr1]
      rfl
    | succ m ihm =>
      intro r1 h2 hm hr1 hf2 hn2
      rw [← Nat.add_assoc, nI_pr]
      have ik : i + m < 6 := by omega
      have a1 := hn2.2.1 j hj
      have a3 := hn2.1 (7 * j + (i + m)) (by omega)
      have a4 := hn2.1 (7 * j + (i + m + 1)) (by omega)
      rw [setP_at (by omega)] at a3 a4
      refine zi_iload_n X dX7_moves_11 rfl rfl ?_
      refine zi_iload_n X dX7_moves_12 rfl rfl ?_
      refine zi_icmp_lt (tgt := 33) X dX7_moves_13 (by decide) (fun c_13 => (by first | exact absurd (nI_nlt (show i ≤ i + m by omega) (by omega)) c_13 | exact absurd c_13 (nI_nlt (show i ≤ i + m by omega) (by omega)))) (fun c_13 => ?_)
      refine zi_aload_n X dX7_moves_16 rfl rfl ?_
      refine zi_iload_n X dX7_moves_17 rfl rfl ?_
      refine zi_aaldA X 4 (by first | assumption | exact mup_self | (rw [mup_ne (by assumption)]; assumption) | (rw [mup_ne (by assumption)]; exact mup_self) | (rw [mup_ne (by assumption), mup_ne (by assumption)]; assumption)) rfl (vin (show i + m < 7 by omega) (by decide)) (pa_at (i := i + m) (by omega)) dX7_moves_18 ?_
      refine zi_aload_n X dX7_moves_19 rfl rfl ?_
      refine zi_iload_n X dX7_moves_20 rfl rfl ?_
      refine zi_iconst (v := (nI 1)) X dX7_moves_21 (by decide) ?_
      refine zi_iadd X dX7_moves_22 ?_
      refine zi_aaldA X 4 (by first | assumption | exact mup_self | (rw [mup_ne (by assumption)]; assumption) | (rw [mup_ne (by assumption)]; exact mup_self) | (rw [mup_ne (by assumption), mup_ne (by assumption)]; assumption)) rfl (by rw [nI_add]; exact vin (show i + m + 1 < 7 by omega) (by decide)) (pa_at2 (i := i + m + 1) (nI_add _ 1) (by omega)) dX7_moves_23 ?_
      refine zi_callSv X (n_add l D a3 a4 (hN_ne hn2 (by omega) (by omega) (by omega))) kc_X7_add wm_X7_194 wst_X7_add ⟨Nat.le_of_ble_eq_true rfl, Nat.le_of_ble_eq_true rfl⟩ rfl rfl (Nat.le_of_ble_eq_true rfl) ⟨Nat.le_of_ble_eq_true rfl, Nat.le_of_ble_eq_true rfl⟩ dX7_moves_24 (fun h3 hp => ?_)
      subst hp
      refine zi_iinc X dX7_moves_27 rfl rfl (by decide) ?_
      refine zi_goto (tgt := 11) X dX7_moves_30 (by decide) ?_
      rw [nI_dm]
      refine zi_sub (by repeat (first | exact trivial | refine And.intro rfl ?_)) (ihm (mvI r1 (i + m)) _ (by omega) (by rw [← hr1]; rfl) (nfr_tr (nfr_up (by omega)) hf2) (hN_pup hn2 hj (by omega) (fun t ht => rfl)))
theorem m_changes (l : Launch) (D : va_G) (hh : hN cA M N h) {j g : Nat} (hj : j < 176) (hg7 : g < 7) (hb : ∀ i, i ≤ g → nB (N (7 * j + i))) :
    mCi l yX7_changes cX7_changes 6 .int (rmd 2) D (mT cA) [.ref (M 1 j), .int (nI g)] h (fun r h1 => h1 = h ∧ r = nI (chg (fun i => (cof N j i).sign) (g + 1)).2) := by
  refine mEnter_i (by decide) (Nat.le_of_ble_eq_true rfl) rfl (fun z X Vz => ?_)
  have a1 := hh.2.1 j hj
  have hs3 : ∀ i, (fun i => (cof N j i).sign) i = 0 ∨ (fun i => (cof N j i).sign) i = 1 ∨ (fun i => (cof N j i).sign) i = -1 := fun i => by
    dsimp only
    rcases Int.lt_trichotomy (cof N j i) 0 with q | q | q
    · exact Or.inr (Or.inr (Int.sign_eq_neg_one_of_neg q))
    · rw [q]; exact Or.inl rfl
    · exact Or.inr (Or.inl (Int.sign_eq_one_of_pos q))
  generalize hs : (fun i => (cof N j i).sign) = s at hs3
  have cle : ∀ n, (chg s n).2 ≤ n := chg_le s
  refine zi_iconst (v := (nI 0)) X dX7_changes_0 (by decide) ?_
  refine zi_istore_n X dX7_changes_1 rfl (by decide) ?_
  refine zi_iconst (v := (nI 0)) X dX7_changes_2 (by decide) ?_
  refine zi_istore_n X dX7_changes_3 rfl (by decide) ?_
  refine zi_iconst (v := (nI 0)) X dX7_changes_4 (by decide) ?_
  refine zi_istore X dX7_changes_5 (by decide) ?_
  suffices key : ∀ m i, i + m = g + 1 → zM z 0 0 7 [some (.ref (M 1 j)), some (.int (nI g)), some (.int (nI (chg s i).2)), some (.int (s3 (chg s i).1)), some (.int (nI i)), none] [] h from
    zi_sub (by repeat (first | exact trivial | refine And.intro rfl ?_)) (key (g + 1) 0 (by omega))
  intro m
  induction m with
  | zero =>
    intro i hi
    obtain rfl : i = g + 1 := by omega
    refine zi_iload X dX7_changes_7 rfl ?_
    refine zi_iload_n X dX7_changes_9 rfl rfl ?_
    refine zi_icmp_gt (tgt := 63) X dX7_changes_10 (by decide) (fun c_10 => ?_) (fun c_10 => (by first | exact absurd (nI_lt (show g < g + 1 by omega) (by omega)) c_10 | exact absurd c_10 (nI_lt (show g < g + 1 by omega) (by omega))))
    refine zi_iload_n X dX7_changes_63 rfl rfl ?_
    refine zi_ireturn X Vz dX7_changes_64 ?_
    exact ⟨rfl, by rw [hs]⟩
  | succ m ih =>
    intro i hi
    have a3 := hh.1 (7 * j + i) (by omega)
    have hsi : sgI (N (7 * j + i)) = s3 (s i) := by
      rw [sg_sgn, s3_sign, ← hs]
      rfl
    have z3 : ∀ x : Int, x = 0 ∨ x = 1 ∨ x = -1 → (s3 x = 0 ↔ x = 0) := fun x hx => by
      rcases hx with rfl | rfl | rfl <;> decide
    have e3 : ∀ x y : Int, (x = 0 ∨ x = 1 ∨ x = -1) → (y = 0 ∨ y = 1 ∨ y = -1) → (s3 x = s3 y ↔ x = y) := fun x y hx hy => by
      rcases hx with rfl | rfl | rfl <;> rcases hy with rfl | rfl | rfl <;> decide
    have hl := chg_sg hs3 i
    have s56 : ∀ c' : Nat, c' = (chg s (i + 1)).2 → ∀ v : Int, v = (chg s (i + 1)).1 → zM z 0 0 56 [some (.ref (M 1 j)), some (.int (nI g)), some (.int (nI c')), none, some (.int (nI i)), none] [.int (s3 v)] h := fun c' hc v hv => by
      subst hc hv
      refine zi_istore_n X dX7_changes_56 rfl (by decide) ?_
      refine zi_iinc (v := nI (i + 1)) X dX7_changes_57 rfl (nI_inc _) (by decide) ?_
      refine zi_goto (tgt := 7) X dX7_changes_60 (by decide) ?_
      exact zi_sub (by repeat (first | exact trivial | refine And.intro rfl ?_)) (ih (i + 1) (by omega))
    have s43 : ∀ d : Nat, (chg s i).2 + d = (chg s (i + 1)).2 → zM z 0 0 43 [some (.ref (M 1 j)), some (.int (nI g)), some (.int (nI (chg s i).2)), some (.int (s3 (chg s i).1)), some (.int (nI i)), some (.int (s3 (s i)))] [.int (nI d), .int (nI (chg s i).2)] h := fun d hd => by
      by_cases c : s i = 0
      · refine zi_iadd X dX7_changes_43 ?_
        refine zi_istore_n X dX7_changes_44 rfl (by decide) ?_
        refine zi_iload X dX7_changes_45 rfl ?_
        refine zi_if_ne (tgt := 54) X dX7_changes_47 (by decide) (fun c_47 => (by first | exact absurd ((z3 _ (hs3 i)).mpr c) c_47 | exact absurd c_47 ((z3 _ (hs3 i)).mpr c))) (fun c_47 => ?_)
        rw [nI_add]
        refine zi_iload_n X dX7_changes_50 rfl rfl ?_
        refine zi_goto (tgt := 56) X dX7_changes_51 (by decide) ?_
        exact zi_sub (by repeat (first | exact trivial | refine And.intro rfl ?_)) (s56 _ hd _ (by rw [chg, if_pos c]))
      · refine zi_iadd X dX7_changes_43 ?_
        refine zi_istore_n X dX7_changes_44 rfl (by decide) ?_
        refine zi_iload X dX7_changes_45 rfl ?_
        refine zi_if_ne (tgt := 54) X dX7_changes_47 (by decide) (fun c_47 => ?_) (fun c_47 => (by first | exact absurd (fun q => c ((z3 _ (hs3 i)).mp q)) c_47 | exact absurd c_47 (fun q => c ((z3 _ (hs3 i)).mp q))))
        rw [nI_add]
        refine zi_iload X dX7_changes_54 rfl ?_
        exact zi_sub (by repeat (first | exact trivial | refine And.intro rfl ?_)) (s56 _ hd _ (by rw [chg, if_neg c]))
    have neg : s i * (chg s i).1 < 0 ↔ s i ≠ 0 ∧ (chg s i).1 ≠ 0 ∧ s i ≠ (chg s i).1 := by
      rcases hs3 i with q | q | q <;> rcases hl with w | w | w <;> rw [q, w] <;> decide
    have d1 : s i ≠ 0 ∧ (chg s i).1 ≠ 0 ∧ s i ≠ (chg s i).1 → (chg s i).2 + 1 = (chg s (i + 1)).2 := fun q => by rw [chg, if_pos (neg.mpr q)]
    have d0 : ¬ (s i ≠ 0 ∧ (chg s i).1 ≠ 0 ∧ s i ≠ (chg s i).1) → (chg s i).2 + 0 = (chg s (i + 1)).2 := fun q => by rw [chg, if_neg (fun w => q (neg.mp w))]; rfl
    refine zi_iload X dX7_changes_7 rfl ?_
    refine zi_iload_n X dX7_changes_9 rfl rfl ?_
    refine zi_icmp_gt (tgt := 63) X dX7_changes_10 (by decide) (fun c_10 => (by first | exact absurd (nI_nlt (show i ≤ g by omega) (by omega)) c_10 | exact absurd c_10 (nI_nlt (show i ≤ g by omega) (by omega)))) (fun c_10 => ?_)
    refine zi_aload_n X dX7_changes_13 rfl rfl ?_
    refine zi_iload X dX7_changes_14 rfl ?_
    refine zi_aaldA X 4 (by first | assumption | exact mup_self | (rw [mup_ne (by assumption)]; assumption) | (rw [mup_ne (by assumption)]; exact mup_self) | (rw [mup_ne (by assumption), mup_ne (by assumption)]; assumption)) rfl (vin (show i < 7 by omega) (by decide)) (pa_at (i := i) (by omega)) dX7_changes_16 ?_
    refine zi_callSi X (n_sign l D a3 (hb i (by omega))) kc_X7_sign wm_X7_110 wst_X7_sign ⟨Nat.le_of_ble_eq_true rfl, Nat.le_of_ble_eq_true rfl⟩ rfl rfl (Nat.le_of_ble_eq_true rfl) ⟨Nat.le_of_ble_eq_true rfl, Nat.le_of_ble_eq_true rfl⟩ dX7_changes_17 (fun r h1 hp => ?_)
    obtain ⟨rfl, rfl⟩ := hp
    rw [hsi]
    by_cases c1 : s i = 0
    · refine zi_istore X dX7_changes_20 (by decide) ?_
      refine zi_iload_n X dX7_changes_22 rfl rfl ?_
      refine zi_iload X dX7_changes_23 rfl ?_
      refine zi_if_eq (tgt := 42) X dX7_changes_25 (by decide) (fun c_25 => ?_) (fun c_25 => (by first | exact absurd ((z3 _ (hs3 i)).mpr c1) c_25 | exact absurd c_25 ((z3 _ (hs3 i)).mpr c1)))
      refine zi_iconst (v := (nI 0)) X dX7_changes_42 (by decide) ?_
      exact zi_sub (by repeat (first | exact trivial | refine And.intro rfl ?_)) (s43 0 (d0 (fun q => q.1 c1)))
    · refine zi_istore X dX7_changes_20 (by decide) ?_
      refine zi_iload_n X dX7_changes_22 rfl rfl ?_
      refine zi_iload X dX7_changes_23 rfl ?_
      refine zi_if_eq (tgt := 42) X dX7_changes_25 (by decide) (fun c_25 => (by first | exact absurd (fun q => c1 ((z3 _ (hs3 i)).mp q)) c_25 | exact absurd c_25 (fun q => c1 ((z3 _ (hs3 i)).mp q)))) (fun c_25 => ?_)
      by_cases c2 : (chg s i).1 = 0
      · refine zi_iload_n X dX7_changes_28 rfl rfl ?_
        refine zi_if_eq (tgt := 42) X dX7_changes_29 (by decide) (fun c_29 => ?_) (fun c_29 => (by first | exact absurd ((z3 _ hl).mpr c2) c_29 | exact absurd c_29 ((z3 _ hl).mpr c2)))
        refine zi_iconst (v := (nI 0)) X dX7_changes_42 (by decide) ?_
        exact zi_sub (by repeat (first | exact trivial | refine And.intro rfl ?_)) (s43 0 (d0 (fun q => q.2.1 c2)))
      · refine zi_iload_n X dX7_changes_28 rfl rfl ?_
        refine zi_if_eq (tgt := 42) X dX7_changes_29 (by decide) (fun c_29 => (by first | exact absurd (fun q => c2 ((z3 _ hl).mp q)) c_29 | exact absurd c_29 (fun q => c2 ((z3 _ hl).mp q)))) (fun c_29 => ?_)
        by_cases c3 : s i = (chg s i).1
        · refine zi_iload X dX7_changes_32 rfl ?_
          refine zi_iload_n X dX7_changes_34 rfl rfl ?_
          refine zi_icmp_eq (tgt := 42) X dX7_changes_35 (by decide) (fun c_35 => ?_) (fun c_35 => (by first | exact absurd ((e3 _ _ (hs3 i) hl).mpr c3) c_35 | exact absurd c_35 ((e3 _ _ (hs3 i) hl).mpr c3)))
          refine zi_iconst (v := (nI 0)) X dX7_changes_42 (by decide) ?_
          exact zi_sub (by repeat (first | exact trivial | refine And.intro rfl ?_)) (s43 0 (d0 (fun q => q.2.2 c3)))
        · refine zi_iload X dX7_changes_32 rfl ?_
          refine zi_iload_n X dX7_changes_34 rfl rfl ?_
          refine zi_icmp_eq (tgt := 42) X dX7_changes_35 (by decide) (fun c_35 => (by first | exact absurd (fun q => c3 ((e3 _ _ (hs3 i) hl).mp q)) c_35 | exact absurd c_35 (fun q => c3 ((e3 _ _ (hs3 i) hl).mp q)))) (fun c_35 => ?_)
          refine zi_iconst (v := (nI 1)) X dX7_changes_38 (by decide) ?_
          refine zi_goto (tgt := 43) X dX7_changes_39 (by decide) ?_
          exact zi_sub (by repeat (first | exact trivial | refine And.intro rfl ?_)) (s43 1 (d1 ⟨c1, c2, c3⟩))
end RW1
