/-! SturmRootsModel: signAt, changesWithin -/
theorem evS_2 (p : Nat → Int) (n : Int) (k G : Nat) : ∀ m, (evS p n (2 ^ k : Nat) G m).2 = 2 ^ (k * m)
  | 0 => rfl
  | m + 1 => by
    rw [evS]
    dsimp only
    rw [evS_2 p n k G m, Nat.mul_succ, Int.pow_add, tw_c]
theorem sgI_s3 (v : Int) : sgI v = s3 v.sign := by rw [sg_sgn, s3_sign]
theorem mvI_cong {r r' : Nat → Int} {g k : Nat} (hk : k < g) (h : ∀ t, t ≤ g → r t = r' t) : ∀ t, t ≤ g → mvI r k t = mvI r' k t := fun t ht => by
  unfold mvI
  split
  · rw [h k (by omega), h (k + 1) (by omega)]
  · exact h t ht
theorem mvL_cong {g f : Nat} : ∀ (m : Nat) {r r' : Nat → Int}, f + m ≤ g → (∀ t, t ≤ g → r t = r' t) → ∀ t, t ≤ g → mvL m r f t = mvL m r' f t
  | 0, _, _, _, h => h
  | m + 1, _, _, hf, h => mvL_cong m (by omega) (mvI_cong (by omega) h)
theorem mvA_cong {g : Nat} : ∀ (n : Nat) {r r' : Nat → Int}, n ≤ g → (∀ t, t ≤ g → r t = r' t) → ∀ t, t ≤ g → mvA g n r t = mvA g n r' t
  | 0, _, _, _, h => h
  | n + 1, _, _, hn, h => mvA_cong n (by omega) (mvL_cong (n + 1) (by omega) h)
/-- the sign changes of a node -/
def cwQ (p : Nat → Int) (g : Nat) : Nat → Int := mvA g g (fun t => p (g - t))
def cwN (p : Nat → Int) (g : Nat) : Nat := (chg (fun i => (cwQ p g i).sign) (g + 1)).2
section RW7
variable {cA : Nat → ClassId} {M : Nat → Nat → Nat} {P : Nat → Nat → Int} {h : mH} {o : RO} {m : Nat}
theorem r_signAt (l : Launch) (D : va_G) (hm : h m = some (mO M o)) (hh : hQ cA M P h) {j : Nat} (hj : j < 176) (hb : pC (P j)) {x : Int64} (hx : x.toInt.natAbs < CC) {k : Nat} (hk : k < 14) (hv : nC (evS (P j) x.toInt (2 ^ k : Nat) (stI (P j) 7) (stI (P j) 7)).1) :
    mCi l yX7_signAt cX7_signAt 7 .int (rmd 3) D (mT cA) [.ref m, .ref (M 1 j), .long x, .int (nI k)] h (fun r h1 => nfr M h1 h ∧ hQ cA M P h1 ∧ r = s3 (sgnAt (P j) x.toInt k)) := by
  refine mEnter_i (by decide) (Nat.le_of_ble_eq_true rfl) rfl (fun z X Vz => ?_)
  refine zi_aload_n X dX7_signAt_0 rfl rfl ?_
  refine zi_callSi X (r_degree l D hh hj hb) kc_X7_degree wm_X7_166 wst_X7_degree ⟨Nat.le_of_ble_eq_true rfl, Nat.le_of_ble_eq_true rfl⟩ rfl rfl (Nat.le_of_ble_eq_true rfl) ⟨Nat.le_of_ble_eq_true rfl, Nat.le_of_ble_eq_true rfl⟩ dX7_signAt_1 (fun r h1 hp => ?_)
  obtain ⟨rfl, rfl⟩ := hp
  have hG := stI_le (P j) 7
  obtain ⟨N, hN0, hP⟩ := id hh
  have at_ := hN0.1 1232 (by decide)
  refine zi_istore X dX7_signAt_4 (by decide) ?_
  refine zi_aload_n X dX7_signAt_6 rfl rfl ?_
  refine zi_getf (C := RX7) (T := TX7) (N := 27) (ci := 11) X (by first | assumption | exact mup_self | (rw [mup_ne (by assumption)]; assumption) | (rw [mup_ne (by assumption)]; exact mup_self) | (rw [mup_ne (by assumption), mup_ne (by assumption)]; assumption)) rfl in_X7 2 (by decide) wf_X7_14 rfl rfl dX7_signAt_7 ?_
  refine zi_lconst (v := lN 0) X dX7_signAt_10 (by decide) ?_
  refine zi_callSv X (n_set l D at_) kc_X7_set wm_X7_145 wst_X7_set ⟨Nat.le_of_ble_eq_true rfl, Nat.le_of_ble_eq_true rfl⟩ rfl rfl (Nat.le_of_ble_eq_true rfl) ⟨Nat.le_of_ble_eq_true rfl, Nat.le_of_ble_eq_true rfl⟩ dX7_signAt_11 (fun h2 hp => ?_)
  subst hp
  have e00 : (lN 0).toInt = 0 := by decide
  rw [e00]
  refine zi_iload X dX7_signAt_14 rfl ?_
  refine zi_istore X dX7_signAt_16 (by decide) ?_
  suffices key : ∀ r i (g : mH) (N1 : Nat → Int), i + r = stI (P j) 7 → nfr M g h1 → hN cA M N1 g → (∀ k, k < 1232 → N1 k = N k) → N1 1232 = (evS (P j) x.toInt (2 ^ k : Nat) (stI (P j) 7) i).1 → zM z 0 0 18 [some (.ref m), some (.ref (M 1 j)), some (.long x), none, some (.int (nI k)), some (.int (nI (stI (P j) 7) - nI 1)), some (.int (nI r - nI 1))] [] g from
    zi_sub (by repeat (first | exact trivial | refine And.intro rfl ?_)) (key (stI (P j) 7) 0 _ _ (by omega) (nfr_up (by decide)) (hN_up hN0 (n := 1232) (by decide) 0) (fun k hk => updI_n (by omega)) updI_s)
  intro r
  induction r with
  | zero =>
    intro i g N1 hi hf hN1 e1 et
    have gm := hQ_fr hh hf hm (mO_ne M o)
    have b := hN1.1 1232 (by decide)
    rw [et, show i = stI (P j) 7 by omega] at b
    refine zi_iload X dX7_signAt_18 rfl ?_
    refine zi_if_lt (tgt := 74) X dX7_signAt_20 (by decide) (fun c_20 => ?_) (fun c_20 => (by first | exact absurd (by decide) c_20 | exact absurd c_20 (by decide)))
    refine zi_aload_n X dX7_signAt_74 rfl rfl ?_
    refine zi_getf (C := RX7) (T := TX7) (N := 27) (ci := 11) X (by first | assumption | exact mup_self | (rw [mup_ne (by assumption)]; assumption) | (rw [mup_ne (by assumption)]; exact mup_self) | (rw [mup_ne (by assumption), mup_ne (by assumption)]; assumption)) rfl in_X7 2 (by decide) wf_X7_14 rfl rfl dX7_signAt_75 ?_
    refine zi_callSi X (n_sign l D b (nB_C hv)) kc_X7_sign wm_X7_110 wst_X7_sign ⟨Nat.le_of_ble_eq_true rfl, Nat.le_of_ble_eq_true rfl⟩ rfl rfl (Nat.le_of_ble_eq_true rfl) ⟨Nat.le_of_ble_eq_true rfl, Nat.le_of_ble_eq_true rfl⟩ dX7_signAt_78 (fun r h2 hp => ?_)
    obtain ⟨rfl, rfl⟩ := hp
    refine zi_ireturn X Vz dX7_signAt_81 ?_
    exact ⟨hf, ⟨N1, hN1, fun k hk i hi => by rw [e1 _ (by omega), hP k hk i hi]⟩, sgI_s3 _⟩
  | succ r ih =>
    intro i g N1 hi hf hN1 e1 et
    have gm := hQ_fr hh hf hm (mO_ne M o)
    have r7 : r < 7 := by omega
    have b := hN1.1 1232 (by decide)
    rw [nI_pr]
    refine zi_iload X dX7_signAt_18 rfl ?_
    refine zi_if_lt (tgt := 74) X dX7_signAt_20 (by decide) (fun c_20 => (by first | exact absurd (nI_pos (by omega)) c_20 | exact absurd c_20 (nI_pos (by omega)))) (fun c_20 => ?_)
    refine zi_aload_n X dX7_signAt_23 rfl rfl ?_
    refine zi_getf (C := RX7) (T := TX7) (N := 27) (ci := 11) X (by first | assumption | exact mup_self | (rw [mup_ne (by assumption)]; assumption) | (rw [mup_ne (by assumption)]; exact mup_self) | (rw [mup_ne (by assumption), mup_ne (by assumption)]; assumption)) rfl in_X7 2 (by decide) wf_X7_14 rfl rfl dX7_signAt_24 ?_
    refine zi_lload_n X dX7_signAt_27 rfl rfl ?_
    refine zi_callSv X (n_times l D b hx) kc_X7_times wm_X7_152 wst_X7_times ⟨Nat.le_of_ble_eq_true rfl, Nat.le_of_ble_eq_true rfl⟩ rfl rfl (Nat.le_of_ble_eq_true rfl) ⟨Nat.le_of_ble_eq_true rfl, Nat.le_of_ble_eq_true rfl⟩ dX7_signAt_28 (fun h2 hp => ?_)
    subst hp
    have hN2 := hN_up hN1 (n := 1232) (by decide) (N1 1232 * x.toInt)
    have hf2 := nfr_tr (nfr_up (M := M) (h := g) (n := 1232) (e := nE (cA 0) (N1 1232 * x.toInt)) (by decide)) hf
    have gm2 := hQ_fr hh hf2 hm (mO_ne M o)
    have c1 := hN2.2.1 j hj
    have cp_ := hN2.1 (7 * j + r) (by omega)
    have cu := hN2.1 1233 (by decide)
    rw [updI_n (by omega), e1 (7 * j + r) (by omega), hP j hj r r7] at cp_
    refine zi_aload_n X dX7_signAt_31 rfl rfl ?_
    refine zi_iload X dX7_signAt_32 rfl ?_
    refine zi_aaldA X 4 (by first | assumption | exact mup_self | (rw [mup_ne (by assumption)]; assumption) | (rw [mup_ne (by assumption)]; exact mup_self) | (rw [mup_ne (by assumption), mup_ne (by assumption)]; assumption)) rfl (vin r7 (by decide)) (pa_at (i := r) r7) dX7_signAt_34 ?_
    refine zi_aload_n X dX7_signAt_35 rfl rfl ?_
    refine zi_getf (C := RX7) (T := TX7) (N := 27) (ci := 11) X (by first | assumption | exact mup_self | (rw [mup_ne (by assumption)]; assumption) | (rw [mup_ne (by assumption)]; exact mup_self) | (rw [mup_ne (by assumption), mup_ne (by assumption)]; assumption)) rfl in_X7 3 (by decide) wf_X7_18 rfl rfl dX7_signAt_36 ?_
    refine zi_callSv X (n_copy l D cp_ cu (hN_ne hN2 (by omega) (by decide) (by omega))) kc_X7_copy wm_X7_113 wst_X7_copy ⟨Nat.le_of_ble_eq_true rfl, Nat.le_of_ble_eq_true rfl⟩ rfl rfl (Nat.le_of_ble_eq_true rfl) ⟨Nat.le_of_ble_eq_true rfl, Nat.le_of_ble_eq_true rfl⟩ dX7_signAt_39 (fun h2 hp => ?_)
    subst hp
    have hN3 := hN_up hN2 (n := 1233) (by decide) (P j r)
    have hf3 := nfr_tr (nfr_up (M := M) (h := mup g (M 0 1232) (nE (cA 0) (N1 1232 * x.toInt))) (n := 1233) (e := nE (cA 0) (P j r)) (by decide)) hf2
    have gm3 := hQ_fr hh hf3 hm (mO_ne M o)
    have du := hN3.1 1233 (by decide)
    rw [updI_s] at du
    refine zi_aload_n X dX7_signAt_42 rfl rfl ?_
    refine zi_getf (C := RX7) (T := TX7) (N := 27) (ci := 11) X (by first | assumption | exact mup_self | (rw [mup_ne (by assumption)]; assumption) | (rw [mup_ne (by assumption)]; exact mup_self) | (rw [mup_ne (by assumption), mup_ne (by assumption)]; assumption)) rfl in_X7 3 (by decide) wf_X7_18 rfl rfl dX7_signAt_43 ?_
    refine zi_iload X dX7_signAt_46 rfl ?_
    refine zi_iload X dX7_signAt_48 rfl ?_
    refine zi_iload X dX7_signAt_50 rfl ?_
    refine zi_isub X dX7_signAt_52 ?_
    refine zi_imul X dX7_signAt_53 ?_
    have eB : nI k * (nI (stI (P j) 7) - nI 1 - nI r) = nI (k * i) := by
      rw [pk_sub (by omega), pk_sub (by omega), pk_mul]
      congr 2
      omega
    rw [eB]
    have hki : k * i ≤ 13 * 7 := Nat.mul_le_mul (by omega) (by omega)
    refine zi_callSv X (n_left l D du (B := k * i) (by omega)) kc_X7_left wm_X7_141 wst_X7_left ⟨Nat.le_of_ble_eq_true rfl, Nat.le_of_ble_eq_true rfl⟩ rfl rfl (Nat.le_of_ble_eq_true rfl) ⟨Nat.le_of_ble_eq_true rfl, Nat.le_of_ble_eq_true rfl⟩ dX7_signAt_54 (fun h2 hp => ?_)
    subst hp
    have hN4 := hN_up hN3 (n := 1233) (by decide) (P j r * 2 ^ (k * i))
    have hf4 := nfr_tr (nfr_up (M := M) (h := mup (mup g (M 0 1232) (nE (cA 0) (N1 1232 * x.toInt))) (M 0 1233) (nE (cA 0) (P j r))) (n := 1233) (e := nE (cA 0) (P j r * 2 ^ (k * i))) (by decide)) hf3
    have gm4 := hQ_fr hh hf4 hm (mO_ne M o)
    have et4 := hN4.1 1232 (by decide)
    have eu4 := hN4.1 1233 (by decide)
    rw [updI_s] at eu4
    rw [updI_n (by decide), updI_n (by decide), updI_s] at et4
    refine zi_aload_n X dX7_signAt_57 rfl rfl ?_
    refine zi_getf (C := RX7) (T := TX7) (N := 27) (ci := 11) X (by first | assumption | exact mup_self | (rw [mup_ne (by assumption)]; assumption) | (rw [mup_ne (by assumption)]; exact mup_self) | (rw [mup_ne (by assumption), mup_ne (by assumption)]; assumption)) rfl in_X7 2 (by decide) wf_X7_14 rfl rfl dX7_signAt_58 ?_
    refine zi_aload_n X dX7_signAt_61 rfl rfl ?_
    refine zi_getf (C := RX7) (T := TX7) (N := 27) (ci := 11) X (by first | assumption | exact mup_self | (rw [mup_ne (by assumption)]; assumption) | (rw [mup_ne (by assumption)]; exact mup_self) | (rw [mup_ne (by assumption), mup_ne (by assumption)]; assumption)) rfl in_X7 3 (by decide) wf_X7_18 rfl rfl dX7_signAt_62 ?_
    refine zi_callSv X (n_add l D et4 eu4 (hN_ne hN4 (by decide) (by decide) (by decide))) kc_X7_add wm_X7_194 wst_X7_add ⟨Nat.le_of_ble_eq_true rfl, Nat.le_of_ble_eq_true rfl⟩ rfl rfl (Nat.le_of_ble_eq_true rfl) ⟨Nat.le_of_ble_eq_true rfl, Nat.le_of_ble_eq_true rfl⟩ dX7_signAt_65 (fun h2 hp => ?_)
    subst hp
    refine zi_iinc X dX7_signAt_68 rfl rfl (by decide) ?_
    refine zi_goto (tgt := 18) X dX7_signAt_71 (by decide) ?_
    rw [nI_dm]
    refine zi_sub (by repeat (first | exact trivial | refine And.intro rfl ?_)) (ih (i + 1) _ _ (by omega) (nfr_tr (nfr_up (by decide)) hf4) (hN_up hN4 (n := 1232) (by decide) _) (fun k hk => by rw [updI_n (by omega), updI_n (by omega), updI_n (by omega), updI_n (by omega), e1 k hk]) ?_)
    rw [updI_s, et, evS]
    dsimp only
    rw [evS_2, show stI (P j) 7 - 1 - i = r by omega]
theorem r_changesWithin (l : Launch) (D : va_G) (hm : h m = some (mO M o)) (hh : hQ cA M P h) {j g : Nat} (hj : j < 176) (hj5 : 6 ≤ j) (hg7 : g < 7) (hb : ∀ i, i ≤ g → nC (cwQ (P j) g i)) :
    mCi l yX7_changesWithin cX7_changesWithin 4 .int (rmd 3) D (mT cA) [.ref m, .ref (M 1 j), .int (nI g)] h (fun r h1 => nfr M h1 h ∧ (∃ P', hQ cA M P' h1 ∧ ∀ k, k ≠ 5 → P' k = P k) ∧ r = nI (cwN (P j) g)) := by
  refine mEnter_i (by decide) (Nat.le_of_ble_eq_true rfl) rfl (fun z X Vz => ?_)
  obtain ⟨N, hN0, hP⟩ := id hh
  refine zi_iconst (v := (nI 0)) X dX7_changesWithin_0 (by decide) ?_
  refine zi_istore_n X dX7_changesWithin_1 rfl (by decide) ?_
  suffices key : ∀ n i (g1 : mH) (N1 : Nat → Int), i + n = g + 1 → nfr M g1 h → hN cA M N1 g1 → (∀ k, k < 1232 → N1 k = setP N 5 (fun t => if t < i then P j (g - t) else N (7 * 5 + t)) k) → zM z 0 0 2 [some (.ref m), some (.ref (M 1 j)), some (.int (nI g)), some (.int (nI i))] [] g1 from by
    refine zi_sub (by repeat (first | exact trivial | refine And.intro rfl ?_)) (key (g + 1) 0 h N (by omega) (nfr_rf M h) hN0 (fun k hk => ?_))
    unfold setP
    split
    · next q => dsimp only; rw [if_neg (by omega)]; congr 1; omega
    · rfl
  intro n
  induction n with
  | zero =>
    intro i g1 N1 hi hf hN1 e1
    obtain rfl : i = g + 1 := by omega
    have gm := hQ_fr hh hf hm (mO_ne M o)
    refine zi_iload_n X dX7_changesWithin_2 rfl rfl ?_
    refine zi_iload_n X dX7_changesWithin_3 rfl rfl ?_
    refine zi_icmp_gt (tgt := 27) X dX7_changesWithin_4 (by decide) (fun c_4 => ?_) (fun c_4 => (by first | exact absurd (nI_lt (show g < g + 1 by omega) (by omega)) c_4 | exact absurd c_4 (nI_lt (show g < g + 1 by omega) (by omega))))
    refine zi_aload_n X dX7_changesWithin_27 rfl rfl ?_
    refine zi_getf (C := RX7) (T := TX7) (N := 27) (ci := 11) X (by first | assumption | exact mup_self | (rw [mup_ne (by assumption)]; assumption) | (rw [mup_ne (by assumption)]; exact mup_self) | (rw [mup_ne (by assumption), mup_ne (by assumption)]; assumption)) rfl in_X7 15 (by decide) wf_X7_56 rfl rfl dX7_changesWithin_28 ?_
    refine zi_iload_n X dX7_changesWithin_31 rfl rfl ?_
    refine zi_callSv X (m_moves l D hN1 (j := 5) (g := g) (by decide) hg7) kc_X7_moves wm_X7_197 wst_X7_moves ⟨Nat.le_of_ble_eq_true rfl, Nat.le_of_ble_eq_true rfl⟩ rfl rfl (Nat.le_of_ble_eq_true rfl) ⟨Nat.le_of_ble_eq_true rfl, Nat.le_of_ble_eq_true rfl⟩ dX7_changesWithin_32 (fun h2 hp => ?_)
    obtain ⟨hf2, hN2⟩ := hp
    have gm2 := hQ_fr hh (nfr_tr hf2 hf) hm (mO_ne M o)
    have ev : ∀ t, t ≤ g → mvA g g (cof N1 5) t = cwQ (P j) g t := mvA_cong g (Nat.le_refl g) (fun t ht => by
      unfold cof
      rw [e1 _ (by omega), setP_at (by omega), if_pos (by omega)])
    refine zi_aload_n X dX7_changesWithin_35 rfl rfl ?_
    refine zi_getf (C := RX7) (T := TX7) (N := 27) (ci := 11) X (by first | assumption | exact mup_self | (rw [mup_ne (by assumption)]; assumption) | (rw [mup_ne (by assumption)]; exact mup_self) | (rw [mup_ne (by assumption), mup_ne (by assumption)]; assumption)) rfl in_X7 15 (by decide) wf_X7_56 rfl rfl dX7_changesWithin_36 ?_
    refine zi_iload_n X dX7_changesWithin_39 rfl rfl ?_
    refine zi_callSi X (m_changes l D hN2 (j := 5) (g := g) (by decide) hg7 (fun i hi => by rw [setP_at (by omega), ev i hi]; exact nB_C (hb i hi))) kc_X7_changes wm_X7_201 wst_X7_changes ⟨Nat.le_of_ble_eq_true rfl, Nat.le_of_ble_eq_true rfl⟩ rfl rfl (Nat.le_of_ble_eq_true rfl) ⟨Nat.le_of_ble_eq_true rfl, Nat.le_of_ble_eq_true rfl⟩ dX7_changesWithin_40 (fun r h3 hp => ?_)
    obtain ⟨rfl, rfl⟩ := hp
    refine zi_ireturn X Vz dX7_changesWithin_43 ?_
    refine ⟨nfr_tr hf2 hf, ⟨updP P 5 (mvA g g (cof N1 5)), ⟨_, hN2, fun k hk i hi => ?_⟩, fun k hk => updP_n hk⟩, ?_⟩
    · unfold updP
      by_cases c : k = 5
      · rw [if_pos c, c, setP_at hi]
      · rw [if_neg c, setP_out c hi, e1 _ (by omega), setP_out c hi, hP k hk i hi]
    · unfold cwN
      congr 2
      refine chg_cong (fun i hi => ?_)
      rw [cof_set (by omega), ev i (by omega)]
  | succ n ih =>
    intro i g1 N1 hi hf hN1 e1
    have gm := hQ_fr hh hf hm (mO_ne M o)
    have a1 := hN1.2.1 j hj
    have a5 := hN1.2.1 5 (by decide)
    have b1 := hN1.1 (7 * j + (g - i)) (by omega)
    have b5 := hN1.1 (7 * 5 + i) (by omega)
    rw [e1 _ (by omega), setP_out (by omega) (by omega), hP j hj _ (by omega)] at b1
    have egi : nI g - nI i = nI (g - i) := by rw [pk_sub (by omega)]
    refine zi_iload_n X dX7_changesWithin_2 rfl rfl ?_
    refine zi_iload_n X dX7_changesWithin_3 rfl rfl ?_
    refine zi_icmp_gt (tgt := 27) X dX7_changesWithin_4 (by decide) (fun c_4 => (by first | exact absurd (nI_nlt (show i ≤ g by omega) (by omega)) c_4 | exact absurd c_4 (nI_nlt (show i ≤ g by omega) (by omega)))) (fun c_4 => ?_)
    refine zi_aload_n X dX7_changesWithin_7 rfl rfl ?_
    refine zi_iload_n X dX7_changesWithin_8 rfl rfl ?_
    refine zi_iload_n X dX7_changesWithin_9 rfl rfl ?_
    refine zi_isub X dX7_changesWithin_10 ?_
    refine zi_aaldA X 4 (by first | assumption | exact mup_self | (rw [mup_ne (by assumption)]; assumption) | (rw [mup_ne (by assumption)]; exact mup_self) | (rw [mup_ne (by assumption), mup_ne (by assumption)]; assumption)) rfl (by rw [egi]; exact vin (show g - i < 7 by omega) (by decide)) (pa_at2 egi (by omega)) dX7_changesWithin_11 ?_
    refine zi_aload_n X dX7_changesWithin_12 rfl rfl ?_
    refine zi_getf (C := RX7) (T := TX7) (N := 27) (ci := 11) X (by first | assumption | exact mup_self | (rw [mup_ne (by assumption)]; assumption) | (rw [mup_ne (by assumption)]; exact mup_self) | (rw [mup_ne (by assumption), mup_ne (by assumption)]; assumption)) rfl in_X7 15 (by decide) wf_X7_56 rfl rfl dX7_changesWithin_13 ?_
    refine zi_iload_n X dX7_changesWithin_16 rfl rfl ?_
    refine zi_aaldA X 4 (by first | assumption | exact mup_self | (rw [mup_ne (by assumption)]; assumption) | (rw [mup_ne (by assumption)]; exact mup_self) | (rw [mup_ne (by assumption), mup_ne (by assumption)]; assumption)) rfl (vin (show i < 7 by omega) (by decide)) (pa_at (i := i) (by omega)) dX7_changesWithin_17 ?_
    refine zi_callSv X (n_copy l D b1 b5 (hN_ne hN1 (by omega) (by omega) (by omega))) kc_X7_copy wm_X7_113 wst_X7_copy ⟨Nat.le_of_ble_eq_true rfl, Nat.le_of_ble_eq_true rfl⟩ rfl rfl (Nat.le_of_ble_eq_true rfl) ⟨Nat.le_of_ble_eq_true rfl, Nat.le_of_ble_eq_true rfl⟩ dX7_changesWithin_18 (fun h2 hp => ?_)
    subst hp
    refine zi_iinc (v := nI (i + 1)) X dX7_changesWithin_21 rfl (nI_inc _) (by decide) ?_
    refine zi_goto (tgt := 2) X dX7_changesWithin_24 (by decide) ?_
    refine zi_sub (by repeat (first | exact trivial | refine And.intro rfl ?_)) (ih (i + 1) _ _ (by omega) (nfr_tr (nfr_up (by omega)) hf) (hN_up hN1 (n := 7 * 5 + i) (by omega) _) (fun k hk => ?_))
    by_cases c : k = 7 * 5 + i
    · rw [c, updI_s, setP_at (by omega), if_pos (by omega)]
    · rw [updI_n c, e1 k hk]
      unfold setP
      split
      · next q =>
        dsimp only
        by_cases w : k - 7 * 5 < i
        · rw [if_pos w, if_pos (by omega)]
        · rw [if_neg w, if_neg (by omega)]
      · rfl
end RW7
