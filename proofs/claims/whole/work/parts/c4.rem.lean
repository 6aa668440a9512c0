/-! SturmRootsModel: positive, remainder -/
theorem nI_3 {k g s : Nat} (h : g ≤ k + s) : nI k - nI g + nI s = nI (k + s - g) := by
  rw [Int32.sub_eq_add_neg, Int32.add_assoc, Int32.add_comm (-nI g), ← Int32.add_assoc, ← Int32.sub_eq_add_neg, nI_add, pk_sub h]
/-- one elimination, made primitive; again and again -/
def rmS (f g : Nat → Int) : Nat → Int := redS f g (stI g 7 - 1) (stI f 7 - 1)
def rmF : Nat → (Nat → Int) → (Nat → Int) → Nat → Int
  | 0, f, _ => f
  | n + 1, f, g => if stI f 7 < stI g 7 then f else rmF n (prm (rmS f g)) g
def rmOk : Nat → (Nat → Int) → (Nat → Int) → Prop
  | 0, f, _ => pC f
  | n + 1, f, g => pC f ∧ (¬ stI f 7 < stI g 7 → pC (rmS f g) ∧ rmOk n (prm (rmS f g)) g)
theorem rmS_z {f g : Nat → Int} (hfg : ¬ stI f 7 < stI g 7) (hg : stI g 7 ≠ 0) : ∀ i, stI f 7 - 1 ≤ i → i < 7 → rmS f g i = 0 := fun i h1 h2 => by
  unfold rmS redS
  have ht : f (stI f 7 - 1) ≠ 0 := stI_top (p := f) (n := 7) (by omega)
  rw [if_neg ht]
  by_cases c : i = stI f 7 - 1
  · rw [if_pos c]
  · rw [if_neg c, if_neg (by omega)]
    exact stI_z (p := f) (n := 7) (by omega) h2
theorem rmS_lt {f g : Nat → Int} (hfg : ¬ stI f 7 < stI g 7) (hg : stI g 7 ≠ 0) : stI (prm (rmS f g)) 7 < stI f 7 := by
  have := stI_lt (p := prm (rmS f g)) (s := stI f 7 - 1) (n := 7) (fun i h1 h2 => (prm_z h2).mpr (rmS_z hfg hg i h1 h2))
  omega
section RW4
variable {cA : Nat → ClassId} {M : Nat → Nat → Nat} {P : Nat → Nat → Int} {h : mH} {o : RO} {m : Nat}
theorem mO_ne (M : Nat → Nat → Nat) (o : RO) : ∀ c v, mO M o ≠ nE c v := fun c v q => by unfold mO nE at q; cases q
theorem hQ_fr {h1 : mH} (hh : hQ cA M P h) (hf : nfr M h1 h) {a : Nat} {e : va_E} (ha : h a = some e) (he : ∀ c v, e ≠ nE c v) : h1 a = some e := by
  obtain ⟨N, hn, -⟩ := hh
  exact nfr_at hn hf ha he
theorem r_positive (l : Launch) (D : va_G) (hm : h m = some (mO M o)) (hh : hQ cA M P h) {j : Nat} (hj : j < 176) (hb : pC (P j)) :
    mCv l yX7_positive cX7_positive 3 (rmd 3) D (mT cA) [.ref m, .ref (M 1 j)] h (fun h1 => nfr M h1 h ∧ hQ cA M (updP P j (mkpos (P j))) h1) := by
  refine mEnter_v (by decide) (Nat.le_of_ble_eq_true rfl) rfl (fun z X Vz => ?_)
  refine zi_aload_n X dX7_positive_0 rfl rfl ?_
  refine zi_callSi X (r_degree l D hh hj hb) kc_X7_degree wm_X7_166 wst_X7_degree ⟨Nat.le_of_ble_eq_true rfl, Nat.le_of_ble_eq_true rfl⟩ rfl rfl (Nat.le_of_ble_eq_true rfl) ⟨Nat.le_of_ble_eq_true rfl, Nat.le_of_ble_eq_true rfl⟩ dX7_positive_1 (fun r h1 hp => ?_)
  obtain ⟨rfl, rfl⟩ := hp
  have same : ¬ ldI (P j) < 0 → hQ cA M (updP P j (mkpos (P j))) h1 := fun q => hQ_cong hh (fun k hk i hi => by
    unfold updP
    by_cases e : k = j
    · rw [if_pos e, e]
      unfold mkpos
      rw [if_neg q]
    · rw [if_neg e])
  by_cases c0 : stI (P j) 7 = 0
  · refine zi_istore_n X dX7_positive_4 rfl (by decide) ?_
    refine zi_iload_n X dX7_positive_5 rfl rfl ?_
    refine zi_if_lt (tgt := 22) X dX7_positive_6 (by decide) (fun c_6 => ?_) (fun c_6 => (by first | exact absurd (by rw [c0]; decide) c_6 | exact absurd c_6 (by rw [c0]; decide)))
    refine zi_return X Vz dX7_positive_22 ?_
    refine ⟨nfr_rf _ _, same ?_⟩
    unfold ldI
    rw [c0, stI_z (p := P j) (n := 7) (j := 0 - 1) (by omega) (by decide)]
    decide
  · obtain ⟨s, hs⟩ : ∃ s, stI (P j) 7 = s + 1 := ⟨stI (P j) 7 - 1, by omega⟩
    have s7 : s < 7 := by have := stI_le (P j) 7; omega
    rw [hs, nI_pr]
    obtain ⟨N, hn, hP⟩ := id hh
    have a1 := hn.2.1 j hj
    have a3 := hn.1 (7 * j + s) (by omega)
    rw [hP j hj s s7] at a3
    have hl : ldI (P j) = P j s := by unfold ldI; rw [hs]; rfl
    refine zi_istore_n X dX7_positive_4 rfl (by decide) ?_
    refine zi_iload_n X dX7_positive_5 rfl rfl ?_
    refine zi_if_lt (tgt := 22) X dX7_positive_6 (by decide) (fun c_6 => (by first | exact absurd (nI_pos (by omega)) c_6 | exact absurd c_6 (nI_pos (by omega)))) (fun c_6 => ?_)
    refine zi_aload_n X dX7_positive_9 rfl rfl ?_
    refine zi_iload_n X dX7_positive_10 rfl rfl ?_
    refine zi_aaldA X 4 (by first | assumption | exact mup_self | (rw [mup_ne (by assumption)]; assumption) | (rw [mup_ne (by assumption)]; exact mup_self) | (rw [mup_ne (by assumption), mup_ne (by assumption)]; assumption)) rfl (vin s7 (by decide)) (pa_at (i := s) s7) dX7_positive_11 ?_
    refine zi_callSi X (n_sign l D a3 (nB_C (hb s s7))) kc_X7_sign wm_X7_110 wst_X7_sign ⟨Nat.le_of_ble_eq_true rfl, Nat.le_of_ble_eq_true rfl⟩ rfl rfl (Nat.le_of_ble_eq_true rfl) ⟨Nat.le_of_ble_eq_true rfl, Nat.le_of_ble_eq_true rfl⟩ dX7_positive_12 (fun r h1 hp => ?_)
    obtain ⟨rfl, rfl⟩ := hp
    have sg : sgI (P j s) < 0 ↔ P j s < 0 := by
      unfold sgI
      by_cases c : P j s < 0
      · rw [if_pos c]; exact ⟨fun _ => c, fun _ => by decide⟩
      · rw [if_neg c]
        by_cases e : P j s = 0
        · rw [if_pos e]; exact ⟨fun q => absurd q (by decide), fun q => absurd q c⟩
        · rw [if_neg e]; exact ⟨fun q => absurd q (by decide), fun q => absurd q c⟩
    by_cases c : P j s < 0
    · refine zi_if_ge (tgt := 22) X dX7_positive_15 (by decide) (fun c_15 => (by first | exact absurd (Int32.not_le.mpr (sg.mpr c)) c_15 | exact absurd c_15 (Int32.not_le.mpr (sg.mpr c)))) (fun c_15 => ?_)
      refine zi_aload_n X dX7_positive_18 rfl rfl ?_
      refine zi_callSv X (r_negate l D hh hj) kc_X7_negate_ wm_X7_170 wst_X7_negate_ ⟨Nat.le_of_ble_eq_true rfl, Nat.le_of_ble_eq_true rfl⟩ rfl rfl (Nat.le_of_ble_eq_true rfl) ⟨Nat.le_of_ble_eq_true rfl, Nat.le_of_ble_eq_true rfl⟩ dX7_positive_19 (fun h1 hp => ?_)
      refine zi_return X Vz dX7_positive_22 ?_
      refine ⟨hp.1, hQ_cong hp.2 (fun k hk i hi => ?_)⟩
      unfold updP
      by_cases e : k = j
      · rw [if_pos e, if_pos e]
        unfold mkpos
        rw [if_pos (by rw [hl]; exact c)]
      · rw [if_neg e, if_neg e]
    · refine zi_if_ge (tgt := 22) X dX7_positive_15 (by decide) (fun c_15 => ?_) (fun c_15 => (by first | exact absurd (Int32.not_lt.mp (fun q => c (sg.mp q))) c_15 | exact absurd c_15 (Int32.not_lt.mp (fun q => c (sg.mp q)))))
      refine zi_return X Vz dX7_positive_22 ?_
      exact ⟨nfr_rf _ _, same (by rw [hl]; exact c)⟩
theorem r_remainder (l : Launch) (D : va_G) (hm : h m = some (mO M o)) (hh : hQ cA M P h) {j j2 : Nat} (hj : j < 176) (hj2 : j2 < 176) (hne : j2 ≠ j) (hb : pC (P j2)) (h0 : stI (P j2) 7 ≠ 0) {n : Nat} (hn8 : stI (P j) 7 < n) (hok : rmOk n (P j) (P j2)) :
    mCv l yX7_remainder cX7_remainder 6 (rmd 6) D (mT cA) [.ref m, .ref (M 1 j), .ref (M 1 j2)] h (fun h1 => nfr M h1 h ∧ hQ cA M (updP P j (rmF n (P j) (P j2))) h1) := by
  refine mEnter_v (by decide) (Nat.le_of_ble_eq_true rfl) rfl (fun z X Vz => ?_)
  refine zi_aload_n X dX7_remainder_0 rfl rfl ?_
  refine zi_callSi X (r_degree l D hh hj2 hb) kc_X7_degree wm_X7_166 wst_X7_degree ⟨Nat.le_of_ble_eq_true rfl, Nat.le_of_ble_eq_true rfl⟩ rfl rfl (Nat.le_of_ble_eq_true rfl) ⟨Nat.le_of_ble_eq_true rfl, Nat.le_of_ble_eq_true rfl⟩ dX7_remainder_1 (fun r h1 hp => ?_)
  obtain ⟨rfl, rfl⟩ := hp
  obtain ⟨s, hs⟩ : ∃ s, stI (P j2) 7 = s + 1 := ⟨stI (P j2) 7 - 1, by omega⟩
  have s7 : s < 7 := by have := stI_le (P j2) 7; omega
  rw [hs, nI_pr]
  refine zi_istore_n X dX7_remainder_4 rfl (by decide) ?_
  refine zi_aload_n X dX7_remainder_5 rfl rfl ?_
  have pc0 : pC (P j) := by
    cases n with
    | zero => exact hok
    | succ n => exact hok.1
  refine zi_callSi X (r_degree l D hh hj pc0) kc_X7_degree wm_X7_166 wst_X7_degree ⟨Nat.le_of_ble_eq_true rfl, Nat.le_of_ble_eq_true rfl⟩ rfl rfl (Nat.le_of_ble_eq_true rfl) ⟨Nat.le_of_ble_eq_true rfl, Nat.le_of_ble_eq_true rfl⟩ dX7_remainder_6 (fun r h1 hp => ?_)
  obtain ⟨rfl, rfl⟩ := hp
  refine zi_istore X dX7_remainder_9 (by decide) ?_
  have hs0 : P j2 s ≠ 0 := by
    have := stI_top (p := P j2) (n := 7) (by omega)
    rw [hs] at this
    exact this
  suffices key : ∀ k (f : Nat → Int) (g : mH), stI f 7 < k → rmOk k f (P j2) → rmF k f (P j2) = rmF n (P j) (P j2) → nfr M g h1 → hQ cA M (updP P j f) g → zM z 0 0 11 [some (.ref m), some (.ref (M 1 j)), some (.ref (M 1 j2)), some (.int (nI s)), some (.int (nI (stI f 7) - nI 1)), none] [] g from
    zi_sub (by repeat (first | exact trivial | refine And.intro rfl ?_)) (key n (P j) h1 hn8 hok rfl (nfr_rf M h1) (by rw [updP_same]; exact hh))
  intro k
  induction k with
  | zero => intro f g hk; omega
  | succ k ih =>
    intro f g hk hok hrm hf hg
    by_cases c : stI f 7 < stI (P j2) 7
    · have lt : nI (stI f 7) - nI 1 < nI s := (dI_lt (by have := stI_le f 7; omega) (by omega)).mpr (by omega)
      refine zi_iload X dX7_remainder_11 rfl ?_
      refine zi_iload_n X dX7_remainder_13 rfl rfl ?_
      refine zi_icmp_lt (tgt := 156) X dX7_remainder_14 (by decide) (fun c_14 => ?_) (fun c_14 => (by first | exact absurd lt c_14 | exact absurd c_14 lt))
      refine zi_return X Vz dX7_remainder_156 ?_
      rw [← hrm, rmF, if_pos c]
      exact ⟨hf, hg⟩
    obtain ⟨t, ht⟩ : ∃ t, stI f 7 = t + 1 := ⟨stI f 7 - 1, by omega⟩
    have t7 : t < 7 := by have := stI_le f 7; omega
    have st : s ≤ t := by omega
    have ok2 := hok.2 c
    have gm := hQ_fr hh hf hm (mO_ne M o)
    obtain ⟨N, hNN, hP⟩ := id hg
    have pf : ∀ i, i < 7 → N (7 * j + i) = f i := fun i hi => by rw [hP j hj i hi, updP_s]
    have pg : ∀ i, i < 7 → N (7 * j2 + i) = P j2 i := fun i hi => by rw [hP j2 hj2 i hi, updP_n hne]
    have a1 := hNN.2.1 j hj
    have a2 := hNN.2.1 j2 hj2
    have av := hNN.1 1234 (by decide)
    have aw := hNN.1 1235 (by decide)
    have b2 := hNN.1 (7 * j2 + s) (by omega)
    have b1 := hNN.1 (7 * j + t) (by omega)
    rw [pg s s7] at b2
    rw [pf t t7] at b1
    rw [ht, nI_pr]
    refine zi_iload X dX7_remainder_11 rfl ?_
    refine zi_iload_n X dX7_remainder_13 rfl rfl ?_
    refine zi_icmp_lt (tgt := 156) X dX7_remainder_14 (by decide) (fun c_14 => (by first | exact absurd (nI_nlt st (by omega)) c_14 | exact absurd c_14 (nI_nlt st (by omega)))) (fun c_14 => ?_)
    refine zi_aload_n X dX7_remainder_17 rfl rfl ?_
    refine zi_iload_n X dX7_remainder_18 rfl rfl ?_
    refine zi_aaldA X 4 (by first | assumption | exact mup_self | (rw [mup_ne (by assumption)]; assumption) | (rw [mup_ne (by assumption)]; exact mup_self) | (rw [mup_ne (by assumption), mup_ne (by assumption)]; assumption)) rfl (vin s7 (by decide)) (pa_at (i := s) s7) dX7_remainder_19 ?_
    refine zi_aload_n X dX7_remainder_20 rfl rfl ?_
    refine zi_getf (C := RX7) (T := TX7) (N := 27) (ci := 11) X (by first | assumption | exact mup_self | (rw [mup_ne (by assumption)]; assumption) | (rw [mup_ne (by assumption)]; exact mup_self) | (rw [mup_ne (by assumption), mup_ne (by assumption)]; assumption)) rfl in_X7 4 (by decide) wf_X7_21 rfl rfl dX7_remainder_21 ?_
    refine zi_callSv X (n_copy l D b2 av (hN_ne hNN (by omega) (by decide) (by omega))) kc_X7_copy wm_X7_113 wst_X7_copy ⟨Nat.le_of_ble_eq_true rfl, Nat.le_of_ble_eq_true rfl⟩ rfl rfl (Nat.le_of_ble_eq_true rfl) ⟨Nat.le_of_ble_eq_true rfl, Nat.le_of_ble_eq_true rfl⟩ dX7_remainder_24 (fun h2 hp => ?_)
    subst hp
    have hN1 := hN_up hNN (n := 1234) (by decide) (P j2 s)
    have hf1 : nfr M (mup g (M 0 1234) (nE (cA 0) (P j2 s))) h1 := nfr_tr (nfr_up (by decide)) hf
    have gm1 := hQ_fr hh hf1 hm (mO_ne M o)
    have c1 := hN1.2.1 j hj
    have cw := hN1.1 1235 (by decide)
    have cb := hN1.1 (7 * j + t) (by omega)
    rw [updI_n (by omega), pf t t7] at cb
    refine zi_aload_n X dX7_remainder_27 rfl rfl ?_
    refine zi_iload X dX7_remainder_28 rfl ?_
    refine zi_aaldA X 4 (by first | assumption | exact mup_self | (rw [mup_ne (by assumption)]; assumption) | (rw [mup_ne (by assumption)]; exact mup_self) | (rw [mup_ne (by assumption), mup_ne (by assumption)]; assumption)) rfl (vin t7 (by decide)) (pa_at (i := t) t7) dX7_remainder_30 ?_
    refine zi_aload_n X dX7_remainder_31 rfl rfl ?_
    refine zi_getf (C := RX7) (T := TX7) (N := 27) (ci := 11) X (by first | assumption | exact mup_self | (rw [mup_ne (by assumption)]; assumption) | (rw [mup_ne (by assumption)]; exact mup_self) | (rw [mup_ne (by assumption), mup_ne (by assumption)]; assumption)) rfl in_X7 5 (by decide) wf_X7_24 rfl rfl dX7_remainder_32 ?_
    refine zi_callSv X (n_copy l D cb cw (hN_ne hN1 (by omega) (by decide) (by omega))) kc_X7_copy wm_X7_113 wst_X7_copy ⟨Nat.le_of_ble_eq_true rfl, Nat.le_of_ble_eq_true rfl⟩ rfl rfl (Nat.le_of_ble_eq_true rfl) ⟨Nat.le_of_ble_eq_true rfl, Nat.le_of_ble_eq_true rfl⟩ dX7_remainder_35 (fun h2 hp => ?_)
    subst hp
    have hN2 := hN_up hN1 (n := 1235) (by decide) (f t)
    have hf2 := nfr_tr (nfr_up (M := M) (h := mup g (M 0 1234) (nE (cA 0) (P j2 s))) (n := 1235) (e := nE (cA 0) (f t)) (by decide)) hf1
    have gm2 := hQ_fr hh hf2 hm (mO_ne M o)
    have dv := hN2.1 1234 (by decide)
    rw [updI_n (by decide), updI_s] at dv
    refine zi_aload_n X dX7_remainder_38 rfl rfl ?_
    refine zi_getf (C := RX7) (T := TX7) (N := 27) (ci := 11) X (by first | assumption | exact mup_self | (rw [mup_ne (by assumption)]; assumption) | (rw [mup_ne (by assumption)]; exact mup_self) | (rw [mup_ne (by assumption), mup_ne (by assumption)]; assumption)) rfl in_X7 4 (by decide) wf_X7_21 rfl rfl dX7_remainder_39 ?_
    refine zi_callSi X (n_bare l D dv (nB_C (hb s s7))) kc_X7_bare wm_X7_155 wst_X7_bare ⟨Nat.le_of_ble_eq_true rfl, Nat.le_of_ble_eq_true rfl⟩ rfl rfl (Nat.le_of_ble_eq_true rfl) ⟨Nat.le_of_ble_eq_true rfl, Nat.le_of_ble_eq_true rfl⟩ dX7_remainder_42 (fun r h2 hp => ?_)
    obtain ⟨rfl, rfl⟩ := hp
    -- v and w stand
    have s55 : ∀ (g3 : mH) (N3 : Nat → Int), nfr M g3 h1 → hN cA M N3 g3 → (∀ i, i < 1232 → N3 i = N i) → N3 1234 = ((P j2 s).natAbs : Int) → N3 1235 = (if P j2 s < 0 then -f t else f t) → zM z 0 0 55 [some (.ref m), some (.ref (M 1 j)), some (.ref (M 1 j2)), some (.int (nI s)), some (.int (nI t)), none] [] g3 := fun g3 N3 hf3 hN3 e3 ev ew => by
      refine zi_iconst (v := (nI 0)) X dX7_remainder_55 (by decide) ?_
      refine zi_istore X dX7_remainder_56 (by decide) ?_
      have mt : stI f 7 - 1 = t := by omega
      have ms : stI (P j2) 7 - 1 = s := by omega
      have ft0 : f t ≠ 0 := by
        have := stI_top (p := f) (n := 7) (by omega)
        rw [mt] at this
        exact this
      have val : ∀ i, i < t + 1 → rmS f (P j2) i = f i * ((P j2 s).natAbs : Int) - (if i < t - s then 0 else P j2 (i - (t - s)) * (if P j2 s < 0 then -f t else f t)) := fun i hi => by
        unfold rmS redS
        rw [mt, ms, if_neg ft0]
        by_cases e : i = t
        · rw [if_pos e, if_neg (by omega), e, show t - (t - s) = s by omega]
          by_cases q : P j2 s < 0
          · rw [if_pos q, show ((P j2 s).natAbs : Int) = -P j2 s by omega]
            grind
          · rw [if_neg q, show ((P j2 s).natAbs : Int) = P j2 s by omega]
            grind
        · rw [if_neg e, if_pos (by omega)]
          by_cases w : i < t - s
          · rw [if_pos w, if_pos w]
            omega
          · rw [if_neg w, if_neg w]
            by_cases q : P j2 s < 0
            · rw [if_pos q, if_pos q]
              grind
            · rw [if_neg q, if_neg q]
              grind
      suffices inner : ∀ n i (g4 : mH) (N4 : Nat → Int), i + n = t + 1 → nfr M g4 h1 → hN cA M N4 g4 → (∀ k, k < 1232 → N4 k = setP N j (fun u => if u < i then rmS f (P j2) u else f u) k) → N4 1234 = ((P j2 s).natAbs : Int) → N4 1235 = (if P j2 s < 0 then -f t else f t) → zM z 0 0 58 [some (.ref m), some (.ref (M 1 j)), some (.ref (M 1 j2)), some (.int (nI s)), some (.int (nI t)), some (.int (nI i))] [] g4 from by
        refine zi_sub (by repeat (first | exact trivial | refine And.intro rfl ?_)) (inner (t + 1) 0 g3 N3 (by omega) hf3 hN3 (fun k hk => ?_) ev ew)
        rw [e3 k hk]
        unfold setP
        split
        · next q => dsimp only; rw [if_neg (by omega), ← pf _ (by omega)]; congr 1; omega
        · rfl
      intro n
      induction n with
      | zero =>
        intro i g4 N4 hi hf4 hN4 e4 ev4 ew4
        obtain rfl : i = t + 1 := by omega
        have gm4 := hQ_fr hh hf4 hm (mO_ne M o)
        have hq4 : hQ cA M (updP (updP P j f) j (rmS f (P j2))) g4 := ⟨N4, hN4, fun k hk i hi => by
          rw [e4 _ (by omega), updP_updP]
          unfold updP
          by_cases e : k = j
          · rw [if_pos e, e, setP_at hi]
            by_cases w : i < t + 1
            · rw [if_pos w]
            · rw [if_neg w]
              rw [stI_z (p := f) (n := 7) (by omega) hi, rmS_z c h0 i (by omega) hi]
          · rw [if_neg e, setP_out e hi, hP k hk i hi, updP_n e]⟩
        refine zi_iload X dX7_remainder_58 rfl ?_
        refine zi_iload X dX7_remainder_60 rfl ?_
        refine zi_icmp_gt (tgt := 142) X dX7_remainder_62 (by decide) (fun c_62 => ?_) (fun c_62 => (by first | exact absurd (nI_lt (show t < t + 1 by omega) (by omega)) c_62 | exact absurd c_62 (nI_lt (show t < t + 1 by omega) (by omega))))
        refine zi_aload_n X dX7_remainder_142 rfl rfl ?_
        refine zi_aload_n X dX7_remainder_143 rfl rfl ?_
        refine zi_callVv X (r_primitive l D gm4 hq4 hj (by rw [updP_s]; exact ok2.1)) kc_X7_primitive wm_X7_176 (by first | assumption | exact mup_self | (rw [mup_ne (by assumption)]; assumption) | (rw [mup_ne (by assumption)]; exact mup_self) | (rw [mup_ne (by assumption), mup_ne (by assumption)]; assumption)) rfl wim_X7_primitive wse_X7_primitive ⟨Nat.le_of_ble_eq_true rfl, Nat.le_of_ble_eq_true rfl⟩ rfl rfl (Nat.le_of_ble_eq_true rfl) ⟨Nat.le_of_ble_eq_true rfl, Nat.le_of_ble_eq_true rfl⟩ dX7_remainder_144 (fun h2 hp => ?_)
        obtain ⟨hp1, hp2⟩ := hp
        rw [updP_s, updP_updP, updP_updP] at hp2
        refine zi_aload_n X dX7_remainder_147 rfl rfl ?_
        have pcn : pC (prm (rmS f (P j2))) := by
          have := ok2.2
          cases k with
          | zero => exact this
          | succ k => exact this.1
        refine zi_callSi X (r_degree l D hp2 hj (by rw [updP_s]; exact pcn)) kc_X7_degree wm_X7_166 wst_X7_degree ⟨Nat.le_of_ble_eq_true rfl, Nat.le_of_ble_eq_true rfl⟩ rfl rfl (Nat.le_of_ble_eq_true rfl) ⟨Nat.le_of_ble_eq_true rfl, Nat.le_of_ble_eq_true rfl⟩ dX7_remainder_148 (fun r h3 hp => ?_)
        obtain ⟨rfl, rfl⟩ := hp
        rw [updP_s]
        refine zi_istore X dX7_remainder_151 (by decide) ?_
        refine zi_goto (tgt := 11) X dX7_remainder_153 (by decide) ?_
        refine zi_sub (by repeat (first | exact trivial | refine And.intro rfl ?_)) (ih (prm (rmS f (P j2))) _ ?_ ok2.2 ?_ (nfr_tr hp1 hf4) hp2)
        · have := rmS_lt c h0
          omega
        · rw [← hrm]
          conv => rhs; rw [rmF, if_neg c]
      | succ n ihn =>
        intro i g4 N4 hi hf4 hN4 e4 ev4 ew4
        have i7 : i < 7 := by omega
        have gm4 := hQ_fr hh hf4 hm (mO_ne M o)
        have f1 := hN4.2.1 j hj
        have f2 := hN4.2.1 j2 hj2
        have fi := hN4.1 (7 * j + i) (by omega)
        have fv := hN4.1 1234 (by decide)
        have fx := hN4.1 1236 (by decide)
        have ei : N4 (7 * j + i) = f i := by rw [e4 _ (by omega), setP_at i7, if_neg (by omega)]
        rw [ei] at fi
        rw [ev4] at fv
        -- behind the step
        have s136 : ∀ (g5 : mH) (N5 : Nat → Int), nfr M g5 h1 → hN cA M N5 g5 → (∀ k, k < 1232 → k ≠ 7 * j + i → N5 k = N4 k) → N5 (7 * j + i) = rmS f (P j2) i → N5 1234 = N4 1234 → N5 1235 = N4 1235 → zM z 0 0 136 [some (.ref m), some (.ref (M 1 j)), some (.ref (M 1 j2)), some (.int (nI s)), some (.int (nI t)), some (.int (nI i))] [] g5 := fun g5 N5 hf5 hN5 e5 ei5 ev5 ew5 => by
          refine zi_iinc (v := nI (i + 1)) X dX7_remainder_136 rfl (nI_inc _) (by decide) ?_
          refine zi_goto (tgt := 58) X dX7_remainder_139 (by decide) ?_
          refine zi_sub (by repeat (first | exact trivial | refine And.intro rfl ?_)) (ihn (i + 1) g5 N5 (by omega) hf5 hN5 (fun k hk => ?_) (ev5.trans ev4) (ew5.trans ew4))
          by_cases q : k = 7 * j + i
          · rw [q, ei5, setP_at i7, if_pos (by omega)]
          · rw [e5 k hk q, e4 k hk]
            unfold setP
            split
            · next w =>
              dsimp only
              by_cases w2 : k - 7 * j < i
              · rw [if_pos w2, if_pos (by omega)]
              · rw [if_neg w2, if_neg (by omega)]
            · rfl
        refine zi_iload X dX7_remainder_58 rfl ?_
        refine zi_iload X dX7_remainder_60 rfl ?_
        refine zi_icmp_gt (tgt := 142) X dX7_remainder_62 (by decide) (fun c_62 => (by first | exact absurd (nI_nlt (show i ≤ t by omega) (by omega)) c_62 | exact absurd c_62 (nI_nlt (show i ≤ t by omega) (by omega)))) (fun c_62 => ?_)
        refine zi_aload_n X dX7_remainder_65 rfl rfl ?_
        refine zi_iload X dX7_remainder_66 rfl ?_
        refine zi_aaldA X 4 (by first | assumption | exact mup_self | (rw [mup_ne (by assumption)]; assumption) | (rw [mup_ne (by assumption)]; exact mup_self) | (rw [mup_ne (by assumption), mup_ne (by assumption)]; assumption)) rfl (vin i7 (by decide)) (pa_at (i := i) i7) dX7_remainder_68 ?_
        refine zi_aload_n X dX7_remainder_69 rfl rfl ?_
        refine zi_getf (C := RX7) (T := TX7) (N := 27) (ci := 11) X (by first | assumption | exact mup_self | (rw [mup_ne (by assumption)]; assumption) | (rw [mup_ne (by assumption)]; exact mup_self) | (rw [mup_ne (by assumption), mup_ne (by assumption)]; assumption)) rfl in_X7 4 (by decide) wf_X7_21 rfl rfl dX7_remainder_70 ?_
        refine zi_aload_n X dX7_remainder_73 rfl rfl ?_
        refine zi_getf (C := RX7) (T := TX7) (N := 27) (ci := 11) X (by first | assumption | exact mup_self | (rw [mup_ne (by assumption)]; assumption) | (rw [mup_ne (by assumption)]; exact mup_self) | (rw [mup_ne (by assumption), mup_ne (by assumption)]; assumption)) rfl in_X7 6 (by decide) wf_X7_27 rfl rfl dX7_remainder_74 ?_
        refine zi_callSv X (n_multiply l D fi fv fx (hN_ne hN4 (by omega) (by decide) (by omega)) (hN_ne hN4 (by decide) (by decide) (by decide))) kc_X7_multiply wm_X7_173 wst_X7_multiply ⟨Nat.le_of_ble_eq_true rfl, Nat.le_of_ble_eq_true rfl⟩ rfl rfl (Nat.le_of_ble_eq_true rfl) ⟨Nat.le_of_ble_eq_true rfl, Nat.le_of_ble_eq_true rfl⟩ dX7_remainder_77 (fun h2 hp => ?_)
        subst hp
        have hN5 := hN_up hN4 (n := 1236) (by decide) (f i * ((P j2 s).natAbs : Int))
        have hf5 := nfr_tr (nfr_up (M := M) (h := g4) (n := 1236) (e := nE (cA 0) (f i * ((P j2 s).natAbs : Int))) (by decide)) hf4
        have gm5 := hQ_fr hh hf5 hm (mO_ne M o)
        have k1 := hN5.2.1 j hj
        have ki := hN5.1 (7 * j + i) (by omega)
        have kx := hN5.1 1236 (by decide)
        rw [updI_s] at kx
        refine zi_aload_n X dX7_remainder_80 rfl rfl ?_
        refine zi_getf (C := RX7) (T := TX7) (N := 27) (ci := 11) X (by first | assumption | exact mup_self | (rw [mup_ne (by assumption)]; assumption) | (rw [mup_ne (by assumption)]; exact mup_self) | (rw [mup_ne (by assumption), mup_ne (by assumption)]; assumption)) rfl in_X7 6 (by decide) wf_X7_27 rfl rfl dX7_remainder_81 ?_
        refine zi_aload_n X dX7_remainder_84 rfl rfl ?_
        refine zi_iload X dX7_remainder_85 rfl ?_
        refine zi_aaldA X 4 (by first | assumption | exact mup_self | (rw [mup_ne (by assumption)]; assumption) | (rw [mup_ne (by assumption)]; exact mup_self) | (rw [mup_ne (by assumption), mup_ne (by assumption)]; assumption)) rfl (vin i7 (by decide)) (pa_at (i := i) i7) dX7_remainder_87 ?_
        refine zi_callSv X (n_copy l D kx ki (hN_ne hN5 (by decide) (by omega) (by omega))) kc_X7_copy wm_X7_113 wst_X7_copy ⟨Nat.le_of_ble_eq_true rfl, Nat.le_of_ble_eq_true rfl⟩ rfl rfl (Nat.le_of_ble_eq_true rfl) ⟨Nat.le_of_ble_eq_true rfl, Nat.le_of_ble_eq_true rfl⟩ dX7_remainder_88 (fun h2 hp => ?_)
        subst hp
        have hN6 := hN_up hN5 (n := 7 * j + i) (by omega) (f i * ((P j2 s).natAbs : Int))
        have hf6 := nfr_tr (nfr_up (M := M) (h := mup g4 (M 0 1236) (nE (cA 0) (f i * ((P j2 s).natAbs : Int)))) (n := 7 * j + i) (e := nE (cA 0) (f i * ((P j2 s).natAbs : Int))) (by omega)) hf5
        have egs : nI t - nI s = nI (t - s) := by rw [pk_sub st]
        by_cases w : i < t - s
        · refine zi_iload X dX7_remainder_91 rfl ?_
          refine zi_iload X dX7_remainder_93 rfl ?_
          refine zi_iload_n X dX7_remainder_95 rfl rfl ?_
          refine zi_isub X dX7_remainder_96 ?_
          refine zi_icmp_ge (tgt := 103) X dX7_remainder_97 (by decide) (fun c_97 => (by first | exact absurd (by rw [egs]; exact nI_ge w (by omega)) c_97 | exact absurd c_97 (by rw [egs]; exact nI_ge w (by omega)))) (fun c_97 => ?_)
          refine zi_goto (tgt := 136) X dX7_remainder_100 (by decide) ?_
          refine zi_sub (by repeat (first | exact trivial | refine And.intro rfl ?_)) (s136 _ _ hf6 hN6 (fun k hk q => by rw [updI_n q, updI_n (by omega)]) ?_ (by rw [updI_n (by omega), updI_n (by decide)]) (by rw [updI_n (by omega), updI_n (by decide)]))
          rw [updI_s, val i (by omega), if_pos w]
          omega
        · have gm6 := hQ_fr hh hf6 hm (mO_ne M o)
          have l1 := hN6.2.1 j hj
          have l2 := hN6.2.1 j2 hj2
          have lw := hN6.1 1235 (by decide)
          have lx := hN6.1 1236 (by decide)
          have lb := hN6.1 (7 * j2 + (i + s - t)) (by omega)
          rw [updI_n (by omega), updI_n (by decide), ew4] at lw
          rw [updI_n (by omega), updI_n (by omega), e4 _ (by omega), setP_out hne (by omega), pg _ (by omega)] at lb
          refine zi_iload X dX7_remainder_91 rfl ?_
          refine zi_iload X dX7_remainder_93 rfl ?_
          refine zi_iload_n X dX7_remainder_95 rfl rfl ?_
          refine zi_isub X dX7_remainder_96 ?_
          refine zi_icmp_ge (tgt := 103) X dX7_remainder_97 (by decide) (fun c_97 => ?_) (fun c_97 => (by first | exact absurd (by rw [egs]; exact nI_le (by omega) (by omega)) c_97 | exact absurd c_97 (by rw [egs]; exact nI_le (by omega) (by omega))))
          refine zi_aload_n X dX7_remainder_103 rfl rfl ?_
          refine zi_iload X dX7_remainder_104 rfl ?_
          refine zi_iload X dX7_remainder_106 rfl ?_
          refine zi_isub X dX7_remainder_108 ?_
          refine zi_iload_n X dX7_remainder_109 rfl rfl ?_
          refine zi_iadd X dX7_remainder_110 ?_
          refine zi_aaldA X 4 (by first | assumption | exact mup_self | (rw [mup_ne (by assumption)]; assumption) | (rw [mup_ne (by assumption)]; exact mup_self) | (rw [mup_ne (by assumption), mup_ne (by assumption)]; assumption)) rfl (by rw [nI_3 (by omega)]; exact vin (show i + s - t < 7 by omega) (by decide)) (pa_at2 (i := i + s - t) (nI_3 (by omega)) (by omega)) dX7_remainder_111 ?_
          refine zi_aload_n X dX7_remainder_112 rfl rfl ?_
          refine zi_getf (C := RX7) (T := TX7) (N := 27) (ci := 11) X (by first | assumption | exact mup_self | (rw [mup_ne (by assumption)]; assumption) | (rw [mup_ne (by assumption)]; exact mup_self) | (rw [mup_ne (by assumption), mup_ne (by assumption)]; assumption)) rfl in_X7 5 (by decide) wf_X7_24 rfl rfl dX7_remainder_113 ?_
          refine zi_aload_n X dX7_remainder_116 rfl rfl ?_
          refine zi_getf (C := RX7) (T := TX7) (N := 27) (ci := 11) X (by first | assumption | exact mup_self | (rw [mup_ne (by assumption)]; assumption) | (rw [mup_ne (by assumption)]; exact mup_self) | (rw [mup_ne (by assumption), mup_ne (by assumption)]; assumption)) rfl in_X7 6 (by decide) wf_X7_27 rfl rfl dX7_remainder_117 ?_
          refine zi_callSv X (n_multiply l D lb lw lx (hN_ne hN6 (by omega) (by decide) (by omega)) (hN_ne hN6 (by decide) (by decide) (by decide))) kc_X7_multiply wm_X7_173 wst_X7_multiply ⟨Nat.le_of_ble_eq_true rfl, Nat.le_of_ble_eq_true rfl⟩ rfl rfl (Nat.le_of_ble_eq_true rfl) ⟨Nat.le_of_ble_eq_true rfl, Nat.le_of_ble_eq_true rfl⟩ dX7_remainder_120 (fun h2 hp => ?_)
          subst hp
          have hN7 := hN_up hN6 (n := 1236) (by decide) (P j2 (i + s - t) * (if P j2 s < 0 then -f t else f t))
          have hf7 := nfr_tr (nfr_up (M := M) (h := mup (mup g4 (M 0 1236) (nE (cA 0) (f i * ((P j2 s).natAbs : Int)))) (M 0 (7 * j + i)) (nE (cA 0) (f i * ((P j2 s).natAbs : Int)))) (n := 1236) (e := nE (cA 0) (P j2 (i + s - t) * (if P j2 s < 0 then -f t else f t))) (by decide)) hf6
          have gm7 := hQ_fr hh hf7 hm (mO_ne M o)
          have m1 := hN7.2.1 j hj
          have mi := hN7.1 (7 * j + i) (by omega)
          have mx := hN7.1 1236 (by decide)
          rw [updI_s] at mx
          rw [updI_n (by omega), updI_s] at mi
          refine zi_aload_n X dX7_remainder_123 rfl rfl ?_
          refine zi_iload X dX7_remainder_124 rfl ?_
          refine zi_aaldA X 4 (by first | assumption | exact mup_self | (rw [mup_ne (by assumption)]; assumption) | (rw [mup_ne (by assumption)]; exact mup_self) | (rw [mup_ne (by assumption), mup_ne (by assumption)]; assumption)) rfl (vin i7 (by decide)) (pa_at (i := i) i7) dX7_remainder_126 ?_
          refine zi_aload_n X dX7_remainder_127 rfl rfl ?_
          refine zi_getf (C := RX7) (T := TX7) (N := 27) (ci := 11) X (by first | assumption | exact mup_self | (rw [mup_ne (by assumption)]; assumption) | (rw [mup_ne (by assumption)]; exact mup_self) | (rw [mup_ne (by assumption), mup_ne (by assumption)]; assumption)) rfl in_X7 6 (by decide) wf_X7_27 rfl rfl dX7_remainder_128 ?_
          refine zi_bipush (v := (nI 48)) X dX7_remainder_131 (by decide) ?_
          refine zi_callSv X (n_less l D mi mx (hN_ne hN7 (by decide) (by omega) (by omega)) (n := 48) (by decide) (Or.inl rfl)) kc_X7_less wm_X7_134 wst_X7_less ⟨Nat.le_of_ble_eq_true rfl, Nat.le_of_ble_eq_true rfl⟩ rfl rfl (Nat.le_of_ble_eq_true rfl) ⟨Nat.le_of_ble_eq_true rfl, Nat.le_of_ble_eq_true rfl⟩ dX7_remainder_133 (fun h2 hp => ?_)
          subst hp
          refine zi_sub (by repeat (first | exact trivial | refine And.intro rfl ?_)) (s136 _ _ (nfr_tr (nfr_up (by omega)) hf7) (hN_up hN7 (n := 7 * j + i) (by omega) _) (fun k hk q => by rw [updI_n q, updI_n (by omega), updI_n q, updI_n (by omega)]) ?_ (by rw [updI_n (by omega), updI_n (by decide), updI_n (by omega), updI_n (by decide)]) (by rw [updI_n (by omega), updI_n (by decide), updI_n (by omega), updI_n (by decide)]))
          rw [updI_s, val i (by omega), if_neg w, show i - (t - s) = i + s - t by omega]
    have hN3 := hN_up hN2 (n := 1234) (by decide) ((P j2 s).natAbs : Int)
    have hf3 := nfr_tr (nfr_up (M := M) (h := mup (mup g (M 0 1234) (nE (cA 0) (P j2 s))) (M 0 1235) (nE (cA 0) (f t))) (n := 1234) (e := nE (cA 0) ((P j2 s).natAbs : Int)) (by decide)) hf2
    by_cases q : P j2 s < 0
    · rw [if_pos q]
      have gm3 := hQ_fr hh hf3 hm (mO_ne M o)
      have ew := hN3.1 1235 (by decide)
      refine zi_if_eq (tgt := 55) X dX7_remainder_45 (by decide) (fun c_45 => (by first | exact absurd (by decide) c_45 | exact absurd c_45 (by decide))) (fun c_45 => ?_)
      refine zi_aload_n X dX7_remainder_48 rfl rfl ?_
      refine zi_getf (C := RX7) (T := TX7) (N := 27) (ci := 11) X (by first | assumption | exact mup_self | (rw [mup_ne (by assumption)]; assumption) | (rw [mup_ne (by assumption)]; exact mup_self) | (rw [mup_ne (by assumption), mup_ne (by assumption)]; assumption)) rfl in_X7 5 (by decide) wf_X7_24 rfl rfl dX7_remainder_49 ?_
      refine zi_callSv X (n_negate l D ew) kc_X7_negate wm_X7_93 wst_X7_negate ⟨Nat.le_of_ble_eq_true rfl, Nat.le_of_ble_eq_true rfl⟩ rfl rfl (Nat.le_of_ble_eq_true rfl) ⟨Nat.le_of_ble_eq_true rfl, Nat.le_of_ble_eq_true rfl⟩ dX7_remainder_52 (fun h2 hp => ?_)
      subst hp
      refine zi_sub (by repeat (first | exact trivial | refine And.intro rfl ?_)) (s55 _ _ (nfr_tr (nfr_up (by decide)) hf3) (hN_up hN3 (n := 1235) (by decide) _) (fun i hi => by rw [updI_n (by omega), updI_n (by omega), updI_n (by omega), updI_n (by omega)]) (by rw [updI_n (by decide), updI_s]) ?_)
      rw [updI_s, if_pos q, updI_n (by decide), updI_s]
    · rw [if_neg q]
      refine zi_if_eq (tgt := 55) X dX7_remainder_45 (by decide) (fun c_45 => ?_) (fun c_45 => (by first | exact absurd (by decide) c_45 | exact absurd c_45 (by decide)))
      refine zi_sub (by repeat (first | exact trivial | refine And.intro rfl ?_)) (s55 _ _ hf3 hN3 (fun i hi => by rw [updI_n (by omega), updI_n (by omega), updI_n (by omega)]) updI_s ?_)
      rw [if_neg q, updI_n (by decide), updI_s]
end RW4
