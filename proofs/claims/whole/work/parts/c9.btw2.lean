/-! SturmRootsModel: between, from its entry -/
section RW9
variable {cA : Nat → ClassId} {M : Nat → Nat → Nat} {P : Nat → Nat → Int} {h : mH} {o : RO} {m : Nat}
theorem r_between (l : Launch) (D : va_G) (hm : h m = some (mO M o)) (hh : hQ cA M P h) (hc0 : ∃ c0, h (M 2 2) = some (cmE (cA 0) c0)) (hv : h (M 2 1) = some (hvE (cA 5) M)) {j g f k : Nat} (hj : j < 16) (hb : pC (P j)) (hg : stI (P j) 7 = g + 1) {x y : Int64} (hk : k < 14) (hx : x.toInt.natAbs < CC) (hd : (y.toInt - x.toInt).natAbs < CC) (hf : f ≤ 159) (hok : okT g f (btF (P j) x.toInt (y.toInt - x.toInt) k (g + 1) (g + 1))) :
    mCi l yX7_between cX7_between 15 .int (rmd 5) D (mT cA) [.ref m, .ref (M 1 j), .long x, .long y, .int (nI k)] h (fun r h1 => r = nI (cntN g f (btF (P j) x.toInt (y.toInt - x.toInt) k (g + 1) (g + 1))) ∧ bfr M h1 h ∧ (∃ P', hQ cA M P' h1 ∧ ∀ t, t < 16 → t ≠ 5 → P' t = P t) ∧ ∃ c, h1 (M 2 2) = some (cmE (cA 0) c)) := by
  refine mEnter_i (by decide) (Nat.le_of_ble_eq_true rfl) rfl (fun z X Vz => ?_)
  refine zi_aload_n X dX7_between_0 rfl rfl ?_
  refine zi_callSi X (r_degree l D hh (j := j) (by omega) hb) kc_X7_degree wm_X7_166 wst_X7_degree ⟨Nat.le_of_ble_eq_true rfl, Nat.le_of_ble_eq_true rfl⟩ rfl rfl (Nat.le_of_ble_eq_true rfl) ⟨Nat.le_of_ble_eq_true rfl, Nat.le_of_ble_eq_true rfl⟩ dX7_between_1 (fun r h1 hp => ?_)
  obtain ⟨rfl, rfl⟩ := hp
  have g7 : g < 7 := by have := stI_le (P j) 7; omega
  rw [hg, nI_pr]
  refine zi_istore X dX7_between_4 (by decide) ?_
  refine zi_aload_n X dX7_between_6 rfl rfl ?_
  refine zi_getf (C := RX7) (T := TX7) (N := 27) (ci := 11) X (by first | assumption | exact mup_self | (rw [mup_ne (by assumption)]; assumption) | (rw [mup_ne (by assumption)]; exact mup_self) | (rw [mup_ne (by assumption), mup_ne (by assumption)]; assumption)) rfl in_X7 13 (by decide) wf_X7_50 rfl rfl dX7_between_7 ?_
  refine zi_iconst (v := (nI 0)) X dX7_between_10 (by decide) ?_
  refine zi_aaldA X 5 (by first | assumption | exact mup_self | (rw [mup_ne (by assumption)]; assumption) | (rw [mup_ne (by assumption)]; exact mup_self) | (rw [mup_ne (by assumption), mup_ne (by assumption)]; assumption)) rfl (vin (show 0 < 160 by decide) (by decide)) (hv_at (d := 0) rfl (by decide)) dX7_between_11 ?_
  refine zi_astore X dX7_between_12 (by decide) ?_
  refine zi_iconst (v := (nI 0)) X dX7_between_14 (by decide) ?_
  refine zi_istore X dX7_between_15 (by decide) ?_
  obtain ⟨N, hN0, hP⟩ := id hh
  -- the search
  have srch : ∀ (g1 : mH) (Q : Nat → Nat → Int), nfr M g1 h1 → hQ cA M Q g1 → (∀ t, t ≤ g → Q 16 t = btF (P j) x.toInt (y.toInt - x.toInt) k (g + 1) (g + 1) t) → (∀ t, t < 16 → Q t = P t) → zM z 0 0 160 [some (.ref m), some (.ref (M 1 j)), some (.long x), none, some (.long y), none, some (.int (nI k)), some (.int (nI g)), none, none, none, none, none, none, none] [] g1 := fun g1 Q hf1 hQ1 q16 qk => by
    have gm := hQ_fr hh hf1 hm (mO_ne M o)
    obtain ⟨c0, hc0⟩ := hc0
    have gc := hQ_fr hh hf1 hc0 (fun c v q => by simp [cmE, nE] at q)
    refine zi_iconst (v := (nI 0)) X dX7_between_160 (by decide) ?_
    refine zi_istore X dX7_between_161 (by decide) ?_
    refine zi_iconst (v := (nI 0)) X dX7_between_163 (by decide) ?_
    refine zi_istore X dX7_between_164 (by decide) ?_
    refine zi_aload_n X dX7_between_166 rfl rfl ?_
    refine zi_getf (C := RX7) (T := TX7) (N := 27) (ci := 11) X (by first | assumption | exact mup_self | (rw [mup_ne (by assumption)]; assumption) | (rw [mup_ne (by assumption)]; exact mup_self) | (rw [mup_ne (by assumption), mup_ne (by assumption)]; assumption)) rfl in_X7 14 (by decide) wf_X7_53 rfl rfl dX7_between_167 ?_
    refine zi_iconst (v := (nI 0)) X dX7_between_170 (by decide) ?_
    refine zi_iconst (v := (nI 0)) X dX7_between_171 (by decide) ?_
    refine zi_iast X 0 (by first | assumption | exact mup_self | (rw [mup_ne (by assumption)]; assumption) | (rw [mup_ne (by assumption)]; exact mup_self) | (rw [mup_ne (by assumption), mup_ne (by assumption)]; assumption)) rfl (vin (show 0 < 160 by decide) (by decide)) dX7_between_172 ?_
    rw [nI_cl (show 0 < 2147483648 by decide)]
    have hs : bS cA M h1 (mup g1 (M 2 2) (cmE (cA 0) (upd c0 0 (nI 0)))) Q (upd c0 0 (nI 0)) := bS_c (c := c0) ⟨bfr_n hf1, hQ1, gc⟩
    have := bt_dfs l D (L := []) (R := rmd 5) (p1 := M 1 j) (xa := x) (xb := y) (k := k) X hm ⟨P, hh⟩ ⟨c0, hc0⟩ hv g7 f 0 _ 0 _ Q _ (by omega) hok hs q16 pk_us (fun g2 P2 c2 hs2 hk2 _ => by
      refine zi_iload X dX7_between_173 rfl ?_
      refine zi_if_lt (tgt := 355) X dX7_between_175 (by decide) (fun c_175 => ?_) (fun c_175 => (by first | exact absurd (by decide) c_175 | exact absurd c_175 (by decide)))
      refine zi_iload X dX7_between_355 rfl ?_
      refine zi_ireturn X Vz dX7_between_357 ?_
      exact ⟨by rw [Nat.zero_add], hs2.1, ⟨P2, hs2.2.1, fun t ht h5 => by rw [hk2 t h5 (by omega), qk t ht]⟩, ⟨c2, hs2.2.2⟩⟩)
    exact zi_sub (by repeat (first | exact trivial | refine And.intro rfl ?_)) this
  -- the polynomial on the interval
  have outer : ∀ (r n : Nat) (g1 : mH) (Q : Nat → Nat → Int), n + r = g + 1 → nfr M g1 h1 → hQ cA M Q g1 → (∀ t, t < 7 → Q 16 t = btF (P j) x.toInt (y.toInt - x.toInt) k (g + 1) n t) → (∀ t, t < 16 → Q t = P t) → zM z 0 0 43 [some (.ref m), some (.ref (M 1 j)), some (.long x), none, some (.long y), none, some (.int (nI k)), some (.int (nI g)), some (.ref (M 1 16)), some (.int (nI r - nI 1)), none, none, none, none, none] [] g1 := by
    intro r
    induction r with
    | zero =>
      intro n g1 Q hn hf1 hQ1 q16 qk
      obtain rfl : n = g + 1 := by omega
      refine zi_iload X dX7_between_43 rfl ?_
      refine zi_if_lt (tgt := 160) X dX7_between_45 (by decide) (fun c_45 => ?_) (fun c_45 => (by first | exact absurd (by decide) c_45 | exact absurd c_45 (by decide)))
      exact zi_sub (by repeat (first | exact trivial | refine And.intro rfl ?_)) (srch g1 Q hf1 hQ1 (fun t ht => q16 t (by omega)) qk)
    | succ r ih =>
      intro n g1 Q hn hf1 hQ1 q16 qk
      have r7 : r < 7 := by omega
      rw [nI_pr]
      refine zi_iload X dX7_between_43 rfl ?_
      refine zi_if_lt (tgt := 160) X dX7_between_45 (by decide) (fun c_45 => (by first | exact absurd (nI_pos (by omega)) c_45 | exact absurd c_45 (nI_pos (by omega)))) (fun c_45 => ?_)
      refine zi_iload X dX7_between_48 rfl ?_
      refine zi_istore X dX7_between_50 (by decide) ?_
      generalize hw : btF (P j) x.toInt (y.toInt - x.toInt) k (g + 1) n = w at q16
      suffices inner : ∀ (s : Nat) (g2 : mH) (N2 : Nat → Int), s ≤ g + 1 → nfr M g2 h1 → hN cA M N2 g2 → (∀ t, t < 7 → N2 (7 * 16 + t) = if s ≤ t ∧ t ≤ g then (if t = 0 then w 0 * x.toInt else w t * x.toInt + w (t - 1) * (y.toInt - x.toInt)) else w t) → (∀ t, t < 16 → ∀ i, i < 7 → N2 (7 * t + i) = P t i) → (∀ t, t < 176 → t ≠ 16 → ∀ i, i < 7 → N2 (7 * t + i) = Q t i) → zM z 0 0 52 [some (.ref m), some (.ref (M 1 j)), some (.long x), none, some (.long y), none, some (.int (nI k)), some (.int (nI g)), some (.ref (M 1 16)), some (.int (nI r)), some (.int (nI s - nI 1)), none, none, none, none] [] g2 from by
        obtain ⟨N1, hN1, hP1⟩ := id hQ1
        have := inner (g + 1) g1 N1 (Nat.le_refl _) hf1 hN1 (fun t ht => by rw [if_neg (by omega), hP1 16 (by decide) t ht, q16 t ht]) (fun t ht i hi => by rw [hP1 t (by omega) i hi, qk t ht]) (fun t ht _ i hi => hP1 t ht i hi)
        rw [nI_pr] at this
        exact zi_sub (by repeat (first | exact trivial | refine And.intro rfl ?_)) this
      intro s
      induction s with
      | zero =>
        intro g2 N2 hs hf2 hN2 e16 ek eq_
        have gm := hQ_fr hh hf2 hm (mO_ne M o)
        have a1 := hN2.2.1 j (by omega)
        have b1 := hN2.1 (7 * j + r) (by omega)
        have bu := hN2.1 1233 (by decide)
        rw [ek j hj r r7] at b1
        refine zi_iload X dX7_between_52 rfl ?_
        refine zi_if_lt (tgt := 117) X dX7_between_54 (by decide) (fun c_54 => ?_) (fun c_54 => (by first | exact absurd (by decide) c_54 | exact absurd c_54 (by decide)))
        refine zi_aload_n X dX7_between_117 rfl rfl ?_
        refine zi_iload X dX7_between_118 rfl ?_
        refine zi_aaldA X 4 (by first | assumption | exact mup_self | (rw [mup_ne (by assumption)]; assumption) | (rw [mup_ne (by assumption)]; exact mup_self) | (rw [mup_ne (by assumption), mup_ne (by assumption)]; assumption)) rfl (vin r7 (by decide)) (pa_at (i := r) r7) dX7_between_120 ?_
        refine zi_aload_n X dX7_between_121 rfl rfl ?_
        refine zi_getf (C := RX7) (T := TX7) (N := 27) (ci := 11) X (by first | assumption | exact mup_self | (rw [mup_ne (by assumption)]; assumption) | (rw [mup_ne (by assumption)]; exact mup_self) | (rw [mup_ne (by assumption), mup_ne (by assumption)]; assumption)) rfl in_X7 3 (by decide) wf_X7_18 rfl rfl dX7_between_122 ?_
        refine zi_callSv X (n_copy l D b1 bu (hN_ne hN2 (by omega) (by decide) (by omega))) kc_X7_copy wm_X7_113 wst_X7_copy ⟨Nat.le_of_ble_eq_true rfl, Nat.le_of_ble_eq_true rfl⟩ rfl rfl (Nat.le_of_ble_eq_true rfl) ⟨Nat.le_of_ble_eq_true rfl, Nat.le_of_ble_eq_true rfl⟩ dX7_between_125 (fun h2 hp => ?_)
        subst hp
        have hN3 := hN_up hN2 (n := 1233) (by decide) (P j r)
        have hf3 := nfr_tr (nfr_up (M := M) (h := g2) (n := 1233) (e := nE (cA 0) (P j r)) (by decide)) hf2
        have gm3 := hQ_fr hh hf3 hm (mO_ne M o)
        have cu := hN3.1 1233 (by decide)
        rw [updI_s] at cu
        have eB : nI k * (nI g - nI r) = nI (k * n) := by
          rw [pk_sub (by omega), pk_mul]
          congr 2
          omega
        refine zi_aload_n X dX7_between_128 rfl rfl ?_
        refine zi_getf (C := RX7) (T := TX7) (N := 27) (ci := 11) X (by first | assumption | exact mup_self | (rw [mup_ne (by assumption)]; assumption) | (rw [mup_ne (by assumption)]; exact mup_self) | (rw [mup_ne (by assumption), mup_ne (by assumption)]; assumption)) rfl in_X7 3 (by decide) wf_X7_18 rfl rfl dX7_between_129 ?_
        refine zi_iload X dX7_between_132 rfl ?_
        refine zi_iload X dX7_between_134 rfl ?_
        refine zi_iload X dX7_between_136 rfl ?_
        refine zi_isub X dX7_between_138 ?_
        refine zi_imul X dX7_between_139 ?_
        rw [eB]
        have hkn : k * n ≤ 13 * 7 := Nat.mul_le_mul (by omega) (by omega)
        refine zi_callSv X (n_left l D cu (B := k * n) (by omega)) kc_X7_left wm_X7_141 wst_X7_left ⟨Nat.le_of_ble_eq_true rfl, Nat.le_of_ble_eq_true rfl⟩ rfl rfl (Nat.le_of_ble_eq_true rfl) ⟨Nat.le_of_ble_eq_true rfl, Nat.le_of_ble_eq_true rfl⟩ dX7_between_140 (fun h2 hp => ?_)
        subst hp
        rw [mup_mup]
        have hN4 := hN_up hN2 (n := 1233) (by decide) (P j r * 2 ^ (k * n))
        have hf4 := nfr_tr (nfr_up (M := M) (h := g2) (n := 1233) (e := nE (cA 0) (P j r * 2 ^ (k * n))) (by decide)) hf2
        have gm4 := hQ_fr hh hf4 hm (mO_ne M o)
        have a4 := hN4.2.1 16 (by decide)
        have b4 := hN4.1 (7 * 16 + 0) (by decide)
        have u4 := hN4.1 1233 (by decide)
        rw [updI_s] at u4
        refine zi_aload X dX7_between_143 rfl ?_
        refine zi_iconst (v := (nI 0)) X dX7_between_145 (by decide) ?_
        refine zi_aaldA X 4 (by first | assumption | exact mup_self | (rw [mup_ne (by assumption)]; assumption) | (rw [mup_ne (by assumption)]; exact mup_self) | (rw [mup_ne (by assumption), mup_ne (by assumption)]; assumption)) rfl (vin (show 0 < 7 by decide) (by decide)) (pa_at (i := 0) (by decide)) dX7_between_146 ?_
        refine zi_aload_n X dX7_between_147 rfl rfl ?_
        refine zi_getf (C := RX7) (T := TX7) (N := 27) (ci := 11) X (by first | assumption | exact mup_self | (rw [mup_ne (by assumption)]; assumption) | (rw [mup_ne (by assumption)]; exact mup_self) | (rw [mup_ne (by assumption), mup_ne (by assumption)]; assumption)) rfl in_X7 3 (by decide) wf_X7_18 rfl rfl dX7_between_148 ?_
        refine zi_callSv X (n_add l D b4 u4 (hN_ne hN4 (by decide) (by decide) (by decide))) kc_X7_add wm_X7_194 wst_X7_add ⟨Nat.le_of_ble_eq_true rfl, Nat.le_of_ble_eq_true rfl⟩ rfl rfl (Nat.le_of_ble_eq_true rfl) ⟨Nat.le_of_ble_eq_true rfl, Nat.le_of_ble_eq_true rfl⟩ dX7_between_151 (fun h2 hp => ?_)
        subst hp
        refine zi_iinc X dX7_between_154 rfl rfl (by decide) ?_
        refine zi_goto (tgt := 43) X dX7_between_157 (by decide) ?_
        rw [nI_dm]
        refine zi_sub (by repeat (first | exact trivial | refine And.intro rfl ?_)) (ih (n + 1) _ (updP Q 16 (btF (P j) x.toInt (y.toInt - x.toInt) k (g + 1) (n + 1))) (by omega) (nfr_tr (nfr_up (by decide)) hf4) ⟨_, hN_up hN4 (n := 7 * 16 + 0) (by decide) _, fun t ht i hi => ?_⟩ (fun t _ => by rw [updP_s]) (fun t ht => by rw [updP_n (by omega)]; exact qk t ht))
        unfold updP
        by_cases c : t = 16
        · rw [if_pos c, c, btF, hw]
          unfold btS
          by_cases c0 : i = 0
          · rw [c0, updI_s, if_pos rfl, updI_n (by decide), e16 0 (by decide), if_pos ⟨Nat.le_refl 0, Nat.zero_le g⟩, if_pos rfl, show g + 1 - 1 - n = r by omega]
          · rw [updI_n (by omega), updI_n (by omega), e16 i hi]
            by_cases cg : i < g + 1
            · rw [if_pos (show 0 ≤ i ∧ i ≤ g from ⟨Nat.zero_le i, by omega⟩), if_neg c0, if_neg c0, if_pos cg]
            · rw [if_neg (show ¬ (0 ≤ i ∧ i ≤ g) by omega), if_neg c0, if_neg cg]
        · rw [if_neg c, updI_n (by omega), updI_n (by omega), eq_ t ht c i hi]
      | succ s ihs =>
        intro g2 N2 hs hf2 hN2 e16 ek eq_
        have s7 : s < 7 := by omega
        have gm := hQ_fr hh hf2 hm (mO_ne M o)
        have a1 := hN2.2.1 16 (by decide)
        have b1 := hN2.1 (7 * 16 + s) (by omega)
        rw [e16 s s7, if_neg (by omega)] at b1
        rw [nI_pr]
        refine zi_iload X dX7_between_52 rfl ?_
        refine zi_if_lt (tgt := 117) X dX7_between_54 (by decide) (fun c_54 => (by first | exact absurd (nI_pos (by omega)) c_54 | exact absurd c_54 (nI_pos (by omega)))) (fun c_54 => ?_)
        refine zi_aload X dX7_between_57 rfl ?_
        refine zi_iload X dX7_between_59 rfl ?_
        refine zi_aaldA X 4 (by first | assumption | exact mup_self | (rw [mup_ne (by assumption)]; assumption) | (rw [mup_ne (by assumption)]; exact mup_self) | (rw [mup_ne (by assumption), mup_ne (by assumption)]; assumption)) rfl (vin s7 (by decide)) (pa_at (i := s) s7) dX7_between_61 ?_
        refine zi_lload_n X dX7_between_62 rfl rfl ?_
        refine zi_callSv X (n_times l D b1 hx) kc_X7_times wm_X7_152 wst_X7_times ⟨Nat.le_of_ble_eq_true rfl, Nat.le_of_ble_eq_true rfl⟩ rfl rfl (Nat.le_of_ble_eq_true rfl) ⟨Nat.le_of_ble_eq_true rfl, Nat.le_of_ble_eq_true rfl⟩ dX7_between_63 (fun h2 hp => ?_)
        subst hp
        have hN3 := hN_up hN2 (n := 7 * 16 + s) (by omega) (w s * x.toInt)
        have hf3 := nfr_tr (nfr_up (M := M) (h := g2) (n := 7 * 16 + s) (e := nE (cA 0) (w s * x.toInt)) (by omega)) hf2
        have gm3 := hQ_fr hh hf3 hm (mO_ne M o)
        -- behind the step
        have s111 : ∀ (g4 : mH) (N4 : Nat → Int), nfr M g4 h1 → hN cA M N4 g4 → N4 (7 * 16 + s) = (if s = 0 then w 0 * x.toInt else w s * x.toInt + w (s - 1) * (y.toInt - x.toInt)) → (∀ t, t < 1232 → t ≠ 7 * 16 + s → N4 t = N2 t) → zM z 0 0 111 [some (.ref m), some (.ref (M 1 j)), some (.long x), none, some (.long y), none, some (.int (nI k)), some (.int (nI g)), some (.ref (M 1 16)), some (.int (nI r)), some (.int (nI s)), none, none, none, none] [] g4 := fun g4 N4 hf4 hN4 e4 e4' => by
          refine zi_iinc X dX7_between_111 rfl rfl (by decide) ?_
          refine zi_goto (tgt := 52) X dX7_between_114 (by decide) ?_
          rw [nI_dm]
          refine zi_sub (by repeat (first | exact trivial | refine And.intro rfl ?_)) (ihs g4 N4 (by omega) hf4 hN4 (fun t ht => ?_) (fun t ht i hi => by rw [e4' _ (by omega) (by omega), ek t ht i hi]) (fun t ht q i hi => by rw [e4' _ (by omega) (by omega), eq_ t ht q i hi]))
          by_cases c : t = s
          · rw [c, e4]
            have cs : s ≤ s ∧ s ≤ g := ⟨Nat.le_refl s, by omega⟩
            rw [if_pos cs]
          · rw [e4' _ (by omega) (by omega), e16 t ht]
            by_cases c1 : s + 1 ≤ t ∧ t ≤ g
            · have c2 : s ≤ t ∧ t ≤ g := ⟨by omega, c1.2⟩
              rw [if_pos c1, if_pos c2]
            · have c2 : ¬ (s ≤ t ∧ t ≤ g) := by omega
              rw [if_neg c1, if_neg c2]
        by_cases c0 : s = 0
        · refine zi_iload X dX7_between_66 rfl ?_
          refine zi_if_ne (tgt := 74) X dX7_between_68 (by decide) (fun c_68 => (by first | exact absurd (by rw [c0]; rfl) c_68 | exact absurd c_68 (by rw [c0]; rfl))) (fun c_68 => ?_)
          refine zi_goto (tgt := 111) X dX7_between_71 (by decide) ?_
          exact zi_sub (by repeat (first | exact trivial | refine And.intro rfl ?_)) (s111 _ _ hf3 hN3 (by rw [updI_s, if_pos c0, c0]) (fun t _ q => updI_n q))
        · obtain ⟨s1, rfl⟩ : ∃ s1, s = s1 + 1 := ⟨s - 1, by omega⟩
          have hs0 : ¬ nI (s1 + 1) = 0 := nI_ne0 (by omega) (by omega)
          have a3 := hN3.2.1 16 (by decide)
          have b3 := hN3.1 (7 * 16 + s1) (by omega)
          have u3 := hN3.1 1233 (by decide)
          rw [updI_n (by omega), e16 s1 (by omega), if_neg (by omega)] at b3
          refine zi_iload X dX7_between_66 rfl ?_
          refine zi_if_ne (tgt := 74) X dX7_between_68 (by decide) (fun c_68 => ?_) (fun c_68 => (by first | exact absurd hs0 c_68 | exact absurd c_68 hs0))
          refine zi_aload X dX7_between_74 rfl ?_
          refine zi_iload X dX7_between_76 rfl ?_
          refine zi_iconst (v := (nI 1)) X dX7_between_78 (by decide) ?_
          refine zi_isub X dX7_between_79 ?_
          refine zi_aaldA X 4 (by first | assumption | exact mup_self | (rw [mup_ne (by assumption)]; assumption) | (rw [mup_ne (by assumption)]; exact mup_self) | (rw [mup_ne (by assumption), mup_ne (by assumption)]; assumption)) rfl (by rw [nI_pr]; exact vin (show s1 < 7 by omega) (by decide)) (pa_at2 (i := s1) (nI_pr s1) (by omega)) dX7_between_80 ?_
          refine zi_aload_n X dX7_between_81 rfl rfl ?_
          refine zi_getf (C := RX7) (T := TX7) (N := 27) (ci := 11) X (by first | assumption | exact mup_self | (rw [mup_ne (by assumption)]; assumption) | (rw [mup_ne (by assumption)]; exact mup_self) | (rw [mup_ne (by assumption), mup_ne (by assumption)]; assumption)) rfl in_X7 3 (by decide) wf_X7_18 rfl rfl dX7_between_82 ?_
          refine zi_callSv X (n_copy l D b3 u3 (hN_ne hN3 (by omega) (by decide) (by omega))) kc_X7_copy wm_X7_113 wst_X7_copy ⟨Nat.le_of_ble_eq_true rfl, Nat.le_of_ble_eq_true rfl⟩ rfl rfl (Nat.le_of_ble_eq_true rfl) ⟨Nat.le_of_ble_eq_true rfl, Nat.le_of_ble_eq_true rfl⟩ dX7_between_85 (fun h2 hp => ?_)
          subst hp
          have hN4 := hN_up hN3 (n := 1233) (by decide) (w s1)
          have hf4 := nfr_tr (nfr_up (M := M) (h := mup g2 (M 0 (7 * 16 + (s1 + 1))) (nE (cA 0) (w (s1 + 1) * x.toInt))) (n := 1233) (e := nE (cA 0) (w s1)) (by decide)) hf3
          have gm4 := hQ_fr hh hf4 hm (mO_ne M o)
          have u4 := hN4.1 1233 (by decide)
          rw [updI_s] at u4
          have hyx : (y - x).toInt = y.toInt - x.toInt := by
            unfold CC at hd
            exact fb_subL (by omega) (by omega)
          refine zi_aload_n X dX7_between_88 rfl rfl ?_
          refine zi_getf (C := RX7) (T := TX7) (N := 27) (ci := 11) X (by first | assumption | exact mup_self | (rw [mup_ne (by assumption)]; assumption) | (rw [mup_ne (by assumption)]; exact mup_self) | (rw [mup_ne (by assumption), mup_ne (by assumption)]; assumption)) rfl in_X7 3 (by decide) wf_X7_18 rfl rfl dX7_between_89 ?_
          refine zi_lload X dX7_between_92 rfl ?_
          refine zi_lload_n X dX7_between_94 rfl rfl ?_
          refine zi_lsub X dX7_between_95 ?_
          refine zi_callSv X (n_times l D u4 (x := y - x) (by rw [hyx]; exact hd)) kc_X7_times wm_X7_152 wst_X7_times ⟨Nat.le_of_ble_eq_true rfl, Nat.le_of_ble_eq_true rfl⟩ rfl rfl (Nat.le_of_ble_eq_true rfl) ⟨Nat.le_of_ble_eq_true rfl, Nat.le_of_ble_eq_true rfl⟩ dX7_between_96 (fun h2 hp => ?_)
          subst hp
          rw [mup_mup, hyx]
          have hN5 := hN_up hN3 (n := 1233) (by decide) (w s1 * (y.toInt - x.toInt))
          have hf5 := nfr_tr (nfr_up (M := M) (h := mup g2 (M 0 (7 * 16 + (s1 + 1))) (nE (cA 0) (w (s1 + 1) * x.toInt))) (n := 1233) (e := nE (cA 0) (w s1 * (y.toInt - x.toInt))) (by decide)) hf3
          have gm5 := hQ_fr hh hf5 hm (mO_ne M o)
          have a5 := hN5.2.1 16 (by decide)
          have b5 := hN5.1 (7 * 16 + (s1 + 1)) (by omega)
          have u5 := hN5.1 1233 (by decide)
          rw [updI_s] at u5
          rw [updI_n (by omega), updI_s] at b5
          refine zi_aload X dX7_between_99 rfl ?_
          refine zi_iload X dX7_between_101 rfl ?_
          refine zi_aaldA X 4 (by first | assumption | exact mup_self | (rw [mup_ne (by assumption)]; assumption) | (rw [mup_ne (by assumption)]; exact mup_self) | (rw [mup_ne (by assumption), mup_ne (by assumption)]; assumption)) rfl (vin s7 (by decide)) (pa_at (i := s1 + 1) s7) dX7_between_103 ?_
          refine zi_aload_n X dX7_between_104 rfl rfl ?_
          refine zi_getf (C := RX7) (T := TX7) (N := 27) (ci := 11) X (by first | assumption | exact mup_self | (rw [mup_ne (by assumption)]; assumption) | (rw [mup_ne (by assumption)]; exact mup_self) | (rw [mup_ne (by assumption), mup_ne (by assumption)]; assumption)) rfl in_X7 3 (by decide) wf_X7_18 rfl rfl dX7_between_105 ?_
          refine zi_callSv X (n_add l D b5 u5 (hN_ne hN5 (by decide) (by omega) (by omega))) kc_X7_add wm_X7_194 wst_X7_add ⟨Nat.le_of_ble_eq_true rfl, Nat.le_of_ble_eq_true rfl⟩ rfl rfl (Nat.le_of_ble_eq_true rfl) ⟨Nat.le_of_ble_eq_true rfl, Nat.le_of_ble_eq_true rfl⟩ dX7_between_108 (fun h2 hp => ?_)
          subst hp
          exact zi_sub (by repeat (first | exact trivial | refine And.intro rfl ?_)) (s111 _ _ (nfr_tr (nfr_up (by omega)) hf5) (hN_up hN5 (n := 7 * 16 + (s1 + 1)) (by omega) _) (by rw [updI_s, if_neg (by omega)]; rfl) (fun t ht q => by rw [updI_n q, updI_n (by omega), updI_n q]))
  -- the zeros
  suffices key : ∀ n i (g1 : mH) (N1 : Nat → Int), i + n = 7 → nfr M g1 h1 → hN cA M N1 g1 → (∀ t, t < i → N1 (7 * 16 + t) = 0) → (∀ t, t < 176 → t ≠ 16 → ∀ i, i < 7 → N1 (7 * t + i) = P t i) → zM z 0 0 17 [some (.ref m), some (.ref (M 1 j)), some (.long x), none, some (.long y), none, some (.int (nI k)), some (.int (nI g)), some (.ref (M 1 16)), some (.int (nI i)), none, none, none, none, none] [] g1 from by
    refine zi_sub (by repeat (first | exact trivial | refine And.intro rfl ?_)) (key 7 0 h1 N rfl (nfr_rf M h1) hN0 (fun t ht => absurd ht (Nat.not_lt_zero t)) (fun t ht _ i hi => hP t ht i hi))
  intro n
  induction n with
  | zero =>
    intro i g1 N1 hi hf1 hN1 e0 ek
    obtain rfl : i = 7 := by omega
    refine zi_iload X dX7_between_17 rfl ?_
    refine zi_bipush (v := (nI 7)) X dX7_between_19 (by decide) ?_
    refine zi_icmp_ge (tgt := 39) X dX7_between_21 (by decide) (fun c_21 => ?_) (fun c_21 => (by first | exact absurd (by decide) c_21 | exact absurd c_21 (by decide)))
    refine zi_iload X dX7_between_39 rfl ?_
    refine zi_istore X dX7_between_41 (by decide) ?_
    have := outer (g + 1) 0 g1 (updP P 16 (fun _ => 0)) (by omega) hf1 ⟨N1, hN1, fun t ht i hi => by
      unfold updP
      by_cases c : t = 16
      · rw [if_pos c, c]; exact e0 i hi
      · rw [if_neg c]; exact ek t ht c i hi⟩ (fun t _ => by rw [updP_s]; rfl) (fun t ht => updP_n (by omega))
    rw [nI_pr] at this
    exact zi_sub (by repeat (first | exact trivial | refine And.intro rfl ?_)) this
  | succ n ih =>
    intro i g1 N1 hi hf1 hN1 e0 ek
    have i7 : i < 7 := by omega
    have a1 := hN1.2.1 16 (by decide)
    have b1 := hN1.1 (7 * 16 + i) (by omega)
    refine zi_iload X dX7_between_17 rfl ?_
    refine zi_bipush (v := (nI 7)) X dX7_between_19 (by decide) ?_
    refine zi_icmp_ge (tgt := 39) X dX7_between_21 (by decide) (fun c_21 => (by first | exact absurd (c7 i7) c_21 | exact absurd c_21 (c7 i7))) (fun c_21 => ?_)
    refine zi_aload X dX7_between_24 rfl ?_
    refine zi_iload X dX7_between_26 rfl ?_
    refine zi_aaldA X 4 (by first | assumption | exact mup_self | (rw [mup_ne (by assumption)]; assumption) | (rw [mup_ne (by assumption)]; exact mup_self) | (rw [mup_ne (by assumption), mup_ne (by assumption)]; assumption)) rfl (vin i7 (by decide)) (pa_at (i := i) i7) dX7_between_28 ?_
    refine zi_lconst (v := lN 0) X dX7_between_29 (by decide) ?_
    refine zi_callSv X (n_set l D b1) kc_X7_set wm_X7_145 wst_X7_set ⟨Nat.le_of_ble_eq_true rfl, Nat.le_of_ble_eq_true rfl⟩ rfl rfl (Nat.le_of_ble_eq_true rfl) ⟨Nat.le_of_ble_eq_true rfl, Nat.le_of_ble_eq_true rfl⟩ dX7_between_30 (fun h2 hp => ?_)
    subst hp
    have e00 : (lN 0).toInt = 0 := by decide
    rw [e00]
    refine zi_iinc (v := nI (i + 1)) X dX7_between_33 rfl (nI_inc _) (by decide) ?_
    refine zi_goto (tgt := 17) X dX7_between_36 (by decide) ?_
    refine zi_sub (by repeat (first | exact trivial | refine And.intro rfl ?_)) (ih (i + 1) _ _ (by omega) (nfr_tr (nfr_up (by omega)) hf1) (hN_up hN1 (n := 7 * 16 + i) (by omega) 0) (fun t ht => ?_) (fun t ht q i hi => by rw [updI_n (by omega), ek t ht q i hi]))
    by_cases c : t = i
    · rw [c, updI_s]
    · rw [updI_n (by omega)]
      exact e0 t (by omega)
end RW9
