/-! SturmRoots: multiplicity -/
def mulF (v : Iv) : Nat → (Nat → Int) → Nat
  | 0, _ => 0
  | r + 1, p => if stI p 7 ≤ 1 then 0 else if rIn (sqfP p) v.1 v.2.1 v.2.2.1 = 0 then 0 else mulF v r (gcdP p (derI p)) + 1
section X6Q
variable {cA : Nat → ClassId} {D : va_G} {S : Nat → Nat → Nat} {h : mH} {x sl rw is lst n : Nat} {sa : Nat → Nat} {Sl : Nat → Nat → Int} {V : Nat → Iv} {src : Nat → Int} {l : Launch} {T : Nat → Prop} {P : Nat → Nat → Int} {G Ln : Nat → Nat}
theorem x_multiplicity (hl : l.stackTraces = false) (hz : SzAll) (hA : aOk (Sl, n, V, src)) (hw : isW cA D S (x, sl, rw, is, lst, sa) h (Sl, n, V, src)) {a : Int32} :
    mCx l yX6_multiplicity cX6_multiplicity 5 (some .int) (rmc 9 3 18) D (mT cA) [.ref x, .int a] h (mFi h (fun r h1 => ∃ i, i < n ∧ a = nI i ∧ (V i).2.2.2 = 1 ∧ r = nI (mulF (V i) 7 src) ∧ isW cA D S (x, sl, rw, is, lst, sa) h1 (Sl, n, V, src)))
      (fun E h1 => h1 = h ∧ (E = eI ∧ ¬ inR a n ∨ E = eS ∧ ∃ i, i < n ∧ a = nI i ∧ (V i).2.2.2 ≠ 1)) := by
  obtain ⟨T, P, G, Ln, hw⟩ := hw
  have hx := hw.2.2.1.1
  have hn : n ≤ 1035 := hA.1
  refine mEnter_x (by decide) (Nat.le_of_ble_eq_true rfl) rfl (fun z X Vz => ?_)
  refine zi_aload_n X dX6_multiplicity_0 rfl rfl ?_
  refine zi_iload_n X dX6_multiplicity_1 rfl rfl ?_
  refine zi_xcallVv X (x_requireInterval hl hx hw.2.1 (by omega)) kc_X6_requireInterval wm_X6_191 hx rfl wim_X6_requireInterval wse_X6_requireInterval ⟨Nat.le_of_ble_eq_true rfl, Nat.le_of_ble_eq_true rfl⟩ rfl rfl (Nat.le_of_ble_eq_true rfl) ⟨Nat.le_of_ble_eq_true rfl, Nat.le_of_ble_eq_true rfl⟩ dX6_multiplicity_2 (fun E g e1 => zt_out X Vz (by obtain ⟨e1, e2, e3⟩ := e1; exact ⟨e2, Or.inl ⟨e1, e3⟩⟩) (by decide) (by decide)) (fun g e1 => ?_)
  obtain ⟨rfl, i, hi, rfl⟩ := e1
  obtain ⟨r, e, cap, mc, f, hs, hf, hr, ht, hnr, -⟩ := iso_at hw.2.1 hi
  have i0 := hw.2.1.1
  have hx := hw.2.2.1.1
  have hv : ivOk (V i) := hA.2.2 i hi
  have hvb := iv_b hv
  have hk := hv.1
  have hn0 : n ≠ 0 := by omega
  obtain ⟨hsb, hs0⟩ := hA.2.1 hn0
  have okc := hz.1 _ hsb hs0
  obtain ⟨hsr1, hsr2, -⟩ := hw.2.2.2.1 hn0
  refine zi_aload_n X dX6_multiplicity_5 rfl rfl ?_
  refine zi_getf (C := RX6) (T := TX6) (N := 8) (ci := 10) X (by first | assumption | exact mup_self | (rw [mup_ne (by assumption)]; assumption) | (rw [mup_ne (by assumption)]; exact mup_self) | (rw [mup_ne (by assumption), mup_ne (by assumption)]; assumption)) rfl in_X6 7 (by decide) wf_X6_50 rfl rfl dX6_multiplicity_6 ?_
  refine zi_getf (C := RX3) (T := TX3) (N := 4) (ci := 7) X (by first | assumption | exact mup_self | (rw [mup_ne (by assumption)]; assumption) | (rw [mup_ne (by assumption)]; exact mup_self) | (rw [mup_ne (by assumption), mup_ne (by assumption)]; assumption)) rfl in_X3 1 (by decide) wf_X6_182 rfl rfl dX6_multiplicity_9 ?_
  refine zi_iload_n X dX6_multiplicity_12 rfl rfl ?_
  refine zi_callVr X (al_get l D hs hi hf) kc_Jx4a65c_get_915e3 wm_X6_194 hs.1 rfl wim_Jx4a65c_get_915e3 wse_Jx4a65c_get_915e3 ⟨Nat.le_of_ble_eq_true rfl, Nat.le_of_ble_eq_true rfl⟩ rfl rfl (Nat.le_of_ble_eq_true rfl) ⟨Nat.le_of_ble_eq_true rfl, Nat.le_of_ble_eq_true rfl⟩ dX6_multiplicity_13 (fun y g1 e1 => ?_)
  obtain ⟨rfl, rfl⟩ := e1
  refine zi_cast (C := RX2) (T := TX2) (N := 4) (ci := 6) X wc_X6_198 (by first | assumption | exact mup_self | (rw [mup_ne (by assumption)]; assumption) | (rw [mup_ne (by assumption)]; exact mup_self) | (rw [mup_ne (by assumption), mup_ne (by assumption)]; assumption)) rfl dX6_multiplicity_16 ?_
  refine zi_astore_n X dX6_multiplicity_19 rfl (by decide) ?_
  refine zi_aload_n X dX6_multiplicity_20 rfl rfl ?_
  refine zi_getf (C := RX2) (T := TX2) (N := 4) (ci := 6) X (by first | assumption | exact mup_self | (rw [mup_ne (by assumption)]; assumption) | (rw [mup_ne (by assumption)]; exact mup_self) | (rw [mup_ne (by assumption), mup_ne (by assumption)]; assumption)) rfl in_X2 3 (by decide) wf_X6_200 rfl rfl dX6_multiplicity_21 ?_
  refine zi_iconst (v := (nI 1)) X dX6_multiplicity_24 (by decide) ?_
  by_cases c1 : (V i).2.2.2 = 1
  rotate_left
  · have c25 : ¬ iI (V i).2.2.2 = nI 1 := fun w => c1 (iI_inj (by have := hv.2.2.2; omega) (by decide) (w.trans (iI_nat 1)))
    refine zi_icmp_eq (tgt := 38) X dX6_multiplicity_25 (by decide) (fun c_25 => (by first | exact absurd c25 c_25 | exact absurd c_25 c25)) (fun c_25 => ?_)
    refine zi_throwS hl X Vz xok_X6_86 xs_X6_234 dX6_multiplicity_28 dX6_multiplicity_31 dX6_multiplicity_32 dX6_multiplicity_34 dX6_multiplicity_37 (Nat.le_of_ble_eq_true rfl) (Nat.le_of_ble_eq_true rfl) (Nat.le_of_ble_eq_true rfl) (Nat.le_of_ble_eq_true rfl) (Nat.le_of_ble_eq_true rfl) (Nat.le_of_ble_eq_true rfl) ⟨rfl, Or.inr ⟨rfl, i, hi, rfl, c1⟩⟩
  have c25 : iI (V i).2.2.2 = nI 1 := by rw [c1]; rfl
  refine zi_icmp_eq (tgt := 38) X dX6_multiplicity_25 (by decide) (fun c_25 => ?_) (fun c_25 => (by first | exact absurd c25 c_25 | exact absurd c_25 c25))
  refine zi_aload_n X dX6_multiplicity_38 rfl rfl ?_
  refine zi_getf (C := RX6) (T := TX6) (N := 8) (ci := 10) X (by first | assumption | exact mup_self | (rw [mup_ne (by assumption)]; assumption) | (rw [mup_ne (by assumption)]; exact mup_self) | (rw [mup_ne (by assumption), mup_ne (by assumption)]; assumption)) rfl in_X6 3 (by decide) wf_X6_28 rfl rfl dX6_multiplicity_39 ?_
  refine zi_aload_n X dX6_multiplicity_42 rfl rfl ?_
  refine zi_getf (C := RX6) (T := TX6) (N := 8) (ci := 10) X (by first | assumption | exact mup_self | (rw [mup_ne (by assumption)]; assumption) | (rw [mup_ne (by assumption)]; exact mup_self) | (rw [mup_ne (by assumption), mup_ne (by assumption)]; assumption)) rfl in_X6 7 (by decide) wf_X6_50 rfl rfl dX6_multiplicity_43 ?_
  refine zi_getf (C := RX3) (T := TX3) (N := 4) (ci := 7) X (by first | assumption | exact mup_self | (rw [mup_ne (by assumption)]; assumption) | (rw [mup_ne (by assumption)]; exact mup_self) | (rw [mup_ne (by assumption), mup_ne (by assumption)]; assumption)) rfl in_X3 0 (by decide) wf_X6_236 rfl rfl dX6_multiplicity_46 ?_
  refine zi_callVv X (q_become l D hw.1 (j := 0) (j2 := 14) (by decide) (by decide) (by decide)) kc_X4_become wm_X6_166 ((hP_p hw.1 (j := 0) (by decide)).1) rfl wim_X4_become wse_X4_become ⟨Nat.le_of_ble_eq_true rfl, Nat.le_of_ble_eq_true rfl⟩ rfl rfl (Nat.le_of_ble_eq_true rfl) ⟨Nat.le_of_ble_eq_true rfl, Nat.le_of_ble_eq_true rfl⟩ dX6_multiplicity_49 (fun g2 e1 => ?_)
  obtain ⟨f1, h1⟩ := e1
  have hw1 := isWT_alg hw f1 h1 (isoK_up hw.2.2.2.1 (fun k hk => ⟨updP_n (by omega), updN_n (by omega)⟩) rfl) (fun k hk => by
    by_cases c0 : k = 0
    · rw [c0, updN_s, updP_s, hsr1, hsr2]
    · rw [updN_n c0, updP_n c0]; exact hw.2.2.2.2.2 k hk)
  have hy1 : g2 y = some (ivO (V i)) := by rw [f1 _ (hIn_out hnr)]; exact hr
  refine zi_iconst (v := (nI 0)) X dX6_multiplicity_52 (by decide) ?_
  refine zi_istore_n X dX6_multiplicity_53 rfl (by decide) ?_
  refine zi_iconst (v := (nI 0)) X dX6_multiplicity_54 (by decide) ?_
  refine zi_istore X dX6_multiplicity_55 (by decide) ?_
  have loop : ∀ r t, t + r = 7 → ∀ (c : Nat) (p : Nat → Int) (P4 : Nat → Nat → Int) (G4 L4 : Nat → Nat) (g5 : mH), isWT cA D S (x, sl, rw, is, lst, sa) g5 (Sl, n, V, src) T P4 G4 L4 → P4 0 = p → g5 y = some (ivO (V i)) → okC (r + 1) p → c + mulF (V i) r p = mulF (V i) 7 src → zM z (0 + 1) (0 + 6) 57 [some (.ref x), some (.int (nI i)), some (.ref y), some (.int (nI c)), some (.int (nI t))] [] g5 := by
    intro r
    have stop : ∀ t (c : Nat) (P4 : Nat → Nat → Int) (G4 L4 : Nat → Nat) (g5 : mH), isWT cA D S (x, sl, rw, is, lst, sa) g5 (Sl, n, V, src) T P4 G4 L4 → c = mulF (V i) 7 src → zM z (0 + 1) (0 + 6) 172 [some (.ref x), some (.int (nI i)), some (.ref y), some (.int (nI c)), some (.int (nI t))] [] g5 := by
      intro t c P4 G4 L4 g5 hw4 hc
      refine zi_iload_n X dX6_multiplicity_172 rfl rfl ?_
      refine zi_widen (k := 3) (n := 18) (by decide) (by decide) ?_
      refine zi_xireturn X Vz dX6_multiplicity_173 ?_
      exact ⟨i, hi, rfl, c1, by rw [hc], T, P4, G4, L4, hw4⟩
    induction r with
    | zero =>
      intro t ht c p P4 G4 L4 g5 hw4 hp4 hy4 hok hc
      have : t = 7 := by omega
      subst this
      have c61 : nI 7 ≤ nI 7 := by decide
      refine zi_iload X dX6_multiplicity_57 rfl ?_
      refine zi_bipush (v := (nI 7)) X dX6_multiplicity_59 (by decide) ?_
      refine zi_icmp_ge (tgt := 172) X dX6_multiplicity_61 (by decide) (fun c_61 => ?_) (fun c_61 => (by first | exact absurd c61 c_61 | exact absurd c_61 c61))
      exact stop 7 c P4 G4 L4 g5 hw4 (by rw [← hc]; rfl)
    | succ r ih =>
      intro t ht c p P4 G4 L4 g5 hw4 hp4 hy4 hok hc
      have hx4 := hw4.2.2.1.1
      have kp := (hP_p hw4.1 (j := 0) (by decide)).1
      have hg0 := hw4.2.2.2.2.2 0 (by decide)
      rw [hp4] at hg0
      rw [hg0] at kp
      have hle := stI_le p 7
      rw [mulF] at hc
      refine zi_iload X dX6_multiplicity_57 rfl ?_
      refine zi_bipush (v := (nI 7)) X dX6_multiplicity_59 (by decide) ?_
      refine zi_icmp_ge (tgt := 172) X dX6_multiplicity_61 (by decide) (fun c_61 => (by first | exact absurd (c7 (by omega)) c_61 | exact absurd c_61 (c7 (by omega)))) (fun c_61 => ?_)
      refine zi_aload_n X dX6_multiplicity_64 rfl rfl ?_
      refine zi_getf (C := RX6) (T := TX6) (N := 8) (ci := 10) X (by first | assumption | exact mup_self | (rw [mup_ne (by assumption)]; assumption) | (rw [mup_ne (by assumption)]; exact mup_self) | (rw [mup_ne (by assumption), mup_ne (by assumption)]; assumption)) rfl in_X6 3 (by decide) wf_X6_28 rfl rfl dX6_multiplicity_65 ?_
      refine zi_getf (C := RX4) (T := TX4) (N := 2) (ci := 8) X (by first | assumption | exact mup_self | (rw [mup_ne (by assumption)]; assumption) | (rw [mup_ne (by assumption)]; exact mup_self) | (rw [mup_ne (by assumption), mup_ne (by assumption)]; assumption)) rfl in_X4 1 (by decide) wf_X6_137 rfl rfl dX6_multiplicity_68 ?_
      by_cases cd : stI p 7 ≤ 1
      · have c71 : nI (stI p 7) - nI 1 ≤ 0 := by
          rw [show (0 : Int32) = nI 0 from rfl]
          refine Int32.not_lt.mp (fun w => ?_)
          obtain ⟨d, hd⟩ : ∃ d, stI p 7 = d + 1 := ⟨stI p 7 - 1, by have := hok.1; omega⟩
          rw [hd, nI_pr, nI_ltI (by omega) (by omega)] at w
          omega
        rw [if_pos cd] at hc
        refine zi_if_le (tgt := 172) X dX6_multiplicity_71 (by decide) (fun c_71 => ?_) (fun c_71 => (by first | exact absurd c71 c_71 | exact absurd c_71 c71))
        exact stop t c P4 G4 L4 g5 hw4 hc
      · have c71 : ¬ nI (stI p 7) - nI 1 ≤ 0 := by
          obtain ⟨d, hd⟩ : ∃ d, stI p 7 = d + 1 := ⟨stI p 7 - 1, by omega⟩
          rw [hd, nI_pr, Int32.not_le, show (0 : Int32) = nI 0 from rfl, nI_ltI (by omega) (by omega)]
          omega
        rw [if_neg cd] at hc
        obtain ⟨hok0, ok, hokn⟩ := hok
        obtain ⟨F, H, d1, d2, d3⟩ := ok.2.2.1.2.2
        refine zi_if_le (tgt := 172) X dX6_multiplicity_71 (by decide) (fun c_71 => (by first | exact absurd c71 c_71 | exact absurd c_71 c71)) (fun c_71 => ?_)
        refine zi_aload_n X dX6_multiplicity_74 rfl rfl ?_
        refine zi_getf (C := RX6) (T := TX6) (N := 8) (ci := 10) X (by first | assumption | exact mup_self | (rw [mup_ne (by assumption)]; assumption) | (rw [mup_ne (by assumption)]; exact mup_self) | (rw [mup_ne (by assumption), mup_ne (by assumption)]; assumption)) rfl in_X6 2 (by decide) wf_X6_21 rfl rfl dX6_multiplicity_75 ?_
        refine zi_aload_n X dX6_multiplicity_78 rfl rfl ?_
        refine zi_getf (C := RX6) (T := TX6) (N := 8) (ci := 10) X (by first | assumption | exact mup_self | (rw [mup_ne (by assumption)]; assumption) | (rw [mup_ne (by assumption)]; exact mup_self) | (rw [mup_ne (by assumption), mup_ne (by assumption)]; assumption)) rfl in_X6 3 (by decide) wf_X6_28 rfl rfl dX6_multiplicity_79 ?_
        refine zi_aload_n X dX6_multiplicity_82 rfl rfl ?_
        refine zi_getf (C := RX6) (T := TX6) (N := 8) (ci := 10) X (by first | assumption | exact mup_self | (rw [mup_ne (by assumption)]; assumption) | (rw [mup_ne (by assumption)]; exact mup_self) | (rw [mup_ne (by assumption), mup_ne (by assumption)]; assumption)) rfl in_X6 5 (by decide) wf_X6_35 rfl rfl dX6_multiplicity_83 ?_
        refine zi_callVv X (q_writeRepeated l D hw4.1 (a := 0) (c := 2) (by decide) (by decide) (by rw [hp4]; exact hg0) (by rw [hp4]; exact ok.1.1) (by rw [hp4]; exact ok.1.2.1) (by rw [hp4]; exact ok.2.2.1.1)) kc_X0_writeRepeated wm_X6_163 (hP_a hw4.1) rfl wim_X0_writeRepeated wse_X0_writeRepeated ⟨Nat.le_of_ble_eq_true rfl, Nat.le_of_ble_eq_true rfl⟩ rfl rfl (Nat.le_of_ble_eq_true rfl) ⟨Nat.le_of_ble_eq_true rfl, Nat.le_of_ble_eq_true rfl⟩ dX6_multiplicity_86 (fun g6 e1 => ?_)
        obtain ⟨f8, P8, G8, h8, u8, p8, q8⟩ := e1
        rw [hp4] at p8 q8
        have hw8 := isWT_alg hw4 f8 h8 (isoK_up hw4.2.2.2.1 (fun k hk => u8 k (by simp; omega)) rfl) (g3_to hw4.2.2.2.2.2 u8 (fun k h1 h2 => by have : k = 2 := by { simp at h2; omega }; rw [this, q8, p8]))
        have hx8 := hw8.2.2.1.1
        have p80 : P8 0 = p := by rw [(u8 0 (by simp)).1]; exact hp4
        have g80 : G8 0 = stI p 7 := by rw [(u8 0 (by simp)).2]; exact hg0
        have hy8 : g6 y = some (ivO (V i)) := by rw [f8 _ (hIn_out hnr)]; exact hy4
        refine zi_aload_n X dX6_multiplicity_89 rfl rfl ?_
        refine zi_getf (C := RX6) (T := TX6) (N := 8) (ci := 10) X (by first | assumption | exact mup_self | (rw [mup_ne (by assumption)]; assumption) | (rw [mup_ne (by assumption)]; exact mup_self) | (rw [mup_ne (by assumption), mup_ne (by assumption)]; assumption)) rfl in_X6 2 (by decide) wf_X6_21 rfl rfl dX6_multiplicity_90 ?_
        refine zi_aload_n X dX6_multiplicity_93 rfl rfl ?_
        refine zi_getf (C := RX6) (T := TX6) (N := 8) (ci := 10) X (by first | assumption | exact mup_self | (rw [mup_ne (by assumption)]; assumption) | (rw [mup_ne (by assumption)]; exact mup_self) | (rw [mup_ne (by assumption), mup_ne (by assumption)]; assumption)) rfl in_X6 3 (by decide) wf_X6_28 rfl rfl dX6_multiplicity_94 ?_
        refine zi_aload_n X dX6_multiplicity_97 rfl rfl ?_
        refine zi_getf (C := RX6) (T := TX6) (N := 8) (ci := 10) X (by first | assumption | exact mup_self | (rw [mup_ne (by assumption)]; assumption) | (rw [mup_ne (by assumption)]; exact mup_self) | (rw [mup_ne (by assumption), mup_ne (by assumption)]; assumption)) rfl in_X6 5 (by decide) wf_X6_35 rfl rfl dX6_multiplicity_98 ?_
        refine zi_aload_n X dX6_multiplicity_101 rfl rfl ?_
        refine zi_getf (C := RX6) (T := TX6) (N := 8) (ci := 10) X (by first | assumption | exact mup_self | (rw [mup_ne (by assumption)]; assumption) | (rw [mup_ne (by assumption)]; exact mup_self) | (rw [mup_ne (by assumption), mup_ne (by assumption)]; assumption)) rfl in_X6 4 (by decide) wf_X6_32 rfl rfl dX6_multiplicity_102 ?_
        refine zi_callVv X (q_writeQuotient l D h8 (a := 0) (b := 2) (c := 1) (F := F) (H := H) (by decide) (by decide) (by decide) (by decide) (by decide) (by rw [g80, p80]) (by rw [q8, p8]) (hw8.2.2.2.2.2 1 (by decide)) (by rw [q8, g80]; exact ok.2.2.1.2.1) (by rw [p80]; exact d1) (by rw [p8]; exact d2) (by rw [q8, g80]; exact d3)) kc_X0_writeQuotient wm_X6_239 (hP_a h8) rfl wim_X0_writeQuotient wse_X0_writeQuotient ⟨Nat.le_of_ble_eq_true rfl, Nat.le_of_ble_eq_true rfl⟩ rfl rfl (Nat.le_of_ble_eq_true rfl) ⟨Nat.le_of_ble_eq_true rfl, Nat.le_of_ble_eq_true rfl⟩ dX6_multiplicity_105 (fun g7 e1 => ?_)
        obtain ⟨f9, P9, G9, h9, u9, p9, q9⟩ := e1
        rw [p80, p8] at p9 q9
        have hw9 := isWT_alg hw8 f9 h9 (isoK_up hw8.2.2.2.1 (fun k hk => u9 k (by simp; omega)) rfl) (g3_to hw8.2.2.2.2.2 u9 (fun k h1 h2 => by have : k = 1 := by { simp at h2; omega }; rw [this, q9, p9]))
        have hx9 := hw9.2.2.1.1
        have p9' : P9 1 = sqfP p := p9
        have g9' : G9 1 = stI (sqfP p) 7 := q9
        have p90 : P9 0 = p := by rw [(u9 0 (by simp)).1]; exact p80
        have p92 : P9 2 = gcdP p (derI p) := by rw [(u9 2 (by simp)).1]; exact p8
        have hy9 : g7 y = some (ivO (V i)) := by rw [f9 _ (hIn_out hnr)]; exact hy8
        refine zi_aload_n X dX6_multiplicity_108 rfl rfl ?_
        refine zi_getf (C := RX6) (T := TX6) (N := 8) (ci := 10) X (by first | assumption | exact mup_self | (rw [mup_ne (by assumption)]; assumption) | (rw [mup_ne (by assumption)]; exact mup_self) | (rw [mup_ne (by assumption), mup_ne (by assumption)]; assumption)) rfl in_X6 2 (by decide) wf_X6_21 rfl rfl dX6_multiplicity_109 ?_
        refine zi_aload_n X dX6_multiplicity_112 rfl rfl ?_
        refine zi_getf (C := RX6) (T := TX6) (N := 8) (ci := 10) X (by first | assumption | exact mup_self | (rw [mup_ne (by assumption)]; assumption) | (rw [mup_ne (by assumption)]; exact mup_self) | (rw [mup_ne (by assumption), mup_ne (by assumption)]; assumption)) rfl in_X6 4 (by decide) wf_X6_32 rfl rfl dX6_multiplicity_113 ?_
        refine zi_aload_n X dX6_multiplicity_116 rfl rfl ?_
        refine zi_getf (C := RX6) (T := TX6) (N := 8) (ci := 10) X (by first | assumption | exact mup_self | (rw [mup_ne (by assumption)]; assumption) | (rw [mup_ne (by assumption)]; exact mup_self) | (rw [mup_ne (by assumption), mup_ne (by assumption)]; assumption)) rfl in_X6 6 (by decide) wf_X6_41 rfl rfl dX6_multiplicity_117 ?_
        refine zi_callVv X (q_writeSturm l D h9 (q := 0) (a := 1) (by decide) ⟨by decide, Or.inl (by decide)⟩ (by rw [g9', p9']) (by rw [p9']; exact ok.2.2.2.1.1) (by rw [p9']; exact ok.2.2.2.1.2.1) (by rw [p9']; exact ok.2.2.2.1.2.2)) kc_X0_writeSturm wm_X6_159 (hP_a h9) rfl wim_X0_writeSturm wse_X0_writeSturm ⟨Nat.le_of_ble_eq_true rfl, Nat.le_of_ble_eq_true rfl⟩ rfl rfl (Nat.le_of_ble_eq_true rfl) ⟨Nat.le_of_ble_eq_true rfl, Nat.le_of_ble_eq_true rfl⟩ dX6_multiplicity_120 (fun g8 e2 => ?_)
        obtain ⟨f4, P5, G5, mm, h5, b1, b2, b3⟩ := e2
        rw [p9'] at b1 b3
        have hm := stLen_M b1
        subst hm
        have hw5 := isWT_alg hw9 f4 h5 (isoK_up hw9.2.2.2.1 (fun k hk => b2 k (Or.inr (show 10 ≤ k by omega))) (updN_n (by decide))) (fun k hk => by rw [(b2 k (Or.inl (show k < 3 by omega))).1, (b2 k (Or.inl (show k < 3 by omega))).2]; exact hw9.2.2.2.2.2 k hk)
        have sq : sqIs 0 (sqfP p) P5 G5 (updN L4 0 (stM (sqfP p))) := ⟨b1, updN_s, b3⟩
        have hpos := stM_pos b1 ok.2.2.2.2.2.2.2.2
        have oE := sq_ok sq ok.2.2.2.2.1
        have oE0 := oE.2 0 (by rw [sq.2.1]; exact hpos)
        have hx5 := hw5.2.2.1.1
        have hy5 : g8 y = some (ivO (V i)) := by rw [f4 _ (hIn_out hnr)]; exact hy9
        have z1 : (iI (V i).2.1).toInt.natAbs ≤ 2 ^ 29 := by rw [iI_int (by omega)]; omega
        have z2 : (iI (V i).2.2.1).toInt.natAbs ≤ 2 ^ 29 := by rw [iI_int (by omega)]; omega
        refine zi_aload_n X dX6_multiplicity_123 rfl rfl ?_
        refine zi_getf (C := RX6) (T := TX6) (N := 8) (ci := 10) X (by first | assumption | exact mup_self | (rw [mup_ne (by assumption)]; assumption) | (rw [mup_ne (by assumption)]; exact mup_self) | (rw [mup_ne (by assumption), mup_ne (by assumption)]; assumption)) rfl in_X6 2 (by decide) wf_X6_21 rfl rfl dX6_multiplicity_124 ?_
        refine zi_aload_n X dX6_multiplicity_127 rfl rfl ?_
        refine zi_getf (C := RX6) (T := TX6) (N := 8) (ci := 10) X (by first | assumption | exact mup_self | (rw [mup_ne (by assumption)]; assumption) | (rw [mup_ne (by assumption)]; exact mup_self) | (rw [mup_ne (by assumption), mup_ne (by assumption)]; assumption)) rfl in_X6 6 (by decide) wf_X6_41 rfl rfl dX6_multiplicity_128 ?_
        refine zi_aload_n X dX6_multiplicity_131 rfl rfl ?_
        refine zi_getf (C := RX2) (T := TX2) (N := 4) (ci := 6) X (by first | assumption | exact mup_self | (rw [mup_ne (by assumption)]; assumption) | (rw [mup_ne (by assumption)]; exact mup_self) | (rw [mup_ne (by assumption), mup_ne (by assumption)]; assumption)) rfl in_X2 0 (by decide) wf_X6_205 rfl rfl dX6_multiplicity_132 ?_
        refine zi_aload_n X dX6_multiplicity_135 rfl rfl ?_
        refine zi_getf (C := RX2) (T := TX2) (N := 4) (ci := 6) X (by first | assumption | exact mup_self | (rw [mup_ne (by assumption)]; assumption) | (rw [mup_ne (by assumption)]; exact mup_self) | (rw [mup_ne (by assumption), mup_ne (by assumption)]; assumption)) rfl in_X2 1 (by decide) wf_X6_208 rfl rfl dX6_multiplicity_136 ?_
        refine zi_aload_n X dX6_multiplicity_139 rfl rfl ?_
        refine zi_getf (C := RX2) (T := TX2) (N := 4) (ci := 6) X (by first | assumption | exact mup_self | (rw [mup_ne (by assumption)]; assumption) | (rw [mup_ne (by assumption)]; exact mup_self) | (rw [mup_ne (by assumption), mup_ne (by assumption)]; assumption)) rfl in_X2 2 (by decide) wf_X6_211 rfl rfl dX6_multiplicity_140 ?_
        refine zi_callVi X (q_rootsInside l D h5 (q := 0) (k := (V i).1) (M := MS) (X := 2 ^ 29) (by decide) oE oE0.1 oE0.2 z1 z2 (by omega) (two_X (by omega)) X_BB MS_X) kc_X0_rootsInside wm_X6_242 (hP_a h5) rfl wim_X0_rootsInside wse_X0_rootsInside ⟨Nat.le_of_ble_eq_true rfl, Nat.le_of_ble_eq_true rfl⟩ rfl rfl (Nat.le_of_ble_eq_true rfl) ⟨Nat.le_of_ble_eq_true rfl, Nat.le_of_ble_eq_true rfl⟩ dX6_multiplicity_143 (fun y9 g9 e4 => ?_)
        obtain ⟨f10, h10, e4⟩ := e4
        rw [sq_I sq hpos (by omega) (by omega)] at e4
        subst e4
        have hw10 := isWT_alg hw5 f10 h10 hw5.2.2.2.1 hw5.2.2.2.2.2
        have hx10 := hw10.2.2.1.1
        have hy10 : g9 y = some (ivO (V i)) := by rw [f10 _ (hIn_out hnr)]; exact hy5
        have rb := rIn_b b1 (V i).1 (V i).2.1 (V i).2.2.1
        by_cases c2 : rIn (sqfP p) (V i).1 (V i).2.1 (V i).2.2.1 = 0
        · have c146 : iI (rIn (sqfP p) (V i).1 (V i).2.1 (V i).2.2.1) = 0 := by rw [c2]; rfl
          rw [if_pos c2] at hc
          refine zi_if_ne (tgt := 152) X dX6_multiplicity_146 (by decide) (fun c_146 => (by first | exact absurd c146 c_146 | exact absurd c_146 c146)) (fun c_146 => ?_)
          refine zi_goto (tgt := 172) X dX6_multiplicity_149 (by decide) ?_
          exact stop t c P5 G5 _ g9 hw10 hc
        · have c146 : ¬ iI (rIn (sqfP p) (V i).1 (V i).2.1 (V i).2.2.1) = 0 := fun w => c2 (iI_inj (by omega) (by decide) w)
          rw [if_neg c2] at hc
          refine zi_if_ne (tgt := 152) X dX6_multiplicity_146 (by decide) (fun c_146 => ?_) (fun c_146 => (by first | exact absurd c146 c_146 | exact absurd c_146 c146))
          refine zi_iinc (v := nI (c + 1)) X dX6_multiplicity_152 rfl (nI_inc _) (by decide) ?_
          refine zi_aload_n X dX6_multiplicity_155 rfl rfl ?_
          refine zi_getf (C := RX6) (T := TX6) (N := 8) (ci := 10) X (by first | assumption | exact mup_self | (rw [mup_ne (by assumption)]; assumption) | (rw [mup_ne (by assumption)]; exact mup_self) | (rw [mup_ne (by assumption), mup_ne (by assumption)]; assumption)) rfl in_X6 3 (by decide) wf_X6_28 rfl rfl dX6_multiplicity_156 ?_
          refine zi_aload_n X dX6_multiplicity_159 rfl rfl ?_
          refine zi_getf (C := RX6) (T := TX6) (N := 8) (ci := 10) X (by first | assumption | exact mup_self | (rw [mup_ne (by assumption)]; assumption) | (rw [mup_ne (by assumption)]; exact mup_self) | (rw [mup_ne (by assumption), mup_ne (by assumption)]; assumption)) rfl in_X6 5 (by decide) wf_X6_35 rfl rfl dX6_multiplicity_160 ?_
          have p52 : P5 2 = gcdP p (derI p) := by rw [(b2 2 (Or.inl (by decide))).1]; exact p92
          refine zi_callVv X (q_become l D h10 (j := 0) (j2 := 2) (by decide) (by decide) (by decide)) kc_X4_become wm_X6_166 ((hP_p h10 (j := 0) (by decide)).1) rfl wim_X4_become wse_X4_become ⟨Nat.le_of_ble_eq_true rfl, Nat.le_of_ble_eq_true rfl⟩ rfl rfl (Nat.le_of_ble_eq_true rfl) ⟨Nat.le_of_ble_eq_true rfl, Nat.le_of_ble_eq_true rfl⟩ dX6_multiplicity_163 (fun g11 e1 => ?_)
          obtain ⟨f11, h11⟩ := e1
          have hw11 := isWT_alg hw10 f11 h11 (isoK_up hw10.2.2.2.1 (fun k hk => ⟨updP_n (by omega), updN_n (by omega)⟩) rfl) (fun k hk => by
            by_cases c0 : k = 0
            · rw [c0, updN_s, updP_s]; exact hw10.2.2.2.2.2 2 (by decide)
            · rw [updN_n c0, updP_n c0]; exact hw10.2.2.2.2.2 k hk)
          have hy11 : g11 y = some (ivO (V i)) := by rw [f11 _ (hIn_out hnr)]; exact hy10
          refine zi_iinc (v := nI (t + 1)) X dX6_multiplicity_166 rfl (nI_inc _) (by decide) ?_
          refine zi_goto (tgt := 57) X dX6_multiplicity_169 (by decide) ?_
          exact ih (t + 1) (by omega) (c + 1) (gcdP p (derI p)) _ _ _ g11 hw11 (by rw [updP_s, p52]) hy11 hokn (by rw [← hc]; omega)
  exact loop 7 0 rfl 0 src _ _ _ _ hw1 (by rw [updP_s, hsr1]) hy1 okc (Nat.zero_add _)
end X6Q
