/-! SturmRoots: intervals, rootsIn, interval, bisect, removeEmpty -/
def ivOk (v : Iv) : Prop := v.1 ≤ 12 ∧ v.2.1.natAbs ≤ 16384 * 2 ^ v.1 ∧ v.2.2.1.natAbs ≤ 16384 * 2 ^ v.1 ∧ v.2.2.2.natAbs < 1000000
/-- what calls rely on: intervals within bounds, not too many, a source that isn't zero -/
def aOk (A : AState) : Prop := A.2.1 ≤ 1035 ∧ (A.2.1 ≠ 0 → bnd9 A.2.2.2 ∧ stI A.2.2.2 7 ≠ 0) ∧ ∀ i, i < A.2.1 → ivOk (A.2.2.1 i)
theorem iv_b {v : Iv} (h : ivOk v) : v.2.1.natAbs ≤ 2 ^ 26 ∧ v.2.2.1.natAbs ≤ 2 ^ 26 := by
  have h1 : 2 ^ v.1 ≤ 2 ^ 12 := Nat.pow_le_pow_right (by decide) h.1
  have h2 := h.2.1
  have h3 := h.2.2.1
  have h4 : 16384 * 2 ^ v.1 ≤ 16384 * 2 ^ 12 := Nat.mul_le_mul (Nat.le_refl _) h1
  have h5 : 16384 * 2 ^ 12 = 2 ^ 26 := rfl
  omega
section X6O
variable {cA : Nat → ClassId} {D : va_G} {S : Nat → Nat → Nat} {h : mH} {x sl rw is lst n : Nat} {sa : Nat → Nat} {Sl : Nat → Nat → Int} {V : Nat → Iv} {src : Nat → Int} {l : Launch} {T : Nat → Prop} {P : Nat → Nat → Int} {G Ln : Nat → Nat}
theorem x_intervals (hw : isW cA D S (x, sl, rw, is, lst, sa) h (Sl, n, V, src)) :
    mCi l yX6_intervals cX6_intervals 1 .int (rmd 2) D (mT cA) [.ref x] h (fun r h1 => h1 = h ∧ r = nI n) := by
  obtain ⟨T, P, G, Ln, hw⟩ := hw
  have hx := hw.2.2.1.1
  have i0 := hw.2.1.1
  obtain ⟨e, cap, mc, f, hs⟩ := iso_lsize hw.2.1
  refine mEnter_i (by decide) (Nat.le_of_ble_eq_true rfl) rfl (fun z X Vz => ?_)
  refine zi_aload_n X dX6_intervals_0 rfl rfl ?_
  refine zi_getf (C := RX6) (T := TX6) (N := 8) (ci := 10) X (by first | assumption | exact mup_self | (rw [mup_ne (by assumption)]; assumption) | (rw [mup_ne (by assumption)]; exact mup_self) | (rw [mup_ne (by assumption), mup_ne (by assumption)]; assumption)) rfl in_X6 7 (by decide) wf_X6_50 rfl rfl dX6_intervals_1 ?_
  refine zi_getf (C := RX3) (T := TX3) (N := 4) (ci := 7) X (by first | assumption | exact mup_self | (rw [mup_ne (by assumption)]; assumption) | (rw [mup_ne (by assumption)]; exact mup_self) | (rw [mup_ne (by assumption), mup_ne (by assumption)]; assumption)) rfl in_X3 1 (by decide) wf_X6_182 rfl rfl dX6_intervals_4 ?_
  refine zi_callVi X (al_size l D hs) kc_Jx4a65c_size_8abf5 wm_X6_186 hs.1 rfl wim_Jx4a65c_size_8abf5 wse_Jx4a65c_size_8abf5 ⟨Nat.le_of_ble_eq_true rfl, Nat.le_of_ble_eq_true rfl⟩ rfl rfl (Nat.le_of_ble_eq_true rfl) ⟨Nat.le_of_ble_eq_true rfl, Nat.le_of_ble_eq_true rfl⟩ dX6_intervals_7 (fun y g e1 => ?_)
  obtain ⟨rfl, rfl⟩ := e1
  refine zi_ireturn X Vz dX6_intervals_10 ?_
  exact ⟨rfl, rfl⟩
theorem x_rootsIn (hl : l.stackTraces = false) (hA : aOk (Sl, n, V, src)) (hw : isW cA D S (x, sl, rw, is, lst, sa) h (Sl, n, V, src)) {a : Int32} :
    mCx l yX6_rootsIn cX6_rootsIn 2 (some .int) (rmc 7 1 6) D (mT cA) [.ref x, .int a] h (mFi h (fun r h1 => h1 = h ∧ ∃ i, i < n ∧ a = nI i ∧ r = iI (V i).2.2.2)) (fun E h1 => h1 = h ∧ E = eI ∧ ¬ inR a n) := by
  obtain ⟨T, P, G, Ln, hw⟩ := hw
  have hx := hw.2.2.1.1
  have hn : n ≤ 1035 := hA.1
  refine mEnter_x (by decide) (Nat.le_of_ble_eq_true rfl) rfl (fun z X Vz => ?_)
  refine zi_aload_n X dX6_rootsIn_0 rfl rfl ?_
  refine zi_iload_n X dX6_rootsIn_1 rfl rfl ?_
  refine zi_xcallVv X (x_requireInterval hl hx hw.2.1 (by omega)) kc_X6_requireInterval wm_X6_191 hx rfl wim_X6_requireInterval wse_X6_requireInterval ⟨Nat.le_of_ble_eq_true rfl, Nat.le_of_ble_eq_true rfl⟩ rfl rfl (Nat.le_of_ble_eq_true rfl) ⟨Nat.le_of_ble_eq_true rfl, Nat.le_of_ble_eq_true rfl⟩ dX6_rootsIn_2 (fun E g e1 => zt_out X Vz (by obtain ⟨e1, e2, e3⟩ := e1; exact ⟨e2, e1, e3⟩) (by decide) (by decide)) (fun g e1 => ?_)
  obtain ⟨rfl, i, hi, rfl⟩ := e1
  obtain ⟨r, e, cap, mc, f, hs, hf, hr, -⟩ := iso_at hw.2.1 hi
  have i0 := hw.2.1.1
  have hx := hw.2.2.1.1
  refine zi_aload_n X dX6_rootsIn_5 rfl rfl ?_
  refine zi_getf (C := RX6) (T := TX6) (N := 8) (ci := 10) X (by first | assumption | exact mup_self | (rw [mup_ne (by assumption)]; assumption) | (rw [mup_ne (by assumption)]; exact mup_self) | (rw [mup_ne (by assumption), mup_ne (by assumption)]; assumption)) rfl in_X6 7 (by decide) wf_X6_50 rfl rfl dX6_rootsIn_6 ?_
  refine zi_getf (C := RX3) (T := TX3) (N := 4) (ci := 7) X (by first | assumption | exact mup_self | (rw [mup_ne (by assumption)]; assumption) | (rw [mup_ne (by assumption)]; exact mup_self) | (rw [mup_ne (by assumption), mup_ne (by assumption)]; assumption)) rfl in_X3 1 (by decide) wf_X6_182 rfl rfl dX6_rootsIn_9 ?_
  refine zi_iload_n X dX6_rootsIn_12 rfl rfl ?_
  refine zi_callVr X (al_get l D hs hi hf) kc_Jx4a65c_get_915e3 wm_X6_194 hs.1 rfl wim_Jx4a65c_get_915e3 wse_Jx4a65c_get_915e3 ⟨Nat.le_of_ble_eq_true rfl, Nat.le_of_ble_eq_true rfl⟩ rfl rfl (Nat.le_of_ble_eq_true rfl) ⟨Nat.le_of_ble_eq_true rfl, Nat.le_of_ble_eq_true rfl⟩ dX6_rootsIn_13 (fun y g1 e1 => ?_)
  obtain ⟨rfl, rfl⟩ := e1
  refine zi_cast (C := RX2) (T := TX2) (N := 4) (ci := 6) X wc_X6_198 (by first | assumption | exact mup_self | (rw [mup_ne (by assumption)]; assumption) | (rw [mup_ne (by assumption)]; exact mup_self) | (rw [mup_ne (by assumption), mup_ne (by assumption)]; assumption)) rfl dX6_rootsIn_16 ?_
  refine zi_getf (C := RX2) (T := TX2) (N := 4) (ci := 6) X (by first | assumption | exact mup_self | (rw [mup_ne (by assumption)]; assumption) | (rw [mup_ne (by assumption)]; exact mup_self) | (rw [mup_ne (by assumption), mup_ne (by assumption)]; assumption)) rfl in_X2 3 (by decide) wf_X6_200 rfl rfl dX6_rootsIn_19 ?_
  refine zi_xireturn X Vz dX6_rootsIn_22 ?_
  exact ⟨rfl, i, hi, rfl, rfl⟩
theorem x_interval (hl : l.stackTraces = false) (hA : aOk (Sl, n, V, src)) (hw : isW cA D S (x, sl, rw, is, lst, sa) h (Sl, n, V, src)) {a c : Int32} :
    mCx l yX6_interval cX6_interval 4 (some .int) (rmc 7 2 12) D (mT cA) [.ref x, .int a, .int c] h (mFi h (fun r h1 => h1 = h ∧ ∃ i, i < n ∧ a = nI i ∧ (c = 100 ∧ r = nI (V i).1 ∨ c = 109 ∧ r = iI (V i).2.1 ∨ c = 110 ∧ r = iI (V i).2.2.1))) (fun E h1 => h1 = h ∧ (E = eI ∧ ¬ inR a n ∨ E = eA ∧ inR a n ∧ c ≠ 100 ∧ c ≠ 109 ∧ c ≠ 110)) := by
  obtain ⟨T, P, G, Ln, hw⟩ := hw
  have hx := hw.2.2.1.1
  have hn : n ≤ 1035 := hA.1
  have d1 : nI 100 = 100 := rfl
  have d2 : nI 109 = 109 := rfl
  have d3 : nI 110 = 110 := rfl
  refine mEnter_x (by decide) (Nat.le_of_ble_eq_true rfl) rfl (fun z X Vz => ?_)
  refine zi_aload_n X dX6_interval_0 rfl rfl ?_
  refine zi_iload_n X dX6_interval_1 rfl rfl ?_
  refine zi_xcallVv X (x_requireInterval hl hx hw.2.1 (by omega)) kc_X6_requireInterval wm_X6_191 hx rfl wim_X6_requireInterval wse_X6_requireInterval ⟨Nat.le_of_ble_eq_true rfl, Nat.le_of_ble_eq_true rfl⟩ rfl rfl (Nat.le_of_ble_eq_true rfl) ⟨Nat.le_of_ble_eq_true rfl, Nat.le_of_ble_eq_true rfl⟩ dX6_interval_2 (fun E g e1 => zt_out X Vz (by obtain ⟨e1, e2, e3⟩ := e1; exact ⟨e2, Or.inl ⟨e1, e3⟩⟩) (by decide) (by decide)) (fun g e1 => ?_)
  obtain ⟨rfl, i, hi, rfl⟩ := e1
  obtain ⟨r, e, cap, mc, f, hs, hf, hr, -⟩ := iso_at hw.2.1 hi
  have i0 := hw.2.1.1
  have hx := hw.2.2.1.1
  refine zi_aload_n X dX6_interval_5 rfl rfl ?_
  refine zi_getf (C := RX6) (T := TX6) (N := 8) (ci := 10) X (by first | assumption | exact mup_self | (rw [mup_ne (by assumption)]; assumption) | (rw [mup_ne (by assumption)]; exact mup_self) | (rw [mup_ne (by assumption), mup_ne (by assumption)]; assumption)) rfl in_X6 7 (by decide) wf_X6_50 rfl rfl dX6_interval_6 ?_
  refine zi_getf (C := RX3) (T := TX3) (N := 4) (ci := 7) X (by first | assumption | exact mup_self | (rw [mup_ne (by assumption)]; assumption) | (rw [mup_ne (by assumption)]; exact mup_self) | (rw [mup_ne (by assumption), mup_ne (by assumption)]; assumption)) rfl in_X3 1 (by decide) wf_X6_182 rfl rfl dX6_interval_9 ?_
  refine zi_iload_n X dX6_interval_12 rfl rfl ?_
  refine zi_callVr X (al_get l D hs hi hf) kc_Jx4a65c_get_915e3 wm_X6_194 hs.1 rfl wim_Jx4a65c_get_915e3 wse_Jx4a65c_get_915e3 ⟨Nat.le_of_ble_eq_true rfl, Nat.le_of_ble_eq_true rfl⟩ rfl rfl (Nat.le_of_ble_eq_true rfl) ⟨Nat.le_of_ble_eq_true rfl, Nat.le_of_ble_eq_true rfl⟩ dX6_interval_13 (fun y g1 e1 => ?_)
  obtain ⟨rfl, rfl⟩ := e1
  refine zi_cast (C := RX2) (T := TX2) (N := 4) (ci := 6) X wc_X6_198 (by first | assumption | exact mup_self | (rw [mup_ne (by assumption)]; assumption) | (rw [mup_ne (by assumption)]; exact mup_self) | (rw [mup_ne (by assumption), mup_ne (by assumption)]; assumption)) rfl dX6_interval_16 ?_
  refine zi_astore_n X dX6_interval_19 rfl (by decide) ?_
  refine zi_iload_n X dX6_interval_20 rfl rfl ?_
  refine zi_bipush (v := (nI 100)) X dX6_interval_21 (by decide) ?_
  by_cases c1 : c = nI 100
  · refine zi_icmp_eq (tgt := 48) X dX6_interval_23 (by decide) (fun c_23 => ?_) (fun c_23 => (by first | exact absurd c1 c_23 | exact absurd c_23 c1))
    refine zi_widen (k := 2) (n := 12) (by decide) (by decide) ?_
    have c1' : ¬ ¬ c = nI 100 := fun w => w c1
    refine zi_iload_n X dX6_interval_48 rfl rfl ?_
    refine zi_bipush (v := (nI 100)) X dX6_interval_49 (by decide) ?_
    refine zi_icmp_ne (tgt := 61) X dX6_interval_51 (by decide) (fun c_51 => (by first | exact absurd c1' c_51 | exact absurd c_51 c1')) (fun c_51 => ?_)
    refine zi_aload_n X dX6_interval_54 rfl rfl ?_
    refine zi_getf (C := RX2) (T := TX2) (N := 4) (ci := 6) X (by first | assumption | exact mup_self | (rw [mup_ne (by assumption)]; assumption) | (rw [mup_ne (by assumption)]; exact mup_self) | (rw [mup_ne (by assumption), mup_ne (by assumption)]; assumption)) rfl in_X2 0 (by decide) wf_X6_205 rfl rfl dX6_interval_55 ?_
    refine zi_goto (tgt := 78) X dX6_interval_58 (by decide) ?_
    refine zi_xireturn X Vz dX6_interval_78 ?_
    exact ⟨rfl, i, hi, rfl, Or.inl ⟨c1.trans d1, rfl⟩⟩
  · refine zi_icmp_eq (tgt := 48) X dX6_interval_23 (by decide) (fun c_23 => (by first | exact absurd c1 c_23 | exact absurd c_23 c1)) (fun c_23 => ?_)
    refine zi_iload_n X dX6_interval_26 rfl rfl ?_
    refine zi_bipush (v := (nI 109)) X dX6_interval_27 (by decide) ?_
    by_cases c2 : c = nI 109
    · refine zi_icmp_eq (tgt := 48) X dX6_interval_29 (by decide) (fun c_29 => ?_) (fun c_29 => (by first | exact absurd c2 c_29 | exact absurd c_29 c2))
      refine zi_widen (k := 2) (n := 12) (by decide) (by decide) ?_
      have c2' : ¬ ¬ c = nI 109 := fun w => w c2
      refine zi_iload_n X dX6_interval_48 rfl rfl ?_
      refine zi_bipush (v := (nI 100)) X dX6_interval_49 (by decide) ?_
      refine zi_icmp_ne (tgt := 61) X dX6_interval_51 (by decide) (fun c_51 => ?_) (fun c_51 => (by first | exact absurd c1 c_51 | exact absurd c_51 c1))
      refine zi_iload_n X dX6_interval_61 rfl rfl ?_
      refine zi_bipush (v := (nI 109)) X dX6_interval_62 (by decide) ?_
      refine zi_icmp_ne (tgt := 74) X dX6_interval_64 (by decide) (fun c_64 => (by first | exact absurd c2' c_64 | exact absurd c_64 c2')) (fun c_64 => ?_)
      refine zi_aload_n X dX6_interval_67 rfl rfl ?_
      refine zi_getf (C := RX2) (T := TX2) (N := 4) (ci := 6) X (by first | assumption | exact mup_self | (rw [mup_ne (by assumption)]; assumption) | (rw [mup_ne (by assumption)]; exact mup_self) | (rw [mup_ne (by assumption), mup_ne (by assumption)]; assumption)) rfl in_X2 1 (by decide) wf_X6_208 rfl rfl dX6_interval_68 ?_
      refine zi_goto (tgt := 78) X dX6_interval_71 (by decide) ?_
      refine zi_xireturn X Vz dX6_interval_78 ?_
      exact ⟨rfl, i, hi, rfl, Or.inr (Or.inl ⟨c2.trans d2, rfl⟩)⟩
    · refine zi_icmp_eq (tgt := 48) X dX6_interval_29 (by decide) (fun c_29 => (by first | exact absurd c2 c_29 | exact absurd c_29 c2)) (fun c_29 => ?_)
      refine zi_iload_n X dX6_interval_32 rfl rfl ?_
      refine zi_bipush (v := (nI 110)) X dX6_interval_33 (by decide) ?_
      by_cases c3 : c = nI 110
      · refine zi_icmp_eq (tgt := 48) X dX6_interval_35 (by decide) (fun c_35 => ?_) (fun c_35 => (by first | exact absurd c3 c_35 | exact absurd c_35 c3))
        refine zi_widen (k := 2) (n := 12) (by decide) (by decide) ?_
        refine zi_iload_n X dX6_interval_48 rfl rfl ?_
        refine zi_bipush (v := (nI 100)) X dX6_interval_49 (by decide) ?_
        refine zi_icmp_ne (tgt := 61) X dX6_interval_51 (by decide) (fun c_51 => ?_) (fun c_51 => (by first | exact absurd c1 c_51 | exact absurd c_51 c1))
        refine zi_iload_n X dX6_interval_61 rfl rfl ?_
        refine zi_bipush (v := (nI 109)) X dX6_interval_62 (by decide) ?_
        refine zi_icmp_ne (tgt := 74) X dX6_interval_64 (by decide) (fun c_64 => ?_) (fun c_64 => (by first | exact absurd c2 c_64 | exact absurd c_64 c2))
        refine zi_aload_n X dX6_interval_74 rfl rfl ?_
        refine zi_getf (C := RX2) (T := TX2) (N := 4) (ci := 6) X (by first | assumption | exact mup_self | (rw [mup_ne (by assumption)]; assumption) | (rw [mup_ne (by assumption)]; exact mup_self) | (rw [mup_ne (by assumption), mup_ne (by assumption)]; assumption)) rfl in_X2 2 (by decide) wf_X6_211 rfl rfl dX6_interval_75 ?_
        refine zi_xireturn X Vz dX6_interval_78 ?_
        exact ⟨rfl, i, hi, rfl, Or.inr (Or.inr ⟨c3.trans d3, rfl⟩)⟩
      · refine zi_icmp_eq (tgt := 48) X dX6_interval_35 (by decide) (fun c_35 => (by first | exact absurd c3 c_35 | exact absurd c_35 c3)) (fun c_35 => ?_)
        refine zi_throwS hl X Vz xok_X6_65 xs_X6_203 dX6_interval_38 dX6_interval_41 dX6_interval_42 dX6_interval_44 dX6_interval_47 (Nat.le_of_ble_eq_true rfl) (Nat.le_of_ble_eq_true rfl) (Nat.le_of_ble_eq_true rfl) (Nat.le_of_ble_eq_true rfl) (Nat.le_of_ble_eq_true rfl) (Nat.le_of_ble_eq_true rfl) ⟨rfl, Or.inr ⟨rfl, rd_nI hi, fun w => c1 (w.trans d1.symm), fun w => c2 (w.trans d2.symm), fun w => c3 (w.trans d3.symm)⟩⟩
theorem x_removeEmpty (hA : aOk (Sl, n, V, src)) (hw : isW cA D S (x, sl, rw, is, lst, sa) h (Sl, n, V, src)) :
    mCi l yX6_removeEmpty cX6_removeEmpty 1 .int (rmd 5) D (mT cA) [.ref x] h (fun r h1 => r = nI (n - (drpV n n V).1) ∧ isW cA D S (x, sl, rw, is, lst, sa) h1 (Sl, (drpV n n V).1, (drpV n n V).2, src)) := by
  obtain ⟨T, P, G, Ln, hw⟩ := hw
  have hx := hw.2.2.1.1
  have i0 := hw.2.1.1
  refine mEnter_i (by decide) (Nat.le_of_ble_eq_true rfl) rfl (fun z X Vz => ?_)
  refine zi_aload_n X dX6_removeEmpty_0 rfl rfl ?_
  refine zi_getf (C := RX6) (T := TX6) (N := 8) (ci := 10) X (by first | assumption | exact mup_self | (rw [mup_ne (by assumption)]; assumption) | (rw [mup_ne (by assumption)]; exact mup_self) | (rw [mup_ne (by assumption), mup_ne (by assumption)]; assumption)) rfl in_X6 7 (by decide) wf_X6_50 rfl rfl dX6_removeEmpty_1 ?_
  refine zi_callVi X (iso_drop l D hw.1 hw.2.1 (by have : n ≤ 1035 := hA.1; omega) (fun i hi => (by have : (V i).2.2.2.natAbs < 1000000 := (hA.2.2 i hi).2.2.2; omega))) kc_X3_dropEmpty wm_X6_231 i0 rfl wim_X3_dropEmpty wse_X3_dropEmpty ⟨Nat.le_of_ble_eq_true rfl, Nat.le_of_ble_eq_true rfl⟩ rfl rfl (Nat.le_of_ble_eq_true rfl) ⟨Nat.le_of_ble_eq_true rfl, Nat.le_of_ble_eq_true rfl⟩ dX6_removeEmpty_4 (fun y g e1 => ?_)
  obtain ⟨rfl, h1, I1, fr1⟩ := e1
  refine zi_ireturn X Vz dX6_removeEmpty_7 ?_
  refine ⟨rfl, T, P, G, Ln, h1, I1, own_fr hw.2.2.1 fr1, fun w => ?_, hw.2.2.2.2⟩
  exact hw.2.2.2.1 (fun w2 => w (by have := drpV_le n n V (Nat.le_refl _); omega))
theorem x_bisect (hl : l.stackTraces = false) (hz : SzAll) (hA : aOk (Sl, n, V, src)) (hw : isW cA D S (x, sl, rw, is, lst, sa) h (Sl, n, V, src)) {a : Int32} :
    mCx l yX6_bisect cX6_bisect 3 (some .int) (rmc 9 6 5020) D (mT cA) [.ref x, .int a] h (mFi h (fun r h1 => ∃ i, i < n ∧ a = nI i ∧ (V i).2.1 ≠ (V i).2.2.1 ∧ (V i).1 < 12 ∧ r = nI (splN (sqfP src) (V i) n) ∧ isW cA D S (x, sl, rw, is, lst, sa) h1 (Sl, splN (sqfP src) (V i) n, splV (sqfP src) (V i) V i, src)))
      (fun E h1 => h1 = h ∧ (E = eI ∧ ¬ inR a n ∨ E = eS ∧ ∃ i, i < n ∧ a = nI i ∧ ¬ ((V i).2.1 ≠ (V i).2.2.1 ∧ (V i).1 < 12))) := by
  obtain ⟨T, P, G, Ln, hw⟩ := hw
  have hx := hw.2.2.1.1
  have hn : n ≤ 1035 := hA.1
  refine mEnter_x (by decide) (Nat.le_of_ble_eq_true rfl) rfl (fun z X Vz => ?_)
  refine zi_aload_n X dX6_bisect_0 rfl rfl ?_
  refine zi_iload_n X dX6_bisect_1 rfl rfl ?_
  refine zi_xcallVv X (x_requireInterval hl hx hw.2.1 (by omega)) kc_X6_requireInterval wm_X6_191 hx rfl wim_X6_requireInterval wse_X6_requireInterval ⟨Nat.le_of_ble_eq_true rfl, Nat.le_of_ble_eq_true rfl⟩ rfl rfl (Nat.le_of_ble_eq_true rfl) ⟨Nat.le_of_ble_eq_true rfl, Nat.le_of_ble_eq_true rfl⟩ dX6_bisect_2 (fun E g e1 => zt_out X Vz (by obtain ⟨e1, e2, e3⟩ := e1; exact ⟨e2, Or.inl ⟨e1, e3⟩⟩) (by decide) (by decide)) (fun g e1 => ?_)
  obtain ⟨rfl, i, hi, rfl⟩ := e1
  obtain ⟨r, e, cap, mc, f, hs, hf, hr, -⟩ := iso_at hw.2.1 hi
  have i0 := hw.2.1.1
  have hx := hw.2.2.1.1
  have hv : ivOk (V i) := hA.2.2 i hi
  have hvb := iv_b hv
  have hn0 : n ≠ 0 := by omega
  obtain ⟨hsb, hs0⟩ := hA.2.1 hn0
  have ok := (hz.1 _ hsb hs0).2.1
  have sq := (hw.2.2.2.1 hn0).2.2
  refine zi_aload_n X dX6_bisect_5 rfl rfl ?_
  refine zi_getf (C := RX6) (T := TX6) (N := 8) (ci := 10) X (by first | assumption | exact mup_self | (rw [mup_ne (by assumption)]; assumption) | (rw [mup_ne (by assumption)]; exact mup_self) | (rw [mup_ne (by assumption), mup_ne (by assumption)]; assumption)) rfl in_X6 7 (by decide) wf_X6_50 rfl rfl dX6_bisect_6 ?_
  refine zi_getf (C := RX3) (T := TX3) (N := 4) (ci := 7) X (by first | assumption | exact mup_self | (rw [mup_ne (by assumption)]; assumption) | (rw [mup_ne (by assumption)]; exact mup_self) | (rw [mup_ne (by assumption), mup_ne (by assumption)]; assumption)) rfl in_X3 1 (by decide) wf_X6_182 rfl rfl dX6_bisect_9 ?_
  refine zi_iload_n X dX6_bisect_12 rfl rfl ?_
  refine zi_callVr X (al_get l D hs hi hf) kc_Jx4a65c_get_915e3 wm_X6_194 hs.1 rfl wim_Jx4a65c_get_915e3 wse_Jx4a65c_get_915e3 ⟨Nat.le_of_ble_eq_true rfl, Nat.le_of_ble_eq_true rfl⟩ rfl rfl (Nat.le_of_ble_eq_true rfl) ⟨Nat.le_of_ble_eq_true rfl, Nat.le_of_ble_eq_true rfl⟩ dX6_bisect_13 (fun y g1 e1 => ?_)
  obtain ⟨rfl, rfl⟩ := e1
  refine zi_cast (C := RX2) (T := TX2) (N := 4) (ci := 6) X wc_X6_198 (by first | assumption | exact mup_self | (rw [mup_ne (by assumption)]; assumption) | (rw [mup_ne (by assumption)]; exact mup_self) | (rw [mup_ne (by assumption), mup_ne (by assumption)]; assumption)) rfl dX6_bisect_16 ?_
  refine zi_astore_n X dX6_bisect_19 rfl (by decide) ?_
  refine zi_aload_n X dX6_bisect_20 rfl rfl ?_
  refine zi_callVi X (i_isPoint l D cA hr) kc_X2_isPoint wm_X6_214 hr rfl wim_X2_isPoint wse_X2_isPoint ⟨Nat.le_of_ble_eq_true rfl, Nat.le_of_ble_eq_true rfl⟩ rfl rfl (Nat.le_of_ble_eq_true rfl) ⟨Nat.le_of_ble_eq_true rfl, Nat.le_of_ble_eq_true rfl⟩ dX6_bisect_21 (fun y2 g2 e1 => ?_)
  obtain ⟨rfl, rfl⟩ := e1
  by_cases c : (V i).2.1 = (V i).2.2.1
  · have c24 : ¬ (if iI (V i).2.1 = iI (V i).2.2.1 then nI 1 else nI 0) = 0 := by rw [if_pos (by rw [c])]; decide
    refine zi_if_ne (tgt := 36) X dX6_bisect_24 (by decide) (fun c_24 => ?_) (fun c_24 => (by first | exact absurd c24 c_24 | exact absurd c_24 c24))
    refine zi_throwS hl X Vz xok_X6_86 xs_X6_218 dX6_bisect_36 dX6_bisect_39 dX6_bisect_40 dX6_bisect_42 dX6_bisect_45 (Nat.le_of_ble_eq_true rfl) (Nat.le_of_ble_eq_true rfl) (Nat.le_of_ble_eq_true rfl) (Nat.le_of_ble_eq_true rfl) (Nat.le_of_ble_eq_true rfl) (Nat.le_of_ble_eq_true rfl) ⟨rfl, Or.inr ⟨rfl, i, hi, rfl, fun w => w.1 c⟩⟩
  · have c24 : (if iI (V i).2.1 = iI (V i).2.2.1 then nI 1 else nI 0) = 0 := by rw [if_neg (fun w => c (iI_inj (by omega) (by omega) w))]; rfl
    refine zi_if_ne (tgt := 36) X dX6_bisect_24 (by decide) (fun c_24 => (by first | exact absurd c24 c_24 | exact absurd c_24 c24)) (fun c_24 => ?_)
    refine zi_aload_n X dX6_bisect_27 rfl rfl ?_
    refine zi_getf (C := RX2) (T := TX2) (N := 4) (ci := 6) X (by first | assumption | exact mup_self | (rw [mup_ne (by assumption)]; assumption) | (rw [mup_ne (by assumption)]; exact mup_self) | (rw [mup_ne (by assumption), mup_ne (by assumption)]; assumption)) rfl in_X2 0 (by decide) wf_X6_205 rfl rfl dX6_bisect_28 ?_
    refine zi_bipush (v := (nI 12)) X dX6_bisect_31 (by decide) ?_
    have hk := hv.1
    by_cases c2 : (V i).1 < 12
    · have c33 : nI (V i).1 < nI 12 := (nI_ltI (by omega) (by decide)).mpr c2
      refine zi_icmp_lt (tgt := 46) X dX6_bisect_33 (by decide) (fun c_33 => ?_) (fun c_33 => (by first | exact absurd c33 c_33 | exact absurd c_33 c33))
      refine zi_aload_n X dX6_bisect_46 rfl rfl ?_
      refine zi_getf (C := RX6) (T := TX6) (N := 8) (ci := 10) X (by first | assumption | exact mup_self | (rw [mup_ne (by assumption)]; assumption) | (rw [mup_ne (by assumption)]; exact mup_self) | (rw [mup_ne (by assumption), mup_ne (by assumption)]; assumption)) rfl in_X6 7 (by decide) wf_X6_50 rfl rfl dX6_bisect_47 ?_
      refine zi_iload_n X dX6_bisect_50 rfl rfl ?_
      refine zi_callVv X (iso_split l D hw.1 hw.2.1 (by omega) hi sq ok.2.2.2.2.1 (stM_pos sq.1 ok.2.2.2.2.2.2.2.2) (k := (V i).1) (lo := (V i).2.1) (hi' := (V i).2.2.1) (rt := (V i).2.2.2) rfl (by omega) (by omega) (by omega)) kc_X3_split wm_X6_220 i0 rfl wim_X3_split wse_X3_split ⟨Nat.le_of_ble_eq_true rfl, Nat.le_of_ble_eq_true rfl⟩ rfl rfl (Nat.le_of_ble_eq_true rfl) ⟨Nat.le_of_ble_eq_true rfl, Nat.le_of_ble_eq_true rfl⟩ dX6_bisect_51 (fun g3 e1 => ?_)
      obtain ⟨T1, h1, I1, fr1⟩ := e1
      have i1 := I1.1
      have o1 := own_fr hw.2.2.1 fr1
      have hx1 := o1.1
      obtain ⟨e9, cap9, mc9, f9, hs9⟩ := iso_lsize I1
      refine zi_aload_n X dX6_bisect_54 rfl rfl ?_
      refine zi_getf (C := RX6) (T := TX6) (N := 8) (ci := 10) X (by first | assumption | exact mup_self | (rw [mup_ne (by assumption)]; assumption) | (rw [mup_ne (by assumption)]; exact mup_self) | (rw [mup_ne (by assumption), mup_ne (by assumption)]; assumption)) rfl in_X6 7 (by decide) wf_X6_50 rfl rfl dX6_bisect_55 ?_
      refine zi_getf (C := RX3) (T := TX3) (N := 4) (ci := 7) X (by first | assumption | exact mup_self | (rw [mup_ne (by assumption)]; assumption) | (rw [mup_ne (by assumption)]; exact mup_self) | (rw [mup_ne (by assumption), mup_ne (by assumption)]; assumption)) rfl in_X3 1 (by decide) wf_X6_182 rfl rfl dX6_bisect_58 ?_
      refine zi_callVi X (al_size l D hs9) kc_Jx4a65c_size_8abf5 wm_X6_186 hs9.1 rfl wim_Jx4a65c_size_8abf5 wse_Jx4a65c_size_8abf5 ⟨Nat.le_of_ble_eq_true rfl, Nat.le_of_ble_eq_true rfl⟩ rfl rfl (Nat.le_of_ble_eq_true rfl) ⟨Nat.le_of_ble_eq_true rfl, Nat.le_of_ble_eq_true rfl⟩ dX6_bisect_61 (fun y3 g4 e1 => ?_)
      obtain ⟨rfl, rfl⟩ := e1
      refine zi_widen (k := 6) (n := 5020) (by decide) (by decide) ?_
      refine zi_xireturn X Vz dX6_bisect_64 ?_
      exact ⟨i, hi, rfl, c, c2, rfl, T1, P, G, Ln, h1, I1, o1, fun _ => hw.2.2.2.1 hn0, hw.2.2.2.2⟩
    · have c33 : ¬ nI (V i).1 < nI 12 := fun w => c2 ((nI_ltI (by omega) (by decide)).mp w)
      refine zi_icmp_lt (tgt := 46) X dX6_bisect_33 (by decide) (fun c_33 => (by first | exact absurd c33 c_33 | exact absurd c_33 c33)) (fun c_33 => ?_)
      refine zi_throwS hl X Vz xok_X6_86 xs_X6_218 dX6_bisect_36 dX6_bisect_39 dX6_bisect_40 dX6_bisect_42 dX6_bisect_45 (Nat.le_of_ble_eq_true rfl) (Nat.le_of_ble_eq_true rfl) (Nat.le_of_ble_eq_true rfl) (Nat.le_of_ble_eq_true rfl) (Nat.le_of_ble_eq_true rfl) (Nat.le_of_ble_eq_true rfl) ⟨rfl, Or.inr ⟨rfl, i, hi, rfl, fun w => c2 w.2⟩⟩
end X6O
