/-! SturmRoots: refine, checksum -/
/-- the half, or the midpoint, that keeps the one root -/
def nrwI (p : Nat → Int) (k : Nat) (lo hi : Int) : Int × Int := if sgnAt (stE p 0) (lo + hi) (k + 1) = 0 then (lo + hi, lo + hi) else if rIn p (k + 1) (2 * lo) (lo + hi) = 1 then (2 * lo, lo + hi) else (lo + hi, 2 * hi)
def rfn (p : Nat → Int) : Nat → Iv → Iv
  | 0, v => v
  | m + 1, v => if v.2.1 = v.2.2.1 then v else rfn p m (v.1 + 1, (nrwI p v.1 v.2.1 v.2.2.1).1, (nrwI p v.1 v.2.1 v.2.2.1).2, 1)
theorem stC_le {p : Nat → Int} (h : stLen p (stM p)) (n : Int) (k : Nat) : stC p n k ≤ 7 := Nat.le_trans (chg_le _ _) h.1
theorem rIn_b {p : Nat → Int} (h : stLen p (stM p)) (k : Nat) (lo hi : Int) : (rIn p k lo hi).natAbs ≤ 8 := by
  unfold rIn
  have h1 := stC_le h lo k
  have h2 := stC_le h hi k
  split
  · split <;> decide
  · split <;> omega
theorem nrw_b {p : Nat → Int} {k : Nat} {lo hi : Int} {B : Nat} (hlo : lo.natAbs ≤ B) (hhi : hi.natAbs ≤ B) : (nrwI p k lo hi).1.natAbs ≤ 2 * B ∧ (nrwI p k lo hi).2.natAbs ≤ 2 * B := by
  unfold nrwI
  split
  · dsimp only; omega
  · split
    · dsimp only; omega
    · dsimp only; omega
section X6P
variable {cA : Nat → ClassId} {D : va_G} {S : Nat → Nat → Nat} {h : mH} {x sl rw is lst n : Nat} {sa : Nat → Nat} {Sl : Nat → Nat → Int} {V : Nat → Iv} {src : Nat → Int} {l : Launch} {T : Nat → Prop} {P : Nat → Nat → Int} {G Ln : Nat → Nat}
theorem nrw_I {p : Nat → Int} (sq : sqIs 1 p P G Ln) (hpos : 0 < stM p) {k : Nat} {lo hi : Int} (hlo : lo.natAbs ≤ 2 ^ 27) (hhi : hi.natAbs ≤ 2 ^ 27) : nrw P Ln k (iI lo) (iI hi) = (iI (nrwI p k lo hi).1, iI (nrwI p k lo hi).2) := by
  unfold nrw nrwI
  rw [iI_add, iI_mul2, iI_mul2, (sq.2.2 0 hpos).1, iI_int (by omega), sq_I sq hpos (by omega) (by omega)]
  by_cases c : sgnAt (stE p 0) (lo + hi) (k + 1) = 0
  · rw [if_pos c, if_pos c]
  · rw [if_neg c, if_neg c]
    by_cases c2 : rIn p (k + 1) (2 * lo) (lo + hi) = 1
    · rw [if_pos (by rw [c2]; rfl), if_pos c2]
    · rw [if_neg (fun w => c2 (iI_inj (by have := rIn_b sq.1 (k + 1) (2 * lo) (lo + hi); omega) (by decide) (w.trans (iI_nat 1)))), if_neg c2]
theorem x_refine (hl : l.stackTraces = false) (hz : SzAll) (hA : aOk (Sl, n, V, src)) (hw : isW cA D S (x, sl, rw, is, lst, sa) h (Sl, n, V, src)) {a b : Int32} :
    mCx l yX6_refine cX6_refine 5 (some .int) (rmc 9 3 18) D (mT cA) [.ref x, .int a, .int b] h (mFi h (fun r h1 => ∃ i m, i < n ∧ a = nI i ∧ 1 ≤ m ∧ m ≤ 6 ∧ b = nI m ∧ (V i).2.2.2 = 1 ∧ (V i).2.1 ≠ (V i).2.2.1 ∧ (V i).1 + m ≤ 12 ∧ r = nI (rfn (sqfP src) m (V i)).1 ∧ isW cA D S (x, sl, rw, is, lst, sa) h1 (Sl, n, setV V i (rfn (sqfP src) m (V i)), src)))
      (fun E h1 => h1 = h ∧ (E = eI ∧ ¬ inR a n ∨ E = eA ∧ inR a n ∧ ¬ (1 ≤ b.toInt ∧ b.toInt ≤ 6) ∨ E = eS ∧ ∃ i m, i < n ∧ a = nI i ∧ 1 ≤ m ∧ m ≤ 6 ∧ b = nI m ∧ ¬ ((V i).2.2.2 = 1 ∧ (V i).2.1 ≠ (V i).2.2.1 ∧ (V i).1 + m ≤ 12))) := by
  obtain ⟨T, P, G, Ln, hw⟩ := hw
  have hx := hw.2.2.1.1
  have hn : n ≤ 1035 := hA.1
  have a1 : (nI 1).toInt = 1 := by decide
  have a2 : (nI 6).toInt = 6 := by decide
  refine mEnter_x (by decide) (Nat.le_of_ble_eq_true rfl) rfl (fun z X Vz => ?_)
  refine zi_aload_n X dX6_refine_0 rfl rfl ?_
  refine zi_iload_n X dX6_refine_1 rfl rfl ?_
  refine zi_xcallVv X (x_requireInterval hl hx hw.2.1 (by omega)) kc_X6_requireInterval wm_X6_191 hx rfl wim_X6_requireInterval wse_X6_requireInterval ⟨Nat.le_of_ble_eq_true rfl, Nat.le_of_ble_eq_true rfl⟩ rfl rfl (Nat.le_of_ble_eq_true rfl) ⟨Nat.le_of_ble_eq_true rfl, Nat.le_of_ble_eq_true rfl⟩ dX6_refine_2 (fun E g e1 => zt_out X Vz (by obtain ⟨e1, e2, e3⟩ := e1; exact ⟨e2, Or.inl ⟨e1, e3⟩⟩) (by decide) (by decide)) (fun g e1 => ?_)
  obtain ⟨rfl, i, hi, rfl⟩ := e1
  refine zi_iload_n X dX6_refine_5 rfl rfl ?_
  refine zi_iconst (v := (nI 1)) X dX6_refine_6 (by decide) ?_
  refine zi_icmp_lt (tgt := 16) X dX6_refine_7 (by decide) (fun c_7 => ?_) (fun c_7 => ?_)
  · refine zi_throwS hl X Vz xok_X6_65 xs_X6_223 dX6_refine_16 dX6_refine_19 dX6_refine_20 dX6_refine_22 dX6_refine_25 (Nat.le_of_ble_eq_true rfl) (Nat.le_of_ble_eq_true rfl) (Nat.le_of_ble_eq_true rfl) (Nat.le_of_ble_eq_true rfl) (Nat.le_of_ble_eq_true rfl) (Nat.le_of_ble_eq_true rfl) ⟨rfl, Or.inr (Or.inl ⟨rfl, rd_nI hi, fun q => by have := (fa_lt _ _).mp c_7; rw [a1] at this; omega⟩)⟩
  have b1 := (fa_le _ _).mp (Int32.not_lt.mp c_7)
  rw [a1] at b1
  refine zi_iload_n X dX6_refine_10 rfl rfl ?_
  refine zi_bipush (v := (nI 6)) X dX6_refine_11 (by decide) ?_
  refine zi_icmp_le (tgt := 26) X dX6_refine_13 (by decide) (fun c_13 => ?_) (fun c_13 => ?_)
  rotate_left
  · refine zi_throwS hl X Vz xok_X6_65 xs_X6_223 dX6_refine_16 dX6_refine_19 dX6_refine_20 dX6_refine_22 dX6_refine_25 (Nat.le_of_ble_eq_true rfl) (Nat.le_of_ble_eq_true rfl) (Nat.le_of_ble_eq_true rfl) (Nat.le_of_ble_eq_true rfl) (Nat.le_of_ble_eq_true rfl) (Nat.le_of_ble_eq_true rfl) ⟨rfl, Or.inr (Or.inl ⟨rfl, rd_nI hi, fun q => c_13 ((fa_le _ _).mpr (by rw [a2]; exact q.2))⟩)⟩
  have b2 := (fa_le _ _).mp c_13
  rw [a2] at b2
  obtain ⟨m, hm1, hm6, rfl⟩ : ∃ m, 1 ≤ m ∧ m ≤ 6 ∧ b = nI m := ⟨b.toInt.toNat, by omega, by omega, by
    apply Int32.toInt_inj.mp
    rw [nI_int (by omega)]
    omega⟩
  obtain ⟨r, e, cap, mc, f, hs, hf, hr, ht, hnr, up⟩ := iso_at hw.2.1 hi
  have tI := iso_T hw.2.1
  have i0 := hw.2.1.1
  have hx := hw.2.2.1.1
  have hv : ivOk (V i) := hA.2.2 i hi
  have hvb := iv_b hv
  have hn0 : n ≠ 0 := by omega
  obtain ⟨hsb, hs0⟩ := hA.2.1 hn0
  have ok := (hz.1 _ hsb hs0).2.1
  have sq := (hw.2.2.2.1 hn0).2.2
  have hpos := stM_pos sq.1 ok.2.2.2.2.2.2.2.2
  have oE := sq_ok sq ok.2.2.2.2.1
  have oE0 := oE.2 0 (by rw [sq.2.1]; exact hpos)
  refine zi_aload_n X dX6_refine_26 rfl rfl ?_
  refine zi_getf (C := RX6) (T := TX6) (N := 8) (ci := 10) X (by first | assumption | exact mup_self | (rw [mup_ne (by assumption)]; assumption) | (rw [mup_ne (by assumption)]; exact mup_self) | (rw [mup_ne (by assumption), mup_ne (by assumption)]; assumption)) rfl in_X6 7 (by decide) wf_X6_50 rfl rfl dX6_refine_27 ?_
  refine zi_getf (C := RX3) (T := TX3) (N := 4) (ci := 7) X (by first | assumption | exact mup_self | (rw [mup_ne (by assumption)]; assumption) | (rw [mup_ne (by assumption)]; exact mup_self) | (rw [mup_ne (by assumption), mup_ne (by assumption)]; assumption)) rfl in_X3 1 (by decide) wf_X6_182 rfl rfl dX6_refine_30 ?_
  refine zi_iload_n X dX6_refine_33 rfl rfl ?_
  refine zi_callVr X (al_get l D hs hi hf) kc_Jx4a65c_get_915e3 wm_X6_194 hs.1 rfl wim_Jx4a65c_get_915e3 wse_Jx4a65c_get_915e3 ⟨Nat.le_of_ble_eq_true rfl, Nat.le_of_ble_eq_true rfl⟩ rfl rfl (Nat.le_of_ble_eq_true rfl) ⟨Nat.le_of_ble_eq_true rfl, Nat.le_of_ble_eq_true rfl⟩ dX6_refine_34 (fun y g1 e1 => ?_)
  obtain ⟨rfl, rfl⟩ := e1
  refine zi_cast (C := RX2) (T := TX2) (N := 4) (ci := 6) X wc_X6_198 (by first | assumption | exact mup_self | (rw [mup_ne (by assumption)]; assumption) | (rw [mup_ne (by assumption)]; exact mup_self) | (rw [mup_ne (by assumption), mup_ne (by assumption)]; assumption)) rfl dX6_refine_37 ?_
  refine zi_astore_n X dX6_refine_40 rfl (by decide) ?_
  refine zi_aload_n X dX6_refine_41 rfl rfl ?_
  refine zi_getf (C := RX2) (T := TX2) (N := 4) (ci := 6) X (by first | assumption | exact mup_self | (rw [mup_ne (by assumption)]; assumption) | (rw [mup_ne (by assumption)]; exact mup_self) | (rw [mup_ne (by assumption), mup_ne (by assumption)]; assumption)) rfl in_X2 3 (by decide) wf_X6_200 rfl rfl dX6_refine_42 ?_
  refine zi_iconst (v := (nI 1)) X dX6_refine_45 (by decide) ?_
  have bad : ¬ ((V i).2.2.2 = 1 ∧ (V i).2.1 ≠ (V i).2.2.1 ∧ (V i).1 + m ≤ 12) → zM z (0 + 1) (0 + 6) 67 [some (.ref x), some (.int (nI i)), some (.int (nI m)), some (.ref y), none] [] g1 := fun w => by
    refine zi_throwS hl X Vz xok_X6_86 xs_X6_225 dX6_refine_67 dX6_refine_70 dX6_refine_71 dX6_refine_73 dX6_refine_76 (Nat.le_of_ble_eq_true rfl) (Nat.le_of_ble_eq_true rfl) (Nat.le_of_ble_eq_true rfl) (Nat.le_of_ble_eq_true rfl) (Nat.le_of_ble_eq_true rfl) (Nat.le_of_ble_eq_true rfl) ⟨rfl, Or.inr (Or.inr ⟨rfl, i, m, hi, rfl, hm1, hm6, rfl, w⟩)⟩
  by_cases c1 : (V i).2.2.2 = 1
  rotate_left
  · have c46 : ¬ iI (V i).2.2.2 = nI 1 := fun w => c1 (iI_inj (by have := hv.2.2.2; omega) (by decide) (w.trans (iI_nat 1)))
    refine zi_icmp_ne (tgt := 67) X dX6_refine_46 (by decide) (fun c_46 => ?_) (fun c_46 => (by first | exact absurd c46 c_46 | exact absurd c_46 c46))
    exact bad (fun w => c1 w.1)
  have c46 : ¬ ¬ iI (V i).2.2.2 = nI 1 := fun w => w (by rw [c1]; rfl)
  refine zi_icmp_ne (tgt := 67) X dX6_refine_46 (by decide) (fun c_46 => (by first | exact absurd c46 c_46 | exact absurd c_46 c46)) (fun c_46 => ?_)
  refine zi_aload_n X dX6_refine_49 rfl rfl ?_
  refine zi_callVi X (i_isPoint l D cA hr) kc_X2_isPoint wm_X6_214 hr rfl wim_X2_isPoint wse_X2_isPoint ⟨Nat.le_of_ble_eq_true rfl, Nat.le_of_ble_eq_true rfl⟩ rfl rfl (Nat.le_of_ble_eq_true rfl) ⟨Nat.le_of_ble_eq_true rfl, Nat.le_of_ble_eq_true rfl⟩ dX6_refine_50 (fun y2 g2 e1 => ?_)
  obtain ⟨rfl, rfl⟩ := e1
  by_cases c2 : (V i).2.1 = (V i).2.2.1
  · have c53 : ¬ (if iI (V i).2.1 = iI (V i).2.2.1 then nI 1 else nI 0) = 0 := by rw [if_pos (by rw [c2])]; decide
    refine zi_if_ne (tgt := 67) X dX6_refine_53 (by decide) (fun c_53 => ?_) (fun c_53 => (by first | exact absurd c53 c_53 | exact absurd c_53 c53))
    exact bad (fun w => w.2.1 c2)
  have c53 : (if iI (V i).2.1 = iI (V i).2.2.1 then nI 1 else nI 0) = 0 := by rw [if_neg (fun w => c2 (iI_inj (by omega) (by omega) w))]; rfl
  have hk := hv.1
  refine zi_if_ne (tgt := 67) X dX6_refine_53 (by decide) (fun c_53 => (by first | exact absurd c53 c_53 | exact absurd c_53 c53)) (fun c_53 => ?_)
  refine zi_aload_n X dX6_refine_56 rfl rfl ?_
  refine zi_getf (C := RX2) (T := TX2) (N := 4) (ci := 6) X (by first | assumption | exact mup_self | (rw [mup_ne (by assumption)]; assumption) | (rw [mup_ne (by assumption)]; exact mup_self) | (rw [mup_ne (by assumption), mup_ne (by assumption)]; assumption)) rfl in_X2 0 (by decide) wf_X6_205 rfl rfl dX6_refine_57 ?_
  refine zi_iload_n X dX6_refine_60 rfl rfl ?_
  refine zi_iadd X dX6_refine_61 ?_
  rw [nI_add]
  refine zi_bipush (v := (nI 12)) X dX6_refine_62 (by decide) ?_
  by_cases c3 : (V i).1 + m ≤ 12
  rotate_left
  · have c64 : ¬ nI ((V i).1 + m) ≤ nI 12 := fun w => c3 (by
      have := Int32.not_lt.mpr w
      rw [nI_ltI (by decide) (by omega)] at this
      omega)
    refine zi_icmp_le (tgt := 77) X dX6_refine_64 (by decide) (fun c_64 => (by first | exact absurd c64 c_64 | exact absurd c_64 c64)) (fun c_64 => ?_)
    exact bad (fun w => c3 w.2.2)
  have c64 : nI ((V i).1 + m) ≤ nI 12 := Int32.not_lt.mp (fun w => by rw [nI_ltI (by decide) (by omega)] at w; omega)
  refine zi_icmp_le (tgt := 77) X dX6_refine_64 (by decide) (fun c_64 => ?_) (fun c_64 => (by first | exact absurd c64 c_64 | exact absurd c_64 c64))
  refine zi_iconst (v := (nI 0)) X dX6_refine_77 (by decide) ?_
  refine zi_istore X dX6_refine_78 (by decide) ?_
  have loop : ∀ r t, t + r = m → ∀ (v : Iv) (g : mH), v.1 + r ≤ 12 → v.2.1.natAbs ≤ 16384 * 2 ^ v.1 → v.2.2.1.natAbs ≤ 16384 * 2 ^ v.1 → rfn (sqfP src) r v = rfn (sqfP src) m (V i) → hP cA S P G Ln g → own cA S T g x sl rw is sa Sl → g y = some (ivO v) → (∀ a, T a ∨ a = is → a ≠ y → g a = g2 a) → zM z (0 + 1) (0 + 6) 80 [some (.ref x), some (.int (nI i)), some (.int (nI m)), some (.ref y), some (.int (nI t))] [] g := by
    intro r
    have stop : ∀ t (v : Iv) (g : mH), v = rfn (sqfP src) m (V i) → hP cA S P G Ln g → own cA S T g x sl rw is sa Sl → g y = some (ivO v) → (∀ a, T a ∨ a = is → a ≠ y → g a = g2 a) → zM z (0 + 1) (0 + 6) 107 [some (.ref x), some (.int (nI i)), some (.int (nI m)), some (.ref y), some (.int (nI t))] [] g := by
      intro t v g hv hg ho hy hag
      refine zi_aload_n X dX6_refine_107 rfl rfl ?_
      refine zi_getf (C := RX2) (T := TX2) (N := 4) (ci := 6) X (by first | assumption | exact mup_self | (rw [mup_ne (by assumption)]; assumption) | (rw [mup_ne (by assumption)]; exact mup_self) | (rw [mup_ne (by assumption), mup_ne (by assumption)]; assumption)) rfl in_X2 0 (by decide) wf_X6_205 rfl rfl dX6_refine_108 ?_
      refine zi_widen (k := 3) (n := 18) (by decide) (by decide) ?_
      refine zi_xireturn X Vz dX6_refine_111 ?_
      refine ⟨i, m, hi, rfl, hm1, hm6, rfl, c1, c2, c3, by rw [← hv], T, P, G, Ln, hg, ?_, ho, fun _ => hw.2.2.2.1 hn0, hw.2.2.2.2⟩
      have h9 := up (mup g y (ivO (V i))) (fun a w => by
        by_cases c : a = y
        · rw [c, mup_self]; exact hr.symm
        · rw [mup_ne c]; exact hag a w c) v
      rw [mup_mup, mup_same hy] at h9
      rw [← hv]
      exact h9
    induction r with
    | zero =>
      intro t htm v g k1 k2 k3 k4 hg ho hy hag
      have : t = m := by omega
      subst this
      have c83 : nI t ≤ nI t := Int32.le_refl _
      refine zi_iload X dX6_refine_80 rfl ?_
      refine zi_iload_n X dX6_refine_82 rfl rfl ?_
      refine zi_icmp_ge (tgt := 107) X dX6_refine_83 (by decide) (fun c_83 => ?_) (fun c_83 => (by first | exact absurd c83 c_83 | exact absurd c_83 c83))
      exact stop t v g k4 hg ho hy hag
    | succ r ih =>
      intro t htm v g k1 k2 k3 k4 hg ho hy hag
      have c83 : ¬ nI m ≤ nI t := Int32.not_le.mpr ((nI_ltI (by omega) (by omega)).mpr (by omega))
      have hp2 : 2 ^ v.1 ≤ 2 ^ 12 := Nat.pow_le_pow_right (by decide) (by omega)
      have q1 : 16384 * 2 ^ v.1 ≤ 16384 * 2 ^ 12 := Nat.mul_le_mul (Nat.le_refl _) hp2
      have q2 : 16384 * 2 ^ 12 = 2 ^ 26 := rfl
      have hx2 := ho.1
      refine zi_iload X dX6_refine_80 rfl ?_
      refine zi_iload_n X dX6_refine_82 rfl rfl ?_
      refine zi_icmp_ge (tgt := 107) X dX6_refine_83 (by decide) (fun c_83 => (by first | exact absurd c83 c_83 | exact absurd c_83 c83)) (fun c_83 => ?_)
      refine zi_aload_n X dX6_refine_86 rfl rfl ?_
      refine zi_callVi X (i_isPoint l D cA hy) kc_X2_isPoint wm_X6_214 hy rfl wim_X2_isPoint wse_X2_isPoint ⟨Nat.le_of_ble_eq_true rfl, Nat.le_of_ble_eq_true rfl⟩ rfl rfl (Nat.le_of_ble_eq_true rfl) ⟨Nat.le_of_ble_eq_true rfl, Nat.le_of_ble_eq_true rfl⟩ dX6_refine_87 (fun y2 g3 e1 => ?_)
      obtain ⟨rfl, rfl⟩ := e1
      rw [rfn] at k4
      by_cases c : v.2.1 = v.2.2.1
      · have c90 : ¬ (if iI v.2.1 = iI v.2.2.1 then nI 1 else nI 0) = 0 := by rw [if_pos (by rw [c])]; decide
        rw [if_pos c] at k4
        refine zi_if_ne (tgt := 107) X dX6_refine_90 (by decide) (fun c_90 => ?_) (fun c_90 => (by first | exact absurd c90 c_90 | exact absurd c_90 c90))
        exact stop t v g3 k4 hg ho hy hag
      · have c90 : (if iI v.2.1 = iI v.2.2.1 then nI 1 else nI 0) = 0 := by rw [if_neg (fun w => c (iI_inj (by omega) (by omega) w))]; rfl
        rw [if_neg c] at k4
        have z1 : (nI 2 * iI v.2.1).toInt.natAbs ≤ 2 ^ 29 := by rw [iI_mul2, iI_int (by omega)]; omega
        have z2 : (iI v.2.1 + iI v.2.2.1).toInt.natAbs ≤ 2 ^ 29 := by rw [iI_add, iI_int (by omega)]; omega
        have yis : is ≠ y := fun w => by rw [← w, i0] at hr; cases hr
        have i3 : g3 is = some (isoO S lst) := by rw [hag is (Or.inr rfl) yis]; exact i0
        refine zi_if_ne (tgt := 107) X dX6_refine_90 (by decide) (fun c_90 => (by first | exact absurd c90 c_90 | exact absurd c_90 c90)) (fun c_90 => ?_)
        refine zi_aload_n X dX6_refine_93 rfl rfl ?_
        refine zi_getf (C := RX6) (T := TX6) (N := 8) (ci := 10) X (by first | assumption | exact mup_self | (rw [mup_ne (by assumption)]; assumption) | (rw [mup_ne (by assumption)]; exact mup_self) | (rw [mup_ne (by assumption), mup_ne (by assumption)]; assumption)) rfl in_X6 7 (by decide) wf_X6_50 rfl rfl dX6_refine_94 ?_
        refine zi_aload_n X dX6_refine_97 rfl rfl ?_
        refine zi_callVv X (iso_narrow l D hg (k := v.1) (M := MS) (X := 2 ^ 29) i3 hy oE oE0.1 oE0.2 z1 z2 (by omega) (two_X (by omega)) X_BB MS_X) kc_X3_narrow wm_X6_227 i3 rfl wim_X3_narrow wse_X3_narrow ⟨Nat.le_of_ble_eq_true rfl, Nat.le_of_ble_eq_true rfl⟩ rfl rfl (Nat.le_of_ble_eq_true rfl) ⟨Nat.le_of_ble_eq_true rfl, Nat.le_of_ble_eq_true rfl⟩ dX6_refine_98 (fun g4 e1 => ?_)
        obtain ⟨g5, f5, h5, rfl⟩ := e1
        rw [nrw_I sq hpos (by omega) (by omega)]
        have hb9 := nrw_b (p := sqfP src) (k := v.1) k2 k3
        have e2 : 2 * (16384 * 2 ^ v.1) = 16384 * 2 ^ (v.1 + 1) := by rw [Nat.pow_succ]; omega
        rw [e2] at hb9
        have yt := hIn_out hnr
        have hy5 : g5 y = some (ivO v) := by rw [f5 _ yt]; exact hy
        have o5 := own_fr ho (isoFr_tr (isoFr_hfr f5 h5) (isoFr_up (y := ivO (v.1 + 1, (nrwI (sqfP src) v.1 v.2.1 v.2.2.1).1, (nrwI (sqfP src) v.1 v.2.1 v.2.2.1).2, 1)) hy5 ht))
        refine zi_iinc (v := nI (t + 1)) X dX6_refine_101 rfl (nI_inc _) (by decide) ?_
        refine zi_goto (tgt := 80) X dX6_refine_104 (by decide) ?_
        refine ih (t + 1) (by omega) (v.1 + 1, (nrwI (sqfP src) v.1 v.2.1 v.2.2.1).1, (nrwI (sqfP src) v.1 v.2.1 v.2.2.1).2, 1) _ (by show v.1 + 1 + r ≤ 12; omega) hb9.1 hb9.2 k4 (hP_up h5 hnr) o5 mup_self (fun a w wy => ?_)
        rw [mup_ne wy, f5 a (by
          rcases w with w | w
          · exact hIn_out (tI a w)
          · rw [w]; exact hP_out hw.1 i0 (by decide))]
        exact hag a w wy
  exact loop m 0 (Nat.zero_add m) (V i) g2 c3 hv.2.1 hv.2.2.1 rfl hw.1 hw.2.2.1 hr (fun _ _ _ => rfl)
end X6P
