/-! SturmRootsModel: opens, isRoot; the lists beside the world -/
theorem capK_of {cap : Nat} (h : capOk cap) : capK cap := ⟨h.2.1, h.2.2.2⟩
section OP
variable {cA : Nat → ClassId} {M : Nat → Nat → Nat} {h h1 : mH} {o : RO} {Sl : Nat → Nat → Int} {kp : Nat → Int} {caps : Nat → Nat} {f : Nat → Nat → Int32} {P : Nat → Nat → Int} {cap n : Nat} {V : Nat → Iv}
theorem rU_F (hu : rU cA M h o Sl kp cap n V P) : ∃ f, rF cA M h o Sl kp (fun _ => cap) f P ∧ n ≤ cap ∧ ivs f n V := by
  obtain ⟨h0, hx, ⟨f, v1, v2, v3, v4, v5⟩, hd⟩ := hu
  exact ⟨f, ⟨h0, hx, ⟨fun t ht => ⟨v1 t ht, capK_of v4⟩, v2⟩, hd⟩, v3, v5⟩
theorem rF_U (hu : rF cA M h o Sl kp (fun _ => cap) f P) (hn : n ≤ cap) (hv : ivs f n V) : rU cA M h o Sl kp cap n V P := by
  obtain ⟨h0, hx, ⟨v1, v2⟩, hd⟩ := hu
  exact ⟨h0, hx, ⟨f, fun t ht => (v1 t ht).1, v2, hn, capK_ok (v1 0 (by decide)).2, hv⟩, hd⟩
theorem rF_cong (hu : rF cA M h o Sl kp caps f P) {caps' : Nat → Nat} {f' : Nat → Nat → Int32} (e : ∀ t, t < 4 → caps t = caps' t ∧ f t = f' t) : rF cA M h o Sl kp caps' f' P := by
  obtain ⟨h0, hx, ⟨v1, v2⟩, hd⟩ := hu
  exact ⟨h0, hx, ⟨fun t ht => by rw [← (e t ht).1, ← (e t ht).2]; exact v1 t ht, v2⟩, hd⟩
theorem rF_ql (hu : rF cA M h o Sl kp caps f P) {q : Nat} (hq : h q = none) : ∀ s, s < 4 → q ≠ o.2.2.2 s := fun s hs w => by
  rw [w, (hu.2.2.1.1 s hs).1] at hq
  cases hq
theorem u_opens (l : Launch) (D : va_G) (hu : rF cA M h o Sl kp (fun _ => cap) f P) (ho : o.2.2.1 = nI n) (hn : n ≤ cap) {a mo : Nat} (hmo : mo = 1 ∨ mo = 2) (hnm : n + mo ≤ 1100) (ha : a < n) :
    mCv l yX7_opens cX7_opens 4 (rmc 3 4 8192) D (mT cA) [.ref (M 3 0), .int (nI a), .int (nI mo)] h (fun h1 => ∃ cap' f' R', rF cA M h1 (o.1, o.2.1, nI (n + mo), R') Sl kp (fun _ => cap') f' P ∧ n + mo ≤ cap' ∧ ∀ t, t < 4 → (∀ j, j ≤ a → f' t j = f t j) ∧ ∀ j, a < j → j < n → f' t (j + mo) = f t j) := by
  have ck : capK cap := (hu.2.2.1.1 0 (by decide)).2
  have cl : cap ≤ 2048 := ck.1
  have cg : 64 ≤ cap := by
    obtain ⟨_, e, he⟩ := ck
    have := Nat.two_pow_pos e
    omega
  refine mEnter_v (by decide) (Nat.le_of_ble_eq_true rfl) rfl (fun z X Vz => ?_)
  -- the shift
  have s58 : ∀ (g : mH) (o1 : RO) (cap1 : Nat) (f1 : Nat → Nat → Int32), rF cA M g o1 Sl kp (fun _ => cap1) f1 P → o1.1 = o.1 → o1.2.1 = o.2.1 → o1.2.2.1 = nI n → n + mo ≤ cap1 → cap1 ≤ 2048 → (∀ t, t < 4 → ∀ j, j < n → f1 t j = f t j) → zM z 4 8192 58 [some (.ref (M 3 0)), some (.int (nI a)), some (.int (nI mo)), none] [] g := fun g o1 cap1 f1 hu1 e1 e2 e3 hc1 hc2 hf1 => by
    have x1 := hu1.2.1.1
    refine zi_aload_n X dX7_opens_58 rfl rfl ?_
    refine zi_getf (C := RX7) (T := TX7) (N := 27) (ci := 11) X (by first | assumption | exact mup_self | (rw [mup_ne (by assumption)]; assumption) | (rw [mup_ne (by assumption)]; exact mup_self) | (rw [mup_ne (by assumption), mup_ne (by assumption)]; assumption)) rfl in_X7 26 (by decide) wf_X7_285 rfl rfl dX7_opens_59 ?_
    refine zi_iconst (v := (nI 1)) X dX7_opens_62 (by decide) ?_
    refine zi_isub X dX7_opens_63 ?_
    rw [e3]
    rw [show nI n - nI 1 = nI (n - 1) by rw [pk_sub (by omega)]]
    refine zi_istore_n X dX7_opens_64 rfl (by decide) ?_
    suffices key : ∀ w (g2 : mH) (f2 : Nat → Nat → Int32), a + w < n → rF cA M g2 o1 Sl kp (fun _ => cap1) f2 P → (∀ t, t < 4 → (∀ j, j ≤ a + w → f2 t j = f t j) ∧ ∀ j, a + w < j → j < n → f2 t (j + mo) = f t j) → zM z 4 8192 65 [some (.ref (M 3 0)), some (.int (nI a)), some (.int (nI mo)), some (.int (nI (a + w)))] [] g2 from by
      have := key (n - 1 - a) g f1 (by omega) hu1 (fun t ht => ⟨fun j hj => hf1 t ht j (by omega), fun j h1 h2 => by omega⟩)
      rw [show a + (n - 1 - a) = n - 1 by omega] at this
      exact zi_sub (by repeat (first | exact trivial | refine And.intro rfl ?_)) this
    intro w
    induction w with
    | zero =>
      intro g2 f2 hw hu2 hf2
      have y1 := hu2.2.1.1
      refine zi_iload_n X dX7_opens_65 rfl rfl ?_
      refine zi_iload_n X dX7_opens_66 rfl rfl ?_
      refine zi_icmp_le (tgt := 132) X dX7_opens_67 (by decide) (fun c_67 => ?_) (fun c_67 => (by first | exact absurd (Int32.le_refl _) c_67 | exact absurd c_67 (Int32.le_refl _)))
      refine zi_aload_n X dX7_opens_132 rfl rfl ?_
      refine zi_dup X dX7_opens_133 rfl ?_
      refine zi_getf (C := RX7) (T := TX7) (N := 27) (ci := 11) X (by first | assumption | exact mup_self | (rw [mup_ne (by assumption)]; assumption) | (rw [mup_ne (by assumption)]; exact mup_self) | (rw [mup_ne (by assumption), mup_ne (by assumption)]; assumption)) rfl in_X7 26 (by decide) wf_X7_285 rfl rfl dX7_opens_134 ?_
      refine zi_iload_n X dX7_opens_137 rfl rfl ?_
      refine zi_iadd X dX7_opens_138 ?_
      rw [e3, nI_add]
      refine zi_putf (C := RX7) (T := TX7) (N := 27) (ci := 11) (ty0 := tyX7) X (by first | assumption | exact mup_self | (rw [mup_ne (by assumption)]; assumption) | (rw [mup_ne (by assumption)]; exact mup_self) | (rw [mup_ne (by assumption), mup_ne (by assumption)]; assumption)) rfl in_X7 tyX7_ok nmX7 26 (by decide) wf_X7_285 rfl rfl rfl rfl rfl (Nat.le_of_ble_eq_true rfl) dX7_opens_139 ?_
      refine zi_return X Vz dX7_opens_142 ?_
      have hu3 := rF_o hu2 (o.1, o.2.1, nI (n + mo), o1.2.2.2) rfl
      refine ⟨cap1, f2, o1.2.2.2, ?_, hc1, fun t ht => ⟨fun j hj => (hf2 t ht).1 j (by omega), fun j h1 h2 => (hf2 t ht).2 j (by omega) h2⟩⟩
      have e : mO M (o.1, o.2.1, nI (n + mo), o1.2.2.2) = mO M (o1.1, o1.2.1, nI (n + mo), o1.2.2.2) := by rw [e1, e2]
      rw [e] at hu3
      exact hu3
    | succ w ih =>
      intro g2 f2 hw hu2 hf2
      have k31 : a + w + 1 + mo < 2048 := by omega
      have vin1 : vp_in (nI (a + (w + 1))) cap1 := vp_in_nI (by omega) (by omega)
      have vin2 : vp_in (nI (a + (w + 1)) + nI mo) cap1 := by rw [nI_add]; exact vp_in_nI (by omega) (by omega)
      have cl1 : (nI (a + (w + 1))).toNatClampNeg = a + (w + 1) := nI_cl (by omega)
      have cl2 : (nI (a + (w + 1)) + nI mo).toNatClampNeg = a + (w + 1) + mo := by rw [nI_add]; exact nI_cl (by omega)
      have y1 := hu2.2.1.1
      have l0 := (hu2.2.2.1.1 0 (by decide)).1
      refine zi_iload_n X dX7_opens_65 rfl rfl ?_
      refine zi_iload_n X dX7_opens_66 rfl rfl ?_
      refine zi_icmp_le (tgt := 132) X dX7_opens_67 (by decide) (fun c_67 => (by first | exact absurd (by rw [nI_leI (by omega) (by omega)]; omega) c_67 | exact absurd c_67 (by rw [nI_leI (by omega) (by omega)]; omega))) (fun c_67 => ?_)
      refine zi_aload_n X dX7_opens_70 rfl rfl ?_
      refine zi_getf (C := RX7) (T := TX7) (N := 27) (ci := 11) X (by first | assumption | exact mup_self | (rw [mup_ne (by assumption)]; assumption) | (rw [mup_ne (by assumption)]; exact mup_self) | (rw [mup_ne (by assumption), mup_ne (by assumption)]; assumption)) rfl in_X7 22 (by decide) wf_X7_75 rfl rfl dX7_opens_71 ?_
      refine zi_iload_n X dX7_opens_74 rfl rfl ?_
      refine zi_iload_n X dX7_opens_75 rfl rfl ?_
      refine zi_iadd X dX7_opens_76 ?_
      refine zi_aload_n X dX7_opens_77 rfl rfl ?_
      refine zi_getf (C := RX7) (T := TX7) (N := 27) (ci := 11) X (by first | assumption | exact mup_self | (rw [mup_ne (by assumption)]; assumption) | (rw [mup_ne (by assumption)]; exact mup_self) | (rw [mup_ne (by assumption), mup_ne (by assumption)]; assumption)) rfl in_X7 22 (by decide) wf_X7_75 rfl rfl dX7_opens_78 ?_
      refine zi_iload_n X dX7_opens_81 rfl rfl ?_
      refine zi_iald X 0 (by first | assumption | exact mup_self | (rw [mup_ne (by assumption)]; assumption) | (rw [mup_ne (by assumption)]; exact mup_self) | (rw [mup_ne (by assumption), mup_ne (by assumption)]; assumption)) rfl vin1 dX7_opens_82 ?_
      refine zi_iast X 0 (by first | assumption | exact mup_self | (rw [mup_ne (by assumption)]; assumption) | (rw [mup_ne (by assumption)]; exact mup_self) | (rw [mup_ne (by assumption), mup_ne (by assumption)]; assumption)) rfl vin2 dX7_opens_83 ?_
      rw [cl1, cl2]
      have hu3 := rF_l hu2 (t := 0) (by decide) (upd (f2 0) (a + (w + 1) + mo) (f2 0 (a + (w + 1))))
      have y3 := hu3.2.1.1
      have l1 := (hu3.2.2.1.1 1 (by decide)).1
      refine zi_eqh (h' := mup g2 (o1.2.2.2 0) (liE (cA 0) cap1 (upd (f2 0) (a + (w + 1) + mo) (f2 0 (a + (w + 1)))))) rfl ?_
      generalize mup g2 (o1.2.2.2 0) (liE (cA 0) cap1 (upd (f2 0) (a + (w + 1) + mo) (f2 0 (a + (w + 1))))) = g3 at *
      refine zi_aload_n X dX7_opens_84 rfl rfl ?_
      refine zi_getf (C := RX7) (T := TX7) (N := 27) (ci := 11) X (by first | assumption | exact mup_self | (rw [mup_ne (by assumption)]; assumption) | (rw [mup_ne (by assumption)]; exact mup_self) | (rw [mup_ne (by assumption), mup_ne (by assumption)]; assumption)) rfl in_X7 23 (by decide) wf_X7_78 rfl rfl dX7_opens_85 ?_
      refine zi_iload_n X dX7_opens_88 rfl rfl ?_
      refine zi_iload_n X dX7_opens_89 rfl rfl ?_
      refine zi_iadd X dX7_opens_90 ?_
      refine zi_aload_n X dX7_opens_91 rfl rfl ?_
      refine zi_getf (C := RX7) (T := TX7) (N := 27) (ci := 11) X (by first | assumption | exact mup_self | (rw [mup_ne (by assumption)]; assumption) | (rw [mup_ne (by assumption)]; exact mup_self) | (rw [mup_ne (by assumption), mup_ne (by assumption)]; assumption)) rfl in_X7 23 (by decide) wf_X7_78 rfl rfl dX7_opens_92 ?_
      refine zi_iload_n X dX7_opens_95 rfl rfl ?_
      refine zi_iald X 0 (by first | assumption | exact mup_self | (rw [mup_ne (by assumption)]; assumption) | (rw [mup_ne (by assumption)]; exact mup_self) | (rw [mup_ne (by assumption), mup_ne (by assumption)]; assumption)) rfl vin1 dX7_opens_96 ?_
      refine zi_iast X 0 (by first | assumption | exact mup_self | (rw [mup_ne (by assumption)]; assumption) | (rw [mup_ne (by assumption)]; exact mup_self) | (rw [mup_ne (by assumption), mup_ne (by assumption)]; assumption)) rfl vin2 dX7_opens_97 ?_
      rw [cl1, cl2]
      have hu4 := rF_l hu3 (t := 1) (by decide) (upd (f2 1) (a + (w + 1) + mo) (f2 1 (a + (w + 1))))
      have y4 := hu4.2.1.1
      have l2 := (hu4.2.2.1.1 2 (by decide)).1
      refine zi_eqh (h' := mup g3 (o1.2.2.2 1) (liE (cA 0) cap1 (upd (f2 1) (a + (w + 1) + mo) (f2 1 (a + (w + 1)))))) rfl ?_
      generalize mup g3 (o1.2.2.2 1) (liE (cA 0) cap1 (upd (f2 1) (a + (w + 1) + mo) (f2 1 (a + (w + 1))))) = g4 at *
      refine zi_aload_n X dX7_opens_98 rfl rfl ?_
      refine zi_getf (C := RX7) (T := TX7) (N := 27) (ci := 11) X (by first | assumption | exact mup_self | (rw [mup_ne (by assumption)]; assumption) | (rw [mup_ne (by assumption)]; exact mup_self) | (rw [mup_ne (by assumption), mup_ne (by assumption)]; assumption)) rfl in_X7 24 (by decide) wf_X7_81 rfl rfl dX7_opens_99 ?_
      refine zi_iload_n X dX7_opens_102 rfl rfl ?_
      refine zi_iload_n X dX7_opens_103 rfl rfl ?_
      refine zi_iadd X dX7_opens_104 ?_
      refine zi_aload_n X dX7_opens_105 rfl rfl ?_
      refine zi_getf (C := RX7) (T := TX7) (N := 27) (ci := 11) X (by first | assumption | exact mup_self | (rw [mup_ne (by assumption)]; assumption) | (rw [mup_ne (by assumption)]; exact mup_self) | (rw [mup_ne (by assumption), mup_ne (by assumption)]; assumption)) rfl in_X7 24 (by decide) wf_X7_81 rfl rfl dX7_opens_106 ?_
      refine zi_iload_n X dX7_opens_109 rfl rfl ?_
      refine zi_iald X 0 (by first | assumption | exact mup_self | (rw [mup_ne (by assumption)]; assumption) | (rw [mup_ne (by assumption)]; exact mup_self) | (rw [mup_ne (by assumption), mup_ne (by assumption)]; assumption)) rfl vin1 dX7_opens_110 ?_
      refine zi_iast X 0 (by first | assumption | exact mup_self | (rw [mup_ne (by assumption)]; assumption) | (rw [mup_ne (by assumption)]; exact mup_self) | (rw [mup_ne (by assumption), mup_ne (by assumption)]; assumption)) rfl vin2 dX7_opens_111 ?_
      rw [cl1, cl2]
      have hu5 := rF_l hu4 (t := 2) (by decide) (upd (f2 2) (a + (w + 1) + mo) (f2 2 (a + (w + 1))))
      have y5 := hu5.2.1.1
      have l3 := (hu5.2.2.1.1 3 (by decide)).1
      refine zi_eqh (h' := mup g4 (o1.2.2.2 2) (liE (cA 0) cap1 (upd (f2 2) (a + (w + 1) + mo) (f2 2 (a + (w + 1)))))) rfl ?_
      generalize mup g4 (o1.2.2.2 2) (liE (cA 0) cap1 (upd (f2 2) (a + (w + 1) + mo) (f2 2 (a + (w + 1))))) = g5 at *
      refine zi_aload_n X dX7_opens_112 rfl rfl ?_
      refine zi_getf (C := RX7) (T := TX7) (N := 27) (ci := 11) X (by first | assumption | exact mup_self | (rw [mup_ne (by assumption)]; assumption) | (rw [mup_ne (by assumption)]; exact mup_self) | (rw [mup_ne (by assumption), mup_ne (by assumption)]; assumption)) rfl in_X7 25 (by decide) wf_X7_84 rfl rfl dX7_opens_113 ?_
      refine zi_iload_n X dX7_opens_116 rfl rfl ?_
      refine zi_iload_n X dX7_opens_117 rfl rfl ?_
      refine zi_iadd X dX7_opens_118 ?_
      refine zi_aload_n X dX7_opens_119 rfl rfl ?_
      refine zi_getf (C := RX7) (T := TX7) (N := 27) (ci := 11) X (by first | assumption | exact mup_self | (rw [mup_ne (by assumption)]; assumption) | (rw [mup_ne (by assumption)]; exact mup_self) | (rw [mup_ne (by assumption), mup_ne (by assumption)]; assumption)) rfl in_X7 25 (by decide) wf_X7_84 rfl rfl dX7_opens_120 ?_
      refine zi_iload_n X dX7_opens_123 rfl rfl ?_
      refine zi_iald X 0 (by first | assumption | exact mup_self | (rw [mup_ne (by assumption)]; assumption) | (rw [mup_ne (by assumption)]; exact mup_self) | (rw [mup_ne (by assumption), mup_ne (by assumption)]; assumption)) rfl vin1 dX7_opens_124 ?_
      refine zi_iast X 0 (by first | assumption | exact mup_self | (rw [mup_ne (by assumption)]; assumption) | (rw [mup_ne (by assumption)]; exact mup_self) | (rw [mup_ne (by assumption), mup_ne (by assumption)]; assumption)) rfl vin2 dX7_opens_125 ?_
      rw [cl1, cl2]
      have hu6 := rF_l hu5 (t := 3) (by decide) (upd (f2 3) (a + (w + 1) + mo) (f2 3 (a + (w + 1))))
      refine zi_eqh (h' := mup g5 (o1.2.2.2 3) (liE (cA 0) cap1 (upd (f2 3) (a + (w + 1) + mo) (f2 3 (a + (w + 1)))))) rfl ?_
      generalize mup g5 (o1.2.2.2 3) (liE (cA 0) cap1 (upd (f2 3) (a + (w + 1) + mo) (f2 3 (a + (w + 1))))) = g6 at *
      have hu7 := rF_cong hu6 (caps' := fun _ => cap1) (f' := fun t => upd (f2 t) (a + (w + 1) + mo) (f2 t (a + (w + 1)))) (fun t ht => ⟨rfl, by
        rcases (show t = 0 ∨ t = 1 ∨ t = 2 ∨ t = 3 by omega) with rfl | rfl | rfl | rfl <;> rfl⟩)
      rw [← Nat.add_assoc]
      refine zi_iinc (v := nI ((a + w))) X dX7_opens_126 rfl (nI_dec _) (by decide) ?_
      refine zi_goto (tgt := 65) X dX7_opens_129 (by decide) ?_
      refine zi_sub (by repeat (first | exact trivial | refine And.intro rfl ?_)) (ih g6 _ (by omega) hu7 (fun t ht => ⟨fun j hj => ?_, fun j h1 h2 => ?_⟩))
      · unfold upd
        rw [if_neg (by omega)]
        exact (hf2 t ht).1 j (by omega)
      · unfold upd
        by_cases c : j = a + (w + 1)
        · rw [if_pos (by omega), c]
          exact (hf2 t ht).1 _ (Nat.le_refl _)
        · rw [if_neg (by omega)]
          exact (hf2 t ht).2 j (by omega) h2
  have x1 := hu.2.1.1
  have l0 := (hu.2.2.1.1 0 (by decide)).1
  by_cases c : n + mo ≤ cap
  · refine zi_aload_n X dX7_opens_0 rfl rfl ?_
    refine zi_getf (C := RX7) (T := TX7) (N := 27) (ci := 11) X (by first | assumption | exact mup_self | (rw [mup_ne (by assumption)]; assumption) | (rw [mup_ne (by assumption)]; exact mup_self) | (rw [mup_ne (by assumption), mup_ne (by assumption)]; assumption)) rfl in_X7 26 (by decide) wf_X7_285 rfl rfl dX7_opens_1 ?_
    refine zi_iload_n X dX7_opens_4 rfl rfl ?_
    refine zi_iadd X dX7_opens_5 ?_
    refine zi_aload_n X dX7_opens_6 rfl rfl ?_
    refine zi_getf (C := RX7) (T := TX7) (N := 27) (ci := 11) X (by first | assumption | exact mup_self | (rw [mup_ne (by assumption)]; assumption) | (rw [mup_ne (by assumption)]; exact mup_self) | (rw [mup_ne (by assumption), mup_ne (by assumption)]; assumption)) rfl in_X7 22 (by decide) wf_X7_75 rfl rfl dX7_opens_7 ?_
    refine zi_alen X 0 (by first | assumption | exact mup_self | (rw [mup_ne (by assumption)]; assumption) | (rw [mup_ne (by assumption)]; exact mup_self) | (rw [mup_ne (by assumption), mup_ne (by assumption)]; assumption)) rfl (show Int32.ofNat cap = nI cap from rfl) dX7_opens_10 ?_
    rw [ho, nI_add]
    refine zi_icmp_le (tgt := 58) X dX7_opens_11 (by decide) (fun c_11 => ?_) (fun c_11 => (by first | exact absurd (nI_le c (by omega)) c_11 | exact absurd c_11 (nI_le c (by omega))))
    refine zi_widen (k := 4) (n := 8192) (by decide) (by decide) ?_
    exact zi_sub (by repeat (first | exact trivial | refine And.intro rfl ?_)) (s58 h o cap f hu rfl rfl ho c (by omega) (fun t _ j _ => rfl))
  · obtain ⟨c2, ck2⟩ := capK_2 ck (by omega)
    refine zi_aload_n X dX7_opens_0 rfl rfl ?_
    refine zi_getf (C := RX7) (T := TX7) (N := 27) (ci := 11) X (by first | assumption | exact mup_self | (rw [mup_ne (by assumption)]; assumption) | (rw [mup_ne (by assumption)]; exact mup_self) | (rw [mup_ne (by assumption), mup_ne (by assumption)]; assumption)) rfl in_X7 26 (by decide) wf_X7_285 rfl rfl dX7_opens_1 ?_
    refine zi_iload_n X dX7_opens_4 rfl rfl ?_
    refine zi_iadd X dX7_opens_5 ?_
    refine zi_aload_n X dX7_opens_6 rfl rfl ?_
    refine zi_getf (C := RX7) (T := TX7) (N := 27) (ci := 11) X (by first | assumption | exact mup_self | (rw [mup_ne (by assumption)]; assumption) | (rw [mup_ne (by assumption)]; exact mup_self) | (rw [mup_ne (by assumption), mup_ne (by assumption)]; assumption)) rfl in_X7 22 (by decide) wf_X7_75 rfl rfl dX7_opens_7 ?_
    refine zi_alen X 0 (by first | assumption | exact mup_self | (rw [mup_ne (by assumption)]; assumption) | (rw [mup_ne (by assumption)]; exact mup_self) | (rw [mup_ne (by assumption), mup_ne (by assumption)]; assumption)) rfl (show Int32.ofNat cap = nI cap from rfl) dX7_opens_10 ?_
    rw [ho, nI_add]
    refine zi_icmp_le (tgt := 58) X dX7_opens_11 (by decide) (fun c_11 => (by first | exact absurd (by rw [nI_leI (by omega) (by omega)]; exact c) c_11 | exact absurd c_11 (by rw [nI_leI (by omega) (by omega)]; exact c))) (fun c_11 => ?_)
    refine zi_aload_n X dX7_opens_14 rfl rfl ?_
    refine zi_aload_n X dX7_opens_15 rfl rfl ?_
    refine zi_getf (C := RX7) (T := TX7) (N := 27) (ci := 11) X (by first | assumption | exact mup_self | (rw [mup_ne (by assumption)]; assumption) | (rw [mup_ne (by assumption)]; exact mup_self) | (rw [mup_ne (by assumption), mup_ne (by assumption)]; assumption)) rfl in_X7 22 (by decide) wf_X7_75 rfl rfl dX7_opens_16 ?_
    refine zi_callSr X (s_longer l D l0 c2) kc_X7_longer wm_X7_288 wst_X7_longer ⟨Nat.le_of_ble_eq_true rfl, Nat.le_of_ble_eq_true rfl⟩ rfl rfl (Nat.le_of_ble_eq_true rfl) ⟨Nat.le_of_ble_eq_true rfl, Nat.le_of_ble_eq_true rfl⟩ dX7_opens_19 (fun q1 h2 hp => ?_)
    obtain ⟨hq1, rfl⟩ := hp
    have u1 := rF_q hu hq1 (liE (cA 0) (2 * cap) (fun k => if k < cap then f 0 k else 0))
    have y1 := u1.2.1.1
    have r1 := rF_r u1 (t := 0) (by decide) (q := q1) (cap := 2 * cap) mup_self ck2 (rF_ql hu hq1) (o.1, o.2.1, o.2.2.1, fun s => if s = 0 then q1 else o.2.2.2 s) rfl
    refine zi_putf (C := RX7) (T := TX7) (N := 27) (ci := 11) (ty0 := tyX7) X (by first | assumption | exact mup_self | (rw [mup_ne (by assumption)]; assumption) | (rw [mup_ne (by assumption)]; exact mup_self) | (rw [mup_ne (by assumption), mup_ne (by assumption)]; assumption)) rfl in_X7 tyX7_ok nmX7 22 (by decide) wf_X7_75 rfl rfl rfl rfl rfl (Nat.le_of_ble_eq_true rfl) dX7_opens_22 ?_
    refine zi_eqh (h' := mup (mup h q1 (liE (cA 0) (2 * cap) (fun k => if k < cap then f 0 k else 0))) (M 3 0) (mO M (o.1, o.2.1, o.2.2.1, fun s => if s = 0 then q1 else o.2.2.2 s))) rfl ?_
    generalize mup (mup h q1 (liE (cA 0) (2 * cap) (fun k => if k < cap then f 0 k else 0))) (M 3 0) (mO M (o.1, o.2.1, o.2.2.1, fun s => if s = 0 then q1 else o.2.2.2 s)) = g1 at *
    have z1 := r1.2.1.1
    have m1 := (r1.2.2.1.1 1 (by decide)).1
    refine zi_aload_n X dX7_opens_25 rfl rfl ?_
    refine zi_aload_n X dX7_opens_26 rfl rfl ?_
    refine zi_getf (C := RX7) (T := TX7) (N := 27) (ci := 11) X (by first | assumption | exact mup_self | (rw [mup_ne (by assumption)]; assumption) | (rw [mup_ne (by assumption)]; exact mup_self) | (rw [mup_ne (by assumption), mup_ne (by assumption)]; assumption)) rfl in_X7 23 (by decide) wf_X7_78 rfl rfl dX7_opens_27 ?_
    refine zi_callSr X (s_longer l D (cap := cap) m1 c2) kc_X7_longer wm_X7_288 wst_X7_longer ⟨Nat.le_of_ble_eq_true rfl, Nat.le_of_ble_eq_true rfl⟩ rfl rfl (Nat.le_of_ble_eq_true rfl) ⟨Nat.le_of_ble_eq_true rfl, Nat.le_of_ble_eq_true rfl⟩ dX7_opens_30 (fun q2 h2 hp => ?_)
    obtain ⟨hq2, rfl⟩ := hp
    have u2 := rF_q r1 hq2 (liE (cA 0) (2 * cap) (fun k => if k < cap then f 1 k else 0))
    have y2 := u2.2.1.1
    have r2 := rF_r u2 (t := 1) (by decide) (q := q2) (cap := 2 * cap) mup_self ck2 (rF_ql r1 hq2) (o.1, o.2.1, o.2.2.1, fun s => if s = 1 then q2 else if s = 0 then q1 else o.2.2.2 s) rfl
    refine zi_putf (C := RX7) (T := TX7) (N := 27) (ci := 11) (ty0 := tyX7) X (by first | assumption | exact mup_self | (rw [mup_ne (by assumption)]; assumption) | (rw [mup_ne (by assumption)]; exact mup_self) | (rw [mup_ne (by assumption), mup_ne (by assumption)]; assumption)) rfl in_X7 tyX7_ok nmX7 23 (by decide) wf_X7_78 rfl rfl rfl rfl rfl (Nat.le_of_ble_eq_true rfl) dX7_opens_33 ?_
    refine zi_eqh (h' := mup (mup g1 q2 (liE (cA 0) (2 * cap) (fun k => if k < cap then f 1 k else 0))) (M 3 0) (mO M (o.1, o.2.1, o.2.2.1, fun s => if s = 1 then q2 else if s = 0 then q1 else o.2.2.2 s))) rfl ?_
    generalize mup (mup g1 q2 (liE (cA 0) (2 * cap) (fun k => if k < cap then f 1 k else 0))) (M 3 0) (mO M (o.1, o.2.1, o.2.2.1, fun s => if s = 1 then q2 else if s = 0 then q1 else o.2.2.2 s)) = g2 at *
    have z2 := r2.2.1.1
    have m2 := (r2.2.2.1.1 2 (by decide)).1
    refine zi_aload_n X dX7_opens_36 rfl rfl ?_
    refine zi_aload_n X dX7_opens_37 rfl rfl ?_
    refine zi_getf (C := RX7) (T := TX7) (N := 27) (ci := 11) X (by first | assumption | exact mup_self | (rw [mup_ne (by assumption)]; assumption) | (rw [mup_ne (by assumption)]; exact mup_self) | (rw [mup_ne (by assumption), mup_ne (by assumption)]; assumption)) rfl in_X7 24 (by decide) wf_X7_81 rfl rfl dX7_opens_38 ?_
    refine zi_callSr X (s_longer l D (cap := cap) m2 c2) kc_X7_longer wm_X7_288 wst_X7_longer ⟨Nat.le_of_ble_eq_true rfl, Nat.le_of_ble_eq_true rfl⟩ rfl rfl (Nat.le_of_ble_eq_true rfl) ⟨Nat.le_of_ble_eq_true rfl, Nat.le_of_ble_eq_true rfl⟩ dX7_opens_41 (fun q3 h2 hp => ?_)
    obtain ⟨hq3, rfl⟩ := hp
    have u3 := rF_q r2 hq3 (liE (cA 0) (2 * cap) (fun k => if k < cap then f 2 k else 0))
    have y3 := u3.2.1.1
    have r3 := rF_r u3 (t := 2) (by decide) (q := q3) (cap := 2 * cap) mup_self ck2 (rF_ql r2 hq3) (o.1, o.2.1, o.2.2.1, fun s => if s = 2 then q3 else if s = 1 then q2 else if s = 0 then q1 else o.2.2.2 s) rfl
    refine zi_putf (C := RX7) (T := TX7) (N := 27) (ci := 11) (ty0 := tyX7) X (by first | assumption | exact mup_self | (rw [mup_ne (by assumption)]; assumption) | (rw [mup_ne (by assumption)]; exact mup_self) | (rw [mup_ne (by assumption), mup_ne (by assumption)]; assumption)) rfl in_X7 tyX7_ok nmX7 24 (by decide) wf_X7_81 rfl rfl rfl rfl rfl (Nat.le_of_ble_eq_true rfl) dX7_opens_44 ?_
    refine zi_eqh (h' := mup (mup g2 q3 (liE (cA 0) (2 * cap) (fun k => if k < cap then f 2 k else 0))) (M 3 0) (mO M (o.1, o.2.1, o.2.2.1, fun s => if s = 2 then q3 else if s = 1 then q2 else if s = 0 then q1 else o.2.2.2 s))) rfl ?_
    generalize mup (mup g2 q3 (liE (cA 0) (2 * cap) (fun k => if k < cap then f 2 k else 0))) (M 3 0) (mO M (o.1, o.2.1, o.2.2.1, fun s => if s = 2 then q3 else if s = 1 then q2 else if s = 0 then q1 else o.2.2.2 s)) = g3 at *
    have z3 := r3.2.1.1
    have m3 := (r3.2.2.1.1 3 (by decide)).1
    refine zi_aload_n X dX7_opens_47 rfl rfl ?_
    refine zi_aload_n X dX7_opens_48 rfl rfl ?_
    refine zi_getf (C := RX7) (T := TX7) (N := 27) (ci := 11) X (by first | assumption | exact mup_self | (rw [mup_ne (by assumption)]; assumption) | (rw [mup_ne (by assumption)]; exact mup_self) | (rw [mup_ne (by assumption), mup_ne (by assumption)]; assumption)) rfl in_X7 25 (by decide) wf_X7_84 rfl rfl dX7_opens_49 ?_
    refine zi_callSr X (s_longer l D (cap := cap) m3 c2) kc_X7_longer wm_X7_288 wst_X7_longer ⟨Nat.le_of_ble_eq_true rfl, Nat.le_of_ble_eq_true rfl⟩ rfl rfl (Nat.le_of_ble_eq_true rfl) ⟨Nat.le_of_ble_eq_true rfl, Nat.le_of_ble_eq_true rfl⟩ dX7_opens_52 (fun q4 h2 hp => ?_)
    obtain ⟨hq4, rfl⟩ := hp
    have u4 := rF_q r3 hq4 (liE (cA 0) (2 * cap) (fun k => if k < cap then f 3 k else 0))
    have y4 := u4.2.1.1
    have r4 := rF_r u4 (t := 3) (by decide) (q := q4) (cap := 2 * cap) mup_self ck2 (rF_ql r3 hq4) (o.1, o.2.1, o.2.2.1, fun s => if s = 3 then q4 else if s = 2 then q3 else if s = 1 then q2 else if s = 0 then q1 else o.2.2.2 s) rfl
    refine zi_putf (C := RX7) (T := TX7) (N := 27) (ci := 11) (ty0 := tyX7) X (by first | assumption | exact mup_self | (rw [mup_ne (by assumption)]; assumption) | (rw [mup_ne (by assumption)]; exact mup_self) | (rw [mup_ne (by assumption), mup_ne (by assumption)]; assumption)) rfl in_X7 tyX7_ok nmX7 25 (by decide) wf_X7_84 rfl rfl rfl rfl rfl (Nat.le_of_ble_eq_true rfl) dX7_opens_55 ?_
    refine zi_eqh (h' := mup (mup g3 q4 (liE (cA 0) (2 * cap) (fun k => if k < cap then f 3 k else 0))) (M 3 0) (mO M (o.1, o.2.1, o.2.2.1, fun s => if s = 3 then q4 else if s = 2 then q3 else if s = 1 then q2 else if s = 0 then q1 else o.2.2.2 s))) rfl ?_
    generalize mup (mup g3 q4 (liE (cA 0) (2 * cap) (fun k => if k < cap then f 3 k else 0))) (M 3 0) (mO M (o.1, o.2.1, o.2.2.1, fun s => if s = 3 then q4 else if s = 2 then q3 else if s = 1 then q2 else if s = 0 then q1 else o.2.2.2 s)) = g4 at *
    have r5 := rF_cong r4 (caps' := fun _ => 2 * cap) (f' := fun t k => if k < cap then f t k else 0) (fun t ht => by
      rcases (show t = 0 ∨ t = 1 ∨ t = 2 ∨ t = 3 by omega) with rfl | rfl | rfl | rfl <;> exact ⟨rfl, rfl⟩)
    refine zi_widen (k := 4) (n := 8192) (by decide) (by decide) ?_
    exact zi_sub (by repeat (first | exact trivial | refine And.intro rfl ?_)) (s58 g4 _ (2 * cap) _ r5 rfl rfl ho (by omega) (by omega) (fun t _ j hj => if_pos (by omega)))
theorem u_isRoot (l : Launch) (D : va_G) (hu : rF cA M h o Sl kp caps f P) (hk9 : ∀ k, k < 7 → (kp k).natAbs ≤ 9999) (hev : evOk kp) {x : Int} {k : Nat} (hx : x.natAbs ≤ 268435456) (hk : k < 14) :
    mCi l yX7_isRoot cX7_isRoot 3 .boolean (rmd 4) D (mT cA) [.ref (M 3 0), .int (iI x), .int (nI k)] h (fun r h1 => r = (if sgnAt kp x k = 0 then nI 1 else nI 0) ∧ ∃ P', rF cA M h1 o Sl kp caps f P' ∧ P' 7 = P 7) := by
  have x1 := hu.2.1.1
  have x4 := hu.2.1.2.2.2.1
  refine mEnter_i (by decide) (Nat.le_of_ble_eq_true rfl) rfl (fun z X Vz => ?_)
  refine zi_aload_n X dX7_isRoot_0 rfl rfl ?_
  refine zi_getf (C := RX7) (T := TX7) (N := 27) (ci := 11) X (by first | assumption | exact mup_self | (rw [mup_ne (by assumption)]; assumption) | (rw [mup_ne (by assumption)]; exact mup_self) | (rw [mup_ne (by assumption), mup_ne (by assumption)]; assumption)) rfl in_X7 20 (by decide) wf_X7_69 rfl rfl dX7_isRoot_1 ?_
  refine zi_aload_n X dX7_isRoot_4 rfl rfl ?_
  refine zi_getf (C := RX7) (T := TX7) (N := 27) (ci := 11) X (by first | assumption | exact mup_self | (rw [mup_ne (by assumption)]; assumption) | (rw [mup_ne (by assumption)]; exact mup_self) | (rw [mup_ne (by assumption), mup_ne (by assumption)]; assumption)) rfl in_X7 17 (by decide) wf_X7_63 rfl rfl dX7_isRoot_5 ?_
  refine zi_callSv X (r_loadS l D hu.1 (j := 6) (by decide) x4 hk9) kc_X7_load wm_X7_236 wst_X7_load ⟨Nat.le_of_ble_eq_true rfl, Nat.le_of_ble_eq_true rfl⟩ rfl rfl (Nat.le_of_ble_eq_true rfl) ⟨Nat.le_of_ble_eq_true rfl, Nat.le_of_ble_eq_true rfl⟩ dX7_isRoot_8 (fun h3 hp => ?_)
  obtain ⟨hf3, hq3⟩ := hp
  have hu3 := rF_n hu hf3 hq3
  have z1 := hu3.2.1.1
  have ex : (iI x).toInt64.toInt = x := iI_l (by omega)
  refine zi_aload_n X dX7_isRoot_11 rfl rfl ?_
  refine zi_aload_n X dX7_isRoot_12 rfl rfl ?_
  refine zi_getf (C := RX7) (T := TX7) (N := 27) (ci := 11) X (by first | assumption | exact mup_self | (rw [mup_ne (by assumption)]; assumption) | (rw [mup_ne (by assumption)]; exact mup_self) | (rw [mup_ne (by assumption), mup_ne (by assumption)]; assumption)) rfl in_X7 17 (by decide) wf_X7_63 rfl rfl dX7_isRoot_13 ?_
  refine zi_iload_n X dX7_isRoot_16 rfl rfl ?_
  refine zi_i2l X dX7_isRoot_17 ?_
  refine zi_iload_n X dX7_isRoot_18 rfl rfl ?_
  refine zi_callVi X (r_signAt l D z1 hu3.1 (j := 6) (by decide) (by rw [updP_s]; exact pC_9 hk9) (x := (iI x).toInt64) (by rw [ex]; unfold CC; omega) (k := k) hk (by rw [updP_s, ex]; exact hev x k hx hk)) kc_X7_signAt wm_X7_263 (by first | assumption | exact mup_self | (rw [mup_ne (by assumption)]; assumption) | (rw [mup_ne (by assumption)]; exact mup_self) | (rw [mup_ne (by assumption), mup_ne (by assumption)]; assumption)) rfl wim_X7_signAt wse_X7_signAt ⟨Nat.le_of_ble_eq_true rfl, Nat.le_of_ble_eq_true rfl⟩ rfl rfl (Nat.le_of_ble_eq_true rfl) ⟨Nat.le_of_ble_eq_true rfl, Nat.le_of_ble_eq_true rfl⟩ dX7_isRoot_19 (fun r h4 hp => ?_)
  obtain ⟨hf4, hq4, rfl⟩ := hp
  have hu4 := rF_n hu3 hf4 hq4
  rw [updP_s, ex]
  by_cases c : sgnAt kp x k = 0
  · refine zi_if_ne (tgt := 29) X dX7_isRoot_22 (by decide) (fun c_22 => (by first | exact absurd (s3_0.mpr c) c_22 | exact absurd c_22 (s3_0.mpr c))) (fun c_22 => ?_)
    refine zi_iconst (v := (nI 1)) X dX7_isRoot_25 (by decide) ?_
    refine zi_goto (tgt := 30) X dX7_isRoot_26 (by decide) ?_
    refine zi_zreturn X Vz rfl dX7_isRoot_30 ?_
    rw [if_pos c]
    exact ⟨rfl, _, hu4, updP_n (by decide)⟩
  · refine zi_if_ne (tgt := 29) X dX7_isRoot_22 (by decide) (fun c_22 => ?_) (fun c_22 => (by first | exact absurd (fun q => c (s3_0.mp q)) c_22 | exact absurd c_22 (fun q => c (s3_0.mp q))))
    refine zi_iconst (v := (nI 0)) X dX7_isRoot_29 (by decide) ?_
    refine zi_zreturn X Vz rfl dX7_isRoot_30 ?_
    rw [if_neg c]
    exact ⟨rfl, _, hu4, updP_n (by decide)⟩
end OP
