/-! SturmRootsModel: bisect -/
def rsO (kp : Nat → Int) (v : Iv) : Nat := if sgnAt kp (v.2.1 + v.2.2.1) (v.1 + 1) = 0 then 2 else 1
def rsV (kp p : Nat → Int) (v : Iv) (V : Nat → Iv) (i : Nat) : Nat → Iv := fun j =>
  if j < i then V j else if j = i then (v.1 + 1, 2 * v.2.1, v.2.1 + v.2.2.1, (ctI p (v.1 + 1) (2 * v.2.1) (v.2.1 + v.2.2.1) : Int))
  else if j < i + rsO kp v then (v.1 + 1, v.2.1 + v.2.2.1, v.2.1 + v.2.2.1, (ctI p (v.1 + 1) (v.2.1 + v.2.2.1) (v.2.1 + v.2.2.1) : Int))
  else if j = i + rsO kp v then (v.1 + 1, v.2.1 + v.2.2.1, 2 * v.2.2.1, (ctI p (v.1 + 1) (v.2.1 + v.2.2.1) (2 * v.2.2.1) : Int))
  else V (j - rsO kp v)
def ivB (v : Iv) : Prop := v.1 ≤ 12 ∧ v.2.1.natAbs ≤ 2 ^ 26 ∧ v.2.2.1.natAbs ≤ 2 ^ 26 ∧ v.2.2.2.natAbs < 2147483648
def bsOk (p : Nat → Int) (v : Iv) : Prop := v.2.1 ≠ v.2.2.1 → v.1 < 12 → ctOk p (v.1 + 1) (2 * v.2.1) (v.2.1 + v.2.2.1) ∧ ctOk p (v.1 + 1) (v.2.1 + v.2.2.1) (2 * v.2.2.1)
/-- one of the four numbers of an interval -/
def cpI (t : Nat) (v : Iv) : Int32 := if t = 0 then nI v.1 else if t = 1 then iI v.2.1 else if t = 2 then iI v.2.2.1 else iI v.2.2.2
theorem ivs_cp {f : Nat → Nat → Int32} {n : Nat} {V : Nat → Iv} : ivs f n V ↔ ∀ i t, i < n → t < 4 → f t i = cpI t (V i) := by
  constructor
  · intro h i t hi ht
    obtain ⟨a, b, c, d⟩ := h i hi
    rcases (show t = 0 ∨ t = 1 ∨ t = 2 ∨ t = 3 by omega) with rfl | rfl | rfl | rfl
    · exact a
    · exact b
    · exact c
    · exact d
  · intro h i hi
    exact ⟨h i 0 hi (by decide), h i 1 hi (by decide), h i 2 hi (by decide), h i 3 hi (by decide)⟩
theorem upd2 {g : Nat → Int32} {i j : Nat} {x z : Int32} : upd (upd g i x) (i + 1) z j = if j = i then x else if j = i + 1 then z else g j := by
  unfold upd
  by_cases c : j = i
  · rw [if_neg (show ¬ j = i + 1 by omega), if_pos c, if_pos c]
  · rw [if_neg c, if_neg c]
theorem upd3 {g : Nat → Int32} {i j : Nat} {x y z : Int32} : upd (upd (upd g i x) (i + 1) y) (i + 2) z j = if j = i then x else if j = i + 1 then y else if j = i + 2 then z else g j := by
  show (if j = i + 2 then z else upd (upd g i x) (i + 1) y j) = _
  rw [upd2]
  by_cases c : j = i + 2
  · rw [if_pos c, if_neg (show ¬ j = i by omega), if_neg (show ¬ j = i + 1 by omega), if_pos c]
  · rw [if_neg c, if_neg c]
section BI
variable {cA : Nat → ClassId} {M : Nat → Nat → Nat} {h h1 : mH} {o : RO} {Sl : Nat → Nat → Int} {kp : Nat → Int} {cap n : Nat} {V : Nat → Iv} {P : Nat → Nat → Int}
theorem u_bisect (l : Launch) (D : va_G) (hu : rU cA M h o Sl kp cap n V P) (ho : o.2.2.1 = nI n) (hn : n ≤ 1035) (hkk : 0 < n → (∀ k, k < 7 → (kp k).natAbs ≤ 9999) ∧ evOk kp) (hV : ∀ i, i < n → ivB (V i)) (hok : ∀ i, i < n → bsOk (P 7) (V i)) {a : Int32} :
    mCi l yX7_bisect cX7_bisect 7 .int (rmc 8 4 8192) D (mT cA) [.ref (M 3 0), .int a] h (fun r h1 => ¬ inR a n ∧ uT cA M o kp cap n V P 1 Sl h1 ∨ ∃ i, i < n ∧ a = nI i ∧ (¬ ((V i).2.1 ≠ (V i).2.2.1 ∧ (V i).1 < 12) ∧ uT cA M o kp cap n V P 2 Sl h1 ∨ ((V i).2.1 ≠ (V i).2.2.1 ∧ (V i).1 < 12) ∧ r = nI (n + rsO kp (V i)) ∧ ∃ R' cap' P', rU cA M h1 (nI 0, o.2.1, nI (n + rsO kp (V i)), R') Sl kp cap' (n + rsO kp (V i)) (rsV kp (P 7) (V i) V i) P' ∧ P' 7 = P 7)) := by
  have x1 := hu.2.1.1
  refine mEnter_i (by decide) (Nat.le_of_ble_eq_true rfl) rfl (fun z X Vz => ?_)
  refine zi_aload_n X dX7_bisect_0 rfl rfl ?_
  refine zi_iload_n X dX7_bisect_1 rfl rfl ?_
  refine zi_callVi X (u_isInterval l D hu ho) kc_X7_isInterval wm_X7_296 (by first | assumption | exact mup_self | (rw [mup_ne (by assumption)]; assumption) | (rw [mup_ne (by assumption)]; exact mup_self) | (rw [mup_ne (by assumption), mup_ne (by assumption)]; assumption)) rfl wim_X7_isInterval wse_X7_isInterval ⟨Nat.le_of_ble_eq_true rfl, Nat.le_of_ble_eq_true rfl⟩ rfl rfl (Nat.le_of_ble_eq_true rfl) ⟨Nat.le_of_ble_eq_true rfl, Nat.le_of_ble_eq_true rfl⟩ dX7_bisect_2 (fun r h1 hp => ?_)
  obtain ⟨rfl, ⟨q1, rfl⟩ | ⟨q1, rfl⟩⟩ := hp
  · obtain ⟨i, hi, rfl⟩ := q1
    obtain ⟨f, hF, hnc, hv⟩ := rU_F hu
    have cl : cap ≤ 2048 := (hF.2.2.1.1 0 (by decide)).2.1
    have b0 := (hF.2.2.1.1 0 (by decide)).1
    have b1 := (hF.2.2.1.1 1 (by decide)).1
    have b2 := (hF.2.2.1.1 2 (by decide)).1
    obtain ⟨ei0, ei1, ei2, ei3⟩ := hv i hi
    obtain ⟨vb0, vb1, vb2, vb3⟩ := hV i hi
    have hoki := hok i hi
    have hin : vp_in (nI i) cap := vp_in_nI (show i < cap by omega) (by omega)
    have hcl : (nI i).toNatClampNeg = i := nI_cl (by omega)
    obtain ⟨lv, hlv⟩ : ∃ lv, lv = (V i).1 := ⟨_, rfl⟩
    obtain ⟨lo, hlo⟩ : ∃ lo, lo = (V i).2.1 := ⟨_, rfl⟩
    obtain ⟨hh, hhi⟩ : ∃ hh, hh = (V i).2.2.1 := ⟨_, rfl⟩
    rw [← hlv] at ei0 vb0
    rw [← hlo] at ei1 vb1
    rw [← hhi] at ei2 vb2
    unfold bsOk at hoki
    rw [← hlv, ← hlo, ← hhi] at hoki
    have f2 : ¬ ((V i).2.1 ≠ (V i).2.2.1 ∧ (V i).1 < 12) → zM z 0 0 40 [some (.ref (M 3 0)), some (.int (nI i)), none, none, none, none, none] [] h1 := fun q => by
      refine zi_aload_n X dX7_bisect_40 rfl rfl ?_
      refine zi_iconst (v := (nI 2)) X dX7_bisect_41 (by decide) ?_
      refine zi_callVi X (u_fails l D hu) kc_X7_fails wm_X7_212 (by first | assumption | exact mup_self | (rw [mup_ne (by assumption)]; assumption) | (rw [mup_ne (by assumption)]; exact mup_self) | (rw [mup_ne (by assumption), mup_ne (by assumption)]; assumption)) rfl wim_X7_fails wse_X7_fails ⟨Nat.le_of_ble_eq_true rfl, Nat.le_of_ble_eq_true rfl⟩ rfl rfl (Nat.le_of_ble_eq_true rfl) ⟨Nat.le_of_ble_eq_true rfl, Nat.le_of_ble_eq_true rfl⟩ dX7_bisect_42 (fun r h3 hp => ?_)
      refine zi_widen (k := 4) (n := 8192) (by decide) (by decide) ?_
      refine zi_ireturn X Vz dX7_bisect_45 ?_
      exact Or.inr ⟨i, hi, rfl, Or.inl ⟨q, uT_of hp.2⟩⟩
    have lo31 : lo.natAbs < 2147483648 := by omega
    have hh31 : hh.natAbs < 2147483648 := by omega
    refine zi_if_ne (tgt := 14) X dX7_bisect_5 (by decide) (fun c_5 => ?_) (fun c_5 => (by first | exact absurd (by decide) c_5 | exact absurd c_5 (by decide)))
    refine zi_aload_n X dX7_bisect_14 rfl rfl ?_
    refine zi_getf (C := RX7) (T := TX7) (N := 27) (ci := 11) X (by first | assumption | exact mup_self | (rw [mup_ne (by assumption)]; assumption) | (rw [mup_ne (by assumption)]; exact mup_self) | (rw [mup_ne (by assumption), mup_ne (by assumption)]; assumption)) rfl in_X7 23 (by decide) wf_X7_78 rfl rfl dX7_bisect_15 ?_
    refine zi_iload_n X dX7_bisect_18 rfl rfl ?_
    refine zi_iald X 0 (by first | assumption | exact mup_self | (rw [mup_ne (by assumption)]; assumption) | (rw [mup_ne (by assumption)]; exact mup_self) | (rw [mup_ne (by assumption), mup_ne (by assumption)]; assumption)) rfl hin dX7_bisect_19 ?_
    refine zi_aload_n X dX7_bisect_20 rfl rfl ?_
    refine zi_getf (C := RX7) (T := TX7) (N := 27) (ci := 11) X (by first | assumption | exact mup_self | (rw [mup_ne (by assumption)]; assumption) | (rw [mup_ne (by assumption)]; exact mup_self) | (rw [mup_ne (by assumption), mup_ne (by assumption)]; assumption)) rfl in_X7 24 (by decide) wf_X7_81 rfl rfl dX7_bisect_21 ?_
    refine zi_iload_n X dX7_bisect_24 rfl rfl ?_
    refine zi_iald X 0 (by first | assumption | exact mup_self | (rw [mup_ne (by assumption)]; assumption) | (rw [mup_ne (by assumption)]; exact mup_self) | (rw [mup_ne (by assumption), mup_ne (by assumption)]; assumption)) rfl hin dX7_bisect_25 ?_
    rw [hcl, ei1, ei2]
    by_cases c1 : lo = hh
    · refine zi_icmp_eq (tgt := 40) X dX7_bisect_26 (by decide) (fun c_26 => ?_) (fun c_26 => (by first | exact absurd (by rw [c1]) c_26 | exact absurd c_26 (by rw [c1])))
      exact zi_sub (by repeat (first | exact trivial | refine And.intro rfl ?_)) (f2 (fun q => q.1 (by rw [← hlo, ← hhi]; exact c1)))
    · refine zi_icmp_eq (tgt := 40) X dX7_bisect_26 (by decide) (fun c_26 => (by first | exact absurd (fun q => c1 (iI_inj lo31 hh31 q)) c_26 | exact absurd c_26 (fun q => c1 (iI_inj lo31 hh31 q)))) (fun c_26 => ?_)
      refine zi_aload_n X dX7_bisect_29 rfl rfl ?_
      refine zi_getf (C := RX7) (T := TX7) (N := 27) (ci := 11) X (by first | assumption | exact mup_self | (rw [mup_ne (by assumption)]; assumption) | (rw [mup_ne (by assumption)]; exact mup_self) | (rw [mup_ne (by assumption), mup_ne (by assumption)]; assumption)) rfl in_X7 22 (by decide) wf_X7_75 rfl rfl dX7_bisect_30 ?_
      refine zi_iload_n X dX7_bisect_33 rfl rfl ?_
      refine zi_iald X 0 (by first | assumption | exact mup_self | (rw [mup_ne (by assumption)]; assumption) | (rw [mup_ne (by assumption)]; exact mup_self) | (rw [mup_ne (by assumption), mup_ne (by assumption)]; assumption)) rfl hin dX7_bisect_34 ?_
      rw [hcl, ei0]
      by_cases c2 : lv = 12
      · refine zi_bipush (v := (nI 12)) X dX7_bisect_35 (by decide) ?_
        refine zi_icmp_ne (tgt := 46) X dX7_bisect_37 (by decide) (fun c_37 => (by first | exact absurd (fun q => q (by rw [c2])) c_37 | exact absurd c_37 (fun q => q (by rw [c2])))) (fun c_37 => ?_)
        exact zi_sub (by repeat (first | exact trivial | refine And.intro rfl ?_)) (f2 (fun q => by rw [← hlv, c2] at q; exact absurd q.2 (by decide)))
      · have c12 : lv < 12 := by omega
        obtain ⟨ok1, ok2⟩ := hoki c1 c12
        refine zi_bipush (v := (nI 12)) X dX7_bisect_35 (by decide) ?_
        refine zi_icmp_ne (tgt := 46) X dX7_bisect_37 (by decide) (fun c_37 => ?_) (fun c_37 => (by first | exact absurd (fun q => c2 (nI_inj (by omega) (by decide) q)) c_37 | exact absurd c_37 (fun q => c2 (nI_inj (by omega) (by decide) q))))
        refine zi_aload_n X dX7_bisect_46 rfl rfl ?_
        refine zi_getf (C := RX7) (T := TX7) (N := 27) (ci := 11) X (by first | assumption | exact mup_self | (rw [mup_ne (by assumption)]; assumption) | (rw [mup_ne (by assumption)]; exact mup_self) | (rw [mup_ne (by assumption), mup_ne (by assumption)]; assumption)) rfl in_X7 22 (by decide) wf_X7_75 rfl rfl dX7_bisect_47 ?_
        refine zi_iload_n X dX7_bisect_50 rfl rfl ?_
        refine zi_iald X 0 (by first | assumption | exact mup_self | (rw [mup_ne (by assumption)]; assumption) | (rw [mup_ne (by assumption)]; exact mup_self) | (rw [mup_ne (by assumption), mup_ne (by assumption)]; assumption)) rfl hin dX7_bisect_51 ?_
        rw [hcl, ei0]
        refine zi_iconst (v := (nI 1)) X dX7_bisect_52 (by decide) ?_
        refine zi_iadd X dX7_bisect_53 ?_
        rw [nI_add]
        refine zi_istore_n X dX7_bisect_54 rfl (by decide) ?_
        refine zi_iconst (v := (nI 2)) X dX7_bisect_55 (by decide) ?_
        refine zi_aload_n X dX7_bisect_56 rfl rfl ?_
        refine zi_getf (C := RX7) (T := TX7) (N := 27) (ci := 11) X (by first | assumption | exact mup_self | (rw [mup_ne (by assumption)]; assumption) | (rw [mup_ne (by assumption)]; exact mup_self) | (rw [mup_ne (by assumption), mup_ne (by assumption)]; assumption)) rfl in_X7 23 (by decide) wf_X7_78 rfl rfl dX7_bisect_57 ?_
        refine zi_iload_n X dX7_bisect_60 rfl rfl ?_
        refine zi_iald X 0 (by first | assumption | exact mup_self | (rw [mup_ne (by assumption)]; assumption) | (rw [mup_ne (by assumption)]; exact mup_self) | (rw [mup_ne (by assumption), mup_ne (by assumption)]; assumption)) rfl hin dX7_bisect_61 ?_
        rw [hcl, ei1]
        refine zi_imul X dX7_bisect_62 ?_
        rw [iI_mul2]
        refine zi_istore_n X dX7_bisect_63 rfl (by decide) ?_
        refine zi_iconst (v := (nI 2)) X dX7_bisect_64 (by decide) ?_
        refine zi_aload_n X dX7_bisect_65 rfl rfl ?_
        refine zi_getf (C := RX7) (T := TX7) (N := 27) (ci := 11) X (by first | assumption | exact mup_self | (rw [mup_ne (by assumption)]; assumption) | (rw [mup_ne (by assumption)]; exact mup_self) | (rw [mup_ne (by assumption), mup_ne (by assumption)]; assumption)) rfl in_X7 24 (by decide) wf_X7_81 rfl rfl dX7_bisect_66 ?_
        refine zi_iload_n X dX7_bisect_69 rfl rfl ?_
        refine zi_iald X 0 (by first | assumption | exact mup_self | (rw [mup_ne (by assumption)]; assumption) | (rw [mup_ne (by assumption)]; exact mup_self) | (rw [mup_ne (by assumption), mup_ne (by assumption)]; assumption)) rfl hin dX7_bisect_70 ?_
        rw [hcl, ei2]
        refine zi_imul X dX7_bisect_71 ?_
        rw [iI_mul2]
        refine zi_istore X dX7_bisect_72 (by decide) ?_
        refine zi_aload_n X dX7_bisect_74 rfl rfl ?_
        refine zi_getf (C := RX7) (T := TX7) (N := 27) (ci := 11) X (by first | assumption | exact mup_self | (rw [mup_ne (by assumption)]; assumption) | (rw [mup_ne (by assumption)]; exact mup_self) | (rw [mup_ne (by assumption), mup_ne (by assumption)]; assumption)) rfl in_X7 23 (by decide) wf_X7_78 rfl rfl dX7_bisect_75 ?_
        refine zi_iload_n X dX7_bisect_78 rfl rfl ?_
        refine zi_iald X 0 (by first | assumption | exact mup_self | (rw [mup_ne (by assumption)]; assumption) | (rw [mup_ne (by assumption)]; exact mup_self) | (rw [mup_ne (by assumption), mup_ne (by assumption)]; assumption)) rfl hin dX7_bisect_79 ?_
        refine zi_aload_n X dX7_bisect_80 rfl rfl ?_
        refine zi_getf (C := RX7) (T := TX7) (N := 27) (ci := 11) X (by first | assumption | exact mup_self | (rw [mup_ne (by assumption)]; assumption) | (rw [mup_ne (by assumption)]; exact mup_self) | (rw [mup_ne (by assumption), mup_ne (by assumption)]; assumption)) rfl in_X7 24 (by decide) wf_X7_81 rfl rfl dX7_bisect_81 ?_
        refine zi_iload_n X dX7_bisect_84 rfl rfl ?_
        refine zi_iald X 0 (by first | assumption | exact mup_self | (rw [mup_ne (by assumption)]; assumption) | (rw [mup_ne (by assumption)]; exact mup_self) | (rw [mup_ne (by assumption), mup_ne (by assumption)]; assumption)) rfl hin dX7_bisect_85 ?_
        rw [hcl, ei1, ei2]
        refine zi_iadd X dX7_bisect_86 ?_
        rw [iI_add]
        refine zi_istore X dX7_bisect_87 (by decide) ?_
        refine zi_aload_n X dX7_bisect_89 rfl rfl ?_
        refine zi_iload X dX7_bisect_90 rfl ?_
        refine zi_iload_n X dX7_bisect_92 rfl rfl ?_
        have mb : (lo + hh).natAbs ≤ 268435456 := by omega
        obtain ⟨hk9, hev⟩ := hkk (by omega)
        refine zi_callVi X (u_isRoot l D hF hk9 hev mb (k := lv + 1) (by omega)) kc_X7_isRoot wm_X7_299 (by first | assumption | exact mup_self | (rw [mup_ne (by assumption)]; assumption) | (rw [mup_ne (by assumption)]; exact mup_self) | (rw [mup_ne (by assumption), mup_ne (by assumption)]; assumption)) rfl wim_X7_isRoot wse_X7_isRoot ⟨Nat.le_of_ble_eq_true rfl, Nat.le_of_ble_eq_true rfl⟩ rfl rfl (Nat.le_of_ble_eq_true rfl) ⟨Nat.le_of_ble_eq_true rfl, Nat.le_of_ble_eq_true rfl⟩ dX7_bisect_93 (fun r h2 hp => ?_)
        obtain ⟨rfl, P2, hF2, p7⟩ := hp
        have y1 := hF2.2.1.1
        have okm : ctOk (P 7) (lv + 1) (lo + hh) (lo + hh) := ⟨by omega, by omega, by omega, fun q => absurd rfl q⟩
        have er : rsO kp (V i) = if sgnAt kp (lo + hh) (lv + 1) = 0 then 2 else 1 := by unfold rsO; rw [← hlv, ← hlo, ← hhi]
        have eV : ∀ p, rsV kp p (V i) V i = fun j => if j < i then V j else if j = i then (lv + 1, 2 * lo, lo + hh, (ctI p (lv + 1) (2 * lo) (lo + hh) : Int)) else if j < i + rsO kp (V i) then (lv + 1, lo + hh, lo + hh, (ctI p (lv + 1) (lo + hh) (lo + hh) : Int)) else if j = i + rsO kp (V i) then (lv + 1, lo + hh, 2 * hh, (ctI p (lv + 1) (lo + hh) (2 * hh) : Int)) else V (j - rsO kp (V i)) := fun p => by unfold rsV; rw [← hlv, ← hlo, ← hhi]
        have tl : ∀ (g : mH) (mo cap' : Nat) (R' : Nat → Nat) (f' : Nat → Nat → Int32) (Q : Nat → Nat → Int) (m3 m4 m5 m6 : Option Value), rF cA M g (o.1, o.2.1, nI (n + mo), R') Sl kp (fun _ => cap') f' Q → Q 7 = P 7 → mo = rsO kp (V i) → n + mo ≤ cap' → ivs f' (n + mo) (rsV kp (P 7) (V i) V i) → zM z 4 8192 162 [some (.ref (M 3 0)), some (.int (nI i)), m3, m4, m5, m6, none] [] g := fun g mo cap' R' f' Q m3 m4 m5 m6 hg q7 hmo hc hvv => by
          have hU := rF_U hg hc hvv
          have w1 := hU.2.1.1
          refine zi_aload_n X dX7_bisect_162 rfl rfl ?_
          refine zi_aload_n X dX7_bisect_163 rfl rfl ?_
          refine zi_getf (C := RX7) (T := TX7) (N := 27) (ci := 11) X (by first | assumption | exact mup_self | (rw [mup_ne (by assumption)]; assumption) | (rw [mup_ne (by assumption)]; exact mup_self) | (rw [mup_ne (by assumption), mup_ne (by assumption)]; assumption)) rfl in_X7 26 (by decide) wf_X7_285 rfl rfl dX7_bisect_164 ?_
          refine zi_callVi X (u_tells l D hU) kc_X7_tells wm_X7_217 (by first | assumption | exact mup_self | (rw [mup_ne (by assumption)]; assumption) | (rw [mup_ne (by assumption)]; exact mup_self) | (rw [mup_ne (by assumption), mup_ne (by assumption)]; assumption)) rfl wim_X7_tells wse_X7_tells ⟨Nat.le_of_ble_eq_true rfl, Nat.le_of_ble_eq_true rfl⟩ rfl rfl (Nat.le_of_ble_eq_true rfl) ⟨Nat.le_of_ble_eq_true rfl, Nat.le_of_ble_eq_true rfl⟩ dX7_bisect_167 (fun r h3 hp => ?_)
          obtain ⟨rfl, -, hp⟩ := hp
          refine zi_ireturn X Vz dX7_bisect_170 ?_
          refine Or.inr ⟨i, hi, rfl, Or.inr ⟨⟨by rw [← hlo, ← hhi]; exact c1, by rw [← hlv]; exact c12⟩, by rw [hmo], R', cap', Q, ?_, q7⟩⟩
          rw [hmo] at hp
          exact hp
        by_cases on : sgnAt kp (lo + hh) (lv + 1) = 0
        · have er2 : rsO kp (V i) = 2 := by rw [er, if_pos on]
          have eV2 := eV (P 7)
          rw [er2] at eV2
          rw [if_pos on]
          refine zi_istore X dX7_bisect_96 (by decide) ?_
          refine zi_aload_n X dX7_bisect_98 rfl rfl ?_
          refine zi_iload_n X dX7_bisect_99 rfl rfl ?_
          refine zi_iload X dX7_bisect_100 rfl ?_
          refine zi_if_eq (tgt := 109) X dX7_bisect_102 (by decide) (fun c_102 => (by first | exact absurd (by decide) c_102 | exact absurd c_102 (by decide))) (fun c_102 => ?_)
          refine zi_iconst (v := (nI 2)) X dX7_bisect_105 (by decide) ?_
          refine zi_goto (tgt := 110) X dX7_bisect_106 (by decide) ?_
          refine zi_callVv X (u_opens l D hF2 ho hnc (a := i) (mo := 2) (Or.inr rfl) (by omega) hi) kc_X7_opens wm_X7_302 (by first | assumption | exact mup_self | (rw [mup_ne (by assumption)]; assumption) | (rw [mup_ne (by assumption)]; exact mup_self) | (rw [mup_ne (by assumption), mup_ne (by assumption)]; assumption)) rfl wim_X7_opens wse_X7_opens ⟨Nat.le_of_ble_eq_true rfl, Nat.le_of_ble_eq_true rfl⟩ rfl rfl (Nat.le_of_ble_eq_true rfl) ⟨Nat.le_of_ble_eq_true rfl, Nat.le_of_ble_eq_true rfl⟩ dX7_bisect_110 (fun h3 hp => ?_)
          obtain ⟨cap', f', R', hF3, hc3, hf3⟩ := hp
          have w1 := hF3.2.1.1
          refine zi_aload_n X dX7_bisect_113 rfl rfl ?_
          refine zi_iload_n X dX7_bisect_114 rfl rfl ?_
          refine zi_iload_n X dX7_bisect_115 rfl rfl ?_
          refine zi_iload_n X dX7_bisect_116 rfl rfl ?_
          refine zi_iload X dX7_bisect_117 rfl ?_
          refine zi_callVv X (u_place l D hF3 (a := i) (d := lv + 1) (m := 2 * lo) (n := lo + hh) (fun t ht => by omega) (by rw [p7]; exact ok1)) kc_X7_place wm_X7_292 (by first | assumption | exact mup_self | (rw [mup_ne (by assumption)]; assumption) | (rw [mup_ne (by assumption)]; exact mup_self) | (rw [mup_ne (by assumption), mup_ne (by assumption)]; assumption)) rfl wim_X7_place wse_X7_place ⟨Nat.le_of_ble_eq_true rfl, Nat.le_of_ble_eq_true rfl⟩ rfl rfl (Nat.le_of_ble_eq_true rfl) ⟨Nat.le_of_ble_eq_true rfl, Nat.le_of_ble_eq_true rfl⟩ dX7_bisect_119 (fun h4 hp => ?_)
          obtain ⟨P4, hF4, p47⟩ := hp
          rw [p7] at hF4 p47
          have w2 := hF4.2.1.1
          refine zi_iload X dX7_bisect_122 rfl ?_
          refine zi_if_eq (tgt := 139) X dX7_bisect_124 (by decide) (fun c_124 => (by first | exact absurd (by decide) c_124 | exact absurd c_124 (by decide))) (fun c_124 => ?_)
          refine zi_aload_n X dX7_bisect_127 rfl rfl ?_
          refine zi_iload_n X dX7_bisect_128 rfl rfl ?_
          refine zi_iconst (v := (nI 1)) X dX7_bisect_129 (by decide) ?_
          refine zi_iadd X dX7_bisect_130 ?_
          rw [nI_add]
          refine zi_iload_n X dX7_bisect_131 rfl rfl ?_
          refine zi_iload X dX7_bisect_132 rfl ?_
          refine zi_iload X dX7_bisect_134 rfl ?_
          refine zi_callVv X (u_place l D hF4 (a := i + 1) (d := lv + 1) (m := lo + hh) (n := lo + hh) (fun t ht => by omega) (by rw [p47]; exact okm)) kc_X7_place wm_X7_292 (by first | assumption | exact mup_self | (rw [mup_ne (by assumption)]; assumption) | (rw [mup_ne (by assumption)]; exact mup_self) | (rw [mup_ne (by assumption), mup_ne (by assumption)]; assumption)) rfl wim_X7_place wse_X7_place ⟨Nat.le_of_ble_eq_true rfl, Nat.le_of_ble_eq_true rfl⟩ rfl rfl (Nat.le_of_ble_eq_true rfl) ⟨Nat.le_of_ble_eq_true rfl, Nat.le_of_ble_eq_true rfl⟩ dX7_bisect_136 (fun h5 hp => ?_)
          obtain ⟨P5, hF5, p57⟩ := hp
          rw [p47] at hF5 p57
          have w3 := hF5.2.1.1
          refine zi_aload_n X dX7_bisect_139 rfl rfl ?_
          refine zi_iload X dX7_bisect_140 rfl ?_
          refine zi_if_eq (tgt := 151) X dX7_bisect_142 (by decide) (fun c_142 => (by first | exact absurd (by decide) c_142 | exact absurd c_142 (by decide))) (fun c_142 => ?_)
          refine zi_iload_n X dX7_bisect_145 rfl rfl ?_
          refine zi_iconst (v := (nI 2)) X dX7_bisect_146 (by decide) ?_
          refine zi_iadd X dX7_bisect_147 ?_
          rw [nI_add]
          refine zi_goto (tgt := 154) X dX7_bisect_148 (by decide) ?_
          refine zi_iload_n X dX7_bisect_154 rfl rfl ?_
          refine zi_iload X dX7_bisect_155 rfl ?_
          refine zi_iload X dX7_bisect_157 rfl ?_
          refine zi_callVv X (u_place l D hF5 (a := i + 2) (d := lv + 1) (m := lo + hh) (n := 2 * hh) (fun t ht => by omega) (by rw [p57]; exact ok2)) kc_X7_place wm_X7_292 (by first | assumption | exact mup_self | (rw [mup_ne (by assumption)]; assumption) | (rw [mup_ne (by assumption)]; exact mup_self) | (rw [mup_ne (by assumption), mup_ne (by assumption)]; assumption)) rfl wim_X7_place wse_X7_place ⟨Nat.le_of_ble_eq_true rfl, Nat.le_of_ble_eq_true rfl⟩ rfl rfl (Nat.le_of_ble_eq_true rfl) ⟨Nat.le_of_ble_eq_true rfl, Nat.le_of_ble_eq_true rfl⟩ dX7_bisect_159 (fun h6 hp => ?_)
          obtain ⟨P6, hF6, p67⟩ := hp
          rw [p57] at hF6 p67
          refine zi_sub (by repeat (first | exact trivial | refine And.intro rfl ?_)) (tl h6 2 cap' R' _ P6 (some (.int (nI (lv + 1)))) (some (.int (iI (2 * lo)))) (some (.int (iI (2 * hh)))) (some (.int (iI (lo + hh)))) hF6 p67 er2.symm hc3 ?_)
          rw [eV2]
          refine ivs_cp.mpr (fun j t hj ht => ?_)
          refine (upd3 (x := cpI t (lv + 1, 2 * lo, lo + hh, (ctI (P 7) (lv + 1) (2 * lo) (lo + hh) : Int))) (y := cpI t (lv + 1, lo + hh, lo + hh, (ctI (P 7) (lv + 1) (lo + hh) (lo + hh) : Int))) (z := cpI t (lv + 1, lo + hh, 2 * hh, (ctI (P 7) (lv + 1) (lo + hh) (2 * hh) : Int)))).trans ?_
          have hv2 := ivs_cp.mp hv
          by_cases j1 : j < i
          · rw [if_neg (by omega), if_neg (by omega), if_neg (by omega), if_pos j1, (hf3 t ht).1 j (by omega)]
            exact hv2 j t (by omega) ht
          · by_cases j2 : j = i
            · rw [if_pos j2, if_neg j1, if_pos j2]
            · by_cases j3 : j = i + 1
              · rw [if_neg j2, if_pos j3, if_neg j1, if_neg j2, if_pos (by omega)]
              · by_cases j4 : j = i + 2
                · rw [if_neg j2, if_neg j3, if_pos j4, if_neg j1, if_neg j2, if_neg (by omega), if_pos j4]
                · rw [if_neg j2, if_neg j3, if_neg j4, if_neg j1, if_neg j2, if_neg (by omega), if_neg j4]
                  have := (hf3 t ht).2 (j - 2) (by omega) (by omega)
                  rw [show j - 2 + 2 = j by omega] at this
                  rw [this]
                  exact hv2 (j - 2) t (by omega) ht
        · have er2 : rsO kp (V i) = 1 := by rw [er, if_neg on]
          have eV2 := eV (P 7)
          rw [er2] at eV2
          rw [if_neg on]
          refine zi_istore X dX7_bisect_96 (by decide) ?_
          refine zi_aload_n X dX7_bisect_98 rfl rfl ?_
          refine zi_iload_n X dX7_bisect_99 rfl rfl ?_
          refine zi_iload X dX7_bisect_100 rfl ?_
          refine zi_if_eq (tgt := 109) X dX7_bisect_102 (by decide) (fun c_102 => ?_) (fun c_102 => (by first | exact absurd rfl c_102 | exact absurd c_102 rfl))
          refine zi_iconst (v := (nI 1)) X dX7_bisect_109 (by decide) ?_
          refine zi_callVv X (u_opens l D hF2 ho hnc (a := i) (mo := 1) (Or.inl rfl) (by omega) hi) kc_X7_opens wm_X7_302 (by first | assumption | exact mup_self | (rw [mup_ne (by assumption)]; assumption) | (rw [mup_ne (by assumption)]; exact mup_self) | (rw [mup_ne (by assumption), mup_ne (by assumption)]; assumption)) rfl wim_X7_opens wse_X7_opens ⟨Nat.le_of_ble_eq_true rfl, Nat.le_of_ble_eq_true rfl⟩ rfl rfl (Nat.le_of_ble_eq_true rfl) ⟨Nat.le_of_ble_eq_true rfl, Nat.le_of_ble_eq_true rfl⟩ dX7_bisect_110 (fun h3 hp => ?_)
          obtain ⟨cap', f', R', hF3, hc3, hf3⟩ := hp
          have w1 := hF3.2.1.1
          refine zi_aload_n X dX7_bisect_113 rfl rfl ?_
          refine zi_iload_n X dX7_bisect_114 rfl rfl ?_
          refine zi_iload_n X dX7_bisect_115 rfl rfl ?_
          refine zi_iload_n X dX7_bisect_116 rfl rfl ?_
          refine zi_iload X dX7_bisect_117 rfl ?_
          refine zi_callVv X (u_place l D hF3 (a := i) (d := lv + 1) (m := 2 * lo) (n := lo + hh) (fun t ht => by omega) (by rw [p7]; exact ok1)) kc_X7_place wm_X7_292 (by first | assumption | exact mup_self | (rw [mup_ne (by assumption)]; assumption) | (rw [mup_ne (by assumption)]; exact mup_self) | (rw [mup_ne (by assumption), mup_ne (by assumption)]; assumption)) rfl wim_X7_place wse_X7_place ⟨Nat.le_of_ble_eq_true rfl, Nat.le_of_ble_eq_true rfl⟩ rfl rfl (Nat.le_of_ble_eq_true rfl) ⟨Nat.le_of_ble_eq_true rfl, Nat.le_of_ble_eq_true rfl⟩ dX7_bisect_119 (fun h4 hp => ?_)
          obtain ⟨P4, hF4, p47⟩ := hp
          rw [p7] at hF4 p47
          have w2 := hF4.2.1.1
          refine zi_iload X dX7_bisect_122 rfl ?_
          refine zi_if_eq (tgt := 139) X dX7_bisect_124 (by decide) (fun c_124 => ?_) (fun c_124 => (by first | exact absurd rfl c_124 | exact absurd c_124 rfl))
          refine zi_aload_n X dX7_bisect_139 rfl rfl ?_
          refine zi_iload X dX7_bisect_140 rfl ?_
          refine zi_if_eq (tgt := 151) X dX7_bisect_142 (by decide) (fun c_142 => ?_) (fun c_142 => (by first | exact absurd rfl c_142 | exact absurd c_142 rfl))
          refine zi_iload_n X dX7_bisect_151 rfl rfl ?_
          refine zi_iconst (v := (nI 1)) X dX7_bisect_152 (by decide) ?_
          refine zi_iadd X dX7_bisect_153 ?_
          rw [nI_add]
          refine zi_iload_n X dX7_bisect_154 rfl rfl ?_
          refine zi_iload X dX7_bisect_155 rfl ?_
          refine zi_iload X dX7_bisect_157 rfl ?_
          refine zi_callVv X (u_place l D hF4 (a := i + 1) (d := lv + 1) (m := lo + hh) (n := 2 * hh) (fun t ht => by omega) (by rw [p47]; exact ok2)) kc_X7_place wm_X7_292 (by first | assumption | exact mup_self | (rw [mup_ne (by assumption)]; assumption) | (rw [mup_ne (by assumption)]; exact mup_self) | (rw [mup_ne (by assumption), mup_ne (by assumption)]; assumption)) rfl wim_X7_place wse_X7_place ⟨Nat.le_of_ble_eq_true rfl, Nat.le_of_ble_eq_true rfl⟩ rfl rfl (Nat.le_of_ble_eq_true rfl) ⟨Nat.le_of_ble_eq_true rfl, Nat.le_of_ble_eq_true rfl⟩ dX7_bisect_159 (fun h6 hp => ?_)
          obtain ⟨P6, hF6, p67⟩ := hp
          rw [p47] at hF6 p67
          refine zi_sub (by repeat (first | exact trivial | refine And.intro rfl ?_)) (tl h6 1 cap' R' _ P6 (some (.int (nI (lv + 1)))) (some (.int (iI (2 * lo)))) (some (.int (iI (2 * hh)))) (some (.int (iI (lo + hh)))) hF6 p67 er2.symm hc3 ?_)
          rw [eV2]
          refine ivs_cp.mpr (fun j t hj ht => ?_)
          refine (upd2 (x := cpI t (lv + 1, 2 * lo, lo + hh, (ctI (P 7) (lv + 1) (2 * lo) (lo + hh) : Int))) (z := cpI t (lv + 1, lo + hh, 2 * hh, (ctI (P 7) (lv + 1) (lo + hh) (2 * hh) : Int)))).trans ?_
          have hv2 := ivs_cp.mp hv
          by_cases j1 : j < i
          · rw [if_neg (by omega), if_neg (by omega), if_pos j1, (hf3 t ht).1 j (by omega)]
            exact hv2 j t (by omega) ht
          · by_cases j2 : j = i
            · rw [if_pos j2, if_neg j1, if_pos j2]
            · by_cases j4 : j = i + 1
              · rw [if_neg j2, if_pos j4, if_neg j1, if_neg j2, if_neg (by omega), if_pos j4]
              · rw [if_neg j2, if_neg j4, if_neg j1, if_neg j2, if_neg (by omega), if_neg j4]
                have := (hf3 t ht).2 (j - 1) (by omega) (by omega)
                rw [show j - 1 + 1 = j by omega] at this
                rw [this]
                exact hv2 (j - 1) t (by omega) ht
  · refine zi_if_ne (tgt := 14) X dX7_bisect_5 (by decide) (fun c_5 => (by first | exact absurd (by decide) c_5 | exact absurd c_5 (by decide))) (fun c_5 => ?_)
    refine zi_aload_n X dX7_bisect_8 rfl rfl ?_
    refine zi_iconst (v := (nI 1)) X dX7_bisect_9 (by decide) ?_
    refine zi_callVi X (u_fails l D hu) kc_X7_fails wm_X7_212 (by first | assumption | exact mup_self | (rw [mup_ne (by assumption)]; assumption) | (rw [mup_ne (by assumption)]; exact mup_self) | (rw [mup_ne (by assumption), mup_ne (by assumption)]; assumption)) rfl wim_X7_fails wse_X7_fails ⟨Nat.le_of_ble_eq_true rfl, Nat.le_of_ble_eq_true rfl⟩ rfl rfl (Nat.le_of_ble_eq_true rfl) ⟨Nat.le_of_ble_eq_true rfl, Nat.le_of_ble_eq_true rfl⟩ dX7_bisect_10 (fun r h1 hp => ?_)
    refine zi_widen (k := 4) (n := 8192) (by decide) (by decide) ?_
    refine zi_ireturn X Vz dX7_bisect_13 ?_
    exact Or.inl ⟨q1, uT_of hp.2⟩
end BI
