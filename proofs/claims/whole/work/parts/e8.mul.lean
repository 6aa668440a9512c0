/-! SturmRootsModel: multiplicity -/
abbrev muH (v : Iv) (q : Nat → Int) : Prop := if v.2.1 = v.2.2.1 then sgnAt q v.2.1 v.1 = 0 else ctI (frP q) v.1 v.2.1 v.2.2.1 ≠ 0
def muR (v : Iv) : Nat → (Nat → Int) → Nat
  | 0, _ => 0
  | r + 1, p => if stI (gcR p (derI p)) 7 ≤ 1 then 1 else if muH v (gcR p (derI p)) then muR v r (gcR p (derI p)) + 1 else 1
def muOk (v : Iv) : Nat → (Nat → Int) → Prop
  | 0, _ => False
  | r + 1, p => frOk p ∧ (¬ stI (gcR p (derI p)) 7 ≤ 1 → (v.2.1 = v.2.2.1 → nC (evS (gcR p (derI p)) v.2.1 (2 ^ v.1 : Nat) (stI (gcR p (derI p)) 7) (stI (gcR p (derI p)) 7)).1) ∧ (v.2.1 ≠ v.2.2.1 → frOk (gcR p (derI p)) ∧ ctOk (frP (gcR p (derI p))) v.1 v.2.1 v.2.2.1 ∧ ctI (frP (gcR p (derI p))) v.1 v.2.1 v.2.2.1 ≤ 6) ∧ (muH v (gcR p (derI p)) → muOk v r (gcR p (derI p))))
section MU
variable {cA : Nat → ClassId} {M : Nat → Nat → Nat} {h h1 : mH} {o : RO} {Sl : Nat → Nat → Int} {kp : Nat → Int} {cap n : Nat} {V : Nat → Iv} {P : Nat → Nat → Int}
theorem u_multiplicity (l : Launch) (D : va_G) (hu : rU cA M h o Sl kp cap n V P) (ho : o.2.2.1 = nI n) (hn : n ≤ 1035) (hk9 : 0 < n → ∀ k, k < 7 → (kp k).natAbs ≤ 9999) (hV : ∀ i, i < n → ivB (V i)) (hle : ∀ i, i < n → (V i).2.1 ≤ (V i).2.2.1) (hok : ∀ i, i < n → (V i).2.2.2 = 1 → muOk (V i) 7 kp) {a : Int32} :
    mCi l yX7_multiplicity cX7_multiplicity 7 .int (rmd 9) D (mT cA) [.ref (M 3 0), .int a] h (fun r h1 => ¬ inR a n ∧ uT cA M o kp cap n V P 1 Sl h1 ∨ ∃ i, i < n ∧ a = nI i ∧ ((V i).2.2.2 ≠ 1 ∧ uT cA M o kp cap n V P 2 Sl h1 ∨ (V i).2.2.2 = 1 ∧ r = nI (muR (V i) 7 kp) ∧ uT cA M o kp cap n V P 0 Sl h1)) := by
  have x1 := hu.2.1.1
  refine mEnter_i (by decide) (Nat.le_of_ble_eq_true rfl) rfl (fun z X Vz => ?_)
  refine zi_aload_n X dX7_multiplicity_0 rfl rfl ?_
  refine zi_iload_n X dX7_multiplicity_1 rfl rfl ?_
  refine zi_callVi X (u_isInterval l D hu ho) kc_X7_isInterval wm_X7_296 (by first | assumption | exact mup_self | (rw [mup_ne (by assumption)]; assumption) | (rw [mup_ne (by assumption)]; exact mup_self) | (rw [mup_ne (by assumption), mup_ne (by assumption)]; assumption)) rfl wim_X7_isInterval wse_X7_isInterval ⟨Nat.le_of_ble_eq_true rfl, Nat.le_of_ble_eq_true rfl⟩ rfl rfl (Nat.le_of_ble_eq_true rfl) ⟨Nat.le_of_ble_eq_true rfl, Nat.le_of_ble_eq_true rfl⟩ dX7_multiplicity_2 (fun r h1 hp => ?_)
  obtain ⟨rfl, ⟨q1, rfl⟩ | ⟨q1, rfl⟩⟩ := hp
  · obtain ⟨i, hi, rfl⟩ := q1
    obtain ⟨f, hF, hnc, hv⟩ := rU_F hu
    have cl : cap ≤ 2048 := (hF.2.2.1.1 0 (by decide)).2.1
    have b0 := (hF.2.2.1.1 0 (by decide)).1
    have b1 := (hF.2.2.1.1 1 (by decide)).1
    have b2 := (hF.2.2.1.1 2 (by decide)).1
    have b3 := (hF.2.2.1.1 3 (by decide)).1
    have x4 := hF.2.1.2.2.2.1
    have hv2 := ivs_cp.mp hv
    have e0 : f 0 i = nI (V i).1 := hv2 i 0 hi (by decide)
    have e1 : f 1 i = iI (V i).2.1 := hv2 i 1 hi (by decide)
    have e2 : f 2 i = iI (V i).2.2.1 := hv2 i 2 hi (by decide)
    have e3 : f 3 i = iI (V i).2.2.2 := hv2 i 3 hi (by decide)
    obtain ⟨vb0, vb1, vb2, vb3⟩ := hV i hi
    have hlei := hle i hi
    have hoki := hok i hi
    have hin : vp_in (nI i) cap := vp_in_nI (show i < cap by omega) (by omega)
    have hcl : (nI i).toNatClampNeg = i := nI_cl (by omega)
    refine zi_if_ne (tgt := 14) X dX7_multiplicity_5 (by decide) (fun c_5 => ?_) (fun c_5 => (by first | exact absurd (by decide) c_5 | exact absurd c_5 (by decide)))
    refine zi_aload_n X dX7_multiplicity_14 rfl rfl ?_
    refine zi_getf (C := RX7) (T := TX7) (N := 27) (ci := 11) X (by first | assumption | exact mup_self | (rw [mup_ne (by assumption)]; assumption) | (rw [mup_ne (by assumption)]; exact mup_self) | (rw [mup_ne (by assumption), mup_ne (by assumption)]; assumption)) rfl in_X7 25 (by decide) wf_X7_84 rfl rfl dX7_multiplicity_15 ?_
    refine zi_iload_n X dX7_multiplicity_18 rfl rfl ?_
    refine zi_iald X 0 (by first | assumption | exact mup_self | (rw [mup_ne (by assumption)]; assumption) | (rw [mup_ne (by assumption)]; exact mup_self) | (rw [mup_ne (by assumption), mup_ne (by assumption)]; assumption)) rfl hin dX7_multiplicity_19 ?_
    refine zi_iconst (v := (nI 1)) X dX7_multiplicity_20 (by decide) ?_
    rw [hcl, e3]
    by_cases c1 : (V i).2.2.2 = 1
    · obtain ⟨lv, hlv⟩ : ∃ lv, lv = (V i).1 := ⟨_, rfl⟩
      obtain ⟨lo, hlo⟩ : ∃ lo, lo = (V i).2.1 := ⟨_, rfl⟩
      obtain ⟨hh, hhi⟩ : ∃ hh, hh = (V i).2.2.1 := ⟨_, rfl⟩
      have hoki := hoki c1
      rw [← hlv] at e0 vb0
      rw [← hlo] at e1 vb1 hlei
      rw [← hhi] at e2 vb2 hlei
      have eH : ∀ q, muH (V i) q ↔ if lo = hh then sgnAt q lo lv = 0 else ctI (frP q) lv lo hh ≠ 0 := fun q => by
        unfold muH
        rw [← hlv, ← hlo, ← hhi]
      have lo31 : lo.natAbs < 2147483648 := by omega
      have hh31 : hh.natAbs < 2147483648 := by omega
      have el : (iI lo).toInt64.toInt = lo := iI_l lo31
      have eh : (iI hh).toInt64.toInt = hh := iI_l hh31
      refine zi_icmp_eq (tgt := 30) X dX7_multiplicity_21 (by decide) (fun c_21 => ?_) (fun c_21 => (by first | exact absurd (by rw [c1]; rfl) c_21 | exact absurd c_21 (by rw [c1]; rfl)))
      refine zi_aload_n X dX7_multiplicity_30 rfl rfl ?_
      refine zi_getf (C := RX7) (T := TX7) (N := 27) (ci := 11) X (by first | assumption | exact mup_self | (rw [mup_ne (by assumption)]; assumption) | (rw [mup_ne (by assumption)]; exact mup_self) | (rw [mup_ne (by assumption), mup_ne (by assumption)]; assumption)) rfl in_X7 23 (by decide) wf_X7_78 rfl rfl dX7_multiplicity_31 ?_
      refine zi_iload_n X dX7_multiplicity_34 rfl rfl ?_
      refine zi_iald X 0 (by first | assumption | exact mup_self | (rw [mup_ne (by assumption)]; assumption) | (rw [mup_ne (by assumption)]; exact mup_self) | (rw [mup_ne (by assumption), mup_ne (by assumption)]; assumption)) rfl hin dX7_multiplicity_35 ?_
      refine zi_istore_n X dX7_multiplicity_36 rfl (by decide) ?_
      refine zi_aload_n X dX7_multiplicity_37 rfl rfl ?_
      refine zi_getf (C := RX7) (T := TX7) (N := 27) (ci := 11) X (by first | assumption | exact mup_self | (rw [mup_ne (by assumption)]; assumption) | (rw [mup_ne (by assumption)]; exact mup_self) | (rw [mup_ne (by assumption), mup_ne (by assumption)]; assumption)) rfl in_X7 24 (by decide) wf_X7_81 rfl rfl dX7_multiplicity_38 ?_
      refine zi_iload_n X dX7_multiplicity_41 rfl rfl ?_
      refine zi_iald X 0 (by first | assumption | exact mup_self | (rw [mup_ne (by assumption)]; assumption) | (rw [mup_ne (by assumption)]; exact mup_self) | (rw [mup_ne (by assumption), mup_ne (by assumption)]; assumption)) rfl hin dX7_multiplicity_42 ?_
      refine zi_istore_n X dX7_multiplicity_43 rfl (by decide) ?_
      refine zi_aload_n X dX7_multiplicity_44 rfl rfl ?_
      refine zi_getf (C := RX7) (T := TX7) (N := 27) (ci := 11) X (by first | assumption | exact mup_self | (rw [mup_ne (by assumption)]; assumption) | (rw [mup_ne (by assumption)]; exact mup_self) | (rw [mup_ne (by assumption), mup_ne (by assumption)]; assumption)) rfl in_X7 22 (by decide) wf_X7_75 rfl rfl dX7_multiplicity_45 ?_
      refine zi_iload_n X dX7_multiplicity_48 rfl rfl ?_
      refine zi_iald X 0 (by first | assumption | exact mup_self | (rw [mup_ne (by assumption)]; assumption) | (rw [mup_ne (by assumption)]; exact mup_self) | (rw [mup_ne (by assumption), mup_ne (by assumption)]; assumption)) rfl hin dX7_multiplicity_49 ?_
      refine zi_istore X dX7_multiplicity_50 (by decide) ?_
      refine zi_iconst (v := (nI 0)) X dX7_multiplicity_52 (by decide) ?_
      refine zi_istore X dX7_multiplicity_53 (by decide) ?_
      refine zi_aload_n X dX7_multiplicity_55 rfl rfl ?_
      refine zi_getf (C := RX7) (T := TX7) (N := 27) (ci := 11) X (by first | assumption | exact mup_self | (rw [mup_ne (by assumption)]; assumption) | (rw [mup_ne (by assumption)]; exact mup_self) | (rw [mup_ne (by assumption), mup_ne (by assumption)]; assumption)) rfl in_X7 20 (by decide) wf_X7_69 rfl rfl dX7_multiplicity_56 ?_
      refine zi_aload_n X dX7_multiplicity_59 rfl rfl ?_
      refine zi_getf (C := RX7) (T := TX7) (N := 27) (ci := 11) X (by first | assumption | exact mup_self | (rw [mup_ne (by assumption)]; assumption) | (rw [mup_ne (by assumption)]; exact mup_self) | (rw [mup_ne (by assumption), mup_ne (by assumption)]; assumption)) rfl in_X7 17 (by decide) wf_X7_63 rfl rfl dX7_multiplicity_60 ?_
      rw [hcl, e0, e1, e2]
      refine zi_callSv X (r_loadS l D hF.1 (j := 6) (by decide) x4 (hk9 (by omega))) kc_X7_load wm_X7_236 wst_X7_load ⟨Nat.le_of_ble_eq_true rfl, Nat.le_of_ble_eq_true rfl⟩ rfl rfl (Nat.le_of_ble_eq_true rfl) ⟨Nat.le_of_ble_eq_true rfl, Nat.le_of_ble_eq_true rfl⟩ dX7_multiplicity_63 (fun h3 hp => ?_)
      obtain ⟨hf3, hq3⟩ := hp
      have hu3 := rU_n hu hf3 hq3
      have y1 := hu3.2.1.1
      refine zi_iconst (v := (nI 1)) X dX7_multiplicity_66 (by decide) ?_
      refine zi_istore X dX7_multiplicity_67 (by decide) ?_
      -- the end
      have stop : ∀ (t : Nat) (g : mH) (Q : Nat → Nat → Int) (L6 : Option Value), rU cA M g o Sl kp cap n V Q → Q 7 = P 7 → t = muR (V i) 7 kp → zM z 0 0 177 [some (.ref (M 3 0)), some (.int (nI i)), some (.int (iI lo)), some (.int (iI hh)), some (.int (nI lv)), some (.int (nI t)), L6] [] g := fun t g Q L6 hg q7 ht => by
        have w1 := hg.2.1.1
        refine zi_aload_n X dX7_multiplicity_177 rfl rfl ?_
        refine zi_iload X dX7_multiplicity_178 rfl ?_
        refine zi_callVi X (u_tells l D hg) kc_X7_tells wm_X7_217 (by first | assumption | exact mup_self | (rw [mup_ne (by assumption)]; assumption) | (rw [mup_ne (by assumption)]; exact mup_self) | (rw [mup_ne (by assumption), mup_ne (by assumption)]; assumption)) rfl wim_X7_tells wse_X7_tells ⟨Nat.le_of_ble_eq_true rfl, Nat.le_of_ble_eq_true rfl⟩ rfl rfl (Nat.le_of_ble_eq_true rfl) ⟨Nat.le_of_ble_eq_true rfl, Nat.le_of_ble_eq_true rfl⟩ dX7_multiplicity_180 (fun r h4 hp => ?_)
        obtain ⟨rfl, -, hp⟩ := hp
        refine zi_ireturn X Vz dX7_multiplicity_183 ?_
        exact Or.inr ⟨i, hi, rfl, Or.inr ⟨c1, by rw [ht], Q, hp, q7⟩⟩
      suffices key : ∀ w t (p : Nat → Int) (g : mH) (Q : Nat → Nat → Int), rU cA M g o Sl kp cap n V Q → Q 7 = P 7 → Q 6 = p → muOk (V i) w p → t + muR (V i) w p = muR (V i) 7 kp → zM z 0 0 69 [some (.ref (M 3 0)), some (.int (nI i)), some (.int (iI lo)), some (.int (iI hh)), some (.int (nI lv)), some (.int (nI t)), some (.int (nI 1))] [] g from
        zi_sub (by repeat (first | exact trivial | refine And.intro rfl ?_)) (key 7 0 kp h3 _ hu3 (updP_n (by decide)) updP_s hoki (Nat.zero_add _))
      intro w
      induction w with
      | zero =>
        intro t p g Q hg q7 q6 ok ht
        exact ok.elim
      | succ w ih =>
        intro t p g Q hg q7 q6 ok ht
        obtain ⟨ok1, ok2⟩ := ok
        rw [← hlv, ← hlo, ← hhi] at ok2
        have w1 := hg.2.1.1
        refine zi_iload X dX7_multiplicity_69 rfl ?_
        refine zi_if_eq (tgt := 177) X dX7_multiplicity_71 (by decide) (fun c_71 => (by first | exact absurd (by decide) c_71 | exact absurd c_71 (by decide))) (fun c_71 => ?_)
        refine zi_iinc (v := nI (t + 1)) X dX7_multiplicity_74 rfl (nI_inc _) (by decide) ?_
        refine zi_aload_n X dX7_multiplicity_77 rfl rfl ?_
        refine zi_aload_n X dX7_multiplicity_78 rfl rfl ?_
        refine zi_getf (C := RX7) (T := TX7) (N := 27) (ci := 11) X (by first | assumption | exact mup_self | (rw [mup_ne (by assumption)]; assumption) | (rw [mup_ne (by assumption)]; exact mup_self) | (rw [mup_ne (by assumption), mup_ne (by assumption)]; assumption)) rfl in_X7 17 (by decide) wf_X7_63 rfl rfl dX7_multiplicity_79 ?_
        refine zi_callVv X (r_findFree l D w1 hg.1 (j := 6) (by decide) (by decide) (by rw [q6]; exact ok1)) kc_X7_findFree wm_X7_247 (by first | assumption | exact mup_self | (rw [mup_ne (by assumption)]; assumption) | (rw [mup_ne (by assumption)]; exact mup_self) | (rw [mup_ne (by assumption), mup_ne (by assumption)]; assumption)) rfl wim_X7_findFree wse_X7_findFree ⟨Nat.le_of_ble_eq_true rfl, Nat.le_of_ble_eq_true rfl⟩ rfl rfl (Nat.le_of_ble_eq_true rfl) ⟨Nat.le_of_ble_eq_true rfl, Nat.le_of_ble_eq_true rfl⟩ dX7_multiplicity_82 (fun h4 hp => ?_)
        obtain ⟨hf4, Q4, hq4, q43, -, q4k⟩ := hp
        rw [q6] at q43
        have hu4 := rU_n hg hf4 hq4
        have w2 := hu4.2.1.1
        refine zi_aload_n X dX7_multiplicity_85 rfl rfl ?_
        refine zi_getf (C := RX7) (T := TX7) (N := 27) (ci := 11) X (by first | assumption | exact mup_self | (rw [mup_ne (by assumption)]; assumption) | (rw [mup_ne (by assumption)]; exact mup_self) | (rw [mup_ne (by assumption), mup_ne (by assumption)]; assumption)) rfl in_X7 11 (by decide) wf_X7_42 rfl rfl dX7_multiplicity_86 ?_
        refine zi_aload_n X dX7_multiplicity_89 rfl rfl ?_
        refine zi_getf (C := RX7) (T := TX7) (N := 27) (ci := 11) X (by first | assumption | exact mup_self | (rw [mup_ne (by assumption)]; assumption) | (rw [mup_ne (by assumption)]; exact mup_self) | (rw [mup_ne (by assumption), mup_ne (by assumption)]; assumption)) rfl in_X7 17 (by decide) wf_X7_63 rfl rfl dX7_multiplicity_90 ?_
        refine zi_callSv X (r_copy l D hu4.1 (j := 6) (j2 := 3) (by decide) (by decide) (by decide)) kc_X7_copy_ wm_X7_186 wst_X7_copy_ ⟨Nat.le_of_ble_eq_true rfl, Nat.le_of_ble_eq_true rfl⟩ rfl rfl (Nat.le_of_ble_eq_true rfl) ⟨Nat.le_of_ble_eq_true rfl, Nat.le_of_ble_eq_true rfl⟩ dX7_multiplicity_93 (fun h5 hp => ?_)
        obtain ⟨hf5, hq5⟩ := hp
        have hu5 := rU_n hu4 hf5 hq5
        rw [q43] at hu5
        have w3 := hu5.2.1.1
        have q56 : updP Q4 6 (gcR p (derI p)) 6 = gcR p (derI p) := updP_s
        have q57 : updP Q4 6 (gcR p (derI p)) 7 = P 7 := by rw [updP_n (by decide), q4k 7 (by decide)]; exact q7
        generalize updP Q4 6 (gcR p (derI p)) = Q5 at *
        rw [muR] at ht
        have pg : pC (gcR p (derI p)) := ok1.2.2.2.1
        refine zi_aload_n X dX7_multiplicity_96 rfl rfl ?_
        refine zi_getf (C := RX7) (T := TX7) (N := 27) (ci := 11) X (by first | assumption | exact mup_self | (rw [mup_ne (by assumption)]; assumption) | (rw [mup_ne (by assumption)]; exact mup_self) | (rw [mup_ne (by assumption), mup_ne (by assumption)]; assumption)) rfl in_X7 17 (by decide) wf_X7_63 rfl rfl dX7_multiplicity_97 ?_
        refine zi_callSi X (r_degree l D hu5.1 (j := 6) (by decide) (by rw [q56]; exact pg)) kc_X7_degree wm_X7_166 wst_X7_degree ⟨Nat.le_of_ble_eq_true rfl, Nat.le_of_ble_eq_true rfl⟩ rfl rfl (Nat.le_of_ble_eq_true rfl) ⟨Nat.le_of_ble_eq_true rfl, Nat.le_of_ble_eq_true rfl⟩ dX7_multiplicity_100 (fun r h6 hp => ?_)
        obtain ⟨rfl, rfl⟩ := hp
        rw [q56]
        by_cases c : stI (gcR p (derI p)) 7 ≤ 1
        · rw [if_pos c] at ht
          have le : ¬ nI 1 ≤ nI (stI (gcR p (derI p)) 7) - nI 1 := by
            rcases (show stI (gcR p (derI p)) 7 = 0 ∨ stI (gcR p (derI p)) 7 = 1 by omega) with q | q <;> rw [q] <;> decide
          refine zi_iconst (v := (nI 1)) X dX7_multiplicity_103 (by decide) ?_
          refine zi_icmp_ge (tgt := 110) X dX7_multiplicity_104 (by decide) (fun c_104 => (by first | exact absurd le c_104 | exact absurd c_104 le)) (fun c_104 => ?_)
          refine zi_goto (tgt := 177) X dX7_multiplicity_107 (by decide) ?_
          exact zi_sub (by repeat (first | exact trivial | refine And.intro rfl ?_)) (stop (t + 1) h6 Q5 (some (.int (nI 1))) hu5 q57 ht)
        · rw [if_neg c] at ht
          obtain ⟨ok3, ok4, ok5⟩ := ok2 c
          obtain ⟨d, hd⟩ : ∃ d, stI (gcR p (derI p)) 7 = d + 2 := ⟨stI (gcR p (derI p)) 7 - 2, by omega⟩
          have l7 := stI_le (gcR p (derI p)) 7
          have le : nI 1 ≤ nI (stI (gcR p (derI p)) 7) - nI 1 := by
            rw [hd, show nI (d + 2) - nI 1 = nI (d + 1) from nI_pr (d + 1)]
            exact nI_le (by omega) (by omega)
          refine zi_iconst (v := (nI 1)) X dX7_multiplicity_103 (by decide) ?_
          refine zi_icmp_ge (tgt := 110) X dX7_multiplicity_104 (by decide) (fun c_104 => ?_) (fun c_104 => (by first | exact absurd le c_104 | exact absurd c_104 le))
          by_cases ce : lo = hh
          · have eH1 := eH (gcR p (derI p))
            rw [if_pos ce] at eH1
            refine zi_iload_n X dX7_multiplicity_110 rfl rfl ?_
            refine zi_iload_n X dX7_multiplicity_111 rfl rfl ?_
            refine zi_icmp_ne (tgt := 137) X dX7_multiplicity_112 (by decide) (fun c_112 => (by first | exact absurd (fun q => q (by rw [ce])) c_112 | exact absurd c_112 (fun q => q (by rw [ce])))) (fun c_112 => ?_)
            refine zi_aload_n X dX7_multiplicity_115 rfl rfl ?_
            refine zi_aload_n X dX7_multiplicity_116 rfl rfl ?_
            refine zi_getf (C := RX7) (T := TX7) (N := 27) (ci := 11) X (by first | assumption | exact mup_self | (rw [mup_ne (by assumption)]; assumption) | (rw [mup_ne (by assumption)]; exact mup_self) | (rw [mup_ne (by assumption), mup_ne (by assumption)]; assumption)) rfl in_X7 17 (by decide) wf_X7_63 rfl rfl dX7_multiplicity_117 ?_
            refine zi_iload_n X dX7_multiplicity_120 rfl rfl ?_
            refine zi_i2l X dX7_multiplicity_121 ?_
            refine zi_iload X dX7_multiplicity_122 rfl ?_
            refine zi_callVi X (r_signAt l D w3 hu5.1 (j := 6) (by decide) (by rw [q56]; exact pg) (x := (iI lo).toInt64) (by rw [el]; unfold CC; omega) (k := lv) (by omega) (by rw [q56, el]; exact ok3 ce)) kc_X7_signAt wm_X7_263 (by first | assumption | exact mup_self | (rw [mup_ne (by assumption)]; assumption) | (rw [mup_ne (by assumption)]; exact mup_self) | (rw [mup_ne (by assumption), mup_ne (by assumption)]; assumption)) rfl wim_X7_signAt wse_X7_signAt ⟨Nat.le_of_ble_eq_true rfl, Nat.le_of_ble_eq_true rfl⟩ rfl rfl (Nat.le_of_ble_eq_true rfl) ⟨Nat.le_of_ble_eq_true rfl, Nat.le_of_ble_eq_true rfl⟩ dX7_multiplicity_124 (fun r h7 hp => ?_)
            obtain ⟨hf7, hq7, rfl⟩ := hp
            have hu7 := rU_n hu5 hf7 hq7
            have w4 := hu7.2.1.1
            rw [q56, el]
            by_cases cz : sgnAt (gcR p (derI p)) lo lv = 0
            · have hm := eH1.mpr cz
              rw [if_pos hm] at ht
              refine zi_if_ne (tgt := 134) X dX7_multiplicity_127 (by decide) (fun c_127 => (by first | exact absurd (s3_0.mpr cz) c_127 | exact absurd c_127 (s3_0.mpr cz))) (fun c_127 => ?_)
              refine zi_iconst (v := (nI 1)) X dX7_multiplicity_130 (by decide) ?_
              refine zi_goto (tgt := 135) X dX7_multiplicity_131 (by decide) ?_
              refine zi_istore X dX7_multiplicity_135 (by decide) ?_
              refine zi_iload_n X dX7_multiplicity_137 rfl rfl ?_
              refine zi_iload_n X dX7_multiplicity_138 rfl rfl ?_
              refine zi_icmp_ge (tgt := 69) X dX7_multiplicity_139 (by decide) (fun c_139 => ?_) (fun c_139 => (by first | exact absurd (by rw [ce]; exact Int32.le_refl _) c_139 | exact absurd c_139 (by rw [ce]; exact Int32.le_refl _)))
              exact zi_sub (by repeat (first | exact trivial | refine And.intro rfl ?_)) (ih (t + 1) _ h7 Q5 hu7 q57 q56 (ok5 hm) (by omega))
            · have hm : ¬ muH (V i) (gcR p (derI p)) := fun q => cz (eH1.mp q)
              rw [if_neg hm] at ht
              refine zi_if_ne (tgt := 134) X dX7_multiplicity_127 (by decide) (fun c_127 => ?_) (fun c_127 => (by first | exact absurd (fun q => cz (s3_0.mp q)) c_127 | exact absurd c_127 (fun q => cz (s3_0.mp q))))
              refine zi_iconst (v := (nI 0)) X dX7_multiplicity_134 (by decide) ?_
              refine zi_istore X dX7_multiplicity_135 (by decide) ?_
              refine zi_iload_n X dX7_multiplicity_137 rfl rfl ?_
              refine zi_iload_n X dX7_multiplicity_138 rfl rfl ?_
              refine zi_icmp_ge (tgt := 69) X dX7_multiplicity_139 (by decide) (fun c_139 => ?_) (fun c_139 => (by first | exact absurd (by rw [ce]; exact Int32.le_refl _) c_139 | exact absurd c_139 (by rw [ce]; exact Int32.le_refl _)))
              refine zi_iload X dX7_multiplicity_69 rfl ?_
              refine zi_if_eq (tgt := 177) X dX7_multiplicity_71 (by decide) (fun c_71 => ?_) (fun c_71 => (by first | exact absurd rfl c_71 | exact absurd c_71 rfl))
              exact zi_sub (by repeat (first | exact trivial | refine And.intro rfl ?_)) (stop (t + 1) h7 Q5 (some (.int (nI 0))) hu7 q57 ht)
          · have eH1 := eH (gcR p (derI p))
            rw [if_neg ce] at eH1
            have clt : lo < hh := by omega
            obtain ⟨ok6, ok7, ok8⟩ := ok4 ce
            obtain ⟨k1, k2, k3⟩ := ok7.2.2.2 ce
            obtain ⟨g0, hg0⟩ : ∃ g, stI (frP (gcR p (derI p))) 7 = g + 1 := ⟨stI (frP (gcR p (derI p))) 7 - 1, by omega⟩
            have ect : ctI (frP (gcR p (derI p))) lv lo hh = cntN g0 159 (btF (frP (gcR p (derI p))) lo (hh - lo) lv (g0 + 1) (g0 + 1)) := by
              unfold ctI
              rw [if_neg ce, hg0]
              rfl
            rw [ect] at eH1 ok8
            rw [hg0, Nat.add_sub_cancel] at k3
            refine zi_iload_n X dX7_multiplicity_110 rfl rfl ?_
            refine zi_iload_n X dX7_multiplicity_111 rfl rfl ?_
            refine zi_icmp_ne (tgt := 137) X dX7_multiplicity_112 (by decide) (fun c_112 => ?_) (fun c_112 => (by first | exact absurd (fun q => ce (iI_inj lo31 hh31 q)) c_112 | exact absurd c_112 (fun q => ce (iI_inj lo31 hh31 q))))
            refine zi_iload_n X dX7_multiplicity_137 rfl rfl ?_
            refine zi_iload_n X dX7_multiplicity_138 rfl rfl ?_
            refine zi_icmp_ge (tgt := 69) X dX7_multiplicity_139 (by decide) (fun c_139 => (by first | exact absurd (fun q => by have := (iI_le hh31 lo31).mp q; omega) c_139 | exact absurd c_139 (fun q => by have := (iI_le hh31 lo31).mp q; omega))) (fun c_139 => ?_)
            refine zi_aload_n X dX7_multiplicity_142 rfl rfl ?_
            refine zi_aload_n X dX7_multiplicity_143 rfl rfl ?_
            refine zi_getf (C := RX7) (T := TX7) (N := 27) (ci := 11) X (by first | assumption | exact mup_self | (rw [mup_ne (by assumption)]; assumption) | (rw [mup_ne (by assumption)]; exact mup_self) | (rw [mup_ne (by assumption), mup_ne (by assumption)]; assumption)) rfl in_X7 17 (by decide) wf_X7_63 rfl rfl dX7_multiplicity_144 ?_
            refine zi_callVv X (r_findFree l D w3 hu5.1 (j := 6) (by decide) (by decide) (by rw [q56]; exact ok6)) kc_X7_findFree wm_X7_247 (by first | assumption | exact mup_self | (rw [mup_ne (by assumption)]; assumption) | (rw [mup_ne (by assumption)]; exact mup_self) | (rw [mup_ne (by assumption), mup_ne (by assumption)]; assumption)) rfl wim_X7_findFree wse_X7_findFree ⟨Nat.le_of_ble_eq_true rfl, Nat.le_of_ble_eq_true rfl⟩ rfl rfl (Nat.le_of_ble_eq_true rfl) ⟨Nat.le_of_ble_eq_true rfl, Nat.le_of_ble_eq_true rfl⟩ dX7_multiplicity_147 (fun h7 hp => ?_)
            obtain ⟨hf7, Q7, hq7, -, q74, q7k⟩ := hp
            rw [q56] at q74
            have hu7 := rU_n hu5 hf7 hq7
            have w4 := hu7.2.1.1
            have v5 := hu7.2.1.2.2.2.2.1
            have v7 := hu7.2.1.2.2.2.2.2.2.1
            have q76 : Q7 6 = gcR p (derI p) := by rw [q7k 6 (by decide), q56]
            have q77 : Q7 7 = P 7 := by rw [q7k 7 (by decide), q57]
            refine zi_aload_n X dX7_multiplicity_150 rfl rfl ?_
            refine zi_aload_n X dX7_multiplicity_151 rfl rfl ?_
            refine zi_getf (C := RX7) (T := TX7) (N := 27) (ci := 11) X (by first | assumption | exact mup_self | (rw [mup_ne (by assumption)]; assumption) | (rw [mup_ne (by assumption)]; exact mup_self) | (rw [mup_ne (by assumption), mup_ne (by assumption)]; assumption)) rfl in_X7 12 (by decide) wf_X7_45 rfl rfl dX7_multiplicity_152 ?_
            refine zi_iload_n X dX7_multiplicity_155 rfl rfl ?_
            refine zi_i2l X dX7_multiplicity_156 ?_
            refine zi_iload_n X dX7_multiplicity_157 rfl rfl ?_
            refine zi_i2l X dX7_multiplicity_158 ?_
            refine zi_iload X dX7_multiplicity_159 rfl ?_
            refine zi_callVi X (r_between l D w4 hu7.1 v7 v5 (j := 4) (g := g0) (f := 159) (k := lv) (x := (iI lo).toInt64) (y := (iI hh).toInt64) (by decide) (by rw [q74]; exact k1) (by rw [q74]; exact hg0) (by omega) (by rw [el]; unfold CC; omega) (by rw [el, eh]; unfold CC; omega) (Nat.le_refl _) (by rw [el, eh, q74]; exact k3)) kc_X7_between wm_X7_267 (by first | assumption | exact mup_self | (rw [mup_ne (by assumption)]; assumption) | (rw [mup_ne (by assumption)]; exact mup_self) | (rw [mup_ne (by assumption), mup_ne (by assumption)]; assumption)) rfl wim_X7_between wse_X7_between ⟨Nat.le_of_ble_eq_true rfl, Nat.le_of_ble_eq_true rfl⟩ rfl rfl (Nat.le_of_ble_eq_true rfl) ⟨Nat.le_of_ble_eq_true rfl, Nat.le_of_ble_eq_true rfl⟩ dX7_multiplicity_161 (fun r h8 hp => ?_)
            obtain ⟨rfl, hf8, ⟨Q8, hq8, q8k⟩, hc8⟩ := hp
            have hu8 := rU_b hu7 hf8 hq8 hc8
            have w5 := hu8.2.1.1
            have q86 : Q8 6 = gcR p (derI p) := by rw [q8k 6 (by decide) (by decide), q76]
            have q87 : Q8 7 = P 7 := by rw [q8k 7 (by decide) (by decide), q77]
            rw [el, eh, q74]
            by_cases cz : cntN g0 159 (btF (frP (gcR p (derI p))) lo (hh - lo) lv (g0 + 1) (g0 + 1)) = 0
            · have hm : ¬ muH (V i) (gcR p (derI p)) := fun q => eH1.mp q cz
              rw [if_neg hm] at ht
              refine zi_if_le (tgt := 171) X dX7_multiplicity_164 (by decide) (fun c_164 => ?_) (fun c_164 => (by first | exact absurd (by rw [cz]; exact fun q => q (Int32.le_refl _)) c_164 | exact absurd c_164 (by rw [cz]; exact fun q => q (Int32.le_refl _))))
              refine zi_iconst (v := (nI 0)) X dX7_multiplicity_171 (by decide) ?_
              refine zi_istore X dX7_multiplicity_172 (by decide) ?_
              refine zi_goto (tgt := 69) X dX7_multiplicity_174 (by decide) ?_
              refine zi_iload X dX7_multiplicity_69 rfl ?_
              refine zi_if_eq (tgt := 177) X dX7_multiplicity_71 (by decide) (fun c_71 => ?_) (fun c_71 => (by first | exact absurd rfl c_71 | exact absurd c_71 rfl))
              exact zi_sub (by repeat (first | exact trivial | refine And.intro rfl ?_)) (stop (t + 1) h8 Q8 (some (.int (nI 0))) hu8 q87 ht)
            · have hm := eH1.mpr cz
              rw [if_pos hm] at ht
              refine zi_if_le (tgt := 171) X dX7_multiplicity_164 (by decide) (fun c_164 => (by first | exact absurd (nI_nle (by omega) (by omega)) c_164 | exact absurd c_164 (nI_nle (by omega) (by omega)))) (fun c_164 => ?_)
              refine zi_iconst (v := (nI 1)) X dX7_multiplicity_167 (by decide) ?_
              refine zi_goto (tgt := 172) X dX7_multiplicity_168 (by decide) ?_
              refine zi_istore X dX7_multiplicity_172 (by decide) ?_
              refine zi_goto (tgt := 69) X dX7_multiplicity_174 (by decide) ?_
              exact zi_sub (by repeat (first | exact trivial | refine And.intro rfl ?_)) (ih (t + 1) _ h8 Q8 hu8 q87 q86 (ok5 hm) (by omega))
    · refine zi_icmp_eq (tgt := 30) X dX7_multiplicity_21 (by decide) (fun c_21 => (by first | exact absurd (fun q => c1 (iI_inj vb3 (by decide) q)) c_21 | exact absurd c_21 (fun q => c1 (iI_inj vb3 (by decide) q)))) (fun c_21 => ?_)
      refine zi_aload_n X dX7_multiplicity_24 rfl rfl ?_
      refine zi_iconst (v := (nI 2)) X dX7_multiplicity_25 (by decide) ?_
      refine zi_callVi X (u_fails l D hu) kc_X7_fails wm_X7_212 (by first | assumption | exact mup_self | (rw [mup_ne (by assumption)]; assumption) | (rw [mup_ne (by assumption)]; exact mup_self) | (rw [mup_ne (by assumption), mup_ne (by assumption)]; assumption)) rfl wim_X7_fails wse_X7_fails ⟨Nat.le_of_ble_eq_true rfl, Nat.le_of_ble_eq_true rfl⟩ rfl rfl (Nat.le_of_ble_eq_true rfl) ⟨Nat.le_of_ble_eq_true rfl, Nat.le_of_ble_eq_true rfl⟩ dX7_multiplicity_26 (fun r h3 hp => ?_)
      refine zi_ireturn X Vz dX7_multiplicity_29 ?_
      exact Or.inr ⟨i, hi, rfl, Or.inl ⟨c1, uT_of hp.2⟩⟩
  · refine zi_if_ne (tgt := 14) X dX7_multiplicity_5 (by decide) (fun c_5 => (by first | exact absurd (by decide) c_5 | exact absurd c_5 (by decide))) (fun c_5 => ?_)
    refine zi_aload_n X dX7_multiplicity_8 rfl rfl ?_
    refine zi_iconst (v := (nI 1)) X dX7_multiplicity_9 (by decide) ?_
    refine zi_callVi X (u_fails l D hu) kc_X7_fails wm_X7_212 (by first | assumption | exact mup_self | (rw [mup_ne (by assumption)]; assumption) | (rw [mup_ne (by assumption)]; exact mup_self) | (rw [mup_ne (by assumption), mup_ne (by assumption)]; assumption)) rfl wim_X7_fails wse_X7_fails ⟨Nat.le_of_ble_eq_true rfl, Nat.le_of_ble_eq_true rfl⟩ rfl rfl (Nat.le_of_ble_eq_true rfl) ⟨Nat.le_of_ble_eq_true rfl, Nat.le_of_ble_eq_true rfl⟩ dX7_multiplicity_10 (fun r h1 hp => ?_)
    refine zi_ireturn X Vz dX7_multiplicity_13 ?_
    exact Or.inl ⟨q1, uT_of hp.2⟩
end MU
