/-! SturmRootsModel: findFree -/
def qoOk (g : Nat → Int) (s : Nat) : Nat → (Nat → Int) → Prop
  | 0, _ => True
  | n + 1, f => nC (f (n + s)) ∧ (∃ q, f (n + s) = g s * q) ∧ qoOk g s n (quoF f g s n)
theorem nI_4 {a s : Nat} (h : s ≤ a) : nI a - nI 1 - nI s = nI (a - s) - nI 1 := by
  rw [Int32.sub_eq_add_neg, Int32.sub_eq_add_neg, Int32.add_assoc, Int32.add_comm (-nI 1), ← Int32.add_assoc, ← Int32.sub_eq_add_neg, ← Int32.sub_eq_add_neg, pk_sub h]
/-- what findFree wants of a polynomial -/
def frOk (p : Nat → Int) : Prop := pC p ∧ gcRok p (derI p) ∧ stI (gcR p (derI p)) 7 ≠ 0 ∧ pC (gcR p (derI p)) ∧ 0 < ldI (gcR p (derI p)) ∧ stI (gcR p (derI p)) 7 ≤ stI (prm p) 7 + 1 ∧ qoOk (gcR p (derI p)) (stI (gcR p (derI p)) 7 - 1) (stI (prm p) 7 + 1 - stI (gcR p (derI p)) 7) (prm p) ∧ pC (quoL (gcR p (derI p)) (stI (gcR p (derI p)) 7 - 1) (stI (prm p) 7 + 1 - stI (gcR p (derI p)) 7) (prm p) (fun _ => 0))
def frP (p : Nat → Int) : Nat → Int := quoP (prm p) (gcR p (derI p))
theorem pC_prm {p : Nat → Int} (h : pC p) : pC (prm p) := fun i hi => by
  have := h i hi
  unfold prm
  have hle : ((p i).tdiv (cont p 7 : Nat)).natAbs ≤ (p i).natAbs := by
    rw [Int.natAbs_tdiv]
    exact Nat.div_le_self _ _
  unfold nC at *
  omega
section RW6
variable {cA : Nat → ClassId} {M : Nat → Nat → Nat} {P : Nat → Nat → Int} {h : mH} {o : RO} {m : Nat}
theorem r_findFree (l : Launch) (D : va_G) (hm : h m = some (mO M o)) (hh : hQ cA M P h) {j : Nat} (hj : j < 176) (hj5 : 5 ≤ j) (hok : frOk (P j)) :
    mCv l yX7_findFree cX7_findFree 6 (rmd 8) D (mT cA) [.ref m, .ref (M 1 j)] h (fun h1 => nfr M h1 h ∧ ∃ P', hQ cA M P' h1 ∧ P' 3 = gcR (P j) (derI (P j)) ∧ P' 4 = frP (P j) ∧ ∀ k, 5 ≤ k → P' k = P k) := by
  refine mEnter_v (by decide) (Nat.le_of_ble_eq_true rfl) rfl (fun z X Vz => ?_)
  obtain ⟨ok1, ok2, ok3, ok4, ok5, ok6, ok7, ok8⟩ := hok
  refine zi_aload_n X dX7_findFree_0 rfl rfl ?_
  refine zi_aload_n X dX7_findFree_1 rfl rfl ?_
  refine zi_getf (C := RX7) (T := TX7) (N := 27) (ci := 11) X (by first | assumption | exact mup_self | (rw [mup_ne (by assumption)]; assumption) | (rw [mup_ne (by assumption)]; exact mup_self) | (rw [mup_ne (by assumption), mup_ne (by assumption)]; assumption)) rfl in_X7 8 (by decide) wf_X7_33 rfl rfl dX7_findFree_2 ?_
  refine zi_callSv X (r_copy l D hh (j := 0) (j2 := j) (by decide) hj (by omega)) kc_X7_copy_ wm_X7_186 wst_X7_copy_ ⟨Nat.le_of_ble_eq_true rfl, Nat.le_of_ble_eq_true rfl⟩ rfl rfl (Nat.le_of_ble_eq_true rfl) ⟨Nat.le_of_ble_eq_true rfl, Nat.le_of_ble_eq_true rfl⟩ dX7_findFree_5 (fun h1 hp => ?_)
  obtain ⟨hf1, hq1⟩ := hp
  have gm1 := hQ_fr hh hf1 hm (mO_ne M o)
  refine zi_aload_n X dX7_findFree_8 rfl rfl ?_
  refine zi_aload_n X dX7_findFree_9 rfl rfl ?_
  refine zi_getf (C := RX7) (T := TX7) (N := 27) (ci := 11) X (by first | assumption | exact mup_self | (rw [mup_ne (by assumption)]; assumption) | (rw [mup_ne (by assumption)]; exact mup_self) | (rw [mup_ne (by assumption), mup_ne (by assumption)]; assumption)) rfl in_X7 9 (by decide) wf_X7_36 rfl rfl dX7_findFree_10 ?_
  refine zi_callSv X (r_derive l D hq1 (j := 1) (j2 := j) (by decide) hj (by omega)) kc_X7_derive wm_X7_188 wst_X7_derive ⟨Nat.le_of_ble_eq_true rfl, Nat.le_of_ble_eq_true rfl⟩ rfl rfl (Nat.le_of_ble_eq_true rfl) ⟨Nat.le_of_ble_eq_true rfl, Nat.le_of_ble_eq_true rfl⟩ dX7_findFree_13 (fun h2 hp => ?_)
  obtain ⟨hf2, hq2⟩ := hp
  have gm2 := hQ_fr hq1 hf2 gm1 (mO_ne M o)
  refine zi_aload_n X dX7_findFree_16 rfl rfl ?_
  refine zi_aload_n X dX7_findFree_17 rfl rfl ?_
  refine zi_getf (C := RX7) (T := TX7) (N := 27) (ci := 11) X (by first | assumption | exact mup_self | (rw [mup_ne (by assumption)]; assumption) | (rw [mup_ne (by assumption)]; exact mup_self) | (rw [mup_ne (by assumption), mup_ne (by assumption)]; assumption)) rfl in_X7 10 (by decide) wf_X7_39 rfl rfl dX7_findFree_18 ?_
  refine zi_callSv X (r_copy l D hq2 (j := 2) (j2 := j) (by decide) hj (by omega)) kc_X7_copy_ wm_X7_186 wst_X7_copy_ ⟨Nat.le_of_ble_eq_true rfl, Nat.le_of_ble_eq_true rfl⟩ rfl rfl (Nat.le_of_ble_eq_true rfl) ⟨Nat.le_of_ble_eq_true rfl, Nat.le_of_ble_eq_true rfl⟩ dX7_findFree_21 (fun h3 hp => ?_)
  obtain ⟨hf3, hq3⟩ := hp
  have gm3 := hQ_fr hq2 hf3 gm2 (mO_ne M o)
  have e0 : updP (updP (updP P 0 (P j)) 1 (derI (updP P 0 (P j) j))) 2 (updP (updP P 0 (P j)) 1 (derI (updP P 0 (P j) j)) j) = updP (updP (updP P 0 (P j)) 1 (derI (P j))) 2 (P j) := by
    rw [updP_n (show j ≠ 1 by omega), updP_n (show j ≠ 0 by omega)]
  rw [e0] at hq3
  refine zi_aload_n X dX7_findFree_24 rfl rfl ?_
  refine zi_callVv X (r_findCommon l D gm3 hq3 (by rw [updP_n (by decide), updP_n (by decide), updP_s, updP_n (by decide), updP_s]; exact ok2)) kc_X7_findCommon wm_X7_191 (by first | assumption | exact mup_self | (rw [mup_ne (by assumption)]; assumption) | (rw [mup_ne (by assumption)]; exact mup_self) | (rw [mup_ne (by assumption), mup_ne (by assumption)]; assumption)) rfl wim_X7_findCommon wse_X7_findCommon ⟨Nat.le_of_ble_eq_true rfl, Nat.le_of_ble_eq_true rfl⟩ rfl rfl (Nat.le_of_ble_eq_true rfl) ⟨Nat.le_of_ble_eq_true rfl, Nat.le_of_ble_eq_true rfl⟩ dX7_findFree_25 (fun h4 hp => ?_)
  obtain ⟨hf4, Q4, hq4, q43, q4k⟩ := hp
  have gm4 := hQ_fr hq3 hf4 gm3 (mO_ne M o)
  rw [updP_n (by decide), updP_n (by decide), updP_s, updP_n (by decide), updP_s] at q43
  have q42 : Q4 2 = P j := by rw [q4k 2 (by decide) (by decide) (by decide), updP_s]
  have q45 : ∀ k, 5 ≤ k → Q4 k = P k := fun k hk => by rw [q4k k (by omega) (by omega) (by omega), updP_n (by omega), updP_n (by omega), updP_n (by omega)]
  refine zi_aload_n X dX7_findFree_28 rfl rfl ?_
  refine zi_aload_n X dX7_findFree_29 rfl rfl ?_
  refine zi_getf (C := RX7) (T := TX7) (N := 27) (ci := 11) X (by first | assumption | exact mup_self | (rw [mup_ne (by assumption)]; assumption) | (rw [mup_ne (by assumption)]; exact mup_self) | (rw [mup_ne (by assumption), mup_ne (by assumption)]; assumption)) rfl in_X7 10 (by decide) wf_X7_39 rfl rfl dX7_findFree_30 ?_
  refine zi_callVv X (r_primitive l D gm4 hq4 (j := 2) (by decide) (by rw [q42]; exact ok1)) kc_X7_primitive wm_X7_176 (by first | assumption | exact mup_self | (rw [mup_ne (by assumption)]; assumption) | (rw [mup_ne (by assumption)]; exact mup_self) | (rw [mup_ne (by assumption), mup_ne (by assumption)]; assumption)) rfl wim_X7_primitive wse_X7_primitive ⟨Nat.le_of_ble_eq_true rfl, Nat.le_of_ble_eq_true rfl⟩ rfl rfl (Nat.le_of_ble_eq_true rfl) ⟨Nat.le_of_ble_eq_true rfl, Nat.le_of_ble_eq_true rfl⟩ dX7_findFree_33 (fun h5 hp => ?_)
  obtain ⟨hf5, hq5⟩ := hp
  have gm5 := hQ_fr hq4 hf5 gm4 (mO_ne M o)
  rw [q42] at hq5
  generalize hcm : gcR (P j) (derI (P j)) = cm at *
  refine zi_aload_n X dX7_findFree_36 rfl rfl ?_
  refine zi_getf (C := RX7) (T := TX7) (N := 27) (ci := 11) X (by first | assumption | exact mup_self | (rw [mup_ne (by assumption)]; assumption) | (rw [mup_ne (by assumption)]; exact mup_self) | (rw [mup_ne (by assumption), mup_ne (by assumption)]; assumption)) rfl in_X7 11 (by decide) wf_X7_42 rfl rfl dX7_findFree_37 ?_
  refine zi_callSi X (r_degree l D hq5 (j := 3) (by decide) (by rw [updP_n (by decide), q43]; exact ok4)) kc_X7_degree wm_X7_166 wst_X7_degree ⟨Nat.le_of_ble_eq_true rfl, Nat.le_of_ble_eq_true rfl⟩ rfl rfl (Nat.le_of_ble_eq_true rfl) ⟨Nat.le_of_ble_eq_true rfl, Nat.le_of_ble_eq_true rfl⟩ dX7_findFree_40 (fun r h6 hp => ?_)
  obtain ⟨rfl, rfl⟩ := hp
  rw [updP_n (by decide), q43]
  obtain ⟨s, hs⟩ : ∃ s, stI cm 7 = s + 1 := ⟨stI cm 7 - 1, by omega⟩
  have s7 : s < 7 := by have := stI_le cm 7; omega
  have cs0 : 0 < cm s := by unfold ldI at ok5; rw [hs] at ok5; exact ok5
  rw [hs, Nat.add_sub_cancel] at ok7 ok8
  rw [hs, nI_pr]
  refine zi_istore_n X dX7_findFree_43 rfl (by decide) ?_
  refine zi_iconst (v := (nI 0)) X dX7_findFree_44 (by decide) ?_
  refine zi_istore_n X dX7_findFree_45 rfl (by decide) ?_
  have hfh : nfr M h6 h := nfr_tr hf5 (nfr_tr hf4 (nfr_tr hf3 (nfr_tr hf2 hf1)))
  -- the quotient's coefficients
  have main : ∀ (g : mH) (Q : Nat → Nat → Int), nfr M g h → hQ cA M Q g → Q 2 = prm (P j) → Q 3 = cm → (∀ i, i < 7 → Q 4 i = 0) → (∀ k, 5 ≤ k → Q k = P k) → zM z 0 0 68 [some (.ref m), some (.ref (M 1 j)), some (.int (nI s)), none, none, none] [] g := fun g Q hf hQg q2 q3 q4 q5 => by
    have gm := hQ_fr hh hf hm (mO_ne M o)
    refine zi_aload_n X dX7_findFree_68 rfl rfl ?_
    refine zi_getf (C := RX7) (T := TX7) (N := 27) (ci := 11) X (by first | assumption | exact mup_self | (rw [mup_ne (by assumption)]; assumption) | (rw [mup_ne (by assumption)]; exact mup_self) | (rw [mup_ne (by assumption), mup_ne (by assumption)]; assumption)) rfl in_X7 10 (by decide) wf_X7_39 rfl rfl dX7_findFree_69 ?_
    refine zi_callSi X (r_degree l D hQg (j := 2) (by decide) (by rw [q2]; exact pC_prm ok1)) kc_X7_degree wm_X7_166 wst_X7_degree ⟨Nat.le_of_ble_eq_true rfl, Nat.le_of_ble_eq_true rfl⟩ rfl rfl (Nat.le_of_ble_eq_true rfl) ⟨Nat.le_of_ble_eq_true rfl, Nat.le_of_ble_eq_true rfl⟩ dX7_findFree_72 (fun r h7 hp => ?_)
    obtain ⟨rfl, rfl⟩ := hp
    rw [q2]
    have stp := stI_le (prm (P j)) 7
    refine zi_iload_n X dX7_findFree_75 rfl rfl ?_
    refine zi_isub X dX7_findFree_76 ?_
    refine zi_istore_n X dX7_findFree_77 rfl (by decide) ?_
    rw [nI_4 (by omega)]
    have en : stI (prm (P j)) 7 + 1 - stI cm 7 = stI (prm (P j)) 7 - s := by omega
    have efr : frP (P j) = mkpos (prm (quoL cm s (stI (prm (P j)) 7 - s) (prm (P j)) (fun _ => 0))) := by
      unfold frP quoP
      rw [hcm, if_neg ok3, en, hs]
      rfl
    rw [Nat.add_sub_add_right] at ok7 ok8
    suffices key : ∀ n (f e : Nat → Int) (g : mH) (Q : Nat → Nat → Int), n + s ≤ 7 → qoOk cm s n f → quoL cm s n f e = quoL cm s (stI (prm (P j)) 7 - s) (prm (P j)) (fun _ => 0) → nfr M g h → hQ cA M Q g → (∀ i, i < 7 → Q 2 i = f i) → Q 3 = cm → (∀ i, i < 7 → Q 4 i = e i) → (∀ k, 5 ≤ k → Q k = P k) → zM z 0 0 78 [some (.ref m), some (.ref (M 1 j)), some (.int (nI s)), some (.int (nI n - nI 1)), none, none] [] g from
      zi_sub (by repeat (first | exact trivial | refine And.intro rfl ?_)) (key _ _ _ h7 Q (by omega) ok7 rfl hf hQg (fun i _ => by rw [q2]) q3 q4 q5)
    intro n
    induction n with
    | zero =>
      intro f e g Q hns hqo hql hf hQg q2 q3 q4 q5
      have gm := hQ_fr hh hf hm (mO_ne M o)
      rw [quoL] at hql
      have hQ4 : pC (Q 4) := fun i hi => by rw [q4 i hi, hql]; exact ok8 i hi
      refine zi_iload_n X dX7_findFree_78 rfl rfl ?_
      refine zi_if_lt (tgt := 199) X dX7_findFree_79 (by decide) (fun c_79 => ?_) (fun c_79 => (by first | exact absurd (by decide) c_79 | exact absurd c_79 (by decide)))
      refine zi_aload_n X dX7_findFree_199 rfl rfl ?_
      refine zi_aload_n X dX7_findFree_200 rfl rfl ?_
      refine zi_getf (C := RX7) (T := TX7) (N := 27) (ci := 11) X (by first | assumption | exact mup_self | (rw [mup_ne (by assumption)]; assumption) | (rw [mup_ne (by assumption)]; exact mup_self) | (rw [mup_ne (by assumption), mup_ne (by assumption)]; assumption)) rfl in_X7 12 (by decide) wf_X7_45 rfl rfl dX7_findFree_201 ?_
      refine zi_callVv X (r_primitive l D gm hQg (j := 4) (by decide) hQ4) kc_X7_primitive wm_X7_176 (by first | assumption | exact mup_self | (rw [mup_ne (by assumption)]; assumption) | (rw [mup_ne (by assumption)]; exact mup_self) | (rw [mup_ne (by assumption), mup_ne (by assumption)]; assumption)) rfl wim_X7_primitive wse_X7_primitive ⟨Nat.le_of_ble_eq_true rfl, Nat.le_of_ble_eq_true rfl⟩ rfl rfl (Nat.le_of_ble_eq_true rfl) ⟨Nat.le_of_ble_eq_true rfl, Nat.le_of_ble_eq_true rfl⟩ dX7_findFree_204 (fun h8 hp => ?_)
      obtain ⟨hf8, hq8⟩ := hp
      have gm8 := hQ_fr hQg hf8 gm (mO_ne M o)
      refine zi_aload_n X dX7_findFree_207 rfl rfl ?_
      refine zi_aload_n X dX7_findFree_208 rfl rfl ?_
      refine zi_getf (C := RX7) (T := TX7) (N := 27) (ci := 11) X (by first | assumption | exact mup_self | (rw [mup_ne (by assumption)]; assumption) | (rw [mup_ne (by assumption)]; exact mup_self) | (rw [mup_ne (by assumption), mup_ne (by assumption)]; assumption)) rfl in_X7 12 (by decide) wf_X7_45 rfl rfl dX7_findFree_209 ?_
      refine zi_callVv X (r_positive l D gm8 hq8 (j := 4) (by decide) (by rw [updP_s]; exact pC_prm hQ4)) kc_X7_positive wm_X7_183 (by first | assumption | exact mup_self | (rw [mup_ne (by assumption)]; assumption) | (rw [mup_ne (by assumption)]; exact mup_self) | (rw [mup_ne (by assumption), mup_ne (by assumption)]; assumption)) rfl wim_X7_positive wse_X7_positive ⟨Nat.le_of_ble_eq_true rfl, Nat.le_of_ble_eq_true rfl⟩ rfl rfl (Nat.le_of_ble_eq_true rfl) ⟨Nat.le_of_ble_eq_true rfl, Nat.le_of_ble_eq_true rfl⟩ dX7_findFree_212 (fun h9 hp => ?_)
      obtain ⟨hf9, hq9⟩ := hp
      rw [updP_s, updP_updP] at hq9
      refine zi_return X Vz dX7_findFree_215 ?_
      have e4 : mkpos (prm (Q 4)) = frP (P j) ∨ True := Or.inr trivial
      refine ⟨nfr_tr hf9 (nfr_tr hf8 hf), updP Q 4 (frP (P j)), hQ_cong hq9 (fun k hk i hi => ?_), by rw [updP_n (by decide)]; exact q3, updP_s, fun k hk => by rw [updP_n (by omega)]; exact q5 k hk⟩
      unfold updP
      by_cases c : k = 4
      · rw [if_pos c, if_pos c, efr, ← hql]
        have hc : ∀ i, i < 7 → prm (Q 4) i = prm e i := fun i hi => by
          unfold prm
          rw [q4 i hi, cont_cong (fun i hi => q4 i hi)]
        unfold mkpos ldI
        rw [stI_cong (fun i hi => hc i hi), hc i hi]
        have l7 := stI_le (prm e) 7
        rw [hc (stI (prm e) 7 - 1) (by omega)]
      · rw [if_neg c, if_neg c]
    | succ n ih =>
      intro f e g Q hns hqo hql hf hQg q2 q3 q4 q5
      have gm := hQ_fr hh hf hm (mO_ne M o)
      obtain ⟨o1, ⟨dq, o2⟩, o3⟩ := hqo
      obtain ⟨N, hN0, hP⟩ := id hQg
      rw [nI_pr]
      have n7 : n < 7 := by omega
      have a2 := hN0.2.1 2 (by decide)
      have au := hN0.1 1233 (by decide)
      have at_ := hN0.1 (7 * 2 + (n + s)) (by omega)
      rw [hP 2 (by decide) _ (by omega), q2 _ (by omega)] at at_
      refine zi_iload_n X dX7_findFree_78 rfl rfl ?_
      refine zi_if_lt (tgt := 199) X dX7_findFree_79 (by decide) (fun c_79 => (by first | exact absurd (nI_pos (by omega)) c_79 | exact absurd c_79 (nI_pos (by omega)))) (fun c_79 => ?_)
      refine zi_aload_n X dX7_findFree_82 rfl rfl ?_
      refine zi_getf (C := RX7) (T := TX7) (N := 27) (ci := 11) X (by first | assumption | exact mup_self | (rw [mup_ne (by assumption)]; assumption) | (rw [mup_ne (by assumption)]; exact mup_self) | (rw [mup_ne (by assumption), mup_ne (by assumption)]; assumption)) rfl in_X7 10 (by decide) wf_X7_39 rfl rfl dX7_findFree_83 ?_
      refine zi_iload_n X dX7_findFree_86 rfl rfl ?_
      refine zi_iload_n X dX7_findFree_87 rfl rfl ?_
      refine zi_iadd X dX7_findFree_88 ?_
      refine zi_aaldA X 4 (by first | assumption | exact mup_self | (rw [mup_ne (by assumption)]; assumption) | (rw [mup_ne (by assumption)]; exact mup_self) | (rw [mup_ne (by assumption), mup_ne (by assumption)]; assumption)) rfl (by rw [nI_add]; exact vin (show n + s < 7 by omega) (by decide)) (pa_at2 (i := n + s) (nI_add n s) (by omega)) dX7_findFree_89 ?_
      refine zi_aload_n X dX7_findFree_90 rfl rfl ?_
      refine zi_getf (C := RX7) (T := TX7) (N := 27) (ci := 11) X (by first | assumption | exact mup_self | (rw [mup_ne (by assumption)]; assumption) | (rw [mup_ne (by assumption)]; exact mup_self) | (rw [mup_ne (by assumption), mup_ne (by assumption)]; assumption)) rfl in_X7 3 (by decide) wf_X7_18 rfl rfl dX7_findFree_91 ?_
      refine zi_callSv X (n_copy l D at_ au (hN_ne hN0 (by omega) (by decide) (by omega))) kc_X7_copy wm_X7_113 wst_X7_copy ⟨Nat.le_of_ble_eq_true rfl, Nat.le_of_ble_eq_true rfl⟩ rfl rfl (Nat.le_of_ble_eq_true rfl) ⟨Nat.le_of_ble_eq_true rfl, Nat.le_of_ble_eq_true rfl⟩ dX7_findFree_94 (fun h8 hp => ?_)
      subst hp
      have hN1 := hN_up hN0 (n := 1233) (by decide) (f (n + s))
      have hf1 := nfr_tr (nfr_up (M := M) (h := g) (n := 1233) (e := nE (cA 0) (f (n + s))) (by decide)) hf
      have gm1 := hQ_fr hh hf1 hm (mO_ne M o)
      have bu := hN1.1 1233 (by decide)
      rw [updI_s] at bu
      refine zi_aload_n X dX7_findFree_97 rfl rfl ?_
      refine zi_getf (C := RX7) (T := TX7) (N := 27) (ci := 11) X (by first | assumption | exact mup_self | (rw [mup_ne (by assumption)]; assumption) | (rw [mup_ne (by assumption)]; exact mup_self) | (rw [mup_ne (by assumption), mup_ne (by assumption)]; assumption)) rfl in_X7 3 (by decide) wf_X7_18 rfl rfl dX7_findFree_98 ?_
      refine zi_callSi X (n_bare l D bu (nB_C o1)) kc_X7_bare wm_X7_155 wst_X7_bare ⟨Nat.le_of_ble_eq_true rfl, Nat.le_of_ble_eq_true rfl⟩ rfl rfl (Nat.le_of_ble_eq_true rfl) ⟨Nat.le_of_ble_eq_true rfl, Nat.le_of_ble_eq_true rfl⟩ dX7_findFree_101 (fun r h8 hp => ?_)
      obtain ⟨rfl, rfl⟩ := hp
      rw [mup_mup]
      have hN2 := hN_up hN0 (n := 1233) (by decide) ((f (n + s)).natAbs : Int)
      have hf2 := nfr_tr (nfr_up (M := M) (h := g) (n := 1233) (e := nE (cA 0) ((f (n + s)).natAbs : Int)) (by decide)) hf
      have gm2 := hQ_fr hh hf2 hm (mO_ne M o)
      have c3 := hN2.2.1 3 (by decide)
      have c4 := hN2.2.1 4 (by decide)
      have cu := hN2.1 1233 (by decide)
      have cl := hN2.1 (7 * 3 + s) (by omega)
      have cf := hN2.1 (7 * 4 + n) (by omega)
      have cy := hN2.1 1237 (by decide)
      rw [updI_s] at cu
      rw [updI_n (by omega), hP 3 (by decide) s s7, q3] at cl
      have hdv : ∃ q, ((f (n + s)).natAbs : Int) = cm s * q := by
        refine ⟨(dq.natAbs : Int), ?_⟩
        conv => lhs; rw [o2, Int.natAbs_mul, Int.natCast_mul]
        rw [show ((cm s).natAbs : Int) = cm s by omega]
      refine zi_istore X dX7_findFree_104 (by decide) ?_
      refine zi_aload_n X dX7_findFree_106 rfl rfl ?_
      refine zi_aload_n X dX7_findFree_107 rfl rfl ?_
      refine zi_getf (C := RX7) (T := TX7) (N := 27) (ci := 11) X (by first | assumption | exact mup_self | (rw [mup_ne (by assumption)]; assumption) | (rw [mup_ne (by assumption)]; exact mup_self) | (rw [mup_ne (by assumption), mup_ne (by assumption)]; assumption)) rfl in_X7 3 (by decide) wf_X7_18 rfl rfl dX7_findFree_108 ?_
      refine zi_aload_n X dX7_findFree_111 rfl rfl ?_
      refine zi_getf (C := RX7) (T := TX7) (N := 27) (ci := 11) X (by first | assumption | exact mup_self | (rw [mup_ne (by assumption)]; assumption) | (rw [mup_ne (by assumption)]; exact mup_self) | (rw [mup_ne (by assumption), mup_ne (by assumption)]; assumption)) rfl in_X7 11 (by decide) wf_X7_42 rfl rfl dX7_findFree_112 ?_
      refine zi_iload_n X dX7_findFree_115 rfl rfl ?_
      refine zi_aaldA X 4 (by first | assumption | exact mup_self | (rw [mup_ne (by assumption)]; assumption) | (rw [mup_ne (by assumption)]; exact mup_self) | (rw [mup_ne (by assumption), mup_ne (by assumption)]; assumption)) rfl (vin s7 (by decide)) (pa_at (i := s) s7) dX7_findFree_116 ?_
      refine zi_aload_n X dX7_findFree_117 rfl rfl ?_
      refine zi_getf (C := RX7) (T := TX7) (N := 27) (ci := 11) X (by first | assumption | exact mup_self | (rw [mup_ne (by assumption)]; assumption) | (rw [mup_ne (by assumption)]; exact mup_self) | (rw [mup_ne (by assumption), mup_ne (by assumption)]; assumption)) rfl in_X7 12 (by decide) wf_X7_45 rfl rfl dX7_findFree_118 ?_
      refine zi_iload_n X dX7_findFree_121 rfl rfl ?_
      refine zi_aaldA X 4 (by first | assumption | exact mup_self | (rw [mup_ne (by assumption)]; assumption) | (rw [mup_ne (by assumption)]; exact mup_self) | (rw [mup_ne (by assumption), mup_ne (by assumption)]; assumption)) rfl (vin n7 (by decide)) (pa_at (i := n) n7) dX7_findFree_122 ?_
      refine zi_callVv X (n_quotient l D gm2 cu cl cf cy (hN_ne hN2 (by decide) (by omega) (by omega)) (hN_ne hN2 (by decide) (by omega) (by omega)) (hN_ne hN2 (by omega) (by omega) (by omega)) (hN_ne hN2 (by decide) (by decide) (by decide)) (hN_ne hN2 (by omega) (by decide) (by omega)) (hN_ne hN2 (by omega) (by decide) (by omega)) (by omega) (nC_abs o1) cs0 (nB_C (ok4 s s7)) hdv) kc_X7_quotient wm_X7_162 (by first | assumption | exact mup_self | (rw [mup_ne (by assumption)]; assumption) | (rw [mup_ne (by assumption)]; exact mup_self) | (rw [mup_ne (by assumption), mup_ne (by assumption)]; assumption)) rfl wim_X7_quotient wse_X7_quotient ⟨Nat.le_of_ble_eq_true rfl, Nat.le_of_ble_eq_true rfl⟩ rfl rfl (Nat.le_of_ble_eq_true rfl) ⟨Nat.le_of_ble_eq_true rfl, Nat.le_of_ble_eq_true rfl⟩ dX7_findFree_123 (fun h8 hp => ?_)
      obtain ⟨r, v, rfl⟩ := hp
      have hN3 : hN cA M (updI (updI (updI (updI N 1233 ((f (n + s)).natAbs : Int)) (7 * 4 + n) (((f (n + s)).natAbs : Int) / cm s)) 1233 r) 1237 v) (qH (mup g (M 0 1233) (nE (cA 0) ((f (n + s)).natAbs : Int))) (cA 0) (M 0 (7 * 4 + n)) (M 0 1233) (M 0 1237) (((f (n + s)).natAbs : Int) / cm s) r v) := hN_up (hN_up (hN_up hN2 (by omega) _) (by decide) _) (by decide) _
      have hf3 : nfr M (qH (mup g (M 0 1233) (nE (cA 0) ((f (n + s)).natAbs : Int))) (cA 0) (M 0 (7 * 4 + n)) (M 0 1233) (M 0 1237) (((f (n + s)).natAbs : Int) / cm s) r v) h := nfr_tr (nfr_tr (nfr_up (by decide)) (nfr_tr (nfr_up (by decide)) (nfr_up (by omega)))) hf2
      generalize qH (mup g (M 0 1233) (nE (cA 0) ((f (n + s)).natAbs : Int))) (cA 0) (M 0 (7 * 4 + n)) (M 0 1233) (M 0 1237) (((f (n + s)).natAbs : Int) / cm s) r v = g3 at hN3 hf3 ⊢
      have eN3 : ∀ k, k < 1232 → k ≠ 7 * 4 + n → updI (updI (updI (updI N 1233 ((f (n + s)).natAbs : Int)) (7 * 4 + n) (((f (n + s)).natAbs : Int) / cm s)) 1233 r) 1237 v k = N k := fun k hk q => by rw [updI_n (by omega), updI_n (by omega), updI_n q, updI_n (by omega)]
      have eQ3 : updI (updI (updI (updI N 1233 ((f (n + s)).natAbs : Int)) (7 * 4 + n) (((f (n + s)).natAbs : Int) / cm s)) 1233 r) 1237 v (7 * 4 + n) = ((f (n + s)).natAbs : Int) / cm s := by rw [updI_n (by omega), updI_n (by omega), updI_s]
      generalize updI (updI (updI (updI N 1233 ((f (n + s)).natAbs : Int)) (7 * 4 + n) (((f (n + s)).natAbs : Int) / cm s)) 1233 r) 1237 v = N3 at hN3 eN3 eQ3
      have etd := td_abs (v := f (n + s)) (c := (cm s).natAbs) (by omega)
      rw [show (((cm s).natAbs : Nat) : Int) = cm s by omega] at etd
      have eD : (f (n + s)).tdiv (cm s) = quoD f cm s n := rfl
      -- the subtraction
      have s140 : ∀ (g4 : mH) (N4 : Nat → Int), nfr M g4 h → hN cA M N4 g4 → (∀ k, k < 1232 → k ≠ 7 * 4 + n → N4 k = N k) → N4 (7 * 4 + n) = quoD f cm s n → zM z 0 0 140 [some (.ref m), some (.ref (M 1 j)), some (.int (nI s)), some (.int (nI n)), none, none] [] g4 := fun g4 N4 hf4 hN4 e4 eq4 => by
        refine zi_iconst (v := (nI 0)) X dX7_findFree_140 (by decide) ?_
        refine zi_istore X dX7_findFree_141 (by decide) ?_
        suffices inner : ∀ w i (g5 : mH) (N5 : Nat → Int), i + w = s + 1 → nfr M g5 h → hN cA M N5 g5 → (∀ k, k < 1232 → N5 k = setP N4 2 (fun u => if n ≤ u ∧ u < n + i then f u - quoD f cm s n * cm (u - n) else f u) k) → zM z 0 0 143 [some (.ref m), some (.ref (M 1 j)), some (.int (nI s)), some (.int (nI n)), none, some (.int (nI i))] [] g5 from by
          refine zi_sub (by repeat (first | exact trivial | refine And.intro rfl ?_)) (inner (s + 1) 0 g4 N4 (by omega) hf4 hN4 (fun k hk => ?_))
          unfold setP
          split
          · next q =>
            dsimp only
            rw [if_neg (by omega), e4 k hk (by omega), ← q2 _ (by omega), ← hP 2 (by decide) _ (by omega)]
            congr 1; omega
          · rfl
        intro w
        induction w with
        | zero =>
          intro i g5 N5 hi hf5 hN5 e5
          obtain rfl : i = s + 1 := by omega
          have p4 : ∀ i, i < 7 → N5 (7 * 4 + i) = updI e n (quoD f cm s n) i := fun i hi => by
            rw [e5 _ (by omega), setP_out (by decide) hi]
            by_cases c : i = n
            · rw [c, eq4, updI_s]
            · rw [updI_n c, e4 _ (by omega) (by omega), hP 4 (by decide) i hi, q4 i hi]
          refine zi_iload X dX7_findFree_143 rfl ?_
          refine zi_iload_n X dX7_findFree_145 rfl rfl ?_
          refine zi_icmp_gt (tgt := 193) X dX7_findFree_146 (by decide) (fun c_146 => ?_) (fun c_146 => (by first | exact absurd (nI_lt (show s < s + 1 by omega) (by omega)) c_146 | exact absurd c_146 (nI_lt (show s < s + 1 by omega) (by omega))))
          refine zi_iinc X dX7_findFree_193 rfl rfl (by decide) ?_
          refine zi_goto (tgt := 78) X dX7_findFree_196 (by decide) ?_
          rw [nI_dm]
          have p2 : ∀ i, i < 7 → N5 (7 * 2 + i) = quoF f cm s n i := fun i hi => by
            rw [e5 _ (by omega), setP_at hi]
            unfold quoF
            by_cases c : n ≤ i ∧ i < n + (s + 1)
            · rw [if_pos c, if_pos (by omega)]
            · rw [if_neg c, if_neg (by omega)]
          refine zi_sub (by repeat (first | exact trivial | refine And.intro rfl ?_)) (ih (quoF f cm s n) (updI e n (quoD f cm s n)) g5 (updP (updP Q 2 (quoF f cm s n)) 4 (updI e n (quoD f cm s n))) (by omega) o3 (by rw [← hql]; rfl) hf5 ⟨N5, hN5, fun k hk i hi => ?_⟩ (fun i _ => by rw [updP_n (by decide), updP_s]) (by rw [updP_n (by decide), updP_n (by decide)]; exact q3) (fun i _ => by rw [updP_s]) (fun k hk => by rw [updP_n (by omega), updP_n (by omega)]; exact q5 k hk))
          unfold updP
          by_cases c4 : k = 4
          · rw [if_pos c4, c4]; exact p4 i hi
          · rw [if_neg c4]
            by_cases c2 : k = 2
            · rw [if_pos c2, c2]; exact p2 i hi
            · rw [if_neg c2, e5 _ (by omega), setP_out c2 hi, e4 _ (by omega) (by omega), hP k hk i hi]
        | succ w ihw =>
          intro i g5 N5 hi hf5 hN5 e5
          have gm5 := hQ_fr hh hf5 hm (mO_ne M o)
          have i7 : i < 7 := by omega
          have k2 := hN5.2.1 2 (by decide)
          have k3 := hN5.2.1 3 (by decide)
          have k4 := hN5.2.1 4 (by decide)
          have kc := hN5.1 (7 * 3 + i) (by omega)
          have kf := hN5.1 (7 * 4 + n) (by omega)
          have kx := hN5.1 1236 (by decide)
          rw [e5 _ (by omega), setP_out (by decide) i7, e4 _ (by omega) (by omega), hP 3 (by decide) i i7, q3] at kc
          rw [e5 _ (by omega), setP_out (by decide) n7, eq4] at kf
          refine zi_iload X dX7_findFree_143 rfl ?_
          refine zi_iload_n X dX7_findFree_145 rfl rfl ?_
          refine zi_icmp_gt (tgt := 193) X dX7_findFree_146 (by decide) (fun c_146 => (by first | exact absurd (nI_nlt (show i ≤ s by omega) (by omega)) c_146 | exact absurd c_146 (nI_nlt (show i ≤ s by omega) (by omega)))) (fun c_146 => ?_)
          refine zi_aload_n X dX7_findFree_149 rfl rfl ?_
          refine zi_getf (C := RX7) (T := TX7) (N := 27) (ci := 11) X (by first | assumption | exact mup_self | (rw [mup_ne (by assumption)]; assumption) | (rw [mup_ne (by assumption)]; exact mup_self) | (rw [mup_ne (by assumption), mup_ne (by assumption)]; assumption)) rfl in_X7 11 (by decide) wf_X7_42 rfl rfl dX7_findFree_150 ?_
          refine zi_iload X dX7_findFree_153 rfl ?_
          refine zi_aaldA X 4 (by first | assumption | exact mup_self | (rw [mup_ne (by assumption)]; assumption) | (rw [mup_ne (by assumption)]; exact mup_self) | (rw [mup_ne (by assumption), mup_ne (by assumption)]; assumption)) rfl (vin i7 (by decide)) (pa_at (i := i) i7) dX7_findFree_155 ?_
          refine zi_aload_n X dX7_findFree_156 rfl rfl ?_
          refine zi_getf (C := RX7) (T := TX7) (N := 27) (ci := 11) X (by first | assumption | exact mup_self | (rw [mup_ne (by assumption)]; assumption) | (rw [mup_ne (by assumption)]; exact mup_self) | (rw [mup_ne (by assumption), mup_ne (by assumption)]; assumption)) rfl in_X7 12 (by decide) wf_X7_45 rfl rfl dX7_findFree_157 ?_
          refine zi_iload_n X dX7_findFree_160 rfl rfl ?_
          refine zi_aaldA X 4 (by first | assumption | exact mup_self | (rw [mup_ne (by assumption)]; assumption) | (rw [mup_ne (by assumption)]; exact mup_self) | (rw [mup_ne (by assumption), mup_ne (by assumption)]; assumption)) rfl (vin n7 (by decide)) (pa_at (i := n) n7) dX7_findFree_161 ?_
          refine zi_aload_n X dX7_findFree_162 rfl rfl ?_
          refine zi_getf (C := RX7) (T := TX7) (N := 27) (ci := 11) X (by first | assumption | exact mup_self | (rw [mup_ne (by assumption)]; assumption) | (rw [mup_ne (by assumption)]; exact mup_self) | (rw [mup_ne (by assumption), mup_ne (by assumption)]; assumption)) rfl in_X7 6 (by decide) wf_X7_27 rfl rfl dX7_findFree_163 ?_
          refine zi_callSv X (n_multiply l D kc kf kx (hN_ne hN5 (by omega) (by decide) (by omega)) (hN_ne hN5 (by omega) (by decide) (by omega))) kc_X7_multiply wm_X7_173 wst_X7_multiply ⟨Nat.le_of_ble_eq_true rfl, Nat.le_of_ble_eq_true rfl⟩ rfl rfl (Nat.le_of_ble_eq_true rfl) ⟨Nat.le_of_ble_eq_true rfl, Nat.le_of_ble_eq_true rfl⟩ dX7_findFree_166 (fun h8 hp => ?_)
          subst hp
          have hN6 := hN_up hN5 (n := 1236) (by decide) (cm i * quoD f cm s n)
          have hf6 := nfr_tr (nfr_up (M := M) (h := g5) (n := 1236) (e := nE (cA 0) (cm i * quoD f cm s n)) (by decide)) hf5
          have gm6 := hQ_fr hh hf6 hm (mO_ne M o)
          have l2 := hN6.2.1 2 (by decide)
          have lt := hN6.1 (7 * 2 + (n + i)) (by omega)
          have lx := hN6.1 1236 (by decide)
          rw [updI_s] at lx
          rw [updI_n (by omega), e5 _ (by omega), setP_at (by omega), if_neg (by omega)] at lt
          refine zi_aload_n X dX7_findFree_169 rfl rfl ?_
          refine zi_getf (C := RX7) (T := TX7) (N := 27) (ci := 11) X (by first | assumption | exact mup_self | (rw [mup_ne (by assumption)]; assumption) | (rw [mup_ne (by assumption)]; exact mup_self) | (rw [mup_ne (by assumption), mup_ne (by assumption)]; assumption)) rfl in_X7 10 (by decide) wf_X7_39 rfl rfl dX7_findFree_170 ?_
          refine zi_iload_n X dX7_findFree_173 rfl rfl ?_
          refine zi_iload X dX7_findFree_174 rfl ?_
          refine zi_iadd X dX7_findFree_176 ?_
          refine zi_aaldA X 4 (by first | assumption | exact mup_self | (rw [mup_ne (by assumption)]; assumption) | (rw [mup_ne (by assumption)]; exact mup_self) | (rw [mup_ne (by assumption), mup_ne (by assumption)]; assumption)) rfl (by rw [nI_add]; exact vin (show n + i < 7 by omega) (by decide)) (pa_at2 (i := n + i) (nI_add n i) (by omega)) dX7_findFree_177 ?_
          refine zi_aload_n X dX7_findFree_178 rfl rfl ?_
          refine zi_getf (C := RX7) (T := TX7) (N := 27) (ci := 11) X (by first | assumption | exact mup_self | (rw [mup_ne (by assumption)]; assumption) | (rw [mup_ne (by assumption)]; exact mup_self) | (rw [mup_ne (by assumption), mup_ne (by assumption)]; assumption)) rfl in_X7 6 (by decide) wf_X7_27 rfl rfl dX7_findFree_179 ?_
          refine zi_bipush (v := (nI 48)) X dX7_findFree_182 (by decide) ?_
          refine zi_callSv X (n_less l D lt lx (hN_ne hN6 (by decide) (by omega) (by omega)) (n := 48) (by decide) (Or.inl rfl)) kc_X7_less wm_X7_134 wst_X7_less ⟨Nat.le_of_ble_eq_true rfl, Nat.le_of_ble_eq_true rfl⟩ rfl rfl (Nat.le_of_ble_eq_true rfl) ⟨Nat.le_of_ble_eq_true rfl, Nat.le_of_ble_eq_true rfl⟩ dX7_findFree_184 (fun h8 hp => ?_)
          subst hp
          refine zi_iinc (v := nI (i + 1)) X dX7_findFree_187 rfl (nI_inc _) (by decide) ?_
          refine zi_goto (tgt := 143) X dX7_findFree_190 (by decide) ?_
          refine zi_sub (by repeat (first | exact trivial | refine And.intro rfl ?_)) (ihw (i + 1) _ _ (by omega) (nfr_tr (nfr_up (by omega)) hf6) (hN_up hN6 (n := 7 * 2 + (n + i)) (by omega) _) (fun k hk => ?_))
          by_cases c : k = 7 * 2 + (n + i)
          · rw [c, updI_s, setP_at (by omega), if_pos (by omega), show n + i - n = i by omega, Int.mul_comm]
          · rw [updI_n c, updI_n (by omega), e5 k hk]
            unfold setP
            split
            · next q =>
              dsimp only
              by_cases q2 : n ≤ k - 7 * 2 ∧ k - 7 * 2 < n + i
              · rw [if_pos q2, if_pos (by omega)]
              · rw [if_neg q2, if_neg (by omega)]
            · rfl
      have gm3' := hQ_fr hh hf3 hm (mO_ne M o)
      have d4 := hN3.2.1 4 (by decide)
      have df := hN3.1 (7 * 4 + n) (by omega)
      by_cases q : f (n + s) < 0
      · rw [if_pos q]
        rw [if_pos q] at etd
        refine zi_iload X dX7_findFree_126 rfl ?_
        refine zi_if_eq (tgt := 140) X dX7_findFree_128 (by decide) (fun c_128 => (by first | exact absurd (by decide) c_128 | exact absurd c_128 (by decide))) (fun c_128 => ?_)
        refine zi_aload_n X dX7_findFree_131 rfl rfl ?_
        refine zi_getf (C := RX7) (T := TX7) (N := 27) (ci := 11) X (by first | assumption | exact mup_self | (rw [mup_ne (by assumption)]; assumption) | (rw [mup_ne (by assumption)]; exact mup_self) | (rw [mup_ne (by assumption), mup_ne (by assumption)]; assumption)) rfl in_X7 12 (by decide) wf_X7_45 rfl rfl dX7_findFree_132 ?_
        refine zi_iload_n X dX7_findFree_135 rfl rfl ?_
        refine zi_aaldA X 4 (by first | assumption | exact mup_self | (rw [mup_ne (by assumption)]; assumption) | (rw [mup_ne (by assumption)]; exact mup_self) | (rw [mup_ne (by assumption), mup_ne (by assumption)]; assumption)) rfl (vin n7 (by decide)) (pa_at (i := n) n7) dX7_findFree_136 ?_
        refine zi_callSv X (n_negate l D df) kc_X7_negate wm_X7_93 wst_X7_negate ⟨Nat.le_of_ble_eq_true rfl, Nat.le_of_ble_eq_true rfl⟩ rfl rfl (Nat.le_of_ble_eq_true rfl) ⟨Nat.le_of_ble_eq_true rfl, Nat.le_of_ble_eq_true rfl⟩ dX7_findFree_137 (fun h8 hp => ?_)
        subst hp
        refine zi_sub (by repeat (first | exact trivial | refine And.intro rfl ?_)) (s140 _ _ (nfr_tr (nfr_up (by omega)) hf3) (hN_up hN3 (n := 7 * 4 + n) (by omega) _) (fun k hk w => by rw [updI_n w, eN3 k hk w]) ?_)
        rw [updI_s, eQ3, etd]
        rfl
      · rw [if_neg q]
        rw [if_neg q] at etd
        refine zi_iload X dX7_findFree_126 rfl ?_
        refine zi_if_eq (tgt := 140) X dX7_findFree_128 (by decide) (fun c_128 => ?_) (fun c_128 => (by first | exact absurd (by decide) c_128 | exact absurd c_128 (by decide)))
        refine zi_sub (by repeat (first | exact trivial | refine And.intro rfl ?_)) (s140 _ _ hf3 hN3 eN3 ?_)
        rw [eQ3, etd]
        rfl
  -- free becomes 0
  suffices key : ∀ n i (g : mH) (Q : Nat → Nat → Int), i + n = 7 → nfr M g h → hQ cA M Q g → Q 2 = prm (P j) → Q 3 = cm → (∀ t, t < i → Q 4 t = 0) → (∀ k, 5 ≤ k → Q k = P k) → zM z 0 0 46 [some (.ref m), some (.ref (M 1 j)), some (.int (nI s)), some (.int (nI i)), none, none] [] g from by
    refine zi_sub (by repeat (first | exact trivial | refine And.intro rfl ?_)) (key 7 0 h6 _ rfl hfh hq5 updP_s (by rw [updP_n (by decide)]; exact q43) (fun t ht => absurd ht (Nat.not_lt_zero t)) (fun k hk => by rw [updP_n (by omega)]; exact q45 k hk))
  intro n
  induction n with
  | zero =>
    intro i g Q hi hf hQg q2 q3 q4 q5
    obtain rfl : i = 7 := by omega
    refine zi_iload_n X dX7_findFree_46 rfl rfl ?_
    refine zi_bipush (v := (nI 7)) X dX7_findFree_47 (by decide) ?_
    refine zi_icmp_ge (tgt := 68) X dX7_findFree_49 (by decide) (fun c_49 => ?_) (fun c_49 => (by first | exact absurd (by decide) c_49 | exact absurd c_49 (by decide)))
    exact zi_sub (by repeat (first | exact trivial | refine And.intro rfl ?_)) (main g Q hf hQg q2 q3 q4 q5)
  | succ n ih =>
    intro i g Q hi hf hQg q2 q3 q4 q5
    have i7 : i < 7 := by omega
    have gm := hQ_fr hh hf hm (mO_ne M o)
    obtain ⟨N, hN0, hP⟩ := id hQg
    have a4 := hN0.2.1 4 (by decide)
    have af := hN0.1 (7 * 4 + i) (by omega)
    refine zi_iload_n X dX7_findFree_46 rfl rfl ?_
    refine zi_bipush (v := (nI 7)) X dX7_findFree_47 (by decide) ?_
    refine zi_icmp_ge (tgt := 68) X dX7_findFree_49 (by decide) (fun c_49 => (by first | exact absurd (c7 i7) c_49 | exact absurd c_49 (c7 i7))) (fun c_49 => ?_)
    refine zi_aload_n X dX7_findFree_52 rfl rfl ?_
    refine zi_getf (C := RX7) (T := TX7) (N := 27) (ci := 11) X (by first | assumption | exact mup_self | (rw [mup_ne (by assumption)]; assumption) | (rw [mup_ne (by assumption)]; exact mup_self) | (rw [mup_ne (by assumption), mup_ne (by assumption)]; assumption)) rfl in_X7 12 (by decide) wf_X7_45 rfl rfl dX7_findFree_53 ?_
    refine zi_iload_n X dX7_findFree_56 rfl rfl ?_
    refine zi_aaldA X 4 (by first | assumption | exact mup_self | (rw [mup_ne (by assumption)]; assumption) | (rw [mup_ne (by assumption)]; exact mup_self) | (rw [mup_ne (by assumption), mup_ne (by assumption)]; assumption)) rfl (vin i7 (by decide)) (pa_at (i := i) i7) dX7_findFree_57 ?_
    refine zi_lconst (v := lN 0) X dX7_findFree_58 (by decide) ?_
    refine zi_callSv X (n_set l D af) kc_X7_set wm_X7_145 wst_X7_set ⟨Nat.le_of_ble_eq_true rfl, Nat.le_of_ble_eq_true rfl⟩ rfl rfl (Nat.le_of_ble_eq_true rfl) ⟨Nat.le_of_ble_eq_true rfl, Nat.le_of_ble_eq_true rfl⟩ dX7_findFree_59 (fun h7 hp => ?_)
    subst hp
    have e00 : (lN 0).toInt = 0 := by decide
    rw [e00]
    refine zi_iinc (v := nI (i + 1)) X dX7_findFree_62 rfl (nI_inc _) (by decide) ?_
    refine zi_goto (tgt := 46) X dX7_findFree_65 (by decide) ?_
    refine zi_sub (by repeat (first | exact trivial | refine And.intro rfl ?_)) (ih (i + 1) _ (updP Q 4 (updI (Q 4) i 0)) (by omega) (nfr_tr (nfr_up (by omega)) hf) ⟨_, hN_up hN0 (n := 7 * 4 + i) (by omega) 0, fun k hk t ht => ?_⟩ (by rw [updP_n (by decide)]; exact q2) (by rw [updP_n (by decide)]; exact q3) (fun t ht => ?_) (fun k hk => by rw [updP_n (by omega)]; exact q5 k hk))
    · unfold updP
      by_cases c : k = 4
      · rw [if_pos c, c]
        by_cases w : t = i
        · rw [w, updI_s, updI_s]
        · rw [updI_n (by omega), updI_n w, hP 4 (by decide) t ht]
      · rw [if_neg c, updI_n (by omega), hP k hk t ht]
    · rw [updP_s]
      by_cases w : t = i
      · rw [w, updI_s]
      · rw [updI_n w]
        exact q4 t (by omega)
end RW6
