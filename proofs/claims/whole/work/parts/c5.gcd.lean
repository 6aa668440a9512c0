/-! SturmRootsModel: findCommon -/
def gcF : Nat → (Nat → Int) → (Nat → Int) → Nat → Int
  | 0, f, _ => f
  | n + 1, f, g => if stI g 7 = 0 then f else gcF n g (rmF 8 f g)
def gcOk : Nat → (Nat → Int) → (Nat → Int) → Prop
  | 0, f, g => pC f ∧ pC g
  | n + 1, f, g => pC f ∧ pC g ∧ (stI g 7 ≠ 0 → rmOk 8 f g ∧ gcOk n g (rmF 8 f g))
def gcR (f g : Nat → Int) : Nat → Int := mkpos (prm (if stI f 7 < stI g 7 then gcF 8 g f else gcF 8 f g))
def gcRok (f g : Nat → Int) : Prop := if stI f 7 < stI g 7 then gcOk 8 g f else gcOk 8 f g
theorem gcOk_pc {n : Nat} {f g : Nat → Int} (h : gcOk n f g) : pC f ∧ pC g := by
  cases n with
  | zero => exact h
  | succ n => exact ⟨h.1, h.2.1⟩
theorem rmF_lt {g : Nat → Int} (hg : stI g 7 ≠ 0) : ∀ (n : Nat) (f : Nat → Int), stI f 7 < n → stI (rmF n f g) 7 < stI g 7
  | 0, f, h => by omega
  | n + 1, f, h => by
    rw [rmF]
    split
    · next c => exact c
    · next c => exact rmF_lt hg n _ (by have := rmS_lt c hg; omega)
theorem dd_lt {a b : Nat} (ha : a < 100) (hb : b < 100) : nI a - nI 1 < nI b - nI 1 ↔ a < b := by
  have h1 := pk_sub_toInt (a := a) (b := 1) (by omega) (by omega)
  have h2 := pk_sub_toInt (a := b) (b := 1) (by omega) (by omega)
  rw [fa_lt, h1, h2]
  omega
theorem hN_j {cA : Nat → ClassId} {M : Nat → Nat → Nat} {N : Nat → Int} {h : mH} (hh : hN cA M N h) {j k : Nat} (hj : j < 176) (hk : k < 176) (e : M 1 j = M 1 k) : j = k := by
  have h1 := hh.2.1 j hj
  rw [e, hh.2.1 k hk] at h1
  have h2 := Option.some.inj h1
  unfold pA at h2
  simp only [Sum.inl.injEq, Prod.mk.injEq, Sum.inr.injEq, true_and] at h2
  have h3 := congrFun h2 0
  rw [if_pos (by decide), if_pos (by decide)] at h3
  have := hh.2.2 _ _ (by omega) (by omega) (Option.some.inj h3)
  omega
section RW5
variable {cA : Nat → ClassId} {M : Nat → Nat → Nat} {P : Nat → Nat → Int} {h : mH} {o : RO} {m : Nat}
theorem r_gcL (l : Launch) (D : va_G) {z : mZ} {R : Nat → Int} {h0 : mH} (h0m : h0 m = some (mO M o)) (hh0 : ∃ P0, hQ cA M P0 h0)
    (X : zX z l D cX7_findCommon yX7_findCommon.cls (mT cA) 4 none (rmd 7) yX7_findCommon.name)
    (Vz : zV z h0 (fun h1 => nfr M h1 h0 ∧ ∃ P', hQ cA M P' h1 ∧ P' 3 = mkpos (prm R) ∧ ∀ k, k ≠ 0 → k ≠ 1 → k ≠ 3 → P' k = P k) (rmd 7).cells (rmd 7).slots) :
    ∀ (n x y : Nat) (f g : Nat → Int) (Q : Nat → Nat → Int) (h1 : mH), (x = 0 ∧ y = 1 ∨ x = 1 ∧ y = 0) → stI g 7 < n → gcOk n f g → gcF n f g = R → nfr M h1 h0 → hQ cA M Q h1 → Q x = f → Q y = g → (∀ k, k ≠ 0 → k ≠ 1 → k ≠ 3 → Q k = P k) → zM z 0 0 49 [some (.ref m), some (.ref (M 1 x)), some (.ref (M 1 y)), none] [] h1 := by
  obtain ⟨P0, hq0⟩ := hh0
  intro n
  induction n with
  | zero => intro x y f g Q h1 hxy hg; omega
  | succ n ih =>
    intro x y f g Q h1 hxy hg hok hR hf hQ1 hfx hgy hk
    have x1 : x < 176 := by omega
    have y1 : y < 176 := by omega
    have xy : y ≠ x := by omega
    have pc := gcOk_pc hok
    have gm := hQ_fr hq0 hf h0m (mO_ne M o)
    refine zi_aload_n X dX7_findCommon_49 rfl rfl ?_
    refine zi_callSi X (r_degree l D hQ1 y1 (by rw [hgy]; exact pc.2)) kc_X7_degree wm_X7_166 wst_X7_degree ⟨Nat.le_of_ble_eq_true rfl, Nat.le_of_ble_eq_true rfl⟩ rfl rfl (Nat.le_of_ble_eq_true rfl) ⟨Nat.le_of_ble_eq_true rfl, Nat.le_of_ble_eq_true rfl⟩ dX7_findCommon_50 (fun r h2 hp => ?_)
    obtain ⟨rfl, rfl⟩ := hp
    rw [hgy]
    by_cases c : stI g 7 = 0
    · refine zi_if_lt (tgt := 71) X dX7_findCommon_53 (by decide) (fun c_53 => ?_) (fun c_53 => (by first | exact absurd (by rw [c]; decide) c_53 | exact absurd c_53 (by rw [c]; decide)))
      refine zi_aload_n X dX7_findCommon_71 rfl rfl ?_
      refine zi_aload_n X dX7_findCommon_72 rfl rfl ?_
      have e : gcF (n + 1) f g = f := by rw [gcF, if_pos c]
      rw [e] at hR
      refine zi_callVv X (r_primitive l D gm hQ1 x1 (by rw [hfx]; exact pc.1)) kc_X7_primitive wm_X7_176 (by first | assumption | exact mup_self | (rw [mup_ne (by assumption)]; assumption) | (rw [mup_ne (by assumption)]; exact mup_self) | (rw [mup_ne (by assumption), mup_ne (by assumption)]; assumption)) rfl wim_X7_primitive wse_X7_primitive ⟨Nat.le_of_ble_eq_true rfl, Nat.le_of_ble_eq_true rfl⟩ rfl rfl (Nat.le_of_ble_eq_true rfl) ⟨Nat.le_of_ble_eq_true rfl, Nat.le_of_ble_eq_true rfl⟩ dX7_findCommon_73 (fun h3 hp => ?_)
      obtain ⟨hf3, hQ3⟩ := hp
      have gm3 := hQ_fr hQ1 hf3 gm (mO_ne M o)
      rw [hfx, hR] at hQ3
      have pcp : pC (prm R) := fun i hi => by
        have := pc.1 i hi
        rw [hR] at this
        unfold prm
        have hle : ((R i).tdiv (cont R 7 : Nat)).natAbs ≤ (R i).natAbs := by
          rw [Int.natAbs_tdiv]
          exact Nat.div_le_self _ _
        unfold nC at *
        omega
      refine zi_aload_n X dX7_findCommon_76 rfl rfl ?_
      refine zi_aload_n X dX7_findCommon_77 rfl rfl ?_
      refine zi_callVv X (r_positive l D gm3 hQ3 x1 (by rw [updP_s]; exact pcp)) kc_X7_positive wm_X7_183 (by first | assumption | exact mup_self | (rw [mup_ne (by assumption)]; assumption) | (rw [mup_ne (by assumption)]; exact mup_self) | (rw [mup_ne (by assumption), mup_ne (by assumption)]; assumption)) rfl wim_X7_positive wse_X7_positive ⟨Nat.le_of_ble_eq_true rfl, Nat.le_of_ble_eq_true rfl⟩ rfl rfl (Nat.le_of_ble_eq_true rfl) ⟨Nat.le_of_ble_eq_true rfl, Nat.le_of_ble_eq_true rfl⟩ dX7_findCommon_78 (fun h4 hp => ?_)
      obtain ⟨hf4, hQ4⟩ := hp
      have gm4 := hQ_fr hQ3 hf4 gm3 (mO_ne M o)
      rw [updP_s, updP_updP] at hQ4
      refine zi_aload_n X dX7_findCommon_81 rfl rfl ?_
      refine zi_aload_n X dX7_findCommon_82 rfl rfl ?_
      refine zi_getf (C := RX7) (T := TX7) (N := 27) (ci := 11) X (by first | assumption | exact mup_self | (rw [mup_ne (by assumption)]; assumption) | (rw [mup_ne (by assumption)]; exact mup_self) | (rw [mup_ne (by assumption), mup_ne (by assumption)]; assumption)) rfl in_X7 11 (by decide) wf_X7_42 rfl rfl dX7_findCommon_83 ?_
      refine zi_callSv X (r_copy l D hQ4 (j := 3) (j2 := x) (by decide) x1 (by omega)) kc_X7_copy_ wm_X7_186 wst_X7_copy_ ⟨Nat.le_of_ble_eq_true rfl, Nat.le_of_ble_eq_true rfl⟩ rfl rfl (Nat.le_of_ble_eq_true rfl) ⟨Nat.le_of_ble_eq_true rfl, Nat.le_of_ble_eq_true rfl⟩ dX7_findCommon_86 (fun h5 hp => ?_)
      obtain ⟨hf5, hQ5⟩ := hp
      rw [updP_s] at hQ5
      refine zi_return X Vz dX7_findCommon_89 ?_
      exact ⟨nfr_tr hf5 (nfr_tr hf4 (nfr_tr hf3 hf)), _, hQ5, updP_s, fun k a0 a1 a3 => by rw [updP_n a3, updP_n (by omega), hk k a0 a1 a3]⟩
    · obtain ⟨s, hs⟩ : ∃ s, stI g 7 = s + 1 := ⟨stI g 7 - 1, by omega⟩
      have s7 : s < 7 := by have := stI_le g 7; omega
      have ok2 := hok.2.2 c
      refine zi_if_lt (tgt := 71) X dX7_findCommon_53 (by decide) (fun c_53 => (by first | exact absurd (by rw [hs, nI_pr]; exact nI_pos (by omega)) c_53 | exact absurd c_53 (by rw [hs, nI_pr]; exact nI_pos (by omega)))) (fun c_53 => ?_)
      refine zi_aload_n X dX7_findCommon_56 rfl rfl ?_
      refine zi_aload_n X dX7_findCommon_57 rfl rfl ?_
      refine zi_aload_n X dX7_findCommon_58 rfl rfl ?_
      refine zi_callVv X (r_remainder l D gm hQ1 x1 y1 xy (by rw [hgy]; exact pc.2) (by rw [hgy]; exact c) (n := 8) (by have := stI_le (Q x) 7; omega) (by rw [hfx, hgy]; exact ok2.1)) kc_X7_remainder wm_X7_179 (by first | assumption | exact mup_self | (rw [mup_ne (by assumption)]; assumption) | (rw [mup_ne (by assumption)]; exact mup_self) | (rw [mup_ne (by assumption), mup_ne (by assumption)]; assumption)) rfl wim_X7_remainder wse_X7_remainder ⟨Nat.le_of_ble_eq_true rfl, Nat.le_of_ble_eq_true rfl⟩ rfl rfl (Nat.le_of_ble_eq_true rfl) ⟨Nat.le_of_ble_eq_true rfl, Nat.le_of_ble_eq_true rfl⟩ dX7_findCommon_59 (fun h3 hp => ?_)
      obtain ⟨hf3, hQ3⟩ := hp
      rw [hfx, hgy] at hQ3
      refine zi_aload_n X dX7_findCommon_62 rfl rfl ?_
      refine zi_astore_n X dX7_findCommon_63 rfl (by decide) ?_
      refine zi_aload_n X dX7_findCommon_64 rfl rfl ?_
      refine zi_astore_n X dX7_findCommon_65 rfl (by decide) ?_
      refine zi_aload_n X dX7_findCommon_66 rfl rfl ?_
      refine zi_astore_n X dX7_findCommon_67 rfl (by decide) ?_
      refine zi_goto (tgt := 49) X dX7_findCommon_68 (by decide) ?_
      refine zi_sub (by repeat (first | exact trivial | refine And.intro rfl ?_)) (ih y x g (rmF 8 f g) _ h3 (by omega) (by have := rmF_lt c 8 f (by have := stI_le f 7; omega); omega) ok2.2 ?_ (nfr_tr hf3 hf) hQ3 (by rw [updP_n xy, hgy]) updP_s (fun k a0 a1 a3 => by rw [updP_n (by omega), hk k a0 a1 a3]))
      rw [← hR]
      conv => rhs; rw [gcF, if_neg c]
theorem r_findCommon (l : Launch) (D : va_G) (hm : h m = some (mO M o)) (hh : hQ cA M P h) (hok : gcRok (P 0) (P 1)) :
    mCv l yX7_findCommon cX7_findCommon 4 (rmd 7) D (mT cA) [.ref m] h (fun h1 => nfr M h1 h ∧ ∃ P', hQ cA M P' h1 ∧ P' 3 = gcR (P 0) (P 1) ∧ ∀ k, k ≠ 0 → k ≠ 1 → k ≠ 3 → P' k = P k) := by
  refine mEnter_v (by decide) (Nat.le_of_ble_eq_true rfl) rfl (fun z X Vz => ?_)
  have pc : pC (P 0) ∧ pC (P 1) := by
    unfold gcRok at hok
    split at hok
    · have := gcOk_pc hok; exact ⟨this.2, this.1⟩
    · exact gcOk_pc hok
  have l0 := stI_le (P 0) 7
  have l1 := stI_le (P 1) 7
  refine zi_aload_n X dX7_findCommon_0 rfl rfl ?_
  refine zi_getf (C := RX7) (T := TX7) (N := 27) (ci := 11) X (by first | assumption | exact mup_self | (rw [mup_ne (by assumption)]; assumption) | (rw [mup_ne (by assumption)]; exact mup_self) | (rw [mup_ne (by assumption), mup_ne (by assumption)]; assumption)) rfl in_X7 8 (by decide) wf_X7_33 rfl rfl dX7_findCommon_1 ?_
  refine zi_callSi X (r_degree l D hh (j := 0) (by decide) pc.1) kc_X7_degree wm_X7_166 wst_X7_degree ⟨Nat.le_of_ble_eq_true rfl, Nat.le_of_ble_eq_true rfl⟩ rfl rfl (Nat.le_of_ble_eq_true rfl) ⟨Nat.le_of_ble_eq_true rfl, Nat.le_of_ble_eq_true rfl⟩ dX7_findCommon_4 (fun r h1 hp => ?_)
  obtain ⟨rfl, rfl⟩ := hp
  refine zi_aload_n X dX7_findCommon_7 rfl rfl ?_
  refine zi_getf (C := RX7) (T := TX7) (N := 27) (ci := 11) X (by first | assumption | exact mup_self | (rw [mup_ne (by assumption)]; assumption) | (rw [mup_ne (by assumption)]; exact mup_self) | (rw [mup_ne (by assumption), mup_ne (by assumption)]; assumption)) rfl in_X7 9 (by decide) wf_X7_36 rfl rfl dX7_findCommon_8 ?_
  refine zi_callSi X (r_degree l D hh (j := 1) (by decide) pc.2) kc_X7_degree wm_X7_166 wst_X7_degree ⟨Nat.le_of_ble_eq_true rfl, Nat.le_of_ble_eq_true rfl⟩ rfl rfl (Nat.le_of_ble_eq_true rfl) ⟨Nat.le_of_ble_eq_true rfl, Nat.le_of_ble_eq_true rfl⟩ dX7_findCommon_11 (fun r h1 hp => ?_)
  obtain ⟨rfl, rfl⟩ := hp
  by_cases c : stI (P 0) 7 < stI (P 1) 7
  · have hlt := (dd_lt (a := stI (P 0) 7) (b := stI (P 1) 7) (by omega) (by omega)).mpr c
    unfold gcRok at hok
    rw [if_pos c] at hok
    unfold gcR at Vz
    rw [if_pos c] at Vz
    have ne : ¬ M 1 1 = M 1 0 := fun q => by
      obtain ⟨N, hN, -⟩ := id hh
      exact absurd (hN_j hN (by decide) (by decide) q) (by decide)
    refine zi_icmp_ge (tgt := 24) X dX7_findCommon_14 (by decide) (fun c_14 => (by first | exact absurd (Int32.not_le.mpr hlt) c_14 | exact absurd c_14 (Int32.not_le.mpr hlt))) (fun c_14 => ?_)
    refine zi_aload_n X dX7_findCommon_17 rfl rfl ?_
    refine zi_getf (C := RX7) (T := TX7) (N := 27) (ci := 11) X (by first | assumption | exact mup_self | (rw [mup_ne (by assumption)]; assumption) | (rw [mup_ne (by assumption)]; exact mup_self) | (rw [mup_ne (by assumption), mup_ne (by assumption)]; assumption)) rfl in_X7 9 (by decide) wf_X7_36 rfl rfl dX7_findCommon_18 ?_
    refine zi_goto (tgt := 28) X dX7_findCommon_21 (by decide) ?_
    refine zi_astore_n X dX7_findCommon_28 rfl (by decide) ?_
    refine zi_aload_n X dX7_findCommon_29 rfl rfl ?_
    refine zi_aload_n X dX7_findCommon_30 rfl rfl ?_
    refine zi_getf (C := RX7) (T := TX7) (N := 27) (ci := 11) X (by first | assumption | exact mup_self | (rw [mup_ne (by assumption)]; assumption) | (rw [mup_ne (by assumption)]; exact mup_self) | (rw [mup_ne (by assumption), mup_ne (by assumption)]; assumption)) rfl in_X7 8 (by decide) wf_X7_33 rfl rfl dX7_findCommon_31 ?_
    refine zi_acmp_ne (tgt := 44) X dX7_findCommon_34 (by decide) (fun _ => ?_) (fun q => absurd q ne)
    refine zi_aload_n X dX7_findCommon_44 rfl rfl ?_
    refine zi_getf (C := RX7) (T := TX7) (N := 27) (ci := 11) X (by first | assumption | exact mup_self | (rw [mup_ne (by assumption)]; assumption) | (rw [mup_ne (by assumption)]; exact mup_self) | (rw [mup_ne (by assumption), mup_ne (by assumption)]; assumption)) rfl in_X7 8 (by decide) wf_X7_33 rfl rfl dX7_findCommon_45 ?_
    refine zi_astore_n X dX7_findCommon_48 rfl (by decide) ?_
    exact zi_sub (by repeat (first | exact trivial | refine And.intro rfl ?_)) (r_gcL l D hm ⟨P, hh⟩ X Vz 8 1 0 (P 1) (P 0) P h1 (Or.inr ⟨rfl, rfl⟩) (by omega) hok rfl (nfr_rf M h1) hh rfl rfl (fun k _ _ _ => rfl))
  · have hlt := mt (dd_lt (a := stI (P 0) 7) (b := stI (P 1) 7) (by omega) (by omega)).mp c
    unfold gcRok at hok
    rw [if_neg c] at hok
    unfold gcR at Vz
    rw [if_neg c] at Vz
    refine zi_icmp_ge (tgt := 24) X dX7_findCommon_14 (by decide) (fun c_14 => ?_) (fun c_14 => (by first | exact absurd (Int32.not_lt.mp hlt) c_14 | exact absurd c_14 (Int32.not_lt.mp hlt)))
    refine zi_aload_n X dX7_findCommon_24 rfl rfl ?_
    refine zi_getf (C := RX7) (T := TX7) (N := 27) (ci := 11) X (by first | assumption | exact mup_self | (rw [mup_ne (by assumption)]; assumption) | (rw [mup_ne (by assumption)]; exact mup_self) | (rw [mup_ne (by assumption), mup_ne (by assumption)]; assumption)) rfl in_X7 8 (by decide) wf_X7_33 rfl rfl dX7_findCommon_25 ?_
    refine zi_astore_n X dX7_findCommon_28 rfl (by decide) ?_
    refine zi_aload_n X dX7_findCommon_29 rfl rfl ?_
    refine zi_aload_n X dX7_findCommon_30 rfl rfl ?_
    refine zi_getf (C := RX7) (T := TX7) (N := 27) (ci := 11) X (by first | assumption | exact mup_self | (rw [mup_ne (by assumption)]; assumption) | (rw [mup_ne (by assumption)]; exact mup_self) | (rw [mup_ne (by assumption), mup_ne (by assumption)]; assumption)) rfl in_X7 8 (by decide) wf_X7_33 rfl rfl dX7_findCommon_31 ?_
    refine zi_acmp_ne (tgt := 44) X dX7_findCommon_34 (by decide) (fun q => absurd rfl q) (fun _ => ?_)
    refine zi_aload_n X dX7_findCommon_37 rfl rfl ?_
    refine zi_getf (C := RX7) (T := TX7) (N := 27) (ci := 11) X (by first | assumption | exact mup_self | (rw [mup_ne (by assumption)]; assumption) | (rw [mup_ne (by assumption)]; exact mup_self) | (rw [mup_ne (by assumption), mup_ne (by assumption)]; assumption)) rfl in_X7 9 (by decide) wf_X7_36 rfl rfl dX7_findCommon_38 ?_
    refine zi_goto (tgt := 48) X dX7_findCommon_41 (by decide) ?_
    refine zi_astore_n X dX7_findCommon_48 rfl (by decide) ?_
    exact zi_sub (by repeat (first | exact trivial | refine And.intro rfl ?_)) (r_gcL l D hm ⟨P, hh⟩ X Vz 8 0 1 (P 0) (P 1) P h1 (Or.inl ⟨rfl, rfl⟩) (by omega) hok rfl (nfr_rf M h1) hh rfl rfl (fun k _ _ _ => rfl))
end RW5
