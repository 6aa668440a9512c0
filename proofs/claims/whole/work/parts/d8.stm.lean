/-! SturmRootsModel: sturmLength, sturmCoefficient, sturmDegree, signChanges, sign -/
def evOk (p : Nat → Int) : Prop := ∀ (x : Int) (k : Nat), x.natAbs ≤ 268435456 → k < 14 → nC (evS p x (2 ^ k : Nat) (stI p 7) (stI p 7)).1
def rwAll (rL : (Nat → Int) → Nat) (p : Nat → Int) : Prop := rwOk p (rL p) ∧ ∀ t, t < rL p → evOk (rwE p t)
theorem l64 (v : Int) : ((nI (nd v 1)).toInt64 <<< ((nI 32).toInt64 &&& 63)) ||| ((nI (nd v 0)).toInt64 &&& 4294967295) = lI v := by
  have h0 := nd_lt v 0
  have h1 := nd_lt v 1
  have e32 : ((nI 32).toInt64 &&& 63) = 32 := by decide
  rw [e32]
  apply Int64.toBitVec_inj.mp
  apply BitVec.eq_of_toNat_eq
  rw [Int64.toBitVec_or, BitVec.toNat_or]
  have elo : ((nI (nd v 0)).toInt64 &&& 4294967295).toBitVec.toNat = nd v 0 := uq_low' h0
  have ehi : ((nI (nd v 1)).toInt64 <<< (32 : Int64)).toBitVec.toNat = 2 ^ 32 * (nd v 1) := by
    rw [Int64.toBitVec_shiftLeft]
    have e2 : (32 : Int64).toBitVec.smod 64 = 32#64 := by decide
    rw [e2]
    show ((nI (nd v 1)).toInt64.toBitVec <<< (32#64).toNat).toNat = _
    rw [BitVec.toNat_shiftLeft, Nat.shiftLeft_eq]
    have e3 : (32#64).toNat = 32 := by decide
    have e4 := l_tn (nI (nd v 1)).toInt64
    rw [i32_i64] at e4
    have e5 : (nI (nd v 1)).toInt = ((nd v 1 : Nat) : Int).bmod (2 ^ 32) := by
      show (Int32.ofNat (nd v 1)).toInt = _
      exact Int32.toInt_ofNat' (n := nd v 1)
    rw [e5] at e4
    rw [e3]
    unfold CC at h1
    unfold Int.bmod at e4
    simp only [] at e4
    split at e4 <;> omega
  have eov : (lI v).toBitVec.toNat = nd v 0 + 2 ^ 32 * nd v 1 := by
    show (BitVec.ofInt 64 v).toNat = _
    rw [BitVec.toNat_ofInt]
    have a0 := nd_int v 0
    have a1 := nd_int v 1
    rw [cp_0, Int.ediv_one] at a0
    rw [show cp 1 = (CC : Int) from by decide] at a1
    unfold CC at *
    omega
  rw [elo, ehi, eov, ← Nat.two_pow_add_eq_or_of_lt h0]
  exact Nat.add_comm _ _
section ST8
variable {cA : Nat → ClassId} {M : Nat → Nat → Nat} {h : mH} {o : RO} {Sl : Nat → Nat → Int} {kp : Nat → Int} {cap n : Nat} {V : Nat → Iv} {P : Nat → Nat → Int} {rL : (Nat → Int) → Nat}
theorem uT_o {o1 : RO} {th : Nat} {h1 : mH} {P1 : Nat → Nat → Int} (h : rU cA M h1 (nI th, o1.2) Sl kp cap n V P1) (h7 : P1 7 = P 7) : uT cA M o1 kp cap n V P th Sl h1 := ⟨P1, h, h7⟩
/-- .. the length of the row may change -/
def uL (cA : Nat → ClassId) (M : Nat → Nat → Nat) (o : RO) (kp : Nat → Int) (cap n : Nat) (V : Nat → Iv) (P : Nat → Nat → Int) (th : Nat) (Sl : Nat → Nat → Int) (h1 : mH) : Prop := ∃ ln, uT cA M (o.1, ln, o.2.2) kp cap n V P th Sl h1
theorem u_sturmLength (l : Launch) (D : va_G) (hu : rU cA M h o Sl kp cap n V P) (hb : slB Sl) (hz : ∀ i, i < 5 → stI (Sl i) 7 ≠ 0 → rwAll rL (Sl i)) {a : Int32} :
    mCi l yX7_sturmLength cX7_sturmLength 2 .int (rmd 9) D (mT cA) [.ref (M 3 0), .int a] h (fun r h1 => ¬ inR a 5 ∧ uL cA M o kp cap n V P 1 Sl h1 ∨ ∃ i, i < 5 ∧ a = nI i ∧ (stI (Sl i) 7 = 0 ∧ uL cA M o kp cap n V P 2 Sl h1 ∨ stI (Sl i) 7 ≠ 0 ∧ r = nI (rL (Sl i)) ∧ uL cA M o kp cap n V P 0 Sl h1)) := by
  have x1 := hu.2.1.1
  refine mEnter_i (by decide) (Nat.le_of_ble_eq_true rfl) rfl (fun z X Vz => ?_)
  refine zi_iload_n X dX7_sturmLength_0 rfl rfl ?_
  refine zi_callSi X (s_isSlot l D) kc_X7_isSlot wm_X7_228 wst_X7_isSlot ⟨Nat.le_of_ble_eq_true rfl, Nat.le_of_ble_eq_true rfl⟩ rfl rfl (Nat.le_of_ble_eq_true rfl) ⟨Nat.le_of_ble_eq_true rfl, Nat.le_of_ble_eq_true rfl⟩ dX7_sturmLength_1 (fun r h1 hp => ?_)
  obtain ⟨rfl, ⟨q1, rfl⟩ | ⟨q1, rfl⟩⟩ := hp
  · obtain ⟨i, hi, rfl⟩ := q1
    refine zi_if_ne (tgt := 13) X dX7_sturmLength_4 (by decide) (fun c_4 => ?_) (fun c_4 => (by first | exact absurd (by decide) c_4 | exact absurd c_4 (by decide)))
    refine zi_aload_n X dX7_sturmLength_13 rfl rfl ?_
    refine zi_iload_n X dX7_sturmLength_14 rfl rfl ?_
    refine zi_callVi X (u_isZero l D hu hi (fun t ht => hb i t hi ht)) kc_X7_isZero wm_X7_244 (by first | assumption | exact mup_self | (rw [mup_ne (by assumption)]; assumption) | (rw [mup_ne (by assumption)]; exact mup_self) | (rw [mup_ne (by assumption), mup_ne (by assumption)]; assumption)) rfl wim_X7_isZero wse_X7_isZero ⟨Nat.le_of_ble_eq_true rfl, Nat.le_of_ble_eq_true rfl⟩ rfl rfl (Nat.le_of_ble_eq_true rfl) ⟨Nat.le_of_ble_eq_true rfl, Nat.le_of_ble_eq_true rfl⟩ dX7_sturmLength_15 (fun r h2 hp => ?_)
    obtain ⟨rfl, ⟨c0, rfl⟩ | ⟨c0, rfl⟩⟩ := hp
    · refine zi_if_eq (tgt := 27) X dX7_sturmLength_18 (by decide) (fun c_18 => (by first | exact absurd (by decide) c_18 | exact absurd c_18 (by decide))) (fun c_18 => ?_)
      refine zi_aload_n X dX7_sturmLength_21 rfl rfl ?_
      refine zi_iconst (v := (nI 2)) X dX7_sturmLength_22 (by decide) ?_
      refine zi_callVi X (u_fails l D hu) kc_X7_fails wm_X7_212 (by first | assumption | exact mup_self | (rw [mup_ne (by assumption)]; assumption) | (rw [mup_ne (by assumption)]; exact mup_self) | (rw [mup_ne (by assumption), mup_ne (by assumption)]; assumption)) rfl wim_X7_fails wse_X7_fails ⟨Nat.le_of_ble_eq_true rfl, Nat.le_of_ble_eq_true rfl⟩ rfl rfl (Nat.le_of_ble_eq_true rfl) ⟨Nat.le_of_ble_eq_true rfl, Nat.le_of_ble_eq_true rfl⟩ dX7_sturmLength_23 (fun r h3 hp => ?_)
      refine zi_ireturn X Vz dX7_sturmLength_26 ?_
      exact Or.inr ⟨i, hi, rfl, Or.inl ⟨c0, o.2.1, uT_o (o1 := (o.1, o.2.1, o.2.2)) hp.2 rfl⟩⟩
    · refine zi_if_eq (tgt := 27) X dX7_sturmLength_18 (by decide) (fun c_18 => ?_) (fun c_18 => (by first | exact absurd (by decide) c_18 | exact absurd c_18 (by decide)))
      refine zi_aload_n X dX7_sturmLength_27 rfl rfl ?_
      refine zi_iload_n X dX7_sturmLength_28 rfl rfl ?_
      refine zi_callVv X (u_findRow l D hu hb hi (hz i hi c0).1) kc_X7_findRow wm_X7_253 (by first | assumption | exact mup_self | (rw [mup_ne (by assumption)]; assumption) | (rw [mup_ne (by assumption)]; exact mup_self) | (rw [mup_ne (by assumption), mup_ne (by assumption)]; assumption)) rfl wim_X7_findRow wse_X7_findRow ⟨Nat.le_of_ble_eq_true rfl, Nat.le_of_ble_eq_true rfl⟩ rfl rfl (Nat.le_of_ble_eq_true rfl) ⟨Nat.le_of_ble_eq_true rfl, Nat.le_of_ble_eq_true rfl⟩ dX7_sturmLength_29 (fun h3 hp => ?_)
      obtain ⟨Q, hu3, q7, -⟩ := hp
      have y1 := hu3.2.1.1
      refine zi_aload_n X dX7_sturmLength_32 rfl rfl ?_
      refine zi_aload_n X dX7_sturmLength_33 rfl rfl ?_
      refine zi_getf (C := RX7) (T := TX7) (N := 27) (ci := 11) X (by first | assumption | exact mup_self | (rw [mup_ne (by assumption)]; assumption) | (rw [mup_ne (by assumption)]; exact mup_self) | (rw [mup_ne (by assumption), mup_ne (by assumption)]; assumption)) rfl in_X7 19 (by decide) wf_X7_250 rfl rfl dX7_sturmLength_34 ?_
      refine zi_callVi X (u_tells l D hu3) kc_X7_tells wm_X7_217 (by first | assumption | exact mup_self | (rw [mup_ne (by assumption)]; assumption) | (rw [mup_ne (by assumption)]; exact mup_self) | (rw [mup_ne (by assumption), mup_ne (by assumption)]; assumption)) rfl wim_X7_tells wse_X7_tells ⟨Nat.le_of_ble_eq_true rfl, Nat.le_of_ble_eq_true rfl⟩ rfl rfl (Nat.le_of_ble_eq_true rfl) ⟨Nat.le_of_ble_eq_true rfl, Nat.le_of_ble_eq_true rfl⟩ dX7_sturmLength_37 (fun r h4 hp => ?_)
      obtain ⟨rfl, -, hp⟩ := hp
      refine zi_ireturn X Vz dX7_sturmLength_40 ?_
      exact Or.inr ⟨i, hi, rfl, Or.inr ⟨c0, rfl, nI (rL (Sl i)), uT_o (o1 := (o.1, nI (rL (Sl i)), o.2.2)) hp q7⟩⟩
  · refine zi_if_ne (tgt := 13) X dX7_sturmLength_4 (by decide) (fun c_4 => (by first | exact absurd (by decide) c_4 | exact absurd c_4 (by decide))) (fun c_4 => ?_)
    refine zi_aload_n X dX7_sturmLength_7 rfl rfl ?_
    refine zi_iconst (v := (nI 1)) X dX7_sturmLength_8 (by decide) ?_
    refine zi_callVi X (u_fails l D hu) kc_X7_fails wm_X7_212 (by first | assumption | exact mup_self | (rw [mup_ne (by assumption)]; assumption) | (rw [mup_ne (by assumption)]; exact mup_self) | (rw [mup_ne (by assumption), mup_ne (by assumption)]; assumption)) rfl wim_X7_fails wse_X7_fails ⟨Nat.le_of_ble_eq_true rfl, Nat.le_of_ble_eq_true rfl⟩ rfl rfl (Nat.le_of_ble_eq_true rfl) ⟨Nat.le_of_ble_eq_true rfl, Nat.le_of_ble_eq_true rfl⟩ dX7_sturmLength_9 (fun r h1 hp => ?_)
    refine zi_ireturn X Vz dX7_sturmLength_12 ?_
    exact Or.inl ⟨q1, o.2.1, uT_o (o1 := (o.1, o.2.1, o.2.2)) hp.2 rfl⟩
theorem u_sturmDegree (l : Launch) (D : va_G) (hu : rU cA M h o Sl kp cap n V P) (hb : slB Sl) (hz : ∀ i, i < 5 → stI (Sl i) 7 ≠ 0 → rwAll rL (Sl i)) {a b : Int32} :
    mCi l yX7_sturmDegree cX7_sturmDegree 3 .int (rmd 9) D (mT cA) [.ref (M 3 0), .int a, .int b] h (fun r h1 => ¬ inR a 5 ∧ uL cA M o kp cap n V P 1 Sl h1 ∨ ∃ i, i < 5 ∧ a = nI i ∧ (stI (Sl i) 7 = 0 ∧ uL cA M o kp cap n V P 2 Sl h1 ∨ stI (Sl i) 7 ≠ 0 ∧ (¬ inR b (rL (Sl i)) ∧ uL cA M o kp cap n V P 3 Sl h1 ∨ ∃ m, m < rL (Sl i) ∧ b = nI m ∧ r = iI (sDeg (rwE (Sl i) m)) ∧ uL cA M o kp cap n V P 0 Sl h1))) := by
  have x1 := hu.2.1.1
  refine mEnter_i (by decide) (Nat.le_of_ble_eq_true rfl) rfl (fun z X Vz => ?_)
  refine zi_iload_n X dX7_sturmDegree_0 rfl rfl ?_
  refine zi_callSi X (s_isSlot l D) kc_X7_isSlot wm_X7_228 wst_X7_isSlot ⟨Nat.le_of_ble_eq_true rfl, Nat.le_of_ble_eq_true rfl⟩ rfl rfl (Nat.le_of_ble_eq_true rfl) ⟨Nat.le_of_ble_eq_true rfl, Nat.le_of_ble_eq_true rfl⟩ dX7_sturmDegree_1 (fun r h1 hp => ?_)
  obtain ⟨rfl, ⟨q1, rfl⟩ | ⟨q1, rfl⟩⟩ := hp
  · obtain ⟨i, hi, rfl⟩ := q1
    refine zi_if_ne (tgt := 13) X dX7_sturmDegree_4 (by decide) (fun c_4 => ?_) (fun c_4 => (by first | exact absurd (by decide) c_4 | exact absurd c_4 (by decide)))
    refine zi_aload_n X dX7_sturmDegree_13 rfl rfl ?_
    refine zi_iload_n X dX7_sturmDegree_14 rfl rfl ?_
    refine zi_callVi X (u_isZero l D hu hi (fun t ht => hb i t hi ht)) kc_X7_isZero wm_X7_244 (by first | assumption | exact mup_self | (rw [mup_ne (by assumption)]; assumption) | (rw [mup_ne (by assumption)]; exact mup_self) | (rw [mup_ne (by assumption), mup_ne (by assumption)]; assumption)) rfl wim_X7_isZero wse_X7_isZero ⟨Nat.le_of_ble_eq_true rfl, Nat.le_of_ble_eq_true rfl⟩ rfl rfl (Nat.le_of_ble_eq_true rfl) ⟨Nat.le_of_ble_eq_true rfl, Nat.le_of_ble_eq_true rfl⟩ dX7_sturmDegree_15 (fun r h2 hp => ?_)
    obtain ⟨rfl, ⟨c0, rfl⟩ | ⟨c0, rfl⟩⟩ := hp
    · refine zi_if_eq (tgt := 27) X dX7_sturmDegree_18 (by decide) (fun c_18 => (by first | exact absurd (by decide) c_18 | exact absurd c_18 (by decide))) (fun c_18 => ?_)
      refine zi_aload_n X dX7_sturmDegree_21 rfl rfl ?_
      refine zi_iconst (v := (nI 2)) X dX7_sturmDegree_22 (by decide) ?_
      refine zi_callVi X (u_fails l D hu) kc_X7_fails wm_X7_212 (by first | assumption | exact mup_self | (rw [mup_ne (by assumption)]; assumption) | (rw [mup_ne (by assumption)]; exact mup_self) | (rw [mup_ne (by assumption), mup_ne (by assumption)]; assumption)) rfl wim_X7_fails wse_X7_fails ⟨Nat.le_of_ble_eq_true rfl, Nat.le_of_ble_eq_true rfl⟩ rfl rfl (Nat.le_of_ble_eq_true rfl) ⟨Nat.le_of_ble_eq_true rfl, Nat.le_of_ble_eq_true rfl⟩ dX7_sturmDegree_23 (fun r h3 hp => ?_)
      refine zi_ireturn X Vz dX7_sturmDegree_26 ?_
      exact Or.inr ⟨i, hi, rfl, Or.inl ⟨c0, o.2.1, uT_o (o1 := (o.1, o.2.1, o.2.2)) hp.2 rfl⟩⟩
    · have zr := (hz i hi c0).1
      refine zi_if_eq (tgt := 27) X dX7_sturmDegree_18 (by decide) (fun c_18 => ?_) (fun c_18 => (by first | exact absurd (by decide) c_18 | exact absurd c_18 (by decide)))
      refine zi_aload_n X dX7_sturmDegree_27 rfl rfl ?_
      refine zi_iload_n X dX7_sturmDegree_28 rfl rfl ?_
      refine zi_callVv X (u_findRow l D hu hb hi zr) kc_X7_findRow wm_X7_253 (by first | assumption | exact mup_self | (rw [mup_ne (by assumption)]; assumption) | (rw [mup_ne (by assumption)]; exact mup_self) | (rw [mup_ne (by assumption), mup_ne (by assumption)]; assumption)) rfl wim_X7_findRow wse_X7_findRow ⟨Nat.le_of_ble_eq_true rfl, Nat.le_of_ble_eq_true rfl⟩ rfl rfl (Nat.le_of_ble_eq_true rfl) ⟨Nat.le_of_ble_eq_true rfl, Nat.le_of_ble_eq_true rfl⟩ dX7_sturmDegree_29 (fun h3 hp => ?_)
      obtain ⟨Q, hu3, q7, qr⟩ := hp
      have y1 := hu3.2.1.1
      have y6 := hu3.2.1.2.2.2.2.2.1
      obtain ⟨L1, hL1⟩ : ∃ L1, rL (Sl i) = L1 + 1 := ⟨rL (Sl i) - 1, by have := zr.1; omega⟩
      have l7 := zr.2.1
      have e1 : nI (rL (Sl i)) - nI 1 = nI L1 := by rw [hL1, nI_pr]
      refine zi_iload_n X dX7_sturmDegree_32 rfl rfl ?_
      refine zi_iconst (v := (nI 0)) X dX7_sturmDegree_33 (by decide) ?_
      refine zi_aload_n X dX7_sturmDegree_34 rfl rfl ?_
      refine zi_getf (C := RX7) (T := TX7) (N := 27) (ci := 11) X (by first | assumption | exact mup_self | (rw [mup_ne (by assumption)]; assumption) | (rw [mup_ne (by assumption)]; exact mup_self) | (rw [mup_ne (by assumption), mup_ne (by assumption)]; assumption)) rfl in_X7 19 (by decide) wf_X7_250 rfl rfl dX7_sturmDegree_35 ?_
      refine zi_iconst (v := (nI 1)) X dX7_sturmDegree_38 (by decide) ?_
      refine zi_isub X dX7_sturmDegree_39 ?_
      rw [e1]
      refine zi_callSi X (s_in l D) kc_X7_in wm_X7_232 wst_X7_in ⟨Nat.le_of_ble_eq_true rfl, Nat.le_of_ble_eq_true rfl⟩ rfl rfl (Nat.le_of_ble_eq_true rfl) ⟨Nat.le_of_ble_eq_true rfl, Nat.le_of_ble_eq_true rfl⟩ dX7_sturmDegree_40 (fun r h4 hp => ?_)
      obtain ⟨rfl, hp⟩ := hp
      rw [in_R (by omega), ← hL1] at hp
      rcases hp with ⟨q2, rfl⟩ | ⟨q2, rfl⟩
      · obtain ⟨m, hm, rfl⟩ := q2
        refine zi_if_eq (tgt := 62) X dX7_sturmDegree_43 (by decide) (fun c_43 => (by first | exact absurd (by decide) c_43 | exact absurd c_43 (by decide))) (fun c_43 => ?_)
        refine zi_aload_n X dX7_sturmDegree_46 rfl rfl ?_
        refine zi_aload_n X dX7_sturmDegree_47 rfl rfl ?_
        refine zi_getf (C := RX7) (T := TX7) (N := 27) (ci := 11) X (by first | assumption | exact mup_self | (rw [mup_ne (by assumption)]; assumption) | (rw [mup_ne (by assumption)]; exact mup_self) | (rw [mup_ne (by assumption), mup_ne (by assumption)]; assumption)) rfl in_X7 18 (by decide) wf_X7_66 rfl rfl dX7_sturmDegree_48 ?_
        refine zi_iload_n X dX7_sturmDegree_51 rfl rfl ?_
        refine zi_aaldA X 5 (by first | assumption | exact mup_self | (rw [mup_ne (by assumption)]; assumption) | (rw [mup_ne (by assumption)]; exact mup_self) | (rw [mup_ne (by assumption), mup_ne (by assumption)]; assumption)) rfl (vin (show m < 8 by omega) (by decide)) (r8_at (d := m) rfl (by omega)) dX7_sturmDegree_52 ?_
        refine zi_callSi X (r_degree l D hu3.1 (j := 8 + m) (by omega) (by rw [qr m hm]; exact zr.2.2.2.2.1 m hm)) kc_X7_degree wm_X7_166 wst_X7_degree ⟨Nat.le_of_ble_eq_true rfl, Nat.le_of_ble_eq_true rfl⟩ rfl rfl (Nat.le_of_ble_eq_true rfl) ⟨Nat.le_of_ble_eq_true rfl, Nat.le_of_ble_eq_true rfl⟩ dX7_sturmDegree_53 (fun r h5 hp => ?_)
        obtain ⟨rfl, rfl⟩ := hp
        rw [qr m hm, ← sDeg_I]
        refine zi_callVi X (u_tells l D hu3) kc_X7_tells wm_X7_217 (by first | assumption | exact mup_self | (rw [mup_ne (by assumption)]; assumption) | (rw [mup_ne (by assumption)]; exact mup_self) | (rw [mup_ne (by assumption), mup_ne (by assumption)]; assumption)) rfl wim_X7_tells wse_X7_tells ⟨Nat.le_of_ble_eq_true rfl, Nat.le_of_ble_eq_true rfl⟩ rfl rfl (Nat.le_of_ble_eq_true rfl) ⟨Nat.le_of_ble_eq_true rfl, Nat.le_of_ble_eq_true rfl⟩ dX7_sturmDegree_56 (fun r h4 hp => ?_)
        obtain ⟨rfl, -, hp⟩ := hp
        refine zi_goto (tgt := 67) X dX7_sturmDegree_59 (by decide) ?_
        refine zi_ireturn X Vz dX7_sturmDegree_67 ?_
        exact Or.inr ⟨i, hi, rfl, Or.inr ⟨c0, Or.inr ⟨m, hm, rfl, rfl, nI (rL (Sl i)), uT_o (o1 := (o.1, nI (rL (Sl i)), o.2.2)) hp q7⟩⟩⟩
      · refine zi_if_eq (tgt := 62) X dX7_sturmDegree_43 (by decide) (fun c_43 => ?_) (fun c_43 => (by first | exact absurd (by decide) c_43 | exact absurd c_43 (by decide)))
        refine zi_aload_n X dX7_sturmDegree_62 rfl rfl ?_
        refine zi_iconst (v := (nI 3)) X dX7_sturmDegree_63 (by decide) ?_
        refine zi_callVi X (u_fails l D hu3) kc_X7_fails wm_X7_212 (by first | assumption | exact mup_self | (rw [mup_ne (by assumption)]; assumption) | (rw [mup_ne (by assumption)]; exact mup_self) | (rw [mup_ne (by assumption), mup_ne (by assumption)]; assumption)) rfl wim_X7_fails wse_X7_fails ⟨Nat.le_of_ble_eq_true rfl, Nat.le_of_ble_eq_true rfl⟩ rfl rfl (Nat.le_of_ble_eq_true rfl) ⟨Nat.le_of_ble_eq_true rfl, Nat.le_of_ble_eq_true rfl⟩ dX7_sturmDegree_64 (fun r h4 hp => ?_)
        refine zi_ireturn X Vz dX7_sturmDegree_67 ?_
        exact Or.inr ⟨i, hi, rfl, Or.inr ⟨c0, Or.inl ⟨q2, nI (rL (Sl i)), uT_o (o1 := (o.1, nI (rL (Sl i)), o.2.2)) hp.2 q7⟩⟩⟩
  · refine zi_if_ne (tgt := 13) X dX7_sturmDegree_4 (by decide) (fun c_4 => (by first | exact absurd (by decide) c_4 | exact absurd c_4 (by decide))) (fun c_4 => ?_)
    refine zi_aload_n X dX7_sturmDegree_7 rfl rfl ?_
    refine zi_iconst (v := (nI 1)) X dX7_sturmDegree_8 (by decide) ?_
    refine zi_callVi X (u_fails l D hu) kc_X7_fails wm_X7_212 (by first | assumption | exact mup_self | (rw [mup_ne (by assumption)]; assumption) | (rw [mup_ne (by assumption)]; exact mup_self) | (rw [mup_ne (by assumption), mup_ne (by assumption)]; assumption)) rfl wim_X7_fails wse_X7_fails ⟨Nat.le_of_ble_eq_true rfl, Nat.le_of_ble_eq_true rfl⟩ rfl rfl (Nat.le_of_ble_eq_true rfl) ⟨Nat.le_of_ble_eq_true rfl, Nat.le_of_ble_eq_true rfl⟩ dX7_sturmDegree_9 (fun r h1 hp => ?_)
    refine zi_ireturn X Vz dX7_sturmDegree_12 ?_
    exact Or.inl ⟨q1, o.2.1, uT_o (o1 := (o.1, o.2.1, o.2.2)) hp.2 rfl⟩
theorem u_sturmCoefficient (l : Launch) (D : va_G) (hu : rU cA M h o Sl kp cap n V P) (hb : slB Sl) (hz : ∀ i, i < 5 → stI (Sl i) 7 ≠ 0 → rwAll rL (Sl i)) {a b c : Int32} :
    mCl l yX7_sturmCoefficient cX7_sturmCoefficient 5 (rmd 9) D (mT cA) [.ref (M 3 0), .int a, .int b, .int c] h (fun r h1 => (¬ inR a 5 ∨ ¬ inR c 7) ∧ uL cA M o kp cap n V P 1 Sl h1 ∨ ∃ i k, i < 5 ∧ a = nI i ∧ k < 7 ∧ c = nI k ∧ (stI (Sl i) 7 = 0 ∧ uL cA M o kp cap n V P 2 Sl h1 ∨ stI (Sl i) 7 ≠ 0 ∧ (¬ inR b (rL (Sl i)) ∧ uL cA M o kp cap n V P 3 Sl h1 ∨ ∃ m, m < rL (Sl i) ∧ b = nI m ∧ r = lI (rwE (Sl i) m k) ∧ uL cA M o kp cap n V P 0 Sl h1))) := by
  have x1 := hu.2.1.1
  refine mEnter_l (by decide) (Nat.le_of_ble_eq_true rfl) rfl (fun z X Vz => ?_)
  have f1 : (¬ inR a 5 ∨ ¬ inR c 7) → zM z 0 0 17 [some (.ref (M 3 0)), some (.int a), some (.int b), some (.int c), none] [] h := fun q => by
    refine zi_aload_n X dX7_sturmCoefficient_17 rfl rfl ?_
    refine zi_iconst (v := (nI 1)) X dX7_sturmCoefficient_18 (by decide) ?_
    refine zi_callVi X (u_fails l D hu) kc_X7_fails wm_X7_212 (by first | assumption | exact mup_self | (rw [mup_ne (by assumption)]; assumption) | (rw [mup_ne (by assumption)]; exact mup_self) | (rw [mup_ne (by assumption), mup_ne (by assumption)]; assumption)) rfl wim_X7_fails wse_X7_fails ⟨Nat.le_of_ble_eq_true rfl, Nat.le_of_ble_eq_true rfl⟩ rfl rfl (Nat.le_of_ble_eq_true rfl) ⟨Nat.le_of_ble_eq_true rfl, Nat.le_of_ble_eq_true rfl⟩ dX7_sturmCoefficient_19 (fun r h1 hp => ?_)
    refine zi_i2l X dX7_sturmCoefficient_22 ?_
    refine zi_lreturn X Vz dX7_sturmCoefficient_23 ?_
    exact Or.inl ⟨q, o.2.1, uT_o (o1 := (o.1, o.2.1, o.2.2)) hp.2 rfl⟩
  refine zi_iload_n X dX7_sturmCoefficient_0 rfl rfl ?_
  refine zi_callSi X (s_isSlot l D) kc_X7_isSlot wm_X7_228 wst_X7_isSlot ⟨Nat.le_of_ble_eq_true rfl, Nat.le_of_ble_eq_true rfl⟩ rfl rfl (Nat.le_of_ble_eq_true rfl) ⟨Nat.le_of_ble_eq_true rfl, Nat.le_of_ble_eq_true rfl⟩ dX7_sturmCoefficient_1 (fun r h1 hp => ?_)
  obtain ⟨rfl, ⟨q1, rfl⟩ | ⟨q1, rfl⟩⟩ := hp
  · refine zi_if_eq (tgt := 17) X dX7_sturmCoefficient_4 (by decide) (fun c_4 => (by first | exact absurd (by decide) c_4 | exact absurd c_4 (by decide))) (fun c_4 => ?_)
    refine zi_iload_n X dX7_sturmCoefficient_7 rfl rfl ?_
    refine zi_iconst (v := (nI 0)) X dX7_sturmCoefficient_8 (by decide) ?_
    refine zi_bipush (v := (nI 6)) X dX7_sturmCoefficient_9 (by decide) ?_
    refine zi_callSi X (s_in l D) kc_X7_in wm_X7_232 wst_X7_in ⟨Nat.le_of_ble_eq_true rfl, Nat.le_of_ble_eq_true rfl⟩ rfl rfl (Nat.le_of_ble_eq_true rfl) ⟨Nat.le_of_ble_eq_true rfl, Nat.le_of_ble_eq_true rfl⟩ dX7_sturmCoefficient_11 (fun r h1 hp => ?_)
    obtain ⟨rfl, hp⟩ := hp
    rw [in_R (n := 6) (by decide)] at hp
    rcases hp with ⟨q2, rfl⟩ | ⟨q2, rfl⟩
    · obtain ⟨i, hi, rfl⟩ := q1
      obtain ⟨k, hk, rfl⟩ := q2
      refine zi_if_ne (tgt := 24) X dX7_sturmCoefficient_14 (by decide) (fun c_14 => ?_) (fun c_14 => (by first | exact absurd (by decide) c_14 | exact absurd c_14 (by decide)))
      refine zi_aload_n X dX7_sturmCoefficient_24 rfl rfl ?_
      refine zi_iload_n X dX7_sturmCoefficient_25 rfl rfl ?_
      refine zi_callVi X (u_isZero l D hu hi (fun t ht => hb i t hi ht)) kc_X7_isZero wm_X7_244 (by first | assumption | exact mup_self | (rw [mup_ne (by assumption)]; assumption) | (rw [mup_ne (by assumption)]; exact mup_self) | (rw [mup_ne (by assumption), mup_ne (by assumption)]; assumption)) rfl wim_X7_isZero wse_X7_isZero ⟨Nat.le_of_ble_eq_true rfl, Nat.le_of_ble_eq_true rfl⟩ rfl rfl (Nat.le_of_ble_eq_true rfl) ⟨Nat.le_of_ble_eq_true rfl, Nat.le_of_ble_eq_true rfl⟩ dX7_sturmCoefficient_26 (fun r h2 hp => ?_)
      obtain ⟨rfl, ⟨c0, rfl⟩ | ⟨c0, rfl⟩⟩ := hp
      · refine zi_if_eq (tgt := 39) X dX7_sturmCoefficient_29 (by decide) (fun c_29 => (by first | exact absurd (by decide) c_29 | exact absurd c_29 (by decide))) (fun c_29 => ?_)
        refine zi_aload_n X dX7_sturmCoefficient_32 rfl rfl ?_
        refine zi_iconst (v := (nI 2)) X dX7_sturmCoefficient_33 (by decide) ?_
        refine zi_callVi X (u_fails l D hu) kc_X7_fails wm_X7_212 (by first | assumption | exact mup_self | (rw [mup_ne (by assumption)]; assumption) | (rw [mup_ne (by assumption)]; exact mup_self) | (rw [mup_ne (by assumption), mup_ne (by assumption)]; assumption)) rfl wim_X7_fails wse_X7_fails ⟨Nat.le_of_ble_eq_true rfl, Nat.le_of_ble_eq_true rfl⟩ rfl rfl (Nat.le_of_ble_eq_true rfl) ⟨Nat.le_of_ble_eq_true rfl, Nat.le_of_ble_eq_true rfl⟩ dX7_sturmCoefficient_34 (fun r h3 hp => ?_)
        refine zi_i2l X dX7_sturmCoefficient_37 ?_
        refine zi_lreturn X Vz dX7_sturmCoefficient_38 ?_
        exact Or.inr ⟨i, k, hi, rfl, hk, rfl, Or.inl ⟨c0, o.2.1, uT_o (o1 := (o.1, o.2.1, o.2.2)) hp.2 rfl⟩⟩
      · have zr := (hz i hi c0).1
        refine zi_if_eq (tgt := 39) X dX7_sturmCoefficient_29 (by decide) (fun c_29 => ?_) (fun c_29 => (by first | exact absurd (by decide) c_29 | exact absurd c_29 (by decide)))
        refine zi_aload_n X dX7_sturmCoefficient_39 rfl rfl ?_
        refine zi_iload_n X dX7_sturmCoefficient_40 rfl rfl ?_
        refine zi_callVv X (u_findRow l D hu hb hi zr) kc_X7_findRow wm_X7_253 (by first | assumption | exact mup_self | (rw [mup_ne (by assumption)]; assumption) | (rw [mup_ne (by assumption)]; exact mup_self) | (rw [mup_ne (by assumption), mup_ne (by assumption)]; assumption)) rfl wim_X7_findRow wse_X7_findRow ⟨Nat.le_of_ble_eq_true rfl, Nat.le_of_ble_eq_true rfl⟩ rfl rfl (Nat.le_of_ble_eq_true rfl) ⟨Nat.le_of_ble_eq_true rfl, Nat.le_of_ble_eq_true rfl⟩ dX7_sturmCoefficient_41 (fun h3 hp => ?_)
        obtain ⟨Q, hu3, q7, qr⟩ := hp
        have y1 := hu3.2.1.1
        obtain ⟨L1, hL1⟩ : ∃ L1, rL (Sl i) = L1 + 1 := ⟨rL (Sl i) - 1, by have := zr.1; omega⟩
        have l7 := zr.2.1
        have e1 : nI (rL (Sl i)) - nI 1 = nI L1 := by rw [hL1, nI_pr]
        refine zi_iload_n X dX7_sturmCoefficient_44 rfl rfl ?_
        refine zi_iconst (v := (nI 0)) X dX7_sturmCoefficient_45 (by decide) ?_
        refine zi_aload_n X dX7_sturmCoefficient_46 rfl rfl ?_
        refine zi_getf (C := RX7) (T := TX7) (N := 27) (ci := 11) X (by first | assumption | exact mup_self | (rw [mup_ne (by assumption)]; assumption) | (rw [mup_ne (by assumption)]; exact mup_self) | (rw [mup_ne (by assumption), mup_ne (by assumption)]; assumption)) rfl in_X7 19 (by decide) wf_X7_250 rfl rfl dX7_sturmCoefficient_47 ?_
        refine zi_iconst (v := (nI 1)) X dX7_sturmCoefficient_50 (by decide) ?_
        refine zi_isub X dX7_sturmCoefficient_51 ?_
        rw [e1]
        refine zi_callSi X (s_in l D) kc_X7_in wm_X7_232 wst_X7_in ⟨Nat.le_of_ble_eq_true rfl, Nat.le_of_ble_eq_true rfl⟩ rfl rfl (Nat.le_of_ble_eq_true rfl) ⟨Nat.le_of_ble_eq_true rfl, Nat.le_of_ble_eq_true rfl⟩ dX7_sturmCoefficient_52 (fun r h4 hp => ?_)
        obtain ⟨rfl, hp⟩ := hp
        rw [in_R (by omega), ← hL1] at hp
        rcases hp with ⟨q2, rfl⟩ | ⟨q2, rfl⟩
        · obtain ⟨m, hm, rfl⟩ := q2
          refine zi_if_ne (tgt := 65) X dX7_sturmCoefficient_55 (by decide) (fun c_55 => ?_) (fun c_55 => (by first | exact absurd (by decide) c_55 | exact absurd c_55 (by decide)))
          refine zi_aload_n X dX7_sturmCoefficient_65 rfl rfl ?_
          refine zi_iconst (v := (nI 0)) X dX7_sturmCoefficient_66 (by decide) ?_
          refine zi_putf (C := RX7) (T := TX7) (N := 27) (ci := 11) (ty0 := tyX7) X (by first | assumption | exact mup_self | (rw [mup_ne (by assumption)]; assumption) | (rw [mup_ne (by assumption)]; exact mup_self) | (rw [mup_ne (by assumption), mup_ne (by assumption)]; assumption)) rfl in_X7 tyX7_ok nmX7 0 (by decide) wf_X7_87 rfl rfl rfl rfl rfl (Nat.le_of_ble_eq_true rfl) dX7_sturmCoefficient_67 ?_
          have hu4 := rU_o hu3 (nI 0, nI (rL (Sl i)), o.2.2) rfl
          refine zi_eqh (h' := mup h4 (M 3 0) (mO M (nI 0, nI (rL (Sl i)), o.2.2))) rfl ?_
          have w1 := hu4.2.1.1
          have w6 := hu4.2.1.2.2.2.2.2.1
          obtain ⟨N, hN0, hP⟩ := id hu4.1
          have a1 := hN0.2.1 (8 + m) (by omega)
          have b1 := hN0.1 (7 * (8 + m) + k) (by omega)
          rw [hP (8 + m) (by omega) k hk, qr m hm] at b1
          refine zi_aload_n X dX7_sturmCoefficient_70 rfl rfl ?_
          refine zi_getf (C := RX7) (T := TX7) (N := 27) (ci := 11) X (by first | assumption | exact mup_self | (rw [mup_ne (by assumption)]; assumption) | (rw [mup_ne (by assumption)]; exact mup_self) | (rw [mup_ne (by assumption), mup_ne (by assumption)]; assumption)) rfl in_X7 18 (by decide) wf_X7_66 rfl rfl dX7_sturmCoefficient_71 ?_
          refine zi_iload_n X dX7_sturmCoefficient_74 rfl rfl ?_
          refine zi_aaldA X 5 (by first | assumption | exact mup_self | (rw [mup_ne (by assumption)]; assumption) | (rw [mup_ne (by assumption)]; exact mup_self) | (rw [mup_ne (by assumption), mup_ne (by assumption)]; assumption)) rfl (vin (show m < 8 by omega) (by decide)) (r8_at (d := m) rfl (by omega)) dX7_sturmCoefficient_75 ?_
          refine zi_iload_n X dX7_sturmCoefficient_76 rfl rfl ?_
          refine zi_aaldA X 4 (by first | assumption | exact mup_self | (rw [mup_ne (by assumption)]; assumption) | (rw [mup_ne (by assumption)]; exact mup_self) | (rw [mup_ne (by assumption), mup_ne (by assumption)]; assumption)) rfl (vin hk (by decide)) (pa_at (i := k) hk) dX7_sturmCoefficient_77 ?_
          refine zi_astore X dX7_sturmCoefficient_78 (by decide) ?_
          refine zi_aload X dX7_sturmCoefficient_80 rfl ?_
          refine zi_iconst (v := (nI 1)) X dX7_sturmCoefficient_82 (by decide) ?_
          refine zi_iald X 0 (by first | assumption | exact mup_self | (rw [mup_ne (by assumption)]; assumption) | (rw [mup_ne (by assumption)]; exact mup_self) | (rw [mup_ne (by assumption), mup_ne (by assumption)]; assumption)) rfl (vin (show 1 < 48 by decide) (by decide)) dX7_sturmCoefficient_83 ?_
          refine zi_i2l X dX7_sturmCoefficient_84 ?_
          refine zi_bipush (v := (nI 32)) X dX7_sturmCoefficient_85 (by decide) ?_
          refine zi_lshl X dX7_sturmCoefficient_87 ?_
          refine zi_aload X dX7_sturmCoefficient_88 rfl ?_
          refine zi_iconst (v := (nI 0)) X dX7_sturmCoefficient_90 (by decide) ?_
          refine zi_iald X 0 (by first | assumption | exact mup_self | (rw [mup_ne (by assumption)]; assumption) | (rw [mup_ne (by assumption)]; exact mup_self) | (rw [mup_ne (by assumption), mup_ne (by assumption)]; assumption)) rfl (vin (show 0 < 48 by decide) (by decide)) dX7_sturmCoefficient_91 ?_
          refine zi_i2l X dX7_sturmCoefficient_92 ?_
          refine zi_ldc2_w X wK_X7_91 dX7_sturmCoefficient_93 ?_
          refine zi_land X dX7_sturmCoefficient_96 ?_
          refine zi_lor X dX7_sturmCoefficient_97 ?_
          rw [nf_rd (by decide), nf_rd (by decide), l64]
          refine zi_lreturn X Vz dX7_sturmCoefficient_98 ?_
          exact Or.inr ⟨i, k, hi, rfl, hk, rfl, Or.inr ⟨c0, Or.inr ⟨m, hm, rfl, rfl, nI (rL (Sl i)), uT_o (o1 := (o.1, nI (rL (Sl i)), o.2.2)) hu4 q7⟩⟩⟩
        · refine zi_if_ne (tgt := 65) X dX7_sturmCoefficient_55 (by decide) (fun c_55 => (by first | exact absurd (by decide) c_55 | exact absurd c_55 (by decide))) (fun c_55 => ?_)
          refine zi_aload_n X dX7_sturmCoefficient_58 rfl rfl ?_
          refine zi_iconst (v := (nI 3)) X dX7_sturmCoefficient_59 (by decide) ?_
          refine zi_callVi X (u_fails l D hu3) kc_X7_fails wm_X7_212 (by first | assumption | exact mup_self | (rw [mup_ne (by assumption)]; assumption) | (rw [mup_ne (by assumption)]; exact mup_self) | (rw [mup_ne (by assumption), mup_ne (by assumption)]; assumption)) rfl wim_X7_fails wse_X7_fails ⟨Nat.le_of_ble_eq_true rfl, Nat.le_of_ble_eq_true rfl⟩ rfl rfl (Nat.le_of_ble_eq_true rfl) ⟨Nat.le_of_ble_eq_true rfl, Nat.le_of_ble_eq_true rfl⟩ dX7_sturmCoefficient_60 (fun r h4 hp => ?_)
          refine zi_i2l X dX7_sturmCoefficient_63 ?_
          refine zi_lreturn X Vz dX7_sturmCoefficient_64 ?_
          exact Or.inr ⟨i, k, hi, rfl, hk, rfl, Or.inr ⟨c0, Or.inl ⟨q2, nI (rL (Sl i)), uT_o (o1 := (o.1, nI (rL (Sl i)), o.2.2)) hp.2 q7⟩⟩⟩
    · refine zi_if_ne (tgt := 24) X dX7_sturmCoefficient_14 (by decide) (fun c_14 => (by first | exact absurd (by decide) c_14 | exact absurd c_14 (by decide))) (fun c_14 => ?_)
      exact zi_sub (by repeat (first | exact trivial | refine And.intro rfl ?_)) (f1 (Or.inr q2))
  · refine zi_if_eq (tgt := 17) X dX7_sturmCoefficient_4 (by decide) (fun c_4 => ?_) (fun c_4 => (by first | exact absurd (by decide) c_4 | exact absurd c_4 (by decide)))
    exact zi_sub (by repeat (first | exact trivial | refine And.intro rfl ?_)) (f1 (Or.inl q1))
end ST8
