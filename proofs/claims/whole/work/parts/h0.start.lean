/-! the law from its entry to its loop -/
theorem madeL_res {h g : mH} {a c : Nat} {E : (Nat → Nat) → Nat → va_E} {e : va_E} (hm : madeL (mup h a e) g a c E []) (hc : 0 < c) : ∃ N : Nat → Nat, N 0 = a ∧ (∀ i, 0 < i → i < c → mup h a e (N i) = none) ∧ (∀ i, i < c → g (N i) ≠ none) ∧ (∀ b, (∀ i, i < c → b ≠ N i) → g b = mup h a e b) ∧ ∃ hr : mH, (∀ b x, hr b = some x → g b = some x ∧ ∃ i, i < c ∧ b = N i) ∧ madeL (mup (fun _ => none) a e) hr a c E [] := by
  obtain ⟨N, ⟨n0, n1, n2, n3, n4⟩, _⟩ := hm
  refine ⟨N, n0, n2, fun i hi => by rw [n3 i hi]; exact Option.some_ne_none _, n4, fun b => if (∃ i, i < c ∧ b = N i) then g b else none, fun b x hb => ?_, N, ⟨n0, n1, fun i h1 h2 => ?_, fun i hi => ?_, fun b hb => ?_⟩, fun p hp => absurd hp List.not_mem_nil⟩
  · (try dsimp only at hb)
    split at hb
    · next q => exact ⟨hb, q⟩
    · cases hb
  · have : N i ≠ a := fun q => by
      have := n1 i 0 h2 hc (q.trans n0.symm)
      omega
    rw [mup_ne this]
  · (try dsimp only)
    rw [if_pos ⟨i, hi, rfl⟩, n3 i hi]
  · (try dsimp only)
    rw [if_neg (fun ⟨i, hi, q⟩ => hb i hi q), mup_ne (fun q => hb 0 hc (q.trans n0.symm))]
theorem aI_0 (V : Nat → Iv) (src : Nat → Int) : aI 0 (fun _ _ => 0, 0, V, src) := ⟨fun i _ => ⟨fun k _ => Nat.zero_le _, fun k _ => rfl⟩, Nat.zero_le _, fun q => absurd rfl q, fun i hi => absurd hi (Nat.not_lt_zero i)⟩
/-- the two worlds and the long row, apart -/
theorem start_LW {cA : Nat → ClassId} {D : va_G} {g1 g2 : mH} {q1 q2 q3 : Nat} {e1 e2 : va_E} (hm1 : ∃ alg, madeL (mup (fun _ => none) q1 e1) g1 q1 387 (entO x6F (ps6 cA D alg)) [(7, alg)]) (hq2 : g1 q2 = none) (hm2 : madeL (mup g1 q2 e2) g2 q2 1430 (entO x7F (ps7 cA)) []) (hq3 : g2 q3 = none) : ∃ (S M : Nat → Nat → Nat) (Xa : XAd), Xa.1 = q1 ∧ M 3 0 = q2 ∧ LW cA D S Xa M (aI 0) q3 (mup g2 q3 (.inl (cA 1, 1, .inr (.inl (fun _ => 0))))) := by
  obtain ⟨N, a0, a1, a2, a3, a4, a5⟩ := x6_world hm1 (V := fun _ => (0, 0, 0, 0)) (src := fun _ => 0)
  obtain ⟨N2, b0, b1, b2, b3, hr, c1, c2⟩ := madeL_res hm2 (by decide)
  obtain ⟨M, d0, d1, d2, d3, d4, d5⟩ := x7_world c2 (V := fun _ => (0, 0, 0, 0)) (src := fun _ => 0)
  have sub : ∀ a x, g1 a = some x → g2 a = some x ∧ ∀ i, i < 1430 → a ≠ N2 i := fun a x ha => by
    have hn : ∀ i, i < 1430 → a ≠ N2 i := fun i hi q => by
      by_cases z : i = 0
      · rw [q, z, b0, hq2] at ha; cases ha
      · have h1 := b1 i (by omega) hi
        have h2 : N2 i ≠ q2 := fun w => by
          rw [q, w, hq2] at ha; cases ha
        rw [mup_ne h2, ← q, ha] at h1
        cases h1
    refine ⟨?_, hn⟩
    rw [b3 a hn, mup_ne (fun q => hn 0 (by decide) (q.trans b0.symm)), ha]
  refine ⟨fun k n => N (ix6 k n), fun k n => M (ix7 k n), (q1, N 1, N 7, N 255, N 272, fun i => N (2 + i)), rfl, d0, g1, hr, fun _ => 0, (fun _ _ => 0, 0, fun _ => (0, 0, 0, 0), fun _ => 0), 0, ⟨fun a x ha => ?_, fun a x ha => ?_, fun a ha => ?_, mup_self, ?_, ?_⟩, aI_0 _ _, a5, d5⟩
  · have h1 := (sub a x ha).1
    rw [mup_ne (fun q => by rw [q, hq3] at h1; cases h1)]
    exact h1
  · have h1 := (c1 a x ha).1
    rw [mup_ne (fun q => by rw [q, hq3] at h1; cases h1)]
    exact h1
  · cases hz : hr a with
    | none => rfl
    | some x =>
      obtain ⟨_, i, hi, q⟩ := c1 a x hz
      cases hy : g1 a with
      | none => exact absurd hy ha
      | some y => exact absurd q ((sub a y hy).2 i hi)
  · cases hy : g1 q3 with
    | none => rfl
    | some y => have := (sub q3 y hy).1; rw [hq3] at this; cases this
  · cases hz : hr q3 with
    | none => rfl
    | some x => have := (c1 q3 x hz).1; rw [hq3] at this; cases this
section BODY
variable {z : mZ} {l : Launch} {D : va_G} {cA : Nat → ClassId} {scr sn : Nat} {sf : Nat → Int32}
theorem law_body (X : zX z l D cL_law yL_law.cls (mT cA) 8 (some .boolean) room_1 yL_law.name) (hl : l.stackTraces = false) (hB : zB z scr sn sf) (hsn : sn ≤ 3072) (fin : ∀ c s L h, c ≤ 603072 → s ≤ 7202922 → zM z c s 2210 L [] h) : zM z 0 0 0 [some (.ref scr), none, none, none, none, none, none, none] [] (fun _ => none) := by
  refine zi_new (C := RX6) (T := TX6) (N := 8) (ci := 10) (ty := tyX6) (fs := [.null, .null, .null, .null, .null, .null, .null, .null]) X rfl in_X6 tyX6_ok wc_L_8 wit_X6 win_X6 (by decide) (Nat.le_of_ble_eq_true rfl) (Nat.le_of_ble_eq_true rfl) dL_law_0 (fun q1 hq1 => ?_)
  refine zi_dup X dL_law_3 rfl ?_
  refine zi_callIv (host := "") X (x6_init l D mup_self) kc_X6_init wm_L_110 wim_X6_init rfl ⟨Nat.le_of_ble_eq_true rfl, Nat.le_of_ble_eq_true rfl⟩ rfl rfl (Nat.le_of_ble_eq_true rfl) ⟨Nat.le_of_ble_eq_true rfl, Nat.le_of_ble_eq_true rfl⟩ dL_law_4 (fun g1 hm1 => ?_)
  refine zi_astore_n X dL_law_7 rfl (by decide) ?_
  refine zi_new (C := RX7) (T := TX7) (N := 27) (ci := 11) (ty := tyX7) (fs := [.int 0, .null, .null, .null, .null, .null, .null, .null, .null, .null, .null, .null, .null, .null, .null, .null, .null, .null, .null, .int 0, .null, .null, .null, .null, .null, .null, .int 0]) X rfl in_X7 tyX7_ok wc_L_111 wit_X7 win_X7 (by decide) (Nat.le_of_ble_eq_true rfl) (Nat.le_of_ble_eq_true rfl) dL_law_8 (fun q2 hq2 => ?_)
  refine zi_dup X dL_law_11 rfl ?_
  refine zi_callIv (host := "") X (x7_init l D mup_self) kc_X7_init wm_L_113 wim_X7_init rfl ⟨Nat.le_of_ble_eq_true rfl, Nat.le_of_ble_eq_true rfl⟩ rfl rfl (Nat.le_of_ble_eq_true rfl) ⟨Nat.le_of_ble_eq_true rfl, Nat.le_of_ble_eq_true rfl⟩ dL_law_12 (fun g2 hm2 => ?_)
  refine zi_astore_n X dL_law_15 rfl (by decide) ?_
  refine zi_iconst (v := (nI 1)) X dL_law_16 (by decide) ?_
  refine zi_newa (atype := .long) (ty := .long) (t0 := 1) (N' := 1) (a0 := (1, .inr (.inl (fun _ => 0)))) X rfl wac_long rfl (fun _ => rfl) (by decide) rfl (Nat.le_of_ble_eq_true rfl) (Nat.le_of_ble_eq_true rfl) (Nat.le_of_ble_eq_true rfl) dL_law_17 (fun q3 hq3 => ?_)
  obtain ⟨S, M, Xa, x1, x2, hW⟩ := start_LW hm1 hq2 hm2 hq3
  refine zi_astore_n X dL_law_19 rfl (by decide) ?_
  refine zi_iconst (v := (nI 0)) X dL_law_20 (by decide) ?_
  refine zi_istore X dL_law_21 (by decide) ?_
  subst x1 x2
  refine zi_widen (k := 1818 + 10 * 0) (n := 65393 + 13212 * 0) (Nat.le_of_ble_eq_true rfl) (Nat.le_of_ble_eq_true rfl) ?_
  exact law_loop X (Inv := aI) (fun t ht => ag_all (t := t) hl ht) (fun t A h => aI_up h) hB hsn (c0 := 1818) (s0 := 65393) (Nat.le_of_ble_eq_true rfl) (Nat.le_of_ble_eq_true rfl) fin (sn / 6) 0 _ none none (Nat.zero_add _) hW
end BODY
