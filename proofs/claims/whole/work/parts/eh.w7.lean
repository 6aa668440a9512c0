/-! what the constructor of SturmRootsModel makes is its world -/
theorem nE_0 (c : ClassId) : (.inl (c, 48, .inl (fun _ => 0)) : va_E) = nE c 0 := by
  unfold nE
  have : (fun _ => (0 : Int32)) = nf 0 := by
    funext k
    unfold nf nd
    split
    · rw [Int.zero_ediv]
      rfl
    · rfl
  rw [this]
/-- a row of seven numbers, from o -/
def atR (cA : Nat → ClassId) (g : mH) (N : Nat → Nat) (o : Nat) : Prop := g (N o) = some (.inl (cA 4, 7, .inr (.inr (.inr (.inr (fun i => if i < 7 then some (N (o + 1 + i)) else none)))))) ∧ ∀ i, i < 7 → g (N (o + 1 + i)) = some (nE (cA 0) 0)
section W7A
variable {cA : Nat → ClassId} {g : mH} {N : Nat → Nat} {o n : Nat}
theorem atR_of (h : blk g N o 8 (ent2 (cA 4) (cA 0) 7 48)) : atR cA g N o := by
  refine ⟨?_, fun i hi => ?_⟩
  · have := h 0 (by decide)
    unfold ent2 at this
    rw [if_pos rfl] at this
    refine this.trans ?_
    have e : (fun j => if j < 7 then some (N (o + (1 + j))) else none) = fun i => if i < 7 then some (N (o + 1 + i)) else none := funext fun j => by rw [Nat.add_assoc]
    rw [e]
  · have := h (1 + i) (by omega)
    unfold ent2 at this
    rw [if_neg (by omega), nE_0] at this
    rw [Nat.add_assoc]
    exact this
theorem at3_of (h : blk g N o (1 + n * 8) (ent3 (cA 5) (cA 4) (cA 0) n 7 48)) : g (N o) = some (.inl (cA 5, n, .inr (.inr (.inr (.inr (fun d => if d < n then some (N (o + 1 + 8 * d)) else none)))))) ∧ ∀ d, d < n → atR cA g N (o + 1 + 8 * d) := by
  refine ⟨?_, fun d hd => ⟨?_, fun i hi => ?_⟩⟩
  · have := h 0 (by omega)
    unfold ent3 at this
    rw [if_pos rfl] at this
    refine this.trans ?_
    have e : (fun j => if j < n then some (N (o + (1 + j * (1 + 7)))) else none) = fun d => if d < n then some (N (o + 1 + 8 * d)) else none := funext fun j => by rw [Nat.add_assoc, Nat.mul_comm j]
    rw [e]
  · have := h (1 + 8 * d) (by omega)
    unfold ent3 at this
    rw [if_neg (by omega), if_pos (by omega)] at this
    rw [Nat.add_assoc]
    refine this.trans ?_
    have e : (fun j => if j < 7 then some (N (o + (1 + 8 * d + 1 + j))) else none) = fun i => if i < 7 then some (N (o + (1 + 8 * d) + 1 + i)) else none := funext fun j => by rw [show o + (1 + 8 * d + 1 + j) = o + (1 + 8 * d) + 1 + j by omega]
    rw [e]
  · have := h (1 + 8 * d + 1 + i) (by omega)
    unfold ent3 at this
    rw [if_neg (by omega), if_neg (by omega), nE_0] at this
    rw [show o + 1 + 8 * d + 1 + i = o + (1 + 8 * d + 1 + i) by omega]
    exact this
end W7A
def pjx (j : Nat) : Nat := if j < 5 then 13 + 8 * j else if j < 6 then 1335 else if j < 7 then 1344 else if j < 8 then 1418 else if j < 16 then 1289 + 8 * j else 8 * j - 74
def njx (n : Nat) : Nat := if n < 1232 then pjx (n / 7) + 1 + n % 7 else n - 1225
def ix7 (k n : Nat) : Nat := match k with
  | 0 => njx n
  | 1 => pjx n
  | 2 => if n = 0 then 1 else if n = 1 then 53 else if n = 2 then 1334 else if n = 3 then 1343 else if n = 4 then 1352 else 1417
  | 3 => 0
  | _ => 2 + n
theorem pjx_c (j : Nat) : (j < 5 ∧ pjx j = 13 + 8 * j) ∨ (j = 5 ∧ pjx j = 1335) ∨ (j = 6 ∧ pjx j = 1344) ∨ (j = 7 ∧ pjx j = 1418) ∨ (8 ≤ j ∧ j < 16 ∧ pjx j = 1289 + 8 * j) ∨ (16 ≤ j ∧ pjx j + 74 = 8 * j) := by
  unfold pjx
  split
  · omega
  · split
    · omega
    · split
      · omega
      · split
        · omega
        · split <;> omega
theorem pjx_i {j k : Nat} (hj : j < 176) (hk : k < 176) (hne : j ≠ k) : pjx j + 8 ≤ pjx k ∨ pjx k + 8 ≤ pjx j := by
  rcases pjx_c j with a | a | a | a | a | a <;> rcases pjx_c k with b | b | b | b | b | b <;> omega
theorem njx_j {j i : Nat} (hj : j < 176) (hi : i < 7) : njx (7 * j + i) = pjx j + 1 + i := by
  unfold njx
  rw [if_pos (by omega), Nat.mul_add_div (by decide), Nat.mul_add_mod, Nat.div_eq_of_lt hi, Nat.mod_eq_of_lt hi, Nat.add_zero j]
theorem njx_b {n : Nat} (hn : n < 1238) : (7 ≤ njx n ∧ njx n < 13 ∧ n = njx n + 1225) ∨ ∃ j i, j < 176 ∧ i < 7 ∧ n = 7 * j + i ∧ njx n = pjx j + 1 + i := by
  by_cases c : n < 1232
  · right
    have h7 := Nat.div_add_mod n 7
    have hm := Nat.mod_lt n (show 0 < 7 by decide)
    refine ⟨n / 7, n % 7, by omega, hm, h7.symm, ?_⟩
    unfold njx
    rw [if_pos c]
  · left
    unfold njx
    rw [if_neg c]
    omega
theorem pjx_b {j : Nat} (hj : j < 176) : 13 ≤ pjx j ∧ pjx j + 8 ≤ 1426 := by
  rcases pjx_c j with a | a | a | a | a | a <;> omega
section W7
variable {cA : Nat → ClassId} {h g : mH} {a : Nat}
theorem x7_world (hm : madeL h g a 1430 (entO x7F (ps7 cA)) []) {V : Nat → Iv} {src : Nat → Int} : ∃ N : Nat → Nat, N 0 = a ∧ (∀ i j, i < 1430 → j < 1430 → N i = N j → i = j) ∧ (∀ i, 0 < i → i < 1430 → h (N i) = none) ∧ (∀ i, i < 1430 → g (N i) ≠ none) ∧ (∀ b, (∀ i, i < 1430 → b ≠ N i) → g b = h b) ∧ rW cA (fun k n => N (ix7 k n)) 0 g (fun _ _ => 0, 0, V, src) := by
  obtain ⟨N, ⟨n0, inj, fr, ent, out⟩, -⟩ := hm
  refine ⟨N, n0, inj, fr, fun i hi => by rw [ent i hi]; exact Option.some_ne_none _, out, ?_⟩
  have all : blk g N 0 1430 (entO x7F (ps7 cA)) := fun i hi => by
    rw [Nat.zero_add, ent i hi]
    have e : (fun k => N (0 + k)) = N := funext fun k => by rw [Nat.zero_add]
    rw [e]
  clear ent
  obtain ⟨o0, r0⟩ := blk_O (n := 1429) all
  obtain ⟨k0, r1⟩ := blk_L (m := 1423) r0 rfl
  obtain ⟨k1, r2⟩ := blk_L (m := 1422) r1 rfl
  obtain ⟨k2, r3⟩ := blk_L (m := 1421) r2 rfl
  obtain ⟨k3, r4⟩ := blk_L (m := 1420) r3 rfl
  obtain ⟨k4, r5⟩ := blk_L (m := 1419) r4 rfl
  obtain ⟨k5, r6⟩ := blk_L (m := 1418) r5 rfl
  obtain ⟨k6, r7⟩ := blk_L (m := 1417) r6 rfl
  obtain ⟨k7, r8⟩ := blk_L (m := 1409) r7 rfl
  obtain ⟨k8, r9⟩ := blk_L (m := 1401) r8 rfl
  obtain ⟨k9, r10⟩ := blk_L (m := 1393) r9 rfl
  obtain ⟨k10, r11⟩ := blk_L (m := 1385) r10 rfl
  obtain ⟨k11, r12⟩ := blk_L (m := 1377) r11 rfl
  obtain ⟨k12, r13⟩ := blk_L (m := 96) r12 rfl
  obtain ⟨k13, r14⟩ := blk_L (m := 95) r13 rfl
  obtain ⟨k14, r15⟩ := blk_L (m := 87) r14 rfl
  obtain ⟨k15, r16⟩ := blk_L (m := 86) r15 rfl
  obtain ⟨k16, r17⟩ := blk_L (m := 78) r16 rfl
  obtain ⟨k17, r18⟩ := blk_L (m := 13) r17 rfl
  obtain ⟨k18, r19⟩ := blk_L (m := 12) r18 rfl
  obtain ⟨k19, r20⟩ := blk_L (m := 4) r19 rfl
  obtain ⟨k20, r21⟩ := blk_L (m := 3) r20 rfl
  obtain ⟨k21, r22⟩ := blk_L (m := 2) r21 rfl
  obtain ⟨k22, r23⟩ := blk_L (m := 1) r22 rfl
  obtain ⟨k23, r24⟩ := blk_L (m := 0) r23 rfl
  have zz : ∀ j, stI (fun _ => (0 : Int)) j = 0 := fun j => by
    induction j with
    | zero => rfl
    | succ j ih => rw [stI, if_pos rfl]; exact ih
  have e0 : (fun _ => (0 : Int32)) = fun k => if k < 7 then iI ((fun _ => (0 : Int)) k) else 0 := by
    funext k
    split <;> rfl
  have k12 : blk g N 53 (1 + 160 * 8) (ent3 (cA 5) (cA 4) (cA 0) 160 7 48) := k12
  have k17 : blk g N 1352 (1 + 8 * 8) (ent3 (cA 5) (cA 4) (cA 0) 8 7 48) := k17
  obtain ⟨hv1, hv2⟩ := at3_of k12
  obtain ⟨rw1, rw2⟩ := at3_of k17
  have R : ∀ j, j < 176 → atR cA g N (pjx j) := fun j hj => by
    rcases pjx_c j with ⟨c, e⟩ | ⟨c, e⟩ | ⟨c, e⟩ | ⟨c, e⟩ | ⟨c, d, e⟩ | ⟨c, e⟩
    · rcases (show j = 0 ∨ j = 1 ∨ j = 2 ∨ j = 3 ∨ j = 4 by omega) with rfl | rfl | rfl | rfl | rfl
      · exact atR_of k7
      · exact atR_of k8
      · exact atR_of k9
      · exact atR_of k10
      · exact atR_of k11
    · subst c
      exact atR_of k14
    · subst c
      exact atR_of k16
    · subst c
      exact atR_of k19
    · have := rw2 (j - 8) (by omega)
      rw [show 1352 + 1 + 8 * (j - 8) = pjx j by omega] at this
      exact this
    · have := hv2 (j - 16) (by omega)
      rw [show 53 + 1 + 8 * (j - 16) = pjx j by omega] at this
      exact this
  have hNw : hN cA (fun k n => N (ix7 k n)) (fun _ => 0) g := by
    refine ⟨fun n hn => ?_, fun j hj => ?_, fun m n hm hn e => ?_⟩
    · show g (N (njx n)) = _
      rcases njx_b hn with ⟨c1, c2, c3⟩ | ⟨j, i, hj, hi, -, e⟩
      · rw [← nE_0]
        rcases (show njx n = 7 ∨ njx n = 8 ∨ njx n = 9 ∨ njx n = 10 ∨ njx n = 11 ∨ njx n = 12 by omega) with e | e | e | e | e | e <;> rw [e]
        · exact blk_1 (m := 0) k1
        · exact blk_1 (m := 0) k2
        · exact blk_1 (m := 0) k3
        · exact blk_1 (m := 0) k4
        · exact blk_1 (m := 0) k5
        · exact blk_1 (m := 0) k6
      · rw [e]
        exact (R j hj).2 i hi
    · refine (R j hj).1.trans ?_
      have : (fun i => if i < 7 then some (N (pjx j + 1 + i)) else none) = fun i => if i < 7 then some (N (njx (7 * j + i))) else none := by
        funext i
        by_cases c : i < 7
        · rw [if_pos c, if_pos c, njx_j hj c]
        · rw [if_neg c, if_neg c]
      rw [this]
      rfl
    · have bb : ∀ n, n < 1238 → njx n < 1430 := fun n hn => by
        rcases njx_b hn with c | ⟨j, i, hj, hi, -, e⟩
        · omega
        · have := pjx_b hj
          omega
      have e := inj _ _ (bb m hm) (bb n hn) e
      have e : njx m = njx n := e
      rcases njx_b hm with ⟨a1, a2, a3⟩ | ⟨j, i, hj, hi, rfl, a⟩
      · rcases njx_b hn with ⟨b1, b2, b3⟩ | ⟨k, t, hk, ht, rfl, b⟩
        · omega
        · have := pjx_b hk
          omega
      · rcases njx_b hn with ⟨b1, b2, b3⟩ | ⟨k, t, hk, ht, rfl, b⟩
        · have := pjx_b hj
          omega
        · by_cases c : j = k
          · subst c
            omega
          · have := pjx_i hj hk c
            omega
  have lst : ∀ t, t < 4 → g (N (1426 + t)) = some (liE (cA 0) 64 (fun _ => 0)) := fun t ht => by
    rcases (show t = 0 ∨ t = 1 ∨ t = 2 ∨ t = 3 by omega) with rfl | rfl | rfl | rfl
    · exact blk_1 (m := 0) k20
    · exact blk_1 (m := 0) k21
    · exact blk_1 (m := 0) k22
    · exact blk_1 (m := 0) k23
  have rowE : ∀ (n o b : Nat), (∀ d, d < n → pjx (b + d) = o + 1 + 8 * d) → (fun d => if d < n then some (N (o + 1 + 8 * d)) else none) = fun d => if d < n then some (N (pjx (b + d))) else none := fun n o b hb => by
    funext d
    by_cases c : d < n
    · rw [if_pos c, if_pos c, hb d c]
    · rw [if_neg c, if_neg c]
  refine ⟨nI 0, fun t => N (1426 + t), 64, fun _ _ => 0, fun _ => 0, ⟨⟨fun _ => 0, hNw, fun j hj i hi => rfl⟩, ⟨?_, ?_, fun i hi => ?_, ?_, ?_, ?_, ⟨fun _ => 0, blk_1 (m := 0) k13⟩, fun _ => 0, blk_1 (m := 0) k15⟩, ⟨fun _ _ => 0, lst, fun s t hs ht e => ?_, Nat.zero_le 64, ⟨by decide, by decide, by decide, 0, rfl⟩, fun i hi => absurd hi (Nat.not_lt_zero i)⟩, fun i j hi hj e => ?_, fun i hi e => ?_⟩, fun c => absurd rfl c⟩
  · exact o0
  · have := k0 0 (by decide)
    unfold ent2 at this
    rw [if_pos rfl] at this
    refine this.trans ?_
    have : (fun j => if j < 5 then some (N (0 + 1 + (1 + j))) else none) = fun i => if i < 5 then some (N (2 + i)) else none := by
      funext j
      rw [show 0 + 1 + (1 + j) = 2 + j by omega]
    rw [this]
    rfl
  · have := k0 (1 + i) (by omega)
    unfold ent2 at this
    rw [if_neg (by omega), show 0 + 1 + (1 + i) = 2 + i by omega] at this
    refine this.trans ?_
    unfold slotA
    rw [e0]
  · refine (blk_1 (m := 0) k18).trans ?_
    unfold slotA
    rw [e0]
  · refine hv1.trans ?_
    rw [rowE 160 53 16 (fun d hd => by rcases pjx_c (16 + d) with c | c | c | c | c | c <;> omega)]
    rfl
  · refine rw1.trans ?_
    rw [rowE 8 1352 8 (fun d hd => by rcases pjx_c (8 + d) with c | c | c | c | c | c <;> omega)]
    rfl
  · have := inj (1426 + s) (1426 + t) (by omega) (by omega) e
    omega
  · have := inj (2 + i) (2 + j) (by omega) (by omega) e
    omega
  · have := inj (2 + i) 1417 (by omega) (by decide) e
    omega
end W7
