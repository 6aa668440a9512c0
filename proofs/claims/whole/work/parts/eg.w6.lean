/-! what the constructor of SturmRoots makes is its world -/
def blk (g : mH) (N : Nat → Nat) (o B : Nat) (E : (Nat → Nat) → Nat → va_E) : Prop := ∀ i, i < B → g (N (o + i)) = some (E (fun k => N (o + k)) i)
section BLK
variable {g : mH} {N : Nat → Nat} {o B n m : Nat} {E : (Nat → Nat) → Nat → va_E} {O : Nat → va_E} {cr : ClassId} {ps : List blkE}
theorem blk_R (hB : 0 < B) (h : blk g N o (2 + B * 7) (entR O cr B E)) : g (N o) = some (O (N (o + 1))) ∧ g (N (o + 1)) = some (.inl (cr, 7, .inr (.inr (.inr (.inr (fun k => if k < 7 then some (N (o + (2 + B * k))) else none)))))) ∧ ∀ k, k < 7 → blk g N (o + (2 + B * k)) B E := by
  refine ⟨?_, ?_, fun k hk i hi => ?_⟩
  · have := h 0 (by omega)
    unfold entR at this
    rw [if_pos rfl] at this
    exact this
  · have := h 1 (by omega)
    unfold entR at this
    rw [if_neg (by decide), if_pos rfl] at this
    exact this
  · have hm := mul_blk (B := B) hk hi
    have := h (2 + B * k + i) (by omega)
    unfold entR at this
    rw [if_neg (by omega), if_neg (by omega), show 2 + B * k + i - 2 = B * k + i by omega, Nat.mul_add_div hB, Nat.mul_add_mod, Nat.div_eq_of_lt hi, Nat.mod_eq_of_lt hi, Nat.add_zero, ← Nat.add_assoc] at this
    rw [this]
    have e : (fun j => N (o + (2 + B * k + j))) = fun j => N (o + (2 + B * k) + j) := funext fun j => by rw [Nat.add_assoc o]
    rw [← e]
theorem blk_O {O : (Nat → Nat) → va_E} (h : blk g N o (n + 1) (entO O ps)) : g (N o) = some (O (fun k => N (o + k))) ∧ blk g N (o + 1) n (entL ps) := by
  refine ⟨?_, fun i hi => ?_⟩
  · have := h 0 (by omega)
    unfold entO at this
    rw [if_pos rfl] at this
    exact this
  · have := h (i + 1) (by omega)
    unfold entO at this
    rw [if_neg (by omega), Nat.add_sub_cancel] at this
    rw [show o + 1 + i = o + (i + 1) by omega, this]
    have e : (fun k => N (o + (1 + k))) = fun k => N (o + 1 + k) := funext fun k => by rw [Nat.add_assoc]
    rw [← e]
theorem blk_L (h : blk g N o n (entL ((B, E) :: ps))) (hn : B + m = n) : blk g N o B E ∧ blk g N (o + B) m (entL ps) := by
  refine ⟨fun i hi => ?_, fun i hi => ?_⟩
  · have := h i (by omega)
    rw [entL, if_pos hi] at this
    exact this
  · have := h (B + i) (by omega)
    rw [entL, if_neg (by omega), Nat.add_sub_cancel_left] at this
    rw [Nat.add_assoc, this]
    have e : (fun k => N (o + (B + k))) = fun k => N (o + B + k) := funext fun k => by rw [Nat.add_assoc]
    rw [← e]
theorem blk_1 (h : blk g N o (m + 1) E) : g (N o) = some (E (fun k => N (o + k)) 0) := h 0 (by omega)
end BLK
/-- a polynomial that is zero, from o -/
def atP (cA : Nat → ClassId) (g : mH) (N : Nat → Nat) (o : Nat) : Prop := g (N o) = some (pO (N (o + 1)) 0) ∧ g (N (o + 1)) = some (.inl (cA 2, 7, .inr (.inr (.inr (.inr (fun k => if k < 7 then some (N (o + (2 + 2 * k))) else none)))))) ∧ ∀ k, k < 7 → isBig g (cA 0) (N (o + (2 + 2 * k))) (N (o + (2 + 2 * k) + 1)) 0
def atS (cA : Nat → ClassId) (g : mH) (N : Nat → Nat) (o : Nat) : Prop := g (N o) = some (sO (N (o + 1)) 0) ∧ g (N (o + 1)) = some (.inl (cA 3, 7, .inr (.inr (.inr (.inr (fun k => if k < 7 then some (N (o + (2 + 16 * k))) else none)))))) ∧ ∀ k, k < 7 → atP cA g N (o + (2 + 16 * k))
section AT
variable {cA : Nat → ClassId} {D : va_G} {g : mH} {N : Nat → Nat} {o : Nat}
theorem atB_of {c : ClassId} (h : blk g N o 2 (entB c)) : isBig g c (N o) (N (o + 1)) 0 := by
  have h0 := h 0 (by decide)
  have h1 := h 1 (by decide)
  unfold entB at h0 h1
  rw [if_pos rfl] at h0
  rw [if_neg (by decide)] at h1
  exact ⟨h0, h1, by rw [Int.natAbs_zero]; exact BB_pos 20⟩
theorem atP_of (h : blk g N o 16 (entP cA)) : atP cA g N o := by
  obtain ⟨h1, h2, h3⟩ := blk_R (B := 2) (by decide) h
  exact ⟨h1, h2, fun k hk => atB_of (h3 k hk)⟩
theorem atS_of (h : blk g N o 114 (entS cA)) : atS cA g N o := by
  obtain ⟨h1, h2, h3⟩ := blk_R (B := 16) (by decide) h
  exact ⟨h1, h2, fun k hk => atP_of (h3 k hk)⟩
end AT
/-- where the parts lie -/
def pbx (j : Nat) : Nat := if j < 3 then 93 + 16 * j else if j < 10 then 95 + 16 * j else if j < 14 then 16 * j - 131 else if j < 15 then 256 else 35 + 16 * j
def bgx (n : Nat) : Nat := if n < 154 then pbx (n / 7) + (2 + 2 * (n % 7)) else 2 * n - 299
def ix6 (k n : Nat) : Nat := match k with
  | 0 => bgx n
  | 1 => bgx n + 1
  | 2 => pbx n
  | 3 => pbx n + 1
  | 4 => if n = 0 then 141 else 273
  | 5 => if n = 0 then 142 else 274
  | _ => 8
theorem bgx_j {j i : Nat} (hj : j < 22) (hi : i < 7) : bgx (7 * j + i) = pbx j + (2 + 2 * i) := by
  unfold bgx
  rw [if_pos (by omega), Nat.mul_add_div (by decide), Nat.mul_add_mod, Nat.div_eq_of_lt hi, Nat.mod_eq_of_lt hi, Nat.add_zero]
theorem pbx_b {j : Nat} (hj : j < 22) : 29 ≤ pbx j ∧ pbx j + 16 ≤ 387 ∧ (pbx j + 16 ≤ 141 ∨ 143 ≤ pbx j) ∧ (pbx j + 16 ≤ 255 ∨ 256 ≤ pbx j) ∧ (pbx j + 16 ≤ 272 ∨ 275 ≤ pbx j) := by
  unfold pbx
  split
  · omega
  · split
    · omega
    · split
      · omega
      · split <;> omega
theorem pbx_c (j : Nat) : (j < 3 ∧ pbx j = 93 + 16 * j) ∨ (3 ≤ j ∧ j < 10 ∧ pbx j = 95 + 16 * j) ∨ (10 ≤ j ∧ j < 14 ∧ pbx j + 131 = 16 * j) ∨ (j = 14 ∧ pbx j = 256) ∨ (15 ≤ j ∧ pbx j = 35 + 16 * j) := by
  unfold pbx
  split
  · omega
  · split
    · omega
    · split
      · omega
      · split <;> omega
theorem pbx_i {j k : Nat} (hj : j < 22) (hk : k < 22) (hne : j ≠ k) : pbx j + 16 ≤ pbx k ∨ pbx k + 16 ≤ pbx j := by
  rcases pbx_c j with a | a | a | a | a <;> rcases pbx_c k with b | b | b | b | b <;> omega
theorem bgx_b {n : Nat} (hn : n < 164) : (9 ≤ bgx n ∧ bgx n < 28 ∧ bgx n % 2 = 1 ∧ n = (bgx n + 299) / 2 ∧ 154 ≤ n) ∨ ∃ j i, j < 22 ∧ i < 7 ∧ n = 7 * j + i ∧ bgx n = pbx j + (2 + 2 * i) := by
  by_cases c : n < 154
  · right
    have h7 := Nat.div_add_mod n 7
    have hm := Nat.mod_lt n (show 0 < 7 by decide)
    refine ⟨n / 7, n % 7, by omega, hm, h7.symm, ?_⟩
    unfold bgx
    rw [if_pos c]
  · left
    unfold bgx
    rw [if_neg c]
    omega
theorem bgx_inj {m n : Nat} (hm : m < 164) (hn : n < 164) {d e : Nat} (hd : d < 2) (he : e < 2) (h : bgx m + d = bgx n + e) : m = n ∧ d = e := by
  rcases bgx_b hm with ⟨a1, a2, a3, a4, -⟩ | ⟨j, i, hj, hi, rfl, a⟩
  · rcases bgx_b hn with ⟨b1, b2, b3, b4, -⟩ | ⟨k, t, hk, ht, rfl, b⟩
    · omega
    · have := pbx_b hk
      omega
  · rcases bgx_b hn with ⟨b1, b2, b3, b4, -⟩ | ⟨k, t, hk, ht, rfl, b⟩
    · have := pbx_b hj
      omega
    · by_cases c : j = k
      · subst c
        omega
      · have := pbx_i hj hk c
        omega
section W6
variable {cA : Nat → ClassId} {D : va_G} {h g : mH} {a : Nat}
theorem x6_world (hm : ∃ alg, madeL h g a 387 (entO x6F (ps6 cA D alg)) [(7, alg)]) {V : Nat → Iv} {src : Nat → Int} : ∃ N : Nat → Nat, N 0 = a ∧ (∀ i j, i < 387 → j < 387 → N i = N j → i = j) ∧ (∀ i, 0 < i → i < 387 → h (N i) = none) ∧ (∀ i, i < 387 → g (N i) ≠ none) ∧ (∀ b, (∀ i, i < 387 → b ≠ N i) → g b = h b) ∧ isW cA D (fun k n => N (ix6 k n)) (a, N 1, N 7, N 255, N 272, fun i => N (2 + i)) g (fun _ _ => 0, 0, V, src) := by
  obtain ⟨alg, N, ⟨n0, inj, fr, ent, out⟩, hL⟩ := hm
  have halg : N 8 = alg := hL (7, alg) List.mem_cons_self
  refine ⟨N, n0, inj, fr, fun i hi => by rw [ent i hi]; exact Option.some_ne_none _, out, ?_⟩
  have all : blk g N 0 387 (entO x6F (ps6 cA D alg)) := fun i hi => by
    rw [Nat.zero_add, ent i hi]
    have e : (fun k => N (0 + k)) = N := funext fun k => by rw [Nat.zero_add]
    rw [e]
  clear ent
  obtain ⟨o0, r0⟩ := blk_O (n := 386) all
  obtain ⟨k1, r1⟩ := blk_L (m := 380) r0 rfl
  obtain ⟨k2, r2⟩ := blk_L (m := 379) r1 rfl
  obtain ⟨k3, r3⟩ := blk_L (m := 294) r2 rfl
  obtain ⟨k4, r4⟩ := blk_L (m := 278) r3 rfl
  obtain ⟨k5, r5⟩ := blk_L (m := 262) r4 rfl
  obtain ⟨k6, r6⟩ := blk_L (m := 246) r5 rfl
  obtain ⟨k7, r7⟩ := blk_L (m := 132) r6 rfl
  obtain ⟨k8, -⟩ := blk_L (m := 0) r7 rfl
  have k3 : blk g N 8 85 (entA cA) := k3
  obtain ⟨ao, q0⟩ := blk_O (n := 84) k3
  have q0 : blk g N 9 84 (entL [(2, entB (cA 0)), (2, entB (cA 0)), (2, entB (cA 0)), (2, entB (cA 0)), (2, entB (cA 0)), (2, entB (cA 0)), (2, entB (cA 0)), (2, entB (cA 0)), (2, entB (cA 0)), (2, entB (cA 0)), (16, entP cA), (16, entP cA), (16, entP cA), (16, entP cA)]) := q0
  obtain ⟨a0, q1⟩ := blk_L (m := 82) q0 rfl
  obtain ⟨a1, q2⟩ := blk_L (m := 80) q1 rfl
  obtain ⟨a2, q3⟩ := blk_L (m := 78) q2 rfl
  obtain ⟨a3, q4⟩ := blk_L (m := 76) q3 rfl
  obtain ⟨a4, q5⟩ := blk_L (m := 74) q4 rfl
  obtain ⟨a5, q6⟩ := blk_L (m := 72) q5 rfl
  obtain ⟨a6, q7⟩ := blk_L (m := 70) q6 rfl
  obtain ⟨a7, q8⟩ := blk_L (m := 68) q7 rfl
  obtain ⟨a8, q9⟩ := blk_L (m := 66) q8 rfl
  obtain ⟨a9, q10⟩ := blk_L (m := 64) q9 rfl
  obtain ⟨a10, q11⟩ := blk_L (m := 48) q10 rfl
  obtain ⟨a11, q12⟩ := blk_L (m := 32) q11 rfl
  obtain ⟨a12, q13⟩ := blk_L (m := 16) q12 rfl
  obtain ⟨a13, q14⟩ := blk_L (m := 0) q13 rfl
  have k4 : blk g N 93 16 (entP cA) := k4
  have k5 : blk g N 109 16 (entP cA) := k5
  have k6 : blk g N 125 16 (entP cA) := k6
  have k7 : blk g N 141 114 (entS cA) := k7
  have k8 : blk g N 255 132 (entI cA D alg) := k8
  obtain ⟨io, i0⟩ := blk_O (n := 131) k8
  have i0 : blk g N 256 131 (entL [(16, entP cA), (1, entE D), (114, entS cA)]) := i0
  obtain ⟨i1, j1⟩ := blk_L (m := 115) i0 rfl
  obtain ⟨i2, j2⟩ := blk_L (m := 114) j1 rfl
  obtain ⟨i3, -⟩ := blk_L (m := 0) j2 rfl
  have i3 : blk g N 273 114 (entS cA) := i3
  have s1 := atS_of k7
  have s2 := atS_of i3
  have P : ∀ j, j < 22 → atP cA g N (pbx j) := fun j hj => by
    rcases pbx_c j with ⟨c, e⟩ | ⟨c, d, e⟩ | ⟨c, d, e⟩ | ⟨c, e⟩ | ⟨c, e⟩
    · rcases (show j = 0 ∨ j = 1 ∨ j = 2 by omega) with rfl | rfl | rfl
      · exact atP_of k4
      · exact atP_of k5
      · exact atP_of k6
    · have := s1.2.2 (j - 3) (by omega)
      rw [show 141 + (2 + 16 * (j - 3)) = pbx j by omega] at this
      exact this
    · rcases (show j = 10 ∨ j = 11 ∨ j = 12 ∨ j = 13 by omega) with rfl | rfl | rfl | rfl
      · exact atP_of a10
      · exact atP_of a11
      · exact atP_of a12
      · exact atP_of a13
    · subst c
      exact atP_of i1
    · have := s2.2.2 (j - 15) (by omega)
      rw [show 273 + (2 + 16 * (j - 15)) = pbx j by omega] at this
      exact this
  have hb : ∀ n, n < 164 → isBig g (cA 0) (N (bgx n)) (N (bgx n + 1)) 0 := fun n hn => by
    rcases bgx_b hn with ⟨c1, c2, c3, c4, c5⟩ | ⟨j, i, hj, hi, rfl, e⟩
    · rcases (show n = 154 ∨ n = 155 ∨ n = 156 ∨ n = 157 ∨ n = 158 ∨ n = 159 ∨ n = 160 ∨ n = 161 ∨ n = 162 ∨ n = 163 by omega) with rfl | rfl | rfl | rfl | rfl | rfl | rfl | rfl | rfl | rfl
      · exact atB_of a0
      · exact atB_of a1
      · exact atB_of a2
      · exact atB_of a3
      · exact atB_of a4
      · exact atB_of a5
      · exact atB_of a6
      · exact atB_of a7
      · exact atB_of a8
      · exact atB_of a9
    · rw [e]
      exact (P j hj).2.2 i hi
  have hin : ∀ b, hIn (fun k n => N (ix6 k n)) b → ∃ i, 8 ≤ i ∧ i < 387 ∧ i ≠ 255 ∧ i ≠ 272 ∧ b = N i := fun b hb => by
    have bb : ∀ n, n < 164 → 9 ≤ bgx n ∧ bgx n + 1 < 387 ∧ (bgx n + 1 < 255 ∨ 256 ≤ bgx n) ∧ (bgx n + 1 < 272 ∨ 273 ≤ bgx n) := fun n hn => by
      rcases bgx_b hn with ⟨c1, c2, -⟩ | ⟨j, i, hj, hi, -, e⟩
      · omega
      · have := pbx_b hj
        omega
    rcases hb with ⟨n, hn, e | e⟩ | ⟨j, hj, e | e⟩ | ⟨q, hq, e | e⟩ | e
    · have := bb n hn
      exact ⟨bgx n, by omega, by omega, by omega, by omega, e⟩
    · have := bb n hn
      exact ⟨bgx n + 1, by omega, by omega, by omega, by omega, e⟩
    · have := pbx_b hj
      exact ⟨pbx j, by omega, by omega, by omega, by omega, e⟩
    · have := pbx_b hj
      exact ⟨pbx j + 1, by omega, by omega, by omega, by omega, e⟩
    · rcases (show q = 0 ∨ q = 1 by omega) with rfl | rfl
      · exact ⟨141, by decide, by decide, by decide, by decide, e⟩
      · exact ⟨273, by decide, by decide, by decide, by decide, e⟩
    · rcases (show q = 0 ∨ q = 1 by omega) with rfl | rfl
      · exact ⟨142, by decide, by decide, by decide, by decide, e⟩
      · exact ⟨274, by decide, by decide, by decide, by decide, e⟩
    · exact ⟨8, by decide, by decide, by decide, by decide, e⟩
  have nin : ∀ i, i < 387 → (i < 8 ∨ i = 255 ∨ i = 272) → ¬ hIn (fun k n => N (ix6 k n)) (N i) := fun i hi hc w => by
    obtain ⟨t, t1, t2, t3, t4, e⟩ := hin _ w
    have := inj i t hi t2 e
    omega
  have hAw : hA cA (fun k n => N (ix6 k n)) (fun _ => 0) (fun _ => 0) (fun _ => 0) g := by
    refine ⟨hb, fun j hj => ⟨(P j hj).1, ?_⟩, fun q hq => ?_, ?_, fun m n hm hn e => ?_, fun m n hm hn e => ?_, fun m n hm hn e => ?_, fun m n hm hn e => ?_⟩
    · refine (P j hj).2.1.trans ?_
      have : (fun k => if k < 7 then some (N (pbx j + (2 + 2 * k))) else none) = fun k => if k < 7 then some (N (bgx (7 * j + k))) else none := by
        funext k
        by_cases c : k < 7
        · rw [if_pos c, if_pos c, bgx_j hj c]
        · rw [if_neg c, if_neg c]
      rw [this]
      rfl
    · have row : ∀ o b, (∀ k, k < 7 → pbx (b + k) = o + (2 + 16 * k)) → (fun k => if k < 7 then some (N (o + (2 + 16 * k))) else none) = fun k => if k < 7 then some (N (pbx (b + k))) else none := fun o b hob => by
        funext k
        by_cases c : k < 7
        · rw [if_pos c, if_pos c, hob k c]
        · rw [if_neg c, if_neg c]
      rcases (show q = 0 ∨ q = 1 by omega) with rfl | rfl
      · refine ⟨s1.1, s1.2.1.trans ?_⟩
        rw [row 141 3 (fun k hk => by rcases pbx_c (3 + k) with c | c | c | c | c <;> omega)]
        rfl
      · refine ⟨s2.1, s2.2.1.trans ?_⟩
        rw [row 273 15 (fun k hk => by rcases pbx_c (15 + k) with c | c | c | c | c <;> omega)]
        rfl
    · exact ao
    · have bb : ∀ n, n < 164 → bgx n < 387 := fun n hn => by
        rcases bgx_b hn with ⟨c1, c2, -⟩ | ⟨j, i, hj, hi, -, e⟩
        · omega
        · have := pbx_b hj
          omega
      exact (bgx_inj hm hn (d := 0) (e := 0) (by decide) (by decide) (inj _ _ (bb m hm) (bb n hn) e)).1
    · have bb : ∀ n, n < 164 → bgx n + 1 < 387 := fun n hn => by
        rcases bgx_b hn with ⟨c1, c2, -⟩ | ⟨j, i, hj, hi, -, e⟩
        · omega
        · have := pbx_b hj
          omega
      exact (bgx_inj hm hn (d := 1) (e := 1) (by decide) (by decide) (inj _ _ (bb m hm) (bb n hn) e)).1
    · have b1 := pbx_b hm
      have b2 := pbx_b hn
      have := inj _ _ (show pbx m < 387 by omega) (show pbx n < 387 by omega) e
      by_cases c : m = n
      · exact c
      · have := pbx_i hm hn c
        omega
    · have b : ∀ q, q < 2 → (if q = 0 then 141 else 273) < 387 := fun q _ => by split <;> decide
      have := inj _ _ (b m hm) (b n hn) e
      split at this <;> split at this <;> omega
  have z0 : stI (fun _ => (0 : Int)) 7 = 0 := by decide
  refine ⟨fun b => b = N 272, fun _ _ => 0, fun _ => 0, fun _ => 0, ⟨fun _ => 0, hAw, fun j hj i hi => rfl⟩, ⟨?_, D.2 1000 0, 0, nI 0, fun _ => none, fun _ => 0, ⟨?_, Or.inl ⟨rfl, rfl⟩, Nat.le_refl 0, by decide⟩, fun _ => rfl, fun i hi => absurd hi (Nat.not_lt_zero i), fun i j hi => absurd hi (Nat.not_lt_zero i), rfl, fun c => absurd rfl c, fun i hi => absurd hi (Nat.not_lt_zero i), fun b hb => by rw [hb]; exact nin 272 (by decide) (Or.inr (Or.inr rfl))⟩, ⟨?_, ?_, fun i hi => ?_, ⟨fun _ => 0, ?_⟩, fun i j hi hj e => ?_, fun i k _ _ => Nat.zero_le 9999, ?_, ?_, ?_, fun i hi => ?_⟩, fun c => absurd rfl c, fun i k _ _ => rfl, fun j _ => z0.symm⟩
  · rw [io, isoF, ← halg]
    rfl
  · exact blk_1 (m := 0) i2
  · rw [← n0]
    exact o0
  · have := k1 0 (by decide)
    unfold ent2 at this
    rw [if_pos rfl] at this
    refine this.trans ?_
    have : (fun j => if j < 5 then some (N (0 + 1 + (1 + j))) else none) = fun i => if i < 5 then some (N (2 + i)) else none := by
      funext j
      rw [show 0 + 1 + (1 + j) = 2 + j by omega]
    rw [this]
  · have := k1 (1 + i) (by omega)
    unfold ent2 at this
    rw [if_neg (by omega), show 0 + 1 + (1 + i) = 2 + i by omega] at this
    refine this.trans ?_
    have : (fun _ => (0 : Int32)) = fun k => if k < 7 then iI 0 else 0 := by
      funext k
      split <;> rfl
    unfold slotA
    rw [← this]
  · exact blk_1 (m := 0) k2
  · have := inj (2 + i) (2 + j) (by omega) (by omega) e
    omega
  · refine ⟨by rw [← n0]; exact nin 0 (by decide) (Or.inl (by decide)), fun w => ?_⟩
    rw [← n0] at w
    have := inj 0 272 (by decide) (by decide) w
    omega
  · refine ⟨nin 1 (by decide) (Or.inl (by decide)), fun w => ?_⟩
    have := inj 1 272 (by decide) (by decide) w
    omega
  · refine ⟨nin 7 (by decide) (Or.inl (by decide)), fun w => ?_⟩
    have := inj 7 272 (by decide) (by decide) w
    omega
  · refine ⟨nin (2 + i) (by omega) (Or.inl (by omega)), fun w => ?_⟩
    have := inj (2 + i) 272 (by omega) (by decide) w
    omega
end W6
