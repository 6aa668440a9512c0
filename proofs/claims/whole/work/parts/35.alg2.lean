/-! SturmRoots$Algebra: greatest common divisors of numbers -/
/-- Euclid's algorithm, k steps at most, until the divisor is as P says -/
def eu (P : Nat → Bool) : Nat → Nat → Nat → Nat × Nat
  | 0, a, b => (a, b)
  | k + 1, a, b => if P b then (a, b) else eu P k b (a % b)
theorem eu_gcd (P : Nat → Bool) : ∀ k a b, Nat.gcd (eu P k a b).1 (eu P k a b).2 = Nat.gcd a b
  | 0, _, _ => rfl
  | k + 1, a, b => by
    unfold eu
    split
    · rfl
    · rw [eu_gcd P k b (a % b), Nat.gcd_comm b, ← Nat.gcd_rec, Nat.gcd_comm]
theorem eu_lt (P : Nat → Bool) {M : Nat} : ∀ k a b, a < M → b < M → (eu P k a b).1 < M ∧ (eu P k a b).2 < M
  | 0, _, _, h1, h2 => ⟨h1, h2⟩
  | k + 1, a, b, h1, h2 => by
    unfold eu
    split
    · exact ⟨h1, h2⟩
    · exact eu_lt P k b (a % b) h2 (Nat.lt_of_le_of_lt (Nat.mod_le a b) h1)
theorem eu_ends (P : Nat → Bool) (h0 : P 0 = true) : ∀ k a b, b ≤ a → a * b < 2 ^ k → P (eu P k a b).2 = true
  | 0, a, b, h1, h2 => by
    unfold eu
    have : b = 0 := by
      rcases Nat.eq_zero_or_pos b with q | q
      · exact q
      · exact absurd (Nat.le_trans (Nat.mul_pos (Nat.lt_of_lt_of_le q h1) q) (Nat.le_refl _)) (by omega)
    rw [this]
    exact h0
  | k + 1, a, b, h1, h2 => by
    unfold eu
    split
    · next h => exact h
    · next h =>
      have hb : 0 < b := by
        rcases Nat.eq_zero_or_pos b with q | q
        · rw [q] at h; exact absurd h0 h
        · exact q
      have hm := Nat.mod_lt a hb
      refine eu_ends P h0 k b (a % b) (Nat.le_of_lt hm) ?_
      have h3 : 2 * (a % b) < a ∨ a % b = 0 := by
        have e := Nat.div_add_mod a b
        have : 1 ≤ a / b := Nat.div_pos h1 hb
        have : b * 1 ≤ b * (a / b) := Nat.mul_le_mul_left b this
        omega
      rcases h3 with h3 | h3
      · have : b * (2 * (a % b)) < b * a := Nat.mul_lt_mul_of_pos_left h3 hb
        rw [Nat.mul_comm b a, Nat.mul_left_comm] at this
        rw [Nat.pow_succ] at h2
        omega
      · rw [h3, Nat.mul_zero]; exact Nat.two_pow_pos k
theorem eu_all (P : Nat → Bool) (h0 : P 0 = true) {k n a b : Nat} (ha : a < 2 ^ n) (hb : b < 2 ^ n) (hk : 2 * n + 1 ≤ k) : P (eu P k a b).2 = true := by
  obtain ⟨m, rfl⟩ : ∃ m, k = m + 1 := ⟨k - 1, by omega⟩
  have hp : ∀ x y, x < 2 ^ n → y < 2 ^ n → x * y < 2 ^ m := fun x y hx hy => by
    have h1 : 2 ^ (2 * n) ≤ 2 ^ m := Nat.pow_le_pow_right (by decide) (by omega)
    have h2 : x * y < 2 ^ n * 2 ^ n := Nat.mul_lt_mul'' hx hy
    rw [← Nat.pow_add, ← Nat.two_mul] at h2
    omega
  rcases Nat.lt_or_ge a b with q | q
  · unfold eu
    split
    · next h => exact h
    · rw [Nat.mod_eq_of_lt q]
      exact eu_ends P h0 m b a (Nat.le_of_lt q) (hp b a hb ha)
  · exact eu_ends P h0 (m + 1) a b q (Nat.lt_of_lt_of_le (hp a b ha hb) (Nat.pow_le_pow_right (by decide) (by omega)))
def eu0 : Nat → Bool := fun b => b == 0
def eu2 : Nat → Bool := fun b => blen b ≤ 2
theorem eu0_z {b : Nat} : eu0 b = true ↔ b = 0 := by unfold eu0; exact beq_iff_eq
theorem eu2_z {b : Nat} : eu2 b = true ↔ blen b ≤ 2 := by unfold eu2; exact decide_eq_true_iff
theorem k_commonFactor (l : Launch) (D : va_G) (cA : Nat → ClassId) {h : mH} {a b : Nat} (ha : a < BB * BB) (hb : b < BB * BB) :
    mCl l yX0_commonFactor cX0_commonFactor 11 (rmd 1) D (mT cA) [.long (lN a), .long (lN b)] h (fun x h1 => h1 = h ∧ x = lN (Nat.gcd a b)) := by
  refine mEnter_l (by decide) (Nat.le_of_ble_eq_true rfl) rfl (fun z X Vz => ?_)
  have hBB : BB * BB = 2 ^ 60 := by decide
  have hBL : BB * BB < 9223372036854775808 := by decide
  have g0 : Nat.gcd a b = (eu eu0 10000 a b).1 := by
    have := eu_gcd eu0 10000 a b
    rw [eu0_z.mp (eu_all (k := 10000) (n := 60) eu0 rfl (hBB ▸ ha) (hBB ▸ hb) (by decide)), Nat.gcd_zero_right] at this
    exact this.symm
  rw [g0] at Vz
  obtain ⟨E, hE⟩ : ∃ E, E = eu eu0 10000 a b := ⟨_, rfl⟩
  rw [← hE] at Vz
  refine zi_lload_n X dX0_commonFactor_0 rfl rfl ?_
  refine zi_lstore X dX0_commonFactor_1 (by decide) ?_
  refine zi_lload_n X dX0_commonFactor_3 rfl rfl ?_
  refine zi_lstore X dX0_commonFactor_4 (by decide) ?_
  refine zi_iconst (v := (nI 0)) X dX0_commonFactor_6 (by decide) ?_
  refine zi_istore X dX0_commonFactor_7 (by decide) ?_
  suffices key : ∀ k i a1 b1 (o : Option Value), i + k = 10000 → a1 < BB * BB → b1 < BB * BB → E = eu eu0 k a1 b1 → zM z 0 0 9 [some (.long (lN a)), none, some (.long (lN b)), none, some (.long (lN a1)), none, some (.long (lN b1)), none, some (.int (nI i)), o, none] [] h from
    zi_sub (by repeat (first | exact trivial | refine And.intro rfl ?_)) (key 10000 0 a b none rfl ha hb hE)
  intro k
  induction k with
  | zero =>
    intro i a1 b1 o hi ha1 hb1 he
    have : i = 10000 := by omega
    subst this
    rw [he] at Vz
    refine zi_iload X dX0_commonFactor_9 rfl ?_
    refine zi_sipush (v := (nI 10000)) X dX0_commonFactor_11 (by decide) ?_
    refine zi_icmp_ge (tgt := 45) X dX0_commonFactor_14 (by decide) (fun c_14 => ?_) (fun c_14 => (by first | exact absurd (Int32.le_refl _) c_14 | exact absurd c_14 (Int32.le_refl _)))
    refine zi_lload X dX0_commonFactor_45 rfl ?_
    refine zi_lreturn X Vz dX0_commonFactor_47 ?_
    exact ⟨rfl, rfl⟩
  | succ k ih =>
    intro i a1 b1 o hi ha1 hb1 he
    have hz : lN b1 = lN 0 ↔ b1 = 0 := l_eq0 (lN_int (Nat.lt_trans hb1 hBL))
    rw [eu] at he
    refine zi_iload X dX0_commonFactor_9 rfl ?_
    refine zi_sipush (v := (nI 10000)) X dX0_commonFactor_11 (by decide) ?_
    refine zi_icmp_ge (tgt := 45) X dX0_commonFactor_14 (by decide) (fun c_14 => (by first | exact absurd (nI_ge (show i < 10000 by omega) (by decide)) c_14 | exact absurd c_14 (nI_ge (show i < 10000 by omega) (by decide)))) (fun c_14 => ?_)
    refine zi_lload X dX0_commonFactor_17 rfl ?_
    refine zi_lconst (v := lN 0) X dX0_commonFactor_19 (by decide) ?_
    refine zi_lcmp X dX0_commonFactor_20 ?_
    refine zi_if_eq (tgt := 45) X dX0_commonFactor_21 (by decide) (fun c_21 => ?_) (fun c_21 => ?_)
    · rw [if_pos (eu0_z.mpr (hz.mp ((lg_cmp_eq _ _).mp c_21)))] at he
      rw [he] at Vz
      refine zi_lload X dX0_commonFactor_45 rfl ?_
      refine zi_lreturn X Vz dX0_commonFactor_47 ?_
      exact ⟨rfl, rfl⟩
    · have hb0 : ¬ b1 = 0 := fun q => c_21 ((lg_cmp_eq _ _).mpr (hz.mpr q))
      rw [if_neg (fun q => hb0 (eu0_z.mp q))] at he
      refine zi_lload X dX0_commonFactor_24 rfl ?_
      refine zi_lload X dX0_commonFactor_26 rfl ?_
      refine zi_lrem X dX0_commonFactor_28 (fun q => hb0 (hz.mp q)) ?_
      refine zi_lstore X dX0_commonFactor_29 (by decide) ?_
      refine zi_lload X dX0_commonFactor_31 rfl ?_
      refine zi_lstore X dX0_commonFactor_33 (by decide) ?_
      refine zi_lload X dX0_commonFactor_35 rfl ?_
      refine zi_lstore X dX0_commonFactor_37 (by decide) ?_
      refine zi_iinc (v := nI (i + 1)) X dX0_commonFactor_39 rfl (nI_inc _) (by decide) ?_
      refine zi_goto (tgt := 9) X dX0_commonFactor_42 (by decide) ?_
      rw [pk_lRem (Nat.lt_trans ha1 hBL) (Nat.pos_of_ne_zero hb0) (Nat.lt_trans hb1 hBL)]
      exact zi_sub (by repeat (first | exact trivial | refine And.intro rfl ?_)) (ih (i + 1) b1 (a1 % b1) (some (.long (lN (a1 % b1)))) (by omega) hb1 (Nat.lt_of_le_of_lt (Nat.mod_le a1 b1) ha1) he)
/-! a contract's end may be weakened -/
theorem mSub_v {l : Launch} {y : MethodName} {bytes : ByteArray} {maxL : Nat} {rm : Room} {D : va_G} {tys : List (ClassId × FieldType)} {av : List Value} {hs : mH} {post post' : mH → Prop} (k : mCv l y bytes maxL rm D tys av hs post) (i : ∀ h1, post h1 → post' h1) : mCv l y bytes maxL rm D tys av hs post' :=
  fun sz => MetFree.mono (k sz) (fun _ _ h => h) (fun _ _ _ _ _ h => h) (fun a s o s' _ q => by
    obtain ⟨⟨⟨u, q1, q2, q3⟩, q4⟩, q5⟩ := q
    exact ⟨⟨⟨u, q1, i _ q2, q3⟩, q4⟩, q5⟩)
theorem mSub_i {l : Launch} {y : MethodName} {bytes : ByteArray} {maxL : Nat} {ty : FieldType} {rm : Room} {D : va_G} {tys : List (ClassId × FieldType)} {av : List Value} {hs : mH} {post post' : Int32 → mH → Prop} (k : mCi l y bytes maxL ty rm D tys av hs post) (i : ∀ x h1, post x h1 → post' x h1) : mCi l y bytes maxL ty rm D tys av hs post' :=
  fun sz => MetFree.mono (k sz) (fun _ _ h => h) (fun _ _ _ _ _ h => h) (fun a s o s' _ q => by
    obtain ⟨⟨⟨r, u, q1, q2, q3⟩, q4⟩, q5⟩ := q
    exact ⟨⟨⟨r, u, q1, i _ _ q2, q3⟩, q4⟩, q5⟩)
/-- many bigs change -/
theorem hA_bigs {cA : Nat → ClassId} {S : Nat → Nat → Nat} {B B' : Nat → Int} {G Ln : Nat → Nat} {h h1 : mH} (hh : hA cA S B G Ln h) (hs : ∀ a, (∀ n, n < 164 → a ≠ S 0 n ∧ a ≠ S 1 n) → h1 a = h a) (hb : ∀ n, n < 164 → isBig h1 (cA 0) (S 0 n) (S 1 n) (B' n)) : hA cA S B' G Ln h1 ∧ hfr S h1 h := by
  obtain ⟨a1, a2, a3, a4, a5⟩ := hh
  have o : ∀ a e, h a = some e → (∀ r v, e ≠ bigO r v) → (∀ c v, e ≠ bigA c v) → h1 a = some e := fun a e q1 q2 q3 => by
    rw [hs a (fun n hn => ⟨fun q => ?_, fun q => ?_⟩)]
    · exact q1
    · rw [q, (a1 n hn).1] at q1
      exact q2 _ _ (Option.some.inj q1).symm
    · rw [q, (a1 n hn).2.1] at q1
      exact q3 _ _ (Option.some.inj q1).symm
  refine ⟨⟨hb, fun j hj => ⟨?_, ?_⟩, fun q hq => ⟨?_, ?_⟩, ?_, a5⟩, fun a ha => hs a ha.1⟩
  · exact o _ _ (a2 j hj).1 (fun r v q => by cases q) (fun c v q => by cases q)
  · exact o _ _ (a2 j hj).2 (fun r v q => by cases q) (fun c v q => by simp [pA, bigA, bA] at q)
  · exact o _ _ (a3 q hq).1 (fun r v q => by cases q) (fun c v q => by cases q)
  · exact o _ _ (a3 q hq).2 (fun r v q => by cases q) (fun c v q => by simp [sA, bigA, bA] at q)
  · exact o _ _ a4 (fun r v q => by cases q) (fun c v q => by cases q)
section ALG2
variable {cA : Nat → ClassId} {S : Nat → Nat → Nat} {B : Nat → Int} {G Ln : Nat → Nat} {h : mH}
theorem hA_i0 (hh : hA cA S B G Ln h) {m n : Nat} (hm : m < 164) (hn : n < 164) (e : m ≠ n) : S 0 m ≠ S 0 n := fun q => e (hh.2.2.2.2.1 m n hm hn q)
theorem hA_i1 (hh : hA cA S B G Ln h) {m n : Nat} (hm : m < 164) (hn : n < 164) (e : m ≠ n) : S 1 m ≠ S 1 n := fun q => e (hh.2.2.2.2.2.1 m n hm hn q)
/-- reduceBy among the algebra's bigs, with its two rows -/
theorem a_reduceBy (l : Launch) (D : va_G) (hh : hA cA S B G Ln h) {p q : Nat} (hp : p < 156 ∨ 157 < p ∧ p < 164) (hq : q < 156 ∨ 157 < q ∧ q < 164) (hpq : p ≠ q) (hv : (B p).natAbs < BB ^ 18) :
    mCv l yX1_reduceBy cX1_reduceBy 15 (rmd 2) D (mT cA) [.ref (S 0 p), .ref (S 0 q), .ref (S 0 156), .ref (S 0 157)] h (fun h1 => hfr S h1 h ∧ ∃ B', hA cA S B' G Ln h1 ∧ (∀ n, n ≠ p → n ≠ 156 → n ≠ 157 → B' n = B n) ∧ B' p = (((B p).natAbs % (B q).natAbs : Nat) : Int) ∧ B' 157 = (((B p).natAbs / (B q).natAbs : Nat) : Int)) := by
  have hp1 : p < 164 := by omega
  have hq1 : q < 164 := by omega
  refine mSub_v (k_reduceBy l D cA (hh.1 p hp1) (hh.1 q hq1) (hh.1 156 (by decide)) (hh.1 157 (by decide)) (hA_i0 hh hq1 hp1 hpq.symm) (hA_i0 hh (by decide) hp1 (by omega)) (hA_i0 hh (by decide) hp1 (by omega)) (hA_i0 hh (by decide) hq1 (by omega)) (hA_i0 hh (by decide) hq1 (by omega)) (hA_i0 hh (by decide) (by decide) (by decide)) (hA_i1 hh hq1 hp1 hpq.symm) (hA_i1 hh (by decide) hp1 (by omega)) (hA_i1 hh (by decide) hp1 (by omega)) (hA_i1 hh (by decide) hq1 (by omega)) (hA_i1 hh (by decide) hq1 (by omega)) (hA_i1 hh (by decide) (by decide) (by decide)) hv) (fun h1 e => ?_)
  obtain ⟨e1, e2, e3, s', e4⟩ := e
  have main := hA_bigs (B' := updI (updI (updI B p (((B p).natAbs % (B q).natAbs : Nat) : Int)) 156 s') 157 (((B p).natAbs / (B q).natAbs : Nat) : Int)) (h1 := h1) hh (fun a ha => e1 a (by simp [(ha p hp1).1, (ha p hp1).2, (ha 156 (by decide)).1, (ha 156 (by decide)).2, (ha 157 (by decide)).1, (ha 157 (by decide)).2])) (fun n hn => ?_)
  · refine ⟨main.2, _, main.1, fun n n1 n2 n3 => ?_, ?_, ?_⟩
    · rw [updI_n n3, updI_n n2, updI_n n1]
    · rw [updI_n (by omega), updI_n (by omega), updI_s]
    · rw [updI_s]
  · by_cases q1 : n = 157
    · rw [q1, updI_s]; exact e3
    · rw [updI_n q1]
      by_cases q2 : n = 156
      · rw [q2, updI_s]; exact e4
      · rw [updI_n q2]
        by_cases q3 : n = p
        · rw [q3, updI_s]; exact e2
        · rw [updI_n q3]
          have b := hh.1 n hn
          refine ⟨?_, ?_, b.2.2⟩
          · rw [e1 _ ?_]
            · exact b.1
            · simp [hA_i0 hh hn hp1 q3, hA_i0 hh hn (show 156 < 164 by decide) q2, hA_i0 hh hn (show 157 < 164 by decide) q1, b.ne (hh.1 p hp1), b.ne (hh.1 156 (by decide)), b.ne (hh.1 157 (by decide))]
          · rw [e1 _ ?_]
            · exact b.2.1
            · simp [hA_i1 hh hn hp1 q3, hA_i1 hh hn (show 156 < 164 by decide) q2, hA_i1 hh hn (show 157 < 164 by decide) q1, ((hh.1 p hp1).ne b).symm, ((hh.1 156 (by decide)).ne b).symm, ((hh.1 157 (by decide)).ne b).symm]
end ALG2
