/-! THE ALGEBRA'S CELLS: 164 bigs (7 a polynomial, then Algebra's ten), 22 polynomials, 2 sequences, the Algebra; S k n: the address of the n-th of the kind k (0 Big, 1 its limbs, 2 Polynomial, 3 its row, 4 Sequence, 5 its row, 6 Algebra) -/
def updI (B : Nat → Int) (n : Nat) (v : Int) : Nat → Int := fun k => if k = n then v else B k
theorem updI_s {B : Nat → Int} {n : Nat} {v : Int} : updI B n v n = v := if_pos rfl
theorem updI_n {B : Nat → Int} {n k : Nat} {v : Int} (h : k ≠ n) : updI B n v k = B k := if_neg h
def pO (r g : Nat) : va_E := .inr (8, [.ref r, .int (nI g - nI 1)])
def pA (c : ClassId) (S : Nat → Nat → Nat) (j : Nat) : va_E := .inl (c, 7, .inr (.inr (.inr (.inr (fun i => if i < 7 then some (S 0 (7 * j + i)) else none)))))
def sO (r n : Nat) : va_E := .inr (9, [.ref r, .int (nI n)])
/-- the first polynomial of a sequence -/
def sb (q : Nat) : Nat := if q = 0 then 3 else 15
def sA (c : ClassId) (S : Nat → Nat → Nat) (q : Nat) : va_E := .inl (c, 7, .inr (.inr (.inr (.inr (fun i => if i < 7 then some (S 2 (sb q + i)) else none)))))
def aO (S : Nat → Nat → Nat) : va_E := .inr (4, [.ref (S 0 154), .ref (S 0 155), .ref (S 0 156), .ref (S 0 157), .ref (S 0 158), .ref (S 0 159), .ref (S 0 160), .ref (S 0 161), .ref (S 0 162), .ref (S 0 163), .ref (S 2 10), .ref (S 2 11), .ref (S 2 12), .ref (S 2 13)])
def hInj (S : Nat → Nat → Nat) : Prop := (∀ m n, m < 164 → n < 164 → S 0 m = S 0 n → m = n) ∧ (∀ m n, m < 164 → n < 164 → S 1 m = S 1 n → m = n) ∧ (∀ m n, m < 22 → n < 22 → S 2 m = S 2 n → m = n) ∧ (∀ m n, m < 2 → n < 2 → S 4 m = S 4 n → m = n)
def hA (cA : Nat → ClassId) (S : Nat → Nat → Nat) (B : Nat → Int) (G Ln : Nat → Nat) (h : mH) : Prop :=
  (∀ n, n < 164 → isBig h (cA 0) (S 0 n) (S 1 n) (B n)) ∧ (∀ j, j < 22 → h (S 2 j) = some (pO (S 3 j) (G j)) ∧ h (S 3 j) = some (pA (cA 2) S j)) ∧ (∀ q, q < 2 → h (S 4 q) = some (sO (S 5 q) (Ln q)) ∧ h (S 5 q) = some (sA (cA 3) S q)) ∧ h (S 6 0) = some (aO S) ∧ hInj S
/-- what isn't the algebra's stays -/
def hOut (S : Nat → Nat → Nat) (a : Nat) : Prop := (∀ n, n < 164 → a ≠ S 0 n ∧ a ≠ S 1 n) ∧ (∀ j, j < 22 → a ≠ S 2 j) ∧ ∀ q, q < 2 → a ≠ S 4 q
def hfr (S : Nat → Nat → Nat) (h1 h : mH) : Prop := ∀ a, hOut S a → h1 a = h a
theorem hfr_rf (S : Nat → Nat → Nat) (h : mH) : hfr S h h := fun _ _ => rfl
theorem hfr_tr {S : Nat → Nat → Nat} {h1 h2 h3 : mH} (a : hfr S h1 h2) (b : hfr S h2 h3) : hfr S h1 h3 := fun x hx => (a x hx).trans (b x hx)
theorem hA_lt {cA : Nat → ClassId} {S : Nat → Nat → Nat} {B : Nat → Int} {G Ln : Nat → Nat} {h : mH} (hh : hA cA S B G Ln h) {n : Nat} (hn : n < 164) : (B n).natAbs < BB ^ 20 := (hh.1 n hn).2.2
/-- a big becomes v -/
theorem hA_big {cA : Nat → ClassId} {S : Nat → Nat → Nat} {B : Nat → Int} {G Ln : Nat → Nat} {h h1 : mH} (hh : hA cA S B G Ln h) {n : Nat} (hn : n < 164) {v : Int} (hs : hsame [S 0 n, S 1 n] h1 h) (hb : isBig h1 (cA 0) (S 0 n) (S 1 n) v) : hA cA S (updI B n v) G Ln h1 := by
  obtain ⟨a1, a2, a3, a4, a5⟩ := hh
  have h0 := a1 n hn
  have out : ∀ a, a ≠ S 0 n → a ≠ S 1 n → h1 a = h a := fun a q1 q2 => hs a (by simp [q1, q2])
  have o1 : ∀ a e, h a = some e → (∀ r v, e ≠ bigO r v) → a ≠ S 0 n := fun a e q1 q2 q3 => by
    rw [q3, h0.1] at q1
    exact q2 _ _ (Option.some.inj q1).symm
  have o2 : ∀ a e, h a = some e → (∀ c v, e ≠ bigA c v) → a ≠ S 1 n := fun a e q1 q2 q3 => by
    rw [q3, h0.2.1] at q1
    exact q2 _ _ (Option.some.inj q1).symm
  refine ⟨fun m hm => ?_, fun j hj => ⟨?_, ?_⟩, fun q hq => ⟨?_, ?_⟩, ?_, a5⟩
  · by_cases e : m = n
    · subst e
      rw [updI_s]
      exact hb
    · rw [updI_n e]
      have n1 : S 0 m ≠ S 0 n := fun q => e (a5.1 m n hm hn q)
      have n2 : S 1 m ≠ S 1 n := fun q => e (a5.2.1 m n hm hn q)
      have hm1 := a1 m hm
      exact ⟨by rw [out _ n1 (hm1.ne h0)]; exact hm1.1, by rw [out _ (h0.ne hm1).symm n2]; exact hm1.2.1, hm1.2.2⟩
  · rw [out _ (o1 _ _ (a2 j hj).1 (fun r v q => by cases q)) (o2 _ _ (a2 j hj).1 (fun c v q => by cases q))]
    exact (a2 j hj).1
  · rw [out _ (o1 _ _ (a2 j hj).2 (fun r v q => by cases q)) (o2 _ _ (a2 j hj).2 (fun c v q => by simp [pA, bigA, bA] at q))]
    exact (a2 j hj).2
  · rw [out _ (o1 _ _ (a3 q hq).1 (fun r v q => by cases q)) (o2 _ _ (a3 q hq).1 (fun c v q => by cases q))]
    exact (a3 q hq).1
  · rw [out _ (o1 _ _ (a3 q hq).2 (fun r v q => by cases q)) (o2 _ _ (a3 q hq).2 (fun c v q => by simp [sA, bigA, bA] at q))]
    exact (a3 q hq).2
  · rw [out _ (o1 _ _ a4 (fun r v q => by cases q)) (o2 _ _ a4 (fun c v q => by cases q))]
    exact a4
theorem hsame_mbig {h : mH} {c : ClassId} {b r : Nat} {v : Int} : hsame [b, r] (mbig h c b r v) h := by
  unfold mbig
  exact hsame_up (hsame_up (hsame_rf _ _) (by simp)) (by simp)
theorem hA_mbig {cA : Nat → ClassId} {S : Nat → Nat → Nat} {B : Nat → Int} {G Ln : Nat → Nat} {h : mH} (hh : hA cA S B G Ln h) {n : Nat} (hn : n < 164) {v : Int} (hv : v.natAbs < BB ^ 20) : hA cA S (updI B n v) G Ln (mbig h (cA 0) (S 0 n) (S 1 n) v) :=
  hA_big hh hn hsame_mbig (mbig_is ((hh.1 n hn).ne (hh.1 n hn)).symm hv)
theorem hfr_big {S : Nat → Nat → Nat} {h h1 : mH} {n : Nat} (hn : n < 164) (hs : hsame [S 0 n, S 1 n] h1 h) : hfr S h1 h := fun a ha => hs a (by simp [(ha.1 n hn).1, (ha.1 n hn).2])
theorem hfr_mbig {S : Nat → Nat → Nat} {h : mH} {c : ClassId} {n : Nat} (hn : n < 164) {v : Int} : hfr S (mbig h c (S 0 n) (S 1 n) v) h := hfr_big hn hsame_mbig
/-- a degree is set: g - 1 -/
theorem hA_deg {cA : Nat → ClassId} {S : Nat → Nat → Nat} {B : Nat → Int} {G Ln : Nat → Nat} {h : mH} (hh : hA cA S B G Ln h) {j : Nat} (hj : j < 22) (g : Nat) : hA cA S B (updN G j g) Ln (mup h (S 2 j) (pO (S 3 j) g)) := by
  obtain ⟨a1, a2, a3, a4, a5⟩ := hh
  have h0 := (a2 j hj).1
  have o1 : ∀ a e, h a = some e → (∀ r g, e ≠ pO r g) → mup h (S 2 j) (pO (S 3 j) g) a = some e := fun a e q1 q2 => by
    rw [mup_ne (fun q3 => ?_)]
    · exact q1
    · rw [q3, h0] at q1
      exact q2 _ _ (Option.some.inj q1).symm
  refine ⟨fun m hm => ?_, fun i hi => ⟨?_, ?_⟩, fun q hq => ⟨?_, ?_⟩, ?_, a5⟩
  · exact ⟨o1 _ _ (a1 m hm).1 (fun r g q => by cases q), o1 _ _ (a1 m hm).2.1 (fun r g q => by cases q), (a1 m hm).2.2⟩
  · by_cases e : i = j
    · subst e
      rw [updN_s]
      exact mup_self
    · rw [updN_n e, mup_ne (fun q => e (a5.2.2.1 i j hi hj q))]
      exact (a2 i hi).1
  · exact o1 _ _ (a2 i hi).2 (fun r g q => by cases q)
  · exact o1 _ _ (a3 q hq).1 (fun r g q => by cases q)
  · exact o1 _ _ (a3 q hq).2 (fun r g q => by cases q)
  · exact o1 _ _ a4 (fun r g q => by cases q)
theorem hfr_deg {S : Nat → Nat → Nat} {h : mH} {j : Nat} (hj : j < 22) {e : va_E} : hfr S (mup h (S 2 j) e) h := fun a ha => mup_ne (ha.2.1 j hj)
/-- a sequence's length is set -/
theorem hA_len {cA : Nat → ClassId} {S : Nat → Nat → Nat} {B : Nat → Int} {G Ln : Nat → Nat} {h : mH} (hh : hA cA S B G Ln h) {k : Nat} (hk : k < 2) (n : Nat) : hA cA S B G (updN Ln k n) (mup h (S 4 k) (sO (S 5 k) n)) := by
  obtain ⟨a1, a2, a3, a4, a5⟩ := hh
  have h0 := (a3 k hk).1
  have o1 : ∀ a e, h a = some e → (∀ r g, e ≠ sO r g) → mup h (S 4 k) (sO (S 5 k) n) a = some e := fun a e q1 q2 => by
    rw [mup_ne (fun q3 => ?_)]
    · exact q1
    · rw [q3, h0] at q1
      exact q2 _ _ (Option.some.inj q1).symm
  refine ⟨fun m hm => ?_, fun i hi => ⟨?_, ?_⟩, fun q hq => ⟨?_, ?_⟩, ?_, a5⟩
  · exact ⟨o1 _ _ (a1 m hm).1 (fun r g q => by cases q), o1 _ _ (a1 m hm).2.1 (fun r g q => by cases q), (a1 m hm).2.2⟩
  · exact o1 _ _ (a2 i hi).1 (fun r g q => by cases q)
  · exact o1 _ _ (a2 i hi).2 (fun r g q => by cases q)
  · by_cases e : q = k
    · subst e
      rw [updN_s]
      exact mup_self
    · rw [updN_n e, mup_ne (fun z => e (a5.2.2.2 q k hq hk z))]
      exact (a3 q hq).1
  · exact o1 _ _ (a3 q hq).2 (fun r g q => by cases q)
  · exact o1 _ _ a4 (fun r g q => by cases q)
theorem hfr_len {S : Nat → Nat → Nat} {h : mH} {k : Nat} (hk : k < 2) {e : va_E} : hfr S (mup h (S 4 k) e) h := fun a ha => mup_ne (ha.2.2 k hk)
theorem hA_cong {cA : Nat → ClassId} {S : Nat → Nat → Nat} {B B' : Nat → Int} {G G' Ln : Nat → Nat} {h : mH} (hh : hA cA S B G Ln h) (hB : ∀ n, n < 164 → B n = B' n) (hG : ∀ j, j < 22 → G j = G' j) : hA cA S B' G' Ln h := by
  obtain ⟨a1, a2, a3, a4, a5⟩ := hh
  exact ⟨fun n hn => by rw [← hB n hn]; exact a1 n hn, fun j hj => by rw [← hG j hj]; exact a2 j hj, a3, a4, a5⟩
/-! polynomials among the bigs -/
def setP (B : Nat → Int) (j : Nat) (p : Nat → Int) : Nat → Int := fun n => if 7 * j ≤ n ∧ n < 7 * j + 7 then p (n - 7 * j) else B n
def cof (B : Nat → Int) (j : Nat) : Nat → Int := fun i => B (7 * j + i)
theorem setP_self (B : Nat → Int) (j : Nat) : setP B j (cof B j) = B := by
  funext n
  unfold setP cof
  by_cases h : 7 * j ≤ n ∧ n < 7 * j + 7
  · rw [if_pos h]; congr 1; omega
  · rw [if_neg h]
theorem setP_upd {B : Nat → Int} {j k : Nat} {p : Nat → Int} {v : Int} (hk : k < 7) : updI (setP B j p) (7 * j + k) v = setP B j (updI p k v) := by
  funext n
  unfold setP updI
  dsimp only
  by_cases h : 7 * j ≤ n ∧ n < 7 * j + 7
  · rw [if_pos h, if_pos h]
    by_cases e : n = 7 * j + k
    · rw [if_pos e, if_pos (by omega)]
    · rw [if_neg e, if_neg (by omega)]
  · rw [if_neg h, if_neg h, if_neg (by omega)]
theorem setP_at {B : Nat → Int} {j i : Nat} {p : Nat → Int} (hi : i < 7) : setP B j p (7 * j + i) = p i := by
  unfold setP
  rw [if_pos ⟨by omega, by omega⟩]
  congr 1
  omega
theorem setP_out {B : Nat → Int} {j k i : Nat} {p : Nat → Int} (hk : k ≠ j) (hi : i < 7) : setP B j p (7 * k + i) = B (7 * k + i) := by
  unfold setP
  rw [if_neg (by omega)]
theorem setP_far {B : Nat → Int} {j n : Nat} {p : Nat → Int} (hj : j < 22) (hn : 154 ≤ n) : setP B j p n = B n := by
  unfold setP
  rw [if_neg (by omega)]
theorem setP_setP {B : Nat → Int} {j : Nat} {p q : Nat → Int} : setP (setP B j p) j q = setP B j q := by
  funext n
  unfold setP
  by_cases h : 7 * j ≤ n ∧ n < 7 * j + 7
  · rw [if_pos h, if_pos h]
  · rw [if_neg h, if_neg h, if_neg h]
theorem setP_cong {B : Nat → Int} {j : Nat} {p q : Nat → Int} (h : ∀ i, i < 7 → p i = q i) : setP B j p = setP B j q := by
  funext n
  unfold setP
  by_cases e : 7 * j ≤ n ∧ n < 7 * j + 7
  · rw [if_pos e, if_pos e, h _ (by omega)]
  · rw [if_neg e, if_neg e]
theorem cof_set {B : Nat → Int} {j i : Nat} {p : Nat → Int} (hi : i < 7) : cof (setP B j p) j i = p i := setP_at hi
theorem cof_out {B : Nat → Int} {j k i : Nat} {p : Nat → Int} (hk : k ≠ j) (hi : i < 7) : cof (setP B j p) k i = cof B k i := setP_out hk hi
/-- one more than the degree -/
def stI (p : Nat → Int) : Nat → Nat
  | 0 => 0
  | n + 1 => if p n = 0 then stI p n else n + 1
theorem stI_le (p : Nat → Int) : ∀ n, stI p n ≤ n
  | 0 => Nat.le_refl _
  | n + 1 => by
    unfold stI
    split
    · exact Nat.le_succ_of_le (stI_le p n)
    · exact Nat.le_refl _
theorem stI_top {p : Nat → Int} : ∀ {n : Nat}, 0 < stI p n → p (stI p n - 1) ≠ 0
  | 0, h => by simp [stI] at h
  | n + 1, h => by
    unfold stI at h ⊢
    split
    · next h0 => rw [if_pos h0] at h; exact stI_top h
    · next h0 => simpa using h0
theorem stI_z {p : Nat → Int} : ∀ {n j : Nat}, stI p n ≤ j → j < n → p j = 0
  | 0, _, _, h => by omega
  | n + 1, j, h1, h2 => by
    unfold stI at h1
    split at h1
    · next h0 =>
      by_cases hj : j = n
      · subst hj; exact h0
      · exact stI_z h1 (by omega)
    · omega
theorem stI_cong {p q : Nat → Int} : ∀ {n : Nat}, (∀ i, i < n → p i = q i) → stI p n = stI q n
  | 0, _ => rfl
  | n + 1, h => by rw [stI, stI, h n (Nat.lt_succ_self n), stI_cong (fun i hi => h i (Nat.lt_succ_of_lt hi))]
theorem dI_lt {g i : Nat} (hg : g < 2147483648) (hi : i < 2147483648) : nI g - nI 1 < nI i ↔ g ≤ i := by
  cases g with
  | zero =>
    constructor
    · intro _; exact Nat.zero_le i
    · intro _
      rw [fa_lt, nI_int hi]
      have : (nI 0 - nI 1 : Int32).toInt = -1 := by decide
      omega
  | succ g =>
    rw [nI_pr, nI_ltI (by omega) (by omega)]
    omega
theorem dI_neg {g : Nat} (hg : g < 2147483648) : nI g - nI 1 < 0 ↔ g = 0 := by
  have := dI_lt (g := g) (i := 0) hg (by decide)
  rw [show (0 : Int32) = nI 0 from rfl, this]
  omega
