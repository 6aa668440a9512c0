/-! SturmRoots$Big: reduceBy -/
def hsame (S : List Nat) (h1 h : mH) : Prop := ∀ a, a ∉ S → h1 a = h a
theorem hsame_rf (S : List Nat) (h : mH) : hsame S h h := fun _ _ => rfl
theorem hsame_up {S : List Nat} {h1 h : mH} {a : Nat} {e : va_E} (hs : hsame S h1 h) (ha : a ∈ S) : hsame S (mup h1 a e) h := fun x hx => by
  rw [mup_ne (fun q : x = a => hx (by rw [q]; exact ha))]
  exact hs x hx
/-- the six cells of the long division -/
def rbN (b r b2 r2 b3 r3 : Nat) : Prop := (b ≠ r ∧ b ≠ b2 ∧ b ≠ r2 ∧ b ≠ b3 ∧ b ≠ r3) ∧ (r ≠ b2 ∧ r ≠ r2 ∧ r ≠ b3 ∧ r ≠ r3) ∧ (b2 ≠ r2 ∧ b2 ≠ b3 ∧ b2 ≠ r3) ∧ (r2 ≠ b3 ∧ r2 ≠ r3) ∧ b3 ≠ r3
def rbS (c : ClassId) (h g : mH) (b r b2 r2 b3 r3 m n S : Nat) (sg : Int32) (e q : Nat → Nat) : Prop :=
  g b = some (bO r (nI m) (nI 0)) ∧ g r = some (bA c (bN e)) ∧ g b2 = some (bO r2 (nI n) sg) ∧ g r2 = some (bA c (bN (bdig S))) ∧ g b3 = some (bO r3 (nI 0) (nI 0)) ∧ g r3 = some (bA c (bN q)) ∧ hsame [b, r, b2, r2, b3, r3] g h
theorem rbS_r {c : ClassId} {h g : mH} {b r b2 r2 b3 r3 m n S : Nat} {sg : Int32} {e e' q : Nat → Nat} (hn : rbN b r b2 r2 b3 r3) (hs : rbS c h g b r b2 r2 b3 r3 m n S sg e q) : rbS c h (mup g r (bA c (bN e'))) b r b2 r2 b3 r3 m n S sg e' q := by
  obtain ⟨⟨n1, n2, n3, n4, n5⟩, ⟨n6, n7, n8, n9⟩, -⟩ := hn
  obtain ⟨f1, f2, f3, f4, f5, f6, f7⟩ := hs
  exact ⟨by rw [mup_ne n1]; exact f1, mup_self, by rw [mup_ne n6.symm]; exact f3, by rw [mup_ne n7.symm]; exact f4, by rw [mup_ne n8.symm]; exact f5, by rw [mup_ne n9.symm]; exact f6, hsame_up f7 (by simp)⟩
theorem rbS_q {c : ClassId} {h g : mH} {b r b2 r2 b3 r3 m n S : Nat} {sg : Int32} {e q q' : Nat → Nat} (hn : rbN b r b2 r2 b3 r3) (hs : rbS c h g b r b2 r2 b3 r3 m n S sg e q) : rbS c h (mup g r3 (bA c (bN q'))) b r b2 r2 b3 r3 m n S sg e q' := by
  obtain ⟨⟨n1, n2, n3, n4, n5⟩, ⟨n6, n7, n8, n9⟩, ⟨n10, n11, n12⟩, ⟨n13, n14⟩, n15⟩ := hn
  obtain ⟨f1, f2, f3, f4, f5, f6, f7⟩ := hs
  exact ⟨by rw [mup_ne n5]; exact f1, by rw [mup_ne n9]; exact f2, by rw [mup_ne n12]; exact f3, by rw [mup_ne n14]; exact f4, by rw [mup_ne n15]; exact f5, mup_self, hsame_up f7 (by simp)⟩
/-- the state of the rows: what is left, what was taken -/
def rbI (e q : Nat → Nat) (X S n i : Nat) : Prop := (∀ j, j < 20 → e j < BB) ∧ (∀ j, i + n ≤ j → e j = 0) ∧ (∀ j, j < 20 → q j < BB) ∧ (∀ j, j < i → q j = 0) ∧ bval e 20 < BB ^ i * S ∧ X = bval e 20 + S * bval q 20
theorem bval_at {e : Nat → Nat} {i k : Nat} (hz : ∀ j, i + k ≤ j → e j = 0) (hik : i + k ≤ 20) : bval e 20 = bval e i + BB ^ i * bval (bsl e i) k := by
  rw [bval_cut (m := i + k) hik (fun j h1 _ => hz j h1), bval_split]
theorem bval_upd {q : Nat → Nat} {i x : Nat} (hi : q i = 0) : ∀ n, i < n → bval (updN q i x) n = bval q n + x * BB ^ i
  | 0, h => absurd h (Nat.not_lt_zero i)
  | n + 1, h => by
    rw [bval, bval]
    by_cases e : i = n
    · subst e
      rw [updN_s, bval_cong (e := q) (fun j hj => updN_n (by omega)), hi, Nat.zero_mul, Nat.add_zero]
    · rw [updN_n (fun z => e z.symm), bval_upd hi n (by omega)]
      omega
/-- one digit of the quotient -/
theorem rbI_step {e e' q : Nat → Nat} {X S n i Z : Nat} (h : rbI e q X S n (i + 1)) (hin : i + 1 + n ≤ 20) (hZ : Z = bval (bsl e i) (n + 1)) (hS : S < BB ^ n) (he1 : ∀ j, j < 20 → e' j < BB) (he2 : ∀ j, j < i ∨ i + (n + 1) ≤ j → e' j = e j) (he3 : bval (bsl e' i) (n + 1) + Z / S * S = Z) (hS0 : 0 < S) (hq : Z / S < BB) : rbI e' (updN q i (Z / S)) X S n i := by
  obtain ⟨h1, h2, h3, h4, h5, h6⟩ := h
  have hz : ∀ j, i + (n + 1) ≤ j → e j = 0 := fun j hj => h2 j (by omega)
  have hz' : ∀ j, i + (n + 1) ≤ j → e' j = 0 := fun j hj => by rw [he2 j (Or.inr hj)]; exact hz j hj
  have a1 := bval_at (e := e) (i := i) (k := n + 1) hz (by omega)
  have a2 := bval_at (e := e') (i := i) (k := n + 1) hz' (by omega)
  have a3 : bval e' i = bval e i := bval_cong (fun j hj => he2 j (Or.inl hj))
  have a4 := bval_lt (d := e) (n := i) (fun j hj => h1 j (by omega))
  have a5 : bval (bsl e' i) (n + 1) < S := by
    have := Nat.lt_div_mul_add hS0 (a := Z)
    omega
  rw [← hZ] at a1
  generalize Z / S = g at he3 hq ⊢
  have a6 : bval e' 20 < BB ^ i * S := by
    rw [a2, a3]
    have : BB ^ i * (bval (bsl e' i) (n + 1) + 1) ≤ BB ^ i * S := Nat.mul_le_mul_left _ a5
    rw [Nat.mul_succ] at this
    omega
  refine ⟨he1, fun j hj => ?_, fun j hj => ?_, fun j hj => ?_, a6, ?_⟩
  · by_cases q2 : i + (n + 1) ≤ j
    · exact hz' j q2
    · have : j = i + n := by omega
      subst this
      have b1 : bval (bsl e' i) (n + 1) < BB ^ n := Nat.lt_trans a5 hS
      rw [bval] at b1
      by_cases q3 : bsl e' i n = 0
      · exact q3
      · have : 1 * BB ^ n ≤ bsl e' i n * BB ^ n := Nat.mul_le_mul_right _ (Nat.pos_of_ne_zero q3)
        omega
  · by_cases q2 : j = i
    · subst q2; rw [updN_s]; exact hq
    · rw [updN_n q2]; exact h3 j hj
  · rw [updN_n (by omega)]
    exact h4 j (by omega)
  · rw [h6, bval_upd (h4 i (by omega)) 20 (by omega), a1, a2, a3, ← he3, Nat.mul_add, Nat.mul_add]
    have : BB ^ i * (g * S) = S * (g * BB ^ i) := by ac_rfl
    rw [this]
    omega
/-- a row of the corrections: T is what stands for Z - g S -/
theorem rb_fix {e d o : Nat → Nat} {i n : Nat} {S : Nat} {Z g c C : Int} (hP : amP d e i (n + 1) 1 C o) (ho : bval o (n + 1) = S) (hd : (bval (bsl d i) (n + 1) : Int) + c * (BB ^ (n + 1) : Nat) = Z - g * S) : (bval (bsl e i) (n + 1) : Int) + (c + C) * (BB ^ (n + 1) : Nat) = Z - (g - 1) * S := by
  obtain ⟨-, -, h3⟩ := hP
  rw [ho] at h3
  generalize ((BB ^ (n + 1) : Nat) : Int) = P at *
  grind
theorem rb_car {x c T P : Int} {S : Int} (h : x + c * P = T) (hx0 : 0 ≤ x) (hx : x < P) (hT0 : -P < T) (hT : T < S) (hS : S ≤ P) : (c = 0 ∧ 0 ≤ T) ∨ (c = -1 ∧ T < 0) := by
  have hP : 0 < P := by omega
  by_cases h1 : 1 ≤ c
  · have : 1 * P ≤ c * P := Int.mul_le_mul_of_nonneg_right h1 (by omega)
    omega
  · by_cases h2 : c ≤ -2
    · have : c * P ≤ -2 * P := Int.mul_le_mul_of_nonneg_right h2 (by omega)
      omega
    · have : c = 0 ∨ c = -1 := by omega
      rcases this with rfl | rfl
      · exact Or.inl ⟨rfl, by omega⟩
      · exact Or.inr ⟨rfl, by omega⟩
