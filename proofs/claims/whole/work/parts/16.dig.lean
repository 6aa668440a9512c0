/-! numbers in limbs of 30 bits -/
abbrev BB : Nat := 1073741824
def bval (d : Nat → Nat) : Nat → Nat
  | 0 => 0
  | n + 1 => bval d n + d n * BB ^ n
def bdig (v j : Nat) : Nat := v / BB ^ j % BB
def stN (d : Nat → Nat) : Nat → Nat
  | 0 => 0
  | n + 1 => if d n = 0 then stN d n else n + 1
def blen (v : Nat) : Nat := stN (bdig v) 20
def updN (d : Nat → Nat) (k x : Nat) : Nat → Nat := fun j => if j = k then x else d j
def bN (d : Nat → Nat) : Nat → Int32 := fun j => nI (d j)
def bsg (v : Int) : Int32 := if v < 0 then nI 1 else nI 0
def bO (r : Nat) (n g : Int32) : va_E := .inr (5, [.ref r, .int n, .int g])
def bA (c : ClassId) (f : Nat → Int32) : va_E := .inl (c, 20, .inl f)
def bigO (r : Nat) (v : Int) : va_E := bO r (nI (blen v.natAbs)) (bsg v)
def bigA (c : ClassId) (v : Int) : va_E := bA c (bN (bdig v.natAbs))
theorem BB_pos (n : Nat) : 0 < BB ^ n := Nat.pow_pos (by decide)
theorem bval_cong {d e : Nat → Nat} : ∀ {n : Nat}, (∀ j, j < n → d j = e j) → bval d n = bval e n
  | 0, _ => rfl
  | n + 1, h => by rw [bval, bval, bval_cong (fun j hj => h j (Nat.lt_succ_of_lt hj)), h n (Nat.lt_succ_self n)]
theorem bval_lt {d : Nat → Nat} : ∀ {n : Nat}, (∀ j, j < n → d j < BB) → bval d n < BB ^ n
  | 0, _ => by simp [bval]
  | n + 1, h => by
    have h1 := bval_lt (n := n) (fun j hj => h j (Nat.lt_succ_of_lt hj))
    have h2 := h n (Nat.lt_succ_self n)
    rw [bval, Nat.pow_succ]
    have : (d n + 1) * BB ^ n ≤ BB * BB ^ n := Nat.mul_le_mul_right _ h2
    rw [Nat.succ_mul] at this
    rw [Nat.mul_comm (BB ^ n) BB]
    omega
theorem bval_dig {d : Nat → Nat} {n k : Nat} (h : ∀ j, j < n → d j < BB) (hk : k < n) : bdig (bval d n) k = d k := by
  induction n with
  | zero => omega
  | succ n ih =>
    have hl := bval_lt (d := d) (n := n) (fun j hj => h j (Nat.lt_succ_of_lt hj))
    unfold bdig
    rw [bval]
    by_cases hkn : k = n
    · subst hkn
      rw [Nat.add_mul_div_right _ _ (BB_pos k), Nat.div_eq_of_lt hl, Nat.zero_add, Nat.mod_eq_of_lt (h k (Nat.lt_succ_self k))]
    · have hk' : k < n := by omega
      have e : BB ^ n = BB ^ k * (BB * BB ^ (n - k - 1)) := by
        rw [← Nat.pow_succ', ← Nat.pow_add]
        congr 1
        omega
      have e2 : d n * BB ^ n = (d n * (BB * BB ^ (n - k - 1))) * BB ^ k := by rw [e]; ac_rfl
      rw [e2, Nat.add_mul_div_right _ _ (BB_pos k)]
      have e3 : d n * (BB * BB ^ (n - k - 1)) = BB * (d n * BB ^ (n - k - 1)) := by ac_rfl
      rw [e3, Nat.add_mul_mod_self_left]
      exact ih (fun j hj => h j (Nat.lt_succ_of_lt hj)) hk'
theorem bdig_lt (v j : Nat) : bdig v j < BB := Nat.mod_lt _ (by decide)
theorem bval_bdig (v : Nat) : ∀ n, bval (bdig v) n = v % BB ^ n
  | 0 => by simp [bval, Nat.mod_one]
  | n + 1 => by
    rw [bval, bval_bdig v n, Nat.pow_succ]
    unfold bdig
    rw [Nat.mod_mul, Nat.mul_comm]
theorem bval_bdig' {v n : Nat} (h : v < BB ^ n) : bval (bdig v) n = v := by rw [bval_bdig, Nat.mod_eq_of_lt h]
theorem bdig_big {v n j : Nat} (h : v < BB ^ n) (hj : n ≤ j) : bdig v j = 0 := by
  unfold bdig
  rw [Nat.div_eq_of_lt (Nat.lt_of_lt_of_le h (Nat.pow_le_pow_right (by decide) hj)), Nat.zero_mod]
theorem bdig_of {d : Nat → Nat} {n : Nat} (h : ∀ j, j < n → d j < BB) (hz : ∀ j, n ≤ j → d j = 0) : bdig (bval d n) = d := by
  funext j
  by_cases hj : j < n
  · exact bval_dig h hj
  · rw [hz j (by omega), bdig_big (bval_lt h) (by omega)]
theorem stN_le (d : Nat → Nat) : ∀ n, stN d n ≤ n
  | 0 => Nat.le_refl _
  | n + 1 => by
    unfold stN
    split
    · exact Nat.le_succ_of_le (stN_le d n)
    · exact Nat.le_refl _
theorem stN_top {d : Nat → Nat} : ∀ {n : Nat}, 0 < stN d n → d (stN d n - 1) ≠ 0
  | 0, h => by simp [stN] at h
  | n + 1, h => by
    unfold stN at h ⊢
    split
    · next h0 => rw [if_pos h0] at h; exact stN_top h
    · next h0 => simpa using h0
theorem stN_z {d : Nat → Nat} : ∀ {n j : Nat}, stN d n ≤ j → j < n → d j = 0
  | 0, _, _, h => by omega
  | n + 1, j, h1, h2 => by
    unfold stN at h1
    split at h1
    · next h0 =>
      by_cases hj : j = n
      · subst hj; exact h0
      · exact stN_z h1 (by omega)
    · omega
theorem stN_cut {d : Nat → Nat} {m : Nat} : ∀ {n : Nat}, m ≤ n → (∀ j, m ≤ j → j < n → d j = 0) → stN d n = stN d m
  | 0, h, _ => by rw [Nat.le_zero.mp h]
  | n + 1, h, hz => by
    by_cases hm : m = n + 1
    · rw [hm]
    · rw [stN, if_pos (hz n (by omega) (by omega))]
      exact stN_cut (by omega) (fun j h1 h2 => hz j h1 (by omega))
theorem bval_cut {d : Nat → Nat} {m : Nat} : ∀ {n : Nat}, m ≤ n → (∀ j, m ≤ j → j < n → d j = 0) → bval d n = bval d m
  | 0, h, _ => by rw [Nat.le_zero.mp h]
  | n + 1, h, hz => by
    by_cases hm : m = n + 1
    · rw [hm]
    · rw [bval, hz n (by omega) (by omega), Nat.zero_mul, Nat.add_zero]
      exact bval_cut (by omega) (fun j h1 h2 => hz j h1 (by omega))
theorem bval_st (d : Nat → Nat) (n : Nat) : bval d n = bval d (stN d n) := bval_cut (stN_le d n) (fun _ h1 h2 => stN_z h1 h2)
theorem bval_ge {d : Nat → Nat} {n k : Nat} (hk : k < n) : d k * BB ^ k ≤ bval d n := by
  induction n with
  | zero => omega
  | succ n ih =>
    rw [bval]
    by_cases h : k = n
    · subst h; omega
    · have := ih (by omega); omega
theorem blen_le (v : Nat) : blen v ≤ 20 := stN_le _ _
theorem blen_lt {v : Nat} (h : v < BB ^ 20) : v < BB ^ blen v := by
  have h1 : bval (bdig v) (blen v) = v := by
    have := bval_st (bdig v) 20
    rw [bval_bdig' h] at this
    exact this.symm
  have h2 := bval_lt (d := bdig v) (n := blen v) (fun j _ => bdig_lt v j)
  omega
theorem blen_ge {v : Nat} (h : v < BB ^ 20) (h0 : 0 < blen v) : BB ^ (blen v - 1) ≤ v := by
  have h1 := stN_top (d := bdig v) (n := 20) h0
  have h2 := bval_ge (d := bdig v) (n := 20) (k := blen v - 1) (by have := blen_le v; omega)
  rw [bval_bdig' h] at h2
  have h3 : 1 * BB ^ (blen v - 1) ≤ bdig v (blen v - 1) * BB ^ (blen v - 1) := Nat.mul_le_mul_right _ (Nat.pos_of_ne_zero h1)
  omega
theorem blen_0 {v : Nat} (h : v < BB ^ 20) : blen v = 0 ↔ v = 0 := by
  constructor
  · intro e
    have := blen_lt h
    rw [e] at this
    simpa using this
  · rintro rfl
    by_cases e : blen 0 = 0
    · exact e
    · have := blen_ge (v := 0) (BB_pos 20) (Nat.pos_of_ne_zero e)
      have := BB_pos (blen 0 - 1)
      omega
theorem blen_le_of {v n : Nat} (h : v < BB ^ 20) (hn : v < BB ^ n) : blen v ≤ n := by
  by_cases e : 0 < blen v
  · have := blen_ge h e
    have h2 : BB ^ (blen v - 1) < BB ^ n := Nat.lt_of_le_of_lt this hn
    have := (Nat.pow_lt_pow_iff_right (by decide : 1 < BB)).mp h2
    omega
  · omega
/-- what settle leaves of limbs d, all above E being zero -/
theorem blen_of {d : Nat → Nat} {E : Nat} (hE : E ≤ 20) (h : ∀ j, j < E → d j < BB) (hz : ∀ j, E ≤ j → d j = 0) : blen (bval d E) = stN d E := by
  unfold blen
  rw [bdig_of h hz]
  exact stN_cut hE (fun j h1 _ => hz j h1)
theorem nI_z {n : Nat} (h : n < 2147483648) : nI n = 0 ↔ n = 0 := nI_eq (b := 0) h (by decide)
theorem nI_lez {n : Nat} (h : n < 2147483648) : nI n ≤ 0 ↔ n = 0 := by
  have := nI_leI (a := n) (b := 0) h (by decide)
  rw [show (0 : Int32) = nI 0 from rfl, this]
  omega
theorem bN_upd {d : Nat → Nat} {k x : Nat} (hk : k < 2147483648) : upd (bN d) (nI k).toNatClampNeg (nI x) = bN (updN d k x) := by
  funext j
  rw [nI_cl hk]
  unfold upd bN updN
  split <;> rfl
theorem bN_at {d : Nat → Nat} {k : Nat} (hk : k < 2147483648) : bN d (nI k).toNatClampNeg = nI (d k) := by rw [nI_cl hk]; rfl
theorem updN_s {d : Nat → Nat} {k x : Nat} : updN d k x k = x := if_pos rfl
theorem updN_n {d : Nat → Nat} {k x j : Nat} (h : j ≠ k) : updN d k x j = d j := if_neg h
theorem bsg_z (v : Int) : bsg v = 0 ↔ ¬ v < 0 := by
  unfold bsg
  split
  · next h => exact ⟨fun e => absurd e (by decide), fun e => absurd h e⟩
  · next h => exact ⟨fun _ => h, fun _ => rfl⟩
theorem bsg_nar (v : Int) : narrow .boolean (.int (bsg v)) = .int (bsg v) ∧ fits .boolean (.int (bsg v)) = true := by
  unfold bsg
  split <;> exact ⟨rfl, rfl⟩
theorem nI_pr (n : Nat) : nI (n + 1) - nI 1 = nI n := by rw [pk_sub (by omega)]; rfl
theorem nI_sc (n : Nat) : nI n + nI 1 = nI (n + 1) := nI_add n 1
theorem nI_inc (n : Nat) : nI n + Int32.ofInt 1 = nI (n + 1) := (nI_succ n).symm
theorem nI_dec (n : Nat) : nI (n + 1) + Int32.ofInt (-1) = nI n := pk_m1 n
