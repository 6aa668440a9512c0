/-! SturmRootsModel's numbers: 48 ints, two's complement -/
abbrev CC : Nat := 4294967296
def cp (k : Nat) : Int := (CC : Int) ^ k
def nd (v : Int) (k : Nat) : Nat := (v / cp k % (CC : Int)).toNat
def nf (v : Int) : Nat → Int32 := fun k => if k < 48 then nI (nd v k) else 0
def nE (c : ClassId) (v : Int) : va_E := .inl (c, 48, .inl (nf v))
/-- new below k, old from k on -/
def fmx (w v : Int) (k : Nat) : Nat → Int32 := fun j => if j < k then nf w j else nf v j
/-- old below k, new from k on -/
def fmd (w v : Int) (k : Nat) : Nat → Int32 := fun j => if j < k then nf v j else nf w j
def nA (c : ClassId) (f : Nat → Int32) : va_E := .inl (c, 48, .inl f)
theorem cp_pos (k : Nat) : 0 < cp k := Int.pow_pos (by decide)
theorem cp_s (k : Nat) : cp (k + 1) = cp k * (CC : Int) := Int.pow_succ _ _
theorem cp_0 : cp 0 = 1 := rfl
theorem cp_add (i k : Nat) : cp (i + k) = cp i * cp k := Int.pow_add _ _ _
theorem nd_int (v : Int) (k : Nat) : (nd v k : Int) = v / cp k % (CC : Int) := Int.toNat_of_nonneg (Int.emod_nonneg _ (by decide))
theorem nd_lt (v : Int) (k : Nat) : nd v k < CC := by
  have := nd_int v k
  have h2 := Int.emod_lt_of_pos (v / cp k) (show (0 : Int) < (CC : Int) by decide)
  omega
theorem nf_at {v : Int} {k : Nat} (h : k < 48) : nf v k = nI (nd v k) := if_pos h
theorem nf_z {v : Int} {k : Nat} (h : ¬ k < 48) : nf v k = 0 := if_neg h
theorem fmx_0 (w v : Int) : fmx w v 0 = nf v := funext fun j => if_neg (Nat.not_lt_zero j)
theorem fmx_48 (w v : Int) : fmx w v 48 = nf w := funext fun j => by
  unfold fmx
  by_cases h : j < 48
  · rw [if_pos h]
  · rw [if_neg h, nf_z h, nf_z h]
theorem fmd_0 (w v : Int) : fmd w v 0 = nf w := funext fun j => if_neg (Nat.not_lt_zero j)
theorem fmd_48 (w v : Int) : fmd w v 48 = nf v := funext fun j => by
  unfold fmd
  by_cases h : j < 48
  · rw [if_pos h]
  · rw [if_neg h, nf_z h, nf_z h]
theorem fmx_at {w v : Int} {k : Nat} (h : k < 48) : fmx w v k (nI k).toNatClampNeg = nI (nd v k) := by
  rw [nI_cl (by omega)]; unfold fmx; rw [if_neg (Nat.lt_irrefl k), nf_at h]
theorem fmx_up {w v : Int} {k : Nat} (h : k < 48) : upd (fmx w v k) (nI k).toNatClampNeg (nI (nd w k)) = fmx w v (k + 1) := by
  funext j
  rw [nI_cl (by omega)]
  unfold upd fmx
  by_cases e : j = k
  · rw [if_pos e, e, if_pos (by omega), nf_at h]
  · rw [if_neg e]
    by_cases q : j < k
    · rw [if_pos q, if_pos (by omega)]
    · rw [if_neg q, if_neg (by omega)]
theorem fmd_up {w v : Int} {k : Nat} (h : k < 48) : upd (fmd w v (k + 1)) (nI k).toNatClampNeg (nI (nd w k)) = fmd w v k := by
  funext j
  rw [nI_cl (by omega)]
  unfold upd fmd
  by_cases e : j = k
  · rw [if_pos e, e, if_neg (by omega), nf_at h]
  · rw [if_neg e]
    by_cases q : j < k
    · rw [if_pos q, if_pos (by omega)]
    · rw [if_neg q, if_neg (by omega)]
theorem nf_rd {v : Int} {k : Nat} (h : k < 48) : nf v (nI k).toNatClampNeg = nI (nd v k) := by rw [nI_cl (by omega), nf_at h]
/-- what lies below place k -/
theorem nm_s (v : Int) (k : Nat) : v % cp (k + 1) = v % cp k + cp k * (nd v k : Int) := by
  rw [nd_int, cp_s]
  have hp := cp_pos k
  have h1 := Int.mul_ediv_add_emod v (cp k)
  have h2 := Int.mul_ediv_add_emod (v / cp k) (CC : Int)
  have h3 := Int.emod_nonneg v (Int.ne_of_gt hp)
  have h4 := Int.emod_lt_of_pos v hp
  have h5 := Int.emod_nonneg (v / cp k) (show (CC : Int) ≠ 0 by decide)
  have h6 := Int.emod_lt_of_pos (v / cp k) (show (0 : Int) < (CC : Int) by decide)
  generalize hq : v / cp k = q at *
  generalize hr : v % cp k = r at *
  generalize q % (CC : Int) = d at *
  generalize q / (CC : Int) = e at *
  generalize cp k = P at *
  have e1 : v = (r + P * d) + (P * (CC : Int)) * e := by
    rw [← h1, ← h2, Int.mul_add, Int.mul_assoc]; omega
  rw [e1, Int.add_mul_emod_self_left]
  refine Int.emod_eq_of_lt ?_ ?_
  · have := Int.mul_nonneg (Int.le_of_lt hp) h5
    omega
  · have : P * (d + 1) ≤ P * (CC : Int) := Int.mul_le_mul_of_nonneg_left (by omega) (Int.le_of_lt hp)
    rw [Int.mul_add] at this
    omega
/-- one place of a sum with a carry -/
theorem nd_step {w S Z T : Int} {k : Nat} (hw : w = S + cp k * Z) (hz : ∃ q, Z = T + (CC : Int) * q) : (nd w k : Int) = (S / cp k + T) % (CC : Int) ∧ (S + cp k * T) / cp (k + 1) = (S / cp k + T) / (CC : Int) := by
  have hp := cp_pos k
  obtain ⟨q, hq⟩ := hz
  constructor
  · rw [nd_int, hw, Int.add_mul_ediv_left _ _ (Int.ne_of_gt hp), hq, ← Int.add_assoc, Int.add_mul_emod_self_left]
  · rw [cp_s, ← Int.ediv_ediv_of_nonneg (Int.le_of_lt hp), Int.add_mul_ediv_left _ _ (Int.ne_of_gt hp)]
theorem nd_q (v : Int) (k : Nat) : ∃ q, v / cp k = (nd v k : Int) + (CC : Int) * q := ⟨v / cp k / (CC : Int), by rw [nd_int]; have := Int.mul_ediv_add_emod (v / cp k) (CC : Int); omega⟩
theorem nm_q (v : Int) (k : Nat) : v = v % cp k + cp k * (v / cp k) := by have := Int.mul_ediv_add_emod v (cp k); omega
/-- sums -/
theorem nd_add (a b : Int) (k : Nat) : (nd (a + b) k : Int) = ((a % cp k + b % cp k) / cp k + (nd a k + nd b k)) % (CC : Int) ∧ (a % cp (k + 1) + b % cp (k + 1)) / cp (k + 1) = ((a % cp k + b % cp k) / cp k + (nd a k + nd b k)) / (CC : Int) := by
  obtain ⟨p, hp⟩ := nd_q a k
  obtain ⟨q, hq⟩ := nd_q b k
  have := nd_step (w := a + b) (S := a % cp k + b % cp k) (Z := a / cp k + b / cp k) (T := (nd a k : Int) + nd b k) (k := k) (by rw [Int.mul_add]; have := nm_q a k; have := nm_q b k; omega) ⟨p + q, by rw [hp, hq, Int.mul_add]; omega⟩
  refine ⟨this.1, ?_⟩
  rw [nm_s, nm_s, ← this.2, Int.mul_add]
  congr 1
  omega
theorem nd_sub (a b : Int) (k : Nat) : (nd (a - b) k : Int) = ((a % cp k - b % cp k) / cp k + ((nd a k : Int) - nd b k)) % (CC : Int) ∧ (a % cp (k + 1) - b % cp (k + 1)) / cp (k + 1) = ((a % cp k - b % cp k) / cp k + ((nd a k : Int) - nd b k)) / (CC : Int) := by
  obtain ⟨p, hp⟩ := nd_q a k
  obtain ⟨q, hq⟩ := nd_q b k
  have := nd_step (w := a - b) (S := a % cp k - b % cp k) (Z := a / cp k - b / cp k) (T := (nd a k : Int) - nd b k) (k := k) (by rw [Int.mul_sub]; have := nm_q a k; have := nm_q b k; omega) ⟨p - q, by rw [hp, hq, Int.mul_sub]; omega⟩
  refine ⟨this.1, ?_⟩
  rw [nm_s, nm_s, ← this.2, Int.mul_sub]
  congr 1
  omega
/-- a multiple -/
theorem nd_mul (a m : Int) (k : Nat) : (nd (a * m) k : Int) = (a % cp k * m / cp k + nd a k * m) % (CC : Int) ∧ a % cp (k + 1) * m / cp (k + 1) = (a % cp k * m / cp k + nd a k * m) / (CC : Int) := by
  obtain ⟨p, hp⟩ := nd_q a k
  have := nd_step (w := a * m) (S := a % cp k * m) (Z := a / cp k * m) (T := (nd a k : Int) * m) (k := k) (by conv => lhs; rw [nm_q a k, Int.add_mul]; rw [Int.mul_assoc]) ⟨p * m, by rw [hp, Int.add_mul, Int.mul_assoc]⟩
  refine ⟨this.1, ?_⟩
  rw [nm_s, ← this.2, Int.add_mul, Int.mul_assoc]
/-- the negated -/
theorem nd_neg (a : Int) (k : Nat) : (nd (-a) k : Int) = ((cp k - a % cp k) / cp k + ((CC : Int) - 1 - nd a k)) % (CC : Int) ∧ (cp (k + 1) - a % cp (k + 1)) / cp (k + 1) = ((cp k - a % cp k) / cp k + ((CC : Int) - 1 - nd a k)) / (CC : Int) := by
  obtain ⟨p, hp⟩ := nd_q a k
  have := nd_step (w := -a) (S := cp k - a % cp k) (Z := -1 - a / cp k) (T := (CC : Int) - 1 - nd a k) (k := k) (by rw [Int.mul_sub]; have := nm_q a k; omega) ⟨-1 - p, by rw [hp, Int.mul_sub]; omega⟩
  refine ⟨this.1, ?_⟩
  rw [nm_s, ← this.2, cp_s, Int.mul_sub, Int.mul_sub]
  congr 1
  omega
/-- two's complement: the same mod 2^1536 -/
theorem nd_cong {a b : Int} {k n : Nat} (hk : k < n) (h : ∃ q, a = b + cp n * q) : nd a k = nd b k := by
  obtain ⟨q, rfl⟩ := h
  have e : cp n = cp k * ((CC : Int) * cp (n - k - 1)) := by
    rw [Int.mul_comm (CC : Int), ← cp_s, ← cp_add]
    congr 1; omega
  have h1 : (b + cp n * q) / cp k % (CC : Int) = b / cp k % (CC : Int) := by
    rw [e, Int.mul_assoc, Int.add_mul_ediv_left _ _ (Int.ne_of_gt (cp_pos k)), Int.mul_assoc, Int.add_mul_emod_self_left]
  rw [← nd_int, ← nd_int] at h1
  omega
theorem nf_cong {a b : Int} (h : ∃ q, a = b + cp 48 * q) : nf a = nf b := funext fun j => by
  by_cases q : j < 48
  · rw [nf_at q, nf_at q, nd_cong q h]
  · rw [nf_z q, nf_z q]
theorem nd_zero (k : Nat) : nd 0 k = 0 := by
  have := nd_int 0 k
  rw [Int.zero_ediv, Int.zero_emod] at this
  omega
/-- a number below CC^n, not below 0, has n places -/
theorem nd_big {v : Int} {k n : Nat} (h0 : 0 ≤ v) (h : v < cp n) (hk : n ≤ k) : nd v k = 0 := by
  have h1 : cp n ≤ cp k := by
    have e : cp k = cp n * cp (k - n) := by rw [← cp_add]; congr 1; omega
    rw [e]
    have h2 := cp_pos (k - n)
    have h3 := cp_pos n
    have h4 : cp n * 1 ≤ cp n * cp (k - n) := Int.mul_le_mul_of_nonneg_left (by omega) (Int.le_of_lt h3)
    omega
  have := nd_int v k
  rw [Int.ediv_eq_zero_of_lt h0 (by omega), Int.zero_emod] at this
  omega
