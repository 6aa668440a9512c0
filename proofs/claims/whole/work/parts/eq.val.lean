/-! values, signs, sign changes -/
/-- n by 2 to the power of k -/
def ptR (n : Int) (k : Nat) : Rat := (n : Rat) * (((2 : Rat) ^ k)⁻¹)
theorem two_pos (k : Nat) : (0 : Rat) < (2 : Rat) ^ k := Rat.pow_pos (by decide)
theorem ptR_K (n : Int) (k : Nat) : (n : Rat) = ptR n k * (2 : Rat) ^ k := by
  have h := Rat.mul_inv_cancel ((2 : Rat) ^ k) (Rat.ne_of_gt (two_pos k))
  unfold ptR
  generalize ((2 : Rat) ^ k)⁻¹ = w at *
  have : (n : Rat) * w * 2 ^ k = (n : Rat) * (2 ^ k * w) := by grind
  rw [this, h, Rat.mul_one]
theorem cast_pow2 (k : Nat) : (((2 ^ k : Nat) : Int) : Rat) = (2 : Rat) ^ k := by
  induction k with
  | zero => rfl
  | succ k ih =>
    rw [Nat.pow_succ, Int.natCast_mul, Rat.intCast_mul, ih, Rat.pow_succ]
    rfl
/-- Horner's scheme from the top -/
def hoR (p : Nat → Int) (G : Nat) (x : Rat) : Nat → Rat
  | 0 => 0
  | m + 1 => hoR p G x m * x + (p (G - 1 - m) : Rat)
theorem hoR_V (p : Nat → Int) (G : Nat) (x : Rat) : ∀ m, m ≤ G → raV (ivn G p) x = raV (ivn (G - m) p) x + x ^ (G - m) * hoR p G x m
  | 0, _ => by rw [hoR]; simp; grind
  | m + 1, h => by
    rw [hoR_V p G x m (by omega), hoR, show G - m = G - (m + 1) + 1 by omega, ivn_s, show G - 1 - m = G - (m + 1) by omega, Rat.pow_succ]
    grind
theorem evR_2 (p : Nat → Int) (n K : Int) (G : Nat) : ∀ m, ((evS p n K G m).2 : Rat) = (K : Rat) ^ m
  | 0 => by rw [evS, Rat.pow_zero]; rfl
  | m + 1 => by rw [evS, Rat.intCast_mul, evR_2 p n K G m, Rat.pow_succ]
theorem evR_1 (p : Nat → Int) (n : Int) (K : Int) (G : Nat) {x : Rat} (hx : (n : Rat) = x * (K : Rat)) : ∀ m, ((evS p n K G m).1 : Rat) * (K : Rat) = (K : Rat) ^ m * hoR p G x m
  | 0 => by rw [evS, hoR]; simp
  | m + 1 => by
    have e2 := evR_2 p n K G m
    have e1 := evR_1 p n K G hx m
    rw [evS, hoR, Rat.intCast_add, Rat.intCast_mul, Rat.intCast_mul, e2, hx, Rat.pow_succ]
    generalize ((evS p n K G m).1 : Rat) = a at *
    generalize (K : Rat) ^ m = b at *
    have : (a * (x * (K : Rat)) + (p (G - 1 - m) : Rat) * b) * (K : Rat) = (a * (K : Rat)) * x * (K : Rat) + (p (G - 1 - m) : Rat) * b * (K : Rat) := by grind
    rw [this, e1]
    grind
theorem sgn_int (v : Int) : raG ((v.sign : Int) : Rat) (v : Rat) := by
  rcases Int.lt_trichotomy v 0 with w | w | w
  · rw [Int.sign_eq_neg_one_of_neg w]
    have : (v : Rat) < 0 := by rw [← Rat.intCast_zero]; exact Rat.intCast_lt_intCast.mpr w
    exact ⟨by constructor <;> intro q <;> grind, by constructor <;> intro _ <;> first | exact this | decide⟩
  · rw [w]; exact raG_rf _
  · rw [Int.sign_eq_one_of_pos w]
    have : (0 : Rat) < (v : Rat) := by rw [← Rat.intCast_zero]; exact Rat.intCast_lt_intCast.mpr w
    exact ⟨by constructor <;> intro q <;> grind, by constructor <;> intro q <;> grind⟩
/-- what signAt tells: the value's sign -/
theorem sgn_V (p : Nat → Int) (n : Int) (k : Nat) : raG ((sgnAt p n k : Int) : Rat) (iv p (ptR n k)) := by
  have hx : (n : Rat) = ptR n k * (((2 ^ k : Nat) : Int) : Rat) := by rw [cast_pow2]; exact ptR_K n k
  have e1 := evR_1 p n ((2 ^ k : Nat) : Int) (stI p 7) hx (stI p 7)
  have e2 := hoR_V p (stI p 7) (ptR n k) (stI p 7) (Nat.le_refl _)
  rw [Nat.sub_self, ivn_0, ← ivn_st p _ 7] at e2
  have e3 : hoR p (stI p 7) (ptR n k) (stI p 7) = iv p (ptR n k) := by
    unfold iv
    rw [e2, Rat.pow_zero]; grind
  rw [e3] at e1
  have hK : (0 : Rat) < (((2 ^ k : Nat) : Int) : Rat) := by rw [cast_pow2]; exact two_pos k
  have hKG : (0 : Rat) < (((2 ^ k : Nat) : Int) : Rat) ^ (stI p 7) := Rat.pow_pos hK
  unfold sgnAt
  generalize (evS p n ((2 ^ k : Nat) : Int) (stI p 7) (stI p 7)).1 = v at *
  have s1 := sgn_int v
  have s2 : raG ((v : Rat) * (((2 ^ k : Nat) : Int) : Rat)) (v : Rat) := by
    rw [Rat.mul_comm]; exact raG_k hK
  have s3 : raG ((((2 ^ k : Nat) : Int) : Rat) ^ (stI p 7) * iv p (ptR n k)) (iv p (ptR n k)) := raG_k hKG
  rw [e1] at s2
  exact ⟨s1.1.trans (s2.1.symm.trans s3.1), s1.2.trans (s2.2.symm.trans s3.2)⟩
theorem sgn_0 (p : Nat → Int) (n : Int) (k : Nat) : sgnAt p n k = 0 ↔ iv p (ptR n k) = 0 := by
  rw [← (sgn_V p n k).1]
  exact ⟨fun h => by rw [h]; rfl, fun h => by rw [← Rat.intCast_zero] at h; exact Rat.intCast_inj.mp h⟩
/-- the count of sign changes, as a list's -/
theorem chg_C (s : Nat → Int) : ∀ n, (chg s n).2 = raC 0 ((List.range n).map (fun i => ((s i : Int) : Rat))) ∧ (((chg s n).1 : Int) : Rat) = raF 0 ((List.range n).map (fun i => ((s i : Int) : Rat)))
  | 0 => ⟨rfl, rfl⟩
  | n + 1 => by
    obtain ⟨h1, h2⟩ := chg_C s n
    rw [List.range_succ, List.map_append, List.map_cons, List.map_nil, raC_app, raF_app, chg]
    have e : (((s n : Int) : Rat) * raF 0 ((List.range n).map (fun i => ((s i : Int) : Rat))) < 0) ↔ s n * (chg s n).1 < 0 := by
      rw [← h2, ← Rat.intCast_mul, ← Rat.intCast_zero]
      exact Rat.intCast_lt_intCast
    have e0 : (((s n : Int) : Rat) = 0) ↔ s n = 0 := ⟨fun h => by rw [← Rat.intCast_zero] at h; exact Rat.intCast_inj.mp h, fun h => by rw [h]; rfl⟩
    refine ⟨?_, ?_⟩
    · (try dsimp only)
      by_cases c : s n * (chg s n).1 < 0
      · rw [if_pos c, if_pos (e.mpr c), h1]
      · rw [if_neg c, if_neg (fun q => c (e.mp q)), h1]; rfl
    · (try dsimp only)
      by_cases c : s n = 0
      · rw [if_pos c, if_pos (e0.mpr c), h2]
      · rw [if_neg c, if_neg (fun q => c (e0.mp q))]
theorem raC_map {f g : Nat → Rat} {n : Nat} (h : ∀ i, i < n → raG (f i) (g i)) : raC 0 ((List.range n).map f) = raC 0 ((List.range n).map g) := by
  refine raC_sg (raG_rf 0) (by simp) (fun i h1 h2 => ?_)
  simp only [List.length_map, List.length_range] at h1
  simp only [List.getElem_map, List.getElem_range]
  exact h i h1
theorem chg_G (s : Nat → Int) (f : Nat → Rat) (n : Nat) (h : ∀ i, i < n → raG ((s i : Int) : Rat) (f i)) : (chg s n).2 = raC 0 ((List.range n).map f) := by
  rw [(chg_C s n).1]
  exact raC_map h
theorem stC_V (p : Nat → Int) (n : Int) (k : Nat) : stC p n k = raC 0 ((List.range (stM p)).map (fun i => iv (stE p i) (ptR n k))) := chg_G _ _ _ (fun i _ => sgn_V _ _ _)
theorem raC_len : ∀ (l : List Rat) (p : Rat), raC p l ≤ l.length
  | [], p => Nat.le_refl _
  | a :: t, p => by
    rw [raC, List.length_cons]
    have h1 := raC_len t p
    have h2 := raC_len t a
    split
    · omega
    · split <;> omega
theorem raC_len0 (a : Rat) (t : List Rat) : raC 0 (a :: t) ≤ t.length := by
  rw [raC]
  split
  · exact raC_len t 0
  · rw [Rat.mul_zero, if_neg (by decide), Nat.zero_add]; exact raC_len t a
