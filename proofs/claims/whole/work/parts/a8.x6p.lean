/-! SturmRoots: refine, checksum -/
/-- the half, or the midpoint, that keeps the one root -/
def nrwI (p : Nat → Int) (k : Nat) (lo hi : Int) : Int × Int := if sgnAt (stE p 0) (lo + hi) (k + 1) = 0 then (lo + hi, lo + hi) else if rIn p (k + 1) (2 * lo) (lo + hi) = 1 then (2 * lo, lo + hi) else (lo + hi, 2 * hi)
def rfn (p : Nat → Int) : Nat → Iv → Iv
  | 0, v => v
  | m + 1, v => if v.2.1 = v.2.2.1 then v else rfn p m (v.1 + 1, (nrwI p v.1 v.2.1 v.2.2.1).1, (nrwI p v.1 v.2.1 v.2.2.1).2, 1)
theorem stC_le {p : Nat → Int} (h : stLen p (stM p)) (n : Int) (k : Nat) : stC p n k ≤ 7 := Nat.le_trans (chg_le _ _) h.1
theorem rIn_b {p : Nat → Int} (h : stLen p (stM p)) (k : Nat) (lo hi : Int) : (rIn p k lo hi).natAbs ≤ 8 := by
  unfold rIn
  have h1 := stC_le h lo k
  have h2 := stC_le h hi k
  split
  · split <;> decide
  · split <;> omega
theorem nrw_b {p : Nat → Int} {k : Nat} {lo hi : Int} {B : Nat} (hlo : lo.natAbs ≤ B) (hhi : hi.natAbs ≤ B) : (nrwI p k lo hi).1.natAbs ≤ 2 * B ∧ (nrwI p k lo hi).2.natAbs ≤ 2 * B := by
  unfold nrwI
  split
  · dsimp only; omega
  · split
    · dsimp only; omega
    · dsimp only; omega
section X6P
variable {cA : Nat → ClassId} {D : va_G} {S : Nat → Nat → Nat} {h : mH} {x sl rw is lst n : Nat} {sa : Nat → Nat} {Sl : Nat → Nat → Int} {V : Nat → Iv} {src : Nat → Int} {l : Launch} {T : Nat → Prop} {P : Nat → Nat → Int} {G Ln : Nat → Nat}
theorem nrw_I {p : Nat → Int} (sq : sqIs 1 p P G Ln) (hpos : 0 < stM p) {k : Nat} {lo hi : Int} (hlo : lo.natAbs ≤ 2 ^ 27) (hhi : hi.natAbs ≤ 2 ^ 27) : nrw P Ln k (iI lo) (iI hi) = (iI (nrwI p k lo hi).1, iI (nrwI p k lo hi).2) := by
  unfold nrw nrwI
  rw [iI_add, iI_mul2, iI_mul2, (sq.2.2 0 hpos).1, iI_int (by omega), sq_I sq hpos (by omega) (by omega)]
  by_cases c : sgnAt (stE p 0) (lo + hi) (k + 1) = 0
  · rw [if_pos c, if_pos c]
  · rw [if_neg c, if_neg c]
    by_cases c2 : rIn p (k + 1) (2 * lo) (lo + hi) = 1
    · rw [if_pos (by rw [c2]; rfl), if_pos c2]
    · rw [if_neg (fun w => c2 (iI_inj (by have := rIn_b sq.1 (k + 1) (2 * lo) (lo + hi); omega) (by decide) (w.trans (iI_nat 1)))), if_neg c2]
end X6P
