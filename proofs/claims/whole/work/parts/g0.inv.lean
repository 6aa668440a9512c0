/-! the law's invariant -/
def aI (t : Nat) (A : AState) : Prop := (∀ i, i < 5 → bnd9 (A.1 i)) ∧ A.2.1 ≤ 2 * t + 1 ∧ (A.2.1 ≠ 0 → bnd9 A.2.2.2 ∧ stI A.2.2.2 7 ≠ 0) ∧ ∀ i, i < A.2.1 → ivOk (A.2.2.1 i) ∧ ivI (sqfP A.2.2.2) (A.2.2.1 i)
theorem aI_up {t : Nat} {A : AState} (h : aI t A) : aI (t + 1) A := ⟨h.1, by have := h.2.1; omega, h.2.2⟩
theorem aI_b {t : Nat} {A : AState} (h : aI t A) : ∀ i, i < 5 → bnd9 (A.1 i) := h.1
theorem aI_ok {t : Nat} {A : AState} (ht : t < 512) (h : aI t A) : aOk A := ⟨by have := h.2.1; omega, h.2.2.1, fun i hi => (h.2.2.2 i hi).1⟩
theorem aI_set {t : Nat} {Sl : Nat → Nat → Int} {n : Nat} {V : Nat → Iv} {src : Nat → Int} {m : Nat} {s : Nat → Int} (h : aI t (Sl, n, V, src)) (hs : bnd9 s) : aI (t + 1) (setS Sl m s, n, V, src) := by
  refine ⟨fun i hi => ?_, by have := h.2.1; (try dsimp only at this ⊢); omega, h.2.2⟩
  show bnd9 (if i = m then s else Sl i)
  split
  · exact hs
  · exact h.1 i hi
theorem tr_b {s : Nat → Int} (h : bnd9 s) : tr s = s := by
  funext k
  unfold tr
  split
  · rfl
  · exact (h.2 k (by omega)).symm
theorem tr_9 {s : Nat → Int} (h : st9 s) : bnd9 (tr s) := by
  refine ⟨fun k hk => ?_, fun k hk => ?_⟩
  · unfold tr
    rw [if_pos hk]; exact h k hk
  · unfold tr
    rw [if_neg (by omega)]
theorem rW_uT {cA : Nat → ClassId} {M : Nat → Nat → Nat} {th0 th n cap : Nat} {ln : Int32} {R : Nat → Nat} {Sl : Nat → Nat → Int} {kp src : Nat → Int} {V : Nat → Iv} {P : Nat → Nat → Int} {h1 : mH} (hk : n ≠ 0 → kp = src ∧ P 7 = frP src) (hu : uT cA M (nI th0, ln, nI n, R) kp cap n V P th Sl h1) : rW cA M th h1 (Sl, n, V, src) := by
  obtain ⟨P', h2, h3⟩ := hu
  exact ⟨ln, R, cap, P', kp, h2, fun q => ⟨(hk q).1, by rw [h3]; exact (hk q).2⟩⟩
theorem rW_uL {cA : Nat → ClassId} {M : Nat → Nat → Nat} {th0 th n cap : Nat} {ln : Int32} {R : Nat → Nat} {Sl : Nat → Nat → Int} {kp src : Nat → Int} {V : Nat → Iv} {P : Nat → Nat → Int} {h1 : mH} (hk : n ≠ 0 → kp = src ∧ P 7 = frP src) (hu : uL cA M (nI th0, ln, nI n, R) kp cap n V P th Sl h1) : rW cA M th h1 (Sl, n, V, src) := by
  obtain ⟨ln2, h2⟩ := hu
  exact rW_uT (th0 := th0) (ln := ln2) (R := R) hk h2
theorem ex_at {Es : List String} {i j : Nat} {E : String} (hn : Es.Nodup) (hi : Es[i]? = some E) (hj : Es[j]? = some E) : j = i := (List.getElem?_inj (List.getElem?_eq_some_iff.mp hj).1 hn).mp (hj.trans hi.symm)
theorem not_or2 {a b : Prop} (ha : a) (hb : b) : ¬ (¬ a ∨ ¬ b) := fun q => q.elim (fun w => w ha) (fun w => w hb)
theorem not_or3 {a b c : Prop} (ha : a) (hb : b) (hc : c) : ¬ (¬ a ∨ ¬ b ∨ ¬ c) := fun q => q.elim (fun w => w ha) (not_or2 hb hc)
