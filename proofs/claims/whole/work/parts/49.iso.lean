/-! SturmRoots$Isolation -/
def isoO (S : Nat → Nat → Nat) (prt : Nat) : va_E := .inr (7, [.ref (S 2 14), .ref prt, .ref (S 6 0), .ref (S 4 1)])
section ISO
variable {cA : Nat → ClassId} {S : Nat → Nat → Nat} {B : Nat → Int} {P : Nat → Nat → Int} {G Ln : Nat → Nat} {h : mH}
/-- an object of another class is none of the algebra's -/
theorem hA_obj (hh : hA cA S B G Ln h) {a ci : Nat} {fs : List Value} {e : va_E} (ha : h a = some (.inr (ci, fs))) (hci : ci ≠ 4 ∧ ci ≠ 5 ∧ ci ≠ 8 ∧ ci ≠ 9) : hA cA S B G Ln (mup h a e) ∧ hOut S a := by
  obtain ⟨a1, a2, a3, a4, a5⟩ := hh
  have o : ∀ b x, h b = some x → (∀ fs, x ≠ .inr (ci, fs)) → b ≠ a := fun b x q1 q2 q3 => by
    rw [q3, ha] at q1
    exact q2 fs (Option.some.inj q1).symm
  have n0 : ∀ n, n < 164 → S 0 n ≠ a := fun n hn => o _ _ (a1 n hn).1 (fun fs q => by cases q; exact hci.2.1 rfl)
  have n1 : ∀ n, n < 164 → S 1 n ≠ a := fun n hn => o _ _ (a1 n hn).2.1 (fun fs q => by cases q)
  have n2 : ∀ j, j < 22 → S 2 j ≠ a := fun j hj => o _ _ (a2 j hj).1 (fun fs q => by cases q; exact hci.2.2.1 rfl)
  have n3 : ∀ j, j < 22 → S 3 j ≠ a := fun j hj => o _ _ (a2 j hj).2 (fun fs q => by cases q)
  have n4 : ∀ q, q < 2 → S 4 q ≠ a := fun q hq => o _ _ (a3 q hq).1 (fun fs q => by cases q; exact hci.2.2.2 rfl)
  have n5 : ∀ q, q < 2 → S 5 q ≠ a := fun q hq => o _ _ (a3 q hq).2 (fun fs q => by cases q)
  have n6 : S 6 0 ≠ a := o _ _ a4 (fun fs q => by cases q; exact hci.1 rfl)
  refine ⟨⟨fun n hn => ⟨?_, ?_, (a1 n hn).2.2⟩, fun j hj => ⟨?_, ?_⟩, fun q hq => ⟨?_, ?_⟩, ?_, a5⟩, fun n hn => ⟨(n0 n hn).symm, (n1 n hn).symm⟩, fun j hj => (n2 j hj).symm, fun q hq => (n4 q hq).symm⟩
  · rw [mup_ne (n0 n hn)]; exact (a1 n hn).1
  · rw [mup_ne (n1 n hn)]; exact (a1 n hn).2.1
  · rw [mup_ne (n2 j hj)]; exact (a2 j hj).1
  · rw [mup_ne (n3 j hj)]; exact (a2 j hj).2
  · rw [mup_ne (n4 q hq)]; exact (a3 q hq).1
  · rw [mup_ne (n5 q hq)]; exact (a3 q hq).2
  · rw [mup_ne n6]; exact a4
theorem hP_obj (hh : hP cA S P G Ln h) {a ci : Nat} {fs : List Value} {e : va_E} (ha : h a = some (.inr (ci, fs))) (hci : ci ≠ 4 ∧ ci ≠ 5 ∧ ci ≠ 8 ∧ ci ≠ 9) : hP cA S P G Ln (mup h a e) := by
  obtain ⟨B, h1, h2⟩ := hh
  exact ⟨B, (hA_obj h1 ha hci).1, h2⟩
theorem hP_out (hh : hP cA S P G Ln h) {a ci : Nat} {fs : List Value} (ha : h a = some (.inr (ci, fs))) (hci : ci ≠ 4 ∧ ci ≠ 5 ∧ ci ≠ 8 ∧ ci ≠ 9) : hOut S a := by
  obtain ⟨B, h1, h2⟩ := hh
  exact (hA_obj (e := .inr (0, [])) h1 ha hci).2
end ISO
