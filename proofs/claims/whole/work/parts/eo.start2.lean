/-! the start: what the Statement gives of the heap -/
section START2
variable {args : Array Value} {s : State}
def stF : List Cond := flatC (Jvm.Cond.and given_1 narrow_1)
theorem st_flat (h : (Jvm.Cond.and given_1 narrow_1).before args s = true) : ∀ w ∈ stF, w.before args s = true := flat_of_before _ h
theorem st_nc (h : ∀ w ∈ stF, w.before args s = true) : ∀ a ∈ mXs, ∀ b ∈ mXs, a ≠ b → va_Nc a b s := by
  have d : ∀ a ∈ mXs, ∀ b ∈ mXs, a = b ∨ Cond.not (.castable a b) ∈ stF := by decide +kernel
  intro a ha b hb hne
  rcases d a ha b hb with q | q
  · exact absurd q hne
  · exact va_Nc.of (h _ q)
theorem st_mir (h : ∀ w ∈ stF, w.before args s = true) : ∃ mi : Nat, va_Mi mALd mi s := va_Mi.of (h _ (by decide +kernel))
theorem st_zq1 {A : Nat → Prop} (hts : ∀ w ∈ lw_tbl, w.before args s = true) (h : ∀ w ∈ stF, w.before args s = true) (hA : ∀ a : Nat, a < s.heap.size → ¬ A a) : vx_Zq Bundle.tN "UNASSIGNED_STACK" Bundle.steD A s s.heap := vx_Zqof (hts _ (by decide +kernel)) (hts _ (by decide +kernel)) (h _ (by decide +kernel)) hA
theorem st_zq2 {A : Nat → Prop} (hts : ∀ w ∈ lw_tbl, w.before args s = true) (h : ∀ w ∈ stF, w.before args s = true) (hA : ∀ a : Nat, a < s.heap.size → ¬ A a) : vx_Zq Bundle.tN "SUPPRESSED_SENTINEL" Bundle.listD A s s.heap := vx_Zqof (hts _ (by decide +kernel)) (hts _ (by decide +kernel)) (h _ (by decide +kernel)) hA
theorem st_str (hts : ∀ w ∈ lw_tbl, w.before args s = true) (h : ∀ w ∈ stF, w.before args s = true) : ∀ q ∈ mStrs, ∃ sa, vk_R q.1 q.2.1 q.2.2 sa s := by
  have d : ∀ q ∈ mStrs, Cond.stringRef q.1 q.2.1 q.2.2 ∈ lw_tbl ∧ Cond.exactly (.string q.1 q.2.1) "java/lang/String" ∈ stF := by decide +kernel
  intro q hq
  obtain ⟨d1, d2⟩ := d q hq
  obtain ⟨sa, -, -, -, hsa, -⟩ := Cond.exactly_spec (h _ d2)
  exact ⟨sa, vk_R.of (hts _ d1) hsa⟩
end START2
