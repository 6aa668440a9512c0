/-! Isolation: an interval read and written; numbers of roots by the sequence -/
def setV (V : Nat → Iv) (i : Nat) (v : Iv) : Nat → Iv := fun j => if j = i then v else V j
section ISO5
variable {cA : Nat → ClassId} {D : va_G} {S : Nat → Nat → Nat} {h : mH} {is lst n : Nat} {T : Nat → Prop} {V : Nat → Iv}
theorem iso_at (hI : isIso cA D S h is lst T n V) {i : Nat} (hi : i < n) : ∃ r e cap mc f, isLs cA D h lst e cap n mc f ∧ f i = some r ∧ h r = some (ivO (V i)) ∧ T r ∧ ¬ hIn S r ∧ ∀ h', (∀ a, T a ∨ a = is → h' a = h a) → ∀ v, isIso cA D S (mup h' r (ivO v)) is lst T n (setV V i v) := by
  obtain ⟨i0, e, cap, mc, f, rs, hs, hE, hel, hinj, t1, t2, t3, t4⟩ := hI
  have hc : cap ≠ 0 := by have := hs.2.2.1; omega
  have hr := hel i hi
  refine ⟨rs i, e, cap, mc, f, hs, hr.1, hr.2, t3 i hi, t4 _ (t3 i hi), fun h' hk v => ?_⟩
  have o : ∀ a x, h a = some x → (T a ∨ a = is) → (∀ w, x ≠ ivO w) → mup h' (rs i) (ivO v) a = some x := fun a x q1 q3 q2 => by
    rw [mup_ne (fun w => by rw [w, hr.2] at q1; exact q2 _ (Option.some.inj q1).symm), hk a q3]
    exact q1
  have he := (t2 hc).2
  refine ⟨o _ _ i0 (Or.inr rfl) (fun w q => by cases q), e, cap, mc, f, rs, ⟨o _ _ hs.1 (Or.inl t1) (fun w q => by cases q), Or.inr (o _ _ he (Or.inl (t2 hc).1) (fun w q => by cases q)), hs.2.2⟩, hE, fun j hj => ⟨(hel j hj).1, ?_⟩, hinj, t1, fun c => ⟨(t2 c).1, o _ _ he (Or.inl (t2 hc).1) (fun w q => by cases q)⟩, t3, t4⟩
  unfold setV
  by_cases c : j = i
  · rw [if_pos c, c]; exact mup_self
  · rw [if_neg c, mup_ne (fun w => c (hinj j i hj hi w)), hk _ (Or.inl (t3 j hj))]; exact (hel j hj).2
theorem isoFr_up {r : Nat} {x y : va_E} (hx : h r = some x) (ht : T r) : isoFr S T h (mup h r y) T := by
  refine ⟨fun _ w => Or.inl w, fun a z w _ w3 => by rw [mup_ne (fun q => w3 (by rw [q]; exact ht))]; exact w, fun a w => ?_⟩
  by_cases c : a = r
  · rw [c, mup_self] at w; cases w
  · rw [mup_ne c] at w; exact w
theorem hP_up {P : Nat → Nat → Int} {G Ln : Nat → Nat} {r : Nat} {x : va_E} (hh : hP cA S P G Ln h) (hr : ¬ hIn S r) : hP cA S P G Ln (mup h r x) := hP_keep hh (fun a w => mup_ne (fun q => hr (by rw [← q]; exact w)))
theorem hP_some {P : Nat → Nat → Int} {G Ln : Nat → Nat} (hh : hP cA S P G Ln h) : ∀ a, hIn S a → h a ≠ none := fun a w q => by
  obtain ⟨x, hx, -⟩ := hP_in hh w
  rw [q] at hx; cases hx
end ISO5
def stMr (p : Nat → Int) : Nat → Nat → Nat
  | 0, i => i
  | k + 1, i => if stI (stE p i) 7 = 0 then i else stMr p k (i + 1)
/-- the length of Sturm's sequence -/
def stM (p : Nat → Int) : Nat := stMr p 7 0
theorem stMr_eq {p : Nat → Int} {m : Nat} (hm : stLen p m) : ∀ k i, i + k = 7 → i ≤ m → stMr p k i = m
  | 0, i, h1, h2 => by unfold stMr; have := hm.1; omega
  | k + 1, i, h1, h2 => by
    unfold stMr
    by_cases c : i = m
    · rw [c, if_pos (hm.2.2 (by omega))]
    · rw [if_neg (hm.2.1 i (by omega))]
      exact stMr_eq hm k (i + 1) (by omega) (by omega)
theorem stLen_M {p : Nat → Int} {m : Nat} (hm : stLen p m) : stM p = m := stMr_eq hm 7 0 rfl (Nat.zero_le _)
/-- its sign changes at n / 2^k -/
def stC (p : Nat → Int) (n : Int) (k : Nat) : Nat := (chg (fun i => sgnAt (stE p i) n k) (stM p)).2
/-- the number of roots in an interval, as the program counts it -/
def rIn (p : Nat → Int) (k : Nat) (lo hi : Int) : Int := if lo = hi then (if sgnAt (stE p 0) hi k = 0 then 1 else 0) else (stC p lo k : Int) - (stC p hi k : Int) - (if sgnAt (stE p 0) hi k = 0 then 1 else 0)
/-- the sequence q is p's -/
def sqIs (q : Nat) (p : Nat → Int) (P : Nat → Nat → Int) (G Ln : Nat → Nat) : Prop := stLen p (stM p) ∧ Ln q = stM p ∧ ∀ i, i < stM p → P (sb q + i) = stE p i ∧ G (sb q + i) = stI (stE p i) 7
/-- its numbers are small -/
def MS : Nat := 2 ^ 320
def okE (p : Nat → Int) : Prop := ∀ i, i < stM p → ∀ t, t < 7 → (stE p i t).natAbs ≤ MS
theorem iI_sub (a b : Int) : iI a - iI b = iI (a - b) := (Int32.ofInt_sub a b).symm
theorem iI_add (a b : Int) : iI a + iI b = iI (a + b) := (Int32.ofInt_add a b).symm
theorem iI_mul2 (a : Int) : nI 2 * iI a = iI (2 * a) := (Int32.ofInt_mul 2 a).symm
theorem iI_neg (a : Int) : -iI a = iI (-a) := (Int32.ofInt_neg a).symm
theorem iI_nat (n : Nat) : nI n = iI (n : Int) := rfl
theorem iI_int {a : Int} (h : a.natAbs < 2147483648) : (iI a).toInt = a := Int32.toInt_ofInt_of_le (by omega) (by omega)
theorem iI_inj {a b : Int} (ha : a.natAbs < 2147483648) (hb : b.natAbs < 2147483648) (h : iI a = iI b) : a = b := by
  have := congrArg Int32.toInt h
  rwa [iI_int ha, iI_int hb] at this
section SQ
variable {p : Nat → Int} {P : Nat → Nat → Int} {G Ln : Nat → Nat} {q : Nat}
theorem sq_ok (hs : sqIs q p P G Ln) (hE : okE p) : sqOk P G Ln q MS := by
  refine ⟨by rw [hs.2.1]; exact hs.1.1, fun i hi => ?_⟩
  rw [hs.2.1] at hi
  have := hs.2.2 i hi
  rw [this.1, this.2]
  exact ⟨rfl, hE i hi⟩
theorem sq_C (hs : sqIs q p P G Ln) (n : Int) (k : Nat) : sqC P Ln q n k = stC p n k := by
  unfold sqC stC
  rw [hs.2.1]
  exact congrArg Prod.snd (chg_cong (fun i hi => by rw [(hs.2.2 i hi).1]))
theorem sq_I (hs : sqIs q p P G Ln) (h0 : 0 < stM p) {k : Nat} {lo hi : Int} (hlo : lo.natAbs < 2147483648) (hhi : hi.natAbs < 2147483648) : sqI P Ln q k (iI lo) (iI hi) = iI (rIn p k lo hi) := by
  unfold sqI rIn sqR
  rw [sq_C hs, sq_C hs, iI_int hlo, iI_int hhi, (hs.2.2 0 h0).1]
  have e0 : (if sgnAt (stE p 0) hi k = 0 then nI 1 else nI 0) = iI (if sgnAt (stE p 0) hi k = 0 then 1 else 0) := by split <;> rfl
  rw [e0]
  by_cases c : lo = hi
  · rw [if_pos (by rw [c]), if_pos c]
  · rw [if_neg (fun w => c (iI_inj hlo hhi w)), if_neg c, iI_nat, iI_nat, iI_sub, iI_sub]
end SQ
