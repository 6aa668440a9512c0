/-! the law: the two worlds in one heap -/
def LPW (cA : Nat → ClassId) (ou : Nat) (h hs hr : mH) (g : Nat → Int64) : Prop := (∀ a e, hs a = some e → h a = some e) ∧ (∀ a e, hr a = some e → h a = some e) ∧ (∀ a, hs a ≠ none → hr a = none) ∧ h ou = some (wO (cA 1) g) ∧ hs ou = none ∧ hr ou = none
section LPS
variable {cA : Nat → ClassId} {ou : Nat} {h hs hr : mH} {g : Nat → Int64}
theorem LPW_sub (hp : LPW cA ou h hs hr g) : ∀ a e, mup hs ou (wO (cA 1) g) a = some e → h a = some e := fun a e ha => by
  by_cases c : a = ou
  · rw [c, mup_self] at ha
    rw [c, ← ha]
    exact hp.2.2.2.1
  · rw [mup_ne c] at ha
    exact hp.1 a e ha
theorem LPW_c (hp : LPW cA ou h hs hr g) {h1 hs1 : mH} {g1 : Nat → Int64} (s1 : ∀ a e, hs1 a = some e → h1 a = some e) (s2 : hs1 ou = none) (s3 : h1 ou = some (wO (cA 1) g1)) (hn : ∀ a, mup hs ou (wO (cA 1) g) a = none → h a ≠ none → h1 a = none) : LPW cA ou (mjoin h (mup hs ou (wO (cA 1) g)) h1) hs1 hr g1 := by
  obtain ⟨p1, p2, p3, p4, p5, p6⟩ := hp
  have out : ∀ a, hs a = none → a ≠ ou → mup hs ou (wO (cA 1) g) a = none := fun a ha hb => by rw [mup_ne hb]; exact ha
  have rn : ∀ a e, hr a = some e → hs a = none ∧ a ≠ ou := fun a e ha => by
    refine ⟨?_, fun q => by rw [q, p6] at ha; cases ha⟩
    cases hq : hs a with
    | none => rfl
    | some y =>
      rw [p3 a (by rw [hq]; exact Option.some_ne_none y)] at ha
      cases ha
  refine ⟨fun a e ha => mjoin_l (s1 a e ha), fun a e ha => ?_, fun a ha => ?_, mjoin_l s3, s2, p6⟩
  · obtain ⟨q1, q2⟩ := rn a e ha
    exact mjoin_r hn (out a q1 q2) (p2 a e ha)
  · cases hq : hr a with
    | none => rfl
    | some y =>
      obtain ⟨q1, q2⟩ := rn a y hq
      have := hn a (out a q1 q2) (by rw [p2 a y hq]; exact Option.some_ne_none y)
      cases hz : hs1 a with
      | none => exact absurd hz ha
      | some w =>
        rw [s1 a w hz] at this
        cases this
theorem LPW_r (hp : LPW cA ou h hs hr g) {h1 : mH} (hn : ∀ a, hr a = none → h a ≠ none → h1 a = none) : LPW cA ou (mjoin h hr h1) hs h1 g := by
  obtain ⟨p1, p2, p3, p4, p5, p6⟩ := hp
  refine ⟨fun a e ha => ?_, fun a e ha => mjoin_l ha, fun a ha => ?_, mjoin_r hn p6 p4, p5, hn ou p6 (by rw [p4]; exact Option.some_ne_none _)⟩
  · exact mjoin_r hn (p3 a (by rw [ha]; exact Option.some_ne_none e)) (p1 a e ha)
  · cases hq : hs a with
    | none => exact absurd hq ha
    | some y => exact hn a (p3 a ha) (by rw [p1 a y hq]; exact Option.some_ne_none y)
theorem LPW_s (hp : LPW cA ou h hs hr g) {h1 : mH} (hn : ∀ a, hs a = none → h a ≠ none → h1 a = none) : LPW cA ou (mjoin h hs h1) h1 hr g := by
  obtain ⟨p1, p2, p3, p4, p5, p6⟩ := hp
  have rn : ∀ a e, hr a = some e → hs a = none := fun a e ha => by
    cases hq : hs a with
    | none => rfl
    | some y =>
      rw [p3 a (by rw [hq]; exact Option.some_ne_none y)] at ha
      cases ha
  refine ⟨fun a e ha => mjoin_l ha, fun a e ha => mjoin_r hn (rn a e ha) (p2 a e ha), fun a ha => ?_, mjoin_r hn p5 p4, hn ou p5 (by rw [p4]; exact Option.some_ne_none _), p6⟩
  cases hq : hr a with
  | none => rfl
  | some y => exact absurd (hn a (rn a y hq) (by rw [p2 a y hq]; exact Option.some_ne_none y)) ha
end LPS
section TBL
variable {z : mZ} {l : Launch} {R : Room} {D : va_G} {nL : Nat} {cells slots : Nat}
variable {cc : ByteArray} {own nm : String} {tys : List (ClassId × FieldType)} {ret : Option FieldType} {pc : Nat} {L : List (Option Value)} {st : List Value} {h : mH}
theorem zi_tableOut (X : zX z l D cc own tys nL ret R nm) {dflt lo hi : Int} {offs : Array Int} {len : Nat} {x : Int32} {tgt : Nat} (hdg : decode cc pc = .ok (.tableswitch dflt lo hi offs, len)) (hx : x.toInt < lo ∨ hi < x.toInt) (ht : (pc : Int) + dflt = (tgt : Int)) (k : zM z cells slots tgt L st h) : zM z cells slots pc L (.int x :: st) h := by
  obtain ⟨p, l1, e, R1, s, m, args, below, meth, c, D1, A0, H0, nL1, Q⟩ := z
  obtain ⟨e1, e2, e3, e4, e5, X⟩ := X
  subst e1 e2 e3 e4
  intro H locs ls hR hA hS hL
  exact lv_tableOut X.1 X.2.1 hdg hx ht (k H locs ls hR hA hS hL)
theorem zi_tableIn (X : zX z l D cc own tys nL ret R nm) {dflt lo hi : Int} {offs : Array Int} {len : Nat} {x : Int32} {off : Int} {tgt : Nat} (hdg : decode cc pc = .ok (.tableswitch dflt lo hi offs, len)) (h1 : ¬ x.toInt < lo) (h2 : ¬ hi < x.toInt) (ho : offs[(x.toInt - lo).toNat]? = some off) (ht : (pc : Int) + off = (tgt : Int)) (k : zM z cells slots tgt L st h) : zM z cells slots pc L (.int x :: st) h := by
  obtain ⟨p, l1, e, R1, s, m, args, below, meth, c, D1, A0, H0, nL1, Q⟩ := z
  obtain ⟨e1, e2, e3, e4, e5, X⟩ := X
  subst e1 e2 e3 e4
  intro H locs ls hR hA hS hL
  exact lv_tableIn X.1 X.2.1 hdg h1 h2 ho ht (k H locs ls hR hA hS hL)
/-- the script: it lay there before the law, and stays -/
def zB (z : mZ) (b n : Nat) (xs : Nat → Int32) : Prop := match z with
  | (_, _, _, _, s, _, _, _, _, _, _, A0, H0, _, _) => va_X b n xs s H0 ∧ b < H0.size ∧ ¬ A0 b
theorem zi_sld (X : zX z l D cc own tys nL ret R nm) {b n : Nat} {xs : Nat → Int32} (hB : zB z b n xs) {i : Int32} (hin : vp_in i n) (hdg : decode cc pc = .ok (.iaload, 1)) (k : zM z cells slots (pc + 1) L (.int (xs i.toNatClampNeg) :: st) h) : zM z cells slots pc L (.int i :: .ref b :: st) h := by
  obtain ⟨p, l1, e, R1, s, m, args, below, meth, c, D1, A0, H0, nL1, Q⟩ := z
  obtain ⟨e1, e2, e3, e4, e5, X⟩ := X
  subst e1 e2 e3 e4
  intro H locs ls hR hA hS hL
  exact va_sld X.1 X.2.1 hB.1 hB.2.1 hB.2.2 hS hin hdg (k H locs ls hR hA hS hL)
theorem zi_slen (X : zX z l D cc own tys nL ret R nm) {b n : Nat} {xs : Nat → Int32} (hB : zB z b n xs) (hdg : decode cc pc = .ok (.arraylength, 1)) (k : zM z cells slots (pc + 1) L (.int (nI n) :: st) h) : zM z cells slots pc L (.ref b :: st) h := by
  obtain ⟨p, l1, e, R1, s, m, args, below, meth, c, D1, A0, H0, nL1, Q⟩ := z
  obtain ⟨e1, e2, e3, e4, e5, X⟩ := X
  subst e1 e2 e3 e4
  intro H locs ls hR hA hS hL
  exact va_slen X.1 X.2.1 hB.1 hB.2.1 hB.2.2 hS hdg (k H locs ls hR hA hS hL)
end TBL
