/-! SturmRoots: the world of an object: slots Sl, an isolation of src with the n intervals V -/
def isoK (n : Nat) (src : Nat → Int) (P : Nat → Nat → Int) (G Ln : Nat → Nat) : Prop := n ≠ 0 → P 14 = src ∧ G 14 = stI src 7 ∧ sqIs 1 (sqfP src) P G Ln
abbrev AState : Type := (Nat → Nat → Int) × Nat × (Nat → Iv) × (Nat → Int)
/-- the addresses of an object's parts -/
abbrev XAd : Type := Nat × Nat × Nat × Nat × Nat × (Nat → Nat)
def isWT (cA : Nat → ClassId) (D : va_G) (S : Nat → Nat → Nat) (X : XAd) (h : mH) (A : AState) (T : Nat → Prop) (P : Nat → Nat → Int) (G Ln : Nat → Nat) : Prop := match X, A with
  | (x, sl, rw, is, lst, sa), (Sl, n, V, src) => hP cA S P G Ln h ∧ isIso cA D S h is lst T n V ∧ own cA S T h x sl rw is sa Sl ∧ isoK n src P G Ln ∧ (∀ i k, i < 5 → 7 ≤ k → Sl i k = 0) ∧ ∀ j, j < 3 → G j = stI (P j) 7
def isW (cA : Nat → ClassId) (D : va_G) (S : Nat → Nat → Nat) (X : XAd) (h : mH) (A : AState) : Prop := ∃ T P G Ln, isWT cA D S X h A T P G Ln
def setS (Sl : Nat → Nat → Int) (i : Nat) (s : Nat → Int) : Nat → Nat → Int := fun j => if j = i then s else Sl j
/-- the first seven -/
def tr (r : Nat → Int) : Nat → Int := fun k => if k < 7 then r k else 0
section X6D
variable {cA : Nat → ClassId} {D : va_G} {S : Nat → Nat → Nat} {h : mH} {x sl rw is lst n : Nat} {sa : Nat → Nat} {Sl : Nat → Nat → Int} {V : Nat → Iv} {src : Nat → Int} {T : Nat → Prop} {P : Nat → Nat → Int} {G Ln : Nat → Nat}
theorem iso_up {a : Nat} {ev : va_E} (hI : isIso cA D S h is lst T n V) (hn : ¬ T a) (hi : a ≠ is) : isIso cA D S (mup h a ev) is lst T n V := by
  obtain ⟨i0, e, cap, mc, f, rs, ⟨s1, s2, s3, s4⟩, hE, hel, hinj, t1, t2, t3, t4⟩ := hI
  have k : ∀ b, T b → mup h a ev b = h b := fun b w => mup_ne (fun q => hn (by rw [← q]; exact w))
  refine ⟨by rw [mup_ne (Ne.symm hi)]; exact i0, e, cap, mc, f, rs, ⟨by rw [k _ t1]; exact s1, ?_, s3, s4⟩, hE, fun i hi => ⟨(hel i hi).1, by rw [k _ (t3 i hi)]; exact (hel i hi).2⟩, hinj, t1, fun c => ⟨(t2 c).1, by rw [k _ (t2 c).1]; exact (t2 c).2⟩, t3, t4⟩
  by_cases c : cap = 0
  · exact Or.inl ⟨hE c, c⟩
  · exact Or.inr (by rw [k _ (t2 c).1]; exact (t2 c).2)
theorem isWT_row (hw : isWT cA D S (x, sl, rw, is, lst, sa) h (Sl, n, V, src) T P G Ln) (g : Nat → Int64) : isWT cA D S (x, sl, rw, is, lst, sa) (mup h rw (rowA (cA 1) g)) (Sl, n, V, src) T P G Ln := by
  obtain ⟨hh, hI, ho, hk, hz, hg⟩ := hw
  have ho' := ho
  obtain ⟨hx, hsl, hsa, ⟨g0, hr⟩, hinj, hb, r1, r2, r3, r4⟩ := ho
  exact ⟨hP_up hh r3.1, iso_up hI r3.2 (fun w => by have := hI.1; rw [← w, hr] at this; cases this), own_row ho' g, hk, hz, hg⟩
theorem isWT_set (hw : isWT cA D S (x, sl, rw, is, lst, sa) h (Sl, n, V, src) T P G Ln) {i : Nat} (hi : i < 5) {r : Nat → Int} (hr : ∀ k, k < 7 → (r k).natAbs ≤ 9999) : isWT cA D S (x, sl, rw, is, lst, sa) (mup h (sa i) (slotA (cA 0) r)) (setS Sl i (tr r), n, V, src) T P G Ln := by
  obtain ⟨hh, hI, ho, hk, hz, hg⟩ := hw
  have ho' := ho
  obtain ⟨hx, hsl, hsa, ⟨g0, hr0⟩, hinj, hb, r1, r2, r3, r4⟩ := ho
  have e1 : slotA (cA 0) r = slotA (cA 0) (tr r) := slotA_cong (fun k hk => by unfold tr; rw [if_pos hk])
  refine ⟨hP_up hh (r4 i hi).1, iso_up hI (r4 i hi).2 (fun w => by have := hI.1; rw [← w, hsa i hi] at this; cases this), ?_, hk, fun j k hj hk => ?_, hg⟩
  · rw [e1]
    exact own_set ho' hi (fun k hk => by unfold tr; rw [if_pos hk]; exact hr k hk)
  · unfold setS
    by_cases c : j = i
    · rw [if_pos c]; unfold tr; rw [if_neg (by omega)]
    · rw [if_neg c]; exact hz j k hj hk
theorem own_fr {T1 : Nat → Prop} {h1 : mH} (ho : own cA S T h x sl rw is sa Sl) (hf : isoFr S T h h1 T1) : own cA S T1 h1 x sl rw is sa Sl := by
  obtain ⟨hx, hsl, hsa, ⟨g0, hr⟩, hinj, hb, r1, r2, r3, r4⟩ := ho
  have k : ∀ a e, h a = some e → ¬ hIn S a ∧ ¬ T a → h1 a = some e ∧ ¬ hIn S a ∧ ¬ T1 a := fun a e q w => ⟨hf.2.1 a e q w.1 w.2, w.1, fun w2 => by
    rcases hf.1 a w2 with w3 | w3
    · exact w.2 w3
    · rw [w3] at q; cases q⟩
  have kx := k _ _ hx r1
  have ksl := k _ _ hsl r2
  have kr := k _ _ hr r3
  exact ⟨kx.1, ksl.1, fun i hi => (k _ _ (hsa i hi) (r4 i hi)).1, ⟨g0, kr.1⟩, hinj, hb, kx.2, ksl.2, kr.2, fun i hi => (k _ _ (hsa i hi) (r4 i hi)).2⟩
/-- a call of the algebra's -/
theorem isWT_alg {P' : Nat → Nat → Int} {G' Ln' : Nat → Nat} {h1 : mH} (hw : isWT cA D S (x, sl, rw, is, lst, sa) h (Sl, n, V, src) T P G Ln) (hf : hfr S h1 h) (hh : hP cA S P' G' Ln' h1) (hk : isoK n src P' G' Ln') (hg : ∀ j, j < 3 → G' j = stI (P' j) 7) : isWT cA D S (x, sl, rw, is, lst, sa) h1 (Sl, n, V, src) T P' G' Ln' :=
  ⟨hh, iso_hfr hw.2.1 hw.1 hf, own_fr hw.2.2.1 (isoFr_hfr hf hh), hk, hw.2.2.2.2.1, hg⟩
theorem isoK_up (hk : isoK n src P G Ln) {P' : Nat → Nat → Int} {G' Ln' : Nat → Nat} (h1 : ∀ k, 14 ≤ k → P' k = P k ∧ G' k = G k) (h2 : Ln' 1 = Ln 1) : isoK n src P' G' Ln' := by
  intro w
  obtain ⟨a, b, c, d, e⟩ := hk w
  refine ⟨by rw [(h1 14 (by decide)).1]; exact a, by rw [(h1 14 (by decide)).2]; exact b, c, h2.trans d, fun i hi => ?_⟩
  have : 14 ≤ sb 1 + i := by show 14 ≤ 15 + i; omega
  rw [(h1 _ this).1, (h1 _ this).2]
  exact e i hi
theorem g3_up {p : Nat → Int} {j : Nat} (hg : ∀ j, j < 3 → G j = stI (P j) 7) : ∀ k, k < 3 → updN G j (stI p 7) k = stI (updP P j p k) 7 := fun k hk => by
  by_cases c : k = j
  · rw [c, updN_s, updP_s]
  · rw [updN_n c, updP_n c]; exact hg k hk
theorem g3_to {ks : List Nat} {P' : Nat → Nat → Int} {G' : Nat → Nat} (hg : ∀ j, j < 3 → G j = stI (P j) 7) (hu : upTo ks P' P G' G) (hk : ∀ k, k < 3 → k ∈ ks → G' k = stI (P' k) 7) : ∀ k, k < 3 → G' k = stI (P' k) 7 := fun k h => by
  by_cases c : k ∈ ks
  · exact hk k h c
  · rw [(hu k c).1, (hu k c).2]; exact hg k h
end X6D
