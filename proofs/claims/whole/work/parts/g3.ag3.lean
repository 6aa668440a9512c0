/-! the law's calls: class and reference agree (isolation, checksum) -/
theorem iv_B {v : Iv} (h : ivOk v) : ivB v := by
  have := iv_b h
  exact ⟨h.1, this.1, this.2, by have := h.2.2.2; omega⟩
theorem rb_iv {p : Nat → Int} (hp : bnd9 p) (h0 : stI p 7 ≠ 0) : ctOk (frP p) 0 (-(rBd p : Int)) (rBd p) := by
  have := rBd_ok hp.1 h0
  exact ct_ok hp h0 (dv_rf hp h0) (by omega) (by decide) (by rw [Nat.pow_zero]; omega) (by rw [Nat.pow_zero]; omega)
/-- the roots of an interval that the invariant has are few -/
theorem ivI_b {p : Nat → Int} (h0 : stI p 7 ≠ 0) {v : Iv} (h : ivI (sqfP p) v) : 0 ≤ v.2.2.2 ∧ v.2.2.2 ≤ 6 := by
  obtain ⟨h1, h2, h3⟩ := h
  by_cases c : v.2.1 = v.2.2.1
  · rw [h3 c]; decide
  · have b := rIn_bd h0 (k := v.1) (show v.2.1 < v.2.2.1 by omega)
    have s7 := stI_le (sqfP p) 7
    rw [h2]; omega
theorem ivOk_of {p : Nat → Int} (h0 : stI p 7 ≠ 0) {v : Iv} (h : ivI (sqfP p) v) (h1 : v.1 ≤ 12) (h2 : v.2.1.natAbs ≤ 16384 * 2 ^ v.1) (h3 : v.2.2.1.natAbs ≤ 16384 * 2 ^ v.1) : ivOk v := ⟨h1, h2, h3, by have := ivI_b h0 h; omega⟩
theorem rfN_b {kp p : Nat → Int} : ∀ (m : Nat) (v : Iv), v.1 + m ≤ 12 → v.2.1.natAbs ≤ 16384 * 2 ^ v.1 → v.2.2.1.natAbs ≤ 16384 * 2 ^ v.1 → (rfN kp p m v).1 ≤ 12 ∧ (rfN kp p m v).2.1.natAbs ≤ 16384 * 2 ^ (rfN kp p m v).1 ∧ (rfN kp p m v).2.2.1.natAbs ≤ 16384 * 2 ^ (rfN kp p m v).1
  | 0, v, h1, h2, h3 => ⟨by rw [rfN]; omega, h2, h3⟩
  | m + 1, v, h1, h2, h3 => by
    rw [rfN]
    split
    · have e : 16384 * 2 ^ (v.1 + 1) = 2 * (16384 * 2 ^ v.1) := by rw [Nat.pow_succ]; omega
      unfold rfX
      split
      · exact rfN_b m _ (by dsimp only; omega) (by dsimp only; rw [e]; omega) (by dsimp only; rw [e]; omega)
      · split
        · exact rfN_b m _ (by dsimp only; omega) (by dsimp only; rw [e]; omega) (by dsimp only; rw [e]; omega)
        · exact rfN_b m _ (by dsimp only; omega) (by dsimp only; rw [e]; omega) (by dsimp only; rw [e]; omega)
    · exact ⟨by omega, h2, h3⟩
theorem rU_cong {cA : Nat → ClassId} {M : Nat → Nat → Nat} {h : mH} {o : RO} {Sl : Nat → Nat → Int} {kp : Nat → Int} {cap n : Nat} {V W : Nat → Iv} {P : Nat → Nat → Int} (hu : rU cA M h o Sl kp cap n V P) (hV : ∀ i, i < n → V i = W i) : rU cA M h o Sl kp cap n W P := by
  obtain ⟨h1, h2, ⟨f, g1, g2, g3, g4, g5⟩, h4⟩ := hu
  exact ⟨h1, h2, ⟨f, g1, g2, g3, g4, fun i hi => by rw [← hV i hi]; exact g5 i hi⟩, h4⟩
theorem isV_n (t : Nat) : 1 ≤ 2 * (t + 1) + 1 := by omega
theorem isV_b {b : Nat} (h : b ≤ 16384) : (-(b : Int)).natAbs ≤ 16384 * 2 ^ 0 ∧ (b : Int).natAbs ≤ 16384 * 2 ^ 0 := by
  rw [Nat.pow_zero]; omega
theorem isV_ok {p : Nat → Int} (hp : bnd9 p) (h0 : stI p 7 ≠ 0) : ivOk (isV p 0) ∧ ivI (sqfP p) (isV p 0) ∧ (isV p 0).2.2.2 = rIn (sqfP p) 0 (-(rBd p : Int)) (rBd p) ∧ (fun _ => (0, -(rBd p : Int), (rBd p : Int), rIn (sqfP p) 0 (-(rBd p : Int)) (rBd p))) = isV p := by
  obtain ⟨_, r1, r2⟩ := rBd_ok hp.1 h0
  have e := ctI_eq hp.2 h0 (show -(rBd p : Int) < rBd p by omega) (rb_iv hp h0)
  have hiv : ivI (sqfP p) (isV p 0) := ⟨show -(rBd p : Int) ≤ rBd p by omega, e, fun q => by
    have q2 : -(rBd p : Int) = rBd p := q
    omega⟩
  have hb := isV_b r2
  refine ⟨ivOk_of h0 hiv (Nat.zero_le 12) hb.1 hb.2, hiv, e, ?_⟩
  unfold isV
  rw [e]
theorem isV_j {p s : Nat → Int} {j : Nat} (h : ivOk (isV p 0) ∧ ivI s (isV p 0)) : ivOk (isV p j) ∧ ivI s (isV p j) := by
  have e : isV p j = isV p 0 := by unfold isV; rfl
  rw [e]; exact h
section AG3
variable {l : Launch} {D : va_G} {cA : Nat → ClassId} {S : Nat → Nat → Nat} {Xa : XAd} {M : Nat → Nat → Nat} {t : Nat}
theorem ag_isolate (hl : l.stackTraces = false) (a1 : Int32) : Ag l D cA S Xa M (aI t) (aI (t + 1)) yX6_isolate cX6_isolate 2 .int (rmc 10 4 2516) Int32.toInt64 yX7_isolate cX7_isolate 3 .int (rmd 9) [eI, eM] [.int a1] := by
  intro A th hs hr hI hW hR
  obtain ⟨x, sl, rw, is, lst, sa⟩ := Xa
  obtain ⟨Sl, n, V, src⟩ := A
  obtain ⟨ln, R, cap, P, kp, hu, hk⟩ := hR
  have hu : rU cA M hr (nI th, ln, nI n, R) Sl kp cap n V P := hu
  have hk : n ≠ 0 → kp = src ∧ P 7 = frP src := hk
  have hb : ∀ i, i < 5 → bnd9 (Sl i) := aI_b hI
  have hsb : slB Sl := fun i k hi hk => (hb i hi).1 k hk
  have hI2 := aI_up hI
  refine ⟨_, _, _, x_isolate hl szAll hW, ?_, u_isolate l D hu hsb (fun i hi h0 => ⟨(dv_fr (hb i hi) h0 (dv_rf (hb i hi) h0)).1, rb_iv (hb i hi) h0⟩), ?_⟩
  · intro E h1 hp
    obtain ⟨_, hp⟩ := hp
    rcases hp with ⟨rfl, _⟩ | ⟨rfl, _⟩
    · exact List.mem_cons_self
    · exact List.mem_cons_of_mem _ (List.mem_cons_self)
  · intro k v hs1 r hr1 hx hy
    rcases hx with ⟨rfl, r0, rfl, hq⟩ | ⟨j, E, hj, rfl, hp⟩
    · obtain ⟨i, hi, rfl, h0, rfl, hw⟩ := hq
      rcases hy with ⟨q, _⟩ | ⟨i2, hi2, ei, hy⟩
      · exact absurd ⟨i, hi, rfl⟩ q
      · obtain rfl := nI_inj (by omega) (by omega) ei
        rcases hy with ⟨q, _⟩ | ⟨_, rfl, P', hu1, hP'⟩
        · exact absurd q h0
        · obtain ⟨v1, v2, e, eV⟩ := isV_ok (hb i hi) h0
          rw [eV] at hw
          have hI3 : aI (t + 1) (Sl, 1, isV (Sl i), Sl i) := ⟨hb, isV_n t, fun _ => ⟨hb i hi, h0⟩, fun j _ => isV_j (p := Sl i) (s := sqfP (Sl i)) (j := j) ⟨v1, v2⟩⟩
          have hR3 : rW cA M 0 hr1 (Sl, 1, isV (Sl i), Sl i) := ⟨ln, R, cap, P', Sl i, hu1, fun _ => ⟨rfl, hP'⟩⟩
          exact ⟨_, 0, hI3, hw, hR3, rfl, fun _ => by rw [e]⟩
    · obtain ⟨hw, hp⟩ := hp
      rcases hp with ⟨rfl, c⟩ | ⟨rfl, i, hi, rfl, h0⟩
      · obtain rfl := ex_at (i := 0) (by simp [eI, eA, eS, eM, eN]) rfl hj
        rcases hy with ⟨_, hu1⟩ | ⟨i2, hi2, ei, hy⟩
        · exact ⟨_, 1, hI2, hw, rW_uT hk hu1, rfl, fun q => absurd q (by decide)⟩
        · exact absurd ⟨i2, hi2, ei⟩ c
      · obtain rfl := ex_at (i := 1) (by simp [eI, eA, eS, eM, eN]) rfl hj
        rcases hy with ⟨q, _⟩ | ⟨i2, hi2, ei, hy⟩
        · exact absurd ⟨i, hi, rfl⟩ q
        · obtain rfl := nI_inj (by omega) (by omega) ei
          rcases hy with ⟨_, hu1⟩ | ⟨q, _⟩
          · exact ⟨_, 2, hI2, hw, rW_uT hk hu1, rfl, fun q => absurd q (by decide)⟩
          · exact absurd h0 q
theorem ag_rootsIn (hl : l.stackTraces = false) (ht : t < 512) (a1 : Int32) : Ag l D cA S Xa M (aI t) (aI (t + 1)) yX6_rootsIn cX6_rootsIn 2 .int (rmc 7 1 6) Int32.toInt64 yX7_rootsIn cX7_rootsIn 2 .int (rmd 2) [eI] [.int a1] := by
  intro A th hs hr hI hW hR
  obtain ⟨x, sl, rw, is, lst, sa⟩ := Xa
  obtain ⟨Sl, n, V, src⟩ := A
  obtain ⟨ln, R, cap, P, kp, hu, hk⟩ := hR
  have hu : rU cA M hr (nI th, ln, nI n, R) Sl kp cap n V P := hu
  have hk : n ≠ 0 → kp = src ∧ P 7 = frP src := hk
  have hb : ∀ i, i < 5 → bnd9 (Sl i) := aI_b hI
  have hsb : slB Sl := fun i k hi hk => (hb i hi).1 k hk
  have hI2 := aI_up hI
  have hA := aI_ok ht hI
  have hn : n ≤ 1035 := hA.1
  have hn2 : n ≤ 2 * t + 1 := hI.2.1
  have hsrc : n ≠ 0 → bnd9 src ∧ stI src 7 ≠ 0 := hI.2.2.1
  have hiv : ∀ i, i < n → ivOk (V i) ∧ ivI (sqfP src) (V i) := hI.2.2.2
  have hVB : ∀ i, i < n → ivB (V i) := fun i hi => iv_B (hiv i hi).1
  refine ⟨_, _, _, x_rootsIn hl hA hW, ?_, u_rootsIn l D hu rfl, ?_⟩
  · intro E h1 hp
    obtain ⟨_, rfl, _⟩ := hp
    exact List.mem_cons_self
  · intro k v hs1 r hr1 hx hy
    rcases hx with ⟨rfl, r0, rfl, hq⟩ | ⟨j, E, hj, rfl, hp⟩
    · obtain ⟨rfl, i, hi, rfl, rfl⟩ := hq
      rcases hy with ⟨q, _⟩ | ⟨i2, hi2, ei, rfl, hu1⟩
      · exact absurd ⟨i, hi, rfl⟩ q
      · obtain rfl := nI_inj (by omega) (by omega) ei
        exact ⟨_, 0, hI2, hW, rW_uT hk hu1, rfl, fun _ => rfl⟩
    · obtain ⟨rfl, rfl, c⟩ := hp
      obtain rfl := ex_at (i := 0) (by simp [eI, eA, eS, eM, eN]) rfl hj
      rcases hy with ⟨_, hu1⟩ | ⟨i2, hi2, ei, _⟩
      · exact ⟨_, 1, hI2, hW, rW_uT hk hu1, rfl, fun q => absurd q (by decide)⟩
      · exact absurd ⟨i2, hi2, ei⟩ c
theorem ag_interval (hl : l.stackTraces = false) (ht : t < 512) (a1 a2 : Int32) : Ag l D cA S Xa M (aI t) (aI (t + 1)) yX6_interval cX6_interval 4 .int (rmc 7 2 12) Int32.toInt64 yX7_interval cX7_interval 3 .int (rmd 2) [eI, eA] [.int a1, .int a2] := by
  intro A th hs hr hI hW hR
  obtain ⟨x, sl, rw, is, lst, sa⟩ := Xa
  obtain ⟨Sl, n, V, src⟩ := A
  obtain ⟨ln, R, cap, P, kp, hu, hk⟩ := hR
  have hu : rU cA M hr (nI th, ln, nI n, R) Sl kp cap n V P := hu
  have hk : n ≠ 0 → kp = src ∧ P 7 = frP src := hk
  have hb : ∀ i, i < 5 → bnd9 (Sl i) := aI_b hI
  have hsb : slB Sl := fun i k hi hk => (hb i hi).1 k hk
  have hI2 := aI_up hI
  have hA := aI_ok ht hI
  have hn : n ≤ 1035 := hA.1
  have hn2 : n ≤ 2 * t + 1 := hI.2.1
  have hsrc : n ≠ 0 → bnd9 src ∧ stI src 7 ≠ 0 := hI.2.2.1
  have hiv : ∀ i, i < n → ivOk (V i) ∧ ivI (sqfP src) (V i) := hI.2.2.2
  have hVB : ∀ i, i < n → ivB (V i) := fun i hi => iv_B (hiv i hi).1
  refine ⟨_, _, _, x_interval hl hA hW, ?_, u_interval l D hu rfl, ?_⟩
  · intro E h1 hp
    obtain ⟨_, hp⟩ := hp
    rcases hp with ⟨rfl, _⟩ | ⟨rfl, _⟩
    · exact List.mem_cons_self
    · exact List.mem_cons_of_mem _ (List.mem_cons_self)
  · intro k v hs1 r hr1 hx hy
    rcases hx with ⟨rfl, r0, rfl, hq⟩ | ⟨j, E, hj, rfl, hp⟩
    · obtain ⟨rfl, i, hi, rfl, hc⟩ := hq
      rcases hy with ⟨q, _⟩ | ⟨_, q1, q2, q3, _⟩ | ⟨i2, hi2, ei, hc2, hu1⟩
      · exact absurd ⟨i, hi, rfl⟩ q
      · rcases hc with ⟨c, _⟩ | ⟨c, _⟩ | ⟨c, _⟩
        · exact absurd c q1
        · exact absurd c q2
        · exact absurd c q3
      · obtain rfl := nI_inj (by omega) (by omega) ei
        refine ⟨_, 0, hI2, hW, rW_uT hk hu1, rfl, fun _ => ?_⟩
        rcases hc with ⟨c, rfl⟩ | ⟨c, rfl⟩ | ⟨c, rfl⟩ <;> rcases hc2 with ⟨d, rfl⟩ | ⟨d, rfl⟩ | ⟨d, rfl⟩ <;> first | rfl | (rw [c] at d; exact absurd d (by decide))
    · obtain ⟨rfl, hp⟩ := hp
      rcases hp with ⟨rfl, c⟩ | ⟨rfl, c1, c2, c3, c4⟩
      · obtain rfl := ex_at (i := 0) (by simp [eI, eA, eS, eM, eN]) rfl hj
        rcases hy with ⟨_, hu1⟩ | ⟨q, _⟩ | ⟨i2, hi2, ei, _⟩
        · exact ⟨_, 1, hI2, hW, rW_uT hk hu1, rfl, fun q => absurd q (by decide)⟩
        · exact absurd q c
        · exact absurd ⟨i2, hi2, ei⟩ c
      · obtain rfl := ex_at (i := 1) (by simp [eI, eA, eS, eM, eN]) rfl hj
        rcases hy with ⟨q, _⟩ | ⟨_, _, _, _, hu1⟩ | ⟨i2, hi2, ei, hc2, _⟩
        · exact absurd c1 q
        · exact ⟨_, 2, hI2, hW, rW_uT hk hu1, rfl, fun q => absurd q (by decide)⟩
        · rcases hc2 with ⟨d, _⟩ | ⟨d, _⟩ | ⟨d, _⟩
          · exact absurd d c2
          · exact absurd d c3
          · exact absurd d c4
theorem ag_bisect (hl : l.stackTraces = false) (ht : t < 512) (a1 : Int32) : Ag l D cA S Xa M (aI t) (aI (t + 1)) yX6_bisect cX6_bisect 3 .int (rmc 9 6 5020) Int32.toInt64 yX7_bisect cX7_bisect 7 .int (rmc 8 4 8192) [eI, eS] [.int a1] := by
  intro A th hs hr hI hW hR
  obtain ⟨x, sl, rw, is, lst, sa⟩ := Xa
  obtain ⟨Sl, n, V, src⟩ := A
  obtain ⟨ln, R, cap, P, kp, hu, hk⟩ := hR
  have hu : rU cA M hr (nI th, ln, nI n, R) Sl kp cap n V P := hu
  have hk : n ≠ 0 → kp = src ∧ P 7 = frP src := hk
  have hb : ∀ i, i < 5 → bnd9 (Sl i) := aI_b hI
  have hsb : slB Sl := fun i k hi hk => (hb i hi).1 k hk
  have hI2 := aI_up hI
  have hA := aI_ok ht hI
  have hn : n ≤ 1035 := hA.1
  have hn2 : n ≤ 2 * t + 1 := hI.2.1
  have hsrc : n ≠ 0 → bnd9 src ∧ stI src 7 ≠ 0 := hI.2.2.1
  have hiv : ∀ i, i < n → ivOk (V i) ∧ ivI (sqfP src) (V i) := hI.2.2.2
  have hVB : ∀ i, i < n → ivB (V i) := fun i hi => iv_B (hiv i hi).1
  refine ⟨_, _, _, x_bisect hl szAll hA hW, ?_, u_bisect l D hu rfl hn (fun q => by obtain ⟨k1, k2⟩ := hk (by omega); rw [k1]; exact ⟨(hsrc (by omega)).1.1, bnd_ev (hsrc (by omega)).1⟩) hVB (fun i hi => by rw [(hk (by omega)).2]; exact bs_ok (hsrc (by omega)).1 (hsrc (by omega)).2 (hiv i hi).2.1 (hiv i hi).1), ?_⟩
  · intro E h1 hp
    obtain ⟨_, hp⟩ := hp
    rcases hp with ⟨rfl, _⟩ | ⟨rfl, _⟩
    · exact List.mem_cons_self
    · exact List.mem_cons_of_mem _ (List.mem_cons_self)
  · intro k v hs1 r hr1 hx hy
    rcases hx with ⟨rfl, r0, rfl, hq⟩ | ⟨j, E, hj, rfl, hp⟩
    · obtain ⟨i, hi, rfl, hne, hl12, rfl, hw⟩ := hq
      rcases hy with ⟨q, _⟩ | ⟨i2, hi2, ei, hy⟩
      · exact absurd ⟨i, hi, rfl⟩ q
      · obtain rfl := nI_inj (by omega) (by omega) ei
        rcases hy with ⟨q, _⟩ | ⟨_, rfl, R', cap', P', hu1, hP'⟩
        · exact absurd ⟨hne, hl12⟩ q
        · obtain ⟨k1, k2⟩ := hk (by omega)
          obtain ⟨hs9, hs0⟩ := hsrc (by omega)
          subst k1
          have ok := bs_ok hs9 hs0 (hiv i hi).2.1 (hiv i hi).1
          obtain ⟨e1, e2, e3⟩ := spl_eq (V := V) (i := i) (n := n) hs9.2 hs0 rfl (hiv i hi).2 hne hl12 ok
          rw [k2] at hu1
          rw [e1, e2] at hw
          have ho : rsO kp (V i) ≤ 2 := by unfold rsO; split <;> decide
          refine ⟨_, 0, ⟨hb, by dsimp only; omega, fun _ => ⟨hs9, hs0⟩, fun j hj => ?_⟩, hw, ⟨_, _, _, P', kp, hu1, fun _ => ⟨rfl, by rw [hP', k2]⟩⟩, rfl, fun _ => by rw [e1]⟩
          (try dsimp only at hj ⊢)
          by_cases q1 : j < i
          · have : rsV kp (frP kp) (V i) V i j = V j := by unfold rsV; rw [if_pos q1]
            rw [this]
            exact hiv j (by omega)
          · by_cases q2 : j ≤ i + rsO kp (V i)
            · have h1 := e3 j (by omega) q2
              refine ⟨ivOk_of hs0 h1 ?_ ?_ ?_, h1⟩
              all_goals
                have e : 16384 * 2 ^ ((V i).1 + 1) = 2 * (16384 * 2 ^ (V i).1) := by rw [Nat.pow_succ]; omega
                have b1 := (hiv i hi).1.2.1
                have b2 := (hiv i hi).1.2.2.1
                unfold rsV
                rw [if_neg q1]
                split
                · dsimp only
                  first | omega | (rw [e]; omega)
                · split
                  · dsimp only
                    first | omega | (rw [e]; omega)
                  · rw [if_pos (by omega)]
                    dsimp only
                    first | omega | (rw [e]; omega)
            · have : rsV kp (frP kp) (V i) V i j = V (j - rsO kp (V i)) := by
                unfold rsV
                rw [if_neg q1, if_neg (by omega), if_neg (by omega), if_neg (by omega)]
              rw [this]
              exact hiv _ (by omega)
    · obtain ⟨rfl, hp⟩ := hp
      rcases hp with ⟨rfl, c⟩ | ⟨rfl, i, hi, rfl, c⟩
      · obtain rfl := ex_at (i := 0) (by simp [eI, eA, eS, eM, eN]) rfl hj
        rcases hy with ⟨_, hu1⟩ | ⟨i2, hi2, ei, _⟩
        · exact ⟨_, 1, hI2, hW, rW_uT hk hu1, rfl, fun q => absurd q (by decide)⟩
        · exact absurd ⟨i2, hi2, ei⟩ c
      · obtain rfl := ex_at (i := 1) (by simp [eI, eA, eS, eM, eN]) rfl hj
        rcases hy with ⟨q, _⟩ | ⟨i2, hi2, ei, hy⟩
        · exact absurd ⟨i, hi, rfl⟩ q
        · obtain rfl := nI_inj (by omega) (by omega) ei
          rcases hy with ⟨_, hu1⟩ | ⟨q, _⟩
          · exact ⟨_, 2, hI2, hW, rW_uT hk hu1, rfl, fun q => absurd q (by decide)⟩
          · exact absurd q c
theorem ag_refine (hl : l.stackTraces = false) (ht : t < 512) (a1 a2 : Int32) : Ag l D cA S Xa M (aI t) (aI (t + 1)) yX6_refine cX6_refine 5 .int (rmc 9 3 18) Int32.toInt64 yX7_refine cX7_refine 8 .int (rmd 8) [eI, eA, eS] [.int a1, .int a2] := by
  intro A th hs hr hI hW hR
  obtain ⟨x, sl, rw, is, lst, sa⟩ := Xa
  obtain ⟨Sl, n, V, src⟩ := A
  obtain ⟨ln, R, cap, P, kp, hu, hk⟩ := hR
  have hu : rU cA M hr (nI th, ln, nI n, R) Sl kp cap n V P := hu
  have hk : n ≠ 0 → kp = src ∧ P 7 = frP src := hk
  have hb : ∀ i, i < 5 → bnd9 (Sl i) := aI_b hI
  have hsb : slB Sl := fun i k hi hk => (hb i hi).1 k hk
  have hI2 := aI_up hI
  have hA := aI_ok ht hI
  have hn : n ≤ 1035 := hA.1
  have hn2 : n ≤ 2 * t + 1 := hI.2.1
  have hsrc : n ≠ 0 → bnd9 src ∧ stI src 7 ≠ 0 := hI.2.2.1
  have hiv : ∀ i, i < n → ivOk (V i) ∧ ivI (sqfP src) (V i) := hI.2.2.2
  have hVB : ∀ i, i < n → ivB (V i) := fun i hi => iv_B (hiv i hi).1
  refine ⟨_, _, _, x_refine hl szAll hA hW, ?_, u_refine l D hu rfl hn (fun q => by obtain ⟨k1, k2⟩ := hk (by omega); rw [k1]; exact ⟨(hsrc (by omega)).1.1, bnd_ev (hsrc (by omega)).1⟩) hVB (fun i m hi h1 h6 hc => by obtain ⟨k1, k2⟩ := hk (by omega); rw [k1, k2]; exact rf_ok (hsrc (by omega)).1 (hsrc (by omega)).2 m (V i) (hiv i hi).2.1 hc.2.2 (hiv i hi).1.2.1 (hiv i hi).1.2.2.1), ?_⟩
  · intro E h1 hp
    obtain ⟨_, hp⟩ := hp
    rcases hp with ⟨rfl, _⟩ | ⟨rfl, _⟩ | ⟨rfl, _⟩
    · exact List.mem_cons_self
    · exact List.mem_cons_of_mem _ (List.mem_cons_self)
    · exact List.mem_cons_of_mem _ (List.mem_cons_of_mem _ (List.mem_cons_self))
  · intro k v hs1 r hr1 hx hy
    rcases hx with ⟨rfl, r0, rfl, hq⟩ | ⟨j, E, hj, rfl, hp⟩
    · obtain ⟨i, m, hi, rfl, h1, h6, rfl, c1, c2, c3, rfl, hw⟩ := hq
      rcases hy with ⟨q, _⟩ | ⟨_, q, _⟩ | ⟨i2, m2, hi2, ei, g1, g6, em, hy⟩
      · exact absurd ⟨i, hi, rfl⟩ q
      · exact absurd (by rw [nI_int (by omega)]; omega) q
      · obtain rfl := nI_inj (by omega) (by omega) ei
        obtain rfl := nI_inj (by omega) (by omega) em
        rcases hy with ⟨q, _⟩ | ⟨_, rfl, hu1⟩
        · exact absurd ⟨c1, c2, c3⟩ q
        · obtain ⟨k1, k2⟩ := hk (by omega)
          obtain ⟨hs9, hs0⟩ := hsrc (by omega)
          subst k1
          have ok := rf_ok hs9 hs0 m (V i) (hiv i hi).2.1 c3 (hiv i hi).1.2.1 (hiv i hi).1.2.2.1
          obtain ⟨e1, e2, e3⟩ := rfn_eq hs9.2 hs0 m (V i) (hiv i hi).2 c1 ok
          rw [k2] at hu1
          rw [e1] at hw e2
          refine ⟨_, 0, ⟨hb, by dsimp only; omega, fun _ => ⟨hs9, hs0⟩, fun j hj => ?_⟩, hw, rW_uT (fun _ => ⟨rfl, k2⟩) hu1, rfl, fun _ => by rw [e1, k2]⟩
          (try dsimp only at hj ⊢)
          unfold setV
          split
          · have b := rfN_b (kp := kp) (p := frP kp) m (V i) c3 (hiv i hi).1.2.1 (hiv i hi).1.2.2.1
            exact ⟨ivOk_of hs0 e2 b.1 b.2.1 b.2.2, e2⟩
          · exact hiv j hj
    · obtain ⟨rfl, hp⟩ := hp
      rcases hp with ⟨rfl, c⟩ | ⟨rfl, c1, c2⟩ | ⟨rfl, i, m, hi, rfl, h1, h6, rfl, c⟩
      · obtain rfl := ex_at (i := 0) (by simp [eI, eA, eS, eM, eN]) rfl hj
        rcases hy with ⟨_, hu1⟩ | ⟨q, _⟩ | ⟨i2, m2, hi2, ei, _⟩
        · exact ⟨_, 1, hI2, hW, rW_uT hk hu1, rfl, fun q => absurd q (by decide)⟩
        · exact absurd q c
        · exact absurd ⟨i2, hi2, ei⟩ c
      · obtain rfl := ex_at (i := 1) (by simp [eI, eA, eS, eM, eN]) rfl hj
        rcases hy with ⟨q, _⟩ | ⟨_, _, hu1⟩ | ⟨i2, m2, hi2, ei, g1, g6, em, _⟩
        · exact absurd c1 q
        · exact ⟨_, 2, hI2, hW, rW_uT hk hu1, rfl, fun q => absurd q (by decide)⟩
        · exact absurd (by rw [em, nI_int (by omega)]; omega) c2
      · obtain rfl := ex_at (i := 2) (by simp [eI, eA, eS, eM, eN]) rfl hj
        rcases hy with ⟨q, _⟩ | ⟨_, q, _⟩ | ⟨i2, m2, hi2, ei, g1, g6, em, hy⟩
        · exact absurd ⟨i, hi, rfl⟩ q
        · exact absurd (by rw [nI_int (by omega)]; omega) q
        · obtain rfl := nI_inj (by omega) (by omega) ei
          obtain rfl := nI_inj (by omega) (by omega) em
          rcases hy with ⟨_, hu1⟩ | ⟨q, _⟩
          · exact ⟨_, 3, hI2, hW, rW_uT hk hu1, rfl, fun q => absurd q (by decide)⟩
          · exact absurd q c
theorem ag_multiplicity (hl : l.stackTraces = false) (ht : t < 512) (a1 : Int32) : Ag l D cA S Xa M (aI t) (aI (t + 1)) yX6_multiplicity cX6_multiplicity 5 .int (rmc 9 3 18) Int32.toInt64 yX7_multiplicity cX7_multiplicity 7 .int (rmd 9) [eI, eS] [.int a1] := by
  intro A th hs hr hI hW hR
  obtain ⟨x, sl, rw, is, lst, sa⟩ := Xa
  obtain ⟨Sl, n, V, src⟩ := A
  obtain ⟨ln, R, cap, P, kp, hu, hk⟩ := hR
  have hu : rU cA M hr (nI th, ln, nI n, R) Sl kp cap n V P := hu
  have hk : n ≠ 0 → kp = src ∧ P 7 = frP src := hk
  have hb : ∀ i, i < 5 → bnd9 (Sl i) := aI_b hI
  have hsb : slB Sl := fun i k hi hk => (hb i hi).1 k hk
  have hI2 := aI_up hI
  have hA := aI_ok ht hI
  have hn : n ≤ 1035 := hA.1
  have hn2 : n ≤ 2 * t + 1 := hI.2.1
  have hsrc : n ≠ 0 → bnd9 src ∧ stI src 7 ≠ 0 := hI.2.2.1
  have hiv : ∀ i, i < n → ivOk (V i) ∧ ivI (sqfP src) (V i) := hI.2.2.2
  have hVB : ∀ i, i < n → ivB (V i) := fun i hi => iv_B (hiv i hi).1
  refine ⟨_, _, _, x_multiplicity hl szAll hA hW, ?_, u_multiplicity l D hu rfl hn (fun q => by rw [(hk (by omega)).1]; exact (hsrc (by omega)).1.1) hVB (fun i hi => (hiv i hi).2.1) (fun i hi _ => by have := stI_le src 7; rw [(hk (by omega)).1]; exact mu_ok (hsrc (by omega)).1 (hsrc (by omega)).2 (hiv i hi).2.1 (hiv i hi).1 7 src (dv_rf (hsrc (by omega)).1 (hsrc (by omega)).2) this), ?_⟩
  · intro E h1 hp
    obtain ⟨_, hp⟩ := hp
    rcases hp with ⟨rfl, _⟩ | ⟨rfl, _⟩
    · exact List.mem_cons_self
    · exact List.mem_cons_of_mem _ (List.mem_cons_self)
  · intro k v hs1 r hr1 hx hy
    rcases hx with ⟨rfl, r0, rfl, hq⟩ | ⟨j, E, hj, rfl, hp⟩
    · obtain ⟨i, hi, rfl, c, rfl, hw⟩ := hq
      rcases hy with ⟨q, _⟩ | ⟨i2, hi2, ei, hy⟩
      · exact absurd ⟨i, hi, rfl⟩ q
      · obtain rfl := nI_inj (by omega) (by omega) ei
        rcases hy with ⟨q, _⟩ | ⟨_, rfl, hu1⟩
        · exact absurd c q
        · obtain ⟨k1, k2⟩ := hk (by omega)
          obtain ⟨hs9, hs0⟩ := hsrc (by omega)
          have s7 := stI_le src 7
          have hr : rIn (sqfP src) (V i).1 (V i).2.1 (V i).2.2.1 ≠ 0 := by rw [← (hiv i hi).2.2.1, c]; decide
          have s2 : 2 ≤ stI src 7 := Nat.not_lt.mp (fun q => hr (rIn_c hs0 (by omega) (hiv i hi).2.1))
          have e := mul_eq (hiv i hi).2.1 7 src hs9.2 s2 hr (mu_ok hs9 hs0 (hiv i hi).2.1 (hiv i hi).1 7 src (dv_rf hs9 hs0) s7)
          exact ⟨_, 0, hI2, hw, rW_uT hk hu1, rfl, fun _ => by rw [e, k1]⟩
    · obtain ⟨rfl, hp⟩ := hp
      rcases hp with ⟨rfl, c⟩ | ⟨rfl, i, hi, rfl, c⟩
      · obtain rfl := ex_at (i := 0) (by simp [eI, eA, eS, eM, eN]) rfl hj
        rcases hy with ⟨_, hu1⟩ | ⟨i2, hi2, ei, _⟩
        · exact ⟨_, 1, hI2, hW, rW_uT hk hu1, rfl, fun q => absurd q (by decide)⟩
        · exact absurd ⟨i2, hi2, ei⟩ c
      · obtain rfl := ex_at (i := 1) (by simp [eI, eA, eS, eM, eN]) rfl hj
        rcases hy with ⟨q, _⟩ | ⟨i2, hi2, ei, hy⟩
        · exact absurd ⟨i, hi, rfl⟩ q
        · obtain rfl := nI_inj (by omega) (by omega) ei
          rcases hy with ⟨_, hu1⟩ | ⟨q, _⟩
          · exact ⟨_, 2, hI2, hW, rW_uT hk hu1, rfl, fun q => absurd q (by decide)⟩
          · exact absurd q c
theorem ag_intervals (ht : t < 512) : Ag_intervals l D cA S Xa M (aI t) (aI (t + 1)) := by
  intro A th hs hr hI hW hR
  obtain ⟨x, sl, rw, is, lst, sa⟩ := Xa
  obtain ⟨Sl, n, V, src⟩ := A
  obtain ⟨ln, R, cap, P, kp, hu, hk⟩ := hR
  have hu : rU cA M hr (nI th, ln, nI n, R) Sl kp cap n V P := hu
  have hk : n ≠ 0 → kp = src ∧ P 7 = frP src := hk
  have hb : ∀ i, i < 5 → bnd9 (Sl i) := aI_b hI
  have hsb : slB Sl := fun i k hi hk => (hb i hi).1 k hk
  have hI2 := aI_up hI
  have hA := aI_ok ht hI
  have hn : n ≤ 1035 := hA.1
  have hn2 : n ≤ 2 * t + 1 := hI.2.1
  have hsrc : n ≠ 0 → bnd9 src ∧ stI src 7 ≠ 0 := hI.2.2.1
  have hiv : ∀ i, i < n → ivOk (V i) ∧ ivI (sqfP src) (V i) := hI.2.2.2
  have hVB : ∀ i, i < n → ivB (V i) := fun i hi => iv_B (hiv i hi).1
  refine ⟨_, _, x_intervals hW, u_intervals l D hu rfl, ?_⟩
  intro v hs1 r hr1 hq hy
  obtain ⟨rfl, rfl⟩ := hq
  obtain ⟨rfl, hu1⟩ := hy
  exact ⟨_, 0, hI2, hW, rW_uT hk hu1, rfl⟩
theorem ag_removeEmpty (ht : t < 512) : Ag_removeEmpty l D cA S Xa M (aI t) (aI (t + 1)) := by
  intro A th hs hr hI hW hR
  obtain ⟨x, sl, rw, is, lst, sa⟩ := Xa
  obtain ⟨Sl, n, V, src⟩ := A
  obtain ⟨ln, R, cap, P, kp, hu, hk⟩ := hR
  have hu : rU cA M hr (nI th, ln, nI n, R) Sl kp cap n V P := hu
  have hk : n ≠ 0 → kp = src ∧ P 7 = frP src := hk
  have hb : ∀ i, i < 5 → bnd9 (Sl i) := aI_b hI
  have hsb : slB Sl := fun i k hi hk => (hb i hi).1 k hk
  have hI2 := aI_up hI
  have hA := aI_ok ht hI
  have hn : n ≤ 1035 := hA.1
  have hn2 : n ≤ 2 * t + 1 := hI.2.1
  have hsrc : n ≠ 0 → bnd9 src ∧ stI src 7 ≠ 0 := hI.2.2.1
  have hiv : ∀ i, i < n → ivOk (V i) ∧ ivI (sqfP src) (V i) := hI.2.2.2
  have hVB : ∀ i, i < n → ivB (V i) := fun i hi => iv_B (hiv i hi).1
  refine ⟨_, _, x_removeEmpty hA hW, u_removeEmpty l D hu rfl hVB, ?_⟩
  intro v hs1 r hr1 hq hy
  obtain ⟨rfl, hw⟩ := hq
  obtain ⟨rfl, hu1⟩ := hy
  obtain ⟨d1, d2, d3⟩ := drp_eq n n V (Nat.le_refl n) (fun j hj => (ivI_b (hsrc (by omega)).2 (hiv j hj).2).1)
  rw [Nat.sub_self, Nat.zero_add] at d1
  have hle : cmpN V n ≤ n := cmpN_le V n
  rw [d1] at hw ⊢
  have hu2 := rU_cong (W := (drpV n n V).2) hu1 (fun i hi => (d2 i hi).symm)
  refine ⟨_, 0, ⟨hb, by dsimp only; omega, fun q => hsrc (by dsimp only at q; omega), fun j hj => ?_⟩, hw, ⟨_, _, _, P, kp, hu2, fun q => hk (by dsimp only at q; omega)⟩, rfl⟩
  (try dsimp only at hj ⊢)
  obtain ⟨i, hi, e⟩ := cmp_in V n j hj
  rw [d2 j hj, e]
  exact hiv i hi
theorem ag_checksum (ht : t < 512) : Ag_checksum l D cA S Xa M (aI t) (aI (t + 1)) := by
  intro A th hs hr hI hW hR
  obtain ⟨x, sl, rw, is, lst, sa⟩ := Xa
  obtain ⟨Sl, n, V, src⟩ := A
  obtain ⟨ln, R, cap, P, kp, hu, hk⟩ := hR
  have hu : rU cA M hr (nI th, ln, nI n, R) Sl kp cap n V P := hu
  have hk : n ≠ 0 → kp = src ∧ P 7 = frP src := hk
  have hb : ∀ i, i < 5 → bnd9 (Sl i) := aI_b hI
  have hsb : slB Sl := fun i k hi hk => (hb i hi).1 k hk
  have hI2 := aI_up hI
  have hA := aI_ok ht hI
  have hn : n ≤ 1035 := hA.1
  have hn2 : n ≤ 2 * t + 1 := hI.2.1
  have hsrc : n ≠ 0 → bnd9 src ∧ stI src 7 ≠ 0 := hI.2.2.1
  have hiv : ∀ i, i < n → ivOk (V i) ∧ ivI (sqfP src) (V i) := hI.2.2.2
  have hVB : ∀ i, i < n → ivB (V i) := fun i hi => iv_B (hiv i hi).1
  refine ⟨_, _, x_checksum hA hW, u_checksum (src := src) l D hu rfl hsb hVB, ?_⟩
  intro v hs1 r hr1 hq hy
  obtain ⟨rfl, rfl⟩ := hq
  obtain ⟨rfl, hu1⟩ := hy
  exact ⟨_, 0, hI2, hW, rW_uT hk hu1, rfl⟩
/-- everywhere -/
theorem ag_all (hl : l.stackTraces = false) (ht : t < 512) : AgAll l D cA S Xa M (aI t) (aI (t + 1)) := ⟨ag_set hl, ag_coefficient hl, ag_degree hl, ag_copy hl, ag_add hl, ag_multiply hl, ag_derivative hl, ag_shift hl, ag_reflect hl, ag_scale hl, ag_gcd hl, ag_squareFreePart hl, ag_sturmLength hl, ag_sturmCoefficient hl, ag_sturmDegree hl, ag_signChanges hl, ag_sign hl, ag_countDistinct hl, ag_countAll hl, ag_distinctRoots hl, ag_coefficientSignChanges hl, ag_isolate hl, ag_intervals ht, ag_rootsIn hl ht, fun a1 a2 => ag_interval hl ht a1 _, ag_bisect hl ht, ag_refine hl ht, ag_removeEmpty ht, ag_multiplicity hl ht, ag_isTrue hl, ag_checksum ht⟩
end AG3
