/-! the law's calls: class and reference agree (slots) -/
section AG1
variable {l : Launch} {D : va_G} {cA : Nat → ClassId} {S : Nat → Nat → Nat} {Xa : XAd} {M : Nat → Nat → Nat} {t : Nat}
theorem ag_set (hl : l.stackTraces = false) (a1 a2 a3 : Int32) : Ag l D cA S Xa M (aI t) (aI (t + 1)) yX6_set cX6_set 4 .int (rmc 7 3 18) Int32.toInt64 yX7_set_ cX7_set_ 4 .int (rmd 2) [eI, eA] [.int a1, .int a2, .int a3] := by
  intro A th hs hr hI hW hR
  obtain ⟨x, sl, rw, is, lst, sa⟩ := Xa
  obtain ⟨Sl, n, V, src⟩ := A
  obtain ⟨ln, R, cap, P, kp, hu, hk⟩ := hR
  have hu : rU cA M hr (nI th, ln, nI n, R) Sl kp cap n V P := hu
  have hk : n ≠ 0 → kp = src ∧ P 7 = frP src := hk
  have hb : ∀ i, i < 5 → bnd9 (Sl i) := aI_b hI
  have hsb : slB Sl := fun i k hi hk => (hb i hi).1 k hk
  have hI2 := aI_up hI
  refine ⟨_, _, _, x_set hl hW, ?_, u_set l D hu hsb, ?_⟩
  · intro E h1 hp
    obtain ⟨_, hp⟩ := hp
    rcases hp with ⟨rfl, _⟩ | ⟨rfl, _⟩
    · exact List.mem_cons_self
    · exact List.mem_cons_of_mem _ (List.mem_cons_self)
  · intro k v hs1 r hr1 hx hy
    rcases hx with ⟨rfl, r0, rfl, hq⟩ | ⟨j, E, hj, rfl, hp⟩
    · obtain ⟨i, m, hi, rfl, hm, rfl, v1, v2, rfl, hw⟩ := hq
      rcases hy with ⟨q | q, _⟩ | ⟨_, _, q, _⟩ | ⟨i2, m2, hi2, ei, hm2, em, _, _, rfl, hu1⟩
      · exact absurd ⟨i, hi, rfl⟩ q
      · exact absurd ⟨m, hm, rfl⟩ q
      · exact absurd ⟨v1, v2⟩ q
      · obtain rfl := nI_inj (by omega) (by omega) ei
        obtain rfl := nI_inj (by omega) (by omega) em
        refine ⟨_, 0, aI_set hI ⟨fun j hj => ?_, fun j hj => ?_⟩, hw, rW_uT hk hu1, rfl, fun _ => rfl⟩
        · (try dsimp only); split
          · omega
          · exact (hb i hi).1 j hj
        · (try dsimp only); rw [if_neg (by omega)]; exact (hb i hi).2 j hj
    · obtain ⟨rfl, hp⟩ := hp
      rcases hp with ⟨rfl, c⟩ | ⟨rfl, c1, c2, c3⟩
      · obtain rfl := ex_at (i := 0) (by simp [eI, eA, eS, eM, eN]) rfl hj
        rcases hy with ⟨_, hu1⟩ | ⟨q1, q2, _⟩ | ⟨i2, m2, hi2, ei, hm2, em, _⟩
        · exact ⟨_, 1, hI2, hW, rW_uT hk hu1, rfl, fun q => absurd q (by decide)⟩
        · exact absurd c (not_or2 q1 q2)
        · exact absurd c (not_or2 ⟨i2, hi2, ei⟩ ⟨m2, hm2, em⟩)
      · obtain rfl := ex_at (i := 1) (by simp [eI, eA, eS, eM, eN]) rfl hj
        rcases hy with ⟨q, _⟩ | ⟨_, _, _, hu1⟩ | ⟨i2, m2, hi2, ei, hm2, em, v1, v2, _⟩
        · exact absurd q (not_or2 c1 c2)
        · exact ⟨_, 2, hI2, hW, rW_uT hk hu1, rfl, fun q => absurd q (by decide)⟩
        · exact absurd ⟨v1, v2⟩ c3
theorem ag_coefficient (hl : l.stackTraces = false) (a1 a2 : Int32) : Ag l D cA S Xa M (aI t) (aI (t + 1)) yX6_coefficient cX6_coefficient 3 .int (rmc 7 2 12) Int32.toInt64 yX7_coefficient cX7_coefficient 3 .int (rmd 2) [eI] [.int a1, .int a2] := by
  intro A th hs hr hI hW hR
  obtain ⟨x, sl, rw, is, lst, sa⟩ := Xa
  obtain ⟨Sl, n, V, src⟩ := A
  obtain ⟨ln, R, cap, P, kp, hu, hk⟩ := hR
  have hu : rU cA M hr (nI th, ln, nI n, R) Sl kp cap n V P := hu
  have hk : n ≠ 0 → kp = src ∧ P 7 = frP src := hk
  have hb : ∀ i, i < 5 → bnd9 (Sl i) := aI_b hI
  have hsb : slB Sl := fun i k hi hk => (hb i hi).1 k hk
  have hI2 := aI_up hI
  refine ⟨_, _, _, x_coefficient hl hW, ?_, u_coefficient l D hu, ?_⟩
  · intro E h1 hp
    obtain ⟨_, rfl, _⟩ := hp
    exact List.mem_cons_self
  · intro k v hs1 r hr1 hx hy
    rcases hx with ⟨rfl, r0, rfl, hq⟩ | ⟨j, E, hj, rfl, hp⟩
    · obtain ⟨rfl, i, m, hi, rfl, hm, rfl, rfl⟩ := hq
      rcases hy with ⟨q | q, _⟩ | ⟨i2, m2, hi2, ei, hm2, em, rfl, hu1⟩
      · exact absurd ⟨i, hi, rfl⟩ q
      · exact absurd ⟨m, hm, rfl⟩ q
      · obtain rfl := nI_inj (by omega) (by omega) ei
        obtain rfl := nI_inj (by omega) (by omega) em
        exact ⟨_, 0, hI2, hW, rW_uT hk hu1, rfl, fun _ => rfl⟩
    · obtain ⟨rfl, rfl, c⟩ := hp
      obtain rfl := ex_at (i := 0) (by simp [eI, eA, eS, eM, eN]) rfl hj
      rcases hy with ⟨_, hu1⟩ | ⟨i2, m2, hi2, ei, hm2, em, _⟩
      · exact ⟨_, 1, hI2, hW, rW_uT hk hu1, rfl, fun q => absurd q (by decide)⟩
      · exact absurd c (not_or2 ⟨i2, hi2, ei⟩ ⟨m2, hm2, em⟩)
theorem ag_degree (hl : l.stackTraces = false) (a1 : Int32) : Ag l D cA S Xa M (aI t) (aI (t + 1)) yX6_degree cX6_degree 2 .int (rmc 7 1 6) Int32.toInt64 yX7_degree__ cX7_degree__ 2 .int (rmd 2) [eI] [.int a1] := by
  intro A th hs hr hI hW hR
  obtain ⟨x, sl, rw, is, lst, sa⟩ := Xa
  obtain ⟨Sl, n, V, src⟩ := A
  obtain ⟨ln, R, cap, P, kp, hu, hk⟩ := hR
  have hu : rU cA M hr (nI th, ln, nI n, R) Sl kp cap n V P := hu
  have hk : n ≠ 0 → kp = src ∧ P 7 = frP src := hk
  have hb : ∀ i, i < 5 → bnd9 (Sl i) := aI_b hI
  have hsb : slB Sl := fun i k hi hk => (hb i hi).1 k hk
  have hI2 := aI_up hI
  refine ⟨_, _, _, x_degree hl hW, ?_, u_degree l D hu hsb, ?_⟩
  · intro E h1 hp
    obtain ⟨_, rfl, _⟩ := hp
    exact List.mem_cons_self
  · intro k v hs1 r hr1 hx hy
    rcases hx with ⟨rfl, r0, rfl, hq⟩ | ⟨j, E, hj, rfl, hp⟩
    · obtain ⟨rfl, i, hi, rfl, rfl⟩ := hq
      rcases hy with ⟨q, _⟩ | ⟨i2, hi2, ei, rfl, hu1⟩
      · exact absurd ⟨i, hi, rfl⟩ q
      · obtain rfl := nI_inj (by omega) (by omega) ei
        exact ⟨_, 0, hI2, hW, rW_uT hk hu1, rfl, fun _ => rfl⟩
    · obtain ⟨rfl, rfl, c⟩ := hp
      obtain rfl := ex_at (i := 0) (by simp [eI, eA, eS, eM, eN]) rfl hj
      rcases hy with ⟨_, hu1⟩ | ⟨i2, hi2, ei, _⟩
      · exact ⟨_, 1, hI2, hW, rW_uT hk hu1, rfl, fun q => absurd q (by decide)⟩
      · exact absurd ⟨i2, hi2, ei⟩ c
theorem ag_copy (hl : l.stackTraces = false) (a1 a2 : Int32) : Ag l D cA S Xa M (aI t) (aI (t + 1)) yX6_copy cX6_copy 3 .int (rmc 7 2 12) Int32.toInt64 yX7_copy__ cX7_copy__ 4 .int (rmd 3) [eI] [.int a1, .int a2] := by
  intro A th hs hr hI hW hR
  obtain ⟨x, sl, rw, is, lst, sa⟩ := Xa
  obtain ⟨Sl, n, V, src⟩ := A
  obtain ⟨ln, R, cap, P, kp, hu, hk⟩ := hR
  have hu : rU cA M hr (nI th, ln, nI n, R) Sl kp cap n V P := hu
  have hk : n ≠ 0 → kp = src ∧ P 7 = frP src := hk
  have hb : ∀ i, i < 5 → bnd9 (Sl i) := aI_b hI
  have hsb : slB Sl := fun i k hi hk => (hb i hi).1 k hk
  have hI2 := aI_up hI
  refine ⟨_, _, _, x_copy hl hW, ?_, u_copy l D hu hsb, ?_⟩
  · intro E h1 hp
    obtain ⟨_, rfl, _⟩ := hp
    exact List.mem_cons_self
  · intro k v hs1 r hr1 hx hy
    rcases hx with ⟨rfl, r0, rfl, hq⟩ | ⟨j, E, hj, rfl, hp⟩
    · obtain ⟨i, m, hi, rfl, hm, rfl, rfl, hw⟩ := hq
      rcases hy with ⟨q | q, _⟩ | ⟨i2, m2, hi2, ei, hm2, em, rfl, hu1⟩
      · exact absurd ⟨i, hi, rfl⟩ q
      · exact absurd ⟨m, hm, rfl⟩ q
      · obtain rfl := nI_inj (by omega) (by omega) ei
        obtain rfl := nI_inj (by omega) (by omega) em
        rw [tr_b (hb i hi)] at hu1
        exact ⟨_, 0, aI_set hI (hb i hi), hw, rW_uT hk hu1, rfl, fun _ => rfl⟩
    · obtain ⟨rfl, rfl, c⟩ := hp
      obtain rfl := ex_at (i := 0) (by simp [eI, eA, eS, eM, eN]) rfl hj
      rcases hy with ⟨_, hu1⟩ | ⟨i2, m2, hi2, ei, hm2, em, _⟩
      · exact ⟨_, 1, hI2, hW, rW_uT hk hu1, rfl, fun q => absurd q (by decide)⟩
      · exact absurd c (not_or2 ⟨i2, hi2, ei⟩ ⟨m2, hm2, em⟩)
theorem ag_reflect (hl : l.stackTraces = false) (a1 a2 : Int32) : Ag l D cA S Xa M (aI t) (aI (t + 1)) yX6_reflect cX6_reflect 4 .int (rmc 7 2 12) Int32.toInt64 yX7_reflect cX7_reflect 4 .int (rmd 3) [eI] [.int a1, .int a2] := by
  intro A th hs hr hI hW hR
  obtain ⟨x, sl, rw, is, lst, sa⟩ := Xa
  obtain ⟨Sl, n, V, src⟩ := A
  obtain ⟨ln, R, cap, P, kp, hu, hk⟩ := hR
  have hu : rU cA M hr (nI th, ln, nI n, R) Sl kp cap n V P := hu
  have hk : n ≠ 0 → kp = src ∧ P 7 = frP src := hk
  have hb : ∀ i, i < 5 → bnd9 (Sl i) := aI_b hI
  have hsb : slB Sl := fun i k hi hk => (hb i hi).1 k hk
  have hI2 := aI_up hI
  refine ⟨_, _, _, x_reflect hl hW, ?_, u_reflect l D hu hsb, ?_⟩
  · intro E h1 hp
    obtain ⟨_, rfl, _⟩ := hp
    exact List.mem_cons_self
  · intro k v hs1 r hr1 hx hy
    rcases hx with ⟨rfl, r0, rfl, hq⟩ | ⟨j, E, hj, rfl, hp⟩
    · obtain ⟨i, m, hi, rfl, hm, rfl, rfl, hw⟩ := hq
      rcases hy with ⟨q | q, _⟩ | ⟨i2, m2, hi2, ei, hm2, em, rfl, hu1⟩
      · exact absurd ⟨i, hi, rfl⟩ q
      · exact absurd ⟨m, hm, rfl⟩ q
      · obtain rfl := nI_inj (by omega) (by omega) ei
        obtain rfl := nI_inj (by omega) (by omega) em
        refine ⟨_, 0, aI_set hI (tr_9 (fun j hj => ?_)), hw, rW_uT hk hu1, rfl, fun _ => rfl⟩
        have := (hb i hi).1 j hj
        unfold rfP
        split <;> omega
    · obtain ⟨rfl, rfl, c⟩ := hp
      obtain rfl := ex_at (i := 0) (by simp [eI, eA, eS, eM, eN]) rfl hj
      rcases hy with ⟨_, hu1⟩ | ⟨i2, m2, hi2, ei, hm2, em, _⟩
      · exact ⟨_, 1, hI2, hW, rW_uT hk hu1, rfl, fun q => absurd q (by decide)⟩
      · exact absurd c (not_or2 ⟨i2, hi2, ei⟩ ⟨m2, hm2, em⟩)
theorem ag_add (hl : l.stackTraces = false) (a1 a2 a3 : Int32) : Ag l D cA S Xa M (aI t) (aI (t + 1)) yX6_add cX6_add 5 .int (rmc 7 4 24) Int32.toInt64 yX7_add_ cX7_add_ 5 .int (rmd 3) [eI, eS] [.int a1, .int a2, .int a3] := by
  intro A th hs hr hI hW hR
  obtain ⟨x, sl, rw, is, lst, sa⟩ := Xa
  obtain ⟨Sl, n, V, src⟩ := A
  obtain ⟨ln, R, cap, P, kp, hu, hk⟩ := hR
  have hu : rU cA M hr (nI th, ln, nI n, R) Sl kp cap n V P := hu
  have hk : n ≠ 0 → kp = src ∧ P 7 = frP src := hk
  have hb : ∀ i, i < 5 → bnd9 (Sl i) := aI_b hI
  have hsb : slB Sl := fun i k hi hk => (hb i hi).1 k hk
  have hI2 := aI_up hI
  refine ⟨_, _, _, x_add hl hW, ?_, u_add l D hu hsb, ?_⟩
  · intro E h1 hp
    obtain ⟨_, hp⟩ := hp
    rcases hp with ⟨rfl, _⟩ | ⟨rfl, _⟩
    · exact List.mem_cons_self
    · exact List.mem_cons_of_mem _ (List.mem_cons_self)
  · intro k v hs1 r hr1 hx hy
    rcases hx with ⟨rfl, r0, rfl, hq⟩ | ⟨j, E, hj, rfl, hp⟩
    · obtain ⟨i, m, o, hi, rfl, hm, rfl, ho, rfl, c, rfl, hw⟩ := hq
      rcases hy with ⟨q | q | q, _⟩ | ⟨i2, m2, o2, hi2, ei, hm2, em, ho2, eo, hy⟩
      · exact absurd ⟨i, hi, rfl⟩ q
      · exact absurd ⟨m, hm, rfl⟩ q
      · exact absurd ⟨o, ho, rfl⟩ q
      · obtain rfl := nI_inj (by omega) (by omega) ei
        obtain rfl := nI_inj (by omega) (by omega) em
        obtain rfl := nI_inj (by omega) (by omega) eo
        rcases hy with ⟨_, rfl, hu1⟩ | ⟨q, _⟩
        · exact ⟨_, 0, aI_set hI (tr_9 c), hw, rW_uT hk hu1, rfl, fun _ => rfl⟩
        · exact absurd c q
    · obtain ⟨hw, hp⟩ := hp
      rcases hp with ⟨rfl, c⟩ | ⟨rfl, i, m, o, hi, rfl, hm, rfl, ho, rfl, c⟩
      · obtain rfl := ex_at (i := 0) (by simp [eI, eA, eS, eM, eN]) rfl hj
        rcases hy with ⟨_, hu1⟩ | ⟨i2, m2, o2, hi2, ei, hm2, em, ho2, eo, _⟩
        · exact ⟨_, 1, hI2, hw, rW_uT hk hu1, rfl, fun q => absurd q (by decide)⟩
        · exact absurd c (not_or3 ⟨i2, hi2, ei⟩ ⟨m2, hm2, em⟩ ⟨o2, ho2, eo⟩)
      · obtain rfl := ex_at (i := 1) (by simp [eI, eA, eS, eM, eN]) rfl hj
        rcases hy with ⟨q, _⟩ | ⟨i2, m2, o2, hi2, ei, hm2, em, ho2, eo, hy⟩
        · exact absurd q (not_or3 ⟨i, hi, rfl⟩ ⟨m, hm, rfl⟩ ⟨o, ho, rfl⟩)
        · obtain rfl := nI_inj (by omega) (by omega) ei
          obtain rfl := nI_inj (by omega) (by omega) em
          obtain rfl := nI_inj (by omega) (by omega) eo
          rcases hy with ⟨q, _⟩ | ⟨_, hu1⟩
          · exact absurd q c
          · exact ⟨_, 2, hI2, hw, rW_uT hk hu1, rfl, fun q => absurd q (by decide)⟩
theorem ag_multiply (hl : l.stackTraces = false) (a1 a2 a3 : Int32) : Ag l D cA S Xa M (aI t) (aI (t + 1)) yX6_multiply cX6_multiply 8 .int (rmc 7 4 24) Int32.toInt64 yX7_multiply_ cX7_multiply_ 6 .int (rmd 3) [eI, eS] [.int a1, .int a2, .int a3] := by
  intro A th hs hr hI hW hR
  obtain ⟨x, sl, rw, is, lst, sa⟩ := Xa
  obtain ⟨Sl, n, V, src⟩ := A
  obtain ⟨ln, R, cap, P, kp, hu, hk⟩ := hR
  have hu : rU cA M hr (nI th, ln, nI n, R) Sl kp cap n V P := hu
  have hk : n ≠ 0 → kp = src ∧ P 7 = frP src := hk
  have hb : ∀ i, i < 5 → bnd9 (Sl i) := aI_b hI
  have hsb : slB Sl := fun i k hi hk => (hb i hi).1 k hk
  have hI2 := aI_up hI
  refine ⟨_, _, _, x_multiply hl hW, ?_, u_multiply l D hu hsb, ?_⟩
  · intro E h1 hp
    obtain ⟨_, hp⟩ := hp
    rcases hp with ⟨rfl, _⟩ | ⟨rfl, _⟩
    · exact List.mem_cons_self
    · exact List.mem_cons_of_mem _ (List.mem_cons_self)
  · intro k v hs1 r hr1 hx hy
    rcases hx with ⟨rfl, r0, rfl, hq⟩ | ⟨j, E, hj, rfl, hp⟩
    · obtain ⟨i, m, o, hi, rfl, hm, rfl, ho, rfl, c, rfl, hw⟩ := hq
      rcases hy with ⟨q | q | q, _⟩ | ⟨i2, m2, o2, hi2, ei, hm2, em, ho2, eo, hy⟩
      · exact absurd ⟨i, hi, rfl⟩ q
      · exact absurd ⟨m, hm, rfl⟩ q
      · exact absurd ⟨o, ho, rfl⟩ q
      · obtain rfl := nI_inj (by omega) (by omega) ei
        obtain rfl := nI_inj (by omega) (by omega) em
        obtain rfl := nI_inj (by omega) (by omega) eo
        rcases hy with ⟨_, rfl, hu1⟩ | ⟨q, _⟩
        · exact ⟨_, 0, aI_set hI (tr_9 c.2), hw, rW_uT hk hu1, rfl, fun _ => rfl⟩
        · exact absurd c q
    · obtain ⟨hw, hp⟩ := hp
      rcases hp with ⟨rfl, c⟩ | ⟨rfl, i, m, o, hi, rfl, hm, rfl, ho, rfl, c⟩
      · obtain rfl := ex_at (i := 0) (by simp [eI, eA, eS, eM, eN]) rfl hj
        rcases hy with ⟨_, hu1⟩ | ⟨i2, m2, o2, hi2, ei, hm2, em, ho2, eo, _⟩
        · exact ⟨_, 1, hI2, hw, rW_uT hk hu1, rfl, fun q => absurd q (by decide)⟩
        · exact absurd c (not_or3 ⟨i2, hi2, ei⟩ ⟨m2, hm2, em⟩ ⟨o2, ho2, eo⟩)
      · obtain rfl := ex_at (i := 1) (by simp [eI, eA, eS, eM, eN]) rfl hj
        rcases hy with ⟨q, _⟩ | ⟨i2, m2, o2, hi2, ei, hm2, em, ho2, eo, hy⟩
        · exact absurd q (not_or3 ⟨i, hi, rfl⟩ ⟨m, hm, rfl⟩ ⟨o, ho, rfl⟩)
        · obtain rfl := nI_inj (by omega) (by omega) ei
          obtain rfl := nI_inj (by omega) (by omega) em
          obtain rfl := nI_inj (by omega) (by omega) eo
          rcases hy with ⟨q, _⟩ | ⟨_, hu1⟩
          · exact absurd q c
          · exact ⟨_, 2, hI2, hw, rW_uT hk hu1, rfl, fun q => absurd q (by decide)⟩
theorem ag_gcd (hl : l.stackTraces = false) (a1 a2 a3 : Int32) : Ag l D cA S Xa M (aI t) (aI (t + 1)) yX6_gcd cX6_gcd 4 .int (rmc 8 4 24) Int32.toInt64 yX7_gcd cX7_gcd 4 .int (rmd 8) [eI, eS] [.int a1, .int a2, .int a3] := by
  intro A th hs hr hI hW hR
  obtain ⟨x, sl, rw, is, lst, sa⟩ := Xa
  obtain ⟨Sl, n, V, src⟩ := A
  obtain ⟨ln, R, cap, P, kp, hu, hk⟩ := hR
  have hu : rU cA M hr (nI th, ln, nI n, R) Sl kp cap n V P := hu
  have hk : n ≠ 0 → kp = src ∧ P 7 = frP src := hk
  have hb : ∀ i, i < 5 → bnd9 (Sl i) := aI_b hI
  have hsb : slB Sl := fun i k hi hk => (hb i hi).1 k hk
  have hI2 := aI_up hI
  refine ⟨_, _, _, x_gcd hl szAll hW, ?_, u_gcd l D hu hsb (fun i j hi hj => gcR_ok (bas_9 (hb i hi) (hb j hj)) (bas_9 (hb j hj) (hb i hi))), ?_⟩
  · intro E h1 hp
    obtain ⟨_, hp⟩ := hp
    rcases hp with ⟨rfl, _⟩ | ⟨rfl, _⟩
    · exact List.mem_cons_self
    · exact List.mem_cons_of_mem _ (List.mem_cons_self)
  · intro k v hs1 r hr1 hx hy
    rcases hx with ⟨rfl, r0, rfl, hq⟩ | ⟨j, E, hj, rfl, hp⟩
    · obtain ⟨i, m, o, hi, rfl, hm, rfl, ho, rfl, c, rfl, hw⟩ := hq
      rcases hy with ⟨q | q | q, _⟩ | ⟨i2, m2, o2, hi2, ei, hm2, em, ho2, eo, hy⟩
      · exact absurd ⟨i, hi, rfl⟩ q
      · exact absurd ⟨m, hm, rfl⟩ q
      · exact absurd ⟨o, ho, rfl⟩ q
      · obtain rfl := nI_inj (by omega) (by omega) ei
        obtain rfl := nI_inj (by omega) (by omega) em
        obtain rfl := nI_inj (by omega) (by omega) eo
        rw [gcR_eq (hb i hi).2 (hb m hm).2] at hy
        rcases hy with ⟨_, rfl, hu1⟩ | ⟨q, _⟩
        · exact ⟨_, 0, aI_set hI (tr_9 c), hw, rW_uT hk hu1, rfl, fun _ => rfl⟩
        · exact absurd c q
    · obtain ⟨hw, hp⟩ := hp
      rcases hp with ⟨rfl, c⟩ | ⟨rfl, i, m, o, hi, rfl, hm, rfl, ho, rfl, c⟩
      · obtain rfl := ex_at (i := 0) (by simp [eI, eA, eS, eM, eN]) rfl hj
        rcases hy with ⟨_, hu1⟩ | ⟨i2, m2, o2, hi2, ei, hm2, em, ho2, eo, _⟩
        · exact ⟨_, 1, hI2, hw, rW_uT hk hu1, rfl, fun q => absurd q (by decide)⟩
        · exact absurd c (not_or3 ⟨i2, hi2, ei⟩ ⟨m2, hm2, em⟩ ⟨o2, ho2, eo⟩)
      · obtain rfl := ex_at (i := 1) (by simp [eI, eA, eS, eM, eN]) rfl hj
        rcases hy with ⟨q, _⟩ | ⟨i2, m2, o2, hi2, ei, hm2, em, ho2, eo, hy⟩
        · exact absurd q (not_or3 ⟨i, hi, rfl⟩ ⟨m, hm, rfl⟩ ⟨o, ho, rfl⟩)
        · obtain rfl := nI_inj (by omega) (by omega) ei
          obtain rfl := nI_inj (by omega) (by omega) em
          obtain rfl := nI_inj (by omega) (by omega) eo
          rw [gcR_eq (hb i hi).2 (hb m hm).2] at hy
          rcases hy with ⟨q, _⟩ | ⟨_, hu1⟩
          · exact absurd q c
          · exact ⟨_, 2, hI2, hw, rW_uT hk hu1, rfl, fun q => absurd q (by decide)⟩
theorem ag_derivative (hl : l.stackTraces = false) (a1 a2 : Int32) : Ag l D cA S Xa M (aI t) (aI (t + 1)) yX6_derivative cX6_derivative 4 .int (rmc 7 3 18) Int32.toInt64 yX7_derivative cX7_derivative 4 .int (rmd 3) [eI, eS] [.int a1, .int a2] := by
  intro A th hs hr hI hW hR
  obtain ⟨x, sl, rw, is, lst, sa⟩ := Xa
  obtain ⟨Sl, n, V, src⟩ := A
  obtain ⟨ln, R, cap, P, kp, hu, hk⟩ := hR
  have hu : rU cA M hr (nI th, ln, nI n, R) Sl kp cap n V P := hu
  have hk : n ≠ 0 → kp = src ∧ P 7 = frP src := hk
  have hb : ∀ i, i < 5 → bnd9 (Sl i) := aI_b hI
  have hsb : slB Sl := fun i k hi hk => (hb i hi).1 k hk
  have hI2 := aI_up hI
  refine ⟨_, _, _, x_derivative hl hW, ?_, u_derivative l D hu hsb, ?_⟩
  · intro E h1 hp
    obtain ⟨_, hp⟩ := hp
    rcases hp with ⟨rfl, _⟩ | ⟨rfl, _⟩
    · exact List.mem_cons_self
    · exact List.mem_cons_of_mem _ (List.mem_cons_self)
  · intro k v hs1 r hr1 hx hy
    rcases hx with ⟨rfl, r0, rfl, hq⟩ | ⟨j, E, hj, rfl, hp⟩
    · obtain ⟨i, m, hi, rfl, hm, rfl, c, rfl, hw⟩ := hq
      rcases hy with ⟨q | q, _⟩ | ⟨i2, m2, hi2, ei, hm2, em, hy⟩
      · exact absurd ⟨i, hi, rfl⟩ q
      · exact absurd ⟨m, hm, rfl⟩ q
      · obtain rfl := nI_inj (by omega) (by omega) ei
        obtain rfl := nI_inj (by omega) (by omega) em
        rcases hy with ⟨_, rfl, hu1⟩ | ⟨q, _⟩
        · exact ⟨_, 0, aI_set hI (tr_9 c), hw, rW_uT hk hu1, rfl, fun _ => rfl⟩
        · exact absurd c q
    · obtain ⟨hw, hp⟩ := hp
      rcases hp with ⟨rfl, c⟩ | ⟨rfl, i, m, hi, rfl, hm, rfl, c⟩
      · obtain rfl := ex_at (i := 0) (by simp [eI, eA, eS, eM, eN]) rfl hj
        rcases hy with ⟨_, hu1⟩ | ⟨i2, m2, hi2, ei, hm2, em, _⟩
        · exact ⟨_, 1, hI2, hw, rW_uT hk hu1, rfl, fun q => absurd q (by decide)⟩
        · exact absurd c (not_or2 ⟨i2, hi2, ei⟩ ⟨m2, hm2, em⟩)
      · obtain rfl := ex_at (i := 1) (by simp [eI, eA, eS, eM, eN]) rfl hj
        rcases hy with ⟨q, _⟩ | ⟨i2, m2, hi2, ei, hm2, em, hy⟩
        · exact absurd q (not_or2 ⟨i, hi, rfl⟩ ⟨m, hm, rfl⟩)
        · obtain rfl := nI_inj (by omega) (by omega) ei
          obtain rfl := nI_inj (by omega) (by omega) em
          rcases hy with ⟨q, _⟩ | ⟨_, hu1⟩
          · exact absurd q c
          · exact ⟨_, 2, hI2, hw, rW_uT hk hu1, rfl, fun q => absurd q (by decide)⟩
theorem ag_shift (hl : l.stackTraces = false) (a1 a2 a3 : Int32) : Ag l D cA S Xa M (aI t) (aI (t + 1)) yX6_shift cX6_shift 6 .int (rmc 7 3 18) Int32.toInt64 yX7_shift cX7_shift 6 .int (rmd 3) [eI, eA, eS] [.int a1, .int a2, .int a3] := by
  intro A th hs hr hI hW hR
  obtain ⟨x, sl, rw, is, lst, sa⟩ := Xa
  obtain ⟨Sl, n, V, src⟩ := A
  obtain ⟨ln, R, cap, P, kp, hu, hk⟩ := hR
  have hu : rU cA M hr (nI th, ln, nI n, R) Sl kp cap n V P := hu
  have hk : n ≠ 0 → kp = src ∧ P 7 = frP src := hk
  have hb : ∀ i, i < 5 → bnd9 (Sl i) := aI_b hI
  have hsb : slB Sl := fun i k hi hk => (hb i hi).1 k hk
  have hI2 := aI_up hI
  refine ⟨_, _, _, x_shift hl hW, ?_, u_shift l D hu hsb, ?_⟩
  · intro E h1 hp
    obtain ⟨_, hp⟩ := hp
    rcases hp with ⟨rfl, _⟩ | ⟨rfl, _⟩ | ⟨rfl, _⟩
    · exact List.mem_cons_self
    · exact List.mem_cons_of_mem _ (List.mem_cons_self)
    · exact List.mem_cons_of_mem _ (List.mem_cons_of_mem _ (List.mem_cons_self))
  · intro k v hs1 r hr1 hx hy
    rcases hx with ⟨rfl, r0, rfl, hq⟩ | ⟨j, E, hj, rfl, hp⟩
    · obtain ⟨i, m, hi, rfl, hm, rfl, f, c, rfl, hw⟩ := hq
      rcases hy with ⟨q | q, _⟩ | ⟨_, _, q, _⟩ | ⟨i2, m2, hi2, ei, hm2, em, _, hy⟩
      · exact absurd ⟨i, hi, rfl⟩ q
      · exact absurd ⟨m, hm, rfl⟩ q
      · exact absurd f q
      · obtain rfl := nI_inj (by omega) (by omega) ei
        obtain rfl := nI_inj (by omega) (by omega) em
        rcases hy with ⟨_, rfl, hu1⟩ | ⟨q, _⟩
        · exact ⟨_, 0, aI_set hI (tr_9 c), hw, rW_uT hk hu1, rfl, fun _ => rfl⟩
        · exact absurd c q
    · obtain ⟨hw, hp⟩ := hp
      rcases hp with ⟨rfl, c⟩ | ⟨rfl, c1, c2, c3⟩ | ⟨rfl, i, m, hi, rfl, hm, rfl, f, c⟩
      · obtain rfl := ex_at (i := 0) (by simp [eI, eA, eS, eM, eN]) rfl hj
        rcases hy with ⟨_, hu1⟩ | ⟨q1, q2, _⟩ | ⟨i2, m2, hi2, ei, hm2, em, _⟩
        · exact ⟨_, 1, hI2, hw, rW_uT hk hu1, rfl, fun q => absurd q (by decide)⟩
        · exact absurd c (not_or2 q1 q2)
        · exact absurd c (not_or2 ⟨i2, hi2, ei⟩ ⟨m2, hm2, em⟩)
      · obtain rfl := ex_at (i := 1) (by simp [eI, eA, eS, eM, eN]) rfl hj
        rcases hy with ⟨q, _⟩ | ⟨_, _, _, hu1⟩ | ⟨i2, m2, hi2, ei, hm2, em, f, _⟩
        · exact absurd q (not_or2 c1 c2)
        · exact ⟨_, 2, hI2, hw, rW_uT hk hu1, rfl, fun q => absurd q (by decide)⟩
        · exact absurd f c3
      · obtain rfl := ex_at (i := 2) (by simp [eI, eA, eS, eM, eN]) rfl hj
        rcases hy with ⟨q, _⟩ | ⟨_, _, q, _⟩ | ⟨i2, m2, hi2, ei, hm2, em, _, hy⟩
        · exact absurd q (not_or2 ⟨i, hi, rfl⟩ ⟨m, hm, rfl⟩)
        · exact absurd f q
        · obtain rfl := nI_inj (by omega) (by omega) ei
          obtain rfl := nI_inj (by omega) (by omega) em
          rcases hy with ⟨q, _⟩ | ⟨_, hu1⟩
          · exact absurd q c
          · exact ⟨_, 3, hI2, hw, rW_uT hk hu1, rfl, fun q => absurd q (by decide)⟩
theorem ag_scale (hl : l.stackTraces = false) (a1 a2 a3 : Int32) : Ag l D cA S Xa M (aI t) (aI (t + 1)) yX6_scale cX6_scale 7 .int (rmc 7 3 18) Int32.toInt64 yX7_scale cX7_scale 7 .int (rmd 3) [eI, eA, eS] [.int a1, .int a2, .int a3] := by
  intro A th hs hr hI hW hR
  obtain ⟨x, sl, rw, is, lst, sa⟩ := Xa
  obtain ⟨Sl, n, V, src⟩ := A
  obtain ⟨ln, R, cap, P, kp, hu, hk⟩ := hR
  have hu : rU cA M hr (nI th, ln, nI n, R) Sl kp cap n V P := hu
  have hk : n ≠ 0 → kp = src ∧ P 7 = frP src := hk
  have hb : ∀ i, i < 5 → bnd9 (Sl i) := aI_b hI
  have hsb : slB Sl := fun i k hi hk => (hb i hi).1 k hk
  have hI2 := aI_up hI
  refine ⟨_, _, _, x_scale hl hW, ?_, u_scale l D hu hsb, ?_⟩
  · intro E h1 hp
    obtain ⟨_, hp⟩ := hp
    rcases hp with ⟨rfl, _⟩ | ⟨rfl, _⟩ | ⟨rfl, _⟩
    · exact List.mem_cons_self
    · exact List.mem_cons_of_mem _ (List.mem_cons_self)
    · exact List.mem_cons_of_mem _ (List.mem_cons_of_mem _ (List.mem_cons_self))
  · intro k v hs1 r hr1 hx hy
    rcases hx with ⟨rfl, r0, rfl, hq⟩ | ⟨j, E, hj, rfl, hp⟩
    · obtain ⟨i, m, hi, rfl, hm, rfl, f, c, rfl, hw⟩ := hq
      rcases hy with ⟨q | q, _⟩ | ⟨_, _, q, _⟩ | ⟨i2, m2, hi2, ei, hm2, em, _, hy⟩
      · exact absurd ⟨i, hi, rfl⟩ q
      · exact absurd ⟨m, hm, rfl⟩ q
      · exact absurd f q
      · obtain rfl := nI_inj (by omega) (by omega) ei
        obtain rfl := nI_inj (by omega) (by omega) em
        rcases hy with ⟨_, rfl, hu1⟩ | ⟨q, _⟩
        · exact ⟨_, 0, aI_set hI (tr_9 c), hw, rW_uT hk hu1, rfl, fun _ => rfl⟩
        · exact absurd c q
    · obtain ⟨hw, hp⟩ := hp
      rcases hp with ⟨rfl, c⟩ | ⟨rfl, c1, c2, c3⟩ | ⟨rfl, i, m, hi, rfl, hm, rfl, f, c⟩
      · obtain rfl := ex_at (i := 0) (by simp [eI, eA, eS, eM, eN]) rfl hj
        rcases hy with ⟨_, hu1⟩ | ⟨q1, q2, _⟩ | ⟨i2, m2, hi2, ei, hm2, em, _⟩
        · exact ⟨_, 1, hI2, hw, rW_uT hk hu1, rfl, fun q => absurd q (by decide)⟩
        · exact absurd c (not_or2 q1 q2)
        · exact absurd c (not_or2 ⟨i2, hi2, ei⟩ ⟨m2, hm2, em⟩)
      · obtain rfl := ex_at (i := 1) (by simp [eI, eA, eS, eM, eN]) rfl hj
        rcases hy with ⟨q, _⟩ | ⟨_, _, _, hu1⟩ | ⟨i2, m2, hi2, ei, hm2, em, f, _⟩
        · exact absurd q (not_or2 c1 c2)
        · exact ⟨_, 2, hI2, hw, rW_uT hk hu1, rfl, fun q => absurd q (by decide)⟩
        · exact absurd f c3
      · obtain rfl := ex_at (i := 2) (by simp [eI, eA, eS, eM, eN]) rfl hj
        rcases hy with ⟨q, _⟩ | ⟨_, _, q, _⟩ | ⟨i2, m2, hi2, ei, hm2, em, _, hy⟩
        · exact absurd q (not_or2 ⟨i, hi, rfl⟩ ⟨m, hm, rfl⟩)
        · exact absurd f q
        · obtain rfl := nI_inj (by omega) (by omega) ei
          obtain rfl := nI_inj (by omega) (by omega) em
          rcases hy with ⟨q, _⟩ | ⟨_, hu1⟩
          · exact absurd q c
          · exact ⟨_, 3, hI2, hw, rW_uT hk hu1, rfl, fun q => absurd q (by decide)⟩
theorem ag_squareFreePart (hl : l.stackTraces = false) (a1 a2 : Int32) : Ag l D cA S Xa M (aI t) (aI (t + 1)) yX6_squareFreePart cX6_squareFreePart 3 .int (rmc 8 4 24) Int32.toInt64 yX7_squareFreePart cX7_squareFreePart 3 .int (rmd 9) [eI, eM, eS] [.int a1, .int a2] := by
  intro A th hs hr hI hW hR
  obtain ⟨x, sl, rw, is, lst, sa⟩ := Xa
  obtain ⟨Sl, n, V, src⟩ := A
  obtain ⟨ln, R, cap, P, kp, hu, hk⟩ := hR
  have hu : rU cA M hr (nI th, ln, nI n, R) Sl kp cap n V P := hu
  have hk : n ≠ 0 → kp = src ∧ P 7 = frP src := hk
  have hb : ∀ i, i < 5 → bnd9 (Sl i) := aI_b hI
  have hsb : slB Sl := fun i k hi hk => (hb i hi).1 k hk
  have hI2 := aI_up hI
  refine ⟨_, _, _, x_squareFreePart hl szAll hW, ?_, u_squareFreePart l D hu hsb (fun i hi h0 => ⟨(dv_fr (hb i hi) h0 (dv_rf (hb i hi) h0)).1, (dv_fr (hb i hi) h0 (dv_rf (hb i hi) h0)).2.1⟩), ?_⟩
  · intro E h1 hp
    obtain ⟨_, hp⟩ := hp
    rcases hp with ⟨rfl, _⟩ | ⟨rfl, _⟩ | ⟨rfl, _⟩
    · exact List.mem_cons_self
    · exact List.mem_cons_of_mem _ (List.mem_cons_self)
    · exact List.mem_cons_of_mem _ (List.mem_cons_of_mem _ (List.mem_cons_self))
  · intro k v hs1 r hr1 hx hy
    rcases hx with ⟨rfl, r0, rfl, hq⟩ | ⟨j, E, hj, rfl, hp⟩
    · obtain ⟨i, m, hi, rfl, hm, rfl, h0, c, rfl, hw⟩ := hq
      rcases hy with ⟨q | q, _⟩ | ⟨i2, m2, hi2, ei, hm2, em, hy⟩
      · exact absurd ⟨i, hi, rfl⟩ q
      · exact absurd ⟨m, hm, rfl⟩ q
      · obtain rfl := nI_inj (by omega) (by omega) ei
        obtain rfl := nI_inj (by omega) (by omega) em
        rw [frP_eq (hb i hi).2 h0] at hy
        rcases hy with ⟨q, _⟩ | ⟨_, ⟨_, rfl, hu1⟩ | ⟨q, _⟩⟩
        · exact absurd q h0
        · exact ⟨_, 0, aI_set hI (tr_9 c), hw, rW_uT hk hu1, rfl, fun _ => rfl⟩
        · exact absurd c q
    · obtain ⟨hw, hp⟩ := hp
      rcases hp with ⟨rfl, c⟩ | ⟨rfl, c2, i, hi, rfl, h0⟩ | ⟨rfl, i, m, hi, rfl, hm, rfl, h0, c⟩
      · obtain rfl := ex_at (i := 0) (by simp [eI, eA, eS, eM, eN]) rfl hj
        rcases hy with ⟨_, hu1⟩ | ⟨i2, m2, hi2, ei, hm2, em, _⟩
        · exact ⟨_, 1, hI2, hw, rW_uT hk hu1, rfl, fun q => absurd q (by decide)⟩
        · exact absurd c (not_or2 ⟨i2, hi2, ei⟩ ⟨m2, hm2, em⟩)
      · obtain rfl := ex_at (i := 1) (by simp [eI, eA, eS, eM, eN]) rfl hj
        rcases hy with ⟨q, _⟩ | ⟨i2, m2, hi2, ei, hm2, em, hy⟩
        · exact absurd q (not_or2 ⟨i, hi, rfl⟩ c2)
        · obtain rfl := nI_inj (by omega) (by omega) ei
          rcases hy with ⟨_, hu1⟩ | ⟨q, _⟩
          · exact ⟨_, 2, hI2, hw, rW_uT hk hu1, rfl, fun q => absurd q (by decide)⟩
          · exact absurd h0 q
      · obtain rfl := ex_at (i := 2) (by simp [eI, eA, eS, eM, eN]) rfl hj
        rcases hy with ⟨q, _⟩ | ⟨i2, m2, hi2, ei, hm2, em, hy⟩
        · exact absurd q (not_or2 ⟨i, hi, rfl⟩ ⟨m, hm, rfl⟩)
        · obtain rfl := nI_inj (by omega) (by omega) ei
          obtain rfl := nI_inj (by omega) (by omega) em
          rw [frP_eq (hb i hi).2 h0] at hy
          rcases hy with ⟨q, _⟩ | ⟨_, ⟨q, _⟩ | ⟨_, hu1⟩⟩
          · exact absurd q h0
          · exact absurd q c
          · exact ⟨_, 3, hI2, hw, rW_uT hk hu1, rfl, fun q => absurd q (by decide)⟩
end AG1
