/-! SturmRoots$Algebra: writeCommonDivisor, writeRepeated -/
theorem cont_dvd {p : Nat → Int} : ∀ {n i : Nat}, i < n → (cont p n : Int) ∣ p i
  | 0, _, h => absurd h (Nat.not_lt_zero _)
  | n + 1, i, h => by
    rw [cont]
    by_cases q : i = n
    · subst q
      exact Int.ofNat_dvd_left.mpr (Nat.gcd_dvd_right _ _)
    · exact Int.dvd_trans (Int.natCast_dvd_natCast.mpr (Nat.gcd_dvd_left _ _)) (cont_dvd (by omega))
theorem prm_mul {p : Nat → Int} {i : Nat} (hi : i < 7) : (cont p 7 : Int) * prm p i = p i := by
  unfold prm
  exact Int.mul_tdiv_cancel' (cont_dvd hi)
theorem prm_z {p : Nat → Int} {i : Nat} (hi : i < 7) : prm p i = 0 ↔ p i = 0 := by
  constructor
  · intro h
    rw [← prm_mul (p := p) hi, h, Int.mul_zero]
  · intro h
    unfold prm
    rw [h, Int.zero_tdiv]
theorem stI_zc {p q : Nat → Int} : ∀ {n : Nat}, (∀ i, i < n → (p i = 0 ↔ q i = 0)) → stI p n = stI q n
  | 0, _ => rfl
  | n + 1, h => by
    rw [stI, stI, stI_zc (fun i hi => h i (Nat.lt_succ_of_lt hi))]
    by_cases q1 : p n = 0
    · rw [if_pos q1, if_pos ((h n (Nat.lt_succ_self n)).mp q1)]
    · rw [if_neg q1, if_neg (fun z => q1 ((h n (Nat.lt_succ_self n)).mpr z))]
theorem stI_prm (p : Nat → Int) : stI (prm p) 7 = stI p 7 := stI_zc (fun _ hi => prm_z hi)
theorem stI_neg (p : Nat → Int) : stI (fun i => -p i) 7 = stI p 7 := stI_zc (fun i _ => by omega)
theorem stI_mkpos (p : Nat → Int) : stI (mkpos p) 7 = stI p 7 := stI_zc (fun i _ => by
  unfold mkpos
  split <;> omega)
theorem prm_le (p : Nat → Int) (i : Nat) : (prm p i).natAbs ≤ (p i).natAbs := by
  unfold prm
  rw [Int.natAbs_tdiv]
  exact Nat.div_le_self _ _
def gcdL : Nat → (Nat → Int) → (Nat → Int) → (Nat → Int) × (Nat → Int)
  | 0, f, g => (f, g)
  | k + 1, f, g => if stI g 7 = 0 then (f, g) else gcdL k g (prm (red f g))
/-- the sizes stay small -/
def szOk (f g : Nat → Int) : Prop := ∃ F H : Nat, (∀ i, i < 7 → (f i).natAbs ≤ F) ∧ (∀ i, i < 7 → (g i).natAbs ≤ H) ∧ 1 ≤ H ∧ F * (2 * H) ^ (stI f 7 + 1 - stI g 7) < BB ^ 18
def gcdOk : Nat → (Nat → Int) → (Nat → Int) → Prop
  | 0, _, _ => True
  | k + 1, f, g => stI g 7 = 0 ∨ szOk f g ∧ gcdOk k g (prm (red f g))
def gcdP (a b : Nat → Int) : Nat → Int := mkpos (gcdL 10000 (prm a) (prm b)).1
theorem red_le {f g : Nat → Int} {F H : Nat} (hf : ∀ i, i < 7 → (f i).natAbs ≤ F) (hg : ∀ i, i < 7 → (g i).natAbs ≤ H) (hH : 1 ≤ H) (h : F * (2 * H) ^ (stI f 7 + 1 - stI g 7) < BB ^ 18) : ∀ i, i < 7 → (red f g i).natAbs < BB ^ 18 := by
  intro i hi
  have h1 := stI_le g 7
  have h2 := stI_le f 7
  refine Nat.lt_of_le_of_lt ?_ h
  unfold red
  split
  · have h3 : F * 1 ≤ F * (2 * H) ^ (stI f 7 + 1 - stI g 7) := Nat.mul_le_mul_left F (Nat.pow_pos (by omega))
    have := hf i hi
    omega
  · have h4 : stI f 7 + 1 - stI g 7 = stI f 7 - (stI g 7 - 1) := by omega
    rw [h4]
    exact redL_le hg (by omega) hH (by omega) hf i hi
section ALG9
variable {cA : Nat → ClassId} {S : Nat → Nat → Nat} {B : Nat → Int} {P : Nat → Nat → Int} {G Ln : Nat → Nat} {h : mH}
theorem hP_p (hh : hP cA S P G Ln h) {j : Nat} (hj : j < 22) : h (S 2 j) = some (pO (S 3 j) (G j)) ∧ h (S 3 j) = some (pA (cA 2) S j) := by
  obtain ⟨B, h1, h2⟩ := hh
  exact h1.2.1 j hj
theorem hP_a (hh : hP cA S P G Ln h) : h (S 6 0) = some (aO S) := by
  obtain ⟨B, h1, h2⟩ := hh
  exact h1.2.2.2.1
theorem hP_s (hh : hP cA S P G Ln h) {q : Nat} (hq : q < 2) : h (S 4 q) = some (sO (S 5 q) (Ln q)) ∧ h (S 5 q) = some (sA (cA 3) S q) := by
  obtain ⟨B, h1, h2⟩ := hh
  exact h1.2.2.1 q hq
/-- what a call may change: the polynomials ks -/
def upTo (ks : List Nat) (P' P : Nat → Nat → Int) (G' G : Nat → Nat) : Prop := ∀ k, k ∉ ks → P' k = P k ∧ G' k = G k
theorem upTo_rf (ks : List Nat) (P : Nat → Nat → Int) (G : Nat → Nat) : upTo ks P P G G := fun _ _ => ⟨rfl, rfl⟩
theorem upTo_up {ks : List Nat} {P' P : Nat → Nat → Int} {G' G : Nat → Nat} {j : Nat} {p : Nat → Int} {g : Nat} (hj : j ∈ ks) (h : upTo ks P' P G' G) : upTo ks (updP P' j p) P (updN G' j g) G := fun k hk => by
  have : k ≠ j := fun q => hk (q ▸ hj)
  rw [updP_n this, updN_n this]
  exact h k hk
theorem upTo_upP {ks : List Nat} {P' P : Nat → Nat → Int} {G' G : Nat → Nat} {j : Nat} {p : Nat → Int} (hj : j ∈ ks) (h : upTo ks P' P G' G) : upTo ks (updP P' j p) P G' G := fun k hk => by
  have : k ≠ j := fun q => hk (q ▸ hj)
  rw [updP_n this]
  exact h k hk
theorem upTo_tr {ks ls : List Nat} {P3 P2 P1 : Nat → Nat → Int} {G3 G2 G1 : Nat → Nat} (a : upTo ks P3 P2 G3 G2) (b : upTo ls P2 P1 G2 G1) (hk : ∀ k, k ∈ ks → k ∈ ls) : upTo ls P3 P1 G3 G1 := fun k hk2 => by
  have h1 := a k (fun q => hk2 (hk k q))
  have h2 := b k hk2
  exact ⟨h1.1.trans h2.1, h1.2.trans h2.2⟩
theorem q_writeCommonDivisor (l : Launch) (D : va_G) (hh : hP cA S P G Ln h) {a b c : Nat} (ha : a < 22 ∧ a ≠ 10 ∧ a ≠ 11) (hb : b < 22 ∧ b ≠ 10 ∧ b ≠ 11) (hc : c < 22 ∧ c ≠ 10 ∧ c ≠ 11) (hGa : G a = stI (P a) 7) (hGb : G b = stI (P b) 7) (hva : ∀ i, i < 7 → (P a i).natAbs < BB ^ 18) (hvb : ∀ i, i < 7 → (P b i).natAbs < BB ^ 18) (hok : gcdOk 10000 (prm (P a)) (prm (P b))) :
    mCv l yX0_writeCommonDivisor cX0_writeCommonDivisor 8 (rmd 5) D (mT cA) [.ref (S 6 0), .ref (S 2 a), .ref (S 2 b), .ref (S 2 c)] h (fun h1 => hfr S h1 h ∧ ∃ P' G', hP cA S P' G' Ln h1 ∧ upTo [10, 11, c] P' P G' G ∧ P' c = gcdP (P a) (P b) ∧ G' c = stI (gcdP (P a) (P b)) 7) := by
  refine mEnter_v (by decide) (Nat.le_of_ble_eq_true rfl) rfl (fun z X Vz => ?_)
  have a0 := hP_a hh
  have a1 := (hP_p hh (j := 10) (by decide)).1
  have a2 := (hP_p hh (j := 11) (by decide)).1
  refine zi_aload_n X dX0_writeCommonDivisor_0 rfl rfl ?_
  refine zi_getf (C := RX0) (T := TX0) (N := 14) (ci := 4) X (by first | assumption | exact mup_self | (rw [mup_ne (by assumption)]; assumption) | (rw [mup_ne (by assumption)]; exact mup_self) | (rw [mup_ne (by assumption), mup_ne (by assumption)]; assumption)) rfl in_X0 10 (by decide) wf_X0_48 rfl rfl dX0_writeCommonDivisor_1 ?_
  refine zi_astore X dX0_writeCommonDivisor_4 (by decide) ?_
  refine zi_aload_n X dX0_writeCommonDivisor_6 rfl rfl ?_
  refine zi_getf (C := RX0) (T := TX0) (N := 14) (ci := 4) X (by first | assumption | exact mup_self | (rw [mup_ne (by assumption)]; assumption) | (rw [mup_ne (by assumption)]; exact mup_self) | (rw [mup_ne (by assumption), mup_ne (by assumption)]; assumption)) rfl in_X0 11 (by decide) wf_X0_52 rfl rfl dX0_writeCommonDivisor_7 ?_
  refine zi_astore X dX0_writeCommonDivisor_10 (by decide) ?_
  refine zi_aload X dX0_writeCommonDivisor_12 rfl ?_
  refine zi_aload_n X dX0_writeCommonDivisor_14 rfl rfl ?_
  refine zi_callVv X (q_become l D hh (j := 10) (j2 := a) (by decide) ha.1 ha.2.1) kc_X4_become wm_X0_131 (by first | assumption | exact mup_self | (rw [mup_ne (by assumption)]; assumption) | (rw [mup_ne (by assumption)]; exact mup_self) | (rw [mup_ne (by assumption), mup_ne (by assumption)]; assumption)) rfl wim_X4_become wse_X4_become ⟨Nat.le_of_ble_eq_true rfl, Nat.le_of_ble_eq_true rfl⟩ rfl rfl (Nat.le_of_ble_eq_true rfl) ⟨Nat.le_of_ble_eq_true rfl, Nat.le_of_ble_eq_true rfl⟩ dX0_writeCommonDivisor_15 (fun g1 e1 => ?_)
  obtain ⟨e1, h1⟩ := e1
  have b2 := (hP_p h1 (j := 11) (by decide)).1
  refine zi_aload X dX0_writeCommonDivisor_18 rfl ?_
  refine zi_aload_n X dX0_writeCommonDivisor_20 rfl rfl ?_
  refine zi_callVv X (q_become l D h1 (j := 11) (j2 := b) (by decide) hb.1 hb.2.2) kc_X4_become wm_X0_131 (by first | assumption | exact mup_self | (rw [mup_ne (by assumption)]; assumption) | (rw [mup_ne (by assumption)]; exact mup_self) | (rw [mup_ne (by assumption), mup_ne (by assumption)]; assumption)) rfl wim_X4_become wse_X4_become ⟨Nat.le_of_ble_eq_true rfl, Nat.le_of_ble_eq_true rfl⟩ rfl rfl (Nat.le_of_ble_eq_true rfl) ⟨Nat.le_of_ble_eq_true rfl, Nat.le_of_ble_eq_true rfl⟩ dX0_writeCommonDivisor_21 (fun g2 e2 => ?_)
  obtain ⟨e2, h2⟩ := e2
  rw [updP_n hb.2.1, updN_n hb.2.1] at h2
  have c1 := (hP_p h2 (j := 10) (by decide)).1
  refine zi_aload_n X dX0_writeCommonDivisor_24 rfl rfl ?_
  refine zi_aload X dX0_writeCommonDivisor_25 rfl ?_
  refine zi_callVv X (q_makePrimitive l D h2 (j := 10) (by decide) (by rw [updN_n (by decide), updN_s, updP_n (by decide), updP_s, hGa]) (fun i hi => by rw [updP_n (by decide), updP_s]; exact hva i hi)) kc_X0_makePrimitive wm_X0_134 (hP_a h2) rfl wim_X0_makePrimitive wse_X0_makePrimitive ⟨Nat.le_of_ble_eq_true rfl, Nat.le_of_ble_eq_true rfl⟩ rfl rfl (Nat.le_of_ble_eq_true rfl) ⟨Nat.le_of_ble_eq_true rfl, Nat.le_of_ble_eq_true rfl⟩ dX0_writeCommonDivisor_27 (fun g3 e3 => ?_)
  obtain ⟨e3, h3⟩ := e3
  rw [updP_n (show 10 ≠ 11 by decide), updP_s] at h3
  refine zi_aload_n X dX0_writeCommonDivisor_30 rfl rfl ?_
  refine zi_aload X dX0_writeCommonDivisor_31 rfl ?_
  refine zi_callVv X (q_makePrimitive l D h3 (j := 11) (by decide) (by rw [updN_s, updP_n (by decide), updP_s, hGb]) (fun i hi => by rw [updP_n (by decide), updP_s]; exact hvb i hi)) kc_X0_makePrimitive wm_X0_134 (hP_a h3) rfl wim_X0_makePrimitive wse_X0_makePrimitive ⟨Nat.le_of_ble_eq_true rfl, Nat.le_of_ble_eq_true rfl⟩ rfl rfl (Nat.le_of_ble_eq_true rfl) ⟨Nat.le_of_ble_eq_true rfl, Nat.le_of_ble_eq_true rfl⟩ dX0_writeCommonDivisor_33 (fun g4 e4 => ?_)
  obtain ⟨e4, h4⟩ := e4
  rw [updP_n (show 11 ≠ 10 by decide), updP_s] at h4
  have hf4 : hfr S g4 h := hfr_tr e4 (hfr_tr e3 (hfr_tr e2 e1))
  refine zi_iconst (v := (nI 0)) X dX0_writeCommonDivisor_36 (by decide) ?_
  refine zi_istore X dX0_writeCommonDivisor_37 (by decide) ?_
  obtain ⟨E, hE⟩ : ∃ E, E = gcdL 10000 (prm (P a)) (prm (P b)) := ⟨_, rfl⟩
  have hgE : gcdP (P a) (P b) = mkpos E.1 := by rw [hE]; rfl
  suffices fin : ∀ i p q P1 G1 g (o : Option Value), (p = 10 ∧ q = 11 ∨ p = 11 ∧ q = 10) → hfr S g h → hP cA S P1 G1 Ln g → upTo [10, 11] P1 P G1 G → P1 p = E.1 → G1 p = stI E.1 7 → zM z 0 0 87 [some (.ref (S 6 0)), some (.ref (S 2 a)), some (.ref (S 2 b)), some (.ref (S 2 c)), some (.ref (S 2 p)), some (.ref (S 2 q)), some (.int (nI i)), o] [] g by
    suffices key : ∀ k i p q P1 G1 g (o : Option Value), i + k = 10000 → (p = 10 ∧ q = 11 ∨ p = 11 ∧ q = 10) → hfr S g h → hP cA S P1 G1 Ln g → upTo [10, 11] P1 P G1 G → G1 p = stI (P1 p) 7 → G1 q = stI (P1 q) 7 → gcdOk k (P1 p) (P1 q) → E = gcdL k (P1 p) (P1 q) → zM z 0 0 39 [some (.ref (S 6 0)), some (.ref (S 2 a)), some (.ref (S 2 b)), some (.ref (S 2 c)), some (.ref (S 2 p)), some (.ref (S 2 q)), some (.int (nI i)), o] [] g by
      have p10 : updP (updP (updP (updP P 10 (P a)) 11 (P b)) 10 (prm (P a))) 11 (prm (P b)) 10 = prm (P a) := by rw [updP_n (by decide), updP_s]
      have p11 : updP (updP (updP (updP P 10 (P a)) 11 (P b)) 10 (prm (P a))) 11 (prm (P b)) 11 = prm (P b) := by rw [updP_s]
      refine zi_sub (by repeat (first | exact trivial | refine And.intro rfl ?_ | refine mSubL_o ?_)) (key 10000 0 10 11 _ _ g4 none rfl (Or.inl ⟨rfl, rfl⟩) hf4 h4 (upTo_upP (by decide) (upTo_upP (by decide) (upTo_up (by decide) (upTo_up (by decide) (upTo_rf _ _ _))))) ?_ ?_ ?_ ?_)
      · rw [p10, updN_n (by decide), updN_s, stI_prm, hGa]
      · rw [p11, updN_s, stI_prm, hGb]
      · rw [p10, p11]; exact hok
      · rw [p10, p11]; exact hE
    intro k
    induction k with
    | zero =>
      intro i p q P1 G1 g o hi hpq hf hP1 hup hGp hGq hok1 he
      have : i = 10000 := by omega
      subst this
      rw [gcdL] at he
      refine zi_iload X dX0_writeCommonDivisor_39 rfl ?_
      refine zi_sipush (v := (nI 10000)) X dX0_writeCommonDivisor_41 (by decide) ?_
      refine zi_icmp_ge (tgt := 87) X dX0_writeCommonDivisor_44 (by decide) (fun c_44 => ?_) (fun c_44 => (by first | exact absurd (Int32.le_refl _) c_44 | exact absurd c_44 (Int32.le_refl _)))
      exact fin 10000 p q P1 G1 g o hpq hf hP1 hup (by rw [he]) (by rw [he]; exact hGp)
    | succ k ih =>
      intro i p q P1 G1 g o hi hpq hf hP1 hup hGp hGq hok1 he
      have hp22 : p < 22 := by omega
      have hq22 : q < 22 := by omega
      have hpq2 : q ≠ p := by omega
      have d1 := (hP_p hP1 hq22).1
      have d0 := hP_a hP1
      have hl1 := stI_le (P1 q) 7
      rw [gcdL] at he
      refine zi_iload X dX0_writeCommonDivisor_39 rfl ?_
      refine zi_sipush (v := (nI 10000)) X dX0_writeCommonDivisor_41 (by decide) ?_
      refine zi_icmp_ge (tgt := 87) X dX0_writeCommonDivisor_44 (by decide) (fun c_44 => (by first | exact absurd (nI_ge (show i < 10000 by omega) (by decide)) c_44 | exact absurd c_44 (nI_ge (show i < 10000 by omega) (by decide)))) (fun c_44 => ?_)
      refine zi_aload X dX0_writeCommonDivisor_47 rfl ?_
      refine zi_getf (C := RX4) (T := TX4) (N := 2) (ci := 8) X (by first | assumption | exact mup_self | (rw [mup_ne (by assumption)]; assumption) | (rw [mup_ne (by assumption)]; exact mup_self) | (rw [mup_ne (by assumption), mup_ne (by assumption)]; assumption)) rfl in_X4 1 (by decide) wf_X0_99 rfl rfl dX0_writeCommonDivisor_49 ?_
      refine zi_if_lt (tgt := 87) X dX0_writeCommonDivisor_52 (by decide) (fun c_52 => ?_) (fun c_52 => ?_)
      · have hg0 : G1 q = 0 := (dI_neg (by omega)).mp c_52
        rw [if_pos (by omega)] at he
        exact fin i p q P1 G1 g o hpq hf hP1 hup (by rw [he]) (by rw [he]; exact hGp)
      · have hg0 : ¬ stI (P1 q) 7 = 0 := fun z => c_52 ((dI_neg (by omega)).mpr (by omega))
        rw [if_neg hg0] at he
        rcases hok1 with hok1 | hok1
        · exact absurd hok1 hg0
        obtain ⟨⟨F, H, o1, o2, o3, o4⟩, hok1⟩ := hok1
        refine zi_aload_n X dX0_writeCommonDivisor_55 rfl rfl ?_
        refine zi_aload X dX0_writeCommonDivisor_56 rfl ?_
        refine zi_aload X dX0_writeCommonDivisor_58 rfl ?_
        refine zi_callVv X (q_reduce l D hP1 (j := p) (j2 := q) hp22 hq22 hpq2 hGp hGq o1 o2 o3 (by rw [hGp, hGq]; exact Nat.lt_of_lt_of_le o4 (Nat.pow_le_pow_right (by decide) (by decide)))) kc_X0_reduce wm_X0_137 (by first | assumption | exact mup_self | (rw [mup_ne (by assumption)]; assumption) | (rw [mup_ne (by assumption)]; exact mup_self) | (rw [mup_ne (by assumption), mup_ne (by assumption)]; assumption)) rfl wim_X0_reduce wse_X0_reduce ⟨Nat.le_of_ble_eq_true rfl, Nat.le_of_ble_eq_true rfl⟩ rfl rfl (Nat.le_of_ble_eq_true rfl) ⟨Nat.le_of_ble_eq_true rfl, Nat.le_of_ble_eq_true rfl⟩ dX0_writeCommonDivisor_60 (fun g5 e5 => ?_)
        obtain ⟨e5, h5⟩ := e5
        refine zi_aload_n X dX0_writeCommonDivisor_63 rfl rfl ?_
        refine zi_aload X dX0_writeCommonDivisor_64 rfl ?_
        refine zi_callVv X (q_makePrimitive l D h5 (j := p) hp22 (by rw [updN_s, updP_s]) (fun i hi => by rw [updP_s]; exact red_le o1 o2 o3 o4 i hi)) kc_X0_makePrimitive wm_X0_134 (hP_a h5) rfl wim_X0_makePrimitive wse_X0_makePrimitive ⟨Nat.le_of_ble_eq_true rfl, Nat.le_of_ble_eq_true rfl⟩ rfl rfl (Nat.le_of_ble_eq_true rfl) ⟨Nat.le_of_ble_eq_true rfl, Nat.le_of_ble_eq_true rfl⟩ dX0_writeCommonDivisor_66 (fun g6 e6 => ?_)
        obtain ⟨e6, h6⟩ := e6
        rw [updP_s, updP_updP] at h6
        refine zi_aload X dX0_writeCommonDivisor_69 rfl ?_
        refine zi_astore X dX0_writeCommonDivisor_71 (by decide) ?_
        refine zi_aload X dX0_writeCommonDivisor_73 rfl ?_
        refine zi_astore X dX0_writeCommonDivisor_75 (by decide) ?_
        refine zi_aload X dX0_writeCommonDivisor_77 rfl ?_
        refine zi_astore X dX0_writeCommonDivisor_79 (by decide) ?_
        refine zi_iinc (v := nI (i + 1)) X dX0_writeCommonDivisor_81 rfl (nI_inc _) (by decide) ?_
        refine zi_goto (tgt := 39) X dX0_writeCommonDivisor_84 (by decide) ?_
        have hpm : p ∈ [10, 11] := by rcases hpq with ⟨q1, _⟩ | ⟨q1, _⟩ <;> rw [q1] <;> decide
        refine zi_sub (by repeat (first | exact trivial | refine And.intro rfl ?_ | refine mSubL_o ?_)) (ih (i + 1) q p _ _ g6 (some (.ref (S 2 p))) (by omega) (by omega) (hfr_tr e6 (hfr_tr e5 hf)) h6 (upTo_up hpm hup) ?_ ?_ ?_ ?_)
        · rw [updP_n hpq2, updN_n hpq2]; exact hGq
        · rw [updP_s, updN_s, stI_prm]
        · rw [updP_s, updP_n hpq2]; exact hok1
        · rw [updP_s, updP_n hpq2]; exact he
  intro i p q P1 G1 g o hpq hf hP1 hup hPp hGp
  have hp22 : p < 22 := by omega
  refine zi_aload_n X dX0_writeCommonDivisor_87 rfl rfl ?_
  refine zi_aload X dX0_writeCommonDivisor_88 rfl ?_
  refine zi_callVv X (q_become l D hP1 (j := c) (j2 := p) hc.1 hp22 (by omega)) kc_X4_become wm_X0_131 ((hP_p hP1 hc.1).1) rfl wim_X4_become wse_X4_become ⟨Nat.le_of_ble_eq_true rfl, Nat.le_of_ble_eq_true rfl⟩ rfl rfl (Nat.le_of_ble_eq_true rfl) ⟨Nat.le_of_ble_eq_true rfl, Nat.le_of_ble_eq_true rfl⟩ dX0_writeCommonDivisor_90 (fun g5 e5 => ?_)
  obtain ⟨e5, h5⟩ := e5
  rw [hPp, hGp] at h5
  refine zi_aload_n X dX0_writeCommonDivisor_93 rfl rfl ?_
  refine zi_callVv X (q_makeLeadPositive l D h5 (j := c) hc.1 (by rw [updN_s, updP_s])) kc_X4_makeLeadPositive wm_X0_141 ((hP_p h5 hc.1).1) rfl wim_X4_makeLeadPositive wse_X4_makeLeadPositive ⟨Nat.le_of_ble_eq_true rfl, Nat.le_of_ble_eq_true rfl⟩ rfl rfl (Nat.le_of_ble_eq_true rfl) ⟨Nat.le_of_ble_eq_true rfl, Nat.le_of_ble_eq_true rfl⟩ dX0_writeCommonDivisor_94 (fun g6 e6 => ?_)
  obtain ⟨e6, h6⟩ := e6
  rw [updP_s, updP_updP] at h6
  refine zi_return X Vz dX0_writeCommonDivisor_97 ?_
  refine ⟨hfr_tr e6 (hfr_tr e5 hf), _, _, h6, upTo_up (by simp) (upTo_tr hup (upTo_rf _ _ _) (fun k hk => ?_)), ?_, ?_⟩
  · simp only [List.mem_cons, List.not_mem_nil, or_false] at hk ⊢
    omega
  · rw [updP_s, hgE]
  · rw [updN_s, hgE, stI_mkpos]
theorem q_writeRepeated (l : Launch) (D : va_G) (hh : hP cA S P G Ln h) {a c : Nat} (ha : a < 22 ∧ a ≠ 10 ∧ a ≠ 11 ∧ a ≠ 12) (hc : c < 22 ∧ c ≠ 10 ∧ c ≠ 11) (hGa : G a = stI (P a) 7) (hva : ∀ i, i < 7 → (P a i).natAbs < BB ^ 18) (hs : ∀ i, i < 6 → (P a (i + 1) * ((i : Int) + 1)).natAbs < BB ^ 18) (hok : gcdOk 10000 (prm (P a)) (prm (derI (P a)))) :
    mCv l yX0_writeRepeated cX0_writeRepeated 3 (rmd 6) D (mT cA) [.ref (S 6 0), .ref (S 2 a), .ref (S 2 c)] h (fun h1 => hfr S h1 h ∧ ∃ P' G', hP cA S P' G' Ln h1 ∧ upTo [10, 11, 12, c] P' P G' G ∧ P' c = gcdP (P a) (derI (P a)) ∧ G' c = stI (gcdP (P a) (derI (P a))) 7) := by
  refine mEnter_v (by decide) (Nat.le_of_ble_eq_true rfl) rfl (fun z X Vz => ?_)
  have a0 := hP_a hh
  have a1 := (hP_p hh (j := 12) (by decide)).1
  refine zi_aload_n X dX0_writeRepeated_0 rfl rfl ?_
  refine zi_getf (C := RX0) (T := TX0) (N := 14) (ci := 4) X (by first | assumption | exact mup_self | (rw [mup_ne (by assumption)]; assumption) | (rw [mup_ne (by assumption)]; exact mup_self) | (rw [mup_ne (by assumption), mup_ne (by assumption)]; assumption)) rfl in_X0 12 (by decide) wf_X0_55 rfl rfl dX0_writeRepeated_1 ?_
  refine zi_aload_n X dX0_writeRepeated_4 rfl rfl ?_
  refine zi_callVv X (q_becomeDerivative l D hh (j := 12) (j2 := a) (by decide) ha.1 ha.2.2.2 (fun i hi => BB18_20 (hs i hi))) kc_X4_becomeDerivative wm_X0_144 (by first | assumption | exact mup_self | (rw [mup_ne (by assumption)]; assumption) | (rw [mup_ne (by assumption)]; exact mup_self) | (rw [mup_ne (by assumption), mup_ne (by assumption)]; assumption)) rfl wim_X4_becomeDerivative wse_X4_becomeDerivative ⟨Nat.le_of_ble_eq_true rfl, Nat.le_of_ble_eq_true rfl⟩ rfl rfl (Nat.le_of_ble_eq_true rfl) ⟨Nat.le_of_ble_eq_true rfl, Nat.le_of_ble_eq_true rfl⟩ dX0_writeRepeated_5 (fun g1 e1 => ?_)
  obtain ⟨e1, h1⟩ := e1
  have b0 := hP_a h1
  have e12 : updP P 12 (derI (P a)) a = P a := updP_n ha.2.2.2
  have hd18 : ∀ i, i < 7 → (derI (P a) i).natAbs < BB ^ 18 := by
    intro i hi
    unfold derI
    split
    · exact hs i (by omega)
    · exact BB_pos 18
  refine zi_aload_n X dX0_writeRepeated_8 rfl rfl ?_
  refine zi_aload_n X dX0_writeRepeated_9 rfl rfl ?_
  refine zi_aload_n X dX0_writeRepeated_10 rfl rfl ?_
  refine zi_getf (C := RX0) (T := TX0) (N := 14) (ci := 4) X (by first | assumption | exact mup_self | (rw [mup_ne (by assumption)]; assumption) | (rw [mup_ne (by assumption)]; exact mup_self) | (rw [mup_ne (by assumption), mup_ne (by assumption)]; assumption)) rfl in_X0 12 (by decide) wf_X0_55 rfl rfl dX0_writeRepeated_11 ?_
  refine zi_aload_n X dX0_writeRepeated_14 rfl rfl ?_
  refine zi_callVv X (q_writeCommonDivisor l D h1 (a := a) (b := 12) (c := c) ⟨ha.1, ha.2.1, ha.2.2.1⟩ (by decide) hc (by rw [updN_n ha.2.2.2, e12]; exact hGa) (by rw [updP_s, updN_s]) (by rw [e12]; exact hva) (by rw [updP_s]; exact hd18) (by rw [e12, updP_s]; exact hok)) kc_X0_writeCommonDivisor wm_X0_147 (by first | assumption | exact mup_self | (rw [mup_ne (by assumption)]; assumption) | (rw [mup_ne (by assumption)]; exact mup_self) | (rw [mup_ne (by assumption), mup_ne (by assumption)]; assumption)) rfl wim_X0_writeCommonDivisor wse_X0_writeCommonDivisor ⟨Nat.le_of_ble_eq_true rfl, Nat.le_of_ble_eq_true rfl⟩ rfl rfl (Nat.le_of_ble_eq_true rfl) ⟨Nat.le_of_ble_eq_true rfl, Nat.le_of_ble_eq_true rfl⟩ dX0_writeRepeated_15 (fun g2 e2 => ?_)
  obtain ⟨e2, P', G', h2, u2, f2, f3⟩ := e2
  rw [e12, updP_s] at f2 f3
  refine zi_return X Vz dX0_writeRepeated_18 ?_
  refine ⟨hfr_tr e2 e1, P', G', h2, upTo_tr u2 (upTo_up (by simp) (upTo_rf _ _ _)) (fun k hk => ?_), f2, f3⟩
  simp only [List.mem_cons, List.not_mem_nil, or_false] at hk ⊢
  omega
end ALG9
