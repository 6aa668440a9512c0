/-! the algebra's polynomials alone: what the ten rows hold is left open -/
def hP (cA : Nat → ClassId) (S : Nat → Nat → Nat) (P : Nat → Nat → Int) (G Ln : Nat → Nat) (h : mH) : Prop := ∃ B, hA cA S B G Ln h ∧ ∀ j, j < 22 → ∀ i, i < 7 → B (7 * j + i) = P j i
def updP (P : Nat → Nat → Int) (j : Nat) (p : Nat → Int) : Nat → Nat → Int := fun k i => if k = j then p i else P k i
theorem updP_s {P : Nat → Nat → Int} {j : Nat} {p : Nat → Int} : updP P j p j = p := by funext i; unfold updP; rw [if_pos rfl]
theorem updP_n {P : Nat → Nat → Int} {j k : Nat} {p : Nat → Int} (h : k ≠ j) : updP P j p k = P k := by funext i; unfold updP; rw [if_neg h]
theorem updP_updP {P : Nat → Nat → Int} {j : Nat} {p q : Nat → Int} : updP (updP P j p) j q = updP P j q := by
  funext k i
  unfold updP
  by_cases h : k = j
  · rw [if_pos h, if_pos h]
  · rw [if_neg h, if_neg h, if_neg h]
theorem updP_same {P : Nat → Nat → Int} {j : Nat} : updP P j (P j) = P := by
  funext k i
  unfold updP
  by_cases h : k = j
  · rw [if_pos h, h]
  · rw [if_neg h]
theorem hP_of {cA : Nat → ClassId} {S : Nat → Nat → Nat} {B : Nat → Int} {P : Nat → Nat → Int} {G Ln : Nat → Nat} {h : mH} (hh : hA cA S B G Ln h) (e : ∀ j, j < 22 → ∀ i, i < 7 → B (7 * j + i) = P j i) : hP cA S P G Ln h := ⟨B, hh, e⟩
theorem hP_set {cA : Nat → ClassId} {S : Nat → Nat → Nat} {B : Nat → Int} {P : Nat → Nat → Int} {G Ln : Nat → Nat} {h : mH} {j : Nat} {p q : Nat → Int} (hh : hA cA S (setP B j p) G Ln h) (e : ∀ j, j < 22 → ∀ i, i < 7 → B (7 * j + i) = P j i) (hp : ∀ i, i < 7 → p i = q i) : hP cA S (updP P j q) G Ln h :=
  ⟨_, hh, fun k hk i hi => by
    unfold updP
    by_cases h : k = j
    · rw [if_pos h, h, setP_at hi]; exact hp i hi
    · rw [if_neg h, setP_out h hi]; exact e k hk i hi⟩
theorem hP_cong {cA : Nat → ClassId} {S : Nat → Nat → Nat} {P Q : Nat → Nat → Int} {G H Ln : Nat → Nat} {h : mH} (hh : hP cA S P G Ln h) (e : ∀ j, j < 22 → ∀ i, i < 7 → P j i = Q j i) (e2 : ∀ j, j < 22 → G j = H j) : hP cA S Q H Ln h := by
  obtain ⟨B, h1, h2⟩ := hh
  exact ⟨B, hA_cong h1 (fun _ _ => rfl) e2, fun j hj i hi => (h2 j hj i hi).trans (e j hj i hi)⟩
theorem hP_lt {cA : Nat → ClassId} {S : Nat → Nat → Nat} {P : Nat → Nat → Int} {G Ln : Nat → Nat} {h : mH} (hh : hP cA S P G Ln h) {j i : Nat} (hj : j < 22) (hi : i < 7) : (P j i).natAbs < BB ^ 20 := by
  obtain ⟨B, h1, h2⟩ := hh
  rw [← h2 j hj i hi]
  exact hA_lt h1 (by omega)
section ALG4
variable {cA : Nat → ClassId} {S : Nat → Nat → Nat} {P : Nat → Nat → Int} {G Ln : Nat → Nat} {h : mH}
theorem q_clear (l : Launch) (D : va_G) (hh : hP cA S P G Ln h) {j : Nat} (hj : j < 22) (hG : G j ≤ 7) :
    mCv l yX4_clear cX4_clear 2 (rmd 3) D (mT cA) [.ref (S 2 j)] h (fun h1 => hfr S h1 h ∧ hP cA S (updP P j (fun i => if i < G j then 0 else P j i)) (updN G j 0) Ln h1) := by
  obtain ⟨B, h1, h2⟩ := hh
  refine mSub_v (p_clear l D h1 hj hG) (fun g e => ⟨e.1, hP_set e.2 h2 (fun i hi => ?_)⟩)
  unfold cof
  rw [h2 j hj i hi]
theorem q_become (l : Launch) (D : va_G) (hh : hP cA S P G Ln h) {j j2 : Nat} (hj : j < 22) (hj2 : j2 < 22) (hne : j2 ≠ j) :
    mCv l yX4_become cX4_become 3 (rmd 3) D (mT cA) [.ref (S 2 j), .ref (S 2 j2)] h (fun h1 => hfr S h1 h ∧ hP cA S (updP P j (P j2)) (updN G j (G j2)) Ln h1) := by
  obtain ⟨B, h1, h2⟩ := hh
  exact mSub_v (p_become l D h1 hj hj2 hne) (fun g e => ⟨e.1, hP_set e.2 h2 (fun i hi => h2 j2 hj2 i hi)⟩)
theorem q_settle (l : Launch) (D : va_G) (hh : hP cA S P G Ln h) {j : Nat} (hj : j < 22) :
    mCv l yX4_settle cX4_settle 1 (rmd 2) D (mT cA) [.ref (S 2 j)] h (fun h1 => hfr S h1 h ∧ hP cA S P (updN G j (stI (P j) 7)) Ln h1) := by
  obtain ⟨B, h1, h2⟩ := hh
  refine mSub_v (p_settle l D h1 hj) (fun g e => ⟨e.1, hP_of ?_ h2⟩)
  rw [← stI_cong (p := cof B j) (q := P j) (fun i hi => h2 j hj i hi)]
  exact e.2
theorem q_becomeRow (l : Launch) (D : va_G) (hh : hP cA S P G Ln h) {j a : Nat} {f : Nat → Int32} (hj : j < 22) (ha : h a = some (.inl (cA 0, 7, .inl f))) (hout : hOut S a) :
    mCv l yX4_becomeRow cX4_becomeRow 3 (rmd 3) D (mT cA) [.ref (S 2 j), .ref a] h (fun h1 => hfr S h1 h ∧ hP cA S (updP P j (fun i => (f i).toInt)) (updN G j (stI (fun i => (f i).toInt) 7)) Ln h1) := by
  obtain ⟨B, h1, h2⟩ := hh
  exact mSub_v (p_becomeRow l D h1 hj ha hout) (fun g e => ⟨e.1, hP_set e.2 h2 (fun i hi => rfl)⟩)
theorem derI_cong {p q : Nat → Int} (h : ∀ i, i < 7 → p i = q i) (i : Nat) : derI p i = derI q i := by
  unfold derI
  by_cases hi : i < 6
  · rw [if_pos hi, if_pos hi, h _ (by omega)]
  · rw [if_neg hi, if_neg hi]
theorem q_becomeDerivative (l : Launch) (D : va_G) (hh : hP cA S P G Ln h) {j j2 : Nat} (hj : j < 22) (hj2 : j2 < 22) (hne : j2 ≠ j) (hs : ∀ i, i < 6 → (P j2 (i + 1) * ((i : Int) + 1)).natAbs < BB ^ 20) :
    mCv l yX4_becomeDerivative cX4_becomeDerivative 3 (rmd 3) D (mT cA) [.ref (S 2 j), .ref (S 2 j2)] h (fun h1 => hfr S h1 h ∧ hP cA S (updP P j (derI (P j2))) (updN G j (stI (derI (P j2)) 7)) Ln h1) := by
  obtain ⟨B, h1, h2⟩ := hh
  have hc : ∀ i, derI (cof B j2) i = derI (P j2) i := derI_cong (fun i hi => h2 j2 hj2 i hi)
  refine mSub_v (p_becomeDerivative l D h1 hj hj2 hne (fun i hi => ?_)) (fun g e => ⟨e.1, hP_set ?_ h2 (fun i hi => hc i)⟩)
  · rw [show cof B j2 (i + 1) = P j2 (i + 1) from h2 j2 hj2 (i + 1) (by omega)]
    exact hs i hi
  · rw [← stI_cong (fun i _ => hc i)]
    exact e.2
theorem q_flipSigns (l : Launch) (D : va_G) (hh : hP cA S P G Ln h) {j : Nat} (hj : j < 22) (hG : G j = stI (P j) 7) :
    mCv l yX4_flipSigns cX4_flipSigns 2 (rmd 2) D (mT cA) [.ref (S 2 j)] h (fun h1 => hfr S h1 h ∧ hP cA S (updP P j (fun i => -P j i)) G Ln h1) := by
  obtain ⟨B, h1, h2⟩ := hh
  refine mSub_v (p_flipSigns l D h1 hj (by rw [hG]; exact stI_le _ _)) (fun g e => ⟨e.1, hP_set e.2 h2 (fun i hi => ?_)⟩)
  unfold cof
  rw [h2 j hj i hi]
  by_cases q : i < G j
  · rw [if_pos q]
  · rw [if_neg q, stI_z (p := P j) (n := 7) (by omega) hi, Int.neg_zero]
/-- the sign of the leading coefficient -/
def ldI (p : Nat → Int) : Int := p (stI p 7 - 1)
def mkpos (p : Nat → Int) : Nat → Int := fun i => if ldI p < 0 then -p i else p i
theorem q_makeLeadPositive (l : Launch) (D : va_G) (hh : hP cA S P G Ln h) {j : Nat} (hj : j < 22) (hG : G j = stI (P j) 7) :
    mCv l yX4_makeLeadPositive cX4_makeLeadPositive 1 (rmd 3) D (mT cA) [.ref (S 2 j)] h (fun h1 => hfr S h1 h ∧ hP cA S (updP P j (mkpos (P j))) G Ln h1) := by
  obtain ⟨B, h1, h2⟩ := hh
  have hle := stI_le (P j) 7
  refine mSub_v (p_makeLeadPositive l D h1 hj (by rw [hG]; exact hle)) (fun g e => ⟨e.1, hP_set e.2 h2 (fun i hi => ?_)⟩)
  have e1 : cof B j (G j - 1) = P j (G j - 1) := h2 j hj _ (by omega)
  rw [e1]
  unfold cof mkpos ldI
  rw [h2 j hj i hi, hG]
  by_cases q : i < stI (P j) 7
  · by_cases q2 : P j (stI (P j) 7 - 1) < 0
    · rw [if_pos ⟨q, q2⟩, if_pos q2]
    · rw [if_neg (fun z => q2 z.2), if_neg q2]
  · rw [if_neg (fun z => q z.1), stI_z (p := P j) (n := 7) (by omega) hi]
    split <;> omega
theorem q_coefficientChanges (l : Launch) (D : va_G) (hh : hP cA S P G Ln h) {j : Nat} (hj : j < 22) (hG : G j ≤ 7) :
    mCi l yX4_coefficientChanges cX4_coefficientChanges 5 .int (rmd 2) D (mT cA) [.ref (S 2 j)] h (fun x h1 => h1 = h ∧ x = nI (chg (fun i => (P j i).sign) (G j)).2) := by
  obtain ⟨B, h1, h2⟩ := hh
  refine mSub_i (p_coefficientChanges l D h1 hj hG) (fun x g e => ⟨e.1, ?_⟩)
  rw [e.2, chg_cong (fun i hi => ?_)]
  unfold cof
  rw [h2 j hj i (by omega)]
theorem q_writeRow (l : Launch) (D : va_G) (hh : hP cA S P G Ln h) {j a : Nat} {f : Nat → Int64} (hj : j < 22) (ha : h a = some (.inl (cA 1, 7, .inr (.inl f)))) :
    mCv l yX4_writeRow cX4_writeRow 4 (rmd 2) D (mT cA) [.ref (S 2 j), .ref a] h (fun h1 => h1 = mup h a (.inl (cA 1, 7, .inr (.inl (fun i => if i < 7 then wr (P j i) else f i))))) := by
  obtain ⟨B, h1, h2⟩ := hh
  refine mSub_v (p_writeRow l D h1 hj ha) (fun g e => ?_)
  rw [e, show (fun i => if i < 7 then wr (cof B j i) else f i) = (fun i => if i < 7 then wr (P j i) else f i) from funext fun i => ?_]
  by_cases q : i < 7
  · rw [if_pos q, if_pos q]
    unfold cof
    rw [h2 j hj i q]
  · rw [if_neg q, if_neg q]
end ALG4
