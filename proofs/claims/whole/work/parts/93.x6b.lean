/-! SturmRoots' cells -/
def slotA (c : ClassId) (s : Nat → Int) : va_E := .inl (c, 7, .inl (fun k => if k < 7 then iI (s k) else 0))
def rowA (c : ClassId) (g : Nat → Int64) : va_E := .inl (c, 7, .inr (.inl g))
def xO (S : Nat → Nat → Nat) (sl rw is : Nat) : va_E := .inr (10, [.ref sl, .ref rw, .ref (S 6 0), .ref (S 2 0), .ref (S 2 1), .ref (S 2 2), .ref (S 4 0), .ref is])
def own (cA : Nat → ClassId) (S : Nat → Nat → Nat) (T : Nat → Prop) (h : mH) (x sl rw is : Nat) (sa : Nat → Nat) (Sl : Nat → Nat → Int) : Prop :=
  h x = some (xO S sl rw is) ∧ h sl = some (qA (cA 4) 5 (fun i => if i < 5 then some (sa i) else none)) ∧ (∀ i, i < 5 → h (sa i) = some (slotA (cA 0) (Sl i))) ∧ (∃ g, h rw = some (rowA (cA 1) g)) ∧ (∀ i j, i < 5 → j < 5 → sa i = sa j → i = j) ∧ (∀ i k, i < 5 → k < 7 → (Sl i k).natAbs ≤ 9999) ∧ (¬ hIn S x ∧ ¬ T x) ∧ (¬ hIn S sl ∧ ¬ T sl) ∧ (¬ hIn S rw ∧ ¬ T rw) ∧ ∀ i, i < 5 → ¬ hIn S (sa i) ∧ ¬ T (sa i)
/-- the degree, -1 for zero -/
def sDeg (s : Nat → Int) : Int := (stI s 7 : Int) - 1
theorem vpL_s {g : Nat → Int64} {i : Nat} {v : Int64} : vp_updL g i v i = v := by unfold vp_updL; simp
theorem vpL_n {g : Nat → Int64} {i j : Nat} {v : Int64} (h : j ≠ i) : vp_updL g i v j = g j := by unfold vp_updL; simp [h]
section X6B
variable {cA : Nat → ClassId} {S : Nat → Nat → Nat} {h : mH} {x sl rw is : Nat} {sa : Nat → Nat} {Sl : Nat → Nat → Int} {T : Nat → Prop}
theorem x_degreeOf (l : Launch) (D : va_G) {a : Nat} {s : Nat → Int} (ha : h a = some (slotA (cA 0) s)) (hs : ∀ k, k < 7 → (s k).natAbs ≤ 9999) : mCi l yX6_degreeOf cX6_degreeOf 2 .int (rmd 1) D (mT cA) [.ref a] h (fun r h1 => h1 = h ∧ r = iI (sDeg s)) := by
  refine mEnter_i (by decide) (Nat.le_of_ble_eq_true rfl) rfl (fun z X Vz => ?_)
  refine zi_bipush (v := (nI 6)) X dX6_degreeOf_0 (by decide) ?_
  refine zi_istore_n X dX6_degreeOf_2 rfl (by decide) ?_
  have loop : ∀ i, i ≤ 7 → (∀ k, i ≤ k → k < 7 → s k = 0) → zM z 0 0 3 [some (.ref a), some (.int (nI i - nI 1))] [] h := by
    intro i
    induction i with
    | zero =>
      intro _ hz
      have c4 : nI 0 - nI 1 < 0 := by decide
      refine zi_iload_n X dX6_degreeOf_3 rfl rfl ?_
      refine zi_if_lt (tgt := 21) X dX6_degreeOf_4 (by decide) (fun c_4 => ?_) (fun c_4 => (by first | exact absurd c4 c_4 | exact absurd c_4 c4))
      refine zi_iconst (v := (-1)) X dX6_degreeOf_21 (by decide) ?_
      refine zi_ireturn X Vz dX6_degreeOf_22 ?_
      refine ⟨rfl, ?_⟩
      unfold sDeg
      rw [stI_all (fun k hk => hz k (Nat.zero_le _) hk)]
      rfl
    | succ i ih =>
      intro hi hz
      rw [nI_pr]
      have c4 : ¬ nI i < 0 := (i_out (n := 7) (by decide) (by omega) rfl).1
      have hin : vp_in (nI i) 7 := vin (by omega) (by decide)
      refine zi_iload_n X dX6_degreeOf_3 rfl rfl ?_
      refine zi_if_lt (tgt := 21) X dX6_degreeOf_4 (by decide) (fun c_4 => (by first | exact absurd c4 c_4 | exact absurd c_4 c4)) (fun c_4 => ?_)
      refine zi_aload_n X dX6_degreeOf_7 rfl rfl ?_
      refine zi_iload_n X dX6_degreeOf_8 rfl rfl ?_
      refine zi_iald X 0 (by first | assumption | exact mup_self | (rw [mup_ne (by assumption)]; assumption) | (rw [mup_ne (by assumption)]; exact mup_self) | (rw [mup_ne (by assumption), mup_ne (by assumption)]; assumption)) rfl (by assumption) dX6_degreeOf_9 ?_
      have ev : (if (nI i).toNatClampNeg < 7 then iI (s (nI i).toNatClampNeg) else 0) = iI (s i) := by rw [nI_cl (by omega), if_pos (by omega)]
      rw [ev]
      by_cases c : s i = 0
      · have c10 : iI (s i) = 0 := by rw [c]; rfl
        refine zi_if_eq (tgt := 15) X dX6_degreeOf_10 (by decide) (fun c_10 => ?_) (fun c_10 => (by first | exact absurd c10 c_10 | exact absurd c_10 c10))
        refine zi_iinc X dX6_degreeOf_15 rfl rfl (by decide) ?_
        refine zi_goto (tgt := 3) X dX6_degreeOf_18 (by decide) ?_
        rw [i_m1]
        refine ih (by omega) (fun k h1 h2 => ?_)
        by_cases q : k = i
        · rw [q]; exact c
        · exact hz k (by omega) h2
      · have c10 : ¬ iI (s i) = 0 := fun w => c (iI_inj (by have := hs i (by omega); omega) (by decide) w)
        refine zi_if_eq (tgt := 15) X dX6_degreeOf_10 (by decide) (fun c_10 => (by first | exact absurd c10 c_10 | exact absurd c_10 c10)) (fun c_10 => ?_)
        refine zi_iload_n X dX6_degreeOf_13 rfl rfl ?_
        refine zi_ireturn X Vz dX6_degreeOf_14 ?_
        refine ⟨rfl, ?_⟩
        unfold sDeg
        have e1 : stI s 7 = i + 1 := by
          have h1 : stI s 7 ≤ i + 1 := Nat.le_of_not_lt (fun q => by
            have h0 := stI_top (p := s) (n := 7) (by omega)
            exact h0 (hz _ (by omega) (by have := stI_le s 7; omega)))
          have h2 : i < stI s 7 := Nat.lt_of_not_le (fun q => c (stI_z q (by omega)))
          omega
        rw [e1, iI_nat]
        congr 1
        omega
  exact loop 7 (Nat.le_refl _) (fun k h1 h2 => by omega)
theorem x_clearRow (l : Launch) (D : va_G) {g : Nat → Int64} (hx : h x = some (xO S sl rw is)) (hr : h rw = some (rowA (cA 1) g)) : mCv l yX6_clearRow cX6_clearRow 2 (rmd 1) D (mT cA) [.ref x] h (fun h1 => ∃ g1, h1 = mup h rw (rowA (cA 1) g1) ∧ ∀ k, k < 7 → g1 k = 0) := by
  have hne : x ≠ rw := fun w => by rw [w, hr] at hx; cases hx
  refine mEnter_v (by decide) (Nat.le_of_ble_eq_true rfl) rfl (fun z X Vz => ?_)
  refine zi_iconst (v := (nI 0)) X dX6_clearRow_0 (by decide) ?_
  refine zi_istore_n X dX6_clearRow_1 rfl (by decide) ?_
  have loop : ∀ k i, i + k = 7 → ∀ g1 : Nat → Int64, (∀ j, j < i → g1 j = 0) → zM z 0 0 2 [some (.ref x), some (.int (nI i))] [] (mup h rw (rowA (cA 1) g1)) := by
    intro k
    induction k with
    | zero =>
      intro i hik g1 hg
      have : i = 7 := by omega
      subst this
      have c5 : nI 7 ≤ nI 7 := by decide
      refine zi_iload_n X dX6_clearRow_2 rfl rfl ?_
      refine zi_bipush (v := (nI 7)) X dX6_clearRow_3 (by decide) ?_
      refine zi_icmp_ge (tgt := 21) X dX6_clearRow_5 (by decide) (fun c_5 => ?_) (fun c_5 => (by first | exact absurd c5 c_5 | exact absurd c_5 c5))
      refine zi_return X Vz dX6_clearRow_21 ?_
      exact ⟨g1, rfl, hg⟩
    | succ k ih =>
      intro i hik g1 hg
      have c5 : ¬ nI 7 ≤ nI i := Int32.not_le.mpr ((nI_ltI (by omega) (by decide)).mpr (by omega))
      have h1 : mup h rw (rowA (cA 1) g1) x = some (xO S sl rw is) := by rw [mup_ne hne]; exact hx
      have h2 : mup h rw (rowA (cA 1) g1) rw = some (rowA (cA 1) g1) := mup_self
      have hin : vp_in (nI i) 7 := vin (by omega) (by decide)
      refine zi_iload_n X dX6_clearRow_2 rfl rfl ?_
      refine zi_bipush (v := (nI 7)) X dX6_clearRow_3 (by decide) ?_
      refine zi_icmp_ge (tgt := 21) X dX6_clearRow_5 (by decide) (fun c_5 => (by first | exact absurd c5 c_5 | exact absurd c_5 c5)) (fun c_5 => ?_)
      refine zi_aload_n X dX6_clearRow_8 rfl rfl ?_
      refine zi_getf (C := RX6) (T := TX6) (N := 8) (ci := 10) X (by first | assumption | exact mup_self | (rw [mup_ne (by assumption)]; assumption) | (rw [mup_ne (by assumption)]; exact mup_self) | (rw [mup_ne (by assumption), mup_ne (by assumption)]; assumption)) rfl in_X6 1 (by decide) wf_X6_14 rfl rfl dX6_clearRow_9 ?_
      refine zi_iload_n X dX6_clearRow_12 rfl rfl ?_
      refine zi_lconst (v := lN 0) X dX6_clearRow_13 (by decide) ?_
      refine zi_last X 1 (by first | assumption | exact mup_self | (rw [mup_ne (by assumption)]; assumption) | (rw [mup_ne (by assumption)]; exact mup_self) | (rw [mup_ne (by assumption), mup_ne (by assumption)]; assumption)) rfl (by assumption) dX6_clearRow_14 ?_
      rw [mup_mup, nI_cl (by omega)]
      refine zi_iinc (v := nI (i + 1)) X dX6_clearRow_15 rfl (nI_inc _) (by decide) ?_
      refine zi_goto (tgt := 2) X dX6_clearRow_18 (by decide) ?_
      refine ih (i + 1) (by omega) (vp_updL g1 i (lN 0)) (fun j hj => ?_)
      by_cases q : j = i
      · rw [q]; exact vpL_s
      · rw [vpL_n q]; exact hg j (by omega)
  have := loop 7 0 (by omega) g (fun j hj => absurd hj (Nat.not_lt_zero _))
  rw [mup_same hr] at this
  exact this
end X6B
