theorem sl_at {sa : Nat → Nat} {i : Nat} (hi : i < 5) : (if (nI i).toNatClampNeg < 5 then some (sa (nI i).toNatClampNeg) else none) = some (sa i) := by
  rw [nI_cl (by omega), if_pos hi]
def lI (v : Int) : Int64 := Int64.ofInt v
theorem lI_int {v : Int} (h : v.natAbs < 9223372036854775808) : (lI v).toInt = v := Int64.toInt_ofInt_of_le (by omega) (by omega)
theorem iI_l {v : Int} (h : v.natAbs < 2147483648) : (iI v).toInt64.toInt = v := by rw [i32_i64, iI_int h]
section X6C
variable {cA : Nat → ClassId} {S : Nat → Nat → Nat} {h : mH} {x sl rw is : Nat} {sa : Nat → Nat} {Sl : Nat → Nat → Int} {T : Nat → Prop}
theorem slot_rd {s : Nat → Int} {k : Nat} (hk : k < 7) : (if (nI k).toNatClampNeg < 7 then iI (s (nI k).toNatClampNeg) else 0) = iI (s k) := by rw [nI_cl (by omega), if_pos hk]
theorem x_readRow (l : Launch) (D : va_G) (ho : own cA S T h x sl rw is sa Sl) {i : Nat} (hi : i < 5) : mCv l yX6_readRow cX6_readRow 3 (rmd 1) D (mT cA) [.ref x, .int (nI i)] h (fun h1 => ∃ g1, h1 = mup h rw (rowA (cA 1) g1) ∧ ∀ k, k < 7 → (g1 k).toInt = Sl i k) := by
  obtain ⟨hx, hsl, hsa, ⟨g, hr⟩, hinj, hb, -⟩ := ho
  have hne : x ≠ rw := fun w => by rw [w, hr] at hx; cases hx
  have hne2 : sl ≠ rw := fun w => by rw [w, hr] at hsl; simp [qA, rowA] at hsl
  have hne3 : sa i ≠ rw := fun w => by have := hsa i hi; rw [w, hr] at this; simp [slotA, rowA] at this
  refine mEnter_v (by decide) (Nat.le_of_ble_eq_true rfl) rfl (fun z X Vz => ?_)
  refine zi_iconst (v := (nI 0)) X dX6_readRow_0 (by decide) ?_
  refine zi_istore_n X dX6_readRow_1 rfl (by decide) ?_
  have loop : ∀ k j, j + k = 7 → ∀ g1 : Nat → Int64, (∀ t, t < j → (g1 t).toInt = Sl i t) → zM z 0 0 2 [some (.ref x), some (.int (nI i)), some (.int (nI j))] [] (mup h rw (rowA (cA 1) g1)) := by
    intro k
    induction k with
    | zero =>
      intro j hjk g1 hg
      have : j = 7 := by omega
      subst this
      have c5 : nI 7 ≤ nI 7 := by decide
      refine zi_iload_n X dX6_readRow_2 rfl rfl ?_
      refine zi_bipush (v := (nI 7)) X dX6_readRow_3 (by decide) ?_
      refine zi_icmp_ge (tgt := 29) X dX6_readRow_5 (by decide) (fun c_5 => ?_) (fun c_5 => (by first | exact absurd c5 c_5 | exact absurd c_5 c5))
      refine zi_return X Vz dX6_readRow_29 ?_
      exact ⟨g1, rfl, hg⟩
    | succ k ih =>
      intro j hjk g1 hg
      have c5 : ¬ nI 7 ≤ nI j := Int32.not_le.mpr ((nI_ltI (by omega) (by decide)).mpr (by omega))
      have h1 : mup h rw (rowA (cA 1) g1) x = some (xO S sl rw is) := by rw [mup_ne hne]; exact hx
      have h2 : mup h rw (rowA (cA 1) g1) rw = some (rowA (cA 1) g1) := mup_self
      have h3 : mup h rw (rowA (cA 1) g1) sl = some (qA (cA 4) 5 (fun i => if i < 5 then some (sa i) else none)) := by rw [mup_ne hne2]; exact hsl
      have h4 : mup h rw (rowA (cA 1) g1) (sa i) = some (slotA (cA 0) (Sl i)) := by rw [mup_ne hne3]; exact hsa i hi
      have hin : vp_in (nI j) 7 := vin (by omega) (by decide)
      refine zi_iload_n X dX6_readRow_2 rfl rfl ?_
      refine zi_bipush (v := (nI 7)) X dX6_readRow_3 (by decide) ?_
      refine zi_icmp_ge (tgt := 29) X dX6_readRow_5 (by decide) (fun c_5 => (by first | exact absurd c5 c_5 | exact absurd c_5 c5)) (fun c_5 => ?_)
      refine zi_aload_n X dX6_readRow_8 rfl rfl ?_
      refine zi_getf (C := RX6) (T := TX6) (N := 8) (ci := 10) X (by first | assumption | exact mup_self | (rw [mup_ne (by assumption)]; assumption) | (rw [mup_ne (by assumption)]; exact mup_self) | (rw [mup_ne (by assumption), mup_ne (by assumption)]; assumption)) rfl in_X6 1 (by decide) wf_X6_14 rfl rfl dX6_readRow_9 ?_
      refine zi_iload_n X dX6_readRow_12 rfl rfl ?_
      refine zi_aload_n X dX6_readRow_13 rfl rfl ?_
      refine zi_getf (C := RX6) (T := TX6) (N := 8) (ci := 10) X (by first | assumption | exact mup_self | (rw [mup_ne (by assumption)]; assumption) | (rw [mup_ne (by assumption)]; exact mup_self) | (rw [mup_ne (by assumption), mup_ne (by assumption)]; assumption)) rfl in_X6 0 (by decide) wf_X6_11 rfl rfl dX6_readRow_14 ?_
      refine zi_iload_n X dX6_readRow_17 rfl rfl ?_
      refine zi_aaldA X 4 (by first | assumption | exact mup_self | (rw [mup_ne (by assumption)]; assumption) | (rw [mup_ne (by assumption)]; exact mup_self) | (rw [mup_ne (by assumption), mup_ne (by assumption)]; assumption)) rfl (vin hi (by decide)) (sl_at hi) dX6_readRow_18 ?_
      refine zi_iload_n X dX6_readRow_19 rfl rfl ?_
      refine zi_iald X 0 (by first | assumption | exact mup_self | (rw [mup_ne (by assumption)]; assumption) | (rw [mup_ne (by assumption)]; exact mup_self) | (rw [mup_ne (by assumption), mup_ne (by assumption)]; assumption)) rfl (by assumption) dX6_readRow_20 ?_
      refine zi_i2l X dX6_readRow_21 ?_
      refine zi_last X 1 (by first | assumption | exact mup_self | (rw [mup_ne (by assumption)]; assumption) | (rw [mup_ne (by assumption)]; exact mup_self) | (rw [mup_ne (by assumption), mup_ne (by assumption)]; assumption)) rfl (by assumption) dX6_readRow_22 ?_
      rw [mup_mup, nI_cl (by omega), if_pos (by omega)]
      refine zi_iinc (v := nI (j + 1)) X dX6_readRow_23 rfl (nI_inc _) (by decide) ?_
      refine zi_goto (tgt := 2) X dX6_readRow_26 (by decide) ?_
      refine ih (j + 1) (by omega) (vp_updL g1 j (iI (Sl i j)).toInt64) (fun t ht => ?_)
      by_cases q : t = j
      · rw [q, vpL_s]; exact iI_l (by have := hb i j hi (by omega); omega)
      · rw [vpL_n q]; exact hg t (by omega)
  have := loop 7 0 (by omega) g (fun j hj => absurd hj (Nat.not_lt_zero _))
  rw [mup_same hr] at this
  exact this
theorem x_requireStorable (l : Launch) (hl : l.stackTraces = false) (D : va_G) {g : Nat → Int64} (hx : h x = some (xO S sl rw is)) (hr : h rw = some (rowA (cA 1) g)) : mCx l yX6_requireStorable cX6_requireStorable 2 none (rmc 6 1 6) D (mT cA) [.ref x] h (mFv h (fun h1 => h1 = h ∧ ∀ k, k < 7 → (g k).toInt.natAbs ≤ 9999)) (fun E h1 => E = eS ∧ h1 = h ∧ ¬ ∀ k, k < 7 → (g k).toInt.natAbs ≤ 9999) := by
  refine mEnter_x (by decide) (Nat.le_of_ble_eq_true rfl) rfl (fun z X Vz => ?_)
  refine zi_iconst (v := (nI 0)) X dX6_requireStorable_0 (by decide) ?_
  refine zi_istore_n X dX6_requireStorable_1 rfl (by decide) ?_
  have a1 : Int64.toInt (-9999) = -9999 := by decide
  have a2 : Int64.toInt 9999 = 9999 := by decide
  have loop : ∀ k j, j + k = 7 → (∀ t, t < j → (g t).toInt.natAbs ≤ 9999) → zM z 0 0 2 [some (.ref x), some (.int (nI j))] [] h := by
    intro k
    induction k with
    | zero =>
      intro j hjk hg
      have : j = 7 := by omega
      subst this
      have c5 : nI 7 ≤ nI 7 := by decide
      refine zi_iload_n X dX6_requireStorable_2 rfl rfl ?_
      refine zi_bipush (v := (nI 7)) X dX6_requireStorable_3 (by decide) ?_
      refine zi_icmp_ge (tgt := 51) X dX6_requireStorable_5 (by decide) (fun c_5 => ?_) (fun c_5 => (by first | exact absurd c5 c_5 | exact absurd c_5 c5))
      refine zi_widen (k := 1) (n := 6) (by decide) (by decide) ?_
      refine zi_xreturn X Vz dX6_requireStorable_51 ?_
      exact ⟨rfl, hg⟩
    | succ k ih =>
      intro j hjk hg
      have c5 : ¬ nI 7 ≤ nI j := Int32.not_le.mpr ((nI_ltI (by omega) (by decide)).mpr (by omega))
      have hin : vp_in (nI j) 7 := vin (by omega) (by decide)
      refine zi_iload_n X dX6_requireStorable_2 rfl rfl ?_
      refine zi_bipush (v := (nI 7)) X dX6_requireStorable_3 (by decide) ?_
      refine zi_icmp_ge (tgt := 51) X dX6_requireStorable_5 (by decide) (fun c_5 => (by first | exact absurd c5 c_5 | exact absurd c_5 c5)) (fun c_5 => ?_)
      refine zi_aload_n X dX6_requireStorable_8 rfl rfl ?_
      refine zi_getf (C := RX6) (T := TX6) (N := 8) (ci := 10) X (by first | assumption | exact mup_self | (rw [mup_ne (by assumption)]; assumption) | (rw [mup_ne (by assumption)]; exact mup_self) | (rw [mup_ne (by assumption), mup_ne (by assumption)]; assumption)) rfl in_X6 1 (by decide) wf_X6_14 rfl rfl dX6_requireStorable_9 ?_
      refine zi_iload_n X dX6_requireStorable_12 rfl rfl ?_
      refine zi_lald X 1 (by first | assumption | exact mup_self | (rw [mup_ne (by assumption)]; assumption) | (rw [mup_ne (by assumption)]; exact mup_self) | (rw [mup_ne (by assumption), mup_ne (by assumption)]; assumption)) rfl (by assumption) dX6_requireStorable_13 ?_
      rw [nI_cl (by omega)]
      refine zi_ldc2_w X wK_X6_277 dX6_requireStorable_14 ?_
      refine zi_lcmp X dX6_requireStorable_17 ?_
      refine zi_if_lt (tgt := 34) X dX6_requireStorable_18 (by decide) (fun c_18 => ?_) (fun c_18 => ?_)
      · have := (fa_lt64 _ _).mp ((lg_cmp_lt _ _).mp c_18)
        rw [a1] at this
        refine zi_throwSW hl X Vz xok_X6_86 xs_X6_281 dX6_requireStorable_34 dX6_requireStorable_37 dX6_requireStorable_38 dX6_requireStorable_41 dX6_requireStorable_44 (Nat.le_of_ble_eq_true rfl) (Nat.le_of_ble_eq_true rfl) (Nat.le_of_ble_eq_true rfl) (Nat.le_of_ble_eq_true rfl) (Nat.le_of_ble_eq_true rfl) (Nat.le_of_ble_eq_true rfl) ⟨rfl, rfl, fun q => by have := q j (by omega); omega⟩
      · have b1 : -9999 ≤ (g j).toInt := by
          refine Int.not_lt.mp (fun q => c_18 ((lg_cmp_lt _ _).mpr ((fa_lt64 _ _).mpr ?_)))
          rw [a1]; exact q
        refine zi_aload_n X dX6_requireStorable_21 rfl rfl ?_
        refine zi_getf (C := RX6) (T := TX6) (N := 8) (ci := 10) X (by first | assumption | exact mup_self | (rw [mup_ne (by assumption)]; assumption) | (rw [mup_ne (by assumption)]; exact mup_self) | (rw [mup_ne (by assumption), mup_ne (by assumption)]; assumption)) rfl in_X6 1 (by decide) wf_X6_14 rfl rfl dX6_requireStorable_22 ?_
        refine zi_iload_n X dX6_requireStorable_25 rfl rfl ?_
        refine zi_lald X 1 (by first | assumption | exact mup_self | (rw [mup_ne (by assumption)]; assumption) | (rw [mup_ne (by assumption)]; exact mup_self) | (rw [mup_ne (by assumption), mup_ne (by assumption)]; assumption)) rfl (by assumption) dX6_requireStorable_26 ?_
        rw [nI_cl (by omega)]
        refine zi_ldc2_w X wK_X6_279 dX6_requireStorable_27 ?_
        refine zi_lcmp X dX6_requireStorable_30 ?_
        refine zi_if_le (tgt := 45) X dX6_requireStorable_31 (by decide) (fun c_31 => ?_) (fun c_31 => ?_)
        · have b2 := (fa_le64 _ _).mp ((lg_cmp_le _ _).mp c_31)
          rw [a2] at b2
          refine zi_iinc (v := nI (j + 1)) X dX6_requireStorable_45 rfl (nI_inc _) (by decide) ?_
          refine zi_goto (tgt := 2) X dX6_requireStorable_48 (by decide) ?_
          refine ih (j + 1) (by omega) (fun t ht => ?_)
          by_cases q : t = j
          · rw [q]; omega
          · exact hg t (by omega)
        · have b2 : ¬ (g j).toInt ≤ 9999 := fun q => c_31 ((lg_cmp_le _ _).mpr ((fa_le64 _ _).mpr (by rw [a2]; exact q)))
          refine zi_throwSW hl X Vz xok_X6_86 xs_X6_281 dX6_requireStorable_34 dX6_requireStorable_37 dX6_requireStorable_38 dX6_requireStorable_41 dX6_requireStorable_44 (Nat.le_of_ble_eq_true rfl) (Nat.le_of_ble_eq_true rfl) (Nat.le_of_ble_eq_true rfl) (Nat.le_of_ble_eq_true rfl) (Nat.le_of_ble_eq_true rfl) (Nat.le_of_ble_eq_true rfl) ⟨rfl, rfl, fun q => by have := q j (by omega); omega⟩
  exact loop 7 0 (by omega) (fun j hj => absurd hj (Nat.not_lt_zero _))
/-- a slot is written -/
theorem own_set (ho : own cA S T h x sl rw is sa Sl) {i : Nat} (hi : i < 5) {s : Nat → Int} (hs : ∀ k, k < 7 → (s k).natAbs ≤ 9999) : own cA S T (mup h (sa i) (slotA (cA 0) s)) x sl rw is sa (fun j => if j = i then s else Sl j) := by
  obtain ⟨hx, hsl, hsa, ⟨g, hr⟩, hinj, hb, r1, r2, r3, r4⟩ := ho
  have o : ∀ a e, h a = some e → (∀ s, e ≠ slotA (cA 0) s) → mup h (sa i) (slotA (cA 0) s) a = some e := fun a e q1 q2 => by
    rw [mup_ne (fun w => by rw [w, hsa i hi] at q1; exact q2 _ (Option.some.inj q1).symm)]
    exact q1
  refine ⟨o _ _ hx (fun s q => by cases q), o _ _ hsl (fun s q => by simp [qA, slotA] at q), fun j hj => ?_, ⟨g, o _ _ hr (fun s q => by simp [rowA, slotA] at q)⟩, hinj, fun j k hj hk => ?_, r1, r2, r3, r4⟩
  · show _ = some (slotA (cA 0) (if j = i then s else Sl j))
    by_cases c : j = i
    · rw [c, if_pos rfl]; exact mup_self
    · rw [if_neg c, mup_ne (fun w => c (hinj j i hj hi w))]; exact hsa j hj
  · dsimp only
    by_cases c : j = i
    · rw [if_pos c]; exact hs k hk
    · rw [if_neg c]; exact hb j k hj hk
theorem own_row (ho : own cA S T h x sl rw is sa Sl) (g1 : Nat → Int64) : own cA S T (mup h rw (rowA (cA 1) g1)) x sl rw is sa Sl := by
  obtain ⟨hx, hsl, hsa, ⟨g, hr⟩, hinj, hb, r1, r2, r3, r4⟩ := ho
  have o : ∀ a e, h a = some e → (∀ s, e ≠ rowA (cA 1) s) → mup h rw (rowA (cA 1) g1) a = some e := fun a e q1 q2 => by
    rw [mup_ne (fun w => by rw [w, hr] at q1; exact q2 _ (Option.some.inj q1).symm)]
    exact q1
  exact ⟨o _ _ hx (fun s q => by cases q), o _ _ hsl (fun s q => by simp [qA, rowA] at q), fun j hj => o _ _ (hsa j hj) (fun s q => by simp [slotA, rowA] at q), ⟨g1, mup_self⟩, hinj, hb, r1, r2, r3, r4⟩
theorem slotA_cong {c : ClassId} {s t : Nat → Int} (h : ∀ k, k < 7 → s k = t k) : slotA c s = slotA c t := by
  unfold slotA
  refine congrArg (fun f => (Sum.inl (c, 7, Sum.inl f) : va_E)) (funext fun k => ?_)
  by_cases q : k < 7
  · rw [if_pos q, if_pos q, h k q]
  · rw [if_neg q, if_neg q]
theorem x_storeRow (l : Launch) (D : va_G) (ho : own cA S T h x sl rw is sa Sl) {i : Nat} (hi : i < 5) {g : Nat → Int64} (hr : h rw = some (rowA (cA 1) g)) {r : Nat → Int} (hg : ∀ k, k < 7 → (g k).toInt = r k) (hr9 : ∀ k, k < 7 → (r k).natAbs ≤ 9999) : mCi l yX6_storeRow cX6_storeRow 3 .int (rmd 2) D (mT cA) [.ref x, .int (nI i)] h (fun y h1 => y = iI (sDeg r) ∧ h1 = mup h (sa i) (slotA (cA 0) r)) := by
  refine mEnter_i (by decide) (Nat.le_of_ble_eq_true rfl) rfl (fun z X Vz => ?_)
  refine zi_iconst (v := (nI 0)) X dX6_storeRow_0 (by decide) ?_
  refine zi_istore_n X dX6_storeRow_1 rfl (by decide) ?_
  have ho' := ho
  obtain ⟨hx, hsl, hsa, -, hinj, hb, -⟩ := ho
  have hrs : sa i ≠ rw := fun w => by have := hsa i hi; rw [w, hr] at this; simp [slotA, rowA] at this
  have loop : ∀ k j, j + k = 7 → ∀ s : Nat → Int, (∀ t, t < j → s t = r t) → zM z 0 0 2 [some (.ref x), some (.int (nI i)), some (.int (nI j))] [] (mup h (sa i) (slotA (cA 0) s)) := by
    intro k
    induction k with
    | zero =>
      intro j hjk s hs
      have : j = 7 := by omega
      subst this
      rw [slotA_cong hs]
      obtain ⟨kx, ksl, ksa, -⟩ := own_set ho' hi hr9
      have k1 := ksa i hi
      dsimp only at k1
      rw [if_pos rfl] at k1
      have c5 : nI 7 ≤ nI 7 := by decide
      refine zi_iload_n X dX6_storeRow_2 rfl rfl ?_
      refine zi_bipush (v := (nI 7)) X dX6_storeRow_3 (by decide) ?_
      refine zi_icmp_ge (tgt := 29) X dX6_storeRow_5 (by decide) (fun c_5 => ?_) (fun c_5 => (by first | exact absurd c5 c_5 | exact absurd c_5 c5))
      refine zi_aload_n X dX6_storeRow_29 rfl rfl ?_
      refine zi_getf (C := RX6) (T := TX6) (N := 8) (ci := 10) X (by first | assumption | exact mup_self | (rw [mup_ne (by assumption)]; assumption) | (rw [mup_ne (by assumption)]; exact mup_self) | (rw [mup_ne (by assumption), mup_ne (by assumption)]; assumption)) rfl in_X6 0 (by decide) wf_X6_11 rfl rfl dX6_storeRow_30 ?_
      refine zi_iload_n X dX6_storeRow_33 rfl rfl ?_
      refine zi_aaldA X 4 (by first | assumption | exact mup_self | (rw [mup_ne (by assumption)]; assumption) | (rw [mup_ne (by assumption)]; exact mup_self) | (rw [mup_ne (by assumption), mup_ne (by assumption)]; assumption)) rfl (vin hi (by decide)) (sl_at hi) dX6_storeRow_34 ?_
      refine zi_callSi X (x_degreeOf l D k1 hr9) kc_X6_degreeOf wm_X6_68 wst_X6_degreeOf ⟨Nat.le_of_ble_eq_true rfl, Nat.le_of_ble_eq_true rfl⟩ rfl rfl (Nat.le_of_ble_eq_true rfl) ⟨Nat.le_of_ble_eq_true rfl, Nat.le_of_ble_eq_true rfl⟩ dX6_storeRow_35 (fun y g2 e1 => ?_)
      obtain ⟨e1, e2⟩ := e1
      subst e1
      refine zi_ireturn X Vz dX6_storeRow_38 ?_
      exact ⟨e2, rfl⟩
    | succ k ih =>
      intro j hjk s hs
      have hxs : x ≠ sa i := fun w => by have := hsa i hi; rw [← w, hx] at this; cases this
      have hss : sl ≠ sa i := fun w => by have := hsa i hi; rw [← w, hsl] at this; simp [qA, slotA] at this
      have kx : mup h (sa i) (slotA (cA 0) s) x = some (xO S sl rw is) := by rw [mup_ne hxs]; exact hx
      have ksl : mup h (sa i) (slotA (cA 0) s) sl = some (qA (cA 4) 5 (fun i => if i < 5 then some (sa i) else none)) := by rw [mup_ne hss]; exact hsl
      have kr : mup h (sa i) (slotA (cA 0) s) rw = some (rowA (cA 1) g) := by rw [mup_ne (Ne.symm hrs)]; exact hr
      have k1 : mup h (sa i) (slotA (cA 0) s) (sa i) = some (slotA (cA 0) s) := mup_self
      have c5 : ¬ nI 7 ≤ nI j := Int32.not_le.mpr ((nI_ltI (by omega) (by decide)).mpr (by omega))
      have hin : vp_in (nI j) 7 := vin (by omega) (by decide)
      refine zi_iload_n X dX6_storeRow_2 rfl rfl ?_
      refine zi_bipush (v := (nI 7)) X dX6_storeRow_3 (by decide) ?_
      refine zi_icmp_ge (tgt := 29) X dX6_storeRow_5 (by decide) (fun c_5 => (by first | exact absurd c5 c_5 | exact absurd c_5 c5)) (fun c_5 => ?_)
      refine zi_aload_n X dX6_storeRow_8 rfl rfl ?_
      refine zi_getf (C := RX6) (T := TX6) (N := 8) (ci := 10) X (by first | assumption | exact mup_self | (rw [mup_ne (by assumption)]; assumption) | (rw [mup_ne (by assumption)]; exact mup_self) | (rw [mup_ne (by assumption), mup_ne (by assumption)]; assumption)) rfl in_X6 0 (by decide) wf_X6_11 rfl rfl dX6_storeRow_9 ?_
      refine zi_iload_n X dX6_storeRow_12 rfl rfl ?_
      refine zi_aaldA X 4 (by first | assumption | exact mup_self | (rw [mup_ne (by assumption)]; assumption) | (rw [mup_ne (by assumption)]; exact mup_self) | (rw [mup_ne (by assumption), mup_ne (by assumption)]; assumption)) rfl (vin hi (by decide)) (sl_at hi) dX6_storeRow_13 ?_
      refine zi_iload_n X dX6_storeRow_14 rfl rfl ?_
      refine zi_aload_n X dX6_storeRow_15 rfl rfl ?_
      refine zi_getf (C := RX6) (T := TX6) (N := 8) (ci := 10) X (by first | assumption | exact mup_self | (rw [mup_ne (by assumption)]; assumption) | (rw [mup_ne (by assumption)]; exact mup_self) | (rw [mup_ne (by assumption), mup_ne (by assumption)]; assumption)) rfl in_X6 1 (by decide) wf_X6_14 rfl rfl dX6_storeRow_16 ?_
      refine zi_iload_n X dX6_storeRow_19 rfl rfl ?_
      refine zi_lald X 1 (by first | assumption | exact mup_self | (rw [mup_ne (by assumption)]; assumption) | (rw [mup_ne (by assumption)]; exact mup_self) | (rw [mup_ne (by assumption), mup_ne (by assumption)]; assumption)) rfl (by assumption) dX6_storeRow_20 ?_
      refine zi_l2i X dX6_storeRow_21 ?_
      refine zi_iast X 0 (by first | assumption | exact mup_self | (rw [mup_ne (by assumption)]; assumption) | (rw [mup_ne (by assumption)]; exact mup_self) | (rw [mup_ne (by assumption), mup_ne (by assumption)]; assumption)) rfl (by assumption) dX6_storeRow_22 ?_
      rw [mup_mup, nI_cl (by omega)]
      refine zi_iinc (v := nI (j + 1)) X dX6_storeRow_23 rfl (nI_inc _) (by decide) ?_
      refine zi_goto (tgt := 2) X dX6_storeRow_26 (by decide) ?_
      have e9 : upd (fun k => if k < 7 then iI (s k) else 0) j (g j).toInt32 = fun k => if k < 7 then iI (if k = j then r j else s k) else 0 := by
        funext k
        unfold upd
        by_cases q : k = j
        · rw [if_pos q, if_pos (by omega), if_pos q, ← hg j (by omega)]
          rfl
        · rw [if_neg q, if_neg q]
      refine zi_eqh (by rw [e9]; rfl) (ih (j + 1) (by omega) (fun k => if k = j then r j else s k) (fun t ht => ?_))
      show (if t = j then r j else s t) = r t
      by_cases q : t = j
      · rw [if_pos q, q]
      · rw [if_neg q]; exact hs t (by omega)
  have := loop 7 0 (by omega) (Sl i) (fun j hj => absurd hj (Nat.not_lt_zero _))
  rw [mup_same (hsa i hi)] at this
  exact this
end X6C
