/-! the law: its wrappers (what is thrown becomes a number) -/
def wO (c : ClassId) (g : Nat → Int64) : va_E := .inl (c, 1, .inr (.inl g))
def wPost (cA : Nat → ClassId) (ou : Nat) (Q : Int64 → mH → Prop) (PX : String → mH → Prop) (Es : List String) (k : Int32) (h1 : mH) : Prop := ∃ hs1 g1, (∀ a e, hs1 a = some e → h1 a = some e) ∧ hs1 ou = none ∧ h1 ou = some (wO (cA 1) g1) ∧ (k = nI 0 ∧ Q (g1 0) hs1 ∨ ∃ j E, Es[j]? = some E ∧ k = nI (j + 1) ∧ PX E hs1)
theorem mx_eI : eI ∈ mXs := List.mem_cons_self
theorem mx_eA : eA ∈ mXs := (List.mem_cons_of_mem _ List.mem_cons_self)
theorem mx_eS : eS ∈ mXs := (List.mem_cons_of_mem _ (List.mem_cons_of_mem _ List.mem_cons_self))
theorem mx_eM : eM ∈ mXs := (List.mem_cons_of_mem _ (List.mem_cons_of_mem _ (List.mem_cons_of_mem _ List.mem_cons_self)))
theorem mx_eN : eN ∈ mXs := (List.mem_cons_of_mem _ (List.mem_cons_of_mem _ (List.mem_cons_of_mem _ (List.mem_cons_of_mem _ List.mem_cons_self))))
theorem ne_eI_eA : eI ≠ eA := by decide
theorem ne_eI_eS : eI ≠ eS := by decide
theorem ne_eI_eM : eI ≠ eM := by decide
theorem ne_eI_eN : eI ≠ eN := by decide
theorem ne_eA_eI : eA ≠ eI := by decide
theorem ne_eA_eS : eA ≠ eS := by decide
theorem ne_eA_eM : eA ≠ eM := by decide
theorem ne_eA_eN : eA ≠ eN := by decide
theorem ne_eS_eI : eS ≠ eI := by decide
theorem ne_eS_eA : eS ≠ eA := by decide
theorem ne_eS_eM : eS ≠ eM := by decide
theorem ne_eS_eN : eS ≠ eN := by decide
theorem ne_eM_eI : eM ≠ eI := by decide
theorem ne_eM_eA : eM ≠ eA := by decide
theorem ne_eM_eS : eM ≠ eS := by decide
theorem ne_eM_eN : eM ≠ eN := by decide
theorem ne_eN_eI : eN ≠ eI := by decide
theorem ne_eN_eA : eN ≠ eA := by decide
theorem ne_eN_eS : eN ≠ eS := by decide
theorem ne_eN_eM : eN ≠ eM := by decide
section WRAP
variable {cA : Nat → ClassId} {l : Launch} {D : va_G} {hs : mH} {x ou : Nat} {fs : List Value} {g : Nat → Int64} {PX : String → mH → Prop}
theorem w_ne (hx : hs x = some (.inr (10, fs))) (ho : hs ou = none) : x ≠ ou := fun q => by rw [q, ho] at hx; cases hx
theorem w_sub (ho : hs ou = none) {e0 : va_E} : ∀ a e, hs a = some e → mup hs ou e0 a = some e := fun a e ha => by
  rw [mup_ne (fun q => by rw [q, ho] at ha; cases ha)]
  exact ha
theorem w_ok {h1 : mH} {Q : Int64 → mH → Prop} {Es : List String} {v : Int64} (ho : hs ou = none) (hn : ∀ a, hs a = none → mup hs ou (wO (cA 1) g) a ≠ none → h1 a = none) (hq : Q v h1) : wPost cA ou Q PX Es (nI 0) (mup (mjoin (mup hs ou (wO (cA 1) g)) hs h1) ou (wO (cA 1) (vp_updL g 0 v))) := by
  have h1o : h1 ou = none := hn ou ho (by rw [mup_self]; exact Option.some_ne_none _)
  refine ⟨h1, vp_updL g 0 v, fun a e ha => ?_, h1o, mup_self, Or.inl ⟨rfl, by rw [vpL_s]; exact hq⟩⟩
  rw [mup_ne (fun q => by rw [q, h1o] at ha; cases ha)]
  exact mjoin_l ha
theorem w_x {h1 : mH} {Q : Int64 → mH → Prop} {Es : List String} {E : String} {j : Nat} (ho : hs ou = none) (hn : ∀ a, hs a = none → mup hs ou (wO (cA 1) g) a ≠ none → h1 a = none) (hj : Es[j]? = some E) (hp : PX E h1) : wPost cA ou Q PX Es (nI (j + 1)) (mjoin (mup hs ou (wO (cA 1) g)) hs h1) :=
  ⟨h1, g, fun a e ha => mjoin_l ha, hn ou ho (by rw [mup_self]; exact Option.some_ne_none _), mjoin_r hn ho mup_self, Or.inr ⟨j, E, hj, rfl, hp⟩⟩
theorem w_set {Q : Int32 → mH → Prop} {a0 a1 a2 : Int32} (hM : mCx l yX6_set cX6_set 4 (some .int) (rmc 7 3 18) D (mT cA) [.ref x, .int a0, .int a1, .int a2] hs (mFi hs Q) PX) (hE : ∀ E h1, PX E h1 → E ∈ [eI, eA]) (hx : hs x = some (.inr (10, fs))) (ho : hs ou = none) :
    mCh l yL_set cL_set 6 (some .int) [(0, 12, 15, 13), (0, 12, 19, 15)] (rmc 8 3 18) D (mT cA) [.ref x, .int a0, .int a1, .int a2, .ref ou] (mup hs ou (wO (cA 1) g)) (mFi (mup hs ou (wO (cA 1) g)) (wPost cA ou (fun v h1 => ∃ r : Int32, v = r.toInt64 ∧ Q r h1) PX [eI, eA])) := by
  have hne := w_ne hx ho
  have hxx : mup hs ou (wO (cA 1) g) x = some (.inr (10, fs)) := by rw [mup_ne hne]; exact hx
  refine mEnter_h (by decide) (Nat.le_of_ble_eq_true rfl) rfl (fun z X Vz => ?_)
  refine zi_aload X dL_set_0 rfl ?_
  refine zi_iconst (v := (nI 0)) X dL_set_2 (by decide) ?_
  refine zi_aload_n X dL_set_3 rfl rfl ?_
  refine zi_iload_n X dL_set_4 rfl rfl ?_
  refine zi_iload_n X dL_set_5 rfl rfl ?_
  refine zi_iload_n X dL_set_6 rfl rfl ?_
  refine zi_xcallViF X (hM) kc_X6_set wm_L_7 hxx rfl wim_X6_set wse_X6_set (w_sub ho) ⟨Nat.le_of_ble_eq_true rfl, Nat.le_of_ble_eq_true rfl⟩ rfl rfl (Nat.le_of_ble_eq_true rfl) ⟨Nat.le_of_ble_eq_true rfl, Nat.le_of_ble_eq_true rfl⟩ dL_set_7 (fun E h1 hp hn => ?_) (fun r h1 hq hn => ?_)
  · have hE := hE E h1 hp
    simp only [List.mem_cons, List.not_mem_nil, or_false] at hE
    rcases hE with rfl | rfl
    · refine zt_catch X Vz [] (0, 12, 15, 13) [(0, 12, 19, 15)] rfl (fun q hq => absurd hq List.not_mem_nil) mx_eI (by decide) (by decide) wc_L_13 wcc_eI (fun q => ?_)
      refine zi_astore X dL_set_15 (by decide) ?_
      refine zi_iconst (v := (nI 1)) X dL_set_17 (by decide) ?_
      refine zi_hireturn X Vz dL_set_18 ?_
      exact w_x ho hn (j := 0) rfl hp
    · refine zt_catch X Vz [(0, 12, 15, 13)] (0, 12, 19, 15) [] rfl (List.forall_mem_cons.mpr ⟨⟨by decide, eI, mx_eI, wc_L_13, ne_eA_eI⟩, fun q hq => absurd hq List.not_mem_nil⟩) mx_eA (by decide) (by decide) wc_L_15 wcc_eA (fun q => ?_)
      refine zi_astore X dL_set_19 (by decide) ?_
      refine zi_iconst (v := (nI 2)) X dL_set_21 (by decide) ?_
      refine zi_hireturn X Vz dL_set_22 ?_
      exact w_x ho hn (j := 1) rfl hp
  · have hou : mjoin (mup hs ou (wO (cA 1) g)) hs h1 ou = some (wO (cA 1) g) := mjoin_r hn ho mup_self
    refine zi_i2l X dL_set_10 ?_
    refine zi_last X 1 hou rfl (vin (show 0 < 1 by decide) (by decide)) dL_set_11 ?_
    refine zi_goto (tgt := 23) X dL_set_12 (by decide) ?_
    refine zi_iconst (v := (nI 0)) X dL_set_23 (by decide) ?_
    refine zi_hireturn X Vz dL_set_24 ?_
    exact w_ok ho hn ⟨r, rfl, hq⟩
theorem w_coefficient {Q : Int32 → mH → Prop} {a0 a1 : Int32} (hM : mCx l yX6_coefficient cX6_coefficient 3 (some .int) (rmc 7 2 12) D (mT cA) [.ref x, .int a0, .int a1] hs (mFi hs Q) PX) (hE : ∀ E h1, PX E h1 → E ∈ [eI]) (hx : hs x = some (.inr (10, fs))) (ho : hs ou = none) :
    mCh l yL_coefficient cL_coefficient 5 (some .int) [(0, 10, 13, 13)] (rmc 8 2 12) D (mT cA) [.ref x, .int a0, .int a1, .ref ou] (mup hs ou (wO (cA 1) g)) (mFi (mup hs ou (wO (cA 1) g)) (wPost cA ou (fun v h1 => ∃ r : Int32, v = r.toInt64 ∧ Q r h1) PX [eI])) := by
  have hne := w_ne hx ho
  have hxx : mup hs ou (wO (cA 1) g) x = some (.inr (10, fs)) := by rw [mup_ne hne]; exact hx
  refine mEnter_h (by decide) (Nat.le_of_ble_eq_true rfl) rfl (fun z X Vz => ?_)
  refine zi_aload_n X dL_coefficient_0 rfl rfl ?_
  refine zi_iconst (v := (nI 0)) X dL_coefficient_1 (by decide) ?_
  refine zi_aload_n X dL_coefficient_2 rfl rfl ?_
  refine zi_iload_n X dL_coefficient_3 rfl rfl ?_
  refine zi_iload_n X dL_coefficient_4 rfl rfl ?_
  refine zi_xcallViF X (hM) kc_X6_coefficient wm_L_17 hxx rfl wim_X6_coefficient wse_X6_coefficient (w_sub ho) ⟨Nat.le_of_ble_eq_true rfl, Nat.le_of_ble_eq_true rfl⟩ rfl rfl (Nat.le_of_ble_eq_true rfl) ⟨Nat.le_of_ble_eq_true rfl, Nat.le_of_ble_eq_true rfl⟩ dL_coefficient_5 (fun E h1 hp hn => ?_) (fun r h1 hq hn => ?_)
  · have hE := hE E h1 hp
    simp only [List.mem_cons, List.not_mem_nil, or_false] at hE
    rcases hE with rfl
    refine zt_catch X Vz [] (0, 10, 13, 13) [] rfl (fun q hq => absurd hq List.not_mem_nil) mx_eI (by decide) (by decide) wc_L_13 wcc_eI (fun q => ?_)
    refine zi_astore X dL_coefficient_13 (by decide) ?_
    refine zi_iconst (v := (nI 1)) X dL_coefficient_15 (by decide) ?_
    refine zi_hireturn X Vz dL_coefficient_16 ?_
    exact w_x ho hn (j := 0) rfl hp
  · have hou : mjoin (mup hs ou (wO (cA 1) g)) hs h1 ou = some (wO (cA 1) g) := mjoin_r hn ho mup_self
    refine zi_i2l X dL_coefficient_8 ?_
    refine zi_last X 1 hou rfl (vin (show 0 < 1 by decide) (by decide)) dL_coefficient_9 ?_
    refine zi_goto (tgt := 17) X dL_coefficient_10 (by decide) ?_
    refine zi_iconst (v := (nI 0)) X dL_coefficient_17 (by decide) ?_
    refine zi_hireturn X Vz dL_coefficient_18 ?_
    exact w_ok ho hn ⟨r, rfl, hq⟩
theorem w_degree {Q : Int32 → mH → Prop} {a0 : Int32} (hM : mCx l yX6_degree cX6_degree 2 (some .int) (rmc 7 1 6) D (mT cA) [.ref x, .int a0] hs (mFi hs Q) PX) (hE : ∀ E h1, PX E h1 → E ∈ [eI]) (hx : hs x = some (.inr (10, fs))) (ho : hs ou = none) :
    mCh l yL_degree cL_degree 4 (some .int) [(0, 9, 12, 13)] (rmc 8 1 6) D (mT cA) [.ref x, .int a0, .ref ou] (mup hs ou (wO (cA 1) g)) (mFi (mup hs ou (wO (cA 1) g)) (wPost cA ou (fun v h1 => ∃ r : Int32, v = r.toInt64 ∧ Q r h1) PX [eI])) := by
  have hne := w_ne hx ho
  have hxx : mup hs ou (wO (cA 1) g) x = some (.inr (10, fs)) := by rw [mup_ne hne]; exact hx
  refine mEnter_h (by decide) (Nat.le_of_ble_eq_true rfl) rfl (fun z X Vz => ?_)
  refine zi_aload_n X dL_degree_0 rfl rfl ?_
  refine zi_iconst (v := (nI 0)) X dL_degree_1 (by decide) ?_
  refine zi_aload_n X dL_degree_2 rfl rfl ?_
  refine zi_iload_n X dL_degree_3 rfl rfl ?_
  refine zi_xcallViF X (hM) kc_X6_degree wm_L_21 hxx rfl wim_X6_degree wse_X6_degree (w_sub ho) ⟨Nat.le_of_ble_eq_true rfl, Nat.le_of_ble_eq_true rfl⟩ rfl rfl (Nat.le_of_ble_eq_true rfl) ⟨Nat.le_of_ble_eq_true rfl, Nat.le_of_ble_eq_true rfl⟩ dL_degree_4 (fun E h1 hp hn => ?_) (fun r h1 hq hn => ?_)
  · have hE := hE E h1 hp
    simp only [List.mem_cons, List.not_mem_nil, or_false] at hE
    rcases hE with rfl
    refine zt_catch X Vz [] (0, 9, 12, 13) [] rfl (fun q hq => absurd hq List.not_mem_nil) mx_eI (by decide) (by decide) wc_L_13 wcc_eI (fun q => ?_)
    refine zi_astore_n X dL_degree_12 rfl (by decide) ?_
    refine zi_iconst (v := (nI 1)) X dL_degree_13 (by decide) ?_
    refine zi_hireturn X Vz dL_degree_14 ?_
    exact w_x ho hn (j := 0) rfl hp
  · have hou : mjoin (mup hs ou (wO (cA 1) g)) hs h1 ou = some (wO (cA 1) g) := mjoin_r hn ho mup_self
    refine zi_i2l X dL_degree_7 ?_
    refine zi_last X 1 hou rfl (vin (show 0 < 1 by decide) (by decide)) dL_degree_8 ?_
    refine zi_goto (tgt := 15) X dL_degree_9 (by decide) ?_
    refine zi_iconst (v := (nI 0)) X dL_degree_15 (by decide) ?_
    refine zi_hireturn X Vz dL_degree_16 ?_
    exact w_ok ho hn ⟨r, rfl, hq⟩
theorem w_copy {Q : Int32 → mH → Prop} {a0 a1 : Int32} (hM : mCx l yX6_copy cX6_copy 3 (some .int) (rmc 7 2 12) D (mT cA) [.ref x, .int a0, .int a1] hs (mFi hs Q) PX) (hE : ∀ E h1, PX E h1 → E ∈ [eI]) (hx : hs x = some (.inr (10, fs))) (ho : hs ou = none) :
    mCh l yL_copy cL_copy 5 (some .int) [(0, 10, 13, 13)] (rmc 8 2 12) D (mT cA) [.ref x, .int a0, .int a1, .ref ou] (mup hs ou (wO (cA 1) g)) (mFi (mup hs ou (wO (cA 1) g)) (wPost cA ou (fun v h1 => ∃ r : Int32, v = r.toInt64 ∧ Q r h1) PX [eI])) := by
  have hne := w_ne hx ho
  have hxx : mup hs ou (wO (cA 1) g) x = some (.inr (10, fs)) := by rw [mup_ne hne]; exact hx
  refine mEnter_h (by decide) (Nat.le_of_ble_eq_true rfl) rfl (fun z X Vz => ?_)
  refine zi_aload_n X dL_copy_0 rfl rfl ?_
  refine zi_iconst (v := (nI 0)) X dL_copy_1 (by decide) ?_
  refine zi_aload_n X dL_copy_2 rfl rfl ?_
  refine zi_iload_n X dL_copy_3 rfl rfl ?_
  refine zi_iload_n X dL_copy_4 rfl rfl ?_
  refine zi_xcallViF X (hM) kc_X6_copy wm_L_25 hxx rfl wim_X6_copy wse_X6_copy (w_sub ho) ⟨Nat.le_of_ble_eq_true rfl, Nat.le_of_ble_eq_true rfl⟩ rfl rfl (Nat.le_of_ble_eq_true rfl) ⟨Nat.le_of_ble_eq_true rfl, Nat.le_of_ble_eq_true rfl⟩ dL_copy_5 (fun E h1 hp hn => ?_) (fun r h1 hq hn => ?_)
  · have hE := hE E h1 hp
    simp only [List.mem_cons, List.not_mem_nil, or_false] at hE
    rcases hE with rfl
    refine zt_catch X Vz [] (0, 10, 13, 13) [] rfl (fun q hq => absurd hq List.not_mem_nil) mx_eI (by decide) (by decide) wc_L_13 wcc_eI (fun q => ?_)
    refine zi_astore X dL_copy_13 (by decide) ?_
    refine zi_iconst (v := (nI 1)) X dL_copy_15 (by decide) ?_
    refine zi_hireturn X Vz dL_copy_16 ?_
    exact w_x ho hn (j := 0) rfl hp
  · have hou : mjoin (mup hs ou (wO (cA 1) g)) hs h1 ou = some (wO (cA 1) g) := mjoin_r hn ho mup_self
    refine zi_i2l X dL_copy_8 ?_
    refine zi_last X 1 hou rfl (vin (show 0 < 1 by decide) (by decide)) dL_copy_9 ?_
    refine zi_goto (tgt := 17) X dL_copy_10 (by decide) ?_
    refine zi_iconst (v := (nI 0)) X dL_copy_17 (by decide) ?_
    refine zi_hireturn X Vz dL_copy_18 ?_
    exact w_ok ho hn ⟨r, rfl, hq⟩
theorem w_add {Q : Int32 → mH → Prop} {a0 a1 a2 : Int32} (hM : mCx l yX6_add cX6_add 5 (some .int) (rmc 7 4 24) D (mT cA) [.ref x, .int a0, .int a1, .int a2] hs (mFi hs Q) PX) (hE : ∀ E h1, PX E h1 → E ∈ [eI, eS]) (hx : hs x = some (.inr (10, fs))) (ho : hs ou = none) :
    mCh l yL_add cL_add 6 (some .int) [(0, 12, 15, 13), (0, 12, 19, 31)] (rmc 8 4 24) D (mT cA) [.ref x, .int a0, .int a1, .int a2, .ref ou] (mup hs ou (wO (cA 1) g)) (mFi (mup hs ou (wO (cA 1) g)) (wPost cA ou (fun v h1 => ∃ r : Int32, v = r.toInt64 ∧ Q r h1) PX [eI, eS])) := by
  have hne := w_ne hx ho
  have hxx : mup hs ou (wO (cA 1) g) x = some (.inr (10, fs)) := by rw [mup_ne hne]; exact hx
  refine mEnter_h (by decide) (Nat.le_of_ble_eq_true rfl) rfl (fun z X Vz => ?_)
  refine zi_aload X dL_add_0 rfl ?_
  refine zi_iconst (v := (nI 0)) X dL_add_2 (by decide) ?_
  refine zi_aload_n X dL_add_3 rfl rfl ?_
  refine zi_iload_n X dL_add_4 rfl rfl ?_
  refine zi_iload_n X dL_add_5 rfl rfl ?_
  refine zi_iload_n X dL_add_6 rfl rfl ?_
  refine zi_xcallViF X (hM) kc_X6_add wm_L_28 hxx rfl wim_X6_add wse_X6_add (w_sub ho) ⟨Nat.le_of_ble_eq_true rfl, Nat.le_of_ble_eq_true rfl⟩ rfl rfl (Nat.le_of_ble_eq_true rfl) ⟨Nat.le_of_ble_eq_true rfl, Nat.le_of_ble_eq_true rfl⟩ dL_add_7 (fun E h1 hp hn => ?_) (fun r h1 hq hn => ?_)
  · have hE := hE E h1 hp
    simp only [List.mem_cons, List.not_mem_nil, or_false] at hE
    rcases hE with rfl | rfl
    · refine zt_catch X Vz [] (0, 12, 15, 13) [(0, 12, 19, 31)] rfl (fun q hq => absurd hq List.not_mem_nil) mx_eI (by decide) (by decide) wc_L_13 wcc_eI (fun q => ?_)
      refine zi_astore X dL_add_15 (by decide) ?_
      refine zi_iconst (v := (nI 1)) X dL_add_17 (by decide) ?_
      refine zi_hireturn X Vz dL_add_18 ?_
      exact w_x ho hn (j := 0) rfl hp
    · refine zt_catch X Vz [(0, 12, 15, 13)] (0, 12, 19, 31) [] rfl (List.forall_mem_cons.mpr ⟨⟨by decide, eI, mx_eI, wc_L_13, ne_eS_eI⟩, fun q hq => absurd hq List.not_mem_nil⟩) mx_eS (by decide) (by decide) wc_L_31 wcc_eS (fun q => ?_)
      refine zi_astore X dL_add_19 (by decide) ?_
      refine zi_iconst (v := (nI 2)) X dL_add_21 (by decide) ?_
      refine zi_hireturn X Vz dL_add_22 ?_
      exact w_x ho hn (j := 1) rfl hp
  · have hou : mjoin (mup hs ou (wO (cA 1) g)) hs h1 ou = some (wO (cA 1) g) := mjoin_r hn ho mup_self
    refine zi_i2l X dL_add_10 ?_
    refine zi_last X 1 hou rfl (vin (show 0 < 1 by decide) (by decide)) dL_add_11 ?_
    refine zi_goto (tgt := 23) X dL_add_12 (by decide) ?_
    refine zi_iconst (v := (nI 0)) X dL_add_23 (by decide) ?_
    refine zi_hireturn X Vz dL_add_24 ?_
    exact w_ok ho hn ⟨r, rfl, hq⟩
theorem w_multiply {Q : Int32 → mH → Prop} {a0 a1 a2 : Int32} (hM : mCx l yX6_multiply cX6_multiply 8 (some .int) (rmc 7 4 24) D (mT cA) [.ref x, .int a0, .int a1, .int a2] hs (mFi hs Q) PX) (hE : ∀ E h1, PX E h1 → E ∈ [eI, eS]) (hx : hs x = some (.inr (10, fs))) (ho : hs ou = none) :
    mCh l yL_multiply cL_multiply 6 (some .int) [(0, 12, 15, 13), (0, 12, 19, 31)] (rmc 8 4 24) D (mT cA) [.ref x, .int a0, .int a1, .int a2, .ref ou] (mup hs ou (wO (cA 1) g)) (mFi (mup hs ou (wO (cA 1) g)) (wPost cA ou (fun v h1 => ∃ r : Int32, v = r.toInt64 ∧ Q r h1) PX [eI, eS])) := by
  have hne := w_ne hx ho
  have hxx : mup hs ou (wO (cA 1) g) x = some (.inr (10, fs)) := by rw [mup_ne hne]; exact hx
  refine mEnter_h (by decide) (Nat.le_of_ble_eq_true rfl) rfl (fun z X Vz => ?_)
  refine zi_aload X dL_multiply_0 rfl ?_
  refine zi_iconst (v := (nI 0)) X dL_multiply_2 (by decide) ?_
  refine zi_aload_n X dL_multiply_3 rfl rfl ?_
  refine zi_iload_n X dL_multiply_4 rfl rfl ?_
  refine zi_iload_n X dL_multiply_5 rfl rfl ?_
  refine zi_iload_n X dL_multiply_6 rfl rfl ?_
  refine zi_xcallViF X (hM) kc_X6_multiply wm_L_33 hxx rfl wim_X6_multiply wse_X6_multiply (w_sub ho) ⟨Nat.le_of_ble_eq_true rfl, Nat.le_of_ble_eq_true rfl⟩ rfl rfl (Nat.le_of_ble_eq_true rfl) ⟨Nat.le_of_ble_eq_true rfl, Nat.le_of_ble_eq_true rfl⟩ dL_multiply_7 (fun E h1 hp hn => ?_) (fun r h1 hq hn => ?_)
  · have hE := hE E h1 hp
    simp only [List.mem_cons, List.not_mem_nil, or_false] at hE
    rcases hE with rfl | rfl
    · refine zt_catch X Vz [] (0, 12, 15, 13) [(0, 12, 19, 31)] rfl (fun q hq => absurd hq List.not_mem_nil) mx_eI (by decide) (by decide) wc_L_13 wcc_eI (fun q => ?_)
      refine zi_astore X dL_multiply_15 (by decide) ?_
      refine zi_iconst (v := (nI 1)) X dL_multiply_17 (by decide) ?_
      refine zi_hireturn X Vz dL_multiply_18 ?_
      exact w_x ho hn (j := 0) rfl hp
    · refine zt_catch X Vz [(0, 12, 15, 13)] (0, 12, 19, 31) [] rfl (List.forall_mem_cons.mpr ⟨⟨by decide, eI, mx_eI, wc_L_13, ne_eS_eI⟩, fun q hq => absurd hq List.not_mem_nil⟩) mx_eS (by decide) (by decide) wc_L_31 wcc_eS (fun q => ?_)
      refine zi_astore X dL_multiply_19 (by decide) ?_
      refine zi_iconst (v := (nI 2)) X dL_multiply_21 (by decide) ?_
      refine zi_hireturn X Vz dL_multiply_22 ?_
      exact w_x ho hn (j := 1) rfl hp
  · have hou : mjoin (mup hs ou (wO (cA 1) g)) hs h1 ou = some (wO (cA 1) g) := mjoin_r hn ho mup_self
    refine zi_i2l X dL_multiply_10 ?_
    refine zi_last X 1 hou rfl (vin (show 0 < 1 by decide) (by decide)) dL_multiply_11 ?_
    refine zi_goto (tgt := 23) X dL_multiply_12 (by decide) ?_
    refine zi_iconst (v := (nI 0)) X dL_multiply_23 (by decide) ?_
    refine zi_hireturn X Vz dL_multiply_24 ?_
    exact w_ok ho hn ⟨r, rfl, hq⟩
theorem w_derivative {Q : Int32 → mH → Prop} {a0 a1 : Int32} (hM : mCx l yX6_derivative cX6_derivative 4 (some .int) (rmc 7 3 18) D (mT cA) [.ref x, .int a0, .int a1] hs (mFi hs Q) PX) (hE : ∀ E h1, PX E h1 → E ∈ [eI, eS]) (hx : hs x = some (.inr (10, fs))) (ho : hs ou = none) :
    mCh l yL_derivative cL_derivative 5 (some .int) [(0, 10, 13, 13), (0, 10, 17, 31)] (rmc 8 3 18) D (mT cA) [.ref x, .int a0, .int a1, .ref ou] (mup hs ou (wO (cA 1) g)) (mFi (mup hs ou (wO (cA 1) g)) (wPost cA ou (fun v h1 => ∃ r : Int32, v = r.toInt64 ∧ Q r h1) PX [eI, eS])) := by
  have hne := w_ne hx ho
  have hxx : mup hs ou (wO (cA 1) g) x = some (.inr (10, fs)) := by rw [mup_ne hne]; exact hx
  refine mEnter_h (by decide) (Nat.le_of_ble_eq_true rfl) rfl (fun z X Vz => ?_)
  refine zi_aload_n X dL_derivative_0 rfl rfl ?_
  refine zi_iconst (v := (nI 0)) X dL_derivative_1 (by decide) ?_
  refine zi_aload_n X dL_derivative_2 rfl rfl ?_
  refine zi_iload_n X dL_derivative_3 rfl rfl ?_
  refine zi_iload_n X dL_derivative_4 rfl rfl ?_
  refine zi_xcallViF X (hM) kc_X6_derivative wm_L_36 hxx rfl wim_X6_derivative wse_X6_derivative (w_sub ho) ⟨Nat.le_of_ble_eq_true rfl, Nat.le_of_ble_eq_true rfl⟩ rfl rfl (Nat.le_of_ble_eq_true rfl) ⟨Nat.le_of_ble_eq_true rfl, Nat.le_of_ble_eq_true rfl⟩ dL_derivative_5 (fun E h1 hp hn => ?_) (fun r h1 hq hn => ?_)
  · have hE := hE E h1 hp
    simp only [List.mem_cons, List.not_mem_nil, or_false] at hE
    rcases hE with rfl | rfl
    · refine zt_catch X Vz [] (0, 10, 13, 13) [(0, 10, 17, 31)] rfl (fun q hq => absurd hq List.not_mem_nil) mx_eI (by decide) (by decide) wc_L_13 wcc_eI (fun q => ?_)
      refine zi_astore X dL_derivative_13 (by decide) ?_
      refine zi_iconst (v := (nI 1)) X dL_derivative_15 (by decide) ?_
      refine zi_hireturn X Vz dL_derivative_16 ?_
      exact w_x ho hn (j := 0) rfl hp
    · refine zt_catch X Vz [(0, 10, 13, 13)] (0, 10, 17, 31) [] rfl (List.forall_mem_cons.mpr ⟨⟨by decide, eI, mx_eI, wc_L_13, ne_eS_eI⟩, fun q hq => absurd hq List.not_mem_nil⟩) mx_eS (by decide) (by decide) wc_L_31 wcc_eS (fun q => ?_)
      refine zi_astore X dL_derivative_17 (by decide) ?_
      refine zi_iconst (v := (nI 2)) X dL_derivative_19 (by decide) ?_
      refine zi_hireturn X Vz dL_derivative_20 ?_
      exact w_x ho hn (j := 1) rfl hp
  · have hou : mjoin (mup hs ou (wO (cA 1) g)) hs h1 ou = some (wO (cA 1) g) := mjoin_r hn ho mup_self
    refine zi_i2l X dL_derivative_8 ?_
    refine zi_last X 1 hou rfl (vin (show 0 < 1 by decide) (by decide)) dL_derivative_9 ?_
    refine zi_goto (tgt := 21) X dL_derivative_10 (by decide) ?_
    refine zi_iconst (v := (nI 0)) X dL_derivative_21 (by decide) ?_
    refine zi_hireturn X Vz dL_derivative_22 ?_
    exact w_ok ho hn ⟨r, rfl, hq⟩
theorem w_shift {Q : Int32 → mH → Prop} {a0 a1 a2 : Int32} (hM : mCx l yX6_shift cX6_shift 6 (some .int) (rmc 7 3 18) D (mT cA) [.ref x, .int a0, .int a1, .int a2] hs (mFi hs Q) PX) (hE : ∀ E h1, PX E h1 → E ∈ [eI, eA, eS]) (hx : hs x = some (.inr (10, fs))) (ho : hs ou = none) :
    mCh l yL_shift cL_shift 6 (some .int) [(0, 12, 15, 13), (0, 12, 19, 15), (0, 12, 23, 31)] (rmc 8 3 18) D (mT cA) [.ref x, .int a0, .int a1, .int a2, .ref ou] (mup hs ou (wO (cA 1) g)) (mFi (mup hs ou (wO (cA 1) g)) (wPost cA ou (fun v h1 => ∃ r : Int32, v = r.toInt64 ∧ Q r h1) PX [eI, eA, eS])) := by
  have hne := w_ne hx ho
  have hxx : mup hs ou (wO (cA 1) g) x = some (.inr (10, fs)) := by rw [mup_ne hne]; exact hx
  refine mEnter_h (by decide) (Nat.le_of_ble_eq_true rfl) rfl (fun z X Vz => ?_)
  refine zi_aload X dL_shift_0 rfl ?_
  refine zi_iconst (v := (nI 0)) X dL_shift_2 (by decide) ?_
  refine zi_aload_n X dL_shift_3 rfl rfl ?_
  refine zi_iload_n X dL_shift_4 rfl rfl ?_
  refine zi_iload_n X dL_shift_5 rfl rfl ?_
  refine zi_iload_n X dL_shift_6 rfl rfl ?_
  refine zi_xcallViF X (hM) kc_X6_shift wm_L_39 hxx rfl wim_X6_shift wse_X6_shift (w_sub ho) ⟨Nat.le_of_ble_eq_true rfl, Nat.le_of_ble_eq_true rfl⟩ rfl rfl (Nat.le_of_ble_eq_true rfl) ⟨Nat.le_of_ble_eq_true rfl, Nat.le_of_ble_eq_true rfl⟩ dL_shift_7 (fun E h1 hp hn => ?_) (fun r h1 hq hn => ?_)
  · have hE := hE E h1 hp
    simp only [List.mem_cons, List.not_mem_nil, or_false] at hE
    rcases hE with rfl | rfl | rfl
    · refine zt_catch X Vz [] (0, 12, 15, 13) [(0, 12, 19, 15), (0, 12, 23, 31)] rfl (fun q hq => absurd hq List.not_mem_nil) mx_eI (by decide) (by decide) wc_L_13 wcc_eI (fun q => ?_)
      refine zi_astore X dL_shift_15 (by decide) ?_
      refine zi_iconst (v := (nI 1)) X dL_shift_17 (by decide) ?_
      refine zi_hireturn X Vz dL_shift_18 ?_
      exact w_x ho hn (j := 0) rfl hp
    · refine zt_catch X Vz [(0, 12, 15, 13)] (0, 12, 19, 15) [(0, 12, 23, 31)] rfl (List.forall_mem_cons.mpr ⟨⟨by decide, eI, mx_eI, wc_L_13, ne_eA_eI⟩, fun q hq => absurd hq List.not_mem_nil⟩) mx_eA (by decide) (by decide) wc_L_15 wcc_eA (fun q => ?_)
      refine zi_astore X dL_shift_19 (by decide) ?_
      refine zi_iconst (v := (nI 2)) X dL_shift_21 (by decide) ?_
      refine zi_hireturn X Vz dL_shift_22 ?_
      exact w_x ho hn (j := 1) rfl hp
    · refine zt_catch X Vz [(0, 12, 15, 13), (0, 12, 19, 15)] (0, 12, 23, 31) [] rfl (List.forall_mem_cons.mpr ⟨⟨by decide, eI, mx_eI, wc_L_13, ne_eS_eI⟩, List.forall_mem_cons.mpr ⟨⟨by decide, eA, mx_eA, wc_L_15, ne_eS_eA⟩, fun q hq => absurd hq List.not_mem_nil⟩⟩) mx_eS (by decide) (by decide) wc_L_31 wcc_eS (fun q => ?_)
      refine zi_astore X dL_shift_23 (by decide) ?_
      refine zi_iconst (v := (nI 3)) X dL_shift_25 (by decide) ?_
      refine zi_hireturn X Vz dL_shift_26 ?_
      exact w_x ho hn (j := 2) rfl hp
  · have hou : mjoin (mup hs ou (wO (cA 1) g)) hs h1 ou = some (wO (cA 1) g) := mjoin_r hn ho mup_self
    refine zi_i2l X dL_shift_10 ?_
    refine zi_last X 1 hou rfl (vin (show 0 < 1 by decide) (by decide)) dL_shift_11 ?_
    refine zi_goto (tgt := 27) X dL_shift_12 (by decide) ?_
    refine zi_iconst (v := (nI 0)) X dL_shift_27 (by decide) ?_
    refine zi_hireturn X Vz dL_shift_28 ?_
    exact w_ok ho hn ⟨r, rfl, hq⟩
theorem w_reflect {Q : Int32 → mH → Prop} {a0 a1 : Int32} (hM : mCx l yX6_reflect cX6_reflect 4 (some .int) (rmc 7 2 12) D (mT cA) [.ref x, .int a0, .int a1] hs (mFi hs Q) PX) (hE : ∀ E h1, PX E h1 → E ∈ [eI]) (hx : hs x = some (.inr (10, fs))) (ho : hs ou = none) :
    mCh l yL_reflect cL_reflect 5 (some .int) [(0, 10, 13, 13)] (rmc 8 2 12) D (mT cA) [.ref x, .int a0, .int a1, .ref ou] (mup hs ou (wO (cA 1) g)) (mFi (mup hs ou (wO (cA 1) g)) (wPost cA ou (fun v h1 => ∃ r : Int32, v = r.toInt64 ∧ Q r h1) PX [eI])) := by
  have hne := w_ne hx ho
  have hxx : mup hs ou (wO (cA 1) g) x = some (.inr (10, fs)) := by rw [mup_ne hne]; exact hx
  refine mEnter_h (by decide) (Nat.le_of_ble_eq_true rfl) rfl (fun z X Vz => ?_)
  refine zi_aload_n X dL_reflect_0 rfl rfl ?_
  refine zi_iconst (v := (nI 0)) X dL_reflect_1 (by decide) ?_
  refine zi_aload_n X dL_reflect_2 rfl rfl ?_
  refine zi_iload_n X dL_reflect_3 rfl rfl ?_
  refine zi_iload_n X dL_reflect_4 rfl rfl ?_
  refine zi_xcallViF X (hM) kc_X6_reflect wm_L_42 hxx rfl wim_X6_reflect wse_X6_reflect (w_sub ho) ⟨Nat.le_of_ble_eq_true rfl, Nat.le_of_ble_eq_true rfl⟩ rfl rfl (Nat.le_of_ble_eq_true rfl) ⟨Nat.le_of_ble_eq_true rfl, Nat.le_of_ble_eq_true rfl⟩ dL_reflect_5 (fun E h1 hp hn => ?_) (fun r h1 hq hn => ?_)
  · have hE := hE E h1 hp
    simp only [List.mem_cons, List.not_mem_nil, or_false] at hE
    rcases hE with rfl
    refine zt_catch X Vz [] (0, 10, 13, 13) [] rfl (fun q hq => absurd hq List.not_mem_nil) mx_eI (by decide) (by decide) wc_L_13 wcc_eI (fun q => ?_)
    refine zi_astore X dL_reflect_13 (by decide) ?_
    refine zi_iconst (v := (nI 1)) X dL_reflect_15 (by decide) ?_
    refine zi_hireturn X Vz dL_reflect_16 ?_
    exact w_x ho hn (j := 0) rfl hp
  · have hou : mjoin (mup hs ou (wO (cA 1) g)) hs h1 ou = some (wO (cA 1) g) := mjoin_r hn ho mup_self
    refine zi_i2l X dL_reflect_8 ?_
    refine zi_last X 1 hou rfl (vin (show 0 < 1 by decide) (by decide)) dL_reflect_9 ?_
    refine zi_goto (tgt := 17) X dL_reflect_10 (by decide) ?_
    refine zi_iconst (v := (nI 0)) X dL_reflect_17 (by decide) ?_
    refine zi_hireturn X Vz dL_reflect_18 ?_
    exact w_ok ho hn ⟨r, rfl, hq⟩
theorem w_scale {Q : Int32 → mH → Prop} {a0 a1 a2 : Int32} (hM : mCx l yX6_scale cX6_scale 7 (some .int) (rmc 7 3 18) D (mT cA) [.ref x, .int a0, .int a1, .int a2] hs (mFi hs Q) PX) (hE : ∀ E h1, PX E h1 → E ∈ [eI, eA, eS]) (hx : hs x = some (.inr (10, fs))) (ho : hs ou = none) :
    mCh l yL_scale cL_scale 6 (some .int) [(0, 12, 15, 13), (0, 12, 19, 15), (0, 12, 23, 31)] (rmc 8 3 18) D (mT cA) [.ref x, .int a0, .int a1, .int a2, .ref ou] (mup hs ou (wO (cA 1) g)) (mFi (mup hs ou (wO (cA 1) g)) (wPost cA ou (fun v h1 => ∃ r : Int32, v = r.toInt64 ∧ Q r h1) PX [eI, eA, eS])) := by
  have hne := w_ne hx ho
  have hxx : mup hs ou (wO (cA 1) g) x = some (.inr (10, fs)) := by rw [mup_ne hne]; exact hx
  refine mEnter_h (by decide) (Nat.le_of_ble_eq_true rfl) rfl (fun z X Vz => ?_)
  refine zi_aload X dL_scale_0 rfl ?_
  refine zi_iconst (v := (nI 0)) X dL_scale_2 (by decide) ?_
  refine zi_aload_n X dL_scale_3 rfl rfl ?_
  refine zi_iload_n X dL_scale_4 rfl rfl ?_
  refine zi_iload_n X dL_scale_5 rfl rfl ?_
  refine zi_iload_n X dL_scale_6 rfl rfl ?_
  refine zi_xcallViF X (hM) kc_X6_scale wm_L_45 hxx rfl wim_X6_scale wse_X6_scale (w_sub ho) ⟨Nat.le_of_ble_eq_true rfl, Nat.le_of_ble_eq_true rfl⟩ rfl rfl (Nat.le_of_ble_eq_true rfl) ⟨Nat.le_of_ble_eq_true rfl, Nat.le_of_ble_eq_true rfl⟩ dL_scale_7 (fun E h1 hp hn => ?_) (fun r h1 hq hn => ?_)
  · have hE := hE E h1 hp
    simp only [List.mem_cons, List.not_mem_nil, or_false] at hE
    rcases hE with rfl | rfl | rfl
    · refine zt_catch X Vz [] (0, 12, 15, 13) [(0, 12, 19, 15), (0, 12, 23, 31)] rfl (fun q hq => absurd hq List.not_mem_nil) mx_eI (by decide) (by decide) wc_L_13 wcc_eI (fun q => ?_)
      refine zi_astore X dL_scale_15 (by decide) ?_
      refine zi_iconst (v := (nI 1)) X dL_scale_17 (by decide) ?_
      refine zi_hireturn X Vz dL_scale_18 ?_
      exact w_x ho hn (j := 0) rfl hp
    · refine zt_catch X Vz [(0, 12, 15, 13)] (0, 12, 19, 15) [(0, 12, 23, 31)] rfl (List.forall_mem_cons.mpr ⟨⟨by decide, eI, mx_eI, wc_L_13, ne_eA_eI⟩, fun q hq => absurd hq List.not_mem_nil⟩) mx_eA (by decide) (by decide) wc_L_15 wcc_eA (fun q => ?_)
      refine zi_astore X dL_scale_19 (by decide) ?_
      refine zi_iconst (v := (nI 2)) X dL_scale_21 (by decide) ?_
      refine zi_hireturn X Vz dL_scale_22 ?_
      exact w_x ho hn (j := 1) rfl hp
    · refine zt_catch X Vz [(0, 12, 15, 13), (0, 12, 19, 15)] (0, 12, 23, 31) [] rfl (List.forall_mem_cons.mpr ⟨⟨by decide, eI, mx_eI, wc_L_13, ne_eS_eI⟩, List.forall_mem_cons.mpr ⟨⟨by decide, eA, mx_eA, wc_L_15, ne_eS_eA⟩, fun q hq => absurd hq List.not_mem_nil⟩⟩) mx_eS (by decide) (by decide) wc_L_31 wcc_eS (fun q => ?_)
      refine zi_astore X dL_scale_23 (by decide) ?_
      refine zi_iconst (v := (nI 3)) X dL_scale_25 (by decide) ?_
      refine zi_hireturn X Vz dL_scale_26 ?_
      exact w_x ho hn (j := 2) rfl hp
  · have hou : mjoin (mup hs ou (wO (cA 1) g)) hs h1 ou = some (wO (cA 1) g) := mjoin_r hn ho mup_self
    refine zi_i2l X dL_scale_10 ?_
    refine zi_last X 1 hou rfl (vin (show 0 < 1 by decide) (by decide)) dL_scale_11 ?_
    refine zi_goto (tgt := 27) X dL_scale_12 (by decide) ?_
    refine zi_iconst (v := (nI 0)) X dL_scale_27 (by decide) ?_
    refine zi_hireturn X Vz dL_scale_28 ?_
    exact w_ok ho hn ⟨r, rfl, hq⟩
theorem w_gcd {Q : Int32 → mH → Prop} {a0 a1 a2 : Int32} (hM : mCx l yX6_gcd cX6_gcd 4 (some .int) (rmc 8 4 24) D (mT cA) [.ref x, .int a0, .int a1, .int a2] hs (mFi hs Q) PX) (hE : ∀ E h1, PX E h1 → E ∈ [eI, eS]) (hx : hs x = some (.inr (10, fs))) (ho : hs ou = none) :
    mCh l yL_gcd cL_gcd 6 (some .int) [(0, 12, 15, 13), (0, 12, 19, 31)] (rmc 9 4 24) D (mT cA) [.ref x, .int a0, .int a1, .int a2, .ref ou] (mup hs ou (wO (cA 1) g)) (mFi (mup hs ou (wO (cA 1) g)) (wPost cA ou (fun v h1 => ∃ r : Int32, v = r.toInt64 ∧ Q r h1) PX [eI, eS])) := by
  have hne := w_ne hx ho
  have hxx : mup hs ou (wO (cA 1) g) x = some (.inr (10, fs)) := by rw [mup_ne hne]; exact hx
  refine mEnter_h (by decide) (Nat.le_of_ble_eq_true rfl) rfl (fun z X Vz => ?_)
  refine zi_aload X dL_gcd_0 rfl ?_
  refine zi_iconst (v := (nI 0)) X dL_gcd_2 (by decide) ?_
  refine zi_aload_n X dL_gcd_3 rfl rfl ?_
  refine zi_iload_n X dL_gcd_4 rfl rfl ?_
  refine zi_iload_n X dL_gcd_5 rfl rfl ?_
  refine zi_iload_n X dL_gcd_6 rfl rfl ?_
  refine zi_xcallViF X (hM) kc_X6_gcd wm_L_48 hxx rfl wim_X6_gcd wse_X6_gcd (w_sub ho) ⟨Nat.le_of_ble_eq_true rfl, Nat.le_of_ble_eq_true rfl⟩ rfl rfl (Nat.le_of_ble_eq_true rfl) ⟨Nat.le_of_ble_eq_true rfl, Nat.le_of_ble_eq_true rfl⟩ dL_gcd_7 (fun E h1 hp hn => ?_) (fun r h1 hq hn => ?_)
  · have hE := hE E h1 hp
    simp only [List.mem_cons, List.not_mem_nil, or_false] at hE
    rcases hE with rfl | rfl
    · refine zt_catch X Vz [] (0, 12, 15, 13) [(0, 12, 19, 31)] rfl (fun q hq => absurd hq List.not_mem_nil) mx_eI (by decide) (by decide) wc_L_13 wcc_eI (fun q => ?_)
      refine zi_astore X dL_gcd_15 (by decide) ?_
      refine zi_iconst (v := (nI 1)) X dL_gcd_17 (by decide) ?_
      refine zi_hireturn X Vz dL_gcd_18 ?_
      exact w_x ho hn (j := 0) rfl hp
    · refine zt_catch X Vz [(0, 12, 15, 13)] (0, 12, 19, 31) [] rfl (List.forall_mem_cons.mpr ⟨⟨by decide, eI, mx_eI, wc_L_13, ne_eS_eI⟩, fun q hq => absurd hq List.not_mem_nil⟩) mx_eS (by decide) (by decide) wc_L_31 wcc_eS (fun q => ?_)
      refine zi_astore X dL_gcd_19 (by decide) ?_
      refine zi_iconst (v := (nI 2)) X dL_gcd_21 (by decide) ?_
      refine zi_hireturn X Vz dL_gcd_22 ?_
      exact w_x ho hn (j := 1) rfl hp
  · have hou : mjoin (mup hs ou (wO (cA 1) g)) hs h1 ou = some (wO (cA 1) g) := mjoin_r hn ho mup_self
    refine zi_i2l X dL_gcd_10 ?_
    refine zi_last X 1 hou rfl (vin (show 0 < 1 by decide) (by decide)) dL_gcd_11 ?_
    refine zi_goto (tgt := 23) X dL_gcd_12 (by decide) ?_
    refine zi_iconst (v := (nI 0)) X dL_gcd_23 (by decide) ?_
    refine zi_hireturn X Vz dL_gcd_24 ?_
    exact w_ok ho hn ⟨r, rfl, hq⟩
theorem w_squareFreePart {Q : Int32 → mH → Prop} {a0 a1 : Int32} (hM : mCx l yX6_squareFreePart cX6_squareFreePart 3 (some .int) (rmc 8 4 24) D (mT cA) [.ref x, .int a0, .int a1] hs (mFi hs Q) PX) (hE : ∀ E h1, PX E h1 → E ∈ [eI, eM, eS]) (hx : hs x = some (.inr (10, fs))) (ho : hs ou = none) :
    mCh l yL_squareFreePart cL_squareFreePart 5 (some .int) [(0, 10, 13, 13), (0, 10, 17, 54), (0, 10, 21, 31)] (rmc 9 4 24) D (mT cA) [.ref x, .int a0, .int a1, .ref ou] (mup hs ou (wO (cA 1) g)) (mFi (mup hs ou (wO (cA 1) g)) (wPost cA ou (fun v h1 => ∃ r : Int32, v = r.toInt64 ∧ Q r h1) PX [eI, eM, eS])) := by
  have hne := w_ne hx ho
  have hxx : mup hs ou (wO (cA 1) g) x = some (.inr (10, fs)) := by rw [mup_ne hne]; exact hx
  refine mEnter_h (by decide) (Nat.le_of_ble_eq_true rfl) rfl (fun z X Vz => ?_)
  refine zi_aload_n X dL_squareFreePart_0 rfl rfl ?_
  refine zi_iconst (v := (nI 0)) X dL_squareFreePart_1 (by decide) ?_
  refine zi_aload_n X dL_squareFreePart_2 rfl rfl ?_
  refine zi_iload_n X dL_squareFreePart_3 rfl rfl ?_
  refine zi_iload_n X dL_squareFreePart_4 rfl rfl ?_
  refine zi_xcallViF X (hM) kc_X6_squareFreePart wm_L_51 hxx rfl wim_X6_squareFreePart wse_X6_squareFreePart (w_sub ho) ⟨Nat.le_of_ble_eq_true rfl, Nat.le_of_ble_eq_true rfl⟩ rfl rfl (Nat.le_of_ble_eq_true rfl) ⟨Nat.le_of_ble_eq_true rfl, Nat.le_of_ble_eq_true rfl⟩ dL_squareFreePart_5 (fun E h1 hp hn => ?_) (fun r h1 hq hn => ?_)
  · have hE := hE E h1 hp
    simp only [List.mem_cons, List.not_mem_nil, or_false] at hE
    rcases hE with rfl | rfl | rfl
    · refine zt_catch X Vz [] (0, 10, 13, 13) [(0, 10, 17, 54), (0, 10, 21, 31)] rfl (fun q hq => absurd hq List.not_mem_nil) mx_eI (by decide) (by decide) wc_L_13 wcc_eI (fun q => ?_)
      refine zi_astore X dL_squareFreePart_13 (by decide) ?_
      refine zi_iconst (v := (nI 1)) X dL_squareFreePart_15 (by decide) ?_
      refine zi_hireturn X Vz dL_squareFreePart_16 ?_
      exact w_x ho hn (j := 0) rfl hp
    · refine zt_catch X Vz [(0, 10, 13, 13)] (0, 10, 17, 54) [(0, 10, 21, 31)] rfl (List.forall_mem_cons.mpr ⟨⟨by decide, eI, mx_eI, wc_L_13, ne_eM_eI⟩, fun q hq => absurd hq List.not_mem_nil⟩) mx_eM (by decide) (by decide) wc_L_54 wcc_eM (fun q => ?_)
      refine zi_astore X dL_squareFreePart_17 (by decide) ?_
      refine zi_iconst (v := (nI 2)) X dL_squareFreePart_19 (by decide) ?_
      refine zi_hireturn X Vz dL_squareFreePart_20 ?_
      exact w_x ho hn (j := 1) rfl hp
    · refine zt_catch X Vz [(0, 10, 13, 13), (0, 10, 17, 54)] (0, 10, 21, 31) [] rfl (List.forall_mem_cons.mpr ⟨⟨by decide, eI, mx_eI, wc_L_13, ne_eS_eI⟩, List.forall_mem_cons.mpr ⟨⟨by decide, eM, mx_eM, wc_L_54, ne_eS_eM⟩, fun q hq => absurd hq List.not_mem_nil⟩⟩) mx_eS (by decide) (by decide) wc_L_31 wcc_eS (fun q => ?_)
      refine zi_astore X dL_squareFreePart_21 (by decide) ?_
      refine zi_iconst (v := (nI 3)) X dL_squareFreePart_23 (by decide) ?_
      refine zi_hireturn X Vz dL_squareFreePart_24 ?_
      exact w_x ho hn (j := 2) rfl hp
  · have hou : mjoin (mup hs ou (wO (cA 1) g)) hs h1 ou = some (wO (cA 1) g) := mjoin_r hn ho mup_self
    refine zi_i2l X dL_squareFreePart_8 ?_
    refine zi_last X 1 hou rfl (vin (show 0 < 1 by decide) (by decide)) dL_squareFreePart_9 ?_
    refine zi_goto (tgt := 25) X dL_squareFreePart_10 (by decide) ?_
    refine zi_iconst (v := (nI 0)) X dL_squareFreePart_25 (by decide) ?_
    refine zi_hireturn X Vz dL_squareFreePart_26 ?_
    exact w_ok ho hn ⟨r, rfl, hq⟩
theorem w_sturmLength {Q : Int32 → mH → Prop} {a0 : Int32} (hM : mCx l yX6_sturmLength cX6_sturmLength 2 (some .int) (rmc 8 2 12) D (mT cA) [.ref x, .int a0] hs (mFi hs Q) PX) (hE : ∀ E h1, PX E h1 → E ∈ [eI, eM]) (hx : hs x = some (.inr (10, fs))) (ho : hs ou = none) :
    mCh l yL_sturmLength cL_sturmLength 4 (some .int) [(0, 9, 12, 13), (0, 9, 15, 54)] (rmc 9 2 12) D (mT cA) [.ref x, .int a0, .ref ou] (mup hs ou (wO (cA 1) g)) (mFi (mup hs ou (wO (cA 1) g)) (wPost cA ou (fun v h1 => ∃ r : Int32, v = r.toInt64 ∧ Q r h1) PX [eI, eM])) := by
  have hne := w_ne hx ho
  have hxx : mup hs ou (wO (cA 1) g) x = some (.inr (10, fs)) := by rw [mup_ne hne]; exact hx
  refine mEnter_h (by decide) (Nat.le_of_ble_eq_true rfl) rfl (fun z X Vz => ?_)
  refine zi_aload_n X dL_sturmLength_0 rfl rfl ?_
  refine zi_iconst (v := (nI 0)) X dL_sturmLength_1 (by decide) ?_
  refine zi_aload_n X dL_sturmLength_2 rfl rfl ?_
  refine zi_iload_n X dL_sturmLength_3 rfl rfl ?_
  refine zi_xcallViF X (hM) kc_X6_sturmLength wm_L_56 hxx rfl wim_X6_sturmLength wse_X6_sturmLength (w_sub ho) ⟨Nat.le_of_ble_eq_true rfl, Nat.le_of_ble_eq_true rfl⟩ rfl rfl (Nat.le_of_ble_eq_true rfl) ⟨Nat.le_of_ble_eq_true rfl, Nat.le_of_ble_eq_true rfl⟩ dL_sturmLength_4 (fun E h1 hp hn => ?_) (fun r h1 hq hn => ?_)
  · have hE := hE E h1 hp
    simp only [List.mem_cons, List.not_mem_nil, or_false] at hE
    rcases hE with rfl | rfl
    · refine zt_catch X Vz [] (0, 9, 12, 13) [(0, 9, 15, 54)] rfl (fun q hq => absurd hq List.not_mem_nil) mx_eI (by decide) (by decide) wc_L_13 wcc_eI (fun q => ?_)
      refine zi_astore_n X dL_sturmLength_12 rfl (by decide) ?_
      refine zi_iconst (v := (nI 1)) X dL_sturmLength_13 (by decide) ?_
      refine zi_hireturn X Vz dL_sturmLength_14 ?_
      exact w_x ho hn (j := 0) rfl hp
    · refine zt_catch X Vz [(0, 9, 12, 13)] (0, 9, 15, 54) [] rfl (List.forall_mem_cons.mpr ⟨⟨by decide, eI, mx_eI, wc_L_13, ne_eM_eI⟩, fun q hq => absurd hq List.not_mem_nil⟩) mx_eM (by decide) (by decide) wc_L_54 wcc_eM (fun q => ?_)
      refine zi_astore_n X dL_sturmLength_15 rfl (by decide) ?_
      refine zi_iconst (v := (nI 2)) X dL_sturmLength_16 (by decide) ?_
      refine zi_hireturn X Vz dL_sturmLength_17 ?_
      exact w_x ho hn (j := 1) rfl hp
  · have hou : mjoin (mup hs ou (wO (cA 1) g)) hs h1 ou = some (wO (cA 1) g) := mjoin_r hn ho mup_self
    refine zi_i2l X dL_sturmLength_7 ?_
    refine zi_last X 1 hou rfl (vin (show 0 < 1 by decide) (by decide)) dL_sturmLength_8 ?_
    refine zi_goto (tgt := 18) X dL_sturmLength_9 (by decide) ?_
    refine zi_iconst (v := (nI 0)) X dL_sturmLength_18 (by decide) ?_
    refine zi_hireturn X Vz dL_sturmLength_19 ?_
    exact w_ok ho hn ⟨r, rfl, hq⟩
theorem w_sturmCoefficient {Q : Int64 → mH → Prop} {a0 a1 a2 : Int32} (hM : mCx l yX6_sturmCoefficient cX6_sturmCoefficient 4 (some .long) (rmc 8 4 24) D (mT cA) [.ref x, .int a0, .int a1, .int a2] hs (mFl hs Q) PX) (hE : ∀ E h1, PX E h1 → E ∈ [eI, eM, eN]) (hx : hs x = some (.inr (10, fs))) (ho : hs ou = none) :
    mCh l yL_sturmCoefficient cL_sturmCoefficient 6 (some .int) [(0, 11, 14, 13), (0, 11, 18, 54), (0, 11, 22, 63)] (rmc 9 4 24) D (mT cA) [.ref x, .int a0, .int a1, .int a2, .ref ou] (mup hs ou (wO (cA 1) g)) (mFi (mup hs ou (wO (cA 1) g)) (wPost cA ou Q PX [eI, eM, eN])) := by
  have hne := w_ne hx ho
  have hxx : mup hs ou (wO (cA 1) g) x = some (.inr (10, fs)) := by rw [mup_ne hne]; exact hx
  refine mEnter_h (by decide) (Nat.le_of_ble_eq_true rfl) rfl (fun z X Vz => ?_)
  refine zi_aload X dL_sturmCoefficient_0 rfl ?_
  refine zi_iconst (v := (nI 0)) X dL_sturmCoefficient_2 (by decide) ?_
  refine zi_aload_n X dL_sturmCoefficient_3 rfl rfl ?_
  refine zi_iload_n X dL_sturmCoefficient_4 rfl rfl ?_
  refine zi_iload_n X dL_sturmCoefficient_5 rfl rfl ?_
  refine zi_iload_n X dL_sturmCoefficient_6 rfl rfl ?_
  refine zi_xcallVlF X (hM) kc_X6_sturmCoefficient wm_L_59 hxx rfl wim_X6_sturmCoefficient wse_X6_sturmCoefficient (w_sub ho) ⟨Nat.le_of_ble_eq_true rfl, Nat.le_of_ble_eq_true rfl⟩ rfl rfl (Nat.le_of_ble_eq_true rfl) ⟨Nat.le_of_ble_eq_true rfl, Nat.le_of_ble_eq_true rfl⟩ dL_sturmCoefficient_7 (fun E h1 hp hn => ?_) (fun r h1 hq hn => ?_)
  · have hE := hE E h1 hp
    simp only [List.mem_cons, List.not_mem_nil, or_false] at hE
    rcases hE with rfl | rfl | rfl
    · refine zt_catch X Vz [] (0, 11, 14, 13) [(0, 11, 18, 54), (0, 11, 22, 63)] rfl (fun q hq => absurd hq List.not_mem_nil) mx_eI (by decide) (by decide) wc_L_13 wcc_eI (fun q => ?_)
      refine zi_astore X dL_sturmCoefficient_14 (by decide) ?_
      refine zi_iconst (v := (nI 1)) X dL_sturmCoefficient_16 (by decide) ?_
      refine zi_hireturn X Vz dL_sturmCoefficient_17 ?_
      exact w_x ho hn (j := 0) rfl hp
    · refine zt_catch X Vz [(0, 11, 14, 13)] (0, 11, 18, 54) [(0, 11, 22, 63)] rfl (List.forall_mem_cons.mpr ⟨⟨by decide, eI, mx_eI, wc_L_13, ne_eM_eI⟩, fun q hq => absurd hq List.not_mem_nil⟩) mx_eM (by decide) (by decide) wc_L_54 wcc_eM (fun q => ?_)
      refine zi_astore X dL_sturmCoefficient_18 (by decide) ?_
      refine zi_iconst (v := (nI 2)) X dL_sturmCoefficient_20 (by decide) ?_
      refine zi_hireturn X Vz dL_sturmCoefficient_21 ?_
      exact w_x ho hn (j := 1) rfl hp
    · refine zt_catch X Vz [(0, 11, 14, 13), (0, 11, 18, 54)] (0, 11, 22, 63) [] rfl (List.forall_mem_cons.mpr ⟨⟨by decide, eI, mx_eI, wc_L_13, ne_eN_eI⟩, List.forall_mem_cons.mpr ⟨⟨by decide, eM, mx_eM, wc_L_54, ne_eN_eM⟩, fun q hq => absurd hq List.not_mem_nil⟩⟩) mx_eN (by decide) (by decide) wc_L_63 wcc_eN (fun q => ?_)
      refine zi_astore X dL_sturmCoefficient_22 (by decide) ?_
      refine zi_iconst (v := (nI 3)) X dL_sturmCoefficient_24 (by decide) ?_
      refine zi_hireturn X Vz dL_sturmCoefficient_25 ?_
      exact w_x ho hn (j := 2) rfl hp
  · have hou : mjoin (mup hs ou (wO (cA 1) g)) hs h1 ou = some (wO (cA 1) g) := mjoin_r hn ho mup_self
    refine zi_last X 1 hou rfl (vin (show 0 < 1 by decide) (by decide)) dL_sturmCoefficient_10 ?_
    refine zi_goto (tgt := 26) X dL_sturmCoefficient_11 (by decide) ?_
    refine zi_iconst (v := (nI 0)) X dL_sturmCoefficient_26 (by decide) ?_
    refine zi_hireturn X Vz dL_sturmCoefficient_27 ?_
    exact w_ok ho hn hq
theorem w_sturmDegree {Q : Int32 → mH → Prop} {a0 a1 : Int32} (hM : mCx l yX6_sturmDegree cX6_sturmDegree 3 (some .int) (rmc 8 3 18) D (mT cA) [.ref x, .int a0, .int a1] hs (mFi hs Q) PX) (hE : ∀ E h1, PX E h1 → E ∈ [eI, eM, eN]) (hx : hs x = some (.inr (10, fs))) (ho : hs ou = none) :
    mCh l yL_sturmDegree cL_sturmDegree 5 (some .int) [(0, 10, 13, 13), (0, 10, 17, 54), (0, 10, 21, 63)] (rmc 9 3 18) D (mT cA) [.ref x, .int a0, .int a1, .ref ou] (mup hs ou (wO (cA 1) g)) (mFi (mup hs ou (wO (cA 1) g)) (wPost cA ou (fun v h1 => ∃ r : Int32, v = r.toInt64 ∧ Q r h1) PX [eI, eM, eN])) := by
  have hne := w_ne hx ho
  have hxx : mup hs ou (wO (cA 1) g) x = some (.inr (10, fs)) := by rw [mup_ne hne]; exact hx
  refine mEnter_h (by decide) (Nat.le_of_ble_eq_true rfl) rfl (fun z X Vz => ?_)
  refine zi_aload_n X dL_sturmDegree_0 rfl rfl ?_
  refine zi_iconst (v := (nI 0)) X dL_sturmDegree_1 (by decide) ?_
  refine zi_aload_n X dL_sturmDegree_2 rfl rfl ?_
  refine zi_iload_n X dL_sturmDegree_3 rfl rfl ?_
  refine zi_iload_n X dL_sturmDegree_4 rfl rfl ?_
  refine zi_xcallViF X (hM) kc_X6_sturmDegree wm_L_65 hxx rfl wim_X6_sturmDegree wse_X6_sturmDegree (w_sub ho) ⟨Nat.le_of_ble_eq_true rfl, Nat.le_of_ble_eq_true rfl⟩ rfl rfl (Nat.le_of_ble_eq_true rfl) ⟨Nat.le_of_ble_eq_true rfl, Nat.le_of_ble_eq_true rfl⟩ dL_sturmDegree_5 (fun E h1 hp hn => ?_) (fun r h1 hq hn => ?_)
  · have hE := hE E h1 hp
    simp only [List.mem_cons, List.not_mem_nil, or_false] at hE
    rcases hE with rfl | rfl | rfl
    · refine zt_catch X Vz [] (0, 10, 13, 13) [(0, 10, 17, 54), (0, 10, 21, 63)] rfl (fun q hq => absurd hq List.not_mem_nil) mx_eI (by decide) (by decide) wc_L_13 wcc_eI (fun q => ?_)
      refine zi_astore X dL_sturmDegree_13 (by decide) ?_
      refine zi_iconst (v := (nI 1)) X dL_sturmDegree_15 (by decide) ?_
      refine zi_hireturn X Vz dL_sturmDegree_16 ?_
      exact w_x ho hn (j := 0) rfl hp
    · refine zt_catch X Vz [(0, 10, 13, 13)] (0, 10, 17, 54) [(0, 10, 21, 63)] rfl (List.forall_mem_cons.mpr ⟨⟨by decide, eI, mx_eI, wc_L_13, ne_eM_eI⟩, fun q hq => absurd hq List.not_mem_nil⟩) mx_eM (by decide) (by decide) wc_L_54 wcc_eM (fun q => ?_)
      refine zi_astore X dL_sturmDegree_17 (by decide) ?_
      refine zi_iconst (v := (nI 2)) X dL_sturmDegree_19 (by decide) ?_
      refine zi_hireturn X Vz dL_sturmDegree_20 ?_
      exact w_x ho hn (j := 1) rfl hp
    · refine zt_catch X Vz [(0, 10, 13, 13), (0, 10, 17, 54)] (0, 10, 21, 63) [] rfl (List.forall_mem_cons.mpr ⟨⟨by decide, eI, mx_eI, wc_L_13, ne_eN_eI⟩, List.forall_mem_cons.mpr ⟨⟨by decide, eM, mx_eM, wc_L_54, ne_eN_eM⟩, fun q hq => absurd hq List.not_mem_nil⟩⟩) mx_eN (by decide) (by decide) wc_L_63 wcc_eN (fun q => ?_)
      refine zi_astore X dL_sturmDegree_21 (by decide) ?_
      refine zi_iconst (v := (nI 3)) X dL_sturmDegree_23 (by decide) ?_
      refine zi_hireturn X Vz dL_sturmDegree_24 ?_
      exact w_x ho hn (j := 2) rfl hp
  · have hou : mjoin (mup hs ou (wO (cA 1) g)) hs h1 ou = some (wO (cA 1) g) := mjoin_r hn ho mup_self
    refine zi_i2l X dL_sturmDegree_8 ?_
    refine zi_last X 1 hou rfl (vin (show 0 < 1 by decide) (by decide)) dL_sturmDegree_9 ?_
    refine zi_goto (tgt := 25) X dL_sturmDegree_10 (by decide) ?_
    refine zi_iconst (v := (nI 0)) X dL_sturmDegree_25 (by decide) ?_
    refine zi_hireturn X Vz dL_sturmDegree_26 ?_
    exact w_ok ho hn ⟨r, rfl, hq⟩
theorem w_signChanges {Q : Int32 → mH → Prop} {a0 a1 a2 : Int32} (hM : mCx l yX6_signChanges cX6_signChanges 4 (some .int) (rmc 8 3 18) D (mT cA) [.ref x, .int a0, .int a1, .int a2] hs (mFi hs Q) PX) (hE : ∀ E h1, PX E h1 → E ∈ [eI, eA, eM]) (hx : hs x = some (.inr (10, fs))) (ho : hs ou = none) :
    mCh l yL_signChanges cL_signChanges 6 (some .int) [(0, 12, 15, 13), (0, 12, 19, 15), (0, 12, 23, 54)] (rmc 9 3 18) D (mT cA) [.ref x, .int a0, .int a1, .int a2, .ref ou] (mup hs ou (wO (cA 1) g)) (mFi (mup hs ou (wO (cA 1) g)) (wPost cA ou (fun v h1 => ∃ r : Int32, v = r.toInt64 ∧ Q r h1) PX [eI, eA, eM])) := by
  have hne := w_ne hx ho
  have hxx : mup hs ou (wO (cA 1) g) x = some (.inr (10, fs)) := by rw [mup_ne hne]; exact hx
  refine mEnter_h (by decide) (Nat.le_of_ble_eq_true rfl) rfl (fun z X Vz => ?_)
  refine zi_aload X dL_signChanges_0 rfl ?_
  refine zi_iconst (v := (nI 0)) X dL_signChanges_2 (by decide) ?_
  refine zi_aload_n X dL_signChanges_3 rfl rfl ?_
  refine zi_iload_n X dL_signChanges_4 rfl rfl ?_
  refine zi_iload_n X dL_signChanges_5 rfl rfl ?_
  refine zi_iload_n X dL_signChanges_6 rfl rfl ?_
  refine zi_xcallViF X (hM) kc_X6_signChanges wm_L_68 hxx rfl wim_X6_signChanges wse_X6_signChanges (w_sub ho) ⟨Nat.le_of_ble_eq_true rfl, Nat.le_of_ble_eq_true rfl⟩ rfl rfl (Nat.le_of_ble_eq_true rfl) ⟨Nat.le_of_ble_eq_true rfl, Nat.le_of_ble_eq_true rfl⟩ dL_signChanges_7 (fun E h1 hp hn => ?_) (fun r h1 hq hn => ?_)
  · have hE := hE E h1 hp
    simp only [List.mem_cons, List.not_mem_nil, or_false] at hE
    rcases hE with rfl | rfl | rfl
    · refine zt_catch X Vz [] (0, 12, 15, 13) [(0, 12, 19, 15), (0, 12, 23, 54)] rfl (fun q hq => absurd hq List.not_mem_nil) mx_eI (by decide) (by decide) wc_L_13 wcc_eI (fun q => ?_)
      refine zi_astore X dL_signChanges_15 (by decide) ?_
      refine zi_iconst (v := (nI 1)) X dL_signChanges_17 (by decide) ?_
      refine zi_hireturn X Vz dL_signChanges_18 ?_
      exact w_x ho hn (j := 0) rfl hp
    · refine zt_catch X Vz [(0, 12, 15, 13)] (0, 12, 19, 15) [(0, 12, 23, 54)] rfl (List.forall_mem_cons.mpr ⟨⟨by decide, eI, mx_eI, wc_L_13, ne_eA_eI⟩, fun q hq => absurd hq List.not_mem_nil⟩) mx_eA (by decide) (by decide) wc_L_15 wcc_eA (fun q => ?_)
      refine zi_astore X dL_signChanges_19 (by decide) ?_
      refine zi_iconst (v := (nI 2)) X dL_signChanges_21 (by decide) ?_
      refine zi_hireturn X Vz dL_signChanges_22 ?_
      exact w_x ho hn (j := 1) rfl hp
    · refine zt_catch X Vz [(0, 12, 15, 13), (0, 12, 19, 15)] (0, 12, 23, 54) [] rfl (List.forall_mem_cons.mpr ⟨⟨by decide, eI, mx_eI, wc_L_13, ne_eM_eI⟩, List.forall_mem_cons.mpr ⟨⟨by decide, eA, mx_eA, wc_L_15, ne_eM_eA⟩, fun q hq => absurd hq List.not_mem_nil⟩⟩) mx_eM (by decide) (by decide) wc_L_54 wcc_eM (fun q => ?_)
      refine zi_astore X dL_signChanges_23 (by decide) ?_
      refine zi_iconst (v := (nI 3)) X dL_signChanges_25 (by decide) ?_
      refine zi_hireturn X Vz dL_signChanges_26 ?_
      exact w_x ho hn (j := 2) rfl hp
  · have hou : mjoin (mup hs ou (wO (cA 1) g)) hs h1 ou = some (wO (cA 1) g) := mjoin_r hn ho mup_self
    refine zi_i2l X dL_signChanges_10 ?_
    refine zi_last X 1 hou rfl (vin (show 0 < 1 by decide) (by decide)) dL_signChanges_11 ?_
    refine zi_goto (tgt := 27) X dL_signChanges_12 (by decide) ?_
    refine zi_iconst (v := (nI 0)) X dL_signChanges_27 (by decide) ?_
    refine zi_hireturn X Vz dL_signChanges_28 ?_
    exact w_ok ho hn ⟨r, rfl, hq⟩
theorem w_sign {Q : Int32 → mH → Prop} {a0 a1 a2 : Int32} (hM : mCx l yX6_sign cX6_sign 4 (some .int) (rmc 8 2 12) D (mT cA) [.ref x, .int a0, .int a1, .int a2] hs (mFi hs Q) PX) (hE : ∀ E h1, PX E h1 → E ∈ [eI, eA]) (hx : hs x = some (.inr (10, fs))) (ho : hs ou = none) :
    mCh l yL_sign cL_sign 6 (some .int) [(0, 12, 15, 13), (0, 12, 19, 15)] (rmc 9 2 12) D (mT cA) [.ref x, .int a0, .int a1, .int a2, .ref ou] (mup hs ou (wO (cA 1) g)) (mFi (mup hs ou (wO (cA 1) g)) (wPost cA ou (fun v h1 => ∃ r : Int32, v = r.toInt64 ∧ Q r h1) PX [eI, eA])) := by
  have hne := w_ne hx ho
  have hxx : mup hs ou (wO (cA 1) g) x = some (.inr (10, fs)) := by rw [mup_ne hne]; exact hx
  refine mEnter_h (by decide) (Nat.le_of_ble_eq_true rfl) rfl (fun z X Vz => ?_)
  refine zi_aload X dL_sign_0 rfl ?_
  refine zi_iconst (v := (nI 0)) X dL_sign_2 (by decide) ?_
  refine zi_aload_n X dL_sign_3 rfl rfl ?_
  refine zi_iload_n X dL_sign_4 rfl rfl ?_
  refine zi_iload_n X dL_sign_5 rfl rfl ?_
  refine zi_iload_n X dL_sign_6 rfl rfl ?_
  refine zi_xcallViF X (hM) kc_X6_sign wm_L_71 hxx rfl wim_X6_sign wse_X6_sign (w_sub ho) ⟨Nat.le_of_ble_eq_true rfl, Nat.le_of_ble_eq_true rfl⟩ rfl rfl (Nat.le_of_ble_eq_true rfl) ⟨Nat.le_of_ble_eq_true rfl, Nat.le_of_ble_eq_true rfl⟩ dL_sign_7 (fun E h1 hp hn => ?_) (fun r h1 hq hn => ?_)
  · have hE := hE E h1 hp
    simp only [List.mem_cons, List.not_mem_nil, or_false] at hE
    rcases hE with rfl | rfl
    · refine zt_catch X Vz [] (0, 12, 15, 13) [(0, 12, 19, 15)] rfl (fun q hq => absurd hq List.not_mem_nil) mx_eI (by decide) (by decide) wc_L_13 wcc_eI (fun q => ?_)
      refine zi_astore X dL_sign_15 (by decide) ?_
      refine zi_iconst (v := (nI 1)) X dL_sign_17 (by decide) ?_
      refine zi_hireturn X Vz dL_sign_18 ?_
      exact w_x ho hn (j := 0) rfl hp
    · refine zt_catch X Vz [(0, 12, 15, 13)] (0, 12, 19, 15) [] rfl (List.forall_mem_cons.mpr ⟨⟨by decide, eI, mx_eI, wc_L_13, ne_eA_eI⟩, fun q hq => absurd hq List.not_mem_nil⟩) mx_eA (by decide) (by decide) wc_L_15 wcc_eA (fun q => ?_)
      refine zi_astore X dL_sign_19 (by decide) ?_
      refine zi_iconst (v := (nI 2)) X dL_sign_21 (by decide) ?_
      refine zi_hireturn X Vz dL_sign_22 ?_
      exact w_x ho hn (j := 1) rfl hp
  · have hou : mjoin (mup hs ou (wO (cA 1) g)) hs h1 ou = some (wO (cA 1) g) := mjoin_r hn ho mup_self
    refine zi_i2l X dL_sign_10 ?_
    refine zi_last X 1 hou rfl (vin (show 0 < 1 by decide) (by decide)) dL_sign_11 ?_
    refine zi_goto (tgt := 23) X dL_sign_12 (by decide) ?_
    refine zi_iconst (v := (nI 0)) X dL_sign_23 (by decide) ?_
    refine zi_hireturn X Vz dL_sign_24 ?_
    exact w_ok ho hn ⟨r, rfl, hq⟩
theorem w_countDistinct {Q : Int32 → mH → Prop} {a0 a1 a2 a3 a4 : Int32} (hM : mCx l yX6_countDistinct cX6_countDistinct 6 (some .int) (rmc 8 7 42) D (mT cA) [.ref x, .int a0, .int a1, .int a2, .int a3, .int a4] hs (mFi hs Q) PX) (hE : ∀ E h1, PX E h1 → E ∈ [eI, eA, eM, eS]) (hx : hs x = some (.inr (10, fs))) (ho : hs ou = none) :
    mCh l yL_countDistinct cL_countDistinct 8 (some .int) [(0, 16, 19, 13), (0, 16, 23, 15), (0, 16, 27, 54), (0, 16, 31, 31)] (rmc 9 7 42) D (mT cA) [.ref x, .int a0, .int a1, .int a2, .int a3, .int a4, .ref ou] (mup hs ou (wO (cA 1) g)) (mFi (mup hs ou (wO (cA 1) g)) (wPost cA ou (fun v h1 => ∃ r : Int32, v = r.toInt64 ∧ Q r h1) PX [eI, eA, eM, eS])) := by
  have hne := w_ne hx ho
  have hxx : mup hs ou (wO (cA 1) g) x = some (.inr (10, fs)) := by rw [mup_ne hne]; exact hx
  refine mEnter_h (by decide) (Nat.le_of_ble_eq_true rfl) rfl (fun z X Vz => ?_)
  refine zi_aload X dL_countDistinct_0 rfl ?_
  refine zi_iconst (v := (nI 0)) X dL_countDistinct_2 (by decide) ?_
  refine zi_aload_n X dL_countDistinct_3 rfl rfl ?_
  refine zi_iload_n X dL_countDistinct_4 rfl rfl ?_
  refine zi_iload_n X dL_countDistinct_5 rfl rfl ?_
  refine zi_iload_n X dL_countDistinct_6 rfl rfl ?_
  refine zi_iload X dL_countDistinct_7 rfl ?_
  refine zi_iload X dL_countDistinct_9 rfl ?_
  refine zi_xcallViF X (hM) kc_X6_countDistinct wm_L_74 hxx rfl wim_X6_countDistinct wse_X6_countDistinct (w_sub ho) ⟨Nat.le_of_ble_eq_true rfl, Nat.le_of_ble_eq_true rfl⟩ rfl rfl (Nat.le_of_ble_eq_true rfl) ⟨Nat.le_of_ble_eq_true rfl, Nat.le_of_ble_eq_true rfl⟩ dL_countDistinct_11 (fun E h1 hp hn => ?_) (fun r h1 hq hn => ?_)
  · have hE := hE E h1 hp
    simp only [List.mem_cons, List.not_mem_nil, or_false] at hE
    rcases hE with rfl | rfl | rfl | rfl
    · refine zt_catch X Vz [] (0, 16, 19, 13) [(0, 16, 23, 15), (0, 16, 27, 54), (0, 16, 31, 31)] rfl (fun q hq => absurd hq List.not_mem_nil) mx_eI (by decide) (by decide) wc_L_13 wcc_eI (fun q => ?_)
      refine zi_astore X dL_countDistinct_19 (by decide) ?_
      refine zi_iconst (v := (nI 1)) X dL_countDistinct_21 (by decide) ?_
      refine zi_hireturn X Vz dL_countDistinct_22 ?_
      exact w_x ho hn (j := 0) rfl hp
    · refine zt_catch X Vz [(0, 16, 19, 13)] (0, 16, 23, 15) [(0, 16, 27, 54), (0, 16, 31, 31)] rfl (List.forall_mem_cons.mpr ⟨⟨by decide, eI, mx_eI, wc_L_13, ne_eA_eI⟩, fun q hq => absurd hq List.not_mem_nil⟩) mx_eA (by decide) (by decide) wc_L_15 wcc_eA (fun q => ?_)
      refine zi_astore X dL_countDistinct_23 (by decide) ?_
      refine zi_iconst (v := (nI 2)) X dL_countDistinct_25 (by decide) ?_
      refine zi_hireturn X Vz dL_countDistinct_26 ?_
      exact w_x ho hn (j := 1) rfl hp
    · refine zt_catch X Vz [(0, 16, 19, 13), (0, 16, 23, 15)] (0, 16, 27, 54) [(0, 16, 31, 31)] rfl (List.forall_mem_cons.mpr ⟨⟨by decide, eI, mx_eI, wc_L_13, ne_eM_eI⟩, List.forall_mem_cons.mpr ⟨⟨by decide, eA, mx_eA, wc_L_15, ne_eM_eA⟩, fun q hq => absurd hq List.not_mem_nil⟩⟩) mx_eM (by decide) (by decide) wc_L_54 wcc_eM (fun q => ?_)
      refine zi_astore X dL_countDistinct_27 (by decide) ?_
      refine zi_iconst (v := (nI 3)) X dL_countDistinct_29 (by decide) ?_
      refine zi_hireturn X Vz dL_countDistinct_30 ?_
      exact w_x ho hn (j := 2) rfl hp
    · refine zt_catch X Vz [(0, 16, 19, 13), (0, 16, 23, 15), (0, 16, 27, 54)] (0, 16, 31, 31) [] rfl (List.forall_mem_cons.mpr ⟨⟨by decide, eI, mx_eI, wc_L_13, ne_eS_eI⟩, List.forall_mem_cons.mpr ⟨⟨by decide, eA, mx_eA, wc_L_15, ne_eS_eA⟩, List.forall_mem_cons.mpr ⟨⟨by decide, eM, mx_eM, wc_L_54, ne_eS_eM⟩, fun q hq => absurd hq List.not_mem_nil⟩⟩⟩) mx_eS (by decide) (by decide) wc_L_31 wcc_eS (fun q => ?_)
      refine zi_astore X dL_countDistinct_31 (by decide) ?_
      refine zi_iconst (v := (nI 4)) X dL_countDistinct_33 (by decide) ?_
      refine zi_hireturn X Vz dL_countDistinct_34 ?_
      exact w_x ho hn (j := 3) rfl hp
  · have hou : mjoin (mup hs ou (wO (cA 1) g)) hs h1 ou = some (wO (cA 1) g) := mjoin_r hn ho mup_self
    refine zi_i2l X dL_countDistinct_14 ?_
    refine zi_last X 1 hou rfl (vin (show 0 < 1 by decide) (by decide)) dL_countDistinct_15 ?_
    refine zi_goto (tgt := 35) X dL_countDistinct_16 (by decide) ?_
    refine zi_iconst (v := (nI 0)) X dL_countDistinct_35 (by decide) ?_
    refine zi_hireturn X Vz dL_countDistinct_36 ?_
    exact w_ok ho hn ⟨r, rfl, hq⟩
theorem w_countAll {Q : Int32 → mH → Prop} {a0 a1 a2 a3 a4 : Int32} (hM : mCx l yX6_countAll cX6_countAll 8 (some .int) (rmc 8 7 42) D (mT cA) [.ref x, .int a0, .int a1, .int a2, .int a3, .int a4] hs (mFi hs Q) PX) (hE : ∀ E h1, PX E h1 → E ∈ [eI, eA, eM, eS]) (hx : hs x = some (.inr (10, fs))) (ho : hs ou = none) :
    mCh l yL_countAll cL_countAll 8 (some .int) [(0, 16, 19, 13), (0, 16, 23, 15), (0, 16, 27, 54), (0, 16, 31, 31)] (rmc 9 7 42) D (mT cA) [.ref x, .int a0, .int a1, .int a2, .int a3, .int a4, .ref ou] (mup hs ou (wO (cA 1) g)) (mFi (mup hs ou (wO (cA 1) g)) (wPost cA ou (fun v h1 => ∃ r : Int32, v = r.toInt64 ∧ Q r h1) PX [eI, eA, eM, eS])) := by
  have hne := w_ne hx ho
  have hxx : mup hs ou (wO (cA 1) g) x = some (.inr (10, fs)) := by rw [mup_ne hne]; exact hx
  refine mEnter_h (by decide) (Nat.le_of_ble_eq_true rfl) rfl (fun z X Vz => ?_)
  refine zi_aload X dL_countAll_0 rfl ?_
  refine zi_iconst (v := (nI 0)) X dL_countAll_2 (by decide) ?_
  refine zi_aload_n X dL_countAll_3 rfl rfl ?_
  refine zi_iload_n X dL_countAll_4 rfl rfl ?_
  refine zi_iload_n X dL_countAll_5 rfl rfl ?_
  refine zi_iload_n X dL_countAll_6 rfl rfl ?_
  refine zi_iload X dL_countAll_7 rfl ?_
  refine zi_iload X dL_countAll_9 rfl ?_
  refine zi_xcallViF X (hM) kc_X6_countAll wm_L_78 hxx rfl wim_X6_countAll wse_X6_countAll (w_sub ho) ⟨Nat.le_of_ble_eq_true rfl, Nat.le_of_ble_eq_true rfl⟩ rfl rfl (Nat.le_of_ble_eq_true rfl) ⟨Nat.le_of_ble_eq_true rfl, Nat.le_of_ble_eq_true rfl⟩ dL_countAll_11 (fun E h1 hp hn => ?_) (fun r h1 hq hn => ?_)
  · have hE := hE E h1 hp
    simp only [List.mem_cons, List.not_mem_nil, or_false] at hE
    rcases hE with rfl | rfl | rfl | rfl
    · refine zt_catch X Vz [] (0, 16, 19, 13) [(0, 16, 23, 15), (0, 16, 27, 54), (0, 16, 31, 31)] rfl (fun q hq => absurd hq List.not_mem_nil) mx_eI (by decide) (by decide) wc_L_13 wcc_eI (fun q => ?_)
      refine zi_astore X dL_countAll_19 (by decide) ?_
      refine zi_iconst (v := (nI 1)) X dL_countAll_21 (by decide) ?_
      refine zi_hireturn X Vz dL_countAll_22 ?_
      exact w_x ho hn (j := 0) rfl hp
    · refine zt_catch X Vz [(0, 16, 19, 13)] (0, 16, 23, 15) [(0, 16, 27, 54), (0, 16, 31, 31)] rfl (List.forall_mem_cons.mpr ⟨⟨by decide, eI, mx_eI, wc_L_13, ne_eA_eI⟩, fun q hq => absurd hq List.not_mem_nil⟩) mx_eA (by decide) (by decide) wc_L_15 wcc_eA (fun q => ?_)
      refine zi_astore X dL_countAll_23 (by decide) ?_
      refine zi_iconst (v := (nI 2)) X dL_countAll_25 (by decide) ?_
      refine zi_hireturn X Vz dL_countAll_26 ?_
      exact w_x ho hn (j := 1) rfl hp
    · refine zt_catch X Vz [(0, 16, 19, 13), (0, 16, 23, 15)] (0, 16, 27, 54) [(0, 16, 31, 31)] rfl (List.forall_mem_cons.mpr ⟨⟨by decide, eI, mx_eI, wc_L_13, ne_eM_eI⟩, List.forall_mem_cons.mpr ⟨⟨by decide, eA, mx_eA, wc_L_15, ne_eM_eA⟩, fun q hq => absurd hq List.not_mem_nil⟩⟩) mx_eM (by decide) (by decide) wc_L_54 wcc_eM (fun q => ?_)
      refine zi_astore X dL_countAll_27 (by decide) ?_
      refine zi_iconst (v := (nI 3)) X dL_countAll_29 (by decide) ?_
      refine zi_hireturn X Vz dL_countAll_30 ?_
      exact w_x ho hn (j := 2) rfl hp
    · refine zt_catch X Vz [(0, 16, 19, 13), (0, 16, 23, 15), (0, 16, 27, 54)] (0, 16, 31, 31) [] rfl (List.forall_mem_cons.mpr ⟨⟨by decide, eI, mx_eI, wc_L_13, ne_eS_eI⟩, List.forall_mem_cons.mpr ⟨⟨by decide, eA, mx_eA, wc_L_15, ne_eS_eA⟩, List.forall_mem_cons.mpr ⟨⟨by decide, eM, mx_eM, wc_L_54, ne_eS_eM⟩, fun q hq => absurd hq List.not_mem_nil⟩⟩⟩) mx_eS (by decide) (by decide) wc_L_31 wcc_eS (fun q => ?_)
      refine zi_astore X dL_countAll_31 (by decide) ?_
      refine zi_iconst (v := (nI 4)) X dL_countAll_33 (by decide) ?_
      refine zi_hireturn X Vz dL_countAll_34 ?_
      exact w_x ho hn (j := 3) rfl hp
  · have hou : mjoin (mup hs ou (wO (cA 1) g)) hs h1 ou = some (wO (cA 1) g) := mjoin_r hn ho mup_self
    refine zi_i2l X dL_countAll_14 ?_
    refine zi_last X 1 hou rfl (vin (show 0 < 1 by decide) (by decide)) dL_countAll_15 ?_
    refine zi_goto (tgt := 35) X dL_countAll_16 (by decide) ?_
    refine zi_iconst (v := (nI 0)) X dL_countAll_35 (by decide) ?_
    refine zi_hireturn X Vz dL_countAll_36 ?_
    exact w_ok ho hn ⟨r, rfl, hq⟩
theorem w_distinctRoots {Q : Int32 → mH → Prop} {a0 : Int32} (hM : mCx l yX6_distinctRoots cX6_distinctRoots 2 (some .int) (rmc 8 2 12) D (mT cA) [.ref x, .int a0] hs (mFi hs Q) PX) (hE : ∀ E h1, PX E h1 → E ∈ [eI, eM]) (hx : hs x = some (.inr (10, fs))) (ho : hs ou = none) :
    mCh l yL_distinctRoots cL_distinctRoots 4 (some .int) [(0, 9, 12, 13), (0, 9, 15, 54)] (rmc 9 2 12) D (mT cA) [.ref x, .int a0, .ref ou] (mup hs ou (wO (cA 1) g)) (mFi (mup hs ou (wO (cA 1) g)) (wPost cA ou (fun v h1 => ∃ r : Int32, v = r.toInt64 ∧ Q r h1) PX [eI, eM])) := by
  have hne := w_ne hx ho
  have hxx : mup hs ou (wO (cA 1) g) x = some (.inr (10, fs)) := by rw [mup_ne hne]; exact hx
  refine mEnter_h (by decide) (Nat.le_of_ble_eq_true rfl) rfl (fun z X Vz => ?_)
  refine zi_aload_n X dL_distinctRoots_0 rfl rfl ?_
  refine zi_iconst (v := (nI 0)) X dL_distinctRoots_1 (by decide) ?_
  refine zi_aload_n X dL_distinctRoots_2 rfl rfl ?_
  refine zi_iload_n X dL_distinctRoots_3 rfl rfl ?_
  refine zi_xcallViF X (hM) kc_X6_distinctRoots wm_L_81 hxx rfl wim_X6_distinctRoots wse_X6_distinctRoots (w_sub ho) ⟨Nat.le_of_ble_eq_true rfl, Nat.le_of_ble_eq_true rfl⟩ rfl rfl (Nat.le_of_ble_eq_true rfl) ⟨Nat.le_of_ble_eq_true rfl, Nat.le_of_ble_eq_true rfl⟩ dL_distinctRoots_4 (fun E h1 hp hn => ?_) (fun r h1 hq hn => ?_)
  · have hE := hE E h1 hp
    simp only [List.mem_cons, List.not_mem_nil, or_false] at hE
    rcases hE with rfl | rfl
    · refine zt_catch X Vz [] (0, 9, 12, 13) [(0, 9, 15, 54)] rfl (fun q hq => absurd hq List.not_mem_nil) mx_eI (by decide) (by decide) wc_L_13 wcc_eI (fun q => ?_)
      refine zi_astore_n X dL_distinctRoots_12 rfl (by decide) ?_
      refine zi_iconst (v := (nI 1)) X dL_distinctRoots_13 (by decide) ?_
      refine zi_hireturn X Vz dL_distinctRoots_14 ?_
      exact w_x ho hn (j := 0) rfl hp
    · refine zt_catch X Vz [(0, 9, 12, 13)] (0, 9, 15, 54) [] rfl (List.forall_mem_cons.mpr ⟨⟨by decide, eI, mx_eI, wc_L_13, ne_eM_eI⟩, fun q hq => absurd hq List.not_mem_nil⟩) mx_eM (by decide) (by decide) wc_L_54 wcc_eM (fun q => ?_)
      refine zi_astore_n X dL_distinctRoots_15 rfl (by decide) ?_
      refine zi_iconst (v := (nI 2)) X dL_distinctRoots_16 (by decide) ?_
      refine zi_hireturn X Vz dL_distinctRoots_17 ?_
      exact w_x ho hn (j := 1) rfl hp
  · have hou : mjoin (mup hs ou (wO (cA 1) g)) hs h1 ou = some (wO (cA 1) g) := mjoin_r hn ho mup_self
    refine zi_i2l X dL_distinctRoots_7 ?_
    refine zi_last X 1 hou rfl (vin (show 0 < 1 by decide) (by decide)) dL_distinctRoots_8 ?_
    refine zi_goto (tgt := 18) X dL_distinctRoots_9 (by decide) ?_
    refine zi_iconst (v := (nI 0)) X dL_distinctRoots_18 (by decide) ?_
    refine zi_hireturn X Vz dL_distinctRoots_19 ?_
    exact w_ok ho hn ⟨r, rfl, hq⟩
theorem w_coefficientSignChanges {Q : Int32 → mH → Prop} {a0 : Int32} (hM : mCx l yX6_coefficientSignChanges cX6_coefficientSignChanges 2 (some .int) (rmc 7 1 6) D (mT cA) [.ref x, .int a0] hs (mFi hs Q) PX) (hE : ∀ E h1, PX E h1 → E ∈ [eI]) (hx : hs x = some (.inr (10, fs))) (ho : hs ou = none) :
    mCh l yL_coefficientSignChanges cL_coefficientSignChanges 4 (some .int) [(0, 9, 12, 13)] (rmc 8 1 6) D (mT cA) [.ref x, .int a0, .ref ou] (mup hs ou (wO (cA 1) g)) (mFi (mup hs ou (wO (cA 1) g)) (wPost cA ou (fun v h1 => ∃ r : Int32, v = r.toInt64 ∧ Q r h1) PX [eI])) := by
  have hne := w_ne hx ho
  have hxx : mup hs ou (wO (cA 1) g) x = some (.inr (10, fs)) := by rw [mup_ne hne]; exact hx
  refine mEnter_h (by decide) (Nat.le_of_ble_eq_true rfl) rfl (fun z X Vz => ?_)
  refine zi_aload_n X dL_coefficientSignChanges_0 rfl rfl ?_
  refine zi_iconst (v := (nI 0)) X dL_coefficientSignChanges_1 (by decide) ?_
  refine zi_aload_n X dL_coefficientSignChanges_2 rfl rfl ?_
  refine zi_iload_n X dL_coefficientSignChanges_3 rfl rfl ?_
  refine zi_xcallViF X (hM) kc_X6_coefficientSignChanges wm_L_84 hxx rfl wim_X6_coefficientSignChanges wse_X6_coefficientSignChanges (w_sub ho) ⟨Nat.le_of_ble_eq_true rfl, Nat.le_of_ble_eq_true rfl⟩ rfl rfl (Nat.le_of_ble_eq_true rfl) ⟨Nat.le_of_ble_eq_true rfl, Nat.le_of_ble_eq_true rfl⟩ dL_coefficientSignChanges_4 (fun E h1 hp hn => ?_) (fun r h1 hq hn => ?_)
  · have hE := hE E h1 hp
    simp only [List.mem_cons, List.not_mem_nil, or_false] at hE
    rcases hE with rfl
    refine zt_catch X Vz [] (0, 9, 12, 13) [] rfl (fun q hq => absurd hq List.not_mem_nil) mx_eI (by decide) (by decide) wc_L_13 wcc_eI (fun q => ?_)
    refine zi_astore_n X dL_coefficientSignChanges_12 rfl (by decide) ?_
    refine zi_iconst (v := (nI 1)) X dL_coefficientSignChanges_13 (by decide) ?_
    refine zi_hireturn X Vz dL_coefficientSignChanges_14 ?_
    exact w_x ho hn (j := 0) rfl hp
  · have hou : mjoin (mup hs ou (wO (cA 1) g)) hs h1 ou = some (wO (cA 1) g) := mjoin_r hn ho mup_self
    refine zi_i2l X dL_coefficientSignChanges_7 ?_
    refine zi_last X 1 hou rfl (vin (show 0 < 1 by decide) (by decide)) dL_coefficientSignChanges_8 ?_
    refine zi_goto (tgt := 15) X dL_coefficientSignChanges_9 (by decide) ?_
    refine zi_iconst (v := (nI 0)) X dL_coefficientSignChanges_15 (by decide) ?_
    refine zi_hireturn X Vz dL_coefficientSignChanges_16 ?_
    exact w_ok ho hn ⟨r, rfl, hq⟩
theorem w_isolate {Q : Int32 → mH → Prop} {a0 : Int32} (hM : mCx l yX6_isolate cX6_isolate 2 (some .int) (rmc 10 4 2516) D (mT cA) [.ref x, .int a0] hs (mFi hs Q) PX) (hE : ∀ E h1, PX E h1 → E ∈ [eI, eM]) (hx : hs x = some (.inr (10, fs))) (ho : hs ou = none) :
    mCh l yL_isolate cL_isolate 4 (some .int) [(0, 9, 12, 13), (0, 9, 15, 54)] (rmc 11 4 2516) D (mT cA) [.ref x, .int a0, .ref ou] (mup hs ou (wO (cA 1) g)) (mFi (mup hs ou (wO (cA 1) g)) (wPost cA ou (fun v h1 => ∃ r : Int32, v = r.toInt64 ∧ Q r h1) PX [eI, eM])) := by
  have hne := w_ne hx ho
  have hxx : mup hs ou (wO (cA 1) g) x = some (.inr (10, fs)) := by rw [mup_ne hne]; exact hx
  refine mEnter_h (by decide) (Nat.le_of_ble_eq_true rfl) rfl (fun z X Vz => ?_)
  refine zi_aload_n X dL_isolate_0 rfl rfl ?_
  refine zi_iconst (v := (nI 0)) X dL_isolate_1 (by decide) ?_
  refine zi_aload_n X dL_isolate_2 rfl rfl ?_
  refine zi_iload_n X dL_isolate_3 rfl rfl ?_
  refine zi_xcallViF X (hM) kc_X6_isolate wm_L_87 hxx rfl wim_X6_isolate wse_X6_isolate (w_sub ho) ⟨Nat.le_of_ble_eq_true rfl, Nat.le_of_ble_eq_true rfl⟩ rfl rfl (Nat.le_of_ble_eq_true rfl) ⟨Nat.le_of_ble_eq_true rfl, Nat.le_of_ble_eq_true rfl⟩ dL_isolate_4 (fun E h1 hp hn => ?_) (fun r h1 hq hn => ?_)
  · have hE := hE E h1 hp
    simp only [List.mem_cons, List.not_mem_nil, or_false] at hE
    rcases hE with rfl | rfl
    · refine zt_catch X Vz [] (0, 9, 12, 13) [(0, 9, 15, 54)] rfl (fun q hq => absurd hq List.not_mem_nil) mx_eI (by decide) (by decide) wc_L_13 wcc_eI (fun q => ?_)
      refine zi_astore_n X dL_isolate_12 rfl (by decide) ?_
      refine zi_iconst (v := (nI 1)) X dL_isolate_13 (by decide) ?_
      refine zi_hireturn X Vz dL_isolate_14 ?_
      exact w_x ho hn (j := 0) rfl hp
    · refine zt_catch X Vz [(0, 9, 12, 13)] (0, 9, 15, 54) [] rfl (List.forall_mem_cons.mpr ⟨⟨by decide, eI, mx_eI, wc_L_13, ne_eM_eI⟩, fun q hq => absurd hq List.not_mem_nil⟩) mx_eM (by decide) (by decide) wc_L_54 wcc_eM (fun q => ?_)
      refine zi_astore_n X dL_isolate_15 rfl (by decide) ?_
      refine zi_iconst (v := (nI 2)) X dL_isolate_16 (by decide) ?_
      refine zi_hireturn X Vz dL_isolate_17 ?_
      exact w_x ho hn (j := 1) rfl hp
  · have hou : mjoin (mup hs ou (wO (cA 1) g)) hs h1 ou = some (wO (cA 1) g) := mjoin_r hn ho mup_self
    refine zi_i2l X dL_isolate_7 ?_
    refine zi_last X 1 hou rfl (vin (show 0 < 1 by decide) (by decide)) dL_isolate_8 ?_
    refine zi_goto (tgt := 18) X dL_isolate_9 (by decide) ?_
    refine zi_iconst (v := (nI 0)) X dL_isolate_18 (by decide) ?_
    refine zi_hireturn X Vz dL_isolate_19 ?_
    exact w_ok ho hn ⟨r, rfl, hq⟩
theorem w_rootsIn {Q : Int32 → mH → Prop} {a0 : Int32} (hM : mCx l yX6_rootsIn cX6_rootsIn 2 (some .int) (rmc 7 1 6) D (mT cA) [.ref x, .int a0] hs (mFi hs Q) PX) (hE : ∀ E h1, PX E h1 → E ∈ [eI]) (hx : hs x = some (.inr (10, fs))) (ho : hs ou = none) :
    mCh l yL_rootsIn cL_rootsIn 4 (some .int) [(0, 9, 12, 13)] (rmc 8 1 6) D (mT cA) [.ref x, .int a0, .ref ou] (mup hs ou (wO (cA 1) g)) (mFi (mup hs ou (wO (cA 1) g)) (wPost cA ou (fun v h1 => ∃ r : Int32, v = r.toInt64 ∧ Q r h1) PX [eI])) := by
  have hne := w_ne hx ho
  have hxx : mup hs ou (wO (cA 1) g) x = some (.inr (10, fs)) := by rw [mup_ne hne]; exact hx
  refine mEnter_h (by decide) (Nat.le_of_ble_eq_true rfl) rfl (fun z X Vz => ?_)
  refine zi_aload_n X dL_rootsIn_0 rfl rfl ?_
  refine zi_iconst (v := (nI 0)) X dL_rootsIn_1 (by decide) ?_
  refine zi_aload_n X dL_rootsIn_2 rfl rfl ?_
  refine zi_iload_n X dL_rootsIn_3 rfl rfl ?_
  refine zi_xcallViF X (hM) kc_X6_rootsIn wm_L_90 hxx rfl wim_X6_rootsIn wse_X6_rootsIn (w_sub ho) ⟨Nat.le_of_ble_eq_true rfl, Nat.le_of_ble_eq_true rfl⟩ rfl rfl (Nat.le_of_ble_eq_true rfl) ⟨Nat.le_of_ble_eq_true rfl, Nat.le_of_ble_eq_true rfl⟩ dL_rootsIn_4 (fun E h1 hp hn => ?_) (fun r h1 hq hn => ?_)
  · have hE := hE E h1 hp
    simp only [List.mem_cons, List.not_mem_nil, or_false] at hE
    rcases hE with rfl
    refine zt_catch X Vz [] (0, 9, 12, 13) [] rfl (fun q hq => absurd hq List.not_mem_nil) mx_eI (by decide) (by decide) wc_L_13 wcc_eI (fun q => ?_)
    refine zi_astore_n X dL_rootsIn_12 rfl (by decide) ?_
    refine zi_iconst (v := (nI 1)) X dL_rootsIn_13 (by decide) ?_
    refine zi_hireturn X Vz dL_rootsIn_14 ?_
    exact w_x ho hn (j := 0) rfl hp
  · have hou : mjoin (mup hs ou (wO (cA 1) g)) hs h1 ou = some (wO (cA 1) g) := mjoin_r hn ho mup_self
    refine zi_i2l X dL_rootsIn_7 ?_
    refine zi_last X 1 hou rfl (vin (show 0 < 1 by decide) (by decide)) dL_rootsIn_8 ?_
    refine zi_goto (tgt := 15) X dL_rootsIn_9 (by decide) ?_
    refine zi_iconst (v := (nI 0)) X dL_rootsIn_15 (by decide) ?_
    refine zi_hireturn X Vz dL_rootsIn_16 ?_
    exact w_ok ho hn ⟨r, rfl, hq⟩
theorem w_interval {Q : Int32 → mH → Prop} {a0 a1 : Int32} (hM : mCx l yX6_interval cX6_interval 4 (some .int) (rmc 7 2 12) D (mT cA) [.ref x, .int a0, .int a1] hs (mFi hs Q) PX) (hE : ∀ E h1, PX E h1 → E ∈ [eI, eA]) (hx : hs x = some (.inr (10, fs))) (ho : hs ou = none) :
    mCh l yL_interval cL_interval 5 (some .int) [(0, 10, 13, 13), (0, 10, 17, 15)] (rmc 8 2 12) D (mT cA) [.ref x, .int a0, .int a1, .ref ou] (mup hs ou (wO (cA 1) g)) (mFi (mup hs ou (wO (cA 1) g)) (wPost cA ou (fun v h1 => ∃ r : Int32, v = r.toInt64 ∧ Q r h1) PX [eI, eA])) := by
  have hne := w_ne hx ho
  have hxx : mup hs ou (wO (cA 1) g) x = some (.inr (10, fs)) := by rw [mup_ne hne]; exact hx
  refine mEnter_h (by decide) (Nat.le_of_ble_eq_true rfl) rfl (fun z X Vz => ?_)
  refine zi_aload_n X dL_interval_0 rfl rfl ?_
  refine zi_iconst (v := (nI 0)) X dL_interval_1 (by decide) ?_
  refine zi_aload_n X dL_interval_2 rfl rfl ?_
  refine zi_iload_n X dL_interval_3 rfl rfl ?_
  refine zi_iload_n X dL_interval_4 rfl rfl ?_
  refine zi_xcallViF X (hM) kc_X6_interval wm_L_93 hxx rfl wim_X6_interval wse_X6_interval (w_sub ho) ⟨Nat.le_of_ble_eq_true rfl, Nat.le_of_ble_eq_true rfl⟩ rfl rfl (Nat.le_of_ble_eq_true rfl) ⟨Nat.le_of_ble_eq_true rfl, Nat.le_of_ble_eq_true rfl⟩ dL_interval_5 (fun E h1 hp hn => ?_) (fun r h1 hq hn => ?_)
  · have hE := hE E h1 hp
    simp only [List.mem_cons, List.not_mem_nil, or_false] at hE
    rcases hE with rfl | rfl
    · refine zt_catch X Vz [] (0, 10, 13, 13) [(0, 10, 17, 15)] rfl (fun q hq => absurd hq List.not_mem_nil) mx_eI (by decide) (by decide) wc_L_13 wcc_eI (fun q => ?_)
      refine zi_astore X dL_interval_13 (by decide) ?_
      refine zi_iconst (v := (nI 1)) X dL_interval_15 (by decide) ?_
      refine zi_hireturn X Vz dL_interval_16 ?_
      exact w_x ho hn (j := 0) rfl hp
    · refine zt_catch X Vz [(0, 10, 13, 13)] (0, 10, 17, 15) [] rfl (List.forall_mem_cons.mpr ⟨⟨by decide, eI, mx_eI, wc_L_13, ne_eA_eI⟩, fun q hq => absurd hq List.not_mem_nil⟩) mx_eA (by decide) (by decide) wc_L_15 wcc_eA (fun q => ?_)
      refine zi_astore X dL_interval_17 (by decide) ?_
      refine zi_iconst (v := (nI 2)) X dL_interval_19 (by decide) ?_
      refine zi_hireturn X Vz dL_interval_20 ?_
      exact w_x ho hn (j := 1) rfl hp
  · have hou : mjoin (mup hs ou (wO (cA 1) g)) hs h1 ou = some (wO (cA 1) g) := mjoin_r hn ho mup_self
    refine zi_i2l X dL_interval_8 ?_
    refine zi_last X 1 hou rfl (vin (show 0 < 1 by decide) (by decide)) dL_interval_9 ?_
    refine zi_goto (tgt := 21) X dL_interval_10 (by decide) ?_
    refine zi_iconst (v := (nI 0)) X dL_interval_21 (by decide) ?_
    refine zi_hireturn X Vz dL_interval_22 ?_
    exact w_ok ho hn ⟨r, rfl, hq⟩
theorem w_bisect {Q : Int32 → mH → Prop} {a0 : Int32} (hM : mCx l yX6_bisect cX6_bisect 3 (some .int) (rmc 9 6 5020) D (mT cA) [.ref x, .int a0] hs (mFi hs Q) PX) (hE : ∀ E h1, PX E h1 → E ∈ [eI, eS]) (hx : hs x = some (.inr (10, fs))) (ho : hs ou = none) :
    mCh l yL_bisect cL_bisect 4 (some .int) [(0, 9, 12, 13), (0, 9, 15, 31)] (rmc 10 6 5020) D (mT cA) [.ref x, .int a0, .ref ou] (mup hs ou (wO (cA 1) g)) (mFi (mup hs ou (wO (cA 1) g)) (wPost cA ou (fun v h1 => ∃ r : Int32, v = r.toInt64 ∧ Q r h1) PX [eI, eS])) := by
  have hne := w_ne hx ho
  have hxx : mup hs ou (wO (cA 1) g) x = some (.inr (10, fs)) := by rw [mup_ne hne]; exact hx
  refine mEnter_h (by decide) (Nat.le_of_ble_eq_true rfl) rfl (fun z X Vz => ?_)
  refine zi_aload_n X dL_bisect_0 rfl rfl ?_
  refine zi_iconst (v := (nI 0)) X dL_bisect_1 (by decide) ?_
  refine zi_aload_n X dL_bisect_2 rfl rfl ?_
  refine zi_iload_n X dL_bisect_3 rfl rfl ?_
  refine zi_xcallViF X (hM) kc_X6_bisect wm_L_97 hxx rfl wim_X6_bisect wse_X6_bisect (w_sub ho) ⟨Nat.le_of_ble_eq_true rfl, Nat.le_of_ble_eq_true rfl⟩ rfl rfl (Nat.le_of_ble_eq_true rfl) ⟨Nat.le_of_ble_eq_true rfl, Nat.le_of_ble_eq_true rfl⟩ dL_bisect_4 (fun E h1 hp hn => ?_) (fun r h1 hq hn => ?_)
  · have hE := hE E h1 hp
    simp only [List.mem_cons, List.not_mem_nil, or_false] at hE
    rcases hE with rfl | rfl
    · refine zt_catch X Vz [] (0, 9, 12, 13) [(0, 9, 15, 31)] rfl (fun q hq => absurd hq List.not_mem_nil) mx_eI (by decide) (by decide) wc_L_13 wcc_eI (fun q => ?_)
      refine zi_astore_n X dL_bisect_12 rfl (by decide) ?_
      refine zi_iconst (v := (nI 1)) X dL_bisect_13 (by decide) ?_
      refine zi_hireturn X Vz dL_bisect_14 ?_
      exact w_x ho hn (j := 0) rfl hp
    · refine zt_catch X Vz [(0, 9, 12, 13)] (0, 9, 15, 31) [] rfl (List.forall_mem_cons.mpr ⟨⟨by decide, eI, mx_eI, wc_L_13, ne_eS_eI⟩, fun q hq => absurd hq List.not_mem_nil⟩) mx_eS (by decide) (by decide) wc_L_31 wcc_eS (fun q => ?_)
      refine zi_astore_n X dL_bisect_15 rfl (by decide) ?_
      refine zi_iconst (v := (nI 2)) X dL_bisect_16 (by decide) ?_
      refine zi_hireturn X Vz dL_bisect_17 ?_
      exact w_x ho hn (j := 1) rfl hp
  · have hou : mjoin (mup hs ou (wO (cA 1) g)) hs h1 ou = some (wO (cA 1) g) := mjoin_r hn ho mup_self
    refine zi_i2l X dL_bisect_7 ?_
    refine zi_last X 1 hou rfl (vin (show 0 < 1 by decide) (by decide)) dL_bisect_8 ?_
    refine zi_goto (tgt := 18) X dL_bisect_9 (by decide) ?_
    refine zi_iconst (v := (nI 0)) X dL_bisect_18 (by decide) ?_
    refine zi_hireturn X Vz dL_bisect_19 ?_
    exact w_ok ho hn ⟨r, rfl, hq⟩
theorem w_refine {Q : Int32 → mH → Prop} {a0 a1 : Int32} (hM : mCx l yX6_refine cX6_refine 5 (some .int) (rmc 9 3 18) D (mT cA) [.ref x, .int a0, .int a1] hs (mFi hs Q) PX) (hE : ∀ E h1, PX E h1 → E ∈ [eI, eA, eS]) (hx : hs x = some (.inr (10, fs))) (ho : hs ou = none) :
    mCh l yL_refine cL_refine 5 (some .int) [(0, 10, 13, 13), (0, 10, 17, 15), (0, 10, 21, 31)] (rmc 10 3 18) D (mT cA) [.ref x, .int a0, .int a1, .ref ou] (mup hs ou (wO (cA 1) g)) (mFi (mup hs ou (wO (cA 1) g)) (wPost cA ou (fun v h1 => ∃ r : Int32, v = r.toInt64 ∧ Q r h1) PX [eI, eA, eS])) := by
  have hne := w_ne hx ho
  have hxx : mup hs ou (wO (cA 1) g) x = some (.inr (10, fs)) := by rw [mup_ne hne]; exact hx
  refine mEnter_h (by decide) (Nat.le_of_ble_eq_true rfl) rfl (fun z X Vz => ?_)
  refine zi_aload_n X dL_refine_0 rfl rfl ?_
  refine zi_iconst (v := (nI 0)) X dL_refine_1 (by decide) ?_
  refine zi_aload_n X dL_refine_2 rfl rfl ?_
  refine zi_iload_n X dL_refine_3 rfl rfl ?_
  refine zi_iload_n X dL_refine_4 rfl rfl ?_
  refine zi_xcallViF X (hM) kc_X6_refine wm_L_100 hxx rfl wim_X6_refine wse_X6_refine (w_sub ho) ⟨Nat.le_of_ble_eq_true rfl, Nat.le_of_ble_eq_true rfl⟩ rfl rfl (Nat.le_of_ble_eq_true rfl) ⟨Nat.le_of_ble_eq_true rfl, Nat.le_of_ble_eq_true rfl⟩ dL_refine_5 (fun E h1 hp hn => ?_) (fun r h1 hq hn => ?_)
  · have hE := hE E h1 hp
    simp only [List.mem_cons, List.not_mem_nil, or_false] at hE
    rcases hE with rfl | rfl | rfl
    · refine zt_catch X Vz [] (0, 10, 13, 13) [(0, 10, 17, 15), (0, 10, 21, 31)] rfl (fun q hq => absurd hq List.not_mem_nil) mx_eI (by decide) (by decide) wc_L_13 wcc_eI (fun q => ?_)
      refine zi_astore X dL_refine_13 (by decide) ?_
      refine zi_iconst (v := (nI 1)) X dL_refine_15 (by decide) ?_
      refine zi_hireturn X Vz dL_refine_16 ?_
      exact w_x ho hn (j := 0) rfl hp
    · refine zt_catch X Vz [(0, 10, 13, 13)] (0, 10, 17, 15) [(0, 10, 21, 31)] rfl (List.forall_mem_cons.mpr ⟨⟨by decide, eI, mx_eI, wc_L_13, ne_eA_eI⟩, fun q hq => absurd hq List.not_mem_nil⟩) mx_eA (by decide) (by decide) wc_L_15 wcc_eA (fun q => ?_)
      refine zi_astore X dL_refine_17 (by decide) ?_
      refine zi_iconst (v := (nI 2)) X dL_refine_19 (by decide) ?_
      refine zi_hireturn X Vz dL_refine_20 ?_
      exact w_x ho hn (j := 1) rfl hp
    · refine zt_catch X Vz [(0, 10, 13, 13), (0, 10, 17, 15)] (0, 10, 21, 31) [] rfl (List.forall_mem_cons.mpr ⟨⟨by decide, eI, mx_eI, wc_L_13, ne_eS_eI⟩, List.forall_mem_cons.mpr ⟨⟨by decide, eA, mx_eA, wc_L_15, ne_eS_eA⟩, fun q hq => absurd hq List.not_mem_nil⟩⟩) mx_eS (by decide) (by decide) wc_L_31 wcc_eS (fun q => ?_)
      refine zi_astore X dL_refine_21 (by decide) ?_
      refine zi_iconst (v := (nI 3)) X dL_refine_23 (by decide) ?_
      refine zi_hireturn X Vz dL_refine_24 ?_
      exact w_x ho hn (j := 2) rfl hp
  · have hou : mjoin (mup hs ou (wO (cA 1) g)) hs h1 ou = some (wO (cA 1) g) := mjoin_r hn ho mup_self
    refine zi_i2l X dL_refine_8 ?_
    refine zi_last X 1 hou rfl (vin (show 0 < 1 by decide) (by decide)) dL_refine_9 ?_
    refine zi_goto (tgt := 25) X dL_refine_10 (by decide) ?_
    refine zi_iconst (v := (nI 0)) X dL_refine_25 (by decide) ?_
    refine zi_hireturn X Vz dL_refine_26 ?_
    exact w_ok ho hn ⟨r, rfl, hq⟩
theorem w_multiplicity {Q : Int32 → mH → Prop} {a0 : Int32} (hM : mCx l yX6_multiplicity cX6_multiplicity 5 (some .int) (rmc 9 3 18) D (mT cA) [.ref x, .int a0] hs (mFi hs Q) PX) (hE : ∀ E h1, PX E h1 → E ∈ [eI, eS]) (hx : hs x = some (.inr (10, fs))) (ho : hs ou = none) :
    mCh l yL_multiplicity cL_multiplicity 4 (some .int) [(0, 9, 12, 13), (0, 9, 15, 31)] (rmc 10 3 18) D (mT cA) [.ref x, .int a0, .ref ou] (mup hs ou (wO (cA 1) g)) (mFi (mup hs ou (wO (cA 1) g)) (wPost cA ou (fun v h1 => ∃ r : Int32, v = r.toInt64 ∧ Q r h1) PX [eI, eS])) := by
  have hne := w_ne hx ho
  have hxx : mup hs ou (wO (cA 1) g) x = some (.inr (10, fs)) := by rw [mup_ne hne]; exact hx
  refine mEnter_h (by decide) (Nat.le_of_ble_eq_true rfl) rfl (fun z X Vz => ?_)
  refine zi_aload_n X dL_multiplicity_0 rfl rfl ?_
  refine zi_iconst (v := (nI 0)) X dL_multiplicity_1 (by decide) ?_
  refine zi_aload_n X dL_multiplicity_2 rfl rfl ?_
  refine zi_iload_n X dL_multiplicity_3 rfl rfl ?_
  refine zi_xcallViF X (hM) kc_X6_multiplicity wm_L_103 hxx rfl wim_X6_multiplicity wse_X6_multiplicity (w_sub ho) ⟨Nat.le_of_ble_eq_true rfl, Nat.le_of_ble_eq_true rfl⟩ rfl rfl (Nat.le_of_ble_eq_true rfl) ⟨Nat.le_of_ble_eq_true rfl, Nat.le_of_ble_eq_true rfl⟩ dL_multiplicity_4 (fun E h1 hp hn => ?_) (fun r h1 hq hn => ?_)
  · have hE := hE E h1 hp
    simp only [List.mem_cons, List.not_mem_nil, or_false] at hE
    rcases hE with rfl | rfl
    · refine zt_catch X Vz [] (0, 9, 12, 13) [(0, 9, 15, 31)] rfl (fun q hq => absurd hq List.not_mem_nil) mx_eI (by decide) (by decide) wc_L_13 wcc_eI (fun q => ?_)
      refine zi_astore_n X dL_multiplicity_12 rfl (by decide) ?_
      refine zi_iconst (v := (nI 1)) X dL_multiplicity_13 (by decide) ?_
      refine zi_hireturn X Vz dL_multiplicity_14 ?_
      exact w_x ho hn (j := 0) rfl hp
    · refine zt_catch X Vz [(0, 9, 12, 13)] (0, 9, 15, 31) [] rfl (List.forall_mem_cons.mpr ⟨⟨by decide, eI, mx_eI, wc_L_13, ne_eS_eI⟩, fun q hq => absurd hq List.not_mem_nil⟩) mx_eS (by decide) (by decide) wc_L_31 wcc_eS (fun q => ?_)
      refine zi_astore_n X dL_multiplicity_15 rfl (by decide) ?_
      refine zi_iconst (v := (nI 2)) X dL_multiplicity_16 (by decide) ?_
      refine zi_hireturn X Vz dL_multiplicity_17 ?_
      exact w_x ho hn (j := 1) rfl hp
  · have hou : mjoin (mup hs ou (wO (cA 1) g)) hs h1 ou = some (wO (cA 1) g) := mjoin_r hn ho mup_self
    refine zi_i2l X dL_multiplicity_7 ?_
    refine zi_last X 1 hou rfl (vin (show 0 < 1 by decide) (by decide)) dL_multiplicity_8 ?_
    refine zi_goto (tgt := 18) X dL_multiplicity_9 (by decide) ?_
    refine zi_iconst (v := (nI 0)) X dL_multiplicity_18 (by decide) ?_
    refine zi_hireturn X Vz dL_multiplicity_19 ?_
    exact w_ok ho hn ⟨r, rfl, hq⟩
theorem w_isTrue {Q : Int32 → mH → Prop} {a0 : Int32} (hM : mCx l yX6_isTrue cX6_isTrue 7 (some .boolean) (rmc 8 1 6) D (mT cA) [.ref x, .int a0] hs (mFi hs Q) PX) (hE : ∀ E h1, PX E h1 → E ∈ [eI]) (hx : hs x = some (.inr (10, fs))) (ho : hs ou = none) :
    mCh l yL_isTrue cL_isTrue 4 (some .int) [(0, 16, 19, 13)] (rmc 9 1 6) D (mT cA) [.ref x, .int a0, .ref ou] (mup hs ou (wO (cA 1) g)) (mFi (mup hs ou (wO (cA 1) g)) (wPost cA ou (fun v h1 => ∃ r : Int32, v = (if r = 0 then lN 0 else lN 1) ∧ Q r h1) PX [eI])) := by
  have hne := w_ne hx ho
  have hxx : mup hs ou (wO (cA 1) g) x = some (.inr (10, fs)) := by rw [mup_ne hne]; exact hx
  refine mEnter_h (by decide) (Nat.le_of_ble_eq_true rfl) rfl (fun z X Vz => ?_)
  refine zi_aload_n X dL_isTrue_0 rfl rfl ?_
  refine zi_iconst (v := (nI 0)) X dL_isTrue_1 (by decide) ?_
  refine zi_aload_n X dL_isTrue_2 rfl rfl ?_
  refine zi_iload_n X dL_isTrue_3 rfl rfl ?_
  refine zi_xcallViF X (hM) kc_X6_isTrue wm_L_106 hxx rfl wim_X6_isTrue wse_X6_isTrue (w_sub ho) ⟨Nat.le_of_ble_eq_true rfl, Nat.le_of_ble_eq_true rfl⟩ rfl rfl (Nat.le_of_ble_eq_true rfl) ⟨Nat.le_of_ble_eq_true rfl, Nat.le_of_ble_eq_true rfl⟩ dL_isTrue_4 (fun E h1 hp hn => ?_) (fun r h1 hq hn => ?_)
  · have hE := hE E h1 hp
    simp only [List.mem_cons, List.not_mem_nil, or_false] at hE
    rcases hE with rfl
    refine zt_catch X Vz [] (0, 16, 19, 13) [] rfl (fun q hq => absurd hq List.not_mem_nil) mx_eI (by decide) (by decide) wc_L_13 wcc_eI (fun q => ?_)
    refine zi_astore_n X dL_isTrue_19 rfl (by decide) ?_
    refine zi_iconst (v := (nI 1)) X dL_isTrue_20 (by decide) ?_
    refine zi_hireturn X Vz dL_isTrue_21 ?_
    exact w_x ho hn (j := 0) rfl hp
  · have hou : mjoin (mup hs ou (wO (cA 1) g)) hs h1 ou = some (wO (cA 1) g) := mjoin_r hn ho mup_self
    by_cases c : r = 0
    · refine zi_if_eq (tgt := 14) X dL_isTrue_7 (by decide) (fun c_7 => ?_) (fun c_7 => (by first | exact absurd c c_7 | exact absurd c_7 c))
      refine zi_lconst (v := lN 0) X dL_isTrue_14 (by decide) ?_
      refine zi_last X 1 hou rfl (vin (show 0 < 1 by decide) (by decide)) dL_isTrue_15 ?_
      refine zi_goto (tgt := 22) X dL_isTrue_16 (by decide) ?_
      refine zi_iconst (v := (nI 0)) X dL_isTrue_22 (by decide) ?_
      refine zi_hireturn X Vz dL_isTrue_23 ?_
      exact w_ok ho hn ⟨r, by rw [if_pos c], hq⟩
    · refine zi_if_eq (tgt := 14) X dL_isTrue_7 (by decide) (fun c_7 => (by first | exact absurd c c_7 | exact absurd c_7 c)) (fun c_7 => ?_)
      refine zi_lconst (v := lN 1) X dL_isTrue_10 (by decide) ?_
      refine zi_goto (tgt := 15) X dL_isTrue_11 (by decide) ?_
      refine zi_last X 1 hou rfl (vin (show 0 < 1 by decide) (by decide)) dL_isTrue_15 ?_
      refine zi_goto (tgt := 22) X dL_isTrue_16 (by decide) ?_
      refine zi_iconst (v := (nI 0)) X dL_isTrue_22 (by decide) ?_
      refine zi_hireturn X Vz dL_isTrue_23 ?_
      exact w_ok ho hn ⟨r, by rw [if_neg c], hq⟩
end WRAP
