/-! constructors: Algebra, ArrayList, Isolation, SturmRoots -/
def aoF (N : Nat → Nat) : va_E := .inr (4, [.ref (N 1), .ref (N 3), .ref (N 5), .ref (N 7), .ref (N 9), .ref (N 11), .ref (N 13), .ref (N 15), .ref (N 17), .ref (N 19), .ref (N 21), .ref (N 37), .ref (N 53), .ref (N 69)])
def psA (cA : Nat → ClassId) : List blkE := List.replicate 10 (2, entB (cA 0)) ++ List.replicate 4 (16, entP cA)
def entA (cA : Nat → ClassId) : (Nat → Nat) → Nat → va_E := entO aoF (psA cA)
section INI3
variable {cA : Nat → ClassId} {h : mH} {a : Nat}
theorem some_ne {α : Type} {o : Option α} {x : α} (h : o = some x) : o ≠ none := by rw [h]; exact Option.some_ne_none _
theorem psA_loc : locL (psA cA) := ⟨entB_loc _, entB_loc _, entB_loc _, entB_loc _, entB_loc _, entB_loc _, entB_loc _, entB_loc _, entB_loc _, entB_loc _, entP_loc, entP_loc, entP_loc, entP_loc, trivial⟩
theorem psA_len : lenL (psA cA) = 84 := rfl
theorem entA_loc : locE 85 (entA cA) := entO_loc psA_len psA_loc (fun N N' hN => by
  unfold aoF
  rw [hN 1 (by decide), hN 3 (by decide), hN 5 (by decide), hN 7 (by decide), hN 9 (by decide), hN 11 (by decide), hN 13 (by decide), hN 15 (by decide), hN 17 (by decide), hN 19 (by decide), hN 21 (by decide), hN 37 (by decide), hN 53 (by decide), hN 69 (by decide)])
theorem a_init (l : Launch) (D : va_G) (ha : h a = some (.inr (4, [.null, .null, .null, .null, .null, .null, .null, .null, .null, .null, .null, .null, .null, .null]))) : mCv l yX0_init cX0_init 1 (rmc 4 84 910) D (mT cA) [.ref a] h (fun h1 => made h h1 a 85 (entA cA)) := by
  have ha0 : h a ≠ none := some_ne ha
  refine mEnter_v (by decide) (Nat.le_of_ble_eq_true rfl) rfl (fun z X Vz => ?_)
  refine zi_aload_n X dX0_init_0 rfl rfl ?_
  refine zi_objInit X wm_X0_3 wob_i wob_c (by decide) (by decide) dX0_init_1 ?_
  have A0 : acc h h a 0 [] [] := acc_0
  have y0 := ha
  refine zi_aload_n X dX0_init_4 rfl rfl ?_
  refine zi_new (C := RX1) (T := TX1) (N := 3) (ci := 5) (ty := tyX1) (fs := [.null, .int 0, .int 0]) X rfl in_X1 tyX1_ok wc_X0_9 wit_X1 win_X1 (by decide) (Nat.le_of_ble_eq_true rfl) (Nat.le_of_ble_eq_true rfl) dX0_init_5 (fun q1 hq1 => ?_)
  refine zi_dup X dX0_init_8 rfl ?_
  refine zi_callNv X (b_init (cA := cA) l D mup_self) kc_X1_init wim_X1_init rfl (zN_of X (List.mem_filter.mpr ⟨wn_X0_11, rfl⟩)) ⟨Nat.le_of_ble_eq_true rfl, Nat.le_of_ble_eq_true rfl⟩ rfl rfl (Nat.le_of_ble_eq_true rfl) ⟨Nat.le_of_ble_eq_true rfl, Nat.le_of_ble_eq_true rfl⟩ dX0_init_9 (fun h1 hp => ?_)
  obtain ⟨A1, e1⟩ := acc_obj (m := 2) (ps' := List.replicate 1 (2, entB (cA 0))) A0 rfl rfl ha0 (some_ne y0) (by decide) (entB_loc _) hq1 hp
  rw [y0] at e1
  refine zi_putfF (C := RX0) (T := TX0) (N := 14) (ci := 4) (ty0 := tyX0) X e1 rfl in_X0 tyX0_ok nmX0 0 (by decide) wf_X0_12 rfl rfl (by first | rfl | exact hname) rfl rfl rfl rfl (Nat.le_of_ble_eq_true rfl) dX0_init_12 ?_
  have y1 := @mup_self h1 a
  refine zi_aload_n X dX0_init_15 rfl rfl ?_
  refine zi_new (C := RX1) (T := TX1) (N := 3) (ci := 5) (ty := tyX1) (fs := [.null, .int 0, .int 0]) X rfl in_X1 tyX1_ok wc_X0_9 wit_X1 win_X1 (by decide) (Nat.le_of_ble_eq_true rfl) (Nat.le_of_ble_eq_true rfl) dX0_init_16 (fun q2 hq2 => ?_)
  refine zi_dup X dX0_init_19 rfl ?_
  refine zi_callNv X (b_init (cA := cA) l D mup_self) kc_X1_init wim_X1_init rfl (zN_of X (List.mem_filter.mpr ⟨wn_X0_11, rfl⟩)) ⟨Nat.le_of_ble_eq_true rfl, Nat.le_of_ble_eq_true rfl⟩ rfl rfl (Nat.le_of_ble_eq_true rfl) ⟨Nat.le_of_ble_eq_true rfl, Nat.le_of_ble_eq_true rfl⟩ dX0_init_20 (fun h2 hp => ?_)
  obtain ⟨A2, e2⟩ := acc_obj (m := 4) (ps' := List.replicate 2 (2, entB (cA 0))) (acc_up A1 ha0 _) rfl rfl ha0 (some_ne y1) (by decide) (entB_loc _) hq2 hp
  rw [y1] at e2
  refine zi_putfF (C := RX0) (T := TX0) (N := 14) (ci := 4) (ty0 := tyX0) X e2 rfl in_X0 tyX0_ok nmX0 1 (by decide) wf_X0_18 rfl rfl (by first | rfl | exact hname) rfl rfl rfl rfl (Nat.le_of_ble_eq_true rfl) dX0_init_23 ?_
  have y2 := @mup_self h2 a
  refine zi_aload_n X dX0_init_26 rfl rfl ?_
  refine zi_new (C := RX1) (T := TX1) (N := 3) (ci := 5) (ty := tyX1) (fs := [.null, .int 0, .int 0]) X rfl in_X1 tyX1_ok wc_X0_9 wit_X1 win_X1 (by decide) (Nat.le_of_ble_eq_true rfl) (Nat.le_of_ble_eq_true rfl) dX0_init_27 (fun q3 hq3 => ?_)
  refine zi_dup X dX0_init_30 rfl ?_
  refine zi_callNv X (b_init (cA := cA) l D mup_self) kc_X1_init wim_X1_init rfl (zN_of X (List.mem_filter.mpr ⟨wn_X0_11, rfl⟩)) ⟨Nat.le_of_ble_eq_true rfl, Nat.le_of_ble_eq_true rfl⟩ rfl rfl (Nat.le_of_ble_eq_true rfl) ⟨Nat.le_of_ble_eq_true rfl, Nat.le_of_ble_eq_true rfl⟩ dX0_init_31 (fun h3 hp => ?_)
  obtain ⟨A3, e3⟩ := acc_obj (m := 6) (ps' := List.replicate 3 (2, entB (cA 0))) (acc_up A2 ha0 _) rfl rfl ha0 (some_ne y2) (by decide) (entB_loc _) hq3 hp
  rw [y2] at e3
  refine zi_putfF (C := RX0) (T := TX0) (N := 14) (ci := 4) (ty0 := tyX0) X e3 rfl in_X0 tyX0_ok nmX0 2 (by decide) wf_X0_21 rfl rfl (by first | rfl | exact hname) rfl rfl rfl rfl (Nat.le_of_ble_eq_true rfl) dX0_init_34 ?_
  have y3 := @mup_self h3 a
  refine zi_aload_n X dX0_init_37 rfl rfl ?_
  refine zi_new (C := RX1) (T := TX1) (N := 3) (ci := 5) (ty := tyX1) (fs := [.null, .int 0, .int 0]) X rfl in_X1 tyX1_ok wc_X0_9 wit_X1 win_X1 (by decide) (Nat.le_of_ble_eq_true rfl) (Nat.le_of_ble_eq_true rfl) dX0_init_38 (fun q4 hq4 => ?_)
  refine zi_dup X dX0_init_41 rfl ?_
  refine zi_callNv X (b_init (cA := cA) l D mup_self) kc_X1_init wim_X1_init rfl (zN_of X (List.mem_filter.mpr ⟨wn_X0_11, rfl⟩)) ⟨Nat.le_of_ble_eq_true rfl, Nat.le_of_ble_eq_true rfl⟩ rfl rfl (Nat.le_of_ble_eq_true rfl) ⟨Nat.le_of_ble_eq_true rfl, Nat.le_of_ble_eq_true rfl⟩ dX0_init_42 (fun h4 hp => ?_)
  obtain ⟨A4, e4⟩ := acc_obj (m := 8) (ps' := List.replicate 4 (2, entB (cA 0))) (acc_up A3 ha0 _) rfl rfl ha0 (some_ne y3) (by decide) (entB_loc _) hq4 hp
  rw [y3] at e4
  refine zi_putfF (C := RX0) (T := TX0) (N := 14) (ci := 4) (ty0 := tyX0) X e4 rfl in_X0 tyX0_ok nmX0 3 (by decide) wf_X0_24 rfl rfl (by first | rfl | exact hname) rfl rfl rfl rfl (Nat.le_of_ble_eq_true rfl) dX0_init_45 ?_
  have y4 := @mup_self h4 a
  refine zi_aload_n X dX0_init_48 rfl rfl ?_
  refine zi_new (C := RX1) (T := TX1) (N := 3) (ci := 5) (ty := tyX1) (fs := [.null, .int 0, .int 0]) X rfl in_X1 tyX1_ok wc_X0_9 wit_X1 win_X1 (by decide) (Nat.le_of_ble_eq_true rfl) (Nat.le_of_ble_eq_true rfl) dX0_init_49 (fun q5 hq5 => ?_)
  refine zi_dup X dX0_init_52 rfl ?_
  refine zi_callNv X (b_init (cA := cA) l D mup_self) kc_X1_init wim_X1_init rfl (zN_of X (List.mem_filter.mpr ⟨wn_X0_11, rfl⟩)) ⟨Nat.le_of_ble_eq_true rfl, Nat.le_of_ble_eq_true rfl⟩ rfl rfl (Nat.le_of_ble_eq_true rfl) ⟨Nat.le_of_ble_eq_true rfl, Nat.le_of_ble_eq_true rfl⟩ dX0_init_53 (fun h5 hp => ?_)
  obtain ⟨A5, e5⟩ := acc_obj (m := 10) (ps' := List.replicate 5 (2, entB (cA 0))) (acc_up A4 ha0 _) rfl rfl ha0 (some_ne y4) (by decide) (entB_loc _) hq5 hp
  rw [y4] at e5
  refine zi_putfF (C := RX0) (T := TX0) (N := 14) (ci := 4) (ty0 := tyX0) X e5 rfl in_X0 tyX0_ok nmX0 4 (by decide) wf_X0_27 rfl rfl (by first | rfl | exact hname) rfl rfl rfl rfl (Nat.le_of_ble_eq_true rfl) dX0_init_56 ?_
  have y5 := @mup_self h5 a
  refine zi_aload_n X dX0_init_59 rfl rfl ?_
  refine zi_new (C := RX1) (T := TX1) (N := 3) (ci := 5) (ty := tyX1) (fs := [.null, .int 0, .int 0]) X rfl in_X1 tyX1_ok wc_X0_9 wit_X1 win_X1 (by decide) (Nat.le_of_ble_eq_true rfl) (Nat.le_of_ble_eq_true rfl) dX0_init_60 (fun q6 hq6 => ?_)
  refine zi_dup X dX0_init_63 rfl ?_
  refine zi_callNv X (b_init (cA := cA) l D mup_self) kc_X1_init wim_X1_init rfl (zN_of X (List.mem_filter.mpr ⟨wn_X0_11, rfl⟩)) ⟨Nat.le_of_ble_eq_true rfl, Nat.le_of_ble_eq_true rfl⟩ rfl rfl (Nat.le_of_ble_eq_true rfl) ⟨Nat.le_of_ble_eq_true rfl, Nat.le_of_ble_eq_true rfl⟩ dX0_init_64 (fun h6 hp => ?_)
  obtain ⟨A6, e6⟩ := acc_obj (m := 12) (ps' := List.replicate 6 (2, entB (cA 0))) (acc_up A5 ha0 _) rfl rfl ha0 (some_ne y5) (by decide) (entB_loc _) hq6 hp
  rw [y5] at e6
  refine zi_putfF (C := RX0) (T := TX0) (N := 14) (ci := 4) (ty0 := tyX0) X e6 rfl in_X0 tyX0_ok nmX0 5 (by decide) wf_X0_30 rfl rfl (by first | rfl | exact hname) rfl rfl rfl rfl (Nat.le_of_ble_eq_true rfl) dX0_init_67 ?_
  have y6 := @mup_self h6 a
  refine zi_aload_n X dX0_init_70 rfl rfl ?_
  refine zi_new (C := RX1) (T := TX1) (N := 3) (ci := 5) (ty := tyX1) (fs := [.null, .int 0, .int 0]) X rfl in_X1 tyX1_ok wc_X0_9 wit_X1 win_X1 (by decide) (Nat.le_of_ble_eq_true rfl) (Nat.le_of_ble_eq_true rfl) dX0_init_71 (fun q7 hq7 => ?_)
  refine zi_dup X dX0_init_74 rfl ?_
  refine zi_callNv X (b_init (cA := cA) l D mup_self) kc_X1_init wim_X1_init rfl (zN_of X (List.mem_filter.mpr ⟨wn_X0_11, rfl⟩)) ⟨Nat.le_of_ble_eq_true rfl, Nat.le_of_ble_eq_true rfl⟩ rfl rfl (Nat.le_of_ble_eq_true rfl) ⟨Nat.le_of_ble_eq_true rfl, Nat.le_of_ble_eq_true rfl⟩ dX0_init_75 (fun h7 hp => ?_)
  obtain ⟨A7, e7⟩ := acc_obj (m := 14) (ps' := List.replicate 7 (2, entB (cA 0))) (acc_up A6 ha0 _) rfl rfl ha0 (some_ne y6) (by decide) (entB_loc _) hq7 hp
  rw [y6] at e7
  refine zi_putfF (C := RX0) (T := TX0) (N := 14) (ci := 4) (ty0 := tyX0) X e7 rfl in_X0 tyX0_ok nmX0 6 (by decide) wf_X0_33 rfl rfl (by first | rfl | exact hname) rfl rfl rfl rfl (Nat.le_of_ble_eq_true rfl) dX0_init_78 ?_
  have y7 := @mup_self h7 a
  refine zi_aload_n X dX0_init_81 rfl rfl ?_
  refine zi_new (C := RX1) (T := TX1) (N := 3) (ci := 5) (ty := tyX1) (fs := [.null, .int 0, .int 0]) X rfl in_X1 tyX1_ok wc_X0_9 wit_X1 win_X1 (by decide) (Nat.le_of_ble_eq_true rfl) (Nat.le_of_ble_eq_true rfl) dX0_init_82 (fun q8 hq8 => ?_)
  refine zi_dup X dX0_init_85 rfl ?_
  refine zi_callNv X (b_init (cA := cA) l D mup_self) kc_X1_init wim_X1_init rfl (zN_of X (List.mem_filter.mpr ⟨wn_X0_11, rfl⟩)) ⟨Nat.le_of_ble_eq_true rfl, Nat.le_of_ble_eq_true rfl⟩ rfl rfl (Nat.le_of_ble_eq_true rfl) ⟨Nat.le_of_ble_eq_true rfl, Nat.le_of_ble_eq_true rfl⟩ dX0_init_86 (fun h8 hp => ?_)
  obtain ⟨A8, e8⟩ := acc_obj (m := 16) (ps' := List.replicate 8 (2, entB (cA 0))) (acc_up A7 ha0 _) rfl rfl ha0 (some_ne y7) (by decide) (entB_loc _) hq8 hp
  rw [y7] at e8
  refine zi_putfF (C := RX0) (T := TX0) (N := 14) (ci := 4) (ty0 := tyX0) X e8 rfl in_X0 tyX0_ok nmX0 7 (by decide) wf_X0_36 rfl rfl (by first | rfl | exact hname) rfl rfl rfl rfl (Nat.le_of_ble_eq_true rfl) dX0_init_89 ?_
  have y8 := @mup_self h8 a
  refine zi_aload_n X dX0_init_92 rfl rfl ?_
  refine zi_new (C := RX1) (T := TX1) (N := 3) (ci := 5) (ty := tyX1) (fs := [.null, .int 0, .int 0]) X rfl in_X1 tyX1_ok wc_X0_9 wit_X1 win_X1 (by decide) (Nat.le_of_ble_eq_true rfl) (Nat.le_of_ble_eq_true rfl) dX0_init_93 (fun q9 hq9 => ?_)
  refine zi_dup X dX0_init_96 rfl ?_
  refine zi_callNv X (b_init (cA := cA) l D mup_self) kc_X1_init wim_X1_init rfl (zN_of X (List.mem_filter.mpr ⟨wn_X0_11, rfl⟩)) ⟨Nat.le_of_ble_eq_true rfl, Nat.le_of_ble_eq_true rfl⟩ rfl rfl (Nat.le_of_ble_eq_true rfl) ⟨Nat.le_of_ble_eq_true rfl, Nat.le_of_ble_eq_true rfl⟩ dX0_init_97 (fun h9 hp => ?_)
  obtain ⟨A9, e9⟩ := acc_obj (m := 18) (ps' := List.replicate 9 (2, entB (cA 0))) (acc_up A8 ha0 _) rfl rfl ha0 (some_ne y8) (by decide) (entB_loc _) hq9 hp
  rw [y8] at e9
  refine zi_putfF (C := RX0) (T := TX0) (N := 14) (ci := 4) (ty0 := tyX0) X e9 rfl in_X0 tyX0_ok nmX0 8 (by decide) wf_X0_39 rfl rfl (by first | rfl | exact hname) rfl rfl rfl rfl (Nat.le_of_ble_eq_true rfl) dX0_init_100 ?_
  have y9 := @mup_self h9 a
  refine zi_aload_n X dX0_init_103 rfl rfl ?_
  refine zi_new (C := RX1) (T := TX1) (N := 3) (ci := 5) (ty := tyX1) (fs := [.null, .int 0, .int 0]) X rfl in_X1 tyX1_ok wc_X0_9 wit_X1 win_X1 (by decide) (Nat.le_of_ble_eq_true rfl) (Nat.le_of_ble_eq_true rfl) dX0_init_104 (fun q10 hq10 => ?_)
  refine zi_dup X dX0_init_107 rfl ?_
  refine zi_callNv X (b_init (cA := cA) l D mup_self) kc_X1_init wim_X1_init rfl (zN_of X (List.mem_filter.mpr ⟨wn_X0_11, rfl⟩)) ⟨Nat.le_of_ble_eq_true rfl, Nat.le_of_ble_eq_true rfl⟩ rfl rfl (Nat.le_of_ble_eq_true rfl) ⟨Nat.le_of_ble_eq_true rfl, Nat.le_of_ble_eq_true rfl⟩ dX0_init_108 (fun h10 hp => ?_)
  obtain ⟨A10, e10⟩ := acc_obj (m := 20) (ps' := List.replicate 10 (2, entB (cA 0))) (acc_up A9 ha0 _) rfl rfl ha0 (some_ne y9) (by decide) (entB_loc _) hq10 hp
  rw [y9] at e10
  refine zi_putfF (C := RX0) (T := TX0) (N := 14) (ci := 4) (ty0 := tyX0) X e10 rfl in_X0 tyX0_ok nmX0 9 (by decide) wf_X0_42 rfl rfl (by first | rfl | exact hname) rfl rfl rfl rfl (Nat.le_of_ble_eq_true rfl) dX0_init_111 ?_
  have y10 := @mup_self h10 a
  refine zi_aload_n X dX0_init_114 rfl rfl ?_
  refine zi_new (C := RX4) (T := TX4) (N := 2) (ci := 8) (ty := tyX4) (fs := [.null, .int 0]) X rfl in_X4 tyX4_ok wc_X0_45 wit_X4 win_X4 (by decide) (Nat.le_of_ble_eq_true rfl) (Nat.le_of_ble_eq_true rfl) dX0_init_115 (fun q11 hq11 => ?_)
  refine zi_dup X dX0_init_118 rfl ?_
  refine zi_callIv (host := "") X (p_init (cA := cA) l D mup_self) kc_X4_init wm_X0_47 wim_X4_init rfl ⟨Nat.le_of_ble_eq_true rfl, Nat.le_of_ble_eq_true rfl⟩ rfl rfl (Nat.le_of_ble_eq_true rfl) ⟨Nat.le_of_ble_eq_true rfl, Nat.le_of_ble_eq_true rfl⟩ dX0_init_119 (fun h11 hp => ?_)
  obtain ⟨A11, e11⟩ := acc_obj (m := 36) (ps' := List.replicate 10 (2, entB (cA 0)) ++ List.replicate 1 (16, entP cA)) (acc_up A10 ha0 _) rfl rfl ha0 (some_ne y10) (by decide) entP_loc hq11 hp
  rw [y10] at e11
  refine zi_putfF (C := RX0) (T := TX0) (N := 14) (ci := 4) (ty0 := tyX0) X e11 rfl in_X0 tyX0_ok nmX0 10 (by decide) wf_X0_48 rfl rfl (by first | rfl | exact hname) rfl rfl rfl rfl (Nat.le_of_ble_eq_true rfl) dX0_init_122 ?_
  have y11 := @mup_self h11 a
  refine zi_aload_n X dX0_init_125 rfl rfl ?_
  refine zi_new (C := RX4) (T := TX4) (N := 2) (ci := 8) (ty := tyX4) (fs := [.null, .int 0]) X rfl in_X4 tyX4_ok wc_X0_45 wit_X4 win_X4 (by decide) (Nat.le_of_ble_eq_true rfl) (Nat.le_of_ble_eq_true rfl) dX0_init_126 (fun q12 hq12 => ?_)
  refine zi_dup X dX0_init_129 rfl ?_
  refine zi_callIv (host := "") X (p_init (cA := cA) l D mup_self) kc_X4_init wm_X0_47 wim_X4_init rfl ⟨Nat.le_of_ble_eq_true rfl, Nat.le_of_ble_eq_true rfl⟩ rfl rfl (Nat.le_of_ble_eq_true rfl) ⟨Nat.le_of_ble_eq_true rfl, Nat.le_of_ble_eq_true rfl⟩ dX0_init_130 (fun h12 hp => ?_)
  obtain ⟨A12, e12⟩ := acc_obj (m := 52) (ps' := List.replicate 10 (2, entB (cA 0)) ++ List.replicate 2 (16, entP cA)) (acc_up A11 ha0 _) rfl rfl ha0 (some_ne y11) (by decide) entP_loc hq12 hp
  rw [y11] at e12
  refine zi_putfF (C := RX0) (T := TX0) (N := 14) (ci := 4) (ty0 := tyX0) X e12 rfl in_X0 tyX0_ok nmX0 11 (by decide) wf_X0_52 rfl rfl (by first | rfl | exact hname) rfl rfl rfl rfl (Nat.le_of_ble_eq_true rfl) dX0_init_133 ?_
  have y12 := @mup_self h12 a
  refine zi_aload_n X dX0_init_136 rfl rfl ?_
  refine zi_new (C := RX4) (T := TX4) (N := 2) (ci := 8) (ty := tyX4) (fs := [.null, .int 0]) X rfl in_X4 tyX4_ok wc_X0_45 wit_X4 win_X4 (by decide) (Nat.le_of_ble_eq_true rfl) (Nat.le_of_ble_eq_true rfl) dX0_init_137 (fun q13 hq13 => ?_)
  refine zi_dup X dX0_init_140 rfl ?_
  refine zi_callIv (host := "") X (p_init (cA := cA) l D mup_self) kc_X4_init wm_X0_47 wim_X4_init rfl ⟨Nat.le_of_ble_eq_true rfl, Nat.le_of_ble_eq_true rfl⟩ rfl rfl (Nat.le_of_ble_eq_true rfl) ⟨Nat.le_of_ble_eq_true rfl, Nat.le_of_ble_eq_true rfl⟩ dX0_init_141 (fun h13 hp => ?_)
  obtain ⟨A13, e13⟩ := acc_obj (m := 68) (ps' := List.replicate 10 (2, entB (cA 0)) ++ List.replicate 3 (16, entP cA)) (acc_up A12 ha0 _) rfl rfl ha0 (some_ne y12) (by decide) entP_loc hq13 hp
  rw [y12] at e13
  refine zi_putfF (C := RX0) (T := TX0) (N := 14) (ci := 4) (ty0 := tyX0) X e13 rfl in_X0 tyX0_ok nmX0 12 (by decide) wf_X0_55 rfl rfl (by first | rfl | exact hname) rfl rfl rfl rfl (Nat.le_of_ble_eq_true rfl) dX0_init_144 ?_
  have y13 := @mup_self h13 a
  refine zi_aload_n X dX0_init_147 rfl rfl ?_
  refine zi_new (C := RX4) (T := TX4) (N := 2) (ci := 8) (ty := tyX4) (fs := [.null, .int 0]) X rfl in_X4 tyX4_ok wc_X0_45 wit_X4 win_X4 (by decide) (Nat.le_of_ble_eq_true rfl) (Nat.le_of_ble_eq_true rfl) dX0_init_148 (fun q14 hq14 => ?_)
  refine zi_dup X dX0_init_151 rfl ?_
  refine zi_callIv (host := "") X (p_init (cA := cA) l D mup_self) kc_X4_init wm_X0_47 wim_X4_init rfl ⟨Nat.le_of_ble_eq_true rfl, Nat.le_of_ble_eq_true rfl⟩ rfl rfl (Nat.le_of_ble_eq_true rfl) ⟨Nat.le_of_ble_eq_true rfl, Nat.le_of_ble_eq_true rfl⟩ dX0_init_152 (fun h14 hp => ?_)
  obtain ⟨A14, e14⟩ := acc_obj (m := 84) (ps' := List.replicate 10 (2, entB (cA 0)) ++ List.replicate 4 (16, entP cA)) (acc_up A13 ha0 _) rfl rfl ha0 (some_ne y13) (by decide) entP_loc hq14 hp
  rw [y13] at e14
  refine zi_putfF (C := RX0) (T := TX0) (N := 14) (ci := 4) (ty0 := tyX0) X e14 rfl in_X0 tyX0_ok nmX0 13 (by decide) wf_X0_58 rfl rfl (by first | rfl | exact hname) rfl rfl rfl rfl (Nat.le_of_ble_eq_true rfl) dX0_init_155 ?_
  have y14 := @mup_self h14 a
  refine zi_widen (k := 84) (n := 910) (by decide) (by decide) ?_
  refine zi_return X Vz dX0_init_158 ?_
  have M := acc_made (O := aoF) (acc_up A14 ha0 _) ha0 (fun N n0 hN => by
    have r1 : N 1 = q1 := hN (0, q1) (List.mem_cons_of_mem _ (List.mem_cons_of_mem _ (List.mem_cons_of_mem _ (List.mem_cons_of_mem _ (List.mem_cons_of_mem _ (List.mem_cons_of_mem _ (List.mem_cons_of_mem _ (List.mem_cons_of_mem _ (List.mem_cons_of_mem _ (List.mem_cons_of_mem _ (List.mem_cons_of_mem _ (List.mem_cons_of_mem _ (List.mem_cons_of_mem _ List.mem_cons_self)))))))))))))
    have r2 : N 3 = q2 := hN (2, q2) (List.mem_cons_of_mem _ (List.mem_cons_of_mem _ (List.mem_cons_of_mem _ (List.mem_cons_of_mem _ (List.mem_cons_of_mem _ (List.mem_cons_of_mem _ (List.mem_cons_of_mem _ (List.mem_cons_of_mem _ (List.mem_cons_of_mem _ (List.mem_cons_of_mem _ (List.mem_cons_of_mem _ (List.mem_cons_of_mem _ List.mem_cons_self))))))))))))
    have r3 : N 5 = q3 := hN (4, q3) (List.mem_cons_of_mem _ (List.mem_cons_of_mem _ (List.mem_cons_of_mem _ (List.mem_cons_of_mem _ (List.mem_cons_of_mem _ (List.mem_cons_of_mem _ (List.mem_cons_of_mem _ (List.mem_cons_of_mem _ (List.mem_cons_of_mem _ (List.mem_cons_of_mem _ (List.mem_cons_of_mem _ List.mem_cons_self)))))))))))
    have r4 : N 7 = q4 := hN (6, q4) (List.mem_cons_of_mem _ (List.mem_cons_of_mem _ (List.mem_cons_of_mem _ (List.mem_cons_of_mem _ (List.mem_cons_of_mem _ (List.mem_cons_of_mem _ (List.mem_cons_of_mem _ (List.mem_cons_of_mem _ (List.mem_cons_of_mem _ (List.mem_cons_of_mem _ List.mem_cons_self))))))))))
    have r5 : N 9 = q5 := hN (8, q5) (List.mem_cons_of_mem _ (List.mem_cons_of_mem _ (List.mem_cons_of_mem _ (List.mem_cons_of_mem _ (List.mem_cons_of_mem _ (List.mem_cons_of_mem _ (List.mem_cons_of_mem _ (List.mem_cons_of_mem _ (List.mem_cons_of_mem _ List.mem_cons_self)))))))))
    have r6 : N 11 = q6 := hN (10, q6) (List.mem_cons_of_mem _ (List.mem_cons_of_mem _ (List.mem_cons_of_mem _ (List.mem_cons_of_mem _ (List.mem_cons_of_mem _ (List.mem_cons_of_mem _ (List.mem_cons_of_mem _ (List.mem_cons_of_mem _ List.mem_cons_self))))))))
    have r7 : N 13 = q7 := hN (12, q7) (List.mem_cons_of_mem _ (List.mem_cons_of_mem _ (List.mem_cons_of_mem _ (List.mem_cons_of_mem _ (List.mem_cons_of_mem _ (List.mem_cons_of_mem _ (List.mem_cons_of_mem _ List.mem_cons_self)))))))
    have r8 : N 15 = q8 := hN (14, q8) (List.mem_cons_of_mem _ (List.mem_cons_of_mem _ (List.mem_cons_of_mem _ (List.mem_cons_of_mem _ (List.mem_cons_of_mem _ (List.mem_cons_of_mem _ List.mem_cons_self))))))
    have r9 : N 17 = q9 := hN (16, q9) (List.mem_cons_of_mem _ (List.mem_cons_of_mem _ (List.mem_cons_of_mem _ (List.mem_cons_of_mem _ (List.mem_cons_of_mem _ List.mem_cons_self)))))
    have r10 : N 19 = q10 := hN (18, q10) (List.mem_cons_of_mem _ (List.mem_cons_of_mem _ (List.mem_cons_of_mem _ (List.mem_cons_of_mem _ List.mem_cons_self))))
    have r11 : N 21 = q11 := hN (20, q11) (List.mem_cons_of_mem _ (List.mem_cons_of_mem _ (List.mem_cons_of_mem _ List.mem_cons_self)))
    have r12 : N 37 = q12 := hN (36, q12) (List.mem_cons_of_mem _ (List.mem_cons_of_mem _ List.mem_cons_self))
    have r13 : N 53 = q13 := hN (52, q13) (List.mem_cons_of_mem _ List.mem_cons_self)
    have r14 : N 69 = q14 := hN (68, q14) List.mem_cons_self
    unfold aoF
    rw [mup_self, r1, r2, r3, r4, r5, r6, r7, r8, r9, r10, r11, r12, r13, r14])
  exact M
theorem al_init2 (l : Launch) (D : va_G) : mCv l yJxa1e45_init_da8c8 cJxa1e45_init_da8c8 1 (rmd 2) D (mT cA) [.ref a] h (fun h1 => h1 = h) := by
  refine mEnter_v (by decide) (Nat.le_of_ble_eq_true rfl) rfl (fun z X Vz => ?_)
  refine zi_aload_n X dJxa1e45_init_da8c8_0 rfl rfl ?_
  refine zi_objInit X wm_Jxa1e45_1 wob_i wob_c (by decide) (by decide) dJxa1e45_init_da8c8_1 ?_
  refine zi_return X Vz dJxa1e45_init_da8c8_4 ?_
  rfl
theorem al_init1 (l : Launch) (D : va_G) {x : Int32} {v u : Value} (ha : h a = some (.inr (3, [.int x, v, u]))) : mCv l yJxc12de_init_da8c8 cJxc12de_init_da8c8 1 (rmd 3) D (mT cA) [.ref a] h (fun h1 => h1 = mup h a (.inr (3, [.int (nI 0), v, u]))) := by
  refine mEnter_v (by decide) (Nat.le_of_ble_eq_true rfl) rfl (fun z X Vz => ?_)
  refine zi_aload_n X dJxc12de_init_da8c8_0 rfl rfl ?_
  refine zi_callIv (host := "") X (al_init2 l D) kc_Jxa1e45_init_da8c8 wm_Jxc12de_1 wim_Jxa1e45_init_da8c8 rfl ⟨Nat.le_of_ble_eq_true rfl, Nat.le_of_ble_eq_true rfl⟩ rfl rfl (Nat.le_of_ble_eq_true rfl) ⟨Nat.le_of_ble_eq_true rfl, Nat.le_of_ble_eq_true rfl⟩ dJxc12de_init_da8c8_1 (fun h1 hp => ?_)
  obtain rfl := hp
  refine zi_aload_n X dJxc12de_init_da8c8_4 rfl rfl ?_
  refine zi_iconst (v := (nI 0)) X dJxc12de_init_da8c8_5 (by decide) ?_
  refine zi_putf (C := RJx4a65c) (T := TJx4a65c) (N := 3) (ci := 3) (ty0 := tyJx4a65c) X (by first | assumption | exact mup_self | (rw [mup_ne (by assumption)]; assumption) | (rw [mup_ne (by assumption)]; exact mup_self) | (rw [mup_ne (by assumption), mup_ne (by assumption)]; assumption)) rfl in_Jx4a65c tyJx4a65c_ok nmJx4a65c 0 (by decide) wf_Jxc12de_7 rfl rfl rfl rfl rfl (Nat.le_of_ble_eq_true rfl) dJxc12de_init_da8c8_6 ?_
  refine zi_return X Vz dJxc12de_init_da8c8_9 ?_
  rfl
def entE (D : va_G) : (Nat → Nat) → Nat → va_E := fun _ _ => alO (nI 0) (D.2 1000 0) 0
theorem al_init (l : Launch) (D : va_G) (ha : h a = some (.inr (3, [.int 0, .null, .int 0]))) : mCv l yJx4a65c_init_da8c8 cJx4a65c_init_da8c8 1 (rmd 4) D (mT cA) [.ref a] h (fun h1 => made h h1 a 1 (entE D)) := by
  refine mEnter_v (by decide) (Nat.le_of_ble_eq_true rfl) rfl (fun z X Vz => ?_)
  refine zi_aload_n X dJx4a65c_init_da8c8_0 rfl rfl ?_
  refine zi_callIv (host := "") X (al_init1 l D ha) kc_Jxc12de_init_da8c8 wm_Jx4a65c_1 wim_Jxc12de_init_da8c8 rfl ⟨Nat.le_of_ble_eq_true rfl, Nat.le_of_ble_eq_true rfl⟩ rfl rfl (Nat.le_of_ble_eq_true rfl) ⟨Nat.le_of_ble_eq_true rfl, Nat.le_of_ble_eq_true rfl⟩ dJx4a65c_init_da8c8_1 (fun h1 hp => ?_)
  obtain rfl := hp
  refine zi_aload_n X dJx4a65c_init_da8c8_4 rfl rfl ?_
  refine zi_getsE X wf_Jx4a65c_39 dJx4a65c_init_da8c8_5 ?_
  refine zi_putf (C := RJx4a65c) (T := TJx4a65c) (N := 3) (ci := 3) (ty0 := tyJx4a65c) X (by first | assumption | exact mup_self | (rw [mup_ne (by assumption)]; assumption) | (rw [mup_ne (by assumption)]; exact mup_self) | (rw [mup_ne (by assumption), mup_ne (by assumption)]; assumption)) rfl in_Jx4a65c tyJx4a65c_ok nmJx4a65c 1 (by decide) wf_Jx4a65c_9 rfl rfl rfl rfl rfl (Nat.le_of_ble_eq_true rfl) dJx4a65c_init_da8c8_8 ?_
  refine zi_return X Vz dJx4a65c_init_da8c8_11 ?_
  rw [mup_mup]
  exact made_of (c := 0) (E := entE D) (N := fun _ => 0) (nw_up nw_rf (Or.inl rfl)) (some_ne ha) (by rw [mup_self]; rfl) (fun i hi => absurd hi (Nat.not_lt_zero i))
def isoF (alg : Nat) (N : Nat → Nat) : va_E := .inr (7, [.ref (N 1), .ref (N 17), .ref alg, .ref (N 18)])
def psI (cA : Nat → ClassId) (D : va_G) : List blkE := [(16, entP cA), (1, entE D), (114, entS cA)]
def entI (cA : Nat → ClassId) (D : va_G) (alg : Nat) : (Nat → Nat) → Nat → va_E := entO (isoF alg) (psI cA D)
theorem entI_loc {D : va_G} {alg : Nat} : locE 132 (entI cA D alg) := entO_loc (n := 131) rfl ⟨entP_loc, fun _ _ _ _ _ => rfl, entS_loc, trivial⟩ (fun N N' hN => by
  unfold isoF
  rw [hN 1 (by decide), hN 17 (by decide), hN 18 (by decide)])
theorem ent2_loc {c0 c1 : ClassId} {n k : Nat} : locE (1 + n) (ent2 c0 c1 n k) := fun N N' hN i hi => by
  unfold ent2
  by_cases c : i = 0
  · rw [if_pos c, if_pos c]
    have : (fun j => if j < n then some (N (1 + j)) else none) = fun j => if j < n then some (N' (1 + j)) else none := by
      funext j
      by_cases q : j < n
      · rw [if_pos q, if_pos q, hN _ (by omega)]
      · rw [if_neg q, if_neg q]
    rw [this]
  · rw [if_neg c, if_neg c]
theorem ent3_loc {c2 c0 c1 : ClassId} {n m k : Nat} : locE (1 + n * (1 + m)) (ent3 c2 c0 c1 n m k) := fun N N' hN i hi => by
  unfold ent3
  by_cases c : i = 0
  · rw [if_pos c, if_pos c]
    have : (fun j => if j < n then some (N (1 + j * (1 + m))) else none) = fun j => if j < n then some (N' (1 + j * (1 + m))) else none := by
      funext j
      by_cases q : j < n
      · have := mul_blk (B := 1 + m) (i := 0) q (by omega)
        rw [Nat.mul_comm, Nat.mul_comm (1 + m)] at this
        rw [if_pos q, if_pos q, hN _ (by omega)]
      · rw [if_neg q, if_neg q]
    rw [this]
  · rw [if_neg c, if_neg c]
    by_cases c3 : (i - 1) % (1 + m) = 0
    · rw [if_pos c3, if_pos c3]
      have : (fun j => if j < m then some (N (i + 1 + j)) else none) = fun j => if j < m then some (N' (i + 1 + j)) else none := by
        funext j
        by_cases q : j < m
        · have hm := Nat.div_add_mod (i - 1) (1 + m)
          have hj : (i - 1) / (1 + m) < n := Nat.div_lt_of_lt_mul (by rw [Nat.mul_comm]; omega)
          have := mul_blk (B := 1 + m) (i := 1 + j) hj (by omega)
          rw [Nat.mul_comm n] at hN
          rw [if_pos q, if_pos q, hN _ (by omega)]
        · rw [if_neg q, if_neg q]
      rw [this]
    · rw [if_neg c3, if_neg c3]
theorem iso_init (l : Launch) (D : va_G) {alg : Nat} (ha : h a = some (.inr (7, [.null, .null, .null, .null]))) : mCv l yX3_init cX3_init 2 (rmc 5 131 1372) D (mT cA) [.ref a, .ref alg] h (fun h1 => made h h1 a 132 (entI cA D alg)) := by
  have ha0 : h a ≠ none := some_ne ha
  refine mEnter_v (by decide) (Nat.le_of_ble_eq_true rfl) rfl (fun z X Vz => ?_)
  refine zi_aload_n X dX3_init_0 rfl rfl ?_
  refine zi_objInit X wm_X3_1 wob_i wob_c (by decide) (by decide) dX3_init_1 ?_
  have A0 : acc h h a 0 [] [] := acc_0
  have y0 := ha
  refine zi_aload_n X dX3_init_4 rfl rfl ?_
  refine zi_new (C := RX4) (T := TX4) (N := 2) (ci := 8) (ty := tyX4) (fs := [.null, .int 0]) X rfl in_X4 tyX4_ok wc_X3_7 wit_X4 win_X4 (by decide) (Nat.le_of_ble_eq_true rfl) (Nat.le_of_ble_eq_true rfl) dX3_init_5 (fun q1 hq1 => ?_)
  refine zi_dup X dX3_init_8 rfl ?_
  refine zi_callIv (host := "") X (p_init (cA := cA) l D mup_self) kc_X4_init wm_X3_9 wim_X4_init rfl ⟨Nat.le_of_ble_eq_true rfl, Nat.le_of_ble_eq_true rfl⟩ rfl rfl (Nat.le_of_ble_eq_true rfl) ⟨Nat.le_of_ble_eq_true rfl, Nat.le_of_ble_eq_true rfl⟩ dX3_init_9 (fun h1 hp => ?_)
  obtain ⟨A1, e1⟩ := acc_obj (m := 16) (ps' := [(16, entP cA)]) A0 rfl rfl ha0 (some_ne y0) (by decide) entP_loc hq1 hp
  rw [y0] at e1
  refine zi_putfF (C := RX3) (T := TX3) (N := 4) (ci := 7) (ty0 := tyX3) X e1 rfl in_X3 tyX3_ok nmX3 0 (by decide) wf_X3_10 rfl rfl (by first | rfl | exact hname) rfl rfl rfl rfl (Nat.le_of_ble_eq_true rfl) dX3_init_12 ?_
  have y1 := @mup_self h1 a
  refine zi_aload_n X dX3_init_15 rfl rfl ?_
  refine zi_new (C := RJx4a65c) (T := TJx4a65c) (N := 3) (ci := 3) (ty := tyJx4a65c) (fs := [.int 0, .null, .int 0]) X rfl in_Jx4a65c tyJx4a65c_ok wc_X3_16 wit_Jx4a65c win_Jx4a65c (by decide) (Nat.le_of_ble_eq_true rfl) (Nat.le_of_ble_eq_true rfl) dX3_init_16 (fun q2 hq2 => ?_)
  refine zi_dup X dX3_init_19 rfl ?_
  refine zi_callIv (host := "") X (al_init (cA := cA) l D mup_self) kc_Jx4a65c_init_da8c8 wm_X3_18 wim_Jx4a65c_init_da8c8 rfl ⟨Nat.le_of_ble_eq_true rfl, Nat.le_of_ble_eq_true rfl⟩ rfl rfl (Nat.le_of_ble_eq_true rfl) ⟨Nat.le_of_ble_eq_true rfl, Nat.le_of_ble_eq_true rfl⟩ dX3_init_20 (fun h2 hp => ?_)
  obtain ⟨A2, e2⟩ := acc_obj (m := 17) (ps' := [(16, entP cA), (1, entE D)]) (acc_up A1 ha0 _) rfl rfl ha0 (some_ne y1) (by decide) (fun _ _ _ _ _ => rfl) hq2 hp
  rw [y1] at e2
  refine zi_putfF (C := RX3) (T := TX3) (N := 4) (ci := 7) (ty0 := tyX3) X e2 rfl in_X3 tyX3_ok nmX3 1 (by decide) wf_X3_19 rfl rfl (by first | rfl | exact hname) rfl rfl rfl rfl (Nat.le_of_ble_eq_true rfl) dX3_init_23 ?_
  have y2 := @mup_self h2 a
  refine zi_aload_n X dX3_init_26 rfl rfl ?_
  refine zi_new (C := RX5) (T := TX5) (N := 2) (ci := 9) (ty := tyX5) (fs := [.null, .int 0]) X rfl in_X5 tyX5_ok wc_X3_23 wit_X5 win_X5 (by decide) (Nat.le_of_ble_eq_true rfl) (Nat.le_of_ble_eq_true rfl) dX3_init_27 (fun q3 hq3 => ?_)
  refine zi_dup X dX3_init_30 rfl ?_
  refine zi_callIv (host := "") X (s_init (cA := cA) l D mup_self) kc_X5_init wm_X3_25 wim_X5_init rfl ⟨Nat.le_of_ble_eq_true rfl, Nat.le_of_ble_eq_true rfl⟩ rfl rfl (Nat.le_of_ble_eq_true rfl) ⟨Nat.le_of_ble_eq_true rfl, Nat.le_of_ble_eq_true rfl⟩ dX3_init_31 (fun h3 hp => ?_)
  obtain ⟨A3, e3⟩ := acc_obj (m := 131) (ps' := psI cA D) (acc_up A2 ha0 _) rfl rfl ha0 (some_ne y2) (by decide) entS_loc hq3 hp
  rw [y2] at e3
  refine zi_putfF (C := RX3) (T := TX3) (N := 4) (ci := 7) (ty0 := tyX3) X e3 rfl in_X3 tyX3_ok nmX3 3 (by decide) wf_X3_26 rfl rfl (by first | rfl | exact hname) rfl rfl rfl rfl (Nat.le_of_ble_eq_true rfl) dX3_init_34 ?_
  have y3 := @mup_self h3 a
  refine zi_aload_n X dX3_init_37 rfl rfl ?_
  refine zi_aload_n X dX3_init_38 rfl rfl ?_
  refine zi_putfF (C := RX3) (T := TX3) (N := 4) (ci := 7) (ty0 := tyX3) X y3 rfl in_X3 tyX3_ok nmX3 2 (by decide) wf_X3_30 rfl rfl (by first | rfl | exact hname) rfl rfl rfl rfl (Nat.le_of_ble_eq_true rfl) dX3_init_39 ?_
  refine zi_widen (k := 131) (n := 1372) (by decide) (by decide) ?_
  refine zi_return X Vz dX3_init_42 ?_
  rw [mup_mup]
  have M := acc_made (O := isoF alg) (acc_up A3 ha0 _) ha0 (fun N n0 hN => by
    have r1 : N 1 = q1 := hN (0, q1) (List.mem_cons_of_mem _ (List.mem_cons_of_mem _ List.mem_cons_self))
    have r2 : N 17 = q2 := hN (16, q2) (List.mem_cons_of_mem _ List.mem_cons_self)
    have r3 : N 18 = q3 := hN (17, q3) List.mem_cons_self
    unfold isoF
    rw [mup_self, r1, r2, r3])
  exact M
end INI3
