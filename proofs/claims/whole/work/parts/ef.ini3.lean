/-! constructors: SturmRoots, SturmRootsModel -/
section INI4
variable {cA : Nat → ClassId} {h : mH} {a : Nat}
def x6F (N : Nat → Nat) : va_E := .inr (10, [.ref (N 1), .ref (N 7), .ref (N 8), .ref (N 93), .ref (N 109), .ref (N 125), .ref (N 141), .ref (N 255)])
def ps6 (cA : Nat → ClassId) (D : va_G) (alg : Nat) : List blkE := [(6, ent2 (cA 4) (cA 0) 5 7), (1, fun _ _ => .inl (cA 1, 7, .inr (.inl (fun _ => 0)))), (85, entA cA), (16, entP cA), (16, entP cA), (16, entP cA), (114, entS cA), (132, entI cA D alg)]
theorem x6_init (l : Launch) (D : va_G) (ha : h a = some (.inr (10, [.null, .null, .null, .null, .null, .null, .null, .null]))) : mCv l yX6_init cX6_init 1 (rmc 6 386 4056) D (mT cA) [.ref a] h (fun h1 => ∃ alg, madeL h h1 a 387 (entO x6F (ps6 cA D alg)) [(7, alg)]) := by
  have ha0 : h a ≠ none := some_ne ha
  refine mEnter_v (by decide) (Nat.le_of_ble_eq_true rfl) rfl (fun z X Vz => ?_)
  refine zi_aload_n X dX6_init_0 rfl rfl ?_
  refine zi_objInit X wm_X6_1 wob_i wob_c (by decide) (by decide) dX6_init_1 ?_
  have B0 : acc h h a 0 [] [] := acc_0
  have y0 := ha
  refine zi_aload_n X dX6_init_4 rfl rfl ?_
  refine zi_iconst (v := (nI 5)) X dX6_init_5 (by decide) ?_
  refine zi_bipush (v := (nI 7)) X dX6_init_6 (by decide) ?_
  refine zi_mna2 (t0 := 4) (t1 := 0) (N' := 5) (K' := 7) X rfl rfl wc_X6_9 (by decide) (by decide) rfl rfl (Nat.le_of_ble_eq_true rfl) (Nat.le_of_ble_eq_true rfl) (Nat.le_of_ble_eq_true rfl) (Nat.le_of_ble_eq_true rfl) dX6_init_8 (fun A1 hA1 hB1 => ?_)
  obtain ⟨B1, e1⟩ := acc_mups (E := ent2 (cA 4) (cA 0) 5 7) (m := 6) (ps' := [(6, ent2 (cA 4) (cA 0) 5 7)]) B0 rfl rfl ha0 (some_ne y0) (by decide) (ent2_loc (n := 5)) hA1 hB1
  rw [y0] at e1
  generalize hG1 : mups _ A1 _ _ = g1 at *
  refine zi_putfF (C := RX6) (T := TX6) (N := 8) (ci := 10) (ty0 := tyX6) X e1 rfl in_X6 tyX6_ok nmX6 0 (by decide) wf_X6_11 rfl rfl (by first | rfl | exact hname) rfl rfl rfl rfl (Nat.le_of_ble_eq_true rfl) dX6_init_12 ?_
  refine zi_eqh (h' := mup g1 a (.inr (10, [.ref (A1 0), .null, .null, .null, .null, .null, .null, .null]))) rfl ?_
  have y1 := @mup_self g1 a
  refine zi_aload_n X dX6_init_15 rfl rfl ?_
  refine zi_bipush (v := (nI 7)) X dX6_init_16 (by decide) ?_
  refine zi_newa (atype := .long) (ty := .long) (t0 := 1) (N' := 7) (a0 := (7, .inr (.inl (fun _ => 0)))) X rfl wac_long rfl (fun _ => rfl) (by decide) rfl (Nat.le_of_ble_eq_true rfl) (Nat.le_of_ble_eq_true rfl) (Nat.le_of_ble_eq_true rfl) dX6_init_18 (fun q2 hq2 => ?_)
  obtain ⟨B2, e2⟩ := acc_arr (m := 7) (ps' := [(6, ent2 (cA 4) (cA 0) 5 7), (1, fun _ _ => .inl (cA 1, 7, .inr (.inl (fun _ => 0))))]) (acc_up B1 ha0 _) rfl rfl ha0 (some_ne y1) hq2
  rw [y1] at e2
  generalize hG2 : mup _ q2 _ = g2 at *
  refine zi_putfF (C := RX6) (T := TX6) (N := 8) (ci := 10) (ty0 := tyX6) X e2 rfl in_X6 tyX6_ok nmX6 1 (by decide) wf_X6_14 rfl rfl (by first | rfl | exact hname) rfl rfl rfl rfl (Nat.le_of_ble_eq_true rfl) dX6_init_20 ?_
  refine zi_eqh (h' := mup g2 a (.inr (10, [.ref (A1 0), .ref q2, .null, .null, .null, .null, .null, .null]))) rfl ?_
  have y2 := @mup_self g2 a
  refine zi_aload_n X dX6_init_23 rfl rfl ?_
  refine zi_new (C := RX0) (T := TX0) (N := 14) (ci := 4) (ty := tyX0) (fs := [.null, .null, .null, .null, .null, .null, .null, .null, .null, .null, .null, .null, .null, .null]) X rfl in_X0 tyX0_ok wc_X6_18 wit_X0 win_X0 (by decide) (Nat.le_of_ble_eq_true rfl) (Nat.le_of_ble_eq_true rfl) dX6_init_24 (fun q3 hq3 => ?_)
  refine zi_dup X dX6_init_27 rfl ?_
  refine zi_callNv X (a_init (cA := cA) l D mup_self) kc_X0_init wim_X0_init rfl (zN_of X (List.mem_filter.mpr ⟨wn_X6_20, rfl⟩)) ⟨Nat.le_of_ble_eq_true rfl, Nat.le_of_ble_eq_true rfl⟩ rfl rfl (Nat.le_of_ble_eq_true rfl) ⟨Nat.le_of_ble_eq_true rfl, Nat.le_of_ble_eq_true rfl⟩ dX6_init_28 (fun g3 hp => ?_)
  obtain ⟨B3, e3⟩ := acc_obj (m := 92) (ps' := [(6, ent2 (cA 4) (cA 0) 5 7), (1, fun _ _ => .inl (cA 1, 7, .inr (.inl (fun _ => 0)))), (85, entA cA)]) (acc_up B2 ha0 _) rfl rfl ha0 (some_ne y2) (by decide) entA_loc hq3 hp
  rw [y2] at e3
  refine zi_putfF (C := RX6) (T := TX6) (N := 8) (ci := 10) (ty0 := tyX6) X e3 rfl in_X6 tyX6_ok nmX6 2 (by decide) wf_X6_21 rfl rfl (by first | rfl | exact hname) rfl rfl rfl rfl (Nat.le_of_ble_eq_true rfl) dX6_init_31 ?_
  refine zi_eqh (h' := mup g3 a (.inr (10, [.ref (A1 0), .ref q2, .ref q3, .null, .null, .null, .null, .null]))) rfl ?_
  have y3 := @mup_self g3 a
  refine zi_aload_n X dX6_init_34 rfl rfl ?_
  refine zi_new (C := RX4) (T := TX4) (N := 2) (ci := 8) (ty := tyX4) (fs := [.null, .int 0]) X rfl in_X4 tyX4_ok wc_X6_25 wit_X4 win_X4 (by decide) (Nat.le_of_ble_eq_true rfl) (Nat.le_of_ble_eq_true rfl) dX6_init_35 (fun q4 hq4 => ?_)
  refine zi_dup X dX6_init_38 rfl ?_
  refine zi_callIv (host := "") X (p_init (cA := cA) l D mup_self) kc_X4_init wm_X6_27 wim_X4_init rfl ⟨Nat.le_of_ble_eq_true rfl, Nat.le_of_ble_eq_true rfl⟩ rfl rfl (Nat.le_of_ble_eq_true rfl) ⟨Nat.le_of_ble_eq_true rfl, Nat.le_of_ble_eq_true rfl⟩ dX6_init_39 (fun g4 hp => ?_)
  obtain ⟨B4, e4⟩ := acc_obj (m := 108) (ps' := [(6, ent2 (cA 4) (cA 0) 5 7), (1, fun _ _ => .inl (cA 1, 7, .inr (.inl (fun _ => 0)))), (85, entA cA), (16, entP cA)]) (acc_up B3 ha0 _) rfl rfl ha0 (some_ne y3) (by decide) entP_loc hq4 hp
  rw [y3] at e4
  refine zi_putfF (C := RX6) (T := TX6) (N := 8) (ci := 10) (ty0 := tyX6) X e4 rfl in_X6 tyX6_ok nmX6 3 (by decide) wf_X6_28 rfl rfl (by first | rfl | exact hname) rfl rfl rfl rfl (Nat.le_of_ble_eq_true rfl) dX6_init_42 ?_
  refine zi_eqh (h' := mup g4 a (.inr (10, [.ref (A1 0), .ref q2, .ref q3, .ref q4, .null, .null, .null, .null]))) rfl ?_
  have y4 := @mup_self g4 a
  refine zi_aload_n X dX6_init_45 rfl rfl ?_
  refine zi_new (C := RX4) (T := TX4) (N := 2) (ci := 8) (ty := tyX4) (fs := [.null, .int 0]) X rfl in_X4 tyX4_ok wc_X6_25 wit_X4 win_X4 (by decide) (Nat.le_of_ble_eq_true rfl) (Nat.le_of_ble_eq_true rfl) dX6_init_46 (fun q5 hq5 => ?_)
  refine zi_dup X dX6_init_49 rfl ?_
  refine zi_callIv (host := "") X (p_init (cA := cA) l D mup_self) kc_X4_init wm_X6_27 wim_X4_init rfl ⟨Nat.le_of_ble_eq_true rfl, Nat.le_of_ble_eq_true rfl⟩ rfl rfl (Nat.le_of_ble_eq_true rfl) ⟨Nat.le_of_ble_eq_true rfl, Nat.le_of_ble_eq_true rfl⟩ dX6_init_50 (fun g5 hp => ?_)
  obtain ⟨B5, e5⟩ := acc_obj (m := 124) (ps' := [(6, ent2 (cA 4) (cA 0) 5 7), (1, fun _ _ => .inl (cA 1, 7, .inr (.inl (fun _ => 0)))), (85, entA cA), (16, entP cA), (16, entP cA)]) (acc_up B4 ha0 _) rfl rfl ha0 (some_ne y4) (by decide) entP_loc hq5 hp
  rw [y4] at e5
  refine zi_putfF (C := RX6) (T := TX6) (N := 8) (ci := 10) (ty0 := tyX6) X e5 rfl in_X6 tyX6_ok nmX6 4 (by decide) wf_X6_32 rfl rfl (by first | rfl | exact hname) rfl rfl rfl rfl (Nat.le_of_ble_eq_true rfl) dX6_init_53 ?_
  refine zi_eqh (h' := mup g5 a (.inr (10, [.ref (A1 0), .ref q2, .ref q3, .ref q4, .ref q5, .null, .null, .null]))) rfl ?_
  have y5 := @mup_self g5 a
  refine zi_aload_n X dX6_init_56 rfl rfl ?_
  refine zi_new (C := RX4) (T := TX4) (N := 2) (ci := 8) (ty := tyX4) (fs := [.null, .int 0]) X rfl in_X4 tyX4_ok wc_X6_25 wit_X4 win_X4 (by decide) (Nat.le_of_ble_eq_true rfl) (Nat.le_of_ble_eq_true rfl) dX6_init_57 (fun q6 hq6 => ?_)
  refine zi_dup X dX6_init_60 rfl ?_
  refine zi_callIv (host := "") X (p_init (cA := cA) l D mup_self) kc_X4_init wm_X6_27 wim_X4_init rfl ⟨Nat.le_of_ble_eq_true rfl, Nat.le_of_ble_eq_true rfl⟩ rfl rfl (Nat.le_of_ble_eq_true rfl) ⟨Nat.le_of_ble_eq_true rfl, Nat.le_of_ble_eq_true rfl⟩ dX6_init_61 (fun g6 hp => ?_)
  obtain ⟨B6, e6⟩ := acc_obj (m := 140) (ps' := [(6, ent2 (cA 4) (cA 0) 5 7), (1, fun _ _ => .inl (cA 1, 7, .inr (.inl (fun _ => 0)))), (85, entA cA), (16, entP cA), (16, entP cA), (16, entP cA)]) (acc_up B5 ha0 _) rfl rfl ha0 (some_ne y5) (by decide) entP_loc hq6 hp
  rw [y5] at e6
  refine zi_putfF (C := RX6) (T := TX6) (N := 8) (ci := 10) (ty0 := tyX6) X e6 rfl in_X6 tyX6_ok nmX6 5 (by decide) wf_X6_35 rfl rfl (by first | rfl | exact hname) rfl rfl rfl rfl (Nat.le_of_ble_eq_true rfl) dX6_init_64 ?_
  refine zi_eqh (h' := mup g6 a (.inr (10, [.ref (A1 0), .ref q2, .ref q3, .ref q4, .ref q5, .ref q6, .null, .null]))) rfl ?_
  have y6 := @mup_self g6 a
  refine zi_aload_n X dX6_init_67 rfl rfl ?_
  refine zi_new (C := RX5) (T := TX5) (N := 2) (ci := 9) (ty := tyX5) (fs := [.null, .int 0]) X rfl in_X5 tyX5_ok wc_X6_38 wit_X5 win_X5 (by decide) (Nat.le_of_ble_eq_true rfl) (Nat.le_of_ble_eq_true rfl) dX6_init_68 (fun q7 hq7 => ?_)
  refine zi_dup X dX6_init_71 rfl ?_
  refine zi_callIv (host := "") X (s_init (cA := cA) l D mup_self) kc_X5_init wm_X6_40 wim_X5_init rfl ⟨Nat.le_of_ble_eq_true rfl, Nat.le_of_ble_eq_true rfl⟩ rfl rfl (Nat.le_of_ble_eq_true rfl) ⟨Nat.le_of_ble_eq_true rfl, Nat.le_of_ble_eq_true rfl⟩ dX6_init_72 (fun g7 hp => ?_)
  obtain ⟨B7, e7⟩ := acc_obj (m := 254) (ps' := [(6, ent2 (cA 4) (cA 0) 5 7), (1, fun _ _ => .inl (cA 1, 7, .inr (.inl (fun _ => 0)))), (85, entA cA), (16, entP cA), (16, entP cA), (16, entP cA), (114, entS cA)]) (acc_up B6 ha0 _) rfl rfl ha0 (some_ne y6) (by decide) entS_loc hq7 hp
  rw [y6] at e7
  refine zi_putfF (C := RX6) (T := TX6) (N := 8) (ci := 10) (ty0 := tyX6) X e7 rfl in_X6 tyX6_ok nmX6 6 (by decide) wf_X6_41 rfl rfl (by first | rfl | exact hname) rfl rfl rfl rfl (Nat.le_of_ble_eq_true rfl) dX6_init_75 ?_
  refine zi_eqh (h' := mup g7 a (.inr (10, [.ref (A1 0), .ref q2, .ref q3, .ref q4, .ref q5, .ref q6, .ref q7, .null]))) rfl ?_
  have y7 := @mup_self g7 a
  refine zi_aload_n X dX6_init_78 rfl rfl ?_
  refine zi_new (C := RX3) (T := TX3) (N := 4) (ci := 7) (ty := tyX3) (fs := [.null, .null, .null, .null]) X rfl in_X3 tyX3_ok wc_X6_45 wit_X3 win_X3 (by decide) (Nat.le_of_ble_eq_true rfl) (Nat.le_of_ble_eq_true rfl) dX6_init_79 (fun q8 hq8 => ?_)
  refine zi_dup X dX6_init_82 rfl ?_
  refine zi_aload_n X dX6_init_83 rfl rfl ?_
  refine zi_getf (C := RX6) (T := TX6) (N := 8) (ci := 10) X (by rw [mup_ne (fun w => by rw [← w, mup_self] at hq8; cases hq8)]; exact mup_self) rfl in_X6 2 (by decide) wf_X6_21 rfl rfl dX6_init_84 ?_
  refine zi_callIv (host := "") X (iso_init (cA := cA) (alg := q3) l D mup_self) kc_X3_init wm_X6_47 wim_X3_init rfl ⟨Nat.le_of_ble_eq_true rfl, Nat.le_of_ble_eq_true rfl⟩ rfl rfl (Nat.le_of_ble_eq_true rfl) ⟨Nat.le_of_ble_eq_true rfl, Nat.le_of_ble_eq_true rfl⟩ dX6_init_87 (fun g8 hp => ?_)
  obtain ⟨B8, e8⟩ := acc_obj (m := 386) (ps' := [(6, ent2 (cA 4) (cA 0) 5 7), (1, fun _ _ => .inl (cA 1, 7, .inr (.inl (fun _ => 0)))), (85, entA cA), (16, entP cA), (16, entP cA), (16, entP cA), (114, entS cA), (132, entI cA D q3)]) (acc_up B7 ha0 _) rfl rfl ha0 (some_ne y7) (by decide) entI_loc hq8 hp
  rw [y7] at e8
  refine zi_putfF (C := RX6) (T := TX6) (N := 8) (ci := 10) (ty0 := tyX6) X e8 rfl in_X6 tyX6_ok nmX6 7 (by decide) wf_X6_50 rfl rfl (by first | rfl | exact hname) rfl rfl rfl rfl (Nat.le_of_ble_eq_true rfl) dX6_init_90 ?_
  refine zi_eqh (h' := mup g8 a (.inr (10, [.ref (A1 0), .ref q2, .ref q3, .ref q4, .ref q5, .ref q6, .ref q7, .ref q8]))) rfl ?_
  have y8 := @mup_self g8 a
  refine zi_widen (k := 386) (n := 4056) (by decide) (by decide) ?_
  refine zi_return X Vz dX6_init_93 ?_
  have M := acc_madeL (O := x6F) (acc_up B8 ha0 _) ha0 (fun N n0 hN => by
    have r1 : N 1 = A1 0 := hN (0, A1 0) (List.mem_cons_of_mem _ (List.mem_cons_of_mem _ (List.mem_cons_of_mem _ (List.mem_cons_of_mem _ (List.mem_cons_of_mem _ (List.mem_cons_of_mem _ (List.mem_cons_of_mem _ List.mem_cons_self)))))))
    have r2 : N 7 = q2 := hN (6, q2) (List.mem_cons_of_mem _ (List.mem_cons_of_mem _ (List.mem_cons_of_mem _ (List.mem_cons_of_mem _ (List.mem_cons_of_mem _ (List.mem_cons_of_mem _ List.mem_cons_self))))))
    have r3 : N 8 = q3 := hN (7, q3) (List.mem_cons_of_mem _ (List.mem_cons_of_mem _ (List.mem_cons_of_mem _ (List.mem_cons_of_mem _ (List.mem_cons_of_mem _ List.mem_cons_self)))))
    have r4 : N 93 = q4 := hN (92, q4) (List.mem_cons_of_mem _ (List.mem_cons_of_mem _ (List.mem_cons_of_mem _ (List.mem_cons_of_mem _ List.mem_cons_self))))
    have r5 : N 109 = q5 := hN (108, q5) (List.mem_cons_of_mem _ (List.mem_cons_of_mem _ (List.mem_cons_of_mem _ List.mem_cons_self)))
    have r6 : N 125 = q6 := hN (124, q6) (List.mem_cons_of_mem _ (List.mem_cons_of_mem _ List.mem_cons_self))
    have r7 : N 141 = q7 := hN (140, q7) (List.mem_cons_of_mem _ List.mem_cons_self)
    have r8 : N 255 = q8 := hN (254, q8) List.mem_cons_self
    unfold x6F
    rw [mup_self, r1, r2, r3, r4, r5, r6, r7, r8])
  obtain ⟨N, M1, M2⟩ := M
  exact ⟨q3, N, M1, fun p hp => by
    rw [List.mem_singleton] at hp
    rw [hp]
    exact M2 _ (List.mem_cons_of_mem _ (List.mem_cons_of_mem _ (List.mem_cons_of_mem _ (List.mem_cons_of_mem _ (List.mem_cons_of_mem _ List.mem_cons_self)))))⟩
def x7F (N : Nat → Nat) : va_E := .inr (11, [.int 0, .ref (N 1), .ref (N 7), .ref (N 8), .ref (N 9), .ref (N 10), .ref (N 11), .ref (N 12), .ref (N 13), .ref (N 21), .ref (N 29), .ref (N 37), .ref (N 45), .ref (N 53), .ref (N 1334), .ref (N 1335), .ref (N 1343), .ref (N 1344), .ref (N 1352), .int 0, .ref (N 1417), .ref (N 1418), .ref (N 1426), .ref (N 1427), .ref (N 1428), .ref (N 1429), .int 0])
def ps7 (cA : Nat → ClassId) : List blkE := [(6, ent2 (cA 4) (cA 0) 5 7), (1, fun _ _ => .inl (cA 0, 48, .inl (fun _ => 0))), (1, fun _ _ => .inl (cA 0, 48, .inl (fun _ => 0))), (1, fun _ _ => .inl (cA 0, 48, .inl (fun _ => 0))), (1, fun _ _ => .inl (cA 0, 48, .inl (fun _ => 0))), (1, fun _ _ => .inl (cA 0, 48, .inl (fun _ => 0))), (1, fun _ _ => .inl (cA 0, 48, .inl (fun _ => 0))), (8, ent2 (cA 4) (cA 0) 7 48), (8, ent2 (cA 4) (cA 0) 7 48), (8, ent2 (cA 4) (cA 0) 7 48), (8, ent2 (cA 4) (cA 0) 7 48), (8, ent2 (cA 4) (cA 0) 7 48), (1281, ent3 (cA 5) (cA 4) (cA 0) 160 7 48), (1, fun _ _ => .inl (cA 0, 160, .inl (fun _ => 0))), (8, ent2 (cA 4) (cA 0) 7 48), (1, fun _ _ => .inl (cA 1, 14, .inr (.inl (fun _ => 0)))), (8, ent2 (cA 4) (cA 0) 7 48), (65, ent3 (cA 5) (cA 4) (cA 0) 8 7 48), (1, fun _ _ => .inl (cA 0, 7, .inl (fun _ => 0))), (8, ent2 (cA 4) (cA 0) 7 48), (1, fun _ _ => .inl (cA 0, 64, .inl (fun _ => 0))), (1, fun _ _ => .inl (cA 0, 64, .inl (fun _ => 0))), (1, fun _ _ => .inl (cA 0, 64, .inl (fun _ => 0))), (1, fun _ _ => .inl (cA 0, 64, .inl (fun _ => 0)))]
theorem x7_init (l : Launch) (D : va_G) (ha : h a = some (.inr (11, [.int 0, .null, .null, .null, .null, .null, .null, .null, .null, .null, .null, .null, .null, .null, .null, .null, .null, .null, .null, .int 0, .null, .null, .null, .null, .null, .null, .int 0]))) : mCv l yX7_init cX7_init 1 (rmc 2 1429 61301) D (mT cA) [.ref a] h (fun h1 => madeL h h1 a 1430 (entO x7F (ps7 cA)) []) := by
  have ha0 : h a ≠ none := some_ne ha
  refine mEnter_v (by decide) (Nat.le_of_ble_eq_true rfl) rfl (fun z X Vz => ?_)
  refine zi_aload_n X dX7_init_0 rfl rfl ?_
  refine zi_objInit X wm_X7_1 wob_i wob_c (by decide) (by decide) dX7_init_1 ?_
  have B0 : acc h h a 0 [] [] := acc_0
  have y0 := ha
  refine zi_aload_n X dX7_init_4 rfl rfl ?_
  refine zi_iconst (v := (nI 5)) X dX7_init_5 (by decide) ?_
  refine zi_bipush (v := (nI 7)) X dX7_init_6 (by decide) ?_
  refine zi_mna2 (t0 := 4) (t1 := 0) (N' := 5) (K' := 7) X rfl rfl wc_X7_9 (by decide) (by decide) rfl rfl (Nat.le_of_ble_eq_true rfl) (Nat.le_of_ble_eq_true rfl) (Nat.le_of_ble_eq_true rfl) (Nat.le_of_ble_eq_true rfl) dX7_init_8 (fun A1 hA1 hB1 => ?_)
  obtain ⟨B1, e1⟩ := acc_mups (E := ent2 (cA 4) (cA 0) 5 7) (m := 6) (ps' := [(6, ent2 (cA 4) (cA 0) 5 7)]) B0 rfl rfl ha0 (some_ne y0) (by decide) (ent2_loc (n := 5)) hA1 hB1
  rw [y0] at e1
  generalize hG1 : mups _ A1 _ _ = g1 at *
  refine zi_putfF (C := RX7) (T := TX7) (N := 27) (ci := 11) (ty0 := tyX7) X e1 rfl in_X7 tyX7_ok nmX7 1 (by decide) wf_X7_11 rfl rfl (by first | rfl | exact hname) rfl rfl rfl rfl (Nat.le_of_ble_eq_true rfl) dX7_init_12 ?_
  refine zi_eqh (h' := mup g1 a (.inr (11, [.int 0, .ref (A1 0), .null, .null, .null, .null, .null, .null, .null, .null, .null, .null, .null, .null, .null, .null, .null, .null, .null, .int 0, .null, .null, .null, .null, .null, .null, .int 0]))) rfl ?_
  have y1 := @mup_self g1 a
  refine zi_aload_n X dX7_init_15 rfl rfl ?_
  refine zi_bipush (v := (nI 48)) X dX7_init_16 (by decide) ?_
  refine zi_newa (atype := .int) (ty := .int) (t0 := 0) (N' := 48) (a0 := (48, .inl (fun _ => 0))) X rfl wac_int rfl (fun _ => rfl) (by decide) rfl (Nat.le_of_ble_eq_true rfl) (Nat.le_of_ble_eq_true rfl) (Nat.le_of_ble_eq_true rfl) dX7_init_18 (fun q2 hq2 => ?_)
  obtain ⟨B2, e2⟩ := acc_arr (m := 7) (ps' := [(6, ent2 (cA 4) (cA 0) 5 7), (1, fun _ _ => .inl (cA 0, 48, .inl (fun _ => 0)))]) (acc_up B1 ha0 _) rfl rfl ha0 (some_ne y1) hq2
  rw [y1] at e2
  generalize hG2 : mup _ q2 _ = g2 at *
  refine zi_putfF (C := RX7) (T := TX7) (N := 27) (ci := 11) (ty0 := tyX7) X e2 rfl in_X7 tyX7_ok nmX7 2 (by decide) wf_X7_14 rfl rfl (by first | rfl | exact hname) rfl rfl rfl rfl (Nat.le_of_ble_eq_true rfl) dX7_init_20 ?_
  refine zi_eqh (h' := mup g2 a (.inr (11, [.int 0, .ref (A1 0), .ref q2, .null, .null, .null, .null, .null, .null, .null, .null, .null, .null, .null, .null, .null, .null, .null, .null, .int 0, .null, .null, .null, .null, .null, .null, .int 0]))) rfl ?_
  have y2 := @mup_self g2 a
  refine zi_aload_n X dX7_init_23 rfl rfl ?_
  refine zi_bipush (v := (nI 48)) X dX7_init_24 (by decide) ?_
  refine zi_newa (atype := .int) (ty := .int) (t0 := 0) (N' := 48) (a0 := (48, .inl (fun _ => 0))) X rfl wac_int rfl (fun _ => rfl) (by decide) rfl (Nat.le_of_ble_eq_true rfl) (Nat.le_of_ble_eq_true rfl) (Nat.le_of_ble_eq_true rfl) dX7_init_26 (fun q3 hq3 => ?_)
  obtain ⟨B3, e3⟩ := acc_arr (m := 8) (ps' := [(6, ent2 (cA 4) (cA 0) 5 7), (1, fun _ _ => .inl (cA 0, 48, .inl (fun _ => 0))), (1, fun _ _ => .inl (cA 0, 48, .inl (fun _ => 0)))]) (acc_up B2 ha0 _) rfl rfl ha0 (some_ne y2) hq3
  rw [y2] at e3
  generalize hG3 : mup _ q3 _ = g3 at *
  refine zi_putfF (C := RX7) (T := TX7) (N := 27) (ci := 11) (ty0 := tyX7) X e3 rfl in_X7 tyX7_ok nmX7 3 (by decide) wf_X7_18 rfl rfl (by first | rfl | exact hname) rfl rfl rfl rfl (Nat.le_of_ble_eq_true rfl) dX7_init_28 ?_
  refine zi_eqh (h' := mup g3 a (.inr (11, [.int 0, .ref (A1 0), .ref q2, .ref q3, .null, .null, .null, .null, .null, .null, .null, .null, .null, .null, .null, .null, .null, .null, .null, .int 0, .null, .null, .null, .null, .null, .null, .int 0]))) rfl ?_
  have y3 := @mup_self g3 a
  refine zi_aload_n X dX7_init_31 rfl rfl ?_
  refine zi_bipush (v := (nI 48)) X dX7_init_32 (by decide) ?_
  refine zi_newa (atype := .int) (ty := .int) (t0 := 0) (N' := 48) (a0 := (48, .inl (fun _ => 0))) X rfl wac_int rfl (fun _ => rfl) (by decide) rfl (Nat.le_of_ble_eq_true rfl) (Nat.le_of_ble_eq_true rfl) (Nat.le_of_ble_eq_true rfl) dX7_init_34 (fun q4 hq4 => ?_)
  obtain ⟨B4, e4⟩ := acc_arr (m := 9) (ps' := [(6, ent2 (cA 4) (cA 0) 5 7), (1, fun _ _ => .inl (cA 0, 48, .inl (fun _ => 0))), (1, fun _ _ => .inl (cA 0, 48, .inl (fun _ => 0))), (1, fun _ _ => .inl (cA 0, 48, .inl (fun _ => 0)))]) (acc_up B3 ha0 _) rfl rfl ha0 (some_ne y3) hq4
  rw [y3] at e4
  generalize hG4 : mup _ q4 _ = g4 at *
  refine zi_putfF (C := RX7) (T := TX7) (N := 27) (ci := 11) (ty0 := tyX7) X e4 rfl in_X7 tyX7_ok nmX7 4 (by decide) wf_X7_21 rfl rfl (by first | rfl | exact hname) rfl rfl rfl rfl (Nat.le_of_ble_eq_true rfl) dX7_init_36 ?_
  refine zi_eqh (h' := mup g4 a (.inr (11, [.int 0, .ref (A1 0), .ref q2, .ref q3, .ref q4, .null, .null, .null, .null, .null, .null, .null, .null, .null, .null, .null, .null, .null, .null, .int 0, .null, .null, .null, .null, .null, .null, .int 0]))) rfl ?_
  have y4 := @mup_self g4 a
  refine zi_aload_n X dX7_init_39 rfl rfl ?_
  refine zi_bipush (v := (nI 48)) X dX7_init_40 (by decide) ?_
  refine zi_newa (atype := .int) (ty := .int) (t0 := 0) (N' := 48) (a0 := (48, .inl (fun _ => 0))) X rfl wac_int rfl (fun _ => rfl) (by decide) rfl (Nat.le_of_ble_eq_true rfl) (Nat.le_of_ble_eq_true rfl) (Nat.le_of_ble_eq_true rfl) dX7_init_42 (fun q5 hq5 => ?_)
  obtain ⟨B5, e5⟩ := acc_arr (m := 10) (ps' := [(6, ent2 (cA 4) (cA 0) 5 7), (1, fun _ _ => .inl (cA 0, 48, .inl (fun _ => 0))), (1, fun _ _ => .inl (cA 0, 48, .inl (fun _ => 0))), (1, fun _ _ => .inl (cA 0, 48, .inl (fun _ => 0))), (1, fun _ _ => .inl (cA 0, 48, .inl (fun _ => 0)))]) (acc_up B4 ha0 _) rfl rfl ha0 (some_ne y4) hq5
  rw [y4] at e5
  generalize hG5 : mup _ q5 _ = g5 at *
  refine zi_putfF (C := RX7) (T := TX7) (N := 27) (ci := 11) (ty0 := tyX7) X e5 rfl in_X7 tyX7_ok nmX7 5 (by decide) wf_X7_24 rfl rfl (by first | rfl | exact hname) rfl rfl rfl rfl (Nat.le_of_ble_eq_true rfl) dX7_init_44 ?_
  refine zi_eqh (h' := mup g5 a (.inr (11, [.int 0, .ref (A1 0), .ref q2, .ref q3, .ref q4, .ref q5, .null, .null, .null, .null, .null, .null, .null, .null, .null, .null, .null, .null, .null, .int 0, .null, .null, .null, .null, .null, .null, .int 0]))) rfl ?_
  have y5 := @mup_self g5 a
  refine zi_aload_n X dX7_init_47 rfl rfl ?_
  refine zi_bipush (v := (nI 48)) X dX7_init_48 (by decide) ?_
  refine zi_newa (atype := .int) (ty := .int) (t0 := 0) (N' := 48) (a0 := (48, .inl (fun _ => 0))) X rfl wac_int rfl (fun _ => rfl) (by decide) rfl (Nat.le_of_ble_eq_true rfl) (Nat.le_of_ble_eq_true rfl) (Nat.le_of_ble_eq_true rfl) dX7_init_50 (fun q6 hq6 => ?_)
  obtain ⟨B6, e6⟩ := acc_arr (m := 11) (ps' := [(6, ent2 (cA 4) (cA 0) 5 7), (1, fun _ _ => .inl (cA 0, 48, .inl (fun _ => 0))), (1, fun _ _ => .inl (cA 0, 48, .inl (fun _ => 0))), (1, fun _ _ => .inl (cA 0, 48, .inl (fun _ => 0))), (1, fun _ _ => .inl (cA 0, 48, .inl (fun _ => 0))), (1, fun _ _ => .inl (cA 0, 48, .inl (fun _ => 0)))]) (acc_up B5 ha0 _) rfl rfl ha0 (some_ne y5) hq6
  rw [y5] at e6
  generalize hG6 : mup _ q6 _ = g6 at *
  refine zi_putfF (C := RX7) (T := TX7) (N := 27) (ci := 11) (ty0 := tyX7) X e6 rfl in_X7 tyX7_ok nmX7 6 (by decide) wf_X7_27 rfl rfl (by first | rfl | exact hname) rfl rfl rfl rfl (Nat.le_of_ble_eq_true rfl) dX7_init_52 ?_
  refine zi_eqh (h' := mup g6 a (.inr (11, [.int 0, .ref (A1 0), .ref q2, .ref q3, .ref q4, .ref q5, .ref q6, .null, .null, .null, .null, .null, .null, .null, .null, .null, .null, .null, .null, .int 0, .null, .null, .null, .null, .null, .null, .int 0]))) rfl ?_
  have y6 := @mup_self g6 a
  refine zi_aload_n X dX7_init_55 rfl rfl ?_
  refine zi_bipush (v := (nI 48)) X dX7_init_56 (by decide) ?_
  refine zi_newa (atype := .int) (ty := .int) (t0 := 0) (N' := 48) (a0 := (48, .inl (fun _ => 0))) X rfl wac_int rfl (fun _ => rfl) (by decide) rfl (Nat.le_of_ble_eq_true rfl) (Nat.le_of_ble_eq_true rfl) (Nat.le_of_ble_eq_true rfl) dX7_init_58 (fun q7 hq7 => ?_)
  obtain ⟨B7, e7⟩ := acc_arr (m := 12) (ps' := [(6, ent2 (cA 4) (cA 0) 5 7), (1, fun _ _ => .inl (cA 0, 48, .inl (fun _ => 0))), (1, fun _ _ => .inl (cA 0, 48, .inl (fun _ => 0))), (1, fun _ _ => .inl (cA 0, 48, .inl (fun _ => 0))), (1, fun _ _ => .inl (cA 0, 48, .inl (fun _ => 0))), (1, fun _ _ => .inl (cA 0, 48, .inl (fun _ => 0))), (1, fun _ _ => .inl (cA 0, 48, .inl (fun _ => 0)))]) (acc_up B6 ha0 _) rfl rfl ha0 (some_ne y6) hq7
  rw [y6] at e7
  generalize hG7 : mup _ q7 _ = g7 at *
  refine zi_putfF (C := RX7) (T := TX7) (N := 27) (ci := 11) (ty0 := tyX7) X e7 rfl in_X7 tyX7_ok nmX7 7 (by decide) wf_X7_30 rfl rfl (by first | rfl | exact hname) rfl rfl rfl rfl (Nat.le_of_ble_eq_true rfl) dX7_init_60 ?_
  refine zi_eqh (h' := mup g7 a (.inr (11, [.int 0, .ref (A1 0), .ref q2, .ref q3, .ref q4, .ref q5, .ref q6, .ref q7, .null, .null, .null, .null, .null, .null, .null, .null, .null, .null, .null, .int 0, .null, .null, .null, .null, .null, .null, .int 0]))) rfl ?_
  have y7 := @mup_self g7 a
  refine zi_aload_n X dX7_init_63 rfl rfl ?_
  refine zi_bipush (v := (nI 7)) X dX7_init_64 (by decide) ?_
  refine zi_bipush (v := (nI 48)) X dX7_init_66 (by decide) ?_
  refine zi_mna2 (t0 := 4) (t1 := 0) (N' := 7) (K' := 48) X rfl rfl wc_X7_9 (by decide) (by decide) rfl rfl (Nat.le_of_ble_eq_true rfl) (Nat.le_of_ble_eq_true rfl) (Nat.le_of_ble_eq_true rfl) (Nat.le_of_ble_eq_true rfl) dX7_init_68 (fun A8 hA8 hB8 => ?_)
  obtain ⟨B8, e8⟩ := acc_mups (E := ent2 (cA 4) (cA 0) 7 48) (m := 20) (ps' := [(6, ent2 (cA 4) (cA 0) 5 7), (1, fun _ _ => .inl (cA 0, 48, .inl (fun _ => 0))), (1, fun _ _ => .inl (cA 0, 48, .inl (fun _ => 0))), (1, fun _ _ => .inl (cA 0, 48, .inl (fun _ => 0))), (1, fun _ _ => .inl (cA 0, 48, .inl (fun _ => 0))), (1, fun _ _ => .inl (cA 0, 48, .inl (fun _ => 0))), (1, fun _ _ => .inl (cA 0, 48, .inl (fun _ => 0))), (8, ent2 (cA 4) (cA 0) 7 48)]) (acc_up B7 ha0 _) rfl rfl ha0 (some_ne y7) (by decide) (ent2_loc (n := 7)) hA8 hB8
  rw [y7] at e8
  generalize hG8 : mups _ A8 _ _ = g8 at *
  refine zi_putfF (C := RX7) (T := TX7) (N := 27) (ci := 11) (ty0 := tyX7) X e8 rfl in_X7 tyX7_ok nmX7 8 (by decide) wf_X7_33 rfl rfl (by first | rfl | exact hname) rfl rfl rfl rfl (Nat.le_of_ble_eq_true rfl) dX7_init_72 ?_
  refine zi_eqh (h' := mup g8 a (.inr (11, [.int 0, .ref (A1 0), .ref q2, .ref q3, .ref q4, .ref q5, .ref q6, .ref q7, .ref (A8 0), .null, .null, .null, .null, .null, .null, .null, .null, .null, .null, .int 0, .null, .null, .null, .null, .null, .null, .int 0]))) rfl ?_
  have y8 := @mup_self g8 a
  refine zi_aload_n X dX7_init_75 rfl rfl ?_
  refine zi_bipush (v := (nI 7)) X dX7_init_76 (by decide) ?_
  refine zi_bipush (v := (nI 48)) X dX7_init_78 (by decide) ?_
  refine zi_mna2 (t0 := 4) (t1 := 0) (N' := 7) (K' := 48) X rfl rfl wc_X7_9 (by decide) (by decide) rfl rfl (Nat.le_of_ble_eq_true rfl) (Nat.le_of_ble_eq_true rfl) (Nat.le_of_ble_eq_true rfl) (Nat.le_of_ble_eq_true rfl) dX7_init_80 (fun A9 hA9 hB9 => ?_)
  obtain ⟨B9, e9⟩ := acc_mups (E := ent2 (cA 4) (cA 0) 7 48) (m := 28) (ps' := [(6, ent2 (cA 4) (cA 0) 5 7), (1, fun _ _ => .inl (cA 0, 48, .inl (fun _ => 0))), (1, fun _ _ => .inl (cA 0, 48, .inl (fun _ => 0))), (1, fun _ _ => .inl (cA 0, 48, .inl (fun _ => 0))), (1, fun _ _ => .inl (cA 0, 48, .inl (fun _ => 0))), (1, fun _ _ => .inl (cA 0, 48, .inl (fun _ => 0))), (1, fun _ _ => .inl (cA 0, 48, .inl (fun _ => 0))), (8, ent2 (cA 4) (cA 0) 7 48), (8, ent2 (cA 4) (cA 0) 7 48)]) (acc_up B8 ha0 _) rfl rfl ha0 (some_ne y8) (by decide) (ent2_loc (n := 7)) hA9 hB9
  rw [y8] at e9
  generalize hG9 : mups _ A9 _ _ = g9 at *
  refine zi_putfF (C := RX7) (T := TX7) (N := 27) (ci := 11) (ty0 := tyX7) X e9 rfl in_X7 tyX7_ok nmX7 9 (by decide) wf_X7_36 rfl rfl (by first | rfl | exact hname) rfl rfl rfl rfl (Nat.le_of_ble_eq_true rfl) dX7_init_84 ?_
  refine zi_eqh (h' := mup g9 a (.inr (11, [.int 0, .ref (A1 0), .ref q2, .ref q3, .ref q4, .ref q5, .ref q6, .ref q7, .ref (A8 0), .ref (A9 0), .null, .null, .null, .null, .null, .null, .null, .null, .null, .int 0, .null, .null, .null, .null, .null, .null, .int 0]))) rfl ?_
  have y9 := @mup_self g9 a
  refine zi_aload_n X dX7_init_87 rfl rfl ?_
  refine zi_bipush (v := (nI 7)) X dX7_init_88 (by decide) ?_
  refine zi_bipush (v := (nI 48)) X dX7_init_90 (by decide) ?_
  refine zi_mna2 (t0 := 4) (t1 := 0) (N' := 7) (K' := 48) X rfl rfl wc_X7_9 (by decide) (by decide) rfl rfl (Nat.le_of_ble_eq_true rfl) (Nat.le_of_ble_eq_true rfl) (Nat.le_of_ble_eq_true rfl) (Nat.le_of_ble_eq_true rfl) dX7_init_92 (fun A10 hA10 hB10 => ?_)
  obtain ⟨B10, e10⟩ := acc_mups (E := ent2 (cA 4) (cA 0) 7 48) (m := 36) (ps' := [(6, ent2 (cA 4) (cA 0) 5 7), (1, fun _ _ => .inl (cA 0, 48, .inl (fun _ => 0))), (1, fun _ _ => .inl (cA 0, 48, .inl (fun _ => 0))), (1, fun _ _ => .inl (cA 0, 48, .inl (fun _ => 0))), (1, fun _ _ => .inl (cA 0, 48, .inl (fun _ => 0))), (1, fun _ _ => .inl (cA 0, 48, .inl (fun _ => 0))), (1, fun _ _ => .inl (cA 0, 48, .inl (fun _ => 0))), (8, ent2 (cA 4) (cA 0) 7 48), (8, ent2 (cA 4) (cA 0) 7 48), (8, ent2 (cA 4) (cA 0) 7 48)]) (acc_up B9 ha0 _) rfl rfl ha0 (some_ne y9) (by decide) (ent2_loc (n := 7)) hA10 hB10
  rw [y9] at e10
  generalize hG10 : mups _ A10 _ _ = g10 at *
  refine zi_putfF (C := RX7) (T := TX7) (N := 27) (ci := 11) (ty0 := tyX7) X e10 rfl in_X7 tyX7_ok nmX7 10 (by decide) wf_X7_39 rfl rfl (by first | rfl | exact hname) rfl rfl rfl rfl (Nat.le_of_ble_eq_true rfl) dX7_init_96 ?_
  refine zi_eqh (h' := mup g10 a (.inr (11, [.int 0, .ref (A1 0), .ref q2, .ref q3, .ref q4, .ref q5, .ref q6, .ref q7, .ref (A8 0), .ref (A9 0), .ref (A10 0), .null, .null, .null, .null, .null, .null, .null, .null, .int 0, .null, .null, .null, .null, .null, .null, .int 0]))) rfl ?_
  have y10 := @mup_self g10 a
  refine zi_aload_n X dX7_init_99 rfl rfl ?_
  refine zi_bipush (v := (nI 7)) X dX7_init_100 (by decide) ?_
  refine zi_bipush (v := (nI 48)) X dX7_init_102 (by decide) ?_
  refine zi_mna2 (t0 := 4) (t1 := 0) (N' := 7) (K' := 48) X rfl rfl wc_X7_9 (by decide) (by decide) rfl rfl (Nat.le_of_ble_eq_true rfl) (Nat.le_of_ble_eq_true rfl) (Nat.le_of_ble_eq_true rfl) (Nat.le_of_ble_eq_true rfl) dX7_init_104 (fun A11 hA11 hB11 => ?_)
  obtain ⟨B11, e11⟩ := acc_mups (E := ent2 (cA 4) (cA 0) 7 48) (m := 44) (ps' := [(6, ent2 (cA 4) (cA 0) 5 7), (1, fun _ _ => .inl (cA 0, 48, .inl (fun _ => 0))), (1, fun _ _ => .inl (cA 0, 48, .inl (fun _ => 0))), (1, fun _ _ => .inl (cA 0, 48, .inl (fun _ => 0))), (1, fun _ _ => .inl (cA 0, 48, .inl (fun _ => 0))), (1, fun _ _ => .inl (cA 0, 48, .inl (fun _ => 0))), (1, fun _ _ => .inl (cA 0, 48, .inl (fun _ => 0))), (8, ent2 (cA 4) (cA 0) 7 48), (8, ent2 (cA 4) (cA 0) 7 48), (8, ent2 (cA 4) (cA 0) 7 48), (8, ent2 (cA 4) (cA 0) 7 48)]) (acc_up B10 ha0 _) rfl rfl ha0 (some_ne y10) (by decide) (ent2_loc (n := 7)) hA11 hB11
  rw [y10] at e11
  generalize hG11 : mups _ A11 _ _ = g11 at *
  refine zi_putfF (C := RX7) (T := TX7) (N := 27) (ci := 11) (ty0 := tyX7) X e11 rfl in_X7 tyX7_ok nmX7 11 (by decide) wf_X7_42 rfl rfl (by first | rfl | exact hname) rfl rfl rfl rfl (Nat.le_of_ble_eq_true rfl) dX7_init_108 ?_
  refine zi_eqh (h' := mup g11 a (.inr (11, [.int 0, .ref (A1 0), .ref q2, .ref q3, .ref q4, .ref q5, .ref q6, .ref q7, .ref (A8 0), .ref (A9 0), .ref (A10 0), .ref (A11 0), .null, .null, .null, .null, .null, .null, .null, .int 0, .null, .null, .null, .null, .null, .null, .int 0]))) rfl ?_
  have y11 := @mup_self g11 a
  refine zi_aload_n X dX7_init_111 rfl rfl ?_
  refine zi_bipush (v := (nI 7)) X dX7_init_112 (by decide) ?_
  refine zi_bipush (v := (nI 48)) X dX7_init_114 (by decide) ?_
  refine zi_mna2 (t0 := 4) (t1 := 0) (N' := 7) (K' := 48) X rfl rfl wc_X7_9 (by decide) (by decide) rfl rfl (Nat.le_of_ble_eq_true rfl) (Nat.le_of_ble_eq_true rfl) (Nat.le_of_ble_eq_true rfl) (Nat.le_of_ble_eq_true rfl) dX7_init_116 (fun A12 hA12 hB12 => ?_)
  obtain ⟨B12, e12⟩ := acc_mups (E := ent2 (cA 4) (cA 0) 7 48) (m := 52) (ps' := [(6, ent2 (cA 4) (cA 0) 5 7), (1, fun _ _ => .inl (cA 0, 48, .inl (fun _ => 0))), (1, fun _ _ => .inl (cA 0, 48, .inl (fun _ => 0))), (1, fun _ _ => .inl (cA 0, 48, .inl (fun _ => 0))), (1, fun _ _ => .inl (cA 0, 48, .inl (fun _ => 0))), (1, fun _ _ => .inl (cA 0, 48, .inl (fun _ => 0))), (1, fun _ _ => .inl (cA 0, 48, .inl (fun _ => 0))), (8, ent2 (cA 4) (cA 0) 7 48), (8, ent2 (cA 4) (cA 0) 7 48), (8, ent2 (cA 4) (cA 0) 7 48), (8, ent2 (cA 4) (cA 0) 7 48), (8, ent2 (cA 4) (cA 0) 7 48)]) (acc_up B11 ha0 _) rfl rfl ha0 (some_ne y11) (by decide) (ent2_loc (n := 7)) hA12 hB12
  rw [y11] at e12
  generalize hG12 : mups _ A12 _ _ = g12 at *
  refine zi_putfF (C := RX7) (T := TX7) (N := 27) (ci := 11) (ty0 := tyX7) X e12 rfl in_X7 tyX7_ok nmX7 12 (by decide) wf_X7_45 rfl rfl (by first | rfl | exact hname) rfl rfl rfl rfl (Nat.le_of_ble_eq_true rfl) dX7_init_120 ?_
  refine zi_eqh (h' := mup g12 a (.inr (11, [.int 0, .ref (A1 0), .ref q2, .ref q3, .ref q4, .ref q5, .ref q6, .ref q7, .ref (A8 0), .ref (A9 0), .ref (A10 0), .ref (A11 0), .ref (A12 0), .null, .null, .null, .null, .null, .null, .int 0, .null, .null, .null, .null, .null, .null, .int 0]))) rfl ?_
  have y12 := @mup_self g12 a
  refine zi_aload_n X dX7_init_123 rfl rfl ?_
  refine zi_sipush (v := (nI 160)) X dX7_init_124 (by decide) ?_
  refine zi_bipush (v := (nI 7)) X dX7_init_127 (by decide) ?_
  refine zi_bipush (v := (nI 48)) X dX7_init_129 (by decide) ?_
  refine zi_mna3 (t2 := 5) (t0 := 4) (t1 := 0) (N' := 160) (K' := 48) (M' := 7) X rfl rfl rfl wc_X7_48 (by decide) (by decide) (by decide) rfl rfl rfl (Nat.le_of_ble_eq_true rfl) (Nat.le_of_ble_eq_true rfl) (Nat.le_of_ble_eq_true rfl) (Nat.le_of_ble_eq_true rfl) (Nat.le_of_ble_eq_true rfl) dX7_init_131 (fun A13 hA13 hB13 => ?_)
  obtain ⟨B13, e13⟩ := acc_mups (E := ent3 (cA 5) (cA 4) (cA 0) 160 7 48) (m := 1333) (ps' := [(6, ent2 (cA 4) (cA 0) 5 7), (1, fun _ _ => .inl (cA 0, 48, .inl (fun _ => 0))), (1, fun _ _ => .inl (cA 0, 48, .inl (fun _ => 0))), (1, fun _ _ => .inl (cA 0, 48, .inl (fun _ => 0))), (1, fun _ _ => .inl (cA 0, 48, .inl (fun _ => 0))), (1, fun _ _ => .inl (cA 0, 48, .inl (fun _ => 0))), (1, fun _ _ => .inl (cA 0, 48, .inl (fun _ => 0))), (8, ent2 (cA 4) (cA 0) 7 48), (8, ent2 (cA 4) (cA 0) 7 48), (8, ent2 (cA 4) (cA 0) 7 48), (8, ent2 (cA 4) (cA 0) 7 48), (8, ent2 (cA 4) (cA 0) 7 48), (1281, ent3 (cA 5) (cA 4) (cA 0) 160 7 48)]) (acc_up B12 ha0 _) rfl rfl ha0 (some_ne y12) (by decide) (ent3_loc (n := 160) (m := 7)) hA13 hB13
  rw [y12] at e13
  generalize hG13 : mups _ A13 _ _ = g13 at *
  refine zi_putfF (C := RX7) (T := TX7) (N := 27) (ci := 11) (ty0 := tyX7) X e13 rfl in_X7 tyX7_ok nmX7 13 (by decide) wf_X7_50 rfl rfl (by first | rfl | exact hname) rfl rfl rfl rfl (Nat.le_of_ble_eq_true rfl) dX7_init_135 ?_
  refine zi_eqh (h' := mup g13 a (.inr (11, [.int 0, .ref (A1 0), .ref q2, .ref q3, .ref q4, .ref q5, .ref q6, .ref q7, .ref (A8 0), .ref (A9 0), .ref (A10 0), .ref (A11 0), .ref (A12 0), .ref (A13 0), .null, .null, .null, .null, .null, .int 0, .null, .null, .null, .null, .null, .null, .int 0]))) rfl ?_
  have y13 := @mup_self g13 a
  refine zi_aload_n X dX7_init_138 rfl rfl ?_
  refine zi_sipush (v := (nI 160)) X dX7_init_139 (by decide) ?_
  refine zi_newa (atype := .int) (ty := .int) (t0 := 0) (N' := 160) (a0 := (160, .inl (fun _ => 0))) X rfl wac_int rfl (fun _ => rfl) (by decide) rfl (Nat.le_of_ble_eq_true rfl) (Nat.le_of_ble_eq_true rfl) (Nat.le_of_ble_eq_true rfl) dX7_init_142 (fun q14 hq14 => ?_)
  obtain ⟨B14, e14⟩ := acc_arr (m := 1334) (ps' := [(6, ent2 (cA 4) (cA 0) 5 7), (1, fun _ _ => .inl (cA 0, 48, .inl (fun _ => 0))), (1, fun _ _ => .inl (cA 0, 48, .inl (fun _ => 0))), (1, fun _ _ => .inl (cA 0, 48, .inl (fun _ => 0))), (1, fun _ _ => .inl (cA 0, 48, .inl (fun _ => 0))), (1, fun _ _ => .inl (cA 0, 48, .inl (fun _ => 0))), (1, fun _ _ => .inl (cA 0, 48, .inl (fun _ => 0))), (8, ent2 (cA 4) (cA 0) 7 48), (8, ent2 (cA 4) (cA 0) 7 48), (8, ent2 (cA 4) (cA 0) 7 48), (8, ent2 (cA 4) (cA 0) 7 48), (8, ent2 (cA 4) (cA 0) 7 48), (1281, ent3 (cA 5) (cA 4) (cA 0) 160 7 48), (1, fun _ _ => .inl (cA 0, 160, .inl (fun _ => 0)))]) (acc_up B13 ha0 _) rfl rfl ha0 (some_ne y13) hq14
  rw [y13] at e14
  generalize hG14 : mup _ q14 _ = g14 at *
  refine zi_putfF (C := RX7) (T := TX7) (N := 27) (ci := 11) (ty0 := tyX7) X e14 rfl in_X7 tyX7_ok nmX7 14 (by decide) wf_X7_53 rfl rfl (by first | rfl | exact hname) rfl rfl rfl rfl (Nat.le_of_ble_eq_true rfl) dX7_init_144 ?_
  refine zi_eqh (h' := mup g14 a (.inr (11, [.int 0, .ref (A1 0), .ref q2, .ref q3, .ref q4, .ref q5, .ref q6, .ref q7, .ref (A8 0), .ref (A9 0), .ref (A10 0), .ref (A11 0), .ref (A12 0), .ref (A13 0), .ref q14, .null, .null, .null, .null, .int 0, .null, .null, .null, .null, .null, .null, .int 0]))) rfl ?_
  have y14 := @mup_self g14 a
  refine zi_aload_n X dX7_init_147 rfl rfl ?_
  refine zi_bipush (v := (nI 7)) X dX7_init_148 (by decide) ?_
  refine zi_bipush (v := (nI 48)) X dX7_init_150 (by decide) ?_
  refine zi_mna2 (t0 := 4) (t1 := 0) (N' := 7) (K' := 48) X rfl rfl wc_X7_9 (by decide) (by decide) rfl rfl (Nat.le_of_ble_eq_true rfl) (Nat.le_of_ble_eq_true rfl) (Nat.le_of_ble_eq_true rfl) (Nat.le_of_ble_eq_true rfl) dX7_init_152 (fun A15 hA15 hB15 => ?_)
  obtain ⟨B15, e15⟩ := acc_mups (E := ent2 (cA 4) (cA 0) 7 48) (m := 1342) (ps' := [(6, ent2 (cA 4) (cA 0) 5 7), (1, fun _ _ => .inl (cA 0, 48, .inl (fun _ => 0))), (1, fun _ _ => .inl (cA 0, 48, .inl (fun _ => 0))), (1, fun _ _ => .inl (cA 0, 48, .inl (fun _ => 0))), (1, fun _ _ => .inl (cA 0, 48, .inl (fun _ => 0))), (1, fun _ _ => .inl (cA 0, 48, .inl (fun _ => 0))), (1, fun _ _ => .inl (cA 0, 48, .inl (fun _ => 0))), (8, ent2 (cA 4) (cA 0) 7 48), (8, ent2 (cA 4) (cA 0) 7 48), (8, ent2 (cA 4) (cA 0) 7 48), (8, ent2 (cA 4) (cA 0) 7 48), (8, ent2 (cA 4) (cA 0) 7 48), (1281, ent3 (cA 5) (cA 4) (cA 0) 160 7 48), (1, fun _ _ => .inl (cA 0, 160, .inl (fun _ => 0))), (8, ent2 (cA 4) (cA 0) 7 48)]) (acc_up B14 ha0 _) rfl rfl ha0 (some_ne y14) (by decide) (ent2_loc (n := 7)) hA15 hB15
  rw [y14] at e15
  generalize hG15 : mups _ A15 _ _ = g15 at *
  refine zi_putfF (C := RX7) (T := TX7) (N := 27) (ci := 11) (ty0 := tyX7) X e15 rfl in_X7 tyX7_ok nmX7 15 (by decide) wf_X7_56 rfl rfl (by first | rfl | exact hname) rfl rfl rfl rfl (Nat.le_of_ble_eq_true rfl) dX7_init_156 ?_
  refine zi_eqh (h' := mup g15 a (.inr (11, [.int 0, .ref (A1 0), .ref q2, .ref q3, .ref q4, .ref q5, .ref q6, .ref q7, .ref (A8 0), .ref (A9 0), .ref (A10 0), .ref (A11 0), .ref (A12 0), .ref (A13 0), .ref q14, .ref (A15 0), .null, .null, .null, .int 0, .null, .null, .null, .null, .null, .null, .int 0]))) rfl ?_
  have y15 := @mup_self g15 a
  refine zi_aload_n X dX7_init_159 rfl rfl ?_
  refine zi_bipush (v := (nI 14)) X dX7_init_160 (by decide) ?_
  refine zi_newa (atype := .long) (ty := .long) (t0 := 1) (N' := 14) (a0 := (14, .inr (.inl (fun _ => 0)))) X rfl wac_long rfl (fun _ => rfl) (by decide) rfl (Nat.le_of_ble_eq_true rfl) (Nat.le_of_ble_eq_true rfl) (Nat.le_of_ble_eq_true rfl) dX7_init_162 (fun q16 hq16 => ?_)
  obtain ⟨B16, e16⟩ := acc_arr (m := 1343) (ps' := [(6, ent2 (cA 4) (cA 0) 5 7), (1, fun _ _ => .inl (cA 0, 48, .inl (fun _ => 0))), (1, fun _ _ => .inl (cA 0, 48, .inl (fun _ => 0))), (1, fun _ _ => .inl (cA 0, 48, .inl (fun _ => 0))), (1, fun _ _ => .inl (cA 0, 48, .inl (fun _ => 0))), (1, fun _ _ => .inl (cA 0, 48, .inl (fun _ => 0))), (1, fun _ _ => .inl (cA 0, 48, .inl (fun _ => 0))), (8, ent2 (cA 4) (cA 0) 7 48), (8, ent2 (cA 4) (cA 0) 7 48), (8, ent2 (cA 4) (cA 0) 7 48), (8, ent2 (cA 4) (cA 0) 7 48), (8, ent2 (cA 4) (cA 0) 7 48), (1281, ent3 (cA 5) (cA 4) (cA 0) 160 7 48), (1, fun _ _ => .inl (cA 0, 160, .inl (fun _ => 0))), (8, ent2 (cA 4) (cA 0) 7 48), (1, fun _ _ => .inl (cA 1, 14, .inr (.inl (fun _ => 0))))]) (acc_up B15 ha0 _) rfl rfl ha0 (some_ne y15) hq16
  rw [y15] at e16
  generalize hG16 : mup _ q16 _ = g16 at *
  refine zi_putfF (C := RX7) (T := TX7) (N := 27) (ci := 11) (ty0 := tyX7) X e16 rfl in_X7 tyX7_ok nmX7 16 (by decide) wf_X7_59 rfl rfl (by first | rfl | exact hname) rfl rfl rfl rfl (Nat.le_of_ble_eq_true rfl) dX7_init_164 ?_
  refine zi_eqh (h' := mup g16 a (.inr (11, [.int 0, .ref (A1 0), .ref q2, .ref q3, .ref q4, .ref q5, .ref q6, .ref q7, .ref (A8 0), .ref (A9 0), .ref (A10 0), .ref (A11 0), .ref (A12 0), .ref (A13 0), .ref q14, .ref (A15 0), .ref q16, .null, .null, .int 0, .null, .null, .null, .null, .null, .null, .int 0]))) rfl ?_
  have y16 := @mup_self g16 a
  refine zi_aload_n X dX7_init_167 rfl rfl ?_
  refine zi_bipush (v := (nI 7)) X dX7_init_168 (by decide) ?_
  refine zi_bipush (v := (nI 48)) X dX7_init_170 (by decide) ?_
  refine zi_mna2 (t0 := 4) (t1 := 0) (N' := 7) (K' := 48) X rfl rfl wc_X7_9 (by decide) (by decide) rfl rfl (Nat.le_of_ble_eq_true rfl) (Nat.le_of_ble_eq_true rfl) (Nat.le_of_ble_eq_true rfl) (Nat.le_of_ble_eq_true rfl) dX7_init_172 (fun A17 hA17 hB17 => ?_)
  obtain ⟨B17, e17⟩ := acc_mups (E := ent2 (cA 4) (cA 0) 7 48) (m := 1351) (ps' := [(6, ent2 (cA 4) (cA 0) 5 7), (1, fun _ _ => .inl (cA 0, 48, .inl (fun _ => 0))), (1, fun _ _ => .inl (cA 0, 48, .inl (fun _ => 0))), (1, fun _ _ => .inl (cA 0, 48, .inl (fun _ => 0))), (1, fun _ _ => .inl (cA 0, 48, .inl (fun _ => 0))), (1, fun _ _ => .inl (cA 0, 48, .inl (fun _ => 0))), (1, fun _ _ => .inl (cA 0, 48, .inl (fun _ => 0))), (8, ent2 (cA 4) (cA 0) 7 48), (8, ent2 (cA 4) (cA 0) 7 48), (8, ent2 (cA 4) (cA 0) 7 48), (8, ent2 (cA 4) (cA 0) 7 48), (8, ent2 (cA 4) (cA 0) 7 48), (1281, ent3 (cA 5) (cA 4) (cA 0) 160 7 48), (1, fun _ _ => .inl (cA 0, 160, .inl (fun _ => 0))), (8, ent2 (cA 4) (cA 0) 7 48), (1, fun _ _ => .inl (cA 1, 14, .inr (.inl (fun _ => 0)))), (8, ent2 (cA 4) (cA 0) 7 48)]) (acc_up B16 ha0 _) rfl rfl ha0 (some_ne y16) (by decide) (ent2_loc (n := 7)) hA17 hB17
  rw [y16] at e17
  generalize hG17 : mups _ A17 _ _ = g17 at *
  refine zi_putfF (C := RX7) (T := TX7) (N := 27) (ci := 11) (ty0 := tyX7) X e17 rfl in_X7 tyX7_ok nmX7 17 (by decide) wf_X7_63 rfl rfl (by first | rfl | exact hname) rfl rfl rfl rfl (Nat.le_of_ble_eq_true rfl) dX7_init_176 ?_
  refine zi_eqh (h' := mup g17 a (.inr (11, [.int 0, .ref (A1 0), .ref q2, .ref q3, .ref q4, .ref q5, .ref q6, .ref q7, .ref (A8 0), .ref (A9 0), .ref (A10 0), .ref (A11 0), .ref (A12 0), .ref (A13 0), .ref q14, .ref (A15 0), .ref q16, .ref (A17 0), .null, .int 0, .null, .null, .null, .null, .null, .null, .int 0]))) rfl ?_
  have y17 := @mup_self g17 a
  refine zi_aload_n X dX7_init_179 rfl rfl ?_
  refine zi_bipush (v := (nI 8)) X dX7_init_180 (by decide) ?_
  refine zi_bipush (v := (nI 7)) X dX7_init_182 (by decide) ?_
  refine zi_bipush (v := (nI 48)) X dX7_init_184 (by decide) ?_
  refine zi_mna3 (t2 := 5) (t0 := 4) (t1 := 0) (N' := 8) (K' := 48) (M' := 7) X rfl rfl rfl wc_X7_48 (by decide) (by decide) (by decide) rfl rfl rfl (Nat.le_of_ble_eq_true rfl) (Nat.le_of_ble_eq_true rfl) (Nat.le_of_ble_eq_true rfl) (Nat.le_of_ble_eq_true rfl) (Nat.le_of_ble_eq_true rfl) dX7_init_186 (fun A18 hA18 hB18 => ?_)
  obtain ⟨B18, e18⟩ := acc_mups (E := ent3 (cA 5) (cA 4) (cA 0) 8 7 48) (m := 1416) (ps' := [(6, ent2 (cA 4) (cA 0) 5 7), (1, fun _ _ => .inl (cA 0, 48, .inl (fun _ => 0))), (1, fun _ _ => .inl (cA 0, 48, .inl (fun _ => 0))), (1, fun _ _ => .inl (cA 0, 48, .inl (fun _ => 0))), (1, fun _ _ => .inl (cA 0, 48, .inl (fun _ => 0))), (1, fun _ _ => .inl (cA 0, 48, .inl (fun _ => 0))), (1, fun _ _ => .inl (cA 0, 48, .inl (fun _ => 0))), (8, ent2 (cA 4) (cA 0) 7 48), (8, ent2 (cA 4) (cA 0) 7 48), (8, ent2 (cA 4) (cA 0) 7 48), (8, ent2 (cA 4) (cA 0) 7 48), (8, ent2 (cA 4) (cA 0) 7 48), (1281, ent3 (cA 5) (cA 4) (cA 0) 160 7 48), (1, fun _ _ => .inl (cA 0, 160, .inl (fun _ => 0))), (8, ent2 (cA 4) (cA 0) 7 48), (1, fun _ _ => .inl (cA 1, 14, .inr (.inl (fun _ => 0)))), (8, ent2 (cA 4) (cA 0) 7 48), (65, ent3 (cA 5) (cA 4) (cA 0) 8 7 48)]) (acc_up B17 ha0 _) rfl rfl ha0 (some_ne y17) (by decide) (ent3_loc (n := 8) (m := 7)) hA18 hB18
  rw [y17] at e18
  generalize hG18 : mups _ A18 _ _ = g18 at *
  refine zi_putfF (C := RX7) (T := TX7) (N := 27) (ci := 11) (ty0 := tyX7) X e18 rfl in_X7 tyX7_ok nmX7 18 (by decide) wf_X7_66 rfl rfl (by first | rfl | exact hname) rfl rfl rfl rfl (Nat.le_of_ble_eq_true rfl) dX7_init_190 ?_
  refine zi_eqh (h' := mup g18 a (.inr (11, [.int 0, .ref (A1 0), .ref q2, .ref q3, .ref q4, .ref q5, .ref q6, .ref q7, .ref (A8 0), .ref (A9 0), .ref (A10 0), .ref (A11 0), .ref (A12 0), .ref (A13 0), .ref q14, .ref (A15 0), .ref q16, .ref (A17 0), .ref (A18 0), .int 0, .null, .null, .null, .null, .null, .null, .int 0]))) rfl ?_
  have y18 := @mup_self g18 a
  refine zi_aload_n X dX7_init_193 rfl rfl ?_
  refine zi_bipush (v := (nI 7)) X dX7_init_194 (by decide) ?_
  refine zi_newa (atype := .int) (ty := .int) (t0 := 0) (N' := 7) (a0 := (7, .inl (fun _ => 0))) X rfl wac_int rfl (fun _ => rfl) (by decide) rfl (Nat.le_of_ble_eq_true rfl) (Nat.le_of_ble_eq_true rfl) (Nat.le_of_ble_eq_true rfl) dX7_init_196 (fun q19 hq19 => ?_)
  obtain ⟨B19, e19⟩ := acc_arr (m := 1417) (ps' := [(6, ent2 (cA 4) (cA 0) 5 7), (1, fun _ _ => .inl (cA 0, 48, .inl (fun _ => 0))), (1, fun _ _ => .inl (cA 0, 48, .inl (fun _ => 0))), (1, fun _ _ => .inl (cA 0, 48, .inl (fun _ => 0))), (1, fun _ _ => .inl (cA 0, 48, .inl (fun _ => 0))), (1, fun _ _ => .inl (cA 0, 48, .inl (fun _ => 0))), (1, fun _ _ => .inl (cA 0, 48, .inl (fun _ => 0))), (8, ent2 (cA 4) (cA 0) 7 48), (8, ent2 (cA 4) (cA 0) 7 48), (8, ent2 (cA 4) (cA 0) 7 48), (8, ent2 (cA 4) (cA 0) 7 48), (8, ent2 (cA 4) (cA 0) 7 48), (1281, ent3 (cA 5) (cA 4) (cA 0) 160 7 48), (1, fun _ _ => .inl (cA 0, 160, .inl (fun _ => 0))), (8, ent2 (cA 4) (cA 0) 7 48), (1, fun _ _ => .inl (cA 1, 14, .inr (.inl (fun _ => 0)))), (8, ent2 (cA 4) (cA 0) 7 48), (65, ent3 (cA 5) (cA 4) (cA 0) 8 7 48), (1, fun _ _ => .inl (cA 0, 7, .inl (fun _ => 0)))]) (acc_up B18 ha0 _) rfl rfl ha0 (some_ne y18) hq19
  rw [y18] at e19
  generalize hG19 : mup _ q19 _ = g19 at *
  refine zi_putfF (C := RX7) (T := TX7) (N := 27) (ci := 11) (ty0 := tyX7) X e19 rfl in_X7 tyX7_ok nmX7 20 (by decide) wf_X7_69 rfl rfl (by first | rfl | exact hname) rfl rfl rfl rfl (Nat.le_of_ble_eq_true rfl) dX7_init_198 ?_
  refine zi_eqh (h' := mup g19 a (.inr (11, [.int 0, .ref (A1 0), .ref q2, .ref q3, .ref q4, .ref q5, .ref q6, .ref q7, .ref (A8 0), .ref (A9 0), .ref (A10 0), .ref (A11 0), .ref (A12 0), .ref (A13 0), .ref q14, .ref (A15 0), .ref q16, .ref (A17 0), .ref (A18 0), .int 0, .ref q19, .null, .null, .null, .null, .null, .int 0]))) rfl ?_
  have y19 := @mup_self g19 a
  refine zi_aload_n X dX7_init_201 rfl rfl ?_
  refine zi_bipush (v := (nI 7)) X dX7_init_202 (by decide) ?_
  refine zi_bipush (v := (nI 48)) X dX7_init_204 (by decide) ?_
  refine zi_mna2 (t0 := 4) (t1 := 0) (N' := 7) (K' := 48) X rfl rfl wc_X7_9 (by decide) (by decide) rfl rfl (Nat.le_of_ble_eq_true rfl) (Nat.le_of_ble_eq_true rfl) (Nat.le_of_ble_eq_true rfl) (Nat.le_of_ble_eq_true rfl) dX7_init_206 (fun A20 hA20 hB20 => ?_)
  obtain ⟨B20, e20⟩ := acc_mups (E := ent2 (cA 4) (cA 0) 7 48) (m := 1425) (ps' := [(6, ent2 (cA 4) (cA 0) 5 7), (1, fun _ _ => .inl (cA 0, 48, .inl (fun _ => 0))), (1, fun _ _ => .inl (cA 0, 48, .inl (fun _ => 0))), (1, fun _ _ => .inl (cA 0, 48, .inl (fun _ => 0))), (1, fun _ _ => .inl (cA 0, 48, .inl (fun _ => 0))), (1, fun _ _ => .inl (cA 0, 48, .inl (fun _ => 0))), (1, fun _ _ => .inl (cA 0, 48, .inl (fun _ => 0))), (8, ent2 (cA 4) (cA 0) 7 48), (8, ent2 (cA 4) (cA 0) 7 48), (8, ent2 (cA 4) (cA 0) 7 48), (8, ent2 (cA 4) (cA 0) 7 48), (8, ent2 (cA 4) (cA 0) 7 48), (1281, ent3 (cA 5) (cA 4) (cA 0) 160 7 48), (1, fun _ _ => .inl (cA 0, 160, .inl (fun _ => 0))), (8, ent2 (cA 4) (cA 0) 7 48), (1, fun _ _ => .inl (cA 1, 14, .inr (.inl (fun _ => 0)))), (8, ent2 (cA 4) (cA 0) 7 48), (65, ent3 (cA 5) (cA 4) (cA 0) 8 7 48), (1, fun _ _ => .inl (cA 0, 7, .inl (fun _ => 0))), (8, ent2 (cA 4) (cA 0) 7 48)]) (acc_up B19 ha0 _) rfl rfl ha0 (some_ne y19) (by decide) (ent2_loc (n := 7)) hA20 hB20
  rw [y19] at e20
  generalize hG20 : mups _ A20 _ _ = g20 at *
  refine zi_putfF (C := RX7) (T := TX7) (N := 27) (ci := 11) (ty0 := tyX7) X e20 rfl in_X7 tyX7_ok nmX7 21 (by decide) wf_X7_72 rfl rfl (by first | rfl | exact hname) rfl rfl rfl rfl (Nat.le_of_ble_eq_true rfl) dX7_init_210 ?_
  refine zi_eqh (h' := mup g20 a (.inr (11, [.int 0, .ref (A1 0), .ref q2, .ref q3, .ref q4, .ref q5, .ref q6, .ref q7, .ref (A8 0), .ref (A9 0), .ref (A10 0), .ref (A11 0), .ref (A12 0), .ref (A13 0), .ref q14, .ref (A15 0), .ref q16, .ref (A17 0), .ref (A18 0), .int 0, .ref q19, .ref (A20 0), .null, .null, .null, .null, .int 0]))) rfl ?_
  have y20 := @mup_self g20 a
  refine zi_aload_n X dX7_init_213 rfl rfl ?_
  refine zi_bipush (v := (nI 64)) X dX7_init_214 (by decide) ?_
  refine zi_newa (atype := .int) (ty := .int) (t0 := 0) (N' := 64) (a0 := (64, .inl (fun _ => 0))) X rfl wac_int rfl (fun _ => rfl) (by decide) rfl (Nat.le_of_ble_eq_true rfl) (Nat.le_of_ble_eq_true rfl) (Nat.le_of_ble_eq_true rfl) dX7_init_216 (fun q21 hq21 => ?_)
  obtain ⟨B21, e21⟩ := acc_arr (m := 1426) (ps' := [(6, ent2 (cA 4) (cA 0) 5 7), (1, fun _ _ => .inl (cA 0, 48, .inl (fun _ => 0))), (1, fun _ _ => .inl (cA 0, 48, .inl (fun _ => 0))), (1, fun _ _ => .inl (cA 0, 48, .inl (fun _ => 0))), (1, fun _ _ => .inl (cA 0, 48, .inl (fun _ => 0))), (1, fun _ _ => .inl (cA 0, 48, .inl (fun _ => 0))), (1, fun _ _ => .inl (cA 0, 48, .inl (fun _ => 0))), (8, ent2 (cA 4) (cA 0) 7 48), (8, ent2 (cA 4) (cA 0) 7 48), (8, ent2 (cA 4) (cA 0) 7 48), (8, ent2 (cA 4) (cA 0) 7 48), (8, ent2 (cA 4) (cA 0) 7 48), (1281, ent3 (cA 5) (cA 4) (cA 0) 160 7 48), (1, fun _ _ => .inl (cA 0, 160, .inl (fun _ => 0))), (8, ent2 (cA 4) (cA 0) 7 48), (1, fun _ _ => .inl (cA 1, 14, .inr (.inl (fun _ => 0)))), (8, ent2 (cA 4) (cA 0) 7 48), (65, ent3 (cA 5) (cA 4) (cA 0) 8 7 48), (1, fun _ _ => .inl (cA 0, 7, .inl (fun _ => 0))), (8, ent2 (cA 4) (cA 0) 7 48), (1, fun _ _ => .inl (cA 0, 64, .inl (fun _ => 0)))]) (acc_up B20 ha0 _) rfl rfl ha0 (some_ne y20) hq21
  rw [y20] at e21
  generalize hG21 : mup _ q21 _ = g21 at *
  refine zi_putf (C := RX7) (T := TX7) (N := 27) (ci := 11) (ty0 := tyX7) X e21 rfl in_X7 tyX7_ok nmX7 22 (by decide) wf_X7_75 rfl rfl rfl rfl rfl (Nat.le_of_ble_eq_true rfl) dX7_init_218 ?_
  refine zi_eqh (h' := mup g21 a (.inr (11, [.int 0, .ref (A1 0), .ref q2, .ref q3, .ref q4, .ref q5, .ref q6, .ref q7, .ref (A8 0), .ref (A9 0), .ref (A10 0), .ref (A11 0), .ref (A12 0), .ref (A13 0), .ref q14, .ref (A15 0), .ref q16, .ref (A17 0), .ref (A18 0), .int 0, .ref q19, .ref (A20 0), .ref q21, .null, .null, .null, .int 0]))) rfl ?_
  have y21 := @mup_self g21 a
  refine zi_aload_n X dX7_init_221 rfl rfl ?_
  refine zi_bipush (v := (nI 64)) X dX7_init_222 (by decide) ?_
  refine zi_newa (atype := .int) (ty := .int) (t0 := 0) (N' := 64) (a0 := (64, .inl (fun _ => 0))) X rfl wac_int rfl (fun _ => rfl) (by decide) rfl (Nat.le_of_ble_eq_true rfl) (Nat.le_of_ble_eq_true rfl) (Nat.le_of_ble_eq_true rfl) dX7_init_224 (fun q22 hq22 => ?_)
  obtain ⟨B22, e22⟩ := acc_arr (m := 1427) (ps' := [(6, ent2 (cA 4) (cA 0) 5 7), (1, fun _ _ => .inl (cA 0, 48, .inl (fun _ => 0))), (1, fun _ _ => .inl (cA 0, 48, .inl (fun _ => 0))), (1, fun _ _ => .inl (cA 0, 48, .inl (fun _ => 0))), (1, fun _ _ => .inl (cA 0, 48, .inl (fun _ => 0))), (1, fun _ _ => .inl (cA 0, 48, .inl (fun _ => 0))), (1, fun _ _ => .inl (cA 0, 48, .inl (fun _ => 0))), (8, ent2 (cA 4) (cA 0) 7 48), (8, ent2 (cA 4) (cA 0) 7 48), (8, ent2 (cA 4) (cA 0) 7 48), (8, ent2 (cA 4) (cA 0) 7 48), (8, ent2 (cA 4) (cA 0) 7 48), (1281, ent3 (cA 5) (cA 4) (cA 0) 160 7 48), (1, fun _ _ => .inl (cA 0, 160, .inl (fun _ => 0))), (8, ent2 (cA 4) (cA 0) 7 48), (1, fun _ _ => .inl (cA 1, 14, .inr (.inl (fun _ => 0)))), (8, ent2 (cA 4) (cA 0) 7 48), (65, ent3 (cA 5) (cA 4) (cA 0) 8 7 48), (1, fun _ _ => .inl (cA 0, 7, .inl (fun _ => 0))), (8, ent2 (cA 4) (cA 0) 7 48), (1, fun _ _ => .inl (cA 0, 64, .inl (fun _ => 0))), (1, fun _ _ => .inl (cA 0, 64, .inl (fun _ => 0)))]) (acc_up B21 ha0 _) rfl rfl ha0 (some_ne y21) hq22
  rw [y21] at e22
  generalize hG22 : mup _ q22 _ = g22 at *
  refine zi_putf (C := RX7) (T := TX7) (N := 27) (ci := 11) (ty0 := tyX7) X e22 rfl in_X7 tyX7_ok nmX7 23 (by decide) wf_X7_78 rfl rfl rfl rfl rfl (Nat.le_of_ble_eq_true rfl) dX7_init_226 ?_
  refine zi_eqh (h' := mup g22 a (.inr (11, [.int 0, .ref (A1 0), .ref q2, .ref q3, .ref q4, .ref q5, .ref q6, .ref q7, .ref (A8 0), .ref (A9 0), .ref (A10 0), .ref (A11 0), .ref (A12 0), .ref (A13 0), .ref q14, .ref (A15 0), .ref q16, .ref (A17 0), .ref (A18 0), .int 0, .ref q19, .ref (A20 0), .ref q21, .ref q22, .null, .null, .int 0]))) rfl ?_
  have y22 := @mup_self g22 a
  refine zi_aload_n X dX7_init_229 rfl rfl ?_
  refine zi_bipush (v := (nI 64)) X dX7_init_230 (by decide) ?_
  refine zi_newa (atype := .int) (ty := .int) (t0 := 0) (N' := 64) (a0 := (64, .inl (fun _ => 0))) X rfl wac_int rfl (fun _ => rfl) (by decide) rfl (Nat.le_of_ble_eq_true rfl) (Nat.le_of_ble_eq_true rfl) (Nat.le_of_ble_eq_true rfl) dX7_init_232 (fun q23 hq23 => ?_)
  obtain ⟨B23, e23⟩ := acc_arr (m := 1428) (ps' := [(6, ent2 (cA 4) (cA 0) 5 7), (1, fun _ _ => .inl (cA 0, 48, .inl (fun _ => 0))), (1, fun _ _ => .inl (cA 0, 48, .inl (fun _ => 0))), (1, fun _ _ => .inl (cA 0, 48, .inl (fun _ => 0))), (1, fun _ _ => .inl (cA 0, 48, .inl (fun _ => 0))), (1, fun _ _ => .inl (cA 0, 48, .inl (fun _ => 0))), (1, fun _ _ => .inl (cA 0, 48, .inl (fun _ => 0))), (8, ent2 (cA 4) (cA 0) 7 48), (8, ent2 (cA 4) (cA 0) 7 48), (8, ent2 (cA 4) (cA 0) 7 48), (8, ent2 (cA 4) (cA 0) 7 48), (8, ent2 (cA 4) (cA 0) 7 48), (1281, ent3 (cA 5) (cA 4) (cA 0) 160 7 48), (1, fun _ _ => .inl (cA 0, 160, .inl (fun _ => 0))), (8, ent2 (cA 4) (cA 0) 7 48), (1, fun _ _ => .inl (cA 1, 14, .inr (.inl (fun _ => 0)))), (8, ent2 (cA 4) (cA 0) 7 48), (65, ent3 (cA 5) (cA 4) (cA 0) 8 7 48), (1, fun _ _ => .inl (cA 0, 7, .inl (fun _ => 0))), (8, ent2 (cA 4) (cA 0) 7 48), (1, fun _ _ => .inl (cA 0, 64, .inl (fun _ => 0))), (1, fun _ _ => .inl (cA 0, 64, .inl (fun _ => 0))), (1, fun _ _ => .inl (cA 0, 64, .inl (fun _ => 0)))]) (acc_up B22 ha0 _) rfl rfl ha0 (some_ne y22) hq23
  rw [y22] at e23
  generalize hG23 : mup _ q23 _ = g23 at *
  refine zi_putf (C := RX7) (T := TX7) (N := 27) (ci := 11) (ty0 := tyX7) X e23 rfl in_X7 tyX7_ok nmX7 24 (by decide) wf_X7_81 rfl rfl rfl rfl rfl (Nat.le_of_ble_eq_true rfl) dX7_init_234 ?_
  refine zi_eqh (h' := mup g23 a (.inr (11, [.int 0, .ref (A1 0), .ref q2, .ref q3, .ref q4, .ref q5, .ref q6, .ref q7, .ref (A8 0), .ref (A9 0), .ref (A10 0), .ref (A11 0), .ref (A12 0), .ref (A13 0), .ref q14, .ref (A15 0), .ref q16, .ref (A17 0), .ref (A18 0), .int 0, .ref q19, .ref (A20 0), .ref q21, .ref q22, .ref q23, .null, .int 0]))) rfl ?_
  have y23 := @mup_self g23 a
  refine zi_aload_n X dX7_init_237 rfl rfl ?_
  refine zi_bipush (v := (nI 64)) X dX7_init_238 (by decide) ?_
  refine zi_newa (atype := .int) (ty := .int) (t0 := 0) (N' := 64) (a0 := (64, .inl (fun _ => 0))) X rfl wac_int rfl (fun _ => rfl) (by decide) rfl (Nat.le_of_ble_eq_true rfl) (Nat.le_of_ble_eq_true rfl) (Nat.le_of_ble_eq_true rfl) dX7_init_240 (fun q24 hq24 => ?_)
  obtain ⟨B24, e24⟩ := acc_arr (m := 1429) (ps' := [(6, ent2 (cA 4) (cA 0) 5 7), (1, fun _ _ => .inl (cA 0, 48, .inl (fun _ => 0))), (1, fun _ _ => .inl (cA 0, 48, .inl (fun _ => 0))), (1, fun _ _ => .inl (cA 0, 48, .inl (fun _ => 0))), (1, fun _ _ => .inl (cA 0, 48, .inl (fun _ => 0))), (1, fun _ _ => .inl (cA 0, 48, .inl (fun _ => 0))), (1, fun _ _ => .inl (cA 0, 48, .inl (fun _ => 0))), (8, ent2 (cA 4) (cA 0) 7 48), (8, ent2 (cA 4) (cA 0) 7 48), (8, ent2 (cA 4) (cA 0) 7 48), (8, ent2 (cA 4) (cA 0) 7 48), (8, ent2 (cA 4) (cA 0) 7 48), (1281, ent3 (cA 5) (cA 4) (cA 0) 160 7 48), (1, fun _ _ => .inl (cA 0, 160, .inl (fun _ => 0))), (8, ent2 (cA 4) (cA 0) 7 48), (1, fun _ _ => .inl (cA 1, 14, .inr (.inl (fun _ => 0)))), (8, ent2 (cA 4) (cA 0) 7 48), (65, ent3 (cA 5) (cA 4) (cA 0) 8 7 48), (1, fun _ _ => .inl (cA 0, 7, .inl (fun _ => 0))), (8, ent2 (cA 4) (cA 0) 7 48), (1, fun _ _ => .inl (cA 0, 64, .inl (fun _ => 0))), (1, fun _ _ => .inl (cA 0, 64, .inl (fun _ => 0))), (1, fun _ _ => .inl (cA 0, 64, .inl (fun _ => 0))), (1, fun _ _ => .inl (cA 0, 64, .inl (fun _ => 0)))]) (acc_up B23 ha0 _) rfl rfl ha0 (some_ne y23) hq24
  rw [y23] at e24
  generalize hG24 : mup _ q24 _ = g24 at *
  refine zi_putf (C := RX7) (T := TX7) (N := 27) (ci := 11) (ty0 := tyX7) X e24 rfl in_X7 tyX7_ok nmX7 25 (by decide) wf_X7_84 rfl rfl rfl rfl rfl (Nat.le_of_ble_eq_true rfl) dX7_init_242 ?_
  refine zi_eqh (h' := mup g24 a (.inr (11, [.int 0, .ref (A1 0), .ref q2, .ref q3, .ref q4, .ref q5, .ref q6, .ref q7, .ref (A8 0), .ref (A9 0), .ref (A10 0), .ref (A11 0), .ref (A12 0), .ref (A13 0), .ref q14, .ref (A15 0), .ref q16, .ref (A17 0), .ref (A18 0), .int 0, .ref q19, .ref (A20 0), .ref q21, .ref q22, .ref q23, .ref q24, .int 0]))) rfl ?_
  have y24 := @mup_self g24 a
  refine zi_widen (k := 1429) (n := 61301) (by decide) (by decide) ?_
  refine zi_return X Vz dX7_init_245 ?_
  have M := acc_madeL (O := x7F) (acc_up B24 ha0 _) ha0 (fun N n0 hN => by
    have r1 : N 1 = A1 0 := hN (0, A1 0) (List.mem_cons_of_mem _ (List.mem_cons_of_mem _ (List.mem_cons_of_mem _ (List.mem_cons_of_mem _ (List.mem_cons_of_mem _ (List.mem_cons_of_mem _ (List.mem_cons_of_mem _ (List.mem_cons_of_mem _ (List.mem_cons_of_mem _ (List.mem_cons_of_mem _ (List.mem_cons_of_mem _ (List.mem_cons_of_mem _ (List.mem_cons_of_mem _ (List.mem_cons_of_mem _ (List.mem_cons_of_mem _ (List.mem_cons_of_mem _ (List.mem_cons_of_mem _ (List.mem_cons_of_mem _ (List.mem_cons_of_mem _ (List.mem_cons_of_mem _ (List.mem_cons_of_mem _ (List.mem_cons_of_mem _ (List.mem_cons_of_mem _ List.mem_cons_self)))))))))))))))))))))))
    have r2 : N 7 = q2 := hN (6, q2) (List.mem_cons_of_mem _ (List.mem_cons_of_mem _ (List.mem_cons_of_mem _ (List.mem_cons_of_mem _ (List.mem_cons_of_mem _ (List.mem_cons_of_mem _ (List.mem_cons_of_mem _ (List.mem_cons_of_mem _ (List.mem_cons_of_mem _ (List.mem_cons_of_mem _ (List.mem_cons_of_mem _ (List.mem_cons_of_mem _ (List.mem_cons_of_mem _ (List.mem_cons_of_mem _ (List.mem_cons_of_mem _ (List.mem_cons_of_mem _ (List.mem_cons_of_mem _ (List.mem_cons_of_mem _ (List.mem_cons_of_mem _ (List.mem_cons_of_mem _ (List.mem_cons_of_mem _ (List.mem_cons_of_mem _ List.mem_cons_self))))))))))))))))))))))
    have r3 : N 8 = q3 := hN (7, q3) (List.mem_cons_of_mem _ (List.mem_cons_of_mem _ (List.mem_cons_of_mem _ (List.mem_cons_of_mem _ (List.mem_cons_of_mem _ (List.mem_cons_of_mem _ (List.mem_cons_of_mem _ (List.mem_cons_of_mem _ (List.mem_cons_of_mem _ (List.mem_cons_of_mem _ (List.mem_cons_of_mem _ (List.mem_cons_of_mem _ (List.mem_cons_of_mem _ (List.mem_cons_of_mem _ (List.mem_cons_of_mem _ (List.mem_cons_of_mem _ (List.mem_cons_of_mem _ (List.mem_cons_of_mem _ (List.mem_cons_of_mem _ (List.mem_cons_of_mem _ (List.mem_cons_of_mem _ List.mem_cons_self)))))))))))))))))))))
    have r4 : N 9 = q4 := hN (8, q4) (List.mem_cons_of_mem _ (List.mem_cons_of_mem _ (List.mem_cons_of_mem _ (List.mem_cons_of_mem _ (List.mem_cons_of_mem _ (List.mem_cons_of_mem _ (List.mem_cons_of_mem _ (List.mem_cons_of_mem _ (List.mem_cons_of_mem _ (List.mem_cons_of_mem _ (List.mem_cons_of_mem _ (List.mem_cons_of_mem _ (List.mem_cons_of_mem _ (List.mem_cons_of_mem _ (List.mem_cons_of_mem _ (List.mem_cons_of_mem _ (List.mem_cons_of_mem _ (List.mem_cons_of_mem _ (List.mem_cons_of_mem _ (List.mem_cons_of_mem _ List.mem_cons_self))))))))))))))))))))
    have r5 : N 10 = q5 := hN (9, q5) (List.mem_cons_of_mem _ (List.mem_cons_of_mem _ (List.mem_cons_of_mem _ (List.mem_cons_of_mem _ (List.mem_cons_of_mem _ (List.mem_cons_of_mem _ (List.mem_cons_of_mem _ (List.mem_cons_of_mem _ (List.mem_cons_of_mem _ (List.mem_cons_of_mem _ (List.mem_cons_of_mem _ (List.mem_cons_of_mem _ (List.mem_cons_of_mem _ (List.mem_cons_of_mem _ (List.mem_cons_of_mem _ (List.mem_cons_of_mem _ (List.mem_cons_of_mem _ (List.mem_cons_of_mem _ (List.mem_cons_of_mem _ List.mem_cons_self)))))))))))))))))))
    have r6 : N 11 = q6 := hN (10, q6) (List.mem_cons_of_mem _ (List.mem_cons_of_mem _ (List.mem_cons_of_mem _ (List.mem_cons_of_mem _ (List.mem_cons_of_mem _ (List.mem_cons_of_mem _ (List.mem_cons_of_mem _ (List.mem_cons_of_mem _ (List.mem_cons_of_mem _ (List.mem_cons_of_mem _ (List.mem_cons_of_mem _ (List.mem_cons_of_mem _ (List.mem_cons_of_mem _ (List.mem_cons_of_mem _ (List.mem_cons_of_mem _ (List.mem_cons_of_mem _ (List.mem_cons_of_mem _ (List.mem_cons_of_mem _ List.mem_cons_self))))))))))))))))))
    have r7 : N 12 = q7 := hN (11, q7) (List.mem_cons_of_mem _ (List.mem_cons_of_mem _ (List.mem_cons_of_mem _ (List.mem_cons_of_mem _ (List.mem_cons_of_mem _ (List.mem_cons_of_mem _ (List.mem_cons_of_mem _ (List.mem_cons_of_mem _ (List.mem_cons_of_mem _ (List.mem_cons_of_mem _ (List.mem_cons_of_mem _ (List.mem_cons_of_mem _ (List.mem_cons_of_mem _ (List.mem_cons_of_mem _ (List.mem_cons_of_mem _ (List.mem_cons_of_mem _ (List.mem_cons_of_mem _ List.mem_cons_self)))))))))))))))))
    have r8 : N 13 = A8 0 := hN (12, A8 0) (List.mem_cons_of_mem _ (List.mem_cons_of_mem _ (List.mem_cons_of_mem _ (List.mem_cons_of_mem _ (List.mem_cons_of_mem _ (List.mem_cons_of_mem _ (List.mem_cons_of_mem _ (List.mem_cons_of_mem _ (List.mem_cons_of_mem _ (List.mem_cons_of_mem _ (List.mem_cons_of_mem _ (List.mem_cons_of_mem _ (List.mem_cons_of_mem _ (List.mem_cons_of_mem _ (List.mem_cons_of_mem _ (List.mem_cons_of_mem _ List.mem_cons_self))))))))))))))))
    have r9 : N 21 = A9 0 := hN (20, A9 0) (List.mem_cons_of_mem _ (List.mem_cons_of_mem _ (List.mem_cons_of_mem _ (List.mem_cons_of_mem _ (List.mem_cons_of_mem _ (List.mem_cons_of_mem _ (List.mem_cons_of_mem _ (List.mem_cons_of_mem _ (List.mem_cons_of_mem _ (List.mem_cons_of_mem _ (List.mem_cons_of_mem _ (List.mem_cons_of_mem _ (List.mem_cons_of_mem _ (List.mem_cons_of_mem _ (List.mem_cons_of_mem _ List.mem_cons_self)))))))))))))))
    have r10 : N 29 = A10 0 := hN (28, A10 0) (List.mem_cons_of_mem _ (List.mem_cons_of_mem _ (List.mem_cons_of_mem _ (List.mem_cons_of_mem _ (List.mem_cons_of_mem _ (List.mem_cons_of_mem _ (List.mem_cons_of_mem _ (List.mem_cons_of_mem _ (List.mem_cons_of_mem _ (List.mem_cons_of_mem _ (List.mem_cons_of_mem _ (List.mem_cons_of_mem _ (List.mem_cons_of_mem _ (List.mem_cons_of_mem _ List.mem_cons_self))))))))))))))
    have r11 : N 37 = A11 0 := hN (36, A11 0) (List.mem_cons_of_mem _ (List.mem_cons_of_mem _ (List.mem_cons_of_mem _ (List.mem_cons_of_mem _ (List.mem_cons_of_mem _ (List.mem_cons_of_mem _ (List.mem_cons_of_mem _ (List.mem_cons_of_mem _ (List.mem_cons_of_mem _ (List.mem_cons_of_mem _ (List.mem_cons_of_mem _ (List.mem_cons_of_mem _ (List.mem_cons_of_mem _ List.mem_cons_self)))))))))))))
    have r12 : N 45 = A12 0 := hN (44, A12 0) (List.mem_cons_of_mem _ (List.mem_cons_of_mem _ (List.mem_cons_of_mem _ (List.mem_cons_of_mem _ (List.mem_cons_of_mem _ (List.mem_cons_of_mem _ (List.mem_cons_of_mem _ (List.mem_cons_of_mem _ (List.mem_cons_of_mem _ (List.mem_cons_of_mem _ (List.mem_cons_of_mem _ (List.mem_cons_of_mem _ List.mem_cons_self))))))))))))
    have r13 : N 53 = A13 0 := hN (52, A13 0) (List.mem_cons_of_mem _ (List.mem_cons_of_mem _ (List.mem_cons_of_mem _ (List.mem_cons_of_mem _ (List.mem_cons_of_mem _ (List.mem_cons_of_mem _ (List.mem_cons_of_mem _ (List.mem_cons_of_mem _ (List.mem_cons_of_mem _ (List.mem_cons_of_mem _ (List.mem_cons_of_mem _ List.mem_cons_self)))))))))))
    have r14 : N 1334 = q14 := hN (1333, q14) (List.mem_cons_of_mem _ (List.mem_cons_of_mem _ (List.mem_cons_of_mem _ (List.mem_cons_of_mem _ (List.mem_cons_of_mem _ (List.mem_cons_of_mem _ (List.mem_cons_of_mem _ (List.mem_cons_of_mem _ (List.mem_cons_of_mem _ (List.mem_cons_of_mem _ List.mem_cons_self))))))))))
    have r15 : N 1335 = A15 0 := hN (1334, A15 0) (List.mem_cons_of_mem _ (List.mem_cons_of_mem _ (List.mem_cons_of_mem _ (List.mem_cons_of_mem _ (List.mem_cons_of_mem _ (List.mem_cons_of_mem _ (List.mem_cons_of_mem _ (List.mem_cons_of_mem _ (List.mem_cons_of_mem _ List.mem_cons_self)))))))))
    have r16 : N 1343 = q16 := hN (1342, q16) (List.mem_cons_of_mem _ (List.mem_cons_of_mem _ (List.mem_cons_of_mem _ (List.mem_cons_of_mem _ (List.mem_cons_of_mem _ (List.mem_cons_of_mem _ (List.mem_cons_of_mem _ (List.mem_cons_of_mem _ List.mem_cons_self))))))))
    have r17 : N 1344 = A17 0 := hN (1343, A17 0) (List.mem_cons_of_mem _ (List.mem_cons_of_mem _ (List.mem_cons_of_mem _ (List.mem_cons_of_mem _ (List.mem_cons_of_mem _ (List.mem_cons_of_mem _ (List.mem_cons_of_mem _ List.mem_cons_self)))))))
    have r18 : N 1352 = A18 0 := hN (1351, A18 0) (List.mem_cons_of_mem _ (List.mem_cons_of_mem _ (List.mem_cons_of_mem _ (List.mem_cons_of_mem _ (List.mem_cons_of_mem _ (List.mem_cons_of_mem _ List.mem_cons_self))))))
    have r19 : N 1417 = q19 := hN (1416, q19) (List.mem_cons_of_mem _ (List.mem_cons_of_mem _ (List.mem_cons_of_mem _ (List.mem_cons_of_mem _ (List.mem_cons_of_mem _ List.mem_cons_self)))))
    have r20 : N 1418 = A20 0 := hN (1417, A20 0) (List.mem_cons_of_mem _ (List.mem_cons_of_mem _ (List.mem_cons_of_mem _ (List.mem_cons_of_mem _ List.mem_cons_self))))
    have r21 : N 1426 = q21 := hN (1425, q21) (List.mem_cons_of_mem _ (List.mem_cons_of_mem _ (List.mem_cons_of_mem _ List.mem_cons_self)))
    have r22 : N 1427 = q22 := hN (1426, q22) (List.mem_cons_of_mem _ (List.mem_cons_of_mem _ List.mem_cons_self))
    have r23 : N 1428 = q23 := hN (1427, q23) (List.mem_cons_of_mem _ List.mem_cons_self)
    have r24 : N 1429 = q24 := hN (1428, q24) List.mem_cons_self
    unfold x7F
    rw [mup_self, r1, r2, r3, r4, r5, r6, r7, r8, r9, r10, r11, r12, r13, r14, r15, r16, r17, r18, r19, r20, r21, r22, r23, r24])
  obtain ⟨N, M1, M2⟩ := M
  exact ⟨N, M1, fun p hp => absurd hp List.not_mem_nil⟩
end INI4
