/-! constructors: Big, Polynomial, Sequence -/
def entB (c : ClassId) (N : Nat → Nat) (i : Nat) : va_E := if i = 0 then bigO (N 1) 0 else bigA c 0
theorem entB_loc (c : ClassId) : locE 2 (entB c) := fun N N' hN i hi => by
  unfold entB
  split
  · rw [hN 1 (by decide)]
  · rfl
def entR (O : Nat → va_E) (cr : ClassId) (B : Nat) (E : (Nat → Nat) → Nat → va_E) (N : Nat → Nat) (i : Nat) : va_E := if i = 0 then O (N 1) else if i = 1 then .inl (cr, 7, .inr (.inr (.inr (.inr (fun k => if k < 7 then some (N (2 + B * k)) else none))))) else E (fun k => N (2 + B * ((i - 2) / B) + k)) ((i - 2) % B)
theorem entR_loc {O : Nat → va_E} {cr : ClassId} {B : Nat} {E : (Nat → Nat) → Nat → va_E} (hB : 0 < B) (hE : locE B E) : locE (2 + B * 7) (entR O cr B E) := fun N N' hN i hi => by
  unfold entR
  by_cases c0 : i = 0
  · rw [if_pos c0, if_pos c0, hN 1 (by omega)]
  · rw [if_neg c0, if_neg c0]
    by_cases c1 : i = 1
    · rw [if_pos c1, if_pos c1]
      have : (fun k => if k < 7 then some (N (2 + B * k)) else none) = fun k => if k < 7 then some (N' (2 + B * k)) else none := by
        funext k
        by_cases q : k < 7
        · rw [if_pos q, if_pos q, hN _ (by have := mul_blk (B := B) q hB; omega)]
        · rw [if_neg q, if_neg q]
      rw [this]
    · rw [if_neg c1, if_neg c1]
      have hl := Nat.mod_lt (i - 2) hB
      have hm := Nat.div_add_mod (i - 2) B
      have hj : (i - 2) / B < 7 := Nat.div_lt_of_lt_mul (by omega)
      exact hE _ _ (fun k hk => hN _ (by have := mul_blk (B := B) hj hk; omega)) _ hl
theorem rwI_made {h g : mH} {a B : Nat} {N : Nat → Nat} {cr : ClassId} {O : Nat → va_E} {E : (Nat → Nat) → Nat → va_E} (hB : 0 < B) (hI : rwI h g a B cr O E 7 N) (ha : h a ≠ none) : made h g a (2 + B * 7) (entR O cr B E) := by
  obtain ⟨i1, i2, i3, i4⟩ := hI
  have := made_of (c := 1 + B * 7) (E := entR O cr B E) i1 ha (by
    unfold entR
    rw [if_pos rfl, show (1 : Nat) = 0 + 1 from rfl, cns_s]
    exact i2) (fun i hi => by
    unfold entR
    rw [if_neg (Nat.succ_ne_zero i)]
    by_cases c1 : i = 0
    · rw [if_pos (by omega), c1, i3]
      have : (fun i => if i < 7 then some (N (1 + B * i)) else none) = fun k => if k < 7 then some (cns a N (2 + B * k)) else none := by
        funext k
        rw [show 2 + B * k = 1 + B * k + 1 by omega, cns_s]
      rw [this]
    · rw [if_neg (by omega)]
      have hl := Nat.mod_lt (i - 1) hB
      have hm := Nat.div_add_mod (i - 1) B
      have hj : (i - 1) / B < 7 := Nat.div_lt_of_lt_mul (by omega)
      rw [show i + 1 - 2 = i - 1 by omega]
      have e : (fun k => cns a N (2 + B * ((i - 1) / B) + k)) = fun k => N (1 + B * ((i - 1) / B) + k) := funext fun k => by
        rw [show 2 + B * ((i - 1) / B) + k = 1 + B * ((i - 1) / B) + k + 1 by omega, cns_s]
      rw [e]
      have := i4 ((i - 1) / B) ((i - 1) % B) hj hl
      rw [show 1 + B * ((i - 1) / B) + (i - 1) % B = i by omega] at this
      exact this)
  rw [show 1 + B * 7 + 1 = 2 + B * 7 by omega] at this
  exact this
theorem rwI_0 {h g : mH} {a q B : Nat} {cr : ClassId} {O : Nat → va_E} {E : (Nat → Nat) → Nat → va_E} {e : va_E} (ha : h a ≠ none) (hq : h q = none) (hg : g = mup (mup h q e) a (O q)) (he : e = .inl (cr, 7, .inr (.inr (.inr (.inr (fun _ => none)))))) : ∃ N, N 0 = q ∧ rwI h g a B cr O E 0 N := by
  have haq : a ≠ q := fun w => ha (by rw [w]; exact hq)
  subst hg
  subst he
  refine ⟨fun _ => q, rfl, nw_up (nw_1 hq _) (Or.inl rfl), mup_self, ?_, fun j i hj => absurd hj (Nat.not_lt_zero j)⟩
  rw [mup_ne haq.symm, mup_self]
  rfl
theorem bigA_0 (c : ClassId) : (.inl (c, 20, .inl (fun _ => 0)) : va_E) = bigA c 0 := by
  unfold bigA bA bN
  refine congrArg (fun f => (.inl (c, 20, .inl f) : va_E)) (funext fun k => ?_)
  show (0 : Int32) = nI (bdig 0 k)
  unfold bdig
  rw [Nat.zero_div, Nat.zero_mod]
  rfl
section INI
variable {cA : Nat → ClassId} {h : mH} {a : Nat}
def entP (cA : Nat → ClassId) : (Nat → Nat) → Nat → va_E := entR (fun r => pO r 0) (cA 2) 2 (entB (cA 0))
def entS (cA : Nat → ClassId) : (Nat → Nat) → Nat → va_E := entR (fun r => sO r 0) (cA 3) 16 (entP cA)
theorem entP_loc : locE 16 (entP cA) := entR_loc (by decide) (entB_loc _)
theorem entS_loc : locE 114 (entS cA) := entR_loc (by decide) entP_loc
theorem b_init (l : Launch) (D : va_G) (ha : h a = some (.inr (5, [.null, .int 0, .int 0]))) : mCv l yX1_init cX1_init 1 (rmc 2 1 20) D (mT cA) [.ref a] h (fun h1 => made h h1 a 2 (entB (cA 0))) := by
  refine mEnter_v (by decide) (Nat.le_of_ble_eq_true rfl) rfl (fun z X Vz => ?_)
  refine zi_aload_n X dX1_init_0 rfl rfl ?_
  refine zi_objInit X wm_X1_3 wob_i wob_c (by decide) (by decide) dX1_init_1 ?_
  refine zi_aload_n X dX1_init_4 rfl rfl ?_
  refine zi_bipush (v := (nI 20)) X dX1_init_5 (by decide) ?_
  refine zi_newa (atype := .int) (ty := .int) (t0 := 0) (N' := 20) (a0 := (20, .inl (fun _ => 0))) X rfl wac_int rfl (fun _ => rfl) (by decide) rfl (Nat.le_of_ble_eq_true rfl) (Nat.le_of_ble_eq_true rfl) (Nat.le_of_ble_eq_true rfl) dX1_init_7 (fun q hq => ?_)
  have haq : a ≠ q := fun w => by rw [w, hq] at ha; cases ha
  refine zi_putfF (C := RX1) (T := TX1) (N := 3) (ci := 5) (ty0 := tyX1) X (by first | assumption | exact mup_self | (rw [mup_ne (by assumption)]; assumption) | (rw [mup_ne (by assumption)]; exact mup_self) | (rw [mup_ne (by assumption), mup_ne (by assumption)]; assumption)) rfl in_X1 tyX1_ok nmX1 0 (by decide) wf_X1_9 rfl rfl (by first | rfl | exact hname) rfl rfl rfl rfl (Nat.le_of_ble_eq_true rfl) dX1_init_9 ?_
  refine zi_return X Vz dX1_init_12 ?_
  refine made_of (c := 1) (N := fun _ => q) (nw_up (nw_1 hq _) (Or.inl rfl)) (by rw [ha]; exact Option.some_ne_none _) (by rw [mup_self]; rfl) (fun i hi => ?_)
  obtain rfl : i = 0 := by omega
  rw [mup_ne haq.symm, mup_self]
  exact congrArg some (bigA_0 (cA 0))
end INI
section INI2
variable {cA : Nat → ClassId} {h : mH} {a : Nat}
theorem va_upE {f : Nat → Option Nat} {t q : Nat} {N : Nat → Nat} {B : Nat} (hf : f = fun i => if i < t then some (N (1 + B * i)) else none) (ht : t < 2147483648) : va_up f (nI t).toNatClampNeg (some q) = fun i => if i = t then some q else if i < t then some (N (1 + B * i)) else none := by
  rw [nI_cl ht]
  funext i
  by_cases c : i = t
  · rw [c, va_up_self, if_pos rfl]
  · rw [va_up_ne _ _ c, if_neg c, hf]
theorem p_init (l : Launch) (D : va_G) (ha : h a = some (.inr (8, [.null, .int 0]))) : mCv l yX4_init cX4_init 2 (rmc 3 15 168) D (mT cA) [.ref a] h (fun h1 => made h h1 a 16 (entP cA)) := by
  have ha0 : h a ≠ none := by rw [ha]; exact Option.some_ne_none _
  refine mEnter_v (by decide) (Nat.le_of_ble_eq_true rfl) rfl (fun z X Vz => ?_)
  refine zi_aload_n X dX4_init_0 rfl rfl ?_
  refine zi_objInit X wm_X4_3 wob_i wob_c (by decide) (by decide) dX4_init_1 ?_
  refine zi_aload_n X dX4_init_4 rfl rfl ?_
  refine zi_bipush (v := (nI 7)) X dX4_init_5 (by decide) ?_
  refine zi_newq (t0 := 2) (N' := 7) X rfl wc_X4_9 (zN_of X wb_X1) (by decide) rfl (Nat.le_of_ble_eq_true rfl) (Nat.le_of_ble_eq_true rfl) (Nat.le_of_ble_eq_true rfl) dX4_init_7 (fun q hq => ?_)
  have haq : a ≠ q := fun w => ha0 (by rw [w]; exact hq)
  refine zi_putfF (C := RX4) (T := TX4) (N := 2) (ci := 8) (ty0 := tyX4) X (by first | assumption | exact mup_self | (rw [mup_ne (by assumption)]; assumption) | (rw [mup_ne (by assumption)]; exact mup_self) | (rw [mup_ne (by assumption), mup_ne (by assumption)]; assumption)) rfl in_X4 tyX4_ok nmX4 0 (by decide) wf_X4_11 rfl rfl (by first | rfl | exact hname) rfl rfl rfl rfl (Nat.le_of_ble_eq_true rfl) dX4_init_10 ?_
  refine zi_aload_n X dX4_init_13 rfl rfl ?_
  refine zi_iconst (v := (-1)) X dX4_init_14 (by decide) ?_
  refine zi_putf (C := RX4) (T := TX4) (N := 2) (ci := 8) (ty0 := tyX4) X (by first | assumption | exact mup_self | (rw [mup_ne (by assumption)]; assumption) | (rw [mup_ne (by assumption)]; exact mup_self) | (rw [mup_ne (by assumption), mup_ne (by assumption)]; assumption)) rfl in_X4 tyX4_ok nmX4 1 (by decide) wf_X4_17 rfl rfl rfl rfl rfl (Nat.le_of_ble_eq_true rfl) dX4_init_15 ?_
  refine zi_iconst (v := (nI 0)) X dX4_init_18 (by decide) ?_
  refine zi_istore_n X dX4_init_19 rfl (by decide) ?_
  obtain ⟨N0, n0, I0⟩ := rwI_0 (a := a) (q := q) (B := 2) (O := fun r => pO r 0) (E := entB (cA 0)) (cr := cA 2) ha0 hq rfl rfl
  refine zi_eqh (h' := mup (mup h q (.inl (cA 2, 7, .inr (.inr (.inr (.inr (fun _ => none))))))) a (pO q 0)) (by rw [mup_mup]; rfl) ?_
  generalize mup (mup h q (.inl (cA 2, 7, .inr (.inr (.inr (.inr (fun _ => none))))))) a (pO q 0) = g0 at I0
  suffices key : ∀ w t (g : mH) (N : Nat → Nat), t + w = 7 → rwI h g a 2 (cA 2) (fun r => pO r 0) (entB (cA 0)) t N → zM z (1 + 2 * t) (7 + 23 * t) 20 [some (.ref a), some (.int (nI t))] [] g from
    zi_sub (by repeat (first | exact trivial | refine And.intro rfl ?_)) (key 7 0 g0 N0 rfl I0)
  intro w
  induction w with
  | zero =>
    intro t g N ht hI
    obtain rfl : t = 7 := by omega
    refine zi_iload_n X dX4_init_20 rfl rfl ?_
    refine zi_bipush (v := (nI 7)) X dX4_init_21 (by decide) ?_
    refine zi_icmp_ge (tgt := 45) X dX4_init_23 (by decide) (fun c_23 => ?_) (fun c_23 => (by first | exact absurd (by decide) c_23 | exact absurd c_23 (by decide)))
    refine zi_return X Vz dX4_init_45 ?_
    exact rwI_made (by decide) hI ha0
  | succ w ih =>
    intro t g N ht hI
    have t7 : t < 7 := by omega
    have y1 := hI.2.1
    have y2 := hI.2.2.1
    refine zi_iload_n X dX4_init_20 rfl rfl ?_
    refine zi_bipush (v := (nI 7)) X dX4_init_21 (by decide) ?_
    refine zi_icmp_ge (tgt := 45) X dX4_init_23 (by decide) (fun c_23 => (by first | exact absurd (c7 t7) c_23 | exact absurd c_23 (c7 t7))) (fun c_23 => ?_)
    refine zi_aload_n X dX4_init_26 rfl rfl ?_
    refine zi_getf (C := RX4) (T := TX4) (N := 2) (ci := 8) X (by first | assumption | exact mup_self | (rw [mup_ne (by assumption)]; assumption) | (rw [mup_ne (by assumption)]; exact mup_self) | (rw [mup_ne (by assumption), mup_ne (by assumption)]; assumption)) rfl in_X4 0 (by decide) wf_X4_11 rfl rfl dX4_init_27 ?_
    refine zi_iload_n X dX4_init_30 rfl rfl ?_
    refine zi_new (C := RX1) (T := TX1) (N := 3) (ci := 5) (ty := tyX1) (fs := [.null, .int 0, .int 0]) X rfl in_X1 tyX1_ok wc_X4_9 wit_X1 win_X1 (by decide) (by show 1 + 2 * t + 1 ≤ 15; omega) (by show 7 + 23 * t + 3 ≤ 168; omega) dX4_init_31 (fun q1 hq1 => ?_)
    refine zi_dup X dX4_init_34 rfl ?_
    refine zi_callNv X (b_init (cA := cA) l D mup_self) kc_X1_init wim_X1_init rfl (zN_of X (List.mem_filter.mpr ⟨wn_X4_21, rfl⟩)) ⟨Nat.le_of_ble_eq_true rfl, Nat.le_of_ble_eq_true rfl⟩ rfl rfl (Nat.le_of_ble_eq_true rfl) ⟨by show 1 + 2 * t + 1 + 1 ≤ 15; omega, by show 7 + 23 * t + 3 + 20 ≤ 168; omega⟩ dX4_init_35 (fun h2 hp => ?_)
    obtain ⟨s1, s2, ⟨e, s3, M, m0, s4⟩, s5⟩ := rwI_step (t := t) (by decide) (entB_loc (cA 0)) hI ha0 hq1 hp
    rw [s4] at s3
    refine zi_astq X 2 (by first | assumption | exact mup_self | (rw [mup_ne (by assumption)]; assumption) | (rw [mup_ne (by assumption)]; exact mup_self) | (rw [mup_ne (by assumption), mup_ne (by assumption)]; assumption)) rfl s3 rfl (vin t7 (by decide)) dX4_init_38 ?_
    obtain ⟨N2, e0, I2⟩ := s5 _ (va_upE rfl (by omega))
    refine zi_widen (k := 1 + 2 * (t + 1)) (n := 7 + 23 * (t + 1)) (by show 1 + 2 * t + 1 + 1 ≤ _; omega) (by show 7 + 23 * t + 3 + 20 ≤ _; omega) ?_
    refine zi_iinc (v := nI (t + 1)) X dX4_init_39 rfl (nI_inc _) (by decide) ?_
    refine zi_goto (tgt := 20) X dX4_init_42 (by decide) ?_
    exact zi_sub (by repeat (first | exact trivial | refine And.intro rfl ?_)) (ih (t + 1) _ N2 (by omega) I2)
theorem s_init (l : Launch) (D : va_G) (ha : h a = some (.inr (9, [.null, .int 0]))) : mCv l yX5_init cX5_init 2 (rmc 4 113 1197) D (mT cA) [.ref a] h (fun h1 => made h h1 a 114 (entS cA)) := by
  have ha0 : h a ≠ none := by rw [ha]; exact Option.some_ne_none _
  refine mEnter_v (by decide) (Nat.le_of_ble_eq_true rfl) rfl (fun z X Vz => ?_)
  refine zi_aload_n X dX5_init_0 rfl rfl ?_
  refine zi_objInit X wm_X5_3 wob_i wob_c (by decide) (by decide) dX5_init_1 ?_
  refine zi_aload_n X dX5_init_4 rfl rfl ?_
  refine zi_bipush (v := (nI 7)) X dX5_init_5 (by decide) ?_
  refine zi_newq (t0 := 3) (N' := 7) X rfl wc_X5_9 (zN_of X wb_X4) (by decide) rfl (Nat.le_of_ble_eq_true rfl) (Nat.le_of_ble_eq_true rfl) (Nat.le_of_ble_eq_true rfl) dX5_init_7 (fun q hq => ?_)
  have haq : a ≠ q := fun w => ha0 (by rw [w]; exact hq)
  refine zi_putfF (C := RX5) (T := TX5) (N := 2) (ci := 9) (ty0 := tyX5) X (by first | assumption | exact mup_self | (rw [mup_ne (by assumption)]; assumption) | (rw [mup_ne (by assumption)]; exact mup_self) | (rw [mup_ne (by assumption), mup_ne (by assumption)]; assumption)) rfl in_X5 tyX5_ok nmX5 0 (by decide) wf_X5_11 rfl rfl (by first | rfl | exact hname) rfl rfl rfl rfl (Nat.le_of_ble_eq_true rfl) dX5_init_10 ?_
  refine zi_iconst (v := (nI 0)) X dX5_init_13 (by decide) ?_
  refine zi_istore_n X dX5_init_14 rfl (by decide) ?_
  obtain ⟨N0, n0, I0⟩ := rwI_0 (a := a) (q := q) (B := 16) (O := fun r => sO r 0) (E := entP cA) (cr := cA 3) ha0 hq rfl rfl
  refine zi_eqh (h' := mup (mup h q (.inl (cA 3, 7, .inr (.inr (.inr (.inr (fun _ => none))))))) a (sO q 0)) rfl ?_
  generalize mup (mup h q (.inl (cA 3, 7, .inr (.inr (.inr (.inr (fun _ => none))))))) a (sO q 0) = g0 at I0
  suffices key : ∀ w t (g : mH) (N : Nat → Nat), t + w = 7 → rwI h g a 16 (cA 3) (fun r => sO r 0) (entP cA) t N → zM z (1 + 16 * t) (7 + 170 * t) 15 [some (.ref a), some (.int (nI t))] [] g from
    zi_sub (by repeat (first | exact trivial | refine And.intro rfl ?_)) (key 7 0 g0 N0 rfl I0)
  intro w
  induction w with
  | zero =>
    intro t g N ht hI
    obtain rfl : t = 7 := by omega
    refine zi_iload_n X dX5_init_15 rfl rfl ?_
    refine zi_bipush (v := (nI 7)) X dX5_init_16 (by decide) ?_
    refine zi_icmp_ge (tgt := 40) X dX5_init_18 (by decide) (fun c_18 => ?_) (fun c_18 => (by first | exact absurd (by decide) c_18 | exact absurd c_18 (by decide)))
    refine zi_return X Vz dX5_init_40 ?_
    exact rwI_made (by decide) hI ha0
  | succ w ih =>
    intro t g N ht hI
    have t7 : t < 7 := by omega
    have y1 := hI.2.1
    have y2 := hI.2.2.1
    refine zi_iload_n X dX5_init_15 rfl rfl ?_
    refine zi_bipush (v := (nI 7)) X dX5_init_16 (by decide) ?_
    refine zi_icmp_ge (tgt := 40) X dX5_init_18 (by decide) (fun c_18 => (by first | exact absurd (c7 t7) c_18 | exact absurd c_18 (c7 t7))) (fun c_18 => ?_)
    refine zi_aload_n X dX5_init_21 rfl rfl ?_
    refine zi_getf (C := RX5) (T := TX5) (N := 2) (ci := 9) X (by first | assumption | exact mup_self | (rw [mup_ne (by assumption)]; assumption) | (rw [mup_ne (by assumption)]; exact mup_self) | (rw [mup_ne (by assumption), mup_ne (by assumption)]; assumption)) rfl in_X5 0 (by decide) wf_X5_11 rfl rfl dX5_init_22 ?_
    refine zi_iload_n X dX5_init_25 rfl rfl ?_
    refine zi_new (C := RX4) (T := TX4) (N := 2) (ci := 8) (ty := tyX4) (fs := [.null, .int 0]) X rfl in_X4 tyX4_ok wc_X5_9 wit_X4 win_X4 (by decide) (by show 1 + 16 * t + 1 ≤ 113; omega) (by show 7 + 170 * t + 2 ≤ 1197; omega) dX5_init_26 (fun q1 hq1 => ?_)
    refine zi_dup X dX5_init_29 rfl ?_
    refine zi_callIv (host := "") X (p_init (cA := cA) l D mup_self) kc_X4_init wm_X5_17 wim_X4_init rfl ⟨Nat.le_of_ble_eq_true rfl, Nat.le_of_ble_eq_true rfl⟩ rfl rfl (Nat.le_of_ble_eq_true rfl) ⟨by show 1 + 16 * t + 1 + 15 ≤ 113; omega, by show 7 + 170 * t + 2 + 168 ≤ 1197; omega⟩ dX5_init_30 (fun h2 hp => ?_)
    obtain ⟨s1, s2, ⟨e, s3, M, m0, s4⟩, s5⟩ := rwI_step (t := t) (by decide) entP_loc hI ha0 hq1 hp
    rw [s4] at s3
    refine zi_astq X 3 (by first | assumption | exact mup_self | (rw [mup_ne (by assumption)]; assumption) | (rw [mup_ne (by assumption)]; exact mup_self) | (rw [mup_ne (by assumption), mup_ne (by assumption)]; assumption)) rfl s3 rfl (vin t7 (by decide)) dX5_init_33 ?_
    obtain ⟨N2, e0, I2⟩ := s5 _ (va_upE rfl (by omega))
    refine zi_widen (k := 1 + 16 * (t + 1)) (n := 7 + 170 * (t + 1)) (by show 1 + 16 * t + 1 + 15 ≤ _; omega) (by show 7 + 170 * t + 2 + 168 ≤ _; omega) ?_
    refine zi_iinc (v := nI (t + 1)) X dX5_init_34 rfl (nI_inc _) (by decide) ?_
    refine zi_goto (tgt := 15) X dX5_init_37 (by decide) ?_
    exact zi_sub (by repeat (first | exact trivial | refine And.intro rfl ?_)) (ih (t + 1) _ N2 (by omega) I2)
end INI2
