/-! SturmRootsModel: bound, refused, distinct, countDistinct, countAll, distinctRoots -/
/-- the roots that are counted between two points -/
def dsG (p : Nat → Int) : Nat := stI (frP p) 7 - 1
def dsB (p : Nat → Int) (x y : Int) (k : Nat) : Nat → Int := btF (frP p) x (y - x) k (dsG p + 1) (dsG p + 1)
def dsX (x : Int) (k l : Nat) : Int := x * 2 ^ (max k l - k)
def dsN (p : Nat → Int) (x : Int) (k : Nat) (y : Int) (l : Nat) : Nat := cntN (dsG p) 159 (dsB p (dsX x k l) (dsX y l k) (max k l))
def dsOk (p : Nat → Int) (x : Int) (k : Nat) (y : Int) (l : Nat) : Prop := frOk p ∧ pC (frP p) ∧ stI (frP p) 7 ≠ 0 ∧ okT (dsG p) 159 (dsB p (dsX x k l) (dsX y l k) (max k l))
def daN (x : Int) (k : Nat) (y : Int) (l : Nat) : Nat → (Nat → Int) → Nat
  | 0, _ => 0
  | r + 1, p => if stI p 7 ≤ 1 then 0 else dsN p x k y l + daN x k y l r (gcR p (derI p))
def daOk (x : Int) (k : Nat) (y : Int) (l : Nat) : Nat → (Nat → Int) → Prop
  | 0, p => pC p ∧ stI p 7 ≤ 1
  | r + 1, p => pC p ∧ (¬ stI p 7 ≤ 1 → dsOk p x k y l ∧ daOk x k y l r (gcR p (derI p)))
theorem pw_le {m : Nat} (h : m ≤ 12) : (2 : Int) ^ m ≤ 4096 ∧ 0 < (2 : Int) ^ m := by
  refine ⟨?_, tw_pos m⟩
  have : ((2 ^ m : Nat) : Int) ≤ ((2 ^ 12 : Nat) : Int) := Int.ofNat_le.mpr (Nat.pow_le_pow_right (by decide) h)
  rw [tw_c, tw_c] at this
  exact this
theorem ab_mul {x w : Int} {X W : Nat} (hx : x.natAbs ≤ X) (hw : w.natAbs ≤ W) : (x * w).natAbs ≤ X * W := by
  rw [Int.natAbs_mul]
  exact Nat.mul_le_mul hx hw
theorem dsX_bd {x y : Int} {k l : Nat} (hx : x.natAbs ≤ 1000000) (hy : y.natAbs ≤ 1000000) (hk : k ≤ 12) (hl : l ≤ 12) : (dsX x k l).natAbs < CC ∧ (dsX y l k - dsX x k l).natAbs < CC := by
  have one : ∀ {x : Int} {a : Nat}, x.natAbs ≤ 1000000 → a ≤ 12 → (x * 2 ^ a).natAbs ≤ 4096000000 := fun {x a} hx ha => by
    have := pw_le ha
    exact ab_mul (W := 4096) hx (by omega)
  unfold dsX CC
  rcases Nat.le_total k l with c | c
  · rw [Nat.max_eq_right c, Nat.max_eq_left c, Nat.sub_self, Int.pow_zero, Int.mul_one]
    have := one hx (show l - k ≤ 12 by omega)
    omega
  · rw [Nat.max_eq_left c, Nat.max_eq_right c, Nat.sub_self, Int.pow_zero, Int.mul_one]
    have := one hy (show k - l ≤ 12 by omega)
    omega
section CN
variable {cA : Nat → ClassId} {M : Nat → Nat → Nat} {h : mH} {o : RO} {Sl : Nat → Nat → Int} {kp : Nat → Int} {cap n : Nat} {V : Nat → Iv} {P : Nat → Nat → Int}
theorem s_bound (l : Launch) (D : va_G) {a : Nat} {s : Nat → Int} (ha : h a = some (slotA (cA 0) s)) (hs : ∀ k, k < 7 → (s k).natAbs ≤ 9999) (h0 : stI s 7 ≠ 0) : mCi l yX7_bound cX7_bound 5 .int (rmd 2) D (mT cA) [.ref a] h (fun r h1 => h1 = h ∧ r = nI (rBd s)) := by
  refine mEnter_i (by decide) (Nat.le_of_ble_eq_true rfl) rfl (fun z X Vz => ?_)
  refine zi_aload_n X dX7_bound_0 rfl rfl ?_
  refine zi_callSi X (s_degree l D ha hs) kc_X7_degree_ wm_X7_215 wst_X7_degree_ ⟨Nat.le_of_ble_eq_true rfl, Nat.le_of_ble_eq_true rfl⟩ rfl rfl (Nat.le_of_ble_eq_true rfl) ⟨Nat.le_of_ble_eq_true rfl, Nat.le_of_ble_eq_true rfl⟩ dX7_bound_1 (fun y g e1 => ?_)
  obtain ⟨rfl, rfl⟩ := e1
  obtain ⟨d, hd⟩ : ∃ d, stI s 7 = d + 1 := ⟨stI s 7 - 1, by omega⟩
  have hd7 : d < 7 := by have := stI_le s 7; omega
  have hd0 : s d ≠ 0 := by
    have := stI_top (p := s) (n := 7) (by omega)
    rw [hd] at this
    exact this
  rw [sDeg_I, hd, nI_pr]
  refine zi_istore_n X dX7_bound_4 rfl (by decide) ?_
  refine zi_iconst (v := (nI 1)) X dX7_bound_5 (by decide) ?_
  refine zi_istore_n X dX7_bound_6 rfl (by decide) ?_
  refine zi_iconst (v := (nI 0)) X dX7_bound_7 (by decide) ?_
  refine zi_istore_n X dX7_bound_8 rfl (by decide) ?_
  refine zi_iconst (v := (nI 0)) X dX7_bound_9 (by decide) ?_
  refine zi_istore X dX7_bound_10 (by decide) ?_
  have hg9 := grP_le hs d (by omega)
  have hl9 := hs d hd7
  have hfin : bdF (s d).natAbs (grP s d) 15 1 = rBd s := by unfold rBd; rw [hd]; rfl
  have lp2 : ∀ m b, 2 ^ m * b = 32768 → 0 < b → bdF (s d).natAbs (grP s d) m b = rBd s → zM z 0 0 36 [some (.ref a), some (.int (nI d)), some (.int (nI b)), some (.int (nI (grP s d))), none] [] g := by
    intro m
    induction m with
    | zero =>
      intro b hb _ hr
      have c51 : (0 : Int32) ≤ lg_cmp (lI (((b - 1 : Nat) : Int) * ((s d).natAbs : Int))) (lI (grP s d : Int)) := by
        refine (lg_cmp_ge _ _).mpr ((fa_le64 _ _).mpr ?_)
        have hmul : (b - 1) * (s d).natAbs ≤ 32768 * 9999 := Nat.mul_le_mul (by omega) hl9
        have hge : (b - 1) * 1 ≤ (b - 1) * (s d).natAbs := Nat.mul_le_mul_left _ (by omega)
        rw [lI_int (v := (grP s d : Int)) (by omega), lI_int (by rw [← Int.natCast_mul, Int.natAbs_natCast]; omega), ← Int.natCast_mul]
        omega
      have eb : (nI b).toInt64 - lN 1 = lI ((b - 1 : Nat) : Int) := by
        apply i64_ext
        rw [l_sub (a := (b : Int)) (b := 1) (by rw [i32_i64, nI_int (by omega)]) (by decide) (by omega) (by omega), lI_int (by omega)]
        omega
      refine zi_iload_n X dX7_bound_36 rfl rfl ?_
      refine zi_i2l X dX7_bound_37 ?_
      refine zi_lconst (v := lN 1) X dX7_bound_38 (by decide) ?_
      refine zi_lsub X dX7_bound_39 ?_
      refine zi_aload_n X dX7_bound_40 rfl rfl ?_
      refine zi_iload_n X dX7_bound_41 rfl rfl ?_
      refine zi_iald X 0 (by first | assumption | exact mup_self | (rw [mup_ne (by assumption)]; assumption) | (rw [mup_ne (by assumption)]; exact mup_self) | (rw [mup_ne (by assumption), mup_ne (by assumption)]; assumption)) rfl (vin hd7 (by decide)) dX7_bound_42 ?_
      rw [slot_rd hd7]
      refine zi_mabs X wm_X7_279 (Nat.le_of_ble_eq_true rfl) (Nat.le_of_ble_eq_true rfl) ⟨(Nat.le_of_ble_eq_true rfl), (Nat.le_of_ble_eq_true rfl)⟩ dX7_bound_43 ?_
      rw [i_abs (by omega), eb]
      refine zi_i2l X dX7_bound_46 ?_
      rw [nn_l (s d).natAbs (by omega)]
      refine zi_lmul X dX7_bound_47 ?_
      refine zi_iload_n X dX7_bound_48 rfl rfl ?_
      refine zi_i2l X dX7_bound_49 ?_
      rw [lI_mul, nn_l (grP s d) (by omega)]
      refine zi_lcmp X dX7_bound_50 ?_
      refine zi_if_ge (tgt := 61) X dX7_bound_51 (by decide) (fun c_51 => ?_) (fun c_51 => (by first | exact absurd c51 c_51 | exact absurd c_51 c51))
      refine zi_iload_n X dX7_bound_61 rfl rfl ?_
      refine zi_ireturn X Vz dX7_bound_62 ?_
      exact ⟨rfl, by rw [← hr]; rfl⟩
    | succ m ih =>
      intro b hb hb0 hr
      have hb3 : b < 32768 := by
        have : 2 ≤ 2 ^ (m + 1) := by rw [Nat.pow_succ]; have := Nat.two_pow_pos m; omega
        have := Nat.mul_le_mul this (Nat.le_refl b)
        omega
      have eb : (nI b).toInt64 - lN 1 = lI ((b - 1 : Nat) : Int) := by
        apply i64_ext
        rw [l_sub (a := (b : Int)) (b := 1) (by rw [i32_i64, nI_int (by omega)]) (by decide) (by omega) (by omega), lI_int (by omega)]
        omega
      have hmul : (b - 1) * (s d).natAbs ≤ 32768 * 9999 := Nat.mul_le_mul (by omega) hl9
      have cv : (lI (((b - 1 : Nat) : Int) * ((s d).natAbs : Int))).toInt = (((b - 1) * (s d).natAbs : Nat) : Int) := by
        rw [lI_int (by rw [← Int.natCast_mul, Int.natAbs_natCast]; omega), Int.natCast_mul]
      have cg : (lI (grP s d : Int)).toInt = (grP s d : Int) := lI_int (by omega)
      rw [bdF] at hr
      refine zi_iload_n X dX7_bound_36 rfl rfl ?_
      refine zi_i2l X dX7_bound_37 ?_
      refine zi_lconst (v := lN 1) X dX7_bound_38 (by decide) ?_
      refine zi_lsub X dX7_bound_39 ?_
      refine zi_aload_n X dX7_bound_40 rfl rfl ?_
      refine zi_iload_n X dX7_bound_41 rfl rfl ?_
      refine zi_iald X 0 (by first | assumption | exact mup_self | (rw [mup_ne (by assumption)]; assumption) | (rw [mup_ne (by assumption)]; exact mup_self) | (rw [mup_ne (by assumption), mup_ne (by assumption)]; assumption)) rfl (vin hd7 (by decide)) dX7_bound_42 ?_
      rw [slot_rd hd7]
      refine zi_mabs X wm_X7_279 (Nat.le_of_ble_eq_true rfl) (Nat.le_of_ble_eq_true rfl) ⟨(Nat.le_of_ble_eq_true rfl), (Nat.le_of_ble_eq_true rfl)⟩ dX7_bound_43 ?_
      rw [i_abs (by omega), eb]
      refine zi_i2l X dX7_bound_46 ?_
      rw [nn_l (s d).natAbs (by omega)]
      refine zi_lmul X dX7_bound_47 ?_
      refine zi_iload_n X dX7_bound_48 rfl rfl ?_
      refine zi_i2l X dX7_bound_49 ?_
      rw [lI_mul, nn_l (grP s d) (by omega)]
      by_cases c : (b - 1) * (s d).natAbs < grP s d
      · have c51 : ¬ (0 : Int32) ≤ lg_cmp (lI (((b - 1 : Nat) : Int) * ((s d).natAbs : Int))) (lI (grP s d : Int)) := fun w => by
          have := (fa_le64 _ _).mp ((lg_cmp_ge _ _).mp w)
          rw [cv, cg] at this
          omega
        rw [if_pos c] at hr
        refine zi_lcmp X dX7_bound_50 ?_
        refine zi_if_ge (tgt := 61) X dX7_bound_51 (by decide) (fun c_51 => (by first | exact absurd c51 c_51 | exact absurd c_51 c51)) (fun c_51 => ?_)
        refine zi_iload_n X dX7_bound_54 rfl rfl ?_
        refine zi_iconst (v := (nI 2)) X dX7_bound_55 (by decide) ?_
        refine zi_imul X dX7_bound_56 ?_
        rw [show nI b * nI 2 = nI (2 * b) from by rw [Int32.mul_comm, iI_nat b, iI_mul2]; rfl]
        refine zi_istore_n X dX7_bound_57 rfl (by decide) ?_
        refine zi_goto (tgt := 36) X dX7_bound_58 (by decide) ?_
        exact zi_sub (by repeat (first | exact trivial | refine And.intro rfl ?_)) (ih (2 * b) (by rw [← hb, Nat.pow_succ, Nat.mul_assoc]) (by omega) hr)
      · have c51 : (0 : Int32) ≤ lg_cmp (lI (((b - 1 : Nat) : Int) * ((s d).natAbs : Int))) (lI (grP s d : Int)) := by
          refine (lg_cmp_ge _ _).mpr ((fa_le64 _ _).mpr ?_)
          rw [cv, cg]
          omega
        rw [if_neg c] at hr
        refine zi_lcmp X dX7_bound_50 ?_
        refine zi_if_ge (tgt := 61) X dX7_bound_51 (by decide) (fun c_51 => ?_) (fun c_51 => (by first | exact absurd c51 c_51 | exact absurd c_51 c51))
        refine zi_iload_n X dX7_bound_61 rfl rfl ?_
        refine zi_ireturn X Vz dX7_bound_62 ?_
        exact ⟨rfl, by rw [← hr]⟩
  suffices loop : ∀ m t, t + m = d → zM z 0 0 12 [some (.ref a), some (.int (nI d)), some (.int (nI 1)), some (.int (nI (grP s t))), some (.int (nI t))] [] g from
    zi_sub (by repeat (first | exact trivial | refine And.intro rfl ?_)) (loop d 0 (by omega))
  intro m
  induction m with
  | zero =>
    intro t ht
    obtain rfl : t = d := by omega
    refine zi_iload X dX7_bound_12 rfl ?_
    refine zi_iload_n X dX7_bound_14 rfl rfl ?_
    refine zi_icmp_ge (tgt := 36) X dX7_bound_15 (by decide) (fun c_15 => ?_) (fun c_15 => (by first | exact absurd (Int32.le_refl _) c_15 | exact absurd c_15 (Int32.le_refl _)))
    exact zi_sub (by repeat (first | exact trivial | refine And.intro rfl ?_)) (lp2 15 1 rfl (by decide) hfin)
  | succ m ih =>
    intro t ht
    have t7 : t < 7 := by omega
    have hg9 := grP_le hs t (by omega)
    have hl9 := hs t t7
    refine zi_iload X dX7_bound_12 rfl ?_
    refine zi_iload_n X dX7_bound_14 rfl rfl ?_
    refine zi_icmp_ge (tgt := 36) X dX7_bound_15 (by decide) (fun c_15 => (by first | exact absurd (nI_ge (show t < d by omega) (by omega)) c_15 | exact absurd c_15 (nI_ge (show t < d by omega) (by omega)))) (fun c_15 => ?_)
    refine zi_iload_n X dX7_bound_18 rfl rfl ?_
    refine zi_aload_n X dX7_bound_19 rfl rfl ?_
    refine zi_iload X dX7_bound_20 rfl ?_
    refine zi_iald X 0 (by first | assumption | exact mup_self | (rw [mup_ne (by assumption)]; assumption) | (rw [mup_ne (by assumption)]; exact mup_self) | (rw [mup_ne (by assumption), mup_ne (by assumption)]; assumption)) rfl (vin t7 (by decide)) dX7_bound_22 ?_
    rw [slot_rd t7]
    refine zi_mabs X wm_X7_279 (Nat.le_of_ble_eq_true rfl) (Nat.le_of_ble_eq_true rfl) ⟨(Nat.le_of_ble_eq_true rfl), (Nat.le_of_ble_eq_true rfl)⟩ dX7_bound_23 ?_
    rw [i_abs (by omega)]
    refine zi_mmax X wm_X7_117 (Nat.le_of_ble_eq_true rfl) (Nat.le_of_ble_eq_true rfl) ⟨(Nat.le_of_ble_eq_true rfl), (Nat.le_of_ble_eq_true rfl)⟩ dX7_bound_26 ?_
    rw [i_max (by omega) (by omega)]
    refine zi_istore_n X dX7_bound_29 rfl (by decide) ?_
    refine zi_iinc (v := nI (t + 1)) X dX7_bound_30 rfl (nI_inc _) (by decide) ?_
    refine zi_goto (tgt := 12) X dX7_bound_33 (by decide) ?_
    exact zi_sub (by repeat (first | exact trivial | refine And.intro rfl ?_)) (ih (t + 1) (by omega))
/-- what refused answers -/
def rfs (Sl : Nat → Nat → Int) (a x k y l2 : Int32) (v : Nat) : Prop :=
  v = 1 ∧ ¬ inR a 5 ∨ v = 2 ∧ inR a 5 ∧ ¬ ptOk x k y l2 ∨ v = 3 ∧ ptOk x k y l2 ∧ (∃ i, i < 5 ∧ a = nI i ∧ stI (Sl i) 7 = 0) ∨ v = 4 ∧ ptOk x k y l2 ∧ ∃ i, i < 5 ∧ a = nI i ∧ stI (Sl i) 7 ≠ 0 ∧ ¬ noRt (Sl i) x k y l2
theorem u_refused (l : Launch) (D : va_G) (hu : rU cA M h o Sl kp cap n V P) (hb : slB Sl) (hz : ∀ i, i < 5 → evOk (Sl i)) {a x k y l2 : Int32} :
    mCi l yX7_refused cX7_refused 6 .int (rmd 4) D (mT cA) [.ref (M 3 0), .int a, .int x, .int k, .int y, .int l2] h (fun r h1 => (∃ v, 0 < v ∧ v < 5 ∧ r = nI v ∧ rfs Sl a x k y l2 v ∧ ∃ P', rU cA M h1 o Sl kp cap n V P' ∧ P' 7 = P 7) ∨ ∃ i, i < 5 ∧ a = nI i ∧ ptOk x k y l2 ∧ stI (Sl i) 7 ≠ 0 ∧ noRt (Sl i) x k y l2 ∧ r = nI 0 ∧ ∃ P', rU cA M h1 o Sl kp cap n V P' ∧ P' 7 = P 7 ∧ P' 6 = Sl i) := by
  have x1 := hu.2.1.1
  have x2 := hu.2.1.2.1
  refine mEnter_i (by decide) (Nat.le_of_ble_eq_true rfl) rfl (fun z X Vz => ?_)
  refine zi_iload_n X dX7_refused_0 rfl rfl ?_
  refine zi_callSi X (s_isSlot l D) kc_X7_isSlot wm_X7_228 wst_X7_isSlot ⟨Nat.le_of_ble_eq_true rfl, Nat.le_of_ble_eq_true rfl⟩ rfl rfl (Nat.le_of_ble_eq_true rfl) ⟨Nat.le_of_ble_eq_true rfl, Nat.le_of_ble_eq_true rfl⟩ dX7_refused_1 (fun r h1 hp => ?_)
  obtain ⟨rfl, ⟨q1, rfl⟩ | ⟨q1, rfl⟩⟩ := hp
  · obtain ⟨i, hi, rfl⟩ := q1
    have y3 := hu.2.1.2.2.1 i hi
    have f2 : ¬ ptOk x k y l2 → zM z 0 0 41 [some (.ref (M 3 0)), some (.int (nI i)), some (.int x), some (.int k), some (.int y), some (.int l2)] [] h1 := fun q => by
      refine zi_iconst (v := (nI 2)) X dX7_refused_41 (by decide) ?_
      refine zi_ireturn X Vz dX7_refused_42 ?_
      exact Or.inl ⟨2, by decide, by decide, rfl, Or.inr (Or.inl ⟨rfl, ⟨i, hi, rfl⟩, q⟩), P, hu, rfl⟩
    refine zi_if_ne (tgt := 9) X dX7_refused_4 (by decide) (fun c_4 => ?_) (fun c_4 => (by first | exact absurd (by decide) c_4 | exact absurd c_4 (by decide)))
    refine zi_iload_n X dX7_refused_9 rfl rfl ?_
    refine zi_iload_n X dX7_refused_10 rfl rfl ?_
    refine zi_callSi X (s_isPoint l D) kc_X7_isPoint wm_X7_259 wst_X7_isPoint ⟨Nat.le_of_ble_eq_true rfl, Nat.le_of_ble_eq_true rfl⟩ rfl rfl (Nat.le_of_ble_eq_true rfl) ⟨Nat.le_of_ble_eq_true rfl, Nat.le_of_ble_eq_true rfl⟩ dX7_refused_11 (fun r h2 hp => ?_)
    obtain ⟨rfl, ⟨c0, rfl⟩ | ⟨c0, rfl⟩⟩ := hp
    · refine zi_if_eq (tgt := 41) X dX7_refused_14 (by decide) (fun c_14 => (by first | exact absurd (by decide) c_14 | exact absurd c_14 (by decide))) (fun c_14 => ?_)
      refine zi_iload X dX7_refused_17 rfl ?_
      refine zi_iload X dX7_refused_19 rfl ?_
      refine zi_callSi X (s_isPoint l D) kc_X7_isPoint wm_X7_259 wst_X7_isPoint ⟨Nat.le_of_ble_eq_true rfl, Nat.le_of_ble_eq_true rfl⟩ rfl rfl (Nat.le_of_ble_eq_true rfl) ⟨Nat.le_of_ble_eq_true rfl, Nat.le_of_ble_eq_true rfl⟩ dX7_refused_21 (fun r h2 hp => ?_)
      obtain ⟨rfl, ⟨c1, rfl⟩ | ⟨c1, rfl⟩⟩ := hp
      · have c0' := c0
        have c1' := c1
        obtain ⟨hx, hk, ek⟩ := isPt_k c0
        obtain ⟨hy, hl2, el⟩ := isPt_k c1
        have sh1 : (x.toInt64 <<< (l2.toInt64 &&& 63)).toInt = x.toInt * 2 ^ l2.toInt.toNat := by
          conv => lhs; rw [el]
          exact l_shlI hx hl2
        have sh2 : (y.toInt64 <<< (k.toInt64 &&& 63)).toInt = y.toInt * 2 ^ k.toInt.toNat := by
          conv => lhs; rw [ek]
          exact l_shlI hy hk
        have cmp : lg_cmp (x.toInt64 <<< (l2.toInt64 &&& 63)) (y.toInt64 <<< (k.toInt64 &&& 63)) < 0 ↔ x.toInt * 2 ^ l2.toInt.toNat < y.toInt * 2 ^ k.toInt.toNat := by
          rw [lg_cmp_lt, fa_lt64, sh1, sh2]
        by_cases c2 : x.toInt * 2 ^ l2.toInt.toNat < y.toInt * 2 ^ k.toInt.toNat
        · have pt : ptOk x k y l2 := ⟨c0', c1', c2⟩
          refine zi_if_eq (tgt := 41) X dX7_refused_24 (by decide) (fun c_24 => (by first | exact absurd (by decide) c_24 | exact absurd c_24 (by decide))) (fun c_24 => ?_)
          refine zi_iload_n X dX7_refused_27 rfl rfl ?_
          refine zi_i2l X dX7_refused_28 ?_
          refine zi_iload X dX7_refused_29 rfl ?_
          refine zi_lshl X dX7_refused_31 ?_
          refine zi_iload X dX7_refused_32 rfl ?_
          refine zi_i2l X dX7_refused_34 ?_
          refine zi_iload_n X dX7_refused_35 rfl rfl ?_
          refine zi_lshl X dX7_refused_36 ?_
          refine zi_lcmp X dX7_refused_37 ?_
          refine zi_if_lt (tgt := 43) X dX7_refused_38 (by decide) (fun c_38 => ?_) (fun c_38 => (by first | exact absurd (cmp.mpr c2) c_38 | exact absurd c_38 (cmp.mpr c2)))
          refine zi_aload_n X dX7_refused_43 rfl rfl ?_
          refine zi_iload_n X dX7_refused_44 rfl rfl ?_
          refine zi_callVi X (u_isZero l D hu hi (fun t ht => hb i t hi ht)) kc_X7_isZero wm_X7_244 (by first | assumption | exact mup_self | (rw [mup_ne (by assumption)]; assumption) | (rw [mup_ne (by assumption)]; exact mup_self) | (rw [mup_ne (by assumption), mup_ne (by assumption)]; assumption)) rfl wim_X7_isZero wse_X7_isZero ⟨Nat.le_of_ble_eq_true rfl, Nat.le_of_ble_eq_true rfl⟩ rfl rfl (Nat.le_of_ble_eq_true rfl) ⟨Nat.le_of_ble_eq_true rfl, Nat.le_of_ble_eq_true rfl⟩ dX7_refused_45 (fun r h3 hp => ?_)
          obtain ⟨rfl, ⟨c3, rfl⟩ | ⟨c3, rfl⟩⟩ := hp
          · refine zi_if_eq (tgt := 53) X dX7_refused_48 (by decide) (fun c_48 => (by first | exact absurd (by decide) c_48 | exact absurd c_48 (by decide))) (fun c_48 => ?_)
            refine zi_iconst (v := (nI 3)) X dX7_refused_51 (by decide) ?_
            refine zi_ireturn X Vz dX7_refused_52 ?_
            exact Or.inl ⟨3, by decide, by decide, rfl, Or.inr (Or.inr (Or.inl ⟨rfl, pt, i, hi, rfl, c3⟩)), P, hu, rfl⟩
          · have ex := i32_i64 x
            have ey := i32_i64 y
            have pc := pC_9 (fun t ht => hb i t hi ht)
            refine zi_if_eq (tgt := 53) X dX7_refused_48 (by decide) (fun c_48 => ?_) (fun c_48 => (by first | exact absurd (by decide) c_48 | exact absurd c_48 (by decide)))
            refine zi_aload_n X dX7_refused_53 rfl rfl ?_
            refine zi_getf (C := RX7) (T := TX7) (N := 27) (ci := 11) X (by first | assumption | exact mup_self | (rw [mup_ne (by assumption)]; assumption) | (rw [mup_ne (by assumption)]; exact mup_self) | (rw [mup_ne (by assumption), mup_ne (by assumption)]; assumption)) rfl in_X7 1 (by decide) wf_X7_11 rfl rfl dX7_refused_54 ?_
            refine zi_iload_n X dX7_refused_57 rfl rfl ?_
            refine zi_aaldA X 4 (by first | assumption | exact mup_self | (rw [mup_ne (by assumption)]; assumption) | (rw [mup_ne (by assumption)]; exact mup_self) | (rw [mup_ne (by assumption), mup_ne (by assumption)]; assumption)) rfl (vin hi (by decide)) (sl4_at hi) dX7_refused_58 ?_
            refine zi_aload_n X dX7_refused_59 rfl rfl ?_
            refine zi_getf (C := RX7) (T := TX7) (N := 27) (ci := 11) X (by first | assumption | exact mup_self | (rw [mup_ne (by assumption)]; assumption) | (rw [mup_ne (by assumption)]; exact mup_self) | (rw [mup_ne (by assumption), mup_ne (by assumption)]; assumption)) rfl in_X7 17 (by decide) wf_X7_63 rfl rfl dX7_refused_60 ?_
            refine zi_callSv X (r_loadS l D hu.1 (j := 6) (by decide) y3 (fun t ht => hb i t hi ht)) kc_X7_load wm_X7_236 wst_X7_load ⟨Nat.le_of_ble_eq_true rfl, Nat.le_of_ble_eq_true rfl⟩ rfl rfl (Nat.le_of_ble_eq_true rfl) ⟨Nat.le_of_ble_eq_true rfl, Nat.le_of_ble_eq_true rfl⟩ dX7_refused_63 (fun h4 hp => ?_)
            obtain ⟨hf4, hq4⟩ := hp
            have hu4 := rU_n hu hf4 hq4
            have w1 := hu4.2.1.1
            have e6 : updP P 6 (Sl i) 6 = Sl i := updP_s
            have e7 : updP P 6 (Sl i) 7 = P 7 := updP_n (by decide)
            refine zi_aload_n X dX7_refused_66 rfl rfl ?_
            refine zi_aload_n X dX7_refused_67 rfl rfl ?_
            refine zi_getf (C := RX7) (T := TX7) (N := 27) (ci := 11) X (by first | assumption | exact mup_self | (rw [mup_ne (by assumption)]; assumption) | (rw [mup_ne (by assumption)]; exact mup_self) | (rw [mup_ne (by assumption), mup_ne (by assumption)]; assumption)) rfl in_X7 17 (by decide) wf_X7_63 rfl rfl dX7_refused_68 ?_
            refine zi_iload_n X dX7_refused_71 rfl rfl ?_
            refine zi_i2l X dX7_refused_72 ?_
            refine zi_iload_n X dX7_refused_73 rfl rfl ?_
            refine zi_eqs (st' := [.int (nI k.toInt.toNat), .long x.toInt64, .ref (M 1 6), .ref (M 3 0)]) (by rw [← ek]) ?_
            refine zi_callVi X (r_signAt l D w1 hu4.1 (j := 6) (by decide) (by rw [e6]; exact pc) (x := x.toInt64) (by rw [ex]; unfold CC; omega) (k := k.toInt.toNat) (by omega) (by rw [e6, ex]; exact hz i hi x.toInt _ (by omega) (by omega))) kc_X7_signAt wm_X7_263 (by first | assumption | exact mup_self | (rw [mup_ne (by assumption)]; assumption) | (rw [mup_ne (by assumption)]; exact mup_self) | (rw [mup_ne (by assumption), mup_ne (by assumption)]; assumption)) rfl wim_X7_signAt wse_X7_signAt ⟨Nat.le_of_ble_eq_true rfl, Nat.le_of_ble_eq_true rfl⟩ rfl rfl (Nat.le_of_ble_eq_true rfl) ⟨Nat.le_of_ble_eq_true rfl, Nat.le_of_ble_eq_true rfl⟩ dX7_refused_74 (fun r h5 hp => ?_)
            obtain ⟨hf5, hq5, rfl⟩ := hp
            have hu5 := rU_n hu4 hf5 hq5
            have v1 := hu5.2.1.1
            rw [e6, ex]
            have bad : ¬ noRt (Sl i) x k y l2 → ∀ hh, rU cA M hh o Sl kp cap n V (updP P 6 (Sl i)) → zM z 0 0 96 [some (.ref (M 3 0)), some (.int (nI i)), some (.int x), some (.int k), some (.int y), some (.int l2)] [] hh := fun q hh huh => by
              refine zi_iconst (v := (nI 4)) X dX7_refused_96 (by decide) ?_
              refine zi_goto (tgt := 101) X dX7_refused_97 (by decide) ?_
              refine zi_ireturn X Vz dX7_refused_101 ?_
              exact Or.inl ⟨4, by decide, by decide, rfl, Or.inr (Or.inr (Or.inr ⟨rfl, pt, i, hi, rfl, c3, q⟩)), _, huh, e7⟩
            by_cases z1 : sgnAt (Sl i) x.toInt k.toInt.toNat = 0
            · refine zi_if_eq (tgt := 96) X dX7_refused_77 (by decide) (fun c_77 => ?_) (fun c_77 => (by first | exact absurd (s3_0.mpr z1) c_77 | exact absurd c_77 (s3_0.mpr z1)))
              exact zi_sub (by repeat (first | exact trivial | refine And.intro rfl ?_)) (bad (fun q => q.1 z1) _ hu5)
            · refine zi_if_eq (tgt := 96) X dX7_refused_77 (by decide) (fun c_77 => (by first | exact absurd (fun q => z1 (s3_0.mp q)) c_77 | exact absurd c_77 (fun q => z1 (s3_0.mp q)))) (fun c_77 => ?_)
              refine zi_aload_n X dX7_refused_80 rfl rfl ?_
              refine zi_aload_n X dX7_refused_81 rfl rfl ?_
              refine zi_getf (C := RX7) (T := TX7) (N := 27) (ci := 11) X (by first | assumption | exact mup_self | (rw [mup_ne (by assumption)]; assumption) | (rw [mup_ne (by assumption)]; exact mup_self) | (rw [mup_ne (by assumption), mup_ne (by assumption)]; assumption)) rfl in_X7 17 (by decide) wf_X7_63 rfl rfl dX7_refused_82 ?_
              refine zi_iload X dX7_refused_85 rfl ?_
              refine zi_i2l X dX7_refused_87 ?_
              refine zi_iload X dX7_refused_88 rfl ?_
              refine zi_eqs (st' := [.int (nI l2.toInt.toNat), .long y.toInt64, .ref (M 1 6), .ref (M 3 0)]) (by rw [← el]) ?_
              refine zi_callVi X (r_signAt l D v1 hu5.1 (j := 6) (by decide) (by rw [e6]; exact pc) (x := y.toInt64) (by rw [ey]; unfold CC; omega) (k := l2.toInt.toNat) (by omega) (by rw [e6, ey]; exact hz i hi y.toInt _ (by omega) (by omega))) kc_X7_signAt wm_X7_263 (by first | assumption | exact mup_self | (rw [mup_ne (by assumption)]; assumption) | (rw [mup_ne (by assumption)]; exact mup_self) | (rw [mup_ne (by assumption), mup_ne (by assumption)]; assumption)) rfl wim_X7_signAt wse_X7_signAt ⟨Nat.le_of_ble_eq_true rfl, Nat.le_of_ble_eq_true rfl⟩ rfl rfl (Nat.le_of_ble_eq_true rfl) ⟨Nat.le_of_ble_eq_true rfl, Nat.le_of_ble_eq_true rfl⟩ dX7_refused_90 (fun r h6 hp => ?_)
              obtain ⟨hf6, hq6, rfl⟩ := hp
              have hu6 := rU_n hu5 hf6 hq6
              rw [e6, ey]
              by_cases z2 : sgnAt (Sl i) y.toInt l2.toInt.toNat = 0
              · refine zi_if_ne (tgt := 100) X dX7_refused_93 (by decide) (fun c_93 => (by first | exact absurd (s3_0.mpr z2) c_93 | exact absurd c_93 (s3_0.mpr z2))) (fun c_93 => ?_)
                exact zi_sub (by repeat (first | exact trivial | refine And.intro rfl ?_)) (bad (fun q => q.2 z2) _ hu6)
              · refine zi_if_ne (tgt := 100) X dX7_refused_93 (by decide) (fun c_93 => ?_) (fun c_93 => (by first | exact absurd (fun q => z2 (s3_0.mp q)) c_93 | exact absurd c_93 (fun q => z2 (s3_0.mp q))))
                refine zi_iconst (v := (nI 0)) X dX7_refused_100 (by decide) ?_
                refine zi_ireturn X Vz dX7_refused_101 ?_
                exact Or.inr ⟨i, hi, rfl, pt, c3, ⟨z1, z2⟩, rfl, _, hu6, e7, e6⟩
        · refine zi_if_eq (tgt := 41) X dX7_refused_24 (by decide) (fun c_24 => (by first | exact absurd (by decide) c_24 | exact absurd c_24 (by decide))) (fun c_24 => ?_)
          refine zi_iload_n X dX7_refused_27 rfl rfl ?_
          refine zi_i2l X dX7_refused_28 ?_
          refine zi_iload X dX7_refused_29 rfl ?_
          refine zi_lshl X dX7_refused_31 ?_
          refine zi_iload X dX7_refused_32 rfl ?_
          refine zi_i2l X dX7_refused_34 ?_
          refine zi_iload_n X dX7_refused_35 rfl rfl ?_
          refine zi_lshl X dX7_refused_36 ?_
          refine zi_lcmp X dX7_refused_37 ?_
          refine zi_if_lt (tgt := 43) X dX7_refused_38 (by decide) (fun c_38 => (by first | exact absurd (fun q => c2 (cmp.mp q)) c_38 | exact absurd c_38 (fun q => c2 (cmp.mp q)))) (fun c_38 => ?_)
          exact f2 (fun q => c2 q.2.2)
      · refine zi_if_eq (tgt := 41) X dX7_refused_24 (by decide) (fun c_24 => ?_) (fun c_24 => (by first | exact absurd (by decide) c_24 | exact absurd c_24 (by decide)))
        exact f2 (fun q => c1 q.2.1)
    · refine zi_if_eq (tgt := 41) X dX7_refused_14 (by decide) (fun c_14 => ?_) (fun c_14 => (by first | exact absurd (by decide) c_14 | exact absurd c_14 (by decide)))
      exact f2 (fun q => c0 q.1)
  · refine zi_if_ne (tgt := 9) X dX7_refused_4 (by decide) (fun c_4 => (by first | exact absurd (by decide) c_4 | exact absurd c_4 (by decide))) (fun c_4 => ?_)
    refine zi_iconst (v := (nI 1)) X dX7_refused_7 (by decide) ?_
    refine zi_ireturn X Vz dX7_refused_8 ?_
    exact Or.inl ⟨1, by decide, by decide, rfl, Or.inl ⟨rfl, q1⟩, P, hu, rfl⟩
theorem u_distinct (l : Launch) (D : va_G) (hu : rU cA M h o Sl kp cap n V P) {x y : Int32} {k l2 : Nat} (hk : k ≤ 12) (hl2 : l2 ≤ 12) (hx : x.toInt.natAbs ≤ 1000000) (hy : y.toInt.natAbs ≤ 1000000) (hok : dsOk (P 6) x.toInt k y.toInt l2) :
    mCi l yX7_distinct cX7_distinct 6 .int (rmd 9) D (mT cA) [.ref (M 3 0), .int x, .int (nI k), .int y, .int (nI l2)] h (fun r h1 => r = nI (dsN (P 6) x.toInt k y.toInt l2) ∧ ∃ P', rU cA M h1 o Sl kp cap n V P' ∧ P' 7 = P 7 ∧ P' 6 = P 6 ∧ P' 3 = gcR (P 6) (derI (P 6))) := by
  obtain ⟨ok1, ok2, ok3, ok4⟩ := hok
  have x1 := hu.2.1.1
  refine mEnter_i (by decide) (Nat.le_of_ble_eq_true rfl) rfl (fun z X Vz => ?_)
  refine zi_iload_n X dX7_distinct_0 rfl rfl ?_
  refine zi_iload X dX7_distinct_1 rfl ?_
  refine zi_mmax X wm_X7_117 (Nat.le_of_ble_eq_true rfl) (Nat.le_of_ble_eq_true rfl) ⟨(Nat.le_of_ble_eq_true rfl), (Nat.le_of_ble_eq_true rfl)⟩ dX7_distinct_3 ?_
  rw [nI_mx (by omega) (by omega)]
  refine zi_istore X dX7_distinct_6 (by decide) ?_
  refine zi_aload_n X dX7_distinct_8 rfl rfl ?_
  refine zi_aload_n X dX7_distinct_9 rfl rfl ?_
  refine zi_getf (C := RX7) (T := TX7) (N := 27) (ci := 11) X (by first | assumption | exact mup_self | (rw [mup_ne (by assumption)]; assumption) | (rw [mup_ne (by assumption)]; exact mup_self) | (rw [mup_ne (by assumption), mup_ne (by assumption)]; assumption)) rfl in_X7 17 (by decide) wf_X7_63 rfl rfl dX7_distinct_10 ?_
  refine zi_callVv X (r_findFree l D x1 hu.1 (j := 6) (by decide) (by decide) ok1) kc_X7_findFree wm_X7_247 (by first | assumption | exact mup_self | (rw [mup_ne (by assumption)]; assumption) | (rw [mup_ne (by assumption)]; exact mup_self) | (rw [mup_ne (by assumption), mup_ne (by assumption)]; assumption)) rfl wim_X7_findFree wse_X7_findFree ⟨Nat.le_of_ble_eq_true rfl, Nat.le_of_ble_eq_true rfl⟩ rfl rfl (Nat.le_of_ble_eq_true rfl) ⟨Nat.le_of_ble_eq_true rfl, Nat.le_of_ble_eq_true rfl⟩ dX7_distinct_13 (fun h2 hp => ?_)
  obtain ⟨hf2, Q, hq2, q3, q4, qk⟩ := hp
  have hu2 := rU_n hu hf2 hq2
  have w1 := hu2.2.1.1
  have w5 := hu2.2.1.2.2.2.2.1
  have w7 := hu2.2.1.2.2.2.2.2.2.1
  have m12 : max k l2 ≤ 12 := Nat.max_le.mpr ⟨hk, hl2⟩
  have ek : nI (max k l2) - nI k = nI (max k l2 - k) := by rw [pk_sub (Nat.le_max_left k l2)]
  have el : nI (max k l2) - nI l2 = nI (max k l2 - l2) := by rw [pk_sub (Nat.le_max_right k l2)]
  have bd := dsX_bd (k := k) (l := l2) hx hy hk hl2
  have hg : stI (Q 4) 7 = dsG (P 6) + 1 := by rw [q4]; unfold dsG; omega
  have tx : (x.toInt64 <<< ((nI (max k l2 - k)).toInt64 &&& 63)).toInt = dsX x.toInt k l2 := l_shlI hx (by omega)
  have ty : (y.toInt64 <<< ((nI (max k l2 - l2)).toInt64 &&& 63)).toInt = dsX y.toInt l2 k := by
    rw [l_shlI hy (by omega)]
    unfold dsX
    rw [Nat.max_comm]
  refine zi_aload_n X dX7_distinct_16 rfl rfl ?_
  refine zi_aload_n X dX7_distinct_17 rfl rfl ?_
  refine zi_getf (C := RX7) (T := TX7) (N := 27) (ci := 11) X (by first | assumption | exact mup_self | (rw [mup_ne (by assumption)]; assumption) | (rw [mup_ne (by assumption)]; exact mup_self) | (rw [mup_ne (by assumption), mup_ne (by assumption)]; assumption)) rfl in_X7 12 (by decide) wf_X7_45 rfl rfl dX7_distinct_18 ?_
  refine zi_iload_n X dX7_distinct_21 rfl rfl ?_
  refine zi_i2l X dX7_distinct_22 ?_
  refine zi_iload X dX7_distinct_23 rfl ?_
  refine zi_iload_n X dX7_distinct_25 rfl rfl ?_
  refine zi_isub X dX7_distinct_26 ?_
  refine zi_lshl X dX7_distinct_27 ?_
  refine zi_iload_n X dX7_distinct_28 rfl rfl ?_
  refine zi_i2l X dX7_distinct_29 ?_
  refine zi_iload X dX7_distinct_30 rfl ?_
  refine zi_iload X dX7_distinct_32 rfl ?_
  refine zi_isub X dX7_distinct_34 ?_
  refine zi_lshl X dX7_distinct_35 ?_
  refine zi_iload X dX7_distinct_36 rfl ?_
  rw [ek, el]
  refine zi_callVi X (r_between l D w1 hu2.1 w7 w5 (j := 4) (g := dsG (P 6)) (f := 159) (k := max k l2) (by decide) (by rw [q4]; exact ok2) hg (by omega) (by rw [tx]; exact bd.1) (by rw [tx, ty]; exact bd.2) (Nat.le_refl _) (by rw [tx, ty, q4]; exact ok4)) kc_X7_between wm_X7_267 (by first | assumption | exact mup_self | (rw [mup_ne (by assumption)]; assumption) | (rw [mup_ne (by assumption)]; exact mup_self) | (rw [mup_ne (by assumption), mup_ne (by assumption)]; assumption)) rfl wim_X7_between wse_X7_between ⟨Nat.le_of_ble_eq_true rfl, Nat.le_of_ble_eq_true rfl⟩ rfl rfl (Nat.le_of_ble_eq_true rfl) ⟨Nat.le_of_ble_eq_true rfl, Nat.le_of_ble_eq_true rfl⟩ dX7_distinct_38 (fun r h3 hp => ?_)
  obtain ⟨rfl, hf3, ⟨Q3, hq3, qk3⟩, hc3⟩ := hp
  have hu3 := rU_b hu2 hf3 hq3 hc3
  refine zi_ireturn X Vz dX7_distinct_41 ?_
  refine ⟨?_, Q3, hu3, by rw [qk3 7 (by decide) (by decide), qk 7 (by decide)], by rw [qk3 6 (by decide) (by decide), qk 6 (by decide)], by rw [qk3 3 (by decide) (by decide), q3]⟩
  rw [tx, ty, q4]
  rfl
end CN
