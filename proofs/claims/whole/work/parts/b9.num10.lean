/-! SturmRootsModel's numbers: the greatest common divisor -/
theorem cm_pos {x y : Int} : (0 : Int32) < cmI x y ↔ y < x := by
  unfold cmI
  by_cases c : x < y
  · rw [if_pos c]
    exact ⟨fun q => absurd q (by decide), fun q => by omega⟩
  · rw [if_neg c]
    by_cases e : x = y
    · rw [if_pos e]
      exact ⟨fun q => absurd q (by decide), fun q => by omega⟩
    · rw [if_neg e]
      exact ⟨fun _ => by omega, fun _ => by decide⟩
theorem cm_0 {x y : Int} : cmI x y = 0 ↔ x = y := by
  unfold cmI
  by_cases c : x < y
  · rw [if_pos c]
    exact ⟨fun q => absurd q (by decide), fun q => by omega⟩
  · rw [if_neg c]
    by_cases e : x = y
    · rw [if_pos e]
      exact ⟨fun _ => e, fun _ => rfl⟩
    · rw [if_neg e]
      exact ⟨fun q => absurd q (by decide), fun q => absurd q e⟩
theorem sg_0 {x : Int} : sgI x = 0 ↔ x = 0 := by
  unfold sgI
  by_cases c : x < 0
  · rw [if_pos c]
    exact ⟨fun q => absurd q (by decide), fun q => by omega⟩
  · rw [if_neg c]
    by_cases e : x = 0
    · rw [if_pos e]
      exact ⟨fun _ => e, fun _ => rfl⟩
    · rw [if_neg e]
      exact ⟨fun q => absurd q (by decide), fun q => absurd q e⟩
theorem tz_nat {x e : Nat} (h : tzI (x : Int) e) : ∃ y : Nat, y % 2 = 1 ∧ x = 2 ^ e * y ∧ (x : Int) / 2 ^ e = (y : Int) := by
  obtain ⟨q, hq⟩ := h
  have hp := tw_pos e
  have h0 : 0 ≤ 2 * q + 1 := by
    by_cases c : 2 * q + 1 < 0
    · exfalso
      have : 2 ^ e * (2 * q + 1) ≤ 2 ^ e * (-1) := Int.mul_le_mul_of_nonneg_left (by omega) (Int.le_of_lt hp)
      omega
    · omega
  refine ⟨(2 * q + 1).toNat, by omega, ?_, ?_⟩
  · apply Int.ofNat.inj
    show (x : Int) = ((2 ^ e * (2 * q + 1).toNat : Nat) : Int)
    rw [Int.natCast_mul, tw_c, Int.toNat_of_nonneg h0]
    exact hq
  · rw [hq, Int.mul_ediv_cancel_left _ (Int.ne_of_gt hp), Int.toNat_of_nonneg h0]
theorem gc_odd {e x y : Nat} (hy : y % 2 = 1) : Nat.gcd (2 ^ e * x) y = Nat.gcd x y := by
  refine Nat.Coprime.gcd_mul_left_cancel x (Nat.Coprime.pow_left e ?_)
  unfold Nat.Coprime
  rw [Nat.gcd_rec, hy]
  rfl
theorem gc_two {i k x y : Nat} (hx : x % 2 = 1) (hy : y % 2 = 1) : Nat.gcd (2 ^ i * x) (2 ^ k * y) = Nat.gcd x y * 2 ^ min i k := by
  rcases Nat.le_total i k with c | c
  · rw [Nat.min_eq_left c, show 2 ^ k = 2 ^ i * 2 ^ (k - i) by rw [← Nat.pow_add]; congr 1; omega, Nat.mul_assoc, Nat.gcd_mul_left, Nat.gcd_comm x, gc_odd hx, Nat.gcd_comm y, Nat.mul_comm]
  · rw [Nat.min_eq_right c, show 2 ^ i = 2 ^ k * 2 ^ (i - k) by rw [← Nat.pow_add]; congr 1; omega, Nat.mul_assoc, Nat.gcd_mul_left, gc_odd hy, Nat.mul_comm]
theorem cp_le {n m : Nat} (h : n ≤ m) : cp n ≤ cp m := by
  have e : cp m = cp n * cp (m - n) := by rw [← cp_add]; congr 1; omega
  have h2 := cp_pos (m - n)
  have := Int.mul_le_mul_of_nonneg_left (show 1 ≤ cp (m - n) by omega) (Int.le_of_lt (cp_pos n))
  rw [e]
  omega
def pH (h : mH) (c : ClassId) (a b : Nat) (x y : Int) : mH := mup (mup h a (nE c x)) b (nE c y)
theorem pH_a {h : mH} {c : ClassId} {a b : Nat} {x y : Int} (n : a ≠ b) : pH h c a b x y a = some (nE c x) := by unfold pH; rw [mup_ne n, mup_self]
theorem pH_b {h : mH} {c : ClassId} {a b : Nat} {x y : Int} : pH h c a b x y b = some (nE c y) := mup_self
theorem pH_ua {h : mH} {c : ClassId} {a b : Nat} {x y z : Int} (n : a ≠ b) : mup (pH h c a b x y) a (nE c z) = pH h c a b z y := by unfold pH; rw [mup_comm (fun q => n q.symm), mup_mup]
theorem pH_ub {h : mH} {c : ClassId} {a b : Nat} {x y z : Int} : mup (pH h c a b x y) b (nE c z) = pH h c a b x z := by unfold pH; rw [mup_mup]
theorem pH_of {h : mH} {c : ClassId} {a b : Nat} {x y : Int} (ha : h a = some (nE c x)) (hb : h b = some (nE c y)) : pH h c a b x y = h := by unfold pH; rw [mup_same ha, mup_same hb]
theorem nI_mx {a b : Nat} (ha : a < 2147483648) (hb : b < 2147483648) : (if nI a < nI b then nI b else nI a) = nI (max a b) := by
  by_cases c : a < b
  · rw [if_pos ((nI_ltI ha hb).mpr c), Nat.max_eq_right (by omega)]
  · rw [if_neg (fun q => c ((nI_ltI ha hb).mp q)), Nat.max_eq_left (by omega)]
section NUM10
variable {cA : Nat → ClassId} {h : mH} {a b : Nat}
/-- both odd: from the loop's head on -/
theorem n_divL (l : Launch) (D : va_G) (hab : a ≠ b) {z : mZ} {G i k : Nat} (hi : i < 1536) (hk : k < 1536)
    (X : zX z l D cX7_divisor yX7_divisor.cls (mT cA) 7 none (rmd 4) yX7_divisor.name)
    (Vz : zV z h (fun h1 => ∃ w : Nat, (w : Int) < cp 48 ∧ h1 = pH h (cA 0) a b ((G * 2 ^ min i k : Nat) : Int) w) 0 0) :
    ∀ N x y n : Nat, x + y ≤ N → x % 2 = 1 → y % 2 = 1 → Nat.gcd x y = G → n ≤ 48 → (x : Int) < cp n → (y : Int) < cp n → zM z 0 0 65 [some (.ref a), some (.ref b), some (.int (nI n)), some (.int (nI i)), some (.int (nI k)), some (.int (cmI x y)), none] [] (pH h (cA 0) a b x y) := by
  have hba : b ≠ a := fun q => hab q.symm
  intro N
  induction N with
  | zero => intro x y n hN hx hy; omega
  | succ N ih =>
    intro x y n hN hx hy hG hn xn yn
    have x48 : (x : Int) < cp 48 := by have := cp_le hn; omega
    have y48 : (y : Int) < cp 48 := by have := cp_le hn; omega
    -- the two numbers' places shrink
    have shrink : ∀ x y : Nat, x + y ≤ N → x % 2 = 1 → y % 2 = 1 → Nat.gcd x y = G → ∀ n : Nat, n ≤ 48 → (x : Int) < cp n → (y : Int) < cp n → zM z 0 0 109 [some (.ref a), some (.ref b), some (.int (nI n)), some (.int (nI i)), some (.int (nI k)), none, none] [] (pH h (cA 0) a b x y) := by
      intro x y hN hx hy hG n
      have out : n ≤ 48 → (x : Int) < cp n → (y : Int) < cp n → zM z 0 0 136 [some (.ref a), some (.ref b), some (.int (nI n)), some (.int (nI i)), some (.int (nI k)), none, none] [] (pH h (cA 0) a b x y) := fun hn xn yn => by
        refine zi_aload_n X dX7_divisor_136 rfl rfl ?_
        refine zi_aload_n X dX7_divisor_137 rfl rfl ?_
        refine zi_iload_n X dX7_divisor_138 rfl rfl ?_
        refine zi_callSi X (n_compare l D (pH_a hab) pH_b hn (by omega) (by omega) xn yn) kc_X7_compare wm_X7_130 wst_X7_compare ⟨Nat.le_of_ble_eq_true rfl, Nat.le_of_ble_eq_true rfl⟩ rfl rfl (Nat.le_of_ble_eq_true rfl) ⟨by decide, by decide⟩ dX7_divisor_139 (fun r h1 hp => ?_)
        obtain ⟨rfl, rfl⟩ := hp
        refine zi_istore X dX7_divisor_142 (by decide) ?_
        refine zi_goto (tgt := 65) X dX7_divisor_144 (by decide) ?_
        exact zi_sub (by repeat (first | exact trivial | refine And.intro rfl ?_)) (ih x y n hN hx hy hG hn xn yn)
      induction n with
      | zero => intro _ xn; rw [cp_0] at xn; omega
      | succ n ihn =>
        intro hn xn yn
        by_cases c1 : n = 0
        · refine zi_iload_n X dX7_divisor_109 rfl rfl ?_
          refine zi_iconst (v := (nI 1)) X dX7_divisor_110 (by decide) ?_
          refine zi_icmp_le (tgt := 136) X dX7_divisor_111 (by decide) (fun c_111 => ?_) (fun c_111 => (by first | exact absurd (by rw [c1]; decide) c_111 | exact absurd c_111 (by rw [c1]; decide)))
          exact out hn xn yn
        · refine zi_iload_n X dX7_divisor_109 rfl rfl ?_
          refine zi_iconst (v := (nI 1)) X dX7_divisor_110 (by decide) ?_
          refine zi_icmp_le (tgt := 136) X dX7_divisor_111 (by decide) (fun c_111 => (by first | exact absurd (fun q => by have := (nI_leI (a := n + 1) (b := 1) (by omega) (by decide)).mp q; omega) c_111 | exact absurd c_111 (fun q => by have := (nI_leI (a := n + 1) (b := 1) (by omega) (by decide)).mp q; omega))) (fun c_111 => ?_)
          refine zi_aload_n X dX7_divisor_114 rfl rfl ?_
          refine zi_iload_n X dX7_divisor_115 rfl rfl ?_
          refine zi_iconst (v := (nI 1)) X dX7_divisor_116 (by decide) ?_
          refine zi_isub X dX7_divisor_117 ?_
          refine zi_iald X 0 (pH_a hab) rfl (by rw [nI_pr]; exact vin (show n < 48 by omega) (by decide)) dX7_divisor_118 ?_
          refine zi_if_ne (tgt := 136) X dX7_divisor_119 (by decide) (fun c_119 => ?_) (fun c_119 => ?_)
          · exact out hn xn yn
          · rw [nI_pr, nf_rd (by omega)] at c_119
            have z1 : nd x n = 0 := by
              by_cases q : nd x n = 0
              · exact q
              · exact absurd c_119 (fun w => q ((nI_0d (nd_lt _ _)).mp w))
            refine zi_aload_n X dX7_divisor_122 rfl rfl ?_
            refine zi_iload_n X dX7_divisor_123 rfl rfl ?_
            refine zi_iconst (v := (nI 1)) X dX7_divisor_124 (by decide) ?_
            refine zi_isub X dX7_divisor_125 ?_
            refine zi_iald X 0 pH_b rfl (by rw [nI_pr]; exact vin (show n < 48 by omega) (by decide)) dX7_divisor_126 ?_
            refine zi_if_ne (tgt := 136) X dX7_divisor_127 (by decide) (fun c_127 => ?_) (fun c_127 => ?_)
            · exact out hn xn yn
            · rw [nI_pr, nf_rd (by omega)] at c_127
              have z2 : nd y n = 0 := by
                by_cases q : nd y n = 0
                · exact q
                · exact absurd c_127 (fun w => q ((nI_0d (nd_lt _ _)).mp w))
              refine zi_iinc (v := nI (n)) X dX7_divisor_130 rfl (nI_dec _) (by decide) ?_
              refine zi_goto (tgt := 109) X dX7_divisor_133 (by decide) ?_
              refine zi_sub (by repeat (first | exact trivial | refine And.intro rfl ?_)) (ihn (fun hn xn yn => ?_) (by omega) (nd_0top (by omega) (Nat.le_succ n) xn (fun j h1 h2 => by rw [show j = n by omega]; exact z1)) (nd_0top (by omega) (Nat.le_succ n) yn (fun j h1 h2 => by rw [show j = n by omega]; exact z2)))
              refine zi_aload_n X dX7_divisor_136 rfl rfl ?_
              refine zi_aload_n X dX7_divisor_137 rfl rfl ?_
              refine zi_iload_n X dX7_divisor_138 rfl rfl ?_
              refine zi_callSi X (n_compare l D (pH_a hab) pH_b hn (by omega) (by omega) xn yn) kc_X7_compare wm_X7_130 wst_X7_compare ⟨Nat.le_of_ble_eq_true rfl, Nat.le_of_ble_eq_true rfl⟩ rfl rfl (Nat.le_of_ble_eq_true rfl) ⟨by decide, by decide⟩ dX7_divisor_139 (fun r h1 hp => ?_)
              obtain ⟨rfl, rfl⟩ := hp
              refine zi_istore X dX7_divisor_142 (by decide) ?_
              refine zi_goto (tgt := 65) X dX7_divisor_144 (by decide) ?_
              exact zi_sub (by repeat (first | exact trivial | refine And.intro rfl ?_)) (ih x y n hN hx hy hG hn xn yn)
    by_cases ce : x = y
    · refine zi_iload X dX7_divisor_65 rfl ?_
      refine zi_if_eq (tgt := 147) X dX7_divisor_67 (by decide) (fun c_67 => ?_) (fun c_67 => (by first | exact absurd (cm_0.mpr (by rw [ce])) c_67 | exact absurd c_67 (cm_0.mpr (by rw [ce]))))
      refine zi_aload_n X dX7_divisor_147 rfl rfl ?_
      refine zi_iload_n X dX7_divisor_148 rfl rfl ?_
      refine zi_iload X dX7_divisor_149 rfl ?_
      refine zi_mmin X wm_X7_138 (Nat.le_of_ble_eq_true rfl) (Nat.le_of_ble_eq_true rfl) ⟨(Nat.le_of_ble_eq_true rfl), (Nat.le_of_ble_eq_true rfl)⟩ dX7_divisor_151 ?_
      have e : (if nI k < nI i then nI k else nI i) = nI (min i k) := by
        by_cases c : k < i
        · rw [if_pos ((nI_ltI (by omega) (by omega)).mpr c), Nat.min_eq_right (by omega)]
        · rw [if_neg (fun q => c ((nI_ltI (by omega) (by omega)).mp q)), Nat.min_eq_left (by omega)]
      rw [e]
      refine zi_callSv X (n_left l D (pH_a hab) (B := min i k) (by omega)) kc_X7_left wm_X7_141 wst_X7_left ⟨Nat.le_of_ble_eq_true rfl, Nat.le_of_ble_eq_true rfl⟩ rfl rfl (Nat.le_of_ble_eq_true rfl) ⟨Nat.le_of_ble_eq_true rfl, Nat.le_of_ble_eq_true rfl⟩ dX7_divisor_154 (fun h1 hp => ?_)
      subst hp
      refine zi_return X Vz dX7_divisor_157 ?_
      refine ⟨y, y48, ?_⟩
      rw [pH_ua hab]
      have : (x : Int) * 2 ^ min i k = ((G * 2 ^ min i k : Nat) : Int) := by
        rw [← hG, ce, Nat.gcd_self, Int.natCast_mul, tw_c]
      rw [this]
    · have ne0 : ¬ cmI (x : Int) y = 0 := fun q => ce (by have := cm_0.mp q; omega)
      by_cases cl : y < x
      · have hp : (0 : Int32) < cmI (x : Int) y := cm_pos.mpr (by omega)
        refine zi_iload X dX7_divisor_65 rfl ?_
        refine zi_if_eq (tgt := 147) X dX7_divisor_67 (by decide) (fun c_67 => (by first | exact absurd ne0 c_67 | exact absurd c_67 ne0)) (fun c_67 => ?_)
        refine zi_iload X dX7_divisor_70 rfl ?_
        refine zi_if_le (tgt := 79) X dX7_divisor_72 (by decide) (fun c_72 => (by first | exact absurd (Int32.not_le.mpr hp) c_72 | exact absurd c_72 (Int32.not_le.mpr hp))) (fun c_72 => ?_)
        refine zi_aload_n X dX7_divisor_75 rfl rfl ?_
        refine zi_goto (tgt := 80) X dX7_divisor_76 (by decide) ?_
        refine zi_astore X dX7_divisor_80 (by decide) ?_
        refine zi_aload X dX7_divisor_82 rfl ?_
        refine zi_iload X dX7_divisor_84 rfl ?_
        refine zi_if_le (tgt := 93) X dX7_divisor_86 (by decide) (fun c_86 => (by first | exact absurd (Int32.not_le.mpr hp) c_86 | exact absurd c_86 (Int32.not_le.mpr hp))) (fun c_86 => ?_)
        refine zi_aload_n X dX7_divisor_89 rfl rfl ?_
        refine zi_goto (tgt := 94) X dX7_divisor_90 (by decide) ?_
        refine zi_iload_n X dX7_divisor_94 rfl rfl ?_
        refine zi_callSv X (n_less l D (pH_a hab) pH_b hba hn (Or.inr ⟨by omega, by omega, xn⟩)) kc_X7_less wm_X7_134 wst_X7_less ⟨Nat.le_of_ble_eq_true rfl, Nat.le_of_ble_eq_true rfl⟩ rfl rfl (Nat.le_of_ble_eq_true rfl) ⟨Nat.le_of_ble_eq_true rfl, Nat.le_of_ble_eq_true rfl⟩ dX7_divisor_95 (fun h1 hp => ?_)
        subst hp
        rw [pH_ua hab, show (x : Int) - y = ((x - y : Nat) : Int) by omega]
        refine zi_aload X dX7_divisor_98 rfl ?_
        refine zi_aload X dX7_divisor_100 rfl ?_
        refine zi_callSi X (n_zeros l D (pH_a hab) (by omega) (by omega)) kc_X7_zeros wm_X7_123 wst_X7_zeros ⟨Nat.le_of_ble_eq_true rfl, Nat.le_of_ble_eq_true rfl⟩ rfl rfl (Nat.le_of_ble_eq_true rfl) ⟨by decide, by decide⟩ dX7_divisor_102 (fun r h1 hp => ?_)
        obtain ⟨rfl, e, he, rfl, ht⟩ := hp
        obtain ⟨x2, hx2, e2, e3⟩ := tz_nat ht
        refine zi_iload_n X dX7_divisor_105 rfl rfl ?_
        refine zi_callSv X (n_right l D (pH_a hab) (B := e) (n := n) (by omega) hn (by omega) (by omega)) kc_X7_right wm_X7_126 wst_X7_right ⟨Nat.le_of_ble_eq_true rfl, Nat.le_of_ble_eq_true rfl⟩ rfl rfl (Nat.le_of_ble_eq_true rfl) ⟨Nat.le_of_ble_eq_true rfl, Nat.le_of_ble_eq_true rfl⟩ dX7_divisor_106 (fun h1 hp => ?_)
        subst hp
        rw [pH_ua hab, e3]
        have hp2 : 0 < 2 ^ e := Nat.two_pow_pos e
        have hle : x2 ≤ x - y := by rw [e2]; exact Nat.le_mul_of_pos_left _ hp2
        refine zi_sub (by repeat (first | exact trivial | refine And.intro rfl ?_)) (shrink x2 y (by omega) hx2 hy ?_ n hn (by omega) yn)
        rw [← hG, ← gc_odd (e := e) hy, ← e2, Nat.gcd_sub_self_left (by omega)]
      · have hp : ¬ (0 : Int32) < cmI (x : Int) y := fun q => cl (by have := cm_pos.mp q; omega)
        refine zi_iload X dX7_divisor_65 rfl ?_
        refine zi_if_eq (tgt := 147) X dX7_divisor_67 (by decide) (fun c_67 => (by first | exact absurd ne0 c_67 | exact absurd c_67 ne0)) (fun c_67 => ?_)
        refine zi_iload X dX7_divisor_70 rfl ?_
        refine zi_if_le (tgt := 79) X dX7_divisor_72 (by decide) (fun c_72 => ?_) (fun c_72 => (by first | exact absurd (Int32.not_lt.mp hp) c_72 | exact absurd c_72 (Int32.not_lt.mp hp)))
        refine zi_aload_n X dX7_divisor_79 rfl rfl ?_
        refine zi_astore X dX7_divisor_80 (by decide) ?_
        refine zi_aload X dX7_divisor_82 rfl ?_
        refine zi_iload X dX7_divisor_84 rfl ?_
        refine zi_if_le (tgt := 93) X dX7_divisor_86 (by decide) (fun c_86 => ?_) (fun c_86 => (by first | exact absurd (Int32.not_lt.mp hp) c_86 | exact absurd c_86 (Int32.not_lt.mp hp)))
        refine zi_aload_n X dX7_divisor_93 rfl rfl ?_
        refine zi_iload_n X dX7_divisor_94 rfl rfl ?_
        refine zi_callSv X (n_less l D pH_b (pH_a hab) hab hn (Or.inr ⟨by omega, by omega, yn⟩)) kc_X7_less wm_X7_134 wst_X7_less ⟨Nat.le_of_ble_eq_true rfl, Nat.le_of_ble_eq_true rfl⟩ rfl rfl (Nat.le_of_ble_eq_true rfl) ⟨Nat.le_of_ble_eq_true rfl, Nat.le_of_ble_eq_true rfl⟩ dX7_divisor_95 (fun h1 hp => ?_)
        subst hp
        rw [pH_ub, show (y : Int) - x = ((y - x : Nat) : Int) by omega]
        refine zi_aload X dX7_divisor_98 rfl ?_
        refine zi_aload X dX7_divisor_100 rfl ?_
        refine zi_callSi X (n_zeros l D pH_b (by omega) (by omega)) kc_X7_zeros wm_X7_123 wst_X7_zeros ⟨Nat.le_of_ble_eq_true rfl, Nat.le_of_ble_eq_true rfl⟩ rfl rfl (Nat.le_of_ble_eq_true rfl) ⟨by decide, by decide⟩ dX7_divisor_102 (fun r h1 hp => ?_)
        obtain ⟨rfl, e, he, rfl, ht⟩ := hp
        obtain ⟨y2, hy2, e2, e3⟩ := tz_nat ht
        refine zi_iload_n X dX7_divisor_105 rfl rfl ?_
        refine zi_callSv X (n_right l D pH_b (B := e) (n := n) (by omega) hn (by omega) (by omega)) kc_X7_right wm_X7_126 wst_X7_right ⟨Nat.le_of_ble_eq_true rfl, Nat.le_of_ble_eq_true rfl⟩ rfl rfl (Nat.le_of_ble_eq_true rfl) ⟨Nat.le_of_ble_eq_true rfl, Nat.le_of_ble_eq_true rfl⟩ dX7_divisor_106 (fun h1 hp => ?_)
        subst hp
        rw [pH_ub, e3]
        have hp2 : 0 < 2 ^ e := Nat.two_pow_pos e
        have hle : y2 ≤ y - x := by rw [e2]; exact Nat.le_mul_of_pos_left _ hp2
        refine zi_sub (by repeat (first | exact trivial | refine And.intro rfl ?_)) (shrink x y2 (by omega) hx hy2 ?_ n hn xn (by omega))
        rw [← hG, Nat.gcd_comm, ← gc_odd (e := e) hx, ← e2, Nat.gcd_sub_self_left (by omega), Nat.gcd_comm]
theorem n_divisor (l : Launch) (D : va_G) {x y : Nat} (ha : h a = some (nE (cA 0) x)) (hb : h b = some (nE (cA 0) y)) (hab : a ≠ b) (hx : nB x) (hy : nB y) :
    mCv l yX7_divisor cX7_divisor 7 (rmd 4) D (mT cA) [.ref a, .ref b] h (fun h1 => ∃ w : Nat, (w : Int) < cp 48 ∧ h1 = pH h (cA 0) a b ((Nat.gcd x y : Nat) : Int) w) := by
  have hba : b ≠ a := fun q => hab q.symm
  have x48 := nB_p hx (by omega)
  have y48 := nB_p hy (by omega)
  refine mEnter_v (by decide) (Nat.le_of_ble_eq_true rfl) rfl (fun z X Vz => ?_)
  refine zi_aload_n X dX7_divisor_0 rfl rfl ?_
  refine zi_callSi X (n_sign l D hb hy) kc_X7_sign wm_X7_110 wst_X7_sign ⟨Nat.le_of_ble_eq_true rfl, Nat.le_of_ble_eq_true rfl⟩ rfl rfl (Nat.le_of_ble_eq_true rfl) ⟨Nat.le_of_ble_eq_true rfl, Nat.le_of_ble_eq_true rfl⟩ dX7_divisor_1 (fun r h1 hp => ?_)
  obtain ⟨rfl, rfl⟩ := hp
  by_cases y0 : y = 0
  · refine zi_if_ne (tgt := 8) X dX7_divisor_4 (by decide) (fun c_4 => (by first | exact absurd (sg_0.mpr (by omega)) c_4 | exact absurd c_4 (sg_0.mpr (by omega)))) (fun c_4 => ?_)
    refine zi_return X Vz dX7_divisor_7 ?_
    exact ⟨y, y48, by rw [show Nat.gcd x y = x by rw [y0, Nat.gcd_zero_right], pH_of ha hb]⟩
  refine zi_if_ne (tgt := 8) X dX7_divisor_4 (by decide) (fun c_4 => ?_) (fun c_4 => (by first | exact absurd (fun q => y0 (by have := sg_0.mp q; omega)) c_4 | exact absurd c_4 (fun q => y0 (by have := sg_0.mp q; omega))))
  refine zi_aload_n X dX7_divisor_8 rfl rfl ?_
  refine zi_callSi X (n_sign l D ha hx) kc_X7_sign wm_X7_110 wst_X7_sign ⟨Nat.le_of_ble_eq_true rfl, Nat.le_of_ble_eq_true rfl⟩ rfl rfl (Nat.le_of_ble_eq_true rfl) ⟨Nat.le_of_ble_eq_true rfl, Nat.le_of_ble_eq_true rfl⟩ dX7_divisor_9 (fun r h1 hp => ?_)
  obtain ⟨rfl, rfl⟩ := hp
  by_cases x0 : x = 0
  · refine zi_if_ne (tgt := 21) X dX7_divisor_12 (by decide) (fun c_12 => (by first | exact absurd (sg_0.mpr (by omega)) c_12 | exact absurd c_12 (sg_0.mpr (by omega)))) (fun c_12 => ?_)
    refine zi_aload_n X dX7_divisor_15 rfl rfl ?_
    refine zi_aload_n X dX7_divisor_16 rfl rfl ?_
    refine zi_callSv X (n_copy l D hb ha hba) kc_X7_copy wm_X7_113 wst_X7_copy ⟨Nat.le_of_ble_eq_true rfl, Nat.le_of_ble_eq_true rfl⟩ rfl rfl (Nat.le_of_ble_eq_true rfl) ⟨Nat.le_of_ble_eq_true rfl, Nat.le_of_ble_eq_true rfl⟩ dX7_divisor_17 (fun h1 hp => ?_)
    subst hp
    refine zi_return X Vz dX7_divisor_20 ?_
    refine ⟨y, y48, ?_⟩
    rw [x0, Nat.gcd_zero_left]
    unfold pH
    exact (mup_same (by rw [mup_ne hba]; exact hb)).symm
  refine zi_if_ne (tgt := 21) X dX7_divisor_12 (by decide) (fun c_12 => ?_) (fun c_12 => (by first | exact absurd (fun q => x0 (by have := sg_0.mp q; omega)) c_12 | exact absurd c_12 (fun q => x0 (by have := sg_0.mp q; omega))))
  refine zi_aload_n X dX7_divisor_21 rfl rfl ?_
  refine zi_callSi X (n_ints l D ha) kc_X7_ints wm_X7_97 wst_X7_ints ⟨Nat.le_of_ble_eq_true rfl, Nat.le_of_ble_eq_true rfl⟩ rfl rfl (Nat.le_of_ble_eq_true rfl) ⟨Nat.le_of_ble_eq_true rfl, Nat.le_of_ble_eq_true rfl⟩ dX7_divisor_22 (fun r h1 hp => ?_)
  obtain ⟨rfl, rfl⟩ := hp
  refine zi_aload_n X dX7_divisor_25 rfl rfl ?_
  refine zi_callSi X (n_ints l D hb) kc_X7_ints wm_X7_97 wst_X7_ints ⟨Nat.le_of_ble_eq_true rfl, Nat.le_of_ble_eq_true rfl⟩ rfl rfl (Nat.le_of_ble_eq_true rfl) ⟨Nat.le_of_ble_eq_true rfl, Nat.le_of_ble_eq_true rfl⟩ dX7_divisor_26 (fun r h1 hp => ?_)
  obtain ⟨rfl, rfl⟩ := hp
  have lx := nzl_le (x : Int)
  have ly := nzl_le (y : Int)
  have bx := nzl_lt (v := (x : Int)) (by omega) x48
  have by_ := nzl_lt (v := (y : Int)) (by omega) y48
  refine zi_mmax X wm_X7_117 (Nat.le_of_ble_eq_true rfl) (Nat.le_of_ble_eq_true rfl) ⟨(Nat.le_of_ble_eq_true rfl), (Nat.le_of_ble_eq_true rfl)⟩ dX7_divisor_29 ?_
  refine zi_istore_n X dX7_divisor_32 rfl (by decide) ?_
  refine zi_aload_n X dX7_divisor_33 rfl rfl ?_
  rw [nI_mx (by omega) (by omega)]
  have cx := cp_le (Nat.le_max_left (nzl (x : Int)) (nzl (y : Int)))
  have cy := cp_le (Nat.le_max_right (nzl (x : Int)) (nzl (y : Int)))
  have hn : max (nzl (x : Int)) (nzl (y : Int)) ≤ 48 := Nat.max_le.mpr ⟨lx, ly⟩
  generalize hnn : max (nzl (x : Int)) (nzl (y : Int)) = n at *
  refine zi_callSi X (n_zeros l D ha (by omega) x48) kc_X7_zeros wm_X7_123 wst_X7_zeros ⟨Nat.le_of_ble_eq_true rfl, Nat.le_of_ble_eq_true rfl⟩ rfl rfl (Nat.le_of_ble_eq_true rfl) ⟨Nat.le_of_ble_eq_true rfl, Nat.le_of_ble_eq_true rfl⟩ dX7_divisor_34 (fun r h1 hp => ?_)
  obtain ⟨rfl, i, hi, rfl, ti⟩ := hp
  obtain ⟨x2, hx2, e2, e3⟩ := tz_nat ti
  refine zi_istore_n X dX7_divisor_37 rfl (by decide) ?_
  refine zi_aload_n X dX7_divisor_38 rfl rfl ?_
  refine zi_callSi X (n_zeros l D hb (by omega) y48) kc_X7_zeros wm_X7_123 wst_X7_zeros ⟨Nat.le_of_ble_eq_true rfl, Nat.le_of_ble_eq_true rfl⟩ rfl rfl (Nat.le_of_ble_eq_true rfl) ⟨Nat.le_of_ble_eq_true rfl, Nat.le_of_ble_eq_true rfl⟩ dX7_divisor_39 (fun r h1 hp => ?_)
  obtain ⟨rfl, k, hk, rfl, tk⟩ := hp
  obtain ⟨y2, hy2, f2, f3⟩ := tz_nat tk
  refine zi_istore X dX7_divisor_42 (by decide) ?_
  refine zi_aload_n X dX7_divisor_44 rfl rfl ?_
  refine zi_iload_n X dX7_divisor_45 rfl rfl ?_
  refine zi_iload_n X dX7_divisor_46 rfl rfl ?_
  refine zi_callSv X (n_right l D ha (B := i) (n := n) (by omega) hn (by omega) (by omega)) kc_X7_right wm_X7_126 wst_X7_right ⟨Nat.le_of_ble_eq_true rfl, Nat.le_of_ble_eq_true rfl⟩ rfl rfl (Nat.le_of_ble_eq_true rfl) ⟨Nat.le_of_ble_eq_true rfl, Nat.le_of_ble_eq_true rfl⟩ dX7_divisor_47 (fun h1 hp => ?_)
  subst hp
  rw [e3]
  refine zi_aload_n X dX7_divisor_50 rfl rfl ?_
  refine zi_iload X dX7_divisor_51 rfl ?_
  refine zi_iload_n X dX7_divisor_53 rfl rfl ?_
  refine zi_callSv X (n_right l D (show mup _ a (nE (cA 0) (x2 : Int)) b = some (nE (cA 0) (y : Int)) by rw [mup_ne hba]; exact hb) (B := k) (n := n) (by omega) hn (by omega) (by omega)) kc_X7_right wm_X7_126 wst_X7_right ⟨Nat.le_of_ble_eq_true rfl, Nat.le_of_ble_eq_true rfl⟩ rfl rfl (Nat.le_of_ble_eq_true rfl) ⟨Nat.le_of_ble_eq_true rfl, Nat.le_of_ble_eq_true rfl⟩ dX7_divisor_54 (fun h1 hp => ?_)
  subst hp
  rw [f3]
  have p1 : 0 < 2 ^ i := Nat.two_pow_pos i
  have p2 : 0 < 2 ^ k := Nat.two_pow_pos k
  have le1 : x2 ≤ x := by rw [e2]; exact Nat.le_mul_of_pos_left _ p1
  have le2 : y2 ≤ y := by rw [f2]; exact Nat.le_mul_of_pos_left _ p2
  refine zi_eqh (h' := pH _ (cA 0) a b x2 y2) rfl ?_
  refine zi_aload_n X dX7_divisor_57 rfl rfl ?_
  refine zi_aload_n X dX7_divisor_58 rfl rfl ?_
  refine zi_iload_n X dX7_divisor_59 rfl rfl ?_
  refine zi_callSi X (n_compare l D (pH_a hab) pH_b hn (by omega) (by omega) (show (x2 : Int) < cp n by omega) (show (y2 : Int) < cp n by omega)) kc_X7_compare wm_X7_130 wst_X7_compare ⟨Nat.le_of_ble_eq_true rfl, Nat.le_of_ble_eq_true rfl⟩ rfl rfl (Nat.le_of_ble_eq_true rfl) ⟨Nat.le_of_ble_eq_true rfl, Nat.le_of_ble_eq_true rfl⟩ dX7_divisor_60 (fun r h1 hp => ?_)
  obtain ⟨rfl, rfl⟩ := hp
  refine zi_istore X dX7_divisor_63 (by decide) ?_
  refine zi_sub (by repeat (first | exact trivial | refine And.intro rfl ?_)) (n_divL l D hab (G := Nat.gcd x2 y2) hi hk X ?_ (x2 + y2) x2 y2 n (Nat.le_refl _) hx2 hy2 rfl hn (by omega) (by omega))
  have eg : Nat.gcd x y = Nat.gcd x2 y2 * 2 ^ min i k := by
    conv => lhs; rw [e2, f2]
    exact gc_two hx2 hy2
  rw [← eg]
  exact Vz
end NUM10
