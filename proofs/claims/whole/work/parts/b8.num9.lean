/-! SturmRootsModel's numbers: multiply -/
/-- one place of a row of a product -/
theorem nd_row (W vb : Int) (x : Nat) (i k : Nat) :
    (nd (W + cp i * (x * vb)) (i + k) : Int) = ((W % cp (i + k) + cp i * (x * (vb % cp k))) / cp (i + k) + ((nd W (i + k) : Int) + x * nd vb k)) % (CC : Int) ∧ (W % cp (i + k + 1) + cp i * (x * (vb % cp (k + 1)))) / cp (i + k + 1) = ((W % cp (i + k) + cp i * (x * (vb % cp k))) / cp (i + k) + ((nd W (i + k) : Int) + x * nd vb k)) / (CC : Int) := by
  obtain ⟨p, hp⟩ := nd_q W (i + k)
  obtain ⟨q, hq⟩ := nd_q vb k
  have h1 := nm_q W (i + k)
  have h2 := nm_q vb k
  have e := cp_add i k
  have := nd_step (w := W + cp i * (x * vb)) (S := W % cp (i + k) + cp i * (x * (vb % cp k))) (Z := W / cp (i + k) + x * (vb / cp k)) (T := (nd W (i + k) : Int) + x * nd vb k) (k := i + k) (by
    generalize vb % cp k = r at *
    generalize vb / cp k = s at *
    generalize W / cp (i + k) = u at *
    generalize W % cp (i + k) = v at *
    rw [h1, h2, e]
    grind) ⟨p + x * q, by rw [hp, hq]; grind⟩
  refine ⟨this.1, ?_⟩
  rw [← this.2, nm_s W, nm_s vb]
  congr 1
  rw [e]
  grind
theorem fmx_cg {w v : Int} {i : Nat} (h : ∃ q, w = v + cp i * q) : fmx w v i = nf v := funext fun j => by
  unfold fmx
  by_cases c : j < i
  · rw [if_pos c]
    by_cases q : j < 48
    · rw [nf_at q, nf_at q, nd_cong c h]
    · rw [nf_z q, nf_z q]
  · rw [if_neg c]
section NUM9
variable {cA : Nat → ClassId} {h : mH} {a b c : Nat} {va vb vc : Int}
theorem n_multiply (l : Launch) (D : va_G) (ha : h a = some (nE (cA 0) va)) (hb : h b = some (nE (cA 0) vb)) (hc : h c = some (nE (cA 0) vc)) (hac : a ≠ c) (hbc : b ≠ c) :
    mCv l yX7_multiply cX7_multiply 7 (rmd 1) D (mT cA) [.ref a, .ref b, .ref c] h (fun h1 => h1 = mup h c (nE (cA 0) (va * vb))) := by
  refine mEnter_v (by decide) (Nat.le_of_ble_eq_true rfl) rfl (fun z X Vz => ?_)
  refine zi_iconst (v := (nI 0)) X dX7_multiply_0 (by decide) ?_
  refine zi_istore_n X dX7_multiply_1 rfl (by decide) ?_
  -- the rows
  have rows : ∀ m i, i + m = 48 → zM z 0 0 20 [some (.ref a), some (.ref b), some (.ref c), some (.int (nI i)), none, none, none] [] (mup h c (nE (cA 0) (va % cp i * vb))) := by
    intro m
    induction m with
    | zero =>
      intro i hi
      obtain rfl : i = 48 := by omega
      refine zi_iload_n X dX7_multiply_20 rfl rfl ?_
      refine zi_bipush (v := (nI 48)) X dX7_multiply_21 (by decide) ?_
      refine zi_icmp_ge (tgt := 110) X dX7_multiply_23 (by decide) (fun c_23 => ?_) (fun c_23 => (by first | exact absurd (by decide) c_23 | exact absurd c_23 (by decide)))
      refine zi_return X Vz dX7_multiply_110 ?_
      have e : nf (va % cp 48 * vb) = nf (va * vb) := nf_cong ⟨-(va / cp 48 * vb), by
        have := nm_q va 48
        generalize va % cp 48 = r at *
        generalize va / cp 48 = s at *
        rw [this]
        grind⟩
      unfold nE
      rw [e]
    | succ m ih =>
      intro i him
      have hi : i < 48 := by omega
      have hx := nd_lt va i
      have e1 : va % cp (i + 1) * vb = va % cp i * vb + cp i * (nd va i * vb) := by rw [nm_s, Int.add_mul, Int.mul_assoc]
      have out : ∀ h1, h1 = mup h c (nE (cA 0) (va % cp (i + 1) * vb)) → zM z 0 0 104 [some (.ref a), some (.ref b), some (.ref c), some (.int (nI i)), none, none, none] [] h1 := fun h1 hh => by
        subst hh
        refine zi_iinc (v := nI (i + 1)) X dX7_multiply_104 rfl (nI_inc _) (by decide) ?_
        refine zi_goto (tgt := 20) X dX7_multiply_107 (by decide) ?_
        exact zi_sub (by repeat (first | exact trivial | refine And.intro rfl ?_)) (ih (i + 1) (by omega))
      refine zi_iload_n X dX7_multiply_20 rfl rfl ?_
      refine zi_bipush (v := (nI 48)) X dX7_multiply_21 (by decide) ?_
      refine zi_icmp_ge (tgt := 110) X dX7_multiply_23 (by decide) (fun c_23 => (by first | exact absurd (nI_ge hi (by omega)) c_23 | exact absurd c_23 (nI_ge hi (by omega)))) (fun c_23 => ?_)
      refine zi_lconst (v := lN 0) X dX7_multiply_26 (by decide) ?_
      refine zi_lstore X dX7_multiply_27 (by decide) ?_
      refine zi_iconst (v := (nI 0)) X dX7_multiply_29 (by decide) ?_
      refine zi_istore X dX7_multiply_30 (by decide) ?_
      by_cases cz : nd va i = 0
      · refine zi_iload_n X dX7_multiply_32 rfl rfl ?_
        refine zi_iload X dX7_multiply_33 rfl ?_
        refine zi_iadd X dX7_multiply_35 ?_
        refine zi_bipush (v := (nI 48)) X dX7_multiply_36 (by decide) ?_
        refine zi_icmp_ge (tgt := 104) X dX7_multiply_38 (by decide) (fun c_38 => (by first | exact absurd (by rw [nI_add]; exact nI_ge (show i + 0 < 48 by omega) (by omega)) c_38 | exact absurd c_38 (by rw [nI_add]; exact nI_ge (show i + 0 < 48 by omega) (by omega)))) (fun c_38 => ?_)
        refine zi_aload_n X dX7_multiply_41 rfl rfl ?_
        refine zi_iload_n X dX7_multiply_42 rfl rfl ?_
        refine zi_iald X 0 (by first | assumption | exact mup_self | (rw [mup_ne (by assumption)]; assumption) | (rw [mup_ne (by assumption)]; exact mup_self) | (rw [mup_ne (by assumption), mup_ne (by assumption)]; assumption)) rfl (vin hi (by decide)) dX7_multiply_43 ?_
        refine zi_if_eq (tgt := 104) X dX7_multiply_44 (by decide) (fun c_44 => ?_) (fun c_44 => (by first | exact absurd (by rw [nf_rd hi, cz]; rfl) c_44 | exact absurd c_44 (by rw [nf_rd hi, cz]; rfl)))
        refine zi_sub (by repeat (first | exact trivial | refine And.intro rfl ?_)) (out _ ?_)
        rw [e1, cz, Int.natCast_zero, Int.zero_mul, Int.mul_zero, Int.add_zero]
      · generalize hW : va % cp i * vb = W at *
        rw [e1] at out
        suffices key : ∀ n k, i + k + n = 48 → ∀ t : Int64, uq t < CC → ((uq t : Nat) : Int) = (W % cp (i + k) + cp i * (nd va i * (vb % cp k))) / cp (i + k) → zM z 0 0 32 [some (.ref a), some (.ref b), some (.ref c), some (.int (nI i)), some (.long t), none, some (.int (nI k))] [] (mup h c (nA (cA 0) (fmx (W + cp i * (nd va i * vb)) W (i + k)))) from by
          have := key (48 - i) 0 (by omega) (lN 0) (by decide) (by
            rw [cp_0, Int.emod_one, Int.mul_zero, Int.mul_zero, Int.add_zero, Nat.add_zero, Int.ediv_eq_zero_of_lt (nm_0 W i).1 (nm_0 W i).2]
            decide)
          rw [Nat.add_zero, fmx_cg ⟨_, rfl⟩] at this
          exact zi_sub (by repeat (first | exact trivial | refine And.intro rfl ?_)) this
        intro n
        induction n with
        | zero =>
          intro k hk t ht1 ht
          have e48 : i + k = 48 := by omega
          refine zi_iload_n X dX7_multiply_32 rfl rfl ?_
          refine zi_iload X dX7_multiply_33 rfl ?_
          refine zi_iadd X dX7_multiply_35 ?_
          refine zi_bipush (v := (nI 48)) X dX7_multiply_36 (by decide) ?_
          refine zi_icmp_ge (tgt := 104) X dX7_multiply_38 (by decide) (fun c_38 => ?_) (fun c_38 => (by first | exact absurd (by rw [nI_add, e48]; decide) c_38 | exact absurd c_38 (by rw [nI_add, e48]; decide)))
          rw [e48, fmx_48]
          exact zi_sub (by repeat (first | exact trivial | refine And.intro rfl ?_)) (out _ rfl)
        | succ n ihn =>
          intro k hk t ht1 ht
          have hik : i + k < 48 := by omega
          have hk48 : k < 48 := by omega
          have dW := nd_lt W (i + k)
          have db := nd_lt vb k
          have hs := nd_row W vb (nd va i) i k
          rw [← ht] at hs
          refine zi_iload_n X dX7_multiply_32 rfl rfl ?_
          refine zi_iload X dX7_multiply_33 rfl ?_
          refine zi_iadd X dX7_multiply_35 ?_
          refine zi_bipush (v := (nI 48)) X dX7_multiply_36 (by decide) ?_
          refine zi_icmp_ge (tgt := 104) X dX7_multiply_38 (by decide) (fun c_38 => (by first | exact absurd (by rw [nI_add]; exact nI_ge hik (by omega)) c_38 | exact absurd c_38 (by rw [nI_add]; exact nI_ge hik (by omega)))) (fun c_38 => ?_)
          refine zi_aload_n X dX7_multiply_41 rfl rfl ?_
          refine zi_iload_n X dX7_multiply_42 rfl rfl ?_
          refine zi_iald X 0 (by first | assumption | exact mup_self | (rw [mup_ne (by assumption)]; assumption) | (rw [mup_ne (by assumption)]; exact mup_self) | (rw [mup_ne (by assumption), mup_ne (by assumption)]; assumption)) rfl (vin hi (by decide)) dX7_multiply_43 ?_
          refine zi_if_eq (tgt := 104) X dX7_multiply_44 (by decide) (fun c_44 => (by first | exact absurd (by rw [nf_rd hi, nI_0d hx]; exact cz) c_44 | exact absurd c_44 (by rw [nf_rd hi, nI_0d hx]; exact cz))) (fun c_44 => ?_)
          refine zi_lload X dX7_multiply_47 rfl ?_
          refine zi_aload_n X dX7_multiply_49 rfl rfl ?_
          refine zi_iload_n X dX7_multiply_50 rfl rfl ?_
          refine zi_iald X 0 (by first | assumption | exact mup_self | (rw [mup_ne (by assumption)]; assumption) | (rw [mup_ne (by assumption)]; exact mup_self) | (rw [mup_ne (by assumption), mup_ne (by assumption)]; assumption)) rfl (vin hi (by decide)) dX7_multiply_51 ?_
          refine zi_i2l X dX7_multiply_52 ?_
          refine zi_ldc2_w X wK_X7_91 dX7_multiply_53 ?_
          refine zi_land X dX7_multiply_56 ?_
          refine zi_aload_n X dX7_multiply_57 rfl rfl ?_
          refine zi_iload X dX7_multiply_58 rfl ?_
          refine zi_iald X 0 (by first | assumption | exact mup_self | (rw [mup_ne (by assumption)]; assumption) | (rw [mup_ne (by assumption)]; exact mup_self) | (rw [mup_ne (by assumption), mup_ne (by assumption)]; assumption)) rfl (vin hk48 (by decide)) dX7_multiply_60 ?_
          refine zi_i2l X dX7_multiply_61 ?_
          refine zi_ldc2_w X wK_X7_91 dX7_multiply_62 ?_
          refine zi_land X dX7_multiply_65 ?_
          refine zi_lmul X dX7_multiply_66 ?_
          refine zi_aload_n X dX7_multiply_67 rfl rfl ?_
          refine zi_iload_n X dX7_multiply_68 rfl rfl ?_
          refine zi_iload X dX7_multiply_69 rfl ?_
          refine zi_iadd X dX7_multiply_71 ?_
          refine zi_iald X 0 (by first | assumption | exact mup_self | (rw [mup_ne (by assumption)]; assumption) | (rw [mup_ne (by assumption)]; exact mup_self) | (rw [mup_ne (by assumption), mup_ne (by assumption)]; assumption)) rfl (by rw [nI_add]; exact vin hik (by decide)) dX7_multiply_72 ?_
          refine zi_i2l X dX7_multiply_73 ?_
          refine zi_ldc2_w X wK_X7_91 dX7_multiply_74 ?_
          refine zi_land X dX7_multiply_77 ?_
          refine zi_ladd X dX7_multiply_78 ?_
          refine zi_ladd X dX7_multiply_79 ?_
          rw [nI_add, nf_rd hi, nf_rd hk48, fmx_at hik]
          generalize hu : t + (((nI (nd va i)).toInt64 &&& 4294967295) * ((nI (nd vb k)).toInt64 &&& 4294967295) + ((nI (nd W (i + k))).toInt64 &&& 4294967295)) = u
          have hle : nd va i * nd vb k ≤ 4294967295 * 4294967295 := Nat.mul_le_mul (by unfold CC at hx; omega) (by unfold CC at db; omega)
          have hu1 : uq u = uq t + (nd va i * nd vb k + nd W (i + k)) := by
            unfold CC at ht1 dW
            rw [← hu, uq_add (by rw [uq_add (by rw [uq_mul (by rw [uq_low' hx, uq_low' db]; omega), uq_low' hx, uq_low' db, uq_low' dW]; omega), uq_mul (by rw [uq_low' hx, uq_low' db]; omega), uq_low' hx, uq_low' db, uq_low' dW]; omega), uq_add (by rw [uq_mul (by rw [uq_low' hx, uq_low' db]; omega), uq_low' hx, uq_low' db, uq_low' dW]; omega), uq_mul (by rw [uq_low' hx, uq_low' db]; omega), uq_low' hx, uq_low' db, uq_low' dW]
          have hu2 : ((uq u : Nat) : Int) = uq t + ((nd W (i + k) : Int) + nd va i * nd vb k) := by rw [hu1, Int.natCast_add, Int.natCast_add, Int.natCast_mul]; omega
          rw [← hu2] at hs
          have hd : u.toInt32 = nI (nd (W + cp i * (nd va i * vb)) (i + k)) := by
            rw [l2i_u]
            refine nI_eqm ?_
            rw [Nat.mod_eq_of_lt (nd_lt _ (i + k))]
            have := hs.1
            unfold CC at *
            omega
          refine zi_lstore X dX7_multiply_80 (by decide) ?_
          refine zi_aload_n X dX7_multiply_82 rfl rfl ?_
          refine zi_iload_n X dX7_multiply_83 rfl rfl ?_
          refine zi_iload X dX7_multiply_84 rfl ?_
          refine zi_iadd X dX7_multiply_86 ?_
          refine zi_lload X dX7_multiply_87 rfl ?_
          refine zi_l2i X dX7_multiply_89 ?_
          refine zi_iast X 0 (by first | assumption | exact mup_self | (rw [mup_ne (by assumption)]; assumption) | (rw [mup_ne (by assumption)]; exact mup_self) | (rw [mup_ne (by assumption), mup_ne (by assumption)]; assumption)) rfl (by rw [nI_add]; exact vin hik (by decide)) dX7_multiply_90 ?_
          rw [nI_add, hd, fmx_up hik, mup_mup]
          refine zi_lload X dX7_multiply_91 rfl ?_
          refine zi_bipush (v := (nI 32)) X dX7_multiply_93 (by decide) ?_
          refine zi_lushr X dX7_multiply_95 ?_
          refine zi_lstore X dX7_multiply_96 (by decide) ?_
          refine zi_iinc (v := nI (k + 1)) X dX7_multiply_98 rfl (nI_inc _) (by decide) ?_
          refine zi_goto (tgt := 32) X dX7_multiply_101 (by decide) ?_
          refine zi_sub (by repeat (first | exact trivial | refine And.intro rfl ?_)) (ihn (k + 1) (by omega) _ ?_ ?_)
          · rw [uq_shr]
            unfold CC at *
            omega
          · rw [uq_shr, ← Nat.add_assoc, hs.2]
            unfold CC
            omega
  suffices key : ∀ m k, k + m = 48 → zM z 0 0 2 [some (.ref a), some (.ref b), some (.ref c), some (.int (nI k)), none, none, none] [] (mup h c (nA (cA 0) (fmx 0 vc k))) from by
    have := key 48 0 rfl
    rw [fmx_0] at this
    exact zi_sub (by repeat (first | exact trivial | refine And.intro rfl ?_)) (zi_eqh (mup_same hc).symm this)
  intro m
  induction m with
  | zero =>
    intro k hk
    obtain rfl : k = 48 := by omega
    refine zi_iload_n X dX7_multiply_2 rfl rfl ?_
    refine zi_bipush (v := (nI 48)) X dX7_multiply_3 (by decide) ?_
    refine zi_icmp_ge (tgt := 18) X dX7_multiply_5 (by decide) (fun c_5 => ?_) (fun c_5 => (by first | exact absurd (by decide) c_5 | exact absurd c_5 (by decide)))
    refine zi_iconst (v := (nI 0)) X dX7_multiply_18 (by decide) ?_
    refine zi_istore_n X dX7_multiply_19 rfl (by decide) ?_
    have := rows 48 0 rfl
    rw [cp_0, Int.emod_one, Int.zero_mul] at this
    rw [fmx_48]
    exact zi_sub (by repeat (first | exact trivial | refine And.intro rfl ?_)) this
  | succ m ih =>
    intro k hk
    have hk48 : k < 48 := by omega
    refine zi_iload_n X dX7_multiply_2 rfl rfl ?_
    refine zi_bipush (v := (nI 48)) X dX7_multiply_3 (by decide) ?_
    refine zi_icmp_ge (tgt := 18) X dX7_multiply_5 (by decide) (fun c_5 => (by first | exact absurd (nI_ge hk48 (by omega)) c_5 | exact absurd c_5 (nI_ge hk48 (by omega)))) (fun c_5 => ?_)
    refine zi_aload_n X dX7_multiply_8 rfl rfl ?_
    refine zi_iload_n X dX7_multiply_9 rfl rfl ?_
    refine zi_iconst (v := (nI 0)) X dX7_multiply_10 (by decide) ?_
    refine zi_iast X 0 (by first | assumption | exact mup_self | (rw [mup_ne (by assumption)]; assumption) | (rw [mup_ne (by assumption)]; exact mup_self) | (rw [mup_ne (by assumption), mup_ne (by assumption)]; assumption)) rfl (vin hk48 (by decide)) dX7_multiply_11 ?_
    refine zi_iinc (v := nI (k + 1)) X dX7_multiply_12 rfl (nI_inc _) (by decide) ?_
    refine zi_goto (tgt := 2) X dX7_multiply_15 (by decide) ?_
    have e : (nI 0) = nI (nd 0 k) := by rw [nd_zero]
    rw [e, fmx_up hk48, mup_mup]
    exact zi_sub (by repeat (first | exact trivial | refine And.intro rfl ?_)) (ih (k + 1) (by omega))
end NUM9
