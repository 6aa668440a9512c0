/-! SturmRootsModel: the polynomials alone (what t u v w x y hold is left open); primitive -/
def hQ (cA : Nat → ClassId) (M : Nat → Nat → Nat) (P : Nat → Nat → Int) (h : mH) : Prop := ∃ N, hN cA M N h ∧ ∀ j, j < 176 → ∀ i, i < 7 → N (7 * j + i) = P j i
def KN : Nat := 2147483648 * CC ^ 47
def nC (v : Int) : Prop := v.natAbs < KN
theorem KN_cp : (KN : Int) = 2147483648 * cp 47 := by
  unfold KN cp
  rw [Int.natCast_mul, Int.natCast_pow]
  rfl
theorem nB_C {v : Int} (h : nC v) : nB v := by
  unfold nC at h
  have := KN_cp
  unfold nB
  omega
theorem KN_pos : 0 < KN := Nat.mul_pos (by decide) (Nat.pow_pos (by decide))
theorem nC_abs {v : Int} (h : nC v) : nB ((v.natAbs : Nat) : Int) := nB_C (by unfold nC at *; rw [Int.natAbs_natCast]; exact h)
def pC (p : Nat → Int) : Prop := ∀ i, i < 7 → nC (p i)
theorem setP_scr {B : Nat → Int} {j n : Nat} {p : Nat → Int} (hj : j < 176) (hn : 1232 ≤ n) : setP B j p n = B n := by
  unfold setP
  rw [if_neg (by omega)]
section RW3
variable {cA : Nat → ClassId} {M : Nat → Nat → Nat} {N : Nat → Int} {P : Nat → Nat → Int} {h : mH} {o : RO} {m : Nat}
theorem hQ_set {j : Nat} {p q : Nat → Int} (hh : hN cA M (setP N j p) h) (e : ∀ j, j < 176 → ∀ i, i < 7 → N (7 * j + i) = P j i) (hp : ∀ i, i < 7 → p i = q i) : hQ cA M (updP P j q) h :=
  ⟨_, hh, fun k hk i hi => by
    unfold updP
    by_cases h : k = j
    · rw [if_pos h, h, setP_at hi]; exact hp i hi
    · rw [if_neg h, setP_out h hi]; exact e k hk i hi⟩
theorem hQ_cong {Q : Nat → Nat → Int} (hh : hQ cA M P h) (e : ∀ j, j < 176 → ∀ i, i < 7 → P j i = Q j i) : hQ cA M Q h := by
  obtain ⟨N, h1, h2⟩ := hh
  exact ⟨N, h1, fun j hj i hi => by rw [h2 j hj i hi, e j hj i hi]⟩
theorem r_degree (l : Launch) (D : va_G) (hh : hQ cA M P h) {j : Nat} (hj : j < 176) (hb : pC (P j)) :
    mCi l yX7_degree cX7_degree 2 .int (rmd 2) D (mT cA) [.ref (M 1 j)] h (fun r h1 => h1 = h ∧ r = nI (stI (P j) 7) - nI 1) := by
  obtain ⟨N, h1, h2⟩ := hh
  have e : stI (cof N j) 7 = stI (P j) 7 := stI_cong (fun i hi => h2 j hj i hi)
  rw [← e]
  exact m_degree l D h1 hj (fun i hi => by rw [h2 j hj i hi]; exact nB_C (hb i hi))
theorem r_copy (l : Launch) (D : va_G) (hh : hQ cA M P h) {j j2 : Nat} (hj : j < 176) (hj2 : j2 < 176) (hne : j2 ≠ j) :
    mCv l yX7_copy_ cX7_copy_ 3 (rmd 2) D (mT cA) [.ref (M 1 j2), .ref (M 1 j)] h (fun h1 => nfr M h1 h ∧ hQ cA M (updP P j (P j2)) h1) := by
  obtain ⟨N, h1, h2⟩ := hh
  exact mSub_v (m_copy l D h1 hj hj2 hne) (fun g hg => ⟨hg.1, hQ_set hg.2 h2 (fun i hi => h2 j2 hj2 i hi)⟩)
theorem r_negate (l : Launch) (D : va_G) (hh : hQ cA M P h) {j : Nat} (hj : j < 176) :
    mCv l yX7_negate_ cX7_negate_ 2 (rmd 2) D (mT cA) [.ref (M 1 j)] h (fun h1 => nfr M h1 h ∧ hQ cA M (updP P j (fun i => -P j i)) h1) := by
  obtain ⟨N, h1, h2⟩ := hh
  exact mSub_v (m_negate l D h1 hj) (fun g hg => ⟨hg.1, hQ_set hg.2 h2 (fun i hi => by rw [← h2 j hj i hi]; rfl)⟩)
theorem r_load (l : Launch) (D : va_G) (hh : hQ cA M P h) {j a : Nat} {f : Nat → Int32} (hj : j < 176) (ha : h a = some (.inl (cA 0, 7, .inl f))) :
    mCv l yX7_load cX7_load 3 (rmd 2) D (mT cA) [.ref a, .ref (M 1 j)] h (fun h1 => nfr M h1 h ∧ hQ cA M (updP P j (fun i => (f i).toInt)) h1) := by
  obtain ⟨N, h1, h2⟩ := hh
  exact mSub_v (m_load l D h1 hj ha) (fun g hg => ⟨hg.1, hQ_set hg.2 h2 (fun i hi => rfl)⟩)
theorem r_derive (l : Launch) (D : va_G) (hh : hQ cA M P h) {j j2 : Nat} (hj : j < 176) (hj2 : j2 < 176) (hne : j2 ≠ j) :
    mCv l yX7_derive cX7_derive 3 (rmd 3) D (mT cA) [.ref (M 1 j2), .ref (M 1 j)] h (fun h1 => nfr M h1 h ∧ hQ cA M (updP P j (derI (P j2))) h1) := by
  obtain ⟨N, h1, h2⟩ := hh
  exact mSub_v (m_derive l D h1 hj hj2 hne) (fun g hg => ⟨hg.1, hQ_set hg.2 h2 (fun i hi => derI_cong (fun i hi => h2 j2 hj2 i hi) i)⟩)
theorem nC_gcd {x y : Nat} (hx : x < KN) (hy : y < KN) : Nat.gcd x y < KN := by
  rcases Nat.eq_zero_or_pos x with q | q
  · rw [q, Nat.gcd_zero_left]; exact hy
  · exact Nat.lt_of_le_of_lt (Nat.le_of_dvd q (Nat.gcd_dvd_left _ _)) hx
theorem cont_KN {p : Nat → Int} (hp : pC p) : ∀ n, n ≤ 7 → cont p n < KN
  | 0, _ => KN_pos
  | n + 1, h => nC_gcd (cont_KN hp n (by omega)) (hp n (by omega))
theorem td_abs {v : Int} {c : Nat} (hc : 0 < c) : (if v < 0 then -((v.natAbs : Int) / (c : Int)) else (v.natAbs : Int) / (c : Int)) = v.tdiv c := by
  by_cases q : v < 0
  · rw [if_pos q]
    have e : v = -(v.natAbs : Int) := by omega
    conv => rhs; rw [e, Int.neg_tdiv, Int.tdiv_eq_ediv_of_nonneg (by omega)]
  · rw [if_neg q]
    have e : v = (v.natAbs : Int) := by omega
    conv => rhs; rw [e, Int.tdiv_eq_ediv_of_nonneg (by omega)]
theorem r_primitive (l : Launch) (D : va_G) (hm : h m = some (mO M o)) (hh : hQ cA M P h) {j : Nat} (hj : j < 176) (hb : pC (P j)) :
    mCv l yX7_primitive cX7_primitive 4 (rmd 5) D (mT cA) [.ref m, .ref (M 1 j)] h (fun h1 => nfr M h1 h ∧ hQ cA M (updP P j (prm (P j))) h1) := by
  obtain ⟨N, hn, hP⟩ := hh
  have hp : ∀ i, i < 7 → N (7 * j + i) = P j i := fun i hi => hP j hj i hi
  have hmO : ∀ c v, mO M o ≠ nE c v := fun c v q => by unfold mO nE at q; cases q
  refine mEnter_v (by decide) (Nat.le_of_ble_eq_true rfl) rfl (fun z X Vz => ?_)
  have t0 := hn.1 1232 (by decide)
  refine zi_aload_n X dX7_primitive_0 rfl rfl ?_
  refine zi_getf (C := RX7) (T := TX7) (N := 27) (ci := 11) X (by first | assumption | exact mup_self | (rw [mup_ne (by assumption)]; assumption) | (rw [mup_ne (by assumption)]; exact mup_self) | (rw [mup_ne (by assumption), mup_ne (by assumption)]; assumption)) rfl in_X7 2 (by decide) wf_X7_14 rfl rfl dX7_primitive_1 ?_
  refine zi_lconst (v := lN 0) X dX7_primitive_4 (by decide) ?_
  refine zi_callSv X (n_set l D t0) kc_X7_set wm_X7_145 wst_X7_set ⟨Nat.le_of_ble_eq_true rfl, Nat.le_of_ble_eq_true rfl⟩ rfl rfl (Nat.le_of_ble_eq_true rfl) ⟨Nat.le_of_ble_eq_true rfl, Nat.le_of_ble_eq_true rfl⟩ dX7_primitive_5 (fun h1 hp => ?_)
  subst hp
  have e00 : (lN 0).toInt = 0 := by decide
  rw [e00]
  refine zi_iconst (v := (nI 0)) X dX7_primitive_8 (by decide) ?_
  refine zi_istore_n X dX7_primitive_9 rfl (by decide) ?_
  -- the second loop and the end
  have fin : ∀ g N1, nfr M g h → hN cA M N1 g → (∀ n, n < 1232 → N1 n = N n) → N1 1232 = (cont (P j) 7 : Nat) → zM z 0 0 51 [some (.ref m), some (.ref (M 1 j)), none, none] [] g := fun g N1 hf hg he ht => by
    have gm := nfr_at hn hf hm hmO
    have ckn := cont_KN hb 7 (Nat.le_refl 7)
    have tb : nB ((cont (P j) 7 : Nat) : Int) := nB_C (by unfold nC; rw [Int.natAbs_natCast]; exact ckn)
    have t1 := hg.1 1232 (by decide)
    rw [ht] at t1
    refine zi_aload_n X dX7_primitive_51 rfl rfl ?_
    refine zi_getf (C := RX7) (T := TX7) (N := 27) (ci := 11) X (by first | assumption | exact mup_self | (rw [mup_ne (by assumption)]; assumption) | (rw [mup_ne (by assumption)]; exact mup_self) | (rw [mup_ne (by assumption), mup_ne (by assumption)]; assumption)) rfl in_X7 2 (by decide) wf_X7_14 rfl rfl dX7_primitive_52 ?_
    refine zi_callSi X (n_bits l D t1 (by omega) (nB_p tb (by omega))) kc_X7_bits wm_X7_149 wst_X7_bits ⟨Nat.le_of_ble_eq_true rfl, Nat.le_of_ble_eq_true rfl⟩ rfl rfl (Nat.le_of_ble_eq_true rfl) ⟨Nat.le_of_ble_eq_true rfl, Nat.le_of_ble_eq_true rfl⟩ dX7_primitive_55 (fun r h1 hp => ?_)
    obtain ⟨rfl, rfl⟩ := hp
    have hbl : bl ((cont (P j) 7 : Nat) : Int) < 2147483648 ∧ (bl ((cont (P j) 7 : Nat) : Int) < 2 ↔ cont (P j) 7 ≤ 1) := by
      by_cases q : cont (P j) 7 = 0
      · rw [q]; decide
      · obtain ⟨b, hb1, hb2⟩ := bl_ge (v := ((cont (P j) 7 : Nat) : Int)) (by omega)
        have hb3 := bl_lt (v := ((cont (P j) 7 : Nat) : Int)) (by omega)
        have hb4 : b < 1536 := by
          have h3 : (2 : Int) ^ b < 2 ^ (32 * 48) := by rw [tw_32]; have := nB_p tb (by omega); omega
          have h4 : ((2 ^ b : Nat) : Int) < ((2 ^ (32 * 48) : Nat) : Int) := by rw [tw_c, tw_c]; exact h3
          exact (Nat.pow_lt_pow_iff_right (by decide)).mp (Int.ofNat_lt.mp h4)
        refine ⟨by omega, ?_⟩
        rw [hb1]
        constructor
        · intro w
          have : b = 0 := by omega
          rw [hb1, this] at hb3
          have e2 : (2 : Int) ^ (0 + 1) = 2 := rfl
          omega
        · intro w
          by_cases c : b = 0
          · omega
          · have : (2 : Int) ^ 1 ≤ 2 ^ b := by
              have : ((2 ^ 1 : Nat) : Int) ≤ ((2 ^ b : Nat) : Int) := Int.ofNat_le.mpr (Nat.pow_le_pow_right (by decide) (by omega))
              rw [tw_c, tw_c] at this
              exact this
            have e2 : (2 : Int) ^ 1 = 2 := rfl
            omega
    by_cases c2 : cont (P j) 7 ≤ 1
    · refine zi_iconst (v := (nI 2)) X dX7_primitive_58 (by decide) ?_
      refine zi_icmp_ge (tgt := 63) X dX7_primitive_59 (by decide) (fun c_59 => (by first | exact absurd (by rw [show nI 2 = nI 2 from rfl, nI_leI (by decide) hbl.1]; have := hbl.2.mpr c2; omega) c_59 | exact absurd c_59 (by rw [show nI 2 = nI 2 from rfl, nI_leI (by decide) hbl.1]; have := hbl.2.mpr c2; omega))) (fun c_59 => ?_)
      refine zi_return X Vz dX7_primitive_62 ?_
      refine ⟨hf, N1, hg, fun k hk i hi => ?_⟩
      rw [he (7 * k + i) (by omega), hP k hk i hi]
      unfold updP
      by_cases e : k = j
      · rw [if_pos e, e]
        unfold prm
        rcases (show cont (P j) 7 = 0 ∨ cont (P j) 7 = 1 by omega) with q | q
        · rw [q, cont_0 q i hi]; rfl
        · rw [q]
          exact (Int.tdiv_one _).symm
      · rw [if_neg e]
    · have c0 : 0 < cont (P j) 7 := by omega
      refine zi_iconst (v := (nI 2)) X dX7_primitive_58 (by decide) ?_
      refine zi_icmp_ge (tgt := 63) X dX7_primitive_59 (by decide) (fun c_59 => ?_) (fun c_59 => (by first | exact absurd (by rw [nI_leI (by decide) hbl.1]; have := mt hbl.2.mp c2; omega) c_59 | exact absurd c_59 (by rw [nI_leI (by decide) hbl.1]; have := mt hbl.2.mp c2; omega)))
      refine zi_iconst (v := (nI 0)) X dX7_primitive_63 (by decide) ?_
      refine zi_istore_n X dX7_primitive_64 rfl (by decide) ?_
      suffices key : ∀ n i g N1, i + n = 7 → nfr M g h → hN cA M N1 g → (∀ k, k < 1232 → N1 k = setP N j (fun s => if s < i then prm (P j) s else P j s) k) → N1 1232 = (cont (P j) 7 : Nat) → zM z 0 0 65 [some (.ref m), some (.ref (M 1 j)), some (.int (nI i)), none] [] g from by
        refine zi_sub (by repeat (first | exact trivial | refine And.intro rfl ?_)) (key 7 0 _ N1 rfl hf hg (fun k hk => ?_) ht)
        rw [he k hk]
        unfold setP
        split
        · next q => dsimp only; rw [if_neg (by omega), ← hp _ (by omega)]; congr 1; omega
        · rfl
      intro n
      induction n with
      | zero =>
        intro i g N1 hi hf hg he ht
        obtain rfl : i = 7 := by omega
        refine zi_iload_n X dX7_primitive_65 rfl rfl ?_
        refine zi_bipush (v := (nI 7)) X dX7_primitive_66 (by decide) ?_
        refine zi_icmp_ge (tgt := 120) X dX7_primitive_68 (by decide) (fun c_68 => ?_) (fun c_68 => (by first | exact absurd (by decide) c_68 | exact absurd c_68 (by decide)))
        refine zi_return X Vz dX7_primitive_120 ?_
        refine ⟨hf, N1, hg, fun k hk i hi => ?_⟩
        rw [he (7 * k + i) (by omega)]
        unfold updP
        by_cases e : k = j
        · rw [if_pos e, e, setP_at hi, if_pos hi]
        · rw [if_neg e, setP_out e hi, hP k hk i hi]
      | succ n ih =>
        intro i g N1 hi hf hg he ht
        have i7 : i < 7 := by omega
        have gm := nfr_at hn hf hm hmO
        have a1 := hg.2.1 j hj
        have a3 := hg.1 (7 * j + i) (by omega)
        have eN : N1 (7 * j + i) = P j i := by rw [he _ (by omega), setP_at i7, if_neg (by omega)]
        rw [eN] at a3
        refine zi_iload_n X dX7_primitive_65 rfl rfl ?_
        refine zi_bipush (v := (nI 7)) X dX7_primitive_66 (by decide) ?_
        refine zi_icmp_ge (tgt := 120) X dX7_primitive_68 (by decide) (fun c_68 => (by first | exact absurd (c7 i7) c_68 | exact absurd c_68 (c7 i7))) (fun c_68 => ?_)
        refine zi_aload_n X dX7_primitive_71 rfl rfl ?_
        refine zi_iload_n X dX7_primitive_72 rfl rfl ?_
        refine zi_aaldA X 4 (by first | assumption | exact mup_self | (rw [mup_ne (by assumption)]; assumption) | (rw [mup_ne (by assumption)]; exact mup_self) | (rw [mup_ne (by assumption), mup_ne (by assumption)]; assumption)) rfl (vin i7 (by decide)) (pa_at (i := i) i7) dX7_primitive_73 ?_
        refine zi_callSi X (n_bare l D a3 (nB_C (hb i i7))) kc_X7_bare wm_X7_155 wst_X7_bare ⟨Nat.le_of_ble_eq_true rfl, Nat.le_of_ble_eq_true rfl⟩ rfl rfl (Nat.le_of_ble_eq_true rfl) ⟨Nat.le_of_ble_eq_true rfl, Nat.le_of_ble_eq_true rfl⟩ dX7_primitive_74 (fun r h1 hp => ?_)
        obtain ⟨rfl, rfl⟩ := hp
        have hg1 := hN_up hg (n := 7 * j + i) (by omega) ((P j i).natAbs : Int)
        have hf1 : nfr M (mup g (M 0 (7 * j + i)) (nE (cA 0) ((P j i).natAbs : Int))) h := nfr_tr (nfr_up (by omega)) hf
        generalize hN1 : updI N1 (7 * j + i) ((P j i).natAbs : Int) = N2 at hg1
        generalize mup g (M 0 (7 * j + i)) (nE (cA 0) ((P j i).natAbs : Int)) = g1 at hg1 hf1 ⊢
        have gm1 := nfr_at hn hf1 hm hmO
        have b1 := hg1.2.1 j hj
        have b3 := hg1.1 (7 * j + i) (by omega)
        have bt := hg1.1 1232 (by decide)
        have bu := hg1.1 1233 (by decide)
        have byy := hg1.1 1237 (by decide)
        rw [← hN1, updI_s] at b3
        have eT : N2 1232 = (cont (P j) 7 : Nat) := by rw [← hN1, updI_n (by omega), ht]
        rw [eT] at bt
        have hdv : ∃ q, ((P j i).natAbs : Int) = ((cont (P j) 7 : Nat) : Int) * q := by
          obtain ⟨q, hq⟩ := cont_dvd (p := P j) (n := 7) i7
          exact ⟨(q.natAbs : Int), by conv => lhs; rw [hq, Int.natAbs_mul, Int.natAbs_natCast, Int.natCast_mul]⟩
        refine zi_istore_n X dX7_primitive_77 rfl (by decide) ?_
        refine zi_aload_n X dX7_primitive_78 rfl rfl ?_
        refine zi_aload_n X dX7_primitive_79 rfl rfl ?_
        refine zi_iload_n X dX7_primitive_80 rfl rfl ?_
        refine zi_aaldA X 4 (by first | assumption | exact mup_self | (rw [mup_ne (by assumption)]; assumption) | (rw [mup_ne (by assumption)]; exact mup_self) | (rw [mup_ne (by assumption), mup_ne (by assumption)]; assumption)) rfl (vin i7 (by decide)) (pa_at (i := i) i7) dX7_primitive_81 ?_
        refine zi_aload_n X dX7_primitive_82 rfl rfl ?_
        refine zi_getf (C := RX7) (T := TX7) (N := 27) (ci := 11) X (by first | assumption | exact mup_self | (rw [mup_ne (by assumption)]; assumption) | (rw [mup_ne (by assumption)]; exact mup_self) | (rw [mup_ne (by assumption), mup_ne (by assumption)]; assumption)) rfl in_X7 2 (by decide) wf_X7_14 rfl rfl dX7_primitive_83 ?_
        refine zi_aload_n X dX7_primitive_86 rfl rfl ?_
        refine zi_getf (C := RX7) (T := TX7) (N := 27) (ci := 11) X (by first | assumption | exact mup_self | (rw [mup_ne (by assumption)]; assumption) | (rw [mup_ne (by assumption)]; exact mup_self) | (rw [mup_ne (by assumption), mup_ne (by assumption)]; assumption)) rfl in_X7 3 (by decide) wf_X7_18 rfl rfl dX7_primitive_87 ?_
        refine zi_callVv X (n_quotient l D gm1 b3 bt bu byy (hN_ne hg1 (by omega) (by decide) (by omega)) (hN_ne hg1 (by omega) (by decide) (by omega)) (hN_ne hg1 (by decide) (by decide) (by decide)) (hN_ne hg1 (by omega) (by decide) (by omega)) (hN_ne hg1 (by decide) (by decide) (by decide)) (hN_ne hg1 (by decide) (by decide) (by decide)) (by omega) (nC_abs (hb i i7)) (by omega) tb hdv) kc_X7_quotient wm_X7_162 (by first | assumption | exact mup_self | (rw [mup_ne (by assumption)]; assumption) | (rw [mup_ne (by assumption)]; exact mup_self) | (rw [mup_ne (by assumption), mup_ne (by assumption)]; assumption)) rfl wim_X7_quotient wse_X7_quotient ⟨Nat.le_of_ble_eq_true rfl, Nat.le_of_ble_eq_true rfl⟩ rfl rfl (Nat.le_of_ble_eq_true rfl) ⟨Nat.le_of_ble_eq_true rfl, Nat.le_of_ble_eq_true rfl⟩ dX7_primitive_90 (fun h1 hp => ?_)
        obtain ⟨r, v, rfl⟩ := hp
        have hg2 : hN cA M (updI (updI (updI N2 1233 (((P j i).natAbs : Int) / ((cont (P j) 7 : Nat) : Int))) (7 * j + i) r) 1237 v) (qH g1 (cA 0) (M 0 1233) (M 0 (7 * j + i)) (M 0 1237) (((P j i).natAbs : Int) / ((cont (P j) 7 : Nat) : Int)) r v) := hN_up (hN_up (hN_up hg1 (by decide) _) (by omega) _) (by decide) _
        have hf2 : nfr M (qH g1 (cA 0) (M 0 1233) (M 0 (7 * j + i)) (M 0 1237) (((P j i).natAbs : Int) / ((cont (P j) 7 : Nat) : Int)) r v) h := nfr_tr (nfr_tr (nfr_up (by decide)) (nfr_tr (nfr_up (by omega)) (nfr_up (by decide)))) hf1
        generalize hN2 : updI (updI (updI N2 1233 (((P j i).natAbs : Int) / ((cont (P j) 7 : Nat) : Int))) (7 * j + i) r) 1237 v = N3 at hg2
        generalize qH g1 (cA 0) (M 0 1233) (M 0 (7 * j + i)) (M 0 1237) (((P j i).natAbs : Int) / ((cont (P j) 7 : Nat) : Int)) r v = g2 at hg2 hf2 ⊢
        -- behind the sign: u holds the coefficient
        have s104 : ∀ g3 N4, nfr M g3 h → hN cA M N4 g3 → (∀ k, k < 1232 → N4 k = N3 k) → N4 1232 = N3 1232 → N4 1233 = prm (P j) i → zM z 0 0 104 [some (.ref m), some (.ref (M 1 j)), some (.int (nI i)), none] [] g3 := fun g3 N4 hf3 hg3 he3 ht3 hu3 => by
          have gm3 := nfr_at hn hf3 hm hmO
          have d1 := hg3.2.1 j hj
          have d3 := hg3.1 (7 * j + i) (by omega)
          have du := hg3.1 1233 (by decide)
          refine zi_aload_n X dX7_primitive_104 rfl rfl ?_
          refine zi_getf (C := RX7) (T := TX7) (N := 27) (ci := 11) X (by first | assumption | exact mup_self | (rw [mup_ne (by assumption)]; assumption) | (rw [mup_ne (by assumption)]; exact mup_self) | (rw [mup_ne (by assumption), mup_ne (by assumption)]; assumption)) rfl in_X7 3 (by decide) wf_X7_18 rfl rfl dX7_primitive_105 ?_
          refine zi_aload_n X dX7_primitive_108 rfl rfl ?_
          refine zi_iload_n X dX7_primitive_109 rfl rfl ?_
          refine zi_aaldA X 4 (by first | assumption | exact mup_self | (rw [mup_ne (by assumption)]; assumption) | (rw [mup_ne (by assumption)]; exact mup_self) | (rw [mup_ne (by assumption), mup_ne (by assumption)]; assumption)) rfl (vin i7 (by decide)) (pa_at (i := i) i7) dX7_primitive_110 ?_
          refine zi_callSv X (n_copy l D du d3 (hN_ne hg3 (by decide) (by omega) (by omega))) kc_X7_copy wm_X7_113 wst_X7_copy ⟨Nat.le_of_ble_eq_true rfl, Nat.le_of_ble_eq_true rfl⟩ rfl rfl (Nat.le_of_ble_eq_true rfl) ⟨Nat.le_of_ble_eq_true rfl, Nat.le_of_ble_eq_true rfl⟩ dX7_primitive_111 (fun h1 hp => ?_)
          subst hp
          refine zi_iinc (v := nI (i + 1)) X dX7_primitive_114 rfl (nI_inc _) (by decide) ?_
          refine zi_goto (tgt := 65) X dX7_primitive_117 (by decide) ?_
          refine zi_sub (by repeat (first | exact trivial | refine And.intro rfl ?_)) (ih (i + 1) _ _ (by omega) (nfr_tr (nfr_up (by omega)) hf3) (hN_up hg3 (by omega) _) (fun k hk => ?_) ?_)
          · by_cases c : k = 7 * j + i
            · rw [c, updI_s, hu3, setP_at i7, if_pos (by omega)]
            · rw [updI_n c, he3 k hk, ← hN2, updI_n (by omega), updI_n c, updI_n (by omega), ← hN1, updI_n c, he k hk]
              unfold setP
              split
              · next q =>
                dsimp only
                by_cases w : k - 7 * j < i
                · rw [if_pos w, if_pos (by omega)]
                · rw [if_neg w, if_neg (by omega)]
              · rfl
          · rw [updI_n (by omega), ht3, ← hN2, updI_n (by omega), updI_n (by omega), updI_n (by omega), eT]
        have eU : N3 1233 = ((P j i).natAbs : Int) / ((cont (P j) 7 : Nat) : Int) := by rw [← hN2, updI_n (by omega), updI_n (by omega), updI_s]
        have gm2 := nfr_at hn hf2 hm hmO
        have cu := hg2.1 1233 (by decide)
        have etd := td_abs (v := P j i) c0
        by_cases cs : P j i < 0
        · rw [if_pos cs]
          rw [if_pos cs] at etd
          refine zi_iload_n X dX7_primitive_93 rfl rfl ?_
          refine zi_if_eq (tgt := 104) X dX7_primitive_94 (by decide) (fun c_94 => (by first | exact absurd (by decide) c_94 | exact absurd c_94 (by decide))) (fun c_94 => ?_)
          refine zi_aload_n X dX7_primitive_97 rfl rfl ?_
          refine zi_getf (C := RX7) (T := TX7) (N := 27) (ci := 11) X (by first | assumption | exact mup_self | (rw [mup_ne (by assumption)]; assumption) | (rw [mup_ne (by assumption)]; exact mup_self) | (rw [mup_ne (by assumption), mup_ne (by assumption)]; assumption)) rfl in_X7 3 (by decide) wf_X7_18 rfl rfl dX7_primitive_98 ?_
          refine zi_callSv X (n_negate l D cu) kc_X7_negate wm_X7_93 wst_X7_negate ⟨Nat.le_of_ble_eq_true rfl, Nat.le_of_ble_eq_true rfl⟩ rfl rfl (Nat.le_of_ble_eq_true rfl) ⟨Nat.le_of_ble_eq_true rfl, Nat.le_of_ble_eq_true rfl⟩ dX7_primitive_101 (fun h1 hp => ?_)
          subst hp
          refine zi_sub (by repeat (first | exact trivial | refine And.intro rfl ?_)) (s104 _ _ (nfr_tr (nfr_up (by decide)) hf2) (hN_up hg2 (by decide) _) (fun k hk => updI_n (by omega)) (updI_n (by decide)) ?_)
          rw [updI_s, eU, etd]
          rfl
        · rw [if_neg cs]
          rw [if_neg cs] at etd
          refine zi_iload_n X dX7_primitive_93 rfl rfl ?_
          refine zi_if_eq (tgt := 104) X dX7_primitive_94 (by decide) (fun c_94 => ?_) (fun c_94 => (by first | exact absurd (by decide) c_94 | exact absurd c_94 (by decide)))
          refine zi_sub (by repeat (first | exact trivial | refine And.intro rfl ?_)) (s104 _ _ hf2 hg2 (fun k hk => rfl) rfl ?_)
          rw [eU, etd]
          rfl
  -- the first loop
  suffices key : ∀ n i g N1, i + n = 7 → nfr M g h → hN cA M N1 g → (∀ k, k < 1232 → N1 k = N k) → N1 1232 = (cont (P j) i : Nat) → zM z 0 0 10 [some (.ref m), some (.ref (M 1 j)), some (.int (nI i)), none] [] g from by
    refine zi_sub (by repeat (first | exact trivial | refine And.intro rfl ?_)) (key 7 0 _ _ rfl (nfr_up (by decide)) (hN_up hn (n := 1232) (by decide) 0) (fun k hk => updI_n (by omega)) updI_s)
  intro n
  induction n with
  | zero =>
    intro i g N1 hi hf hg he ht
    obtain rfl : i = 7 := by omega
    refine zi_iload_n X dX7_primitive_10 rfl rfl ?_
    refine zi_bipush (v := (nI 7)) X dX7_primitive_11 (by decide) ?_
    refine zi_icmp_ge (tgt := 51) X dX7_primitive_13 (by decide) (fun c_13 => ?_) (fun c_13 => (by first | exact absurd (by decide) c_13 | exact absurd c_13 (by decide)))
    exact zi_sub (by repeat (first | exact trivial | refine And.intro rfl ?_)) (fin g N1 hf hg he ht)
  | succ n ih =>
    intro i g N1 hi hf hg he ht
    have i7 : i < 7 := by omega
    have gm := nfr_at hn hf hm hmO
    have a1 := hg.2.1 j hj
    have a3 := hg.1 (7 * j + i) (by omega)
    rw [he _ (by omega), hp i i7] at a3
    have au := hg.1 1233 (by decide)
    refine zi_iload_n X dX7_primitive_10 rfl rfl ?_
    refine zi_bipush (v := (nI 7)) X dX7_primitive_11 (by decide) ?_
    refine zi_icmp_ge (tgt := 51) X dX7_primitive_13 (by decide) (fun c_13 => (by first | exact absurd (c7 i7) c_13 | exact absurd c_13 (c7 i7))) (fun c_13 => ?_)
    refine zi_aload_n X dX7_primitive_16 rfl rfl ?_
    refine zi_iload_n X dX7_primitive_17 rfl rfl ?_
    refine zi_aaldA X 4 (by first | assumption | exact mup_self | (rw [mup_ne (by assumption)]; assumption) | (rw [mup_ne (by assumption)]; exact mup_self) | (rw [mup_ne (by assumption), mup_ne (by assumption)]; assumption)) rfl (vin i7 (by decide)) (pa_at (i := i) i7) dX7_primitive_18 ?_
    refine zi_aload_n X dX7_primitive_19 rfl rfl ?_
    refine zi_getf (C := RX7) (T := TX7) (N := 27) (ci := 11) X (by first | assumption | exact mup_self | (rw [mup_ne (by assumption)]; assumption) | (rw [mup_ne (by assumption)]; exact mup_self) | (rw [mup_ne (by assumption), mup_ne (by assumption)]; assumption)) rfl in_X7 3 (by decide) wf_X7_18 rfl rfl dX7_primitive_20 ?_
    refine zi_callSv X (n_copy l D a3 au (hN_ne hg (by omega) (by decide) (by omega))) kc_X7_copy wm_X7_113 wst_X7_copy ⟨Nat.le_of_ble_eq_true rfl, Nat.le_of_ble_eq_true rfl⟩ rfl rfl (Nat.le_of_ble_eq_true rfl) ⟨Nat.le_of_ble_eq_true rfl, Nat.le_of_ble_eq_true rfl⟩ dX7_primitive_23 (fun h1 hp => ?_)
    subst hp
    have hg1 := hN_up hg (n := 1233) (by decide) (P j i)
    have hf1 : nfr M (mup g (M 0 1233) (nE (cA 0) (P j i))) h := nfr_tr (nfr_up (by decide)) hf
    have gm1 := nfr_at hn hf1 hm hmO
    have bu := hg1.1 1233 (by decide)
    rw [updI_s] at bu
    refine zi_aload_n X dX7_primitive_26 rfl rfl ?_
    refine zi_getf (C := RX7) (T := TX7) (N := 27) (ci := 11) X (by first | assumption | exact mup_self | (rw [mup_ne (by assumption)]; assumption) | (rw [mup_ne (by assumption)]; exact mup_self) | (rw [mup_ne (by assumption), mup_ne (by assumption)]; assumption)) rfl in_X7 3 (by decide) wf_X7_18 rfl rfl dX7_primitive_27 ?_
    refine zi_callSi X (n_bare l D bu (nB_C (hb i i7))) kc_X7_bare wm_X7_155 wst_X7_bare ⟨Nat.le_of_ble_eq_true rfl, Nat.le_of_ble_eq_true rfl⟩ rfl rfl (Nat.le_of_ble_eq_true rfl) ⟨Nat.le_of_ble_eq_true rfl, Nat.le_of_ble_eq_true rfl⟩ dX7_primitive_30 (fun r h1 hp => ?_)
    obtain ⟨rfl, rfl⟩ := hp
    rw [mup_mup]
    have hg2 := hN_up hg (n := 1233) (by decide) ((P j i).natAbs : Int)
    have hf2 : nfr M (mup g (M 0 1233) (nE (cA 0) ((P j i).natAbs : Int))) h := nfr_tr (nfr_up (by decide)) hf
    have gm2 := nfr_at hn hf2 hm hmO
    have cu := hg2.1 1233 (by decide)
    have ct := hg2.1 1232 (by decide)
    rw [updI_s] at cu
    rw [updI_n (by decide), ht] at ct
    refine zi_pop X dX7_primitive_33 rfl ?_
    refine zi_aload_n X dX7_primitive_34 rfl rfl ?_
    refine zi_getf (C := RX7) (T := TX7) (N := 27) (ci := 11) X (by first | assumption | exact mup_self | (rw [mup_ne (by assumption)]; assumption) | (rw [mup_ne (by assumption)]; exact mup_self) | (rw [mup_ne (by assumption), mup_ne (by assumption)]; assumption)) rfl in_X7 2 (by decide) wf_X7_14 rfl rfl dX7_primitive_35 ?_
    refine zi_aload_n X dX7_primitive_38 rfl rfl ?_
    refine zi_getf (C := RX7) (T := TX7) (N := 27) (ci := 11) X (by first | assumption | exact mup_self | (rw [mup_ne (by assumption)]; assumption) | (rw [mup_ne (by assumption)]; exact mup_self) | (rw [mup_ne (by assumption), mup_ne (by assumption)]; assumption)) rfl in_X7 3 (by decide) wf_X7_18 rfl rfl dX7_primitive_39 ?_
    refine zi_callSv X (n_divisor l D ct cu (hN_ne hg2 (by decide) (by decide) (by decide)) (nB_C (by unfold nC; rw [Int.natAbs_natCast]; exact cont_KN hb i (by omega))) (nC_abs (hb i i7))) kc_X7_divisor wm_X7_159 wst_X7_divisor ⟨Nat.le_of_ble_eq_true rfl, Nat.le_of_ble_eq_true rfl⟩ rfl rfl (Nat.le_of_ble_eq_true rfl) ⟨Nat.le_of_ble_eq_true rfl, Nat.le_of_ble_eq_true rfl⟩ dX7_primitive_42 (fun h1 hp => ?_)
    obtain ⟨w, hw, rfl⟩ := hp
    refine zi_iinc (v := nI (i + 1)) X dX7_primitive_45 rfl (nI_inc _) (by decide) ?_
    refine zi_goto (tgt := 10) X dX7_primitive_48 (by decide) ?_
    refine zi_sub (by repeat (first | exact trivial | refine And.intro rfl ?_)) (ih (i + 1) _ _ (by omega) (nfr_tr (nfr_tr (nfr_up (by decide)) (nfr_up (by decide))) hf2) (hN_up (hN_up hg2 (n := 1232) (by decide) _) (n := 1233) (by decide) _) (fun k hk => ?_) ?_)
    · rw [updI_n (by omega), updI_n (by omega), updI_n (by omega), he k hk]
    · rw [updI_n (by decide), updI_s]
      rfl
end RW3
