/-! SturmRootsModel: the lists of intervals: longer, place, opens -/
def capK (cap : Nat) : Prop := cap ≤ 2048 ∧ ∃ e, cap = 64 * 2 ^ e
theorem capK_ok {cap : Nat} (h : capK cap) : capOk cap := by
  obtain ⟨h1, e, he⟩ := h
  have := Nat.two_pow_pos e
  refine ⟨by omega, by omega, fun q => ?_, e, he⟩
  rw [q] at he
  cases e with
  | zero => omega
  | succ e => cases e with
    | zero => omega
    | succ e => rw [Nat.pow_succ, Nat.pow_succ] at he; omega
theorem capK_2 {cap : Nat} (h : capK cap) (h2 : cap ≤ 1100) : 2 * cap ≤ 2048 ∧ capK (2 * cap) := by
  obtain ⟨h1, e, he⟩ := h
  have h5 : e < 5 := by
    have : 2 ^ e < 2 ^ 5 := by omega
    exact (Nat.pow_lt_pow_iff_right (by decide)).mp this
  have : 2 ^ e ≤ 2 ^ 4 := Nat.pow_le_pow_right (by decide) (by omega)
  refine ⟨by omega, by omega, e + 1, ?_⟩
  rw [Nat.pow_succ]
  omega
def rF (cA : Nat → ClassId) (M : Nat → Nat → Nat) (h : mH) (o : RO) (Sl : Nat → Nat → Int) (kp : Nat → Int) (caps : Nat → Nat) (f : Nat → Nat → Int32) (P : Nat → Nat → Int) : Prop := hQ cA M P h ∧ rX cA M h o Sl kp ∧ ((∀ t, t < 4 → h (o.2.2.2 t) = some (liE (cA 0) (caps t) (f t)) ∧ capK (caps t)) ∧ ∀ s t, s < 4 → t < 4 → o.2.2.2 s = o.2.2.2 t → s = t) ∧ rD M
def ivs (f : Nat → Nat → Int32) (n : Nat) (V : Nat → Iv) : Prop := ∀ i, i < n → f 0 i = nI (V i).1 ∧ f 1 i = iI (V i).2.1 ∧ f 2 i = iI (V i).2.2.1 ∧ f 3 i = iI (V i).2.2.2
section LS
variable {cA : Nat → ClassId} {M : Nat → Nat → Nat} {h h1 : mH} {o : RO} {Sl : Nat → Nat → Int} {kp : Nat → Int} {caps : Nat → Nat} {f : Nat → Nat → Int32} {P : Nat → Nat → Int}
/-- numbers change, and the search's counters -/
theorem rF_n (hu : rF cA M h o Sl kp caps f P) (hf : nfr M h1 h) {P1 : Nat → Nat → Int} (hq : hQ cA M P1 h1) : rF cA M h1 o Sl kp caps f P1 := by
  obtain ⟨h0, ⟨x1, x2, x3, x4, x5, x6, ⟨c, x7⟩, g, x8⟩, ⟨v1, v2⟩, hd⟩ := hu
  have go : ∀ {a : Nat} {e : va_E}, h a = some e → (kd e == (1, 48)) = false → h1 a = some e := fun ha hk => hQ_fr h0 hf ha (kd_nE hk)
  exact ⟨hq, ⟨go x1 rfl, go x2 rfl, fun i hi => go (x3 i hi) rfl, go x4 rfl, go x5 rfl, go x6 rfl, ⟨c, go x7 rfl⟩, g, go x8 rfl⟩, ⟨fun t ht => ⟨go (v1 t ht).1 (cap_kd (capK_ok (v1 t ht).2)).1, (v1 t ht).2⟩, v2⟩, hd⟩
theorem rF_b (hu : rF cA M h o Sl kp caps f P) (hf : bfr M h1 h) {P1 : Nat → Nat → Int} (hq : hQ cA M P1 h1) (hc : ∃ c, h1 (M 2 2) = some (cmE (cA 0) c)) : rF cA M h1 o Sl kp caps f P1 := by
  obtain ⟨⟨N, hN0, hP⟩, ⟨x1, x2, x3, x4, x5, x6, ⟨c, x7⟩, g, x8⟩, ⟨v1, v2⟩, hd⟩ := hu
  have go : ∀ {a : Nat} {e : va_E}, h a = some e → (kd e == (1, 48)) = false → (kd e == (1, 160)) = false → h1 a = some e := fun {a} {e} ha hk hk2 => by
    rw [hf a (hN_out hN0 ha (kd_nE hk)) (kd_ne ha x7 hk2)]
    exact ha
  exact ⟨hq, ⟨go x1 rfl rfl, go x2 rfl rfl, fun i hi => go (x3 i hi) rfl rfl, go x4 rfl rfl, go x5 rfl rfl, go x6 rfl rfl, hc, g, go x8 rfl rfl⟩, ⟨fun t ht => ⟨go (v1 t ht).1 (cap_kd (capK_ok (v1 t ht).2)).1 (cap_kd (capK_ok (v1 t ht).2)).2.2, (v1 t ht).2⟩, v2⟩, hd⟩
theorem rF_o (hu : rF cA M h o Sl kp caps f P) (o1 : RO) (hR : o1.2.2.2 = o.2.2.2) : rF cA M (mup h (M 3 0) (mO M o1)) o1 Sl kp caps f P := by
  obtain ⟨h0, ⟨x1, x2, x3, x4, x5, x6, ⟨c, x7⟩, g, x8⟩, ⟨v1, v2⟩, hd⟩ := hu
  have go : ∀ {a : Nat} {e : va_E}, h a = some e → (kd e == (0, 0)) = false → mup h (M 3 0) (mO M o1) a = some e := fun ha hk => by rw [mup_ne (kd_ne ha x1 hk)]; exact ha
  refine ⟨hQ_up h0 x1 rfl rfl, ⟨mup_self, go x2 rfl, fun i hi => go (x3 i hi) rfl, go x4 rfl, go x5 rfl, go x6 rfl, ⟨c, go x7 rfl⟩, g, go x8 rfl⟩, ?_, hd⟩
  rw [hR]
  exact ⟨fun t ht => ⟨go (v1 t ht).1 rfl, (v1 t ht).2⟩, v2⟩
/-- a list is written -/
theorem rF_l (hu : rF cA M h o Sl kp caps f P) {t : Nat} (ht : t < 4) (g : Nat → Int32) : rF cA M (mup h (o.2.2.2 t) (liE (cA 0) (caps t) g)) o Sl kp caps (fun s => if s = t then g else f s) P := by
  obtain ⟨h0, ⟨x1, x2, x3, x4, x5, x6, ⟨c, x7⟩, gm, x8⟩, ⟨v1, v2⟩, hd⟩ := hu
  have vt := (v1 t ht).1
  have ck := cap_kd (capK_ok (v1 t ht).2)
  have go : ∀ {a : Nat} {e : va_E}, h a = some e → (kd e == (1, caps t)) = false → mup h (o.2.2.2 t) (liE (cA 0) (caps t) g) a = some e := fun ha hk => by rw [mup_ne (kd_ne ha vt hk)]; exact ha
  have sy : ∀ (a b : Nat × Nat), (a == b) = false → (b == a) = false := fun a b q => by
    rw [beq_eq_false_iff_ne] at *
    exact fun w => q w.symm
  refine ⟨hQ_up h0 vt ck.1 rfl, ⟨go x1 rfl, go x2 rfl, fun i hi => go (x3 i hi) (sy _ _ ck.2.1), go x4 (sy _ _ ck.2.1), go x5 rfl, go x6 rfl, ⟨c, go x7 (sy _ _ ck.2.2)⟩, gm, go x8 rfl⟩, ⟨fun s hs => ?_, v2⟩, hd⟩
  refine ⟨?_, (v1 s hs).2⟩
  dsimp only
  by_cases e : s = t
  · rw [e, mup_self, if_pos rfl]
  · rw [if_neg e, mup_ne (fun q => e (v2 s t hs ht q))]
    exact (v1 s hs).1
/-- a new cell elsewhere -/
theorem rF_q (hu : rF cA M h o Sl kp caps f P) {q : Nat} (hq : h q = none) (e : va_E) : rF cA M (mup h q e) o Sl kp caps f P := by
  obtain ⟨⟨N, hN0, hP⟩, ⟨x1, x2, x3, x4, x5, x6, ⟨c, x7⟩, g, x8⟩, ⟨v1, v2⟩, hd⟩ := hu
  have go : ∀ {a : Nat} {e' : va_E}, h a = some e' → mup h q e a = some e' := fun {a} {e'} ha => by
    rw [mup_ne (fun w => by rw [w, hq] at ha; cases ha)]
    exact ha
  exact ⟨⟨N, ⟨fun n hn => go (hN0.1 n hn), fun j hj => go (hN0.2.1 j hj), hN0.2.2⟩, hP⟩, ⟨go x1, go x2, fun i hi => go (x3 i hi), go x4, go x5, go x6, ⟨c, go x7⟩, g, go x8⟩, ⟨fun t ht => ⟨go (v1 t ht).1, (v1 t ht).2⟩, v2⟩, hd⟩
/-- .. becomes a list -/
theorem rF_r (hu : rF cA M h o Sl kp caps f P) {q t cap : Nat} (ht : t < 4) {g : Nat → Int32} (hq : h q = some (liE (cA 0) cap g)) (hc : capK cap) (hne : ∀ s, s < 4 → q ≠ o.2.2.2 s) (o1 : RO) (ho : o1.2.2.2 = fun s => if s = t then q else o.2.2.2 s) : rF cA M (mup h (M 3 0) (mO M o1)) o1 Sl kp (fun s => if s = t then cap else caps s) (fun s => if s = t then g else f s) P := by
  obtain ⟨h0, ⟨x1, x2, x3, x4, x5, x6, ⟨c, x7⟩, gm, x8⟩, ⟨v1, v2⟩, hd⟩ := hu
  have go : ∀ {a : Nat} {e : va_E}, h a = some e → (kd e == (0, 0)) = false → mup h (M 3 0) (mO M o1) a = some e := fun ha hk => by rw [mup_ne (kd_ne ha x1 hk)]; exact ha
  refine ⟨hQ_up h0 x1 rfl rfl, ⟨mup_self, go x2 rfl, fun i hi => go (x3 i hi) rfl, go x4 rfl, go x5 rfl, go x6 rfl, ⟨c, go x7 rfl⟩, gm, go x8 rfl⟩, ⟨fun s hs => ?_, fun s u hs hu e => ?_⟩, hd⟩
  · rw [ho]
    dsimp only
    by_cases e : s = t
    · rw [if_pos e, if_pos e, if_pos e]
      exact ⟨go hq rfl, hc⟩
    · rw [if_neg e, if_neg e, if_neg e]
      exact ⟨go (v1 s hs).1 rfl, (v1 s hs).2⟩
  · rw [ho] at e
    dsimp only at e
    by_cases e1 : s = t
    · by_cases e2 : u = t
      · rw [e1, e2]
      · rw [if_pos e1, if_neg e2] at e
        exact absurd e (hne u hu)
    · by_cases e2 : u = t
      · rw [if_neg e1, if_pos e2] at e
        exact absurd e.symm (hne s hs)
      · rw [if_neg e1, if_neg e2] at e
        exact v2 s u hs hu e
theorem s_longer (l : Launch) (D : va_G) {a cap : Nat} {g : Nat → Int32} (ha : h a = some (liE (cA 0) cap g)) (hc : 2 * cap ≤ 2048) :
    mCr l yX7_longer cX7_longer 3 (.array .int) (rmc 1 1 2048) D (mT cA) [.ref a] h (fun q h1 => h q = none ∧ h1 = mup h q (liE (cA 0) (2 * cap) (fun k => if k < cap then g k else 0))) := by
  refine mEnter_r (by decide) (Nat.le_of_ble_eq_true rfl) rfl (fun z X Vz => ?_)
  have hcl : nI 2 * nI cap = nI (2 * cap) := pk_mul 2 cap
  have hcn : (nI cap).toNatClampNeg = cap := nI_cl (by omega)
  refine zi_iconst (v := (nI 2)) X dX7_longer_0 (by decide) ?_
  refine zi_aload_n X dX7_longer_1 rfl rfl ?_
  refine zi_alen X 0 (by first | assumption | exact mup_self | (rw [mup_ne (by assumption)]; assumption) | (rw [mup_ne (by assumption)]; exact mup_self) | (rw [mup_ne (by assumption), mup_ne (by assumption)]; assumption)) rfl (show Int32.ofNat cap = nI cap from rfl) dX7_longer_2 ?_
  refine zi_imul X dX7_longer_3 ?_
  rw [hcl]
  refine zi_newa (atype := .int) (ty := .int) (t0 := 0) (N' := 2 * cap) (a0 := (2 * cap, .inl (fun _ => 0))) X rfl wac_int rfl (fun _ => rfl) (nI_pos (by omega)) (nI_cl (by omega)) (by show 2 * cap * 4 ≤ 536870912; omega) (Nat.le_of_ble_eq_true rfl) (by show 0 + 2 * cap ≤ 2048; omega) dX7_longer_4 (fun q hq => ?_)
  have hqa : a ≠ q := fun w => by rw [w, hq] at ha; cases ha
  refine zi_widen (k := 1) (n := 2048) (by decide) (by omega) ?_
  refine zi_astore_n X dX7_longer_6 rfl (by decide) ?_
  refine zi_iconst (v := (nI 0)) X dX7_longer_7 (by decide) ?_
  refine zi_istore_n X dX7_longer_8 rfl (by decide) ?_
  suffices key : ∀ w i, i + w = cap → zM z 1 2048 9 [some (.ref a), some (.ref q), some (.int (nI i))] [] (mup h q (liE (cA 0) (2 * cap) (fun k => if k < i then g k else 0))) from by
    have := key cap 0 (Nat.zero_add cap)
    have e0 : (fun k => if k < 0 then g k else 0) = (fun _ => (0 : Int32)) := funext fun k => if_neg (Nat.not_lt_zero k)
    rw [e0] at this
    exact zi_sub (by repeat (first | exact trivial | refine And.intro rfl ?_)) this
  intro w
  induction w with
  | zero =>
    intro i hi
    obtain rfl : i = cap := by omega
    refine zi_iload_n X dX7_longer_9 rfl rfl ?_
    refine zi_aload_n X dX7_longer_10 rfl rfl ?_
    refine zi_alen X 0 (by first | assumption | exact mup_self | (rw [mup_ne (by assumption)]; assumption) | (rw [mup_ne (by assumption)]; exact mup_self) | (rw [mup_ne (by assumption), mup_ne (by assumption)]; assumption)) rfl (show Int32.ofNat i = nI i from rfl) dX7_longer_11 ?_
    refine zi_icmp_ge (tgt := 27) X dX7_longer_12 (by decide) (fun c_12 => ?_) (fun c_12 => (by first | exact absurd (Int32.le_refl _) c_12 | exact absurd c_12 (Int32.le_refl _)))
    refine zi_aload_n X dX7_longer_27 rfl rfl ?_
    refine zi_areturn X Vz (by first | exact Or.inl ⟨_, rfl⟩ | exact Or.inr ⟨_, rfl⟩) dX7_longer_28 ?_
    exact ⟨hq, rfl⟩
  | succ w ih =>
    intro i hi
    have gq : mup h q (liE (cA 0) (2 * cap) (fun k => if k < i then g k else 0)) q = some (liE (cA 0) (2 * cap) (fun k => if k < i then g k else 0)) := mup_self
    have ga : mup h q (liE (cA 0) (2 * cap) (fun k => if k < i then g k else 0)) a = some (liE (cA 0) cap g) := by rw [mup_ne hqa]; exact ha
    refine zi_iload_n X dX7_longer_9 rfl rfl ?_
    refine zi_aload_n X dX7_longer_10 rfl rfl ?_
    refine zi_alen X 0 ga rfl (show Int32.ofNat cap = nI cap from rfl) dX7_longer_11 ?_
    refine zi_icmp_ge (tgt := 27) X dX7_longer_12 (by decide) (fun c_12 => (by first | exact absurd (nI_ge (show i < cap by omega) (by omega)) c_12 | exact absurd c_12 (nI_ge (show i < cap by omega) (by omega)))) (fun c_12 => ?_)
    refine zi_aload_n X dX7_longer_15 rfl rfl ?_
    refine zi_iload_n X dX7_longer_16 rfl rfl ?_
    refine zi_aload_n X dX7_longer_17 rfl rfl ?_
    refine zi_iload_n X dX7_longer_18 rfl rfl ?_
    refine zi_iald X 0 ga rfl (vp_in_nI (show i < cap by omega) (by omega)) dX7_longer_19 ?_
    refine zi_iast X 0 gq rfl (vp_in_nI (show i < 2 * cap by omega) (by omega)) dX7_longer_20 ?_
    refine zi_iinc (v := nI (i + 1)) X dX7_longer_21 rfl (nI_inc _) (by decide) ?_
    refine zi_goto (tgt := 9) X dX7_longer_24 (by decide) ?_
    rw [nI_cl (show i < 2147483648 by omega), mup_mup]
    have eu : upd (fun k => if k < i then g k else 0) i (g i) = fun k => if k < i + 1 then g k else 0 := by
      funext k
      unfold upd
      dsimp only
      by_cases c : k = i
      · rw [if_pos c, if_pos (by omega), c]
      · rw [if_neg c]
        by_cases q : k < i
        · rw [if_pos q, if_pos (by omega)]
        · rw [if_neg q, if_neg (by omega)]
    rw [eu]
    exact zi_sub (by repeat (first | exact trivial | refine And.intro rfl ?_)) (ih (i + 1) (by omega))
/-- the roots of an interval -/
def ctI (p : Nat → Int) (d : Nat) (m n : Int) : Nat := if m = n then 1 else cntN (stI p 7 - 1) 159 (btF p m (n - m) d (stI p 7) (stI p 7))
def ctOk (p : Nat → Int) (d : Nat) (m n : Int) : Prop := m.natAbs < 2147483648 ∧ n.natAbs < 2147483648 ∧ d ≤ 13 ∧ (m ≠ n → pC p ∧ stI p 7 ≠ 0 ∧ okT (stI p 7 - 1) 159 (btF p m (n - m) d (stI p 7) (stI p 7)))
theorem u_place (l : Launch) (D : va_G) (hu : rF cA M h o Sl kp caps f P) {a d : Nat} {m n : Int} (ha : ∀ t, t < 4 → a < caps t) (hok : ctOk (P 7) d m n) :
    mCv l yX7_place cX7_place 5 (rmd 6) D (mT cA) [.ref (M 3 0), .int (nI a), .int (nI d), .int (iI m), .int (iI n)] h (fun h1 => ∃ P', rF cA M h1 o Sl kp caps (fun t => upd (f t) a (if t = 0 then nI d else if t = 1 then iI m else if t = 2 then iI n else nI (ctI (P 7) d m n))) P' ∧ P' 7 = P 7) := by
  obtain ⟨hm, hn, hd, hok⟩ := hok
  have a31 : a < 2147483648 := by have := ha 0 (by decide); have := (hu.2.2.1.1 0 (by decide)).2.1; omega
  have vi : ∀ t, t < 4 → vp_in (nI a) (caps t) := fun t ht => vp_in_nI (ha t ht) (by have := (hu.2.2.1.1 t ht).2.1; omega)
  have x1 := hu.2.1.1
  have l0 := (hu.2.2.1.1 0 (by decide)).1
  refine mEnter_v (by decide) (Nat.le_of_ble_eq_true rfl) rfl (fun z X Vz => ?_)
  refine zi_aload_n X dX7_place_0 rfl rfl ?_
  refine zi_getf (C := RX7) (T := TX7) (N := 27) (ci := 11) X (by first | assumption | exact mup_self | (rw [mup_ne (by assumption)]; assumption) | (rw [mup_ne (by assumption)]; exact mup_self) | (rw [mup_ne (by assumption), mup_ne (by assumption)]; assumption)) rfl in_X7 22 (by decide) wf_X7_75 rfl rfl dX7_place_1 ?_
  refine zi_iload_n X dX7_place_4 rfl rfl ?_
  refine zi_iload_n X dX7_place_5 rfl rfl ?_
  refine zi_iast X 0 (by first | assumption | exact mup_self | (rw [mup_ne (by assumption)]; assumption) | (rw [mup_ne (by assumption)]; exact mup_self) | (rw [mup_ne (by assumption), mup_ne (by assumption)]; assumption)) rfl (vi 0 (by decide)) dX7_place_6 ?_
  rw [nI_cl a31]
  have hu1 := rF_l hu (t := 0) (by decide) (upd (f 0) a (nI d))
  have y1 := hu1.2.1.1
  have l1 := (hu1.2.2.1.1 1 (by decide)).1
  refine zi_eqh (h' := mup h (o.2.2.2 0) (liE (cA 0) (caps 0) (upd (f 0) a (nI d)))) rfl ?_
  refine zi_aload_n X dX7_place_7 rfl rfl ?_
  refine zi_getf (C := RX7) (T := TX7) (N := 27) (ci := 11) X (by first | assumption | exact mup_self | (rw [mup_ne (by assumption)]; assumption) | (rw [mup_ne (by assumption)]; exact mup_self) | (rw [mup_ne (by assumption), mup_ne (by assumption)]; assumption)) rfl in_X7 23 (by decide) wf_X7_78 rfl rfl dX7_place_8 ?_
  refine zi_iload_n X dX7_place_11 rfl rfl ?_
  refine zi_iload_n X dX7_place_12 rfl rfl ?_
  refine zi_iast X 0 (by first | assumption | exact mup_self | (rw [mup_ne (by assumption)]; assumption) | (rw [mup_ne (by assumption)]; exact mup_self) | (rw [mup_ne (by assumption), mup_ne (by assumption)]; assumption)) rfl (vi 1 (by decide)) dX7_place_13 ?_
  rw [nI_cl a31]
  have hu2 := rF_l hu1 (t := 1) (by decide) (upd (f 1) a (iI m))
  have w1 := hu2.2.1.1
  have l2 := (hu2.2.2.1.1 2 (by decide)).1
  refine zi_eqh (h' := mup (mup h (o.2.2.2 0) (liE (cA 0) (caps 0) (upd (f 0) a (nI d)))) (o.2.2.2 1) (liE (cA 0) (caps 1) (upd (f 1) a (iI m)))) rfl ?_
  refine zi_aload_n X dX7_place_14 rfl rfl ?_
  refine zi_getf (C := RX7) (T := TX7) (N := 27) (ci := 11) X (by first | assumption | exact mup_self | (rw [mup_ne (by assumption)]; assumption) | (rw [mup_ne (by assumption)]; exact mup_self) | (rw [mup_ne (by assumption), mup_ne (by assumption)]; assumption)) rfl in_X7 24 (by decide) wf_X7_81 rfl rfl dX7_place_15 ?_
  refine zi_iload_n X dX7_place_18 rfl rfl ?_
  refine zi_iload X dX7_place_19 rfl ?_
  refine zi_iast X 0 (by first | assumption | exact mup_self | (rw [mup_ne (by assumption)]; assumption) | (rw [mup_ne (by assumption)]; exact mup_self) | (rw [mup_ne (by assumption), mup_ne (by assumption)]; assumption)) rfl (vi 2 (by decide)) dX7_place_21 ?_
  rw [nI_cl a31]
  have hu3 := rF_l hu2 (t := 2) (by decide) (upd (f 2) a (iI n))
  refine zi_eqh (h' := mup (mup (mup h (o.2.2.2 0) (liE (cA 0) (caps 0) (upd (f 0) a (nI d)))) (o.2.2.2 1) (liE (cA 0) (caps 1) (upd (f 1) a (iI m)))) (o.2.2.2 2) (liE (cA 0) (caps 2) (upd (f 2) a (iI n)))) rfl ?_
  generalize mup (mup (mup h (o.2.2.2 0) (liE (cA 0) (caps 0) (upd (f 0) a (nI d)))) (o.2.2.2 1) (liE (cA 0) (caps 1) (upd (f 1) a (iI m)))) (o.2.2.2 2) (liE (cA 0) (caps 2) (upd (f 2) a (iI n))) = g3 at hu3
  have v1 := hu3.2.1.1
  -- stored
  have s51 : ∀ (g4 : mH) (Q : Nat → Nat → Int) (v : Nat), rF cA M g4 o Sl kp caps (fun s => if s = 2 then upd (f 2) a (iI n) else if s = 1 then upd (f 1) a (iI m) else if s = 0 then upd (f 0) a (nI d) else f s) Q → Q 7 = P 7 → v = ctI (P 7) d m n → zM z 0 0 51 [some (.ref (M 3 0)), some (.int (nI a)), some (.int (nI d)), some (.int (iI m)), some (.int (iI n))] [.int (nI v), .int (nI a), .ref (o.2.2.2 3)] g4 := fun g4 Q v hu4 q7 hv => by
    have l3 := (hu4.2.2.1.1 3 (by decide)).1
    refine zi_iast X 0 (by first | assumption | exact mup_self | (rw [mup_ne (by assumption)]; assumption) | (rw [mup_ne (by assumption)]; exact mup_self) | (rw [mup_ne (by assumption), mup_ne (by assumption)]; assumption)) rfl (vi 3 (by decide)) dX7_place_51 ?_
    rw [nI_cl a31]
    have hu5 := rF_l hu4 (t := 3) (by decide) (upd (f 3) a (nI v))
    refine zi_return X Vz dX7_place_52 ?_
    refine ⟨Q, ?_, q7⟩
    have e : (fun t => upd (f t) a (if t = 0 then nI d else if t = 1 then iI m else if t = 2 then iI n else nI (ctI (P 7) d m n))) = (fun t => if t < 4 then upd (f t) a (if t = 0 then nI d else if t = 1 then iI m else if t = 2 then iI n else nI (ctI (P 7) d m n)) else upd (f t) a (nI (ctI (P 7) d m n))) := by
      funext t
      by_cases c : t < 4
      · rw [if_pos c]
      · rw [if_neg c, if_neg (by omega), if_neg (by omega), if_neg (by omega)]
    refine ⟨hu5.1, hu5.2.1, ⟨fun t ht => ?_, hu5.2.2.1.2⟩, hu5.2.2.2⟩
    refine ⟨?_, (hu5.2.2.1.1 t ht).2⟩
    rw [← hv]
    have := (hu5.2.2.1.1 t ht).1
    rcases (show t = 0 ∨ t = 1 ∨ t = 2 ∨ t = 3 by omega) with rfl | rfl | rfl | rfl
    · exact this
    · exact this
    · exact this
    · exact this
  by_cases c : m = n
  · refine zi_aload_n X dX7_place_22 rfl rfl ?_
    refine zi_getf (C := RX7) (T := TX7) (N := 27) (ci := 11) X (by first | assumption | exact mup_self | (rw [mup_ne (by assumption)]; assumption) | (rw [mup_ne (by assumption)]; exact mup_self) | (rw [mup_ne (by assumption), mup_ne (by assumption)]; assumption)) rfl in_X7 25 (by decide) wf_X7_84 rfl rfl dX7_place_23 ?_
    refine zi_iload_n X dX7_place_26 rfl rfl ?_
    refine zi_iload_n X dX7_place_27 rfl rfl ?_
    refine zi_iload X dX7_place_28 rfl ?_
    refine zi_icmp_ne (tgt := 37) X dX7_place_30 (by decide) (fun c_30 => (by first | exact absurd (by rw [c]) c_30 | exact absurd c_30 (by rw [c]))) (fun c_30 => ?_)
    refine zi_iconst (v := (nI 1)) X dX7_place_33 (by decide) ?_
    refine zi_goto (tgt := 51) X dX7_place_34 (by decide) ?_
    exact zi_sub (by repeat (first | exact trivial | refine And.intro rfl ?_)) (s51 g3 P 1 hu3 rfl (by unfold ctI; rw [if_pos c]))
  · obtain ⟨k1, k2, k3⟩ := hok c
    obtain ⟨g, hg⟩ : ∃ g, stI (P 7) 7 = g + 1 := ⟨stI (P 7) 7 - 1, by omega⟩
    rw [hg, Nat.add_sub_cancel] at k3
    have em : (iI m).toInt64.toInt = m := iI_l (by omega)
    have en : (iI n).toInt64.toInt = n := iI_l (by omega)
    have v5 := hu3.2.1.2.2.2.2.1
    have v7 := hu3.2.1.2.2.2.2.2.2.1
    have cne : ¬ iI m = iI n := fun q => c (iI_inj (by omega) (by omega) q)
    refine zi_aload_n X dX7_place_22 rfl rfl ?_
    refine zi_getf (C := RX7) (T := TX7) (N := 27) (ci := 11) X (by first | assumption | exact mup_self | (rw [mup_ne (by assumption)]; assumption) | (rw [mup_ne (by assumption)]; exact mup_self) | (rw [mup_ne (by assumption), mup_ne (by assumption)]; assumption)) rfl in_X7 25 (by decide) wf_X7_84 rfl rfl dX7_place_23 ?_
    refine zi_iload_n X dX7_place_26 rfl rfl ?_
    refine zi_iload_n X dX7_place_27 rfl rfl ?_
    refine zi_iload X dX7_place_28 rfl ?_
    refine zi_icmp_ne (tgt := 37) X dX7_place_30 (by decide) (fun c_30 => ?_) (fun c_30 => (by first | exact absurd cne c_30 | exact absurd c_30 cne))
    refine zi_aload_n X dX7_place_37 rfl rfl ?_
    refine zi_aload_n X dX7_place_38 rfl rfl ?_
    refine zi_getf (C := RX7) (T := TX7) (N := 27) (ci := 11) X (by first | assumption | exact mup_self | (rw [mup_ne (by assumption)]; assumption) | (rw [mup_ne (by assumption)]; exact mup_self) | (rw [mup_ne (by assumption), mup_ne (by assumption)]; assumption)) rfl in_X7 21 (by decide) wf_X7_72 rfl rfl dX7_place_39 ?_
    refine zi_iload_n X dX7_place_42 rfl rfl ?_
    refine zi_i2l X dX7_place_43 ?_
    refine zi_iload X dX7_place_44 rfl ?_
    refine zi_i2l X dX7_place_46 ?_
    refine zi_iload_n X dX7_place_47 rfl rfl ?_
    refine zi_callVi X (r_between l D v1 hu3.1 v7 v5 (j := 7) (g := g) (f := 159) (k := d) (x := (iI m).toInt64) (y := (iI n).toInt64) (by decide) k1 hg (by omega) (by rw [em]; unfold CC; omega) (by rw [em, en]; unfold CC; omega) (Nat.le_refl _) (by rw [em, en]; exact k3)) kc_X7_between wm_X7_267 (by first | assumption | exact mup_self | (rw [mup_ne (by assumption)]; assumption) | (rw [mup_ne (by assumption)]; exact mup_self) | (rw [mup_ne (by assumption), mup_ne (by assumption)]; assumption)) rfl wim_X7_between wse_X7_between ⟨Nat.le_of_ble_eq_true rfl, Nat.le_of_ble_eq_true rfl⟩ rfl rfl (Nat.le_of_ble_eq_true rfl) ⟨Nat.le_of_ble_eq_true rfl, Nat.le_of_ble_eq_true rfl⟩ dX7_place_48 (fun r h4 hp => ?_)
    obtain ⟨rfl, hf4, ⟨Q4, hq4, qk4⟩, hc4⟩ := hp
    rw [em, en]
    refine zi_sub (by repeat (first | exact trivial | refine And.intro rfl ?_)) (s51 h4 Q4 _ (rF_b hu3 hf4 hq4 hc4) (qk4 7 (by decide) (by decide)) ?_)
    unfold ctI
    rw [if_neg c, hg]
    rfl
end LS
