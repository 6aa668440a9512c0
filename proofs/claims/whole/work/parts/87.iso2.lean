/-! the isolation with its list: n intervals V 0 .. V (n - 1) (level, low, high, roots); T: the addresses that are its own and may be written -/
def hIn (S : Nat → Nat → Nat) (a : Nat) : Prop := (∃ n, n < 164 ∧ (a = S 0 n ∨ a = S 1 n)) ∨ (∃ j, j < 22 ∧ (a = S 2 j ∨ a = S 3 j)) ∨ (∃ q, q < 2 ∧ (a = S 4 q ∨ a = S 5 q)) ∨ a = S 6 0
theorem hIn_out {S : Nat → Nat → Nat} {a : Nat} (h : ¬ hIn S a) : hOut S a := ⟨fun n hn => ⟨fun w => h (Or.inl ⟨n, hn, Or.inl w⟩), fun w => h (Or.inl ⟨n, hn, Or.inr w⟩)⟩, fun j hj w => h (Or.inr (Or.inl ⟨j, hj, Or.inl w⟩)), fun q hq w => h (Or.inr (Or.inr (Or.inl ⟨q, hq, Or.inl w⟩)))⟩
section ISO3
variable {cA : Nat → ClassId} {D : va_G} {S : Nat → Nat → Nat} {P : Nat → Nat → Int} {G Ln : Nat → Nat} {h h1 : mH}
theorem hP_in (hh : hP cA S P G Ln h) {a : Nat} (ha : hIn S a) : ∃ x, h a = some x ∧ ∀ ci fs, x = .inr (ci, fs) → ci = 4 ∨ ci = 5 ∨ ci = 8 ∨ ci = 9 := by
  obtain ⟨B, ⟨a1, a2, a3, a4, a5⟩, -⟩ := hh
  rcases ha with ⟨n, hn, rfl | rfl⟩ | ⟨j, hj, rfl | rfl⟩ | ⟨q, hq, rfl | rfl⟩ | rfl
  · exact ⟨_, (a1 n hn).1, fun ci fs q => by cases q; simp⟩
  · exact ⟨_, (a1 n hn).2.1, fun ci fs q => by cases q⟩
  · exact ⟨_, (a2 j hj).1, fun ci fs q => by cases q; simp⟩
  · exact ⟨_, (a2 j hj).2, fun ci fs q => by cases q⟩
  · exact ⟨_, (a3 q hq).1, fun ci fs q => by cases q; simp⟩
  · exact ⟨_, (a3 q hq).2, fun ci fs q => by cases q⟩
  · exact ⟨_, a4, fun ci fs q => by cases q; simp⟩
theorem hP_new (hh : hP cA S P G Ln h) {a : Nat} (ha : h a = none) : ¬ hIn S a := fun w => by
  obtain ⟨x, hx, -⟩ := hP_in hh w
  rw [ha] at hx; cases hx
theorem hP_notin (hh : hP cA S P G Ln h) {a ci : Nat} {fs : List Value} (ha : h a = some (.inr (ci, fs))) (hci : ci ≠ 4 ∧ ci ≠ 5 ∧ ci ≠ 8 ∧ ci ≠ 9) : ¬ hIn S a := fun w => by
  obtain ⟨x, hx, h2⟩ := hP_in hh w
  rw [ha] at hx; cases hx
  rcases h2 _ _ rfl with q | q | q | q
  · exact hci.1 q
  · exact hci.2.1 q
  · exact hci.2.2.1 q
  · exact hci.2.2.2 q
theorem hP_keep (hh : hP cA S P G Ln h) (hk : ∀ a, hIn S a → h1 a = h a) : hP cA S P G Ln h1 := by
  obtain ⟨B, ⟨a1, a2, a3, a4, a5⟩, hB⟩ := hh
  refine ⟨B, ⟨fun n hn => ⟨?_, ?_, (a1 n hn).2.2⟩, fun j hj => ⟨?_, ?_⟩, fun q hq => ⟨?_, ?_⟩, ?_, a5⟩, hB⟩
  · rw [hk _ (Or.inl ⟨n, hn, Or.inl rfl⟩)]; exact (a1 n hn).1
  · rw [hk _ (Or.inl ⟨n, hn, Or.inr rfl⟩)]; exact (a1 n hn).2.1
  · rw [hk _ (Or.inr (Or.inl ⟨j, hj, Or.inl rfl⟩))]; exact (a2 j hj).1
  · rw [hk _ (Or.inr (Or.inl ⟨j, hj, Or.inr rfl⟩))]; exact (a2 j hj).2
  · rw [hk _ (Or.inr (Or.inr (Or.inl ⟨q, hq, Or.inl rfl⟩)))]; exact (a3 q hq).1
  · rw [hk _ (Or.inr (Or.inr (Or.inl ⟨q, hq, Or.inr rfl⟩)))]; exact (a3 q hq).2
  · rw [hk _ (Or.inr (Or.inr (Or.inr rfl)))]; exact a4
end ISO3
abbrev Iv : Type := Nat × Int × Int × Int
def iI (x : Int) : Int32 := Int32.ofInt x
def ivO (v : Iv) : va_E := iO (nI v.1) (iI v.2.1) (iI v.2.2.1) (iI v.2.2.2)
def isIso (cA : Nat → ClassId) (D : va_G) (S : Nat → Nat → Nat) (h : mH) (is lst : Nat) (T : Nat → Prop) (n : Nat) (V : Nat → Iv) : Prop :=
  h is = some (isoO S lst) ∧ ∃ (e cap : Nat) (mc : Int32) (f : Nat → Option Nat) (rs : Nat → Nat), isLs cA D h lst e cap n mc f ∧ (cap = 0 → e = D.2 1000 0) ∧ (∀ i, i < n → f i = some (rs i) ∧ h (rs i) = some (ivO (V i))) ∧ (∀ i j, i < n → j < n → rs i = rs j → i = j) ∧ T lst ∧ (cap ≠ 0 → T e ∧ h e = some (qA (cA 6) cap f)) ∧ (∀ i, i < n → T (rs i)) ∧ ∀ a, T a → ¬ hIn S a
def insV (V : Nat → Iv) (i : Nat) (v : Iv) : Nat → Iv := fun j => if j < i then V j else if j = i then v else V (j - 1)
/-- what a call leaves of what isn't the isolation's own -/
def isoFr (S : Nat → Nat → Nat) (T : Nat → Prop) (h h1 : mH) (T1 : Nat → Prop) : Prop := (∀ a, T1 a → T a ∨ h a = none) ∧ (∀ a x, h a = some x → ¬ hIn S a → ¬ T a → h1 a = some x) ∧ ∀ a, h1 a = none → h a = none
section ISO4
variable {cA : Nat → ClassId} {S : Nat → Nat → Nat} {h : mH} {is lst n : Nat} {T : Nat → Prop} {V : Nat → Iv}
theorem iso_insert (l : Launch) (D : va_G) (hI : isIso cA D S h is lst T n V) (hn : n ≤ 1050) {i : Nat} (hi : i ≤ n) (v : Iv) (hS : ∀ a, hIn S a → h a ≠ none) :
    mCv l yX3_insert cX3_insert 7 (rmc 7 2 2504) D (mT cA) [.ref is, .int (nI i), .int (nI v.1), .int (iI v.2.1), .int (iI v.2.2.1), .int (iI v.2.2.2)] h (fun h1 => ∃ T1, isIso cA D S h1 is lst T1 (n + 1) (insV V i v) ∧ (∀ a, hIn S a → h1 a = h a) ∧ isoFr S T h h1 T1) := by
  obtain ⟨i0, e, cap, mc, f, rs, hs, hE, hel, hinj, t1, t2, t3, t4⟩ := hI
  refine mEnter_v (by decide) (Nat.le_of_ble_eq_true rfl) rfl (fun z X Vz => ?_)
  refine zi_dA X (fun hd => ?_)
  refine zi_new (C := RX2) (T := TX2) (N := 4) (ci := 6) (ty := tyX2) (fs := [.int 0, .int 0, .int 0, .int 0]) X rfl in_X2 tyX2_ok wc_X3_59 wit_X2 win_X2 (by decide) (Nat.le_of_ble_eq_true rfl) (Nat.le_of_ble_eq_true rfl) dX3_insert_0 (fun q hq => ?_)
  refine zi_dA X (fun hd2 => ?_)
  have hqd : q ≠ D.2 1000 0 := fun w => by rw [← w, mup_self] at hd2; cases hd2
  have ndA : ∀ a x, h a = some x → a ≠ D.2 1000 0 := fun a x w w2 => by rw [w2, hd] at w; cases w
  refine zi_dup X dX3_insert_3 rfl ?_
  refine zi_callNv X (i_init l D cA) kc_X2_init wim_X2_init rfl (zN_of X (List.mem_filter.mpr ⟨wn_X3_88, rfl⟩)) ⟨Nat.le_of_ble_eq_true rfl, Nat.le_of_ble_eq_true rfl⟩ rfl rfl (Nat.le_of_ble_eq_true rfl) ⟨Nat.le_of_ble_eq_true rfl, Nat.le_of_ble_eq_true rfl⟩ dX3_insert_4 (fun g e1 => ?_)
  subst e1
  refine zi_astore X dX3_insert_7 (by decide) ?_
  refine zi_aload X dX3_insert_9 rfl ?_
  refine zi_iload_n X dX3_insert_11 rfl rfl ?_
  refine zi_iload_n X dX3_insert_12 rfl rfl ?_
  refine zi_iload X dX3_insert_13 rfl ?_
  refine zi_iload X dX3_insert_15 rfl ?_
  refine zi_callVv X (i_become l D cA (x1 := 0) (x2 := 0) (x3 := 0) (x4 := 0) mup_self) kc_X2_become wm_X3_78 mup_self rfl wim_X2_become wse_X2_become ⟨Nat.le_of_ble_eq_true rfl, Nat.le_of_ble_eq_true rfl⟩ rfl rfl (Nat.le_of_ble_eq_true rfl) ⟨Nat.le_of_ble_eq_true rfl, Nat.le_of_ble_eq_true rfl⟩ dX3_insert_17 (fun g e1 => ?_)
  rw [mup_mup] at e1
  have hne : lst ≠ e := fun w => by
    by_cases c : cap = 0
    · exact ndA _ _ hs.1 (w.trans (hE c))
    · have := hs.1
      rw [w, (t2 c).2] at this; cases this
  have gne : ∀ a, a ≠ q → g a = h a := fun a ha => by rw [e1, mup_ne ha]
  have some_ne : ∀ a x, h a = some x → a ≠ q := fun a x w w2 => by rw [w2, hq] at w; cases w
  have hsg : isLs cA D g lst e cap n mc f := by
    obtain ⟨b1, b2, b3, b4⟩ := hs
    refine ⟨by rw [gne _ (some_ne _ _ b1)]; exact b1, ?_, b3, b4⟩
    rcases b2 with b2 | b2
    · exact Or.inl b2
    · exact Or.inr (by rw [gne _ (some_ne _ _ b2)]; exact b2)
  have gi : g is = some (isoO S lst) := by rw [gne _ (some_ne _ _ i0)]; exact i0
  have gq : g q = some (ivO v) := by rw [e1, mup_self]; rfl
  have hqe : q ≠ e := fun w => by
    by_cases c : cap = 0
    · exact hqd (w.trans (hE c))
    · exact some_ne _ _ (t2 c).2 w.symm
  have hql : q ≠ lst := fun w => some_ne _ _ hs.1 w.symm
  have hrl : ∀ j, j < n → rs j ≠ lst := fun j hj w => by
    have h9 := (hel j hj).2
    rw [w, hs.1] at h9; cases h9
  refine zi_aload_n X dX3_insert_20 rfl rfl ?_
  refine zi_getf (C := RX3) (T := TX3) (N := 4) (ci := 7) X (by first | assumption | exact mup_self | (rw [mup_ne (by assumption)]; assumption) | (rw [mup_ne (by assumption)]; exact mup_self) | (rw [mup_ne (by assumption), mup_ne (by assumption)]; assumption)) rfl in_X3 1 (by decide) wf_X3_19 rfl rfl dX3_insert_21 ?_
  refine zi_iload_n X dX3_insert_24 rfl rfl ?_
  refine zi_aload X dX3_insert_25 rfl ?_
  refine zi_callVv X (al_add l D (ci := 6) rfl wb_X2 hsg hn hne (fun j y hj hy => ⟨_, by rw [(hel j hj).1] at hy; cases hy; rw [gne _ (some_ne _ _ (hel j hj).2)]; exact (hel j hj).2⟩) hE hi gq hql hqe (fun j y hj hy => by rw [(hel j hj).1] at hy; cases hy; exact hrl j hj)) kc_Jx4a65c_add_7a177 wm_X3_89 hsg.1 rfl wim_Jx4a65c_add_7a177 wse_Jx4a65c_add_7a177 ⟨Nat.le_of_ble_eq_true rfl, Nat.le_of_ble_eq_true rfl⟩ rfl rfl (Nat.le_of_ble_eq_true rfl) ⟨Nat.le_of_ble_eq_true rfl, Nat.le_of_ble_eq_true rfl⟩ dX3_insert_27 (fun g2 e2 => ?_)
  refine zi_return X Vz dX3_insert_30 ?_
  obtain ⟨e', cap', mc', f', b1, b2, b3, b4, b5, b6⟩ := e2
  have ge' : g e' = none → h e' = none ∧ e' ≠ q := fun w => by
    have : e' ≠ q := fun w2 => by rw [w2, gq] at w; cases w
    exact ⟨by rw [← gne _ this]; exact w, this⟩
  have keep : ∀ a x, g a = some x → a ≠ lst → a ≠ e → g2 a = some x := fun a x w w2 w3 => by
    rw [b6 a (by
      simp only [List.mem_cons, List.not_mem_nil, or_false, not_or]
      refine ⟨w2, fun w4 => ?_⟩
      rcases b3 with b3 | b3
      · exact w3 (w4.trans b3.1)
      · rw [w4, b3] at w; cases w)]
    exact w
  have hre : ∀ j, j < n → rs j ≠ e := fun j hj w => by
    by_cases c : cap = 0
    · have := hs.2.2.1; omega
    · have h9 := (hel j hj).2
      rw [w, (t2 c).2] at h9; cases h9
  have hie : is ≠ e := fun w => by
    by_cases c : cap = 0
    · exact ndA _ _ i0 (w.trans (hE c))
    · have h9 := i0
      rw [w, (t2 c).2] at h9; cases h9
  have hil : is ≠ lst := fun w => by have h9 := i0; rw [w, hs.1] at h9; cases h9
  refine ⟨fun a => T a ∨ a = q ∨ a = e', ⟨keep _ _ gi hil hie, e', cap', mc', f', fun j => if j < i then rs j else if j = i then q else rs (j - 1), b1, fun w => absurd w (Nat.ne_of_gt b4), fun j hj => ?_, fun j k hj hk w => ?_, Or.inl t1, fun _ => ⟨Or.inr (Or.inr rfl), b5⟩, fun j hj => ?_, fun a ha => ?_⟩, ?_, fun a ha => ?_, fun a x hx _ ha => ?_, fun a ha => ?_⟩
  · rw [b2 j hj]
    unfold insF insV
    dsimp only
    by_cases c1 : j < i
    · rw [if_pos c1, if_pos c1, if_pos c1]
      have := hel j (by omega)
      exact ⟨this.1, keep _ _ (by rw [gne _ (some_ne _ _ this.2)]; exact this.2) (hrl j (by omega)) (hre j (by omega))⟩
    · rw [if_neg c1, if_neg c1, if_neg c1]
      by_cases c2 : j = i
      · rw [if_pos c2, if_pos c2, if_pos c2]
        exact ⟨rfl, keep _ _ gq hql hqe⟩
      · rw [if_neg c2, if_neg c2, if_neg c2]
        have := hel (j - 1) (by omega)
        exact ⟨this.1, keep _ _ (by rw [gne _ (some_ne _ _ this.2)]; exact this.2) (hrl _ (by omega)) (hre _ (by omega))⟩
  · have hq2 : ∀ j, j < n → rs j ≠ q := fun j hj => some_ne _ _ (hel j hj).2
    dsimp only at w
    by_cases j1 : j < i <;> by_cases k1 : k < i
    · rw [if_pos j1, if_pos k1] at w; exact hinj _ _ (by omega) (by omega) w
    · rw [if_pos j1, if_neg k1] at w
      by_cases k2 : k = i
      · rw [if_pos k2] at w; exact absurd w (hq2 j (by omega))
      · rw [if_neg k2] at w; have := hinj _ _ (by omega) (by omega) w; omega
    · rw [if_neg j1, if_pos k1] at w
      by_cases j2 : j = i
      · rw [if_pos j2] at w; exact absurd w.symm (hq2 k (by omega))
      · rw [if_neg j2] at w; have := hinj _ _ (by omega) (by omega) w; omega
    · rw [if_neg j1, if_neg k1] at w
      by_cases j2 : j = i <;> by_cases k2 : k = i
      · omega
      · rw [if_pos j2, if_neg k2] at w; exact absurd w.symm (hq2 _ (by omega))
      · rw [if_neg j2, if_pos k2] at w; exact absurd w (hq2 _ (by omega))
      · rw [if_neg j2, if_neg k2] at w; have := hinj _ _ (by omega) (by omega) w; omega
  · dsimp only
    by_cases c1 : j < i
    · rw [if_pos c1]; exact Or.inl (t3 j (by omega))
    · rw [if_neg c1]
      by_cases c2 : j = i
      · rw [if_pos c2]; exact Or.inr (Or.inl rfl)
      · rw [if_neg c2]; exact Or.inl (t3 _ (by omega))
  · rcases ha with ha | ha | ha
    · exact t4 a ha
    · exact fun w => hS a w (by rw [ha]; exact hq)
    · rcases b3 with b3 | b3
      · rw [ha, b3.1]
        exact t4 _ (t2 (by omega)).1
      · exact fun w => hS a w (by rw [ha]; exact (ge' b3).1)
  · intro a ha
    cases hx : h a with
    | none => exact absurd hx (hS a ha)
    | some x =>
      have hg : g a = some x := (gne a (some_ne a x hx)).trans hx
      refine keep a x hg (fun w => t4 _ t1 (by rw [← w]; exact ha)) (fun w => ?_)
      by_cases c : cap = 0
      · exact ndA _ _ hx (w.trans (hE c))
      · exact t4 _ (t2 c).1 (by rw [← w]; exact ha)
  · rcases ha with ha | ha | ha
    · exact Or.inl ha
    · exact Or.inr (by rw [ha]; exact hq)
    · rcases b3 with b3 | b3
      · exact Or.inl (by rw [ha, b3.1]; exact (t2 (by omega)).1)
      · exact Or.inr (by rw [ha]; exact (ge' b3).1)
  · have hg : g a = some x := (gne a (some_ne a x hx)).trans hx
    refine keep a x hg (fun w => ha (by rw [w]; exact t1)) (fun w => ?_)
    by_cases c : cap = 0
    · exact ndA _ _ hx (w.trans (hE c))
    · exact ha (by rw [w]; exact (t2 c).1)
  · cases hx : h a with
    | none => rfl
    | some x =>
      exfalso
      have hg : g a = some x := (gne a (some_ne a x hx)).trans hx
      by_cases c1 : a = lst
      · rw [c1, b1.1] at ha; cases ha
      · by_cases c2 : a = e'
        · rw [c2, b5] at ha; cases ha
        · rw [b6 a (by simp [c1, c2]), hg] at ha; cases ha
theorem isoFr_rf {S : Nat → Nat → Nat} {T : Nat → Prop} {h : mH} : isoFr S T h h T := ⟨fun _ w => Or.inl w, fun _ _ w _ _ => w, fun _ w => w⟩
theorem isoFr_tr {S : Nat → Nat → Nat} {T T1 T2 : Nat → Prop} {h h1 h2 : mH} (a : isoFr S T h h1 T1) (b : isoFr S T1 h1 h2 T2) : isoFr S T h h2 T2 := by
  refine ⟨fun x w => ?_, fun x y w w2 w3 => ?_, fun x w => a.2.2 x (b.2.2 x w)⟩
  · rcases b.1 x w with w | w
    · exact a.1 x w
    · exact Or.inr (a.2.2 x w)
  · refine b.2.1 x y (a.2.1 x y w w2 w3) w2 (fun w4 => ?_)
    rcases a.1 x w4 with w4 | w4
    · exact w3 w4
    · rw [w4] at w; cases w
theorem isoFr_hfr {cA : Nat → ClassId} {S : Nat → Nat → Nat} {P : Nat → Nat → Int} {G Ln : Nat → Nat} {T : Nat → Prop} {h h1 : mH} (hf : hfr S h1 h) (hh : hP cA S P G Ln h1) : isoFr S T h h1 T := by
  refine ⟨fun _ w => Or.inl w, fun a x w w2 _ => by rw [hf a (hIn_out w2)]; exact w, fun a w => ?_⟩
  rw [← hf a (hIn_out (hP_new hh w))]
  exact w
/-- calls of the algebra leave the isolation -/
theorem iso_hfr {cA : Nat → ClassId} {D : va_G} {S : Nat → Nat → Nat} {P : Nat → Nat → Int} {G Ln : Nat → Nat} {h h1 : mH} {is lst n : Nat} {T : Nat → Prop} {V : Nat → Iv} (hI : isIso cA D S h is lst T n V) (hh : hP cA S P G Ln h) (hf : hfr S h1 h) : isIso cA D S h1 is lst T n V := by
  obtain ⟨i0, e, cap, mc, f, rs, ⟨s1, s2, s3, s4⟩, hE, hel, hinj, t1, t2, t3, t4⟩ := hI
  have k : ∀ a, T a → h1 a = h a := fun a w => hf a (hIn_out (t4 a w))
  refine ⟨by rw [hf is (hP_out hh i0 (by decide))]; exact i0, e, cap, mc, f, rs, ⟨by rw [k _ t1]; exact s1, ?_, s3, s4⟩, hE, fun i hi => ⟨(hel i hi).1, by rw [k _ (t3 i hi)]; exact (hel i hi).2⟩, hinj, t1, fun c => ⟨(t2 c).1, by rw [k _ (t2 c).1]; exact (t2 c).2⟩, t3, t4⟩
  by_cases c : cap = 0
  · exact Or.inl ⟨hE c, c⟩
  · exact Or.inr (by rw [k _ (t2 c).1]; exact (t2 c).2)
end ISO4
