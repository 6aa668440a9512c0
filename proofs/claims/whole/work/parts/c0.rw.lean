/-! SturmRootsModel's rows: 176 polynomials (0 one, 1 other, 2 third, 3 common, 4 free, 5 round, 6 here, 7 keptFree, 8-15 row, 16-175 halves), 7 numbers each; then t u v w x y, numbers 1232-1237 -/
def hN (cA : Nat → ClassId) (M : Nat → Nat → Nat) (N : Nat → Int) (h : mH) : Prop :=
  (∀ n, n < 1238 → h (M 0 n) = some (nE (cA 0) (N n))) ∧ (∀ j, j < 176 → h (M 1 j) = some (pA (cA 4) M j)) ∧ ∀ m n, m < 1238 → n < 1238 → M 0 m = M 0 n → m = n
def nfr (M : Nat → Nat → Nat) (h1 h : mH) : Prop := ∀ a, (∀ n, n < 1238 → a ≠ M 0 n) → h1 a = h a
theorem nfr_rf (M : Nat → Nat → Nat) (h : mH) : nfr M h h := fun _ _ => rfl
theorem nfr_tr {M : Nat → Nat → Nat} {h1 h2 h3 : mH} (a : nfr M h1 h2) (b : nfr M h2 h3) : nfr M h1 h3 := fun x hx => (a x hx).trans (b x hx)
theorem nfr_up {M : Nat → Nat → Nat} {h : mH} {n : Nat} {e : va_E} (hn : n < 1238) : nfr M (mup h (M 0 n) e) h := fun a ha => mup_ne (ha n hn)
theorem hN_ne {cA : Nat → ClassId} {M : Nat → Nat → Nat} {N : Nat → Int} {h : mH} (hh : hN cA M N h) {m n : Nat} (hm : m < 1238) (hn : n < 1238) (e : m ≠ n) : M 0 m ≠ M 0 n := fun q => e (hh.2.2 m n hm hn q)
/-- what isn't a number's row -/
theorem hN_out {cA : Nat → ClassId} {M : Nat → Nat → Nat} {N : Nat → Int} {h : mH} (hh : hN cA M N h) {a : Nat} {e : va_E} (ha : h a = some e) (he : ∀ c v, e ≠ nE c v) : ∀ n, n < 1238 → a ≠ M 0 n := fun n hn q => by
  rw [q, hh.1 n hn] at ha
  exact he _ _ (Option.some.inj ha).symm
theorem nfr_at {cA : Nat → ClassId} {M : Nat → Nat → Nat} {N : Nat → Int} {h h1 : mH} (hh : hN cA M N h) (hf : nfr M h1 h) {a : Nat} {e : va_E} (ha : h a = some e) (he : ∀ c v, e ≠ nE c v) : h1 a = some e := by rw [hf a (hN_out hh ha he)]; exact ha
theorem hN_up {cA : Nat → ClassId} {M : Nat → Nat → Nat} {N : Nat → Int} {h : mH} (hh : hN cA M N h) {n : Nat} (hn : n < 1238) (v : Int) : hN cA M (updI N n v) (mup h (M 0 n) (nE (cA 0) v)) := by
  refine ⟨fun m hm => ?_, fun j hj => ?_, hh.2.2⟩
  · by_cases e : m = n
    · rw [e, mup_self, updI_s]
    · rw [mup_ne (hN_ne hh hm hn e), updI_n e]
      exact hh.1 m hm
  · rw [mup_ne (hN_out hh (hh.2.1 j hj) (fun c v q => by simp [pA, nE] at q) n hn)]
    exact hh.2.1 j hj
theorem hN_cong {cA : Nat → ClassId} {M : Nat → Nat → Nat} {N N' : Nat → Int} {h : mH} (hh : hN cA M N h) (e : ∀ n, n < 1238 → N n = N' n) : hN cA M N' h := ⟨fun n hn => by rw [← e n hn]; exact hh.1 n hn, hh.2⟩
theorem hN_P {cA : Nat → ClassId} {M : Nat → Nat → Nat} {N : Nat → Int} {h : mH} {j : Nat} {p q : Nat → Int} (hh : hN cA M (setP N j p) h) (e : ∀ i, i < 7 → p i = q i) : hN cA M (setP N j q) h := by rw [← setP_cong e]; exact hh
theorem hN_pup {cA : Nat → ClassId} {M : Nat → Nat → Nat} {N : Nat → Int} {h : mH} {j i : Nat} {p q : Nat → Int} {v : Int} (hh : hN cA M (setP N j p) h) (hj : j < 176) (hi : i < 7) (e : ∀ t, t < 7 → updI p i v t = q t) : hN cA M (setP N j q) (mup h (M 0 (7 * j + i)) (nE (cA 0) v)) := by
  have := hN_up hh (n := 7 * j + i) (by omega) v
  rw [setP_upd hi] at this
  exact hN_P this e
theorem sg_sgn (v : Int) : sgI v = if v = 0 then nI 0 else if v < 0 then -1 else nI 1 := by
  unfold sgI
  by_cases c : v < 0
  · rw [if_pos c, if_neg (by omega), if_pos c]
  · rw [if_neg c]
    by_cases e : v = 0
    · rw [if_pos e, if_pos e]
    · rw [if_neg e, if_neg e, if_neg c]
section RW0
variable {cA : Nat → ClassId} {M : Nat → Nat → Nat} {N : Nat → Int} {h : mH}
theorem m_degree (l : Launch) (D : va_G) (hh : hN cA M N h) {j : Nat} (hj : j < 176) (hb : ∀ i, i < 7 → nB (N (7 * j + i))) :
    mCi l yX7_degree cX7_degree 2 .int (rmd 2) D (mT cA) [.ref (M 1 j)] h (fun r h1 => h1 = h ∧ r = nI (stI (cof N j) 7) - nI 1) := by
  refine mEnter_i (by decide) (Nat.le_of_ble_eq_true rfl) rfl (fun z X Vz => ?_)
  have a1 := hh.2.1 j hj
  refine zi_bipush (v := (nI 6)) X dX7_degree_0 (by decide) ?_
  refine zi_istore_n X dX7_degree_2 rfl (by decide) ?_
  suffices key : ∀ m, m ≤ 7 → stI (cof N j) 7 = stI (cof N j) m → zM z 0 0 3 [some (.ref (M 1 j)), some (.int (nI m - nI 1))] [] h from by
    exact zi_sub (by repeat (first | exact trivial | refine And.intro rfl ?_)) (key 7 (Nat.le_refl 7) rfl)
  intro m
  induction m with
  | zero =>
    intro hm hs
    refine zi_iload_n X dX7_degree_3 rfl rfl ?_
    refine zi_if_lt (tgt := 22) X dX7_degree_4 (by decide) (fun c_4 => ?_) (fun c_4 => (by first | exact absurd (by decide) c_4 | exact absurd c_4 (by decide)))
    refine zi_iload_n X dX7_degree_22 rfl rfl ?_
    refine zi_ireturn X Vz dX7_degree_23 ?_
    exact ⟨rfl, by rw [hs]; rfl⟩
  | succ k ih =>
    intro hm hs
    rw [nI_pr]
    have a2 := hh.1 (7 * j + k) (by omega)
    refine zi_iload_n X dX7_degree_3 rfl rfl ?_
    refine zi_if_lt (tgt := 22) X dX7_degree_4 (by decide) (fun c_4 => (by first | exact absurd (nI_pos (by omega)) c_4 | exact absurd c_4 (nI_pos (by omega)))) (fun c_4 => ?_)
    refine zi_aload_n X dX7_degree_7 rfl rfl ?_
    refine zi_iload_n X dX7_degree_8 rfl rfl ?_
    refine zi_aaldA X 4 (by first | assumption | exact mup_self | (rw [mup_ne (by assumption)]; assumption) | (rw [mup_ne (by assumption)]; exact mup_self) | (rw [mup_ne (by assumption), mup_ne (by assumption)]; assumption)) rfl (vin (show k < 7 by omega) (by decide)) (pa_at (i := k) (by omega)) dX7_degree_9 ?_
    refine zi_callSi X (n_sign l D a2 (hb k (by omega))) kc_X7_sign wm_X7_110 wst_X7_sign ⟨Nat.le_of_ble_eq_true rfl, Nat.le_of_ble_eq_true rfl⟩ rfl rfl (Nat.le_of_ble_eq_true rfl) ⟨Nat.le_of_ble_eq_true rfl, Nat.le_of_ble_eq_true rfl⟩ dX7_degree_10 (fun r h1 hp => ?_)
    obtain ⟨rfl, rfl⟩ := hp
    by_cases c : cof N j k = 0
    · refine zi_if_ne (tgt := 22) X dX7_degree_13 (by decide) (fun c_13 => (by first | exact absurd (sg_0.mpr c) c_13 | exact absurd c_13 (sg_0.mpr c))) (fun c_13 => ?_)
      refine zi_iinc X dX7_degree_16 rfl rfl (by decide) ?_
      refine zi_goto (tgt := 3) X dX7_degree_19 (by decide) ?_
      rw [nI_dm]
      exact zi_sub (by repeat (first | exact trivial | refine And.intro rfl ?_)) (ih (by omega) (by rw [hs, stI, if_pos c]))
    · refine zi_if_ne (tgt := 22) X dX7_degree_13 (by decide) (fun c_13 => ?_) (fun c_13 => (by first | exact absurd (fun q => c (sg_0.mp q)) c_13 | exact absurd c_13 (fun q => c (sg_0.mp q))))
      refine zi_iload_n X dX7_degree_22 rfl rfl ?_
      refine zi_ireturn X Vz dX7_degree_23 ?_
      exact ⟨rfl, by rw [hs, stI, if_neg c, nI_pr]⟩
theorem m_copy (l : Launch) (D : va_G) (hh : hN cA M N h) {j j2 : Nat} (hj : j < 176) (hj2 : j2 < 176) (hne : j2 ≠ j) :
    mCv l yX7_copy_ cX7_copy_ 3 (rmd 2) D (mT cA) [.ref (M 1 j2), .ref (M 1 j)] h (fun h1 => nfr M h1 h ∧ hN cA M (setP N j (cof N j2)) h1) := by
  refine mEnter_v (by decide) (Nat.le_of_ble_eq_true rfl) rfl (fun z X Vz => ?_)
  refine zi_iconst (v := (nI 0)) X dX7_copy__0 (by decide) ?_
  refine zi_istore_n X dX7_copy__1 rfl (by decide) ?_
  suffices key : ∀ k i (g : mH), i + k = 7 → nfr M g h → hN cA M (setP N j (fun t => if t < i then cof N j2 t else cof N j t)) g → zM z 0 0 2 [some (.ref (M 1 j2)), some (.ref (M 1 j)), some (.int (nI i))] [] g from
    zi_sub (by repeat (first | exact trivial | refine And.intro rfl ?_)) (key 7 0 h (by omega) (nfr_rf M h) (hN_P (p := cof N j) (by rw [setP_self]; exact hh) (fun i _ => rfl)))
  intro k
  induction k with
  | zero =>
    intro i g hi hf hg
    obtain rfl : i = 7 := by omega
    refine zi_iload_n X dX7_copy__2 rfl rfl ?_
    refine zi_bipush (v := (nI 7)) X dX7_copy__3 (by decide) ?_
    refine zi_icmp_ge (tgt := 23) X dX7_copy__5 (by decide) (fun c_5 => ?_) (fun c_5 => (by first | exact absurd (by decide) c_5 | exact absurd c_5 (by decide)))
    refine zi_return X Vz dX7_copy__23 ?_
    exact ⟨hf, hN_P hg (fun i hi => by rw [if_pos hi])⟩
  | succ k ih =>
    intro i g hi hf hg
    have a1 := hg.2.1 j hj
    have a2 := hg.2.1 j2 hj2
    have a3 := hg.1 (7 * j + i) (by omega)
    have a4 := hg.1 (7 * j2 + i) (by omega)
    rw [setP_out hne (by omega)] at a4
    refine zi_iload_n X dX7_copy__2 rfl rfl ?_
    refine zi_bipush (v := (nI 7)) X dX7_copy__3 (by decide) ?_
    refine zi_icmp_ge (tgt := 23) X dX7_copy__5 (by decide) (fun c_5 => (by first | exact absurd (c7 (show i < 7 by omega)) c_5 | exact absurd c_5 (c7 (show i < 7 by omega)))) (fun c_5 => ?_)
    refine zi_aload_n X dX7_copy__8 rfl rfl ?_
    refine zi_iload_n X dX7_copy__9 rfl rfl ?_
    refine zi_aaldA X 4 (by first | assumption | exact mup_self | (rw [mup_ne (by assumption)]; assumption) | (rw [mup_ne (by assumption)]; exact mup_self) | (rw [mup_ne (by assumption), mup_ne (by assumption)]; assumption)) rfl (vin (show i < 7 by omega) (by decide)) (pa_at (i := i) (by omega)) dX7_copy__10 ?_
    refine zi_aload_n X dX7_copy__11 rfl rfl ?_
    refine zi_iload_n X dX7_copy__12 rfl rfl ?_
    refine zi_aaldA X 4 (by first | assumption | exact mup_self | (rw [mup_ne (by assumption)]; assumption) | (rw [mup_ne (by assumption)]; exact mup_self) | (rw [mup_ne (by assumption), mup_ne (by assumption)]; assumption)) rfl (vin (show i < 7 by omega) (by decide)) (pa_at (i := i) (by omega)) dX7_copy__13 ?_
    refine zi_callSv X (n_copy l D a4 a3 (hN_ne hg (by omega) (by omega) (by omega))) kc_X7_copy wm_X7_113 wst_X7_copy ⟨Nat.le_of_ble_eq_true rfl, Nat.le_of_ble_eq_true rfl⟩ rfl rfl (Nat.le_of_ble_eq_true rfl) ⟨Nat.le_of_ble_eq_true rfl, Nat.le_of_ble_eq_true rfl⟩ dX7_copy__14 (fun h1 hp => ?_)
    subst hp
    refine zi_iinc (v := nI (i + 1)) X dX7_copy__17 rfl (nI_inc _) (by decide) ?_
    refine zi_goto (tgt := 2) X dX7_copy__20 (by decide) ?_
    refine zi_sub (by repeat (first | exact trivial | refine And.intro rfl ?_)) (ih (i + 1) _ (by omega) (nfr_tr (nfr_up (by omega)) hf) (hN_pup hg hj (by omega) (fun t ht => ?_)))
    unfold updI
    dsimp only
    by_cases q : t = i
    · rw [if_pos q, if_pos (by omega), q]; rfl
    · rw [if_neg q]
      by_cases q2 : t < i
      · rw [if_pos q2, if_pos (by omega)]
      · rw [if_neg q2, if_neg (by omega)]
end RW0
