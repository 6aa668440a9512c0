/-! SturmRootsModel: between -/
def btS (a d v : Int) (r : Nat → Int) (G : Nat) : Nat → Int := fun t => if t = 0 then r 0 * a + v else if t < G then r t * a + r (t - 1) * d else r t
def btF (p : Nat → Int) (a d : Int) (k G : Nat) : Nat → Nat → Int
  | 0 => fun _ => 0
  | m + 1 => btS a d (p (G - 1 - m) * 2 ^ (k * m)) (btF p a d k G m) G
def hlQ (g : Nat) (q : Nat → Int) : Nat → Int := fun i => q i * 2 ^ (g - i)
def hrQ (g : Nat) (q : Nat → Int) : Nat → Int := mvA g g (hlQ g q)
/-- the roots that are found below a node -/
def cntN (g : Nat) : Nat → (Nat → Int) → Nat
  | 0, _ => 0
  | f + 1, q => if cwN q g < 2 then cwN q g else cntN g f (hlQ g q) + ((if hrQ g q 0 = 0 then 1 else 0) + cntN g f (hrQ g q))
def okT (g : Nat) : Nat → (Nat → Int) → Prop
  | 0, _ => False
  | f + 1, q => (∀ i, i ≤ g → nC (cwQ q g i)) ∧ (¬ cwN q g < 2 → nC (hrQ g q 0) ∧ okT g f (hlQ g q) ∧ okT g f (hrQ g q))
theorem cwQ_cong {g : Nat} {q r : Nat → Int} (h : ∀ t, t ≤ g → q t = r t) : ∀ t, t ≤ g → cwQ q g t = cwQ r g t := mvA_cong g (Nat.le_refl g) (fun t _ => h (g - t) (by omega))
theorem cwN_cong {g : Nat} {q r : Nat → Int} (h : ∀ t, t ≤ g → q t = r t) : cwN q g = cwN r g := by
  unfold cwN
  rw [chg_cong (fun i hi => by rw [cwQ_cong h i (by omega)])]
theorem hlQ_cong {g : Nat} {q r : Nat → Int} (h : ∀ t, t ≤ g → q t = r t) : ∀ t, t ≤ g → hlQ g q t = hlQ g r t := fun t ht => by unfold hlQ; rw [h t ht]
theorem hrQ_cong {g : Nat} {q r : Nat → Int} (h : ∀ t, t ≤ g → q t = r t) : ∀ t, t ≤ g → hrQ g q t = hrQ g r t := mvA_cong g (Nat.le_refl g) (hlQ_cong h)
theorem cntN_cong {g : Nat} : ∀ {f : Nat} {q r : Nat → Int}, (∀ t, t ≤ g → q t = r t) → cntN g f q = cntN g f r
  | 0, _, _, _ => rfl
  | f + 1, q, r, h => by rw [cntN, cntN, cwN_cong h, cntN_cong (hlQ_cong h), cntN_cong (hrQ_cong h), hrQ_cong h 0 (Nat.zero_le g)]
theorem okT_cong {g : Nat} : ∀ {f : Nat} {q r : Nat → Int}, (∀ t, t ≤ g → q t = r t) → okT g f q → okT g f r
  | 0, _, _, _, h => h
  | f + 1, q, r, h, k => ⟨fun i hi => by rw [← cwQ_cong h i hi]; exact k.1 i hi, fun c => by
    have := k.2 (by rw [cwN_cong h]; exact c)
    exact ⟨by rw [← hrQ_cong h 0 (Nat.zero_le g)]; exact this.1, okT_cong (hlQ_cong h) this.2.1, okT_cong (hrQ_cong h) this.2.2⟩⟩
def bfr (M : Nat → Nat → Nat) (h1 h : mH) : Prop := ∀ a, (∀ n, n < 1238 → a ≠ M 0 n) → a ≠ M 2 2 → h1 a = h a
theorem bfr_rf (M : Nat → Nat → Nat) (h : mH) : bfr M h h := fun _ _ _ => rfl
theorem bfr_tr {M : Nat → Nat → Nat} {h1 h2 h3 : mH} (a : bfr M h1 h2) (b : bfr M h2 h3) : bfr M h1 h3 := fun x hx hy => (a x hx hy).trans (b x hx hy)
theorem bfr_n {M : Nat → Nat → Nat} {h1 h : mH} (a : nfr M h1 h) : bfr M h1 h := fun x hx _ => a x hx
def cmE (c : ClassId) (f : Nat → Int32) : va_E := .inl (c, 160, .inl f)
def hvE (c : ClassId) (M : Nat → Nat → Nat) : va_E := .inl (c, 160, .inr (.inr (.inr (.inr (fun d => if d < 160 then some (M 1 (16 + d)) else none)))))
theorem hv_at {M : Nat → Nat → Nat} {d : Nat} {x : Int32} (hx : x = nI d) (hd : d < 160) : (fun d => if d < 160 then some (M 1 (16 + d)) else none) x.toNatClampNeg = some (M 1 (16 + d)) := by
  rw [hx, nI_cl (by omega)]
  exact if_pos hd
/-- the state of the search -/
def bS (cA : Nat → ClassId) (M : Nat → Nat → Nat) (h0 g : mH) (P : Nat → Nat → Int) (c : Nat → Int32) : Prop := bfr M g h0 ∧ hQ cA M P g ∧ g (M 2 2) = some (cmE (cA 0) c)
section RW8
variable {cA : Nat → ClassId} {M : Nat → Nat → Nat} {P : Nat → Nat → Int} {h : mH} {o : RO} {m : Nat}
theorem bS_at {h0 g : mH} {c : Nat → Int32} (hh : ∃ P0, hQ cA M P0 h0) (hc0 : ∃ c0, h0 (M 2 2) = some (cmE (cA 0) c0)) (hs : bS cA M h0 g P c) {a : Nat} {e : va_E} (ha : h0 a = some e) (he : ∀ c v, e ≠ nE c v) (he2 : ∀ c f, e ≠ cmE c f) : g a = some e := by
  obtain ⟨P0, N0, hN0, -⟩ := hh
  obtain ⟨c0, hc0⟩ := hc0
  rw [hs.1 a (hN_out hN0 ha he) (fun q => by rw [q, hc0] at ha; exact he2 _ _ (Option.some.inj ha).symm)]
  exact ha
theorem bS_n {h0 g g1 : mH} {P1 : Nat → Nat → Int} {c : Nat → Int32} (hs : bS cA M h0 g P c) (hf : nfr M g1 g) (hq : hQ cA M P1 g1) : bS cA M h0 g1 P1 c :=
  ⟨bfr_tr (bfr_n hf) hs.1, hq, hQ_fr hs.2.1 hf hs.2.2 (fun c v q => by simp [cmE, nE] at q)⟩
theorem bS_c {h0 g : mH} {c c1 : Nat → Int32} (hs : bS cA M h0 g P c) : bS cA M h0 (mup g (M 2 2) (cmE (cA 0) c1)) P c1 := by
  obtain ⟨hf, ⟨N, hN0, hP⟩, hc⟩ := hs
  have out := hN_out hN0 hc (fun c v q => by simp [cmE, nE] at q)
  refine ⟨fun a h1 h2 => by rw [mup_ne h2]; exact hf a h1 h2, ⟨N, ⟨fun n hn => by rw [mup_ne (out n hn).symm]; exact hN0.1 n hn, fun j hj => ?_, hN0.2.2⟩, hP⟩, mup_self⟩
  rw [mup_ne (fun q => ?_)]
  · exact hN0.2.1 j hj
  · have := hN0.2.1 j hj
    rw [q, hc] at this
    simp [cmE, pA] at this
theorem mO_cm (M : Nat → Nat → Nat) (o : RO) : ∀ c f, mO M o ≠ cmE c f := fun c f q => by unfold mO cmE at q; cases q
theorem hv_ne (c : ClassId) (M : Nat → Nat → Nat) : (∀ c' v, hvE c M ≠ nE c' v) ∧ ∀ c' f, hvE c M ≠ cmE c' f := ⟨fun c' v q => by simp [hvE, nE] at q, fun c' f q => by simp [hvE, cmE] at q⟩
theorem bt_dfs (l : Launch) (D : va_G) {z : mZ} {R : Room} {h0 : mH} {L : List (Option Value)} {p1 : Nat} {xa xb : Int64} {k g : Nat}
    (X : zX z l D cX7_between yX7_between.cls (mT cA) 15 (some .int) (rmd 5) yX7_between.name) (hm : h0 m = some (mO M o)) (hh : ∃ P0, hQ cA M P0 h0) (hc0 : ∃ c0, h0 (M 2 2) = some (cmE (cA 0) c0)) (hv : h0 (M 2 1) = some (hvE (cA 5) M)) (hg7 : g < 7) :
    ∀ (f d : Nat) (q : Nat → Int) (F : Nat) (g1 : mH) (P1 : Nat → Nat → Int) (c : Nat → Int32), d + f ≤ 159 → okT g f q → bS cA M h0 g1 P1 c → (∀ i, i ≤ g → P1 (16 + d) i = q i) → c d = nI 0 →
      (∀ (g2 : mH) (P2 : Nat → Nat → Int) (c2 : Nat → Int32), bS cA M h0 g2 P2 c2 → (∀ k, k ≠ 5 → k ≤ 16 + d → P2 k = P1 k) → (∀ i, i < d → c2 i = c i) → zM z 0 0 173 [some (.ref m), some (.ref p1), some (.long xa), none, some (.long xb), none, some (.int (nI k)), some (.int (nI g)), none, some (.int (nI (F + cntN g f q))), some (.int (nI d - nI 1)), none, none, none, none] [] g2) →
      zM z 0 0 173 [some (.ref m), some (.ref p1), some (.long xa), none, some (.long xb), none, some (.int (nI k)), some (.int (nI g)), none, some (.int (nI F)), some (.int (nI (d + 1) - nI 1)), none, none, none, none] [] g1 := by
  intro f
  induction f with
  | zero => intro d q F g1 P1 c hd hok; exact absurd hok id
  | succ f ih =>
    intro d q F g1 P1 c hd hok hs hq hcd K
    have gm := bS_at hh hc0 hs hm (mO_ne M o) (mO_cm M o)
    have gv := bS_at hh hc0 hs hv (hv_ne _ _).1 (hv_ne _ _).2
    have gc := hs.2.2
    rw [nI_pr]
    have ed : nI d + nI 1 = nI (d + 1) := nI_add d 1
    -- from 173 to the counter
    have head : ∀ (F2 : Nat) (g2 : mH) (P2 : Nat → Nat → Int) (c2 : Nat → Int32) (w : Nat), bS cA M h0 g2 P2 c2 → c2 d = nI w → zM z 0 0 217 [some (.ref m), some (.ref p1), some (.long xa), none, some (.long xb), none, some (.int (nI k)), some (.int (nI g)), none, some (.int (nI F2)), some (.int (nI d)), some (.ref (M 1 (16 + d))), some (.ref (M 1 (16 + (d + 1)))), none, none] [.int (nI 1), .int (nI (w + 1))] (mup g2 (M 2 2) (cmE (cA 0) (upd c2 d (nI (w + 1))))) → zM z 0 0 173 [some (.ref m), some (.ref p1), some (.long xa), none, some (.long xb), none, some (.int (nI k)), some (.int (nI g)), none, some (.int (nI F2)), some (.int (nI d)), none, none, none, none] [] g2 := fun F2 g2 P2 c2 w hs2 hw kk => by
      have gm := bS_at hh hc0 hs2 hm (mO_ne M o) (mO_cm M o)
      have gv := bS_at hh hc0 hs2 hv (hv_ne _ _).1 (hv_ne _ _).2
      have gc := hs2.2.2
      have gm' := bS_at hh hc0 (bS_c (c1 := upd c2 d (nI (w + 1))) hs2) hm (mO_ne M o) (mO_cm M o)
      refine zi_iload X dX7_between_173 rfl ?_
      refine zi_if_lt (tgt := 355) X dX7_between_175 (by decide) (fun c_175 => (by first | exact absurd (nI_pos (by omega)) c_175 | exact absurd c_175 (nI_pos (by omega)))) (fun c_175 => ?_)
      refine zi_aload_n X dX7_between_178 rfl rfl ?_
      refine zi_getf (C := RX7) (T := TX7) (N := 27) (ci := 11) X (by first | assumption | exact mup_self | (rw [mup_ne (by assumption)]; assumption) | (rw [mup_ne (by assumption)]; exact mup_self) | (rw [mup_ne (by assumption), mup_ne (by assumption)]; assumption)) rfl in_X7 13 (by decide) wf_X7_50 rfl rfl dX7_between_179 ?_
      refine zi_iload X dX7_between_182 rfl ?_
      refine zi_aaldA X 5 (by first | assumption | exact mup_self | (rw [mup_ne (by assumption)]; assumption) | (rw [mup_ne (by assumption)]; exact mup_self) | (rw [mup_ne (by assumption), mup_ne (by assumption)]; assumption)) rfl (vin (show d < 160 by omega) (by decide)) (hv_at (d := d) rfl (by omega)) dX7_between_184 ?_
      refine zi_astore X dX7_between_185 (by decide) ?_
      refine zi_aload_n X dX7_between_187 rfl rfl ?_
      refine zi_getf (C := RX7) (T := TX7) (N := 27) (ci := 11) X (by first | assumption | exact mup_self | (rw [mup_ne (by assumption)]; assumption) | (rw [mup_ne (by assumption)]; exact mup_self) | (rw [mup_ne (by assumption), mup_ne (by assumption)]; assumption)) rfl in_X7 13 (by decide) wf_X7_50 rfl rfl dX7_between_188 ?_
      refine zi_iload X dX7_between_191 rfl ?_
      refine zi_iconst (v := (nI 1)) X dX7_between_193 (by decide) ?_
      refine zi_iadd X dX7_between_194 ?_
      refine zi_aaldA X 5 (by first | assumption | exact mup_self | (rw [mup_ne (by assumption)]; assumption) | (rw [mup_ne (by assumption)]; exact mup_self) | (rw [mup_ne (by assumption), mup_ne (by assumption)]; assumption)) rfl (by rw [ed]; exact vin (show d + 1 < 160 by omega) (by decide)) (hv_at (d := d + 1) ed (by omega)) dX7_between_195 ?_
      refine zi_astore X dX7_between_196 (by decide) ?_
      refine zi_aload_n X dX7_between_198 rfl rfl ?_
      refine zi_getf (C := RX7) (T := TX7) (N := 27) (ci := 11) X (by first | assumption | exact mup_self | (rw [mup_ne (by assumption)]; assumption) | (rw [mup_ne (by assumption)]; exact mup_self) | (rw [mup_ne (by assumption), mup_ne (by assumption)]; assumption)) rfl in_X7 14 (by decide) wf_X7_53 rfl rfl dX7_between_199 ?_
      refine zi_iload X dX7_between_202 rfl ?_
      refine zi_dup2 X dX7_between_204 rfl rfl ?_
      refine zi_iald X 0 (by first | assumption | exact mup_self | (rw [mup_ne (by assumption)]; assumption) | (rw [mup_ne (by assumption)]; exact mup_self) | (rw [mup_ne (by assumption), mup_ne (by assumption)]; assumption)) rfl (vin (show d < 160 by omega) (by decide)) dX7_between_205 ?_
      refine zi_iconst (v := (nI 1)) X dX7_between_206 (by decide) ?_
      refine zi_iadd X dX7_between_207 ?_
      refine zi_iast X 0 (by first | assumption | exact mup_self | (rw [mup_ne (by assumption)]; assumption) | (rw [mup_ne (by assumption)]; exact mup_self) | (rw [mup_ne (by assumption), mup_ne (by assumption)]; assumption)) rfl (vin (show d < 160 by omega) (by decide)) dX7_between_208 ?_
      rw [nI_cl (show d < 2147483648 by omega), hw, nI_add]
      refine zi_eqh (h' := mup g2 (M 2 2) (cmE (cA 0) (upd c2 d (nI (w + 1))))) rfl ?_
      refine zi_aload_n X dX7_between_209 rfl rfl ?_
      refine zi_getf (C := RX7) (T := TX7) (N := 27) (ci := 11) X (by first | assumption | exact mup_self | (rw [mup_ne (by assumption)]; assumption) | (rw [mup_ne (by assumption)]; exact mup_self) | (rw [mup_ne (by assumption), mup_ne (by assumption)]; assumption)) rfl in_X7 14 (by decide) wf_X7_53 rfl rfl dX7_between_210 ?_
      refine zi_iload X dX7_between_213 rfl ?_
      refine zi_iald X 0 mup_self rfl (vin (show d < 160 by omega) (by decide)) dX7_between_215 ?_
      refine zi_iconst (v := (nI 1)) X dX7_between_216 (by decide) ?_
      rw [nI_cl (show d < 2147483648 by omega), show upd c2 d (nI (w + 1)) d = nI (w + 1) from pk_us]
      exact kk
    -- down to the next node
    have down : ∀ (F2 : Nat) (g2 : mH) (P2 : Nat → Nat → Int) (c2 : Nat → Int32) (r : Nat → Int), bS cA M h0 g2 P2 c2 → (∀ i, i ≤ g → P2 (16 + (d + 1)) i = r i) → okT g f r →
        (∀ (g3 : mH) (P3 : Nat → Nat → Int) (c3 : Nat → Int32), bS cA M h0 g3 P3 c3 → (∀ k, k ≠ 5 → k ≤ 16 + (d + 1) → P3 k = P2 k) → (∀ i, i < d + 1 → c3 i = c2 i) → zM z 0 0 173 [some (.ref m), some (.ref p1), some (.long xa), none, some (.long xb), none, some (.int (nI k)), some (.int (nI g)), none, some (.int (nI (F2 + cntN g f r))), some (.int (nI (d + 1) - nI 1)), none, none, none, none] [] g3) →
        zM z 0 0 341 [some (.ref m), some (.ref p1), some (.long xa), none, some (.long xb), none, some (.int (nI k)), some (.int (nI g)), none, some (.int (nI F2)), some (.int (nI d)), none, none, none, none] [] g2 := fun F2 g2 P2 c2 r hs2 hr hokr kk => by
      have gm := bS_at hh hc0 hs2 hm (mO_ne M o) (mO_cm M o)
      have gc := hs2.2.2
      have hf0 : 0 < f := by
        cases f with
        | zero => exact absurd hokr id
        | succ f => omega
      refine zi_iinc (v := nI (d + 1)) X dX7_between_341 rfl (nI_inc _) (by decide) ?_
      refine zi_aload_n X dX7_between_344 rfl rfl ?_
      refine zi_getf (C := RX7) (T := TX7) (N := 27) (ci := 11) X (by first | assumption | exact mup_self | (rw [mup_ne (by assumption)]; assumption) | (rw [mup_ne (by assumption)]; exact mup_self) | (rw [mup_ne (by assumption), mup_ne (by assumption)]; assumption)) rfl in_X7 14 (by decide) wf_X7_53 rfl rfl dX7_between_345 ?_
      refine zi_iload X dX7_between_348 rfl ?_
      refine zi_iconst (v := (nI 0)) X dX7_between_350 (by decide) ?_
      refine zi_iast X 0 (by first | assumption | exact mup_self | (rw [mup_ne (by assumption)]; assumption) | (rw [mup_ne (by assumption)]; exact mup_self) | (rw [mup_ne (by assumption), mup_ne (by assumption)]; assumption)) rfl (vin (show d + 1 < 160 by omega) (by decide)) dX7_between_351 ?_
      rw [nI_cl (show d + 1 < 2147483648 by omega)]
      refine zi_goto (tgt := 173) X dX7_between_352 (by decide) ?_
      refine zi_sub (L' := [some (.ref m), some (.ref p1), some (.long xa), none, some (.long xb), none, some (.int (nI k)), some (.int (nI g)), none, some (.int (nI F2)), some (.int (nI (d + 1))), none, none, none, none]) (by repeat (first | exact trivial | refine And.intro rfl ?_)) ?_
      have := ih (d + 1) r F2 (mup g2 (M 2 2) (cmE (cA 0) (upd c2 (d + 1) (nI 0)))) P2 (upd c2 (d + 1) (nI 0)) (by omega) hokr (bS_c hs2) hr pk_us (fun g3 P3 c3 a1 a2 a3 => kk g3 P3 c3 a1 a2 (fun i hi => by rw [a3 i hi, pk_un (by omega)]))
      rw [nI_pr] at this
      exact this
    refine head F g1 P1 c 0 hs hcd ?_
    have hs1 := bS_c (c1 := upd c d (nI 1)) hs
    have gm1 := bS_at hh hc0 hs1 hm (mO_ne M o) (mO_cm M o)
    refine zi_icmp_ne (tgt := 294) X dX7_between_217 (by decide) (fun c_217 => (by first | exact absurd (by decide) c_217 | exact absurd c_217 (by decide))) (fun c_217 => ?_)
    refine zi_aload_n X dX7_between_220 rfl rfl ?_
    refine zi_aload X dX7_between_221 rfl ?_
    refine zi_iload X dX7_between_223 rfl ?_
    have cq : ∀ i, i ≤ g → cwQ (P1 (16 + d)) g i = cwQ q g i := cwQ_cong hq
    refine zi_callVi X (r_changesWithin l D gm1 hs1.2.1 (j := 16 + d) (g := g) (by omega) (by omega) hg7 (fun i hi => by rw [cq i hi]; exact hok.1 i hi)) kc_X7_changesWithin wm_X7_205 (by first | assumption | exact mup_self | (rw [mup_ne (by assumption)]; assumption) | (rw [mup_ne (by assumption)]; exact mup_self) | (rw [mup_ne (by assumption), mup_ne (by assumption)]; assumption)) rfl wim_X7_changesWithin wse_X7_changesWithin ⟨Nat.le_of_ble_eq_true rfl, Nat.le_of_ble_eq_true rfl⟩ rfl rfl (Nat.le_of_ble_eq_true rfl) ⟨Nat.le_of_ble_eq_true rfl, Nat.le_of_ble_eq_true rfl⟩ dX7_between_225 (fun r h2 hp => ?_)
    obtain ⟨hf2, ⟨P2, hq2, hk2⟩, rfl⟩ := hp
    have hs2 := bS_n hs1 hf2 hq2
    rw [cwN_cong hq]
    have cN7 : cwN q g ≤ 7 := Nat.le_trans (chg_le _ _) (by omega)
    by_cases c2 : cwN q g < 2
    · refine zi_istore X dX7_between_228 (by decide) ?_
      refine zi_iload X dX7_between_230 rfl ?_
      refine zi_iconst (v := (nI 2)) X dX7_between_232 (by decide) ?_
      refine zi_icmp_ge (tgt := 249) X dX7_between_233 (by decide) (fun c_233 => (by first | exact absurd (by rw [nI_leI (by decide) (by omega)]; omega) c_233 | exact absurd c_233 (by rw [nI_leI (by decide) (by omega)]; omega))) (fun c_233 => ?_)
      refine zi_iload X dX7_between_236 rfl ?_
      refine zi_iload X dX7_between_238 rfl ?_
      refine zi_iadd X dX7_between_240 ?_
      refine zi_istore X dX7_between_241 (by decide) ?_
      refine zi_iinc X dX7_between_243 rfl rfl (by decide) ?_
      refine zi_goto (tgt := 173) X dX7_between_246 (by decide) ?_
      rw [nI_add, nI_dm]
      refine zi_sub (L' := [some (.ref m), some (.ref p1), some (.long xa), none, some (.long xb), none, some (.int (nI k)), some (.int (nI g)), none, some (.int (nI (F + cwN q g))), some (.int (nI d - nI 1)), none, none, none, none]) (by repeat (first | exact trivial | refine And.intro rfl ?_)) ?_
      have := K h2 P2 (upd c d (nI 1)) hs2 (fun k hk _ => hk2 k hk) (fun i hi => pk_un (by omega))
      rw [cntN, if_pos c2] at this
      exact this
    · obtain ⟨ok1, ok2, ok3⟩ := hok.2 c2
      refine zi_istore X dX7_between_228 (by decide) ?_
      refine zi_iload X dX7_between_230 rfl ?_
      refine zi_iconst (v := (nI 2)) X dX7_between_232 (by decide) ?_
      refine zi_icmp_ge (tgt := 249) X dX7_between_233 (by decide) (fun c_233 => ?_) (fun c_233 => (by first | exact absurd (by rw [nI_leI (by decide) (by omega)]; omega) c_233 | exact absurd c_233 (by rw [nI_leI (by decide) (by omega)]; omega)))
      refine zi_iconst (v := (nI 0)) X dX7_between_249 (by decide) ?_
      refine zi_istore X dX7_between_250 (by decide) ?_
      -- the halves' coefficients
      suffices half : ∀ n i (g3 : mH) (N3 : Nat → Int), i + n = g + 1 → nfr M g3 h2 → hN cA M N3 g3 → (∀ t, t < 7 → N3 (7 * (16 + (d + 1)) + t) = if t < i then hlQ g q t else P2 (16 + (d + 1)) t) → (∀ k, k < 176 → k ≠ 16 + (d + 1) → ∀ t, t < 7 → N3 (7 * k + t) = P2 k t) → zM z 0 0 252 [some (.ref m), some (.ref p1), some (.long xa), none, some (.long xb), none, some (.int (nI k)), some (.int (nI g)), none, some (.int (nI F)), some (.int (nI d)), some (.ref (M 1 (16 + d))), some (.ref (M 1 (16 + (d + 1)))), none, some (.int (nI i))] [] g3 from by
        obtain ⟨N2, hN2, hP2⟩ := id hq2
        refine zi_sub (by repeat (first | exact trivial | refine And.intro rfl ?_)) (half (g + 1) 0 h2 N2 (by omega) (nfr_rf M h2) hN2 (fun t ht => by rw [if_neg (by omega)]; exact hP2 _ (by omega) t ht) (fun k hk _ t ht => hP2 k hk t ht))
      intro n
      induction n with
      | zero =>
        intro i g3 N3 hi hf3 hN3 e1 e2
        obtain rfl : i = g + 1 := by omega
        have hq3 : hQ cA M (updP P2 (16 + (d + 1)) (fun t => if t < g + 1 then hlQ g q t else P2 (16 + (d + 1)) t)) g3 := ⟨N3, hN3, fun k hk t ht => by
          unfold updP
          by_cases w : k = 16 + (d + 1)
          · rw [if_pos w, w]; exact e1 t ht
          · rw [if_neg w]; exact e2 k hk w t ht⟩
        have hs3 := bS_n hs2 hf3 hq3
        refine zi_iload X dX7_between_252 rfl ?_
        refine zi_iload X dX7_between_254 rfl ?_
        refine zi_icmp_gt (tgt := 291) X dX7_between_256 (by decide) (fun c_256 => ?_) (fun c_256 => (by first | exact absurd (nI_lt (show g < g + 1 by omega) (by omega)) c_256 | exact absurd c_256 (nI_lt (show g < g + 1 by omega) (by omega))))
        refine zi_goto (tgt := 341) X dX7_between_291 (by decide) ?_
        refine zi_sub (by repeat (first | exact trivial | refine And.intro rfl ?_)) (down F g3 _ (upd c d (nI 1)) (hlQ g q) hs3 (fun i hi => by rw [updP_s, if_pos (by omega)]) ok2 (fun g4 P4 c4 hs4 hk4 hc4 => ?_))
        have P4d : ∀ k, k ≠ 5 → k ≤ 16 + d → P4 k = P1 k := fun k h5 hk => by rw [hk4 k h5 (by omega), updP_n (by omega), hk2 k h5]
        have P4n : ∀ i, i ≤ g → P4 (16 + (d + 1)) i = hlQ g q i := fun i hi => by rw [hk4 _ (by omega) (by omega), updP_s, if_pos (by omega)]
        rw [nI_pr]
        refine head (F + cntN g f (hlQ g q)) g4 P4 c4 1 hs4 (by rw [hc4 d (by omega)]; exact pk_us) ?_
        have hs5 := bS_c (c1 := upd c4 d (nI 2)) hs4
        have gm5 := bS_at hh hc0 hs5 hm (mO_ne M o) (mO_cm M o)
        have gc5 := hs5.2.2
        refine zi_icmp_ne (tgt := 294) X dX7_between_217 (by decide) (fun c_217 => ?_) (fun c_217 => (by first | exact absurd (by decide) c_217 | exact absurd c_217 (by decide)))
        refine zi_aload_n X dX7_between_294 rfl rfl ?_
        refine zi_getf (C := RX7) (T := TX7) (N := 27) (ci := 11) X (by first | assumption | exact mup_self | (rw [mup_ne (by assumption)]; assumption) | (rw [mup_ne (by assumption)]; exact mup_self) | (rw [mup_ne (by assumption), mup_ne (by assumption)]; assumption)) rfl in_X7 14 (by decide) wf_X7_53 rfl rfl dX7_between_295 ?_
        refine zi_iload X dX7_between_298 rfl ?_
        refine zi_iald X 0 (by first | assumption | exact mup_self | (rw [mup_ne (by assumption)]; assumption) | (rw [mup_ne (by assumption)]; exact mup_self) | (rw [mup_ne (by assumption), mup_ne (by assumption)]; assumption)) rfl (vin (show d < 160 by omega) (by decide)) dX7_between_300 ?_
        refine zi_iconst (v := (nI 2)) X dX7_between_301 (by decide) ?_
        refine zi_icmp_ne (tgt := 335) X dX7_between_302 (by decide) (fun c_302 => (by first | exact absurd (by rw [nI_cl (show d < 2147483648 by omega), pk_us]; decide) c_302 | exact absurd c_302 (by rw [nI_cl (show d < 2147483648 by omega), pk_us]; decide))) (fun c_302 => ?_)
        refine zi_aload X dX7_between_305 rfl ?_
        refine zi_iload X dX7_between_307 rfl ?_
        obtain ⟨N5, hN5, hP5⟩ := id hs5.2.1
        refine zi_callSv X (m_moves l D hN5 (j := 16 + (d + 1)) (g := g) (by omega) hg7) kc_X7_moves wm_X7_197 wst_X7_moves ⟨Nat.le_of_ble_eq_true rfl, Nat.le_of_ble_eq_true rfl⟩ rfl rfl (Nat.le_of_ble_eq_true rfl) ⟨Nat.le_of_ble_eq_true rfl, Nat.le_of_ble_eq_true rfl⟩ dX7_between_309 (fun h6 hp => ?_)
        obtain ⟨hf6, hN6⟩ := hp
        have ev : ∀ t, t ≤ g → mvA g g (cof N5 (16 + (d + 1))) t = hrQ g q t := mvA_cong g (Nat.le_refl g) (fun t ht => by
          show N5 (7 * (16 + (d + 1)) + t) = _
          rw [hP5 _ (by omega) t (by omega), P4n t ht])
        have hq6 : hQ cA M (updP P4 (16 + (d + 1)) (mvA g g (cof N5 (16 + (d + 1))))) h6 := hQ_set hN6 hP5 (fun i _ => rfl)
        have hs6 := bS_n hs5 hf6 hq6
        have a6 := hN6.2.1 (16 + (d + 1)) (by omega)
        have b6 := hN6.1 (7 * (16 + (d + 1)) + 0) (by omega)
        rw [setP_at (by decide), ev 0 (Nat.zero_le g)] at b6
        refine zi_iload X dX7_between_312 rfl ?_
        refine zi_aload X dX7_between_314 rfl ?_
        refine zi_iconst (v := (nI 0)) X dX7_between_316 (by decide) ?_
        refine zi_aaldA X 4 (by first | assumption | exact mup_self | (rw [mup_ne (by assumption)]; assumption) | (rw [mup_ne (by assumption)]; exact mup_self) | (rw [mup_ne (by assumption), mup_ne (by assumption)]; assumption)) rfl (vin (show 0 < 7 by decide) (by decide)) (pa_at (i := 0) (by decide)) dX7_between_317 ?_
        refine zi_callSi X (n_sign l D b6 (nB_C ok1)) kc_X7_sign wm_X7_110 wst_X7_sign ⟨Nat.le_of_ble_eq_true rfl, Nat.le_of_ble_eq_true rfl⟩ rfl rfl (Nat.le_of_ble_eq_true rfl) ⟨Nat.le_of_ble_eq_true rfl, Nat.le_of_ble_eq_true rfl⟩ dX7_between_318 (fun r h7 hp => ?_)
        obtain ⟨rfl, rfl⟩ := hp
        -- the other half
        have right : ∀ w : Nat, w = (if hrQ g q 0 = 0 then 1 else 0) → zM z 0 0 329 [some (.ref m), some (.ref p1), some (.long xa), none, some (.long xb), none, some (.int (nI k)), some (.int (nI g)), none, some (.int (nI (F + cntN g f (hlQ g q)))), some (.int (nI d)), none, none, none, none] [.int (nI w), .int (nI (F + cntN g f (hlQ g q)))] h7 := fun w hw => by
          refine zi_iadd X dX7_between_329 ?_
          refine zi_istore X dX7_between_330 (by decide) ?_
          refine zi_goto (tgt := 341) X dX7_between_332 (by decide) ?_
          rw [nI_add]
          refine zi_sub (by repeat (first | exact trivial | refine And.intro rfl ?_)) (down (F + cntN g f (hlQ g q) + w) h7 _ (upd c4 d (nI 2)) (hrQ g q) hs6 (fun i hi => by rw [updP_s, ev i hi]) ok3 (fun g8 P8 c8 hs8 hk8 hc8 => ?_))
          have P8d : ∀ k, k ≠ 5 → k ≤ 16 + d → P8 k = P1 k := fun k h5 hk => by rw [hk8 k h5 (by omega), updP_n (by omega), P4d k h5 hk]
          rw [nI_pr]
          refine head (F + cntN g f (hlQ g q) + w + cntN g f (hrQ g q)) g8 P8 c8 2 hs8 (by rw [hc8 d (by omega)]; exact pk_us) ?_
          have hs9 := bS_c (c1 := upd c8 d (nI 3)) hs8
          have gm9 := bS_at hh hc0 hs9 hm (mO_ne M o) (mO_cm M o)
          have gc9 := hs9.2.2
          refine zi_icmp_ne (tgt := 294) X dX7_between_217 (by decide) (fun c_217 => ?_) (fun c_217 => (by first | exact absurd (by decide) c_217 | exact absurd c_217 (by decide)))
          refine zi_aload_n X dX7_between_294 rfl rfl ?_
          refine zi_getf (C := RX7) (T := TX7) (N := 27) (ci := 11) X (by first | assumption | exact mup_self | (rw [mup_ne (by assumption)]; assumption) | (rw [mup_ne (by assumption)]; exact mup_self) | (rw [mup_ne (by assumption), mup_ne (by assumption)]; assumption)) rfl in_X7 14 (by decide) wf_X7_53 rfl rfl dX7_between_295 ?_
          refine zi_iload X dX7_between_298 rfl ?_
          refine zi_iald X 0 (by first | assumption | exact mup_self | (rw [mup_ne (by assumption)]; assumption) | (rw [mup_ne (by assumption)]; exact mup_self) | (rw [mup_ne (by assumption), mup_ne (by assumption)]; assumption)) rfl (vin (show d < 160 by omega) (by decide)) dX7_between_300 ?_
          refine zi_iconst (v := (nI 2)) X dX7_between_301 (by decide) ?_
          refine zi_icmp_ne (tgt := 335) X dX7_between_302 (by decide) (fun c_302 => ?_) (fun c_302 => (by first | exact absurd (by rw [nI_cl (show d < 2147483648 by omega), pk_us]; decide) c_302 | exact absurd c_302 (by rw [nI_cl (show d < 2147483648 by omega), pk_us]; decide)))
          refine zi_iinc X dX7_between_335 rfl rfl (by decide) ?_
          refine zi_goto (tgt := 173) X dX7_between_338 (by decide) ?_
          rw [nI_dm]
          refine zi_sub (L' := [some (.ref m), some (.ref p1), some (.long xa), none, some (.long xb), none, some (.int (nI k)), some (.int (nI g)), none, some (.int (nI (F + cntN g f (hlQ g q) + w + cntN g f (hrQ g q)))), some (.int (nI d - nI 1)), none, none, none, none]) (by repeat (first | exact trivial | refine And.intro rfl ?_)) ?_
          have := K _ P8 (upd c8 d (nI 3)) hs9 P8d (fun i hi => by rw [pk_un (by omega), hc8 i (by omega), pk_un (by omega), hc4 i (by omega), pk_un (by omega)])
          rw [cntN, if_neg c2, ← hw] at this
          rw [show F + cntN g f (hlQ g q) + w + cntN g f (hrQ g q) = F + (cntN g f (hlQ g q) + (w + cntN g f (hrQ g q))) by omega]
          exact this
        by_cases w0 : hrQ g q 0 = 0
        · refine zi_if_ne (tgt := 328) X dX7_between_321 (by decide) (fun c_321 => (by first | exact absurd (sg_0.mpr w0) c_321 | exact absurd c_321 (sg_0.mpr w0))) (fun c_321 => ?_)
          refine zi_iconst (v := (nI 1)) X dX7_between_324 (by decide) ?_
          refine zi_goto (tgt := 329) X dX7_between_325 (by decide) ?_
          exact zi_sub (by repeat (first | exact trivial | refine And.intro rfl ?_)) (right 1 (by rw [if_pos w0]))
        · refine zi_if_ne (tgt := 328) X dX7_between_321 (by decide) (fun c_321 => ?_) (fun c_321 => (by first | exact absurd (fun w => w0 (sg_0.mp w)) c_321 | exact absurd c_321 (fun w => w0 (sg_0.mp w))))
          refine zi_iconst (v := (nI 0)) X dX7_between_328 (by decide) ?_
          exact zi_sub (by repeat (first | exact trivial | refine And.intro rfl ?_)) (right 0 (by rw [if_neg w0]))
      | succ n ihn =>
        intro i g3 N3 hi hf3 hN3 e1 e2
        have i7 : i < 7 := by omega
        have a1 := hN3.2.1 (16 + d) (by omega)
        have a2 := hN3.2.1 (16 + (d + 1)) (by omega)
        have b1 := hN3.1 (7 * (16 + d) + i) (by omega)
        have b2 := hN3.1 (7 * (16 + (d + 1)) + i) (by omega)
        rw [e2 (16 + d) (by omega) (by omega) i i7, hk2 _ (by omega), hq i (by omega)] at b1
        refine zi_iload X dX7_between_252 rfl ?_
        refine zi_iload X dX7_between_254 rfl ?_
        refine zi_icmp_gt (tgt := 291) X dX7_between_256 (by decide) (fun c_256 => (by first | exact absurd (nI_nlt (show i ≤ g by omega) (by omega)) c_256 | exact absurd c_256 (nI_nlt (show i ≤ g by omega) (by omega)))) (fun c_256 => ?_)
        refine zi_aload X dX7_between_259 rfl ?_
        refine zi_iload X dX7_between_261 rfl ?_
        refine zi_aaldA X 4 (by first | assumption | exact mup_self | (rw [mup_ne (by assumption)]; assumption) | (rw [mup_ne (by assumption)]; exact mup_self) | (rw [mup_ne (by assumption), mup_ne (by assumption)]; assumption)) rfl (vin i7 (by decide)) (pa_at (i := i) i7) dX7_between_263 ?_
        refine zi_aload X dX7_between_264 rfl ?_
        refine zi_iload X dX7_between_266 rfl ?_
        refine zi_aaldA X 4 (by first | assumption | exact mup_self | (rw [mup_ne (by assumption)]; assumption) | (rw [mup_ne (by assumption)]; exact mup_self) | (rw [mup_ne (by assumption), mup_ne (by assumption)]; assumption)) rfl (vin i7 (by decide)) (pa_at (i := i) i7) dX7_between_268 ?_
        refine zi_callSv X (n_copy l D b1 b2 (hN_ne hN3 (by omega) (by omega) (by omega))) kc_X7_copy wm_X7_113 wst_X7_copy ⟨Nat.le_of_ble_eq_true rfl, Nat.le_of_ble_eq_true rfl⟩ rfl rfl (Nat.le_of_ble_eq_true rfl) ⟨Nat.le_of_ble_eq_true rfl, Nat.le_of_ble_eq_true rfl⟩ dX7_between_269 (fun h4 hp => ?_)
        subst hp
        have hN4 := hN_up hN3 (n := 7 * (16 + (d + 1)) + i) (by omega) (q i)
        have a4 := hN4.2.1 (16 + (d + 1)) (by omega)
        have b4 := hN4.1 (7 * (16 + (d + 1)) + i) (by omega)
        rw [updI_s] at b4
        have egi : nI g - nI i = nI (g - i) := by rw [pk_sub (by omega)]
        refine zi_aload X dX7_between_272 rfl ?_
        refine zi_iload X dX7_between_274 rfl ?_
        refine zi_aaldA X 4 (by first | assumption | exact mup_self | (rw [mup_ne (by assumption)]; assumption) | (rw [mup_ne (by assumption)]; exact mup_self) | (rw [mup_ne (by assumption), mup_ne (by assumption)]; assumption)) rfl (vin i7 (by decide)) (pa_at (i := i) i7) dX7_between_276 ?_
        refine zi_iload X dX7_between_277 rfl ?_
        refine zi_iload X dX7_between_279 rfl ?_
        refine zi_isub X dX7_between_281 ?_
        rw [egi]
        refine zi_callSv X (n_left l D b4 (B := g - i) (by omega)) kc_X7_left wm_X7_141 wst_X7_left ⟨Nat.le_of_ble_eq_true rfl, Nat.le_of_ble_eq_true rfl⟩ rfl rfl (Nat.le_of_ble_eq_true rfl) ⟨Nat.le_of_ble_eq_true rfl, Nat.le_of_ble_eq_true rfl⟩ dX7_between_282 (fun h5 hp => ?_)
        subst hp
        rw [mup_mup]
        refine zi_iinc (v := nI (i + 1)) X dX7_between_285 rfl (nI_inc _) (by decide) ?_
        refine zi_goto (tgt := 252) X dX7_between_288 (by decide) ?_
        refine zi_sub (by repeat (first | exact trivial | refine And.intro rfl ?_)) (ihn (i + 1) _ _ (by omega) (nfr_tr (nfr_up (by omega)) hf3) (hN_up hN3 (n := 7 * (16 + (d + 1)) + i) (by omega) _) (fun t ht => ?_) (fun k hk w t ht => by rw [updI_n (by omega), e2 k hk w t ht]))
        by_cases w : t = i
        · rw [w, updI_s, if_pos (by omega)]
          rfl
        · rw [updI_n (by omega), e1 t ht]
          by_cases w2 : t < i
          · rw [if_pos w2, if_pos (by omega)]
          · rw [if_neg w2, if_neg (by omega)]
end RW8
