/-! SturmRootsModel: its world -/
def kd : va_E → Nat × Nat
  | .inr _ => (0, 0)
  | .inl (_, n, .inl _) => (1, n)
  | .inl (_, n, .inr (.inl _)) => (2, n)
  | .inl (_, n, .inr (.inr _)) => (3, n)
theorem kd_ne {h : mH} {a b : Nat} {e e' : va_E} (ha : h a = some e) (hb : h b = some e') (hk : (kd e == kd e') = false) : a ≠ b := fun q => by
  rw [q, hb] at ha
  rw [Option.some.inj ha] at hk
  exact absurd hk (by rw [beq_self_eq_true]; decide)
def mdE (c : ClassId) (f : Nat → Int64) : va_E := .inl (c, 14, .inr (.inl f))
def liE (c : ClassId) (cap : Nat) (f : Nat → Int32) : va_E := .inl (c, cap, .inl f)
def r8E (c : ClassId) (M : Nat → Nat → Nat) : va_E := .inl (c, 8, .inr (.inr (.inr (.inr (fun d => if d < 8 then some (M 1 (8 + d)) else none)))))
def slE (c : ClassId) (M : Nat → Nat → Nat) : va_E := .inl (c, 5, .inr (.inr (.inr (.inr (fun i => if i < 5 then some (M 4 i) else none)))))
theorem r8_at {M : Nat → Nat → Nat} {d : Nat} {x : Int32} (hx : x = nI d) (hd : d < 8) : (fun d => if d < 8 then some (M 1 (8 + d)) else none) x.toNatClampNeg = some (M 1 (8 + d)) := by
  rw [hx, nI_cl (by omega)]
  exact if_pos hd
theorem sl4_at {M : Nat → Nat → Nat} {i : Nat} (hi : i < 5) : (fun i => if i < 5 then some (M 4 i) else none) (nI i).toNatClampNeg = some (M 4 i) := by
  rw [nI_cl (by omega)]
  exact if_pos hi
def rX (cA : Nat → ClassId) (M : Nat → Nat → Nat) (h : mH) (o : RO) (Sl : Nat → Nat → Int) (kp : Nat → Int) : Prop :=
  h (M 3 0) = some (mO M o) ∧ h (M 2 0) = some (slE (cA 4) M) ∧ (∀ i, i < 5 → h (M 4 i) = some (slotA (cA 0) (Sl i))) ∧ h (M 2 5) = some (slotA (cA 0) kp) ∧ h (M 2 1) = some (hvE (cA 5) M) ∧ h (M 2 4) = some (r8E (cA 5) M) ∧ (∃ c, h (M 2 2) = some (cmE (cA 0) c)) ∧ ∃ f, h (M 2 3) = some (mdE (cA 1) f)
def capOk (cap : Nat) : Prop := 64 ≤ cap ∧ cap ≤ 2048 ∧ cap ≠ 160 ∧ ∃ e, cap = 64 * 2 ^ e
def rV (cA : Nat → ClassId) (h : mH) (R : Nat → Nat) (cap n : Nat) (V : Nat → Iv) : Prop :=
  ∃ f : Nat → Nat → Int32, (∀ t, t < 4 → h (R t) = some (liE (cA 0) cap (f t))) ∧ (∀ s t, s < 4 → t < 4 → R s = R t → s = t) ∧ n ≤ cap ∧ capOk cap ∧ ∀ i, i < n → f 0 i = nI (V i).1 ∧ f 1 i = iI (V i).2.1 ∧ f 2 i = iI (V i).2.2.1 ∧ f 3 i = iI (V i).2.2.2
def rD (M : Nat → Nat → Nat) : Prop := (∀ i j, i < 5 → j < 5 → M 4 i = M 4 j → i = j) ∧ ∀ i, i < 5 → M 4 i ≠ M 2 5
def rU (cA : Nat → ClassId) (M : Nat → Nat → Nat) (h : mH) (o : RO) (Sl : Nat → Nat → Int) (kp : Nat → Int) (cap n : Nat) (V : Nat → Iv) (P : Nat → Nat → Int) : Prop := hQ cA M P h ∧ rX cA M h o Sl kp ∧ rV cA h o.2.2.2 cap n V ∧ rD M
def rW (cA : Nat → ClassId) (M : Nat → Nat → Nat) (th : Nat) (h : mH) (A : AState) : Prop := ∃ ln R cap P kp, rU cA M h (nI th, ln, nI A.2.1, R) A.1 kp cap A.2.1 A.2.2.1 P ∧ (A.2.1 ≠ 0 → kp = A.2.2.2 ∧ P 7 = frP A.2.2.2)
section WD
variable {cA : Nat → ClassId} {M : Nat → Nat → Nat} {h h1 : mH} {o : RO} {Sl : Nat → Nat → Int} {kp : Nat → Int} {cap n : Nat} {V : Nat → Iv} {P : Nat → Nat → Int}
theorem nE_kd (c : ClassId) (v : Int) : kd (nE c v) = (1, 48) := rfl
theorem kd_nE {e : va_E} (h : (kd e == (1, 48)) = false) : ∀ c v, e ≠ nE c v := fun c v q => by rw [q] at h; exact Bool.noConfusion (show true = false from h)
theorem kd_cm {e : va_E} (h : (kd e == (1, 160)) = false) : ∀ c f, e ≠ cmE c f := fun c f q => by rw [q] at h; exact Bool.noConfusion (show true = false from h)
theorem cap_kd (hc : capOk cap) : ((1, cap) == (1, 48)) = false ∧ ((1, cap) == (1, 7)) = false ∧ ((1, cap) == (1, 160)) = false := by
  obtain ⟨a, b, c, -⟩ := hc
  refine ⟨?_, ?_, ?_⟩ <;> · rw [beq_eq_false_iff_ne]; intro q; simp at q; omega
/-- numbers change -/
theorem rU_n (hu : rU cA M h o Sl kp cap n V P) (hf : nfr M h1 h) {P1 : Nat → Nat → Int} (hq : hQ cA M P1 h1) : rU cA M h1 o Sl kp cap n V P1 := by
  obtain ⟨h0, ⟨x1, x2, x3, x4, x5, x6, ⟨c, x7⟩, f, x8⟩, ⟨g, v1, v2, v3, v4, v5⟩, hd⟩ := hu
  have go : ∀ {a : Nat} {e : va_E}, h a = some e → (kd e == (1, 48)) = false → h1 a = some e := fun ha hk => hQ_fr h0 hf ha (kd_nE hk)
  exact ⟨hq, ⟨go x1 rfl, go x2 rfl, fun i hi => go (x3 i hi) rfl, go x4 rfl, go x5 rfl, go x6 rfl, ⟨c, go x7 rfl⟩, f, go x8 rfl⟩, ⟨g, fun t ht => go (v1 t ht) (cap_kd v4).1, v2, v3, v4, v5⟩, hd⟩
/-- .. and the search's counters -/
theorem rU_b (hu : rU cA M h o Sl kp cap n V P) (hf : bfr M h1 h) {P1 : Nat → Nat → Int} (hq : hQ cA M P1 h1) (hc : ∃ c, h1 (M 2 2) = some (cmE (cA 0) c)) : rU cA M h1 o Sl kp cap n V P1 := by
  obtain ⟨⟨N, hN0, hP⟩, ⟨x1, x2, x3, x4, x5, x6, ⟨c, x7⟩, f, x8⟩, ⟨g, v1, v2, v3, v4, v5⟩, hd⟩ := hu
  have go : ∀ {a : Nat} {e : va_E}, h a = some e → (kd e == (1, 48)) = false → (kd e == (1, 160)) = false → h1 a = some e := fun {a} {e} ha hk hk2 => by
    rw [hf a (hN_out hN0 ha (kd_nE hk)) (kd_ne ha x7 hk2)]
    exact ha
  exact ⟨hq, ⟨go x1 rfl rfl, go x2 rfl rfl, fun i hi => go (x3 i hi) rfl rfl, go x4 rfl rfl, go x5 rfl rfl, go x6 rfl rfl, hc, f, go x8 rfl rfl⟩, ⟨g, fun t ht => go (v1 t ht) (cap_kd v4).1 (cap_kd v4).2.2, v2, v3, v4, v5⟩, hd⟩
theorem hQ_up {a : Nat} {e e0 : va_E} (hq : hQ cA M P h) (ha : h a = some e0) (hk : (kd e0 == (1, 48)) = false) (hk2 : (kd e0 == (3, 7)) = false) : hQ cA M P (mup h a e) := by
  obtain ⟨N, hN0, hP⟩ := hq
  refine ⟨N, ⟨fun m hm => ?_, fun j hj => ?_, hN0.2.2⟩, hP⟩
  · rw [mup_ne (kd_ne ha (hN0.1 m hm) hk).symm]
    exact hN0.1 m hm
  · rw [mup_ne (kd_ne ha (hN0.2.1 j hj) hk2).symm]
    exact hN0.2.1 j hj
/-- the object's own fields -/
theorem rU_o (hu : rU cA M h o Sl kp cap n V P) (o1 : RO) (hR : o1.2.2.2 = o.2.2.2) : rU cA M (mup h (M 3 0) (mO M o1)) o1 Sl kp cap n V P := by
  obtain ⟨h0, ⟨x1, x2, x3, x4, x5, x6, ⟨c, x7⟩, f, x8⟩, ⟨g, v1, v2, v3, v4, v5⟩, hd⟩ := hu
  have go : ∀ {a : Nat} {e : va_E}, h a = some e → (kd e == (0, 0)) = false → mup h (M 3 0) (mO M o1) a = some e := fun ha hk => by rw [mup_ne (kd_ne ha x1 hk)]; exact ha
  refine ⟨hQ_up h0 x1 rfl rfl, ⟨mup_self, go x2 rfl, fun i hi => go (x3 i hi) rfl, go x4 rfl, go x5 rfl, go x6 rfl, ⟨c, go x7 rfl⟩, f, go x8 rfl⟩, ?_, hd⟩
  rw [hR]
  exact ⟨g, fun t ht => go (v1 t ht) rfl, v2, v3, v4, v5⟩
/-- what is made -/
theorem rU_m (hu : rU cA M h o Sl kp cap n V P) (f1 : Nat → Int64) : rU cA M (mup h (M 2 3) (mdE (cA 1) f1)) o Sl kp cap n V P := by
  obtain ⟨h0, ⟨x1, x2, x3, x4, x5, x6, ⟨c, x7⟩, f, x8⟩, ⟨g, v1, v2, v3, v4, v5⟩, hd⟩ := hu
  have go : ∀ {a : Nat} {e : va_E}, h a = some e → (kd e == (2, 14)) = false → mup h (M 2 3) (mdE (cA 1) f1) a = some e := fun ha hk => by rw [mup_ne (kd_ne ha x8 hk)]; exact ha
  exact ⟨hQ_up h0 x8 rfl rfl, ⟨go x1 rfl, go x2 rfl, fun i hi => go (x3 i hi) rfl, go x4 rfl, go x5 rfl, go x6 rfl, ⟨c, go x7 rfl⟩, f1, mup_self⟩, ⟨g, fun t ht => go (v1 t ht) rfl, v2, v3, v4, v5⟩, hd⟩
/-- a slot -/
theorem rU_s (hu : rU cA M h o Sl kp cap n V P) {i : Nat} (hi : i < 5) (s : Nat → Int) : rU cA M (mup h (M 4 i) (slotA (cA 0) s)) o (setS Sl i s) kp cap n V P := by
  obtain ⟨h0, ⟨x1, x2, x3, x4, x5, x6, ⟨c, x7⟩, f, x8⟩, ⟨g, v1, v2, v3, v4, v5⟩, hd⟩ := hu
  have x3i := x3 i hi
  have go : ∀ {a : Nat} {e : va_E}, h a = some e → (kd e == (1, 7)) = false → mup h (M 4 i) (slotA (cA 0) s) a = some e := fun ha hk => by rw [mup_ne (kd_ne ha x3i hk)]; exact ha
  refine ⟨hQ_up h0 x3i rfl rfl, ⟨go x1 rfl, go x2 rfl, fun j hj => ?_, ?_, go x5 rfl, go x6 rfl, ⟨c, go x7 rfl⟩, f, go x8 rfl⟩, ⟨g, fun t ht => go (v1 t ht) (cap_kd v4).2.1, v2, v3, v4, v5⟩, hd⟩
  · unfold setS
    by_cases e : j = i
    · rw [if_pos e, e, mup_self]
    · rw [if_neg e, mup_ne (fun q => e (hd.1 j i hj hi q))]
      exact x3 j hj
  · rw [mup_ne (fun q => hd.2 i hi q.symm)]
    exact x4
/-- what is kept -/
theorem rU_k (hu : rU cA M h o Sl kp cap n V P) (s : Nat → Int) : rU cA M (mup h (M 2 5) (slotA (cA 0) s)) o Sl s cap n V P := by
  obtain ⟨h0, ⟨x1, x2, x3, x4, x5, x6, ⟨c, x7⟩, f, x8⟩, ⟨g, v1, v2, v3, v4, v5⟩, hd⟩ := hu
  have go : ∀ {a : Nat} {e : va_E}, h a = some e → (kd e == (1, 7)) = false → mup h (M 2 5) (slotA (cA 0) s) a = some e := fun ha hk => by rw [mup_ne (kd_ne ha x4 hk)]; exact ha
  refine ⟨hQ_up h0 x4 rfl rfl, ⟨go x1 rfl, go x2 rfl, fun j hj => ?_, mup_self, go x5 rfl, go x6 rfl, ⟨c, go x7 rfl⟩, f, go x8 rfl⟩, ⟨g, fun t ht => go (v1 t ht) (cap_kd v4).2.1, v2, v3, v4, v5⟩, hd⟩
  rw [mup_ne (hd.2 j hj)]
  exact x3 j hj
end WD
