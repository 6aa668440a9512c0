/-! rows of rows that are made: two dimensions, three dimensions (of int) -/
/-- the outer row, i places filled -/
def mkC (c : ClassId) (N : Nat) (ad : Nat → Nat) (i : Nat) : Cell := arrV c N (fun j => va_rf (if j < i then some (ad j) else none))
theorem mkC_0 (c : ClassId) (N : Nat) (ad : Nat → Nat) : ({ cls := c, slots := Array.replicate N .null } : Cell) = mkC c N ad 0 := by
  rw [show ({ cls := c, slots := Array.replicate N .null } : Cell) = { cls := c, slots := Array.replicate N .null, vm := .none } from rfl, arrV_new]
  refine congrArg (arrV c N) (funext fun j => ?_)
  rw [if_neg (Nat.not_lt_zero j)]
  rfl
theorem mkC_s (c : ClassId) (N : Nat) (ad : Nat → Nat) (i : Nat) : (mkC c N ad i).setSlot i (.ref (ad i)) = mkC c N ad (i + 1) := by
  unfold mkC
  rw [arrV_store]
  refine congrArg (arrV c N) (funext fun j => ?_)
  unfold updV
  by_cases e : j = i
  · rw [if_pos e, if_pos (by omega), e]
    rfl
  · rw [if_neg e]
    dsimp only
    by_cases q : j < i
    · rw [if_pos q, if_pos (by omega)]
    · rw [if_neg q, if_neg (by omega)]
theorem mkC_n {c : ClassId} {N : Nat} {ad : Nat → Nat} {i : Nat} : (mkC c N ad i).slots.size = N := arrV_size _ _ _
/-- one row after another is made by inn, each of B cells -/
def mkR (inn : State → State) (c : ClassId) (N B : Nat) (s : State) : Nat → State
  | 0 => s.pushCell (mkC c N (fun j => s.heap.size + 1 + j * B) 0)
  | i + 1 => (inn (mkR inn c N B s i)).setCell s.heap.size (mkC c N (fun j => s.heap.size + 1 + j * B) (i + 1))
/-- what inn makes: B cells, S places; the cell at i is cont base i -/
def mkOK (inn : State → State) (B S : Nat) (cont : Nat → Nat → Cell) : Prop :=
  (∀ s, (inn s).heap.size = s.heap.size + B ∧ (inn s).vm = s.vm ∧ (inn s).slotsUsed = s.slotsUsed + S) ∧ (∀ s a, a < s.heap.size → (inn s).heap[a]? = s.heap[a]?) ∧ (∀ s i, i < B → (inn s).heap[s.heap.size + i]? = some (cont s.heap.size i)) ∧ ∀ s f, inn (s.setTop f) = (inn s).setTop f
def mkX (c : ClassId) (N B : Nat) (cont : Nat → Nat → Cell) (b x : Nat) : Cell := if x = 0 then mkC c N (fun j => b + 1 + j * B) N else cont (b + 1 + (x - 1) / B * B) ((x - 1) % B)
section MK
variable {inn : State → State} {B S : Nat} {cont : Nat → Nat → Cell}
theorem mkR_ok (h : mkOK inn B S cont) (c : ClassId) (N : Nat) (s : State) : ∀ i, (mkR inn c N B s i).heap.size = s.heap.size + 1 + i * B ∧ (mkR inn c N B s i).vm = s.vm ∧ (mkR inn c N B s i).slotsUsed = s.slotsUsed + N + i * S ∧ (mkR inn c N B s i).heap[s.heap.size]? = some (mkC c N (fun j => s.heap.size + 1 + j * B) i) ∧ (∀ a, a < s.heap.size → (mkR inn c N B s i).heap[a]? = s.heap[a]?) ∧ ∀ j k, j < i → k < B → (mkR inn c N B s i).heap[s.heap.size + 1 + j * B + k]? = some (cont (s.heap.size + 1 + j * B) k)
  | 0 => by
    refine ⟨?_, rfl, ?_, ?_, fun a ha => State.heap_pushCell_of_lt _ _ ha, fun j k hj => absurd hj (Nat.not_lt_zero j)⟩
    · rw [mkR, Nat.zero_mul, Nat.add_zero]
      simp
    · rw [mkR, Nat.zero_mul, Nat.add_zero]
      simp [mkC_n]
    · rw [mkR]
      exact State.heap_pushCell_size _ _
  | i + 1 => by
    obtain ⟨a1, a2, a3, a4, a5, a6⟩ := mkR_ok h c N s i
    obtain ⟨h1, h2, h3, h4⟩ := h
    obtain ⟨b1, b2, b3⟩ := h1 (mkR inn c N B s i)
    have hlt : s.heap.size < (mkR inn c N B s i).heap.size := by rw [a1]; omega
    have hc : (inn (mkR inn c N B s i)).heap[s.heap.size]? = some (mkC c N (fun j => s.heap.size + 1 + j * B) i) := by rw [h2 _ _ hlt]; exact a4
    refine ⟨?_, ?_, ?_, ?_, fun a ha => ?_, fun j k hj hk => ?_⟩
    · rw [mkR]
      show ((inn (mkR inn c N B s i)).heap.setIfInBounds _ _).size = _
      rw [Array.size_setIfInBounds, b1, a1, Nat.succ_mul]
      omega
    · rw [mkR]
      exact b2.trans a2
    · rw [mkR]
      show (inn (mkR inn c N B s i)).slotsUsed = _
      rw [b3, a3, Nat.succ_mul]
      omega
    · rw [mkR]
      exact State.heap_setCell_self hc
    · rw [mkR, State.heap_setCell_other (Nat.ne_of_gt ha), h2 _ _ (by omega)]
      exact a5 a ha
    · rw [mkR, State.heap_setCell_other (show s.heap.size ≠ s.heap.size + 1 + j * B + k by omega)]
      by_cases c : j = i
      · subst c
        rw [← a1]
        exact h3 _ k hk
      · have hm : j * B + B ≤ i * B := by
          have := Nat.mul_le_mul_right B (show j + 1 ≤ i by omega)
          rw [Nat.succ_mul] at this
          exact this
        rw [h2 _ _ (by rw [a1]; omega)]
        exact a6 j k (by omega) hk
theorem mkR_top (h : mkOK inn B S cont) (c : ClassId) (N : Nat) (s : State) (f : JFrame) : ∀ i, mkR inn c N B (s.setTop f) i = (mkR inn c N B s i).setTop f
  | 0 => rfl
  | i + 1 => by rw [mkR, mkR, mkR_top h c N s f i, h.2.2.2]; rfl
theorem mk_ok (h : mkOK inn B S cont) (hB : 0 < B) (c : ClassId) (N : Nat) : mkOK (fun s => mkR inn c N B s N) (1 + N * B) (N + N * S) (mkX c N B cont) := by
  refine ⟨fun s => ?_, fun s a ha => (mkR_ok h c N s N).2.2.2.2.1 a ha, fun s x hx => ?_, fun s f => mkR_top h c N s f N⟩
  · obtain ⟨a1, a2, a3, -⟩ := mkR_ok h c N s N
    exact ⟨by rw [a1]; omega, a2, by rw [a3]; omega⟩
  · obtain ⟨-, -, -, a4, -, a6⟩ := mkR_ok h c N s N
    unfold mkX
    by_cases c0 : x = 0
    · rw [if_pos c0, c0]
      exact a4
    · rw [if_neg c0]
      have hm := Nat.div_add_mod (x - 1) B
      have hl := Nat.mod_lt (x - 1) hB
      have hj : (x - 1) / B < N := Nat.div_lt_of_lt_mul (by rw [Nat.mul_comm]; omega)
      have := a6 ((x - 1) / B) ((x - 1) % B) hj hl
      rw [Nat.mul_comm B] at hm
      rw [show s.heap.size + x = s.heap.size + 1 + (x - 1) / B * B + (x - 1) % B by omega]
      exact this
end MK
/-- a row of int -/
def mk1 (c : ClassId) (K : Nat) (s : State) : State := s.pushCell (arrV c K (fun _ => .int 0))
theorem mk1_ok (c : ClassId) (K : Nat) : mkOK (mk1 c K) 1 K (fun _ _ => arrV c K (fun _ => .int 0)) := by
  refine ⟨fun s => ⟨by simp [mk1], rfl, ?_⟩, fun s a ha => State.heap_pushCell_of_lt _ _ ha, fun s i hi => ?_, fun s f => rfl⟩
  · show s.slotsUsed + _ = _
    rw [arrV_size]
  · obtain rfl : i = 0 := by omega
    exact State.heap_pushCell_size _ _
section MKS
variable {p : Program} {l : Launch} {e : Env} {R : Room} {s : State} {m : MethodId} {args : Array Value} {below : List Frame} {meth : Method} {c : Code} {T : State} {locs : List Loc} {cells slots : Nat}
def mkSt (inn : State → State) (B S : Nat) : Prop := ∀ {p : Program} {l : Launch} {e : Env} {R : Room} {s : State} {m : MethodId} {args : Array Value} {below : List Frame} {meth : Method} {c : Code} {T : State} {locs : List Loc} {cells slots : Nat}, Stand p l e R s m args below meth c T locs cells slots → Stand p l e R s m args below meth c (inn T) locs (cells + B) (slots + S)
theorem mk1_st (c : ClassId) (K : Nat) : mkSt (mk1 c K) 1 K := fun X => by
  have h := X.pushed (arrV c K (fun _ => .int 0))
  rw [arrV_size] at h
  exact h
theorem mkR_st {inn : State → State} {B S : Nat} {cont : Nat → Nat → Cell} (h : mkOK inn B S cont) (hs : mkSt inn B S) (cA : ClassId) (N : Nat) (X : Stand p l e R s m args below meth c T locs cells slots) : ∀ i, Stand p l e R s m args below meth c (mkR inn cA N B T i) locs (cells + 1 + i * B) (slots + N + i * S)
  | 0 => by
    have h := X.pushed (mkC cA N (fun j => T.heap.size + 1 + j * B) 0)
    rw [mkC_n] at h
    rw [Nat.zero_mul, Nat.zero_mul]
    exact h
  | i + 1 => by
    have Xi := hs (mkR_st h hs cA N X i)
    obtain ⟨a1, a2, a3, a4, -, -⟩ := mkR_ok h cA N T i
    have hlt : T.heap.size < (mkR inn cA N B T i).heap.size := by rw [a1]; omega
    have hc : (inn (mkR inn cA N B T i)).heap[T.heap.size]? = some (mkC cA N (fun j => T.heap.size + 1 + j * B) i) := by rw [h.2.1 _ _ hlt]; exact a4
    have h2 := (Xi.stored hc i (.ref (T.heap.size + 1 + i * B))).dropFresh (fun x hx => by
      rw [List.mem_singleton] at hx
      rw [hx]
      exact X.heapGrown)
    rw [mkC_s cA N (fun j => T.heap.size + 1 + j * B) i] at h2
    rw [show cells + 1 + (i + 1) * B = cells + 1 + i * B + B by rw [Nat.succ_mul]; omega, show slots + N + (i + 1) * S = slots + N + i * S + S by rw [Nat.succ_mul]; omega]
    exact h2
theorem mk_st {inn : State → State} {B S : Nat} {cont : Nat → Nat → Cell} (h : mkOK inn B S cont) (hs : mkSt inn B S) (cA : ClassId) (N : Nat) : mkSt (fun s => mkR inn cA N B s N) (1 + N * B) (N + N * S) := fun {_ _ _ _ _ _ _ _ _ _ _ _ cells slots} X => by
  have := mkR_st h hs cA N X N
  rw [show cells + (1 + N * B) = cells + 1 + N * B by omega, show slots + (N + N * S) = slots + N + N * S by omega]
  exact this
end MKS
/-- inn is what make does -/
def mkW (inn : State → State) (cls : ClassId) (cs : List Int32) (B S : Nat) (ok : Vm → Prop) : Prop := ∀ (E : CtlPost) (e : Env) (d : Bool) (acts : List Action) (s : State), ok s.vm → 536870912 ≤ e.platform.arrayLengthLimit → 536870912 ≤ e.platform.maxHeapBytes → s.heap.size + B ≤ e.platform.maxCells → s.slotsUsed + S ≤ e.platform.maxSlots → ∀ (Q : Addr → Pre), (∀ d' acts', Q s.heap.size d' acts' (inn s)) → wp (multianewarray.make cls cs) Q E e d acts s
theorem mk1_w {c cc : ClassId} {k : Int32} (hk : ¬ k < 0) (hb : k.toNatClampNeg * 4 ≤ 536870912) : mkW (mk1 c k.toNatClampNeg) c [k] 1 k.toNatClampNeg (fun vm => ∃ K : Class, vm.classes[c]? = some K ∧ K.kind = .array cc .int) := by
  intro E e d acts s ⟨K, h1, h2⟩ hl hh hc hs Q hq
  rw [multianewarray.make]
  simp only [wp_bind', W.ite, hk, if_false, wp_pure', W.theClass, h1, h2, Option.some.injEq, exists_eq_left']
  refine W.newArray_of h1 h2 (by omega) (by show ¬ k.toNatClampNeg * 4 > _; omega) (by omega) (by omega) rfl (fun acts' => ?_)
  have := hq d acts'
  rw [mk1, ← arrV_new] at this
  exact this
theorem mk_ref {t : FieldType} (h : t.isReference = true) {v : Value} (hv : v = .null ∨ ∃ a, v = .ref a) : fits t v = true := by
  rcases hv with rfl | ⟨a, rfl⟩ <;> cases t <;> first | rfl | (simp [FieldType.isReference] at h)
theorem mk_w {inn : State → State} {B S : Nat} {cont : Nat → Nat → Cell} (h : mkOK inn B S cont) {c comp : ClassId} {t0 : FieldType} (ht : t0.isReference = true) (h4 : componentBytes t0 = 4) {n k : Int32} {cs : List Int32} {ok : Vm → Prop} (hw : mkW inn comp (k :: cs) B S ok) (hn : ¬ n < 0) (hf : (k :: cs).find? (· < 0) = none) (hb : n.toNatClampNeg * 4 ≤ 536870912) :
    mkW (fun s => mkR inn c n.toNatClampNeg B s n.toNatClampNeg) c (n :: k :: cs) (1 + n.toNatClampNeg * B) (n.toNatClampNeg + n.toNatClampNeg * S) (fun vm => ok vm ∧ ∃ K : Class, vm.classes[c]? = some K ∧ K.kind = .array comp t0) := by
  intro E e d acts s ⟨hok, K, h1, h2⟩ hl hh hc hs Q hq
  generalize hN : n.toNatClampNeg = N at *
  rw [multianewarray.make]
  simp only [wp_bind', W.ite, hn, if_false, wp_pure', W.theClass, h1, h2, Option.some.injEq, exists_eq_left', hN]
  refine W.newArray_of h1 h2 (by omega) (by rw [h4]; omega) (by omega) (by omega) (mk_ref ht (Or.inl rfl)) (fun acts' => ?_)
  rw [mkC_0 c N (fun j => s.heap.size + 1 + j * B)]
  simp only [hf]
  rw [ite_self, wp_bind', Std.Legacy.Range.forIn_eq_forIn_range']
  have hsz : ([:N] : Std.Legacy.Range).size = N := by simp [Std.Legacy.Range.size]
  rw [hsz]
  show wp (forIn (List.range' 0 N 1) PUnit.unit _) _ E e d acts' _
  refine wp_forIn_inv (fun rest s' => ∃ i, i ≤ N ∧ rest = List.range' i (N - i) ∧ s' = mkR inn c N B s i) _ _ ⟨0, Nat.zero_le _, rfl, rfl⟩ ?_ ?_
  · rintro x rest s' d' acts2 Q' ⟨i, hi, hr, rfl⟩ hnext
    have hlt : i < N := by
      rcases Nat.lt_or_ge i N with q | q
      · exact q
      · rw [show N - i = 0 by omega] at hr
        simp at hr
    rw [show N - i = (N - (i + 1)) + 1 by omega, List.range'_succ] at hr
    obtain ⟨rfl, hr⟩ := List.cons.inj hr
    obtain ⟨a1, a2, a3, a4, -, -⟩ := mkR_ok h c N s x
    have hm1 : x * B + B ≤ N * B := by
      have := Nat.mul_le_mul_right B (show x + 1 ≤ N from hlt)
      rw [Nat.succ_mul] at this
      exact this
    have hm2 : x * S + S ≤ N * S := by
      have := Nat.mul_le_mul_right S (show x + 1 ≤ N from hlt)
      rw [Nat.succ_mul] at this
      exact this
    have hlt0 : s.heap.size < (mkR inn c N B s x).heap.size := by rw [a1]; omega
    simp only [wp_bind']
    refine hw _ _ _ _ _ (by rw [a2]; exact hok) hl hh (by rw [a1]; omega) (by rw [a3]; omega) _ (fun d3 acts3 => ?_)
    simp only [wp_bind', W.writeLoc, wp_pure']
    have hcell : (inn (mkR inn c N B s x)).heap[s.heap.size]? = some (mkC c N (fun j => s.heap.size + 1 + j * B) x) := by rw [h.2.1 _ _ hlt0]; exact a4
    refine ⟨_, hcell, by simp [mkC, arrV], by rw [mkC_n]; exact hlt, ?_, hnext _ _ _ ⟨x + 1, hlt, hr, ?_⟩⟩
    · have hv : (inn (mkR inn c N B s x)).vm = s.vm := ((h.1 _).2.1).trans a2
      simp [mkC, arrV, State.fitsSlot, State.slotType?, hv, h1, h2, mk_ref ht (Or.inr ⟨_, rfl⟩)]
    · rw [a1, mkC_s c N (fun j => s.heap.size + 1 + j * B) x]
      rfl
  · rintro s' d' acts2 ⟨i, hi, hr, rfl⟩
    have hiN : i = N := by
      rcases Nat.lt_or_ge i N with q | q
      · rw [show N - i = (N - (i + 1)) + 1 by omega, List.range'_succ] at hr
        cases hr
      · omega
    subst hiN
    simp only [wp_pure']
    exact hq _ _
section MKT
variable {p : Program} {l : Launch} {e : Env} {R : Room} {s : State} {m : MethodId} {args : Array Value} {below : List Frame} {meth : Method} {c : Code} {T : State} {locs : List Loc} {cells slots : Nat}
theorem mk_step (X : Stand p l e R s m args below meth c T locs cells slots) (hexec : p.tables.exec = Jvm.exec) {own nm : String} {index : Nat} (hown : s.vm.findClass own = some m.cls) (hclink : (Cond.classLink own index nm).before args s = true) {cA : ClassId} (hA : s.vm.findClass nm = some cA)
    {inn : State → State} {B S : Nat} {cont : Nat → Nat → Cell} (hO : mkOK inn B S cont) (hS : mkSt inn B S) {counts : List Int32} {ok : Vm → Prop} (hW : mkW inn cA counts B S ok) (hok : ∀ vm1, s.vm.Alike vm1 → ok vm1) (hcs : (∃ n k, counts = [n, k]) ∨ ∃ n j k, counts = [n, j, k])
    {g : JFrame} (hg : g.method = m) (hdg : decode c.code g.pc = .ok (.multianewarray index counts.length, 4)) {rest : List Value} (hstack : g.stack = (counts.map Value.int).reverse ++ rest) (hcells : cells + B ≤ R.cells) (hslots : slots + S ≤ R.slots) :
    ∃ vm1 : Vm, s.WarmedH vm1 ∧ Stand p l e R s m args below meth c (inn (T.setVm vm1)) locs (cells + B) (slots + S) ∧
      ∀ target, Steps p.tables e below ((inn (T.setVm vm1)).setTop { g with pc := g.pc + 4, stack := .ref T.heap.size :: rest }) target → Steps p.tables e below (T.setTop g) target := by
  subst hg
  have hpl : e.platform.magicAccessors = ({} : Platform).magicAccessors := by rw [X.admits.platform]
  obtain ⟨c0, hc0, hcl⟩ := Cond.classLink_spec hown hclink e.platform hpl
  obtain rfl : cA = c0 := Option.some.inj (hA.symm.trans hc0)
  obtain ⟨hg1, hwarm, hready⟩ := State.classEntry (e := e) X.warmed hcl
  generalize T.vm.noted g.method.cls index (.cls cA) = vm1 at hg1 hwarm hready
  have X1 := X.noted hwarm
  obtain ⟨hr1, hr2⟩ := X.roomAbove hcells hslots
  have XF := hS X1
  have hl1 : 536870912 ≤ e.platform.arrayLengthLimit := by rw [Launch.admits_arrayLengthLimit X.admits]; decide
  have hl2 : 536870912 ≤ e.platform.maxHeapBytes := by rw [Launch.admits_maxHeapBytes X.admits]; decide
  refine ⟨vm1, hwarm, XF, fun target hrest => ?_⟩
  rcases hcs with ⟨n, k, rfl⟩ | ⟨n, j, k, rfl⟩
  all_goals
    jvm_step X.here [hexec, hdg]
    simp only [multianewarray.sem, List.length_cons, List.length_nil, wp_bind', W.resolveClassAt_links (State.method?_setTop g X.here.top) hg1]
    rw [W.popN, if_neg (by decide)]
  · refine ⟨g, State.topJava?_setTop' (s := T.setVm vm1) g X.here.top, [.int n, .int k], rest, rfl, hstack, ?_⟩
    simp only [List.mapM_cons, List.mapM_nil, wp_bind', wp_pure']
    have eS : ((T.setTop g).setVm vm1).setTop { g with stack := rest } = (T.setVm vm1).setTop { g with stack := rest } := by
      show ((T.setVm vm1).setTop g).setTop _ = _
      rw [State.setTop_setTop]
    rw [eS]
    refine hW _ _ _ _ ((T.setVm vm1).setTop { g with stack := rest }) (hok vm1 hwarm.alike) hl1 hl2 hr1 hr2 _ (fun d' acts' => ?_)
    rw [hO.2.2.2]
    simp only [wp_bind', W.mark, W.pushRef, State.topJava?_setTop' _ XF.here.top, Option.some.injEq, exists_eq_left', State.setTop_setTop, State.heap_setTop]
    intro acts
    simp [jvm, XF.here.top]
    exact hrest
  · refine ⟨g, State.topJava?_setTop' (s := T.setVm vm1) g X.here.top, [.int n, .int j, .int k], rest, rfl, hstack, ?_⟩
    simp only [List.mapM_cons, List.mapM_nil, wp_bind', wp_pure']
    have eS : ((T.setTop g).setVm vm1).setTop { g with stack := rest } = (T.setVm vm1).setTop { g with stack := rest } := by
      show ((T.setVm vm1).setTop g).setTop _ = _
      rw [State.setTop_setTop]
    rw [eS]
    refine hW _ _ _ _ ((T.setVm vm1).setTop { g with stack := rest }) (hok vm1 hwarm.alike) hl1 hl2 hr1 hr2 _ (fun d' acts' => ?_)
    rw [hO.2.2.2]
    simp only [wp_bind', W.mark, W.pushRef, State.topJava?_setTop' _ XF.here.top, Option.some.injEq, exists_eq_left', State.setTop_setTop, State.heap_setTop]
    intro acts
    simp [jvm, XF.here.top]
    exact hrest
end MKT
/-! the rows -/
def mups (h : mH) (r : Nat → Nat) (e : Nat → va_E) : Nat → mH
  | 0 => h
  | n + 1 => mup (mups h r e n) (r n) (e n)
theorem mups_out {h : mH} {r : Nat → Nat} {e : Nat → va_E} {a : Nat} : ∀ n, (∀ i, i < n → a ≠ r i) → mups h r e n a = h a
  | 0, _ => rfl
  | n + 1, w => by
    rw [mups, mup_ne (w n (Nat.lt_succ_self n))]
    exact mups_out n (fun i hi => w i (Nat.lt_succ_of_lt hi))
theorem mups_in {h : mH} {r : Nat → Nat} {e : Nat → va_E} : ∀ n, (∀ i j, i < n → j < n → r i = r j → i = j) → ∀ i, i < n → mups h r e n (r i) = some (e i)
  | 0, _, i, hi => absurd hi (Nat.not_lt_zero i)
  | n + 1, w, i, hi => by
    rw [mups]
    by_cases c : i = n
    · rw [c, mup_self]
    · rw [mup_ne (fun q => c (w i n hi (Nat.lt_succ_self n) q))]
      exact mups_in n (fun i j hi hj => w i j (Nat.lt_succ_of_lt hi) (Nat.lt_succ_of_lt hj)) i (by omega)
theorem mIs_1 : (FieldType.array .int).toString = "[I" := by decide
theorem mIs_2 : "[" ++ (FieldType.array .int).toString = "[[I" := by decide
theorem mIs_3 : "[" ++ (FieldType.array (.array .int)).toString = "[[[I" := by decide
theorem mIs_4 : (FieldType.array (.array .int)).toString = "[[I" := by decide
theorem mInt_1 : "[" ++ (FieldType.int).toString = "[I" := by decide
theorem mk_over {args : Array Value} {s : State} {t : FieldType} (h : (Cond.arrayOver (.array t)).before args s = true) : ∃ (comp c : ClassId) (k : Class), s.vm.findClass (FieldType.array t).toString = some comp ∧ s.vm.classes[c]? = some k ∧ k.kind = .array comp (.array t) ∧ s.vm.findClass ("[" ++ (FieldType.array t).toString) = some c := by
  unfold Cond.before Cond.holds at h
  simp only [Cond.value, beq_iff_eq] at h
  obtain ⟨comp, h1, h⟩ := Option.bind_eq_some_iff.mp h
  obtain ⟨c, h2, h⟩ := Option.bind_eq_some_iff.mp h
  obtain ⟨k, h3, h4⟩ := Option.map_eq_some_iff.mp h
  obtain ⟨q1, q2, -⟩ := Array.findIdx?_eq_some_iff_getElem.mp h2
  have q3 : s.vm.classes[c] = k := (Array.getElem?_eq_some_iff.mp h3).2
  rw [q3] at q2
  refine ⟨comp, c, k, h1, h3, ?_⟩
  cases hk : k.kind with
  | array c2 t2 =>
    rw [hk] at h4 q2
    simp at h4 q2
    rw [q2, h4.1]
    exact ⟨rfl, h4.2⟩
  | _ => rw [hk] at h4; simp at h4
theorem mk_kind {vm vm1 : Vm} (hal : vm.Alike vm1) {c : ClassId} {K : Class} {kd : Kind} (h : vm.classes[c]? = some K) (hk : K.kind = kd) : ∃ K' : Class, vm1.classes[c]? = some K' ∧ K'.kind = kd := by
  obtain ⟨k', h1, h2⟩ := hal.2.2 _ _ h
  exact ⟨k', h1, by rw [h2]; exact hk⟩
section MULT
variable {z : mZ} {l : Launch} {R : Room} {D : va_G} {nL : Nat} {cells slots : Nat}
variable {cc : ByteArray} {own nm : String} {tys : List (ClassId × FieldType)} {ret : Option FieldType} {pc : Nat} {L : List (Option Value)} {st : List Value} {h : mH}
theorem zi_mna (X : zX z l D cc own tys nL ret R nm) {index : Nat} {an : String} {c0 : ClassId} (hcl : Cond.classLink own index an ∈ mAll) (hA : (zS z).vm.findClass an = some c0) {inn : State → State} {B S : Nat} {cont : Nat → Nat → Cell} (hO : mkOK inn B S cont) (hSt : mkSt inn B S) {counts : List Int32} {ok : Vm → Prop} (hW : mkW inn c0 counts B S ok) (hok : ∀ vm1, (zS z).vm.Alike vm1 → ok vm1) (hcs : (∃ n k, counts = [n, k]) ∨ ∃ n j k, counts = [n, j, k]) (hB : 0 < B) {ent : (Nat → Nat) → Nat → va_E} (he : ∀ b i, i < B → ∃ x, ent (fun j => b + j) i = .inl x ∧ cont b i = vp_cell x.1 x.2) (hcells : cells + B ≤ R.cells) (hslots : slots + S ≤ R.slots) (hdg : decode cc pc = .ok (.multianewarray index counts.length, 4)) {st0 : List Value} (hst : st0 = (counts.map Value.int).reverse ++ st)
    (kk : ∀ A : Nat → Nat, (∀ i, i < B → h (A i) = none) → (∀ i j, i < B → j < B → A i = A j → i = j) → zM z (cells + B) (slots + S) (pc + 4) L (.ref (A 0) :: st) (mups h A (ent A) B)) : zM z cells slots pc L st0 h := by
  obtain ⟨p, l1, e, R1, s, m, args, below, meth, c, D1, A0, H0, nL1, Q⟩ := z
  obtain ⟨e1, e2, e3, e4, e5, X⟩ := X
  subst e1 e2 e3 e4
  intro H locs ls hR hAd hS hL T hT Xs
  have hA0 := X.2.2.2.2.2.2.1
  obtain ⟨vm1, -, X', step⟩ := mk_step Xs X.1 X.2.2.2.1 (X.2.2.1 _ hcl) hA hO hSt hW hok hcs (g := F0 m pc ls st0) rfl (by rw [X.2.1]; exact hdg) hst hcells hslots
  have hTh : (T.setVm vm1).heap = H := hT
  obtain ⟨o1, o2, o3, -⟩ := hO
  obtain ⟨f1, -, -⟩ := o1 (T.setVm vm1)
  have o2 := o2 (T.setVm vm1)
  have o3 := o3 (T.setVm vm1)
  generalize inn (T.setVm vm1) = F at X' step f1 o2 o3
  rw [hTh] at f1 o2 o3
  have hnone : ∀ x : Nat, H.size ≤ x → h x = none := fun x hx => by
    cases hq : h x with
    | none => rfl
    | some y => exact absurd (hR x y hq).lt (Nat.not_lt.mpr hx)
  have hinj : ∀ i j, i < B → j < B → (fun j => H.size + j) i = (fun j => H.size + j) j → i = j := fun i j _ _ w => by
    have w : H.size + i = H.size + j := w
    omega
  have cs : ∀ a x, mups h (fun j => H.size + j) (ent (fun j => H.size + j)) B a = some x → H.size ≤ a ∧ va_at D1 vwCl (a, x) F.heap ∨ a < H.size ∧ h a = some x := fun a x hx => by
    by_cases w : ∃ i, i < B ∧ a = H.size + i
    · obtain ⟨i, hi, rfl⟩ := w
      have := mups_in (h := h) (r := fun j => H.size + j) (e := ent (fun j => H.size + j)) B hinj i hi
      obtain ⟨y, hy1, hy2⟩ := he H.size i hi
      rw [this, hy1] at hx
      cases hx
      refine Or.inl ⟨by omega, ?_⟩
      show F.heap[H.size + i]? = some (vp_cell y.1 y.2)
      rw [o3 i hi, hy2]
    · rw [mups_out B (fun i hi q => w ⟨i, hi, q⟩)] at hx
      exact Or.inr ⟨(hR a x hx).lt, hx⟩
  obtain ⟨t, a1, b1⟩ := kk (fun j => H.size + j) (fun i _ => hnone _ (Nat.le_add_right _ _)) hinj F.heap locs ls (fun a x hx => by
    rcases cs a x hx with w | w
    · exact w.2
    · exact (hR a x w.2).kept (o2 a w.1)) (fun a x hx => by
    rcases cs a x hx with w | w
    · exact hA0 a (Nat.le_trans hS.1 w.1)
    · exact hAd a x w.2) ⟨by rw [f1]; have := hS.1; omega, fun x h1 h2 => (o2 x (Nat.lt_of_lt_of_le h1 hS.1)).trans (hS.2.1 x h1 h2), hS.2.2⟩ hL F rfl X'
  refine ⟨t, step t ?_, b1⟩
  have e0 : T.heap.size = H.size := by rw [hT]
  rw [e0]
  exact a1
def ent2 (c0 c1 : ClassId) (N K : Nat) (A : Nat → Nat) (i : Nat) : va_E := if i = 0 then .inl (c0, N, .inr (.inr (.inr (.inr (fun j => if j < N then some (A (1 + j)) else none))))) else .inl (c1, K, .inl (fun _ => 0))
def ent3 (c2 c0 c1 : ClassId) (N M K : Nat) (A : Nat → Nat) (i : Nat) : va_E := if i = 0 then .inl (c2, N, .inr (.inr (.inr (.inr (fun j => if j < N then some (A (1 + j * (1 + M))) else none))))) else if (i - 1) % (1 + M) = 0 then .inl (c0, M, .inr (.inr (.inr (.inr (fun j => if j < M then some (A (i + 1 + j)) else none))))) else .inl (c1, K, .inl (fun _ => 0))
theorem ent2_he {c0 c1 : ClassId} {N K : Nat} (b i : Nat) : ∃ x, ent2 c0 c1 N K (fun j => b + j) i = .inl x ∧ mkX c0 N 1 (fun _ _ => arrV c1 K (fun _ => .int 0)) b i = vp_cell x.1 x.2 := by
  unfold ent2 mkX
  by_cases c : i = 0
  · rw [if_pos c, if_pos c]
    refine ⟨_, rfl, ?_⟩
    rw [vp_cell_q]
    unfold mkC
    refine congrArg (arrV c0 N) (funext fun j => ?_)
    dsimp only
    rw [Nat.mul_one, Nat.add_assoc]
  · rw [if_neg c, if_neg c]
    exact ⟨_, rfl, rfl⟩
theorem ent3_he {c2 c0 c1 : ClassId} {N M K : Nat} (b i : Nat) : ∃ x, ent3 c2 c0 c1 N M K (fun j => b + j) i = .inl x ∧ mkX c2 N (1 + M * 1) (mkX c0 M 1 (fun _ _ => arrV c1 K (fun _ => .int 0))) b i = vp_cell x.1 x.2 := by
  unfold ent3 mkX
  rw [Nat.mul_one]
  by_cases c : i = 0
  · rw [if_pos c, if_pos c]
    refine ⟨_, rfl, ?_⟩
    rw [vp_cell_q]
    unfold mkC
    refine congrArg (arrV c2 N) (funext fun j => ?_)
    dsimp only
    rw [Nat.add_assoc]
  · rw [if_neg c, if_neg c]
    by_cases c3 : (i - 1) % (1 + M) = 0
    · rw [if_pos c3, if_pos c3]
      refine ⟨_, rfl, ?_⟩
      rw [vp_cell_q]
      unfold mkC
      refine congrArg (arrV c0 M) (funext fun j => ?_)
      have := Nat.div_add_mod (i - 1) (1 + M)
      rw [Nat.mul_comm] at this
      dsimp only
      rw [show b + 1 + (i - 1) / (1 + M) * (1 + M) + 1 + j * 1 = b + (i + 1 + j) by omega]
    · rw [if_neg c3, if_neg c3]
      exact ⟨_, rfl, rfl⟩
theorem zX_arr (X : zX z l D cc own tys nL ret R nm) {t : Nat} {c : ClassId} {ty : FieldType} (ht : tys[t]? = some (c, ty)) : ArrOfT (zS z) c ty ∧ va_RA (zS z) c ty := by
  obtain ⟨p, l1, e, R1, s, m, args, below, meth, c, D1, A0, H0, nL1, Q⟩ := z
  obtain ⟨e1, e2, e3, e4, e5, X⟩ := X
  subst e1 e2 e3 e4
  exact X.2.2.2.2.2.1.2 t _ ht
theorem zX_over (X : zX z l D cc own tys nL ret R nm) {t0 t1 : Nat} {c0 c1 : ClassId} {ty : FieldType} (ht0 : tys[t0]? = some (c0, .array ty)) (hw : Cond.arrayOver (.array ty) ∈ mBad) (h1 : (zS z).vm.findClass (FieldType.array ty).toString = some c1) : ∃ K : Class, (zS z).vm.classes[c0]? = some K ∧ K.kind = .array c1 (.array ty) := by
  have hover := zN_of X hw
  have g0 := (zX_arr X ht0).2
  obtain ⟨p, l1, e, R1, s, m, args, below, meth, c, D1, A0, H0, nL1, Q⟩ := z
  obtain ⟨comp, c, k, q1, q2, q3, q4⟩ := mk_over hover
  have g0 : s.vm.findClass ("[" ++ (FieldType.array ty).toString) = some c0 := g0
  obtain rfl : c0 = c := Option.some.inj (g0.symm.trans q4)
  obtain rfl : c1 = comp := Option.some.inj (h1.symm.trans q1)
  exact ⟨k, q2, q3⟩
theorem zi_mna2 (X : zX z l D cc own tys nL ret R nm) {index t0 t1 : Nat} {c0 c1 : ClassId} (ht0 : tys[t0]? = some (c0, .array .int)) (ht1 : tys[t1]? = some (c1, .int)) (hcl : Cond.classLink own index "[[I" ∈ mAll) {n k : Int32} {N' K' : Nat} (hn : ¬ n < 0) (hk : ¬ k < 0) (hN : n.toNatClampNeg = N') (hM : k.toNatClampNeg = K') (hb1 : N' * 4 ≤ 536870912) (hb2 : K' * 4 ≤ 536870912) (hcells : cells + (1 + N') ≤ R.cells) (hslots : slots + (N' + N' * K') ≤ R.slots) (hdg : decode cc pc = .ok (.multianewarray index 2, 4))
    (kk : ∀ A : Nat → Nat, (∀ i, i < 1 + N' → h (A i) = none) → (∀ i j, i < 1 + N' → j < 1 + N' → A i = A j → i = j) → zM z (cells + (1 + N')) (slots + (N' + N' * K')) (pc + 4) L (.ref (A 0) :: st) (mups h A (ent2 c0 c1 N' K' A) (1 + N'))) : zM z cells slots pc L (.int k :: .int n :: st) h := by
  have g0 := (zX_arr X ht0).2
  have g0 : (zS z).vm.findClass ("[" ++ (FieldType.array .int).toString) = some c0 := g0
  have g1 := (zX_arr X ht1).2
  have g1 : (zS z).vm.findClass ("[" ++ (FieldType.int).toString) = some c1 := g1
  rw [mInt_1, ← mIs_1] at g1
  obtain ⟨K0, k1, k2⟩ := zX_over X (t1 := t1) ht0 wb_I g1
  obtain ⟨-, K1, k3, cc1, k4⟩ := (zX_arr X ht1).1 0 (fun _ => .int 0)
  rw [mIs_2] at g0
  subst hN
  subst hM
  have kk2 : ∀ A : Nat → Nat, (∀ i, i < 1 + n.toNatClampNeg * 1 → h (A i) = none) → (∀ i j, i < 1 + n.toNatClampNeg * 1 → j < 1 + n.toNatClampNeg * 1 → A i = A j → i = j) → zM z (cells + (1 + n.toNatClampNeg * 1)) (slots + (n.toNatClampNeg + n.toNatClampNeg * k.toNatClampNeg)) (pc + 4) L (.ref (A 0) :: st) (mups h A (ent2 c0 c1 n.toNatClampNeg k.toNatClampNeg A) (1 + n.toNatClampNeg * 1)) := by
    rw [Nat.mul_one]
    exact kk
  have W2 := mk_w (c := c0) (n := n) (k := k) (cs := []) (mk1_ok c1 k.toNatClampNeg) (t0 := .array .int) rfl rfl (mk1_w (c := c1) (cc := cc1) hk hb2) hn (by simp [hk]) hb1
  refine zi_mna X hcl g0 (mk_ok (mk1_ok c1 k.toNatClampNeg) Nat.one_pos c0 n.toNatClampNeg) (mk_st (mk1_ok c1 k.toNatClampNeg) (mk1_st c1 k.toNatClampNeg) c0 n.toNatClampNeg) W2 (fun vm1 hal => ⟨mk_kind hal k3 k4, mk_kind hal k1 k2⟩) (Or.inl ⟨n, k, rfl⟩) (by omega) (fun b i _ => ent2_he b i) (by rw [Nat.mul_one]; exact hcells) hslots hdg rfl kk2
theorem zi_mna3 (X : zX z l D cc own tys nL ret R nm) {index t2 t0 t1 : Nat} {c2 c0 c1 : ClassId} (ht2 : tys[t2]? = some (c2, .array (.array .int))) (ht0 : tys[t0]? = some (c0, .array .int)) (ht1 : tys[t1]? = some (c1, .int)) (hcl : Cond.classLink own index "[[[I" ∈ mAll) {n j k : Int32} {N' M' K' : Nat} (hn : ¬ n < 0) (hj : ¬ j < 0) (hk : ¬ k < 0) (hN : n.toNatClampNeg = N') (hJ : j.toNatClampNeg = M') (hM : k.toNatClampNeg = K') (hb1 : N' * 4 ≤ 536870912) (hb3 : M' * 4 ≤ 536870912) (hb2 : K' * 4 ≤ 536870912) (hcells : cells + (1 + N' * (1 + M')) ≤ R.cells) (hslots : slots + (N' + N' * (M' + M' * K')) ≤ R.slots) (hdg : decode cc pc = .ok (.multianewarray index 3, 4))
    (kk : ∀ A : Nat → Nat, (∀ i, i < 1 + N' * (1 + M') → h (A i) = none) → (∀ i j, i < 1 + N' * (1 + M') → j < 1 + N' * (1 + M') → A i = A j → i = j) → zM z (cells + (1 + N' * (1 + M'))) (slots + (N' + N' * (M' + M' * K'))) (pc + 4) L (.ref (A 0) :: st) (mups h A (ent3 c2 c0 c1 N' M' K' A) (1 + N' * (1 + M')))) : zM z cells slots pc L (.int k :: .int j :: .int n :: st) h := by
  have g2 := (zX_arr X ht2).2
  have g2 : (zS z).vm.findClass ("[" ++ (FieldType.array (.array .int)).toString) = some c2 := g2
  have g0 := (zX_arr X ht0).2
  have g0 : (zS z).vm.findClass ("[" ++ (FieldType.array .int).toString) = some c0 := g0
  have g1 := (zX_arr X ht1).2
  have g1 : (zS z).vm.findClass ("[" ++ (FieldType.int).toString) = some c1 := g1
  rw [mInt_1, ← mIs_1] at g1
  obtain ⟨K0, k1, k2⟩ := zX_over X (t1 := t1) ht0 wb_I g1
  rw [mIs_2, ← mIs_4] at g0
  obtain ⟨K2, k5, k6⟩ := zX_over X (t1 := t0) ht2 wb_II g0
  obtain ⟨-, K1, k3, cc1, k4⟩ := (zX_arr X ht1).1 0 (fun _ => .int 0)
  rw [mIs_3] at g2
  subst hN
  subst hM
  subst hJ
  have kk2 : ∀ A : Nat → Nat, (∀ i, i < 1 + n.toNatClampNeg * (1 + j.toNatClampNeg * 1) → h (A i) = none) → (∀ i i2, i < 1 + n.toNatClampNeg * (1 + j.toNatClampNeg * 1) → i2 < 1 + n.toNatClampNeg * (1 + j.toNatClampNeg * 1) → A i = A i2 → i = i2) → zM z (cells + (1 + n.toNatClampNeg * (1 + j.toNatClampNeg * 1))) (slots + (n.toNatClampNeg + n.toNatClampNeg * (j.toNatClampNeg + j.toNatClampNeg * k.toNatClampNeg))) (pc + 4) L (.ref (A 0) :: st) (mups h A (ent3 c2 c0 c1 n.toNatClampNeg j.toNatClampNeg k.toNatClampNeg A) (1 + n.toNatClampNeg * (1 + j.toNatClampNeg * 1))) := by
    rw [Nat.mul_one]
    exact kk
  have O2 := mk_ok (mk1_ok c1 k.toNatClampNeg) Nat.one_pos c0 j.toNatClampNeg
  have W2 := mk_w (c := c0) (n := j) (k := k) (cs := []) (mk1_ok c1 k.toNatClampNeg) (t0 := .array .int) rfl rfl (mk1_w (c := c1) (cc := cc1) hk hb2) hj (by simp [hk]) hb3
  have W3 := mk_w (c := c2) (n := n) (k := j) (cs := [k]) O2 (t0 := .array (.array .int)) rfl rfl W2 hn (by simp [hj, hk]) hb1
  refine zi_mna X hcl g2 (mk_ok O2 (by omega) c2 n.toNatClampNeg) (mk_st O2 (mk_st (mk1_ok c1 k.toNatClampNeg) (mk1_st c1 k.toNatClampNeg) c0 j.toNatClampNeg) c2 n.toNatClampNeg) W3 (fun vm1 hal => ⟨⟨mk_kind hal k3 k4, mk_kind hal k1 k2⟩, mk_kind hal k5 k6⟩) (Or.inr ⟨n, j, k, rfl⟩) (by omega) (fun b i _ => ent3_he b i) (by rw [Nat.mul_one]; exact hcells) hslots hdg rfl kk2
end MULT
