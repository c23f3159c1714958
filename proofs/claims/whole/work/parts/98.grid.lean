/-! ===== a grid of ints: the outer row, then the inner ones, one behind another ===== -/
/-- the outer row when i inner ones stand -/
def mg_o (c : ClassId) (N h : Nat) (i : Nat) : Cell := arrV c N (fun j => if j < i then .ref (h + 1 + j) else .null)
/-- the machine when i inner rows stand -/
def mg_f (s : State) (c cI : ClassId) (N K : Nat) : Nat → State
  | 0 => s.pushCell (mg_o c N s.heap.size 0)
  | i + 1 => ((mg_f s c cI N K i).pushCell (arrV cI K (fun _ => .int 0))).setCell s.heap.size (mg_o c N s.heap.size (i + 1))
theorem mg_o_size (c : ClassId) (N h i : Nat) : (mg_o c N h i).slots.size = N := arrV_size _ _ _
theorem mg_o_next (c : ClassId) (N h i : Nat) : (mg_o c N h i).setSlot i (.ref (h + 1 + i)) = mg_o c N h (i + 1) := by
  unfold mg_o
  rw [arrV_store]
  refine congrArg (arrV c N) (funext fun j => ?_)
  unfold updV
  by_cases e : j = i
  · subst e
    rw [if_pos rfl, if_pos (by omega)]
  · rw [if_neg e]
    show (if j < i then Value.ref (h + 1 + j) else Value.null) = if j < i + 1 then Value.ref (h + 1 + j) else Value.null
    by_cases q : j < i
    · rw [if_pos q, if_pos (by omega)]
    · rw [if_neg q, if_neg (by omega)]
theorem mg_facts (s : State) (c cI : ClassId) (N K : Nat) : ∀ i, (mg_f s c cI N K i).heap.size = s.heap.size + 1 + i ∧ (mg_f s c cI N K i).heap[s.heap.size]? = some (mg_o c N s.heap.size i) ∧ (mg_f s c cI N K i).vm = s.vm ∧ (mg_f s c cI N K i).slotsUsed = s.slotsUsed + N + i * K
  | 0 => by
    refine ⟨?_, ?_, rfl, ?_⟩
    · simp [mg_f]
    · simp [mg_f]
    · simp [mg_f, mg_o_size]
  | i + 1 => by
    obtain ⟨h1, h2, h3, h4⟩ := mg_facts s c cI N K i
    have hlt : s.heap.size < (mg_f s c cI N K i).heap.size := by omega
    have hc : ((mg_f s c cI N K i).pushCell (arrV cI K (fun _ => .int 0))).heap[s.heap.size]? = some (mg_o c N s.heap.size i) := by
      rw [State.heap_pushCell_of_lt (h := hlt)]
      exact h2
    refine ⟨?_, State.heap_setCell_self hc, ?_, ?_⟩
    · simp [mg_f, State.setCell, h1]; omega
    · simp [mg_f, h3]
    · simp [mg_f, h4, arrV_size, Nat.succ_mul]; omega
theorem mg_top (s : State) (g : JFrame) (c cI : ClassId) (N K : Nat) : ∀ i, mg_f (s.setTop g) c cI N K i = (mg_f s c cI N K i).setTop g
  | 0 => rfl
  | i + 1 => by simp only [mg_f, mg_top s g c cI N K i, State.heap_setTop, State.pushCell_setTop, State.setCell_setTop]
theorem mg_old (s : State) (c cI : ClassId) (N K : Nat) {a : Nat} (ha : a < s.heap.size) : ∀ i, (mg_f s c cI N K i).heap[a]? = s.heap[a]?
  | 0 => State.heap_pushCell_of_lt _ _ ha
  | i + 1 => by
    have h1 := (mg_facts s c cI N K i).1
    have hlt : a < (mg_f s c cI N K i).heap.size := by omega
    show (((mg_f s c cI N K i).pushCell _).setCell s.heap.size _).heap[a]? = _
    rw [State.heap_setCell_other (Nat.ne_of_gt ha), State.heap_pushCell_of_lt (h := hlt)]
    exact mg_old s c cI N K ha i
theorem mg_in (s : State) (c cI : ClassId) (N K : Nat) : ∀ i j, j < i → (mg_f s c cI N K i).heap[s.heap.size + 1 + j]? = some (arrV cI K (fun _ => .int 0))
  | 0, _, h => absurd h (Nat.not_lt_zero _)
  | i + 1, j, h => by
    have h1 := (mg_facts s c cI N K i).1
    show (((mg_f s c cI N K i).pushCell _).setCell s.heap.size _).heap[s.heap.size + 1 + j]? = _
    rw [State.heap_setCell_other (show s.heap.size ≠ s.heap.size + 1 + j by omega)]
    by_cases q : j = i
    · subst q
      rw [← h1]
      exact State.heap_pushCell_size _ _
    · rw [State.heap_pushCell_of_lt (h := show s.heap.size + 1 + j < (mg_f s c cI N K i).heap.size by omega)]
      exact mg_in s c cI N K i j (by omega)
section MGW
variable {E : CtlPost} {e : Env} {d : Bool} {acts : List Action} {s : State}
/-- one row is made -/
theorem mg_new {c comp : ClassId} {k : Class} {ty : FieldType} {N : Nat} {v : Value} (hk : s.vm.classes[c]? = some k) (hkind : k.kind = .array comp ty) (hl : ¬ N > e.platform.arrayLengthLimit) (hh : ¬ N * componentBytes ty > e.platform.maxHeapBytes) (hfit : fits ty v = true) (hdef : v.isDefault = true) (h1 : s.heap.size < e.platform.maxCells) (h2 : s.slotsUsed + N ≤ e.platform.maxSlots) {Q : Addr → Pre} (hq : Q s.heap.size d acts (s.pushCell (arrV c N (fun _ => v)))) : wp (Jvm.newArray c N v) Q E e d acts s := by
  have hf : ∀ i w, (Array.replicate N v)[i]? = some w → s.fitsSlot c .none i w = true := by
    intro i w hw
    rw [Array.getElem?_replicate] at hw
    split at hw
    · cases hw
      simp [State.fitsSlot, State.slotType?, hk, hkind, hfit]
    · cases hw
  have ha : allocActs (Array.replicate N v) s.heap.size acts = acts := by
    have : ((Array.replicate N v).all (·.isDefault)) = true := by
      rw [Array.all_replicate]
      split <;> simp [hdef]
    unfold allocActs
    rw [if_pos this]
  have hl' : ¬ N > e.platform.arrayLengthLimit := hl
  rw [← arrV_new] at hq
  simp only [Jvm.newArray, Jvm.arrayFits, wp_bind', W.ask, W.ite, hl', if_false, wp_pure', W.theClass, hk, hkind, hh, W.alloc, W.stop, Option.some.injEq, exists_eq_left', Array.size_replicate, ha]
  rw [if_neg (by omega)]
  exact ⟨h1, h2, hf, hq⟩
theorem mg_make {c cI cc : ClassId} {k kI : Class} {n m : Int32} {N K : Nat} (hk : s.vm.classes[c]? = some k) (hkind : k.kind = .array cI (.array .int)) (hkI : s.vm.classes[cI]? = some kI) (hkindI : kI.kind = .array cc .int) (hn : ¬ n < 0) (hm : ¬ m < 0) (hN : n.toNatClampNeg = N) (hK : m.toNatClampNeg = K)
    (hl1 : ¬ N > e.platform.arrayLengthLimit) (hh1 : ¬ N * 4 > e.platform.maxHeapBytes) (hl2 : ¬ K > e.platform.arrayLengthLimit) (hh2 : ¬ K * 4 > e.platform.maxHeapBytes) (hc : s.heap.size + 1 + N ≤ e.platform.maxCells) (hs : s.slotsUsed + N + N * K ≤ e.platform.maxSlots)
    {Q : Addr → Pre} (hq : ∀ d' acts', Q s.heap.size d' acts' (mg_f s c cI N K N)) : wp (multianewarray.make c [n, m]) Q E e d acts s := by
  subst hN
  subst hK
  have hfind : ([m].find? (· < 0)) = none := by simp [hm]
  rw [multianewarray.make]
  simp only [wp_bind', W.ite, hn, if_false, wp_pure', W.theClass, hk, hkind, Option.some.injEq, exists_eq_left']
  refine mg_new hk hkind hl1 hh1 rfl rfl (by omega) (by have := Nat.zero_le (n.toNatClampNeg * m.toNatClampNeg); omega) ?_
  simp only [hfind]
  rw [ite_self, wp_bind', Std.Legacy.Range.forIn_eq_forIn_range']
  have hsz : ([:n.toNatClampNeg] : Std.Legacy.Range).size = n.toNatClampNeg := by simp [Std.Legacy.Range.size]
  rw [hsz]
  have e0 : arrV c n.toNatClampNeg (fun _ => Value.null) = mg_o c n.toNatClampNeg s.heap.size 0 := by
    unfold mg_o
    refine congrArg (arrV c _) (funext fun j => ?_)
    rw [if_neg (Nat.not_lt_zero j)]
  rw [e0]
  show wp (forIn (List.range' 0 n.toNatClampNeg 1) PUnit.unit _) _ E e d acts _
  refine wp_forIn_inv (fun todo s' => ∃ i, i ≤ n.toNatClampNeg ∧ todo = List.range' i (n.toNatClampNeg - i) ∧ s' = mg_f s c cI n.toNatClampNeg m.toNatClampNeg i) _ _ ⟨0, Nat.zero_le _, rfl, rfl⟩ ?_ ?_
  · rintro x todo s' d' acts' Q' ⟨i, hi, hl, rfl⟩ hnext
    by_cases hlt : i < n.toNatClampNeg
    · rw [show n.toNatClampNeg - i = (n.toNatClampNeg - (i + 1)) + 1 from by omega, List.range'_succ] at hl
      obtain ⟨rfl, hrest⟩ := List.cons.inj hl
      obtain ⟨f1, f2, f3, f4⟩ := mg_facts s c cI n.toNatClampNeg m.toNatClampNeg x
      have hmul : x * m.toNatClampNeg + m.toNatClampNeg ≤ n.toNatClampNeg * m.toNatClampNeg := by
        have := Nat.mul_le_mul_right m.toNatClampNeg (show x + 1 ≤ n.toNatClampNeg from hlt)
        rw [Nat.succ_mul] at this
        exact this
      have hlt0 : s.heap.size < (mg_f s c cI n.toNatClampNeg m.toNatClampNeg x).heap.size := by rw [f1]; omega
      simp only [wp_bind']
      rw [multianewarray.make]
      simp only [wp_bind', W.ite, hm, if_false, wp_pure', W.theClass, f3, hkI, hkindI, Option.some.injEq, exists_eq_left']
      refine mg_new (by rw [f3]; exact hkI) hkindI hl2 hh2 rfl rfl (by rw [f1]; omega) (by rw [f4]; omega) ?_
      simp only [wp_bind', W.writeLoc, wp_pure']
      refine ⟨mg_o c n.toNatClampNeg s.heap.size x, by rw [State.heap_pushCell_of_lt (h := hlt0)]; exact f2, by simp [mg_o, arrV], by rw [mg_o_size]; exact hlt, ?_, hnext _ _ _ ⟨x + 1, hlt, hrest, ?_⟩⟩
      · simp [State.fitsSlot, State.slotType?, mg_o, arrV, f3, hk, hkind, fits]
      · rw [f1, mg_o_next]
        rfl
    · rw [show n.toNatClampNeg - i = 0 from by omega] at hl
      simp at hl
  · rintro s' d' acts' ⟨i, hi, hl, rfl⟩
    by_cases hlt : i < n.toNatClampNeg
    · rw [show n.toNatClampNeg - i = (n.toNatClampNeg - (i + 1)) + 1 from by omega, List.range'_succ] at hl
      cases hl
    · have e : i = n.toNatClampNeg := by omega
      subst e
      simp only [wp_pure']
      exact hq _ _
end MGW
/-- what the tables say of arrays of arrays of ints -/
theorem mg_over {args : Array Value} {s : State} (h : (Cond.arrayOver (.array .int)).before args s = true) : ∃ comp c k, s.vm.findClass "[I" = some comp ∧ s.vm.classes[c]? = some k ∧ k.kind = .array comp (.array .int) ∧ s.vm.findClass "[[I" = some c := by
  simp only [Cond.before, Cond.holds, Cond.value, beq_iff_eq] at h
  have e1 : (FieldType.array .int).toString = "[I" := by decide
  rw [e1] at h
  cases hc : s.vm.findClass "[I" with
  | none => simp [hc] at h
  | some comp =>
    simp only [hc, Option.bind_some, Option.bind_eq_some_iff, Option.map_eq_some_iff] at h
    obtain ⟨c, hi, k, hk, hb⟩ := h
    obtain ⟨hlt, hp, -⟩ := Array.findIdx?_eq_some_iff_getElem.mp hi
    have hkk : s.vm.classes[c] = k := (Array.getElem?_eq_some_iff.mp hk).2
    rw [hkk] at hp
    cases hkind : k.kind with
    | array component ty =>
      rw [hkind] at hb hp
      simp at hb hp
      refine ⟨comp, c, k, rfl, hk, by rw [hkind, hp, hb.1], ?_⟩
      have e2 : "[" ++ "[I" = "[[I" := by decide
      rw [← e2]
      exact hb.2
    | _ => rw [hkind] at hb; simp at hb
def mg_O (cI cG : ClassId) (U : State) : Prop := U.vm.findClass "[I" = some cI ∧ U.vm.findClass "[[I" = some cG ∧ ∃ k, U.vm.classes[cG]? = some k ∧ k.kind = .array cI (.array .int)
theorem mg_O.moved {cI cG : ClassId} {u U : State} (hvm : u.vm.Alike U.vm) (h : mg_O cI cG u) : mg_O cI cG U := by
  obtain ⟨h1, h2, k, h3, h4⟩ := h
  obtain ⟨k', hk', he⟩ := hvm.2.2 _ _ h3
  exact ⟨by rw [hvm.findClass]; exact h1, by rw [hvm.findClass]; exact h2, k', hk', by rw [he]; exact h4⟩
theorem mg_O.of {args : Array Value} {s : State} (h : (Cond.arrayOver (.array .int)).before args s = true) : ∃ cI cG, mg_O cI cG s := by
  obtain ⟨comp, c, k, h1, h2, h3, h4⟩ := mg_over h
  exact ⟨comp, c, h1, h4, k, h2, h3⟩
section MGS
variable {p : Program} {l : Launch} {e : Env} {R : Room} {s : State} {m : MethodId} {args : Array Value} {below : List Frame} {meth : Method} {c : Code} {T : State} {H : Heap} {locs : List Loc} {cells slots : Nat} {Q : State → Prop}
theorem mg_stand (X : Stand p l e R s m args below meth c T locs cells slots) (cA cI : ClassId) (N K : Nat) : ∀ i, Stand p l e R s m args below meth c (mg_f T cA cI N K i) (locs ++ (List.range i).map fun j => ⟨T.heap.size, j⟩) (cells + 1 + i) (slots + N + i * K)
  | 0 => by
    have h := X.pushed (mg_o cA N T.heap.size 0)
    rw [mg_o_size] at h
    simpa [mg_f] using h
  | i + 1 => by
    have Xi := mg_stand X cA cI N K i
    obtain ⟨h1, h2, -, -⟩ := mg_facts T cA cI N K i
    have hc : ((mg_f T cA cI N K i).pushCell (arrV cI K (fun _ => .int 0))).heap[T.heap.size]? = some (mg_o cA N T.heap.size i) := by
      rw [State.heap_pushCell_of_lt (h := show T.heap.size < (mg_f T cA cI N K i).heap.size by omega)]
      exact h2
    have h := (Xi.pushed (arrV cI K (fun _ => .int 0))).stored hc i (.ref (T.heap.size + 1 + i))
    rw [arrV_size, mg_o_next] at h
    rw [List.range_succ, List.map_append, ← List.append_assoc, show slots + N + (i + 1) * K = slots + N + i * K + K by rw [Nat.succ_mul]; omega]
    exact h
/-- new int[n][k] -/
theorem mg_row {cc : ByteArray} {pc : Nat} {ls : Array Slot} {rest : List Value} (hexec : p.tables.exec = Jvm.exec) (hb : c.code = cc) {own : String} {index : Nat} (hown : s.vm.findClass own = some m.cls) (hclink : (Cond.classLink own index "[[I").before args s = true) (harr : (Cond.arrayClass .int).before args s = true) {cI cG : ClassId} (hO : mg_O cI cG s)
    {n k : Int32} {N K : Nat} (hn : ¬ n < 0) (hk : ¬ k < 0) (hN : n.toNatClampNeg = N) (hK : k.toNatClampNeg = K) (hb1 : N * 4 ≤ 536870912) (hb2 : K * 4 ≤ 536870912) (hcells : cells + (1 + N) ≤ R.cells) (hslots : slots + (N + N * K) ≤ R.slots) (hdg : decode cc pc = .ok (.multianewarray index 2, 4))
    (kk : ∀ (H1 : Heap) (locs1 : List Loc), H1.size = H.size + 1 + N → (∀ x : Nat, x < H.size → H1[x]? = H[x]?) → H1[H.size]? = some (mg_o cG N H.size N) → (∀ j : Nat, j < N → H1[H.size + 1 + j]? = some (arrV cI K (fun _ => .int 0))) → (∀ q ∈ locs1, q ∈ locs ∨ q.base = H.size) →
      W p l e R s m args below meth c H1 locs1 (cells + 1 + N) (slots + N + N * K) Q (F0 m (pc + 4) ls (.ref H.size :: rest))) : W p l e R s m args below meth c H locs cells slots Q (F0 m pc ls (.int k :: .int n :: rest)) := by
  intro T hT X
  have hpl : e.platform.magicAccessors = ({} : Platform).magicAccessors := by rw [X.admits.platform]
  obtain ⟨hcI, hcG, kA, hkA, hkindA⟩ := hO
  obtain ⟨comp', kC, c9, hcomp', hkC, hkindC⟩ := Cond.arrayClass_spec harr
  have hcomp' : s.vm.findClass "[I" = some comp' := hcomp'
  cases hcomp'.symm.trans hcI
  obtain ⟨c0, hfc0, hcl⟩ := Cond.classLink_spec hown hclink e.platform hpl
  cases hcG.symm.trans hfc0
  obtain ⟨hg1, hwarm, -⟩ := State.classEntry (e := e) X.warmed hcl
  generalize T.vm.noted m.cls index (.cls cG) = vm₁ at hg1 hwarm
  have hal : s.vm.Alike vm₁ := hwarm.alike
  obtain ⟨kA₁, hkA₁, heA⟩ := hal.2.2 _ _ hkA
  obtain ⟨kC₁, hkC₁, heC⟩ := hal.2.2 _ _ hkC
  have hkindA₁ : kA₁.kind = .array cI (.array .int) := by rw [heA]; exact hkindA
  have hkindC₁ : kC₁.kind = .array c9 .int := by rw [heC]; exact hkindC
  have X₁ := X.noted hwarm
  obtain ⟨hr1, hr2⟩ := X.roomAbove hcells hslots
  have XF := mg_stand X₁ cG cI N K N
  obtain ⟨f1, f2, f3, f4⟩ := mg_facts (T.setVm vm₁) cG cI N K N
  have eH : (T.setVm vm₁).heap = H := hT
  rw [eH] at f1 f2
  obtain ⟨t, a1, b1⟩ := kk (mg_f (T.setVm vm₁) cG cI N K N).heap _ f1 (fun x hx => by
      have := mg_old (T.setVm vm₁) cG cI N K (a := x) (by rw [eH]; exact hx) N
      rw [eH] at this
      exact this) f2 (fun j hj => by
      have := mg_in (T.setVm vm₁) cG cI N K N j hj
      rw [eH] at this
      exact this) (fun q hq => by
      rcases List.mem_append.mp hq with h | h
      · exact Or.inl h
      · obtain ⟨j, -, rfl⟩ := List.mem_map.mp h
        exact Or.inr (by rw [eH])) (mg_f (T.setVm vm₁) cG cI N K N) rfl XF
  refine ⟨t, ?_, b1⟩
  have hl1 : ¬ N > e.platform.arrayLengthLimit := by rw [Launch.admits_arrayLengthLimit X.admits]; omega
  have hh1 : ¬ N * 4 > e.platform.maxHeapBytes := by rw [Launch.admits_maxHeapBytes X.admits]; omega
  have hl2 : ¬ K > e.platform.arrayLengthLimit := by rw [Launch.admits_arrayLengthLimit X.admits]; omega
  have hh2 : ¬ K * 4 > e.platform.maxHeapBytes := by rw [Launch.admits_maxHeapBytes X.admits]; omega
  have hdg' : decode c.code (F0 m pc ls (.int k :: .int n :: rest)).pc = .ok (.multianewarray index 2, 4) := by rw [hb]; exact hdg
  generalize hgg : F0 m pc ls (.int k :: .int n :: rest) = g at hdg' ⊢
  have hgm : g.method = m := by rw [← hgg]
  have hgs : g.stack = .int k :: .int n :: rest := by rw [← hgg]
  have hgF : F0 m (pc + 4) ls (.ref H.size :: rest) = { g with pc := g.pc + 4, stack := .ref H.size :: rest } := by rw [← hgg]
  rw [hgF] at a1
  subst hgm
  jvm_step X.here [hexec, hdg']
  simp only [multianewarray.sem, wp_bind', W.resolveClassAt_links (State.method?_setTop g X.here.top) hg1]
  rw [W.popN, if_neg (by decide)]
  refine ⟨g, State.topJava?_setTop' (s := T.setVm vm₁) g X.here.top, [.int n, .int k], rest, rfl, hgs, ?_⟩
  simp only [List.mapM_cons, List.mapM_nil, wp_bind', wp_pure']
  refine mg_make (k := kA₁) (kI := kC₁) (cc := c9) (N := N) (K := K) hkA₁ hkindA₁ hkC₁ hkindC₁ hn hk hN hK hl1 hh1 hl2 hh2 (by show T.heap.size + 1 + _ ≤ _; omega) (by show T.slotsUsed + _ + _ ≤ _; omega) (fun d' acts' => ?_)
  have eS : ((T.setTop g).setVm vm₁).setTop { g with stack := rest } = (T.setVm vm₁).setTop { g with stack := rest } := by
    show ((T.setVm vm₁).setTop g).setTop _ = _
    rw [State.setTop_setTop]
  rw [eS, mg_top]
  simp only [wp_bind', W.mark, W.pushRef, State.topJava?_setTop' _ XF.here.top, Option.some.injEq, exists_eq_left', State.setTop_setTop, State.heap_setTop]
  intro acts
  simp [jvm, XF.here.top]
  have eT : T.heap.size = H.size := by rw [hT]
  rw [eT]
  exact a1
/-- the same, over a world: the outer row, then the inner ones -/
theorem mg_va {cc : ByteArray} {pc : Nat} {ls : Array Slot} {rest : List Value} {D : va_G} {cl : List vw_C} {A : Nat → Prop} {ws : va_W} {H0 : Heap} (hexec : p.tables.exec = Jvm.exec) (hb : c.code = cc) {own : String} {index : Nat} (hown : s.vm.findClass own = some m.cls) (hclink : (Cond.classLink own index "[[I").before args s = true) (harr : (Cond.arrayClass .int).before args s = true) {cI cG : ClassId} (hO : mg_O cI cG s)
    (hP : va_P D cl ws H) (hD : va_D A ws) (hS : va_S A H0 H locs) (hA : ∀ q, H0.size ≤ q → A q) {n k : Int32} {N K : Nat} (hn : ¬ n < 0) (hk : ¬ k < 0) (hN : n.toNatClampNeg = N) (hK : k.toNatClampNeg = K) (hb1 : N * 4 ≤ 536870912) (hb2 : K * 4 ≤ 536870912) (hcells : cells + (1 + N) ≤ R.cells) (hslots : slots + (N + N * K) ≤ R.slots) (hdg : decode cc pc = .ok (.multianewarray index 2, 4))
    (kk : ∀ (q : Nat) (r : Nat → Nat) (H1 : Heap) (locs1 : List Loc), va_P D cl (ws ++ ((q, .inl (cG, N, .inr (.inr (.inr (.inr (fun i => if i < N then some (r i) else none)))))) :: (List.range N).map (fun j => (r j, .inl (cI, K, .inl (fun _ => 0)))))) H1 → va_D A (ws ++ ((q, .inl (cG, N, .inr (.inr (.inr (.inr (fun i => if i < N then some (r i) else none)))))) :: (List.range N).map (fun j => (r j, .inl (cI, K, .inl (fun _ => 0)))))) → va_S A H0 H1 locs1 →
      W p l e R s m args below meth c H1 locs1 (cells + 1 + N) (slots + N + N * K) Q (F0 m (pc + 4) ls (.ref q :: rest))) : W p l e R s m args below meth c H locs cells slots Q (F0 m pc ls (.int k :: .int n :: rest)) := by
  refine mg_row hexec hb hown hclink harr hO hn hk hN hK hb1 hb2 hcells hslots hdg (fun H1 locs1 h1 h2 h3 h4 h5 => ?_)
  have hnew : ∀ (i : Nat) (x : Nat × va_E), ((H.size, (.inl (cG, N, .inr (.inr (.inr (.inr (fun i => if i < N then some (H.size + 1 + i) else none))))) : va_E)) :: (List.range N).map (fun j => (H.size + 1 + j, (.inl (cI, K, .inl (fun _ => 0)) : va_E))))[i]? = some x → x.1 = H.size + i ∧ va_at D cl x H1 := by
    intro i x hx
    cases i with
    | zero =>
      cases hx
      refine ⟨rfl, ?_⟩
      show H1[H.size]? = some (vp_cell cG _)
      rw [h3, vp_cell_q]
      unfold mg_o
      refine congrArg some (congrArg (arrV cG N) (funext fun j => ?_))
      by_cases q : j < N
      · rw [if_pos q, if_pos q]; rfl
      · rw [if_neg q, if_neg q]; rfl
    | succ i =>
      rw [List.getElem?_cons_succ, List.getElem?_map] at hx
      by_cases q : i < N
      · rw [List.getElem?_range q] at hx
        cases hx
        refine ⟨by show H.size + 1 + i = H.size + (i + 1); omega, ?_⟩
        show H1[H.size + 1 + i]? = some (vp_cell cI _)
        rw [h4 i q, vp_cell_i]
      · rw [List.getElem?_eq_none (by rw [List.length_range]; omega)] at hx
        cases hx
  have hold : va_P D cl ws H1 := hP.kept (fun i x hx => h2 _ ((hP i x hx).lt))
  refine kk H.size (fun i => H.size + 1 + i) H1 locs1 (hold.app (fun i x hx => (hnew i x hx).2)) (hD.app ⟨fun i j x y hi hj hxy => ?_, fun i x hx => ?_⟩ (fun i j x y hi hj hxy => ?_)) ⟨by have := hS.1; omega, fun x hx1 hx2 => (h2 x (Nat.lt_of_lt_of_le hx1 hS.1)).trans (hS.2.1 x hx1 hx2), fun q hq => ?_⟩
  · have a1 := (hnew i x hi).1
    have a2 := (hnew j y hj).1
    omega
  · have a1 := (hnew i x hx).1
    exact hA _ (by have := hS.1; omega)
  · have a1 := (hnew j y hj).1
    have a2 := (hP i x hi).lt
    omega
  · rcases h5 q hq with h | h
    · exact hS.2.2 q h
    · rw [h]
      exact hA _ hS.1
end MGS
