/-! ===== the small machine's memory as a world of the kit's ===== -/
/-- addresses of the cells, classes of int[], byte[], boolean[], int[][], classes and slots, the script's length, the cells that may change -/
abbrev pm_G : Type := (Nat → Nat) × (ClassId × ClassId × ClassId × ClassId) × va_G × Nat × (Nat → Prop) × (State → Prop)
def pm_ad (G : pm_G) : Nat → Nat := G.1
def pm_cI (G : pm_G) : ClassId := G.2.1.1
def pm_cB (G : pm_G) : ClassId := G.2.1.2.1
def pm_cZ (G : pm_G) : ClassId := G.2.1.2.2.1
def pm_cG (G : pm_G) : ClassId := G.2.1.2.2.2
def pm_DC (G : pm_G) : va_G := G.2.2.1
def pm_N (G : pm_G) : Nat := G.2.2.2.1
def pm_A (G : pm_G) : Nat → Prop := G.2.2.2.2.1
/-- what else stands at the start and stays (the texts) -/
def pm_SX (G : pm_G) : State → Prop := G.2.2.2.2.2
def pm_tys (G : pm_G) : List (ClassId × FieldType) := [(pm_cI G, .int), (pm_cB G, .byte), (pm_cZ G, .boolean), (pm_cG G, .array .int)]
def pm_e (ad : Nat → Nat) : Value → Value
  | .ref k => .ref (ad k)
  | v => v
theorem pm_e_cat (ad : Nat → Nat) (v : Value) : (pm_e ad v).category = v.category := by cases v <;> rfl
def pm_fs (ad : Nat → Nat) (f : Nat → Int32) : Nat → List (Option Nat) → List Value
  | _, [] => []
  | k, none :: l => .int (f k) :: pm_fs ad f (k + 1) l
  | k, some r :: l => .ref (ad r) :: pm_fs ad f (k + 1) l
def pm_row (fs : List (Option Nat)) : Nat := match fs with
  | some q :: _ => q
  | _ => 0
def pm_cell (G : pm_G) (q : pm_Sh) (f : Nat → Int32) : va_E := match q with
  | (0, n, _) => .inl (pm_cI G, n, .inl f)
  | (1, n, _) => .inl (pm_cB G, n, .inl f)
  | (2, n, _) => .inl (pm_cZ G, n, .inl f)
  | (3, n, fs) => .inl (pm_cG G, n, .inr (.inr (.inr (.inr (fun i => if i < n then some (pm_ad G (pm_row fs + i)) else none)))))
  | (t + 4, _, fs) => .inr (t, pm_fs (pm_ad G) f 0 fs)
def pm_w (G : pm_G) (D : pm_Mem) (r : Nat) : Nat × va_E := (pm_ad G r, pm_cell G (pm_sh (pm_N G) r) (D r))
def pm_ws (G : pm_G) (D : pm_Mem) : va_W := (List.range 80).map (pm_w G D)
theorem pm_ws_at (G : pm_G) (D : pm_Mem) {r : Nat} (h : r < 80) : (pm_ws G D)[r]? = some (pm_w G D r) := by
  unfold pm_ws
  rw [List.getElem?_map, List.getElem?_range h]
  rfl
theorem pm_ws_mem {G : pm_G} {D : pm_Mem} {k : Nat} {q : Nat × va_E} (h : (pm_ws G D)[k]? = some q) : k < 80 ∧ q = pm_w G D k := by
  unfold pm_ws at h
  rw [List.getElem?_map] at h
  by_cases hk : k < 80
  · rw [List.getElem?_range hk] at h
    exact ⟨hk, (Option.some.inj h).symm⟩
  · rw [List.getElem?_eq_none (by rw [List.length_range]; omega)] at h
    cases h
theorem pm_mu_row (D : pm_Mem) (r k : Nat) (x : Int32) : pm_mu D r k x r = upd (D r) k x := by
  funext j
  simp [pm_mu, upd]
theorem pm_mu_ne (D : pm_Mem) {r q : Nat} (k : Nat) (x : Int32) (h : q ≠ r) : pm_mu D r k x q = D q := by
  funext j
  simp [pm_mu, h]
theorem pm_ws_set {G : pm_G} {D D' : pm_Mem} {r : Nat} {q : Nat × va_E} (hr : r < 80) (hq : q = pm_w G D' r) (ho : ∀ k, k ≠ r → D' k = D k) : (pm_ws G D).set r q = pm_ws G D' := by
  apply List.ext_getElem?
  intro k
  by_cases hk : k < 80
  · by_cases e : k = r
    · subst e
      rw [List.getElem?_set_self (by simp [pm_ws]; exact hk), pm_ws_at G D' hk, hq]
    · rw [List.getElem?_set_ne (Ne.symm e), pm_ws_at G D hk, pm_ws_at G D' hk]
      unfold pm_w
      rw [ho k e]
  · rw [List.getElem?_eq_none (by simp [pm_ws]; omega), List.getElem?_eq_none (by simp [pm_ws]; omega)]
theorem pm_fs_len (ad : Nat → Nat) (f : Nat → Int32) : ∀ (fs : List (Option Nat)) (j : Nat), (pm_fs ad f j fs).length = fs.length
  | [], _ => rfl
  | none :: l, j => by simp [pm_fs, pm_fs_len ad f l (j + 1)]
  | some _ :: l, j => by simp [pm_fs, pm_fs_len ad f l (j + 1)]
theorem pm_fs_int (ad : Nat → Nat) (f : Nat → Int32) : ∀ (fs : List (Option Nat)) (j k : Nat), pm_nth fs k = some none → (pm_fs ad f j fs)[k]? = some (.int (f (j + k)))
  | [], _, _, h => by simp [pm_nth] at h
  | none :: l, j, 0, _ => by simp [pm_fs]
  | some _ :: l, j, 0, h => by simp [pm_nth] at h
  | none :: l, j, k + 1, h => by
    have := pm_fs_int ad f l (j + 1) k (by simpa [pm_nth] using h)
    simpa [pm_fs, Nat.add_assoc, Nat.add_comm 1 k] using this
  | some _ :: l, j, k + 1, h => by
    have := pm_fs_int ad f l (j + 1) k (by simpa [pm_nth] using h)
    simpa [pm_fs, Nat.add_assoc, Nat.add_comm 1 k] using this
theorem pm_fs_ref (ad : Nat → Nat) (f : Nat → Int32) : ∀ (fs : List (Option Nat)) (j k q : Nat), pm_nth fs k = some (some q) → (pm_fs ad f j fs)[k]? = some (.ref (ad q))
  | [], _, _, _, h => by simp [pm_nth] at h
  | none :: l, j, 0, _, h => by simp [pm_nth] at h
  | some r :: l, j, 0, q, h => by
    simp [pm_nth] at h
    simp [pm_fs, h]
  | none :: l, j, k + 1, q, h => by
    have := pm_fs_ref ad f l (j + 1) k q (by simpa [pm_nth] using h)
    simpa [pm_fs] using this
  | some _ :: l, j, k + 1, q, h => by
    have := pm_fs_ref ad f l (j + 1) k q (by simpa [pm_nth] using h)
    simpa [pm_fs] using this
theorem pm_fs_low (ad : Nat → Nat) (f : Nat → Int32) (x : Int32) : ∀ (fs : List (Option Nat)) (j i : Nat), i < j → pm_fs ad (upd f i x) j fs = pm_fs ad f j fs
  | [], _, _, _ => rfl
  | none :: l, j, i, h => by
    simp only [pm_fs]
    rw [pm_fs_low ad f x l (j + 1) i (by omega)]
    simp [upd, show ¬ j = i by omega]
  | some _ :: l, j, i, h => by
    simp only [pm_fs]
    rw [pm_fs_low ad f x l (j + 1) i (by omega)]
theorem pm_fs_set (ad : Nat → Nat) (f : Nat → Int32) (x : Int32) : ∀ (fs : List (Option Nat)) (j k : Nat), pm_nth fs k = some none → (pm_fs ad f j fs).set k (.int x) = pm_fs ad (upd f (j + k) x) j fs
  | [], _, _, h => by simp [pm_nth] at h
  | none :: l, j, 0, _ => by
    simp only [pm_fs, List.set_cons_zero, Nat.add_zero]
    rw [pm_fs_low ad f x l (j + 1) j (by omega)]
    simp [upd]
  | some _ :: l, j, 0, h => by simp [pm_nth] at h
  | none :: l, j, k + 1, h => by
    have := pm_fs_set ad f x l (j + 1) k (by simpa [pm_nth] using h)
    simp only [pm_fs, List.set_cons_succ]
    rw [this, show j + 1 + k = j + (k + 1) by omega]
    simp [upd, show ¬ j = j + (k + 1) by omega]
  | some _ :: l, j, k + 1, h => by
    have := pm_fs_set ad f x l (j + 1) k (by simpa [pm_nth] using h)
    simp only [pm_fs, List.set_cons_succ]
    rw [this, show j + 1 + k = j + (k + 1) by omega]
theorem pm_nth_lt : ∀ (fs : List (Option Nat)) (k : Nat) (x : Option Nat), pm_nth fs k = some x → k < fs.length
  | [], _, _, h => by simp [pm_nth] at h
  | _ :: l, 0, _, _ => by simp
  | _ :: l, k + 1, x, h => by
    have := pm_nth_lt l k x (by simpa [pm_nth] using h)
    simpa using this
theorem pm_nS_out : ∀ (l : List pm_Sh) (r : Nat), l.length ≤ r → pm_nS l r = (3, 0, [])
  | [], _, _ => rfl
  | _ :: l, 0, h => by simp at h
  | _ :: l, r + 1, h => by
    show pm_nS l r = _
    exact pm_nS_out l r (by simpa using h)
theorem pm_sh_hi (N : Nat) {r : Nat} (h : 83 ≤ r) : pm_sh N r = (3, 0, []) := pm_nS_out _ _ (by simpa [pm_shL] using h)
theorem pm_sh_ro (N : Nat) {r : Nat} (h : 80 ≤ r) (h2 : r < 83) : ∃ n, pm_sh N r = (0, n, []) := by
  have : r = 80 ∨ r = 81 ∨ r = 82 := by omega
  rcases this with rfl | rfl | rfl
  · exact ⟨5, rfl⟩
  · exact ⟨5, rfl⟩
  · exact ⟨N, rfl⟩
theorem pm_sh_obj {N r t n : Nat} {fs : List (Option Nat)} (h : pm_sh N r = (t + 4, n, fs)) : r < 80 := by
  apply Nat.lt_of_not_le
  intro h0
  by_cases h1 : r < 83
  · obtain ⟨n', e⟩ := pm_sh_ro N h0 h1
    rw [e] at h
    simp at h
  · rw [pm_sh_hi N (by omega)] at h
    simp at h
theorem pm_sh_arr {N r t n : Nat} {fs : List (Option Nat)} (h : pm_sh N r = (t, n, fs)) (ht : t < 3) : r < 83 := by
  apply Nat.lt_of_not_le
  intro h0
  rw [pm_sh_hi N h0] at h
  simp at h
  omega
theorem pm_sh_grd {N r n q : Nat} {fs : List (Option Nat)} (h : pm_sh N r = (3, n, some q :: fs)) : r < 80 := by
  apply Nat.lt_of_not_le
  intro h0
  by_cases h1 : r < 83
  · obtain ⟨n', e⟩ := pm_sh_ro N h0 h1
    rw [e] at h
    simp at h
  · rw [pm_sh_hi N (by omega)] at h
    simp at h
theorem pm_sh_by {N r t n : Nat} {fs : List (Option Nat)} (h : pm_sh N r = (t + 1, n, fs)) (h2 : t < 2) : r < 80 := by
  apply Nat.lt_of_not_le
  intro h0
  by_cases h1 : r < 83
  · obtain ⟨n', e⟩ := pm_sh_ro N h0 h1
    rw [e] at h
    simp at h
  · rw [pm_sh_hi N (by omega)] at h
    simp at h
    omega
/-- addresses apart, those of the machine's cells may change, those of what is read alone may not -/
def pm_ok (G : pm_G) : Prop := (∀ i j, i < 80 → j < 80 → pm_ad G i = pm_ad G j → i = j) ∧ (∀ i, i < 80 → pm_A G (pm_ad G i)) ∧ (∀ r, 80 ≤ r → r < 83 → ¬ pm_A G (pm_ad G r)) ∧
  (∀ U V : State, U.WarmedH V.vm → U.heap.size ≤ V.heap.size → (∀ q : Nat, q < U.heap.size → ¬ pm_A G q → V.heap[q]? = U.heap[q]?) → pm_SX G U → pm_SX G V) ∧ (∀ (U : State) (g : JFrame) (mk : MethodId) (a : Array Value), pm_SX G U → pm_SX G (U.calling g mk a))
theorem pm_D0 {G : pm_G} (h : pm_ok G) (D : pm_Mem) : va_D (pm_A G) (pm_ws G D) := by
  refine ⟨fun i j x y hi hj hxy => ?_, fun k q hk => ?_⟩
  · obtain ⟨h1, rfl⟩ := pm_ws_mem hi
    obtain ⟨h2, rfl⟩ := pm_ws_mem hj
    exact h.1 i j h1 h2 hxy
  · obtain ⟨h1, rfl⟩ := pm_ws_mem hk
    exact h.2.1 k h1
def pm_nws : List Cond := pm_mn.map pm_mnw ++ [.fieldLinkNest RX3 72 RX4 "LEAST" "[I" RX4, .fieldLinkNest RX3 76 RX4 "MOST" "[I" RX4]
/-- what stands at the state U and stays: classes, statics, links of nest mates, texts -/
def pm_V (G : pm_G) (U : State) : Prop := va_K (pm_DC G) vwCl (pm_tys G) U ∧ va_Z RX4 "LEAST" "[I" (.ref (pm_ad G 80)) (pm_A G) U U.heap ∧ va_Z RX4 "MOST" "[I" (.ref (pm_ad G 81)) (pm_A G) U U.heap ∧ (∀ w ∈ pm_nws, va_Nw w U) ∧ pm_SX G U ∧ (∀ r, 80 ≤ r → r < 83 → pm_ad G r < U.heap.size)
/-- what is read alone -/
def pm_ro (G : pm_G) (D : pm_Mem) (U : State) (H : Heap) : Prop := ∀ r, 80 ≤ r → r < 83 → va_T .int (pm_ad G r) (pm_sh (pm_N G) r).2.1 (fun j => .int (D r j)) (pm_A G) U H
/-- the memory D at the state U -/
def pm_St (G : pm_G) (D : pm_Mem) (U : State) : Prop := va_P (pm_DC G) vwCl (pm_ws G D) U.heap ∧ pm_ro G D U U.heap ∧ pm_V G U
/-- the memory D at the heap H, on a walk that began at s -/
def pm_Cx (G : pm_G) (s : State) (D : pm_Mem) (H : Heap) (locs : List Loc) : Prop := va_P (pm_DC G) vwCl (pm_ws G D) H ∧ pm_ro G D s s.heap ∧ va_S (pm_A G) s.heap H locs
theorem pm_ro.go {G : pm_G} {D : pm_Mem} {s U : State} (h : pm_ro G D s s.heap) (hk : ∀ a : Nat, a < s.heap.size → ¬ pm_A G a → U.heap[a]? = s.heap[a]?) (hvm : s.vm.Alike U.vm) : pm_ro G D U U.heap := fun r h1 h2 => ((h r h1 h2).kept hk).moved hvm
theorem pm_ro.back {G : pm_G} {D : pm_Mem} {s t : State} (h : pm_ro G D t t.heap) (hz : ∀ r, 80 ≤ r → r < 83 → pm_ad G r < s.heap.size) (hk : ∀ a : Nat, a < s.heap.size → ¬ pm_A G a → t.heap[a]? = s.heap[a]?) (hvm : s.vm.Alike t.vm) : pm_ro G D s s.heap := fun r h1 h2 => by
  obtain ⟨cell, k1, k2, k3, k4, k5, k6, k7⟩ := (h r h1 h2).moved hvm.symm
  exact ⟨cell, by rw [← hk _ (hz r h1 h2) k7]; exact k1, k2, k3, k4, k5, k6, k7⟩
theorem pm_nw_warm {s U : State} (hW : s.WarmedH U.vm) (h : ∀ w ∈ pm_nws, va_Nw w s) : ∀ w ∈ pm_nws, va_Nw w U := by
  intro w hw
  have h1 := h w hw
  rcases List.mem_append.mp hw with hw | hw
  · obtain ⟨q, -, rfl⟩ := List.mem_map.mp hw
    exact va_Nw.warmM hW h1
  · simp only [List.mem_cons, List.not_mem_nil, or_false] at hw
    rcases hw with rfl | rfl
    · exact va_Nw.warmF hW h1
    · exact va_Nw.warmF hW h1
theorem pm_nw_tab : ∀ w ∈ pm_nws, w.onTables = true := by
  intro w hw
  rcases List.mem_append.mp hw with hw | hw
  · obtain ⟨q, -, rfl⟩ := List.mem_map.mp hw
    rfl
  · simp only [List.mem_cons, List.not_mem_nil, or_false] at hw
    rcases hw with rfl | rfl <;> rfl
theorem pm_V.go {G : pm_G} (hG : pm_ok G) {s U : State} {H : Heap} {locs : List Loc} (h : pm_V G s) (hS : va_S (pm_A G) s.heap H locs) (hU : U.heap = H) (hW : s.WarmedH U.vm) : pm_V G U := by
  obtain ⟨h1, h2, h3, h4, h5, h6⟩ := h
  have hk : ∀ a : Nat, a < s.heap.size → ¬ pm_A G a → U.heap[a]? = s.heap[a]? := fun a ha hn => by rw [hU]; exact hS.2.1 a ha hn
  exact ⟨va_K.moved hW.alike h1, (h2.kept hk).moved hW.alike, (h3.kept hk).moved hW.alike, pm_nw_warm hW h4, hG.2.2.2.1 s U hW (by rw [hU]; exact hS.1) hk h5, fun r a b => Nat.lt_of_lt_of_le (h6 r a b) (by rw [hU]; exact hS.1)⟩
theorem pm_Cx.st {G : pm_G} (hG : pm_ok G) {s U : State} {D : pm_Mem} {H : Heap} {locs : List Loc} (h : pm_Cx G s D H locs) (hV : pm_V G s) (hU : U.heap = H) (hW : s.WarmedH U.vm) : pm_St G D U :=
  ⟨by rw [hU]; exact h.1, h.2.1.go (fun a ha hn => by rw [hU]; exact h.2.2.2.1 a ha hn) hW.alike, hV.go hG h.2.2 hU hW⟩
theorem pm_St.blind {G : pm_G} (hG : pm_ok G) {D : pm_Mem} {U : State} (g : JFrame) (mk : MethodId) (a : Array Value) (h : pm_St G D U) : pm_St G D (U.calling g mk a) := by
  obtain ⟨h1, h2, k1, k2, k3, k4, k5, k6⟩ := h
  exact ⟨h1, fun r a1 a2 => va_T.moved (u := U) (U := U.calling g mk a) (Vm.Alike.refl U.vm) (h2 r a1 a2), va_K.moved (u := U) (U := U.calling g mk a) (Vm.Alike.refl U.vm) k1, va_Z.moved (u := U) (U := U.calling g mk a) (Vm.Alike.refl U.vm) k2, va_Z.moved (u := U) (U := U.calling g mk a) (Vm.Alike.refl U.vm) k3, fun w hw => va_Nw.same (u := U) (U := U.calling g mk a) (pm_nw_tab w hw) rfl (k4 w hw), hG.2.2.2.2 U g mk a k5, k6⟩
/-- one cell of the memory, as a world of its own -/
theorem pm_Cx.one {G : pm_G} {s : State} {D : pm_Mem} {H : Heap} {locs : List Loc} (h : pm_Cx G s D H locs) {r : Nat} (hr : r < 80) : va_P (pm_DC G) vwCl [pm_w G D r] H := by
  intro k q hk
  have h0 : k < 1 := (List.getElem?_eq_some_iff.mp hk).1
  rw [show k = 0 by omega] at hk
  cases hk
  exact h.1 r _ (pm_ws_at G D hr)
/-- a cell of the memory was written -/
theorem pm_Cx.put {G : pm_G} {s : State} {D D' : pm_Mem} {H H1 : Heap} {locs locs1 : List Loc} (h : pm_Cx G s D H locs) (hG : pm_ok G) (hV : pm_V G s) {r : Nat} {q : Nat × va_E} (hr : r < 80) (hq : q = pm_w G D' r) (ho : ∀ k, k ≠ r → D' k = D k) (hP : va_P (pm_DC G) vwCl ((pm_ws G D).set r q) H1) (hS : va_S (pm_A G) s.heap H1 locs1) : pm_Cx G s D' H1 locs1 := by
  rw [pm_ws_set hr hq ho] at hP
  refine ⟨hP, fun k h1 h2 => ?_, hS⟩
  rw [ho k (by omega)]
  exact h.2.1 k h1 h2
/-! ===== END ===== -/
