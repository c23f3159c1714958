/-! ===== the public methods: what is seen, images, sheets ===== -/
def r_forget (z : z_Z) (n : Int32) : Int32 × z_Z := if z_ib n 0 (zC z) = true then (nI (zC z), uS z (z_nt n) (zS z)) else (-1, z)
def z_see (s : Nat → Int32) (c : Nat) (n b v : Int32) : Nat → Int32 := fun i => if i = 3 * c then n else if i = 3 * c + 1 then b else if i = 3 * c + 2 then v else s i
def r_see (z : z_Z) (n b v : Int32) : Int32 × z_Z := if (z_ib n 0 40 && (z_isb (zG z) b && z_ib v 0 300)) = true then (if zC z = 6 then (-3, z) else (nI (zC z + 1), uS z (zC z + 1) (z_see (zS z) (zC z) n b v))) else (-1, z)
def r_torn (z : z_Z) : Int32 × z_Z := (zR z, z)
def r_keep (z : z_Z) (k : Int32) : Int32 × z_Z := if z_ib k 0 1 = true then (z_bi (zK z (z_nt k)), uK z (fun j => if j = z_nt k then true else zK z j) (fun j => if j = z_nt k then zG z else zI z j)) else (-1, z)
def r_back (z : z_Z) (k : Int32) : Int32 × z_Z := if z_ib k 0 1 = true then (if zK z (z_nt k) = true then (zI z (z_nt k) 51, uG z (zI z (z_nt k))) else (-2, z)) else (-1, z)
def z_len (o : Option (Nat × Nat)) : Int32 := match o with | none => -4 | some q => nI q.2
def r_count (z : z_Z) (w : Int32) : Int32 × z_Z := (if w = 0 then nI (zC z) else if w = 1 then z_bi (zK z 0) + z_bi (zK z 1) else if w = 2 then nI (zL z) else if w = 3 then z_len (zH z 0) else if w = 4 then z_sum (fun b => zG z (4 * 2 + b)) (z_n (zG z)) else if w = 5 then z_sum (fun b => zG z (4 * 3 + b)) (z_n (zG z)) else -1, z)
theorem z_two {k : Int32} (h : z_ib k 0 1 = true) : k = 0 ∨ k = 1 := by
  obtain ⟨e1, _, e3, _⟩ := z_ib_of h (by decide) (by decide)
  have : z_nt k = 0 ∨ z_nt k = 1 := by omega
  rcases this with q | q
  · left; rw [e1, q]; rfl
  · right; rw [e1, q]; rfl
theorem CR.seen {D D' : pm_Mem} {z : z_Z} {c : Nat} {s : Nat → Int32} (h : CR D z) (h4 : C4 D' (uS z c s)) (hf : ∀ r, (r < 44 ∨ 48 ≤ r) → D' r = D r) : CR D' (uS z c s) :=
  ⟨z_R.same h.1 (fun r _ _ => hf r (by omega)), C2.same (z := z) h.2.1 (fun r _ _ _ => hf r (by omega)), C3.same (z := z) h.2.2.1 (fun r _ _ => hf r (by omega)), h4, C5.same (z := z) h.2.2.2.2.1 (fun r _ _ => hf r (by omega)), C6.same (z := z) h.2.2.2.2.2.1 (hf 40 (by omega)), h.2.2.2.2.2.2.same (fun r _ => hf r (by omega))⟩
theorem CR.img {D D' : pm_Mem} {z : z_Z} {k : Nat → Bool} {i : Nat → z_P} (h : CR D z) (h2 : C2 D' (uK z k i)) (hf : ∀ r, (r < 20 ∨ 40 ≤ r) → r ≠ 41 → D' r = D r) : CR D' (uK z k i) :=
  ⟨z_R.same h.1 (fun r _ _ => hf r (by omega) (by omega)), h2, C3.same (z := z) h.2.2.1 (fun r _ _ => hf r (by omega) (by omega)), C4.same (z := z) h.2.2.2.1 (fun r _ _ => hf r (by omega) (by omega)), C5.same (z := z) h.2.2.2.2.1 (fun r _ _ => hf r (by omega) (by omega)), C6.same (z := z) h.2.2.2.2.2.1 (hf 40 (by omega) (by omega)), h.2.2.2.2.2.2.same (fun r _ => hf r (by omega) (by omega))⟩
theorem CR.sheet {D D' : pm_Mem} {z : z_Z} {k : Nat → Option (Nat × Nat)} {i : Nat → Nat → Int32} (h : CR D z) (h5 : C5 D' (uH z k i)) (hf : ∀ r, (r < 50 ∨ 56 ≤ r) → D' r = D r) : CR D' (uH z k i) :=
  ⟨z_R.same h.1 (fun r _ _ => hf r (by omega)), C2.same (z := z) h.2.1 (fun r _ _ _ => hf r (by omega)), C3.same (z := z) h.2.2.1 (fun r _ _ => hf r (by omega)), C4.same (z := z) h.2.2.2.1 (fun r _ _ => hf r (by omega)), h5, C6.same (z := z) h.2.2.2.2.2.1 (hf 40 (by omega)), h.2.2.2.2.2.2.same (fun r _ => hf r (by omega))⟩
theorem MR.seen {D D' : pm_Mem} {z : z_Z} {c : Nat} {s : Nat → Int32} (h : MR D z) (h4 : M4 D' (uS z c s)) (hf : ∀ r, r ≠ 67 → r ≠ 74 → D' r = D r) (h7 : ∀ k, k ≠ 21 → D' 67 k = D 67 k) : MR D' (uS z c s) := by
  obtain ⟨a1, b, c, d, e, f, i⟩ := h
  refine ⟨?_, ?_, ?_, h4, ?_, ?_, ?_⟩
  · unfold z_M; rw [hf 68 (by decide) (by decide)]; exact a1
  · show M2 D' z
    unfold M2 z_M; rw [hf 68 (by decide) (by decide), hf 76 (by decide) (by decide)]; exact b
  · show M3 D' z
    unfold M3; rw [h7 4 (by decide), h7 5 (by decide), hf 70 (by decide) (by decide)]; exact c
  · show M5 D' z
    unfold M5; rw [hf 77 (by decide) (by decide), hf 78 (by decide) (by decide), hf 79 (by decide) (by decide)]; exact e
  · show M6 D' z
    unfold M6; rw [h7 27 (by decide), h7 19 (by decide)]; exact f
  · unfold M7; rw [hf 71 (by decide) (by decide), hf 72 (by decide) (by decide)]; exact i
theorem MR.img {D D' : pm_Mem} {z : z_Z} {k : Nat → Bool} {i : Nat → z_P} (h : MR D z) (h2 : M2 D' (uK z k i)) (hf : ∀ r, r ≠ 67 → r ≠ 68 → r ≠ 76 → D' r = D r) (h7 : ∀ k, k ≠ 14 → k ≠ 15 → k ≠ 16 → k ≠ 18 → D' 67 k = D 67 k) (h8 : ∀ k, k < 52 → D' 68 k = D 68 k) : MR D' (uK z k i) := by
  obtain ⟨a1, b, c, d, e, f, i⟩ := h
  refine ⟨a1.same (fun k _ _ => h8 k (by omega)), h2, ?_, ?_, ?_, ?_, ?_⟩
  · show M3 D' z
    unfold M3; rw [h7 4 (by decide) (by decide) (by decide) (by decide), h7 5 (by decide) (by decide) (by decide) (by decide), hf 70 (by decide) (by decide) (by decide)]; exact c
  · show M4 D' z
    unfold M4; rw [h7 21 (by decide) (by decide) (by decide) (by decide), hf 74 (by decide) (by decide) (by decide)]; exact d
  · show M5 D' z
    unfold M5; rw [hf 77 (by decide) (by decide) (by decide), hf 78 (by decide) (by decide) (by decide), hf 79 (by decide) (by decide) (by decide)]; exact e
  · show M6 D' z
    unfold M6; rw [h7 27 (by decide) (by decide) (by decide) (by decide), h7 19 (by decide) (by decide) (by decide) (by decide)]; exact f
  · unfold M7; rw [hf 71 (by decide) (by decide) (by decide), hf 72 (by decide) (by decide) (by decide)]; exact i
theorem MR.sheet {D D' : pm_Mem} {z : z_Z} {k : Nat → Option (Nat × Nat)} {i : Nat → Nat → Int32} (h : MR D z) (h5 : M5 D' (uH z k i)) (hf : ∀ r, (r < 77 ∨ 80 ≤ r) → D' r = D r) : MR D' (uH z k i) := by
  obtain ⟨a1, b, c, d, e, f, i⟩ := h
  refine ⟨?_, ?_, ?_, ?_, h5, ?_, ?_⟩
  · unfold z_M; rw [hf 68 (by decide)]; exact a1
  · show M2 D' z
    unfold M2 z_M; rw [hf 68 (by decide), hf 76 (by decide)]; exact b
  · show M3 D' z
    unfold M3; rw [hf 67 (by decide), hf 70 (by decide)]; exact c
  · show M4 D' z
    unfold M4; rw [hf 67 (by decide), hf 74 (by decide)]; exact d
  · show M6 D' z
    unfold M6; rw [hf 67 (by decide)]; exact f
  · unfold M7; rw [hf 71 (by decide), hf 72 (by decide)]; exact i
