/-! ===== THE WHOLE STATE, as both sides hold it ===== -/
/-- the page; which images there are, the images; the tape (how many bytes, the bytes); the fault; what is seen (how many, three numbers each); the sheets (lane and length), their cells; what was torn -/
abbrev z_Z : Type := z_P × (Nat → Bool) × (Nat → z_P) × Nat × (Nat → Int32) × Int32 × Nat × (Nat → Int32) × (Nat → Option (Nat × Nat)) × (Nat → Nat → Int32) × Int32
def zG (z : z_Z) : z_P := z.1
def zK (z : z_Z) : Nat → Bool := z.2.1
def zI (z : z_Z) : Nat → z_P := z.2.2.1
def zL (z : z_Z) : Nat := z.2.2.2.1
def zT (z : z_Z) : Nat → Int32 := z.2.2.2.2.1
def zF (z : z_Z) : Int32 := z.2.2.2.2.2.1
def zC (z : z_Z) : Nat := z.2.2.2.2.2.2.1
def zS (z : z_Z) : Nat → Int32 := z.2.2.2.2.2.2.2.1
def zH (z : z_Z) : Nat → Option (Nat × Nat) := z.2.2.2.2.2.2.2.2.1
def zE (z : z_Z) : Nat → Nat → Int32 := z.2.2.2.2.2.2.2.2.2.1
def zR (z : z_Z) : Int32 := z.2.2.2.2.2.2.2.2.2.2
def uG (z : z_Z) (g : z_P) : z_Z := (g, zK z, zI z, zL z, zT z, zF z, zC z, zS z, zH z, zE z, zR z)
def uK (z : z_Z) (k : Nat → Bool) (i : Nat → z_P) : z_Z := (zG z, k, i, zL z, zT z, zF z, zC z, zS z, zH z, zE z, zR z)
def uT (z : z_Z) (l : Nat) (t : Nat → Int32) : z_Z := (zG z, zK z, zI z, l, t, zF z, zC z, zS z, zH z, zE z, zR z)
def uF (z : z_Z) (f : Int32) : z_Z := (zG z, zK z, zI z, zL z, zT z, f, zC z, zS z, zH z, zE z, zR z)
def uS (z : z_Z) (c : Nat) (s : Nat → Int32) : z_Z := (zG z, zK z, zI z, zL z, zT z, zF z, c, s, zH z, zE z, zR z)
def uH (z : z_Z) (h : Nat → Option (Nat × Nat)) (e : Nat → Nat → Int32) : z_Z := (zG z, zK z, zI z, zL z, zT z, zF z, zC z, zS z, h, e, zR z)
def uR (z : z_Z) (r : Int32) : z_Z := (zG z, zK z, zI z, zL z, zT z, zF z, zC z, zS z, zH z, zE z, r)
/-- a number within bounds -/
def z_ib (x : Int32) (a b : Int) : Bool := decide (a ≤ x.toInt) && decide (x.toInt ≤ b)
theorem z_ib_t {x : Int32} {a b : Int} (h1 : a ≤ x.toInt) (h2 : x.toInt ≤ b) : z_ib x a b = true := by simp [z_ib, h1, h2]
theorem z_ib_f {x : Int32} {a b : Int} (h : ¬ (a ≤ x.toInt ∧ x.toInt ≤ b)) : z_ib x a b = false := by
  unfold z_ib
  by_cases h1 : a ≤ x.toInt
  · have h2 : ¬ x.toInt ≤ b := fun z => h ⟨h1, z⟩
    simp [h2]
  · simp [h1]
theorem z_ib_iff {x : Int32} {a b : Int} : z_ib x a b = true ↔ a ≤ x.toInt ∧ x.toInt ≤ b := by simp [z_ib]
theorem z_ib_not {x : Int32} {a b : Int} : z_ib x a b = false ↔ ¬ (a ≤ x.toInt ∧ x.toInt ≤ b) := by
  rw [← z_ib_iff]
  simp
def z_bi (b : Bool) : Int32 := if b = true then 1 else 0
/-! the class's cells -/
def C1 (D : pm_Mem) (z : z_Z) : Prop := z_R D 0 (zG z)
def C2 (D : pm_Mem) (z : z_Z) : Prop := D 41 0 = z_bi (zK z 0) ∧ D 41 1 = z_bi (zK z 1) ∧ (zK z 0 = true → z_R D 20 (zI z 0)) ∧ (zK z 1 = true → z_R D 30 (zI z 1))
def C3 (D : pm_Mem) (z : z_Z) : Prop := D 42 1 = nI (zL z) ∧ (∀ i, i < zL z → D 43 i = zT z i) ∧ D 42 2 = zF z
def C4 (D : pm_Mem) (z : z_Z) : Prop := D 44 0 = nI (zC z) ∧ ∀ i, i < zC z → D 45 i = zS z (3 * i) ∧ D 46 i = zS z (3 * i + 1) ∧ D 47 i = zS z (3 * i + 2)
def C5 (D : pm_Mem) (z : z_Z) : Prop := ∀ k, k < 4 → (zH z k = none → D 50 k = -1) ∧ ∀ a n, zH z k = some (a, n) → D 50 k = nI n ∧ D 51 k = nI a ∧ ∀ i, i < n → D (52 + k) i = zE z k i
def C6 (D : pm_Mem) (z : z_Z) : Prop := D 40 9 = zR z
def C7 (D : pm_Mem) : Prop := (D 80 0 = 0 ∧ D 80 1 = 0 ∧ D 80 2 = 0 ∧ D 80 3 = 1 ∧ D 80 4 = 0) ∧ (D 81 0 = 3 ∧ D 81 1 = 60 ∧ D 81 2 = 9 ∧ D 81 3 = 9 ∧ D 81 4 = 300)
def CR (D : pm_Mem) (z : z_Z) : Prop := C1 D z ∧ C2 D z ∧ C3 D z ∧ C4 D z ∧ C5 D z ∧ C6 D z ∧ C7 D
/-! the reference's cells -/
def M2 (D : pm_Mem) (z : z_Z) : Prop := D 76 0 = z_bi (zK z 0) ∧ D 76 1 = z_bi (zK z 1) ∧ (zK z 0 = true → z_M D 52 (zI z 0)) ∧ (zK z 1 = true → z_M D 104 (zI z 1))
def M3 (D : pm_Mem) (z : z_Z) : Prop := D 67 4 = nI (zL z) ∧ (∀ i, i < zL z → D 70 i = zT z i) ∧ D 67 5 = zF z
def M4 (D : pm_Mem) (z : z_Z) : Prop := D 67 21 = nI (zC z) ∧ ∀ i, i < 3 * zC z → D 74 i = zS z i
def M5 (D : pm_Mem) (z : z_Z) : Prop := ∀ k, k < 4 → (zH z k = none → D 77 k = -4) ∧ ∀ a n, zH z k = some (a, n) → D 78 k = nI n ∧ D 77 k = nI a ∧ ∀ i, i < n → D 79 (40 * k + i) = zE z k i
def M6 (D : pm_Mem) (z : z_Z) : Prop := D 67 27 = zR z ∧ D 67 19 = -4
def z_ends : List Int32 := [0, 5, 9, 14, 19, 23, 25, 29]
def z_lets : List Int32 := [112, 108, 97, 105, 110, 114, 111, 112, 101, 98, 108, 111, 99, 107, 115, 108, 97, 99, 107, 100, 114, 97, 103, 111, 110, 98, 97, 99, 107]
def M7 (D : pm_Mem) : Prop := (∀ i, i < 8 → D 71 i = z_ends.getD i 0) ∧ ∀ i, i < 29 → D 72 i = z_lets.getD i 0
def MR (D : pm_Mem) (z : z_Z) : Prop := z_M D 0 (zG z) ∧ M2 D z ∧ M3 D z ∧ M4 D z ∧ M5 D z ∧ M6 D z ∧ M7 D
/-- a state as it should be -/
def zOk (z : z_Z) : Prop := z_G 9999 (zG z) ∧ (zK z 0 = true → z_G 9999 (zI z 0)) ∧ (zK z 1 = true → z_G 9999 (zI z 1)) ∧ (zL z ≤ 160 ∧ ∀ i, i < zL z → z_in (zT z i) 0 127) ∧ (zC z ≤ 6 ∧ ∀ i, i < zC z → z_in (zS z (3 * i)) 0 40 ∧ z_in (zS z (3 * i + 1)) 0 3 ∧ z_in (zS z (3 * i + 2)) 0 300) ∧ ∀ k, k < 4 → ∀ a n, zH z k = some (a, n) → a ≤ 2 ∧ n ≤ 40
/-! frames -/
theorem z_R.same {D D' : pm_Mem} {c : Nat} {g : z_P} (h : z_R D c g) (hf : ∀ r, c ≤ r → r < c + 9 → D' r = D r) : z_R D' c g := by
  obtain ⟨a1, a2, a3, a4, a5, a6⟩ := h
  have e0 := hf c (by omega) (by omega)
  refine ⟨by rw [e0]; exact a1, by rw [e0]; exact a2, by rw [e0]; exact a3, by rw [e0]; exact a4, fun b hb => ?_, fun i hi => ?_⟩
  · rw [hf (c + 1) (by omega) (by omega), hf (c + 2) (by omega) (by omega), hf (c + 3) (by omega) (by omega), hf (c + 4) (by omega) (by omega), hf (c + 5) (by omega) (by omega), hf (c + 6) (by omega) (by omega)]
    exact a5 b hb
  · rw [hf (c + 7) (by omega) (by omega), hf (c + 8) (by omega) (by omega)]
    exact a6 i hi
theorem C2.same {D D' : pm_Mem} {z : z_Z} (h : C2 D z) (hf : ∀ r, 20 ≤ r → r < 42 → r ≠ 40 → D' r = D r) : C2 D' z := by
  obtain ⟨a1, a2, a3, a4⟩ := h
  rw [← hf 41 (by omega) (by omega) (by omega)] at a1 a2
  exact ⟨a1, a2, fun k => (a3 k).same (fun r h1 h2 => hf r (by omega) (by omega) (by omega)), fun k => (a4 k).same (fun r h1 h2 => hf r (by omega) (by omega) (by omega))⟩
theorem C3.same {D D' : pm_Mem} {z : z_Z} (h : C3 D z) (hf : ∀ r, 42 ≤ r → r < 44 → D' r = D r) : C3 D' z := by
  unfold C3
  rw [hf 42 (by omega) (by omega), hf 43 (by omega) (by omega)]
  exact h
theorem C4.same {D D' : pm_Mem} {z : z_Z} (h : C4 D z) (hf : ∀ r, 44 ≤ r → r < 48 → D' r = D r) : C4 D' z := by
  unfold C4
  rw [hf 44 (by omega) (by omega), hf 45 (by omega) (by omega), hf 46 (by omega) (by omega), hf 47 (by omega) (by omega)]
  exact h
theorem C5.same {D D' : pm_Mem} {z : z_Z} (h : C5 D z) (hf : ∀ r, 50 ≤ r → r < 56 → D' r = D r) : C5 D' z := by
  intro k hk
  obtain ⟨h1, h2⟩ := h k hk
  rw [hf 50 (by omega) (by omega), hf 51 (by omega) (by omega), hf (52 + k) (by omega) (by omega)]
  exact ⟨h1, h2⟩
theorem C6.same {D D' : pm_Mem} {z : z_Z} (h : C6 D z) (hf : D' 40 = D 40) : C6 D' z := by
  unfold C6
  rw [hf]
  exact h
theorem C7.same {D D' : pm_Mem} (h : C7 D) (hf : ∀ r, 80 ≤ r → D' r = D r) : C7 D' := by
  unfold C7
  rw [hf 80 (by omega), hf 81 (by omega)]
  exact h
/-- the trial and the traces alone have changed -/
theorem CR.same {D D' : pm_Mem} {z : z_Z} (h : CR D z) (hf : ∀ r, (r < 9 ∨ 20 ≤ r) → (r < 56 ∨ 67 ≤ r) → D' r = D r) : CR D' z :=
  ⟨z_R.same h.1 (fun r _ _ => hf r (by omega) (by omega)), h.2.1.same (fun r _ _ _ => hf r (by omega) (by omega)), h.2.2.1.same (fun r _ _ => hf r (by omega) (by omega)), h.2.2.2.1.same (fun r _ _ => hf r (by omega) (by omega)), h.2.2.2.2.1.same (fun r _ _ => hf r (by omega) (by omega)), h.2.2.2.2.2.1.same (hf 40 (by omega) (by omega)), h.2.2.2.2.2.2.same (fun r _ => hf r (by omega) (by omega))⟩
/-- the chain now (and the trial) has changed -/
theorem CR.now {D D' : pm_Mem} {z : z_Z} {g : z_P} (h : CR D z) (hR : z_R D' 0 g) (hf : ∀ r, 20 ≤ r → D' r = D r) : CR D' (uG z g) :=
  ⟨hR, h.2.1.same (fun r _ _ _ => hf r (by omega)), h.2.2.1.same (fun r _ _ => hf r (by omega)), h.2.2.2.1.same (fun r _ _ => hf r (by omega)), h.2.2.2.2.1.same (fun r _ _ => hf r (by omega)), h.2.2.2.2.2.1.same (hf 40 (by omega)), h.2.2.2.2.2.2.same (fun r _ => hf r (by omega))⟩
theorem z_M.same {D D' : pm_Mem} {p : Nat} {g : z_P} (h : z_M D p g) (hf : ∀ k, p ≤ k → k < p + 52 → D' 68 k = D 68 k) : z_M D' p g := fun k hk => by rw [hf _ (by omega) (by omega)]; exact h k hk
/-- of the reference: counters, pages from 156 on, scratch have changed -/
theorem MR.same {D D' : pm_Mem} {z : z_Z} (h : MR D z) (hf : ∀ r, r ≠ 67 → r ≠ 68 → r ≠ 69 → r ≠ 73 → r ≠ 75 → D' r = D r) (h7 : ∀ k, k ≠ 14 → k ≠ 15 → k ≠ 16 → k ≠ 18 → D' 67 k = D 67 k) (h8 : ∀ k, k < 156 → D' 68 k = D 68 k) : MR D' z := by
  obtain ⟨a1, ⟨b1, b2, b3, b4⟩, ⟨c1, c2, c3⟩, ⟨d1, d2⟩, e, ⟨f1, f2⟩, i1, i2⟩ := h
  refine ⟨a1.same (fun k _ _ => h8 k (by omega)), ⟨by rw [hf 76 (by decide) (by decide) (by decide) (by decide) (by decide)]; exact b1, by rw [hf 76 (by decide) (by decide) (by decide) (by decide) (by decide)]; exact b2, fun q => (b3 q).same (fun k _ _ => h8 k (by omega)), fun q => (b4 q).same (fun k _ _ => h8 k (by omega))⟩, ⟨by rw [h7 4 (by decide) (by decide) (by decide) (by decide)]; exact c1, by rw [hf 70 (by decide) (by decide) (by decide) (by decide) (by decide)]; exact c2, by rw [h7 5 (by decide) (by decide) (by decide) (by decide)]; exact c3⟩, ⟨by rw [h7 21 (by decide) (by decide) (by decide) (by decide)]; exact d1, by rw [hf 74 (by decide) (by decide) (by decide) (by decide) (by decide)]; exact d2⟩, ?_, ⟨by rw [h7 27 (by decide) (by decide) (by decide) (by decide)]; exact f1, by rw [h7 19 (by decide) (by decide) (by decide) (by decide)]; exact f2⟩, ?_⟩
  · unfold M5
    rw [hf 77 (by decide) (by decide) (by decide) (by decide) (by decide), hf 78 (by decide) (by decide) (by decide) (by decide) (by decide), hf 79 (by decide) (by decide) (by decide) (by decide) (by decide)]
    exact e
  · unfold M7
    rw [hf 71 (by decide) (by decide) (by decide) (by decide) (by decide), hf 72 (by decide) (by decide) (by decide) (by decide) (by decide)]
    exact ⟨i1, i2⟩
/-- page 0 has changed -/
theorem MR.now {D D' : pm_Mem} {z : z_Z} {g : z_P} (h : MR D z) (hM : z_M D' 0 g) (hf : ∀ r, r ≠ 67 → r ≠ 68 → r ≠ 69 → r ≠ 73 → r ≠ 75 → D' r = D r) (h7 : ∀ k, k ≠ 14 → k ≠ 15 → k ≠ 16 → k ≠ 18 → D' 67 k = D 67 k) (h8 : ∀ k, 52 ≤ k → k < 156 → D' 68 k = D 68 k) : MR D' (uG z g) := by
  obtain ⟨a1, ⟨b1, b2, b3, b4⟩, ⟨c1, c2, c3⟩, ⟨d1, d2⟩, e, ⟨f1, f2⟩, i1, i2⟩ := h
  refine ⟨hM, ⟨by rw [hf 76 (by decide) (by decide) (by decide) (by decide) (by decide)]; exact b1, by rw [hf 76 (by decide) (by decide) (by decide) (by decide) (by decide)]; exact b2, fun q => (b3 q).same (fun k _ _ => h8 k (by omega) (by omega)), fun q => (b4 q).same (fun k _ _ => h8 k (by omega) (by omega))⟩, ⟨by rw [h7 4 (by decide) (by decide) (by decide) (by decide)]; exact c1, by rw [hf 70 (by decide) (by decide) (by decide) (by decide) (by decide)]; exact c2, by rw [h7 5 (by decide) (by decide) (by decide) (by decide)]; exact c3⟩, ⟨by rw [h7 21 (by decide) (by decide) (by decide) (by decide)]; exact d1, by rw [hf 74 (by decide) (by decide) (by decide) (by decide) (by decide)]; exact d2⟩, ?_, ⟨by rw [h7 27 (by decide) (by decide) (by decide) (by decide)]; exact f1, by rw [h7 19 (by decide) (by decide) (by decide) (by decide)]; exact f2⟩, ?_⟩
  · unfold M5
    rw [hf 77 (by decide) (by decide) (by decide) (by decide) (by decide), hf 78 (by decide) (by decide) (by decide) (by decide) (by decide), hf 79 (by decide) (by decide) (by decide) (by decide) (by decide)]
    exact e
  · unfold M7
    rw [hf 71 (by decide) (by decide) (by decide) (by decide) (by decide), hf 72 (by decide) (by decide) (by decide) (by decide) (by decide)]
    exact ⟨i1, i2⟩
/-! what a public method does: class and reference alike -/
def cP (D : pm_Mem) (q : Int32 × z_Z) (post : pm_Post) : Prop := ∀ D', CR D' q.2 → (∀ r, 67 ≤ r → D' r = D r) → post (some (.int q.1)) D'
def mP (D : pm_Mem) (q : Int32 × z_Z) (post : pm_Post) : Prop := ∀ D', MR D' q.2 → (∀ r, (r < 67 ∨ 80 ≤ r) → D' r = D r) → post (some (.int q.1)) D'
def cs0 (Ga : pm_Ga) (j : Nat) (f : z_Z → Int32 × z_Z) : Prop := ∀ z D post, zOk z → CR D z → cP D (f z) post → Ga j [.ref 40] D post
def cs1 (Ga : pm_Ga) (j : Nat) (f : z_Z → Int32 → Int32 × z_Z) : Prop := ∀ z a D post, zOk z → CR D z → cP D (f z a) post → Ga j [.ref 40, .int a] D post
def cs2 (Ga : pm_Ga) (j : Nat) (f : z_Z → Int32 → Int32 → Int32 × z_Z) : Prop := ∀ z a b D post, zOk z → CR D z → cP D (f z a b) post → Ga j [.ref 40, .int a, .int b] D post
def cs3 (Ga : pm_Ga) (j : Nat) (f : z_Z → Int32 → Int32 → Int32 → Int32 × z_Z) : Prop := ∀ z a b c D post, zOk z → CR D z → cP D (f z a b c) post → Ga j [.ref 40, .int a, .int b, .int c] D post
def cs4 (Ga : pm_Ga) (j : Nat) (f : z_Z → Int32 → Int32 → Int32 → Int32 → Int32 × z_Z) : Prop := ∀ z a b c d D post, zOk z → CR D z → cP D (f z a b c d) post → Ga j [.ref 40, .int a, .int b, .int c, .int d] D post
def ms0 (Ga : pm_Ga) (j : Nat) (f : z_Z → Int32 × z_Z) : Prop := ∀ z D post, zOk z → MR D z → mP D (f z) post → Ga j [.ref 67] D post
def ms1 (Ga : pm_Ga) (j : Nat) (f : z_Z → Int32 → Int32 × z_Z) : Prop := ∀ z a D post, zOk z → MR D z → mP D (f z a) post → Ga j [.ref 67, .int a] D post
def ms2 (Ga : pm_Ga) (j : Nat) (f : z_Z → Int32 → Int32 → Int32 × z_Z) : Prop := ∀ z a b D post, zOk z → MR D z → mP D (f z a b) post → Ga j [.ref 67, .int a, .int b] D post
def ms3 (Ga : pm_Ga) (j : Nat) (f : z_Z → Int32 → Int32 → Int32 → Int32 × z_Z) : Prop := ∀ z a b c D post, zOk z → MR D z → mP D (f z a b c) post → Ga j [.ref 67, .int a, .int b, .int c] D post
def ms4 (Ga : pm_Ga) (j : Nat) (f : z_Z → Int32 → Int32 → Int32 → Int32 → Int32 × z_Z) : Prop := ∀ z a b c d D post, zOk z → MR D z → mP D (f z a b c d) post → Ga j [.ref 67, .int a, .int b, .int c, .int d] D post
theorem uG_self (z : z_Z) : uG z (zG z) = z := rfl
