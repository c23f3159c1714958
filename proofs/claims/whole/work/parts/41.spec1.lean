/-! ===== the public methods: what each answers, what becomes of the state (first part) ===== -/
def z_isb (g : z_P) (b : Int32) : Bool := z_ib b 0 ((z_n g : Int) - 1)
def z_isk (g : z_P) (i : Int32) : Bool := z_ib i 0 ((z_k g : Int) - 1)
def z_nt (x : Int32) : Nat := x.toNatClampNeg
def z_good (w v : Int32) : Bool := (decide (w = 0) && z_ib v 0 3) || (decide (w = 1) && z_ib v 0 60) || (decide (w = 2) && z_ib v 0 9) || (decide (w = 3) && z_ib v 1 9) || (decide (w = 4) && z_ib v 0 300)
def r_feed (z : z_Z) (c : Int32) : Int32 × z_Z := if z_ib c 0 127 = true then (if zL z = 160 then (-3, z) else (nI (zL z + 1), uT z (zL z + 1) (upd (zT z) (zL z) c))) else (-1, z)
def r_end (z : z_Z) (n : Int32) : Int32 × z_Z := if z_ib n 0 (zL z) = true then (nI (zL z), uT z (z_nt n) (zT z)) else (-1, z)
def r_fault (z : z_Z) : Int32 × z_Z := (zF z, z)
def r_rule (z : z_Z) (w : Int32) : Int32 × z_Z := (if w = 0 then zG z 24 else if w = 1 then zG z 49 else if w = 2 then zG z 51 else if w = 3 then zG z 50 else if w = 4 then z_still (zG z) (z_n (zG z)) else if w = 5 then z_last (zG z) else -1, z)
def r_bead (z : z_Z) (b w : Int32) : Int32 × z_Z := (if z_isb (zG z) b = true then (if z_ib w 0 4 = true then zG z (4 * z_nt w + z_nt b) else if w = 5 then 100 + zG z (20 + z_nt b) else if w = 6 then 1000 + z_st (zG z) (z_nt b) else if w = 7 then 10000 + z_pull (zG z) (z_nt b) else -1) else -1, z)
def r_knock (z : z_Z) (i w : Int32) : Int32 × z_Z := (if z_isk (zG z) i = true then (if w = 0 then zG z (25 + z_nt i) else if w = 1 then 9 + zG z (37 + z_nt i) else -1) else -1, z)
def r_alter (z : z_Z) (b w v : Int32) : Int32 × z_Z := if (z_isb (zG z) b && z_good w v) = true then (zG z (4 * z_nt w + z_nt b), uG z (z_up (zG z) (4 * z_nt w + z_nt b) v)) else (-1, z)
def r_drag (z : z_Z) (v : Int32) : Int32 × z_Z := if z_ib v 0 3 = true then (zG z 50, uG z (z_up (zG z) 50 v)) else (-1, z)
def r_bind (z : z_Z) (k r s m : Int32) : Int32 × z_Z := if (z_ib k 0 3 && (z_ib r 0 60 && (z_ib s 0 9 && z_ib m 1 9))) = true then (if z_n (zG z) = 4 then (-3, z) else (nI (z_n (zG z) + 1), uG z (z_bind (zG z) k r s m))) else (-1, z)
def r_cut (z : z_Z) (n : Int32) : Int32 × z_Z := if z_ib n 0 (z_n (zG z)) = true then (zG z 24, uG z (z_up (zG z) 24 n)) else (-1, z)
def r_hit (z : z_Z) (b v : Int32) : Int32 × z_Z := if (z_isb (zG z) b && z_ib v 0 18) = true then (100 + z_hit (zG z) b (v - 9) (20 + z_nt b), uG z (z_hit (zG z) b (v - 9))) else (-1, z)
def r_add (z : z_Z) (b v : Int32) : Int32 × z_Z := if (z_ib b 0 3 && z_ib v 0 18) = true then (if z_k (zG z) = 12 then (-3, z) else (nI (z_k (zG z) + 1), uG z (z_add1 (zG z) b (v - 9)))) else (-1, z)
def r_drop (z : z_Z) (n : Int32) : Int32 × z_Z := if z_ib n 0 (z_k (zG z)) = true then (zG z 49, uG z (z_up (zG z) 49 n)) else (-1, z)
/-- the first n speeds are 0 -/
def z_calm (g : z_P) (n : Nat) : z_P := fun k => if 20 ≤ k ∧ k < 20 + n then 0 else g k
def z_mov (g : z_P) : Nat → Int32
  | 0 => 0
  | b + 1 => z_mov g b + (if g (20 + b) = 0 then 0 else 1)
def r_calm (z : z_Z) : Int32 × z_Z := (z_mov (zG z) (z_n (zG z)), uG z (z_calm (zG z) (z_n (zG z))))
/-! -/
theorem z_isb_of {g : z_P} {b : Int32} (h : z_isb g b = true) (hn : z_n g ≤ 4) : z_nt b < z_n g ∧ b = nI (z_nt b) ∧ 0 ≤ b ∧ b.toNatClampNeg = z_nt b := by
  obtain ⟨h1, h2⟩ := z_ib_iff.mp h
  obtain ⟨j, e1, e2, e3, e4⟩ := z_of (x := b) (a := 0) (b := 3) ⟨h1, by omega⟩ (by omega) (by omega)
  have e5 : z_nt b = j := e4
  rw [e5]
  refine ⟨?_, e1, z_le.mpr h1, e4⟩
  rw [e1, z_tI (by omega)] at h2
  omega
theorem z_isk_of {g : z_P} {b : Int32} (h : z_isk g b = true) (hn : z_k g ≤ 12) : z_nt b < z_k g ∧ b = nI (z_nt b) ∧ b.toNatClampNeg = z_nt b := by
  obtain ⟨h1, h2⟩ := z_ib_iff.mp h
  obtain ⟨j, e1, e2, e3, e4⟩ := z_of (x := b) (a := 0) (b := 11) ⟨h1, by omega⟩ (by omega) (by omega)
  have e5 : z_nt b = j := e4
  rw [e5]
  refine ⟨?_, e1, e4⟩
  rw [e1, z_tI (by omega)] at h2
  omega
theorem z_ib_of {x : Int32} {a b : Int} (h : z_ib x a b = true) (ha : 0 ≤ a) (hb : b < 2147483648) : x = nI (z_nt x) ∧ a ≤ z_nt x ∧ (z_nt x : Int) ≤ b ∧ x.toNatClampNeg = z_nt x := by
  obtain ⟨h1, h2⟩ := z_ib_iff.mp h
  obtain ⟨j, e1, e2, e3, e4⟩ := z_of (x := x) ⟨h1, h2⟩ ha hb
  have e5 : z_nt x = j := e4
  rw [e5]
  exact ⟨e1, e2, e3, e4⟩
theorem z_has {Ga : pm_Ga} (hhas : sp_has Ga) {b : Int32} {g : z_P} {D : pm_Mem} {post : pm_Post} (hR : z_R D 0 g) (hn : g 24 = nI (z_n g)) (hn4 : z_n g ≤ 4) (h1 : z_isb g b = true → post (some (.int 1)) D) (h0 : z_isb g b = false → post (some (.int 0)) D) : Ga 3 [.ref 0, .int b] D post := by
  refine hhas 0 b D post (by decide) (fun a1 a2 => h1 ?_) (fun a0 => h0 ?_)
  · rw [hR.1, hn, z_lt, z_tI (by omega)] at a2
    exact z_ib_t (z_le.mp a1) (by omega)
  · refine z_ib_f (fun h => a0 ⟨z_le.mpr h.1, ?_⟩)
    rw [hR.1, hn, z_lt, z_tI (by omega)]
    have := h.2
    omega
/-! frames of the class's parts -/
theorem CR.tape {D D' : pm_Mem} {z : z_Z} {l : Nat} {t : Nat → Int32} (h : CR D z) (h3 : C3 D' (uT z l t)) (hf : ∀ r, r ≠ 42 → r ≠ 43 → D' r = D r) : CR D' (uT z l t) :=
  ⟨z_R.same h.1 (fun r _ _ => hf r (by omega) (by omega)), C2.same (z := z) h.2.1 (fun r _ _ _ => hf r (by omega) (by omega)), h3, C4.same (z := z) h.2.2.2.1 (fun r _ _ => hf r (by omega) (by omega)), C5.same (z := z) h.2.2.2.2.1 (fun r _ _ => hf r (by omega) (by omega)), C6.same (z := z) h.2.2.2.2.2.1 (hf 40 (by omega) (by omega)), h.2.2.2.2.2.2.same (fun r _ => hf r (by omega) (by omega))⟩
theorem MR.tape {D D' : pm_Mem} {z : z_Z} {l : Nat} {t : Nat → Int32} (h : MR D z) (h3 : M3 D' (uT z l t)) (hf : ∀ r, r ≠ 67 → r ≠ 70 → D' r = D r) (h7 : ∀ k, k ≠ 4 → D' 67 k = D 67 k) : MR D' (uT z l t) := by
  obtain ⟨a1, b, c, d, e, f, i⟩ := h
  refine ⟨?_, ?_, h3, ?_, ?_, ?_, ?_⟩
  · unfold z_M; rw [hf 68 (by decide) (by decide)]; exact a1
  · show M2 D' z
    unfold M2 z_M; rw [hf 68 (by decide) (by decide), hf 76 (by decide) (by decide)]; exact b
  · show M4 D' z
    unfold M4; rw [h7 21 (by decide), hf 74 (by decide) (by decide)]; exact d
  · show M5 D' z
    unfold M5; rw [hf 77 (by decide) (by decide), hf 78 (by decide) (by decide), hf 79 (by decide) (by decide)]; exact e
  · show M6 D' z
    unfold M6; rw [h7 27 (by decide), h7 19 (by decide)]; exact f
  · unfold M7; rw [hf 71 (by decide) (by decide), hf 72 (by decide) (by decide)]; exact i
theorem z_byt : ∀ n, n < 128 → vp_nar .byte (nI n).toInt8.toInt32 = nI n := by decide +kernel
theorem w_ib {Ga : pm_Ga} (hwi : sp_within Ga) {v a b : Int32} (A B : Int) {D : pm_Mem} {post : pm_Post} (hA : a.toInt = A) (hB : b.toInt = B) (h1 : z_ib v A B = true → post (some (.int 1)) D) (h0 : z_ib v A B = false → post (some (.int 0)) D) : Ga 97 [.int v, .int a, .int b] D post := by
  refine hwi v a b D post (fun a1 a2 => h1 ?_) (fun a0 => h0 ?_)
  · rw [z_le] at a1 a2
    exact z_ib_t (by omega) (by omega)
  · refine z_ib_f (fun q => a0 ⟨?_, ?_⟩)
    · rw [z_le]; omega
    · rw [z_le]; omega
theorem m_ib {Ga : pm_Ga} (hin : sp_in Ga) {v : Int32} {a b : Int64} (A B : Int) {D : pm_Mem} {post : pm_Post} (hA : a.toInt = A) (hB : b.toInt = B) (h1 : z_ib v A B = true → post (some (.int 1)) D) (h0 : z_ib v A B = false → post (some (.int 0)) D) : Ga 98 [.long v.toInt64, .long a, .long b] D post := by
  refine hin _ a b D post (fun a1 a2 => h1 ?_) (fun a0 => h0 ?_)
  · rw [z_64] at a1 a2
    exact z_ib_t (by omega) (by omega)
  · rw [z_64] at a0
    refine z_ib_f (fun q => a0 ⟨by omega, by omega⟩)
