/-! ===== the text: what is meant ===== -/
def y_by (L : Nat) (T : Nat → Int32) (p : Nat) : Int32 := if p < L then T p else -4
def y_wh (P : Int32 → Bool) (L : Nat) (T : Nat → Int32) : Nat → Nat → Nat
  | 0, p => p
  | m + 1, p => if P (y_by L T p) = true then y_wh P L T m (p + 1) else p
/-- the first place from p on that P doesn't hold of -/
def y_end (P : Int32 → Bool) (L : Nat) (T : Nat → Int32) (p : Nat) : Nat := y_wh P L T (L - p) p
theorem y_end_go {P : Int32 → Bool} {L : Nat} {T : Nat → Int32} {p : Nat} (h4 : P (-4) = false) (h : P (y_by L T p) = true) : p < L ∧ y_end P L T p = y_end P L T (p + 1) := by
  have h1 : p < L := by
    by_cases q : p < L
    · exact q
    · unfold y_by at h
      rw [if_neg q, h4] at h
      cases h
  refine ⟨h1, ?_⟩
  unfold y_end
  rw [show L - p = (L - (p + 1)) + 1 by omega]
  show (if P (y_by L T p) = true then y_wh P L T (L - (p + 1)) (p + 1) else p) = _
  rw [if_pos h]
theorem y_end_stop {P : Int32 → Bool} {L : Nat} {T : Nat → Int32} {p : Nat} (h : P (y_by L T p) = false) : y_end P L T p = p := by
  unfold y_end
  cases L - p with
  | zero => rfl
  | succ m =>
    show (if P (y_by L T p) = true then y_wh P L T m (p + 1) else p) = p
    rw [h, if_neg (by decide)]
theorem y_wh_in (P : Int32 → Bool) (L : Nat) (T : Nat → Int32) : ∀ m p, p ≤ y_wh P L T m p ∧ y_wh P L T m p ≤ p + m
  | 0, p => ⟨Nat.le_refl _, Nat.le_refl _⟩
  | m + 1, p => by
    have h := y_wh_in P L T m (p + 1)
    have e : y_wh P L T (m + 1) p = if P (y_by L T p) = true then y_wh P L T m (p + 1) else p := rfl
    rw [e]
    split <;> omega
theorem y_end_in (P : Int32 → Bool) {L : Nat} (T : Nat → Int32) {p : Nat} (h : p ≤ L) : p ≤ y_end P L T p ∧ y_end P L T p ≤ L := by
  have := y_wh_in P L T (L - p) p
  unfold y_end
  omega
theorem y_end_at {P : Int32 → Bool} {L : Nat} {T : Nat → Int32} (h4 : P (-4) = false) : ∀ m p, L ≤ p + m → P (y_by L T (y_end P L T p)) = false
  | 0, p, h => by
    have e : P (y_by L T p) = false := by
      unfold y_by
      rw [if_neg (by omega)]
      exact h4
    rw [y_end_stop e]
    exact e
  | m + 1, p, h => by
    cases q : P (y_by L T p) with
    | false => rw [y_end_stop q]; exact q
    | true => rw [(y_end_go h4 q).2]; exact y_end_at h4 m (p + 1) (by omega)
theorem y_end_lt {P : Int32 → Bool} {L : Nat} {T : Nat → Int32} {p : Nat} (h4 : P (-4) = false) (h : P (y_by L T p) = true) : p < y_end P L T p := by
  obtain ⟨h1, h2⟩ := y_end_go h4 h
  have := (y_end_in P T (show p + 1 ≤ L by omega)).1
  omega
def y_bl (x : Int32) : Bool := decide (x = 32)
def y_le (x : Int32) : Bool := z_ib x 97 122
def y_fi (x : Int32) : Bool := z_ib x 48 57
theorem y_bl4 : y_bl (-4) = false := by decide
theorem y_le4 : y_le (-4) = false := by decide
theorem y_fi4 : y_fi (-4) = false := by decide
/-- a TOKEN from p on: its first byte, what it begins with, the place behind it, its sort (0 none, 1 NAME, 2 NUMBER, 3 ;, 4 the end) -/
def y_f (L : Nat) (T : Nat → Int32) (p : Nat) : Nat := y_end y_bl L T p
def y_c (L : Nat) (T : Nat → Int32) (p : Nat) : Int32 := y_by L T (y_f L T p)
def y_b (L : Nat) (T : Nat → Int32) (p : Nat) : Nat := if y_le (y_c L T p) = true then y_end y_le L T (y_f L T p) else if y_fi (y_c L T p) = true then y_end y_fi L T (y_f L T p) else if y_f L T p < L then y_f L T p + 1 else y_f L T p
def y_k (L : Nat) (T : Nat → Int32) (p : Nat) : Nat := if y_f L T p < L then (if y_le (y_c L T p) = true then 1 else if y_fi (y_c L T p) = true then (if y_b L T p - y_f L T p ≤ 2 then 2 else 0) else if y_c L T p = 59 then 3 else 0) else 4
def y_nv (T : Nat → Int32) (f : Nat) : Nat → Int32
  | 0 => 0
  | i + 1 => 10 * y_nv T f i + T (f + i) - 48
def y_v (L : Nat) (T : Nat → Int32) (p : Nat) : Int32 := y_nv T (y_f L T p) (y_b L T p - y_f L T p)
theorem y_f_in {L : Nat} (T : Nat → Int32) {p : Nat} (h : p ≤ L) : p ≤ y_f L T p ∧ y_f L T p ≤ L := y_end_in _ T h
theorem y_c_at {L : Nat} {T : Nat → Int32} {p : Nat} (h : y_f L T p < L) : y_c L T p = T (y_f L T p) := if_pos h
theorem y_c_end {L : Nat} {T : Nat → Int32} {p : Nat} (h : ¬ y_f L T p < L) : y_c L T p = -4 := if_neg h
theorem y_le_lt {L : Nat} {T : Nat → Int32} {p : Nat} (h : y_le (y_c L T p) = true) : y_f L T p < L := by
  by_cases q : y_f L T p < L
  · exact q
  · rw [y_c_end q, y_le4] at h
    cases h
theorem y_fi_lt {L : Nat} {T : Nat → Int32} {p : Nat} (h : y_fi (y_c L T p) = true) : y_f L T p < L := by
  by_cases q : y_f L T p < L
  · exact q
  · rw [y_c_end q, y_fi4] at h
    cases h
theorem y_b_in {L : Nat} (T : Nat → Int32) {p : Nat} (h : p ≤ L) : y_f L T p ≤ y_b L T p ∧ y_b L T p ≤ L ∧ (y_f L T p < L → y_f L T p < y_b L T p) := by
  have h1 := y_f_in T h
  have h2 := y_end_in y_le T h1.2
  have h3 := y_end_in y_fi T h1.2
  unfold y_b
  by_cases q1 : y_le (y_c L T p) = true
  · have := y_end_lt (p := y_f L T p) y_le4 q1
    rw [if_pos q1]
    omega
  · rw [if_neg q1]
    by_cases q2 : y_fi (y_c L T p) = true
    · have := y_end_lt (p := y_f L T p) y_fi4 q2
      rw [if_pos q2]
      omega
    · rw [if_neg q2]
      split <;> omega
theorem y_k_lt {L : Nat} {T : Nat → Int32} {p : Nat} (h : y_k L T p ≠ 4) : y_f L T p < L := by
  by_cases q : y_f L T p < L
  · exact q
  · unfold y_k at h
    rw [if_neg q] at h
    exact absurd rfl h
/-! FAULTS: the first met stays -/
def y_bm (e : Option (Nat × Nat)) (c f : Nat) : Option (Nat × Nat) := match e with
  | none => some (c, f)
  | some x => some x
def y_rd (L : Nat) (T : Nat → Int32) (p : Nat) (e : Option (Nat × Nat)) : Option (Nat × Nat) := if y_k L T p = 0 then y_bm e 1 (y_f L T p) else e
def y_nb (L : Nat) (T : Nat → Int32) (lo hi : Int) (p : Nat) (e : Option (Nat × Nat)) : Option (Nat × Nat) := if y_k L T p = 2 then (if z_ib (y_v L T p) lo hi = true then e else y_bm e 3 (y_f L T p)) else y_bm e 2 (y_f L T p)
def y_se (L : Nat) (T : Nat → Int32) (p : Nat) (e : Option (Nat × Nat)) : Option (Nat × Nat) := if y_k L T p = 3 then e else y_bm e 2 (y_f L T p)
def y_n1 (L : Nat) (T : Nat → Int32) (lo hi : Int) (p : Nat) (e : Option (Nat × Nat)) : Option (Nat × Nat) := y_nb L T lo hi p (y_rd L T p e)
def y_s1 (L : Nat) (T : Nat → Int32) (p : Nat) (e : Option (Nat × Nat)) : Option (Nat × Nat) := y_se L T p (y_rd L T p e)
def y_vv (L : Nat) (T : Nat → Int32) (lo : Int32) (p : Nat) : Int32 := if y_k L T p = 2 then y_v L T p else lo
theorem y_rd_s {L : Nat} {T : Nat → Int32} {p : Nat} (x : Nat × Nat) : y_rd L T p (some x) = some x := by unfold y_rd y_bm; split <;> rfl
theorem y_nb_s {L : Nat} {T : Nat → Int32} {lo hi : Int} {p : Nat} (x : Nat × Nat) : y_nb L T lo hi p (some x) = some x := by unfold y_nb y_bm; split; split <;> rfl; rfl
theorem y_se_s {L : Nat} {T : Nat → Int32} {p : Nat} (x : Nat × Nat) : y_se L T p (some x) = some x := by unfold y_se y_bm; split <;> rfl
theorem y_n1_s {L : Nat} {T : Nat → Int32} {lo hi : Int} {p : Nat} (x : Nat × Nat) : y_n1 L T lo hi p (some x) = some x := by unfold y_n1; rw [y_rd_s, y_nb_s]
theorem y_s1_s {L : Nat} {T : Nat → Int32} {p : Nat} (x : Nat × Nat) : y_s1 L T p (some x) = some x := by unfold y_s1; rw [y_rd_s, y_se_s]
theorem y_rd_n {L : Nat} {T : Nat → Int32} {p : Nat} (e : Option (Nat × Nat)) (h : y_k L T p ≠ 0) : y_rd L T p e = e := if_neg h
theorem y_n1_none {L : Nat} {T : Nat → Int32} {lo hi : Int} {p : Nat} {e : Option (Nat × Nat)} (h : y_n1 L T lo hi p e = none) : e = none ∧ y_k L T p = 2 ∧ z_ib (y_v L T p) lo hi = true := by
  cases e with
  | some x => rw [y_n1_s] at h; cases h
  | none =>
    refine ⟨rfl, ?_⟩
    by_cases q : y_k L T p = 2
    · unfold y_n1 at h
      rw [y_rd_n _ (by rw [q]; decide)] at h
      unfold y_nb at h
      rw [if_pos q] at h
      refine ⟨q, ?_⟩
      by_cases q2 : z_ib (y_v L T p) lo hi = true
      · exact q2
      · rw [if_neg q2] at h
        cases h
    · unfold y_n1 y_nb y_rd y_bm at h
      rw [if_neg q] at h
      split at h <;> cases h
theorem y_s1_none {L : Nat} {T : Nat → Int32} {p : Nat} {e : Option (Nat × Nat)} (h : y_s1 L T p e = none) : e = none ∧ y_k L T p = 3 := by
  cases e with
  | some x => rw [y_s1_s] at h; cases h
  | none =>
    refine ⟨rfl, ?_⟩
    unfold y_s1 y_se y_rd y_bm at h
    by_cases q : y_k L T p = 3
    · exact q
    · rw [if_neg q] at h
      split at h <;> cases h
/-! the words -/
def y_sp (T : Nat → Int32) (f b : Nat) (w : List Int32) : Bool := decide (b - f = w.length) && pm_eqs T f w
def y_wf (T : Nat → Int32) (f b : Nat) : List (List Int32) → Nat → Nat
  | [], k => k
  | w :: ws, k => if y_sp T f b w = true then k else y_wf T f b ws (k + 1)
def y_wd (L : Nat) (T : Nat → Int32) (p : Nat) : Nat := if y_k L T p = 1 then y_wf T (y_f L T p) (y_b L T p) pm_words 0 else 7
/-! a line: its fault, the page, whether drag is told, the place behind it -/
def y_line (L : Nat) (T : Nat → Int32) (p : Nat) (g : z_P) (dt : Bool) : Option (Nat × Nat) × z_P × Bool × Nat :=
  if y_wd L T p = 7 then (y_bm (y_rd L T p none) 2 (y_f L T p), g, dt, y_b L T p)
  else if y_wd L T p = 4 then (y_s1 L T (y_b L T (y_b L T p)) (y_n1 L T 0 3 (y_b L T p) (if dt = true then some (4, y_f L T p) else none)), z_up g 50 (y_vv L T 0 (y_b L T p)), true, y_b L T (y_b L T (y_b L T p)))
  else if y_wd L T p = 5 ∨ y_wd L T p = 6 then (y_s1 L T (y_b L T (y_b L T (y_b L T p))) (y_n1 L T 0 9 (y_b L T (y_b L T p)) (y_n1 L T 0 3 (y_b L T p) (if z_k g = 12 then some (5, y_f L T p) else none))), z_add1 g (y_vv L T 0 (y_b L T p)) (if y_wd L T p = 6 then - y_vv L T 0 (y_b L T (y_b L T p)) else y_vv L T 0 (y_b L T (y_b L T p))), dt, y_b L T (y_b L T (y_b L T (y_b L T p))))
  else (y_s1 L T (y_b L T (y_b L T (y_b L T (y_b L T p)))) (y_n1 L T 1 9 (y_b L T (y_b L T (y_b L T p))) (y_n1 L T 0 9 (y_b L T (y_b L T p)) (y_n1 L T 0 60 (y_b L T p) (if z_n g = 4 then some (5, y_f L T p) else none)))), z_bind g (nI (y_wd L T p)) (y_vv L T 0 (y_b L T p)) (y_vv L T 0 (y_b L T (y_b L T p))) (y_vv L T 1 (y_b L T (y_b L T (y_b L T p)))), dt, y_b L T (y_b L T (y_b L T (y_b L T (y_b L T p)))))
/-- all lines from p on: the first fault, the page, how many -/
def y_go (L : Nat) (T : Nat → Int32) : Nat → Nat → z_P → Bool → Nat → Option (Nat × Nat) × z_P × Nat
  | 0, _, g, _, n => (none, g, n)
  | m + 1, p, g, dt, n => if y_k L T p = 4 then (none, g, n) else match y_line L T p g dt with
    | (some x, _, _, _) => (some x, g, n)
    | (none, g', dt', p') => y_go L T m p' g' dt' (n + 1)
def r_text (z : z_Z) : Int32 × z_Z := match y_go (zL z) (zT z) (zL z + 1) 0 (fun _ => 0) false 0 with
  | (some (c, f), _, _) => (-10 - nI f, uF (uT z 0 (zT z)) (nI c))
  | (none, g, n) => (nI n, (g, fun _ => false, zI z, 0, zT z, 0, 0, zS z, zH z, zE z, zR z))
theorem y_wf_le (T : Nat → Int32) (f b : Nat) : ∀ ws k, k ≤ y_wf T f b ws k ∧ y_wf T f b ws k ≤ k + ws.length
  | [], k => ⟨Nat.le_refl _, Nat.le_refl _⟩
  | w :: ws, k => by
    have h := y_wf_le T f b ws (k + 1)
    have e : y_wf T f b (w :: ws) k = if y_sp T f b w = true then k else y_wf T f b ws (k + 1) := rfl
    rw [e, List.length_cons]
    split <;> omega
theorem y_wd_le (L : Nat) (T : Nat → Int32) (p : Nat) : y_wd L T p ≤ 7 := by
  unfold y_wd
  split
  · have := (y_wf_le T (y_f L T p) (y_b L T p) pm_words 0).2
    exact this
  · exact Nat.le_refl _
theorem y_wd_k {L : Nat} {T : Nat → Int32} {p : Nat} (h : y_wd L T p ≠ 7) : y_k L T p = 1 := by
  unfold y_wd at h
  by_cases q : y_k L T p = 1
  · exact q
  · rw [if_neg q] at h
    exact absurd rfl h
/-- the place behind a line -/
theorem y_line_p {L : Nat} {T : Nat → Int32} {p : Nat} {g : z_P} {dt : Bool} (h : p ≤ L) : (y_line L T p g dt).2.2.2 ≤ L ∧ (y_k L T p ≠ 4 → p < (y_line L T p g dt).2.2.2) := by
  have h0 := y_f_in T h
  have h1 := y_b_in T h
  have k1 := y_f_in T h1.2.1
  have h2 := y_b_in T h1.2.1
  have k2 := y_f_in T h2.2.1
  have h3 := y_b_in T h2.2.1
  have k3 := y_f_in T h3.2.1
  have h4 := y_b_in T h3.2.1
  have k4 := y_f_in T h4.2.1
  have h5 := y_b_in T h4.2.1
  have hk : y_k L T p ≠ 4 → p < y_b L T p := fun q => by have := h1.2.2 (y_k_lt q); omega
  unfold y_line
  split
  · exact ⟨h1.2.1, hk⟩
  · split
    · exact ⟨h3.2.1, fun q => by have := hk q; show p < y_b L T (y_b L T (y_b L T p)); omega⟩
    · split
      · exact ⟨h4.2.1, fun q => by have := hk q; show p < y_b L T (y_b L T (y_b L T (y_b L T p))); omega⟩
      · exact ⟨h5.2.1, fun q => by have := hk q; show p < y_b L T (y_b L T (y_b L T (y_b L T (y_b L T p)))); omega⟩
/-! the pages that a text tells -/
def y_I (g : z_P) : Prop := z_G 9999 g ∧ (∀ j, 20 ≤ j → j < 24 → g j = 0) ∧ (z_last g).toInt ≤ 60 * (z_n g : Int)
theorem y_I_0 : y_I (fun _ => 0) := by
  refine ⟨⟨rfl, by decide, rfl, by decide, ⟨by decide, by decide⟩, ⟨by decide, by decide⟩, fun b hb => ?_, fun b hb => ?_⟩, fun _ _ _ => rfl, by decide⟩
  · exact absurd hb (Nat.not_lt_zero _)
  · exact absurd hb (Nat.not_lt_zero _)
