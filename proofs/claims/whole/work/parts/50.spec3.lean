/-! ===== the public methods: what is best ===== -/
/-- the first of so many, from v on, by which f is least, and how much, ahead of (w, l) -/
def z_bst (f : Nat → Int32) : Nat → Nat → Int32 → Int32 → Int32 × Int32
  | 0, _, w, l => (w, l)
  | m + 1, v, w, l => if f v < l then z_bst f m (v + 1) (nI v) (f v) else z_bst f m (v + 1) w l
def z_tw (g : z_P) (t b n : Nat) (v : Nat) : Int32 := z_wid (z_up g (4 * t + b) (nI v)) n
def z_pk (q : Int32 × Int32) (w : Int32) : Int32 := if w = 0 then q.1 else q.2
def z_loN (t : Nat) : Nat := if t = 3 then 1 else 0
def z_hiN (t : Nat) : Nat := match t with | 0 => 3 | 1 => 60 | 2 => 9 | _ => 9
def r_best (t : Nat) (z : z_Z) (b n w : Int32) : Int32 × z_Z := (if (z_isb (zG z) b && (z_ib n 0 100 && z_ib w 0 1)) = true then z_pk (z_bst (z_tw (zG z) t (z_nt b) (z_nt n)) (z_hiN t - z_loN t + 1) (z_loN t) (nI (z_loN t)) 301) w else -1, z)
/-- two knocks -/
def z_bin (f : Nat → Nat → Int32) (i : Nat) : Nat → Nat → Int32 → Int32 → Int32 × Int32
  | 0, _, w, l => (w, l)
  | m + 1, j, w, l => if f i j < l then z_bin f i m (j + 1) (100 * nI i + nI j) (f i j) else z_bin f i m (j + 1) w l
def z_bout (f : Nat → Nat → Int32) (k : Nat) : Nat → Nat → Int32 → Int32 → Int32 × Int32
  | 0, _, w, l => (w, l)
  | m + 1, i, w, l => z_bout f k m (i + 1) (z_bin f i (k - (i + 1)) (i + 1) w l).1 (z_bin f i (k - (i + 1)) (i + 1) w l).2
def z_pk2 (q : Int32 × Int32) (w : Int32) : Int32 := if q.1 = -4 ∨ w = 0 then q.1 else q.2
def r_swap (z : z_Z) (n w : Int32) : Int32 × z_Z := (if (z_ib n 0 100 && z_ib w 0 1) = true then z_pk2 (z_bout (fun i j => z_wid (z_swp (zG z) i j) (z_nt n)) (z_k (zG z)) (z_k (zG z)) 0 (-4) (z_wid (zG z) (z_nt n))) w else -1, z)
def r_miss (z : z_Z) (n w : Int32) : Int32 × z_Z := (if (z_ib n 0 100 && z_ib w 0 1) = true then z_pk2 (z_bst (fun i => z_wid (z_up (zG z) (37 + i) 0) (z_nt n)) (z_k (zG z)) 0 (-4) (z_wid (zG z) (z_nt n))) w else -1, z)
/-! pages that are tried -/
theorem z_G.put {T : Int} {g : z_P} (h : z_G T g) {w b : Nat} {v : Int32} (hw : w ≤ 4) (hb : b < z_n g) (hv : z_good (nI w) v = true) : z_G T (z_up g (4 * w + b) v) ∧ z_n (z_up g (4 * w + b) v) = z_n g ∧ z_k (z_up g (4 * w + b) v) = z_k g := by
  obtain ⟨a1, a2, a3, a4, a5, a6, a7, a8⟩ := h
  have n1 : z_n (z_up g (4 * w + b) v) = z_n g := z_n_up (by omega)
  have n2 : z_k (z_up g (4 * w + b) v) = z_k g := z_k_up (by omega)
  rw [z_good_t hw] at hv
  have hv := z_ib_iff.mp hv
  refine ⟨⟨by rw [n1, z_up_ne g v (by omega)]; exact a1, by rw [n1]; exact a2, by rw [n2, z_up_ne g v (by omega)]; exact a3, by rw [n2]; exact a4, by rw [z_up_ne g v (by omega)]; exact a5, by rw [z_up_ne g v (by omega)]; exact a6, fun c hc => ?_, fun i hi => ?_⟩, n1, n2⟩
  · rw [n1] at hc
    obtain ⟨b1, b2, b3, b4, b5, b6⟩ := a7 c hc
    have key : ∀ (u : Nat) (lo hi : Int), u ≤ 5 → (u = w → z_lo w = lo ∧ z_hi w = hi) → z_in (g (4 * u + c)) lo hi → z_in (z_up g (4 * w + b) v (4 * u + c)) lo hi := by
      intro u lo hi hu hq hg
      by_cases e : 4 * u + c = 4 * w + b
      · have e2 : u = w := by omega
        obtain ⟨q1, q2⟩ := hq e2
        rw [e, z_up_at]
        exact ⟨by omega, by omega⟩
      · rw [z_up_ne g v e]; exact hg
    have k0 := key 0 0 3 (by omega) (fun e => by subst e; exact ⟨rfl, rfl⟩) (by simpa using b1)
    have k1 := key 1 0 60 (by omega) (fun e => by subst e; exact ⟨rfl, rfl⟩) b2
    have k2 := key 2 0 9 (by omega) (fun e => by subst e; exact ⟨rfl, rfl⟩) b3
    have k3 := key 3 1 9 (by omega) (fun e => by subst e; exact ⟨rfl, rfl⟩) b4
    have k4 := key 4 0 300 (by omega) (fun e => by subst e; exact ⟨rfl, rfl⟩) b5
    have k5 := key 5 (-40) 40 (by omega) (fun e => by omega) b6
    rw [Nat.mul_zero, Nat.zero_add] at k0
    exact ⟨k0, k1, k2, k3, k4, k5⟩
  · rw [n2] at hi
    rw [z_up_ne g v (by omega), z_up_ne g v (by omega)]
    exact a8 i hi
theorem z_last_up {g : z_P} {q : Nat} {v : Int32} (hq : q < 16 ∨ (24 < q)) (hn : z_n g ≤ 4) : z_last (z_up g q v) = z_last g := by
  unfold z_last
  rw [z_n_up (by omega)]
  split
  · rfl
  · rw [z_up_ne g v (by omega)]
theorem z_R_putc {D : pm_Mem} {c w b : Nat} {g : z_P} {v : Int32} (h : z_R D c g) (hn : z_n g ≤ 4) (hw : w ≤ 4) (hb : b < z_n g) : z_R (pm_mu D (c + 1 + w) b v) c (z_up g (4 * w + b) v) := by
  obtain ⟨a1, a2, a3, a4, a5, a6⟩ := h
  refine ⟨?_, ?_, ?_, ?_, fun j hj => ?_, fun i hi => ?_⟩
  · rw [pm_mu_ne D b v (by omega), z_up_ne g v (by omega)]; exact a1
  · rw [pm_mu_ne D b v (by omega), z_up_ne g v (by omega)]; exact a2
  · rw [pm_mu_ne D b v (by omega), z_up_ne g v (by omega)]; exact a3
  · rw [pm_mu_ne D b v (by omega), z_up_ne g v (by omega)]; exact a4
  · rw [z_n_up (by omega)] at hj
    obtain ⟨b1, b2, b3, b4, b5, b6⟩ := a5 j hj
    have key : ∀ (u : Nat), u ≤ 5 → D (c + 1 + u) j = g (4 * u + j) → pm_mu D (c + 1 + w) b v (c + 1 + u) j = z_up g (4 * w + b) v (4 * u + j) := by
      intro u hu hg
      rw [pm_mu_eq]
      by_cases e : u = w
      · subst e
        rw [if_pos rfl]
        by_cases e2 : j = b
        · rw [if_pos e2, e2, z_up_at]
        · rw [if_neg e2, z_up_ne g v (by omega)]; exact hg
      · rw [if_neg (by omega), z_up_ne g v (by omega)]; exact hg
    have c0 := key 0 (by omega) (by simpa using b1)
    have c1 := key 1 (by omega) b2
    have c2 := key 2 (by omega) b3
    have c3 := key 3 (by omega) b4
    have c4 := key 4 (by omega) b5
    have c5 := key 5 (by omega) b6
    rw [Nat.mul_zero, Nat.zero_add] at c0
    exact ⟨c0, c1, c2, c3, c4, c5⟩
  · rw [z_k_up (by omega)] at hi
    obtain ⟨b1, b2⟩ := a6 i hi
    exact ⟨by rw [pm_mu_ne D b v (by omega), z_up_ne g v (by omega)]; exact b1, by rw [pm_mu_ne D b v (by omega), z_up_ne g v (by omega)]; exact b2⟩
theorem z_row10 {N w : Nat} (hw : w ≤ 4) : pm_sh N (10 + 1 + w) = (0, 4, []) := by
  have h5 : w = 0 ∨ w = 1 ∨ w = 2 ∨ w = 3 ∨ w = 4 := by omega
  rcases h5 with rfl | rfl | rfl | rfl | rfl <;> rfl
/-- the first is always taken -/
theorem z_bst_1 {f : Nat → Int32} {m v : Nat} {w w' l l' : Int32} (h1 : f v < l) (h2 : f v < l') : z_bst f (m + 1) v w l = z_bst f (m + 1) v w' l' := by
  show (if f v < l then _ else _) = (if f v < l' then _ else _)
  rw [if_pos h1, if_pos h2]
theorem z_G.swp {T : Int} {g : z_P} (h : z_G T g) {i j : Nat} (hij : i < j) (hj : j < z_k g) : z_G T (z_swp g i j) ∧ z_n (z_swp g i j) = z_n g ∧ z_k (z_swp g i j) = z_k g ∧ z_last (z_swp g i j) = z_last g := by
  obtain ⟨a1, a2, a3, a4, a5, a6, a7, a8⟩ := h
  have lo : ∀ q, q ≠ 25 + i → q ≠ 37 + i → q ≠ 25 + j → q ≠ 37 + j → z_swp g i j q = g q := by
    intro q h1 h2 h3 h4
    unfold z_swp
    rw [z_up_ne _ _ h4, z_up_ne _ _ h3, z_up_ne _ _ h2, z_up_ne _ _ h1]
  have n1 : z_n (z_swp g i j) = z_n g := by
    show (z_swp g i j 24).toNatClampNeg = _
    rw [lo 24 (by omega) (by omega) (by omega) (by omega)]
    rfl
  have n2 : z_k (z_swp g i j) = z_k g := by
    show (z_swp g i j 49).toNatClampNeg = _
    rw [lo 49 (by omega) (by omega) (by omega) (by omega)]
    rfl
  refine ⟨⟨by rw [n1, lo 24 (by omega) (by omega) (by omega) (by omega)]; exact a1, by rw [n1]; exact a2, by rw [n2, lo 49 (by omega) (by omega) (by omega) (by omega)]; exact a3, by rw [n2]; exact a4, by rw [lo 50 (by omega) (by omega) (by omega) (by omega)]; exact a5, by rw [lo 51 (by omega) (by omega) (by omega) (by omega)]; exact a6, fun b hb => ?_, fun q hq => ?_⟩, n1, n2, ?_⟩
  · rw [n1] at hb
    rw [lo b (by omega) (by omega) (by omega) (by omega), lo (4 + b) (by omega) (by omega) (by omega) (by omega), lo (8 + b) (by omega) (by omega) (by omega) (by omega), lo (12 + b) (by omega) (by omega) (by omega) (by omega), lo (16 + b) (by omega) (by omega) (by omega) (by omega), lo (20 + b) (by omega) (by omega) (by omega) (by omega)]
    exact a7 b hb
  · rw [n2] at hq
    unfold z_swp
    by_cases e1 : q = j
    · rw [e1, z_up_ne _ _ (by omega), z_up_at, z_up_at]
      exact a8 i (by omega)
    · by_cases e2 : q = i
      · rw [e2, z_up_ne _ _ (by omega), z_up_ne _ _ (by omega), z_up_ne _ _ (by omega), z_up_at, z_up_ne _ _ (by omega), z_up_ne _ _ (by omega), z_up_at]
        exact a8 j hj
      · rw [z_up_ne _ _ (by omega), z_up_ne _ _ (by omega), z_up_ne _ _ (by omega), z_up_ne _ _ (by omega), z_up_ne _ _ (by omega), z_up_ne _ _ (by omega), z_up_ne _ _ (by omega), z_up_ne _ _ (by omega)]
        exact a8 q hq
  · unfold z_last
    rw [n1]
    split
    · rfl
    · rw [lo _ (by omega) (by omega) (by omega) (by omega)]
theorem z_G.by0 {T : Int} {g : z_P} (h : z_G T g) {i : Nat} (hi : i < z_k g) : z_G T (z_up g (37 + i) 0) ∧ z_n (z_up g (37 + i) 0) = z_n g ∧ z_k (z_up g (37 + i) 0) = z_k g := by
  obtain ⟨a1, a2, a3, a4, a5, a6, a7, a8⟩ := h
  have n1 : z_n (z_up g (37 + i) 0) = z_n g := z_n_up (by omega)
  have n2 : z_k (z_up g (37 + i) 0) = z_k g := z_k_up (by omega)
  refine ⟨⟨by rw [n1, z_up_ne g _ (by omega)]; exact a1, by rw [n1]; exact a2, by rw [n2, z_up_ne g _ (by omega)]; exact a3, by rw [n2]; exact a4, by rw [z_up_ne g _ (by omega)]; exact a5, by rw [z_up_ne g _ (by omega)]; exact a6, fun b hb => ?_, fun q hq => ?_⟩, n1, n2⟩
  · rw [n1] at hb
    rw [z_up_ne g _ (show b ≠ 37 + i by omega), z_up_ne g _ (show 4 + b ≠ 37 + i by omega), z_up_ne g _ (show 8 + b ≠ 37 + i by omega), z_up_ne g _ (show 12 + b ≠ 37 + i by omega), z_up_ne g _ (show 16 + b ≠ 37 + i by omega), z_up_ne g _ (show 20 + b ≠ 37 + i by omega)]
    exact a7 b hb
  · rw [n2] at hq
    rw [z_up_ne g _ (by omega)]
    by_cases e : q = i
    · rw [e, z_up_at]
      exact ⟨(a8 i hi).1, ⟨by decide, by decide⟩⟩
    · rw [z_up_ne g _ (by omega)]
      exact a8 q hq
