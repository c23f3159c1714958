/-! ===== WHAT IS MEANT: a page of numbers (as the reference lays it), what a tick does to it ===== -/
/-- a page: kinds 0.., rests 4.., stiffs 8.., masses 12.., places 16.., speeds 20.., beads 24, knocks' beads 25.., by how much 37.., knocks 49, drag 50, tick 51 -/
abbrev z_P : Type := Nat → Int32
def z_in (x : Int32) (a b : Int) : Prop := a ≤ x.toInt ∧ x.toInt ≤ b
def z_n (g : z_P) : Nat := (g 24).toNatClampNeg
def z_k (g : z_P) : Nat := (g 49).toNatClampNeg
def z_st (g : z_P) (b : Nat) : Int32 := g (16 + b) - (if b = 0 then 0 else g (15 + b)) - g (4 + b)
def z_pull (g : z_P) (b : Nat) : Int32 := if (g b = 1 ∧ z_st g b < 0) ∨ (g b = 2 ∧ 0 < z_st g b) ∨ (g b = 3 ∧ -5 ≤ z_st g b ∧ z_st g b ≤ 5) then 0 else g (8 + b) * z_st g b
def z_pn (g : z_P) (b : Nat) : Int32 := if b < z_n g then z_pull g b else 0
def z_clamp (v : Int32) : Int32 := if 40 < v then 40 else if v < -40 then -40 else v
def z_slow (v d : Int32) : Int32 := if d < v then v - d else if v < -d then v + d else 0
/-- the speed by which bead b goes -/
def z_ns (g : z_P) (b : Nat) : Int32 := z_clamp (z_slow (g (20 + b) + (z_pn g (b + 1) - z_pull g b) / (10 * g (12 + b))) (g 50))
def z_to (g : z_P) (b : Nat) : Int32 := g (16 + b) + z_ns g b
/-- where bead b goes, with what speed it stays -/
def z_np (g : z_P) (b : Nat) : Int32 := if z_to g b < 0 then 0 else if 300 < z_to g b then 300 else z_to g b
def z_fs (g : z_P) (b : Nat) : Int32 := if z_to g b < 0 ∨ 300 < z_to g b then 0 else z_ns g b
/-- the first n beads have gone -/
def z_mv (g : z_P) (n : Nat) : z_P := fun k => if 16 ≤ k ∧ k < 16 + n then z_np g (k - 16) else if 20 ≤ k ∧ k < 20 + n then z_fs g (k - 20) else g k
def z_up (g : z_P) (k : Nat) (v : Int32) : z_P := fun j => if j = k then v else g j
def z_move (g : z_P) : z_P := z_up (z_mv g (z_n g)) 51 (g 51 + 1)
abbrev z_abs (v : Int32) : Int32 := pm_abs v
def z_gone (g : z_P) : Nat → Int32
  | 0 => 0
  | b + 1 => z_gone g b + z_abs (z_np g b - g (16 + b))
def z_stop (g : z_P) : Nat → Int32
  | 0 => 0
  | b + 1 => z_stop g b + (if z_to g b < 0 ∨ 300 < z_to g b then 1 else 0)
/-- whether one of the first n beads goes, or its speed changes -/
def z_stir (g : z_P) (n : Nat) : Prop := ∃ b, b < n ∧ (z_np g b ≠ g (16 + b) ∨ z_fs g b ≠ g (20 + b))
def z_hit (g : z_P) (b : Int32) (by_ : Int32) : z_P := if 0 ≤ b ∧ b < g 24 then z_up g (20 + b.toNatClampNeg) (z_clamp (g (20 + b.toNatClampNeg) + by_)) else g
/-- the number of the knock whose turn it is -/
def z_turn (g : z_P) : Nat := (g 51).toNatClampNeg % z_k g
def z_plan (g : z_P) : z_P := if z_k g = 0 then g else z_hit g (g (25 + z_turn g)) (g (37 + z_turn g))
def z_tick (g : z_P) : z_P := z_move (z_plan g)
def z_last (g : z_P) : Int32 := if z_n g = 0 then 0 else g (15 + z_n g)
/-- a page as it should be; its tick is T at most -/
def z_G (T : Int) (g : z_P) : Prop := g 24 = nI (z_n g) ∧ z_n g ≤ 4 ∧ g 49 = nI (z_k g) ∧ z_k g ≤ 12 ∧ z_in (g 50) 0 3 ∧ z_in (g 51) 0 T ∧
  (∀ b, b < z_n g → z_in (g b) 0 3 ∧ z_in (g (4 + b)) 0 60 ∧ z_in (g (8 + b)) 0 9 ∧ z_in (g (12 + b)) 1 9 ∧ z_in (g (16 + b)) 0 300 ∧ z_in (g (20 + b)) (-40) 40) ∧ ∀ i, i < z_k g → z_in (g (25 + i)) 0 3 ∧ z_in (g (37 + i)) (-9) 9
/-- the chain at cell c holds the page, as far as it has beads and knocks -/
def z_R (D : pm_Mem) (c : Nat) (g : z_P) : Prop := D c 0 = g 24 ∧ D c 1 = g 49 ∧ D c 2 = g 50 ∧ D c 3 = g 51 ∧
  (∀ b, b < z_n g → D (c + 1) b = g b ∧ D (c + 2) b = g (4 + b) ∧ D (c + 3) b = g (8 + b) ∧ D (c + 4) b = g (12 + b) ∧ D (c + 5) b = g (16 + b) ∧ D (c + 6) b = g (20 + b)) ∧ ∀ i, i < z_k g → D (c + 7) i = g (25 + i) ∧ D (c + 8) i = g (37 + i)
/-- nothing but the chain at c has changed -/
def z_F (c : Nat) (D D' : pm_Mem) : Prop := ∀ r, r < c ∨ c + 10 ≤ r → D' r = D r
/-! numbers -/
theorem z_le {x y : Int32} : x ≤ y ↔ x.toInt ≤ y.toInt := Int32.le_iff_toInt_le
theorem z_lt {x y : Int32} : x < y ↔ x.toInt < y.toInt := Int32.lt_iff_toInt_lt
theorem z_eq {x y : Int32} : x = y ↔ x.toInt = y.toInt := Int32.toInt_inj.symm
theorem z_tI {n : Nat} (h : n < 2 ^ 31) : (nI n).toInt = (n : Int) := nI_toInt h
theorem z_add {x y : Int32} (h1 : -2147483648 ≤ x.toInt + y.toInt) (h2 : x.toInt + y.toInt ≤ 2147483647) : (x + y).toInt = x.toInt + y.toInt := by
  rw [Int32.toInt_add]
  exact Int.bmod_eq_of_le (by omega) (by omega)
theorem z_sub {x y : Int32} (h1 : -2147483648 ≤ x.toInt - y.toInt) (h2 : x.toInt - y.toInt ≤ 2147483647) : (x - y).toInt = x.toInt - y.toInt := by
  rw [Int32.toInt_sub]
  exact Int.bmod_eq_of_le (by omega) (by omega)
theorem z_mul {x y : Int32} (h1 : -2147483648 ≤ x.toInt * y.toInt) (h2 : x.toInt * y.toInt ≤ 2147483647) : (x * y).toInt = x.toInt * y.toInt := by
  rw [Int32.toInt_mul]
  exact Int.bmod_eq_of_le (by omega) (by omega)
theorem z_cl {x : Int32} : x.toNatClampNeg = x.toInt.toNat := rfl
theorem z_of {x : Int32} {a b : Int} (h : z_in x a b) (ha : 0 ≤ a) (hb : b < 2147483648) : ∃ n : Nat, x = nI n ∧ a ≤ n ∧ (n : Int) ≤ b ∧ x.toNatClampNeg = n := by
  refine ⟨x.toInt.toNat, ?_, ?_, ?_, rfl⟩
  · rw [z_eq, z_tI]
    · have := h.1; omega
    · have := h.1; have := h.2; omega
  · have := h.1; omega
  · have := h.1; have := h.2; omega
theorem z_up_at (g : z_P) (k : Nat) (v : Int32) : z_up g k v k = v := if_pos rfl
theorem z_up_ne (g : z_P) {k j : Nat} (v : Int32) (h : j ≠ k) : z_up g k v j = g j := if_neg h
/-! the machine -/
def pm_up (N : Nat) (Ga : pm_Ga) : pm_Ga := fun j as D post => pm_WP N Ga (pm_mj j) as D post
def pm_chs : List Nat := [0, 10, 20, 30]
theorem pm_chs_of {c : Nat} (h : c ∈ pm_chs) : c = 0 ∨ c = 10 ∨ c = 20 ∨ c = 30 := by simpa [pm_chs] using h
theorem pm_mu_eq (D : pm_Mem) (r k : Nat) (v : Int32) (r' k' : Nat) : pm_mu D r k v r' k' = if r' = r then (if k' = k then v else D r' k') else D r' k' := rfl
theorem pm_mu_at (D : pm_Mem) (r k : Nat) (v : Int32) : pm_mu D r k v r k = v := by simp [pm_mu]
theorem pm_mu_r (D : pm_Mem) {r q : Nat} (k j : Nat) (v : Int32) (h : q ≠ r) : pm_mu D r k v q j = D q j := by simp [pm_mu, h]
theorem pm_mu_k (D : pm_Mem) (r q : Nat) {k j : Nat} (v : Int32) (h : j ≠ k) : pm_mu D r k v q j = D q j := by simp [pm_mu, h]
