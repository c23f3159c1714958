/-! ===== the memory behind the constructors ===== -/
def iz_W4 (cI cB cZ cG : ClassId) (h : Nat) (a : Nat → Nat) : va_W := [(h, .inr (4, [.ref (a 0), .ref (a 10), .ref (a 20), .ref (a 30), .ref (a 40), .ref (a 41), .ref (a 43), .ref (a 47), .ref (a 55), .int 0])), ((a 0), .inr (0, [.int 0, .int 0, .int 0, .int 0, .ref (a 1), .ref (a 2), .ref (a 3), .ref (a 4), .ref (a 5), .ref (a 6), .ref (a 7), .ref (a 8), .ref (a 9), .int 0, .int 0, .int 0])), ((a 1), .inl (cI, 4, .inl (fun _ => 0))), ((a 2), .inl (cI, 4, .inl (fun _ => 0))), ((a 3), .inl (cI, 4, .inl (fun _ => 0))), ((a 4), .inl (cI, 4, .inl (fun _ => 0))), ((a 5), .inl (cI, 4, .inl (fun _ => 0))), ((a 6), .inl (cI, 4, .inl (fun _ => 0))), ((a 7), .inl (cI, 12, .inl (fun _ => 0))), ((a 8), .inl (cI, 12, .inl (fun _ => 0))), ((a 9), .inl (cI, 5, .inl (fun _ => 0))), ((a 10), .inr (0, [.int 0, .int 0, .int 0, .int 0, .ref (a 11), .ref (a 12), .ref (a 13), .ref (a 14), .ref (a 15), .ref (a 16), .ref (a 17), .ref (a 18), .ref (a 19), .int 0, .int 0, .int 0])), ((a 11), .inl (cI, 4, .inl (fun _ => 0))), ((a 12), .inl (cI, 4, .inl (fun _ => 0))), ((a 13), .inl (cI, 4, .inl (fun _ => 0))), ((a 14), .inl (cI, 4, .inl (fun _ => 0))), ((a 15), .inl (cI, 4, .inl (fun _ => 0))), ((a 16), .inl (cI, 4, .inl (fun _ => 0))), ((a 17), .inl (cI, 12, .inl (fun _ => 0))), ((a 18), .inl (cI, 12, .inl (fun _ => 0))), ((a 19), .inl (cI, 5, .inl (fun _ => 0))), ((a 20), .inr (0, [.int 0, .int 0, .int 0, .int 0, .ref (a 21), .ref (a 22), .ref (a 23), .ref (a 24), .ref (a 25), .ref (a 26), .ref (a 27), .ref (a 28), .ref (a 29), .int 0, .int 0, .int 0])), ((a 21), .inl (cI, 4, .inl (fun _ => 0))), ((a 22), .inl (cI, 4, .inl (fun _ => 0))), ((a 23), .inl (cI, 4, .inl (fun _ => 0))), ((a 24), .inl (cI, 4, .inl (fun _ => 0))), ((a 25), .inl (cI, 4, .inl (fun _ => 0))), ((a 26), .inl (cI, 4, .inl (fun _ => 0))), ((a 27), .inl (cI, 12, .inl (fun _ => 0))), ((a 28), .inl (cI, 12, .inl (fun _ => 0))), ((a 29), .inl (cI, 5, .inl (fun _ => 0))), ((a 30), .inr (0, [.int 0, .int 0, .int 0, .int 0, .ref (a 31), .ref (a 32), .ref (a 33), .ref (a 34), .ref (a 35), .ref (a 36), .ref (a 37), .ref (a 38), .ref (a 39), .int 0, .int 0, .int 0])), ((a 31), .inl (cI, 4, .inl (fun _ => 0))), ((a 32), .inl (cI, 4, .inl (fun _ => 0))), ((a 33), .inl (cI, 4, .inl (fun _ => 0))), ((a 34), .inl (cI, 4, .inl (fun _ => 0))), ((a 35), .inl (cI, 4, .inl (fun _ => 0))), ((a 36), .inl (cI, 4, .inl (fun _ => 0))), ((a 37), .inl (cI, 12, .inl (fun _ => 0))), ((a 38), .inl (cI, 12, .inl (fun _ => 0))), ((a 39), .inl (cI, 5, .inl (fun _ => 0))), ((a 40), .inl (cZ, 2, .inl (fun _ => 0))), ((a 41), .inr (3, [.ref (a 42), .int 0, .int 0, .int 0, .int 0, .int 0, .int 0, .int 0])), ((a 42), .inl (cB, 160, .inl (fun _ => 0))), ((a 43), .inr (1, [.int 0, .ref (a 44), .ref (a 45), .ref (a 46)])), ((a 44), .inl (cI, 6, .inl (fun _ => 0))), ((a 45), .inl (cI, 6, .inl (fun _ => 0))), ((a 46), .inl (cI, 6, .inl (fun _ => 0))), ((a 47), .inr (2, [.ref (a 48), .ref (a 53), .ref (a 54)])), ((a 48), .inl (cG, 4, .inr (.inr (.inr (.inr (fun i => if i < 4 then some (a (49 + i)) else none)))))), ((a 49), .inl (cI, 40, .inl (fun _ => 0))), ((a 50), .inl (cI, 40, .inl (fun _ => 0))), ((a 51), .inl (cI, 40, .inl (fun _ => 0))), ((a 52), .inl (cI, 40, .inl (fun _ => 0))), ((a 53), .inl (cI, 4, .inl (upd (upd (upd (upd (fun _ => 0) 0 (-1)) 1 (-1)) 2 (-1)) 3 (-1)))), ((a 54), .inl (cI, 4, .inl (fun _ => 0))), ((a 55), .inl (cG, 10, .inr (.inr (.inr (.inr (fun i => if i < 10 then some (a (56 + i)) else none)))))), ((a 56), .inl (cI, 41, .inl (fun _ => 0))), ((a 57), .inl (cI, 41, .inl (fun _ => 0))), ((a 58), .inl (cI, 41, .inl (fun _ => 0))), ((a 59), .inl (cI, 41, .inl (fun _ => 0))), ((a 60), .inl (cI, 41, .inl (fun _ => 0))), ((a 61), .inl (cI, 41, .inl (fun _ => 0))), ((a 62), .inl (cI, 41, .inl (fun _ => 0))), ((a 63), .inl (cI, 41, .inl (fun _ => 0))), ((a 64), .inl (cI, 41, .inl (fun _ => 0))), ((a 65), .inl (cI, 41, .inl (fun _ => 0)))]
def iz_W5 (cI cB cZ cG : ClassId) (h' : Nat) (a' : Nat → Nat) : va_W := [(h', .inr (5, [.ref (a' 0), .ref (a' 1), .int 0, .ref (a' 2), .int 0, .int 0, .int 0, .int 0, .int 0, .int 0, .int 0, .int 0, .ref (a' 3), .ref (a' 4), .int 0, .int 0, .int 0, .ref (a' 5), .int 0, .int (-4), .ref (a' 6), .int 0, .ref (a' 7), .ref (a' 8), .ref (a' 9), .ref (a' 10), .ref (a' 11), .int 0])), ((a' 0), .inl (cI, 312, .inl (fun _ => 0))), ((a' 1), .inl (cI, 52, .inl (fun _ => 0))), ((a' 2), .inl (cI, 160, .inl (fun _ => 0))), ((a' 3), .inl (cI, 8, .inl (upd (upd (upd (upd (upd (upd (upd (upd (fun _ => 0) 0 0) 1 5) 2 9) 3 14) 4 19) 5 23) 6 25) 7 29))), ((a' 4), .inl (cI, 29, .inl (upd (upd (upd (upd (upd (upd (upd (upd (upd (upd (upd (upd (upd (upd (upd (upd (upd (upd (upd (upd (upd (upd (upd (upd (upd (upd (upd (upd (upd (fun _ => 0) 0 112) 1 108) 2 97) 3 105) 4 110) 5 114) 6 111) 7 112) 8 101) 9 98) 10 108) 11 111) 12 99) 13 107) 14 115) 15 108) 16 97) 17 99) 18 107) 19 100) 20 114) 21 97) 22 103) 23 111) 24 110) 25 98) 26 97) 27 99) 28 107))), ((a' 5), .inl (cI, 4, .inl (fun _ => 0))), ((a' 6), .inl (cI, 18, .inl (fun _ => 0))), ((a' 7), .inl (cI, 410, .inl (fun _ => 0))), ((a' 8), .inl (cZ, 2, .inl (fun _ => 0))), ((a' 9), .inl (cI, 4, .inl (upd (upd (upd (upd (fun _ => 0) 0 (-4)) 1 (-4)) 2 (-4)) 3 (-4)))), ((a' 10), .inl (cI, 4, .inl (fun _ => 0))), ((a' 11), .inl (cI, 160, .inl (fun _ => 0)))]
def iz_f50 : Nat → Int32 := upd (upd (upd (upd (fun _ => 0) 0 (-1)) 1 (-1)) 2 (-1)) 3 (-1)
def iz_f71 : Nat → Int32 := upd (upd (upd (upd (upd (upd (upd (upd (fun _ => 0) 0 0) 1 5) 2 9) 3 14) 4 19) 5 23) 6 25) 7 29
def iz_f72 : Nat → Int32 := upd (upd (upd (upd (upd (upd (upd (upd (upd (upd (upd (upd (upd (upd (upd (upd (upd (upd (upd (upd (upd (upd (upd (upd (upd (upd (upd (upd (upd (fun _ => 0) 0 112) 1 108) 2 97) 3 105) 4 110) 5 114) 6 111) 7 112) 8 101) 9 98) 10 108) 11 111) 12 99) 13 107) 14 115) 15 108) 16 97) 17 99) 18 107) 19 100) 20 114) 21 97) 22 103) 23 111) 24 110) 25 98) 26 97) 27 99) 28 107
def iz_f77 : Nat → Int32 := upd (upd (upd (upd (fun _ => 0) 0 (-4)) 1 (-4)) 2 (-4)) 3 (-4)
def iz_f67 : Nat → Int32 := upd (fun _ => 0) 19 (-4)
def iz_f80 : Nat → Int32 := fun j => ([0, 0, 0, 1, 0] : List Int32).getD j 0
def iz_f81 : Nat → Int32 := fun j => ([3, 60, 9, 9, 300] : List Int32).getD j 0
def iz_D (xs : Nat → Int32) : pm_Mem := fun r => bif Nat.beq r 50 then iz_f50 else bif Nat.beq r 67 then iz_f67 else bif Nat.beq r 71 then iz_f71 else bif Nat.beq r 72 then iz_f72 else bif Nat.beq r 77 then iz_f77 else bif Nat.beq r 80 then iz_f80 else bif Nat.beq r 81 then iz_f81 else bif Nat.beq r 82 then xs else fun _ => 0
def iz_ad (h : Nat) (a : Nat → Nat) (h' : Nat) (a' : Nat → Nat) (k1 k2 k3 : Nat) : Nat → Nat := fun r => ([(a 0), (a 1), (a 2), (a 3), (a 4), (a 5), (a 6), (a 7), (a 8), (a 9), (a 10), (a 11), (a 12), (a 13), (a 14), (a 15), (a 16), (a 17), (a 18), (a 19), (a 20), (a 21), (a 22), (a 23), (a 24), (a 25), (a 26), (a 27), (a 28), (a 29), (a 30), (a 31), (a 32), (a 33), (a 34), (a 35), (a 36), (a 37), (a 38), (a 39), h, (a 40), (a 41), (a 42), (a 43), (a 44), (a 45), (a 46), (a 47), (a 48), (a 53), (a 54), (a 49), (a 50), (a 51), (a 52), (a 55), (a 56), (a 57), (a 58), (a 59), (a 60), (a 61), (a 62), (a 63), (a 64), (a 65), h', (a' 0), (a' 1), (a' 2), (a' 3), (a' 4), (a' 5), (a' 6), (a' 7), (a' 8), (a' 9), (a' 10), (a' 11), k1, k2, k3] : List Nat).getD r 0
def iz_pos (r : Nat) : Nat := ([1, 2, 3, 4, 5, 6, 7, 8, 9, 10, 11, 12, 13, 14, 15, 16, 17, 18, 19, 20, 21, 22, 23, 24, 25, 26, 27, 28, 29, 30, 31, 32, 33, 34, 35, 36, 37, 38, 39, 40, 0, 41, 42, 43, 44, 45, 46, 47, 48, 49, 54, 55, 50, 51, 52, 53, 56, 57, 58, 59, 60, 61, 62, 63, 64, 65, 66, 67, 68, 69, 70, 71, 72, 73, 74, 75, 76, 77, 78, 79] : List Nat).getD r 0
def iz_G (cI cB cZ cG : ClassId) (dC : Nat → ClassId) (dI : Nat → Nat → Nat) (h : Nat) (a : Nat → Nat) (h' : Nat) (a' : Nat → Nat) (k1 k2 k3 L : Nat) (A : Nat → Prop) (SX : State → Prop) : pm_G := (iz_ad h a h' a' k1 k2 k3, (cI, cB, cZ, cG), (dC, dI), L, A, SX)
section IZ
variable {cI cB cZ cG : ClassId} {dC : Nat → ClassId} {dI : Nat → Nat → Nat} {h : Nat} {a : Nat → Nat} {h' : Nat} {a' : Nat → Nat} {k1 k2 k3 L : Nat} {A : Nat → Prop} {SX : State → Prop} {xs : Nat → Int32}
theorem iz_g49 : (fun i => if i < 4 then some (a (49 + i)) else none) = (fun i => if i < 4 then some (iz_ad h a h' a' k1 k2 k3 (52 + i)) else none) := by
  funext i
  by_cases q : i < 4
  · rcases (show i = 0 ∨ i = 1 ∨ i = 2 ∨ i = 3 by omega) with rfl | rfl | rfl | rfl <;> rfl
  · rw [if_neg q, if_neg q]
theorem iz_g56 : (fun i => if i < 10 then some (a (56 + i)) else none) = (fun i => if i < 10 then some (iz_ad h a h' a' k1 k2 k3 (57 + i)) else none) := by
  funext i
  by_cases q : i < 10
  · rcases (show i = 0 ∨ i = 1 ∨ i = 2 ∨ i = 3 ∨ i = 4 ∨ i = 5 ∨ i = 6 ∨ i = 7 ∨ i = 8 ∨ i = 9 by omega) with rfl | rfl | rfl | rfl | rfl | rfl | rfl | rfl | rfl | rfl <;> rfl
  · rw [if_neg q, if_neg q]
set_option maxRecDepth 100000 in
set_option maxHeartbeats 4000000 in
theorem iz_at : ∀ r, r < 80 → ∃ q, (iz_W4 cI cB cZ cG h a ++ iz_W5 cI cB cZ cG h' a')[iz_pos r]? = some q ∧ q.1 = iz_ad h a h' a' k1 k2 k3 r ∧ ∀ H : Heap, va_at (dC, dI) vwCl q H → va_at (dC, dI) vwCl (pm_w (iz_G cI cB cZ cG dC dI h a h' a' k1 k2 k3 L A SX) (iz_D xs) r) H
  | 0, _ => ⟨_, rfl, rfl, fun _ q => q⟩
  | 1, _ => ⟨_, rfl, rfl, fun _ q => q⟩
  | 2, _ => ⟨_, rfl, rfl, fun _ q => q⟩
  | 3, _ => ⟨_, rfl, rfl, fun _ q => q⟩
  | 4, _ => ⟨_, rfl, rfl, fun _ q => q⟩
  | 5, _ => ⟨_, rfl, rfl, fun _ q => q⟩
  | 6, _ => ⟨_, rfl, rfl, fun _ q => q⟩
  | 7, _ => ⟨_, rfl, rfl, fun _ q => q⟩
  | 8, _ => ⟨_, rfl, rfl, fun _ q => q⟩
  | 9, _ => ⟨_, rfl, rfl, fun _ q => q⟩
  | 10, _ => ⟨_, rfl, rfl, fun _ q => q⟩
  | 11, _ => ⟨_, rfl, rfl, fun _ q => q⟩
  | 12, _ => ⟨_, rfl, rfl, fun _ q => q⟩
  | 13, _ => ⟨_, rfl, rfl, fun _ q => q⟩
  | 14, _ => ⟨_, rfl, rfl, fun _ q => q⟩
  | 15, _ => ⟨_, rfl, rfl, fun _ q => q⟩
  | 16, _ => ⟨_, rfl, rfl, fun _ q => q⟩
  | 17, _ => ⟨_, rfl, rfl, fun _ q => q⟩
  | 18, _ => ⟨_, rfl, rfl, fun _ q => q⟩
  | 19, _ => ⟨_, rfl, rfl, fun _ q => q⟩
  | 20, _ => ⟨_, rfl, rfl, fun _ q => q⟩
  | 21, _ => ⟨_, rfl, rfl, fun _ q => q⟩
  | 22, _ => ⟨_, rfl, rfl, fun _ q => q⟩
  | 23, _ => ⟨_, rfl, rfl, fun _ q => q⟩
  | 24, _ => ⟨_, rfl, rfl, fun _ q => q⟩
  | 25, _ => ⟨_, rfl, rfl, fun _ q => q⟩
  | 26, _ => ⟨_, rfl, rfl, fun _ q => q⟩
  | 27, _ => ⟨_, rfl, rfl, fun _ q => q⟩
  | 28, _ => ⟨_, rfl, rfl, fun _ q => q⟩
  | 29, _ => ⟨_, rfl, rfl, fun _ q => q⟩
  | 30, _ => ⟨_, rfl, rfl, fun _ q => q⟩
  | 31, _ => ⟨_, rfl, rfl, fun _ q => q⟩
  | 32, _ => ⟨_, rfl, rfl, fun _ q => q⟩
  | 33, _ => ⟨_, rfl, rfl, fun _ q => q⟩
  | 34, _ => ⟨_, rfl, rfl, fun _ q => q⟩
  | 35, _ => ⟨_, rfl, rfl, fun _ q => q⟩
  | 36, _ => ⟨_, rfl, rfl, fun _ q => q⟩
  | 37, _ => ⟨_, rfl, rfl, fun _ q => q⟩
  | 38, _ => ⟨_, rfl, rfl, fun _ q => q⟩
  | 39, _ => ⟨_, rfl, rfl, fun _ q => q⟩
  | 40, _ => ⟨_, rfl, rfl, fun _ q => q⟩
  | 41, _ => ⟨_, rfl, rfl, fun _ q => q⟩
  | 42, _ => ⟨_, rfl, rfl, fun _ q => q⟩
  | 43, _ => ⟨_, rfl, rfl, fun _ q => q⟩
  | 44, _ => ⟨_, rfl, rfl, fun _ q => q⟩
  | 45, _ => ⟨_, rfl, rfl, fun _ q => q⟩
  | 46, _ => ⟨_, rfl, rfl, fun _ q => q⟩
  | 47, _ => ⟨_, rfl, rfl, fun _ q => q⟩
  | 48, _ => ⟨_, rfl, rfl, fun _ q => q⟩
  | 49, _ => ⟨_, rfl, rfl, fun H q => by
    have q : H[(a 48)]? = some (vp_cell cG (4, .inr (.inr (.inr (.inr (fun i => if i < 4 then some (a (49 + i)) else none)))))) := q
    rw [iz_g49 (h := h) (a := a) (h' := h') (a' := a') (k1 := k1) (k2 := k2) (k3 := k3)] at q
    exact q⟩
  | 50, _ => ⟨_, rfl, rfl, fun _ q => q⟩
  | 51, _ => ⟨_, rfl, rfl, fun _ q => q⟩
  | 52, _ => ⟨_, rfl, rfl, fun _ q => q⟩
  | 53, _ => ⟨_, rfl, rfl, fun _ q => q⟩
  | 54, _ => ⟨_, rfl, rfl, fun _ q => q⟩
  | 55, _ => ⟨_, rfl, rfl, fun _ q => q⟩
  | 56, _ => ⟨_, rfl, rfl, fun H q => by
    have q : H[(a 55)]? = some (vp_cell cG (10, .inr (.inr (.inr (.inr (fun i => if i < 10 then some (a (56 + i)) else none)))))) := q
    rw [iz_g56 (h := h) (a := a) (h' := h') (a' := a') (k1 := k1) (k2 := k2) (k3 := k3)] at q
    exact q⟩
  | 57, _ => ⟨_, rfl, rfl, fun _ q => q⟩
  | 58, _ => ⟨_, rfl, rfl, fun _ q => q⟩
  | 59, _ => ⟨_, rfl, rfl, fun _ q => q⟩
  | 60, _ => ⟨_, rfl, rfl, fun _ q => q⟩
  | 61, _ => ⟨_, rfl, rfl, fun _ q => q⟩
  | 62, _ => ⟨_, rfl, rfl, fun _ q => q⟩
  | 63, _ => ⟨_, rfl, rfl, fun _ q => q⟩
  | 64, _ => ⟨_, rfl, rfl, fun _ q => q⟩
  | 65, _ => ⟨_, rfl, rfl, fun _ q => q⟩
  | 66, _ => ⟨_, rfl, rfl, fun _ q => q⟩
  | 67, _ => ⟨_, rfl, rfl, fun _ q => q⟩
  | 68, _ => ⟨_, rfl, rfl, fun _ q => q⟩
  | 69, _ => ⟨_, rfl, rfl, fun _ q => q⟩
  | 70, _ => ⟨_, rfl, rfl, fun _ q => q⟩
  | 71, _ => ⟨_, rfl, rfl, fun _ q => q⟩
  | 72, _ => ⟨_, rfl, rfl, fun _ q => q⟩
  | 73, _ => ⟨_, rfl, rfl, fun _ q => q⟩
  | 74, _ => ⟨_, rfl, rfl, fun _ q => q⟩
  | 75, _ => ⟨_, rfl, rfl, fun _ q => q⟩
  | 76, _ => ⟨_, rfl, rfl, fun _ q => q⟩
  | 77, _ => ⟨_, rfl, rfl, fun _ q => q⟩
  | 78, _ => ⟨_, rfl, rfl, fun _ q => q⟩
  | 79, _ => ⟨_, rfl, rfl, fun _ q => q⟩
  | n + 80, q => absurd q (by omega)
theorem iz_P {H : Heap} (hP : va_P (dC, dI) vwCl (iz_W4 cI cB cZ cG h a ++ iz_W5 cI cB cZ cG h' a') H) : va_P (dC, dI) vwCl (pm_ws (iz_G cI cB cZ cG dC dI h a h' a' k1 k2 k3 L A SX) (iz_D xs)) H := by
  intro k q hk
  obtain ⟨h1, rfl⟩ := pm_ws_mem hk
  obtain ⟨q, e1, e2, e3⟩ := iz_at (cI := cI) (cB := cB) (cZ := cZ) (cG := cG) (dC := dC) (dI := dI) (h := h) (a := a) (h' := h') (a' := a') (k1 := k1) (k2 := k2) (k3 := k3) (L := L) (A := A) (SX := SX) (xs := xs) k h1
  exact e3 H (hP _ q e1)
theorem iz_pos_inj : ∀ i, i < 80 → ∀ j, j < 80 → iz_pos i = iz_pos j → i = j := by decide +kernel
theorem iz_ok (hD : va_D A (iz_W4 cI cB cZ cG h a ++ iz_W5 cI cB cZ cG h' a')) (n1 : ¬ A k1) (n2 : ¬ A k2) (n3 : ¬ A k3) (g1 : ∀ U V : State, U.WarmedH V.vm → U.heap.size ≤ V.heap.size → (∀ q : Nat, q < U.heap.size → ¬ A q → V.heap[q]? = U.heap[q]?) → SX U → SX V) (g2 : ∀ (U : State) (g : JFrame) (mk : MethodId) (x : Array Value), SX U → SX (U.calling g mk x)) : pm_ok (iz_G cI cB cZ cG dC dI h a h' a' k1 k2 k3 L A SX) := by
  have key := iz_at (cI := cI) (cB := cB) (cZ := cZ) (cG := cG) (dC := dC) (dI := dI) (h := h) (a := a) (h' := h') (a' := a') (k1 := k1) (k2 := k2) (k3 := k3) (L := L) (A := A) (SX := SX) (xs := fun _ => 0)
  refine ⟨fun i j hi hj hij => ?_, fun i hi => ?_, fun r h1 h2 => ?_, g1, g2⟩
  · obtain ⟨p, p1, p2, -⟩ := key i hi
    obtain ⟨q, q1, q2, -⟩ := key j hj
    exact iz_pos_inj i hi j hj (hD.1 _ _ p q p1 q1 (by rw [p2, q2]; exact hij))
  · obtain ⟨p, p1, p2, -⟩ := key i hi
    have := hD.2 _ p p1
    rw [p2] at this
    exact this
  · rcases (show r = 80 ∨ r = 81 ∨ r = 82 by omega) with rfl | rfl | rfl
    · exact n1
    · exact n2
    · exact n3
end IZ
/-! the state at the start -/
def iz_z : z_Z := (fun _ => 0, fun _ => false, fun _ _ => 0, 0, fun _ => 0, 0, 0, fun _ => 0, fun _ => none, fun _ _ => 0, 0)
theorem iz_zOk : zOk iz_z := ⟨y_I_0.1, (fun q => by cases q), (fun q => by cases q), ⟨Nat.zero_le _, fun i hi => absurd hi (Nat.not_lt_zero _)⟩, ⟨Nat.zero_le _, fun i hi => absurd hi (Nat.not_lt_zero _)⟩, fun k _ a n q => by cases q⟩
theorem iz_e50 : ∀ k, k < 4 → iz_f50 k = -1 := by decide +kernel
theorem iz_e71 : ∀ i, i < 8 → iz_f71 i = z_ends.getD i 0 := by decide +kernel
theorem iz_e72 : ∀ i, i < 29 → iz_f72 i = z_lets.getD i 0 := by decide +kernel
theorem iz_e77 : ∀ k, k < 4 → iz_f77 k = -4 := by decide +kernel
theorem iz_CR (xs : Nat → Int32) : CR (iz_D xs) iz_z := by
  refine ⟨⟨rfl, rfl, rfl, rfl, fun b hb => absurd hb (Nat.not_lt_zero _), fun i hi => absurd hi (Nat.not_lt_zero _)⟩, ⟨rfl, rfl, (fun q => by cases q), (fun q => by cases q)⟩, ⟨rfl, fun i hi => absurd hi (Nat.not_lt_zero _), rfl⟩, ⟨rfl, fun i hi => absurd hi (Nat.not_lt_zero _)⟩, fun k hk => ⟨fun _ => iz_e50 k hk, fun a n q => by cases q⟩, rfl, ⟨rfl, rfl, rfl, rfl, rfl⟩, ⟨rfl, rfl, rfl, rfl, rfl⟩⟩
theorem iz_MR (xs : Nat → Int32) : MR (iz_D xs) iz_z := by
  refine ⟨fun k _ => rfl, ⟨rfl, rfl, (fun q => by cases q), (fun q => by cases q)⟩, ⟨rfl, fun i hi => absurd hi (Nat.not_lt_zero _), rfl⟩, ⟨rfl, fun i hi => absurd hi (Nat.not_lt_zero _)⟩, fun k hk => ⟨fun _ => iz_e77 k hk, fun a n q => by cases q⟩, ⟨rfl, rfl⟩, iz_e71, iz_e72⟩
