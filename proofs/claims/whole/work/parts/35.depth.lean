/-! ===== the methods so far, by how many calls deep they go ===== -/
section KK
variable {N d : Nat}
theorem K_within : sp_within (pm_D N (d + 1)) := fun _ _ _ _ _ h1 h0 => t_within (N := N) (Ga := pm_D N d) h1 h0
theorem K_has : sp_has (pm_D N (d + 1)) := fun _ _ _ _ hc h1 h0 => t_has (N := N) (Ga := pm_D N d) hc h1 h0
theorem K_lastPlace : sp_lastPlace (pm_D N (d + 1)) := fun _ _ _ _ hc h1 h2 h3 => t_lastPlace (N := N) (Ga := pm_D N d) hc h1 h2 h3
theorem K_inBounds : ∀ (v : Int32) (D : pm_Mem) (post : pm_Post), post (some (.int (z_clamp v))) D → pm_D N (d + 1) 20 [.int v] D post := fun _ _ _ h => t_inBounds (N := N) (Ga := pm_D N d) h
theorem K_slowed : ∀ c v dd D post, c ∈ pm_chs → D c 2 = dd → z_in dd 0 3 → post (some (.int (z_slow v dd))) D → pm_D N (d + 1) 19 [.ref c, .int v] D post := fun _ _ _ _ _ h1 h2 h3 h4 => t_slowed (N := N) (Ga := pm_D N d) h1 h2 h3 h4
theorem K_stretchOf : ∀ c b g D post, c ∈ pm_chs → b < 4 → D (c + 2) b = g (4 + b) → (∀ j, j ≤ b → D (c + 5) j = g (16 + j)) → post (some (.int (z_st g b))) D → pm_D N (d + 1) 11 [.ref c, .int (nI b)] D post := fun _ _ _ _ _ h1 h2 h3 h4 h5 => t_stretchOf (N := N) (Ga := pm_D N d) h1 h2 h3 h4 h5
theorem K_pullOf : ∀ c b g D post, c ∈ pm_chs → b < 4 → z_in (g b) 0 3 → D (c + 1) b = g b → D (c + 2) b = g (4 + b) → D (c + 3) b = g (8 + b) → (∀ j, j ≤ b → D (c + 5) j = g (16 + j)) → post (some (.int (z_pull g b))) D → pm_D N (d + 2) 12 [.ref c, .int (nI b)] D post := fun _ _ _ _ _ h1 h2 h3 h4 h5 h6 h7 h8 => t_pullOf (N := N) (Ga := pm_D N (d + 1)) K_stretchOf K_within h1 h2 h3 h4 h5 h6 h7 h8
theorem K_goOn : ∀ c b p v w D post, c ∈ pm_chs → b < 4 → D (c + 5) b = p → D (c + 6) b = w →
      (∀ D' rch lft, rch = (if p + v < 0 then 0 else if 300 < p + v then 300 else p + v) → lft = (if p + v < 0 ∨ 300 < p + v then 0 else v) → (∀ r, r ≠ c → r ≠ c + 5 → r ≠ c + 6 → D' r = D r) → (∀ k, k ≠ 13 → k ≠ 14 → k ≠ 15 → D' c k = D c k) → D' c 13 = D c 13 + z_abs (rch - p) → D' c 14 = D c 14 + (if p + v < 0 ∨ 300 < p + v then 1 else 0) → D' c 15 = (if rch ≠ p ∨ lft ≠ w then 1 else D c 15) →
      (∀ j, D' (c + 5) j = if j = b then rch else D (c + 5) j) → (∀ j, D' (c + 6) j = if j = b then lft else D (c + 6) j) → post none D') → pm_D N (d + 1) 18 [.ref c, .int (nI b), .int v] D post := fun _ _ _ _ _ _ _ h1 h2 h3 h4 h5 => t_goOn (N := N) (Ga := pm_D N d) h1 h2 h3 h4 h5
theorem K_knockOnce : sp_knockOnce (pm_D N (d + 2)) := fun _ _ _ _ _ _ h1 h2 h3 h4 h5 h6 => t_knockOnce (N := N) (Ga := pm_D N (d + 1)) K_has K_inBounds h1 h2 h3 h4 h5 h6
theorem K_knockByPlan : sp_knockByPlan (pm_D N (d + 3)) := fun _ _ _ _ _ h1 h2 h3 h4 h5 => t_knockByPlan (N := N) (Ga := pm_D N (d + 2)) h1 K_knockOnce h2 h3 h4 h5
theorem K_move : sp_move (pm_D N (d + 3)) := fun _ _ _ _ _ h1 h2 h3 h4 => t_move (N := N) (Ga := pm_D N (d + 2)) K_pullOf K_slowed K_inBounds K_goOn h1 h2 h3 h4
theorem K_tickOnce : sp_tickOnce (pm_D N (d + 4)) := t_tickOnce (N := N) (Ga := pm_D N (d + 3)) K_knockByPlan K_move
theorem K_tickOften : sp_tickOften (pm_D N (d + 5)) := t_tickOften (N := N) (Ga := pm_D N (d + 4)) K_tickOnce
theorem K_greatestSwing : sp_greatestSwing (pm_D N (d + 5)) := t_greatestSwing (N := N) (Ga := pm_D N (d + 4)) K_tickOnce K_lastPlace
theorem K_becomeLike : sp_becomeLike (pm_D N (d + 1)) := t_becomeLike (N := N) (Ga := pm_D N d)
theorem K_clear : sp_clear (pm_D N (d + 1)) := t_clear (N := N) (Ga := pm_D N d)
theorem K_rowOf : sp_rowOf (pm_D N (d + 1)) := t_rowOf (N := N) (Ga := pm_D N d)
theorem K_sumOf : sp_sumOf (pm_D N (d + 2)) := t_sumOf (N := N) (Ga := pm_D N (d + 1)) K_rowOf
theorem K_stillBits : sp_stillBits (pm_D N (d + 1)) := t_stillBits (N := N) (Ga := pm_D N d)
theorem K_addBead : sp_addBead (pm_D N (d + 2)) := t_addBead (N := N) (Ga := pm_D N (d + 1)) K_lastPlace
theorem K_addKnock : sp_addKnock (pm_D N (d + 1)) := t_addKnock (N := N) (Ga := pm_D N d)
theorem K_changePlaces : sp_changePlaces (pm_D N (d + 1)) := t_changePlaces (N := N) (Ga := pm_D N d)
theorem K_in : sp_in (pm_D N (d + 1)) := t_in (N := N) (Ga := pm_D N d)
theorem K_amount : sp_amount (pm_D N (d + 1)) := t_amount (N := N) (Ga := pm_D N d)
theorem K_speedOf : sp_speedOf (pm_D N (d + 1)) := t_speedOf (N := N) (Ga := pm_D N d)
theorem K_stretchOn : sp_stretchOn (pm_D N (d + 1)) := t_stretchOn (N := N) (Ga := pm_D N d)
theorem K_pullOn : sp_pullOn (pm_D N (d + 2)) := t_pullOn (N := N) (Ga := pm_D N (d + 1)) K_stretchOn K_in
theorem K_knockOn : sp_knockOn (pm_D N (d + 2)) := t_knockOn (N := N) (Ga := pm_D N (d + 1)) K_speedOf
theorem K_lastOn : sp_lastOn (pm_D N (d + 1)) := t_lastOn (N := N) (Ga := pm_D N d)
theorem K_speedsOn : sp_speedsOn (pm_D N (d + 3)) := t_speedsOn (N := N) (Ga := pm_D N (d + 2)) K_pullOn K_speedOf
theorem K_placesOn : sp_placesOn (pm_D N (d + 2)) := t_placesOn (N := N) (Ga := pm_D N (d + 1)) K_in K_amount
theorem K_movesOn : sp_movesOn (pm_D N (d + 4)) := t_movesOn (N := N) (Ga := pm_D N (d + 3)) K_speedsOn K_placesOn K_lastOn K_amount
theorem K_tickOn : sp_tickOn (pm_D N (d + 5)) := t_tickOn (N := N) (Ga := pm_D N (d + 4)) K_knockOn K_movesOn
theorem K_copies : sp_copies (pm_D N (d + 1)) := t_copies (N := N) (Ga := pm_D N d)
theorem K_ticksGo : sp_ticksGo (pm_D N (d + 6)) := t_ticksGo (N := N) (Ga := pm_D N (d + 5)) K_copies K_tickOn
end KK
