set_option maxHeartbeats 2000000 in
theorem t_within {N : Nat} {Ga : pm_Ga} {v a b : Int32} {D : pm_Mem} {post : pm_Post} (h1 : a ≤ v → v ≤ b → post (some (.int 1)) D) (h0 : ¬ (a ≤ v ∧ v ≤ b) → post (some (.int 0)) D) : pm_up N Ga 97 [.int v, .int a, .int b] D post := by
  refine ⟨rfl, fun X hX => ?_⟩
  replace hX : ∀ pc L st D, pm_F N Ga tbX4_within (some .boolean) post X pc L st D → X pc L st D := hX
  change X 0 [some (.int v), some (.int a), some (.int b)] [] D
  repeat (refine hX _ _ _ _ ?_; conv => whnf)
  refine ⟨fun q1 => ?_, fun q1 => ?_⟩
  · repeat (refine hX _ _ _ _ ?_; conv => whnf)
    exact ⟨Or.inl rfl, h0 (fun z => by rw [z_lt] at q1; have := z_le.mp z.1; omega)⟩
  · repeat (refine hX _ _ _ _ ?_; conv => whnf)
    refine ⟨fun q2 => ?_, fun q2 => ?_⟩
    · repeat (refine hX _ _ _ _ ?_; conv => whnf)
      exact ⟨Or.inl rfl, h0 (fun z => by rw [z_lt] at q2; have := z_le.mp z.2; omega)⟩
    · repeat (refine hX _ _ _ _ ?_; conv => whnf)
      exact ⟨Or.inr rfl, h1 (by rw [z_lt] at q1; rw [z_le]; omega) (by rw [z_lt] at q2; rw [z_le]; omega)⟩
set_option maxHeartbeats 2000000 in
theorem t_has {N : Nat} {Ga : pm_Ga} {c : Nat} {b : Int32} {D : pm_Mem} {post : pm_Post} (hc : c ∈ pm_chs) (h1 : 0 ≤ b → b < D c 0 → post (some (.int 1)) D) (h0 : ¬ (0 ≤ b ∧ b < D c 0) → post (some (.int 0)) D) : pm_up N Ga 3 [.ref c, .int b] D post := by
  rcases pm_chs_of hc with rfl | rfl | rfl | rfl <;> (
    refine ⟨rfl, fun X hX => ?_⟩
    replace hX : ∀ pc L st D, pm_F N Ga tbX0_has (some .boolean) post X pc L st D → X pc L st D := hX
    change X 0 [some (.ref _), some (.int b)] [] D
    repeat (refine hX _ _ _ _ ?_; conv => whnf)
    refine ⟨fun q1 => ?_, fun q1 => ?_⟩
    · repeat (refine hX _ _ _ _ ?_; conv => whnf)
      exact ⟨Or.inl rfl, h0 (fun z => by rw [z_lt] at q1; have := z_le.mp z.1; omega)⟩
    · repeat (refine hX _ _ _ _ ?_; conv => whnf)
      refine ⟨fun q2 => ?_, fun q2 => ?_⟩
      · repeat (refine hX _ _ _ _ ?_; conv => whnf)
        exact ⟨Or.inl rfl, h0 (fun z => by rw [z_le] at q2; have := z_lt.mp z.2; omega)⟩
      · repeat (refine hX _ _ _ _ ?_; conv => whnf)
        exact ⟨Or.inr rfl, h1 (by rw [z_lt] at q1; rw [z_le]; omega) (by rw [z_le] at q2; rw [z_lt]; omega)⟩)
set_option maxHeartbeats 2000000 in
theorem t_inBounds {N : Nat} {Ga : pm_Ga} {v : Int32} {D : pm_Mem} {post : pm_Post} (h : post (some (.int (z_clamp v))) D) : pm_up N Ga 20 [.int v] D post := by
  unfold z_clamp at h
  refine ⟨rfl, fun X hX => ?_⟩
  replace hX : ∀ pc L st D, pm_F N Ga tbX0_inBounds (some .int) post X pc L st D → X pc L st D := hX
  change X 0 [some (.int v)] [] D
  repeat (refine hX _ _ _ _ ?_; conv => whnf)
  refine ⟨fun q1 => ?_, fun q1 => ?_⟩
  · repeat (refine hX _ _ _ _ ?_; conv => whnf)
    refine ⟨fun q2 => ?_, fun q2 => ?_⟩
    · repeat (refine hX _ _ _ _ ?_; conv => whnf)
      rw [if_neg (by rw [z_le] at q1; rw [z_lt]; omega), if_neg (by rw [z_le] at q2; rw [z_lt]; omega)] at h
      exact h
    · repeat (refine hX _ _ _ _ ?_; conv => whnf)
      rw [if_neg (by rw [z_le] at q1; rw [z_lt]; omega), if_pos (by rw [z_le] at q2; rw [z_lt]; omega)] at h
      exact h
  · repeat (refine hX _ _ _ _ ?_; conv => whnf)
    rw [if_pos (by rw [z_le] at q1; rw [z_lt]; omega)] at h
    exact h
set_option maxHeartbeats 2000000 in
theorem t_slowed {N : Nat} {Ga : pm_Ga} {c : Nat} {v d : Int32} {D : pm_Mem} {post : pm_Post} (hc : c ∈ pm_chs) (hd : D c 2 = d) (hd3 : z_in d 0 3) (h : post (some (.int (z_slow v d))) D) : pm_up N Ga 19 [.ref c, .int v] D post := by
  obtain ⟨e1, e2⟩ := hd3
  have hn : (-d).toInt = -d.toInt := by rw [Int32.toInt_neg]; exact Int.bmod_eq_of_le (by omega) (by omega)
  have z0 : (0 : Int32).toInt = 0 := rfl
  unfold z_slow at h
  rcases pm_chs_of hc with rfl | rfl | rfl | rfl <;> (
    refine ⟨rfl, fun X hX => ?_⟩
    replace hX : ∀ pc L st D, pm_F N Ga tbX0_slowed (some .int) post X pc L st D → X pc L st D := hX
    change X 0 [some (.ref _), some (.int v)] [] D
    repeat (refine hX _ _ _ _ ?_; conv => whnf)
    refine ⟨fun q1 => ?_, fun q1 => ?_⟩
    · repeat (refine hX _ _ _ _ ?_; conv => whnf)
      rw [hd]
      unfold pm_min
      have q1' := z_le.mp q1
      have ha : (v + d).toInt = v.toInt + d.toInt := z_add (by have := v.le_toInt; omega) (by omega)
      rw [if_neg (by rw [z_lt]; omega)] at h
      by_cases q2 : v < -d
      · rw [if_pos q2] at h
        rw [if_pos (by rw [z_lt] at q2 ⊢; omega)]
        exact h
      · rw [if_neg q2] at h
        rw [if_neg (by rw [z_lt] at q2 ⊢; omega)]
        exact h
    · repeat (refine hX _ _ _ _ ?_; conv => whnf)
      rw [hd]
      unfold pm_max
      have q1' : 0 < v.toInt := by rw [z_le] at q1; omega
      have ha : (v - d).toInt = v.toInt - d.toInt := z_sub (by omega) (by have := v.toInt_lt; omega)
      by_cases q2 : d < v
      · rw [if_pos q2] at h
        rw [if_pos (by rw [z_lt] at q2 ⊢; omega)]
        exact h
      · rw [if_neg q2, if_neg (by rw [z_lt] at q2 ⊢; omega)] at h
        rw [if_neg (by rw [z_lt] at q2 ⊢; omega)]
        exact h)
