def sp_imageOf (Ga : pm_Ga) : Prop := (∀ (D : pm_Mem) (post : pm_Post), post (some (.ref 20)) D → Ga 91 [.ref 40, .int 0] D post) ∧ ∀ (D : pm_Mem) (post : pm_Post), post (some (.ref 30)) D → Ga 91 [.ref 40, .int 1] D post
set_option maxHeartbeats 2000000 in
theorem t_imageOf0 {N : Nat} {Ga : pm_Ga} (D : pm_Mem) (post : pm_Post) (h : post (some (.ref 20)) D) : pm_up N Ga 91 [.ref 40, .int 0] D post := by
  refine ⟨rfl, fun X hX => ?_⟩
  replace hX : ∀ pc L st D, pm_F N Ga tbX4_imageOf (some (.object "SpringBeads$Chain")) post X pc L st D → X pc L st D := hX
  change X 0 [some (.ref 40), some (.int 0)] [] D
  repeat (refine hX _ _ _ _ ?_; conv => whnf)
  refine ⟨fun h => absurd h (by decide), fun _ => ?_⟩
  repeat (refine hX _ _ _ _ ?_; conv => whnf)
  exact h
set_option maxHeartbeats 2000000 in
theorem t_imageOf1 {N : Nat} {Ga : pm_Ga} (D : pm_Mem) (post : pm_Post) (h : post (some (.ref 30)) D) : pm_up N Ga 91 [.ref 40, .int 1] D post := by
  refine ⟨rfl, fun X hX => ?_⟩
  replace hX : ∀ pc L st D, pm_F N Ga tbX4_imageOf (some (.object "SpringBeads$Chain")) post X pc L st D → X pc L st D := hX
  change X 0 [some (.ref 40), some (.int 1)] [] D
  repeat (refine hX _ _ _ _ ?_; conv => whnf)
  refine ⟨fun _ => ?_, fun h => absurd h (by decide)⟩
  repeat (refine hX _ _ _ _ ?_; conv => whnf)
  exact h
theorem t_imageOf {N : Nat} {Ga : pm_Ga} : sp_imageOf (pm_up N Ga) := ⟨t_imageOf0, t_imageOf1⟩
def sp_isNothing (Ga : pm_Ga) : Prop := ∀ (k : Nat) (D : pm_Mem) (post : pm_Post), k < 4 → (D 50 k = -1 → post (some (.int 1)) D) → (D 50 k ≠ -1 → post (some (.int 0)) D) → Ga 26 [.ref 48, .int (nI k)] D post
set_option maxHeartbeats 2000000 in
theorem t_isNothing {N : Nat} {Ga : pm_Ga} : sp_isNothing (pm_up N Ga) := by
  intro k D post hk h1 h0
  refine ⟨rfl, fun X hX => ?_⟩
  replace hX : ∀ pc L st D, pm_F N Ga tbX2_isNothing (some .boolean) post X pc L st D → X pc L st D := hX
  change X 0 [some (.ref 48), some (.int (nI k))] [] D
  repeat (refine hX _ _ _ _ ?_; conv => whnf)
  refine ⟨by decide, vp_in_nI hk (by decide), ?_⟩
  repeat (refine hX _ _ _ _ ?_; conv => whnf)
  rw [nI_clamp (by omega)]
  refine ⟨fun q => ?_, fun q => ?_⟩
  · repeat (refine hX _ _ _ _ ?_; conv => whnf)
    exact ⟨Or.inl rfl, h0 q⟩
  · repeat (refine hX _ _ _ _ ?_; conv => whnf)
    exact ⟨Or.inr rfl, h1 (Decidable.not_not.mp q)⟩
theorem z_bi_0 {b : Bool} : z_bi b = 0 ↔ b = false := by cases b <;> decide
set_option maxHeartbeats 4000000 in
theorem t_c_keep {N : Nat} {Ga : pm_Ga} (hwi : sp_within Ga) (him : sp_imageOf Ga) (hbl : sp_becomeLike Ga) : cs1 (pm_up N Ga) 89 r_keep := by
  intro z k D post hz hC h
  obtain ⟨k0, k1, k2, k3⟩ := hC.2.1
  have g2 := hz.1.2.1
  have g4 := hz.1.2.2.2.1
  unfold r_keep at h
  refine ⟨rfl, fun X hX => ?_⟩
  replace hX : ∀ pc L st D, pm_F N Ga tbX4_keep (some .int) post X pc L st D → X pc L st D := hX
  change X 0 [some (.ref 40), some (.int k), none] [] D
  repeat (refine hX _ _ _ _ ?_; conv => whnf)
  refine w_ib hwi 0 1 rfl rfl (fun e => ?_) (fun e => ?_)
  · rw [if_pos e] at h
    rcases z_two e with rfl | rfl
    · repeat (refine hX _ _ _ _ ?_; conv => whnf)
      refine ⟨fun _ => ?_, fun h => absurd h (by decide)⟩
      repeat (refine hX _ _ _ _ ?_; conv => whnf)
      rw [k0]
      have fin : ∀ (D' : pm_Mem), (∀ g, z_n g ≤ 4 → z_k g ≤ 12 → z_R D 0 g → z_R D' 20 g) → z_F 20 D D' → post (some (.int (z_bi (zK z 0)))) (pm_mu D' 41 0 1) := by
        intro D' q1 q2
        sorry
      sorry
    · sorry
  · rw [if_neg (by rw [e]; decide)] at h
    repeat (refine hX _ _ _ _ ?_; conv => whnf)
    refine ⟨fun h => absurd h (by decide), fun _ => ?_⟩
    repeat (refine hX _ _ _ _ ?_; conv => whnf)
    exact h D hC (fun _ _ => rfl)
