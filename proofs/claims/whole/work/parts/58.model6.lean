set_option maxHeartbeats 2000000 in
theorem t_m_forget {N : Nat} {Ga : pm_Ga} (hin : sp_in Ga) : ms1 (pm_up N Ga) 157 r_forget := by
  intro z n D post hz hM h
  have h4 := hM.2.2.2.1
  have hL := hz.2.2.2.2.1.1
  unfold r_forget at h
  refine ⟨rfl, fun X hX => ?_⟩
  replace hX : ∀ pc L st D, pm_F N Ga tbX5_forget (some .int) post X pc L st D → X pc L st D := hX
  change X 0 [some (.ref 67), some (.int n), none] [] D
  repeat (refine hX _ _ _ _ ?_; conv => whnf)
  rw [h4.1]
  refine m_ib hin 0 (zC z) rfl (by rw [z_64]; exact z_tI (by omega)) (fun e => ?_) (fun e => ?_)
  · obtain ⟨e1, e2, e3, e4⟩ := z_ib_of e (by decide) (by omega)
    rw [if_pos e] at h
    repeat (refine hX _ _ _ _ ?_; conv => whnf)
    refine ⟨fun _ => ?_, fun h => absurd h (by decide)⟩
    repeat (refine hX _ _ _ _ ?_; conv => whnf)
    rw [h4.1]
    refine h _ (hM.seen ⟨?_, fun i hi => ?_⟩ (fun r h1 h2 => pm_mu_ne _ _ _ h1) (fun k hk => pm_mu_k _ _ _ _ hk)) (fun r hr => pm_mu_ne _ _ _ (by omega))
    · rw [pm_mu_at]; exact e1
    · have hi : i < 3 * z_nt n := hi
      rw [pm_mu_r _ _ _ _ (by decide)]; exact h4.2 i (by omega)
  · rw [if_neg (by rw [e]; decide)] at h
    repeat (refine hX _ _ _ _ ?_; conv => whnf)
    refine ⟨fun h => absurd h (by decide), fun _ => ?_⟩
    repeat (refine hX _ _ _ _ ?_; conv => whnf)
    exact h D hM (fun _ _ => rfl)
set_option maxHeartbeats 2000000 in
theorem t_m_torn {N : Nat} {Ga : pm_Ga} : ms0 (pm_up N Ga) 170 r_torn := by
  intro z D post hz hM h
  refine ⟨rfl, fun X hX => ?_⟩
  replace hX : ∀ pc L st D, pm_F N Ga tbX5_torn (some .int) post X pc L st D → X pc L st D := hX
  change X 0 [some (.ref 67)] [] D
  repeat (refine hX _ _ _ _ ?_; conv => whnf)
  rw [hM.2.2.2.2.2.1.1]
  exact h D hM (fun _ _ => rfl)
set_option maxHeartbeats 4000000 in
theorem t_m_see {N : Nat} {Ga : pm_Ga} (hin : sp_in Ga) (hib : sp_isBead Ga) : ms3 (pm_up N Ga) 156 r_see := by
  intro z n b v D post hz hM h
  have h4 := hM.2.2.2.1
  have hL := hz.2.2.2.2.1.1
  have g1 := hz.1.1
  have g2 := hz.1.2.1
  unfold r_see at h
  refine ⟨rfl, fun X hX => ?_⟩
  replace hX : ∀ pc L st D, pm_F N Ga tbX5_see (some .int) post X pc L st D → X pc L st D := hX
  change X 0 [some (.ref 67), some (.int n), some (.int b), some (.int v)] [] D
  repeat (refine hX _ _ _ _ ?_; conv => whnf)
  refine m_ib hin 0 40 rfl rfl (fun e => ?_) (fun e => ?_)
  · repeat (refine hX _ _ _ _ ?_; conv => whnf)
    refine ⟨fun h => absurd h (by decide), fun _ => ?_⟩
    repeat (refine hX _ _ _ _ ?_; conv => whnf)
    refine hib (zG z) b D _ hM.1 g1 g2 (fun f => ?_) (fun f => ?_)
    · repeat (refine hX _ _ _ _ ?_; conv => whnf)
      refine ⟨fun h => absurd h (by decide), fun _ => ?_⟩
      repeat (refine hX _ _ _ _ ?_; conv => whnf)
      refine m_ib hin 0 300 rfl rfl (fun j => ?_) (fun j => ?_)
      · rw [e, f, j, if_pos (by decide)] at h
        repeat (refine hX _ _ _ _ ?_; conv => whnf)
        refine ⟨fun _ => ?_, fun h => absurd h (by decide)⟩
        repeat (refine hX _ _ _ _ ?_; conv => whnf)
        rw [h4.1]
        refine ⟨fun q => ?_, fun q => ?_⟩
        · have q : zC z ≠ 6 := fun y => q (by rw [y]; rfl)
          rw [if_neg q] at h
          repeat (refine hX _ _ _ _ ?_; conv => whnf)
          sorry
        · have q : zC z = 6 := (nI_eq (b := 6) (by omega) (by omega)).mp q
          rw [if_pos q] at h
          repeat (refine hX _ _ _ _ ?_; conv => whnf)
          exact h D hM (fun _ _ => rfl)
      · rw [e, f, j, if_neg (by decide)] at h
        repeat (refine hX _ _ _ _ ?_; conv => whnf)
        refine ⟨fun h => absurd h (by decide), fun _ => ?_⟩
        repeat (refine hX _ _ _ _ ?_; conv => whnf)
        exact h D hM (fun _ _ => rfl)
    · rw [e, f, if_neg (by simp)] at h
      repeat (refine hX _ _ _ _ ?_; conv => whnf)
      refine ⟨fun _ => ?_, fun h => absurd h (by decide)⟩
      repeat (refine hX _ _ _ _ ?_; conv => whnf)
      exact h D hM (fun _ _ => rfl)
  · rw [e, if_neg (by simp)] at h
    repeat (refine hX _ _ _ _ ?_; conv => whnf)
    refine ⟨fun _ => ?_, fun h => absurd h (by decide)⟩
    repeat (refine hX _ _ _ _ ?_; conv => whnf)
    exact h D hM (fun _ _ => rfl)
