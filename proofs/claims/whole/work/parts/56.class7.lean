def sp_note (Ga : pm_Ga) : Prop := ∀ (c : Nat) (n b v : Int32) (D : pm_Mem) (post : pm_Post), D 44 0 = nI c → c ≤ 6 → (c = 6 → post (some (.int 0)) D) → (c < 6 → post (some (.int 1)) (pm_mu (pm_mu (pm_mu (pm_mu D 45 c n) 46 c b) 47 c v) 44 0 (nI (c + 1)))) → Ga 22 [.ref 44, .int n, .int b, .int v] D post
set_option maxHeartbeats 2000000 in
theorem t_note {N : Nat} {Ga : pm_Ga} : sp_note (pm_up N Ga) := by
  intro c n b v D post hc hc6 h0 h1
  refine ⟨rfl, fun X hX => ?_⟩
  replace hX : ∀ pc L st D, pm_F N Ga tbX1_note (some .boolean) post X pc L st D → X pc L st D := hX
  change X 0 [some (.ref 44), some (.int n), some (.int b), some (.int v)] [] D
  repeat (refine hX _ _ _ _ ?_; conv => whnf)
  rw [hc]
  refine ⟨fun q => ?_, fun q => ?_⟩
  · have q : c < 6 := (nI_ltI (a := c) (b := 6) (by omega) (by omega)).mp q
    repeat (refine hX _ _ _ _ ?_; conv => whnf)
    rw [hc]
    refine ⟨by decide, vp_in_nI q (by decide), ?_⟩
    repeat (refine hX _ _ _ _ ?_; conv => whnf)
    rw [pm_mu_r _ _ _ _ (by decide), hc, nI_clamp (by omega)]
    refine ⟨by decide, vp_in_nI q (by decide), ?_⟩
    repeat (refine hX _ _ _ _ ?_; conv => whnf)
    rw [pm_mu_r _ _ _ _ (by decide), pm_mu_r _ _ _ _ (by decide), hc, nI_clamp (by omega)]
    refine ⟨by decide, vp_in_nI q (by decide), ?_⟩
    repeat (refine hX _ _ _ _ ?_; conv => whnf)
    rw [pm_mu_r _ _ _ _ (by decide), pm_mu_r _ _ _ _ (by decide), pm_mu_r _ _ _ _ (by decide), hc, nI_1]
    exact ⟨Or.inr rfl, h1 q⟩
  · have q : ¬ c < 6 := fun z => q ((nI_ltI (a := c) (b := 6) (by omega) (by omega)).mpr z)
    repeat (refine hX _ _ _ _ ?_; conv => whnf)
    exact ⟨Or.inl rfl, h0 (by omega)⟩
set_option maxHeartbeats 2000000 in
theorem t_c_forget {N : Nat} {Ga : pm_Ga} (hwi : sp_within Ga) : cs1 (pm_up N Ga) 81 r_forget := by
  intro z n D post hz hC h
  have h4 := hC.2.2.2.1
  have hL := hz.2.2.2.2.1.1
  have hti : (nI (zC z)).toInt = zC z := z_tI (by omega)
  unfold r_forget at h
  refine ⟨rfl, fun X hX => ?_⟩
  replace hX : ∀ pc L st D, pm_F N Ga tbX4_forget (some .int) post X pc L st D → X pc L st D := hX
  change X 0 [some (.ref 40), some (.int n), none] [] D
  repeat (refine hX _ _ _ _ ?_; conv => whnf)
  rw [h4.1]
  refine w_ib hwi 0 (zC z) rfl hti (fun e => ?_) (fun e => ?_)
  · obtain ⟨e1, e2, e3, e4⟩ := z_ib_of e (by decide) (by omega)
    rw [if_pos e] at h
    repeat (refine hX _ _ _ _ ?_; conv => whnf)
    refine ⟨fun _ => ?_, fun h => absurd h (by decide)⟩
    repeat (refine hX _ _ _ _ ?_; conv => whnf)
    refine h _ (hC.seen ⟨?_, fun i hi => ?_⟩ (fun r hr => pm_mu_ne _ _ _ (by omega))) (fun r hr => pm_mu_ne _ _ _ (by omega))
    · rw [pm_mu_at]; exact e1
    · have hi : i < z_nt n := hi
      rw [pm_mu_r _ _ _ _ (by decide), pm_mu_r _ _ _ _ (by decide), pm_mu_r _ _ _ _ (by decide)]; exact h4.2 i (by omega)
  · rw [if_neg (by rw [e]; decide)] at h
    repeat (refine hX _ _ _ _ ?_; conv => whnf)
    refine ⟨fun h => absurd h (by decide), fun _ => ?_⟩
    repeat (refine hX _ _ _ _ ?_; conv => whnf)
    exact h D hC (fun _ _ => rfl)
set_option maxHeartbeats 2000000 in
theorem t_c_see {N : Nat} {Ga : pm_Ga} (hwi : sp_within Ga) (hhas : sp_has Ga) (hno : sp_note Ga) : cs3 (pm_up N Ga) 80 r_see := by
  intro z n b v D post hz hC h
  have h4 := hC.2.2.2.1
  have hL := hz.2.2.2.2.1.1
  have g1 := hz.1.1
  have g2 := hz.1.2.1
  unfold r_see at h
  refine ⟨rfl, fun X hX => ?_⟩
  replace hX : ∀ pc L st D, pm_F N Ga tbX4_see (some .int) post X pc L st D → X pc L st D := hX
  change X 0 [some (.ref 40), some (.int n), some (.int b), some (.int v)] [] D
  repeat (refine hX _ _ _ _ ?_; conv => whnf)
  refine w_ib hwi 0 40 rfl rfl (fun e => ?_) (fun e => ?_)
  · repeat (refine hX _ _ _ _ ?_; conv => whnf)
    refine ⟨fun h => absurd h (by decide), fun _ => ?_⟩
    repeat (refine hX _ _ _ _ ?_; conv => whnf)
    refine z_has hhas hC.1 g1 g2 (fun f => ?_) (fun f => ?_)
    · repeat (refine hX _ _ _ _ ?_; conv => whnf)
      refine ⟨fun h => absurd h (by decide), fun _ => ?_⟩
      repeat (refine hX _ _ _ _ ?_; conv => whnf)
      refine w_ib hwi 0 300 rfl rfl (fun j => ?_) (fun j => ?_)
      · rw [e, f, j, if_pos (by decide)] at h
        repeat (refine hX _ _ _ _ ?_; conv => whnf)
        refine ⟨fun _ => ?_, fun h => absurd h (by decide)⟩
        repeat (refine hX _ _ _ _ ?_; conv => whnf)
        refine hno (zC z) n b v D _ h4.1 hL (fun q => ?_) (fun q => ?_)
        · rw [if_pos q] at h
          repeat (refine hX _ _ _ _ ?_; conv => whnf)
          refine ⟨fun _ => ?_, fun h => absurd h (by decide)⟩
          repeat (refine hX _ _ _ _ ?_; conv => whnf)
          exact h D hC (fun _ _ => rfl)
        · rw [if_neg (by omega)] at h
          repeat (refine hX _ _ _ _ ?_; conv => whnf)
          refine ⟨fun h => absurd h (by decide), fun _ => ?_⟩
          repeat (refine hX _ _ _ _ ?_; conv => whnf)
          rw [pm_mu_at]
          refine h _ (hC.seen ⟨pm_mu_at _ _ _ _, fun i hi => ?_⟩ (fun r hr => ?_)) (fun r hr => ?_)
          · have hi : i < zC z + 1 := hi
            show _ = z_see (zS z) (zC z) n b v (3 * i) ∧ _ = z_see (zS z) (zC z) n b v (3 * i + 1) ∧ _ = z_see (zS z) (zC z) n b v (3 * i + 2)
            unfold z_see
            by_cases c : i = zC z
            · subst c
              refine ⟨?_, ?_, ?_⟩
              · rw [if_pos rfl, pm_mu_r _ _ _ _ (by decide), pm_mu_r _ _ _ _ (by decide), pm_mu_r _ _ _ _ (by decide), pm_mu_at]
              · rw [if_neg (by omega), if_pos rfl, pm_mu_r _ _ _ _ (by decide), pm_mu_r _ _ _ _ (by decide), pm_mu_at]
              · rw [if_neg (by omega), if_neg (by omega), if_pos rfl, pm_mu_r _ _ _ _ (by decide), pm_mu_at]
            · obtain ⟨k1, k2, k3⟩ := h4.2 i (by omega)
              refine ⟨?_, ?_, ?_⟩
              · rw [if_neg (by omega), if_neg (by omega), if_neg (by omega), pm_mu_r _ _ _ _ (by decide), pm_mu_r _ _ _ _ (by decide), pm_mu_r _ _ _ _ (by decide), pm_mu_k _ _ _ _ c]; exact k1
              · rw [if_neg (by omega), if_neg (by omega), if_neg (by omega), pm_mu_r _ _ _ _ (by decide), pm_mu_r _ _ _ _ (by decide), pm_mu_k _ _ _ _ c, pm_mu_r _ _ _ _ (by decide)]; exact k2
              · rw [if_neg (by omega), if_neg (by omega), if_neg (by omega), pm_mu_r _ _ _ _ (by decide), pm_mu_k _ _ _ _ c, pm_mu_r _ _ _ _ (by decide), pm_mu_r _ _ _ _ (by decide)]; exact k3
          · rw [pm_mu_ne _ _ _ (by omega), pm_mu_ne _ _ _ (by omega), pm_mu_ne _ _ _ (by omega), pm_mu_ne _ _ _ (by omega)]
          · rw [pm_mu_ne _ _ _ (by omega), pm_mu_ne _ _ _ (by omega), pm_mu_ne _ _ _ (by omega), pm_mu_ne _ _ _ (by omega)]
      · rw [e, f, j, if_neg (by decide)] at h
        repeat (refine hX _ _ _ _ ?_; conv => whnf)
        refine ⟨fun h => absurd h (by decide), fun _ => ?_⟩
        repeat (refine hX _ _ _ _ ?_; conv => whnf)
        exact h D hC (fun _ _ => rfl)
    · rw [e, f, if_neg (by simp)] at h
      repeat (refine hX _ _ _ _ ?_; conv => whnf)
      refine ⟨fun _ => ?_, fun h => absurd h (by decide)⟩
      repeat (refine hX _ _ _ _ ?_; conv => whnf)
      exact h D hC (fun _ _ => rfl)
  · rw [e, if_neg (by simp)] at h
    repeat (refine hX _ _ _ _ ?_; conv => whnf)
    refine ⟨fun _ => ?_, fun h => absurd h (by decide)⟩
    repeat (refine hX _ _ _ _ ?_; conv => whnf)
    exact h D hC (fun _ _ => rfl)
set_option maxHeartbeats 2000000 in
theorem t_c_torn {N : Nat} {Ga : pm_Ga} : cs0 (pm_up N Ga) 95 r_torn := by
  intro z D post hz hC h
  refine ⟨rfl, fun X hX => ?_⟩
  replace hX : ∀ pc L st D, pm_F N Ga tbX4_torn (some .int) post X pc L st D → X pc L st D := hX
  change X 0 [some (.ref 40)] [] D
  repeat (refine hX _ _ _ _ ?_; conv => whnf)
  have h6 : D 40 9 = zR z := hC.2.2.2.2.2.1
  rw [h6]
  exact h D hC (fun _ _ => rfl)
