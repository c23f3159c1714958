/-! ===== the law's loop, in the small machine: all of it ===== -/
set_option maxRecDepth 100000 in
set_option maxHeartbeats 4000000 in
theorem t_law {N : Nat} (h2 : N ≤ 2560) {z : z_Z} {D : pm_Mem} (hz : zOk z) (hC : CR D z) (hM : MR D z) : pm_Ev N (pm_D N 11) tbL_law (some .boolean) lw_po 16 [some (.ref 82), some (.ref 40), some (.ref 67), none] [] D := by
  intro X hX
  replace hX : ∀ pc L st D, pm_F N (pm_D N 11) tbL_law (some .boolean) lw_po X pc L st D → X pc L st D := hX
  have hN5 : (nI N - 5).toInt = (N : Int) - 5 := by
    have e : (nI N).toInt = (N : Int) := z_tI (by omega)
    rw [z_sub (y := 5) (by rw [e]; show _ ≤ _ - (5 : Int); omega) (by rw [e]; show _ - (5 : Int) ≤ _; omega), e]
    rfl
  have loop : ∀ (m i : Nat) (z : z_Z) (D : pm_Mem), N < i + m → i ≤ N + 5 → zOk z → CR D z → MR D z → X 18 [some (.ref 82), some (.ref 40), some (.ref 67), some (.int (nI i))] [] D := by
    intro m
    induction m with
    | zero =>
      intro i z D hm hi hz hC hM
      repeat (refine hX _ _ _ _ ?_; conv => whnf)
      refine ⟨fun _ => ?_, fun y => absurd ?_ y⟩
      · repeat (refine hX _ _ _ _ ?_; conv => whnf)
        exact ⟨Or.inr rfl, rfl⟩
      · show nI N - 5 < nI i
        rw [z_lt, hN5, z_tI (by omega)]
        omega
    | succ m ih =>
      intro i z D hm hi hz hC hM
      by_cases q : i + 5 ≤ N
      · have nx : lw_N X i := by
          intro z D hz hC hM
          iterate 2 (refine hX _ _ _ _ ?_; conv => whnf)
          rw [show nI i + 5 = nI (i + 5) from nI_add i 5]
          exact ih (i + 5) z D (by omega) (by omega) hz hC hM
        repeat (refine hX _ _ _ _ ?_; conv => whnf)
        refine ⟨fun y => ?_, fun _ => ?_⟩
        · have y : nI N - 5 < nI i := y
          rw [z_lt, hN5, z_tI (by omega)] at y
          omega
        · repeat (refine hX _ _ _ _ ?_; conv => whnf)
          refine ⟨vp_in_nI (by omega) (by omega), ?_⟩
          repeat (refine hX _ _ _ _ ?_; conv => whnf)
          exact ⟨fun _ => nx z D hz hC hM, fun _ => lw_c_feed hX q h2 nx hz hC hM, fun _ => lw_c_end hX q h2 nx hz hC hM, fun _ => lw_c_text hX q h2 nx hz hC hM, fun _ => lw_c_fault hX q h2 nx hz hC hM, fun _ => lw_c_rule hX q h2 nx hz hC hM, fun _ => lw_c_bead hX q h2 nx hz hC hM, fun _ => lw_c_knock hX q h2 nx hz hC hM, fun _ => lw_c_alter hX q h2 nx hz hC hM, fun _ => lw_c_drag hX q h2 nx hz hC hM, fun _ => lw_c_bind hX q h2 nx hz hC hM, fun _ => lw_c_cut hX q h2 nx hz hC hM, fun _ => lw_c_hit hX q h2 nx hz hC hM, fun _ => lw_c_add hX q h2 nx hz hC hM, fun _ => lw_c_drop hX q h2 nx hz hC hM, fun _ => lw_c_calm hX q h2 nx hz hC hM, fun _ => lw_c_ticks hX q h2 nx hz hC hM, fun _ => lw_c_runs hX q h2 nx hz hC hM, fun _ => lw_c_ahead hX q h2 nx hz hC hM, fun _ => lw_c_when hX q h2 nx hz hC hM, fun _ => lw_c_rests hX q h2 nx hz hC hM, fun _ => lw_c_stiff hX q h2 nx hz hC hM, fun _ => lw_c_rest hX q h2 nx hz hC hM, fun _ => lw_c_kind hX q h2 nx hz hC hM, fun _ => lw_c_mass hX q h2 nx hz hC hM, fun _ => lw_c_swap hX q h2 nx hz hC hM, fun _ => lw_c_miss hX q h2 nx hz hC hM, fun _ => lw_c_luck hX q h2 nx hz hC hM, fun _ => lw_c_mean hX q h2 nx hz hC hM, fun _ => lw_c_see hX q h2 nx hz hC hM, fun _ => lw_c_forget hX q h2 nx hz hC hM, fun _ => lw_c_kinds hX q h2 nx hz hC hM, fun _ => lw_c_stiffs hX q h2 nx hz hC hM, fun _ => lw_c_ask hX q h2 nx hz hC hM, fun _ => lw_c_drift hX q h2 nx hz hC hM, fun _ => lw_c_keep hX q h2 nx hz hC hM, fun _ => lw_c_back hX q h2 nx hz hC hM, fun _ => lw_c_sheet hX q h2 nx hz hC hM, fun _ => lw_c_lay hX q h2 nx hz hC hM, fun _ => lw_c_read hX q h2 nx hz hC hM, fun _ => lw_c_torn hX q h2 nx hz hC hM, fun _ => lw_c_count hX q h2 nx hz hC hM, trivial⟩
      · repeat (refine hX _ _ _ _ ?_; conv => whnf)
        refine ⟨fun _ => ?_, fun y => absurd ?_ y⟩
        · repeat (refine hX _ _ _ _ ?_; conv => whnf)
          exact ⟨Or.inr rfl, rfl⟩
        · show nI N - 5 < nI i
          rw [z_lt, hN5, z_tI (by omega)]
          omega
  iterate 2 (refine hX _ _ _ _ ?_; conv => whnf)
  exact loop (N + 1) 0 z D (by omega) (by omega) hz hC hM
