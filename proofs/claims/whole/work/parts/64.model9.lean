set_option maxHeartbeats 4000000 in
theorem t_m_drift {N : Nat} {Ga : pm_Ga} (hin : sp_in Ga) (hco : sp_copies Ga) (hkn : sp_knockOn Ga) (hmv : sp_movesOn Ga) (hla : sp_lastOn Ga) : ms3 (pm_up N Ga) 164 r_drift := by
  intro z s n w D post hz hM h
  have hG := hz.1
  obtain ⟨g1, g2, g3, g4, g5, g6, g7, g8⟩ := hz.1
  obtain ⟨v24, c24⟩ := z_lit (k := 24) 24 (by decide) (by decide)
  unfold r_drift at h
  refine ⟨rfl, fun X hX => ?_⟩
  replace hX : ∀ pc L st D, pm_F N Ga tbX5_drift (some .int) post X pc L st D → X pc L st D := hX
  change X 0 [some (.ref 67), some (.int s), some (.int n), some (.int w), none, none, none] [] D
  repeat (refine hX _ _ _ _ ?_; conv => whnf)
  refine m_ib hin 1 200 rfl rfl (fun e => ?_) (fun e => ?_)
  · obtain ⟨e1, e2, e3, e4⟩ := z_ib_of e (by decide) (by decide)
    repeat (refine hX _ _ _ _ ?_; conv => whnf)
    refine ⟨fun h => absurd h (by decide), fun _ => ?_⟩
    repeat (refine hX _ _ _ _ ?_; conv => whnf)
    refine m_ib hin 0 1 rfl rfl (fun e5 => ?_) (fun e5 => ?_)
    · rw [if_pos (by rw [e, e5]; rfl)] at h
      repeat (refine hX _ _ _ _ ?_; conv => whnf)
      refine ⟨fun _ => ?_, fun h => absurd h (by decide)⟩
      repeat (refine hX _ _ _ _ ?_; conv => whnf)
      refine ⟨v24, ?_⟩
      rw [c24, z_M0 hM.1 (by decide)]
      repeat (refine hX _ _ _ _ ?_; conv => whnf)
      refine ⟨fun q0 => ?_, fun q0 => ?_⟩
      · have hn0 : z_n (zG z) ≠ 0 := fun y => q0 (by rw [g1, y]; rfl)
        rw [if_neg hn0] at h
        repeat (refine hX _ _ _ _ ?_; conv => whnf)
        refine hco 0 208 D _ (by decide) (by decide) (by decide) (fun D1 f1 f2 => ?_)
        have hM1 : z_M D1 208 (zG z) := fun k hk => by
          rw [f1 k hk]
          exact hM.1 k hk
        rw [e1]
        iterate 7 (refine hX _ _ _ _ ?_; conv => whnf)
        have loop : ∀ (m i : Nat) (D2 : pm_Mem) (l6 : Option Value), i + m = z_nt n → z_M D2 208 (z_dr (zG z 24) (zG z) s i) → (∀ r, r ≠ 67 → r ≠ 68 → r ≠ 73 → D2 r = D r) → (∀ k, k ≠ 14 → k ≠ 15 → k ≠ 16 → k ≠ 18 → D2 67 k = D 67 k) → (∀ k, (k < 208 ∨ 260 ≤ k) → D2 68 k = D 68 k) → D2 67 18 = z_dw (zG z 24) (zG z) s i → X 56 [some (.ref 67), some (.int s), some (.int (nI (z_nt n))), some (.int w), some (.int (z_ds s i)), some (.int (nI i)), l6] [] D2 := by
          intro m
          induction m with
          | zero =>
            intro i D2 l6 hi a1 a2 a3 a4 a5
            have hi : i = z_nt n := by omega
            subst hi
            obtain ⟨k1, k2, k3⟩ := hG.dr (zG z 24) s (z_nt n) (by omega)
            have h := h D2 (hM.same (fun r h1 h2 _ h4 _ => a2 r h1 h2 h4) a3 (fun k hk => a4 k (by omega))) (fun r hr => a2 r (by omega) (by omega) (by omega))
            repeat (refine hX _ _ _ _ ?_; conv => whnf)
            refine ⟨fun _ => ?_, fun q => absurd (nI_le (Nat.le_refl _) (by omega)) q⟩
            repeat (refine hX _ _ _ _ ?_; conv => whnf)
            refine ⟨fun q => ?_, fun q => ?_⟩
            · repeat (refine hX _ _ _ _ ?_; conv => whnf)
              refine hla 208 _ D2 _ (by decide) a1 k1.1 k1.2.1 ?_
              repeat (refine hX _ _ _ _ ?_; conv => whnf)
              rw [if_neg q] at h
              exact h
            · repeat (refine hX _ _ _ _ ?_; conv => whnf)
              rw [a5]
              rw [if_pos q] at h
              exact h
          | succ m ih =>
            intro i D2 l6 hi a1 a2 a3 a4 a5
            obtain ⟨k1, k2, k3⟩ := hG.dr (zG z 24) s i (by omega)
            have b0 : z_M D2 0 (zG z) := hM.1.same (fun k _ _ => a4 k (by omega))
            repeat (refine hX _ _ _ _ ?_; conv => whnf)
            refine ⟨fun z => absurd z (nI_ge (by omega) (by omega)), fun _ => ?_⟩
            repeat (refine hX _ _ _ _ ?_; conv => whnf)
            refine ⟨v24, ?_⟩
            rw [c24, z_M0 b0 (by decide)]
            repeat (refine hX _ _ _ _ ?_; conv => whnf)
            refine ⟨q0, ?_⟩
            repeat (refine hX _ _ _ _ ?_; conv => whnf)
            refine ⟨by decide, ?_⟩
            repeat (refine hX _ _ _ _ ?_; conv => whnf)
            refine ⟨by decide, ?_⟩
            repeat (refine hX _ _ _ _ ?_; conv => whnf)
            have es : z_ds s i * 1103515245 + 12345 = z_ds s (i + 1) := rfl
            rw [es]
            have hr0 : 0 ≤ z_rm (z_got (z_ds s (i + 1))) (zG z 24) := by
              rw [g1]
              exact z_rem_in (z_and_in _) (by omega) g2
            refine hkn 208 (z_rm (z_got (z_ds s (i + 1))) (zG z 24)) (z_rm (z_got (z_ds s (i + 1)) / 8) 19 - 9) _ D2 _ (by decide) hr0 a1 k1.1 k1.2.1 (fun D3 b1 b2 => ?_)
            repeat (refine hX _ _ _ _ ?_; conv => whnf)
            obtain ⟨l1, l2, l3⟩ := k1.hit (z_rm (z_got (z_ds s (i + 1))) (zG z 24)) (z_rm (z_got (z_ds s (i + 1)) / 8) 19 - 9)
            refine hmv 208 _ (zG z) D3 _ (9999 + i) 9999 (by decide) b1 l1 (Or.inr ⟨by decide, b0.same (fun k _ _ => b2.2 k (by omega))⟩) hG (fun D4 c1 c2 c3 c4 _ _ _ _ c5 => ?_)
            iterate 2 (refine hX _ _ _ _ ?_; conv => whnf)
            rw [nI_1]
            refine ih (i + 1) D4 _ (by omega) c1 (fun r h1 h2 h3 => ?_) (fun k h1 h2 h3 h4 => ?_) (fun k hk => ?_) ?_
            · rw [c2 r h1 h2 h3, b2.1 r h2]; exact a2 r h1 h2 h3
            · rw [c3 k h1 h2 h3 h4, b2.1 67 (by decide)]; exact a3 k h1 h2 h3 h4
            · rw [c4 k (by omega), b2.2 k (by omega)]; exact a4 k hk
            · rw [c5, b2.1 67 (by decide), a5]
              rfl
        refine loop (z_nt n) 0 _ none (by omega) (hM1.same (fun k _ _ => by rw [pm_mu_r _ _ _ _ (by decide)])) (fun r h1 h2 _ => ?_) (fun k _ _ _ h4 => ?_) (fun k hk => ?_) (pm_mu_at _ _ _ _)
        · rw [pm_mu_ne _ _ _ h1]; exact f2.1 r h2
        · rw [pm_mu_k _ _ _ _ h4, f2.1 67 (by decide)]
        · rw [pm_mu_r _ _ _ _ (by decide)]; exact f2.2 k (by omega)
      · have hn0 : z_n (zG z) = 0 := by
          show (zG z 24).toNatClampNeg = 0
          rw [q0]
          rfl
        rw [if_pos hn0] at h
        repeat (refine hX _ _ _ _ ?_; conv => whnf)
        exact h D hM (fun _ _ => rfl)
    · rw [if_neg (by rw [e, e5]; decide)] at h
      repeat (refine hX _ _ _ _ ?_; conv => whnf)
      refine ⟨fun h => absurd h (by decide), fun _ => ?_⟩
      repeat (refine hX _ _ _ _ ?_; conv => whnf)
      exact h D hM (fun _ _ => rfl)
  · rw [if_neg (by rw [e]; simp)] at h
    repeat (refine hX _ _ _ _ ?_; conv => whnf)
    refine ⟨fun _ => ?_, fun h => absurd h (by decide)⟩
    repeat (refine hX _ _ _ _ ?_; conv => whnf)
    exact h D hM (fun _ _ => rfl)
