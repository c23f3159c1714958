set_option maxHeartbeats 4000000 in
theorem t_m_ask {N : Nat} {Ga : pm_Ga} (hib : sp_isBead Ga) (hin : sp_in Ga) (hnu : sp_numbersAt Ga) (hwa : sp_worstAt Ga) : ms2 (pm_up N Ga) 163 r_ask := by
  intro z b w D post hz hM h
  unfold r_ask at h
  refine ⟨rfl, fun X hX => ?_⟩
  replace hX : ∀ pc L st D, pm_F N Ga tbX5_ask (some .int) post X pc L st D → X pc L st D := hX
  change X 0 [some (.ref 67), some (.int b), some (.int w), none, none, none, none, none] [] D
  repeat (refine hX _ _ _ _ ?_; conv => whnf)
  refine hib b (zG z) D _ hM.1 hz.1.1 hz.1.2.1 (fun e0 => ?_) (fun e0 => ?_)
  · obtain ⟨b1, b2, b3, b4⟩ := z_isb_of e0 hz.1.2.1
    repeat (refine hX _ _ _ _ ?_; conv => whnf)
    refine ⟨fun h => absurd h (by decide), fun _ => ?_⟩
    repeat (refine hX _ _ _ _ ?_; conv => whnf)
    refine m_ib hin 0 1 rfl rfl (fun e5 => ?_) (fun e5 => ?_)
    · rw [if_pos (by rw [e0, e5]; rfl), z_cn_bc] at h
      repeat (refine hX _ _ _ _ ?_; conv => whnf)
      refine ⟨fun _ => ?_, fun h => absurd h (by decide)⟩
      repeat (refine hX _ _ _ _ ?_; conv => whnf)
      rw [b2, z_ix1' 8 (z_nt b) 8 (by decide)]
      refine hnu 2 (z_nt b) (8 + z_nt b) 10 z D _ (Or.inr rfl) rfl (by omega) hz hM b1 (fun D2 f1 f3 => ?_)
      generalize z_bits z 2 (z_nt b) 10 = l at h ⊢
      iterate 5 (refine hX _ _ _ _ ?_; conv => whnf)
      have loop : ∀ (m t : Nat) (wh le : Int32) (l7 : Option Value), t + m = 41 → mP D (z_pk2 (z_bst (z_wa z (z_nt b) l) m t wh le) w, z) post → X 69 [some (.ref 67), some (.int (nI (z_nt b))), some (.int w), some (.int l), some (.int le), some (.int wh), some (.int (nI t)), l7] [] D2 := by
        intro m
        induction m with
        | zero =>
          intro t wh le l7 ht hp
          have ht : t = 41 := by omega
          subst ht
          have hp := hp D2 (f1.MR hM) (fun r hr => f1.1 r (by omega) (by omega) (by omega) (by omega))
          change post (some (.int (if wh = -4 ∨ w = 0 then wh else le))) D2 at hp
          repeat (refine hX _ _ _ _ ?_; conv => whnf)
          refine ⟨fun _ => ?_, fun h => absurd h (by decide)⟩
          repeat (refine hX _ _ _ _ ?_; conv => whnf)
          refine ⟨fun q => ?_, fun q => ?_⟩
          · rw [if_pos (Or.inl q)] at hp
            repeat (refine hX _ _ _ _ ?_; conv => whnf)
            exact hp
          · repeat (refine hX _ _ _ _ ?_; conv => whnf)
            refine ⟨fun q2 => ?_, fun q2 => ?_⟩
            · rw [if_neg (by rintro (y | y); exact q y; exact q2 y)] at hp
              repeat (refine hX _ _ _ _ ?_; conv => whnf)
              exact hp
            · rw [if_pos (Or.inr q2)] at hp
              repeat (refine hX _ _ _ _ ?_; conv => whnf)
              exact hp
        | succ m ih =>
          intro t wh le l7 ht hp
          have ef : z_bst (z_wa z (z_nt b) l) (m + 1) t wh le = if z_wa z (z_nt b) l t < le then z_bst (z_wa z (z_nt b) l) m (t + 1) (nI t) (z_wa z (z_nt b) l t) else z_bst (z_wa z (z_nt b) l) m (t + 1) wh le := rfl
          rw [ef] at hp
          repeat (refine hX _ _ _ _ ?_; conv => whnf)
          refine ⟨fun q => absurd q (nI_nlt (a := 40) (by omega) (by omega)), fun _ => ?_⟩
          repeat (refine hX _ _ _ _ ?_; conv => whnf)
          refine hwa l t (fun s => z_run (z_up (zG z) (4 * 2 + z_nt b) (nI s)) t (16 + z_nt b)) D2 _ (by omega) (fun s hs => f3 s t hs (by omega)) ?_
          change X 83 _ [.int (z_wa z (z_nt b) l t)] D2
          repeat (refine hX _ _ _ _ ?_; conv => whnf)
          refine ⟨fun q => ?_, fun q => ?_⟩
          · rw [if_neg (by rw [z_lt]; have := z_le.mp q; omega)] at hp
            repeat (refine hX _ _ _ _ ?_; conv => whnf)
            refine ⟨fun _ => ?_, fun y => absurd q y⟩
            iterate 4 (refine hX _ _ _ _ ?_; conv => whnf)
            rw [nI_1]
            exact ih (t + 1) _ _ _ (by omega) hp
          · have q3 : ¬ le.toInt ≤ (z_wa z (z_nt b) l t).toInt := fun y => q (z_le.mpr y)
            rw [if_pos (by rw [z_lt]; omega)] at hp
            repeat (refine hX _ _ _ _ ?_; conv => whnf)
            refine ⟨fun y => absurd y q, fun _ => ?_⟩
            iterate 5 (refine hX _ _ _ _ ?_; conv => whnf)
            rw [nI_1]
            exact ih (t + 1) _ _ _ (by omega) hp
      have cnt : ∀ (m i : Nat), i + m = 10 → X 38 [some (.ref 67), some (.int (nI (z_nt b))), some (.int w), some (.int l), some (.int (z_cn l i)), some (.int (nI i)), none, none] [] D2 := by
        intro m
        induction m with
        | zero =>
          intro i hi
          have hi : i = 10 := by omega
          subst hi
          repeat (refine hX _ _ _ _ ?_; conv => whnf)
          refine ⟨fun _ => ?_, fun h => absurd h (by decide)⟩
          iterate 4 (refine hX _ _ _ _ ?_; conv => whnf)
          exact loop 41 0 (-4) (z_cn l 10) none (by omega) h
        | succ m ih =>
          intro i hi
          repeat (refine hX _ _ _ _ ?_; conv => whnf)
          refine ⟨fun q => absurd q (nI_nlt (a := 9) (by omega) (by omega)), fun _ => ?_⟩
          iterate 10 (refine hX _ _ _ _ ?_; conv => whnf)
          rw [nI_1]
          exact ih (i + 1) (by omega)
      exact cnt 10 0 (by omega)
    · rw [if_neg (by rw [e0, e5]; decide)] at h
      repeat (refine hX _ _ _ _ ?_; conv => whnf)
      refine ⟨fun h => absurd h (by decide), fun _ => ?_⟩
      repeat (refine hX _ _ _ _ ?_; conv => whnf)
      exact h D hM (fun _ _ => rfl)
  · rw [if_neg (by rw [e0]; simp)] at h
    repeat (refine hX _ _ _ _ ?_; conv => whnf)
    refine ⟨fun _ => ?_, fun h => absurd h (by decide)⟩
    repeat (refine hX _ _ _ _ ?_; conv => whnf)
    exact h D hM (fun _ _ => rfl)
