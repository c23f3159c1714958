set_option maxHeartbeats 4000000 in
theorem t_m_count {N : Nat} {Ga : pm_Ga} : ms1 (pm_up N Ga) 171 r_count := by
  intro z w D post hz hM h
  obtain ⟨g1, g2, g3, g4, g5, g6, g7, g8⟩ := hz.1
  have h := h D hM (fun _ _ => rfl)
  obtain ⟨k0, k1, _, _⟩ := hM.2.1
  have v0 : vp_in 0 2 := vp_in_nI (show 0 < 2 by decide) (by decide)
  have v1 : vp_in 1 2 := vp_in_nI (show 1 < 2 by decide) (by decide)
  have c0 : Int32.toNatClampNeg 0 = 0 := rfl
  have c1 : Int32.toNatClampNeg 1 = 1 := rfl
  obtain ⟨v24, c24⟩ := z_lit (k := 24) 24 (by decide) (by decide)
  unfold r_count at h
  refine ⟨rfl, fun X hX => ?_⟩
  replace hX : ∀ pc L st D, pm_F N Ga tbX5_count (some .int) post X pc L st D → X pc L st D := hX
  change X 0 [some (.ref 67), some (.int w), none, none, none] [] D
  iterate 6 (refine hX _ _ _ _ ?_; conv => whnf)
  have loop : ∀ (m b : Nat), b + m = z_n (zG z) → X 7 [some (.ref 67), some (.int w), some (.int (z_sum (fun b => zG z (4 * 2 + b)) b)), some (.int (z_sum (fun b => zG z (4 * 3 + b)) b)), some (.int (nI b))] [] D := by
    intro m
    induction m with
    | zero =>
      intro b hb
      have hb : b = z_n (zG z) := by omega
      subst hb
      repeat (refine hX _ _ _ _ ?_; conv => whnf)
      refine ⟨v24, ?_⟩
      rw [c24, z_M0 hM.1 (by decide), g1]
      repeat (refine hX _ _ _ _ ?_; conv => whnf)
      refine ⟨fun _ => ?_, fun q => absurd (nI_le (Nat.le_refl _) (by omega)) q⟩
      repeat (refine hX _ _ _ _ ?_; conv => whnf)
      refine ⟨fun q => ?_, fun q => ?_, fun q => ?_, fun q => ?_, fun q => ?_, fun q => ?_, fun q => ?_, trivial⟩
      · repeat (refine hX _ _ _ _ ?_; conv => whnf)
        have n0 : ¬ w = 0 := fun e => by rw [e] at q; exact absurd q (by decide)
        have n1 : ¬ w = 1 := fun e => by rw [e] at q; exact absurd q (by decide)
        have n2 : ¬ w = 2 := fun e => by rw [e] at q; exact absurd q (by decide)
        have n3 : ¬ w = 3 := fun e => by rw [e] at q; exact absurd q (by decide)
        have n4 : ¬ w = 4 := fun e => by rw [e] at q; exact absurd q (by decide)
        have n5 : ¬ w = 5 := fun e => by rw [e] at q; exact absurd q (by decide)
        simp only [n0, n1, n2, n3, n4, n5, if_false] at h
        exact h
      · have e : w = 0 := z_sw0 q
        subst e
        repeat (refine hX _ _ _ _ ?_; conv => whnf)
        rw [hM.2.2.2.1.1]
        exact h
      · have e : w = 1 := z_sw0 q
        subst e
        repeat (refine hX _ _ _ _ ?_; conv => whnf)
        refine ⟨v0, ?_⟩
        repeat (refine hX _ _ _ _ ?_; conv => whnf)
        rw [c0, k0]
        change post (some (.int (z_bi (zK z 0) + z_bi (zK z 1)))) D at h
        generalize zK z 0 = u0 at h
        cases u0
        all_goals
          refine ⟨fun q => ?_, fun q => ?_⟩
          all_goals first | exact absurd rfl q | exact absurd q (by decide) | skip
          repeat (refine hX _ _ _ _ ?_; conv => whnf)
          refine ⟨v1, ?_⟩
          repeat (refine hX _ _ _ _ ?_; conv => whnf)
          rw [c1, k1]
          generalize zK z 1 = u1 at h
          cases u1
          all_goals
            refine ⟨fun q => ?_, fun q => ?_⟩
            all_goals first | exact absurd rfl q | exact absurd q (by decide) | skip
            repeat (refine hX _ _ _ _ ?_; conv => whnf)
            exact h
      · have e : w = 2 := z_sw0 q
        subst e
        repeat (refine hX _ _ _ _ ?_; conv => whnf)
        rw [hM.2.2.1.1]
        exact h
      · have e : w = 3 := z_sw0 q
        subst e
        obtain ⟨s0, s1⟩ := hM.2.2.2.2.1 0 (by decide)
        change post (some (.int (z_len (zH z 0)))) D at h
        have w0 : vp_in 0 4 := vp_in_nI (show 0 < 4 by decide) (by decide)
        repeat (refine hX _ _ _ _ ?_; conv => whnf)
        refine ⟨w0, ?_⟩
        repeat (refine hX _ _ _ _ ?_; conv => whnf)
        rw [c0]
        cases hh : zH z 0 with
        | none =>
          rw [hh] at h
          rw [s0 hh]
          refine ⟨fun h => absurd h (by decide), fun _ => ?_⟩
          repeat (refine hX _ _ _ _ ?_; conv => whnf)
          exact h
        | some q =>
          obtain ⟨a, n⟩ := q
          obtain ⟨y1, y2, _⟩ := s1 a n hh
          have hb := (hz.2.2.2.2.2 0 (by decide) a n hh).1
          rw [hh] at h
          rw [y2]
          refine ⟨fun _ => ?_, fun y => ?_⟩
          · repeat (refine hX _ _ _ _ ?_; conv => whnf)
            refine ⟨w0, ?_⟩
            repeat (refine hX _ _ _ _ ?_; conv => whnf)
            rw [c0, y1]
            exact h
          · have y3 := congrArg Int32.toInt y
            rw [z_tI (by omega)] at y3
            have : (-4 : Int32).toInt = -4 := rfl
            omega
      · have e : w = 4 := z_sw0 q
        subst e
        repeat (refine hX _ _ _ _ ?_; conv => whnf)
        exact h
      · have e : w = 5 := z_sw0 q
        subst e
        repeat (refine hX _ _ _ _ ?_; conv => whnf)
        exact h
    | succ m ih =>
      intro b hb
      have ih := ih (b + 1) (by omega)
      repeat (refine hX _ _ _ _ ?_; conv => whnf)
      refine ⟨v24, ?_⟩
      rw [c24, z_M0 hM.1 (by decide), g1]
      repeat (refine hX _ _ _ _ ?_; conv => whnf)
      refine ⟨fun q => absurd q (nI_ge (by omega) (by omega)), fun _ => ?_⟩
      repeat (refine hX _ _ _ _ ?_; conv => whnf)
      rw [z_ix1' 8 b 8 (by decide)]
      refine ⟨vp_in_nI (by omega) (by decide), ?_⟩
      rw [nI_clamp (by omega), z_M0 hM.1 (by omega)]
      repeat (refine hX _ _ _ _ ?_; conv => whnf)
      rw [z_ix1' 12 b 12 (by decide)]
      refine ⟨vp_in_nI (by omega) (by decide), ?_⟩
      rw [nI_clamp (by omega), z_M0 hM.1 (by omega)]
      iterate 4 (refine hX _ _ _ _ ?_; conv => whnf)
      rw [nI_1]
      exact ih
  exact loop (z_n (zG z)) 0 (by omega)
