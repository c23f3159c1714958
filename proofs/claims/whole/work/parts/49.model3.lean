theorem MR.tried {D D' : pm_Mem} {z : z_Z} (h : MR D z) (hf : z_MT D D') : MR D' z := h.same (fun r h1 h2 _ h4 _ => hf.1 r h1 h2 h4) hf.2.1 (fun k hk => hf.2.2 k (by omega))
theorem z_MT.out {D D' : pm_Mem} (hf : z_MT D D') : ∀ r, (r < 67 ∨ 80 ≤ r) → D' r = D r := fun r hr => hf.1 r (by omega) (by omega) (by omega)
theorem z_tk_none {T : Int} {g : z_P} (h : z_G T g) : z_tk (-4) false g = z_tick g := by
  unfold z_tk z_tick
  rw [z_pl_none h]
set_option maxHeartbeats 2000000 in
theorem t_m_ticks {N : Nat} {Ga : pm_Ga} (hin : sp_in Ga) (htk : sp_tickOn Ga) : ms1 (pm_up N Ga) 137 r_ticks := by
  intro z n D post hz hM h
  have hG := hz.1
  obtain ⟨g1, g2, g3, g4, g5, g6, g7, g8⟩ := hz.1
  obtain ⟨v51, c51⟩ := z_lit (k := 51) 51 (by decide) (by decide)
  unfold r_ticks at h
  refine ⟨rfl, fun X hX => ?_⟩
  replace hX : ∀ pc L st D, pm_F N Ga tbX5_ticks (some .int) post X pc L st D → X pc L st D := hX
  change X 0 [some (.ref 67), some (.int n), none] [] D
  repeat (refine hX _ _ _ _ ?_; conv => whnf)
  refine m_ib hin 0 100 rfl rfl (fun e => ?_) (fun e => ?_)
  · obtain ⟨e1, e2, e3, e4⟩ := z_ib_of e (by decide) (by decide)
    have e5 := z_ib_iff.mp e
    rw [if_pos e] at h
    have ea : (zG z 51 + n).toInt = (zG z 51).toInt + n.toInt := z_add (by have := g6.1; omega) (by have := g6.2; omega)
    repeat (refine hX _ _ _ _ ?_; conv => whnf)
    refine ⟨fun _ => ?_, fun h => absurd h (by decide)⟩
    repeat (refine hX _ _ _ _ ?_; conv => whnf)
    refine ⟨v51, ?_⟩
    rw [c51, z_M0 hM.1 (by decide)]
    repeat (refine hX _ _ _ _ ?_; conv => whnf)
    refine ⟨fun q => ?_, fun q => ?_⟩
    · rw [z_le, ea, z_t9] at q
      rw [if_neg (by omega)] at h
      iterate 5 (refine hX _ _ _ _ ?_; conv => whnf)
      have loop : ∀ (m i : Nat) (D1 : pm_Mem), i + m = z_nt n → MR D1 (uG z (z_run (zG z) i)) → (∀ r, (r < 67 ∨ 80 ≤ r) → D1 r = D r) → D1 67 14 = z_rg (zG z) i → X 39 [some (.ref 67), some (.int n), some (.int (nI i))] [] D1 := by
        intro m
        induction m with
        | zero =>
          intro i D1 hi f1 f2 f3
          have hi : i = z_nt n := by omega
          repeat (refine hX _ _ _ _ ?_; conv => whnf)
          rw [e1, hi]
          refine ⟨fun _ => ?_, fun q => absurd (nI_le (Nat.le_refl _) (by omega)) q⟩
          repeat (refine hX _ _ _ _ ?_; conv => whnf)
          rw [f3, hi]
          rw [hi] at f1
          exact h D1 f1 f2
        | succ m ih =>
          intro i D1 hi f1 f2 f3
          obtain ⟨k1, k2, k3⟩ := hG.run i (by omega)
          have et := z_tk_none k1
          repeat (refine hX _ _ _ _ ?_; conv => whnf)
          rw [e1]
          refine ⟨fun q => absurd q (nI_ge (by omega) (by omega)), fun _ => ?_⟩
          repeat (refine hX _ _ _ _ ?_; conv => whnf)
          refine htk 0 (-4) 0 false (z_run (zG z) i) (z_run (zG z) (i + 1)) D1 _ _ _ (by omega) (by omega) f1.1 k1 f1.2.2.2.2.2.1.2 rfl (Or.inl ⟨rfl, et.symm⟩) (hG.run (i + 1) (by omega)).1 (fun D2 c1 c2 c3 c4 c5 c6 c7 => ?_)
          rw [et] at c1
          rw [z_pl_none k1] at c5
          iterate 2 (refine hX _ _ _ _ ?_; conv => whnf)
          rw [nI_1, ← e1]
          refine ih (i + 1) D2 (by omega) (f1.now c1 (fun r h1 h2 _ h4 _ => c2 r h1 h2 h4) c3 (fun k h1 _ => c4 k (by omega))) (fun r hr => by rw [c2 r (by omega) (by omega) (by omega)]; exact f2 r hr) ?_
          rw [c5, f3]
          rfl
      refine loop (z_nt n) 0 _ (by omega) ?_ (fun r hr => pm_mu_ne _ _ _ (by omega)) (pm_mu_at _ _ _ _)
      exact hM.same (fun r h1 _ _ _ _ => pm_mu_ne _ _ _ h1) (fun k h1 _ _ _ => pm_mu_k _ _ _ _ h1) (fun k _ => pm_mu_r _ _ _ _ (by decide))
    · rw [z_le, ea, z_t9] at q
      rw [if_pos (by omega)] at h
      repeat (refine hX _ _ _ _ ?_; conv => whnf)
      exact h D hM (fun _ _ => rfl)
  · rw [if_neg (by rw [e]; decide)] at h
    repeat (refine hX _ _ _ _ ?_; conv => whnf)
    refine ⟨fun h => absurd h (by decide), fun _ => ?_⟩
    repeat (refine hX _ _ _ _ ?_; conv => whnf)
    exact h D hM (fun _ _ => rfl)
set_option maxHeartbeats 2000000 in
theorem t_m_runs {N : Nat} {Ga : pm_Ga} (hil : sp_isLong Ga) (hin : sp_in Ga) (htg : sp_ticksGo Ga) (hla : sp_lastOn Ga) : ms2 (pm_up N Ga) 140 r_runs := by
  intro z n w D post hz hM h
  have hG := hz.1
  unfold r_runs at h
  refine ⟨rfl, fun X hX => ?_⟩
  replace hX : ∀ pc L st D, pm_F N Ga tbX5_runs (some .int) post X pc L st D → X pc L st D := hX
  change X 0 [some (.ref 67), some (.int n), some (.int w), none] [] D
  repeat (refine hX _ _ _ _ ?_; conv => whnf)
  refine hil n D _ (fun e => ?_) (fun e => ?_)
  · obtain ⟨e1, e2, e3, e4⟩ := z_ib_of e (by decide) (by decide)
    repeat (refine hX _ _ _ _ ?_; conv => whnf)
    refine ⟨fun h => absurd h (by decide), fun _ => ?_⟩
    repeat (refine hX _ _ _ _ ?_; conv => whnf)
    refine m_ib hin 0 3 rfl rfl (fun e5 => ?_) (fun e5 => ?_)
    · have e6 := z_ib_iff.mp e5
      rw [if_pos (by rw [e, e5]; rfl)] at h
      repeat (refine hX _ _ _ _ ?_; conv => whnf)
      refine ⟨fun _ => ?_, fun h => absurd h (by decide)⟩
      repeat (refine hX _ _ _ _ ?_; conv => whnf)
      rw [e1]
      refine htg 0 (z_nt n) (-4) (zG z) (zG z) D _ 9999 9999 (Or.inl (by omega)) (by omega) (by omega) hM.1 hG hM.2.2.2.2.2.1.2 hM.1 hG (fun D1 f1 f2 f3 f4 => ?_)
      obtain ⟨k1, k2, k3⟩ := z_runL_none hG (z_nt n) (by omega)
      have kw := z_widL_none hG (g0 := zG z) rfl (z_nt n) (by omega)
      obtain ⟨j1, j2, j3⟩ := hG.run (z_nt n) (by omega)
      rw [k1] at f1
      rw [k2] at f3
      rw [k3] at f4
      rw [kw]
      have h := h D1 (hM.tried f2) f2.out
      repeat (refine hX _ _ _ _ ?_; conv => whnf)
      refine ⟨fun q => ?_, fun q => ?_⟩
      · rw [if_neg q] at h
        repeat (refine hX _ _ _ _ ?_; conv => whnf)
        refine ⟨fun q2 => ?_, fun q2 => ?_⟩
        · rw [if_neg q2] at h
          repeat (refine hX _ _ _ _ ?_; conv => whnf)
          refine ⟨fun q3 => ?_, fun q3 => ?_⟩
          · rw [if_neg q3] at h
            repeat (refine hX _ _ _ _ ?_; conv => whnf)
            rw [f4]
            exact h
          · rw [if_pos q3] at h
            repeat (refine hX _ _ _ _ ?_; conv => whnf)
            refine hla 208 _ D1 _ (by omega) f1 j1.1 j1.2.1 ?_
            repeat (refine hX _ _ _ _ ?_; conv => whnf)
            exact h
        · rw [if_pos q2] at h
          repeat (refine hX _ _ _ _ ?_; conv => whnf)
          exact h
      · rw [if_pos q] at h
        repeat (refine hX _ _ _ _ ?_; conv => whnf)
        rw [f3]
        exact h
    · rw [if_neg (by rw [e, e5]; decide)] at h
      repeat (refine hX _ _ _ _ ?_; conv => whnf)
      refine ⟨fun h => absurd h (by decide), fun _ => ?_⟩
      repeat (refine hX _ _ _ _ ?_; conv => whnf)
      exact h D hM (fun _ _ => rfl)
  · rw [if_neg (by rw [e]; simp)] at h
    repeat (refine hX _ _ _ _ ?_; conv => whnf)
    refine ⟨fun _ => ?_, fun h => absurd h (by decide)⟩
    repeat (refine hX _ _ _ _ ?_; conv => whnf)
    exact h D hM (fun _ _ => rfl)
set_option maxHeartbeats 2000000 in
theorem t_m_ahead {N : Nat} {Ga : pm_Ga} (hib : sp_isBead Ga) (hil : sp_isLong Ga) (hin : sp_in Ga) (htg : sp_ticksGo Ga) : ms3 (pm_up N Ga) 141 r_ahead := by
  intro z b n w D post hz hM h
  have hG := hz.1
  obtain ⟨g1, g2, g3, g4, g5, g6, g7, g8⟩ := hz.1
  unfold r_ahead at h
  refine ⟨rfl, fun X hX => ?_⟩
  replace hX : ∀ pc L st D, pm_F N Ga tbX5_ahead (some .int) post X pc L st D → X pc L st D := hX
  change X 0 [some (.ref 67), some (.int b), some (.int n), some (.int w)] [] D
  repeat (refine hX _ _ _ _ ?_; conv => whnf)
  refine hib b (zG z) D _ hM.1 g1 g2 (fun e0 => ?_) (fun e0 => ?_)
  · obtain ⟨b1, b2, b3, b4⟩ := z_isb_of e0 g2
    repeat (refine hX _ _ _ _ ?_; conv => whnf)
    refine ⟨fun h => absurd h (by decide), fun _ => ?_⟩
    repeat (refine hX _ _ _ _ ?_; conv => whnf)
    refine hil n D _ (fun e => ?_) (fun e => ?_)
    · obtain ⟨e1, e2, e3, e4⟩ := z_ib_of e (by decide) (by decide)
      repeat (refine hX _ _ _ _ ?_; conv => whnf)
      refine ⟨fun h => absurd h (by decide), fun _ => ?_⟩
      repeat (refine hX _ _ _ _ ?_; conv => whnf)
      refine m_ib hin 0 1 rfl rfl (fun e5 => ?_) (fun e5 => ?_)
      · rw [if_pos (by rw [e0, e, e5]; rfl)] at h
        repeat (refine hX _ _ _ _ ?_; conv => whnf)
        refine ⟨fun _ => ?_, fun h => absurd h (by decide)⟩
        repeat (refine hX _ _ _ _ ?_; conv => whnf)
        rw [e1]
        refine htg 0 (z_nt n) (-4) (zG z) (zG z) D _ 9999 9999 (Or.inl (by omega)) (by omega) (by omega) hM.1 hG hM.2.2.2.2.2.1.2 hM.1 hG (fun D1 f1 f2 f3 f4 => ?_)
        rw [(z_runL_none hG (z_nt n) (by omega)).1] at f1
        have h := h D1 (hM.tried f2) f2.out
        repeat (refine hX _ _ _ _ ?_; conv => whnf)
        refine ⟨fun q => ?_, fun q => ?_⟩
        · rw [if_neg q] at h
          repeat (refine hX _ _ _ _ ?_; conv => whnf)
          rw [b2, z_ix1' 228 (z_nt b) 228 (by decide)]
          refine ⟨vp_in_nI (by omega) (by decide), ?_⟩
          rw [nI_clamp (by omega), show 228 + z_nt b = 208 + (20 + z_nt b) by omega, f1 _ (by omega)]
          repeat (refine hX _ _ _ _ ?_; conv => whnf)
          exact h
        · rw [if_pos q] at h
          repeat (refine hX _ _ _ _ ?_; conv => whnf)
          rw [b2, z_ix1' 224 (z_nt b) 224 (by decide)]
          refine ⟨vp_in_nI (by omega) (by decide), ?_⟩
          rw [nI_clamp (by omega), show 224 + z_nt b = 208 + (16 + z_nt b) by omega, f1 _ (by omega)]
          repeat (refine hX _ _ _ _ ?_; conv => whnf)
          exact h
      · rw [if_neg (by rw [e0, e, e5]; decide)] at h
        repeat (refine hX _ _ _ _ ?_; conv => whnf)
        refine ⟨fun h => absurd h (by decide), fun _ => ?_⟩
        repeat (refine hX _ _ _ _ ?_; conv => whnf)
        exact h D hM (fun _ _ => rfl)
    · rw [if_neg (by rw [e0, e]; simp)] at h
      repeat (refine hX _ _ _ _ ?_; conv => whnf)
      refine ⟨fun _ => ?_, fun h => absurd h (by decide)⟩
      repeat (refine hX _ _ _ _ ?_; conv => whnf)
      exact h D hM (fun _ _ => rfl)
  · rw [if_neg (by rw [e0]; simp)] at h
    repeat (refine hX _ _ _ _ ?_; conv => whnf)
    refine ⟨fun _ => ?_, fun h => absurd h (by decide)⟩
    repeat (refine hX _ _ _ _ ?_; conv => whnf)
    exact h D hM (fun _ _ => rfl)
theorem z_MT.copy {D D' : pm_Mem} (h : z_MF 208 D D') : z_MT D D' := ⟨fun r _ h2 _ => h.1 r h2, fun k _ _ _ _ => by rw [h.1 67 (by decide)], fun k hk => h.2 k (by omega)⟩
theorem z_MT.trans {D D1 D2 : pm_Mem} (h1 : z_MT D D1) (h2 : z_MT D1 D2) : z_MT D D2 := ⟨fun r a b c => (h2.1 r a b c).trans (h1.1 r a b c), fun k a b c d => (h2.2.1 k a b c d).trans (h1.2.1 k a b c d), fun k hk => (h2.2.2 k hk).trans (h1.2.2 k hk)⟩
theorem z_M.tried {D D' : pm_Mem} {p : Nat} {g : z_P} (h : z_M D p g) (hf : z_MT D D') (hp : p + 52 ≤ 208 ∨ 260 ≤ p) : z_M D' p g := fun k hk => by rw [hf.2.2 _ (by omega)]; exact h k hk
set_option maxHeartbeats 2000000 in
theorem t_m_when {N : Nat} {Ga : pm_Ga} (hib : sp_isBead Ga) (hin : sp_in Ga) (hcp : sp_copies Ga) (htk : sp_tickOn Ga) : ms2 (pm_up N Ga) 142 r_when := by
  intro z b v D post hz hM h
  have hG := hz.1
  obtain ⟨g1, g2, g3, g4, g5, g6, g7, g8⟩ := hz.1
  unfold r_when at h
  refine ⟨rfl, fun X hX => ?_⟩
  replace hX : ∀ pc L st D, pm_F N Ga tbX5_when (some .int) post X pc L st D → X pc L st D := hX
  change X 0 [some (.ref 67), some (.int b), some (.int v), none, none, none] [] D
  repeat (refine hX _ _ _ _ ?_; conv => whnf)
  refine hib b (zG z) D _ hM.1 g1 g2 (fun e0 => ?_) (fun e0 => ?_)
  · obtain ⟨b1, b2, b3, b4⟩ := z_isb_of e0 g2
    repeat (refine hX _ _ _ _ ?_; conv => whnf)
    refine ⟨fun h => absurd h (by decide), fun _ => ?_⟩
    repeat (refine hX _ _ _ _ ?_; conv => whnf)
    refine m_ib hin 0 300 rfl rfl (fun e => ?_) (fun e => ?_)
    · have e9 := z_ib_iff.mp e
      rw [if_pos (by rw [e0, e]; rfl)] at h
      have i16 := z_ix1' 16 (z_nt b) 16 (by decide)
      have i224 := z_ix1' 224 (z_nt b) 224 (by decide)
      repeat (refine hX _ _ _ _ ?_; conv => whnf)
      refine ⟨fun _ => ?_, fun h => absurd h (by decide)⟩
      repeat (refine hX _ _ _ _ ?_; conv => whnf)
      rw [b2, i16]
      refine ⟨vp_in_nI (by omega) (by decide), ?_⟩
      rw [nI_clamp (by omega), z_M0 hM.1 (by omega), ← b2]
      repeat (refine hX _ _ _ _ ?_; conv => whnf)
      refine hcp 0 208 D _ (by omega) (by omega) (by omega) (fun D1 f1 f2 => ?_)
      have hM1 : z_M D1 208 (zG z) := fun k hk => by rw [f1 k hk]; exact hM.1 k hk
      have hp0 := (g7 (z_nt b) b1).2.2.2.2.1
      have ep : (v - zG z (16 + z_nt b)).toInt = v.toInt - (zG z (16 + z_nt b)).toInt := z_sub (by have := hp0.1; have := hp0.2; omega) (by have := hp0.1; have := hp0.2; omega)
      iterate 2 (refine hX _ _ _ _ ?_; conv => whnf)
      have loop : ∀ (m t : Nat) (D2 : pm_Mem) (l5 : Option Value), t + m = 201 → z_M D2 208 (z_run (zG z) t) → z_MT D D2 → mP D (z_fst (fun t => z_wh (zG z (16 + z_nt b)) (z_run (zG z) t (16 + z_nt b)) v) m t, z) post → X 45 [some (.ref 67), some (.int b), some (.int v), some (.int (v - zG z (16 + z_nt b))), some (.int (nI t)), l5] [] D2 := by
        intro m
        induction m with
        | zero =>
          intro t D2 l5 ht c1 c2 hp
          have ht : t = 201 := by omega
          subst ht
          repeat (refine hX _ _ _ _ ?_; conv => whnf)
          refine ⟨fun _ => ?_, fun q => absurd (by decide : (200 : Int32) < nI 201) q⟩
          repeat (refine hX _ _ _ _ ?_; conv => whnf)
          exact hp D2 (hM.tried c2) c2.out
        | succ m ih =>
          intro t D2 l5 ht c1 c2 hp
          obtain ⟨k1, k2, k3⟩ := hG.run t (by omega)
          have hpt := (k1.2.2.2.2.2.2.1 (z_nt b) (by rw [k2]; exact b1)).2.2.2.2.1
          have em : (z_run (zG z) t (16 + z_nt b) - zG z (16 + z_nt b)).toInt = (z_run (zG z) t (16 + z_nt b)).toInt - (zG z (16 + z_nt b)).toInt := z_sub (by have := hp0.1; have := hp0.2; have := hpt.1; have := hpt.2; omega) (by have := hp0.1; have := hp0.2; have := hpt.1; have := hpt.2; omega)
          have u0 : (0 : Int32).toInt = 0 := rfl
          have ew : z_wh (zG z (16 + z_nt b)) (z_run (zG z) t (16 + z_nt b)) v = true ↔ (v.toInt = (zG z (16 + z_nt b)).toInt ∨ ((zG z (16 + z_nt b)).toInt < v.toInt ∧ v.toInt ≤ (z_run (zG z) t (16 + z_nt b)).toInt)) ∨ (v.toInt < (zG z (16 + z_nt b)).toInt ∧ (z_run (zG z) t (16 + z_nt b)).toInt ≤ v.toInt) := by
            unfold z_wh
            simp only [Bool.or_eq_true, Bool.and_eq_true, decide_eq_true_eq, z_eq, z_lt, z_le]
          have ef : z_fst (fun t => z_wh (zG z (16 + z_nt b)) (z_run (zG z) t (16 + z_nt b)) v) (m + 1) t = if z_wh (zG z (16 + z_nt b)) (z_run (zG z) t (16 + z_nt b)) v = true then nI t else z_fst (fun t => z_wh (zG z (16 + z_nt b)) (z_run (zG z) t (16 + z_nt b)) v) m (t + 1) := rfl
          rw [ef] at hp
          have yes : (v.toInt = (zG z (16 + z_nt b)).toInt ∨ ((zG z (16 + z_nt b)).toInt < v.toInt ∧ v.toInt ≤ (z_run (zG z) t (16 + z_nt b)).toInt)) ∨ (v.toInt < (zG z (16 + z_nt b)).toInt ∧ (z_run (zG z) t (16 + z_nt b)).toInt ≤ v.toInt) → X 99 [some (.ref 67), some (.int b), some (.int v), some (.int (v - zG z (16 + z_nt b))), some (.int (nI t)), some (.int (z_run (zG z) t (16 + z_nt b) - zG z (16 + z_nt b)))] [] D2 := by
            intro q
            rw [if_pos (ew.mpr q)] at hp
            repeat (refine hX _ _ _ _ ?_; conv => whnf)
            exact hp D2 (hM.tried c2) c2.out
          have no : ¬ ((v.toInt = (zG z (16 + z_nt b)).toInt ∨ ((zG z (16 + z_nt b)).toInt < v.toInt ∧ v.toInt ≤ (z_run (zG z) t (16 + z_nt b)).toInt)) ∨ (v.toInt < (zG z (16 + z_nt b)).toInt ∧ (z_run (zG z) t (16 + z_nt b)).toInt ≤ v.toInt)) → X 102 [some (.ref 67), some (.int b), some (.int v), some (.int (v - zG z (16 + z_nt b))), some (.int (nI t)), some (.int (z_run (zG z) t (16 + z_nt b) - zG z (16 + z_nt b)))] [] D2 := by
            intro q
            rw [if_neg (fun w => q (ew.mp w))] at hp
            repeat (refine hX _ _ _ _ ?_; conv => whnf)
            refine htk 208 (-4) 0 false _ (zG z) D2 _ _ 9999 (by omega) (by omega) c1 k1 (by rw [c2.2.1 19 (by decide) (by decide) (by decide) (by decide)]; exact hM.2.2.2.2.2.1.2) rfl (Or.inr ⟨by omega, hM.1.tried c2 (by omega)⟩) hG (fun D3 j1 j2 j3 j4 j5 j6 j7 => ?_)
            rw [z_tk_none k1] at j1
            iterate 2 (refine hX _ _ _ _ ?_; conv => whnf)
            rw [nI_1]
            exact ih (t + 1) D3 _ (by omega) j1 (c2.trans ⟨j2, j3, fun k hk => j4 k (by omega)⟩) hp
          repeat (refine hX _ _ _ _ ?_; conv => whnf)
          refine ⟨fun q => absurd q (nI_nlt (a := 200) (b := t) (by omega) (by omega)), fun _ => ?_⟩
          repeat (refine hX _ _ _ _ ?_; conv => whnf)
          rw [b2, i224]
          refine ⟨vp_in_nI (by omega) (by decide), ?_⟩
          rw [nI_clamp (by omega), show 224 + z_nt b = 208 + (16 + z_nt b) by omega, c1 _ (by omega)]
          repeat (refine hX _ _ _ _ ?_; conv => whnf)
          rw [i16]
          refine ⟨vp_in_nI (by omega) (by decide), ?_⟩
          rw [nI_clamp (by omega), z_M0 (hM.1.tried c2 (by omega)) (by omega), ← b2]
          repeat (refine hX _ _ _ _ ?_; conv => whnf)
          refine ⟨fun q => ?_, fun q => ?_⟩
          · exact yes (by rw [z_eq, ep, u0] at q; omega)
          · rw [z_eq, ep, u0] at q
            repeat (refine hX _ _ _ _ ?_; conv => whnf)
            refine ⟨fun q2 => ?_, fun q2 => ?_⟩
            · rw [z_le, ep, u0] at q2
              repeat (refine hX _ _ _ _ ?_; conv => whnf)
              refine ⟨fun q3 => absurd (z_le.mp q3) (by rw [ep, u0]; omega), fun _ => ?_⟩
              repeat (refine hX _ _ _ _ ?_; conv => whnf)
              refine ⟨fun q4 => ?_, fun q4 => ?_⟩
              · exact no (by rw [z_lt, ep, em] at q4; omega)
              · exact yes (by rw [z_lt, ep, em] at q4; omega)
            · rw [z_le, ep, u0] at q2
              repeat (refine hX _ _ _ _ ?_; conv => whnf)
              refine ⟨fun q3 => ?_, fun q3 => ?_⟩
              · exact yes (by rw [z_le, ep, em] at q3; omega)
              · rw [z_le, ep, em] at q3
                repeat (refine hX _ _ _ _ ?_; conv => whnf)
                refine ⟨fun _ => ?_, fun q4 => absurd (z_le.mpr (by rw [ep, u0]; omega)) q4⟩
                exact no (by omega)
      exact loop 201 0 D1 none (by omega) hM1 (.copy f2) h
    · rw [if_neg (by rw [e0, e]; decide)] at h
      repeat (refine hX _ _ _ _ ?_; conv => whnf)
      refine ⟨fun h => absurd h (by decide), fun _ => ?_⟩
      repeat (refine hX _ _ _ _ ?_; conv => whnf)
      exact h D hM (fun _ _ => rfl)
  · rw [if_neg (by rw [e0]; simp)] at h
    repeat (refine hX _ _ _ _ ?_; conv => whnf)
    refine ⟨fun _ => ?_, fun h => absurd h (by decide)⟩
    repeat (refine hX _ _ _ _ ?_; conv => whnf)
    exact h D hM (fun _ _ => rfl)
theorem z_gone_0 {g : z_P} : ∀ n : Nat, n ≤ 4 → (∀ b, b < n → z_in (g (16 + b)) 0 300) → z_in (z_gone g n) 0 (300 * n) ∧ ((z_gone g n).toInt = 0 ↔ ∀ b, b < n → z_np g b = g (16 + b))
  | 0, _, _ => ⟨⟨by show (0 : Int) ≤ 0; omega, by show (0 : Int) ≤ 300 * 0; omega⟩, ⟨fun _ b hb => absurd hb (Nat.not_lt_zero b), fun _ => rfl⟩⟩
  | n + 1, hn, hb => by
    obtain ⟨⟨a1, a2⟩, a3⟩ := z_gone_0 n (by omega) (fun b h => hb b (by omega))
    have h1 := z_np_in g n
    have h2 := hb n (by omega)
    have e1 : (z_np g n - g (16 + n)).toInt = (z_np g n).toInt - (g (16 + n)).toInt := z_sub (by have := h1.1; have := h1.2; have := h2.1; have := h2.2; omega) (by have := h1.1; have := h1.2; have := h2.1; have := h2.2; omega)
    obtain ⟨⟨b1, b2⟩, b3⟩ := z_abs_in (v := z_np g n - g (16 + n)) (a := 300) ⟨by rw [e1]; have := h1.1; have := h1.2; have := h2.1; have := h2.2; omega, by rw [e1]; have := h1.1; have := h1.2; have := h2.1; have := h2.2; omega⟩ (by omega)
    have e2 : (z_gone g (n + 1)).toInt = (z_gone g n).toInt + (z_abs (z_np g n - g (16 + n))).toInt := z_add (by omega) (by omega)
    refine ⟨⟨by rw [e2]; omega, by rw [e2]; omega⟩, ?_⟩
    rw [e2]
    constructor
    · intro h b hbn
      by_cases e : b = n
      · subst e
        rw [z_eq]
        omega
      · exact a3.mp (by omega) b (by omega)
    · intro h
      have c1 := a3.mpr (fun b hb => h b (by omega))
      have c2 := h n (by omega)
      rw [z_eq] at c2
      omega
set_option maxHeartbeats 2000000 in
theorem t_m_rests {N : Nat} {Ga : pm_Ga} (hcp : sp_copies Ga) (hmv : sp_movesOn Ga) : ms0 (pm_up N Ga) 143 r_rests := by
  intro z D post hz hM h
  have hG := hz.1
  unfold r_rests at h
  refine ⟨rfl, fun X hX => ?_⟩
  replace hX : ∀ pc L st D, pm_F N Ga tbX5_rests (some .int) post X pc L st D → X pc L st D := hX
  change X 0 [some (.ref 67), none] [] D
  repeat (refine hX _ _ _ _ ?_; conv => whnf)
  refine hcp 0 208 D _ (by omega) (by omega) (by omega) (fun D1 f1 f2 => ?_)
  have hM1 : z_M D1 208 (zG z) := fun k hk => by rw [f1 k hk]; exact hM.1 k hk
  iterate 2 (refine hX _ _ _ _ ?_; conv => whnf)
  have loop : ∀ (m t : Nat) (D2 : pm_Mem), t + m = 201 → z_M D2 208 (z_mvs (zG z) t) → z_MT D D2 → mP D (z_fst (fun t => z_still1 (z_mvs (zG z) t) (z_n (zG z))) m t, z) post → X 10 [some (.ref 67), some (.int (nI t))] [] D2 := by
    intro m
    induction m with
    | zero =>
      intro t D2 ht c1 c2 hp
      have ht : t = 201 := by omega
      subst ht
      repeat (refine hX _ _ _ _ ?_; conv => whnf)
      refine ⟨fun _ => ?_, fun q => absurd (by decide : (200 : Int32) < nI 201) q⟩
      repeat (refine hX _ _ _ _ ?_; conv => whnf)
      exact hp D2 (hM.tried c2) c2.out
    | succ m ih =>
      intro t D2 ht c1 c2 hp
      obtain ⟨k1, k2⟩ := hG.mvs t (by omega)
      repeat (refine hX _ _ _ _ ?_; conv => whnf)
      refine ⟨fun q => absurd q (nI_nlt (a := 200) (b := t) (by omega) (by omega)), fun _ => ?_⟩
      repeat (refine hX _ _ _ _ ?_; conv => whnf)
      have c2' : z_MT D (pm_mu D2 67 14 0) := ⟨fun r h1 h2 h3 => by rw [pm_mu_ne _ _ _ h1]; exact c2.1 r h1 h2 h3, fun k h1 h2 h3 h4 => by rw [pm_mu_k _ _ _ _ h1]; exact c2.2.1 k h1 h2 h3 h4, fun k hk => by rw [pm_mu_r _ _ _ _ (by decide)]; exact c2.2.2 k hk⟩
      refine hmv 208 (z_mvs (zG z) t) (zG z) _ _ _ 9999 (by omega) (fun k hk => by rw [pm_mu_r _ _ _ _ (by decide)]; exact c1 k hk) k1 (Or.inr ⟨by omega, hM.1.tried c2' (by omega)⟩) hG (fun D3 j1 j2 j3 j4 j5 j6 j7 j8 j9 => ?_)
      have c3 : z_MT D D3 := c2'.trans ⟨j2, j3, fun k hk => j4 k (by omega)⟩
      rw [pm_mu_at, Int32.zero_add, k2] at j5
      rw [k2] at j8
      obtain ⟨-, eg⟩ := z_gone_0 (g := z_mvs (zG z) t) (z_n (zG z)) hG.2.1 (fun b hb => (k1.2.2.2.2.2.2.1 b (by rw [k2]; exact hb)).2.2.2.2.1)
      have es : z_still1 (z_mvs (zG z) t) (z_n (zG z)) = true ↔ (D3 67 14 = 0 ∧ D3 67 16 = 0) := by
        rw [z_still1_iff]
        constructor
        · intro hs
          refine ⟨?_, ?_⟩
          · rw [j5, z_eq]
            exact eg.mpr (fun b hb => Classical.byContradiction (fun q => hs ⟨b, hb, Or.inl q⟩))
          · exact j7.elim id (fun q => absurd (j8.mp q) (fun ⟨b, hb, hq⟩ => hs ⟨b, hb, Or.inr hq⟩))
        · rintro ⟨q1, q2⟩ ⟨b, hb, hq⟩
          rcases hq with hq | hq
          · rw [j5, z_eq] at q1
            exact hq (eg.mp q1 b hb)
          · have := j8.mpr ⟨b, hb, hq⟩
            rw [q2] at this
            exact absurd this (by decide)
      have ef : z_fst (fun t => z_still1 (z_mvs (zG z) t) (z_n (zG z))) (m + 1) t = if z_still1 (z_mvs (zG z) t) (z_n (zG z)) = true then nI t else z_fst (fun t => z_still1 (z_mvs (zG z) t) (z_n (zG z))) m (t + 1) := rfl
      rw [ef] at hp
      repeat (refine hX _ _ _ _ ?_; conv => whnf)
      refine ⟨fun q => ?_, fun q => ?_⟩
      · rw [if_neg (fun w => q (es.mp w).1)] at hp
        iterate 2 (refine hX _ _ _ _ ?_; conv => whnf)
        rw [nI_1]
        exact ih (t + 1) D3 (by omega) j1 c3 hp
      · repeat (refine hX _ _ _ _ ?_; conv => whnf)
        refine ⟨fun q2 => ?_, fun q2 => ?_⟩
        · rw [if_neg (fun w => q2 (es.mp w).2)] at hp
          iterate 2 (refine hX _ _ _ _ ?_; conv => whnf)
          rw [nI_1]
          exact ih (t + 1) D3 (by omega) j1 c3 hp
        · rw [if_pos (es.mpr ⟨q, q2⟩)] at hp
          repeat (refine hX _ _ _ _ ?_; conv => whnf)
          exact hp D3 (hM.tried c3) c3.out
  exact loop 201 0 D1 (by omega) hM1 (.copy f2) h
set_option maxHeartbeats 4000000 in
theorem t_m_bind {N : Nat} {Ga : pm_Ga} (hig : sp_isGood Ga) (hla : sp_lastOn Ga) : ms4 (pm_up N Ga) 130 r_bind := by
  intro z k r s m D post hz hM h
  obtain ⟨g1, g2, g3, g4, g5, g6, g7, g8⟩ := hz.1
  have hG := hz.1
  obtain ⟨v24, c24⟩ := z_lit (k := 24) 24 (by decide) (by decide)
  unfold r_bind at h
  have q0 : z_good 0 k = z_ib k 0 3 := z_good_t (w := 0) (by omega)
  have q1 : z_good 1 r = z_ib r 0 60 := z_good_t (w := 1) (by omega)
  have q2 : z_good 2 s = z_ib s 0 9 := z_good_t (w := 2) (by omega)
  have q3 : z_good 3 m = z_ib m 1 9 := z_good_t (w := 3) (by omega)
  refine ⟨rfl, fun X hX => ?_⟩
  replace hX : ∀ pc L st D, pm_F N Ga tbX5_bind (some .int) post X pc L st D → X pc L st D := hX
  change X 0 [some (.ref 67), some (.int k), some (.int r), some (.int s), some (.int m), none, none] [] D
  have bad : (z_ib k 0 3 && (z_ib r 0 60 && (z_ib s 0 9 && z_ib m 1 9))) = false → X 33 [some (.ref 67), some (.int k), some (.int r), some (.int s), some (.int m), none, none] [] D := by
    intro e
    rw [if_neg (by rw [e]; decide)] at h
    repeat (refine hX _ _ _ _ ?_; conv => whnf)
    exact h D hM (fun _ _ => rfl)
  repeat (refine hX _ _ _ _ ?_; conv => whnf)
  refine hig 0 k D _ (fun e1 => ?_) (fun e1 => ?_)
  · rw [q0] at e1
    repeat (refine hX _ _ _ _ ?_; conv => whnf)
    refine ⟨fun h => absurd h (by decide), fun _ => ?_⟩
    repeat (refine hX _ _ _ _ ?_; conv => whnf)
    refine hig 1 r D _ (fun e2 => ?_) (fun e2 => ?_)
    · rw [q1] at e2
      repeat (refine hX _ _ _ _ ?_; conv => whnf)
      refine ⟨fun h => absurd h (by decide), fun _ => ?_⟩
      repeat (refine hX _ _ _ _ ?_; conv => whnf)
      refine hig 2 s D _ (fun e3 => ?_) (fun e3 => ?_)
      · rw [q2] at e3
        repeat (refine hX _ _ _ _ ?_; conv => whnf)
        refine ⟨fun h => absurd h (by decide), fun _ => ?_⟩
        repeat (refine hX _ _ _ _ ?_; conv => whnf)
        refine hig 3 m D _ (fun e4 => ?_) (fun e4 => ?_)
        · rw [q3] at e4
          rw [if_pos (by rw [e1, e2, e3, e4]; rfl)] at h
          repeat (refine hX _ _ _ _ ?_; conv => whnf)
          refine ⟨fun _ => ?_, fun h => absurd h (by decide)⟩
          repeat (refine hX _ _ _ _ ?_; conv => whnf)
          refine ⟨v24, ?_⟩
          rw [c24, z_M0 hM.1 (by decide), g1]
          repeat (refine hX _ _ _ _ ?_; conv => whnf)
          refine ⟨fun q => ?_, fun q => ?_⟩
          · have q : ¬ z_n (zG z) = 4 := fun e2 => q (by rw [e2]; decide)
            rw [if_neg q] at h
            have hl := z_last_in hG
            have er := z_ib_iff.mp e2
            have ea : (z_last (zG z) + r).toInt = (z_last (zG z)).toInt + r.toInt := z_add (by have := hl.1; omega) (by have := hl.2; omega)
            have u300 : (300 : Int32).toInt = 300 := rfl
            generalize hn : z_n (zG z) = n at *
            repeat (refine hX _ _ _ _ ?_; conv => whnf)
            refine hla 0 (zG z) D _ (by omega) hM.1 (by rw [hn]; exact g1) (by rw [hn]; exact g2) ?_
            have m1 := hM.put (k := n) (v := k) (by omega)
            have m2 := m1.put (k := 4 + n) (v := r) (by omega)
            have m3 := m2.put (k := 8 + n) (v := s) (by omega)
            have m4 := m3.put (k := 12 + n) (v := m) (by omega)
            have m5 := m4.put (k := 16 + n) (v := pm_min 300 (z_last (zG z) + r)) (by omega)
            have m6 := m5.put (k := 20 + n) (v := 0) (by omega)
            have m7 := m6.put (k := 24) (v := nI (n + 1)) (by omega)
            have eg : z_up (z_up (z_up (z_up (z_up (z_up (z_up (zG z) n k) (4 + n) r) (8 + n) s) (12 + n) m) (16 + n) (pm_min 300 (z_last (zG z) + r))) (20 + n) 0) 24 (nI (n + 1)) = z_bind (zG z) k r s m := by
              funext j
              unfold z_up z_bind
              rw [hn]
              by_cases p1 : j = n
              · rw [if_neg (by omega), if_neg (by omega), if_neg (by omega), if_neg (by omega), if_neg (by omega), if_neg (by omega), if_pos p1, if_pos p1]
              · by_cases p2 : j = 4 + n
                · rw [if_neg (by omega), if_neg (by omega), if_neg (by omega), if_neg (by omega), if_neg (by omega), if_pos p2, if_neg p1, if_pos p2]
                · by_cases p3 : j = 8 + n
                  · rw [if_neg (by omega), if_neg (by omega), if_neg (by omega), if_neg (by omega), if_pos p3, if_neg p1, if_neg p2, if_pos p3]
                  · by_cases p4 : j = 12 + n
                    · rw [if_neg (by omega), if_neg (by omega), if_neg (by omega), if_pos p4, if_neg p1, if_neg p2, if_neg p3, if_pos p4]
                    · by_cases p5 : j = 16 + n
                      · rw [if_neg (by omega), if_neg (by omega), if_pos p5, if_neg p1, if_neg p2, if_neg p3, if_neg p4, if_pos p5]
                      · by_cases p6 : j = 20 + n
                        · rw [if_neg (by omega), if_pos p6, if_neg p1, if_neg p2, if_neg p3, if_neg p4, if_neg p5, if_pos p6]
                        · by_cases p7 : j = 24
                          · rw [if_pos p7, if_neg p1, if_neg p2, if_neg p3, if_neg p4, if_neg p5, if_neg p6, if_pos p7]
                          · rw [if_neg p7, if_neg p6, if_neg p5, if_neg p4, if_neg p3, if_neg p2, if_neg p1, if_neg p1, if_neg p2, if_neg p3, if_neg p4, if_neg p5, if_neg p6, if_neg p7]
            have i4 := z_ix1' 4 n 4 (by decide)
            have i8 := z_ix1' 8 n 8 (by decide)
            have i12 := z_ix1' 12 n 12 (by decide)
            have i16 := z_ix1' 16 n 16 (by decide)
            have i20 := z_ix1' 20 n 20 (by decide)
            have s128 : X 128 [some (.ref 67), some (.int k), some (.int r), some (.int s), some (.int m), some (.int (nI n)), some (.int (z_last (zG z) + r))] [.int (pm_min 300 (z_last (zG z) + r)), .int (nI (16 + n)), .ref 68] (pm_mu (pm_mu (pm_mu (pm_mu D 68 n k) 68 (4 + n) r) 68 (8 + n) s) 68 (12 + n) m) := by
              repeat (refine hX _ _ _ _ ?_; conv => whnf)
              refine ⟨by decide, vp_in_nI (by omega) (by decide), ?_⟩
              rw [nI_clamp (by omega)]
              repeat (refine hX _ _ _ _ ?_; conv => whnf)
              rw [i20]
              refine ⟨by decide, vp_in_nI (by omega) (by decide), ?_⟩
              rw [nI_clamp (by omega)]
              repeat (refine hX _ _ _ _ ?_; conv => whnf)
              refine ⟨v24, ?_⟩
              have e24 : (pm_mu (pm_mu (pm_mu (pm_mu (pm_mu (pm_mu D 68 n k) 68 (4 + n) r) 68 (8 + n) s) 68 (12 + n) m) 68 (16 + n) (pm_min 300 (z_last (zG z) + r))) 68 (20 + n) 0) 68 24 = nI n := by
                rw [pm_mu_k _ _ _ _ (by omega), pm_mu_k _ _ _ _ (by omega), pm_mu_k _ _ _ _ (by omega), pm_mu_k _ _ _ _ (by omega), pm_mu_k _ _ _ _ (by omega), pm_mu_k _ _ _ _ (by omega), z_M0 hM.1 (by decide), g1]
              rw [c24, e24]
              repeat (refine hX _ _ _ _ ?_; conv => whnf)
              refine ⟨by decide, v24, ?_⟩
              rw [c24, nI_1]
              repeat (refine hX _ _ _ _ ?_; conv => whnf)
              refine ⟨v24, ?_⟩
              rw [c24, pm_mu_at]
              repeat (refine hX _ _ _ _ ?_; conv => whnf)
              refine h _ ?_ (fun q hq => ?_)
              · rw [← eg]
                exact m7
              · rw [pm_mu_ne _ _ _ (by omega), pm_mu_ne _ _ _ (by omega), pm_mu_ne _ _ _ (by omega), pm_mu_ne _ _ _ (by omega), pm_mu_ne _ _ _ (by omega), pm_mu_ne _ _ _ (by omega), pm_mu_ne _ _ _ (by omega)]
            repeat (refine hX _ _ _ _ ?_; conv => whnf)
            refine ⟨by decide, vp_in_nI (by omega) (by decide), ?_⟩
            rw [nI_clamp (by omega)]
            repeat (refine hX _ _ _ _ ?_; conv => whnf)
            rw [i4]
            refine ⟨by decide, vp_in_nI (by omega) (by decide), ?_⟩
            rw [nI_clamp (by omega)]
            repeat (refine hX _ _ _ _ ?_; conv => whnf)
            rw [i8]
            refine ⟨by decide, vp_in_nI (by omega) (by decide), ?_⟩
            rw [nI_clamp (by omega)]
            repeat (refine hX _ _ _ _ ?_; conv => whnf)
            rw [i12]
            refine ⟨by decide, vp_in_nI (by omega) (by decide), ?_⟩
            rw [nI_clamp (by omega)]
            repeat (refine hX _ _ _ _ ?_; conv => whnf)
            rw [i16]
            unfold pm_min at s128
            refine ⟨fun p => ?_, fun p => ?_⟩
            · iterate 1 (refine hX _ _ _ _ ?_; conv => whnf)
              by_cases p2 : z_last (zG z) + r < 300
              · rw [if_pos p2] at s128
                exact s128
              · rw [if_neg p2] at s128
                have e3 : z_last (zG z) + r = 300 := by
                  rw [z_le, u300] at p
                  rw [z_lt, u300] at p2
                  rw [z_eq, u300]
                  omega
                rw [e3] at s128 ⊢
                exact s128
            · iterate 2 (refine hX _ _ _ _ ?_; conv => whnf)
              rw [if_neg (by rw [z_le, u300] at p; rw [z_lt, u300]; omega)] at s128
              exact s128
          · have q : z_n (zG z) = 4 := by
              rw [z_eq, z_tI (by omega)] at q
              have q : (z_n (zG z) : Int) = 4 := q
              omega
            rw [if_pos q] at h
            repeat (refine hX _ _ _ _ ?_; conv => whnf)
            exact h D hM (fun _ _ => rfl)
        · rw [q3] at e4
          repeat (refine hX _ _ _ _ ?_; conv => whnf)
          refine ⟨fun h => absurd h (by decide), fun _ => ?_⟩
          exact bad (by rw [e1, e2, e3, e4]; rfl)
      · rw [q2] at e3
        repeat (refine hX _ _ _ _ ?_; conv => whnf)
        refine ⟨fun _ => ?_, fun h => absurd h (by decide)⟩
        exact bad (by rw [e1, e2, e3]; rfl)
    · rw [q1] at e2
      repeat (refine hX _ _ _ _ ?_; conv => whnf)
      refine ⟨fun _ => ?_, fun h => absurd h (by decide)⟩
      exact bad (by rw [e1, e2]; rfl)
  · rw [q0] at e1
    repeat (refine hX _ _ _ _ ?_; conv => whnf)
    refine ⟨fun _ => ?_, fun h => absurd h (by decide)⟩
    exact bad (by rw [e1]; rfl)
