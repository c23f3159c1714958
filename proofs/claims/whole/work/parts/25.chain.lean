theorem z_R_last {D : pm_Mem} {c : Nat} {g : z_P} (h : z_R D c g) : (if z_n g = 0 then (0 : Int32) else D (c + 5) (z_n g - 1)) = z_last g := by
  unfold z_last
  by_cases e : z_n g = 0
  · rw [if_pos e, if_pos e]
  · rw [if_neg e, if_neg e, (z_Rb h (show z_n g - 1 < z_n g by omega)).2.2.2.2.1, show 16 + (z_n g - 1) = 15 + z_n g by omega]
set_option maxHeartbeats 2000000 in
theorem t_tickOnce {N : Nat} {Ga : pm_Ga} (hkp : sp_knockByPlan Ga) (hmv : sp_move Ga) : sp_tickOnce (pm_up N Ga) := by
  intro c g D post T hT hc hG hR h
  obtain ⟨hG1, hn1, -⟩ := hG.plan
  rcases pm_chs_of hc with rfl | rfl | rfl | rfl
  · refine ⟨rfl, fun X hX => ?_⟩
    replace hX : ∀ pc L st D, pm_F N Ga tbX0_tickOnce none post X pc L st D → X pc L st D := hX
    change X 0 [some (.ref 0)] [] D
    repeat (refine hX _ _ _ _ ?_; conv => whnf)
    refine hkp 0 g D _ T hT hc hG hR (fun D1 hR1 hF1 => ?_)
    repeat (refine hX _ _ _ _ ?_; conv => whnf)
    refine hmv 0 _ D1 _ T hc hG1 hR1 (fun D2 hR2 hF2 e1 e2 _ _ => ?_)
    repeat (refine hX _ _ _ _ ?_; conv => whnf)
    rw [hn1, hF1 0 (by decide)] at e1 e2
    exact h D2 hR2 (fun r hr => by rw [hF2 r hr]; exact hF1 r (by omega)) e1 e2
  · refine ⟨rfl, fun X hX => ?_⟩
    replace hX : ∀ pc L st D, pm_F N Ga tbX0_tickOnce none post X pc L st D → X pc L st D := hX
    change X 0 [some (.ref 10)] [] D
    repeat (refine hX _ _ _ _ ?_; conv => whnf)
    refine hkp 10 g D _ T hT hc hG hR (fun D1 hR1 hF1 => ?_)
    repeat (refine hX _ _ _ _ ?_; conv => whnf)
    refine hmv 10 _ D1 _ T hc hG1 hR1 (fun D2 hR2 hF2 e1 e2 _ _ => ?_)
    repeat (refine hX _ _ _ _ ?_; conv => whnf)
    rw [hn1, hF1 10 (by decide)] at e1 e2
    exact h D2 hR2 (fun r hr => by rw [hF2 r hr]; exact hF1 r (by omega)) e1 e2
  · refine ⟨rfl, fun X hX => ?_⟩
    replace hX : ∀ pc L st D, pm_F N Ga tbX0_tickOnce none post X pc L st D → X pc L st D := hX
    change X 0 [some (.ref 20)] [] D
    repeat (refine hX _ _ _ _ ?_; conv => whnf)
    refine hkp 20 g D _ T hT hc hG hR (fun D1 hR1 hF1 => ?_)
    repeat (refine hX _ _ _ _ ?_; conv => whnf)
    refine hmv 20 _ D1 _ T hc hG1 hR1 (fun D2 hR2 hF2 e1 e2 _ _ => ?_)
    repeat (refine hX _ _ _ _ ?_; conv => whnf)
    rw [hn1, hF1 20 (by decide)] at e1 e2
    exact h D2 hR2 (fun r hr => by rw [hF2 r hr]; exact hF1 r (by omega)) e1 e2
  · refine ⟨rfl, fun X hX => ?_⟩
    replace hX : ∀ pc L st D, pm_F N Ga tbX0_tickOnce none post X pc L st D → X pc L st D := hX
    change X 0 [some (.ref 30)] [] D
    repeat (refine hX _ _ _ _ ?_; conv => whnf)
    refine hkp 30 g D _ T hT hc hG hR (fun D1 hR1 hF1 => ?_)
    repeat (refine hX _ _ _ _ ?_; conv => whnf)
    refine hmv 30 _ D1 _ T hc hG1 hR1 (fun D2 hR2 hF2 e1 e2 _ _ => ?_)
    repeat (refine hX _ _ _ _ ?_; conv => whnf)
    rw [hn1, hF1 30 (by decide)] at e1 e2
    exact h D2 hR2 (fun r hr => by rw [hF2 r hr]; exact hF1 r (by omega)) e1 e2
set_option maxHeartbeats 2000000 in
theorem t_tickOften {N : Nat} {Ga : pm_Ga} (htk : sp_tickOnce Ga) : sp_tickOften (pm_up N Ga) := by
  intro c n g D post T hT hn hc hG hR h
  rcases pm_chs_of hc with rfl | rfl | rfl | rfl
  · refine ⟨rfl, fun X hX => ?_⟩
    replace hX : ∀ pc L st D, pm_F N Ga tbX0_tickOften none post X pc L st D → X pc L st D := hX
    change X 0 [some (.ref 0), some (.int (nI n)), none] [] D
    iterate 2 (refine hX _ _ _ _ ?_; conv => whnf)
    have loop : ∀ (m i : Nat) (D1 : pm_Mem), i + m = n → z_R D1 0 (z_run g i) → z_F 0 D D1 → D1 0 13 = D 0 13 + z_rg g i → D1 0 14 = D 0 14 + z_rs g i → X 2 [some (.ref 0), some (.int (nI n)), some (.int (nI i))] [] D1 := by
      intro m
      induction m with
      | zero =>
        intro i D1 hi f1 f2 f3 f4
        have hi : i = n := by omega
        subst hi
        repeat (refine hX _ _ _ _ ?_; conv => whnf)
        refine ⟨fun _ => ?_, fun z => absurd (nI_le (Nat.le_refl _) (by omega)) z⟩
        repeat (refine hX _ _ _ _ ?_; conv => whnf)
        exact h D1 f1 f2 f3 f4
      | succ m ih =>
        intro i D1 hi f1 f2 f3 f4
        repeat (refine hX _ _ _ _ ?_; conv => whnf)
        refine ⟨fun z => absurd z (nI_ge (by omega) (by omega)), fun _ => ?_⟩
        repeat (refine hX _ _ _ _ ?_; conv => whnf)
        refine htk 0 _ D1 _ (T + i) (by omega) hc (hG.run i (by omega)).1 f1 (fun D2 e1 e2 e3 e4 => ?_)
        iterate 2 (refine hX _ _ _ _ ?_; conv => whnf)
        rw [nI_1]
        refine ih (i + 1) D2 (by omega) e1 (fun r hr => by rw [e2 r hr]; exact f2 r hr) ?_ ?_
        · rw [e3, f3, Int32.add_assoc]; rfl
        · rw [e4, f4, Int32.add_assoc]; rfl
    exact loop n 0 D (by omega) hR (fun _ _ => rfl) (Int32.add_zero _).symm (Int32.add_zero _).symm
  · refine ⟨rfl, fun X hX => ?_⟩
    replace hX : ∀ pc L st D, pm_F N Ga tbX0_tickOften none post X pc L st D → X pc L st D := hX
    change X 0 [some (.ref 10), some (.int (nI n)), none] [] D
    iterate 2 (refine hX _ _ _ _ ?_; conv => whnf)
    have loop : ∀ (m i : Nat) (D1 : pm_Mem), i + m = n → z_R D1 10 (z_run g i) → z_F 10 D D1 → D1 10 13 = D 10 13 + z_rg g i → D1 10 14 = D 10 14 + z_rs g i → X 2 [some (.ref 10), some (.int (nI n)), some (.int (nI i))] [] D1 := by
      intro m
      induction m with
      | zero =>
        intro i D1 hi f1 f2 f3 f4
        have hi : i = n := by omega
        subst hi
        repeat (refine hX _ _ _ _ ?_; conv => whnf)
        refine ⟨fun _ => ?_, fun z => absurd (nI_le (Nat.le_refl _) (by omega)) z⟩
        repeat (refine hX _ _ _ _ ?_; conv => whnf)
        exact h D1 f1 f2 f3 f4
      | succ m ih =>
        intro i D1 hi f1 f2 f3 f4
        repeat (refine hX _ _ _ _ ?_; conv => whnf)
        refine ⟨fun z => absurd z (nI_ge (by omega) (by omega)), fun _ => ?_⟩
        repeat (refine hX _ _ _ _ ?_; conv => whnf)
        refine htk 10 _ D1 _ (T + i) (by omega) hc (hG.run i (by omega)).1 f1 (fun D2 e1 e2 e3 e4 => ?_)
        iterate 2 (refine hX _ _ _ _ ?_; conv => whnf)
        rw [nI_1]
        refine ih (i + 1) D2 (by omega) e1 (fun r hr => by rw [e2 r hr]; exact f2 r hr) ?_ ?_
        · rw [e3, f3, Int32.add_assoc]; rfl
        · rw [e4, f4, Int32.add_assoc]; rfl
    exact loop n 0 D (by omega) hR (fun _ _ => rfl) (Int32.add_zero _).symm (Int32.add_zero _).symm
  · refine ⟨rfl, fun X hX => ?_⟩
    replace hX : ∀ pc L st D, pm_F N Ga tbX0_tickOften none post X pc L st D → X pc L st D := hX
    change X 0 [some (.ref 20), some (.int (nI n)), none] [] D
    iterate 2 (refine hX _ _ _ _ ?_; conv => whnf)
    have loop : ∀ (m i : Nat) (D1 : pm_Mem), i + m = n → z_R D1 20 (z_run g i) → z_F 20 D D1 → D1 20 13 = D 20 13 + z_rg g i → D1 20 14 = D 20 14 + z_rs g i → X 2 [some (.ref 20), some (.int (nI n)), some (.int (nI i))] [] D1 := by
      intro m
      induction m with
      | zero =>
        intro i D1 hi f1 f2 f3 f4
        have hi : i = n := by omega
        subst hi
        repeat (refine hX _ _ _ _ ?_; conv => whnf)
        refine ⟨fun _ => ?_, fun z => absurd (nI_le (Nat.le_refl _) (by omega)) z⟩
        repeat (refine hX _ _ _ _ ?_; conv => whnf)
        exact h D1 f1 f2 f3 f4
      | succ m ih =>
        intro i D1 hi f1 f2 f3 f4
        repeat (refine hX _ _ _ _ ?_; conv => whnf)
        refine ⟨fun z => absurd z (nI_ge (by omega) (by omega)), fun _ => ?_⟩
        repeat (refine hX _ _ _ _ ?_; conv => whnf)
        refine htk 20 _ D1 _ (T + i) (by omega) hc (hG.run i (by omega)).1 f1 (fun D2 e1 e2 e3 e4 => ?_)
        iterate 2 (refine hX _ _ _ _ ?_; conv => whnf)
        rw [nI_1]
        refine ih (i + 1) D2 (by omega) e1 (fun r hr => by rw [e2 r hr]; exact f2 r hr) ?_ ?_
        · rw [e3, f3, Int32.add_assoc]; rfl
        · rw [e4, f4, Int32.add_assoc]; rfl
    exact loop n 0 D (by omega) hR (fun _ _ => rfl) (Int32.add_zero _).symm (Int32.add_zero _).symm
  · refine ⟨rfl, fun X hX => ?_⟩
    replace hX : ∀ pc L st D, pm_F N Ga tbX0_tickOften none post X pc L st D → X pc L st D := hX
    change X 0 [some (.ref 30), some (.int (nI n)), none] [] D
    iterate 2 (refine hX _ _ _ _ ?_; conv => whnf)
    have loop : ∀ (m i : Nat) (D1 : pm_Mem), i + m = n → z_R D1 30 (z_run g i) → z_F 30 D D1 → D1 30 13 = D 30 13 + z_rg g i → D1 30 14 = D 30 14 + z_rs g i → X 2 [some (.ref 30), some (.int (nI n)), some (.int (nI i))] [] D1 := by
      intro m
      induction m with
      | zero =>
        intro i D1 hi f1 f2 f3 f4
        have hi : i = n := by omega
        subst hi
        repeat (refine hX _ _ _ _ ?_; conv => whnf)
        refine ⟨fun _ => ?_, fun z => absurd (nI_le (Nat.le_refl _) (by omega)) z⟩
        repeat (refine hX _ _ _ _ ?_; conv => whnf)
        exact h D1 f1 f2 f3 f4
      | succ m ih =>
        intro i D1 hi f1 f2 f3 f4
        repeat (refine hX _ _ _ _ ?_; conv => whnf)
        refine ⟨fun z => absurd z (nI_ge (by omega) (by omega)), fun _ => ?_⟩
        repeat (refine hX _ _ _ _ ?_; conv => whnf)
        refine htk 30 _ D1 _ (T + i) (by omega) hc (hG.run i (by omega)).1 f1 (fun D2 e1 e2 e3 e4 => ?_)
        iterate 2 (refine hX _ _ _ _ ?_; conv => whnf)
        rw [nI_1]
        refine ih (i + 1) D2 (by omega) e1 (fun r hr => by rw [e2 r hr]; exact f2 r hr) ?_ ?_
        · rw [e3, f3, Int32.add_assoc]; rfl
        · rw [e4, f4, Int32.add_assoc]; rfl
    exact loop n 0 D (by omega) hR (fun _ _ => rfl) (Int32.add_zero _).symm (Int32.add_zero _).symm
set_option maxHeartbeats 2000000 in
theorem t_greatestSwing {N : Nat} {Ga : pm_Ga} (htk : sp_tickOnce Ga) (hla : sp_lastPlace Ga) : sp_greatestSwing (pm_up N Ga) := by
  intro c n en g D post T hT hn hc hG hR h
  have hlast := z_R_last hR
  rcases pm_chs_of hc with rfl | rfl | rfl | rfl
  · refine ⟨rfl, fun X hX => ?_⟩
    replace hX : ∀ pc L st D, pm_F N Ga tbX0_greatestSwing (some .int) post X pc L st D → X pc L st D := hX
    change X 0 [some (.ref 0), some (.int (nI n)), some (.int en), none, none, none] [] D
    repeat (refine hX _ _ _ _ ?_; conv => whnf)
    refine hla 0 (z_n g) D _ hc (by rw [hR.1]; exact hG.1) hG.2.1 ?_
    rw [hlast]
    iterate 5 (refine hX _ _ _ _ ?_; conv => whnf)
    have loop : ∀ (m i : Nat) (D1 : pm_Mem), i + m = n → z_R D1 0 (z_run g i) → z_F 0 D D1 → D1 0 13 = D 0 13 + z_rg g i → D1 0 14 = D 0 14 + z_rs g i → X 11 [some (.ref 0), some (.int (nI n)), some (.int en), some (.int (z_last g)), some (.int (z_wid g i)), some (.int (nI i))] [] D1 := by
      intro m
      induction m with
      | zero =>
        intro i D1 hi f1 f2 f3 f4
        have hi : i = n := by omega
        subst hi
        repeat (refine hX _ _ _ _ ?_; conv => whnf)
        refine ⟨fun _ => ?_, fun z => absurd (nI_le (Nat.le_refl _) (by omega)) z⟩
        repeat (refine hX _ _ _ _ ?_; conv => whnf)
        exact h i D1 (Nat.le_refl _) (Or.inl rfl) f1 f2 f3 f4
      | succ m ih =>
        intro i D1 hi f1 f2 f3 f4
        repeat (refine hX _ _ _ _ ?_; conv => whnf)
        refine ⟨fun z => absurd z (nI_ge (by omega) (by omega)), fun _ => ?_⟩
        repeat (refine hX _ _ _ _ ?_; conv => whnf)
        refine ⟨fun q => ?_, fun q => ?_⟩
        · repeat (refine hX _ _ _ _ ?_; conv => whnf)
          exact h i D1 (by omega) (Or.inr q) f1 f2 f3 f4
        · repeat (refine hX _ _ _ _ ?_; conv => whnf)
          obtain ⟨k1, k2, k3⟩ := hG.run i (by omega)
          obtain ⟨j1, j2, j3⟩ := hG.run (i + 1) (by omega)
          refine htk 0 _ D1 _ (T + i) (by omega) hc k1 f1 (fun D2 e1 e2 e3 e4 => ?_)
          repeat (refine hX _ _ _ _ ?_; conv => whnf)
          refine hla 0 (z_n g) D2 _ hc (by rw [e1.1]; exact j1.1.trans (by rw [j2])) hG.2.1 ?_
          have hl2 := z_R_last (g := z_run g (i + 1)) e1
          rw [j2] at hl2
          rw [hl2]
          iterate 7 (refine hX _ _ _ _ ?_; conv => whnf)
          rw [nI_1]
          refine ih (i + 1) D2 (by omega) e1 (fun r hr => by rw [e2 r hr]; exact f2 r hr) ?_ ?_
          · rw [e3, f3, Int32.add_assoc]; rfl
          · rw [e4, f4, Int32.add_assoc]; rfl
    exact loop n 0 D (by omega) hR (fun _ _ => rfl) (Int32.add_zero _).symm (Int32.add_zero _).symm
  · refine ⟨rfl, fun X hX => ?_⟩
    replace hX : ∀ pc L st D, pm_F N Ga tbX0_greatestSwing (some .int) post X pc L st D → X pc L st D := hX
    change X 0 [some (.ref 10), some (.int (nI n)), some (.int en), none, none, none] [] D
    repeat (refine hX _ _ _ _ ?_; conv => whnf)
    refine hla 10 (z_n g) D _ hc (by rw [hR.1]; exact hG.1) hG.2.1 ?_
    rw [hlast]
    iterate 5 (refine hX _ _ _ _ ?_; conv => whnf)
    have loop : ∀ (m i : Nat) (D1 : pm_Mem), i + m = n → z_R D1 10 (z_run g i) → z_F 10 D D1 → D1 10 13 = D 10 13 + z_rg g i → D1 10 14 = D 10 14 + z_rs g i → X 11 [some (.ref 10), some (.int (nI n)), some (.int en), some (.int (z_last g)), some (.int (z_wid g i)), some (.int (nI i))] [] D1 := by
      intro m
      induction m with
      | zero =>
        intro i D1 hi f1 f2 f3 f4
        have hi : i = n := by omega
        subst hi
        repeat (refine hX _ _ _ _ ?_; conv => whnf)
        refine ⟨fun _ => ?_, fun z => absurd (nI_le (Nat.le_refl _) (by omega)) z⟩
        repeat (refine hX _ _ _ _ ?_; conv => whnf)
        exact h i D1 (Nat.le_refl _) (Or.inl rfl) f1 f2 f3 f4
      | succ m ih =>
        intro i D1 hi f1 f2 f3 f4
        repeat (refine hX _ _ _ _ ?_; conv => whnf)
        refine ⟨fun z => absurd z (nI_ge (by omega) (by omega)), fun _ => ?_⟩
        repeat (refine hX _ _ _ _ ?_; conv => whnf)
        refine ⟨fun q => ?_, fun q => ?_⟩
        · repeat (refine hX _ _ _ _ ?_; conv => whnf)
          exact h i D1 (by omega) (Or.inr q) f1 f2 f3 f4
        · repeat (refine hX _ _ _ _ ?_; conv => whnf)
          obtain ⟨k1, k2, k3⟩ := hG.run i (by omega)
          obtain ⟨j1, j2, j3⟩ := hG.run (i + 1) (by omega)
          refine htk 10 _ D1 _ (T + i) (by omega) hc k1 f1 (fun D2 e1 e2 e3 e4 => ?_)
          repeat (refine hX _ _ _ _ ?_; conv => whnf)
          refine hla 10 (z_n g) D2 _ hc (by rw [e1.1]; exact j1.1.trans (by rw [j2])) hG.2.1 ?_
          have hl2 := z_R_last (g := z_run g (i + 1)) e1
          rw [j2] at hl2
          rw [hl2]
          iterate 7 (refine hX _ _ _ _ ?_; conv => whnf)
          rw [nI_1]
          refine ih (i + 1) D2 (by omega) e1 (fun r hr => by rw [e2 r hr]; exact f2 r hr) ?_ ?_
          · rw [e3, f3, Int32.add_assoc]; rfl
          · rw [e4, f4, Int32.add_assoc]; rfl
    exact loop n 0 D (by omega) hR (fun _ _ => rfl) (Int32.add_zero _).symm (Int32.add_zero _).symm
  · refine ⟨rfl, fun X hX => ?_⟩
    replace hX : ∀ pc L st D, pm_F N Ga tbX0_greatestSwing (some .int) post X pc L st D → X pc L st D := hX
    change X 0 [some (.ref 20), some (.int (nI n)), some (.int en), none, none, none] [] D
    repeat (refine hX _ _ _ _ ?_; conv => whnf)
    refine hla 20 (z_n g) D _ hc (by rw [hR.1]; exact hG.1) hG.2.1 ?_
    rw [hlast]
    iterate 5 (refine hX _ _ _ _ ?_; conv => whnf)
    have loop : ∀ (m i : Nat) (D1 : pm_Mem), i + m = n → z_R D1 20 (z_run g i) → z_F 20 D D1 → D1 20 13 = D 20 13 + z_rg g i → D1 20 14 = D 20 14 + z_rs g i → X 11 [some (.ref 20), some (.int (nI n)), some (.int en), some (.int (z_last g)), some (.int (z_wid g i)), some (.int (nI i))] [] D1 := by
      intro m
      induction m with
      | zero =>
        intro i D1 hi f1 f2 f3 f4
        have hi : i = n := by omega
        subst hi
        repeat (refine hX _ _ _ _ ?_; conv => whnf)
        refine ⟨fun _ => ?_, fun z => absurd (nI_le (Nat.le_refl _) (by omega)) z⟩
        repeat (refine hX _ _ _ _ ?_; conv => whnf)
        exact h i D1 (Nat.le_refl _) (Or.inl rfl) f1 f2 f3 f4
      | succ m ih =>
        intro i D1 hi f1 f2 f3 f4
        repeat (refine hX _ _ _ _ ?_; conv => whnf)
        refine ⟨fun z => absurd z (nI_ge (by omega) (by omega)), fun _ => ?_⟩
        repeat (refine hX _ _ _ _ ?_; conv => whnf)
        refine ⟨fun q => ?_, fun q => ?_⟩
        · repeat (refine hX _ _ _ _ ?_; conv => whnf)
          exact h i D1 (by omega) (Or.inr q) f1 f2 f3 f4
        · repeat (refine hX _ _ _ _ ?_; conv => whnf)
          obtain ⟨k1, k2, k3⟩ := hG.run i (by omega)
          obtain ⟨j1, j2, j3⟩ := hG.run (i + 1) (by omega)
          refine htk 20 _ D1 _ (T + i) (by omega) hc k1 f1 (fun D2 e1 e2 e3 e4 => ?_)
          repeat (refine hX _ _ _ _ ?_; conv => whnf)
          refine hla 20 (z_n g) D2 _ hc (by rw [e1.1]; exact j1.1.trans (by rw [j2])) hG.2.1 ?_
          have hl2 := z_R_last (g := z_run g (i + 1)) e1
          rw [j2] at hl2
          rw [hl2]
          iterate 7 (refine hX _ _ _ _ ?_; conv => whnf)
          rw [nI_1]
          refine ih (i + 1) D2 (by omega) e1 (fun r hr => by rw [e2 r hr]; exact f2 r hr) ?_ ?_
          · rw [e3, f3, Int32.add_assoc]; rfl
          · rw [e4, f4, Int32.add_assoc]; rfl
    exact loop n 0 D (by omega) hR (fun _ _ => rfl) (Int32.add_zero _).symm (Int32.add_zero _).symm
  · refine ⟨rfl, fun X hX => ?_⟩
    replace hX : ∀ pc L st D, pm_F N Ga tbX0_greatestSwing (some .int) post X pc L st D → X pc L st D := hX
    change X 0 [some (.ref 30), some (.int (nI n)), some (.int en), none, none, none] [] D
    repeat (refine hX _ _ _ _ ?_; conv => whnf)
    refine hla 30 (z_n g) D _ hc (by rw [hR.1]; exact hG.1) hG.2.1 ?_
    rw [hlast]
    iterate 5 (refine hX _ _ _ _ ?_; conv => whnf)
    have loop : ∀ (m i : Nat) (D1 : pm_Mem), i + m = n → z_R D1 30 (z_run g i) → z_F 30 D D1 → D1 30 13 = D 30 13 + z_rg g i → D1 30 14 = D 30 14 + z_rs g i → X 11 [some (.ref 30), some (.int (nI n)), some (.int en), some (.int (z_last g)), some (.int (z_wid g i)), some (.int (nI i))] [] D1 := by
      intro m
      induction m with
      | zero =>
        intro i D1 hi f1 f2 f3 f4
        have hi : i = n := by omega
        subst hi
        repeat (refine hX _ _ _ _ ?_; conv => whnf)
        refine ⟨fun _ => ?_, fun z => absurd (nI_le (Nat.le_refl _) (by omega)) z⟩
        repeat (refine hX _ _ _ _ ?_; conv => whnf)
        exact h i D1 (Nat.le_refl _) (Or.inl rfl) f1 f2 f3 f4
      | succ m ih =>
        intro i D1 hi f1 f2 f3 f4
        repeat (refine hX _ _ _ _ ?_; conv => whnf)
        refine ⟨fun z => absurd z (nI_ge (by omega) (by omega)), fun _ => ?_⟩
        repeat (refine hX _ _ _ _ ?_; conv => whnf)
        refine ⟨fun q => ?_, fun q => ?_⟩
        · repeat (refine hX _ _ _ _ ?_; conv => whnf)
          exact h i D1 (by omega) (Or.inr q) f1 f2 f3 f4
        · repeat (refine hX _ _ _ _ ?_; conv => whnf)
          obtain ⟨k1, k2, k3⟩ := hG.run i (by omega)
          obtain ⟨j1, j2, j3⟩ := hG.run (i + 1) (by omega)
          refine htk 30 _ D1 _ (T + i) (by omega) hc k1 f1 (fun D2 e1 e2 e3 e4 => ?_)
          repeat (refine hX _ _ _ _ ?_; conv => whnf)
          refine hla 30 (z_n g) D2 _ hc (by rw [e1.1]; exact j1.1.trans (by rw [j2])) hG.2.1 ?_
          have hl2 := z_R_last (g := z_run g (i + 1)) e1
          rw [j2] at hl2
          rw [hl2]
          iterate 7 (refine hX _ _ _ _ ?_; conv => whnf)
          rw [nI_1]
          refine ih (i + 1) D2 (by omega) e1 (fun r hr => by rw [e2 r hr]; exact f2 r hr) ?_ ?_
          · rw [e3, f3, Int32.add_assoc]; rfl
          · rw [e4, f4, Int32.add_assoc]; rfl
    exact loop n 0 D (by omega) hR (fun _ _ => rfl) (Int32.add_zero _).symm (Int32.add_zero _).symm
