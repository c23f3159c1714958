def sp_becomeLike (Ga : pm_Ga) : Prop := ∀ (c o : Nat) (D : pm_Mem) (post : pm_Post), ((c = 10 ∧ o = 0) ∨ (c = 0 ∧ o = 10) ∨ (c = 20 ∧ o = 0) ∨ (c = 30 ∧ o = 0) ∨ (c = 0 ∧ o = 20) ∨ (c = 0 ∧ o = 30)) → (∀ D', (∀ g, z_n g ≤ 4 → z_k g ≤ 12 → z_R D o g → z_R D' c g) → z_F c D D' → D' c 13 = 0 → D' c 14 = 0 → post none D') → Ga 2 [.ref c, .ref o] D post
set_option maxHeartbeats 8000000 in
theorem t_becomeLike {N : Nat} {Ga : pm_Ga} : sp_becomeLike (pm_up N Ga) := by
  intro c o D post hco h
  have v4 : ∀ b, b < 4 → vp_in (nI b) 4 := fun b hb => vp_in_nI hb (by decide)
  have v12 : ∀ b, b < 12 → vp_in (nI b) 12 := fun b hb => vp_in_nI hb (by decide)
  rcases hco with ⟨rfl, rfl⟩ | ⟨rfl, rfl⟩ | ⟨rfl, rfl⟩ | ⟨rfl, rfl⟩ | ⟨rfl, rfl⟩ | ⟨rfl, rfl⟩
  · refine ⟨rfl, fun X hX => ?_⟩
    replace hX : ∀ pc L st D, pm_F N Ga tbX0_becomeLike none post X pc L st D → X pc L st D := hX
    change X 0 [some (.ref 10), some (.ref 0), none] [] D
    have loop2 : ∀ (m i : Nat) (D1 : pm_Mem), i + m = 12 → z_F 10 D D1 → (∀ k, k < 4 → D1 10 k = D 0 k) → D1 10 13 = 0 → D1 10 14 = 0 → (∀ j, j < 4 → D1 11 j = D 1 j ∧ D1 12 j = D 2 j ∧ D1 13 j = D 3 j ∧ D1 14 j = D 4 j ∧ D1 15 j = D 5 j ∧ D1 16 j = D 6 j) → (∀ j, j < i → D1 17 j = D 7 j ∧ D1 18 j = D 8 j) → X 129 [some (.ref 10), some (.ref 0), some (.int (nI i))] [] D1 := by
      intro m
      induction m with
      | zero =>
        intro i D1 hi f1 f2 f3 f4 f5 f6
        have hi : i = 12 := by omega
        subst hi
        repeat (refine hX _ _ _ _ ?_; conv => whnf)
        refine ⟨fun _ => ?_, fun z => absurd (by decide : (12 : Int32) ≤ nI 12) z⟩
        repeat (refine hX _ _ _ _ ?_; conv => whnf)
        refine h D1 (fun g hn hk hR => ?_) f1 f3 f4
        obtain ⟨a1, a2, a3, a4, a5, a6⟩ := hR
        refine ⟨(f2 0 (by omega)).trans a1, (f2 1 (by omega)).trans a2, (f2 2 (by omega)).trans a3, (f2 3 (by omega)).trans a4, fun b hb => ?_, fun i hi => ?_⟩
        · obtain ⟨b1, b2, b3, b4, b5, b6⟩ := a5 b hb
          obtain ⟨c1, c2, c3, c4, c5, c6⟩ := f5 b (by omega)
          exact ⟨c1.trans b1, c2.trans b2, c3.trans b3, c4.trans b4, c5.trans b5, c6.trans b6⟩
        · obtain ⟨b1, b2⟩ := a6 i hi
          obtain ⟨c1, c2⟩ := f6 i (by omega)
          exact ⟨c1.trans b1, c2.trans b2⟩
      | succ m ih =>
        intro i D1 hi f1 f2 f3 f4 f5 f6
        have hcl : (nI i).toNatClampNeg = i := nI_clamp (by omega)
        repeat (refine hX _ _ _ _ ?_; conv => whnf)
        refine ⟨fun z => absurd z (nI_ge (a := i) (b := 12) (by omega) (by omega)), fun _ => ?_⟩
        repeat (refine hX _ _ _ _ ?_; conv => whnf)
        refine ⟨v12 i (by omega), ?_⟩
        repeat (refine hX _ _ _ _ ?_; conv => whnf)
        refine ⟨by decide, v12 i (by omega), ?_⟩
        repeat (refine hX _ _ _ _ ?_; conv => whnf)
        refine ⟨v12 i (by omega), ?_⟩
        repeat (refine hX _ _ _ _ ?_; conv => whnf)
        refine ⟨by decide, v12 i (by omega), ?_⟩
        iterate 2 (refine hX _ _ _ _ ?_; conv => whnf)
        rw [nI_1, hcl]
        refine ih (i + 1) _ (by omega) (fun r hr => ?_) (fun k hk => ?_) ?_ ?_ (fun j hj => ?_) (fun j hj => ?_)
        · rw [pm_mu_ne _ _ _ (by omega), pm_mu_ne _ _ _ (by omega)]; exact f1 r hr
        · rw [pm_mu_r _ _ _ _ (by decide), pm_mu_r _ _ _ _ (by decide)]; exact f2 k hk
        · rw [pm_mu_r _ _ _ _ (by decide), pm_mu_r _ _ _ _ (by decide)]; exact f3
        · rw [pm_mu_r _ _ _ _ (by decide), pm_mu_r _ _ _ _ (by decide)]; exact f4
        · repeat rw [pm_mu_ne _ _ _ (by decide)]
          exact f5 j hj
        · rw [pm_mu_r _ _ _ _ (show 17 ≠ 18 by decide), pm_mu_eq _ 17, if_pos rfl, pm_mu_eq _ 18, if_pos rfl, pm_mu_r _ _ _ _ (show 8 ≠ 17 by decide), pm_mu_r _ _ _ _ (show 18 ≠ 17 by decide), f1 7 (by decide), f1 8 (by decide)]
          by_cases e : j = i
          · rw [if_pos e, if_pos e, e]; exact ⟨rfl, rfl⟩
          · rw [if_neg e, if_neg e]; exact f6 j (by omega)
    have loop1 : ∀ (m b : Nat) (D1 : pm_Mem), b + m = 4 → z_F 10 D D1 → (∀ k, k < 4 → D1 10 k = D 0 k) → D1 10 13 = 0 → D1 10 14 = 0 → (∀ j, j < b → D1 11 j = D 1 j ∧ D1 12 j = D 2 j ∧ D1 13 j = D 3 j ∧ D1 14 j = D 4 j ∧ D1 15 j = D 5 j ∧ D1 16 j = D 6 j) → X 44 [some (.ref 10), some (.ref 0), some (.int (nI b))] [] D1 := by
      intro m
      induction m with
      | zero =>
        intro b D1 hb f1 f2 f3 f4 f5
        have hb : b = 4 := by omega
        subst hb
        repeat (refine hX _ _ _ _ ?_; conv => whnf)
        refine ⟨fun _ => ?_, fun z => absurd (by decide : (4 : Int32) ≤ nI 4) z⟩
        iterate 2 (refine hX _ _ _ _ ?_; conv => whnf)
        exact loop2 12 0 D1 (by omega) f1 f2 f3 f4 f5 (fun j hj => by omega)
      | succ m ih =>
        intro b D1 hb f1 f2 f3 f4 f5
        have hcl : (nI b).toNatClampNeg = b := nI_clamp (by omega)
        repeat (refine hX _ _ _ _ ?_; conv => whnf)
        refine ⟨fun z => absurd z (nI_ge (a := b) (b := 4) (by omega) (by omega)), fun _ => ?_⟩
        repeat (refine hX _ _ _ _ ?_; conv => whnf)
        refine ⟨v4 b (by omega), ?_⟩
        repeat (refine hX _ _ _ _ ?_; conv => whnf)
        refine ⟨by decide, v4 b (by omega), ?_⟩
        repeat (refine hX _ _ _ _ ?_; conv => whnf)
        refine ⟨v4 b (by omega), ?_⟩
        repeat (refine hX _ _ _ _ ?_; conv => whnf)
        refine ⟨by decide, v4 b (by omega), ?_⟩
        repeat (refine hX _ _ _ _ ?_; conv => whnf)
        refine ⟨v4 b (by omega), ?_⟩
        repeat (refine hX _ _ _ _ ?_; conv => whnf)
        refine ⟨by decide, v4 b (by omega), ?_⟩
        repeat (refine hX _ _ _ _ ?_; conv => whnf)
        refine ⟨v4 b (by omega), ?_⟩
        repeat (refine hX _ _ _ _ ?_; conv => whnf)
        refine ⟨by decide, v4 b (by omega), ?_⟩
        repeat (refine hX _ _ _ _ ?_; conv => whnf)
        refine ⟨v4 b (by omega), ?_⟩
        repeat (refine hX _ _ _ _ ?_; conv => whnf)
        refine ⟨by decide, v4 b (by omega), ?_⟩
        repeat (refine hX _ _ _ _ ?_; conv => whnf)
        refine ⟨v4 b (by omega), ?_⟩
        repeat (refine hX _ _ _ _ ?_; conv => whnf)
        refine ⟨by decide, v4 b (by omega), ?_⟩
        iterate 2 (refine hX _ _ _ _ ?_; conv => whnf)
        rw [nI_1, hcl]
        refine ih (b + 1) _ (by omega) (fun r hr => ?_) (fun k hk => ?_) ?_ ?_ (fun j hj => ?_)
        · repeat rw [pm_mu_ne _ _ _ (by omega)]
          exact f1 r hr
        · repeat rw [pm_mu_r _ _ _ _ (by decide)]
          exact f2 k hk
        · repeat rw [pm_mu_r _ _ _ _ (by decide)]
          exact f3
        · repeat rw [pm_mu_r _ _ _ _ (by decide)]
          exact f4
        · simp only [pm_mu_eq, Nat.reduceEqDiff, if_true, if_false]
          rw [f1 1 (by decide), f1 2 (by decide), f1 3 (by decide), f1 4 (by decide), f1 5 (by decide), f1 6 (by decide)]
          by_cases e : j = b
          · simp only [e, if_true, and_self]
          · simp only [e, if_false]
            exact f5 j (by omega)
    iterate 24 (refine hX _ _ _ _ ?_; conv => whnf)
    refine loop1 4 0 _ (by omega) (fun r hr => ?_) (fun k hk => ?_) ?_ ?_ (fun j hj => by omega)
    · repeat rw [pm_mu_ne _ _ _ (by omega)]
    · have hk4 : k = 0 ∨ k = 1 ∨ k = 2 ∨ k = 3 := by omega
      rcases hk4 with rfl | rfl | rfl | rfl <;> simp [pm_mu_eq]
    · simp [pm_mu_eq]
    · simp [pm_mu_eq]
  · refine ⟨rfl, fun X hX => ?_⟩
    replace hX : ∀ pc L st D, pm_F N Ga tbX0_becomeLike none post X pc L st D → X pc L st D := hX
    change X 0 [some (.ref 0), some (.ref 10), none] [] D
    have loop2 : ∀ (m i : Nat) (D1 : pm_Mem), i + m = 12 → z_F 0 D D1 → (∀ k, k < 4 → D1 0 k = D 10 k) → D1 0 13 = 0 → D1 0 14 = 0 → (∀ j, j < 4 → D1 1 j = D 11 j ∧ D1 2 j = D 12 j ∧ D1 3 j = D 13 j ∧ D1 4 j = D 14 j ∧ D1 5 j = D 15 j ∧ D1 6 j = D 16 j) → (∀ j, j < i → D1 7 j = D 17 j ∧ D1 8 j = D 18 j) → X 129 [some (.ref 0), some (.ref 10), some (.int (nI i))] [] D1 := by
      intro m
      induction m with
      | zero =>
        intro i D1 hi f1 f2 f3 f4 f5 f6
        have hi : i = 12 := by omega
        subst hi
        repeat (refine hX _ _ _ _ ?_; conv => whnf)
        refine ⟨fun _ => ?_, fun z => absurd (by decide : (12 : Int32) ≤ nI 12) z⟩
        repeat (refine hX _ _ _ _ ?_; conv => whnf)
        refine h D1 (fun g hn hk hR => ?_) f1 f3 f4
        obtain ⟨a1, a2, a3, a4, a5, a6⟩ := hR
        refine ⟨(f2 0 (by omega)).trans a1, (f2 1 (by omega)).trans a2, (f2 2 (by omega)).trans a3, (f2 3 (by omega)).trans a4, fun b hb => ?_, fun i hi => ?_⟩
        · obtain ⟨b1, b2, b3, b4, b5, b6⟩ := a5 b hb
          obtain ⟨c1, c2, c3, c4, c5, c6⟩ := f5 b (by omega)
          exact ⟨c1.trans b1, c2.trans b2, c3.trans b3, c4.trans b4, c5.trans b5, c6.trans b6⟩
        · obtain ⟨b1, b2⟩ := a6 i hi
          obtain ⟨c1, c2⟩ := f6 i (by omega)
          exact ⟨c1.trans b1, c2.trans b2⟩
      | succ m ih =>
        intro i D1 hi f1 f2 f3 f4 f5 f6
        have hcl : (nI i).toNatClampNeg = i := nI_clamp (by omega)
        repeat (refine hX _ _ _ _ ?_; conv => whnf)
        refine ⟨fun z => absurd z (nI_ge (a := i) (b := 12) (by omega) (by omega)), fun _ => ?_⟩
        repeat (refine hX _ _ _ _ ?_; conv => whnf)
        refine ⟨v12 i (by omega), ?_⟩
        repeat (refine hX _ _ _ _ ?_; conv => whnf)
        refine ⟨by decide, v12 i (by omega), ?_⟩
        repeat (refine hX _ _ _ _ ?_; conv => whnf)
        refine ⟨v12 i (by omega), ?_⟩
        repeat (refine hX _ _ _ _ ?_; conv => whnf)
        refine ⟨by decide, v12 i (by omega), ?_⟩
        iterate 2 (refine hX _ _ _ _ ?_; conv => whnf)
        rw [nI_1, hcl]
        refine ih (i + 1) _ (by omega) (fun r hr => ?_) (fun k hk => ?_) ?_ ?_ (fun j hj => ?_) (fun j hj => ?_)
        · rw [pm_mu_ne _ _ _ (by omega), pm_mu_ne _ _ _ (by omega)]; exact f1 r hr
        · rw [pm_mu_r _ _ _ _ (by decide), pm_mu_r _ _ _ _ (by decide)]; exact f2 k hk
        · rw [pm_mu_r _ _ _ _ (by decide), pm_mu_r _ _ _ _ (by decide)]; exact f3
        · rw [pm_mu_r _ _ _ _ (by decide), pm_mu_r _ _ _ _ (by decide)]; exact f4
        · repeat rw [pm_mu_ne _ _ _ (by decide)]
          exact f5 j hj
        · rw [pm_mu_r _ _ _ _ (show 7 ≠ 8 by decide), pm_mu_eq _ 7, if_pos rfl, pm_mu_eq _ 8, if_pos rfl, pm_mu_r _ _ _ _ (show 18 ≠ 7 by decide), pm_mu_r _ _ _ _ (show 8 ≠ 7 by decide), f1 17 (by decide), f1 18 (by decide)]
          by_cases e : j = i
          · rw [if_pos e, if_pos e, e]; exact ⟨rfl, rfl⟩
          · rw [if_neg e, if_neg e]; exact f6 j (by omega)
    have loop1 : ∀ (m b : Nat) (D1 : pm_Mem), b + m = 4 → z_F 0 D D1 → (∀ k, k < 4 → D1 0 k = D 10 k) → D1 0 13 = 0 → D1 0 14 = 0 → (∀ j, j < b → D1 1 j = D 11 j ∧ D1 2 j = D 12 j ∧ D1 3 j = D 13 j ∧ D1 4 j = D 14 j ∧ D1 5 j = D 15 j ∧ D1 6 j = D 16 j) → X 44 [some (.ref 0), some (.ref 10), some (.int (nI b))] [] D1 := by
      intro m
      induction m with
      | zero =>
        intro b D1 hb f1 f2 f3 f4 f5
        have hb : b = 4 := by omega
        subst hb
        repeat (refine hX _ _ _ _ ?_; conv => whnf)
        refine ⟨fun _ => ?_, fun z => absurd (by decide : (4 : Int32) ≤ nI 4) z⟩
        iterate 2 (refine hX _ _ _ _ ?_; conv => whnf)
        exact loop2 12 0 D1 (by omega) f1 f2 f3 f4 f5 (fun j hj => by omega)
      | succ m ih =>
        intro b D1 hb f1 f2 f3 f4 f5
        have hcl : (nI b).toNatClampNeg = b := nI_clamp (by omega)
        repeat (refine hX _ _ _ _ ?_; conv => whnf)
        refine ⟨fun z => absurd z (nI_ge (a := b) (b := 4) (by omega) (by omega)), fun _ => ?_⟩
        repeat (refine hX _ _ _ _ ?_; conv => whnf)
        refine ⟨v4 b (by omega), ?_⟩
        repeat (refine hX _ _ _ _ ?_; conv => whnf)
        refine ⟨by decide, v4 b (by omega), ?_⟩
        repeat (refine hX _ _ _ _ ?_; conv => whnf)
        refine ⟨v4 b (by omega), ?_⟩
        repeat (refine hX _ _ _ _ ?_; conv => whnf)
        refine ⟨by decide, v4 b (by omega), ?_⟩
        repeat (refine hX _ _ _ _ ?_; conv => whnf)
        refine ⟨v4 b (by omega), ?_⟩
        repeat (refine hX _ _ _ _ ?_; conv => whnf)
        refine ⟨by decide, v4 b (by omega), ?_⟩
        repeat (refine hX _ _ _ _ ?_; conv => whnf)
        refine ⟨v4 b (by omega), ?_⟩
        repeat (refine hX _ _ _ _ ?_; conv => whnf)
        refine ⟨by decide, v4 b (by omega), ?_⟩
        repeat (refine hX _ _ _ _ ?_; conv => whnf)
        refine ⟨v4 b (by omega), ?_⟩
        repeat (refine hX _ _ _ _ ?_; conv => whnf)
        refine ⟨by decide, v4 b (by omega), ?_⟩
        repeat (refine hX _ _ _ _ ?_; conv => whnf)
        refine ⟨v4 b (by omega), ?_⟩
        repeat (refine hX _ _ _ _ ?_; conv => whnf)
        refine ⟨by decide, v4 b (by omega), ?_⟩
        iterate 2 (refine hX _ _ _ _ ?_; conv => whnf)
        rw [nI_1, hcl]
        refine ih (b + 1) _ (by omega) (fun r hr => ?_) (fun k hk => ?_) ?_ ?_ (fun j hj => ?_)
        · repeat rw [pm_mu_ne _ _ _ (by omega)]
          exact f1 r hr
        · repeat rw [pm_mu_r _ _ _ _ (by decide)]
          exact f2 k hk
        · repeat rw [pm_mu_r _ _ _ _ (by decide)]
          exact f3
        · repeat rw [pm_mu_r _ _ _ _ (by decide)]
          exact f4
        · simp only [pm_mu_eq, Nat.reduceEqDiff, if_true, if_false]
          rw [f1 11 (by decide), f1 12 (by decide), f1 13 (by decide), f1 14 (by decide), f1 15 (by decide), f1 16 (by decide)]
          by_cases e : j = b
          · simp only [e, if_true, and_self]
          · simp only [e, if_false]
            exact f5 j (by omega)
    iterate 24 (refine hX _ _ _ _ ?_; conv => whnf)
    refine loop1 4 0 _ (by omega) (fun r hr => ?_) (fun k hk => ?_) ?_ ?_ (fun j hj => by omega)
    · repeat rw [pm_mu_ne _ _ _ (by omega)]
    · have hk4 : k = 0 ∨ k = 1 ∨ k = 2 ∨ k = 3 := by omega
      rcases hk4 with rfl | rfl | rfl | rfl <;> simp [pm_mu_eq]
    · simp [pm_mu_eq]
    · simp [pm_mu_eq]
  · refine ⟨rfl, fun X hX => ?_⟩
    replace hX : ∀ pc L st D, pm_F N Ga tbX0_becomeLike none post X pc L st D → X pc L st D := hX
    change X 0 [some (.ref 20), some (.ref 0), none] [] D
    have loop2 : ∀ (m i : Nat) (D1 : pm_Mem), i + m = 12 → z_F 20 D D1 → (∀ k, k < 4 → D1 20 k = D 0 k) → D1 20 13 = 0 → D1 20 14 = 0 → (∀ j, j < 4 → D1 21 j = D 1 j ∧ D1 22 j = D 2 j ∧ D1 23 j = D 3 j ∧ D1 24 j = D 4 j ∧ D1 25 j = D 5 j ∧ D1 26 j = D 6 j) → (∀ j, j < i → D1 27 j = D 7 j ∧ D1 28 j = D 8 j) → X 129 [some (.ref 20), some (.ref 0), some (.int (nI i))] [] D1 := by
      intro m
      induction m with
      | zero =>
        intro i D1 hi f1 f2 f3 f4 f5 f6
        have hi : i = 12 := by omega
        subst hi
        repeat (refine hX _ _ _ _ ?_; conv => whnf)
        refine ⟨fun _ => ?_, fun z => absurd (by decide : (12 : Int32) ≤ nI 12) z⟩
        repeat (refine hX _ _ _ _ ?_; conv => whnf)
        refine h D1 (fun g hn hk hR => ?_) f1 f3 f4
        obtain ⟨a1, a2, a3, a4, a5, a6⟩ := hR
        refine ⟨(f2 0 (by omega)).trans a1, (f2 1 (by omega)).trans a2, (f2 2 (by omega)).trans a3, (f2 3 (by omega)).trans a4, fun b hb => ?_, fun i hi => ?_⟩
        · obtain ⟨b1, b2, b3, b4, b5, b6⟩ := a5 b hb
          obtain ⟨c1, c2, c3, c4, c5, c6⟩ := f5 b (by omega)
          exact ⟨c1.trans b1, c2.trans b2, c3.trans b3, c4.trans b4, c5.trans b5, c6.trans b6⟩
        · obtain ⟨b1, b2⟩ := a6 i hi
          obtain ⟨c1, c2⟩ := f6 i (by omega)
          exact ⟨c1.trans b1, c2.trans b2⟩
      | succ m ih =>
        intro i D1 hi f1 f2 f3 f4 f5 f6
        have hcl : (nI i).toNatClampNeg = i := nI_clamp (by omega)
        repeat (refine hX _ _ _ _ ?_; conv => whnf)
        refine ⟨fun z => absurd z (nI_ge (a := i) (b := 12) (by omega) (by omega)), fun _ => ?_⟩
        repeat (refine hX _ _ _ _ ?_; conv => whnf)
        refine ⟨v12 i (by omega), ?_⟩
        repeat (refine hX _ _ _ _ ?_; conv => whnf)
        refine ⟨by decide, v12 i (by omega), ?_⟩
        repeat (refine hX _ _ _ _ ?_; conv => whnf)
        refine ⟨v12 i (by omega), ?_⟩
        repeat (refine hX _ _ _ _ ?_; conv => whnf)
        refine ⟨by decide, v12 i (by omega), ?_⟩
        iterate 2 (refine hX _ _ _ _ ?_; conv => whnf)
        rw [nI_1, hcl]
        refine ih (i + 1) _ (by omega) (fun r hr => ?_) (fun k hk => ?_) ?_ ?_ (fun j hj => ?_) (fun j hj => ?_)
        · rw [pm_mu_ne _ _ _ (by omega), pm_mu_ne _ _ _ (by omega)]; exact f1 r hr
        · rw [pm_mu_r _ _ _ _ (by decide), pm_mu_r _ _ _ _ (by decide)]; exact f2 k hk
        · rw [pm_mu_r _ _ _ _ (by decide), pm_mu_r _ _ _ _ (by decide)]; exact f3
        · rw [pm_mu_r _ _ _ _ (by decide), pm_mu_r _ _ _ _ (by decide)]; exact f4
        · repeat rw [pm_mu_ne _ _ _ (by decide)]
          exact f5 j hj
        · rw [pm_mu_r _ _ _ _ (show 27 ≠ 28 by decide), pm_mu_eq _ 27, if_pos rfl, pm_mu_eq _ 28, if_pos rfl, pm_mu_r _ _ _ _ (show 8 ≠ 27 by decide), pm_mu_r _ _ _ _ (show 28 ≠ 27 by decide), f1 7 (by decide), f1 8 (by decide)]
          by_cases e : j = i
          · rw [if_pos e, if_pos e, e]; exact ⟨rfl, rfl⟩
          · rw [if_neg e, if_neg e]; exact f6 j (by omega)
    have loop1 : ∀ (m b : Nat) (D1 : pm_Mem), b + m = 4 → z_F 20 D D1 → (∀ k, k < 4 → D1 20 k = D 0 k) → D1 20 13 = 0 → D1 20 14 = 0 → (∀ j, j < b → D1 21 j = D 1 j ∧ D1 22 j = D 2 j ∧ D1 23 j = D 3 j ∧ D1 24 j = D 4 j ∧ D1 25 j = D 5 j ∧ D1 26 j = D 6 j) → X 44 [some (.ref 20), some (.ref 0), some (.int (nI b))] [] D1 := by
      intro m
      induction m with
      | zero =>
        intro b D1 hb f1 f2 f3 f4 f5
        have hb : b = 4 := by omega
        subst hb
        repeat (refine hX _ _ _ _ ?_; conv => whnf)
        refine ⟨fun _ => ?_, fun z => absurd (by decide : (4 : Int32) ≤ nI 4) z⟩
        iterate 2 (refine hX _ _ _ _ ?_; conv => whnf)
        exact loop2 12 0 D1 (by omega) f1 f2 f3 f4 f5 (fun j hj => by omega)
      | succ m ih =>
        intro b D1 hb f1 f2 f3 f4 f5
        have hcl : (nI b).toNatClampNeg = b := nI_clamp (by omega)
        repeat (refine hX _ _ _ _ ?_; conv => whnf)
        refine ⟨fun z => absurd z (nI_ge (a := b) (b := 4) (by omega) (by omega)), fun _ => ?_⟩
        repeat (refine hX _ _ _ _ ?_; conv => whnf)
        refine ⟨v4 b (by omega), ?_⟩
        repeat (refine hX _ _ _ _ ?_; conv => whnf)
        refine ⟨by decide, v4 b (by omega), ?_⟩
        repeat (refine hX _ _ _ _ ?_; conv => whnf)
        refine ⟨v4 b (by omega), ?_⟩
        repeat (refine hX _ _ _ _ ?_; conv => whnf)
        refine ⟨by decide, v4 b (by omega), ?_⟩
        repeat (refine hX _ _ _ _ ?_; conv => whnf)
        refine ⟨v4 b (by omega), ?_⟩
        repeat (refine hX _ _ _ _ ?_; conv => whnf)
        refine ⟨by decide, v4 b (by omega), ?_⟩
        repeat (refine hX _ _ _ _ ?_; conv => whnf)
        refine ⟨v4 b (by omega), ?_⟩
        repeat (refine hX _ _ _ _ ?_; conv => whnf)
        refine ⟨by decide, v4 b (by omega), ?_⟩
        repeat (refine hX _ _ _ _ ?_; conv => whnf)
        refine ⟨v4 b (by omega), ?_⟩
        repeat (refine hX _ _ _ _ ?_; conv => whnf)
        refine ⟨by decide, v4 b (by omega), ?_⟩
        repeat (refine hX _ _ _ _ ?_; conv => whnf)
        refine ⟨v4 b (by omega), ?_⟩
        repeat (refine hX _ _ _ _ ?_; conv => whnf)
        refine ⟨by decide, v4 b (by omega), ?_⟩
        iterate 2 (refine hX _ _ _ _ ?_; conv => whnf)
        rw [nI_1, hcl]
        refine ih (b + 1) _ (by omega) (fun r hr => ?_) (fun k hk => ?_) ?_ ?_ (fun j hj => ?_)
        · repeat rw [pm_mu_ne _ _ _ (by omega)]
          exact f1 r hr
        · repeat rw [pm_mu_r _ _ _ _ (by decide)]
          exact f2 k hk
        · repeat rw [pm_mu_r _ _ _ _ (by decide)]
          exact f3
        · repeat rw [pm_mu_r _ _ _ _ (by decide)]
          exact f4
        · simp only [pm_mu_eq, Nat.reduceEqDiff, if_true, if_false]
          rw [f1 1 (by decide), f1 2 (by decide), f1 3 (by decide), f1 4 (by decide), f1 5 (by decide), f1 6 (by decide)]
          by_cases e : j = b
          · simp only [e, if_true, and_self]
          · simp only [e, if_false]
            exact f5 j (by omega)
    iterate 24 (refine hX _ _ _ _ ?_; conv => whnf)
    refine loop1 4 0 _ (by omega) (fun r hr => ?_) (fun k hk => ?_) ?_ ?_ (fun j hj => by omega)
    · repeat rw [pm_mu_ne _ _ _ (by omega)]
    · have hk4 : k = 0 ∨ k = 1 ∨ k = 2 ∨ k = 3 := by omega
      rcases hk4 with rfl | rfl | rfl | rfl <;> simp [pm_mu_eq]
    · simp [pm_mu_eq]
    · simp [pm_mu_eq]
  · refine ⟨rfl, fun X hX => ?_⟩
    replace hX : ∀ pc L st D, pm_F N Ga tbX0_becomeLike none post X pc L st D → X pc L st D := hX
    change X 0 [some (.ref 30), some (.ref 0), none] [] D
    have loop2 : ∀ (m i : Nat) (D1 : pm_Mem), i + m = 12 → z_F 30 D D1 → (∀ k, k < 4 → D1 30 k = D 0 k) → D1 30 13 = 0 → D1 30 14 = 0 → (∀ j, j < 4 → D1 31 j = D 1 j ∧ D1 32 j = D 2 j ∧ D1 33 j = D 3 j ∧ D1 34 j = D 4 j ∧ D1 35 j = D 5 j ∧ D1 36 j = D 6 j) → (∀ j, j < i → D1 37 j = D 7 j ∧ D1 38 j = D 8 j) → X 129 [some (.ref 30), some (.ref 0), some (.int (nI i))] [] D1 := by
      intro m
      induction m with
      | zero =>
        intro i D1 hi f1 f2 f3 f4 f5 f6
        have hi : i = 12 := by omega
        subst hi
        repeat (refine hX _ _ _ _ ?_; conv => whnf)
        refine ⟨fun _ => ?_, fun z => absurd (by decide : (12 : Int32) ≤ nI 12) z⟩
        repeat (refine hX _ _ _ _ ?_; conv => whnf)
        refine h D1 (fun g hn hk hR => ?_) f1 f3 f4
        obtain ⟨a1, a2, a3, a4, a5, a6⟩ := hR
        refine ⟨(f2 0 (by omega)).trans a1, (f2 1 (by omega)).trans a2, (f2 2 (by omega)).trans a3, (f2 3 (by omega)).trans a4, fun b hb => ?_, fun i hi => ?_⟩
        · obtain ⟨b1, b2, b3, b4, b5, b6⟩ := a5 b hb
          obtain ⟨c1, c2, c3, c4, c5, c6⟩ := f5 b (by omega)
          exact ⟨c1.trans b1, c2.trans b2, c3.trans b3, c4.trans b4, c5.trans b5, c6.trans b6⟩
        · obtain ⟨b1, b2⟩ := a6 i hi
          obtain ⟨c1, c2⟩ := f6 i (by omega)
          exact ⟨c1.trans b1, c2.trans b2⟩
      | succ m ih =>
        intro i D1 hi f1 f2 f3 f4 f5 f6
        have hcl : (nI i).toNatClampNeg = i := nI_clamp (by omega)
        repeat (refine hX _ _ _ _ ?_; conv => whnf)
        refine ⟨fun z => absurd z (nI_ge (a := i) (b := 12) (by omega) (by omega)), fun _ => ?_⟩
        repeat (refine hX _ _ _ _ ?_; conv => whnf)
        refine ⟨v12 i (by omega), ?_⟩
        repeat (refine hX _ _ _ _ ?_; conv => whnf)
        refine ⟨by decide, v12 i (by omega), ?_⟩
        repeat (refine hX _ _ _ _ ?_; conv => whnf)
        refine ⟨v12 i (by omega), ?_⟩
        repeat (refine hX _ _ _ _ ?_; conv => whnf)
        refine ⟨by decide, v12 i (by omega), ?_⟩
        iterate 2 (refine hX _ _ _ _ ?_; conv => whnf)
        rw [nI_1, hcl]
        refine ih (i + 1) _ (by omega) (fun r hr => ?_) (fun k hk => ?_) ?_ ?_ (fun j hj => ?_) (fun j hj => ?_)
        · rw [pm_mu_ne _ _ _ (by omega), pm_mu_ne _ _ _ (by omega)]; exact f1 r hr
        · rw [pm_mu_r _ _ _ _ (by decide), pm_mu_r _ _ _ _ (by decide)]; exact f2 k hk
        · rw [pm_mu_r _ _ _ _ (by decide), pm_mu_r _ _ _ _ (by decide)]; exact f3
        · rw [pm_mu_r _ _ _ _ (by decide), pm_mu_r _ _ _ _ (by decide)]; exact f4
        · repeat rw [pm_mu_ne _ _ _ (by decide)]
          exact f5 j hj
        · rw [pm_mu_r _ _ _ _ (show 37 ≠ 38 by decide), pm_mu_eq _ 37, if_pos rfl, pm_mu_eq _ 38, if_pos rfl, pm_mu_r _ _ _ _ (show 8 ≠ 37 by decide), pm_mu_r _ _ _ _ (show 38 ≠ 37 by decide), f1 7 (by decide), f1 8 (by decide)]
          by_cases e : j = i
          · rw [if_pos e, if_pos e, e]; exact ⟨rfl, rfl⟩
          · rw [if_neg e, if_neg e]; exact f6 j (by omega)
    have loop1 : ∀ (m b : Nat) (D1 : pm_Mem), b + m = 4 → z_F 30 D D1 → (∀ k, k < 4 → D1 30 k = D 0 k) → D1 30 13 = 0 → D1 30 14 = 0 → (∀ j, j < b → D1 31 j = D 1 j ∧ D1 32 j = D 2 j ∧ D1 33 j = D 3 j ∧ D1 34 j = D 4 j ∧ D1 35 j = D 5 j ∧ D1 36 j = D 6 j) → X 44 [some (.ref 30), some (.ref 0), some (.int (nI b))] [] D1 := by
      intro m
      induction m with
      | zero =>
        intro b D1 hb f1 f2 f3 f4 f5
        have hb : b = 4 := by omega
        subst hb
        repeat (refine hX _ _ _ _ ?_; conv => whnf)
        refine ⟨fun _ => ?_, fun z => absurd (by decide : (4 : Int32) ≤ nI 4) z⟩
        iterate 2 (refine hX _ _ _ _ ?_; conv => whnf)
        exact loop2 12 0 D1 (by omega) f1 f2 f3 f4 f5 (fun j hj => by omega)
      | succ m ih =>
        intro b D1 hb f1 f2 f3 f4 f5
        have hcl : (nI b).toNatClampNeg = b := nI_clamp (by omega)
        repeat (refine hX _ _ _ _ ?_; conv => whnf)
        refine ⟨fun z => absurd z (nI_ge (a := b) (b := 4) (by omega) (by omega)), fun _ => ?_⟩
        repeat (refine hX _ _ _ _ ?_; conv => whnf)
        refine ⟨v4 b (by omega), ?_⟩
        repeat (refine hX _ _ _ _ ?_; conv => whnf)
        refine ⟨by decide, v4 b (by omega), ?_⟩
        repeat (refine hX _ _ _ _ ?_; conv => whnf)
        refine ⟨v4 b (by omega), ?_⟩
        repeat (refine hX _ _ _ _ ?_; conv => whnf)
        refine ⟨by decide, v4 b (by omega), ?_⟩
        repeat (refine hX _ _ _ _ ?_; conv => whnf)
        refine ⟨v4 b (by omega), ?_⟩
        repeat (refine hX _ _ _ _ ?_; conv => whnf)
        refine ⟨by decide, v4 b (by omega), ?_⟩
        repeat (refine hX _ _ _ _ ?_; conv => whnf)
        refine ⟨v4 b (by omega), ?_⟩
        repeat (refine hX _ _ _ _ ?_; conv => whnf)
        refine ⟨by decide, v4 b (by omega), ?_⟩
        repeat (refine hX _ _ _ _ ?_; conv => whnf)
        refine ⟨v4 b (by omega), ?_⟩
        repeat (refine hX _ _ _ _ ?_; conv => whnf)
        refine ⟨by decide, v4 b (by omega), ?_⟩
        repeat (refine hX _ _ _ _ ?_; conv => whnf)
        refine ⟨v4 b (by omega), ?_⟩
        repeat (refine hX _ _ _ _ ?_; conv => whnf)
        refine ⟨by decide, v4 b (by omega), ?_⟩
        iterate 2 (refine hX _ _ _ _ ?_; conv => whnf)
        rw [nI_1, hcl]
        refine ih (b + 1) _ (by omega) (fun r hr => ?_) (fun k hk => ?_) ?_ ?_ (fun j hj => ?_)
        · repeat rw [pm_mu_ne _ _ _ (by omega)]
          exact f1 r hr
        · repeat rw [pm_mu_r _ _ _ _ (by decide)]
          exact f2 k hk
        · repeat rw [pm_mu_r _ _ _ _ (by decide)]
          exact f3
        · repeat rw [pm_mu_r _ _ _ _ (by decide)]
          exact f4
        · simp only [pm_mu_eq, Nat.reduceEqDiff, if_true, if_false]
          rw [f1 1 (by decide), f1 2 (by decide), f1 3 (by decide), f1 4 (by decide), f1 5 (by decide), f1 6 (by decide)]
          by_cases e : j = b
          · simp only [e, if_true, and_self]
          · simp only [e, if_false]
            exact f5 j (by omega)
    iterate 24 (refine hX _ _ _ _ ?_; conv => whnf)
    refine loop1 4 0 _ (by omega) (fun r hr => ?_) (fun k hk => ?_) ?_ ?_ (fun j hj => by omega)
    · repeat rw [pm_mu_ne _ _ _ (by omega)]
    · have hk4 : k = 0 ∨ k = 1 ∨ k = 2 ∨ k = 3 := by omega
      rcases hk4 with rfl | rfl | rfl | rfl <;> simp [pm_mu_eq]
    · simp [pm_mu_eq]
    · simp [pm_mu_eq]
  · refine ⟨rfl, fun X hX => ?_⟩
    replace hX : ∀ pc L st D, pm_F N Ga tbX0_becomeLike none post X pc L st D → X pc L st D := hX
    change X 0 [some (.ref 0), some (.ref 20), none] [] D
    have loop2 : ∀ (m i : Nat) (D1 : pm_Mem), i + m = 12 → z_F 0 D D1 → (∀ k, k < 4 → D1 0 k = D 20 k) → D1 0 13 = 0 → D1 0 14 = 0 → (∀ j, j < 4 → D1 1 j = D 21 j ∧ D1 2 j = D 22 j ∧ D1 3 j = D 23 j ∧ D1 4 j = D 24 j ∧ D1 5 j = D 25 j ∧ D1 6 j = D 26 j) → (∀ j, j < i → D1 7 j = D 27 j ∧ D1 8 j = D 28 j) → X 129 [some (.ref 0), some (.ref 20), some (.int (nI i))] [] D1 := by
      intro m
      induction m with
      | zero =>
        intro i D1 hi f1 f2 f3 f4 f5 f6
        have hi : i = 12 := by omega
        subst hi
        repeat (refine hX _ _ _ _ ?_; conv => whnf)
        refine ⟨fun _ => ?_, fun z => absurd (by decide : (12 : Int32) ≤ nI 12) z⟩
        repeat (refine hX _ _ _ _ ?_; conv => whnf)
        refine h D1 (fun g hn hk hR => ?_) f1 f3 f4
        obtain ⟨a1, a2, a3, a4, a5, a6⟩ := hR
        refine ⟨(f2 0 (by omega)).trans a1, (f2 1 (by omega)).trans a2, (f2 2 (by omega)).trans a3, (f2 3 (by omega)).trans a4, fun b hb => ?_, fun i hi => ?_⟩
        · obtain ⟨b1, b2, b3, b4, b5, b6⟩ := a5 b hb
          obtain ⟨c1, c2, c3, c4, c5, c6⟩ := f5 b (by omega)
          exact ⟨c1.trans b1, c2.trans b2, c3.trans b3, c4.trans b4, c5.trans b5, c6.trans b6⟩
        · obtain ⟨b1, b2⟩ := a6 i hi
          obtain ⟨c1, c2⟩ := f6 i (by omega)
          exact ⟨c1.trans b1, c2.trans b2⟩
      | succ m ih =>
        intro i D1 hi f1 f2 f3 f4 f5 f6
        have hcl : (nI i).toNatClampNeg = i := nI_clamp (by omega)
        repeat (refine hX _ _ _ _ ?_; conv => whnf)
        refine ⟨fun z => absurd z (nI_ge (a := i) (b := 12) (by omega) (by omega)), fun _ => ?_⟩
        repeat (refine hX _ _ _ _ ?_; conv => whnf)
        refine ⟨v12 i (by omega), ?_⟩
        repeat (refine hX _ _ _ _ ?_; conv => whnf)
        refine ⟨by decide, v12 i (by omega), ?_⟩
        repeat (refine hX _ _ _ _ ?_; conv => whnf)
        refine ⟨v12 i (by omega), ?_⟩
        repeat (refine hX _ _ _ _ ?_; conv => whnf)
        refine ⟨by decide, v12 i (by omega), ?_⟩
        iterate 2 (refine hX _ _ _ _ ?_; conv => whnf)
        rw [nI_1, hcl]
        refine ih (i + 1) _ (by omega) (fun r hr => ?_) (fun k hk => ?_) ?_ ?_ (fun j hj => ?_) (fun j hj => ?_)
        · rw [pm_mu_ne _ _ _ (by omega), pm_mu_ne _ _ _ (by omega)]; exact f1 r hr
        · rw [pm_mu_r _ _ _ _ (by decide), pm_mu_r _ _ _ _ (by decide)]; exact f2 k hk
        · rw [pm_mu_r _ _ _ _ (by decide), pm_mu_r _ _ _ _ (by decide)]; exact f3
        · rw [pm_mu_r _ _ _ _ (by decide), pm_mu_r _ _ _ _ (by decide)]; exact f4
        · repeat rw [pm_mu_ne _ _ _ (by decide)]
          exact f5 j hj
        · rw [pm_mu_r _ _ _ _ (show 7 ≠ 8 by decide), pm_mu_eq _ 7, if_pos rfl, pm_mu_eq _ 8, if_pos rfl, pm_mu_r _ _ _ _ (show 28 ≠ 7 by decide), pm_mu_r _ _ _ _ (show 8 ≠ 7 by decide), f1 27 (by decide), f1 28 (by decide)]
          by_cases e : j = i
          · rw [if_pos e, if_pos e, e]; exact ⟨rfl, rfl⟩
          · rw [if_neg e, if_neg e]; exact f6 j (by omega)
    have loop1 : ∀ (m b : Nat) (D1 : pm_Mem), b + m = 4 → z_F 0 D D1 → (∀ k, k < 4 → D1 0 k = D 20 k) → D1 0 13 = 0 → D1 0 14 = 0 → (∀ j, j < b → D1 1 j = D 21 j ∧ D1 2 j = D 22 j ∧ D1 3 j = D 23 j ∧ D1 4 j = D 24 j ∧ D1 5 j = D 25 j ∧ D1 6 j = D 26 j) → X 44 [some (.ref 0), some (.ref 20), some (.int (nI b))] [] D1 := by
      intro m
      induction m with
      | zero =>
        intro b D1 hb f1 f2 f3 f4 f5
        have hb : b = 4 := by omega
        subst hb
        repeat (refine hX _ _ _ _ ?_; conv => whnf)
        refine ⟨fun _ => ?_, fun z => absurd (by decide : (4 : Int32) ≤ nI 4) z⟩
        iterate 2 (refine hX _ _ _ _ ?_; conv => whnf)
        exact loop2 12 0 D1 (by omega) f1 f2 f3 f4 f5 (fun j hj => by omega)
      | succ m ih =>
        intro b D1 hb f1 f2 f3 f4 f5
        have hcl : (nI b).toNatClampNeg = b := nI_clamp (by omega)
        repeat (refine hX _ _ _ _ ?_; conv => whnf)
        refine ⟨fun z => absurd z (nI_ge (a := b) (b := 4) (by omega) (by omega)), fun _ => ?_⟩
        repeat (refine hX _ _ _ _ ?_; conv => whnf)
        refine ⟨v4 b (by omega), ?_⟩
        repeat (refine hX _ _ _ _ ?_; conv => whnf)
        refine ⟨by decide, v4 b (by omega), ?_⟩
        repeat (refine hX _ _ _ _ ?_; conv => whnf)
        refine ⟨v4 b (by omega), ?_⟩
        repeat (refine hX _ _ _ _ ?_; conv => whnf)
        refine ⟨by decide, v4 b (by omega), ?_⟩
        repeat (refine hX _ _ _ _ ?_; conv => whnf)
        refine ⟨v4 b (by omega), ?_⟩
        repeat (refine hX _ _ _ _ ?_; conv => whnf)
        refine ⟨by decide, v4 b (by omega), ?_⟩
        repeat (refine hX _ _ _ _ ?_; conv => whnf)
        refine ⟨v4 b (by omega), ?_⟩
        repeat (refine hX _ _ _ _ ?_; conv => whnf)
        refine ⟨by decide, v4 b (by omega), ?_⟩
        repeat (refine hX _ _ _ _ ?_; conv => whnf)
        refine ⟨v4 b (by omega), ?_⟩
        repeat (refine hX _ _ _ _ ?_; conv => whnf)
        refine ⟨by decide, v4 b (by omega), ?_⟩
        repeat (refine hX _ _ _ _ ?_; conv => whnf)
        refine ⟨v4 b (by omega), ?_⟩
        repeat (refine hX _ _ _ _ ?_; conv => whnf)
        refine ⟨by decide, v4 b (by omega), ?_⟩
        iterate 2 (refine hX _ _ _ _ ?_; conv => whnf)
        rw [nI_1, hcl]
        refine ih (b + 1) _ (by omega) (fun r hr => ?_) (fun k hk => ?_) ?_ ?_ (fun j hj => ?_)
        · repeat rw [pm_mu_ne _ _ _ (by omega)]
          exact f1 r hr
        · repeat rw [pm_mu_r _ _ _ _ (by decide)]
          exact f2 k hk
        · repeat rw [pm_mu_r _ _ _ _ (by decide)]
          exact f3
        · repeat rw [pm_mu_r _ _ _ _ (by decide)]
          exact f4
        · simp only [pm_mu_eq, Nat.reduceEqDiff, if_true, if_false]
          rw [f1 21 (by decide), f1 22 (by decide), f1 23 (by decide), f1 24 (by decide), f1 25 (by decide), f1 26 (by decide)]
          by_cases e : j = b
          · simp only [e, if_true, and_self]
          · simp only [e, if_false]
            exact f5 j (by omega)
    iterate 24 (refine hX _ _ _ _ ?_; conv => whnf)
    refine loop1 4 0 _ (by omega) (fun r hr => ?_) (fun k hk => ?_) ?_ ?_ (fun j hj => by omega)
    · repeat rw [pm_mu_ne _ _ _ (by omega)]
    · have hk4 : k = 0 ∨ k = 1 ∨ k = 2 ∨ k = 3 := by omega
      rcases hk4 with rfl | rfl | rfl | rfl <;> simp [pm_mu_eq]
    · simp [pm_mu_eq]
    · simp [pm_mu_eq]
  · refine ⟨rfl, fun X hX => ?_⟩
    replace hX : ∀ pc L st D, pm_F N Ga tbX0_becomeLike none post X pc L st D → X pc L st D := hX
    change X 0 [some (.ref 0), some (.ref 30), none] [] D
    have loop2 : ∀ (m i : Nat) (D1 : pm_Mem), i + m = 12 → z_F 0 D D1 → (∀ k, k < 4 → D1 0 k = D 30 k) → D1 0 13 = 0 → D1 0 14 = 0 → (∀ j, j < 4 → D1 1 j = D 31 j ∧ D1 2 j = D 32 j ∧ D1 3 j = D 33 j ∧ D1 4 j = D 34 j ∧ D1 5 j = D 35 j ∧ D1 6 j = D 36 j) → (∀ j, j < i → D1 7 j = D 37 j ∧ D1 8 j = D 38 j) → X 129 [some (.ref 0), some (.ref 30), some (.int (nI i))] [] D1 := by
      intro m
      induction m with
      | zero =>
        intro i D1 hi f1 f2 f3 f4 f5 f6
        have hi : i = 12 := by omega
        subst hi
        repeat (refine hX _ _ _ _ ?_; conv => whnf)
        refine ⟨fun _ => ?_, fun z => absurd (by decide : (12 : Int32) ≤ nI 12) z⟩
        repeat (refine hX _ _ _ _ ?_; conv => whnf)
        refine h D1 (fun g hn hk hR => ?_) f1 f3 f4
        obtain ⟨a1, a2, a3, a4, a5, a6⟩ := hR
        refine ⟨(f2 0 (by omega)).trans a1, (f2 1 (by omega)).trans a2, (f2 2 (by omega)).trans a3, (f2 3 (by omega)).trans a4, fun b hb => ?_, fun i hi => ?_⟩
        · obtain ⟨b1, b2, b3, b4, b5, b6⟩ := a5 b hb
          obtain ⟨c1, c2, c3, c4, c5, c6⟩ := f5 b (by omega)
          exact ⟨c1.trans b1, c2.trans b2, c3.trans b3, c4.trans b4, c5.trans b5, c6.trans b6⟩
        · obtain ⟨b1, b2⟩ := a6 i hi
          obtain ⟨c1, c2⟩ := f6 i (by omega)
          exact ⟨c1.trans b1, c2.trans b2⟩
      | succ m ih =>
        intro i D1 hi f1 f2 f3 f4 f5 f6
        have hcl : (nI i).toNatClampNeg = i := nI_clamp (by omega)
        repeat (refine hX _ _ _ _ ?_; conv => whnf)
        refine ⟨fun z => absurd z (nI_ge (a := i) (b := 12) (by omega) (by omega)), fun _ => ?_⟩
        repeat (refine hX _ _ _ _ ?_; conv => whnf)
        refine ⟨v12 i (by omega), ?_⟩
        repeat (refine hX _ _ _ _ ?_; conv => whnf)
        refine ⟨by decide, v12 i (by omega), ?_⟩
        repeat (refine hX _ _ _ _ ?_; conv => whnf)
        refine ⟨v12 i (by omega), ?_⟩
        repeat (refine hX _ _ _ _ ?_; conv => whnf)
        refine ⟨by decide, v12 i (by omega), ?_⟩
        iterate 2 (refine hX _ _ _ _ ?_; conv => whnf)
        rw [nI_1, hcl]
        refine ih (i + 1) _ (by omega) (fun r hr => ?_) (fun k hk => ?_) ?_ ?_ (fun j hj => ?_) (fun j hj => ?_)
        · rw [pm_mu_ne _ _ _ (by omega), pm_mu_ne _ _ _ (by omega)]; exact f1 r hr
        · rw [pm_mu_r _ _ _ _ (by decide), pm_mu_r _ _ _ _ (by decide)]; exact f2 k hk
        · rw [pm_mu_r _ _ _ _ (by decide), pm_mu_r _ _ _ _ (by decide)]; exact f3
        · rw [pm_mu_r _ _ _ _ (by decide), pm_mu_r _ _ _ _ (by decide)]; exact f4
        · repeat rw [pm_mu_ne _ _ _ (by decide)]
          exact f5 j hj
        · rw [pm_mu_r _ _ _ _ (show 7 ≠ 8 by decide), pm_mu_eq _ 7, if_pos rfl, pm_mu_eq _ 8, if_pos rfl, pm_mu_r _ _ _ _ (show 38 ≠ 7 by decide), pm_mu_r _ _ _ _ (show 8 ≠ 7 by decide), f1 37 (by decide), f1 38 (by decide)]
          by_cases e : j = i
          · rw [if_pos e, if_pos e, e]; exact ⟨rfl, rfl⟩
          · rw [if_neg e, if_neg e]; exact f6 j (by omega)
    have loop1 : ∀ (m b : Nat) (D1 : pm_Mem), b + m = 4 → z_F 0 D D1 → (∀ k, k < 4 → D1 0 k = D 30 k) → D1 0 13 = 0 → D1 0 14 = 0 → (∀ j, j < b → D1 1 j = D 31 j ∧ D1 2 j = D 32 j ∧ D1 3 j = D 33 j ∧ D1 4 j = D 34 j ∧ D1 5 j = D 35 j ∧ D1 6 j = D 36 j) → X 44 [some (.ref 0), some (.ref 30), some (.int (nI b))] [] D1 := by
      intro m
      induction m with
      | zero =>
        intro b D1 hb f1 f2 f3 f4 f5
        have hb : b = 4 := by omega
        subst hb
        repeat (refine hX _ _ _ _ ?_; conv => whnf)
        refine ⟨fun _ => ?_, fun z => absurd (by decide : (4 : Int32) ≤ nI 4) z⟩
        iterate 2 (refine hX _ _ _ _ ?_; conv => whnf)
        exact loop2 12 0 D1 (by omega) f1 f2 f3 f4 f5 (fun j hj => by omega)
      | succ m ih =>
        intro b D1 hb f1 f2 f3 f4 f5
        have hcl : (nI b).toNatClampNeg = b := nI_clamp (by omega)
        repeat (refine hX _ _ _ _ ?_; conv => whnf)
        refine ⟨fun z => absurd z (nI_ge (a := b) (b := 4) (by omega) (by omega)), fun _ => ?_⟩
        repeat (refine hX _ _ _ _ ?_; conv => whnf)
        refine ⟨v4 b (by omega), ?_⟩
        repeat (refine hX _ _ _ _ ?_; conv => whnf)
        refine ⟨by decide, v4 b (by omega), ?_⟩
        repeat (refine hX _ _ _ _ ?_; conv => whnf)
        refine ⟨v4 b (by omega), ?_⟩
        repeat (refine hX _ _ _ _ ?_; conv => whnf)
        refine ⟨by decide, v4 b (by omega), ?_⟩
        repeat (refine hX _ _ _ _ ?_; conv => whnf)
        refine ⟨v4 b (by omega), ?_⟩
        repeat (refine hX _ _ _ _ ?_; conv => whnf)
        refine ⟨by decide, v4 b (by omega), ?_⟩
        repeat (refine hX _ _ _ _ ?_; conv => whnf)
        refine ⟨v4 b (by omega), ?_⟩
        repeat (refine hX _ _ _ _ ?_; conv => whnf)
        refine ⟨by decide, v4 b (by omega), ?_⟩
        repeat (refine hX _ _ _ _ ?_; conv => whnf)
        refine ⟨v4 b (by omega), ?_⟩
        repeat (refine hX _ _ _ _ ?_; conv => whnf)
        refine ⟨by decide, v4 b (by omega), ?_⟩
        repeat (refine hX _ _ _ _ ?_; conv => whnf)
        refine ⟨v4 b (by omega), ?_⟩
        repeat (refine hX _ _ _ _ ?_; conv => whnf)
        refine ⟨by decide, v4 b (by omega), ?_⟩
        iterate 2 (refine hX _ _ _ _ ?_; conv => whnf)
        rw [nI_1, hcl]
        refine ih (b + 1) _ (by omega) (fun r hr => ?_) (fun k hk => ?_) ?_ ?_ (fun j hj => ?_)
        · repeat rw [pm_mu_ne _ _ _ (by omega)]
          exact f1 r hr
        · repeat rw [pm_mu_r _ _ _ _ (by decide)]
          exact f2 k hk
        · repeat rw [pm_mu_r _ _ _ _ (by decide)]
          exact f3
        · repeat rw [pm_mu_r _ _ _ _ (by decide)]
          exact f4
        · simp only [pm_mu_eq, Nat.reduceEqDiff, if_true, if_false]
          rw [f1 31 (by decide), f1 32 (by decide), f1 33 (by decide), f1 34 (by decide), f1 35 (by decide), f1 36 (by decide)]
          by_cases e : j = b
          · simp only [e, if_true, and_self]
          · simp only [e, if_false]
            exact f5 j (by omega)
    iterate 24 (refine hX _ _ _ _ ?_; conv => whnf)
    refine loop1 4 0 _ (by omega) (fun r hr => ?_) (fun k hk => ?_) ?_ ?_ (fun j hj => by omega)
    · repeat rw [pm_mu_ne _ _ _ (by omega)]
    · have hk4 : k = 0 ∨ k = 1 ∨ k = 2 ∨ k = 3 := by omega
      rcases hk4 with rfl | rfl | rfl | rfl <;> simp [pm_mu_eq]
    · simp [pm_mu_eq]
    · simp [pm_mu_eq]
def sp_clear (Ga : pm_Ga) : Prop := ∀ (c : Nat) (D : pm_Mem) (post : pm_Post), c ∈ pm_chs → (∀ D', z_R D' c (fun _ => 0) → z_F c D D' → post none D') → Ga 1 [.ref c] D post
set_option maxHeartbeats 2000000 in
theorem t_clear {N : Nat} {Ga : pm_Ga} : sp_clear (pm_up N Ga) := by
  intro c D post hc h
  rcases pm_chs_of hc with rfl | rfl | rfl | rfl
  · refine ⟨rfl, fun X hX => ?_⟩
    replace hX : ∀ pc L st D, pm_F N Ga tbX0_clear none post X pc L st D → X pc L st D := hX
    change X 0 [some (.ref 0)] [] D
    repeat (refine hX _ _ _ _ ?_; conv => whnf)
    refine h _ ⟨?_, ?_, ?_, ?_, fun b hb => absurd hb (Nat.not_lt_zero b), fun i hi => absurd hi (Nat.not_lt_zero i)⟩ (fun r hr => ?_)
    · simp [pm_mu_eq]
    · simp [pm_mu_eq]
    · simp [pm_mu_eq]
    · simp [pm_mu_eq]
    · repeat rw [pm_mu_ne _ _ _ (by omega)]
  · refine ⟨rfl, fun X hX => ?_⟩
    replace hX : ∀ pc L st D, pm_F N Ga tbX0_clear none post X pc L st D → X pc L st D := hX
    change X 0 [some (.ref 10)] [] D
    repeat (refine hX _ _ _ _ ?_; conv => whnf)
    refine h _ ⟨?_, ?_, ?_, ?_, fun b hb => absurd hb (Nat.not_lt_zero b), fun i hi => absurd hi (Nat.not_lt_zero i)⟩ (fun r hr => ?_)
    · simp [pm_mu_eq]
    · simp [pm_mu_eq]
    · simp [pm_mu_eq]
    · simp [pm_mu_eq]
    · repeat rw [pm_mu_ne _ _ _ (by omega)]
  · refine ⟨rfl, fun X hX => ?_⟩
    replace hX : ∀ pc L st D, pm_F N Ga tbX0_clear none post X pc L st D → X pc L st D := hX
    change X 0 [some (.ref 20)] [] D
    repeat (refine hX _ _ _ _ ?_; conv => whnf)
    refine h _ ⟨?_, ?_, ?_, ?_, fun b hb => absurd hb (Nat.not_lt_zero b), fun i hi => absurd hi (Nat.not_lt_zero i)⟩ (fun r hr => ?_)
    · simp [pm_mu_eq]
    · simp [pm_mu_eq]
    · simp [pm_mu_eq]
    · simp [pm_mu_eq]
    · repeat rw [pm_mu_ne _ _ _ (by omega)]
  · refine ⟨rfl, fun X hX => ?_⟩
    replace hX : ∀ pc L st D, pm_F N Ga tbX0_clear none post X pc L st D → X pc L st D := hX
    change X 0 [some (.ref 30)] [] D
    repeat (refine hX _ _ _ _ ?_; conv => whnf)
    refine h _ ⟨?_, ?_, ?_, ?_, fun b hb => absurd hb (Nat.not_lt_zero b), fun i hi => absurd hi (Nat.not_lt_zero i)⟩ (fun r hr => ?_)
    · simp [pm_mu_eq]
    · simp [pm_mu_eq]
    · simp [pm_mu_eq]
    · simp [pm_mu_eq]
    · repeat rw [pm_mu_ne _ _ _ (by omega)]
def sp_rowOf (Ga : pm_Ga) : Prop := ∀ (c t : Nat) (D : pm_Mem) (post : pm_Post), c ∈ pm_chs → t ≤ 4 → post (some (.ref (c + 1 + t))) D → Ga 4 [.ref c, .int (nI t)] D post
set_option maxHeartbeats 2000000 in
theorem t_rowOf {N : Nat} {Ga : pm_Ga} : sp_rowOf (pm_up N Ga) := by
  intro c t D post hc ht h
  have hti : (nI t).toInt = t := z_tI (by omega)
  rcases pm_chs_of hc with rfl | rfl | rfl | rfl
  · have h5 : t = 0 ∨ t = 1 ∨ t = 2 ∨ t = 3 ∨ t = 4 := by omega
    refine ⟨rfl, fun X hX => ?_⟩
    replace hX : ∀ pc L st D, pm_F N Ga tbX0_rowOf (some (.array .int)) post X pc L st D → X pc L st D := hX
    change X 0 [some (.ref 0), some (.int (nI t))] [] D
    repeat (refine hX _ _ _ _ ?_; conv => whnf)
    rw [hti]
    refine ⟨fun q => ?_, fun q => ?_, fun q => ?_, fun q => ?_, fun q => ?_, trivial⟩
    · have e : t = 4 := by omega
      subst e
      repeat (refine hX _ _ _ _ ?_; conv => whnf)
      exact h
    · have e : t = 0 := by omega
      subst e
      repeat (refine hX _ _ _ _ ?_; conv => whnf)
      exact h
    · have e : t = 1 := by omega
      subst e
      repeat (refine hX _ _ _ _ ?_; conv => whnf)
      exact h
    · have e : t = 2 := by omega
      subst e
      repeat (refine hX _ _ _ _ ?_; conv => whnf)
      exact h
    · have e : t = 3 := by omega
      subst e
      repeat (refine hX _ _ _ _ ?_; conv => whnf)
      exact h
  · have h5 : t = 0 ∨ t = 1 ∨ t = 2 ∨ t = 3 ∨ t = 4 := by omega
    refine ⟨rfl, fun X hX => ?_⟩
    replace hX : ∀ pc L st D, pm_F N Ga tbX0_rowOf (some (.array .int)) post X pc L st D → X pc L st D := hX
    change X 0 [some (.ref 10), some (.int (nI t))] [] D
    repeat (refine hX _ _ _ _ ?_; conv => whnf)
    rw [hti]
    refine ⟨fun q => ?_, fun q => ?_, fun q => ?_, fun q => ?_, fun q => ?_, trivial⟩
    · have e : t = 4 := by omega
      subst e
      repeat (refine hX _ _ _ _ ?_; conv => whnf)
      exact h
    · have e : t = 0 := by omega
      subst e
      repeat (refine hX _ _ _ _ ?_; conv => whnf)
      exact h
    · have e : t = 1 := by omega
      subst e
      repeat (refine hX _ _ _ _ ?_; conv => whnf)
      exact h
    · have e : t = 2 := by omega
      subst e
      repeat (refine hX _ _ _ _ ?_; conv => whnf)
      exact h
    · have e : t = 3 := by omega
      subst e
      repeat (refine hX _ _ _ _ ?_; conv => whnf)
      exact h
  · have h5 : t = 0 ∨ t = 1 ∨ t = 2 ∨ t = 3 ∨ t = 4 := by omega
    refine ⟨rfl, fun X hX => ?_⟩
    replace hX : ∀ pc L st D, pm_F N Ga tbX0_rowOf (some (.array .int)) post X pc L st D → X pc L st D := hX
    change X 0 [some (.ref 20), some (.int (nI t))] [] D
    repeat (refine hX _ _ _ _ ?_; conv => whnf)
    rw [hti]
    refine ⟨fun q => ?_, fun q => ?_, fun q => ?_, fun q => ?_, fun q => ?_, trivial⟩
    · have e : t = 4 := by omega
      subst e
      repeat (refine hX _ _ _ _ ?_; conv => whnf)
      exact h
    · have e : t = 0 := by omega
      subst e
      repeat (refine hX _ _ _ _ ?_; conv => whnf)
      exact h
    · have e : t = 1 := by omega
      subst e
      repeat (refine hX _ _ _ _ ?_; conv => whnf)
      exact h
    · have e : t = 2 := by omega
      subst e
      repeat (refine hX _ _ _ _ ?_; conv => whnf)
      exact h
    · have e : t = 3 := by omega
      subst e
      repeat (refine hX _ _ _ _ ?_; conv => whnf)
      exact h
  · have h5 : t = 0 ∨ t = 1 ∨ t = 2 ∨ t = 3 ∨ t = 4 := by omega
    refine ⟨rfl, fun X hX => ?_⟩
    replace hX : ∀ pc L st D, pm_F N Ga tbX0_rowOf (some (.array .int)) post X pc L st D → X pc L st D := hX
    change X 0 [some (.ref 30), some (.int (nI t))] [] D
    repeat (refine hX _ _ _ _ ?_; conv => whnf)
    rw [hti]
    refine ⟨fun q => ?_, fun q => ?_, fun q => ?_, fun q => ?_, fun q => ?_, trivial⟩
    · have e : t = 4 := by omega
      subst e
      repeat (refine hX _ _ _ _ ?_; conv => whnf)
      exact h
    · have e : t = 0 := by omega
      subst e
      repeat (refine hX _ _ _ _ ?_; conv => whnf)
      exact h
    · have e : t = 1 := by omega
      subst e
      repeat (refine hX _ _ _ _ ?_; conv => whnf)
      exact h
    · have e : t = 2 := by omega
      subst e
      repeat (refine hX _ _ _ _ ?_; conv => whnf)
      exact h
    · have e : t = 3 := by omega
      subst e
      repeat (refine hX _ _ _ _ ?_; conv => whnf)
      exact h
/-- a sum over the first n -/
def z_sum (f : Nat → Int32) : Nat → Int32
  | 0 => 0
  | n + 1 => z_sum f n + f n
def sp_sumOf (Ga : pm_Ga) : Prop := ∀ (c t : Nat) (g : z_P) (D : pm_Mem) (post : pm_Post), c = 0 → (t = 2 ∨ t = 3) → z_R D c g → g 24 = nI (z_n g) → z_n g ≤ 4 → post (some (.int (z_sum (fun b => g (4 * t + b)) (z_n g)))) D → Ga 5 [.ref c, .int (nI t)] D post
set_option maxHeartbeats 2000000 in
theorem t_sumOf {N : Nat} {Ga : pm_Ga} (hro : sp_rowOf Ga) : sp_sumOf (pm_up N Ga) := by
  intro c t g D post hc ht hR hn hn4 h
  subst hc
  obtain ⟨a1, a2, a3, a4, a5, a6⟩ := hR
  rw [hn] at a1
  rcases ht with rfl | rfl
  · refine ⟨rfl, fun X hX => ?_⟩
    replace hX : ∀ pc L st D, pm_F N Ga tbX0_sumOf (some .int) post X pc L st D → X pc L st D := hX
    change X 0 [some (.ref 0), some (.int (nI 2)), none, none, none] [] D
    repeat (refine hX _ _ _ _ ?_; conv => whnf)
    refine hro 0 2 D _ (by decide) (by omega) ?_
    iterate 5 (refine hX _ _ _ _ ?_; conv => whnf)
    have loop : ∀ (m b : Nat), b + m = z_n g → X 11 [some (.ref 0), some (.int (nI 2)), some (.ref 3), some (.int (z_sum (fun b => g (4 * 2 + b)) b)), some (.int (nI b))] [] D := by
      intro m
      induction m with
      | zero =>
        intro b hb
        have hb : b = z_n g := by omega
        subst hb
        repeat (refine hX _ _ _ _ ?_; conv => whnf)
        rw [a1]
        refine ⟨fun _ => ?_, fun z => absurd (nI_le (Nat.le_refl _) (by omega)) z⟩
        repeat (refine hX _ _ _ _ ?_; conv => whnf)
        exact h
      | succ m ih =>
        intro b hb
        repeat (refine hX _ _ _ _ ?_; conv => whnf)
        rw [a1]
        refine ⟨fun z => absurd z (nI_ge (by omega) (by omega)), fun _ => ?_⟩
        repeat (refine hX _ _ _ _ ?_; conv => whnf)
        refine ⟨vp_in_nI (by omega) (by decide), ?_⟩
        have e : D 3 b = g (4 * 2 + b) := by
          have := a5 b (by omega)
          simp only [Nat.reduceAdd, Nat.reduceMul] at this ⊢
          first | exact this.2.2.1 | exact this.2.2.2.1
        rw [nI_clamp (by omega), e]
        iterate 4 (refine hX _ _ _ _ ?_; conv => whnf)
        rw [nI_1]
        exact ih (b + 1) (by omega)
    exact loop (z_n g) 0 (by omega)
  · refine ⟨rfl, fun X hX => ?_⟩
    replace hX : ∀ pc L st D, pm_F N Ga tbX0_sumOf (some .int) post X pc L st D → X pc L st D := hX
    change X 0 [some (.ref 0), some (.int (nI 3)), none, none, none] [] D
    repeat (refine hX _ _ _ _ ?_; conv => whnf)
    refine hro 0 3 D _ (by decide) (by omega) ?_
    iterate 5 (refine hX _ _ _ _ ?_; conv => whnf)
    have loop : ∀ (m b : Nat), b + m = z_n g → X 11 [some (.ref 0), some (.int (nI 3)), some (.ref 4), some (.int (z_sum (fun b => g (4 * 3 + b)) b)), some (.int (nI b))] [] D := by
      intro m
      induction m with
      | zero =>
        intro b hb
        have hb : b = z_n g := by omega
        subst hb
        repeat (refine hX _ _ _ _ ?_; conv => whnf)
        rw [a1]
        refine ⟨fun _ => ?_, fun z => absurd (nI_le (Nat.le_refl _) (by omega)) z⟩
        repeat (refine hX _ _ _ _ ?_; conv => whnf)
        exact h
      | succ m ih =>
        intro b hb
        repeat (refine hX _ _ _ _ ?_; conv => whnf)
        rw [a1]
        refine ⟨fun z => absurd z (nI_ge (by omega) (by omega)), fun _ => ?_⟩
        repeat (refine hX _ _ _ _ ?_; conv => whnf)
        refine ⟨vp_in_nI (by omega) (by decide), ?_⟩
        have e : D 4 b = g (4 * 3 + b) := by
          have := a5 b (by omega)
          simp only [Nat.reduceAdd, Nat.reduceMul] at this ⊢
          first | exact this.2.2.1 | exact this.2.2.2.1
        rw [nI_clamp (by omega), e]
        iterate 4 (refine hX _ _ _ _ ?_; conv => whnf)
        rw [nI_1]
        exact ih (b + 1) (by omega)
    exact loop (z_n g) 0 (by omega)
def z_still (g : z_P) : Nat → Int32
  | 0 => 0
  | b + 1 => if g (20 + b) = 0 then z_still g b ||| ((1 : Int32) <<< (nI b &&& 31)) else z_still g b
def sp_stillBits (Ga : pm_Ga) : Prop := ∀ (g : z_P) (D : pm_Mem) (post : pm_Post), z_R D 0 g → g 24 = nI (z_n g) → z_n g ≤ 4 → post (some (.int (z_still g (z_n g)))) D → Ga 7 [.ref 0] D post
set_option maxHeartbeats 2000000 in
theorem t_stillBits {N : Nat} {Ga : pm_Ga} : sp_stillBits (pm_up N Ga) := by
  intro g D post hR hn hn4 h
  obtain ⟨a1, a2, a3, a4, a5, a6⟩ := hR
  rw [hn] at a1
  refine ⟨rfl, fun X hX => ?_⟩
  replace hX : ∀ pc L st D, pm_F N Ga tbX0_stillBits (some .int) post X pc L st D → X pc L st D := hX
  change X 0 [some (.ref 0), none, none] [] D
  iterate 4 (refine hX _ _ _ _ ?_; conv => whnf)
  have loop : ∀ (m b : Nat), b + m = z_n g → X 4 [some (.ref 0), some (.int (z_still g b)), some (.int (nI b))] [] D := by
    intro m
    induction m with
    | zero =>
      intro b hb
      have hb : b = z_n g := by omega
      subst hb
      repeat (refine hX _ _ _ _ ?_; conv => whnf)
      rw [a1]
      refine ⟨fun _ => ?_, fun z => absurd (nI_le (Nat.le_refl _) (by omega)) z⟩
      repeat (refine hX _ _ _ _ ?_; conv => whnf)
      exact h
    | succ m ih =>
      intro b hb
      have ih := ih (b + 1) (by omega)
      have e : D 6 b = g (20 + b) := (a5 b (by omega)).2.2.2.2.2
      have ez : z_still g (b + 1) = if g (20 + b) = 0 then z_still g b ||| ((1 : Int32) <<< (nI b &&& 31)) else z_still g b := rfl
      rw [ez] at ih
      repeat (refine hX _ _ _ _ ?_; conv => whnf)
      rw [a1]
      refine ⟨fun z => absurd z (nI_ge (by omega) (by omega)), fun _ => ?_⟩
      repeat (refine hX _ _ _ _ ?_; conv => whnf)
      refine ⟨vp_in_nI (by omega) (by decide), ?_⟩
      rw [nI_clamp (by omega), e]
      repeat (refine hX _ _ _ _ ?_; conv => whnf)
      refine ⟨fun q => ?_, fun q => ?_⟩
      · iterate 2 (refine hX _ _ _ _ ?_; conv => whnf)
        rw [nI_1]
        rw [if_neg q] at ih
        exact ih
      · iterate 8 (refine hX _ _ _ _ ?_; conv => whnf)
        rw [nI_1]
        rw [if_pos q] at ih
        exact ih
  exact loop (z_n g) 0 (by omega)
