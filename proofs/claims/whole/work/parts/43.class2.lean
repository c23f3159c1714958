theorem z_R_put {D : pm_Mem} {w b : Nat} {g : z_P} {v : Int32} (h : z_R D 0 g) (hn : z_n g ≤ 4) (hw : w ≤ 4) (hb : b < z_n g) : z_R (pm_mu D (1 + w) b v) 0 (z_up g (4 * w + b) v) := by
  obtain ⟨a1, a2, a3, a4, a5, a6⟩ := h
  refine ⟨?_, ?_, ?_, ?_, fun j hj => ?_, fun i hi => ?_⟩
  · rw [pm_mu_ne D b v (by omega), z_up_ne g v (by omega)]; exact a1
  · rw [pm_mu_ne D b v (by omega), z_up_ne g v (by omega)]; exact a2
  · rw [pm_mu_ne D b v (by omega), z_up_ne g v (by omega)]; exact a3
  · rw [pm_mu_ne D b v (by omega), z_up_ne g v (by omega)]; exact a4
  · rw [z_n_up (by omega)] at hj
    obtain ⟨b1, b2, b3, b4, b5, b6⟩ := a5 j hj
    simp only [Nat.zero_add] at b1 b2 b3 b4 b5 b6 ⊢
    have key : ∀ (u : Nat), u ≤ 5 → D (1 + u) j = g (4 * u + j) → pm_mu D (1 + w) b v (1 + u) j = z_up g (4 * w + b) v (4 * u + j) := by
      intro u hu hg
      rw [pm_mu_eq]
      by_cases e : u = w
      · subst e
        rw [if_pos rfl]
        by_cases e2 : j = b
        · rw [if_pos e2, e2, z_up_at]
        · rw [if_neg e2, z_up_ne g v (by omega)]; exact hg
      · rw [if_neg (by omega), z_up_ne g v (by omega)]; exact hg
    have c0 := key 0 (by omega) (by simpa using b1)
    have c1 := key 1 (by omega) b2
    have c2 := key 2 (by omega) b3
    have c3 := key 3 (by omega) b4
    have c4 := key 4 (by omega) b5
    have c5 := key 5 (by omega) b6
    simp only [Nat.mul_zero, Nat.zero_add, Nat.reduceAdd, Nat.reduceMul] at c0 c1 c2 c3 c4 c5
    exact ⟨c0, c1, c2, c3, c4, c5⟩
  · rw [z_k_up (by omega)] at hi
    obtain ⟨b1, b2⟩ := a6 i hi
    exact ⟨by rw [pm_mu_ne D b v (by omega), z_up_ne g v (by omega)]; exact b1, by rw [pm_mu_ne D b v (by omega), z_up_ne g v (by omega)]; exact b2⟩
theorem z_R_drag {D : pm_Mem} {g : z_P} {v : Int32} (h : z_R D 0 g) (hn : z_n g ≤ 4) (hk : z_k g ≤ 12) : z_R (pm_mu D 0 2 v) 0 (z_up g 50 v) := by
  obtain ⟨a1, a2, a3, a4, a5, a6⟩ := h
  refine ⟨?_, ?_, ?_, ?_, fun j hj => ?_, fun i hi => ?_⟩
  · rw [pm_mu_k _ _ _ _ (by decide), z_up_ne g v (by omega)]; exact a1
  · rw [pm_mu_k _ _ _ _ (by decide), z_up_ne g v (by omega)]; exact a2
  · rw [pm_mu_at, z_up_at]
  · rw [pm_mu_k _ _ _ _ (by decide), z_up_ne g v (by omega)]; exact a4
  · rw [z_n_up (by omega)] at hj
    simp only [pm_mu_r D _ _ _ (show 0 + 1 ≠ 0 by decide), pm_mu_r D _ _ _ (show 0 + 2 ≠ 0 by decide), pm_mu_r D _ _ _ (show 0 + 3 ≠ 0 by decide), pm_mu_r D _ _ _ (show 0 + 4 ≠ 0 by decide), pm_mu_r D _ _ _ (show 0 + 5 ≠ 0 by decide), pm_mu_r D _ _ _ (show 0 + 6 ≠ 0 by decide)]
    rw [z_up_ne g v (show j ≠ 50 by omega), z_up_ne g v (show 4 + j ≠ 50 by omega), z_up_ne g v (show 8 + j ≠ 50 by omega), z_up_ne g v (show 12 + j ≠ 50 by omega), z_up_ne g v (show 16 + j ≠ 50 by omega), z_up_ne g v (show 20 + j ≠ 50 by omega)]
    exact a5 j hj
  · rw [z_k_up (by omega)] at hi
    rw [pm_mu_r D _ _ _ (show 0 + 7 ≠ 0 by decide), pm_mu_r D _ _ _ (show 0 + 8 ≠ 0 by decide), z_up_ne g v (by omega), z_up_ne g v (by omega)]
    exact a6 i hi
theorem z_n_24 (g : z_P) (v : Int32) : z_n (z_up g 24 v) = z_nt v := by
  unfold z_n z_nt
  rw [z_up_at]
theorem z_k_49 (g : z_P) (v : Int32) : z_k (z_up g 49 v) = z_nt v := by
  unfold z_k z_nt
  rw [z_up_at]
theorem z_R_cut {D : pm_Mem} {g : z_P} {v : Int32} (h : z_R D 0 g) (hn : z_n g ≤ 4) (hk : z_k g ≤ 12) (hv : z_nt v ≤ z_n g) : z_R (pm_mu D 0 0 v) 0 (z_up g 24 v) := by
  obtain ⟨a1, a2, a3, a4, a5, a6⟩ := h
  refine ⟨?_, ?_, ?_, ?_, fun j hj => ?_, fun i hi => ?_⟩
  · rw [pm_mu_at, z_up_at]
  · rw [pm_mu_k _ _ _ _ (by decide), z_up_ne g v (by omega)]; exact a2
  · rw [pm_mu_k _ _ _ _ (by decide), z_up_ne g v (by omega)]; exact a3
  · rw [pm_mu_k _ _ _ _ (by decide), z_up_ne g v (by omega)]; exact a4
  · rw [z_n_24] at hj
    simp only [pm_mu_r D _ _ _ (show 0 + 1 ≠ 0 by decide), pm_mu_r D _ _ _ (show 0 + 2 ≠ 0 by decide), pm_mu_r D _ _ _ (show 0 + 3 ≠ 0 by decide), pm_mu_r D _ _ _ (show 0 + 4 ≠ 0 by decide), pm_mu_r D _ _ _ (show 0 + 5 ≠ 0 by decide), pm_mu_r D _ _ _ (show 0 + 6 ≠ 0 by decide)]
    rw [z_up_ne g v (show j ≠ 24 by omega), z_up_ne g v (show 4 + j ≠ 24 by omega), z_up_ne g v (show 8 + j ≠ 24 by omega), z_up_ne g v (show 12 + j ≠ 24 by omega), z_up_ne g v (show 16 + j ≠ 24 by omega), z_up_ne g v (show 20 + j ≠ 24 by omega)]
    exact a5 j (by omega)
  · rw [z_k_up (by omega)] at hi
    rw [pm_mu_r D _ _ _ (show 0 + 7 ≠ 0 by decide), pm_mu_r D _ _ _ (show 0 + 8 ≠ 0 by decide), z_up_ne g v (by omega), z_up_ne g v (by omega)]
    exact a6 i hi
theorem z_R_drop {D : pm_Mem} {g : z_P} {v : Int32} (h : z_R D 0 g) (hn : z_n g ≤ 4) (hk : z_k g ≤ 12) (hv : z_nt v ≤ z_k g) : z_R (pm_mu D 0 1 v) 0 (z_up g 49 v) := by
  obtain ⟨a1, a2, a3, a4, a5, a6⟩ := h
  refine ⟨?_, ?_, ?_, ?_, fun j hj => ?_, fun i hi => ?_⟩
  · rw [pm_mu_k _ _ _ _ (by decide), z_up_ne g v (by omega)]; exact a1
  · rw [pm_mu_at, z_up_at]
  · rw [pm_mu_k _ _ _ _ (by decide), z_up_ne g v (by omega)]; exact a3
  · rw [pm_mu_k _ _ _ _ (by decide), z_up_ne g v (by omega)]; exact a4
  · rw [z_n_up (by omega)] at hj
    simp only [pm_mu_r D _ _ _ (show 0 + 1 ≠ 0 by decide), pm_mu_r D _ _ _ (show 0 + 2 ≠ 0 by decide), pm_mu_r D _ _ _ (show 0 + 3 ≠ 0 by decide), pm_mu_r D _ _ _ (show 0 + 4 ≠ 0 by decide), pm_mu_r D _ _ _ (show 0 + 5 ≠ 0 by decide), pm_mu_r D _ _ _ (show 0 + 6 ≠ 0 by decide)]
    rw [z_up_ne g v (show j ≠ 49 by omega), z_up_ne g v (show 4 + j ≠ 49 by omega), z_up_ne g v (show 8 + j ≠ 49 by omega), z_up_ne g v (show 12 + j ≠ 49 by omega), z_up_ne g v (show 16 + j ≠ 49 by omega), z_up_ne g v (show 20 + j ≠ 49 by omega)]
    exact a5 j hj
  · rw [z_k_49] at hi
    rw [pm_mu_r D _ _ _ (show 0 + 7 ≠ 0 by decide), pm_mu_r D _ _ _ (show 0 + 8 ≠ 0 by decide), z_up_ne g v (by omega), z_up_ne g v (by omega)]
    exact a6 i (by omega)
set_option maxHeartbeats 2000000 in
theorem t_c_drag {N : Nat} {Ga : pm_Ga} (hwi : sp_within Ga) : cs1 (pm_up N Ga) 52 r_drag := by
  intro z v D post hz hC h
  have h1 : z_R D 0 (zG z) := hC.1
  obtain ⟨g1, g2, g3, g4, g5, g6, g7, g8⟩ := hz.1
  unfold r_drag at h
  refine ⟨rfl, fun X hX => ?_⟩
  replace hX : ∀ pc L st D, pm_F N Ga tbX4_drag (some .int) post X pc L st D → X pc L st D := hX
  change X 0 [some (.ref 40), some (.int v), none] [] D
  repeat (refine hX _ _ _ _ ?_; conv => whnf)
  refine w_ib hwi 0 3 rfl rfl (fun e => ?_) (fun e => ?_)
  · rw [if_pos e] at h
    repeat (refine hX _ _ _ _ ?_; conv => whnf)
    refine ⟨fun _ => ?_, fun h => absurd h (by decide)⟩
    repeat (refine hX _ _ _ _ ?_; conv => whnf)
    rw [h1.2.2.1]
    exact h _ (hC.now (z_R_drag h1 g2 g4) (fun r hr => pm_mu_ne _ _ _ (by omega))) (fun r hr => pm_mu_ne _ _ _ (by omega))
  · rw [if_neg (by rw [e]; decide)] at h
    repeat (refine hX _ _ _ _ ?_; conv => whnf)
    refine ⟨fun h => absurd h (by decide), fun _ => ?_⟩
    repeat (refine hX _ _ _ _ ?_; conv => whnf)
    exact h D hC (fun _ _ => rfl)
set_option maxHeartbeats 2000000 in
theorem t_c_cut {N : Nat} {Ga : pm_Ga} (hwi : sp_within Ga) : cs1 (pm_up N Ga) 54 r_cut := by
  intro z v D post hz hC h
  have h1 : z_R D 0 (zG z) := hC.1
  obtain ⟨g1, g2, g3, g4, g5, g6, g7, g8⟩ := hz.1
  unfold r_cut at h
  refine ⟨rfl, fun X hX => ?_⟩
  replace hX : ∀ pc L st D, pm_F N Ga tbX4_cut (some .int) post X pc L st D → X pc L st D := hX
  change X 0 [some (.ref 40), some (.int v), none] [] D
  repeat (refine hX _ _ _ _ ?_; conv => whnf)
  rw [h1.1, g1]
  refine w_ib hwi 0 (z_n (zG z)) rfl (z_tI (by omega)) (fun e => ?_) (fun e => ?_)
  · rw [if_pos e] at h
    obtain ⟨e1, e2, e3, e4⟩ := z_ib_of e (by decide) (by omega)
    repeat (refine hX _ _ _ _ ?_; conv => whnf)
    refine ⟨fun _ => ?_, fun h => absurd h (by decide)⟩
    repeat (refine hX _ _ _ _ ?_; conv => whnf)
    have h := h _ (hC.now (z_R_cut (v := v) h1 g2 g4 (by omega)) (fun r hr => pm_mu_ne _ _ _ (by omega))) (fun r hr => pm_mu_ne _ _ _ (by omega))
    simp only [g1] at h
    exact h
  · rw [if_neg (by rw [e]; decide)] at h
    repeat (refine hX _ _ _ _ ?_; conv => whnf)
    refine ⟨fun h => absurd h (by decide), fun _ => ?_⟩
    repeat (refine hX _ _ _ _ ?_; conv => whnf)
    exact h D hC (fun _ _ => rfl)
set_option maxHeartbeats 2000000 in
theorem t_c_drop {N : Nat} {Ga : pm_Ga} (hwi : sp_within Ga) : cs1 (pm_up N Ga) 57 r_drop := by
  intro z v D post hz hC h
  have h1 : z_R D 0 (zG z) := hC.1
  obtain ⟨g1, g2, g3, g4, g5, g6, g7, g8⟩ := hz.1
  unfold r_drop at h
  refine ⟨rfl, fun X hX => ?_⟩
  replace hX : ∀ pc L st D, pm_F N Ga tbX4_drop (some .int) post X pc L st D → X pc L st D := hX
  change X 0 [some (.ref 40), some (.int v), none] [] D
  repeat (refine hX _ _ _ _ ?_; conv => whnf)
  rw [h1.2.1, g3]
  refine w_ib hwi 0 (z_k (zG z)) rfl (z_tI (by omega)) (fun e => ?_) (fun e => ?_)
  · rw [if_pos e] at h
    obtain ⟨e1, e2, e3, e4⟩ := z_ib_of e (by decide) (by omega)
    repeat (refine hX _ _ _ _ ?_; conv => whnf)
    refine ⟨fun _ => ?_, fun h => absurd h (by decide)⟩
    repeat (refine hX _ _ _ _ ?_; conv => whnf)
    have h := h _ (hC.now (z_R_drop (v := v) h1 g2 g4 (by omega)) (fun r hr => pm_mu_ne _ _ _ (by omega))) (fun r hr => pm_mu_ne _ _ _ (by omega))
    simp only [g3] at h
    exact h
  · rw [if_neg (by rw [e]; decide)] at h
    repeat (refine hX _ _ _ _ ?_; conv => whnf)
    refine ⟨fun h => absurd h (by decide), fun _ => ?_⟩
    repeat (refine hX _ _ _ _ ?_; conv => whnf)
    exact h D hC (fun _ _ => rfl)
set_option maxHeartbeats 2000000 in
theorem t_c_hit {N : Nat} {Ga : pm_Ga} (hhas : sp_has Ga) (hwi : sp_within Ga) (hkn : sp_knockOnce Ga) : cs2 (pm_up N Ga) 55 r_hit := by
  intro z b v D post hz hC h
  have h1 : z_R D 0 (zG z) := hC.1
  have hG := hz.1
  obtain ⟨g1, g2, g3, g4, g5, g6, g7, g8⟩ := hz.1
  unfold r_hit at h
  refine ⟨rfl, fun X hX => ?_⟩
  replace hX : ∀ pc L st D, pm_F N Ga tbX4_hit (some .int) post X pc L st D → X pc L st D := hX
  change X 0 [some (.ref 40), some (.int b), some (.int v)] [] D
  repeat (refine hX _ _ _ _ ?_; conv => whnf)
  refine z_has hhas h1 g1 g2 (fun e => ?_) (fun e => ?_)
  · obtain ⟨b1, b2, b3, b4⟩ := z_isb_of e g2
    repeat (refine hX _ _ _ _ ?_; conv => whnf)
    refine ⟨fun h => absurd h (by decide), fun _ => ?_⟩
    repeat (refine hX _ _ _ _ ?_; conv => whnf)
    refine w_ib hwi 0 18 rfl rfl (fun e2 => ?_) (fun e2 => ?_)
    · rw [if_pos (by rw [e, e2]; rfl)] at h
      repeat (refine hX _ _ _ _ ?_; conv => whnf)
      refine ⟨fun _ => ?_, fun h => absurd h (by decide)⟩
      repeat (refine hX _ _ _ _ ?_; conv => whnf)
      refine hkn 0 b _ (zG z) D _ (by decide) h1 g1 g2 g4 (fun D1 f1 f2 => ?_)
      repeat (refine hX _ _ _ _ ?_; conv => whnf)
      refine ⟨by rw [b2]; exact vp_in_nI (by omega) (by decide), ?_⟩
      have e6 : D1 6 (z_nt b) = z_hit (zG z) b (v - 9) (20 + z_nt b) := (f1.2.2.2.2.1 (z_nt b) (by rw [(hG.hit b (v - 9)).2.1]; exact b1)).2.2.2.2.2
      rw [b4, e6]
      repeat (refine hX _ _ _ _ ?_; conv => whnf)
      exact h _ (hC.now f1 (fun r hr => f2 r (by omega))) (fun r hr => f2 r (by omega))
    · rw [if_neg (by rw [e, e2]; decide)] at h
      repeat (refine hX _ _ _ _ ?_; conv => whnf)
      refine ⟨fun h => absurd h (by decide), fun _ => ?_⟩
      repeat (refine hX _ _ _ _ ?_; conv => whnf)
      exact h D hC (fun _ _ => rfl)
  · rw [if_neg (by rw [e]; simp)] at h
    repeat (refine hX _ _ _ _ ?_; conv => whnf)
    refine ⟨fun _ => ?_, fun h => absurd h (by decide)⟩
    repeat (refine hX _ _ _ _ ?_; conv => whnf)
    exact h D hC (fun _ _ => rfl)
set_option maxHeartbeats 2000000 in
theorem t_c_add {N : Nat} {Ga : pm_Ga} (hwi : sp_within Ga) (had : sp_addKnock Ga) : cs2 (pm_up N Ga) 56 r_add := by
  intro z b v D post hz hC h
  have h1 : z_R D 0 (zG z) := hC.1
  obtain ⟨g1, g2, g3, g4, g5, g6, g7, g8⟩ := hz.1
  unfold r_add at h
  refine ⟨rfl, fun X hX => ?_⟩
  replace hX : ∀ pc L st D, pm_F N Ga tbX4_add (some .int) post X pc L st D → X pc L st D := hX
  change X 0 [some (.ref 40), some (.int b), some (.int v)] [] D
  repeat (refine hX _ _ _ _ ?_; conv => whnf)
  refine w_ib hwi 0 3 rfl rfl (fun e => ?_) (fun e => ?_)
  · repeat (refine hX _ _ _ _ ?_; conv => whnf)
    refine ⟨fun h => absurd h (by decide), fun _ => ?_⟩
    repeat (refine hX _ _ _ _ ?_; conv => whnf)
    refine w_ib hwi 0 18 rfl rfl (fun e2 => ?_) (fun e2 => ?_)
    · rw [if_pos (by rw [e, e2]; rfl)] at h
      repeat (refine hX _ _ _ _ ?_; conv => whnf)
      refine ⟨fun _ => ?_, fun h => absurd h (by decide)⟩
      repeat (refine hX _ _ _ _ ?_; conv => whnf)
      refine had 0 b _ (zG z) D _ (by decide) h1 g2 g3 g4 (fun q => ?_) (fun q D1 f1 f2 => ?_)
      · rw [if_pos q] at h
        repeat (refine hX _ _ _ _ ?_; conv => whnf)
        refine ⟨fun _ => ?_, fun h => absurd h (by decide)⟩
        repeat (refine hX _ _ _ _ ?_; conv => whnf)
        exact h D hC (fun _ _ => rfl)
      · rw [if_neg (by omega)] at h
        repeat (refine hX _ _ _ _ ?_; conv => whnf)
        refine ⟨fun h => absurd h (by decide), fun _ => ?_⟩
        repeat (refine hX _ _ _ _ ?_; conv => whnf)
        rw [f1.2.1, (z_add1_k q).2]
        exact h _ (hC.now f1 (fun r hr => f2 r (by omega))) (fun r hr => f2 r (by omega))
    · rw [if_neg (by rw [e, e2]; decide)] at h
      repeat (refine hX _ _ _ _ ?_; conv => whnf)
      refine ⟨fun h => absurd h (by decide), fun _ => ?_⟩
      repeat (refine hX _ _ _ _ ?_; conv => whnf)
      exact h D hC (fun _ _ => rfl)
  · rw [if_neg (by rw [e]; simp)] at h
    repeat (refine hX _ _ _ _ ?_; conv => whnf)
    refine ⟨fun _ => ?_, fun h => absurd h (by decide)⟩
    repeat (refine hX _ _ _ _ ?_; conv => whnf)
    exact h D hC (fun _ _ => rfl)
set_option maxHeartbeats 4000000 in
theorem t_c_bind {N : Nat} {Ga : pm_Ga} (hwi : sp_within Ga) (had : sp_addBead Ga) : cs4 (pm_up N Ga) 53 r_bind := by
  intro z k r s m D post hz hC h
  have h1 : z_R D 0 (zG z) := hC.1
  obtain ⟨g1, g2, g3, g4, g5, g6, g7, g8⟩ := hz.1
  obtain ⟨⟨l0, l1, l2, l3, l4⟩, ⟨m0, m1, m2, m3, m4⟩⟩ := hC.2.2.2.2.2.2
  unfold r_bind at h
  have v0 : vp_in 0 5 := vp_in_nI (n := 0) (by decide) (by decide)
  have v1 : vp_in 1 5 := vp_in_nI (n := 1) (by decide) (by decide)
  have v2 : vp_in 2 5 := vp_in_nI (n := 2) (by decide) (by decide)
  have v3 : vp_in 3 5 := vp_in_nI (n := 3) (by decide) (by decide)
  have k0 : (0 : Int32).toNatClampNeg = 0 := rfl
  have k1 : (1 : Int32).toNatClampNeg = 1 := rfl
  have k2 : (2 : Int32).toNatClampNeg = 2 := rfl
  have k3 : (3 : Int32).toNatClampNeg = 3 := rfl
  refine ⟨rfl, fun X hX => ?_⟩
  replace hX : ∀ pc L st D, pm_F N Ga tbX4_bind (some .int) post X pc L st D → X pc L st D := hX
  change X 0 [some (.ref 40), some (.int k), some (.int r), some (.int s), some (.int m)] [] D
  have bad : (z_ib k 0 3 && (z_ib r 0 60 && (z_ib s 0 9 && z_ib m 1 9))) = false → X 69 [some (.ref 40), some (.int k), some (.int r), some (.int s), some (.int m)] [] D := by
    intro e
    rw [if_neg (by rw [e]; decide)] at h
    repeat (refine hX _ _ _ _ ?_; conv => whnf)
    exact h D hC (fun _ _ => rfl)
  repeat (refine hX _ _ _ _ ?_; conv => whnf)
  refine ⟨v0, ?_⟩
  repeat (refine hX _ _ _ _ ?_; conv => whnf)
  refine ⟨v0, ?_⟩
  rw [k0, l0, m0]
  repeat (refine hX _ _ _ _ ?_; conv => whnf)
  refine w_ib hwi 0 3 rfl rfl (fun e1 => ?_) (fun e1 => ?_)
  · repeat (refine hX _ _ _ _ ?_; conv => whnf)
    refine ⟨fun h => absurd h (by decide), fun _ => ?_⟩
    repeat (refine hX _ _ _ _ ?_; conv => whnf)
    refine ⟨v1, ?_⟩
    repeat (refine hX _ _ _ _ ?_; conv => whnf)
    refine ⟨v1, ?_⟩
    rw [k1, l1, m1]
    repeat (refine hX _ _ _ _ ?_; conv => whnf)
    refine w_ib hwi 0 60 rfl rfl (fun e2 => ?_) (fun e2 => ?_)
    · repeat (refine hX _ _ _ _ ?_; conv => whnf)
      refine ⟨fun h => absurd h (by decide), fun _ => ?_⟩
      repeat (refine hX _ _ _ _ ?_; conv => whnf)
      refine ⟨v2, ?_⟩
      repeat (refine hX _ _ _ _ ?_; conv => whnf)
      refine ⟨v2, ?_⟩
      rw [k2, l2, m2]
      repeat (refine hX _ _ _ _ ?_; conv => whnf)
      refine w_ib hwi 0 9 rfl rfl (fun e3 => ?_) (fun e3 => ?_)
      · repeat (refine hX _ _ _ _ ?_; conv => whnf)
        refine ⟨fun h => absurd h (by decide), fun _ => ?_⟩
        repeat (refine hX _ _ _ _ ?_; conv => whnf)
        refine ⟨v3, ?_⟩
        repeat (refine hX _ _ _ _ ?_; conv => whnf)
        refine ⟨v3, ?_⟩
        rw [k3, l3, m3]
        repeat (refine hX _ _ _ _ ?_; conv => whnf)
        refine w_ib hwi 1 9 rfl rfl (fun e4 => ?_) (fun e4 => ?_)
        · rw [if_pos (by rw [e1, e2, e3, e4]; rfl)] at h
          repeat (refine hX _ _ _ _ ?_; conv => whnf)
          refine ⟨fun _ => ?_, fun h => absurd h (by decide)⟩
          repeat (refine hX _ _ _ _ ?_; conv => whnf)
          refine had 0 k r s m (zG z) D _ (by decide) h1 g1 g2 (fun q => ?_) (fun q D1 f1 f2 => ?_)
          · rw [if_pos q] at h
            repeat (refine hX _ _ _ _ ?_; conv => whnf)
            refine ⟨fun _ => ?_, fun h => absurd h (by decide)⟩
            repeat (refine hX _ _ _ _ ?_; conv => whnf)
            exact h D hC (fun _ _ => rfl)
          · rw [if_neg (by omega)] at h
            repeat (refine hX _ _ _ _ ?_; conv => whnf)
            refine ⟨fun h => absurd h (by decide), fun _ => ?_⟩
            repeat (refine hX _ _ _ _ ?_; conv => whnf)
            rw [f1.1, (z_bind_n q).2]
            exact h _ (hC.now f1 (fun r hr => f2 r (by omega))) (fun r hr => f2 r (by omega))
        · repeat (refine hX _ _ _ _ ?_; conv => whnf)
          refine ⟨fun h => absurd h (by decide), fun _ => ?_⟩
          exact bad (by rw [e1, e2, e3, e4]; rfl)
      · repeat (refine hX _ _ _ _ ?_; conv => whnf)
        refine ⟨fun _ => ?_, fun h => absurd h (by decide)⟩
        exact bad (by rw [e1, e2, e3]; rfl)
    · repeat (refine hX _ _ _ _ ?_; conv => whnf)
      refine ⟨fun _ => ?_, fun h => absurd h (by decide)⟩
      exact bad (by rw [e1, e2]; rfl)
  · repeat (refine hX _ _ _ _ ?_; conv => whnf)
    refine ⟨fun _ => ?_, fun h => absurd h (by decide)⟩
    exact bad (by rw [e1]; rfl)
set_option maxHeartbeats 2000000 in
theorem t_c_knock {N : Nat} {Ga : pm_Ga} (hwi : sp_within Ga) : cs2 (pm_up N Ga) 50 r_knock := by
  intro z i w D post hz hC h
  have h1 : z_R D 0 (zG z) := hC.1
  obtain ⟨g1, g2, g3, g4, g5, g6, g7, g8⟩ := hz.1
  have h := h D hC (fun _ _ => rfl)
  unfold r_knock at h
  have hk : (nI (z_k (zG z)) - 1).toInt = (z_k (zG z) : Int) - 1 := by
    rw [z_sub (by rw [z_tI (by omega)]; show _ ≤ _ - (1 : Int); omega) (by rw [z_tI (by omega)]; show _ - (1 : Int) ≤ _; omega), z_tI (by omega)]
    rfl
  refine ⟨rfl, fun X hX => ?_⟩
  replace hX : ∀ pc L st D, pm_F N Ga tbX4_knock (some .int) post X pc L st D → X pc L st D := hX
  change X 0 [some (.ref 40), some (.int i), some (.int w)] [] D
  repeat (refine hX _ _ _ _ ?_; conv => whnf)
  rw [h1.2.1, g3]
  refine w_ib hwi 0 _ rfl hk (fun e => ?_) (fun e => ?_)
  · have e : z_isk (zG z) i = true := e
    obtain ⟨b1, b2, b3⟩ := z_isk_of e g4
    have r8 := h1.2.2.2.2.2 (z_nt i) b1
    simp only [Nat.zero_add] at r8
    rw [if_pos e] at h
    repeat (refine hX _ _ _ _ ?_; conv => whnf)
    refine ⟨fun h => absurd h (by decide), fun _ => ?_⟩
    repeat (refine hX _ _ _ _ ?_; conv => whnf)
    refine w_ib hwi 0 1 rfl rfl (fun e2 => ?_) (fun e2 => ?_)
    · have e3 := z_ib_iff.mp e2
      repeat (refine hX _ _ _ _ ?_; conv => whnf)
      refine ⟨fun _ => ?_, fun h => absurd h (by decide)⟩
      repeat (refine hX _ _ _ _ ?_; conv => whnf)
      refine ⟨fun q => ?_, fun q => ?_⟩
      · have q1 : w = 1 := by
          rw [z_eq] at q ⊢
          have q : ¬ w.toInt = 0 := q
          show w.toInt = 1
          omega
        rw [if_neg q, if_pos q1] at h
        repeat (refine hX _ _ _ _ ?_; conv => whnf)
        refine ⟨by rw [b2]; exact vp_in_nI (by omega) (by decide), ?_⟩
        rw [b3, r8.2]
        repeat (refine hX _ _ _ _ ?_; conv => whnf)
        exact h
      · rw [if_pos q] at h
        repeat (refine hX _ _ _ _ ?_; conv => whnf)
        refine ⟨by rw [b2]; exact vp_in_nI (by omega) (by decide), ?_⟩
        rw [b3, r8.1]
        repeat (refine hX _ _ _ _ ?_; conv => whnf)
        exact h
    · have n0 : ¬ w = 0 := fun q => by rw [q] at e2; exact absurd e2 (by decide)
      have n1 : ¬ w = 1 := fun q => by rw [q] at e2; exact absurd e2 (by decide)
      rw [if_neg n0, if_neg n1] at h
      repeat (refine hX _ _ _ _ ?_; conv => whnf)
      refine ⟨fun h => absurd h (by decide), fun _ => ?_⟩
      repeat (refine hX _ _ _ _ ?_; conv => whnf)
      exact h
  · have e : z_isk (zG z) i = false := e
    rw [if_neg (by rw [e]; decide)] at h
    repeat (refine hX _ _ _ _ ?_; conv => whnf)
    refine ⟨fun _ => ?_, fun h => absurd h (by decide)⟩
    repeat (refine hX _ _ _ _ ?_; conv => whnf)
    exact h
