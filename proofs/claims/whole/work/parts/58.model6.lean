theorem nI_mul (a b : Nat) : nI a * nI b = nI (a * b) := by
  first | exact (Int32.ofNat_mul a b).symm | (unfold nI; simp) | (simp [nI])
set_option maxHeartbeats 2000000 in
theorem t_m_forget {N : Nat} {Ga : pm_Ga} (hin : sp_in Ga) : ms1 (pm_up N Ga) 157 r_forget := by
  intro z n D post hz hM h
  have h4 := hM.2.2.2.1
  have hL := hz.2.2.2.2.1.1
  unfold r_forget at h
  refine ⟨rfl, fun X hX => ?_⟩
  replace hX : ∀ pc L st D, pm_F N Ga tbX5_forget (some .int) post X pc L st D → X pc L st D := hX
  change X 0 [some (.ref 67), some (.int n), none] [] D
  repeat (refine hX _ _ _ _ ?_; conv => whnf)
  rw [h4.1]
  refine m_ib hin 0 (zC z) rfl (by rw [z_64]; exact z_tI (by omega)) (fun e => ?_) (fun e => ?_)
  · obtain ⟨e1, e2, e3, e4⟩ := z_ib_of e (by decide) (by omega)
    rw [if_pos e] at h
    repeat (refine hX _ _ _ _ ?_; conv => whnf)
    refine ⟨fun _ => ?_, fun h => absurd h (by decide)⟩
    repeat (refine hX _ _ _ _ ?_; conv => whnf)
    rw [h4.1]
    refine h _ (hM.seen ⟨?_, fun i hi => ?_⟩ (fun r h1 h2 => pm_mu_ne _ _ _ h1) (fun k hk => pm_mu_k _ _ _ _ hk)) (fun r hr => pm_mu_ne _ _ _ (by omega))
    · rw [pm_mu_at]; exact e1
    · have hi : i < 3 * z_nt n := hi
      rw [pm_mu_r _ _ _ _ (by decide)]; exact h4.2 i (by omega)
  · rw [if_neg (by rw [e]; decide)] at h
    repeat (refine hX _ _ _ _ ?_; conv => whnf)
    refine ⟨fun h => absurd h (by decide), fun _ => ?_⟩
    repeat (refine hX _ _ _ _ ?_; conv => whnf)
    exact h D hM (fun _ _ => rfl)
set_option maxHeartbeats 2000000 in
theorem t_m_torn {N : Nat} {Ga : pm_Ga} : ms0 (pm_up N Ga) 170 r_torn := by
  intro z D post hz hM h
  refine ⟨rfl, fun X hX => ?_⟩
  replace hX : ∀ pc L st D, pm_F N Ga tbX5_torn (some .int) post X pc L st D → X pc L st D := hX
  change X 0 [some (.ref 67)] [] D
  repeat (refine hX _ _ _ _ ?_; conv => whnf)
  rw [hM.2.2.2.2.2.1.1]
  exact h D hM (fun _ _ => rfl)
set_option maxHeartbeats 4000000 in
theorem t_m_see {N : Nat} {Ga : pm_Ga} (hin : sp_in Ga) (hib : sp_isBead Ga) : ms3 (pm_up N Ga) 156 r_see := by
  intro z n b v D post hz hM h
  have h4 := hM.2.2.2.1
  have hL := hz.2.2.2.2.1.1
  have g1 := hz.1.1
  have g2 := hz.1.2.1
  unfold r_see at h
  refine ⟨rfl, fun X hX => ?_⟩
  replace hX : ∀ pc L st D, pm_F N Ga tbX5_see (some .int) post X pc L st D → X pc L st D := hX
  change X 0 [some (.ref 67), some (.int n), some (.int b), some (.int v)] [] D
  repeat (refine hX _ _ _ _ ?_; conv => whnf)
  refine m_ib hin 0 40 rfl rfl (fun e => ?_) (fun e => ?_)
  · repeat (refine hX _ _ _ _ ?_; conv => whnf)
    refine ⟨fun h => absurd h (by decide), fun _ => ?_⟩
    repeat (refine hX _ _ _ _ ?_; conv => whnf)
    refine hib b (zG z) D _ hM.1 g1 g2 (fun f => ?_) (fun f => ?_)
    · repeat (refine hX _ _ _ _ ?_; conv => whnf)
      refine ⟨fun h => absurd h (by decide), fun _ => ?_⟩
      repeat (refine hX _ _ _ _ ?_; conv => whnf)
      refine m_ib hin 0 300 rfl rfl (fun j => ?_) (fun j => ?_)
      · rw [e, f, j, if_pos (by decide)] at h
        repeat (refine hX _ _ _ _ ?_; conv => whnf)
        refine ⟨fun _ => ?_, fun h => absurd h (by decide)⟩
        repeat (refine hX _ _ _ _ ?_; conv => whnf)
        rw [h4.1]
        refine ⟨fun q => ?_, fun q => ?_⟩
        · have q : zC z ≠ 6 := fun y => q (by rw [y]; rfl)
          rw [if_neg q] at h
          repeat (refine hX _ _ _ _ ?_; conv => whnf)
          rw [h4.1]
          have m0 : (3 : Int32) * nI (zC z) = nI (3 * zC z) := nI_mul 3 (zC z)
          rw [m0]
          refine ⟨by decide, vp_in_nI (show 3 * zC z < 18 by omega) (by decide), ?_⟩
          repeat (refine hX _ _ _ _ ?_; conv => whnf)
          rw [pm_mu_r _ _ _ _ (by decide), h4.1, nI_clamp (by omega), m0, nI_1]
          refine ⟨by decide, vp_in_nI (show 3 * zC z + 1 < 18 by omega) (by decide), ?_⟩
          repeat (refine hX _ _ _ _ ?_; conv => whnf)
          rw [pm_mu_r _ _ _ _ (by decide), pm_mu_r _ _ _ _ (by decide), h4.1, nI_clamp (by omega), m0]
          have m2 : nI (3 * zC z) + 2 = nI (3 * zC z + 2) := nI_add _ 2
          rw [m2]
          refine ⟨by decide, vp_in_nI (show 3 * zC z + 2 < 18 by omega) (by decide), ?_⟩
          repeat (refine hX _ _ _ _ ?_; conv => whnf)
          rw [nI_clamp (show 3 * zC z + 2 < 2 ^ 31 by omega), pm_mu_at, pm_mu_r _ _ _ _ (by decide), pm_mu_r _ _ _ _ (by decide), pm_mu_r _ _ _ _ (by decide), h4.1, nI_1]
          refine h _ (hM.seen ⟨pm_mu_at _ _ _ _, fun i hi => ?_⟩ (fun r h1 h2 => ?_) (fun k hk => ?_)) (fun r hr => ?_)
          · have hi : i < 3 * (zC z + 1) := hi
            show _ = z_see (zS z) (zC z) n b v i
            unfold z_see
            rw [pm_mu_r _ _ _ _ (by decide)]
            by_cases y2 : i = 3 * zC z + 2
            · rw [y2, pm_mu_at, if_neg (by omega), if_neg (by omega), if_pos rfl]
            · rw [pm_mu_k _ _ _ _ y2]
              by_cases y1 : i = 3 * zC z + 1
              · rw [y1, pm_mu_at, if_neg (by omega), if_pos rfl]
              · rw [pm_mu_k _ _ _ _ y1]
                by_cases y0 : i = 3 * zC z
                · rw [y0, pm_mu_at, if_pos rfl]
                · rw [pm_mu_k _ _ _ _ y0, if_neg y0, if_neg y1, if_neg y2]
                  exact h4.2 i (by omega)
          · rw [pm_mu_ne _ _ _ h1, pm_mu_ne _ _ _ h2, pm_mu_ne _ _ _ h2, pm_mu_ne _ _ _ h2]
          · rw [pm_mu_k _ _ _ _ hk, pm_mu_r _ _ _ _ (by decide), pm_mu_r _ _ _ _ (by decide), pm_mu_r _ _ _ _ (by decide)]
          · rw [pm_mu_ne _ _ _ (by omega), pm_mu_ne _ _ _ (by omega), pm_mu_ne _ _ _ (by omega), pm_mu_ne _ _ _ (by omega)]
        · have q : zC z = 6 := (nI_eq (b := 6) (by omega) (by omega)).mp q
          rw [if_pos q] at h
          repeat (refine hX _ _ _ _ ?_; conv => whnf)
          exact h D hM (fun _ _ => rfl)
      · rw [e, f, j, if_neg (by decide)] at h
        repeat (refine hX _ _ _ _ ?_; conv => whnf)
        refine ⟨fun h => absurd h (by decide), fun _ => ?_⟩
        repeat (refine hX _ _ _ _ ?_; conv => whnf)
        exact h D hM (fun _ _ => rfl)
    · rw [e, f, if_neg (by simp)] at h
      repeat (refine hX _ _ _ _ ?_; conv => whnf)
      refine ⟨fun _ => ?_, fun h => absurd h (by decide)⟩
      repeat (refine hX _ _ _ _ ?_; conv => whnf)
      exact h D hM (fun _ _ => rfl)
  · rw [e, if_neg (by simp)] at h
    repeat (refine hX _ _ _ _ ?_; conv => whnf)
    refine ⟨fun _ => ?_, fun h => absurd h (by decide)⟩
    repeat (refine hX _ _ _ _ ?_; conv => whnf)
    exact h D hM (fun _ _ => rfl)
set_option maxHeartbeats 4000000 in
theorem t_m_keep {N : Nat} {Ga : pm_Ga} (hin : sp_in Ga) (hco : sp_copies Ga) : ms1 (pm_up N Ga) 165 r_keep := by
  intro z k D post hz hM h
  obtain ⟨k0, k1, k2, k3⟩ := hM.2.1
  unfold r_keep at h
  refine ⟨rfl, fun X hX => ?_⟩
  replace hX : ∀ pc L st D, pm_F N Ga tbX5_keep (some .int) post X pc L st D → X pc L st D := hX
  change X 0 [some (.ref 67), some (.int k), none] [] D
  repeat (refine hX _ _ _ _ ?_; conv => whnf)
  refine m_ib hin 0 1 rfl rfl (fun e => ?_) (fun e => ?_)
  · rw [if_pos e] at h
    have v0 : vp_in 0 2 := vp_in_nI (show 0 < 2 by decide) (by decide)
    have v1 : vp_in 1 2 := vp_in_nI (show 1 < 2 by decide) (by decide)
    have c0 : Int32.toNatClampNeg 0 = 0 := rfl
    have c1 : Int32.toNatClampNeg 1 = 1 := rfl
    have nb : vp_nar FieldType.boolean 1 = 1 := rfl
    have p0 : (52 : Int32) * (0 + 1) = nI 52 := rfl
    have p1 : (52 : Int32) * (1 + 1) = nI 104 := rfl
    rcases z_two e with rfl | rfl
    · repeat (refine hX _ _ _ _ ?_; conv => whnf)
      refine ⟨fun _ => ?_, fun h => absurd h (by decide)⟩
      repeat (refine hX _ _ _ _ ?_; conv => whnf)
      rw [p0]
      refine hco 0 52 D _ (by decide) (by decide) (by decide) (fun D' q1 q2 => ?_)
      repeat (refine hX _ _ _ _ ?_; conv => whnf)
      refine ⟨v0, ?_⟩
      repeat (refine hX _ _ _ _ ?_; conv => whnf)
      have fin : post (some (.int (z_bi (zK z 0)))) (pm_mu D' 76 0 1) := by
        have f8 : ∀ k, k < 52 ∨ 104 ≤ k → pm_mu D' 76 0 1 68 k = D 68 k := fun k hk => by rw [pm_mu_r _ _ _ _ (by decide)]; exact q2.2 k (by omega)
        have e76 : D' 76 = D 76 := q2.1 76 (by decide)
        have en : z_M (pm_mu D' 76 0 1) 52 (zG z) := fun k hk => by
          rw [pm_mu_r _ _ _ _ (by decide), q1 k hk]
          exact hM.1 k hk
        refine h _ (hM.img ⟨?_, ?_, fun q => ?_, fun q => ?_⟩ (fun r h1 h2 h3 => ?_) (fun r _ _ _ _ => ?_) (fun r hr => ?_)) (fun r hr => ?_)
        · first | exact pm_mu_at _ _ _ _ | (rw [pm_mu_k _ _ _ _ (by decide), e76]; exact k0)
        · first | exact pm_mu_at _ _ _ _ | (rw [pm_mu_k _ _ _ _ (by decide), e76]; exact k1)
        · first | exact en | exact (k2 q).same (fun r _ _ => f8 r (by omega))
        · first | exact en | exact (k3 q).same (fun r _ _ => f8 r (by omega))
        · rw [pm_mu_ne _ _ _ h3]; exact q2.1 r h2
        · rw [pm_mu_r _ _ _ _ (by decide), q2.1 67 (by decide)]
        · exact f8 r (by omega)
        · rw [pm_mu_ne _ _ _ (by omega)]; exact q2.1 r (by omega)
      have go : X 38 [some (.ref 67), some (.int 0), some (.int (z_bi (zK z 0)))] [] D' := by
        repeat (refine hX _ _ _ _ ?_; conv => whnf)
        rw [c0, nb]
        refine ⟨by decide, v0, ?_⟩
        repeat (refine hX _ _ _ _ ?_; conv => whnf)
        exact fin
      rw [c0, q2.1 76 (by decide), k0]
      generalize zK z 0 = u at go
      refine ⟨fun q => ?_, fun q => ?_⟩
      · iterate 2 (refine hX _ _ _ _ ?_; conv => whnf)
        rw [q] at go
        exact go
      · iterate 3 (refine hX _ _ _ _ ?_; conv => whnf)
        cases u
        · exact absurd rfl q
        · exact go
    · repeat (refine hX _ _ _ _ ?_; conv => whnf)
      refine ⟨fun _ => ?_, fun h => absurd h (by decide)⟩
      repeat (refine hX _ _ _ _ ?_; conv => whnf)
      rw [p1]
      refine hco 0 104 D _ (by decide) (by decide) (by decide) (fun D' q1 q2 => ?_)
      repeat (refine hX _ _ _ _ ?_; conv => whnf)
      refine ⟨v1, ?_⟩
      repeat (refine hX _ _ _ _ ?_; conv => whnf)
      have fin : post (some (.int (z_bi (zK z 1)))) (pm_mu D' 76 1 1) := by
        have f8 : ∀ k, k < 104 ∨ 156 ≤ k → pm_mu D' 76 1 1 68 k = D 68 k := fun k hk => by rw [pm_mu_r _ _ _ _ (by decide)]; exact q2.2 k (by omega)
        have e76 : D' 76 = D 76 := q2.1 76 (by decide)
        have en : z_M (pm_mu D' 76 1 1) 104 (zG z) := fun k hk => by
          rw [pm_mu_r _ _ _ _ (by decide), q1 k hk]
          exact hM.1 k hk
        refine h _ (hM.img ⟨?_, ?_, fun q => ?_, fun q => ?_⟩ (fun r h1 h2 h3 => ?_) (fun r _ _ _ _ => ?_) (fun r hr => ?_)) (fun r hr => ?_)
        · first | exact pm_mu_at _ _ _ _ | (rw [pm_mu_k _ _ _ _ (by decide), e76]; exact k0)
        · first | exact pm_mu_at _ _ _ _ | (rw [pm_mu_k _ _ _ _ (by decide), e76]; exact k1)
        · first | exact en | exact (k2 q).same (fun r _ _ => f8 r (by omega))
        · first | exact en | exact (k3 q).same (fun r _ _ => f8 r (by omega))
        · rw [pm_mu_ne _ _ _ h3]; exact q2.1 r h2
        · rw [pm_mu_r _ _ _ _ (by decide), q2.1 67 (by decide)]
        · exact f8 r (by omega)
        · rw [pm_mu_ne _ _ _ (by omega)]; exact q2.1 r (by omega)
      have go : X 38 [some (.ref 67), some (.int 1), some (.int (z_bi (zK z 1)))] [] D' := by
        repeat (refine hX _ _ _ _ ?_; conv => whnf)
        rw [c1, nb]
        refine ⟨by decide, v1, ?_⟩
        repeat (refine hX _ _ _ _ ?_; conv => whnf)
        exact fin
      rw [c1, q2.1 76 (by decide), k1]
      generalize zK z 1 = u at go
      refine ⟨fun q => ?_, fun q => ?_⟩
      · iterate 2 (refine hX _ _ _ _ ?_; conv => whnf)
        rw [q] at go
        exact go
      · iterate 3 (refine hX _ _ _ _ ?_; conv => whnf)
        cases u
        · exact absurd rfl q
        · exact go
  · rw [if_neg (by rw [e]; decide)] at h
    repeat (refine hX _ _ _ _ ?_; conv => whnf)
    refine ⟨fun h => absurd h (by decide), fun _ => ?_⟩
    repeat (refine hX _ _ _ _ ?_; conv => whnf)
    exact h D hM (fun _ _ => rfl)
set_option maxHeartbeats 4000000 in
theorem t_m_back {N : Nat} {Ga : pm_Ga} (hin : sp_in Ga) (hco : sp_copies Ga) : ms1 (pm_up N Ga) 166 r_back := by
  intro z k D post hz hM h
  obtain ⟨k0, k1, k2, k3⟩ := hM.2.1
  unfold r_back at h
  refine ⟨rfl, fun X hX => ?_⟩
  replace hX : ∀ pc L st D, pm_F N Ga tbX5_back (some .int) post X pc L st D → X pc L st D := hX
  change X 0 [some (.ref 67), some (.int k)] [] D
  repeat (refine hX _ _ _ _ ?_; conv => whnf)
  refine m_ib hin 0 1 rfl rfl (fun e => ?_) (fun e => ?_)
  · rw [if_pos e] at h
    have v0 : vp_in 0 2 := vp_in_nI (show 0 < 2 by decide) (by decide)
    have v1 : vp_in 1 2 := vp_in_nI (show 1 < 2 by decide) (by decide)
    have c0 : Int32.toNatClampNeg 0 = 0 := rfl
    have c1 : Int32.toNatClampNeg 1 = 1 := rfl
    have p0 : (52 : Int32) * (0 + 1) = nI 52 := rfl
    have p1 : (52 : Int32) * (1 + 1) = nI 104 := rfl
    obtain ⟨v51, c51⟩ := z_lit (k := 51) 51 (by decide) (by decide)
    rcases z_two e with rfl | rfl
    · repeat (refine hX _ _ _ _ ?_; conv => whnf)
      refine ⟨fun _ => ?_, fun h => absurd h (by decide)⟩
      repeat (refine hX _ _ _ _ ?_; conv => whnf)
      refine ⟨v0, ?_⟩
      repeat (refine hX _ _ _ _ ?_; conv => whnf)
      rw [c0, k0]
      change mP D (if zK z 0 = true then _ else _) post at h
      by_cases u : zK z 0 = true
      · have hI : z_M D 52 (zI z 0) := by first | exact k2 u | exact k3 u
        rw [if_pos u] at h
        rw [u]
        refine ⟨fun _ => ?_, fun q => absurd q (by decide)⟩
        repeat (refine hX _ _ _ _ ?_; conv => whnf)
        rw [p0]
        refine hco 52 0 D _ (by decide) (by decide) (by decide) (fun D' q1 q2 => ?_)
        have hN : z_M D' 0 (zI z 0) := fun k hk => by
          rw [q1 k hk]
          exact hI k hk
        repeat (refine hX _ _ _ _ ?_; conv => whnf)
        refine ⟨v51, ?_⟩
        repeat (refine hX _ _ _ _ ?_; conv => whnf)
        rw [c51, z_M0 hN (by decide)]
        exact h _ (hM.now hN (fun r _ h2 _ _ _ => q2.1 r h2) (fun r _ _ _ _ => by rw [q2.1 67 (by decide)]) (fun r h1 _ => q2.2 r (by omega))) (fun r hr => q2.1 r (by omega))
      · rw [if_neg u] at h
        have u : zK z 0 = false := by simpa using u
        rw [u]
        refine ⟨fun q => absurd rfl q, fun _ => ?_⟩
        repeat (refine hX _ _ _ _ ?_; conv => whnf)
        exact h D hM (fun _ _ => rfl)
    · repeat (refine hX _ _ _ _ ?_; conv => whnf)
      refine ⟨fun _ => ?_, fun h => absurd h (by decide)⟩
      repeat (refine hX _ _ _ _ ?_; conv => whnf)
      refine ⟨v1, ?_⟩
      repeat (refine hX _ _ _ _ ?_; conv => whnf)
      rw [c1, k1]
      change mP D (if zK z 1 = true then _ else _) post at h
      by_cases u : zK z 1 = true
      · have hI : z_M D 104 (zI z 1) := by first | exact k2 u | exact k3 u
        rw [if_pos u] at h
        rw [u]
        refine ⟨fun _ => ?_, fun q => absurd q (by decide)⟩
        repeat (refine hX _ _ _ _ ?_; conv => whnf)
        rw [p1]
        refine hco 104 0 D _ (by decide) (by decide) (by decide) (fun D' q1 q2 => ?_)
        have hN : z_M D' 0 (zI z 1) := fun k hk => by
          rw [q1 k hk]
          exact hI k hk
        repeat (refine hX _ _ _ _ ?_; conv => whnf)
        refine ⟨v51, ?_⟩
        repeat (refine hX _ _ _ _ ?_; conv => whnf)
        rw [c51, z_M0 hN (by decide)]
        exact h _ (hM.now hN (fun r _ h2 _ _ _ => q2.1 r h2) (fun r _ _ _ _ => by rw [q2.1 67 (by decide)]) (fun r h1 _ => q2.2 r (by omega))) (fun r hr => q2.1 r (by omega))
      · rw [if_neg u] at h
        have u : zK z 1 = false := by simpa using u
        rw [u]
        refine ⟨fun q => absurd rfl q, fun _ => ?_⟩
        repeat (refine hX _ _ _ _ ?_; conv => whnf)
        exact h D hM (fun _ _ => rfl)
  · rw [if_neg (by rw [e]; decide)] at h
    repeat (refine hX _ _ _ _ ?_; conv => whnf)
    refine ⟨fun h => absurd h (by decide), fun _ => ?_⟩
    repeat (refine hX _ _ _ _ ?_; conv => whnf)
    exact h D hM (fun _ _ => rfl)
