theorem z_shb (w m : Nat) (x : BitVec 32) (hw : 0 < m) (h : w + m = 32) : (x <<< w).sshiftRight w = (x.signExtend m).signExtend 32 := by
  apply BitVec.eq_of_getLsbD_eq
  intro i hi
  rw [BitVec.getLsbD_sshiftRight, BitVec.getLsbD_signExtend, BitVec.getLsbD_signExtend, BitVec.getLsbD_shiftLeft, BitVec.msb_eq_getLsbD_last, BitVec.msb_eq_getLsbD_last, BitVec.getLsbD_shiftLeft, BitVec.msb_eq_getLsbD_last, BitVec.getLsbD_signExtend]
  by_cases c : i < m
  · have a1 : w + i < 32 := by omega
    have a2 : ¬ w + i < w := by omega
    have a3 : w + i - w = i := by omega
    have a4 : ¬ 32 ≤ i := by omega
    simp [c, hi, a1, a2, a3, a4]
  · have a1 : ¬ w + i < 32 := by omega
    have a4 : ¬ 32 ≤ i := by omega
    have a5 : ¬ 32 - 1 < w := by omega
    have a6 : 32 - 1 - w = m - 1 := by omega
    have a7 : m - 1 < m := by omega
    have a8 : m - 1 < 32 := by omega
    simp [a1, a4, a5, a6, a7, a8, c, hi]
    try omega
theorem z_sh24 (v : Int32) : (v <<< ((24 : Int32) &&& 31)) >>> ((24 : Int32) &&& 31) = v.toInt8.toInt32 := by
  apply Int32.toBitVec_inj.mp
  have e : ((24 : Int32) &&& 31) = 24 := rfl
  rw [e]
  have e2 : (24 : Int32).toBitVec.smod 32 = 24#32 := by decide
  rw [Int32.toBitVec_shiftRight, Int32.toBitVec_shiftLeft, e2]
  exact z_shb 24 8 v.toBitVec (by decide) (by decide)
theorem z_sh16 (v : Int32) : (v <<< ((16 : Int32) &&& 31)) >>> ((16 : Int32) &&& 31) = v.toInt16.toInt32 := by
  apply Int32.toBitVec_inj.mp
  have e : ((16 : Int32) &&& 31) = 16 := rfl
  rw [e]
  have e2 : (16 : Int32).toBitVec.smod 32 = 16#32 := by decide
  rw [Int32.toBitVec_shiftRight, Int32.toBitVec_shiftLeft, e2]
  exact z_shb 16 16 v.toBitVec (by decide) (by decide)
set_option maxHeartbeats 4000000 in
theorem t_m_sheet {N : Nat} {Ga : pm_Ga} (hin : sp_in Ga) : ms3 (pm_up N Ga) 167 r_sheet := by
  intro z k a n D post hz hM h
  have h5 := hM.2.2.2.2.1
  unfold r_sheet at h
  refine ⟨rfl, fun X hX => ?_⟩
  replace hX : ∀ pc L st D, pm_F N Ga tbX5_sheet (some .int) post X pc L st D → X pc L st D := hX
  change X 0 [some (.ref 67), some (.int k), some (.int a), some (.int n), none] [] D
  repeat (refine hX _ _ _ _ ?_; conv => whnf)
  refine m_ib hin 0 3 rfl rfl (fun e => ?_) (fun e => ?_)
  · repeat (refine hX _ _ _ _ ?_; conv => whnf)
    refine ⟨fun h => absurd h (by decide), fun _ => ?_⟩
    repeat (refine hX _ _ _ _ ?_; conv => whnf)
    refine m_ib hin 0 2 rfl rfl (fun f => ?_) (fun f => ?_)
    · rw [e, f, if_pos (by decide)] at h
      repeat (refine hX _ _ _ _ ?_; conv => whnf)
      refine ⟨fun h => absurd h (by decide), fun _ => ?_⟩
      repeat (refine hX _ _ _ _ ?_; conv => whnf)
      refine ⟨fun q => ?_, fun q => ?_⟩
      · rw [if_pos q] at h
        repeat (refine hX _ _ _ _ ?_; conv => whnf)
        refine ⟨fun w => ?_, fun w => ?_⟩
        · rw [if_pos w] at h
          obtain ⟨e1, e2, e3, e4⟩ := z_ib_of e (by decide) (by omega)
          obtain ⟨f1, f2, f3, f4⟩ := z_ib_of f (by decide) (by omega)
          obtain ⟨i1, i2, i3, i4⟩ := z_ib_of (x := n) (a := 0) (b := 40) (z_ib_t (z_le.mp w) (z_le.mp q)) (by decide) (by omega)
          have vk : vp_in (nI (z_nt k)) 4 := vp_in_nI (by omega) (by decide)
          have ck : (nI (z_nt k)).toNatClampNeg = z_nt k := nI_clamp (by omega)
          repeat (refine hX _ _ _ _ ?_; conv => whnf)
          rw [e1]
          refine ⟨by decide, vk, ?_⟩
          repeat (refine hX _ _ _ _ ?_; conv => whnf)
          refine ⟨by decide, vk, ?_⟩
          rw [ck]
          iterate 2 (refine hX _ _ _ _ ?_; conv => whnf)
          have loop : ∀ (m i : Nat) (D1 : pm_Mem), i + m = 40 → (∀ j, j < i → D1 79 (40 * z_nt k + j) = 0) → (∀ j, (j < 40 * z_nt k ∨ 40 * z_nt k + 40 ≤ j) → D1 79 j = D 79 j) → (∀ r, r ≠ 79 → D1 r = pm_mu (pm_mu D 77 (z_nt k) a) 78 (z_nt k) n r) → X 56 [some (.ref 67), some (.int (nI (z_nt k))), some (.int a), some (.int n), some (.int (nI i))] [] D1 := by
            intro m
            induction m with
            | zero =>
              intro i D1 hi q1 q3 q2
              have hi : i = 40 := by omega
              subst hi
              repeat (refine hX _ _ _ _ ?_; conv => whnf)
              refine ⟨fun _ => ?_, fun h => absurd h (by decide)⟩
              repeat (refine hX _ _ _ _ ?_; conv => whnf)
              have fr : ∀ r, (r < 77 ∨ 80 ≤ r) → D1 r = D r := fun r hr => by rw [q2 r (by omega), pm_mu_ne _ _ _ (by omega), pm_mu_ne _ _ _ (by omega)]
              refine h _ (hM.sheet (fun j hj => ?_) fr) (fun r hr => fr r (by omega))
              show ((if j = z_nt k then some (z_nt a, z_nt n) else zH z j) = none → _) ∧ ∀ a' n', (if j = z_nt k then some (z_nt a, z_nt n) else zH z j) = some (a', n') → _ ∧ _ ∧ ∀ i, i < n' → _ = (if j = z_nt k then 0 else zE z j i)
              by_cases c : j = z_nt k
              · rw [if_pos c]
                refine ⟨fun y => absurd y (by simp), fun a' n' y => ?_⟩
                injection y with y
                injection y with y1 y2
                subst y1; subst y2
                rw [c]
                refine ⟨?_, ?_, fun i hi => ?_⟩
                · rw [q2 78 (by omega), pm_mu_at]; exact i1
                · rw [q2 77 (by omega), pm_mu_r _ _ _ _ (by decide), pm_mu_at]; exact f1
                · rw [if_pos rfl]; exact q1 i (by omega)
              · rw [if_neg c]
                obtain ⟨s0, s1⟩ := h5 j hj
                have x50 : D1 78 j = D 78 j := by rw [q2 78 (by omega), pm_mu_k _ _ _ _ c, pm_mu_r _ _ _ _ (by decide)]
                have x51 : D1 77 j = D 77 j := by rw [q2 77 (by omega), pm_mu_r _ _ _ _ (by decide), pm_mu_k _ _ _ _ c]
                rw [x50, x51]
                refine ⟨s0, fun a' n' y => ?_⟩
                obtain ⟨y1, y2, y3⟩ := s1 a' n' y
                have hb := (hz.2.2.2.2.2 j hj a' n' y).2
                refine ⟨y1, y2, fun i hi => ?_⟩
                rw [if_neg c, q3 _ (by omega)]
                exact y3 i hi
            | succ m ih =>
              intro i D1 hi q1 q3 q2
              repeat (refine hX _ _ _ _ ?_; conv => whnf)
              refine ⟨fun q => absurd q (nI_ge (b := 40) (by omega) (by omega)), fun _ => ?_⟩
              repeat (refine hX _ _ _ _ ?_; conv => whnf)
              have ix : (40 : Int32) * nI (z_nt k) + nI i = nI (40 * z_nt k + i) := by rw [show (40 : Int32) = nI 40 from rfl, nI_mul, nI_add]
              rw [ix]
              refine ⟨by decide, vp_in_nI (show 40 * z_nt k + i < 160 by omega) (by decide), ?_⟩
              rw [nI_clamp (show 40 * z_nt k + i < 2 ^ 31 by omega)]
              iterate 2 (refine hX _ _ _ _ ?_; conv => whnf)
              rw [nI_1]
              refine ih (i + 1) _ (by omega) (fun j hj => ?_) (fun j hj => ?_) (fun r hr => ?_)
              · by_cases e : j = i
                · rw [e, pm_mu_at]
                · rw [pm_mu_k _ _ _ _ (by omega)]; exact q1 j (by omega)
              · rw [pm_mu_k _ _ _ _ (by omega)]; exact q3 j hj
              · rw [pm_mu_ne _ _ _ hr]; exact q2 r hr
          exact loop 40 0 _ (by omega) (fun j hj => absurd hj (by omega)) (fun j hj => by rw [pm_mu_r _ _ _ _ (by decide), pm_mu_r _ _ _ _ (by decide)]) (fun _ _ => rfl)
        · rw [if_neg w] at h
          repeat (refine hX _ _ _ _ ?_; conv => whnf)
          exact h D hM (fun _ _ => rfl)
      · rw [if_neg q] at h
        repeat (refine hX _ _ _ _ ?_; conv => whnf)
        exact h D hM (fun _ _ => rfl)
    · rw [e, f, if_neg (by decide)] at h
      repeat (refine hX _ _ _ _ ?_; conv => whnf)
      refine ⟨fun _ => ?_, fun h => absurd h (by decide)⟩
      repeat (refine hX _ _ _ _ ?_; conv => whnf)
      exact h D hM (fun _ _ => rfl)
  · rw [e, if_neg (by simp)] at h
    repeat (refine hX _ _ _ _ ?_; conv => whnf)
    refine ⟨fun _ => ?_, fun h => absurd h (by decide)⟩
    repeat (refine hX _ _ _ _ ?_; conv => whnf)
    exact h D hM (fun _ _ => rfl)
set_option maxHeartbeats 4000000 in
theorem t_m_lay {N : Nat} {Ga : pm_Ga} (hin : sp_in Ga) : ms3 (pm_up N Ga) 168 r_lay := by
  intro z k i v D post hz hM h
  have h5 := hM.2.2.2.2.1
  unfold r_lay at h
  refine ⟨rfl, fun X hX => ?_⟩
  replace hX : ∀ pc L st D, pm_F N Ga tbX5_lay (some .int) post X pc L st D → X pc L st D := hX
  change X 0 [some (.ref 67), some (.int k), some (.int i), some (.int v)] [] D
  repeat (refine hX _ _ _ _ ?_; conv => whnf)
  refine m_ib hin 0 3 rfl rfl (fun e => ?_) (fun e => ?_)
  · obtain ⟨e1, e2, e3, e4⟩ := z_ib_of e (by decide) (by omega)
    rw [if_pos e] at h
    have vk : vp_in (nI (z_nt k)) 4 := vp_in_nI (by omega) (by decide)
    have ck : (nI (z_nt k)).toNatClampNeg = z_nt k := nI_clamp (by omega)
    repeat (refine hX _ _ _ _ ?_; conv => whnf)
    refine ⟨fun _ => ?_, fun h => absurd h (by decide)⟩
    rw [e1]
    repeat (refine hX _ _ _ _ ?_; conv => whnf)
    refine ⟨vk, ?_⟩
    repeat (refine hX _ _ _ _ ?_; conv => whnf)
    rw [ck]
    obtain ⟨s0, s1⟩ := h5 (z_nt k) (by omega)
    cases y : zH z (z_nt k) with
    | none =>
      rw [y] at h
      rw [s0 y]
      refine ⟨fun h => absurd h (by decide), fun _ => ?_⟩
      repeat (refine hX _ _ _ _ ?_; conv => whnf)
      exact h D hM (fun _ _ => rfl)
    | some q =>
      obtain ⟨a, n⟩ := q
      rw [y] at h
      obtain ⟨y1, y2, y3⟩ := s1 a n y
      have hb := hz.2.2.2.2.2 _ (show z_nt k < 4 by omega) a n y
      change mP D (z_lay z (z_nt k) a n i v) post at h
      unfold z_lay at h
      rw [y2]
      refine ⟨fun _ => ?_, fun y => ?_⟩
      · repeat (refine hX _ _ _ _ ?_; conv => whnf)
        refine ⟨vk, ?_⟩
        repeat (refine hX _ _ _ _ ?_; conv => whnf)
        rw [ck, y1]
        refine m_ib hin 0 ((n : Int) - 1) rfl (by rw [z_64]; exact z_m1 (by omega)) (fun w => ?_) (fun w => ?_)
        · rw [if_pos w] at h
          obtain ⟨w1, w2, w3, w4⟩ := z_ib_of w (by decide) (by omega)
          have ix : (40 : Int32) * nI (z_nt k) + nI (z_nt i) = nI (40 * z_nt k + z_nt i) := by rw [show (40 : Int32) = nI 40 from rfl, nI_mul, nI_add]
          have fin : ∀ u, u = z_na a v → X 99 [some (.ref 67), some (.int (nI (z_nt k))), some (.int i), some (.int v)] [.int u, .int (40 * nI (z_nt k) + i), .ref 79] D := by
            intro u hu
            repeat (refine hX _ _ _ _ ?_; conv => whnf)
            rw [w1, ix, hu]
            refine ⟨by decide, vp_in_nI (show 40 * z_nt k + z_nt i < 160 by omega) (by decide), ?_⟩
            rw [nI_clamp (show 40 * z_nt k + z_nt i < 2 ^ 31 by omega)]
            repeat (refine hX _ _ _ _ ?_; conv => whnf)
            have fr : ∀ r, r ≠ 79 → pm_mu D 79 (40 * z_nt k + z_nt i) (z_na a v) r = D r := fun r hr => pm_mu_ne _ _ _ hr
            refine h _ (hM.sheet (fun j hj => ?_) (fun r hr => fr r (by omega))) (fun r hr => fr r (by omega))
            obtain ⟨s0, s1⟩ := h5 j hj
            rw [fr 77 (by omega), fr 78 (by omega)]
            refine ⟨s0, fun a' n' y' => ?_⟩
            obtain ⟨x1, x2, x3⟩ := s1 a' n' y'
            have hb' := hz.2.2.2.2.2 j hj a' n' y'
            refine ⟨x1, x2, fun q hq => ?_⟩
            show _ = (if j = z_nt k ∧ q = z_nt i then z_na a v else zE z j q)
            by_cases c : j = z_nt k ∧ q = z_nt i
            · rw [if_pos c, c.1, c.2, pm_mu_at]
            · rw [if_neg c, ← x3 q hq, pm_mu_k _ _ _ _ (by omega)]
          repeat (refine hX _ _ _ _ ?_; conv => whnf)
          refine ⟨fun _ => ?_, fun h => absurd h (by decide)⟩
          repeat (refine hX _ _ _ _ ?_; conv => whnf)
          refine ⟨vk, ?_⟩
          repeat (refine hX _ _ _ _ ?_; conv => whnf)
          rw [ck, y2]
          have h3 : a = 0 ∨ a = 1 ∨ a = 2 := by omega
          rcases h3 with rfl | rfl | rfl
          · refine ⟨fun h => absurd h (by decide), fun _ => ?_⟩
            iterate 6 (refine hX _ _ _ _ ?_; conv => whnf)
            exact fin _ (z_sh24 v)
          · refine ⟨fun _ => ?_, fun h => absurd h (by decide)⟩
            repeat (refine hX _ _ _ _ ?_; conv => whnf)
            refine ⟨vk, ?_⟩
            repeat (refine hX _ _ _ _ ?_; conv => whnf)
            rw [ck, y2]
            refine ⟨fun h => absurd h (by decide), fun _ => ?_⟩
            iterate 6 (refine hX _ _ _ _ ?_; conv => whnf)
            exact fin _ (z_sh16 v)
          · refine ⟨fun _ => ?_, fun h => absurd h (by decide)⟩
            repeat (refine hX _ _ _ _ ?_; conv => whnf)
            refine ⟨vk, ?_⟩
            repeat (refine hX _ _ _ _ ?_; conv => whnf)
            rw [ck, y2]
            refine ⟨fun _ => ?_, fun h => absurd h (by decide)⟩
            iterate 1 (refine hX _ _ _ _ ?_; conv => whnf)
            exact fin _ rfl
        · rw [if_neg (by rw [w]; decide)] at h
          repeat (refine hX _ _ _ _ ?_; conv => whnf)
          refine ⟨fun h => absurd h (by decide), fun _ => ?_⟩
          repeat (refine hX _ _ _ _ ?_; conv => whnf)
          exact h D hM (fun _ _ => rfl)
      · have y3 := congrArg Int32.toInt y
        rw [z_tI (by omega)] at y3
        have : (-4 : Int32).toInt = -4 := rfl
        omega
  · rw [if_neg (by rw [e]; decide)] at h
    repeat (refine hX _ _ _ _ ?_; conv => whnf)
    refine ⟨fun h => absurd h (by decide), fun _ => ?_⟩
    repeat (refine hX _ _ _ _ ?_; conv => whnf)
    exact h D hM (fun _ _ => rfl)
