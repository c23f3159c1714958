theorem z_ix1' (k b : Nat) (K : Int32) (hK : K = nI k) : K + nI b = nI (k + b) := by
  rw [hK, nI_add]
set_option maxHeartbeats 2000000 in
theorem t_m_hit {N : Nat} {Ga : pm_Ga} (hib : sp_isBead Ga) (hin : sp_in Ga) (hkn : sp_knockOn Ga) : ms2 (pm_up N Ga) 132 r_hit := by
  intro z b v D post hz hM h
  obtain ⟨g1, g2, g3, g4, g5, g6, g7, g8⟩ := hz.1
  unfold r_hit at h
  refine ⟨rfl, fun X hX => ?_⟩
  replace hX : ∀ pc L st D, pm_F N Ga tbX5_hit (some .int) post X pc L st D → X pc L st D := hX
  change X 0 [some (.ref 67), some (.int b), some (.int v)] [] D
  repeat (refine hX _ _ _ _ ?_; conv => whnf)
  refine hib b (zG z) D _ hM.1 g1 g2 (fun e => ?_) (fun e => ?_)
  · obtain ⟨b1, b2, b3, b4⟩ := z_isb_of e g2
    repeat (refine hX _ _ _ _ ?_; conv => whnf)
    refine ⟨fun h => absurd h (by decide), fun _ => ?_⟩
    repeat (refine hX _ _ _ _ ?_; conv => whnf)
    refine m_ib hin 0 18 rfl rfl (fun e2 => ?_) (fun e2 => ?_)
    · rw [if_pos (by rw [e, e2]; rfl)] at h
      repeat (refine hX _ _ _ _ ?_; conv => whnf)
      refine ⟨fun _ => ?_, fun h => absurd h (by decide)⟩
      repeat (refine hX _ _ _ _ ?_; conv => whnf)
      refine hkn 0 b _ (zG z) D _ (by omega) b3 hM.1 g1 g2 (fun D1 f1 f2 => ?_)
      repeat (refine hX _ _ _ _ ?_; conv => whnf)
      rw [b2, z_ix1' 20 (z_nt b) 20 (by decide)]
      refine ⟨vp_in_nI (by omega) (by decide), ?_⟩
      rw [nI_clamp (by omega), z_M0 f1 (by omega)]
      repeat (refine hX _ _ _ _ ?_; conv => whnf)
      exact h _ (hM.now f1 (fun r _ h2 _ _ _ => f2.1 r h2) (fun k _ _ _ _ => by rw [f2.1 67 (by decide)]) (fun k h1 _ => f2.2 k (by omega))) (fun r hr => f2.1 r (by omega))
    · rw [if_neg (by rw [e, e2]; decide)] at h
      repeat (refine hX _ _ _ _ ?_; conv => whnf)
      refine ⟨fun h => absurd h (by decide), fun _ => ?_⟩
      repeat (refine hX _ _ _ _ ?_; conv => whnf)
      exact h D hM (fun _ _ => rfl)
  · rw [if_neg (by rw [e]; simp)] at h
    repeat (refine hX _ _ _ _ ?_; conv => whnf)
    refine ⟨fun _ => ?_, fun h => absurd h (by decide)⟩
    repeat (refine hX _ _ _ _ ?_; conv => whnf)
    exact h D hM (fun _ _ => rfl)
set_option maxHeartbeats 4000000 in
theorem t_m_adds {N : Nat} {Ga : pm_Ga} (hin : sp_in Ga) : ms2 (pm_up N Ga) 133 r_add := by
  intro z b v D post hz hM h
  obtain ⟨g1, g2, g3, g4, g5, g6, g7, g8⟩ := hz.1
  obtain ⟨v49, c49⟩ := z_lit (k := 49) 49 (by decide) (by decide)
  unfold r_add at h
  refine ⟨rfl, fun X hX => ?_⟩
  replace hX : ∀ pc L st D, pm_F N Ga tbX5_adds (some .int) post X pc L st D → X pc L st D := hX
  change X 0 [some (.ref 67), some (.int b), some (.int v), none] [] D
  repeat (refine hX _ _ _ _ ?_; conv => whnf)
  refine m_ib hin 0 3 rfl rfl (fun e => ?_) (fun e => ?_)
  · repeat (refine hX _ _ _ _ ?_; conv => whnf)
    refine ⟨fun h => absurd h (by decide), fun _ => ?_⟩
    repeat (refine hX _ _ _ _ ?_; conv => whnf)
    refine m_ib hin 0 18 rfl rfl (fun e2 => ?_) (fun e2 => ?_)
    · rw [if_pos (by rw [e, e2]; rfl)] at h
      repeat (refine hX _ _ _ _ ?_; conv => whnf)
      refine ⟨fun _ => ?_, fun h => absurd h (by decide)⟩
      repeat (refine hX _ _ _ _ ?_; conv => whnf)
      refine ⟨v49, ?_⟩
      rw [c49, z_M0 hM.1 (by decide), g3]
      repeat (refine hX _ _ _ _ ?_; conv => whnf)
      refine ⟨fun q => ?_, fun q => ?_⟩
      · have q : ¬ z_k (zG z) = 12 := fun e2 => q (by rw [e2]; decide)
        rw [if_neg q] at h
        repeat (refine hX _ _ _ _ ?_; conv => whnf)
        rw [z_ix1' 25 (z_k (zG z)) 25 (by decide)]
        refine ⟨by decide, vp_in_nI (by omega) (by decide), ?_⟩
        repeat (refine hX _ _ _ _ ?_; conv => whnf)
        rw [z_ix1' 37 (z_k (zG z)) 37 (by decide)]
        refine ⟨by decide, vp_in_nI (by omega) (by decide), ?_⟩
        rw [nI_clamp (by omega), nI_clamp (by omega)]
        repeat (refine hX _ _ _ _ ?_; conv => whnf)
        refine ⟨v49, ?_⟩
        rw [c49, pm_mu_k _ _ _ _ (by omega), pm_mu_k _ _ _ _ (by omega), z_M0 hM.1 (by decide), g3]
        repeat (refine hX _ _ _ _ ?_; conv => whnf)
        refine ⟨by decide, v49, ?_⟩
        rw [c49, nI_1]
        repeat (refine hX _ _ _ _ ?_; conv => whnf)
        refine ⟨v49, ?_⟩
        rw [c49, pm_mu_at]
        repeat (refine hX _ _ _ _ ?_; conv => whnf)
        have eg : z_up (z_up (z_up (zG z) (25 + z_k (zG z)) b) (37 + z_k (zG z)) (v - 9)) 49 (nI (z_k (zG z) + 1)) = z_add1 (zG z) b (v - 9) := by
          funext j
          unfold z_up z_add1
          by_cases q1 : j = 49
          · rw [if_pos q1, if_neg (by omega), if_neg (by omega), if_pos q1]
          · rw [if_neg q1]
            by_cases q2 : j = 37 + z_k (zG z)
            · rw [if_pos q2, if_neg (by omega), if_pos q2]
            · rw [if_neg q2]
              by_cases q3 : j = 25 + z_k (zG z)
              · rw [if_pos q3, if_pos q3]
              · rw [if_neg q3, if_neg q3, if_neg q2, if_neg q1]
        refine h _ ?_ (fun r hr => by rw [pm_mu_ne _ _ _ (by omega), pm_mu_ne _ _ _ (by omega), pm_mu_ne _ _ _ (by omega)])
        have m1 := hM.put (k := 25 + z_k (zG z)) (v := b) (by omega)
        have m2 := m1.put (k := 37 + z_k (zG z)) (v := v - 9) (by omega)
        have m3 := m2.put (k := 49) (v := nI (z_k (zG z) + 1)) (by omega)
        rw [← eg]
        exact m3
      · have q : z_k (zG z) = 12 := by
          rw [z_eq, z_tI (by omega)] at q
          have q : (z_k (zG z) : Int) = 12 := q
          omega
        rw [if_pos q] at h
        repeat (refine hX _ _ _ _ ?_; conv => whnf)
        exact h D hM (fun _ _ => rfl)
    · rw [if_neg (by rw [e, e2]; decide)] at h
      repeat (refine hX _ _ _ _ ?_; conv => whnf)
      refine ⟨fun h => absurd h (by decide), fun _ => ?_⟩
      repeat (refine hX _ _ _ _ ?_; conv => whnf)
      exact h D hM (fun _ _ => rfl)
  · rw [if_neg (by rw [e]; simp)] at h
    repeat (refine hX _ _ _ _ ?_; conv => whnf)
    refine ⟨fun _ => ?_, fun h => absurd h (by decide)⟩
    repeat (refine hX _ _ _ _ ?_; conv => whnf)
    exact h D hM (fun _ _ => rfl)
set_option maxHeartbeats 2000000 in
theorem t_m_add {N : Nat} {Ga : pm_Ga} (had : ms2 Ga 133 r_add) : ms2 (pm_up N Ga) 134 r_add := by
  intro z b v D post hz hM h
  refine ⟨rfl, fun X hX => ?_⟩
  replace hX : ∀ pc L st D, pm_F N Ga tbX5_add (some .int) post X pc L st D → X pc L st D := hX
  change X 0 [some (.ref 67), some (.int b), some (.int v)] [] D
  repeat (refine hX _ _ _ _ ?_; conv => whnf)
  refine had z b v D _ hz hM (fun D' h1 h2 => ?_)
  repeat (refine hX _ _ _ _ ?_; conv => whnf)
  exact h D' h1 h2
set_option maxHeartbeats 2000000 in
theorem t_m_knock {N : Nat} {Ga : pm_Ga} (hik : sp_isKnock Ga) (hin : sp_in Ga) : ms2 (pm_up N Ga) 125 r_knock := by
  intro z i w D post hz hM h
  obtain ⟨g1, g2, g3, g4, g5, g6, g7, g8⟩ := hz.1
  have h := h D hM (fun _ _ => rfl)
  unfold r_knock at h
  refine ⟨rfl, fun X hX => ?_⟩
  replace hX : ∀ pc L st D, pm_F N Ga tbX5_knock (some .int) post X pc L st D → X pc L st D := hX
  change X 0 [some (.ref 67), some (.int i), some (.int w)] [] D
  repeat (refine hX _ _ _ _ ?_; conv => whnf)
  refine hik i (zG z) D _ hM.1 g3 g4 (fun e => ?_) (fun e => ?_)
  · obtain ⟨b1, b2, b3⟩ := z_isk_of e g4
    rw [if_pos e] at h
    repeat (refine hX _ _ _ _ ?_; conv => whnf)
    refine ⟨fun h => absurd h (by decide), fun _ => ?_⟩
    repeat (refine hX _ _ _ _ ?_; conv => whnf)
    refine m_ib hin 0 1 rfl rfl (fun e2 => ?_) (fun e2 => ?_)
    · have e3 := z_ib_iff.mp e2
      repeat (refine hX _ _ _ _ ?_; conv => whnf)
      refine ⟨fun _ => ?_, fun h => absurd h (by decide)⟩
      repeat (refine hX _ _ _ _ ?_; conv => whnf)
      refine ⟨fun q => ?_, fun q => ?_⟩
      · have q1 : w = 1 := by
          rw [z_eq] at q ⊢
          have q : ¬ w.toInt = 0 := q
          show w.toInt = 1
          omega
        rw [if_neg q, if_pos q1] at h
        repeat (refine hX _ _ _ _ ?_; conv => whnf)
        rw [b2, z_ix1' 37 (z_nt i) 37 (by decide)]
        refine ⟨vp_in_nI (by omega) (by decide), ?_⟩
        rw [nI_clamp (by omega), z_M0 hM.1 (by omega)]
        repeat (refine hX _ _ _ _ ?_; conv => whnf)
        exact h
      · rw [if_pos q] at h
        repeat (refine hX _ _ _ _ ?_; conv => whnf)
        rw [b2, z_ix1' 25 (z_nt i) 25 (by decide)]
        refine ⟨vp_in_nI (by omega) (by decide), ?_⟩
        rw [nI_clamp (by omega), z_M0 hM.1 (by omega)]
        repeat (refine hX _ _ _ _ ?_; conv => whnf)
        exact h
    · have n0 : ¬ w = 0 := fun q => by rw [q] at e2; exact absurd e2 (by decide)
      have n1 : ¬ w = 1 := fun q => by rw [q] at e2; exact absurd e2 (by decide)
      rw [if_neg n0, if_neg n1] at h
      repeat (refine hX _ _ _ _ ?_; conv => whnf)
      refine ⟨fun h => absurd h (by decide), fun _ => ?_⟩
      repeat (refine hX _ _ _ _ ?_; conv => whnf)
      exact h
  · rw [if_neg (by rw [e]; decide)] at h
    repeat (refine hX _ _ _ _ ?_; conv => whnf)
    refine ⟨fun _ => ?_, fun h => absurd h (by decide)⟩
    repeat (refine hX _ _ _ _ ?_; conv => whnf)
    exact h
set_option maxHeartbeats 2000000 in
theorem t_m_alter {N : Nat} {Ga : pm_Ga} (hib : sp_isBead Ga) (hig : sp_isGood Ga) (hpu : sp_puts Ga) : ms3 (pm_up N Ga) 128 r_alter := by
  intro z b w v D post hz hM h
  obtain ⟨g1, g2, g3, g4, g5, g6, g7, g8⟩ := hz.1
  unfold r_alter at h
  refine ⟨rfl, fun X hX => ?_⟩
  replace hX : ∀ pc L st D, pm_F N Ga tbX5_alter (some .int) post X pc L st D → X pc L st D := hX
  change X 0 [some (.ref 67), some (.int b), some (.int w), some (.int v)] [] D
  have bad : (z_isb (zG z) b && z_good w v) = false → X 21 [some (.ref 67), some (.int b), some (.int w), some (.int v)] [.ref 67] D := by
    intro e
    rw [if_neg (by rw [e]; decide)] at h
    repeat (refine hX _ _ _ _ ?_; conv => whnf)
    refine hpu false _ _ _ _ (fun _ => ?_) (fun q => absurd q (by decide))
    repeat (refine hX _ _ _ _ ?_; conv => whnf)
    exact h D hM (fun _ _ => rfl)
  repeat (refine hX _ _ _ _ ?_; conv => whnf)
  refine hib b (zG z) D _ hM.1 g1 g2 (fun e => ?_) (fun e => ?_)
  · obtain ⟨b1, b2, b3, b4⟩ := z_isb_of e g2
    repeat (refine hX _ _ _ _ ?_; conv => whnf)
    refine ⟨fun h => absurd h (by decide), fun _ => ?_⟩
    repeat (refine hX _ _ _ _ ?_; conv => whnf)
    refine hig w v D _ (fun e2 => ?_) (fun e2 => ?_)
    · rw [if_pos (by rw [e, e2]; rfl)] at h
      have ew : z_ib w 0 4 = true := by
        cases ew : z_ib w 0 4 with
        | true => rfl
        | false => rw [z_good_f ew] at e2; cases e2
      obtain ⟨w1, w2, w3, w4⟩ := z_ib_of ew (by decide) (by decide)
      have ei : 4 * w + b = nI (4 * z_nt w + z_nt b) := by
        rw [w1, b2, show (4 : Int32) = nI 4 by decide, pk_mul, nI_add, ← w1, ← b2]
      repeat (refine hX _ _ _ _ ?_; conv => whnf)
      refine ⟨fun h => absurd h (by decide), fun _ => ?_⟩
      repeat (refine hX _ _ _ _ ?_; conv => whnf)
      rw [ei]
      refine hpu true _ _ _ _ (fun q => absurd q (by decide)) (fun _ => ⟨vp_in_nI (by omega) (by decide), ?_⟩)
      rw [nI_clamp (by omega), z_M0 hM.1 (by omega)]
      repeat (refine hX _ _ _ _ ?_; conv => whnf)
      exact h _ (hM.put (by omega)) mu68
    · repeat (refine hX _ _ _ _ ?_; conv => whnf)
      refine ⟨fun _ => ?_, fun h => absurd h (by decide)⟩
      exact bad (by rw [e, e2]; rfl)
  · repeat (refine hX _ _ _ _ ?_; conv => whnf)
    refine ⟨fun _ => ?_, fun h => absurd h (by decide)⟩
    exact bad (by rw [e]; rfl)
set_option maxHeartbeats 2000000 in
theorem t_m_bead {N : Nat} {Ga : pm_Ga} (hib : sp_isBead Ga) (hin : sp_in Ga) (hst : sp_stretchOn Ga) (hpu : sp_pullOn Ga) : ms2 (pm_up N Ga) 124 r_bead := by
  intro z b w D post hz hM h
  obtain ⟨g1, g2, g3, g4, g5, g6, g7, g8⟩ := hz.1
  have h := h D hM (fun _ _ => rfl)
  unfold r_bead at h
  have t5 : (5 : Int32).toInt = 5 := rfl
  have t6 : (6 : Int32).toInt = 6 := rfl
  have t7 : (7 : Int32).toInt = 7 := rfl
  refine ⟨rfl, fun X hX => ?_⟩
  replace hX : ∀ pc L st D, pm_F N Ga tbX5_bead (some .int) post X pc L st D → X pc L st D := hX
  change X 0 [some (.ref 67), some (.int b), some (.int w)] [] D
  repeat (refine hX _ _ _ _ ?_; conv => whnf)
  refine hib b (zG z) D _ hM.1 g1 g2 (fun e => ?_) (fun e => ?_)
  · obtain ⟨b1, b2, b3, b4⟩ := z_isb_of e g2
    rw [if_pos e] at h
    repeat (refine hX _ _ _ _ ?_; conv => whnf)
    refine ⟨fun h => absurd h (by decide), fun _ => ?_⟩
    repeat (refine hX _ _ _ _ ?_; conv => whnf)
    refine m_ib hin 0 7 rfl rfl (fun e2 => ?_) (fun e2 => ?_)
    · obtain ⟨w1, w2, w3, w4⟩ := z_ib_of e2 (by decide) (by decide)
      have w5 := z_ib_iff.mp e2
      have ei : 4 * w + b = nI (4 * z_nt w + z_nt b) := by
        rw [w1, b2, show (4 : Int32) = nI 4 by decide, pk_mul, nI_add, ← w1, ← b2]
      have wt : w.toInt = z_nt w := by rw [w1, z_tI (by omega), ← w1]
      repeat (refine hX _ _ _ _ ?_; conv => whnf)
      refine ⟨fun _ => ?_, fun h => absurd h (by decide)⟩
      repeat (refine hX _ _ _ _ ?_; conv => whnf)
      refine ⟨fun q => ?_, fun q => ?_⟩
      · rw [z_le, t6] at q
        have n0 : ¬ z_ib w 0 4 = true := by rw [z_ib_iff]; omega
        have n5 : ¬ w = 5 := by rw [z_eq]; omega
        rw [if_neg n0, if_neg n5] at h
        repeat (refine hX _ _ _ _ ?_; conv => whnf)
        refine ⟨fun q2 => ?_, fun q2 => ?_⟩
        · rw [if_neg q2, if_pos (by rw [z_eq] at q2 ⊢; omega)] at h
          repeat (refine hX _ _ _ _ ?_; conv => whnf)
          rw [b2]
          refine hpu 0 (z_nt b) (zG z) D _ (by omega) (by omega) hM.1 ?_
          repeat (refine hX _ _ _ _ ?_; conv => whnf)
          exact h
        · rw [if_pos q2] at h
          repeat (refine hX _ _ _ _ ?_; conv => whnf)
          rw [b2]
          refine hst 0 (z_nt b) (zG z) D _ (by omega) (by omega) hM.1 ?_
          repeat (refine hX _ _ _ _ ?_; conv => whnf)
          exact h
      · rw [z_le, t6] at q
        repeat (refine hX _ _ _ _ ?_; conv => whnf)
        rw [ei]
        refine ⟨vp_in_nI (by omega) (by decide), ?_⟩
        rw [nI_clamp (by omega), z_M0 hM.1 (by omega)]
        repeat (refine hX _ _ _ _ ?_; conv => whnf)
        refine ⟨fun q2 => ?_, fun q2 => ?_⟩
        · have n0 : z_ib w 0 4 = true := by rw [z_ib_iff]; rw [z_eq] at q2; omega
          rw [if_pos n0] at h
          repeat (refine hX _ _ _ _ ?_; conv => whnf)
          rw [Int32.add_zero]
          exact h
        · have n0 : ¬ z_ib w 0 4 = true := by rw [z_ib_iff]; rw [z_eq] at q2; omega
          have e5 : z_nt w = 5 := by rw [z_eq] at q2; omega
          rw [if_neg n0, if_pos q2] at h
          repeat (refine hX _ _ _ _ ?_; conv => whnf)
          rw [e5, show 4 * 5 + z_nt b = 20 + z_nt b by omega, Int32.add_comm]
          exact h
    · have e3 := z_ib_not.mp e2
      have n0 : ¬ z_ib w 0 4 = true := by rw [z_ib_iff]; omega
      have n5 : ¬ w = 5 := by rw [z_eq]; omega
      have n6 : ¬ w = 6 := by rw [z_eq]; omega
      have n7 : ¬ w = 7 := by rw [z_eq]; omega
      rw [if_neg n0, if_neg n5, if_neg n6, if_neg n7] at h
      repeat (refine hX _ _ _ _ ?_; conv => whnf)
      refine ⟨fun h => absurd h (by decide), fun _ => ?_⟩
      repeat (refine hX _ _ _ _ ?_; conv => whnf)
      exact h
  · rw [if_neg (by rw [e]; decide)] at h
    repeat (refine hX _ _ _ _ ?_; conv => whnf)
    refine ⟨fun _ => ?_, fun h => absurd h (by decide)⟩
    repeat (refine hX _ _ _ _ ?_; conv => whnf)
    exact h
set_option maxHeartbeats 2000000 in
theorem t_m_rule {N : Nat} {Ga : pm_Ga} (hla : sp_lastOn Ga) : ms1 (pm_up N Ga) 123 r_rule := by
  intro z w D post hz hM h
  obtain ⟨g1, g2, g3, g4, g5, g6, g7, g8⟩ := hz.1
  have h := h D hM (fun _ _ => rfl)
  obtain ⟨v24, c24⟩ := z_lit (k := 24) 24 (by decide) (by decide)
  obtain ⟨v49, c49⟩ := z_lit (k := 49) 49 (by decide) (by decide)
  obtain ⟨v50, c50⟩ := z_lit (k := 50) 50 (by decide) (by decide)
  obtain ⟨v51, c51⟩ := z_lit (k := 51) 51 (by decide) (by decide)
  unfold r_rule at h
  refine ⟨rfl, fun X hX => ?_⟩
  replace hX : ∀ pc L st D, pm_F N Ga tbX5_rule (some .int) post X pc L st D → X pc L st D := hX
  change X 0 [some (.ref 67), some (.int w), none, none] [] D
  iterate 4 (refine hX _ _ _ _ ?_; conv => whnf)
  have loop : ∀ (m b : Nat), b + m = z_n (zG z) → X 4 [some (.ref 67), some (.int w), some (.int (z_still (zG z) b)), some (.int (nI b))] [] D := by
    intro m
    induction m with
    | zero =>
      intro b hb
      have hb : b = z_n (zG z) := by omega
      subst hb
      repeat (refine hX _ _ _ _ ?_; conv => whnf)
      refine ⟨v24, ?_⟩
      rw [c24, z_M0 hM.1 (by decide), g1]
      repeat (refine hX _ _ _ _ ?_; conv => whnf)
      refine ⟨fun _ => ?_, fun q => absurd (nI_le (Nat.le_refl _) (by omega)) q⟩
      repeat (refine hX _ _ _ _ ?_; conv => whnf)
      refine ⟨fun q => ?_, fun q => ?_, fun q => ?_, fun q => ?_, fun q => ?_, fun q => ?_, fun q => ?_, trivial⟩
      · repeat (refine hX _ _ _ _ ?_; conv => whnf)
        have n0 : ¬ w = 0 := fun e => by rw [e] at q; exact absurd q (by decide)
        have n1 : ¬ w = 1 := fun e => by rw [e] at q; exact absurd q (by decide)
        have n2 : ¬ w = 2 := fun e => by rw [e] at q; exact absurd q (by decide)
        have n3 : ¬ w = 3 := fun e => by rw [e] at q; exact absurd q (by decide)
        have n4 : ¬ w = 4 := fun e => by rw [e] at q; exact absurd q (by decide)
        have n5 : ¬ w = 5 := fun e => by rw [e] at q; exact absurd q (by decide)
        simp only [n0, n1, n2, n3, n4, n5, if_false] at h
        exact h
      · have e : w = 0 := z_sw0 q
        subst e
        repeat (refine hX _ _ _ _ ?_; conv => whnf)
        refine ⟨v24, ?_⟩
        rw [c24, z_M0 hM.1 (by decide)]
        repeat (refine hX _ _ _ _ ?_; conv => whnf)
        exact h
      · have e : w = 1 := z_sw0 q
        subst e
        repeat (refine hX _ _ _ _ ?_; conv => whnf)
        refine ⟨v49, ?_⟩
        rw [c49, z_M0 hM.1 (by decide)]
        repeat (refine hX _ _ _ _ ?_; conv => whnf)
        exact h
      · have e : w = 2 := z_sw0 q
        subst e
        repeat (refine hX _ _ _ _ ?_; conv => whnf)
        refine ⟨v51, ?_⟩
        rw [c51, z_M0 hM.1 (by decide)]
        repeat (refine hX _ _ _ _ ?_; conv => whnf)
        exact h
      · have e : w = 3 := z_sw0 q
        subst e
        repeat (refine hX _ _ _ _ ?_; conv => whnf)
        refine ⟨v50, ?_⟩
        rw [c50, z_M0 hM.1 (by decide)]
        repeat (refine hX _ _ _ _ ?_; conv => whnf)
        exact h
      · have e : w = 4 := z_sw0 q
        subst e
        repeat (refine hX _ _ _ _ ?_; conv => whnf)
        exact h
      · have e : w = 5 := z_sw0 q
        subst e
        repeat (refine hX _ _ _ _ ?_; conv => whnf)
        refine hla 0 (zG z) D _ (by omega) hM.1 g1 g2 ?_
        repeat (refine hX _ _ _ _ ?_; conv => whnf)
        exact h
    | succ m ih =>
      intro b hb
      have ih := ih (b + 1) (by omega)
      have ez : z_still (zG z) (b + 1) = if zG z (20 + b) = 0 then z_still (zG z) b ||| ((1 : Int32) <<< (nI b &&& 31)) else z_still (zG z) b := rfl
      rw [ez] at ih
      repeat (refine hX _ _ _ _ ?_; conv => whnf)
      refine ⟨v24, ?_⟩
      rw [c24, z_M0 hM.1 (by decide), g1]
      repeat (refine hX _ _ _ _ ?_; conv => whnf)
      refine ⟨fun q => absurd q (nI_ge (by omega) (by omega)), fun _ => ?_⟩
      repeat (refine hX _ _ _ _ ?_; conv => whnf)
      rw [z_ix1' 20 b 20 (by decide)]
      refine ⟨vp_in_nI (by omega) (by decide), ?_⟩
      rw [nI_clamp (by omega), z_M0 hM.1 (by omega)]
      repeat (refine hX _ _ _ _ ?_; conv => whnf)
      refine ⟨fun q => ?_, fun q => ?_⟩
      · iterate 5 (refine hX _ _ _ _ ?_; conv => whnf)
        rw [nI_1, Int32.or_zero]
        rw [if_neg q] at ih
        exact ih
      · iterate 8 (refine hX _ _ _ _ ?_; conv => whnf)
        rw [nI_1]
        rw [if_pos q] at ih
        exact ih
  exact loop (z_n (zG z)) 0 (by omega)
set_option maxHeartbeats 2000000 in
theorem t_m_calm {N : Nat} {Ga : pm_Ga} : ms0 (pm_up N Ga) 136 r_calm := by
  intro z D post hz hM h
  obtain ⟨g1, g2, g3, g4, g5, g6, g7, g8⟩ := hz.1
  obtain ⟨v24, c24⟩ := z_lit (k := 24) 24 (by decide) (by decide)
  unfold r_calm at h
  refine ⟨rfl, fun X hX => ?_⟩
  replace hX : ∀ pc L st D, pm_F N Ga tbX5_calm (some .int) post X pc L st D → X pc L st D := hX
  change X 0 [some (.ref 67), none, none] [] D
  iterate 4 (refine hX _ _ _ _ ?_; conv => whnf)
  have loop : ∀ (m b : Nat) (D1 : pm_Mem), b + m = z_n (zG z) → MR D1 (uG z (z_calm (zG z) b)) → (∀ r, (r < 67 ∨ 80 ≤ r) → D1 r = D r) → X 4 [some (.ref 67), some (.int (z_mov (zG z) b)), some (.int (nI b))] [] D1 := by
    intro m
    induction m with
    | zero =>
      intro b D1 hb f1 f2
      have hb : b = z_n (zG z) := by omega
      subst hb
      repeat (refine hX _ _ _ _ ?_; conv => whnf)
      refine ⟨v24, ?_⟩
      rw [c24, z_M0 f1.1 (by decide), show zG (uG z (z_calm (zG z) (z_n (zG z)))) 24 = nI (z_n (zG z)) from (z_calm_n _ g2).2.2.trans g1]
      repeat (refine hX _ _ _ _ ?_; conv => whnf)
      refine ⟨fun _ => ?_, fun q => absurd (nI_le (Nat.le_refl _) (by omega)) q⟩
      repeat (refine hX _ _ _ _ ?_; conv => whnf)
      exact h D1 f1 f2
    | succ m ih =>
      intro b D1 hb f1 f2
      have e20 : z_calm (zG z) b (20 + b) = zG z (20 + b) := by unfold z_calm; rw [if_neg (by omega)]
      have hgz : zG (uG z (z_calm (zG z) b)) = z_calm (zG z) b := rfl
      have nxt : ∀ q : Int32, q = (if zG z (20 + b) = 0 then 0 else 1) → X 33 [some (.ref 67), some (.int (z_mov (zG z) b)), some (.int (nI b))] [.int q, .int (z_mov (zG z) b)] D1 := by
        intro q hq
        repeat (refine hX _ _ _ _ ?_; conv => whnf)
        rw [z_ix1' 20 b 20 (by decide)]
        refine ⟨by decide, vp_in_nI (by omega) (by decide), ?_⟩
        rw [nI_clamp (by omega)]
        iterate 2 (refine hX _ _ _ _ ?_; conv => whnf)
        rw [nI_1, hq]
        refine ih (b + 1) _ (by omega) ?_ (fun r hr => by rw [mu68 r hr]; exact f2 r hr)
        have m1 := f1.put (k := 20 + b) (v := 0) (by omega)
        rw [hgz] at m1
        rw [z_calm_1]
        exact m1
      repeat (refine hX _ _ _ _ ?_; conv => whnf)
      refine ⟨v24, ?_⟩
      rw [c24, z_M0 f1.1 (by decide), hgz, (z_calm_n _ (show b ≤ 4 by omega)).2.2, g1]
      repeat (refine hX _ _ _ _ ?_; conv => whnf)
      refine ⟨fun q => absurd q (nI_ge (by omega) (by omega)), fun _ => ?_⟩
      repeat (refine hX _ _ _ _ ?_; conv => whnf)
      rw [z_ix1' 20 b 20 (by decide)]
      refine ⟨vp_in_nI (by omega) (by decide), ?_⟩
      rw [nI_clamp (by omega), z_M0 f1.1 (by omega), hgz, e20]
      repeat (refine hX _ _ _ _ ?_; conv => whnf)
      refine ⟨fun q => ?_, fun q => ?_⟩
      · iterate 1 (refine hX _ _ _ _ ?_; conv => whnf)
        exact nxt 1 (by rw [if_neg q])
      · iterate 2 (refine hX _ _ _ _ ?_; conv => whnf)
        exact nxt 0 (by rw [if_pos q])
  refine loop (z_n (zG z)) 0 D (by omega) ?_ (fun _ _ => rfl)
  rw [z_calm_0, uG_self]
  exact hM
