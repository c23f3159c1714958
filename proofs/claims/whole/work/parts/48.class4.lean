theorem z_t9 : (9999 : Int32).toInt = 9999 := rfl
set_option maxHeartbeats 2000000 in
theorem t_c_ticks {N : Nat} {Ga : pm_Ga} (hwi : sp_within Ga) (hto : sp_tickOften Ga) : cs1 (pm_up N Ga) 59 r_ticks := by
  intro z n D post hz hC h
  have h1 : z_R D 0 (zG z) := hC.1
  have hG := hz.1
  obtain ⟨g1, g2, g3, g4, g5, g6, g7, g8⟩ := hz.1
  unfold r_ticks at h
  refine ⟨rfl, fun X hX => ?_⟩
  replace hX : ∀ pc L st D, pm_F N Ga tbX4_ticks (some .int) post X pc L st D → X pc L st D := hX
  change X 0 [some (.ref 40), some (.int n)] [] D
  repeat (refine hX _ _ _ _ ?_; conv => whnf)
  refine w_ib hwi 0 100 rfl rfl (fun e => ?_) (fun e => ?_)
  · obtain ⟨e1, e2, e3, e4⟩ := z_ib_of e (by decide) (by decide)
    have e5 := z_ib_iff.mp e
    rw [if_pos e] at h
    have ea : (zG z 51 + n).toInt = (zG z 51).toInt + n.toInt := z_add (by have := g6.1; omega) (by have := g6.2; omega)
    repeat (refine hX _ _ _ _ ?_; conv => whnf)
    refine ⟨fun _ => ?_, fun h => absurd h (by decide)⟩
    repeat (refine hX _ _ _ _ ?_; conv => whnf)
    rw [h1.2.2.2.1]
    refine ⟨fun q => ?_, fun q => ?_⟩
    · rw [z_le, ea, z_t9] at q
      rw [if_neg (by omega)] at h
      repeat (refine hX _ _ _ _ ?_; conv => whnf)
      rw [e1]
      refine hto 0 (z_nt n) (zG z) _ _ 9999 (by omega) (by omega) (by decide) hG (z_R_13 h1 (by decide)) (fun D1 f1 f2 f3 f4 => ?_)
      repeat (refine hX _ _ _ _ ?_; conv => whnf)
      rw [f3, pm_mu_at, Int32.zero_add]
      exact h D1 (hC.now f1 (fun r hr => by rw [f2 r (by omega)]; exact pm_mu_ne _ _ _ (by omega))) (fun r hr => by rw [f2 r (by omega)]; exact pm_mu_ne _ _ _ (by omega))
    · rw [z_le, ea, z_t9] at q
      rw [if_pos (by omega)] at h
      repeat (refine hX _ _ _ _ ?_; conv => whnf)
      exact h D hC (fun _ _ => rfl)
  · rw [if_neg (by rw [e]; decide)] at h
    repeat (refine hX _ _ _ _ ?_; conv => whnf)
    refine ⟨fun h => absurd h (by decide), fun _ => ?_⟩
    repeat (refine hX _ _ _ _ ?_; conv => whnf)
    exact h D hC (fun _ _ => rfl)
set_option maxHeartbeats 2000000 in
theorem t_c_runs {N : Nat} {Ga : pm_Ga} (hwi : sp_within Ga) (hbl : sp_becomeLike Ga) (hgs : sp_greatestSwing Ga) (hla : sp_lastPlace Ga) : cs2 (pm_up N Ga) 60 r_runs := by
  intro z n w D post hz hC h
  have h1 : z_R D 0 (zG z) := hC.1
  have hG := hz.1
  obtain ⟨g1, g2, g3, g4, g5, g6, g7, g8⟩ := hz.1
  unfold r_runs at h
  refine ⟨rfl, fun X hX => ?_⟩
  replace hX : ∀ pc L st D, pm_F N Ga tbX4_runs (some .int) post X pc L st D → X pc L st D := hX
  change X 0 [some (.ref 40), some (.int n), some (.int w), none] [] D
  repeat (refine hX _ _ _ _ ?_; conv => whnf)
  refine w_ib hwi 0 200 rfl rfl (fun e => ?_) (fun e => ?_)
  · obtain ⟨e1, e2, e3, e4⟩ := z_ib_of e (by decide) (by decide)
    repeat (refine hX _ _ _ _ ?_; conv => whnf)
    refine ⟨fun h => absurd h (by decide), fun _ => ?_⟩
    repeat (refine hX _ _ _ _ ?_; conv => whnf)
    refine w_ib hwi 0 3 rfl rfl (fun e5 => ?_) (fun e5 => ?_)
    · have e6 := z_ib_iff.mp e5
      rw [if_pos (by rw [e, e5]; rfl)] at h
      repeat (refine hX _ _ _ _ ?_; conv => whnf)
      refine ⟨fun _ => ?_, fun h => absurd h (by decide)⟩
      repeat (refine hX _ _ _ _ ?_; conv => whnf)
      refine hbl 10 0 D _ (Or.inl ⟨rfl, rfl⟩) (fun D1 f1 f2 f3 f4 => ?_)
      have hR1 := z_like hG h1 f1
      repeat (refine hX _ _ _ _ ?_; conv => whnf)
      rw [e1]
      refine hgs 10 (z_nt n) 301 (zG z) D1 _ 9999 (by omega) (by omega) (by decide) hG hR1 (fun m D2 hm hm2 c1 c2 c3 c4 => ?_)
      have hmn : m = z_nt n := by
        rcases hm2 with q | q
        · exact q
        · have := (z_wid_in hG m (by omega)).2
          rw [z_le] at q
          have q : (301 : Int) ≤ _ := q
          omega
      subst hmn
      rw [f3, Int32.zero_add] at c3
      rw [f4, Int32.zero_add] at c4
      have hfr : ∀ r, (r < 10 ∨ 20 ≤ r) → D2 r = D r := fun r hr => by rw [c2 r (by omega), f2 r (by omega)]
      have h := h D2 (hC.same (fun r hr _ => hfr r (by omega))) (fun r hr => hfr r (by omega))
      obtain ⟨k1, k2, k3⟩ := hG.run (z_nt n) (by omega)
      repeat (refine hX _ _ _ _ ?_; conv => whnf)
      refine ⟨fun q => ?_, fun q => ?_, fun q => ?_, fun q => ?_, trivial⟩
      · have n0 : ¬ w = 0 := fun e => by rw [e] at q; exact absurd q (by decide)
        have n1 : ¬ w = 1 := fun e => by rw [e] at q; exact absurd q (by decide)
        have n2 : ¬ w = 2 := fun e => by rw [e] at q; exact absurd q (by decide)
        simp only [n0, n1, n2, if_false] at h
        repeat (refine hX _ _ _ _ ?_; conv => whnf)
        rw [c4]
        exact h
      · have e : w = 0 := z_sw0 q
        subst e
        repeat (refine hX _ _ _ _ ?_; conv => whnf)
        rw [c3]
        exact h
      · have e : w = 1 := z_sw0 q
        subst e
        repeat (refine hX _ _ _ _ ?_; conv => whnf)
        exact h
      · have e : w = 2 := z_sw0 q
        subst e
        repeat (refine hX _ _ _ _ ?_; conv => whnf)
        refine hla 10 (z_n (zG z)) D2 _ (by decide) (by rw [c1.1]; exact k1.1.trans (by rw [k2])) g2 ?_
        have hl := z_R_last c1
        rw [k2] at hl
        rw [hl]
        repeat (refine hX _ _ _ _ ?_; conv => whnf)
        exact h
    · rw [if_neg (by rw [e, e5]; decide)] at h
      repeat (refine hX _ _ _ _ ?_; conv => whnf)
      refine ⟨fun h => absurd h (by decide), fun _ => ?_⟩
      repeat (refine hX _ _ _ _ ?_; conv => whnf)
      exact h D hC (fun _ _ => rfl)
  · rw [if_neg (by rw [e]; simp)] at h
    repeat (refine hX _ _ _ _ ?_; conv => whnf)
    refine ⟨fun _ => ?_, fun h => absurd h (by decide)⟩
    repeat (refine hX _ _ _ _ ?_; conv => whnf)
    exact h D hC (fun _ _ => rfl)
set_option maxHeartbeats 2000000 in
theorem t_c_ahead {N : Nat} {Ga : pm_Ga} (hhas : sp_has Ga) (hwi : sp_within Ga) (hbl : sp_becomeLike Ga) (hto : sp_tickOften Ga) : cs3 (pm_up N Ga) 61 r_ahead := by
  intro z b n w D post hz hC h
  have h1 : z_R D 0 (zG z) := hC.1
  have hG := hz.1
  obtain ⟨g1, g2, g3, g4, g5, g6, g7, g8⟩ := hz.1
  unfold r_ahead at h
  refine ⟨rfl, fun X hX => ?_⟩
  replace hX : ∀ pc L st D, pm_F N Ga tbX4_ahead (some .int) post X pc L st D → X pc L st D := hX
  change X 0 [some (.ref 40), some (.int b), some (.int n), some (.int w)] [] D
  repeat (refine hX _ _ _ _ ?_; conv => whnf)
  refine z_has hhas h1 g1 g2 (fun e0 => ?_) (fun e0 => ?_)
  · obtain ⟨b1, b2, b3, b4⟩ := z_isb_of e0 g2
    repeat (refine hX _ _ _ _ ?_; conv => whnf)
    refine ⟨fun h => absurd h (by decide), fun _ => ?_⟩
    repeat (refine hX _ _ _ _ ?_; conv => whnf)
    refine w_ib hwi 0 200 rfl rfl (fun e => ?_) (fun e => ?_)
    · obtain ⟨e1, e2, e3, e4⟩ := z_ib_of e (by decide) (by decide)
      repeat (refine hX _ _ _ _ ?_; conv => whnf)
      refine ⟨fun h => absurd h (by decide), fun _ => ?_⟩
      repeat (refine hX _ _ _ _ ?_; conv => whnf)
      refine w_ib hwi 0 1 rfl rfl (fun e5 => ?_) (fun e5 => ?_)
      · have e6 := z_ib_iff.mp e5
        rw [if_pos (by rw [e0, e, e5]; rfl)] at h
        repeat (refine hX _ _ _ _ ?_; conv => whnf)
        refine ⟨fun _ => ?_, fun h => absurd h (by decide)⟩
        repeat (refine hX _ _ _ _ ?_; conv => whnf)
        refine hbl 10 0 D _ (Or.inl ⟨rfl, rfl⟩) (fun D1 f1 f2 f3 f4 => ?_)
        have hR1 := z_like hG h1 f1
        repeat (refine hX _ _ _ _ ?_; conv => whnf)
        rw [e1]
        refine hto 10 (z_nt n) (zG z) D1 _ 9999 (by omega) (by omega) (by decide) hG hR1 (fun D2 c1 c2 c3 c4 => ?_)
        have hfr : ∀ r, (r < 10 ∨ 20 ≤ r) → D2 r = D r := fun r hr => by rw [c2 r (by omega), f2 r (by omega)]
        have h := h D2 (hC.same (fun r hr _ => hfr r (by omega))) (fun r hr => hfr r (by omega))
        obtain ⟨k1, k2, k3⟩ := hG.run (z_nt n) (by omega)
        have hb5 := z_Rb c1 (b := z_nt b) (by rw [k2]; exact b1)
        have hin : vp_in b 4 := by rw [b2]; exact vp_in_nI (by omega) (by decide)
        have r5 : D2 15 (z_nt b) = z_run (zG z) (z_nt n) (16 + z_nt b) := hb5.2.2.2.2.1
        have r6 : D2 16 (z_nt b) = z_run (zG z) (z_nt n) (20 + z_nt b) := hb5.2.2.2.2.2
        repeat (refine hX _ _ _ _ ?_; conv => whnf)
        refine ⟨fun q => ?_, fun q => ?_⟩
        · rw [if_neg q] at h
          repeat (refine hX _ _ _ _ ?_; conv => whnf)
          refine ⟨hin, ?_⟩
          rw [b4, r6]
          repeat (refine hX _ _ _ _ ?_; conv => whnf)
          exact h
        · rw [if_pos q] at h
          repeat (refine hX _ _ _ _ ?_; conv => whnf)
          refine ⟨hin, ?_⟩
          rw [b4, r5]
          repeat (refine hX _ _ _ _ ?_; conv => whnf)
          exact h
      · rw [if_neg (by rw [e0, e, e5]; decide)] at h
        repeat (refine hX _ _ _ _ ?_; conv => whnf)
        refine ⟨fun h => absurd h (by decide), fun _ => ?_⟩
        repeat (refine hX _ _ _ _ ?_; conv => whnf)
        exact h D hC (fun _ _ => rfl)
    · rw [if_neg (by rw [e0, e]; simp)] at h
      repeat (refine hX _ _ _ _ ?_; conv => whnf)
      refine ⟨fun _ => ?_, fun h => absurd h (by decide)⟩
      repeat (refine hX _ _ _ _ ?_; conv => whnf)
      exact h D hC (fun _ _ => rfl)
  · rw [if_neg (by rw [e0]; simp)] at h
    repeat (refine hX _ _ _ _ ?_; conv => whnf)
    refine ⟨fun _ => ?_, fun h => absurd h (by decide)⟩
    repeat (refine hX _ _ _ _ ?_; conv => whnf)
    exact h D hC (fun _ _ => rfl)
set_option maxHeartbeats 2000000 in
theorem t_c_rests {N : Nat} {Ga : pm_Ga} (hbl : sp_becomeLike Ga) (hmv : sp_move Ga) : cs0 (pm_up N Ga) 63 r_rests := by
  intro z D post hz hC h
  have h1 : z_R D 0 (zG z) := hC.1
  have hG := hz.1
  unfold r_rests at h
  refine ⟨rfl, fun X hX => ?_⟩
  replace hX : ∀ pc L st D, pm_F N Ga tbX4_rests (some .int) post X pc L st D → X pc L st D := hX
  change X 0 [some (.ref 40), none] [] D
  repeat (refine hX _ _ _ _ ?_; conv => whnf)
  refine hbl 10 0 D _ (Or.inl ⟨rfl, rfl⟩) (fun D1 f1 f2 f3 f4 => ?_)
  have hR1 := z_like hG h1 f1
  iterate 2 (refine hX _ _ _ _ ?_; conv => whnf)
  have loop : ∀ (m t : Nat) (D2 : pm_Mem), t + m = 201 → z_R D2 10 (z_mvs (zG z) t) → (∀ r, (r < 10 ∨ 20 ≤ r) → D2 r = D r) → cP D (z_fst (fun t => z_still1 (z_mvs (zG z) t) (z_n (zG z))) m t, z) post → X 13 [some (.ref 40), some (.int (nI t))] [] D2 := by
    intro m
    induction m with
    | zero =>
      intro t D2 ht c1 c2 hp
      have ht : t = 201 := by omega
      subst ht
      repeat (refine hX _ _ _ _ ?_; conv => whnf)
      refine ⟨fun _ => ?_, fun q => absurd (by decide : (200 : Int32) < nI 201) q⟩
      repeat (refine hX _ _ _ _ ?_; conv => whnf)
      exact hp D2 (hC.same (fun r hr _ => c2 r (by omega))) (fun r hr => c2 r (by omega))
    | succ m ih =>
      intro t D2 ht c1 c2 hp
      obtain ⟨k1, k2⟩ := hG.mvs t (by omega)
      repeat (refine hX _ _ _ _ ?_; conv => whnf)
      refine ⟨fun q => absurd q (nI_nlt (a := 200) (b := t) (by omega) (by omega)), fun _ => ?_⟩
      repeat (refine hX _ _ _ _ ?_; conv => whnf)
      refine hmv 10 _ D2 _ _ (by decide) k1 c1 (fun D3 j1 j2 j3 j4 j5 j6 => ?_)
      have hfr : ∀ r, (r < 10 ∨ 20 ≤ r) → D3 r = D r := fun r hr => by rw [j2 r (by omega), c2 r hr]
      rw [k2] at j6
      have es := z_still1_iff (z_mvs (zG z) t) (z_n (zG z))
      have ef : z_fst (fun t => z_still1 (z_mvs (zG z) t) (z_n (zG z))) (m + 1) t = if z_still1 (z_mvs (zG z) t) (z_n (zG z)) = true then nI t else z_fst (fun t => z_still1 (z_mvs (zG z) t) (z_n (zG z))) m (t + 1) := rfl
      rw [ef] at hp
      repeat (refine hX _ _ _ _ ?_; conv => whnf)
      refine ⟨fun q => ?_, fun q => ?_⟩
      · have q1 : D3 10 15 = 1 := j5.elim (fun z => absurd z q) id
        rw [if_neg (fun z => es.mp z (j6.mp q1))] at hp
        iterate 2 (refine hX _ _ _ _ ?_; conv => whnf)
        rw [nI_1]
        exact ih (t + 1) D3 (by omega) j1 hfr hp
      · rw [if_pos (es.mpr (fun z => by have := j6.mpr z; rw [q] at this; exact absurd this (by decide)))] at hp
        repeat (refine hX _ _ _ _ ?_; conv => whnf)
        exact hp D3 (hC.same (fun r hr _ => hfr r (by omega))) (fun r hr => hfr r (by omega))
  exact loop 201 0 D1 (by omega) hR1 (fun r hr => f2 r (by omega)) h
def z_cmp (a b : Int32) : Int32 := if a < b then -1 else if a = b then 0 else 1
def sp_compare (Ga : pm_Ga) : Prop := ∀ (a b : Int32) (D : pm_Mem) (post : pm_Post), post (some (.int (z_cmp a b))) D → Ga 172 [.int a, .int b] D post
set_option maxHeartbeats 2000000 in
theorem t_compare {N : Nat} {Ga : pm_Ga} : sp_compare (pm_up N Ga) := by
  intro a b D post h
  unfold z_cmp at h
  refine ⟨rfl, fun X hX => ?_⟩
  replace hX : ∀ pc L st D, pm_F N Ga tbJ6_compare_7cf53 (some .int) post X pc L st D → X pc L st D := hX
  change X 0 [some (.int a), some (.int b)] [] D
  repeat (refine hX _ _ _ _ ?_; conv => whnf)
  refine ⟨fun q => ?_, fun q => ?_⟩
  · rw [if_neg (by rw [z_le] at q; rw [z_lt]; omega)] at h
    repeat (refine hX _ _ _ _ ?_; conv => whnf)
    refine ⟨fun q2 => ?_, fun q2 => ?_⟩
    · rw [if_neg q2] at h
      repeat (refine hX _ _ _ _ ?_; conv => whnf)
      exact h
    · rw [if_pos q2] at h
      repeat (refine hX _ _ _ _ ?_; conv => whnf)
      exact h
  · rw [if_pos (by rw [z_le] at q; rw [z_lt]; omega)] at h
    repeat (refine hX _ _ _ _ ?_; conv => whnf)
    exact h
theorem z_cmp_wh (p q v : Int32) : (z_cmp v q = 0 ∨ z_cmp v q ≠ z_cmp v p) ↔ z_wh p q v = true := by
  have m1 : (-1 : Int32).toInt = -1 := rfl
  have e0 : (0 : Int32).toInt = 0 := rfl
  have e1 : (1 : Int32).toInt = 1 := rfl
  unfold z_wh
  simp only [Bool.or_eq_true, Bool.and_eq_true, decide_eq_true_eq, z_eq, z_lt, z_le]
  have c : ∀ a b : Int32, (a.toInt < b.toInt ∧ (z_cmp a b).toInt = -1) ∨ (a.toInt = b.toInt ∧ (z_cmp a b).toInt = 0) ∨ (b.toInt < a.toInt ∧ (z_cmp a b).toInt = 1) := by
    intro a b
    unfold z_cmp
    by_cases h1 : a < b
    · rw [if_pos h1]; exact Or.inl ⟨z_lt.mp h1, rfl⟩
    · rw [if_neg h1]
      by_cases h2 : a = b
      · rw [if_pos h2]; exact Or.inr (Or.inl ⟨by rw [h2], rfl⟩)
      · rw [if_neg h2]
        rw [z_lt] at h1
        rw [z_eq] at h2
        exact Or.inr (Or.inr ⟨by omega, rfl⟩)
  have c1 := c v q
  have c2 := c v p
  rw [e0, ne_eq, z_eq]
  omega
set_option maxHeartbeats 2000000 in
theorem t_c_when {N : Nat} {Ga : pm_Ga} (hhas : sp_has Ga) (hwi : sp_within Ga) (hcm : sp_compare Ga) (hbl : sp_becomeLike Ga) (htk : sp_tickOnce Ga) : cs2 (pm_up N Ga) 62 r_when := by
  intro z b v D post hz hC h
  have h1 : z_R D 0 (zG z) := hC.1
  have hG := hz.1
  obtain ⟨g1, g2, g3, g4, g5, g6, g7, g8⟩ := hz.1
  unfold r_when at h
  refine ⟨rfl, fun X hX => ?_⟩
  replace hX : ∀ pc L st D, pm_F N Ga tbX4_when (some .int) post X pc L st D → X pc L st D := hX
  change X 0 [some (.ref 40), some (.int b), some (.int v), none, none, none] [] D
  repeat (refine hX _ _ _ _ ?_; conv => whnf)
  refine z_has hhas h1 g1 g2 (fun e0 => ?_) (fun e0 => ?_)
  · obtain ⟨b1, b2, b3, b4⟩ := z_isb_of e0 g2
    have hin : vp_in b 4 := by rw [b2]; exact vp_in_nI (by omega) (by decide)
    have hp0 : D 5 (z_nt b) = zG z (16 + z_nt b) := (z_Rb h1 b1).2.2.2.2.1
    repeat (refine hX _ _ _ _ ?_; conv => whnf)
    refine ⟨fun h => absurd h (by decide), fun _ => ?_⟩
    repeat (refine hX _ _ _ _ ?_; conv => whnf)
    refine w_ib hwi 0 300 rfl rfl (fun e => ?_) (fun e => ?_)
    · rw [if_pos (by rw [e0, e]; rfl)] at h
      repeat (refine hX _ _ _ _ ?_; conv => whnf)
      refine ⟨fun _ => ?_, fun h => absurd h (by decide)⟩
      repeat (refine hX _ _ _ _ ?_; conv => whnf)
      refine ⟨hin, ?_⟩
      rw [b4, hp0]
      repeat (refine hX _ _ _ _ ?_; conv => whnf)
      refine hcm _ _ _ _ ?_
      repeat (refine hX _ _ _ _ ?_; conv => whnf)
      refine hbl 10 0 D _ (Or.inl ⟨rfl, rfl⟩) (fun D1 f1 f2 f3 f4 => ?_)
      have hR1 := z_like hG h1 f1
      iterate 2 (refine hX _ _ _ _ ?_; conv => whnf)
      have loop : ∀ (m t : Nat) (D2 : pm_Mem) (l5 : Option Value), t + m = 201 → z_R D2 10 (z_run (zG z) t) → (∀ r, (r < 10 ∨ 20 ≤ r) → D2 r = D r) → cP D (z_fst (fun t => z_wh (zG z (16 + z_nt b)) (z_run (zG z) t (16 + z_nt b)) v) m t, z) post → X 52 [some (.ref 40), some (.int b), some (.int v), some (.int (z_cmp v (zG z (16 + z_nt b)))), some (.int (nI t)), l5] [] D2 := by
        intro m
        induction m with
        | zero =>
          intro t D2 l5 ht c1 c2 hp
          have ht : t = 201 := by omega
          subst ht
          repeat (refine hX _ _ _ _ ?_; conv => whnf)
          refine ⟨fun _ => ?_, fun q => absurd (by decide : (200 : Int32) < nI 201) q⟩
          repeat (refine hX _ _ _ _ ?_; conv => whnf)
          exact hp D2 (hC.same (fun r hr _ => c2 r (by omega))) (fun r hr => c2 r (by omega))
        | succ m ih =>
          intro t D2 l5 ht c1 c2 hp
          obtain ⟨k1, k2, k3⟩ := hG.run t (by omega)
          have hpt : D2 15 (z_nt b) = z_run (zG z) t (16 + z_nt b) := (z_Rb c1 (b := z_nt b) (by rw [k2]; exact b1)).2.2.2.2.1
          have ef : z_fst (fun t => z_wh (zG z (16 + z_nt b)) (z_run (zG z) t (16 + z_nt b)) v) (m + 1) t = if z_wh (zG z (16 + z_nt b)) (z_run (zG z) t (16 + z_nt b)) v = true then nI t else z_fst (fun t => z_wh (zG z (16 + z_nt b)) (z_run (zG z) t (16 + z_nt b)) v) m (t + 1) := rfl
          have ew := z_cmp_wh (zG z (16 + z_nt b)) (z_run (zG z) t (16 + z_nt b)) v
          rw [ef] at hp
          repeat (refine hX _ _ _ _ ?_; conv => whnf)
          refine ⟨fun q => absurd q (nI_nlt (a := 200) (b := t) (by omega) (by omega)), fun _ => ?_⟩
          repeat (refine hX _ _ _ _ ?_; conv => whnf)
          refine ⟨hin, ?_⟩
          rw [b4, hpt]
          repeat (refine hX _ _ _ _ ?_; conv => whnf)
          refine hcm _ _ _ _ ?_
          repeat (refine hX _ _ _ _ ?_; conv => whnf)
          refine ⟨fun q => ?_, fun q => ?_⟩
          · rw [if_pos (ew.mp (Or.inl q))] at hp
            repeat (refine hX _ _ _ _ ?_; conv => whnf)
            exact hp D2 (hC.same (fun r hr _ => c2 r (by omega))) (fun r hr => c2 r (by omega))
          · repeat (refine hX _ _ _ _ ?_; conv => whnf)
            refine ⟨fun q2 => ?_, fun q2 => ?_⟩
            · rw [if_neg (fun w => (ew.mpr w).elim q (fun w => w q2))] at hp
              repeat (refine hX _ _ _ _ ?_; conv => whnf)
              refine htk 10 _ D2 _ _ (by omega) (by decide) k1 c1 (fun D3 j1 j2 j3 j4 => ?_)
              iterate 2 (refine hX _ _ _ _ ?_; conv => whnf)
              rw [nI_1]
              exact ih (t + 1) D3 _ (by omega) j1 (fun r hr => by rw [j2 r (by omega), c2 r hr]) hp
            · rw [if_pos (ew.mp (Or.inr q2))] at hp
              repeat (refine hX _ _ _ _ ?_; conv => whnf)
              exact hp D2 (hC.same (fun r hr _ => c2 r (by omega))) (fun r hr => c2 r (by omega))
      exact loop 201 0 D1 none (by omega) hR1 (fun r hr => f2 r (by omega)) h
    · rw [if_neg (by rw [e0, e]; decide)] at h
      repeat (refine hX _ _ _ _ ?_; conv => whnf)
      refine ⟨fun h => absurd h (by decide), fun _ => ?_⟩
      repeat (refine hX _ _ _ _ ?_; conv => whnf)
      exact h D hC (fun _ _ => rfl)
  · rw [if_neg (by rw [e0]; simp)] at h
    repeat (refine hX _ _ _ _ ?_; conv => whnf)
    refine ⟨fun _ => ?_, fun h => absurd h (by decide)⟩
    repeat (refine hX _ _ _ _ ?_; conv => whnf)
    exact h D hC (fun _ _ => rfl)
