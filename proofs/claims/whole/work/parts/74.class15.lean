def z_wa (z : z_Z) (b : Nat) (l : Int32) (t : Nat) : Int32 := z_most l (fun s => z_run (z_up (zG z) (4 * 2 + b) (nI s)) t (16 + b)) 10
def r_ask (z : z_Z) (b w : Int32) : Int32 × z_Z := (if (z_isb (zG z) b && z_ib w 0 1) = true then z_pk2 (z_bst (z_wa z (z_nt b) (z_bits z 2 (z_nt b) 10)) 41 0 (-4) (z_bc (z_bits z 2 (z_nt b) 10))) w else -1, z)
set_option maxHeartbeats 4000000 in
theorem t_c_ask {N : Nat} {Ga : pm_Ga} (hhas : sp_has Ga) (hwi : sp_within Ga) (hab : sp_asSeenBits Ga) (hts : sp_traceStiffs Ga) (hbc : sp_bitCount Ga) (hma : sp_mostAlike Ga) : cs2 (pm_up N Ga) 84 r_ask := by
  intro z b w D post hz hC h
  have h1 : z_R D 0 (zG z) := hC.1
  unfold r_ask at h
  refine ⟨rfl, fun X hX => ?_⟩
  replace hX : ∀ pc L st D, pm_F N Ga tbX4_ask (some .int) post X pc L st D → X pc L st D := hX
  change X 0 [some (.ref 40), some (.int b), some (.int w), none, none, none, none, none] [] D
  repeat (refine hX _ _ _ _ ?_; conv => whnf)
  refine z_has hhas h1 hz.1.1 hz.1.2.1 (fun e0 => ?_) (fun e0 => ?_)
  · obtain ⟨b1, b2, b3, b4⟩ := z_isb_of e0 hz.1.2.1
    repeat (refine hX _ _ _ _ ?_; conv => whnf)
    refine ⟨fun h => absurd h (by decide), fun _ => ?_⟩
    repeat (refine hX _ _ _ _ ?_; conv => whnf)
    refine w_ib hwi 0 1 rfl rfl (fun e5 => ?_) (fun e5 => ?_)
    · rw [if_pos (by rw [e0, e5]; rfl)] at h
      repeat (refine hX _ _ _ _ ?_; conv => whnf)
      refine ⟨fun _ => ?_, fun h => absurd h (by decide)⟩
      repeat (refine hX _ _ _ _ ?_; conv => whnf)
      rw [b2]
      refine hab 2 z (z_nt b) D _ (Or.inr rfl) hz hC b1 (fun D1 f1 => ?_)
      have hC1 : CR D1 z := hC.same (fun r hr _ => f1 r (by omega))
      change X 28 _ [.int (z_bits z 2 (z_nt b) 10)] D1
      generalize z_bits z 2 (z_nt b) 10 = l at h ⊢
      repeat (refine hX _ _ _ _ ?_; conv => whnf)
      refine hts z (z_nt b) l D1 _ hz hC1 b1 (fun D2 f2 f3 => ?_)
      repeat (refine hX _ _ _ _ ?_; conv => whnf)
      refine hbc l D2 _ ?_
      iterate 5 (refine hX _ _ _ _ ?_; conv => whnf)
      have hC2 : CR D2 z := hC1.same (fun r hr hr2 => f2 r (by omega) (by omega))
      have hfr : ∀ r, 67 ≤ r → D2 r = D r := fun r hr => by rw [f2 r (by omega) (by omega)]; exact f1 r (by omega)
      have loop : ∀ (m t : Nat) (wh le : Int32) (l7 : Option Value), t + m = 41 → cP D (z_pk2 (z_bst (z_wa z (z_nt b) l) m t wh le) w, z) post → X 48 [some (.ref 40), some (.int (nI (z_nt b))), some (.int w), some (.int l), some (.int le), some (.int wh), some (.int (nI t)), l7] [] D2 := by
        intro m
        induction m with
        | zero =>
          intro t wh le l7 ht hp
          have ht : t = 41 := by omega
          subst ht
          have hp := hp D2 hC2 hfr
          change post (some (.int (if wh = -4 ∨ w = 0 then wh else le))) D2 at hp
          repeat (refine hX _ _ _ _ ?_; conv => whnf)
          refine ⟨fun _ => ?_, fun h => absurd h (by decide)⟩
          repeat (refine hX _ _ _ _ ?_; conv => whnf)
          refine ⟨fun q => ?_, fun q => ?_⟩
          · rw [if_pos (Or.inl q)] at hp
            repeat (refine hX _ _ _ _ ?_; conv => whnf)
            exact hp
          · repeat (refine hX _ _ _ _ ?_; conv => whnf)
            refine ⟨fun q2 => ?_, fun q2 => ?_⟩
            · rw [if_neg (by rintro (y | y); exact q y; exact q2 y)] at hp
              repeat (refine hX _ _ _ _ ?_; conv => whnf)
              exact hp
            · rw [if_pos (Or.inr q2)] at hp
              repeat (refine hX _ _ _ _ ?_; conv => whnf)
              exact hp
        | succ m ih =>
          intro t wh le l7 ht hp
          have ef : z_bst (z_wa z (z_nt b) l) (m + 1) t wh le = if z_wa z (z_nt b) l t < le then z_bst (z_wa z (z_nt b) l) m (t + 1) (nI t) (z_wa z (z_nt b) l t) else z_bst (z_wa z (z_nt b) l) m (t + 1) wh le := rfl
          rw [ef] at hp
          repeat (refine hX _ _ _ _ ?_; conv => whnf)
          refine ⟨fun q => absurd q (nI_nlt (a := 40) (by omega) (by omega)), fun _ => ?_⟩
          repeat (refine hX _ _ _ _ ?_; conv => whnf)
          refine hma l t (fun s => z_run (z_up (zG z) (4 * 2 + z_nt b) (nI s)) t (16 + z_nt b)) D2 _ (by omega) (fun s hs hb => f3 s t hs (by omega) hb) ?_
          change X 62 _ [.int (z_wa z (z_nt b) l t)] D2
          repeat (refine hX _ _ _ _ ?_; conv => whnf)
          refine ⟨fun q => ?_, fun q => ?_⟩
          · rw [if_neg (by rw [z_lt]; have := z_le.mp q; omega)] at hp
            iterate 2 (refine hX _ _ _ _ ?_; conv => whnf)
            rw [nI_1]
            exact ih (t + 1) _ _ _ (by omega) hp
          · have q3 : ¬ le.toInt ≤ (z_wa z (z_nt b) l t).toInt := fun y => q (z_le.mpr y)
            rw [if_pos (by rw [z_lt]; omega)] at hp
            iterate 6 (refine hX _ _ _ _ ?_; conv => whnf)
            rw [nI_1]
            exact ih (t + 1) _ _ _ (by omega) hp
      exact loop 41 0 (-4) (z_bc l) none (by omega) h
    · rw [if_neg (by rw [e0, e5]; decide)] at h
      repeat (refine hX _ _ _ _ ?_; conv => whnf)
      refine ⟨fun h => absurd h (by decide), fun _ => ?_⟩
      repeat (refine hX _ _ _ _ ?_; conv => whnf)
      exact h D hC (fun _ _ => rfl)
  · rw [if_neg (by rw [e0]; simp)] at h
    repeat (refine hX _ _ _ _ ?_; conv => whnf)
    refine ⟨fun _ => ?_, fun h => absurd h (by decide)⟩
    repeat (refine hX _ _ _ _ ?_; conv => whnf)
    exact h D hC (fun _ _ => rfl)
