def sp_swingAsItIs (Ga : pm_Ga) : Prop := ∀ (n : Nat) (g : z_P) (D : pm_Mem) (post : pm_Post), n ≤ 100 → z_G 9999 g → z_R D 0 g → (∀ D', (∀ r, (r < 10 ∨ 20 ≤ r) → D' r = D r) → post (some (.int (z_wid g n))) D') → Ga 70 [.ref 40, .int (nI n)] D post
set_option maxHeartbeats 2000000 in
theorem t_swingAsItIs {N : Nat} {Ga : pm_Ga} (hbl : sp_becomeLike Ga) (hgs : sp_greatestSwing Ga) : sp_swingAsItIs (pm_up N Ga) := by
  intro n g D post hn hG hR h
  refine ⟨rfl, fun X hX => ?_⟩
  replace hX : ∀ pc L st D, pm_F N Ga tbX4_swingAsItIs (some .int) post X pc L st D → X pc L st D := hX
  change X 0 [some (.ref 40), some (.int (nI n))] [] D
  repeat (refine hX _ _ _ _ ?_; conv => whnf)
  refine hbl 10 0 D _ (Or.inl ⟨rfl, rfl⟩) (fun D1 f1 f2 f3 f4 => ?_)
  have hR1 := z_like hG hR f1
  repeat (refine hX _ _ _ _ ?_; conv => whnf)
  refine hgs 10 n 301 g D1 _ 9999 (by omega) (by omega) (by decide) hG hR1 (fun m D2 hm hm2 c1 c2 c3 c4 => ?_)
  have hmn : m = n := by
    rcases hm2 with q | q
    · exact q
    · have := (z_wid_in hG m (by omega)).2
      rw [z_le] at q
      have q : (301 : Int) ≤ _ := q
      omega
  subst hmn
  repeat (refine hX _ _ _ _ ?_; conv => whnf)
  exact h D2 (fun r hr => by rw [c2 r (by omega), f2 r (by omega)])
/-- a try with an end: what it says of 'less than l' is what the whole run says -/
theorem z_less {g : z_P} {m n : Nat} {l : Int32} (hm : m ≤ n) (h : m = n ∨ l ≤ z_wid g m) : (l ≤ z_wid g m → ¬ z_wid g n < l) ∧ (¬ l ≤ z_wid g m → z_wid g n < l ∧ m = n) := by
  have hmono := z_wid_mono g m (n - m)
  rw [show m + (n - m) = n by omega, z_le] at hmono
  refine ⟨fun q => ?_, fun q => ?_⟩
  · rw [z_le] at q
    rw [z_lt]
    omega
  · have e : m = n := h.elim id (fun z => absurd z q)
    subst e
    rw [z_le] at q
    exact ⟨by rw [z_lt]; omega, rfl⟩
set_option maxHeartbeats 4000000 in
theorem t_c_miss {N : Nat} {Ga : pm_Ga} (hwi : sp_within Ga) (hsw : sp_swingAsItIs Ga) (hbl : sp_becomeLike Ga) (hgs : sp_greatestSwing Ga) : cs2 (pm_up N Ga) 69 r_miss := by
  intro z n w D post hz hC h
  have h1 : z_R D 0 (zG z) := hC.1
  have hG := hz.1
  obtain ⟨g1, g2, g3, g4, g5, g6, g7, g8⟩ := hz.1
  unfold r_miss at h
  refine ⟨rfl, fun X hX => ?_⟩
  replace hX : ∀ pc L st D, pm_F N Ga tbX4_miss (some .int) post X pc L st D → X pc L st D := hX
  change X 0 [some (.ref 40), some (.int n), some (.int w), none, none, none, none] [] D
  repeat (refine hX _ _ _ _ ?_; conv => whnf)
  refine w_ib hwi 0 100 rfl rfl (fun e => ?_) (fun e => ?_)
  · obtain ⟨e1, e2, e3, e4⟩ := z_ib_of e (by decide) (by decide)
    repeat (refine hX _ _ _ _ ?_; conv => whnf)
    refine ⟨fun h => absurd h (by decide), fun _ => ?_⟩
    repeat (refine hX _ _ _ _ ?_; conv => whnf)
    refine w_ib hwi 0 1 rfl rfl (fun e5 => ?_) (fun e5 => ?_)
    · rw [if_pos (by rw [e, e5]; rfl)] at h
      repeat (refine hX _ _ _ _ ?_; conv => whnf)
      refine ⟨fun _ => ?_, fun h => absurd h (by decide)⟩
      repeat (refine hX _ _ _ _ ?_; conv => whnf)
      rw [e1]
      refine hsw (z_nt n) (zG z) D _ (by omega) hG h1 (fun D0 f0 => ?_)
      rw [← e1]
      iterate 5 (refine hX _ _ _ _ ?_; conv => whnf)
      have loop : ∀ (m i : Nat) (wh l : Int32) (D1 : pm_Mem) (l6 : Option Value), i + m = z_k (zG z) → (∀ r, (r < 10 ∨ 20 ≤ r) → D1 r = D r) → cP D (z_pk2 (z_bst (fun i => z_wid (z_up (zG z) (37 + i) 0) (z_nt n)) m i wh l) w, z) post → X 34 [some (.ref 40), some (.int n), some (.int w), some (.int l), some (.int wh), some (.int (nI i)), l6] [] D1 := by
        intro m
        induction m with
        | zero =>
          intro i wh l D1 l6 hi f1 hp
          have hp := hp D1 (hC.same (fun r hr _ => f1 r (by omega))) (fun r hr => f1 r (by omega))
          have hi : i = z_k (zG z) := by omega
          repeat (refine hX _ _ _ _ ?_; conv => whnf)
          rw [f1 0 (by omega), h1.2.1, g3, hi]
          refine ⟨fun _ => ?_, fun q => absurd (nI_le (Nat.le_refl _) (by omega)) q⟩
          repeat (refine hX _ _ _ _ ?_; conv => whnf)
          replace hp : post (some (.int (if wh = -4 ∨ w = 0 then wh else l))) D1 := hp
          refine ⟨fun q => ?_, fun q => ?_⟩
          · rw [if_pos (Or.inl q)] at hp
            repeat (refine hX _ _ _ _ ?_; conv => whnf)
            exact hp
          · repeat (refine hX _ _ _ _ ?_; conv => whnf)
            refine ⟨fun q2 => ?_, fun q2 => ?_⟩
            · rw [if_neg (fun o => o.elim q q2)] at hp
              repeat (refine hX _ _ _ _ ?_; conv => whnf)
              exact hp
            · rw [if_pos (Or.inr q2)] at hp
              repeat (refine hX _ _ _ _ ?_; conv => whnf)
              exact hp
        | succ m ih =>
          intro i wh l D1 l6 hi f1 hp
          have hik : i < z_k (zG z) := by omega
          have hR1 : z_R D1 0 (zG z) := h1.same (fun r _ _ => f1 r (by omega))
          obtain ⟨j1, j2, j3⟩ := hG.by0 hik
          have ef : z_bst (fun i => z_wid (z_up (zG z) (37 + i) 0) (z_nt n)) (m + 1) i wh l = if z_wid (z_up (zG z) (37 + i) 0) (z_nt n) < l then z_bst (fun i => z_wid (z_up (zG z) (37 + i) 0) (z_nt n)) m (i + 1) (nI i) (z_wid (z_up (zG z) (37 + i) 0) (z_nt n)) else z_bst (fun i => z_wid (z_up (zG z) (37 + i) 0) (z_nt n)) m (i + 1) wh l := rfl
          rw [ef] at hp
          repeat (refine hX _ _ _ _ ?_; conv => whnf)
          rw [f1 0 (by omega), h1.2.1, g3]
          refine ⟨fun q => absurd q (nI_ge (by omega) (by omega)), fun _ => ?_⟩
          repeat (refine hX _ _ _ _ ?_; conv => whnf)
          refine hbl 10 0 D1 _ (Or.inl ⟨rfl, rfl⟩) (fun D2 k1 k2 k3 k4 => ?_)
          have hR2 := z_like hG hR1 k1
          repeat (refine hX _ _ _ _ ?_; conv => whnf)
          refine ⟨by decide, vp_in_nI (by omega) (by decide), ?_⟩
          rw [nI_clamp (by omega)]
          have hR3 : z_R (pm_mu D2 18 i 0) 10 (z_up (zG z) (37 + i) 0) := by
            obtain ⟨a1, a2, a3, a4, a5, a6⟩ := hR2
            refine ⟨?_, ?_, ?_, ?_, fun b hb => ?_, fun q hq => ?_⟩
            · rw [pm_mu_r _ _ _ _ (by decide), z_up_ne _ _ (by omega)]; exact a1
            · rw [pm_mu_r _ _ _ _ (by decide), z_up_ne _ _ (by omega)]; exact a2
            · rw [pm_mu_r _ _ _ _ (by decide), z_up_ne _ _ (by omega)]; exact a3
            · rw [pm_mu_r _ _ _ _ (by decide), z_up_ne _ _ (by omega)]; exact a4
            · rw [j2] at hb
              simp only [pm_mu_eq, Nat.reduceAdd, Nat.reduceEqDiff, if_false]
              rw [z_up_ne _ _ (show b ≠ 37 + i by omega), z_up_ne _ _ (show 4 + b ≠ 37 + i by omega), z_up_ne _ _ (show 8 + b ≠ 37 + i by omega), z_up_ne _ _ (show 12 + b ≠ 37 + i by omega), z_up_ne _ _ (show 16 + b ≠ 37 + i by omega), z_up_ne _ _ (show 20 + b ≠ 37 + i by omega)]
              exact a5 b hb
            · rw [j3] at hq
              obtain ⟨b1, b2⟩ := a6 q hq
              simp only [pm_mu_eq, Nat.reduceAdd, Nat.reduceEqDiff, if_true, if_false]
              rw [z_up_ne _ _ (show 25 + q ≠ 37 + i by omega)]
              by_cases e : q = i
              · rw [if_pos e, e, z_up_at, ← e]
                exact ⟨b1, rfl⟩
              · rw [if_neg e, z_up_ne _ _ (by omega)]
                exact ⟨b1, b2⟩
          repeat (refine hX _ _ _ _ ?_; conv => whnf)
          rw [e1]
          refine hgs 10 (z_nt n) l _ _ _ 9999 (by omega) (by omega) (by decide) j1 hR3 (fun mm D3 hm hm2 c1 c2 c3 c4 => ?_)
          rw [← e1]
          have hfr : ∀ r, (r < 10 ∨ 20 ≤ r) → D3 r = D r := fun r hr => by rw [c2 r (by omega), pm_mu_ne _ _ _ (by omega), k2 r (by omega), f1 r hr]
          obtain ⟨t1, t2⟩ := z_less hm hm2
          repeat (refine hX _ _ _ _ ?_; conv => whnf)
          refine ⟨fun q => ?_, fun q => ?_⟩
          · rw [if_neg (t1 q)] at hp
            iterate 2 (refine hX _ _ _ _ ?_; conv => whnf)
            rw [nI_1]
            exact ih (i + 1) wh l D3 _ (by omega) hfr hp
          · rw [if_pos (t2 q).1] at hp
            iterate 6 (refine hX _ _ _ _ ?_; conv => whnf)
            rw [nI_1, (t2 q).2]
            exact ih (i + 1) _ _ D3 _ (by omega) hfr hp
      exact loop (z_k (zG z)) 0 _ _ D0 none (by omega) f0 h
    · rw [if_neg (by rw [e, e5]; decide)] at h
      repeat (refine hX _ _ _ _ ?_; conv => whnf)
      refine ⟨fun h => absurd h (by decide), fun _ => ?_⟩
      repeat (refine hX _ _ _ _ ?_; conv => whnf)
      exact h D hC (fun _ _ => rfl)
  · rw [if_neg (by rw [e]; simp)] at h
    repeat (refine hX _ _ _ _ ?_; conv => whnf)
    refine ⟨fun _ => ?_, fun h => absurd h (by decide)⟩
    repeat (refine hX _ _ _ _ ?_; conv => whnf)
    exact h D hC (fun _ _ => rfl)
set_option maxHeartbeats 4000000 in
theorem t_c_swap {N : Nat} {Ga : pm_Ga} (hwi : sp_within Ga) (hsw : sp_swingAsItIs Ga) (hbl : sp_becomeLike Ga) (hcp : sp_changePlaces Ga) (hgs : sp_greatestSwing Ga) : cs2 (pm_up N Ga) 68 r_swap := by
  intro z n w D post hz hC h
  have h1 : z_R D 0 (zG z) := hC.1
  have hG := hz.1
  obtain ⟨g1, g2, g3, g4, g5, g6, g7, g8⟩ := hz.1
  unfold r_swap at h
  refine ⟨rfl, fun X hX => ?_⟩
  replace hX : ∀ pc L st D, pm_F N Ga tbX4_swap (some .int) post X pc L st D → X pc L st D := hX
  change X 0 [some (.ref 40), some (.int n), some (.int w), none, none, none, none, none] [] D
  repeat (refine hX _ _ _ _ ?_; conv => whnf)
  refine w_ib hwi 0 100 rfl rfl (fun e => ?_) (fun e => ?_)
  · obtain ⟨e1, e2, e3, e4⟩ := z_ib_of e (by decide) (by decide)
    repeat (refine hX _ _ _ _ ?_; conv => whnf)
    refine ⟨fun h => absurd h (by decide), fun _ => ?_⟩
    repeat (refine hX _ _ _ _ ?_; conv => whnf)
    refine w_ib hwi 0 1 rfl rfl (fun e5 => ?_) (fun e5 => ?_)
    · rw [if_pos (by rw [e, e5]; rfl)] at h
      repeat (refine hX _ _ _ _ ?_; conv => whnf)
      refine ⟨fun _ => ?_, fun h => absurd h (by decide)⟩
      repeat (refine hX _ _ _ _ ?_; conv => whnf)
      rw [e1]
      refine hsw (z_nt n) (zG z) D _ (by omega) hG h1 (fun D0 f0 => ?_)
      rw [← e1]
      iterate 5 (refine hX _ _ _ _ ?_; conv => whnf)
      generalize hf : (fun i j => z_wid (z_swp (zG z) i j) (z_nt n)) = f at h
      have outer : ∀ (m i : Nat) (wh l : Int32) (D1 : pm_Mem) (l6 l7 : Option Value), i + m = z_k (zG z) → (∀ r, (r < 10 ∨ 20 ≤ r) → D1 r = D r) → cP D (z_pk2 (z_bout f (z_k (zG z)) m i wh l) w, z) post → X 34 [some (.ref 40), some (.int n), some (.int w), some (.int l), some (.int wh), some (.int (nI i)), l6, l7] [] D1 := by
        intro m
        induction m with
        | zero =>
          intro i wh l D1 l6 l7 hi f1 hp
          have hp := hp D1 (hC.same (fun r hr _ => f1 r (by omega))) (fun r hr => f1 r (by omega))
          have hi : i = z_k (zG z) := by omega
          repeat (refine hX _ _ _ _ ?_; conv => whnf)
          rw [f1 0 (by omega), h1.2.1, g3, hi]
          refine ⟨fun _ => ?_, fun q => absurd (nI_le (Nat.le_refl _) (by omega)) q⟩
          repeat (refine hX _ _ _ _ ?_; conv => whnf)
          replace hp : post (some (.int (if wh = -4 ∨ w = 0 then wh else l))) D1 := hp
          refine ⟨fun q => ?_, fun q => ?_⟩
          · rw [if_pos (Or.inl q)] at hp
            repeat (refine hX _ _ _ _ ?_; conv => whnf)
            exact hp
          · repeat (refine hX _ _ _ _ ?_; conv => whnf)
            refine ⟨fun q2 => ?_, fun q2 => ?_⟩
            · rw [if_neg (fun o => o.elim q q2)] at hp
              repeat (refine hX _ _ _ _ ?_; conv => whnf)
              exact hp
            · rw [if_pos (Or.inr q2)] at hp
              repeat (refine hX _ _ _ _ ?_; conv => whnf)
              exact hp
        | succ m ih =>
          intro i wh l D1 l6 l7 hi f1 hp
          have hik : i < z_k (zG z) := by omega
          have ef : z_bout f (z_k (zG z)) (m + 1) i wh l = z_bout f (z_k (zG z)) m (i + 1) (z_bin f i (z_k (zG z) - (i + 1)) (i + 1) wh l).1 (z_bin f i (z_k (zG z) - (i + 1)) (i + 1) wh l).2 := rfl
          rw [ef] at hp
          repeat (refine hX _ _ _ _ ?_; conv => whnf)
          rw [f1 0 (by omega), h1.2.1, g3]
          refine ⟨fun q => absurd q (nI_ge (by omega) (by omega)), fun _ => ?_⟩
          iterate 4 (refine hX _ _ _ _ ?_; conv => whnf)
          rw [nI_1]
          have inner : ∀ (mm j : Nat) (wh l : Int32) (D2 : pm_Mem) (l7 : Option Value), j + mm = z_k (zG z) → i < j → (∀ r, (r < 10 ∨ 20 ≤ r) → D2 r = D r) → cP D (z_pk2 (z_bout f (z_k (zG z)) m (i + 1) (z_bin f i mm j wh l).1 (z_bin f i mm j wh l).2) w, z) post → X 52 [some (.ref 40), some (.int n), some (.int w), some (.int l), some (.int wh), some (.int (nI i)), some (.int (nI j)), l7] [] D2 := by
            intro mm
            induction mm with
            | zero =>
              intro j wh l D2 l7 hj hij f2 hp
              have hj : j = z_k (zG z) := by omega
              repeat (refine hX _ _ _ _ ?_; conv => whnf)
              rw [f2 0 (by omega), h1.2.1, g3, hj]
              refine ⟨fun _ => ?_, fun q => absurd (nI_le (Nat.le_refl _) (by omega)) q⟩
              iterate 2 (refine hX _ _ _ _ ?_; conv => whnf)
              rw [nI_1]
              exact ih (i + 1) wh l D2 _ _ (by omega) f2 hp
            | succ mm ihh =>
              intro j wh l D2 l7 hj hij f2 hp
              have hR2 : z_R D2 0 (zG z) := h1.same (fun r _ _ => f2 r (by omega))
              obtain ⟨j1, j2, j3, j4⟩ := hG.swp hij (show j < z_k (zG z) by omega)
              have efi : z_bin f i (mm + 1) j wh l = if f i j < l then z_bin f i mm (j + 1) (100 * nI i + nI j) (f i j) else z_bin f i mm (j + 1) wh l := rfl
              have efj : f i j = z_wid (z_swp (zG z) i j) (z_nt n) := by rw [← hf]
              rw [efi, efj] at hp
              repeat (refine hX _ _ _ _ ?_; conv => whnf)
              rw [f2 0 (by omega), h1.2.1, g3]
              refine ⟨fun q => absurd q (nI_ge (by omega) (by omega)), fun _ => ?_⟩
              repeat (refine hX _ _ _ _ ?_; conv => whnf)
              refine hbl 10 0 D2 _ (Or.inl ⟨rfl, rfl⟩) (fun D3 k1 k2 k3 k4 => ?_)
              have hR3 := z_like hG hR2 k1
              repeat (refine hX _ _ _ _ ?_; conv => whnf)
              refine hcp i j (zG z) D3 _ hR3 g2 g4 hij (by omega) (fun D4 s1 s2 s3 => ?_)
              repeat (refine hX _ _ _ _ ?_; conv => whnf)
              rw [e1]
              refine hgs 10 (z_nt n) l _ _ _ 9999 (by omega) (by omega) (by decide) j1 s1 (fun mq D5 hm hm2 c1 c2 c3 c4 => ?_)
              rw [← e1]
              have hfr : ∀ r, (r < 10 ∨ 20 ≤ r) → D5 r = D r := fun r hr => by rw [c2 r (by omega), s2 r (by omega), k2 r (by omega), f2 r hr]
              obtain ⟨t1, t2⟩ := z_less hm hm2
              repeat (refine hX _ _ _ _ ?_; conv => whnf)
              refine ⟨fun q => ?_, fun q => ?_⟩
              · rw [if_neg (t1 q)] at hp
                iterate 2 (refine hX _ _ _ _ ?_; conv => whnf)
                rw [nI_1]
                exact ihh (j + 1) wh l D5 _ (by omega) (by omega) hfr hp
              · rw [if_pos (t2 q).1] at hp
                iterate 10 (refine hX _ _ _ _ ?_; conv => whnf)
                rw [nI_1, (t2 q).2]
                exact ihh (j + 1) _ _ D5 _ (by omega) (by omega) hfr hp
          exact inner _ (i + 1) wh l D1 _ (by omega) (by omega) f1 hp
      exact outer (z_k (zG z)) 0 _ _ D0 none none (by omega) f0 h
    · rw [if_neg (by rw [e, e5]; decide)] at h
      repeat (refine hX _ _ _ _ ?_; conv => whnf)
      refine ⟨fun h => absurd h (by decide), fun _ => ?_⟩
      repeat (refine hX _ _ _ _ ?_; conv => whnf)
      exact h D hC (fun _ _ => rfl)
  · rw [if_neg (by rw [e]; simp)] at h
    repeat (refine hX _ _ _ _ ?_; conv => whnf)
    refine ⟨fun _ => ?_, fun h => absurd h (by decide)⟩
    repeat (refine hX _ _ _ _ ?_; conv => whnf)
    exact h D hC (fun _ _ => rfl)
