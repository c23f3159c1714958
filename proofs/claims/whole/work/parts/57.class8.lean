def sp_imageOf (Ga : pm_Ga) : Prop := (∀ (D : pm_Mem) (post : pm_Post), post (some (.ref 20)) D → Ga 91 [.ref 40, .int 0] D post) ∧ ∀ (D : pm_Mem) (post : pm_Post), post (some (.ref 30)) D → Ga 91 [.ref 40, .int 1] D post
set_option maxHeartbeats 2000000 in
theorem t_imageOf0 {N : Nat} {Ga : pm_Ga} (D : pm_Mem) (post : pm_Post) (h : post (some (.ref 20)) D) : pm_up N Ga 91 [.ref 40, .int 0] D post := by
  refine ⟨rfl, fun X hX => ?_⟩
  replace hX : ∀ pc L st D, pm_F N Ga tbX4_imageOf (some (.object "SpringBeads$Chain")) post X pc L st D → X pc L st D := hX
  change X 0 [some (.ref 40), some (.int 0)] [] D
  repeat (refine hX _ _ _ _ ?_; conv => whnf)
  refine ⟨fun h => absurd h (by decide), fun _ => ?_⟩
  repeat (refine hX _ _ _ _ ?_; conv => whnf)
  exact h
set_option maxHeartbeats 2000000 in
theorem t_imageOf1 {N : Nat} {Ga : pm_Ga} (D : pm_Mem) (post : pm_Post) (h : post (some (.ref 30)) D) : pm_up N Ga 91 [.ref 40, .int 1] D post := by
  refine ⟨rfl, fun X hX => ?_⟩
  replace hX : ∀ pc L st D, pm_F N Ga tbX4_imageOf (some (.object "SpringBeads$Chain")) post X pc L st D → X pc L st D := hX
  change X 0 [some (.ref 40), some (.int 1)] [] D
  repeat (refine hX _ _ _ _ ?_; conv => whnf)
  refine ⟨fun _ => ?_, fun h => absurd h (by decide)⟩
  repeat (refine hX _ _ _ _ ?_; conv => whnf)
  exact h
theorem t_imageOf {N : Nat} {Ga : pm_Ga} : sp_imageOf (pm_up N Ga) := ⟨t_imageOf0, t_imageOf1⟩
def sp_isNothing (Ga : pm_Ga) : Prop := ∀ (k : Nat) (D : pm_Mem) (post : pm_Post), k < 4 → (D 50 k = -1 → post (some (.int 1)) D) → (D 50 k ≠ -1 → post (some (.int 0)) D) → Ga 26 [.ref 48, .int (nI k)] D post
set_option maxHeartbeats 2000000 in
theorem t_isNothing {N : Nat} {Ga : pm_Ga} : sp_isNothing (pm_up N Ga) := by
  intro k D post hk h1 h0
  refine ⟨rfl, fun X hX => ?_⟩
  replace hX : ∀ pc L st D, pm_F N Ga tbX2_isNothing (some .boolean) post X pc L st D → X pc L st D := hX
  change X 0 [some (.ref 48), some (.int (nI k))] [] D
  repeat (refine hX _ _ _ _ ?_; conv => whnf)
  refine ⟨vp_in_nI hk (by decide), ?_⟩
  repeat (refine hX _ _ _ _ ?_; conv => whnf)
  rw [nI_clamp (by omega)]
  refine ⟨fun q => ?_, fun q => ?_⟩
  · repeat (refine hX _ _ _ _ ?_; conv => whnf)
    exact ⟨Or.inl rfl, h0 q⟩
  · repeat (refine hX _ _ _ _ ?_; conv => whnf)
    exact ⟨Or.inr rfl, h1 q⟩
theorem z_bi_0 {b : Bool} : z_bi b = 0 ↔ b = false := by cases b <;> decide
set_option maxHeartbeats 4000000 in
theorem t_c_keep {N : Nat} {Ga : pm_Ga} (hwi : sp_within Ga) (him : sp_imageOf Ga) (hbl : sp_becomeLike Ga) : cs1 (pm_up N Ga) 89 r_keep := by
  intro z k D post hz hC h
  obtain ⟨k0, k1, k2, k3⟩ := hC.2.1
  have g2 := hz.1.2.1
  have g4 := hz.1.2.2.2.1
  unfold r_keep at h
  refine ⟨rfl, fun X hX => ?_⟩
  replace hX : ∀ pc L st D, pm_F N Ga tbX4_keep (some .int) post X pc L st D → X pc L st D := hX
  change X 0 [some (.ref 40), some (.int k), none] [] D
  repeat (refine hX _ _ _ _ ?_; conv => whnf)
  refine w_ib hwi 0 1 rfl rfl (fun e => ?_) (fun e => ?_)
  · rw [if_pos e] at h
    have v0 : vp_in 0 2 := vp_in_nI (show 0 < 2 by decide) (by decide)
    have v1 : vp_in 1 2 := vp_in_nI (show 1 < 2 by decide) (by decide)
    have c0 : Int32.toNatClampNeg 0 = 0 := rfl
    have c1 : Int32.toNatClampNeg 1 = 1 := rfl
    have nb : vp_nar FieldType.boolean 1 = 1 := rfl
    rcases z_two e with rfl | rfl
    · repeat (refine hX _ _ _ _ ?_; conv => whnf)
      refine ⟨fun _ => ?_, fun h => absurd h (by decide)⟩
      repeat (refine hX _ _ _ _ ?_; conv => whnf)
      refine ⟨v0, ?_⟩
      repeat (refine hX _ _ _ _ ?_; conv => whnf)
      have fin : ∀ (D' : pm_Mem), (∀ g, z_n g ≤ 4 → z_k g ≤ 12 → z_R D 0 g → z_R D' 20 g) → z_F 20 D D' → post (some (.int (z_bi (zK z 0)))) (pm_mu D' 41 0 1) := by
        intro D' q1 q2
        have eb : ∀ r, r < 20 ∨ 30 ≤ r → r ≠ 41 → pm_mu D' 41 0 1 r = D r := fun r h1 h2 => by rw [pm_mu_ne _ _ _ h2]; exact q2 r (by omega)
        have en := (q1 _ g2 g4 hC.1).same (D' := pm_mu D' 41 0 1) (fun r _ _ => pm_mu_ne _ _ _ (by omega))
        have e41 : D' 41 = D 41 := q2 41 (by decide)
        refine h _ (hC.img ⟨?_, ?_, fun q => ?_, fun q => ?_⟩ (fun r h1 h2 => eb r (by omega) h2)) (fun r hr => eb r (by omega) (by omega))
        · first | exact pm_mu_at _ _ _ _ | (rw [pm_mu_k _ _ _ _ (by decide), e41]; exact k0)
        · first | exact pm_mu_at _ _ _ _ | (rw [pm_mu_k _ _ _ _ (by decide), e41]; exact k1)
        · first | exact en | exact (k2 q).same (fun r _ _ => eb r (by omega) (by omega))
        · first | exact en | exact (k3 q).same (fun r _ _ => eb r (by omega) (by omega))
      have go : X 26 [some (.ref 40), some (.int 0), some (.int (z_bi (zK z 0)))] [] D := by
        repeat (refine hX _ _ _ _ ?_; conv => whnf)
        first | refine him.1 _ _ ?_ | refine him.2 _ _ ?_
        repeat (refine hX _ _ _ _ ?_; conv => whnf)
        refine hbl 20 0 _ _ (by decide) (fun D' q1 q2 _ _ => ?_)
        repeat (refine hX _ _ _ _ ?_; conv => whnf)
        rw [c0, nb]
        refine ⟨by decide, v0, ?_⟩
        repeat (refine hX _ _ _ _ ?_; conv => whnf)
        exact fin D' q1 q2
      rw [c0, k0]
      generalize zK z 0 = u at go
      refine ⟨fun q => ?_, fun q => ?_⟩
      · iterate 2 (refine hX _ _ _ _ ?_; conv => whnf)
        rw [q] at go
        exact go
      · iterate 3 (refine hX _ _ _ _ ?_; conv => whnf)
        cases u
        · exact absurd rfl q
        · exact go
    · repeat (refine hX _ _ _ _ ?_; conv => whnf)
      refine ⟨fun _ => ?_, fun h => absurd h (by decide)⟩
      repeat (refine hX _ _ _ _ ?_; conv => whnf)
      refine ⟨v1, ?_⟩
      repeat (refine hX _ _ _ _ ?_; conv => whnf)
      have fin : ∀ (D' : pm_Mem), (∀ g, z_n g ≤ 4 → z_k g ≤ 12 → z_R D 0 g → z_R D' 30 g) → z_F 30 D D' → post (some (.int (z_bi (zK z 1)))) (pm_mu D' 41 1 1) := by
        intro D' q1 q2
        have eb : ∀ r, r < 30 ∨ 40 ≤ r → r ≠ 41 → pm_mu D' 41 1 1 r = D r := fun r h1 h2 => by rw [pm_mu_ne _ _ _ h2]; exact q2 r (by omega)
        have en := (q1 _ g2 g4 hC.1).same (D' := pm_mu D' 41 1 1) (fun r _ _ => pm_mu_ne _ _ _ (by omega))
        have e41 : D' 41 = D 41 := q2 41 (by decide)
        refine h _ (hC.img ⟨?_, ?_, fun q => ?_, fun q => ?_⟩ (fun r h1 h2 => eb r (by omega) h2)) (fun r hr => eb r (by omega) (by omega))
        · first | exact pm_mu_at _ _ _ _ | (rw [pm_mu_k _ _ _ _ (by decide), e41]; exact k0)
        · first | exact pm_mu_at _ _ _ _ | (rw [pm_mu_k _ _ _ _ (by decide), e41]; exact k1)
        · first | exact en | exact (k2 q).same (fun r _ _ => eb r (by omega) (by omega))
        · first | exact en | exact (k3 q).same (fun r _ _ => eb r (by omega) (by omega))
      have go : X 26 [some (.ref 40), some (.int 1), some (.int (z_bi (zK z 1)))] [] D := by
        repeat (refine hX _ _ _ _ ?_; conv => whnf)
        first | refine him.1 _ _ ?_ | refine him.2 _ _ ?_
        repeat (refine hX _ _ _ _ ?_; conv => whnf)
        refine hbl 30 0 _ _ (by decide) (fun D' q1 q2 _ _ => ?_)
        repeat (refine hX _ _ _ _ ?_; conv => whnf)
        rw [c1, nb]
        refine ⟨by decide, v1, ?_⟩
        repeat (refine hX _ _ _ _ ?_; conv => whnf)
        exact fin D' q1 q2
      rw [c1, k1]
      generalize zK z 1 = u at go
      refine ⟨fun q => ?_, fun q => ?_⟩
      · iterate 2 (refine hX _ _ _ _ ?_; conv => whnf)
        rw [q] at go
        exact go
      · iterate 3 (refine hX _ _ _ _ ?_; conv => whnf)
        cases u
        · exact absurd rfl q
        · exact go
  · rw [if_neg (by rw [e]; decide)] at h
    repeat (refine hX _ _ _ _ ?_; conv => whnf)
    refine ⟨fun h => absurd h (by decide), fun _ => ?_⟩
    repeat (refine hX _ _ _ _ ?_; conv => whnf)
    exact h D hC (fun _ _ => rfl)
set_option maxHeartbeats 4000000 in
theorem t_c_back {N : Nat} {Ga : pm_Ga} (hwi : sp_within Ga) (him : sp_imageOf Ga) (hbl : sp_becomeLike Ga) : cs1 (pm_up N Ga) 90 r_back := by
  intro z k D post hz hC h
  obtain ⟨k0, k1, k2, k3⟩ := hC.2.1
  have i0 := hz.2.1
  have i1 := hz.2.2.1
  unfold r_back at h
  refine ⟨rfl, fun X hX => ?_⟩
  replace hX : ∀ pc L st D, pm_F N Ga tbX4_back (some .int) post X pc L st D → X pc L st D := hX
  change X 0 [some (.ref 40), some (.int k)] [] D
  repeat (refine hX _ _ _ _ ?_; conv => whnf)
  refine w_ib hwi 0 1 rfl rfl (fun e => ?_) (fun e => ?_)
  · rw [if_pos e] at h
    have v0 : vp_in 0 2 := vp_in_nI (show 0 < 2 by decide) (by decide)
    have v1 : vp_in 1 2 := vp_in_nI (show 1 < 2 by decide) (by decide)
    have c0 : Int32.toNatClampNeg 0 = 0 := rfl
    have c1 : Int32.toNatClampNeg 1 = 1 := rfl
    rcases z_two e with rfl | rfl
    · repeat (refine hX _ _ _ _ ?_; conv => whnf)
      refine ⟨fun _ => ?_, fun h => absurd h (by decide)⟩
      repeat (refine hX _ _ _ _ ?_; conv => whnf)
      refine ⟨v0, ?_⟩
      repeat (refine hX _ _ _ _ ?_; conv => whnf)
      rw [c0, k0]
      change cP D (if zK z 0 = true then _ else _) post at h
      by_cases u : zK z 0 = true
      · have hI : z_R D 20 (zI z 0) := by first | exact k2 u | exact k3 u
        have g := i0 u
        rw [if_pos u] at h
        rw [u]
        refine ⟨fun _ => ?_, fun q => absurd q (by decide)⟩
        repeat (refine hX _ _ _ _ ?_; conv => whnf)
        first | refine him.1 _ _ ?_ | refine him.2 _ _ ?_
        repeat (refine hX _ _ _ _ ?_; conv => whnf)
        refine hbl 0 20 _ _ (by decide) (fun D' q1 q2 _ _ => ?_)
        have hR := q1 _ g.2.1 g.2.2.2.1 hI
        repeat (refine hX _ _ _ _ ?_; conv => whnf)
        rw [hR.2.2.2.1]
        exact h _ (hC.now hR (fun r hr => q2 r (by omega))) (fun r hr => q2 r (by omega))
      · rw [if_neg u] at h
        have u : zK z 0 = false := by simpa using u
        rw [u]
        refine ⟨fun q => absurd rfl q, fun _ => ?_⟩
        repeat (refine hX _ _ _ _ ?_; conv => whnf)
        exact h D hC (fun _ _ => rfl)
    · repeat (refine hX _ _ _ _ ?_; conv => whnf)
      refine ⟨fun _ => ?_, fun h => absurd h (by decide)⟩
      repeat (refine hX _ _ _ _ ?_; conv => whnf)
      refine ⟨v1, ?_⟩
      repeat (refine hX _ _ _ _ ?_; conv => whnf)
      rw [c1, k1]
      change cP D (if zK z 1 = true then _ else _) post at h
      by_cases u : zK z 1 = true
      · have hI : z_R D 30 (zI z 1) := by first | exact k2 u | exact k3 u
        have g := i1 u
        rw [if_pos u] at h
        rw [u]
        refine ⟨fun _ => ?_, fun q => absurd q (by decide)⟩
        repeat (refine hX _ _ _ _ ?_; conv => whnf)
        first | refine him.1 _ _ ?_ | refine him.2 _ _ ?_
        repeat (refine hX _ _ _ _ ?_; conv => whnf)
        refine hbl 0 30 _ _ (by decide) (fun D' q1 q2 _ _ => ?_)
        have hR := q1 _ g.2.1 g.2.2.2.1 hI
        repeat (refine hX _ _ _ _ ?_; conv => whnf)
        rw [hR.2.2.2.1]
        exact h _ (hC.now hR (fun r hr => q2 r (by omega))) (fun r hr => q2 r (by omega))
      · rw [if_neg u] at h
        have u : zK z 1 = false := by simpa using u
        rw [u]
        refine ⟨fun q => absurd rfl q, fun _ => ?_⟩
        repeat (refine hX _ _ _ _ ?_; conv => whnf)
        exact h D hC (fun _ _ => rfl)
  · rw [if_neg (by rw [e]; decide)] at h
    repeat (refine hX _ _ _ _ ?_; conv => whnf)
    refine ⟨fun h => absurd h (by decide), fun _ => ?_⟩
    repeat (refine hX _ _ _ _ ?_; conv => whnf)
    exact h D hC (fun _ _ => rfl)
set_option maxHeartbeats 4000000 in
theorem t_c_count {N : Nat} {Ga : pm_Ga} (hno : sp_isNothing Ga) (hsu : sp_sumOf Ga) : cs1 (pm_up N Ga) 96 r_count := by
  intro z w D post hz hC h
  obtain ⟨k0, k1, k2, k3⟩ := hC.2.1
  have h1 : z_R D 0 (zG z) := hC.1
  have v0 : vp_in 0 2 := vp_in_nI (show 0 < 2 by decide) (by decide)
  have v1 : vp_in 1 2 := vp_in_nI (show 1 < 2 by decide) (by decide)
  have c0 : Int32.toNatClampNeg 0 = 0 := rfl
  have c1 : Int32.toNatClampNeg 1 = 1 := rfl
  have h := h D hC (fun _ _ => rfl)
  unfold r_count at h
  refine ⟨rfl, fun X hX => ?_⟩
  replace hX : ∀ pc L st D, pm_F N Ga tbX4_count (some .int) post X pc L st D → X pc L st D := hX
  change X 0 [some (.ref 40), some (.int w)] [] D
  repeat (refine hX _ _ _ _ ?_; conv => whnf)
  refine ⟨fun q => ?_, fun q => ?_, fun q => ?_, fun q => ?_, fun q => ?_, fun q => ?_, fun q => ?_, trivial⟩
  · repeat (refine hX _ _ _ _ ?_; conv => whnf)
    have n0 : ¬ w = 0 := fun e => by rw [e] at q; exact absurd q (by decide)
    have n1 : ¬ w = 1 := fun e => by rw [e] at q; exact absurd q (by decide)
    have n2 : ¬ w = 2 := fun e => by rw [e] at q; exact absurd q (by decide)
    have n3 : ¬ w = 3 := fun e => by rw [e] at q; exact absurd q (by decide)
    have n4 : ¬ w = 4 := fun e => by rw [e] at q; exact absurd q (by decide)
    have n5 : ¬ w = 5 := fun e => by rw [e] at q; exact absurd q (by decide)
    simp only [n0, n1, n2, n3, n4, n5, if_false] at h
    exact h
  · have e : w = 0 := z_sw0 q
    subst e
    repeat (refine hX _ _ _ _ ?_; conv => whnf)
    rw [hC.2.2.2.1.1]
    exact h
  · have e : w = 1 := z_sw0 q
    subst e
    repeat (refine hX _ _ _ _ ?_; conv => whnf)
    refine ⟨v0, ?_⟩
    repeat (refine hX _ _ _ _ ?_; conv => whnf)
    rw [c0, k0]
    change post (some (.int (z_bi (zK z 0) + z_bi (zK z 1)))) D at h
    generalize zK z 0 = u0 at h
    cases u0
    all_goals
      refine ⟨fun q => ?_, fun q => ?_⟩
      all_goals first | exact absurd rfl q | exact absurd q (by decide) | skip
      repeat (refine hX _ _ _ _ ?_; conv => whnf)
      refine ⟨v1, ?_⟩
      repeat (refine hX _ _ _ _ ?_; conv => whnf)
      rw [c1, k1]
      generalize zK z 1 = u1 at h
      cases u1
      all_goals
        refine ⟨fun q => ?_, fun q => ?_⟩
        all_goals first | exact absurd rfl q | exact absurd q (by decide) | skip
        repeat (refine hX _ _ _ _ ?_; conv => whnf)
        exact h
  · have e : w = 2 := z_sw0 q
    subst e
    repeat (refine hX _ _ _ _ ?_; conv => whnf)
    rw [hC.2.2.1.1]
    exact h
  · have e : w = 3 := z_sw0 q
    subst e
    obtain ⟨s0, s1⟩ := hC.2.2.2.2.1 0 (by decide)
    change post (some (.int (z_len (zH z 0)))) D at h
    repeat (refine hX _ _ _ _ ?_; conv => whnf)
    refine hno 0 D _ (by decide) (fun y => ?_) (fun y => ?_)
    · have hn : zH z 0 = none := by
        cases hh : zH z 0 with
        | none => rfl
        | some q =>
          obtain ⟨a, n⟩ := q
          have := (s1 a n hh).1
          have hb := (hz.2.2.2.2.2 0 (by decide) a n hh).2
          rw [this] at y
          have y2 := congrArg Int32.toInt y
          rw [z_tI (by omega)] at y2
          have : (-1 : Int32).toInt = -1 := rfl
          omega
      rw [hn] at h
      repeat (refine hX _ _ _ _ ?_; conv => whnf)
      refine ⟨fun h => absurd h (by decide), fun _ => ?_⟩
      repeat (refine hX _ _ _ _ ?_; conv => whnf)
      exact h
    · cases hh : zH z 0 with
      | none => exact absurd (s0 hh) y
      | some q =>
        obtain ⟨a, n⟩ := q
        have y2 := (s1 a n hh).1
        rw [hh] at h
        repeat (refine hX _ _ _ _ ?_; conv => whnf)
        refine ⟨fun _ => ?_, fun h => absurd h (by decide)⟩
        repeat (refine hX _ _ _ _ ?_; conv => whnf)
        refine ⟨vp_in_nI (show 0 < 4 by decide) (by decide), ?_⟩
        repeat (refine hX _ _ _ _ ?_; conv => whnf)
        rw [c0, y2]
        exact h
  · have e : w = 4 := z_sw0 q
    subst e
    repeat (refine hX _ _ _ _ ?_; conv => whnf)
    refine hsu 0 2 (zG z) D _ rfl (by decide) h1 hz.1.1 hz.1.2.1 ?_
    repeat (refine hX _ _ _ _ ?_; conv => whnf)
    exact h
  · have e : w = 5 := z_sw0 q
    subst e
    repeat (refine hX _ _ _ _ ?_; conv => whnf)
    refine hsu 0 3 (zG z) D _ rfl (by decide) h1 hz.1.1 hz.1.2.1 ?_
    repeat (refine hX _ _ _ _ ?_; conv => whnf)
    exact h
