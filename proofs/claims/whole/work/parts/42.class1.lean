def sp_put (Ga : pm_Ga) : Prop := ∀ (l : Nat) (c : Int32) (D : pm_Mem) (post : pm_Post), D 42 1 = nI l → l ≤ 160 → z_ib c 0 127 = true → (l = 160 → post (some (.int 0)) D) → (l < 160 → post (some (.int 1)) (pm_mu (pm_mu D 43 l c) 42 1 (nI (l + 1)))) → Ga 32 [.ref 42, .int c] D post
set_option maxHeartbeats 2000000 in
theorem t_put {N : Nat} {Ga : pm_Ga} : sp_put (pm_up N Ga) := by
  intro l c D post hl hl2 hc h0 h1
  obtain ⟨e1, e2, e3, e4⟩ := z_ib_of hc (by omega) (by omega)
  refine ⟨rfl, fun X hX => ?_⟩
  replace hX : ∀ pc L st D, pm_F N Ga tbX3_put (some .boolean) post X pc L st D → X pc L st D := hX
  change X 0 [some (.ref 42), some (.int c)] [] D
  repeat (refine hX _ _ _ _ ?_; conv => whnf)
  rw [hl]
  refine ⟨fun q => ?_, fun q => ?_⟩
  · have q : l < 160 := (nI_ltI (a := l) (b := 160) (by omega) (by omega)).mp q
    repeat (refine hX _ _ _ _ ?_; conv => whnf)
    rw [hl]
    refine ⟨by decide, vp_in_nI q (by decide), ?_⟩
    repeat (refine hX _ _ _ _ ?_; conv => whnf)
    rw [pm_mu_r _ _ _ _ (by decide), hl, nI_1, nI_clamp (by omega)]
    have hb : vp_nar .byte c.toInt8.toInt32 = c := by
      rw [e1]
      exact z_byt _ (by omega)
    rw [hb]
    exact ⟨Or.inr rfl, h1 q⟩
  · have q : ¬ l < 160 := fun z => q ((nI_ltI (a := l) (b := 160) (by omega) (by omega)).mpr z)
    repeat (refine hX _ _ _ _ ?_; conv => whnf)
    exact ⟨Or.inl rfl, h0 (by omega)⟩
set_option maxHeartbeats 2000000 in
theorem t_c_feed {N : Nat} {Ga : pm_Ga} (hwi : sp_within Ga) (hpu : sp_put Ga) : cs1 (pm_up N Ga) 44 r_feed := by
  intro z c D post hz hC h
  have h3 := hC.2.2.1
  have hL := hz.2.2.2.1.1
  unfold r_feed at h
  refine ⟨rfl, fun X hX => ?_⟩
  replace hX : ∀ pc L st D, pm_F N Ga tbX4_feed (some .int) post X pc L st D → X pc L st D := hX
  change X 0 [some (.ref 40), some (.int c)] [] D
  repeat (refine hX _ _ _ _ ?_; conv => whnf)
  refine w_ib hwi 0 127 rfl rfl (fun e => ?_) (fun e => ?_)
  · rw [if_pos e] at h
    repeat (refine hX _ _ _ _ ?_; conv => whnf)
    refine ⟨fun _ => ?_, fun h => absurd h (by decide)⟩
    repeat (refine hX _ _ _ _ ?_; conv => whnf)
    refine hpu (zL z) c D _ h3.1 hL e (fun q => ?_) (fun q => ?_)
    · rw [if_pos q] at h
      repeat (refine hX _ _ _ _ ?_; conv => whnf)
      refine ⟨fun _ => ?_, fun h => absurd h (by decide)⟩
      repeat (refine hX _ _ _ _ ?_; conv => whnf)
      exact h D hC (fun _ _ => rfl)
    · rw [if_neg (by omega)] at h
      repeat (refine hX _ _ _ _ ?_; conv => whnf)
      refine ⟨fun h => absurd h (by decide), fun _ => ?_⟩
      repeat (refine hX _ _ _ _ ?_; conv => whnf)
      rw [pm_mu_at]
      refine h _ (hC.tape ⟨?_, fun i hi => ?_, ?_⟩ (fun r h1 h2 => ?_)) (fun r hr => ?_)
      · exact pm_mu_at _ _ _ _
      · rw [pm_mu_r _ _ _ _ (by decide), pm_mu_eq, if_pos rfl]
        show _ = upd (zT z) (zL z) c i
        unfold upd
        split
        · rfl
        · rename_i hne
          have hi : i < zL z + 1 := hi
          exact h3.2.1 i (by omega)
      · rw [pm_mu_k _ _ _ _ (by decide), pm_mu_r _ _ _ _ (by decide)]; exact h3.2.2
      · rw [pm_mu_ne _ _ _ h1, pm_mu_ne _ _ _ h2]
      · rw [pm_mu_ne _ _ _ (by omega), pm_mu_ne _ _ _ (by omega)]
  · rw [if_neg (by rw [e]; decide)] at h
    repeat (refine hX _ _ _ _ ?_; conv => whnf)
    refine ⟨fun h => absurd h (by decide), fun _ => ?_⟩
    repeat (refine hX _ _ _ _ ?_; conv => whnf)
    exact h D hC (fun _ _ => rfl)
set_option maxHeartbeats 2000000 in
theorem t_c_end {N : Nat} {Ga : pm_Ga} (hwi : sp_within Ga) : cs1 (pm_up N Ga) 45 r_end := by
  intro z n D post hz hC h
  have h3 := hC.2.2.1
  have hL := hz.2.2.2.1.1
  have hti : (nI (zL z)).toInt = zL z := z_tI (by omega)
  unfold r_end at h
  refine ⟨rfl, fun X hX => ?_⟩
  replace hX : ∀ pc L st D, pm_F N Ga tbX4_end (some .int) post X pc L st D → X pc L st D := hX
  change X 0 [some (.ref 40), some (.int n), none] [] D
  repeat (refine hX _ _ _ _ ?_; conv => whnf)
  rw [h3.1]
  refine w_ib hwi 0 (zL z) rfl hti (fun e => ?_) (fun e => ?_)
  · obtain ⟨e1, e2, e3, e4⟩ := z_ib_of e (by decide) (by omega)
    rw [if_pos e] at h
    repeat (refine hX _ _ _ _ ?_; conv => whnf)
    refine ⟨fun _ => ?_, fun h => absurd h (by decide)⟩
    repeat (refine hX _ _ _ _ ?_; conv => whnf)
    refine h _ (hC.tape ⟨?_, fun i hi => ?_, ?_⟩ (fun r h1 h2 => pm_mu_ne _ _ _ h1)) (fun r hr => pm_mu_ne _ _ _ (by omega))
    · rw [pm_mu_at]; exact e1
    · have hi : i < z_nt n := hi
      rw [pm_mu_r _ _ _ _ (by decide)]; exact h3.2.1 i (by omega)
    · rw [pm_mu_k _ _ _ _ (by decide)]; exact h3.2.2
  · rw [if_neg (by rw [e]; decide)] at h
    repeat (refine hX _ _ _ _ ?_; conv => whnf)
    refine ⟨fun h => absurd h (by decide), fun _ => ?_⟩
    repeat (refine hX _ _ _ _ ?_; conv => whnf)
    exact h D hC (fun _ _ => rfl)
set_option maxHeartbeats 2000000 in
theorem t_c_fault {N : Nat} {Ga : pm_Ga} : cs0 (pm_up N Ga) 47 r_fault := by
  intro z D post hz hC h
  refine ⟨rfl, fun X hX => ?_⟩
  replace hX : ∀ pc L st D, pm_F N Ga tbX4_fault (some .int) post X pc L st D → X pc L st D := hX
  change X 0 [some (.ref 40)] [] D
  repeat (refine hX _ _ _ _ ?_; conv => whnf)
  rw [hC.2.2.1.2.2]
  exact h D hC (fun _ _ => rfl)
theorem z_sw0 {w : Int32} {k : Int32} (h : w.toInt = k.toInt) : w = k := Int32.toInt_inj.mp h
set_option maxHeartbeats 2000000 in
theorem t_c_rule {N : Nat} {Ga : pm_Ga} (hst : sp_stillBits Ga) (hla : sp_lastPlace Ga) : cs1 (pm_up N Ga) 48 r_rule := by
  intro z w D post hz hC h
  have h1 : z_R D 0 (zG z) := hC.1
  obtain ⟨g1, g2, g3, g4, g5, g6, g7, g8⟩ := hz.1
  have h := h D hC (fun _ _ => rfl)
  unfold r_rule at h
  refine ⟨rfl, fun X hX => ?_⟩
  replace hX : ∀ pc L st D, pm_F N Ga tbX4_rule (some .int) post X pc L st D → X pc L st D := hX
  change X 0 [some (.ref 40), some (.int w)] [] D
  repeat (refine hX _ _ _ _ ?_; conv => whnf)
  refine ⟨fun q => ?_, fun q => ?_, fun q => ?_, fun q => ?_, fun q => ?_, fun q => ?_, fun q => ?_, trivial⟩
  · repeat (refine hX _ _ _ _ ?_; conv => whnf)
    have n0 : ¬ w = 0 := fun e => by rw [e] at q; exact absurd q (by decide)
    have n1 : ¬ w = 1 := fun e => by rw [e] at q; exact absurd q (by decide)
    have n2 : ¬ w = 2 := fun e => by rw [e] at q; exact absurd q (by decide)
    have n3 : ¬ w = 3 := fun e => by rw [e] at q; exact absurd q (by decide)
    have n4 : ¬ w = 4 := fun e => by rw [e] at q; exact absurd q (by decide)
    have n5 : ¬ w = 5 := fun e => by rw [e] at q; exact absurd q (by decide)
    simp only [n0, n1, n2, n3, n4, n5, if_false] at h
    exact h
  · have e : w = 0 := z_sw0 q
    subst e
    repeat (refine hX _ _ _ _ ?_; conv => whnf)
    rw [h1.1]
    exact h
  · have e : w = 1 := z_sw0 q
    subst e
    repeat (refine hX _ _ _ _ ?_; conv => whnf)
    rw [h1.2.1]
    exact h
  · have e : w = 2 := z_sw0 q
    subst e
    repeat (refine hX _ _ _ _ ?_; conv => whnf)
    rw [h1.2.2.2.1]
    exact h
  · have e : w = 3 := z_sw0 q
    subst e
    repeat (refine hX _ _ _ _ ?_; conv => whnf)
    rw [h1.2.2.1]
    exact h
  · have e : w = 4 := z_sw0 q
    subst e
    repeat (refine hX _ _ _ _ ?_; conv => whnf)
    refine hst (zG z) D _ h1 g1 g2 ?_
    repeat (refine hX _ _ _ _ ?_; conv => whnf)
    exact h
  · have e : w = 5 := z_sw0 q
    subst e
    repeat (refine hX _ _ _ _ ?_; conv => whnf)
    refine hla 0 (z_n (zG z)) D _ (by decide) (by rw [h1.1]; exact g1) g2 ?_
    rw [z_R_last h1]
    repeat (refine hX _ _ _ _ ?_; conv => whnf)
    exact h
