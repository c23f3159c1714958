def sp_asSeenBits (Ga : pm_Ga) : Prop := ∀ (t : Nat) (z : z_Z) (b : Nat) (D : pm_Mem) (post : pm_Post), (t = 0 ∨ t = 2) → zOk z → CR D z → b < z_n (zG z) → (∀ D', (∀ r, (r < 10 ∨ 20 ≤ r) → D' r = D r) → post (some (.int (z_bits z t b (z_hiN t + 1)))) D') → Ga 85 [.ref 40, .int (nI t), .int (nI b)] D post
set_option maxHeartbeats 4000000 in
theorem t_asSeenBits {N : Nat} {Ga : pm_Ga} (htw : sp_tryWith Ga) (hso : sp_isSoOf Ga) : sp_asSeenBits (pm_up N Ga) := by
  intro t z b D post ht hz hC hb h
  have h1 : z_R D 0 (zG z) := hC.1
  have hG := hz.1
  obtain ⟨g1, g2, g3, g4, g5, g6, g7, g8⟩ := hz.1
  have hlo : z_lo t = (z_loN t : Int) ∧ z_hi t = (z_hiN t : Int) ∧ z_loN t = 0 ∧ z_hiN t ≤ 9 := by
    rcases ht with rfl | rfl <;> decide
  obtain ⟨l1, l2, l3, l4⟩ := hlo
  have d80 : D 80 t = nI 0 := by
    rw [z_eq, (hC.2.2.2.2.2.2.lo (by omega)).1, z_tI (by omega), l1, l3]
  have d81 : D 81 t = nI (z_hiN t) := by
    rw [z_eq, (hC.2.2.2.2.2.2.lo (by omega)).2, z_tI (by omega), l2]
  have hv5 : vp_in (nI t) 5 := vp_in_nI (by omega) (by decide)
  have ct : (nI t).toNatClampNeg = t := nI_clamp (by omega)
  refine ⟨rfl, fun X hX => ?_⟩
  replace hX : ∀ pc L st D, pm_F N Ga tbX4_asSeenBits (some .int) post X pc L st D → X pc L st D := hX
  change X 0 [some (.ref 40), some (.int (nI t)), some (.int (nI b)), none, none] [] D
  repeat (refine hX _ _ _ _ ?_; conv => whnf)
  refine ⟨hv5, ?_⟩
  rw [ct, d80]
  iterate 1 (refine hX _ _ _ _ ?_; conv => whnf)
  have loop : ∀ (m v : Nat) (D1 : pm_Mem), v + m = z_hiN t + 1 → (∀ r, (r < 10 ∨ 20 ≤ r) → D1 r = D r) → X 9 [some (.ref 40), some (.int (nI t)), some (.int (nI b)), some (.int (z_bits z t b v)), some (.int (nI v))] [] D1 := by
    intro m
    induction m with
    | zero =>
      intro v D1 hv f1
      have hv : v = z_hiN t + 1 := by omega
      subst hv
      repeat (refine hX _ _ _ _ ?_; conv => whnf)
      refine ⟨hv5, ?_⟩
      rw [ct, f1 81 (by omega), d81]
      repeat (refine hX _ _ _ _ ?_; conv => whnf)
      refine ⟨fun _ => ?_, fun q => absurd (nI_lt (show z_hiN t < z_hiN t + 1 by omega) (by omega)) q⟩
      repeat (refine hX _ _ _ _ ?_; conv => whnf)
      exact h D1 f1
    | succ m ih =>
      intro v D1 hv f1
      have hR1 : z_R D1 0 (zG z) := h1.same (fun r _ _ => f1 r (by omega))
      have hgd : z_good (nI t) (nI v) = true := by
        rw [z_good_t (by omega)]
        exact z_ib_t (by rw [z_tI (by omega)]; omega) (by rw [z_tI (by omega)]; omega)
      obtain ⟨j1, j2, j3⟩ := hG.put (w := t) (by omega) hb hgd
      have nx : ∀ D3 : pm_Mem, (∀ r, (r < 10 ∨ 20 ≤ r) → D3 r = D r) → X 48 [some (.ref 40), some (.int (nI t)), some (.int (nI b)), some (.int (z_bits z t b (v + 1))), some (.int (nI v))] [] D3 := by
        intro D3 f3
        iterate 2 (refine hX _ _ _ _ ?_; conv => whnf)
        rw [nI_1]
        exact ih (v + 1) D3 (by omega) f3
      have ez : z_bits z t b (v + 1) = if z_so z (z_up (zG z) (4 * t + b) (nI v)) 41 = true then z_bits z t b v ||| ((1 : Int32) <<< (nI v &&& 31)) else z_bits z t b v := rfl
      rw [ez] at nx
      repeat (refine hX _ _ _ _ ?_; conv => whnf)
      refine ⟨hv5, ?_⟩
      rw [ct, f1 81 (by omega), d81]
      repeat (refine hX _ _ _ _ ?_; conv => whnf)
      refine ⟨fun q => absurd q (nI_nlt (by omega) (by omega)), fun _ => ?_⟩
      repeat (refine hX _ _ _ _ ?_; conv => whnf)
      refine htw t b (nI v) (zG z) D1 _ 9999 (by omega) hb hG hR1 (fun D2 k1 k2 => ?_)
      repeat (refine hX _ _ _ _ ?_; conv => whnf)
      refine hso z _ D2 _ hz (hC.2.2.2.1.same (fun r _ _ => by rw [k2 r (by omega), f1 r (by omega)])) j1 k1 (fun D3 c2 => ?_)
      have hfr : ∀ r, (r < 10 ∨ 20 ≤ r) → D3 r = D r := fun r hr => by rw [c2 r (by omega), k2 r hr, f1 r hr]
      have nx := nx D3 hfr
      cases u : z_so z (z_up (zG z) (4 * t + b) (nI v)) 41 with
      | false =>
        rw [u, if_neg (by decide)] at nx
        repeat (refine hX _ _ _ _ ?_; conv => whnf)
        refine ⟨fun _ => ?_, fun h => absurd h (by decide)⟩
        exact nx
      | true =>
        rw [u, if_pos rfl] at nx
        repeat (refine hX _ _ _ _ ?_; conv => whnf)
        refine ⟨fun h => absurd h (by decide), fun _ => ?_⟩
        iterate 6 (refine hX _ _ _ _ ?_; conv => whnf)
        exact nx
  exact loop (z_hiN t + 1) 0 D (by omega) (fun _ _ => rfl)
set_option maxHeartbeats 4000000 in
theorem t_c_kinds {N : Nat} {Ga : pm_Ga} (hhas : sp_has Ga) (hab : sp_asSeenBits Ga) : cs1 (pm_up N Ga) 82 (r_bits 0 4) := by
  intro z b D post hz hC h
  have h1 : z_R D 0 (zG z) := hC.1
  unfold r_bits at h
  refine ⟨rfl, fun X hX => ?_⟩
  replace hX : ∀ pc L st D, pm_F N Ga tbX4_kinds (some .int) post X pc L st D → X pc L st D := hX
  change X 0 [some (.ref 40), some (.int b)] [] D
  repeat (refine hX _ _ _ _ ?_; conv => whnf)
  refine z_has hhas h1 hz.1.1 hz.1.2.1 (fun e0 => ?_) (fun e0 => ?_)
  · obtain ⟨b1, b2, b3, b4⟩ := z_isb_of e0 hz.1.2.1
    rw [if_pos e0] at h
    repeat (refine hX _ _ _ _ ?_; conv => whnf)
    refine ⟨fun h => absurd h (by decide), fun _ => ?_⟩
    repeat (refine hX _ _ _ _ ?_; conv => whnf)
    rw [b2]
    refine hab 0 z (z_nt b) D _ (Or.inl rfl) hz hC b1 (fun D1 f1 => ?_)
    repeat (refine hX _ _ _ _ ?_; conv => whnf)
    exact h D1 (hC.same (fun r hr _ => f1 r (by omega))) (fun r hr => f1 r (by omega))
  · rw [if_neg (by rw [e0]; decide)] at h
    repeat (refine hX _ _ _ _ ?_; conv => whnf)
    refine ⟨fun _ => ?_, fun h => absurd h (by decide)⟩
    repeat (refine hX _ _ _ _ ?_; conv => whnf)
    exact h D hC (fun _ _ => rfl)
set_option maxHeartbeats 4000000 in
theorem t_c_stiffs {N : Nat} {Ga : pm_Ga} (hhas : sp_has Ga) (hab : sp_asSeenBits Ga) : cs1 (pm_up N Ga) 83 (r_bits 2 10) := by
  intro z b D post hz hC h
  have h1 : z_R D 0 (zG z) := hC.1
  unfold r_bits at h
  refine ⟨rfl, fun X hX => ?_⟩
  replace hX : ∀ pc L st D, pm_F N Ga tbX4_stiffs (some .int) post X pc L st D → X pc L st D := hX
  change X 0 [some (.ref 40), some (.int b)] [] D
  repeat (refine hX _ _ _ _ ?_; conv => whnf)
  refine z_has hhas h1 hz.1.1 hz.1.2.1 (fun e0 => ?_) (fun e0 => ?_)
  · obtain ⟨b1, b2, b3, b4⟩ := z_isb_of e0 hz.1.2.1
    rw [if_pos e0] at h
    repeat (refine hX _ _ _ _ ?_; conv => whnf)
    refine ⟨fun h => absurd h (by decide), fun _ => ?_⟩
    repeat (refine hX _ _ _ _ ?_; conv => whnf)
    rw [b2]
    refine hab 2 z (z_nt b) D _ (Or.inr rfl) hz hC b1 (fun D1 f1 => ?_)
    repeat (refine hX _ _ _ _ ?_; conv => whnf)
    exact h D1 (hC.same (fun r hr _ => f1 r (by omega))) (fun r hr => f1 r (by omega))
  · rw [if_neg (by rw [e0]; decide)] at h
    repeat (refine hX _ _ _ _ ?_; conv => whnf)
    refine ⟨fun _ => ?_, fun h => absurd h (by decide)⟩
    repeat (refine hX _ _ _ _ ?_; conv => whnf)
    exact h D hC (fun _ _ => rfl)
