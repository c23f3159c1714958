def z_MV (D D' : pm_Mem) : Prop := (∀ r, r ≠ 67 → r ≠ 68 → r ≠ 73 → r ≠ 75 → D' r = D r) ∧ (∀ k, k ≠ 14 → k ≠ 15 → k ≠ 16 → k ≠ 18 → D' 67 k = D 67 k) ∧ ∀ k, k < 208 → D' 68 k = D 68 k
theorem z_MV.MR {D D' : pm_Mem} {z : z_Z} (h : z_MV D D') (hM : MR D z) : MR D' z := hM.same (fun r h1 h2 _ h4 h5 => h.1 r h1 h2 h4 h5) h.2.1 (fun k hk => h.2.2 k (by omega))
def sp_numbersAt (Ga : pm_Ga) : Prop := ∀ (t b p m : Nat) (z : z_Z) (D : pm_Mem) (post : pm_Post), (t = 0 ∨ t = 2) → m = z_hiN t + 1 → p = 4 * t + b → zOk z → MR D z → b < z_n (zG z) → (∀ D', z_MV D D' → (∀ v q, v < m → q < 41 → D' 75 (41 * v + q) = z_run (z_up (zG z) (4 * t + b) (nI v)) q (16 + b)) → post (some (.int (z_bits z t b m))) D') → Ga 159 [.ref 67, .int (nI p), .int (nI b), .int (nI m)] D post
set_option maxHeartbeats 4000000 in
theorem t_numbersAt {N : Nat} {Ga : pm_Ga} (hco : sp_copies Ga) (has : sp_isAsSeen Ga) : sp_numbersAt (pm_up N Ga) := by
  intro t b p m z D post ht hm hp hz hM hb h
  subst hp
  have hG := hz.1
  have hn4 := hz.1.2.1
  have hlo : z_lo t = 0 ∧ z_hi t = (z_hiN t : Int) ∧ z_hiN t ≤ 9 := by
    rcases ht with rfl | rfl <;> decide
  obtain ⟨l1, l2, l4⟩ := hlo
  refine ⟨rfl, fun X hX => ?_⟩
  replace hX : ∀ pc L st D, pm_F N Ga tbX5_numbersAt (some .int) post X pc L st D → X pc L st D := hX
  change X 0 [some (.ref 67), some (.int (nI (4 * t + b))), some (.int (nI b)), some (.int (nI m)), none, none] [] D
  repeat (refine hX _ _ _ _ ?_; conv => whnf)
  refine hco 0 260 D _ (by decide) (by decide) (by decide) (fun D0 f1 f2 => ?_)
  have hM0 : z_M D0 260 (zG z) := fun k hk => by
    rw [f1 k hk]
    exact hM.1 k hk
  iterate 2 (refine hX _ _ _ _ ?_; conv => whnf)
  have loop : ∀ (mm v : Nat) (g : z_P) (D1 : pm_Mem), v + mm = m → z_MV D D1 → z_M D1 260 g → (∀ x, z_up g (4 * t + b) x = z_up (zG z) (4 * t + b) x) → (∀ u q, u < v → q < 41 → D1 75 (41 * u + q) = z_run (z_up (zG z) (4 * t + b) (nI u)) q (16 + b)) → X 14 [some (.ref 67), some (.int (nI (4 * t + b))), some (.int (nI b)), some (.int (nI m)), some (.int (z_bits z t b v)), some (.int (nI v))] [] D1 := by
    intro mm
    induction mm with
    | zero =>
      intro v g D1 hv f1 f2 f3 f4
      have hv : v = m := by omega
      subst hv
      repeat (refine hX _ _ _ _ ?_; conv => whnf)
      refine ⟨fun _ => ?_, fun q => absurd (nI_le (Nat.le_refl _) (by omega)) q⟩
      repeat (refine hX _ _ _ _ ?_; conv => whnf)
      exact h D1 f1 f4
    | succ mm ih =>
      intro v g D1 hv f1 f2 f3 f4
      have hgd : z_good (nI t) (nI v) = true := by
        rw [z_good_t (by omega)]
        exact z_ib_t (by rw [z_tI (by omega)]; omega) (by rw [z_tI (by omega)]; omega)
      obtain ⟨j1, j2, j3⟩ := hG.put (w := t) (by omega) hb hgd
      have i1 : (260 : Int32) + nI (4 * t + b) = nI (260 + (4 * t + b)) := by rw [show (260 : Int32) = nI 260 from rfl, nI_add]
      repeat (refine hX _ _ _ _ ?_; conv => whnf)
      refine ⟨fun q => absurd q (nI_ge (by omega) (by omega)), fun _ => ?_⟩
      repeat (refine hX _ _ _ _ ?_; conv => whnf)
      rw [i1]
      refine ⟨by decide, vp_in_nI (by omega) (by decide), ?_⟩
      rw [nI_clamp (by omega)]
      repeat (refine hX _ _ _ _ ?_; conv => whnf)
      have e2 : z_M (pm_mu D1 68 (260 + (4 * t + b)) (nI v)) 260 (z_up (zG z) (4 * t + b) (nI v)) := by
        rw [← f3]
        exact z_M_mu f2
      have e1 : z_MV D (pm_mu D1 68 (260 + (4 * t + b)) (nI v)) := ⟨fun r h1 h2 h3 h4 => by rw [pm_mu_ne _ _ _ h2]; exact f1.1 r h1 h2 h3 h4, fun k h1 h2 h3 h4 => by rw [pm_mu_r _ _ _ _ (by decide)]; exact f1.2.1 k h1 h2 h3 h4, fun k hk => by rw [pm_mu_k _ _ _ _ (by omega)]; exact f1.2.2 k hk⟩
      refine has z _ v b _ _ hz (e1.MR hM) e2 j1 j2 (by omega) (by omega) (fun D3 c1 c2 c3 => ?_)
      have e75 : pm_mu D1 68 (260 + (4 * t + b)) (nI v) 75 = D1 75 := pm_mu_ne _ _ _ (by decide)
      have d1 : z_MV D D3 := ⟨fun r h1 h2 h3 h4 => by rw [c1.1 r h1 h2 h3 h4]; exact e1.1 r h1 h2 h3 h4, fun k h1 h2 h3 h4 => by rw [c1.2.1 k h1 h2 h3 h4]; exact e1.2.1 k h1 h2 h3 h4, fun k hk => by rw [c1.2.2 k (by omega)]; exact e1.2.2 k hk⟩
      have nx : ∀ x : Int32, z_bits z t b v ||| x = z_bits z t b (v + 1) → X 52 [some (.ref 67), some (.int (nI (4 * t + b))), some (.int (nI b)), some (.int (nI m)), some (.int (z_bits z t b v)), some (.int (nI v))] [.int x, .int (z_bits z t b v)] D3 := by
        intro x hx
        iterate 4 (refine hX _ _ _ _ ?_; conv => whnf)
        rw [nI_1, hx]
        refine ih (v + 1) _ D3 (by omega) d1 (e2.same (fun k _ _ => c1.2.2 k (by omega))) (fun x => ?_) (fun u q hu hq => ?_)
        · funext k
          unfold z_up
          by_cases e : k = 4 * t + b
          · rw [if_pos e, if_pos e]
          · rw [if_neg e, if_neg e, if_neg e]
        · by_cases e : u = v
          · rw [e]; exact c2 q hq
          · rw [c3 _ (by omega), e75]; exact f4 u q (by omega) hq
      have ez : z_bits z t b (v + 1) = if z_so z (z_up (zG z) (4 * t + b) (nI v)) 41 = true then z_bits z t b v ||| ((1 : Int32) <<< (nI v &&& 31)) else z_bits z t b v := rfl
      rw [ez] at nx
      cases u : z_so z (z_up (zG z) (4 * t + b) (nI v)) 41 with
      | false =>
        rw [u, if_neg (by decide)] at nx
        repeat (refine hX _ _ _ _ ?_; conv => whnf)
        refine ⟨fun _ => ?_, fun h => absurd h (by decide)⟩
        iterate 1 (refine hX _ _ _ _ ?_; conv => whnf)
        exact nx 0 (by rw [Int32.or_zero])
      | true =>
        rw [u, if_pos rfl] at nx
        repeat (refine hX _ _ _ _ ?_; conv => whnf)
        refine ⟨fun h => absurd h (by decide), fun _ => ?_⟩
        iterate 4 (refine hX _ _ _ _ ?_; conv => whnf)
        exact nx _ rfl
  exact loop m 0 (zG z) D0 (by omega) ⟨fun r _ h2 _ _ => f2.1 r h2, fun k _ _ _ _ => by rw [f2.1 67 (by decide)], fun k hk => f2.2 k (by omega)⟩ hM0 (fun _ => rfl) (fun u q hu _ => absurd hu (by omega))
set_option maxHeartbeats 4000000 in
theorem t_m_kinds {N : Nat} {Ga : pm_Ga} (hib : sp_isBead Ga) (hnu : sp_numbersAt Ga) : ms1 (pm_up N Ga) 160 (r_bits 0 4) := by
  intro z b D post hz hM h
  unfold r_bits at h
  refine ⟨rfl, fun X hX => ?_⟩
  replace hX : ∀ pc L st D, pm_F N Ga tbX5_kinds (some .int) post X pc L st D → X pc L st D := hX
  change X 0 [some (.ref 67), some (.int b)] [] D
  repeat (refine hX _ _ _ _ ?_; conv => whnf)
  refine hib b (zG z) D _ hM.1 hz.1.1 hz.1.2.1 (fun e0 => ?_) (fun e0 => ?_)
  · obtain ⟨b1, b2, b3, b4⟩ := z_isb_of e0 hz.1.2.1
    rw [if_pos e0] at h
    repeat (refine hX _ _ _ _ ?_; conv => whnf)
    refine ⟨fun h => absurd h (by decide), fun _ => ?_⟩
    repeat (refine hX _ _ _ _ ?_; conv => whnf)
    rw [b2]
    refine hnu 0 (z_nt b) (z_nt b) 4 z D _ (Or.inl rfl) rfl (by omega) hz hM b1 (fun D1 f1 _ => ?_)
    repeat (refine hX _ _ _ _ ?_; conv => whnf)
    exact h D1 (f1.MR hM) (fun r hr => f1.1 r (by omega) (by omega) (by omega) (by omega))
  · rw [if_neg (by rw [e0]; decide)] at h
    repeat (refine hX _ _ _ _ ?_; conv => whnf)
    refine ⟨fun _ => ?_, fun h => absurd h (by decide)⟩
    repeat (refine hX _ _ _ _ ?_; conv => whnf)
    exact h D hM (fun _ _ => rfl)
set_option maxHeartbeats 4000000 in
theorem t_m_stiffs {N : Nat} {Ga : pm_Ga} (hib : sp_isBead Ga) (hnu : sp_numbersAt Ga) : ms1 (pm_up N Ga) 161 (r_bits 2 10) := by
  intro z b D post hz hM h
  unfold r_bits at h
  refine ⟨rfl, fun X hX => ?_⟩
  replace hX : ∀ pc L st D, pm_F N Ga tbX5_stiffs (some .int) post X pc L st D → X pc L st D := hX
  change X 0 [some (.ref 67), some (.int b)] [] D
  repeat (refine hX _ _ _ _ ?_; conv => whnf)
  refine hib b (zG z) D _ hM.1 hz.1.1 hz.1.2.1 (fun e0 => ?_) (fun e0 => ?_)
  · obtain ⟨b1, b2, b3, b4⟩ := z_isb_of e0 hz.1.2.1
    rw [if_pos e0] at h
    repeat (refine hX _ _ _ _ ?_; conv => whnf)
    refine ⟨fun h => absurd h (by decide), fun _ => ?_⟩
    repeat (refine hX _ _ _ _ ?_; conv => whnf)
    rw [b2, z_ix1' 8 (z_nt b) 8 (by decide)]
    refine hnu 2 (z_nt b) (8 + z_nt b) 10 z D _ (Or.inr rfl) rfl (by omega) hz hM b1 (fun D1 f1 _ => ?_)
    repeat (refine hX _ _ _ _ ?_; conv => whnf)
    exact h D1 (f1.MR hM) (fun r hr => f1.1 r (by omega) (by omega) (by omega) (by omega))
  · rw [if_neg (by rw [e0]; decide)] at h
    repeat (refine hX _ _ _ _ ?_; conv => whnf)
    refine ⟨fun _ => ?_, fun h => absurd h (by decide)⟩
    repeat (refine hX _ _ _ _ ?_; conv => whnf)
    exact h D hM (fun _ _ => rfl)
