/-! ===== the text: the reference, numbers and lines ===== -/
def sp_number (Ga : pm_Ga) : Prop := ∀ (L p : Nat) (T : Nat → Int32) (e : Option (Nat × Nat)) (lo hi : Int32) (A B : Int) (D : pm_Mem) (post : pm_Post), L ≤ 160 → p ≤ L → (∀ i, i < L → z_in (T i) 0 127) → lo.toInt = A → hi.toInt = B → y_M L T D p e → (∀ D' v, (y_nb L T A B p e = none → v = y_vv L T lo p) → y_M L T D' (y_b L T p) (y_rd L T (y_b L T p) (y_nb L T A B p e)) → y_Mf D D' → post (some (.int v)) D') → Ga 106 [.ref 67, .int lo, .int hi] D post
theorem y_tm_2 {k : Nat} (hk : k < 5) : nI (y_tm k) = 2 ↔ k = 2 := by
  have h : k = 0 ∨ k = 1 ∨ k = 2 ∨ k = 3 ∨ k = 4 := by omega
  rcases h with rfl | rfl | rfl | rfl | rfl <;> decide
theorem y_tm_3 {k : Nat} (hk : k < 5) : nI (y_tm k) = 3 ↔ k = 3 := by
  have h : k = 0 ∨ k = 1 ∨ k = 2 ∨ k = 3 ∨ k = 4 := by omega
  rcases h with rfl | rfl | rfl | rfl | rfl <;> decide
theorem y_tm_0 {k : Nat} (hk : k < 5) (h0 : k ≠ 0) : nI (y_tm k) = 0 ↔ k = 4 := by
  have h : k = 1 ∨ k = 2 ∨ k = 3 ∨ k = 4 := by omega
  rcases h with rfl | rfl | rfl | rfl <;> decide
set_option maxHeartbeats 4000000 in
theorem t_number {N : Nat} {Ga : pm_Ga} (hfa : sp_fails Ga) (hin : sp_in Ga) (hro : sp_readsOn Ga) : sp_number (pm_up N Ga) := by
  intro L p T e lo hi A B D post hL hp hTT hA hB hM h
  obtain ⟨m1, m2, m3⟩ := hM
  obtain ⟨b1, b2, b3⟩ := y_b_in T hp
  have hk5 := y_k5 L T p
  refine ⟨rfl, fun X hX => ?_⟩
  replace hX : ∀ pc L st D, pm_F N Ga tbX5_number (some .int) post X pc L st D → X pc L st D := hX
  change X 0 [some (.ref 67), some (.int lo), some (.int hi), none] [] D
  -- the fault is found: the next TOKEN
  have fin : ∀ (D1 : pm_Mem) (v : Int32) (l3 : Option Value), y_Me D1 (y_nb L T A B p e) → y_Mf D D1 → (y_nb L T A B p e = none → D1 67 8 = nI (y_b L T p) ∧ D1 67 11 = y_vv L T lo p) → X 47 [some (.ref 67), some (.int lo), some (.int hi), l3] [] D1 := by
    intro D1 v l3 c1 c2 c3
    have next : ∀ v : Int32, (y_nb L T A B p e = none → v = y_vv L T lo p) → X 62 [some (.ref 67), some (.int lo), some (.int hi), l3] [.int v] D1 := by
      intro v hv
      repeat (refine hX _ _ _ _ ?_; conv => whnf)
      refine hro L (y_b L T p) T _ D1 _ hL b2 hTT (m1.F c2) c1 (fun y => (c3 y).1) (fun D2 d1 d2 => ?_)
      repeat (refine hX _ _ _ _ ?_; conv => whnf)
      exact h D2 v hv d1 (c2.tr d2)
    repeat (refine hX _ _ _ _ ?_; conv => whnf)
    refine ⟨fun q => ?_, fun q => ?_⟩
    · have q0 : ¬ y_nb L T A B p e = none := fun y => q (c1.e0.mpr y)
      iterate 1 (refine hX _ _ _ _ ?_; conv => whnf)
      exact next lo (fun y => absurd y q0)
    · have q0 := c1.e0.mp q
      iterate 3 (refine hX _ _ _ _ ?_; conv => whnf)
      exact next _ (fun y => (c3 y).2)
  -- the TOKEN may be a NUMBER
  have mid : ∀ (D1 : pm_Mem), y_Mf D D1 → (∀ k, k ≠ 6 → k ≠ 7 → D1 67 k = D 67 k) → y_Me D1 (if y_k L T p = 2 then e else y_bm e 2 (y_f L T p)) → X 20 [some (.ref 67), some (.int lo), some (.int hi), none] [] D1 := by
    intro D1 c1 c2 c3
    repeat (refine hX _ _ _ _ ?_; conv => whnf)
    refine ⟨fun q => ?_, fun q => ?_⟩
    · have q0 : ¬ (if y_k L T p = 2 then e else y_bm e 2 (y_f L T p)) = none := fun y => q (c3.e0.mpr y)
      have en : y_nb L T A B p e = (if y_k L T p = 2 then e else y_bm e 2 (y_f L T p)) := by
        unfold y_nb
        by_cases qk : y_k L T p = 2
        · rw [if_pos qk] at q0
          rw [if_pos qk, if_pos qk]
          split
          · rfl
          · cases e with
            | none => exact absurd rfl q0
            | some x => rfl
        · rw [if_neg qk, if_neg qk]
      exact fin D1 lo none (by rw [en]; exact c3) c1 (fun y => by rw [en] at y; exact absurd y q0)
    · have q0 := c3.e0.mp q
      have qk : y_k L T p = 2 := by
        by_cases y : y_k L T p = 2
        · exact y
        · rw [if_neg y] at q0
          unfold y_bm at q0
          split at q0 <;> cases q0
      rw [if_pos qk] at q0 c3
      subst q0
      obtain ⟨t1, t2, t3, t4⟩ := m3 rfl
      have ev : y_vv L T lo p = y_v L T p := if_pos qk
      have v11 : D1 67 11 = y_v L T p := by rw [c2 11 (by decide) (by decide)]; exact t4 qk
      repeat (refine hX _ _ _ _ ?_; conv => whnf)
      rw [v11]
      refine m_ib hin A B (by rw [z_64]; exact hA) (by rw [z_64]; exact hB) (fun qi => ?_) (fun qi => ?_)
      · have en : y_nb L T A B p none = none := by unfold y_nb; rw [if_pos qk, if_pos qi]
        repeat (refine hX _ _ _ _ ?_; conv => whnf)
        refine ⟨fun _ => ?_, fun h => absurd h (by decide)⟩
        exact fin D1 lo none (by rw [en]; exact c3) c1 (fun _ => ⟨by rw [c2 8 (by decide) (by decide)]; exact t2, by rw [ev]; exact v11⟩)
      · have en : y_nb L T A B p none = some (3, y_f L T p) := by unfold y_nb; rw [if_pos qk, if_neg (by rw [qi]; decide)]; rfl
        repeat (refine hX _ _ _ _ ?_; conv => whnf)
        refine ⟨fun h => absurd h (by decide), fun _ => ?_⟩
        repeat (refine hX _ _ _ _ ?_; conv => whnf)
        refine hfa none (y_f L T p) 3 D1 _ c3 (fun _ => by rw [c2 9 (by decide) (by decide)]; exact t1) (by decide) (by decide) (fun D2 d1 d2 d3 => ?_)
        exact fin D2 lo none (by rw [en]; exact d1) (c1.tr ⟨d2, fun k hk => d3 k (by omega) (by omega)⟩) (fun y => by rw [en] at y; cases y)
  repeat (refine hX _ _ _ _ ?_; conv => whnf)
  refine ⟨fun q => ?_, fun q => ?_⟩
  · have q0 : ¬ e = none := fun y => q (m2.e0.mpr y)
    refine mid D (y_Mf.rf D) (fun _ _ _ => rfl) ?_
    cases e with
    | none => exact absurd rfl q0
    | some x =>
      have : (if y_k L T p = 2 then some x else y_bm (some x) 2 (y_f L T p)) = some x := by split <;> rfl
      rw [this]
      exact m2
  · have q0 := m2.e0.mp q
    subst q0
    obtain ⟨t1, t2, t3, t4⟩ := m3 rfl
    repeat (refine hX _ _ _ _ ?_; conv => whnf)
    rw [t3]
    refine ⟨fun q2 => ?_, fun q2 => ?_⟩
    · have qk := (y_tm_2 hk5).mp q2
      exact mid D (y_Mf.rf D) (fun _ _ _ => rfl) (by rw [if_pos qk]; exact m2)
    · have qk : ¬ y_k L T p = 2 := fun y => q2 ((y_tm_2 hk5).mpr y)
      repeat (refine hX _ _ _ _ ?_; conv => whnf)
      refine hfa none (y_f L T p) 2 D _ m2 (fun _ => t1) (by decide) (by decide) (fun D2 d1 d2 d3 => ?_)
      exact mid D2 ⟨d2, fun k hk => d3 k (by omega) (by omega)⟩ d3 (by rw [if_neg qk]; exact d1)
