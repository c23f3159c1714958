/-- of page p and of the counters alone: what changed -/
def z_MG (p : Nat) (D D' : pm_Mem) : Prop := (∀ r, r ≠ 68 → r ≠ 67 → D' r = D r) ∧ (∀ k, k ≠ 14 → k ≠ 15 → D' 67 k = D 67 k) ∧ ∀ k, (k < p ∨ p + 52 ≤ k) → D' 68 k = D 68 k
theorem z_mv0 (g : z_P) : z_mv g 0 = g := by
  funext k
  unfold z_mv
  rw [if_neg (by omega), if_neg (by omega)]
/-- b beads have gone, the others have their new speeds -/
def z_mp (g : z_P) (n b : Nat) : z_P := fun k => if 16 ≤ k ∧ k < 16 + b then z_np g (k - 16) else if 20 ≤ k ∧ k < 20 + b then z_fs g (k - 20) else z_sp g n k
theorem z_mp0 (g : z_P) (n : Nat) : z_mp g n 0 = z_sp g n := by
  funext k
  unfold z_mp
  rw [if_neg (by omega), if_neg (by omega)]
theorem z_mpn (g : z_P) (n : Nat) : z_mp g n n = z_mv g n := by
  funext k
  unfold z_mp z_mv z_sp
  by_cases h1 : 16 ≤ k ∧ k < 16 + n
  · rw [if_pos h1, if_pos h1]
  · rw [if_neg h1, if_neg h1]
    by_cases h2 : 20 ≤ k ∧ k < 20 + n
    · rw [if_pos h2, if_pos h2]
    · rw [if_neg h2, if_neg h2, if_neg h2]
def sp_placesOn (Ga : pm_Ga) : Prop := ∀ (p : Nat) (g : z_P) (D : pm_Mem) (post : pm_Post) (T : Int), p ≤ 260 → z_M D p (z_sp g (z_n g)) → z_G T g → (∀ D', z_M D' p (z_move g) → z_MG p D D' → D' 67 14 = D 67 14 + z_gone g (z_n g) → D' 67 15 = D 67 15 + z_stop g (z_n g) → post none D') → Ga 119 [.ref 67, .int (nI p)] D post
set_option maxHeartbeats 4000000 in
theorem t_placesOn {N : Nat} {Ga : pm_Ga} (hin : sp_in Ga) (ham : sp_amount Ga) : sp_placesOn (pm_up N Ga) := by
  intro p g D post T hp hM hG h
  obtain ⟨g1, g2, g3, g4, g5, g6, g7, g8⟩ := hG
  have i24 := z_ix1 p 24 24 (by decide)
  have i51 := z_ix1 p 51 51 (by decide)
  have t300 : (300 : Int64).toInt = 300 := rfl
  have t0 : (0 : Int64).toInt = 0 := rfl
  have u300 : (300 : Int32).toInt = 300 := rfl
  have u0 : (0 : Int32).toInt = 0 := rfl
  generalize hn : z_n g = n at *
  refine ⟨rfl, fun X hX => ?_⟩
  replace hX : ∀ pc L st D, pm_F N Ga tbX5_placesOn none post X pc L st D → X pc L st D := hX
  change X 0 [some (.ref 67), some (.int (nI p)), none, none, none] [] D
  iterate 2 (refine hX _ _ _ _ ?_; conv => whnf)
  have loop : ∀ (m b : Nat) (D1 : pm_Mem) (l3 l4 : Option Value), b + m = n → z_M D1 p (z_mp g n b) → z_MG p D D1 → D1 67 14 = D 67 14 + z_gone g b → D1 67 15 = D 67 15 + z_stop g b → X 2 [some (.ref 67), some (.int (nI p)), some (.int (nI b)), l3, l4] [] D1 := by
    intro m
    induction m with
    | zero =>
      intro b D1 l3 l4 hb f1 f2 f3 f4
      have hb : b = n := by omega
      subst hb
      have e24 : z_mp g b b 24 = nI b := by unfold z_mp z_sp; rw [if_neg (by omega), if_neg (by omega), if_neg (by omega), g1]
      have e51 : z_mp g b b 51 = g 51 := by unfold z_mp z_sp; rw [if_neg (by omega), if_neg (by omega), if_neg (by omega)]
      repeat (refine hX _ _ _ _ ?_; conv => whnf)
      rw [i24]
      refine ⟨vp_in_nI (by omega) (by decide), ?_⟩
      rw [nI_clamp (by omega), f1 _ (by omega), e24]
      repeat (refine hX _ _ _ _ ?_; conv => whnf)
      refine ⟨fun _ => ?_, fun z => absurd (nI_le (Nat.le_refl _) (by omega)) z⟩
      repeat (refine hX _ _ _ _ ?_; conv => whnf)
      rw [i51]
      refine ⟨vp_in_nI (by omega) (by decide), ?_⟩
      rw [nI_clamp (by omega), f1 _ (by omega), e51]
      repeat (refine hX _ _ _ _ ?_; conv => whnf)
      refine ⟨by decide, vp_in_nI (by omega) (by decide), ?_⟩
      rw [nI_clamp (by omega)]
      repeat (refine hX _ _ _ _ ?_; conv => whnf)
      refine h _ ?_ ⟨fun r h1 h2 => ?_, fun k h1 h2 => ?_, fun k hk => ?_⟩ ?_ ?_
      · have e : z_move g = z_up (z_mp g b b) 51 (g 51 + 1) := by unfold z_move; rw [hn, z_mpn]
        rw [e]
        exact z_M_mu f1
      · rw [pm_mu_ne _ _ _ h1]; exact f2.1 r h1 h2
      · rw [pm_mu_r _ _ _ _ (by decide)]; exact f2.2.1 k h1 h2
      · rw [pm_mu_k _ _ _ _ (by omega)]; exact f2.2.2 k hk
      · rw [pm_mu_r _ _ _ _ (by decide)]; exact f3
      · rw [pm_mu_r _ _ _ _ (by decide)]; exact f4
    | succ m ih =>
      intro b D1 l3 l4 hb f1 f2 f3 f4
      have hbn : b < n := by omega
      have i16 := z_ix p 16 b 16 (by decide)
      have i20 := z_ix p 20 b 20 (by decide)
      have e24 : z_mp g n b 24 = nI n := by unfold z_mp z_sp; rw [if_neg (by omega), if_neg (by omega), if_neg (by omega), g1]
      have e16 : z_mp g n b (16 + b) = g (16 + b) := by unfold z_mp z_sp; rw [if_neg (by omega), if_neg (by omega), if_neg (by omega)]
      have e20 : z_mp g n b (20 + b) = z_ns g b := by unfold z_mp z_sp; rw [if_neg (by omega), if_neg (by omega), if_pos (by omega), show 20 + b - 20 = b by omega]
      have eup : z_mp g n (b + 1) = z_up (z_up (z_mp g n b) (20 + b) (z_fs g b)) (16 + b) (z_np g b) := by
        funext k
        unfold z_up z_mp
        by_cases q : k = 16 + b
        · rw [if_pos q, if_pos (by omega), q, show 16 + b - 16 = b by omega]
        · rw [if_neg q]
          by_cases q2 : k = 20 + b
          · rw [if_pos q2, if_neg (by omega), if_pos (by omega), q2, show 20 + b - 20 = b by omega]
          · rw [if_neg q2]
            by_cases q3 : 16 ≤ k ∧ k < 16 + b
            · rw [if_pos q3, if_pos (by omega)]
            · rw [if_neg q3, if_neg (by omega)]
              by_cases q4 : 20 ≤ k ∧ k < 20 + b
              · rw [if_pos q4, if_pos (by omega)]
              · rw [if_neg q4, if_neg (by omega)]
      -- the place is written, how far is counted
      have s91 : ∀ (D2 : pm_Mem), z_M D2 p (z_up (z_mp g n b) (20 + b) (z_fs g b)) → z_MG p D D2 → D2 67 14 = D 67 14 + z_gone g b → D2 67 15 = D 67 15 + z_stop g (b + 1) → X 91 [some (.ref 67), some (.int (nI p)), some (.int (nI b)), some (.int (g (16 + b))), some (.int (z_np g b))] [] D2 := by
        intro D2 k1 k2 k3 k4
        repeat (refine hX _ _ _ _ ?_; conv => whnf)
        rw [i16]
        refine ⟨by decide, vp_in_nI (by omega) (by decide), ?_⟩
        rw [nI_clamp (by omega)]
        repeat (refine hX _ _ _ _ ?_; conv => whnf)
        refine ham _ _ _ ?_
        iterate 4 (refine hX _ _ _ _ ?_; conv => whnf)
        rw [nI_1]
        refine ih (b + 1) _ _ _ (by omega) ?_ ⟨fun r h1 h2 => ?_, fun k h1 h2 => ?_, fun k hk => ?_⟩ ?_ ?_
        · rw [eup]
          intro k hk
          rw [pm_mu_r _ _ _ _ (by decide)]
          exact z_M_mu k1 k hk
        · rw [pm_mu_ne _ _ _ h2, pm_mu_ne _ _ _ h1]; exact k2.1 r h1 h2
        · rw [pm_mu_k _ _ _ _ h1, pm_mu_r _ _ _ _ (by decide)]; exact k2.2.1 k h1 h2
        · rw [pm_mu_r _ _ _ _ (by decide), pm_mu_k _ _ _ _ (by omega)]; exact k2.2.2 k hk
        · rw [pm_mu_at, pm_mu_r _ _ _ _ (by decide), k3, Int32.add_assoc]; rfl
        · rw [pm_mu_k _ _ _ _ (by decide), pm_mu_r _ _ _ _ (by decide)]; exact k4
      repeat (refine hX _ _ _ _ ?_; conv => whnf)
      rw [i24]
      refine ⟨vp_in_nI (by omega) (by decide), ?_⟩
      rw [nI_clamp (by omega), f1 _ (by omega), e24]
      repeat (refine hX _ _ _ _ ?_; conv => whnf)
      refine ⟨fun z => absurd z (nI_ge (by omega) (by omega)), fun _ => ?_⟩
      repeat (refine hX _ _ _ _ ?_; conv => whnf)
      rw [i16]
      refine ⟨vp_in_nI (by omega) (by decide), ?_⟩
      rw [nI_clamp (by omega), f1 _ (by omega), e16]
      repeat (refine hX _ _ _ _ ?_; conv => whnf)
      rw [i20]
      refine ⟨vp_in_nI (by omega) (by decide), ?_⟩
      rw [nI_clamp (by omega), f1 _ (by omega), e20]
      repeat (refine hX _ _ _ _ ?_; conv => whnf)
      have hto : g (16 + b) + z_ns g b = z_to g b := rfl
      rw [hto]
      refine hin _ _ _ _ _ (fun a1 a2 => ?_) (fun a1 => ?_)
      · rw [z_64] at a1 a2
        have q1 : ¬ z_to g b < 0 := by rw [z_lt]; omega
        have q2 : ¬ 300 < z_to g b := by rw [z_lt]; omega
        have e1 : z_np g b = z_to g b := by unfold z_np; rw [if_neg q1, if_neg q2]
        have e2 : z_fs g b = z_ns g b := by unfold z_fs; rw [if_neg (fun z => z.elim q1 q2)]
        repeat (refine hX _ _ _ _ ?_; conv => whnf)
        refine ⟨fun _ => ?_, fun h => absurd h (by decide)⟩
        rw [← e1]
        refine s91 D1 ?_ f2 f3 ?_
        · have e : z_up (z_mp g n b) (20 + b) (z_fs g b) = z_mp g n b := by
            funext k
            unfold z_up
            split
            · rename_i q; rw [q, e20, e2]
            · rfl
          rw [e]
          exact f1
        · rw [f4]
          show _ = D 67 15 + (z_stop g b + if z_to g b < 0 ∨ 300 < z_to g b then 1 else 0)
          rw [if_neg (fun z => z.elim q1 q2), Int32.add_zero]
      · rw [z_64] at a1
        have q : z_to g b < 0 ∨ 300 < z_to g b := by
          rw [z_lt, z_lt]
          omega
        have e2 : z_fs g b = 0 := by unfold z_fs; rw [if_pos q]
        have s67 : X 67 [some (.ref 67), some (.int (nI p)), some (.int (nI b)), some (.int (g (16 + b))), some (.int (z_to g b))] [.int (z_np g b)] D1 := by
          repeat (refine hX _ _ _ _ ?_; conv => whnf)
          rw [i20]
          refine ⟨by decide, vp_in_nI (by omega) (by decide), ?_⟩
          rw [nI_clamp (by omega)]
          iterate 6 (refine hX _ _ _ _ ?_; conv => whnf)
          refine s91 _ ?_ ⟨fun r h1 h2 => ?_, fun k h1 h2 => ?_, fun k hk => ?_⟩ ?_ ?_
          · rw [e2]
            intro k hk
            rw [pm_mu_r _ _ _ _ (by decide)]
            exact z_M_mu f1 k hk
          · rw [pm_mu_ne _ _ _ h2, pm_mu_ne _ _ _ h1]; exact f2.1 r h1 h2
          · rw [pm_mu_k _ _ _ _ h2, pm_mu_r _ _ _ _ (by decide)]; exact f2.2.1 k h1 h2
          · rw [pm_mu_r _ _ _ _ (by decide), pm_mu_k _ _ _ _ (by omega)]; exact f2.2.2 k hk
          · rw [pm_mu_k _ _ _ _ (by decide), pm_mu_r _ _ _ _ (by decide)]; exact f3
          · rw [pm_mu_at, pm_mu_r _ _ _ _ (by decide), f4]
            show _ = D 67 15 + (z_stop g b + if z_to g b < 0 ∨ 300 < z_to g b then 1 else 0)
            rw [if_pos q, Int32.add_assoc]
        unfold z_np at s67
        repeat (refine hX _ _ _ _ ?_; conv => whnf)
        refine ⟨fun h => absurd h (by decide), fun _ => ?_⟩
        repeat (refine hX _ _ _ _ ?_; conv => whnf)
        refine ⟨fun q1 => ?_, fun q1 => ?_⟩
        · have q2 : ¬ z_to g b < 0 := by rw [z_le] at q1; rw [z_lt]; omega
          rw [if_neg q2, if_pos (q.elim (fun z => absurd z q2) id)] at s67
          iterate 1 (refine hX _ _ _ _ ?_; conv => whnf)
          exact s67
        · have q2 : z_to g b < 0 := by rw [z_le] at q1; rw [z_lt]; omega
          rw [if_pos q2] at s67
          iterate 2 (refine hX _ _ _ _ ?_; conv => whnf)
          exact s67
  refine loop n 0 D none none (by omega) ?_ ⟨fun _ _ _ => rfl, fun _ _ _ => rfl, fun _ _ => rfl⟩ (Int32.add_zero _).symm (Int32.add_zero _).symm
  rw [z_mp0]
  exact hM
def sp_movesOn (Ga : pm_Ga) : Prop := ∀ (p : Nat) (g g0 : z_P) (D : pm_Mem) (post : pm_Post) (T T0 : Int), p ≤ 260 → z_M D p g → z_G T g → ((p = 0 ∧ g0 = z_move g) ∨ (52 ≤ p ∧ z_M D 0 g0)) → z_G T0 g0 →
  (∀ D', z_M D' p (z_move g) → (∀ r, r ≠ 67 → r ≠ 68 → r ≠ 73 → D' r = D r) → (∀ k, k ≠ 14 → k ≠ 15 → k ≠ 16 → k ≠ 18 → D' 67 k = D 67 k) → (∀ k, (k < p ∨ p + 52 ≤ k) → D' 68 k = D 68 k) → D' 67 14 = D 67 14 + z_gone g (z_n g) → D' 67 15 = D 67 15 + z_stop g (z_n g) → (D' 67 16 = 0 ∨ D' 67 16 = 1) → (D' 67 16 = 1 ↔ ∃ b, b < z_n g ∧ z_fs g b ≠ g (20 + b)) → D' 67 18 = z_max (D 67 18) (z_sw g0 (z_move g)) → post none D') → Ga 121 [.ref 67, .int (nI p)] D post
set_option maxHeartbeats 4000000 in
theorem t_movesOn {N : Nat} {Ga : pm_Ga} (hsp : sp_speedsOn Ga) (hpl : sp_placesOn Ga) (hla : sp_lastOn Ga) (ham : sp_amount Ga) : sp_movesOn (pm_up N Ga) := by
  intro p g g0 D post T T0 hp hM hG h0 hG0 h
  have i24 := z_ix1 p 24 24 (by decide)
  have hn4 := hG.2.1
  refine ⟨rfl, fun X hX => ?_⟩
  replace hX : ∀ pc L st D, pm_F N Ga tbX5_movesOn none post X pc L st D → X pc L st D := hX
  change X 0 [some (.ref 67), some (.int (nI p)), none] [] D
  iterate 2 (refine hX _ _ _ _ ?_; conv => whnf)
  have fin : ∀ (D4 : pm_Mem) (l2 : Option Value), z_M D4 p (z_move g) → (∀ r, r ≠ 67 → r ≠ 68 → r ≠ 73 → D4 r = D r) → (∀ k, k ≠ 14 → k ≠ 15 → k ≠ 16 → D4 67 k = D 67 k) → (∀ k, (k < p ∨ p + 52 ≤ k) → D4 68 k = D 68 k) → D4 67 14 = D 67 14 + z_gone g (z_n g) → D4 67 15 = D 67 15 + z_stop g (z_n g) → (D4 67 16 = 0 ∨ D4 67 16 = 1) → (D4 67 16 = 1 ↔ ∃ b, b < z_n g ∧ z_fs g b ≠ g (20 + b)) → X 102 [some (.ref 67), some (.int (nI p)), l2] [] D4 := by
    intro D4 l2 k1 k2 k3 k4 k5 k6 k7 k8
    have hM0 : z_M D4 0 g0 := by
      rcases h0 with ⟨e1, e2⟩ | ⟨e1, e2⟩
      · rw [e2, ← e1]; exact k1
      · intro k hk
        rw [Nat.zero_add, k4 _ (by omega)]
        have := e2 k hk
        rwa [Nat.zero_add] at this
    repeat (refine hX _ _ _ _ ?_; conv => whnf)
    refine hla p (z_move g) D4 _ hp k1 (by rw [z_move_n hn4, z_move_lo hn4 (by omega)]; exact hG.1) (by rw [z_move_n hn4]; exact hn4) ?_
    repeat (refine hX _ _ _ _ ?_; conv => whnf)
    refine hla 0 g0 D4 _ (by omega) hM0 hG0.1 hG0.2.1 ?_
    repeat (refine hX _ _ _ _ ?_; conv => whnf)
    refine ham _ _ _ ?_
    have last : ∀ v : Int32, v = z_max (D 67 18) (z_sw g0 (z_move g)) → post none (pm_mu D4 67 18 v) := by
      intro v hv
      refine h _ ?_ (fun r h1 h2 h3 => ?_) (fun k h1 h2 h3 h4 => ?_) (fun k hk => ?_) ?_ ?_ ?_ ?_ ?_
      · intro k hk
        rw [pm_mu_r _ _ _ _ (by decide)]; exact k1 k hk
      · rw [pm_mu_ne _ _ _ h1]; exact k2 r h1 h2 h3
      · rw [pm_mu_k _ _ _ _ h4]; exact k3 k h1 h2 h3
      · rw [pm_mu_r _ _ _ _ (by decide)]; exact k4 k hk
      · rw [pm_mu_k _ _ _ _ (by decide)]; exact k5
      · rw [pm_mu_k _ _ _ _ (by decide)]; exact k6
      · rw [pm_mu_k _ _ _ _ (by decide)]; exact k7
      · rw [pm_mu_k _ _ _ _ (by decide)]; exact k8
      · rw [pm_mu_at]; exact hv
    have hs : z_abs (z_last (z_move g) - z_last g0) = z_sw g0 (z_move g) := rfl
    rw [hs]
    repeat (refine hX _ _ _ _ ?_; conv => whnf)
    rw [k3 18 (by decide) (by decide) (by decide)]
    refine ⟨fun q1 => ?_, fun q1 => ?_⟩
    · repeat (refine hX _ _ _ _ ?_; conv => whnf)
      rw [k3 18 (by decide) (by decide) (by decide)]
      exact last _ (by unfold z_max pm_max; rw [if_neg (by rw [z_le] at q1; rw [z_lt]; omega)])
    · repeat (refine hX _ _ _ _ ?_; conv => whnf)
      exact last _ (by unfold z_max pm_max; rw [if_pos (by rw [z_le] at q1; rw [z_lt]; omega)])
  have loop2 : ∀ (m b : Nat) (D4 : pm_Mem), b + m = z_n g → z_M D4 p (z_move g) → (∀ r, r ≠ 67 → r ≠ 68 → r ≠ 73 → D4 r = D r) → (∀ j, j < 4 → D4 73 j = g (20 + j)) → (∀ k, k ≠ 14 → k ≠ 15 → k ≠ 16 → D4 67 k = D 67 k) → (∀ k, (k < p ∨ p + 52 ≤ k) → D4 68 k = D 68 k) → D4 67 14 = D 67 14 + z_gone g (z_n g) → D4 67 15 = D 67 15 + z_stop g (z_n g) → (D4 67 16 = 0 ∨ D4 67 16 = 1) → (D4 67 16 = 1 ↔ ∃ j, j < b ∧ z_fs g j ≠ g (20 + j)) → X 47 [some (.ref 67), some (.int (nI p)), some (.int (nI b))] [] D4 := by
    intro m
    induction m with
    | zero =>
      intro b D4 hb k1 k2 k9 k3 k4 k5 k6 k7 k8
      have hb : b = z_n g := by omega
      repeat (refine hX _ _ _ _ ?_; conv => whnf)
      rw [i24]
      refine ⟨vp_in_nI (by omega) (by decide), ?_⟩
      rw [nI_clamp (by omega), k1 _ (by omega), z_move_lo hn4 (by omega), hG.1, hb]
      repeat (refine hX _ _ _ _ ?_; conv => whnf)
      refine ⟨fun _ => ?_, fun z => absurd (nI_le (Nat.le_refl _) (by omega)) z⟩
      rw [hb] at k8
      exact fin D4 _ k1 k2 k3 k4 k5 k6 k7 k8
    | succ m ih =>
      intro b D4 hb k1 k2 k9 k3 k4 k5 k6 k7 k8
      have hbn : b < z_n g := by omega
      have i20 := z_ix p 20 b 20 (by decide)
      have hst : (∃ j, j < b + 1 ∧ z_fs g j ≠ g (20 + j)) ↔ (∃ j, j < b ∧ z_fs g j ≠ g (20 + j)) ∨ z_fs g b ≠ g (20 + b) := by
        constructor
        · rintro ⟨j, hj, hq⟩
          by_cases e : j = b
          · subst e; exact Or.inr hq
          · exact Or.inl ⟨j, by omega, hq⟩
        · rintro (⟨j, hj, hq⟩ | hq)
          · exact ⟨j, by omega, hq⟩
          · exact ⟨b, by omega, hq⟩
      have nxt : ∀ v : Int32, (v = 0 ∨ v = 1) → (v = 1 ↔ (∃ j, j < b + 1 ∧ z_fs g j ≠ g (20 + j))) → X 96 [some (.ref 67), some (.int (nI p)), some (.int (nI b))] [] (pm_mu D4 67 16 v) := by
        intro v v1 v2
        iterate 2 (refine hX _ _ _ _ ?_; conv => whnf)
        rw [nI_1]
        refine ih (b + 1) _ (by omega) ?_ (fun r h1 h2 h3 => ?_) (fun j hj => ?_) (fun k h1 h2 h3 => ?_) (fun k hk => ?_) ?_ ?_ ?_ ?_
        · intro k hk
          rw [pm_mu_r _ _ _ _ (by decide)]; exact k1 k hk
        · rw [pm_mu_ne _ _ _ h1]; exact k2 r h1 h2 h3
        · rw [pm_mu_r _ _ _ _ (by decide)]; exact k9 j hj
        · rw [pm_mu_k _ _ _ _ h3]; exact k3 k h1 h2 h3
        · rw [pm_mu_r _ _ _ _ (by decide)]; exact k4 k hk
        · rw [pm_mu_k _ _ _ _ (by decide)]; exact k5
        · rw [pm_mu_k _ _ _ _ (by decide)]; exact k6
        · rw [pm_mu_at]; exact v1
        · rw [pm_mu_at]; exact v2
      repeat (refine hX _ _ _ _ ?_; conv => whnf)
      rw [i24]
      refine ⟨vp_in_nI (by omega) (by decide), ?_⟩
      rw [nI_clamp (by omega), k1 _ (by omega), z_move_lo hn4 (by omega), hG.1]
      repeat (refine hX _ _ _ _ ?_; conv => whnf)
      refine ⟨fun z => absurd z (nI_ge (by omega) (by omega)), fun _ => ?_⟩
      repeat (refine hX _ _ _ _ ?_; conv => whnf)
      refine ⟨fun q1 => ?_, fun q1 => ?_⟩
      · repeat (refine hX _ _ _ _ ?_; conv => whnf)
        refine ⟨Or.inr rfl, ?_⟩
        exact nxt 1 (Or.inr rfl) ⟨fun _ => hst.mpr (Or.inl (k8.mp (k7.elim (fun z => absurd z q1) id))), fun _ => rfl⟩
      · repeat (refine hX _ _ _ _ ?_; conv => whnf)
        rw [i20]
        refine ⟨vp_in_nI (by omega) (by decide), ?_⟩
        rw [nI_clamp (by omega), k1 _ (by omega), z_move_s hn4 hbn]
        repeat (refine hX _ _ _ _ ?_; conv => whnf)
        refine ⟨vp_in_nI (by omega) (by decide), ?_⟩
        rw [nI_clamp (by omega), k9 b (by omega)]
        have n1 : ¬ ∃ j, j < b ∧ z_fs g j ≠ g (20 + j) := fun z => by
          have := k8.mpr z
          rw [q1] at this
          exact absurd this (by decide)
        repeat (refine hX _ _ _ _ ?_; conv => whnf)
        refine ⟨fun q2 => ?_, fun q2 => ?_⟩
        · repeat (refine hX _ _ _ _ ?_; conv => whnf)
          refine ⟨Or.inl rfl, ?_⟩
          exact nxt 0 (Or.inl rfl) ⟨fun z => absurd z (by decide), fun z => (hst.mp z).elim (fun z => absurd z n1) (fun z => absurd q2 z)⟩
        · repeat (refine hX _ _ _ _ ?_; conv => whnf)
          refine ⟨Or.inr rfl, ?_⟩
          exact nxt 1 (Or.inr rfl) ⟨fun _ => hst.mpr (Or.inr q2), fun _ => rfl⟩
  have loop1 : ∀ (m b : Nat) (D1 : pm_Mem), b + m = 4 → (∀ r, r ≠ 73 → D1 r = D r) → (∀ j, j < b → D1 73 j = g (20 + j)) → X 2 [some (.ref 67), some (.int (nI p)), some (.int (nI b))] [] D1 := by
    intro m
    induction m with
    | zero =>
      intro b D1 hb f1 f2
      have hb : b = 4 := by omega
      subst hb
      repeat (refine hX _ _ _ _ ?_; conv => whnf)
      refine ⟨fun _ => ?_, fun z => absurd (by decide : (4 : Int32) ≤ nI 4) z⟩
      repeat (refine hX _ _ _ _ ?_; conv => whnf)
      refine hsp p g D1 _ T hp (fun k hk => by rw [f1 _ (by decide)]; exact hM k hk) hG (fun D2 e1 e2 => ?_)
      repeat (refine hX _ _ _ _ ?_; conv => whnf)
      refine hpl p g D2 _ T hp e1 hG (fun D3 c1 c2 c3 c4 => ?_)
      repeat (refine hX _ _ _ _ ?_; conv => whnf)
      refine ⟨Or.inl rfl, ?_⟩
      iterate 2 (refine hX _ _ _ _ ?_; conv => whnf)
      refine loop2 (z_n g) 0 _ (by omega) ?_ (fun r h1 h2 h3 => ?_) (fun j hj => ?_) (fun k h1 h2 h3 => ?_) (fun k hk => ?_) ?_ ?_ ?_ ?_
      · intro k hk
        rw [pm_mu_r _ _ _ _ (by decide)]; exact c1 k hk
      · rw [pm_mu_ne _ _ _ h1, c2.1 r h2 h1, e2.1 r h2, f1 r h3]
      · rw [pm_mu_r _ _ _ _ (by decide), c2.1 _ (by decide) (by decide), e2.1 _ (by decide)]; exact f2 j hj
      · rw [pm_mu_k _ _ _ _ h3, c2.2.1 k h1 h2, e2.1 _ (by decide), f1 _ (by decide)]
      · rw [pm_mu_r _ _ _ _ (by decide), c2.2.2 k hk, e2.2 k hk, f1 _ (by decide)]
      · rw [pm_mu_k _ _ _ _ (by decide), c3, e2.1 _ (by decide), f1 _ (by decide)]
      · rw [pm_mu_k _ _ _ _ (by decide), c4, e2.1 _ (by decide), f1 _ (by decide)]
      · rw [pm_mu_at]; exact Or.inl rfl
      · rw [pm_mu_at]
        exact ⟨fun z => absurd z (by decide), fun ⟨j, hj, _⟩ => by omega⟩
    | succ m ih =>
      intro b D1 hb f1 f2
      have i20 := z_ix p 20 b 20 (by decide)
      repeat (refine hX _ _ _ _ ?_; conv => whnf)
      refine ⟨fun z => absurd z (nI_ge (a := b) (b := 4) (by omega) (by omega)), fun _ => ?_⟩
      repeat (refine hX _ _ _ _ ?_; conv => whnf)
      rw [i20]
      refine ⟨vp_in_nI (by omega) (by decide), ?_⟩
      rw [nI_clamp (by omega), f1 _ (by decide), hM _ (by omega)]
      repeat (refine hX _ _ _ _ ?_; conv => whnf)
      refine ⟨by decide, vp_in_nI (by omega) (by decide), ?_⟩
      rw [nI_clamp (by omega)]
      iterate 2 (refine hX _ _ _ _ ?_; conv => whnf)
      rw [nI_1]
      refine ih (b + 1) _ (by omega) (fun r hr => by rw [pm_mu_ne _ _ _ hr]; exact f1 r hr) (fun j hj => ?_)
      rw [pm_mu_eq, if_pos rfl]
      split
      · rename_i e; rw [e]
      · exact f2 j (by omega)
  exact loop1 4 0 D (by omega) (fun _ _ => rfl) (fun j hj => by omega)
