theorem z_M_mu {D : pm_Mem} {p k : Nat} {g : z_P} {v : Int32} (h : z_M D p g) : z_M (pm_mu D 68 (p + k) v) p (z_up g k v) := by
  intro j hj
  rw [pm_mu_eq, if_pos rfl]
  by_cases e : j = k
  · rw [if_pos (by omega), e, z_up_at]
  · rw [if_neg (by omega), z_up_ne g v e]; exact h j hj
theorem z_MF_mu {D : pm_Mem} {p k : Nat} {v : Int32} (hk : k < 52) : z_MF p D (pm_mu D 68 (p + k) v) := ⟨fun r hr => pm_mu_ne _ _ _ hr, fun j hj => pm_mu_k _ _ _ _ (by omega)⟩
theorem z_MF.trans {p : Nat} {D D1 D2 : pm_Mem} (h1 : z_MF p D D1) (h2 : z_MF p D1 D2) : z_MF p D D2 := ⟨fun r hr => (h2.1 r hr).trans (h1.1 r hr), fun k hk => (h2.2 k hk).trans (h1.2 k hk)⟩
theorem z_MF.rf {p : Nat} {D : pm_Mem} : z_MF p D D := ⟨fun _ _ => rfl, fun _ _ => rfl⟩
theorem z_M.off {D D' : pm_Mem} {p q : Nat} {g : z_P} (h : z_M D q g) (hF : z_MF p D D') (hq : q + 52 ≤ p ∨ p + 52 ≤ q) : z_M D' q g := fun k hk => by rw [hF.2 _ (by omega)]; exact h k hk
def sp_knockOn (Ga : pm_Ga) : Prop := ∀ (p : Nat) (b v : Int32) (g : z_P) (D : pm_Mem) (post : pm_Post), p ≤ 260 → 0 ≤ b → z_M D p g → g 24 = nI (z_n g) → z_n g ≤ 4 → (∀ D', z_M D' p (z_hit g b v) → z_MF p D D' → post none D') → Ga 117 [.ref 67, .int (nI p), .int b, .int v] D post
set_option maxHeartbeats 2000000 in
theorem t_knockOn {N : Nat} {Ga : pm_Ga} (hsp : sp_speedOf Ga) : sp_knockOn (pm_up N Ga) := by
  intro p b v g D post hp hb hM hn hn4 h
  have i24 := z_ix1 p 24 24 (by decide)
  refine ⟨rfl, fun X hX => ?_⟩
  replace hX : ∀ pc L st D, pm_F N Ga tbX5_knockOn none post X pc L st D → X pc L st D := hX
  change X 0 [some (.ref 67), some (.int (nI p)), some (.int b), some (.int v)] [] D
  repeat (refine hX _ _ _ _ ?_; conv => whnf)
  rw [i24]
  refine ⟨vp_in_nI (by omega) (by decide), ?_⟩
  rw [nI_clamp (by omega), hM _ (by omega)]
  repeat (refine hX _ _ _ _ ?_; conv => whnf)
  refine ⟨fun q1 => ?_, fun q1 => ?_⟩
  · repeat (refine hX _ _ _ _ ?_; conv => whnf)
    have e : z_hit g b v = g := by
      unfold z_hit
      rw [if_neg (fun z => by have z2 := z_lt.mp z.2; have q1 := z_le.mp q1; omega)]
    exact h D (by rw [e]; exact hM) .rf
  · have q2 : b < g 24 := by rw [z_le] at q1; rw [z_lt]; omega
    have q3 := z_lt.mp q2
    rw [hn, z_tI (by omega)] at q3
    have hb0 : (0 : Int) ≤ b.toInt := z_le.mp hb
    obtain ⟨j, e1, e2, e3, e4⟩ := z_of (x := b) (a := 0) (b := 3) ⟨hb0, by omega⟩ (by omega) (by omega)
    have i20 := z_ix p 20 j 20 (by decide)
    have e : z_hit g b v = z_up g (20 + j) (z_clamp (g (20 + j) + v)) := by
      unfold z_hit
      rw [if_pos ⟨hb, q2⟩, e4]
    repeat (refine hX _ _ _ _ ?_; conv => whnf)
    rw [e1, i20]
    refine ⟨vp_in_nI (by omega) (by decide), ?_⟩
    rw [nI_clamp (by omega), hM _ (by omega)]
    repeat (refine hX _ _ _ _ ?_; conv => whnf)
    refine hsp _ _ _ ?_
    repeat (refine hX _ _ _ _ ?_; conv => whnf)
    refine ⟨by decide, vp_in_nI (by omega) (by decide), ?_⟩
    rw [nI_clamp (by omega)]
    repeat (refine hX _ _ _ _ ?_; conv => whnf)
    exact h _ (by rw [e]; exact z_M_mu hM) (z_MF_mu (by omega))
def sp_lastOn (Ga : pm_Ga) : Prop := ∀ (p : Nat) (g : z_P) (D : pm_Mem) (post : pm_Post), p ≤ 260 → z_M D p g → g 24 = nI (z_n g) → z_n g ≤ 4 → post (some (.int (z_last g))) D → Ga 120 [.ref 67, .int (nI p)] D post
set_option maxHeartbeats 2000000 in
theorem t_lastOn {N : Nat} {Ga : pm_Ga} : sp_lastOn (pm_up N Ga) := by
  intro p g D post hp hM hn hn4 h
  have i24 := z_ix1 p 24 24 (by decide)
  unfold z_last at h
  refine ⟨rfl, fun X hX => ?_⟩
  replace hX : ∀ pc L st D, pm_F N Ga tbX5_lastOn (some .int) post X pc L st D → X pc L st D := hX
  change X 0 [some (.ref 67), some (.int (nI p))] [] D
  repeat (refine hX _ _ _ _ ?_; conv => whnf)
  rw [i24]
  refine ⟨vp_in_nI (by omega) (by decide), ?_⟩
  rw [nI_clamp (by omega), hM _ (by omega), hn]
  repeat (refine hX _ _ _ _ ?_; conv => whnf)
  refine ⟨fun q1 => ?_, fun q1 => ?_⟩
  · have q1 : ¬ z_n g = 0 := fun z => q1 (by rw [z]; rfl)
    rw [if_neg q1] at h
    repeat (refine hX _ _ _ _ ?_; conv => whnf)
    rw [i24]
    refine ⟨vp_in_nI (by omega) (by decide), ?_⟩
    rw [nI_clamp (by omega), hM _ (by omega), hn]
    repeat (refine hX _ _ _ _ ?_; conv => whnf)
    rw [z_ix p 16 (z_n g) 16 (by decide), z_sub1 (by omega)]
    refine ⟨vp_in_nI (by omega) (by decide), ?_⟩
    rw [nI_clamp (by omega), show p + (16 + z_n g) - 1 = p + (15 + z_n g) by omega, hM _ (by omega)]
    repeat (refine hX _ _ _ _ ?_; conv => whnf)
    exact h
  · have q1 : z_n g = 0 := by
      rw [z_eq, z_tI (by omega)] at q1
      have : (z_n g : Int) = 0 := q1
      omega
    rw [if_pos q1] at h
    repeat (refine hX _ _ _ _ ?_; conv => whnf)
    exact h
/-- the first n beads have their new speeds -/
def z_sp (g : z_P) (n : Nat) : z_P := fun k => if 20 ≤ k ∧ k < 20 + n then z_ns g (k - 20) else g k
theorem z_sp_st (g : z_P) (n b : Nat) (hb : b < 4) : z_st (z_sp g n) b = z_st g b := by
  unfold z_st z_sp
  rw [if_neg (by omega), if_neg (show ¬ (20 ≤ 15 + b ∧ _) by omega), if_neg (show ¬ (20 ≤ 4 + b ∧ _) by omega)]
theorem z_sp_pull (g : z_P) (n b : Nat) (hb : b < 4) : z_pull (z_sp g n) b = z_pull g b := by
  unfold z_pull
  rw [z_sp_st g n b hb]
  have e1 : z_sp g n b = g b := by unfold z_sp; rw [if_neg (by omega)]
  have e2 : z_sp g n (8 + b) = g (8 + b) := by unfold z_sp; rw [if_neg (by omega)]
  rw [e1, e2]
def sp_speedsOn (Ga : pm_Ga) : Prop := ∀ (p : Nat) (g : z_P) (D : pm_Mem) (post : pm_Post) (T : Int), p ≤ 260 → z_M D p g → z_G T g → (∀ D', z_M D' p (z_sp g (z_n g)) → z_MF p D D' → post none D') → Ga 118 [.ref 67, .int (nI p)] D post
set_option maxHeartbeats 4000000 in
theorem t_speedsOn {N : Nat} {Ga : pm_Ga} (hpu : sp_pullOn Ga) (hso : sp_speedOf Ga) : sp_speedsOn (pm_up N Ga) := by
  intro p g D post T hp hM hG h
  obtain ⟨g1, g2, g3, g4, g5, g6, g7, g8⟩ := hG
  have i24 := z_ix1 p 24 24 (by decide)
  have i50 := z_ix1 p 50 50 (by decide)
  refine ⟨rfl, fun X hX => ?_⟩
  replace hX : ∀ pc L st D, pm_F N Ga tbX5_speedsOn none post X pc L st D → X pc L st D := hX
  change X 0 [some (.ref 67), some (.int (nI p)), none, none, none, none, none] [] D
  repeat (refine hX _ _ _ _ ?_; conv => whnf)
  rw [i24]
  refine ⟨vp_in_nI (by omega) (by decide), ?_⟩
  rw [nI_clamp (by omega), hM _ (by omega), g1]
  repeat (refine hX _ _ _ _ ?_; conv => whnf)
  rw [i50]
  refine ⟨vp_in_nI (by omega) (by decide), ?_⟩
  rw [nI_clamp (by omega), hM _ (by omega)]
  iterate 3 (refine hX _ _ _ _ ?_; conv => whnf)
  have loop : ∀ (m b : Nat) (D1 : pm_Mem) (l5 l6 : Option Value), b + m = z_n g → z_M D1 p (z_sp g b) → z_MF p D D1 → X 23 [some (.ref 67), some (.int (nI p)), some (.int (nI (z_n g))), some (.int (g 50)), some (.int (nI b)), l5, l6] [] D1 := by
    intro m
    induction m with
    | zero =>
      intro b D1 l5 l6 hb f1 f2
      have hb : b = z_n g := by omega
      repeat (refine hX _ _ _ _ ?_; conv => whnf)
      rw [hb]
      refine ⟨fun _ => ?_, fun z => absurd (nI_le (Nat.le_refl _) (by omega)) z⟩
      repeat (refine hX _ _ _ _ ?_; conv => whnf)
      rw [hb] at f1
      exact h D1 f1 f2
    | succ m ih =>
      intro b D1 l5 l6 hb f1 f2
      have hbn : b < z_n g := by omega
      obtain ⟨k1, k2, k3, k4, k5, k6⟩ := g7 b hbn
      have i12 := z_ix p 12 b 12 (by decide)
      have i20 := z_ix p 20 b 20 (by decide)
      have hw : (10 * g (12 + b)).toInt = 10 * (g (12 + b)).toInt := z_mul (x := 10) (by have := k4.1; have := k4.2; show _ ≤ 10 * _; omega) (by have := k4.1; have := k4.2; show 10 * _ ≤ _; omega)
      have e12 : z_sp g b (12 + b) = g (12 + b) := by unfold z_sp; rw [if_neg (by omega)]
      have e20 : z_sp g b (20 + b) = g (20 + b) := by unfold z_sp; rw [if_neg (by omega)]
      have s123 : ∀ l5 : Option Value, X 123 [some (.ref 67), some (.int (nI p)), some (.int (nI (z_n g))), some (.int (g 50)), some (.int (nI b)), l5, some (.int (z_slow (g (20 + b) + (z_pn g (b + 1) - z_pull g b) / (10 * g (12 + b))) (g 50)))] [] D1 := by
        intro l5
        repeat (refine hX _ _ _ _ ?_; conv => whnf)
        refine hso _ _ _ ?_
        repeat (refine hX _ _ _ _ ?_; conv => whnf)
        rw [i20]
        refine ⟨by decide, vp_in_nI (by omega) (by decide), ?_⟩
        rw [nI_clamp (by omega)]
        iterate 2 (refine hX _ _ _ _ ?_; conv => whnf)
        rw [nI_1]
        refine ih (b + 1) _ _ _ (by omega) ?_ (f2.trans (z_MF_mu (by omega)))
        have e : z_sp g (b + 1) = z_up (z_sp g b) (20 + b) (z_ns g b) := by
          funext k
          unfold z_up z_sp
          by_cases q : k = 20 + b
          · rw [if_pos q, if_pos (by omega), q, show 20 + b - 20 = b by omega]
          · rw [if_neg q]
            by_cases q2 : 20 ≤ k ∧ k < 20 + b
            · rw [if_pos (by omega), if_pos q2]
            · rw [if_neg (by omega), if_neg q2]
        rw [e]
        exact z_M_mu f1
      have s50 : X 50 [some (.ref 67), some (.int (nI p)), some (.int (nI (z_n g))), some (.int (g 50)), some (.int (nI b)), l5, l6] [.int (z_pn g (b + 1))] D1 := by
        repeat (refine hX _ _ _ _ ?_; conv => whnf)
        refine hpu p b (z_sp g b) D1 _ hp (by omega) f1 ?_
        rw [z_sp_pull g b b (by omega)]
        repeat (refine hX _ _ _ _ ?_; conv => whnf)
        rw [i12]
        refine ⟨vp_in_nI (by omega) (by decide), ?_⟩
        rw [nI_clamp (by omega), f1 _ (by omega), e12]
        repeat (refine hX _ _ _ _ ?_; conv => whnf)
        refine ⟨by rw [z_eq, hw]; have := k4.1; show ¬ _ = (0 : Int); omega, ?_⟩
        repeat (refine hX _ _ _ _ ?_; conv => whnf)
        rw [i20]
        refine ⟨vp_in_nI (by omega) (by decide), ?_⟩
        rw [nI_clamp (by omega), f1 _ (by omega), e20]
        have s123 := s123 (some (.int ((z_pn g (b + 1) - z_pull g b) / (10 * g (12 + b)))))
        unfold z_slow at s123
        repeat (refine hX _ _ _ _ ?_; conv => whnf)
        obtain ⟨v, hv⟩ : ∃ v, v = g (20 + b) + (z_pn g (b + 1) - z_pull g b) / (10 * g (12 + b)) := ⟨_, rfl⟩
        rw [← hv] at s123 ⊢
        refine ⟨fun q1 => ?_, fun q1 => ?_⟩
        · repeat (refine hX _ _ _ _ ?_; conv => whnf)
          rw [if_neg (by rw [z_le] at q1; rw [z_lt]; omega)] at s123
          refine ⟨fun q2 => ?_, fun q2 => ?_⟩
          · rw [if_neg (by rw [z_le] at q2; rw [z_lt]; omega)] at s123
            iterate 2 (refine hX _ _ _ _ ?_; conv => whnf)
            exact s123
          · rw [if_pos (by rw [z_le] at q2; rw [z_lt]; omega)] at s123
            iterate 5 (refine hX _ _ _ _ ?_; conv => whnf)
            exact s123
        · rw [if_pos (by rw [z_le] at q1; rw [z_lt]; omega)] at s123
          iterate 5 (refine hX _ _ _ _ ?_; conv => whnf)
          exact s123
      repeat (refine hX _ _ _ _ ?_; conv => whnf)
      refine ⟨fun z => absurd z (nI_ge (by omega) (by omega)), fun _ => ?_⟩
      repeat (refine hX _ _ _ _ ?_; conv => whnf)
      rw [nI_1]
      refine ⟨fun q1 => ?_, fun q1 => ?_⟩
      · have q1 : ¬ b + 1 < z_n g := by rw [z_lei (by omega) (by omega)] at q1; omega
        have e : z_pn g (b + 1) = 0 := by unfold z_pn; rw [if_neg q1]
        rw [e] at s50
        iterate 1 (refine hX _ _ _ _ ?_; conv => whnf)
        exact s50
      · have q1 : b + 1 < z_n g := by rw [z_lei (by omega) (by omega)] at q1; omega
        have e : z_pn g (b + 1) = z_pull g (b + 1) := by unfold z_pn; rw [if_pos q1]
        rw [e] at s50
        repeat (refine hX _ _ _ _ ?_; conv => whnf)
        rw [nI_1]
        refine hpu p (b + 1) (z_sp g b) D1 _ hp (by omega) f1 ?_
        rw [z_sp_pull g b (b + 1) (by omega)]
        iterate 1 (refine hX _ _ _ _ ?_; conv => whnf)
        exact s50
  refine loop (z_n g) 0 D none none (by omega) ?_ .rf
  have e : z_sp g 0 = g := by
    funext k
    unfold z_sp
    rw [if_neg (by omega)]
  rw [e]
  exact hM
