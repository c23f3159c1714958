theorem z_nI0 : nI 0 = 0 := nI_0
theorem z_le0 {n : Nat} (h : n < 2 ^ 31) : nI n ≤ 0 ↔ n = 0 := by
  rw [z_le, z_tI h]
  show (n : Int) ≤ 0 ↔ _
  omega
theorem z_lei {a b : Nat} (ha : a < 2 ^ 31) (hb : b < 2 ^ 31) : nI a ≤ nI b ↔ a ≤ b := nI_leI ha hb
theorem z_sub1 {n : Nat} (h : 0 < n) : nI n - 1 = nI (n - 1) := by
  obtain ⟨m, rfl⟩ : ∃ m, n = m + 1 := ⟨n - 1, by omega⟩
  exact nI_pred m
theorem z_Rb {D : pm_Mem} {c : Nat} {g : z_P} (h : z_R D c g) {b : Nat} (hb : b < z_n g) : D (c + 1) b = g b ∧ D (c + 2) b = g (4 + b) ∧ D (c + 3) b = g (8 + b) ∧ D (c + 4) b = g (12 + b) ∧ D (c + 5) b = g (16 + b) ∧ D (c + 6) b = g (20 + b) := h.2.2.2.2.1 b hb
set_option maxHeartbeats 2000000 in
theorem t_stretchOf {N : Nat} {Ga : pm_Ga} {c b : Nat} {g : z_P} {D : pm_Mem} {post : pm_Post} (hc : c ∈ pm_chs) (hb : b < 4) (h2 : D (c + 2) b = g (4 + b)) (h5 : ∀ j, j ≤ b → D (c + 5) j = g (16 + j)) (h : post (some (.int (z_st g b))) D) : pm_up N Ga 11 [.ref c, .int (nI b)] D post := by
  have hin : vp_in (nI b) 4 := vp_in_nI hb (by decide)
  have hcl : (nI b).toNatClampNeg = b := nI_clamp (by omega)
  unfold z_st at h
  rcases pm_chs_of hc with rfl | rfl | rfl | rfl <;> (
    simp only [Nat.reduceAdd] at h2 h5
    refine ⟨rfl, fun X hX => ?_⟩
    replace hX : ∀ pc L st D, pm_F N Ga tbX0_stretchOf (some .int) post X pc L st D → X pc L st D := hX
    change X 0 [some (.ref _), some (.int (nI b)), none] [] D
    repeat (refine hX _ _ _ _ ?_; conv => whnf)
    refine ⟨fun q1 => ?_, fun q1 => ?_⟩
    · have q1 := (z_le0 (by omega)).mp q1
      repeat (refine hX _ _ _ _ ?_; conv => whnf)
      refine ⟨hin, ?_⟩
      repeat (refine hX _ _ _ _ ?_; conv => whnf)
      refine ⟨hin, ?_⟩
      repeat (refine hX _ _ _ _ ?_; conv => whnf)
      rw [hcl, h5 b (by omega), h2]
      rw [if_pos q1] at h
      exact h
    · have q1 : ¬ b = 0 := fun z => q1 ((z_le0 (by omega)).mpr z)
      repeat (refine hX _ _ _ _ ?_; conv => whnf)
      rw [z_sub1 (by omega)]
      refine ⟨vp_in_nI (by omega) (by decide), ?_⟩
      repeat (refine hX _ _ _ _ ?_; conv => whnf)
      refine ⟨hin, ?_⟩
      repeat (refine hX _ _ _ _ ?_; conv => whnf)
      refine ⟨hin, ?_⟩
      repeat (refine hX _ _ _ _ ?_; conv => whnf)
      rw [hcl, nI_clamp (show b - 1 < 2 ^ 31 by omega), h5 b (by omega), h5 (b - 1) (by omega), h2]
      rw [if_neg q1, show 15 + b = 16 + (b - 1) by omega] at h
      exact h)
set_option maxHeartbeats 2000000 in
theorem t_pullOf {N : Nat} {Ga : pm_Ga} {c b : Nat} {g : z_P} {D : pm_Mem} {post : pm_Post} (hst : ∀ c b g D post, c ∈ pm_chs → b < 4 → D (c + 2) b = g (4 + b) → (∀ j, j ≤ b → D (c + 5) j = g (16 + j)) → post (some (.int (z_st g b))) D → Ga 11 [.ref c, .int (nI b)] D post)
    (hwi : ∀ v a b D post, (a ≤ v → v ≤ b → post (some (.int 1)) D) → (¬ (a ≤ v ∧ v ≤ b) → post (some (.int 0)) D) → Ga 97 [.int v, .int a, .int b] D post)
    (hc : c ∈ pm_chs) (hb : b < 4) (hk : z_in (g b) 0 3) (h1 : D (c + 1) b = g b) (h2 : D (c + 2) b = g (4 + b)) (h3 : D (c + 3) b = g (8 + b)) (h5 : ∀ j, j ≤ b → D (c + 5) j = g (16 + j)) (h : post (some (.int (z_pull g b))) D) : pm_up N Ga 12 [.ref c, .int (nI b)] D post := by
  have hin : vp_in (nI b) 4 := vp_in_nI hb (by decide)
  have hcl : (nI b).toNatClampNeg = b := nI_clamp (by omega)
  have t1 : (1 : Int32).toInt = 1 := rfl
  have t2 : (2 : Int32).toInt = 2 := rfl
  have t3 : (3 : Int32).toInt = 3 := rfl
  have t0 : (0 : Int32).toInt = 0 := rfl
  obtain ⟨hk1, hk2⟩ := hk
  unfold z_pull at h
  rcases pm_chs_of hc with rfl | rfl | rfl | rfl <;> (
    simp only [Nat.reduceAdd] at h1 h2 h3 h5
    refine ⟨rfl, fun X hX => ?_⟩
    replace hX : ∀ pc L st D, pm_F N Ga tbX0_pullOf (some .int) post X pc L st D → X pc L st D := hX
    change X 0 [some (.ref _), some (.int (nI b)), none, none] [] D
    repeat (refine hX _ _ _ _ ?_; conv => whnf)
    refine hst _ b g D _ hc hb h2 h5 ?_
    repeat (refine hX _ _ _ _ ?_; conv => whnf)
    refine ⟨hin, ?_⟩
    repeat (refine hX _ _ _ _ ?_; conv => whnf)
    rw [hcl, h1]
    refine ⟨fun q => ?_, fun q => ?_, fun q => ?_, fun q => ?_, trivial⟩
    · have hk0 : (g b).toInt = 0 := by omega
      repeat (refine hX _ _ _ _ ?_; conv => whnf)
      refine ⟨fun _ => ?_, fun h => absurd h (by decide)⟩
      repeat (refine hX _ _ _ _ ?_; conv => whnf)
      refine ⟨hin, ?_⟩
      repeat (refine hX _ _ _ _ ?_; conv => whnf)
      rw [hcl, h3]
      rw [if_neg (by simp only [z_eq]; omega)] at h
      exact h
    · repeat (refine hX _ _ _ _ ?_; conv => whnf)
      refine ⟨fun q2 => ?_, fun q2 => ?_⟩
      · repeat (refine hX _ _ _ _ ?_; conv => whnf)
        refine ⟨fun _ => ?_, fun h => absurd h (by decide)⟩
        repeat (refine hX _ _ _ _ ?_; conv => whnf)
        refine ⟨hin, ?_⟩
        repeat (refine hX _ _ _ _ ?_; conv => whnf)
        rw [hcl, h3]
        rw [if_neg (by simp only [z_eq, z_lt, z_le] at q2 ⊢; omega)] at h
        exact h
      · repeat (refine hX _ _ _ _ ?_; conv => whnf)
        refine ⟨fun h => absurd h (by decide), fun _ => ?_⟩
        repeat (refine hX _ _ _ _ ?_; conv => whnf)
        rw [if_pos (by simp only [z_eq, z_lt, z_le] at q2 ⊢; omega)] at h
        exact h
    · repeat (refine hX _ _ _ _ ?_; conv => whnf)
      refine ⟨fun q2 => ?_, fun q2 => ?_⟩
      · repeat (refine hX _ _ _ _ ?_; conv => whnf)
        refine ⟨fun _ => ?_, fun h => absurd h (by decide)⟩
        repeat (refine hX _ _ _ _ ?_; conv => whnf)
        refine ⟨hin, ?_⟩
        repeat (refine hX _ _ _ _ ?_; conv => whnf)
        rw [hcl, h3]
        rw [if_neg (by simp only [z_eq, z_lt, z_le] at q2 ⊢; omega)] at h
        exact h
      · repeat (refine hX _ _ _ _ ?_; conv => whnf)
        refine ⟨fun h => absurd h (by decide), fun _ => ?_⟩
        repeat (refine hX _ _ _ _ ?_; conv => whnf)
        rw [if_pos (by simp only [z_eq, z_lt, z_le] at q2 ⊢; omega)] at h
        exact h
    · repeat (refine hX _ _ _ _ ?_; conv => whnf)
      refine hwi _ _ _ _ _ (fun a1 a2 => ?_) (fun a1 => ?_)
      · repeat (refine hX _ _ _ _ ?_; conv => whnf)
        refine ⟨fun h => absurd h (by decide), fun _ => ?_⟩
        repeat (refine hX _ _ _ _ ?_; conv => whnf)
        rw [if_pos (Or.inr (Or.inr ⟨by rw [z_eq]; omega, a1, a2⟩))] at h
        exact h
      · repeat (refine hX _ _ _ _ ?_; conv => whnf)
        refine ⟨fun _ => ?_, fun h => absurd h (by decide)⟩
        repeat (refine hX _ _ _ _ ?_; conv => whnf)
        refine ⟨hin, ?_⟩
        repeat (refine hX _ _ _ _ ?_; conv => whnf)
        rw [hcl, h3]
        rw [if_neg (by
          rintro (⟨z, -⟩ | ⟨z, -⟩ | ⟨-, z⟩)
          · rw [z_eq] at z; omega
          · rw [z_eq] at z; omega
          · exact a1 z)] at h
        exact h)
set_option maxHeartbeats 2000000 in
theorem t_lastPlace {N : Nat} {Ga : pm_Ga} {c n : Nat} {D : pm_Mem} {post : pm_Post} (hc : c ∈ pm_chs) (hn : D c 0 = nI n) (hn4 : n ≤ 4) (h : post (some (.int (if n = 0 then 0 else D (c + 5) (n - 1)))) D) : pm_up N Ga 6 [.ref c] D post := by
  rcases pm_chs_of hc with rfl | rfl | rfl | rfl <;> (
    simp only [Nat.reduceAdd] at h
    refine ⟨rfl, fun X hX => ?_⟩
    replace hX : ∀ pc L st D, pm_F N Ga tbX0_lastPlace (some .int) post X pc L st D → X pc L st D := hX
    change X 0 [some (.ref _)] [] D
    repeat (refine hX _ _ _ _ ?_; conv => whnf)
    rw [hn]
    refine ⟨fun q1 => ?_, fun q1 => ?_⟩
    · rw [if_pos ((z_le0 (by omega)).mp q1)] at h
      repeat (refine hX _ _ _ _ ?_; conv => whnf)
      exact h
    · have q1 : ¬ n = 0 := fun z => q1 ((z_le0 (by omega)).mpr z)
      rw [if_neg q1] at h
      repeat (refine hX _ _ _ _ ?_; conv => whnf)
      rw [hn, z_sub1 (by omega)]
      refine ⟨vp_in_nI (by omega) (by decide), ?_⟩
      repeat (refine hX _ _ _ _ ?_; conv => whnf)
      rw [nI_clamp (show n - 1 < 2 ^ 31 by omega)]
      exact h)
