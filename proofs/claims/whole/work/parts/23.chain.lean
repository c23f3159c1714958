theorem z_n_up {g : z_P} {k : Nat} {v : Int32} (h : k ≠ 24) : z_n (z_up g k v) = z_n g := by
  unfold z_n
  rw [z_up_ne g v (Ne.symm h)]
theorem z_k_up {g : z_P} {k : Nat} {v : Int32} (h : k ≠ 49) : z_k (z_up g k v) = z_k g := by
  unfold z_k
  rw [z_up_ne g v (Ne.symm h)]
/-- a bead's speed is written -/
theorem z_R_speed {D : pm_Mem} {c b : Nat} {g : z_P} {v : Int32} (h : z_R D c g) (hn : z_n g ≤ 4) (hk : z_k g ≤ 12) (hb : b < z_n g) : z_R (pm_mu D (c + 6) b v) c (z_up g (20 + b) v) := by
  obtain ⟨a1, a2, a3, a4, a5, a6⟩ := h
  refine ⟨?_, ?_, ?_, ?_, fun j hj => ?_, fun i hi => ?_⟩
  · rw [pm_mu_ne D b v (by omega), z_up_ne g v (by omega)]; exact a1
  · rw [pm_mu_ne D b v (by omega), z_up_ne g v (by omega)]; exact a2
  · rw [pm_mu_ne D b v (by omega), z_up_ne g v (by omega)]; exact a3
  · rw [pm_mu_ne D b v (by omega), z_up_ne g v (by omega)]; exact a4
  · rw [z_n_up (by omega)] at hj
    obtain ⟨b1, b2, b3, b4, b5, b6⟩ := a5 j hj
    refine ⟨?_, ?_, ?_, ?_, ?_, ?_⟩
    · rw [pm_mu_ne D b v (by omega), z_up_ne g v (by omega)]; exact b1
    · rw [pm_mu_ne D b v (by omega), z_up_ne g v (by omega)]; exact b2
    · rw [pm_mu_ne D b v (by omega), z_up_ne g v (by omega)]; exact b3
    · rw [pm_mu_ne D b v (by omega), z_up_ne g v (by omega)]; exact b4
    · rw [pm_mu_ne D b v (by omega), z_up_ne g v (by omega)]; exact b5
    · rw [pm_mu_eq, if_pos rfl]
      by_cases e : j = b
      · rw [if_pos e, e, z_up_at]
      · rw [if_neg e, z_up_ne g v (by omega)]; exact b6
  · rw [z_k_up (by omega)] at hi
    obtain ⟨b1, b2⟩ := a6 i hi
    exact ⟨by rw [pm_mu_ne D b v (by omega), z_up_ne g v (by omega)]; exact b1, by rw [pm_mu_ne D b v (by omega), z_up_ne g v (by omega)]; exact b2⟩
theorem z_F_mu {D : pm_Mem} {c r k : Nat} {v : Int32} (h1 : c ≤ r) (h2 : r < c + 10) : z_F c D (pm_mu D r k v) := fun q hq => pm_mu_ne D k v (by omega)
set_option maxHeartbeats 2000000 in
theorem t_knockOnce {N : Nat} {Ga : pm_Ga} {c : Nat} {b by_ : Int32} {g : z_P} {D : pm_Mem} {post : pm_Post} (hhas : ∀ c b D post, c ∈ pm_chs → (0 ≤ b → b < D c 0 → post (some (.int 1)) D) → (¬ (0 ≤ b ∧ b < D c 0) → post (some (.int 0)) D) → Ga 3 [.ref c, .int b] D post)
    (hinb : ∀ v D post, post (some (.int (z_clamp v))) D → Ga 20 [.int v] D post)
    (hc : c ∈ pm_chs) (hR : z_R D c g) (hn : g 24 = nI (z_n g)) (hn4 : z_n g ≤ 4) (hk : z_k g ≤ 12) (h : ∀ D', z_R D' c (z_hit g b by_) → (∀ r, r ≠ c + 6 → D' r = D r) → post none D') : pm_up N Ga 13 [.ref c, .int b, .int by_] D post := by
  have key : 0 ≤ b → b < D c 0 → ∃ j, j < z_n g ∧ b = nI j ∧ b.toNatClampNeg = j := by
    intro h1 h2
    rw [hR.1, hn, z_lt, z_tI (by omega)] at h2
    have h1 := z_le.mp h1
    have h1 : 0 ≤ b.toInt := h1
    obtain ⟨j, e1, e2, e3, e4⟩ := z_of (x := b) (a := 0) (b := 3) ⟨h1, by omega⟩ (by omega) (by omega)
    refine ⟨j, ?_, e1, e4⟩
    rw [e1, z_tI (by omega)] at h2
    omega
  rcases pm_chs_of hc with rfl | rfl | rfl | rfl <;> (
    refine ⟨rfl, fun X hX => ?_⟩
    replace hX : ∀ pc L st D, pm_F N Ga tbX0_knockOnce none post X pc L st D → X pc L st D := hX
    change X 0 [some (.ref _), some (.int b), some (.int by_)] [] D
    repeat (refine hX _ _ _ _ ?_; conv => whnf)
    refine hhas _ _ _ _ hc (fun h1 h2 => ?_) (fun h0 => ?_)
    · obtain ⟨j, hj, e1, e2⟩ := key h1 h2
      have hin : vp_in b 4 := by rw [e1]; exact vp_in_nI (by omega) (by decide)
      have hh : z_hit g b by_ = z_up g (20 + j) (z_clamp (g (20 + j) + by_)) := by
        unfold z_hit
        rw [if_pos ⟨h1, by rw [← hR.1]; exact h2⟩, e2]
      have h6 := (z_Rb hR hj).2.2.2.2.2
      simp only [Nat.reduceAdd] at h6
      repeat (refine hX _ _ _ _ ?_; conv => whnf)
      refine ⟨fun h => absurd h (by decide), fun _ => ?_⟩
      repeat (refine hX _ _ _ _ ?_; conv => whnf)
      refine ⟨hin, ?_⟩
      repeat (refine hX _ _ _ _ ?_; conv => whnf)
      refine hinb _ _ _ ?_
      repeat (refine hX _ _ _ _ ?_; conv => whnf)
      refine ⟨by decide, hin, ?_⟩
      repeat (refine hX _ _ _ _ ?_; conv => whnf)
      rw [e2, h6]
      exact h _ (by rw [hh]; exact z_R_speed hR hn4 hk hj) (fun r hr => pm_mu_ne D j _ hr)
    · repeat (refine hX _ _ _ _ ?_; conv => whnf)
      refine ⟨fun _ => ?_, fun h => absurd h (by decide)⟩
      repeat (refine hX _ _ _ _ ?_; conv => whnf)
      have hh : z_hit g b by_ = g := by
        unfold z_hit
        rw [if_neg (by rw [← hR.1]; exact h0)]
      exact h D (by rw [hh]; exact hR) (fun r _ => rfl))
theorem z_rem {a d : Nat} (ha : a < 2 ^ 31) (h0 : 0 < d) (hd : d < 2 ^ 31) : nI a - nI a / nI d * nI d = nI (a % d) := pk_rem ha h0 hd
set_option maxHeartbeats 2000000 in
theorem t_knockByPlan {N : Nat} {Ga : pm_Ga} {c : Nat} {g : z_P} {D : pm_Mem} {post : pm_Post} {T : Int} (hT : T < 2147483648)
    (hkn : ∀ c b by_ g D post, c ∈ pm_chs → z_R D c g → g 24 = nI (z_n g) → z_n g ≤ 4 → z_k g ≤ 12 → (∀ D', z_R D' c (z_hit g b by_) → (∀ r, r ≠ c + 6 → D' r = D r) → post none D') → Ga 13 [.ref c, .int b, .int by_] D post)
    (hc : c ∈ pm_chs) (hG : z_G T g) (hR : z_R D c g) (h : ∀ D', z_R D' c (z_plan g) → (∀ r, r ≠ c + 6 → D' r = D r) → post none D') : pm_up N Ga 14 [.ref c] D post := by
  obtain ⟨g1, g2, g3, g4, g5, g6, g7, g8⟩ := hG
  obtain ⟨t, t1, t2, t3, t4⟩ := z_of g6 (by omega) hT
  have hk := hR.2.1
  have ht := hR.2.2.2.1
  have hr7 := hR.2.2.2.2.2
  rw [g3] at hk
  rw [t1] at ht
  rcases pm_chs_of hc with rfl | rfl | rfl | rfl <;> (
    simp only [Nat.reduceAdd] at hr7
    refine ⟨rfl, fun X hX => ?_⟩
    replace hX : ∀ pc L st D, pm_F N Ga tbX0_knockByPlan none post X pc L st D → X pc L st D := hX
    change X 0 [some (.ref _), none] [] D
    repeat (refine hX _ _ _ _ ?_; conv => whnf)
    rw [hk]
    refine ⟨fun q1 => ?_, fun q1 => ?_⟩
    · have q1 := (z_le0 (by omega)).mp q1
      repeat (refine hX _ _ _ _ ?_; conv => whnf)
      exact h D (by unfold z_plan; rw [if_pos q1]; exact hR) (fun r _ => rfl)
    · have q1 : ¬ z_k g = 0 := fun z => q1 ((z_le0 (by omega)).mpr z)
      repeat (refine hX _ _ _ _ ?_; conv => whnf)
      rw [hk]
      refine ⟨nI_ne0 (by omega) (by omega), ?_⟩
      rw [ht, z_rem (by omega) (by omega) (by omega)]
      have hlt : t % z_k g < z_k g := Nat.mod_lt _ (by omega)
      have hin : vp_in (nI (t % z_k g)) 12 := vp_in_nI (by omega) (by decide)
      have hcl : (nI (t % z_k g)).toNatClampNeg = t % z_k g := nI_clamp (by omega)
      repeat (refine hX _ _ _ _ ?_; conv => whnf)
      refine ⟨hin, ?_⟩
      repeat (refine hX _ _ _ _ ?_; conv => whnf)
      refine ⟨hin, ?_⟩
      repeat (refine hX _ _ _ _ ?_; conv => whnf)
      rw [hcl, (hr7 _ hlt).1, (hr7 _ hlt).2]
      refine hkn _ _ _ g _ _ hc hR g1 g2 g4 (fun D' hR' hF' => ?_)
      repeat (refine hX _ _ _ _ ?_; conv => whnf)
      refine h D' ?_ hF'
      have e : z_plan g = z_hit g (g (25 + t % z_k g)) (g (37 + t % z_k g)) := by
        unfold z_plan z_turn
        rw [if_neg q1, t4]
      rw [e]
      exact hR')
set_option maxHeartbeats 2000000 in
theorem t_goOn {N : Nat} {Ga : pm_Ga} {c b : Nat} {p v w : Int32} {D : pm_Mem} {post : pm_Post} (hc : c ∈ pm_chs) (hb : b < 4) (hp : D (c + 5) b = p) (hw : D (c + 6) b = w)
    (h : ∀ D' rch lft, rch = (if p + v < 0 then 0 else if 300 < p + v then 300 else p + v) → lft = (if p + v < 0 ∨ 300 < p + v then 0 else v) → (∀ r, r ≠ c → r ≠ c + 5 → r ≠ c + 6 → D' r = D r) → (∀ k, k ≠ 13 → k ≠ 14 → k ≠ 15 → D' c k = D c k) → D' c 13 = D c 13 + z_abs (rch - p) → D' c 14 = D c 14 + (if p + v < 0 ∨ 300 < p + v then 1 else 0) → D' c 15 = (if rch ≠ p ∨ lft ≠ w then 1 else D c 15) →
      (∀ j, D' (c + 5) j = if j = b then rch else D (c + 5) j) → (∀ j, D' (c + 6) j = if j = b then lft else D (c + 6) j) → post none D') : pm_up N Ga 18 [.ref c, .int (nI b), .int v] D post := by
  have hin : vp_in (nI b) 4 := vp_in_nI hb (by decide)
  have hcl : (nI b).toNatClampNeg = b := nI_clamp (by omega)
  have t300 : (300 : Int32).toInt = 300 := rfl
  have t0 : (0 : Int32).toInt = 0 := rfl
  generalize ht : p + v = t at h
  have hrch : pm_max 0 (pm_min 300 t) = (if t < 0 then 0 else if 300 < t then 300 else t) := by
    unfold pm_max pm_min
    by_cases a1 : t < 0
    · have a1' := z_lt.mp a1
      rw [if_pos a1, if_pos (show t < 300 by rw [z_lt]; omega), if_neg (show ¬ 0 < t by rw [z_lt]; omega)]
    · by_cases a2 : 300 < t
      · have a2' := z_lt.mp a2
        rw [if_neg a1, if_pos a2, if_neg (show ¬ t < 300 by rw [z_lt]; omega), if_pos (by decide)]
      · rw [if_neg a1, if_neg a2]
        rw [z_lt] at a1 a2
        by_cases a3 : t < 300
        · rw [if_pos a3]
          by_cases a4 : 0 < t
          · rw [if_pos a4]
          · rw [if_neg a4, z_eq]
            rw [z_lt] at a4
            omega
        · rw [if_neg a3, if_pos (by decide), z_eq]
          rw [z_lt] at a3
          omega
  have hne : (if t < 0 then (0 : Int32) else if 300 < t then 300 else t) ≠ t ↔ (t < 0 ∨ 300 < t) := by
    by_cases a1 : t < 0
    · rw [if_pos a1]
      refine ⟨fun _ => Or.inl a1, fun _ z => ?_⟩
      rw [← z] at a1
      exact absurd a1 (by decide)
    · by_cases a2 : 300 < t
      · rw [if_neg a1, if_pos a2]
        refine ⟨fun _ => Or.inr a2, fun _ z => ?_⟩
        rw [← z] at a2
        exact absurd a2 (by decide)
      · rw [if_neg a1, if_neg a2]
        exact ⟨fun z => absurd rfl z, fun z => z.elim (fun z => absurd z a1) (fun z => absurd z a2)⟩
  generalize hr : (if t < 0 then (0 : Int32) else if 300 < t then 300 else t) = rch at hrch hne h
  have h := fun D' => h D' rch (if t < 0 ∨ 300 < t then 0 else v) rfl rfl
  generalize hl : (if t < 0 ∨ 300 < t then 0 else v) = lft at h
  rcases pm_chs_of hc with rfl | rfl | rfl | rfl
  · simp only [Nat.reduceAdd] at hp hw h
    refine ⟨rfl, fun X hX => ?_⟩
    replace hX : ∀ pc L st D, pm_F N Ga tbX0_goOn none post X pc L st D → X pc L st D := hX
    change X 0 [some (.ref 0), some (.int (nI b)), some (.int v), none, none, none] [] D
    -- behind: how far, the new place, the new speed
    have s78 : ∀ D2 : pm_Mem, (∀ r, r ≠ 0 → D2 r = D r) → (∀ k, k ≠ 14 → k ≠ 15 → D2 0 k = D 0 k) → D2 0 14 = D 0 14 + (if t < 0 ∨ 300 < t then 1 else 0) → D2 0 15 = (if rch ≠ p ∨ lft ≠ w then 1 else D 0 15) → X 78 [some (.ref 0), some (.int (nI b)), some (.int v), some (.int t), some (.int rch), some (.int lft)] [] D2 := by
      intro D2 f1 f2 f3 f4
      repeat (refine hX _ _ _ _ ?_; conv => whnf)
      refine ⟨hin, ?_⟩
      repeat (refine hX _ _ _ _ ?_; conv => whnf)
      refine ⟨by decide, hin, ?_⟩
      repeat (refine hX _ _ _ _ ?_; conv => whnf)
      refine ⟨by decide, hin, ?_⟩
      repeat (refine hX _ _ _ _ ?_; conv => whnf)
      rw [hcl, f2 13 (by omega) (by omega), f1 _ (by decide), hp]
      refine h _ (fun r h1 h2 h3 => ?_) (fun k h1 h2 h3 => ?_) ?_ ?_ ?_ (fun j => ?_) (fun j => ?_)
      · rw [pm_mu_ne _ _ _ h3, pm_mu_ne _ _ _ h2, pm_mu_ne _ _ _ h1]
        exact f1 r h1
      · simp [pm_mu_eq, h1]
        exact f2 k h2 h3
      · rw [pm_mu_r _ _ _ _ (by decide), pm_mu_r _ _ _ _ (by decide), pm_mu_at]
      · simp [pm_mu_eq]
        exact f3
      · simp [pm_mu_eq]
        rw [f4]
        try simp
      · simp [pm_mu_eq, f1]
      · simp [pm_mu_eq, f1]
    have s51 : ∀ D1 : pm_Mem, (∀ r, r ≠ 0 → D1 r = D r) → (∀ k, k ≠ 14 → D1 0 k = D 0 k) → D1 0 14 = D 0 14 + (if t < 0 ∨ 300 < t then 1 else 0) → X 51 [some (.ref 0), some (.int (nI b)), some (.int v), some (.int t), some (.int rch), some (.int lft)] [] D1 := by
      intro D1 f1 f2 f3
      repeat (refine hX _ _ _ _ ?_; conv => whnf)
      refine ⟨hin, ?_⟩
      rw [hcl, f1 _ (by decide), hp]
      repeat (refine hX _ _ _ _ ?_; conv => whnf)
      refine ⟨fun q1 => ?_, fun q1 => ?_⟩
      · repeat (refine hX _ _ _ _ ?_; conv => whnf)
        refine ⟨Or.inr rfl, ?_⟩
        exact s78 _ (fun r hr => by rw [pm_mu_ne _ _ _ hr]; exact f1 r hr) (fun k h1 h2 => by simp [pm_mu_eq, h2]; exact f2 k h1) (by simp [pm_mu_eq]; exact f3) (by simp [pm_mu_eq, q1])
      · repeat (refine hX _ _ _ _ ?_; conv => whnf)
        refine ⟨hin, ?_⟩
        rw [hcl, f1 _ (by decide), hw]
        repeat (refine hX _ _ _ _ ?_; conv => whnf)
        refine ⟨fun q2 => ?_, fun q2 => ?_⟩
        · exact s78 _ f1 (fun k h1 h2 => f2 k h1) f3 (by rw [f2 15 (by omega), if_neg (by simp [q1, q2])])
        · repeat (refine hX _ _ _ _ ?_; conv => whnf)
          refine ⟨Or.inr rfl, ?_⟩
          exact s78 _ (fun r hr => by rw [pm_mu_ne _ _ _ hr]; exact f1 r hr) (fun k h1 h2 => by simp [pm_mu_eq, h2]; exact f2 k h1) (by simp [pm_mu_eq]; exact f3) (by simp [pm_mu_eq, q2])
    iterate 4 (refine hX _ _ _ _ ?_; conv => whnf)
    refine ⟨hin, ?_⟩
    rw [hcl, hp]
    repeat (refine hX _ _ _ _ ?_; conv => whnf)
    rw [ht, hrch]
    refine ⟨fun q1 => ?_, fun q1 => ?_⟩
    · have q := hne.mp q1
      rw [if_pos q] at hl
      repeat (refine hX _ _ _ _ ?_; conv => whnf)
      refine ⟨fun z => absurd z q1, fun _ => ?_⟩
      iterate 6 (refine hX _ _ _ _ ?_; conv => whnf)
      subst hl
      exact s51 _ (fun r hr => pm_mu_ne _ _ _ hr) (fun k hk => pm_mu_k _ _ _ _ hk) (by rw [pm_mu_at, if_pos q])
    · have q : ¬ (t < 0 ∨ 300 < t) := fun z => hne.mpr z q1
      rw [if_neg q] at hl
      repeat (refine hX _ _ _ _ ?_; conv => whnf)
      refine ⟨fun _ => ?_, fun z => absurd q1 z⟩
      subst hl
      exact s51 D (fun _ _ => rfl) (fun _ _ => rfl) (by rw [if_neg q, Int32.add_zero])
  · simp only [Nat.reduceAdd] at hp hw h
    refine ⟨rfl, fun X hX => ?_⟩
    replace hX : ∀ pc L st D, pm_F N Ga tbX0_goOn none post X pc L st D → X pc L st D := hX
    change X 0 [some (.ref 10), some (.int (nI b)), some (.int v), none, none, none] [] D
    -- behind: how far, the new place, the new speed
    have s78 : ∀ D2 : pm_Mem, (∀ r, r ≠ 10 → D2 r = D r) → (∀ k, k ≠ 14 → k ≠ 15 → D2 10 k = D 10 k) → D2 10 14 = D 10 14 + (if t < 0 ∨ 300 < t then 1 else 0) → D2 10 15 = (if rch ≠ p ∨ lft ≠ w then 1 else D 10 15) → X 78 [some (.ref 10), some (.int (nI b)), some (.int v), some (.int t), some (.int rch), some (.int lft)] [] D2 := by
      intro D2 f1 f2 f3 f4
      repeat (refine hX _ _ _ _ ?_; conv => whnf)
      refine ⟨hin, ?_⟩
      repeat (refine hX _ _ _ _ ?_; conv => whnf)
      refine ⟨by decide, hin, ?_⟩
      repeat (refine hX _ _ _ _ ?_; conv => whnf)
      refine ⟨by decide, hin, ?_⟩
      repeat (refine hX _ _ _ _ ?_; conv => whnf)
      rw [hcl, f2 13 (by omega) (by omega), f1 _ (by decide), hp]
      refine h _ (fun r h1 h2 h3 => ?_) (fun k h1 h2 h3 => ?_) ?_ ?_ ?_ (fun j => ?_) (fun j => ?_)
      · rw [pm_mu_ne _ _ _ h3, pm_mu_ne _ _ _ h2, pm_mu_ne _ _ _ h1]
        exact f1 r h1
      · simp [pm_mu_eq, h1]
        exact f2 k h2 h3
      · rw [pm_mu_r _ _ _ _ (by decide), pm_mu_r _ _ _ _ (by decide), pm_mu_at]
      · simp [pm_mu_eq]
        exact f3
      · simp [pm_mu_eq]
        rw [f4]
        try simp
      · simp [pm_mu_eq, f1]
      · simp [pm_mu_eq, f1]
    have s51 : ∀ D1 : pm_Mem, (∀ r, r ≠ 10 → D1 r = D r) → (∀ k, k ≠ 14 → D1 10 k = D 10 k) → D1 10 14 = D 10 14 + (if t < 0 ∨ 300 < t then 1 else 0) → X 51 [some (.ref 10), some (.int (nI b)), some (.int v), some (.int t), some (.int rch), some (.int lft)] [] D1 := by
      intro D1 f1 f2 f3
      repeat (refine hX _ _ _ _ ?_; conv => whnf)
      refine ⟨hin, ?_⟩
      rw [hcl, f1 _ (by decide), hp]
      repeat (refine hX _ _ _ _ ?_; conv => whnf)
      refine ⟨fun q1 => ?_, fun q1 => ?_⟩
      · repeat (refine hX _ _ _ _ ?_; conv => whnf)
        refine ⟨Or.inr rfl, ?_⟩
        exact s78 _ (fun r hr => by rw [pm_mu_ne _ _ _ hr]; exact f1 r hr) (fun k h1 h2 => by simp [pm_mu_eq, h2]; exact f2 k h1) (by simp [pm_mu_eq]; exact f3) (by simp [pm_mu_eq, q1])
      · repeat (refine hX _ _ _ _ ?_; conv => whnf)
        refine ⟨hin, ?_⟩
        rw [hcl, f1 _ (by decide), hw]
        repeat (refine hX _ _ _ _ ?_; conv => whnf)
        refine ⟨fun q2 => ?_, fun q2 => ?_⟩
        · exact s78 _ f1 (fun k h1 h2 => f2 k h1) f3 (by rw [f2 15 (by omega), if_neg (by simp [q1, q2])])
        · repeat (refine hX _ _ _ _ ?_; conv => whnf)
          refine ⟨Or.inr rfl, ?_⟩
          exact s78 _ (fun r hr => by rw [pm_mu_ne _ _ _ hr]; exact f1 r hr) (fun k h1 h2 => by simp [pm_mu_eq, h2]; exact f2 k h1) (by simp [pm_mu_eq]; exact f3) (by simp [pm_mu_eq, q2])
    iterate 4 (refine hX _ _ _ _ ?_; conv => whnf)
    refine ⟨hin, ?_⟩
    rw [hcl, hp]
    repeat (refine hX _ _ _ _ ?_; conv => whnf)
    rw [ht, hrch]
    refine ⟨fun q1 => ?_, fun q1 => ?_⟩
    · have q := hne.mp q1
      rw [if_pos q] at hl
      repeat (refine hX _ _ _ _ ?_; conv => whnf)
      refine ⟨fun z => absurd z q1, fun _ => ?_⟩
      iterate 6 (refine hX _ _ _ _ ?_; conv => whnf)
      subst hl
      exact s51 _ (fun r hr => pm_mu_ne _ _ _ hr) (fun k hk => pm_mu_k _ _ _ _ hk) (by rw [pm_mu_at, if_pos q])
    · have q : ¬ (t < 0 ∨ 300 < t) := fun z => hne.mpr z q1
      rw [if_neg q] at hl
      repeat (refine hX _ _ _ _ ?_; conv => whnf)
      refine ⟨fun _ => ?_, fun z => absurd q1 z⟩
      subst hl
      exact s51 D (fun _ _ => rfl) (fun _ _ => rfl) (by rw [if_neg q, Int32.add_zero])
  · simp only [Nat.reduceAdd] at hp hw h
    refine ⟨rfl, fun X hX => ?_⟩
    replace hX : ∀ pc L st D, pm_F N Ga tbX0_goOn none post X pc L st D → X pc L st D := hX
    change X 0 [some (.ref 20), some (.int (nI b)), some (.int v), none, none, none] [] D
    -- behind: how far, the new place, the new speed
    have s78 : ∀ D2 : pm_Mem, (∀ r, r ≠ 20 → D2 r = D r) → (∀ k, k ≠ 14 → k ≠ 15 → D2 20 k = D 20 k) → D2 20 14 = D 20 14 + (if t < 0 ∨ 300 < t then 1 else 0) → D2 20 15 = (if rch ≠ p ∨ lft ≠ w then 1 else D 20 15) → X 78 [some (.ref 20), some (.int (nI b)), some (.int v), some (.int t), some (.int rch), some (.int lft)] [] D2 := by
      intro D2 f1 f2 f3 f4
      repeat (refine hX _ _ _ _ ?_; conv => whnf)
      refine ⟨hin, ?_⟩
      repeat (refine hX _ _ _ _ ?_; conv => whnf)
      refine ⟨by decide, hin, ?_⟩
      repeat (refine hX _ _ _ _ ?_; conv => whnf)
      refine ⟨by decide, hin, ?_⟩
      repeat (refine hX _ _ _ _ ?_; conv => whnf)
      rw [hcl, f2 13 (by omega) (by omega), f1 _ (by decide), hp]
      refine h _ (fun r h1 h2 h3 => ?_) (fun k h1 h2 h3 => ?_) ?_ ?_ ?_ (fun j => ?_) (fun j => ?_)
      · rw [pm_mu_ne _ _ _ h3, pm_mu_ne _ _ _ h2, pm_mu_ne _ _ _ h1]
        exact f1 r h1
      · simp [pm_mu_eq, h1]
        exact f2 k h2 h3
      · rw [pm_mu_r _ _ _ _ (by decide), pm_mu_r _ _ _ _ (by decide), pm_mu_at]
      · simp [pm_mu_eq]
        exact f3
      · simp [pm_mu_eq]
        rw [f4]
        try simp
      · simp [pm_mu_eq, f1]
      · simp [pm_mu_eq, f1]
    have s51 : ∀ D1 : pm_Mem, (∀ r, r ≠ 20 → D1 r = D r) → (∀ k, k ≠ 14 → D1 20 k = D 20 k) → D1 20 14 = D 20 14 + (if t < 0 ∨ 300 < t then 1 else 0) → X 51 [some (.ref 20), some (.int (nI b)), some (.int v), some (.int t), some (.int rch), some (.int lft)] [] D1 := by
      intro D1 f1 f2 f3
      repeat (refine hX _ _ _ _ ?_; conv => whnf)
      refine ⟨hin, ?_⟩
      rw [hcl, f1 _ (by decide), hp]
      repeat (refine hX _ _ _ _ ?_; conv => whnf)
      refine ⟨fun q1 => ?_, fun q1 => ?_⟩
      · repeat (refine hX _ _ _ _ ?_; conv => whnf)
        refine ⟨Or.inr rfl, ?_⟩
        exact s78 _ (fun r hr => by rw [pm_mu_ne _ _ _ hr]; exact f1 r hr) (fun k h1 h2 => by simp [pm_mu_eq, h2]; exact f2 k h1) (by simp [pm_mu_eq]; exact f3) (by simp [pm_mu_eq, q1])
      · repeat (refine hX _ _ _ _ ?_; conv => whnf)
        refine ⟨hin, ?_⟩
        rw [hcl, f1 _ (by decide), hw]
        repeat (refine hX _ _ _ _ ?_; conv => whnf)
        refine ⟨fun q2 => ?_, fun q2 => ?_⟩
        · exact s78 _ f1 (fun k h1 h2 => f2 k h1) f3 (by rw [f2 15 (by omega), if_neg (by simp [q1, q2])])
        · repeat (refine hX _ _ _ _ ?_; conv => whnf)
          refine ⟨Or.inr rfl, ?_⟩
          exact s78 _ (fun r hr => by rw [pm_mu_ne _ _ _ hr]; exact f1 r hr) (fun k h1 h2 => by simp [pm_mu_eq, h2]; exact f2 k h1) (by simp [pm_mu_eq]; exact f3) (by simp [pm_mu_eq, q2])
    iterate 4 (refine hX _ _ _ _ ?_; conv => whnf)
    refine ⟨hin, ?_⟩
    rw [hcl, hp]
    repeat (refine hX _ _ _ _ ?_; conv => whnf)
    rw [ht, hrch]
    refine ⟨fun q1 => ?_, fun q1 => ?_⟩
    · have q := hne.mp q1
      rw [if_pos q] at hl
      repeat (refine hX _ _ _ _ ?_; conv => whnf)
      refine ⟨fun z => absurd z q1, fun _ => ?_⟩
      iterate 6 (refine hX _ _ _ _ ?_; conv => whnf)
      subst hl
      exact s51 _ (fun r hr => pm_mu_ne _ _ _ hr) (fun k hk => pm_mu_k _ _ _ _ hk) (by rw [pm_mu_at, if_pos q])
    · have q : ¬ (t < 0 ∨ 300 < t) := fun z => hne.mpr z q1
      rw [if_neg q] at hl
      repeat (refine hX _ _ _ _ ?_; conv => whnf)
      refine ⟨fun _ => ?_, fun z => absurd q1 z⟩
      subst hl
      exact s51 D (fun _ _ => rfl) (fun _ _ => rfl) (by rw [if_neg q, Int32.add_zero])
  · simp only [Nat.reduceAdd] at hp hw h
    refine ⟨rfl, fun X hX => ?_⟩
    replace hX : ∀ pc L st D, pm_F N Ga tbX0_goOn none post X pc L st D → X pc L st D := hX
    change X 0 [some (.ref 30), some (.int (nI b)), some (.int v), none, none, none] [] D
    -- behind: how far, the new place, the new speed
    have s78 : ∀ D2 : pm_Mem, (∀ r, r ≠ 30 → D2 r = D r) → (∀ k, k ≠ 14 → k ≠ 15 → D2 30 k = D 30 k) → D2 30 14 = D 30 14 + (if t < 0 ∨ 300 < t then 1 else 0) → D2 30 15 = (if rch ≠ p ∨ lft ≠ w then 1 else D 30 15) → X 78 [some (.ref 30), some (.int (nI b)), some (.int v), some (.int t), some (.int rch), some (.int lft)] [] D2 := by
      intro D2 f1 f2 f3 f4
      repeat (refine hX _ _ _ _ ?_; conv => whnf)
      refine ⟨hin, ?_⟩
      repeat (refine hX _ _ _ _ ?_; conv => whnf)
      refine ⟨by decide, hin, ?_⟩
      repeat (refine hX _ _ _ _ ?_; conv => whnf)
      refine ⟨by decide, hin, ?_⟩
      repeat (refine hX _ _ _ _ ?_; conv => whnf)
      rw [hcl, f2 13 (by omega) (by omega), f1 _ (by decide), hp]
      refine h _ (fun r h1 h2 h3 => ?_) (fun k h1 h2 h3 => ?_) ?_ ?_ ?_ (fun j => ?_) (fun j => ?_)
      · rw [pm_mu_ne _ _ _ h3, pm_mu_ne _ _ _ h2, pm_mu_ne _ _ _ h1]
        exact f1 r h1
      · simp [pm_mu_eq, h1]
        exact f2 k h2 h3
      · rw [pm_mu_r _ _ _ _ (by decide), pm_mu_r _ _ _ _ (by decide), pm_mu_at]
      · simp [pm_mu_eq]
        exact f3
      · simp [pm_mu_eq]
        rw [f4]
        try simp
      · simp [pm_mu_eq, f1]
      · simp [pm_mu_eq, f1]
    have s51 : ∀ D1 : pm_Mem, (∀ r, r ≠ 30 → D1 r = D r) → (∀ k, k ≠ 14 → D1 30 k = D 30 k) → D1 30 14 = D 30 14 + (if t < 0 ∨ 300 < t then 1 else 0) → X 51 [some (.ref 30), some (.int (nI b)), some (.int v), some (.int t), some (.int rch), some (.int lft)] [] D1 := by
      intro D1 f1 f2 f3
      repeat (refine hX _ _ _ _ ?_; conv => whnf)
      refine ⟨hin, ?_⟩
      rw [hcl, f1 _ (by decide), hp]
      repeat (refine hX _ _ _ _ ?_; conv => whnf)
      refine ⟨fun q1 => ?_, fun q1 => ?_⟩
      · repeat (refine hX _ _ _ _ ?_; conv => whnf)
        refine ⟨Or.inr rfl, ?_⟩
        exact s78 _ (fun r hr => by rw [pm_mu_ne _ _ _ hr]; exact f1 r hr) (fun k h1 h2 => by simp [pm_mu_eq, h2]; exact f2 k h1) (by simp [pm_mu_eq]; exact f3) (by simp [pm_mu_eq, q1])
      · repeat (refine hX _ _ _ _ ?_; conv => whnf)
        refine ⟨hin, ?_⟩
        rw [hcl, f1 _ (by decide), hw]
        repeat (refine hX _ _ _ _ ?_; conv => whnf)
        refine ⟨fun q2 => ?_, fun q2 => ?_⟩
        · exact s78 _ f1 (fun k h1 h2 => f2 k h1) f3 (by rw [f2 15 (by omega), if_neg (by simp [q1, q2])])
        · repeat (refine hX _ _ _ _ ?_; conv => whnf)
          refine ⟨Or.inr rfl, ?_⟩
          exact s78 _ (fun r hr => by rw [pm_mu_ne _ _ _ hr]; exact f1 r hr) (fun k h1 h2 => by simp [pm_mu_eq, h2]; exact f2 k h1) (by simp [pm_mu_eq]; exact f3) (by simp [pm_mu_eq, q2])
    iterate 4 (refine hX _ _ _ _ ?_; conv => whnf)
    refine ⟨hin, ?_⟩
    rw [hcl, hp]
    repeat (refine hX _ _ _ _ ?_; conv => whnf)
    rw [ht, hrch]
    refine ⟨fun q1 => ?_, fun q1 => ?_⟩
    · have q := hne.mp q1
      rw [if_pos q] at hl
      repeat (refine hX _ _ _ _ ?_; conv => whnf)
      refine ⟨fun z => absurd z q1, fun _ => ?_⟩
      iterate 6 (refine hX _ _ _ _ ?_; conv => whnf)
      subst hl
      exact s51 _ (fun r hr => pm_mu_ne _ _ _ hr) (fun k hk => pm_mu_k _ _ _ _ hk) (by rw [pm_mu_at, if_pos q])
    · have q : ¬ (t < 0 ∨ 300 < t) := fun z => hne.mpr z q1
      rw [if_neg q] at hl
      repeat (refine hX _ _ _ _ ?_; conv => whnf)
      refine ⟨fun _ => ?_, fun z => absurd q1 z⟩
      subst hl
      exact s51 D (fun _ _ => rfl) (fun _ _ => rfl) (by rw [if_neg q, Int32.add_zero])

/-! a page whose first n beads have gone -/
theorem z_mv_lo {g : z_P} {n k : Nat} (h : k < 16 ∨ (16 + n ≤ k ∧ k < 20) ∨ 20 + n ≤ k) (hn : n ≤ 4) : z_mv g n k = g k := by
  unfold z_mv
  rw [if_neg (by omega), if_neg (by omega)]
theorem z_mv_p {g : z_P} {n b : Nat} (h : b < n) : z_mv g n (16 + b) = z_np g b := by
  unfold z_mv
  rw [if_pos (by omega), show 16 + b - 16 = b by omega]
theorem z_mv_s {g : z_P} {n b : Nat} (h : b < n) (hn : n ≤ 4) : z_mv g n (20 + b) = z_fs g b := by
  unfold z_mv
  rw [if_neg (by omega), if_pos (by omega), show 20 + b - 20 = b by omega]
theorem z_move_lo {g : z_P} {k : Nat} (hn : z_n g ≤ 4) (h : k < 16 ∨ (16 + z_n g ≤ k ∧ k < 20) ∨ (20 + z_n g ≤ k ∧ k ≠ 51)) : z_move g k = g k := by
  unfold z_move
  rw [z_up_ne _ _ (by omega), z_mv_lo (by omega) hn]
theorem z_move_p {g : z_P} {b : Nat} (hn : z_n g ≤ 4) (h : b < z_n g) : z_move g (16 + b) = z_np g b := by
  unfold z_move
  rw [z_up_ne _ _ (by omega), z_mv_p h]
theorem z_move_s {g : z_P} {b : Nat} (hn : z_n g ≤ 4) (h : b < z_n g) : z_move g (20 + b) = z_fs g b := by
  unfold z_move
  rw [z_up_ne _ _ (by omega), z_mv_s h hn]
theorem z_move_t {g : z_P} : z_move g 51 = g 51 + 1 := z_up_at _ _ _
theorem z_move_n {g : z_P} (hn : z_n g ≤ 4) : z_n (z_move g) = z_n g := by
  show (z_move g 24).toNatClampNeg = _
  rw [z_move_lo hn (by omega)]
  rfl
theorem z_move_k {g : z_P} (hn : z_n g ≤ 4) : z_k (z_move g) = z_k g := by
  show (z_move g 49).toNatClampNeg = _
  rw [z_move_lo hn (by omega)]
  rfl
set_option maxHeartbeats 2000000 in
theorem t_move {N : Nat} {Ga : pm_Ga} {c : Nat} {g : z_P} {D : pm_Mem} {post : pm_Post} {T : Int}
    (hpu : ∀ c b g D post, c ∈ pm_chs → b < 4 → z_in (g b) 0 3 → D (c + 1) b = g b → D (c + 2) b = g (4 + b) → D (c + 3) b = g (8 + b) → (∀ j, j ≤ b → D (c + 5) j = g (16 + j)) → post (some (.int (z_pull g b))) D → Ga 12 [.ref c, .int (nI b)] D post)
    (hsl : ∀ c v d D post, c ∈ pm_chs → D c 2 = d → z_in d 0 3 → post (some (.int (z_slow v d))) D → Ga 19 [.ref c, .int v] D post)
    (hinb : ∀ v D post, post (some (.int (z_clamp v))) D → Ga 20 [.int v] D post)
    (hgo : ∀ c b p v w D post, c ∈ pm_chs → b < 4 → D (c + 5) b = p → D (c + 6) b = w →
      (∀ D' rch lft, rch = (if p + v < 0 then 0 else if 300 < p + v then 300 else p + v) → lft = (if p + v < 0 ∨ 300 < p + v then 0 else v) → (∀ r, r ≠ c → r ≠ c + 5 → r ≠ c + 6 → D' r = D r) → (∀ k, k ≠ 13 → k ≠ 14 → k ≠ 15 → D' c k = D c k) → D' c 13 = D c 13 + z_abs (rch - p) → D' c 14 = D c 14 + (if p + v < 0 ∨ 300 < p + v then 1 else 0) → D' c 15 = (if rch ≠ p ∨ lft ≠ w then 1 else D c 15) →
      (∀ j, D' (c + 5) j = if j = b then rch else D (c + 5) j) → (∀ j, D' (c + 6) j = if j = b then lft else D (c + 6) j) → post none D') → Ga 18 [.ref c, .int (nI b), .int v] D post)
    (hc : c ∈ pm_chs) (hG : z_G T g) (hR : z_R D c g)
    (h : ∀ D', z_R D' c (z_move g) → z_F c D D' → D' c 13 = D c 13 + z_gone g (z_n g) → D' c 14 = D c 14 + z_stop g (z_n g) → (D' c 15 = 0 ∨ D' c 15 = 1) → (D' c 15 = 1 ↔ z_stir g (z_n g)) → post none D') : pm_up N Ga 17 [.ref c] D post := by
  obtain ⟨g1, g2, g3, g4, g5, g6, g7, g8⟩ := hG
  obtain ⟨a1, a2, a3, a4, a5, a6⟩ := hR
  rw [g1] at a1
  generalize hn : z_n g = n at *
  rcases pm_chs_of hc with rfl | rfl | rfl | rfl
  · simp only [Nat.reduceAdd] at a5 a6
    refine ⟨rfl, fun X hX => ?_⟩
    replace hX : ∀ pc L st D, pm_F N Ga tbX0_move none post X pc L st D → X pc L st D := hX
    change X 0 [some (.ref 0), none, none, none] [] D
    iterate 2 (refine hX _ _ _ _ ?_; conv => whnf)
    -- the second loop
    have loop2 : ∀ (m b : Nat) (D1 : pm_Mem) (l2 l3 : Option Value), b + m = n → (∀ r, r ≠ 0 → r ≠ 5 → r ≠ 6 → r ≠ 9 → D1 r = D r) → (∀ k, k < 13 → D1 0 k = D 0 k) → (∀ j, j < n → D1 9 j = z_pull g j) → D1 9 n = 0 → (∀ j, j < n → D1 5 j = if j < b then z_np g j else g (16 + j)) → (∀ j, j < n → D1 6 j = if j < b then z_fs g j else g (20 + j)) → D1 0 13 = D 0 13 + z_gone g b → D1 0 14 = D 0 14 + z_stop g b → (D1 0 15 = 0 ∨ D1 0 15 = 1) → (D1 0 15 = 1 ↔ z_stir g b) → X 44 [some (.ref 0), some (.int (nI b)), l2, l3] [] D1 := by
      intro m
      induction m with
      | zero =>
        intro b D1 l2 l3 hb f1 f2 f3 f4 f5 f6 f7 f8 f9 f10
        have hb : b = n := by omega
        subst hb
        repeat (refine hX _ _ _ _ ?_; conv => whnf)
        rw [f2 0 (by omega), a1]
        refine ⟨fun _ => ?_, fun z => absurd (nI_le (Nat.le_refl _) (by omega)) z⟩
        repeat (refine hX _ _ _ _ ?_; conv => whnf)
        rw [f2 3 (by omega), a4]
        refine h _ ?_ (fun r hr => ?_) ?_ ?_ ?_ ?_
        · refine ⟨?_, ?_, ?_, ?_, fun j hj => ?_, fun i hi => ?_⟩
          · rw [pm_mu_k _ _ _ _ (by omega), f2 0 (by omega), a1, z_move_lo (by omega) (by omega), g1]
          · rw [pm_mu_k _ _ _ _ (by omega), f2 1 (by omega), a2, z_move_lo (by omega) (by omega)]
          · rw [pm_mu_k _ _ _ _ (by omega), f2 2 (by omega), a3, z_move_lo (by omega) (by omega)]
          · rw [pm_mu_at, z_move_t]
          · rw [z_move_n (by omega), hn] at hj
            obtain ⟨b1, b2, b3, b4, b5, b6⟩ := a5 j hj
            simp only [Nat.reduceAdd]
            refine ⟨?_, ?_, ?_, ?_, ?_, ?_⟩
            · rw [pm_mu_r _ _ _ _ (by decide), f1 _ (by decide) (by decide) (by decide) (by decide), b1, z_move_lo (by omega) (by omega)]
            · rw [pm_mu_r _ _ _ _ (by decide), f1 _ (by decide) (by decide) (by decide) (by decide), b2, z_move_lo (by omega) (by omega)]
            · rw [pm_mu_r _ _ _ _ (by decide), f1 _ (by decide) (by decide) (by decide) (by decide), b3, z_move_lo (by omega) (by omega)]
            · rw [pm_mu_r _ _ _ _ (by decide), f1 _ (by decide) (by decide) (by decide) (by decide), b4, z_move_lo (by omega) (by omega)]
            · rw [pm_mu_r _ _ _ _ (by decide), f5 j hj, if_pos hj, z_move_p (by omega) (by omega)]
            · rw [pm_mu_r _ _ _ _ (by decide), f6 j hj, if_pos hj, z_move_s (by omega) (by omega)]
          · rw [z_move_k (by omega)] at hi
            obtain ⟨b1, b2⟩ := a6 i hi
            simp only [Nat.reduceAdd]
            refine ⟨?_, ?_⟩
            · rw [pm_mu_r _ _ _ _ (by decide), f1 _ (by decide) (by decide) (by decide) (by decide), b1, z_move_lo (by omega) (by omega)]
            · rw [pm_mu_r _ _ _ _ (by decide), f1 _ (by decide) (by decide) (by decide) (by decide), b2, z_move_lo (by omega) (by omega)]
        · rw [pm_mu_ne _ _ _ (by omega)]
          exact f1 r (by omega) (by omega) (by omega) (by omega)
        · rw [pm_mu_k _ _ _ _ (by omega)]; exact f7
        · rw [pm_mu_k _ _ _ _ (by omega)]; exact f8
        · rw [pm_mu_k _ _ _ _ (by omega)]; exact f9
        · rw [pm_mu_k _ _ _ _ (by omega)]; exact f10
      | succ m ih =>
        intro b D1 l2 l3 hb f1 f2 f3 f4 f5 f6 f7 f8 f9 f10
        have hbn : b < n := by omega
        obtain ⟨k1, k2, k3, k4, k5, k6⟩ := g7 b (by omega)
        obtain ⟨b1, b2, b3, b4, b5, b6⟩ := a5 b hbn
        have hin : vp_in (nI b) 4 := vp_in_nI (by omega) (by decide)
        have hcl : (nI b).toNatClampNeg = b := nI_clamp (by omega)
        have hw : (10 * g (12 + b)).toInt = 10 * (g (12 + b)).toInt := z_mul (x := 10) (by have := k4.1; have := k4.2; show _ ≤ 10 * _; omega) (by have := k4.1; have := k4.2; show 10 * _ ≤ _; omega)
        have hm4 : D1 4 b = g (12 + b) := by rw [f1 _ (by decide) (by decide) (by decide) (by decide), b4]
        repeat (refine hX _ _ _ _ ?_; conv => whnf)
        rw [f2 0 (by omega), a1]
        refine ⟨fun z => absurd z (nI_ge (by omega) (by omega)), fun _ => ?_⟩
        repeat (refine hX _ _ _ _ ?_; conv => whnf)
        refine ⟨hin, ?_⟩
        rw [hcl, hm4]
        repeat (refine hX _ _ _ _ ?_; conv => whnf)
        refine ⟨fun z => absurd z (by rw [z_le, hw]; have := k4.1; show ¬ _ ≤ (0 : Int); omega), fun _ => ?_⟩
        repeat (refine hX _ _ _ _ ?_; conv => whnf)
        rw [nI_1]
        refine ⟨vp_in_nI (by omega) (by decide), ?_⟩
        repeat (refine hX _ _ _ _ ?_; conv => whnf)
        refine ⟨vp_in_nI (by omega) (by decide), ?_⟩
        repeat (refine hX _ _ _ _ ?_; conv => whnf)
        refine ⟨by rw [z_eq, hw]; have := k4.1; show ¬ _ = (0 : Int); omega, ?_⟩
        repeat (refine hX _ _ _ _ ?_; conv => whnf)
        refine ⟨hin, ?_⟩
        have hp1 : D1 9 (b + 1) = z_pn g (b + 1) := by
          unfold z_pn
          rw [hn]
          by_cases e : b + 1 < n
          · rw [if_pos e]; exact f3 _ e
          · rw [if_neg e, show b + 1 = n by omega]; exact f4
        rw [hcl, nI_clamp (show b + 1 < 2 ^ 31 by omega), hp1, f3 b hbn, f6 b hbn, if_neg (by omega)]
        repeat (refine hX _ _ _ _ ?_; conv => whnf)
        refine hsl 0 _ (g 50) D1 _ hc (by rw [f2 2 (by omega), a3]) g5 ?_
        repeat (refine hX _ _ _ _ ?_; conv => whnf)
        refine hinb _ _ _ ?_
        repeat (refine hX _ _ _ _ ?_; conv => whnf)
        refine hgo 0 b (g (16 + b)) (z_ns g b) (g (20 + b)) D1 _ hc (by omega) (by show D1 5 b = _; rw [f5 b hbn, if_neg (by omega)]) (by show D1 6 b = _; rw [f6 b hbn, if_neg (by omega)]) (fun D2 rch lft hrc hlf e1 e2 e3 e4 e5 e6 e7 => ?_)
        simp only [Nat.reduceAdd] at e1 e6 e7
        have hrc : rch = z_np g b := hrc
        have hlf : lft = z_fs g b := hlf
        subst hrc
        subst hlf
        iterate 2 (refine hX _ _ _ _ ?_; conv => whnf)
        rw [nI_1]
        have hst : z_stir g (b + 1) ↔ z_stir g b ∨ (z_np g b ≠ g (16 + b) ∨ z_fs g b ≠ g (20 + b)) := by
          constructor
          · rintro ⟨j, hj, hq⟩
            by_cases e : j = b
            · subst e; exact Or.inr hq
            · exact Or.inl ⟨j, by omega, hq⟩
          · rintro (⟨j, hj, hq⟩ | hq)
            · exact ⟨j, by omega, hq⟩
            · exact ⟨b, by omega, hq⟩
        refine ih (b + 1) D2 _ _ (by omega) (fun r r1 r2 r3 r4 => ?_) (fun k hk => ?_) (fun j hj => ?_) ?_ (fun j hj => ?_) (fun j hj => ?_) ?_ ?_ ?_ ?_
        · rw [e1 r r1 r2 r3]; exact f1 r r1 r2 r3 r4
        · rw [e2 k (by omega) (by omega) (by omega)]; exact f2 k hk
        · rw [e1 _ (by decide) (by decide) (by decide)]; exact f3 j hj
        · rw [e1 _ (by decide) (by decide) (by decide)]; exact f4
        · rw [e6 j]
          by_cases e : j = b
          · rw [if_pos e, if_pos (by omega), e]
          · rw [if_neg e, f5 j hj]
            by_cases e2 : j < b
            · rw [if_pos e2, if_pos (by omega)]
            · rw [if_neg e2, if_neg (by omega)]
        · rw [e7 j]
          by_cases e : j = b
          · rw [if_pos e, if_pos (by omega), e]
          · rw [if_neg e, f6 j hj]
            by_cases e2 : j < b
            · rw [if_pos e2, if_pos (by omega)]
            · rw [if_neg e2, if_neg (by omega)]
        · rw [e3, f7, Int32.add_assoc]; rfl
        · rw [e4, f8, Int32.add_assoc]; rfl
        · rw [e5]
          split
          · exact Or.inr rfl
          · exact f9
        · rw [e5, hst]
          split
          · rename_i q
            exact ⟨fun _ => Or.inr q, fun _ => rfl⟩
          · rename_i q
            rw [f10]
            exact ⟨Or.inl, fun z => z.elim id (fun z => absurd z q)⟩
    have loop1 : ∀ (m b : Nat) (D1 : pm_Mem), b + m = n → (∀ r, r ≠ 9 → D1 r = D r) → (∀ j, j < b → D1 9 j = z_pull g j) → X 2 [some (.ref 0), some (.int (nI b)), none, none] [] D1 := by
      intro m
      induction m with
      | zero =>
        intro b D1 hb f1 f2
        have hb : b = n := by omega
        subst hb
        repeat (refine hX _ _ _ _ ?_; conv => whnf)
        rw [f1 0 (by decide), a1]
        refine ⟨fun _ => ?_, fun z => absurd (nI_le (Nat.le_refl _) (by omega)) z⟩
        repeat (refine hX _ _ _ _ ?_; conv => whnf)
        rw [f1 0 (by decide), a1]
        refine ⟨by decide, vp_in_nI (by omega) (by decide), ?_⟩
        repeat (refine hX _ _ _ _ ?_; conv => whnf)
        refine ⟨Or.inl rfl, ?_⟩
        iterate 2 (refine hX _ _ _ _ ?_; conv => whnf)
        rw [nI_clamp (by omega)]
        refine loop2 b 0 _ none none (by omega) (fun r r1 r2 r3 r4 => ?_) (fun k hk => ?_) (fun j hj => ?_) ?_ (fun j hj => ?_) (fun j hj => ?_) ?_ ?_ ?_ ?_
        · rw [pm_mu_ne _ _ _ r1, pm_mu_ne _ _ _ r4]; exact f1 r r4
        · rw [pm_mu_k _ _ _ _ (by omega), pm_mu_r _ _ _ _ (by decide), f1 _ (by decide)]
        · rw [pm_mu_r _ _ _ _ (by decide), pm_mu_k _ _ _ _ (by omega)]; exact f2 j hj
        · rw [pm_mu_r _ _ _ _ (by decide), pm_mu_at]
        · rw [pm_mu_r _ _ _ _ (by decide), pm_mu_r _ _ _ _ (by decide), f1 _ (by decide), if_neg (by omega)]; exact (a5 j hj).2.2.2.2.1
        · rw [pm_mu_r _ _ _ _ (by decide), pm_mu_r _ _ _ _ (by decide), f1 _ (by decide), if_neg (by omega)]; exact (a5 j hj).2.2.2.2.2
        · rw [pm_mu_k _ _ _ _ (by omega), pm_mu_r _ _ _ _ (by decide), f1 _ (by decide)]; exact (Int32.add_zero _).symm
        · rw [pm_mu_k _ _ _ _ (by omega), pm_mu_r _ _ _ _ (by decide), f1 _ (by decide)]; exact (Int32.add_zero _).symm
        · exact Or.inl (pm_mu_at _ _ _ _)
        · rw [pm_mu_at]
          exact ⟨fun z => absurd z (by decide), fun ⟨b, hb, _⟩ => absurd hb (by omega)⟩
      | succ m ih =>
        intro b D1 hb f1 f2
        repeat (refine hX _ _ _ _ ?_; conv => whnf)
        rw [f1 0 (by decide), a1]
        refine ⟨fun z => absurd z (nI_ge (by omega) (by omega)), fun _ => ?_⟩
        repeat (refine hX _ _ _ _ ?_; conv => whnf)
        obtain ⟨b1, b2, b3, b4, b5, b6⟩ := a5 b (by omega)
        refine hpu 0 b g D1 _ hc (by omega) (g7 b (by omega)).1 (by rw [f1 _ (by decide)]; exact b1) (by rw [f1 _ (by decide)]; exact b2) (by rw [f1 _ (by decide)]; exact b3) (fun j hj => by rw [f1 _ (by decide)]; exact (a5 j (by omega)).2.2.2.2.1) ?_
        repeat (refine hX _ _ _ _ ?_; conv => whnf)
        refine ⟨by decide, vp_in_nI (by omega) (by decide), ?_⟩
        iterate 2 (refine hX _ _ _ _ ?_; conv => whnf)
        rw [nI_clamp (by omega), nI_1]
        refine ih (b + 1) _ (by omega) (fun r hr => by rw [pm_mu_ne _ _ _ hr]; exact f1 r hr) (fun j hj => ?_)
        rw [pm_mu_eq, if_pos rfl]
        split
        · rename_i e; rw [e]
        · exact f2 j (by omega)
    exact loop1 n 0 D (by omega) (fun _ _ => rfl) (fun j hj => by omega)
  · simp only [Nat.reduceAdd] at a5 a6
    refine ⟨rfl, fun X hX => ?_⟩
    replace hX : ∀ pc L st D, pm_F N Ga tbX0_move none post X pc L st D → X pc L st D := hX
    change X 0 [some (.ref 10), none, none, none] [] D
    iterate 2 (refine hX _ _ _ _ ?_; conv => whnf)
    -- the second loop
    have loop2 : ∀ (m b : Nat) (D1 : pm_Mem) (l2 l3 : Option Value), b + m = n → (∀ r, r ≠ 10 → r ≠ 15 → r ≠ 16 → r ≠ 19 → D1 r = D r) → (∀ k, k < 13 → D1 10 k = D 10 k) → (∀ j, j < n → D1 19 j = z_pull g j) → D1 19 n = 0 → (∀ j, j < n → D1 15 j = if j < b then z_np g j else g (16 + j)) → (∀ j, j < n → D1 16 j = if j < b then z_fs g j else g (20 + j)) → D1 10 13 = D 10 13 + z_gone g b → D1 10 14 = D 10 14 + z_stop g b → (D1 10 15 = 0 ∨ D1 10 15 = 1) → (D1 10 15 = 1 ↔ z_stir g b) → X 44 [some (.ref 10), some (.int (nI b)), l2, l3] [] D1 := by
      intro m
      induction m with
      | zero =>
        intro b D1 l2 l3 hb f1 f2 f3 f4 f5 f6 f7 f8 f9 f10
        have hb : b = n := by omega
        subst hb
        repeat (refine hX _ _ _ _ ?_; conv => whnf)
        rw [f2 0 (by omega), a1]
        refine ⟨fun _ => ?_, fun z => absurd (nI_le (Nat.le_refl _) (by omega)) z⟩
        repeat (refine hX _ _ _ _ ?_; conv => whnf)
        rw [f2 3 (by omega), a4]
        refine h _ ?_ (fun r hr => ?_) ?_ ?_ ?_ ?_
        · refine ⟨?_, ?_, ?_, ?_, fun j hj => ?_, fun i hi => ?_⟩
          · rw [pm_mu_k _ _ _ _ (by omega), f2 0 (by omega), a1, z_move_lo (by omega) (by omega), g1]
          · rw [pm_mu_k _ _ _ _ (by omega), f2 1 (by omega), a2, z_move_lo (by omega) (by omega)]
          · rw [pm_mu_k _ _ _ _ (by omega), f2 2 (by omega), a3, z_move_lo (by omega) (by omega)]
          · rw [pm_mu_at, z_move_t]
          · rw [z_move_n (by omega), hn] at hj
            obtain ⟨b1, b2, b3, b4, b5, b6⟩ := a5 j hj
            simp only [Nat.reduceAdd]
            refine ⟨?_, ?_, ?_, ?_, ?_, ?_⟩
            · rw [pm_mu_r _ _ _ _ (by decide), f1 _ (by decide) (by decide) (by decide) (by decide), b1, z_move_lo (by omega) (by omega)]
            · rw [pm_mu_r _ _ _ _ (by decide), f1 _ (by decide) (by decide) (by decide) (by decide), b2, z_move_lo (by omega) (by omega)]
            · rw [pm_mu_r _ _ _ _ (by decide), f1 _ (by decide) (by decide) (by decide) (by decide), b3, z_move_lo (by omega) (by omega)]
            · rw [pm_mu_r _ _ _ _ (by decide), f1 _ (by decide) (by decide) (by decide) (by decide), b4, z_move_lo (by omega) (by omega)]
            · rw [pm_mu_r _ _ _ _ (by decide), f5 j hj, if_pos hj, z_move_p (by omega) (by omega)]
            · rw [pm_mu_r _ _ _ _ (by decide), f6 j hj, if_pos hj, z_move_s (by omega) (by omega)]
          · rw [z_move_k (by omega)] at hi
            obtain ⟨b1, b2⟩ := a6 i hi
            simp only [Nat.reduceAdd]
            refine ⟨?_, ?_⟩
            · rw [pm_mu_r _ _ _ _ (by decide), f1 _ (by decide) (by decide) (by decide) (by decide), b1, z_move_lo (by omega) (by omega)]
            · rw [pm_mu_r _ _ _ _ (by decide), f1 _ (by decide) (by decide) (by decide) (by decide), b2, z_move_lo (by omega) (by omega)]
        · rw [pm_mu_ne _ _ _ (by omega)]
          exact f1 r (by omega) (by omega) (by omega) (by omega)
        · rw [pm_mu_k _ _ _ _ (by omega)]; exact f7
        · rw [pm_mu_k _ _ _ _ (by omega)]; exact f8
        · rw [pm_mu_k _ _ _ _ (by omega)]; exact f9
        · rw [pm_mu_k _ _ _ _ (by omega)]; exact f10
      | succ m ih =>
        intro b D1 l2 l3 hb f1 f2 f3 f4 f5 f6 f7 f8 f9 f10
        have hbn : b < n := by omega
        obtain ⟨k1, k2, k3, k4, k5, k6⟩ := g7 b (by omega)
        obtain ⟨b1, b2, b3, b4, b5, b6⟩ := a5 b hbn
        have hin : vp_in (nI b) 4 := vp_in_nI (by omega) (by decide)
        have hcl : (nI b).toNatClampNeg = b := nI_clamp (by omega)
        have hw : (10 * g (12 + b)).toInt = 10 * (g (12 + b)).toInt := z_mul (x := 10) (by have := k4.1; have := k4.2; show _ ≤ 10 * _; omega) (by have := k4.1; have := k4.2; show 10 * _ ≤ _; omega)
        have hm4 : D1 14 b = g (12 + b) := by rw [f1 _ (by decide) (by decide) (by decide) (by decide), b4]
        repeat (refine hX _ _ _ _ ?_; conv => whnf)
        rw [f2 0 (by omega), a1]
        refine ⟨fun z => absurd z (nI_ge (by omega) (by omega)), fun _ => ?_⟩
        repeat (refine hX _ _ _ _ ?_; conv => whnf)
        refine ⟨hin, ?_⟩
        rw [hcl, hm4]
        repeat (refine hX _ _ _ _ ?_; conv => whnf)
        refine ⟨fun z => absurd z (by rw [z_le, hw]; have := k4.1; show ¬ _ ≤ (0 : Int); omega), fun _ => ?_⟩
        repeat (refine hX _ _ _ _ ?_; conv => whnf)
        rw [nI_1]
        refine ⟨vp_in_nI (by omega) (by decide), ?_⟩
        repeat (refine hX _ _ _ _ ?_; conv => whnf)
        refine ⟨vp_in_nI (by omega) (by decide), ?_⟩
        repeat (refine hX _ _ _ _ ?_; conv => whnf)
        refine ⟨by rw [z_eq, hw]; have := k4.1; show ¬ _ = (0 : Int); omega, ?_⟩
        repeat (refine hX _ _ _ _ ?_; conv => whnf)
        refine ⟨hin, ?_⟩
        have hp1 : D1 19 (b + 1) = z_pn g (b + 1) := by
          unfold z_pn
          rw [hn]
          by_cases e : b + 1 < n
          · rw [if_pos e]; exact f3 _ e
          · rw [if_neg e, show b + 1 = n by omega]; exact f4
        rw [hcl, nI_clamp (show b + 1 < 2 ^ 31 by omega), hp1, f3 b hbn, f6 b hbn, if_neg (by omega)]
        repeat (refine hX _ _ _ _ ?_; conv => whnf)
        refine hsl 10 _ (g 50) D1 _ hc (by rw [f2 2 (by omega), a3]) g5 ?_
        repeat (refine hX _ _ _ _ ?_; conv => whnf)
        refine hinb _ _ _ ?_
        repeat (refine hX _ _ _ _ ?_; conv => whnf)
        refine hgo 10 b (g (16 + b)) (z_ns g b) (g (20 + b)) D1 _ hc (by omega) (by show D1 15 b = _; rw [f5 b hbn, if_neg (by omega)]) (by show D1 16 b = _; rw [f6 b hbn, if_neg (by omega)]) (fun D2 rch lft hrc hlf e1 e2 e3 e4 e5 e6 e7 => ?_)
        simp only [Nat.reduceAdd] at e1 e6 e7
        have hrc : rch = z_np g b := hrc
        have hlf : lft = z_fs g b := hlf
        subst hrc
        subst hlf
        iterate 2 (refine hX _ _ _ _ ?_; conv => whnf)
        rw [nI_1]
        have hst : z_stir g (b + 1) ↔ z_stir g b ∨ (z_np g b ≠ g (16 + b) ∨ z_fs g b ≠ g (20 + b)) := by
          constructor
          · rintro ⟨j, hj, hq⟩
            by_cases e : j = b
            · subst e; exact Or.inr hq
            · exact Or.inl ⟨j, by omega, hq⟩
          · rintro (⟨j, hj, hq⟩ | hq)
            · exact ⟨j, by omega, hq⟩
            · exact ⟨b, by omega, hq⟩
        refine ih (b + 1) D2 _ _ (by omega) (fun r r1 r2 r3 r4 => ?_) (fun k hk => ?_) (fun j hj => ?_) ?_ (fun j hj => ?_) (fun j hj => ?_) ?_ ?_ ?_ ?_
        · rw [e1 r r1 r2 r3]; exact f1 r r1 r2 r3 r4
        · rw [e2 k (by omega) (by omega) (by omega)]; exact f2 k hk
        · rw [e1 _ (by decide) (by decide) (by decide)]; exact f3 j hj
        · rw [e1 _ (by decide) (by decide) (by decide)]; exact f4
        · rw [e6 j]
          by_cases e : j = b
          · rw [if_pos e, if_pos (by omega), e]
          · rw [if_neg e, f5 j hj]
            by_cases e2 : j < b
            · rw [if_pos e2, if_pos (by omega)]
            · rw [if_neg e2, if_neg (by omega)]
        · rw [e7 j]
          by_cases e : j = b
          · rw [if_pos e, if_pos (by omega), e]
          · rw [if_neg e, f6 j hj]
            by_cases e2 : j < b
            · rw [if_pos e2, if_pos (by omega)]
            · rw [if_neg e2, if_neg (by omega)]
        · rw [e3, f7, Int32.add_assoc]; rfl
        · rw [e4, f8, Int32.add_assoc]; rfl
        · rw [e5]
          split
          · exact Or.inr rfl
          · exact f9
        · rw [e5, hst]
          split
          · rename_i q
            exact ⟨fun _ => Or.inr q, fun _ => rfl⟩
          · rename_i q
            rw [f10]
            exact ⟨Or.inl, fun z => z.elim id (fun z => absurd z q)⟩
    have loop1 : ∀ (m b : Nat) (D1 : pm_Mem), b + m = n → (∀ r, r ≠ 19 → D1 r = D r) → (∀ j, j < b → D1 19 j = z_pull g j) → X 2 [some (.ref 10), some (.int (nI b)), none, none] [] D1 := by
      intro m
      induction m with
      | zero =>
        intro b D1 hb f1 f2
        have hb : b = n := by omega
        subst hb
        repeat (refine hX _ _ _ _ ?_; conv => whnf)
        rw [f1 10 (by decide), a1]
        refine ⟨fun _ => ?_, fun z => absurd (nI_le (Nat.le_refl _) (by omega)) z⟩
        repeat (refine hX _ _ _ _ ?_; conv => whnf)
        rw [f1 10 (by decide), a1]
        refine ⟨by decide, vp_in_nI (by omega) (by decide), ?_⟩
        repeat (refine hX _ _ _ _ ?_; conv => whnf)
        refine ⟨Or.inl rfl, ?_⟩
        iterate 2 (refine hX _ _ _ _ ?_; conv => whnf)
        rw [nI_clamp (by omega)]
        refine loop2 b 0 _ none none (by omega) (fun r r1 r2 r3 r4 => ?_) (fun k hk => ?_) (fun j hj => ?_) ?_ (fun j hj => ?_) (fun j hj => ?_) ?_ ?_ ?_ ?_
        · rw [pm_mu_ne _ _ _ r1, pm_mu_ne _ _ _ r4]; exact f1 r r4
        · rw [pm_mu_k _ _ _ _ (by omega), pm_mu_r _ _ _ _ (by decide), f1 _ (by decide)]
        · rw [pm_mu_r _ _ _ _ (by decide), pm_mu_k _ _ _ _ (by omega)]; exact f2 j hj
        · rw [pm_mu_r _ _ _ _ (by decide), pm_mu_at]
        · rw [pm_mu_r _ _ _ _ (by decide), pm_mu_r _ _ _ _ (by decide), f1 _ (by decide), if_neg (by omega)]; exact (a5 j hj).2.2.2.2.1
        · rw [pm_mu_r _ _ _ _ (by decide), pm_mu_r _ _ _ _ (by decide), f1 _ (by decide), if_neg (by omega)]; exact (a5 j hj).2.2.2.2.2
        · rw [pm_mu_k _ _ _ _ (by omega), pm_mu_r _ _ _ _ (by decide), f1 _ (by decide)]; exact (Int32.add_zero _).symm
        · rw [pm_mu_k _ _ _ _ (by omega), pm_mu_r _ _ _ _ (by decide), f1 _ (by decide)]; exact (Int32.add_zero _).symm
        · exact Or.inl (pm_mu_at _ _ _ _)
        · rw [pm_mu_at]
          exact ⟨fun z => absurd z (by decide), fun ⟨b, hb, _⟩ => absurd hb (by omega)⟩
      | succ m ih =>
        intro b D1 hb f1 f2
        repeat (refine hX _ _ _ _ ?_; conv => whnf)
        rw [f1 10 (by decide), a1]
        refine ⟨fun z => absurd z (nI_ge (by omega) (by omega)), fun _ => ?_⟩
        repeat (refine hX _ _ _ _ ?_; conv => whnf)
        obtain ⟨b1, b2, b3, b4, b5, b6⟩ := a5 b (by omega)
        refine hpu 10 b g D1 _ hc (by omega) (g7 b (by omega)).1 (by rw [f1 _ (by decide)]; exact b1) (by rw [f1 _ (by decide)]; exact b2) (by rw [f1 _ (by decide)]; exact b3) (fun j hj => by rw [f1 _ (by decide)]; exact (a5 j (by omega)).2.2.2.2.1) ?_
        repeat (refine hX _ _ _ _ ?_; conv => whnf)
        refine ⟨by decide, vp_in_nI (by omega) (by decide), ?_⟩
        iterate 2 (refine hX _ _ _ _ ?_; conv => whnf)
        rw [nI_clamp (by omega), nI_1]
        refine ih (b + 1) _ (by omega) (fun r hr => by rw [pm_mu_ne _ _ _ hr]; exact f1 r hr) (fun j hj => ?_)
        rw [pm_mu_eq, if_pos rfl]
        split
        · rename_i e; rw [e]
        · exact f2 j (by omega)
    exact loop1 n 0 D (by omega) (fun _ _ => rfl) (fun j hj => by omega)
  · simp only [Nat.reduceAdd] at a5 a6
    refine ⟨rfl, fun X hX => ?_⟩
    replace hX : ∀ pc L st D, pm_F N Ga tbX0_move none post X pc L st D → X pc L st D := hX
    change X 0 [some (.ref 20), none, none, none] [] D
    iterate 2 (refine hX _ _ _ _ ?_; conv => whnf)
    -- the second loop
    have loop2 : ∀ (m b : Nat) (D1 : pm_Mem) (l2 l3 : Option Value), b + m = n → (∀ r, r ≠ 20 → r ≠ 25 → r ≠ 26 → r ≠ 29 → D1 r = D r) → (∀ k, k < 13 → D1 20 k = D 20 k) → (∀ j, j < n → D1 29 j = z_pull g j) → D1 29 n = 0 → (∀ j, j < n → D1 25 j = if j < b then z_np g j else g (16 + j)) → (∀ j, j < n → D1 26 j = if j < b then z_fs g j else g (20 + j)) → D1 20 13 = D 20 13 + z_gone g b → D1 20 14 = D 20 14 + z_stop g b → (D1 20 15 = 0 ∨ D1 20 15 = 1) → (D1 20 15 = 1 ↔ z_stir g b) → X 44 [some (.ref 20), some (.int (nI b)), l2, l3] [] D1 := by
      intro m
      induction m with
      | zero =>
        intro b D1 l2 l3 hb f1 f2 f3 f4 f5 f6 f7 f8 f9 f10
        have hb : b = n := by omega
        subst hb
        repeat (refine hX _ _ _ _ ?_; conv => whnf)
        rw [f2 0 (by omega), a1]
        refine ⟨fun _ => ?_, fun z => absurd (nI_le (Nat.le_refl _) (by omega)) z⟩
        repeat (refine hX _ _ _ _ ?_; conv => whnf)
        rw [f2 3 (by omega), a4]
        refine h _ ?_ (fun r hr => ?_) ?_ ?_ ?_ ?_
        · refine ⟨?_, ?_, ?_, ?_, fun j hj => ?_, fun i hi => ?_⟩
          · rw [pm_mu_k _ _ _ _ (by omega), f2 0 (by omega), a1, z_move_lo (by omega) (by omega), g1]
          · rw [pm_mu_k _ _ _ _ (by omega), f2 1 (by omega), a2, z_move_lo (by omega) (by omega)]
          · rw [pm_mu_k _ _ _ _ (by omega), f2 2 (by omega), a3, z_move_lo (by omega) (by omega)]
          · rw [pm_mu_at, z_move_t]
          · rw [z_move_n (by omega), hn] at hj
            obtain ⟨b1, b2, b3, b4, b5, b6⟩ := a5 j hj
            simp only [Nat.reduceAdd]
            refine ⟨?_, ?_, ?_, ?_, ?_, ?_⟩
            · rw [pm_mu_r _ _ _ _ (by decide), f1 _ (by decide) (by decide) (by decide) (by decide), b1, z_move_lo (by omega) (by omega)]
            · rw [pm_mu_r _ _ _ _ (by decide), f1 _ (by decide) (by decide) (by decide) (by decide), b2, z_move_lo (by omega) (by omega)]
            · rw [pm_mu_r _ _ _ _ (by decide), f1 _ (by decide) (by decide) (by decide) (by decide), b3, z_move_lo (by omega) (by omega)]
            · rw [pm_mu_r _ _ _ _ (by decide), f1 _ (by decide) (by decide) (by decide) (by decide), b4, z_move_lo (by omega) (by omega)]
            · rw [pm_mu_r _ _ _ _ (by decide), f5 j hj, if_pos hj, z_move_p (by omega) (by omega)]
            · rw [pm_mu_r _ _ _ _ (by decide), f6 j hj, if_pos hj, z_move_s (by omega) (by omega)]
          · rw [z_move_k (by omega)] at hi
            obtain ⟨b1, b2⟩ := a6 i hi
            simp only [Nat.reduceAdd]
            refine ⟨?_, ?_⟩
            · rw [pm_mu_r _ _ _ _ (by decide), f1 _ (by decide) (by decide) (by decide) (by decide), b1, z_move_lo (by omega) (by omega)]
            · rw [pm_mu_r _ _ _ _ (by decide), f1 _ (by decide) (by decide) (by decide) (by decide), b2, z_move_lo (by omega) (by omega)]
        · rw [pm_mu_ne _ _ _ (by omega)]
          exact f1 r (by omega) (by omega) (by omega) (by omega)
        · rw [pm_mu_k _ _ _ _ (by omega)]; exact f7
        · rw [pm_mu_k _ _ _ _ (by omega)]; exact f8
        · rw [pm_mu_k _ _ _ _ (by omega)]; exact f9
        · rw [pm_mu_k _ _ _ _ (by omega)]; exact f10
      | succ m ih =>
        intro b D1 l2 l3 hb f1 f2 f3 f4 f5 f6 f7 f8 f9 f10
        have hbn : b < n := by omega
        obtain ⟨k1, k2, k3, k4, k5, k6⟩ := g7 b (by omega)
        obtain ⟨b1, b2, b3, b4, b5, b6⟩ := a5 b hbn
        have hin : vp_in (nI b) 4 := vp_in_nI (by omega) (by decide)
        have hcl : (nI b).toNatClampNeg = b := nI_clamp (by omega)
        have hw : (10 * g (12 + b)).toInt = 10 * (g (12 + b)).toInt := z_mul (x := 10) (by have := k4.1; have := k4.2; show _ ≤ 10 * _; omega) (by have := k4.1; have := k4.2; show 10 * _ ≤ _; omega)
        have hm4 : D1 24 b = g (12 + b) := by rw [f1 _ (by decide) (by decide) (by decide) (by decide), b4]
        repeat (refine hX _ _ _ _ ?_; conv => whnf)
        rw [f2 0 (by omega), a1]
        refine ⟨fun z => absurd z (nI_ge (by omega) (by omega)), fun _ => ?_⟩
        repeat (refine hX _ _ _ _ ?_; conv => whnf)
        refine ⟨hin, ?_⟩
        rw [hcl, hm4]
        repeat (refine hX _ _ _ _ ?_; conv => whnf)
        refine ⟨fun z => absurd z (by rw [z_le, hw]; have := k4.1; show ¬ _ ≤ (0 : Int); omega), fun _ => ?_⟩
        repeat (refine hX _ _ _ _ ?_; conv => whnf)
        rw [nI_1]
        refine ⟨vp_in_nI (by omega) (by decide), ?_⟩
        repeat (refine hX _ _ _ _ ?_; conv => whnf)
        refine ⟨vp_in_nI (by omega) (by decide), ?_⟩
        repeat (refine hX _ _ _ _ ?_; conv => whnf)
        refine ⟨by rw [z_eq, hw]; have := k4.1; show ¬ _ = (0 : Int); omega, ?_⟩
        repeat (refine hX _ _ _ _ ?_; conv => whnf)
        refine ⟨hin, ?_⟩
        have hp1 : D1 29 (b + 1) = z_pn g (b + 1) := by
          unfold z_pn
          rw [hn]
          by_cases e : b + 1 < n
          · rw [if_pos e]; exact f3 _ e
          · rw [if_neg e, show b + 1 = n by omega]; exact f4
        rw [hcl, nI_clamp (show b + 1 < 2 ^ 31 by omega), hp1, f3 b hbn, f6 b hbn, if_neg (by omega)]
        repeat (refine hX _ _ _ _ ?_; conv => whnf)
        refine hsl 20 _ (g 50) D1 _ hc (by rw [f2 2 (by omega), a3]) g5 ?_
        repeat (refine hX _ _ _ _ ?_; conv => whnf)
        refine hinb _ _ _ ?_
        repeat (refine hX _ _ _ _ ?_; conv => whnf)
        refine hgo 20 b (g (16 + b)) (z_ns g b) (g (20 + b)) D1 _ hc (by omega) (by show D1 25 b = _; rw [f5 b hbn, if_neg (by omega)]) (by show D1 26 b = _; rw [f6 b hbn, if_neg (by omega)]) (fun D2 rch lft hrc hlf e1 e2 e3 e4 e5 e6 e7 => ?_)
        simp only [Nat.reduceAdd] at e1 e6 e7
        have hrc : rch = z_np g b := hrc
        have hlf : lft = z_fs g b := hlf
        subst hrc
        subst hlf
        iterate 2 (refine hX _ _ _ _ ?_; conv => whnf)
        rw [nI_1]
        have hst : z_stir g (b + 1) ↔ z_stir g b ∨ (z_np g b ≠ g (16 + b) ∨ z_fs g b ≠ g (20 + b)) := by
          constructor
          · rintro ⟨j, hj, hq⟩
            by_cases e : j = b
            · subst e; exact Or.inr hq
            · exact Or.inl ⟨j, by omega, hq⟩
          · rintro (⟨j, hj, hq⟩ | hq)
            · exact ⟨j, by omega, hq⟩
            · exact ⟨b, by omega, hq⟩
        refine ih (b + 1) D2 _ _ (by omega) (fun r r1 r2 r3 r4 => ?_) (fun k hk => ?_) (fun j hj => ?_) ?_ (fun j hj => ?_) (fun j hj => ?_) ?_ ?_ ?_ ?_
        · rw [e1 r r1 r2 r3]; exact f1 r r1 r2 r3 r4
        · rw [e2 k (by omega) (by omega) (by omega)]; exact f2 k hk
        · rw [e1 _ (by decide) (by decide) (by decide)]; exact f3 j hj
        · rw [e1 _ (by decide) (by decide) (by decide)]; exact f4
        · rw [e6 j]
          by_cases e : j = b
          · rw [if_pos e, if_pos (by omega), e]
          · rw [if_neg e, f5 j hj]
            by_cases e2 : j < b
            · rw [if_pos e2, if_pos (by omega)]
            · rw [if_neg e2, if_neg (by omega)]
        · rw [e7 j]
          by_cases e : j = b
          · rw [if_pos e, if_pos (by omega), e]
          · rw [if_neg e, f6 j hj]
            by_cases e2 : j < b
            · rw [if_pos e2, if_pos (by omega)]
            · rw [if_neg e2, if_neg (by omega)]
        · rw [e3, f7, Int32.add_assoc]; rfl
        · rw [e4, f8, Int32.add_assoc]; rfl
        · rw [e5]
          split
          · exact Or.inr rfl
          · exact f9
        · rw [e5, hst]
          split
          · rename_i q
            exact ⟨fun _ => Or.inr q, fun _ => rfl⟩
          · rename_i q
            rw [f10]
            exact ⟨Or.inl, fun z => z.elim id (fun z => absurd z q)⟩
    have loop1 : ∀ (m b : Nat) (D1 : pm_Mem), b + m = n → (∀ r, r ≠ 29 → D1 r = D r) → (∀ j, j < b → D1 29 j = z_pull g j) → X 2 [some (.ref 20), some (.int (nI b)), none, none] [] D1 := by
      intro m
      induction m with
      | zero =>
        intro b D1 hb f1 f2
        have hb : b = n := by omega
        subst hb
        repeat (refine hX _ _ _ _ ?_; conv => whnf)
        rw [f1 20 (by decide), a1]
        refine ⟨fun _ => ?_, fun z => absurd (nI_le (Nat.le_refl _) (by omega)) z⟩
        repeat (refine hX _ _ _ _ ?_; conv => whnf)
        rw [f1 20 (by decide), a1]
        refine ⟨by decide, vp_in_nI (by omega) (by decide), ?_⟩
        repeat (refine hX _ _ _ _ ?_; conv => whnf)
        refine ⟨Or.inl rfl, ?_⟩
        iterate 2 (refine hX _ _ _ _ ?_; conv => whnf)
        rw [nI_clamp (by omega)]
        refine loop2 b 0 _ none none (by omega) (fun r r1 r2 r3 r4 => ?_) (fun k hk => ?_) (fun j hj => ?_) ?_ (fun j hj => ?_) (fun j hj => ?_) ?_ ?_ ?_ ?_
        · rw [pm_mu_ne _ _ _ r1, pm_mu_ne _ _ _ r4]; exact f1 r r4
        · rw [pm_mu_k _ _ _ _ (by omega), pm_mu_r _ _ _ _ (by decide), f1 _ (by decide)]
        · rw [pm_mu_r _ _ _ _ (by decide), pm_mu_k _ _ _ _ (by omega)]; exact f2 j hj
        · rw [pm_mu_r _ _ _ _ (by decide), pm_mu_at]
        · rw [pm_mu_r _ _ _ _ (by decide), pm_mu_r _ _ _ _ (by decide), f1 _ (by decide), if_neg (by omega)]; exact (a5 j hj).2.2.2.2.1
        · rw [pm_mu_r _ _ _ _ (by decide), pm_mu_r _ _ _ _ (by decide), f1 _ (by decide), if_neg (by omega)]; exact (a5 j hj).2.2.2.2.2
        · rw [pm_mu_k _ _ _ _ (by omega), pm_mu_r _ _ _ _ (by decide), f1 _ (by decide)]; exact (Int32.add_zero _).symm
        · rw [pm_mu_k _ _ _ _ (by omega), pm_mu_r _ _ _ _ (by decide), f1 _ (by decide)]; exact (Int32.add_zero _).symm
        · exact Or.inl (pm_mu_at _ _ _ _)
        · rw [pm_mu_at]
          exact ⟨fun z => absurd z (by decide), fun ⟨b, hb, _⟩ => absurd hb (by omega)⟩
      | succ m ih =>
        intro b D1 hb f1 f2
        repeat (refine hX _ _ _ _ ?_; conv => whnf)
        rw [f1 20 (by decide), a1]
        refine ⟨fun z => absurd z (nI_ge (by omega) (by omega)), fun _ => ?_⟩
        repeat (refine hX _ _ _ _ ?_; conv => whnf)
        obtain ⟨b1, b2, b3, b4, b5, b6⟩ := a5 b (by omega)
        refine hpu 20 b g D1 _ hc (by omega) (g7 b (by omega)).1 (by rw [f1 _ (by decide)]; exact b1) (by rw [f1 _ (by decide)]; exact b2) (by rw [f1 _ (by decide)]; exact b3) (fun j hj => by rw [f1 _ (by decide)]; exact (a5 j (by omega)).2.2.2.2.1) ?_
        repeat (refine hX _ _ _ _ ?_; conv => whnf)
        refine ⟨by decide, vp_in_nI (by omega) (by decide), ?_⟩
        iterate 2 (refine hX _ _ _ _ ?_; conv => whnf)
        rw [nI_clamp (by omega), nI_1]
        refine ih (b + 1) _ (by omega) (fun r hr => by rw [pm_mu_ne _ _ _ hr]; exact f1 r hr) (fun j hj => ?_)
        rw [pm_mu_eq, if_pos rfl]
        split
        · rename_i e; rw [e]
        · exact f2 j (by omega)
    exact loop1 n 0 D (by omega) (fun _ _ => rfl) (fun j hj => by omega)
  · simp only [Nat.reduceAdd] at a5 a6
    refine ⟨rfl, fun X hX => ?_⟩
    replace hX : ∀ pc L st D, pm_F N Ga tbX0_move none post X pc L st D → X pc L st D := hX
    change X 0 [some (.ref 30), none, none, none] [] D
    iterate 2 (refine hX _ _ _ _ ?_; conv => whnf)
    -- the second loop
    have loop2 : ∀ (m b : Nat) (D1 : pm_Mem) (l2 l3 : Option Value), b + m = n → (∀ r, r ≠ 30 → r ≠ 35 → r ≠ 36 → r ≠ 39 → D1 r = D r) → (∀ k, k < 13 → D1 30 k = D 30 k) → (∀ j, j < n → D1 39 j = z_pull g j) → D1 39 n = 0 → (∀ j, j < n → D1 35 j = if j < b then z_np g j else g (16 + j)) → (∀ j, j < n → D1 36 j = if j < b then z_fs g j else g (20 + j)) → D1 30 13 = D 30 13 + z_gone g b → D1 30 14 = D 30 14 + z_stop g b → (D1 30 15 = 0 ∨ D1 30 15 = 1) → (D1 30 15 = 1 ↔ z_stir g b) → X 44 [some (.ref 30), some (.int (nI b)), l2, l3] [] D1 := by
      intro m
      induction m with
      | zero =>
        intro b D1 l2 l3 hb f1 f2 f3 f4 f5 f6 f7 f8 f9 f10
        have hb : b = n := by omega
        subst hb
        repeat (refine hX _ _ _ _ ?_; conv => whnf)
        rw [f2 0 (by omega), a1]
        refine ⟨fun _ => ?_, fun z => absurd (nI_le (Nat.le_refl _) (by omega)) z⟩
        repeat (refine hX _ _ _ _ ?_; conv => whnf)
        rw [f2 3 (by omega), a4]
        refine h _ ?_ (fun r hr => ?_) ?_ ?_ ?_ ?_
        · refine ⟨?_, ?_, ?_, ?_, fun j hj => ?_, fun i hi => ?_⟩
          · rw [pm_mu_k _ _ _ _ (by omega), f2 0 (by omega), a1, z_move_lo (by omega) (by omega), g1]
          · rw [pm_mu_k _ _ _ _ (by omega), f2 1 (by omega), a2, z_move_lo (by omega) (by omega)]
          · rw [pm_mu_k _ _ _ _ (by omega), f2 2 (by omega), a3, z_move_lo (by omega) (by omega)]
          · rw [pm_mu_at, z_move_t]
          · rw [z_move_n (by omega), hn] at hj
            obtain ⟨b1, b2, b3, b4, b5, b6⟩ := a5 j hj
            simp only [Nat.reduceAdd]
            refine ⟨?_, ?_, ?_, ?_, ?_, ?_⟩
            · rw [pm_mu_r _ _ _ _ (by decide), f1 _ (by decide) (by decide) (by decide) (by decide), b1, z_move_lo (by omega) (by omega)]
            · rw [pm_mu_r _ _ _ _ (by decide), f1 _ (by decide) (by decide) (by decide) (by decide), b2, z_move_lo (by omega) (by omega)]
            · rw [pm_mu_r _ _ _ _ (by decide), f1 _ (by decide) (by decide) (by decide) (by decide), b3, z_move_lo (by omega) (by omega)]
            · rw [pm_mu_r _ _ _ _ (by decide), f1 _ (by decide) (by decide) (by decide) (by decide), b4, z_move_lo (by omega) (by omega)]
            · rw [pm_mu_r _ _ _ _ (by decide), f5 j hj, if_pos hj, z_move_p (by omega) (by omega)]
            · rw [pm_mu_r _ _ _ _ (by decide), f6 j hj, if_pos hj, z_move_s (by omega) (by omega)]
          · rw [z_move_k (by omega)] at hi
            obtain ⟨b1, b2⟩ := a6 i hi
            simp only [Nat.reduceAdd]
            refine ⟨?_, ?_⟩
            · rw [pm_mu_r _ _ _ _ (by decide), f1 _ (by decide) (by decide) (by decide) (by decide), b1, z_move_lo (by omega) (by omega)]
            · rw [pm_mu_r _ _ _ _ (by decide), f1 _ (by decide) (by decide) (by decide) (by decide), b2, z_move_lo (by omega) (by omega)]
        · rw [pm_mu_ne _ _ _ (by omega)]
          exact f1 r (by omega) (by omega) (by omega) (by omega)
        · rw [pm_mu_k _ _ _ _ (by omega)]; exact f7
        · rw [pm_mu_k _ _ _ _ (by omega)]; exact f8
        · rw [pm_mu_k _ _ _ _ (by omega)]; exact f9
        · rw [pm_mu_k _ _ _ _ (by omega)]; exact f10
      | succ m ih =>
        intro b D1 l2 l3 hb f1 f2 f3 f4 f5 f6 f7 f8 f9 f10
        have hbn : b < n := by omega
        obtain ⟨k1, k2, k3, k4, k5, k6⟩ := g7 b (by omega)
        obtain ⟨b1, b2, b3, b4, b5, b6⟩ := a5 b hbn
        have hin : vp_in (nI b) 4 := vp_in_nI (by omega) (by decide)
        have hcl : (nI b).toNatClampNeg = b := nI_clamp (by omega)
        have hw : (10 * g (12 + b)).toInt = 10 * (g (12 + b)).toInt := z_mul (x := 10) (by have := k4.1; have := k4.2; show _ ≤ 10 * _; omega) (by have := k4.1; have := k4.2; show 10 * _ ≤ _; omega)
        have hm4 : D1 34 b = g (12 + b) := by rw [f1 _ (by decide) (by decide) (by decide) (by decide), b4]
        repeat (refine hX _ _ _ _ ?_; conv => whnf)
        rw [f2 0 (by omega), a1]
        refine ⟨fun z => absurd z (nI_ge (by omega) (by omega)), fun _ => ?_⟩
        repeat (refine hX _ _ _ _ ?_; conv => whnf)
        refine ⟨hin, ?_⟩
        rw [hcl, hm4]
        repeat (refine hX _ _ _ _ ?_; conv => whnf)
        refine ⟨fun z => absurd z (by rw [z_le, hw]; have := k4.1; show ¬ _ ≤ (0 : Int); omega), fun _ => ?_⟩
        repeat (refine hX _ _ _ _ ?_; conv => whnf)
        rw [nI_1]
        refine ⟨vp_in_nI (by omega) (by decide), ?_⟩
        repeat (refine hX _ _ _ _ ?_; conv => whnf)
        refine ⟨vp_in_nI (by omega) (by decide), ?_⟩
        repeat (refine hX _ _ _ _ ?_; conv => whnf)
        refine ⟨by rw [z_eq, hw]; have := k4.1; show ¬ _ = (0 : Int); omega, ?_⟩
        repeat (refine hX _ _ _ _ ?_; conv => whnf)
        refine ⟨hin, ?_⟩
        have hp1 : D1 39 (b + 1) = z_pn g (b + 1) := by
          unfold z_pn
          rw [hn]
          by_cases e : b + 1 < n
          · rw [if_pos e]; exact f3 _ e
          · rw [if_neg e, show b + 1 = n by omega]; exact f4
        rw [hcl, nI_clamp (show b + 1 < 2 ^ 31 by omega), hp1, f3 b hbn, f6 b hbn, if_neg (by omega)]
        repeat (refine hX _ _ _ _ ?_; conv => whnf)
        refine hsl 30 _ (g 50) D1 _ hc (by rw [f2 2 (by omega), a3]) g5 ?_
        repeat (refine hX _ _ _ _ ?_; conv => whnf)
        refine hinb _ _ _ ?_
        repeat (refine hX _ _ _ _ ?_; conv => whnf)
        refine hgo 30 b (g (16 + b)) (z_ns g b) (g (20 + b)) D1 _ hc (by omega) (by show D1 35 b = _; rw [f5 b hbn, if_neg (by omega)]) (by show D1 36 b = _; rw [f6 b hbn, if_neg (by omega)]) (fun D2 rch lft hrc hlf e1 e2 e3 e4 e5 e6 e7 => ?_)
        simp only [Nat.reduceAdd] at e1 e6 e7
        have hrc : rch = z_np g b := hrc
        have hlf : lft = z_fs g b := hlf
        subst hrc
        subst hlf
        iterate 2 (refine hX _ _ _ _ ?_; conv => whnf)
        rw [nI_1]
        have hst : z_stir g (b + 1) ↔ z_stir g b ∨ (z_np g b ≠ g (16 + b) ∨ z_fs g b ≠ g (20 + b)) := by
          constructor
          · rintro ⟨j, hj, hq⟩
            by_cases e : j = b
            · subst e; exact Or.inr hq
            · exact Or.inl ⟨j, by omega, hq⟩
          · rintro (⟨j, hj, hq⟩ | hq)
            · exact ⟨j, by omega, hq⟩
            · exact ⟨b, by omega, hq⟩
        refine ih (b + 1) D2 _ _ (by omega) (fun r r1 r2 r3 r4 => ?_) (fun k hk => ?_) (fun j hj => ?_) ?_ (fun j hj => ?_) (fun j hj => ?_) ?_ ?_ ?_ ?_
        · rw [e1 r r1 r2 r3]; exact f1 r r1 r2 r3 r4
        · rw [e2 k (by omega) (by omega) (by omega)]; exact f2 k hk
        · rw [e1 _ (by decide) (by decide) (by decide)]; exact f3 j hj
        · rw [e1 _ (by decide) (by decide) (by decide)]; exact f4
        · rw [e6 j]
          by_cases e : j = b
          · rw [if_pos e, if_pos (by omega), e]
          · rw [if_neg e, f5 j hj]
            by_cases e2 : j < b
            · rw [if_pos e2, if_pos (by omega)]
            · rw [if_neg e2, if_neg (by omega)]
        · rw [e7 j]
          by_cases e : j = b
          · rw [if_pos e, if_pos (by omega), e]
          · rw [if_neg e, f6 j hj]
            by_cases e2 : j < b
            · rw [if_pos e2, if_pos (by omega)]
            · rw [if_neg e2, if_neg (by omega)]
        · rw [e3, f7, Int32.add_assoc]; rfl
        · rw [e4, f8, Int32.add_assoc]; rfl
        · rw [e5]
          split
          · exact Or.inr rfl
          · exact f9
        · rw [e5, hst]
          split
          · rename_i q
            exact ⟨fun _ => Or.inr q, fun _ => rfl⟩
          · rename_i q
            rw [f10]
            exact ⟨Or.inl, fun z => z.elim id (fun z => absurd z q)⟩
    have loop1 : ∀ (m b : Nat) (D1 : pm_Mem), b + m = n → (∀ r, r ≠ 39 → D1 r = D r) → (∀ j, j < b → D1 39 j = z_pull g j) → X 2 [some (.ref 30), some (.int (nI b)), none, none] [] D1 := by
      intro m
      induction m with
      | zero =>
        intro b D1 hb f1 f2
        have hb : b = n := by omega
        subst hb
        repeat (refine hX _ _ _ _ ?_; conv => whnf)
        rw [f1 30 (by decide), a1]
        refine ⟨fun _ => ?_, fun z => absurd (nI_le (Nat.le_refl _) (by omega)) z⟩
        repeat (refine hX _ _ _ _ ?_; conv => whnf)
        rw [f1 30 (by decide), a1]
        refine ⟨by decide, vp_in_nI (by omega) (by decide), ?_⟩
        repeat (refine hX _ _ _ _ ?_; conv => whnf)
        refine ⟨Or.inl rfl, ?_⟩
        iterate 2 (refine hX _ _ _ _ ?_; conv => whnf)
        rw [nI_clamp (by omega)]
        refine loop2 b 0 _ none none (by omega) (fun r r1 r2 r3 r4 => ?_) (fun k hk => ?_) (fun j hj => ?_) ?_ (fun j hj => ?_) (fun j hj => ?_) ?_ ?_ ?_ ?_
        · rw [pm_mu_ne _ _ _ r1, pm_mu_ne _ _ _ r4]; exact f1 r r4
        · rw [pm_mu_k _ _ _ _ (by omega), pm_mu_r _ _ _ _ (by decide), f1 _ (by decide)]
        · rw [pm_mu_r _ _ _ _ (by decide), pm_mu_k _ _ _ _ (by omega)]; exact f2 j hj
        · rw [pm_mu_r _ _ _ _ (by decide), pm_mu_at]
        · rw [pm_mu_r _ _ _ _ (by decide), pm_mu_r _ _ _ _ (by decide), f1 _ (by decide), if_neg (by omega)]; exact (a5 j hj).2.2.2.2.1
        · rw [pm_mu_r _ _ _ _ (by decide), pm_mu_r _ _ _ _ (by decide), f1 _ (by decide), if_neg (by omega)]; exact (a5 j hj).2.2.2.2.2
        · rw [pm_mu_k _ _ _ _ (by omega), pm_mu_r _ _ _ _ (by decide), f1 _ (by decide)]; exact (Int32.add_zero _).symm
        · rw [pm_mu_k _ _ _ _ (by omega), pm_mu_r _ _ _ _ (by decide), f1 _ (by decide)]; exact (Int32.add_zero _).symm
        · exact Or.inl (pm_mu_at _ _ _ _)
        · rw [pm_mu_at]
          exact ⟨fun z => absurd z (by decide), fun ⟨b, hb, _⟩ => absurd hb (by omega)⟩
      | succ m ih =>
        intro b D1 hb f1 f2
        repeat (refine hX _ _ _ _ ?_; conv => whnf)
        rw [f1 30 (by decide), a1]
        refine ⟨fun z => absurd z (nI_ge (by omega) (by omega)), fun _ => ?_⟩
        repeat (refine hX _ _ _ _ ?_; conv => whnf)
        obtain ⟨b1, b2, b3, b4, b5, b6⟩ := a5 b (by omega)
        refine hpu 30 b g D1 _ hc (by omega) (g7 b (by omega)).1 (by rw [f1 _ (by decide)]; exact b1) (by rw [f1 _ (by decide)]; exact b2) (by rw [f1 _ (by decide)]; exact b3) (fun j hj => by rw [f1 _ (by decide)]; exact (a5 j (by omega)).2.2.2.2.1) ?_
        repeat (refine hX _ _ _ _ ?_; conv => whnf)
        refine ⟨by decide, vp_in_nI (by omega) (by decide), ?_⟩
        iterate 2 (refine hX _ _ _ _ ?_; conv => whnf)
        rw [nI_clamp (by omega), nI_1]
        refine ih (b + 1) _ (by omega) (fun r hr => by rw [pm_mu_ne _ _ _ hr]; exact f1 r hr) (fun j hj => ?_)
        rw [pm_mu_eq, if_pos rfl]
        split
        · rename_i e; rw [e]
        · exact f2 j (by omega)
    exact loop1 n 0 D (by omega) (fun _ _ => rfl) (fun j hj => by omega)
