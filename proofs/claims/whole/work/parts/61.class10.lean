def sp_faultAt (Ga : pm_Ga) : Prop := ∀ (z : z_Z) (k : Nat) (i : Int32) (D : pm_Mem) (post : pm_Post), zOk z → C5 D z → k < 4 → (zH z k = none → post (some (.int 1)) D) → (∀ a n, zH z k = some (a, n) → z_ib i 0 ((n : Int) - 1) = true → post (some (.int 0)) D) → (∀ a n, zH z k = some (a, n) → z_ib i 0 ((n : Int) - 1) = false → post (some (.int 2)) D) → Ga 29 [.ref 48, .int (nI k), .int i] D post
theorem z_m1 {n : Nat} (h : n < 2147483648) : (nI n - 1).toInt = (n : Int) - 1 := by
  have e1 : (1 : Int32).toInt = 1 := rfl
  have := z_tI (n := n) (by omega)
  rw [z_sub (by omega) (by omega)]
  omega
theorem z_5 {D : pm_Mem} {z : z_Z} (hz : zOk z) (h5 : C5 D z) {k : Nat} (hk : k < 4) : (zH z k = none ∧ D 50 k = -1) ∨ ∃ a n, zH z k = some (a, n) ∧ D 50 k = nI n ∧ D 50 k ≠ -1 ∧ D 51 k = nI a ∧ a ≤ 2 ∧ n ≤ 40 := by
  obtain ⟨s0, s1⟩ := h5 k hk
  cases hh : zH z k with
  | none => exact Or.inl ⟨rfl, s0 hh⟩
  | some q =>
    obtain ⟨a, n⟩ := q
    have hb := hz.2.2.2.2.2 k hk a n hh
    obtain ⟨y1, y2, _⟩ := s1 a n hh
    refine Or.inr ⟨a, n, rfl, y1, fun y => ?_, y2, hb.1, hb.2⟩
    rw [y1] at y
    have y3 := congrArg Int32.toInt y
    rw [z_tI (by omega)] at y3
    have : (-1 : Int32).toInt = -1 := rfl
    omega
set_option maxHeartbeats 4000000 in
theorem t_faultAt {N : Nat} {Ga : pm_Ga} (hwi : sp_within Ga) (hno : sp_isNothing Ga) : sp_faultAt (pm_up N Ga) := by
  intro z k i D post hz h5 hk h1 h0 h2
  refine ⟨rfl, fun X hX => ?_⟩
  replace hX : ∀ pc L st D, pm_F N Ga tbX2_faultAt (some .int) post X pc L st D → X pc L st D := hX
  change X 0 [some (.ref 48), some (.int (nI k)), some (.int i)] [] D
  repeat (refine hX _ _ _ _ ?_; conv => whnf)
  refine hno k D _ hk (fun y => ?_) (fun y => ?_)
  · rcases z_5 hz h5 hk with ⟨a1, a2⟩ | ⟨a, n, b1, b2, b3, _⟩
    · repeat (refine hX _ _ _ _ ?_; conv => whnf)
      refine ⟨fun h => absurd h (by decide), fun _ => ?_⟩
      repeat (refine hX _ _ _ _ ?_; conv => whnf)
      exact h1 a1
    · exact absurd y b3
  · rcases z_5 hz h5 hk with ⟨a1, a2⟩ | ⟨a, n, b1, b2, b3, b4, b5, b6⟩
    · exact absurd a2 y
    · repeat (refine hX _ _ _ _ ?_; conv => whnf)
      refine ⟨fun _ => ?_, fun h => absurd h (by decide)⟩
      repeat (refine hX _ _ _ _ ?_; conv => whnf)
      refine ⟨vp_in_nI hk (by decide), ?_⟩
      repeat (refine hX _ _ _ _ ?_; conv => whnf)
      rw [nI_clamp (by omega), b2]
      refine w_ib hwi 0 ((n : Int) - 1) rfl (z_m1 (by omega)) (fun f => ?_) (fun f => ?_)
      · repeat (refine hX _ _ _ _ ?_; conv => whnf)
        refine ⟨fun h => absurd h (by decide), fun _ => ?_⟩
        repeat (refine hX _ _ _ _ ?_; conv => whnf)
        exact h0 a n b1 f
      · repeat (refine hX _ _ _ _ ?_; conv => whnf)
        refine ⟨fun _ => ?_, fun h => absurd h (by decide)⟩
        repeat (refine hX _ _ _ _ ?_; conv => whnf)
        exact h2 a n b1 f
def sp_putS (Ga : pm_Ga) : Prop := ∀ (k a i : Nat) (v : Int32) (D : pm_Mem) (post : pm_Post), k < 4 → a ≤ 2 → i < 40 → D 51 k = nI a → post none (pm_mu D (52 + k) i (z_na a v)) → Ga 28 [.ref 48, .int (nI k), .int (nI i), .int v] D post
set_option maxHeartbeats 4000000 in
theorem t_putS {N : Nat} {Ga : pm_Ga} : sp_putS (pm_up N Ga) := by
  intro k a i v D post hk ha hi h51 h
  have vi : vp_in (nI i) 40 := vp_in_nI hi (by decide)
  have ci : (nI i).toNatClampNeg = i := nI_clamp (by omega)
  rcases z_four hk with rfl | rfl | rfl | rfl
  · have vk : vp_in (nI 0) 4 := vp_in_nI (show 0 < 4 by decide) (by decide)
    have ck : (nI 0).toNatClampNeg = 0 := nI_clamp (by decide)
    refine ⟨rfl, fun X hX => ?_⟩
    replace hX : ∀ pc L st D, pm_F N Ga tbX2_put none post X pc L st D → X pc L st D := hX
    change X 0 [some (.ref 48), some (.int (nI 0)), some (.int (nI i)), some (.int v)] [] D
    repeat (refine hX _ _ _ _ ?_; conv => whnf)
    refine ⟨vk, ?_⟩
    repeat (refine hX _ _ _ _ ?_; conv => whnf)
    rw [ck, h51]
    have h3 : a = 0 ∨ a = 1 ∨ a = 2 := by omega
    rcases h3 with rfl | rfl | rfl
    · refine ⟨32, by decide, ?_⟩
      repeat (refine hX _ _ _ _ ?_; conv => whnf)
      refine ⟨vk, ?_⟩
      repeat (refine hX _ _ _ _ ?_; conv => whnf)
      rw [ck, ci]
      refine ⟨by decide, vi, ?_⟩
      repeat (refine hX _ _ _ _ ?_; conv => whnf)
      exact h
    · refine ⟨45, by decide, ?_⟩
      repeat (refine hX _ _ _ _ ?_; conv => whnf)
      refine ⟨vk, ?_⟩
      repeat (refine hX _ _ _ _ ?_; conv => whnf)
      rw [ck, ci]
      refine ⟨by decide, vi, ?_⟩
      repeat (refine hX _ _ _ _ ?_; conv => whnf)
      exact h
    · refine ⟨58, by decide, ?_⟩
      repeat (refine hX _ _ _ _ ?_; conv => whnf)
      refine ⟨vk, ?_⟩
      repeat (refine hX _ _ _ _ ?_; conv => whnf)
      rw [ck, ci]
      refine ⟨by decide, vi, ?_⟩
      repeat (refine hX _ _ _ _ ?_; conv => whnf)
      exact h
  · have vk : vp_in (nI 1) 4 := vp_in_nI (show 1 < 4 by decide) (by decide)
    have ck : (nI 1).toNatClampNeg = 1 := nI_clamp (by decide)
    refine ⟨rfl, fun X hX => ?_⟩
    replace hX : ∀ pc L st D, pm_F N Ga tbX2_put none post X pc L st D → X pc L st D := hX
    change X 0 [some (.ref 48), some (.int (nI 1)), some (.int (nI i)), some (.int v)] [] D
    repeat (refine hX _ _ _ _ ?_; conv => whnf)
    refine ⟨vk, ?_⟩
    repeat (refine hX _ _ _ _ ?_; conv => whnf)
    rw [ck, h51]
    have h3 : a = 0 ∨ a = 1 ∨ a = 2 := by omega
    rcases h3 with rfl | rfl | rfl
    · refine ⟨32, by decide, ?_⟩
      repeat (refine hX _ _ _ _ ?_; conv => whnf)
      refine ⟨vk, ?_⟩
      repeat (refine hX _ _ _ _ ?_; conv => whnf)
      rw [ck, ci]
      refine ⟨by decide, vi, ?_⟩
      repeat (refine hX _ _ _ _ ?_; conv => whnf)
      exact h
    · refine ⟨45, by decide, ?_⟩
      repeat (refine hX _ _ _ _ ?_; conv => whnf)
      refine ⟨vk, ?_⟩
      repeat (refine hX _ _ _ _ ?_; conv => whnf)
      rw [ck, ci]
      refine ⟨by decide, vi, ?_⟩
      repeat (refine hX _ _ _ _ ?_; conv => whnf)
      exact h
    · refine ⟨58, by decide, ?_⟩
      repeat (refine hX _ _ _ _ ?_; conv => whnf)
      refine ⟨vk, ?_⟩
      repeat (refine hX _ _ _ _ ?_; conv => whnf)
      rw [ck, ci]
      refine ⟨by decide, vi, ?_⟩
      repeat (refine hX _ _ _ _ ?_; conv => whnf)
      exact h
  · have vk : vp_in (nI 2) 4 := vp_in_nI (show 2 < 4 by decide) (by decide)
    have ck : (nI 2).toNatClampNeg = 2 := nI_clamp (by decide)
    refine ⟨rfl, fun X hX => ?_⟩
    replace hX : ∀ pc L st D, pm_F N Ga tbX2_put none post X pc L st D → X pc L st D := hX
    change X 0 [some (.ref 48), some (.int (nI 2)), some (.int (nI i)), some (.int v)] [] D
    repeat (refine hX _ _ _ _ ?_; conv => whnf)
    refine ⟨vk, ?_⟩
    repeat (refine hX _ _ _ _ ?_; conv => whnf)
    rw [ck, h51]
    have h3 : a = 0 ∨ a = 1 ∨ a = 2 := by omega
    rcases h3 with rfl | rfl | rfl
    · refine ⟨32, by decide, ?_⟩
      repeat (refine hX _ _ _ _ ?_; conv => whnf)
      refine ⟨vk, ?_⟩
      repeat (refine hX _ _ _ _ ?_; conv => whnf)
      rw [ck, ci]
      refine ⟨by decide, vi, ?_⟩
      repeat (refine hX _ _ _ _ ?_; conv => whnf)
      exact h
    · refine ⟨45, by decide, ?_⟩
      repeat (refine hX _ _ _ _ ?_; conv => whnf)
      refine ⟨vk, ?_⟩
      repeat (refine hX _ _ _ _ ?_; conv => whnf)
      rw [ck, ci]
      refine ⟨by decide, vi, ?_⟩
      repeat (refine hX _ _ _ _ ?_; conv => whnf)
      exact h
    · refine ⟨58, by decide, ?_⟩
      repeat (refine hX _ _ _ _ ?_; conv => whnf)
      refine ⟨vk, ?_⟩
      repeat (refine hX _ _ _ _ ?_; conv => whnf)
      rw [ck, ci]
      refine ⟨by decide, vi, ?_⟩
      repeat (refine hX _ _ _ _ ?_; conv => whnf)
      exact h
  · have vk : vp_in (nI 3) 4 := vp_in_nI (show 3 < 4 by decide) (by decide)
    have ck : (nI 3).toNatClampNeg = 3 := nI_clamp (by decide)
    refine ⟨rfl, fun X hX => ?_⟩
    replace hX : ∀ pc L st D, pm_F N Ga tbX2_put none post X pc L st D → X pc L st D := hX
    change X 0 [some (.ref 48), some (.int (nI 3)), some (.int (nI i)), some (.int v)] [] D
    repeat (refine hX _ _ _ _ ?_; conv => whnf)
    refine ⟨vk, ?_⟩
    repeat (refine hX _ _ _ _ ?_; conv => whnf)
    rw [ck, h51]
    have h3 : a = 0 ∨ a = 1 ∨ a = 2 := by omega
    rcases h3 with rfl | rfl | rfl
    · refine ⟨32, by decide, ?_⟩
      repeat (refine hX _ _ _ _ ?_; conv => whnf)
      refine ⟨vk, ?_⟩
      repeat (refine hX _ _ _ _ ?_; conv => whnf)
      rw [ck, ci]
      refine ⟨by decide, vi, ?_⟩
      repeat (refine hX _ _ _ _ ?_; conv => whnf)
      exact h
    · refine ⟨45, by decide, ?_⟩
      repeat (refine hX _ _ _ _ ?_; conv => whnf)
      refine ⟨vk, ?_⟩
      repeat (refine hX _ _ _ _ ?_; conv => whnf)
      rw [ck, ci]
      refine ⟨by decide, vi, ?_⟩
      repeat (refine hX _ _ _ _ ?_; conv => whnf)
      exact h
    · refine ⟨58, by decide, ?_⟩
      repeat (refine hX _ _ _ _ ?_; conv => whnf)
      refine ⟨vk, ?_⟩
      repeat (refine hX _ _ _ _ ?_; conv => whnf)
      rw [ck, ci]
      refine ⟨by decide, vi, ?_⟩
      repeat (refine hX _ _ _ _ ?_; conv => whnf)
      exact h
set_option maxHeartbeats 4000000 in
theorem t_c_lay {N : Nat} {Ga : pm_Ga} (hwi : sp_within Ga) (hfa : sp_faultAt Ga) (hpu : sp_putS Ga) : cs3 (pm_up N Ga) 93 r_lay := by
  intro z k i v D post hz hC h
  have h5 := hC.2.2.2.2.1
  unfold r_lay at h
  refine ⟨rfl, fun X hX => ?_⟩
  replace hX : ∀ pc L st D, pm_F N Ga tbX4_lay (some .int) post X pc L st D → X pc L st D := hX
  change X 0 [some (.ref 40), some (.int k), some (.int i), some (.int v), none] [] D
  repeat (refine hX _ _ _ _ ?_; conv => whnf)
  refine w_ib hwi 0 3 rfl rfl (fun e => ?_) (fun e => ?_)
  · obtain ⟨e1, e2, e3, e4⟩ := z_ib_of e (by decide) (by omega)
    rw [if_pos e] at h
    repeat (refine hX _ _ _ _ ?_; conv => whnf)
    refine ⟨fun _ => ?_, fun h => absurd h (by decide)⟩
    repeat (refine hX _ _ _ _ ?_; conv => whnf)
    rw [e1]
    refine hfa z (z_nt k) i D _ hz h5 (by omega) (fun y => ?_) (fun a n y w => ?_) (fun a n y w => ?_)
    · rw [y] at h
      repeat (refine hX _ _ _ _ ?_; conv => whnf)
      refine ⟨fun h => absurd h (by decide), fun _ => ?_⟩
      repeat (refine hX _ _ _ _ ?_; conv => whnf)
      exact h D hC (fun _ _ => rfl)
    · rw [y] at h
      obtain ⟨y1, y2, y3⟩ := (h5 _ (show z_nt k < 4 by omega)).2 a n y
      have hb := hz.2.2.2.2.2 _ (show z_nt k < 4 by omega) a n y
      obtain ⟨w1, w2, w3, w4⟩ := z_ib_of w (by decide) (by omega)
      change cP D (z_lay z (z_nt k) a n i v) post at h
      unfold z_lay at h
      rw [if_pos w] at h
      repeat (refine hX _ _ _ _ ?_; conv => whnf)
      refine ⟨fun _ => ?_, fun h => absurd h (by decide)⟩
      repeat (refine hX _ _ _ _ ?_; conv => whnf)
      rw [w1]
      refine hpu (z_nt k) a (z_nt i) v D _ (by omega) hb.1 (by omega) y2 ?_
      repeat (refine hX _ _ _ _ ?_; conv => whnf)
      have fr : ∀ r, r ≠ 52 + z_nt k → pm_mu D (52 + z_nt k) (z_nt i) (z_na a v) r = D r := fun r hr => pm_mu_ne _ _ _ hr
      refine h _ (hC.sheet (fun j hj => ?_) (fun r hr => fr r (by omega))) (fun r hr => fr r (by omega))
      obtain ⟨s0, s1⟩ := h5 j hj
      rw [fr 50 (by omega), fr 51 (by omega)]
      refine ⟨s0, fun a' n' y' => ?_⟩
      obtain ⟨x1, x2, x3⟩ := s1 a' n' y'
      refine ⟨x1, x2, fun q hq => ?_⟩
      show _ = (if j = z_nt k ∧ q = z_nt i then z_na a v else zE z j q)
      by_cases c : j = z_nt k
      · by_cases c2 : q = z_nt i
        · rw [if_pos ⟨c, c2⟩, c, c2, pm_mu_at]
        · rw [if_neg (fun t => c2 t.2), ← x3 q hq, c, pm_mu_k _ _ _ _ c2]
      · rw [if_neg (fun t => c t.1), ← x3 q hq, fr (52 + j) (by omega)]
    · rw [y] at h
      change cP D (z_lay z (z_nt k) a n i v) post at h
      unfold z_lay at h
      rw [if_neg (by rw [w]; decide)] at h
      repeat (refine hX _ _ _ _ ?_; conv => whnf)
      refine ⟨fun h => absurd h (by decide), fun _ => ?_⟩
      repeat (refine hX _ _ _ _ ?_; conv => whnf)
      exact h D hC (fun _ _ => rfl)
  · rw [if_neg (by rw [e]; decide)] at h
    repeat (refine hX _ _ _ _ ?_; conv => whnf)
    refine ⟨fun h => absurd h (by decide), fun _ => ?_⟩
    repeat (refine hX _ _ _ _ ?_; conv => whnf)
    exact h D hC (fun _ _ => rfl)
