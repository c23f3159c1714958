/-! ===== sheets ===== -/
def z_na (a : Nat) (v : Int32) : Int32 := if a = 0 then v.toInt8.toInt32 else if a = 1 then v.toInt16.toInt32 else v
def r_sheet (z : z_Z) (k a n : Int32) : Int32 × z_Z := if (z_ib k 0 3 && z_ib a 0 2) = true then (if n ≤ 40 then (if 0 ≤ n then (1, uH z (fun j => if j = z_nt k then some (z_nt a, z_nt n) else zH z j) (fun j i => if j = z_nt k then 0 else zE z j i)) else (-14, z)) else (-1, z)) else (-1, z)
def z_lay (z : z_Z) (k a n : Nat) (i v : Int32) : Int32 × z_Z := if z_ib i 0 ((n : Int) - 1) = true then (1, uH z (zH z) (fun j q => if j = k ∧ q = z_nt i then z_na a v else zE z j q)) else (-12, z)
def r_lay (z : z_Z) (k i v : Int32) : Int32 × z_Z := if z_ib k 0 3 = true then (match zH z (z_nt k) with | none => (-11, z) | some q => z_lay z (z_nt k) q.1 q.2 i v) else (-1, z)
theorem z_four {k : Nat} (h : k < 4) : k = 0 ∨ k = 1 ∨ k = 2 ∨ k = 3 := by omega
def sp_make (Ga : pm_Ga) : Prop := ∀ (k n : Nat) (a : Int32) (D : pm_Mem) (post : pm_Post), k < 4 → n ≤ 40 → (∀ D', (∀ i, i < n → D' (52 + k) i = 0) → (∀ r, r ≠ 52 + k → D' r = pm_mu (pm_mu D 51 k a) 50 k (nI n) r) → post none D') → Ga 27 [.ref 48, .int (nI k), .int a, .int (nI n)] D post
set_option maxHeartbeats 4000000 in
theorem t_make {N : Nat} {Ga : pm_Ga} : sp_make (pm_up N Ga) := by
  intro k n a D post hk hn h
  rcases z_four hk with rfl | rfl | rfl | rfl
  · have vk : vp_in (nI 0) 4 := vp_in_nI (show 0 < 4 by decide) (by decide)
    have ck : (nI 0).toNatClampNeg = 0 := nI_clamp (by decide)
    refine ⟨rfl, fun X hX => ?_⟩
    replace hX : ∀ pc L st D, pm_F N Ga tbX2_make none post X pc L st D → X pc L st D := hX
    change X 0 [some (.ref 48), some (.int (nI 0)), some (.int a), some (.int (nI n)), none] [] D
    repeat (refine hX _ _ _ _ ?_; conv => whnf)
    refine ⟨by decide, vk, ?_⟩
    repeat (refine hX _ _ _ _ ?_; conv => whnf)
    refine ⟨by decide, vk, ?_⟩
    rw [ck]
    iterate 2 (refine hX _ _ _ _ ?_; conv => whnf)
    have loop : ∀ (m i : Nat) (D1 : pm_Mem), i + m = n → (∀ j, j < i → D1 52 j = 0) → (∀ r, r ≠ 52 → D1 r = pm_mu (pm_mu D 51 0 a) 50 0 (nI n) r) → X 17 [some (.ref 48), some (.int (nI 0)), some (.int a), some (.int (nI n)), some (.int (nI i))] [] D1 := by
      intro m
      induction m with
      | zero =>
        intro i D1 hi f1 f2
        have hi : i = n := by omega
        subst hi
        repeat (refine hX _ _ _ _ ?_; conv => whnf)
        refine ⟨fun _ => ?_, fun q => absurd (nI_le (Nat.le_refl _) (by omega)) q⟩
        repeat (refine hX _ _ _ _ ?_; conv => whnf)
        exact h D1 f1 f2
      | succ m ih =>
        intro i D1 hi f1 f2
        repeat (refine hX _ _ _ _ ?_; conv => whnf)
        refine ⟨fun q => absurd q (nI_ge (by omega) (by omega)), fun _ => ?_⟩
        repeat (refine hX _ _ _ _ ?_; conv => whnf)
        refine ⟨vk, ?_⟩
        repeat (refine hX _ _ _ _ ?_; conv => whnf)
        refine ⟨by decide, vp_in_nI (show i < 40 by omega) (by decide), ?_⟩
        rw [nI_clamp (show i < 2 ^ 31 by omega)]
        iterate 2 (refine hX _ _ _ _ ?_; conv => whnf)
        rw [nI_1]
        change X 17 _ _ (pm_mu D1 52 i 0)
        refine ih (i + 1) _ (by omega) (fun j hj => ?_) (fun r hr => ?_)
        · by_cases e : j = i
          · rw [e, pm_mu_at]
          · rw [pm_mu_k _ _ _ _ e]; exact f1 j (by omega)
        · rw [pm_mu_ne _ _ _ hr]; exact f2 r hr
    exact loop n 0 _ (by omega) (fun j hj => absurd hj (by omega)) (fun _ _ => rfl)
  · have vk : vp_in (nI 1) 4 := vp_in_nI (show 1 < 4 by decide) (by decide)
    have ck : (nI 1).toNatClampNeg = 1 := nI_clamp (by decide)
    refine ⟨rfl, fun X hX => ?_⟩
    replace hX : ∀ pc L st D, pm_F N Ga tbX2_make none post X pc L st D → X pc L st D := hX
    change X 0 [some (.ref 48), some (.int (nI 1)), some (.int a), some (.int (nI n)), none] [] D
    repeat (refine hX _ _ _ _ ?_; conv => whnf)
    refine ⟨by decide, vk, ?_⟩
    repeat (refine hX _ _ _ _ ?_; conv => whnf)
    refine ⟨by decide, vk, ?_⟩
    rw [ck]
    iterate 2 (refine hX _ _ _ _ ?_; conv => whnf)
    have loop : ∀ (m i : Nat) (D1 : pm_Mem), i + m = n → (∀ j, j < i → D1 53 j = 0) → (∀ r, r ≠ 53 → D1 r = pm_mu (pm_mu D 51 1 a) 50 1 (nI n) r) → X 17 [some (.ref 48), some (.int (nI 1)), some (.int a), some (.int (nI n)), some (.int (nI i))] [] D1 := by
      intro m
      induction m with
      | zero =>
        intro i D1 hi f1 f2
        have hi : i = n := by omega
        subst hi
        repeat (refine hX _ _ _ _ ?_; conv => whnf)
        refine ⟨fun _ => ?_, fun q => absurd (nI_le (Nat.le_refl _) (by omega)) q⟩
        repeat (refine hX _ _ _ _ ?_; conv => whnf)
        exact h D1 f1 f2
      | succ m ih =>
        intro i D1 hi f1 f2
        repeat (refine hX _ _ _ _ ?_; conv => whnf)
        refine ⟨fun q => absurd q (nI_ge (by omega) (by omega)), fun _ => ?_⟩
        repeat (refine hX _ _ _ _ ?_; conv => whnf)
        refine ⟨vk, ?_⟩
        repeat (refine hX _ _ _ _ ?_; conv => whnf)
        refine ⟨by decide, vp_in_nI (show i < 40 by omega) (by decide), ?_⟩
        rw [nI_clamp (show i < 2 ^ 31 by omega)]
        iterate 2 (refine hX _ _ _ _ ?_; conv => whnf)
        rw [nI_1]
        change X 17 _ _ (pm_mu D1 53 i 0)
        refine ih (i + 1) _ (by omega) (fun j hj => ?_) (fun r hr => ?_)
        · by_cases e : j = i
          · rw [e, pm_mu_at]
          · rw [pm_mu_k _ _ _ _ e]; exact f1 j (by omega)
        · rw [pm_mu_ne _ _ _ hr]; exact f2 r hr
    exact loop n 0 _ (by omega) (fun j hj => absurd hj (by omega)) (fun _ _ => rfl)
  · have vk : vp_in (nI 2) 4 := vp_in_nI (show 2 < 4 by decide) (by decide)
    have ck : (nI 2).toNatClampNeg = 2 := nI_clamp (by decide)
    refine ⟨rfl, fun X hX => ?_⟩
    replace hX : ∀ pc L st D, pm_F N Ga tbX2_make none post X pc L st D → X pc L st D := hX
    change X 0 [some (.ref 48), some (.int (nI 2)), some (.int a), some (.int (nI n)), none] [] D
    repeat (refine hX _ _ _ _ ?_; conv => whnf)
    refine ⟨by decide, vk, ?_⟩
    repeat (refine hX _ _ _ _ ?_; conv => whnf)
    refine ⟨by decide, vk, ?_⟩
    rw [ck]
    iterate 2 (refine hX _ _ _ _ ?_; conv => whnf)
    have loop : ∀ (m i : Nat) (D1 : pm_Mem), i + m = n → (∀ j, j < i → D1 54 j = 0) → (∀ r, r ≠ 54 → D1 r = pm_mu (pm_mu D 51 2 a) 50 2 (nI n) r) → X 17 [some (.ref 48), some (.int (nI 2)), some (.int a), some (.int (nI n)), some (.int (nI i))] [] D1 := by
      intro m
      induction m with
      | zero =>
        intro i D1 hi f1 f2
        have hi : i = n := by omega
        subst hi
        repeat (refine hX _ _ _ _ ?_; conv => whnf)
        refine ⟨fun _ => ?_, fun q => absurd (nI_le (Nat.le_refl _) (by omega)) q⟩
        repeat (refine hX _ _ _ _ ?_; conv => whnf)
        exact h D1 f1 f2
      | succ m ih =>
        intro i D1 hi f1 f2
        repeat (refine hX _ _ _ _ ?_; conv => whnf)
        refine ⟨fun q => absurd q (nI_ge (by omega) (by omega)), fun _ => ?_⟩
        repeat (refine hX _ _ _ _ ?_; conv => whnf)
        refine ⟨vk, ?_⟩
        repeat (refine hX _ _ _ _ ?_; conv => whnf)
        refine ⟨by decide, vp_in_nI (show i < 40 by omega) (by decide), ?_⟩
        rw [nI_clamp (show i < 2 ^ 31 by omega)]
        iterate 2 (refine hX _ _ _ _ ?_; conv => whnf)
        rw [nI_1]
        change X 17 _ _ (pm_mu D1 54 i 0)
        refine ih (i + 1) _ (by omega) (fun j hj => ?_) (fun r hr => ?_)
        · by_cases e : j = i
          · rw [e, pm_mu_at]
          · rw [pm_mu_k _ _ _ _ e]; exact f1 j (by omega)
        · rw [pm_mu_ne _ _ _ hr]; exact f2 r hr
    exact loop n 0 _ (by omega) (fun j hj => absurd hj (by omega)) (fun _ _ => rfl)
  · have vk : vp_in (nI 3) 4 := vp_in_nI (show 3 < 4 by decide) (by decide)
    have ck : (nI 3).toNatClampNeg = 3 := nI_clamp (by decide)
    refine ⟨rfl, fun X hX => ?_⟩
    replace hX : ∀ pc L st D, pm_F N Ga tbX2_make none post X pc L st D → X pc L st D := hX
    change X 0 [some (.ref 48), some (.int (nI 3)), some (.int a), some (.int (nI n)), none] [] D
    repeat (refine hX _ _ _ _ ?_; conv => whnf)
    refine ⟨by decide, vk, ?_⟩
    repeat (refine hX _ _ _ _ ?_; conv => whnf)
    refine ⟨by decide, vk, ?_⟩
    rw [ck]
    iterate 2 (refine hX _ _ _ _ ?_; conv => whnf)
    have loop : ∀ (m i : Nat) (D1 : pm_Mem), i + m = n → (∀ j, j < i → D1 55 j = 0) → (∀ r, r ≠ 55 → D1 r = pm_mu (pm_mu D 51 3 a) 50 3 (nI n) r) → X 17 [some (.ref 48), some (.int (nI 3)), some (.int a), some (.int (nI n)), some (.int (nI i))] [] D1 := by
      intro m
      induction m with
      | zero =>
        intro i D1 hi f1 f2
        have hi : i = n := by omega
        subst hi
        repeat (refine hX _ _ _ _ ?_; conv => whnf)
        refine ⟨fun _ => ?_, fun q => absurd (nI_le (Nat.le_refl _) (by omega)) q⟩
        repeat (refine hX _ _ _ _ ?_; conv => whnf)
        exact h D1 f1 f2
      | succ m ih =>
        intro i D1 hi f1 f2
        repeat (refine hX _ _ _ _ ?_; conv => whnf)
        refine ⟨fun q => absurd q (nI_ge (by omega) (by omega)), fun _ => ?_⟩
        repeat (refine hX _ _ _ _ ?_; conv => whnf)
        refine ⟨vk, ?_⟩
        repeat (refine hX _ _ _ _ ?_; conv => whnf)
        refine ⟨by decide, vp_in_nI (show i < 40 by omega) (by decide), ?_⟩
        rw [nI_clamp (show i < 2 ^ 31 by omega)]
        iterate 2 (refine hX _ _ _ _ ?_; conv => whnf)
        rw [nI_1]
        change X 17 _ _ (pm_mu D1 55 i 0)
        refine ih (i + 1) _ (by omega) (fun j hj => ?_) (fun r hr => ?_)
        · by_cases e : j = i
          · rw [e, pm_mu_at]
          · rw [pm_mu_k _ _ _ _ e]; exact f1 j (by omega)
        · rw [pm_mu_ne _ _ _ hr]; exact f2 r hr
    exact loop n 0 _ (by omega) (fun j hj => absurd hj (by omega)) (fun _ _ => rfl)
set_option maxHeartbeats 4000000 in
theorem t_c_sheet {N : Nat} {Ga : pm_Ga} (hwi : sp_within Ga) (hmk : sp_make Ga) : cs3 (pm_up N Ga) 92 r_sheet := by
  intro z k a n D post hz hC h
  have h5 := hC.2.2.2.2.1
  unfold r_sheet at h
  refine ⟨rfl, fun X hX => ?_⟩
  replace hX : ∀ pc L st D, pm_F N Ga tbX4_sheet (some .int) post X pc L st D → X pc L st D := hX
  change X 0 [some (.ref 40), some (.int k), some (.int a), some (.int n)] [] D
  repeat (refine hX _ _ _ _ ?_; conv => whnf)
  refine w_ib hwi 0 3 rfl rfl (fun e => ?_) (fun e => ?_)
  · repeat (refine hX _ _ _ _ ?_; conv => whnf)
    refine ⟨fun h => absurd h (by decide), fun _ => ?_⟩
    repeat (refine hX _ _ _ _ ?_; conv => whnf)
    refine w_ib hwi 0 2 rfl rfl (fun f => ?_) (fun f => ?_)
    · rw [e, f, if_pos (by decide)] at h
      repeat (refine hX _ _ _ _ ?_; conv => whnf)
      refine ⟨fun h => absurd h (by decide), fun _ => ?_⟩
      repeat (refine hX _ _ _ _ ?_; conv => whnf)
      refine ⟨fun q => ?_, fun q => ?_⟩
      · rw [if_pos q] at h
        repeat (refine hX _ _ _ _ ?_; conv => whnf)
        refine ⟨fun w => ?_, fun w => ?_⟩
        · rw [if_pos w] at h
          obtain ⟨e1, e2, e3, e4⟩ := z_ib_of e (by decide) (by omega)
          obtain ⟨f1, f2, f3, f4⟩ := z_ib_of f (by decide) (by omega)
          obtain ⟨i1, i2, i3, i4⟩ := z_ib_of (x := n) (a := 0) (b := 40) (z_ib_t (z_le.mp w) (z_le.mp q)) (by decide) (by omega)
          repeat (refine hX _ _ _ _ ?_; conv => whnf)
          rw [e1, i1]
          refine hmk (z_nt k) (z_nt n) a D _ (by omega) (by omega) (fun D' q1 q2 => ?_)
          repeat (refine hX _ _ _ _ ?_; conv => whnf)
          have fr : ∀ r, (r < 50 ∨ 56 ≤ r) → D' r = D r := fun r hr => by rw [q2 r (by omega), pm_mu_ne _ _ _ (by omega), pm_mu_ne _ _ _ (by omega)]
          refine h _ (hC.sheet (fun j hj => ?_) fr) (fun r hr => fr r (by omega))
          by_cases c : j = z_nt k
          · show ((if j = z_nt k then some (z_nt a, z_nt n) else zH z j) = none → _) ∧ ∀ a' n', (if j = z_nt k then some (z_nt a, z_nt n) else zH z j) = some (a', n') → _ ∧ _ ∧ ∀ i, i < n' → _ = (if j = z_nt k then 0 else zE z j i)
            rw [if_pos c]
            refine ⟨fun y => absurd y (by simp), fun a' n' y => ?_⟩
            injection y with y
            injection y with y1 y2
            subst y1; subst y2
            rw [c]
            refine ⟨?_, ?_, fun i hi => ?_⟩
            · rw [q2 50 (by omega), pm_mu_at]
            · rw [q2 51 (by omega), pm_mu_r _ _ _ _ (by decide), pm_mu_at]; exact f1
            · rw [if_pos rfl]; exact q1 i hi
          · show ((if j = z_nt k then some (z_nt a, z_nt n) else zH z j) = none → _) ∧ ∀ a' n', (if j = z_nt k then some (z_nt a, z_nt n) else zH z j) = some (a', n') → _ ∧ _ ∧ ∀ i, i < n' → _ = (if j = z_nt k then 0 else zE z j i)
            rw [if_neg c]
            obtain ⟨s0, s1⟩ := h5 j hj
            have x50 : D' 50 j = D 50 j := by rw [q2 50 (by omega), pm_mu_k _ _ _ _ c, pm_mu_r _ _ _ _ (by decide)]
            have x51 : D' 51 j = D 51 j := by rw [q2 51 (by omega), pm_mu_r _ _ _ _ (by decide), pm_mu_k _ _ _ _ c]
            have x52 : D' (52 + j) = D (52 + j) := by rw [q2 (52 + j) (by omega), pm_mu_ne _ _ _ (by omega), pm_mu_ne _ _ _ (by omega)]
            rw [x50, x51, x52]
            refine ⟨s0, fun a' n' y => ?_⟩
            obtain ⟨y1, y2, y3⟩ := s1 a' n' y
            refine ⟨y1, y2, fun i hi => ?_⟩
            rw [if_neg c]
            exact y3 i hi
        · rw [if_neg w] at h
          repeat (refine hX _ _ _ _ ?_; conv => whnf)
          exact h D hC (fun _ _ => rfl)
      · rw [if_neg q] at h
        repeat (refine hX _ _ _ _ ?_; conv => whnf)
        exact h D hC (fun _ _ => rfl)
    · rw [e, f, if_neg (by decide)] at h
      repeat (refine hX _ _ _ _ ?_; conv => whnf)
      refine ⟨fun _ => ?_, fun h => absurd h (by decide)⟩
      repeat (refine hX _ _ _ _ ?_; conv => whnf)
      exact h D hC (fun _ _ => rfl)
  · rw [e, if_neg (by simp)] at h
    repeat (refine hX _ _ _ _ ?_; conv => whnf)
    refine ⟨fun _ => ?_, fun h => absurd h (by decide)⟩
    repeat (refine hX _ _ _ _ ?_; conv => whnf)
    exact h D hC (fun _ _ => rfl)
