/-! ===== what is seen ===== -/
def z_a1 (z : z_Z) (g : z_P) (t i : Nat) : Bool := if zS z (3 * i) = nI t then (z_isb g (zS z (3 * i + 1)) && decide (g (16 + z_nt (zS z (3 * i + 1))) = zS z (3 * i + 2))) else true
def z_ag (z : z_Z) (g : z_P) (t : Nat) : Nat → Bool
  | 0 => true
  | n + 1 => z_ag z g t n && z_a1 z g t n
def z_so (z : z_Z) (g : z_P) : Nat → Bool
  | 0 => true
  | t + 1 => z_so z g t && z_ag z (z_run g t) t (zC z)
def z_bits (z : z_Z) (t b : Nat) : Nat → Int32
  | 0 => 0
  | v + 1 => if z_so z (z_up (zG z) (4 * t + b) (nI v)) 41 = true then z_bits z t b v ||| ((1 : Int32) <<< (nI v &&& 31)) else z_bits z t b v
def r_bits (t m : Nat) (z : z_Z) (b : Int32) : Int32 × z_Z := (if z_isb (zG z) b = true then z_bits z t (z_nt b) m else -1, z)
theorem z_ag_f {z : z_Z} {g : z_P} {t : Nat} {i : Nat} (h : z_a1 z g t i = false) : ∀ n, i < n → z_ag z g t n = false
  | 0, hn => absurd hn (by omega)
  | n + 1, hn => by
    show (z_ag z g t n && z_a1 z g t n) = false
    by_cases e : i = n
    · rw [← e, h, Bool.and_false]
    · rw [z_ag_f h n (by omega), Bool.false_and]
def sp_latestTick (Ga : pm_Ga) : Prop := ∀ (z : z_Z) (D : pm_Mem) (post : pm_Post), zOk z → C4 D z → (∀ (x : Int32) (L : Nat), x.toInt = (L : Int) - 1 → L ≤ 41 → (∀ i, i < zC z → (zS z (3 * i)).toInt < L) → post (some (.int x)) D) → Ga 24 [.ref 44] D post
set_option maxHeartbeats 4000000 in
theorem t_latestTick {N : Nat} {Ga : pm_Ga} : sp_latestTick (pm_up N Ga) := by
  intro z D post hz h4 h
  obtain ⟨c6, cz⟩ := hz.2.2.2.2.1
  refine ⟨rfl, fun X hX => ?_⟩
  replace hX : ∀ pc L st D, pm_F N Ga tbX1_latestTick (some .int) post X pc L st D → X pc L st D := hX
  change X 0 [some (.ref 44), none, none] [] D
  iterate 4 (refine hX _ _ _ _ ?_; conv => whnf)
  have loop : ∀ (m i L : Nat) (x : Int32), i + m = zC z → x.toInt = (L : Int) - 1 → L ≤ 41 → (∀ j, j < i → (zS z (3 * j)).toInt < L) → X 4 [some (.ref 44), some (.int x), some (.int (nI i))] [] D := by
    intro m
    induction m with
    | zero =>
      intro i L x hi e1 e2 e3
      have hi : i = zC z := by omega
      subst hi
      repeat (refine hX _ _ _ _ ?_; conv => whnf)
      rw [h4.1]
      refine ⟨fun _ => ?_, fun q => absurd (nI_le (Nat.le_refl _) (by omega)) q⟩
      repeat (refine hX _ _ _ _ ?_; conv => whnf)
      exact h x L e1 e2 e3
    | succ m ih =>
      intro i L x hi e1 e2 e3
      have hs := (cz i (by omega)).1
      repeat (refine hX _ _ _ _ ?_; conv => whnf)
      rw [h4.1]
      refine ⟨fun q => absurd q (nI_ge (by omega) (by omega)), fun _ => ?_⟩
      repeat (refine hX _ _ _ _ ?_; conv => whnf)
      refine ⟨vp_in_nI (show i < 6 by omega) (by decide), ?_⟩
      rw [nI_clamp (by omega), (h4.2 i (by omega)).1]
      iterate 4 (refine hX _ _ _ _ ?_; conv => whnf)
      rw [nI_1]
      unfold pm_max
      have hs1 := hs.1
      have hs2 := hs.2
      by_cases c : x < zS z (3 * i)
      · have c2 := z_lt.mp c
        rw [if_pos c]
        refine ih (i + 1) ((zS z (3 * i)).toInt.toNat + 1) _ (by omega) (by omega) (by omega) (fun j hj => ?_)
        by_cases e : j = i
        · rw [e]; omega
        · have := e3 j (by omega)
          omega
      · have c2 : ¬ x.toInt < (zS z (3 * i)).toInt := fun w => c (z_lt.mpr w)
        rw [if_neg c]
        refine ih (i + 1) L _ (by omega) e1 e2 (fun j hj => ?_)
        by_cases e : j = i
        · rw [e]; omega
        · exact e3 j (by omega)
  exact loop (zC z) 0 0 (-1) (by omega) (by decide) (by omega) (fun j hj => absurd hj (by omega))
def sp_agrees (Ga : pm_Ga) : Prop := ∀ (z : z_Z) (g : z_P) (t : Nat) (D : pm_Mem) (post : pm_Post) (T : Int), zOk z → C4 D z → z_G T g → z_R D 10 g → t ≤ 41 → post (some (.int (z_bi (z_ag z g t (zC z))))) D → Ga 25 [.ref 44, .ref 10, .int (nI t)] D post
set_option maxHeartbeats 4000000 in
theorem t_agrees {N : Nat} {Ga : pm_Ga} (hhas : sp_has Ga) : sp_agrees (pm_up N Ga) := by
  intro z g t D post T hz h4 hG hR ht h
  obtain ⟨c6, cz⟩ := hz.2.2.2.2.1
  have g1 := hG.1
  have g2 := hG.2.1
  refine ⟨rfl, fun X hX => ?_⟩
  replace hX : ∀ pc L st D, pm_F N Ga tbX1_agrees (some .boolean) post X pc L st D → X pc L st D := hX
  change X 0 [some (.ref 44), some (.ref 10), some (.int (nI t)), none] [] D
  iterate 2 (refine hX _ _ _ _ ?_; conv => whnf)
  have loop : ∀ (m i : Nat), i + m = zC z → z_ag z g t i = true → X 2 [some (.ref 44), some (.ref 10), some (.int (nI t)), some (.int (nI i))] [] D := by
    intro m
    induction m with
    | zero =>
      intro i hi e1
      have hi : i = zC z := by omega
      subst hi
      rw [e1] at h
      repeat (refine hX _ _ _ _ ?_; conv => whnf)
      rw [h4.1]
      refine ⟨fun _ => ?_, fun q => absurd (nI_le (Nat.le_refl _) (by omega)) q⟩
      repeat (refine hX _ _ _ _ ?_; conv => whnf)
      exact ⟨Or.inr rfl, h⟩
    | succ m ih =>
      intro i hi e1
      obtain ⟨s1, s2, s3⟩ := h4.2 i (by omega)
      obtain ⟨z1, z2, z3⟩ := cz i (by omega)
      obtain ⟨b, b1, b2, b3, b4⟩ := z_of z2 (by decide) (by decide)
      have vi : vp_in (nI i) 6 := vp_in_nI (by omega) (by decide)
      have ci : (nI i).toNatClampNeg = i := nI_clamp (by omega)
      have yes : z_a1 z g t i = true → X 55 [some (.ref 44), some (.ref 10), some (.int (nI t)), some (.int (nI i))] [] D := by
        intro y
        iterate 2 (refine hX _ _ _ _ ?_; conv => whnf)
        rw [nI_1]
        exact ih (i + 1) (by omega) (by show (z_ag z g t i && z_a1 z g t i) = true; rw [e1, y]; rfl)
      have no : z_a1 z g t i = false → X 53 [some (.ref 44), some (.ref 10), some (.int (nI t)), some (.int (nI i))] [] D := by
        intro y
        rw [z_ag_f y _ (by omega)] at h
        repeat (refine hX _ _ _ _ ?_; conv => whnf)
        exact ⟨Or.inl rfl, h⟩
      unfold z_a1 at yes no
      repeat (refine hX _ _ _ _ ?_; conv => whnf)
      rw [h4.1]
      refine ⟨fun q => absurd q (nI_ge (by omega) (by omega)), fun _ => ?_⟩
      repeat (refine hX _ _ _ _ ?_; conv => whnf)
      refine ⟨vi, ?_⟩
      rw [ci, s1]
      repeat (refine hX _ _ _ _ ?_; conv => whnf)
      refine ⟨fun q => ?_, fun q => ?_⟩
      · rw [if_neg q] at yes
        exact yes rfl
      · rw [if_pos q] at yes no
        repeat (refine hX _ _ _ _ ?_; conv => whnf)
        refine ⟨vi, ?_⟩
        rw [ci, s2]
        repeat (refine hX _ _ _ _ ?_; conv => whnf)
        refine hhas 10 _ D _ (by decide) (fun u1 u2 => ?_) (fun u => ?_)
        · have hb : z_isb g (zS z (3 * i + 1)) = true := by
            rw [hR.1, g1, z_lt, z_tI (by omega)] at u2
            exact z_ib_t (z_le.mp u1) (by omega)
          obtain ⟨v1, v2, v3, v4⟩ := z_isb_of hb g2
          rw [hb, Bool.true_and] at yes no
          repeat (refine hX _ _ _ _ ?_; conv => whnf)
          refine ⟨fun h => absurd h (by decide), fun _ => ?_⟩
          repeat (refine hX _ _ _ _ ?_; conv => whnf)
          refine ⟨vi, ?_⟩
          rw [ci, s2]
          repeat (refine hX _ _ _ _ ?_; conv => whnf)
          refine ⟨?_, ?_⟩
          · rw [v2]
            exact vp_in_nI (by omega) (by decide)
          rw [v4]
          repeat (refine hX _ _ _ _ ?_; conv => whnf)
          refine ⟨vi, ?_⟩
          rw [ci, s3]
          repeat (refine hX _ _ _ _ ?_; conv => whnf)
          have hp : D 15 (z_nt (zS z (3 * i + 1))) = g (16 + z_nt (zS z (3 * i + 1))) := (hR.2.2.2.2.1 _ v1).2.2.2.2.1
          rw [hp]
          refine ⟨fun w => ?_, fun w => ?_⟩
          · exact yes (decide_eq_true w)
          · exact no (decide_eq_false w)
        · have hb : z_isb g (zS z (3 * i + 1)) = false := by
            refine z_ib_f (fun y => u ⟨z_le.mpr y.1, ?_⟩)
            rw [hR.1, g1, z_lt, z_tI (by omega)]
            have := y.2
            omega
          rw [hb, Bool.false_and] at no
          repeat (refine hX _ _ _ _ ?_; conv => whnf)
          refine ⟨fun _ => ?_, fun h => absurd h (by decide)⟩
          exact no rfl
  exact loop (zC z) 0 (by omega) rfl
theorem z_ag_none {z : z_Z} {g : z_P} {t L : Nat} (ht : t ≤ 41) (hL : L ≤ t) (h : ∀ i, i < zC z → (zS z (3 * i)).toInt < L) : ∀ n, n ≤ zC z → z_ag z g t n = true
  | 0, _ => rfl
  | n + 1, hn => by
    show (z_ag z g t n && z_a1 z g t n) = true
    rw [z_ag_none ht hL h n (by omega), Bool.true_and]
    unfold z_a1
    rw [if_neg]
    intro e
    have h1 := h n (by omega)
    rw [e, z_tI (by omega)] at h1
    omega
theorem z_so_L {z : z_Z} {g : z_P} {L : Nat} (h : ∀ i, i < zC z → (zS z (3 * i)).toInt < L) : ∀ n, L + n ≤ 41 → z_so z g (L + n) = z_so z g L
  | 0, _ => rfl
  | n + 1, hn => by
    show (z_so z g (L + n) && z_ag z (z_run g (L + n)) (L + n) (zC z)) = _
    rw [z_so_L h n (by omega), z_ag_none (by omega) (by omega) h _ (Nat.le_refl _), Bool.and_true]
theorem z_so_f {z : z_Z} {g : z_P} {i : Nat} (h : z_ag z (z_run g i) i (zC z) = false) : ∀ n, i < n → z_so z g n = false
  | 0, hn => absurd hn (by omega)
  | n + 1, hn => by
    show (z_so z g n && z_ag z (z_run g n) n (zC z)) = false
    by_cases e : i = n
    · rw [← e, h, Bool.and_false]
    · rw [z_so_f h n (by omega), Bool.false_and]
def sp_isSoOf (Ga : pm_Ga) : Prop := ∀ (z : z_Z) (g : z_P) (D : pm_Mem) (post : pm_Post), zOk z → C4 D z → z_G 9999 g → z_R D 10 g → (∀ D', z_F 10 D D' → post (some (.int (z_bi (z_so z g 41)))) D') → Ga 23 [.ref 44, .ref 10] D post
set_option maxHeartbeats 4000000 in
theorem t_isSoOf {N : Nat} {Ga : pm_Ga} (hlt : sp_latestTick Ga) (hag : sp_agrees Ga) (htk : sp_tickOnce Ga) : sp_isSoOf (pm_up N Ga) := by
  intro z g D post hz h4 hG hR h
  refine ⟨rfl, fun X hX => ?_⟩
  replace hX : ∀ pc L st D, pm_F N Ga tbX1_isSoOf (some .boolean) post X pc L st D → X pc L st D := hX
  change X 0 [some (.ref 44), some (.ref 10), none, none] [] D
  repeat (refine hX _ _ _ _ ?_; conv => whnf)
  refine hlt z D _ hz h4 (fun x L x1 x2 x3 => ?_)
  have hL := z_so_L (g := g) x3 (41 - L) (by omega)
  rw [show L + (41 - L) = 41 by omega] at hL
  rw [hL] at h
  iterate 3 (refine hX _ _ _ _ ?_; conv => whnf)
  have loop : ∀ (m i : Nat) (D1 : pm_Mem), i + m = L → z_F 10 D D1 → z_R D1 10 (z_run g i) → z_so z g i = true → X 7 [some (.ref 44), some (.ref 10), some (.int x), some (.int (nI i))] [] D1 := by
    intro m
    induction m with
    | zero =>
      intro i D1 hi f1 f2 e1
      have hi : i = L := by omega
      subst hi
      rw [e1] at h
      repeat (refine hX _ _ _ _ ?_; conv => whnf)
      refine ⟨fun _ => ?_, fun q => absurd (z_lt.mpr (by rw [z_tI (by omega)]; omega)) q⟩
      repeat (refine hX _ _ _ _ ?_; conv => whnf)
      exact ⟨Or.inr rfl, h D1 f1⟩
    | succ m ih =>
      intro i D1 hi f1 f2 e1
      obtain ⟨k1, k2, k3⟩ := hG.run i (by omega)
      repeat (refine hX _ _ _ _ ?_; conv => whnf)
      refine ⟨fun q => absurd (z_lt.mp q) (by rw [z_tI (by omega)]; omega), fun _ => ?_⟩
      repeat (refine hX _ _ _ _ ?_; conv => whnf)
      refine hag z _ i D1 _ (9999 + i) hz (h4.same (fun r _ _ => f1 r (by omega))) k1 f2 (by omega) ?_
      cases u : z_ag z (z_run g i) i (zC z) with
      | false =>
        rw [z_so_f u _ (by omega)] at h
        repeat (refine hX _ _ _ _ ?_; conv => whnf)
        refine ⟨fun h => absurd h (by decide), fun _ => ?_⟩
        repeat (refine hX _ _ _ _ ?_; conv => whnf)
        exact ⟨Or.inl rfl, h D1 f1⟩
      | true =>
        repeat (refine hX _ _ _ _ ?_; conv => whnf)
        refine ⟨fun _ => ?_, fun h => absurd h (by decide)⟩
        repeat (refine hX _ _ _ _ ?_; conv => whnf)
        refine htk 10 _ D1 _ (9999 + i) (by omega) (by decide) k1 f2 (fun D2 c1 c2 _ _ => ?_)
        iterate 2 (refine hX _ _ _ _ ?_; conv => whnf)
        rw [nI_1]
        exact ih (i + 1) D2 (by omega) (fun r hr => by rw [c2 r hr]; exact f1 r hr) c1 (by show (z_so z g i && z_ag z (z_run g i) i (zC z)) = true; rw [e1, u]; rfl)
  exact loop L 0 D (by omega) (fun _ _ => rfl) hR rfl
