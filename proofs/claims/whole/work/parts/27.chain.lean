/-- a bead more -/
def z_bind (g : z_P) (k r s m : Int32) : z_P := fun j => if j = z_n g then k else if j = 4 + z_n g then r else if j = 8 + z_n g then s else if j = 12 + z_n g then m else if j = 16 + z_n g then pm_min 300 (z_last g + r) else if j = 20 + z_n g then 0 else if j = 24 then nI (z_n g + 1) else g j
theorem z_bind_n {g : z_P} {k r s m : Int32} (h : z_n g < 4) : z_n (z_bind g k r s m) = z_n g + 1 ∧ z_bind g k r s m 24 = nI (z_n g + 1) := by
  have e : z_bind g k r s m 24 = nI (z_n g + 1) := by
    unfold z_bind
    rw [if_neg (by omega), if_neg (by omega), if_neg (by omega), if_neg (by omega), if_neg (by omega), if_neg (by omega), if_pos rfl]
  refine ⟨?_, e⟩
  show (z_bind g k r s m 24).toNatClampNeg = _
  rw [e, nI_clamp (by omega)]
theorem z_bind_hi {g : z_P} {k r s m : Int32} (h : z_n g < 4) {j : Nat} (hj : 24 < j) : z_bind g k r s m j = g j := by
  unfold z_bind
  rw [if_neg (by omega), if_neg (by omega), if_neg (by omega), if_neg (by omega), if_neg (by omega), if_neg (by omega), if_neg (by omega)]
theorem z_bind_at {g : z_P} {k r s m : Int32} (h : z_n g < 4) : z_bind g k r s m (z_n g) = k ∧ z_bind g k r s m (4 + z_n g) = r ∧ z_bind g k r s m (8 + z_n g) = s ∧ z_bind g k r s m (12 + z_n g) = m ∧ z_bind g k r s m (16 + z_n g) = pm_min 300 (z_last g + r) ∧ z_bind g k r s m (20 + z_n g) = 0 := by
  unfold z_bind
  refine ⟨if_pos rfl, ?_, ?_, ?_, ?_, ?_⟩
  · rw [if_neg (by omega), if_pos rfl]
  · rw [if_neg (by omega), if_neg (by omega), if_pos rfl]
  · rw [if_neg (by omega), if_neg (by omega), if_neg (by omega), if_pos rfl]
  · rw [if_neg (by omega), if_neg (by omega), if_neg (by omega), if_neg (by omega), if_pos rfl]
  · rw [if_neg (by omega), if_neg (by omega), if_neg (by omega), if_neg (by omega), if_neg (by omega), if_pos rfl]
theorem z_bind_lo {g : z_P} {k r s m : Int32} (h : z_n g < 4) {b : Nat} (hb : b < z_n g) : z_bind g k r s m b = g b ∧ z_bind g k r s m (4 + b) = g (4 + b) ∧ z_bind g k r s m (8 + b) = g (8 + b) ∧ z_bind g k r s m (12 + b) = g (12 + b) ∧ z_bind g k r s m (16 + b) = g (16 + b) ∧ z_bind g k r s m (20 + b) = g (20 + b) := by
  unfold z_bind
  refine ⟨?_, ?_, ?_, ?_, ?_, ?_⟩ <;> rw [if_neg (by omega), if_neg (by omega), if_neg (by omega), if_neg (by omega), if_neg (by omega), if_neg (by omega), if_neg (by omega)]
def sp_addBead (Ga : pm_Ga) : Prop := ∀ (c : Nat) (k r s m : Int32) (g : z_P) (D : pm_Mem) (post : pm_Post), c ∈ pm_chs → z_R D c g → g 24 = nI (z_n g) → z_n g ≤ 4 → (z_n g = 4 → post (some (.int 0)) D) → (z_n g < 4 → ∀ D', z_R D' c (z_bind g k r s m) → z_F c D D' → post (some (.int 1)) D') → Ga 8 [.ref c, .int k, .int r, .int s, .int m] D post
set_option maxHeartbeats 4000000 in
theorem t_addBead {N : Nat} {Ga : pm_Ga} (hla : sp_lastPlace Ga) : sp_addBead (pm_up N Ga) := by
  intro c k r s m g D post hc hR hn hn4 h4 h
  have hlast := z_R_last hR
  obtain ⟨a1, a2, a3, a4, a5, a6⟩ := hR
  rw [hn] at a1
  generalize hnn : z_n g = n at *
  have hcl : (nI n).toNatClampNeg = n := nI_clamp (by omega)
  rcases pm_chs_of hc with rfl | rfl | rfl | rfl
  · simp only [Nat.reduceAdd] at a5 a6
    refine ⟨rfl, fun X hX => ?_⟩
    replace hX : ∀ pc L st D, pm_F N Ga tbX0_addBead (some .boolean) post X pc L st D → X pc L st D := hX
    change X 0 [some (.ref 0), some (.int k), some (.int r), some (.int s), some (.int m), none] [] D
    repeat (refine hX _ _ _ _ ?_; conv => whnf)
    rw [a1]
    refine ⟨fun q1 => ?_, fun q1 => ?_⟩
    · have q1 : n < 4 := (nI_ltI (a := n) (b := 4) (by omega) (by omega)).mp q1
      have hv : vp_in (nI n) 4 := vp_in_nI q1 (by decide)
      have h := h q1
      repeat (refine hX _ _ _ _ ?_; conv => whnf)
      refine hla 0 n D _ hc a1 (by omega) ?_
      rw [hlast]
      repeat (refine hX _ _ _ _ ?_; conv => whnf)
      rw [a1]
      refine ⟨by decide, hv, ?_⟩
      repeat (refine hX _ _ _ _ ?_; conv => whnf)
      simp only [pm_mu_r, Nat.reduceEqDiff, ne_eq, not_false_eq_true, a1]
      refine ⟨by decide, hv, ?_⟩
      repeat (refine hX _ _ _ _ ?_; conv => whnf)
      simp only [pm_mu_r, Nat.reduceEqDiff, ne_eq, not_false_eq_true, a1]
      refine ⟨by decide, hv, ?_⟩
      repeat (refine hX _ _ _ _ ?_; conv => whnf)
      simp only [pm_mu_r, Nat.reduceEqDiff, ne_eq, not_false_eq_true, a1]
      refine ⟨by decide, hv, ?_⟩
      repeat (refine hX _ _ _ _ ?_; conv => whnf)
      simp only [pm_mu_r, Nat.reduceEqDiff, ne_eq, not_false_eq_true, a1]
      refine ⟨by decide, hv, ?_⟩
      repeat (refine hX _ _ _ _ ?_; conv => whnf)
      simp only [pm_mu_r, Nat.reduceEqDiff, ne_eq, not_false_eq_true, a1]
      refine ⟨by decide, hv, ?_⟩
      repeat (refine hX _ _ _ _ ?_; conv => whnf)
      simp only [pm_mu_r, Nat.reduceEqDiff, ne_eq, not_false_eq_true, a1, hcl, nI_1]
      obtain ⟨n1, n2⟩ := z_bind_n (g := g) (k := k) (r := r) (s := s) (m := m) (by omega)
      rw [hnn] at n1 n2
      refine ⟨by first | exact Or.inr rfl | exact Or.inr trivial | simp, h _ ⟨?_, ?_, ?_, ?_, fun b hb => ?_, fun i hi => ?_⟩ (fun r hr => ?_)⟩
      · rw [pm_mu_at, n2]
      · rw [pm_mu_k _ _ _ _ (by decide), z_bind_hi (by omega) (by omega)]
        repeat rw [pm_mu_r _ _ _ _ (by decide)]
        exact a2
      · rw [pm_mu_k _ _ _ _ (by decide), z_bind_hi (by omega) (by omega)]
        repeat rw [pm_mu_r _ _ _ _ (by decide)]
        exact a3
      · rw [pm_mu_k _ _ _ _ (by decide), z_bind_hi (by omega) (by omega)]
        repeat rw [pm_mu_r _ _ _ _ (by decide)]
        exact a4
      · rw [n1] at hb
        simp only [pm_mu_eq, Nat.reduceAdd, Nat.reduceEqDiff, if_true, if_false]
        by_cases e : b = n
        · obtain ⟨b1, b2, b3, b4, b5, b6⟩ := z_bind_at (g := g) (k := k) (r := r) (s := s) (m := m) (by omega)
          rw [hnn] at b1 b2 b3 b4 b5 b6
          subst e
          simp only [if_true]
          exact ⟨b1.symm, b2.symm, b3.symm, b4.symm, b5.symm, b6.symm⟩
        · obtain ⟨b1, b2, b3, b4, b5, b6⟩ := z_bind_lo (g := g) (k := k) (r := r) (s := s) (m := m) (b := b) (by omega) (by omega)
          simp only [e, if_false, b1, b2, b3, b4, b5, b6]
          exact a5 b (by omega)
      · have hk : z_k (z_bind g k r s m) = z_k g := by
          show (z_bind g k r s m 49).toNatClampNeg = _
          rw [z_bind_hi (by omega) (by omega)]
          rfl
        rw [hk] at hi
        simp only [pm_mu_eq, Nat.reduceAdd, Nat.reduceEqDiff, if_false]
        rw [z_bind_hi (by omega) (by omega), z_bind_hi (by omega) (by omega)]
        exact a6 i hi
      · repeat rw [pm_mu_ne _ _ _ (by omega)]
    · have q1 : ¬ n < 4 := fun z => q1 ((nI_ltI (a := n) (b := 4) (by omega) (by omega)).mpr z)
      repeat (refine hX _ _ _ _ ?_; conv => whnf)
      exact ⟨Or.inl rfl, h4 (by omega)⟩
  · simp only [Nat.reduceAdd] at a5 a6
    refine ⟨rfl, fun X hX => ?_⟩
    replace hX : ∀ pc L st D, pm_F N Ga tbX0_addBead (some .boolean) post X pc L st D → X pc L st D := hX
    change X 0 [some (.ref 10), some (.int k), some (.int r), some (.int s), some (.int m), none] [] D
    repeat (refine hX _ _ _ _ ?_; conv => whnf)
    rw [a1]
    refine ⟨fun q1 => ?_, fun q1 => ?_⟩
    · have q1 : n < 4 := (nI_ltI (a := n) (b := 4) (by omega) (by omega)).mp q1
      have hv : vp_in (nI n) 4 := vp_in_nI q1 (by decide)
      have h := h q1
      repeat (refine hX _ _ _ _ ?_; conv => whnf)
      refine hla 10 n D _ hc a1 (by omega) ?_
      rw [hlast]
      repeat (refine hX _ _ _ _ ?_; conv => whnf)
      rw [a1]
      refine ⟨by decide, hv, ?_⟩
      repeat (refine hX _ _ _ _ ?_; conv => whnf)
      simp only [pm_mu_r, Nat.reduceEqDiff, ne_eq, not_false_eq_true, a1]
      refine ⟨by decide, hv, ?_⟩
      repeat (refine hX _ _ _ _ ?_; conv => whnf)
      simp only [pm_mu_r, Nat.reduceEqDiff, ne_eq, not_false_eq_true, a1]
      refine ⟨by decide, hv, ?_⟩
      repeat (refine hX _ _ _ _ ?_; conv => whnf)
      simp only [pm_mu_r, Nat.reduceEqDiff, ne_eq, not_false_eq_true, a1]
      refine ⟨by decide, hv, ?_⟩
      repeat (refine hX _ _ _ _ ?_; conv => whnf)
      simp only [pm_mu_r, Nat.reduceEqDiff, ne_eq, not_false_eq_true, a1]
      refine ⟨by decide, hv, ?_⟩
      repeat (refine hX _ _ _ _ ?_; conv => whnf)
      simp only [pm_mu_r, Nat.reduceEqDiff, ne_eq, not_false_eq_true, a1]
      refine ⟨by decide, hv, ?_⟩
      repeat (refine hX _ _ _ _ ?_; conv => whnf)
      simp only [pm_mu_r, Nat.reduceEqDiff, ne_eq, not_false_eq_true, a1, hcl, nI_1]
      obtain ⟨n1, n2⟩ := z_bind_n (g := g) (k := k) (r := r) (s := s) (m := m) (by omega)
      rw [hnn] at n1 n2
      refine ⟨by first | exact Or.inr rfl | exact Or.inr trivial | simp, h _ ⟨?_, ?_, ?_, ?_, fun b hb => ?_, fun i hi => ?_⟩ (fun r hr => ?_)⟩
      · rw [pm_mu_at, n2]
      · rw [pm_mu_k _ _ _ _ (by decide), z_bind_hi (by omega) (by omega)]
        repeat rw [pm_mu_r _ _ _ _ (by decide)]
        exact a2
      · rw [pm_mu_k _ _ _ _ (by decide), z_bind_hi (by omega) (by omega)]
        repeat rw [pm_mu_r _ _ _ _ (by decide)]
        exact a3
      · rw [pm_mu_k _ _ _ _ (by decide), z_bind_hi (by omega) (by omega)]
        repeat rw [pm_mu_r _ _ _ _ (by decide)]
        exact a4
      · rw [n1] at hb
        simp only [pm_mu_eq, Nat.reduceAdd, Nat.reduceEqDiff, if_true, if_false]
        by_cases e : b = n
        · obtain ⟨b1, b2, b3, b4, b5, b6⟩ := z_bind_at (g := g) (k := k) (r := r) (s := s) (m := m) (by omega)
          rw [hnn] at b1 b2 b3 b4 b5 b6
          subst e
          simp only [if_true]
          exact ⟨b1.symm, b2.symm, b3.symm, b4.symm, b5.symm, b6.symm⟩
        · obtain ⟨b1, b2, b3, b4, b5, b6⟩ := z_bind_lo (g := g) (k := k) (r := r) (s := s) (m := m) (b := b) (by omega) (by omega)
          simp only [e, if_false, b1, b2, b3, b4, b5, b6]
          exact a5 b (by omega)
      · have hk : z_k (z_bind g k r s m) = z_k g := by
          show (z_bind g k r s m 49).toNatClampNeg = _
          rw [z_bind_hi (by omega) (by omega)]
          rfl
        rw [hk] at hi
        simp only [pm_mu_eq, Nat.reduceAdd, Nat.reduceEqDiff, if_false]
        rw [z_bind_hi (by omega) (by omega), z_bind_hi (by omega) (by omega)]
        exact a6 i hi
      · repeat rw [pm_mu_ne _ _ _ (by omega)]
    · have q1 : ¬ n < 4 := fun z => q1 ((nI_ltI (a := n) (b := 4) (by omega) (by omega)).mpr z)
      repeat (refine hX _ _ _ _ ?_; conv => whnf)
      exact ⟨Or.inl rfl, h4 (by omega)⟩
  · simp only [Nat.reduceAdd] at a5 a6
    refine ⟨rfl, fun X hX => ?_⟩
    replace hX : ∀ pc L st D, pm_F N Ga tbX0_addBead (some .boolean) post X pc L st D → X pc L st D := hX
    change X 0 [some (.ref 20), some (.int k), some (.int r), some (.int s), some (.int m), none] [] D
    repeat (refine hX _ _ _ _ ?_; conv => whnf)
    rw [a1]
    refine ⟨fun q1 => ?_, fun q1 => ?_⟩
    · have q1 : n < 4 := (nI_ltI (a := n) (b := 4) (by omega) (by omega)).mp q1
      have hv : vp_in (nI n) 4 := vp_in_nI q1 (by decide)
      have h := h q1
      repeat (refine hX _ _ _ _ ?_; conv => whnf)
      refine hla 20 n D _ hc a1 (by omega) ?_
      rw [hlast]
      repeat (refine hX _ _ _ _ ?_; conv => whnf)
      rw [a1]
      refine ⟨by decide, hv, ?_⟩
      repeat (refine hX _ _ _ _ ?_; conv => whnf)
      simp only [pm_mu_r, Nat.reduceEqDiff, ne_eq, not_false_eq_true, a1]
      refine ⟨by decide, hv, ?_⟩
      repeat (refine hX _ _ _ _ ?_; conv => whnf)
      simp only [pm_mu_r, Nat.reduceEqDiff, ne_eq, not_false_eq_true, a1]
      refine ⟨by decide, hv, ?_⟩
      repeat (refine hX _ _ _ _ ?_; conv => whnf)
      simp only [pm_mu_r, Nat.reduceEqDiff, ne_eq, not_false_eq_true, a1]
      refine ⟨by decide, hv, ?_⟩
      repeat (refine hX _ _ _ _ ?_; conv => whnf)
      simp only [pm_mu_r, Nat.reduceEqDiff, ne_eq, not_false_eq_true, a1]
      refine ⟨by decide, hv, ?_⟩
      repeat (refine hX _ _ _ _ ?_; conv => whnf)
      simp only [pm_mu_r, Nat.reduceEqDiff, ne_eq, not_false_eq_true, a1]
      refine ⟨by decide, hv, ?_⟩
      repeat (refine hX _ _ _ _ ?_; conv => whnf)
      simp only [pm_mu_r, Nat.reduceEqDiff, ne_eq, not_false_eq_true, a1, hcl, nI_1]
      obtain ⟨n1, n2⟩ := z_bind_n (g := g) (k := k) (r := r) (s := s) (m := m) (by omega)
      rw [hnn] at n1 n2
      refine ⟨by first | exact Or.inr rfl | exact Or.inr trivial | simp, h _ ⟨?_, ?_, ?_, ?_, fun b hb => ?_, fun i hi => ?_⟩ (fun r hr => ?_)⟩
      · rw [pm_mu_at, n2]
      · rw [pm_mu_k _ _ _ _ (by decide), z_bind_hi (by omega) (by omega)]
        repeat rw [pm_mu_r _ _ _ _ (by decide)]
        exact a2
      · rw [pm_mu_k _ _ _ _ (by decide), z_bind_hi (by omega) (by omega)]
        repeat rw [pm_mu_r _ _ _ _ (by decide)]
        exact a3
      · rw [pm_mu_k _ _ _ _ (by decide), z_bind_hi (by omega) (by omega)]
        repeat rw [pm_mu_r _ _ _ _ (by decide)]
        exact a4
      · rw [n1] at hb
        simp only [pm_mu_eq, Nat.reduceAdd, Nat.reduceEqDiff, if_true, if_false]
        by_cases e : b = n
        · obtain ⟨b1, b2, b3, b4, b5, b6⟩ := z_bind_at (g := g) (k := k) (r := r) (s := s) (m := m) (by omega)
          rw [hnn] at b1 b2 b3 b4 b5 b6
          subst e
          simp only [if_true]
          exact ⟨b1.symm, b2.symm, b3.symm, b4.symm, b5.symm, b6.symm⟩
        · obtain ⟨b1, b2, b3, b4, b5, b6⟩ := z_bind_lo (g := g) (k := k) (r := r) (s := s) (m := m) (b := b) (by omega) (by omega)
          simp only [e, if_false, b1, b2, b3, b4, b5, b6]
          exact a5 b (by omega)
      · have hk : z_k (z_bind g k r s m) = z_k g := by
          show (z_bind g k r s m 49).toNatClampNeg = _
          rw [z_bind_hi (by omega) (by omega)]
          rfl
        rw [hk] at hi
        simp only [pm_mu_eq, Nat.reduceAdd, Nat.reduceEqDiff, if_false]
        rw [z_bind_hi (by omega) (by omega), z_bind_hi (by omega) (by omega)]
        exact a6 i hi
      · repeat rw [pm_mu_ne _ _ _ (by omega)]
    · have q1 : ¬ n < 4 := fun z => q1 ((nI_ltI (a := n) (b := 4) (by omega) (by omega)).mpr z)
      repeat (refine hX _ _ _ _ ?_; conv => whnf)
      exact ⟨Or.inl rfl, h4 (by omega)⟩
  · simp only [Nat.reduceAdd] at a5 a6
    refine ⟨rfl, fun X hX => ?_⟩
    replace hX : ∀ pc L st D, pm_F N Ga tbX0_addBead (some .boolean) post X pc L st D → X pc L st D := hX
    change X 0 [some (.ref 30), some (.int k), some (.int r), some (.int s), some (.int m), none] [] D
    repeat (refine hX _ _ _ _ ?_; conv => whnf)
    rw [a1]
    refine ⟨fun q1 => ?_, fun q1 => ?_⟩
    · have q1 : n < 4 := (nI_ltI (a := n) (b := 4) (by omega) (by omega)).mp q1
      have hv : vp_in (nI n) 4 := vp_in_nI q1 (by decide)
      have h := h q1
      repeat (refine hX _ _ _ _ ?_; conv => whnf)
      refine hla 30 n D _ hc a1 (by omega) ?_
      rw [hlast]
      repeat (refine hX _ _ _ _ ?_; conv => whnf)
      rw [a1]
      refine ⟨by decide, hv, ?_⟩
      repeat (refine hX _ _ _ _ ?_; conv => whnf)
      simp only [pm_mu_r, Nat.reduceEqDiff, ne_eq, not_false_eq_true, a1]
      refine ⟨by decide, hv, ?_⟩
      repeat (refine hX _ _ _ _ ?_; conv => whnf)
      simp only [pm_mu_r, Nat.reduceEqDiff, ne_eq, not_false_eq_true, a1]
      refine ⟨by decide, hv, ?_⟩
      repeat (refine hX _ _ _ _ ?_; conv => whnf)
      simp only [pm_mu_r, Nat.reduceEqDiff, ne_eq, not_false_eq_true, a1]
      refine ⟨by decide, hv, ?_⟩
      repeat (refine hX _ _ _ _ ?_; conv => whnf)
      simp only [pm_mu_r, Nat.reduceEqDiff, ne_eq, not_false_eq_true, a1]
      refine ⟨by decide, hv, ?_⟩
      repeat (refine hX _ _ _ _ ?_; conv => whnf)
      simp only [pm_mu_r, Nat.reduceEqDiff, ne_eq, not_false_eq_true, a1]
      refine ⟨by decide, hv, ?_⟩
      repeat (refine hX _ _ _ _ ?_; conv => whnf)
      simp only [pm_mu_r, Nat.reduceEqDiff, ne_eq, not_false_eq_true, a1, hcl, nI_1]
      obtain ⟨n1, n2⟩ := z_bind_n (g := g) (k := k) (r := r) (s := s) (m := m) (by omega)
      rw [hnn] at n1 n2
      refine ⟨by first | exact Or.inr rfl | exact Or.inr trivial | simp, h _ ⟨?_, ?_, ?_, ?_, fun b hb => ?_, fun i hi => ?_⟩ (fun r hr => ?_)⟩
      · rw [pm_mu_at, n2]
      · rw [pm_mu_k _ _ _ _ (by decide), z_bind_hi (by omega) (by omega)]
        repeat rw [pm_mu_r _ _ _ _ (by decide)]
        exact a2
      · rw [pm_mu_k _ _ _ _ (by decide), z_bind_hi (by omega) (by omega)]
        repeat rw [pm_mu_r _ _ _ _ (by decide)]
        exact a3
      · rw [pm_mu_k _ _ _ _ (by decide), z_bind_hi (by omega) (by omega)]
        repeat rw [pm_mu_r _ _ _ _ (by decide)]
        exact a4
      · rw [n1] at hb
        simp only [pm_mu_eq, Nat.reduceAdd, Nat.reduceEqDiff, if_true, if_false]
        by_cases e : b = n
        · obtain ⟨b1, b2, b3, b4, b5, b6⟩ := z_bind_at (g := g) (k := k) (r := r) (s := s) (m := m) (by omega)
          rw [hnn] at b1 b2 b3 b4 b5 b6
          subst e
          simp only [if_true]
          exact ⟨b1.symm, b2.symm, b3.symm, b4.symm, b5.symm, b6.symm⟩
        · obtain ⟨b1, b2, b3, b4, b5, b6⟩ := z_bind_lo (g := g) (k := k) (r := r) (s := s) (m := m) (b := b) (by omega) (by omega)
          simp only [e, if_false, b1, b2, b3, b4, b5, b6]
          exact a5 b (by omega)
      · have hk : z_k (z_bind g k r s m) = z_k g := by
          show (z_bind g k r s m 49).toNatClampNeg = _
          rw [z_bind_hi (by omega) (by omega)]
          rfl
        rw [hk] at hi
        simp only [pm_mu_eq, Nat.reduceAdd, Nat.reduceEqDiff, if_false]
        rw [z_bind_hi (by omega) (by omega), z_bind_hi (by omega) (by omega)]
        exact a6 i hi
      · repeat rw [pm_mu_ne _ _ _ (by omega)]
    · have q1 : ¬ n < 4 := fun z => q1 ((nI_ltI (a := n) (b := 4) (by omega) (by omega)).mpr z)
      repeat (refine hX _ _ _ _ ?_; conv => whnf)
      exact ⟨Or.inl rfl, h4 (by omega)⟩
/-- a knock more -/
def z_add1 (g : z_P) (b v : Int32) : z_P := fun j => if j = 25 + z_k g then b else if j = 37 + z_k g then v else if j = 49 then nI (z_k g + 1) else g j
theorem z_add1_k {g : z_P} {b v : Int32} (h : z_k g < 12) : z_k (z_add1 g b v) = z_k g + 1 ∧ z_add1 g b v 49 = nI (z_k g + 1) := by
  have e : z_add1 g b v 49 = nI (z_k g + 1) := by
    unfold z_add1
    rw [if_neg (by omega), if_neg (by omega), if_pos rfl]
  refine ⟨?_, e⟩
  show (z_add1 g b v 49).toNatClampNeg = _
  rw [e, nI_clamp (by omega)]
theorem z_add1_lo {g : z_P} {b v : Int32} {j : Nat} (h : j ≠ 25 + z_k g) (h2 : j ≠ 37 + z_k g) (h3 : j ≠ 49) : z_add1 g b v j = g j := by
  unfold z_add1
  rw [if_neg h, if_neg h2, if_neg h3]
theorem z_add1_at {g : z_P} {b v : Int32} : z_add1 g b v (25 + z_k g) = b ∧ z_add1 g b v (37 + z_k g) = v := by
  unfold z_add1
  exact ⟨if_pos rfl, by rw [if_neg (by omega), if_pos rfl]⟩
def sp_addKnock (Ga : pm_Ga) : Prop := ∀ (c : Nat) (b v : Int32) (g : z_P) (D : pm_Mem) (post : pm_Post), c ∈ pm_chs → z_R D c g → z_n g ≤ 4 → g 49 = nI (z_k g) → z_k g ≤ 12 → (z_k g = 12 → post (some (.int 0)) D) → (z_k g < 12 → ∀ D', z_R D' c (z_add1 g b v) → z_F c D D' → post (some (.int 1)) D') → Ga 9 [.ref c, .int b, .int v] D post
set_option maxHeartbeats 4000000 in
theorem t_addKnock {N : Nat} {Ga : pm_Ga} : sp_addKnock (pm_up N Ga) := by
  intro c b v g D post hc hR hn4 hk hk12 h12 h
  obtain ⟨a1, a2, a3, a4, a5, a6⟩ := hR
  rw [hk] at a2
  generalize hkk : z_k g = n at *
  have hcl : (nI n).toNatClampNeg = n := nI_clamp (by omega)
  rcases pm_chs_of hc with rfl | rfl | rfl | rfl
  · simp only [Nat.reduceAdd] at a5 a6
    refine ⟨rfl, fun X hX => ?_⟩
    replace hX : ∀ pc L st D, pm_F N Ga tbX0_addKnock (some .boolean) post X pc L st D → X pc L st D := hX
    change X 0 [some (.ref 0), some (.int b), some (.int v)] [] D
    repeat (refine hX _ _ _ _ ?_; conv => whnf)
    rw [a2]
    refine ⟨fun q1 => ?_, fun q1 => ?_⟩
    · have q1 : n < 12 := (nI_ltI (a := n) (b := 12) (by omega) (by omega)).mp q1
      have hv : vp_in (nI n) 12 := vp_in_nI q1 (by decide)
      have h := h q1
      repeat (refine hX _ _ _ _ ?_; conv => whnf)
      rw [a2]
      refine ⟨by decide, hv, ?_⟩
      repeat (refine hX _ _ _ _ ?_; conv => whnf)
      simp only [pm_mu_r, Nat.reduceEqDiff, ne_eq, not_false_eq_true, a2]
      refine ⟨by decide, hv, ?_⟩
      repeat (refine hX _ _ _ _ ?_; conv => whnf)
      simp only [pm_mu_r, Nat.reduceEqDiff, ne_eq, not_false_eq_true, a2, hcl, nI_1]
      obtain ⟨n1, n2⟩ := z_add1_k (g := g) (b := b) (v := v) (by omega)
      rw [hkk] at n1 n2
      have hnn : z_n (z_add1 g b v) = z_n g := by
        show (z_add1 g b v 24).toNatClampNeg = _
        rw [z_add1_lo (by omega) (by omega) (by omega)]
        rfl
      refine ⟨by first | exact Or.inr rfl | exact Or.inr trivial | simp, h _ ⟨?_, ?_, ?_, ?_, fun j hj => ?_, fun i hi => ?_⟩ (fun r hr => ?_)⟩
      · rw [pm_mu_k _ _ _ _ (by decide), z_add1_lo (by omega) (by omega) (by omega)]
        repeat rw [pm_mu_r _ _ _ _ (by decide)]
        exact a1
      · rw [pm_mu_at, n2]
      · rw [pm_mu_k _ _ _ _ (by decide), z_add1_lo (by omega) (by omega) (by omega)]
        repeat rw [pm_mu_r _ _ _ _ (by decide)]
        exact a3
      · rw [pm_mu_k _ _ _ _ (by decide), z_add1_lo (by omega) (by omega) (by omega)]
        repeat rw [pm_mu_r _ _ _ _ (by decide)]
        exact a4
      · rw [hnn] at hj
        simp only [pm_mu_eq, Nat.reduceAdd, Nat.reduceEqDiff, if_false]
        rw [z_add1_lo (j := j) (by omega) (by omega) (by omega), z_add1_lo (j := 4 + j) (by omega) (by omega) (by omega), z_add1_lo (j := 8 + j) (by omega) (by omega) (by omega), z_add1_lo (j := 12 + j) (by omega) (by omega) (by omega), z_add1_lo (j := 16 + j) (by omega) (by omega) (by omega), z_add1_lo (j := 20 + j) (by omega) (by omega) (by omega)]
        exact a5 j hj
      · rw [n1] at hi
        simp only [pm_mu_eq, Nat.reduceAdd, Nat.reduceEqDiff, if_true, if_false]
        by_cases e : i = n
        · obtain ⟨b1, b2⟩ := z_add1_at (g := g) (b := b) (v := v)
          rw [hkk] at b1 b2
          subst e
          simp only [if_true]
          exact ⟨b1.symm, b2.symm⟩
        · rw [z_add1_lo (j := 25 + i) (by omega) (by omega) (by omega), z_add1_lo (j := 37 + i) (by omega) (by omega) (by omega)]
          simp only [e, if_false]
          exact a6 i (by omega)
      · repeat rw [pm_mu_ne _ _ _ (by omega)]
    · have q1 : ¬ n < 12 := fun z => q1 ((nI_ltI (a := n) (b := 12) (by omega) (by omega)).mpr z)
      repeat (refine hX _ _ _ _ ?_; conv => whnf)
      exact ⟨Or.inl rfl, h12 (by omega)⟩
  · simp only [Nat.reduceAdd] at a5 a6
    refine ⟨rfl, fun X hX => ?_⟩
    replace hX : ∀ pc L st D, pm_F N Ga tbX0_addKnock (some .boolean) post X pc L st D → X pc L st D := hX
    change X 0 [some (.ref 10), some (.int b), some (.int v)] [] D
    repeat (refine hX _ _ _ _ ?_; conv => whnf)
    rw [a2]
    refine ⟨fun q1 => ?_, fun q1 => ?_⟩
    · have q1 : n < 12 := (nI_ltI (a := n) (b := 12) (by omega) (by omega)).mp q1
      have hv : vp_in (nI n) 12 := vp_in_nI q1 (by decide)
      have h := h q1
      repeat (refine hX _ _ _ _ ?_; conv => whnf)
      rw [a2]
      refine ⟨by decide, hv, ?_⟩
      repeat (refine hX _ _ _ _ ?_; conv => whnf)
      simp only [pm_mu_r, Nat.reduceEqDiff, ne_eq, not_false_eq_true, a2]
      refine ⟨by decide, hv, ?_⟩
      repeat (refine hX _ _ _ _ ?_; conv => whnf)
      simp only [pm_mu_r, Nat.reduceEqDiff, ne_eq, not_false_eq_true, a2, hcl, nI_1]
      obtain ⟨n1, n2⟩ := z_add1_k (g := g) (b := b) (v := v) (by omega)
      rw [hkk] at n1 n2
      have hnn : z_n (z_add1 g b v) = z_n g := by
        show (z_add1 g b v 24).toNatClampNeg = _
        rw [z_add1_lo (by omega) (by omega) (by omega)]
        rfl
      refine ⟨by first | exact Or.inr rfl | exact Or.inr trivial | simp, h _ ⟨?_, ?_, ?_, ?_, fun j hj => ?_, fun i hi => ?_⟩ (fun r hr => ?_)⟩
      · rw [pm_mu_k _ _ _ _ (by decide), z_add1_lo (by omega) (by omega) (by omega)]
        repeat rw [pm_mu_r _ _ _ _ (by decide)]
        exact a1
      · rw [pm_mu_at, n2]
      · rw [pm_mu_k _ _ _ _ (by decide), z_add1_lo (by omega) (by omega) (by omega)]
        repeat rw [pm_mu_r _ _ _ _ (by decide)]
        exact a3
      · rw [pm_mu_k _ _ _ _ (by decide), z_add1_lo (by omega) (by omega) (by omega)]
        repeat rw [pm_mu_r _ _ _ _ (by decide)]
        exact a4
      · rw [hnn] at hj
        simp only [pm_mu_eq, Nat.reduceAdd, Nat.reduceEqDiff, if_false]
        rw [z_add1_lo (j := j) (by omega) (by omega) (by omega), z_add1_lo (j := 4 + j) (by omega) (by omega) (by omega), z_add1_lo (j := 8 + j) (by omega) (by omega) (by omega), z_add1_lo (j := 12 + j) (by omega) (by omega) (by omega), z_add1_lo (j := 16 + j) (by omega) (by omega) (by omega), z_add1_lo (j := 20 + j) (by omega) (by omega) (by omega)]
        exact a5 j hj
      · rw [n1] at hi
        simp only [pm_mu_eq, Nat.reduceAdd, Nat.reduceEqDiff, if_true, if_false]
        by_cases e : i = n
        · obtain ⟨b1, b2⟩ := z_add1_at (g := g) (b := b) (v := v)
          rw [hkk] at b1 b2
          subst e
          simp only [if_true]
          exact ⟨b1.symm, b2.symm⟩
        · rw [z_add1_lo (j := 25 + i) (by omega) (by omega) (by omega), z_add1_lo (j := 37 + i) (by omega) (by omega) (by omega)]
          simp only [e, if_false]
          exact a6 i (by omega)
      · repeat rw [pm_mu_ne _ _ _ (by omega)]
    · have q1 : ¬ n < 12 := fun z => q1 ((nI_ltI (a := n) (b := 12) (by omega) (by omega)).mpr z)
      repeat (refine hX _ _ _ _ ?_; conv => whnf)
      exact ⟨Or.inl rfl, h12 (by omega)⟩
  · simp only [Nat.reduceAdd] at a5 a6
    refine ⟨rfl, fun X hX => ?_⟩
    replace hX : ∀ pc L st D, pm_F N Ga tbX0_addKnock (some .boolean) post X pc L st D → X pc L st D := hX
    change X 0 [some (.ref 20), some (.int b), some (.int v)] [] D
    repeat (refine hX _ _ _ _ ?_; conv => whnf)
    rw [a2]
    refine ⟨fun q1 => ?_, fun q1 => ?_⟩
    · have q1 : n < 12 := (nI_ltI (a := n) (b := 12) (by omega) (by omega)).mp q1
      have hv : vp_in (nI n) 12 := vp_in_nI q1 (by decide)
      have h := h q1
      repeat (refine hX _ _ _ _ ?_; conv => whnf)
      rw [a2]
      refine ⟨by decide, hv, ?_⟩
      repeat (refine hX _ _ _ _ ?_; conv => whnf)
      simp only [pm_mu_r, Nat.reduceEqDiff, ne_eq, not_false_eq_true, a2]
      refine ⟨by decide, hv, ?_⟩
      repeat (refine hX _ _ _ _ ?_; conv => whnf)
      simp only [pm_mu_r, Nat.reduceEqDiff, ne_eq, not_false_eq_true, a2, hcl, nI_1]
      obtain ⟨n1, n2⟩ := z_add1_k (g := g) (b := b) (v := v) (by omega)
      rw [hkk] at n1 n2
      have hnn : z_n (z_add1 g b v) = z_n g := by
        show (z_add1 g b v 24).toNatClampNeg = _
        rw [z_add1_lo (by omega) (by omega) (by omega)]
        rfl
      refine ⟨by first | exact Or.inr rfl | exact Or.inr trivial | simp, h _ ⟨?_, ?_, ?_, ?_, fun j hj => ?_, fun i hi => ?_⟩ (fun r hr => ?_)⟩
      · rw [pm_mu_k _ _ _ _ (by decide), z_add1_lo (by omega) (by omega) (by omega)]
        repeat rw [pm_mu_r _ _ _ _ (by decide)]
        exact a1
      · rw [pm_mu_at, n2]
      · rw [pm_mu_k _ _ _ _ (by decide), z_add1_lo (by omega) (by omega) (by omega)]
        repeat rw [pm_mu_r _ _ _ _ (by decide)]
        exact a3
      · rw [pm_mu_k _ _ _ _ (by decide), z_add1_lo (by omega) (by omega) (by omega)]
        repeat rw [pm_mu_r _ _ _ _ (by decide)]
        exact a4
      · rw [hnn] at hj
        simp only [pm_mu_eq, Nat.reduceAdd, Nat.reduceEqDiff, if_false]
        rw [z_add1_lo (j := j) (by omega) (by omega) (by omega), z_add1_lo (j := 4 + j) (by omega) (by omega) (by omega), z_add1_lo (j := 8 + j) (by omega) (by omega) (by omega), z_add1_lo (j := 12 + j) (by omega) (by omega) (by omega), z_add1_lo (j := 16 + j) (by omega) (by omega) (by omega), z_add1_lo (j := 20 + j) (by omega) (by omega) (by omega)]
        exact a5 j hj
      · rw [n1] at hi
        simp only [pm_mu_eq, Nat.reduceAdd, Nat.reduceEqDiff, if_true, if_false]
        by_cases e : i = n
        · obtain ⟨b1, b2⟩ := z_add1_at (g := g) (b := b) (v := v)
          rw [hkk] at b1 b2
          subst e
          simp only [if_true]
          exact ⟨b1.symm, b2.symm⟩
        · rw [z_add1_lo (j := 25 + i) (by omega) (by omega) (by omega), z_add1_lo (j := 37 + i) (by omega) (by omega) (by omega)]
          simp only [e, if_false]
          exact a6 i (by omega)
      · repeat rw [pm_mu_ne _ _ _ (by omega)]
    · have q1 : ¬ n < 12 := fun z => q1 ((nI_ltI (a := n) (b := 12) (by omega) (by omega)).mpr z)
      repeat (refine hX _ _ _ _ ?_; conv => whnf)
      exact ⟨Or.inl rfl, h12 (by omega)⟩
  · simp only [Nat.reduceAdd] at a5 a6
    refine ⟨rfl, fun X hX => ?_⟩
    replace hX : ∀ pc L st D, pm_F N Ga tbX0_addKnock (some .boolean) post X pc L st D → X pc L st D := hX
    change X 0 [some (.ref 30), some (.int b), some (.int v)] [] D
    repeat (refine hX _ _ _ _ ?_; conv => whnf)
    rw [a2]
    refine ⟨fun q1 => ?_, fun q1 => ?_⟩
    · have q1 : n < 12 := (nI_ltI (a := n) (b := 12) (by omega) (by omega)).mp q1
      have hv : vp_in (nI n) 12 := vp_in_nI q1 (by decide)
      have h := h q1
      repeat (refine hX _ _ _ _ ?_; conv => whnf)
      rw [a2]
      refine ⟨by decide, hv, ?_⟩
      repeat (refine hX _ _ _ _ ?_; conv => whnf)
      simp only [pm_mu_r, Nat.reduceEqDiff, ne_eq, not_false_eq_true, a2]
      refine ⟨by decide, hv, ?_⟩
      repeat (refine hX _ _ _ _ ?_; conv => whnf)
      simp only [pm_mu_r, Nat.reduceEqDiff, ne_eq, not_false_eq_true, a2, hcl, nI_1]
      obtain ⟨n1, n2⟩ := z_add1_k (g := g) (b := b) (v := v) (by omega)
      rw [hkk] at n1 n2
      have hnn : z_n (z_add1 g b v) = z_n g := by
        show (z_add1 g b v 24).toNatClampNeg = _
        rw [z_add1_lo (by omega) (by omega) (by omega)]
        rfl
      refine ⟨by first | exact Or.inr rfl | exact Or.inr trivial | simp, h _ ⟨?_, ?_, ?_, ?_, fun j hj => ?_, fun i hi => ?_⟩ (fun r hr => ?_)⟩
      · rw [pm_mu_k _ _ _ _ (by decide), z_add1_lo (by omega) (by omega) (by omega)]
        repeat rw [pm_mu_r _ _ _ _ (by decide)]
        exact a1
      · rw [pm_mu_at, n2]
      · rw [pm_mu_k _ _ _ _ (by decide), z_add1_lo (by omega) (by omega) (by omega)]
        repeat rw [pm_mu_r _ _ _ _ (by decide)]
        exact a3
      · rw [pm_mu_k _ _ _ _ (by decide), z_add1_lo (by omega) (by omega) (by omega)]
        repeat rw [pm_mu_r _ _ _ _ (by decide)]
        exact a4
      · rw [hnn] at hj
        simp only [pm_mu_eq, Nat.reduceAdd, Nat.reduceEqDiff, if_false]
        rw [z_add1_lo (j := j) (by omega) (by omega) (by omega), z_add1_lo (j := 4 + j) (by omega) (by omega) (by omega), z_add1_lo (j := 8 + j) (by omega) (by omega) (by omega), z_add1_lo (j := 12 + j) (by omega) (by omega) (by omega), z_add1_lo (j := 16 + j) (by omega) (by omega) (by omega), z_add1_lo (j := 20 + j) (by omega) (by omega) (by omega)]
        exact a5 j hj
      · rw [n1] at hi
        simp only [pm_mu_eq, Nat.reduceAdd, Nat.reduceEqDiff, if_true, if_false]
        by_cases e : i = n
        · obtain ⟨b1, b2⟩ := z_add1_at (g := g) (b := b) (v := v)
          rw [hkk] at b1 b2
          subst e
          simp only [if_true]
          exact ⟨b1.symm, b2.symm⟩
        · rw [z_add1_lo (j := 25 + i) (by omega) (by omega) (by omega), z_add1_lo (j := 37 + i) (by omega) (by omega) (by omega)]
          simp only [e, if_false]
          exact a6 i (by omega)
      · repeat rw [pm_mu_ne _ _ _ (by omega)]
    · have q1 : ¬ n < 12 := fun z => q1 ((nI_ltI (a := n) (b := 12) (by omega) (by omega)).mpr z)
      repeat (refine hX _ _ _ _ ?_; conv => whnf)
      exact ⟨Or.inl rfl, h12 (by omega)⟩
/-- two knocks change places -/
def z_swp (g : z_P) (i j : Nat) : z_P := z_up (z_up (z_up (z_up g (25 + i) (g (25 + j))) (37 + i) (g (37 + j))) (25 + j) (g (25 + i))) (37 + j) (g (37 + i))
def sp_changePlaces (Ga : pm_Ga) : Prop := ∀ (i j : Nat) (g : z_P) (D : pm_Mem) (post : pm_Post), z_R D 10 g → z_n g ≤ 4 → z_k g ≤ 12 → i < j → j < z_k g → (∀ D', z_R D' 10 (z_swp g i j) → z_F 10 D D' → D' 10 = D 10 → post none D') → Ga 10 [.ref 10, .int (nI i), .int (nI j)] D post
set_option maxHeartbeats 4000000 in
theorem t_changePlaces {N : Nat} {Ga : pm_Ga} : sp_changePlaces (pm_up N Ga) := by
  intro i j g D post hR hn4 hk hij hjk h
  obtain ⟨a1, a2, a3, a4, a5, a6⟩ := hR
  simp only [Nat.reduceAdd] at a5 a6
  have vi : vp_in (nI i) 12 := vp_in_nI (by omega) (by decide)
  have vj : vp_in (nI j) 12 := vp_in_nI (by omega) (by decide)
  have ci : (nI i).toNatClampNeg = i := nI_clamp (by omega)
  have cj : (nI j).toNatClampNeg = j := nI_clamp (by omega)
  refine ⟨rfl, fun X hX => ?_⟩
  replace hX : ∀ pc L st D, pm_F N Ga tbX0_changePlaces none post X pc L st D → X pc L st D := hX
  change X 0 [some (.ref 10), some (.int (nI i)), some (.int (nI j)), none, none] [] D
  repeat (refine hX _ _ _ _ ?_; conv => whnf)
  refine ⟨vi, ?_⟩
  repeat (refine hX _ _ _ _ ?_; conv => whnf)
  refine ⟨vi, ?_⟩
  repeat (refine hX _ _ _ _ ?_; conv => whnf)
  refine ⟨vj, ?_⟩
  repeat (refine hX _ _ _ _ ?_; conv => whnf)
  refine ⟨by decide, vi, ?_⟩
  repeat (refine hX _ _ _ _ ?_; conv => whnf)
  refine ⟨vj, ?_⟩
  repeat (refine hX _ _ _ _ ?_; conv => whnf)
  refine ⟨by decide, vi, ?_⟩
  repeat (refine hX _ _ _ _ ?_; conv => whnf)
  refine ⟨by decide, vj, ?_⟩
  repeat (refine hX _ _ _ _ ?_; conv => whnf)
  refine ⟨by decide, vj, ?_⟩
  repeat (refine hX _ _ _ _ ?_; conv => whnf)
  simp only [ci, cj, pm_mu_r, Nat.reduceEqDiff, ne_eq, not_false_eq_true, (a6 i (by omega)).1, (a6 i (by omega)).2, (a6 j (by omega)).1, (a6 j (by omega)).2]
  have lo : ∀ q, q ≠ 25 + i → q ≠ 37 + i → q ≠ 25 + j → q ≠ 37 + j → z_swp g i j q = g q := by
    intro q h1 h2 h3 h4
    unfold z_swp
    rw [z_up_ne _ _ h4, z_up_ne _ _ h3, z_up_ne _ _ h2, z_up_ne _ _ h1]
  have hnn : z_n (z_swp g i j) = z_n g := by
    show (z_swp g i j 24).toNatClampNeg = _
    rw [lo 24 (by omega) (by omega) (by omega) (by omega)]
    rfl
  have hkk : z_k (z_swp g i j) = z_k g := by
    show (z_swp g i j 49).toNatClampNeg = _
    rw [lo 49 (by omega) (by omega) (by omega) (by omega)]
    rfl
  refine h _ ⟨?_, ?_, ?_, ?_, fun b hb => ?_, fun q hq => ?_⟩ (fun r hr => ?_) ?_
  · rw [lo 24 (by omega) (by omega) (by omega) (by omega)]
    repeat rw [pm_mu_r _ _ _ _ (by decide)]
    exact a1
  · rw [lo 49 (by omega) (by omega) (by omega) (by omega)]
    repeat rw [pm_mu_r _ _ _ _ (by decide)]
    exact a2
  · rw [lo 50 (by omega) (by omega) (by omega) (by omega)]
    repeat rw [pm_mu_r _ _ _ _ (by decide)]
    exact a3
  · rw [lo 51 (by omega) (by omega) (by omega) (by omega)]
    repeat rw [pm_mu_r _ _ _ _ (by decide)]
    exact a4
  · rw [hnn] at hb
    simp only [pm_mu_eq, Nat.reduceAdd, Nat.reduceEqDiff, if_false]
    rw [lo b (by omega) (by omega) (by omega) (by omega), lo (4 + b) (by omega) (by omega) (by omega) (by omega), lo (8 + b) (by omega) (by omega) (by omega) (by omega), lo (12 + b) (by omega) (by omega) (by omega) (by omega), lo (16 + b) (by omega) (by omega) (by omega) (by omega), lo (20 + b) (by omega) (by omega) (by omega) (by omega)]
    exact a5 b hb
  · rw [hkk] at hq
    obtain ⟨b1, b2⟩ := a6 q hq
    simp only [pm_mu_eq, Nat.reduceAdd, Nat.reduceEqDiff, if_true, if_false]
    unfold z_swp
    by_cases e1 : q = j
    · rw [if_pos e1, if_pos e1, e1, z_up_ne _ _ (by omega), z_up_at, z_up_at]
      exact ⟨rfl, rfl⟩
    · rw [if_neg e1, if_neg e1]
      by_cases e2 : q = i
      · rw [if_pos e2, if_pos e2, e2, z_up_ne _ _ (by omega), z_up_ne _ _ (by omega), z_up_ne _ _ (by omega), z_up_at, z_up_ne _ _ (by omega), z_up_ne _ _ (by omega), z_up_at]
        exact ⟨rfl, rfl⟩
      · rw [if_neg e2, if_neg e2, z_up_ne _ _ (by omega), z_up_ne _ _ (by omega), z_up_ne _ _ (by omega), z_up_ne _ _ (by omega), z_up_ne _ _ (by omega), z_up_ne _ _ (by omega), z_up_ne _ _ (by omega), z_up_ne _ _ (by omega)]
        exact ⟨b1, b2⟩
  · repeat rw [pm_mu_ne _ _ _ (by omega)]
  · repeat rw [pm_mu_ne _ _ _ (by decide)]
