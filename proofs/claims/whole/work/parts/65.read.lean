/-! ===== read ===== -/
/-- as ms2 of r_add, and the pages from 52 on are kept -/
def sp_adds (Ga : pm_Ga) : Prop := ∀ z b v D post, zOk z → MR D z → (∀ D', MR D' (r_add z b v).2 → (∀ r, (r < 67 ∨ 80 ≤ r) → D' r = D r) → (∀ k, 52 ≤ k → D' 68 k = D 68 k) → post (some (.int (r_add z b v).1)) D') → Ga 133 [.ref 67, .int b, .int v] D post
set_option maxHeartbeats 4000000 in
theorem t_adds {N : Nat} {Ga : pm_Ga} (hin : sp_in Ga) : sp_adds (pm_up N Ga) := by
  intro z b v D post hz hM h
  obtain ⟨g1, g2, g3, g4, g5, g6, g7, g8⟩ := hz.1
  obtain ⟨v49, c49⟩ := z_lit (k := 49) 49 (by decide) (by decide)
  unfold r_add at h
  refine ⟨rfl, fun X hX => ?_⟩
  replace hX : ∀ pc L st D, pm_F N Ga tbX5_adds (some .int) post X pc L st D → X pc L st D := hX
  change X 0 [some (.ref 67), some (.int b), some (.int v), none] [] D
  repeat (refine hX _ _ _ _ ?_; conv => whnf)
  refine m_ib hin 0 3 rfl rfl (fun e => ?_) (fun e => ?_)
  · repeat (refine hX _ _ _ _ ?_; conv => whnf)
    refine ⟨fun h => absurd h (by decide), fun _ => ?_⟩
    repeat (refine hX _ _ _ _ ?_; conv => whnf)
    refine m_ib hin 0 18 rfl rfl (fun e2 => ?_) (fun e2 => ?_)
    · rw [if_pos (by rw [e, e2]; rfl)] at h
      repeat (refine hX _ _ _ _ ?_; conv => whnf)
      refine ⟨fun _ => ?_, fun h => absurd h (by decide)⟩
      repeat (refine hX _ _ _ _ ?_; conv => whnf)
      refine ⟨v49, ?_⟩
      rw [c49, z_M0 hM.1 (by decide), g3]
      repeat (refine hX _ _ _ _ ?_; conv => whnf)
      refine ⟨fun q => ?_, fun q => ?_⟩
      · have q : ¬ z_k (zG z) = 12 := fun e2 => q (by rw [e2]; decide)
        rw [if_neg q] at h
        repeat (refine hX _ _ _ _ ?_; conv => whnf)
        rw [z_ix1' 25 (z_k (zG z)) 25 (by decide)]
        refine ⟨by decide, vp_in_nI (by omega) (by decide), ?_⟩
        repeat (refine hX _ _ _ _ ?_; conv => whnf)
        rw [z_ix1' 37 (z_k (zG z)) 37 (by decide)]
        refine ⟨by decide, vp_in_nI (by omega) (by decide), ?_⟩
        rw [nI_clamp (by omega), nI_clamp (by omega)]
        repeat (refine hX _ _ _ _ ?_; conv => whnf)
        refine ⟨v49, ?_⟩
        rw [c49, pm_mu_k _ _ _ _ (by omega), pm_mu_k _ _ _ _ (by omega), z_M0 hM.1 (by decide), g3]
        repeat (refine hX _ _ _ _ ?_; conv => whnf)
        refine ⟨by decide, v49, ?_⟩
        rw [c49, nI_1]
        repeat (refine hX _ _ _ _ ?_; conv => whnf)
        refine ⟨v49, ?_⟩
        rw [c49, pm_mu_at]
        repeat (refine hX _ _ _ _ ?_; conv => whnf)
        have eg : z_up (z_up (z_up (zG z) (25 + z_k (zG z)) b) (37 + z_k (zG z)) (v - 9)) 49 (nI (z_k (zG z) + 1)) = z_add1 (zG z) b (v - 9) := by
          funext j
          unfold z_up z_add1
          by_cases q1 : j = 49
          · rw [if_pos q1, if_neg (by omega), if_neg (by omega), if_pos q1]
          · rw [if_neg q1]
            by_cases q2 : j = 37 + z_k (zG z)
            · rw [if_pos q2, if_neg (by omega), if_pos q2]
            · rw [if_neg q2]
              by_cases q3 : j = 25 + z_k (zG z)
              · rw [if_pos q3, if_pos q3]
              · rw [if_neg q3, if_neg q3, if_neg q2, if_neg q1]
        refine h _ ?_ (fun r hr => by rw [pm_mu_ne _ _ _ (by omega), pm_mu_ne _ _ _ (by omega), pm_mu_ne _ _ _ (by omega)]) (fun k hk => by rw [pm_mu_k _ _ _ _ (by omega), pm_mu_k _ _ _ _ (by omega), pm_mu_k _ _ _ _ (by omega)])
        have m1 := hM.put (k := 25 + z_k (zG z)) (v := b) (by omega)
        have m2 := m1.put (k := 37 + z_k (zG z)) (v := v - 9) (by omega)
        have m3 := m2.put (k := 49) (v := nI (z_k (zG z) + 1)) (by omega)
        rw [← eg]
        exact m3
      · have q : z_k (zG z) = 12 := by
          rw [z_eq, z_tI (by omega)] at q
          have q : (z_k (zG z) : Int) = 12 := q
          omega
        rw [if_pos q] at h
        repeat (refine hX _ _ _ _ ?_; conv => whnf)
        exact h D hM (fun _ _ => rfl) (fun _ _ => rfl)
    · rw [if_neg (by rw [e, e2]; decide)] at h
      repeat (refine hX _ _ _ _ ?_; conv => whnf)
      refine ⟨fun h => absurd h (by decide), fun _ => ?_⟩
      repeat (refine hX _ _ _ _ ?_; conv => whnf)
      exact h D hM (fun _ _ => rfl) (fun _ _ => rfl)
  · rw [if_neg (by rw [e]; simp)] at h
    repeat (refine hX _ _ _ _ ?_; conv => whnf)
    refine ⟨fun _ => ?_, fun h => absurd h (by decide)⟩
    repeat (refine hX _ _ _ _ ?_; conv => whnf)
    exact h D hM (fun _ _ => rfl) (fun _ _ => rfl)
def z_pf (z : z_Z) (k : Nat) (a f : Int32) (i : Nat) : Int32 := match zH z k with | none => 1 | some q => if nI q.1 = a then (if 0 ≤ f.toInt ∧ f.toInt + 2 * (i : Int) + 1 < (q.2 : Int) then 0 else 2) else 3
def z_rd (z : z_Z) (k : Nat) (a f : Int32) : Nat → Nat → z_P → Int32 × z_Z
  | 0, i, g => (nI i, uR (uG z g) 0)
  | m + 1, i, g => if z_pf z k a f i = 0 then (if 0 ≤ (r_add (uG z g) (zE z k (z_nt f + 2 * i)) (zE z k (z_nt f + 2 * i + 1))).1 then z_rd z k a f m (i + 1) (zG (r_add (uG z g) (zE z k (z_nt f + 2 * i)) (zE z k (z_nt f + 2 * i + 1))).2) else (-20 - nI i, z)) else (nI i, uR (uG z g) (z_pf z k a f i))
def r_read (z : z_Z) (k a f n : Int32) : Int32 × z_Z := if (z_ib k 0 3 && (z_ib a 0 2 && z_ib n 0 20)) = true then z_rd z (z_nt k) a f (z_nt n) 0 (zG z) else (-1, z)
theorem r_add_u (z : z_Z) (g : z_P) (b v : Int32) : (r_add (uG z g) b v).2 = uG z (zG (r_add (uG z g) b v).2) := by
  unfold r_add
  split
  · split <;> rfl
  · rfl
/-- knocks were added -/
def z_ext (g0 g : z_P) : Prop := z_k g0 ≤ z_k g ∧ (∀ j, (j < 25 ∨ 50 ≤ j) → g j = g0 j) ∧ ∀ q, q < z_k g0 → g (25 + q) = g0 (25 + q) ∧ g (37 + q) = g0 (37 + q)
theorem z_ext_0 (g : z_P) : z_ext g g := ⟨Nat.le_refl _, fun _ _ => rfl, fun _ _ => ⟨rfl, rfl⟩⟩
theorem z_G.add1 {T : Int} {g : z_P} (h : z_G T g) {b v : Int32} (hk : z_k g < 12) (hb : z_in b 0 3) (hv : z_in v (-9) 9) : z_G T (z_add1 g b v) := by
  obtain ⟨a1, a2, a3, a4, a5, a6, a7, a8⟩ := h
  obtain ⟨n1, n2⟩ := z_add1_k (g := g) (b := b) (v := v) hk
  have lo : ∀ j, (j < 25 ∨ 50 ≤ j) → z_add1 g b v j = g j := fun j hj => z_add1_lo (by omega) (by omega) (by omega)
  have hnn : z_n (z_add1 g b v) = z_n g := by
    show (z_add1 g b v 24).toNatClampNeg = _
    rw [lo 24 (by omega)]
    rfl
  refine ⟨by rw [hnn, lo 24 (by omega)]; exact a1, by rw [hnn]; exact a2, by rw [n1]; exact n2, by rw [n1]; omega, by rw [lo 50 (by omega)]; exact a5, by rw [lo 51 (by omega)]; exact a6, fun c hc => ?_, fun i hi => ?_⟩
  · rw [hnn] at hc
    rw [lo c (by omega), lo (4 + c) (by omega), lo (8 + c) (by omega), lo (12 + c) (by omega), lo (16 + c) (by omega), lo (20 + c) (by omega)]
    exact a7 c hc
  · rw [n1] at hi
    by_cases e : i = z_k g
    · rw [e, (z_add1_at (g := g) (b := b) (v := v)).1, (z_add1_at (g := g) (b := b) (v := v)).2]
      exact ⟨hb, hv⟩
    · rw [z_add1_lo (j := 25 + i) (by omega) (by omega) (by omega), z_add1_lo (j := 37 + i) (by omega) (by omega) (by omega)]
      exact a8 i (by omega)
theorem z_ext_1 {g0 g : z_P} (h : z_ext g0 g) {b v : Int32} (hk : z_k g < 12) : z_ext g0 (z_add1 g b v) := by
  obtain ⟨n1, n2⟩ := z_add1_k (g := g) (b := b) (v := v) hk
  refine ⟨by rw [n1]; have := h.1; omega, fun j hj => ?_, fun q hq => ?_⟩
  · rw [z_add1_lo (by omega) (by omega) (by omega)]; exact h.2.1 j hj
  · have := h.1
    rw [z_add1_lo (j := 25 + q) (by omega) (by omega) (by omega), z_add1_lo (j := 37 + q) (by omega) (by omega) (by omega)]
    exact h.2.2 q hq
theorem r_add_ext {z : z_Z} {g0 g : z_P} (hG : z_G 9999 g) (h : z_ext g0 g) (b v : Int32) : z_G 9999 (zG (r_add (uG z g) b v).2) ∧ z_ext g0 (zG (r_add (uG z g) b v).2) := by
  unfold r_add
  split
  · rename_i c
    have hg : zG (uG z g) = g := rfl
    rw [hg]
    split
    · exact ⟨hG, h⟩
    · rename_i c2
      have := hG.2.2.2.1
      rw [Bool.and_eq_true] at c
      have c1 := z_ib_iff.mp c.1
      have c3 := z_ib_iff.mp c.2
      have e9 : (9 : Int32).toInt = 9 := rfl
      have e := z_sub (x := v) (y := 9) (by omega) (by omega)
      exact ⟨hG.add1 (by omega) c1 ⟨by omega, by omega⟩, z_ext_1 h (by omega)⟩
  · exact ⟨hG, h⟩
def sp_faultAs (Ga : pm_Ga) : Prop := ∀ (z : z_Z) (k : Nat) (a : Int32) (D : pm_Mem) (post : pm_Post), zOk z → C5 D z → k < 4 → (zH z k = none → post (some (.int 0)) D) → (∀ b n, zH z k = some (b, n) → post (some (.int (if nI b = a then 0 else 3))) D) → Ga 30 [.ref 48, .int (nI k), .int a] D post
set_option maxHeartbeats 4000000 in
theorem t_faultAs {N : Nat} {Ga : pm_Ga} (hno : sp_isNothing Ga) : sp_faultAs (pm_up N Ga) := by
  intro z k a D post hz h5 hk h1 h0
  refine ⟨rfl, fun X hX => ?_⟩
  replace hX : ∀ pc L st D, pm_F N Ga tbX2_faultAs (some .int) post X pc L st D → X pc L st D := hX
  change X 0 [some (.ref 48), some (.int (nI k)), some (.int a)] [] D
  repeat (refine hX _ _ _ _ ?_; conv => whnf)
  refine hno k D _ hk (fun y => ?_) (fun y => ?_)
  · rcases z_5 hz h5 hk with ⟨a1, a2⟩ | ⟨b, n, b1, b2, b3, _⟩
    · repeat (refine hX _ _ _ _ ?_; conv => whnf)
      refine ⟨fun _ => ?_, fun h => absurd h (by decide)⟩
      repeat (refine hX _ _ _ _ ?_; conv => whnf)
      exact h1 a1
    · exact absurd y b3
  · rcases z_5 hz h5 hk with ⟨a1, a2⟩ | ⟨b, n, b1, b2, b3, b4, b5, b6⟩
    · exact absurd a2 y
    · have h0 := h0 b n b1
      repeat (refine hX _ _ _ _ ?_; conv => whnf)
      refine ⟨fun h => absurd h (by decide), fun _ => ?_⟩
      repeat (refine hX _ _ _ _ ?_; conv => whnf)
      refine ⟨vp_in_nI hk (by decide), ?_⟩
      repeat (refine hX _ _ _ _ ?_; conv => whnf)
      rw [nI_clamp (by omega), b4]
      refine ⟨fun q => ?_, fun q => ?_⟩
      · repeat (refine hX _ _ _ _ ?_; conv => whnf)
        rw [if_neg q] at h0
        exact h0
      · repeat (refine hX _ _ _ _ ?_; conv => whnf)
        rw [if_pos q] at h0
        exact h0
def sp_fop (Ga : pm_Ga) : Prop := ∀ (z : z_Z) (k i : Nat) (a f : Int32) (D : pm_Mem) (post : pm_Post), zOk z → C5 D z → k < 4 → i ≤ 20 → post (some (.int (z_pf z k a f i))) D → Ga 31 [.ref 48, .int (nI k), .int a, .int f, .int (nI i)] D post
set_option maxHeartbeats 4000000 in
theorem t_fop {N : Nat} {Ga : pm_Ga} (hfs : sp_faultAs Ga) (hfa : sp_faultAt Ga) : sp_fop (pm_up N Ga) := by
  intro z k i a f D post hz h5 hk hi h
  unfold z_pf at h
  refine ⟨rfl, fun X hX => ?_⟩
  replace hX : ∀ pc L st D, pm_F N Ga tbX2_faultOfPair (some .int) post X pc L st D → X pc L st D := hX
  change X 0 [some (.ref 48), some (.int (nI k)), some (.int a), some (.int f), some (.int (nI i)), none] [] D
  repeat (refine hX _ _ _ _ ?_; conv => whnf)
  refine hfs z k a D _ hz h5 hk (fun y => ?_) (fun b n y => ?_)
  · rw [y] at h
    repeat (refine hX _ _ _ _ ?_; conv => whnf)
    refine ⟨fun h => absurd h (by decide), fun _ => ?_⟩
    repeat (refine hX _ _ _ _ ?_; conv => whnf)
    refine hfa z k f D _ hz h5 hk (fun y2 => ?_) (fun b n y2 _ => absurd (y.symm.trans y2) (by simp)) (fun b n y2 _ => absurd (y.symm.trans y2) (by simp))
    repeat (refine hX _ _ _ _ ?_; conv => whnf)
    refine ⟨fun h => absurd h (by decide), fun _ => ?_⟩
    repeat (refine hX _ _ _ _ ?_; conv => whnf)
    exact h
  · rw [y] at h
    have hb := hz.2.2.2.2.2 k hk b n y
    by_cases e : nI b = a
    · simp only [e, if_true] at h
      rw [if_pos e]
      repeat (refine hX _ _ _ _ ?_; conv => whnf)
      refine ⟨fun h => absurd h (by decide), fun _ => ?_⟩
      repeat (refine hX _ _ _ _ ?_; conv => whnf)
      refine hfa z k f D _ hz h5 hk (fun y2 => absurd (y.symm.trans y2) (by simp)) (fun b' n' y2 w => ?_) (fun b' n' y2 w => ?_)
      · have y3 := y.symm.trans y2
        injection y3 with y3
        injection y3 with y4 y5
        subst y4; subst y5
        obtain ⟨w1, w2, w3, w4⟩ := z_ib_of w (by decide) (by omega)
        have wi := z_ib_iff.mp w
        repeat (refine hX _ _ _ _ ?_; conv => whnf)
        refine ⟨fun _ => ?_, fun h => absurd h (by decide)⟩
        repeat (refine hX _ _ _ _ ?_; conv => whnf)
        have ix : f + 2 * nI i + 1 = nI (z_nt f + 2 * i + 1) := by
          have t : ∀ t : Nat, f = nI t → f + 2 * nI i + 1 = nI (t + 2 * i + 1) := fun t ht => by rw [ht, show (2 : Int32) = nI 2 from rfl, nI_mul, nI_add, nI_1]
          exact t _ w1
        have fi : f.toInt = z_nt f := (congrArg Int32.toInt w1).trans (z_tI (by omega))
        rw [ix]
        refine hfa z k _ D _ hz h5 hk (fun y2 => absurd (y.symm.trans y2) (by simp)) (fun b' n' y2 w => ?_) (fun b' n' y2 w => ?_)
        · have y3 := y.symm.trans y2
          injection y3 with y3
          injection y3 with y4 y5
          subst y4; subst y5
          have wj := z_ib_iff.mp w
          rw [z_tI (by omega)] at wj
          rw [if_pos (by omega)] at h
          repeat (refine hX _ _ _ _ ?_; conv => whnf)
          exact h
        · have y3 := y.symm.trans y2
          injection y3 with y3
          injection y3 with y4 y5
          subst y4; subst y5
          have wj := z_ib_not.mp w
          rw [z_tI (by omega)] at wj
          rw [if_neg (by omega)] at h
          repeat (refine hX _ _ _ _ ?_; conv => whnf)
          exact h
      · have y3 := y.symm.trans y2
        injection y3 with y3
        injection y3 with y4 y5
        subst y4; subst y5
        have wj := z_ib_not.mp w
        rw [if_neg (by omega)] at h
        repeat (refine hX _ _ _ _ ?_; conv => whnf)
        refine ⟨fun h => absurd h (by decide), fun _ => ?_⟩
        repeat (refine hX _ _ _ _ ?_; conv => whnf)
        exact h
    · simp only [e, if_false] at h
      rw [if_neg e]
      repeat (refine hX _ _ _ _ ?_; conv => whnf)
      refine ⟨fun _ => ?_, fun h => absurd h (by decide)⟩
      repeat (refine hX _ _ _ _ ?_; conv => whnf)
      refine ⟨fun h => absurd h (by decide), fun _ => ?_⟩
      repeat (refine hX _ _ _ _ ?_; conv => whnf)
      exact h
