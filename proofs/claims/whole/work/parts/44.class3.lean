theorem z_R_at {D : pm_Mem} {g : z_P} (h : z_R D 0 g) {w b : Nat} (hw : w ≤ 4) (hb : b < z_n g) : D (1 + w) b = g (4 * w + b) := by
  obtain ⟨b1, b2, b3, b4, b5, b6⟩ := h.2.2.2.2.1 b hb
  simp only [Nat.zero_add] at b1 b2 b3 b4 b5 b6
  have h5 : w = 0 ∨ w = 1 ∨ w = 2 ∨ w = 3 ∨ w = 4 := by omega
  rcases h5 with rfl | rfl | rfl | rfl | rfl
  · simpa using b1
  · exact b2
  · exact b3
  · exact b4
  · exact b5
theorem z_R_row {N w : Nat} (hw : w ≤ 4) : pm_sh N (0 + 1 + w) = (0, 4, []) := by
  have h5 : w = 0 ∨ w = 1 ∨ w = 2 ∨ w = 3 ∨ w = 4 := by omega
  rcases h5 with rfl | rfl | rfl | rfl | rfl <;> rfl
set_option maxHeartbeats 4000000 in
theorem t_c_bead {N : Nat} {Ga : pm_Ga} (hhas : sp_has Ga) (hro : sp_rowOf Ga)
    (hst : ∀ c b g D post, c ∈ pm_chs → b < 4 → D (c + 2) b = g (4 + b) → (∀ j, j ≤ b → D (c + 5) j = g (16 + j)) → post (some (.int (z_st g b))) D → Ga 11 [.ref c, .int (nI b)] D post)
    (hpu : ∀ c b g D post, c ∈ pm_chs → b < 4 → z_in (g b) 0 3 → D (c + 1) b = g b → D (c + 2) b = g (4 + b) → D (c + 3) b = g (8 + b) → (∀ j, j ≤ b → D (c + 5) j = g (16 + j)) → post (some (.int (z_pull g b))) D → Ga 12 [.ref c, .int (nI b)] D post) : cs2 (pm_up N Ga) 49 r_bead := by
  intro z b w D post hz hC h
  have h1 : z_R D 0 (zG z) := hC.1
  obtain ⟨g1, g2, g3, g4, g5, g6, g7, g8⟩ := hz.1
  have h := h D hC (fun _ _ => rfl)
  unfold r_bead at h
  refine ⟨rfl, fun X hX => ?_⟩
  replace hX : ∀ pc L st D, pm_F N Ga tbX4_bead (some .int) post X pc L st D → X pc L st D := hX
  change X 0 [some (.ref 40), some (.int b), some (.int w)] [] D
  repeat (refine hX _ _ _ _ ?_; conv => whnf)
  refine z_has hhas h1 g1 g2 (fun e => ?_) (fun e => ?_)
  · obtain ⟨b1, b2, b3, b4⟩ := z_isb_of e g2
    obtain ⟨c1, c2, c3, c4, c5, c6⟩ := z_Rb h1 b1
    rw [if_pos e] at h
    have hin : vp_in b 4 := by rw [b2]; exact vp_in_nI (by omega) (by decide)
    have row : z_ib w 0 4 = true → X 60 [some (.ref 40), some (.int b), some (.int w)] [] D := by
      intro e2
      obtain ⟨w1, w2, w3, w4⟩ := z_ib_of e2 (by decide) (by decide)
      rw [if_pos e2] at h
      repeat (refine hX _ _ _ _ ?_; conv => whnf)
      rw [w1]
      refine hro 0 (z_nt w) D _ (by decide) (by omega) ?_
      iterate 1 (refine hX _ _ _ _ ?_; conv => whnf)
      refine hX _ _ _ _ ?_
      show (match pm_sh N (0 + 1 + z_nt w) with | (0, n, _) => vp_in b n ∧ X 70 _ [.int (D (0 + 1 + z_nt w) b.toNatClampNeg)] D | _ => False)
      rw [z_R_row (by omega)]
      refine ⟨hin, ?_⟩
      rw [b4, show 0 + 1 + z_nt w = 1 + z_nt w by omega, z_R_at h1 (by omega) b1]
      repeat (refine hX _ _ _ _ ?_; conv => whnf)
      exact h
    repeat (refine hX _ _ _ _ ?_; conv => whnf)
    refine ⟨fun _ => ?_, fun h => absurd h (by decide)⟩
    repeat (refine hX _ _ _ _ ?_; conv => whnf)
    refine ⟨fun q => ?_, fun q => ?_, fun q => ?_, fun q => ?_, fun q => ?_, fun q => ?_, fun q => ?_, fun q => ?_, fun q => ?_, trivial⟩
    · have n0 : ¬ z_ib w 0 4 = true := by rw [z_ib_iff]; omega
      have n5 : ¬ w = 5 := fun e => by rw [e] at q; exact absurd q (by decide)
      have n6 : ¬ w = 6 := fun e => by rw [e] at q; exact absurd q (by decide)
      have n7 : ¬ w = 7 := fun e => by rw [e] at q; exact absurd q (by decide)
      rw [if_neg n0, if_neg n5, if_neg n6, if_neg n7] at h
      repeat (refine hX _ _ _ _ ?_; conv => whnf)
      exact h
    · exact row (z_ib_t (by omega) (by omega))
    · exact row (z_ib_t (by omega) (by omega))
    · exact row (z_ib_t (by omega) (by omega))
    · exact row (z_ib_t (by omega) (by omega))
    · exact row (z_ib_t (by omega) (by omega))
    · have e : w = 5 := z_sw0 q
      subst e
      rw [if_neg (by decide), if_pos rfl] at h
      repeat (refine hX _ _ _ _ ?_; conv => whnf)
      refine ⟨hin, ?_⟩
      have c6 : D 6 (z_nt b) = zG z (20 + z_nt b) := c6
      rw [b4, c6]
      repeat (refine hX _ _ _ _ ?_; conv => whnf)
      exact h
    · have e : w = 6 := z_sw0 q
      subst e
      rw [if_neg (by decide), if_neg (by decide), if_pos rfl] at h
      repeat (refine hX _ _ _ _ ?_; conv => whnf)
      rw [b2]
      refine hst 0 (z_nt b) (zG z) D _ (by decide) (by omega) c2 (fun j hj => (z_Rb h1 (show j < z_n (zG z) by omega)).2.2.2.2.1) ?_
      repeat (refine hX _ _ _ _ ?_; conv => whnf)
      exact h
    · have e : w = 7 := z_sw0 q
      subst e
      rw [if_neg (by decide), if_neg (by decide), if_neg (by decide), if_pos rfl] at h
      repeat (refine hX _ _ _ _ ?_; conv => whnf)
      rw [b2]
      refine hpu 0 (z_nt b) (zG z) D _ (by decide) (by omega) (g7 _ b1).1 c1 c2 c3 (fun j hj => (z_Rb h1 (show j < z_n (zG z) by omega)).2.2.2.2.1) ?_
      repeat (refine hX _ _ _ _ ?_; conv => whnf)
      exact h
  · rw [if_neg (by rw [e]; decide)] at h
    repeat (refine hX _ _ _ _ ?_; conv => whnf)
    refine ⟨fun h => absurd h (by decide), fun _ => ?_⟩
    repeat (refine hX _ _ _ _ ?_; conv => whnf)
    exact h
theorem z_good_f {w v : Int32} (h : z_ib w 0 4 = false) : z_good w v = false := by
  unfold z_good
  have n0 : ¬ w = 0 := fun e => by rw [e] at h; exact absurd h (by decide)
  have n1 : ¬ w = 1 := fun e => by rw [e] at h; exact absurd h (by decide)
  have n2 : ¬ w = 2 := fun e => by rw [e] at h; exact absurd h (by decide)
  have n3 : ¬ w = 3 := fun e => by rw [e] at h; exact absurd h (by decide)
  have n4 : ¬ w = 4 := fun e => by rw [e] at h; exact absurd h (by decide)
  simp [n0, n1, n2, n3, n4]
/-- the bounds of trait w -/
def z_lo (w : Nat) : Int := if w = 3 then 1 else 0
def z_hi (w : Nat) : Int := match w with | 0 => 3 | 1 => 60 | 2 => 9 | 3 => 9 | _ => 300
theorem z_good_t {w : Nat} {v : Int32} (h : w ≤ 4) : z_good (nI w) v = z_ib v (z_lo w) (z_hi w) := by
  have h5 : w = 0 ∨ w = 1 ∨ w = 2 ∨ w = 3 ∨ w = 4 := by omega
  rcases h5 with rfl | rfl | rfl | rfl | rfl <;> simp [z_good, z_lo, z_hi, show (nI 0 = 0) = True from eq_true rfl, show (nI 0 = 1) = False from eq_false (by decide), show (nI 0 = 2) = False from eq_false (by decide), show (nI 0 = 3) = False from eq_false (by decide), show (nI 0 = 4) = False from eq_false (by decide), show (nI 1 = 0) = False from eq_false (by decide), show (nI 1 = 1) = True from eq_true rfl, show (nI 1 = 2) = False from eq_false (by decide), show (nI 1 = 3) = False from eq_false (by decide), show (nI 1 = 4) = False from eq_false (by decide), show (nI 2 = 0) = False from eq_false (by decide), show (nI 2 = 1) = False from eq_false (by decide), show (nI 2 = 2) = True from eq_true rfl, show (nI 2 = 3) = False from eq_false (by decide), show (nI 2 = 4) = False from eq_false (by decide), show (nI 3 = 0) = False from eq_false (by decide), show (nI 3 = 1) = False from eq_false (by decide), show (nI 3 = 2) = False from eq_false (by decide), show (nI 3 = 3) = True from eq_true rfl, show (nI 3 = 4) = False from eq_false (by decide), show (nI 4 = 0) = False from eq_false (by decide), show (nI 4 = 1) = False from eq_false (by decide), show (nI 4 = 2) = False from eq_false (by decide), show (nI 4 = 3) = False from eq_false (by decide), show (nI 4 = 4) = True from eq_true rfl]
theorem C7.lo {D : pm_Mem} (h : C7 D) {w : Nat} (hw : w ≤ 4) : (D 80 w).toInt = z_lo w ∧ (D 81 w).toInt = z_hi w := by
  obtain ⟨⟨l0, l1, l2, l3, l4⟩, ⟨m0, m1, m2, m3, m4⟩⟩ := h
  have h5 : w = 0 ∨ w = 1 ∨ w = 2 ∨ w = 3 ∨ w = 4 := by omega
  rcases h5 with rfl | rfl | rfl | rfl | rfl
  · rw [l0, m0]; exact ⟨rfl, rfl⟩
  · rw [l1, m1]; exact ⟨rfl, rfl⟩
  · rw [l2, m2]; exact ⟨rfl, rfl⟩
  · rw [l3, m3]; exact ⟨rfl, rfl⟩
  · rw [l4, m4]; exact ⟨rfl, rfl⟩
set_option maxHeartbeats 4000000 in
theorem t_c_alter {N : Nat} {Ga : pm_Ga} (hhas : sp_has Ga) (hwi : sp_within Ga) (hro : sp_rowOf Ga) : cs3 (pm_up N Ga) 51 r_alter := by
  intro z b w v D post hz hC h
  have h1 : z_R D 0 (zG z) := hC.1
  obtain ⟨g1, g2, g3, g4, g5, g6, g7, g8⟩ := hz.1
  unfold r_alter at h
  refine ⟨rfl, fun X hX => ?_⟩
  replace hX : ∀ pc L st D, pm_F N Ga tbX4_alter (some .int) post X pc L st D → X pc L st D := hX
  change X 0 [some (.ref 40), some (.int b), some (.int w), some (.int v), none, none] [] D
  have bad : (z_isb (zG z) b && z_good w v) = false → X 37 [some (.ref 40), some (.int b), some (.int w), some (.int v), none, none] [] D := by
    intro e
    rw [if_neg (by rw [e]; decide)] at h
    repeat (refine hX _ _ _ _ ?_; conv => whnf)
    exact h D hC (fun _ _ => rfl)
  repeat (refine hX _ _ _ _ ?_; conv => whnf)
  refine z_has hhas h1 g1 g2 (fun e => ?_) (fun e => ?_)
  · obtain ⟨b1, b2, b3, b4⟩ := z_isb_of e g2
    have hin : vp_in b 4 := by rw [b2]; exact vp_in_nI (by omega) (by decide)
    repeat (refine hX _ _ _ _ ?_; conv => whnf)
    refine ⟨fun h => absurd h (by decide), fun _ => ?_⟩
    repeat (refine hX _ _ _ _ ?_; conv => whnf)
    refine w_ib hwi 0 4 rfl rfl (fun e2 => ?_) (fun e2 => ?_)
    · obtain ⟨w1, w2, w3, w4⟩ := z_ib_of e2 (by decide) (by decide)
      have hw : z_nt w ≤ 4 := by omega
      have hv5 : vp_in w 5 := by rw [w1]; exact vp_in_nI (by omega) (by decide)
      obtain ⟨cl, ch⟩ := hC.2.2.2.2.2.2.lo hw
      repeat (refine hX _ _ _ _ ?_; conv => whnf)
      refine ⟨fun h => absurd h (by decide), fun _ => ?_⟩
      repeat (refine hX _ _ _ _ ?_; conv => whnf)
      refine ⟨hv5, ?_⟩
      repeat (refine hX _ _ _ _ ?_; conv => whnf)
      refine ⟨hv5, ?_⟩
      rw [w4]
      repeat (refine hX _ _ _ _ ?_; conv => whnf)
      refine w_ib hwi _ _ cl ch (fun e3 => ?_) (fun e3 => ?_)
      · have e4 : z_good w v = true := by rw [w1, z_good_t hw]; exact e3
        rw [if_pos (by rw [e, e4]; rfl)] at h
        repeat (refine hX _ _ _ _ ?_; conv => whnf)
        refine ⟨fun _ => ?_, fun h => absurd h (by decide)⟩
        repeat (refine hX _ _ _ _ ?_; conv => whnf)
        rw [w1]
        refine hro 0 (z_nt w) D _ (by decide) hw ?_
        repeat (refine hX _ _ _ _ ?_; conv => whnf)
        change (match pm_sh N (0 + 1 + z_nt w) with | (0, n, _) => vp_in b n ∧ X 53 [some (.ref 40), some (.int b), some (.int (nI (z_nt w))), some (.int v), some (.ref (0 + 1 + z_nt w)), none] [.int (D (0 + 1 + z_nt w) b.toNatClampNeg)] D | _ => False)
        rw [z_R_row hw]
        refine ⟨hin, ?_⟩
        repeat (refine hX _ _ _ _ ?_; conv => whnf)
        change (match pm_sh N (0 + 1 + z_nt w) with | (0, n, _) => 0 + 1 + z_nt w < 80 ∧ vp_in b n ∧ X 60 [some (.ref 40), some (.int b), some (.int (nI (z_nt w))), some (.int v), some (.ref (0 + 1 + z_nt w)), some (.int (D (0 + 1 + z_nt w) b.toNatClampNeg))] [] (pm_mu D (0 + 1 + z_nt w) b.toNatClampNeg v) | _ => False)
        rw [z_R_row hw]
        refine ⟨by omega, hin, ?_⟩
        repeat (refine hX _ _ _ _ ?_; conv => whnf)
        rw [b4, show 0 + 1 + z_nt w = 1 + z_nt w by omega, z_R_at h1 hw b1]
        exact h _ (hC.now (z_R_put h1 g2 hw b1) (fun r hr => pm_mu_ne _ _ _ (by omega))) (fun r hr => pm_mu_ne _ _ _ (by omega))
      · have e4 : z_good w v = false := by rw [w1, z_good_t hw]; exact e3
        repeat (refine hX _ _ _ _ ?_; conv => whnf)
        refine ⟨fun h => absurd h (by decide), fun _ => ?_⟩
        exact bad (by rw [e, e4]; rfl)
    · repeat (refine hX _ _ _ _ ?_; conv => whnf)
      refine ⟨fun _ => ?_, fun h => absurd h (by decide)⟩
      exact bad (by rw [e, z_good_f e2]; rfl)
  · repeat (refine hX _ _ _ _ ?_; conv => whnf)
    refine ⟨fun _ => ?_, fun h => absurd h (by decide)⟩
    exact bad (by rw [e]; rfl)
def z_ush (x k : Int32) : Int32 := (x.toUInt32 >>> (k.toUInt32 &&& Int32.toUInt32 31)).toInt32
def z_bc1 (x : Int32) : Int32 := x - (z_ush x 1 &&& 1431655765)
def z_bc2 (x : Int32) : Int32 := (x &&& 858993459) + (z_ush x 2 &&& 858993459)
def z_bc3 (x : Int32) : Int32 := (x + z_ush x 4) &&& 252645135
def z_bc4 (x : Int32) : Int32 := x + z_ush x 8
def z_bc5 (x : Int32) : Int32 := x + z_ush x 16
def z_bc (x : Int32) : Int32 := z_bc5 (z_bc4 (z_bc3 (z_bc2 (z_bc1 x)))) &&& 63
def sp_bitCount (Ga : pm_Ga) : Prop := ∀ (v : Int32) (D : pm_Mem) (post : pm_Post), post (some (.int (z_bc v))) D → Ga 173 [.int v] D post
set_option maxHeartbeats 2000000 in
theorem t_bitCount {N : Nat} {Ga : pm_Ga} : sp_bitCount (pm_up N Ga) := by
  intro v D post h
  refine ⟨rfl, fun X hX => ?_⟩
  replace hX : ∀ pc L st D, pm_F N Ga tbJ6_bitCount_0f7a4 (some .int) post X pc L st D → X pc L st D := hX
  change X 0 [some (.int v)] [] D
  iterate 8 (refine hX _ _ _ _ ?_; conv => whnf)
  change X 10 [some (.int (z_bc1 v))] [] D
  unfold z_bc at h
  generalize z_bc1 v = x1 at h ⊢
  iterate 10 (refine hX _ _ _ _ ?_; conv => whnf)
  change X 24 [some (.int (z_bc2 x1))] [] D
  generalize z_bc2 x1 = x2 at h ⊢
  iterate 8 (refine hX _ _ _ _ ?_; conv => whnf)
  change X 34 [some (.int (z_bc3 x2))] [] D
  generalize z_bc3 x2 = x3 at h ⊢
  iterate 6 (refine hX _ _ _ _ ?_; conv => whnf)
  change X 41 [some (.int (z_bc4 x3))] [] D
  generalize z_bc4 x3 = x4 at h ⊢
  iterate 6 (refine hX _ _ _ _ ?_; conv => whnf)
  change X 48 [some (.int (z_bc5 x4))] [] D
  generalize z_bc5 x4 = x5 at h ⊢
  repeat (refine hX _ _ _ _ ?_; conv => whnf)
  exact h
theorem z_mov_bc (g : z_P) (n : Nat) (hn : n ≤ 4) : nI n - z_bc (z_still g n) = z_mov g n := by
  have h5 : n = 0 ∨ n = 1 ∨ n = 2 ∨ n = 3 ∨ n = 4 := by omega
  rcases h5 with rfl | rfl | rfl | rfl | rfl
  · show nI 0 - z_bc 0 = 0
    decide +kernel
  · simp only [z_still, z_mov]
    by_cases e0 : g (20 + 0) = 0 <;> simp only [e0, if_true, if_false] <;> decide +kernel
  · simp only [z_still, z_mov]
    by_cases e0 : g (20 + 0) = 0 <;> by_cases e1 : g (20 + 1) = 0 <;> simp only [e0, e1, if_true, if_false] <;> decide +kernel
  · simp only [z_still, z_mov]
    by_cases e0 : g (20 + 0) = 0 <;> by_cases e1 : g (20 + 1) = 0 <;> by_cases e2 : g (20 + 2) = 0 <;> simp only [e0, e1, e2, if_true, if_false] <;> decide +kernel
  · simp only [z_still, z_mov]
    by_cases e0 : g (20 + 0) = 0 <;> by_cases e1 : g (20 + 1) = 0 <;> by_cases e2 : g (20 + 2) = 0 <;> by_cases e3 : g (20 + 3) = 0 <;> simp only [e0, e1, e2, e3, if_true, if_false] <;> decide +kernel
theorem z_calm_1 (g : z_P) (b : Nat) : z_calm g (b + 1) = z_up (z_calm g b) (20 + b) 0 := by
  funext k
  unfold z_up z_calm
  by_cases q : k = 20 + b
  · rw [if_pos q, if_pos (by omega)]
  · rw [if_neg q]
    by_cases q2 : 20 ≤ k ∧ k < 20 + b
    · rw [if_pos (by omega), if_pos q2]
    · rw [if_neg (by omega), if_neg q2]
theorem z_calm_0 (g : z_P) : z_calm g 0 = g := by
  funext k
  unfold z_calm
  rw [if_neg (by omega)]
theorem z_calm_n (g : z_P) {b : Nat} (hb : b ≤ 4) : z_n (z_calm g b) = z_n g ∧ z_k (z_calm g b) = z_k g ∧ z_calm g b 24 = g 24 := by
  have e : ∀ k, 24 ≤ k → z_calm g b k = g k := fun k hk => by unfold z_calm; rw [if_neg (by omega)]
  refine ⟨?_, ?_, e 24 (by omega)⟩
  · unfold z_n; rw [e 24 (by omega)]
  · unfold z_k; rw [e 49 (by omega)]
set_option maxHeartbeats 2000000 in
theorem t_c_calm {N : Nat} {Ga : pm_Ga} (hst : sp_stillBits Ga) (hbc : sp_bitCount Ga) : cs0 (pm_up N Ga) 58 r_calm := by
  intro z D post hz hC h
  have h1 : z_R D 0 (zG z) := hC.1
  obtain ⟨g1, g2, g3, g4, g5, g6, g7, g8⟩ := hz.1
  unfold r_calm at h
  refine ⟨rfl, fun X hX => ?_⟩
  replace hX : ∀ pc L st D, pm_F N Ga tbX4_calm (some .int) post X pc L st D → X pc L st D := hX
  change X 0 [some (.ref 40), none, none] [] D
  repeat (refine hX _ _ _ _ ?_; conv => whnf)
  refine hst (zG z) D _ h1 g1 g2 ?_
  repeat (refine hX _ _ _ _ ?_; conv => whnf)
  refine hbc _ _ _ ?_
  rw [h1.1, g1]
  iterate 4 (refine hX _ _ _ _ ?_; conv => whnf)
  rw [z_mov_bc (zG z) _ g2]
  have loop : ∀ (m b : Nat) (D1 : pm_Mem), b + m = z_n (zG z) → z_R D1 0 (z_calm (zG z) b) → (∀ r, r ≠ 6 → D1 r = D r) → X 21 [some (.ref 40), some (.int (z_mov (zG z) (z_n (zG z)))), some (.int (nI b))] [] D1 := by
    intro m
    induction m with
    | zero =>
      intro b D1 hb f1 f2
      have hb : b = z_n (zG z) := by omega
      subst hb
      repeat (refine hX _ _ _ _ ?_; conv => whnf)
      rw [f1.1, (z_calm_n _ g2).2.2, g1]
      refine ⟨fun _ => ?_, fun q => absurd (nI_le (Nat.le_refl _) (by omega)) q⟩
      repeat (refine hX _ _ _ _ ?_; conv => whnf)
      exact h _ (hC.now f1 (fun r hr => f2 r (by omega))) (fun r hr => f2 r (by omega))
    | succ m ih =>
      intro b D1 hb f1 f2
      obtain ⟨n1, n2, n3⟩ := z_calm_n (zG z) (b := b) (by omega)
      repeat (refine hX _ _ _ _ ?_; conv => whnf)
      rw [f1.1, n3, g1]
      refine ⟨fun q => absurd q (nI_ge (by omega) (by omega)), fun _ => ?_⟩
      repeat (refine hX _ _ _ _ ?_; conv => whnf)
      refine ⟨by decide, vp_in_nI (by omega) (by decide), ?_⟩
      rw [nI_clamp (by omega)]
      iterate 2 (refine hX _ _ _ _ ?_; conv => whnf)
      rw [nI_1]
      refine ih (b + 1) _ (by omega) ?_ (fun r hr => by rw [pm_mu_ne _ _ _ hr]; exact f2 r hr)
      rw [z_calm_1]
      exact z_R_speed (c := 0) f1 (by rw [n1]; exact g2) (by rw [n2]; exact g4) (by rw [n1]; omega)
  refine loop (z_n (zG z)) 0 D (by omega) ?_ (fun _ _ => rfl)
  rw [z_calm_0]
  exact h1
