/-! ===== the text: the reference, what a line tells ===== -/
def y_row (D : pm_Mem) (g : z_P) : Prop := ∀ k, k < 52 → D 69 k = g k
def y_Mg (D D' : pm_Mem) : Prop := (∀ r, r ≠ 67 → r ≠ 69 → D' r = D r) ∧ ∀ k, (k < 6 ∨ 12 ≤ k) → D' 67 k = D 67 k
theorem y_Mg.tr {D D1 D2 : pm_Mem} (h1 : y_Mg D D1) (h2 : y_Mg D1 D2) : y_Mg D D2 := ⟨fun r hr hr2 => by rw [h2.1 r hr hr2]; exact h1.1 r hr hr2, fun k hk => by rw [h2.2 k hk]; exact h1.2 k hk⟩
theorem y_Mf.g {D D' : pm_Mem} (h : y_Mf D D') : y_Mg D D' := ⟨fun r hr _ => h.1 r hr, h.2⟩
theorem y_Mg.mu (D : pm_Mem) (k : Nat) (v : Int32) : y_Mg D (pm_mu D 69 k v) := ⟨fun r _ hr => by rw [pm_mu_ne _ _ _ hr], fun j _ => by rw [pm_mu_r _ _ _ _ (by decide)]⟩
theorem y_M.mu {L p : Nat} {T : Nat → Int32} {D : pm_Mem} {e : Option (Nat × Nat)} (h : y_M L T D p e) (k : Nat) (v : Int32) : y_M L T (pm_mu D 69 k v) p e := by
  have e67 : pm_mu D 69 k v 67 = D 67 := pm_mu_ne _ _ _ (by decide)
  have e70 : pm_mu D 69 k v 70 = D 70 := pm_mu_ne _ _ _ (by decide)
  unfold y_M y_Ms y_Me y_Mt
  rw [e67, e70]
  exact h
theorem y_mu_row (D : pm_Mem) (r k : Nat) (v : Int32) : pm_mu D r k v r = z_up (D r) k v := by
  funext j
  show (if r = r then (if j = k then v else D r j) else D r j) = if j = k then v else D r j
  rw [if_pos rfl]
theorem y_rd_none {L : Nat} {T : Nat → Int32} {p : Nat} {e : Option (Nat × Nat)} (h : y_rd L T p e = none) : e = none := by
  cases e with
  | none => rfl
  | some x => rw [y_rd_s] at h; cases h
theorem y_nb_none {L : Nat} {T : Nat → Int32} {A B : Int} {p : Nat} {e : Option (Nat × Nat)} (h : y_nb L T A B p e = none) : e = none := by
  cases e with
  | none => rfl
  | some x => rw [y_nb_s] at h; cases h
theorem y_se_none {L : Nat} {T : Nat → Int32} {p : Nat} {e : Option (Nat × Nat)} (h : y_se L T p e = none) : e = none := by
  cases e with
  | none => rfl
  | some x => rw [y_se_s] at h; cases h
theorem i_add (a b : Nat) (x : Int32) (hx : x = nI a) : x + nI b = nI (a + b) := by rw [hx, nI_add]
theorem y_bind_row {g R : z_P} {k r s m x : Int32} {n : Nat} (hR : ∀ j, j < 52 → R j = g j) (hn : n = z_n g) (hn4 : n < 4) (hx : x = pm_min 300 (z_last g + r)) (hs : g (20 + n) = 0) : ∀ j, j < 52 → z_up (z_up (z_up (z_up (z_up (z_up R n k) (4 + n) r) (8 + n) s) (12 + n) m) (16 + n) x) 24 (nI (n + 1)) j = z_bind g k r s m j := by
  intro j hj
  unfold z_up z_bind
  rw [← hn, ← hx]
  by_cases h1 : j = n
  · rw [if_pos h1, if_neg (by omega), if_neg (by omega), if_neg (by omega), if_neg (by omega), if_neg (by omega), if_pos h1]
  · rw [if_neg h1, if_neg h1]
    by_cases h2 : j = 4 + n
    · rw [if_pos h2, if_neg (by omega), if_neg (by omega), if_neg (by omega), if_neg (by omega), if_pos h2]
    · rw [if_neg h2, if_neg h2]
      by_cases h3 : j = 8 + n
      · rw [if_pos h3, if_neg (by omega), if_neg (by omega), if_neg (by omega), if_pos h3]
      · rw [if_neg h3, if_neg h3]
        by_cases h4 : j = 12 + n
        · rw [if_pos h4, if_neg (by omega), if_neg (by omega), if_pos h4]
        · rw [if_neg h4, if_neg h4]
          by_cases h5 : j = 16 + n
          · rw [if_pos h5, if_neg (by omega), if_pos h5]
          · rw [if_neg h5, if_neg h5]
            by_cases h6 : j = 20 + n
            · rw [if_pos h6, if_neg (by omega), hR j hj, h6, hs]
            · rw [if_neg h6]
              by_cases h7 : j = 24
              · rw [if_pos h7, if_pos h7]
              · rw [if_neg h7, if_neg h7, hR j hj]
theorem y_add1_row {g R : z_P} {b v : Int32} {n : Nat} (hR : ∀ j, j < 52 → R j = g j) (hn : n = z_k g) (hn4 : n < 12) : ∀ j, j < 52 → z_up (z_up (z_up R (25 + n) b) (37 + n) v) 49 (nI (n + 1)) j = z_add1 g b v j := by
  intro j hj
  unfold z_up z_add1
  rw [← hn]
  by_cases h1 : j = 25 + n
  · rw [if_pos h1, if_neg (by omega), if_neg (by omega), if_pos h1]
  · rw [if_neg h1, if_neg h1]
    by_cases h2 : j = 37 + n
    · rw [if_pos h2, if_neg (by omega), if_pos h2]
    · rw [if_neg h2, if_neg h2]
      by_cases h3 : j = 49
      · rw [if_pos h3, if_pos h3]
      · rw [if_neg h3, if_neg h3, hR j hj]
def sp_rmBead (Ga : pm_Ga) : Prop := ∀ (L p w : Nat) (T : Nat → Int32) (g : z_P) (e : Option (Nat × Nat)) (D : pm_Mem) (post : pm_Post), w ≤ 3 → L ≤ 160 → p ≤ L → (∀ i, i < L → z_in (T i) 0 127) → y_I g → z_n g < 4 → y_row D g → y_M L T D p e → (∀ D', y_M L T D' (y_b L T (y_b L T (y_b L T p))) (y_rd L T (y_b L T (y_b L T (y_b L T p))) (y_nb L T 1 9 (y_b L T (y_b L T p)) (y_rd L T (y_b L T (y_b L T p)) (y_nb L T 0 9 (y_b L T p) (y_rd L T (y_b L T p) (y_nb L T 0 60 p e)))))) → ((y_nb L T 1 9 (y_b L T (y_b L T p)) (y_rd L T (y_b L T (y_b L T p)) (y_nb L T 0 9 (y_b L T p) (y_rd L T (y_b L T p) (y_nb L T 0 60 p e))))) = none → y_row D' (z_bind g (nI w) (y_vv L T 0 p) (y_vv L T 0 (y_b L T p)) (y_vv L T 1 (y_b L T (y_b L T p))))) → y_Mg D D' → post none D') → Ga 107 [.ref 67, .int (nI w)] D post
set_option maxHeartbeats 4000000 in
theorem t_rmBead {N : Nat} {Ga : pm_Ga} (hnu : sp_number Ga) : sp_rmBead (pm_up N Ga) := by
  intro L p w T g e D post hw hL hp hTT hI hn hrow hM h
  obtain ⟨hG, hs, hl⟩ := hI
  obtain ⟨b1, b2, b3⟩ := y_b_in T hp
  obtain ⟨c1, c2, c3⟩ := y_b_in T b2
  obtain ⟨k1, k2, k3⟩ := y_b_in T c2
  generalize hnn : z_n g = n at hn
  have e24 : D 69 24 = nI n := by rw [hrow 24 (by decide), hG.1, hnn]
  have i24 : (24 : Int32).toNatClampNeg = 24 := rfl
  have hin24 : vp_in 24 52 := vp_in_nI (n := 24) (by decide) (by decide)
  refine ⟨rfl, fun X hX => ?_⟩
  replace hX : ∀ pc L st D, pm_F N Ga tbX5_readMore none post X pc L st D → X pc L st D := hX
  change X 0 [some (.ref 67), some (.int (nI w)), none, none] [] D
  repeat (refine hX _ _ _ _ ?_; conv => whnf)
  refine ⟨fun y => absurd y (nI_nlt (b := w) (a := 3) hw (by decide)), fun _ => ?_⟩
  repeat (refine hX _ _ _ _ ?_; conv => whnf)
  refine ⟨hin24, ?_⟩
  rw [i24, e24]
  repeat (refine hX _ _ _ _ ?_; conv => whnf)
  refine ⟨by decide, vp_in_nI (by omega) (by decide), ?_⟩
  rw [nI_clamp (by omega)]
  repeat (refine hX _ _ _ _ ?_; conv => whnf)
  rw [i_add 4 n 4 rfl]
  refine hnu L p T e 0 60 0 60 _ _ hL hp hTT rfl rfl (hM.mu n (nI w)) (fun D1 v1 q1 x1 x2 => ?_)
  have r1 : D1 69 = z_up (D 69) n (nI w) := by rw [x2.1 69 (by decide), y_mu_row]
  have g1 : y_Mg D D1 := (y_Mg.mu D n (nI w)).tr x2.g
  repeat (refine hX _ _ _ _ ?_; conv => whnf)
  refine ⟨by decide, vp_in_nI (by omega) (by decide), ?_⟩
  rw [nI_clamp (by omega)]
  repeat (refine hX _ _ _ _ ?_; conv => whnf)
  rw [i_add 8 n 8 rfl]
  refine hnu L (y_b L T p) T _ 0 9 0 9 _ _ hL b2 hTT rfl rfl (x1.mu (4 + n) v1) (fun D2 v2 q2 y1 y2 => ?_)
  have r2 : D2 69 = z_up (z_up (D 69) n (nI w)) (4 + n) v1 := by rw [y2.1 69 (by decide), y_mu_row, r1]
  have g2 : y_Mg D D2 := (g1.tr (y_Mg.mu D1 (4 + n) v1)).tr y2.g
  repeat (refine hX _ _ _ _ ?_; conv => whnf)
  refine ⟨by decide, vp_in_nI (by omega) (by decide), ?_⟩
  rw [nI_clamp (by omega)]
  repeat (refine hX _ _ _ _ ?_; conv => whnf)
  rw [i_add 12 n 12 rfl]
  refine hnu L (y_b L T (y_b L T p)) T _ 1 9 1 9 _ _ hL c2 hTT rfl rfl (y1.mu (8 + n) v2) (fun D3 v3 q3 z1 z2 => ?_)
  have r3 : D3 69 = z_up (z_up (z_up (D 69) n (nI w)) (4 + n) v1) (8 + n) v2 := by rw [z2.1 69 (by decide), y_mu_row, r2]
  have g3 : y_Mg D D3 := (g2.tr (y_Mg.mu D2 (8 + n) v2)).tr z2.g
  repeat (refine hX _ _ _ _ ?_; conv => whnf)
  refine ⟨by decide, vp_in_nI (by omega) (by decide), ?_⟩
  rw [nI_clamp (by omega)]
  have r4 : pm_mu D3 69 (12 + n) v3 69 = z_up (z_up (z_up (z_up (D 69) n (nI w)) (4 + n) v1) (8 + n) v2) (12 + n) v3 := by rw [y_mu_row, r3]
  have g4 : y_Mg D (pm_mu D3 69 (12 + n) v3) := g3.tr (y_Mg.mu D3 (12 + n) v3)
  have m4 := z1.mu (12 + n) v3
  generalize pm_mu D3 69 (12 + n) v3 = D4 at r4 g4 m4 ⊢
  have v4 : D4 69 (4 + n) = v1 := by
    rw [r4, z_up_ne _ _ (by omega), z_up_ne _ _ (by omega), z_up_at]
  have last : ∀ (x : Int32) (D5 : pm_Mem), D5 = pm_mu D4 69 (16 + n) (x + v1) → x = z_last g → X 104 [some (.ref 67), some (.int (nI w)), some (.int (nI n)), none] [] D5 := by
    intro x D5 hD5 hx
    have r5 : D5 69 = z_up (z_up (z_up (z_up (z_up (D 69) n (nI w)) (4 + n) v1) (8 + n) v2) (12 + n) v3) (16 + n) (x + v1) := by rw [hD5, y_mu_row, r4]
    have e5 : D5 69 24 = nI n := by
      rw [r5, z_up_ne _ _ (by omega), z_up_ne _ _ (by omega), z_up_ne _ _ (by omega), z_up_ne _ _ (by omega), z_up_ne _ _ (by omega)]
      exact e24
    have m5 := m4.mu (16 + n) (x + v1)
    rw [← hD5] at m5
    have g5 : y_Mg D D5 := by rw [hD5]; exact g4.tr (y_Mg.mu D4 (16 + n) (x + v1))
    repeat (refine hX _ _ _ _ ?_; conv => whnf)
    refine ⟨hin24, ?_⟩
    rw [i24, e5]
    repeat (refine hX _ _ _ _ ?_; conv => whnf)
    rw [nI_1]
    refine ⟨by decide, hin24, ?_⟩
    rw [i24]
    repeat (refine hX _ _ _ _ ?_; conv => whnf)
    refine h _ (m5.mu 24 (nI (n + 1))) (fun en => ?_) (g5.tr (y_Mg.mu D5 24 (nI (n + 1))))
    have en2 := y_rd_none (y_nb_none en)
    have en1 := y_rd_none (y_nb_none en2)
    have w1 := q1 en1
    have w2 := q2 en2
    have w3 := q3 en
    have en0 := y_nb_none en1
    subst en0
    have hv : z_in v1 0 60 := by
      rw [w1]
      unfold y_nb at en1
      by_cases qk : y_k L T p = 2
      · rw [if_pos qk] at en1
        by_cases qi : z_ib (y_v L T p) 0 60 = true
        · unfold y_vv
          rw [if_pos qk]
          exact z_ib_iff.mp qi
        · rw [if_neg qi] at en1
          cases en1
      · rw [if_neg qk] at en1
        cases en1
    have hm := (z_min_in hG hv).2 (by have := hv.2; omega)
    unfold y_row
    intro j hj
    rw [y_mu_row, r5, ← w1, ← w2, ← w3]
    exact y_bind_row (fun j hj => hrow j hj) hnn.symm hn (by rw [hx]; exact hm.symm) (hs _ (by omega) (by omega)) j hj
  repeat (refine hX _ _ _ _ ?_; conv => whnf)
  by_cases q0 : n = 0
  · have l0 : (0 : Int32) = z_last g := by unfold z_last; rw [if_pos (hnn.trans q0)]
    refine ⟨fun y => absurd (show nI n = 0 by rw [q0]; rfl) y, fun _ => ?_⟩
    repeat (refine hX _ _ _ _ ?_; conv => whnf)
    rw [i_add 4 n 4 rfl]
    refine ⟨vp_in_nI (by omega) (by decide), ?_⟩
    rw [nI_clamp (by omega), v4]
    repeat (refine hX _ _ _ _ ?_; conv => whnf)
    rw [i_add 16 n 16 rfl]
    refine ⟨by decide, vp_in_nI (by omega) (by decide), ?_⟩
    rw [nI_clamp (by omega)]
    exact last 0 _ rfl l0
  · have l0 : D4 69 (15 + n) = z_last g := by
      rw [r4, z_up_ne _ _ (by omega), z_up_ne _ _ (by omega), z_up_ne _ _ (by omega), z_up_ne _ _ (by omega), hrow _ (by omega)]
      unfold z_last
      rw [hnn, if_neg q0]
    refine ⟨fun _ => ?_, fun y => ?_⟩
    · repeat (refine hX _ _ _ _ ?_; conv => whnf)
      rw [i_add 16 n 16 rfl, show nI (16 + n) - 1 = nI (15 + n) by rw [show 16 + n = (15 + n) + 1 by omega, nI_pred]]
      refine ⟨vp_in_nI (by omega) (by decide), ?_⟩
      rw [nI_clamp (by omega)]
      repeat (refine hX _ _ _ _ ?_; conv => whnf)
      rw [i_add 4 n 4 rfl]
      refine ⟨vp_in_nI (by omega) (by decide), ?_⟩
      rw [nI_clamp (by omega), v4]
      repeat (refine hX _ _ _ _ ?_; conv => whnf)
      refine ⟨by decide, vp_in_nI (by omega) (by decide), ?_⟩
      rw [nI_clamp (by omega)]
      exact last _ _ rfl l0
    · rw [z_eq, z_tI (by omega)] at y
      have : (n : Int) = 0 := y
      omega
def sp_rmDrag (Ga : pm_Ga) : Prop := ∀ (L p : Nat) (T : Nat → Int32) (g : z_P) (e : Option (Nat × Nat)) (D : pm_Mem) (post : pm_Post), L ≤ 160 → p ≤ L → (∀ i, i < L → z_in (T i) 0 127) → y_row D g → y_M L T D p e → (∀ D', y_M L T D' (y_b L T p) (y_rd L T (y_b L T p) (y_nb L T 0 3 p e)) → (y_nb L T 0 3 p e = none → y_row D' (z_up g 50 (y_vv L T 0 p))) → y_Mg D D' → post none D') → Ga 107 [.ref 67, .int (nI 4)] D post
set_option maxHeartbeats 4000000 in
theorem t_rmDrag {N : Nat} {Ga : pm_Ga} (hnu : sp_number Ga) : sp_rmDrag (pm_up N Ga) := by
  intro L p T g e D post hL hp hTT hrow hM h
  have i50 : (50 : Int32).toNatClampNeg = 50 := rfl
  refine ⟨rfl, fun X hX => ?_⟩
  replace hX : ∀ pc L st D, pm_F N Ga tbX5_readMore none post X pc L st D → X pc L st D := hX
  change X 0 [some (.ref 67), some (.int (nI 4)), none, none] [] D
  repeat (refine hX _ _ _ _ ?_; conv => whnf)
  refine ⟨fun _ => ?_, fun h => absurd h (by decide)⟩
  repeat (refine hX _ _ _ _ ?_; conv => whnf)
  refine ⟨fun h => absurd h (by decide), fun _ => ?_⟩
  repeat (refine hX _ _ _ _ ?_; conv => whnf)
  refine hnu L p T e 0 3 0 3 _ _ hL hp hTT rfl rfl hM (fun D1 v1 q1 x1 x2 => ?_)
  repeat (refine hX _ _ _ _ ?_; conv => whnf)
  refine ⟨by decide, vp_in_nI (n := 50) (by decide) (by decide), ?_⟩
  rw [i50]
  repeat (refine hX _ _ _ _ ?_; conv => whnf)
  refine h _ (x1.mu 50 v1) (fun en => ?_) (x2.g.tr (y_Mg.mu D1 50 v1))
  intro j hj
  rw [y_mu_row, x2.1 69 (by decide), ← q1 en]
  unfold z_up
  split
  · rfl
  · exact hrow j hj
def sp_rmKnock (Ga : pm_Ga) : Prop := ∀ (L p w : Nat) (T : Nat → Int32) (g : z_P) (e : Option (Nat × Nat)) (D : pm_Mem) (post : pm_Post), (w = 5 ∨ w = 6) → L ≤ 160 → p ≤ L → (∀ i, i < L → z_in (T i) 0 127) → g 49 = nI (z_k g) → z_k g < 12 → y_row D g → y_M L T D p e → (∀ D', y_M L T D' (y_b L T (y_b L T p)) (y_rd L T (y_b L T (y_b L T p)) (y_nb L T 0 9 (y_b L T p) (y_rd L T (y_b L T p) (y_nb L T 0 3 p e)))) → ((y_nb L T 0 9 (y_b L T p) (y_rd L T (y_b L T p) (y_nb L T 0 3 p e))) = none → y_row D' (z_add1 g (y_vv L T 0 p) (if w = 6 then - y_vv L T 0 (y_b L T p) else y_vv L T 0 (y_b L T p)))) → y_Mg D D' → post none D') → Ga 107 [.ref 67, .int (nI w)] D post
set_option maxHeartbeats 4000000 in
theorem t_rmKnock {N : Nat} {Ga : pm_Ga} (hnu : sp_number Ga) : sp_rmKnock (pm_up N Ga) := by
  intro L p w T g e D post hw hL hp hTT hk49 hk hrow hM h
  obtain ⟨b1, b2, b3⟩ := y_b_in T hp
  generalize hnn : z_k g = n at hk hk49
  have e49 : D 69 49 = nI n := by rw [hrow 49 (by decide), hk49]
  have i49 : (49 : Int32).toNatClampNeg = 49 := rfl
  have hin49 : vp_in 49 52 := vp_in_nI (n := 49) (by decide) (by decide)
  refine ⟨rfl, fun X hX => ?_⟩
  replace hX : ∀ pc L st D, pm_F N Ga tbX5_readMore none post X pc L st D → X pc L st D := hX
  change X 0 [some (.ref 67), some (.int (nI w)), none, none] [] D
  repeat (refine hX _ _ _ _ ?_; conv => whnf)
  refine ⟨fun _ => ?_, fun y => absurd (nI_lt (a := 3) (b := w) (by omega) (by omega)) y⟩
  repeat (refine hX _ _ _ _ ?_; conv => whnf)
  refine ⟨fun _ => ?_, fun y => absurd ((y_w_eq (w := w) (k := 4) (by omega) (by decide)).mp y) (by omega)⟩
  repeat (refine hX _ _ _ _ ?_; conv => whnf)
  refine ⟨hin49, ?_⟩
  rw [i49, e49]
  repeat (refine hX _ _ _ _ ?_; conv => whnf)
  rw [i_add 25 n 25 rfl]
  refine hnu L p T e 0 3 0 3 _ _ hL hp hTT rfl rfl hM (fun D1 v1 q1 x1 x2 => ?_)
  repeat (refine hX _ _ _ _ ?_; conv => whnf)
  refine ⟨by decide, vp_in_nI (by omega) (by decide), ?_⟩
  rw [nI_clamp (by omega)]
  repeat (refine hX _ _ _ _ ?_; conv => whnf)
  refine hnu L (y_b L T p) T _ 0 9 0 9 _ _ hL b2 hTT rfl rfl (x1.mu (25 + n) v1) (fun D2 v2 q2 y1 y2 => ?_)
  have r2 : D2 69 = z_up (D 69) (25 + n) v1 := by rw [y2.1 69 (by decide), y_mu_row, x2.1 69 (by decide)]
  have g2 : y_Mg D D2 := (x2.g.tr (y_Mg.mu D1 (25 + n) v1)).tr y2.g
  have last : ∀ (x : Int32) (D5 : pm_Mem) (l3 : Option Value), D5 = pm_mu D2 69 (37 + n) x → x = (if w = 6 then - v2 else v2) → X 190 [some (.ref 67), some (.int (nI w)), some (.int (nI n)), l3] [] D5 := by
    intro x D5 l3 hD5 hx
    have r5 : D5 69 = z_up (z_up (D 69) (25 + n) v1) (37 + n) x := by rw [hD5, y_mu_row, r2]
    have e5 : D5 69 49 = nI n := by
      rw [r5, z_up_ne _ _ (by omega), z_up_ne _ _ (by omega)]
      exact e49
    have m5 := y1.mu (37 + n) x
    rw [← hD5] at m5
    have g5 : y_Mg D D5 := by rw [hD5]; exact g2.tr (y_Mg.mu D2 (37 + n) x)
    repeat (refine hX _ _ _ _ ?_; conv => whnf)
    refine ⟨hin49, ?_⟩
    rw [i49, e5]
    repeat (refine hX _ _ _ _ ?_; conv => whnf)
    rw [nI_1]
    refine ⟨by decide, hin49, ?_⟩
    rw [i49]
    repeat (refine hX _ _ _ _ ?_; conv => whnf)
    refine h _ (m5.mu 49 (nI (n + 1))) (fun en => ?_) (g5.tr (y_Mg.mu D5 49 (nI (n + 1))))
    have en1 := y_rd_none (y_nb_none en)
    intro j hj
    rw [y_mu_row, r5, ← q1 en1, ← q2 en, ← hx]
    exact y_add1_row (fun j hj => hrow j hj) hnn.symm hk j hj
  repeat (refine hX _ _ _ _ ?_; conv => whnf)
  rw [i_add 37 n 37 rfl]
  rcases hw with rfl | rfl
  · refine ⟨fun h => absurd h (by decide), fun _ => ?_⟩
    repeat (refine hX _ _ _ _ ?_; conv => whnf)
    refine ⟨by decide, vp_in_nI (by omega) (by decide), ?_⟩
    rw [nI_clamp (by omega)]
    exact last _ _ _ rfl rfl
  · refine ⟨fun _ => ?_, fun h => absurd h (by decide)⟩
    repeat (refine hX _ _ _ _ ?_; conv => whnf)
    refine ⟨by decide, vp_in_nI (by omega) (by decide), ?_⟩
    rw [nI_clamp (by omega)]
    exact last _ _ _ rfl rfl
