/-! ===== the text: the reference, all of it ===== -/
set_option maxHeartbeats 4000000 in
theorem t_m_text {N : Nat} {Ga : pm_Ga} (hro : sp_readsOn Ga) (hrl : sp_readLine Ga) : ms0 (pm_up N Ga) 109 r_text := by
  intro z D post hz hM h
  obtain ⟨k1, k2, k3, k4, k5, k6, k7⟩ := hM
  have hL : zL z ≤ 160 := hz.2.2.2.1.1
  have hTT : ∀ i, i < zL z → z_in (zT z i) 0 127 := hz.2.2.2.1.2
  unfold r_text at h
  generalize hgo : y_go (zL z) (zT z) (zL z + 1) 0 (fun _ => 0) false 0 = go at h
  refine ⟨rfl, fun X hX => ?_⟩
  replace hX : ∀ pc L st D, pm_F N Ga tbX5_text (some .int) post X pc L st D → X pc L st D := hX
  change X 0 [some (.ref 67), none, none] [] D
  have M5s : ∀ D' : pm_Mem, (∀ r, 77 ≤ r → r < 80 → D' r = D r) → ∀ k, k < 4 → (zH z k = none → D' 77 k = -4) ∧ ∀ a n, zH z k = some (a, n) → D' 78 k = nI n ∧ D' 77 k = nI a ∧ ∀ i, i < n → D' 79 (40 * k + i) = zE z k i := by
    intro D' hf k hk
    rw [hf 77 (by decide) (by decide), hf 78 (by decide) (by decide), hf 79 (by decide) (by decide)]
    exact k5 k hk
  have M7s : ∀ D' : pm_Mem, (∀ r, 71 ≤ r → r < 73 → D' r = D r) → M7 D' := by
    intro D' hf
    unfold M7
    rw [hf 71 (by decide) (by decide), hf 72 (by decide) (by decide)]
    exact k7
  have c66 : ∀ (D1 : pm_Mem) (e : Option (Nat × Nat)) (g : z_P) (n : Nat) (v : Int32) (l2 : Option Value), go = (e, g, n) → y_Me D1 e → (e = none → y_row D1 g ∧ v = nI n) → y_Mh D D1 → X 66 [some (.ref 67), some (.int v), l2] [] D1 := by
    intro D1 e g n v l2 he n1 n2 n3
    rw [he] at h
    repeat (refine hX _ _ _ _ ?_; conv => whnf)
    rw [pm_mu_k _ _ _ _ (by decide), pm_mu_k _ _ _ _ (by decide)]
    have f4 : pm_mu (pm_mu D1 67 4 0) 67 5 (D1 67 6) 67 4 = 0 := by rw [pm_mu_k _ _ _ _ (by decide), pm_mu_at]
    have f5 : pm_mu (pm_mu D1 67 4 0) 67 5 (D1 67 6) 67 5 = D1 67 6 := pm_mu_at _ _ _ _
    have fk : ∀ k, k ≠ 4 → k ≠ 5 → pm_mu (pm_mu D1 67 4 0) 67 5 (D1 67 6) 67 k = D1 67 k := fun k h4 h5 => by rw [pm_mu_k _ _ _ _ h5, pm_mu_k _ _ _ _ h4]
    have fr : ∀ r, r ≠ 67 → pm_mu (pm_mu D1 67 4 0) 67 5 (D1 67 6) r = D1 r := fun r hr => by rw [pm_mu_ne _ _ _ hr, pm_mu_ne _ _ _ hr]
    generalize pm_mu (pm_mu D1 67 4 0) 67 5 (D1 67 6) = D2 at f4 f5 fk fr ⊢
    cases e with
    | some x =>
      obtain ⟨x1, x2, x3, x4⟩ := n1.2 x.1 x.2 rfl
      refine ⟨fun y => ?_, fun _ => ?_⟩
      · have := n1.le.mp y
        cases this
      repeat (refine hX _ _ _ _ ?_; conv => whnf)
      rw [fk 7 (by decide) (by decide), x2]
      have dd : ∀ r, r ≠ 67 → r ≠ 69 → D2 r = D r := fun r h1 h2 => by rw [fr r h1]; exact n3.1 r h1 h2
      have dk : ∀ k, 12 ≤ k → D2 67 k = D 67 k := fun k hk => by rw [fk k (by omega) (by omega)]; exact n3.2 k (by omega)
      have e68 := dd 68 (by decide) (by decide)
      refine h D2 ⟨?_, ⟨?_, ?_, fun q => ?_, fun q => ?_⟩, ⟨f4, fun i hi => absurd hi (Nat.not_lt_zero _), by rw [f5]; exact x1⟩, ⟨?_, fun i hi => ?_⟩, M5s D2 (fun r h1 h2 => dd r (by omega) (by omega)), ⟨?_, ?_⟩, M7s D2 (fun r h1 h2 => dd r (by omega) (by omega))⟩ (fun r hr => dd r (by omega) (by omega))
      · exact z_M.same k1 (fun k _ _ => by rw [e68])
      · rw [dd 76 (by decide) (by decide)]; exact k2.1
      · rw [dd 76 (by decide) (by decide)]; exact k2.2.1
      · exact z_M.same (k2.2.2.1 q) (fun k _ _ => by rw [e68])
      · exact z_M.same (k2.2.2.2 q) (fun k _ _ => by rw [e68])
      · rw [dk 21 (by decide)]; exact k4.1
      · rw [dd 74 (by decide) (by decide)]; exact k4.2 i hi
      · rw [dk 27 (by decide)]; exact k6.1
      · rw [dk 19 (by decide)]; exact k6.2
    | none =>
      obtain ⟨hrow, hv⟩ := n2 rfl
      refine ⟨fun _ => ?_, fun y => absurd (n1.le.mpr rfl) y⟩
      have cp : ∀ (m k : Nat) (D3 : pm_Mem), k + m = 52 → (∀ r, r ≠ 68 → D3 r = D2 r) → (∀ j, j < k → D3 68 j = g j) → X 96 [some (.ref 67), some (.int v), some (.int (nI k))] [] D3 := by
        intro m
        induction m with
        | zero =>
          intro k D3 hk d1 d2
          have hk : k = 52 := by omega
          subst hk
          repeat (refine hX _ _ _ _ ?_; conv => whnf)
          refine ⟨fun _ => ?_, fun h => absurd h (by decide)⟩
          repeat (refine hX _ _ _ _ ?_; conv => whnf)
          refine ⟨by decide, vp_in_nI (n := 0) (by decide) (by decide), ?_⟩
          repeat (refine hX _ _ _ _ ?_; conv => whnf)
          refine ⟨by decide, vp_in_nI (n := 1) (by decide) (by decide), ?_⟩
          repeat (refine hX _ _ _ _ ?_; conv => whnf)
          have n0 : vp_nar .boolean 0 = 0 := by decide
          have i0 : (0 : Int32).toNatClampNeg = 0 := rfl
          have i1 : (1 : Int32).toNatClampNeg = 1 := rfl
          rw [n0, i0, i1, hv]
          have ff : ∀ r, r ≠ 67 → r ≠ 76 → pm_mu (pm_mu (pm_mu D3 67 21 0) 76 0 0) 76 1 0 r = D3 r := fun r h1 h2 => by rw [pm_mu_ne _ _ _ h2, pm_mu_ne _ _ _ h2, pm_mu_ne _ _ _ h1]
          have f7 : ∀ k, k ≠ 21 → pm_mu (pm_mu (pm_mu D3 67 21 0) 76 0 0) 76 1 0 67 k = D3 67 k := fun k hk => by rw [pm_mu_r _ _ _ _ (by decide), pm_mu_r _ _ _ _ (by decide), pm_mu_k _ _ _ _ hk]
          have dd : ∀ r, r ≠ 67 → r ≠ 68 → r ≠ 69 → r ≠ 76 → pm_mu (pm_mu (pm_mu D3 67 21 0) 76 0 0) 76 1 0 r = D r := fun r h1 h2 h3 h4 => by rw [ff r h1 h4, d1 r h2, fr r h1]; exact n3.1 r h1 h3
          have dk : ∀ k, 12 ≤ k → k ≠ 21 → pm_mu (pm_mu (pm_mu D3 67 21 0) 76 0 0) 76 1 0 67 k = D 67 k := fun k hk h21 => by rw [f7 k h21, d1 67 (by decide), fk k (by omega) (by omega)]; exact n3.2 k (by omega)
          refine h _ ⟨?_, ⟨?_, ?_, (fun q => by cases q), (fun q => by cases q)⟩, ⟨?_, fun i hi => absurd hi (Nat.not_lt_zero _), ?_⟩, ⟨?_, fun i hi => absurd hi (Nat.not_lt_zero _)⟩, M5s _ (fun r h1 h2 => dd r (by omega) (by omega) (by omega) (by omega)), ⟨?_, ?_⟩, M7s _ (fun r h1 h2 => dd r (by omega) (by omega) (by omega) (by omega))⟩ (fun r hr => dd r (by omega) (by omega) (by omega) (by omega))
          · intro j hj
            rw [Nat.zero_add, ff 68 (by decide) (by decide)]
            exact d2 j hj
          · rw [pm_mu_k _ _ _ _ (by decide), pm_mu_at]; rfl
          · rw [pm_mu_at]; rfl
          · rw [f7 4 (by decide), d1 67 (by decide), f4]; rfl
          · rw [f7 5 (by decide), d1 67 (by decide), f5]; exact n1.1 rfl
          · rw [pm_mu_r _ _ _ _ (by decide), pm_mu_r _ _ _ _ (by decide), pm_mu_at]; rfl
          · rw [dk 27 (by decide) (by decide)]; exact k6.1
          · rw [dk 19 (by decide) (by decide)]; exact k6.2
        | succ m ih =>
          intro k D3 hk d1 d2
          repeat (refine hX _ _ _ _ ?_; conv => whnf)
          refine ⟨fun y => absurd y (nI_ge (b := 52) (by omega) (by omega)), fun _ => ?_⟩
          repeat (refine hX _ _ _ _ ?_; conv => whnf)
          refine ⟨vp_in_nI (by omega) (by decide), ?_⟩
          rw [nI_clamp (by omega)]
          repeat (refine hX _ _ _ _ ?_; conv => whnf)
          refine ⟨by decide, vp_in_nI (by omega) (by decide), ?_⟩
          rw [nI_clamp (by omega)]
          iterate 2 (refine hX _ _ _ _ ?_; conv => whnf)
          rw [nI_1]
          refine ih (k + 1) _ (by omega) (fun r hr => by rw [pm_mu_ne _ _ _ hr]; exact d1 r hr) (fun j hj => ?_)
          by_cases q : j = k
          · subst q
            rw [pm_mu_at, d1 69 (by decide), fr 69 (by decide)]
            exact hrow j (by omega)
          · rw [pm_mu_k _ _ _ _ q]
            exact d2 j (by omega)
      iterate 2 (refine hX _ _ _ _ ?_; conv => whnf)
      exact cp 52 0 D2 (by omega) (fun _ _ => rfl) (fun j hj => absurd hj (Nat.not_lt_zero _))
  have loop : ∀ (m p : Nat) (g : z_P) (dt : Bool) (n : Nat) (D1 : pm_Mem) (l2 : Option Value), zL z < p + m → p ≤ zL z → n ≤ p → y_I g → go = y_go (zL z) (zT z) m p g dt n → y_M (zL z) (zT z) D1 p (y_rd (zL z) (zT z) p none) → y_row D1 g → D1 67 2 = z_bi dt → y_Mh D D1 → X 42 [some (.ref 67), some (.int (nI n)), l2] [] D1 := by
    intro m
    induction m with
    | zero => intro p g dt n D1 l2 hm hp; omega
    | succ m ih =>
      intro p g dt n D1 l2 hm hp hn hI he c1 c2 c3 c4
      have eg : y_go (zL z) (zT z) (m + 1) p g dt n = if y_k (zL z) (zT z) p = 4 then (none, g, n) else match y_line (zL z) (zT z) p g dt with
        | (some x, _, _, _) => (some x, g, n)
        | (none, g', dt', p') => y_go (zL z) (zT z) m p' g' dt' (n + 1) := rfl
      rw [eg] at he
      repeat (refine hX _ _ _ _ ?_; conv => whnf)
      refine ⟨fun y => ?_, fun y => ?_⟩
      · have k0 : y_k (zL z) (zT z) p = 0 := by
          by_cases q : y_k (zL z) (zT z) p = 0
          · exact q
          · rw [y_rd_n _ q] at c1
            exact absurd (c1.2.1.e0.mpr rfl) y
        have er : y_rd (zL z) (zT z) p none = some (1, y_f (zL z) (zT z) p) := by unfold y_rd; rw [if_pos k0]; rfl
        have ew : y_wd (zL z) (zT z) p = 7 := by unfold y_wd; rw [if_neg (by rw [k0]; decide)]
        have ly : y_line (zL z) (zT z) p g dt = (some (1, y_f (zL z) (zT z) p), g, dt, y_b (zL z) (zT z) p) := by unfold y_line; rw [if_pos ew, er]; rfl
        rw [if_neg (by rw [k0]; decide), ly] at he
        rw [er] at c1
        exact c66 D1 _ g n _ l2 he c1.2.1 (fun q => by cases q) c4
      · have er := c1.2.1.e0.mp y
        have k0 : y_k (zL z) (zT z) p ≠ 0 := fun q => by unfold y_rd at er; rw [if_pos q] at er; cases er
        rw [er] at c1
        obtain ⟨s1, s2, s3, s4⟩ := c1.2.2 rfl
        repeat (refine hX _ _ _ _ ?_; conv => whnf)
        rw [s3]
        by_cases q4 : y_k (zL z) (zT z) p = 4
        · rw [if_pos q4] at he
          rw [q4]
          refine ⟨fun _ => ?_, fun h => absurd h (by decide)⟩
          exact c66 D1 none g n _ l2 he c1.2.1 (fun _ => ⟨c2, rfl⟩) c4
        · rw [if_neg q4] at he
          have t0 : ¬ nI (y_tm (y_k (zL z) (zT z) p)) = 0 := by
            unfold y_tm
            rw [if_neg q4]
            intro y
            exact k0 ((y_k_eq (k := 0) (by decide)).mp y)
          refine ⟨fun y => absurd y t0, fun _ => ?_⟩
          repeat (refine hX _ _ _ _ ?_; conv => whnf)
          refine hrl (zL z) p (zT z) g dt D1 _ hL hp hTT (M7s D1 (fun r h1 h2 => c4.1 r (by omega) (by omega))) hI c2 k0 c3 c1 (fun D2 e g' dt' p' ey f1 f2 f3 => ?_)
          rw [ey] at he
          have hpp := y_line_p (L := zL z) (T := zT z) (p := p) (g := g) (dt := dt) hp
          have hII := y_line_I (L := zL z) (T := zT z) (p := p) (g := g) (dt := dt) hI
          rw [ey] at hpp hII
          have hp1 : p' ≤ zL z := hpp.1
          have hp2 : p < p' := hpp.2 q4
          iterate 2 (refine hX _ _ _ _ ?_; conv => whnf)
          rw [nI_1]
          cases e with
          | none => exact ih p' g' dt' (n + 1) D2 l2 (by omega) hp1 (by omega) (hII rfl) he f1 (f2 rfl).1 (f2 rfl).2 (c4.tr f3)
          | some x =>
            rw [y_rd_s] at f1
            repeat (refine hX _ _ _ _ ?_; conv => whnf)
            refine ⟨fun _ => ?_, fun y => ?_⟩
            · exact c66 D2 _ _ _ _ l2 he f1.2.1 (fun q => by cases q) (c4.tr f3)
            · have := f1.2.1.e0.mp y
              cases this
  iterate 8 (refine hX _ _ _ _ ?_; conv => whnf)
  iterate 1 (refine hX _ _ _ _ ?_; conv => whnf)
  refine ⟨Or.inl rfl, ?_⟩
  iterate 4 (refine hX _ _ _ _ ?_; conv => whnf)
  have u6 : pm_mu (pm_mu (pm_mu D 67 6 0) 67 8 0) 67 2 0 67 6 = 0 := by rw [pm_mu_k _ _ _ _ (by decide), pm_mu_k _ _ _ _ (by decide), pm_mu_at]
  have u8 : pm_mu (pm_mu (pm_mu D 67 6 0) 67 8 0) 67 2 0 67 8 = 0 := by rw [pm_mu_k _ _ _ _ (by decide), pm_mu_at]
  have u2 : pm_mu (pm_mu (pm_mu D 67 6 0) 67 8 0) 67 2 0 67 2 = 0 := pm_mu_at _ _ _ _
  have uk : ∀ k, k ≠ 6 → k ≠ 8 → k ≠ 2 → pm_mu (pm_mu (pm_mu D 67 6 0) 67 8 0) 67 2 0 67 k = D 67 k := fun k h6 h8 h2 => by rw [pm_mu_k _ _ _ _ h2, pm_mu_k _ _ _ _ h8, pm_mu_k _ _ _ _ h6]
  have ur : ∀ r, r ≠ 67 → pm_mu (pm_mu (pm_mu D 67 6 0) 67 8 0) 67 2 0 r = D r := fun r hr => by rw [pm_mu_ne _ _ _ hr, pm_mu_ne _ _ _ hr, pm_mu_ne _ _ _ hr]
  generalize pm_mu (pm_mu (pm_mu D 67 6 0) 67 8 0) 67 2 0 = D0 at u6 u8 u2 uk ur ⊢
  have clr : ∀ (m k : Nat) (D1 : pm_Mem), k + m = 52 → (∀ r, r ≠ 69 → D1 r = D0 r) → (∀ j, j < k → D1 69 j = 0) → X 19 [some (.ref 67), some (.int 0), some (.int (nI k))] [] D1 := by
    intro m
    induction m with
    | zero =>
      intro k D1 hk d1 d2
      have hk : k = 52 := by omega
      subst hk
      repeat (refine hX _ _ _ _ ?_; conv => whnf)
      refine ⟨fun _ => ?_, fun h => absurd h (by decide)⟩
      repeat (refine hX _ _ _ _ ?_; conv => whnf)
      have e67 := d1 67 (by decide)
      refine hro (zL z) 0 (zT z) none D1 _ hL (Nat.zero_le _) hTT ⟨by rw [e67, uk 4 (by decide) (by decide) (by decide)]; exact k3.1, fun i hi => by rw [d1 70 (by decide), ur 70 (by decide)]; exact k3.2.1 i hi⟩ ⟨fun _ => by rw [e67]; exact u6, fun _ _ y => by cases y⟩ (fun _ => by rw [e67]; exact u8) (fun D2 x1 x2 => ?_)
      refine loop (zL z + 1) 0 (fun _ => 0) false 0 D2 _ (by omega) (by omega) (by omega) y_I_0 hgo.symm x1 (fun j hj => by rw [x2.1 69 (by decide)]; exact d2 j hj) ?_ ⟨fun r h1 h2 => ?_, fun k hk => ?_⟩
      · rw [x2.2 2 (by omega), e67]; exact u2
      · rw [x2.1 r h1, d1 r h2]; exact ur r h1
      · rw [x2.2 k (by omega), e67]; exact uk k (by omega) (by omega) (by omega)
    | succ m ih =>
      intro k D1 hk d1 d2
      repeat (refine hX _ _ _ _ ?_; conv => whnf)
      refine ⟨fun y => absurd y (nI_ge (b := 52) (by omega) (by omega)), fun _ => ?_⟩
      repeat (refine hX _ _ _ _ ?_; conv => whnf)
      refine ⟨by decide, vp_in_nI (by omega) (by decide), ?_⟩
      rw [nI_clamp (by omega)]
      iterate 2 (refine hX _ _ _ _ ?_; conv => whnf)
      rw [nI_1]
      refine ih (k + 1) _ (by omega) (fun r hr => by rw [pm_mu_ne _ _ _ hr]; exact d1 r hr) (fun j hj => ?_)
      by_cases q : j = k
      · subst q
        exact pm_mu_at _ _ _ _
      · rw [pm_mu_k _ _ _ _ q]
        exact d2 j (by omega)
  exact clr 52 0 D0 (by omega) (fun _ _ => rfl) (fun j hj => absurd hj (Nat.not_lt_zero _))
