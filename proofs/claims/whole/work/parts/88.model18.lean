/-! ===== the text: the reference reads a TOKEN ===== -/
def sp_readsOn (Ga : pm_Ga) : Prop := ∀ (L p : Nat) (T : Nat → Int32) (e : Option (Nat × Nat)) (D : pm_Mem) (post : pm_Post), L ≤ 160 → p ≤ L → (∀ i, i < L → z_in (T i) 0 127) → y_Ms L T D → y_Me D e → (e = none → D 67 8 = nI p) → (∀ D', y_M L T D' p (y_rd L T p e) → y_Mf D D' → post none D') → Ga 105 [.ref 67] D post
set_option maxHeartbeats 4000000 in
theorem t_readsOn {N : Nat} {Ga : pm_Ga} (hby : sp_byteAt Ga) (hin : sp_in Ga) (hfa : sp_fails Ga) : sp_readsOn (pm_up N Ga) := by
  intro L p T e D post hL hp hTT hM hE h8 h
  obtain ⟨f1, f2⟩ := y_f_in T hp
  obtain ⟨b1, b2, b3⟩ := y_b_in T hp
  refine ⟨rfl, fun X hX => ?_⟩
  replace hX : ∀ pc L st D, pm_F N Ga tbX5_readsOn none post X pc L st D → X pc L st D := hX
  change X 0 [some (.ref 67), none] [] D
  repeat (refine hX _ _ _ _ ?_; conv => whnf)
  cases e with
  | some x =>
    refine ⟨fun y => ?_, fun _ => ?_⟩
    · have := hE.le.mp y
      cases this
    · repeat (refine hX _ _ _ _ ?_; conv => whnf)
      refine h D ⟨hM, by rw [y_rd_s]; exact hE, fun y => ?_⟩ (y_Mf.rf D)
      rw [y_rd_s] at y
      cases y
  | none =>
    have h8 := h8 rfl
    have hE6 : D 67 6 = 0 := hE.1 rfl
    refine ⟨fun _ => ?_, fun y => absurd (hE.le.mpr rfl) y⟩
    -- the end: token, spot, value stand
    have fin : ∀ (D3 : pm_Mem) (l1 : Option Value), y_Mf D D3 → D3 67 6 = D 67 6 → y_Mt L T D3 p → y_k L T p ≠ 0 → X 269 [some (.ref 67), l1] [] D3 := by
      intro D3 l1 c1 c2 c3 ck
      repeat (refine hX _ _ _ _ ?_; conv => whnf)
      have er := y_rd_n (L := L) (T := T) (p := p) none ck
      refine h D3 ⟨hM.F c1, ?_, fun _ => c3⟩ c1
      rw [er]
      exact ⟨fun _ => by rw [c2]; exact hE6, fun _ _ y => by cases y⟩
    -- the end: no TOKEN
    have bad : ∀ (pc : Nat) (D3 : pm_Mem) (l1 : Option Value), (pc = 240 ∨ pc = 269) → y_Mf D D3 → D3 67 6 = D 67 6 → D3 67 9 = nI (y_f L T p) → y_k L T p = 0 → Ga 103 [.ref 67, .int 1] D3 (fun r D => X pc [some (.ref 67), l1] (r.toList ++ []) D) := by
      intro pc D3 l1 hpc c1 c2 c9 ck
      refine hfa none (y_f L T p) 1 D3 _ ⟨fun _ => by rw [c2]; exact hE6, fun _ _ y => by cases y⟩ (fun _ => c9) (by decide) (by decide) (fun D4 d1 d2 d3 => ?_)
      have er : y_rd L T p none = some (1, y_f L T p) := by unfold y_rd; rw [if_pos ck]; rfl
      have hf : y_Mf D D4 := c1.tr ⟨d2, fun k hk => d3 k (by omega) (by omega)⟩
      have hh := h D4 ⟨hM.F hf, by rw [er]; exact d1, fun y => by rw [er] at y; cases y⟩ hf
      rcases hpc with rfl | rfl
      · repeat (refine hX _ _ _ _ ?_; conv => whnf)
        exact hh
      · repeat (refine hX _ _ _ _ ?_; conv => whnf)
        exact hh
    have tok : ∀ (D2 : pm_Mem), (∀ r, r ≠ 67 → D2 r = D r) → (∀ k, k ≠ 8 → D2 67 k = D 67 k) → D2 67 8 = nI (y_f L T p) → X 34 [some (.ref 67), none] [] D2 := by
      intro D2 c1 c2 c8
      have hM2 : y_Ms L T D2 := ⟨by rw [c2 4 (by decide)]; exact hM.1, fun i hi => by rw [c1 70 (by decide)]; exact hM.2 i hi⟩
      -- a memory in which the fields 8 to 11 alone differ
      have fr : ∀ (D3 : pm_Mem), (∀ r, r ≠ 67 → D3 r = D r) → (∀ k, k ≠ 8 → k ≠ 9 → k ≠ 10 → k ≠ 11 → D3 67 k = D 67 k) → y_Mf D D3 ∧ D3 67 6 = D 67 6 ∧ y_Ms L T D3 := fun D3 x1 x2 => ⟨⟨x1, fun k hk => x2 k (by omega) (by omega) (by omega) (by omega)⟩, x2 6 (by decide) (by decide) (by decide) (by decide), ⟨by rw [x2 4 (by decide) (by decide) (by decide) (by decide)]; exact hM.1, fun i hi => by rw [x1 70 (by decide)]; exact hM.2 i hi⟩⟩
      repeat (refine hX _ _ _ _ ?_; conv => whnf)
      rw [c8, pm_mu_k _ _ _ _ (by decide), c8]
      refine hby L (y_f L T p) T _ _ hL (by omega) ⟨by rw [pm_mu_k _ _ _ _ (by decide)]; exact hM2.1, fun i hi => by rw [pm_mu_r _ _ _ _ (by decide)]; exact hM2.2 i hi⟩ ?_
      change X 50 _ [.int (y_c L T p)] _
      repeat (refine hX _ _ _ _ ?_; conv => whnf)
      have e0 : ∀ r, r ≠ 67 → pm_mu (pm_mu D2 67 9 (nI (y_f L T p))) 67 11 0 r = D r := fun r hr => by rw [pm_mu_ne _ _ _ hr, pm_mu_ne _ _ _ hr]; exact c1 r hr
      have e1 : ∀ k, k ≠ 8 → k ≠ 9 → k ≠ 10 → k ≠ 11 → pm_mu (pm_mu D2 67 9 (nI (y_f L T p))) 67 11 0 67 k = D 67 k := fun k h8 h9 h10 h11 => by rw [pm_mu_k _ _ _ _ h11, pm_mu_k _ _ _ _ h9]; exact c2 k h8
      have e8 : pm_mu (pm_mu D2 67 9 (nI (y_f L T p))) 67 11 0 67 8 = nI (y_f L T p) := by rw [pm_mu_k _ _ _ _ (by decide), pm_mu_k _ _ _ _ (by decide)]; exact c8
      have e9 : pm_mu (pm_mu D2 67 9 (nI (y_f L T p))) 67 11 0 67 9 = nI (y_f L T p) := by rw [pm_mu_k _ _ _ _ (by decide), pm_mu_at]
      have e11 : pm_mu (pm_mu D2 67 9 (nI (y_f L T p))) 67 11 0 67 11 = 0 := pm_mu_at _ _ _ _
      generalize pm_mu (pm_mu D2 67 9 (nI (y_f L T p))) 67 11 0 = D3 at e0 e1 e8 e9 e11 ⊢
      by_cases q : y_f L T p < L
      · have ec := y_c_at q
        have c4 : y_c L T p ≠ -4 := fun y => by
          have := (hTT _ q).1
          rw [← ec, y] at this
          exact absurd this (by decide)
        refine ⟨fun _ => ?_, fun y => absurd y c4⟩
        repeat (refine hX _ _ _ _ ?_; conv => whnf)
        refine m_ib hin 97 122 rfl rfl (fun ql => ?_) (fun ql => ?_)
        · have eb : y_b L T p = y_end y_le L T (y_f L T p) := if_pos ql
          have ek : y_k L T p = 1 := by unfold y_k; rw [if_pos q]; exact if_pos ql
          repeat (refine hX _ _ _ _ ?_; conv => whnf)
          refine ⟨fun h => absurd h (by decide), fun _ => ?_⟩
          have names : ∀ (m i : Nat) (D4 : pm_Mem), i + m = L + 1 → i ≤ L → y_b L T p = y_end y_le L T i → (∀ r, r ≠ 67 → D4 r = D r) → (∀ k, k ≠ 8 → k ≠ 9 → k ≠ 10 → k ≠ 11 → D4 67 k = D 67 k) → D4 67 8 = nI i → D4 67 9 = nI (y_f L T p) → X 84 [some (.ref 67), some (.int (y_c L T p))] [] D4 := by
            intro m
            induction m with
            | zero => intro i D4 h1 h2; omega
            | succ m ih =>
              intro i D4 hi hiL hb x0 x1 x8 x9
              obtain ⟨y1, y2, y3⟩ := fr D4 x0 x1
              repeat (refine hX _ _ _ _ ?_; conv => whnf)
              rw [x8]
              refine hby L i T D4 _ hL (by omega) y3 ?_
              repeat (refine hX _ _ _ _ ?_; conv => whnf)
              refine m_ib hin 97 122 rfl rfl (fun qq => ?_) (fun qq => ?_)
              · have hg := y_end_go (P := y_le) (L := L) (T := T) (p := i) y_le4 qq
                repeat (refine hX _ _ _ _ ?_; conv => whnf)
                refine ⟨fun h => absurd h (by decide), fun _ => ?_⟩
                iterate 7 (refine hX _ _ _ _ ?_; conv => whnf)
                refine ih (i + 1) _ (by omega) (by omega) (hb.trans hg.2) (fun r hr => ?_) (fun k h8 h9 h10 h11 => ?_) ?_ ?_
                · rw [pm_mu_ne _ _ _ hr]; exact x0 r hr
                · rw [pm_mu_k _ _ _ _ h8]; exact x1 k h8 h9 h10 h11
                · rw [pm_mu_at, x8, nI_1]
                · rw [pm_mu_k _ _ _ _ (by decide)]; exact x9
              · have hg := y_end_stop (P := y_le) (L := L) (T := T) (p := i) qq
                repeat (refine hX _ _ _ _ ?_; conv => whnf)
                refine ⟨fun _ => ?_, fun h => absurd h (by decide)⟩
                iterate 4 (refine hX _ _ _ _ ?_; conv => whnf)
                obtain ⟨w1, w2, w3⟩ := fr (pm_mu D4 67 10 1) (fun r hr => by rw [pm_mu_ne _ _ _ hr]; exact x0 r hr) (fun k h8 h9 h10 h11 => by rw [pm_mu_k _ _ _ _ h10]; exact x1 k h8 h9 h10 h11)
                refine fin _ _ w1 w2 ⟨?_, ?_, ?_, fun y => ?_⟩ (by rw [ek]; decide)
                · rw [pm_mu_k _ _ _ _ (by decide)]; exact x9
                · rw [pm_mu_k _ _ _ _ (by decide), hb, hg]; exact x8
                · rw [pm_mu_at, ek]; rfl
                · rw [ek] at y; cases y
          exact names (L + 1 - y_f L T p) (y_f L T p) D3 (by omega) f2 eb e0 e1 e8 e9
        · have ql' : ¬ y_le (y_c L T p) = true := fun y => by
            have y : z_ib (y_c L T p) 97 122 = true := y
            rw [ql] at y
            cases y
          repeat (refine hX _ _ _ _ ?_; conv => whnf)
          refine ⟨fun _ => ?_, fun h => absurd h (by decide)⟩
          repeat (refine hX _ _ _ _ ?_; conv => whnf)
          refine m_ib hin 48 57 rfl rfl (fun qf => ?_) (fun qf => ?_)
          · have eb : y_b L T p = y_end y_fi L T (y_f L T p) := by unfold y_b; rw [if_neg ql']; exact if_pos qf
            have ek : y_k L T p = if y_b L T p - y_f L T p ≤ 2 then 2 else 0 := by unfold y_k; rw [if_pos q, if_neg ql']; exact if_pos qf
            repeat (refine hX _ _ _ _ ?_; conv => whnf)
            refine ⟨fun h => absurd h (by decide), fun _ => ?_⟩
            have figs : ∀ (m i : Nat) (D4 : pm_Mem), i + m = L + 1 → i ≤ L → y_f L T p ≤ i → y_b L T p = y_end y_fi L T i → (∀ r, r ≠ 67 → D4 r = D r) → (∀ k, k ≠ 8 → k ≠ 9 → k ≠ 10 → k ≠ 11 → D4 67 k = D 67 k) → D4 67 8 = nI i → D4 67 9 = nI (y_f L T p) → D4 67 11 = y_nv T (y_f L T p) (min 2 (i - y_f L T p)) → X 140 [some (.ref 67), some (.int (y_c L T p))] [] D4 := by
              intro m
              induction m with
              | zero => intro i D4 h1 h2; omega
              | succ m ih =>
                intro i D4 hi hiL hfi hb x0 x1 x8 x9 x11
                obtain ⟨y1, y2, y3⟩ := fr D4 x0 x1
                repeat (refine hX _ _ _ _ ?_; conv => whnf)
                rw [x8]
                refine hby L i T D4 _ hL (by omega) y3 ?_
                repeat (refine hX _ _ _ _ ?_; conv => whnf)
                refine m_ib hin 48 57 rfl rfl (fun qq => ?_) (fun qq => ?_)
                · have hg := y_end_go (P := y_fi) (L := L) (T := T) (p := i) y_fi4 qq
                  have eby : y_by L T i = T i := if_pos hg.1
                  repeat (refine hX _ _ _ _ ?_; conv => whnf)
                  refine ⟨fun h => absurd h (by decide), fun _ => ?_⟩
                  repeat (refine hX _ _ _ _ ?_; conv => whnf)
                  rw [x8, x9, nI_subN hfi]
                  refine ⟨fun q2 => ?_, fun q2 => ?_⟩
                  · have q2' : 2 ≤ i - y_f L T p := by
                      by_cases y : 2 ≤ i - y_f L T p
                      · exact y
                      · exact absurd q2 (nI_ge (b := 2) (by omega) (by omega))
                    iterate 10 (refine hX _ _ _ _ ?_; conv => whnf)
                    refine ih (i + 1) _ (by omega) (by omega) (by omega) (hb.trans hg.2) (fun r hr => ?_) (fun k h8 h9 h10 h11 => ?_) ?_ ?_ ?_
                    · rw [pm_mu_ne _ _ _ hr, pm_mu_ne _ _ _ hr]; exact x0 r hr
                    · rw [pm_mu_k _ _ _ _ h8, pm_mu_k _ _ _ _ h11]; exact x1 k h8 h9 h10 h11
                    · rw [pm_mu_at, pm_mu_k _ _ _ _ (by decide), x8, nI_1]
                    · rw [pm_mu_k _ _ _ _ (by decide), pm_mu_k _ _ _ _ (by decide)]; exact x9
                    · rw [pm_mu_k _ _ _ _ (by decide), pm_mu_at, x11, Nat.min_eq_left (by omega), Nat.min_eq_left (by omega)]
                  · have q2' : i - y_f L T p < 2 := by
                      by_cases y : i - y_f L T p < 2
                      · exact y
                      · exact absurd (nI_le (a := 2) (by omega) (by omega)) q2
                    repeat (refine hX _ _ _ _ ?_; conv => whnf)
                    rw [x8]
                    refine hby L i T D4 _ hL (by omega) y3 ?_
                    rw [eby]
                    iterate 12 (refine hX _ _ _ _ ?_; conv => whnf)
                    refine ih (i + 1) _ (by omega) (by omega) (by omega) (hb.trans hg.2) (fun r hr => ?_) (fun k h8 h9 h10 h11 => ?_) ?_ ?_ ?_
                    · rw [pm_mu_ne _ _ _ hr, pm_mu_ne _ _ _ hr]; exact x0 r hr
                    · rw [pm_mu_k _ _ _ _ h8, pm_mu_k _ _ _ _ h11]; exact x1 k h8 h9 h10 h11
                    · rw [pm_mu_at, pm_mu_k _ _ _ _ (by decide), x8, nI_1]
                    · rw [pm_mu_k _ _ _ _ (by decide), pm_mu_k _ _ _ _ (by decide)]; exact x9
                    · rw [pm_mu_k _ _ _ _ (by decide), pm_mu_at, x11, Nat.min_eq_right (show i - y_f L T p ≤ 2 by omega), Nat.min_eq_right (show i + 1 - y_f L T p ≤ 2 by omega), show i + 1 - y_f L T p = (i - y_f L T p) + 1 by omega]
                      show 10 * y_nv T (y_f L T p) (i - y_f L T p) + T i - 48 = 10 * y_nv T (y_f L T p) (i - y_f L T p) + T (y_f L T p + (i - y_f L T p)) - 48
                      rw [show y_f L T p + (i - y_f L T p) = i by omega]
                · have hg := y_end_stop (P := y_fi) (L := L) (T := T) (p := i) qq
                  have ebi : y_b L T p = i := hb.trans hg
                  repeat (refine hX _ _ _ _ ?_; conv => whnf)
                  refine ⟨fun _ => ?_, fun h => absurd h (by decide)⟩
                  repeat (refine hX _ _ _ _ ?_; conv => whnf)
                  rw [pm_mu_k _ _ _ _ (by decide), pm_mu_k _ _ _ _ (by decide), x8, x9, nI_subN hfi]
                  obtain ⟨w1, w2, w3⟩ := fr (pm_mu D4 67 10 2) (fun r hr => by rw [pm_mu_ne _ _ _ hr]; exact x0 r hr) (fun k h8 h9 h10 h11 => by rw [pm_mu_k _ _ _ _ h10]; exact x1 k h8 h9 h10 h11)
                  by_cases q2 : i - y_f L T p ≤ 2
                  · rw [ebi, if_pos q2] at ek
                    refine ⟨fun _ => ?_, fun y => absurd (nI_le (b := 2) q2 (by omega)) y⟩
                    refine fin _ _ w1 w2 ⟨?_, ?_, ?_, fun y => ?_⟩ (by rw [ek]; decide)
                    · rw [pm_mu_k _ _ _ _ (by decide)]; exact x9
                    · rw [pm_mu_k _ _ _ _ (by decide), ebi]; exact x8
                    · rw [pm_mu_at, ek]; rfl
                    · rw [pm_mu_k _ _ _ _ (by decide), x11, Nat.min_eq_right q2]
                      unfold y_v
                      rw [ebi]
                  · rw [ebi, if_neg q2] at ek
                    refine ⟨fun y => absurd y (nI_ge (a := 2) (by omega) (by omega)), fun _ => ?_⟩
                    repeat (refine hX _ _ _ _ ?_; conv => whnf)
                    exact bad 240 _ _ (Or.inl rfl) w1 w2 (by rw [pm_mu_k _ _ _ _ (by decide)]; exact x9) ek
            exact figs (L + 1 - y_f L T p) (y_f L T p) D3 (by omega) f2 (Nat.le_refl _) eb e0 e1 e8 e9 (by rw [e11, Nat.sub_self]; rfl)
          · have qf' : ¬ y_fi (y_c L T p) = true := fun y => by
              have y : z_ib (y_c L T p) 48 57 = true := y
              rw [qf] at y
              cases y
            have eb : y_b L T p = y_f L T p + 1 := by unfold y_b; rw [if_neg ql', if_neg qf', if_pos q]
            have ek : y_k L T p = if y_c L T p = 59 then 3 else 0 := by unfold y_k; rw [if_pos q, if_neg ql', if_neg qf']
            repeat (refine hX _ _ _ _ ?_; conv => whnf)
            refine ⟨fun _ => ?_, fun h => absurd h (by decide)⟩
            repeat (refine hX _ _ _ _ ?_; conv => whnf)
            rw [pm_mu_k _ _ _ _ (by decide), e8, nI_1]
            obtain ⟨w1, w2, w3⟩ := fr (pm_mu (pm_mu D3 67 10 3) 67 8 (nI (y_f L T p + 1))) (fun r hr => by rw [pm_mu_ne _ _ _ hr, pm_mu_ne _ _ _ hr]; exact e0 r hr) (fun k h8 h9 h10 h11 => by rw [pm_mu_k _ _ _ _ h8, pm_mu_k _ _ _ _ h10]; exact e1 k h8 h9 h10 h11)
            refine ⟨fun q2 => ?_, fun q2 => ?_⟩
            · rw [if_pos q2] at ek
              refine fin _ _ w1 w2 ⟨?_, ?_, ?_, fun y => ?_⟩ (by rw [ek]; decide)
              · rw [pm_mu_k _ _ _ _ (by decide), pm_mu_k _ _ _ _ (by decide)]; exact e9
              · rw [pm_mu_at, eb]
              · rw [pm_mu_k _ _ _ _ (by decide), pm_mu_at, ek]; rfl
              · rw [ek] at y; cases y
            · rw [if_neg q2] at ek
              repeat (refine hX _ _ _ _ ?_; conv => whnf)
              exact bad 269 _ _ (Or.inr rfl) w1 w2 (by rw [pm_mu_k _ _ _ _ (by decide), pm_mu_k _ _ _ _ (by decide)]; exact e9) ek
      · have ec := y_c_end q
        have eb : y_b L T p = y_f L T p := by unfold y_b; rw [ec, if_neg (by rw [y_le4]; decide), if_neg (by rw [y_fi4]; decide), if_neg q]
        have ek : y_k L T p = 4 := if_neg q
        refine ⟨fun y => absurd ec y, fun _ => ?_⟩
        iterate 4 (refine hX _ _ _ _ ?_; conv => whnf)
        obtain ⟨w1, w2, w3⟩ := fr (pm_mu D3 67 10 0) (fun r hr => by rw [pm_mu_ne _ _ _ hr]; exact e0 r hr) (fun k h8 h9 h10 h11 => by rw [pm_mu_k _ _ _ _ h10]; exact e1 k h8 h9 h10 h11)
        refine fin _ _ w1 w2 ⟨?_, ?_, ?_, fun y => ?_⟩ (by rw [ek]; decide)
        · rw [pm_mu_k _ _ _ _ (by decide)]; exact e9
        · rw [pm_mu_k _ _ _ _ (by decide), eb]; exact e8
        · rw [pm_mu_at, ek]; rfl
        · rw [ek] at y; cases y
    have loop : ∀ (m q : Nat) (D2 : pm_Mem), q + m = L + 1 → q ≤ L → y_f L T p = y_end y_bl L T q → (∀ r, r ≠ 67 → D2 r = D r) → (∀ k, k ≠ 8 → D2 67 k = D 67 k) → D2 67 8 = nI q → X 8 [some (.ref 67), none] [] D2 := by
      intro m
      induction m with
      | zero => intro q D2 h1 h2; omega
      | succ m ih =>
        intro q D2 hq hqL he c1 c2 c8
        repeat (refine hX _ _ _ _ ?_; conv => whnf)
        rw [c8]
        refine hby L q T D2 _ hL (by omega) ⟨by rw [c2 4 (by decide)]; exact hM.1, fun i hi => by rw [c1 70 (by decide)]; exact hM.2 i hi⟩ ?_
        repeat (refine hX _ _ _ _ ?_; conv => whnf)
        refine ⟨fun q2 => ?_, fun q2 => ?_⟩
        · have hg := y_end_stop (P := y_bl) (L := L) (T := T) (p := q) (decide_eq_false q2)
          exact tok D2 c1 c2 (by rw [c8, he, hg])
        · have hg := y_end_go (P := y_bl) (L := L) (T := T) (p := q) y_bl4 (decide_eq_true q2)
          iterate 7 (refine hX _ _ _ _ ?_; conv => whnf)
          refine ih (q + 1) _ (by omega) (by omega) (he.trans hg.2) (fun r hr => ?_) (fun k hk => ?_) ?_
          · rw [pm_mu_ne _ _ _ hr]; exact c1 r hr
          · rw [pm_mu_k _ _ _ _ hk]; exact c2 k hk
          · rw [pm_mu_at, c8, nI_1]
    exact loop (L + 1 - p) p D (by omega) hp rfl (fun _ _ => rfl) (fun _ _ => rfl) h8
