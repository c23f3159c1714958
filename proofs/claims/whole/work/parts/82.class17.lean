/-! ===== the text: the class ===== -/
def y_Cs (L : Nat) (T : Nat → Int32) (D : pm_Mem) (e : Option (Nat × Nat)) : Prop := D 42 1 = nI L ∧ (∀ i, i < L → D 43 i = T i) ∧ (e = none → D 42 2 = 0) ∧ ∀ c f, e = some (c, f) → D 42 2 = nI c ∧ D 42 3 = nI f ∧ 0 < c ∧ c ≤ 5
def y_Ct (L : Nat) (T : Nat → Int32) (D : pm_Mem) (p : Nat) : Prop := D 42 4 = nI (y_k L T p) ∧ D 42 5 = nI (y_f L T p) ∧ D 42 6 = nI (y_b L T p)
def y_Cf (D D' : pm_Mem) : Prop := (∀ r, r ≠ 42 → D' r = D r) ∧ D' 42 7 = D 42 7
theorem y_Cf.tr {D D1 D2 : pm_Mem} (h1 : y_Cf D D1) (h2 : y_Cf D1 D2) : y_Cf D D2 := ⟨fun r hr => by rw [h2.1 r hr]; exact h1.1 r hr, by rw [h2.2]; exact h1.2⟩
theorem y_Cf.rf (D : pm_Mem) : y_Cf D D := ⟨fun _ _ => rfl, rfl⟩
def sp_blame (Ga : pm_Ga) : Prop := ∀ (L : Nat) (T : Nat → Int32) (e : Option (Nat × Nat)) (f c : Nat) (D : pm_Mem) (post : pm_Post), y_Cs L T D e → D 42 5 = nI f → 0 < c → c ≤ 5 → (∀ D', y_Cs L T D' (y_bm e c f) → (∀ k, k ≠ 2 → k ≠ 3 → D' 42 k = D 42 k) → y_Cf D D' → post none D') → Ga 34 [.ref 42, .int (nI c)] D post
set_option maxHeartbeats 2000000 in
theorem t_blame {N : Nat} {Ga : pm_Ga} : sp_blame (pm_up N Ga) := by
  intro L T e f c D post hC hf hc hc5 h
  obtain ⟨a1, a2, a3, a4⟩ := hC
  refine ⟨rfl, fun X hX => ?_⟩
  replace hX : ∀ pc L st D, pm_F N Ga tbX3_blame none post X pc L st D → X pc L st D := hX
  change X 0 [some (.ref 42), some (.int (nI c))] [] D
  repeat (refine hX _ _ _ _ ?_; conv => whnf)
  refine ⟨fun q => ?_, fun q => ?_⟩
  · repeat (refine hX _ _ _ _ ?_; conv => whnf)
    cases e with
    | none => exact absurd (a3 rfl) q
    | some x => exact h D ⟨a1, a2, a3, a4⟩ (fun _ _ _ => rfl) (y_Cf.rf D)
  · repeat (refine hX _ _ _ _ ?_; conv => whnf)
    cases e with
    | some x =>
      obtain ⟨b1, b2, b3, b4⟩ := a4 x.1 x.2 rfl
      rw [b1, z_eq, z_tI (by omega)] at q
      have : (x.1 : Int) = 0 := q
      omega
    | none =>
      refine h _ ⟨?_, ?_, (fun y => by cases y), ?_⟩ (fun k h2 h3 => ?_) ⟨fun r hr => ?_, ?_⟩
      · rw [pm_mu_k _ _ _ _ (by decide), pm_mu_k _ _ _ _ (by decide)]; exact a1
      · intro i hi
        rw [pm_mu_r _ _ _ _ (by decide), pm_mu_r _ _ _ _ (by decide)]; exact a2 i hi
      · intro c' f' hy
        have hy : some (c, f) = some (c', f') := hy
        cases hy
        refine ⟨?_, ?_, hc, hc5⟩
        · rw [pm_mu_k _ _ _ _ (by decide), pm_mu_at]
        · rw [pm_mu_at, pm_mu_k _ _ _ _ (by decide), hf]
      · rw [pm_mu_k _ _ _ _ h3, pm_mu_k _ _ _ _ h2]
      · rw [pm_mu_ne _ _ _ hr, pm_mu_ne _ _ _ hr]
      · rw [pm_mu_k _ _ _ _ (by decide), pm_mu_k _ _ _ _ (by decide)]
def sp_runOf (Ga : pm_Ga) : Prop := ∀ (L f : Nat) (T : Nat → Int32) (lo hi : Int32) (A B : Int) (D : pm_Mem) (post : pm_Post), L ≤ 160 → f ≤ L → D 42 1 = nI L → (∀ i, i < L → D 43 i = T i) → D 42 5 = nI f → lo.toInt = A → hi.toInt = B → -4 < A → post (some (.int (nI (y_end (fun x => z_ib x A B) L T f - f)))) D → Ga 42 [.ref 42, .int lo, .int hi] D post
set_option maxHeartbeats 2000000 in
theorem t_runOf {N : Nat} {Ga : pm_Ga} : sp_runOf (pm_up N Ga) := by
  intro L f T lo hi A B D post hL hf h1 h2 h5 hA hB hA4 h
  have h4 : z_ib (-4) A B = false := z_ib_f (fun q => by have : A ≤ (-4 : Int) := q.1; omega)
  refine ⟨rfl, fun X hX => ?_⟩
  replace hX : ∀ pc L st D, pm_F N Ga tbX3_runOf (some .int) post X pc L st D → X pc L st D := hX
  change X 0 [some (.ref 42), some (.int lo), some (.int hi), none] [] D
  iterate 3 (refine hX _ _ _ _ ?_; conv => whnf)
  rw [h5]
  have loop : ∀ (m p : Nat), p + m = L → f ≤ p → y_end (fun x => z_ib x A B) L T f = y_end (fun x => z_ib x A B) L T p → X 5 [some (.ref 42), some (.int lo), some (.int hi), some (.int (nI p))] [] D := by
    intro m
    induction m with
    | zero =>
      intro p hp hfp he
      have hp : p = L := by omega
      subst hp
      have ee : y_end (fun x => z_ib x A B) p T p = p := by
        refine y_end_stop ?_
        unfold y_by
        rw [if_neg (by omega)]
        exact h4
      repeat (refine hX _ _ _ _ ?_; conv => whnf)
      rw [h1]
      refine ⟨fun _ => ?_, fun q => absurd (nI_le (Nat.le_refl _) (by omega)) q⟩
      repeat (refine hX _ _ _ _ ?_; conv => whnf)
      rw [h5, nI_subN hfp]
      rw [he, ee] at h
      exact h
    | succ m ih =>
      intro p hp hfp he
      have hpL : p < L := by omega
      have eb : y_by L T p = T p := if_pos hpL
      have fin : z_ib (T p) A B = false → X 39 [some (.ref 42), some (.int lo), some (.int hi), some (.int (nI p))] [] D := by
        intro hq
        have ee : y_end (fun x => z_ib x A B) L T p = p := y_end_stop (by rw [eb]; exact hq)
        repeat (refine hX _ _ _ _ ?_; conv => whnf)
        rw [h5, nI_subN hfp]
        rw [he, ee] at h
        exact h
      have c1 : (nI p).toNatClampNeg = p := by rw [z_cl, z_tI (by omega)]; rfl
      repeat (refine hX _ _ _ _ ?_; conv => whnf)
      rw [h1]
      refine ⟨fun q => absurd q (nI_ge (by omega) (by omega)), fun _ => ?_⟩
      repeat (refine hX _ _ _ _ ?_; conv => whnf)
      refine ⟨vp_in_nI (by omega) (by decide), ?_⟩
      rw [c1, h2 p hpL]
      repeat (refine hX _ _ _ _ ?_; conv => whnf)
      refine ⟨fun q => ?_, fun q => ?_⟩
      · exact fin (z_ib_f (fun y => by have := z_lt.mp q; omega))
      · repeat (refine hX _ _ _ _ ?_; conv => whnf)
        refine ⟨vp_in_nI (by omega) (by decide), ?_⟩
        rw [c1, h2 p hpL]
        repeat (refine hX _ _ _ _ ?_; conv => whnf)
        refine ⟨fun q2 => ?_, fun q2 => ?_⟩
        · exact fin (z_ib_f (fun y => by have := z_lt.mp q2; omega))
        · iterate 2 (refine hX _ _ _ _ ?_; conv => whnf)
          rw [nI_1]
          have q1' : ¬ (T p).toInt < lo.toInt := fun y => q (z_lt.mpr y)
          have q2' : ¬ hi.toInt < (T p).toInt := fun y => q2 (z_lt.mpr y)
          have hg := y_end_go (P := fun x => z_ib x A B) (L := L) (T := T) (p := p) h4 (by rw [eb]; exact z_ib_t (by omega) (by omega))
          exact ih (p + 1) (by omega) (by omega) (he.trans hg.2)
  exact loop (L - f) f (by omega) (Nat.le_refl _) rfl
theorem y_max1 {a : Nat} (h : a < 2 ^ 31) : pm_max 1 (nI a) = nI (max 1 a) := by
  unfold pm_max
  have e : (1 : Int32) = nI 1 := rfl
  by_cases q : 1 < a
  · rw [e, if_pos (nI_lt q h), Nat.max_eq_right (by omega)]
  · rw [e, if_neg (nI_nlt (by omega) (by omega)), Nat.max_eq_left (by omega)]
def sp_readToken (Ga : pm_Ga) : Prop := ∀ (L : Nat) (T : Nat → Int32) (e : Option (Nat × Nat)) (p : Nat) (D : pm_Mem) (post : pm_Post), L ≤ 160 → p ≤ L → y_Cs L T D e → D 42 6 = nI p → (∀ D', y_Cs L T D' (y_rd L T p e) → y_Ct L T D' p → y_Cf D D' → post none D') → Ga 41 [.ref 42] D post
set_option maxHeartbeats 4000000 in
theorem t_readToken {N : Nat} {Ga : pm_Ga} (hbl : sp_blame Ga) (hru : sp_runOf Ga) : sp_readToken (pm_up N Ga) := by
  intro L T e p D post hL hp hC h6 h
  obtain ⟨a1, a2, a3, a4⟩ := hC
  obtain ⟨f1, f2⟩ := y_f_in T hp
  obtain ⟨b1, b2, b3⟩ := y_b_in T hp
  refine ⟨rfl, fun X hX => ?_⟩
  replace hX : ∀ pc L st D, pm_F N Ga tbX3_readToken none post X pc L st D → X pc L st D := hX
  change X 0 [some (.ref 42), none, none] [] D
  have fin : ∀ (D3 : pm_Mem) (l1 l2 : Option Value), (∀ r, r ≠ 42 → D3 r = D r) → (∀ k, k ≠ 4 → k ≠ 5 → k ≠ 6 → D3 42 k = D 42 k) → y_Ct L T D3 p → X 163 [some (.ref 42), l1, l2] [] D3 := by
    intro D3 l1 l2 c1 c2 c3
    have hC3 : y_Cs L T D3 e := ⟨by rw [c2 1 (by decide) (by decide) (by decide)]; exact a1, fun i hi => by rw [c1 43 (by decide)]; exact a2 i hi, fun y => by rw [c2 2 (by decide) (by decide) (by decide)]; exact a3 y, fun c f y => by rw [c2 2 (by decide) (by decide) (by decide), c2 3 (by decide) (by decide) (by decide)]; exact a4 c f y⟩
    have hf3 : y_Cf D D3 := ⟨c1, c2 7 (by decide) (by decide) (by decide)⟩
    have hk : y_k L T p < 5 := by unfold y_k; split; split; decide; split; split <;> decide; split <;> decide; decide
    repeat (refine hX _ _ _ _ ?_; conv => whnf)
    rw [c3.1]
    refine ⟨fun q => ?_, fun q => ?_⟩
    · have q0 : y_k L T p ≠ 0 := fun y => q (by rw [y]; rfl)
      repeat (refine hX _ _ _ _ ?_; conv => whnf)
      exact h D3 (by rw [y_rd_n _ q0]; exact hC3) c3 hf3
    · have q0 : y_k L T p = 0 := by
        rw [z_eq, z_tI (by omega)] at q
        have : (y_k L T p : Int) = 0 := q
        omega
      repeat (refine hX _ _ _ _ ?_; conv => whnf)
      refine hbl L T e (y_f L T p) 1 D3 _ hC3 c3.2.1 (by decide) (by decide) (fun D4 d1 d2 d3 => ?_)
      repeat (refine hX _ _ _ _ ?_; conv => whnf)
      refine h D4 (by unfold y_rd; rw [if_pos q0]; exact d1) ⟨?_, ?_, ?_⟩ (hf3.tr d3)
      · rw [d2 4 (by decide) (by decide)]; exact c3.1
      · rw [d2 5 (by decide) (by decide)]; exact c3.2.1
      · rw [d2 6 (by decide) (by decide)]; exact c3.2.2
  have tok : ∀ (D2 : pm_Mem), (∀ r, r ≠ 42 → D2 r = D r) → (∀ k, k ≠ 5 → D2 42 k = D 42 k) → D2 42 5 = nI (y_f L T p) → X 46 [some (.ref 42), none, none] [] D2 := by
    intro D2 c1 c2 c5
    have d1 : D2 42 1 = nI L := by rw [c2 1 (by decide)]; exact a1
    have d2 : ∀ i, i < L → D2 43 i = T i := fun i hi => by rw [c1 43 (by decide)]; exact a2 i hi
    have e1 := y_end_in y_le T f2
    have e2 := y_end_in y_fi T f2
    repeat (refine hX _ _ _ _ ?_; conv => whnf)
    refine hru L (y_f L T p) T 97 122 97 122 D2 _ hL f2 d1 d2 c5 rfl rfl (by decide) ?_
    change X 54 _ [.int (nI (y_end y_le L T (y_f L T p) - y_f L T p))] D2
    repeat (refine hX _ _ _ _ ?_; conv => whnf)
    refine hru L (y_f L T p) T 48 57 48 57 D2 _ hL f2 d1 d2 c5 rfl rfl (by decide) ?_
    change X 63 _ [.int (nI (y_end y_fi L T (y_f L T p) - y_f L T p))] D2
    iterate 10 (refine hX _ _ _ _ ?_; conv => whnf)
    rw [nI_add, y_max1 (by omega), c5, nI_add]
    iterate 1 (refine hX _ _ _ _ ?_; conv => whnf)
    iterate 4 (refine hX _ _ _ _ ?_; conv => whnf)
    rw [pm_mu_k _ _ _ _ (by decide), pm_mu_k _ _ _ _ (by decide), c5, d1]
    repeat (refine hX _ _ _ _ ?_; conv => whnf)
    have kk : ∀ (v w : Int32) (k : Nat), k ≠ 4 → k ≠ 5 → k ≠ 6 → pm_mu (pm_mu D2 42 6 v) 42 4 w 42 k = D 42 k := fun v w k h4 h5 h6 => by rw [pm_mu_k _ _ _ _ h4, pm_mu_k _ _ _ _ h6]; exact c2 k h5
    have rr : ∀ (v w : Int32) (r : Nat), r ≠ 42 → pm_mu (pm_mu D2 42 6 v) 42 4 w r = D r := fun v w r hr => by rw [pm_mu_ne _ _ _ hr, pm_mu_ne _ _ _ hr]; exact c1 r hr
    by_cases q : y_f L T p < L
    · have ec := y_c_at q
      refine ⟨fun _ => ?_, fun y => absurd (nI_lt q (by omega)) y⟩
      by_cases ql : y_le (y_c L T p) = true
      · have qf : y_fi (y_c L T p) = false := by
          have := z_ib_iff.mp ql
          exact z_ib_f (fun y => by omega)
        have el := y_end_lt (p := y_f L T p) y_le4 ql
        have ef : y_end y_fi L T (y_f L T p) = y_f L T p := y_end_stop qf
        have eb : y_b L T p = y_end y_le L T (y_f L T p) := if_pos ql
        have ek : y_k L T p = 1 := by unfold y_k; rw [if_pos q, if_pos ql]
        rw [ef]
        repeat (refine hX _ _ _ _ ?_; conv => whnf)
        refine ⟨fun y => absurd y (nI_ge (a := 0) (by omega) (by omega)), fun _ => ?_⟩
        iterate 4 (refine hX _ _ _ _ ?_; conv => whnf)
        refine fin _ _ _ (rr _ _) (kk _ _) ⟨?_, ?_, ?_⟩
        · rw [pm_mu_at, ek]; rfl
        · rw [pm_mu_k _ _ _ _ (by decide), pm_mu_k _ _ _ _ (by decide)]; exact c5
        · rw [pm_mu_k _ _ _ _ (by decide), pm_mu_at, eb, Nat.max_eq_right (by omega)]
          congr 1
          omega
      · have qls : y_le (y_c L T p) = false := by cases y : y_le (y_c L T p); rfl; exact absurd y ql
        have el : y_end y_le L T (y_f L T p) = y_f L T p := y_end_stop qls
        rw [el, Nat.sub_self, Nat.zero_add]
        repeat (refine hX _ _ _ _ ?_; conv => whnf)
        refine ⟨fun _ => ?_, fun h => absurd h (by decide)⟩
        repeat (refine hX _ _ _ _ ?_; conv => whnf)
        by_cases qf : y_fi (y_c L T p) = true
        · have ef := y_end_lt (p := y_f L T p) y_fi4 qf
          have eb : y_b L T p = y_end y_fi L T (y_f L T p) := by unfold y_b; rw [if_neg ql, if_pos qf]
          have ek : y_k L T p = if y_b L T p - y_f L T p ≤ 2 then 2 else 0 := by unfold y_k; rw [if_pos q, if_neg ql, if_pos qf]
          rw [← eb]
          refine ⟨fun y => absurd y (nI_ge (a := 0) (by omega) (by omega)), fun _ => ?_⟩
          repeat (refine hX _ _ _ _ ?_; conv => whnf)
          refine ⟨fun q2 => ?_, fun q2 => ?_⟩
          · have q2' : ¬ y_b L T p - y_f L T p ≤ 2 := fun y => absurd q2 (nI_nlt (a := 2) y (by omega))
            rw [if_neg q2'] at ek
            iterate 3 (refine hX _ _ _ _ ?_; conv => whnf)
            refine fin _ _ _ (rr _ _) (kk _ _) ⟨?_, ?_, ?_⟩
            · rw [pm_mu_at, ek]; rfl
            · rw [pm_mu_k _ _ _ _ (by decide), pm_mu_k _ _ _ _ (by decide)]; exact c5
            · rw [pm_mu_k _ _ _ _ (by decide), pm_mu_at, Nat.max_eq_right (by omega)]
              congr 1
              omega
          · have q2' : y_b L T p - y_f L T p ≤ 2 := by
              by_cases y : y_b L T p - y_f L T p ≤ 2
              · exact y
              · exact absurd (nI_lt (a := 2) (by omega) (by omega)) q2
            rw [if_pos q2'] at ek
            iterate 4 (refine hX _ _ _ _ ?_; conv => whnf)
            refine fin _ _ _ (rr _ _) (kk _ _) ⟨?_, ?_, ?_⟩
            · rw [pm_mu_at, ek]; rfl
            · rw [pm_mu_k _ _ _ _ (by decide), pm_mu_k _ _ _ _ (by decide)]; exact c5
            · rw [pm_mu_k _ _ _ _ (by decide), pm_mu_at, Nat.max_eq_right (by omega)]
              congr 1
              omega
        · have qfs : y_fi (y_c L T p) = false := by cases y : y_fi (y_c L T p); rfl; exact absurd y qf
          have ef : y_end y_fi L T (y_f L T p) = y_f L T p := y_end_stop qfs
          have eb : y_b L T p = y_f L T p + 1 := by unfold y_b; rw [if_neg ql, if_neg qf, if_pos q]
          have ek : y_k L T p = if y_c L T p = 59 then 3 else 0 := by unfold y_k; rw [if_pos q, if_neg ql, if_neg qf]
          rw [ef, Nat.sub_self]
          refine ⟨fun _ => ?_, fun h => absurd h (by decide)⟩
          repeat (refine hX _ _ _ _ ?_; conv => whnf)
          rw [pm_mu_k _ _ _ _ (by decide), c5]
          refine ⟨vp_in_nI (by omega) (by decide), ?_⟩
          rw [nI_clamp (by omega), pm_mu_r _ _ _ _ (by decide), d2 _ q, ← ec]
          repeat (refine hX _ _ _ _ ?_; conv => whnf)
          refine ⟨fun q2 => ?_, fun q2 => ?_⟩
          · rw [if_neg q2] at ek
            iterate 2 (refine hX _ _ _ _ ?_; conv => whnf)
            refine fin _ _ _ (rr _ _) (kk _ _) ⟨?_, ?_, ?_⟩
            · rw [pm_mu_at, ek]; rfl
            · rw [pm_mu_k _ _ _ _ (by decide), pm_mu_k _ _ _ _ (by decide)]; exact c5
            · rw [pm_mu_k _ _ _ _ (by decide), pm_mu_at, eb]; rfl
          · rw [if_pos q2] at ek
            iterate 3 (refine hX _ _ _ _ ?_; conv => whnf)
            refine fin _ _ _ (rr _ _) (kk _ _) ⟨?_, ?_, ?_⟩
            · rw [pm_mu_at, ek]; rfl
            · rw [pm_mu_k _ _ _ _ (by decide), pm_mu_k _ _ _ _ (by decide)]; exact c5
            · rw [pm_mu_k _ _ _ _ (by decide), pm_mu_at, eb]; rfl
    · have ec := y_c_end q
      have eL : y_f L T p = L := by omega
      have eb : y_b L T p = y_f L T p := by unfold y_b; rw [ec, if_neg (by rw [y_le4]; decide), if_neg (by rw [y_fi4]; decide), if_neg q]
      have ek : y_k L T p = 4 := if_neg q
      refine ⟨fun y => absurd y (nI_nlt (by omega) (by omega)), fun _ => ?_⟩
      iterate 8 (refine hX _ _ _ _ ?_; conv => whnf)
      refine fin _ _ _ (fun r hr => ?_) (fun k h4 h5 h6 => ?_) ⟨?_, ?_, ?_⟩
      · rw [pm_mu_ne _ _ _ hr]; exact rr _ _ r hr
      · rw [pm_mu_k _ _ _ _ h6]; exact kk _ _ k h4 h5 h6
      · rw [pm_mu_k _ _ _ _ (by decide), pm_mu_at, ek]; rfl
      · rw [pm_mu_k _ _ _ _ (by decide), pm_mu_k _ _ _ _ (by decide), pm_mu_k _ _ _ _ (by decide)]; exact c5
      · rw [pm_mu_at, pm_mu_k _ _ _ _ (by decide), pm_mu_k _ _ _ _ (by decide), eb]; exact c5
  iterate 4 (refine hX _ _ _ _ ?_; conv => whnf)
  rw [h6]
  have loop : ∀ (m q : Nat) (D2 : pm_Mem), q + m = L → y_f L T p = y_end y_bl L T q → (∀ r, r ≠ 42 → D2 r = D r) → (∀ k, k ≠ 5 → D2 42 k = D 42 k) → D2 42 5 = nI q → X 8 [some (.ref 42), none, none] [] D2 := by
    intro m
    induction m with
    | zero =>
      intro q D2 hq he c1 c2 c5
      have hq : q = L := by omega
      subst hq
      have ee : y_end y_bl q T q = q := by
        refine y_end_stop ?_
        unfold y_by
        rw [if_neg (by omega)]
        exact y_bl4
      repeat (refine hX _ _ _ _ ?_; conv => whnf)
      rw [c5, c2 1 (by decide), a1]
      refine ⟨fun _ => ?_, fun y => absurd (nI_le (Nat.le_refl _) (by omega)) y⟩
      exact tok D2 c1 c2 (by rw [c5, he, ee])
    | succ m ih =>
      intro q D2 hq he c1 c2 c5
      have hqL : q < L := by omega
      have eb : y_by L T q = T q := if_pos hqL
      repeat (refine hX _ _ _ _ ?_; conv => whnf)
      rw [c5, c2 1 (by decide), a1]
      refine ⟨fun y => absurd y (nI_ge (by omega) (by omega)), fun _ => ?_⟩
      repeat (refine hX _ _ _ _ ?_; conv => whnf)
      rw [c5]
      refine ⟨vp_in_nI (by omega) (by decide), ?_⟩
      rw [nI_clamp (by omega), c1 43 (by decide), a2 q hqL]
      repeat (refine hX _ _ _ _ ?_; conv => whnf)
      refine ⟨fun q2 => ?_, fun q2 => ?_⟩
      · have ee : y_end y_bl L T q = q := y_end_stop (by rw [eb]; exact decide_eq_false q2)
        exact tok D2 c1 c2 (by rw [c5, he, ee])
      · have hg := y_end_go (P := y_bl) (L := L) (T := T) (p := q) y_bl4 (by rw [eb]; exact decide_eq_true q2)
        iterate 7 (refine hX _ _ _ _ ?_; conv => whnf)
        refine ih (q + 1) _ (by omega) (he.trans hg.2) (fun r hr => ?_) (fun k hk => ?_) ?_
        · rw [pm_mu_ne _ _ _ hr]; exact c1 r hr
        · rw [pm_mu_k _ _ _ _ hk]; exact c2 k hk
        · rw [pm_mu_at, c5, nI_1]
  refine loop (L - p) p _ (by omega) rfl (fun r hr => ?_) (fun k hk => ?_) ?_
  · rw [pm_mu_ne _ _ _ hr]
  · rw [pm_mu_k _ _ _ _ hk]
  · rw [pm_mu_at]
