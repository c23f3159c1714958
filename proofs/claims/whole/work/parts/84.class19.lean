/-! ===== the text: the class, lines ===== -/
def sp_takeKnock (Ga : pm_Ga) : Prop := ∀ (L : Nat) (T : Nat → Int32) (bk : Bool) (g : z_P) (p : Nat) (D : pm_Mem) (post : pm_Post), z_n g ≤ 4 → g 49 = nI (z_k g) → z_k g ≤ 12 → L ≤ 160 → p ≤ L → y_Cs L T D none → y_Ct L T D p → z_R D 10 g → (∀ D' e, e = y_s1 L T (y_b L T (y_b L T (y_b L T p))) (y_n1 L T 0 9 (y_b L T (y_b L T p)) (y_n1 L T 0 3 (y_b L T p) (if z_k g = 12 then some (5, y_f L T p) else none))) → y_Cs L T D' e → D' 42 6 = nI (y_b L T (y_b L T (y_b L T (y_b L T p)))) → D' 42 7 = D 42 7 → y_Cx D D' → (e = none → z_R D' 10 (z_add1 g (y_vv L T 0 (y_b L T p)) (if bk = true then - y_vv L T 0 (y_b L T (y_b L T p)) else y_vv L T 0 (y_b L T (y_b L T p))))) → post none D') → Ga 38 [.ref 42, .ref 10, .int (z_bi bk)] D post
set_option maxHeartbeats 4000000 in
theorem t_takeKnock {N : Nat} {Ga : pm_Ga} (hbl : sp_blame Ga) (htn : sp_takeNumber Ga) (hts : sp_takeSemicolon Ga) (hak : sp_addKnock Ga) : sp_takeKnock (pm_up N Ga) := by
  intro L T bk g p D post hn4 hk49 hk12 hL hp hC hT hR h
  obtain ⟨b1, b2, b3⟩ := y_b_in T hp
  obtain ⟨c1, c2, c3⟩ := y_b_in T b2
  obtain ⟨k1, k2, k3⟩ := y_b_in T c2
  refine ⟨rfl, fun X hX => ?_⟩
  replace hX : ∀ pc L st D, pm_F N Ga tbX3_takeKnock none post X pc L st D → X pc L st D := hX
  change X 0 [some (.ref 42), some (.ref 10), some (.int (z_bi bk)), none, none] [] D
  have go : ∀ (e : Option (Nat × Nat)) (D1 : pm_Mem), e = (if z_k g = 12 then some (5, y_f L T p) else none) → y_Cs L T D1 e → D1 42 6 = nI (y_b L T p) → y_Cf D D1 → X 14 [some (.ref 42), some (.ref 10), some (.int (z_bi bk)), none, none] [] D1 := by
    intro e D1 he d1 d2 d3
    repeat (refine hX _ _ _ _ ?_; conv => whnf)
    refine htn L T e (y_b L T p) 0 3 0 3 _ _ hL b2 d1 d2 rfl rfl (fun D2 e1 e2 e3 => ?_)
    repeat (refine hX _ _ _ _ ?_; conv => whnf)
    refine htn L T _ (y_b L T (y_b L T p)) 0 9 0 9 _ _ hL c2 e1 e2 rfl rfl (fun D3 i1 i2 i3 => ?_)
    repeat (refine hX _ _ _ _ ?_; conv => whnf)
    refine hts L T _ (y_b L T (y_b L T (y_b L T p))) D3 _ hL k2 i1 i2 (fun D4 f1 f2 f3 => ?_)
    have fr : y_Cf D D4 := ((d3.tr e3).tr i3).tr f3
    have hR4 : z_R D4 10 g := z_R.same hR (fun r h1 h2 => fr.1 r (by omega))
    repeat (refine hX _ _ _ _ ?_; conv => whnf)
    refine ⟨fun q => ?_, fun q => ?_⟩
    · have q0 := fun y => q (f1.e0.mpr y)
      repeat (refine hX _ _ _ _ ?_; conv => whnf)
      exact h D4 _ (by rw [he]) f1 f2 fr.2 (fun r _ hr => fr.1 r hr) (fun y => absurd y q0)
    · have q0 := f1.e0.mp q
      have hk : z_k g < 12 := by
        have w := (y_n1_none (y_n1_none (y_s1_none q0).1).1).1
        rw [he] at w
        by_cases y : z_k g = 12
        · rw [if_pos y] at w; cases w
        · omega
      have last : ∀ v : Int32, v = (if bk = true then - y_vv L T 0 (y_b L T (y_b L T p)) else y_vv L T 0 (y_b L T (y_b L T p))) → Ga 9 [.ref 10, .int (y_vv L T 0 (y_b L T p)), .int v] D4 (fun r D => X 58 [some (.ref 42), some (.ref 10), some (.int (z_bi bk)), some (.int (y_vv L T 0 (y_b L T p))), some (.int (y_vv L T 0 (y_b L T (y_b L T p))))] (r.toList ++ []) D) := by
        intro v hv
        refine hak 10 _ v g D4 _ (by decide) hR4 hn4 hk49 hk12 (fun y => by omega) (fun _ D5 m1 m2 => ?_)
        repeat (refine hX _ _ _ _ ?_; conv => whnf)
        refine h D5 _ (by rw [he]) (f1.F (m2 42 (by omega)) (m2 43 (by omega))) (by rw [m2 42 (by omega)]; exact f2) (by rw [m2 42 (by omega)]; exact fr.2) (fun r h1 h2 => by rw [m2 r (by omega)]; exact fr.1 r h2) (fun _ => ?_)
        rw [← hv]
        exact m1
      repeat (refine hX _ _ _ _ ?_; conv => whnf)
      by_cases hb : bk = true
      · refine ⟨fun y => absurd y (by rw [hb]; decide), fun _ => ?_⟩
        repeat (refine hX _ _ _ _ ?_; conv => whnf)
        exact last _ (by rw [if_pos hb])
      · refine ⟨fun _ => ?_, fun y => absurd (show z_bi bk = 0 by unfold z_bi; rw [if_neg hb]) y⟩
        repeat (refine hX _ _ _ _ ?_; conv => whnf)
        exact last _ (by rw [if_neg hb])
  repeat (refine hX _ _ _ _ ?_; conv => whnf)
  rw [hR.2.1, hk49]
  refine ⟨fun q => ?_, fun q => ?_⟩
  · have hk : ¬ z_k g = 12 := fun y => absurd q (by rw [y]; decide)
    exact go none D (by rw [if_neg hk]) hC hT.2.2 (y_Cf.rf D)
  · have hk : z_k g = 12 := by
      by_cases y : z_k g = 12
      · exact y
      · exact absurd (nI_lt (b := 12) (by omega) (by omega)) q
    repeat (refine hX _ _ _ _ ?_; conv => whnf)
    refine hbl L T none (y_f L T p) 5 D _ hC hT.2.1 (by decide) (by decide) (fun D1 d1 d2 d3 => ?_)
    exact go (some (5, y_f L T p)) D1 (by rw [if_pos hk]) d1 (by rw [d2 6 (by decide) (by decide)]; exact hT.2.2) d3
def sp_takeBead (Ga : pm_Ga) : Prop := ∀ (L : Nat) (T : Nat → Int32) (kd : Int32) (g : z_P) (p : Nat) (D : pm_Mem) (post : pm_Post), C7 D → z_n g ≤ 4 → g 24 = nI (z_n g) → L ≤ 160 → p ≤ L → y_Cs L T D none → y_Ct L T D p → z_R D 10 g → (∀ D' e, e = y_s1 L T (y_b L T (y_b L T (y_b L T (y_b L T p)))) (y_n1 L T 1 9 (y_b L T (y_b L T (y_b L T p))) (y_n1 L T 0 9 (y_b L T (y_b L T p)) (y_n1 L T 0 60 (y_b L T p) (if z_n g = 4 then some (5, y_f L T p) else none)))) → y_Cs L T D' e → D' 42 6 = nI (y_b L T (y_b L T (y_b L T (y_b L T (y_b L T p))))) → D' 42 7 = D 42 7 → y_Cx D D' → (e = none → z_R D' 10 (z_bind g kd (y_vv L T 0 (y_b L T p)) (y_vv L T 0 (y_b L T (y_b L T p))) (y_vv L T 1 (y_b L T (y_b L T (y_b L T p)))))) → post none D') → Ga 36 [.ref 42, .ref 10, .int kd] D post
set_option maxHeartbeats 4000000 in
theorem t_takeBead {N : Nat} {Ga : pm_Ga} (hbl : sp_blame Ga) (htn : sp_takeNumber Ga) (hts : sp_takeSemicolon Ga) (hab : sp_addBead Ga) : sp_takeBead (pm_up N Ga) := by
  intro L T kd g p D post h7 hn4 hn24 hL hp hC hT hR h
  obtain ⟨b1, b2, b3⟩ := y_b_in T hp
  obtain ⟨c1, c2, c3⟩ := y_b_in T b2
  obtain ⟨k1, k2, k3⟩ := y_b_in T c2
  obtain ⟨j1, j2, j3⟩ := y_b_in T k2
  refine ⟨rfl, fun X hX => ?_⟩
  replace hX : ∀ pc L st D, pm_F N Ga tbX3_takeBead none post X pc L st D → X pc L st D := hX
  change X 0 [some (.ref 42), some (.ref 10), some (.int kd), none, none, none] [] D
  have i1c : (1 : Int32).toNatClampNeg = 1 := rfl
  have i2c : (2 : Int32).toNatClampNeg = 2 := rfl
  have i3c : (3 : Int32).toNatClampNeg = 3 := rfl
  have go : ∀ (e : Option (Nat × Nat)) (D1 : pm_Mem), e = (if z_n g = 4 then some (5, y_f L T p) else none) → y_Cs L T D1 e → D1 42 6 = nI (y_b L T p) → y_Cf D D1 → X 13 [some (.ref 42), some (.ref 10), some (.int kd), none, none, none] [] D1 := by
    intro e D1 he d1 d2 d3
    repeat (refine hX _ _ _ _ ?_; conv => whnf)
    refine ⟨vp_in_nI (n := 1) (by decide) (by decide), ?_⟩
    repeat (refine hX _ _ _ _ ?_; conv => whnf)
    refine ⟨vp_in_nI (n := 1) (by decide) (by decide), ?_⟩
    rw [i1c, d3.1 80 (by decide), d3.1 81 (by decide), h7.1.2.1, h7.2.2.1]
    repeat (refine hX _ _ _ _ ?_; conv => whnf)
    refine htn L T e (y_b L T p) 0 60 0 60 _ _ hL b2 d1 d2 rfl rfl (fun D2 e1 e2 e3 => ?_)
    have g2 := d3.tr e3
    repeat (refine hX _ _ _ _ ?_; conv => whnf)
    refine ⟨vp_in_nI (n := 2) (by decide) (by decide), ?_⟩
    repeat (refine hX _ _ _ _ ?_; conv => whnf)
    refine ⟨vp_in_nI (n := 2) (by decide) (by decide), ?_⟩
    rw [i2c, g2.1 80 (by decide), g2.1 81 (by decide), h7.1.2.2.1, h7.2.2.2.1]
    repeat (refine hX _ _ _ _ ?_; conv => whnf)
    refine htn L T _ (y_b L T (y_b L T p)) 0 9 0 9 _ _ hL c2 e1 e2 rfl rfl (fun D3 i1 i2 i3 => ?_)
    have g3 := g2.tr i3
    repeat (refine hX _ _ _ _ ?_; conv => whnf)
    refine ⟨vp_in_nI (n := 3) (by decide) (by decide), ?_⟩
    repeat (refine hX _ _ _ _ ?_; conv => whnf)
    refine ⟨vp_in_nI (n := 3) (by decide) (by decide), ?_⟩
    rw [i3c, g3.1 80 (by decide), g3.1 81 (by decide), h7.1.2.2.2.1, h7.2.2.2.2.1]
    repeat (refine hX _ _ _ _ ?_; conv => whnf)
    refine htn L T _ (y_b L T (y_b L T (y_b L T p))) 1 9 1 9 _ _ hL k2 i1 i2 rfl rfl (fun D4 l1 l2 l3 => ?_)
    repeat (refine hX _ _ _ _ ?_; conv => whnf)
    refine hts L T _ (y_b L T (y_b L T (y_b L T (y_b L T p)))) D4 _ hL j2 l1 l2 (fun D5 f1 f2 f3 => ?_)
    have fr : y_Cf D D5 := (g3.tr l3).tr f3
    have hR5 : z_R D5 10 g := z_R.same hR (fun r h1 h2 => fr.1 r (by omega))
    repeat (refine hX _ _ _ _ ?_; conv => whnf)
    refine ⟨fun q => ?_, fun q => ?_⟩
    · have q0 := fun y => q (f1.e0.mpr y)
      repeat (refine hX _ _ _ _ ?_; conv => whnf)
      exact h D5 _ (by rw [he]) f1 f2 fr.2 (fun r _ hr => fr.1 r hr) (fun y => absurd y q0)
    · have q0 := f1.e0.mp q
      have hk : z_n g < 4 := by
        have w := (y_n1_none (y_n1_none (y_n1_none (y_s1_none q0).1).1).1).1
        rw [he] at w
        by_cases y : z_n g = 4
        · rw [if_pos y] at w; cases w
        · omega
      repeat (refine hX _ _ _ _ ?_; conv => whnf)
      refine hab 10 kd _ _ _ g D5 _ (by decide) hR5 hn24 hn4 (fun y => by omega) (fun _ D6 m1 m2 => ?_)
      repeat (refine hX _ _ _ _ ?_; conv => whnf)
      exact h D6 _ (by rw [he]) (f1.F (m2 42 (by omega)) (m2 43 (by omega))) (by rw [m2 42 (by omega)]; exact f2) (by rw [m2 42 (by omega)]; exact fr.2) (fun r h1 h2 => by rw [m2 r (by omega)]; exact fr.1 r h2) (fun _ => m1)
  repeat (refine hX _ _ _ _ ?_; conv => whnf)
  rw [hR.1, hn24]
  refine ⟨fun q => ?_, fun q => ?_⟩
  · have hk : ¬ z_n g = 4 := fun y => absurd q (by rw [y]; decide)
    exact go none D (by rw [if_neg hk]) hC hT.2.2 (y_Cf.rf D)
  · have hk : z_n g = 4 := by
      by_cases y : z_n g = 4
      · exact y
      · exact absurd (nI_lt (b := 4) (by omega) (by omega)) q
    repeat (refine hX _ _ _ _ ?_; conv => whnf)
    refine hbl L T none (y_f L T p) 5 D _ hC hT.2.1 (by decide) (by decide) (fun D1 d1 d2 d3 => ?_)
    exact go (some (5, y_f L T p)) D1 (by rw [if_pos hk]) d1 (by rw [d2 6 (by decide) (by decide)]; exact hT.2.2) d3
