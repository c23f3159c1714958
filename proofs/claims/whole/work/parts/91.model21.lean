/-! ===== the text: the reference, a line ===== -/
def y_Mh (D D' : pm_Mem) : Prop := (∀ r, r ≠ 67 → r ≠ 69 → D' r = D r) ∧ ∀ k, (k < 2 ∨ k = 3 ∨ k = 4 ∨ k = 5 ∨ 12 ≤ k) → D' 67 k = D 67 k
theorem y_Mh.tr {D D1 D2 : pm_Mem} (h1 : y_Mh D D1) (h2 : y_Mh D1 D2) : y_Mh D D2 := ⟨fun r hr hr2 => by rw [h2.1 r hr hr2]; exact h1.1 r hr hr2, fun k hk => by rw [h2.2 k hk]; exact h1.2 k hk⟩
theorem y_Mh.rf (D : pm_Mem) : y_Mh D D := ⟨fun _ _ _ => rfl, fun _ _ => rfl⟩
theorem y_Mg.h {D D' : pm_Mem} (h : y_Mg D D') : y_Mh D D' := ⟨h.1, fun k hk => h.2 k (by omega)⟩
def sp_readLine (Ga : pm_Ga) : Prop := ∀ (L p : Nat) (T : Nat → Int32) (g : z_P) (dt : Bool) (D : pm_Mem) (post : pm_Post), L ≤ 160 → p ≤ L → (∀ i, i < L → z_in (T i) 0 127) → M7 D → y_I g → y_row D g → y_k L T p ≠ 0 → D 67 2 = z_bi dt → y_M L T D p none → (∀ D' e g' dt' p', y_line L T p g dt = (e, g', dt', p') → y_M L T D' p' (y_rd L T p' e) → (e = none → y_row D' g' ∧ D' 67 2 = z_bi dt') → y_Mh D D' → post none D') → Ga 108 [.ref 67] D post
set_option maxHeartbeats 4000000 in
theorem t_readLine {N : Nat} {Ga : pm_Ga} (hnh : sp_nameHere Ga) (hin : sp_in Ga) (hfa : sp_fails Ga) (hro : sp_readsOn Ga) (hrb : sp_rmBead Ga) (hrd : sp_rmDrag Ga) (hrk : sp_rmKnock Ga) : sp_readLine (pm_up N Ga) := by
  intro L p T g dt D post hL hp hTT h7 hI hrow hk0 hd hM h
  have hw7 := y_wd_le L T p
  have hG := hI.1
  obtain ⟨m1, m2, m3⟩ := hM
  obtain ⟨t1, t2, t3, t4⟩ := m3 rfl
  obtain ⟨b1, b2, b3⟩ := y_b_in T hp
  have er := y_rd_n (L := L) (T := T) (p := p) none hk0
  refine ⟨rfl, fun X hX => ?_⟩
  replace hX : ∀ pc L st D, pm_F N Ga tbX5_readLine none post X pc L st D → X pc L st D := hX
  change X 0 [some (.ref 67), none] [] D
  repeat (refine hX _ _ _ _ ?_; conv => whnf)
  refine hnh L p T D _ hL hp h7 ⟨m1, m2, m3⟩ ?_
  repeat (refine hX _ _ _ _ ?_; conv => whnf)
  by_cases q7 : y_wd L T p = 7
  · rw [if_pos q7]
    have hl : y_line L T p g dt = (y_bm (y_rd L T p none) 2 (y_f L T p), g, dt, y_b L T p) := by unfold y_line; rw [if_pos q7]
    rw [er] at hl
    have hl : y_line L T p g dt = (some (2, y_f L T p), g, dt, y_b L T p) := hl
    refine m_ib hin 0 6 rfl rfl (fun y => absurd y (by decide)) (fun _ => ?_)
    repeat (refine hX _ _ _ _ ?_; conv => whnf)
    refine ⟨fun h => absurd h (by decide), fun _ => ?_⟩
    repeat (refine hX _ _ _ _ ?_; conv => whnf)
    refine hfa none (y_f L T p) 2 D _ m2 (fun _ => t1) (by decide) (by decide) (fun D1 d1 d2 d3 => ?_)
    repeat (refine hX _ _ _ _ ?_; conv => whnf)
    refine h D1 _ _ _ _ hl ⟨⟨by rw [d3 4 (by decide) (by decide)]; exact m1.1, fun i hi => by rw [d2 70 (by decide)]; exact m1.2 i hi⟩, by rw [y_rd_s]; exact d1, fun y => ?_⟩ (fun y => by cases y) ⟨fun r hr _ => d2 r hr, fun k hk => d3 k (by omega) (by omega)⟩
    rw [y_rd_s] at y
    cases y
  · rw [if_neg q7]
    have hw6 : y_wd L T p ≤ 6 := by omega
    have hib : z_ib (nI (y_wd L T p)) 0 6 = true := z_ib_t (by rw [z_tI (by omega)]; omega) (by rw [z_tI (by omega)]; omega)
    refine m_ib hin 0 6 rfl rfl (fun _ => ?_) (fun y => by rw [hib] at y; cases y)
    repeat (refine hX _ _ _ _ ?_; conv => whnf)
    refine ⟨fun _ => ?_, fun h => absurd h (by decide)⟩
    generalize hw : y_wd L T p = w at *
    have c116 : ∀ (D1 : pm_Mem) (p1 : Nat) (e1 : Option (Nat × Nat)) (g' : z_P) (dt' : Bool), p1 ≤ L → y_M L T D1 p1 (y_rd L T p1 e1) → y_Mh D D1 → y_line L T p g dt = (y_s1 L T p1 e1, g', dt', y_b L T p1) → (e1 = none → y_row D1 g') → D1 67 2 = z_bi dt' → X 116 [some (.ref 67), some (.int (nI w))] [] D1 := by
      intro D1 p1 e1 g' dt' hp1 n1 n2 hl hr h2
      obtain ⟨u1, u2, u3⟩ := y_b_in T hp1
      have c136 : ∀ D2 : pm_Mem, y_Mf D1 D2 → y_Me D2 (y_s1 L T p1 e1) → (y_s1 L T p1 e1 = none → D2 67 8 = nI (y_b L T p1)) → X 136 [some (.ref 67), some (.int (nI w))] [] D2 := by
        intro D2 x1 x2 x3
        repeat (refine hX _ _ _ _ ?_; conv => whnf)
        refine hro L (y_b L T p1) T _ D2 _ hL u2 hTT (n1.1.F x1) x2 x3 (fun D3 z1 z2 => ?_)
        repeat (refine hX _ _ _ _ ?_; conv => whnf)
        refine h D3 _ _ _ _ hl z1 (fun y => ⟨fun k hk => ?_, ?_⟩) ((n2.tr x1.g.h).tr z2.g.h)
        · rw [z2.1 69 (by decide), x1.1 69 (by decide)]
          exact hr (y_s1_none y).1 k hk
        · rw [z2.2 2 (by omega), x1.2 2 (by omega)]; exact h2
      obtain ⟨n11, n12, n13⟩ := n1
      repeat (refine hX _ _ _ _ ?_; conv => whnf)
      refine ⟨fun q => ?_, fun q => ?_⟩
      · have q0 : ¬ y_rd L T p1 e1 = none := fun y => q (n12.e0.mpr y)
        have es : y_s1 L T p1 e1 = y_rd L T p1 e1 := by
          unfold y_s1
          cases hh : y_rd L T p1 e1 with
          | none => exact absurd hh q0
          | some x => rw [y_se_s]
        exact c136 D1 (y_Mf.rf D1) (by rw [es]; exact n12) (fun y => absurd (es.symm.trans y) q0)
      · have q0 := n12.e0.mp q
        obtain ⟨s1, s2, s3, s4⟩ := n13 q0
        repeat (refine hX _ _ _ _ ?_; conv => whnf)
        rw [s3]
        refine ⟨fun q3 => ?_, fun q3 => ?_⟩
        · have q3 := (y_tm_3 (y_k5 L T p1)).mp q3
          have es : y_s1 L T p1 e1 = none := by unfold y_s1 y_se; rw [if_pos q3]; exact q0
          exact c136 D1 (y_Mf.rf D1) (by rw [es]; rw [q0] at n12; exact n12) (fun _ => s2)
        · have q3 : ¬ y_k L T p1 = 3 := fun y => q3 ((y_tm_3 (y_k5 L T p1)).mpr y)
          have es : y_s1 L T p1 e1 = y_bm none 2 (y_f L T p1) := by unfold y_s1 y_se; rw [if_neg q3, q0]
          rw [q0] at n12
          repeat (refine hX _ _ _ _ ?_; conv => whnf)
          refine hfa none (y_f L T p1) 2 D1 _ n12 (fun _ => s1) (by decide) (by decide) (fun D2 d1 d2 d3 => ?_)
          exact c136 D2 ⟨d2, fun k hk => d3 k (by omega) (by omega)⟩ (by rw [es]; exact d1) (fun y => by rw [es] at y; cases y)
    -- the faults of the name
    have c78 : ∀ (D1 : pm_Mem) (e2 : Option (Nat × Nat)), y_Me D1 e2 → (∀ r, r ≠ 67 → D1 r = D r) → (∀ k, k ≠ 6 → k ≠ 7 → D1 67 k = D 67 k) → e2 = (if w = 4 then (if dt = true then some (4, y_f L T p) else none) else if w = 5 ∨ w = 6 then (if z_k g = 12 then some (5, y_f L T p) else none) else (if z_n g = 4 then some (5, y_f L T p) else none)) → X 78 [some (.ref 67), some (.int (nI w))] [] D1 := by
      intro D1 e2 n1 n2 n3 he
      have hd1 : D1 67 2 = z_bi dt := by rw [n3 2 (by decide) (by decide)]; exact hd
      have c96 : ∀ b : Bool, b = (dt || decide (w = 4)) → X 96 [some (.ref 67), some (.int (nI w))] [.int (z_bi b), .ref 67] D1 := by
        intro b hb
        repeat (refine hX _ _ _ _ ?_; conv => whnf)
        refine ⟨by cases b; exact Or.inl rfl; exact Or.inr rfl, ?_⟩
        repeat (refine hX _ _ _ _ ?_; conv => whnf)
        have f2 : pm_mu D1 67 2 (z_bi b) 67 2 = z_bi b := pm_mu_at _ _ _ _
        have fk : ∀ k, k ≠ 2 → pm_mu D1 67 2 (z_bi b) 67 k = D1 67 k := fun k hk => pm_mu_k _ _ _ _ hk
        have fr : ∀ r, r ≠ 67 → pm_mu D1 67 2 (z_bi b) r = D r := fun r hr => by rw [pm_mu_ne _ _ _ hr]; exact n2 r hr
        generalize pm_mu D1 67 2 (z_bi b) = D2 at f2 fk fr ⊢
        have y1 : y_Ms L T D2 := ⟨by rw [fk 4 (by decide), n3 4 (by decide) (by decide)]; exact m1.1, fun i hi => by rw [fr 70 (by decide)]; exact m1.2 i hi⟩
        refine hro L (y_b L T p) T e2 D2 _ hL b2 hTT y1 (n1.F (fk 6 (by decide)) (fk 7 (by decide))) (fun _ => by rw [fk 8 (by decide), n3 8 (by decide) (by decide)]; exact t2) (fun D3 x1 x2 => ?_)
        have hh : y_Mh D D3 := ⟨fun r hr _ => by rw [x2.1 r hr]; exact fr r hr, fun k hk => by
          by_cases k12 : 12 ≤ k
          · rw [x2.2 k (Or.inr k12), fk k (by omega), n3 k (by omega) (by omega)]
          · rw [x2.2 k (by omega), fk k (by omega), n3 k (by omega) (by omega)]⟩
        have h32 : D3 67 2 = z_bi b := by rw [x2.2 2 (by omega)]; exact f2
        have hrow3 : y_row D3 g := fun k hk => by rw [x2.1 69 (by decide), fr 69 (by decide)]; exact hrow k hk
        repeat (refine hX _ _ _ _ ?_; conv => whnf)
        by_cases qr : y_rd L T (y_b L T p) e2 = none
        · refine ⟨fun _ => ?_, fun y => absurd (x1.2.1.le.mpr qr) y⟩
          repeat (refine hX _ _ _ _ ?_; conv => whnf)
          have e20 := y_rd_none qr
          rw [qr] at x1
          have hl := h
          have ly : y_line L T p g dt = y_line L T p g dt := rfl
          conv at ly => rhs; unfold y_line
          rw [hw, if_neg q7] at ly
          by_cases w4 : w = 4
          · rw [if_pos w4] at ly he
            rw [← he] at ly
            subst w4
            refine hrd L (y_b L T p) T g none D3 _ hL b2 hTT hrow3 x1 (fun D4 z1 z2 z3 => ?_)
            refine c116 D4 (y_b L T (y_b L T p)) (y_n1 L T 0 3 (y_b L T p) e2) _ _ ((y_b_in T b2).2.1) ?_ (hh.tr z3.h) ly (fun y => ?_) ?_
            · unfold y_n1; rw [qr]; exact z1
            · unfold y_n1 at y; rw [qr] at y; exact z2 y
            · rw [z3.2 2 (by omega), h32, hb]; cases dt <;> rfl
          · rw [if_neg w4] at ly he
            have hb' : b = dt := by rw [hb, decide_eq_false w4, Bool.or_false]
            by_cases w56 : w = 5 ∨ w = 6
            · rw [if_pos w56] at ly he
              rw [← he] at ly
              have hk : z_k g < 12 := by
                have := hG.2.2.2.1
                by_cases y : z_k g = 12
                · rw [if_pos y, e20] at he; cases he
                · omega
              refine hrk L (y_b L T p) w T g none D3 _ w56 hL b2 hTT hG.2.2.1 hk hrow3 x1 (fun D4 z1 z2 z3 => ?_)
              have bb := (y_b_in T (y_b_in T b2).2.1).2.1
              refine c116 D4 (y_b L T (y_b L T (y_b L T p))) (y_n1 L T 0 9 (y_b L T (y_b L T p)) (y_n1 L T 0 3 (y_b L T p) e2)) _ _ bb ?_ (hh.tr z3.h) ly (fun y => ?_) ?_
              · unfold y_n1; rw [qr]; exact z1
              · unfold y_n1 at y; rw [qr] at y; exact z2 y
              · rw [z3.2 2 (by omega), h32, hb']
            · rw [if_neg w56] at ly he
              rw [← he] at ly
              have hn : z_n g < 4 := by
                have := hG.2.1
                by_cases y : z_n g = 4
                · rw [if_pos y, e20] at he; cases he
                · omega
              refine hrb L (y_b L T p) w T g none D3 _ (by omega) hL b2 hTT hI hn hrow3 x1 (fun D4 z1 z2 z3 => ?_)
              have bb := (y_b_in T (y_b_in T (y_b_in T b2).2.1).2.1).2.1
              refine c116 D4 (y_b L T (y_b L T (y_b L T (y_b L T p)))) (y_n1 L T 1 9 (y_b L T (y_b L T (y_b L T p))) (y_n1 L T 0 9 (y_b L T (y_b L T p)) (y_n1 L T 0 60 (y_b L T p) e2))) _ _ bb ?_ (hh.tr z3.h) ly (fun y => ?_) ?_
              · unfold y_n1; rw [qr]; exact z1
              · unfold y_n1 at y; rw [qr] at y; exact z2 y
              · rw [z3.2 2 (by omega), h32, hb']
        · refine ⟨fun y => absurd (x1.2.1.le.mp y) qr, fun _ => ?_⟩
          repeat (refine hX _ _ _ _ ?_; conv => whnf)
          cases hx : y_rd L T (y_b L T p) e2 with
          | none => exact absurd hx qr
          | some x =>
            have ly : y_line L T p g dt = y_line L T p g dt := rfl
            conv at ly => rhs; unfold y_line
            rw [hw, if_neg q7] at ly
            have n1s : ∀ A B, y_n1 L T A B (y_b L T p) e2 = some x := fun A B => by unfold y_n1; rw [hx, y_nb_s]
            have fin : ∀ (p' : Nat) (g' : z_P) (dt' : Bool), y_line L T p g dt = (some x, g', dt', p') → post none D3 := fun p' g' dt' hl => h D3 _ _ _ _ hl ⟨x1.1, by rw [y_rd_s]; rw [hx] at x1; exact x1.2.1, fun y => by rw [y_rd_s] at y; cases y⟩ (fun y => by cases y) hh
            by_cases w4 : w = 4
            · rw [if_pos w4] at ly he
              rw [← he, n1s, y_s1_s] at ly
              exact fin _ _ _ ly
            · rw [if_neg w4] at ly he
              by_cases w56 : w = 5 ∨ w = 6
              · rw [if_pos w56] at ly he
                rw [← he, n1s, y_n1_s, y_s1_s] at ly
                exact fin _ _ _ ly
              · rw [if_neg w56] at ly he
                rw [← he, n1s, y_n1_s, y_n1_s, y_s1_s] at ly
                exact fin _ _ _ ly
      repeat (refine hX _ _ _ _ ?_; conv => whnf)
      rw [hd1]
      cases hdd : dt with
      | true =>
        refine ⟨fun _ => ?_, fun h => absurd h (by decide)⟩
        iterate 2 (refine hX _ _ _ _ ?_; conv => whnf)
        exact c96 true (by rw [hdd]; rfl)
      | false =>
        refine ⟨fun h => absurd h (by decide), fun _ => ?_⟩
        repeat (refine hX _ _ _ _ ?_; conv => whnf)
        refine ⟨fun q4 => ?_, fun q4 => ?_⟩
        · have q4 : ¬ w = 4 := fun y => q4 ((y_w_eq (w := w) (k := 4) (by omega) (by decide)).mpr y)
          iterate 1 (refine hX _ _ _ _ ?_; conv => whnf)
          exact c96 false (by rw [hdd, decide_eq_false q4]; rfl)
        · have q4 : w = 4 := (y_w_eq (w := w) (k := 4) (by omega) (by decide)).mp q4
          iterate 2 (refine hX _ _ _ _ ?_; conv => whnf)
          exact c96 true (by rw [hdd, decide_eq_true q4]; rfl)
    have c61 : ∀ (D1 : pm_Mem) (e2 : Option (Nat × Nat)), w ≠ 4 → y_Me D1 e2 → (∀ r, r ≠ 67 → D1 r = D r) → (∀ k, k ≠ 6 → k ≠ 7 → D1 67 k = D 67 k) → e2 = (if w = 4 then (if dt = true then some (4, y_f L T p) else none) else if w = 5 ∨ w = 6 then (if z_k g = 12 then some (5, y_f L T p) else none) else (if z_n g = 4 then some (5, y_f L T p) else none)) → X 61 [some (.ref 67), some (.int (nI w))] [] D1 := by
      intro D1 e2 w4 n1 n2 n3 he
      repeat (refine hX _ _ _ _ ?_; conv => whnf)
      exact ⟨fun _ => c78 D1 e2 n1 n2 n3 he, fun y => absurd ((y_w_eq (w := w) (k := 4) (by omega) (by decide)).mp y) w4⟩
    have i24 : (24 : Int32).toNatClampNeg = 24 := rfl
    have i49 : (49 : Int32).toNatClampNeg = 49 := rfl
    by_cases w3 : w ≤ 3
    · have c39 : ¬ z_n g = 4 → X 39 [some (.ref 67), some (.int (nI w))] [] D := by
        intro q4
        repeat (refine hX _ _ _ _ ?_; conv => whnf)
        exact ⟨fun _ => c61 D none (by omega) m2 (fun _ _ => rfl) (fun _ _ _ => rfl) (by rw [if_neg (by omega), if_neg (by omega), if_neg q4]), fun y => absurd (nI_lt (a := w) (b := 5) (by omega) (by omega)) y⟩
      repeat (refine hX _ _ _ _ ?_; conv => whnf)
      refine ⟨fun y => absurd y (nI_nlt (b := w) (a := 3) w3 (by decide)), fun _ => ?_⟩
      repeat (refine hX _ _ _ _ ?_; conv => whnf)
      refine ⟨vp_in_nI (n := 24) (by decide) (by decide), ?_⟩
      rw [i24, hrow 24 (by decide), hG.1]
      repeat (refine hX _ _ _ _ ?_; conv => whnf)
      refine ⟨fun y => ?_, fun y => ?_⟩
      · have q4 : z_n g = 4 := (y_w_eq (w := z_n g) (k := 4) (by have := hG.2.1; omega) (by decide)).mp y
        repeat (refine hX _ _ _ _ ?_; conv => whnf)
        refine hfa none (y_f L T p) 5 D _ m2 (fun _ => t1) (by decide) (by decide) (fun D1 d1 d2 d3 => ?_)
        exact c61 D1 _ (by omega) d1 d2 d3 (by rw [if_neg (by omega), if_neg (by omega), if_pos q4]; rfl)
      · exact c39 (fun q4 => y (by rw [q4]; rfl))
    · by_cases w4 : w = 4
      · have c78' := c78
        repeat (refine hX _ _ _ _ ?_; conv => whnf)
        refine ⟨fun _ => ?_, fun y => absurd (nI_lt (a := 3) (b := w) (by omega) (by omega)) y⟩
        repeat (refine hX _ _ _ _ ?_; conv => whnf)
        refine ⟨fun _ => ?_, fun y => absurd (nI_lt (a := w) (b := 5) (by omega) (by omega)) y⟩
        repeat (refine hX _ _ _ _ ?_; conv => whnf)
        refine ⟨fun y => absurd (show nI w = 4 by rw [w4]; rfl) y, fun _ => ?_⟩
        repeat (refine hX _ _ _ _ ?_; conv => whnf)
        rw [hd]
        cases hdd : dt with
        | true =>
          refine ⟨fun h => absurd h (by decide), fun _ => ?_⟩
          repeat (refine hX _ _ _ _ ?_; conv => whnf)
          refine hfa none (y_f L T p) 4 D _ m2 (fun _ => t1) (by decide) (by decide) (fun D1 d1 d2 d3 => ?_)
          exact c78 D1 _ d1 d2 d3 (by rw [if_pos w4, if_pos hdd]; rfl)
        | false =>
          refine ⟨fun _ => ?_, fun h => absurd h (by decide)⟩
          exact c78 D none m2 (fun _ _ => rfl) (fun _ _ _ => rfl) (by rw [if_pos w4, if_neg (by rw [hdd]; decide)])
      · have w56 : w = 5 ∨ w = 6 := by omega
        repeat (refine hX _ _ _ _ ?_; conv => whnf)
        refine ⟨fun _ => ?_, fun y => absurd (nI_lt (a := 3) (b := w) (by omega) (by omega)) y⟩
        repeat (refine hX _ _ _ _ ?_; conv => whnf)
        refine ⟨fun y => absurd y (nI_nlt (a := w) (b := 5) (by omega) (by omega)), fun _ => ?_⟩
        repeat (refine hX _ _ _ _ ?_; conv => whnf)
        refine ⟨vp_in_nI (n := 49) (by decide) (by decide), ?_⟩
        rw [i49, hrow 49 (by decide), hG.2.2.1]
        repeat (refine hX _ _ _ _ ?_; conv => whnf)
        refine ⟨fun y => ?_, fun y => ?_⟩
        · have q12 : ¬ z_k g = 12 := fun q => y (by rw [q]; rfl)
          exact c61 D none w4 m2 (fun _ _ => rfl) (fun _ _ _ => rfl) (by rw [if_neg w4, if_pos w56, if_neg q12])
        · have q12 : z_k g = 12 := by
            have := hG.2.2.2.1
            rw [z_eq, z_tI (by omega)] at y
            have y : (z_k g : Int) = 12 := y
            omega
          repeat (refine hX _ _ _ _ ?_; conv => whnf)
          refine hfa none (y_f L T p) 5 D _ m2 (fun _ => t1) (by decide) (by decide) (fun D1 d1 d2 d3 => ?_)
          exact c61 D1 _ w4 d1 d2 d3 (by rw [if_neg w4, if_pos w56, if_pos q12]; rfl)
