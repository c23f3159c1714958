/-! ===== luck, mean: the reference ===== -/
def z_be (g : z_P) (e : Int32) (h : z_P) : Int32 := if e = -4 then z_sw g h else if e ≤ z_last h then 1 else 0
def z_bm (g : z_P) (v e : Int32) (n m : Nat) : Int64 := z_wt v (nI m) n * (z_be g e (z_ms g (nI m) n)).toInt64
theorem z_bm_mn (g : z_P) (v : Int32) (n : Nat) : z_bm g v (-4) n = z_mn g v n := by
  funext m
  unfold z_bm z_mn z_be
  rw [if_pos rfl]
theorem z_bm_lk (g : z_P) (v e : Int32) (n : Nat) (he : e ≠ -4) : z_bm g v e n = z_lk g v e n := by
  funext m
  unfold z_bm z_lk z_be
  rw [if_neg he]
  by_cases q : e ≤ z_last (z_ms g (nI m) n)
  · rw [if_pos q, if_pos q]; rfl
  · rw [if_neg q, if_neg q]; rfl
theorem z_ms_tk {T : Int} {g : z_P} (l : Int32) (i : Nat) (h : z_G T (z_ms g l i)) : z_tk (-4) (z_bit l i) (z_ms g l i) = z_ms g l (i + 1) := by
  show z_move (z_pl (-4) (z_bit l i) (z_ms g l i)) = z_move (if z_bit l i = true then z_ms g l i else z_plan (z_ms g l i))
  cases q : z_bit l i with
  | true =>
    unfold z_pl
    rw [if_pos (Or.inr (Or.inr rfl)), if_pos rfl]
  | false =>
    rw [z_pl_none h, if_neg (by decide)]
def sp_byMisses (Ga : pm_Ga) : Prop := ∀ (z : z_Z) (v e : Int32) (n : Nat) (w : Int32) (D : pm_Mem) (post : pm_Post), zOk z → MR D z → n ≤ 8 → 0 ≤ (z_su (z_bm (zG z) v e n) (2 ^ n)).toInt → (∀ D', z_MT D D' → post (some (.long (z_fr (z_su (z_bm (zG z) v e n) (2 ^ n)) (z_pw 10 n) w))) D') → Ga 153 [.ref 67, .int v, .int e, .int (nI n), .int w] D post
set_option maxHeartbeats 4000000 in
theorem t_byMisses {N : Nat} {Ga : pm_Ga} (hco : sp_copies Ga) (htk : sp_tickOn Ga) (hla : sp_lastOn Ga) (ham : sp_amount Ga) (hlo : sp_lowest Ga) : sp_byMisses (pm_up N Ga) := by
  intro z v e n w D post hz hM hn8 hs0 h
  have hG := hz.1
  obtain ⟨g1, g2, g3, g4, g5, g6, g7, g8⟩ := hz.1
  have h256 : 2 ^ n ≤ 256 := Nat.pow_le_pow_right (n := 2) (by omega) hn8
  refine ⟨rfl, fun X hX => ?_⟩
  replace hX : ∀ pc L st D, pm_F N Ga tbX5_byMisses (some .long) post X pc L st D → X pc L st D := hX
  change X 0 [some (.ref 67), some (.int v), some (.int e), some (.int (nI n)), some (.int w), none, none, none, none, none, none, none, none, none] [] D
  iterate 6 (refine hX _ _ _ _ ?_; conv => whnf)
  have outer : ∀ (k m : Nat) (D2 : pm_Mem) (l10 l11 l12 l13 : Option Value), (match l10 with | some (.long _) => l11 = none | some (.double _) => l11 = none | _ => True) → m + k = 2 ^ n → z_MT D D2 → X 32 [some (.ref 67), some (.int v), some (.int e), some (.int (nI n)), some (.int w), some (.long (z_su (z_bm (zG z) v e n) m)), none, some (.long (z_pw 10 n)), none, some (.int (nI m)), l10, l11, l12, l13] [] D2 := by
    intro k
    induction k with
    | zero =>
      intro m D2 l10 l11 l12 l13 _ hm a2
      have hm : m = 2 ^ n := by omega
      subst hm
      repeat (refine hX _ _ _ _ ?_; conv => whnf)
      rw [z_sh1 _ hn8]
      refine ⟨fun _ => ?_, fun q => absurd (nI_le (Nat.le_refl _) (by omega)) q⟩
      repeat (refine hX _ _ _ _ ?_; conv => whnf)
      have hp := z_p10 _ hn8
      refine hlo _ _ w D2 _ hs0 hp.1 ?_
      repeat (refine hX _ _ _ _ ?_; conv => whnf)
      exact h D2 a2
    | succ k ih =>
      intro m D2 l10 l11 l12 l13 _ hm a2
      have es : z_su (z_bm (zG z) v e n) (m + 1) = z_su (z_bm (zG z) v e n) m + z_wt v (nI m) n * (z_be (zG z) e (z_ms (zG z) (nI m) n)).toInt64 := rfl
      have hM2 : MR D2 z := hM.tried a2
      repeat (refine hX _ _ _ _ ?_; conv => whnf)
      rw [z_sh1 _ hn8]
      refine ⟨fun q => absurd q (nI_ge (by omega) (by omega)), fun _ => ?_⟩
      repeat (refine hX _ _ _ _ ?_; conv => whnf)
      refine hco 0 208 D2 _ (by decide) (by decide) (by decide) (fun D3 f1 f2 => ?_)
      have hM3 : z_M D3 208 (zG z) := fun k hk => by
        rw [f1 k hk]
        exact hM2.1 k hk
      have a3 : z_MT D D3 := ⟨fun r h1 h2 h3 => by rw [f2.1 r h2]; exact a2.1 r h1 h2 h3, fun k h1 h2 h3 h4 => by rw [f2.1 67 (by decide)]; exact a2.2.1 k h1 h2 h3 h4, fun k hk => by rw [f2.2 k (by omega)]; exact a2.2.2 k hk⟩
      iterate 2 (refine hX _ _ _ _ ?_; conv => whnf)
      have inner : ∀ (j i : Nat) (D4 : pm_Mem) (l13 : Option Value), i + j = n → z_M D4 208 (z_ms (zG z) (nI m) i) → z_MT D D4 → X 54 [some (.ref 67), some (.int v), some (.int e), some (.int (nI n)), some (.int w), some (.long (z_su (z_bm (zG z) v e n) m)), none, some (.long (z_pw 10 n)), none, some (.int (nI m)), some (.long (z_wt v (nI m) i)), none, some (.int (nI i)), l13] [] D4 := by
        intro j
        induction j with
        | zero =>
          intro i D4 l13 hi b1 b2
          have hi : i = n := by omega
          subst hi
          obtain ⟨k1, k2⟩ := hG.ms (nI m) i (by omega)
          have hM4 : MR D4 z := hM.tried b2
          repeat (refine hX _ _ _ _ ?_; conv => whnf)
          refine ⟨fun _ => ?_, fun q => absurd (nI_le (Nat.le_refl _) (by omega)) q⟩
          repeat (refine hX _ _ _ _ ?_; conv => whnf)
          refine ⟨fun q => ?_, fun q => ?_⟩
          · repeat (refine hX _ _ _ _ ?_; conv => whnf)
            refine hla 208 _ D4 _ (by decide) b1 k1.1 k1.2.1 ?_
            repeat (refine hX _ _ _ _ ?_; conv => whnf)
            have eb : z_be (zG z) e (z_ms (zG z) (nI m) i) = if e ≤ z_last (z_ms (zG z) (nI m) i) then 1 else 0 := if_neg q
            refine ⟨fun q2 => ?_, fun q2 => ?_⟩
            · rw [if_neg (by rw [z_le]; have := z_lt.mp q2; omega)] at eb
              rw [eb] at es
              iterate 7 (refine hX _ _ _ _ ?_; conv => whnf)
              rw [nI_1]
              have := ih (m + 1) D4 (some (.long (z_wt v (nI m) i))) none (some (.int (nI i))) l13 rfl (by omega) b2
              rw [es] at this
              exact this
            · rw [if_pos (by rw [z_le]; have : ¬ (z_last (z_ms (zG z) (nI m) i)).toInt < e.toInt := fun y => q2 (z_lt.mpr y); omega)] at eb
              rw [eb] at es
              iterate 8 (refine hX _ _ _ _ ?_; conv => whnf)
              rw [nI_1]
              have := ih (m + 1) D4 (some (.long (z_wt v (nI m) i))) none (some (.int (nI i))) l13 rfl (by omega) b2
              rw [es] at this
              exact this
          · have eb : z_be (zG z) e (z_ms (zG z) (nI m) i) = z_abs (z_last (z_ms (zG z) (nI m) i) - z_last (zG z)) := if_pos q
            rw [eb] at es
            repeat (refine hX _ _ _ _ ?_; conv => whnf)
            refine hla 208 _ D4 _ (by decide) b1 k1.1 k1.2.1 ?_
            repeat (refine hX _ _ _ _ ?_; conv => whnf)
            refine hla 0 (zG z) D4 _ (by decide) hM4.1 g1 g2 ?_
            repeat (refine hX _ _ _ _ ?_; conv => whnf)
            refine ham _ D4 _ ?_
            iterate 7 (refine hX _ _ _ _ ?_; conv => whnf)
            rw [nI_1]
            have := ih (m + 1) D4 (some (.long (z_wt v (nI m) i))) none (some (.int (nI i))) l13 rfl (by omega) b2
            rw [es] at this
            exact this
        | succ j ihj =>
          intro i D4 l13 hi b1 b2
          obtain ⟨k1, k2⟩ := hG.ms (nI m) i (by omega)
          have hM4 : MR D4 z := hM.tried b2
          have ew : z_wt v (nI m) (i + 1) = z_wt v (nI m) i * (if z_bit (nI m) i = true then v.toInt64 else (10 - v).toInt64) := rfl
          have et := z_ms_tk (nI m) i k1
          repeat (refine hX _ _ _ _ ?_; conv => whnf)
          refine ⟨fun q => absurd q (nI_ge (by omega) (by omega)), fun _ => ?_⟩
          repeat (refine hX _ _ _ _ ?_; conv => whnf)
          refine ⟨fun q => ?_, fun q => ?_⟩
          · have hb : z_bit (nI m) i = false := decide_eq_false q
            rw [if_neg (by rw [hb]; decide)] at ew
            repeat (refine hX _ _ _ _ ?_; conv => whnf)
            refine ⟨fun _ => ?_, fun h => absurd h (by decide)⟩
            repeat (refine hX _ _ _ _ ?_; conv => whnf)
            refine htk 208 (-4) 0 (z_bit (nI m) i) _ (zG z) D4 _ (9999 + i) 9999 (by decide) (by omega) b1 k1 hM4.2.2.2.2.2.1.2 (by rw [hb]; rfl) (Or.inr ⟨by decide, hM4.1⟩) hG (fun D5 c1 c2 c3 c4 _ _ _ => ?_)
            rw [et] at c1
            iterate 2 (refine hX _ _ _ _ ?_; conv => whnf)
            rw [nI_1, ← ew]
            exact ihj (i + 1) D5 _ (by omega) c1 ⟨fun r h1 h2 h3 => by rw [c2 r h1 h2 h3]; exact b2.1 r h1 h2 h3, fun k h1 h2 h3 h4 => by rw [c3 k h1 h2 h3 h4]; exact b2.2.1 k h1 h2 h3 h4, fun k hk => by rw [c4 k (by omega)]; exact b2.2.2 k hk⟩
          · have hb : z_bit (nI m) i = true := decide_eq_true q
            rw [if_pos hb] at ew
            repeat (refine hX _ _ _ _ ?_; conv => whnf)
            refine ⟨fun h => absurd h (by decide), fun _ => ?_⟩
            repeat (refine hX _ _ _ _ ?_; conv => whnf)
            refine htk 208 (-4) 1 (z_bit (nI m) i) _ (zG z) D4 _ (9999 + i) 9999 (by decide) (by omega) b1 k1 hM4.2.2.2.2.2.1.2 (by rw [hb]; rfl) (Or.inr ⟨by decide, hM4.1⟩) hG (fun D5 c1 c2 c3 c4 _ _ _ => ?_)
            rw [et] at c1
            iterate 2 (refine hX _ _ _ _ ?_; conv => whnf)
            rw [nI_1, ← ew]
            exact ihj (i + 1) D5 _ (by omega) c1 ⟨fun r h1 h2 h3 => by rw [c2 r h1 h2 h3]; exact b2.1 r h1 h2 h3, fun k h1 h2 h3 h4 => by rw [c3 k h1 h2 h3 h4]; exact b2.2.1 k h1 h2 h3 h4, fun k hk => by rw [c4 k (by omega)]; exact b2.2.2 k hk⟩
      exact inner n 0 D3 _ (by omega) hM3 a3
  have tens : ∀ (k i : Nat), i + k = n → X 9 [some (.ref 67), some (.int v), some (.int e), some (.int (nI n)), some (.int w), some (.long 0), none, some (.long (z_pw 10 i)), none, some (.int (nI i)), none, none, none, none] [] D := by
    intro k
    induction k with
    | zero =>
      intro i hi
      have hi : i = n := by omega
      subst hi
      repeat (refine hX _ _ _ _ ?_; conv => whnf)
      refine ⟨fun _ => ?_, fun q => absurd (nI_le (Nat.le_refl _) (by omega)) q⟩
      iterate 2 (refine hX _ _ _ _ ?_; conv => whnf)
      exact outer (2 ^ i) 0 D none none none none trivial (by omega) ⟨fun _ _ _ _ => rfl, fun _ _ _ _ _ => rfl, fun _ _ => rfl⟩
    | succ k ih =>
      intro i hi
      repeat (refine hX _ _ _ _ ?_; conv => whnf)
      refine ⟨fun q => absurd q (nI_ge (by omega) (by omega)), fun _ => ?_⟩
      iterate 6 (refine hX _ _ _ _ ?_; conv => whnf)
      rw [nI_1]
      exact ih (i + 1) (by omega)
  exact tens n 0 (by omega)
set_option maxHeartbeats 4000000 in
theorem t_m_luck {N : Nat} {Ga : pm_Ga} (hin : sp_in Ga) (hbm : sp_byMisses Ga) : msl4 (pm_up N Ga) 154 r_luck := by
  intro z v e n w D post hz hM h
  have hG := hz.1
  obtain ⟨g1, g2, g3, g4, g5, g6, g7, g8⟩ := hz.1
  obtain ⟨v24, c24⟩ := z_lit (k := 24) 24 (by decide) (by decide)
  unfold r_luck at h
  refine ⟨rfl, fun X hX => ?_⟩
  replace hX : ∀ pc L st D, pm_F N Ga tbX5_luck (some .long) post X pc L st D → X pc L st D := hX
  change X 0 [some (.ref 67), some (.int v), some (.int e), some (.int n), some (.int w)] [] D
  repeat (refine hX _ _ _ _ ?_; conv => whnf)
  refine m_ib hin 0 10 rfl rfl (fun q1 => ?_) (fun q1 => ?_)
  · repeat (refine hX _ _ _ _ ?_; conv => whnf)
    refine ⟨fun h => absurd h (by decide), fun _ => ?_⟩
    repeat (refine hX _ _ _ _ ?_; conv => whnf)
    refine m_ib hin 0 300 rfl rfl (fun q2 => ?_) (fun q2 => ?_)
    · repeat (refine hX _ _ _ _ ?_; conv => whnf)
      refine ⟨fun h => absurd h (by decide), fun _ => ?_⟩
      repeat (refine hX _ _ _ _ ?_; conv => whnf)
      refine m_ib hin 0 8 rfl rfl (fun q3 => ?_) (fun q3 => ?_)
      · obtain ⟨e1, e2, e3, e4⟩ := z_ib_of q3 (by decide) (by decide)
        have hn8 : z_nt n ≤ 8 := by omega
        have hv := z_ib_iff.mp q1
        repeat (refine hX _ _ _ _ ?_; conv => whnf)
        refine ⟨fun h => absurd h (by decide), fun _ => ?_⟩
        repeat (refine hX _ _ _ _ ?_; conv => whnf)
        refine m_ib hin 0 1 rfl rfl (fun q4 => ?_) (fun q4 => ?_)
        · rw [if_pos (by rw [q1, q2, q3, q4]; rfl)] at h
          repeat (refine hX _ _ _ _ ?_; conv => whnf)
          refine ⟨fun _ => ?_, fun h => absurd h (by decide)⟩
          repeat (refine hX _ _ _ _ ?_; conv => whnf)
          refine ⟨v24, ?_⟩
          rw [c24, z_M0 hM.1 (by decide)]
          repeat (refine hX _ _ _ _ ?_; conv => whnf)
          refine ⟨fun q0 => ?_, fun q0 => ?_⟩
          · have hn0 : z_n (zG z) ≠ 0 := fun y => q0 (by rw [g1, y]; rfl)
            rw [if_neg hn0] at h
            have h256 : 2 ^ z_nt n ≤ 256 := Nat.pow_le_pow_right (n := 2) (by omega) hn8
            have hs := z_su_in (fun m _ => z_lk_in hv (zG z) e hn8 m) _ h256
            have he : e ≠ -4 := fun y => by
              have := (z_ib_iff.mp q2).1
              rw [y] at this
              exact absurd this (by decide)
            rw [← z_bm_lk _ _ _ _ he] at h hs
            repeat (refine hX _ _ _ _ ?_; conv => whnf)
            rw [e1]
            refine hbm z v e (z_nt n) w D _ hz hM hn8 (l_in_0 hs) (fun D' f => ?_)
            repeat (refine hX _ _ _ _ ?_; conv => whnf)
            exact h D' (hM.tried f) f.out
          · have hn0 : z_n (zG z) = 0 := by
              show (zG z 24).toNatClampNeg = 0
              rw [q0]
              rfl
            rw [if_pos hn0] at h
            repeat (refine hX _ _ _ _ ?_; conv => whnf)
            exact h D hM (fun _ _ => rfl)
        · rw [if_neg (by rw [q1, q2, q3, q4]; decide)] at h
          repeat (refine hX _ _ _ _ ?_; conv => whnf)
          refine ⟨fun h => absurd h (by decide), fun _ => ?_⟩
          repeat (refine hX _ _ _ _ ?_; conv => whnf)
          exact h D hM (fun _ _ => rfl)
      · rw [if_neg (by rw [q1, q2, q3]; simp)] at h
        repeat (refine hX _ _ _ _ ?_; conv => whnf)
        refine ⟨fun _ => ?_, fun h => absurd h (by decide)⟩
        repeat (refine hX _ _ _ _ ?_; conv => whnf)
        exact h D hM (fun _ _ => rfl)
    · rw [if_neg (by rw [q1, q2]; simp)] at h
      repeat (refine hX _ _ _ _ ?_; conv => whnf)
      refine ⟨fun _ => ?_, fun h => absurd h (by decide)⟩
      repeat (refine hX _ _ _ _ ?_; conv => whnf)
      exact h D hM (fun _ _ => rfl)
  · rw [if_neg (by rw [q1]; simp)] at h
    repeat (refine hX _ _ _ _ ?_; conv => whnf)
    refine ⟨fun _ => ?_, fun h => absurd h (by decide)⟩
    repeat (refine hX _ _ _ _ ?_; conv => whnf)
    exact h D hM (fun _ _ => rfl)
set_option maxHeartbeats 4000000 in
theorem t_m_mean {N : Nat} {Ga : pm_Ga} (hin : sp_in Ga) (hbm : sp_byMisses Ga) : msl3 (pm_up N Ga) 155 r_mean := by
  intro z v n w D post hz hM h
  have hG := hz.1
  unfold r_mean at h
  refine ⟨rfl, fun X hX => ?_⟩
  replace hX : ∀ pc L st D, pm_F N Ga tbX5_mean (some .long) post X pc L st D → X pc L st D := hX
  change X 0 [some (.ref 67), some (.int v), some (.int n), some (.int w)] [] D
  repeat (refine hX _ _ _ _ ?_; conv => whnf)
  refine m_ib hin 0 10 rfl rfl (fun q1 => ?_) (fun q1 => ?_)
  · repeat (refine hX _ _ _ _ ?_; conv => whnf)
    refine ⟨fun h => absurd h (by decide), fun _ => ?_⟩
    repeat (refine hX _ _ _ _ ?_; conv => whnf)
    refine m_ib hin 0 8 rfl rfl (fun q3 => ?_) (fun q3 => ?_)
    · obtain ⟨e1, e2, e3, e4⟩ := z_ib_of q3 (by decide) (by decide)
      have hn8 : z_nt n ≤ 8 := by omega
      have hv := z_ib_iff.mp q1
      repeat (refine hX _ _ _ _ ?_; conv => whnf)
      refine ⟨fun h => absurd h (by decide), fun _ => ?_⟩
      repeat (refine hX _ _ _ _ ?_; conv => whnf)
      refine m_ib hin 0 1 rfl rfl (fun q4 => ?_) (fun q4 => ?_)
      · rw [if_pos (by rw [q1, q3, q4]; rfl)] at h
        have h256 : 2 ^ z_nt n ≤ 256 := Nat.pow_le_pow_right (n := 2) (by omega) hn8
        have hs := z_su_in (fun m _ => z_mn_in hv hG hn8 m) _ h256
        rw [← z_bm_mn] at h hs
        repeat (refine hX _ _ _ _ ?_; conv => whnf)
        refine ⟨fun _ => ?_, fun h => absurd h (by decide)⟩
        repeat (refine hX _ _ _ _ ?_; conv => whnf)
        rw [e1]
        refine hbm z v (-4) (z_nt n) w D _ hz hM hn8 (l_in_0 hs) (fun D' f => ?_)
        repeat (refine hX _ _ _ _ ?_; conv => whnf)
        exact h D' (hM.tried f) f.out
      · rw [if_neg (by rw [q1, q3, q4]; decide)] at h
        repeat (refine hX _ _ _ _ ?_; conv => whnf)
        refine ⟨fun h => absurd h (by decide), fun _ => ?_⟩
        repeat (refine hX _ _ _ _ ?_; conv => whnf)
        exact h D hM (fun _ _ => rfl)
    · rw [if_neg (by rw [q1, q3]; simp)] at h
      repeat (refine hX _ _ _ _ ?_; conv => whnf)
      refine ⟨fun _ => ?_, fun h => absurd h (by decide)⟩
      repeat (refine hX _ _ _ _ ?_; conv => whnf)
      exact h D hM (fun _ _ => rfl)
  · rw [if_neg (by rw [q1]; simp)] at h
    repeat (refine hX _ _ _ _ ?_; conv => whnf)
    refine ⟨fun _ => ?_, fun h => absurd h (by decide)⟩
    repeat (refine hX _ _ _ _ ?_; conv => whnf)
    exact h D hM (fun _ _ => rfl)
