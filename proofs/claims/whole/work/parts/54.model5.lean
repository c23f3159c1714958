/-! a page is moved by what stands below 25 and at 50 -/
theorem z_ag_st {g h : z_P} (e : ∀ k, k < 25 → h k = g k) {b : Nat} (hb : b ≤ 4) : z_st h b = z_st g b := by
  unfold z_st
  rw [e (16 + b) (by omega), e (15 + b) (by omega), e (4 + b) (by omega)]
theorem z_ag_pull {g h : z_P} (e : ∀ k, k < 25 → h k = g k) {b : Nat} (hb : b ≤ 4) : z_pull h b = z_pull g b := by
  unfold z_pull
  rw [z_ag_st e hb, e b (by omega), e (8 + b) (by omega)]
theorem z_ag_ns {g h : z_P} (e : ∀ k, k < 25 → h k = g k) (e50 : h 50 = g 50) {b : Nat} (hb : b < 4) : z_ns h b = z_ns g b := by
  unfold z_ns z_pn z_n
  rw [z_ag_pull e (show b ≤ 4 by omega), z_ag_pull e (show b + 1 ≤ 4 by omega), e 24 (by omega), e (20 + b) (by omega), e (12 + b) (by omega), e50]
theorem z_ag_to {g h : z_P} (e : ∀ k, k < 25 → h k = g k) (e50 : h 50 = g 50) {b : Nat} (hb : b < 4) : z_to h b = z_to g b := by
  unfold z_to
  rw [z_ag_ns e e50 hb, e (16 + b) (by omega)]
theorem z_ag_np {g h : z_P} (e : ∀ k, k < 25 → h k = g k) (e50 : h 50 = g 50) {b : Nat} (hb : b < 4) : z_np h b = z_np g b ∧ z_fs h b = z_fs g b := by
  unfold z_np z_fs
  rw [z_ag_to e e50 hb, z_ag_ns e e50 hb]
  exact ⟨rfl, rfl⟩
theorem z_move_up {g : z_P} {q : Nat} {v : Int32} (hq : 25 ≤ q) (hq2 : q < 50) (hn : z_n g ≤ 4) : z_move (z_up g q v) = z_up (z_move g) q v := by
  have e : ∀ k, k < 25 → z_up g q v k = g k := fun k hk => z_up_ne g v (by omega)
  have e50 : z_up g q v 50 = g 50 := z_up_ne g v (by omega)
  funext k
  unfold z_move
  rw [z_n_up (by omega)]
  unfold z_mv
  by_cases k1 : k = 51
  · subst k1
    rw [z_up_ne g v (show 51 ≠ q by omega)]
    unfold z_up
    rw [if_pos rfl, if_neg (by omega), if_pos rfl]
  · rw [z_up_ne _ _ k1]
    by_cases k2 : k = q
    · subst k2
      rw [z_up_at, if_neg (by omega), if_neg (by omega), z_up_at]
    · have r1 : ∀ (X : z_P) (a : Int32), z_up (z_up X 51 a) q v k = X k := fun X a => by rw [z_up_ne _ v k2, z_up_ne _ _ k1]
      rw [r1]
      by_cases k3 : 16 ≤ k ∧ k < 16 + z_n g
      · rw [if_pos k3, if_pos k3, (z_ag_np e e50 (by omega)).1]
      · rw [if_neg k3, if_neg k3]
        by_cases k4 : 20 ≤ k ∧ k < 20 + z_n g
        · rw [if_pos k4, if_pos k4, (z_ag_np e e50 (by omega)).2]
        · rw [if_neg k4, if_neg k4, z_up_ne _ v k2]
theorem z_up_comm (g : z_P) {q r : Nat} (v w : Int32) (h : q ≠ r) : z_up (z_up g q v) r w = z_up (z_up g r w) q v := by
  funext k
  unfold z_up
  by_cases e1 : k = r
  · rw [if_pos e1, if_neg (by omega), if_pos e1]
  · rw [if_neg e1, if_neg e1]
theorem z_hit_up {T : Int} {g : z_P} (h : z_G T g) {q : Nat} {v : Int32} (hq : 25 ≤ q) (b w : Int32) : z_hit (z_up g q v) b w = z_up (z_hit g b w) q v := by
  unfold z_hit
  rw [z_up_ne g v (show 24 ≠ q by omega)]
  by_cases c : 0 ≤ b ∧ b < g 24
  · have h1 := z_lt.mp c.2
    have h2 : (0 : Int) ≤ b.toInt := z_le.mp c.1
    have hn := h.2.1
    rw [h.1, z_tI (by omega)] at h1
    have hj : b.toNatClampNeg < 4 := by show b.toInt.toNat < 4; omega
    rw [if_pos c, if_pos c, z_up_ne g v (show 20 + b.toNatClampNeg ≠ q by omega), z_up_comm _ _ _ (show q ≠ 20 + b.toNatClampNeg by omega)]
  · rw [if_neg c, if_neg c]
theorem z_clamp_id {v : Int32} (h : z_in v (-40) 40) : z_clamp v = v := by
  have e1 : (40 : Int32).toInt = 40 := rfl
  have e2 : (-40 : Int32).toInt = -40 := rfl
  unfold z_clamp
  rw [if_neg (by rw [z_lt]; have := h.2; omega), if_neg (by rw [z_lt]; have := h.1; omega)]
theorem z_hit_0 {T : Int} {g : z_P} (h : z_G T g) (b : Int32) : z_hit g b 0 = g := by
  rcases z_hit_cases h b 0 with e | ⟨j, hj, e⟩
  · exact e
  · rw [e, Int32.add_zero, z_clamp_id (h.2.2.2.2.2.2.1 j hj).2.2.2.2.2]
    funext k
    unfold z_up
    split
    · rename_i q; rw [q]
    · rfl
/-- a knock by 0 is a knock that is lost -/
theorem z_lost_run {T : Int} {g : z_P} (h : z_G T g) {i : Nat} (hi : i < z_k g) : ∀ n : Nat, T + n < 2147483647 → z_run (z_up g (37 + i) 0) n = z_up (z_runL (nI i) g n) (37 + i) 0
  | 0, _ => rfl
  | n + 1, hT => by
    have ih := z_lost_run h hi n (by omega)
    obtain ⟨k1, k2, k3⟩ := h.runL (nI i) n (by omega)
    obtain ⟨p1, p2, p3⟩ := k1.pl (nI i) false
    have k12 := k1.2.2.2.1
    obtain ⟨y1, y2, y3⟩ := k1.by0 (i := i) (by omega)
    show z_move (z_plan (z_run (z_up g (37 + i) 0) n)) = z_up (z_move (z_pl (nI i) false (z_runL (nI i) g n))) (37 + i) 0
    rw [ih, ← z_move_up (by omega) (by omega) p1.2.1]
    congr 1
    generalize z_runL (nI i) g n = u at k1 k2 k3 k12 y1 y2 y3
    unfold z_plan z_pl
    have et : z_turn (z_up u (37 + i) 0) = z_turn u := by
      unfold z_turn
      rw [y3, z_up_ne u _ (by omega)]
    rw [y3, et, if_neg (by omega)]
    have htl := z_turn_lt k1 (by omega)
    by_cases e : z_turn u = i
    · rw [if_pos (Or.inr (Or.inl (by rw [e]))), e, z_up_at, z_hit_0 y1]
    · have n2 : ¬ (z_k u = 0 ∨ nI (z_turn u) = nI i ∨ false = true) := by
        rintro (q | q | q)
        · omega
        · exact e ((nI_eq (by omega) (by omega)).mp q)
        · cases q
      rw [if_neg n2, z_up_ne u _ (show 25 + z_turn u ≠ 37 + i by omega), z_up_ne u _ (show 37 + z_turn u ≠ 37 + i by omega)]
      exact z_hit_up k1 (by omega) _ _
theorem z_lost_wid {T : Int} {g : z_P} (h : z_G T g) {i : Nat} (hi : i < z_k g) : ∀ n : Nat, T + n < 2147483647 → z_widL (nI i) g g n = z_wid (z_up g (37 + i) 0) n
  | 0, _ => rfl
  | n + 1, hT => by
    obtain ⟨k1, k2, k3⟩ := h.runL (nI i) (n + 1) (by omega)
    have k12 := h.2.2.2.1
    show z_max (z_widL (nI i) g g n) (z_abs (z_last (z_runL (nI i) g (n + 1)) - z_last g)) = z_max (z_wid (z_up g (37 + i) 0) n) (z_abs (z_last (z_run (z_up g (37 + i) 0) (n + 1)) - z_last (z_up g (37 + i) 0)))
    rw [z_lost_wid h hi n (by omega), z_lost_run h hi (n + 1) hT, z_last_up (by omega) k1.2.1, z_last_up (by omega) h.2.1]
set_option maxHeartbeats 4000000 in
theorem t_m_miss {N : Nat} {Ga : pm_Ga} (hin : sp_in Ga) (htg : sp_ticksGo Ga) : ms2 (pm_up N Ga) 151 r_miss := by
  intro z n w D post hz hM h
  have hG := hz.1
  obtain ⟨g1, g2, g3, g4, g5, g6, g7, g8⟩ := hz.1
  obtain ⟨v49, c49⟩ := z_lit (k := 49) 49 (by decide) (by decide)
  unfold r_miss at h
  refine ⟨rfl, fun X hX => ?_⟩
  replace hX : ∀ pc L st D, pm_F N Ga tbX5_miss (some .int) post X pc L st D → X pc L st D := hX
  change X 0 [some (.ref 67), some (.int n), some (.int w), none, none, none, none] [] D
  repeat (refine hX _ _ _ _ ?_; conv => whnf)
  refine m_ib hin 0 100 rfl rfl (fun e => ?_) (fun e => ?_)
  · obtain ⟨e1, e2, e3, e4⟩ := z_ib_of e (by decide) (by decide)
    repeat (refine hX _ _ _ _ ?_; conv => whnf)
    refine ⟨fun h => absurd h (by decide), fun _ => ?_⟩
    repeat (refine hX _ _ _ _ ?_; conv => whnf)
    refine m_ib hin 0 1 rfl rfl (fun e5 => ?_) (fun e5 => ?_)
    · rw [if_pos (by rw [e, e5]; rfl)] at h
      repeat (refine hX _ _ _ _ ?_; conv => whnf)
      refine ⟨fun _ => ?_, fun h => absurd h (by decide)⟩
      repeat (refine hX _ _ _ _ ?_; conv => whnf)
      rw [e1]
      refine htg 0 (z_nt n) (-4) (zG z) (zG z) D _ 9999 9999 (Or.inl (by omega)) (by omega) (by omega) hM.1 hG hM.2.2.2.2.2.1.2 hM.1 hG (fun D1 f1 f2 f3 f4 => ?_)
      rw [z_widL_none hG rfl (z_nt n) (by omega), ← e1]
      iterate 5 (refine hX _ _ _ _ ?_; conv => whnf)
      have loop : ∀ (m i : Nat) (wh l : Int32) (D2 : pm_Mem) (l6 : Option Value), i + m = z_k (zG z) → z_MT D D2 → mP D (z_pk2 (z_bst (fun i => z_wid (z_up (zG z) (37 + i) 0) (z_nt n)) m i wh l) w, z) post → X 38 [some (.ref 67), some (.int n), some (.int w), some (.int l), some (.int wh), some (.int (nI i)), l6] [] D2 := by
        intro m
        induction m with
        | zero =>
          intro i wh l D2 l6 hi c2 hp
          replace hp : post (some (.int (if wh = -4 ∨ w = 0 then wh else l))) D2 := hp D2 (hM.tried c2) c2.out
          have hi : i = z_k (zG z) := by omega
          repeat (refine hX _ _ _ _ ?_; conv => whnf)
          refine ⟨v49, ?_⟩
          rw [c49, z_M0 (hM.1.tried c2 (by omega)) (by decide), g3, hi]
          repeat (refine hX _ _ _ _ ?_; conv => whnf)
          refine ⟨fun _ => ?_, fun q => absurd (nI_le (Nat.le_refl _) (by omega)) q⟩
          repeat (refine hX _ _ _ _ ?_; conv => whnf)
          refine ⟨fun q => ?_, fun q => ?_⟩
          · rw [if_pos (Or.inl q)] at hp
            repeat (refine hX _ _ _ _ ?_; conv => whnf)
            exact hp
          · repeat (refine hX _ _ _ _ ?_; conv => whnf)
            refine ⟨fun q2 => ?_, fun q2 => ?_⟩
            · rw [if_neg (fun o => o.elim q q2)] at hp
              repeat (refine hX _ _ _ _ ?_; conv => whnf)
              exact hp
            · rw [if_pos (Or.inr q2)] at hp
              repeat (refine hX _ _ _ _ ?_; conv => whnf)
              exact hp
        | succ m ih =>
          intro i wh l D2 l6 hi c2 hp
          have hik : i < z_k (zG z) := by omega
          have ef : z_bst (fun i => z_wid (z_up (zG z) (37 + i) 0) (z_nt n)) (m + 1) i wh l = if z_wid (z_up (zG z) (37 + i) 0) (z_nt n) < l then z_bst (fun i => z_wid (z_up (zG z) (37 + i) 0) (z_nt n)) m (i + 1) (nI i) (z_wid (z_up (zG z) (37 + i) 0) (z_nt n)) else z_bst (fun i => z_wid (z_up (zG z) (37 + i) 0) (z_nt n)) m (i + 1) wh l := rfl
          rw [ef] at hp
          have hMz : z_M (pm_mu D2 67 19 (nI i)) 0 (zG z) := fun k hk => by rw [pm_mu_r _ _ _ _ (by decide)]; exact hM.1.tried c2 (by omega) k hk
          repeat (refine hX _ _ _ _ ?_; conv => whnf)
          refine ⟨v49, ?_⟩
          rw [c49, z_M0 (hM.1.tried c2 (by omega)) (by decide), g3]
          repeat (refine hX _ _ _ _ ?_; conv => whnf)
          refine ⟨fun q => absurd q (nI_ge (by omega) (by omega)), fun _ => ?_⟩
          repeat (refine hX _ _ _ _ ?_; conv => whnf)
          rw [e1]
          refine htg 0 (z_nt n) (nI i) (zG z) (zG z) _ _ 9999 9999 (Or.inl (by omega)) (by omega) (by omega) hMz hG (pm_mu_at _ _ _ _) hMz hG (fun D3 s1 s2 s3 s4 => ?_)
          rw [z_lost_wid hG hik (z_nt n) (by omega), ← e1]
          have c3 : z_MT D (pm_mu D3 67 19 (-4)) := by
            refine ⟨fun r a b c => ?_, fun k a b c d => ?_, fun k hk => ?_⟩
            · rw [pm_mu_ne _ _ _ a, s2.1 r a b c, pm_mu_ne _ _ _ a]; exact c2.1 r a b c
            · by_cases e9 : k = 19
              · subst e9
                rw [pm_mu_at]
                exact hM.2.2.2.2.2.1.2.symm
              · rw [pm_mu_k _ _ _ _ e9, s2.2.1 k a b c d, pm_mu_k _ _ _ _ e9]; exact c2.2.1 k a b c d
            · rw [pm_mu_r _ _ _ _ (by decide), s2.2.2 k hk, pm_mu_r _ _ _ _ (by decide)]; exact c2.2.2 k hk
          repeat (refine hX _ _ _ _ ?_; conv => whnf)
          refine ⟨fun q => ?_, fun q => ?_⟩
          · rw [if_neg (by rw [z_le] at q; rw [z_lt]; omega)] at hp
            repeat (refine hX _ _ _ _ ?_; conv => whnf)
            refine ⟨fun _ => ?_, fun q2 => absurd q q2⟩
            iterate 4 (refine hX _ _ _ _ ?_; conv => whnf)
            rw [nI_1]
            exact ih (i + 1) wh l _ _ (by omega) c3 hp
          · rw [if_pos (by rw [z_le] at q; rw [z_lt]; omega)] at hp
            repeat (refine hX _ _ _ _ ?_; conv => whnf)
            refine ⟨fun q2 => absurd q2 q, fun _ => ?_⟩
            iterate 5 (refine hX _ _ _ _ ?_; conv => whnf)
            rw [nI_1]
            exact ih (i + 1) _ _ _ _ (by omega) c3 hp
      exact loop (z_k (zG z)) 0 _ _ D1 none (by omega) f2 h
    · rw [if_neg (by rw [e, e5]; decide)] at h
      repeat (refine hX _ _ _ _ ?_; conv => whnf)
      refine ⟨fun h => absurd h (by decide), fun _ => ?_⟩
      repeat (refine hX _ _ _ _ ?_; conv => whnf)
      exact h D hM (fun _ _ => rfl)
  · rw [if_neg (by rw [e]; simp)] at h
    repeat (refine hX _ _ _ _ ?_; conv => whnf)
    refine ⟨fun _ => ?_, fun h => absurd h (by decide)⟩
    repeat (refine hX _ _ _ _ ?_; conv => whnf)
    exact h D hM (fun _ _ => rfl)
set_option maxHeartbeats 4000000 in
theorem t_m_swap {N : Nat} {Ga : pm_Ga} (hin : sp_in Ga) (hcp : sp_copies Ga) (htg : sp_ticksGo Ga) : ms2 (pm_up N Ga) 150 r_swap := by
  intro z n w D post hz hM h
  have hG := hz.1
  obtain ⟨g1, g2, g3, g4, g5, g6, g7, g8⟩ := hz.1
  obtain ⟨v49, c49⟩ := z_lit (k := 49) 49 (by decide) (by decide)
  unfold r_swap at h
  refine ⟨rfl, fun X hX => ?_⟩
  replace hX : ∀ pc L st D, pm_F N Ga tbX5_swap (some .int) post X pc L st D → X pc L st D := hX
  change X 0 [some (.ref 67), some (.int n), some (.int w), none, none, none, none, none] [] D
  repeat (refine hX _ _ _ _ ?_; conv => whnf)
  refine m_ib hin 0 100 rfl rfl (fun e => ?_) (fun e => ?_)
  · obtain ⟨e1, e2, e3, e4⟩ := z_ib_of e (by decide) (by decide)
    repeat (refine hX _ _ _ _ ?_; conv => whnf)
    refine ⟨fun h => absurd h (by decide), fun _ => ?_⟩
    repeat (refine hX _ _ _ _ ?_; conv => whnf)
    refine m_ib hin 0 1 rfl rfl (fun e5 => ?_) (fun e5 => ?_)
    · rw [if_pos (by rw [e, e5]; rfl)] at h
      repeat (refine hX _ _ _ _ ?_; conv => whnf)
      refine ⟨fun _ => ?_, fun h => absurd h (by decide)⟩
      repeat (refine hX _ _ _ _ ?_; conv => whnf)
      rw [e1]
      refine htg 0 (z_nt n) (-4) (zG z) (zG z) D _ 9999 9999 (Or.inl (by omega)) (by omega) (by omega) hM.1 hG hM.2.2.2.2.2.1.2 hM.1 hG (fun D1 f1 f2 f3 f4 => ?_)
      rw [z_widL_none hG rfl (z_nt n) (by omega), ← e1]
      iterate 5 (refine hX _ _ _ _ ?_; conv => whnf)
      generalize hf : (fun i j => z_wid (z_swp (zG z) i j) (z_nt n)) = f at h
      have outer : ∀ (m i : Nat) (wh l : Int32) (D2 : pm_Mem) (l6 l7 : Option Value), i + m = z_k (zG z) → z_MU D D2 → mP D (z_pk2 (z_bout f (z_k (zG z)) m i wh l) w, z) post → X 38 [some (.ref 67), some (.int n), some (.int w), some (.int l), some (.int wh), some (.int (nI i)), l6, l7] [] D2 := by
        intro m
        induction m with
        | zero =>
          intro i wh l D2 l6 l7 hi c2 hp
          replace hp : post (some (.int (if wh = -4 ∨ w = 0 then wh else l))) D2 := hp D2 (hM.tryU c2) c2.out
          have hi : i = z_k (zG z) := by omega
          repeat (refine hX _ _ _ _ ?_; conv => whnf)
          refine ⟨v49, ?_⟩
          rw [c49, z_M0 (hM.1.tryU c2 (by omega)) (by decide), g3, hi]
          repeat (refine hX _ _ _ _ ?_; conv => whnf)
          refine ⟨fun _ => ?_, fun q => absurd (nI_le (Nat.le_refl _) (by omega)) q⟩
          repeat (refine hX _ _ _ _ ?_; conv => whnf)
          refine ⟨fun q => ?_, fun q => ?_⟩
          · rw [if_pos (Or.inl q)] at hp
            repeat (refine hX _ _ _ _ ?_; conv => whnf)
            exact hp
          · repeat (refine hX _ _ _ _ ?_; conv => whnf)
            refine ⟨fun q2 => ?_, fun q2 => ?_⟩
            · rw [if_neg (fun o => o.elim q q2)] at hp
              repeat (refine hX _ _ _ _ ?_; conv => whnf)
              exact hp
            · rw [if_pos (Or.inr q2)] at hp
              repeat (refine hX _ _ _ _ ?_; conv => whnf)
              exact hp
        | succ m ih =>
          intro i wh l D2 l6 l7 hi c2 hp
          have hik : i < z_k (zG z) := by omega
          have ef : z_bout f (z_k (zG z)) (m + 1) i wh l = z_bout f (z_k (zG z)) m (i + 1) (z_bin f i (z_k (zG z) - (i + 1)) (i + 1) wh l).1 (z_bin f i (z_k (zG z) - (i + 1)) (i + 1) wh l).2 := rfl
          rw [ef] at hp
          repeat (refine hX _ _ _ _ ?_; conv => whnf)
          refine ⟨v49, ?_⟩
          rw [c49, z_M0 (hM.1.tryU c2 (by omega)) (by decide), g3]
          repeat (refine hX _ _ _ _ ?_; conv => whnf)
          refine ⟨fun q => absurd q (nI_ge (by omega) (by omega)), fun _ => ?_⟩
          iterate 4 (refine hX _ _ _ _ ?_; conv => whnf)
          rw [nI_1]
          have inner : ∀ (mm j : Nat) (wh l : Int32) (D3 : pm_Mem) (l7 : Option Value), j + mm = z_k (zG z) → i < j → z_MU D D3 → mP D (z_pk2 (z_bout f (z_k (zG z)) m (i + 1) (z_bin f i mm j wh l).1 (z_bin f i mm j wh l).2) w, z) post → X 56 [some (.ref 67), some (.int n), some (.int w), some (.int l), some (.int wh), some (.int (nI i)), some (.int (nI j)), l7] [] D3 := by
            intro mm
            induction mm with
            | zero =>
              intro j wh l D3 l7 hj hij c3 hp
              have hj : j = z_k (zG z) := by omega
              repeat (refine hX _ _ _ _ ?_; conv => whnf)
              refine ⟨v49, ?_⟩
              rw [c49, z_M0 (hM.1.tryU c3 (by omega)) (by decide), g3, hj]
              repeat (refine hX _ _ _ _ ?_; conv => whnf)
              refine ⟨fun _ => ?_, fun q => absurd (nI_le (Nat.le_refl _) (by omega)) q⟩
              iterate 2 (refine hX _ _ _ _ ?_; conv => whnf)
              rw [nI_1]
              exact ih (i + 1) wh l D3 _ _ (by omega) c3 hp
            | succ mm ihh =>
              intro j wh l D3 l7 hj hij c3 hp
              obtain ⟨j1, j2, j3, j4⟩ := hG.swp hij (show j < z_k (zG z) by omega)
              have efi : z_bin f i (mm + 1) j wh l = if f i j < l then z_bin f i mm (j + 1) (100 * nI i + nI j) (f i j) else z_bin f i mm (j + 1) wh l := rfl
              have efj : f i j = z_wid (z_swp (zG z) i j) (z_nt n) := by rw [← hf]
              rw [efi, efj] at hp
              repeat (refine hX _ _ _ _ ?_; conv => whnf)
              refine ⟨v49, ?_⟩
              rw [c49, z_M0 (hM.1.tryU c3 (by omega)) (by decide), g3]
              repeat (refine hX _ _ _ _ ?_; conv => whnf)
              refine ⟨fun q => absurd q (nI_ge (by omega) (by omega)), fun _ => ?_⟩
              repeat (refine hX _ _ _ _ ?_; conv => whnf)
              refine hcp 0 260 D3 _ (by omega) (by omega) (by omega) (fun D4 k1 k2 => ?_)
              have c4 : z_MU D D4 := c3.trans (k2.u (by omega))
              have hM4 : z_M D4 260 (zG z) := fun k hk => by rw [k1 k hk]; exact hM.1.tryU c3 (by omega) k hk
              have hM0 : ∀ k, k < 52 → D4 68 k = zG z k := fun k hk => z_M0 (hM.1.tryU c4 (by omega)) hk
              repeat (refine hX _ _ _ _ ?_; conv => whnf)
              rw [z_ix1' 25 j 25 (by decide)]
              refine ⟨vp_in_nI (by omega) (by decide), ?_⟩
              rw [nI_clamp (by omega), hM0 _ (by omega)]
              repeat (refine hX _ _ _ _ ?_; conv => whnf)
              rw [z_ix1' 285 i 285 (by decide)]
              refine ⟨by decide, vp_in_nI (by omega) (by decide), ?_⟩
              rw [nI_clamp (by omega)]
              repeat (refine hX _ _ _ _ ?_; conv => whnf)
              rw [z_ix1' 25 i 25 (by decide)]
              refine ⟨vp_in_nI (by omega) (by decide), ?_⟩
              rw [nI_clamp (by omega), pm_mu_k _ _ _ _ (by omega), hM0 _ (by omega)]
              repeat (refine hX _ _ _ _ ?_; conv => whnf)
              rw [z_ix1' 285 j 285 (by decide)]
              refine ⟨by decide, vp_in_nI (by omega) (by decide), ?_⟩
              rw [nI_clamp (by omega)]
              repeat (refine hX _ _ _ _ ?_; conv => whnf)
              rw [z_ix1' 37 j 37 (by decide)]
              refine ⟨vp_in_nI (by omega) (by decide), ?_⟩
              rw [nI_clamp (by omega), pm_mu_k _ _ _ _ (by omega), pm_mu_k _ _ _ _ (by omega), hM0 _ (by omega)]
              repeat (refine hX _ _ _ _ ?_; conv => whnf)
              rw [z_ix1' 297 i 297 (by decide)]
              refine ⟨by decide, vp_in_nI (by omega) (by decide), ?_⟩
              rw [nI_clamp (by omega)]
              repeat (refine hX _ _ _ _ ?_; conv => whnf)
              rw [z_ix1' 37 i 37 (by decide)]
              refine ⟨vp_in_nI (by omega) (by decide), ?_⟩
              rw [nI_clamp (by omega), pm_mu_k _ _ _ _ (by omega), pm_mu_k _ _ _ _ (by omega), pm_mu_k _ _ _ _ (by omega), hM0 _ (by omega)]
              repeat (refine hX _ _ _ _ ?_; conv => whnf)
              rw [z_ix1' 297 j 297 (by decide)]
              refine ⟨by decide, vp_in_nI (by omega) (by decide), ?_⟩
              rw [nI_clamp (by omega)]
              have m1 := z_M_mu (k := 25 + i) (v := zG z (25 + j)) hM4
              have m2 := z_M_mu (k := 25 + j) (v := zG z (25 + i)) m1
              have m3 := z_M_mu (k := 37 + i) (v := zG z (37 + j)) m2
              have m4 := z_M_mu (k := 37 + j) (v := zG z (37 + i)) m3
              have eg : z_up (z_up (z_up (z_up (zG z) (25 + i) (zG z (25 + j))) (25 + j) (zG z (25 + i))) (37 + i) (zG z (37 + j))) (37 + j) (zG z (37 + i)) = z_swp (zG z) i j := by
                unfold z_swp
                rw [z_up_comm _ (q := 25 + j) (r := 37 + i) _ _ (by omega)]
              rw [eg] at m4
              have c5 : z_MU D (pm_mu (pm_mu (pm_mu (pm_mu D4 68 (260 + (25 + i)) (zG z (25 + j))) 68 (260 + (25 + j)) (zG z (25 + i))) 68 (260 + (37 + i)) (zG z (37 + j))) 68 (260 + (37 + j)) (zG z (37 + i))) := (((c4.trans (.mu (by omega))).trans (.mu (by omega))).trans (.mu (by omega))).trans (.mu (by omega))
              rw [show 285 + i = 260 + (25 + i) by omega, show 285 + j = 260 + (25 + j) by omega, show 297 + i = 260 + (37 + i) by omega, show 297 + j = 260 + (37 + j) by omega]
              repeat (refine hX _ _ _ _ ?_; conv => whnf)
              rw [e1]
              refine htg 260 (z_nt n) (-4) _ (zG z) _ _ 9999 9999 (Or.inr rfl) (by omega) (by omega) m4 j1 (by rw [c5.2.1 19 (by decide) (by decide) (by decide) (by decide)]; exact hM.2.2.2.2.2.1.2) (hM.1.tryU c5 (by omega)) hG (fun D5 s1 s2 s3 s4 => ?_)
              rw [z_widL_none j1 j4.symm (z_nt n) (by omega), ← e1]
              have c6 : z_MU D D5 := c5.trans s2.u
              repeat (refine hX _ _ _ _ ?_; conv => whnf)
              refine ⟨fun q => ?_, fun q => ?_⟩
              · rw [if_neg (by rw [z_le] at q; rw [z_lt]; omega)] at hp
                repeat (refine hX _ _ _ _ ?_; conv => whnf)
                refine ⟨fun _ => ?_, fun q2 => absurd q q2⟩
                iterate 4 (refine hX _ _ _ _ ?_; conv => whnf)
                rw [nI_1]
                exact ihh (j + 1) wh l D5 _ (by omega) (by omega) c6 hp
              · rw [if_pos (by rw [z_le] at q; rw [z_lt]; omega)] at hp
                repeat (refine hX _ _ _ _ ?_; conv => whnf)
                refine ⟨fun q2 => absurd q2 q, fun _ => ?_⟩
                iterate 5 (refine hX _ _ _ _ ?_; conv => whnf)
                rw [nI_1]
                exact ihh (j + 1) _ _ D5 _ (by omega) (by omega) c6 hp
          exact inner _ (i + 1) wh l D2 _ (by omega) (by omega) c2 hp
      exact outer (z_k (zG z)) 0 _ _ D1 none none (by omega) f2.u h
    · rw [if_neg (by rw [e, e5]; decide)] at h
      repeat (refine hX _ _ _ _ ?_; conv => whnf)
      refine ⟨fun h => absurd h (by decide), fun _ => ?_⟩
      repeat (refine hX _ _ _ _ ?_; conv => whnf)
      exact h D hM (fun _ _ => rfl)
  · rw [if_neg (by rw [e]; simp)] at h
    repeat (refine hX _ _ _ _ ?_; conv => whnf)
    refine ⟨fun _ => ?_, fun h => absurd h (by decide)⟩
    repeat (refine hX _ _ _ _ ?_; conv => whnf)
    exact h D hM (fun _ _ => rfl)
