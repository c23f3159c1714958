/-- of the reference: what trying other pages changes -/
def z_MU (D D' : pm_Mem) : Prop := (∀ r, r ≠ 67 → r ≠ 68 → r ≠ 73 → D' r = D r) ∧ (∀ k, k ≠ 14 → k ≠ 15 → k ≠ 16 → k ≠ 18 → D' 67 k = D 67 k) ∧ ∀ k, k < 208 → D' 68 k = D 68 k
theorem z_MU.rf {D : pm_Mem} : z_MU D D := ⟨fun _ _ _ _ => rfl, fun _ _ _ _ _ => rfl, fun _ _ => rfl⟩
theorem z_MU.trans {D D1 D2 : pm_Mem} (h1 : z_MU D D1) (h2 : z_MU D1 D2) : z_MU D D2 := ⟨fun r a b c => (h2.1 r a b c).trans (h1.1 r a b c), fun k a b c d => (h2.2.1 k a b c d).trans (h1.2.1 k a b c d), fun k hk => (h2.2.2 k hk).trans (h1.2.2 k hk)⟩
theorem z_MT.u {D D' : pm_Mem} (h : z_MT D D') : z_MU D D' := ⟨h.1, h.2.1, fun k hk => h.2.2 k (by omega)⟩
theorem z_MF.u {D D' : pm_Mem} {p : Nat} (h : z_MF p D D') (hp : 208 ≤ p) : z_MU D D' := ⟨fun r _ h2 _ => h.1 r h2, fun k _ _ _ _ => by rw [h.1 67 (by decide)], fun k hk => h.2 k (by omega)⟩
theorem z_MU.mu {D : pm_Mem} {k : Nat} {v : Int32} (hk : 208 ≤ k) : z_MU D (pm_mu D 68 k v) := ⟨fun r _ h2 _ => pm_mu_ne _ _ _ h2, fun j _ _ _ _ => pm_mu_r _ _ _ _ (by decide), fun j hj => pm_mu_k _ _ _ _ (by omega)⟩
theorem MR.tryU {D D' : pm_Mem} {z : z_Z} (h : MR D z) (hf : z_MU D D') : MR D' z := h.same (fun r h1 h2 _ h4 _ => hf.1 r h1 h2 h4) hf.2.1 (fun k hk => hf.2.2 k (by omega))
theorem z_MU.out {D D' : pm_Mem} (hf : z_MU D D') : ∀ r, (r < 67 ∨ 80 ≤ r) → D' r = D r := fun r hr => hf.1 r (by omega) (by omega) (by omega)
theorem z_M.tryU {D D' : pm_Mem} {p : Nat} {g : z_P} (h : z_M D p g) (hf : z_MU D D') (hp : p + 52 ≤ 208) : z_M D' p g := fun k hk => by rw [hf.2.2 _ (by omega)]; exact h k hk
def sp_leastAt (Ga : pm_Ga) : Prop := ∀ (t b n : Nat) (w : Int32) (g : z_P) (D : pm_Mem) (post : pm_Post), t ≤ 3 → b < z_n g → n ≤ 100 → z_M D 0 g → z_G 9999 g → D 67 19 = -4 → (∀ D', z_MU D D' → post (some (.int (z_pk (z_bst (z_tw g t b n) (z_hiN t - z_loN t + 1) (z_loN t) (nI (z_loN t)) 301) w))) D') → Ga 144 [.ref 67, .int (nI (4 * t + b)), .int (nI (z_loN t)), .int (nI (z_hiN t)), .int (nI n), .int w] D post
set_option maxHeartbeats 4000000 in
theorem t_leastAt {N : Nat} {Ga : pm_Ga} (hcp : sp_copies Ga) (htg : sp_ticksGo Ga) : sp_leastAt (pm_up N Ga) := by
  intro t b n w g D post ht hb hn hM hG hlo h
  have hn4 := hG.2.1
  have hb4 : z_loN t ≤ z_hiN t ∧ z_hiN t ≤ 60 := by
    have h4 : t = 0 ∨ t = 1 ∨ t = 2 ∨ t = 3 := by omega
    rcases h4 with rfl | rfl | rfl | rfl <;> decide
  have hbz : z_lo t = (z_loN t : Int) ∧ z_hi t = (z_hiN t : Int) := by
    have h4 : t = 0 ∨ t = 1 ∨ t = 2 ∨ t = 3 := by omega
    rcases h4 with rfl | rfl | rfl | rfl <;> decide
  obtain ⟨l3, l4⟩ := hb4
  obtain ⟨l1, l2⟩ := hbz
  have gd : ∀ v, z_loN t ≤ v → v ≤ z_hiN t → z_good (nI t) (nI v) = true := by
    intro v h1 h2
    rw [z_good_t (by omega)]
    exact z_ib_t (by rw [z_tI (by omega)]; omega) (by rw [z_tI (by omega)]; omega)
  have fin : ∀ v, z_loN t ≤ v → v ≤ z_hiN t → z_in (z_tw g t b n v) 0 300 := fun v h1 h2 => z_wid_in (hG.put (w := t) (by omega) hb (gd v h1 h2)).1 n (by omega)
  refine ⟨rfl, fun X hX => ?_⟩
  replace hX : ∀ pc L st D, pm_F N Ga tbX5_leastAt (some .int) post X pc L st D → X pc L st D := hX
  change X 0 [some (.ref 67), some (.int (nI (4 * t + b))), some (.int (nI (z_loN t))), some (.int (nI (z_hiN t))), some (.int (nI n)), some (.int w), none, none, none, none] [] D
  repeat (refine hX _ _ _ _ ?_; conv => whnf)
  refine hcp 0 260 D _ (by omega) (by omega) (by omega) (fun D1 f1 f2 => ?_)
  iterate 2 (refine hX _ _ _ _ ?_; conv => whnf)
  have loop : ∀ (m v : Nat) (wh l : Int32) (D2 : pm_Mem) (l9 : Option Value), v + m = z_hiN t + 1 → z_loN t ≤ v → (∀ k, k < 52 → k ≠ 4 * t + b → D2 68 (260 + k) = g k) → z_MU D D2 → (∀ D', z_MU D D' → post (some (.int (z_pk (z_bst (z_tw g t b n) m v wh l) w))) D') → X 18 [some (.ref 67), some (.int (nI (4 * t + b))), some (.int (nI (z_loN t))), some (.int (nI (z_hiN t))), some (.int (nI n)), some (.int w), some (.int l), some (.int wh), some (.int (nI v)), l9] [] D2 := by
    intro m
    induction m with
    | zero =>
      intro v wh l D2 l9 hv hlv c1 c2 hp
      replace hp : post (some (.int (if w = 0 then wh else l))) D2 := hp D2 c2
      repeat (refine hX _ _ _ _ ?_; conv => whnf)
      refine ⟨fun _ => ?_, fun q => absurd (nI_lt (show z_hiN t < v by omega) (by omega)) q⟩
      repeat (refine hX _ _ _ _ ?_; conv => whnf)
      refine ⟨fun q => ?_, fun q => ?_⟩
      · rw [if_neg q] at hp
        repeat (refine hX _ _ _ _ ?_; conv => whnf)
        exact hp
      · rw [if_pos q] at hp
        repeat (refine hX _ _ _ _ ?_; conv => whnf)
        exact hp
    | succ m ih =>
      intro v wh l D2 l9 hv hlv c1 c2 hp
      obtain ⟨j1, j2, j3⟩ := hG.put (w := t) (by omega) hb (gd v hlv (by omega))
      have ef : z_bst (z_tw g t b n) (m + 1) v wh l = if z_tw g t b n v < l then z_bst (z_tw g t b n) m (v + 1) (nI v) (z_tw g t b n v) else z_bst (z_tw g t b n) m (v + 1) wh l := rfl
      rw [ef] at hp
      have hM3 : z_M (pm_mu D2 68 (260 + (4 * t + b)) (nI v)) 260 (z_up g (4 * t + b) (nI v)) := by
        intro k hk
        rw [pm_mu_eq, if_pos rfl]
        by_cases e : k = 4 * t + b
        · rw [if_pos (by omega), e, z_up_at]
        · rw [if_neg (by omega), z_up_ne _ _ e]; exact c1 k hk e
      have c3 : z_MU D (pm_mu D2 68 (260 + (4 * t + b)) (nI v)) := c2.trans (.mu (by omega))
      repeat (refine hX _ _ _ _ ?_; conv => whnf)
      refine ⟨fun q => absurd q (nI_nlt (by omega) (by omega)), fun _ => ?_⟩
      repeat (refine hX _ _ _ _ ?_; conv => whnf)
      rw [z_ix1' 260 (4 * t + b) 260 (by decide)]
      refine ⟨by decide, vp_in_nI (by omega) (by decide), ?_⟩
      rw [nI_clamp (by omega)]
      repeat (refine hX _ _ _ _ ?_; conv => whnf)
      refine htg 260 n (-4) _ g _ _ 9999 9999 (Or.inr rfl) (by omega) (by omega) hM3 j1 (by rw [c3.2.1 19 (by decide) (by decide) (by decide) (by decide)]; exact hlo) (hM.tryU c3 (by omega)) hG (fun D4 s1 s2 s3 s4 => ?_)
      rw [z_widL_none j1 (z_last_up (by omega) hn4).symm n (by omega)]
      have hw : z_wid (z_up g (4 * t + b) (nI v)) n = z_tw g t b n v := rfl
      rw [hw]
      have c4 : z_MU D D4 := c3.trans s2.u
      have c5 : ∀ k, k < 52 → k ≠ 4 * t + b → D4 68 (260 + k) = g k := by
        intro k hk e
        rw [s2.2.2 _ (by omega), pm_mu_k _ _ _ _ (by omega)]
        exact c1 k hk e
      repeat (refine hX _ _ _ _ ?_; conv => whnf)
      refine ⟨fun q => ?_, fun q => ?_⟩
      · rw [if_neg (by rw [z_le] at q; rw [z_lt]; omega)] at hp
        repeat (refine hX _ _ _ _ ?_; conv => whnf)
        refine ⟨fun _ => ?_, fun q2 => absurd q q2⟩
        iterate 4 (refine hX _ _ _ _ ?_; conv => whnf)
        rw [nI_1]
        exact ih (v + 1) wh l D4 _ (by omega) (by omega) c5 c4 hp
      · rw [if_pos (by rw [z_le] at q; rw [z_lt]; omega)] at hp
        repeat (refine hX _ _ _ _ ?_; conv => whnf)
        refine ⟨fun q2 => absurd q2 q, fun _ => ?_⟩
        iterate 5 (refine hX _ _ _ _ ?_; conv => whnf)
        rw [nI_1]
        exact ih (v + 1) _ _ D4 _ (by omega) (by omega) c5 c4 hp
  refine loop (z_hiN t - z_loN t + 1) (z_loN t) _ _ D1 none (by omega) (by omega) (fun k hk _ => by rw [f1 k hk]; exact hM k hk) (f2.u (by omega)) ?_
  have hf := fin (z_loN t) (by omega) l3
  rw [z_bst_1 (w' := nI (z_loN t)) (l' := 301) (by rw [z_lt]; show _ < (1000000 : Int); have := hf.2; omega) (by rw [z_lt]; show _ < (301 : Int); have := hf.2; omega)]
  exact h
def sp_isAsked (Ga : pm_Ga) : Prop := ∀ (b n w : Int32) (g : z_P) (D : pm_Mem) (post : pm_Post), z_M D 0 g → g 24 = nI (z_n g) → z_n g ≤ 4 → ((z_isb g b && (z_ib n 0 100 && z_ib w 0 1)) = true → post (some (.int 1)) D) → ((z_isb g b && (z_ib n 0 100 && z_ib w 0 1)) = false → post (some (.int 0)) D) → Ga 145 [.ref 67, .int b, .int n, .int w] D post
set_option maxHeartbeats 2000000 in
theorem t_isAsked {N : Nat} {Ga : pm_Ga} (hib : sp_isBead Ga) (hin : sp_in Ga) : sp_isAsked (pm_up N Ga) := by
  intro b n w g D post hM hn hn4 h1 h0
  refine ⟨rfl, fun X hX => ?_⟩
  replace hX : ∀ pc L st D, pm_F N Ga tbX5_isAsked (some .boolean) post X pc L st D → X pc L st D := hX
  change X 0 [some (.ref 67), some (.int b), some (.int n), some (.int w)] [] D
  repeat (refine hX _ _ _ _ ?_; conv => whnf)
  refine hib b g D _ hM hn hn4 (fun e0 => ?_) (fun e0 => ?_)
  · repeat (refine hX _ _ _ _ ?_; conv => whnf)
    refine ⟨fun h => absurd h (by decide), fun _ => ?_⟩
    repeat (refine hX _ _ _ _ ?_; conv => whnf)
    refine m_ib hin 0 100 rfl rfl (fun e => ?_) (fun e => ?_)
    · repeat (refine hX _ _ _ _ ?_; conv => whnf)
      refine ⟨fun h => absurd h (by decide), fun _ => ?_⟩
      repeat (refine hX _ _ _ _ ?_; conv => whnf)
      refine m_ib hin 0 1 rfl rfl (fun e5 => ?_) (fun e5 => ?_)
      · repeat (refine hX _ _ _ _ ?_; conv => whnf)
        refine ⟨fun h => absurd h (by decide), fun _ => ?_⟩
        repeat (refine hX _ _ _ _ ?_; conv => whnf)
        exact ⟨Or.inr rfl, h1 (by rw [e0, e, e5]; rfl)⟩
      · repeat (refine hX _ _ _ _ ?_; conv => whnf)
        refine ⟨fun _ => ?_, fun h => absurd h (by decide)⟩
        repeat (refine hX _ _ _ _ ?_; conv => whnf)
        exact ⟨Or.inl rfl, h0 (by rw [e0, e, e5]; rfl)⟩
    · repeat (refine hX _ _ _ _ ?_; conv => whnf)
      refine ⟨fun _ => ?_, fun h => absurd h (by decide)⟩
      repeat (refine hX _ _ _ _ ?_; conv => whnf)
      exact ⟨Or.inl rfl, h0 (by rw [e0, e]; rfl)⟩
  · repeat (refine hX _ _ _ _ ?_; conv => whnf)
    refine ⟨fun _ => ?_, fun h => absurd h (by decide)⟩
    repeat (refine hX _ _ _ _ ?_; conv => whnf)
    exact ⟨Or.inl rfl, h0 (by rw [e0]; rfl)⟩
theorem z_best_use {b n w : Int32} {g : z_P} (h : (z_isb g b && (z_ib n 0 100 && z_ib w 0 1)) = true) : z_isb g b = true ∧ z_ib n 0 100 = true := by
  simp only [Bool.and_eq_true] at h
  exact ⟨h.1, h.2.1⟩
set_option maxHeartbeats 2000000 in
theorem t_m_stiff {N : Nat} {Ga : pm_Ga} (hia : sp_isAsked Ga) (hle : sp_leastAt Ga) : ms3 (pm_up N Ga) 146 (r_best 2) := by
  intro z b n w D post hz hM h
  have hG := hz.1
  unfold r_best at h
  refine ⟨rfl, fun X hX => ?_⟩
  replace hX : ∀ pc L st D, pm_F N Ga tbX5_stiff (some .int) post X pc L st D → X pc L st D := hX
  change X 0 [some (.ref 67), some (.int b), some (.int n), some (.int w)] [] D
  repeat (refine hX _ _ _ _ ?_; conv => whnf)
  refine hia b n w (zG z) D _ hM.1 hG.1 hG.2.1 (fun e => ?_) (fun e => ?_)
  · obtain ⟨eb, en⟩ := z_best_use e
    obtain ⟨b1, b2, b3, b4⟩ := z_isb_of eb hG.2.1
    obtain ⟨n1, n2, n3, n4⟩ := z_ib_of en (by decide) (by decide)
    rw [if_pos e] at h
    repeat (refine hX _ _ _ _ ?_; conv => whnf)
    refine ⟨fun h => absurd h (by decide), fun _ => ?_⟩
    repeat (refine hX _ _ _ _ ?_; conv => whnf)
    rw [b2, n1, z_ix1' 8 (z_nt b) 8 (by decide)]
    refine hle 2 (z_nt b) (z_nt n) w (zG z) D _ (by omega) b1 (by omega) hM.1 hG hM.2.2.2.2.2.1.2 (fun D' f => ?_)
    repeat (refine hX _ _ _ _ ?_; conv => whnf)
    exact h D' (hM.tryU f) f.out
  · rw [if_neg (by rw [e]; decide)] at h
    repeat (refine hX _ _ _ _ ?_; conv => whnf)
    refine ⟨fun _ => ?_, fun h => absurd h (by decide)⟩
    repeat (refine hX _ _ _ _ ?_; conv => whnf)
    exact h D hM (fun _ _ => rfl)
set_option maxHeartbeats 2000000 in
theorem t_m_rest {N : Nat} {Ga : pm_Ga} (hia : sp_isAsked Ga) (hle : sp_leastAt Ga) : ms3 (pm_up N Ga) 147 (r_best 1) := by
  intro z b n w D post hz hM h
  have hG := hz.1
  unfold r_best at h
  refine ⟨rfl, fun X hX => ?_⟩
  replace hX : ∀ pc L st D, pm_F N Ga tbX5_rest (some .int) post X pc L st D → X pc L st D := hX
  change X 0 [some (.ref 67), some (.int b), some (.int n), some (.int w)] [] D
  repeat (refine hX _ _ _ _ ?_; conv => whnf)
  refine hia b n w (zG z) D _ hM.1 hG.1 hG.2.1 (fun e => ?_) (fun e => ?_)
  · obtain ⟨eb, en⟩ := z_best_use e
    obtain ⟨b1, b2, b3, b4⟩ := z_isb_of eb hG.2.1
    obtain ⟨n1, n2, n3, n4⟩ := z_ib_of en (by decide) (by decide)
    rw [if_pos e] at h
    repeat (refine hX _ _ _ _ ?_; conv => whnf)
    refine ⟨fun h => absurd h (by decide), fun _ => ?_⟩
    repeat (refine hX _ _ _ _ ?_; conv => whnf)
    rw [b2, n1, z_ix1' 4 (z_nt b) 4 (by decide)]
    refine hle 1 (z_nt b) (z_nt n) w (zG z) D _ (by omega) b1 (by omega) hM.1 hG hM.2.2.2.2.2.1.2 (fun D' f => ?_)
    repeat (refine hX _ _ _ _ ?_; conv => whnf)
    exact h D' (hM.tryU f) f.out
  · rw [if_neg (by rw [e]; decide)] at h
    repeat (refine hX _ _ _ _ ?_; conv => whnf)
    refine ⟨fun _ => ?_, fun h => absurd h (by decide)⟩
    repeat (refine hX _ _ _ _ ?_; conv => whnf)
    exact h D hM (fun _ _ => rfl)
set_option maxHeartbeats 2000000 in
theorem t_m_kind {N : Nat} {Ga : pm_Ga} (hia : sp_isAsked Ga) (hle : sp_leastAt Ga) : ms3 (pm_up N Ga) 148 (r_best 0) := by
  intro z b n w D post hz hM h
  have hG := hz.1
  unfold r_best at h
  refine ⟨rfl, fun X hX => ?_⟩
  replace hX : ∀ pc L st D, pm_F N Ga tbX5_kind (some .int) post X pc L st D → X pc L st D := hX
  change X 0 [some (.ref 67), some (.int b), some (.int n), some (.int w)] [] D
  repeat (refine hX _ _ _ _ ?_; conv => whnf)
  refine hia b n w (zG z) D _ hM.1 hG.1 hG.2.1 (fun e => ?_) (fun e => ?_)
  · obtain ⟨eb, en⟩ := z_best_use e
    obtain ⟨b1, b2, b3, b4⟩ := z_isb_of eb hG.2.1
    obtain ⟨n1, n2, n3, n4⟩ := z_ib_of en (by decide) (by decide)
    rw [if_pos e] at h
    repeat (refine hX _ _ _ _ ?_; conv => whnf)
    refine ⟨fun h => absurd h (by decide), fun _ => ?_⟩
    repeat (refine hX _ _ _ _ ?_; conv => whnf)
    rw [b2, n1, show z_nt b = 4 * 0 + z_nt b by omega]
    refine hle 0 (z_nt b) (z_nt n) w (zG z) D _ (by omega) b1 (by omega) hM.1 hG hM.2.2.2.2.2.1.2 (fun D' f => ?_)
    repeat (refine hX _ _ _ _ ?_; conv => whnf)
    exact h D' (hM.tryU f) f.out
  · rw [if_neg (by rw [e]; decide)] at h
    repeat (refine hX _ _ _ _ ?_; conv => whnf)
    refine ⟨fun _ => ?_, fun h => absurd h (by decide)⟩
    repeat (refine hX _ _ _ _ ?_; conv => whnf)
    exact h D hM (fun _ _ => rfl)
set_option maxHeartbeats 2000000 in
theorem t_m_mass {N : Nat} {Ga : pm_Ga} (hia : sp_isAsked Ga) (hle : sp_leastAt Ga) : ms3 (pm_up N Ga) 149 (r_best 3) := by
  intro z b n w D post hz hM h
  have hG := hz.1
  unfold r_best at h
  refine ⟨rfl, fun X hX => ?_⟩
  replace hX : ∀ pc L st D, pm_F N Ga tbX5_mass (some .int) post X pc L st D → X pc L st D := hX
  change X 0 [some (.ref 67), some (.int b), some (.int n), some (.int w)] [] D
  repeat (refine hX _ _ _ _ ?_; conv => whnf)
  refine hia b n w (zG z) D _ hM.1 hG.1 hG.2.1 (fun e => ?_) (fun e => ?_)
  · obtain ⟨eb, en⟩ := z_best_use e
    obtain ⟨b1, b2, b3, b4⟩ := z_isb_of eb hG.2.1
    obtain ⟨n1, n2, n3, n4⟩ := z_ib_of en (by decide) (by decide)
    rw [if_pos e] at h
    repeat (refine hX _ _ _ _ ?_; conv => whnf)
    refine ⟨fun h => absurd h (by decide), fun _ => ?_⟩
    repeat (refine hX _ _ _ _ ?_; conv => whnf)
    rw [b2, n1, z_ix1' 12 (z_nt b) 12 (by decide)]
    refine hle 3 (z_nt b) (z_nt n) w (zG z) D _ (by omega) b1 (by omega) hM.1 hG hM.2.2.2.2.2.1.2 (fun D' f => ?_)
    repeat (refine hX _ _ _ _ ?_; conv => whnf)
    exact h D' (hM.tryU f) f.out
  · rw [if_neg (by rw [e]; decide)] at h
    repeat (refine hX _ _ _ _ ?_; conv => whnf)
    refine ⟨fun _ => ?_, fun h => absurd h (by decide)⟩
    repeat (refine hX _ _ _ _ ?_; conv => whnf)
    exact h D hM (fun _ _ => rfl)
