theorem z_M0 {D : pm_Mem} {g : z_P} (h : z_M D 0 g) {k : Nat} (hk : k < 52) : D 68 k = g k := by
  have := h k hk
  rwa [Nat.zero_add] at this
theorem z_nm1 {n : Nat} (h : n ≤ 100) : (nI n - 1).toInt = (n : Int) - 1 := by
  rw [z_sub (by rw [z_tI (by omega)]; show _ ≤ _ - (1 : Int); omega) (by rw [z_tI (by omega)]; show _ - (1 : Int) ≤ _; omega), z_tI (by omega)]
  rfl
theorem z_lit {k : Nat} (K : Int32) (hK : K = nI k) (h : k < 312) : vp_in K 312 ∧ K.toNatClampNeg = k := by
  rw [hK]
  exact ⟨vp_in_nI h (by decide), nI_clamp (by omega)⟩
def sp_isBead (Ga : pm_Ga) : Prop := ∀ (b : Int32) (g : z_P) (D : pm_Mem) (post : pm_Post), z_M D 0 g → g 24 = nI (z_n g) → z_n g ≤ 4 → (z_isb g b = true → post (some (.int 1)) D) → (z_isb g b = false → post (some (.int 0)) D) → Ga 111 [.ref 67, .int b] D post
set_option maxHeartbeats 2000000 in
theorem t_isBead {N : Nat} {Ga : pm_Ga} (hin : sp_in Ga) : sp_isBead (pm_up N Ga) := by
  intro b g D post hM hn hn4 h1 h0
  obtain ⟨v24, c24⟩ := z_lit (k := 24) 24 (by decide) (by decide)
  refine ⟨rfl, fun X hX => ?_⟩
  replace hX : ∀ pc L st D, pm_F N Ga tbX5_isBead (some .boolean) post X pc L st D → X pc L st D := hX
  change X 0 [some (.ref 67), some (.int b)] [] D
  repeat (refine hX _ _ _ _ ?_; conv => whnf)
  refine ⟨v24, ?_⟩
  rw [c24, z_M0 hM (by decide), hn]
  repeat (refine hX _ _ _ _ ?_; conv => whnf)
  refine m_ib hin 0 ((z_n g : Int) - 1) rfl (by rw [z_64]; exact z_nm1 (by omega)) (fun e => ?_) (fun e => ?_)
  · repeat (refine hX _ _ _ _ ?_; conv => whnf)
    exact ⟨Or.inr rfl, h1 e⟩
  · repeat (refine hX _ _ _ _ ?_; conv => whnf)
    exact ⟨Or.inl rfl, h0 e⟩
def sp_isKnock (Ga : pm_Ga) : Prop := ∀ (b : Int32) (g : z_P) (D : pm_Mem) (post : pm_Post), z_M D 0 g → g 49 = nI (z_k g) → z_k g ≤ 12 → (z_isk g b = true → post (some (.int 1)) D) → (z_isk g b = false → post (some (.int 0)) D) → Ga 112 [.ref 67, .int b] D post
set_option maxHeartbeats 2000000 in
theorem t_isKnock {N : Nat} {Ga : pm_Ga} (hin : sp_in Ga) : sp_isKnock (pm_up N Ga) := by
  intro b g D post hM hn hn4 h1 h0
  obtain ⟨v24, c24⟩ := z_lit (k := 49) 49 (by decide) (by decide)
  refine ⟨rfl, fun X hX => ?_⟩
  replace hX : ∀ pc L st D, pm_F N Ga tbX5_isKnock (some .boolean) post X pc L st D → X pc L st D := hX
  change X 0 [some (.ref 67), some (.int b)] [] D
  repeat (refine hX _ _ _ _ ?_; conv => whnf)
  refine ⟨v24, ?_⟩
  rw [c24, z_M0 hM (by decide), hn]
  repeat (refine hX _ _ _ _ ?_; conv => whnf)
  refine m_ib hin 0 ((z_k g : Int) - 1) rfl (by rw [z_64]; exact z_nm1 (by omega)) (fun e => ?_) (fun e => ?_)
  · repeat (refine hX _ _ _ _ ?_; conv => whnf)
    exact ⟨Or.inr rfl, h1 e⟩
  · repeat (refine hX _ _ _ _ ?_; conv => whnf)
    exact ⟨Or.inl rfl, h0 e⟩
def sp_isLong (Ga : pm_Ga) : Prop := ∀ (b : Int32) (D : pm_Mem) (post : pm_Post), (z_ib b 0 200 = true → post (some (.int 1)) D) → (z_ib b 0 200 = false → post (some (.int 0)) D) → Ga 113 [.int b] D post
set_option maxHeartbeats 2000000 in
theorem t_isLong {N : Nat} {Ga : pm_Ga} (hin : sp_in Ga) : sp_isLong (pm_up N Ga) := by
  intro b D post h1 h0
  refine ⟨rfl, fun X hX => ?_⟩
  replace hX : ∀ pc L st D, pm_F N Ga tbX5_isLong (some .boolean) post X pc L st D → X pc L st D := hX
  change X 0 [some (.int b)] [] D
  repeat (refine hX _ _ _ _ ?_; conv => whnf)
  refine m_ib hin 0 200 rfl rfl (fun e => ?_) (fun e => ?_)
  · repeat (refine hX _ _ _ _ ?_; conv => whnf)
    exact ⟨Or.inr rfl, h1 e⟩
  · repeat (refine hX _ _ _ _ ?_; conv => whnf)
    exact ⟨Or.inl rfl, h0 e⟩
def sp_puts (Ga : pm_Ga) : Prop := ∀ (ok : Bool) (at_ v : Int32) (D : pm_Mem) (post : pm_Post), (ok = false → post (some (.int (-1))) D) → (ok = true → vp_in at_ 312 ∧ post (some (.int (D 68 at_.toNatClampNeg))) (pm_mu D 68 at_.toNatClampNeg v)) → Ga 126 [.ref 67, .int (z_bi ok), .int at_, .int v] D post
set_option maxHeartbeats 2000000 in
theorem t_puts {N : Nat} {Ga : pm_Ga} : sp_puts (pm_up N Ga) := by
  intro ok at_ v D post h0 h1
  cases ok with
  | false =>
    refine ⟨rfl, fun X hX => ?_⟩
    replace hX : ∀ pc L st D, pm_F N Ga tbX5_puts (some .int) post X pc L st D → X pc L st D := hX
    change X 0 [some (.ref 67), some (.int 0), some (.int at_), some (.int v), none] [] D
    repeat (refine hX _ _ _ _ ?_; conv => whnf)
    refine ⟨fun h => absurd h (by decide), fun _ => ?_⟩
    repeat (refine hX _ _ _ _ ?_; conv => whnf)
    exact h0 rfl
  | true =>
    obtain ⟨hv, h⟩ := h1 rfl
    refine ⟨rfl, fun X hX => ?_⟩
    replace hX : ∀ pc L st D, pm_F N Ga tbX5_puts (some .int) post X pc L st D → X pc L st D := hX
    change X 0 [some (.ref 67), some (.int 1), some (.int at_), some (.int v), none] [] D
    repeat (refine hX _ _ _ _ ?_; conv => whnf)
    refine ⟨fun _ => ?_, fun h => absurd h (by decide)⟩
    repeat (refine hX _ _ _ _ ?_; conv => whnf)
    refine ⟨hv, ?_⟩
    repeat (refine hX _ _ _ _ ?_; conv => whnf)
    refine ⟨by decide, hv, ?_⟩
    repeat (refine hX _ _ _ _ ?_; conv => whnf)
    exact h
def sp_isGood (Ga : pm_Ga) : Prop := ∀ (w v : Int32) (D : pm_Mem) (post : pm_Post), (z_good w v = true → post (some (.int 1)) D) → (z_good w v = false → post (some (.int 0)) D) → Ga 127 [.int w, .int v] D post
set_option maxHeartbeats 2000000 in
theorem t_isGood {N : Nat} {Ga : pm_Ga} (hin : sp_in Ga) : sp_isGood (pm_up N Ga) := by
  intro w v D post h1 h0
  refine ⟨rfl, fun X hX => ?_⟩
  replace hX : ∀ pc L st D, pm_F N Ga tbX5_isGood (some .boolean) post X pc L st D → X pc L st D := hX
  change X 0 [some (.int w), some (.int v)] [] D
  repeat (refine hX _ _ _ _ ?_; conv => whnf)
  refine ⟨fun q => ?_, fun q => ?_, fun q => ?_, fun q => ?_, fun q => ?_, fun q => ?_, trivial⟩
  · repeat (refine hX _ _ _ _ ?_; conv => whnf)
    exact ⟨Or.inl rfl, h0 (z_good_f (z_ib_f (by omega)))⟩
  · have e : w = nI 0 := z_sw0 q
    subst e
    rw [z_good_t (by omega)] at h1 h0
    repeat (refine hX _ _ _ _ ?_; conv => whnf)
    refine m_ib hin 0 3 rfl rfl (fun e => ?_) (fun e => ?_)
    · repeat (refine hX _ _ _ _ ?_; conv => whnf)
      exact ⟨Or.inr rfl, h1 e⟩
    · repeat (refine hX _ _ _ _ ?_; conv => whnf)
      exact ⟨Or.inl rfl, h0 e⟩
  · have e : w = nI 1 := z_sw0 q
    subst e
    rw [z_good_t (by omega)] at h1 h0
    repeat (refine hX _ _ _ _ ?_; conv => whnf)
    refine m_ib hin 0 60 rfl rfl (fun e => ?_) (fun e => ?_)
    · repeat (refine hX _ _ _ _ ?_; conv => whnf)
      exact ⟨Or.inr rfl, h1 e⟩
    · repeat (refine hX _ _ _ _ ?_; conv => whnf)
      exact ⟨Or.inl rfl, h0 e⟩
  · have e : w = nI 2 := z_sw0 q
    subst e
    rw [z_good_t (by omega)] at h1 h0
    repeat (refine hX _ _ _ _ ?_; conv => whnf)
    refine m_ib hin 0 9 rfl rfl (fun e => ?_) (fun e => ?_)
    · repeat (refine hX _ _ _ _ ?_; conv => whnf)
      exact ⟨Or.inr rfl, h1 e⟩
    · repeat (refine hX _ _ _ _ ?_; conv => whnf)
      exact ⟨Or.inl rfl, h0 e⟩
  · have e : w = nI 3 := z_sw0 q
    subst e
    rw [z_good_t (by omega)] at h1 h0
    repeat (refine hX _ _ _ _ ?_; conv => whnf)
    refine m_ib hin 1 9 rfl rfl (fun e => ?_) (fun e => ?_)
    · repeat (refine hX _ _ _ _ ?_; conv => whnf)
      exact ⟨Or.inr rfl, h1 e⟩
    · repeat (refine hX _ _ _ _ ?_; conv => whnf)
      exact ⟨Or.inl rfl, h0 e⟩
  · have e : w = nI 4 := z_sw0 q
    subst e
    rw [z_good_t (by omega)] at h1 h0
    repeat (refine hX _ _ _ _ ?_; conv => whnf)
    refine m_ib hin 0 300 rfl rfl (fun e => ?_) (fun e => ?_)
    · repeat (refine hX _ _ _ _ ?_; conv => whnf)
      exact ⟨Or.inr rfl, h1 e⟩
    · repeat (refine hX _ _ _ _ ?_; conv => whnf)
      exact ⟨Or.inl rfl, h0 e⟩
/-- a number of page 0 is written -/
theorem MR.put {D : pm_Mem} {z : z_Z} {k : Nat} {v : Int32} (h : MR D z) (hk : k < 52) : MR (pm_mu D 68 k v) (uG z (z_up (zG z) k v)) := by
  have hM := z_M_mu (k := k) (v := v) h.1
  rw [Nat.zero_add] at hM
  exact h.now hM (fun r _ h2 _ _ _ => pm_mu_ne _ _ _ h2) (fun j _ _ _ _ => pm_mu_r _ _ _ _ (by decide)) (fun j h1 _ => pm_mu_k _ _ _ _ (by omega))
theorem mu68 {D : pm_Mem} {k : Nat} {v : Int32} : ∀ r, (r < 67 ∨ 80 ≤ r) → pm_mu D 68 k v r = D r := fun r hr => pm_mu_ne _ _ _ (by omega)
set_option maxHeartbeats 2000000 in
theorem t_m_feed {N : Nat} {Ga : pm_Ga} (hin : sp_in Ga) : ms1 (pm_up N Ga) 100 r_feed := by
  intro z c D post hz hM h
  have h3 := hM.2.2.1
  have hL := hz.2.2.2.1.1
  unfold r_feed at h
  refine ⟨rfl, fun X hX => ?_⟩
  replace hX : ∀ pc L st D, pm_F N Ga tbX5_feed (some .int) post X pc L st D → X pc L st D := hX
  change X 0 [some (.ref 67), some (.int c)] [] D
  repeat (refine hX _ _ _ _ ?_; conv => whnf)
  refine m_ib hin 0 127 rfl rfl (fun e => ?_) (fun e => ?_)
  · rw [if_pos e] at h
    repeat (refine hX _ _ _ _ ?_; conv => whnf)
    refine ⟨fun _ => ?_, fun h => absurd h (by decide)⟩
    repeat (refine hX _ _ _ _ ?_; conv => whnf)
    rw [h3.1]
    refine ⟨fun q => ?_, fun q => ?_⟩
    · have q : ¬ zL z = 160 := fun e2 => q (by rw [e2]; decide)
      rw [if_neg q] at h
      repeat (refine hX _ _ _ _ ?_; conv => whnf)
      rw [h3.1]
      refine ⟨by decide, vp_in_nI (by omega) (by decide), ?_⟩
      repeat (refine hX _ _ _ _ ?_; conv => whnf)
      rw [pm_mu_at, pm_mu_r _ _ _ _ (show 67 ≠ 70 by decide), h3.1, nI_1, nI_clamp (by omega)]
      refine h _ (hM.tape ⟨?_, fun i hi => ?_, ?_⟩ (fun r h1 h2 => ?_) (fun k hk => ?_)) (fun r hr => ?_)
      · exact pm_mu_at _ _ _ _
      · rw [pm_mu_r _ _ _ _ (by decide), pm_mu_eq, if_pos rfl]
        show _ = upd (zT z) (zL z) c i
        unfold upd
        split
        · rfl
        · have hi : i < zL z + 1 := hi
          exact h3.2.1 i (by omega)
      · rw [pm_mu_k _ _ _ _ (by decide), pm_mu_r _ _ _ _ (by decide)]; exact h3.2.2
      · rw [pm_mu_ne _ _ _ h1, pm_mu_ne _ _ _ h2]
      · rw [pm_mu_k _ _ _ _ hk, pm_mu_r _ _ _ _ (by decide)]
      · rw [pm_mu_ne _ _ _ (by omega), pm_mu_ne _ _ _ (by omega)]
    · have q : zL z = 160 := by
        rw [z_eq, z_tI (by omega)] at q
        have q : (zL z : Int) = 160 := q
        omega
      rw [if_pos q] at h
      repeat (refine hX _ _ _ _ ?_; conv => whnf)
      exact h D hM (fun _ _ => rfl)
  · rw [if_neg (by rw [e]; decide)] at h
    repeat (refine hX _ _ _ _ ?_; conv => whnf)
    refine ⟨fun h => absurd h (by decide), fun _ => ?_⟩
    repeat (refine hX _ _ _ _ ?_; conv => whnf)
    exact h D hM (fun _ _ => rfl)
set_option maxHeartbeats 2000000 in
theorem t_m_end {N : Nat} {Ga : pm_Ga} (hin : sp_in Ga) : ms1 (pm_up N Ga) 101 r_end := by
  intro z n D post hz hM h
  have h3 := hM.2.2.1
  have hL := hz.2.2.2.1.1
  unfold r_end at h
  refine ⟨rfl, fun X hX => ?_⟩
  replace hX : ∀ pc L st D, pm_F N Ga tbX5_end (some .int) post X pc L st D → X pc L st D := hX
  change X 0 [some (.ref 67), some (.int n), none] [] D
  repeat (refine hX _ _ _ _ ?_; conv => whnf)
  rw [h3.1]
  refine m_ib hin 0 (zL z) rfl (by rw [z_64]; exact z_tI (by omega)) (fun e => ?_) (fun e => ?_)
  · obtain ⟨e1, e2, e3, e4⟩ := z_ib_of e (by decide) (by omega)
    rw [if_pos e] at h
    repeat (refine hX _ _ _ _ ?_; conv => whnf)
    refine ⟨fun _ => ?_, fun h => absurd h (by decide)⟩
    repeat (refine hX _ _ _ _ ?_; conv => whnf)
    rw [h3.1]
    refine h _ (hM.tape ⟨?_, fun i hi => ?_, ?_⟩ (fun r h1 h2 => pm_mu_ne _ _ _ h1) (fun k hk => pm_mu_k _ _ _ _ hk)) (fun r hr => pm_mu_ne _ _ _ (by omega))
    · rw [pm_mu_at]; exact e1
    · have hi : i < z_nt n := hi
      rw [pm_mu_r _ _ _ _ (by decide)]; exact h3.2.1 i (by omega)
    · rw [pm_mu_k _ _ _ _ (by decide)]; exact h3.2.2
  · rw [if_neg (by rw [e]; decide)] at h
    repeat (refine hX _ _ _ _ ?_; conv => whnf)
    refine ⟨fun h => absurd h (by decide), fun _ => ?_⟩
    repeat (refine hX _ _ _ _ ?_; conv => whnf)
    exact h D hM (fun _ _ => rfl)
set_option maxHeartbeats 2000000 in
theorem t_m_fault {N : Nat} {Ga : pm_Ga} : ms0 (pm_up N Ga) 110 r_fault := by
  intro z D post hz hM h
  refine ⟨rfl, fun X hX => ?_⟩
  replace hX : ∀ pc L st D, pm_F N Ga tbX5_fault (some .int) post X pc L st D → X pc L st D := hX
  change X 0 [some (.ref 67)] [] D
  repeat (refine hX _ _ _ _ ?_; conv => whnf)
  rw [hM.2.2.1.2.2]
  exact h D hM (fun _ _ => rfl)
set_option maxHeartbeats 2000000 in
theorem t_m_drag {N : Nat} {Ga : pm_Ga} (hin : sp_in Ga) (hpu : sp_puts Ga) : ms1 (pm_up N Ga) 129 r_drag := by
  intro z v D post hz hM h
  obtain ⟨v50, c50⟩ := z_lit (k := 50) 50 (by decide) (by decide)
  unfold r_drag at h
  refine ⟨rfl, fun X hX => ?_⟩
  replace hX : ∀ pc L st D, pm_F N Ga tbX5_drag (some .int) post X pc L st D → X pc L st D := hX
  change X 0 [some (.ref 67), some (.int v)] [] D
  repeat (refine hX _ _ _ _ ?_; conv => whnf)
  refine m_ib hin 0 3 rfl rfl (fun e => ?_) (fun e => ?_)
  · rw [if_pos e] at h
    repeat (refine hX _ _ _ _ ?_; conv => whnf)
    refine hpu true _ _ _ _ (fun q => absurd q (by decide)) (fun _ => ⟨v50, ?_⟩)
    rw [c50, z_M0 hM.1 (by decide)]
    repeat (refine hX _ _ _ _ ?_; conv => whnf)
    exact h _ (hM.put (by decide)) mu68
  · rw [if_neg (by rw [e]; decide)] at h
    repeat (refine hX _ _ _ _ ?_; conv => whnf)
    refine hpu false _ _ _ _ (fun _ => ?_) (fun q => absurd q (by decide))
    repeat (refine hX _ _ _ _ ?_; conv => whnf)
    exact h D hM (fun _ _ => rfl)
set_option maxHeartbeats 2000000 in
theorem t_m_cut {N : Nat} {Ga : pm_Ga} (hin : sp_in Ga) (hpu : sp_puts Ga) : ms1 (pm_up N Ga) 131 r_cut := by
  intro z v D post hz hM h
  obtain ⟨g1, g2, g3, g4, g5, g6, g7, g8⟩ := hz.1
  obtain ⟨v50, c50⟩ := z_lit (k := 24) 24 (by decide) (by decide)
  unfold r_cut at h
  refine ⟨rfl, fun X hX => ?_⟩
  replace hX : ∀ pc L st D, pm_F N Ga tbX5_cut (some .int) post X pc L st D → X pc L st D := hX
  change X 0 [some (.ref 67), some (.int v)] [] D
  repeat (refine hX _ _ _ _ ?_; conv => whnf)
  refine ⟨v50, ?_⟩
  rw [c50, z_M0 hM.1 (by decide), g1]
  repeat (refine hX _ _ _ _ ?_; conv => whnf)
  refine m_ib hin 0 (z_n (zG z)) rfl (by rw [z_64]; exact z_tI (by omega)) (fun e => ?_) (fun e => ?_)
  · rw [if_pos e] at h
    repeat (refine hX _ _ _ _ ?_; conv => whnf)
    refine hpu true _ _ _ _ (fun q => absurd q (by decide)) (fun _ => ⟨v50, ?_⟩)
    rw [c50, z_M0 hM.1 (by decide)]
    repeat (refine hX _ _ _ _ ?_; conv => whnf)
    exact h _ (hM.put (by decide)) mu68
  · rw [if_neg (by rw [e]; decide)] at h
    repeat (refine hX _ _ _ _ ?_; conv => whnf)
    refine hpu false _ _ _ _ (fun _ => ?_) (fun q => absurd q (by decide))
    repeat (refine hX _ _ _ _ ?_; conv => whnf)
    exact h D hM (fun _ _ => rfl)
set_option maxHeartbeats 2000000 in
theorem t_m_drop {N : Nat} {Ga : pm_Ga} (hin : sp_in Ga) (hpu : sp_puts Ga) : ms1 (pm_up N Ga) 135 r_drop := by
  intro z v D post hz hM h
  obtain ⟨g1, g2, g3, g4, g5, g6, g7, g8⟩ := hz.1
  obtain ⟨v50, c50⟩ := z_lit (k := 49) 49 (by decide) (by decide)
  unfold r_drop at h
  refine ⟨rfl, fun X hX => ?_⟩
  replace hX : ∀ pc L st D, pm_F N Ga tbX5_drop (some .int) post X pc L st D → X pc L st D := hX
  change X 0 [some (.ref 67), some (.int v)] [] D
  repeat (refine hX _ _ _ _ ?_; conv => whnf)
  refine ⟨v50, ?_⟩
  rw [c50, z_M0 hM.1 (by decide), g3]
  repeat (refine hX _ _ _ _ ?_; conv => whnf)
  refine m_ib hin 0 (z_k (zG z)) rfl (by rw [z_64]; exact z_tI (by omega)) (fun e => ?_) (fun e => ?_)
  · rw [if_pos e] at h
    repeat (refine hX _ _ _ _ ?_; conv => whnf)
    refine hpu true _ _ _ _ (fun q => absurd q (by decide)) (fun _ => ⟨v50, ?_⟩)
    rw [c50, z_M0 hM.1 (by decide)]
    repeat (refine hX _ _ _ _ ?_; conv => whnf)
    exact h _ (hM.put (by decide)) mu68
  · rw [if_neg (by rw [e]; decide)] at h
    repeat (refine hX _ _ _ _ ?_; conv => whnf)
    refine hpu false _ _ _ _ (fun _ => ?_) (fun q => absurd q (by decide))
    repeat (refine hX _ _ _ _ ?_; conv => whnf)
    exact h D hM (fun _ _ => rfl)
