/-! ===== the text: the class, numbers and lines ===== -/
def sp_numberRead (Ga : pm_Ga) : Prop := ∀ (L f b : Nat) (T : Nat → Int32) (D : pm_Mem) (post : pm_Post), L ≤ 160 → f ≤ b → b ≤ L → (∀ i, i < L → D 43 i = T i) → D 42 5 = nI f → D 42 6 = nI b → post (some (.int (y_nv T f (b - f)))) D → Ga 43 [.ref 42] D post
set_option maxHeartbeats 2000000 in
theorem t_numberRead {N : Nat} {Ga : pm_Ga} : sp_numberRead (pm_up N Ga) := by
  intro L f b T D post hL hfb hbL h2 h5 h6 h
  refine ⟨rfl, fun X hX => ?_⟩
  replace hX : ∀ pc L st D, pm_F N Ga tbX3_numberRead (some .int) post X pc L st D → X pc L st D := hX
  change X 0 [some (.ref 42), none, none] [] D
  iterate 5 (refine hX _ _ _ _ ?_; conv => whnf)
  rw [h5]
  have loop : ∀ (m i : Nat), i + m = b - f → X 7 [some (.ref 42), some (.int (y_nv T f i)), some (.int (nI (f + i)))] [] D := by
    intro m
    induction m with
    | zero =>
      intro i hi
      have hi : i = b - f := by omega
      subst hi
      repeat (refine hX _ _ _ _ ?_; conv => whnf)
      rw [h6]
      refine ⟨fun _ => ?_, fun q => absurd (nI_le (by omega) (by omega)) q⟩
      repeat (refine hX _ _ _ _ ?_; conv => whnf)
      exact h
    | succ m ih =>
      intro i hi
      repeat (refine hX _ _ _ _ ?_; conv => whnf)
      rw [h6]
      refine ⟨fun q => absurd q (nI_ge (by omega) (by omega)), fun _ => ?_⟩
      repeat (refine hX _ _ _ _ ?_; conv => whnf)
      refine ⟨vp_in_nI (by omega) (by decide), ?_⟩
      rw [nI_clamp (by omega), h2 _ (by omega)]
      iterate 6 (refine hX _ _ _ _ ?_; conv => whnf)
      rw [nI_1]
      exact ih (i + 1) (by omega)
  exact loop (b - f) 0 (by omega)
def sp_takeNumber (Ga : pm_Ga) : Prop := ∀ (L : Nat) (T : Nat → Int32) (e : Option (Nat × Nat)) (p : Nat) (lo hi : Int32) (A B : Int) (D : pm_Mem) (post : pm_Post), L ≤ 160 → p ≤ L → y_Cs L T D e → D 42 6 = nI p → lo.toInt = A → hi.toInt = B → (∀ D', y_Cs L T D' (y_n1 L T A B p e) → D' 42 6 = nI (y_b L T p) → y_Cf D D' → post (some (.int (y_vv L T lo p))) D') → Ga 39 [.ref 42, .int lo, .int hi] D post
theorem y_k5 (L : Nat) (T : Nat → Int32) (p : Nat) : y_k L T p < 5 := by unfold y_k; split; split; decide; split; split <;> decide; split <;> decide; decide
theorem y_k_eq {L : Nat} {T : Nat → Int32} {p : Nat} {k : Nat} (hk : k < 5) : nI (y_k L T p) = nI k ↔ y_k L T p = k := by
  have := y_k5 L T p
  constructor
  · intro h
    rw [z_eq, z_tI (by omega), z_tI (by omega)] at h
    omega
  · intro h; rw [h]
set_option maxHeartbeats 2000000 in
theorem t_takeNumber {N : Nat} {Ga : pm_Ga} (hrt : sp_readToken Ga) (hbl : sp_blame Ga) (hnr : sp_numberRead Ga) (hwi : sp_within Ga) : sp_takeNumber (pm_up N Ga) := by
  intro L T e p lo hi A B D post hL hp hC h6 hA hB h
  obtain ⟨f1, f2⟩ := y_f_in T hp
  obtain ⟨b1, b2, b3⟩ := y_b_in T hp
  refine ⟨rfl, fun X hX => ?_⟩
  replace hX : ∀ pc L st D, pm_F N Ga tbX3_takeNumber (some .int) post X pc L st D → X pc L st D := hX
  change X 0 [some (.ref 42), some (.int lo), some (.int hi), none] [] D
  repeat (refine hX _ _ _ _ ?_; conv => whnf)
  refine hrt L T e p D _ hL hp hC h6 (fun D1 c1 c2 c3 => ?_)
  repeat (refine hX _ _ _ _ ?_; conv => whnf)
  rw [c2.1]
  refine ⟨fun q => ?_, fun q => ?_⟩
  · have q : y_k L T p = 2 := (y_k_eq (by decide)).mp q
    have ev : y_vv L T lo p = y_v L T p := if_pos q
    rw [ev] at h
    repeat (refine hX _ _ _ _ ?_; conv => whnf)
    refine hnr L (y_f L T p) (y_b L T p) T D1 _ hL b1 b2 c1.2.1 c2.2.1 c2.2.2 ?_
    change X 23 _ [.int (y_v L T p)] D1
    repeat (refine hX _ _ _ _ ?_; conv => whnf)
    refine w_ib hwi A B hA hB (fun q2 => ?_) (fun q2 => ?_)
    · repeat (refine hX _ _ _ _ ?_; conv => whnf)
      refine ⟨fun _ => ?_, fun h => absurd h (by decide)⟩
      repeat (refine hX _ _ _ _ ?_; conv => whnf)
      refine h D1 ?_ c2.2.2 c3
      unfold y_n1 y_nb
      rw [if_pos q, if_pos q2]
      exact c1
    · repeat (refine hX _ _ _ _ ?_; conv => whnf)
      refine ⟨fun h => absurd h (by decide), fun _ => ?_⟩
      repeat (refine hX _ _ _ _ ?_; conv => whnf)
      refine hbl L T _ (y_f L T p) 3 D1 _ c1 c2.2.1 (by decide) (by decide) (fun D2 d1 d2 d3 => ?_)
      repeat (refine hX _ _ _ _ ?_; conv => whnf)
      refine h D2 ?_ (by rw [d2 6 (by decide) (by decide)]; exact c2.2.2) (c3.tr d3)
      unfold y_n1 y_nb
      rw [if_pos q, if_neg (by rw [q2]; decide)]
      exact d1
  · have q : ¬ y_k L T p = 2 := fun y => q ((y_k_eq (by decide)).mpr y)
    have ev : y_vv L T lo p = lo := if_neg q
    rw [ev] at h
    repeat (refine hX _ _ _ _ ?_; conv => whnf)
    refine hbl L T _ (y_f L T p) 2 D1 _ c1 c2.2.1 (by decide) (by decide) (fun D2 d1 d2 d3 => ?_)
    repeat (refine hX _ _ _ _ ?_; conv => whnf)
    refine h D2 ?_ (by rw [d2 6 (by decide) (by decide)]; exact c2.2.2) (c3.tr d3)
    unfold y_n1 y_nb
    rw [if_neg q]
    exact d1
def sp_takeSemicolon (Ga : pm_Ga) : Prop := ∀ (L : Nat) (T : Nat → Int32) (e : Option (Nat × Nat)) (p : Nat) (D : pm_Mem) (post : pm_Post), L ≤ 160 → p ≤ L → y_Cs L T D e → D 42 6 = nI p → (∀ D', y_Cs L T D' (y_s1 L T p e) → D' 42 6 = nI (y_b L T p) → y_Cf D D' → post none D') → Ga 40 [.ref 42] D post
set_option maxHeartbeats 2000000 in
theorem t_takeSemicolon {N : Nat} {Ga : pm_Ga} (hrt : sp_readToken Ga) (hbl : sp_blame Ga) : sp_takeSemicolon (pm_up N Ga) := by
  intro L T e p D post hL hp hC h6 h
  refine ⟨rfl, fun X hX => ?_⟩
  replace hX : ∀ pc L st D, pm_F N Ga tbX3_takeSemicolon none post X pc L st D → X pc L st D := hX
  change X 0 [some (.ref 42)] [] D
  repeat (refine hX _ _ _ _ ?_; conv => whnf)
  refine hrt L T e p D _ hL hp hC h6 (fun D1 c1 c2 c3 => ?_)
  repeat (refine hX _ _ _ _ ?_; conv => whnf)
  rw [c2.1]
  refine ⟨fun q => ?_, fun q => ?_⟩
  · have q : y_k L T p = 3 := (y_k_eq (by decide)).mp q
    repeat (refine hX _ _ _ _ ?_; conv => whnf)
    refine h D1 ?_ c2.2.2 c3
    unfold y_s1 y_se
    rw [if_pos q]
    exact c1
  · have q : ¬ y_k L T p = 3 := fun y => q ((y_k_eq (by decide)).mpr y)
    repeat (refine hX _ _ _ _ ?_; conv => whnf)
    refine hbl L T _ (y_f L T p) 2 D1 _ c1 c2.2.1 (by decide) (by decide) (fun D2 d1 d2 d3 => ?_)
    repeat (refine hX _ _ _ _ ?_; conv => whnf)
    refine h D2 ?_ (by rw [d2 6 (by decide) (by decide)]; exact c2.2.2) (c3.tr d3)
    unfold y_s1 y_se
    rw [if_neg q]
    exact d1
/-- nothing but the trial and the tape has changed -/
def y_Cx (D D' : pm_Mem) : Prop := ∀ r, (r < 10 ∨ 20 ≤ r) → r ≠ 42 → D' r = D r
theorem y_Cs.F {L : Nat} {T : Nat → Int32} {D D' : pm_Mem} {e : Option (Nat × Nat)} (h : y_Cs L T D e) (h42 : D' 42 = D 42) (h43 : D' 43 = D 43) : y_Cs L T D' e := by
  unfold y_Cs
  rw [h42, h43]
  exact h
theorem y_Cs.e0 {L : Nat} {T : Nat → Int32} {D : pm_Mem} {e : Option (Nat × Nat)} (h : y_Cs L T D e) : D 42 2 = 0 ↔ e = none := by
  cases e with
  | none => exact ⟨fun _ => rfl, fun _ => h.2.2.1 rfl⟩
  | some x =>
    obtain ⟨b1, b2, b3, b4⟩ := h.2.2.2 x.1 x.2 rfl
    refine ⟨fun y => ?_, fun y => by cases y⟩
    rw [b1, z_eq, z_tI (by omega)] at y
    have : (x.1 : Int) = 0 := y
    omega
def sp_takeDrag (Ga : pm_Ga) : Prop := ∀ (L : Nat) (T : Nat → Int32) (dt : Bool) (g : z_P) (p : Nat) (D : pm_Mem) (post : pm_Post), z_n g ≤ 4 → z_k g ≤ 12 → L ≤ 160 → p ≤ L → y_Cs L T D none → y_Ct L T D p → D 42 7 = z_bi dt → z_R D 10 g → (∀ D' e, e = y_s1 L T (y_b L T (y_b L T p)) (y_n1 L T 0 3 (y_b L T p) (if dt = true then some (4, y_f L T p) else none)) → y_Cs L T D' e → D' 42 6 = nI (y_b L T (y_b L T (y_b L T p))) → D' 42 7 = 1 → y_Cx D D' → (e = none → z_R D' 10 (z_up g 50 (y_vv L T 0 (y_b L T p)))) → post none D') → Ga 37 [.ref 42, .ref 10] D post
theorem z_R.drag {D : pm_Mem} {g : z_P} {v : Int32} (h : z_R D 10 g) (hn : z_n g ≤ 4) (hk : z_k g ≤ 12) : z_R (pm_mu D 10 2 v) 10 (z_up g 50 v) := by
  have e : ∀ j, j ≠ 50 → z_up g 50 v j = g j := fun j hj => z_up_ne g v hj
  have en : z_n (z_up g 50 v) = z_n g := by unfold z_n; rw [e 24 (by decide)]
  have ek : z_k (z_up g 50 v) = z_k g := by unfold z_k; rw [e 49 (by decide)]
  obtain ⟨a1, a2, a3, a4, a5, a6⟩ := h
  refine ⟨?_, ?_, ?_, ?_, fun b hb => ?_, fun i hi => ?_⟩
  · rw [e 24 (by decide), pm_mu_k _ _ _ _ (by decide)]; exact a1
  · rw [e 49 (by decide), pm_mu_k _ _ _ _ (by decide)]; exact a2
  · rw [z_up_at, pm_mu_at]
  · rw [e 51 (by decide), pm_mu_k _ _ _ _ (by decide)]; exact a4
  · rw [en] at hb
    rw [e b (by omega), e (4 + b) (by omega), e (8 + b) (by omega), e (12 + b) (by omega), e (16 + b) (by omega), e (20 + b) (by omega), pm_mu_r _ _ _ _ (by decide), pm_mu_r _ _ _ _ (by decide), pm_mu_r _ _ _ _ (by decide), pm_mu_r _ _ _ _ (by decide), pm_mu_r _ _ _ _ (by decide), pm_mu_r _ _ _ _ (by decide)]
    exact a5 b hb
  · rw [ek] at hi
    rw [e (25 + i) (by omega), e (37 + i) (by omega), pm_mu_r _ _ _ _ (by decide), pm_mu_r _ _ _ _ (by decide)]
    exact a6 i hi
set_option maxHeartbeats 4000000 in
theorem t_takeDrag {N : Nat} {Ga : pm_Ga} (hbl : sp_blame Ga) (htn : sp_takeNumber Ga) (hts : sp_takeSemicolon Ga) : sp_takeDrag (pm_up N Ga) := by
  intro L T dt g p D post hn4 hk12 hL hp hC hT h7 hR h
  obtain ⟨b1, b2, b3⟩ := y_b_in T hp
  obtain ⟨c1, c2, c3⟩ := y_b_in T b2
  refine ⟨rfl, fun X hX => ?_⟩
  replace hX : ∀ pc L st D, pm_F N Ga tbX3_takeDrag none post X pc L st D → X pc L st D := hX
  change X 0 [some (.ref 42), some (.ref 10), none] [] D
  have go : ∀ (e : Option (Nat × Nat)) (D1 : pm_Mem), e = (if dt = true then some (4, y_f L T p) else none) → y_Cs L T D1 e → D1 42 6 = nI (y_b L T p) → (∀ r, r ≠ 42 → D1 r = D r) → X 12 [some (.ref 42), some (.ref 10), none] [] D1 := by
    intro e D1 he d1 d2 d3
    repeat (refine hX _ _ _ _ ?_; conv => whnf)
    refine ⟨Or.inr rfl, ?_⟩
    repeat (refine hX _ _ _ _ ?_; conv => whnf)
    have d1' : y_Cs L T (pm_mu D1 42 7 1) e := by
      obtain ⟨x1, x2, x3, x4⟩ := d1
      refine ⟨by rw [pm_mu_k _ _ _ _ (by decide)]; exact x1, fun i hi => by rw [pm_mu_r _ _ _ _ (by decide)]; exact x2 i hi, fun y => by rw [pm_mu_k _ _ _ _ (by decide)]; exact x3 y, fun c f y => by rw [pm_mu_k _ _ _ _ (by decide), pm_mu_k _ _ _ _ (by decide)]; exact x4 c f y⟩
    refine htn L T e (y_b L T p) 0 3 0 3 _ _ hL b2 d1' (by rw [pm_mu_k _ _ _ _ (by decide)]; exact d2) rfl rfl (fun D2 e1 e2 e3 => ?_)
    repeat (refine hX _ _ _ _ ?_; conv => whnf)
    refine hts L T _ (y_b L T (y_b L T p)) D2 _ hL c2 e1 e2 (fun D3 f1 f2 f3 => ?_)
    have fr : ∀ r, r ≠ 42 → D3 r = D r := fun r hr => by rw [f3.1 r hr, e3.1 r hr, pm_mu_ne _ _ _ hr]; exact d3 r hr
    have h77 : D3 42 7 = 1 := by rw [f3.2, e3.2, pm_mu_at]
    repeat (refine hX _ _ _ _ ?_; conv => whnf)
    refine ⟨fun q => ?_, fun q => ?_⟩
    · have q0 := fun y => q (f1.e0.mpr y)
      repeat (refine hX _ _ _ _ ?_; conv => whnf)
      exact h D3 _ (by rw [he]) f1 f2 h77 (fun r _ hr => fr r hr) (fun y => absurd y q0)
    · repeat (refine hX _ _ _ _ ?_; conv => whnf)
      refine h _ _ (by rw [he]) (f1.F (by rw [pm_mu_ne _ _ _ (by decide)]) (by rw [pm_mu_ne _ _ _ (by decide)])) (by rw [pm_mu_r _ _ _ _ (by decide)]; exact f2) (by rw [pm_mu_r _ _ _ _ (by decide)]; exact h77) (fun r h1 h2 => by rw [pm_mu_ne _ _ _ (by omega)]; exact fr r h2) (fun _ => ?_)
      refine z_R.drag (z_R.same hR (fun r h1 h2 => fr r (by omega))) hn4 hk12
  repeat (refine hX _ _ _ _ ?_; conv => whnf)
  rw [h7]
  cases hd : dt with
  | true =>
    refine ⟨fun h => absurd h (by decide), fun _ => ?_⟩
    repeat (refine hX _ _ _ _ ?_; conv => whnf)
    refine hbl L T none (y_f L T p) 4 D _ hC hT.2.1 (by decide) (by decide) (fun D1 d1 d2 d3 => ?_)
    exact go (some (4, y_f L T p)) D1 (by rw [hd]; rfl) d1 (by rw [d2 6 (by decide) (by decide)]; exact hT.2.2) d3.1
  | false =>
    refine ⟨fun _ => ?_, fun h => absurd h (by decide)⟩
    exact go none D (by rw [hd]; rfl) hC hT.2.2 (fun _ _ => rfl)
