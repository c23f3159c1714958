/-! ===== the text: the reference ===== -/
def y_Ms (L : Nat) (T : Nat → Int32) (D : pm_Mem) : Prop := D 67 4 = nI L ∧ ∀ i, i < L → D 70 i = T i
def y_Me (D : pm_Mem) (e : Option (Nat × Nat)) : Prop := (e = none → D 67 6 = 0) ∧ ∀ c f, e = some (c, f) → D 67 6 = nI c ∧ D 67 7 = nI f ∧ 0 < c ∧ c ≤ 5
def y_tm (k : Nat) : Nat := if k = 4 then 0 else k
def y_Mt (L : Nat) (T : Nat → Int32) (D : pm_Mem) (p : Nat) : Prop := D 67 9 = nI (y_f L T p) ∧ D 67 8 = nI (y_b L T p) ∧ D 67 10 = nI (y_tm (y_k L T p)) ∧ (y_k L T p = 2 → D 67 11 = y_v L T p)
def y_M (L : Nat) (T : Nat → Int32) (D : pm_Mem) (p : Nat) (e : Option (Nat × Nat)) : Prop := y_Ms L T D ∧ y_Me D e ∧ (e = none → y_Mt L T D p)
def y_Mf (D D' : pm_Mem) : Prop := (∀ r, r ≠ 67 → D' r = D r) ∧ ∀ k, (k < 6 ∨ 12 ≤ k) → D' 67 k = D 67 k
theorem y_Mf.rf (D : pm_Mem) : y_Mf D D := ⟨fun _ _ => rfl, fun _ _ => rfl⟩
theorem y_Mf.tr {D D1 D2 : pm_Mem} (h1 : y_Mf D D1) (h2 : y_Mf D1 D2) : y_Mf D D2 := ⟨fun r hr => by rw [h2.1 r hr]; exact h1.1 r hr, fun k hk => by rw [h2.2 k hk]; exact h1.2 k hk⟩
theorem y_Ms.F {L : Nat} {T : Nat → Int32} {D D' : pm_Mem} (h : y_Ms L T D) (hf : y_Mf D D') : y_Ms L T D' := ⟨by rw [hf.2 4 (by omega)]; exact h.1, fun i hi => by rw [hf.1 70 (by decide)]; exact h.2 i hi⟩
theorem y_Me.e0 {D : pm_Mem} {e : Option (Nat × Nat)} (h : y_Me D e) : D 67 6 = 0 ↔ e = none := by
  cases e with
  | none => exact ⟨fun _ => rfl, fun _ => h.1 rfl⟩
  | some x =>
    obtain ⟨b1, b2, b3, b4⟩ := h.2 x.1 x.2 rfl
    refine ⟨fun y => ?_, fun y => by cases y⟩
    rw [b1, z_eq, z_tI (by omega)] at y
    have : (x.1 : Int) = 0 := y
    omega
/-- broken is above 0 or 0 -/
theorem y_Me.le {D : pm_Mem} {e : Option (Nat × Nat)} (h : y_Me D e) : D 67 6 ≤ 0 ↔ e = none := by
  cases e with
  | none => exact ⟨fun _ => rfl, fun _ => by rw [h.1 rfl]; decide⟩
  | some x =>
    obtain ⟨b1, b2, b3, b4⟩ := h.2 x.1 x.2 rfl
    refine ⟨fun y => ?_, fun y => by cases y⟩
    rw [b1, z_le, z_tI (by omega)] at y
    have : (x.1 : Int) ≤ 0 := y
    omega
theorem y_Me.F {D D' : pm_Mem} {e : Option (Nat × Nat)} (h : y_Me D e) (h6 : D' 67 6 = D 67 6) (h7 : D' 67 7 = D 67 7) : y_Me D' e := by
  unfold y_Me
  rw [h6, h7]
  exact h
def sp_byteAt (Ga : pm_Ga) : Prop := ∀ (L k : Nat) (T : Nat → Int32) (D : pm_Mem) (post : pm_Post), L ≤ 160 → k ≤ 1000 → y_Ms L T D → post (some (.int (y_by L T k))) D → Ga 102 [.ref 67, .int (nI k)] D post
set_option maxHeartbeats 2000000 in
theorem t_byteAt {N : Nat} {Ga : pm_Ga} : sp_byteAt (pm_up N Ga) := by
  intro L k T D post hL hk hM h
  refine ⟨rfl, fun X hX => ?_⟩
  replace hX : ∀ pc L st D, pm_F N Ga tbX5_byteAt (some .int) post X pc L st D → X pc L st D := hX
  change X 0 [some (.ref 67), some (.int (nI k))] [] D
  repeat (refine hX _ _ _ _ ?_; conv => whnf)
  rw [hM.1]
  by_cases q : k < L
  · have e : y_by L T k = T k := if_pos q
    rw [e] at h
    refine ⟨fun y => absurd y (nI_ge q (by omega)), fun _ => ?_⟩
    repeat (refine hX _ _ _ _ ?_; conv => whnf)
    refine ⟨vp_in_nI (by omega) (by decide), ?_⟩
    rw [nI_clamp (by omega), hM.2 k q]
    repeat (refine hX _ _ _ _ ?_; conv => whnf)
    exact h
  · have e : y_by L T k = -4 := if_neg q
    rw [e] at h
    refine ⟨fun _ => ?_, fun y => absurd (nI_le (by omega) (by omega)) y⟩
    repeat (refine hX _ _ _ _ ?_; conv => whnf)
    exact h
def sp_fails (Ga : pm_Ga) : Prop := ∀ (e : Option (Nat × Nat)) (f c : Nat) (D : pm_Mem) (post : pm_Post), y_Me D e → (e = none → D 67 9 = nI f) → 0 < c → c ≤ 5 → (∀ D', y_Me D' (y_bm e c f) → (∀ r, r ≠ 67 → D' r = D r) → (∀ k, k ≠ 6 → k ≠ 7 → D' 67 k = D 67 k) → post none D') → Ga 103 [.ref 67, .int (nI c)] D post
set_option maxHeartbeats 2000000 in
theorem t_fails {N : Nat} {Ga : pm_Ga} : sp_fails (pm_up N Ga) := by
  intro e f c D post hM hf hc hc5 h
  refine ⟨rfl, fun X hX => ?_⟩
  replace hX : ∀ pc L st D, pm_F N Ga tbX5_fails none post X pc L st D → X pc L st D := hX
  change X 0 [some (.ref 67), some (.int (nI c))] [] D
  repeat (refine hX _ _ _ _ ?_; conv => whnf)
  refine ⟨fun q => ?_, fun q => ?_⟩
  · repeat (refine hX _ _ _ _ ?_; conv => whnf)
    cases e with
    | none => exact absurd (hM.1 rfl) q
    | some x => exact h D hM (fun _ _ => rfl) (fun _ _ _ => rfl)
  · have q0 := hM.e0.mp q
    subst q0
    repeat (refine hX _ _ _ _ ?_; conv => whnf)
    refine h _ ⟨(fun y => by cases y), fun c' f' hy => ?_⟩ (fun r hr => ?_) (fun k h6 h7 => ?_)
    · have hy : some (c, f) = some (c', f') := hy
      cases hy
      refine ⟨?_, ?_, hc, hc5⟩
      · rw [pm_mu_k _ _ _ _ (by decide), pm_mu_at]
      · rw [pm_mu_at, pm_mu_k _ _ _ _ (by decide)]; exact hf rfl
    · rw [pm_mu_ne _ _ _ hr, pm_mu_ne _ _ _ hr]
    · rw [pm_mu_k _ _ _ _ h7, pm_mu_k _ _ _ _ h6]
/-! names -/
def y_E (n : Nat) : Nat := [0, 5, 9, 14, 19, 23, 25, 29].getD n 0
theorem y_E_ends : ∀ n, n < 8 → z_ends.getD n 0 = nI (y_E n) := by decide +kernel
theorem y_E_up : ∀ n, n < 7 → y_E n ≤ y_E (n + 1) ∧ y_E (n + 1) ≤ 29 ∧ (pm_words.getD n []).length = y_E (n + 1) - y_E n := by decide +kernel
theorem y_E_drop : ∀ n, n < 7 → pm_words.drop n = pm_words.getD n [] :: pm_words.drop (n + 1) := by decide +kernel
def y_sm (T : Nat → Int32) (f e : Nat) : Nat → Bool
  | 0 => true
  | k + 1 => y_sm T f e k && decide (T (f + k) = z_lets.getD (e + k) 0)
theorem y_sm_all (T : Nat → Int32) (f e : Nat) : ∀ k, y_sm T f e k = true ↔ ∀ i, i < k → T (f + i) = z_lets.getD (e + i) 0
  | 0 => ⟨fun _ i hi => absurd hi (Nat.not_lt_zero _), fun _ => rfl⟩
  | k + 1 => by
    show (y_sm T f e k && decide (T (f + k) = z_lets.getD (e + k) 0)) = true ↔ _
    rw [Bool.and_eq_true, y_sm_all T f e k, decide_eq_true_iff]
    constructor
    · intro h i hi
      by_cases q : i = k
      · rw [q]; exact h.2
      · exact h.1 i (by omega)
    · intro h
      exact ⟨fun i hi => h i (by omega), h k (by omega)⟩
theorem pm_eqs_all (T : Nat → Int32) : ∀ (w : List Int32) (a : Nat), pm_eqs T a w = true ↔ ∀ i, i < w.length → T (a + i) = w.getD i 0
  | [], a => ⟨fun _ i hi => absurd hi (Nat.not_lt_zero _), fun _ => rfl⟩
  | x :: w, a => by
    show (decide (T a = x) && pm_eqs T (a + 1) w) = true ↔ _
    rw [Bool.and_eq_true, pm_eqs_all T w (a + 1), decide_eq_true_iff, List.length_cons]
    constructor
    · intro h i hi
      cases i with
      | zero => exact h.1
      | succ i =>
        have := h.2 i (by omega)
        rw [show a + (i + 1) = a + 1 + i by omega]
        exact this
    · intro h
      refine ⟨h 0 (by omega), fun i hi => ?_⟩
      have := h (i + 1) (by omega)
      rw [show a + 1 + i = a + (i + 1) by omega]
      exact this
theorem y_E_let : ∀ n, n < 7 → ∀ i, i < y_E (n + 1) - y_E n → (pm_words.getD n []).getD i 0 = z_lets.getD (y_E n + i) 0 := by decide +kernel
theorem y_sm_sp {T : Nat → Int32} {f b n : Nat} (hn : n < 7) : y_sp T f b (pm_words.getD n []) = (decide (b - f = y_E (n + 1) - y_E n) && y_sm T f (y_E n) (y_E (n + 1) - y_E n)) := by
  unfold y_sp
  rw [(y_E_up n hn).2.2]
  congr 1
  rw [Bool.eq_iff_iff, pm_eqs_all, y_sm_all, (y_E_up n hn).2.2]
  constructor
  · intro h i hi
    rw [h i hi, y_E_let n hn i hi]
  · intro h i hi
    rw [h i hi, y_E_let n hn i hi]
def sp_nameHere (Ga : pm_Ga) : Prop := ∀ (L p : Nat) (T : Nat → Int32) (D : pm_Mem) (post : pm_Post), L ≤ 160 → p ≤ L → M7 D → y_M L T D p none → post (some (.int (if y_wd L T p = 7 then -4 else nI (y_wd L T p)))) D → Ga 104 [.ref 67] D post
set_option maxHeartbeats 4000000 in
theorem t_nameHere {N : Nat} {Ga : pm_Ga} (hby : sp_byteAt Ga) : sp_nameHere (pm_up N Ga) := by
  intro L p T D post hL hp h7 hM h
  obtain ⟨m1, m2, m3⟩ := hM
  obtain ⟨t1, t2, t3, t4⟩ := m3 rfl
  obtain ⟨f1, f2⟩ := y_f_in T hp
  obtain ⟨b1, b2, b3⟩ := y_b_in T hp
  have hk5 := y_k5 L T p
  refine ⟨rfl, fun X hX => ?_⟩
  replace hX : ∀ pc L st D, pm_F N Ga tbX5_nameHere (some .int) post X pc L st D → X pc L st D := hX
  change X 0 [some (.ref 67), none, none, none] [] D
  by_cases q : y_k L T p = 1
  · have ew : y_wd L T p = y_wf T (y_f L T p) (y_b L T p) (pm_words.drop 0) 0 := if_pos q
    have tk : D 67 10 = 1 := by rw [t3, q]; rfl
    iterate 2 (refine hX _ _ _ _ ?_; conv => whnf)
    generalize hw : y_wd L T p = w at h ew
    have loop : ∀ (m n : Nat) (l2 l3 : Option Value), n + m = 7 → w = y_wf T (y_f L T p) (y_b L T p) (pm_words.drop n) n → X 2 [some (.ref 67), some (.int (nI n)), l2, l3] [] D := by
      intro m
      induction m with
      | zero =>
        intro n l2 l3 hn he
        have hn : n = 7 := by omega
        subst hn
        have he : w = 7 := he
        rw [if_pos he] at h
        repeat (refine hX _ _ _ _ ?_; conv => whnf)
        refine ⟨fun _ => ?_, fun h => absurd h (by decide)⟩
        repeat (refine hX _ _ _ _ ?_; conv => whnf)
        exact h
      | succ m ih =>
        intro n l2 l3 hn he
        have hn7 : n < 7 := by omega
        obtain ⟨u1, u2, u3⟩ := y_E_up n hn7
        rw [y_E_drop n hn7] at he
        have he : w = if y_sp T (y_f L T p) (y_b L T p) (pm_words.getD n []) = true then n else y_wf T (y_f L T p) (y_b L T p) (pm_words.drop (n + 1)) (n + 1) := he
        rw [y_sm_sp hn7] at he
        have nxt : ∀ (s : Bool) (k : Int32), s = (decide (y_b L T p - y_f L T p = y_E (n + 1) - y_E n) && y_sm T (y_f L T p) (y_E n) (y_E (n + 1) - y_E n)) → X 106 [some (.ref 67), some (.int (nI n)), some (.int (z_bi s)), some (.int k)] [] D := by
          intro s k hs
          rw [← hs] at he
          repeat (refine hX _ _ _ _ ?_; conv => whnf)
          cases hss : s with
          | true =>
            rw [hss, if_pos rfl] at he
            rw [if_neg (by omega), he] at h
            refine ⟨fun h => absurd h (by decide), fun _ => ?_⟩
            repeat (refine hX _ _ _ _ ?_; conv => whnf)
            exact h
          | false =>
            rw [hss, if_neg (by decide)] at he
            refine ⟨fun _ => ?_, fun h => absurd h (by decide)⟩
            iterate 2 (refine hX _ _ _ _ ?_; conv => whnf)
            rw [nI_1]
            exact ih (n + 1) _ _ (by omega) he
        have inner : ∀ (j k : Nat) (s : Bool), k + j = y_E (n + 1) - y_E n → s = (decide (y_b L T p - y_f L T p = y_E (n + 1) - y_E n) && y_sm T (y_f L T p) (y_E n) k) → X 51 [some (.ref 67), some (.int (nI n)), some (.int (z_bi s)), some (.int (nI k))] [] D := by
          intro j
          induction j with
          | zero =>
            intro k s hk hs
            have hk : k = y_E (n + 1) - y_E n := by omega
            subst hk
            have nx := nxt s (nI (y_E (n + 1) - y_E n)) hs
            repeat (refine hX _ _ _ _ ?_; conv => whnf)
            cases hss : s with
            | true =>
              rw [hss] at hs nx
              have hd : y_b L T p - y_f L T p = y_E (n + 1) - y_E n := of_decide_eq_true (Bool.and_eq_true_iff.mp hs.symm).1
              refine ⟨fun h => absurd h (by decide), fun _ => ?_⟩
              repeat (refine hX _ _ _ _ ?_; conv => whnf)
              rw [t2, t1, nI_subN b1, hd]
              refine ⟨fun _ => nx, fun y => absurd (nI_le (Nat.le_refl _) (by omega)) y⟩
            | false =>
              rw [hss] at nx
              refine ⟨fun _ => ?_, fun h => absurd h (by decide)⟩
              exact nx
          | succ j ihj =>
            intro k s hk hs
            repeat (refine hX _ _ _ _ ?_; conv => whnf)
            cases hss : s with
            | true =>
              rw [hss] at hs
              have hd : y_b L T p - y_f L T p = y_E (n + 1) - y_E n := of_decide_eq_true (Bool.and_eq_true_iff.mp hs.symm).1
              have hsm : y_sm T (y_f L T p) (y_E n) k = true := (Bool.and_eq_true_iff.mp hs.symm).2
              have eb : y_by L T (y_f L T p + k) = T (y_f L T p + k) := if_pos (by omega)
              refine ⟨fun h => absurd h (by decide), fun _ => ?_⟩
              repeat (refine hX _ _ _ _ ?_; conv => whnf)
              rw [t2, t1, nI_subN b1, hd]
              refine ⟨fun y => absurd y (nI_ge (by omega) (by omega)), fun _ => ?_⟩
              repeat (refine hX _ _ _ _ ?_; conv => whnf)
              rw [t1, nI_add]
              refine hby L (y_f L T p + k) T D _ hL (by omega) m1 ?_
              rw [eb]
              repeat (refine hX _ _ _ _ ?_; conv => whnf)
              refine ⟨vp_in_nI (by omega) (by decide), ?_⟩
              rw [nI_clamp (by omega), h7.1 n (by omega), y_E_ends n (by omega)]
              repeat (refine hX _ _ _ _ ?_; conv => whnf)
              rw [nI_add]
              refine ⟨vp_in_nI (by omega) (by decide), ?_⟩
              rw [nI_clamp (by omega), h7.2 _ (by omega)]
              repeat (refine hX _ _ _ _ ?_; conv => whnf)
              refine ⟨fun q2 => ?_, fun q2 => ?_⟩
              · iterate 4 (refine hX _ _ _ _ ?_; conv => whnf)
                rw [nI_1]
                refine ihj (k + 1) false (by omega) ?_
                show false = (_ && (y_sm T (y_f L T p) (y_E n) k && decide (T (y_f L T p + k) = z_lets.getD (y_E n + k) 0)))
                rw [decide_eq_false q2, Bool.and_false, Bool.and_false]
              · iterate 5 (refine hX _ _ _ _ ?_; conv => whnf)
                rw [nI_1]
                refine ihj (k + 1) true (by omega) ?_
                show true = (_ && (y_sm T (y_f L T p) (y_E n) k && decide (T (y_f L T p + k) = z_lets.getD (y_E n + k) 0)))
                rw [decide_eq_true q2, decide_eq_true hd, hsm]
                rfl
            | false =>
              rw [hss] at hs
              refine ⟨fun _ => ?_, fun h => absurd h (by decide)⟩
              refine nxt false _ ?_
              by_cases hd : y_b L T p - y_f L T p = y_E (n + 1) - y_E n
              · rw [decide_eq_true hd, Bool.true_and] at hs ⊢
                cases y : y_sm T (y_f L T p) (y_E n) (y_E (n + 1) - y_E n) with
                | false => rfl
                | true =>
                  have := (y_sm_all T (y_f L T p) (y_E n) k).mpr (fun i hi => (y_sm_all T (y_f L T p) (y_E n) _).mp y i (by omega))
                  rw [this] at hs
                  cases hs
              · rw [decide_eq_false hd]; rfl
        repeat (refine hX _ _ _ _ ?_; conv => whnf)
        refine ⟨fun y => absurd y (nI_ge (b := 7) (by omega) (by omega)), fun _ => ?_⟩
        repeat (refine hX _ _ _ _ ?_; conv => whnf)
        rw [tk]
        refine ⟨fun h => absurd h (by decide), fun _ => ?_⟩
        repeat (refine hX _ _ _ _ ?_; conv => whnf)
        rw [nI_1]
        refine ⟨vp_in_nI (by omega) (by decide), ?_⟩
        repeat (refine hX _ _ _ _ ?_; conv => whnf)
        refine ⟨vp_in_nI (by omega) (by decide), ?_⟩
        rw [nI_clamp (by omega), nI_clamp (by omega), h7.1 n (by omega), h7.1 (n + 1) (by omega), y_E_ends n (by omega), y_E_ends (n + 1) (by omega)]
        repeat (refine hX _ _ _ _ ?_; conv => whnf)
        rw [nI_subN u1, t2, t1, nI_subN b1]
        refine ⟨fun qd => ?_, fun qd => ?_⟩
        · have qd : ¬ y_b L T p - y_f L T p = y_E (n + 1) - y_E n := fun y => qd (by rw [y])
          iterate 4 (refine hX _ _ _ _ ?_; conv => whnf)
          exact inner (y_E (n + 1) - y_E n) 0 false (Nat.zero_add _) (by rw [decide_eq_false qd]; rfl)
        · have qd : y_b L T p - y_f L T p = y_E (n + 1) - y_E n := by
            rw [z_eq, z_tI (by omega), z_tI (by omega)] at qd
            omega
          iterate 5 (refine hX _ _ _ _ ?_; conv => whnf)
          exact inner (y_E (n + 1) - y_E n) 0 true (Nat.zero_add _) (by rw [decide_eq_true qd]; rfl)
    exact loop 7 0 _ _ (by omega) ew
  · have ew : y_wd L T p = 7 := if_neg q
    rw [if_pos ew] at h
    have tk : ¬ D 67 10 = 1 := by
      rw [t3]
      unfold y_tm
      split
      · decide
      · intro y
        exact q ((y_k_eq (k := 1) (by decide)).mp y)
    repeat (refine hX _ _ _ _ ?_; conv => whnf)
    refine ⟨fun h => absurd h (by decide), fun _ => ?_⟩
    repeat (refine hX _ _ _ _ ?_; conv => whnf)
    refine ⟨fun _ => ?_, fun y => absurd y tk⟩
    repeat (refine hX _ _ _ _ ?_; conv => whnf)
    exact h
