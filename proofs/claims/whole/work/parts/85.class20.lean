/-! ===== the text: pages, the class ===== -/
theorem z_G.drag {T : Int} {g : z_P} (h : z_G T g) {v : Int32} (hv : z_in v 0 3) : z_G T (z_up g 50 v) ∧ z_n (z_up g 50 v) = z_n g ∧ z_k (z_up g 50 v) = z_k g := by
  obtain ⟨a1, a2, a3, a4, a5, a6, a7, a8⟩ := h
  have e : ∀ j, j ≠ 50 → z_up g 50 v j = g j := fun j hj => z_up_ne g v hj
  have n1 : z_n (z_up g 50 v) = z_n g := by unfold z_n; rw [e 24 (by decide)]
  have n2 : z_k (z_up g 50 v) = z_k g := by unfold z_k; rw [e 49 (by decide)]
  refine ⟨⟨by rw [n1, e 24 (by decide)]; exact a1, by rw [n1]; exact a2, by rw [n2, e 49 (by decide)]; exact a3, by rw [n2]; exact a4, by rw [z_up_at]; exact hv, by rw [e 51 (by decide)]; exact a6, fun b hb => ?_, fun i hi => ?_⟩, n1, n2⟩
  · rw [n1] at hb
    rw [e b (by omega), e (4 + b) (by omega), e (8 + b) (by omega), e (12 + b) (by omega), e (16 + b) (by omega), e (20 + b) (by omega)]
    exact a7 b hb
  · rw [n2] at hi
    rw [e (25 + i) (by omega), e (37 + i) (by omega)]
    exact a8 i hi
theorem z_min_in {T : Int} {g : z_P} (h : z_G T g) {r : Int32} (hr : z_in r 0 60) : z_in (pm_min 300 (z_last g + r)) 0 300 ∧ ((z_last g).toInt + r.toInt ≤ 300 → pm_min 300 (z_last g + r) = z_last g + r) := by
  have hl := z_last_in h
  have e : (z_last g + r).toInt = (z_last g).toInt + r.toInt := z_add (by have := hl.1; have := hr.1; omega) (by have := hl.2; have := hr.2; omega)
  have e3 : (300 : Int32).toInt = 300 := by decide
  unfold pm_min
  by_cases q : z_last g + r < 300
  · rw [if_pos q]
    rw [z_lt, e, e3] at q
    exact ⟨⟨by rw [e]; have := hl.1; have := hr.1; omega, by rw [e]; omega⟩, fun _ => rfl⟩
  · rw [if_neg q]
    rw [z_lt, e, e3] at q
    refine ⟨⟨by rw [e3]; decide, by rw [e3]; decide⟩, fun y => ?_⟩
    rw [z_eq, e, e3]
    omega
theorem z_G.bind {T : Int} {g : z_P} (h : z_G T g) {k r s m : Int32} (hn : z_n g < 4) (hk : z_in k 0 3) (hr : z_in r 0 60) (hs : z_in s 0 9) (hm : z_in m 1 9) : z_G T (z_bind g k r s m) := by
  have hp := (z_min_in h hr).1
  obtain ⟨a1, a2, a3, a4, a5, a6, a7, a8⟩ := h
  obtain ⟨n1, n2⟩ := z_bind_n (g := g) (k := k) (r := r) (s := s) (m := m) hn
  have hi : ∀ j, 24 < j → z_bind g k r s m j = g j := fun j hj => z_bind_hi hn hj
  have nk : z_k (z_bind g k r s m) = z_k g := by unfold z_k; rw [hi 49 (by decide)]
  refine ⟨by rw [n1]; exact n2, by rw [n1]; omega, by rw [nk, hi 49 (by decide)]; exact a3, by rw [nk]; exact a4, by rw [hi 50 (by decide)]; exact a5, by rw [hi 51 (by decide)]; exact a6, fun b hb => ?_, fun i hi' => ?_⟩
  · rw [n1] at hb
    by_cases e : b = z_n g
    · obtain ⟨c1, c2, c3, c4, c5, c6⟩ := z_bind_at (g := g) (k := k) (r := r) (s := s) (m := m) hn
      rw [e, c1, c2, c3, c4, c5, c6]
      exact ⟨hk, hr, hs, hm, hp, ⟨by decide, by decide⟩⟩
    · obtain ⟨c1, c2, c3, c4, c5, c6⟩ := z_bind_lo (g := g) (k := k) (r := r) (s := s) (m := m) hn (b := b) (by omega)
      rw [c1, c2, c3, c4, c5, c6]
      exact a7 b (by omega)
  · rw [nk] at hi'
    rw [hi (25 + i) (by omega), hi (37 + i) (by omega)]
    exact a8 i hi'
theorem y_vv_in {L : Nat} {T : Nat → Int32} {lo : Int32} {A B : Int} {p : Nat} {e : Option (Nat × Nat)} (h : y_n1 L T A B p e = none) : z_in (y_vv L T lo p) A B := by
  obtain ⟨_, h2, h3⟩ := y_n1_none h
  unfold y_vv
  rw [if_pos h2]
  exact z_ib_iff.mp h3
theorem y_neg {v : Int32} (h : z_in v 0 9) : z_in (-v) (-9) 9 := by
  have e : (-v).toInt = - v.toInt := by
    rw [Int32.toInt_neg]
    have := h.1; have := h.2
    exact Int.bmod_eq_of_le (by omega) (by omega)
  unfold z_in
  rw [e]
  have := h.1; have := h.2
  omega
theorem z_last_eq {g h : z_P} (hn : z_n g = z_n h) (he : z_n h ≠ 0 → g (15 + z_n h) = h (15 + z_n h)) : z_last g = z_last h := by
  unfold z_last
  rw [hn]
  by_cases q : z_n h = 0
  · rw [if_pos q, if_pos q]
  · rw [if_neg q, if_neg q]; exact he q
/-- a page told so far stays one, line by line -/
theorem y_line_I {L : Nat} {T : Nat → Int32} {p : Nat} {g : z_P} {dt : Bool} (hI : y_I g) (h : (y_line L T p g dt).1 = none) : y_I (y_line L T p g dt).2.1 := by
  obtain ⟨hG, hs, hl⟩ := hI
  have hw7 := y_wd_le L T p
  have hn4 := hG.2.1
  have hk12 := hG.2.2.2.1
  unfold y_line at h ⊢
  by_cases q7 : y_wd L T p = 7
  · rw [if_pos q7] at h
    have h : y_bm (y_rd L T p none) 2 (y_f L T p) = none := h
    unfold y_bm at h
    split at h <;> cases h
  · rw [if_neg q7] at h ⊢
    by_cases q4 : y_wd L T p = 4
    · rw [if_pos q4] at h ⊢
      have v1 := y_vv_in (lo := 0) (y_s1_none h).1
      obtain ⟨d1, d2, d3⟩ := hG.drag v1
      refine ⟨d1, fun j h1 h2 => ?_, ?_⟩
      · show z_up g 50 _ j = 0
        rw [z_up_ne _ _ (by omega)]; exact hs j h1 h2
      · show (z_last (z_up g 50 _)).toInt ≤ 60 * (z_n (z_up g 50 _) : Int)
        rw [z_last_up (by omega) hn4, d2]; exact hl
    · rw [if_neg q4] at h ⊢
      by_cases q56 : y_wd L T p = 5 ∨ y_wd L T p = 6
      · rw [if_pos q56] at h ⊢
        have e2 := (y_s1_none h).1
        have v2 := y_vv_in (lo := 0) e2
        have e1 := (y_n1_none e2).1
        have v1 := y_vv_in (lo := 0) e1
        have hk : z_k g < 12 := by
          have w := (y_n1_none e1).1
          by_cases y : z_k g = 12
          · rw [if_pos y] at w; cases w
          · omega
        have v3 : z_in (if y_wd L T p = 6 then - y_vv L T 0 (y_b L T (y_b L T p)) else y_vv L T 0 (y_b L T (y_b L T p))) (-9) 9 := by
          split
          · exact y_neg v2
          · exact ⟨by have := v2.1; omega, v2.2⟩
        have lo : ∀ j, j < 25 → z_add1 g (y_vv L T 0 (y_b L T p)) (if y_wd L T p = 6 then - y_vv L T 0 (y_b L T (y_b L T p)) else y_vv L T 0 (y_b L T (y_b L T p))) j = g j := fun j hj => z_add1_lo (by omega) (by omega) (by omega)
        refine ⟨hG.add1 hk v1 v3, fun j h1 h2 => ?_, ?_⟩
        · exact (lo j (by omega)).trans (hs j h1 h2)
        · have nn : z_n (z_add1 g (y_vv L T 0 (y_b L T p)) (if y_wd L T p = 6 then - y_vv L T 0 (y_b L T (y_b L T p)) else y_vv L T 0 (y_b L T (y_b L T p)))) = z_n g := by unfold z_n; rw [lo 24 (by decide)]
          have ee := z_last_eq nn (fun _ => lo _ (by omega))
          show (z_last (z_add1 g _ _)).toInt ≤ 60 * (z_n (z_add1 g _ _) : Int)
          rw [ee, nn]; exact hl
      · rw [if_neg q56] at h ⊢
        have e3 := (y_s1_none h).1
        have v3 := y_vv_in (lo := 1) e3
        have e2 := (y_n1_none e3).1
        have v2 := y_vv_in (lo := 0) e2
        have e1 := (y_n1_none e2).1
        have v1 := y_vv_in (lo := 0) e1
        have hn : z_n g < 4 := by
          have w := (y_n1_none e1).1
          by_cases y : z_n g = 4
          · rw [if_pos y] at w; cases w
          · omega
        have hk : z_in (nI (y_wd L T p)) 0 3 := by
          unfold z_in
          rw [z_tI (by omega)]
          omega
        have hm := z_min_in hG v1
        have e : (z_last g + y_vv L T 0 (y_b L T p)).toInt = (z_last g).toInt + (y_vv L T 0 (y_b L T p)).toInt := z_add (by have := (z_last_in hG).1; have := v1.1; omega) (by have := (z_last_in hG).2; have := v1.2; omega)
        obtain ⟨n1, n2⟩ := z_bind_n (g := g) (k := nI (y_wd L T p)) (r := y_vv L T 0 (y_b L T p)) (s := y_vv L T 0 (y_b L T (y_b L T p))) (m := y_vv L T 1 (y_b L T (y_b L T (y_b L T p)))) hn
        obtain ⟨c1, c2, c3, c4, c5, c6⟩ := z_bind_at (g := g) (k := nI (y_wd L T p)) (r := y_vv L T 0 (y_b L T p)) (s := y_vv L T 0 (y_b L T (y_b L T p))) (m := y_vv L T 1 (y_b L T (y_b L T (y_b L T p)))) hn
        refine ⟨hG.bind hn hk v1 v2 v3, fun j h1 h2 => ?_, ?_⟩
        · show z_bind g _ _ _ _ j = 0
          by_cases y : j = 20 + z_n g
          · rw [y]; exact c6
          · unfold z_bind
            rw [if_neg (by omega), if_neg (by omega), if_neg (by omega), if_neg (by omega), if_neg (by omega), if_neg y, if_neg (by omega)]
            exact hs j h1 h2
        · show (z_last (z_bind g _ _ _ _)).toInt ≤ 60 * (z_n (z_bind g _ _ _ _) : Int)
          unfold z_last
          rw [n1, if_neg (by omega), show 15 + (z_n g + 1) = 16 + z_n g by omega, c5, hm.2 (by have := v1.2; omega), e]
          have := v1.2
          omega
/-! the words -/
theorem pm_eqs_congr {f h : Nat → Int32} {L : Nat} (hT : ∀ i, i < L → f i = h i) : ∀ (w : List Int32) (a : Nat), a + w.length ≤ L → pm_eqs f a w = pm_eqs h a w
  | [], _, _ => rfl
  | x :: w, a, ha => by
    rw [List.length_cons] at ha
    show (decide (f a = x) && pm_eqs f (a + 1) w) = (decide (h a = x) && pm_eqs h (a + 1) w)
    rw [hT a (by omega), pm_eqs_congr hT w (a + 1) (by omega)]
theorem y_sp_eq {D : pm_Mem} {L f b : Nat} {T : Nat → Int32} (hL : L ≤ 160) (hfb : f ≤ b) (hb : b ≤ L) (hT : ∀ i, i < L → D 43 i = T i) (h5 : D 42 5 = nI f) (h6 : D 42 6 = nI b) (w : List Int32) (hw : w.length < 100) : pm_spell D w = y_sp T f b w := by
  unfold pm_spell y_sp
  rw [h5, h6, nI_subN hfb, nI_clamp (by omega)]
  by_cases q : b - f = w.length
  · rw [decide_eq_true q, decide_eq_true (show nI (b - f) = nI w.length by rw [q]), pm_eqs_congr hT w f (by omega)]
  · have q2 : ¬ nI (b - f) = nI w.length := fun y => by
      rw [z_eq, z_tI (by omega), z_tI (by omega)] at y
      omega
    rw [decide_eq_false q, decide_eq_false q2]
    rfl
theorem y_wf_eq {D : pm_Mem} {L f b : Nat} {T : Nat → Int32} (hL : L ≤ 160) (hfb : f ≤ b) (hb : b ≤ L) (hT : ∀ i, i < L → D 43 i = T i) (h5 : D 42 5 = nI f) (h6 : D 42 6 = nI b) : ∀ (ws : List (List Int32)) (k : Nat), (∀ w ∈ ws, w.length < 100) → pm_wf D ws k = nI (y_wf T f b ws k)
  | [], _, _ => rfl
  | w :: ws, k, hl => by
    show (if pm_spell D w = true then nI k else pm_wf D ws (k + 1)) = nI (if y_sp T f b w = true then k else y_wf T f b ws (k + 1))
    rw [y_sp_eq hL hfb hb hT h5 h6 w (hl w (List.mem_cons_self ..)), y_wf_eq hL hfb hb hT h5 h6 ws (k + 1) (fun x hx => hl x (List.mem_cons_of_mem _ hx))]
    split <;> rfl
def sp_wordRead (Ga : pm_Ga) : Prop := ∀ (a b : Nat) (D : pm_Mem) (post : pm_Post), a ≤ b → b ≤ 160 → D 42 5 = nI a → D 42 6 = nI b → post (some (.int (pm_wf D pm_words 0))) D → Ga 0 [.ref 42] D post
theorem K_wordRead {N d : Nat} : sp_wordRead (pm_D N (d + 7)) := fun a b _ _ h1 h2 h3 h4 h5 => ⟨by omega, rfl, ⟨a, b, h1, h2, h3, h4⟩, h5⟩
def sp_takeLine (Ga : pm_Ga) : Prop := ∀ (L : Nat) (T : Nat → Int32) (dt : Bool) (g : z_P) (p : Nat) (D : pm_Mem) (post : pm_Post), C7 D → y_I g → L ≤ 160 → p ≤ L → y_Cs L T D (y_rd L T p none) → y_Ct L T D p → D 42 7 = z_bi dt → z_R D 10 g → (∀ D' e g' dt' p', y_line L T p g dt = (e, g', dt', p') → y_Cs L T D' e → D' 42 6 = nI p' → D' 42 7 = z_bi dt' → y_Cx D D' → (e = none → z_R D' 10 g') → post none D') → Ga 35 [.ref 42, .ref 10] D post
theorem y_w_eq {w k : Nat} (hw : w ≤ 7) (hk : k ≤ 7) : nI w = nI k ↔ w = k := by
  constructor
  · intro h
    rw [z_eq, z_tI (by omega), z_tI (by omega)] at h
    omega
  · intro h; rw [h]
set_option maxHeartbeats 4000000 in
theorem t_takeLine {N : Nat} {Ga : pm_Ga} (hwr : sp_wordRead Ga) (hbl : sp_blame Ga) (htd : sp_takeDrag Ga) (htk : sp_takeKnock Ga) (htb : sp_takeBead Ga) : sp_takeLine (pm_up N Ga) := by
  intro L T dt g p D post h7 hI hL hp hC hT hd hR h
  obtain ⟨hG, hs, hl⟩ := hI
  obtain ⟨b1, b2, b3⟩ := y_b_in T hp
  have hw7 := y_wd_le L T p
  refine ⟨rfl, fun X hX => ?_⟩
  replace hX : ∀ pc L st D, pm_F N Ga tbX3_takeLine none post X pc L st D → X pc L st D := hX
  change X 0 [some (.ref 42), some (.ref 10), none] [] D
  have go : X 17 [some (.ref 42), some (.ref 10), none] [.int (nI (y_wd L T p))] D := by
    unfold y_line at h
    repeat (refine hX _ _ _ _ ?_; conv => whnf)
    refine ⟨fun q7 => ?_, fun q7 => ?_⟩
    · have q7 : ¬ y_wd L T p = 7 := fun y => q7 ((y_w_eq hw7 (by decide)).mpr y)
      rw [if_neg q7] at h
      rw [y_rd_n _ (by rw [y_wd_k q7]; decide)] at hC
      repeat (refine hX _ _ _ _ ?_; conv => whnf)
      refine ⟨fun q4 => ?_, fun q4 => ?_⟩
      · have q4 : ¬ y_wd L T p = 4 := fun y => q4 ((y_w_eq hw7 (by decide)).mpr y)
        rw [if_neg q4] at h
        have kn : (y_wd L T p = 5 ∨ y_wd L T p = 6) → X 56 [some (.ref 42), some (.ref 10), some (.int (nI (y_wd L T p)))] [] D := by
          intro q56
          rw [if_pos q56] at h
          repeat (refine hX _ _ _ _ ?_; conv => whnf)
          refine ⟨fun q6 => ?_, fun q6 => ?_⟩
          · have q6 : ¬ y_wd L T p = 6 := fun y => q6 ((y_w_eq hw7 (by decide)).mpr y)
            repeat (refine hX _ _ _ _ ?_; conv => whnf)
            refine htk L T false g p D _ hG.2.1 hG.2.2.1 hG.2.2.2.1 hL hp hC hT hR (fun D' e he f1 f2 f3 f4 f5 => ?_)
            repeat (refine hX _ _ _ _ ?_; conv => whnf)
            rw [if_neg q6] at h
            exact h D' e _ _ _ (by rw [he]; rfl) f1 f2 (by rw [f3]; exact hd) f4 f5
          · have q6 : y_wd L T p = 6 := (y_w_eq hw7 (by decide)).mp q6
            repeat (refine hX _ _ _ _ ?_; conv => whnf)
            refine htk L T true g p D _ hG.2.1 hG.2.2.1 hG.2.2.2.1 hL hp hC hT hR (fun D' e he f1 f2 f3 f4 f5 => ?_)
            repeat (refine hX _ _ _ _ ?_; conv => whnf)
            rw [if_pos q6] at h
            exact h D' e _ _ _ (by rw [he]; rfl) f1 f2 (by rw [f3]; exact hd) f4 f5
        repeat (refine hX _ _ _ _ ?_; conv => whnf)
        refine ⟨fun q5 => ?_, fun q5 => ?_⟩
        · have q5 : y_wd L T p = 5 := (y_w_eq hw7 (by decide)).mp q5
          exact kn (Or.inl q5)
        · have q5 : ¬ y_wd L T p = 5 := fun y => q5 ((y_w_eq hw7 (by decide)).mpr y)
          repeat (refine hX _ _ _ _ ?_; conv => whnf)
          refine ⟨fun q6 => ?_, fun q6 => ?_⟩
          · have q6 : ¬ y_wd L T p = 6 := fun y => q6 ((y_w_eq hw7 (by decide)).mpr y)
            rw [if_neg (by omega)] at h
            repeat (refine hX _ _ _ _ ?_; conv => whnf)
            refine htb L T _ g p D _ h7 hG.2.1 hG.1 hL hp hC hT hR (fun D' e he f1 f2 f3 f4 f5 => ?_)
            repeat (refine hX _ _ _ _ ?_; conv => whnf)
            exact h D' e _ _ _ (by rw [he]) f1 f2 (by rw [f3]; exact hd) f4 f5
          · have q6 : y_wd L T p = 6 := (y_w_eq hw7 (by decide)).mp q6
            exact kn (Or.inr q6)
      · have q4 : y_wd L T p = 4 := (y_w_eq hw7 (by decide)).mp q4
        rw [if_pos q4] at h
        repeat (refine hX _ _ _ _ ?_; conv => whnf)
        refine htd L T dt g p D _ hG.2.1 hG.2.2.2.1 hL hp hC hT hd hR (fun D' e he f1 f2 f3 f4 f5 => ?_)
        repeat (refine hX _ _ _ _ ?_; conv => whnf)
        exact h D' e _ _ _ (by rw [he]) f1 f2 (by rw [f3]; rfl) f4 f5
    · have q7 : y_wd L T p = 7 := (y_w_eq hw7 (by decide)).mp q7
      rw [if_pos q7] at h
      repeat (refine hX _ _ _ _ ?_; conv => whnf)
      refine hbl L T _ (y_f L T p) 2 D _ hC hT.2.1 (by decide) (by decide) (fun D' d1 d2 d3 => ?_)
      repeat (refine hX _ _ _ _ ?_; conv => whnf)
      refine h D' _ _ _ _ rfl d1 (by rw [d2 6 (by decide) (by decide)]; exact hT.2.2) (by rw [d3.2]; exact hd) (fun r _ hr => d3.1 r hr) (fun y => ?_)
      exact z_R.same hR (fun r h1 h2 => d3.1 r (by omega))
  repeat (refine hX _ _ _ _ ?_; conv => whnf)
  rw [hT.1]
  refine ⟨fun q => ?_, fun q => ?_⟩
  · have q : ¬ y_k L T p = 1 := fun y => q ((y_k_eq (by decide)).mpr y)
    have e7 : y_wd L T p = 7 := if_neg q
    rw [e7] at go
    iterate 1 (refine hX _ _ _ _ ?_; conv => whnf)
    exact go
  · have q : y_k L T p = 1 := (y_k_eq (by decide)).mp q
    have ew : y_wd L T p = y_wf T (y_f L T p) (y_b L T p) pm_words 0 := if_pos q
    repeat (refine hX _ _ _ _ ?_; conv => whnf)
    refine hwr (y_f L T p) (y_b L T p) D _ b1 (by omega) hT.2.1 hT.2.2 ?_
    rw [y_wf_eq hL b1 b2 hC.2.1 hT.2.1 hT.2.2 pm_words 0 (by decide), ← ew]
    iterate 1 (refine hX _ _ _ _ ?_; conv => whnf)
    exact go
