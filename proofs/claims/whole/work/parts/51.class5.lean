def sp_tryWith (Ga : pm_Ga) : Prop := ∀ (t b : Nat) (v : Int32) (g : z_P) (D : pm_Mem) (post : pm_Post) (T : Int), t ≤ 4 → b < z_n g → z_G T g → z_R D 0 g → (∀ D', z_R D' 10 (z_up g (4 * t + b) v) → (∀ r, (r < 10 ∨ 20 ≤ r) → D' r = D r) → post none D') → Ga 72 [.ref 40, .int (nI t), .int (nI b), .int v] D post
set_option maxHeartbeats 2000000 in
theorem t_tryWith {N : Nat} {Ga : pm_Ga} (hbl : sp_becomeLike Ga) (hro : sp_rowOf Ga) : sp_tryWith (pm_up N Ga) := by
  intro t b v g D post T ht hb hG hR h
  have hn4 := hG.2.1
  refine ⟨rfl, fun X hX => ?_⟩
  replace hX : ∀ pc L st D, pm_F N Ga tbX4_tryWith none post X pc L st D → X pc L st D := hX
  change X 0 [some (.ref 40), some (.int (nI t)), some (.int (nI b)), some (.int v)] [] D
  repeat (refine hX _ _ _ _ ?_; conv => whnf)
  refine hbl 10 0 D _ (Or.inl ⟨rfl, rfl⟩) (fun D1 f1 f2 f3 f4 => ?_)
  have hR1 := z_like hG hR f1
  repeat (refine hX _ _ _ _ ?_; conv => whnf)
  refine hro 10 t D1 _ (by decide) ht ?_
  repeat (refine hX _ _ _ _ ?_; conv => whnf)
  change (match pm_sh N (10 + 1 + t) with | (0, n, _) => 10 + 1 + t < 80 ∧ vp_in (nI b) n ∧ X 22 [some (.ref 40), some (.int (nI t)), some (.int (nI b)), some (.int v)] [] (pm_mu D1 (10 + 1 + t) (nI b).toNatClampNeg v) | _ => False)
  rw [z_row10 ht]
  refine ⟨by omega, vp_in_nI (by omega) (by decide), ?_⟩
  rw [nI_clamp (by omega)]
  repeat (refine hX _ _ _ _ ?_; conv => whnf)
  exact h _ (z_R_putc hR1 hn4 ht hb) (fun r hr => by rw [pm_mu_ne _ _ _ (by omega)]; exact f2 r (by omega))
def sp_steadiest (Ga : pm_Ga) : Prop := ∀ (t : Nat), t ≤ 3 → ∀ z b n w D post, zOk z → CR D z → cP D (r_best t z b n w) post → Ga 71 [.ref 40, .int (nI t), .int b, .int n, .int w] D post
set_option maxHeartbeats 4000000 in
theorem t_steadiest {N : Nat} {Ga : pm_Ga} (hhas : sp_has Ga) (hwi : sp_within Ga) (htw : sp_tryWith Ga) (hgs : sp_greatestSwing Ga) : sp_steadiest (pm_up N Ga) := by
  intro t ht z b n w D post hz hC h
  have h1 : z_R D 0 (zG z) := hC.1
  have hG := hz.1
  obtain ⟨g1, g2, g3, g4, g5, g6, g7, g8⟩ := hz.1
  unfold r_best at h
  have hlo : z_lo t = (z_loN t : Int) ∧ z_hi t = (z_hiN t : Int) ∧ z_loN t ≤ z_hiN t ∧ z_hiN t ≤ 60 := by
    have h4 : t = 0 ∨ t = 1 ∨ t = 2 ∨ t = 3 := by omega
    rcases h4 with rfl | rfl | rfl | rfl <;> decide
  obtain ⟨l1, l2, l3, l4⟩ := hlo
  have d80 : D 80 t = nI (z_loN t) := by
    rw [z_eq, (hC.2.2.2.2.2.2.lo (by omega)).1, z_tI (by omega), l1]
  have d81 : D 81 t = nI (z_hiN t) := by
    rw [z_eq, (hC.2.2.2.2.2.2.lo (by omega)).2, z_tI (by omega), l2]
  have hv5 : vp_in (nI t) 5 := vp_in_nI (by omega) (by decide)
  have ct : (nI t).toNatClampNeg = t := nI_clamp (by omega)
  refine ⟨rfl, fun X hX => ?_⟩
  replace hX : ∀ pc L st D, pm_F N Ga tbX4_steadiest (some .int) post X pc L st D → X pc L st D := hX
  change X 0 [some (.ref 40), some (.int (nI t)), some (.int b), some (.int n), some (.int w), none, none, none, none] [] D
  repeat (refine hX _ _ _ _ ?_; conv => whnf)
  refine z_has hhas h1 g1 g2 (fun e0 => ?_) (fun e0 => ?_)
  · obtain ⟨b1, b2, b3, b4⟩ := z_isb_of e0 g2
    repeat (refine hX _ _ _ _ ?_; conv => whnf)
    refine ⟨fun h => absurd h (by decide), fun _ => ?_⟩
    repeat (refine hX _ _ _ _ ?_; conv => whnf)
    refine w_ib hwi 0 100 rfl rfl (fun e => ?_) (fun e => ?_)
    · obtain ⟨e1, e2, e3, e4⟩ := z_ib_of e (by decide) (by decide)
      repeat (refine hX _ _ _ _ ?_; conv => whnf)
      refine ⟨fun h => absurd h (by decide), fun _ => ?_⟩
      repeat (refine hX _ _ _ _ ?_; conv => whnf)
      refine w_ib hwi 0 1 rfl rfl (fun e5 => ?_) (fun e5 => ?_)
      · rw [if_pos (by rw [e0, e, e5]; rfl)] at h
        repeat (refine hX _ _ _ _ ?_; conv => whnf)
        refine ⟨fun _ => ?_, fun h => absurd h (by decide)⟩
        repeat (refine hX _ _ _ _ ?_; conv => whnf)
        refine ⟨hv5, ?_⟩
        rw [ct, d80]
        repeat (refine hX _ _ _ _ ?_; conv => whnf)
        refine ⟨hv5, ?_⟩
        rw [ct, d80]
        iterate 1 (refine hX _ _ _ _ ?_; conv => whnf)
        have loop : ∀ (m v : Nat) (wh l : Int32) (D1 : pm_Mem) (l8 : Option Value), v + m = z_hiN t + 1 → z_loN t ≤ v → (∀ r, (r < 10 ∨ 20 ≤ r) → D1 r = D r) → cP D (z_pk (z_bst (z_tw (zG z) t (z_nt b) (z_nt n)) m v wh l) w, z) post → X 52 [some (.ref 40), some (.int (nI t)), some (.int b), some (.int n), some (.int w), some (.int l), some (.int wh), some (.int (nI v)), l8] [] D1 := by
          intro m
          induction m with
          | zero =>
            intro v wh l D1 l8 hv hlv f1 hp
            have hp := hp D1 (hC.same (fun r hr _ => f1 r (by omega))) (fun r hr => f1 r (by omega))
            repeat (refine hX _ _ _ _ ?_; conv => whnf)
            refine ⟨hv5, ?_⟩
            rw [ct, f1 81 (by omega), d81]
            repeat (refine hX _ _ _ _ ?_; conv => whnf)
            refine ⟨fun _ => ?_, fun q => absurd (nI_lt (show z_hiN t < v by omega) (by omega)) q⟩
            repeat (refine hX _ _ _ _ ?_; conv => whnf)
            unfold z_pk at hp
            refine ⟨fun q => ?_, fun q => ?_⟩
            · rw [if_neg q] at hp
              repeat (refine hX _ _ _ _ ?_; conv => whnf)
              exact hp
            · rw [if_pos q] at hp
              repeat (refine hX _ _ _ _ ?_; conv => whnf)
              exact hp
          | succ m ih =>
            intro v wh l D1 l8 hv hlv f1 hp
            have hR1 : z_R D1 0 (zG z) := h1.same (fun r _ _ => f1 r (by omega))
            have hgd : z_good (nI t) (nI v) = true := by
              rw [z_good_t (by omega)]
              exact z_ib_t (by rw [z_tI (by omega)]; omega) (by rw [z_tI (by omega)]; omega)
            obtain ⟨j1, j2, j3⟩ := hG.put (w := t) (by omega) b1 hgd
            have ef : z_bst (z_tw (zG z) t (z_nt b) (z_nt n)) (m + 1) v wh l = if z_tw (zG z) t (z_nt b) (z_nt n) v < l then z_bst (z_tw (zG z) t (z_nt b) (z_nt n)) m (v + 1) (nI v) (z_tw (zG z) t (z_nt b) (z_nt n) v) else z_bst (z_tw (zG z) t (z_nt b) (z_nt n)) m (v + 1) wh l := rfl
            rw [ef] at hp
            repeat (refine hX _ _ _ _ ?_; conv => whnf)
            refine ⟨hv5, ?_⟩
            rw [ct, f1 81 (by omega), d81]
            repeat (refine hX _ _ _ _ ?_; conv => whnf)
            refine ⟨fun q => absurd q (nI_nlt (by omega) (by omega)), fun _ => ?_⟩
            repeat (refine hX _ _ _ _ ?_; conv => whnf)
            rw [b2]
            refine htw t (z_nt b) (nI v) (zG z) D1 _ 9999 (by omega) b1 hG hR1 (fun D2 k1 k2 => ?_)
            rw [← b2]
            repeat (refine hX _ _ _ _ ?_; conv => whnf)
            rw [e1]
            refine hgs 10 (z_nt n) l _ D2 _ 9999 (by omega) (by omega) (by decide) j1 k1 (fun mm D3 hm hm2 c1 c2 c3 c4 => ?_)
            rw [← e1]
            have hfr : ∀ r, (r < 10 ∨ 20 ≤ r) → D3 r = D r := fun r hr => by rw [c2 r (by omega), k2 r hr, f1 r hr]
            have hmono : z_wid (z_up (zG z) (4 * t + z_nt b) (nI v)) mm ≤ z_tw (zG z) t (z_nt b) (z_nt n) v := by
              have := z_wid_mono (z_up (zG z) (4 * t + z_nt b) (nI v)) mm (z_nt n - mm)
              rw [show mm + (z_nt n - mm) = z_nt n by omega] at this
              exact this
            repeat (refine hX _ _ _ _ ?_; conv => whnf)
            refine ⟨fun q => ?_, fun q => ?_⟩
            · have q2 : ¬ z_tw (zG z) t (z_nt b) (z_nt n) v < l := by
                rw [z_le] at q
                rw [z_le] at hmono
                rw [z_lt]
                omega
              rw [if_neg q2] at hp
              iterate 2 (refine hX _ _ _ _ ?_; conv => whnf)
              rw [nI_1]
              exact ih (v + 1) wh l D3 _ (by omega) (by omega) hfr hp
            · have hmn : mm = z_nt n := hm2.elim id (fun z => absurd z q)
              have q2 : z_tw (zG z) t (z_nt b) (z_nt n) v < l := by
                unfold z_tw
                rw [← hmn]
                rw [z_le] at q
                rw [z_lt]
                omega
              rw [if_pos q2] at hp
              iterate 6 (refine hX _ _ _ _ ?_; conv => whnf)
              rw [nI_1, hmn]
              exact ih (v + 1) _ _ D3 _ (by omega) (by omega) hfr hp
        exact loop (z_hiN t - z_loN t + 1) (z_loN t) _ _ D none (by omega) (by omega) (fun _ _ => rfl) h
      · rw [if_neg (by rw [e0, e, e5]; decide)] at h
        repeat (refine hX _ _ _ _ ?_; conv => whnf)
        refine ⟨fun h => absurd h (by decide), fun _ => ?_⟩
        repeat (refine hX _ _ _ _ ?_; conv => whnf)
        exact h D hC (fun _ _ => rfl)
    · rw [if_neg (by rw [e0, e]; simp)] at h
      repeat (refine hX _ _ _ _ ?_; conv => whnf)
      refine ⟨fun _ => ?_, fun h => absurd h (by decide)⟩
      repeat (refine hX _ _ _ _ ?_; conv => whnf)
      exact h D hC (fun _ _ => rfl)
  · rw [if_neg (by rw [e0]; simp)] at h
    repeat (refine hX _ _ _ _ ?_; conv => whnf)
    refine ⟨fun _ => ?_, fun h => absurd h (by decide)⟩
    repeat (refine hX _ _ _ _ ?_; conv => whnf)
    exact h D hC (fun _ _ => rfl)
set_option maxHeartbeats 2000000 in
theorem t_c_stiff {N : Nat} {Ga : pm_Ga} (hst : sp_steadiest Ga) : cs3 (pm_up N Ga) 64 (r_best 2) := by
  intro z b n w D post hz hC h
  refine ⟨rfl, fun X hX => ?_⟩
  replace hX : ∀ pc L st D, pm_F N Ga tbX4_stiff (some .int) post X pc L st D → X pc L st D := hX
  change X 0 [some (.ref 40), some (.int b), some (.int n), some (.int w)] [] D
  repeat (refine hX _ _ _ _ ?_; conv => whnf)
  refine hst 2 (by omega) z b n w D _ hz hC (fun D' h1 h2 => ?_)
  repeat (refine hX _ _ _ _ ?_; conv => whnf)
  exact h D' h1 h2
set_option maxHeartbeats 2000000 in
theorem t_c_rest {N : Nat} {Ga : pm_Ga} (hst : sp_steadiest Ga) : cs3 (pm_up N Ga) 65 (r_best 1) := by
  intro z b n w D post hz hC h
  refine ⟨rfl, fun X hX => ?_⟩
  replace hX : ∀ pc L st D, pm_F N Ga tbX4_rest (some .int) post X pc L st D → X pc L st D := hX
  change X 0 [some (.ref 40), some (.int b), some (.int n), some (.int w)] [] D
  repeat (refine hX _ _ _ _ ?_; conv => whnf)
  refine hst 1 (by omega) z b n w D _ hz hC (fun D' h1 h2 => ?_)
  repeat (refine hX _ _ _ _ ?_; conv => whnf)
  exact h D' h1 h2
set_option maxHeartbeats 2000000 in
theorem t_c_kind {N : Nat} {Ga : pm_Ga} (hst : sp_steadiest Ga) : cs3 (pm_up N Ga) 66 (r_best 0) := by
  intro z b n w D post hz hC h
  refine ⟨rfl, fun X hX => ?_⟩
  replace hX : ∀ pc L st D, pm_F N Ga tbX4_kind (some .int) post X pc L st D → X pc L st D := hX
  change X 0 [some (.ref 40), some (.int b), some (.int n), some (.int w)] [] D
  repeat (refine hX _ _ _ _ ?_; conv => whnf)
  refine hst 0 (by omega) z b n w D _ hz hC (fun D' h1 h2 => ?_)
  repeat (refine hX _ _ _ _ ?_; conv => whnf)
  exact h D' h1 h2
set_option maxHeartbeats 2000000 in
theorem t_c_mass {N : Nat} {Ga : pm_Ga} (hst : sp_steadiest Ga) : cs3 (pm_up N Ga) 67 (r_best 3) := by
  intro z b n w D post hz hC h
  refine ⟨rfl, fun X hX => ?_⟩
  replace hX : ∀ pc L st D, pm_F N Ga tbX4_mass (some .int) post X pc L st D → X pc L st D := hX
  change X 0 [some (.ref 40), some (.int b), some (.int n), some (.int w)] [] D
  repeat (refine hX _ _ _ _ ?_; conv => whnf)
  refine hst 3 (by omega) z b n w D _ hz hC (fun D' h1 h2 => ?_)
  repeat (refine hX _ _ _ _ ?_; conv => whnf)
  exact h D' h1 h2
