/-! ===== the text: the class, all of it ===== -/
def sp_tellInto (Ga : pm_Ga) : Prop := ∀ (L : Nat) (T : Nat → Int32) (D : pm_Mem) (post : pm_Post), C7 D → L ≤ 160 → D 42 1 = nI L → (∀ i, i < L → D 43 i = T i) → (∀ D' e g n v, y_go L T (L + 1) 0 (fun _ => 0) false 0 = (e, g, n) → y_Cs L T D' e → y_Cx D D' → (e = none → z_R D' 10 g ∧ y_I g ∧ v = nI n) → post (some (.int v)) D') → Ga 33 [.ref 42, .ref 10] D post
set_option maxHeartbeats 4000000 in
theorem t_tellInto {N : Nat} {Ga : pm_Ga} (hcl : sp_clear Ga) (hrt : sp_readToken Ga) (htl : sp_takeLine Ga) : sp_tellInto (pm_up N Ga) := by
  intro L T D post h7 hL h1 h2 h
  refine ⟨rfl, fun X hX => ?_⟩
  replace hX : ∀ pc L st D, pm_F N Ga tbX3_tellInto (some .int) post X pc L st D → X pc L st D := hX
  change X 0 [some (.ref 42), some (.ref 10), none, none] [] D
  have loop : ∀ (m p : Nat) (g : z_P) (dt : Bool) (n : Nat) (D1 : pm_Mem), L < p + m → p ≤ L → n ≤ p → y_I g → y_go L T (L + 1) 0 (fun _ => 0) false 0 = y_go L T m p g dt n → y_Cs L T D1 none → D1 42 6 = nI p → D1 42 7 = z_bi dt → y_Cx D D1 → z_R D1 10 g → X 28 [some (.ref 42), some (.ref 10), some (.int (nI n)), some (.int (nI n))] [] D1 := by
    intro m
    induction m with
    | zero => intro p g dt n D1 hm hp; omega
    | succ m ih =>
      intro p g dt n D1 hm hp hn hI he c1 c2 c3 c4 c5
      have eg : y_go L T (m + 1) p g dt n = if y_k L T p = 4 then (none, g, n) else match y_line L T p g dt with
        | (some x, _, _, _) => (some x, g, n)
        | (none, g', dt', p') => y_go L T m p' g' dt' (n + 1) := rfl
      rw [eg] at he
      have h77 : C7 D1 := h7.same (fun r hr => c4 r (by omega) (by omega))
      repeat (refine hX _ _ _ _ ?_; conv => whnf)
      refine ⟨fun q => absurd q (nI_nlt (b := n) (a := 160) (by omega) (by omega)), fun _ => ?_⟩
      repeat (refine hX _ _ _ _ ?_; conv => whnf)
      refine hrt L T none p D1 _ hL hp c1 c2 (fun D2 d1 d2 d3 => ?_)
      have hR2 : z_R D2 10 g := z_R.same c5 (fun r h1 h2 => d3.1 r (by omega))
      have x2 : y_Cx D D2 := fun r h1 h2 => by rw [d3.1 r h2]; exact c4 r h1 h2
      repeat (refine hX _ _ _ _ ?_; conv => whnf)
      rw [d2.1]
      refine ⟨fun q => ?_, fun q => ?_⟩
      · have q : ¬ y_k L T p = 4 := fun y => q ((y_k_eq (by decide)).mpr y)
        rw [if_neg q] at he
        repeat (refine hX _ _ _ _ ?_; conv => whnf)
        refine htl L T dt g p D2 _ (h77.same (fun r hr => d3.1 r (by omega))) hI hL hp d1 d2 (by rw [d3.2]; exact c3) hR2 (fun D3 e g' dt' p' ey f1 f2 f3 f4 f5 => ?_)
        have x3 : y_Cx D D3 := fun r h1 h2 => by rw [f4 r h1 h2]; exact x2 r h1 h2
        rw [ey] at he
        have hpp := y_line_p (L := L) (T := T) (p := p) (g := g) (dt := dt) hp
        have hII := y_line_I (L := L) (T := T) (p := p) (g := g) (dt := dt) hI
        rw [ey] at hpp hII
        have hp1 : p' ≤ L := hpp.1
        have hp2 : p < p' := hpp.2 q
        repeat (refine hX _ _ _ _ ?_; conv => whnf)
        refine ⟨fun q2 => ?_, fun q2 => ?_⟩
        · have q2 : e = none := f1.e0.mp q2
          subst q2
          iterate 3 (refine hX _ _ _ _ ?_; conv => whnf)
          rw [nI_1]
          exact ih p' g' dt' (n + 1) D3 (by omega) hp1 (by omega) (hII rfl) he f1 f2 f3 x3 (f5 rfl)
        · cases e with
          | none => exact absurd (f1.e0.mpr rfl) q2
          | some x =>
            repeat (refine hX _ _ _ _ ?_; conv => whnf)
            exact h D3 _ _ _ _ he f1 x3 (fun y => by cases y)
      · have q : y_k L T p = 4 := (y_k_eq (by decide)).mp q
        rw [if_pos q] at he
        rw [y_rd_n _ (by rw [q]; decide)] at d1
        repeat (refine hX _ _ _ _ ?_; conv => whnf)
        exact h D2 _ _ _ _ he d1 x2 (fun _ => ⟨hR2, hI, rfl⟩)
  repeat (refine hX _ _ _ _ ?_; conv => whnf)
  refine hcl 10 D _ (by decide) (fun D1 c1 c2 => ?_)
  iterate 9 (refine hX _ _ _ _ ?_; conv => whnf)
  iterate 3 (refine hX _ _ _ _ ?_; conv => whnf)
  refine ⟨Or.inl rfl, ?_⟩
  iterate 4 (refine hX _ _ _ _ ?_; conv => whnf)
  refine loop (L + 1) 0 (fun _ => 0) false 0 _ (by omega) (by omega) (by omega) y_I_0 rfl ⟨?_, fun i hi => ?_, fun _ => ?_, fun _ _ y => by cases y⟩ ?_ ?_ (fun r h1 h2 => ?_) (z_R.same c1 (fun r h1 h2 => ?_))
  · rw [pm_mu_k _ _ _ _ (by decide), pm_mu_k _ _ _ _ (by decide), pm_mu_k _ _ _ _ (by decide), pm_mu_k _ _ _ _ (by decide), c2 42 (by omega)]; exact h1
  · rw [pm_mu_r _ _ _ _ (by decide), pm_mu_r _ _ _ _ (by decide), pm_mu_r _ _ _ _ (by decide), pm_mu_r _ _ _ _ (by decide), c2 43 (by omega)]; exact h2 i hi
  · rw [pm_mu_k _ _ _ _ (by decide), pm_mu_k _ _ _ _ (by decide), pm_mu_k _ _ _ _ (by decide), pm_mu_at]
  · rw [pm_mu_k _ _ _ _ (by decide), pm_mu_at]; rfl
  · rw [pm_mu_at]; rfl
  · rw [pm_mu_ne _ _ _ h2, pm_mu_ne _ _ _ h2, pm_mu_ne _ _ _ h2, pm_mu_ne _ _ _ h2]; exact c2 r (by omega)
  · rw [pm_mu_ne _ _ _ (by omega), pm_mu_ne _ _ _ (by omega), pm_mu_ne _ _ _ (by omega), pm_mu_ne _ _ _ (by omega)]
set_option maxHeartbeats 4000000 in
theorem t_c_text {N : Nat} {Ga : pm_Ga} (hti : sp_tellInto Ga) (hbl : sp_becomeLike Ga) : cs0 (pm_up N Ga) 46 r_text := by
  intro z D post hz hC h
  obtain ⟨k1, k2, k3, k4, k5, k6, k7⟩ := hC
  refine ⟨rfl, fun X hX => ?_⟩
  replace hX : ∀ pc L st D, pm_F N Ga tbX4_text (some .int) post X pc L st D → X pc L st D := hX
  change X 0 [some (.ref 40), none] [] D
  repeat (refine hX _ _ _ _ ?_; conv => whnf)
  refine hti (zL z) (zT z) D _ k7 hz.2.2.2.1.1 k3.1 k3.2.1 (fun D1 e g n v ey f1 f2 f3 => ?_)
  unfold r_text at h
  rw [ey] at h
  repeat (refine hX _ _ _ _ ?_; conv => whnf)
  rw [pm_mu_k _ _ _ _ (by decide)]
  refine ⟨fun q => ?_, fun q => ?_⟩
  · have q : e = none := f1.e0.mp q
    subst q
    have f3 := f3 rfl
    have hRm : z_R (pm_mu D1 42 1 0) 10 g := z_R.same f3.1 (fun r h1 h2 => by rw [pm_mu_ne _ _ _ (by omega)])
    repeat (refine hX _ _ _ _ ?_; conv => whnf)
    refine hbl 0 10 _ _ (Or.inr (Or.inl ⟨rfl, rfl⟩)) (fun D2 d1 d2 d3 d4 => ?_)
    have hR0 : z_R D2 0 g := d1 g f3.2.1.1.2.1 f3.2.1.1.2.2.2.1 hRm
    repeat (refine hX _ _ _ _ ?_; conv => whnf)
    refine ⟨by decide, vp_in_nI (n := 0) (by decide) (by decide), ?_⟩
    repeat (refine hX _ _ _ _ ?_; conv => whnf)
    refine ⟨by decide, vp_in_nI (n := 1) (by decide) (by decide), ?_⟩
    repeat (refine hX _ _ _ _ ?_; conv => whnf)
    rw [f3.2.2]
    have n0 : vp_nar .boolean 0 = 0 := by decide
    have i0 : (0 : Int32).toNatClampNeg = 0 := rfl
    have i1 : (1 : Int32).toNatClampNeg = 1 := rfl
    rw [n0, i0, i1]
    have fr : ∀ r, r ≠ 41 → r ≠ 44 → pm_mu (pm_mu (pm_mu D2 44 0 0) 41 0 0) 41 1 0 r = D2 r := fun r h1 h2 => by rw [pm_mu_ne _ _ _ h1, pm_mu_ne _ _ _ h1, pm_mu_ne _ _ _ h2]
    have fd : ∀ r, 20 ≤ r → r ≠ 42 → D2 r = D r := fun r h1 h2 => by rw [d2 r (by omega), pm_mu_ne _ _ _ h2]; exact f2 r (by omega) h2
    refine h _ ⟨?_, ?_, ?_, ?_, ?_, ?_, ?_⟩ (fun r hr => ?_)
    · exact z_R.same hR0 (fun r h1 h2 => fr r (by omega) (by omega))
    · refine ⟨?_, ?_, (fun y => by cases y), (fun y => by cases y)⟩
      · rw [pm_mu_k _ _ _ _ (by decide), pm_mu_at]; rfl
      · rw [pm_mu_at]; rfl
    · refine ⟨?_, fun i hi => absurd hi (Nat.not_lt_zero _), ?_⟩
      · rw [fr 42 (by decide) (by decide), d2 42 (by omega), pm_mu_at]; rfl
      · rw [fr 42 (by decide) (by decide), d2 42 (by omega), pm_mu_k _ _ _ _ (by decide)]; exact f1.2.2.1 rfl
    · refine ⟨?_, fun i hi => absurd hi (Nat.not_lt_zero _)⟩
      rw [pm_mu_r _ _ _ _ (by decide), pm_mu_r _ _ _ _ (by decide), pm_mu_at]; rfl
    · exact C5.same (z := z) k5 (fun r h1 h2 => by rw [fr r (by omega) (by omega)]; exact fd r (by omega) (by omega))
    · exact C6.same (z := z) k6 (by rw [fr 40 (by decide) (by decide)]; exact fd 40 (by decide) (by decide))
    · exact k7.same (fun r hr => by rw [fr r (by omega) (by omega)]; exact fd r (by omega) (by omega))
    · rw [fr r (by omega) (by omega)]; exact fd r (by omega) (by omega)
  · cases e with
    | none => exact absurd (f1.e0.mpr rfl) q
    | some x =>
      obtain ⟨x1, x2, x3, x4⟩ := f1.2.2.2 x.1 x.2 rfl
      repeat (refine hX _ _ _ _ ?_; conv => whnf)
      rw [pm_mu_k _ _ _ _ (by decide), x2]
      have fr : ∀ r, r ≠ 42 → (r < 10 ∨ 20 ≤ r) → pm_mu D1 42 1 0 r = D r := fun r h1 h2 => by rw [pm_mu_ne _ _ _ h1]; exact f2 r h2 h1
      refine h _ ⟨?_, ?_, ?_, ?_, ?_, ?_, ?_⟩ (fun r hr => fr r (by omega) (by omega))
      · exact z_R.same k1 (fun r h1 h2 => fr r (by omega) (by omega))
      · exact C2.same (z := z) k2 (fun r h1 h2 h3 => fr r (by omega) (by omega))
      · refine ⟨?_, fun i hi => absurd hi (Nat.not_lt_zero _), ?_⟩
        · rw [pm_mu_at]; rfl
        · rw [pm_mu_k _ _ _ _ (by decide)]; exact x1
      · exact C4.same (z := z) k4 (fun r h1 h2 => fr r (by omega) (by omega))
      · exact C5.same (z := z) k5 (fun r h1 h2 => fr r (by omega) (by omega))
      · exact C6.same (z := z) k6 (fr 40 (by decide) (by decide))
      · exact k7.same (fun r hr => fr r (by omega) (by omega))
