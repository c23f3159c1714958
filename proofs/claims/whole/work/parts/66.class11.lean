theorem z_pf_0 {z : z_Z} {k : Nat} {a f : Int32} {i : Nat} (h : z_pf z k a f i = 0) : ∃ b n, zH z k = some (b, n) ∧ nI b = a ∧ 0 ≤ f.toInt ∧ f.toInt + 2 * (i : Int) + 1 < (n : Int) := by
  unfold z_pf at h
  cases y : zH z k with
  | none =>
    rw [y] at h
    have h : (1 : Int32) = 0 := h
    exact absurd h (by decide)
  | some q =>
    obtain ⟨b, n⟩ := q
    rw [y] at h
    by_cases e : nI b = a
    · simp only [e, if_true] at h
      by_cases c : 0 ≤ f.toInt ∧ f.toInt + 2 * (i : Int) + 1 < (n : Int)
      · exact ⟨b, n, rfl, e, c.1, c.2⟩
      · rw [if_neg c] at h; exact absurd h (by decide)
    · simp only [e, if_false] at h
      exact absurd h (by decide)
theorem z_R_dropk {D : pm_Mem} {g0 g : z_P} (h : z_R D 0 g) (hx : z_ext g0 g) (hn4 : z_n g0 ≤ 4) : z_R (pm_mu D 0 1 (g0 49)) 0 g0 := by
  obtain ⟨a1, a2, a3, a4, a5, a6⟩ := h
  have lo := hx.2.1
  have hn : z_n g = z_n g0 := by
    show (g 24).toNatClampNeg = _
    rw [lo 24 (by omega)]
    rfl
  refine ⟨?_, ?_, ?_, ?_, fun b hb => ?_, fun i hi => ?_⟩
  · rw [pm_mu_k _ _ _ _ (by decide), a1]; exact lo 24 (by omega)
  · exact pm_mu_at _ _ _ _
  · rw [pm_mu_k _ _ _ _ (by decide), a3]; exact lo 50 (by omega)
  · rw [pm_mu_k _ _ _ _ (by decide), a4]; exact lo 51 (by omega)
  · have := a5 b (by omega)
    rw [lo b (by omega), lo (4 + b) (by omega), lo (8 + b) (by omega), lo (12 + b) (by omega), lo (16 + b) (by omega), lo (20 + b) (by omega)] at this
    exact this
  · have := a6 i (by have := hx.1; omega)
    rw [(hx.2.2 i hi).1, (hx.2.2 i hi).2] at this
    exact this
theorem CR.torn {D : pm_Mem} {z : z_Z} {v : Int32} (h : CR D z) : CR (pm_mu D 40 9 v) (uR z v) :=
  ⟨z_R.same h.1 (fun r _ _ => pm_mu_ne _ _ _ (by omega)), C2.same (z := z) h.2.1 (fun r _ _ _ => pm_mu_ne _ _ _ (by omega)), C3.same (z := z) h.2.2.1 (fun r _ _ => pm_mu_ne _ _ _ (by omega)), C4.same (z := z) h.2.2.2.1 (fun r _ _ => pm_mu_ne _ _ _ (by omega)), C5.same (z := z) h.2.2.2.2.1 (fun r _ _ => pm_mu_ne _ _ _ (by omega)), pm_mu_at _ _ _ _, h.2.2.2.2.2.2.same (fun r _ => pm_mu_ne _ _ _ (by omega))⟩
set_option maxHeartbeats 4000000 in
theorem t_c_read {N : Nat} {Ga : pm_Ga} (hwi : sp_within Ga) (hfp : sp_fop Ga) (had : cs2 Ga 56 r_add) : cs4 (pm_up N Ga) 94 r_read := by
  intro z k a f n D post hz hC h
  have h1 : z_R D 0 (zG z) := hC.1
  have h5 := hC.2.2.2.2.1
  have hG := hz.1
  obtain ⟨g1, g2, g3, g4, g5, g6, g7, g8⟩ := hz.1
  unfold r_read at h
  refine ⟨rfl, fun X hX => ?_⟩
  replace hX : ∀ pc L st D, pm_F N Ga tbX4_read (some .int) post X pc L st D → X pc L st D := hX
  change X 0 [some (.ref 40), some (.int k), some (.int a), some (.int f), some (.int n), none, none, none, none, none] [] D
  repeat (refine hX _ _ _ _ ?_; conv => whnf)
  refine w_ib hwi 0 3 rfl rfl (fun e => ?_) (fun e => ?_)
  · repeat (refine hX _ _ _ _ ?_; conv => whnf)
    refine ⟨fun h => absurd h (by decide), fun _ => ?_⟩
    repeat (refine hX _ _ _ _ ?_; conv => whnf)
    refine w_ib hwi 0 2 rfl rfl (fun e2 => ?_) (fun e2 => ?_)
    · repeat (refine hX _ _ _ _ ?_; conv => whnf)
      refine ⟨fun h => absurd h (by decide), fun _ => ?_⟩
      repeat (refine hX _ _ _ _ ?_; conv => whnf)
      refine w_ib hwi 0 20 rfl rfl (fun e3 => ?_) (fun e3 => ?_)
      · rw [e, e2, e3, if_pos (by decide)] at h
        obtain ⟨m1, m2, m3, m4⟩ := z_ib_of e3 (by decide) (by decide)
        obtain ⟨k1, k2, k3, k4⟩ := z_ib_of e (by decide) (by decide)
        repeat (refine hX _ _ _ _ ?_; conv => whnf)
        refine ⟨fun _ => ?_, fun h => absurd h (by decide)⟩
        iterate 10 (refine hX _ _ _ _ ?_; conv => whnf)
        rw [h1.2.1, m1, k1]
        generalize hnn : z_nt n = nn at *
        generalize hkk : z_nt k = kk at *
        have fin : ∀ (i : Nat) (g : z_P) (ft : Int32) (D1 : pm_Mem) (l8 l9 : Option Value), CR D1 (uG z g) → (∀ r, 67 ≤ r → D1 r = D r) → cP D (nI i, uR (uG z g) ft) post → X 145 [some (.ref 40), some (.int (nI kk)), some (.int a), some (.int f), some (.int (nI nn)), some (.int (zG z 49)), some (.int ft), some (.int (nI i)), l8, l9] [] D1 := by
          intro i g ft D1 l8 l9 a1 a2 h
          repeat (refine hX _ _ _ _ ?_; conv => whnf)
          exact h _ a1.torn (fun r hr => by rw [pm_mu_ne _ _ _ (by omega)]; exact a2 r hr)
        have loop : ∀ (m i : Nat) (g : z_P) (D1 : pm_Mem) (l9 : Option Value), i + m = nn → z_G 9999 g → z_ext (zG z) g → CR D1 (uG z g) → (∀ r, 67 ≤ r → D1 r = D r) → cP D (z_rd z kk a f m i g) post → X 49 [some (.ref 40), some (.int (nI kk)), some (.int a), some (.int f), some (.int (nI nn)), some (.int (zG z 49)), some (.int 0), some (.int (nI i)), some (.int (nI i)), l9] [] D1 := by
          intro m
          induction m with
          | zero =>
            intro i g D1 l9 hi hg hx a1 a2 hh
            have hi : i = nn := by omega
            subst hi
            repeat (refine hX _ _ _ _ ?_; conv => whnf)
            refine ⟨fun _ => ?_, fun q => absurd (nI_le (Nat.le_refl _) (by omega)) q⟩
            exact fin _ g 0 D1 _ _ a1 a2 hh
          | succ m ih =>
            intro i g D1 l9 hi hg hx a1 a2 hh
            have hz1 : zOk (uG z g) := ⟨hg, hz.2⟩
            repeat (refine hX _ _ _ _ ?_; conv => whnf)
            refine ⟨fun q => absurd q (nI_ge (by omega) (by omega)), fun _ => ?_⟩
            repeat (refine hX _ _ _ _ ?_; conv => whnf)
            refine ⟨fun h => absurd h (by decide), fun _ => ?_⟩
            repeat (refine hX _ _ _ _ ?_; conv => whnf)
            refine hfp (uG z g) kk i a f D1 _ hz1 a1.2.2.2.2.1 (by omega) (by omega) ?_
            have ep : z_pf (uG z g) kk a f i = z_pf z kk a f i := rfl
            rw [ep]
            change cP D (if z_pf z kk a f i = 0 then _ else _) post at hh
            repeat (refine hX _ _ _ _ ?_; conv => whnf)
            refine ⟨fun q => ?_, fun q => ?_⟩
            · rw [if_neg q] at hh
              iterate 2 (refine hX _ _ _ _ ?_; conv => whnf)
              repeat (refine hX _ _ _ _ ?_; conv => whnf)
              refine ⟨fun q2 => ?_, fun q2 => ?_⟩
              · exact fin i g _ D1 _ _ a1 a2 hh
              · repeat (refine hX _ _ _ _ ?_; conv => whnf)
                refine ⟨fun _ => ?_, fun q3 => absurd q3 q⟩
                exact fin i g _ D1 _ _ a1 a2 hh
            · obtain ⟨b, l, y1, y2, y3, y4⟩ := z_pf_0 q
              have hb := hz.2.2.2.2.2 kk (by omega) b l y1
              obtain ⟨j1, j2, j3, j4⟩ := z_ib_of (x := f) (a := 0) (b := 40) (z_ib_t y3 (by omega)) (by decide) (by decide)
              have fi : f.toInt = z_nt f := (congrArg Int32.toInt j1).trans (z_tI (by omega))
              have ix : f + 2 * nI i = nI (z_nt f + 2 * i) := by
                have t : ∀ t : Nat, f = nI t → f + 2 * nI i = nI (t + 2 * i) := fun t ht => by rw [ht, show (2 : Int32) = nI 2 from rfl, nI_mul, nI_add]
                exact t _ j1
              obtain ⟨_, _, y7⟩ := (a1.2.2.2.2.1 kk (by omega)).2 b l y1
              have x1 := y7 (z_nt f + 2 * i) (by omega)
              have x2 := y7 (z_nt f + 2 * i + 1) (by omega)
              rw [if_pos q] at hh
              rw [q]
              have hk4 : kk < 4 := by omega
              have call : X 115 [some (.ref 40), some (.int (nI kk)), some (.int a), some (.int f), some (.int (nI nn)), some (.int (zG z 49)), some (.int 0), some (.int (nI i)), some (.int (nI i)), some (.int (nI (z_nt f + 2 * i)))] [.int (zE z kk (z_nt f + 2 * i + 1)), .int (zE z kk (z_nt f + 2 * i)), .ref 40] D1 := by
                repeat (refine hX _ _ _ _ ?_; conv => whnf)
                refine had (uG z g) _ _ D1 _ hz1 a1 (fun D2 c1 c2 => ?_)
                rw [r_add_u] at c1
                obtain ⟨u1, u2⟩ := r_add_ext (z := z) hg hx (zE z kk (z_nt f + 2 * i)) (zE z kk (z_nt f + 2 * i + 1))
                repeat (refine hX _ _ _ _ ?_; conv => whnf)
                refine ⟨fun w => ?_, fun w => ?_⟩
                · rw [if_pos w] at hh
                  iterate 3 (refine hX _ _ _ _ ?_; conv => whnf)
                  rw [nI_1]
                  exact ih (i + 1) _ D2 _ (by omega) u1 u2 c1 (fun r hr => by rw [c2 r hr]; exact a2 r hr) hh
                · rw [if_neg w] at hh
                  repeat (refine hX _ _ _ _ ?_; conv => whnf)
                  exact hh _ (c1.now (z_R_dropk c1.1 u2 g2) (fun r hr => pm_mu_ne _ _ _ (by omega))) (fun r hr => by rw [pm_mu_ne _ _ _ (by omega), c2 r hr]; exact a2 r hr)
              clear ih fin
              rcases z_four hk4 with e0 | e0 | e0 | e0
              · rw [e0] at call x1 x2
                rw [e0]
                have vk : vp_in (nI 0) 4 := vp_in_nI (show 0 < 4 by decide) (by decide)
                change D1 52 _ = _ at x1 x2
                repeat (refine hX _ _ _ _ ?_; conv => whnf)
                refine ⟨vk, ?_⟩
                repeat (refine hX _ _ _ _ ?_; conv => whnf)
                rw [ix]
                refine ⟨vp_in_nI (show z_nt f + 2 * i < 40 by omega) (by decide), ?_⟩
                rw [nI_clamp (show z_nt f + 2 * i < 2 ^ 31 by omega)]
                repeat (refine hX _ _ _ _ ?_; conv => whnf)
                refine ⟨vk, ?_⟩
                repeat (refine hX _ _ _ _ ?_; conv => whnf)
                rw [nI_1]
                refine ⟨vp_in_nI (show z_nt f + 2 * i + 1 < 40 by omega) (by decide), ?_⟩
                rw [nI_clamp (show z_nt f + 2 * i + 1 < 2 ^ 31 by omega)]
                change X 115 _ (.int (D1 52 (z_nt f + 2 * i + 1)) :: .int (D1 52 (z_nt f + 2 * i)) :: _) D1
                rw [x1, x2]
                exact call
              · rw [e0] at call x1 x2
                rw [e0]
                have vk : vp_in (nI 1) 4 := vp_in_nI (show 1 < 4 by decide) (by decide)
                change D1 53 _ = _ at x1 x2
                repeat (refine hX _ _ _ _ ?_; conv => whnf)
                refine ⟨vk, ?_⟩
                repeat (refine hX _ _ _ _ ?_; conv => whnf)
                rw [ix]
                refine ⟨vp_in_nI (show z_nt f + 2 * i < 40 by omega) (by decide), ?_⟩
                rw [nI_clamp (show z_nt f + 2 * i < 2 ^ 31 by omega)]
                repeat (refine hX _ _ _ _ ?_; conv => whnf)
                refine ⟨vk, ?_⟩
                repeat (refine hX _ _ _ _ ?_; conv => whnf)
                rw [nI_1]
                refine ⟨vp_in_nI (show z_nt f + 2 * i + 1 < 40 by omega) (by decide), ?_⟩
                rw [nI_clamp (show z_nt f + 2 * i + 1 < 2 ^ 31 by omega)]
                change X 115 _ (.int (D1 53 (z_nt f + 2 * i + 1)) :: .int (D1 53 (z_nt f + 2 * i)) :: _) D1
                rw [x1, x2]
                exact call
              · rw [e0] at call x1 x2
                rw [e0]
                have vk : vp_in (nI 2) 4 := vp_in_nI (show 2 < 4 by decide) (by decide)
                change D1 54 _ = _ at x1 x2
                repeat (refine hX _ _ _ _ ?_; conv => whnf)
                refine ⟨vk, ?_⟩
                repeat (refine hX _ _ _ _ ?_; conv => whnf)
                rw [ix]
                refine ⟨vp_in_nI (show z_nt f + 2 * i < 40 by omega) (by decide), ?_⟩
                rw [nI_clamp (show z_nt f + 2 * i < 2 ^ 31 by omega)]
                repeat (refine hX _ _ _ _ ?_; conv => whnf)
                refine ⟨vk, ?_⟩
                repeat (refine hX _ _ _ _ ?_; conv => whnf)
                rw [nI_1]
                refine ⟨vp_in_nI (show z_nt f + 2 * i + 1 < 40 by omega) (by decide), ?_⟩
                rw [nI_clamp (show z_nt f + 2 * i + 1 < 2 ^ 31 by omega)]
                change X 115 _ (.int (D1 54 (z_nt f + 2 * i + 1)) :: .int (D1 54 (z_nt f + 2 * i)) :: _) D1
                rw [x1, x2]
                exact call
              · rw [e0] at call x1 x2
                rw [e0]
                have vk : vp_in (nI 3) 4 := vp_in_nI (show 3 < 4 by decide) (by decide)
                change D1 55 _ = _ at x1 x2
                repeat (refine hX _ _ _ _ ?_; conv => whnf)
                refine ⟨vk, ?_⟩
                repeat (refine hX _ _ _ _ ?_; conv => whnf)
                rw [ix]
                refine ⟨vp_in_nI (show z_nt f + 2 * i < 40 by omega) (by decide), ?_⟩
                rw [nI_clamp (show z_nt f + 2 * i < 2 ^ 31 by omega)]
                repeat (refine hX _ _ _ _ ?_; conv => whnf)
                refine ⟨vk, ?_⟩
                repeat (refine hX _ _ _ _ ?_; conv => whnf)
                rw [nI_1]
                refine ⟨vp_in_nI (show z_nt f + 2 * i + 1 < 40 by omega) (by decide), ?_⟩
                rw [nI_clamp (show z_nt f + 2 * i + 1 < 2 ^ 31 by omega)]
                change X 115 _ (.int (D1 55 (z_nt f + 2 * i + 1)) :: .int (D1 55 (z_nt f + 2 * i)) :: _) D1
                rw [x1, x2]
                exact call
        exact loop nn 0 (zG z) D none (by omega) hG (z_ext_0 _) hC (fun _ _ => rfl) h
      · rw [e, e2, e3, if_neg (by decide)] at h
        repeat (refine hX _ _ _ _ ?_; conv => whnf)
        refine ⟨fun h => absurd h (by decide), fun _ => ?_⟩
        repeat (refine hX _ _ _ _ ?_; conv => whnf)
        exact h D hC (fun _ _ => rfl)
    · rw [e, e2, if_neg (by simp)] at h
      repeat (refine hX _ _ _ _ ?_; conv => whnf)
      refine ⟨fun _ => ?_, fun h => absurd h (by decide)⟩
      repeat (refine hX _ _ _ _ ?_; conv => whnf)
      exact h D hC (fun _ _ => rfl)
  · rw [e, if_neg (by simp)] at h
    repeat (refine hX _ _ _ _ ?_; conv => whnf)
    refine ⟨fun _ => ?_, fun h => absurd h (by decide)⟩
    repeat (refine hX _ _ _ _ ?_; conv => whnf)
    exact h D hC (fun _ _ => rfl)
