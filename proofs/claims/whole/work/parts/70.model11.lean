def z_MS (D D' : pm_Mem) : Prop := (∀ r, r ≠ 67 → r ≠ 68 → r ≠ 73 → r ≠ 75 → D' r = D r) ∧ (∀ k, k ≠ 14 → k ≠ 15 → k ≠ 16 → k ≠ 18 → D' 67 k = D 67 k) ∧ ∀ k, (k < 208 ∨ 260 ≤ k) → D' 68 k = D 68 k
theorem z_MS.rfl' (D : pm_Mem) : z_MS D D := ⟨fun _ _ _ _ _ => rfl, fun _ _ _ _ _ => rfl, fun _ _ => rfl⟩
theorem z_MS.MR {D D' : pm_Mem} {z : z_Z} (h : z_MS D D') (hM : MR D z) : MR D' z := hM.same (fun r h1 h2 _ h4 h5 => h.1 r h1 h2 h4 h5) h.2.1 (fun k hk => h.2.2 k (by omega))
def sp_isAsSeen (Ga : pm_Ga) : Prop := ∀ (z : z_Z) (g : z_P) (v b : Nat) (D : pm_Mem) (post : pm_Post), zOk z → MR D z → z_M D 260 g → z_G 9999 g → z_n g = z_n (zG z) → v < 10 → b < 4 → (∀ D', z_MS D D' → (∀ t, t < 41 → D' 75 (41 * v + t) = z_run g t (16 + b)) → (∀ k, (k < 41 * v ∨ 41 * v + 41 ≤ k) → D' 75 k = D 75 k) → post (some (.int (z_bi (z_so z g 41)))) D') → Ga 158 [.ref 67, .int (nI v), .int (nI b)] D post
set_option maxHeartbeats 4000000 in
theorem t_isAsSeen {N : Nat} {Ga : pm_Ga} (hco : sp_copies Ga) (htk : sp_tickOn Ga) : sp_isAsSeen (pm_up N Ga) := by
  intro z g v b D post hz hM hg260 hG hn hv hb h
  have hGz := hz.1
  obtain ⟨c6, cz⟩ := hz.2.2.2.2.1
  obtain ⟨v24, c24⟩ := z_lit (k := 24) 24 (by decide) (by decide)
  refine ⟨rfl, fun X hX => ?_⟩
  replace hX : ∀ pc L st D, pm_F N Ga tbX5_isAsSeen (some .boolean) post X pc L st D → X pc L st D := hX
  change X 0 [some (.ref 67), some (.int (nI v)), some (.int (nI b)), none, none, none, none, none] [] D
  repeat (refine hX _ _ _ _ ?_; conv => whnf)
  refine hco 260 208 D _ (by decide) (by decide) (by decide) (fun D0 f1 f2 => ?_)
  have hM0 : z_M D0 208 g := fun k hk => by
    rw [f1 k hk]
    exact hg260 k hk
  iterate 4 (refine hX _ _ _ _ ?_; conv => whnf)
  have loop : ∀ (m t : Nat) (D1 : pm_Mem) (l5 l6 l7 : Option Value), t + m = 41 → z_MS D D1 → z_M D1 208 (z_run g t) → (∀ q, q < t → D1 75 (41 * v + q) = z_run g q (16 + b)) → (∀ k, (k < 41 * v ∨ 41 * v + 41 ≤ k) → D1 75 k = D 75 k) → X 15 [some (.ref 67), some (.int (nI v)), some (.int (nI b)), some (.int (z_bi (z_so z g t))), some (.int (nI t)), l5, l6, l7] [] D1 := by
    intro m
    induction m with
    | zero =>
      intro t D1 l5 l6 l7 ht f1 f2 f3 f4
      have ht : t = 41 := by omega
      subst ht
      repeat (refine hX _ _ _ _ ?_; conv => whnf)
      refine ⟨fun _ => ?_, fun h => absurd h (by decide)⟩
      repeat (refine hX _ _ _ _ ?_; conv => whnf)
      exact ⟨by cases z_so z g 41 <;> decide, h D1 f1 f3 f4⟩
    | succ m ih =>
      intro t D1 l5 l6 l7 ht f1 f2 f3 f4
      obtain ⟨k1, k2, k3⟩ := hG.run t (by omega)
      repeat (refine hX _ _ _ _ ?_; conv => whnf)
      refine ⟨fun q => absurd q (nI_nlt (a := 40) (by omega) (by omega)), fun _ => ?_⟩
      repeat (refine hX _ _ _ _ ?_; conv => whnf)
      have i1 : (224 : Int32) + nI b = nI (208 + (16 + b)) := by rw [show (224 : Int32) = nI 224 from rfl, nI_add]; congr 1; omega
      have i2 : (41 : Int32) * nI v + nI t = nI (41 * v + t) := by rw [show (41 : Int32) = nI 41 from rfl, nI_mul, nI_add]
      rw [i1]
      refine ⟨vp_in_nI (by omega) (by decide), ?_⟩
      rw [nI_clamp (by omega), f2 (16 + b) (by omega)]
      repeat (refine hX _ _ _ _ ?_; conv => whnf)
      rw [i2]
      refine ⟨by decide, vp_in_nI (by omega) (by decide), ?_⟩
      rw [nI_clamp (by omega)]
      iterate 2 (refine hX _ _ _ _ ?_; conv => whnf)
      have f5 : z_MS D (pm_mu D1 75 (41 * v + t) (z_run g t (16 + b))) := ⟨fun r h1 h2 h3 h4 => by rw [pm_mu_ne _ _ _ h4]; exact f1.1 r h1 h2 h3 h4, fun k h1 h2 h3 h4 => by rw [pm_mu_r _ _ _ _ (by decide)]; exact f1.2.1 k h1 h2 h3 h4, fun k hk => by rw [pm_mu_r _ _ _ _ (by decide)]; exact f1.2.2 k hk⟩
      have f6 : z_M (pm_mu D1 75 (41 * v + t) (z_run g t (16 + b))) 208 (z_run g t) := f2.same (fun k _ _ => by rw [pm_mu_r _ _ _ _ (by decide)])
      have f7 : ∀ q, q < t + 1 → pm_mu D1 75 (41 * v + t) (z_run g t (16 + b)) 75 (41 * v + q) = z_run g q (16 + b) := by
        intro q hq
        by_cases e : q = t
        · rw [e, pm_mu_at]
        · rw [pm_mu_k _ _ _ _ (by omega)]; exact f3 q (by omega)
      have f8 : ∀ k, (k < 41 * v ∨ 41 * v + 41 ≤ k) → pm_mu D1 75 (41 * v + t) (z_run g t (16 + b)) 75 k = D 75 k := fun k hk => by rw [pm_mu_k _ _ _ _ (by omega)]; exact f4 k hk
      generalize pm_mu D1 75 (41 * v + t) (z_run g t (16 + b)) = D2 at f5 f6 f7 f8
      have hM2 := f5.MR hM
      have h4 := hM2.2.2.2.1
      have inner : ∀ (mm i : Nat) (l6 l7 : Option Value), i + mm = zC z → X 47 [some (.ref 67), some (.int (nI v)), some (.int (nI b)), some (.int (z_bi (z_so z g t && z_ag z (z_run g t) t i))), some (.int (nI t)), some (.int (nI i)), l6, l7] [] D2 := by
        intro mm
        induction mm with
        | zero =>
          intro i l6 l7 hi
          have hi : i = zC z := by omega
          subst hi
          repeat (refine hX _ _ _ _ ?_; conv => whnf)
          rw [h4.1]
          refine ⟨fun _ => ?_, fun q => absurd (nI_le (Nat.le_refl _) (by omega)) q⟩
          repeat (refine hX _ _ _ _ ?_; conv => whnf)
          refine htk 208 (-4) 0 false _ (zG z) D2 _ _ 9999 (by omega) (by omega) f6 k1 hM2.2.2.2.2.2.1.2 rfl (Or.inr ⟨by omega, hM2.1⟩) hGz (fun D3 j1 j2 j3 j4 j5 j6 j7 => ?_)
          rw [z_tk_none k1] at j1
          iterate 2 (refine hX _ _ _ _ ?_; conv => whnf)
          rw [nI_1]
          refine ih (t + 1) D3 _ _ _ (by omega) ⟨fun r h1 h2 h3 h4 => by rw [j2 r h1 h2 h3]; exact f5.1 r h1 h2 h3 h4, fun k h1 h2 h3 h4 => by rw [j3 k h1 h2 h3 h4]; exact f5.2.1 k h1 h2 h3 h4, fun k hk => by rw [j4 k (by omega)]; exact f5.2.2 k hk⟩ j1 (fun q hq => by rw [j2 75 (by decide) (by decide) (by decide)]; exact f7 q hq) (fun k hk => by rw [j2 75 (by decide) (by decide) (by decide)]; exact f8 k hk)
        | succ mm ihi =>
          intro i l6 l7 hi
          obtain ⟨z1, z2, z3⟩ := cz i (by omega)
          have s1 := h4.2 (3 * i) (by omega)
          have s2 := h4.2 (3 * i + 1) (by omega)
          have s3 := h4.2 (3 * i + 2) (by omega)
          obtain ⟨b', b1, b2, b3, b4⟩ := z_of z2 (by decide) (by decide)
          have x0 : (3 : Int32) * nI i = nI (3 * i) := nI_mul 3 i
          have x2 : nI (3 * i) + 2 = nI (3 * i + 2) := nI_add _ 2
          have nb : z_nt (zS z (3 * i + 1)) = b' := b4
          have nx : ∀ (l6 l7 : Option Value) (w : Bool), w = (z_so z g t && z_ag z (z_run g t) t (i + 1)) → X 141 [some (.ref 67), some (.int (nI v)), some (.int (nI b)), some (.int (z_bi (z_so z g t && z_ag z (z_run g t) t i))), some (.int (nI t)), some (.int (nI i)), l6, l7] [.int (z_bi w)] D2 := by
            intro l6 l7 w hw
            iterate 3 (refine hX _ _ _ _ ?_; conv => whnf)
            rw [nI_1, hw]
            exact ihi (i + 1) _ _ (by omega)
          have ea : z_ag z (z_run g t) t (i + 1) = (z_ag z (z_run g t) t i && z_a1 z (z_run g t) t i) := rfl
          rw [ea, ← Bool.and_assoc] at nx
          have tail : ∀ (x6 : Int32) (ok : Bool), (z_isb (z_run g t) (zS z (3 * i + 1)) && decide (z_run g t (16 + z_nt (zS z (3 * i + 1))) = zS z (3 * i + 2))) = ok → X 111 [some (.ref 67), some (.int (nI v)), some (.int (nI b)), some (.int (z_bi (z_so z g t && z_ag z (z_run g t) t i))), some (.int (nI t)), some (.int (nI i)), some (.int x6), l7] [.int (z_bi ok)] D2 := by
            intro x6 ok hok
            unfold z_a1 at nx
            rw [hok] at nx
            generalize (z_so z g t && z_ag z (z_run g t) t i) = so at nx ⊢
            repeat (refine hX _ _ _ _ ?_; conv => whnf)
            cases so
            · refine ⟨fun _ => ?_, fun h => absurd h (by decide)⟩
              iterate 1 (refine hX _ _ _ _ ?_; conv => whnf)
              exact nx _ _ false (by rw [Bool.false_and])
            · refine ⟨fun h => absurd h (by decide), fun _ => ?_⟩
              repeat (refine hX _ _ _ _ ?_; conv => whnf)
              rw [x0]
              refine ⟨vp_in_nI (by omega) (by decide), ?_⟩
              rw [nI_clamp (by omega), s1]
              repeat (refine hX _ _ _ _ ?_; conv => whnf)
              refine ⟨fun q => ?_, fun q => ?_⟩
              · iterate 2 (refine hX _ _ _ _ ?_; conv => whnf)
                exact nx _ _ true (by rw [if_neg q]; rfl)
              · repeat (refine hX _ _ _ _ ?_; conv => whnf)
                cases ok
                · refine ⟨fun _ => ?_, fun h => absurd h (by decide)⟩
                  iterate 1 (refine hX _ _ _ _ ?_; conv => whnf)
                  exact nx _ _ false (by rw [if_pos q]; rfl)
                · refine ⟨fun h => absurd h (by decide), fun _ => ?_⟩
                  iterate 2 (refine hX _ _ _ _ ?_; conv => whnf)
                  exact nx _ _ true (by rw [if_pos q]; rfl)
          have i3 : (224 : Int32) + zS z (3 * i + 1) = nI (208 + (16 + b')) := by
            rw [b1, show (224 : Int32) = nI 224 from rfl, nI_add]
            congr 1
            omega
          have hnz : z_n (zG z) ≤ 4 := hGz.2.1
          repeat (refine hX _ _ _ _ ?_; conv => whnf)
          rw [h4.1]
          refine ⟨fun q => absurd q (nI_ge (by omega) (by omega)), fun _ => ?_⟩
          repeat (refine hX _ _ _ _ ?_; conv => whnf)
          rw [x0, nI_1]
          refine ⟨vp_in_nI (by omega) (by decide), ?_⟩
          rw [nI_clamp (by omega), s2]
          repeat (refine hX _ _ _ _ ?_; conv => whnf)
          refine ⟨v24, ?_⟩
          rw [c24, z_M0 hM2.1 (by decide), hGz.1]
          repeat (refine hX _ _ _ _ ?_; conv => whnf)
          refine ⟨fun q => ?_, fun q => ?_⟩
          · have hb0 : z_isb (z_run g t) (zS z (3 * i + 1)) = false := by
              refine z_ib_f (fun y => ?_)
              have q := z_le.mp q
              rw [z_tI (by omega)] at q
              have := y.2
              rw [k2, hn] at this
              omega
            iterate 1 (refine hX _ _ _ _ ?_; conv => whnf)
            exact tail _ false (by rw [hb0]; rfl)
          · have hb1 : z_isb (z_run g t) (zS z (3 * i + 1)) = true := by
              refine z_ib_t z2.1 ?_
              have q : ¬ (nI (z_n (zG z))).toInt ≤ (zS z (3 * i + 1)).toInt := fun y => q (z_le.mpr y)
              rw [z_tI (by omega)] at q
              rw [k2, hn]
              omega
            repeat (refine hX _ _ _ _ ?_; conv => whnf)
            rw [i3]
            refine ⟨vp_in_nI (by omega) (by decide), ?_⟩
            rw [nI_clamp (by omega), f6 (16 + b') (by omega)]
            repeat (refine hX _ _ _ _ ?_; conv => whnf)
            rw [x0, x2]
            refine ⟨vp_in_nI (by omega) (by decide), ?_⟩
            rw [nI_clamp (by omega), s3]
            repeat (refine hX _ _ _ _ ?_; conv => whnf)
            refine ⟨fun w => ?_, fun w => ?_⟩
            · iterate 1 (refine hX _ _ _ _ ?_; conv => whnf)
              exact tail _ false (by rw [hb1, nb, Bool.true_and]; exact decide_eq_false w)
            · iterate 2 (refine hX _ _ _ _ ?_; conv => whnf)
              exact tail _ true (by rw [hb1, nb, Bool.true_and]; exact decide_eq_true w)
      have e0 : z_so z g t = (z_so z g t && z_ag z (z_run g t) t 0) := by
        show _ = (z_so z g t && true)
        rw [Bool.and_true]
      rw [e0]
      exact inner (zC z) 0 _ _ (by omega)
  exact loop 41 0 D0 _ _ _ (by omega) ⟨fun r _ h2 _ _ => f2.1 r h2, fun k _ _ _ _ => by rw [f2.1 67 (by decide)], fun k hk => f2.2 k (by omega)⟩ hM0 (fun q hq => absurd hq (by omega)) (fun k _ => by rw [f2.1 75 (by decide)])
