theorem z_64a {x y : Int32} : (x.toInt64 + y.toInt64).toInt = x.toInt + y.toInt := by
  have h1 := Int32.toInt_lt x
  have h2 := Int32.toInt_lt y
  have h3 := Int32.le_toInt x
  have h4 := Int32.le_toInt y
  rw [Int64.toInt_add, z_64, z_64]
  exact Int.bmod_eq_of_le (by omega) (by omega)
theorem MR.torn {D : pm_Mem} {z : z_Z} {v : Int32} (h : MR D z) : MR (pm_mu D 67 27 v) (uR z v) := by
  obtain ⟨a1, b, c, d, e, f, i⟩ := h
  have hf : ∀ r, r ≠ 67 → pm_mu D 67 27 v r = D r := fun r hr => pm_mu_ne _ _ _ hr
  have h7 : ∀ k, k ≠ 27 → pm_mu D 67 27 v 67 k = D 67 k := fun k hk => pm_mu_k _ _ _ _ hk
  refine ⟨?_, ?_, ?_, ?_, ?_, ⟨pm_mu_at _ _ _ _, ?_⟩, ?_⟩
  · unfold z_M; rw [hf 68 (by decide)]; exact a1
  · show M2 _ z
    unfold M2 z_M; rw [hf 68 (by decide), hf 76 (by decide)]; exact b
  · show M3 _ z
    unfold M3; rw [h7 4 (by decide), h7 5 (by decide), hf 70 (by decide)]; exact c
  · show M4 _ z
    unfold M4; rw [h7 21 (by decide), hf 74 (by decide)]; exact d
  · show M5 _ z
    unfold M5; rw [hf 77 (by decide), hf 78 (by decide), hf 79 (by decide)]; exact e
  · rw [h7 19 (by decide)]; exact f.2
  · unfold M7; rw [hf 71 (by decide), hf 72 (by decide)]; exact i
/-- the fault of one cell -/
def z_cf (z : z_Z) (k : Nat) (a f : Int32) (q : Nat) : Int32 := match zH z k with | none => 1 | some o => if nI o.1 = a then (if 0 ≤ f.toInt + (q : Int) ∧ f.toInt + (q : Int) < (o.2 : Int) then 0 else 2) else 3
theorem z_cf_pf {z : z_Z} {k : Nat} {a f : Int32} {i : Nat} (h : i = 0 ∨ 0 ≤ f.toInt) : (z_cf z k a f (2 * i) ≠ 0 → z_pf z k a f i = z_cf z k a f (2 * i)) ∧ (z_cf z k a f (2 * i) = 0 → z_pf z k a f i = z_cf z k a f (2 * i + 1)) := by
  unfold z_cf z_pf
  cases zH z k with
  | none => exact ⟨fun _ => rfl, fun _ => rfl⟩
  | some o =>
    simp only []
    by_cases e : nI o.1 = a
    · rw [if_pos e, if_pos e, if_pos e]
      by_cases c : 0 ≤ f.toInt + ((2 * i : Nat) : Int) ∧ f.toInt + ((2 * i : Nat) : Int) < (o.2 : Int)
      · rw [if_pos c]
        refine ⟨fun q => absurd rfl q, fun _ => ?_⟩
        by_cases c2 : 0 ≤ f.toInt ∧ f.toInt + 2 * (i : Int) + 1 < (o.2 : Int)
        · rw [if_pos c2, if_pos (by omega)]
        · rw [if_neg c2, if_neg (by omega)]
      · rw [if_neg c]
        refine ⟨fun _ => ?_, fun q => absurd q (by decide)⟩
        rw [if_neg (by omega)]
    · rw [if_neg e, if_neg e, if_neg e]
      exact ⟨fun _ => rfl, fun _ => rfl⟩
set_option maxHeartbeats 4000000 in
theorem t_m_read {N : Nat} {Ga : pm_Ga} (hin : sp_in Ga) (hco : sp_copies Ga) (had : sp_adds Ga) : ms4 (pm_up N Ga) 169 r_read := by
  intro z k a f n D post hz hM h
  have hG := hz.1
  obtain ⟨g1, g2, g3, g4, g5, g6, g7, g8⟩ := hz.1
  unfold r_read at h
  refine ⟨rfl, fun X hX => ?_⟩
  replace hX : ∀ pc L st D, pm_F N Ga tbX5_read (some .int) post X pc L st D → X pc L st D := hX
  change X 0 [some (.ref 67), some (.int k), some (.int a), some (.int f), some (.int n), none, none, none, none] [] D
  repeat (refine hX _ _ _ _ ?_; conv => whnf)
  refine m_ib hin 0 3 rfl rfl (fun e => ?_) (fun e => ?_)
  · repeat (refine hX _ _ _ _ ?_; conv => whnf)
    refine ⟨fun h => absurd h (by decide), fun _ => ?_⟩
    repeat (refine hX _ _ _ _ ?_; conv => whnf)
    refine m_ib hin 0 2 rfl rfl (fun e2 => ?_) (fun e2 => ?_)
    · repeat (refine hX _ _ _ _ ?_; conv => whnf)
      refine ⟨fun h => absurd h (by decide), fun _ => ?_⟩
      repeat (refine hX _ _ _ _ ?_; conv => whnf)
      refine m_ib hin 0 20 rfl rfl (fun e3 => ?_) (fun e3 => ?_)
      · rw [e, e2, e3, if_pos (by decide)] at h
        obtain ⟨m1, m2, m3, m4⟩ := z_ib_of e3 (by decide) (by decide)
        obtain ⟨k1, k2, k3, k4⟩ := z_ib_of e (by decide) (by decide)
        repeat (refine hX _ _ _ _ ?_; conv => whnf)
        refine ⟨fun _ => ?_, fun h => absurd h (by decide)⟩
        repeat (refine hX _ _ _ _ ?_; conv => whnf)
        refine hco 0 156 D _ (by decide) (by decide) (by decide) (fun D0 f1 f2 => ?_)
        have hM0 : z_M D0 156 (zG z) := fun k hk => by
          rw [f1 k hk]
          exact hM.1 k hk
        have hM1 : MR D0 z := hM.same (fun r _ h2 _ _ _ => f2.1 r h2) (fun k _ _ _ _ => by rw [f2.1 67 (by decide)]) (fun k hk => f2.2 k (by omega))
        iterate 6 (refine hX _ _ _ _ ?_; conv => whnf)
        rw [m1, k1]
        generalize hnn : z_nt n = nn at *
        generalize hkk : z_nt k = kk at *
        have vk : vp_in (nI kk) 4 := vp_in_nI (by omega) (by decide)
        have ck : (nI kk).toNatClampNeg = kk := nI_clamp (by omega)
        have n2 : (2 : Int32) * nI nn = nI (2 * nn) := nI_mul 2 nn
        have fin : ∀ (i : Nat) (g : z_P) (ft : Int32) (D1 : pm_Mem) (l7 l8 : Option Value), MR D1 (uG z g) → (∀ r, (r < 67 ∨ 80 ≤ r) → D1 r = D r) → mP D (nI i, uR (uG z g) ft) post → X 198 [some (.ref 67), some (.int (nI kk)), some (.int a), some (.int f), some (.int (nI nn)), some (.int ft), some (.int (nI i)), l7, l8] [] D1 := by
          intro i g ft D1 l7 l8 a1 a2 h
          repeat (refine hX _ _ _ _ ?_; conv => whnf)
          exact h _ a1.torn (fun r hr => by rw [pm_mu_ne _ _ _ (by omega)]; exact a2 r hr)
        have chk : ∀ (q i : Nat) (g : z_P) (D1 : pm_Mem) (l8 : Option Value), q < 40 → MR D1 (uG z g) → X 128 [some (.ref 67), some (.int (nI kk)), some (.int a), some (.int f), some (.int (nI nn)), some (.int (z_cf z kk a f q)), some (.int (nI i)), some (.int (nI q)), l8] [] D1 → X 70 [some (.ref 67), some (.int (nI kk)), some (.int a), some (.int f), some (.int (nI nn)), some (.int 0), some (.int (nI i)), some (.int (nI q)), l8] [] D1 := by
          intro q i g D1 l8 hq a1 go
          obtain ⟨s0, s1⟩ := a1.2.2.2.2.1 kk (by omega)
          unfold z_cf at go
          repeat (refine hX _ _ _ _ ?_; conv => whnf)
          refine ⟨vk, ?_⟩
          rw [ck]
          repeat (refine hX _ _ _ _ ?_; conv => whnf)
          cases y : zH z kk with
          | none =>
            rw [y] at go
            rw [s0 y]
            refine ⟨fun h => absurd h (by decide), fun _ => ?_⟩
            iterate 3 (refine hX _ _ _ _ ?_; conv => whnf)
            exact go
          | some o =>
            obtain ⟨b, l⟩ := o
            obtain ⟨y1, y2, y3⟩ := s1 b l y
            have hb := hz.2.2.2.2.2 kk (by omega) b l y
            rw [y] at go
            rw [y2]
            refine ⟨fun _ => ?_, fun w => ?_⟩
            · repeat (refine hX _ _ _ _ ?_; conv => whnf)
              refine ⟨vk, ?_⟩
              rw [ck, y2]
              repeat (refine hX _ _ _ _ ?_; conv => whnf)
              refine ⟨fun w => ?_, fun w => ?_⟩
              · repeat (refine hX _ _ _ _ ?_; conv => whnf)
                refine ⟨vk, ?_⟩
                rw [ck, y1]
                repeat (refine hX _ _ _ _ ?_; conv => whnf)
                simp only [w, if_true] at go
                refine hin _ _ _ D1 _ (fun b1 b2 => ?_) (fun b0 => ?_)
                · rw [z_64a, z_tI (by omega)] at b1 b2
                  rw [z_64, z_m1 (by omega)] at b2
                  have b1 : (0 : Int) ≤ _ := b1
                  rw [if_pos (by omega)] at go
                  repeat (refine hX _ _ _ _ ?_; conv => whnf)
                  refine ⟨fun _ => ?_, fun h => absurd h (by decide)⟩
                  iterate 2 (refine hX _ _ _ _ ?_; conv => whnf)
                  exact go
                · rw [z_64a, z_64, z_m1 (by omega), z_tI (by omega)] at b0
                  have b0 : ¬ ((0 : Int) ≤ _ ∧ _) := b0
                  rw [if_neg (by omega)] at go
                  repeat (refine hX _ _ _ _ ?_; conv => whnf)
                  refine ⟨fun h => absurd h (by decide), fun _ => ?_⟩
                  iterate 3 (refine hX _ _ _ _ ?_; conv => whnf)
                  exact go
              · simp only [w, if_false] at go
                iterate 3 (refine hX _ _ _ _ ?_; conv => whnf)
                exact go
            · have y3 := congrArg Int32.toInt w
              rw [z_tI (by omega)] at y3
              have : (-4 : Int32).toInt = -4 := rfl
              omega
        have out : ∀ (q i : Nat) (g : z_P) (ft : Int32) (D1 : pm_Mem) (l8 : Option Value), ¬ ft = 0 → MR D1 (uG z g) → (∀ r, (r < 67 ∨ 80 ≤ r) → D1 r = D r) → mP D (nI i, uR (uG z g) ft) post → X 192 [some (.ref 67), some (.int (nI kk)), some (.int a), some (.int f), some (.int (nI nn)), some (.int ft), some (.int (nI i)), some (.int (nI q)), l8] [] D1 := by
          intro q i g ft D1 l8 hft a1 a2 hh
          iterate 2 (refine hX _ _ _ _ ?_; conv => whnf)
          repeat (refine hX _ _ _ _ ?_; conv => whnf)
          refine ⟨fun q2 => ?_, fun q2 => ?_⟩
          · exact fin i g ft D1 _ _ a1 a2 hh
          · repeat (refine hX _ _ _ _ ?_; conv => whnf)
            refine ⟨fun _ => ?_, fun q3 => absurd q3 hft⟩
            exact fin i g ft D1 _ _ a1 a2 hh
        have loop : ∀ (m i : Nat) (g : z_P) (D1 : pm_Mem) (l8 : Option Value), i + m = nn → (i = 0 ∨ 0 ≤ f.toInt) → z_G 9999 g → z_ext (zG z) g → MR D1 (uG z g) → z_M D1 156 (zG z) → (∀ r, (r < 67 ∨ 80 ≤ r) → D1 r = D r) → mP D (z_rd z kk a f m i g) post → X 56 [some (.ref 67), some (.int (nI kk)), some (.int a), some (.int f), some (.int (nI nn)), some (.int 0), some (.int (nI i)), some (.int (nI (2 * i))), l8] [] D1 := by
          intro m
          induction m with
          | zero =>
            intro i g D1 l8 hi hf hg hx a1 a3 a2 hh
            have hi : i = nn := by omega
            subst hi
            repeat (refine hX _ _ _ _ ?_; conv => whnf)
            rw [n2]
            refine ⟨fun _ => ?_, fun q => absurd (nI_le (Nat.le_refl _) (by omega)) q⟩
            exact fin _ g 0 D1 _ _ a1 a2 hh
          | succ m ih =>
            intro i g D1 l8 hi hf hg hx a1 a3 a2 hh
            have hz1 : zOk (uG z g) := ⟨hg, hz.2⟩
            obtain ⟨pa, pb⟩ := z_cf_pf (z := z) (k := kk) (a := a) hf
            have r0 : nI (2 * i) - nI (2 * i) / 2 * 2 = nI 0 := (z_rem (a := 2 * i) (d := 2) (by omega) (by decide) (by decide)).trans (by rw [show 2 * i % 2 = 0 by omega])
            have r1 : nI (2 * i + 1) - nI (2 * i + 1) / 2 * 2 = nI 1 := (z_rem (a := 2 * i + 1) (d := 2) (by omega) (by decide) (by decide)).trans (by rw [show (2 * i + 1) % 2 = 1 by omega])
            change mP D (if z_pf z kk a f i = 0 then _ else _) post at hh
            repeat (refine hX _ _ _ _ ?_; conv => whnf)
            rw [n2]
            refine ⟨fun q => absurd q (nI_ge (by omega) (by omega)), fun _ => ?_⟩
            repeat (refine hX _ _ _ _ ?_; conv => whnf)
            refine ⟨fun h => absurd h (by decide), fun _ => ?_⟩
            refine chk (2 * i) i g D1 l8 (by omega) a1 ?_
            by_cases c0 : z_cf z kk a f (2 * i) = 0
            · rw [c0]
              have pb := pb c0
              repeat (refine hX _ _ _ _ ?_; conv => whnf)
              refine ⟨fun h => absurd h (by decide), fun _ => ?_⟩
              repeat (refine hX _ _ _ _ ?_; conv => whnf)
              refine ⟨by decide, ?_⟩
              repeat (refine hX _ _ _ _ ?_; conv => whnf)
              rw [r0]
              refine ⟨fun _ => ?_, fun h => absurd h (by decide)⟩
              iterate 2 (refine hX _ _ _ _ ?_; conv => whnf)
              rw [nI_1]
              repeat (refine hX _ _ _ _ ?_; conv => whnf)
              rw [n2]
              refine ⟨fun q => absurd q (nI_ge (by omega) (by omega)), fun _ => ?_⟩
              repeat (refine hX _ _ _ _ ?_; conv => whnf)
              refine ⟨fun h => absurd h (by decide), fun _ => ?_⟩
              refine chk (2 * i + 1) i g D1 _ (by omega) a1 ?_
              rw [← pb]
              by_cases q : z_pf z kk a f i = 0
              · obtain ⟨b, l, y1, y2, y3, y4⟩ := z_pf_0 q
                have hb := hz.2.2.2.2.2 kk (by omega) b l y1
                obtain ⟨j1, j2, j3, j4⟩ := z_ib_of (x := f) (a := 0) (b := 40) (z_ib_t y3 (by omega)) (by decide) (by decide)
                have fi : f.toInt = z_nt f := (congrArg Int32.toInt j1).trans (z_tI (by omega))
                have ix : 40 * nI kk + f + nI (2 * i + 1) = nI (40 * kk + (z_nt f + 2 * i + 1)) := by
                  have t : ∀ t : Nat, f = nI t → 40 * nI kk + f + nI (2 * i + 1) = nI (40 * kk + (t + 2 * i + 1)) := fun t ht => by rw [ht, show (40 : Int32) = nI 40 from rfl, nI_mul, nI_add, nI_add]; congr 1; omega
                  exact t _ j1
                have ix2 : nI (40 * kk + (z_nt f + 2 * i + 1)) - 1 = nI (40 * kk + (z_nt f + 2 * i)) := by
                  rw [show 40 * kk + (z_nt f + 2 * i + 1) = 40 * kk + (z_nt f + 2 * i) + 1 by omega, ← nI_1, Int32.add_sub_cancel]
                obtain ⟨_, _, y7⟩ := (a1.2.2.2.2.1 kk (by omega)).2 b l y1
                have x1 : D1 79 _ = zE z kk _ := y7 (z_nt f + 2 * i) (by omega)
                have x2 : D1 79 _ = zE z kk _ := y7 (z_nt f + 2 * i + 1) (by omega)
                rw [if_pos q] at hh
                rw [q]
                repeat (refine hX _ _ _ _ ?_; conv => whnf)
                refine ⟨fun h => absurd h (by decide), fun _ => ?_⟩
                repeat (refine hX _ _ _ _ ?_; conv => whnf)
                refine ⟨by decide, ?_⟩
                repeat (refine hX _ _ _ _ ?_; conv => whnf)
                rw [r1]
                refine ⟨fun h => absurd h (by decide), fun _ => ?_⟩
                repeat (refine hX _ _ _ _ ?_; conv => whnf)
                rw [ix, ix2]
                refine ⟨vp_in_nI (show 40 * kk + (z_nt f + 2 * i) < 160 by omega) (by decide), ?_⟩
                rw [nI_clamp (show 40 * kk + (z_nt f + 2 * i) < 2 ^ 31 by omega), x1]
                repeat (refine hX _ _ _ _ ?_; conv => whnf)
                refine ⟨vp_in_nI (show 40 * kk + (z_nt f + 2 * i + 1) < 160 by omega) (by decide), ?_⟩
                rw [nI_clamp (show 40 * kk + (z_nt f + 2 * i + 1) < 2 ^ 31 by omega), x2]
                repeat (refine hX _ _ _ _ ?_; conv => whnf)
                refine had (uG z g) _ _ D1 _ hz1 a1 (fun D2 c1 c2 c3 => ?_)
                rw [r_add_u] at c1
                obtain ⟨u1, u2⟩ := r_add_ext (z := z) hg hx (zE z kk (z_nt f + 2 * i)) (zE z kk (z_nt f + 2 * i + 1))
                repeat (refine hX _ _ _ _ ?_; conv => whnf)
                refine ⟨fun w => ?_, fun w => ?_⟩
                · rw [if_pos w] at hh
                  iterate 3 (refine hX _ _ _ _ ?_; conv => whnf)
                  rw [nI_1, nI_1]
                  exact ih (i + 1) _ D2 _ (by omega) (Or.inr y3) u1 u2 c1 (a3.same (fun k _ _ => c3 k (by omega))) (fun r hr => by rw [c2 r hr]; exact a2 r hr) hh
                · rw [if_neg w] at hh
                  repeat (refine hX _ _ _ _ ?_; conv => whnf)
                  refine hco 156 0 D2 _ (by decide) (by decide) (by decide) (fun D3 d1 d2 => ?_)
                  repeat (refine hX _ _ _ _ ?_; conv => whnf)
                  have d4 : z_M D3 0 (zG z) := fun k hk => by
                    rw [d1 k hk, c3 _ (by omega)]
                    exact a3 k hk
                  exact hh _ (c1.now d4 (fun r _ h2 _ _ _ => d2.1 r h2) (fun k _ _ _ _ => by rw [d2.1 67 (by decide)]) (fun k h1 _ => d2.2 k (by omega))) (fun r hr => by rw [d2.1 r (by omega), c2 r hr]; exact a2 r hr)
              · rw [if_neg q] at hh
                repeat (refine hX _ _ _ _ ?_; conv => whnf)
                refine ⟨fun _ => ?_, fun w => absurd w q⟩
                exact out _ i g _ D1 _ q a1 a2 hh
            · have pa := pa c0
              rw [if_neg (by rw [pa]; exact c0), pa] at hh
              repeat (refine hX _ _ _ _ ?_; conv => whnf)
              refine ⟨fun _ => ?_, fun w => absurd w c0⟩
              exact out _ i g _ D1 _ c0 a1 a2 hh
        exact loop nn 0 (zG z) D0 none (by omega) (Or.inl rfl) hG (z_ext_0 _) hM1 hM0 (fun r hr => f2.1 r (by omega)) h
      · rw [e, e2, e3, if_neg (by decide)] at h
        repeat (refine hX _ _ _ _ ?_; conv => whnf)
        refine ⟨fun h => absurd h (by decide), fun _ => ?_⟩
        repeat (refine hX _ _ _ _ ?_; conv => whnf)
        exact h D hM (fun _ _ => rfl)
    · rw [e, e2, if_neg (by simp)] at h
      repeat (refine hX _ _ _ _ ?_; conv => whnf)
      refine ⟨fun _ => ?_, fun h => absurd h (by decide)⟩
      repeat (refine hX _ _ _ _ ?_; conv => whnf)
      exact h D hM (fun _ _ => rfl)
  · rw [e, if_neg (by simp)] at h
    repeat (refine hX _ _ _ _ ?_; conv => whnf)
    refine ⟨fun _ => ?_, fun h => absurd h (by decide)⟩
    repeat (refine hX _ _ _ _ ?_; conv => whnf)
    exact h D hM (fun _ _ => rfl)
