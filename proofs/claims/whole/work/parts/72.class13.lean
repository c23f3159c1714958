/-! ===== ask: the class ===== -/
def z_bit (l : Int32) (s : Nat) : Bool := decide ((l >>> (nI s &&& 31)) &&& 1 = 1)
theorem z_row57 {N s : Nat} (h : s < 10) : pm_sh N (57 + s) = (0, 41, []) := by
  have h5 : s = 0 ∨ s = 1 ∨ s = 2 ∨ s = 3 ∨ s = 4 ∨ s = 5 ∨ s = 6 ∨ s = 7 ∨ s = 8 ∨ s = 9 := by omega
  rcases h5 with rfl | rfl | rfl | rfl | rfl | rfl | rfl | rfl | rfl | rfl <;> rfl
def sp_traceStiffs (Ga : pm_Ga) : Prop := ∀ (z : z_Z) (b : Nat) (l : Int32) (D : pm_Mem) (post : pm_Post), zOk z → CR D z → b < z_n (zG z) → (∀ D', (∀ r, (r < 10 ∨ 20 ≤ r) → (r < 57 ∨ 67 ≤ r) → D' r = D r) → (∀ s q, s < 10 → q < 41 → z_bit l s = true → D' (57 + s) q = z_run (z_up (zG z) (4 * 2 + b) (nI s)) q (16 + b)) → post none D') → Ga 86 [.ref 40, .int (nI b), .int l] D post
set_option maxHeartbeats 4000000 in
theorem t_traceStiffs {N : Nat} {Ga : pm_Ga} (htw : sp_tryWith Ga) (htk : sp_tickOnce Ga) : sp_traceStiffs (pm_up N Ga) := by
  intro z b l D post hz hC hb h
  have h1 : z_R D 0 (zG z) := hC.1
  have hG := hz.1
  have hn4 := hz.1.2.1
  refine ⟨rfl, fun X hX => ?_⟩
  replace hX : ∀ pc L st D, pm_F N Ga tbX4_traceStiffs none post X pc L st D → X pc L st D := hX
  change X 0 [some (.ref 40), some (.int (nI b)), some (.int l), none, none] [] D
  iterate 2 (refine hX _ _ _ _ ?_; conv => whnf)
  have loop : ∀ (m s : Nat) (D1 : pm_Mem) (l4 : Option Value), s + m = 10 → (∀ r, (r < 10 ∨ 20 ≤ r) → (r < 57 ∨ 67 ≤ r) → D1 r = D r) → (∀ u q, u < s → q < 41 → z_bit l u = true → D1 (57 + u) q = z_run (z_up (zG z) (4 * 2 + b) (nI u)) q (16 + b)) → X 2 [some (.ref 40), some (.int (nI b)), some (.int l), some (.int (nI s)), l4] [] D1 := by
    intro m
    induction m with
    | zero =>
      intro s D1 l4 hs f1 f2
      have hs : s = 10 := by omega
      subst hs
      repeat (refine hX _ _ _ _ ?_; conv => whnf)
      refine ⟨fun _ => ?_, fun h => absurd h (by decide)⟩
      repeat (refine hX _ _ _ _ ?_; conv => whnf)
      exact h D1 f1 f2
    | succ m ih =>
      intro s D1 l4 hs f1 f2
      have vs : vp_in (nI s) 10 := vp_in_nI (by omega) (by decide)
      have cs : (nI s).toNatClampNeg = s := nI_clamp (by omega)
      have hR1 : z_R D1 0 (zG z) := h1.same (fun r _ _ => f1 r (by omega) (by omega))
      have hgd : z_good (nI 2) (nI s) = true := by
        rw [z_good_t (by omega)]
        exact z_ib_t (by rw [z_tI (by omega)]; exact Int.natCast_nonneg _) (by rw [z_tI (by omega)]; show (s : Int) ≤ 9; omega)
      obtain ⟨j1, j2, j3⟩ := hG.put (w := 2) (by omega) hb hgd
      repeat (refine hX _ _ _ _ ?_; conv => whnf)
      refine ⟨fun q => absurd q (nI_ge (b := 10) (by omega) (by omega)), fun _ => ?_⟩
      repeat (refine hX _ _ _ _ ?_; conv => whnf)
      refine ⟨fun q => ?_, fun q => ?_⟩
      · iterate 2 (refine hX _ _ _ _ ?_; conv => whnf)
        rw [nI_1]
        refine ih (s + 1) D1 _ (by omega) f1 (fun u w hu hw hq => ?_)
        by_cases e : u = s
        · rw [e] at hq
          exact absurd (of_decide_eq_true hq) q
        · exact f2 u w (by omega) hw hq
      · repeat (refine hX _ _ _ _ ?_; conv => whnf)
        refine htw 2 b (nI s) (zG z) D1 _ 9999 (by omega) hb hG hR1 (fun D2 k1 k2 => ?_)
        iterate 2 (refine hX _ _ _ _ ?_; conv => whnf)
        have inner : ∀ (mm t : Nat) (D3 : pm_Mem), t + mm = 41 → z_R D3 10 (z_run (z_up (zG z) (4 * 2 + b) (nI s)) t) → (∀ r, (r < 10 ∨ 20 ≤ r) → r ≠ 57 + s → D3 r = D1 r) → (∀ q, q < t → D3 (57 + s) q = z_run (z_up (zG z) (4 * 2 + b) (nI s)) q (16 + b)) → X 27 [some (.ref 40), some (.int (nI b)), some (.int l), some (.int (nI s)), some (.int (nI t))] [] D3 := by
          intro mm
          induction mm with
          | zero =>
            intro t D3 ht a1 a2 a3
            have ht : t = 41 := by omega
            subst ht
            repeat (refine hX _ _ _ _ ?_; conv => whnf)
            refine ⟨fun _ => ?_, fun h => absurd h (by decide)⟩
            iterate 2 (refine hX _ _ _ _ ?_; conv => whnf)
            rw [nI_1]
            refine ih (s + 1) D3 _ (by omega) (fun r h1 h2 => by rw [a2 r h1 (by omega)]; exact f1 r h1 h2) (fun u w hu hw hq => ?_)
            by_cases e : u = s
            · rw [e]; exact a3 w hw
            · rw [a2 (57 + u) (by omega) (by omega)]; exact f2 u w (by omega) hw hq
          | succ mm ihi =>
            intro t D3 ht a1 a2 a3
            obtain ⟨r1, r2, r3⟩ := j1.run t (by omega)
            have hpl : D3 15 b = z_run (z_up (zG z) (4 * 2 + b) (nI s)) t (16 + b) := (a1.2.2.2.2.1 b (by omega)).2.2.2.2.1
            repeat (refine hX _ _ _ _ ?_; conv => whnf)
            refine ⟨fun q => absurd q (nI_nlt (a := 40) (by omega) (by omega)), fun _ => ?_⟩
            repeat (refine hX _ _ _ _ ?_; conv => whnf)
            refine ⟨vs, ?_⟩
            rw [cs]
            repeat (refine hX _ _ _ _ ?_; conv => whnf)
            refine ⟨vp_in_nI (by omega) (by decide), ?_⟩
            rw [nI_clamp (show b < 2 ^ 31 by omega), hpl]
            repeat (refine hX _ _ _ _ ?_; conv => whnf)
            change (match pm_sh N (57 + s) with | (0, n, _) => 57 + s < 80 ∧ vp_in (nI t) n ∧ X 52 [some (.ref 40), some (.int (nI b)), some (.int l), some (.int (nI s)), some (.int (nI t))] [] (pm_mu D3 (57 + s) (nI t).toNatClampNeg (z_run (z_up (zG z) (4 * 2 + b) (nI s)) t (16 + b))) | _ => False)
            rw [z_row57 (by omega)]
            refine ⟨by omega, vp_in_nI (by omega) (by decide), ?_⟩
            rw [nI_clamp (show t < 2 ^ 31 by omega)]
            repeat (refine hX _ _ _ _ ?_; conv => whnf)
            refine htk 10 _ _ _ (9999 + t) (by omega) (by decide) r1 (a1.same (fun r _ _ => pm_mu_ne _ _ _ (by omega))) (fun D4 c1 c2 _ _ => ?_)
            iterate 2 (refine hX _ _ _ _ ?_; conv => whnf)
            rw [nI_1]
            refine ihi (t + 1) D4 (by omega) c1 (fun r h1 h2 => ?_) (fun q hq => ?_)
            · rw [c2 r (by omega), pm_mu_ne _ _ _ h2]; exact a2 r h1 h2
            · rw [c2 (57 + s) (by omega)]
              by_cases e : q = t
              · rw [e, pm_mu_at]
              · rw [pm_mu_k _ _ _ _ e]; exact a3 q (by omega)
        exact inner 41 0 D2 (by omega) k1 (fun r h1 _ => k2 r h1) (fun q hq => absurd hq (by omega))
  exact loop 10 0 D none (by omega) (fun _ _ _ => rfl) (fun u q hu => absurd hu (by omega))
