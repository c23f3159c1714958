theorem z_al_0 {l : Int32} {P : Nat → Int32} {s : Nat} (h : z_bit l s = false) : ∀ n, z_al l P s n = 0
  | 0 => rfl
  | n + 1 => by
    show (if (z_bit l s && (z_bit l n && decide (P s = P n))) = true then z_al l P s n + 1 else z_al l P s n) = 0
    rw [h, Bool.false_and, if_neg (by decide)]
    exact z_al_0 h n
def sp_worstAt (Ga : pm_Ga) : Prop := ∀ (l : Int32) (t : Nat) (P : Nat → Int32) (D : pm_Mem) (post : pm_Post), t < 41 → (∀ s, s < 10 → D 75 (41 * s + t) = P s) → post (some (.int (z_most l P 10))) D → Ga 162 [.ref 67, .int l, .int (nI t)] D post
set_option maxHeartbeats 4000000 in
theorem t_worstAt {N : Nat} {Ga : pm_Ga} : sp_worstAt (pm_up N Ga) := by
  intro l t P D post ht hP h
  have ix : ∀ s : Nat, (41 : Int32) * nI s + nI t = nI (41 * s + t) := fun s => by rw [show (41 : Int32) = nI 41 from rfl, nI_mul, nI_add]
  refine ⟨rfl, fun X hX => ?_⟩
  replace hX : ∀ pc L st D, pm_F N Ga tbX5_worstAt (some .int) post X pc L st D → X pc L st D := hX
  change X 0 [some (.ref 67), some (.int l), some (.int (nI t)), none, none, none, none] [] D
  iterate 4 (refine hX _ _ _ _ ?_; conv => whnf)
  have loop : ∀ (m s : Nat) (l5 l6 : Option Value), s + m = 10 → X 5 [some (.ref 67), some (.int l), some (.int (nI t)), some (.int (z_most l P s)), some (.int (nI s)), l5, l6] [] D := by
    intro m
    induction m with
    | zero =>
      intro s l5 l6 hs
      have hs : s = 10 := by omega
      subst hs
      repeat (refine hX _ _ _ _ ?_; conv => whnf)
      refine ⟨fun _ => ?_, fun h => absurd h (by decide)⟩
      repeat (refine hX _ _ _ _ ?_; conv => whnf)
      exact h
    | succ m ih =>
      intro s l5 l6 hs
      repeat (refine hX _ _ _ _ ?_; conv => whnf)
      refine ⟨fun q => absurd q (nI_nlt (a := 9) (by omega) (by omega)), fun _ => ?_⟩
      iterate 4 (refine hX _ _ _ _ ?_; conv => whnf)
      have nx : ∀ (al : Int32) (l6 : Option Value), al = z_al l P s 10 → X 88 [some (.ref 67), some (.int l), some (.int (nI t)), some (.int (z_most l P s)), some (.int (nI s)), some (.int al), l6] [] D := by
        intro al l6 hal
        have ih2 := ih (s + 1) (some (.int al)) l6 (by omega)
        have ez : z_most l P (s + 1) = if z_most l P s < z_al l P s 10 then z_al l P s 10 else z_most l P s := rfl
        rw [ez, ← hal] at ih2
        repeat (refine hX _ _ _ _ ?_; conv => whnf)
        refine ⟨fun q => ?_, fun q => ?_⟩
        · rw [if_neg (by rw [z_lt]; have := z_le.mp q; omega)] at ih2
          iterate 4 (refine hX _ _ _ _ ?_; conv => whnf)
          rw [nI_1]
          exact ih2
        · have q3 : ¬ al.toInt ≤ (z_most l P s).toInt := fun y => q (z_le.mpr y)
          rw [if_pos (by rw [z_lt]; omega)] at ih2
          iterate 5 (refine hX _ _ _ _ ?_; conv => whnf)
          rw [nI_1]
          exact ih2
      have inner : ∀ (mm o : Nat), o + mm = 10 → X 18 [some (.ref 67), some (.int l), some (.int (nI t)), some (.int (z_most l P s)), some (.int (nI s)), some (.int (z_al l P s o)), some (.int (nI o))] [] D := by
        intro mm
        induction mm with
        | zero =>
          intro o ho
          have ho : o = 10 := by omega
          subst ho
          repeat (refine hX _ _ _ _ ?_; conv => whnf)
          refine ⟨fun _ => ?_, fun h => absurd h (by decide)⟩
          exact nx _ _ rfl
        | succ mm ihi =>
          intro o ho
          have ez : z_al l P s (o + 1) = if (z_bit l s && (z_bit l o && decide (P s = P o))) = true then z_al l P s o + 1 else z_al l P s o := rfl
          have ih2 := ihi (o + 1) (by omega)
          rw [ez] at ih2
          repeat (refine hX _ _ _ _ ?_; conv => whnf)
          refine ⟨fun q => absurd q (nI_nlt (a := 9) (by omega) (by omega)), fun _ => ?_⟩
          repeat (refine hX _ _ _ _ ?_; conv => whnf)
          refine ⟨fun q => ?_, fun q => ?_⟩
          · have u1 : z_bit l s = false := decide_eq_false q
            exact nx _ _ (by rw [z_al_0 u1, z_al_0 u1])
          · have u1 : z_bit l s = true := decide_eq_true q
            rw [u1, Bool.true_and] at ih2
            repeat (refine hX _ _ _ _ ?_; conv => whnf)
            refine ⟨fun q2 => ?_, fun q2 => ?_⟩
            · have u2 : z_bit l o = false := decide_eq_false q2
              rw [u2, Bool.false_and, if_neg (by decide)] at ih2
              iterate 5 (refine hX _ _ _ _ ?_; conv => whnf)
              rw [nI_1, Int32.add_zero]
              exact ih2
            · have u2 : z_bit l o = true := decide_eq_true q2
              rw [u2, Bool.true_and] at ih2
              repeat (refine hX _ _ _ _ ?_; conv => whnf)
              rw [ix s]
              refine ⟨vp_in_nI (by omega) (by decide), ?_⟩
              rw [nI_clamp (by omega), hP s (by omega)]
              repeat (refine hX _ _ _ _ ?_; conv => whnf)
              rw [ix o]
              refine ⟨vp_in_nI (by omega) (by decide), ?_⟩
              rw [nI_clamp (by omega), hP o (by omega)]
              repeat (refine hX _ _ _ _ ?_; conv => whnf)
              refine ⟨fun w => ?_, fun w => ?_⟩
              · rw [if_neg (fun y => w (of_decide_eq_true y))] at ih2
                iterate 5 (refine hX _ _ _ _ ?_; conv => whnf)
                rw [nI_1, Int32.add_zero]
                exact ih2
              · rw [if_pos (decide_eq_true w)] at ih2
                iterate 6 (refine hX _ _ _ _ ?_; conv => whnf)
                rw [nI_1]
                exact ih2
      exact inner 10 0 (by omega)
  exact loop 10 0 _ _ (by omega)
