theorem z_low (x : Int32) : (x &&& 1 = 1) ↔ x.toBitVec.getLsbD 0 = true := by
  constructor
  · intro h
    have h := congrArg (fun y => (Int32.toBitVec y).getLsbD 0) h
    simp only [Int32.toBitVec_and, BitVec.getLsbD_and] at h
    have e : (Int32.toBitVec 1).getLsbD 0 = true := by decide
    rw [e, Bool.and_true] at h
    exact h
  · intro h
    apply Int32.toBitVec_inj.mp
    rw [Int32.toBitVec_and]
    apply BitVec.eq_of_getLsbD_eq
    intro i hi
    rw [BitVec.getLsbD_and]
    by_cases e : i = 0
    · rw [e, h, Bool.true_and]
    · have k : ∀ j, j < 32 → j ≠ 0 → (Int32.toBitVec 1).getLsbD j = false := by decide
      rw [k i hi e, Bool.and_false]
theorem z_low2 (x y : Int32) : ((x &&& y) &&& 1 = 1) ↔ (x &&& 1 = 1 ∧ y &&& 1 = 1) := by
  rw [z_low, z_low, z_low, Int32.toBitVec_and, BitVec.getLsbD_and, Bool.and_eq_true]
def z_al (l : Int32) (P : Nat → Int32) (s : Nat) : Nat → Int32
  | 0 => 0
  | n + 1 => if (z_bit l s && (z_bit l n && decide (P s = P n))) = true then z_al l P s n + 1 else z_al l P s n
def z_most (l : Int32) (P : Nat → Int32) : Nat → Int32
  | 0 => 0
  | s + 1 => z_max (z_most l P s) (z_al l P s 10)
def sp_mostAlike (Ga : pm_Ga) : Prop := ∀ (l : Int32) (t : Nat) (P : Nat → Int32) (D : pm_Mem) (post : pm_Post), t < 41 → (∀ s, s < 10 → z_bit l s = true → D (57 + s) t = P s) → post (some (.int (z_most l P 10))) D → Ga 87 [.ref 40, .int l, .int (nI t)] D post
set_option maxHeartbeats 4000000 in
theorem t_mostAlike {N : Nat} {Ga : pm_Ga} : sp_mostAlike (pm_up N Ga) := by
  intro l t P D post ht hP h
  have vt : vp_in (nI t) 41 := vp_in_nI ht (by decide)
  have ct : (nI t).toNatClampNeg = t := nI_clamp (by omega)
  refine ⟨rfl, fun X hX => ?_⟩
  replace hX : ∀ pc L st D, pm_F N Ga tbX4_mostAlike (some .int) post X pc L st D → X pc L st D := hX
  change X 0 [some (.ref 40), some (.int l), some (.int (nI t)), none, none, none, none] [] D
  iterate 4 (refine hX _ _ _ _ ?_; conv => whnf)
  have loop : ∀ (m s : Nat) (l5 l6 : Option Value), s + m = 10 → X 5 [some (.ref 40), some (.int l), some (.int (nI t)), some (.int (z_most l P s)), some (.int (nI s)), l5, l6] [] D := by
    intro m
    induction m with
    | zero =>
      intro s l5 l6 hs
      have hs : s = 10 := by omega
      subst hs
      repeat (refine hX _ _ _ _ ?_; conv => whnf)
      refine ⟨fun _ => ?_, fun h => absurd h (by decide)⟩
      repeat (refine hX _ _ _ _ ?_; conv => whnf)
      exact h
    | succ m ih =>
      intro s l5 l6 hs
      have vs : vp_in (nI s) 10 := vp_in_nI (by omega) (by decide)
      have cs : (nI s).toNatClampNeg = s := nI_clamp (by omega)
      repeat (refine hX _ _ _ _ ?_; conv => whnf)
      refine ⟨fun q => absurd q (nI_ge (b := 10) (by omega) (by omega)), fun _ => ?_⟩
      iterate 4 (refine hX _ _ _ _ ?_; conv => whnf)
      have inner : ∀ (mm o : Nat), o + mm = 10 → X 18 [some (.ref 40), some (.int l), some (.int (nI t)), some (.int (z_most l P s)), some (.int (nI s)), some (.int (z_al l P s o)), some (.int (nI o))] [] D := by
        intro mm
        induction mm with
        | zero =>
          intro o ho
          have ho : o = 10 := by omega
          subst ho
          repeat (refine hX _ _ _ _ ?_; conv => whnf)
          refine ⟨fun _ => ?_, fun h => absurd h (by decide)⟩
          iterate 6 (refine hX _ _ _ _ ?_; conv => whnf)
          rw [nI_1]
          exact ih (s + 1) _ _ (by omega)
        | succ mm ihi =>
          intro o ho
          have vo : vp_in (nI o) 10 := vp_in_nI (by omega) (by decide)
          have co : (nI o).toNatClampNeg = o := nI_clamp (by omega)
          have ih2 := ihi (o + 1) (by omega)
          have ez : z_al l P s (o + 1) = if (z_bit l s && (z_bit l o && decide (P s = P o))) = true then z_al l P s o + 1 else z_al l P s o := rfl
          rw [ez] at ih2
          repeat (refine hX _ _ _ _ ?_; conv => whnf)
          refine ⟨fun q => absurd q (nI_ge (b := 10) (by omega) (by omega)), fun _ => ?_⟩
          repeat (refine hX _ _ _ _ ?_; conv => whnf)
          refine ⟨fun q => ?_, fun q => ?_⟩
          · have hf : (z_bit l s && (z_bit l o && decide (P s = P o))) = false := by
              cases u1 : z_bit l s with
              | false => rfl
              | true =>
                cases u2 : z_bit l o with
                | false => rfl
                | true => exact absurd ((z_low2 _ _).mpr ⟨of_decide_eq_true u1, of_decide_eq_true u2⟩) q
            rw [hf, if_neg (by decide)] at ih2
            iterate 2 (refine hX _ _ _ _ ?_; conv => whnf)
            rw [nI_1]
            exact ih2
          · have qq := (z_low2 _ _).mp q
            have u1 : z_bit l s = true := decide_eq_true qq.1
            have u2 : z_bit l o = true := decide_eq_true qq.2
            rw [u1, u2, Bool.true_and, Bool.true_and] at ih2
            repeat (refine hX _ _ _ _ ?_; conv => whnf)
            refine ⟨vs, ?_⟩
            rw [cs]
            iterate 1 (refine hX _ _ _ _ ?_; conv => whnf)
            iterate 1 (refine hX _ _ _ _ ?_; conv => whnf)
            change (match pm_sh N (57 + s) with | (0, n, _) => vp_in (nI t) n ∧ X 49 [some (.ref 40), some (.int l), some (.int (nI t)), some (.int (z_most l P s)), some (.int (nI s)), some (.int (z_al l P s o)), some (.int (nI o))] [.int (D (57 + s) (nI t).toNatClampNeg)] D | _ => False)
            rw [z_row57 (by omega)]
            refine ⟨vt, ?_⟩
            rw [ct, hP s (by omega) u1]
            repeat (refine hX _ _ _ _ ?_; conv => whnf)
            refine ⟨vo, ?_⟩
            rw [co]
            iterate 1 (refine hX _ _ _ _ ?_; conv => whnf)
            iterate 1 (refine hX _ _ _ _ ?_; conv => whnf)
            change (match pm_sh N (57 + o) with | (0, n, _) => vp_in (nI t) n ∧ X 58 [some (.ref 40), some (.int l), some (.int (nI t)), some (.int (z_most l P s)), some (.int (nI s)), some (.int (z_al l P s o)), some (.int (nI o))] [.int (D (57 + o) (nI t).toNatClampNeg), .int (P s)] D | _ => False)
            rw [z_row57 (by omega)]
            refine ⟨vt, ?_⟩
            rw [ct, hP o (by omega) u2]
            repeat (refine hX _ _ _ _ ?_; conv => whnf)
            refine ⟨fun w => ?_, fun w => ?_⟩
            · rw [if_neg (fun y => w (of_decide_eq_true y))] at ih2
              iterate 2 (refine hX _ _ _ _ ?_; conv => whnf)
              rw [nI_1]
              exact ih2
            · rw [if_pos (decide_eq_true w)] at ih2
              iterate 3 (refine hX _ _ _ _ ?_; conv => whnf)
              rw [nI_1]
              exact ih2
      exact inner 10 0 (by omega)
  exact loop 10 0 _ _ (by omega)
