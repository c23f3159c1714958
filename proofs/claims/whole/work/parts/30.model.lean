/-! ===== the reference's pages ===== -/
def z_M (D : pm_Mem) (p : Nat) (g : z_P) : Prop := ∀ k, k < 52 → D 68 (p + k) = g k
/-- nothing but page p has changed -/
def z_MF (p : Nat) (D D' : pm_Mem) : Prop := (∀ r, r ≠ 68 → D' r = D r) ∧ ∀ k, (k < p ∨ p + 52 ≤ k) → D' 68 k = D 68 k
theorem z_ix (p k b : Nat) (K : Int32) (hK : K = nI k) : nI p + K + nI b = nI (p + (k + b)) := by
  rw [hK, nI_add, nI_add, Nat.add_assoc]
theorem z_ix1 (p k : Nat) (K : Int32) (hK : K = nI k) : nI p + K = nI (p + k) := by
  rw [hK, nI_add]
theorem z_cmp_lt (x y : Int64) : lg_cmp x y < 0 ↔ x.toInt < y.toInt := by
  unfold lg_cmp
  by_cases h1 : x > y
  · rw [if_pos h1]
    have h2 : y.toInt < x.toInt := Int64.lt_iff_toInt_lt.mp h1
    exact ⟨fun z => absurd z (by decide), fun z => by omega⟩
  · rw [if_neg h1]
    have h2 : ¬ y.toInt < x.toInt := fun z => h1 (Int64.lt_iff_toInt_lt.mpr z)
    by_cases h3 : x = y
    · rw [if_pos h3, h3]
      exact ⟨fun z => absurd z (by decide), fun z => by omega⟩
    · rw [if_neg h3]
      have h4 : x.toInt ≠ y.toInt := fun z => h3 (Int64.toInt_inj.mp z)
      exact ⟨fun _ => by omega, fun _ => by decide⟩
theorem z_cmp_gt (x y : Int64) : 0 < lg_cmp x y ↔ y.toInt < x.toInt := by
  unfold lg_cmp
  by_cases h1 : x > y
  · rw [if_pos h1]
    have h2 : y.toInt < x.toInt := Int64.lt_iff_toInt_lt.mp h1
    exact ⟨fun _ => h2, fun _ => by decide⟩
  · rw [if_neg h1]
    have h2 : ¬ y.toInt < x.toInt := fun z => h1 (Int64.lt_iff_toInt_lt.mpr z)
    by_cases h3 : x = y
    · rw [if_pos h3, h3]
      exact ⟨fun z => absurd z (by decide), fun z => by omega⟩
    · rw [if_neg h3]
      exact ⟨fun z => absurd z (by decide), fun z => absurd z h2⟩
theorem z_64 (x : Int32) : x.toInt64.toInt = x.toInt := Int32.toInt_toInt64 x
def sp_in (Ga : pm_Ga) : Prop := ∀ (v a b : Int64) (D : pm_Mem) (post : pm_Post), (a.toInt ≤ v.toInt → v.toInt ≤ b.toInt → post (some (.int 1)) D) → (¬ (a.toInt ≤ v.toInt ∧ v.toInt ≤ b.toInt) → post (some (.int 0)) D) → Ga 98 [.long v, .long a, .long b] D post
set_option maxHeartbeats 2000000 in
theorem t_in {N : Nat} {Ga : pm_Ga} : sp_in (pm_up N Ga) := by
  intro v a b D post h1 h0
  refine ⟨rfl, fun X hX => ?_⟩
  replace hX : ∀ pc L st D, pm_F N Ga tbX5_in (some .boolean) post X pc L st D → X pc L st D := hX
  change X 0 [some (.long v), none, some (.long a), none, some (.long b), none] [] D
  repeat (refine hX _ _ _ _ ?_; conv => whnf)
  rw [z_cmp_lt]
  refine ⟨fun q1 => ?_, fun q1 => ?_⟩
  · repeat (refine hX _ _ _ _ ?_; conv => whnf)
    exact ⟨Or.inl rfl, h0 (by omega)⟩
  · repeat (refine hX _ _ _ _ ?_; conv => whnf)
    rw [z_cmp_gt]
    refine ⟨fun q2 => ?_, fun q2 => ?_⟩
    · repeat (refine hX _ _ _ _ ?_; conv => whnf)
      exact ⟨Or.inl rfl, h0 (by omega)⟩
    · repeat (refine hX _ _ _ _ ?_; conv => whnf)
      exact ⟨Or.inr rfl, h1 (by omega) (by omega)⟩
def sp_amount (Ga : pm_Ga) : Prop := ∀ (v : Int32) (D : pm_Mem) (post : pm_Post), post (some (.int (z_abs v))) D → Ga 99 [.int v] D post
set_option maxHeartbeats 2000000 in
theorem t_amount {N : Nat} {Ga : pm_Ga} : sp_amount (pm_up N Ga) := by
  intro v D post h
  unfold z_abs pm_abs at h
  refine ⟨rfl, fun X hX => ?_⟩
  replace hX : ∀ pc L st D, pm_F N Ga tbX5_amount (some .int) post X pc L st D → X pc L st D := hX
  change X 0 [some (.int v)] [] D
  repeat (refine hX _ _ _ _ ?_; conv => whnf)
  refine ⟨fun q1 => ?_, fun q1 => ?_⟩
  · rw [if_pos q1] at h
    repeat (refine hX _ _ _ _ ?_; conv => whnf)
    exact h
  · rw [if_neg q1, Int32.zero_sub] at h
    repeat (refine hX _ _ _ _ ?_; conv => whnf)
    exact h
def sp_speedOf (Ga : pm_Ga) : Prop := ∀ (v : Int32) (D : pm_Mem) (post : pm_Post), post (some (.int (z_clamp v))) D → Ga 116 [.int v] D post
set_option maxHeartbeats 2000000 in
theorem t_speedOf {N : Nat} {Ga : pm_Ga} : sp_speedOf (pm_up N Ga) := by
  intro v D post h
  unfold z_clamp at h
  refine ⟨rfl, fun X hX => ?_⟩
  replace hX : ∀ pc L st D, pm_F N Ga tbX5_speedOf (some .int) post X pc L st D → X pc L st D := hX
  change X 0 [some (.int v)] [] D
  repeat (refine hX _ _ _ _ ?_; conv => whnf)
  refine ⟨fun q1 => ?_, fun q1 => ?_⟩
  · repeat (refine hX _ _ _ _ ?_; conv => whnf)
    refine ⟨fun q2 => ?_, fun q2 => ?_⟩
    · repeat (refine hX _ _ _ _ ?_; conv => whnf)
      rw [if_neg (by rw [z_le] at q1; rw [z_lt]; omega), if_neg (by rw [z_le] at q2; rw [z_lt]; omega)] at h
      exact h
    · repeat (refine hX _ _ _ _ ?_; conv => whnf)
      rw [if_neg (by rw [z_le] at q1; rw [z_lt]; omega), if_pos (by rw [z_le] at q2; rw [z_lt]; omega)] at h
      exact h
  · repeat (refine hX _ _ _ _ ?_; conv => whnf)
    rw [if_pos (by rw [z_le] at q1; rw [z_lt]; omega)] at h
    exact h
def sp_stretchOn (Ga : pm_Ga) : Prop := ∀ (p b : Nat) (g : z_P) (D : pm_Mem) (post : pm_Post), p ≤ 260 → b < 4 → z_M D p g → post (some (.int (z_st g b))) D → Ga 114 [.ref 67, .int (nI p), .int (nI b)] D post
set_option maxHeartbeats 2000000 in
theorem t_stretchOn {N : Nat} {Ga : pm_Ga} : sp_stretchOn (pm_up N Ga) := by
  intro p b g D post hp hb hM h
  have i16 := z_ix p 16 b 16 (by decide)
  have i4 := z_ix p 4 b 4 (by decide)
  unfold z_st at h
  refine ⟨rfl, fun X hX => ?_⟩
  replace hX : ∀ pc L st D, pm_F N Ga tbX5_stretchOn (some .int) post X pc L st D → X pc L st D := hX
  change X 0 [some (.ref 67), some (.int (nI p)), some (.int (nI b))] [] D
  repeat (refine hX _ _ _ _ ?_; conv => whnf)
  rw [i16]
  refine ⟨vp_in_nI (by omega) (by decide), ?_⟩
  rw [nI_clamp (by omega), hM _ (by omega)]
  repeat (refine hX _ _ _ _ ?_; conv => whnf)
  refine ⟨fun q1 => ?_, fun q1 => ?_⟩
  · have q1 : ¬ b = 0 := fun z => q1 (by rw [z]; rfl)
    rw [if_neg q1] at h
    repeat (refine hX _ _ _ _ ?_; conv => whnf)
    rw [i16, z_sub1 (by omega)]
    refine ⟨vp_in_nI (by omega) (by decide), ?_⟩
    rw [nI_clamp (by omega), show p + (16 + b) - 1 = p + (15 + b) by omega, hM _ (by omega)]
    repeat (refine hX _ _ _ _ ?_; conv => whnf)
    rw [i4]
    refine ⟨vp_in_nI (by omega) (by decide), ?_⟩
    rw [nI_clamp (by omega), hM _ (by omega)]
    repeat (refine hX _ _ _ _ ?_; conv => whnf)
    exact h
  · have q1 : b = 0 := by
      rw [z_eq, z_tI (by omega)] at q1
      have : (b : Int) = 0 := q1
      omega
    rw [if_pos q1] at h
    repeat (refine hX _ _ _ _ ?_; conv => whnf)
    rw [i4]
    refine ⟨vp_in_nI (by omega) (by decide), ?_⟩
    rw [nI_clamp (by omega), hM _ (by omega)]
    repeat (refine hX _ _ _ _ ?_; conv => whnf)
    exact h
def sp_pullOn (Ga : pm_Ga) : Prop := ∀ (p b : Nat) (g : z_P) (D : pm_Mem) (post : pm_Post), p ≤ 260 → b < 4 → z_M D p g → post (some (.int (z_pull g b))) D → Ga 115 [.ref 67, .int (nI p), .int (nI b)] D post
set_option maxHeartbeats 4000000 in
theorem t_pullOn {N : Nat} {Ga : pm_Ga} (hst : sp_stretchOn Ga) (hin : sp_in Ga) : sp_pullOn (pm_up N Ga) := by
  intro p b g D post hp hb hM h
  have i8 := z_ix p 8 b 8 (by decide)
  unfold z_pull at h
  have t0 : (0 : Int32).toInt = 0 := rfl
  have tm5 : (-5 : Int64).toInt = -5 := rfl
  have t5 : (5 : Int64).toInt = 5 := rfl
  have um5 : (-5 : Int32).toInt = -5 := rfl
  have u5 : (5 : Int32).toInt = 5 := rfl
  refine ⟨rfl, fun X hX => ?_⟩
  replace hX : ∀ pc L st D, pm_F N Ga tbX5_pullOn (some .int) post X pc L st D → X pc L st D := hX
  change X 0 [some (.ref 67), some (.int (nI p)), some (.int (nI b)), none, none, none] [] D
  have s73 : ∀ l5 : Option Value, ¬ ((g b = 1 ∧ z_st g b < 0) ∨ (g b = 2 ∧ 0 < z_st g b) ∨ (g b = 3 ∧ -5 ≤ z_st g b ∧ z_st g b ≤ 5)) → X 61 [some (.ref 67), some (.int (nI p)), some (.int (nI b)), some (.int (z_st g b)), some (.int (g b)), l5] [] D := by
    intro l5 q
    rw [if_neg q] at h
    repeat (refine hX _ _ _ _ ?_; conv => whnf)
    refine ⟨fun _ => ?_, fun h => absurd h (by decide)⟩
    repeat (refine hX _ _ _ _ ?_; conv => whnf)
    rw [i8]
    refine ⟨vp_in_nI (by omega) (by decide), ?_⟩
    rw [nI_clamp (by omega), hM _ (by omega)]
    repeat (refine hX _ _ _ _ ?_; conv => whnf)
    exact h
  have s57 : ∀ l5 : Option Value, ((g b = 1 ∧ z_st g b < 0) ∨ (g b = 2 ∧ 0 < z_st g b) ∨ (g b = 3 ∧ -5 ≤ z_st g b ∧ z_st g b ≤ 5)) → X 57 [some (.ref 67), some (.int (nI p)), some (.int (nI b)), some (.int (z_st g b)), some (.int (g b)), l5] [] D := by
    intro l5 q
    rw [if_pos q] at h
    repeat (refine hX _ _ _ _ ?_; conv => whnf)
    refine ⟨fun h => absurd h (by decide), fun _ => ?_⟩
    repeat (refine hX _ _ _ _ ?_; conv => whnf)
    exact h
  repeat (refine hX _ _ _ _ ?_; conv => whnf)
  refine hst p b g D _ hp hb hM ?_
  repeat (refine hX _ _ _ _ ?_; conv => whnf)
  rw [nI_add]
  refine ⟨vp_in_nI (by omega) (by decide), ?_⟩
  rw [nI_clamp (by omega), hM _ (by omega)]
  have s37 : ¬ (g b = 1 ∧ z_st g b < 0) → ¬ (g b = 2 ∧ 0 < z_st g b) → X 37 [some (.ref 67), some (.int (nI p)), some (.int (nI b)), some (.int (z_st g b)), some (.int (g b)), none] [] D := by
    intro n1 n2
    repeat (refine hX _ _ _ _ ?_; conv => whnf)
    refine ⟨fun q3 => ?_, fun q3 => ?_⟩
    · exact s73 none (fun z => z.elim n1 (fun z => z.elim n2 (fun z => q3 z.1)))
    · repeat (refine hX _ _ _ _ ?_; conv => whnf)
      refine hin _ _ _ _ _ (fun a1 a2 => ?_) (fun a1 => ?_)
      · repeat (refine hX _ _ _ _ ?_; conv => whnf)
        refine ⟨fun h => absurd h (by decide), fun _ => ?_⟩
        rw [z_64] at a1 a2
        exact s57 none (Or.inr (Or.inr ⟨q3, by rw [z_le]; omega, by rw [z_le]; omega⟩))
      · repeat (refine hX _ _ _ _ ?_; conv => whnf)
        refine ⟨fun _ => ?_, fun h => absurd h (by decide)⟩
        rw [z_64] at a1
        exact s73 none (fun z => z.elim n1 (fun z => z.elim n2 (fun z => a1 (by have z1 := z_le.mp z.2.1; have z2 := z_le.mp z.2.2; omega))))
  have s27 : ¬ (g b = 1 ∧ z_st g b < 0) → X 27 [some (.ref 67), some (.int (nI p)), some (.int (nI b)), some (.int (z_st g b)), some (.int (g b)), none] [] D := by
    intro n1
    repeat (refine hX _ _ _ _ ?_; conv => whnf)
    refine ⟨fun q1 => ?_, fun q1 => ?_⟩
    · exact s37 n1 (fun z => q1 z.1)
    · repeat (refine hX _ _ _ _ ?_; conv => whnf)
      refine ⟨fun q2 => ?_, fun q2 => ?_⟩
      · exact s57 none (Or.inr (Or.inl ⟨q1, q2⟩))
      · exact s37 n1 (fun z => q2 z.2)
  repeat (refine hX _ _ _ _ ?_; conv => whnf)
  refine ⟨fun q1 => ?_, fun q1 => ?_⟩
  · exact s27 (fun z => q1 z.1)
  · repeat (refine hX _ _ _ _ ?_; conv => whnf)
    refine ⟨fun q2 => ?_, fun q2 => ?_⟩
    · exact s57 none (Or.inl ⟨q1, q2⟩)
    · exact s27 (fun z => q2 z.2)
