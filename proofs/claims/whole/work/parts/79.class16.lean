/-! ===== luck, mean: what is meant; the class ===== -/
def z_ms (g : z_P) (l : Int32) : Nat → z_P
  | 0 => g
  | i + 1 => z_move (if z_bit l i = true then z_ms g l i else z_plan (z_ms g l i))
theorem z_G.ms {T : Int} {g : z_P} (h : z_G T g) (l : Int32) : ∀ m : Nat, T + m < 2147483647 → z_G (T + m) (z_ms g l m) ∧ z_n (z_ms g l m) = z_n g
  | 0, _ => ⟨by rw [show T + ((0 : Nat) : Int) = T by omega]; exact h, rfl⟩
  | m + 1, hT => by
    obtain ⟨k1, k2⟩ := h.ms l m (by omega)
    obtain ⟨j1, j2, j3⟩ := k1.plan
    have e : z_ms g l (m + 1) = z_move (if z_bit l m = true then z_ms g l m else z_plan (z_ms g l m)) := rfl
    rw [e, show T + ((m + 1 : Nat) : Int) = T + m + 1 by omega]
    split
    · exact ⟨k1.move (by omega), (z_move_n k1.2.1).trans k2⟩
    · exact ⟨j1.move (by omega), ((z_move_n j1.2.1).trans j2).trans k2⟩
def z_su (f : Nat → Int64) : Nat → Int64
  | 0 => 0
  | m + 1 => z_su f m + f m
theorem z_su_in {f : Nat → Int64} (hf : ∀ m, m < 256 → l_in (f m) 30000000000) : ∀ m, m ≤ 256 → l_in (z_su f m) (m * 30000000000)
  | 0, _ => ⟨0, show (0 : Int64).toInt = 0 by decide, by decide⟩
  | m + 1, hm => by
    rw [Nat.add_mul, Nat.one_mul]
    exact l_in_add (z_su_in hf m (by omega)) (hf m (by omega)) (by omega)
def z_lk (g : z_P) (v e : Int32) (n m : Nat) : Int64 := z_wt v (nI m) n * (if e ≤ z_last (z_ms g (nI m) n) then 1 else 0)
def z_mn (g : z_P) (v : Int32) (n m : Nat) : Int64 := z_wt v (nI m) n * (z_sw g (z_ms g (nI m) n)).toInt64
theorem z_lk_in {v : Int32} (hv : z_in v 0 10) (g : z_P) (e : Int32) {n : Nat} (hn : n ≤ 8) (m : Nat) : l_in (z_lk g v e n m) 30000000000 := by
  have h1 : 10 ^ n ≤ 10 ^ 8 := Nat.pow_le_pow_right (by omega) hn
  have h2 := l_in_mul (B := 300) (y := if e ≤ z_last (z_ms g (nI m) n) then 1 else 0) (l_in_mono (z_wt_in hv (nI m) n hn) h1) (by split; exact ⟨1, by decide, by decide⟩; exact ⟨0, by decide, by decide⟩) (by decide)
  exact l_in_mono h2 (by decide)
theorem z_mn_in {v : Int32} (hv : z_in v 0 10) {g : z_P} (hG : z_G 9999 g) {n : Nat} (hn : n ≤ 8) (m : Nat) : l_in (z_mn g v n m) 30000000000 := by
  have h1 : 10 ^ n ≤ 10 ^ 8 := Nat.pow_le_pow_right (by omega) hn
  have h3 := z_sw_in hG (hG.ms (nI m) n (by omega)).1
  have h2 := l_in_mul (B := 300) (y := (z_sw g (z_ms g (nI m) n)).toInt64) (l_in_mono (z_wt_in hv (nI m) n hn) h1) ⟨(z_sw g (z_ms g (nI m) n)).toInt.toNat, by rw [z_64]; have := h3.1; omega, by have := h3.2; omega⟩ (by decide)
  exact l_in_mono h2 (by decide)
theorem l_in_0 {x : Int64} {A : Nat} (h : l_in x A) : 0 ≤ x.toInt := by
  obtain ⟨a, a1, a2⟩ := h
  omega
def r_luck (z : z_Z) (v e n w : Int32) : Int64 × z_Z := (if (z_ib v 0 10 && (z_ib e 0 300 && (z_ib n 0 8 && z_ib w 0 1))) = true then (if z_n (zG z) = 0 then -2 else z_fr (z_su (z_lk (zG z) v e (z_nt n)) (2 ^ z_nt n)) (z_pw 10 (z_nt n)) w) else -1, z)
def r_mean (z : z_Z) (v n w : Int32) : Int64 × z_Z := (if (z_ib v 0 10 && (z_ib n 0 8 && z_ib w 0 1)) = true then z_fr (z_su (z_mn (zG z) v (z_nt n)) (2 ^ z_nt n)) (z_pw 10 (z_nt n)) w else -1, z)
def cPL (D : pm_Mem) (q : Int64 × z_Z) (post : pm_Post) : Prop := ∀ D', CR D' q.2 → (∀ r, 67 ≤ r → D' r = D r) → post (some (.long q.1)) D'
def mPL (D : pm_Mem) (q : Int64 × z_Z) (post : pm_Post) : Prop := ∀ D', MR D' q.2 → (∀ r, (r < 67 ∨ 80 ≤ r) → D' r = D r) → post (some (.long q.1)) D'
def csl3 (Ga : pm_Ga) (j : Nat) (f : z_Z → Int32 → Int32 → Int32 → Int64 × z_Z) : Prop := ∀ z a b c D post, zOk z → CR D z → cPL D (f z a b c) post → Ga j [.ref 40, .int a, .int b, .int c] D post
def csl4 (Ga : pm_Ga) (j : Nat) (f : z_Z → Int32 → Int32 → Int32 → Int32 → Int64 × z_Z) : Prop := ∀ z a b c d D post, zOk z → CR D z → cPL D (f z a b c d) post → Ga j [.ref 40, .int a, .int b, .int c, .int d] D post
def msl3 (Ga : pm_Ga) (j : Nat) (f : z_Z → Int32 → Int32 → Int32 → Int64 × z_Z) : Prop := ∀ z a b c D post, zOk z → MR D z → mPL D (f z a b c) post → Ga j [.ref 67, .int a, .int b, .int c] D post
def msl4 (Ga : pm_Ga) (j : Nat) (f : z_Z → Int32 → Int32 → Int32 → Int32 → Int64 × z_Z) : Prop := ∀ z a b c d D post, zOk z → MR D z → mPL D (f z a b c d) post → Ga j [.ref 67, .int a, .int b, .int c, .int d] D post
theorem z_and1 (x : Int32) : x &&& 1 = 0 ∨ x &&& 1 = 1 := by
  have h1 : (x &&& 1).toBitVec.toNat ≤ 1 := by
    rw [Int32.toBitVec_and, BitVec.toNat_and]
    exact Nat.and_le_right
  have h2 : (x &&& 1).toInt = ((x &&& 1).toBitVec.toNat : Int) := BitVec.toInt_eq_toNat_of_lt (by omega)
  rw [z_eq, z_eq, h2]
  show ((x &&& 1).toBitVec.toNat : Int) = 0 ∨ ((x &&& 1).toBitVec.toNat : Int) = 1
  omega
def sp_runMissing (Ga : pm_Ga) : Prop := ∀ (l : Int32) (n : Nat) (g : z_P) (D : pm_Mem) (post : pm_Post), n ≤ 8 → z_G 9999 g → z_R D 0 g → (∀ D', z_R D' 10 (z_ms g l n) → z_F 10 D D' → post none D') → Ga 75 [.ref 40, .int l, .int (nI n)] D post
set_option maxHeartbeats 2000000 in
theorem t_runMissing {N : Nat} {Ga : pm_Ga} (hbl : sp_becomeLike Ga) (hkp : sp_knockByPlan Ga) (hmo : sp_move Ga) : sp_runMissing (pm_up N Ga) := by
  intro l n g D post hn hG hR h
  refine ⟨rfl, fun X hX => ?_⟩
  replace hX : ∀ pc L st D, pm_F N Ga tbX4_runMissing none post X pc L st D → X pc L st D := hX
  change X 0 [some (.ref 40), some (.int l), some (.int (nI n)), none] [] D
  repeat (refine hX _ _ _ _ ?_; conv => whnf)
  refine hbl 10 0 D _ (Or.inl ⟨rfl, rfl⟩) (fun D1 f1 f2 f3 f4 => ?_)
  have hR1 := z_like hG hR f1
  iterate 2 (refine hX _ _ _ _ ?_; conv => whnf)
  have loop : ∀ (m i : Nat) (D2 : pm_Mem), i + m = n → z_R D2 10 (z_ms g l i) → z_F 10 D D2 → X 13 [some (.ref 40), some (.int l), some (.int (nI n)), some (.int (nI i))] [] D2 := by
    intro m
    induction m with
    | zero =>
      intro i D2 hi a1 a2
      have hi : i = n := by omega
      subst hi
      repeat (refine hX _ _ _ _ ?_; conv => whnf)
      refine ⟨fun _ => ?_, fun q => absurd (nI_le (Nat.le_refl _) (by omega)) q⟩
      repeat (refine hX _ _ _ _ ?_; conv => whnf)
      exact h D2 a1 a2
    | succ m ih =>
      intro i D2 hi a1 a2
      obtain ⟨k1, k2⟩ := hG.ms l i (by omega)
      have e : z_ms g l (i + 1) = z_move (if z_bit l i = true then z_ms g l i else z_plan (z_ms g l i)) := rfl
      repeat (refine hX _ _ _ _ ?_; conv => whnf)
      refine ⟨fun q => absurd q (nI_ge (by omega) (by omega)), fun _ => ?_⟩
      repeat (refine hX _ _ _ _ ?_; conv => whnf)
      refine ⟨fun q => ?_, fun q => ?_⟩
      · have hb : z_bit l i = true := decide_eq_true ((z_and1 _).resolve_left q)
        rw [if_pos hb] at e
        repeat (refine hX _ _ _ _ ?_; conv => whnf)
        refine hmo 10 _ D2 _ (9999 + i) (by decide) k1 a1 (fun D4 c1 c2 _ _ _ _ => ?_)
        iterate 2 (refine hX _ _ _ _ ?_; conv => whnf)
        rw [nI_1]
        exact ih (i + 1) D4 (by omega) (by rw [e]; exact c1) (fun r hr => by rw [c2 r hr]; exact a2 r hr)
      · have hb : ¬ z_bit l i = true := by
          unfold z_bit
          rw [q]
          decide
        rw [if_neg hb] at e
        repeat (refine hX _ _ _ _ ?_; conv => whnf)
        refine hkp 10 _ D2 _ (9999 + i) (by omega) (by decide) k1 a1 (fun D3 b1 b2 => ?_)
        obtain ⟨j1, j2, j3⟩ := k1.plan
        repeat (refine hX _ _ _ _ ?_; conv => whnf)
        refine hmo 10 _ D3 _ (9999 + i) (by decide) j1 b1 (fun D4 c1 c2 _ _ _ _ => ?_)
        iterate 2 (refine hX _ _ _ _ ?_; conv => whnf)
        rw [nI_1]
        exact ih (i + 1) D4 (by omega) (by rw [e]; exact c1) (fun r hr => by rw [c2 r hr, b2 r (by omega)]; exact a2 r hr)
  exact loop n 0 D1 (by omega) hR1 f2
theorem l_mul1 (x : Int64) : x * 1 = x := Int64.mul_one x
theorem l_mul0 (x : Int64) : x * 0 = 0 := Int64.mul_zero
theorem l_add0 (x : Int64) : x + 0 = x := Int64.add_zero x
set_option maxHeartbeats 4000000 in
theorem t_c_luck {N : Nat} {Ga : pm_Ga} (hwi : sp_within Ga) (hrm : sp_runMissing Ga) (hla : sp_lastPlace Ga) (hwt : sp_weightOf Ga) (hpw : sp_power Ga) (hpf : sp_partOfFraction Ga) : csl4 (pm_up N Ga) 73 r_luck := by
  intro z v e n w D post hz hC h
  have h1 : z_R D 0 (zG z) := hC.1
  have hG := hz.1
  obtain ⟨g1, g2, g3, g4, g5, g6, g7, g8⟩ := hz.1
  unfold r_luck at h
  refine ⟨rfl, fun X hX => ?_⟩
  replace hX : ∀ pc L st D, pm_F N Ga tbX4_luck (some .long) post X pc L st D → X pc L st D := hX
  change X 0 [some (.ref 40), some (.int v), some (.int e), some (.int n), some (.int w), none, none, none] [] D
  repeat (refine hX _ _ _ _ ?_; conv => whnf)
  refine w_ib hwi 0 10 rfl rfl (fun q1 => ?_) (fun q1 => ?_)
  · repeat (refine hX _ _ _ _ ?_; conv => whnf)
    refine ⟨fun h => absurd h (by decide), fun _ => ?_⟩
    repeat (refine hX _ _ _ _ ?_; conv => whnf)
    refine w_ib hwi 0 300 rfl rfl (fun q2 => ?_) (fun q2 => ?_)
    · repeat (refine hX _ _ _ _ ?_; conv => whnf)
      refine ⟨fun h => absurd h (by decide), fun _ => ?_⟩
      repeat (refine hX _ _ _ _ ?_; conv => whnf)
      refine w_ib hwi 0 8 rfl rfl (fun q3 => ?_) (fun q3 => ?_)
      · obtain ⟨e1, e2, e3, e4⟩ := z_ib_of q3 (by decide) (by decide)
        have hn8 : z_nt n ≤ 8 := by omega
        have hv := z_ib_iff.mp q1
        repeat (refine hX _ _ _ _ ?_; conv => whnf)
        refine ⟨fun h => absurd h (by decide), fun _ => ?_⟩
        repeat (refine hX _ _ _ _ ?_; conv => whnf)
        refine w_ib hwi 0 1 rfl rfl (fun q4 => ?_) (fun q4 => ?_)
        · rw [if_pos (by rw [q1, q2, q3, q4]; rfl)] at h
          repeat (refine hX _ _ _ _ ?_; conv => whnf)
          refine ⟨fun _ => ?_, fun h => absurd h (by decide)⟩
          repeat (refine hX _ _ _ _ ?_; conv => whnf)
          rw [h1.1]
          refine ⟨fun q0 => ?_, fun q0 => ?_⟩
          · have hn0 : z_n (zG z) ≠ 0 := fun y => q0 (by rw [g1, y]; rfl)
            rw [if_neg hn0] at h
            rw [e1]
            iterate 4 (refine hX _ _ _ _ ?_; conv => whnf)
            have h256 : 2 ^ z_nt n ≤ 256 := Nat.pow_le_pow_right (n := 2) (by omega) hn8
            have loop : ∀ (k m : Nat) (D2 : pm_Mem), m + k = 2 ^ z_nt n → z_F 10 D D2 → X 65 [some (.ref 40), some (.int v), some (.int e), some (.int (nI (z_nt n))), some (.int w), some (.long (z_su (z_lk (zG z) v e (z_nt n)) m)), none, some (.int (nI m))] [] D2 := by
              intro k
              induction k with
              | zero =>
                intro m D2 hm a2
                have hm : m = 2 ^ z_nt n := by omega
                subst hm
                repeat (refine hX _ _ _ _ ?_; conv => whnf)
                rw [z_sh1 _ hn8]
                refine ⟨fun _ => ?_, fun q => absurd (nI_le (Nat.le_refl _) (by omega)) q⟩
                repeat (refine hX _ _ _ _ ?_; conv => whnf)
                refine hpw 10 (z_nt n) D2 _ hn8 ?_
                repeat (refine hX _ _ _ _ ?_; conv => whnf)
                have hs := z_su_in (fun m _ => z_lk_in hv (zG z) e hn8 m) _ h256
                have hp := z_p10 _ hn8
                refine hpf _ _ w D2 _ (l_in_0 hs) hp.1 hp.2 ?_
                repeat (refine hX _ _ _ _ ?_; conv => whnf)
                exact h D2 (hC.same (fun r hr _ => a2 r (by omega))) (fun r hr => a2 r (by omega))
              | succ k ih =>
                intro m D2 hm a2
                have hR2 : z_R D2 0 (zG z) := h1.same (fun r _ _ => a2 r (by omega))
                obtain ⟨k1, k2⟩ := hG.ms (nI m) (z_nt n) (by omega)
                have es : z_su (z_lk (zG z) v e (z_nt n)) (m + 1) = z_su (z_lk (zG z) v e (z_nt n)) m + z_wt v (nI m) (z_nt n) * (if e ≤ z_last (z_ms (zG z) (nI m) (z_nt n)) then 1 else 0) := rfl
                repeat (refine hX _ _ _ _ ?_; conv => whnf)
                rw [z_sh1 _ hn8]
                refine ⟨fun q => absurd q (nI_ge (by omega) (by omega)), fun _ => ?_⟩
                repeat (refine hX _ _ _ _ ?_; conv => whnf)
                refine hrm (nI m) (z_nt n) (zG z) D2 _ hn8 hG hR2 (fun D3 b1 b2 => ?_)
                have a3 : z_F 10 D D3 := fun r hr => by rw [b2 r hr]; exact a2 r hr
                repeat (refine hX _ _ _ _ ?_; conv => whnf)
                refine hla 10 (z_n (zG z)) D3 _ (by decide) (by rw [b1.1, k1.1, k2]) g2 ?_
                have hl := z_R_last b1
                rw [k2] at hl
                rw [hl]
                repeat (refine hX _ _ _ _ ?_; conv => whnf)
                refine ⟨fun q => ?_, fun q => ?_⟩
                · rw [if_neg (by rw [z_le]; have := z_lt.mp q; omega), l_mul0, l_add0] at es
                  iterate 2 (refine hX _ _ _ _ ?_; conv => whnf)
                  rw [nI_1, ← es]
                  exact ih (m + 1) D3 (by omega) a3
                · have q' : ¬ (z_last (z_ms (zG z) (nI m) (z_nt n))).toInt < e.toInt := fun y => q (z_lt.mpr y)
                  rw [if_pos (by rw [z_le]; omega), l_mul1] at es
                  repeat (refine hX _ _ _ _ ?_; conv => whnf)
                  refine hwt v m (z_nt n) D3 _ hn8 (by omega) ?_
                  iterate 4 (refine hX _ _ _ _ ?_; conv => whnf)
                  rw [nI_1, ← es]
                  exact ih (m + 1) D3 (by omega) a3
            exact loop (2 ^ z_nt n) 0 D (by omega) (fun _ _ => rfl)
          · have hn0 : z_n (zG z) = 0 := by
              show (zG z 24).toNatClampNeg = 0
              rw [q0]
              rfl
            rw [if_pos hn0] at h
            repeat (refine hX _ _ _ _ ?_; conv => whnf)
            exact h D hC (fun _ _ => rfl)
        · rw [if_neg (by rw [q1, q2, q3, q4]; decide)] at h
          repeat (refine hX _ _ _ _ ?_; conv => whnf)
          refine ⟨fun h => absurd h (by decide), fun _ => ?_⟩
          repeat (refine hX _ _ _ _ ?_; conv => whnf)
          exact h D hC (fun _ _ => rfl)
      · rw [if_neg (by rw [q1, q2, q3]; simp)] at h
        repeat (refine hX _ _ _ _ ?_; conv => whnf)
        refine ⟨fun _ => ?_, fun h => absurd h (by decide)⟩
        repeat (refine hX _ _ _ _ ?_; conv => whnf)
        exact h D hC (fun _ _ => rfl)
    · rw [if_neg (by rw [q1, q2]; simp)] at h
      repeat (refine hX _ _ _ _ ?_; conv => whnf)
      refine ⟨fun _ => ?_, fun h => absurd h (by decide)⟩
      repeat (refine hX _ _ _ _ ?_; conv => whnf)
      exact h D hC (fun _ _ => rfl)
  · rw [if_neg (by rw [q1]; simp)] at h
    repeat (refine hX _ _ _ _ ?_; conv => whnf)
    refine ⟨fun _ => ?_, fun h => absurd h (by decide)⟩
    repeat (refine hX _ _ _ _ ?_; conv => whnf)
    exact h D hC (fun _ _ => rfl)
set_option maxHeartbeats 4000000 in
theorem t_c_mean {N : Nat} {Ga : pm_Ga} (hwi : sp_within Ga) (hrm : sp_runMissing Ga) (hla : sp_lastPlace Ga) (hwt : sp_weightOf Ga) (hpw : sp_power Ga) (hpf : sp_partOfFraction Ga) : csl3 (pm_up N Ga) 74 r_mean := by
  intro z v n w D post hz hC h
  have h1 : z_R D 0 (zG z) := hC.1
  have hG := hz.1
  obtain ⟨g1, g2, g3, g4, g5, g6, g7, g8⟩ := hz.1
  unfold r_mean at h
  refine ⟨rfl, fun X hX => ?_⟩
  replace hX : ∀ pc L st D, pm_F N Ga tbX4_mean (some .long) post X pc L st D → X pc L st D := hX
  change X 0 [some (.ref 40), some (.int v), some (.int n), some (.int w), none, none, none] [] D
  repeat (refine hX _ _ _ _ ?_; conv => whnf)
  refine w_ib hwi 0 10 rfl rfl (fun q1 => ?_) (fun q1 => ?_)
  · repeat (refine hX _ _ _ _ ?_; conv => whnf)
    refine ⟨fun h => absurd h (by decide), fun _ => ?_⟩
    repeat (refine hX _ _ _ _ ?_; conv => whnf)
    refine w_ib hwi 0 8 rfl rfl (fun q3 => ?_) (fun q3 => ?_)
    · obtain ⟨e1, e2, e3, e4⟩ := z_ib_of q3 (by decide) (by decide)
      have hn8 : z_nt n ≤ 8 := by omega
      have hv := z_ib_iff.mp q1
      repeat (refine hX _ _ _ _ ?_; conv => whnf)
      refine ⟨fun h => absurd h (by decide), fun _ => ?_⟩
      repeat (refine hX _ _ _ _ ?_; conv => whnf)
      refine w_ib hwi 0 1 rfl rfl (fun q4 => ?_) (fun q4 => ?_)
      · rw [if_pos (by rw [q1, q3, q4]; rfl)] at h
        repeat (refine hX _ _ _ _ ?_; conv => whnf)
        refine ⟨fun _ => ?_, fun h => absurd h (by decide)⟩
        rw [e1]
        iterate 4 (refine hX _ _ _ _ ?_; conv => whnf)
        have h256 : 2 ^ z_nt n ≤ 256 := Nat.pow_le_pow_right (n := 2) (by omega) hn8
        have loop : ∀ (k m : Nat) (D2 : pm_Mem), m + k = 2 ^ z_nt n → z_F 10 D D2 → X 39 [some (.ref 40), some (.int v), some (.int (nI (z_nt n))), some (.int w), some (.long (z_su (z_mn (zG z) v (z_nt n)) m)), none, some (.int (nI m))] [] D2 := by
          intro k
          induction k with
          | zero =>
            intro m D2 hm a2
            have hm : m = 2 ^ z_nt n := by omega
            subst hm
            repeat (refine hX _ _ _ _ ?_; conv => whnf)
            rw [z_sh1 _ hn8]
            refine ⟨fun _ => ?_, fun q => absurd (nI_le (Nat.le_refl _) (by omega)) q⟩
            repeat (refine hX _ _ _ _ ?_; conv => whnf)
            refine hpw 10 (z_nt n) D2 _ hn8 ?_
            repeat (refine hX _ _ _ _ ?_; conv => whnf)
            have hs := z_su_in (fun m _ => z_mn_in hv hG hn8 m) _ h256
            have hp := z_p10 _ hn8
            refine hpf _ _ w D2 _ (l_in_0 hs) hp.1 hp.2 ?_
            repeat (refine hX _ _ _ _ ?_; conv => whnf)
            exact h D2 (hC.same (fun r hr _ => a2 r (by omega))) (fun r hr => a2 r (by omega))
          | succ k ih =>
            intro m D2 hm a2
            have hR2 : z_R D2 0 (zG z) := h1.same (fun r _ _ => a2 r (by omega))
            obtain ⟨k1, k2⟩ := hG.ms (nI m) (z_nt n) (by omega)
            repeat (refine hX _ _ _ _ ?_; conv => whnf)
            rw [z_sh1 _ hn8]
            refine ⟨fun q => absurd q (nI_ge (by omega) (by omega)), fun _ => ?_⟩
            repeat (refine hX _ _ _ _ ?_; conv => whnf)
            refine hrm (nI m) (z_nt n) (zG z) D2 _ hn8 hG hR2 (fun D3 b1 b2 => ?_)
            have a3 : z_F 10 D D3 := fun r hr => by rw [b2 r hr]; exact a2 r hr
            have hR3 : z_R D3 0 (zG z) := h1.same (fun r _ _ => a3 r (by omega))
            repeat (refine hX _ _ _ _ ?_; conv => whnf)
            refine hwt v m (z_nt n) D3 _ hn8 (by omega) ?_
            repeat (refine hX _ _ _ _ ?_; conv => whnf)
            refine hla 10 (z_n (zG z)) D3 _ (by decide) (by rw [b1.1, k1.1, k2]) g2 ?_
            have hl := z_R_last b1
            rw [k2] at hl
            rw [hl]
            repeat (refine hX _ _ _ _ ?_; conv => whnf)
            refine hla 0 (z_n (zG z)) D3 _ (by decide) (by rw [hR3.1]; exact g1) g2 ?_
            rw [z_R_last hR3]
            iterate 8 (refine hX _ _ _ _ ?_; conv => whnf)
            rw [nI_1]
            exact ih (m + 1) D3 (by omega) a3
        exact loop (2 ^ z_nt n) 0 D (by omega) (fun _ _ => rfl)
      · rw [if_neg (by rw [q1, q3, q4]; decide)] at h
        repeat (refine hX _ _ _ _ ?_; conv => whnf)
        refine ⟨fun h => absurd h (by decide), fun _ => ?_⟩
        repeat (refine hX _ _ _ _ ?_; conv => whnf)
        exact h D hC (fun _ _ => rfl)
    · rw [if_neg (by rw [q1, q3]; simp)] at h
      repeat (refine hX _ _ _ _ ?_; conv => whnf)
      refine ⟨fun _ => ?_, fun h => absurd h (by decide)⟩
      repeat (refine hX _ _ _ _ ?_; conv => whnf)
      exact h D hC (fun _ _ => rfl)
  · rw [if_neg (by rw [q1]; simp)] at h
    repeat (refine hX _ _ _ _ ?_; conv => whnf)
    refine ⟨fun _ => ?_, fun h => absurd h (by decide)⟩
    repeat (refine hX _ _ _ _ ?_; conv => whnf)
    exact h D hC (fun _ _ => rfl)
