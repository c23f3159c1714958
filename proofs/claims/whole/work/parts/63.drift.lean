/-! ===== drift ===== -/
def z_rnd (s : Int32) : Int32 := s * 1103515245 + 12345
def z_got (s : Int32) : Int32 := (s >>> ((16 : Int32) &&& 31)) &&& 32767
def z_rm (x y : Int32) : Int32 := x - x / y * y
def z_dh (n : Int32) (g : z_P) (s : Int32) : z_P := z_hit g (z_rm (z_got s) n) (z_rm (z_got s / 8) 19 - 9)
def z_ds (s : Int32) : Nat → Int32
  | 0 => s
  | m + 1 => z_rnd (z_ds s m)
def z_dr (n : Int32) (g : z_P) (s : Int32) : Nat → z_P
  | 0 => g
  | m + 1 => z_move (z_dh n (z_dr n g s m) (z_ds s (m + 1)))
def z_dw (n : Int32) (g : z_P) (s : Int32) : Nat → Int32
  | 0 => 0
  | m + 1 => z_max (z_dw n g s m) (z_abs (z_last (z_dr n g s (m + 1)) - z_last g))
def r_drift (z : z_Z) (s n w : Int32) : Int32 × z_Z := (if (z_ib n 1 200 && z_ib w 0 1) = true then (if z_n (zG z) = 0 then -2 else if w = 0 then z_dw (zG z 24) (zG z) s (z_nt n) else z_last (z_dr (zG z 24) (zG z) s (z_nt n))) else -1, z)
theorem z_G.dr {T : Int} {g : z_P} (h : z_G T g) (n s : Int32) : ∀ m : Nat, T + m < 2147483647 → z_G (T + m) (z_dr n g s m) ∧ z_n (z_dr n g s m) = z_n g ∧ z_k (z_dr n g s m) = z_k g
  | 0, _ => ⟨by rw [show T + ((0 : Nat) : Int) = T by omega]; exact h, rfl, rfl⟩
  | m + 1, hT => by
    obtain ⟨k1, k2, k3⟩ := h.dr n s m (by omega)
    obtain ⟨j1, j2, j3⟩ := k1.hit (z_rm (z_got (z_ds s (m + 1))) n) (z_rm (z_got (z_ds s (m + 1)) / 8) 19 - 9)
    have j4 := j1.move (by omega)
    refine ⟨?_, ?_, ?_⟩
    · rw [show T + ((m + 1 : Nat) : Int) = T + m + 1 by omega]
      exact j4
    · exact ((z_move_n j1.2.1).trans j2).trans k2
    · exact ((z_move_k j1.2.1).trans j3).trans k3
theorem z_got_u (s : Int32) : (s.toUInt32 >>> ((16 : Int32).toUInt32 &&& Int32.toUInt32 31)).toInt32 &&& 32767 = z_got s := by
  apply Int32.toBitVec_inj.mp
  unfold z_got
  have e : ((16 : Int32) &&& 31) = 16 := rfl
  have e2 : (16 : Int32).toBitVec.smod 32 = 16#32 := by decide
  rw [Int32.toBitVec_and, Int32.toBitVec_and, e, Int32.toBitVec_shiftRight, e2]
  show (s.toBitVec >>> 16) &&& 32767#32 = (s.toBitVec.sshiftRight 16) &&& 32767#32
  generalize s.toBitVec = x
  apply BitVec.eq_of_getLsbD_eq
  intro i hi
  rw [BitVec.getLsbD_and, BitVec.getLsbD_and, BitVec.getLsbD_sshiftRight, BitVec.getLsbD_ushiftRight]
  by_cases c : i < 15
  · have a1 : 16 + i < 32 := by omega
    have a2 : ¬ 32 ≤ i := by omega
    simp [a1, a2]
  · have k : ∀ j, j < 32 → 15 ≤ j → (32767#32).getLsbD j = false := by decide
    rw [k i hi (by omega), Bool.and_false, Bool.and_false]
theorem z_and_in (x : Int32) : z_in (x &&& 32767) 0 32767 := by
  have h1 : (x &&& 32767).toBitVec.toNat ≤ 32767 := by
    rw [Int32.toBitVec_and, BitVec.toNat_and]
    exact Nat.and_le_right
  have h2 : (x &&& 32767).toInt = ((x &&& 32767).toBitVec.toNat : Int) := BitVec.toInt_eq_toNat_of_lt (by omega)
  exact ⟨by omega, by omega⟩
theorem z_rem_in {x : Int32} {n : Nat} (h : z_in x 0 32767) (hn : 0 < n) (hn4 : n ≤ 4) : 0 ≤ z_rm x (nI n) := by
  obtain ⟨j, e1, e2, e3, e4⟩ := z_of h (by omega) (by omega)
  have h1 : j % n < n := Nat.mod_lt _ hn
  have e : z_rm x (nI n) = nI (j % n) := by
    unfold z_rm
    rw [e1]
    exact z_rem (by omega) hn (by omega)
  rw [e, z_le, z_tI (by omega)]
  exact Int.natCast_nonneg _
set_option maxHeartbeats 4000000 in
theorem t_c_drift {N : Nat} {Ga : pm_Ga} (hwi : sp_within Ga) (hbl : sp_becomeLike Ga) (hko : sp_knockOnce Ga) (hmo : sp_move Ga) (hla : sp_lastPlace Ga) : cs3 (pm_up N Ga) 88 r_drift := by
  intro z s n w D post hz hC h
  have h1 : z_R D 0 (zG z) := hC.1
  have hG := hz.1
  obtain ⟨g1, g2, g3, g4, g5, g6, g7, g8⟩ := hz.1
  unfold r_drift at h
  refine ⟨rfl, fun X hX => ?_⟩
  replace hX : ∀ pc L st D, pm_F N Ga tbX4_drift (some .int) post X pc L st D → X pc L st D := hX
  change X 0 [some (.ref 40), some (.int s), some (.int n), some (.int w), none, none, none, none, none] [] D
  repeat (refine hX _ _ _ _ ?_; conv => whnf)
  refine w_ib hwi 1 200 rfl rfl (fun e => ?_) (fun e => ?_)
  · obtain ⟨e1, e2, e3, e4⟩ := z_ib_of e (by decide) (by decide)
    repeat (refine hX _ _ _ _ ?_; conv => whnf)
    refine ⟨fun h => absurd h (by decide), fun _ => ?_⟩
    repeat (refine hX _ _ _ _ ?_; conv => whnf)
    refine w_ib hwi 0 1 rfl rfl (fun e5 => ?_) (fun e5 => ?_)
    · rw [if_pos (by rw [e, e5]; rfl)] at h
      repeat (refine hX _ _ _ _ ?_; conv => whnf)
      refine ⟨fun _ => ?_, fun h => absurd h (by decide)⟩
      repeat (refine hX _ _ _ _ ?_; conv => whnf)
      rw [h1.1]
      refine ⟨fun q0 => ?_, fun q0 => ?_⟩
      · have hn0 : z_n (zG z) ≠ 0 := fun y => q0 (by rw [g1, y]; rfl)
        rw [if_neg hn0] at h
        repeat (refine hX _ _ _ _ ?_; conv => whnf)
        refine hbl 10 0 D _ (Or.inl ⟨rfl, rfl⟩) (fun D1 f1 f2 f3 f4 => ?_)
        have hR1 := z_like hG h1 f1
        repeat (refine hX _ _ _ _ ?_; conv => whnf)
        refine hla 0 (z_n (zG z)) D1 _ (by decide) (by rw [f2 0 (by decide), h1.1]; exact g1) g2 ?_
        rw [f2 (0 + 5) (by decide), z_R_last h1, e1]
        iterate 7 (refine hX _ _ _ _ ?_; conv => whnf)
        have loop : ∀ (m i : Nat) (D2 : pm_Mem) (l8 : Option Value), i + m = z_nt n → z_R D2 10 (z_dr (zG z 24) (zG z) s i) → z_F 10 D D2 → X 64 [some (.ref 40), some (.int s), some (.int (nI (z_nt n))), some (.int w), some (.int (z_last (zG z))), some (.int (z_dw (zG z 24) (zG z) s i)), some (.int (z_ds s i)), some (.int (nI i)), l8] [] D2 := by
          intro m
          induction m with
          | zero =>
            intro i D2 l8 hi a1 a2
            have hi : i = z_nt n := by omega
            subst hi
            obtain ⟨k1, k2, k3⟩ := hG.dr (zG z 24) s (z_nt n) (by omega)
            have h := h D2 (hC.same (fun r hr _ => a2 r (by omega))) (fun r hr => a2 r (by omega))
            repeat (refine hX _ _ _ _ ?_; conv => whnf)
            refine ⟨fun _ => ?_, fun q => absurd (nI_le (Nat.le_refl _) (by omega)) q⟩
            repeat (refine hX _ _ _ _ ?_; conv => whnf)
            refine ⟨fun q => ?_, fun q => ?_⟩
            · repeat (refine hX _ _ _ _ ?_; conv => whnf)
              refine hla 10 (z_n (zG z)) D2 _ (by decide) (by rw [a1.1, k1.1, k2]) g2 ?_
              have hl := z_R_last a1
              rw [k2] at hl
              rw [hl]
              repeat (refine hX _ _ _ _ ?_; conv => whnf)
              rw [if_neg q] at h
              exact h
            · repeat (refine hX _ _ _ _ ?_; conv => whnf)
              rw [if_pos q] at h
              exact h
          | succ m ih =>
            intro i D2 l8 hi a1 a2
            obtain ⟨k1, k2, k3⟩ := hG.dr (zG z 24) s i (by omega)
            obtain ⟨j1, j2, j3⟩ := hG.dr (zG z 24) s (i + 1) (by omega)
            repeat (refine hX _ _ _ _ ?_; conv => whnf)
            refine ⟨fun z => absurd z (nI_ge (by omega) (by omega)), fun _ => ?_⟩
            repeat (refine hX _ _ _ _ ?_; conv => whnf)
            have d0 : D2 0 0 = zG z 24 := by rw [a2 0 (by decide)]; exact h1.1
            rw [d0]
            refine ⟨q0, ?_⟩
            repeat (refine hX _ _ _ _ ?_; conv => whnf)
            refine ⟨by decide, ?_⟩
            repeat (refine hX _ _ _ _ ?_; conv => whnf)
            refine ⟨by decide, ?_⟩
            repeat (refine hX _ _ _ _ ?_; conv => whnf)
            have es : z_ds s i * 1103515245 + 12345 = z_ds s (i + 1) := rfl
            rw [es, z_got_u]
            refine hko 10 _ _ _ D2 _ (by decide) a1 (by rw [k1.1]) (by rw [k2]; exact g2) (by rw [k3]; exact g4) (fun D3 b1 b2 => ?_)
            repeat (refine hX _ _ _ _ ?_; conv => whnf)
            obtain ⟨l1, l2, l3⟩ := k1.hit (z_rm (z_got (z_ds s (i + 1))) (zG z 24)) (z_rm (z_got (z_ds s (i + 1)) / 8) 19 - 9)
            refine hmo 10 _ D3 _ (9999 + i) (by decide) l1 b1 (fun D4 c1 c2 _ _ _ _ => ?_)
            repeat (refine hX _ _ _ _ ?_; conv => whnf)
            refine hla 10 (z_n (zG z)) D4 _ (by decide) (by rw [c1.1]; exact j1.1.trans (by rw [j2])) g2 ?_
            have hl := z_R_last (g := z_dr (zG z 24) (zG z) s (i + 1)) c1
            rw [j2] at hl
            rw [hl]
            iterate 7 (refine hX _ _ _ _ ?_; conv => whnf)
            rw [nI_1]
            exact ih (i + 1) D4 _ (by omega) c1 (fun r hr => by rw [c2 r hr, b2 r (by omega)]; exact a2 r hr)
        exact loop (z_nt n) 0 D1 none (by omega) hR1 f2
      · have hn0 : z_n (zG z) = 0 := by
          show (zG z 24).toNatClampNeg = 0
          rw [q0]
          rfl
        rw [if_pos hn0] at h
        repeat (refine hX _ _ _ _ ?_; conv => whnf)
        exact h D hC (fun _ _ => rfl)
    · rw [if_neg (by rw [e, e5]; decide)] at h
      repeat (refine hX _ _ _ _ ?_; conv => whnf)
      refine ⟨fun h => absurd h (by decide), fun _ => ?_⟩
      repeat (refine hX _ _ _ _ ?_; conv => whnf)
      exact h D hC (fun _ _ => rfl)
  · rw [if_neg (by rw [e]; simp)] at h
    repeat (refine hX _ _ _ _ ?_; conv => whnf)
    refine ⟨fun _ => ?_, fun h => absurd h (by decide)⟩
    repeat (refine hX _ _ _ _ ?_; conv => whnf)
    exact h D hC (fun _ _ => rfl)
