/-! ===== a state stays as it should be ===== -/
theorem zOk.g {z : z_Z} (h : zOk z) {g : z_P} (hg : z_G 9999 g) : zOk (uG z g) := ⟨hg, h.2⟩
theorem zOk.r {z : z_Z} (h : zOk z) (r : Int32) : zOk (uR z r) := h
theorem k_feed {z : z_Z} (h : zOk z) (c : Int32) : zOk (r_feed z c).2 := by
  unfold r_feed
  split
  · rename_i q
    split
    · exact h
    · rename_i q2
      obtain ⟨h1, h2, h3, ⟨h4, h5⟩, h6⟩ := h
      refine ⟨h1, h2, h3, ⟨?_, fun i hi => ?_⟩, h6⟩
      · show zL z + 1 ≤ 160
        omega
      · have hi : i < zL z + 1 := hi
        show z_in (upd (zT z) (zL z) c i) 0 127
        unfold upd
        by_cases e : i = zL z
        · rw [if_pos e]; exact z_ib_iff.mp q
        · rw [if_neg e]; exact h5 i (by omega)
  · exact h
theorem k_end {z : z_Z} (h : zOk z) (n : Int32) : zOk (r_end z n).2 := by
  unfold r_end
  split
  · rename_i q
    obtain ⟨h1, h2, h3, ⟨h4, h5⟩, h6⟩ := h
    have := (z_ib_of q (by omega) (by omega)).2.2.1
    refine ⟨h1, h2, h3, ⟨?_, fun i hi => ?_⟩, h6⟩
    · show z_nt n ≤ 160
      omega
    · have hi : i < z_nt n := hi
      exact h5 i (by omega)
  · exact h
theorem y_go_I {L : Nat} {T : Nat → Int32} : ∀ (m p : Nat) (g : z_P) (dt : Bool) (n : Nat) (g' : z_P) (n' : Nat), y_I g → y_go L T m p g dt n = (none, g', n') → y_I g'
  | 0, p, g, dt, n, g', n', hI, h => by
    have h : (none, g, n) = ((none : Option (Nat × Nat)), g', n') := h
    cases h
    exact hI
  | m + 1, p, g, dt, n, g', n', hI, h => by
    have eg : y_go L T (m + 1) p g dt n = if y_k L T p = 4 then (none, g, n) else match y_line L T p g dt with
      | (some x, _, _, _) => (some x, g, n)
      | (none, g', dt', p') => y_go L T m p' g' dt' (n + 1) := rfl
    rw [eg] at h
    by_cases q : y_k L T p = 4
    · rw [if_pos q] at h
      cases h
      exact hI
    · rw [if_neg q] at h
      have hII := y_line_I (L := L) (T := T) (p := p) (g := g) (dt := dt) hI
      rcases hl : y_line L T p g dt with ⟨e, g2, dt2, p2⟩
      rw [hl] at h hII
      cases e with
      | some x => cases h
      | none => exact y_go_I m p2 g2 dt2 (n + 1) g' n' (hII rfl) h
theorem k_text {z : z_Z} (h : zOk z) : zOk (r_text z).2 := by
  unfold r_text
  obtain ⟨h1, h2, h3, ⟨h4, h5⟩, ⟨h6, h7⟩, h8⟩ := h
  rcases hg : y_go (zL z) (zT z) (zL z + 1) 0 (fun _ => 0) false 0 with ⟨e, g, n⟩
  cases e with
  | some x => exact ⟨h1, h2, h3, ⟨Nat.zero_le _, fun i hi => absurd hi (Nat.not_lt_zero _)⟩, ⟨h6, h7⟩, h8⟩
  | none => exact ⟨(y_go_I _ _ _ _ _ _ _ y_I_0 hg).1, (fun y => by cases y), (fun y => by cases y), ⟨Nat.zero_le _, fun i hi => absurd hi (Nat.not_lt_zero _)⟩, ⟨Nat.zero_le _, fun i hi => absurd hi (Nat.not_lt_zero _)⟩, h8⟩
theorem k_alter {z : z_Z} (h : zOk z) (b w v : Int32) : zOk (r_alter z b w v).2 := by
  unfold r_alter
  split
  · rename_i q
    obtain ⟨q1, q2⟩ := Bool.and_eq_true_iff.mp q
    have hb := (z_isb_of q1 h.1.2.1).1
    have hw : z_nt w ≤ 4 ∧ w = nI (z_nt w) := by
      unfold z_good at q2
      simp only [Bool.or_eq_true, Bool.and_eq_true, decide_eq_true_eq] at q2
      rcases q2 with (((q2 | q2) | q2) | q2) | q2
      all_goals
        rw [q2.1]
        exact ⟨by decide, by decide⟩
    rw [hw.2] at q2
    exact h.g (h.1.put hw.1 hb q2).1
  · exact h
theorem k_drag {z : z_Z} (h : zOk z) (v : Int32) : zOk (r_drag z v).2 := by
  unfold r_drag
  split
  · rename_i q
    exact h.g (h.1.drag (z_ib_iff.mp q)).1
  · exact h
theorem k_bind {z : z_Z} (h : zOk z) (k r s m : Int32) : zOk (r_bind z k r s m).2 := by
  unfold r_bind
  split
  · rename_i q
    split
    · exact h
    · rename_i q2
      obtain ⟨q3, q4⟩ := Bool.and_eq_true_iff.mp q
      obtain ⟨q4, q5⟩ := Bool.and_eq_true_iff.mp q4
      obtain ⟨q5, q6⟩ := Bool.and_eq_true_iff.mp q5
      exact h.g (h.1.bind (by have := h.1.2.1; omega) (z_ib_iff.mp q3) (z_ib_iff.mp q4) (z_ib_iff.mp q5) (z_ib_iff.mp q6))
  · exact h
theorem k_cut {z : z_Z} (h : zOk z) (n : Int32) : zOk (r_cut z n).2 := by
  unfold r_cut
  split
  · rename_i q
    obtain ⟨a1, a2, a3, a4, a5, a6, a7, a8⟩ := h.1
    obtain ⟨e1, e2, e3, e4⟩ := z_ib_of q (by omega) (by omega)
    have en : z_n (z_up (zG z) 24 n) = z_nt n := by
      show (z_up (zG z) 24 n 24).toNatClampNeg = n.toNatClampNeg
      rw [z_up_at]
    have ek : z_k (z_up (zG z) 24 n) = z_k (zG z) := z_k_up (by decide)
    refine h.g ⟨by rw [en, z_up_at]; exact e1, by rw [en]; omega, by rw [ek, z_up_ne _ _ (by decide)]; exact a3, by rw [ek]; exact a4, by rw [z_up_ne _ _ (by decide)]; exact a5, by rw [z_up_ne _ _ (by decide)]; exact a6, fun b hb => ?_, fun i hi => ?_⟩
    · rw [en] at hb
      rw [z_up_ne _ _ (by omega), z_up_ne _ _ (by omega), z_up_ne _ _ (by omega), z_up_ne _ _ (by omega), z_up_ne _ _ (by omega), z_up_ne _ _ (by omega)]
      exact a7 b (by omega)
    · rw [ek] at hi
      rw [z_up_ne _ _ (by omega), z_up_ne _ _ (by omega)]
      exact a8 i hi
  · exact h
theorem k_hit {z : z_Z} (h : zOk z) (b v : Int32) : zOk (r_hit z b v).2 := by
  unfold r_hit
  split
  · exact h.g (h.1.hit b (v - 9)).1
  · exact h
theorem z_m9 {v : Int32} (h : z_ib v 0 18 = true) : z_in (v - 9) (-9) 9 := by
  obtain ⟨h1, h2⟩ := z_ib_iff.mp h
  have e : (v - 9).toInt = v.toInt - 9 := z_sub (y := 9) (by show _ ≤ _ - 9; omega) (by show _ - 9 ≤ _; omega)
  exact ⟨by rw [e]; omega, by rw [e]; omega⟩
theorem k_add {z : z_Z} (h : zOk z) (b v : Int32) : zOk (r_add z b v).2 := by
  unfold r_add
  split
  · rename_i q
    obtain ⟨q1, q2⟩ := Bool.and_eq_true_iff.mp q
    split
    · exact h
    · rename_i q3
      exact h.g (h.1.add1 (by have := h.1.2.2.2.1; omega) (z_ib_iff.mp q1) (z_m9 q2))
  · exact h
theorem k_drop {z : z_Z} (h : zOk z) (n : Int32) : zOk (r_drop z n).2 := by
  unfold r_drop
  split
  · rename_i q
    obtain ⟨a1, a2, a3, a4, a5, a6, a7, a8⟩ := h.1
    obtain ⟨e1, e2, e3, e4⟩ := z_ib_of q (by omega) (by omega)
    have ek : z_k (z_up (zG z) 49 n) = z_nt n := by
      show (z_up (zG z) 49 n 49).toNatClampNeg = n.toNatClampNeg
      rw [z_up_at]
    have en : z_n (z_up (zG z) 49 n) = z_n (zG z) := z_n_up (by decide)
    refine h.g ⟨by rw [en, z_up_ne _ _ (by decide)]; exact a1, by rw [en]; exact a2, by rw [ek, z_up_at]; exact e1, by rw [ek]; omega, by rw [z_up_ne _ _ (by decide)]; exact a5, by rw [z_up_ne _ _ (by decide)]; exact a6, fun b hb => ?_, fun i hi => ?_⟩
    · rw [en] at hb
      rw [z_up_ne _ _ (by omega), z_up_ne _ _ (by omega), z_up_ne _ _ (by omega), z_up_ne _ _ (by omega), z_up_ne _ _ (by omega), z_up_ne _ _ (by omega)]
      exact a7 b hb
    · rw [ek] at hi
      rw [z_up_ne _ _ (by omega), z_up_ne _ _ (by omega)]
      exact a8 i (by omega)
  · exact h
theorem k_calm {z : z_Z} (h : zOk z) : zOk (r_calm z).2 := by
  obtain ⟨a1, a2, a3, a4, a5, a6, a7, a8⟩ := h.1
  have lo : ∀ k, (k < 20 ∨ 24 ≤ k) → z_calm (zG z) (z_n (zG z)) k = zG z k := fun k hk => by
    unfold z_calm
    rw [if_neg (by omega)]
  have en : z_n (z_calm (zG z) (z_n (zG z))) = z_n (zG z) := by
    show (z_calm (zG z) (z_n (zG z)) 24).toNatClampNeg = _
    rw [lo 24 (by omega)]
    rfl
  have ek : z_k (z_calm (zG z) (z_n (zG z))) = z_k (zG z) := by
    show (z_calm (zG z) (z_n (zG z)) 49).toNatClampNeg = _
    rw [lo 49 (by omega)]
    rfl
  refine h.g ⟨by rw [en, lo 24 (by omega)]; exact a1, by rw [en]; exact a2, by rw [ek, lo 49 (by omega)]; exact a3, by rw [ek]; exact a4, by rw [lo 50 (by omega)]; exact a5, by rw [lo 51 (by omega)]; exact a6, fun b hb => ?_, fun i hi => ?_⟩
  · rw [en] at hb
    obtain ⟨b1, b2, b3, b4, b5, b6⟩ := a7 b hb
    rw [lo b (by omega), lo (4 + b) (by omega), lo (8 + b) (by omega), lo (12 + b) (by omega), lo (16 + b) (by omega)]
    refine ⟨b1, b2, b3, b4, b5, ?_⟩
    unfold z_calm
    rw [if_pos (by omega)]
    exact ⟨by decide, by decide⟩
  · rw [ek] at hi
    rw [lo _ (by omega), lo _ (by omega)]
    exact a8 i hi
theorem k_ticks {z : z_Z} (h : zOk z) (n : Int32) : zOk (r_ticks z n).2 := by
  unfold r_ticks
  split
  · rename_i q
    split
    · exact h
    · rename_i q2
      obtain ⟨a1, a2, a3, a4, a5, a6, a7, a8⟩ := h.1
      obtain ⟨e1, e2, e3, e4⟩ := z_ib_of q (by omega) (by omega)
      have en : n.toInt = (z_nt n : Int) := by
        rw [e1, z_tI (by omega), ← e1]
      have hs : z_G (zG z 51).toInt (zG z) := ⟨a1, a2, a3, a4, a5, ⟨a6.1, Int.le_refl _⟩, a7, a8⟩
      exact h.g ((hs.run (z_nt n) (by omega)).1.mono (by omega))
  · exact h
theorem k_forget {z : z_Z} (h : zOk z) (n : Int32) : zOk (r_forget z n).2 := by
  unfold r_forget
  split
  · rename_i q
    obtain ⟨h1, h2, h3, h4, ⟨h5, h6⟩, h7⟩ := h
    have := (z_ib_of q (by omega) (by omega)).2.2.1
    refine ⟨h1, h2, h3, h4, ⟨?_, fun i hi => ?_⟩, h7⟩
    · show z_nt n ≤ 6
      omega
    · have hi : i < z_nt n := hi
      exact h6 i (by omega)
  · exact h
theorem k_see {z : z_Z} (h : zOk z) (n b v : Int32) : zOk (r_see z n b v).2 := by
  unfold r_see
  split
  · rename_i q
    obtain ⟨q1, q2⟩ := Bool.and_eq_true_iff.mp q
    obtain ⟨q2, q3⟩ := Bool.and_eq_true_iff.mp q2
    split
    · exact h
    · rename_i q4
      obtain ⟨h1, h2, h3, h4, ⟨h5, h6⟩, h7⟩ := h
      have hn4 := h1.2.1
      have hb := z_ib_iff.mp q2
      refine ⟨h1, h2, h3, h4, ⟨?_, fun i hi => ?_⟩, h7⟩
      · show zC z + 1 ≤ 6
        omega
      · have hi : i < zC z + 1 := hi
        show z_in (z_see (zS z) (zC z) n b v (3 * i)) 0 40 ∧ z_in (z_see (zS z) (zC z) n b v (3 * i + 1)) 0 3 ∧ z_in (z_see (zS z) (zC z) n b v (3 * i + 2)) 0 300
        unfold z_see
        by_cases e : i = zC z
        · subst e
          rw [if_pos rfl, if_neg (by omega), if_pos rfl, if_neg (by omega), if_neg (by omega), if_pos rfl]
          exact ⟨z_ib_iff.mp q1, ⟨hb.1, by have := hb.2; omega⟩, z_ib_iff.mp q3⟩
        · rw [if_neg (by omega), if_neg (by omega), if_neg (by omega), if_neg (by omega), if_neg (by omega), if_neg (by omega), if_neg (by omega), if_neg (by omega), if_neg (by omega)]
          exact h6 i (by omega)
  · exact h
theorem k_keep {z : z_Z} (h : zOk z) (k : Int32) : zOk (r_keep z k).2 := by
  unfold r_keep
  split
  · obtain ⟨h1, h2, h3, h4⟩ := h
    refine ⟨h1, ?_, ?_, h4⟩
    · show (if 0 = z_nt k then true else zK z 0) = true → z_G 9999 (if 0 = z_nt k then zG z else zI z 0)
      by_cases e : 0 = z_nt k
      · rw [if_pos e, if_pos e]; exact fun _ => h1
      · rw [if_neg e, if_neg e]; exact h2
    · show (if 1 = z_nt k then true else zK z 1) = true → z_G 9999 (if 1 = z_nt k then zG z else zI z 1)
      by_cases e : 1 = z_nt k
      · rw [if_pos e, if_pos e]; exact fun _ => h1
      · rw [if_neg e, if_neg e]; exact h3
  · exact h
theorem k_back {z : z_Z} (h : zOk z) (k : Int32) : zOk (r_back z k).2 := by
  unfold r_back
  split
  · rename_i q
    split
    · rename_i q2
      refine h.g ?_
      rcases z_two q with rfl | rfl
      · exact h.2.1 q2
      · exact h.2.2.1 q2
    · exact h
  · exact h
theorem k_sheet {z : z_Z} (h : zOk z) (k a n : Int32) : zOk (r_sheet z k a n).2 := by
  unfold r_sheet
  split
  · rename_i q
    obtain ⟨q1, q2⟩ := Bool.and_eq_true_iff.mp q
    split
    · rename_i q3
      split
      · rename_i q4
        obtain ⟨h1, h2, h3, h4, h5, h6⟩ := h
        refine ⟨h1, h2, h3, h4, h5, fun j hj a' n' hh => ?_⟩
        have hh : (if j = z_nt k then some (z_nt a, z_nt n) else zH z j) = some (a', n') := hh
        by_cases e : j = z_nt k
        · rw [if_pos e] at hh
          cases hh
          have := (z_ib_of q2 (by omega) (by omega)).2.2.1
          have h40 : n.toInt ≤ 40 := z_le.mp q3
          refine ⟨by omega, ?_⟩
          show n.toInt.toNat ≤ 40
          omega
        · rw [if_neg e] at hh
          exact h6 j hj a' n' hh
      · exact h
    · exact h
  · exact h
theorem k_lay {z : z_Z} (h : zOk z) (k i v : Int32) : zOk (r_lay z k i v).2 := by
  unfold r_lay
  split
  · cases zH z (z_nt k) with
    | none => exact h
    | some q =>
      show zOk (z_lay z (z_nt k) q.1 q.2 i v).2
      unfold z_lay
      split
      · exact h
      · exact h
  · exact h
theorem k_rd {z : z_Z} (h : zOk z) (k : Nat) (a f : Int32) : ∀ (m i : Nat) (g : z_P), z_G 9999 g → zOk (z_rd z k a f m i g).2
  | 0, i, g, hg => h.g hg
  | m + 1, i, g, hg => by
    have e : z_rd z k a f (m + 1) i g = if z_pf z k a f i = 0 then (if 0 ≤ (r_add (uG z g) (zE z k (z_nt f + 2 * i)) (zE z k (z_nt f + 2 * i + 1))).1 then z_rd z k a f m (i + 1) (zG (r_add (uG z g) (zE z k (z_nt f + 2 * i)) (zE z k (z_nt f + 2 * i + 1))).2) else (-20 - nI i, z)) else (nI i, uR (uG z g) (z_pf z k a f i)) := rfl
    rw [e]
    split
    · split
      · exact k_rd h k a f m (i + 1) _ (k_add (h.g hg) _ _).1
      · exact h
    · exact h.g hg
theorem k_read {z : z_Z} (h : zOk z) (k a f n : Int32) : zOk (r_read z k a f n).2 := by
  unfold r_read
  split
  · exact k_rd h _ _ _ _ _ _ h.1
  · exact h
