/-! ===== ticks of a page, with a knock that is lost ===== -/
def z_pl (lo : Int32) (ms : Bool) (g : z_P) : z_P := if z_k g = 0 ∨ nI (z_turn g) = lo ∨ ms = true then g else z_hit g (g (25 + z_turn g)) (g (37 + z_turn g))
def z_tk (lo : Int32) (ms : Bool) (g : z_P) : z_P := z_move (z_pl lo ms g)
theorem z_turn_lt {T : Int} {g : z_P} (h : z_G T g) (hk : ¬ z_k g = 0) : z_turn g < z_k g := Nat.mod_lt _ (by omega)
theorem z_pl_none {T : Int} {g : z_P} (h : z_G T g) : z_pl (-4) false g = z_plan g := by
  unfold z_pl z_plan
  by_cases e : z_k g = 0
  · rw [if_pos (Or.inl e), if_pos e]
  · rw [if_neg, if_neg e]
    rintro (z | z | z)
    · exact e z
    · have h1 := z_turn_lt h e
      have h2 := h.2.2.2.1
      rw [z_eq, z_tI (by omega)] at z
      have : (z_turn g : Int) = -4 := z
      omega
    · cases z
theorem z_G.pl {T : Int} {g : z_P} (h : z_G T g) (lo : Int32) (ms : Bool) : z_G T (z_pl lo ms g) ∧ z_n (z_pl lo ms g) = z_n g ∧ z_k (z_pl lo ms g) = z_k g := by
  unfold z_pl
  split
  · exact ⟨h, rfl, rfl⟩
  · exact h.hit _ _
theorem z_G.tk {T : Int} {g : z_P} (h : z_G T g) (lo : Int32) (ms : Bool) (hT : T < 2147483647) : z_G (T + 1) (z_tk lo ms g) ∧ z_n (z_tk lo ms g) = z_n g ∧ z_k (z_tk lo ms g) = z_k g := by
  obtain ⟨h1, h2, h3⟩ := h.pl lo ms
  exact ⟨h1.move hT, by unfold z_tk; rw [z_move_n h1.2.1, h2], by unfold z_tk; rw [z_move_k h1.2.1, h3]⟩
def sp_tickOn (Ga : pm_Ga) : Prop := ∀ (p : Nat) (lo ms : Int32) (mb : Bool) (g g0 : z_P) (D : pm_Mem) (post : pm_Post) (T T0 : Int), p ≤ 260 → T < 2147483648 → z_M D p g → z_G T g → D 67 19 = lo → ms = (if mb = true then 1 else 0) → ((p = 0 ∧ g0 = z_tk lo mb g) ∨ (52 ≤ p ∧ z_M D 0 g0)) → z_G T0 g0 →
  (∀ D', z_M D' p (z_tk lo mb g) → (∀ r, r ≠ 67 → r ≠ 68 → r ≠ 73 → D' r = D r) → (∀ k, k ≠ 14 → k ≠ 15 → k ≠ 16 → k ≠ 18 → D' 67 k = D 67 k) → (∀ k, (k < p ∨ p + 52 ≤ k) → D' 68 k = D 68 k) → D' 67 14 = D 67 14 + z_gone (z_pl lo mb g) (z_n g) → D' 67 15 = D 67 15 + z_stop (z_pl lo mb g) (z_n g) → D' 67 18 = z_max (D 67 18) (z_sw g0 (z_tk lo mb g)) → post none D') → Ga 122 [.ref 67, .int (nI p), .int ms] D post
set_option maxHeartbeats 4000000 in
theorem t_tickOn {N : Nat} {Ga : pm_Ga} (hkn : sp_knockOn Ga) (hmv : sp_movesOn Ga) : sp_tickOn (pm_up N Ga) := by
  intro p lo ms mb g g0 D post T T0 hp hT hM hG hlo hms h0 hG0 h
  have i49 := z_ix1 p 49 49 (by decide)
  have i51 := z_ix1 p 51 51 (by decide)
  obtain ⟨hGp, hnp, hkp⟩ := hG.pl lo mb
  obtain ⟨t, t1, t2, t3, t4⟩ := z_of hG.2.2.2.2.2.1 (by omega) hT
  have hk12 := hG.2.2.2.1
  refine ⟨rfl, fun X hX => ?_⟩
  replace hX : ∀ pc L st D, pm_F N Ga tbX5_tickOn none post X pc L st D → X pc L st D := hX
  change X 0 [some (.ref 67), some (.int (nI p)), some (.int ms), none, none] [] D
  have fin : ∀ (D1 : pm_Mem) (l3 l4 : Option Value), z_M D1 p (z_pl lo mb g) → z_MF p D D1 → X 81 [some (.ref 67), some (.int (nI p)), some (.int ms), l3, l4] [] D1 := by
    intro D1 l3 l4 f1 f2
    repeat (refine hX _ _ _ _ ?_; conv => whnf)
    refine hmv p (z_pl lo mb g) g0 D1 _ T T0 hp f1 hGp ?_ hG0 (fun D2 c1 c2 c3 c4 c5 c6 c7 c8 c9 => ?_)
    · rcases h0 with ⟨e1, e2⟩ | ⟨e1, e2⟩
      · exact Or.inl ⟨e1, e2⟩
      · exact Or.inr ⟨e1, e2.off f2 (by omega)⟩
    · repeat (refine hX _ _ _ _ ?_; conv => whnf)
      rw [hnp] at c5 c6
      rw [f2.1 67 (by decide)] at c5 c6 c9
      exact h D2 c1 (fun r h1 h2 h3 => by rw [c2 r h1 h2 h3]; exact f2.1 r h2) (fun k h1 h2 h3 h4 => by rw [c3 k h1 h2 h3 h4, f2.1 67 (by decide)]) (fun k hk => by rw [c4 k hk]; exact f2.2 k hk) c5 c6 c9
  repeat (refine hX _ _ _ _ ?_; conv => whnf)
  rw [i49]
  refine ⟨vp_in_nI (by omega) (by decide), ?_⟩
  rw [nI_clamp (by omega), hM _ (by omega), hG.2.2.1]
  repeat (refine hX _ _ _ _ ?_; conv => whnf)
  refine ⟨fun q1 => ?_, fun q1 => ?_⟩
  · have q1 : ¬ z_k g = 0 := fun z => q1 (by rw [z]; rfl)
    have htl := z_turn_lt hG q1
    have htt : z_turn g = t % z_k g := by unfold z_turn; rw [t4]
    repeat (refine hX _ _ _ _ ?_; conv => whnf)
    rw [i51]
    refine ⟨vp_in_nI (by omega) (by decide), ?_⟩
    rw [nI_clamp (by omega), hM _ (by omega), t1]
    repeat (refine hX _ _ _ _ ?_; conv => whnf)
    refine ⟨nI_ne0 (by omega) (by omega), ?_⟩
    rw [z_rem (by omega) (by omega) (by omega), ← htt]
    repeat (refine hX _ _ _ _ ?_; conv => whnf)
    refine ⟨fun z => ?_, fun _ => ?_⟩
    · rw [z_eq, z_tI (by omega)] at z
      have : (z_turn g : Int) = -4 := z
      omega
    repeat (refine hX _ _ _ _ ?_; conv => whnf)
    rw [hlo]
    refine ⟨fun q2 => ?_, fun q2 => ?_⟩
    · exact fin D _ _ (by unfold z_pl; rw [if_pos (Or.inr (Or.inl q2))]; exact hM) .rf
    · repeat (refine hX _ _ _ _ ?_; conv => whnf)
      refine ⟨fun q3 => ?_, fun q3 => ?_⟩
      · have hb : mb = true := by
          cases mb with
          | true => rfl
          | false => rw [hms] at q3; exact absurd rfl q3
        exact fin D _ _ (by unfold z_pl; rw [if_pos (Or.inr (Or.inr hb))]; exact hM) .rf
      · have hb : ¬ mb = true := by
          intro hb
          rw [hms, if_pos hb] at q3
          exact absurd q3 (by decide)
        have e : z_pl lo mb g = z_hit g (g (25 + z_turn g)) (g (37 + z_turn g)) := by
          unfold z_pl
          rw [if_neg]
          rintro (z | z | z)
          · exact q1 z
          · exact q2 z
          · exact hb z
        have hk8 := hG.2.2.2.2.2.2.2 _ htl
        repeat (refine hX _ _ _ _ ?_; conv => whnf)
        rw [z_ix p 25 _ 25 (by decide)]
        refine ⟨vp_in_nI (by omega) (by decide), ?_⟩
        rw [nI_clamp (by omega), hM _ (by omega)]
        repeat (refine hX _ _ _ _ ?_; conv => whnf)
        rw [z_ix p 37 _ 37 (by decide)]
        refine ⟨vp_in_nI (by omega) (by decide), ?_⟩
        rw [nI_clamp (by omega), hM _ (by omega)]
        repeat (refine hX _ _ _ _ ?_; conv => whnf)
        refine hkn p _ _ g D _ hp (by rw [z_le]; exact hk8.1.1) hM hG.1 hG.2.1 (fun D1 f1 f2 => ?_)
        exact fin D1 _ _ (by rw [e]; exact f1) f2
  · have q1 : z_k g = 0 := by
      rw [z_eq, z_tI (by omega)] at q1
      have : (z_k g : Int) = 0 := q1
      omega
    repeat (refine hX _ _ _ _ ?_; conv => whnf)
    refine ⟨fun _ => ?_, fun h => absurd h (by decide)⟩
    exact fin D _ _ (by unfold z_pl; rw [if_pos (Or.inl q1)]; exact hM) .rf
def sp_copies (Ga : pm_Ga) : Prop := ∀ (p q : Nat) (D : pm_Mem) (post : pm_Post), p ≤ 260 → q ≤ 260 → (p + 52 ≤ q ∨ q + 52 ≤ p) → (∀ D', (∀ k, k < 52 → D' 68 (q + k) = D 68 (p + k)) → z_MF q D D' → post none D') → Ga 138 [.ref 67, .int (nI p), .int (nI q)] D post
set_option maxHeartbeats 2000000 in
theorem t_copies {N : Nat} {Ga : pm_Ga} : sp_copies (pm_up N Ga) := by
  intro p q D post hp hq hd h
  refine ⟨rfl, fun X hX => ?_⟩
  replace hX : ∀ pc L st D, pm_F N Ga tbX5_copies none post X pc L st D → X pc L st D := hX
  change X 0 [some (.ref 67), some (.int (nI p)), some (.int (nI q)), none] [] D
  iterate 2 (refine hX _ _ _ _ ?_; conv => whnf)
  have loop : ∀ (m k : Nat) (D1 : pm_Mem), k + m = 52 → (∀ j, j < k → D1 68 (q + j) = D 68 (p + j)) → z_MF q D D1 → X 2 [some (.ref 67), some (.int (nI p)), some (.int (nI q)), some (.int (nI k))] [] D1 := by
    intro m
    induction m with
    | zero =>
      intro k D1 hk f1 f2
      have hk : k = 52 := by omega
      subst hk
      repeat (refine hX _ _ _ _ ?_; conv => whnf)
      refine ⟨fun _ => ?_, fun z => absurd (by decide : (52 : Int32) ≤ nI 52) z⟩
      repeat (refine hX _ _ _ _ ?_; conv => whnf)
      exact h D1 f1 f2
    | succ m ih =>
      intro k D1 hk f1 f2
      repeat (refine hX _ _ _ _ ?_; conv => whnf)
      refine ⟨fun z => absurd z (nI_ge (a := k) (b := 52) (by omega) (by omega)), fun _ => ?_⟩
      repeat (refine hX _ _ _ _ ?_; conv => whnf)
      rw [nI_add]
      refine ⟨vp_in_nI (by omega) (by decide), ?_⟩
      rw [nI_clamp (by omega), f2.2 _ (by omega)]
      repeat (refine hX _ _ _ _ ?_; conv => whnf)
      rw [nI_add]
      refine ⟨by decide, vp_in_nI (by omega) (by decide), ?_⟩
      rw [nI_clamp (by omega)]
      iterate 2 (refine hX _ _ _ _ ?_; conv => whnf)
      rw [nI_1]
      refine ih (k + 1) _ (by omega) (fun j hj => ?_) (f2.trans (z_MF_mu (by omega)))
      rw [pm_mu_eq, if_pos rfl]
      by_cases e : j = k
      · rw [if_pos (by omega), e]
      · rw [if_neg (by omega)]; exact f1 j (by omega)
  exact loop 52 0 D (by omega) (fun j hj => by omega) .rf
/-! so many ticks of a page, with a knock that is lost -/
def z_runL (lo : Int32) (g : z_P) : Nat → z_P
  | 0 => g
  | n + 1 => z_tk lo false (z_runL lo g n)
def z_rgL (lo : Int32) (g : z_P) : Nat → Int32
  | 0 => 0
  | n + 1 => z_rgL lo g n + z_gone (z_pl lo false (z_runL lo g n)) (z_n g)
def z_rsL (lo : Int32) (g : z_P) : Nat → Int32
  | 0 => 0
  | n + 1 => z_rsL lo g n + z_stop (z_pl lo false (z_runL lo g n)) (z_n g)
def z_widL (lo : Int32) (g0 g : z_P) : Nat → Int32
  | 0 => 0
  | n + 1 => z_max (z_widL lo g0 g n) (z_sw g0 (z_runL lo g (n + 1)))
theorem z_G.runL {T : Int} {g : z_P} (h : z_G T g) (lo : Int32) : ∀ n : Nat, T + n < 2147483647 → z_G (T + n) (z_runL lo g n) ∧ z_n (z_runL lo g n) = z_n g ∧ z_k (z_runL lo g n) = z_k g
  | 0, _ => ⟨h.mono (by omega), rfl, rfl⟩
  | n + 1, hT => by
    obtain ⟨h1, h2, h3⟩ := h.runL lo n (by omega)
    obtain ⟨k1, k2, k3⟩ := h1.tk lo false (by omega)
    refine ⟨?_, k2.trans h2, k3.trans h3⟩
    have e : T + ((n + 1 : Nat) : Int) = T + n + 1 := by omega
    rw [e]
    exact k1
/-- the cells that trying may change: counters, pages from 208 on, speedWas -/
def z_MT (D D' : pm_Mem) : Prop := (∀ r, r ≠ 67 → r ≠ 68 → r ≠ 73 → D' r = D r) ∧ (∀ k, k ≠ 14 → k ≠ 15 → k ≠ 16 → k ≠ 18 → D' 67 k = D 67 k) ∧ ∀ k, (k < 208 ∨ 260 ≤ k) → D' 68 k = D 68 k
def sp_ticksGo (Ga : pm_Ga) : Prop := ∀ (p n : Nat) (lo : Int32) (g g0 : z_P) (D : pm_Mem) (post : pm_Post) (T T0 : Int), (p + 52 ≤ 208 ∨ p = 260) → n < 2147483648 → T + n < 2147483647 → z_M D p g → z_G T g → D 67 19 = lo → z_M D 0 g0 → z_G T0 g0 →
  (∀ D', z_M D' 208 (z_runL lo g n) → z_MT D D' → D' 67 14 = z_rgL lo g n → D' 67 15 = z_rsL lo g n → post (some (.int (z_widL lo g0 g n))) D') → Ga 139 [.ref 67, .int (nI p), .int (nI n)] D post
set_option maxHeartbeats 4000000 in
theorem t_ticksGo {N : Nat} {Ga : pm_Ga} (hcp : sp_copies Ga) (htk : sp_tickOn Ga) : sp_ticksGo (pm_up N Ga) := by
  intro p n lo g g0 D post T T0 hp hn hT hM hG hlo hM0 hG0 h
  refine ⟨rfl, fun X hX => ?_⟩
  replace hX : ∀ pc L st D, pm_F N Ga tbX5_ticksGo (some .int) post X pc L st D → X pc L st D := hX
  change X 0 [some (.ref 67), some (.int (nI p)), some (.int (nI n)), none] [] D
  repeat (refine hX _ _ _ _ ?_; conv => whnf)
  refine hcp p 208 D _ (by omega) (by omega) (by omega) (fun D1 e1 e2 => ?_)
  have hM1 : z_M D1 208 g := fun k hk => by rw [e1 k hk]; exact hM k hk
  have hM10 : z_M D1 0 g0 := hM0.off e2 (by omega)
  iterate 11 (refine hX _ _ _ _ ?_; conv => whnf)
  have loop : ∀ (m i : Nat) (D2 : pm_Mem), i + m = n → z_M D2 208 (z_runL lo g i) → z_MT D D2 → D2 67 14 = z_rgL lo g i → D2 67 15 = z_rsL lo g i → D2 67 18 = z_widL lo g0 g i → X 25 [some (.ref 67), some (.int (nI p)), some (.int (nI n)), some (.int (nI i))] [] D2 := by
    intro m
    induction m with
    | zero =>
      intro i D2 hi f1 f2 f3 f4 f5
      have hi : i = n := by omega
      subst hi
      repeat (refine hX _ _ _ _ ?_; conv => whnf)
      refine ⟨fun _ => ?_, fun z => absurd (nI_le (Nat.le_refl _) (by omega)) z⟩
      repeat (refine hX _ _ _ _ ?_; conv => whnf)
      rw [f5]
      exact h D2 f1 f2 f3 f4
    | succ m ih =>
      intro i D2 hi f1 f2 f3 f4 f5
      obtain ⟨k1, k2, k3⟩ := hG.runL lo i (by omega)
      repeat (refine hX _ _ _ _ ?_; conv => whnf)
      refine ⟨fun z => absurd z (nI_ge (by omega) (by omega)), fun _ => ?_⟩
      repeat (refine hX _ _ _ _ ?_; conv => whnf)
      refine htk 208 lo 0 false (z_runL lo g i) g0 D2 _ (T + i) T0 (by omega) (by omega) f1 k1 (by rw [f2.2.1 19 (by decide) (by decide) (by decide) (by decide)]; exact hlo) rfl (Or.inr ⟨by omega, fun k hk => by rw [f2.2.2 _ (by omega)]; exact hM0 k hk⟩) hG0 (fun D3 c1 c2 c3 c4 c5 c6 c7 => ?_)
      iterate 2 (refine hX _ _ _ _ ?_; conv => whnf)
      rw [nI_1]
      refine ih (i + 1) D3 (by omega) c1 ⟨fun r h1 h2 h3 => by rw [c2 r h1 h2 h3]; exact f2.1 r h1 h2 h3, fun k h1 h2 h3 h4 => by rw [c3 k h1 h2 h3 h4]; exact f2.2.1 k h1 h2 h3 h4, fun k hk => by rw [c4 k (by omega)]; exact f2.2.2 k hk⟩ ?_ ?_ ?_
      · rw [c5, f3, k2]; rfl
      · rw [c6, f4, k2]; rfl
      · rw [c7, f5]; rfl
  refine loop n 0 _ (by omega) ?_ ⟨fun r h1 h2 h3 => ?_, fun k h1 h2 h3 h4 => ?_, fun k hk => ?_⟩ ?_ ?_ ?_
  · intro k hk
    rw [pm_mu_r _ _ _ _ (by decide), pm_mu_r _ _ _ _ (by decide), pm_mu_r _ _ _ _ (by decide)]
    exact hM1 k hk
  · rw [pm_mu_ne _ _ _ h1, pm_mu_ne _ _ _ h1, pm_mu_ne _ _ _ h1]; exact e2.1 r h2
  · rw [pm_mu_k _ _ _ _ h4, pm_mu_k _ _ _ _ h2, pm_mu_k _ _ _ _ h1, e2.1 67 (by decide)]
  · rw [pm_mu_r _ _ _ _ (by decide), pm_mu_r _ _ _ _ (by decide), pm_mu_r _ _ _ _ (by decide)]
    exact e2.2 k (by omega)
  · rw [pm_mu_k _ _ _ _ (by decide), pm_mu_k _ _ _ _ (by decide), pm_mu_at]; rfl
  · rw [pm_mu_k _ _ _ _ (by decide), pm_mu_at]; rfl
  · rw [pm_mu_at]; rfl
