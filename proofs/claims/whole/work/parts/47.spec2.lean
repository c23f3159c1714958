/-! ===== the public methods: what each answers (second part: ticks) ===== -/
theorem z_runL_none {T : Int} {g : z_P} (h : z_G T g) : ∀ n : Nat, T + n < 2147483647 → z_runL (-4) g n = z_run g n ∧ z_rgL (-4) g n = z_rg g n ∧ z_rsL (-4) g n = z_rs g n
  | 0, _ => ⟨rfl, rfl, rfl⟩
  | n + 1, hT => by
    obtain ⟨a1, a2, a3⟩ := z_runL_none h n (by omega)
    obtain ⟨k1, k2, k3⟩ := h.run n (by omega)
    have e := z_pl_none k1
    refine ⟨?_, ?_, ?_⟩
    · show z_move (z_pl (-4) false (z_runL (-4) g n)) = z_move (z_plan (z_run g n))
      rw [a1, e]
    · show z_rgL (-4) g n + z_gone (z_pl (-4) false (z_runL (-4) g n)) (z_n g) = z_rg g n + z_gone (z_plan (z_run g n)) (z_n (z_run g n))
      rw [a1, a2, e, k2]
    · show z_rsL (-4) g n + z_stop (z_pl (-4) false (z_runL (-4) g n)) (z_n g) = z_rs g n + z_stop (z_plan (z_run g n)) (z_n (z_run g n))
      rw [a1, a3, e, k2]
theorem z_widL_none {T : Int} {g g0 : z_P} (h : z_G T g) (hl : z_last g0 = z_last g) : ∀ n : Nat, T + n < 2147483647 → z_widL (-4) g0 g n = z_wid g n
  | 0, _ => rfl
  | n + 1, hT => by
    show z_max (z_widL (-4) g0 g n) (z_abs (z_last (z_runL (-4) g (n + 1)) - z_last g0)) = z_max (z_wid g n) (z_abs (z_last (z_run g (n + 1)) - z_last g))
    rw [z_widL_none h hl n (by omega), (z_runL_none h (n + 1) (by omega)).1, hl]
def r_ticks (z : z_Z) (n : Int32) : Int32 × z_Z := if z_ib n 0 100 = true then (if 9999 < (zG z 51).toInt + n.toInt then (-3, z) else (z_rg (zG z) (z_nt n), uG z (z_run (zG z) (z_nt n)))) else (-1, z)
def r_runs (z : z_Z) (n w : Int32) : Int32 × z_Z := (if (z_ib n 0 200 && z_ib w 0 3) = true then (if w = 0 then z_rg (zG z) (z_nt n) else if w = 1 then z_wid (zG z) (z_nt n) else if w = 2 then z_last (z_run (zG z) (z_nt n)) else z_rs (zG z) (z_nt n)) else -1, z)
def r_ahead (z : z_Z) (b n w : Int32) : Int32 × z_Z := (if (z_isb (zG z) b && (z_ib n 0 200 && z_ib w 0 1)) = true then (if w = 0 then z_run (zG z) (z_nt n) (16 + z_nt b) else 100 + z_run (zG z) (z_nt n) (20 + z_nt b)) else -1, z)
/-- the first of so many, from t on -/
def z_fst (P : Nat → Bool) : Nat → Nat → Int32
  | 0, _ => -4
  | m + 1, t => if P t = true then nI t else z_fst P m (t + 1)
/-- v is reached, seen from p -/
def z_wh (p q v : Int32) : Bool := decide (v = p) || (decide (p < v) && decide (v ≤ q)) || (decide (v < p) && decide (q ≤ v))
def r_when (z : z_Z) (b v : Int32) : Int32 × z_Z := (if (z_isb (zG z) b && z_ib v 0 300) = true then z_fst (fun t => z_wh (zG z (16 + z_nt b)) (z_run (zG z) t (16 + z_nt b)) v) 201 0 else -1, z)
def z_mvs (g : z_P) : Nat → z_P
  | 0 => g
  | n + 1 => z_move (z_mvs g n)
/-- nothing moves, no speed changes -/
def z_still1 (g : z_P) : Nat → Bool
  | 0 => true
  | b + 1 => z_still1 g b && (decide (z_np g b = g (16 + b)) && decide (z_fs g b = g (20 + b)))
theorem z_still1_iff (g : z_P) : ∀ n, z_still1 g n = true ↔ ¬ z_stir g n
  | 0 => ⟨fun _ => fun ⟨b, hb, _⟩ => absurd hb (Nat.not_lt_zero b), fun _ => rfl⟩
  | n + 1 => by
    unfold z_still1
    rw [Bool.and_eq_true, z_still1_iff g n, Bool.and_eq_true, decide_eq_true_eq, decide_eq_true_eq]
    constructor
    · rintro ⟨h1, h2, h3⟩ ⟨b, hb, hq⟩
      by_cases e : b = n
      · subst e
        exact hq.elim (fun z => z h2) (fun z => z h3)
      · exact h1 ⟨b, by omega, hq⟩
    · intro h
      refine ⟨fun ⟨b, hb, hq⟩ => h ⟨b, by omega, hq⟩, Classical.byContradiction (fun q => h ⟨n, by omega, Or.inl q⟩), Classical.byContradiction (fun q => h ⟨n, by omega, Or.inr q⟩)⟩
def r_rests (z : z_Z) : Int32 × z_Z := (z_fst (fun t => z_still1 (z_mvs (zG z) t) (z_n (zG z))) 201 0, z)
theorem z_G.mvs {T : Int} {g : z_P} (h : z_G T g) : ∀ n : Nat, T + n < 2147483647 → z_G (T + n) (z_mvs g n) ∧ z_n (z_mvs g n) = z_n g
  | 0, _ => ⟨h.mono (by omega), rfl⟩
  | n + 1, hT => by
    obtain ⟨h1, h2⟩ := h.mvs n (by omega)
    have e : T + ((n + 1 : Nat) : Int) = T + n + 1 := by omega
    rw [e]
    exact ⟨h1.move (by omega), (z_move_n h1.2.1).trans h2⟩
/-- the trial is as now -/
theorem z_like {D D' : pm_Mem} {T : Int} {g : z_P} (hG : z_G T g) (hR : z_R D 0 g) (h : ∀ g, z_n g ≤ 4 → z_k g ≤ 12 → z_R D 0 g → z_R D' 10 g) : z_R D' 10 g := h g hG.2.1 hG.2.2.2.1 hR
theorem z_R_13 {D : pm_Mem} {g : z_P} {k : Nat} {v : Int32} (h : z_R D 0 g) (hk : 4 ≤ k) : z_R (pm_mu D 0 k v) 0 g := by
  obtain ⟨a1, a2, a3, a4, a5, a6⟩ := h
  refine ⟨?_, ?_, ?_, ?_, fun b hb => ?_, fun i hi => ?_⟩
  · rw [pm_mu_k _ _ _ _ (by omega)]; exact a1
  · rw [pm_mu_k _ _ _ _ (by omega)]; exact a2
  · rw [pm_mu_k _ _ _ _ (by omega)]; exact a3
  · rw [pm_mu_k _ _ _ _ (by omega)]; exact a4
  · simp only [pm_mu_r D _ _ _ (show 0 + 1 ≠ 0 by decide), pm_mu_r D _ _ _ (show 0 + 2 ≠ 0 by decide), pm_mu_r D _ _ _ (show 0 + 3 ≠ 0 by decide), pm_mu_r D _ _ _ (show 0 + 4 ≠ 0 by decide), pm_mu_r D _ _ _ (show 0 + 5 ≠ 0 by decide), pm_mu_r D _ _ _ (show 0 + 6 ≠ 0 by decide)]
    exact a5 b hb
  · rw [pm_mu_r D _ _ _ (show 0 + 7 ≠ 0 by decide), pm_mu_r D _ _ _ (show 0 + 8 ≠ 0 by decide)]
    exact a6 i hi
