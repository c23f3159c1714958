/-! ===== pages stay as they should be ===== -/
theorem z_clamp_in (v : Int32) : z_in (z_clamp v) (-40) 40 := by
  unfold z_clamp
  by_cases h1 : 40 < v
  · rw [if_pos h1]; exact ⟨by decide, by decide⟩
  · rw [if_neg h1]
    by_cases h2 : v < -40
    · rw [if_pos h2]; exact ⟨by decide, by decide⟩
    · rw [if_neg h2]
      rw [z_lt] at h1 h2
      have e1 : (40 : Int32).toInt = 40 := rfl
      have e2 : (-40 : Int32).toInt = -40 := rfl
      exact ⟨by omega, by omega⟩
theorem z_ns_in (g : z_P) (b : Nat) : z_in (z_ns g b) (-40) 40 := z_clamp_in _
theorem z_np_in (g : z_P) (b : Nat) : z_in (z_np g b) 0 300 := by
  have e1 : (300 : Int32).toInt = 300 := rfl
  have e2 : (0 : Int32).toInt = 0 := rfl
  unfold z_np
  by_cases h1 : z_to g b < 0
  · rw [if_pos h1]; exact ⟨by decide, by decide⟩
  · rw [if_neg h1]
    by_cases h2 : 300 < z_to g b
    · rw [if_pos h2]; exact ⟨by decide, by decide⟩
    · rw [if_neg h2]
      rw [z_lt] at h1 h2
      exact ⟨by omega, by omega⟩
theorem z_fs_in (g : z_P) (b : Nat) : z_in (z_fs g b) (-40) 40 := by
  unfold z_fs
  split
  · exact ⟨by decide, by decide⟩
  · exact z_ns_in g b
theorem z_G.mono {T T' : Int} {g : z_P} (h : z_G T g) (hT : T ≤ T') : z_G T' g := by
  obtain ⟨a1, a2, a3, a4, a5, a6, a7, a8⟩ := h
  exact ⟨a1, a2, a3, a4, a5, ⟨a6.1, by have := a6.2; omega⟩, a7, a8⟩
theorem z_G.move {T : Int} {g : z_P} (h : z_G T g) (hT : T < 2147483647) : z_G (T + 1) (z_move g) := by
  obtain ⟨a1, a2, a3, a4, a5, a6, a7, a8⟩ := h
  refine ⟨?_, by rw [z_move_n a2]; exact a2, ?_, by rw [z_move_k a2]; exact a4, by rw [z_move_lo a2 (by omega)]; exact a5, ?_, fun b hb => ?_, fun i hi => ?_⟩
  · rw [z_move_n a2, z_move_lo a2 (by omega)]; exact a1
  · rw [z_move_k a2, z_move_lo a2 (by omega)]; exact a3
  · rw [z_move_t]
    have e : (g 51 + 1).toInt = (g 51).toInt + 1 := z_add (y := 1) (by have := a6.1; show _ ≤ _ + 1; omega) (by have := a6.2; show _ + 1 ≤ _; omega)
    exact ⟨by rw [e]; have := a6.1; omega, by rw [e]; have := a6.2; omega⟩
  · rw [z_move_n a2] at hb
    obtain ⟨b1, b2, b3, b4, b5, b6⟩ := a7 b hb
    rw [z_move_lo a2 (by omega), z_move_lo a2 (by omega), z_move_lo a2 (by omega), z_move_lo a2 (by omega), z_move_p a2 hb, z_move_s a2 hb]
    exact ⟨b1, b2, b3, b4, z_np_in g b, z_fs_in g b⟩
  · rw [z_move_k a2] at hi
    rw [z_move_lo a2 (by omega), z_move_lo a2 (by omega)]
    exact a8 i hi
theorem z_hit_cases {T : Int} {g : z_P} (h : z_G T g) (b v : Int32) : z_hit g b v = g ∨ ∃ j, j < z_n g ∧ z_hit g b v = z_up g (20 + j) (z_clamp (g (20 + j) + v)) := by
  unfold z_hit
  by_cases q : 0 ≤ b ∧ b < g 24
  · rw [if_pos q]
    refine Or.inr ⟨b.toNatClampNeg, ?_, rfl⟩
    have h1 := z_lt.mp q.2
    have h2 : (0 : Int) ≤ b.toInt := z_le.mp q.1
    rw [h.1, z_tI (by have := h.2.1; omega)] at h1
    show b.toInt.toNat < _
    omega
  · rw [if_neg q]; exact Or.inl rfl
theorem z_G.speed {T : Int} {g : z_P} (h : z_G T g) {j : Nat} (hj : j < z_n g) (v : Int32) (hv : z_in v (-40) 40) : z_G T (z_up g (20 + j) v) ∧ z_n (z_up g (20 + j) v) = z_n g ∧ z_k (z_up g (20 + j) v) = z_k g := by
  obtain ⟨a1, a2, a3, a4, a5, a6, a7, a8⟩ := h
  have n1 : z_n (z_up g (20 + j) v) = z_n g := z_n_up (by omega)
  have n2 : z_k (z_up g (20 + j) v) = z_k g := z_k_up (by omega)
  refine ⟨⟨by rw [n1, z_up_ne g v (by omega)]; exact a1, by rw [n1]; exact a2, by rw [n2, z_up_ne g v (by omega)]; exact a3, by rw [n2]; exact a4, by rw [z_up_ne g v (by omega)]; exact a5, by rw [z_up_ne g v (by omega)]; exact a6, fun b hb => ?_, fun i hi => ?_⟩, n1, n2⟩
  · rw [n1] at hb
    obtain ⟨b1, b2, b3, b4, b5, b6⟩ := a7 b hb
    rw [z_up_ne g v (show b ≠ 20 + j by omega), z_up_ne g v (show 4 + b ≠ 20 + j by omega), z_up_ne g v (show 8 + b ≠ 20 + j by omega), z_up_ne g v (show 12 + b ≠ 20 + j by omega), z_up_ne g v (show 16 + b ≠ 20 + j by omega)]
    refine ⟨b1, b2, b3, b4, b5, ?_⟩
    by_cases e : b = j
    · rw [e, z_up_at]; exact hv
    · rw [z_up_ne g v (by omega)]; exact b6
  · rw [n2] at hi
    rw [z_up_ne g v (by omega), z_up_ne g v (by omega)]
    exact a8 i hi
theorem z_G.hit {T : Int} {g : z_P} (h : z_G T g) (b v : Int32) : z_G T (z_hit g b v) ∧ z_n (z_hit g b v) = z_n g ∧ z_k (z_hit g b v) = z_k g := by
  rcases z_hit_cases h b v with e | ⟨j, hj, e⟩
  · rw [e]; exact ⟨h, rfl, rfl⟩
  · rw [e]; exact h.speed hj _ (z_clamp_in _)
theorem z_G.plan {T : Int} {g : z_P} (h : z_G T g) : z_G T (z_plan g) ∧ z_n (z_plan g) = z_n g ∧ z_k (z_plan g) = z_k g := by
  unfold z_plan
  split
  · exact ⟨h, rfl, rfl⟩
  · exact h.hit _ _
theorem z_G.tick {T : Int} {g : z_P} (h : z_G T g) (hT : T < 2147483647) : z_G (T + 1) (z_tick g) ∧ z_n (z_tick g) = z_n g ∧ z_k (z_tick g) = z_k g := by
  obtain ⟨h1, h2, h3⟩ := h.plan
  exact ⟨h1.move hT, by unfold z_tick; rw [z_move_n h1.2.1, h2], by unfold z_tick; rw [z_move_k h1.2.1, h3]⟩
/-- so many ticks -/
def z_run (g : z_P) : Nat → z_P
  | 0 => g
  | n + 1 => z_tick (z_run g n)
def z_tg (g : z_P) : Int32 := z_gone (z_plan g) (z_n g)
def z_ts (g : z_P) : Int32 := z_stop (z_plan g) (z_n g)
def z_rg (g : z_P) : Nat → Int32
  | 0 => 0
  | n + 1 => z_rg g n + z_tg (z_run g n)
def z_rs (g : z_P) : Nat → Int32
  | 0 => 0
  | n + 1 => z_rs g n + z_ts (z_run g n)
abbrev z_max (a b : Int32) : Int32 := pm_max a b
/-- how far the last bead is from where it is on the page g -/
def z_sw (g h : z_P) : Int32 := z_abs (z_last h - z_last g)
def z_wid (g : z_P) : Nat → Int32
  | 0 => 0
  | n + 1 => z_max (z_wid g n) (z_sw g (z_run g (n + 1)))
theorem z_G.run {T : Int} {g : z_P} (h : z_G T g) : ∀ n : Nat, T + n < 2147483647 → z_G (T + n) (z_run g n) ∧ z_n (z_run g n) = z_n g ∧ z_k (z_run g n) = z_k g
  | 0, _ => ⟨h.mono (by omega), rfl, rfl⟩
  | n + 1, hT => by
    obtain ⟨h1, h2, h3⟩ := h.run n (by omega)
    obtain ⟨k1, k2, k3⟩ := h1.tick (by omega)
    refine ⟨?_, k2.trans h2, k3.trans h3⟩
    have e : T + ((n + 1 : Nat) : Int) = T + n + 1 := by omega
    rw [e]
    exact k1
theorem z_max_le {a b c : Int32} (h1 : a ≤ c) (h2 : b ≤ c) : z_max a b ≤ c := by
  unfold z_max pm_max
  split <;> assumption
theorem z_max_l (a b : Int32) : a ≤ z_max a b := by
  unfold z_max pm_max
  split
  · rename_i h
    rw [z_lt] at h
    rw [z_le]
    omega
  · rw [z_le]; omega
theorem z_max_r (a b : Int32) : b ≤ z_max a b := by
  unfold z_max pm_max
  split
  · rw [z_le]; omega
  · rename_i h
    rw [z_lt] at h
    rw [z_le]
    omega
theorem z_wid_mono (g : z_P) (m : Nat) : ∀ k : Nat, z_wid g m ≤ z_wid g (m + k)
  | 0 => by rw [z_le]; exact Int.le_refl _
  | k + 1 => by
    have h1 := z_le.mp (z_wid_mono g m k)
    have h2 := z_le.mp (z_max_l (z_wid g (m + k)) (z_sw g (z_run g (m + k + 1))))
    rw [z_le]
    exact Int.le_trans h1 h2
theorem z_last_in {T : Int} {g : z_P} (h : z_G T g) : z_in (z_last g) 0 300 := by
  unfold z_last
  by_cases e : z_n g = 0
  · rw [if_pos e]; exact ⟨by decide, by decide⟩
  · rw [if_neg e, show 15 + z_n g = 16 + (z_n g - 1) by omega]
    exact (h.2.2.2.2.2.2.1 (z_n g - 1) (by omega)).2.2.2.2.1
theorem z_abs_in {v : Int32} {a : Int} (h : z_in v (-a) a) (ha : a < 2147483648) : z_in (z_abs v) 0 a ∧ (z_abs v).toInt = v.toInt.natAbs := by
  obtain ⟨h1, h2⟩ := h
  unfold z_abs pm_abs
  have z0 : (0 : Int32).toInt = 0 := rfl
  by_cases q : 0 ≤ v
  · rw [if_pos q]
    have q' := z_le.mp q
    exact ⟨⟨by omega, by omega⟩, by omega⟩
  · rw [if_neg q]
    have q' : v.toInt < 0 := by rw [z_le] at q; omega
    have e : (0 - v).toInt = - v.toInt := by rw [z_sub (by omega) (by omega)]; omega
    exact ⟨⟨by omega, by omega⟩, by omega⟩
theorem z_sw_in {T T' : Int} {g h : z_P} (hg : z_G T g) (hh : z_G T' h) : z_in (z_sw g h) 0 300 := by
  have h1 := z_last_in hg
  have h2 := z_last_in hh
  refine (z_abs_in (a := 300) ?_ (by omega)).1
  have e : (z_last h - z_last g).toInt = (z_last h).toInt - (z_last g).toInt := z_sub (by have := h1.1; have := h1.2; have := h2.1; have := h2.2; omega) (by have := h1.1; have := h1.2; have := h2.1; have := h2.2; omega)
  exact ⟨by rw [e]; have := h1.1; have := h1.2; have := h2.1; have := h2.2; omega, by rw [e]; have := h1.1; have := h1.2; have := h2.1; have := h2.2; omega⟩
theorem z_wid_in {T : Int} {g : z_P} (h : z_G T g) : ∀ n : Nat, T + n < 2147483647 → z_in (z_wid g n) 0 300
  | 0, _ => (⟨by decide, by decide⟩ : z_in (0 : Int32) 0 300)
  | n + 1, hT => by
    have h1 := z_wid_in h n (by omega)
    have h2 := z_sw_in h (h.run (n + 1) (by omega)).1
    show z_in (z_max _ _) 0 300
    unfold z_max pm_max
    split
    · exact h2
    · exact h1

/-! ===== what the chain's methods do ===== -/
def sp_within (Ga : pm_Ga) : Prop := ∀ (v a b : Int32) (D : pm_Mem) (post : pm_Post), (a ≤ v → v ≤ b → post (some (.int 1)) D) → (¬ (a ≤ v ∧ v ≤ b) → post (some (.int 0)) D) → Ga 97 [.int v, .int a, .int b] D post
def sp_has (Ga : pm_Ga) : Prop := ∀ (c : Nat) (b : Int32) (D : pm_Mem) (post : pm_Post), c ∈ pm_chs → (0 ≤ b → b < D c 0 → post (some (.int 1)) D) → (¬ (0 ≤ b ∧ b < D c 0) → post (some (.int 0)) D) → Ga 3 [.ref c, .int b] D post
def sp_lastPlace (Ga : pm_Ga) : Prop := ∀ (c n : Nat) (D : pm_Mem) (post : pm_Post), c ∈ pm_chs → D c 0 = nI n → n ≤ 4 → post (some (.int (if n = 0 then 0 else D (c + 5) (n - 1)))) D → Ga 6 [.ref c] D post
def sp_knockOnce (Ga : pm_Ga) : Prop := ∀ (c : Nat) (b by_ : Int32) (g : z_P) (D : pm_Mem) (post : pm_Post), c ∈ pm_chs → z_R D c g → g 24 = nI (z_n g) → z_n g ≤ 4 → z_k g ≤ 12 → (∀ D', z_R D' c (z_hit g b by_) → (∀ r, r ≠ c + 6 → D' r = D r) → post none D') → Ga 13 [.ref c, .int b, .int by_] D post
def sp_knockByPlan (Ga : pm_Ga) : Prop := ∀ (c : Nat) (g : z_P) (D : pm_Mem) (post : pm_Post) (T : Int), T < 2147483648 → c ∈ pm_chs → z_G T g → z_R D c g → (∀ D', z_R D' c (z_plan g) → (∀ r, r ≠ c + 6 → D' r = D r) → post none D') → Ga 14 [.ref c] D post
def sp_move (Ga : pm_Ga) : Prop := ∀ (c : Nat) (g : z_P) (D : pm_Mem) (post : pm_Post) (T : Int), c ∈ pm_chs → z_G T g → z_R D c g → (∀ D', z_R D' c (z_move g) → z_F c D D' → D' c 13 = D c 13 + z_gone g (z_n g) → D' c 14 = D c 14 + z_stop g (z_n g) → (D' c 15 = 0 ∨ D' c 15 = 1) → (D' c 15 = 1 ↔ z_stir g (z_n g)) → post none D') → Ga 17 [.ref c] D post
def sp_tickOnce (Ga : pm_Ga) : Prop := ∀ (c : Nat) (g : z_P) (D : pm_Mem) (post : pm_Post) (T : Int), T < 2147483648 → c ∈ pm_chs → z_G T g → z_R D c g → (∀ D', z_R D' c (z_tick g) → z_F c D D' → D' c 13 = D c 13 + z_tg g → D' c 14 = D c 14 + z_ts g → post none D') → Ga 15 [.ref c] D post
def sp_tickOften (Ga : pm_Ga) : Prop := ∀ (c n : Nat) (g : z_P) (D : pm_Mem) (post : pm_Post) (T : Int), T + n < 2147483647 → n < 2147483648 → c ∈ pm_chs → z_G T g → z_R D c g → (∀ D', z_R D' c (z_run g n) → z_F c D D' → D' c 13 = D c 13 + z_rg g n → D' c 14 = D c 14 + z_rs g n → post none D') → Ga 16 [.ref c, .int (nI n)] D post
def sp_greatestSwing (Ga : pm_Ga) : Prop := ∀ (c n : Nat) (en : Int32) (g : z_P) (D : pm_Mem) (post : pm_Post) (T : Int), T + n < 2147483647 → n < 2147483648 → c ∈ pm_chs → z_G T g → z_R D c g → (∀ (m : Nat) D', m ≤ n → (m = n ∨ en ≤ z_wid g m) → z_R D' c (z_run g m) → z_F c D D' → D' c 13 = D c 13 + z_rg g m → D' c 14 = D c 14 + z_rs g m → post (some (.int (z_wid g m))) D') → Ga 21 [.ref c, .int (nI n), .int en] D post
