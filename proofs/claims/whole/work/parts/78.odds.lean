/-! ===== knocks that miss: numbers ===== -/
theorem l_add {x y : Int64} (h1 : -9223372036854775808 ≤ x.toInt + y.toInt) (h2 : x.toInt + y.toInt ≤ 9223372036854775807) : (x + y).toInt = x.toInt + y.toInt := by
  rw [Int64.toInt_add]
  exact Int.bmod_eq_of_le (by omega) (by omega)
theorem l_sub {x y : Int64} (h1 : -9223372036854775808 ≤ x.toInt - y.toInt) (h2 : x.toInt - y.toInt ≤ 9223372036854775807) : (x - y).toInt = x.toInt - y.toInt := by
  rw [Int64.toInt_sub]
  exact Int.bmod_eq_of_le (by omega) (by omega)
theorem l_mul {x y : Int64} (h1 : -9223372036854775808 ≤ x.toInt * y.toInt) (h2 : x.toInt * y.toInt ≤ 9223372036854775807) : (x * y).toInt = x.toInt * y.toInt := by
  rw [Int64.toInt_mul]
  exact Int.bmod_eq_of_le (by omega) (by omega)
/-- a number of so much at most -/
def l_in (x : Int64) (A : Nat) : Prop := ∃ a : Nat, x.toInt = (a : Int) ∧ a ≤ A
theorem l_in_mul {x y : Int64} {A B : Nat} (hx : l_in x A) (hy : l_in y B) (h : A * B ≤ 9223372036854775807) : l_in (x * y) (A * B) := by
  obtain ⟨a, a1, a2⟩ := hx
  obtain ⟨b, b1, b2⟩ := hy
  have h1 : a * b ≤ A * B := Nat.mul_le_mul a2 b2
  have e : x.toInt * y.toInt = ((a * b : Nat) : Int) := by rw [a1, b1]; exact (Int.natCast_mul a b).symm
  exact ⟨a * b, by rw [l_mul (by rw [e]; omega) (by rw [e]; omega), e], h1⟩
theorem l_in_add {x y : Int64} {A B : Nat} (hx : l_in x A) (hy : l_in y B) (h : A + B ≤ 9223372036854775807) : l_in (x + y) (A + B) := by
  obtain ⟨a, a1, a2⟩ := hx
  obtain ⟨b, b1, b2⟩ := hy
  exact ⟨a + b, by rw [l_add (by omega) (by omega)]; omega, by omega⟩
theorem l_in_mono {x : Int64} {A B : Nat} (hx : l_in x A) (h : A ≤ B) : l_in x B := by
  obtain ⟨a, a1, a2⟩ := hx
  exact ⟨a, a1, by omega⟩
theorem l_rem {x y : Int64} {a b : Nat} (hx : x.toInt = (a : Int)) (hy : y.toInt = (b : Int)) (hb : 0 < b) : (x - x / y * y).toInt = ((a % b : Nat) : Int) := by
  have ha : (a : Int) < 9223372036854775808 := by have := x.toInt_lt; omega
  have h1 : a / b * b + a % b = a := by rw [Nat.mul_comm]; exact Nat.div_add_mod a b
  have h0 : a / b ≤ a := Nat.div_le_self a b
  have q : (x / y).toInt = ((a / b : Nat) : Int) := by
    rw [Int64.toInt_div, hx, hy, ← Int.ofNat_tdiv]
    generalize a / b = c at h0 ⊢
    exact Int.bmod_eq_of_le (by omega) (by omega)
  have e : (x / y).toInt * y.toInt = ((a / b * b : Nat) : Int) := by rw [q, hy]; exact (Int.natCast_mul _ _).symm
  have m : (x / y * y).toInt = ((a / b * b : Nat) : Int) := by rw [l_mul (by rw [e]; omega) (by rw [e]; omega), e]
  rw [l_sub (by rw [hx, m]; omega) (by rw [hx, m]; omega), hx, m]
  omega
theorem l_eq0 {x : Int64} {a : Nat} (hx : x.toInt = (a : Int)) : x = 0 ↔ a = 0 := by
  rw [← Int64.toInt_inj, hx]
  show (a : Int) = 0 ↔ a = 0
  omega
theorem lc_eq (x y : Int64) : lg_cmp x y = 0 ↔ x = y := by
  have h1 := z_cmp_lt x y
  have h2 := z_cmp_gt x y
  rw [← Int64.toInt_inj]
  have e : ∀ w : Int32, w = 0 ↔ ¬ w < 0 ∧ ¬ 0 < w := by
    intro w
    rw [z_lt, z_lt, z_eq]
    show w.toInt = 0 ↔ ¬ w.toInt < 0 ∧ ¬ 0 < w.toInt
    omega
  rw [e, h1, h2]
  omega
/-- the product of the two halves at each step -/
theorem e_half {a b k : Nat} (hb : 0 < b) (hab : b < a) (h : a * b < 2 ^ (k + 1)) : b * (a % b) < 2 ^ k := by
  have h1 : a % b < b := Nat.mod_lt _ hb
  have h2 : b + a % b ≤ a := by
    have := Nat.div_add_mod a b
    have h3 : 1 ≤ a / b := (Nat.le_div_iff_mul_le hb).mpr (by omega)
    have h4 : b * 1 ≤ b * (a / b) := Nat.mul_le_mul_left b h3
    omega
  have h5 : 2 * (a % b) ≤ a := by omega
  have h6 : b * (2 * (a % b)) ≤ b * a := Nat.mul_le_mul_left b h5
  have h7 : b * (2 * (a % b)) = 2 * (b * (a % b)) := by rw [Nat.mul_left_comm]
  have h8 : b * a = a * b := Nat.mul_comm b a
  rw [Nat.pow_succ] at h
  omega
/-- a fraction's part in lowest terms -/
def z_gd (u d : Int64) : Nat := Nat.gcd u.toInt.toNat d.toInt.toNat
def z_fr (u d : Int64) (w : Int32) : Int64 := (if w = 0 then u else d) / Int64.ofNat (z_gd u d)
def sp_commonDivisor (Ga : pm_Ga) : Prop := ∀ (u d : Int64) (D : pm_Mem) (post : pm_Post), 0 ≤ u.toInt → 0 < d.toInt → d.toInt ≤ 100000000 → (∀ r : Int64, r.toInt = (z_gd u d : Int) → post (some (.long r)) D) → Ga 79 [.long u, .long d] D post
set_option maxHeartbeats 2000000 in
theorem t_commonDivisor {N : Nat} {Ga : pm_Ga} : sp_commonDivisor (pm_up N Ga) := by
  intro u d D post hu hd hd2 h
  refine ⟨rfl, fun X hX => ?_⟩
  replace hX : ∀ pc L st D, pm_F N Ga tbX4_commonDivisor (some .long) post X pc L st D → X pc L st D := hX
  change X 0 [some (.long u), none, some (.long d), none, none, none, none, none, none, none, none] [] D
  iterate 6 (refine hX _ _ _ _ ?_; conv => whnf)
  have fin : ∀ (x y : Int64) (i a : Nat) (l9 l10 : Option Value), i < 100 → x.toInt = (a : Int) → y = 0 → a = z_gd u d → X 9 [some (.long u), none, some (.long d), none, some (.long x), none, some (.long y), none, some (.int (nI i)), l9, l10] [] D := by
    intro x y i a l9 l10 hi ha hy hg
    repeat (refine hX _ _ _ _ ?_; conv => whnf)
    refine ⟨fun q => absurd q (nI_ge (a := i) (b := 100) (by omega) (by omega)), fun _ => ?_⟩
    repeat (refine hX _ _ _ _ ?_; conv => whnf)
    refine ⟨fun _ => ?_, fun q => absurd ((lc_eq _ _).mpr hy) q⟩
    repeat (refine hX _ _ _ _ ?_; conv => whnf)
    exact h x (by rw [ha, hg])
  have loop : ∀ (k i a b : Nat) (x y : Int64) (l9 l10 : Option Value), i + k < 100 → x.toInt = (a : Int) → y.toInt = (b : Int) → b < a → a * b < 2 ^ k → Nat.gcd a b = z_gd u d → X 9 [some (.long u), none, some (.long d), none, some (.long x), none, some (.long y), none, some (.int (nI i)), l9, l10] [] D := by
    intro k
    induction k with
    | zero =>
      intro i a b x y l9 l10 hi ha hb hab hp hg
      have hp0 : a * b = 0 := by omega
      have hb0 : b = 0 := by
        rcases Nat.mul_eq_zero.mp hp0 with q | q
        · omega
        · exact q
      subst hb0
      refine fin x y i a l9 l10 (by omega) ha ((l_eq0 hb).mpr rfl) ?_
      rw [← hg, Nat.gcd_zero_right]
    | succ k ih =>
      intro i a b x y l9 l10 hi ha hb hab hp hg
      by_cases hb0 : b = 0
      · subst hb0
        refine fin x y i a l9 l10 (by omega) ha ((l_eq0 hb).mpr rfl) ?_
        rw [← hg, Nat.gcd_zero_right]
      · have hy : ¬ y = 0 := fun q => hb0 ((l_eq0 hb).mp q)
        have hbp : 0 < b := by omega
        repeat (refine hX _ _ _ _ ?_; conv => whnf)
        refine ⟨fun q => absurd q (nI_ge (a := i) (b := 100) (by omega) (by omega)), fun _ => ?_⟩
        repeat (refine hX _ _ _ _ ?_; conv => whnf)
        refine ⟨fun q => absurd ((lc_eq _ _).mp q) hy, fun _ => ?_⟩
        repeat (refine hX _ _ _ _ ?_; conv => whnf)
        refine ⟨hy, ?_⟩
        iterate 7 (refine hX _ _ _ _ ?_; conv => whnf)
        rw [nI_1]
        exact ih (i + 1) b (a % b) y _ _ _ (by omega) hb (l_rem ha hb hbp) (Nat.mod_lt _ hbp) (e_half hbp hab hp) (by rw [← hg, Nat.gcd_comm b, ← Nat.gcd_rec, Nat.gcd_comm])
  obtain ⟨a, ha⟩ := Int.eq_ofNat_of_zero_le hu
  obtain ⟨b, hb⟩ := Int.eq_ofNat_of_zero_le (Int.le_of_lt hd)
  have hbp : 0 < b := by omega
  have hy : ¬ d = 0 := fun q => by have := (l_eq0 hb).mp q; omega
  have hg : Nat.gcd a b = z_gd u d := by unfold z_gd; rw [ha, hb]; rfl
  repeat (refine hX _ _ _ _ ?_; conv => whnf)
  refine ⟨fun h => absurd h (by decide), fun _ => ?_⟩
  repeat (refine hX _ _ _ _ ?_; conv => whnf)
  refine ⟨fun q => absurd ((lc_eq _ _).mp q) hy, fun _ => ?_⟩
  repeat (refine hX _ _ _ _ ?_; conv => whnf)
  refine ⟨hy, ?_⟩
  iterate 7 (refine hX _ _ _ _ ?_; conv => whnf)
  have hm : a % b < b := Nat.mod_lt _ hbp
  have hm2 : b * (a % b) ≤ 100000000 * 100000000 := Nat.mul_le_mul (by omega) (by omega)
  exact loop 54 1 b (a % b) d _ _ _ (by omega) hb (l_rem ha hb hbp) hm (by omega) (by rw [← hg, Nat.gcd_comm b, ← Nat.gcd_rec, Nat.gcd_comm])
def sp_partOfFraction (Ga : pm_Ga) : Prop := ∀ (u d : Int64) (w : Int32) (D : pm_Mem) (post : pm_Post), 0 ≤ u.toInt → 0 < d.toInt → d.toInt ≤ 100000000 → post (some (.long (z_fr u d w))) D → Ga 78 [.long u, .long d, .int w] D post
theorem l_of {r : Int64} {n : Nat} (h : r.toInt = (n : Int)) : r = Int64.ofNat n := by
  have h2 : (n : Int) < 9223372036854775808 := by have := r.toInt_lt; omega
  rw [← Int64.toInt_inj, Int64.toInt_ofNat_of_lt (by omega), h]
theorem z_gd_pos {u d : Int64} (hd : 0 < d.toInt) : 0 < z_gd u d := Nat.gcd_pos_of_pos_right _ (by omega)
set_option maxHeartbeats 2000000 in
theorem t_partOfFraction {N : Nat} {Ga : pm_Ga} (hcd : sp_commonDivisor Ga) : sp_partOfFraction (pm_up N Ga) := by
  intro u d w D post hu hd hd2 h
  refine ⟨rfl, fun X hX => ?_⟩
  replace hX : ∀ pc L st D, pm_F N Ga tbX4_partOfFraction (some .long) post X pc L st D → X pc L st D := hX
  change X 0 [some (.long u), none, some (.long d), none, some (.int w), none, none] [] D
  repeat (refine hX _ _ _ _ ?_; conv => whnf)
  refine hcd u d D _ hu hd hd2 (fun r hr => ?_)
  have hp := z_gd_pos (u := u) hd
  have hr1 : 0 < lg_cmp r 0 := (z_cmp_gt r 0).mpr (by rw [hr]; show (0 : Int) < _; omega)
  have hr0 : ¬ r = 0 := fun q => by have := (l_eq0 hr).mp q; omega
  have er := l_of hr
  repeat (refine hX _ _ _ _ ?_; conv => whnf)
  refine ⟨fun _ => ?_, fun q => absurd hr1 q⟩
  repeat (refine hX _ _ _ _ ?_; conv => whnf)
  unfold z_fr at h
  rw [← er] at h
  refine ⟨fun q => ?_, fun q => ?_⟩
  · rw [if_neg q] at h
    repeat (refine hX _ _ _ _ ?_; conv => whnf)
    refine ⟨hr0, ?_⟩
    repeat (refine hX _ _ _ _ ?_; conv => whnf)
    exact h
  · rw [if_pos q] at h
    repeat (refine hX _ _ _ _ ?_; conv => whnf)
    refine ⟨hr0, ?_⟩
    repeat (refine hX _ _ _ _ ?_; conv => whnf)
    exact h
def sp_lowest (Ga : pm_Ga) : Prop := ∀ (u d : Int64) (w : Int32) (D : pm_Mem) (post : pm_Post), 0 ≤ u.toInt → 0 < d.toInt → post (some (.long (z_fr u d w))) D → Ga 152 [.long u, .long d, .int w] D post
set_option maxHeartbeats 2000000 in
theorem t_lowest {N : Nat} {Ga : pm_Ga} : sp_lowest (pm_up N Ga) := by
  intro u d w D post hu hd h
  refine ⟨rfl, fun X hX => ?_⟩
  replace hX : ∀ pc L st D, pm_F N Ga tbX5_lowest (some .long) post X pc L st D → X pc L st D := hX
  change X 0 [some (.long u), none, some (.long d), none, some (.int w), none, none, none, none, none, none] [] D
  iterate 4 (refine hX _ _ _ _ ?_; conv => whnf)
  have hp := z_gd_pos (u := u) hd
  have loop : ∀ (b a : Nat) (x y : Int64) (l9 l10 : Option Value), x.toInt = (a : Int) → y.toInt = (b : Int) → Nat.gcd a b = z_gd u d → X 6 [some (.long u), none, some (.long d), none, some (.int w), some (.long x), none, some (.long y), none, l9, l10] [] D := by
    intro b
    induction b using Nat.strongRecOn with
    | _ b ih =>
      intro a x y l9 l10 ha hb hg
      by_cases hb0 : b = 0
      · subst hb0
        have hy : y = 0 := (l_eq0 hb).mpr rfl
        have ea : a = z_gd u d := by rw [← hg, Nat.gcd_zero_right]
        have hr0 : ¬ x = 0 := fun q => by have := (l_eq0 ha).mp q; omega
        have er := l_of ha
        unfold z_fr at h
        rw [← ea, ← er] at h
        repeat (refine hX _ _ _ _ ?_; conv => whnf)
        refine ⟨fun _ => ?_, fun q => absurd ((lc_eq _ _).mpr hy) q⟩
        repeat (refine hX _ _ _ _ ?_; conv => whnf)
        refine ⟨fun q => ?_, fun q => ?_⟩
        · rw [if_neg q] at h
          repeat (refine hX _ _ _ _ ?_; conv => whnf)
          refine ⟨hr0, ?_⟩
          repeat (refine hX _ _ _ _ ?_; conv => whnf)
          exact h
        · rw [if_pos q] at h
          repeat (refine hX _ _ _ _ ?_; conv => whnf)
          refine ⟨hr0, ?_⟩
          repeat (refine hX _ _ _ _ ?_; conv => whnf)
          exact h
      · have hy : ¬ y = 0 := fun q => hb0 ((l_eq0 hb).mp q)
        have hbp : 0 < b := by omega
        repeat (refine hX _ _ _ _ ?_; conv => whnf)
        refine ⟨fun q => absurd ((lc_eq _ _).mp q) hy, fun _ => ?_⟩
        repeat (refine hX _ _ _ _ ?_; conv => whnf)
        refine ⟨hy, ?_⟩
        iterate 6 (refine hX _ _ _ _ ?_; conv => whnf)
        exact ih (a % b) (Nat.mod_lt _ hbp) b y _ _ _ hb (l_rem ha hb hbp) (by rw [← hg, Nat.gcd_comm b, ← Nat.gcd_rec, Nat.gcd_comm])
  obtain ⟨a, ha⟩ := Int.eq_ofNat_of_zero_le hu
  obtain ⟨b, hb⟩ := Int.eq_ofNat_of_zero_le (Int.le_of_lt hd)
  exact loop b a u d _ _ ha hb (by unfold z_gd; rw [ha, hb]; rfl)
/-! powers, weights -/
def z_pw (b : Int64) : Nat → Int64
  | 0 => 1
  | i + 1 => z_pw b i * b
def sp_power (Ga : pm_Ga) : Prop := ∀ (b : Int32) (e : Nat) (D : pm_Mem) (post : pm_Post), e ≤ 8 → post (some (.long (z_pw b.toInt64 e))) D → Ga 77 [.int b, .int (nI e)] D post
set_option maxHeartbeats 2000000 in
theorem t_power {N : Nat} {Ga : pm_Ga} : sp_power (pm_up N Ga) := by
  intro b e D post he h
  refine ⟨rfl, fun X hX => ?_⟩
  replace hX : ∀ pc L st D, pm_F N Ga tbX4_power (some .long) post X pc L st D → X pc L st D := hX
  change X 0 [some (.int b), some (.int (nI e)), none, none, none] [] D
  iterate 4 (refine hX _ _ _ _ ?_; conv => whnf)
  have loop : ∀ (m i : Nat), i + m = e → X 5 [some (.int b), some (.int (nI e)), some (.long (z_pw b.toInt64 i)), none, some (.int (nI i))] [] D := by
    intro m
    induction m with
    | zero =>
      intro i hi
      have hi : i = e := by omega
      subst hi
      repeat (refine hX _ _ _ _ ?_; conv => whnf)
      refine ⟨fun _ => ?_, fun q => absurd (nI_le (Nat.le_refl _) (by omega)) q⟩
      repeat (refine hX _ _ _ _ ?_; conv => whnf)
      exact h
    | succ m ih =>
      intro i hi
      repeat (refine hX _ _ _ _ ?_; conv => whnf)
      refine ⟨fun q => absurd q (nI_ge (by omega) (by omega)), fun _ => ?_⟩
      iterate 7 (refine hX _ _ _ _ ?_; conv => whnf)
      rw [nI_1]
      exact ih (i + 1) (by omega)
  exact loop e 0 (by omega)
/-- how many of the first n bits are set -/
def z_ct (l : Int32) : Nat → Nat
  | 0 => 0
  | i + 1 => z_ct l i + (if z_bit l i = true then 1 else 0)
theorem z_ct_le (l : Int32) : ∀ n, z_ct l n ≤ n
  | 0 => Nat.le_refl _
  | n + 1 => by
    have := z_ct_le l n
    show z_ct l n + (if z_bit l n = true then 1 else 0) ≤ n + 1
    split <;> omega
theorem z_ct_bc : ∀ n, n ≤ 8 → ∀ m, m < 2 ^ n → z_bc (nI m) = nI (z_ct (nI m) n) := by decide +kernel
/-- the weight of a set of misses -/
def z_wt (v l : Int32) : Nat → Int64
  | 0 => 1
  | i + 1 => z_wt v l i * (if z_bit l i = true then v.toInt64 else (10 - v).toInt64)
theorem z_wt_pw (v l : Int32) : ∀ n, z_wt v l n = z_pw v.toInt64 (z_ct l n) * z_pw (10 - v).toInt64 (n - z_ct l n)
  | 0 => show (1 : Int64) = 1 * 1 by decide
  | n + 1 => by
    have ih := z_wt_pw v l n
    have hl := z_ct_le l n
    show z_wt v l n * (if z_bit l n = true then v.toInt64 else (10 - v).toInt64) = z_pw v.toInt64 (z_ct l n + (if z_bit l n = true then 1 else 0)) * z_pw (10 - v).toInt64 (n + 1 - (z_ct l n + (if z_bit l n = true then 1 else 0)))
    rw [ih]
    by_cases q : z_bit l n = true
    · rw [if_pos q, if_pos q, show n + 1 - (z_ct l n + 1) = n - z_ct l n by omega]
      show _ = z_pw v.toInt64 (z_ct l n) * v.toInt64 * _
      rw [Int64.mul_assoc, Int64.mul_assoc, Int64.mul_comm v.toInt64]
    · rw [if_neg q, if_neg q, Nat.add_zero, show n + 1 - z_ct l n = (n - z_ct l n) + 1 by omega]
      show _ = _ * (z_pw (10 - v).toInt64 (n - z_ct l n) * (10 - v).toInt64)
      rw [Int64.mul_assoc]
theorem nI_subN {a b : Nat} (h : b ≤ a) : nI a - nI b = nI (a - b) := by
  have e : nI a = nI (a - b) + nI b := by rw [nI_add]; congr 1; omega
  rw [e]
  apply Int32.toBitVec_inj.mp
  rw [Int32.toBitVec_sub, Int32.toBitVec_add]
  exact BitVec.add_sub_cancel _ _
def sp_weightOf (Ga : pm_Ga) : Prop := ∀ (v : Int32) (m n : Nat) (D : pm_Mem) (post : pm_Post), n ≤ 8 → m < 2 ^ n → post (some (.long (z_wt v (nI m) n))) D → Ga 76 [.int (nI m), .int v, .int (nI n)] D post
set_option maxHeartbeats 2000000 in
theorem t_weightOf {N : Nat} {Ga : pm_Ga} (hbc : sp_bitCount Ga) (hpw : sp_power Ga) : sp_weightOf (pm_up N Ga) := by
  intro v m n D post hn hm h
  have hl := z_ct_le (nI m) n
  refine ⟨rfl, fun X hX => ?_⟩
  replace hX : ∀ pc L st D, pm_F N Ga tbX4_weightOf (some .long) post X pc L st D → X pc L st D := hX
  change X 0 [some (.int (nI m)), some (.int v), some (.int (nI n)), none] [] D
  repeat (refine hX _ _ _ _ ?_; conv => whnf)
  refine hbc _ D _ ?_
  repeat (refine hX _ _ _ _ ?_; conv => whnf)
  rw [z_ct_bc n hn m hm]
  refine hpw v (z_ct (nI m) n) D _ (by omega) ?_
  repeat (refine hX _ _ _ _ ?_; conv => whnf)
  rw [show nI n - nI (z_ct (nI m) n) = nI (n - z_ct (nI m) n) from nI_subN hl]
  refine hpw (10 - v) (n - z_ct (nI m) n) D _ (by omega) ?_
  repeat (refine hX _ _ _ _ ?_; conv => whnf)
  rw [z_wt_pw] at h
  exact h
theorem z_wt_in {v : Int32} (hv : z_in v 0 10) (l : Int32) : ∀ n, n ≤ 8 → l_in (z_wt v l n) (10 ^ n)
  | 0, _ => ⟨1, show (1 : Int64).toInt = 1 by decide, by decide⟩
  | n + 1, hn => by
    have ih := z_wt_in hv l n (by omega)
    have h1 : 10 ^ (n + 1) ≤ 10 ^ 8 := Nat.pow_le_pow_right (by omega) hn
    have h10 : (10 - v).toInt = 10 - v.toInt := z_sub (by have := hv.1; have := hv.2; show _ ≤ (10 : Int) - _; omega) (by have := hv.1; have := hv.2; show (10 : Int) - _ ≤ _; omega)
    rw [Nat.pow_succ] at h1 ⊢
    refine l_in_mul ih ?_ (by omega)
    split
    · exact ⟨v.toInt.toNat, by rw [z_64]; have := hv.1; omega, by have := hv.2; omega⟩
    · exact ⟨(10 - v).toInt.toNat, by rw [z_64]; have := hv.2; omega, by have := hv.1; omega⟩
theorem z_p10 : ∀ n, n ≤ 8 → 0 < (z_pw 10 n).toInt ∧ (z_pw 10 n).toInt ≤ 100000000 := by decide +kernel
theorem z_sh1 : ∀ n, n ≤ 8 → (1 : Int32) <<< (nI n &&& 31) = nI (2 ^ n) := by decide +kernel
