def z_cn (l : Int32) : Nat → Int32
  | 0 => 0
  | i + 1 => z_cn l i + ((l >>> (nI i &&& 31)) &&& 1)
theorem z_cn_all : ∀ n, n < 1024 → z_bc (nI n) = z_cn (nI n) 10 := by decide +kernel
theorem z_or_all : ∀ v, v < 10 → ∀ n, n < 2 ^ v → nI n ||| ((1 : Int32) <<< (nI v &&& 31)) = nI (n + 2 ^ v) := by decide +kernel
theorem z_bits_lt (z : z_Z) (t b : Nat) : ∀ v, v ≤ 10 → ∃ n, n < 2 ^ v ∧ z_bits z t b v = nI n
  | 0, _ => ⟨0, by decide, rfl⟩
  | v + 1, hv => by
    obtain ⟨n, h1, h2⟩ := z_bits_lt z t b v (by omega)
    have e : z_bits z t b (v + 1) = if z_so z (z_up (zG z) (4 * t + b) (nI v)) 41 = true then z_bits z t b v ||| ((1 : Int32) <<< (nI v &&& 31)) else z_bits z t b v := rfl
    have hp : 2 ^ (v + 1) = 2 ^ v + 2 ^ v := by rw [Nat.pow_succ]; omega
    rw [e, h2]
    split
    · exact ⟨n + 2 ^ v, by omega, z_or_all v (by omega) n h1⟩
    · exact ⟨n, by omega, rfl⟩
theorem z_cn_bc (z : z_Z) (b : Nat) : z_bc (z_bits z 2 b 10) = z_cn (z_bits z 2 b 10) 10 := by
  obtain ⟨n, h1, h2⟩ := z_bits_lt z 2 b 10 (by omega)
  rw [h2]
  exact z_cn_all n h1
