theorem z_low (x : Int32) : (x &&& 1 = 1) ↔ x.toBitVec.getLsbD 0 = true := by
  constructor
  · intro h
    have h := congrArg (fun y => (Int32.toBitVec y).getLsbD 0) h
    simp only [Int32.toBitVec_and, BitVec.getLsbD_and] at h
    have e : (Int32.toBitVec 1).getLsbD 0 = true := by decide
    rw [e, Bool.and_true] at h
    exact h
  · intro h
    apply Int32.toBitVec_inj.mp
    rw [Int32.toBitVec_and]
    apply BitVec.eq_of_getLsbD_eq
    intro i hi
    rw [BitVec.getLsbD_and]
    by_cases e : i = 0
    · rw [e, h, Bool.true_and]
    · have k : ∀ j, j < 32 → j ≠ 0 → (Int32.toBitVec 1).getLsbD j = false := by decide
      rw [k i hi e, Bool.and_false]
theorem z_low2 (x y : Int32) : ((x &&& y) &&& 1 = 1) ↔ (x &&& 1 = 1 ∧ y &&& 1 = 1) := by
  rw [z_low, z_low, z_low, Int32.toBitVec_and, BitVec.getLsbD_and, Bool.and_eq_true]
def z_al (l : Int32) (P : Nat → Int32) (s : Nat) : Nat → Int32
  | 0 => 0
  | n + 1 => if (z_bit l s && (z_bit l n && decide (P s = P n))) = true then z_al l P s n + 1 else z_al l P s n
def z_most (l : Int32) (P : Nat → Int32) : Nat → Int32
  | 0 => 0
  | s + 1 => z_max (z_most l P s) (z_al l P s 10)
