/-! ===== what the small machine's tables must say: by program and decided by the kernel ===== -/
def pm_len : Instr → Nat
  | .bipush _ | .ldc _ | .iload _ | .lload _ | .aload _ | .istore _ | .lstore _ | .astore _ => 2
  | .sipush _ | .ldc_w _ | .ldc2_w _ | .getstatic _ | .iinc _ _ | .goto _ | .ifCond _ _ | .if_icmp _ _ | .getfield _ | .putfield _ | .invokevirtual _ | .invokestatic _ => 3
  | .tableswitch .. | .lookupswitch .. => 0
  | _ => 1
def pm_y (q : pm_MI) : MethodName := q.1
def pm_cc (q : pm_MI) : ByteArray := q.2.1
def pm_mL (q : pm_MI) : Nat := q.2.2.1
def pm_rt (q : pm_MI) : Option FieldType := q.2.2.2.1
def pm_st (q : pm_MI) : Bool := q.2.2.2.2.1
def pm_ow (q : pm_MI) : Nat := q.2.2.2.2.2.1
def pm_na (q : pm_MI) : Nat := q.2.2.2.2.2.2.1
def pm_tb (q : pm_MI) : pm_Tb := q.2.2.2.2.2.2.2
def pm_i0 : pm_MI := miX3_wordRead
def pm_mj (j : Nat) : pm_MI := pm_ms.getD j pm_i0
/-- static?, class, arguments of each method: what a call's row needs -/
def pm_sig : List (Bool × Nat × Nat) := pm_ms.map (fun q => (pm_st q, pm_ow q, pm_na q))
def pm_isf (T : Nat × Nat) : Bool := (pm_T T.1 T.2).2.2.2
def pm_okI (o : Nat) (q : Nat × pm_Ent) : Bool := match q with
  | (pc, i, nx, au, t1, t2) => match i with
    | .iconst n => decide (au = .int (Int32.ofInt n))
    | .bipush n => decide (au = .int (Int8.ofInt n).toInt32)
    | .sipush n => decide (au = .int (Int16.ofInt n).toInt32)
    | .lconst n => decide (au = .long (Int64.ofNat n.val))
    | .ldc k => decide ((o, k, au) ∈ pm_cl) && (match au with | .int _ => true | _ => false)
    | .ldc_w k => decide ((o, k, au) ∈ pm_cl) && (match au with | .int _ => true | _ => false)
    | .ldc2_w k => decide ((o, k, au) ∈ pm_cl) && (match au with | .long _ => true | _ => false)
    | .getstatic k => decide ((o, k, au) ∈ pm_sl)
    | .iload_n k => Nat.beq k.val t1
    | .lload_n k => Nat.beq k.val t1
    | .aload_n k => Nat.beq k.val t1
    | .istore_n k => Nat.beq k.val t1
    | .lstore_n k => Nat.beq k.val t1
    | .astore_n k => Nat.beq k.val t1
    | .iload k => Nat.beq k t1
    | .lload k => Nat.beq k t1
    | .aload k => Nat.beq k t1
    | .istore k => Nat.beq k t1
    | .lstore k => Nat.beq k t1
    | .astore k => Nat.beq k t1
    | .iinc k n => Nat.beq k t1 && decide (au = .int (Int32.ofInt n))
    | .goto off => decide ((pc : Int) + off = (t1 : Int))
    | .ifCond _ off => decide ((pc : Int) + off = (t1 : Int))
    | .if_icmp _ off => decide ((pc : Int) + off = (t1 : Int))
    | .tableswitch d lo hi offs => decide ((pc : Int) + d = (t1 : Int)) && decide (lo + (offs.toList.length : Int) = hi + 1) && offs.toList.all (fun o => decide (0 ≤ (pc : Int) + o))
    | .lookupswitch _ ps => (ps.toList.zip (ps.toList.drop 1)).all (fun (a, next) => decide (a.1 < next.1))
    | .getfield k => decide ((o, k, t2, t1) ∈ pm_fl)
    | .putfield k => decide ((o, k, t2, t1) ∈ pm_fl) && !pm_isf (t2, t1)
    | .invokevirtual k => (decide ((o, k, t1) ∈ pm_ml) || decide ((o, k, t1) ∈ pm_mn)) && (match au with | .ref n => decide (pm_sig[t1]? = some (false, t2, n)) && Nat.blt 0 n && Nat.blt t2 6 | _ => false)
    | .invokestatic k => (match au with
      | .ref n => (decide ((o, k, t1) ∈ pm_ml) || decide ((o, k, t1) ∈ pm_mn)) && decide ((pm_sig[t1]?).map (fun z => (z.1, z.2.2)) = some (true, n))
      | .retAddr w => decide ((o, k, w) ∈ pm_mx)
      | _ => false)
    | _ => true
def pm_okE (o : Nat) (cc : ByteArray) (q : Nat × pm_Ent) : Bool := decide (decode cc q.1 = .ok (q.2.1, q.2.2.1 - q.1)) && Nat.blt q.1 q.2.2.1 && (match pm_len q.2.1 with | 0 => true | n => Nat.beq q.2.2.1 (q.1 + n)) && pm_okI o q
def pm_okT (q : pm_MI) : Prop := ∀ x ∈ pm_tb q, pm_okE (pm_ow q) (pm_cc q) x = true
theorem pm_okT.of {q : pm_MI} (h : (pm_tb q).all (pm_okE (pm_ow q) (pm_cc q)) = true) : pm_okT q := List.all_eq_true.mp h
/-! ===== END ===== -/
