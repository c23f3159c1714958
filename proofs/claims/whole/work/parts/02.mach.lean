/-! ===== THE SMALL MACHINE: the bytecode of the methods that make no object, over a memory of ints whose references never change ===== -/
/-- what the cells hold that isn't fixed: cell, place -/
abbrev pm_Mem : Type := Nat → Nat → Int32
/-- locals: a value, or nothing (unset, or a long's second half) -/
abbrev pm_L : Type := List (Option Value)
/-- instruction, the pc behind it, a value that it pushes, two numbers (a target, a local's place, a field's place and its class, a callee ..) -/
abbrev pm_Ent : Type := Instr × Nat × Value × Nat × Nat
abbrev pm_Tb : Type := List (Nat × pm_Ent)
/-- a cell's shape: 0 int[], 1 byte[], 2 boolean[] of a length; 3 int[][] whose rows are cells from a place on; 4 + c an object of class c: a field is an int, or a fixed reference -/
abbrev pm_Sh : Type := Nat × Nat × List (Option Nat)
abbrev pm_Post : Type := Option Value → pm_Mem → Prop
abbrev pm_Ga : Type := Nat → List Value → pm_Mem → pm_Post → Prop
def pm_lk : pm_Tb → Nat → Option pm_Ent
  | [], _ => none
  | (k, e) :: l, pc => bif Nat.beq k pc then some e else pm_lk l pc
def pm_get : pm_L → Nat → Option Value
  | [], _ => none
  | a :: _, 0 => a
  | _ :: l, n + 1 => pm_get l n
/-- a store of one slot (not into a long's second half) -/
def pm_set1 : pm_L → Nat → Value → (pm_L → Prop) → Prop
  | [], _, _, _ => False
  | _ :: l, 0, v, K => K (some v :: l)
  | a :: l, n + 1, v, K => (match a, n with
    | some (.long _), 0 => False
    | some (.double _), 0 => False
    | _, _ => pm_set1 l n v (fun l' => K (a :: l')))
/-- a store of a long -/
def pm_set2 : pm_L → Nat → Value → (pm_L → Prop) → Prop
  | [], _, _, _ => False
  | [_], _, _, _ => False
  | _ :: _ :: l, 0, v, K => K (some v :: none :: l)
  | a :: b :: l, n + 1, v, K => (match a, n with
    | some (.long _), 0 => False
    | some (.double _), 0 => False
    | _, _ => pm_set2 (b :: l) n v (fun l' => K (a :: l')))
def pm_mu (D : pm_Mem) (r k : Nat) (v : Int32) : pm_Mem := fun r' k' => if r' = r then (if k' = k then v else D r' k') else D r' k'
def pm_nth : List (Option Nat) → Nat → Option (Option Nat)
  | [], _ => none
  | a :: _, 0 => some a
  | _ :: l, n + 1 => pm_nth l n
def pm_nS : List pm_Sh → Nat → pm_Sh
  | [], _ => (3, 0, [])
  | a :: _, 0 => a
  | _ :: l, n + 1 => pm_nS l n
def pm_sw (x : Int32) (pc : Nat) (K : Nat → Prop) : Int → List Int → Prop
  | _, [] => True
  | lo, o :: os => (x.toInt = lo → K ((pc : Int) + o).toNat) ∧ pm_sw x pc K (lo + 1) os
/-- the chains now, trial, first, second: an object and its nine rows from a cell on -/
def pm_ch (c : Nat) : List pm_Sh := [(4, 16, [none, none, none, none, some (c + 1), some (c + 2), some (c + 3), some (c + 4), some (c + 5), some (c + 6), some (c + 7), some (c + 8), some (c + 9), none, none, none]), (0, 4, []), (0, 4, []), (0, 4, []), (0, 4, []), (0, 4, []), (0, 4, []), (0, 12, []), (0, 12, []), (0, 5, [])]
def pm_shL (N : Nat) : List pm_Sh :=
  [(4, 16, [none, none, none, none, some 1, some 2, some 3, some 4, some 5, some 6, some 7, some 8, some 9, none, none, none]), (0, 4, []), (0, 4, []), (0, 4, []), (0, 4, []), (0, 4, []), (0, 4, []), (0, 12, []), (0, 12, []), (0, 5, []),
   (4, 16, [none, none, none, none, some 11, some 12, some 13, some 14, some 15, some 16, some 17, some 18, some 19, none, none, none]), (0, 4, []), (0, 4, []), (0, 4, []), (0, 4, []), (0, 4, []), (0, 4, []), (0, 12, []), (0, 12, []), (0, 5, []),
   (4, 16, [none, none, none, none, some 21, some 22, some 23, some 24, some 25, some 26, some 27, some 28, some 29, none, none, none]), (0, 4, []), (0, 4, []), (0, 4, []), (0, 4, []), (0, 4, []), (0, 4, []), (0, 12, []), (0, 12, []), (0, 5, []),
   (4, 16, [none, none, none, none, some 31, some 32, some 33, some 34, some 35, some 36, some 37, some 38, some 39, none, none, none]), (0, 4, []), (0, 4, []), (0, 4, []), (0, 4, []), (0, 4, []), (0, 4, []), (0, 12, []), (0, 12, []), (0, 5, []),
   (8, 10, [some 0, some 10, some 20, some 30, some 41, some 42, some 44, some 48, some 56, none]), (2, 2, []),
   (7, 8, [some 43, none, none, none, none, none, none, none]), (1, 160, []),
   (5, 4, [none, some 45, some 46, some 47]), (0, 6, []), (0, 6, []), (0, 6, []),
   (6, 3, [some 49, some 50, some 51]), (3, 4, [some 52]), (0, 4, []), (0, 4, []), (0, 40, []), (0, 40, []), (0, 40, []), (0, 40, []),
   (3, 10, [some 57]), (0, 41, []), (0, 41, []), (0, 41, []), (0, 41, []), (0, 41, []), (0, 41, []), (0, 41, []), (0, 41, []), (0, 41, []), (0, 41, []),
   (9, 28, [some 68, some 69, none, some 70, none, none, none, none, none, none, none, none, some 71, some 72, none, none, none, some 73, none, none, some 74, none, some 75, some 76, some 77, some 78, some 79, none]),
   (0, 312, []), (0, 52, []), (0, 160, []), (0, 8, []), (0, 29, []), (0, 4, []), (0, 18, []), (0, 410, []), (2, 2, []), (0, 4, []), (0, 4, []), (0, 160, []),
   (0, 5, []), (0, 5, []), (0, N, [])]
def pm_sh (N r : Nat) : pm_Sh := pm_nS (pm_shL N) r
/-- which fields are booleans -/
def pm_bz (ci k : Nat) : Bool := (Nat.beq ci 0 && Nat.beq k 15) || (Nat.beq ci 3 && Nat.beq k 7) || (Nat.beq ci 5 && (Nat.beq k 2 || Nat.beq k 16))
/-- a call: so many arguments off the stack -/
def pm_arg (n : Nat) (st : List Value) (K : List Value → List Value → Prop) : Prop := match n, st with
  | 0, st => K [] st
  | 1, a :: st => K [a] st
  | 2, b :: a :: st => K [a, b] st
  | 3, c :: b :: a :: st => K [a, b, c] st
  | 4, d :: c :: b :: a :: st => K [a, b, c, d] st
  | 5, e :: d :: c :: b :: a :: st => K [a, b, c, d, e] st
  | 6, f :: e :: d :: c :: b :: a :: st => K [a, b, c, d, e, f] st
  | _, _ => False
def pm_recv (N ci : Nat) (as : List Value) (P : Prop) : Prop := match as with
  | .ref r :: _ => (match Nat.beq (pm_sh N r).1 (4 + ci) with | true => P | false => False)
  | _ => False
def pm_gf (N : Nat) (D : pm_Mem) (r ci k : Nat) (K : Value → Prop) : Prop := match pm_sh N r with
  | (t, _, fs) => (match Nat.beq t (4 + ci), pm_nth fs k with
    | true, some none => K (.int (D r k))
    | true, some (some q) => K (.ref q)
    | _, _ => False)
def pm_pf (N : Nat) (r ci k : Nat) (x : Int32) (P : Prop) : Prop := match pm_sh N r with
  | (t, _, fs) => (match Nat.beq t (4 + ci), pm_nth fs k with
    | true, some none => (match pm_bz ci k with | true => (x = 0 ∨ x = 1) ∧ P | false => P)
    | _, _ => False)
def pm_ret (rt : Option FieldType) (post : pm_Post) (v : Int32) (D : pm_Mem) : Prop := match rt with
  | some .int => post (some (.int v)) D
  | some .boolean => (v = 0 ∨ v = 1) ∧ post (some (.int v)) D
  | _ => False
def pm_if (cd : Jvm.ClassFile.Cond) (x y : Int32) (A B : Prop) : Prop := match cd with
  | .eq => (x = y → A) ∧ (¬ x = y → B)
  | .ne => (¬ x = y → A) ∧ (x = y → B)
  | .lt => (x < y → A) ∧ (¬ x < y → B)
  | .ge => (y ≤ x → A) ∧ (¬ y ≤ x → B)
  | .gt => (y < x → A) ∧ (¬ y < x → B)
  | .le => (x ≤ y → A) ∧ (¬ x ≤ y → B)
def pm_cats : List Value → Nat
  | [] => 0
  | v :: l => v.category + pm_cats l
def pm_low (st : List Value) (P : Prop) : Prop := match Nat.ble (pm_cats st) 8 with
  | true => P
  | false => False
def pm_max (x y : Int32) : Int32 := if x < y then y else x
def pm_min (x y : Int32) : Int32 := if y < x then y else x
def pm_abs (x : Int32) : Int32 := if 0 ≤ x then x else 0 - x
/-- one instruction: what must hold so that X at what comes next -/
def pm_F (N : Nat) (Ga : pm_Ga) (tb : pm_Tb) (rt : Option FieldType) (post : pm_Post) (X : Nat → pm_L → List Value → pm_Mem → Prop) (pc : Nat) (L : pm_L) (st : List Value) (D : pm_Mem) : Prop :=
  match pm_lk tb pc with
  | none => False
  | some (i, nx, au, t1, t2) => match i with
    | .iconst _ => X nx L (au :: st) D
    | .bipush _ => X nx L (au :: st) D
    | .sipush _ => X nx L (au :: st) D
    | .ldc _ => X nx L (au :: st) D
    | .ldc_w _ => X nx L (au :: st) D
    | .ldc2_w _ => X nx L (au :: st) D
    | .lconst _ => X nx L (au :: st) D
    | .getstatic _ => X nx L (au :: st) D
    | .iload_n _ => (match pm_get L t1 with | some (.int x) => X nx L (.int x :: st) D | _ => False)
    | .iload _ => (match pm_get L t1 with | some (.int x) => X nx L (.int x :: st) D | _ => False)
    | .lload_n _ => (match pm_get L t1 with | some (.long x) => X nx L (.long x :: st) D | _ => False)
    | .lload _ => (match pm_get L t1 with | some (.long x) => X nx L (.long x :: st) D | _ => False)
    | .aload_n _ => (match pm_get L t1 with | some (.ref x) => X nx L (.ref x :: st) D | _ => False)
    | .aload _ => (match pm_get L t1 with | some (.ref x) => X nx L (.ref x :: st) D | _ => False)
    | .istore_n _ => (match st with | .int x :: st => pm_set1 L t1 (.int x) (fun L => X nx L st D) | _ => False)
    | .istore _ => (match st with | .int x :: st => pm_set1 L t1 (.int x) (fun L => X nx L st D) | _ => False)
    | .astore_n _ => (match st with | .ref x :: st => pm_set1 L t1 (.ref x) (fun L => X nx L st D) | _ => False)
    | .astore _ => (match st with | .ref x :: st => pm_set1 L t1 (.ref x) (fun L => X nx L st D) | _ => False)
    | .lstore_n _ => (match st with | .long x :: st => pm_set2 L t1 (.long x) (fun L => X nx L st D) | _ => False)
    | .lstore _ => (match st with | .long x :: st => pm_set2 L t1 (.long x) (fun L => X nx L st D) | _ => False)
    | .iinc _ _ => (match pm_get L t1, au with | some (.int x), .int c => pm_set1 L t1 (.int (x + c)) (fun L => X nx L st D) | _, _ => False)
    | .iadd => (match st with | .int y :: .int x :: st => X nx L (.int (x + y) :: st) D | _ => False)
    | .isub => (match st with | .int y :: .int x :: st => X nx L (.int (x - y) :: st) D | _ => False)
    | .imul => (match st with | .int y :: .int x :: st => X nx L (.int (x * y) :: st) D | _ => False)
    | .iand => (match st with | .int y :: .int x :: st => X nx L (.int (x &&& y) :: st) D | _ => False)
    | .ior => (match st with | .int y :: .int x :: st => X nx L (.int (x ||| y) :: st) D | _ => False)
    | .idiv => (match st with | .int y :: .int x :: st => ¬ y = 0 ∧ X nx L (.int (x / y) :: st) D | _ => False)
    | .irem => (match st with | .int y :: .int x :: st => ¬ y = 0 ∧ X nx L (.int (x - x / y * y) :: st) D | _ => False)
    | .ineg => (match st with | .int x :: st => X nx L (.int (-x) :: st) D | _ => False)
    | .ishl => (match st with | .int y :: .int x :: st => X nx L (.int (x <<< (y &&& 31)) :: st) D | _ => False)
    | .ishr => (match st with | .int y :: .int x :: st => X nx L (.int (x >>> (y &&& 31)) :: st) D | _ => False)
    | .iushr => (match st with | .int y :: .int x :: st => X nx L (.int (x.toUInt32 >>> (y.toUInt32 &&& Int32.toUInt32 31)).toInt32 :: st) D | _ => False)
    | .ladd => (match st with | .long y :: .long x :: st => X nx L (.long (x + y) :: st) D | _ => False)
    | .lmul => (match st with | .long y :: .long x :: st => X nx L (.long (x * y) :: st) D | _ => False)
    | .ldiv => (match st with | .long y :: .long x :: st => ¬ y = 0 ∧ X nx L (.long (x / y) :: st) D | _ => False)
    | .lrem => (match st with | .long y :: .long x :: st => ¬ y = 0 ∧ X nx L (.long (x - x / y * y) :: st) D | _ => False)
    | .lcmp => (match st with | .long y :: .long x :: st => X nx L (.int (lg_cmp x y) :: st) D | _ => False)
    | .i2l => (match st with | .int x :: st => X nx L (.long x.toInt64 :: st) D | _ => False)
    | .i2b => (match st with | .int x :: st => X nx L (.int x.toInt8.toInt32 :: st) D | _ => False)
    | .i2s => (match st with | .int x :: st => X nx L (.int x.toInt16.toInt32 :: st) D | _ => False)
    | .dup => (match st with | .int x :: st => X nx L (.int x :: .int x :: st) D | .ref x :: st => X nx L (.ref x :: .ref x :: st) D | _ => False)
    | .pop => (match st with | .int _ :: st => X nx L st D | .ref _ :: st => X nx L st D | _ => False)
    | .dup2 => (match st with | .int x :: .ref r :: st => X nx L (.int x :: .ref r :: .int x :: .ref r :: st) D | _ => False)
    | .goto _ => X t1 L st D
    | .ifCond cd _ => (match st with | .int x :: st => pm_if cd x 0 (X t1 L st D) (X nx L st D) | _ => False)
    | .if_icmp cd _ => (match st with | .int y :: .int x :: st => pm_if cd x y (X t1 L st D) (X nx L st D) | _ => False)
    | .tableswitch _ lo hi offs => (match st with | .int x :: st => (x.toInt < lo ∨ hi < x.toInt → X t1 L st D) ∧ pm_sw x pc (fun t => X t L st D) lo offs.toList | _ => False)
    | .lookupswitch d ps => (match st with | .int x :: st => ∃ t : Nat, (pc : Int) + Op.lookupswitch.offset ps.toList d x.toInt = (t : Int) ∧ X t L st D | _ => False)
    | .getfield _ => (match st with | .ref r :: st => pm_gf N D r t2 t1 (fun v => X nx L (v :: st) D) | _ => False)
    | .putfield _ => (match st with | .int x :: .ref r :: st => pm_pf N r t2 t1 x (X nx L st (pm_mu D r t1 x)) | _ => False)
    | .arraylength => (match st with | .ref r :: st => (match pm_sh N r with | (0, n, _) => X nx L (.int (Int32.ofNat n) :: st) D | _ => False) | _ => False)
    | .iaload => (match st with | .int i :: .ref r :: st => (match pm_sh N r with | (0, n, _) => vp_in i n ∧ X nx L (.int (D r i.toNatClampNeg) :: st) D | _ => False) | _ => False)
    | .baload => (match st with | .int i :: .ref r :: st => (match pm_sh N r with | (1, n, _) => vp_in i n ∧ X nx L (.int (D r i.toNatClampNeg) :: st) D | (2, n, _) => vp_in i n ∧ X nx L (.int (D r i.toNatClampNeg) :: st) D | _ => False) | _ => False)
    | .aaload => (match st with | .int i :: .ref r :: st => (match pm_sh N r with | (3, n, some q :: _) => vp_in i n ∧ X nx L (.ref (q + i.toNatClampNeg) :: st) D | _ => False) | _ => False)
    | .iastore => (match st with | .int x :: .int i :: .ref r :: st => (match pm_sh N r with | (0, n, _) => r < 80 ∧ vp_in i n ∧ X nx L st (pm_mu D r i.toNatClampNeg x) | _ => False) | _ => False)
    | .bastore => (match st with | .int x :: .int i :: .ref r :: st => (match pm_sh N r with | (1, n, _) => r < 80 ∧ vp_in i n ∧ X nx L st (pm_mu D r i.toNatClampNeg (vp_nar .byte x)) | (2, n, _) => r < 80 ∧ vp_in i n ∧ X nx L st (pm_mu D r i.toNatClampNeg (vp_nar .boolean x)) | _ => False) | _ => False)
    | .invokevirtual _ => (match au with | .ref n => pm_arg n st (fun as st => pm_recv N t2 as (pm_low st (Ga t1 as D (fun r D => X nx L (r.toList ++ st) D)))) | _ => False)
    | .invokestatic _ => (match au with
      | .ref n => pm_arg n st (fun as st => pm_low st (Ga t1 as D (fun r D => X nx L (r.toList ++ st) D)))
      | .retAddr 0 => (match st with | .int y :: .int x :: st => pm_low st (X nx L (.int (pm_max x y) :: st) D) | _ => False)
      | .retAddr 1 => (match st with | .int y :: .int x :: st => pm_low st (X nx L (.int (pm_min x y) :: st) D) | _ => False)
      | .retAddr 2 => (match st with | .int x :: st => pm_low st (X nx L (.int (pm_abs x) :: st) D) | _ => False)
      | _ => False)
    | .ireturn => (match st with | [.int v] => pm_ret rt post v D | _ => False)
    | .lreturn => (match st, rt with | [.long v], some .long => post (some (.long v)) D | _, _ => False)
    | .areturn => (match st, rt with | [.ref v], some (.object _) => post (some (.ref v)) D | [.ref v], some (.array _) => post (some (.ref v)) D | _, _ => False)
    | .return_ => (match st, rt with | [], none => post none D | _, _ => False)
    | _ => False
/-- the locals at a method's entry -/
def pm_ent : List Value → Nat → pm_L
  | [], n => List.replicate n none
  | .long x :: as, n => some (.long x) :: none :: pm_ent as (n - 2)
  | .double x :: as, n => some (.double x) :: none :: pm_ent as (n - 2)
  | v :: as, n => some v :: pm_ent as (n - 1)
def pm_Ev (N : Nat) (Ga : pm_Ga) (tb : pm_Tb) (rt : Option FieldType) (post : pm_Post) (pc : Nat) (L : pm_L) (st : List Value) (D : pm_Mem) : Prop :=
  ∀ X : Nat → pm_L → List Value → pm_Mem → Prop, (∀ pc L st D, pm_F N Ga tb rt post X pc L st D → X pc L st D) → X pc L st D
/-! ===== END ===== -/
