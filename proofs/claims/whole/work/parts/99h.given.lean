/-! ===== what the Statement gives of the start ===== -/
def iz_tm (i : Nat) : Term := .string RX3 (sx_ix.getD i 0)
def iz_fl : List Cond := flatC (Jvm.Cond.and given_1 narrow_1)
theorem iz_s1 : ∀ i, i < 7 → Cond.exactly (iz_tm i) "java/lang/String" ∈ iz_fl := by decide +kernel
theorem iz_s2 : ∀ i, i < 7 → Cond.eq (.field (iz_tm i) "java/lang/String" "coder" "B") (.int 0) ∈ iz_fl := by decide +kernel
theorem iz_s3 : ∀ i, i < 7 → Cond.arrayOf (.field (iz_tm i) "java/lang/String" "value" "[B") .byte ∈ iz_fl := by decide +kernel
theorem iz_s4 : ∀ i, i < 7 → Cond.eq (.length (.field (iz_tm i) "java/lang/String" "value" "[B")) (.int (Int32.ofNat (sx_len.getD i 0))) ∈ iz_fl := by decide +kernel
theorem iz_s5 : ∀ i, i < 7 → ∀ j, j < sx_len.getD i 0 → Cond.eq (.elem (.field (iz_tm i) "java/lang/String" "value" "[B") (.int (Int32.ofNat j))) (.int ((pm_words.getD i []).getD j 0)) ∈ iz_fl := by decide +kernel
theorem iz_s6 : ∀ i, i < 7 → ∀ j, j < 7 → i ≠ j → Cond.not (.eq (iz_tm i) (iz_tm j)) ∈ iz_fl ∨ Cond.not (.eq (iz_tm j) (iz_tm i)) ∈ iz_fl := by decide +kernel
theorem iz_s7 : Cond.eq (.static RJ0 "COMPACT_STRINGS" "Z") (.int 1) ∈ iz_fl := by decide +kernel
theorem iz_s8 : Cond.isRef (.static RJ3 "SIOOBE_FORMATTER" "Ljava/util/function/BiFunction;") ∈ iz_fl := by decide +kernel
theorem iz_s9 : Cond.arrayOf (.static RX4 "LEAST" "[I") .int ∈ iz_fl := by decide +kernel
theorem iz_s10 : Cond.eq (.length (.static RX4 "LEAST" "[I")) (.int 5) ∈ iz_fl := by decide +kernel
theorem iz_s11 : ∀ j, j < 5 → Cond.eq (.elem (.static RX4 "LEAST" "[I") (.int (Int32.ofNat j))) (.int (iz_f80 j)) ∈ iz_fl := by decide +kernel
theorem iz_s12 : Cond.arrayOf (.static RX4 "MOST" "[I") .int ∈ iz_fl := by decide +kernel
theorem iz_s13 : Cond.eq (.length (.static RX4 "MOST" "[I")) (.int 5) ∈ iz_fl := by decide +kernel
theorem iz_s14 : ∀ j, j < 5 → Cond.eq (.elem (.static RX4 "MOST" "[I") (.int (Int32.ofNat j))) (.int (iz_f81 j)) ∈ iz_fl := by decide +kernel
theorem lt_of {w : Cond} (i : Nat) (h : tables_1[i]? = some w) : w ∈ lw_tbl := List.mem_append_right _ (List.mem_of_getElem? h)
theorem iz_rf : ∀ i, i < 7 → Cond.stringRef RX3 (sx_ix.getD i 0) (sx_tx.getD i "") ∈ lw_tbl
  | 0, _ => lt_of 253 (by decide +kernel)
  | 1, _ => lt_of 254 (by decide +kernel)
  | 2, _ => lt_of 255 (by decide +kernel)
  | 3, _ => lt_of 256 (by decide +kernel)
  | 4, _ => lt_of 257 (by decide +kernel)
  | 5, _ => lt_of 258 (by decide +kernel)
  | 6, _ => lt_of 259 (by decide +kernel)
  | n + 7, h => absurd h (by omega)
theorem iz_sx {args : Array Value} {s : State} {A : Nat → Prop} (hts : ∀ w ∈ lw_tbl, w.before args s = true) (hs : ∀ c ∈ iz_fl, c.before args s = true) (hA : ∀ a : Nat, a < s.heap.size → ¬ A a) : ∃ (adK adV : Nat → Nat) (fv : Value), sx_S A adK adV fv s ∧ (fv = .null ∨ ∃ a, fv = .ref a) := by
  obtain ⟨adK, adV, h1, h2⟩ := vk_Sof (args := args) (s := s) (N := 7) (tm := iz_tm) (len := sx_len) (byt := pm_words) (A := A) (fun i hi => by have := (sx_ll i hi).2; omega) (fun i hi => hs _ (iz_s1 i hi)) (fun i hi => hs _ (iz_s2 i hi)) (fun i hi => hs _ (iz_s3 i hi)) (fun i hi => hs _ (iz_s4 i hi)) (fun i hi j hj => hs _ (iz_s5 i hi j hj)) (fun i j hi hj hij => (iz_s6 i hi j hj hij).imp (hs _) (hs _)) hA
  obtain ⟨fv, hv, hvr⟩ := Cond.isRef_spec (hs _ iz_s8)
  refine ⟨adK, adV, fv, ⟨h1, fun i hi => vk_R.of (hts _ (iz_rf i hi)) (h2 i hi), va_Zof (hts _ (lt_of 273 (by decide +kernel))) (hts _ (lt_of 8 (by decide +kernel))) (va_eqi (hs _ iz_s7)) hA, va_Zof (hts _ (lt_of 289 (by decide +kernel))) (hts _ (lt_of 10 (by decide +kernel))) hv hA⟩, ?_⟩
  cases fv <;> first | exact Or.inl rfl | exact Or.inr ⟨_, rfl⟩ | (simp [Value.isRef] at hvr; done) | (cases hvr; done)
