set_option maxRecDepth 100000 in
set_option maxHeartbeats 4000000 in
theorem c_X3 (l : Launch) (dC : Nat → ClassId) (dI : Nat → Nat → Nat) (cI cB cZ cG : ClassId) (h0 sz : Nat) : Met l yX3_init (Cond.code yX3_init cX3_init 1 none :: ic_tbl) { frames := 1, cells := 1, slots := 160, locals := 36 } (va_Pc [.ref h0] (fun U => U.heap.size = sz ∧ va_P (dC, dI) vwCl [(h0, .inr (3, [.null, .int 0, .int 0, .int 0, .int 0, .int 0, .int 0, .int 0]))] U.heap ∧ va_K (dC, dI) vwCl [(cI, .int), (cB, .byte), (cZ, .boolean), (cG, .array .int)] U ∧ va_D (fun _ => True) [(h0, .inr (3, [.null, .int 0, .int 0, .int 0, .int 0, .int 0, .int 0, .int 0]))])) (va_Qv (fun (_ : Unit) => True) (fun _ t => ∃ a : Nat → Nat, va_P (dC, dI) vwCl [(h0, .inr (3, [.ref (a 0), .int 0, .int 0, .int 0, .int 0, .int 0, .int 0, .int 0])), ((a 0), .inl (cB, 160, .inl (fun _ => 0)))] t.heap ∧ va_D (va_A [(h0, .inr (3, [.null, .int 0, .int 0, .int 0, .int 0, .int 0, .int 0, .int 0]))] sz) [(h0, .inr (3, [.ref (a 0), .int 0, .int 0, .int 0, .int 0, .int 0, .int 0, .int 0])), ((a 0), .inl (cB, 160, .inl (fun _ => 0)))]) (va_A [(h0, .inr (3, [.null, .int 0, .int 0, .int 0, .int 0, .int 0, .int 0, .int 0]))] sz)) 1 160 (va_A [(h0, .inr (3, [.null, .int 0, .int 0, .int 0, .int 0, .int 0, .int 0, .int 0]))] sz) := by
  refine Met.ofW (cc := cX3_init) (maxL := 1) (ret := none) (by decide) rfl ?_
  intro p e s m args below meth c s₁ B hml hv
  obtain ⟨rfl, hsz, hP, hK, hD0⟩ := hv
  have hx := B.exec
  have hb := B.bytes
  have hr := B.returns
  have hts0 := atoms_spec (ws := Cond.code yX3_init cX3_init 1 none :: ic_tbl) B.pre
  have hts : ∀ x ∈ ic_tbl, x.before ([.ref h0] : List Value).toArray s = true := fun x h => hts0 x (List.mem_cons_of_mem _ h)
  have hown : s.vm.findClass RX3 = some m.cls := findClass_of_methodNamed B.named
  have hlocks := B.notSynchronized
  have hin : meth.name = "<init>" := (name_of_methodNamed B.named B.method).1
  subst hsz
  have hD := hD0.self (sz := s.heap.size)
  generalize hAe : va_A [(h0, .inr (3, [.null, .int 0, .int 0, .int 0, .int 0, .int 0, .int 0, .int 0]))] s.heap.size = A at hD ⊢
  have hA : ∀ q : Nat, s.heap.size ≤ q → A q := fun q h => by rw [← hAe]; exact Or.inr h
  have hS : va_S A s.heap s.heap [] := va_S.rf
  have hl := lv_entry ([.ref h0] : List Value) (n := 1) (Nat.le_of_ble_eq_true rfl)
  rw [lg_entry_eq]
  generalize (lg_sl ([.ref h0] : List Value) ++ List.replicate (1 - (lg_sl ([.ref h0] : List Value)).length) Slot.unset).toArray = ls at hl ⊢
  have hl : lv_has ls 1 [(0, .ref h0)] := hl
  refine lv_aload_n hx hb dX3_init_0 rfl (lv_at hl 0 rfl) ?_
  refine W.objInit hx hb hown (hts (.methodLink RX3 3 objectInit) iw_97) (hts (.instanceMethod objectInit) iw_19) (hts (.code objectInit ⟨#[0xb1]⟩ 1 none) iw_20) rfl (by rw [hml]; exact hl.1) rfl dX3_init_1 (Nat.le_of_ble_eq_true rfl) (Nat.le_of_ble_eq_true rfl) ?_
  refine W.eq (g2 := F0 m 4 ls []) rfl ?_
  refine lv_aload_n hx hb dX3_init_4 rfl (lv_at hl 0 rfl) ?_
  refine lv_sipush (v := 160) hx hb dX3_init_5 (by decide) ?_
  refine va_newa (atype := .byte) (n := 160) (ty := .byte) (a0 := (160, .inl (fun _ => 0))) (N' := 160) hx hb (hts (.arrayClass .byte) iw_127) rfl hK hP hD hS hA (fun _ => rfl) (by decide) rfl (by decide) (Nat.le_of_ble_eq_true rfl) (Nat.le_of_ble_eq_true rfl) dX3_init_8 (fun q1 cA H hK9 hP hD hS => ?_)
  have ec : cB = cA := Option.some.inj (((hK.2 1 _ rfl).2).symm.trans ((hK9.2 4 _ rfl).2))
  subst ec; clear hK9
  have hP : va_P (dC, dI) vwCl [(h0, .inr (3, [.null, .int 0, .int 0, .int 0, .int 0, .int 0, .int 0, .int 0])), (q1, .inl (cB, 160, .inl (fun _ => 0)))] H := hP
  have hD : va_D A [(h0, .inr (3, [.null, .int 0, .int 0, .int 0, .int 0, .int 0, .int 0, .int 0])), (q1, .inl (cB, 160, .inl (fun _ => 0)))] := hD
  refine W.widen (k := 1) (n := 160) (Nat.le_of_ble_eq_true rfl) (Nat.le_of_ble_eq_true rfl) ?_
  refine va_putF (D := (dC, dI)) (ci := 3) (v := .ref q1) (ty := (.array .byte)) (C := RX3) (T := TX3) (N := 8) hx hb hts (iw_u (ci := 3) inX3) tyX3 tyX3_ok nmX3 hown hK hP hD hS 0 rfl rfl 0 (by decide) (hts _ iw_98) (fun _ h9 => h9) rfl hin rfl (by decide +kernel) rfl rfl (Nat.le_of_ble_eq_true rfl) dX3_init_10 (fun H locs hP hD hS => ?_)
  have hP : va_P (dC, dI) vwCl [(h0, .inr (3, [.ref q1, .int 0, .int 0, .int 0, .int 0, .int 0, .int 0, .int 0])), (q1, .inl (cB, 160, .inl (fun _ => 0)))] H := hP
  have hD : va_D A [(h0, .inr (3, [.ref q1, .int 0, .int 0, .int 0, .int 0, .int 0, .int 0, .int 0])), (q1, .inl (cB, 160, .inl (fun _ => 0)))] := hD
  exact W.vret hx hb hr (fun t ht hW => ⟨⟨(), rfl, trivial, (fun i => ([q1] : List Nat).getD i 0), by rw [ht]; exact hP, hD⟩, hS.F ht⟩) hS.2.2 dX3_init_13
set_option maxRecDepth 100000 in
set_option maxHeartbeats 4000000 in
theorem c_X1 (l : Launch) (dC : Nat → ClassId) (dI : Nat → Nat → Nat) (cI cB cZ cG : ClassId) (h0 sz : Nat) : Met l yX1_init (Cond.code yX1_init cX1_init 1 none :: ic_tbl) { frames := 1, cells := 3, slots := 18, locals := 36 } (va_Pc [.ref h0] (fun U => U.heap.size = sz ∧ va_P (dC, dI) vwCl [(h0, .inr (1, [.int 0, .null, .null, .null]))] U.heap ∧ va_K (dC, dI) vwCl [(cI, .int), (cB, .byte), (cZ, .boolean), (cG, .array .int)] U ∧ va_D (fun _ => True) [(h0, .inr (1, [.int 0, .null, .null, .null]))])) (va_Qv (fun (_ : Unit) => True) (fun _ t => ∃ a : Nat → Nat, va_P (dC, dI) vwCl [(h0, .inr (1, [.int 0, .ref (a 0), .ref (a 1), .ref (a 2)])), ((a 0), .inl (cI, 6, .inl (fun _ => 0))), ((a 1), .inl (cI, 6, .inl (fun _ => 0))), ((a 2), .inl (cI, 6, .inl (fun _ => 0)))] t.heap ∧ va_D (va_A [(h0, .inr (1, [.int 0, .null, .null, .null]))] sz) [(h0, .inr (1, [.int 0, .ref (a 0), .ref (a 1), .ref (a 2)])), ((a 0), .inl (cI, 6, .inl (fun _ => 0))), ((a 1), .inl (cI, 6, .inl (fun _ => 0))), ((a 2), .inl (cI, 6, .inl (fun _ => 0)))]) (va_A [(h0, .inr (1, [.int 0, .null, .null, .null]))] sz)) 3 18 (va_A [(h0, .inr (1, [.int 0, .null, .null, .null]))] sz) := by
  refine Met.ofW (cc := cX1_init) (maxL := 1) (ret := none) (by decide) rfl ?_
  intro p e s m args below meth c s₁ B hml hv
  obtain ⟨rfl, hsz, hP, hK, hD0⟩ := hv
  have hx := B.exec
  have hb := B.bytes
  have hr := B.returns
  have hts0 := atoms_spec (ws := Cond.code yX1_init cX1_init 1 none :: ic_tbl) B.pre
  have hts : ∀ x ∈ ic_tbl, x.before ([.ref h0] : List Value).toArray s = true := fun x h => hts0 x (List.mem_cons_of_mem _ h)
  have hown : s.vm.findClass RX1 = some m.cls := findClass_of_methodNamed B.named
  have hlocks := B.notSynchronized
  have hin : meth.name = "<init>" := (name_of_methodNamed B.named B.method).1
  subst hsz
  have hD := hD0.self (sz := s.heap.size)
  generalize hAe : va_A [(h0, .inr (1, [.int 0, .null, .null, .null]))] s.heap.size = A at hD ⊢
  have hA : ∀ q : Nat, s.heap.size ≤ q → A q := fun q h => by rw [← hAe]; exact Or.inr h
  have hS : va_S A s.heap s.heap [] := va_S.rf
  have hl := lv_entry ([.ref h0] : List Value) (n := 1) (Nat.le_of_ble_eq_true rfl)
  rw [lg_entry_eq]
  generalize (lg_sl ([.ref h0] : List Value) ++ List.replicate (1 - (lg_sl ([.ref h0] : List Value)).length) Slot.unset).toArray = ls at hl ⊢
  have hl : lv_has ls 1 [(0, .ref h0)] := hl
  refine lv_aload_n hx hb dX1_init_0 rfl (lv_at hl 0 rfl) ?_
  refine W.objInit hx hb hown (hts (.methodLink RX1 3 objectInit) iw_133) (hts (.instanceMethod objectInit) iw_19) (hts (.code objectInit ⟨#[0xb1]⟩ 1 none) iw_20) rfl (by rw [hml]; exact hl.1) rfl dX1_init_1 (Nat.le_of_ble_eq_true rfl) (Nat.le_of_ble_eq_true rfl) ?_
  refine W.eq (g2 := F0 m 4 ls []) rfl ?_
  refine lv_aload_n hx hb dX1_init_4 rfl (lv_at hl 0 rfl) ?_
  refine lv_bipush (v := 6) hx hb dX1_init_5 (by decide) ?_
  refine va_newa (atype := .int) (n := 6) (ty := .int) (a0 := (6, .inl (fun _ => 0))) (N' := 6) hx hb (hts (.arrayClass .int) iw_91) rfl hK hP hD hS hA (fun _ => rfl) (by decide) rfl (by decide) (Nat.le_of_ble_eq_true rfl) (Nat.le_of_ble_eq_true rfl) dX1_init_7 (fun q1 cA H hK9 hP hD hS => ?_)
  have ec : cI = cA := Option.some.inj (((hK.2 0 _ rfl).2).symm.trans ((hK9.2 4 _ rfl).2))
  subst ec; clear hK9
  have hP : va_P (dC, dI) vwCl [(h0, .inr (1, [.int 0, .null, .null, .null])), (q1, .inl (cI, 6, .inl (fun _ => 0)))] H := hP
  have hD : va_D A [(h0, .inr (1, [.int 0, .null, .null, .null])), (q1, .inl (cI, 6, .inl (fun _ => 0)))] := hD
  refine W.widen (k := 1) (n := 6) (Nat.le_of_ble_eq_true rfl) (Nat.le_of_ble_eq_true rfl) ?_
  refine va_putF (D := (dC, dI)) (ci := 1) (v := .ref q1) (ty := (.array .int)) (C := RX1) (T := TX1) (N := 4) hx hb hts (iw_u (ci := 1) inX1) tyX1 tyX1_ok nmX1 hown hK hP hD hS 0 rfl rfl 1 (by decide) (hts _ iw_136) (fun _ h9 => h9) rfl hin rfl (by decide +kernel) rfl rfl (Nat.le_of_ble_eq_true rfl) dX1_init_9 (fun H locs hP hD hS => ?_)
  have hP : va_P (dC, dI) vwCl [(h0, .inr (1, [.int 0, .ref q1, .null, .null])), (q1, .inl (cI, 6, .inl (fun _ => 0)))] H := hP
  have hD : va_D A [(h0, .inr (1, [.int 0, .ref q1, .null, .null])), (q1, .inl (cI, 6, .inl (fun _ => 0)))] := hD
  refine lv_aload_n hx hb dX1_init_12 rfl (lv_at hl 0 rfl) ?_
  refine lv_bipush (v := 6) hx hb dX1_init_13 (by decide) ?_
  refine va_newa (atype := .int) (n := 6) (ty := .int) (a0 := (6, .inl (fun _ => 0))) (N' := 6) hx hb (hts (.arrayClass .int) iw_91) rfl hK hP hD hS hA (fun _ => rfl) (by decide) rfl (by decide) (Nat.le_of_ble_eq_true rfl) (Nat.le_of_ble_eq_true rfl) dX1_init_15 (fun q2 cA H hK9 hP hD hS => ?_)
  have ec : cI = cA := Option.some.inj (((hK.2 0 _ rfl).2).symm.trans ((hK9.2 4 _ rfl).2))
  subst ec; clear hK9
  have hP : va_P (dC, dI) vwCl [(h0, .inr (1, [.int 0, .ref q1, .null, .null])), (q1, .inl (cI, 6, .inl (fun _ => 0))), (q2, .inl (cI, 6, .inl (fun _ => 0)))] H := hP
  have hD : va_D A [(h0, .inr (1, [.int 0, .ref q1, .null, .null])), (q1, .inl (cI, 6, .inl (fun _ => 0))), (q2, .inl (cI, 6, .inl (fun _ => 0)))] := hD
  refine W.widen (k := 2) (n := 12) (Nat.le_of_ble_eq_true rfl) (Nat.le_of_ble_eq_true rfl) ?_
  refine va_putF (D := (dC, dI)) (ci := 1) (v := .ref q2) (ty := (.array .int)) (C := RX1) (T := TX1) (N := 4) hx hb hts (iw_u (ci := 1) inX1) tyX1 tyX1_ok nmX1 hown hK hP hD hS 0 rfl rfl 2 (by decide) (hts _ iw_137) (fun _ h9 => h9) rfl hin rfl (by decide +kernel) rfl rfl (Nat.le_of_ble_eq_true rfl) dX1_init_17 (fun H locs hP hD hS => ?_)
  have hP : va_P (dC, dI) vwCl [(h0, .inr (1, [.int 0, .ref q1, .ref q2, .null])), (q1, .inl (cI, 6, .inl (fun _ => 0))), (q2, .inl (cI, 6, .inl (fun _ => 0)))] H := hP
  have hD : va_D A [(h0, .inr (1, [.int 0, .ref q1, .ref q2, .null])), (q1, .inl (cI, 6, .inl (fun _ => 0))), (q2, .inl (cI, 6, .inl (fun _ => 0)))] := hD
  refine lv_aload_n hx hb dX1_init_20 rfl (lv_at hl 0 rfl) ?_
  refine lv_bipush (v := 6) hx hb dX1_init_21 (by decide) ?_
  refine va_newa (atype := .int) (n := 6) (ty := .int) (a0 := (6, .inl (fun _ => 0))) (N' := 6) hx hb (hts (.arrayClass .int) iw_91) rfl hK hP hD hS hA (fun _ => rfl) (by decide) rfl (by decide) (Nat.le_of_ble_eq_true rfl) (Nat.le_of_ble_eq_true rfl) dX1_init_23 (fun q3 cA H hK9 hP hD hS => ?_)
  have ec : cI = cA := Option.some.inj (((hK.2 0 _ rfl).2).symm.trans ((hK9.2 4 _ rfl).2))
  subst ec; clear hK9
  have hP : va_P (dC, dI) vwCl [(h0, .inr (1, [.int 0, .ref q1, .ref q2, .null])), (q1, .inl (cI, 6, .inl (fun _ => 0))), (q2, .inl (cI, 6, .inl (fun _ => 0))), (q3, .inl (cI, 6, .inl (fun _ => 0)))] H := hP
  have hD : va_D A [(h0, .inr (1, [.int 0, .ref q1, .ref q2, .null])), (q1, .inl (cI, 6, .inl (fun _ => 0))), (q2, .inl (cI, 6, .inl (fun _ => 0))), (q3, .inl (cI, 6, .inl (fun _ => 0)))] := hD
  refine W.widen (k := 3) (n := 18) (Nat.le_of_ble_eq_true rfl) (Nat.le_of_ble_eq_true rfl) ?_
  refine va_putF (D := (dC, dI)) (ci := 1) (v := .ref q3) (ty := (.array .int)) (C := RX1) (T := TX1) (N := 4) hx hb hts (iw_u (ci := 1) inX1) tyX1 tyX1_ok nmX1 hown hK hP hD hS 0 rfl rfl 3 (by decide) (hts _ iw_138) (fun _ h9 => h9) rfl hin rfl (by decide +kernel) rfl rfl (Nat.le_of_ble_eq_true rfl) dX1_init_25 (fun H locs hP hD hS => ?_)
  have hP : va_P (dC, dI) vwCl [(h0, .inr (1, [.int 0, .ref q1, .ref q2, .ref q3])), (q1, .inl (cI, 6, .inl (fun _ => 0))), (q2, .inl (cI, 6, .inl (fun _ => 0))), (q3, .inl (cI, 6, .inl (fun _ => 0)))] H := hP
  have hD : va_D A [(h0, .inr (1, [.int 0, .ref q1, .ref q2, .ref q3])), (q1, .inl (cI, 6, .inl (fun _ => 0))), (q2, .inl (cI, 6, .inl (fun _ => 0))), (q3, .inl (cI, 6, .inl (fun _ => 0)))] := hD
  exact W.vret hx hb hr (fun t ht hW => ⟨⟨(), rfl, trivial, (fun i => ([q1, q2, q3] : List Nat).getD i 0), by rw [ht]; exact hP, hD⟩, hS.F ht⟩) hS.2.2 dX1_init_28
set_option maxRecDepth 100000 in
set_option maxHeartbeats 4000000 in
theorem c_X0 (l : Launch) (dC : Nat → ClassId) (dI : Nat → Nat → Nat) (cI cB cZ cG : ClassId) (h0 sz : Nat) : Met l yX0_init (Cond.code yX0_init cX0_init 1 none :: ic_tbl) { frames := 1, cells := 9, slots := 53, locals := 36 } (va_Pc [.ref h0] (fun U => U.heap.size = sz ∧ va_P (dC, dI) vwCl [(h0, .inr (0, [.int 0, .int 0, .int 0, .int 0, .null, .null, .null, .null, .null, .null, .null, .null, .null, .int 0, .int 0, .int 0]))] U.heap ∧ va_K (dC, dI) vwCl [(cI, .int), (cB, .byte), (cZ, .boolean), (cG, .array .int)] U ∧ va_D (fun _ => True) [(h0, .inr (0, [.int 0, .int 0, .int 0, .int 0, .null, .null, .null, .null, .null, .null, .null, .null, .null, .int 0, .int 0, .int 0]))])) (va_Qv (fun (_ : Unit) => True) (fun _ t => ∃ a : Nat → Nat, va_P (dC, dI) vwCl [(h0, .inr (0, [.int 0, .int 0, .int 0, .int 0, .ref (a 0), .ref (a 1), .ref (a 2), .ref (a 3), .ref (a 4), .ref (a 5), .ref (a 6), .ref (a 7), .ref (a 8), .int 0, .int 0, .int 0])), ((a 0), .inl (cI, 4, .inl (fun _ => 0))), ((a 1), .inl (cI, 4, .inl (fun _ => 0))), ((a 2), .inl (cI, 4, .inl (fun _ => 0))), ((a 3), .inl (cI, 4, .inl (fun _ => 0))), ((a 4), .inl (cI, 4, .inl (fun _ => 0))), ((a 5), .inl (cI, 4, .inl (fun _ => 0))), ((a 6), .inl (cI, 12, .inl (fun _ => 0))), ((a 7), .inl (cI, 12, .inl (fun _ => 0))), ((a 8), .inl (cI, 5, .inl (fun _ => 0)))] t.heap ∧ va_D (va_A [(h0, .inr (0, [.int 0, .int 0, .int 0, .int 0, .null, .null, .null, .null, .null, .null, .null, .null, .null, .int 0, .int 0, .int 0]))] sz) [(h0, .inr (0, [.int 0, .int 0, .int 0, .int 0, .ref (a 0), .ref (a 1), .ref (a 2), .ref (a 3), .ref (a 4), .ref (a 5), .ref (a 6), .ref (a 7), .ref (a 8), .int 0, .int 0, .int 0])), ((a 0), .inl (cI, 4, .inl (fun _ => 0))), ((a 1), .inl (cI, 4, .inl (fun _ => 0))), ((a 2), .inl (cI, 4, .inl (fun _ => 0))), ((a 3), .inl (cI, 4, .inl (fun _ => 0))), ((a 4), .inl (cI, 4, .inl (fun _ => 0))), ((a 5), .inl (cI, 4, .inl (fun _ => 0))), ((a 6), .inl (cI, 12, .inl (fun _ => 0))), ((a 7), .inl (cI, 12, .inl (fun _ => 0))), ((a 8), .inl (cI, 5, .inl (fun _ => 0)))]) (va_A [(h0, .inr (0, [.int 0, .int 0, .int 0, .int 0, .null, .null, .null, .null, .null, .null, .null, .null, .null, .int 0, .int 0, .int 0]))] sz)) 9 53 (va_A [(h0, .inr (0, [.int 0, .int 0, .int 0, .int 0, .null, .null, .null, .null, .null, .null, .null, .null, .null, .int 0, .int 0, .int 0]))] sz) := by
  refine Met.ofW (cc := cX0_init) (maxL := 1) (ret := none) (by decide) rfl ?_
  intro p e s m args below meth c s₁ B hml hv
  obtain ⟨rfl, hsz, hP, hK, hD0⟩ := hv
  have hx := B.exec
  have hb := B.bytes
  have hr := B.returns
  have hts0 := atoms_spec (ws := Cond.code yX0_init cX0_init 1 none :: ic_tbl) B.pre
  have hts : ∀ x ∈ ic_tbl, x.before ([.ref h0] : List Value).toArray s = true := fun x h => hts0 x (List.mem_cons_of_mem _ h)
  have hown : s.vm.findClass RX0 = some m.cls := findClass_of_methodNamed B.named
  have hlocks := B.notSynchronized
  have hin : meth.name = "<init>" := (name_of_methodNamed B.named B.method).1
  subst hsz
  have hD := hD0.self (sz := s.heap.size)
  generalize hAe : va_A [(h0, .inr (0, [.int 0, .int 0, .int 0, .int 0, .null, .null, .null, .null, .null, .null, .null, .null, .null, .int 0, .int 0, .int 0]))] s.heap.size = A at hD ⊢
  have hA : ∀ q : Nat, s.heap.size ≤ q → A q := fun q h => by rw [← hAe]; exact Or.inr h
  have hS : va_S A s.heap s.heap [] := va_S.rf
  have hl := lv_entry ([.ref h0] : List Value) (n := 1) (Nat.le_of_ble_eq_true rfl)
  rw [lg_entry_eq]
  generalize (lg_sl ([.ref h0] : List Value) ++ List.replicate (1 - (lg_sl ([.ref h0] : List Value)).length) Slot.unset).toArray = ls at hl ⊢
  have hl : lv_has ls 1 [(0, .ref h0)] := hl
  refine lv_aload_n hx hb dX0_init_0 rfl (lv_at hl 0 rfl) ?_
  refine W.objInit hx hb hown (hts (.methodLink RX0 3 objectInit) iw_26) (hts (.instanceMethod objectInit) iw_19) (hts (.code objectInit ⟨#[0xb1]⟩ 1 none) iw_20) rfl (by rw [hml]; exact hl.1) rfl dX0_init_1 (Nat.le_of_ble_eq_true rfl) (Nat.le_of_ble_eq_true rfl) ?_
  refine W.eq (g2 := F0 m 4 ls []) rfl ?_
  refine lv_aload_n hx hb dX0_init_4 rfl (lv_at hl 0 rfl) ?_
  refine lv_iconst (v := 4) hx hb dX0_init_5 (by decide) ?_
  refine va_newa (atype := .int) (n := 4) (ty := .int) (a0 := (4, .inl (fun _ => 0))) (N' := 4) hx hb (hts (.arrayClass .int) iw_91) rfl hK hP hD hS hA (fun _ => rfl) (by decide) rfl (by decide) (Nat.le_of_ble_eq_true rfl) (Nat.le_of_ble_eq_true rfl) dX0_init_6 (fun q1 cA H hK9 hP hD hS => ?_)
  have ec : cI = cA := Option.some.inj (((hK.2 0 _ rfl).2).symm.trans ((hK9.2 4 _ rfl).2))
  subst ec; clear hK9
  have hP : va_P (dC, dI) vwCl [(h0, .inr (0, [.int 0, .int 0, .int 0, .int 0, .null, .null, .null, .null, .null, .null, .null, .null, .null, .int 0, .int 0, .int 0])), (q1, .inl (cI, 4, .inl (fun _ => 0)))] H := hP
  have hD : va_D A [(h0, .inr (0, [.int 0, .int 0, .int 0, .int 0, .null, .null, .null, .null, .null, .null, .null, .null, .null, .int 0, .int 0, .int 0])), (q1, .inl (cI, 4, .inl (fun _ => 0)))] := hD
  refine W.widen (k := 1) (n := 4) (Nat.le_of_ble_eq_true rfl) (Nat.le_of_ble_eq_true rfl) ?_
  refine va_putF (D := (dC, dI)) (ci := 0) (v := .ref q1) (ty := (.array .int)) (C := RX0) (T := TX0) (N := 16) hx hb hts (iw_u (ci := 0) inX0) tyX0 tyX0_ok nmX0 hown hK hP hD hS 0 rfl rfl 4 (by decide) (hts _ iw_38) (fun _ h9 => h9) rfl hin rfl (by decide +kernel) rfl rfl (Nat.le_of_ble_eq_true rfl) dX0_init_8 (fun H locs hP hD hS => ?_)
  have hP : va_P (dC, dI) vwCl [(h0, .inr (0, [.int 0, .int 0, .int 0, .int 0, .ref q1, .null, .null, .null, .null, .null, .null, .null, .null, .int 0, .int 0, .int 0])), (q1, .inl (cI, 4, .inl (fun _ => 0)))] H := hP
  have hD : va_D A [(h0, .inr (0, [.int 0, .int 0, .int 0, .int 0, .ref q1, .null, .null, .null, .null, .null, .null, .null, .null, .int 0, .int 0, .int 0])), (q1, .inl (cI, 4, .inl (fun _ => 0)))] := hD
  refine lv_aload_n hx hb dX0_init_11 rfl (lv_at hl 0 rfl) ?_
  refine lv_iconst (v := 4) hx hb dX0_init_12 (by decide) ?_
  refine va_newa (atype := .int) (n := 4) (ty := .int) (a0 := (4, .inl (fun _ => 0))) (N' := 4) hx hb (hts (.arrayClass .int) iw_91) rfl hK hP hD hS hA (fun _ => rfl) (by decide) rfl (by decide) (Nat.le_of_ble_eq_true rfl) (Nat.le_of_ble_eq_true rfl) dX0_init_13 (fun q2 cA H hK9 hP hD hS => ?_)
  have ec : cI = cA := Option.some.inj (((hK.2 0 _ rfl).2).symm.trans ((hK9.2 4 _ rfl).2))
  subst ec; clear hK9
  have hP : va_P (dC, dI) vwCl [(h0, .inr (0, [.int 0, .int 0, .int 0, .int 0, .ref q1, .null, .null, .null, .null, .null, .null, .null, .null, .int 0, .int 0, .int 0])), (q1, .inl (cI, 4, .inl (fun _ => 0))), (q2, .inl (cI, 4, .inl (fun _ => 0)))] H := hP
  have hD : va_D A [(h0, .inr (0, [.int 0, .int 0, .int 0, .int 0, .ref q1, .null, .null, .null, .null, .null, .null, .null, .null, .int 0, .int 0, .int 0])), (q1, .inl (cI, 4, .inl (fun _ => 0))), (q2, .inl (cI, 4, .inl (fun _ => 0)))] := hD
  refine W.widen (k := 2) (n := 8) (Nat.le_of_ble_eq_true rfl) (Nat.le_of_ble_eq_true rfl) ?_
  refine va_putF (D := (dC, dI)) (ci := 0) (v := .ref q2) (ty := (.array .int)) (C := RX0) (T := TX0) (N := 16) hx hb hts (iw_u (ci := 0) inX0) tyX0 tyX0_ok nmX0 hown hK hP hD hS 0 rfl rfl 5 (by decide) (hts _ iw_39) (fun _ h9 => h9) rfl hin rfl (by decide +kernel) rfl rfl (Nat.le_of_ble_eq_true rfl) dX0_init_15 (fun H locs hP hD hS => ?_)
  have hP : va_P (dC, dI) vwCl [(h0, .inr (0, [.int 0, .int 0, .int 0, .int 0, .ref q1, .ref q2, .null, .null, .null, .null, .null, .null, .null, .int 0, .int 0, .int 0])), (q1, .inl (cI, 4, .inl (fun _ => 0))), (q2, .inl (cI, 4, .inl (fun _ => 0)))] H := hP
  have hD : va_D A [(h0, .inr (0, [.int 0, .int 0, .int 0, .int 0, .ref q1, .ref q2, .null, .null, .null, .null, .null, .null, .null, .int 0, .int 0, .int 0])), (q1, .inl (cI, 4, .inl (fun _ => 0))), (q2, .inl (cI, 4, .inl (fun _ => 0)))] := hD
  refine lv_aload_n hx hb dX0_init_18 rfl (lv_at hl 0 rfl) ?_
  refine lv_iconst (v := 4) hx hb dX0_init_19 (by decide) ?_
  refine va_newa (atype := .int) (n := 4) (ty := .int) (a0 := (4, .inl (fun _ => 0))) (N' := 4) hx hb (hts (.arrayClass .int) iw_91) rfl hK hP hD hS hA (fun _ => rfl) (by decide) rfl (by decide) (Nat.le_of_ble_eq_true rfl) (Nat.le_of_ble_eq_true rfl) dX0_init_20 (fun q3 cA H hK9 hP hD hS => ?_)
  have ec : cI = cA := Option.some.inj (((hK.2 0 _ rfl).2).symm.trans ((hK9.2 4 _ rfl).2))
  subst ec; clear hK9
  have hP : va_P (dC, dI) vwCl [(h0, .inr (0, [.int 0, .int 0, .int 0, .int 0, .ref q1, .ref q2, .null, .null, .null, .null, .null, .null, .null, .int 0, .int 0, .int 0])), (q1, .inl (cI, 4, .inl (fun _ => 0))), (q2, .inl (cI, 4, .inl (fun _ => 0))), (q3, .inl (cI, 4, .inl (fun _ => 0)))] H := hP
  have hD : va_D A [(h0, .inr (0, [.int 0, .int 0, .int 0, .int 0, .ref q1, .ref q2, .null, .null, .null, .null, .null, .null, .null, .int 0, .int 0, .int 0])), (q1, .inl (cI, 4, .inl (fun _ => 0))), (q2, .inl (cI, 4, .inl (fun _ => 0))), (q3, .inl (cI, 4, .inl (fun _ => 0)))] := hD
  refine W.widen (k := 3) (n := 12) (Nat.le_of_ble_eq_true rfl) (Nat.le_of_ble_eq_true rfl) ?_
  refine va_putF (D := (dC, dI)) (ci := 0) (v := .ref q3) (ty := (.array .int)) (C := RX0) (T := TX0) (N := 16) hx hb hts (iw_u (ci := 0) inX0) tyX0 tyX0_ok nmX0 hown hK hP hD hS 0 rfl rfl 6 (by decide) (hts _ iw_40) (fun _ h9 => h9) rfl hin rfl (by decide +kernel) rfl rfl (Nat.le_of_ble_eq_true rfl) dX0_init_22 (fun H locs hP hD hS => ?_)
  have hP : va_P (dC, dI) vwCl [(h0, .inr (0, [.int 0, .int 0, .int 0, .int 0, .ref q1, .ref q2, .ref q3, .null, .null, .null, .null, .null, .null, .int 0, .int 0, .int 0])), (q1, .inl (cI, 4, .inl (fun _ => 0))), (q2, .inl (cI, 4, .inl (fun _ => 0))), (q3, .inl (cI, 4, .inl (fun _ => 0)))] H := hP
  have hD : va_D A [(h0, .inr (0, [.int 0, .int 0, .int 0, .int 0, .ref q1, .ref q2, .ref q3, .null, .null, .null, .null, .null, .null, .int 0, .int 0, .int 0])), (q1, .inl (cI, 4, .inl (fun _ => 0))), (q2, .inl (cI, 4, .inl (fun _ => 0))), (q3, .inl (cI, 4, .inl (fun _ => 0)))] := hD
  refine lv_aload_n hx hb dX0_init_25 rfl (lv_at hl 0 rfl) ?_
  refine lv_iconst (v := 4) hx hb dX0_init_26 (by decide) ?_
  refine va_newa (atype := .int) (n := 4) (ty := .int) (a0 := (4, .inl (fun _ => 0))) (N' := 4) hx hb (hts (.arrayClass .int) iw_91) rfl hK hP hD hS hA (fun _ => rfl) (by decide) rfl (by decide) (Nat.le_of_ble_eq_true rfl) (Nat.le_of_ble_eq_true rfl) dX0_init_27 (fun q4 cA H hK9 hP hD hS => ?_)
  have ec : cI = cA := Option.some.inj (((hK.2 0 _ rfl).2).symm.trans ((hK9.2 4 _ rfl).2))
  subst ec; clear hK9
  have hP : va_P (dC, dI) vwCl [(h0, .inr (0, [.int 0, .int 0, .int 0, .int 0, .ref q1, .ref q2, .ref q3, .null, .null, .null, .null, .null, .null, .int 0, .int 0, .int 0])), (q1, .inl (cI, 4, .inl (fun _ => 0))), (q2, .inl (cI, 4, .inl (fun _ => 0))), (q3, .inl (cI, 4, .inl (fun _ => 0))), (q4, .inl (cI, 4, .inl (fun _ => 0)))] H := hP
  have hD : va_D A [(h0, .inr (0, [.int 0, .int 0, .int 0, .int 0, .ref q1, .ref q2, .ref q3, .null, .null, .null, .null, .null, .null, .int 0, .int 0, .int 0])), (q1, .inl (cI, 4, .inl (fun _ => 0))), (q2, .inl (cI, 4, .inl (fun _ => 0))), (q3, .inl (cI, 4, .inl (fun _ => 0))), (q4, .inl (cI, 4, .inl (fun _ => 0)))] := hD
  refine W.widen (k := 4) (n := 16) (Nat.le_of_ble_eq_true rfl) (Nat.le_of_ble_eq_true rfl) ?_
  refine va_putF (D := (dC, dI)) (ci := 0) (v := .ref q4) (ty := (.array .int)) (C := RX0) (T := TX0) (N := 16) hx hb hts (iw_u (ci := 0) inX0) tyX0 tyX0_ok nmX0 hown hK hP hD hS 0 rfl rfl 7 (by decide) (hts _ iw_41) (fun _ h9 => h9) rfl hin rfl (by decide +kernel) rfl rfl (Nat.le_of_ble_eq_true rfl) dX0_init_29 (fun H locs hP hD hS => ?_)
  have hP : va_P (dC, dI) vwCl [(h0, .inr (0, [.int 0, .int 0, .int 0, .int 0, .ref q1, .ref q2, .ref q3, .ref q4, .null, .null, .null, .null, .null, .int 0, .int 0, .int 0])), (q1, .inl (cI, 4, .inl (fun _ => 0))), (q2, .inl (cI, 4, .inl (fun _ => 0))), (q3, .inl (cI, 4, .inl (fun _ => 0))), (q4, .inl (cI, 4, .inl (fun _ => 0)))] H := hP
  have hD : va_D A [(h0, .inr (0, [.int 0, .int 0, .int 0, .int 0, .ref q1, .ref q2, .ref q3, .ref q4, .null, .null, .null, .null, .null, .int 0, .int 0, .int 0])), (q1, .inl (cI, 4, .inl (fun _ => 0))), (q2, .inl (cI, 4, .inl (fun _ => 0))), (q3, .inl (cI, 4, .inl (fun _ => 0))), (q4, .inl (cI, 4, .inl (fun _ => 0)))] := hD
  refine lv_aload_n hx hb dX0_init_32 rfl (lv_at hl 0 rfl) ?_
  refine lv_iconst (v := 4) hx hb dX0_init_33 (by decide) ?_
  refine va_newa (atype := .int) (n := 4) (ty := .int) (a0 := (4, .inl (fun _ => 0))) (N' := 4) hx hb (hts (.arrayClass .int) iw_91) rfl hK hP hD hS hA (fun _ => rfl) (by decide) rfl (by decide) (Nat.le_of_ble_eq_true rfl) (Nat.le_of_ble_eq_true rfl) dX0_init_34 (fun q5 cA H hK9 hP hD hS => ?_)
  have ec : cI = cA := Option.some.inj (((hK.2 0 _ rfl).2).symm.trans ((hK9.2 4 _ rfl).2))
  subst ec; clear hK9
  have hP : va_P (dC, dI) vwCl [(h0, .inr (0, [.int 0, .int 0, .int 0, .int 0, .ref q1, .ref q2, .ref q3, .ref q4, .null, .null, .null, .null, .null, .int 0, .int 0, .int 0])), (q1, .inl (cI, 4, .inl (fun _ => 0))), (q2, .inl (cI, 4, .inl (fun _ => 0))), (q3, .inl (cI, 4, .inl (fun _ => 0))), (q4, .inl (cI, 4, .inl (fun _ => 0))), (q5, .inl (cI, 4, .inl (fun _ => 0)))] H := hP
  have hD : va_D A [(h0, .inr (0, [.int 0, .int 0, .int 0, .int 0, .ref q1, .ref q2, .ref q3, .ref q4, .null, .null, .null, .null, .null, .int 0, .int 0, .int 0])), (q1, .inl (cI, 4, .inl (fun _ => 0))), (q2, .inl (cI, 4, .inl (fun _ => 0))), (q3, .inl (cI, 4, .inl (fun _ => 0))), (q4, .inl (cI, 4, .inl (fun _ => 0))), (q5, .inl (cI, 4, .inl (fun _ => 0)))] := hD
  refine W.widen (k := 5) (n := 20) (Nat.le_of_ble_eq_true rfl) (Nat.le_of_ble_eq_true rfl) ?_
  refine va_putF (D := (dC, dI)) (ci := 0) (v := .ref q5) (ty := (.array .int)) (C := RX0) (T := TX0) (N := 16) hx hb hts (iw_u (ci := 0) inX0) tyX0 tyX0_ok nmX0 hown hK hP hD hS 0 rfl rfl 8 (by decide) (hts _ iw_42) (fun _ h9 => h9) rfl hin rfl (by decide +kernel) rfl rfl (Nat.le_of_ble_eq_true rfl) dX0_init_36 (fun H locs hP hD hS => ?_)
  have hP : va_P (dC, dI) vwCl [(h0, .inr (0, [.int 0, .int 0, .int 0, .int 0, .ref q1, .ref q2, .ref q3, .ref q4, .ref q5, .null, .null, .null, .null, .int 0, .int 0, .int 0])), (q1, .inl (cI, 4, .inl (fun _ => 0))), (q2, .inl (cI, 4, .inl (fun _ => 0))), (q3, .inl (cI, 4, .inl (fun _ => 0))), (q4, .inl (cI, 4, .inl (fun _ => 0))), (q5, .inl (cI, 4, .inl (fun _ => 0)))] H := hP
  have hD : va_D A [(h0, .inr (0, [.int 0, .int 0, .int 0, .int 0, .ref q1, .ref q2, .ref q3, .ref q4, .ref q5, .null, .null, .null, .null, .int 0, .int 0, .int 0])), (q1, .inl (cI, 4, .inl (fun _ => 0))), (q2, .inl (cI, 4, .inl (fun _ => 0))), (q3, .inl (cI, 4, .inl (fun _ => 0))), (q4, .inl (cI, 4, .inl (fun _ => 0))), (q5, .inl (cI, 4, .inl (fun _ => 0)))] := hD
  refine lv_aload_n hx hb dX0_init_39 rfl (lv_at hl 0 rfl) ?_
  refine lv_iconst (v := 4) hx hb dX0_init_40 (by decide) ?_
  refine va_newa (atype := .int) (n := 4) (ty := .int) (a0 := (4, .inl (fun _ => 0))) (N' := 4) hx hb (hts (.arrayClass .int) iw_91) rfl hK hP hD hS hA (fun _ => rfl) (by decide) rfl (by decide) (Nat.le_of_ble_eq_true rfl) (Nat.le_of_ble_eq_true rfl) dX0_init_41 (fun q6 cA H hK9 hP hD hS => ?_)
  have ec : cI = cA := Option.some.inj (((hK.2 0 _ rfl).2).symm.trans ((hK9.2 4 _ rfl).2))
  subst ec; clear hK9
  have hP : va_P (dC, dI) vwCl [(h0, .inr (0, [.int 0, .int 0, .int 0, .int 0, .ref q1, .ref q2, .ref q3, .ref q4, .ref q5, .null, .null, .null, .null, .int 0, .int 0, .int 0])), (q1, .inl (cI, 4, .inl (fun _ => 0))), (q2, .inl (cI, 4, .inl (fun _ => 0))), (q3, .inl (cI, 4, .inl (fun _ => 0))), (q4, .inl (cI, 4, .inl (fun _ => 0))), (q5, .inl (cI, 4, .inl (fun _ => 0))), (q6, .inl (cI, 4, .inl (fun _ => 0)))] H := hP
  have hD : va_D A [(h0, .inr (0, [.int 0, .int 0, .int 0, .int 0, .ref q1, .ref q2, .ref q3, .ref q4, .ref q5, .null, .null, .null, .null, .int 0, .int 0, .int 0])), (q1, .inl (cI, 4, .inl (fun _ => 0))), (q2, .inl (cI, 4, .inl (fun _ => 0))), (q3, .inl (cI, 4, .inl (fun _ => 0))), (q4, .inl (cI, 4, .inl (fun _ => 0))), (q5, .inl (cI, 4, .inl (fun _ => 0))), (q6, .inl (cI, 4, .inl (fun _ => 0)))] := hD
  refine W.widen (k := 6) (n := 24) (Nat.le_of_ble_eq_true rfl) (Nat.le_of_ble_eq_true rfl) ?_
  refine va_putF (D := (dC, dI)) (ci := 0) (v := .ref q6) (ty := (.array .int)) (C := RX0) (T := TX0) (N := 16) hx hb hts (iw_u (ci := 0) inX0) tyX0 tyX0_ok nmX0 hown hK hP hD hS 0 rfl rfl 9 (by decide) (hts _ iw_45) (fun _ h9 => h9) rfl hin rfl (by decide +kernel) rfl rfl (Nat.le_of_ble_eq_true rfl) dX0_init_43 (fun H locs hP hD hS => ?_)
  have hP : va_P (dC, dI) vwCl [(h0, .inr (0, [.int 0, .int 0, .int 0, .int 0, .ref q1, .ref q2, .ref q3, .ref q4, .ref q5, .ref q6, .null, .null, .null, .int 0, .int 0, .int 0])), (q1, .inl (cI, 4, .inl (fun _ => 0))), (q2, .inl (cI, 4, .inl (fun _ => 0))), (q3, .inl (cI, 4, .inl (fun _ => 0))), (q4, .inl (cI, 4, .inl (fun _ => 0))), (q5, .inl (cI, 4, .inl (fun _ => 0))), (q6, .inl (cI, 4, .inl (fun _ => 0)))] H := hP
  have hD : va_D A [(h0, .inr (0, [.int 0, .int 0, .int 0, .int 0, .ref q1, .ref q2, .ref q3, .ref q4, .ref q5, .ref q6, .null, .null, .null, .int 0, .int 0, .int 0])), (q1, .inl (cI, 4, .inl (fun _ => 0))), (q2, .inl (cI, 4, .inl (fun _ => 0))), (q3, .inl (cI, 4, .inl (fun _ => 0))), (q4, .inl (cI, 4, .inl (fun _ => 0))), (q5, .inl (cI, 4, .inl (fun _ => 0))), (q6, .inl (cI, 4, .inl (fun _ => 0)))] := hD
  refine lv_aload_n hx hb dX0_init_46 rfl (lv_at hl 0 rfl) ?_
  refine lv_bipush (v := 12) hx hb dX0_init_47 (by decide) ?_
  refine va_newa (atype := .int) (n := 12) (ty := .int) (a0 := (12, .inl (fun _ => 0))) (N' := 12) hx hb (hts (.arrayClass .int) iw_91) rfl hK hP hD hS hA (fun _ => rfl) (by decide) rfl (by decide) (Nat.le_of_ble_eq_true rfl) (Nat.le_of_ble_eq_true rfl) dX0_init_49 (fun q7 cA H hK9 hP hD hS => ?_)
  have ec : cI = cA := Option.some.inj (((hK.2 0 _ rfl).2).symm.trans ((hK9.2 4 _ rfl).2))
  subst ec; clear hK9
  have hP : va_P (dC, dI) vwCl [(h0, .inr (0, [.int 0, .int 0, .int 0, .int 0, .ref q1, .ref q2, .ref q3, .ref q4, .ref q5, .ref q6, .null, .null, .null, .int 0, .int 0, .int 0])), (q1, .inl (cI, 4, .inl (fun _ => 0))), (q2, .inl (cI, 4, .inl (fun _ => 0))), (q3, .inl (cI, 4, .inl (fun _ => 0))), (q4, .inl (cI, 4, .inl (fun _ => 0))), (q5, .inl (cI, 4, .inl (fun _ => 0))), (q6, .inl (cI, 4, .inl (fun _ => 0))), (q7, .inl (cI, 12, .inl (fun _ => 0)))] H := hP
  have hD : va_D A [(h0, .inr (0, [.int 0, .int 0, .int 0, .int 0, .ref q1, .ref q2, .ref q3, .ref q4, .ref q5, .ref q6, .null, .null, .null, .int 0, .int 0, .int 0])), (q1, .inl (cI, 4, .inl (fun _ => 0))), (q2, .inl (cI, 4, .inl (fun _ => 0))), (q3, .inl (cI, 4, .inl (fun _ => 0))), (q4, .inl (cI, 4, .inl (fun _ => 0))), (q5, .inl (cI, 4, .inl (fun _ => 0))), (q6, .inl (cI, 4, .inl (fun _ => 0))), (q7, .inl (cI, 12, .inl (fun _ => 0)))] := hD
  refine W.widen (k := 7) (n := 36) (Nat.le_of_ble_eq_true rfl) (Nat.le_of_ble_eq_true rfl) ?_
  refine va_putF (D := (dC, dI)) (ci := 0) (v := .ref q7) (ty := (.array .int)) (C := RX0) (T := TX0) (N := 16) hx hb hts (iw_u (ci := 0) inX0) tyX0 tyX0_ok nmX0 hown hK hP hD hS 0 rfl rfl 10 (by decide) (hts _ iw_47) (fun _ h9 => h9) rfl hin rfl (by decide +kernel) rfl rfl (Nat.le_of_ble_eq_true rfl) dX0_init_51 (fun H locs hP hD hS => ?_)
  have hP : va_P (dC, dI) vwCl [(h0, .inr (0, [.int 0, .int 0, .int 0, .int 0, .ref q1, .ref q2, .ref q3, .ref q4, .ref q5, .ref q6, .ref q7, .null, .null, .int 0, .int 0, .int 0])), (q1, .inl (cI, 4, .inl (fun _ => 0))), (q2, .inl (cI, 4, .inl (fun _ => 0))), (q3, .inl (cI, 4, .inl (fun _ => 0))), (q4, .inl (cI, 4, .inl (fun _ => 0))), (q5, .inl (cI, 4, .inl (fun _ => 0))), (q6, .inl (cI, 4, .inl (fun _ => 0))), (q7, .inl (cI, 12, .inl (fun _ => 0)))] H := hP
  have hD : va_D A [(h0, .inr (0, [.int 0, .int 0, .int 0, .int 0, .ref q1, .ref q2, .ref q3, .ref q4, .ref q5, .ref q6, .ref q7, .null, .null, .int 0, .int 0, .int 0])), (q1, .inl (cI, 4, .inl (fun _ => 0))), (q2, .inl (cI, 4, .inl (fun _ => 0))), (q3, .inl (cI, 4, .inl (fun _ => 0))), (q4, .inl (cI, 4, .inl (fun _ => 0))), (q5, .inl (cI, 4, .inl (fun _ => 0))), (q6, .inl (cI, 4, .inl (fun _ => 0))), (q7, .inl (cI, 12, .inl (fun _ => 0)))] := hD
  refine lv_aload_n hx hb dX0_init_54 rfl (lv_at hl 0 rfl) ?_
  refine lv_bipush (v := 12) hx hb dX0_init_55 (by decide) ?_
  refine va_newa (atype := .int) (n := 12) (ty := .int) (a0 := (12, .inl (fun _ => 0))) (N' := 12) hx hb (hts (.arrayClass .int) iw_91) rfl hK hP hD hS hA (fun _ => rfl) (by decide) rfl (by decide) (Nat.le_of_ble_eq_true rfl) (Nat.le_of_ble_eq_true rfl) dX0_init_57 (fun q8 cA H hK9 hP hD hS => ?_)
  have ec : cI = cA := Option.some.inj (((hK.2 0 _ rfl).2).symm.trans ((hK9.2 4 _ rfl).2))
  subst ec; clear hK9
  have hP : va_P (dC, dI) vwCl [(h0, .inr (0, [.int 0, .int 0, .int 0, .int 0, .ref q1, .ref q2, .ref q3, .ref q4, .ref q5, .ref q6, .ref q7, .null, .null, .int 0, .int 0, .int 0])), (q1, .inl (cI, 4, .inl (fun _ => 0))), (q2, .inl (cI, 4, .inl (fun _ => 0))), (q3, .inl (cI, 4, .inl (fun _ => 0))), (q4, .inl (cI, 4, .inl (fun _ => 0))), (q5, .inl (cI, 4, .inl (fun _ => 0))), (q6, .inl (cI, 4, .inl (fun _ => 0))), (q7, .inl (cI, 12, .inl (fun _ => 0))), (q8, .inl (cI, 12, .inl (fun _ => 0)))] H := hP
  have hD : va_D A [(h0, .inr (0, [.int 0, .int 0, .int 0, .int 0, .ref q1, .ref q2, .ref q3, .ref q4, .ref q5, .ref q6, .ref q7, .null, .null, .int 0, .int 0, .int 0])), (q1, .inl (cI, 4, .inl (fun _ => 0))), (q2, .inl (cI, 4, .inl (fun _ => 0))), (q3, .inl (cI, 4, .inl (fun _ => 0))), (q4, .inl (cI, 4, .inl (fun _ => 0))), (q5, .inl (cI, 4, .inl (fun _ => 0))), (q6, .inl (cI, 4, .inl (fun _ => 0))), (q7, .inl (cI, 12, .inl (fun _ => 0))), (q8, .inl (cI, 12, .inl (fun _ => 0)))] := hD
  refine W.widen (k := 8) (n := 48) (Nat.le_of_ble_eq_true rfl) (Nat.le_of_ble_eq_true rfl) ?_
  refine va_putF (D := (dC, dI)) (ci := 0) (v := .ref q8) (ty := (.array .int)) (C := RX0) (T := TX0) (N := 16) hx hb hts (iw_u (ci := 0) inX0) tyX0 tyX0_ok nmX0 hown hK hP hD hS 0 rfl rfl 11 (by decide) (hts _ iw_49) (fun _ h9 => h9) rfl hin rfl (by decide +kernel) rfl rfl (Nat.le_of_ble_eq_true rfl) dX0_init_59 (fun H locs hP hD hS => ?_)
  have hP : va_P (dC, dI) vwCl [(h0, .inr (0, [.int 0, .int 0, .int 0, .int 0, .ref q1, .ref q2, .ref q3, .ref q4, .ref q5, .ref q6, .ref q7, .ref q8, .null, .int 0, .int 0, .int 0])), (q1, .inl (cI, 4, .inl (fun _ => 0))), (q2, .inl (cI, 4, .inl (fun _ => 0))), (q3, .inl (cI, 4, .inl (fun _ => 0))), (q4, .inl (cI, 4, .inl (fun _ => 0))), (q5, .inl (cI, 4, .inl (fun _ => 0))), (q6, .inl (cI, 4, .inl (fun _ => 0))), (q7, .inl (cI, 12, .inl (fun _ => 0))), (q8, .inl (cI, 12, .inl (fun _ => 0)))] H := hP
  have hD : va_D A [(h0, .inr (0, [.int 0, .int 0, .int 0, .int 0, .ref q1, .ref q2, .ref q3, .ref q4, .ref q5, .ref q6, .ref q7, .ref q8, .null, .int 0, .int 0, .int 0])), (q1, .inl (cI, 4, .inl (fun _ => 0))), (q2, .inl (cI, 4, .inl (fun _ => 0))), (q3, .inl (cI, 4, .inl (fun _ => 0))), (q4, .inl (cI, 4, .inl (fun _ => 0))), (q5, .inl (cI, 4, .inl (fun _ => 0))), (q6, .inl (cI, 4, .inl (fun _ => 0))), (q7, .inl (cI, 12, .inl (fun _ => 0))), (q8, .inl (cI, 12, .inl (fun _ => 0)))] := hD
  refine lv_aload_n hx hb dX0_init_62 rfl (lv_at hl 0 rfl) ?_
  refine lv_iconst (v := 5) hx hb dX0_init_63 (by decide) ?_
  refine va_newa (atype := .int) (n := 5) (ty := .int) (a0 := (5, .inl (fun _ => 0))) (N' := 5) hx hb (hts (.arrayClass .int) iw_91) rfl hK hP hD hS hA (fun _ => rfl) (by decide) rfl (by decide) (Nat.le_of_ble_eq_true rfl) (Nat.le_of_ble_eq_true rfl) dX0_init_64 (fun q9 cA H hK9 hP hD hS => ?_)
  have ec : cI = cA := Option.some.inj (((hK.2 0 _ rfl).2).symm.trans ((hK9.2 4 _ rfl).2))
  subst ec; clear hK9
  have hP : va_P (dC, dI) vwCl [(h0, .inr (0, [.int 0, .int 0, .int 0, .int 0, .ref q1, .ref q2, .ref q3, .ref q4, .ref q5, .ref q6, .ref q7, .ref q8, .null, .int 0, .int 0, .int 0])), (q1, .inl (cI, 4, .inl (fun _ => 0))), (q2, .inl (cI, 4, .inl (fun _ => 0))), (q3, .inl (cI, 4, .inl (fun _ => 0))), (q4, .inl (cI, 4, .inl (fun _ => 0))), (q5, .inl (cI, 4, .inl (fun _ => 0))), (q6, .inl (cI, 4, .inl (fun _ => 0))), (q7, .inl (cI, 12, .inl (fun _ => 0))), (q8, .inl (cI, 12, .inl (fun _ => 0))), (q9, .inl (cI, 5, .inl (fun _ => 0)))] H := hP
  have hD : va_D A [(h0, .inr (0, [.int 0, .int 0, .int 0, .int 0, .ref q1, .ref q2, .ref q3, .ref q4, .ref q5, .ref q6, .ref q7, .ref q8, .null, .int 0, .int 0, .int 0])), (q1, .inl (cI, 4, .inl (fun _ => 0))), (q2, .inl (cI, 4, .inl (fun _ => 0))), (q3, .inl (cI, 4, .inl (fun _ => 0))), (q4, .inl (cI, 4, .inl (fun _ => 0))), (q5, .inl (cI, 4, .inl (fun _ => 0))), (q6, .inl (cI, 4, .inl (fun _ => 0))), (q7, .inl (cI, 12, .inl (fun _ => 0))), (q8, .inl (cI, 12, .inl (fun _ => 0))), (q9, .inl (cI, 5, .inl (fun _ => 0)))] := hD
  refine W.widen (k := 9) (n := 53) (Nat.le_of_ble_eq_true rfl) (Nat.le_of_ble_eq_true rfl) ?_
  refine va_putF (D := (dC, dI)) (ci := 0) (v := .ref q9) (ty := (.array .int)) (C := RX0) (T := TX0) (N := 16) hx hb hts (iw_u (ci := 0) inX0) tyX0 tyX0_ok nmX0 hown hK hP hD hS 0 rfl rfl 12 (by decide) (hts _ iw_51) (fun _ h9 => h9) rfl hin rfl (by decide +kernel) rfl rfl (Nat.le_of_ble_eq_true rfl) dX0_init_66 (fun H locs hP hD hS => ?_)
  have hP : va_P (dC, dI) vwCl [(h0, .inr (0, [.int 0, .int 0, .int 0, .int 0, .ref q1, .ref q2, .ref q3, .ref q4, .ref q5, .ref q6, .ref q7, .ref q8, .ref q9, .int 0, .int 0, .int 0])), (q1, .inl (cI, 4, .inl (fun _ => 0))), (q2, .inl (cI, 4, .inl (fun _ => 0))), (q3, .inl (cI, 4, .inl (fun _ => 0))), (q4, .inl (cI, 4, .inl (fun _ => 0))), (q5, .inl (cI, 4, .inl (fun _ => 0))), (q6, .inl (cI, 4, .inl (fun _ => 0))), (q7, .inl (cI, 12, .inl (fun _ => 0))), (q8, .inl (cI, 12, .inl (fun _ => 0))), (q9, .inl (cI, 5, .inl (fun _ => 0)))] H := hP
  have hD : va_D A [(h0, .inr (0, [.int 0, .int 0, .int 0, .int 0, .ref q1, .ref q2, .ref q3, .ref q4, .ref q5, .ref q6, .ref q7, .ref q8, .ref q9, .int 0, .int 0, .int 0])), (q1, .inl (cI, 4, .inl (fun _ => 0))), (q2, .inl (cI, 4, .inl (fun _ => 0))), (q3, .inl (cI, 4, .inl (fun _ => 0))), (q4, .inl (cI, 4, .inl (fun _ => 0))), (q5, .inl (cI, 4, .inl (fun _ => 0))), (q6, .inl (cI, 4, .inl (fun _ => 0))), (q7, .inl (cI, 12, .inl (fun _ => 0))), (q8, .inl (cI, 12, .inl (fun _ => 0))), (q9, .inl (cI, 5, .inl (fun _ => 0)))] := hD
  exact W.vret hx hb hr (fun t ht hW => ⟨⟨(), rfl, trivial, (fun i => ([q1, q2, q3, q4, q5, q6, q7, q8, q9] : List Nat).getD i 0), by rw [ht]; exact hP, hD⟩, hS.F ht⟩) hS.2.2 dX0_init_69
set_option maxRecDepth 100000 in
set_option maxHeartbeats 4000000 in
theorem c_X2 (l : Launch) (dC : Nat → ClassId) (dI : Nat → Nat → Nat) (cI cB cZ cG : ClassId) (h0 sz : Nat) : Met l yX2_init (Cond.code yX2_init cX2_init 1 none :: ic_tbl) { frames := 1, cells := 7, slots := 172, locals := 36 } (va_Pc [.ref h0] (fun U => U.heap.size = sz ∧ va_P (dC, dI) vwCl [(h0, .inr (2, [.null, .null, .null]))] U.heap ∧ va_K (dC, dI) vwCl [(cI, .int), (cB, .byte), (cZ, .boolean), (cG, .array .int)] U ∧ va_D (fun _ => True) [(h0, .inr (2, [.null, .null, .null]))] ∧ mg_O cI cG U)) (va_Qv (fun (_ : Unit) => True) (fun _ t => ∃ a : Nat → Nat, va_P (dC, dI) vwCl [(h0, .inr (2, [.ref (a 0), .ref (a 5), .ref (a 6)])), ((a 0), .inl (cG, 4, .inr (.inr (.inr (.inr (fun i => if i < 4 then some (a (1 + i)) else none)))))), ((a 1), .inl (cI, 40, .inl (fun _ => 0))), ((a 2), .inl (cI, 40, .inl (fun _ => 0))), ((a 3), .inl (cI, 40, .inl (fun _ => 0))), ((a 4), .inl (cI, 40, .inl (fun _ => 0))), ((a 5), .inl (cI, 4, .inl (upd (upd (upd (upd (fun _ => 0) 0 (-1)) 1 (-1)) 2 (-1)) 3 (-1)))), ((a 6), .inl (cI, 4, .inl (fun _ => 0)))] t.heap ∧ va_D (va_A [(h0, .inr (2, [.null, .null, .null]))] sz) [(h0, .inr (2, [.ref (a 0), .ref (a 5), .ref (a 6)])), ((a 0), .inl (cG, 4, .inr (.inr (.inr (.inr (fun i => if i < 4 then some (a (1 + i)) else none)))))), ((a 1), .inl (cI, 40, .inl (fun _ => 0))), ((a 2), .inl (cI, 40, .inl (fun _ => 0))), ((a 3), .inl (cI, 40, .inl (fun _ => 0))), ((a 4), .inl (cI, 40, .inl (fun _ => 0))), ((a 5), .inl (cI, 4, .inl (upd (upd (upd (upd (fun _ => 0) 0 (-1)) 1 (-1)) 2 (-1)) 3 (-1)))), ((a 6), .inl (cI, 4, .inl (fun _ => 0)))]) (va_A [(h0, .inr (2, [.null, .null, .null]))] sz)) 7 172 (va_A [(h0, .inr (2, [.null, .null, .null]))] sz) := by
  refine Met.ofW (cc := cX2_init) (maxL := 1) (ret := none) (by decide) rfl ?_
  intro p e s m args below meth c s₁ B hml hv
  obtain ⟨rfl, hsz, hP, hK, hD0, hO⟩ := hv
  have hx := B.exec
  have hb := B.bytes
  have hr := B.returns
  have hts0 := atoms_spec (ws := Cond.code yX2_init cX2_init 1 none :: ic_tbl) B.pre
  have hts : ∀ x ∈ ic_tbl, x.before ([.ref h0] : List Value).toArray s = true := fun x h => hts0 x (List.mem_cons_of_mem _ h)
  have hown : s.vm.findClass RX2 = some m.cls := findClass_of_methodNamed B.named
  have hlocks := B.notSynchronized
  have hin : meth.name = "<init>" := (name_of_methodNamed B.named B.method).1
  subst hsz
  have hD := hD0.self (sz := s.heap.size)
  generalize hAe : va_A [(h0, .inr (2, [.null, .null, .null]))] s.heap.size = A at hD ⊢
  have hA : ∀ q : Nat, s.heap.size ≤ q → A q := fun q h => by rw [← hAe]; exact Or.inr h
  have hS : va_S A s.heap s.heap [] := va_S.rf
  have hl := lv_entry ([.ref h0] : List Value) (n := 1) (Nat.le_of_ble_eq_true rfl)
  rw [lg_entry_eq]
  generalize (lg_sl ([.ref h0] : List Value) ++ List.replicate (1 - (lg_sl ([.ref h0] : List Value)).length) Slot.unset).toArray = ls at hl ⊢
  have hl : lv_has ls 1 [(0, .ref h0)] := hl
  refine lv_aload_n hx hb dX2_init_0 rfl (lv_at hl 0 rfl) ?_
  refine W.objInit hx hb hown (hts (.methodLink RX2 3 objectInit) iw_153) (hts (.instanceMethod objectInit) iw_19) (hts (.code objectInit ⟨#[0xb1]⟩ 1 none) iw_20) rfl (by rw [hml]; exact hl.1) rfl dX2_init_1 (Nat.le_of_ble_eq_true rfl) (Nat.le_of_ble_eq_true rfl) ?_
  refine W.eq (g2 := F0 m 4 ls []) rfl ?_
  refine lv_aload_n hx hb dX2_init_4 rfl (lv_at hl 0 rfl) ?_
  refine lv_iconst (v := 4) hx hb dX2_init_5 (by decide) ?_
  refine lv_bipush (v := 40) hx hb dX2_init_6 (by decide) ?_
  refine mg_va (n := 4) (k := 40) (N := 4) (K := 40) hx hb hown (hts _ iw_154) (hts (.arrayClass .int) iw_91) hO hP hD hS hA (by decide) (by decide) rfl rfl (by decide) (by decide) (Nat.le_of_ble_eq_true rfl) (Nat.le_of_ble_eq_true rfl) dX2_init_8 (fun q1 rq1 H locs hP hD hS => ?_)
  have hP : va_P (dC, dI) vwCl [(h0, .inr (2, [.null, .null, .null])), (q1, .inl (cG, 4, .inr (.inr (.inr (.inr (fun i => if i < 4 then some (rq1 i) else none)))))), ((rq1 0), .inl (cI, 40, .inl (fun _ => 0))), ((rq1 1), .inl (cI, 40, .inl (fun _ => 0))), ((rq1 2), .inl (cI, 40, .inl (fun _ => 0))), ((rq1 3), .inl (cI, 40, .inl (fun _ => 0)))] H := hP
  have hD : va_D A [(h0, .inr (2, [.null, .null, .null])), (q1, .inl (cG, 4, .inr (.inr (.inr (.inr (fun i => if i < 4 then some (rq1 i) else none)))))), ((rq1 0), .inl (cI, 40, .inl (fun _ => 0))), ((rq1 1), .inl (cI, 40, .inl (fun _ => 0))), ((rq1 2), .inl (cI, 40, .inl (fun _ => 0))), ((rq1 3), .inl (cI, 40, .inl (fun _ => 0)))] := hD
  refine W.widen (k := 5) (n := 164) (Nat.le_of_ble_eq_true rfl) (Nat.le_of_ble_eq_true rfl) ?_
  refine va_putF (D := (dC, dI)) (ci := 2) (v := .ref q1) (ty := (.array (.array .int))) (C := RX2) (T := TX2) (N := 3) hx hb hts (iw_u (ci := 2) inX2) tyX2 tyX2_ok nmX2 hown hK hP hD hS 0 rfl rfl 0 (by decide) (hts _ iw_156) (fun _ h9 => h9) rfl hin rfl (by decide +kernel) rfl rfl (Nat.le_of_ble_eq_true rfl) dX2_init_12 (fun H locs hP hD hS => ?_)
  have hP : va_P (dC, dI) vwCl [(h0, .inr (2, [.ref q1, .null, .null])), (q1, .inl (cG, 4, .inr (.inr (.inr (.inr (fun i => if i < 4 then some (rq1 i) else none)))))), ((rq1 0), .inl (cI, 40, .inl (fun _ => 0))), ((rq1 1), .inl (cI, 40, .inl (fun _ => 0))), ((rq1 2), .inl (cI, 40, .inl (fun _ => 0))), ((rq1 3), .inl (cI, 40, .inl (fun _ => 0)))] H := hP
  have hD : va_D A [(h0, .inr (2, [.ref q1, .null, .null])), (q1, .inl (cG, 4, .inr (.inr (.inr (.inr (fun i => if i < 4 then some (rq1 i) else none)))))), ((rq1 0), .inl (cI, 40, .inl (fun _ => 0))), ((rq1 1), .inl (cI, 40, .inl (fun _ => 0))), ((rq1 2), .inl (cI, 40, .inl (fun _ => 0))), ((rq1 3), .inl (cI, 40, .inl (fun _ => 0)))] := hD
  refine lv_aload_n hx hb dX2_init_15 rfl (lv_at hl 0 rfl) ?_
  refine lv_iconst (v := 4) hx hb dX2_init_16 (by decide) ?_
  refine va_newa (atype := .int) (n := 4) (ty := .int) (a0 := (4, .inl (fun _ => 0))) (N' := 4) hx hb (hts (.arrayClass .int) iw_91) rfl hK hP hD hS hA (fun _ => rfl) (by decide) rfl (by decide) (Nat.le_of_ble_eq_true rfl) (Nat.le_of_ble_eq_true rfl) dX2_init_17 (fun q2 cA H hK9 hP hD hS => ?_)
  have ec : cI = cA := Option.some.inj (((hK.2 0 _ rfl).2).symm.trans ((hK9.2 4 _ rfl).2))
  subst ec; clear hK9
  have hP : va_P (dC, dI) vwCl [(h0, .inr (2, [.ref q1, .null, .null])), (q1, .inl (cG, 4, .inr (.inr (.inr (.inr (fun i => if i < 4 then some (rq1 i) else none)))))), ((rq1 0), .inl (cI, 40, .inl (fun _ => 0))), ((rq1 1), .inl (cI, 40, .inl (fun _ => 0))), ((rq1 2), .inl (cI, 40, .inl (fun _ => 0))), ((rq1 3), .inl (cI, 40, .inl (fun _ => 0))), (q2, .inl (cI, 4, .inl (fun _ => 0)))] H := hP
  have hD : va_D A [(h0, .inr (2, [.ref q1, .null, .null])), (q1, .inl (cG, 4, .inr (.inr (.inr (.inr (fun i => if i < 4 then some (rq1 i) else none)))))), ((rq1 0), .inl (cI, 40, .inl (fun _ => 0))), ((rq1 1), .inl (cI, 40, .inl (fun _ => 0))), ((rq1 2), .inl (cI, 40, .inl (fun _ => 0))), ((rq1 3), .inl (cI, 40, .inl (fun _ => 0))), (q2, .inl (cI, 4, .inl (fun _ => 0)))] := hD
  refine W.widen (k := 6) (n := 168) (Nat.le_of_ble_eq_true rfl) (Nat.le_of_ble_eq_true rfl) ?_
  refine lv_dup hx hb dX2_init_19 rfl ?_
  refine lv_iconst (v := 0) hx hb dX2_init_20 (by decide) ?_
  refine lv_iconst (v := (-1)) hx hb dX2_init_21 (by decide) ?_
  refine va_iast (i := 0) (x := (-1)) hx hb hK hP hD hS 6 0 rfl rfl (vp_in_nI (n := 0) (by decide) (by decide)) dX2_init_22 (fun H locs hP hD hS => ?_)
  have hP : va_P (dC, dI) vwCl [(h0, .inr (2, [.ref q1, .null, .null])), (q1, .inl (cG, 4, .inr (.inr (.inr (.inr (fun i => if i < 4 then some (rq1 i) else none)))))), ((rq1 0), .inl (cI, 40, .inl (fun _ => 0))), ((rq1 1), .inl (cI, 40, .inl (fun _ => 0))), ((rq1 2), .inl (cI, 40, .inl (fun _ => 0))), ((rq1 3), .inl (cI, 40, .inl (fun _ => 0))), (q2, .inl (cI, 4, .inl (upd (fun _ => 0) 0 (-1))))] H := hP
  have hD : va_D A [(h0, .inr (2, [.ref q1, .null, .null])), (q1, .inl (cG, 4, .inr (.inr (.inr (.inr (fun i => if i < 4 then some (rq1 i) else none)))))), ((rq1 0), .inl (cI, 40, .inl (fun _ => 0))), ((rq1 1), .inl (cI, 40, .inl (fun _ => 0))), ((rq1 2), .inl (cI, 40, .inl (fun _ => 0))), ((rq1 3), .inl (cI, 40, .inl (fun _ => 0))), (q2, .inl (cI, 4, .inl (upd (fun _ => 0) 0 (-1))))] := hD
  refine lv_dup hx hb dX2_init_23 rfl ?_
  refine lv_iconst (v := 1) hx hb dX2_init_24 (by decide) ?_
  refine lv_iconst (v := (-1)) hx hb dX2_init_25 (by decide) ?_
  refine va_iast (i := 1) (x := (-1)) hx hb hK hP hD hS 6 0 rfl rfl (vp_in_nI (n := 1) (by decide) (by decide)) dX2_init_26 (fun H locs hP hD hS => ?_)
  have hP : va_P (dC, dI) vwCl [(h0, .inr (2, [.ref q1, .null, .null])), (q1, .inl (cG, 4, .inr (.inr (.inr (.inr (fun i => if i < 4 then some (rq1 i) else none)))))), ((rq1 0), .inl (cI, 40, .inl (fun _ => 0))), ((rq1 1), .inl (cI, 40, .inl (fun _ => 0))), ((rq1 2), .inl (cI, 40, .inl (fun _ => 0))), ((rq1 3), .inl (cI, 40, .inl (fun _ => 0))), (q2, .inl (cI, 4, .inl (upd (upd (fun _ => 0) 0 (-1)) 1 (-1))))] H := hP
  have hD : va_D A [(h0, .inr (2, [.ref q1, .null, .null])), (q1, .inl (cG, 4, .inr (.inr (.inr (.inr (fun i => if i < 4 then some (rq1 i) else none)))))), ((rq1 0), .inl (cI, 40, .inl (fun _ => 0))), ((rq1 1), .inl (cI, 40, .inl (fun _ => 0))), ((rq1 2), .inl (cI, 40, .inl (fun _ => 0))), ((rq1 3), .inl (cI, 40, .inl (fun _ => 0))), (q2, .inl (cI, 4, .inl (upd (upd (fun _ => 0) 0 (-1)) 1 (-1))))] := hD
  refine lv_dup hx hb dX2_init_27 rfl ?_
  refine lv_iconst (v := 2) hx hb dX2_init_28 (by decide) ?_
  refine lv_iconst (v := (-1)) hx hb dX2_init_29 (by decide) ?_
  refine va_iast (i := 2) (x := (-1)) hx hb hK hP hD hS 6 0 rfl rfl (vp_in_nI (n := 2) (by decide) (by decide)) dX2_init_30 (fun H locs hP hD hS => ?_)
  have hP : va_P (dC, dI) vwCl [(h0, .inr (2, [.ref q1, .null, .null])), (q1, .inl (cG, 4, .inr (.inr (.inr (.inr (fun i => if i < 4 then some (rq1 i) else none)))))), ((rq1 0), .inl (cI, 40, .inl (fun _ => 0))), ((rq1 1), .inl (cI, 40, .inl (fun _ => 0))), ((rq1 2), .inl (cI, 40, .inl (fun _ => 0))), ((rq1 3), .inl (cI, 40, .inl (fun _ => 0))), (q2, .inl (cI, 4, .inl (upd (upd (upd (fun _ => 0) 0 (-1)) 1 (-1)) 2 (-1))))] H := hP
  have hD : va_D A [(h0, .inr (2, [.ref q1, .null, .null])), (q1, .inl (cG, 4, .inr (.inr (.inr (.inr (fun i => if i < 4 then some (rq1 i) else none)))))), ((rq1 0), .inl (cI, 40, .inl (fun _ => 0))), ((rq1 1), .inl (cI, 40, .inl (fun _ => 0))), ((rq1 2), .inl (cI, 40, .inl (fun _ => 0))), ((rq1 3), .inl (cI, 40, .inl (fun _ => 0))), (q2, .inl (cI, 4, .inl (upd (upd (upd (fun _ => 0) 0 (-1)) 1 (-1)) 2 (-1))))] := hD
  refine lv_dup hx hb dX2_init_31 rfl ?_
  refine lv_iconst (v := 3) hx hb dX2_init_32 (by decide) ?_
  refine lv_iconst (v := (-1)) hx hb dX2_init_33 (by decide) ?_
  refine va_iast (i := 3) (x := (-1)) hx hb hK hP hD hS 6 0 rfl rfl (vp_in_nI (n := 3) (by decide) (by decide)) dX2_init_34 (fun H locs hP hD hS => ?_)
  have hP : va_P (dC, dI) vwCl [(h0, .inr (2, [.ref q1, .null, .null])), (q1, .inl (cG, 4, .inr (.inr (.inr (.inr (fun i => if i < 4 then some (rq1 i) else none)))))), ((rq1 0), .inl (cI, 40, .inl (fun _ => 0))), ((rq1 1), .inl (cI, 40, .inl (fun _ => 0))), ((rq1 2), .inl (cI, 40, .inl (fun _ => 0))), ((rq1 3), .inl (cI, 40, .inl (fun _ => 0))), (q2, .inl (cI, 4, .inl (upd (upd (upd (upd (fun _ => 0) 0 (-1)) 1 (-1)) 2 (-1)) 3 (-1))))] H := hP
  have hD : va_D A [(h0, .inr (2, [.ref q1, .null, .null])), (q1, .inl (cG, 4, .inr (.inr (.inr (.inr (fun i => if i < 4 then some (rq1 i) else none)))))), ((rq1 0), .inl (cI, 40, .inl (fun _ => 0))), ((rq1 1), .inl (cI, 40, .inl (fun _ => 0))), ((rq1 2), .inl (cI, 40, .inl (fun _ => 0))), ((rq1 3), .inl (cI, 40, .inl (fun _ => 0))), (q2, .inl (cI, 4, .inl (upd (upd (upd (upd (fun _ => 0) 0 (-1)) 1 (-1)) 2 (-1)) 3 (-1))))] := hD
  refine va_putF (D := (dC, dI)) (ci := 2) (v := .ref q2) (ty := (.array .int)) (C := RX2) (T := TX2) (N := 3) hx hb hts (iw_u (ci := 2) inX2) tyX2 tyX2_ok nmX2 hown hK hP hD hS 0 rfl rfl 1 (by decide) (hts _ iw_158) (fun _ h9 => h9) rfl hin rfl (by decide +kernel) rfl rfl (Nat.le_of_ble_eq_true rfl) dX2_init_35 (fun H locs hP hD hS => ?_)
  have hP : va_P (dC, dI) vwCl [(h0, .inr (2, [.ref q1, .ref q2, .null])), (q1, .inl (cG, 4, .inr (.inr (.inr (.inr (fun i => if i < 4 then some (rq1 i) else none)))))), ((rq1 0), .inl (cI, 40, .inl (fun _ => 0))), ((rq1 1), .inl (cI, 40, .inl (fun _ => 0))), ((rq1 2), .inl (cI, 40, .inl (fun _ => 0))), ((rq1 3), .inl (cI, 40, .inl (fun _ => 0))), (q2, .inl (cI, 4, .inl (upd (upd (upd (upd (fun _ => 0) 0 (-1)) 1 (-1)) 2 (-1)) 3 (-1))))] H := hP
  have hD : va_D A [(h0, .inr (2, [.ref q1, .ref q2, .null])), (q1, .inl (cG, 4, .inr (.inr (.inr (.inr (fun i => if i < 4 then some (rq1 i) else none)))))), ((rq1 0), .inl (cI, 40, .inl (fun _ => 0))), ((rq1 1), .inl (cI, 40, .inl (fun _ => 0))), ((rq1 2), .inl (cI, 40, .inl (fun _ => 0))), ((rq1 3), .inl (cI, 40, .inl (fun _ => 0))), (q2, .inl (cI, 4, .inl (upd (upd (upd (upd (fun _ => 0) 0 (-1)) 1 (-1)) 2 (-1)) 3 (-1))))] := hD
  refine lv_aload_n hx hb dX2_init_38 rfl (lv_at hl 0 rfl) ?_
  refine lv_iconst (v := 4) hx hb dX2_init_39 (by decide) ?_
  refine va_newa (atype := .int) (n := 4) (ty := .int) (a0 := (4, .inl (fun _ => 0))) (N' := 4) hx hb (hts (.arrayClass .int) iw_91) rfl hK hP hD hS hA (fun _ => rfl) (by decide) rfl (by decide) (Nat.le_of_ble_eq_true rfl) (Nat.le_of_ble_eq_true rfl) dX2_init_40 (fun q3 cA H hK9 hP hD hS => ?_)
  have ec : cI = cA := Option.some.inj (((hK.2 0 _ rfl).2).symm.trans ((hK9.2 4 _ rfl).2))
  subst ec; clear hK9
  have hP : va_P (dC, dI) vwCl [(h0, .inr (2, [.ref q1, .ref q2, .null])), (q1, .inl (cG, 4, .inr (.inr (.inr (.inr (fun i => if i < 4 then some (rq1 i) else none)))))), ((rq1 0), .inl (cI, 40, .inl (fun _ => 0))), ((rq1 1), .inl (cI, 40, .inl (fun _ => 0))), ((rq1 2), .inl (cI, 40, .inl (fun _ => 0))), ((rq1 3), .inl (cI, 40, .inl (fun _ => 0))), (q2, .inl (cI, 4, .inl (upd (upd (upd (upd (fun _ => 0) 0 (-1)) 1 (-1)) 2 (-1)) 3 (-1)))), (q3, .inl (cI, 4, .inl (fun _ => 0)))] H := hP
  have hD : va_D A [(h0, .inr (2, [.ref q1, .ref q2, .null])), (q1, .inl (cG, 4, .inr (.inr (.inr (.inr (fun i => if i < 4 then some (rq1 i) else none)))))), ((rq1 0), .inl (cI, 40, .inl (fun _ => 0))), ((rq1 1), .inl (cI, 40, .inl (fun _ => 0))), ((rq1 2), .inl (cI, 40, .inl (fun _ => 0))), ((rq1 3), .inl (cI, 40, .inl (fun _ => 0))), (q2, .inl (cI, 4, .inl (upd (upd (upd (upd (fun _ => 0) 0 (-1)) 1 (-1)) 2 (-1)) 3 (-1)))), (q3, .inl (cI, 4, .inl (fun _ => 0)))] := hD
  refine W.widen (k := 7) (n := 172) (Nat.le_of_ble_eq_true rfl) (Nat.le_of_ble_eq_true rfl) ?_
  refine va_putF (D := (dC, dI)) (ci := 2) (v := .ref q3) (ty := (.array .int)) (C := RX2) (T := TX2) (N := 3) hx hb hts (iw_u (ci := 2) inX2) tyX2 tyX2_ok nmX2 hown hK hP hD hS 0 rfl rfl 2 (by decide) (hts _ iw_160) (fun _ h9 => h9) rfl hin rfl (by decide +kernel) rfl rfl (Nat.le_of_ble_eq_true rfl) dX2_init_42 (fun H locs hP hD hS => ?_)
  have hP : va_P (dC, dI) vwCl [(h0, .inr (2, [.ref q1, .ref q2, .ref q3])), (q1, .inl (cG, 4, .inr (.inr (.inr (.inr (fun i => if i < 4 then some (rq1 i) else none)))))), ((rq1 0), .inl (cI, 40, .inl (fun _ => 0))), ((rq1 1), .inl (cI, 40, .inl (fun _ => 0))), ((rq1 2), .inl (cI, 40, .inl (fun _ => 0))), ((rq1 3), .inl (cI, 40, .inl (fun _ => 0))), (q2, .inl (cI, 4, .inl (upd (upd (upd (upd (fun _ => 0) 0 (-1)) 1 (-1)) 2 (-1)) 3 (-1)))), (q3, .inl (cI, 4, .inl (fun _ => 0)))] H := hP
  have hD : va_D A [(h0, .inr (2, [.ref q1, .ref q2, .ref q3])), (q1, .inl (cG, 4, .inr (.inr (.inr (.inr (fun i => if i < 4 then some (rq1 i) else none)))))), ((rq1 0), .inl (cI, 40, .inl (fun _ => 0))), ((rq1 1), .inl (cI, 40, .inl (fun _ => 0))), ((rq1 2), .inl (cI, 40, .inl (fun _ => 0))), ((rq1 3), .inl (cI, 40, .inl (fun _ => 0))), (q2, .inl (cI, 4, .inl (upd (upd (upd (upd (fun _ => 0) 0 (-1)) 1 (-1)) 2 (-1)) 3 (-1)))), (q3, .inl (cI, 4, .inl (fun _ => 0)))] := hD
  have hw : ([(h0, .inr (2, [.ref q1, .ref q2, .ref q3])), (q1, .inl (cG, 4, .inr (.inr (.inr (.inr (fun i => if i < 4 then some (rq1 i) else none)))))), ((rq1 0), .inl (cI, 40, .inl (fun _ => 0))), ((rq1 1), .inl (cI, 40, .inl (fun _ => 0))), ((rq1 2), .inl (cI, 40, .inl (fun _ => 0))), ((rq1 3), .inl (cI, 40, .inl (fun _ => 0))), (q2, .inl (cI, 4, .inl (upd (upd (upd (upd (fun _ => 0) 0 (-1)) 1 (-1)) 2 (-1)) 3 (-1)))), (q3, .inl (cI, 4, .inl (fun _ => 0)))] : va_W) = [(h0, .inr (2, [.ref (((fun i => ([q1, (rq1 0), (rq1 1), (rq1 2), (rq1 3), q2, q3] : List Nat).getD i 0) : Nat → Nat) 0), .ref (((fun i => ([q1, (rq1 0), (rq1 1), (rq1 2), (rq1 3), q2, q3] : List Nat).getD i 0) : Nat → Nat) 5), .ref (((fun i => ([q1, (rq1 0), (rq1 1), (rq1 2), (rq1 3), q2, q3] : List Nat).getD i 0) : Nat → Nat) 6)])), ((((fun i => ([q1, (rq1 0), (rq1 1), (rq1 2), (rq1 3), q2, q3] : List Nat).getD i 0) : Nat → Nat) 0), .inl (cG, 4, .inr (.inr (.inr (.inr (fun i => if i < 4 then some (((fun i => ([q1, (((fun i => ([q1, (rq1 0), (rq1 1), (rq1 2), (rq1 3), q2, q3] : List Nat).getD i 0) : Nat → Nat) 1), (((fun i => ([q1, (rq1 0), (rq1 1), (rq1 2), (rq1 3), q2, q3] : List Nat).getD i 0) : Nat → Nat) 2), (((fun i => ([q1, (rq1 0), (rq1 1), (rq1 2), (rq1 3), q2, q3] : List Nat).getD i 0) : Nat → Nat) 3), (((fun i => ([q1, (rq1 0), (rq1 1), (rq1 2), (rq1 3), q2, q3] : List Nat).getD i 0) : Nat → Nat) 4), q2, q3] : List Nat).getD i 0) : Nat → Nat) (1 + i)) else none)))))), ((((fun i => ([q1, (rq1 0), (rq1 1), (rq1 2), (rq1 3), q2, q3] : List Nat).getD i 0) : Nat → Nat) 1), .inl (cI, 40, .inl (fun _ => 0))), ((((fun i => ([q1, (rq1 0), (rq1 1), (rq1 2), (rq1 3), q2, q3] : List Nat).getD i 0) : Nat → Nat) 2), .inl (cI, 40, .inl (fun _ => 0))), ((((fun i => ([q1, (rq1 0), (rq1 1), (rq1 2), (rq1 3), q2, q3] : List Nat).getD i 0) : Nat → Nat) 3), .inl (cI, 40, .inl (fun _ => 0))), ((((fun i => ([q1, (rq1 0), (rq1 1), (rq1 2), (rq1 3), q2, q3] : List Nat).getD i 0) : Nat → Nat) 4), .inl (cI, 40, .inl (fun _ => 0))), ((((fun i => ([q1, (rq1 0), (rq1 1), (rq1 2), (rq1 3), q2, q3] : List Nat).getD i 0) : Nat → Nat) 5), .inl (cI, 4, .inl (upd (upd (upd (upd (fun _ => 0) 0 (-1)) 1 (-1)) 2 (-1)) 3 (-1)))), ((((fun i => ([q1, (rq1 0), (rq1 1), (rq1 2), (rq1 3), q2, q3] : List Nat).getD i 0) : Nat → Nat) 6), .inl (cI, 4, .inl (fun _ => 0)))] := by
    have g0 : (fun i => if i < 4 then some (rq1 i) else none) = (fun i => if i < 4 then some (([q1, (rq1 0), (rq1 1), (rq1 2), (rq1 3), q2, q3] : List Nat).getD (1 + i) 0) else none) := by
      funext i
      by_cases h : i < 4
      · rcases (show i = 0 ∨ i = 1 ∨ i = 2 ∨ i = 3 by omega) with rfl | rfl | rfl | rfl <;> rfl
      · rw [if_neg h, if_neg h]
    rw [g0]
    rfl
  rw [hw] at hP hD
  exact W.vret hx hb hr (fun t ht hW => ⟨⟨(), rfl, trivial, (fun i => ([q1, (rq1 0), (rq1 1), (rq1 2), (rq1 3), q2, q3] : List Nat).getD i 0), by rw [ht]; exact hP, hD⟩, hS.F ht⟩) hS.2.2 dX2_init_45
