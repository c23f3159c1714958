/-! ===== Tape.wordRead: the JDK's Strings, by the kit's rows ===== -/
def sxF : Nat → Prop := fun _ => False
def sx_len : List Nat := [5, 4, 5, 5, 4, 2, 4]
def sx_ix : List Nat := [124, 126, 128, 130, 132, 133, 135]
def sx_tx : List String := ["plain", "rope", "block", "slack", "drag", "on", "back"]
/-- the seven texts, two statics of the JDK's -/
def sx_S (A : Nat → Prop) (adK adV : Nat → Nat) (fv : Value) (U : State) : Prop := vk_S 7 sx_len pm_words adK adV A U U.heap ∧ (∀ i, i < 7 → vk_R RX3 (sx_ix.getD i 0) (sx_tx.getD i "") (adK i) U) ∧ va_Z RJ0 "COMPACT_STRINGS" "Z" (.int 1) A U U.heap ∧ va_Z RJ3 "SIOOBE_FORMATTER" "Ljava/util/function/BiFunction;" fv A U U.heap
theorem sx_S.go {A : Nat → Prop} {adK adV : Nat → Nat} {fv : Value} {U V : State} (h : sx_S A adK adV fv U) (hW : U.WarmedH V.vm) (hk : ∀ q : Nat, q < U.heap.size → ¬ A q → V.heap[q]? = U.heap[q]?) : sx_S A adK adV fv V := ⟨(h.1.kept hk).moved hW.alike, fun i hi => (h.2.1 i hi).warm hW, (h.2.2.1.kept hk).moved hW.alike, (h.2.2.2.kept hk).moved hW.alike⟩
theorem sx_S.call {A : Nat → Prop} {adK adV : Nat → Nat} {fv : Value} {U : State} (h : sx_S A adK adV fv U) (g : JFrame) (mk : MethodId) (a : Array Value) : sx_S A adK adV fv (U.calling g mk a) := ⟨vk_S.moved (u := U) (U := U.calling g mk a) (Vm.Alike.refl U.vm) h.1, fun i hi => vk_R.same (u := U) (U := U.calling g mk a) rfl (h.2.1 i hi), va_Z.moved (u := U) (U := U.calling g mk a) (Vm.Alike.refl U.vm) h.2.2.1, va_Z.moved (u := U) (U := U.calling g mk a) (Vm.Alike.refl U.vm) h.2.2.2⟩
theorem sx_S.all {A : Nat → Prop} {adK adV : Nat → Nat} {fv : Value} {U : State} (h : sx_S A adK adV fv U) : sx_S sxF adK adV fv U := ⟨h.1.narrow (fun _ q => q.elim), h.2.1, h.2.2.1.narrow (fun _ q => q.elim), h.2.2.2.narrow (fun _ q => q.elim)⟩
theorem sx_good {y : MethodName} {cc : ByteArray} {n : Nat} {ret : Option FieldType} (h : Cond.code y cc n ret ∈ pm_tbl) : GoodIn pm_tbl (Cond.code y cc n ret :: pm_tbl) := pm_good (fun w hw => by
  rcases List.mem_cons.mp hw with rfl | hw
  · exact h
  · exact hw)
theorem sx_ch : ∀ i, i < 7 → ∀ k, k < sx_len.getD i 0 → ((((pm_words.getD i []).getD k 0 &&& 255).toUInt32 % 65536).toInt32 = (pm_words.getD i []).getD k 0 ∧ narrow .char (.int ((pm_words.getD i []).getD k 0)) = .int ((pm_words.getD i []).getD k 0)) := by decide +kernel
theorem sx_shr : ∀ i, i < 7 → nI (sx_len.getD i 0) >>> ((0 : Int32) &&& 31) = nI (sx_len.getD i 0) := by decide +kernel
theorem sx_ll : ∀ i, i < 7 → (pm_words.getD i []).length = sx_len.getD i 0 ∧ sx_len.getD i 0 ≤ 5 := by decide +kernel
set_option maxHeartbeats 4000000 in
theorem sx_pciN (l : Launch) {k n : Nat} (hk : k < n) (hn : n < 2 ^ 31) : Met l yJ3_checkIndex_8e157 (Cond.code yJ3_checkIndex_8e157 cJ3_checkIndex_8e157 3 (some .int) :: pm_tbl) (pm_rm 1) (va_Pc [.int (nI k), .int (nI n), .null] (fun _ => True)) (va_Qi (fun r (_ : Unit) => r = nI k) (fun _ _ => True) sxF) 0 0 sxF := by
  refine Met.ofW (cc := cJ3_checkIndex_8e157) (maxL := 3) (ret := (some .int)) (by decide) rfl ?_
  intro p e s m args below meth c s₁ B hml hv
  obtain ⟨rfl, -⟩ := hv
  have hx := B.exec
  have hb := B.bytes
  have hr := B.returns
  have hts0 := atoms_spec (ws := Cond.code yJ3_checkIndex_8e157 cJ3_checkIndex_8e157 3 (some .int) :: pm_tbl) B.pre
  have hts : ∀ x ∈ pm_tbl, x.before ([.int (nI k), .int (nI n), .null] : List Value).toArray s = true := fun x h => hts0 x (List.mem_cons_of_mem _ h)
  have hown : s.vm.findClass RJ3 = some m.cls := findClass_of_methodNamed B.named
  have hlocks := B.notSynchronized
  have hS : va_S sxF s.heap s.heap [] := va_S.rf
  have hl := lv_entry ([.int (nI k), .int (nI n), .null] : List Value) (n := 3) (Nat.le_of_ble_eq_true rfl)
  rw [lg_entry_eq]
  generalize (lg_sl ([.int (nI k), .int (nI n), .null] : List Value) ++ List.replicate (3 - (lg_sl ([.int (nI k), .int (nI n), .null] : List Value)).length) Slot.unset).toArray = ls at hl ⊢
  have hl : lv_has ls 3 [(0, .int (nI k)), (1, .int (nI n)), (2, .null)] := hl
  refine lv_iload_n hx hb dJ3_checkIndex_8e157_0 rfl (lv_at hl 0 rfl) ?_
  refine lv_if_lt (tgt := 9) hx hb dJ3_checkIndex_8e157_1 (by decide) (fun y => absurd y (nI_pos (by omega))) (fun _ => ?_)
  refine lv_iload_n hx hb dJ3_checkIndex_8e157_4 rfl (lv_at hl 0 rfl) ?_
  refine lv_iload_n hx hb dJ3_checkIndex_8e157_5 rfl (lv_at hl 1 rfl) ?_
  refine lv_icmp_lt (tgt := 16) hx hb dJ3_checkIndex_8e157_6 (by decide) (fun _ => ?_) (fun y => absurd (nI_lt hk hn) y)
  refine lv_iload_n hx hb dJ3_checkIndex_8e157_16 rfl (lv_at hl 0 rfl) ?_
  exact W.iret hx hb hr (fun t ht hW => ⟨⟨nI k, (), rfl, rfl, trivial⟩, hS.F ht⟩) hS.2.2 dJ3_checkIndex_8e157_17
set_option maxHeartbeats 4000000 in
theorem sx_pciR (l : Launch) {k n f9 : Nat} (hk : k < n) (hn : n < 2 ^ 31) : Met l yJ3_checkIndex_8e157 (Cond.code yJ3_checkIndex_8e157 cJ3_checkIndex_8e157 3 (some .int) :: pm_tbl) (pm_rm 1) (va_Pc [.int (nI k), .int (nI n), .ref f9] (fun _ => True)) (va_Qi (fun r (_ : Unit) => r = nI k) (fun _ _ => True) sxF) 0 0 sxF := by
  refine Met.ofW (cc := cJ3_checkIndex_8e157) (maxL := 3) (ret := (some .int)) (by decide) rfl ?_
  intro p e s m args below meth c s₁ B hml hv
  obtain ⟨rfl, -⟩ := hv
  have hx := B.exec
  have hb := B.bytes
  have hr := B.returns
  have hts0 := atoms_spec (ws := Cond.code yJ3_checkIndex_8e157 cJ3_checkIndex_8e157 3 (some .int) :: pm_tbl) B.pre
  have hts : ∀ x ∈ pm_tbl, x.before ([.int (nI k), .int (nI n), .ref f9] : List Value).toArray s = true := fun x h => hts0 x (List.mem_cons_of_mem _ h)
  have hown : s.vm.findClass RJ3 = some m.cls := findClass_of_methodNamed B.named
  have hlocks := B.notSynchronized
  have hS : va_S sxF s.heap s.heap [] := va_S.rf
  have hl := lv_entry ([.int (nI k), .int (nI n), .ref f9] : List Value) (n := 3) (Nat.le_of_ble_eq_true rfl)
  rw [lg_entry_eq]
  generalize (lg_sl ([.int (nI k), .int (nI n), .ref f9] : List Value) ++ List.replicate (3 - (lg_sl ([.int (nI k), .int (nI n), .ref f9] : List Value)).length) Slot.unset).toArray = ls at hl ⊢
  have hl : lv_has ls 3 [(0, .int (nI k)), (1, .int (nI n)), (2, .ref f9)] := hl
  refine lv_iload_n hx hb dJ3_checkIndex_8e157_0 rfl (lv_at hl 0 rfl) ?_
  refine lv_if_lt (tgt := 9) hx hb dJ3_checkIndex_8e157_1 (by decide) (fun y => absurd y (nI_pos (by omega))) (fun _ => ?_)
  refine lv_iload_n hx hb dJ3_checkIndex_8e157_4 rfl (lv_at hl 0 rfl) ?_
  refine lv_iload_n hx hb dJ3_checkIndex_8e157_5 rfl (lv_at hl 1 rfl) ?_
  refine lv_icmp_lt (tgt := 16) hx hb dJ3_checkIndex_8e157_6 (by decide) (fun _ => ?_) (fun y => absurd (nI_lt hk hn) y)
  refine lv_iload_n hx hb dJ3_checkIndex_8e157_16 rfl (lv_at hl 0 rfl) ?_
  exact W.iret hx hb hr (fun t ht hW => ⟨⟨nI k, (), rfl, rfl, trivial⟩, hS.F ht⟩) hS.2.2 dJ3_checkIndex_8e157_17
set_option maxHeartbeats 4000000 in
theorem sx_sci (l : Launch) {adK adV : Nat → Nat} {fv : Value} {k n : Nat} (hk : k < n) (hn : n < 2 ^ 31) (hfv : fv = .null ∨ ∃ a, fv = .ref a) : Met l yJ0_checkIndex_df160 (Cond.code yJ0_checkIndex_df160 cJ0_checkIndex_df160 2 none :: pm_tbl) (pm_rm 2) (va_Pc [.int (nI k), .int (nI n)] (sx_S sxF adK adV fv)) (va_Qv (fun (_ : Unit) => True) (fun _ _ => True) sxF) 0 0 sxF := by
  refine Met.ofW (cc := cJ0_checkIndex_df160) (maxL := 2) (ret := none) (by decide) rfl ?_
  intro p e s m args below meth c s₁ B hml hv
  obtain ⟨rfl, hX⟩ := hv
  have hx := B.exec
  have hb := B.bytes
  have hr := B.returns
  have hts0 := atoms_spec (ws := Cond.code yJ0_checkIndex_df160 cJ0_checkIndex_df160 2 none :: pm_tbl) B.pre
  have hts : ∀ x ∈ pm_tbl, x.before ([.int (nI k), .int (nI n)] : List Value).toArray s = true := fun x h => hts0 x (List.mem_cons_of_mem _ h)
  have hown : s.vm.findClass RJ0 = some m.cls := findClass_of_methodNamed B.named
  have hlocks := B.notSynchronized
  have hS : va_S sxF s.heap s.heap [] := va_S.rf
  have hl := lv_entry ([.int (nI k), .int (nI n)] : List Value) (n := 2) (Nat.le_of_ble_eq_true rfl)
  rw [lg_entry_eq]
  generalize (lg_sl ([.int (nI k), .int (nI n)] : List Value) ++ List.replicate (2 - (lg_sl ([.int (nI k), .int (nI n)] : List Value)).length) Slot.unset).toArray = ls at hl ⊢
  have hl : lv_has ls 2 [(0, .int (nI k)), (1, .int (nI n))] := hl
  refine lv_iload_n hx hb dJ0_checkIndex_df160_0 rfl (lv_at hl 0 rfl) ?_
  refine lv_iload_n hx hb dJ0_checkIndex_df160_1 rfl (lv_at hl 1 rfl) ?_
  refine va_gets hx hb hX.2.2.2 hS hown (hts _ tw_288) (fun _ h => h) dJ0_checkIndex_df160_2 ?_
  have fin : ∀ (r : Int32) (H1 : Heap) (locs1 : List Loc), va_S sxF s.heap H1 locs1 → W p l e (pm_rm 2) s m ([.int (nI k), .int (nI n)] : List Value).toArray below meth c H1 locs1 0 0 (MQ below (va_Qv (fun (_ : Unit) => True) (fun _ _ => True) sxF) ([.int (nI k), .int (nI n)] : List Value).toArray s 0 0 sxF) (F0 m 8 ls [.int r]) := by
    intro r H1 locs1 hS
    refine lv_pop hx hb dJ0_checkIndex_df160_8 rfl ?_
    exact W.vret hx hb hr (fun t ht hW => ⟨⟨(), rfl, trivial, trivial⟩, hS.F ht⟩) hS.2.2 dJ0_checkIndex_df160_9
  rcases hfv with rfl | ⟨f9, rfl⟩
  · refine va_calli (va_runS (As := [.int (nI k), .int (nI n), .null]) (rest := []) ⟨hx, hb, hml, hown, hts⟩ (sx_pciN l hk hn) ⟨callB_of 3 hts (sx_good tw_292) rfl rfl rfl (hts _ tw_10) (hts _ tw_290) (by decide +kernel) ⟨by decide, by decide⟩, hts _ tw_291⟩ ⟨fun a U g mk q => ⟨q.1, trivial⟩, fun U hU hW => ⟨rfl, trivial⟩⟩ rfl rfl hl.1 rfl (lv_room (Nat.le_of_ble_eq_true rfl)) dJ0_checkIndex_df160_5 ⟨Nat.le_refl _, Nat.le_refl _⟩) hS (fun _ _ h => h) (fun _ h => h) (fun r u t H1 locs1 ht hvm hp hB hsz hk hS => ?_)
    exact fin r H1 locs1 hS
  · refine va_calli (va_runS (As := [.int (nI k), .int (nI n), .ref f9]) (rest := []) ⟨hx, hb, hml, hown, hts⟩ (sx_pciR l hk hn) ⟨callB_of 3 hts (sx_good tw_292) rfl rfl rfl (hts _ tw_10) (hts _ tw_290) (by decide +kernel) ⟨by decide, by decide⟩, hts _ tw_291⟩ ⟨fun a U g mk q => ⟨q.1, trivial⟩, fun U hU hW => ⟨rfl, trivial⟩⟩ rfl rfl hl.1 rfl (lv_room (Nat.le_of_ble_eq_true rfl)) dJ0_checkIndex_df160_5 ⟨Nat.le_refl _, Nat.le_refl _⟩) hS (fun _ _ h => h) (fun _ h => h) (fun r u t H1 locs1 ht hvm hp hB hsz hk hS => ?_)
    exact fin r H1 locs1 hS
set_option maxHeartbeats 4000000 in
theorem sx_lca (l : Launch) {adK adV : Nat → Nat} {fv : Value} {i k : Nat} (hi : i < 7) (hk : k < sx_len.getD i 0) (hfv : fv = .null ∨ ∃ a, fv = .ref a) : Met l yJ1_charAt_3b067 (Cond.code yJ1_charAt_3b067 cJ1_charAt_3b067 2 (some .char) :: pm_tbl) (pm_rm 3) (va_Pc [.ref (adV i), .int (nI k)] (sx_S sxF adK adV fv)) (va_Qi (fun r (_ : Unit) => r = (pm_words.getD i []).getD k 0) (fun _ _ => True) sxF) 0 0 sxF := by
  refine Met.ofW (cc := cJ1_charAt_3b067) (maxL := 2) (ret := (some .char)) (by decide) rfl ?_
  intro p e s m args below meth c s₁ B hml hv
  obtain ⟨rfl, hX⟩ := hv
  have hx := B.exec
  have hb := B.bytes
  have hr := B.returns
  have hts0 := atoms_spec (ws := Cond.code yJ1_charAt_3b067 cJ1_charAt_3b067 2 (some .char) :: pm_tbl) B.pre
  have hts : ∀ x ∈ pm_tbl, x.before ([.ref (adV i), .int (nI k)] : List Value).toArray s = true := fun x h => hts0 x (List.mem_cons_of_mem _ h)
  have hown : s.vm.findClass RJ1 = some m.cls := findClass_of_methodNamed B.named
  have hlocks := B.notSynchronized
  have hS : va_S sxF s.heap s.heap [] := va_S.rf
  have hl := lv_entry ([.ref (adV i), .int (nI k)] : List Value) (n := 2) (Nat.le_of_ble_eq_true rfl)
  rw [lg_entry_eq]
  generalize (lg_sl ([.ref (adV i), .int (nI k)] : List Value) ++ List.replicate (2 - (lg_sl ([.ref (adV i), .int (nI k)] : List Value)).length) Slot.unset).toArray = ls at hl ⊢
  have hl : lv_has ls 2 [(0, .ref (adV i)), (1, .int (nI k))] := hl
  have hT := (hX.1.1 i hi).2.2.2
  obtain ⟨l1, l2⟩ := sx_ll i hi
  refine lv_iload_n hx hb dJ1_charAt_3b067_0 rfl (lv_at hl 1 rfl) ?_
  refine lv_aload_n hx hb dJ1_charAt_3b067_1 rfl (lv_at hl 0 rfl) ?_
  refine va_tlen hx hb hT hS rfl dJ1_charAt_3b067_2 ?_
  refine va_callv (va_runS (As := [.int (nI k), .int (nI (sx_len.getD i 0))]) (rest := []) ⟨hx, hb, hml, hown, hts⟩ (sx_sci (adK := adK) (adV := adV) (fv := fv) l hk (by omega) hfv) ⟨callB_of 2 hts (sx_good tw_287) rfl rfl rfl (hts _ tw_8) (hts _ tw_285) (by decide +kernel) ⟨by decide, by decide⟩, hts _ tw_286⟩ ⟨fun a U g mk q => ⟨q.1, q.2.call g mk a⟩, fun U hU hW => ⟨rfl, hX.go hW (fun q h1 h2 => by rw [hU])⟩⟩ rfl rfl hl.1 rfl (lv_room (Nat.le_of_ble_eq_true rfl)) dJ1_charAt_3b067_3 ⟨Nat.le_refl _, Nat.le_refl _⟩) hS (fun _ _ h => h) (fun _ h => h) (fun u t H1 locs1 ht hvm hp hB hsz hk9 hS => ?_)
  refine lv_aload_n hx hb dJ1_charAt_3b067_6 rfl (lv_at hl 0 rfl) ?_
  refine lv_iload_n hx hb dJ1_charAt_3b067_7 rfl (lv_at hl 1 rfl) ?_
  refine va_tb hx hb hT hS (i := nI k) (vp_in_nI hk (by omega)) (v := .int ((pm_words.getD i []).getD k 0)) (by rw [nI_clamp (by omega)]) dJ1_charAt_3b067_8 ?_
  refine lv_sipush (v := 255) hx hb dJ1_charAt_3b067_9 (by decide) ?_
  refine lv_iand hx hb dJ1_charAt_3b067_12 ?_
  refine lv_i2c hx hb dJ1_charAt_3b067_13 (sx_ch i hi k hk).1 ?_
  exact W.zret hx hb hr (sx_ch i hi k hk).2 (fun t ht hW => ⟨⟨_, (), rfl, rfl, trivial⟩, hS.F ht⟩) hS.2.2 dJ1_charAt_3b067_14
set_option maxHeartbeats 4000000 in
theorem sx_cod (l : Launch) {adK adV : Nat → Nat} {fv : Value} {i : Nat} (hi : i < 7) : Met l yJ0_coder_7d493 (Cond.code yJ0_coder_7d493 cJ0_coder_7d493 1 (some .byte) :: pm_tbl) (pm_rm 1) (va_Pc [.ref (adK i)] (sx_S sxF adK adV fv)) (va_Qi (fun r (_ : Unit) => r = 0) (fun _ _ => True) sxF) 0 0 sxF := by
  refine Met.ofW (cc := cJ0_coder_7d493) (maxL := 1) (ret := (some .byte)) (by decide) rfl ?_
  intro p e s m args below meth c s₁ B hml hv
  obtain ⟨rfl, hX⟩ := hv
  have hx := B.exec
  have hb := B.bytes
  have hr := B.returns
  have hts0 := atoms_spec (ws := Cond.code yJ0_coder_7d493 cJ0_coder_7d493 1 (some .byte) :: pm_tbl) B.pre
  have hts : ∀ x ∈ pm_tbl, x.before ([.ref (adK i)] : List Value).toArray s = true := fun x h => hts0 x (List.mem_cons_of_mem _ h)
  have hown : s.vm.findClass RJ0 = some m.cls := findClass_of_methodNamed B.named
  have hlocks := B.notSynchronized
  have hS : va_S sxF s.heap s.heap [] := va_S.rf
  have hl := lv_entry ([.ref (adK i)] : List Value) (n := 1) (Nat.le_of_ble_eq_true rfl)
  rw [lg_entry_eq]
  generalize (lg_sl ([.ref (adK i)] : List Value) ++ List.replicate (1 - (lg_sl ([.ref (adK i)] : List Value)).length) Slot.unset).toArray = ls at hl ⊢
  have hl : lv_has ls 1 [(0, .ref (adK i))] := hl
  refine va_gets hx hb hX.2.2.1 hS hown (hts _ tw_272) (fun _ h => h) dJ0_coder_7d493_0 ?_
  refine lv_if_eq (tgt := 13) hx hb dJ0_coder_7d493_3 (by decide) (fun y => absurd y (by decide)) (fun _ => ?_)
  refine lv_aload_n hx hb dJ0_coder_7d493_6 rfl (lv_at hl 0 rfl) ?_
  refine vk_getf hx hb (hX.1.1 i hi).2.1 hS hown (hts _ tw_1105) (fun _ h => h) dJ0_coder_7d493_7 ?_
  refine lv_goto (tgt := 14) hx hb dJ0_coder_7d493_10 (by decide) ?_
  exact W.zret hx hb hr (by decide) (fun t ht hW => ⟨⟨0, (), rfl, rfl, trivial⟩, hS.F ht⟩) hS.2.2 dJ0_coder_7d493_14
set_option maxHeartbeats 4000000 in
theorem sx_isl (l : Launch) {adK adV : Nat → Nat} {fv : Value} {i : Nat} (hi : i < 7) : Met l yJ0_isLatin1_aae02 (Cond.code yJ0_isLatin1_aae02 cJ0_isLatin1_aae02 1 (some .boolean) :: pm_tbl) (pm_rm 1) (va_Pc [.ref (adK i)] (sx_S sxF adK adV fv)) (va_Qi (fun r (_ : Unit) => r = 1) (fun _ _ => True) sxF) 0 0 sxF := by
  refine Met.ofW (cc := cJ0_isLatin1_aae02) (maxL := 1) (ret := (some .boolean)) (by decide) rfl ?_
  intro p e s m args below meth c s₁ B hml hv
  obtain ⟨rfl, hX⟩ := hv
  have hx := B.exec
  have hb := B.bytes
  have hr := B.returns
  have hts0 := atoms_spec (ws := Cond.code yJ0_isLatin1_aae02 cJ0_isLatin1_aae02 1 (some .boolean) :: pm_tbl) B.pre
  have hts : ∀ x ∈ pm_tbl, x.before ([.ref (adK i)] : List Value).toArray s = true := fun x h => hts0 x (List.mem_cons_of_mem _ h)
  have hown : s.vm.findClass RJ0 = some m.cls := findClass_of_methodNamed B.named
  have hlocks := B.notSynchronized
  have hS : va_S sxF s.heap s.heap [] := va_S.rf
  have hl := lv_entry ([.ref (adK i)] : List Value) (n := 1) (Nat.le_of_ble_eq_true rfl)
  rw [lg_entry_eq]
  generalize (lg_sl ([.ref (adK i)] : List Value) ++ List.replicate (1 - (lg_sl ([.ref (adK i)] : List Value)).length) Slot.unset).toArray = ls at hl ⊢
  have hl : lv_has ls 1 [(0, .ref (adK i))] := hl
  refine va_gets hx hb hX.2.2.1 hS hown (hts _ tw_272) (fun _ h => h) dJ0_isLatin1_aae02_0 ?_
  refine lv_if_eq (tgt := 17) hx hb dJ0_isLatin1_aae02_3 (by decide) (fun y => absurd y (by decide)) (fun _ => ?_)
  refine lv_aload_n hx hb dJ0_isLatin1_aae02_6 rfl (lv_at hl 0 rfl) ?_
  refine vk_getf hx hb (hX.1.1 i hi).2.1 hS hown (hts _ tw_1105) (fun _ h => h) dJ0_isLatin1_aae02_7 ?_
  refine lv_if_ne (tgt := 17) hx hb dJ0_isLatin1_aae02_10 (by decide) (fun y => absurd rfl y) (fun _ => ?_)
  refine lv_iconst (v := 1) hx hb dJ0_isLatin1_aae02_13 (by decide) ?_
  refine lv_goto (tgt := 18) hx hb dJ0_isLatin1_aae02_14 (by decide) ?_
  exact W.zret hx hb hr (by decide) (fun t ht hW => ⟨⟨1, (), rfl, rfl, trivial⟩, hS.F ht⟩) hS.2.2 dJ0_isLatin1_aae02_18
set_option maxHeartbeats 4000000 in
theorem sx_lng (l : Launch) {adK adV : Nat → Nat} {fv : Value} {i : Nat} (hi : i < 7) : Met l yJ0_length_8abf5 (Cond.code yJ0_length_8abf5 cJ0_length_8abf5 1 (some .int) :: pm_tbl) (pm_rm 2) (va_Pc [.ref (adK i)] (sx_S sxF adK adV fv)) (va_Qi (fun r (_ : Unit) => r = nI (sx_len.getD i 0)) (fun _ _ => True) sxF) 0 0 sxF := by
  refine Met.ofW (cc := cJ0_length_8abf5) (maxL := 1) (ret := (some .int)) (by decide) rfl ?_
  intro p e s m args below meth c s₁ B hml hv
  obtain ⟨rfl, hX⟩ := hv
  have hx := B.exec
  have hb := B.bytes
  have hr := B.returns
  have hts0 := atoms_spec (ws := Cond.code yJ0_length_8abf5 cJ0_length_8abf5 1 (some .int) :: pm_tbl) B.pre
  have hts : ∀ x ∈ pm_tbl, x.before ([.ref (adK i)] : List Value).toArray s = true := fun x h => hts0 x (List.mem_cons_of_mem _ h)
  have hown : s.vm.findClass RJ0 = some m.cls := findClass_of_methodNamed B.named
  have hlocks := B.notSynchronized
  have hS : va_S sxF s.heap s.heap [] := va_S.rf
  have hl := lv_entry ([.ref (adK i)] : List Value) (n := 1) (Nat.le_of_ble_eq_true rfl)
  rw [lg_entry_eq]
  generalize (lg_sl ([.ref (adK i)] : List Value) ++ List.replicate (1 - (lg_sl ([.ref (adK i)] : List Value)).length) Slot.unset).toArray = ls at hl ⊢
  have hl : lv_has ls 1 [(0, .ref (adK i))] := hl
  refine lv_aload_n hx hb dJ0_length_8abf5_0 rfl (lv_at hl 0 rfl) ?_
  refine vk_getf hx hb (hX.1.1 i hi).2.2.1 hS hown (hts _ tw_1104) (fun _ h => h) dJ0_length_8abf5_1 ?_
  refine va_tlen hx hb (hX.1.1 i hi).2.2.2 hS rfl dJ0_length_8abf5_4 ?_
  refine lv_aload_n hx hb dJ0_length_8abf5_5 rfl (lv_at hl 0 rfl) ?_
  refine va_calli (va_runV (b := adK i) (As := []) (rest := [.int (Int32.ofNat (sx_len.getD i 0))]) ⟨hx, hb, hml, hown, hts⟩ (sx_cod (adK := adK) (adV := adV) (fv := fv) l hi) ⟨callB_of 0 hts (sx_good tw_271) rfl rfl rfl (hts _ tw_8) (hts _ tw_268) (by decide +kernel) ⟨by decide, by decide⟩, hts _ tw_269, hts _ tw_270⟩ ⟨fun a U g mk q => ⟨q.1, q.2.call g mk a⟩, vk_recv hX.1 hi hS, fun U hU hW => ⟨rfl, hX.go hW (fun q h1 h2 => by rw [hU])⟩⟩ rfl rfl hl.1 rfl (lv_room (Nat.le_of_ble_eq_true rfl)) dJ0_length_8abf5_6 ⟨Nat.le_refl _, Nat.le_refl _⟩) hS (fun _ _ h => h) (fun _ h => h) (fun r u t H1 locs1 ht hvm hp hB hsz hk9 hS => ?_)
  subst hp
  refine lv_ishr hx hb dJ0_length_8abf5_9 ?_
  exact W.iret hx hb hr (fun t ht hW => ⟨⟨_, (), rfl, sx_shr i hi, trivial⟩, hS.F ht⟩) hS.2.2 dJ0_length_8abf5_10
set_option maxHeartbeats 4000000 in
theorem sx_cha (l : Launch) {adK adV : Nat → Nat} {fv : Value} {i k : Nat} (hi : i < 7) (hk : k < sx_len.getD i 0) (hfv : fv = .null ∨ ∃ a, fv = .ref a) : Met l yJ0_charAt_5068e (Cond.code yJ0_charAt_5068e cJ0_charAt_5068e 2 (some .char) :: pm_tbl) (pm_rm 4) (va_Pc [.ref (adK i), .int (nI k)] (sx_S sxF adK adV fv)) (va_Qi (fun r (_ : Unit) => r = (pm_words.getD i []).getD k 0) (fun _ _ => True) sxF) 0 0 sxF := by
  refine Met.ofW (cc := cJ0_charAt_5068e) (maxL := 2) (ret := (some .char)) (by decide) rfl ?_
  intro p e s m args below meth c s₁ B hml hv
  obtain ⟨rfl, hX⟩ := hv
  have hx := B.exec
  have hb := B.bytes
  have hr := B.returns
  have hts0 := atoms_spec (ws := Cond.code yJ0_charAt_5068e cJ0_charAt_5068e 2 (some .char) :: pm_tbl) B.pre
  have hts : ∀ x ∈ pm_tbl, x.before ([.ref (adK i), .int (nI k)] : List Value).toArray s = true := fun x h => hts0 x (List.mem_cons_of_mem _ h)
  have hown : s.vm.findClass RJ0 = some m.cls := findClass_of_methodNamed B.named
  have hlocks := B.notSynchronized
  have hS : va_S sxF s.heap s.heap [] := va_S.rf
  have hl := lv_entry ([.ref (adK i), .int (nI k)] : List Value) (n := 2) (Nat.le_of_ble_eq_true rfl)
  rw [lg_entry_eq]
  generalize (lg_sl ([.ref (adK i), .int (nI k)] : List Value) ++ List.replicate (2 - (lg_sl ([.ref (adK i), .int (nI k)] : List Value)).length) Slot.unset).toArray = ls at hl ⊢
  have hl : lv_has ls 2 [(0, .ref (adK i)), (1, .int (nI k))] := hl
  refine lv_aload_n hx hb dJ0_charAt_5068e_0 rfl (lv_at hl 0 rfl) ?_
  refine va_calli (va_runV (b := adK i) (As := []) (rest := []) ⟨hx, hb, hml, hown, hts⟩ (sx_isl (adK := adK) (adV := adV) (fv := fv) l hi) ⟨callB_of 0 hts (sx_good tw_281) rfl rfl rfl (hts _ tw_8) (hts _ tw_278) (by decide +kernel) ⟨by decide, by decide⟩, hts _ tw_279, hts _ tw_280⟩ ⟨fun a U g mk q => ⟨q.1, q.2.call g mk a⟩, vk_recv hX.1 hi hS, fun U hU hW => ⟨rfl, hX.go hW (fun q h1 h2 => by rw [hU])⟩⟩ rfl rfl hl.1 rfl (lv_room (Nat.le_of_ble_eq_true rfl)) dJ0_charAt_5068e_1 ⟨Nat.le_refl _, Nat.le_refl _⟩) hS (fun _ _ h => h) (fun _ h => h) (fun r u t H1 locs1 ht hvm hp hB hsz hk9 hS => ?_)
  subst hp
  refine lv_if_eq (tgt := 16) hx hb dJ0_charAt_5068e_4 (by decide) (fun y => absurd y (by decide)) (fun _ => ?_)
  refine lv_aload_n hx hb dJ0_charAt_5068e_7 rfl (lv_at hl 0 rfl) ?_
  refine vk_getf hx hb (hX.1.1 i hi).2.2.1 hS hown (hts _ tw_1104) (fun _ h => h) dJ0_charAt_5068e_8 ?_
  refine lv_iload_n hx hb dJ0_charAt_5068e_11 rfl (lv_at hl 1 rfl) ?_
  refine va_calli (va_runS (As := [.ref (adV i), .int (nI k)]) (rest := []) ⟨hx, hb, hml, hown, hts⟩ (sx_lca (adK := adK) (adV := adV) (fv := fv) l hi hk hfv) ⟨callB_of 2 hts (sx_good tw_284) rfl rfl rfl (hts _ tw_9) (hts _ tw_282) (by decide +kernel) ⟨by decide, by decide⟩, hts _ tw_283⟩ ⟨fun a U g mk q => ⟨q.1, q.2.call g mk a⟩, fun U hU hW => ⟨rfl, hX.go hW (fun q h1 h2 => by rw [hU]; exact hS.2.1 q h1 h2)⟩⟩ rfl rfl hl.1 rfl (lv_room (Nat.le_of_ble_eq_true rfl)) dJ0_charAt_5068e_12 ⟨Nat.le_refl _, Nat.le_refl _⟩) hS (fun _ _ h => h) (fun _ h => h) (fun r u t H1 locs1 ht hvm hp hB hsz hk9 hS => ?_)
  subst hp
  exact W.zret hx hb hr (sx_ch i hi k hk).2 (fun t ht hW => ⟨⟨_, (), rfl, rfl, trivial⟩, hS.F ht⟩) hS.2.2 dJ0_charAt_5068e_15
set_option maxHeartbeats 4000000 in
theorem sx_wof (l : Launch) {adK adV : Nat → Nat} {fv : Value} {w : Nat} (hw : w < 7) : Met l yX3_wordOf (Cond.code yX3_wordOf cX3_wordOf 1 (some (.object "java/lang/String")) :: pm_tbl) (pm_rm 1) (va_Pc [.int (nI w)] (sx_S sxF adK adV fv)) (va_Qr (fun (_ : Unit) => True) (fun _ a _ => a = adK w) sxF) 0 0 sxF := by
  refine Met.ofW (cc := cX3_wordOf) (maxL := 1) (ret := (some (.object "java/lang/String"))) (by decide) rfl ?_
  intro p e s m args below meth c s₁ B hml hv
  obtain ⟨rfl, hX⟩ := hv
  have hx := B.exec
  have hb := B.bytes
  have hr := B.returns
  have hts0 := atoms_spec (ws := Cond.code yX3_wordOf cX3_wordOf 1 (some (.object "java/lang/String")) :: pm_tbl) B.pre
  have hts : ∀ x ∈ pm_tbl, x.before ([.int (nI w)] : List Value).toArray s = true := fun x h => hts0 x (List.mem_cons_of_mem _ h)
  have hown : s.vm.findClass RX3 = some m.cls := findClass_of_methodNamed B.named
  have hlocks := B.notSynchronized
  have hS : va_S sxF s.heap s.heap [] := va_S.rf
  have hl := lv_entry ([.int (nI w)] : List Value) (n := 1) (Nat.le_of_ble_eq_true rfl)
  rw [lg_entry_eq]
  generalize (lg_sl ([.int (nI w)] : List Value) ++ List.replicate (1 - (lg_sl ([.int (nI w)] : List Value)).length) Slot.unset).toArray = ls at hl ⊢
  have hl : lv_has ls 1 [(0, .int (nI w))] := hl
  refine lv_iload_n hx hb dX3_wordOf_0 rfl (lv_at hl 0 rfl) ?_
  have h7 : w = 0 ∨ w = 1 ∨ w = 2 ∨ w = 3 ∨ w = 4 ∨ w = 5 ∨ w = 6 := by omega
  rcases h7 with rfl | rfl | rfl | rfl | rfl | rfl | rfl
  · refine lv_tableIn (tgt := 40) hx hb dX3_wordOf_1 (by decide) (by decide) rfl rfl ?_
    refine va_ldcS hx hb hown (hX.2.1 0 (by decide)) dX3_wordOf_40 ?_
    exact W.aret hx hb hr (Or.inl ⟨_, rfl⟩) (Or.inr ⟨_, rfl⟩) (fun t ht hW => ⟨⟨(), _, rfl, trivial, rfl⟩, hS.F ht⟩) hS.2.2 dX3_wordOf_42
  · refine lv_tableIn (tgt := 43) hx hb dX3_wordOf_1 (by decide) (by decide) rfl rfl ?_
    refine va_ldcS hx hb hown (hX.2.1 1 (by decide)) dX3_wordOf_43 ?_
    exact W.aret hx hb hr (Or.inl ⟨_, rfl⟩) (Or.inr ⟨_, rfl⟩) (fun t ht hW => ⟨⟨(), _, rfl, trivial, rfl⟩, hS.F ht⟩) hS.2.2 dX3_wordOf_45
  · refine lv_tableIn (tgt := 46) hx hb dX3_wordOf_1 (by decide) (by decide) rfl rfl ?_
    refine va_ldcS hx hb hown (hX.2.1 2 (by decide)) dX3_wordOf_46 ?_
    exact W.aret hx hb hr (Or.inl ⟨_, rfl⟩) (Or.inr ⟨_, rfl⟩) (fun t ht hW => ⟨⟨(), _, rfl, trivial, rfl⟩, hS.F ht⟩) hS.2.2 dX3_wordOf_48
  · refine lv_tableIn (tgt := 49) hx hb dX3_wordOf_1 (by decide) (by decide) rfl rfl ?_
    refine va_ldcS hx hb hown (hX.2.1 3 (by decide)) dX3_wordOf_49 ?_
    exact W.aret hx hb hr (Or.inl ⟨_, rfl⟩) (Or.inr ⟨_, rfl⟩) (fun t ht hW => ⟨⟨(), _, rfl, trivial, rfl⟩, hS.F ht⟩) hS.2.2 dX3_wordOf_51
  · refine lv_tableIn (tgt := 52) hx hb dX3_wordOf_1 (by decide) (by decide) rfl rfl ?_
    refine va_ldcS hx hb hown (hX.2.1 4 (by decide)) dX3_wordOf_52 ?_
    exact W.aret hx hb hr (Or.inl ⟨_, rfl⟩) (Or.inr ⟨_, rfl⟩) (fun t ht hW => ⟨⟨(), _, rfl, trivial, rfl⟩, hS.F ht⟩) hS.2.2 dX3_wordOf_54
  · refine lv_tableIn (tgt := 55) hx hb dX3_wordOf_1 (by decide) (by decide) rfl rfl ?_
    refine va_ldcS hx hb hown (hX.2.1 5 (by decide)) dX3_wordOf_55 ?_
    exact W.aret hx hb hr (Or.inl ⟨_, rfl⟩) (Or.inr ⟨_, rfl⟩) (fun t ht hW => ⟨⟨(), _, rfl, trivial, rfl⟩, hS.F ht⟩) hS.2.2 dX3_wordOf_57
  · refine lv_tableOut (tgt := 58) hx hb dX3_wordOf_1 (by decide) (by decide) ?_
    refine va_ldcS hx hb hown (hX.2.1 6 (by decide)) dX3_wordOf_58 ?_
    exact W.aret hx hb hr (Or.inl ⟨_, rfl⟩) (Or.inr ⟨_, rfl⟩) (fun t ht hW => ⟨⟨(), _, rfl, trivial, rfl⟩, hS.F ht⟩) hS.2.2 dX3_wordOf_60
