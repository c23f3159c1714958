/-! ===== Tape.isSpelt, Tape.wordRead ===== -/
theorem tw_f11 : Cond.fieldLink RX3 11 "SpringBeads$Tape" "bytes" "[B" ∈ pm_tbl := pm_tab (List.mem_of_getElem? (i := 98) (by decide +kernel)) rfl
theorem tw_f47 : Cond.fieldLink RX3 47 "SpringBeads$Tape" "from" "I" ∈ pm_tbl := pm_tab (List.mem_of_getElem? (i := 106) (by decide +kernel)) rfl
theorem tw_f30 : Cond.fieldLink RX3 30 "SpringBeads$Tape" "behind" "I" ∈ pm_tbl := pm_tab (List.mem_of_getElem? (i := 107) (by decide +kernel)) rfl
theorem tw_sp : Cond.selects RX3 yX3_isSpelt yX3_isSpelt ∈ pm_tbl := pm_tbl_in (List.mem_append_left _ (List.mem_of_getElem? (i := 5) (by decide +kernel))) rfl
theorem sx_drop : ∀ (l : List Int32) (i : Nat), i < l.length → l.drop i = l.getD i 0 :: l.drop (i + 1)
  | [], _, h => absurd h (Nat.not_lt_zero _)
  | _ :: _, 0, _ => rfl
  | _ :: l, i + 1, h => sx_drop l i (Nat.lt_of_succ_lt_succ h)
theorem sx_dropW : ∀ (l : List (List Int32)) (i : Nat), i < l.length → l.drop i = l.getD i [] :: l.drop (i + 1)
  | [], _, h => absurd h (Nat.not_lt_zero _)
  | _ :: _, 0, _ => rfl
  | _ :: l, i + 1, h => sx_dropW l i (Nat.lt_of_succ_lt_succ h)
theorem sx_Cx {G : pm_G} {D : pm_Mem} {s : State} {H : Heap} {locs : List Loc} (hst : pm_St G D s) (hS : va_S sxF s.heap H locs) : pm_Cx G s D H locs := ⟨hst.1.kept (fun k q hk => hS.2.1 q.1 ((hst.1 k q hk).lt) id), hst.2.1, hS.1, fun q h1 _ => hS.2.1 q h1 id, fun q hq => (hS.2.2 q hq).elim⟩
set_option maxHeartbeats 4000000 in
theorem sx_isp (l : Launch) {G : pm_G} {adK adV : Nat → Nat} {fv : Value} {D : pm_Mem} {w a b : Nat} (hG : pm_ok G) (hSX : pm_SX G = sx_S (pm_A G) adK adV fv) (hfv : fv = .null ∨ ∃ a, fv = .ref a) (hw : w < 7) (hab : a ≤ b) (hb160 : b ≤ 160) (h5 : D 42 5 = nI a) (h6 : D 42 6 = nI b) : Met l yX3_isSpelt (Cond.code yX3_isSpelt cX3_isSpelt 3 (some .boolean) :: pm_tbl) (pm_rm 5) (va_Pc [.ref (pm_ad G 42), .ref (adK w)] (pm_St G D)) (va_Qi (fun r (_ : Unit) => r = z_bi (pm_spell D (pm_words.getD w []))) (fun _ _ => True) sxF) 0 0 sxF := by
  refine Met.ofW (cc := cX3_isSpelt) (maxL := 3) (ret := some .boolean) (by decide) rfl ?_
  intro p e s m args below meth c s₁ B hml hv
  obtain ⟨rfl, hst⟩ := hv
  have hx := B.exec
  have hb := B.bytes
  have hr := B.returns
  have hts0 := atoms_spec (ws := Cond.code yX3_isSpelt cX3_isSpelt 3 (some .boolean) :: pm_tbl) B.pre
  have hts : ∀ x ∈ pm_tbl, x.before ([.ref (pm_ad G 42), .ref (adK w)] : List Value).toArray s = true := fun x hx => hts0 x (List.mem_cons_of_mem _ hx)
  have hown : s.vm.findClass RX3 = some m.cls := findClass_of_methodNamed B.named
  have hlocks := B.notSynchronized
  have hS : va_S sxF s.heap s.heap [] := va_S.rf
  have hl := lv_entry ([.ref (pm_ad G 42), .ref (adK w)] : List Value) (n := 3) (Nat.le_of_ble_eq_true rfl)
  rw [lg_entry_eq]
  generalize (lg_sl ([.ref (pm_ad G 42), .ref (adK w)] : List Value) ++ List.replicate (3 - (lg_sl ([.ref (pm_ad G 42), .ref (adK w)] : List Value)).length) Slot.unset).toArray = ls at hl ⊢
  have hl : lv_has ls 3 [(0, .ref (pm_ad G 42)), (1, .ref (adK w))] := hl
  have hV := hst.2.2
  have hK := hV.1
  have hX : sx_S sxF adK adV fv s := by
    have h := hV.2.2.2.2.1
    rw [hSX] at h
    exact h.all
  have w42 : pm_w G D 42 = (pm_ad G 42, .inr (3, [.ref (pm_ad G 43), .int (D 42 1), .int (D 42 2), .int (D 42 3), .int (D 42 4), .int (D 42 5), .int (D 42 6), .int (D 42 7)])) := rfl
  have w43 : pm_w G D 43 = (pm_ad G 43, .inl (pm_cB G, 160, .inl (D 43))) := rfl
  obtain ⟨l1, l2⟩ := sx_ll w hw
  have hin3 := pm_u_in (ci := 3) inX3
  -- the answers
  have no : ∀ (pc : Nat) (H : Heap) (locs : List Loc) (ls : Array Slot), pm_spell D (pm_words.getD w []) = false → va_S sxF s.heap H locs → decode cX3_isSpelt pc = .ok (.iconst 0, 1) → decode cX3_isSpelt (pc + 1) = .ok (.ireturn, 1) → W p l e (pm_rm 5) s m ([.ref (pm_ad G 42), .ref (adK w)] : List Value).toArray below meth c H locs 0 0 (MQ below (va_Qi (fun r (_ : Unit) => r = z_bi (pm_spell D (pm_words.getD w []))) (fun _ _ => True) sxF) ([.ref (pm_ad G 42), .ref (adK w)] : List Value).toArray s 0 0 sxF) (F0 m pc ls []) := by
    intro pc H locs ls hf hS d1 d2
    refine lv_iconst (v := 0) hx hb d1 (by decide) ?_
    exact W.zret hx hb hr (by decide) (fun t ht hW => ⟨⟨0, (), rfl, by rw [hf]; rfl, trivial⟩, hS.F ht⟩) hS.2.2 d2
  have loop : ∀ (n i : Nat) (H : Heap) (locs : List Loc) (ls : Array Slot), i + n = sx_len.getD w 0 → b - a = sx_len.getD w 0 → pm_spell D (pm_words.getD w []) = pm_eqs (D 43) (a + i) ((pm_words.getD w []).drop i) → va_S sxF s.heap H locs → lv_has ls 3 [(2, .int (nI i)), (0, .ref (pm_ad G 42)), (1, .ref (adK w))] → W p l e (pm_rm 5) s m ([.ref (pm_ad G 42), .ref (adK w)] : List Value).toArray below meth c H locs 0 0 (MQ below (va_Qi (fun r (_ : Unit) => r = z_bi (pm_spell D (pm_words.getD w []))) (fun _ _ => True) sxF) ([.ref (pm_ad G 42), .ref (adK w)] : List Value).toArray s 0 0 sxF) (F0 m 20 ls []) := by
    intro n
    induction n with
    | zero =>
      intro i H locs ls hi hba he hS hl
      have hi : i = sx_len.getD w 0 := by omega
      rw [List.drop_eq_nil_of_le (by omega)] at he
      refine lv_iload_n hx hb dX3_isSpelt_20 rfl (lv_at hl 0 rfl) ?_
      refine lv_aload_n hx hb dX3_isSpelt_21 rfl (lv_at hl 2 rfl) ?_
      refine va_calli (va_runV (b := adK w) (As := []) (rest := [.int (nI i)]) ⟨hx, hb, hml, hown, hts⟩ (sx_lng (adK := adK) (adV := adV) (fv := fv) l hw) ⟨callB_of 0 hts (sx_good tw_267) rfl rfl rfl (hts _ tw_8) (hts _ tw_264) (by decide +kernel) ⟨by decide, by decide⟩, hts _ tw_265, hts _ tw_266⟩ ⟨fun a U g mk q => ⟨q.1, q.2.call g mk a⟩, vk_recv hX.1 hw hS, fun U hU hW => ⟨rfl, hX.go hW (fun q h1 h2 => by rw [hU]; exact hS.2.1 q h1 h2)⟩⟩ rfl rfl hl.1 rfl (lv_room (Nat.le_of_ble_eq_true rfl)) dX3_isSpelt_22 ⟨Nat.le_refl _, Nat.le_refl _⟩) hS (fun _ _ h => h) (fun _ h => h) (fun r u t H1 locs1 ht hvm hp hB hsz hk9 hS => ?_)
      subst hp
      refine lv_icmp_ge (tgt := 55) hx hb dX3_isSpelt_25 (by decide) (fun _ => ?_) (fun y => absurd (nI_le (by omega) (by omega)) y)
      refine lv_iconst (v := 1) hx hb dX3_isSpelt_55 (by decide) ?_
      exact W.zret hx hb hr (by decide) (fun t ht hW => ⟨⟨1, (), rfl, by rw [he]; rfl, trivial⟩, hS.F ht⟩) hS.2.2 dX3_isSpelt_56
    | succ n ih =>
      intro i H locs ls hi hba he hS hl
      have hlt : i < sx_len.getD w 0 := by omega
      rw [sx_drop _ i (by omega)] at he
      have he : pm_spell D (pm_words.getD w []) = (decide (D 43 (a + i) = (pm_words.getD w []).getD i 0) && pm_eqs (D 43) (a + i + 1) ((pm_words.getD w []).drop (i + 1))) := he
      refine lv_iload_n hx hb dX3_isSpelt_20 rfl (lv_at hl 0 rfl) ?_
      refine lv_aload_n hx hb dX3_isSpelt_21 rfl (lv_at hl 2 rfl) ?_
      refine va_calli (va_runV (b := adK w) (As := []) (rest := [.int (nI i)]) ⟨hx, hb, hml, hown, hts⟩ (sx_lng (adK := adK) (adV := adV) (fv := fv) l hw) ⟨callB_of 0 hts (sx_good tw_267) rfl rfl rfl (hts _ tw_8) (hts _ tw_264) (by decide +kernel) ⟨by decide, by decide⟩, hts _ tw_265, hts _ tw_266⟩ ⟨fun a U g mk q => ⟨q.1, q.2.call g mk a⟩, vk_recv hX.1 hw hS, fun U hU hW => ⟨rfl, hX.go hW (fun q h1 h2 => by rw [hU]; exact hS.2.1 q h1 h2)⟩⟩ rfl rfl hl.1 rfl (lv_room (Nat.le_of_ble_eq_true rfl)) dX3_isSpelt_22 ⟨Nat.le_refl _, Nat.le_refl _⟩) hS (fun _ _ h => h) (fun _ h => h) (fun r u t H1 locs1 ht hvm hp hB hsz hk9 hS => ?_)
      subst hp
      refine lv_icmp_ge (tgt := 55) hx hb dX3_isSpelt_25 (by decide) (fun y => absurd y (nI_ge hlt (by omega))) (fun _ => ?_)
      refine lv_aload_n hx hb dX3_isSpelt_28 rfl (lv_at hl 1 rfl) ?_
      refine va_get (v := .ref (pm_ad G 43)) hx hb hts hin3 hown hK ((sx_Cx hst hS).one (r := 42) (by decide)) 0 (congrArg some w42) rfl 0 (by decide) (hts _ tw_f11) (fun _ h => h) rfl dX3_isSpelt_29 ?_
      refine lv_aload_n hx hb dX3_isSpelt_32 rfl (lv_at hl 1 rfl) ?_
      refine va_get (v := .int (D 42 5)) hx hb hts hin3 hown hK ((sx_Cx hst hS).one (r := 42) (by decide)) 0 (congrArg some w42) rfl 5 (by decide) (hts _ tw_f47) (fun _ h => h) rfl dX3_isSpelt_33 ?_
      refine lv_iload_n hx hb dX3_isSpelt_36 rfl (lv_at hl 0 rfl) ?_
      refine lv_iadd hx hb dX3_isSpelt_37 ?_
      rw [h5, nI_add]
      refine va_bald hx hb hK ((sx_Cx hst hS).one (r := 43) (by decide)) 0 1 (congrArg some w43) rfl (i := nI (a + i)) (vp_in_nI (by omega) (by omega)) dX3_isSpelt_38 ?_
      rw [nI_clamp (by omega)]
      refine lv_aload_n hx hb dX3_isSpelt_39 rfl (lv_at hl 2 rfl) ?_
      refine lv_iload_n hx hb dX3_isSpelt_40 rfl (lv_at hl 0 rfl) ?_
      refine va_calli (va_runV (b := adK w) (As := [.int (nI i)]) (rest := [.int (D 43 (a + i))]) ⟨hx, hb, hml, hown, hts⟩ (sx_cha (adK := adK) (adV := adV) (fv := fv) l hw hlt hfv) ⟨callB_of 1 hts (sx_good tw_277) rfl rfl rfl (hts _ tw_8) (hts _ tw_274) (by decide +kernel) ⟨by decide, by decide⟩, hts _ tw_275, hts _ tw_276⟩ ⟨fun a U g mk q => ⟨q.1, q.2.call g mk a⟩, vk_recv hX.1 hw hS, fun U hU hW => ⟨rfl, hX.go hW (fun q h1 h2 => by rw [hU]; exact hS.2.1 q h1 h2)⟩⟩ rfl rfl hl.1 rfl (lv_room (Nat.le_of_ble_eq_true rfl)) dX3_isSpelt_41 ⟨Nat.le_refl _, Nat.le_refl _⟩) hS (fun _ _ h => h) (fun _ h => h) (fun r u t H1 locs1 ht hvm hp hB hsz hk9 hS => ?_)
      subst hp
      refine lv_icmp_eq (tgt := 49) hx hb dX3_isSpelt_44 (by decide) (fun y => ?_) (fun y => ?_)
      · rw [decide_eq_true y, Bool.true_and] at he
        refine lv_iinc (v := nI (i + 1)) (lv' := [(2, .int (nI (i + 1))), (0, .ref (pm_ad G 42)), (1, .ref (adK w))]) hx hb dX3_isSpelt_49 hl (k := 0) rfl (nI_1 i) (by decide) rfl (fun ls hl => ?_)
        refine lv_goto (tgt := 20) hx hb dX3_isSpelt_52 (by decide) ?_
        exact ih (i + 1) _ _ ls (by omega) hba he hS hl
      · rw [decide_eq_false y, Bool.false_and] at he
        exact no 47 _ _ ls he hS dX3_isSpelt_47 dX3_isSpelt_48
  refine lv_aload_n hx hb dX3_isSpelt_0 rfl (lv_at hl 0 rfl) ?_
  refine va_get (v := .int (D 42 6)) hx hb hts hin3 hown hK ((sx_Cx hst hS).one (r := 42) (by decide)) 0 (congrArg some w42) rfl 6 (by decide) (hts _ tw_f30) (fun _ h => h) rfl dX3_isSpelt_1 ?_
  refine lv_aload_n hx hb dX3_isSpelt_4 rfl (lv_at hl 0 rfl) ?_
  refine va_get (v := .int (D 42 5)) hx hb hts hin3 hown hK ((sx_Cx hst hS).one (r := 42) (by decide)) 0 (congrArg some w42) rfl 5 (by decide) (hts _ tw_f47) (fun _ h => h) rfl dX3_isSpelt_5 ?_
  refine lv_isub hx hb dX3_isSpelt_8 ?_
  have e65 : D 42 6 - D 42 5 = nI (b - a) := by rw [h5, h6, nI_subN hab]
  rw [e65]
  refine lv_aload_n hx hb dX3_isSpelt_9 rfl (lv_at hl 1 rfl) ?_
  refine va_calli (va_runV (b := adK w) (As := []) (rest := [.int (nI (b - a))]) ⟨hx, hb, hml, hown, hts⟩ (sx_lng (adK := adK) (adV := adV) (fv := fv) l hw) ⟨callB_of 0 hts (sx_good tw_267) rfl rfl rfl (hts _ tw_8) (hts _ tw_264) (by decide +kernel) ⟨by decide, by decide⟩, hts _ tw_265, hts _ tw_266⟩ ⟨fun a U g mk q => ⟨q.1, q.2.call g mk a⟩, vk_recv hX.1 hw hS, fun U hU hW => ⟨rfl, hX.go hW (fun q h1 h2 => by rw [hU])⟩⟩ rfl rfl hl.1 rfl (lv_room (Nat.le_of_ble_eq_true rfl)) dX3_isSpelt_10 ⟨Nat.le_refl _, Nat.le_refl _⟩) hS (fun _ _ h => h) (fun _ h => h) (fun r u t H1 locs1 ht hvm hp hB hsz hk9 hS => ?_)
  subst hp
  have hsp : pm_spell D (pm_words.getD w []) = (decide (nI (b - a) = nI (sx_len.getD w 0)) && pm_eqs (D 43) a (pm_words.getD w [])) := by
    unfold pm_spell
    rw [e65, l1, h5, nI_clamp (by omega)]
  refine lv_icmp_eq (tgt := 18) hx hb dX3_isSpelt_13 (by decide) (fun y => ?_) (fun y => ?_)
  · rw [decide_eq_true y, Bool.true_and] at hsp
    have hba : b - a = sx_len.getD w 0 := by
      rw [z_eq, z_tI (by omega), z_tI (by omega)] at y
      omega
    refine lv_iconst (v := 0) hx hb dX3_isSpelt_18 (by decide) ?_
    refine lv_istore_n (lv' := [(2, .int 0), (0, .ref (pm_ad G 42)), (1, .ref (adK w))]) hx hb dX3_isSpelt_19 rfl hl (by decide) rfl (fun ls hl => ?_)
    exact loop (sx_len.getD w 0) 0 _ _ ls (Nat.zero_add _) hba hsp hS hl
  · rw [decide_eq_false y, Bool.false_and] at hsp
    exact no 16 _ _ ls hsp hS dX3_isSpelt_16 dX3_isSpelt_17
set_option maxHeartbeats 4000000 in
/-- Tape.wordRead() as the small machine has it -/
theorem sx_word {l : Launch} {G : pm_G} {adK adV : Nat → Nat} {fv : Value} (hG : pm_ok G) (hSX : pm_SX G = sx_S (pm_A G) adK adV fv) (hfv : fv = .null ∨ ∃ a, fv = .ref a) : ∀ d as D post, pm_word d as D post → pm_C l G (d + 1) 0 as D post := by
  intro d as D post h
  obtain ⟨hd, rfl, ⟨a, b, hab, hb160, h5, h6⟩, hp⟩ := h
  show Met l yX3_wordRead (Cond.code yX3_wordRead cX3_wordRead 2 (some .int) :: pm_tbl) (pm_rm (d + 1)) (pm_Pc G [.ref 42] D) (pm_Qc G post) 0 0 (pm_A G)
  refine Met.ofW (cc := cX3_wordRead) (maxL := 2) (ret := some .int) (by decide) rfl ?_
  intro p e s m args below meth c s₁ B hml hv
  obtain ⟨rfl, hst⟩ := hv
  have hx := B.exec
  have hb := B.bytes
  have hr := B.returns
  have hts0 := atoms_spec (ws := Cond.code yX3_wordRead cX3_wordRead 2 (some .int) :: pm_tbl) B.pre
  have hts : ∀ x ∈ pm_tbl, x.before (([.ref 42] : List Value).map (pm_e (pm_ad G))).toArray s = true := fun x hx => hts0 x (List.mem_cons_of_mem _ hx)
  have hown : s.vm.findClass RX3 = some m.cls := findClass_of_methodNamed B.named
  have hlocks := B.notSynchronized
  have hS : va_S sxF s.heap s.heap [] := va_S.rf
  have hl := lv_entry ([.ref (pm_ad G 42)] : List Value) (n := 2) (Nat.le_of_ble_eq_true rfl)
  rw [lg_entry_eq]
  have ev : ([.ref 42] : List Value).map (pm_e (pm_ad G)) = [.ref (pm_ad G 42)] := rfl
  rw [ev]
  generalize (lg_sl ([.ref (pm_ad G 42)] : List Value) ++ List.replicate (2 - (lg_sl ([.ref (pm_ad G 42)] : List Value)).length) Slot.unset).toArray = ls at hl ⊢
  have hl : lv_has ls 2 [(0, .ref (pm_ad G 42))] := hl
  rw [ev] at hts
  have hV := hst.2.2
  have hK := hV.1
  have hX : sx_S sxF adK adV fv s := by
    have h := hV.2.2.2.2.1
    rw [hSX] at h
    exact h.all
  have w42 : pm_w G D 42 = (pm_ad G 42, .inr (3, [.ref (pm_ad G 43), .int (D 42 1), .int (D 42 2), .int (D 42 3), .int (D 42 4), .int (D 42 5), .int (D 42 6), .int (D 42 7)])) := rfl
  have hq : ∀ (v : Int32) (H : Heap) (locs : List Loc), v = pm_wf D pm_words 0 → va_S sxF s.heap H locs → ∀ t : State, t.heap = H → s.WarmedH t.vm → pm_Qc G post ([.ref (pm_ad G 42)] : List Value).toArray s (.returned (some (.int v))) t := by
    intro v H locs hv hS t ht hW
    subst hv
    exact ⟨⟨some (.int (pm_wf D pm_words 0)), D, rfl, hp, (sx_Cx hst hS).st hG hV ht hW⟩, (sx_Cx hst hS).2.2.F ht⟩
  have loop : ∀ (n i : Nat) (H : Heap) (locs : List Loc) (ls : Array Slot), i + n = 7 → pm_wf D pm_words 0 = pm_wf D (pm_words.drop i) i → va_S sxF s.heap H locs → lv_has ls 2 [(1, .int (nI i)), (0, .ref (pm_ad G 42))] → W p l e (pm_rm (d + 1)) s m ([.ref (pm_ad G 42)] : List Value).toArray below meth c H locs 0 0 (MQ below (pm_Qc G post) ([.ref (pm_ad G 42)] : List Value).toArray s 0 0 (pm_A G)) (F0 m 2 ls []) := by
    intro n
    induction n with
    | zero =>
      intro i H locs ls hi he hS hl
      have hi : i = 7 := by omega
      subst hi
      refine lv_iload_n hx hb dX3_wordRead_2 rfl (lv_at hl 0 rfl) ?_
      refine lv_bipush (v := 7) hx hb dX3_wordRead_3 (by decide) ?_
      refine lv_icmp_ge (tgt := 27) hx hb dX3_wordRead_5 (by decide) (fun _ => ?_) (fun y => absurd (by decide) y)
      refine lv_bipush (v := 7) hx hb dX3_wordRead_27 (by decide) ?_
      exact W.iret hx hb hr (hq 7 H locs (by rw [he]; rfl) hS) (fun q h => (hS.2.2 q h).elim) dX3_wordRead_29
    | succ n ih =>
      intro i H locs ls hi he hS hl
      have hlt : i < 7 := by omega
      rw [sx_dropW pm_words i (by have : pm_words.length = 7 := rfl; omega)] at he
      have he : pm_wf D pm_words 0 = if pm_spell D (pm_words.getD i []) = true then nI i else pm_wf D (pm_words.drop (i + 1)) (i + 1) := he
      refine lv_iload_n hx hb dX3_wordRead_2 rfl (lv_at hl 0 rfl) ?_
      refine lv_bipush (v := 7) hx hb dX3_wordRead_3 (by decide) ?_
      refine lv_icmp_ge (tgt := 27) hx hb dX3_wordRead_5 (by decide) (fun y => absurd y (nI_ge (b := 7) hlt (by omega))) (fun _ => ?_)
      refine lv_aload_n hx hb dX3_wordRead_8 rfl (lv_at hl 1 rfl) ?_
      refine lv_iload_n hx hb dX3_wordRead_9 rfl (lv_at hl 0 rfl) ?_
      refine va_callr (va_runS (As := [.int (nI i)]) (rest := [.ref (pm_ad G 42)]) ⟨hx, hb, hml, hown, hts⟩ (sx_wof (adK := adK) (adV := adV) (fv := fv) l hlt) ⟨callB_of 1 hts (sx_good tw_252) rfl rfl rfl (hts _ tw_3) (hts _ tw_250) (by decide +kernel) ⟨by show 1 + 1 ≤ d + 1; omega, by show 8 + (1 + 11) + 36 * 1 ≤ 36 * (d + 1); omega⟩, hts _ tw_251⟩ ⟨fun a U g mk q => ⟨q.1, q.2.call g mk a⟩, fun U hU hW => ⟨rfl, hX.go hW (fun q h1 h2 => by rw [hU]; exact hS.2.1 q h1 h2)⟩⟩ rfl rfl hl.1 rfl (lv_room (Nat.le_of_ble_eq_true rfl)) dX3_wordRead_10 ⟨Nat.le_refl _, Nat.le_refl _⟩) hS (fun _ _ h => h) (fun _ h => h) (fun u aK t H1 locs1 ht hvm hp9 hB hsz hk9 hS => ?_)
      subst hB
      refine va_calli (va_runV (b := pm_ad G 42) (As := [.ref (adK i)]) (rest := []) ⟨hx, hb, hml, hown, hts⟩ (sx_isp l hG hSX hfv hlt hab hb160 h5 h6) ⟨callB_of 1 hts (sx_good tw_263) rfl rfl rfl (hts _ tw_3) (hts _ tw_260) (by decide +kernel) ⟨by show 5 + 1 ≤ d + 1; omega, by show 8 + (3 + 11) + 36 * 5 ≤ 36 * (d + 1); omega⟩, hts _ tw_262, hts _ tw_sp⟩ ⟨fun a U g mk q => ⟨q.1, q.2.blind hG g mk a⟩, va_recv (q := (RX3, TX3, 8)) hV.1 ((sx_Cx hst hS).one (r := 42) (by decide)) rfl (q0 := 0) (congrArg some w42), fun U hU hW => ⟨rfl, (sx_Cx hst hS).st hG hV hU hW⟩⟩ rfl rfl hl.1 rfl (lv_room (Nat.le_of_ble_eq_true rfl)) dX3_wordRead_13 ⟨Nat.le_refl _, Nat.le_refl _⟩) hS (fun _ _ h => h) (fun _ h => h) (fun r u t H1 locs1 ht hvm hp9 hB hsz hk9 hS => ?_)
      subst hp9
      cases hsp : pm_spell D (pm_words.getD i []) with
      | true =>
        rw [hsp, if_pos rfl] at he
        refine lv_if_eq (tgt := 21) hx hb dX3_wordRead_16 (by decide) (fun y => absurd y (by decide)) (fun _ => ?_)
        refine lv_iload_n hx hb dX3_wordRead_19 rfl (lv_at hl 0 rfl) ?_
        exact W.iret hx hb hr (hq (nI i) _ _ he.symm hS) (fun q h => (hS.2.2 q h).elim) dX3_wordRead_20
      | false =>
        rw [hsp, if_neg (by decide)] at he
        refine lv_if_eq (tgt := 21) hx hb dX3_wordRead_16 (by decide) (fun _ => ?_) (fun y => absurd rfl y)
        refine lv_iinc (v := nI (i + 1)) (lv' := [(1, .int (nI (i + 1))), (0, .ref (pm_ad G 42))]) hx hb dX3_wordRead_21 hl (k := 0) rfl (nI_1 i) (by decide) rfl (fun ls hl => ?_)
        refine lv_goto (tgt := 2) hx hb dX3_wordRead_24 (by decide) ?_
        exact ih (i + 1) _ _ ls (by omega) he hS hl
  refine lv_iconst (v := 0) hx hb dX3_wordRead_0 (by decide) ?_
  refine lv_istore_n (lv' := [(1, .int 0), (0, .ref (pm_ad G 42))]) hx hb dX3_wordRead_1 rfl hl (by decide) rfl (fun ls hl => ?_)
  exact loop 7 0 _ _ ls (by decide) rfl hS hl
