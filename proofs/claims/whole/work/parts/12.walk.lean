section PMW
variable {p : Program} {l : Launch} {e : Env} {R : Room} {s : State} {m : MethodId} {args : Array Value} {below : List Frame} {meth : Method} {c : Code} {H : Heap} {locs : List Loc} {cells slots : Nat} {Q : State → Prop}
variable {pc : Nat} {ls : Array Slot} {rest st0 : List Value} {a : Array Value} {G : pm_G} {D : pm_Mem}
/-- an instruction that ends a method, with what it answers -/
def pm_isret (i : Instr) (rt : Option FieldType) (v : Option Value) : Prop :=
  (i = .ireturn ∧ ∃ x, v = some (.int x) ∧ (rt = some .int ∨ (rt = some .boolean ∧ (x = 0 ∨ x = 1)))) ∨ (i = .lreturn ∧ ∃ x, v = some (.long x) ∧ rt = some .long) ∨ (i = .areturn ∧ ∃ x, v = some (.ref x) ∧ ((∃ n, rt = some (.object n)) ∨ ∃ t, rt = some (.array t))) ∨ (i = .return_ ∧ v = none ∧ rt = none)
theorem pm_ret.spec {rt : Option FieldType} {post : pm_Post} {v : Int32} {D : pm_Mem} (h : pm_ret rt post v D) : pm_isret .ireturn rt (some (.int v)) ∧ post (some (.int v)) D := by
  unfold pm_ret at h
  split at h
  · exact ⟨Or.inl ⟨rfl, v, rfl, Or.inl rfl⟩, h⟩
  · exact ⟨Or.inl ⟨rfl, v, rfl, Or.inr ⟨rfl, h.1⟩⟩, h.2⟩
  · exact h.elim
theorem pm_sw.spec {x : Int32} {pc : Nat} {K : Nat → Prop} : ∀ {os : List Int} {lo : Int} (_ : pm_sw x pc K lo os) (_ : os.all (fun o => decide (0 ≤ (pc : Int) + o)) = true) (_ : lo ≤ x.toInt) (_ : x.toInt < lo + os.length), ∃ (off : Int) (t : Nat), os[(x.toInt - lo).toNat]? = some off ∧ (pc : Int) + off = (t : Int) ∧ K t
  | [], lo, _, _, h1, h2 => by
    simp at h2
    omega
  | o :: os, lo, h, ha, h1, h2 => by
    simp only [List.all_cons, Bool.and_eq_true, decide_eq_true_eq] at ha
    by_cases e : x.toInt = lo
    · exact ⟨o, ((pc : Int) + o).toNat, by rw [e]; simp, by omega, h.1 e⟩
    · obtain ⟨off, t, g1, g2, g3⟩ := pm_sw.spec h.2 ha.2 (by omega) (by simp at h2; omega)
      refine ⟨off, t, ?_, g2, g3⟩
      rw [show (x.toInt - lo).toNat = (x.toInt - (lo + 1)).toNat + 1 by omega, List.getElem?_cons_succ]
      exact g1
theorem pm_nar_bz (x : Int32) (h : x = 0 ∨ x = 1) : narrow .boolean (.int x) = .int x ∧ fits .boolean (.int x) = true := by
  rcases h with rfl | rfl <;> exact ⟨rfl, rfl⟩
set_option maxHeartbeats 8000000 in
set_option maxRecDepth 100000 in
theorem pm_walk {q : pm_MI} {d N : Nat} {Ga : pm_Ga} {post : pm_Post} {Qf : State → Prop} (hG : pm_ok G) (hN : pm_N G = N) (hV : pm_V G s) (hx : p.tables.exec = Jvm.exec) (hb : c.code = pm_cc q) (hml : c.maxLocals = pm_mL q) (hown : s.vm.findClass (pm_cn (pm_ow q)) = some m.cls) (hts : ∀ w ∈ pm_tbl, w.before args s = true) (hok : pm_okT q)
    (hms : ∀ j, pm_MOK (pm_mj j)) (hcall : ∀ j as D post, Ga j as D post → pm_C l G d j as D post) (hR : d + 1 ≤ R.frames ∧ 36 * (d + 1) ≤ R.locals) (hcs : cells ≤ R.cells ∧ slots ≤ R.slots)
    (hret : ∀ (i : Instr) (pc : Nat) (ls : Array Slot) (D : pm_Mem) (H : Heap) (locs : List Loc) (v : Option Value), decode (pm_cc q) pc = .ok (i, 1) → pm_isret i (pm_rt q) v → post v D → pm_Cx G s D H locs → W p l e R s m args below meth c H locs cells slots Qf (F0 m pc ls ((v.map (pm_e (pm_ad G))).toList)))
    {pc : Nat} {L : pm_L} {st : List Value} {D : pm_Mem} (hE : pm_Ev N Ga (pm_tb q) (pm_rt q) post pc L st D) : ∀ (H : Heap) (locs : List Loc) (ls : Array Slot), pm_Cx G s D H locs → pm_LS (pm_ad G) ls (pm_mL q) L → W p l e R s m args below meth c H locs cells slots Qf (F0 m pc ls (st.map (pm_e (pm_ad G)))) := by
  refine hE (fun pc L st D => ∀ (H : Heap) (locs : List Loc) (ls : Array Slot), pm_Cx G s D H locs → pm_LS (pm_ad G) ls (pm_mL q) L → W p l e R s m args below meth c H locs cells slots Qf (F0 m pc ls (st.map (pm_e (pm_ad G))))) ?_
  clear hE pc L st D
  intro pc L st D hF H locs ls hC hL
  unfold pm_F at hF
  cases hlk : pm_lk (pm_tb q) pc with
  | none => rw [hlk] at hF; exact hF.elim
  | some ent =>
  obtain ⟨i, nx, au, t1, t2⟩ := ent
  rw [hlk] at hF
  obtain ⟨hn, hdx, hI⟩ := pm_okE.spec (hok _ (pm_lk_mem hlk))
  have hK := hV.1
  cases i with
  | iconst n =>
    obtain ⟨rfl, hd⟩ := hn 0 rfl
    dsimp only at hF
    have ha : au = .int (Int32.ofInt n) := of_decide_eq_true hI
    subst ha
    exact lv_iconst hx hb hd rfl (hF H locs ls hC hL)
  | bipush n =>
    obtain ⟨rfl, hd⟩ := hn 1 rfl
    dsimp only at hF
    have ha : au = .int (Int8.ofInt n).toInt32 := of_decide_eq_true hI
    subst ha
    exact lv_bipush hx hb hd rfl (hF H locs ls hC hL)
  | sipush n =>
    obtain ⟨rfl, hd⟩ := hn 2 rfl
    dsimp only at hF
    have ha : au = .int (Int16.ofInt n).toInt32 := of_decide_eq_true hI
    subst ha
    exact lv_sipush hx hb hd rfl (hF H locs ls hC hL)
  | lconst n =>
    obtain ⟨rfl, hd⟩ := hn 0 rfl
    dsimp only at hF
    have ha : au = .long (Int64.ofNat n.val) := of_decide_eq_true hI
    subst ha
    exact lv_lconst hx hb hd rfl (hF H locs ls hC hL)
  | ldc k =>
    obtain ⟨rfl, hd⟩ := hn 1 rfl
    dsimp only at hF
    simp only [pm_okI, Bool.and_eq_true, decide_eq_true_eq] at hI
    obtain ⟨h1, h2⟩ := hI
    cases au with
    | int v => exact lv_ldc hx hb hown (hts _ (pm_tab (pm_cl_in _ (List.mem_map_of_mem h1)) rfl)) hd (hF H locs ls hC hL)
    | _ => cases h2
  | ldc_w k =>
    obtain ⟨rfl, hd⟩ := hn 2 rfl
    dsimp only at hF
    simp only [pm_okI, Bool.and_eq_true, decide_eq_true_eq] at hI
    obtain ⟨h1, h2⟩ := hI
    cases au with
    | int v => exact lv_ldcw hx hb hown (hts _ (pm_tab (pm_cl_in _ (List.mem_map_of_mem h1)) rfl)) hd (hF H locs ls hC hL)
    | _ => cases h2
  | ldc2_w k =>
    obtain ⟨rfl, hd⟩ := hn 2 rfl
    dsimp only at hF
    simp only [pm_okI, Bool.and_eq_true, decide_eq_true_eq] at hI
    obtain ⟨h1, h2⟩ := hI
    cases au with
    | long v => exact lv_ldc2 hx hb hown (hts _ (pm_tab (pm_cl_in _ (List.mem_map_of_mem h1)) rfl)) hd (hF H locs ls hC hL)
    | _ => cases h2
  | getstatic k =>
    obtain ⟨rfl, hd⟩ := hn 2 rfl
    dsimp only at hF
    exact pm_gets hV hC hx hb hown hts (of_decide_eq_true hI) hd (hF H locs ls hC hL)
  | iload_n k =>
    obtain ⟨rfl, hd⟩ := hn 0 rfl
    dsimp only at hF
    have hk : (k : Nat) = t1 := Nat.eq_of_beq_eq_true hI
    split at hF
    · rename_i x hg
      exact lv_iload_n hx hb hd hk (hL.at hg) (hF H locs ls hC hL)
    · exact hF.elim
  | iload k =>
    obtain ⟨rfl, hd⟩ := hn 1 rfl
    dsimp only at hF
    have hk : k = t1 := Nat.eq_of_beq_eq_true hI
    subst hk
    split at hF
    · rename_i x hg
      exact lv_iload hx hb hd (hL.at hg) (hF H locs ls hC hL)
    · exact hF.elim
  | lload_n k =>
    obtain ⟨rfl, hd⟩ := hn 0 rfl
    dsimp only at hF
    have hk : (k : Nat) = t1 := Nat.eq_of_beq_eq_true hI
    split at hF
    · rename_i x hg
      exact lv_lload_n hx hb hd hk (hL.at hg) (hF H locs ls hC hL)
    · exact hF.elim
  | lload k =>
    obtain ⟨rfl, hd⟩ := hn 1 rfl
    dsimp only at hF
    have hk : k = t1 := Nat.eq_of_beq_eq_true hI
    subst hk
    split at hF
    · rename_i x hg
      exact lv_lload hx hb hd (hL.at hg) (hF H locs ls hC hL)
    · exact hF.elim
  | aload_n k =>
    obtain ⟨rfl, hd⟩ := hn 0 rfl
    dsimp only at hF
    have hk : (k : Nat) = t1 := Nat.eq_of_beq_eq_true hI
    split at hF
    · rename_i x hg
      exact lv_aload_n hx hb hd hk (hL.at hg) (hF H locs ls hC hL)
    · exact hF.elim
  | aload k =>
    obtain ⟨rfl, hd⟩ := hn 1 rfl
    dsimp only at hF
    have hk : k = t1 := Nat.eq_of_beq_eq_true hI
    subst hk
    split at hF
    · rename_i x hg
      exact lv_aload hx hb hd (hL.at hg) (hF H locs ls hC hL)
    · exact hF.elim
  | istore_n k =>
    obtain ⟨rfl, hd⟩ := hn 0 rfl
    dsimp only at hF
    have hk : (k : Nat) = t1 := Nat.eq_of_beq_eq_true hI
    split at hF
    · rename_i x st'
      obtain ⟨L', k1, k2, k3, k4, k5, k6⟩ := pm_set1_spec L t1 _ _ hF
      exact lv_istore_n hx hb hd hk hL.2 (by rw [← hL.1]; exact k3) rfl (fun ls' h' => k1 H locs ls' hC (pm_LS.set1 hL.1 k2 k4 k5 k6 h'))
    · exact hF.elim
  | istore k =>
    obtain ⟨rfl, hd⟩ := hn 1 rfl
    dsimp only at hF
    have hk : k = t1 := Nat.eq_of_beq_eq_true hI
    subst hk
    split at hF
    · rename_i x st'
      obtain ⟨L', k1, k2, k3, k4, k5, k6⟩ := pm_set1_spec L k _ _ hF
      exact lv_istore hx hb hd hL.2 (by rw [← hL.1]; exact k3) rfl (fun ls' h' => k1 H locs ls' hC (pm_LS.set1 hL.1 k2 k4 k5 k6 h'))
    · exact hF.elim
  | astore_n k =>
    obtain ⟨rfl, hd⟩ := hn 0 rfl
    dsimp only at hF
    have hk : (k : Nat) = t1 := Nat.eq_of_beq_eq_true hI
    split at hF
    · rename_i x st'
      obtain ⟨L', k1, k2, k3, k4, k5, k6⟩ := pm_set1_spec L t1 _ _ hF
      exact lv_astore_n hx hb hd hk hL.2 (by rw [← hL.1]; exact k3) rfl (fun ls' h' => k1 H locs ls' hC (pm_LS.set1 hL.1 k2 k4 k5 k6 h'))
    · exact hF.elim
  | astore k =>
    obtain ⟨rfl, hd⟩ := hn 1 rfl
    dsimp only at hF
    have hk : k = t1 := Nat.eq_of_beq_eq_true hI
    subst hk
    split at hF
    · rename_i x st'
      obtain ⟨L', k1, k2, k3, k4, k5, k6⟩ := pm_set1_spec L k _ _ hF
      exact lv_astore hx hb hd hL.2 (by rw [← hL.1]; exact k3) rfl (fun ls' h' => k1 H locs ls' hC (pm_LS.set1 hL.1 k2 k4 k5 k6 h'))
    · exact hF.elim
  | lstore_n k =>
    obtain ⟨rfl, hd⟩ := hn 0 rfl
    dsimp only at hF
    have hk : (k : Nat) = t1 := Nat.eq_of_beq_eq_true hI
    split at hF
    · rename_i x st'
      obtain ⟨L', k1, k2, k3, k4, k4', k5, k6⟩ := pm_set2_spec L t1 _ _ hF
      exact lv_lstore_n hx hb hd hk hL.2 (by rw [← hL.1]; exact k3) rfl (fun ls' h' => k1 H locs ls' hC (pm_LS.set2 hL.1 k2 k4 k4' k5 k6 h'))
    · exact hF.elim
  | lstore k =>
    obtain ⟨rfl, hd⟩ := hn 1 rfl
    dsimp only at hF
    have hk : k = t1 := Nat.eq_of_beq_eq_true hI
    subst hk
    split at hF
    · rename_i x st'
      obtain ⟨L', k1, k2, k3, k4, k4', k5, k6⟩ := pm_set2_spec L k _ _ hF
      exact lv_lstore hx hb hd hL.2 (by rw [← hL.1]; exact k3) rfl (fun ls' h' => k1 H locs ls' hC (pm_LS.set2 hL.1 k2 k4 k4' k5 k6 h'))
    · exact hF.elim
  | iinc k n =>
    obtain ⟨rfl, hd⟩ := hn 2 rfl
    dsimp only at hF
    simp only [pm_okI, Bool.and_eq_true, decide_eq_true_eq] at hI
    have hk : k = t1 := Nat.eq_of_beq_eq_true hI.1
    subst hk
    have ha := hI.2
    subst ha
    split at hF
    · rename_i x cc' hg he
      cases he
      obtain ⟨L', k1, k2, k3, k4, k5, k6⟩ := pm_set1_spec L k _ _ hF
      obtain ⟨kk, hkk⟩ := List.getElem?_of_mem (pm_prs_in (pm_ad G) L 0 k _ hg)
      rw [Nat.zero_add] at hkk
      exact lv_iinc hx hb hd hL.2 hkk rfl (by rw [← hL.1]; exact k3) rfl (fun ls' h' => k1 H locs ls' hC (pm_LS.set1 hL.1 k2 k4 k5 k6 h'))
    · exact hF.elim
  | iadd =>
    obtain ⟨rfl, hd⟩ := hn 0 rfl
    dsimp only at hF
    split at hF
    · exact lv_iadd hx hb hd (hF H locs ls hC hL)
    · exact hF.elim
  | isub =>
    obtain ⟨rfl, hd⟩ := hn 0 rfl
    dsimp only at hF
    split at hF
    · exact lv_isub hx hb hd (hF H locs ls hC hL)
    · exact hF.elim
  | imul =>
    obtain ⟨rfl, hd⟩ := hn 0 rfl
    dsimp only at hF
    split at hF
    · exact lv_imul hx hb hd (hF H locs ls hC hL)
    · exact hF.elim
  | iand =>
    obtain ⟨rfl, hd⟩ := hn 0 rfl
    dsimp only at hF
    split at hF
    · exact lv_iand hx hb hd (hF H locs ls hC hL)
    · exact hF.elim
  | ior =>
    obtain ⟨rfl, hd⟩ := hn 0 rfl
    dsimp only at hF
    split at hF
    · exact lv_ior hx hb hd (hF H locs ls hC hL)
    · exact hF.elim
  | ishl =>
    obtain ⟨rfl, hd⟩ := hn 0 rfl
    dsimp only at hF
    split at hF
    · exact lv_ishl hx hb hd (hF H locs ls hC hL)
    · exact hF.elim
  | ishr =>
    obtain ⟨rfl, hd⟩ := hn 0 rfl
    dsimp only at hF
    split at hF
    · exact lv_ishr hx hb hd (hF H locs ls hC hL)
    · exact hF.elim
  | ladd =>
    obtain ⟨rfl, hd⟩ := hn 0 rfl
    dsimp only at hF
    split at hF
    · exact lv_ladd hx hb hd (hF H locs ls hC hL)
    · exact hF.elim
  | lmul =>
    obtain ⟨rfl, hd⟩ := hn 0 rfl
    dsimp only at hF
    split at hF
    · exact lv_lmul hx hb hd (hF H locs ls hC hL)
    · exact hF.elim
  | idiv =>
    obtain ⟨rfl, hd⟩ := hn 0 rfl
    dsimp only at hF
    split at hF
    · exact lv_idiv hx hb hd hF.1 (hF.2 H locs ls hC hL)
    · exact hF.elim
  | irem =>
    obtain ⟨rfl, hd⟩ := hn 0 rfl
    dsimp only at hF
    split at hF
    · exact lv_irem hx hb hd hF.1 (hF.2 H locs ls hC hL)
    · exact hF.elim
  | ldiv =>
    obtain ⟨rfl, hd⟩ := hn 0 rfl
    dsimp only at hF
    split at hF
    · exact lv_ldiv hx hb hd hF.1 (hF.2 H locs ls hC hL)
    · exact hF.elim
  | lrem =>
    obtain ⟨rfl, hd⟩ := hn 0 rfl
    dsimp only at hF
    split at hF
    · exact lv_lrem hx hb hd hF.1 (hF.2 H locs ls hC hL)
    · exact hF.elim
  | lcmp =>
    obtain ⟨rfl, hd⟩ := hn 0 rfl
    dsimp only at hF
    split at hF
    · exact W.lcmp hx hb hd (hF H locs ls hC hL)
    · exact hF.elim
  | ineg =>
    obtain ⟨rfl, hd⟩ := hn 0 rfl
    dsimp only at hF
    split at hF
    · exact lv_ineg hx hb hd (hF H locs ls hC hL)
    · exact hF.elim
  | iushr =>
    obtain ⟨rfl, hd⟩ := hn 0 rfl
    dsimp only at hF
    split at hF
    · exact lv_iushr hx hb hd rfl (hF H locs ls hC hL)
    · exact hF.elim
  | i2l =>
    obtain ⟨rfl, hd⟩ := hn 0 rfl
    dsimp only at hF
    split at hF
    · exact lv_i2l hx hb hd rfl (hF H locs ls hC hL)
    · exact hF.elim
  | i2b =>
    obtain ⟨rfl, hd⟩ := hn 0 rfl
    dsimp only at hF
    split at hF
    · exact lv_i2b hx hb hd rfl (hF H locs ls hC hL)
    · exact hF.elim
  | i2s =>
    obtain ⟨rfl, hd⟩ := hn 0 rfl
    dsimp only at hF
    split at hF
    · exact lv_i2s hx hb hd rfl (hF H locs ls hC hL)
    · exact hF.elim
  | dup =>
    obtain ⟨rfl, hd⟩ := hn 0 rfl
    dsimp only at hF
    split at hF
    · exact lv_dup hx hb hd rfl (hF H locs ls hC hL)
    · exact lv_dup hx hb hd rfl (hF H locs ls hC hL)
    · exact hF.elim
  | pop =>
    obtain ⟨rfl, hd⟩ := hn 0 rfl
    dsimp only at hF
    split at hF
    · exact lv_pop hx hb hd rfl (hF H locs ls hC hL)
    · exact lv_pop hx hb hd rfl (hF H locs ls hC hL)
    · exact hF.elim
  | dup2 =>
    obtain ⟨rfl, hd⟩ := hn 0 rfl
    dsimp only at hF
    split at hF
    · exact lv_dup2_11 hx hb hd rfl rfl (hF H locs ls hC hL)
    · exact hF.elim
  | goto off =>
    obtain ⟨rfl, hd⟩ := hn 2 rfl
    dsimp only at hF
    exact lv_goto hx hb hd (of_decide_eq_true hI) (hF H locs ls hC hL)
  | ifCond cd off =>
    obtain ⟨rfl, hd⟩ := hn 2 rfl
    dsimp only at hF
    have ht : (pc : Int) + off = (t1 : Int) := of_decide_eq_true hI
    split at hF
    · cases cd with
      | eq => exact lv_if_eq hx hb hd ht (fun h => hF.1 h H locs ls hC hL) (fun h => hF.2 h H locs ls hC hL)
      | ne => exact lv_if_ne hx hb hd ht (fun h => hF.1 h H locs ls hC hL) (fun h => hF.2 h H locs ls hC hL)
      | lt => exact lv_if_lt hx hb hd ht (fun h => hF.1 h H locs ls hC hL) (fun h => hF.2 h H locs ls hC hL)
      | ge => exact lv_if_ge hx hb hd ht (fun h => hF.1 h H locs ls hC hL) (fun h => hF.2 h H locs ls hC hL)
      | gt => exact lv_if_gt hx hb hd ht (fun h => hF.1 h H locs ls hC hL) (fun h => hF.2 h H locs ls hC hL)
      | le => exact lv_if_le hx hb hd ht (fun h => hF.1 h H locs ls hC hL) (fun h => hF.2 h H locs ls hC hL)
    · exact hF.elim
  | if_icmp cd off =>
    obtain ⟨rfl, hd⟩ := hn 2 rfl
    dsimp only at hF
    have ht : (pc : Int) + off = (t1 : Int) := of_decide_eq_true hI
    split at hF
    · cases cd with
      | eq => exact lv_icmp_eq hx hb hd ht (fun h => hF.1 h H locs ls hC hL) (fun h => hF.2 h H locs ls hC hL)
      | ne => exact lv_icmp_ne hx hb hd ht (fun h => hF.1 h H locs ls hC hL) (fun h => hF.2 h H locs ls hC hL)
      | lt => exact lv_icmp_lt hx hb hd ht (fun h => hF.1 h H locs ls hC hL) (fun h => hF.2 h H locs ls hC hL)
      | ge => exact lv_icmp_ge hx hb hd ht (fun h => hF.1 h H locs ls hC hL) (fun h => hF.2 h H locs ls hC hL)
      | gt => exact lv_icmp_gt hx hb hd ht (fun h => hF.1 h H locs ls hC hL) (fun h => hF.2 h H locs ls hC hL)
      | le => exact lv_icmp_le hx hb hd ht (fun h => hF.1 h H locs ls hC hL) (fun h => hF.2 h H locs ls hC hL)
    · exact hF.elim
  | tableswitch dv lo hi offs =>
    simp only [pm_okI, Bool.and_eq_true, decide_eq_true_eq] at hI
    obtain ⟨⟨h1, h2⟩, h3⟩ := hI
    dsimp only at hF
    split at hF
    · rename_i x st'
      by_cases ho : x.toInt < lo ∨ hi < x.toInt
      · exact lv_tableOut hx hb hdx ho h1 (hF.1 ho H locs ls hC hL)
      · obtain ⟨off, t, g1, g2, g3⟩ := pm_sw.spec hF.2 h3 (by omega) (by omega)
        exact lv_tableIn hx hb hdx (fun h => ho (Or.inl h)) (fun h => ho (Or.inr h)) (by rw [← Array.getElem?_toList]; exact g1) g2 (g3 H locs ls hC hL)
    · exact hF.elim
  | lookupswitch dv ps =>
    dsimp only at hF
    split at hF
    · obtain ⟨t, g1, g2⟩ := hF
      exact lv_lookup hx hb hdx (by simpa [pm_okI] using hI) rfl g1 (g2 H locs ls hC hL)
    · exact hF.elim
  | getfield k =>
    obtain ⟨rfl, hd⟩ := hn 2 rfl
    dsimp only at hF
    have hq := of_decide_eq_true hI
    split at hF
    · rename_i r st'
      obtain ⟨n, fs, hs, hh⟩ := pm_gf.spec hF
      have hr := pm_sh_obj hs
      obtain ⟨h6, hkz⟩ := pm_fl_lt _ hq
      obtain ⟨nz, hnz, hcl, hin, -, -⟩ := pm_cl_at h6
      have hw : pm_w G D r = (pm_ad G r, .inr (t2, pm_fs (pm_ad G) (D r) 0 fs)) := by unfold pm_w; rw [hN, hs]; rfl
      have hlink : (Cond.fieldLink (pm_cn (pm_ow q)) k (pm_T t2 t1).1 (pm_T t2 t1).2.1 (pm_T t2 t1).2.2.1).before args s = true := hts _ (pm_tab (pm_fl_in _ (List.mem_map_of_mem hq)) rfl)
      rcases hh with ⟨h1, h2⟩ | ⟨q9, h1, h2⟩
      · exact va_get (v := .int (D r t1)) hx hb hts (pm_u_in hin) hown hK (hC.one (by omega)) 0 (congrArg some hw) hcl t1 (by rw [hnz]; exact hkz) hlink (fun _ h => h) (by rw [pm_fs_int _ _ _ _ _ h1, Nat.zero_add]) hd (h2 H locs ls hC hL)
      · exact va_get (v := .ref (pm_ad G q9)) hx hb hts (pm_u_in hin) hown hK (hC.one (by omega)) 0 (congrArg some hw) hcl t1 (by rw [hnz]; exact hkz) hlink (fun _ h => h) (pm_fs_ref _ _ _ _ _ _ h1) hd (h2 H locs ls hC hL)
    · exact hF.elim
  | putfield k =>
    obtain ⟨rfl, hd⟩ := hn 2 rfl
    dsimp only at hF
    simp only [pm_okI, Bool.and_eq_true, decide_eq_true_eq, Bool.not_eq_true'] at hI
    obtain ⟨hq, hfin⟩ := hI
    split at hF
    · rename_i x r st'
      obtain ⟨n, fs, hs, h1, hbz, h2⟩ := pm_pf.spec hF
      have hr := pm_sh_obj hs
      obtain ⟨h6, hkz⟩ := pm_fl_lt _ hq
      obtain ⟨nz, hnz, hcl, hin, ⟨ty, hty, hty2⟩, hnm⟩ := pm_cl_at h6
      have hw : pm_w G D r = (pm_ad G r, .inr (t2, pm_fs (pm_ad G) (D r) 0 fs)) := by unfold pm_w; rw [hN, hs]; rfl
      have hlink : (Cond.fieldLink (pm_cn (pm_ow q)) k (pm_T t2 t1).1 (pm_T t2 t1).2.1 (pm_T t2 t1).2.2.1).before args s = true := hts _ (pm_tab (pm_fl_in _ (List.mem_map_of_mem hq)) rfl)
      have hkn : t1 < nz := by rw [hnz]; exact hkz
      have hnf : narrow (ty t1) (.int x) = .int x ∧ fits (ty t1) (.int x) = true := by
        rw [hty2 t1 hkn hfin]
        split
        · rename_i hz
          exact pm_nar_bz x (hbz hz)
        · exact ⟨rfl, rfl⟩
      refine va_put (v := .int x) (ty := ty t1) hx hb hts (pm_u_in hin) ty hty hnm hown hK hC.1 (pm_D0 hG D) hC.2.2 r ((pm_ws_at G D hr).trans (congrArg some hw)) hcl t1 hkn hlink (fun _ h => h) hfin (hty t1 hkn) hnf.1 hnf.2 (by rw [pm_fs_len]; exact pm_nth_lt _ _ _ h1) hd (fun H1 locs1 hP1 _ hS1 => ?_)
      refine h2 H1 locs1 ls (hC.put hG hV hr ?_ (fun k hk => pm_mu_ne D t1 x hk) hP1 hS1) hL
      unfold pm_w
      rw [hN, hs, pm_mu_row, pm_fs_set _ _ _ _ _ _ h1, Nat.zero_add]
      rfl
    · exact hF.elim
  | arraylength =>
    obtain ⟨rfl, hd⟩ := hn 0 rfl
    dsimp only at hF
    split at hF
    · rename_i r st'
      split at hF
      · rename_i n fs hs
        have hw : pm_w G D r = (pm_ad G r, .inl (pm_cI G, n, .inl (D r))) := by unfold pm_w; rw [hN, hs]; rfl
        rcases Nat.lt_or_ge r 80 with h8 | h8
        · exact va_alen hx hb hK (hC.one h8) 0 0 (congrArg some hw) rfl rfl hd (hF H locs ls hC hL)
        · have hT := hC.2.1 r h8 (pm_sh_arr hs (by omega))
          rw [hN, hs] at hT
          exact va_tlen hx hb hT hC.2.2 rfl hd (hF H locs ls hC hL)
      · exact hF.elim
    · exact hF.elim
  | iaload =>
    obtain ⟨rfl, hd⟩ := hn 0 rfl
    dsimp only at hF
    split at hF
    · rename_i j r st'
      split at hF
      · rename_i n fs hs
        have hw : pm_w G D r = (pm_ad G r, .inl (pm_cI G, n, .inl (D r))) := by unfold pm_w; rw [hN, hs]; rfl
        rcases Nat.lt_or_ge r 80 with h8 | h8
        · exact va_iald hx hb hK (hC.one h8) 0 0 (congrArg some hw) rfl hF.1 hd (hF.2 H locs ls hC hL)
        · have hT := hC.2.1 r h8 (pm_sh_arr hs (by omega))
          rw [hN, hs] at hT
          exact va_ti hx hb hT hC.2.2 hF.1 rfl hd (hF.2 H locs ls hC hL)
      · exact hF.elim
    · exact hF.elim
  | baload =>
    obtain ⟨rfl, hd⟩ := hn 0 rfl
    dsimp only at hF
    split at hF
    · rename_i j r st'
      split at hF
      · rename_i n fs hs
        have hw : pm_w G D r = (pm_ad G r, .inl (pm_cB G, n, .inl (D r))) := by unfold pm_w; rw [hN, hs]; rfl
        exact va_bald hx hb hK (hC.one (pm_sh_by (t := 0) hs (by omega))) 0 1 (congrArg some hw) rfl hF.1 hd (hF.2 H locs ls hC hL)
      · rename_i n fs hs
        have hw : pm_w G D r = (pm_ad G r, .inl (pm_cZ G, n, .inl (D r))) := by unfold pm_w; rw [hN, hs]; rfl
        exact va_zald hx hb hK (hC.one (pm_sh_by (t := 1) hs (by omega))) 0 2 (congrArg some hw) rfl hF.1 hd (hF.2 H locs ls hC hL)
      · exact hF.elim
    · exact hF.elim
  | aaload =>
    obtain ⟨rfl, hd⟩ := hn 0 rfl
    dsimp only at hF
    split at hF
    · rename_i j r st'
      split at hF
      · rename_i n q9 fs hs
        have hr := pm_sh_grd hs
        have hw : pm_w G D r = (pm_ad G r, .inl (pm_cG G, n, .inr (.inr (.inr (.inr (fun i => if i < n then some (pm_ad G (q9 + i)) else none)))))) := by unfold pm_w; rw [hN, hs]; rfl
        have hlt : j.toNatClampNeg < n := Nat.not_le.mp fun q => hF.1 (Or.inr q)
        refine pm_aald hx hb hK (hC.one (r := r) (by omega)) 0 3 (congrArg some hw) rfl hF.1 hd ?_
        rw [if_pos hlt]
        exact hF.2 H locs ls hC hL
      · exact hF.elim
    · exact hF.elim
  | iastore =>
    obtain ⟨rfl, hd⟩ := hn 0 rfl
    dsimp only at hF
    split at hF
    · rename_i x j r st'
      split at hF
      · rename_i n fs hs
        have hr := hF.1
        have hw : pm_w G D r = (pm_ad G r, .inl (pm_cI G, n, .inl (D r))) := by unfold pm_w; rw [hN, hs]; rfl
        refine va_iast hx hb hK hC.1 (pm_D0 hG D) hC.2.2 r 0 ((pm_ws_at G D hr).trans (congrArg some hw)) rfl hF.2.1 hd (fun H1 locs1 hP1 _ hS1 => ?_)
        refine hF.2.2 H1 locs1 ls (hC.put hG hV hr ?_ (fun k hk => pm_mu_ne D _ x hk) hP1 hS1) hL
        unfold pm_w
        rw [hN, hs, pm_mu_row]
        rfl
      · exact hF.elim
    · exact hF.elim
  | bastore =>
    obtain ⟨rfl, hd⟩ := hn 0 rfl
    dsimp only at hF
    split at hF
    · rename_i x j r st'
      split at hF
      · rename_i n fs hs
        have hr := hF.1
        have hw : pm_w G D r = (pm_ad G r, .inl (pm_cB G, n, .inl (D r))) := by unfold pm_w; rw [hN, hs]; rfl
        refine va_bast hx hb hK hC.1 (pm_D0 hG D) hC.2.2 r 1 ((pm_ws_at G D hr).trans (congrArg some hw)) rfl hF.2.1 hd (fun H1 locs1 hP1 _ hS1 => ?_)
        refine hF.2.2 H1 locs1 ls (hC.put hG hV hr ?_ (fun k hk => pm_mu_ne D _ _ hk) hP1 hS1) hL
        unfold pm_w
        rw [hN, hs, pm_mu_row]
        rfl
      · rename_i n fs hs
        have hr := hF.1
        have hw : pm_w G D r = (pm_ad G r, .inl (pm_cZ G, n, .inl (D r))) := by unfold pm_w; rw [hN, hs]; rfl
        refine va_zast hx hb hK hC.1 (pm_D0 hG D) hC.2.2 r 2 ((pm_ws_at G D hr).trans (congrArg some hw)) rfl hF.2.1 hd (fun H1 locs1 hP1 _ hS1 => ?_)
        refine hF.2.2 H1 locs1 ls (hC.put hG hV hr ?_ (fun k hk => pm_mu_ne D _ _ hk) hP1 hS1) hL
        unfold pm_w
        rw [hN, hs, pm_mu_row]
        rfl
      · exact hF.elim
    · exact hF.elim
  | invokevirtual k =>
    obtain ⟨rfl, hd⟩ := hn 2 rfl
    dsimp only at hF
    simp only [pm_okI, Bool.and_eq_true, Bool.or_eq_true, decide_eq_true_eq] at hI
    obtain ⟨hlk2, h2⟩ := hI
    split at hF
    · rename_i n
      simp only [Bool.and_eq_true, decide_eq_true_eq] at h2
      obtain ⟨⟨h3, h4⟩, h5⟩ := h2
      obtain ⟨as, rest, rfl, hlen, hF⟩ := pm_arg.spec hF
      obtain ⟨r, as', rfl, hrt, hF⟩ := pm_recv.spec hF
      obtain ⟨hcat, hF⟩ := pm_low.spec hF
      exact pm_runV hG hN hV hx hb hml hown hts (hms t1) hR hcs hC hL.2.1 hlk2 h3 (Nat.le_of_ble_eq_true h5) hlen hrt (by rw [pm_cats_eq]; exact hcat) hd (hcall _ _ _ _ hF) (fun r9 D9 H9 locs9 hp9 hC9 => by
        have := hp9 H9 locs9 ls hC9 hL
        rw [List.map_append] at this
        cases r9 with
        | none => exact this
        | some v9 => exact this)
    · exact hF.elim
  | invokestatic k =>
    obtain ⟨rfl, hd⟩ := hn 2 rfl
    dsimp only at hF
    split at hF
    · rename_i n
      simp only [pm_okI, Bool.and_eq_true, Bool.or_eq_true, decide_eq_true_eq] at hI
      obtain ⟨hlk2, h2⟩ := hI
      obtain ⟨as, rest, rfl, hlen, hF⟩ := pm_arg.spec hF
      obtain ⟨hcat, hF⟩ := pm_low.spec hF
      exact pm_runS hG hN hV hx hb hml hown hts (hms t1) hR hcs hC hL.2.1 hlk2 h2 hlen (by rw [pm_cats_eq]; exact hcat) hd (hcall _ _ _ _ hF) (fun r9 D9 H9 locs9 hp9 hC9 => by
        have := hp9 H9 locs9 ls hC9 hL
        rw [List.map_append] at this
        cases r9 with
        | none => exact this
        | some v9 => exact this)
    · have hm : (pm_ow q, k, 0) ∈ pm_mx := of_decide_eq_true hI
      split at hF
      · exact va_mmax hx hb (by rw [hml]; exact hL.2.1.symm) hown (hts _ (pm_tab (pm_mx_in _ (List.mem_map_of_mem hm)) rfl)) (hts _ (pm_tab (pm_mxc_in _ (List.mem_of_getElem? (i := 1) rfl)) rfl)) (hts _ (pm_tab (pm_mxc_in _ (List.mem_of_getElem? (i := 0) rfl)) rfl)) (hts _ (pm_tab (pm_mxc_in _ (List.mem_of_getElem? (i := 4) rfl)) rfl)) (by omega) (by have h8 := pm_low.spec hF; rw [pm_cats_eq]; omega) hcs.1 hcs.2 hd ((pm_low.spec hF).2 H locs ls hC hL)
      · exact hF.elim
    · have hm : (pm_ow q, k, 1) ∈ pm_mx := of_decide_eq_true hI
      split at hF
      · exact va_mmin hx hb (by rw [hml]; exact hL.2.1.symm) hown (hts _ (pm_tab (pm_mx_in _ (List.mem_map_of_mem hm)) rfl)) (hts _ (pm_tab (pm_mxc_in _ (List.mem_of_getElem? (i := 2) rfl)) rfl)) (hts _ (pm_tab (pm_mxc_in _ (List.mem_of_getElem? (i := 0) rfl)) rfl)) (hts _ (pm_tab (pm_mxc_in _ (List.mem_of_getElem? (i := 5) rfl)) rfl)) (by omega) (by have h8 := pm_low.spec hF; rw [pm_cats_eq]; omega) hcs.1 hcs.2 hd ((pm_low.spec hF).2 H locs ls hC hL)
      · exact hF.elim
    · have hm : (pm_ow q, k, 2) ∈ pm_mx := of_decide_eq_true hI
      split at hF
      · exact va_mabs hx hb (by rw [hml]; exact hL.2.1.symm) hown (hts _ (pm_tab (pm_mx_in _ (List.mem_map_of_mem hm)) rfl)) (hts _ (pm_tab (pm_mxc_in _ (List.mem_of_getElem? (i := 3) rfl)) rfl)) (hts _ (pm_tab (pm_mxc_in _ (List.mem_of_getElem? (i := 0) rfl)) rfl)) (hts _ (pm_tab (pm_mxc_in _ (List.mem_of_getElem? (i := 6) rfl)) rfl)) (by omega) (by have h8 := pm_low.spec hF; rw [pm_cats_eq]; omega) hcs.1 hcs.2 hd ((pm_low.spec hF).2 H locs ls hC hL)
      · exact hF.elim
    · exact hF.elim
  | ireturn =>
    obtain ⟨rfl, hd⟩ := hn 0 rfl
    dsimp only at hF
    split at hF
    · rename_i v
      obtain ⟨h1, h2⟩ := pm_ret.spec hF
      exact hret .ireturn pc ls D H locs _ hd h1 h2 hC
    · exact hF.elim
  | lreturn =>
    obtain ⟨rfl, hd⟩ := hn 0 rfl
    dsimp only at hF
    split at hF
    · rename_i v hrt
      exact hret .lreturn pc ls D H locs _ hd (Or.inr (Or.inl ⟨rfl, v, rfl, hrt⟩)) hF hC
    · exact hF.elim
  | areturn =>
    obtain ⟨rfl, hd⟩ := hn 0 rfl
    dsimp only at hF
    split at hF
    · rename_i v n9 hrt
      exact hret .areturn pc ls D H locs _ hd (Or.inr (Or.inr (Or.inl ⟨rfl, v, rfl, Or.inl ⟨_, hrt⟩⟩))) hF hC
    · rename_i v n9 hrt
      exact hret .areturn pc ls D H locs _ hd (Or.inr (Or.inr (Or.inl ⟨rfl, v, rfl, Or.inr ⟨_, hrt⟩⟩))) hF hC
    · exact hF.elim
  | return_ =>
    obtain ⟨rfl, hd⟩ := hn 0 rfl
    dsimp only at hF
    split at hF
    · rename_i hrt
      exact hret .return_ pc ls D H locs none hd (Or.inr (Or.inr (Or.inr ⟨rfl, rfl, hrt⟩))) hF hC
    · exact hF.elim
  | _ => exact hF.elim
end PMW
