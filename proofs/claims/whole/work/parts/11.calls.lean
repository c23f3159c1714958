section PMC
variable {p : Program} {l : Launch} {e : Env} {R : Room} {s : State} {m : MethodId} {args : Array Value} {below : List Frame} {meth : Method} {c : Code} {H : Heap} {locs : List Loc} {cells slots : Nat} {Q : State → Prop}
variable {cc : ByteArray} {pc : Nat} {ls : Array Slot} {rest st0 : List Value} {a : Array Value} {G : pm_G} {D : pm_Mem}
theorem pm_callG {post : pm_Post} (hr : va_Run p l e R s m args below meth c H locs cells slots 0 0 (F0 m pc ls st0) rest (pm_Qc G post a) (pm_A G)) (hV : pm_V G s) (hC : pm_Cx G s D H locs)
    (kk : ∀ (r : Option Value) (D' : pm_Mem) (H1 : Heap) (locs1 : List Loc), post r D' → pm_Cx G s D' H1 locs1 → W p l e R s m args below meth c H1 locs1 cells slots Q (F0 m (pc + 3) ls ((r.map (pm_e (pm_ad G))).toList ++ rest))) : W p l e R s m args below meth c H locs cells slots Q (F0 m pc ls st0) := by
  intro T hT X
  obtain ⟨v, st₀, t, T', L, h0, X', hL, e1, e2, ⟨⟨r, D', hv, hp, hst⟩, hz, hk⟩, st⟩ := hr T hT X
  cases hv
  rw [h0] at hz hk
  have hS := hC.2.2
  obtain ⟨t2, a1, b1⟩ := kk r D' T'.heap (locs ++ L) hp ⟨by rw [e1]; exact hst.1, hst.2.1.back hV.2.2.2.2.2 (fun a h1 h2 => (hk a (Nat.lt_of_lt_of_le h1 hS.1) h2).trans (hS.2.1 a h1 h2)) (by rw [← e2]; exact X'.warmed.alike), Nat.le_trans hS.1 (by rw [e1]; exact hz), fun q h1 h2 => by rw [e1, hk q (Nat.lt_of_lt_of_le h1 hS.1) h2]; exact hS.2.1 q h1 h2, fun q hq => by
      rcases List.mem_append.mp hq with h | h
      · exact hS.2.2 q h
      · exact hL q h⟩ T' rfl X'
  exact ⟨t2, st t2 a1, b1⟩
theorem pm_ws_in {q : pm_MI} (h : pm_MOK q) : ∀ w ∈ pm_wsm q, w ∈ pm_tbl := by
  intro w hw
  rcases List.mem_cons.mp hw with rfl | hw
  · exact pm_tbl_in h.2.1 rfl
  · exact hw
theorem pm_runV {N d o k j ci n nL r : Nat} {as' : List Value} {post : pm_Post} (hG : pm_ok G) (hN : pm_N G = N) (hV : pm_V G s) (hx : p.tables.exec = Jvm.exec) (hb : c.code = cc) (hml : c.maxLocals = nL) (hown : s.vm.findClass (pm_cn o) = some m.cls) (hts : ∀ w ∈ pm_tbl, w.before args s = true) (hm : pm_MOK (pm_mj j)) (hR : d + 1 ≤ R.frames ∧ 36 * (d + 1) ≤ R.locals) (hcs : cells ≤ R.cells ∧ slots ≤ R.slots) (hC : pm_Cx G s D H locs) (hsz : ls.size = nL)
    (hlk : (o, k, j) ∈ pm_ml ∨ (o, k, j) ∈ pm_mn) (hsig : pm_sig[j]? = some (false, ci, n)) (h6 : ci < 6) (hlen : (Value.ref r :: as').length = n) (hrt : (pm_sh N r).1 = 4 + ci) (hcat : ((rest.map (pm_e (pm_ad G))).map fun v => v.category).sum ≤ 8) (hd : decode cc pc = .ok (.invokevirtual k, 3)) (hM : pm_C l G d j (.ref r :: as') D post)
    (kk : ∀ (r : Option Value) (D' : pm_Mem) (H1 : Heap) (locs1 : List Loc), post r D' → pm_Cx G s D' H1 locs1 → W p l e R s m args below meth c H1 locs1 cells slots Q (F0 m (pc + 3) ls ((r.map (pm_e (pm_ad G))).toList ++ rest.map (pm_e (pm_ad G))))) : W p l e R s m args below meth c H locs cells slots Q (F0 m pc ls (((Value.ref r :: as').reverse ++ rest).map (pm_e (pm_ad G)))) := by
  have hz := pm_sig_at hsig
  simp only [Prod.mk.injEq] at hz
  obtain ⟨z1, z2, z3⟩ := hz
  obtain ⟨m1, m2, m3, m4, m5, m6, m7, m8, m9⟩ := hm
  have m6 := m6 z1
  rcases hs : pm_sh N r with ⟨t, nn, fs⟩
  have ht : t = ci + 4 := by rw [hs] at hrt; simpa [Nat.add_comm] using hrt
  subst ht
  have hr := pm_sh_obj hs
  obtain ⟨nz, hnz, hcl, -, -, -⟩ := pm_cl_at h6
  have hw : pm_w G D r = (pm_ad G r, .inr (ci, pm_fs (pm_ad G) (D r) 0 fs)) := by unfold pm_w; rw [hN, hs]; rfl
  have hrecv := va_recv (q := (pm_cn ci, pm_T ci, nz)) hV.1 (hC.one (r := r) (by omega)) hcl (q0 := 0) (congrArg some hw)
  have hcn : pm_cn ci = (pm_y (pm_mj j)).cls := by rw [← m8, z2]
  have e0 : ((Value.ref r :: as').reverse ++ rest).map (pm_e (pm_ad G)) = (as'.map (pm_e (pm_ad G))).reverse ++ .ref (pm_ad G r) :: rest.map (pm_e (pm_ad G)) := by
    simp [List.map_append, List.map_reverse, pm_e]
  rw [e0]
  have hn0 : (as'.map (pm_e (pm_ad G))).length = pm_na (pm_mj j) - 1 := by
    rw [z3, ← hlen]
    simp
  have hpre : PreV s H (pm_y (pm_mj j)).cls (pm_ad G r) (pm_Pc G (.ref r :: as') D) (as'.map (pm_e (pm_ad G))) :=
    ⟨fun a U g mk q => ⟨q.1, q.2.blind hG g mk a⟩, by rw [← hcn]; exact hrecv, fun U hU hW => ⟨rfl, hC.st hG hV hU hW⟩⟩
  have hroom : (pm_rm d).frames + 1 ≤ R.frames ∧ 8 + (pm_mL (pm_mj j) + 11) + (pm_rm d).locals ≤ R.locals := ⟨hR.1, by show 8 + (pm_mL (pm_mj j) + 11) + 36 * d ≤ R.locals; omega⟩
  have hdsc : (pm_y (pm_mj j)).cls ≠ "java/lang/invoke/MethodHandle" ∧ (pm_y (pm_mj j)).cls ≠ "java/lang/invoke/VarHandle" ∧ (parseMethodDescriptor (pm_y (pm_mj j)).desc).map (fun d => d.parameters.length) = some (pm_na (pm_mj j) - 1) := by
    rw [z1] at m3
    simpa using m3
  have hyj : pm_yj j = pm_y (pm_mj j) := pm_yj_eq hsig
  have hin : Cond.instanceMethod (pm_y (pm_mj j)) ∈ pm_tbl := pm_tbl_in m6.1 rfl
  have hse : Cond.selects (pm_y (pm_mj j)).cls (pm_y (pm_mj j)) (pm_y (pm_mj j)) ∈ pm_tbl := pm_tbl_in m6.2 rfl
  have hini : Cond.initialized (pm_y (pm_mj j)).cls ∈ pm_tbl := pm_tbl_in m4 rfl
  rcases hlk with hlk | hlk
  · have hl : Cond.methodLink (pm_cn o) k (pm_y (pm_mj j)) ∈ pm_tbl := by
      rw [← hyj]
      exact pm_tab (pm_ml_in _ hlk) rfl
    exact pm_callG (va_runV (b := pm_ad G r) (As := as'.map (pm_e (pm_ad G))) (rest := rest.map (pm_e (pm_ad G))) ⟨hx, hb, hml, hown, hts⟩ hM ⟨callB_of (pm_na (pm_mj j) - 1) hts (pm_good (pm_ws_in ⟨m1, m2, m3, m4, m5, fun _ => m6, m7, m8, m9⟩)) rfl rfl rfl (hts _ hini) (hts _ hl) hdsc hroom, hts _ hin, hts _ hse⟩ hpre rfl hn0 hsz rfl (lv_room hcat) hd hcs) hV hC kk
  · have hl : va_Nw (.methodLinkNest (pm_cn o) k (pm_y (pm_mj j)) RX4) s := by
      rw [← hyj]
      exact hV.2.2.2.1 _ (List.mem_append_left _ (List.mem_map_of_mem (f := pm_mnw) hlk))
    exact pm_callG (va_runVN (b := pm_ad G r) (As := as'.map (pm_e (pm_ad G))) (rest := rest.map (pm_e (pm_ad G))) ⟨hx, hb, hml, hown, hts⟩ hM ⟨va_cnB (pm_na (pm_mj j) - 1) hts (pm_good (pm_ws_in ⟨m1, m2, m3, m4, m5, fun _ => m6, m7, m8, m9⟩)) rfl rfl rfl hl (hts _ hini) hdsc hroom, hts _ hin, hts _ hse⟩ hpre rfl hn0 hsz rfl (lv_room hcat) hd hcs) hV hC kk
theorem pm_runS {N d o k j n nL : Nat} {as : List Value} {post : pm_Post} (hG : pm_ok G) (hN : pm_N G = N) (hV : pm_V G s) (hx : p.tables.exec = Jvm.exec) (hb : c.code = cc) (hml : c.maxLocals = nL) (hown : s.vm.findClass (pm_cn o) = some m.cls) (hts : ∀ w ∈ pm_tbl, w.before args s = true) (hm : pm_MOK (pm_mj j)) (hR : d + 1 ≤ R.frames ∧ 36 * (d + 1) ≤ R.locals) (hcs : cells ≤ R.cells ∧ slots ≤ R.slots) (hC : pm_Cx G s D H locs) (hsz : ls.size = nL)
    (hlk : (o, k, j) ∈ pm_ml ∨ (o, k, j) ∈ pm_mn) (hsig : (pm_sig[j]?).map (fun z => (z.1, z.2.2)) = some (true, n)) (hlen : as.length = n) (hcat : ((rest.map (pm_e (pm_ad G))).map fun v => v.category).sum ≤ 8) (hd : decode cc pc = .ok (.invokestatic k, 3)) (hM : pm_C l G d j as D post)
    (kk : ∀ (r : Option Value) (D' : pm_Mem) (H1 : Heap) (locs1 : List Loc), post r D' → pm_Cx G s D' H1 locs1 → W p l e R s m args below meth c H1 locs1 cells slots Q (F0 m (pc + 3) ls ((r.map (pm_e (pm_ad G))).toList ++ rest.map (pm_e (pm_ad G))))) : W p l e R s m args below meth c H locs cells slots Q (F0 m pc ls ((as.reverse ++ rest).map (pm_e (pm_ad G)))) := by
  obtain ⟨z, hsg, hz0⟩ := Option.map_eq_some_iff.mp hsig
  have hz := pm_sig_at hsg
  obtain ⟨za, zb, zc⟩ := z
  simp only [Prod.mk.injEq] at hz hz0
  obtain ⟨z1, z2, z3⟩ := hz
  obtain ⟨y1, y2⟩ := hz0
  subst y1; subst y2
  obtain ⟨m1, m2, m3, m4, m5, m6, m7, m8, m9⟩ := hm
  have m5 := m5 z1
  have e0 : (as.reverse ++ rest).map (pm_e (pm_ad G)) = (as.map (pm_e (pm_ad G))).reverse ++ rest.map (pm_e (pm_ad G)) := by
    simp [List.map_append, List.map_reverse]
  rw [e0]
  have hn0 : (as.map (pm_e (pm_ad G))).length = pm_na (pm_mj j) := by
    rw [z3, ← hlen]
    simp
  have hpre : PreS s H (pm_Pc G as D) (as.map (pm_e (pm_ad G))) := ⟨fun a U g mk q => ⟨q.1, q.2.blind hG g mk a⟩, fun U hU hW => ⟨rfl, hC.st hG hV hU hW⟩⟩
  have hroom : (pm_rm d).frames + 1 ≤ R.frames ∧ 8 + (pm_mL (pm_mj j) + 11) + (pm_rm d).locals ≤ R.locals := ⟨hR.1, by show 8 + (pm_mL (pm_mj j) + 11) + 36 * d ≤ R.locals; omega⟩
  have hdsc : (pm_y (pm_mj j)).cls ≠ "java/lang/invoke/MethodHandle" ∧ (pm_y (pm_mj j)).cls ≠ "java/lang/invoke/VarHandle" ∧ (parseMethodDescriptor (pm_y (pm_mj j)).desc).map (fun d => d.parameters.length) = some (pm_na (pm_mj j)) := by
    rw [z1] at m3
    simpa using m3
  have hyj : pm_yj j = pm_y (pm_mj j) := pm_yj_eq hsg
  have hst : Cond.static (pm_y (pm_mj j)) ∈ pm_tbl := pm_tbl_in m5 rfl
  have hini : Cond.initialized (pm_y (pm_mj j)).cls ∈ pm_tbl := pm_tbl_in m4 rfl
  rcases hlk with hlk | hlk
  · have hl : Cond.methodLink (pm_cn o) k (pm_y (pm_mj j)) ∈ pm_tbl := by
      rw [← hyj]
      exact pm_tab (pm_ml_in _ hlk) rfl
    exact pm_callG (va_runS (As := as.map (pm_e (pm_ad G))) (rest := rest.map (pm_e (pm_ad G))) ⟨hx, hb, hml, hown, hts⟩ hM ⟨callB_of (pm_na (pm_mj j)) hts (pm_good (pm_ws_in ⟨m1, m2, m3, m4, fun _ => m5, m6, m7, m8, m9⟩)) rfl rfl rfl (hts _ hini) (hts _ hl) hdsc hroom, hts _ hst⟩ hpre rfl hn0 hsz rfl (lv_room hcat) hd hcs) hV hC kk
  · have hl : va_Nw (.methodLinkNest (pm_cn o) k (pm_y (pm_mj j)) RX4) s := by
      rw [← hyj]
      exact hV.2.2.2.1 _ (List.mem_append_left _ (List.mem_map_of_mem (f := pm_mnw) hlk))
    exact pm_callG (va_runSN (As := as.map (pm_e (pm_ad G))) (rest := rest.map (pm_e (pm_ad G))) ⟨hx, hb, hml, hown, hts⟩ hM ⟨va_cnB (pm_na (pm_mj j)) hts (pm_good (pm_ws_in ⟨m1, m2, m3, m4, fun _ => m5, m6, m7, m8, m9⟩)) rfl rfl rfl hl (hts _ hini) hdsc hroom, hts _ hst, trivial⟩ hpre rfl hn0 hsz rfl (lv_room hcat) hd hcs) hV hC kk
end PMC
