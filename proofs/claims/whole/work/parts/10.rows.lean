section PMR
variable {p : Program} {l : Launch} {e : Env} {R : Room} {s : State} {m : MethodId} {args : Array Value} {below : List Frame} {meth : Method} {c : Code} {H : Heap} {locs : List Loc} {cells slots : Nat} {Q : State → Prop}
variable {cc : ByteArray} {pc : Nat} {ls : Array Slot} {rest : List Value} {G : pm_G} {D : pm_Mem}
theorem pm_sl_use {s : State} {args : Array Value} (hts : ∀ w ∈ pm_tbl, w.before args s = true) (hnw : ∀ w ∈ pm_nws, va_Nw w s) {o k : Nat} {au : Value} (h : (o, k, au) ∈ pm_sl) : ∃ r, au = .ref r ∧ (r = 80 ∨ r = 81) ∧ ((Cond.fieldLink (pm_cn o) k RX4 (pm_sn r) "[I").before args s = true ∨ (Cond.fieldLinkNest (pm_cn o) k RX4 (pm_sn r) "[I" RX4).before args s = true) := by
  unfold pm_sl at h
  simp only [List.mem_cons, List.not_mem_nil, or_false, Prod.mk.injEq] at h
  rcases h with ⟨rfl, rfl, rfl⟩ | ⟨rfl, rfl, rfl⟩ | ⟨rfl, rfl, rfl⟩ | ⟨rfl, rfl, rfl⟩
  · exact ⟨80, rfl, Or.inl rfl, Or.inr (va_Nw.use rfl (hnw _ (by unfold pm_nws; exact List.mem_append_right _ (List.mem_of_getElem? (i := 0) rfl))))⟩
  · exact ⟨81, rfl, Or.inr rfl, Or.inr (va_Nw.use rfl (hnw _ (by unfold pm_nws; exact List.mem_append_right _ (List.mem_of_getElem? (i := 1) rfl))))⟩
  · exact ⟨80, rfl, Or.inl rfl, Or.inl (hts _ (pm_tab (pm_sl_in _ (List.mem_of_getElem? (i := 2) rfl)) rfl))⟩
  · exact ⟨81, rfl, Or.inr rfl, Or.inl (hts _ (pm_tab (pm_sl_in _ (List.mem_of_getElem? (i := 3) rfl)) rfl))⟩

theorem pm_gets (hV : pm_V G s) (hC : pm_Cx G s D H locs) (hx : p.tables.exec = Jvm.exec) (hb : c.code = cc) {o k : Nat} {au : Value} (hown : s.vm.findClass (pm_cn o) = some m.cls) (hts : ∀ w ∈ pm_tbl, w.before args s = true) (h : (o, k, au) ∈ pm_sl) (hd : decode cc pc = .ok (.getstatic k, 3))
    (kk : W p l e R s m args below meth c H locs cells slots Q (F0 m (pc + 3) ls (pm_e (pm_ad G) au :: rest))) : W p l e R s m args below meth c H locs cells slots Q (F0 m pc ls rest) := by
  obtain ⟨r, rfl, hr, hl⟩ := pm_sl_use hts hV.2.2.2.1 h
  have hZ : va_Z RX4 (pm_sn r) "[I" (.ref (pm_ad G r)) (pm_A G) s s.heap := by
    rcases hr with rfl | rfl
    · exact hV.2.1
    · exact hV.2.2.1
  rcases hl with hl | hl
  · exact va_gets hx hb hZ hC.2.2 hown hl (fun _ h => h) hd kk
  · exact va_getsN hx hb hZ hC.2.2 hown hl (fun _ h => h) hd kk
theorem pm_aald {DC : va_G} {cl : List vw_C} {tys : List (ClassId × FieldType)} {ws : va_W} {a : Nat} (hexec : p.tables.exec = Jvm.exec) (hb : c.code = cc) (hK : va_K DC cl tys s) (hP : va_P DC cl ws H) (q0 t0 : Nat) {cA : ClassId} {ty : FieldType} {n : Nat} {f : Nat → Option Nat} (ha : ws[q0]? = some (a, .inl (cA, n, .inr (.inr (.inr (.inr f)))))) (ht : tys[t0]? = some (cA, .array ty)) {i : Int32} (hin : vp_in i n) (hdg : decode cc pc = .ok (.aaload, 1))
    (kk : W p l e R s m args below meth c H locs cells slots Q (F0 m (pc + 1) ls (va_rf (f i.toNatClampNeg) :: rest))) : W p l e R s m args below meth c H locs cells slots Q (F0 m pc ls (.int i :: .ref a :: rest)) := by
  have hlt : i.toNatClampNeg < n := Nat.not_le.mp fun q => hin (Or.inr q)
  exact W.aald (v := va_rf (f i.toNatClampNeg)) (ty := .array ty) hexec hb (hP q0 _ ha) ((hK.2 t0 _ ht).1 n (fun j => va_rf (f j))) rfl (fun q => by cases q) (by show ¬ (i < 0 ∨ (arrV _ _ _).slots.size ≤ _); rw [arrV_size]; exact hin) (by show (arrV _ _ _).slots[_]? = _; rw [arrV_read _ _ hlt]) rfl rfl hdg kk
theorem pm_sig_at {j : Nat} {z : Bool × Nat × Nat} (h : pm_sig[j]? = some z) : (pm_st (pm_mj j), pm_ow (pm_mj j), pm_na (pm_mj j)) = z := by
  unfold pm_sig at h
  rw [List.getElem?_map] at h
  unfold pm_mj
  rw [List.getD_eq_getElem?_getD]
  cases hj : pm_ms[j]? with
  | none => rw [hj] at h; cases h
  | some q => rw [hj] at h; exact Option.some.inj h
set_option maxRecDepth 100000 in
theorem pm_ys_map : pm_ys = pm_ms.map pm_y := rfl
theorem pm_yj_eq {j : Nat} {z : Bool × Nat × Nat} (h : pm_sig[j]? = some z) : pm_yj j = pm_y (pm_mj j) := by
  unfold pm_sig at h
  rw [List.getElem?_map] at h
  unfold pm_yj pm_mj
  rw [List.getD_eq_getElem?_getD, List.getD_eq_getElem?_getD, pm_ys_map, List.getElem?_map]
  cases hj : pm_ms[j]? with
  | none => rw [hj] at h; cases h
  | some q => rfl
end PMR
