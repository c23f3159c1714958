/-! ===== every row of the small machine is a row of the kit ===== -/
def pm_gw : Cond → Bool
  | .initialized _ => true
  | .fieldLink .. => true
  | .methodLink .. => true
  | .code .. => true
  | .instanceMethod _ => true
  | .selects .. => true
  | .static _ => true
  | .constant .. => true
  | .constantLong .. => true
  | .laysFinal .. => true
  | .lays .. => true
  | _ => false
theorem pm_gw_ok {w : Cond} (h : pm_gw w = true) : (w.onTables && w.keeps) = true := by
  cases w <;> first | rfl | (simp [pm_gw] at h; done) | (simp [Cond.onTables, Cond.keeps, Cond.steady]; done)
/-- the words that every contract of the small machine carries -/
def pm_tbl : List Cond := lw_tbl.filter pm_gw
theorem pm_tbl_in {w : Cond} (h : w ∈ lw_tbl) (h2 : pm_gw w = true) : w ∈ pm_tbl := List.mem_filter.mpr ⟨h, h2⟩
theorem pm_good {ws : List Cond} (h : ∀ w ∈ ws, w ∈ pm_tbl) : GoodIn pm_tbl ws := fun w hw => ⟨h w hw, Or.inl (pm_gw_ok (List.mem_filter.mp (h w hw)).2)⟩
theorem pm_tab {w : Cond} (h : w ∈ tables_1) (h2 : pm_gw w = true) : w ∈ pm_tbl := pm_tbl_in (List.mem_append_right _ h) h2
def pm_rm (d : Nat) : Room := { frames := d, cells := 0, slots := 0, locals := 36 * d }
def pm_Pc (G : pm_G) (as : List Value) (D : pm_Mem) : Array Value → State → Prop := fun v U => v = (as.map (pm_e (pm_ad G))).toArray ∧ pm_St G D U
def pm_Qc (G : pm_G) (post : pm_Post) : Array Value → State → Outcome → State → Prop := fun _ st oc t => (∃ (r : Option Value) (D : pm_Mem), oc = .returned (r.map (pm_e (pm_ad G))) ∧ post r D ∧ pm_St G D t) ∧ va_F (pm_A G) st t
def pm_wsm (q : pm_MI) : List Cond := Cond.code (pm_y q) (pm_cc q) (pm_mL q) (pm_rt q) :: pm_tbl
/-- method j's contract, in a room d calls deep -/
def pm_C (l : Launch) (G : pm_G) (d j : Nat) (as : List Value) (D : pm_Mem) (post : pm_Post) : Prop := Met l (pm_y (pm_mj j)) (pm_wsm (pm_mj j)) (pm_rm d) (pm_Pc G as D) (pm_Qc G post) 0 0 (pm_A G)
/-- what the tables say of a method -/
def pm_MOK (q : pm_MI) : Prop := plainName (pm_y q).cls = true ∧ Cond.code (pm_y q) (pm_cc q) (pm_mL q) (pm_rt q) ∈ lw_tbl ∧ ((pm_y q).cls ≠ "java/lang/invoke/MethodHandle" ∧ (pm_y q).cls ≠ "java/lang/invoke/VarHandle" ∧ (parseMethodDescriptor (pm_y q).desc).map (fun d => d.parameters.length) = some (if pm_st q = true then pm_na q else pm_na q - 1)) ∧
  Cond.initialized (pm_y q).cls ∈ lw_tbl ∧ (pm_st q = true → Cond.static (pm_y q) ∈ lw_tbl) ∧ (pm_st q = false → Cond.instanceMethod (pm_y q) ∈ lw_tbl ∧ Cond.selects (pm_y q).cls (pm_y q) (pm_y q) ∈ lw_tbl) ∧ pm_mL q ≤ 17 ∧ pm_cn (pm_ow q) = (pm_y q).cls ∧ pm_okT q
theorem pm_lk_mem : ∀ {tb : pm_Tb} {pc : Nat} {e : pm_Ent}, pm_lk tb pc = some e → (pc, e) ∈ tb
  | [], _, _, h => by simp [pm_lk] at h
  | (k, x) :: l, pc, e, h => by
    unfold pm_lk at h
    cases hb : Nat.beq k pc with
    | true =>
      rw [hb] at h
      simp only [cond_true, Option.some.injEq] at h
      have : k = pc := Nat.eq_of_beq_eq_true hb
      subst this; subst h
      exact List.mem_cons_self
    | false =>
      rw [hb] at h
      exact List.mem_cons_of_mem _ (pm_lk_mem h)
theorem pm_okE.spec {o : Nat} {cc : ByteArray} {pc nx t1 t2 : Nat} {i : Instr} {au : Value} (h : pm_okE o cc (pc, i, nx, au, t1, t2) = true) : (∀ n, pm_len i = n + 1 → nx = pc + (n + 1) ∧ decode cc pc = .ok (i, n + 1)) ∧ decode cc pc = .ok (i, nx - pc) ∧ pm_okI o (pc, i, nx, au, t1, t2) = true := by
  unfold pm_okE at h
  simp only [Bool.and_eq_true, decide_eq_true_eq] at h
  obtain ⟨⟨⟨h1, h2⟩, h3⟩, h4⟩ := h
  refine ⟨fun n hn => ?_, h1, h4⟩
  rw [hn] at h3
  have h5 : nx = pc + (n + 1) := Nat.eq_of_beq_eq_true h3
  subst h5
  rw [Nat.add_sub_cancel_left] at h1
  exact ⟨rfl, h1⟩
theorem pm_cats_eq : ∀ (ad : Nat → Nat) (st : List Value), ((st.map (pm_e ad)).map fun v => v.category).sum = pm_cats st
  | _, [] => rfl
  | ad, v :: l => by
    simp only [List.map_cons, List.sum_cons, pm_cats]
    rw [pm_cats_eq ad l, pm_e_cat]
theorem pm_low.spec {st : List Value} {P : Prop} (h : pm_low st P) : pm_cats st ≤ 8 ∧ P := by
  unfold pm_low at h
  split at h
  · rename_i hb
    exact ⟨Nat.le_of_ble_eq_true hb, h⟩
  · exact h.elim
theorem pm_arg.spec {n : Nat} {st : List Value} {K : List Value → List Value → Prop} (h : pm_arg n st K) : ∃ as rest, st = as.reverse ++ rest ∧ as.length = n ∧ K as rest := by
  unfold pm_arg at h
  split at h
  · exact ⟨[], _, rfl, rfl, h⟩
  · exact ⟨[_], _, rfl, rfl, h⟩
  · exact ⟨[_, _], _, rfl, rfl, h⟩
  · exact ⟨[_, _, _], _, rfl, rfl, h⟩
  · exact ⟨[_, _, _, _], _, rfl, rfl, h⟩
  · exact ⟨[_, _, _, _, _], _, rfl, rfl, h⟩
  · exact ⟨[_, _, _, _, _, _], _, rfl, rfl, h⟩
  · exact h.elim
theorem pm_recv.spec {N ci : Nat} {as : List Value} {P : Prop} (h : pm_recv N ci as P) : ∃ r as', as = .ref r :: as' ∧ (pm_sh N r).1 = 4 + ci ∧ P := by
  unfold pm_recv at h
  split at h
  · rename_i r as'
    split at h
    · rename_i hb
      exact ⟨r, as', rfl, Nat.eq_of_beq_eq_true hb, h⟩
    · exact h.elim
  · exact h.elim
theorem pm_gf.spec {N : Nat} {D : pm_Mem} {r ci k : Nat} {K : Value → Prop} (h : pm_gf N D r ci k K) : ∃ n fs, pm_sh N r = (ci + 4, n, fs) ∧ ((pm_nth fs k = some none ∧ K (.int (D r k))) ∨ ∃ q, pm_nth fs k = some (some q) ∧ K (.ref q)) := by
  unfold pm_gf at h
  rcases hs : pm_sh N r with ⟨t, n, fs⟩
  rw [hs] at h
  dsimp only at h
  split at h
  · rename_i hb hn
    have : t = ci + 4 := by rw [Nat.eq_of_beq_eq_true hb]; omega
    exact ⟨n, fs, by rw [this], Or.inl ⟨hn, h⟩⟩
  · rename_i q hb hn
    have : t = ci + 4 := by rw [Nat.eq_of_beq_eq_true hb]; omega
    exact ⟨n, fs, by rw [this], Or.inr ⟨q, hn, h⟩⟩
  · exact h.elim
theorem pm_pf.spec {N : Nat} {r ci k : Nat} {x : Int32} {P : Prop} (h : pm_pf N r ci k x P) : ∃ n fs, pm_sh N r = (ci + 4, n, fs) ∧ pm_nth fs k = some none ∧ (pm_bz ci k = true → x = 0 ∨ x = 1) ∧ P := by
  unfold pm_pf at h
  rcases hs : pm_sh N r with ⟨t, n, fs⟩
  rw [hs] at h
  dsimp only at h
  split at h
  · rename_i hb hn
    have : t = ci + 4 := by rw [Nat.eq_of_beq_eq_true hb]; omega
    refine ⟨n, fs, by rw [this], hn, ?_⟩
    split at h
    · exact ⟨fun _ => h.1, h.2⟩
    · rename_i hz
      exact ⟨fun hz' => absurd (hz.symm.trans hz') (by decide), h⟩
  · exact h.elim
def pm_cz : Nat → Nat := fun c => match c with | 0 => 16 | 1 => 4 | 2 => 3 | 3 => 8 | 4 => 10 | _ => 28
theorem pm_fl_lt : ∀ q ∈ pm_fl, q.2.2.1 < 6 ∧ q.2.2.2 < pm_cz q.2.2.1 := by decide +kernel
theorem pm_cl_at {ci : Nat} (h : ci < 6) : ∃ n, n = pm_cz ci ∧ vwCl[ci]? = some (pm_cn ci, pm_T ci, n) ∧ (∀ w ∈ u_ws (pm_cn ci) (pm_T ci) n, w ∈ lw_tbl) ∧ (∃ ty : Nat → FieldType, (∀ k, k < n → parseFieldDescriptor (pm_T ci k).2.2.1 = some (ty k)) ∧ ∀ k, k < n → pm_isf (ci, k) = false → ty k = if pm_bz ci k = true then .boolean else .int) ∧ ∀ a, a < n → ∀ b, b < n → a ≠ b → (pm_T ci a).2.1 ≠ (pm_T ci b).2.1 := by
  have h6 : ci = 0 ∨ ci = 1 ∨ ci = 2 ∨ ci = 3 ∨ ci = 4 ∨ ci = 5 := by omega
  rcases h6 with rfl | rfl | rfl | rfl | rfl | rfl
  · exact ⟨16, rfl, rfl, inX0, ⟨tyX0, tyX0_ok, by decide +kernel⟩, nmX0⟩
  · exact ⟨4, rfl, rfl, inX1, ⟨tyX1, tyX1_ok, by decide +kernel⟩, nmX1⟩
  · exact ⟨3, rfl, rfl, inX2, ⟨tyX2, tyX2_ok, by decide +kernel⟩, nmX2⟩
  · exact ⟨8, rfl, rfl, inX3, ⟨tyX3, tyX3_ok, by decide +kernel⟩, nmX3⟩
  · exact ⟨10, rfl, rfl, inX4, ⟨tyX4, tyX4_ok, by decide +kernel⟩, nmX4⟩
  · exact ⟨28, rfl, rfl, inX5, ⟨tyX5, tyX5_ok, by decide +kernel⟩, nmX5⟩
theorem pm_u_in {ci n : Nat} (h : ∀ w ∈ u_ws (pm_cn ci) (pm_T ci) n, w ∈ lw_tbl) : ∀ w ∈ u_ws (pm_cn ci) (pm_T ci) n, w ∈ pm_tbl := by
  intro w hw
  refine pm_tbl_in (h w hw) ?_
  obtain ⟨k, -, rfl⟩ := List.mem_map.mp hw
  unfold u_lay
  split <;> rfl
/-! ===== END ===== -/
