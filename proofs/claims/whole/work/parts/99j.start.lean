/-! ===== the walk of the law's body ===== -/
theorem ic_nw_tab : ∀ x ∈ ic_nws, x.onTables = true := by
  intro x hx
  simp only [ic_nws, List.mem_cons, List.not_mem_nil, or_false] at hx
  rcases hx with rfl | rfl | rfl | rfl <;> rfl
theorem ic_nw_warm {s U : State} (hW : s.WarmedH U.vm) (h : ∀ x ∈ ic_nws, va_Nw x s) : ∀ x ∈ ic_nws, va_Nw x U := by
  intro x hx
  have h1 := h x hx
  simp only [ic_nws, List.mem_cons, List.not_mem_nil, or_false] at hx
  rcases hx with rfl | rfl | rfl | rfl
  all_goals exact va_Nw.warmM hW h1
theorem ic_nw_in : ∀ x ∈ ic_nws, x ∈ lw_tbl := by
  intro x hx
  simp only [ic_nws, List.mem_cons, List.not_mem_nil, or_false] at hx
  rcases hx with rfl | rfl | rfl | rfl
  · exact lt_of 23 (by decide +kernel)
  · exact lt_of 94 (by decide +kernel)
  · exact lt_of 130 (by decide +kernel)
  · exact lt_of 150 (by decide +kernel)
theorem pm_nw_in : ∀ x ∈ pm_nws, x ∈ lw_tbl := by
  intro x hx
  rcases List.mem_append.mp hx with hx | hx
  · exact List.mem_append_right _ (pm_mn_in x hx)
  · simp only [List.mem_cons, List.not_mem_nil, or_false] at hx
    rcases hx with rfl | rfl
    · exact lt_of 341 (by decide +kernel)
    · exact lt_of 343 (by decide +kernel)
theorem iw_c4 : Cond.code yX4_init cX4_init 1 none ∈ ic_tbl := iw_of (List.mem_of_getElem? (i := 17) (by decide +kernel)) rfl
theorem iw_c5 : Cond.code yX5_init cX5_init 1 none ∈ ic_tbl := iw_of (List.mem_of_getElem? (i := 702) (by decide +kernel)) rfl
set_option maxRecDepth 100000 in
set_option maxHeartbeats 4000000 in
theorem whole_start {p : Program} {e : Env} {s : State} {m : MethodId} {below : List Frame} {meth : Method} {c : Code} (l : Launch) {b L : Nat} {xs : Nat → Int32} (hL : L ≤ 2560) (C0 : lw_At p s m meth c b L xs) : W p l e room_1 s m #[Value.ref b] below meth c s.heap [] 0 0 (lw_Z below #[Value.ref b] s) (entryFrame m ([Value.ref b] : List Value).toArray 4) := by
  obtain ⟨hx, hb, hr, hml, hown, hts, hX, hbl, hlocks, hgv⟩ := id C0
  have hsF : ∀ c ∈ iz_fl, c.before #[Value.ref b] s = true := flat_of_before _ hgv
  have htsI : ∀ w ∈ ic_tbl, w.before #[Value.ref b] s = true := fun w h => hts w (List.mem_filter.mp h).1
  have htsP : ∀ w ∈ pm_tbl, w.before #[Value.ref b] s = true := fun w h => hts w (List.mem_filter.mp h).1
  have hb : c.code = cL_law := hb
  have hown : s.vm.findClass RL = some m.cls := hown
  generalize hAe : (fun q : Nat => s.heap.size ≤ q) = A
  have hA : ∀ q : Nat, s.heap.size ≤ q → A q := fun q h => by rw [← hAe]; exact h
  have hAi : ∀ q : Nat, A q → s.heap.size ≤ q := fun q h => by rw [← hAe] at h; exact h
  have hA2 : ∀ q : Nat, q < s.heap.size → ¬ A q := fun q h1 h2 => absurd (hAi q h2) (Nat.not_le.mpr h1)
  obtain ⟨c0, i0, n0⟩ := u_known (C := RX0) (T := TX0) (N := 16) (n := 16) hts inX0 (hts _ (lt_of 22 (by decide +kernel)))
  obtain ⟨c1, i1, n1⟩ := u_known (C := RX1) (T := TX1) (N := 4) (n := 4) hts inX1 (hts _ (lt_of 129 (by decide +kernel)))
  obtain ⟨c2, i2, n2⟩ := u_known (C := RX2) (T := TX2) (N := 3) (n := 3) hts inX2 (hts _ (lt_of 149 (by decide +kernel)))
  obtain ⟨c3, i3, n3⟩ := u_known (C := RX3) (T := TX3) (N := 8) (n := 8) hts inX3 (hts _ (lt_of 93 (by decide +kernel)))
  obtain ⟨c4, i4, n4⟩ := u_known (C := RX4) (T := TX4) (N := 10) (n := 10) hts inX4 (hts _ (lt_of 14 (by decide +kernel)))
  obtain ⟨c5, i5, n5⟩ := u_known (C := RX5) (T := TX5) (N := 28) (n := 28) hts inX5 (hts _ (lt_of 699 (by decide +kernel)))
  obtain ⟨dC, dI, hKc⟩ : ∃ (dC : Nat → ClassId) (dI : Nat → Nat → Nat), ∀ (k : Nat) (q : vw_C), vwCl[k]? = some q → u_Kn s q.1 q.2.1 q.2.2 (dC k) (dI k) := by
    refine ⟨fun k => ([c0, c1, c2, c3, c4, c5] : List ClassId).getD k c0, fun k => ([i0, i1, i2, i3, i4, i5] : List (Nat → Nat)).getD k i0, ?_⟩
    intro k q hq
    match k, hq with
    | 0, hq => cases hq; exact n0
    | 1, hq => cases hq; exact n1
    | 2, hq => cases hq; exact n2
    | 3, hq => cases hq; exact n3
    | 4, hq => cases hq; exact n4
    | 5, hq => cases hq; exact n5
    | k + 6, hq => cases hq
  obtain ⟨cI, kI, xI, hI1, hI2, hI3⟩ := Cond.arrayClass_spec (hts (.arrayClass .int) (lt_of 91 (by decide +kernel)))
  obtain ⟨cB, kB, xB, hB1, hB2, hB3⟩ := Cond.arrayClass_spec (hts (.arrayClass .byte) (lt_of 127 (by decide +kernel)))
  obtain ⟨cZ, kZ, xZ, hZ1, hZ2, hZ3⟩ := Cond.arrayClass_spec (hts (.arrayClass .boolean) (lt_of 126 (by decide +kernel)))
  obtain ⟨cJ, cG, hO⟩ := mg_O.of (hts (.arrayOver (.array .int)) (lt_of 155 (by decide +kernel)))
  have eJ : cI = cJ := Option.some.inj (hI1.symm.trans hO.1)
  subst eJ
  have hK : va_K (dC, dI) vwCl [(cI, .int), (cB, .byte), (cZ, .boolean), (cG, .array .int)] s := by
    refine ⟨hKc, fun k q hq => ?_⟩
    match k, hq with
    | 0, hq => cases hq; exact ⟨fun n z => ⟨(fun k h => by cases h), kI, hI2, xI, hI3⟩, hI1⟩
    | 1, hq => cases hq; exact ⟨fun n z => ⟨(fun k h => by cases h), kB, hB2, xB, hB3⟩, hB1⟩
    | 2, hq => cases hq; exact ⟨fun n z => ⟨(fun k h => by cases h), kZ, hZ2, xZ, hZ3⟩, hZ1⟩
    | 3, hq =>
      cases hq
      obtain ⟨g1, g2, kG, g3, g4⟩ := hO
      exact ⟨fun n z => ⟨(fun k h => by cases h), kG, g3, cI, g4⟩, g2⟩
    | k + 4, hq => cases hq
  obtain ⟨adK, adV, fv, hSX, hfv⟩ := iz_sx (A := A) hts hsF hA2
  obtain ⟨k1, e1, hT1⟩ := va_Tof (tm := .static RX4 "LEAST" "[I") (ty := .int) (N := 5) (f := fun j => .int (iz_f80 j)) (A := A) (by decide) (hsF _ iz_s9) (va_eqt (hsF _ iz_s10)) (fun j hj => va_eqt (hsF _ (iz_s11 j hj))) hA2
  obtain ⟨k2, e2, hT2⟩ := va_Tof (tm := .static RX4 "MOST" "[I") (ty := .int) (N := 5) (f := fun j => .int (iz_f81 j)) (A := A) (by decide) (hsF _ iz_s12) (va_eqt (hsF _ iz_s13)) (fun j hj => va_eqt (hsF _ (iz_s14 j hj))) hA2
  have hL1 : va_Z RX4 "LEAST" "[I" (.ref k1) A s s.heap := va_Zof (hts _ (lt_of 342 (by decide +kernel))) (hts _ (lt_of 1 (by decide +kernel))) e1 hA2
  have hL2 : va_Z RX4 "MOST" "[I" (.ref k2) A s s.heap := va_Zof (hts _ (lt_of 344 (by decide +kernel))) (hts _ (lt_of 1 (by decide +kernel))) e2 hA2
  have hT3 : va_T .int b L (fun j => .int (xs j)) A s s.heap := by
    obtain ⟨scr, h1, h2, h3, h4, h5⟩ := hX
    exact ⟨scr, h1, h2, h3, by omega, (by rw [h4]), h5, hA2 b hbl⟩
  have lt1 : k1 < s.heap.size := by
    obtain ⟨cell, q1, -⟩ := hT1
    exact (Array.getElem?_eq_some_iff.mp q1).1
  have lt2 : k2 < s.heap.size := by
    obtain ⟨cell, q1, -⟩ := hT2
    exact (Array.getElem?_eq_some_iff.mp q1).1
  have hnw : ∀ x ∈ ic_nws, va_Nw x s := fun x hx => va_Nw.of (ic_nw_tab x hx) (hts x (ic_nw_in x hx))
  have hnp : ∀ x ∈ pm_nws, va_Nw x s := fun x hx => va_Nw.of (pm_nw_tab x hx) (hts x (pm_nw_in x hx))
  have hS : va_S A s.heap s.heap [] := va_S.rf
  have hP : va_P (dC, dI) vwCl [] s.heap := fun k q h => by cases h
  have hD : va_D A [] := ⟨(fun i j p q h => by cases h), (fun k q h => by cases h)⟩
  have hl := lv_entry ([.ref b] : List Value) (n := 4) (Nat.le_of_ble_eq_true rfl)
  rw [lg_entry_eq]
  generalize (lg_sl ([.ref b] : List Value) ++ List.replicate (4 - (lg_sl ([.ref b] : List Value)).length) Slot.unset).toArray = ls at hl ⊢
  have hl : lv_has ls 4 [(0, .ref b)] := hl
  refine va_new (ci := 4) (fs := [.null, .null, .null, .null, .null, .null, .null, .null, .null, .int 0]) (C := RX4) (T := TX4) (N := 10) hx hb htsI (iw_u (ci := 4) inX4) tyX4 tyX4_ok hown (hts (.classLink RL 7 RX4) (lt_of 13 (by decide +kernel))) (hts (.instantiable RX4 10) (lt_of 14 (by decide +kernel))) (hts (.initialized RX4) (lt_of 1 (by decide +kernel))) hK hP hD hS hA rfl (fun j hj => by rcases (show j = 0 ∨ j = 1 ∨ j = 2 ∨ j = 3 ∨ j = 4 ∨ j = 5 ∨ j = 6 ∨ j = 7 ∨ j = 8 ∨ j = 9 by omega) with rfl | rfl | rfl | rfl | rfl | rfl | rfl | rfl | rfl | rfl <;> rfl) (Nat.le_of_ble_eq_true rfl) (Nat.le_of_ble_eq_true rfl) dL_law_0 (fun q H hP hD hS => ?_)
  have hP : va_P (dC, dI) vwCl [(q, .inr (4, [.null, .null, .null, .null, .null, .null, .null, .null, .null, .int 0]))] H := hP
  have hD : va_D A [(q, .inr (4, [.null, .null, .null, .null, .null, .null, .null, .null, .null, .int 0]))] := hD
  refine W.widen (k := 1) (n := 10) (Nat.le_of_ble_eq_true rfl) (Nat.le_of_ble_eq_true rfl) ?_
  refine lv_dup hx hb dL_law_3 rfl ?_
  have hFc := va_free (wc := [(q, .inr (4, [.null, .null, .null, .null, .null, .null, .null, .null, .null, .int 0]))]) hD hS hA [0] rfl
  refine va_callv (va_runI (As := []) (rest := [.ref q]) ⟨hx, hb, hml, hown, htsI⟩ (c_X4 l dC dI cI cB cZ cG q H.size) ⟨callB_of 0 htsI (iw_good iw_c4) rfl rfl rfl (hts (.initialized RX4) (lt_of 1 (by decide +kernel))) (hts (.methodLink RL 9 yX4_init) (lt_of 15 (by decide +kernel))) (by decide +kernel) ⟨Nat.le_of_ble_eq_true rfl, Nat.le_of_ble_eq_true rfl⟩, rfl, hts (.instanceMethod yX4_init) (lt_of 16 (by decide +kernel))⟩ ⟨fun a U g mk q => by
    obtain ⟨q0, q1, qP, qK, qD, qO, qN⟩ := q
    exact ⟨q0, q1, qP, va_K.moved (u := U) (U := U.calling g mk a) (Vm.Alike.refl U.vm) qK, qD, mg_O.moved (u := U) (U := U.calling g mk a) (Vm.Alike.refl U.vm) qO, fun x hx => va_Nw.same (u := U) (U := U.calling g mk a) (ic_nw_tab x hx) rfl (qN x hx)⟩, fun U hU hW => ⟨rfl, by rw [hU], by rw [hU]; exact hP, va_K.moved hW.alike hK, hD.weaken (fun _ _ _ _ => trivial), mg_O.moved hW.alike hO, ic_nw_warm hW hnw⟩⟩ rfl rfl hl.1 rfl (lv_room (Nat.le_of_ble_eq_true rfl)) dL_law_4 ⟨Nat.le_of_ble_eq_true rfl, Nat.le_of_ble_eq_true rfl⟩) hS (fun q _ h => hFc q h) hFc (fun u t H1 locs ht hvm hw hB hz1 hk1 hS => ?_)
  obtain ⟨a, hP1, hD1⟩ := hB
  rw [ht] at hP1
  obtain ⟨hP, hD⟩ := va_join (wr := []) (w1 := iz_W4 cI cB cZ cG q a) hP hD [0] [] rfl rfl (by decide) (by decide) hk1 hFc hP1 hD1
  generalize H1 = H at hP hS ⊢
  have hP : va_P (dC, dI) vwCl (iz_W4 cI cB cZ cG q a) H := hP
  have hD : va_D A (iz_W4 cI cB cZ cG q a) := hD
  refine W.widen (k := 67) (n := 1073) (Nat.le_of_ble_eq_true rfl) (Nat.le_of_ble_eq_true rfl) ?_
  refine lv_astore_n (lv' := [(1, .ref q), (0, .ref b)]) hx hb dL_law_7 rfl hl (by decide) rfl (fun ls hl => ?_)
  refine va_new (ci := 5) (fs := [.null, .null, .int 0, .null, .int 0, .int 0, .int 0, .int 0, .int 0, .int 0, .int 0, .int 0, .null, .null, .int 0, .int 0, .int 0, .null, .int 0, .int 0, .null, .int 0, .null, .null, .null, .null, .null, .int 0]) (C := RX5) (T := TX5) (N := 28) hx hb htsI (iw_u (ci := 5) inX5) tyX5 tyX5_ok hown (hts (.classLink RL 10 RX5) (lt_of 698 (by decide +kernel))) (hts (.instantiable RX5 28) (lt_of 699 (by decide +kernel))) (hts (.initialized RX5) (lt_of 6 (by decide +kernel))) hK hP hD hS hA rfl (fun j hj => by rcases (show j = 0 ∨ j = 1 ∨ j = 2 ∨ j = 3 ∨ j = 4 ∨ j = 5 ∨ j = 6 ∨ j = 7 ∨ j = 8 ∨ j = 9 ∨ j = 10 ∨ j = 11 ∨ j = 12 ∨ j = 13 ∨ j = 14 ∨ j = 15 ∨ j = 16 ∨ j = 17 ∨ j = 18 ∨ j = 19 ∨ j = 20 ∨ j = 21 ∨ j = 22 ∨ j = 23 ∨ j = 24 ∨ j = 25 ∨ j = 26 ∨ j = 27 by omega) with rfl | rfl | rfl | rfl | rfl | rfl | rfl | rfl | rfl | rfl | rfl | rfl | rfl | rfl | rfl | rfl | rfl | rfl | rfl | rfl | rfl | rfl | rfl | rfl | rfl | rfl | rfl | rfl <;> rfl) (Nat.le_of_ble_eq_true rfl) (Nat.le_of_ble_eq_true rfl) dL_law_8 (fun q' H hP hD hS => ?_)
  refine W.widen (k := 68) (n := 1101) (Nat.le_of_ble_eq_true rfl) (Nat.le_of_ble_eq_true rfl) ?_
  refine lv_dup hx hb dL_law_11 rfl ?_
  have hPc := hP.sub (ws' := [(q', .inr (5, [.null, .null, .int 0, .null, .int 0, .int 0, .int 0, .int 0, .int 0, .int 0, .int 0, .int 0, .null, .null, .int 0, .int 0, .int 0, .null, .int 0, .int 0, .null, .int 0, .null, .null, .null, .null, .null, .int 0]))]) [67] rfl
  have hDc := hD.sub (ws' := [(q', .inr (5, [.null, .null, .int 0, .null, .int 0, .int 0, .int 0, .int 0, .int 0, .int 0, .int 0, .int 0, .null, .null, .int 0, .int 0, .int 0, .null, .int 0, .int 0, .null, .int 0, .null, .null, .null, .null, .null, .int 0]))]) [67] (by decide) rfl
  have hFc := va_free (wc := [(q', .inr (5, [.null, .null, .int 0, .null, .int 0, .int 0, .int 0, .int 0, .int 0, .int 0, .int 0, .int 0, .null, .null, .int 0, .int 0, .int 0, .null, .int 0, .int 0, .null, .int 0, .null, .null, .null, .null, .null, .int 0]))]) hD hS hA [67] rfl
  refine va_callv (va_runI (As := []) (rest := [.ref q']) ⟨hx, hb, hml, hown, htsI⟩ (c_X5 l dC dI cI cB cZ cG q' H.size) ⟨callB_of 0 htsI (iw_good iw_c5) rfl rfl rfl (hts (.initialized RX5) (lt_of 6 (by decide +kernel))) (hts (.methodLink RL 12 yX5_init) (lt_of 700 (by decide +kernel))) (by decide +kernel) ⟨Nat.le_of_ble_eq_true rfl, Nat.le_of_ble_eq_true rfl⟩, rfl, hts (.instanceMethod yX5_init) (lt_of 701 (by decide +kernel))⟩ ⟨fun a U g mk q => by
    obtain ⟨q0, q1, qP, qK, qD⟩ := q
    exact ⟨q0, q1, qP, va_K.moved (u := U) (U := U.calling g mk a) (Vm.Alike.refl U.vm) qK, qD⟩, fun U hU hW => ⟨rfl, by rw [hU], by rw [hU]; exact hPc, va_K.moved hW.alike hK, hDc.weaken (fun _ _ _ _ => trivial)⟩⟩ rfl rfl hl.1 rfl (lv_room (Nat.le_of_ble_eq_true rfl)) dL_law_12 ⟨Nat.le_of_ble_eq_true rfl, Nat.le_of_ble_eq_true rfl⟩) hS (fun q _ h => hFc q h) hFc (fun u t H1 locs ht hvm hw hB hz1 hk1 hS => ?_)
  obtain ⟨a', hP1, hD1⟩ := hB
  rw [ht] at hP1
  obtain ⟨hP, hD⟩ := va_join (wr := iz_W4 cI cB cZ cG q a) (w1 := iz_W5 cI cB cZ cG q' a') hP hD [67] [0, 1, 2, 3, 4, 5, 6, 7, 8, 9, 10, 11, 12, 13, 14, 15, 16, 17, 18, 19, 20, 21, 22, 23, 24, 25, 26, 27, 28, 29, 30, 31, 32, 33, 34, 35, 36, 37, 38, 39, 40, 41, 42, 43, 44, 45, 46, 47, 48, 49, 50, 51, 52, 53, 54, 55, 56, 57, 58, 59, 60, 61, 62, 63, 64, 65, 66] rfl rfl (by decide) (by decide) hk1 hFc hP1 hD1
  generalize H1 = H at hP hS ⊢
  refine W.widen (k := 80) (n := 2264) (Nat.le_of_ble_eq_true rfl) (Nat.le_of_ble_eq_true rfl) ?_
  refine lv_astore_n (lv' := [(2, .ref q'), (1, .ref q), (0, .ref b)]) hx hb dL_law_15 rfl hl (by decide) rfl (fun ls hl => ?_)
  have hG : pm_ok (iz_G cI cB cZ cG dC dI q a q' a' k1 k2 b L A (sx_S A adK adV fv)) := iz_ok hD (hA2 k1 lt1) (hA2 k2 lt2) (hA2 b hbl) (fun U V hW _ hk h => h.go hW hk) (fun U g mk x h => h.call g mk x)
  have hV : pm_V (iz_G cI cB cZ cG dC dI q a q' a' k1 k2 b L A (sx_S A adK adV fv)) s := ⟨hK, hL1, hL2, hnp, hSX, fun r h1 h2 => by
    rcases (show r = 80 ∨ r = 81 ∨ r = 82 by omega) with rfl | rfl | rfl
    · exact lt1
    · exact lt2
    · exact hbl⟩
  have hro : pm_ro (iz_G cI cB cZ cG dC dI q a q' a' k1 k2 b L A (sx_S A adK adV fv)) (iz_D xs) s s.heap := fun r h1 h2 => by
    rcases (show r = 80 ∨ r = 81 ∨ r = 82 by omega) with rfl | rfl | rfl
    · exact hT1
    · exact hT2
    · exact hT3
  have hE := t_law (N := L) hL iz_zOk (iz_CR xs) (iz_MR xs)
  refine pm_walk (q := miL_law) (d := 11) (N := L) (Ga := pm_D L 11) (post := lw_po) (Qf := lw_Z below #[Value.ref b] s) (st := []) hG rfl hV hx hb hml hown htsP okL pm_allj (fun j as D post h => pm_sound hG rfl (sx_word hG rfl hfv) 11 j as D post h) ⟨Nat.le_refl _, Nat.le_refl _⟩ ⟨Nat.le_of_ble_eq_true rfl, Nat.le_of_ble_eq_true rfl⟩ ?_ hE H locs ls ⟨iz_P hP, hro, hS⟩ ⟨rfl, lv_sub hl [2, 1, 0] rfl⟩
  intro i pc ls D' H' locs' v hd hi hp hC'
  have hp : v = some (.int 1) := hp
  subst hp
  rcases hi with ⟨rfl, x, -, -⟩ | ⟨-, x, hx1, -⟩ | ⟨-, x, hx1, -⟩ | ⟨-, hx1, -⟩
  · refine va_forget (fun q hq => hAi _ (hC'.2.2.2.2 q hq)) ?_
    refine W.widen (k := 600000) (n := 7302250) (Nat.le_of_ble_eq_true rfl) (Nat.le_of_ble_eq_true rfl) ?_
    exact lw_ret hx hb hr hlocks hd
  · cases hx1
  · cases hx1
  · cases hx1
