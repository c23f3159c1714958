def pm_mw4 (q : pm_MI) : List Cond := Cond.code (pm_y q) (pm_cc q) (pm_mL q) (pm_rt q) :: Cond.initialized (pm_y q).cls :: (if pm_st q = true then [Cond.static (pm_y q)] else [Cond.instanceMethod (pm_y q), Cond.selects (pm_y q).cls (pm_y q) (pm_y q)])
def pm_c3 (q : pm_MI) : Bool := plainName (pm_y q).cls && decide ((pm_y q).cls ≠ "java/lang/invoke/MethodHandle") && decide ((pm_y q).cls ≠ "java/lang/invoke/VarHandle") && decide ((parseMethodDescriptor (pm_y q).desc).map (fun d => d.parameters.length) = some (if pm_st q = true then pm_na q else pm_na q - 1)) && Nat.ble (pm_mL q) 17 && decide (pm_cn (pm_ow q) = (pm_y q).cls)
theorem pm_MOK.of {q : pm_MI} (ps : List Nat) (hw : ps.map (fun i => lw_tbl[i]?) = (pm_mw4 q).map some) (h3 : pm_c3 q = true) (ht : (pm_tb q).all (pm_okE (pm_ow q) (pm_cc q)) = true) : pm_MOK q := by
  have hin := pm_inl lw_tbl (pm_mw4 q) ps hw
  unfold pm_c3 at h3
  simp only [Bool.and_eq_true, decide_eq_true_eq] at h3
  obtain ⟨⟨⟨⟨⟨a1, a2⟩, a3⟩, a4⟩, a5⟩, a6⟩ := h3
  refine ⟨a1, hin _ (List.mem_cons_self), ⟨a2, a3, a4⟩, hin _ (List.mem_cons_of_mem _ List.mem_cons_self), fun hs => hin _ ?_, fun hs => ⟨hin _ ?_, hin _ ?_⟩, Nat.le_of_ble_eq_true a5, a6, .of ht⟩
  · unfold pm_mw4
    rw [if_pos hs]
    exact List.mem_cons_of_mem _ (List.mem_cons_of_mem _ List.mem_cons_self)
  · unfold pm_mw4
    rw [if_neg (by rw [hs]; decide)]
    exact List.mem_cons_of_mem _ (List.mem_cons_of_mem _ List.mem_cons_self)
  · unfold pm_mw4
    rw [if_neg (by rw [hs]; decide)]
    exact List.mem_cons_of_mem _ (List.mem_cons_of_mem _ (List.mem_cons_of_mem _ List.mem_cons_self))
