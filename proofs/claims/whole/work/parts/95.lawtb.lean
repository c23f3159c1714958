/-! ===== the law's table ===== -/
def miL_law : pm_MI := (yL_law, cL_law, 4, (some .boolean), true, 6, 1, tbL_law)
set_option maxRecDepth 100000 in
theorem okL_0 : tbL_law_0.all (pm_okE 6 cL_law) = true := by decide +kernel
set_option maxRecDepth 100000 in
theorem okL_1 : tbL_law_1.all (pm_okE 6 cL_law) = true := by decide +kernel
set_option maxRecDepth 100000 in
theorem okL_2 : tbL_law_2.all (pm_okE 6 cL_law) = true := by decide +kernel
set_option maxRecDepth 100000 in
theorem okL_3 : tbL_law_3.all (pm_okE 6 cL_law) = true := by decide +kernel
set_option maxRecDepth 100000 in
theorem okL_4 : tbL_law_4.all (pm_okE 6 cL_law) = true := by decide +kernel
set_option maxRecDepth 100000 in
theorem okL_5 : tbL_law_5.all (pm_okE 6 cL_law) = true := by decide +kernel
set_option maxRecDepth 100000 in
theorem okL_6 : tbL_law_6.all (pm_okE 6 cL_law) = true := by decide +kernel
set_option maxRecDepth 100000 in
theorem okL_7 : tbL_law_7.all (pm_okE 6 cL_law) = true := by decide +kernel
set_option maxRecDepth 100000 in
theorem okL_8 : tbL_law_8.all (pm_okE 6 cL_law) = true := by decide +kernel
set_option maxRecDepth 100000 in
theorem okL_9 : tbL_law_9.all (pm_okE 6 cL_law) = true := by decide +kernel
set_option maxRecDepth 100000 in
theorem okL_10 : tbL_law_10.all (pm_okE 6 cL_law) = true := by decide +kernel
theorem okL : pm_okT miL_law := by
  show ∀ x ∈ tbL_law, pm_okE 6 cL_law x = true
  unfold tbL_law
  exact (List.forall_mem_append.mpr ⟨List.all_eq_true.mp okL_0, (List.forall_mem_append.mpr ⟨List.all_eq_true.mp okL_1, (List.forall_mem_append.mpr ⟨List.all_eq_true.mp okL_2, (List.forall_mem_append.mpr ⟨List.all_eq_true.mp okL_3, (List.forall_mem_append.mpr ⟨List.all_eq_true.mp okL_4, (List.forall_mem_append.mpr ⟨List.all_eq_true.mp okL_5, (List.forall_mem_append.mpr ⟨List.all_eq_true.mp okL_6, (List.forall_mem_append.mpr ⟨List.all_eq_true.mp okL_7, (List.forall_mem_append.mpr ⟨List.all_eq_true.mp okL_8, (List.forall_mem_append.mpr ⟨List.all_eq_true.mp okL_9, List.all_eq_true.mp okL_10⟩)⟩)⟩)⟩)⟩)⟩)⟩)⟩)⟩)⟩)
