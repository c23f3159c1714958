/-! ===== locals ===== -/
def pm_prs (ad : Nat → Nat) : Nat → pm_L → List (Nat × Value)
  | _, [] => []
  | i, none :: l => pm_prs ad (i + 1) l
  | i, some v :: l => (i, pm_e ad v) :: pm_prs ad (i + 1) l
theorem pm_prs_in (ad : Nat → Nat) : ∀ (L : pm_L) (i k : Nat) (v : Value), pm_get L k = some v → (i + k, pm_e ad v) ∈ pm_prs ad i L
  | [], _, _, _, h => by simp [pm_get] at h
  | none :: l, i, 0, v, h => by simp [pm_get] at h
  | some w :: l, i, 0, v, h => by
    simp only [pm_get, Option.some.injEq] at h
    subst h
    simp [pm_prs]
  | none :: l, i, k + 1, v, h => by
    have := pm_prs_in ad l (i + 1) k v (by simpa [pm_get] using h)
    rw [show i + (k + 1) = i + 1 + k by omega]
    simpa [pm_prs] using this
  | some w :: l, i, k + 1, v, h => by
    have := pm_prs_in ad l (i + 1) k v (by simpa [pm_get] using h)
    rw [show i + (k + 1) = i + 1 + k by omega]
    simp only [pm_prs, List.mem_cons]
    exact Or.inr this
theorem pm_prs_of (ad : Nat → Nat) : ∀ (L : pm_L) (i : Nat) (q : Nat × Value), q ∈ pm_prs ad i L → ∃ k v, pm_get L k = some v ∧ q = (i + k, pm_e ad v)
  | [], _, _, h => by simp [pm_prs] at h
  | none :: l, i, q, h => by
    obtain ⟨k, v, h1, h2⟩ := pm_prs_of ad l (i + 1) q (by simpa [pm_prs] using h)
    exact ⟨k + 1, v, by simpa [pm_get] using h1, by rw [h2, show i + 1 + k = i + (k + 1) by omega]⟩
  | some w :: l, i, q, h => by
    simp only [pm_prs, List.mem_cons] at h
    rcases h with rfl | h
    · exact ⟨0, w, rfl, rfl⟩
    · obtain ⟨k, v, h1, h2⟩ := pm_prs_of ad l (i + 1) q h
      exact ⟨k + 1, v, by simpa [pm_get] using h1, by rw [h2, show i + 1 + k = i + (k + 1) by omega]⟩
/-- the frame's locals hold L -/
def pm_LS (ad : Nat → Nat) (ls : Array Slot) (n : Nat) (L : pm_L) : Prop := L.length = n ∧ lv_has ls n (pm_prs ad 0 L)
theorem pm_LS.at {ad : Nat → Nat} {ls : Array Slot} {n : Nat} {L : pm_L} (h : pm_LS ad ls n L) {k : Nat} {v : Value} (hk : pm_get L k = some v) : ls[k]? = some (.val (pm_e ad v)) := by
  have := h.2.2.2 _ (pm_prs_in ad L 0 k v hk)
  simpa using this
theorem pm_set1_spec : ∀ (L : pm_L) (i : Nat) (v : Value) (K : pm_L → Prop), pm_set1 L i v K → ∃ L', K L' ∧ L'.length = L.length ∧ i < L.length ∧ pm_get L' i = some v ∧ (∀ k, k ≠ i → pm_get L' k = pm_get L k) ∧ ∀ k w, pm_get L k = some w → k + 1 = i → w.category ≠ 2
  | [], _, _, _, h => h.elim
  | a :: l, 0, v, K, h => ⟨some v :: l, h, by simp, by simp, rfl, fun k hk => by cases k with | zero => exact absurd rfl hk | succ k => rfl, fun k w _ e => by omega⟩
  | a :: l, n + 1, v, K, h => by
    have h' : pm_set1 l n v (fun l' => K (a :: l')) ∧ ∀ w, a = some w → n = 0 → w.category ≠ 2 := by
      unfold pm_set1 at h
      split at h
      · exact h.elim
      · exact h.elim
      · rename_i q1 q2
        refine ⟨h, fun w e1 e2 => ?_⟩
        subst e1; subst e2
        cases w <;> simp_all [Value.category]
    obtain ⟨h1, hc⟩ := h'
    obtain ⟨L', k1, k2, k3, k4, k5, k6⟩ := pm_set1_spec l n v _ h1
    refine ⟨a :: L', k1, by simp [k2], by simpa using k3, k4, fun k hk => ?_, fun k w hk e => ?_⟩
    · cases k with
      | zero => rfl
      | succ k => exact k5 k (by omega)
    · cases k with
      | zero => exact hc w hk (by omega)
      | succ k => exact k6 k w hk (by omega)
theorem pm_set2_spec : ∀ (L : pm_L) (i : Nat) (v : Value) (K : pm_L → Prop), pm_set2 L i v K → ∃ L', K L' ∧ L'.length = L.length ∧ i + 1 < L.length ∧ pm_get L' i = some v ∧ pm_get L' (i + 1) = none ∧ (∀ k, k ≠ i → k ≠ i + 1 → pm_get L' k = pm_get L k) ∧ ∀ k w, pm_get L k = some w → k + 1 = i → w.category ≠ 2
  | [], _, _, _, h => h.elim
  | [_], 0, _, _, h => h.elim
  | [_], _ + 1, _, _, h => h.elim
  | a :: b :: l, 0, v, K, h => ⟨some v :: none :: l, h, by simp, by simp, rfl, rfl, fun k h1 h2 => by match k, h1, h2 with | 0, h1, _ => exact absurd rfl h1 | 1, _, h2 => exact absurd rfl h2 | k + 2, _, _ => rfl, fun k w _ e => by omega⟩
  | a :: b :: l, n + 1, v, K, h => by
    have h' : pm_set2 (b :: l) n v (fun l' => K (a :: l')) ∧ ∀ w, a = some w → n = 0 → w.category ≠ 2 := by
      unfold pm_set2 at h
      split at h
      · exact h.elim
      · exact h.elim
      · rename_i q1 q2
        refine ⟨h, fun w e1 e2 => ?_⟩
        subst e1; subst e2
        cases w <;> simp_all [Value.category]
    obtain ⟨h1, hc⟩ := h'
    obtain ⟨L', k1, k2, k3, k4, k5, k6, k7⟩ := pm_set2_spec (b :: l) n v _ h1
    refine ⟨a :: L', k1, by simp [k2], by simpa using k3, k4, k5, fun k hk hk2 => ?_, fun k w hk e => ?_⟩
    · cases k with
      | zero => rfl
      | succ k => exact k6 k (by omega) (by omega)
    · cases k with
      | zero => exact hc w hk (by omega)
      | succ k => exact k7 k w hk (by omega)
theorem pm_LS.set1 {ad : Nat → Nat} {n : Nat} {L L' : pm_L} {i : Nat} {v : Value} {ls' : Array Slot} (hn : L.length = n) (k2 : L'.length = L.length) (k4 : pm_get L' i = some v) (k5 : ∀ k, k ≠ i → pm_get L' k = pm_get L k) (k6 : ∀ k w, pm_get L k = some w → k + 1 = i → w.category ≠ 2)
    (h : lv_has ls' n ((i, pm_e ad v) :: (pm_prs ad 0 L).filter (fun q => !(q.1 == i) && !(q.1 + 1 == i && q.2.category == 2)))) : pm_LS ad ls' n L' := by
  refine ⟨k2.trans hn, h.1, h.2.1, fun q hq => ?_⟩
  obtain ⟨k, w, h1, rfl⟩ := pm_prs_of ad L' 0 q hq
  by_cases e : k = i
  · subst e
    rw [k4] at h1
    cases h1
    have := h.2.2 _ List.mem_cons_self
    simpa using this
  · rw [k5 k e] at h1
    refine h.2.2 (0 + k, pm_e ad w) (List.mem_cons_of_mem _ (List.mem_filter.mpr ⟨pm_prs_in ad L 0 k w h1, ?_⟩))
    simp only [Nat.zero_add, Bool.and_eq_true, Bool.not_eq_true', beq_eq_false_iff_ne, ne_eq, Bool.and_eq_false_iff]
    refine ⟨e, ?_⟩
    by_cases e2 : k + 1 = i
    · exact Or.inr (by rw [pm_e_cat]; exact k6 k w h1 e2)
    · exact Or.inl e2
theorem pm_LS.set2 {ad : Nat → Nat} {n : Nat} {L L' : pm_L} {i : Nat} {v : Value} {ls' : Array Slot} (hn : L.length = n) (k2 : L'.length = L.length) (k4 : pm_get L' i = some v) (k4' : pm_get L' (i + 1) = none) (k5 : ∀ k, k ≠ i → k ≠ i + 1 → pm_get L' k = pm_get L k) (k6 : ∀ k w, pm_get L k = some w → k + 1 = i → w.category ≠ 2)
    (h : lv_has ls' n ((i, pm_e ad v) :: (pm_prs ad 0 L).filter (fun q => !(q.1 == i) && (!(q.1 == i + 1) && !(q.1 + 1 == i && q.2.category == 2))))) : pm_LS ad ls' n L' := by
  refine ⟨k2.trans hn, h.1, h.2.1, fun q hq => ?_⟩
  obtain ⟨k, w, h1, rfl⟩ := pm_prs_of ad L' 0 q hq
  by_cases e : k = i
  · subst e
    rw [k4] at h1
    cases h1
    have := h.2.2 _ List.mem_cons_self
    simpa using this
  · by_cases e1 : k = i + 1
    · subst e1
      rw [k4'] at h1
      cases h1
    · rw [k5 k e e1] at h1
      refine h.2.2 (0 + k, pm_e ad w) (List.mem_cons_of_mem _ (List.mem_filter.mpr ⟨pm_prs_in ad L 0 k w h1, ?_⟩))
      simp only [Nat.zero_add, Bool.and_eq_true, Bool.not_eq_true', beq_eq_false_iff_ne, ne_eq, Bool.and_eq_false_iff]
      refine ⟨e, e1, ?_⟩
      by_cases e2 : k + 1 = i
      · exact Or.inr (by rw [pm_e_cat]; exact k6 k w h1 e2)
      · exact Or.inl e2
theorem pm_ent_len : ∀ (as : List Value) (n : Nat), (lg_sl as).length ≤ n → (pm_ent as n).length = n
  | [], n, _ => by simp [pm_ent]
  | v :: as, n, h => by
    have hl : (lg_sl (v :: as)).length = (if v.category = 2 then 2 else 1) + (lg_sl as).length := by
      simp only [lg_sl, List.flatMap_cons, List.length_append]
      split <;> rfl
    rw [hl] at h
    cases v with
    | long x =>
      rw [if_pos (show (Value.long x).category = 2 from rfl)] at h
      simp only [pm_ent, List.length_cons]
      rw [pm_ent_len as (n - 2) (by omega)]
      omega
    | double x =>
      rw [if_pos (show (Value.double x).category = 2 from rfl)] at h
      simp only [pm_ent, List.length_cons]
      rw [pm_ent_len as (n - 2) (by omega)]
      omega
    | _ =>
      rw [if_neg (by simp [Value.category])] at h
      simp only [pm_ent, List.length_cons]
      rw [pm_ent_len as (n - 1) (by omega)]
      omega
theorem pm_prs_rep (ad : Nat → Nat) : ∀ (n i : Nat), pm_prs ad i (List.replicate n none) = []
  | 0, _ => rfl
  | n + 1, i => by
    rw [List.replicate_succ]
    exact pm_prs_rep ad n (i + 1)
theorem pm_prs_ent (ad : Nat → Nat) : ∀ (as : List Value) (n i : Nat), pm_prs ad i (pm_ent as n) = lv_args i (as.map (pm_e ad))
  | [], n, i => pm_prs_rep ad n i
  | v :: as, n, i => by
    cases v with
    | long x =>
      show (i, _) :: pm_prs ad (i + 1 + 1) (pm_ent as (n - 2)) = (i, _) :: lv_args (if (pm_e ad (.long x)).category = 2 then i + 2 else i + 1) _
      rw [pm_prs_ent ad as (n - 2) (i + 1 + 1)]
      rfl
    | double x =>
      show (i, _) :: pm_prs ad (i + 1 + 1) (pm_ent as (n - 2)) = (i, _) :: lv_args (if (pm_e ad (.double x)).category = 2 then i + 2 else i + 1) _
      rw [pm_prs_ent ad as (n - 2) (i + 1 + 1)]
      rfl
    | _ =>
      show (i, _) :: pm_prs ad (i + 1) (pm_ent as (n - 1)) = (i, _) :: lv_args _ _
      rw [pm_prs_ent ad as (n - 1) (i + 1)]
      rfl
theorem pm_sl_len (ad : Nat → Nat) : ∀ as : List Value, (lg_sl (as.map (pm_e ad))).length = (lg_sl as).length
  | [] => rfl
  | v :: as => by
    have := pm_sl_len ad as
    simp only [lg_sl, List.map_cons, List.flatMap_cons, List.length_append] at this ⊢
    rw [this, pm_e_cat]
    split <;> rfl
theorem pm_LS.entry (ad : Nat → Nat) (as : List Value) {n : Nat} (h : (lg_sl as).length ≤ n) : pm_LS ad ((lg_sl (as.map (pm_e ad)) ++ List.replicate (n - (lg_sl (as.map (pm_e ad))).length) Slot.unset).toArray) n (pm_ent as n) := by
  refine ⟨pm_ent_len as n h, ?_⟩
  rw [pm_prs_ent]
  exact lv_entry (as.map (pm_e ad)) (by rw [pm_sl_len]; exact h)
/-! ===== END ===== -/
