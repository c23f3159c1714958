/-! ===== the small machine's methods, by how many calls deep: what holds there holds of the machine ===== -/
def pm_WP (N : Nat) (Ga : pm_Ga) (q : pm_MI) (as : List Value) (D : pm_Mem) (post : pm_Post) : Prop := Nat.ble (lg_sl as).length (pm_mL q) = true ∧ pm_Ev N Ga (pm_tb q) (pm_rt q) post 0 (pm_ent as (pm_mL q)) [] D
/-- plain, rope, block, slack, drag, on, back -/
def pm_words : List (List Int32) := [[112, 108, 97, 105, 110], [114, 111, 112, 101], [98, 108, 111, 99, 107], [115, 108, 97, 99, 107], [100, 114, 97, 103], [111, 110], [98, 97, 99, 107]]
def pm_eqs (f : Nat → Int32) : Nat → List Int32 → Bool
  | _, [] => true
  | a, x :: l => decide (f a = x) && pm_eqs f (a + 1) l
/-- whether the bytes from..behind on the tape spell a word -/
def pm_spell (D : pm_Mem) (w : List Int32) : Bool := decide (D 42 6 - D 42 5 = nI w.length) && pm_eqs (D 43) (D 42 5).toNatClampNeg w
def pm_wf (D : pm_Mem) : List (List Int32) → Nat → Int32
  | [], k => nI k
  | w :: ws, k => if pm_spell D w = true then nI k else pm_wf D ws (k + 1)
/-- Tape.wordRead() -/
def pm_word (d : Nat) (as : List Value) (D : pm_Mem) (post : pm_Post) : Prop := 6 ≤ d ∧ as = [.ref 42] ∧ (∃ a b : Nat, a ≤ b ∧ b ≤ 160 ∧ D 42 5 = nI a ∧ D 42 6 = nI b) ∧ post (some (.int (pm_wf D pm_words 0))) D
def pm_D (N : Nat) : Nat → pm_Ga
  | 0 => fun _ _ _ _ => False
  | d + 1 => fun j as D post => match j with
    | 0 => pm_word d as D post
    | j + 1 => pm_WP N (pm_D N d) (pm_mj (j + 1)) as D post
set_option maxHeartbeats 4000000 in
theorem pm_step {l : Launch} {G : pm_G} {N d : Nat} {Ga : pm_Ga} (hG : pm_ok G) (hN : pm_N G = N) (hcall : ∀ j as D post, Ga j as D post → pm_C l G d j as D post) {j : Nat} {as : List Value} {D : pm_Mem} {post : pm_Post} (h : pm_WP N Ga (pm_mj j) as D post) : pm_C l G (d + 1) j as D post := by
  obtain ⟨hfit, hE⟩ := h
  obtain ⟨m1, m2, m3, m4, m5, m6, m7, m8, m9⟩ := pm_allj j
  refine Met.ofW (cc := pm_cc (pm_mj j)) (maxL := pm_mL (pm_mj j)) (ret := pm_rt (pm_mj j)) m1 rfl ?_
  intro p e s m args below meth c s₁ B hml hv
  obtain ⟨rfl, hst⟩ := hv
  have hx := B.exec
  have hb := B.bytes
  have hr := B.returns
  have hts0 := atoms_spec (ws := pm_wsm (pm_mj j)) B.pre
  have hts : ∀ w ∈ pm_tbl, w.before (as.map (pm_e (pm_ad G))).toArray s = true := fun w hw => hts0 w (List.mem_cons_of_mem _ hw)
  have hown : s.vm.findClass (pm_y (pm_mj j)).cls = some m.cls := findClass_of_methodNamed B.named
  rw [← m8] at hown
  have hlocks := B.notSynchronized
  rw [lg_entry_eq]
  refine pm_walk (st := []) (L := pm_ent as (pm_mL (pm_mj j))) (D := D) hG hN hst.2.2 hx hb hml hown hts m9 pm_allj hcall ⟨Nat.le_refl _, Nat.le_refl _⟩ ⟨Nat.le_refl _, Nat.le_refl _⟩ ?_ hE s.heap [] _ ⟨hst.1, hst.2.1, va_S.rf⟩ (pm_LS.entry _ as (Nat.le_of_ble_eq_true hfit))
  intro i pc ls D' H locs v hd hi hp hC
  have hQ : ∀ t : State, t.heap = H → s.WarmedH t.vm → pm_Qc G post (as.map (pm_e (pm_ad G))).toArray s (.returned (v.map (pm_e (pm_ad G)))) t := fun t ht hW => ⟨⟨v, D', rfl, hp, hC.st hG hst.2.2 ht hW⟩, hC.2.2.F ht⟩
  rcases hi with ⟨rfl, x, rfl, hrt⟩ | ⟨rfl, x, rfl, hrt⟩ | ⟨rfl, x, rfl, hrt⟩ | ⟨rfl, rfl, hrt⟩
  · rcases hrt with hrt | ⟨hrt, hz⟩
    · rw [hrt] at hr
      exact W.iret hx hb hr hQ hC.2.2.2.2 hd
    · rw [hrt] at hr
      exact W.zret hx hb hr (pm_nar_bz x hz).1 hQ hC.2.2.2.2 hd
  · rw [hrt] at hr
    exact W.lret hx hb hr hQ hC.2.2.2.2 hd
  · rcases hrt with ⟨n, hrt⟩ | ⟨n, hrt⟩
    · rw [hrt] at hr
      exact W.aret hx hb hr (Or.inl ⟨_, rfl⟩) (Or.inr ⟨_, rfl⟩) hQ hC.2.2.2.2 hd
    · rw [hrt] at hr
      exact W.aret hx hb hr (Or.inr ⟨_, rfl⟩) (Or.inr ⟨_, rfl⟩) hQ hC.2.2.2.2 hd
  · rw [hrt] at hr
    exact W.vret hx hb hr hQ hC.2.2.2.2 hd
theorem pm_sound {l : Launch} {G : pm_G} {N : Nat} (hG : pm_ok G) (hN : pm_N G = N) (hword : ∀ d as D post, pm_word d as D post → pm_C l G (d + 1) 0 as D post) : ∀ (d j : Nat) (as : List Value) (D : pm_Mem) (post : pm_Post), pm_D N d j as D post → pm_C l G d j as D post
  | 0, _, _, _, _, h => h.elim
  | d + 1, 0, as, D, post, h => hword d as D post h
  | d + 1, j + 1, as, D, post, h => pm_step hG hN (pm_sound hG hN hword d) h
/-! ===== END ===== -/
