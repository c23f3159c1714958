/-! ===== the law's loop, in the small machine ===== -/
theorem MR.hi {D D' : pm_Mem} {z : z_Z} (h : MR D z) (hf : ∀ r, 67 ≤ r → D' r = D r) : MR D' z := by
  obtain ⟨a, b, c, d, e, f, i⟩ := h
  refine ⟨?_, ?_, ?_, ?_, ?_, ?_, ?_⟩
  · unfold z_M; rw [hf 68 (by decide)]; exact a
  · unfold M2 z_M; rw [hf 68 (by decide), hf 76 (by decide)]; exact b
  · unfold M3; rw [hf 67 (by decide), hf 70 (by decide)]; exact c
  · unfold M4; rw [hf 67 (by decide), hf 74 (by decide)]; exact d
  · unfold M5; rw [hf 77 (by decide), hf 78 (by decide), hf 79 (by decide)]; exact e
  · unfold M6; rw [hf 67 (by decide)]; exact f
  · unfold M7; rw [hf 71 (by decide), hf 72 (by decide)]; exact i
theorem CR.lo {D D' : pm_Mem} {z : z_Z} (h : CR D z) (hf : ∀ r, (r < 67 ∨ 80 ≤ r) → D' r = D r) : CR D' z :=
  ⟨z_R.same h.1 (fun r _ _ => hf r (by omega)), h.2.1.same (fun r _ _ _ => hf r (by omega)), h.2.2.1.same (fun r _ _ => hf r (by omega)), h.2.2.2.1.same (fun r _ _ => hf r (by omega)), h.2.2.2.2.1.same (fun r _ _ => hf r (by omega)), h.2.2.2.2.2.1.same (hf 40 (by omega)), h.2.2.2.2.2.2.same (fun r _ => hf r (by omega))⟩
def lw_po : pm_Post := fun r _ => r = some (.int 1)
def lw_H (N : Nat) (X : Nat → pm_L → List Value → pm_Mem → Prop) : Prop := ∀ pc L st D, pm_F N (pm_D N 11) tbL_law (some .boolean) lw_po X pc L st D → X pc L st D
def lw_N (X : Nat → pm_L → List Value → pm_Mem → Prop) (i : Nat) : Prop := ∀ z D, zOk z → CR D z → MR D z → X 1507 [some (.ref 82), some (.ref 40), some (.ref 67), some (.int (nI i))] [] D
theorem lw_v {N i j : Nat} {x : Int32} (hN : i + 5 ≤ N) (h2 : N ≤ 2560) (hx : x = nI j) (hj : j < 5) : vp_in (nI i + x) N := by
  rw [hx, nI_add]
  exact vp_in_nI (by omega) (by omega)
set_option maxRecDepth 100000 in
set_option maxHeartbeats 4000000 in
theorem lw_c_feed {N i : Nat} {X : Nat → pm_L → List Value → pm_Mem → Prop} (hX : lw_H N X) (hN : i + 5 ≤ N) (h2 : N ≤ 2560) (nx : lw_N X i) {z : z_Z} {D : pm_Mem} (hz : zOk z) (hC : CR D z) (hM : MR D z) : X 212 [some (.ref 82), some (.ref 40), some (.ref 67), some (.int (nI i))] [] D := by
  replace hX : ∀ pc L st D, pm_F N (pm_D N 11) tbL_law (some .boolean) lw_po X pc L st D → X pc L st D := hX
  repeat (refine hX _ _ _ _ ?_; conv => whnf)
  refine ⟨lw_v (j := 1) hN h2 rfl (by decide), ?_⟩
  repeat (refine hX _ _ _ _ ?_; conv => whnf)
  refine K_c_feed (d := 9) z _ D _ hz hC (fun D1 c1 c2 => ?_)
  repeat (refine hX _ _ _ _ ?_; conv => whnf)
  refine ⟨lw_v (j := 1) hN h2 rfl (by decide), ?_⟩
  repeat (refine hX _ _ _ _ ?_; conv => whnf)
  rw [c2 82 (by decide)]
  refine K_m_feed (d := 9) z _ D1 _ hz (hM.hi c2) (fun D2 m1 m2 => ?_)
  repeat (refine hX _ _ _ _ ?_; conv => whnf)
  exact ⟨fun _ => nx _ D2 (k_feed hz _) (c1.lo m2) m1, fun y => absurd rfl y⟩
set_option maxRecDepth 100000 in
set_option maxHeartbeats 4000000 in
theorem lw_c_end {N i : Nat} {X : Nat → pm_L → List Value → pm_Mem → Prop} (hX : lw_H N X) (hN : i + 5 ≤ N) (h2 : N ≤ 2560) (nx : lw_N X i) {z : z_Z} {D : pm_Mem} (hz : zOk z) (hC : CR D z) (hM : MR D z) : X 235 [some (.ref 82), some (.ref 40), some (.ref 67), some (.int (nI i))] [] D := by
  replace hX : ∀ pc L st D, pm_F N (pm_D N 11) tbL_law (some .boolean) lw_po X pc L st D → X pc L st D := hX
  repeat (refine hX _ _ _ _ ?_; conv => whnf)
  refine ⟨lw_v (j := 1) hN h2 rfl (by decide), ?_⟩
  repeat (refine hX _ _ _ _ ?_; conv => whnf)
  refine K_c_end (d := 9) z _ D _ hz hC (fun D1 c1 c2 => ?_)
  repeat (refine hX _ _ _ _ ?_; conv => whnf)
  refine ⟨lw_v (j := 1) hN h2 rfl (by decide), ?_⟩
  repeat (refine hX _ _ _ _ ?_; conv => whnf)
  rw [c2 82 (by decide)]
  refine K_m_end (d := 9) z _ D1 _ hz (hM.hi c2) (fun D2 m1 m2 => ?_)
  repeat (refine hX _ _ _ _ ?_; conv => whnf)
  exact ⟨fun _ => nx _ D2 (k_end hz _) (c1.lo m2) m1, fun y => absurd rfl y⟩
set_option maxRecDepth 100000 in
set_option maxHeartbeats 4000000 in
theorem lw_c_text {N i : Nat} {X : Nat → pm_L → List Value → pm_Mem → Prop} (hX : lw_H N X) (hN : i + 5 ≤ N) (h2 : N ≤ 2560) (nx : lw_N X i) {z : z_Z} {D : pm_Mem} (hz : zOk z) (hC : CR D z) (hM : MR D z) : X 258 [some (.ref 82), some (.ref 40), some (.ref 67), some (.int (nI i))] [] D := by
  replace hX : ∀ pc L st D, pm_F N (pm_D N 11) tbL_law (some .boolean) lw_po X pc L st D → X pc L st D := hX
  repeat (refine hX _ _ _ _ ?_; conv => whnf)
  refine K_c_text (d := 1) z D _ hz hC (fun D1 c1 c2 => ?_)
  repeat (refine hX _ _ _ _ ?_; conv => whnf)
  refine K_m_text (d := 5) z D1 _ hz (hM.hi c2) (fun D2 m1 m2 => ?_)
  repeat (refine hX _ _ _ _ ?_; conv => whnf)
  exact ⟨fun _ => nx _ D2 (k_text hz) (c1.lo m2) m1, fun y => absurd rfl y⟩
set_option maxRecDepth 100000 in
set_option maxHeartbeats 4000000 in
theorem lw_c_fault {N i : Nat} {X : Nat → pm_L → List Value → pm_Mem → Prop} (hX : lw_H N X) (hN : i + 5 ≤ N) (h2 : N ≤ 2560) (nx : lw_N X i) {z : z_Z} {D : pm_Mem} (hz : zOk z) (hC : CR D z) (hM : MR D z) : X 271 [some (.ref 82), some (.ref 40), some (.ref 67), some (.int (nI i))] [] D := by
  replace hX : ∀ pc L st D, pm_F N (pm_D N 11) tbL_law (some .boolean) lw_po X pc L st D → X pc L st D := hX
  repeat (refine hX _ _ _ _ ?_; conv => whnf)
  refine K_c_fault (d := 10) z D _ hz hC (fun D1 c1 c2 => ?_)
  repeat (refine hX _ _ _ _ ?_; conv => whnf)
  refine K_m_fault (d := 10) z D1 _ hz (hM.hi c2) (fun D2 m1 m2 => ?_)
  repeat (refine hX _ _ _ _ ?_; conv => whnf)
  exact ⟨fun _ => nx _ D2 hz (c1.lo m2) m1, fun y => absurd rfl y⟩
set_option maxRecDepth 100000 in
set_option maxHeartbeats 4000000 in
theorem lw_c_rule {N i : Nat} {X : Nat → pm_L → List Value → pm_Mem → Prop} (hX : lw_H N X) (hN : i + 5 ≤ N) (h2 : N ≤ 2560) (nx : lw_N X i) {z : z_Z} {D : pm_Mem} (hz : zOk z) (hC : CR D z) (hM : MR D z) : X 284 [some (.ref 82), some (.ref 40), some (.ref 67), some (.int (nI i))] [] D := by
  replace hX : ∀ pc L st D, pm_F N (pm_D N 11) tbL_law (some .boolean) lw_po X pc L st D → X pc L st D := hX
  repeat (refine hX _ _ _ _ ?_; conv => whnf)
  refine ⟨lw_v (j := 1) hN h2 rfl (by decide), ?_⟩
  repeat (refine hX _ _ _ _ ?_; conv => whnf)
  refine K_c_rule (d := 9) z _ D _ hz hC (fun D1 c1 c2 => ?_)
  repeat (refine hX _ _ _ _ ?_; conv => whnf)
  refine ⟨lw_v (j := 1) hN h2 rfl (by decide), ?_⟩
  repeat (refine hX _ _ _ _ ?_; conv => whnf)
  rw [c2 82 (by decide)]
  refine K_m_rule (d := 9) z _ D1 _ hz (hM.hi c2) (fun D2 m1 m2 => ?_)
  repeat (refine hX _ _ _ _ ?_; conv => whnf)
  exact ⟨fun _ => nx _ D2 hz (c1.lo m2) m1, fun y => absurd rfl y⟩
set_option maxRecDepth 100000 in
set_option maxHeartbeats 4000000 in
theorem lw_c_bead {N i : Nat} {X : Nat → pm_L → List Value → pm_Mem → Prop} (hX : lw_H N X) (hN : i + 5 ≤ N) (h2 : N ≤ 2560) (nx : lw_N X i) {z : z_Z} {D : pm_Mem} (hz : zOk z) (hC : CR D z) (hM : MR D z) : X 307 [some (.ref 82), some (.ref 40), some (.ref 67), some (.int (nI i))] [] D := by
  replace hX : ∀ pc L st D, pm_F N (pm_D N 11) tbL_law (some .boolean) lw_po X pc L st D → X pc L st D := hX
  repeat (refine hX _ _ _ _ ?_; conv => whnf)
  refine ⟨lw_v (j := 1) hN h2 rfl (by decide), ?_⟩
  repeat (refine hX _ _ _ _ ?_; conv => whnf)
  refine ⟨lw_v (j := 2) hN h2 rfl (by decide), ?_⟩
  repeat (refine hX _ _ _ _ ?_; conv => whnf)
  refine K_c_bead (d := 8) z _ _ D _ hz hC (fun D1 c1 c2 => ?_)
  repeat (refine hX _ _ _ _ ?_; conv => whnf)
  refine ⟨lw_v (j := 1) hN h2 rfl (by decide), ?_⟩
  repeat (refine hX _ _ _ _ ?_; conv => whnf)
  refine ⟨lw_v (j := 2) hN h2 rfl (by decide), ?_⟩
  repeat (refine hX _ _ _ _ ?_; conv => whnf)
  rw [c2 82 (by decide)]
  refine K_m_bead (d := 8) z _ _ D1 _ hz (hM.hi c2) (fun D2 m1 m2 => ?_)
  repeat (refine hX _ _ _ _ ?_; conv => whnf)
  exact ⟨fun _ => nx _ D2 hz (c1.lo m2) m1, fun y => absurd rfl y⟩
set_option maxRecDepth 100000 in
set_option maxHeartbeats 4000000 in
theorem lw_c_knock {N i : Nat} {X : Nat → pm_L → List Value → pm_Mem → Prop} (hX : lw_H N X) (hN : i + 5 ≤ N) (h2 : N ≤ 2560) (nx : lw_N X i) {z : z_Z} {D : pm_Mem} (hz : zOk z) (hC : CR D z) (hM : MR D z) : X 340 [some (.ref 82), some (.ref 40), some (.ref 67), some (.int (nI i))] [] D := by
  replace hX : ∀ pc L st D, pm_F N (pm_D N 11) tbL_law (some .boolean) lw_po X pc L st D → X pc L st D := hX
  repeat (refine hX _ _ _ _ ?_; conv => whnf)
  refine ⟨lw_v (j := 1) hN h2 rfl (by decide), ?_⟩
  repeat (refine hX _ _ _ _ ?_; conv => whnf)
  refine ⟨lw_v (j := 2) hN h2 rfl (by decide), ?_⟩
  repeat (refine hX _ _ _ _ ?_; conv => whnf)
  refine K_c_knock (d := 9) z _ _ D _ hz hC (fun D1 c1 c2 => ?_)
  repeat (refine hX _ _ _ _ ?_; conv => whnf)
  refine ⟨lw_v (j := 1) hN h2 rfl (by decide), ?_⟩
  repeat (refine hX _ _ _ _ ?_; conv => whnf)
  refine ⟨lw_v (j := 2) hN h2 rfl (by decide), ?_⟩
  repeat (refine hX _ _ _ _ ?_; conv => whnf)
  rw [c2 82 (by decide)]
  refine K_m_knock (d := 8) z _ _ D1 _ hz (hM.hi c2) (fun D2 m1 m2 => ?_)
  repeat (refine hX _ _ _ _ ?_; conv => whnf)
  exact ⟨fun _ => nx _ D2 hz (c1.lo m2) m1, fun y => absurd rfl y⟩
set_option maxRecDepth 100000 in
set_option maxHeartbeats 4000000 in
theorem lw_c_alter {N i : Nat} {X : Nat → pm_L → List Value → pm_Mem → Prop} (hX : lw_H N X) (hN : i + 5 ≤ N) (h2 : N ≤ 2560) (nx : lw_N X i) {z : z_Z} {D : pm_Mem} (hz : zOk z) (hC : CR D z) (hM : MR D z) : X 373 [some (.ref 82), some (.ref 40), some (.ref 67), some (.int (nI i))] [] D := by
  replace hX : ∀ pc L st D, pm_F N (pm_D N 11) tbL_law (some .boolean) lw_po X pc L st D → X pc L st D := hX
  repeat (refine hX _ _ _ _ ?_; conv => whnf)
  refine ⟨lw_v (j := 1) hN h2 rfl (by decide), ?_⟩
  repeat (refine hX _ _ _ _ ?_; conv => whnf)
  refine ⟨lw_v (j := 2) hN h2 rfl (by decide), ?_⟩
  repeat (refine hX _ _ _ _ ?_; conv => whnf)
  refine ⟨lw_v (j := 3) hN h2 rfl (by decide), ?_⟩
  repeat (refine hX _ _ _ _ ?_; conv => whnf)
  refine K_c_alter (d := 9) z _ _ _ D _ hz hC (fun D1 c1 c2 => ?_)
  repeat (refine hX _ _ _ _ ?_; conv => whnf)
  refine ⟨lw_v (j := 1) hN h2 rfl (by decide), ?_⟩
  repeat (refine hX _ _ _ _ ?_; conv => whnf)
  refine ⟨lw_v (j := 2) hN h2 rfl (by decide), ?_⟩
  repeat (refine hX _ _ _ _ ?_; conv => whnf)
  refine ⟨lw_v (j := 3) hN h2 rfl (by decide), ?_⟩
  repeat (refine hX _ _ _ _ ?_; conv => whnf)
  rw [c2 82 (by decide)]
  refine K_m_alter (d := 8) z _ _ _ D1 _ hz (hM.hi c2) (fun D2 m1 m2 => ?_)
  repeat (refine hX _ _ _ _ ?_; conv => whnf)
  exact ⟨fun _ => nx _ D2 (k_alter hz _ _ _) (c1.lo m2) m1, fun y => absurd rfl y⟩
set_option maxRecDepth 100000 in
set_option maxHeartbeats 4000000 in
theorem lw_c_drag {N i : Nat} {X : Nat → pm_L → List Value → pm_Mem → Prop} (hX : lw_H N X) (hN : i + 5 ≤ N) (h2 : N ≤ 2560) (nx : lw_N X i) {z : z_Z} {D : pm_Mem} (hz : zOk z) (hC : CR D z) (hM : MR D z) : X 416 [some (.ref 82), some (.ref 40), some (.ref 67), some (.int (nI i))] [] D := by
  replace hX : ∀ pc L st D, pm_F N (pm_D N 11) tbL_law (some .boolean) lw_po X pc L st D → X pc L st D := hX
  repeat (refine hX _ _ _ _ ?_; conv => whnf)
  refine ⟨lw_v (j := 1) hN h2 rfl (by decide), ?_⟩
  repeat (refine hX _ _ _ _ ?_; conv => whnf)
  refine K_c_drag (d := 9) z _ D _ hz hC (fun D1 c1 c2 => ?_)
  repeat (refine hX _ _ _ _ ?_; conv => whnf)
  refine ⟨lw_v (j := 1) hN h2 rfl (by decide), ?_⟩
  repeat (refine hX _ _ _ _ ?_; conv => whnf)
  rw [c2 82 (by decide)]
  refine K_m_drag (d := 9) z _ D1 _ hz (hM.hi c2) (fun D2 m1 m2 => ?_)
  repeat (refine hX _ _ _ _ ?_; conv => whnf)
  exact ⟨fun _ => nx _ D2 (k_drag hz _) (c1.lo m2) m1, fun y => absurd rfl y⟩
set_option maxRecDepth 100000 in
set_option maxHeartbeats 4000000 in
theorem lw_c_bind {N i : Nat} {X : Nat → pm_L → List Value → pm_Mem → Prop} (hX : lw_H N X) (hN : i + 5 ≤ N) (h2 : N ≤ 2560) (nx : lw_N X i) {z : z_Z} {D : pm_Mem} (hz : zOk z) (hC : CR D z) (hM : MR D z) : X 439 [some (.ref 82), some (.ref 40), some (.ref 67), some (.int (nI i))] [] D := by
  replace hX : ∀ pc L st D, pm_F N (pm_D N 11) tbL_law (some .boolean) lw_po X pc L st D → X pc L st D := hX
  repeat (refine hX _ _ _ _ ?_; conv => whnf)
  refine ⟨lw_v (j := 1) hN h2 rfl (by decide), ?_⟩
  repeat (refine hX _ _ _ _ ?_; conv => whnf)
  refine ⟨lw_v (j := 2) hN h2 rfl (by decide), ?_⟩
  repeat (refine hX _ _ _ _ ?_; conv => whnf)
  refine ⟨lw_v (j := 3) hN h2 rfl (by decide), ?_⟩
  repeat (refine hX _ _ _ _ ?_; conv => whnf)
  refine ⟨lw_v (j := 4) hN h2 rfl (by decide), ?_⟩
  repeat (refine hX _ _ _ _ ?_; conv => whnf)
  refine K_c_bind (d := 8) z _ _ _ _ D _ hz hC (fun D1 c1 c2 => ?_)
  repeat (refine hX _ _ _ _ ?_; conv => whnf)
  refine ⟨lw_v (j := 1) hN h2 rfl (by decide), ?_⟩
  repeat (refine hX _ _ _ _ ?_; conv => whnf)
  refine ⟨lw_v (j := 2) hN h2 rfl (by decide), ?_⟩
  repeat (refine hX _ _ _ _ ?_; conv => whnf)
  refine ⟨lw_v (j := 3) hN h2 rfl (by decide), ?_⟩
  repeat (refine hX _ _ _ _ ?_; conv => whnf)
  refine ⟨lw_v (j := 4) hN h2 rfl (by decide), ?_⟩
  repeat (refine hX _ _ _ _ ?_; conv => whnf)
  rw [c2 82 (by decide)]
  refine K_m_bind (d := 8) z _ _ _ _ D1 _ hz (hM.hi c2) (fun D2 m1 m2 => ?_)
  repeat (refine hX _ _ _ _ ?_; conv => whnf)
  exact ⟨fun _ => nx _ D2 (k_bind hz _ _ _ _) (c1.lo m2) m1, fun y => absurd rfl y⟩
set_option maxRecDepth 100000 in
set_option maxHeartbeats 4000000 in
theorem lw_c_cut {N i : Nat} {X : Nat → pm_L → List Value → pm_Mem → Prop} (hX : lw_H N X) (hN : i + 5 ≤ N) (h2 : N ≤ 2560) (nx : lw_N X i) {z : z_Z} {D : pm_Mem} (hz : zOk z) (hC : CR D z) (hM : MR D z) : X 492 [some (.ref 82), some (.ref 40), some (.ref 67), some (.int (nI i))] [] D := by
  replace hX : ∀ pc L st D, pm_F N (pm_D N 11) tbL_law (some .boolean) lw_po X pc L st D → X pc L st D := hX
  repeat (refine hX _ _ _ _ ?_; conv => whnf)
  refine ⟨lw_v (j := 1) hN h2 rfl (by decide), ?_⟩
  repeat (refine hX _ _ _ _ ?_; conv => whnf)
  refine K_c_cut (d := 9) z _ D _ hz hC (fun D1 c1 c2 => ?_)
  repeat (refine hX _ _ _ _ ?_; conv => whnf)
  refine ⟨lw_v (j := 1) hN h2 rfl (by decide), ?_⟩
  repeat (refine hX _ _ _ _ ?_; conv => whnf)
  rw [c2 82 (by decide)]
  refine K_m_cut (d := 9) z _ D1 _ hz (hM.hi c2) (fun D2 m1 m2 => ?_)
  repeat (refine hX _ _ _ _ ?_; conv => whnf)
  exact ⟨fun _ => nx _ D2 (k_cut hz _) (c1.lo m2) m1, fun y => absurd rfl y⟩
set_option maxRecDepth 100000 in
set_option maxHeartbeats 4000000 in
theorem lw_c_hit {N i : Nat} {X : Nat → pm_L → List Value → pm_Mem → Prop} (hX : lw_H N X) (hN : i + 5 ≤ N) (h2 : N ≤ 2560) (nx : lw_N X i) {z : z_Z} {D : pm_Mem} (hz : zOk z) (hC : CR D z) (hM : MR D z) : X 515 [some (.ref 82), some (.ref 40), some (.ref 67), some (.int (nI i))] [] D := by
  replace hX : ∀ pc L st D, pm_F N (pm_D N 11) tbL_law (some .boolean) lw_po X pc L st D → X pc L st D := hX
  repeat (refine hX _ _ _ _ ?_; conv => whnf)
  refine ⟨lw_v (j := 1) hN h2 rfl (by decide), ?_⟩
  repeat (refine hX _ _ _ _ ?_; conv => whnf)
  refine ⟨lw_v (j := 2) hN h2 rfl (by decide), ?_⟩
  repeat (refine hX _ _ _ _ ?_; conv => whnf)
  refine K_c_hit (d := 8) z _ _ D _ hz hC (fun D1 c1 c2 => ?_)
  repeat (refine hX _ _ _ _ ?_; conv => whnf)
  refine ⟨lw_v (j := 1) hN h2 rfl (by decide), ?_⟩
  repeat (refine hX _ _ _ _ ?_; conv => whnf)
  refine ⟨lw_v (j := 2) hN h2 rfl (by decide), ?_⟩
  repeat (refine hX _ _ _ _ ?_; conv => whnf)
  rw [c2 82 (by decide)]
  refine K_m_hit (d := 8) z _ _ D1 _ hz (hM.hi c2) (fun D2 m1 m2 => ?_)
  repeat (refine hX _ _ _ _ ?_; conv => whnf)
  exact ⟨fun _ => nx _ D2 (k_hit hz _ _) (c1.lo m2) m1, fun y => absurd rfl y⟩
set_option maxRecDepth 100000 in
set_option maxHeartbeats 4000000 in
theorem lw_c_add {N i : Nat} {X : Nat → pm_L → List Value → pm_Mem → Prop} (hX : lw_H N X) (hN : i + 5 ≤ N) (h2 : N ≤ 2560) (nx : lw_N X i) {z : z_Z} {D : pm_Mem} (hz : zOk z) (hC : CR D z) (hM : MR D z) : X 548 [some (.ref 82), some (.ref 40), some (.ref 67), some (.int (nI i))] [] D := by
  replace hX : ∀ pc L st D, pm_F N (pm_D N 11) tbL_law (some .boolean) lw_po X pc L st D → X pc L st D := hX
  repeat (refine hX _ _ _ _ ?_; conv => whnf)
  refine ⟨lw_v (j := 1) hN h2 rfl (by decide), ?_⟩
  repeat (refine hX _ _ _ _ ?_; conv => whnf)
  refine ⟨lw_v (j := 2) hN h2 rfl (by decide), ?_⟩
  repeat (refine hX _ _ _ _ ?_; conv => whnf)
  refine K_c_add (d := 9) z _ _ D _ hz hC (fun D1 c1 c2 => ?_)
  repeat (refine hX _ _ _ _ ?_; conv => whnf)
  refine ⟨lw_v (j := 1) hN h2 rfl (by decide), ?_⟩
  repeat (refine hX _ _ _ _ ?_; conv => whnf)
  refine ⟨lw_v (j := 2) hN h2 rfl (by decide), ?_⟩
  repeat (refine hX _ _ _ _ ?_; conv => whnf)
  rw [c2 82 (by decide)]
  refine K_m_add (d := 8) z _ _ D1 _ hz (hM.hi c2) (fun D2 m1 m2 => ?_)
  repeat (refine hX _ _ _ _ ?_; conv => whnf)
  exact ⟨fun _ => nx _ D2 (k_add hz _ _) (c1.lo m2) m1, fun y => absurd rfl y⟩
set_option maxRecDepth 100000 in
set_option maxHeartbeats 4000000 in
theorem lw_c_drop {N i : Nat} {X : Nat → pm_L → List Value → pm_Mem → Prop} (hX : lw_H N X) (hN : i + 5 ≤ N) (h2 : N ≤ 2560) (nx : lw_N X i) {z : z_Z} {D : pm_Mem} (hz : zOk z) (hC : CR D z) (hM : MR D z) : X 581 [some (.ref 82), some (.ref 40), some (.ref 67), some (.int (nI i))] [] D := by
  replace hX : ∀ pc L st D, pm_F N (pm_D N 11) tbL_law (some .boolean) lw_po X pc L st D → X pc L st D := hX
  repeat (refine hX _ _ _ _ ?_; conv => whnf)
  refine ⟨lw_v (j := 1) hN h2 rfl (by decide), ?_⟩
  repeat (refine hX _ _ _ _ ?_; conv => whnf)
  refine K_c_drop (d := 9) z _ D _ hz hC (fun D1 c1 c2 => ?_)
  repeat (refine hX _ _ _ _ ?_; conv => whnf)
  refine ⟨lw_v (j := 1) hN h2 rfl (by decide), ?_⟩
  repeat (refine hX _ _ _ _ ?_; conv => whnf)
  rw [c2 82 (by decide)]
  refine K_m_drop (d := 9) z _ D1 _ hz (hM.hi c2) (fun D2 m1 m2 => ?_)
  repeat (refine hX _ _ _ _ ?_; conv => whnf)
  exact ⟨fun _ => nx _ D2 (k_drop hz _) (c1.lo m2) m1, fun y => absurd rfl y⟩
set_option maxRecDepth 100000 in
set_option maxHeartbeats 4000000 in
theorem lw_c_calm {N i : Nat} {X : Nat → pm_L → List Value → pm_Mem → Prop} (hX : lw_H N X) (hN : i + 5 ≤ N) (h2 : N ≤ 2560) (nx : lw_N X i) {z : z_Z} {D : pm_Mem} (hz : zOk z) (hC : CR D z) (hM : MR D z) : X 604 [some (.ref 82), some (.ref 40), some (.ref 67), some (.int (nI i))] [] D := by
  replace hX : ∀ pc L st D, pm_F N (pm_D N 11) tbL_law (some .boolean) lw_po X pc L st D → X pc L st D := hX
  repeat (refine hX _ _ _ _ ?_; conv => whnf)
  refine K_c_calm (d := 9) z D _ hz hC (fun D1 c1 c2 => ?_)
  repeat (refine hX _ _ _ _ ?_; conv => whnf)
  refine K_m_calm (d := 10) z D1 _ hz (hM.hi c2) (fun D2 m1 m2 => ?_)
  repeat (refine hX _ _ _ _ ?_; conv => whnf)
  exact ⟨fun _ => nx _ D2 (k_calm hz) (c1.lo m2) m1, fun y => absurd rfl y⟩
set_option maxRecDepth 100000 in
set_option maxHeartbeats 4000000 in
theorem lw_c_ticks {N i : Nat} {X : Nat → pm_L → List Value → pm_Mem → Prop} (hX : lw_H N X) (hN : i + 5 ≤ N) (h2 : N ≤ 2560) (nx : lw_N X i) {z : z_Z} {D : pm_Mem} (hz : zOk z) (hC : CR D z) (hM : MR D z) : X 617 [some (.ref 82), some (.ref 40), some (.ref 67), some (.int (nI i))] [] D := by
  replace hX : ∀ pc L st D, pm_F N (pm_D N 11) tbL_law (some .boolean) lw_po X pc L st D → X pc L st D := hX
  repeat (refine hX _ _ _ _ ?_; conv => whnf)
  refine ⟨lw_v (j := 1) hN h2 rfl (by decide), ?_⟩
  repeat (refine hX _ _ _ _ ?_; conv => whnf)
  refine K_c_ticks (d := 5) z _ D _ hz hC (fun D1 c1 c2 => ?_)
  repeat (refine hX _ _ _ _ ?_; conv => whnf)
  refine ⟨lw_v (j := 1) hN h2 rfl (by decide), ?_⟩
  repeat (refine hX _ _ _ _ ?_; conv => whnf)
  rw [c2 82 (by decide)]
  refine K_m_ticks (d := 5) z _ D1 _ hz (hM.hi c2) (fun D2 m1 m2 => ?_)
  repeat (refine hX _ _ _ _ ?_; conv => whnf)
  exact ⟨fun _ => nx _ D2 (k_ticks hz _) (c1.lo m2) m1, fun y => absurd rfl y⟩
set_option maxRecDepth 100000 in
set_option maxHeartbeats 4000000 in
theorem lw_c_runs {N i : Nat} {X : Nat → pm_L → List Value → pm_Mem → Prop} (hX : lw_H N X) (hN : i + 5 ≤ N) (h2 : N ≤ 2560) (nx : lw_N X i) {z : z_Z} {D : pm_Mem} (hz : zOk z) (hC : CR D z) (hM : MR D z) : X 640 [some (.ref 82), some (.ref 40), some (.ref 67), some (.int (nI i))] [] D := by
  replace hX : ∀ pc L st D, pm_F N (pm_D N 11) tbL_law (some .boolean) lw_po X pc L st D → X pc L st D := hX
  repeat (refine hX _ _ _ _ ?_; conv => whnf)
  refine ⟨lw_v (j := 1) hN h2 rfl (by decide), ?_⟩
  repeat (refine hX _ _ _ _ ?_; conv => whnf)
  refine ⟨lw_v (j := 2) hN h2 rfl (by decide), ?_⟩
  repeat (refine hX _ _ _ _ ?_; conv => whnf)
  refine K_c_runs (d := 5) z _ _ D _ hz hC (fun D1 c1 c2 => ?_)
  repeat (refine hX _ _ _ _ ?_; conv => whnf)
  refine ⟨lw_v (j := 1) hN h2 rfl (by decide), ?_⟩
  repeat (refine hX _ _ _ _ ?_; conv => whnf)
  refine ⟨lw_v (j := 2) hN h2 rfl (by decide), ?_⟩
  repeat (refine hX _ _ _ _ ?_; conv => whnf)
  rw [c2 82 (by decide)]
  refine K_m_runs (d := 4) z _ _ D1 _ hz (hM.hi c2) (fun D2 m1 m2 => ?_)
  repeat (refine hX _ _ _ _ ?_; conv => whnf)
  exact ⟨fun _ => nx _ D2 hz (c1.lo m2) m1, fun y => absurd rfl y⟩
set_option maxRecDepth 100000 in
set_option maxHeartbeats 4000000 in
theorem lw_c_ahead {N i : Nat} {X : Nat → pm_L → List Value → pm_Mem → Prop} (hX : lw_H N X) (hN : i + 5 ≤ N) (h2 : N ≤ 2560) (nx : lw_N X i) {z : z_Z} {D : pm_Mem} (hz : zOk z) (hC : CR D z) (hM : MR D z) : X 673 [some (.ref 82), some (.ref 40), some (.ref 67), some (.int (nI i))] [] D := by
  replace hX : ∀ pc L st D, pm_F N (pm_D N 11) tbL_law (some .boolean) lw_po X pc L st D → X pc L st D := hX
  repeat (refine hX _ _ _ _ ?_; conv => whnf)
  refine ⟨lw_v (j := 1) hN h2 rfl (by decide), ?_⟩
  repeat (refine hX _ _ _ _ ?_; conv => whnf)
  refine ⟨lw_v (j := 2) hN h2 rfl (by decide), ?_⟩
  repeat (refine hX _ _ _ _ ?_; conv => whnf)
  refine ⟨lw_v (j := 3) hN h2 rfl (by decide), ?_⟩
  repeat (refine hX _ _ _ _ ?_; conv => whnf)
  refine K_c_ahead (d := 5) z _ _ _ D _ hz hC (fun D1 c1 c2 => ?_)
  repeat (refine hX _ _ _ _ ?_; conv => whnf)
  refine ⟨lw_v (j := 1) hN h2 rfl (by decide), ?_⟩
  repeat (refine hX _ _ _ _ ?_; conv => whnf)
  refine ⟨lw_v (j := 2) hN h2 rfl (by decide), ?_⟩
  repeat (refine hX _ _ _ _ ?_; conv => whnf)
  refine ⟨lw_v (j := 3) hN h2 rfl (by decide), ?_⟩
  repeat (refine hX _ _ _ _ ?_; conv => whnf)
  rw [c2 82 (by decide)]
  refine K_m_ahead (d := 4) z _ _ _ D1 _ hz (hM.hi c2) (fun D2 m1 m2 => ?_)
  repeat (refine hX _ _ _ _ ?_; conv => whnf)
  exact ⟨fun _ => nx _ D2 hz (c1.lo m2) m1, fun y => absurd rfl y⟩
set_option maxRecDepth 100000 in
set_option maxHeartbeats 4000000 in
theorem lw_c_when {N i : Nat} {X : Nat → pm_L → List Value → pm_Mem → Prop} (hX : lw_H N X) (hN : i + 5 ≤ N) (h2 : N ≤ 2560) (nx : lw_N X i) {z : z_Z} {D : pm_Mem} (hz : zOk z) (hC : CR D z) (hM : MR D z) : X 716 [some (.ref 82), some (.ref 40), some (.ref 67), some (.int (nI i))] [] D := by
  replace hX : ∀ pc L st D, pm_F N (pm_D N 11) tbL_law (some .boolean) lw_po X pc L st D → X pc L st D := hX
  repeat (refine hX _ _ _ _ ?_; conv => whnf)
  refine ⟨lw_v (j := 1) hN h2 rfl (by decide), ?_⟩
  repeat (refine hX _ _ _ _ ?_; conv => whnf)
  refine ⟨lw_v (j := 2) hN h2 rfl (by decide), ?_⟩
  repeat (refine hX _ _ _ _ ?_; conv => whnf)
  refine K_c_when (d := 6) z _ _ D _ hz hC (fun D1 c1 c2 => ?_)
  repeat (refine hX _ _ _ _ ?_; conv => whnf)
  refine ⟨lw_v (j := 1) hN h2 rfl (by decide), ?_⟩
  repeat (refine hX _ _ _ _ ?_; conv => whnf)
  refine ⟨lw_v (j := 2) hN h2 rfl (by decide), ?_⟩
  repeat (refine hX _ _ _ _ ?_; conv => whnf)
  rw [c2 82 (by decide)]
  refine K_m_when (d := 5) z _ _ D1 _ hz (hM.hi c2) (fun D2 m1 m2 => ?_)
  repeat (refine hX _ _ _ _ ?_; conv => whnf)
  exact ⟨fun _ => nx _ D2 hz (c1.lo m2) m1, fun y => absurd rfl y⟩
set_option maxRecDepth 100000 in
set_option maxHeartbeats 4000000 in
theorem lw_c_rests {N i : Nat} {X : Nat → pm_L → List Value → pm_Mem → Prop} (hX : lw_H N X) (hN : i + 5 ≤ N) (h2 : N ≤ 2560) (nx : lw_N X i) {z : z_Z} {D : pm_Mem} (hz : zOk z) (hC : CR D z) (hM : MR D z) : X 749 [some (.ref 82), some (.ref 40), some (.ref 67), some (.int (nI i))] [] D := by
  replace hX : ∀ pc L st D, pm_F N (pm_D N 11) tbL_law (some .boolean) lw_po X pc L st D → X pc L st D := hX
  repeat (refine hX _ _ _ _ ?_; conv => whnf)
  refine K_c_rests (d := 7) z D _ hz hC (fun D1 c1 c2 => ?_)
  repeat (refine hX _ _ _ _ ?_; conv => whnf)
  refine K_m_rests (d := 6) z D1 _ hz (hM.hi c2) (fun D2 m1 m2 => ?_)
  repeat (refine hX _ _ _ _ ?_; conv => whnf)
  exact ⟨fun _ => nx _ D2 hz (c1.lo m2) m1, fun y => absurd rfl y⟩
set_option maxRecDepth 100000 in
set_option maxHeartbeats 4000000 in
theorem lw_c_stiff {N i : Nat} {X : Nat → pm_L → List Value → pm_Mem → Prop} (hX : lw_H N X) (hN : i + 5 ≤ N) (h2 : N ≤ 2560) (nx : lw_N X i) {z : z_Z} {D : pm_Mem} (hz : zOk z) (hC : CR D z) (hM : MR D z) : X 762 [some (.ref 82), some (.ref 40), some (.ref 67), some (.int (nI i))] [] D := by
  replace hX : ∀ pc L st D, pm_F N (pm_D N 11) tbL_law (some .boolean) lw_po X pc L st D → X pc L st D := hX
  repeat (refine hX _ _ _ _ ?_; conv => whnf)
  refine ⟨lw_v (j := 1) hN h2 rfl (by decide), ?_⟩
  repeat (refine hX _ _ _ _ ?_; conv => whnf)
  refine ⟨lw_v (j := 2) hN h2 rfl (by decide), ?_⟩
  repeat (refine hX _ _ _ _ ?_; conv => whnf)
  refine ⟨lw_v (j := 3) hN h2 rfl (by decide), ?_⟩
  repeat (refine hX _ _ _ _ ?_; conv => whnf)
  refine K_c_stiff (d := 4) z _ _ _ D _ hz hC (fun D1 c1 c2 => ?_)
  repeat (refine hX _ _ _ _ ?_; conv => whnf)
  refine ⟨lw_v (j := 1) hN h2 rfl (by decide), ?_⟩
  repeat (refine hX _ _ _ _ ?_; conv => whnf)
  refine ⟨lw_v (j := 2) hN h2 rfl (by decide), ?_⟩
  repeat (refine hX _ _ _ _ ?_; conv => whnf)
  refine ⟨lw_v (j := 3) hN h2 rfl (by decide), ?_⟩
  repeat (refine hX _ _ _ _ ?_; conv => whnf)
  rw [c2 82 (by decide)]
  refine K_m_stiff (d := 3) z _ _ _ D1 _ hz (hM.hi c2) (fun D2 m1 m2 => ?_)
  repeat (refine hX _ _ _ _ ?_; conv => whnf)
  exact ⟨fun _ => nx _ D2 hz (c1.lo m2) m1, fun y => absurd rfl y⟩
set_option maxRecDepth 100000 in
set_option maxHeartbeats 4000000 in
theorem lw_c_rest {N i : Nat} {X : Nat → pm_L → List Value → pm_Mem → Prop} (hX : lw_H N X) (hN : i + 5 ≤ N) (h2 : N ≤ 2560) (nx : lw_N X i) {z : z_Z} {D : pm_Mem} (hz : zOk z) (hC : CR D z) (hM : MR D z) : X 805 [some (.ref 82), some (.ref 40), some (.ref 67), some (.int (nI i))] [] D := by
  replace hX : ∀ pc L st D, pm_F N (pm_D N 11) tbL_law (some .boolean) lw_po X pc L st D → X pc L st D := hX
  repeat (refine hX _ _ _ _ ?_; conv => whnf)
  refine ⟨lw_v (j := 1) hN h2 rfl (by decide), ?_⟩
  repeat (refine hX _ _ _ _ ?_; conv => whnf)
  refine ⟨lw_v (j := 2) hN h2 rfl (by decide), ?_⟩
  repeat (refine hX _ _ _ _ ?_; conv => whnf)
  refine ⟨lw_v (j := 3) hN h2 rfl (by decide), ?_⟩
  repeat (refine hX _ _ _ _ ?_; conv => whnf)
  refine K_c_rest (d := 4) z _ _ _ D _ hz hC (fun D1 c1 c2 => ?_)
  repeat (refine hX _ _ _ _ ?_; conv => whnf)
  refine ⟨lw_v (j := 1) hN h2 rfl (by decide), ?_⟩
  repeat (refine hX _ _ _ _ ?_; conv => whnf)
  refine ⟨lw_v (j := 2) hN h2 rfl (by decide), ?_⟩
  repeat (refine hX _ _ _ _ ?_; conv => whnf)
  refine ⟨lw_v (j := 3) hN h2 rfl (by decide), ?_⟩
  repeat (refine hX _ _ _ _ ?_; conv => whnf)
  rw [c2 82 (by decide)]
  refine K_m_rest (d := 3) z _ _ _ D1 _ hz (hM.hi c2) (fun D2 m1 m2 => ?_)
  repeat (refine hX _ _ _ _ ?_; conv => whnf)
  exact ⟨fun _ => nx _ D2 hz (c1.lo m2) m1, fun y => absurd rfl y⟩
set_option maxRecDepth 100000 in
set_option maxHeartbeats 4000000 in
theorem lw_c_kind {N i : Nat} {X : Nat → pm_L → List Value → pm_Mem → Prop} (hX : lw_H N X) (hN : i + 5 ≤ N) (h2 : N ≤ 2560) (nx : lw_N X i) {z : z_Z} {D : pm_Mem} (hz : zOk z) (hC : CR D z) (hM : MR D z) : X 848 [some (.ref 82), some (.ref 40), some (.ref 67), some (.int (nI i))] [] D := by
  replace hX : ∀ pc L st D, pm_F N (pm_D N 11) tbL_law (some .boolean) lw_po X pc L st D → X pc L st D := hX
  repeat (refine hX _ _ _ _ ?_; conv => whnf)
  refine ⟨lw_v (j := 1) hN h2 rfl (by decide), ?_⟩
  repeat (refine hX _ _ _ _ ?_; conv => whnf)
  refine ⟨lw_v (j := 2) hN h2 rfl (by decide), ?_⟩
  repeat (refine hX _ _ _ _ ?_; conv => whnf)
  refine ⟨lw_v (j := 3) hN h2 rfl (by decide), ?_⟩
  repeat (refine hX _ _ _ _ ?_; conv => whnf)
  refine K_c_kind (d := 4) z _ _ _ D _ hz hC (fun D1 c1 c2 => ?_)
  repeat (refine hX _ _ _ _ ?_; conv => whnf)
  refine ⟨lw_v (j := 1) hN h2 rfl (by decide), ?_⟩
  repeat (refine hX _ _ _ _ ?_; conv => whnf)
  refine ⟨lw_v (j := 2) hN h2 rfl (by decide), ?_⟩
  repeat (refine hX _ _ _ _ ?_; conv => whnf)
  refine ⟨lw_v (j := 3) hN h2 rfl (by decide), ?_⟩
  repeat (refine hX _ _ _ _ ?_; conv => whnf)
  rw [c2 82 (by decide)]
  refine K_m_kind (d := 3) z _ _ _ D1 _ hz (hM.hi c2) (fun D2 m1 m2 => ?_)
  repeat (refine hX _ _ _ _ ?_; conv => whnf)
  exact ⟨fun _ => nx _ D2 hz (c1.lo m2) m1, fun y => absurd rfl y⟩
set_option maxRecDepth 100000 in
set_option maxHeartbeats 4000000 in
theorem lw_c_mass {N i : Nat} {X : Nat → pm_L → List Value → pm_Mem → Prop} (hX : lw_H N X) (hN : i + 5 ≤ N) (h2 : N ≤ 2560) (nx : lw_N X i) {z : z_Z} {D : pm_Mem} (hz : zOk z) (hC : CR D z) (hM : MR D z) : X 891 [some (.ref 82), some (.ref 40), some (.ref 67), some (.int (nI i))] [] D := by
  replace hX : ∀ pc L st D, pm_F N (pm_D N 11) tbL_law (some .boolean) lw_po X pc L st D → X pc L st D := hX
  repeat (refine hX _ _ _ _ ?_; conv => whnf)
  refine ⟨lw_v (j := 1) hN h2 rfl (by decide), ?_⟩
  repeat (refine hX _ _ _ _ ?_; conv => whnf)
  refine ⟨lw_v (j := 2) hN h2 rfl (by decide), ?_⟩
  repeat (refine hX _ _ _ _ ?_; conv => whnf)
  refine ⟨lw_v (j := 3) hN h2 rfl (by decide), ?_⟩
  repeat (refine hX _ _ _ _ ?_; conv => whnf)
  refine K_c_mass (d := 4) z _ _ _ D _ hz hC (fun D1 c1 c2 => ?_)
  repeat (refine hX _ _ _ _ ?_; conv => whnf)
  refine ⟨lw_v (j := 1) hN h2 rfl (by decide), ?_⟩
  repeat (refine hX _ _ _ _ ?_; conv => whnf)
  refine ⟨lw_v (j := 2) hN h2 rfl (by decide), ?_⟩
  repeat (refine hX _ _ _ _ ?_; conv => whnf)
  refine ⟨lw_v (j := 3) hN h2 rfl (by decide), ?_⟩
  repeat (refine hX _ _ _ _ ?_; conv => whnf)
  rw [c2 82 (by decide)]
  refine K_m_mass (d := 3) z _ _ _ D1 _ hz (hM.hi c2) (fun D2 m1 m2 => ?_)
  repeat (refine hX _ _ _ _ ?_; conv => whnf)
  exact ⟨fun _ => nx _ D2 hz (c1.lo m2) m1, fun y => absurd rfl y⟩
set_option maxRecDepth 100000 in
set_option maxHeartbeats 4000000 in
theorem lw_c_swap {N i : Nat} {X : Nat → pm_L → List Value → pm_Mem → Prop} (hX : lw_H N X) (hN : i + 5 ≤ N) (h2 : N ≤ 2560) (nx : lw_N X i) {z : z_Z} {D : pm_Mem} (hz : zOk z) (hC : CR D z) (hM : MR D z) : X 934 [some (.ref 82), some (.ref 40), some (.ref 67), some (.int (nI i))] [] D := by
  replace hX : ∀ pc L st D, pm_F N (pm_D N 11) tbL_law (some .boolean) lw_po X pc L st D → X pc L st D := hX
  repeat (refine hX _ _ _ _ ?_; conv => whnf)
  refine ⟨lw_v (j := 1) hN h2 rfl (by decide), ?_⟩
  repeat (refine hX _ _ _ _ ?_; conv => whnf)
  refine ⟨lw_v (j := 2) hN h2 rfl (by decide), ?_⟩
  repeat (refine hX _ _ _ _ ?_; conv => whnf)
  refine K_c_swap (d := 4) z _ _ D _ hz hC (fun D1 c1 c2 => ?_)
  repeat (refine hX _ _ _ _ ?_; conv => whnf)
  refine ⟨lw_v (j := 1) hN h2 rfl (by decide), ?_⟩
  repeat (refine hX _ _ _ _ ?_; conv => whnf)
  refine ⟨lw_v (j := 2) hN h2 rfl (by decide), ?_⟩
  repeat (refine hX _ _ _ _ ?_; conv => whnf)
  rw [c2 82 (by decide)]
  refine K_m_swap (d := 4) z _ _ D1 _ hz (hM.hi c2) (fun D2 m1 m2 => ?_)
  repeat (refine hX _ _ _ _ ?_; conv => whnf)
  exact ⟨fun _ => nx _ D2 hz (c1.lo m2) m1, fun y => absurd rfl y⟩
set_option maxRecDepth 100000 in
set_option maxHeartbeats 4000000 in
theorem lw_c_miss {N i : Nat} {X : Nat → pm_L → List Value → pm_Mem → Prop} (hX : lw_H N X) (hN : i + 5 ≤ N) (h2 : N ≤ 2560) (nx : lw_N X i) {z : z_Z} {D : pm_Mem} (hz : zOk z) (hC : CR D z) (hM : MR D z) : X 967 [some (.ref 82), some (.ref 40), some (.ref 67), some (.int (nI i))] [] D := by
  replace hX : ∀ pc L st D, pm_F N (pm_D N 11) tbL_law (some .boolean) lw_po X pc L st D → X pc L st D := hX
  repeat (refine hX _ _ _ _ ?_; conv => whnf)
  refine ⟨lw_v (j := 1) hN h2 rfl (by decide), ?_⟩
  repeat (refine hX _ _ _ _ ?_; conv => whnf)
  refine ⟨lw_v (j := 2) hN h2 rfl (by decide), ?_⟩
  repeat (refine hX _ _ _ _ ?_; conv => whnf)
  refine K_c_miss (d := 4) z _ _ D _ hz hC (fun D1 c1 c2 => ?_)
  repeat (refine hX _ _ _ _ ?_; conv => whnf)
  refine ⟨lw_v (j := 1) hN h2 rfl (by decide), ?_⟩
  repeat (refine hX _ _ _ _ ?_; conv => whnf)
  refine ⟨lw_v (j := 2) hN h2 rfl (by decide), ?_⟩
  repeat (refine hX _ _ _ _ ?_; conv => whnf)
  rw [c2 82 (by decide)]
  refine K_m_miss (d := 4) z _ _ D1 _ hz (hM.hi c2) (fun D2 m1 m2 => ?_)
  repeat (refine hX _ _ _ _ ?_; conv => whnf)
  exact ⟨fun _ => nx _ D2 hz (c1.lo m2) m1, fun y => absurd rfl y⟩
set_option maxRecDepth 100000 in
set_option maxHeartbeats 4000000 in
theorem lw_c_luck {N i : Nat} {X : Nat → pm_L → List Value → pm_Mem → Prop} (hX : lw_H N X) (hN : i + 5 ≤ N) (h2 : N ≤ 2560) (nx : lw_N X i) {z : z_Z} {D : pm_Mem} (hz : zOk z) (hC : CR D z) (hM : MR D z) : X 1000 [some (.ref 82), some (.ref 40), some (.ref 67), some (.int (nI i))] [] D := by
  replace hX : ∀ pc L st D, pm_F N (pm_D N 11) tbL_law (some .boolean) lw_po X pc L st D → X pc L st D := hX
  repeat (refine hX _ _ _ _ ?_; conv => whnf)
  refine ⟨lw_v (j := 1) hN h2 rfl (by decide), ?_⟩
  repeat (refine hX _ _ _ _ ?_; conv => whnf)
  refine ⟨lw_v (j := 2) hN h2 rfl (by decide), ?_⟩
  repeat (refine hX _ _ _ _ ?_; conv => whnf)
  refine ⟨lw_v (j := 3) hN h2 rfl (by decide), ?_⟩
  repeat (refine hX _ _ _ _ ?_; conv => whnf)
  refine ⟨lw_v (j := 4) hN h2 rfl (by decide), ?_⟩
  repeat (refine hX _ _ _ _ ?_; conv => whnf)
  refine K_c_luck (d := 6) z _ _ _ _ D _ hz hC (fun D1 c1 c2 => ?_)
  repeat (refine hX _ _ _ _ ?_; conv => whnf)
  refine ⟨lw_v (j := 1) hN h2 rfl (by decide), ?_⟩
  repeat (refine hX _ _ _ _ ?_; conv => whnf)
  refine ⟨lw_v (j := 2) hN h2 rfl (by decide), ?_⟩
  repeat (refine hX _ _ _ _ ?_; conv => whnf)
  refine ⟨lw_v (j := 3) hN h2 rfl (by decide), ?_⟩
  repeat (refine hX _ _ _ _ ?_; conv => whnf)
  refine ⟨lw_v (j := 4) hN h2 rfl (by decide), ?_⟩
  repeat (refine hX _ _ _ _ ?_; conv => whnf)
  rw [c2 82 (by decide)]
  refine K_m_luck (d := 4) z _ _ _ _ D1 _ hz (hM.hi c2) (fun D2 m1 m2 => ?_)
  repeat (refine hX _ _ _ _ ?_; conv => whnf)
  exact ⟨fun _ => nx _ D2 hz (c1.lo m2) m1, fun y => absurd ((lc_eq _ _).mpr rfl) y⟩
set_option maxRecDepth 100000 in
set_option maxHeartbeats 4000000 in
theorem lw_c_mean {N i : Nat} {X : Nat → pm_L → List Value → pm_Mem → Prop} (hX : lw_H N X) (hN : i + 5 ≤ N) (h2 : N ≤ 2560) (nx : lw_N X i) {z : z_Z} {D : pm_Mem} (hz : zOk z) (hC : CR D z) (hM : MR D z) : X 1054 [some (.ref 82), some (.ref 40), some (.ref 67), some (.int (nI i))] [] D := by
  replace hX : ∀ pc L st D, pm_F N (pm_D N 11) tbL_law (some .boolean) lw_po X pc L st D → X pc L st D := hX
  repeat (refine hX _ _ _ _ ?_; conv => whnf)
  refine ⟨lw_v (j := 1) hN h2 rfl (by decide), ?_⟩
  repeat (refine hX _ _ _ _ ?_; conv => whnf)
  refine ⟨lw_v (j := 2) hN h2 rfl (by decide), ?_⟩
  repeat (refine hX _ _ _ _ ?_; conv => whnf)
  refine ⟨lw_v (j := 3) hN h2 rfl (by decide), ?_⟩
  repeat (refine hX _ _ _ _ ?_; conv => whnf)
  refine K_c_mean (d := 6) z _ _ _ D _ hz hC (fun D1 c1 c2 => ?_)
  repeat (refine hX _ _ _ _ ?_; conv => whnf)
  refine ⟨lw_v (j := 1) hN h2 rfl (by decide), ?_⟩
  repeat (refine hX _ _ _ _ ?_; conv => whnf)
  refine ⟨lw_v (j := 2) hN h2 rfl (by decide), ?_⟩
  repeat (refine hX _ _ _ _ ?_; conv => whnf)
  refine ⟨lw_v (j := 3) hN h2 rfl (by decide), ?_⟩
  repeat (refine hX _ _ _ _ ?_; conv => whnf)
  rw [c2 82 (by decide)]
  refine K_m_mean (d := 4) z _ _ _ D1 _ hz (hM.hi c2) (fun D2 m1 m2 => ?_)
  repeat (refine hX _ _ _ _ ?_; conv => whnf)
  exact ⟨fun _ => nx _ D2 hz (c1.lo m2) m1, fun y => absurd ((lc_eq _ _).mpr rfl) y⟩
set_option maxRecDepth 100000 in
set_option maxHeartbeats 4000000 in
theorem lw_c_see {N i : Nat} {X : Nat → pm_L → List Value → pm_Mem → Prop} (hX : lw_H N X) (hN : i + 5 ≤ N) (h2 : N ≤ 2560) (nx : lw_N X i) {z : z_Z} {D : pm_Mem} (hz : zOk z) (hC : CR D z) (hM : MR D z) : X 1098 [some (.ref 82), some (.ref 40), some (.ref 67), some (.int (nI i))] [] D := by
  replace hX : ∀ pc L st D, pm_F N (pm_D N 11) tbL_law (some .boolean) lw_po X pc L st D → X pc L st D := hX
  repeat (refine hX _ _ _ _ ?_; conv => whnf)
  refine ⟨lw_v (j := 1) hN h2 rfl (by decide), ?_⟩
  repeat (refine hX _ _ _ _ ?_; conv => whnf)
  refine ⟨lw_v (j := 2) hN h2 rfl (by decide), ?_⟩
  repeat (refine hX _ _ _ _ ?_; conv => whnf)
  refine ⟨lw_v (j := 3) hN h2 rfl (by decide), ?_⟩
  repeat (refine hX _ _ _ _ ?_; conv => whnf)
  refine K_c_see (d := 9) z _ _ _ D _ hz hC (fun D1 c1 c2 => ?_)
  repeat (refine hX _ _ _ _ ?_; conv => whnf)
  refine ⟨lw_v (j := 1) hN h2 rfl (by decide), ?_⟩
  repeat (refine hX _ _ _ _ ?_; conv => whnf)
  refine ⟨lw_v (j := 2) hN h2 rfl (by decide), ?_⟩
  repeat (refine hX _ _ _ _ ?_; conv => whnf)
  refine ⟨lw_v (j := 3) hN h2 rfl (by decide), ?_⟩
  repeat (refine hX _ _ _ _ ?_; conv => whnf)
  rw [c2 82 (by decide)]
  refine K_m_see (d := 8) z _ _ _ D1 _ hz (hM.hi c2) (fun D2 m1 m2 => ?_)
  repeat (refine hX _ _ _ _ ?_; conv => whnf)
  exact ⟨fun _ => nx _ D2 (k_see hz _ _ _) (c1.lo m2) m1, fun y => absurd rfl y⟩
set_option maxRecDepth 100000 in
set_option maxHeartbeats 4000000 in
theorem lw_c_forget {N i : Nat} {X : Nat → pm_L → List Value → pm_Mem → Prop} (hX : lw_H N X) (hN : i + 5 ≤ N) (h2 : N ≤ 2560) (nx : lw_N X i) {z : z_Z} {D : pm_Mem} (hz : zOk z) (hC : CR D z) (hM : MR D z) : X 1141 [some (.ref 82), some (.ref 40), some (.ref 67), some (.int (nI i))] [] D := by
  replace hX : ∀ pc L st D, pm_F N (pm_D N 11) tbL_law (some .boolean) lw_po X pc L st D → X pc L st D := hX
  repeat (refine hX _ _ _ _ ?_; conv => whnf)
  refine ⟨lw_v (j := 1) hN h2 rfl (by decide), ?_⟩
  repeat (refine hX _ _ _ _ ?_; conv => whnf)
  refine K_c_forget (d := 9) z _ D _ hz hC (fun D1 c1 c2 => ?_)
  repeat (refine hX _ _ _ _ ?_; conv => whnf)
  refine ⟨lw_v (j := 1) hN h2 rfl (by decide), ?_⟩
  repeat (refine hX _ _ _ _ ?_; conv => whnf)
  rw [c2 82 (by decide)]
  refine K_m_forget (d := 9) z _ D1 _ hz (hM.hi c2) (fun D2 m1 m2 => ?_)
  repeat (refine hX _ _ _ _ ?_; conv => whnf)
  exact ⟨fun _ => nx _ D2 (k_forget hz _) (c1.lo m2) m1, fun y => absurd rfl y⟩
set_option maxRecDepth 100000 in
set_option maxHeartbeats 4000000 in
theorem lw_c_kinds {N i : Nat} {X : Nat → pm_L → List Value → pm_Mem → Prop} (hX : lw_H N X) (hN : i + 5 ≤ N) (h2 : N ≤ 2560) (nx : lw_N X i) {z : z_Z} {D : pm_Mem} (hz : zOk z) (hC : CR D z) (hM : MR D z) : X 1164 [some (.ref 82), some (.ref 40), some (.ref 67), some (.int (nI i))] [] D := by
  replace hX : ∀ pc L st D, pm_F N (pm_D N 11) tbL_law (some .boolean) lw_po X pc L st D → X pc L st D := hX
  repeat (refine hX _ _ _ _ ?_; conv => whnf)
  refine ⟨lw_v (j := 1) hN h2 rfl (by decide), ?_⟩
  repeat (refine hX _ _ _ _ ?_; conv => whnf)
  refine K_c_kinds (d := 4) z _ D _ hz hC (fun D1 c1 c2 => ?_)
  repeat (refine hX _ _ _ _ ?_; conv => whnf)
  refine ⟨lw_v (j := 1) hN h2 rfl (by decide), ?_⟩
  repeat (refine hX _ _ _ _ ?_; conv => whnf)
  rw [c2 82 (by decide)]
  refine K_m_kinds (d := 3) z _ D1 _ hz (hM.hi c2) (fun D2 m1 m2 => ?_)
  repeat (refine hX _ _ _ _ ?_; conv => whnf)
  exact ⟨fun _ => nx _ D2 hz (c1.lo m2) m1, fun y => absurd rfl y⟩
set_option maxRecDepth 100000 in
set_option maxHeartbeats 4000000 in
theorem lw_c_stiffs {N i : Nat} {X : Nat → pm_L → List Value → pm_Mem → Prop} (hX : lw_H N X) (hN : i + 5 ≤ N) (h2 : N ≤ 2560) (nx : lw_N X i) {z : z_Z} {D : pm_Mem} (hz : zOk z) (hC : CR D z) (hM : MR D z) : X 1187 [some (.ref 82), some (.ref 40), some (.ref 67), some (.int (nI i))] [] D := by
  replace hX : ∀ pc L st D, pm_F N (pm_D N 11) tbL_law (some .boolean) lw_po X pc L st D → X pc L st D := hX
  repeat (refine hX _ _ _ _ ?_; conv => whnf)
  refine ⟨lw_v (j := 1) hN h2 rfl (by decide), ?_⟩
  repeat (refine hX _ _ _ _ ?_; conv => whnf)
  refine K_c_stiffs (d := 4) z _ D _ hz hC (fun D1 c1 c2 => ?_)
  repeat (refine hX _ _ _ _ ?_; conv => whnf)
  refine ⟨lw_v (j := 1) hN h2 rfl (by decide), ?_⟩
  repeat (refine hX _ _ _ _ ?_; conv => whnf)
  rw [c2 82 (by decide)]
  refine K_m_stiffs (d := 3) z _ D1 _ hz (hM.hi c2) (fun D2 m1 m2 => ?_)
  repeat (refine hX _ _ _ _ ?_; conv => whnf)
  exact ⟨fun _ => nx _ D2 hz (c1.lo m2) m1, fun y => absurd rfl y⟩
set_option maxRecDepth 100000 in
set_option maxHeartbeats 4000000 in
theorem lw_c_ask {N i : Nat} {X : Nat → pm_L → List Value → pm_Mem → Prop} (hX : lw_H N X) (hN : i + 5 ≤ N) (h2 : N ≤ 2560) (nx : lw_N X i) {z : z_Z} {D : pm_Mem} (hz : zOk z) (hC : CR D z) (hM : MR D z) : X 1210 [some (.ref 82), some (.ref 40), some (.ref 67), some (.int (nI i))] [] D := by
  replace hX : ∀ pc L st D, pm_F N (pm_D N 11) tbL_law (some .boolean) lw_po X pc L st D → X pc L st D := hX
  repeat (refine hX _ _ _ _ ?_; conv => whnf)
  refine ⟨lw_v (j := 1) hN h2 rfl (by decide), ?_⟩
  repeat (refine hX _ _ _ _ ?_; conv => whnf)
  refine ⟨lw_v (j := 2) hN h2 rfl (by decide), ?_⟩
  repeat (refine hX _ _ _ _ ?_; conv => whnf)
  refine K_c_ask (d := 4) z _ _ D _ hz hC (fun D1 c1 c2 => ?_)
  repeat (refine hX _ _ _ _ ?_; conv => whnf)
  refine ⟨lw_v (j := 1) hN h2 rfl (by decide), ?_⟩
  repeat (refine hX _ _ _ _ ?_; conv => whnf)
  refine ⟨lw_v (j := 2) hN h2 rfl (by decide), ?_⟩
  repeat (refine hX _ _ _ _ ?_; conv => whnf)
  rw [c2 82 (by decide)]
  refine K_m_ask (d := 3) z _ _ D1 _ hz (hM.hi c2) (fun D2 m1 m2 => ?_)
  repeat (refine hX _ _ _ _ ?_; conv => whnf)
  exact ⟨fun _ => nx _ D2 hz (c1.lo m2) m1, fun y => absurd rfl y⟩
set_option maxRecDepth 100000 in
set_option maxHeartbeats 4000000 in
theorem lw_c_drift {N i : Nat} {X : Nat → pm_L → List Value → pm_Mem → Prop} (hX : lw_H N X) (hN : i + 5 ≤ N) (h2 : N ≤ 2560) (nx : lw_N X i) {z : z_Z} {D : pm_Mem} (hz : zOk z) (hC : CR D z) (hM : MR D z) : X 1243 [some (.ref 82), some (.ref 40), some (.ref 67), some (.int (nI i))] [] D := by
  replace hX : ∀ pc L st D, pm_F N (pm_D N 11) tbL_law (some .boolean) lw_po X pc L st D → X pc L st D := hX
  repeat (refine hX _ _ _ _ ?_; conv => whnf)
  refine ⟨lw_v (j := 1) hN h2 rfl (by decide), ?_⟩
  repeat (refine hX _ _ _ _ ?_; conv => whnf)
  refine ⟨lw_v (j := 2) hN h2 rfl (by decide), ?_⟩
  repeat (refine hX _ _ _ _ ?_; conv => whnf)
  refine ⟨lw_v (j := 3) hN h2 rfl (by decide), ?_⟩
  repeat (refine hX _ _ _ _ ?_; conv => whnf)
  refine K_c_drift (d := 7) z _ _ _ D _ hz hC (fun D1 c1 c2 => ?_)
  repeat (refine hX _ _ _ _ ?_; conv => whnf)
  refine ⟨lw_v (j := 1) hN h2 rfl (by decide), ?_⟩
  repeat (refine hX _ _ _ _ ?_; conv => whnf)
  refine ⟨lw_v (j := 2) hN h2 rfl (by decide), ?_⟩
  repeat (refine hX _ _ _ _ ?_; conv => whnf)
  refine ⟨lw_v (j := 3) hN h2 rfl (by decide), ?_⟩
  repeat (refine hX _ _ _ _ ?_; conv => whnf)
  rw [c2 82 (by decide)]
  refine K_m_drift (d := 6) z _ _ _ D1 _ hz (hM.hi c2) (fun D2 m1 m2 => ?_)
  repeat (refine hX _ _ _ _ ?_; conv => whnf)
  exact ⟨fun _ => nx _ D2 hz (c1.lo m2) m1, fun y => absurd rfl y⟩
set_option maxRecDepth 100000 in
set_option maxHeartbeats 4000000 in
theorem lw_c_keep {N i : Nat} {X : Nat → pm_L → List Value → pm_Mem → Prop} (hX : lw_H N X) (hN : i + 5 ≤ N) (h2 : N ≤ 2560) (nx : lw_N X i) {z : z_Z} {D : pm_Mem} (hz : zOk z) (hC : CR D z) (hM : MR D z) : X 1286 [some (.ref 82), some (.ref 40), some (.ref 67), some (.int (nI i))] [] D := by
  replace hX : ∀ pc L st D, pm_F N (pm_D N 11) tbL_law (some .boolean) lw_po X pc L st D → X pc L st D := hX
  repeat (refine hX _ _ _ _ ?_; conv => whnf)
  refine ⟨lw_v (j := 1) hN h2 rfl (by decide), ?_⟩
  repeat (refine hX _ _ _ _ ?_; conv => whnf)
  refine K_c_keep (d := 9) z _ D _ hz hC (fun D1 c1 c2 => ?_)
  repeat (refine hX _ _ _ _ ?_; conv => whnf)
  refine ⟨lw_v (j := 1) hN h2 rfl (by decide), ?_⟩
  repeat (refine hX _ _ _ _ ?_; conv => whnf)
  rw [c2 82 (by decide)]
  refine K_m_keep (d := 9) z _ D1 _ hz (hM.hi c2) (fun D2 m1 m2 => ?_)
  repeat (refine hX _ _ _ _ ?_; conv => whnf)
  exact ⟨fun _ => nx _ D2 (k_keep hz _) (c1.lo m2) m1, fun y => absurd rfl y⟩
set_option maxRecDepth 100000 in
set_option maxHeartbeats 4000000 in
theorem lw_c_back {N i : Nat} {X : Nat → pm_L → List Value → pm_Mem → Prop} (hX : lw_H N X) (hN : i + 5 ≤ N) (h2 : N ≤ 2560) (nx : lw_N X i) {z : z_Z} {D : pm_Mem} (hz : zOk z) (hC : CR D z) (hM : MR D z) : X 1309 [some (.ref 82), some (.ref 40), some (.ref 67), some (.int (nI i))] [] D := by
  replace hX : ∀ pc L st D, pm_F N (pm_D N 11) tbL_law (some .boolean) lw_po X pc L st D → X pc L st D := hX
  repeat (refine hX _ _ _ _ ?_; conv => whnf)
  refine ⟨lw_v (j := 1) hN h2 rfl (by decide), ?_⟩
  repeat (refine hX _ _ _ _ ?_; conv => whnf)
  refine K_c_back (d := 9) z _ D _ hz hC (fun D1 c1 c2 => ?_)
  repeat (refine hX _ _ _ _ ?_; conv => whnf)
  refine ⟨lw_v (j := 1) hN h2 rfl (by decide), ?_⟩
  repeat (refine hX _ _ _ _ ?_; conv => whnf)
  rw [c2 82 (by decide)]
  refine K_m_back (d := 9) z _ D1 _ hz (hM.hi c2) (fun D2 m1 m2 => ?_)
  repeat (refine hX _ _ _ _ ?_; conv => whnf)
  exact ⟨fun _ => nx _ D2 (k_back hz _) (c1.lo m2) m1, fun y => absurd rfl y⟩
set_option maxRecDepth 100000 in
set_option maxHeartbeats 4000000 in
theorem lw_c_sheet {N i : Nat} {X : Nat → pm_L → List Value → pm_Mem → Prop} (hX : lw_H N X) (hN : i + 5 ≤ N) (h2 : N ≤ 2560) (nx : lw_N X i) {z : z_Z} {D : pm_Mem} (hz : zOk z) (hC : CR D z) (hM : MR D z) : X 1332 [some (.ref 82), some (.ref 40), some (.ref 67), some (.int (nI i))] [] D := by
  replace hX : ∀ pc L st D, pm_F N (pm_D N 11) tbL_law (some .boolean) lw_po X pc L st D → X pc L st D := hX
  repeat (refine hX _ _ _ _ ?_; conv => whnf)
  refine ⟨lw_v (j := 1) hN h2 rfl (by decide), ?_⟩
  repeat (refine hX _ _ _ _ ?_; conv => whnf)
  refine ⟨lw_v (j := 2) hN h2 rfl (by decide), ?_⟩
  repeat (refine hX _ _ _ _ ?_; conv => whnf)
  refine ⟨lw_v (j := 3) hN h2 rfl (by decide), ?_⟩
  repeat (refine hX _ _ _ _ ?_; conv => whnf)
  refine K_c_sheet (d := 9) z _ _ _ D _ hz hC (fun D1 c1 c2 => ?_)
  repeat (refine hX _ _ _ _ ?_; conv => whnf)
  refine ⟨lw_v (j := 1) hN h2 rfl (by decide), ?_⟩
  repeat (refine hX _ _ _ _ ?_; conv => whnf)
  refine ⟨lw_v (j := 2) hN h2 rfl (by decide), ?_⟩
  repeat (refine hX _ _ _ _ ?_; conv => whnf)
  refine ⟨lw_v (j := 3) hN h2 rfl (by decide), ?_⟩
  repeat (refine hX _ _ _ _ ?_; conv => whnf)
  rw [c2 82 (by decide)]
  refine K_m_sheet (d := 9) z _ _ _ D1 _ hz (hM.hi c2) (fun D2 m1 m2 => ?_)
  repeat (refine hX _ _ _ _ ?_; conv => whnf)
  exact ⟨fun _ => nx _ D2 (k_sheet hz _ _ _) (c1.lo m2) m1, fun y => absurd rfl y⟩
set_option maxRecDepth 100000 in
set_option maxHeartbeats 4000000 in
theorem lw_c_lay {N i : Nat} {X : Nat → pm_L → List Value → pm_Mem → Prop} (hX : lw_H N X) (hN : i + 5 ≤ N) (h2 : N ≤ 2560) (nx : lw_N X i) {z : z_Z} {D : pm_Mem} (hz : zOk z) (hC : CR D z) (hM : MR D z) : X 1375 [some (.ref 82), some (.ref 40), some (.ref 67), some (.int (nI i))] [] D := by
  replace hX : ∀ pc L st D, pm_F N (pm_D N 11) tbL_law (some .boolean) lw_po X pc L st D → X pc L st D := hX
  repeat (refine hX _ _ _ _ ?_; conv => whnf)
  refine ⟨lw_v (j := 1) hN h2 rfl (by decide), ?_⟩
  repeat (refine hX _ _ _ _ ?_; conv => whnf)
  refine ⟨lw_v (j := 2) hN h2 rfl (by decide), ?_⟩
  repeat (refine hX _ _ _ _ ?_; conv => whnf)
  refine ⟨lw_v (j := 3) hN h2 rfl (by decide), ?_⟩
  repeat (refine hX _ _ _ _ ?_; conv => whnf)
  refine K_c_lay (d := 8) z _ _ _ D _ hz hC (fun D1 c1 c2 => ?_)
  repeat (refine hX _ _ _ _ ?_; conv => whnf)
  refine ⟨lw_v (j := 1) hN h2 rfl (by decide), ?_⟩
  repeat (refine hX _ _ _ _ ?_; conv => whnf)
  refine ⟨lw_v (j := 2) hN h2 rfl (by decide), ?_⟩
  repeat (refine hX _ _ _ _ ?_; conv => whnf)
  refine ⟨lw_v (j := 3) hN h2 rfl (by decide), ?_⟩
  repeat (refine hX _ _ _ _ ?_; conv => whnf)
  rw [c2 82 (by decide)]
  refine K_m_lay (d := 9) z _ _ _ D1 _ hz (hM.hi c2) (fun D2 m1 m2 => ?_)
  repeat (refine hX _ _ _ _ ?_; conv => whnf)
  exact ⟨fun _ => nx _ D2 (k_lay hz _ _ _) (c1.lo m2) m1, fun y => absurd rfl y⟩
set_option maxRecDepth 100000 in
set_option maxHeartbeats 4000000 in
theorem lw_c_read {N i : Nat} {X : Nat → pm_L → List Value → pm_Mem → Prop} (hX : lw_H N X) (hN : i + 5 ≤ N) (h2 : N ≤ 2560) (nx : lw_N X i) {z : z_Z} {D : pm_Mem} (hz : zOk z) (hC : CR D z) (hM : MR D z) : X 1418 [some (.ref 82), some (.ref 40), some (.ref 67), some (.int (nI i))] [] D := by
  replace hX : ∀ pc L st D, pm_F N (pm_D N 11) tbL_law (some .boolean) lw_po X pc L st D → X pc L st D := hX
  repeat (refine hX _ _ _ _ ?_; conv => whnf)
  refine ⟨lw_v (j := 1) hN h2 rfl (by decide), ?_⟩
  repeat (refine hX _ _ _ _ ?_; conv => whnf)
  refine ⟨lw_v (j := 2) hN h2 rfl (by decide), ?_⟩
  repeat (refine hX _ _ _ _ ?_; conv => whnf)
  refine ⟨lw_v (j := 3) hN h2 rfl (by decide), ?_⟩
  repeat (refine hX _ _ _ _ ?_; conv => whnf)
  refine ⟨lw_v (j := 4) hN h2 rfl (by decide), ?_⟩
  repeat (refine hX _ _ _ _ ?_; conv => whnf)
  refine K_c_read (d := 7) z _ _ _ _ D _ hz hC (fun D1 c1 c2 => ?_)
  repeat (refine hX _ _ _ _ ?_; conv => whnf)
  refine ⟨lw_v (j := 1) hN h2 rfl (by decide), ?_⟩
  repeat (refine hX _ _ _ _ ?_; conv => whnf)
  refine ⟨lw_v (j := 2) hN h2 rfl (by decide), ?_⟩
  repeat (refine hX _ _ _ _ ?_; conv => whnf)
  refine ⟨lw_v (j := 3) hN h2 rfl (by decide), ?_⟩
  repeat (refine hX _ _ _ _ ?_; conv => whnf)
  refine ⟨lw_v (j := 4) hN h2 rfl (by decide), ?_⟩
  repeat (refine hX _ _ _ _ ?_; conv => whnf)
  rw [c2 82 (by decide)]
  refine K_m_read (d := 8) z _ _ _ _ D1 _ hz (hM.hi c2) (fun D2 m1 m2 => ?_)
  repeat (refine hX _ _ _ _ ?_; conv => whnf)
  exact ⟨fun _ => nx _ D2 (k_read hz _ _ _ _) (c1.lo m2) m1, fun y => absurd rfl y⟩
set_option maxRecDepth 100000 in
set_option maxHeartbeats 4000000 in
theorem lw_c_torn {N i : Nat} {X : Nat → pm_L → List Value → pm_Mem → Prop} (hX : lw_H N X) (hN : i + 5 ≤ N) (h2 : N ≤ 2560) (nx : lw_N X i) {z : z_Z} {D : pm_Mem} (hz : zOk z) (hC : CR D z) (hM : MR D z) : X 1471 [some (.ref 82), some (.ref 40), some (.ref 67), some (.int (nI i))] [] D := by
  replace hX : ∀ pc L st D, pm_F N (pm_D N 11) tbL_law (some .boolean) lw_po X pc L st D → X pc L st D := hX
  repeat (refine hX _ _ _ _ ?_; conv => whnf)
  refine K_c_torn (d := 10) z D _ hz hC (fun D1 c1 c2 => ?_)
  repeat (refine hX _ _ _ _ ?_; conv => whnf)
  refine K_m_torn (d := 10) z D1 _ hz (hM.hi c2) (fun D2 m1 m2 => ?_)
  repeat (refine hX _ _ _ _ ?_; conv => whnf)
  exact ⟨fun _ => nx _ D2 hz (c1.lo m2) m1, fun y => absurd rfl y⟩
set_option maxRecDepth 100000 in
set_option maxHeartbeats 4000000 in
theorem lw_c_count {N i : Nat} {X : Nat → pm_L → List Value → pm_Mem → Prop} (hX : lw_H N X) (hN : i + 5 ≤ N) (h2 : N ≤ 2560) (nx : lw_N X i) {z : z_Z} {D : pm_Mem} (hz : zOk z) (hC : CR D z) (hM : MR D z) : X 1484 [some (.ref 82), some (.ref 40), some (.ref 67), some (.int (nI i))] [] D := by
  replace hX : ∀ pc L st D, pm_F N (pm_D N 11) tbL_law (some .boolean) lw_po X pc L st D → X pc L st D := hX
  repeat (refine hX _ _ _ _ ?_; conv => whnf)
  refine ⟨lw_v (j := 1) hN h2 rfl (by decide), ?_⟩
  repeat (refine hX _ _ _ _ ?_; conv => whnf)
  refine K_c_count (d := 8) z _ D _ hz hC (fun D1 c1 c2 => ?_)
  repeat (refine hX _ _ _ _ ?_; conv => whnf)
  refine ⟨lw_v (j := 1) hN h2 rfl (by decide), ?_⟩
  repeat (refine hX _ _ _ _ ?_; conv => whnf)
  rw [c2 82 (by decide)]
  refine K_m_count (d := 10) z _ D1 _ hz (hM.hi c2) (fun D2 m1 m2 => ?_)
  repeat (refine hX _ _ _ _ ?_; conv => whnf)
  exact ⟨fun _ => nx _ D2 hz (c1.lo m2) m1, fun y => absurd rfl y⟩
