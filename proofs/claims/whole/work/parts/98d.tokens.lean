section
variable {G : en_G} {d : Nat} {K : en_K} {X : tTx} {z : tZ} {hi : en_I} {hl : en_L} {hr : en_F} {xc xs : Nat}
theorem tkH.le {q : Nat} (h : tkH X q hi) : q ≤ X.2 := h.1
theorem t_fail {k : Nat} (hk : 1 ≤ k ∧ k ≤ 4) (hX : tqS X hi) (h : tkX X z hi) (H : ∀ hi', Fx P26 hi hi' → tqS X hi' → tkX X (zFl k z) hi' → K (.inl none) hi' hl hr) : en_Call G (d + 1) xc xs Y_X7_fail wN wN [.ref 26, .int (iI (k : Int))] hi hl hr K := by
  rcases z with e | q
  · have h7 : hi 26 7 = iI (e.1 : Int) := h.2.1
    have b := h.1
    apply en_X7_fail
    simp (disch := omega) only [B_X7_fail_0, sh26, lt26, h7, en_ops, en_opc, iI_add, iI_mul, iI_sub, jL_add, jL_mul, iI_le, iI_lt, iI_eq, iI_eq0, iI_lt0, iI_0le, iI_le0, iI_0lt, jL_iI, iI_jL, lc_eq, lc_lt, lc_le, lc_ge, lc_gt, Nat.sub_zero, Nat.zero_le, true_and, and_true, Nat.reduceAdd, Nat.reduceLeDiff]
    exact ⟨fun _ => H hi Fx.rf hX h, fun g => absurd g (by omega)⟩
  · obtain ⟨q1, q2, q3, q4, q5, q6, q7, -⟩ := id h
    have l6 := hX.1.1
    apply en_X7_fail
    simp (disch := omega) only [B_X7_fail_0, sh26, lt26, q3, en_ops, en_opc, iI_add, iI_mul, iI_sub, jL_add, jL_mul, iI_le, iI_lt, iI_eq, iI_eq0, iI_lt0, iI_0le, iI_le0, iI_0lt, jL_iI, iI_jL, lc_eq, lc_lt, lc_le, lc_ge, lc_gt, Nat.sub_zero, Nat.zero_le, true_and, and_true, Nat.reduceAdd, Nat.reduceLeDiff]
    refine ⟨fun g => (g (by first | trivial | rfl)).elim, fun _ => ?_⟩
    rw [up_ne (Or.inr (by decide)), q5]
    have F : Fx P26 hi (en_up (en_up (en_up hi 26 7 (iI (k : Int))) 26 8 (iI (q : Int))) 26 3 (iI 4)) := Fx.up (Fx.up (Fx.up Fx.rf ⟨rfl, by decide⟩) ⟨rfl, by decide⟩) ⟨rfl, by decide⟩
    refine H _ F (hX.fx F (fun j g => by have := g.1; omega) (fun g => by have := g.2; omega)) ⟨⟨hk.1, hk.2, by show q ≤ 600; omega⟩, ?_, ?_, up_at⟩
    · rw [up_ne (Or.inr (by decide)), up_ne (Or.inr (by decide)), up_at]
    · rw [up_ne (Or.inr (by decide)), up_at]
theorem t_stepZ (hR : hr 26 0 = .ref 1) (hX : tqS X hi) (h : tkX X z hi) (hz : ∀ q, z = .inr q → q < X.2) (H : ∀ hi', Fx P26 hi hi' → tqS X hi' → tkX X (zSt X z) hi' → K (.inl none) hi' hl hr) : en_Call G (d + 2) xc xs Y_X7_step wN wN [.ref 26] hi hl hr K := by
  rcases z with e | q
  · have h7 : hi 26 7 = iI (e.1 : Int) := h.2.1
    have b := h.1
    apply en_X7_step
    simp (disch := omega) only [B_X7_step_0, sh26, lt26, h7, en_ops, en_opc, iI_add, iI_mul, iI_sub, jL_add, jL_mul, iI_le, iI_lt, iI_eq, iI_eq0, iI_lt0, iI_0le, iI_le0, iI_0lt, jL_iI, iI_jL, lc_eq, lc_lt, lc_le, lc_ge, lc_gt, Nat.sub_zero, Nat.zero_le, true_and, and_true, Nat.reduceAdd, Nat.reduceLeDiff]
    exact ⟨fun g => absurd g (by omega), fun _ => H hi Fx.rf hX h⟩
  · obtain ⟨q1, q2, q3, q4, q5, q6, q7, -⟩ := id h
    exact t_step hR hX (at_gt (hz q rfl)).2 q7 q3 q4 (fun hi' F X' H' => H hi' F X' H')
theorem t_hasMore (h : tkX X z hi) (H : ∀ b : Int, (b = 1 ∧ zKd X z ≠ 0 ∧ zKd X z ≠ 4) ∨ (b = 0 ∧ ¬ (zKd X z ≠ 0 ∧ zKd X z ≠ 4)) → K (.inl (some (.int (iI b)))) hi hl hr) : en_Call G (d + 1) xc xs Y_X7_hasMore wN wN [.ref 26] hi hl hr K := by
  have k := h.k
  have k4 := zKd_le (X := X) z
  apply en_X7_hasMore
  simp (disch := omega) only [B_X7_hasMore_0, sh26, lt26, k, en_ops, en_opc, iI_add, iI_mul, iI_sub, jL_add, jL_mul, iI_le, iI_lt, iI_eq, iI_eq0, iI_lt0, iI_0le, iI_le0, iI_0lt, jL_iI, iI_jL, lc_eq, lc_lt, lc_le, lc_ge, lc_gt, Nat.sub_zero, Nat.zero_le, true_and, and_true, Nat.reduceAdd, Nat.reduceLeDiff]
  exact ⟨fun e => ⟨rfl, H 0 (Or.inr ⟨rfl, by omega⟩)⟩, fun e => ⟨fun e2 => ⟨rfl, H 0 (Or.inr ⟨rfl, by omega⟩)⟩, fun e2 => ⟨rfl, H 1 (Or.inl ⟨rfl, by omega⟩)⟩⟩⟩
theorem t_hasNumber (h : tkX X z hi) (H : ∀ b : Int, (b = 1 ∧ zKd X z = 1) ∨ (b = 0 ∧ zKd X z ≠ 1) → K (.inl (some (.int (iI b)))) hi hl hr) : en_Call G (d + 1) xc xs Y_X7_hasNumber wN wN [.ref 26] hi hl hr K := by
  have k := h.k
  have k4 := zKd_le (X := X) z
  apply en_X7_hasNumber
  simp (disch := omega) only [B_X7_hasNumber_0, sh26, lt26, k, en_ops, en_opc, iI_add, iI_mul, iI_sub, jL_add, jL_mul, iI_le, iI_lt, iI_eq, iI_eq0, iI_lt0, iI_0le, iI_le0, iI_0lt, jL_iI, iI_jL, lc_eq, lc_lt, lc_le, lc_ge, lc_gt, Nat.sub_zero, Nat.zero_le, true_and, and_true, Nat.reduceAdd, Nat.reduceLeDiff]
  exact ⟨fun e => ⟨rfl, H 0 (Or.inr ⟨rfl, by omega⟩)⟩, fun e => ⟨rfl, H 1 (Or.inl ⟨rfl, by omega⟩)⟩⟩
/-- the sign c stands there -/
def zIs (X : tTx) (c : Nat) (z : tZ) : Prop := match z with
  | .inl _ => False
  | .inr q => sgE X q c
theorem t_isSign {c : Nat} (hc : isSg c) (hc2 : c < 128) (hX : tqS X hi) (h : tkX X z hi) (H : ∀ b : Int, (b = 1 ∧ zIs X c z) ∨ (b = 0 ∧ ¬ zIs X c z) → K (.inl (some (.int (iI b)))) hi hl hr) : en_Call G (d + 1) xc xs Y_X7_isSign wN wN [.ref 26, .int (iI (c : Int))] hi hl hr K := by
  have k := h.k
  have k4 := zKd_le (X := X) z
  apply en_X7_isSign
  simp (disch := omega) only [B_X7_isSign_0, sh26, lt26, k, en_ops, en_opc, iI_add, iI_mul, iI_sub, jL_add, jL_mul, iI_le, iI_lt, iI_eq, iI_eq0, iI_lt0, iI_0le, iI_le0, iI_0lt, jL_iI, iI_jL, lc_eq, lc_lt, lc_le, lc_ge, lc_gt, Nat.sub_zero, Nat.zero_le, true_and, and_true, Nat.reduceAdd, Nat.reduceLeDiff]
  refine ⟨fun e => ⟨rfl, H 0 (Or.inr ⟨rfl, fun g => ?_⟩)⟩, fun e => ?_⟩
  · rcases z with e1 | q
    · exact g
    · have := (sg_kd hc (show sgE X q c from g)).1
      exact e (by show (kdE X q : Int) = 3; omega)
  · rcases z with e1 | q
    · exact absurd (show (4 : Int) = 3 from e) (by decide)
    have k3 : kdE X q = 3 := by have : (kdE X q : Int) = 3 := e; omega
    obtain ⟨q1, q2, q3, q4, q5, q6, q7, q8, q9⟩ := id h
    have b1 := hX.1.2 q (kd_3 k3).1
    have r := sb_r b1.1
    have es := sb_e (c := c) b1.1 hc2
    rw [q9 k3]
    simp (disch := omega) only [en_ops, en_opc, iI_add, iI_mul, iI_sub, jL_add, jL_mul, iI_le, iI_lt, iI_eq, iI_eq0, iI_lt0, iI_0le, iI_le0, iI_0lt, jL_iI, iI_jL, lc_eq, lc_lt, lc_le, lc_ge, lc_gt, Nat.sub_zero, Nat.zero_le, true_and, and_true, Nat.reduceAdd, Nat.reduceLeDiff]
    exact ⟨fun e => ⟨rfl, H 0 (Or.inr ⟨rfl, fun g => e (es.mpr g.2)⟩)⟩, fun e => ⟨rfl, H 1 (Or.inl ⟨rfl, (kd_3 k3).1, es.mp e⟩)⟩⟩
theorem t_needSign {c : Nat} (hc : isSg c) (hc2 : c < 128) (hR : hr 26 0 = .ref 1) (hX : tqS X hi) (h : tkX X z hi) (H : ∀ hi', Fx P26 hi hi' → tqS X hi' → tkX X (zSg X c z) hi' → K (.inl none) hi' hl hr) : en_Call G (d + 3) xc xs Y_X7_needSign wN wN [.ref 26, .int (iI (c : Int))] hi hl hr K := by
  apply en_X7_needSign
  simp (disch := omega) only [B_X7_needSign_0, sh26, lt26, en_ops, en_opc, iI_add, iI_mul, iI_sub, jL_add, jL_mul, iI_le, iI_lt, iI_eq, iI_eq0, iI_lt0, iI_0le, iI_le0, iI_0lt, jL_iI, iI_jL, lc_eq, lc_lt, lc_le, lc_ge, lc_gt, Nat.sub_zero, Nat.zero_le, true_and, and_true, Nat.reduceAdd, Nat.reduceLeDiff]
  refine t_isSign hc hc2 hX h (fun b hb => ?_)
  simp (disch := omega) only [sh26, lt26, en_ops, en_opc, iI_add, iI_mul, iI_sub, jL_add, jL_mul, iI_le, iI_lt, iI_eq, iI_eq0, iI_lt0, iI_0le, iI_le0, iI_0lt, jL_iI, iI_jL, lc_eq, lc_lt, lc_le, lc_ge, lc_gt, Nat.sub_zero, Nat.zero_le, true_and, and_true, Nat.reduceAdd, Nat.reduceLeDiff]
  rcases hb with ⟨rfl, hb⟩ | ⟨rfl, hb⟩
  · refine ⟨fun g => absurd g (by decide), fun _ => ?_⟩
    refine t_stepZ hR hX h (fun q e => by subst e; exact (show sgE X q c from hb).1) (fun hi' F X' H' => ?_)
    simp (disch := omega) only [en_ops, en_opc, iI_add, iI_mul, iI_sub, jL_add, jL_mul, iI_le, iI_lt, iI_eq, iI_eq0, iI_lt0, iI_0le, iI_le0, iI_0lt, jL_iI, iI_jL, lc_eq, lc_lt, lc_le, lc_ge, lc_gt, Nat.sub_zero, Nat.zero_le, true_and, and_true, Nat.reduceAdd, Nat.reduceLeDiff]
    refine H hi' F X' ?_
    rcases z with e | q
    · exact hb.elim
    · show tkX X (if sgE X q c then .inr (nxE X q) else .inl (1, q)) hi'
      rw [if_pos (show sgE X q c from hb)]
      exact H'
  · refine ⟨fun _ => ?_, fun g => (g (by first | trivial | rfl)).elim⟩
    refine t_fail (k := 1) (by decide) hX h (fun hi' F X' H' => ?_)
    simp (disch := omega) only [en_ops, en_opc, iI_add, iI_mul, iI_sub, jL_add, jL_mul, iI_le, iI_lt, iI_eq, iI_eq0, iI_lt0, iI_0le, iI_le0, iI_0lt, jL_iI, iI_jL, lc_eq, lc_lt, lc_le, lc_ge, lc_gt, Nat.sub_zero, Nat.zero_le, true_and, and_true, Nat.reduceAdd, Nat.reduceLeDiff]
    refine H hi' F X' ?_
    rcases z with e | q
    · exact H'
    · show tkX X (if sgE X q c then .inr (nxE X q) else .inl (1, q)) hi'
      rw [if_neg (show ¬ sgE X q c from hb)]
      exact H'
theorem t_needWord {j : Nat} (hj : isWd j) (hR : hr 26 0 = .ref 1) (hX : tqS X hi) (h : tkX X z hi) (H : ∀ hi', Fx P26 hi hi' → tqS X hi' → tkX X (zWd X (pkJ j) z) hi' → K (.inl none) hi' hl hr) : en_Call G (d + 6) xc xs Y_X7_needWord wN wN [.ref 26, .ref (1000000 + j)] hi hl hr K := by
  have pp := pk_pos hj
  apply en_X7_needWord
  simp (disch := omega) only [B_X7_needWord_0, sh26, lt26, en_ops, en_opc, iI_add, iI_mul, iI_sub, jL_add, jL_mul, iI_le, iI_lt, iI_eq, iI_eq0, iI_lt0, iI_0le, iI_le0, iI_0lt, jL_iI, iI_jL, lc_eq, lc_lt, lc_le, lc_ge, lc_gt, Nat.sub_zero, Nat.zero_le, true_and, and_true, Nat.reduceAdd, Nat.reduceLeDiff]
  refine t_isWord hj hR hX h (fun b hb => ?_)
  simp (disch := omega) only [sh26, lt26, en_ops, en_opc, iI_add, iI_mul, iI_sub, jL_add, jL_mul, iI_le, iI_lt, iI_eq, iI_eq0, iI_lt0, iI_0le, iI_le0, iI_0lt, jL_iI, iI_jL, lc_eq, lc_lt, lc_le, lc_ge, lc_gt, Nat.sub_zero, Nat.zero_le, true_and, and_true, Nat.reduceAdd, Nat.reduceLeDiff]
  rcases hb with ⟨rfl, hb⟩ | ⟨rfl, hb⟩
  · refine ⟨fun g => absurd g (by decide), fun _ => ?_⟩
    refine t_stepZ (d := d + 3) hR hX h (fun q e => by subst e; exact (wd_let (by rw [show wdE X q = pkJ j from hb]; exact pp)).2.1) (fun hi' F X' H' => ?_)
    simp (disch := omega) only [en_ops, en_opc, iI_add, iI_mul, iI_sub, jL_add, jL_mul, iI_le, iI_lt, iI_eq, iI_eq0, iI_lt0, iI_0le, iI_le0, iI_0lt, jL_iI, iI_jL, lc_eq, lc_lt, lc_le, lc_ge, lc_gt, Nat.sub_zero, Nat.zero_le, true_and, and_true, Nat.reduceAdd, Nat.reduceLeDiff]
    refine H hi' F X' ?_
    rcases z with e | q
    · exact absurd hb.symm pp
    · show tkX X (if wdE X q = pkJ j then .inr (nxE X q) else .inl (1, q)) hi'
      rw [if_pos (show wdE X q = pkJ j from hb)]
      exact H'
  · refine ⟨fun _ => ?_, fun g => (g (by first | trivial | rfl)).elim⟩
    refine t_fail (d := d + 4) (k := 1) (by decide) hX h (fun hi' F X' H' => ?_)
    simp (disch := omega) only [en_ops, en_opc, iI_add, iI_mul, iI_sub, jL_add, jL_mul, iI_le, iI_lt, iI_eq, iI_eq0, iI_lt0, iI_0le, iI_le0, iI_0lt, jL_iI, iI_jL, lc_eq, lc_lt, lc_le, lc_ge, lc_gt, Nat.sub_zero, Nat.zero_le, true_and, and_true, Nat.reduceAdd, Nat.reduceLeDiff]
    refine H hi' F X' ?_
    rcases z with e | q
    · exact H'
    · show tkX X (if wdE X q = pkJ j then .inr (nxE X q) else .inl (1, q)) hi'
      rw [if_neg (show ¬ wdE X q = pkJ j from hb)]
      exact H'
/-- a number: what is answered lies within the bounds -/
theorem t_needNum {lo up : Int} (hb : 0 ≤ lo ∧ lo ≤ up ∧ up ≤ 9999) (hR : hr 26 0 = .ref 1) (hX : tqS X hi) (h : tkX X z hi) (H : ∀ (hi' : en_I) (v : Int), Fx P26 hi hi' → tqS X hi' → tkX X (zNm X lo up z) hi' → lo ≤ v → v ≤ up → (∀ q, zNm X lo up z = .inr q → v = (zVa X z : Int)) → K (.inl (some (.int (iI v)))) hi' hl hr) : en_Call G (d + 3) xc xs Y_X7_needNumber wN wN [.ref 26, .int (iI lo), .int (iI up)] hi hl hr K := by
  have k := h.k
  have k4 := zKd_le (X := X) z
  rcases z with e | q
  · have k5 : hi 26 3 = iI 4 := k
    apply en_X7_needNumber
    simp (disch := omega) only [B_X7_needNumber_0, sh26, lt26, k5, en_ops, en_opc, iI_add, iI_mul, iI_sub, jL_add, jL_mul, iI_le, iI_lt, iI_eq, iI_eq0, iI_lt0, iI_0le, iI_le0, iI_0lt, jL_iI, iI_jL, lc_eq, lc_lt, lc_le, lc_ge, lc_gt, Nat.sub_zero, Nat.zero_le, true_and, and_true, Nat.reduceAdd, Nat.reduceLeDiff]
    refine ⟨fun g => absurd g (by decide), fun _ => ?_⟩
    refine t_fail (d := d + 1) (k := 1) (by decide) hX h (fun hi' F X' H' => ?_)
    simp (disch := omega) only [en_ops, en_opc, iI_add, iI_mul, iI_sub, jL_add, jL_mul, iI_le, iI_lt, iI_eq, iI_eq0, iI_lt0, iI_0le, iI_le0, iI_0lt, jL_iI, iI_jL, lc_eq, lc_lt, lc_le, lc_ge, lc_gt, Nat.sub_zero, Nat.zero_le, true_and, and_true, Nat.reduceAdd, Nat.reduceLeDiff]
    exact H hi' lo F X' H' (Int.le_refl _) hb.2.1 (fun q e2 => by cases e2)
  · have k5 : hi 26 3 = iI (kdE X q : Int) := k
    have k6 : kdE X q ≤ 3 := kd_le X q
    obtain ⟨q1, q2, q3, q4, q5, q6, q7, q8, q9⟩ := id h
    by_cases k1 : kdE X q = 1
    · have c9 : capN (nvE X q) ≤ 1000000 := by unfold capN; split <;> omega
      have e5 : hi 26 5 = iI (capN (nvE X q) : Int) := q8 k1
      have cv : (lo ≤ (capN (nvE X q) : Int) ∧ (capN (nvE X q) : Int) ≤ up) ↔ (lo ≤ (nvE X q : Int) ∧ (nvE X q : Int) ≤ up) := by unfold capN; split <;> omega
      have ev : lo ≤ (capN (nvE X q) : Int) → (capN (nvE X q) : Int) ≤ up → (capN (nvE X q) : Int) = (nvE X q : Int) := by unfold capN; split <;> omega
      have go : ∀ g : Prop, (zNm X lo up (.inr q) = if lo ≤ (nvE X q : Int) ∧ (nvE X q : Int) ≤ up then .inr (nxE X q) else .inl (2, q)) := fun _ => if_pos k1
      have go := go True
      have bad : ¬ (lo ≤ (capN (nvE X q) : Int) ∧ (capN (nvE X q) : Int) ≤ up) → en_Call G (d + 2) 0 0 Y_X7_fail wN wN [.ref 26, .int (iI 2)] hi hl hr (en_kk (o_iload 1 (o_iret K)) x_no [.ref 26, .int (iI lo), .int (iI up), .int (iI (capN (nvE X q) : Int))] [] xc xs) := by
        intro g
        refine t_fail (d := d + 1) (k := 2) (by decide) hX h (fun hi' F X' H' => ?_)
        simp (disch := omega) only [en_ops, en_opc, iI_add, iI_mul, iI_sub, jL_add, jL_mul, iI_le, iI_lt, iI_eq, iI_eq0, iI_lt0, iI_0le, iI_le0, iI_0lt, jL_iI, iI_jL, lc_eq, lc_lt, lc_le, lc_ge, lc_gt, Nat.sub_zero, Nat.zero_le, true_and, and_true, Nat.reduceAdd, Nat.reduceLeDiff]
        rw [if_neg (fun w => g (cv.mpr w))] at go
        refine H hi' lo F X' (by rw [go]; exact H') (Int.le_refl _) hb.2.1 (fun q e2 => by rw [go] at e2; cases e2)
      apply en_X7_needNumber
      simp (disch := omega) only [B_X7_needNumber_0, sh26, lt26, k5, e5, k1, en_ops, en_opc, iI_add, iI_mul, iI_sub, jL_add, jL_mul, iI_le, iI_lt, iI_eq, iI_eq0, iI_lt0, iI_0le, iI_le0, iI_0lt, jL_iI, iI_jL, lc_eq, lc_lt, lc_le, lc_ge, lc_gt, Nat.sub_zero, Nat.zero_le, true_and, and_true, Nat.reduceAdd, Nat.reduceLeDiff]
      refine ⟨fun _ => ⟨fun g => bad (by omega), fun g => ⟨fun g2 => ?_, fun g2 => bad (by omega)⟩⟩, fun g => (g (by first | trivial | rfl)).elim⟩
      have w := cv.mp ⟨by omega, g2⟩
      rw [if_pos w] at go
      refine t_stepZ (d := d) (z := .inr q) hR hX h (fun q2 e => by cases e; exact (kd_1 k1).1) (fun hi' F X' H' => ?_)
      simp (disch := omega) only [en_ops, en_opc, iI_add, iI_mul, iI_sub, jL_add, jL_mul, iI_le, iI_lt, iI_eq, iI_eq0, iI_lt0, iI_0le, iI_le0, iI_0lt, jL_iI, iI_jL, lc_eq, lc_lt, lc_le, lc_ge, lc_gt, Nat.sub_zero, Nat.zero_le, true_and, and_true, Nat.reduceAdd, Nat.reduceLeDiff]
      exact H hi' _ F X' (by rw [go]; exact H') (by omega) g2 (fun _ _ => ev (by omega) g2)
    · apply en_X7_needNumber
      simp (disch := omega) only [B_X7_needNumber_0, sh26, lt26, k5, en_ops, en_opc, iI_add, iI_mul, iI_sub, jL_add, jL_mul, iI_le, iI_lt, iI_eq, iI_eq0, iI_lt0, iI_0le, iI_le0, iI_0lt, jL_iI, iI_jL, lc_eq, lc_lt, lc_le, lc_ge, lc_gt, Nat.sub_zero, Nat.zero_le, true_and, and_true, Nat.reduceAdd, Nat.reduceLeDiff]
      refine ⟨fun g => by omega, fun _ => ?_⟩
      refine t_fail (d := d + 1) (k := 1) (by decide) hX h (fun hi' F X' H' => ?_)
      simp (disch := omega) only [en_ops, en_opc, iI_add, iI_mul, iI_sub, jL_add, jL_mul, iI_le, iI_lt, iI_eq, iI_eq0, iI_lt0, iI_0le, iI_le0, iI_0lt, jL_iI, iI_jL, lc_eq, lc_lt, lc_le, lc_ge, lc_gt, Nat.sub_zero, Nat.zero_le, true_and, and_true, Nat.reduceAdd, Nat.reduceLeDiff]
      have go : zNm X lo up (.inr q) = .inl (1, q) := if_neg k1
      exact H hi' lo F X' (by rw [go]; exact H') (Int.le_refl _) hb.2.1 (fun q e2 => by rw [go] at e2; cases e2)
end
