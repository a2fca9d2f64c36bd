section
variable {G : en_G} {d : Nat} {K : en_K} {X : tTx} {z : tZ} {q : Nat} {hi : en_I} {hl : en_L} {hr : en_F} {xc xs : Nat}
/-- a written word's number -/
theorem m_of {j : Nat} (hj : isWd j) (H : K (.inl (some (.int (iI (pkJ j : Int))))) hi hl hr) : en_Call G (d + 5) xc xs Y_X11_of wN wN [.ref (1000000 + j)] hi hl hr K := by
  have n6 := tb_n hj
  have j58 := hj.1
  suffices L : ∀ m i : Nat, (en_tb j).length - i = m → i ≤ (en_tb j).length → en_V G Y_X11_of (d + 5) wN wN K 4 [.ref (1000000 + j), .int (iI (wlF (cJ j) i : Int)), .int (iI (i : Int))] [] hi hl hr xc xs by
    apply en_X11_of
    simp (disch := omega) only [B_X11_of_0, en_ops, en_opc, iI_add, iI_mul, iI_sub, jL_add, jL_mul, iI_le, iI_lt, iI_eq, iI_eq0, iI_lt0, iI_0le, iI_le0, iI_0lt, jL_iI, iI_jL, lc_eq, lc_lt, lc_le, lc_ge, lc_gt, Nat.sub_zero, Nat.zero_le, true_and, and_true, Nat.reduceAdd, Nat.reduceLeDiff]
    exact L _ 0 rfl (by omega)
  intro m
  induction m with
  | zero =>
    intro i hm hi9
    have ei : i = (en_tb j).length := by omega
    apply s_X11_of_4
    simp (disch := omega) only [B_X11_of_4, en_ops, en_opc, iI_add, iI_mul, iI_sub, jL_add, jL_mul, iI_le, iI_lt, iI_eq, iI_eq0, iI_lt0, iI_0le, iI_le0, iI_0lt, jL_iI, iI_jL, lc_eq, lc_lt, lc_le, lc_ge, lc_gt, Nat.sub_zero, Nat.zero_le, true_and, and_true, Nat.reduceAdd, Nat.reduceLeDiff]
    refine ⟨⟨j, rfl, by rw [sl58]; exact hj.1⟩, s_len (d := d + 2) hj.1 ?_⟩
    simp (disch := omega) only [en_ops, en_opc, iI_add, iI_mul, iI_sub, jL_add, jL_mul, iI_le, iI_lt, iI_eq, iI_eq0, iI_lt0, iI_0le, iI_le0, iI_0lt, jL_iI, iI_jL, lc_eq, lc_lt, lc_le, lc_ge, lc_gt, Nat.sub_zero, Nat.zero_le, true_and, and_true, Nat.reduceAdd, Nat.reduceLeDiff]
    refine ⟨fun _ => ?_, fun g => absurd g (by omega)⟩
    rw [ei]
    exact H
  | succ m ih =>
    intro i hm hi9
    have hi8 : i < (en_tb j).length := by omega
    obtain ⟨c1, c2, c3⟩ := tb_c hj hi8
    apply s_X11_of_4
    simp (disch := omega) only [B_X11_of_4, en_ops, en_opc, iI_add, iI_mul, iI_sub, jL_add, jL_mul, iI_le, iI_lt, iI_eq, iI_eq0, iI_lt0, iI_0le, iI_le0, iI_0lt, jL_iI, iI_jL, lc_eq, lc_lt, lc_le, lc_ge, lc_gt, Nat.sub_zero, Nat.zero_le, true_and, and_true, Nat.reduceAdd, Nat.reduceLeDiff]
    refine ⟨⟨j, rfl, by rw [sl58]; exact hj.1⟩, s_len (d := d + 2) hj.1 ?_⟩
    simp (disch := omega) only [en_ops, en_opc, iI_add, iI_mul, iI_sub, jL_add, jL_mul, iI_le, iI_lt, iI_eq, iI_eq0, iI_lt0, iI_0le, iI_le0, iI_0lt, jL_iI, iI_jL, lc_eq, lc_lt, lc_le, lc_ge, lc_gt, Nat.sub_zero, Nat.zero_le, true_and, and_true, Nat.reduceAdd, Nat.reduceLeDiff]
    refine ⟨fun g => absurd g (by omega), fun _ => ?_⟩
    refine ⟨⟨j, rfl, by rw [sl58]; exact hj.1⟩, s_charAt (d := d) hj hi8 ?_⟩
    simp (disch := omega) only [en_ops, en_opc, iI_add, iI_mul, iI_sub, jL_add, jL_mul, iI_le, iI_lt, iI_eq, iI_eq0, iI_lt0, iI_0le, iI_le0, iI_0lt, jL_iI, iI_jL, lc_eq, lc_lt, lc_le, lc_ge, lc_gt, Nat.sub_zero, Nat.zero_le, true_and, and_true, Nat.reduceAdd, Nat.reduceLeDiff]
    have lt := wl_lt (g := cJ j) i (fun i' h' => ⟨(tb_c hj (by omega)).1, (tb_c hj (by omega)).2.1⟩)
    have : 32 ^ i ≤ 32 ^ 5 := Nat.pow_le_pow_right (by omega) (by omega)
    have hh := ih (i + 1) (by omega) (by omega)
    rw [show ((cJ j i : Int) - 96) = ((cJ j i - 96 : Nat) : Int) by omega, shl5 (by omega) (by omega), show 32 * wlF (cJ j) i + (cJ j i - 96) = wlF (cJ j) (i + 1) from rfl]
    exact hh
/-- another position, the same text -/
theorem rtQ.to {hi' : en_I} (h : rtQ X q hi) (F : Fx P4 hi hi') (h4 : hi' 110 4 = iI (atE X q : Int)) (hl9 : q < X.2) : rtA X (nxE X q) hi' := ⟨by rw [F 110 5 (fun g => by have := g.2; omega)]; exact h.1, atE X q, (at_gt hl9).2, h4, rfl⟩
theorem P4.dd {a j : Nat} (h : P4 a j) : Prd a j := ⟨h.1, Or.inl h.2⟩
theorem Fx.p4 {h1 h2 : en_I} (h : Fx P4 h1 h2) : Fx Prd h1 h2 := h.mono (fun a j g => g.dd)
theorem m_sign {c : Nat} (hc : isSg c) (hc0 : 0 < c ∧ c < 128) (hR : rfR hr) (hX : rtS X hi) (h : rtX X z hi) (H : ∀ hi', Fx Prd hi hi' → rtS X hi' → rtX X (zSg X c z) hi' → K (.inl none) hi' hl hr) : en_Call G (d + 2) xc xs Y_X11_sign wN wN [.ref 110, .int (iI (c : Int))] hi hl hr K := by
  apply en_X11_sign
  simp (disch := omega) only [B_X11_sign_0, sh110, lt110, en_ops, en_opc, iI_add, iI_mul, iI_sub, jL_add, jL_mul, iI_le, iI_lt, iI_eq, iI_eq0, iI_lt0, iI_0le, iI_le0, iI_0lt, jL_iI, iI_jL, lc_eq, lc_lt, lc_le, lc_ge, lc_gt, Nat.sub_zero, Nat.zero_le, true_and, and_true, Nat.reduceAdd, Nat.reduceLeDiff]
  rcases z with e | q
  · refine m_fine0 h ?_
    simp (disch := omega) only [sh110, lt110, en_ops, en_opc, iI_add, iI_mul, iI_sub, jL_add, jL_mul, iI_le, iI_lt, iI_eq, iI_eq0, iI_lt0, iI_0le, iI_le0, iI_0lt, jL_iI, iI_jL, lc_eq, lc_lt, lc_le, lc_ge, lc_gt, Nat.sub_zero, Nat.zero_le, true_and, and_true, Nat.reduceAdd, Nat.reduceLeDiff]
    refine ⟨fun _ => ?_, fun g => (g (by first | trivial | rfl)).elim⟩
    refine m_fine0 h ?_
    simp (disch := omega) only [sh110, lt110, en_ops, en_opc, iI_add, iI_mul, iI_sub, jL_add, jL_mul, iI_le, iI_lt, iI_eq, iI_eq0, iI_lt0, iI_0le, iI_le0, iI_0lt, jL_iI, iI_jL, lc_eq, lc_lt, lc_le, lc_ge, lc_gt, Nat.sub_zero, Nat.zero_le, true_and, and_true, Nat.reduceAdd, Nat.reduceLeDiff]
    exact ⟨fun _ => H hi Fx.rf hX h, fun g => (g (by first | trivial | rfl)).elim⟩
  · refine m_fine1 h.1 ?_
    simp (disch := omega) only [sh110, lt110, en_ops, en_opc, iI_add, iI_mul, iI_sub, jL_add, jL_mul, iI_le, iI_lt, iI_eq, iI_eq0, iI_lt0, iI_0le, iI_le0, iI_0lt, jL_iI, iI_jL, lc_eq, lc_lt, lc_le, lc_ge, lc_gt, Nat.sub_zero, Nat.zero_le, true_and, and_true, Nat.reduceAdd, Nat.reduceLeDiff]
    refine ⟨fun g => absurd g (by decide), fun _ => ?_⟩
    refine m_here hX hR h (fun h9 F9 X9 Q9 => ?_)
    have b := X9.1
    simp (disch := omega) only [sh110, lt110, en_ops, en_opc, iI_add, iI_mul, iI_sub, jL_add, jL_mul, iI_le, iI_lt, iI_eq, iI_eq0, iI_lt0, iI_0le, iI_le0, iI_0lt, jL_iI, iI_jL, lc_eq, lc_lt, lc_le, lc_ge, lc_gt, Nat.sub_zero, Nat.zero_le, true_and, and_true, Nat.reduceAdd, Nat.reduceLeDiff]
    obtain ⟨q5, q0, qs, q4⟩ := id Q9
    have bt : ∀ (w : q < X.2), X.1 q < 256 := fun w => (X9.2.1 q w).1
    have cc : (if q < X.2 then X.1 q else 0) < 256 := by
      by_cases w : q < X.2
      · rw [if_pos w]; exact bt w
      · rw [if_neg w]; omega
    have ce : (if q < X.2 then X.1 q else 0) = c ↔ sgE X q c := by
      by_cases w : q < X.2
      · rw [if_pos w]; exact ⟨fun g => ⟨w, g⟩, fun g => g.2⟩
      · rw [if_neg w]; exact ⟨fun g => by omega, fun g => absurd g.1 w⟩
    generalize (if q < X.2 then X.1 q else 0) = cv at cc ce ⊢
    simp (disch := omega) only [sh110, lt110, en_ops, en_opc, iI_add, iI_mul, iI_sub, jL_add, jL_mul, iI_le, iI_lt, iI_eq, iI_eq0, iI_lt0, iI_0le, iI_le0, iI_0lt, jL_iI, iI_jL, lc_eq, lc_lt, lc_le, lc_ge, lc_gt, Nat.sub_zero, Nat.zero_le, true_and, and_true, Nat.reduceAdd, Nat.reduceLeDiff]
    refine ⟨fun g => ?_, fun g => ?_⟩
    · have sg : sgE X q c := ce.mp (by omega)
      refine m_fine1 q5 ?_
      simp (disch := omega) only [sh110, lt110, q4, en_ops, en_opc, iI_add, iI_mul, iI_sub, jL_add, jL_mul, iI_le, iI_lt, iI_eq, iI_eq0, iI_lt0, iI_0le, iI_le0, iI_0lt, jL_iI, iI_jL, lc_eq, lc_lt, lc_le, lc_ge, lc_gt, Nat.sub_zero, Nat.zero_le, true_and, and_true, Nat.reduceAdd, Nat.reduceLeDiff]
      refine ⟨fun g => absurd g (by decide), fun _ => ?_⟩
      have FF : Fx P4 h9 (en_up h9 110 4 (iI ((q : Int) + 1))) := Fx.up Fx.rf ⟨rfl, rfl⟩
      refine H _ (F9.tr FF).p4 (rt4 (p := q) X9 _) ?_
      show rtX X (if sgE X q c then .inr (nxE X q) else .inl (1, q)) _
      rw [if_pos sg]
      refine Q9.to FF ?_ sg.1
      rw [up_at, (sg_kd hc sg).2]
      exact iI_eq_of (by omega)
    · have sg : ¬ sgE X q c := fun w => g (by have := ce.mpr w; omega)
      rw [q4]
      refine m_wrong1 (k := 1) (pl := q) q5 (by omega) (fun h8 F8 W8 => ?_)
      simp (disch := omega) only [sh110, lt110, en_ops, en_opc, iI_add, iI_mul, iI_sub, jL_add, jL_mul, iI_le, iI_lt, iI_eq, iI_eq0, iI_lt0, iI_0le, iI_le0, iI_0lt, jL_iI, iI_jL, lc_eq, lc_lt, lc_le, lc_ge, lc_gt, Nat.sub_zero, Nat.zero_le, true_and, and_true, Nat.reduceAdd, Nat.reduceLeDiff]
      refine m_fine0 W8 ?_
      simp (disch := omega) only [sh110, lt110, en_ops, en_opc, iI_add, iI_mul, iI_sub, jL_add, jL_mul, iI_le, iI_lt, iI_eq, iI_eq0, iI_lt0, iI_0le, iI_le0, iI_0lt, jL_iI, iI_jL, lc_eq, lc_lt, lc_le, lc_ge, lc_gt, Nat.sub_zero, Nat.zero_le, true_and, and_true, Nat.reduceAdd, Nat.reduceLeDiff]
      refine ⟨fun _ => ?_, fun g => (g (by first | trivial | rfl)).elim⟩
      refine H _ (F9.p4.tr F8) (X9.fx F8 (fun j g => by have := g.1; omega) (fun g => by have := g.2; omega)) ?_
      show rtX X (if sgE X q c then .inr (nxE X q) else .inl (1, q)) _
      rw [if_neg sg]
      exact W8
theorem m_isMore (hR : rfR hr) (hX : rtS X hi) (h : rtA X q hi) (H : ∀ hi' (b : Int), Fx P4 hi hi' → rtS X hi' → rtQ X q hi' → (b = 1 ∧ q < X.2) ∨ (b = 0 ∧ ¬ q < X.2) → K (.inl (some (.int (iI b)))) hi' hl hr) : en_Call G (d + 2) xc xs Y_X11_isMore wN wN [.ref 110] hi hl hr K := by
  apply en_X11_isMore
  simp (disch := omega) only [B_X11_isMore_0, sh110, lt110, en_ops, en_opc, iI_add, iI_mul, iI_sub, jL_add, jL_mul, iI_le, iI_lt, iI_eq, iI_eq0, iI_lt0, iI_0le, iI_le0, iI_0lt, jL_iI, iI_jL, lc_eq, lc_lt, lc_le, lc_ge, lc_gt, Nat.sub_zero, Nat.zero_le, true_and, and_true, Nat.reduceAdd, Nat.reduceLeDiff]
  refine m_here hX hR h (fun h9 F9 X9 Q9 => ?_)
  have e3 := X9.2.2
  have b := X9.1
  obtain ⟨q5, q0, qs, q4⟩ := id Q9
  simp (disch := omega) only [sh110, lt110, q4, e3, en_ops, en_opc, iI_add, iI_mul, iI_sub, jL_add, jL_mul, iI_le, iI_lt, iI_eq, iI_eq0, iI_lt0, iI_0le, iI_le0, iI_0lt, jL_iI, iI_jL, lc_eq, lc_lt, lc_le, lc_ge, lc_gt, Nat.sub_zero, Nat.zero_le, true_and, and_true, Nat.reduceAdd, Nat.reduceLeDiff]
  exact ⟨fun g => ⟨rfl, H h9 0 F9 X9 Q9 (Or.inr ⟨rfl, by omega⟩)⟩, fun g => ⟨rfl, H h9 1 F9 X9 Q9 (Or.inl ⟨rfl, by omega⟩)⟩⟩
theorem m_keyword {j : Nat} (hj : isWd j) (hR : rfR hr) (hX : rtS X hi) (h : rtX X z hi) (H : ∀ hi', Fx Prd hi hi' → rtS X hi' → rtX X (zWd X (pkJ j) z) hi' → K (.inl none) hi' hl hr) : en_Call G (d + 3) xc xs Y_X11_keyword wN wN [.ref 110, .int (iI (pkJ j : Int))] hi hl hr K := by
  have pp := pk_pos hj
  have pl : pkJ j < 1073741824 := by
    have := wl_lt (en_tb j).length (g := cJ j) (fun i hi => ⟨(tb_c hj hi).1, (tb_c hj hi).2.1⟩)
    have n6 := tb_n hj
    have : 32 ^ (en_tb j).length ≤ 32 ^ 6 := Nat.pow_le_pow_right (by omega) n6.2
    show wlF (cJ j) (en_tb j).length < _
    omega
  apply en_X11_keyword
  simp (disch := omega) only [B_X11_keyword_0, sh110, lt110, en_ops, en_opc, iI_add, iI_mul, iI_sub, jL_add, jL_mul, iI_le, iI_lt, iI_eq, iI_eq0, iI_lt0, iI_0le, iI_le0, iI_0lt, jL_iI, iI_jL, lc_eq, lc_lt, lc_le, lc_ge, lc_gt, Nat.sub_zero, Nat.zero_le, true_and, and_true, Nat.reduceAdd, Nat.reduceLeDiff]
  rcases z with e | q
  · refine m_fine0 h ?_
    simp (disch := omega) only [sh110, lt110, en_ops, en_opc, iI_add, iI_mul, iI_sub, jL_add, jL_mul, iI_le, iI_lt, iI_eq, iI_eq0, iI_lt0, iI_0le, iI_le0, iI_0lt, jL_iI, iI_jL, lc_eq, lc_lt, lc_le, lc_ge, lc_gt, Nat.sub_zero, Nat.zero_le, true_and, and_true, Nat.reduceAdd, Nat.reduceLeDiff]
    refine ⟨fun _ => ?_, fun g => (g (by first | trivial | rfl)).elim⟩
    refine m_fine0 h ?_
    simp (disch := omega) only [sh110, lt110, en_ops, en_opc, iI_add, iI_mul, iI_sub, jL_add, jL_mul, iI_le, iI_lt, iI_eq, iI_eq0, iI_lt0, iI_0le, iI_le0, iI_0lt, jL_iI, iI_jL, lc_eq, lc_lt, lc_le, lc_ge, lc_gt, Nat.sub_zero, Nat.zero_le, true_and, and_true, Nat.reduceAdd, Nat.reduceLeDiff]
    exact ⟨fun _ => H hi Fx.rf hX h, fun g => (g (by first | trivial | rfl)).elim⟩
  · refine m_fine1 h.1 ?_
    simp (disch := omega) only [sh110, lt110, en_ops, en_opc, iI_add, iI_mul, iI_sub, jL_add, jL_mul, iI_le, iI_lt, iI_eq, iI_eq0, iI_lt0, iI_0le, iI_le0, iI_0lt, jL_iI, iI_jL, lc_eq, lc_lt, lc_le, lc_ge, lc_gt, Nat.sub_zero, Nat.zero_le, true_and, and_true, Nat.reduceAdd, Nat.reduceLeDiff]
    refine ⟨fun g => absurd g (by decide), fun _ => ?_⟩
    refine m_word hX hR h (fun h9 F9 X9 Q9 => ?_)
    have b := X9.1
    have wl := wd_lt X q
    obtain ⟨q5, q0, qs, q4⟩ := id Q9
    simp (disch := omega) only [sh110, lt110, en_ops, en_opc, iI_add, iI_mul, iI_sub, jL_add, jL_mul, iI_le, iI_lt, iI_eq, iI_eq0, iI_lt0, iI_0le, iI_le0, iI_0lt, jL_iI, iI_jL, lc_eq, lc_lt, lc_le, lc_ge, lc_gt, Nat.sub_zero, Nat.zero_le, true_and, and_true, Nat.reduceAdd, Nat.reduceLeDiff]
    refine ⟨fun g => ?_, fun g => ?_⟩
    · have w : wdE X q = pkJ j := by omega
      refine m_fine1 q5 ?_
      simp (disch := omega) only [sh110, lt110, en_ops, en_opc, iI_add, iI_mul, iI_sub, jL_add, jL_mul, iI_le, iI_lt, iI_eq, iI_eq0, iI_lt0, iI_0le, iI_le0, iI_0lt, jL_iI, iI_jL, lc_eq, lc_lt, lc_le, lc_ge, lc_gt, Nat.sub_zero, Nat.zero_le, true_and, and_true, Nat.reduceAdd, Nat.reduceLeDiff]
      refine ⟨fun g => absurd g (by decide), fun _ => ?_⟩
      refine m_passW X9 hR Q9 (by rw [w]; exact pp) (fun h8 F8 X8 A8 => ?_)
      simp (disch := omega) only [en_ops, en_opc, iI_add, iI_mul, iI_sub, jL_add, jL_mul, iI_le, iI_lt, iI_eq, iI_eq0, iI_lt0, iI_0le, iI_le0, iI_0lt, jL_iI, iI_jL, lc_eq, lc_lt, lc_le, lc_ge, lc_gt, Nat.sub_zero, Nat.zero_le, true_and, and_true, Nat.reduceAdd, Nat.reduceLeDiff]
      refine H _ (F9.tr F8).p4 X8 ?_
      show rtX X (if wdE X q = pkJ j then .inr (nxE X q) else .inl (1, q)) _
      rw [if_pos w]
      exact A8
    · have w : ¬ wdE X q = pkJ j := by omega
      rw [q4]
      refine m_wrong1 (k := 1) (pl := q) q5 (by omega) (fun h8 F8 W8 => ?_)
      simp (disch := omega) only [sh110, lt110, en_ops, en_opc, iI_add, iI_mul, iI_sub, jL_add, jL_mul, iI_le, iI_lt, iI_eq, iI_eq0, iI_lt0, iI_0le, iI_le0, iI_0lt, jL_iI, iI_jL, lc_eq, lc_lt, lc_le, lc_ge, lc_gt, Nat.sub_zero, Nat.zero_le, true_and, and_true, Nat.reduceAdd, Nat.reduceLeDiff]
      refine m_fine0 W8 ?_
      simp (disch := omega) only [sh110, lt110, en_ops, en_opc, iI_add, iI_mul, iI_sub, jL_add, jL_mul, iI_le, iI_lt, iI_eq, iI_eq0, iI_lt0, iI_0le, iI_le0, iI_0lt, jL_iI, iI_jL, lc_eq, lc_lt, lc_le, lc_ge, lc_gt, Nat.sub_zero, Nat.zero_le, true_and, and_true, Nat.reduceAdd, Nat.reduceLeDiff]
      refine ⟨fun _ => ?_, fun g => (g (by first | trivial | rfl)).elim⟩
      refine H _ (F9.p4.tr F8) (X9.fx F8 (fun j g => by have := g.1; omega) (fun g => by have := g.2; omega)) ?_
      show rtX X (if wdE X q = pkJ j then .inr (nxE X q) else .inl (1, q)) _
      rw [if_neg w]
      exact W8
/-- a number: held at 0 behind a fault -/
theorem m_num {lo up : Int} (hb : 0 ≤ lo ∧ lo ≤ 9999 ∧ up ≤ 9999 ∧ -100 ≤ up) (hR : rfR hr) (hX : rtS X hi) (h : rtX X z hi) (H : ∀ (hi' : en_I) (v : Int), Fx Prd hi hi' → rtS X hi' → rtX X (zNm X lo up z) hi' → (v = 0 ∨ lo ≤ v ∧ v ≤ up) → (∀ q, zNm X lo up z = .inr q → v = (zVa X z : Int)) → K (.inl (some (.int (iI v)))) hi' hl hr) : en_Call G (d + 2) xc xs Y_X11_readNumber wN wN [.ref 110, .int (iI lo), .int (iI up)] hi hl hr K := by
  obtain ⟨⟨-, r9, -⟩, -⟩ := id hR
  apply en_X11_readNumber
  simp (disch := omega) only [B_X11_readNumber_0, sh110, lt110, en_ops, en_opc, iI_add, iI_mul, iI_sub, jL_add, jL_mul, iI_le, iI_lt, iI_eq, iI_eq0, iI_lt0, iI_0le, iI_le0, iI_0lt, jL_iI, iI_jL, lc_eq, lc_lt, lc_le, lc_ge, lc_gt, Nat.sub_zero, Nat.zero_le, true_and, and_true, Nat.reduceAdd, Nat.reduceLeDiff]
  rcases z with e | q
  · refine m_fine0 h ?_
    simp (disch := omega) only [sh110, lt110, en_ops, en_opc, iI_add, iI_mul, iI_sub, jL_add, jL_mul, iI_le, iI_lt, iI_eq, iI_eq0, iI_lt0, iI_0le, iI_le0, iI_0lt, jL_iI, iI_jL, lc_eq, lc_lt, lc_le, lc_ge, lc_gt, Nat.sub_zero, Nat.zero_le, true_and, and_true, Nat.reduceAdd, Nat.reduceLeDiff]
    exact ⟨fun g => (g (by first | trivial | rfl)).elim, fun _ => H hi 0 Fx.rf hX h (Or.inl rfl) (fun q e => by cases e)⟩
  · refine m_fine1 h.1 ?_
    simp (disch := omega) only [sh110, lt110, en_ops, en_opc, iI_add, iI_mul, iI_sub, jL_add, jL_mul, iI_le, iI_lt, iI_eq, iI_eq0, iI_lt0, iI_0le, iI_le0, iI_0lt, jL_iI, iI_jL, lc_eq, lc_lt, lc_le, lc_ge, lc_gt, Nat.sub_zero, Nat.zero_le, true_and, and_true, Nat.reduceAdd, Nat.reduceLeDiff]
    refine ⟨fun _ => ?_, fun g => absurd g (by decide)⟩
    refine m_here hX hR h (fun h9 F9 X9 Q9 => ?_)
    have b := X9.1
    obtain ⟨q5, q0, qs, q4⟩ := id Q9
    simp (disch := omega) only [sh110, lt110, q4, en_ops, en_opc, iI_add, iI_mul, iI_sub, jL_add, jL_mul, iI_le, iI_lt, iI_eq, iI_eq0, iI_lt0, iI_0le, iI_le0, iI_0lt, jL_iI, iI_jL, lc_eq, lc_lt, lc_le, lc_ge, lc_gt, Nat.sub_zero, Nat.zero_le, true_and, and_true, Nat.reduceAdd, Nat.reduceLeDiff]
    have e3 := X9.2.2
    by_cases k1 : kdE X q = 1
    · obtain ⟨a1, a2, a3⟩ := kd_1 k1
      rw [if_pos a1]
      refine m_isDg (d := d) (X9.2.1 q a1).1 ?_
      rw [if_pos a2]
      simp (disch := omega) only [sh110, lt110, en_ops, en_opc, iI_add, iI_mul, iI_sub, jL_add, jL_mul, iI_le, iI_lt, iI_eq, iI_eq0, iI_lt0, iI_0le, iI_le0, iI_0lt, jL_iI, iI_jL, lc_eq, lc_lt, lc_le, lc_ge, lc_gt, Nat.sub_zero, Nat.zero_le, true_and, and_true, Nat.reduceAdd, Nat.reduceLeDiff]
      refine ⟨fun _ => ?_, fun g => absurd g (by decide)⟩
      have zn : zNm X lo up (.inr q) = if lo ≤ (nvE X q : Int) ∧ (nvE X q : Int) ≤ up then .inr (nxE X q) else .inl (2, q) := if_pos k1
      have L114 : ∀ (v : Int) (h : en_I) (x3 : Value), 0 ≤ v → v ≤ 99999 → ((nvE X q : Int) ≤ 9999 → v = nvE X q) → (9999 < (nvE X q : Int) → 9999 < v) → Fx P4 h9 h → rtS X h → h 110 4 = iI (atE X q : Int) → en_V G Y_X11_readNumber (d + 2) wN wN K 114 [.ref 110, .int (iI lo), .int (iI up), x3, .int (iI (q : Int)), .int (iI v)] [] h hl hr xc xs := by
        intro v h x3 v0 v9 w1 w2 F X' h4'
        have bad : ¬ (lo ≤ (nvE X q : Int) ∧ (nvE X q : Int) ≤ up) → en_Call G (d + 1) 0 0 Y_X11_wrong wN wN [.ref 110, .int (iI 2), .int (iI (q : Int))] h hl hr (en_kk (o_iconst 0 (o_iret K)) x_no [.ref 110, .int (iI lo), .int (iI up), x3, .int (iI (q : Int)), .int (iI v)] [] xc xs) := by
          intro g
          rw [if_neg g] at zn
          refine m_wrong1 (k := 2) (pl := q) (by rw [F 110 5 (fun g => by have := g.2; omega)]; exact q5) (by omega) (fun h8 F8 W8 => ?_)
          simp (disch := omega) only [en_ops, en_opc, iI_add, iI_mul, iI_sub, jL_add, jL_mul, iI_le, iI_lt, iI_eq, iI_eq0, iI_lt0, iI_0le, iI_le0, iI_0lt, jL_iI, iI_jL, lc_eq, lc_lt, lc_le, lc_ge, lc_gt, Nat.sub_zero, Nat.zero_le, true_and, and_true, Nat.reduceAdd, Nat.reduceLeDiff]
          exact H _ 0 ((F9.tr F).p4.tr F8) (X'.fx F8 (fun j g => by have := g.1; omega) (fun g => by have := g.2; omega)) (by rw [zn]; exact W8) (Or.inl rfl) (fun q e => by rw [zn] at e; cases e)
        have w3 : ((nvE X q : Int) ≤ 9999 ∧ v = nvE X q) ∨ (9999 < (nvE X q : Int) ∧ 9999 < v) := by
          by_cases g : (nvE X q : Int) ≤ 9999
          · exact Or.inl ⟨g, w1 g⟩
          · exact Or.inr ⟨by omega, w2 (by omega)⟩
        apply s_X11_readNumber_114
        simp (disch := omega) only [B_X11_readNumber_114, sh110, lt110, en_ops, en_opc, iI_add, iI_mul, iI_sub, jL_add, jL_mul, iI_le, iI_lt, iI_eq, iI_eq0, iI_lt0, iI_0le, iI_le0, iI_0lt, jL_iI, iI_jL, lc_eq, lc_lt, lc_le, lc_ge, lc_gt, Nat.sub_zero, Nat.zero_le, true_and, and_true, Nat.reduceAdd, Nat.reduceLeDiff]
        refine ⟨fun g => bad (by omega), fun g => ⟨fun g2 => ?_, fun g2 => bad (by omega)⟩⟩
        have ve : v = nvE X q := w1 (by omega)
        have zo := zn
        rw [if_pos ⟨by omega, by omega⟩] at zo
        exact H _ v (F9.tr F).p4 X' (by rw [zo]; exact Q9.to F h4' a1) (Or.inr ⟨by omega, by omega⟩) (fun _ _ => ve)
      suffices L41 : ∀ (m p : Nat) (v : Int) (h : en_I) (x3 : Value), X.2 - p = m → q ≤ p → p ≤ X.2 → rnT X isDg p = atE X q → rtS X h → h 110 4 = iI (p : Int) → Fx P4 h9 h → 0 ≤ v → v ≤ 99999 → ((dgF (fun i => X.1 (q + i)) (p - q) : Int) ≤ 9999 → v = dgF (fun i => X.1 (q + i)) (p - q)) → (9999 < (dgF (fun i => X.1 (q + i)) (p - q) : Int) → 9999 < v) → en_V G Y_X11_readNumber (d + 2) wN wN K 41 [.ref 110, .int (iI lo), .int (iI up), x3, .int (iI (q : Int)), .int (iI v)] [] h hl hr xc xs from L41 _ q 0 h9 _ rfl (Nat.le_refl _) q0 a3.symm X9 q4 Fx.rf (by decide) (by decide) (fun _ => by rw [Nat.sub_self]; rfl) (fun g => absurd (show (9999 : Int) < ((0 : Nat) : Int) by rw [Nat.sub_self] at g; exact g) (by decide))
      intro m
      induction m with
      | zero =>
        intro p v h x3 hm hqp hp he X' h4' F v0 v9 w1 w2
        have e3' := X'.2.2
        have ep : atE X q = p := by rw [← he]; exact rt_e (by omega)
        have nv : nvE X q = dgF (fun i => X.1 (q + i)) (p - q) := by rw [← ep]; rfl
        apply s_X11_readNumber_41
        simp (disch := omega) only [B_X11_readNumber_41, sh110, lt110, h4', e3', en_ops, en_opc, iI_add, iI_mul, iI_sub, jL_add, jL_mul, iI_le, iI_lt, iI_eq, iI_eq0, iI_lt0, iI_0le, iI_le0, iI_0lt, jL_iI, iI_jL, lc_eq, lc_lt, lc_le, lc_ge, lc_gt, Nat.sub_zero, Nat.zero_le, true_and, and_true, Nat.reduceAdd, Nat.reduceLeDiff]
        exact ⟨fun _ => L114 v h x3 v0 v9 (by rw [nv]; exact w1) (by rw [nv]; exact w2) F X' (by rw [h4', ep]), fun g => absurd (show (X.2 : Int) ≤ p by omega) g⟩
      | succ m ih =>
        intro p v h x3 hm hqp hp he X' h4' F v0 v9 w1 w2
        have e3' := X'.2.2
        obtain ⟨b1, b2⟩ := X'.2.1 p (by omega)
        apply s_X11_readNumber_41
        simp (disch := omega) only [B_X11_readNumber_41, sh110, lt110, sh112, lt112, h4', e3', r9, en_ops, en_opc, iI_add, iI_mul, iI_sub, jL_add, jL_mul, iI_le, iI_lt, iI_eq, iI_eq0, iI_lt0, iI_0le, iI_le0, iI_0lt, jL_iI, iI_jL, lc_eq, lc_lt, lc_le, lc_ge, lc_gt, Nat.sub_zero, Nat.zero_le, true_and, and_true, Nat.reduceAdd, Nat.reduceLeDiff]
        refine ⟨fun g => by omega, fun _ => ⟨p, rfl, by omega, ?_⟩⟩
        rw [b2]
        refine m_isDg (d := d) b1 ?_
        by_cases l : isDg (X.1 p) = true
        · rw [if_pos l]
          have l2 := isDg_i.mp l
          have ds : dgF (fun i => X.1 (q + i)) (p + 1 - q) = 10 * dgF (fun i => X.1 (q + i)) (p - q) + (X.1 p - 48) := by
            rw [show p + 1 - q = (p - q) + 1 by omega, dg_s, show q + (p - q) = p by omega]
          simp (disch := omega) only [sh110, lt110, sh112, lt112, h4', e3', r9, en_ops, en_opc, iI_add, iI_mul, iI_sub, jL_add, jL_mul, iI_le, iI_lt, iI_eq, iI_eq0, iI_lt0, iI_0le, iI_le0, iI_0lt, jL_iI, iI_jL, lc_eq, lc_lt, lc_le, lc_ge, lc_gt, Nat.sub_zero, Nat.zero_le, true_and, and_true, Nat.reduceAdd, Nat.reduceLeDiff]
          refine ⟨fun g => absurd g (by decide), fun _ => ⟨fun g => ⟨p, rfl, by omega, ?_⟩, fun g => ?_⟩⟩
          · rw [b2]
            simp (disch := omega) only [sh110, lt110, h4', en_ops, en_opc, iI_add, iI_mul, iI_sub, jL_add, jL_mul, iI_le, iI_lt, iI_eq, iI_eq0, iI_lt0, iI_0le, iI_le0, iI_0lt, jL_iI, iI_jL, lc_eq, lc_lt, lc_le, lc_ge, lc_gt, Nat.sub_zero, Nat.zero_le, true_and, and_true, Nat.reduceAdd, Nat.reduceLeDiff]
            have FF : Fx P4 h (en_up h 110 4 (iI ((p : Int) + 1))) := Fx.up Fx.rf ⟨rfl, rfl⟩
            refine ih (p + 1) _ _ _ (by omega) (by omega) (by omega) (by rw [← he]; exact (rt_s (by omega) l).symm) (rt4 (p := p) X' _) up_at (F.tr FF) (by omega) (by omega) (fun g2 => ?_) (fun g2 => ?_)
            · rw [ds] at g2 ⊢; have := w1 (by omega); omega
            · rw [ds] at g2
              by_cases g3 : (dgF (fun i => X.1 (q + i)) (p - q) : Int) ≤ 9999
              · have := w1 g3; omega
              · have := w2 (by omega); omega
          · have FF : Fx P4 h (en_up h 110 4 (iI ((p : Int) + 1))) := Fx.up Fx.rf ⟨rfl, rfl⟩
            have g9 : ¬ (dgF (fun i => X.1 (q + i)) (p - q) : Int) ≤ 9999 := fun g3 => by have := w1 g3; omega
            refine ih (p + 1) _ _ _ (by omega) (by omega) (by omega) (by rw [← he]; exact (rt_s (by omega) l).symm) (rt4 (p := p) X' _) up_at (F.tr FF) (by omega) (by omega) (fun g2 => ?_) (fun g2 => by omega)
            rw [ds] at g2
            omega
        · rw [if_neg l]
          have ep : atE X q = p := by rw [← he]; exact rt_n (Bool.eq_false_iff.mpr l)
          have nv : nvE X q = dgF (fun i => X.1 (q + i)) (p - q) := by rw [← ep]; rfl
          simp (disch := omega) only [en_ops, en_opc, iI_add, iI_mul, iI_sub, jL_add, jL_mul, iI_le, iI_lt, iI_eq, iI_eq0, iI_lt0, iI_0le, iI_le0, iI_0lt, jL_iI, iI_jL, lc_eq, lc_lt, lc_le, lc_ge, lc_gt, Nat.sub_zero, Nat.zero_le, true_and, and_true, Nat.reduceAdd, Nat.reduceLeDiff]
          exact ⟨fun _ => L114 v h x3 v0 v9 (by rw [nv]; exact w1) (by rw [nv]; exact w2) F X' (by rw [h4', ep]), fun g => (g (by first | trivial | rfl)).elim⟩
    · have nd : isDg (if q < X.2 then X.1 q else 0) = false := by
        by_cases w : q < X.2
        · rw [if_pos w]; exact Bool.eq_false_iff.mpr (fun l => k1 (kd_d w l))
        · rw [if_neg w]; rfl
      have cc : (if q < X.2 then X.1 q else 0) < 256 := by
        by_cases w : q < X.2
        · rw [if_pos w]; exact (X9.2.1 q w).1
        · rw [if_neg w]; omega
      refine m_isDg (d := d) cc ?_
      rw [if_neg (show ¬ isDg (if q < X.2 then X.1 q else 0) = true by rw [nd]; decide)]
      simp (disch := omega) only [sh110, lt110, q4, en_ops, en_opc, iI_add, iI_mul, iI_sub, jL_add, jL_mul, iI_le, iI_lt, iI_eq, iI_eq0, iI_lt0, iI_0le, iI_le0, iI_0lt, jL_iI, iI_jL, lc_eq, lc_lt, lc_le, lc_ge, lc_gt, Nat.sub_zero, Nat.zero_le, true_and, and_true, Nat.reduceAdd, Nat.reduceLeDiff]
      refine ⟨fun g => (g (by first | trivial | rfl)).elim, fun _ => ?_⟩
      refine m_wrong1 (k := 1) (pl := q) q5 (by omega) (fun h8 F8 W8 => ?_)
      simp (disch := omega) only [en_ops, en_opc, iI_add, iI_mul, iI_sub, jL_add, jL_mul, iI_le, iI_lt, iI_eq, iI_eq0, iI_lt0, iI_0le, iI_le0, iI_0lt, jL_iI, iI_jL, lc_eq, lc_lt, lc_le, lc_ge, lc_gt, Nat.sub_zero, Nat.zero_le, true_and, and_true, Nat.reduceAdd, Nat.reduceLeDiff]
      have zn : zNm X lo up (.inr q) = .inl (1, q) := if_neg k1
      exact H _ 0 (F9.p4.tr F8) (X9.fx F8 (fun j g => by have := g.1; omega) (fun g => by have := g.2; omega)) (by rw [zn]; exact W8) (Or.inl rfl) (fun q e => by rw [zn] at e; cases e)
end
