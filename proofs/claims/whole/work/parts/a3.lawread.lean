section
variable {G : en_G} {d : Nat} {K : en_K} {X : tTx} {L o len q k pl : Nat} {hi : en_I} {hl : en_L} {hr : en_F} {xc xs : Nat}
def iw (j : Nat) (h1 : j < 58) (h2 : (1 ≤ j ∧ j ≤ 27) ∨ 32 ≤ j) : isWd j := ⟨h1, h2⟩
theorem pk1 : pkJ 1 = 3322259 := by decide +kernel
theorem iw1 : isWd 1 := ⟨by decide, by decide⟩
theorem pk2 : pkJ 2 = 20244659 := by decide +kernel
theorem iw2 : isWd 2 := ⟨by decide, by decide⟩
theorem pk3 : pkJ 3 = 267312 := by decide +kernel
theorem iw3 : isWd 3 := ⟨by decide, by decide⟩
theorem pk4 : pkJ 4 = 3741300 := by decide +kernel
theorem iw4 : isWd 4 := ⟨by decide, by decide⟩
theorem pk5 : pkJ 5 = 755084 := by decide +kernel
theorem iw5 : isWd 5 := ⟨by decide, by decide⟩
theorem pk6 : pkJ 6 = 654910919 := by decide +kernel
theorem iw6 : isWd 6 := ⟨by decide, by decide⟩
theorem pk7 : pkJ 7 = 13093465 := by decide +kernel
theorem iw7 : isWd 7 := ⟨by decide, by decide⟩
theorem pk8 : pkJ 8 = 442053 := by decide +kernel
theorem iw8 : isWd 8 := ⟨by decide, by decide⟩
theorem pk9 : pkJ 9 = 758834 := by decide +kernel
theorem iw9 : isWd 9 := ⟨by decide, by decide⟩
theorem pk10 : pkJ 10 = 514226 := by decide +kernel
theorem iw10 : isWd 10 := ⟨by decide, by decide⟩
theorem pk11 : pkJ 11 = 294 := by decide +kernel
theorem iw11 : isWd 11 := ⟨by decide, by decide⟩
theorem pk12 : pkJ 12 = 14836 := by decide +kernel
theorem iw12 : isWd 12 := ⟨by decide, by decide⟩
theorem pk13 : pkJ 13 = 1476 := by decide +kernel
theorem iw13 : isWd 13 := ⟨by decide, by decide⟩
theorem pk14 : pkJ 14 = 498 := by decide +kernel
theorem iw14 : isWd 14 := ⟨by decide, by decide⟩
theorem pk15 : pkJ 15 = 663726 := by decide +kernel
theorem iw15 : isWd 15 := ⟨by decide, by decide⟩
theorem pk16 : pkJ 16 = 176741 := by decide +kernel
theorem iw16 : isWd 16 := ⟨by decide, by decide⟩
theorem pk17 : pkJ 17 = 632645 := by decide +kernel
theorem iw17 : isWd 17 := ⟨by decide, by decide⟩
theorem pk18 : pkJ 18 = 20600006 := by decide +kernel
theorem iw18 : isWd 18 := ⟨by decide, by decide⟩
theorem pk19 : pkJ 19 = 1130181 := by decide +kernel
theorem iw19 : isWd 19 := ⟨by decide, by decide⟩
theorem pk20 : pkJ 20 = 2273783 := by decide +kernel
theorem iw20 : isWd 20 := ⟨by decide, by decide⟩
theorem pk21 : pkJ 21 = 273980692 := by decide +kernel
theorem iw21 : isWd 21 := ⟨by decide, by decide⟩
theorem pk22 : pkJ 22 = 70708 := by decide +kernel
theorem iw22 : isWd 22 := ⟨by decide, by decide⟩
theorem pk23 : pkJ 23 = 215533 := by decide +kernel
theorem iw23 : isWd 23 := ⟨by decide, by decide⟩
theorem pk24 : pkJ 24 = 3741300 := by decide +kernel
theorem iw24 : isWd 24 := ⟨by decide, by decide⟩
theorem pk25 : pkJ 25 = 103820 := by decide +kernel
theorem iw25 : isWd 25 := ⟨by decide, by decide⟩
theorem pk26 : pkJ 26 = 755397 := by decide +kernel
theorem iw26 : isWd 26 := ⟨by decide, by decide⟩
theorem pk27 : pkJ 27 = 21279923 := by decide +kernel
theorem iw27 : isWd 27 := ⟨by decide, by decide⟩
/-- a word's bytes are passed -/
theorem nx_wd {j : Nat} (hj : isWd j) (h : wdE X q = pkJ j) : q + (en_tb j).length ≤ nxE X q := by
  obtain ⟨k2, a1, -⟩ := (wd_is hj).mp h
  have := at_gt (X := X) (q := q) (kd_2 k2).1
  have : atE X q ≤ nxE X q := rt_ge
  omega
theorem f_nameTold (hR : lgR L hr) (h : lgB X L k pl hi) (H : K (.inl (some (.int (iI (-1))))) hi hl hr) : en_Call G (d + 6) xc xs Y_X2_nameTold wN wN [.ref 29] hi hl hr K := by
  have r0 := hR.1
  apply en_X2_nameTold
  simp (disch := omega) only [B_X2_nameTold_0, sh29, lt29, sh26, lt26, r0, en_ops, en_opc, iI_add, iI_mul, iI_sub, jL_add, jL_mul, iI_le, iI_lt, iI_eq, iI_eq0, iI_lt0, iI_0le, iI_le0, iI_0lt, jL_iI, iI_jL, lc_eq, lc_lt, lc_le, lc_ge, lc_gt, Nat.sub_zero, Nat.zero_le, true_and, and_true, Nat.reduceAdd, Nat.reduceLeDiff]
  refine f_isWord (j := 17) iw17 hR h ?_
  simp (disch := omega) only [sh29, lt29, sh26, lt26, r0, en_ops, en_opc, iI_add, iI_mul, iI_sub, jL_add, jL_mul, iI_le, iI_lt, iI_eq, iI_eq0, iI_lt0, iI_0le, iI_le0, iI_0lt, jL_iI, iI_jL, lc_eq, lc_lt, lc_le, lc_ge, lc_gt, Nat.sub_zero, Nat.zero_le, true_and, and_true, Nat.reduceAdd, Nat.reduceLeDiff]
  refine ⟨fun _ => ?_, fun g => (g (by first | trivial | rfl)).elim⟩
  refine f_isWord (j := 18) iw18 hR h ?_
  simp (disch := omega) only [sh29, lt29, sh26, lt26, r0, en_ops, en_opc, iI_add, iI_mul, iI_sub, jL_add, jL_mul, iI_le, iI_lt, iI_eq, iI_eq0, iI_lt0, iI_0le, iI_le0, iI_0lt, jL_iI, iI_jL, lc_eq, lc_lt, lc_le, lc_ge, lc_gt, Nat.sub_zero, Nat.zero_le, true_and, and_true, Nat.reduceAdd, Nat.reduceLeDiff]
  refine ⟨fun _ => ?_, fun g => (g (by first | trivial | rfl)).elim⟩
  refine f_isWord (j := 19) iw19 hR h ?_
  simp (disch := omega) only [sh29, lt29, sh26, lt26, r0, en_ops, en_opc, iI_add, iI_mul, iI_sub, jL_add, jL_mul, iI_le, iI_lt, iI_eq, iI_eq0, iI_lt0, iI_0le, iI_le0, iI_0lt, jL_iI, iI_jL, lc_eq, lc_lt, lc_le, lc_ge, lc_gt, Nat.sub_zero, Nat.zero_le, true_and, and_true, Nat.reduceAdd, Nat.reduceLeDiff]
  refine ⟨fun _ => ?_, fun g => (g (by first | trivial | rfl)).elim⟩
  refine f_isWord (j := 20) iw20 hR h ?_
  simp (disch := omega) only [sh29, lt29, sh26, lt26, r0, en_ops, en_opc, iI_add, iI_mul, iI_sub, jL_add, jL_mul, iI_le, iI_lt, iI_eq, iI_eq0, iI_lt0, iI_0le, iI_le0, iI_0lt, jL_iI, iI_jL, lc_eq, lc_lt, lc_le, lc_ge, lc_gt, Nat.sub_zero, Nat.zero_le, true_and, and_true, Nat.reduceAdd, Nat.reduceLeDiff]
  refine ⟨fun _ => ?_, fun g => (g (by first | trivial | rfl)).elim⟩
  refine f_isWord (j := 21) iw21 hR h ?_
  simp (disch := omega) only [sh29, lt29, sh26, lt26, r0, en_ops, en_opc, iI_add, iI_mul, iI_sub, jL_add, jL_mul, iI_le, iI_lt, iI_eq, iI_eq0, iI_lt0, iI_0le, iI_le0, iI_0lt, jL_iI, iI_jL, lc_eq, lc_lt, lc_le, lc_ge, lc_gt, Nat.sub_zero, Nat.zero_le, true_and, and_true, Nat.reduceAdd, Nat.reduceLeDiff]
  refine ⟨fun _ => ?_, fun g => (g (by first | trivial | rfl)).elim⟩
  refine f_isWord (j := 22) iw22 hR h ?_
  simp (disch := omega) only [sh29, lt29, sh26, lt26, r0, en_ops, en_opc, iI_add, iI_mul, iI_sub, jL_add, jL_mul, iI_le, iI_lt, iI_eq, iI_eq0, iI_lt0, iI_0le, iI_le0, iI_0lt, jL_iI, iI_jL, lc_eq, lc_lt, lc_le, lc_ge, lc_gt, Nat.sub_zero, Nat.zero_le, true_and, and_true, Nat.reduceAdd, Nat.reduceLeDiff]
  refine ⟨fun _ => ?_, fun g => (g (by first | trivial | rfl)).elim⟩
  refine f_isWord (j := 23) iw23 hR h ?_
  simp (disch := omega) only [sh29, lt29, sh26, lt26, r0, en_ops, en_opc, iI_add, iI_mul, iI_sub, jL_add, jL_mul, iI_le, iI_lt, iI_eq, iI_eq0, iI_lt0, iI_0le, iI_le0, iI_0lt, jL_iI, iI_jL, lc_eq, lc_lt, lc_le, lc_ge, lc_gt, Nat.sub_zero, Nat.zero_le, true_and, and_true, Nat.reduceAdd, Nat.reduceLeDiff]
  refine ⟨fun _ => ?_, fun g => (g (by first | trivial | rfl)).elim⟩
  refine f_isWord (j := 24) iw24 hR h ?_
  simp (disch := omega) only [sh29, lt29, sh26, lt26, r0, en_ops, en_opc, iI_add, iI_mul, iI_sub, jL_add, jL_mul, iI_le, iI_lt, iI_eq, iI_eq0, iI_lt0, iI_0le, iI_le0, iI_0lt, jL_iI, iI_jL, lc_eq, lc_lt, lc_le, lc_ge, lc_gt, Nat.sub_zero, Nat.zero_le, true_and, and_true, Nat.reduceAdd, Nat.reduceLeDiff]
  refine ⟨fun _ => ?_, fun g => (g (by first | trivial | rfl)).elim⟩
  refine f_isWord (j := 25) iw25 hR h ?_
  simp (disch := omega) only [sh29, lt29, sh26, lt26, r0, en_ops, en_opc, iI_add, iI_mul, iI_sub, jL_add, jL_mul, iI_le, iI_lt, iI_eq, iI_eq0, iI_lt0, iI_0le, iI_le0, iI_0lt, jL_iI, iI_jL, lc_eq, lc_lt, lc_le, lc_ge, lc_gt, Nat.sub_zero, Nat.zero_le, true_and, and_true, Nat.reduceAdd, Nat.reduceLeDiff]
  refine ⟨fun _ => ?_, fun g => (g (by first | trivial | rfl)).elim⟩
  exact H
theorem w_nameTold (hR : lgR L hr) (h : lgS X L o len q hi) (H : K (.inl (some (.int (iI (if nmE (wdE X q) < 9 then (nmE (wdE X q) : Int) else -1))))) hi hl hr) : en_Call G (d + 6) xc xs Y_X2_nameTold wN wN [.ref 29] hi hl hr K := by
  have r0 := hR.1
  have e : nmE (wdE X q) = if wdE X q = 632645 then 0 else if wdE X q = 20600006 then 1 else if wdE X q = 1130181 then 2 else if wdE X q = 2273783 then 3 else if wdE X q = 273980692 then 4 else if wdE X q = 70708 then 5 else if wdE X q = 215533 then 6 else if wdE X q = 3741300 then 7 else if wdE X q = 103820 then 8 else 9 := rfl
  rw [e] at H
  apply en_X2_nameTold
  simp (disch := omega) only [B_X2_nameTold_0, sh29, lt29, sh26, lt26, r0, en_ops, en_opc, iI_add, iI_mul, iI_sub, jL_add, jL_mul, iI_le, iI_lt, iI_eq, iI_eq0, iI_lt0, iI_0le, iI_le0, iI_0lt, jL_iI, iI_jL, lc_eq, lc_lt, lc_le, lc_ge, lc_gt, Nat.sub_zero, Nat.zero_le, true_and, and_true, Nat.reduceAdd, Nat.reduceLeDiff]
  refine w_isWord (j := 17) iw17 hR h (fun b hb => ?_)
  rw [pk17] at hb
  simp (disch := omega) only [sh29, lt29, sh26, lt26, r0, en_ops, en_opc, iI_add, iI_mul, iI_sub, jL_add, jL_mul, iI_le, iI_lt, iI_eq, iI_eq0, iI_lt0, iI_0le, iI_le0, iI_0lt, jL_iI, iI_jL, lc_eq, lc_lt, lc_le, lc_ge, lc_gt, Nat.sub_zero, Nat.zero_le, true_and, and_true, Nat.reduceAdd, Nat.reduceLeDiff]
  rcases hb with ⟨rfl, w⟩ | ⟨rfl, w⟩
  · rw [if_pos w] at H
    exact ⟨fun g => absurd g (by decide), fun _ => H⟩
  rw [if_neg w] at H
  refine ⟨fun _ => ?_, fun g => (g (by first | trivial | rfl)).elim⟩
  refine w_isWord (j := 18) iw18 hR h (fun b hb => ?_)
  rw [pk18] at hb
  simp (disch := omega) only [sh29, lt29, sh26, lt26, r0, en_ops, en_opc, iI_add, iI_mul, iI_sub, jL_add, jL_mul, iI_le, iI_lt, iI_eq, iI_eq0, iI_lt0, iI_0le, iI_le0, iI_0lt, jL_iI, iI_jL, lc_eq, lc_lt, lc_le, lc_ge, lc_gt, Nat.sub_zero, Nat.zero_le, true_and, and_true, Nat.reduceAdd, Nat.reduceLeDiff]
  rcases hb with ⟨rfl, w⟩ | ⟨rfl, w⟩
  · rw [if_pos w] at H
    exact ⟨fun g => absurd g (by decide), fun _ => H⟩
  rw [if_neg w] at H
  refine ⟨fun _ => ?_, fun g => (g (by first | trivial | rfl)).elim⟩
  refine w_isWord (j := 19) iw19 hR h (fun b hb => ?_)
  rw [pk19] at hb
  simp (disch := omega) only [sh29, lt29, sh26, lt26, r0, en_ops, en_opc, iI_add, iI_mul, iI_sub, jL_add, jL_mul, iI_le, iI_lt, iI_eq, iI_eq0, iI_lt0, iI_0le, iI_le0, iI_0lt, jL_iI, iI_jL, lc_eq, lc_lt, lc_le, lc_ge, lc_gt, Nat.sub_zero, Nat.zero_le, true_and, and_true, Nat.reduceAdd, Nat.reduceLeDiff]
  rcases hb with ⟨rfl, w⟩ | ⟨rfl, w⟩
  · rw [if_pos w] at H
    exact ⟨fun g => absurd g (by decide), fun _ => H⟩
  rw [if_neg w] at H
  refine ⟨fun _ => ?_, fun g => (g (by first | trivial | rfl)).elim⟩
  refine w_isWord (j := 20) iw20 hR h (fun b hb => ?_)
  rw [pk20] at hb
  simp (disch := omega) only [sh29, lt29, sh26, lt26, r0, en_ops, en_opc, iI_add, iI_mul, iI_sub, jL_add, jL_mul, iI_le, iI_lt, iI_eq, iI_eq0, iI_lt0, iI_0le, iI_le0, iI_0lt, jL_iI, iI_jL, lc_eq, lc_lt, lc_le, lc_ge, lc_gt, Nat.sub_zero, Nat.zero_le, true_and, and_true, Nat.reduceAdd, Nat.reduceLeDiff]
  rcases hb with ⟨rfl, w⟩ | ⟨rfl, w⟩
  · rw [if_pos w] at H
    exact ⟨fun g => absurd g (by decide), fun _ => H⟩
  rw [if_neg w] at H
  refine ⟨fun _ => ?_, fun g => (g (by first | trivial | rfl)).elim⟩
  refine w_isWord (j := 21) iw21 hR h (fun b hb => ?_)
  rw [pk21] at hb
  simp (disch := omega) only [sh29, lt29, sh26, lt26, r0, en_ops, en_opc, iI_add, iI_mul, iI_sub, jL_add, jL_mul, iI_le, iI_lt, iI_eq, iI_eq0, iI_lt0, iI_0le, iI_le0, iI_0lt, jL_iI, iI_jL, lc_eq, lc_lt, lc_le, lc_ge, lc_gt, Nat.sub_zero, Nat.zero_le, true_and, and_true, Nat.reduceAdd, Nat.reduceLeDiff]
  rcases hb with ⟨rfl, w⟩ | ⟨rfl, w⟩
  · rw [if_pos w] at H
    exact ⟨fun g => absurd g (by decide), fun _ => H⟩
  rw [if_neg w] at H
  refine ⟨fun _ => ?_, fun g => (g (by first | trivial | rfl)).elim⟩
  refine w_isWord (j := 22) iw22 hR h (fun b hb => ?_)
  rw [pk22] at hb
  simp (disch := omega) only [sh29, lt29, sh26, lt26, r0, en_ops, en_opc, iI_add, iI_mul, iI_sub, jL_add, jL_mul, iI_le, iI_lt, iI_eq, iI_eq0, iI_lt0, iI_0le, iI_le0, iI_0lt, jL_iI, iI_jL, lc_eq, lc_lt, lc_le, lc_ge, lc_gt, Nat.sub_zero, Nat.zero_le, true_and, and_true, Nat.reduceAdd, Nat.reduceLeDiff]
  rcases hb with ⟨rfl, w⟩ | ⟨rfl, w⟩
  · rw [if_pos w] at H
    exact ⟨fun g => absurd g (by decide), fun _ => H⟩
  rw [if_neg w] at H
  refine ⟨fun _ => ?_, fun g => (g (by first | trivial | rfl)).elim⟩
  refine w_isWord (j := 23) iw23 hR h (fun b hb => ?_)
  rw [pk23] at hb
  simp (disch := omega) only [sh29, lt29, sh26, lt26, r0, en_ops, en_opc, iI_add, iI_mul, iI_sub, jL_add, jL_mul, iI_le, iI_lt, iI_eq, iI_eq0, iI_lt0, iI_0le, iI_le0, iI_0lt, jL_iI, iI_jL, lc_eq, lc_lt, lc_le, lc_ge, lc_gt, Nat.sub_zero, Nat.zero_le, true_and, and_true, Nat.reduceAdd, Nat.reduceLeDiff]
  rcases hb with ⟨rfl, w⟩ | ⟨rfl, w⟩
  · rw [if_pos w] at H
    exact ⟨fun g => absurd g (by decide), fun _ => H⟩
  rw [if_neg w] at H
  refine ⟨fun _ => ?_, fun g => (g (by first | trivial | rfl)).elim⟩
  refine w_isWord (j := 24) iw24 hR h (fun b hb => ?_)
  rw [pk24] at hb
  simp (disch := omega) only [sh29, lt29, sh26, lt26, r0, en_ops, en_opc, iI_add, iI_mul, iI_sub, jL_add, jL_mul, iI_le, iI_lt, iI_eq, iI_eq0, iI_lt0, iI_0le, iI_le0, iI_0lt, jL_iI, iI_jL, lc_eq, lc_lt, lc_le, lc_ge, lc_gt, Nat.sub_zero, Nat.zero_le, true_and, and_true, Nat.reduceAdd, Nat.reduceLeDiff]
  rcases hb with ⟨rfl, w⟩ | ⟨rfl, w⟩
  · rw [if_pos w] at H
    exact ⟨fun g => absurd g (by decide), fun _ => H⟩
  rw [if_neg w] at H
  refine ⟨fun _ => ?_, fun g => (g (by first | trivial | rfl)).elim⟩
  refine w_isWord (j := 25) iw25 hR h (fun b hb => ?_)
  rw [pk25] at hb
  simp (disch := omega) only [sh29, lt29, sh26, lt26, r0, en_ops, en_opc, iI_add, iI_mul, iI_sub, jL_add, jL_mul, iI_le, iI_lt, iI_eq, iI_eq0, iI_lt0, iI_0le, iI_le0, iI_0lt, jL_iI, iI_jL, lc_eq, lc_lt, lc_le, lc_ge, lc_gt, Nat.sub_zero, Nat.zero_le, true_and, and_true, Nat.reduceAdd, Nat.reduceLeDiff]
  rcases hb with ⟨rfl, w⟩ | ⟨rfl, w⟩
  · rw [if_pos w] at H
    exact ⟨fun g => absurd g (by decide), fun _ => H⟩
  rw [if_neg w] at H
  refine ⟨fun _ => ?_, fun g => (g (by first | trivial | rfl)).elim⟩
  exact H
theorem f_cmp (hR : lgR L hr) (h : lgB X L k pl hi) (H : ∀ hi' v, lgB X L k pl hi' → Fx P26 hi hi' → K (.inl (some (.int v))) hi' hl hr) : en_Call G (d + 2) xc xs Y_X2_comparisonTold wN wN [.ref 29] hi hl hr K := by
  have r0 := hR.1
  apply en_X2_comparisonTold
  simp (disch := omega) only [B_X2_comparisonTold_0, sh29, lt29, sh26, lt26, r0, en_ops, en_opc, iI_add, iI_mul, iI_sub, jL_add, jL_mul, iI_le, iI_lt, iI_eq, iI_eq0, iI_lt0, iI_0le, iI_le0, iI_0lt, jL_iI, iI_jL, lc_eq, lc_lt, lc_le, lc_ge, lc_gt, Nat.sub_zero, Nat.zero_le, true_and, and_true, Nat.reduceAdd, Nat.reduceLeDiff]
  refine f_isSign (c := 60) ⟨by decide, by decide⟩ (by decide) h ?_
  simp (disch := omega) only [sh29, lt29, sh26, lt26, r0, en_ops, en_opc, iI_add, iI_mul, iI_sub, jL_add, jL_mul, iI_le, iI_lt, iI_eq, iI_eq0, iI_lt0, iI_0le, iI_le0, iI_0lt, jL_iI, iI_jL, lc_eq, lc_lt, lc_le, lc_ge, lc_gt, Nat.sub_zero, Nat.zero_le, true_and, and_true, Nat.reduceAdd, Nat.reduceLeDiff]
  refine ⟨fun _ => ?_, fun g => (g (by first | trivial | rfl)).elim⟩
  refine f_isSign (c := 62) ⟨by decide, by decide⟩ (by decide) h ?_
  simp (disch := omega) only [sh29, lt29, sh26, lt26, r0, en_ops, en_opc, iI_add, iI_mul, iI_sub, jL_add, jL_mul, iI_le, iI_lt, iI_eq, iI_eq0, iI_lt0, iI_0le, iI_le0, iI_0lt, jL_iI, iI_jL, lc_eq, lc_lt, lc_le, lc_ge, lc_gt, Nat.sub_zero, Nat.zero_le, true_and, and_true, Nat.reduceAdd, Nat.reduceLeDiff]
  refine ⟨fun _ => ?_, fun g => (g (by first | trivial | rfl)).elim⟩
  refine f_isSign (c := 61) ⟨by decide, by decide⟩ (by decide) h ?_
  simp (disch := omega) only [sh29, lt29, sh26, lt26, r0, en_ops, en_opc, iI_add, iI_mul, iI_sub, jL_add, jL_mul, iI_le, iI_lt, iI_eq, iI_eq0, iI_lt0, iI_0le, iI_le0, iI_0lt, jL_iI, iI_jL, lc_eq, lc_lt, lc_le, lc_ge, lc_gt, Nat.sub_zero, Nat.zero_le, true_and, and_true, Nat.reduceAdd, Nat.reduceLeDiff]
  refine ⟨fun g => (g (by first | trivial | rfl)).elim, fun _ => ?_⟩
  refine f_fail (k2 := 1) (by decide) hR h (fun hi' h' F' => ?_)
  simp (disch := omega) only [en_ops, en_opc, iI_add, iI_mul, iI_sub, jL_add, jL_mul, iI_le, iI_lt, iI_eq, iI_eq0, iI_lt0, iI_0le, iI_le0, iI_0lt, jL_iI, iI_jL, lc_eq, lc_lt, lc_le, lc_ge, lc_gt, Nat.sub_zero, Nat.zero_le, true_and, and_true, Nat.reduceAdd, Nat.reduceLeDiff]
  exact H hi' _ h' F'
theorem w_cmp (hR : lgR L hr) (h : lgS X L o len q hi) (H1 : sgE X q 60 ∨ sgE X q 62 ∨ sgE X q 61 → K (.inl (some (.int (iI (if sgE X q 60 then -14 else if sgE X q 62 then -15 else -16))))) hi hl hr) (H0 : ¬ (sgE X q 60 ∨ sgE X q 62 ∨ sgE X q 61) → ∀ hi' v, lgB X L 1 q hi' → Fx P26 hi hi' → K (.inl (some (.int v))) hi' hl hr) : en_Call G (d + 2) xc xs Y_X2_comparisonTold wN wN [.ref 29] hi hl hr K := by
  have r0 := hR.1
  apply en_X2_comparisonTold
  simp (disch := omega) only [B_X2_comparisonTold_0, sh29, lt29, sh26, lt26, r0, en_ops, en_opc, iI_add, iI_mul, iI_sub, jL_add, jL_mul, iI_le, iI_lt, iI_eq, iI_eq0, iI_lt0, iI_0le, iI_le0, iI_0lt, jL_iI, iI_jL, lc_eq, lc_lt, lc_le, lc_ge, lc_gt, Nat.sub_zero, Nat.zero_le, true_and, and_true, Nat.reduceAdd, Nat.reduceLeDiff]
  refine w_isSign (c := 60) ⟨by decide, by decide⟩ (by decide) h (fun b hb => ?_)
  simp (disch := omega) only [sh29, lt29, sh26, lt26, r0, en_ops, en_opc, iI_add, iI_mul, iI_sub, jL_add, jL_mul, iI_le, iI_lt, iI_eq, iI_eq0, iI_lt0, iI_0le, iI_le0, iI_0lt, jL_iI, iI_jL, lc_eq, lc_lt, lc_le, lc_ge, lc_gt, Nat.sub_zero, Nat.zero_le, true_and, and_true, Nat.reduceAdd, Nat.reduceLeDiff]
  rcases hb with ⟨rfl, w⟩ | ⟨rfl, w⟩
  · refine ⟨fun g => absurd g (by decide), fun _ => ?_⟩
    have := H1 (Or.inl w)
    rw [if_pos w] at this
    exact this
  refine ⟨fun _ => ?_, fun g => (g (by first | trivial | rfl)).elim⟩
  refine w_isSign (c := 62) ⟨by decide, by decide⟩ (by decide) h (fun b hb => ?_)
  simp (disch := omega) only [sh29, lt29, sh26, lt26, r0, en_ops, en_opc, iI_add, iI_mul, iI_sub, jL_add, jL_mul, iI_le, iI_lt, iI_eq, iI_eq0, iI_lt0, iI_0le, iI_le0, iI_0lt, jL_iI, iI_jL, lc_eq, lc_lt, lc_le, lc_ge, lc_gt, Nat.sub_zero, Nat.zero_le, true_and, and_true, Nat.reduceAdd, Nat.reduceLeDiff]
  rcases hb with ⟨rfl, w2⟩ | ⟨rfl, w2⟩
  · refine ⟨fun g => absurd g (by decide), fun _ => ?_⟩
    have := H1 (Or.inr (Or.inl w2))
    rw [if_neg w, if_pos w2] at this
    exact this
  refine ⟨fun _ => ?_, fun g => (g (by first | trivial | rfl)).elim⟩
  refine w_isSign (c := 61) ⟨by decide, by decide⟩ (by decide) h (fun b hb => ?_)
  simp (disch := omega) only [sh29, lt29, sh26, lt26, r0, en_ops, en_opc, iI_add, iI_mul, iI_sub, jL_add, jL_mul, iI_le, iI_lt, iI_eq, iI_eq0, iI_lt0, iI_0le, iI_le0, iI_0lt, jL_iI, iI_jL, lc_eq, lc_lt, lc_le, lc_ge, lc_gt, Nat.sub_zero, Nat.zero_le, true_and, and_true, Nat.reduceAdd, Nat.reduceLeDiff]
  rcases hb with ⟨rfl, w3⟩ | ⟨rfl, w3⟩
  · refine ⟨fun _ => ?_, fun g => absurd g (by decide)⟩
    have := H1 (Or.inr (Or.inr w3))
    rw [if_neg w, if_neg w2] at this
    exact this
  refine ⟨fun g => (g (by first | trivial | rfl)).elim, fun _ => ?_⟩
  refine w_fail (k := 1) (by decide) hR h (fun hi' h' F' => ?_)
  simp (disch := omega) only [en_ops, en_opc, iI_add, iI_mul, iI_sub, jL_add, jL_mul, iI_le, iI_lt, iI_eq, iI_eq0, iI_lt0, iI_0le, iI_le0, iI_0lt, jL_iI, iI_jL, lc_eq, lc_lt, lc_le, lc_ge, lc_gt, Nat.sub_zero, Nat.zero_le, true_and, and_true, Nat.reduceAdd, Nat.reduceLeDiff]
  exact H0 (fun g => by rcases g with g | g | g; exact w g; exact w2 g; exact w3 g) hi' _ h' F'
theorem f_jump {e : Int32} (hR : lgR L hr) (h : lgB X L k pl hi) (H : ∀ hi' (v : Int), -1 ≤ v → v ≤ 600 → lgB X L k pl hi' → Fx (lgP L 0) hi hi' → K (.inl (some (.int (iI v)))) hi' hl hr) : en_Call G (d + 2) xc xs Y_X1_emitJump wN wN [.ref L, .int e] hi hl hr K := by
  obtain ⟨s0, s1, s2, s3, s4, s5⟩ := hR.2.2.2.2.s6
  have q0 : L < 134 := by omega
  apply en_X1_emitJump
  simp (disch := omega) only [B_X1_emitJump_0, s0, q0, en_ops, en_opc, iI_add, iI_mul, iI_sub, jL_add, jL_mul, iI_le, iI_lt, iI_eq, iI_eq0, iI_lt0, iI_0le, iI_le0, iI_0lt, jL_iI, iI_jL, lc_eq, lc_lt, lc_le, lc_ge, lc_gt, Nat.sub_zero, Nat.zero_le, true_and, and_true, Nat.reduceAdd, Nat.reduceLeDiff]
  refine f_emit hR h (fun h1 b1 F1 => ?_)
  simp (disch := omega) only [s0, q0, en_ops, en_opc, iI_add, iI_mul, iI_sub, jL_add, jL_mul, iI_le, iI_lt, iI_eq, iI_eq0, iI_lt0, iI_0le, iI_le0, iI_0lt, jL_iI, iI_jL, lc_eq, lc_lt, lc_le, lc_ge, lc_gt, Nat.sub_zero, Nat.zero_le, true_and, and_true, Nat.reduceAdd, Nat.reduceLeDiff]
  refine f_emit hR b1 (fun h2 b2 F2 => ?_)
  obtain ⟨-, -, m, m6, me⟩ := id b2
  simp (disch := omega) only [s0, q0, me, en_ops, en_opc, iI_add, iI_mul, iI_sub, jL_add, jL_mul, iI_le, iI_lt, iI_eq, iI_eq0, iI_lt0, iI_0le, iI_le0, iI_0lt, jL_iI, iI_jL, lc_eq, lc_lt, lc_le, lc_ge, lc_gt, Nat.sub_zero, Nat.zero_le, true_and, and_true, Nat.reduceAdd, Nat.reduceLeDiff]
  exact H h2 _ (by omega) (by omega) b2 (F1.tr F2)
theorem f_aim {v : Int} (hv : -1 ≤ v ∧ v ≤ 600) (hR : lgR L hr) (h : lgB X L k pl hi) (H : ∀ hi', lgB X L k pl hi' → Fx (lgP L 0) hi hi' → K (.inl none) hi' hl hr) : en_Call G (d + 1) xc xs Y_X1_aim wN wN [.ref L, .int (iI v)] hi hl hr K := by
  obtain ⟨s0, s1, s2, s3, s4, s5⟩ := hR.2.2.2.2.s6
  have q0 : L < 134 := by omega
  have q1 : L + 1 < 134 := by omega
  have r0 := hR.2.2.2.1.1
  apply en_X1_aim
  simp (disch := omega) only [B_X1_aim_0, s0, s1, q0, q1, r0, en_ops, en_opc, iI_add, iI_mul, iI_sub, jL_add, jL_mul, iI_le, iI_lt, iI_eq, iI_eq0, iI_lt0, iI_0le, iI_le0, iI_0lt, jL_iI, iI_jL, lc_eq, lc_lt, lc_le, lc_ge, lc_gt, Nat.sub_zero, Nat.zero_le, true_and, and_true, Nat.reduceAdd, Nat.reduceLeDiff]
  refine ⟨fun _ => H hi h Fx.rf, fun g => ⟨fun _ => H hi h Fx.rf, fun g2 => ⟨v.toNat, iI_eq_of (by omega), by omega, ?_⟩⟩⟩
  obtain ⟨hX, hF, m, m6, me⟩ := id h
  have F2 : Fx (fun a _ => a = L + 1) hi (en_up hi (L + 1) v.toNat (hi L 1)) := Fx.up Fx.rf rfl
  exact H _ ⟨hX.fx F2 (fun j g => by omega) (fun g => by omega), hF.fx F2 (fun j g => by omega), m, m6, by rw [F2 L 1 (by omega)]; exact me⟩ (Fx.up Fx.rf (Or.inr (Or.inr (Or.inr ⟨rfl, by omega⟩))))
theorem w_jump {e : Int32} (hR : lgR L hr) (h : lgS X L o len q hi) (hl9 : len + 2 ≤ q) (H : ∀ hi', lgS X L o (len + 2) q hi' → Fx (lgP L len) hi hi' → hi' (L + 1) len = e → K (.inl (some (.int (iI ((len + 1 : Nat) : Int))))) hi' hl hr) : en_Call G (d + 2) xc xs Y_X1_emitJump wN wN [.ref L, .int e] hi hl hr K := by
  obtain ⟨s0, s1, s2, s3, s4, s5⟩ := hR.2.2.2.2.s6
  have q0 : L < 134 := by omega
  apply en_X1_emitJump
  simp (disch := omega) only [B_X1_emitJump_0, s0, q0, en_ops, en_opc, iI_add, iI_mul, iI_sub, jL_add, jL_mul, iI_le, iI_lt, iI_eq, iI_eq0, iI_lt0, iI_0le, iI_le0, iI_0lt, jL_iI, iI_jL, lc_eq, lc_lt, lc_le, lc_ge, lc_gt, Nat.sub_zero, Nat.zero_le, true_and, and_true, Nat.reduceAdd, Nat.reduceLeDiff]
  refine w_emit hR h (by omega) (fun h1 b1 F1 e1 => ?_)
  simp (disch := omega) only [s0, q0, en_ops, en_opc, iI_add, iI_mul, iI_sub, jL_add, jL_mul, iI_le, iI_lt, iI_eq, iI_eq0, iI_lt0, iI_0le, iI_le0, iI_0lt, jL_iI, iI_jL, lc_eq, lc_lt, lc_le, lc_ge, lc_gt, Nat.sub_zero, Nat.zero_le, true_and, and_true, Nat.reduceAdd, Nat.reduceLeDiff]
  refine w_emit hR b1 (by omega) (fun h2 b2 F2 e2 => ?_)
  have me := b2.2.2.2.1
  simp (disch := omega) only [s0, q0, me, en_ops, en_opc, iI_add, iI_mul, iI_sub, jL_add, jL_mul, iI_le, iI_lt, iI_eq, iI_eq0, iI_lt0, iI_0le, iI_le0, iI_0lt, jL_iI, iI_jL, lc_eq, lc_lt, lc_le, lc_ge, lc_gt, Nat.sub_zero, Nat.zero_le, true_and, and_true, Nat.reduceAdd, Nat.reduceLeDiff]
  rw [show ((len + 1 + 1 : Nat) : Int) - 1 = ((len + 1 : Nat) : Int) by omega]
  refine H h2 b2 (F1.tr (F2.lg (by omega))) ?_
  rw [F2 (L + 1) len (fun g => by unfold lgP at g; omega)]
  exact e1
theorem w_aim {j : Nat} (hj : j < 600) (hR : lgR L hr) (h : lgS X L o len q hi) (H : ∀ hi', lgS X L o len q hi' → Fx (fun a i => a = L + 1 ∧ i = j) hi hi' → hi' (L + 1) j = iI (len : Int) → K (.inl none) hi' hl hr) : en_Call G (d + 1) xc xs Y_X1_aim wN wN [.ref L, .int (iI (j : Int))] hi hl hr K := by
  obtain ⟨s0, s1, s2, s3, s4, s5⟩ := hR.2.2.2.2.s6
  have q0 : L < 134 := by omega
  have q1 : L + 1 < 134 := by omega
  have r0 := hR.2.2.2.1.1
  obtain ⟨a1, a2, a3, a4, a5⟩ := id h
  apply en_X1_aim
  simp (disch := omega) only [B_X1_aim_0, s0, s1, q0, q1, r0, en_ops, en_opc, iI_add, iI_mul, iI_sub, jL_add, jL_mul, iI_le, iI_lt, iI_eq, iI_eq0, iI_lt0, iI_0le, iI_le0, iI_0lt, jL_iI, iI_jL, lc_eq, lc_lt, lc_le, lc_ge, lc_gt, Nat.sub_zero, Nat.zero_le, true_and, and_true, Nat.reduceAdd, Nat.reduceLeDiff]
  refine ⟨fun g => absurd g (by omega), fun g => ⟨fun g2 => absurd g2 (by omega), fun g2 => ⟨j, rfl, hj, ?_⟩⟩⟩
  have F2 : Fx (fun a _ => a = L + 1) hi (en_up hi (L + 1) j (hi L 1)) := Fx.up Fx.rf rfl
  refine H _ ⟨a1.fx F2 (fun j g => by omega) (fun g => by omega), a2.fx F2 (fun j g => by omega), by rw [F2 29 2 (by omega)]; exact a3, by rw [F2 L 1 (by omega)]; exact a4, a5⟩ (Fx.up Fx.rf ⟨rfl, rfl⟩) ?_
  rw [up_at, a4]
/-! behind a fault: nothing is read, what is written is lost -/
theorem f_fact (hR : lgR L hr) (h : lgB X L k pl hi) (H : ∀ hi', lgB X L k pl hi' → Fx (lgP L 0) hi hi' → K (.inl none) hi' hl hr) : en_Call G (d + 7) xc xs Y_X2_readFactor wN wN [.ref 29] hi hl hr K := by
  have r0 := hR.1
  apply en_X2_readFactor
  simp (disch := omega) only [B_X2_readFactor_0, sh29, lt29, sh26, lt26, en_ops, en_opc, iI_add, iI_mul, iI_sub, jL_add, jL_mul, iI_le, iI_lt, iI_eq, iI_eq0, iI_lt0, iI_0le, iI_le0, iI_0lt, jL_iI, iI_jL, lc_eq, lc_lt, lc_le, lc_ge, lc_gt, Nat.sub_zero, Nat.zero_le, true_and, and_true, Nat.reduceAdd, Nat.reduceLeDiff]
  refine f_nameTold hR h ?_
  simp (disch := omega) only [sh29, lt29, sh26, lt26, r0, en_ops, en_opc, iI_add, iI_mul, iI_sub, jL_add, jL_mul, iI_le, iI_lt, iI_eq, iI_eq0, iI_lt0, iI_0le, iI_le0, iI_0lt, jL_iI, iI_jL, lc_eq, lc_lt, lc_le, lc_ge, lc_gt, Nat.sub_zero, Nat.zero_le, true_and, and_true, Nat.reduceAdd, Nat.reduceLeDiff]
  refine t_hasNumber (X := X) (d := d + 5) (z := .inl (k, pl)) h.2.1 (fun b hb => ?_)
  simp (disch := omega) only [sh29, lt29, sh26, lt26, r0, en_ops, en_opc, iI_add, iI_mul, iI_sub, jL_add, jL_mul, iI_le, iI_lt, iI_eq, iI_eq0, iI_lt0, iI_0le, iI_le0, iI_0lt, jL_iI, iI_jL, lc_eq, lc_lt, lc_le, lc_ge, lc_gt, Nat.sub_zero, Nat.zero_le, true_and, and_true, Nat.reduceAdd, Nat.reduceLeDiff]
  rcases hb with ⟨rfl, g⟩ | ⟨rfl, g⟩
  · exact absurd (show (4 : Nat) = 1 from g) (by decide)
  refine ⟨fun _ => ?_, fun g => (g (by first | trivial | rfl)).elim⟩
  refine ⟨fun _ => ?_, fun g => (g (by first | trivial | rfl)).elim⟩
  refine f_isSign (c := 40) ⟨by decide, by decide⟩ (by decide) h ?_
  simp (disch := omega) only [sh29, lt29, sh26, lt26, r0, en_ops, en_opc, iI_add, iI_mul, iI_sub, jL_add, jL_mul, iI_le, iI_lt, iI_eq, iI_eq0, iI_lt0, iI_0le, iI_le0, iI_0lt, jL_iI, iI_jL, lc_eq, lc_lt, lc_le, lc_ge, lc_gt, Nat.sub_zero, Nat.zero_le, true_and, and_true, Nat.reduceAdd, Nat.reduceLeDiff]
  refine ⟨fun _ => ?_, fun g => (g (by first | trivial | rfl)).elim⟩
  refine f_fail (k2 := 1) (by decide) hR h (fun hi' h' F' => ?_)
  simp (disch := omega) only [en_ops, en_opc, iI_add, iI_mul, iI_sub, jL_add, jL_mul, iI_le, iI_lt, iI_eq, iI_eq0, iI_lt0, iI_0le, iI_le0, iI_0lt, jL_iI, iI_jL, lc_eq, lc_lt, lc_le, lc_ge, lc_gt, Nat.sub_zero, Nat.zero_le, true_and, and_true, Nat.reduceAdd, Nat.reduceLeDiff]
  exact H hi' h' F'.p26

theorem f_readTerm_loop {ls : List Value} {i : Nat} (hi6 : i ≤ 600) (hls : ls.length = 1) (hR : lgR L hr) (h : lgB X L k pl hi) (H : K (.inl none) hi hl hr) : en_V G Y_X2_readTerm (d + 7) wN wN K 6 (.ref 29 :: .int (iI (i : Int)) :: ls) [] hi hl hr xc xs := by
  have r0 := hR.1
  apply s_X2_readTerm_6
  simp (disch := omega) only [B_X2_readTerm_6, sh29, lt29, sh26, lt26, r0, en_ops, en_opc, iI_add, iI_mul, iI_sub, jL_add, jL_mul, iI_le, iI_lt, iI_eq, iI_eq0, iI_lt0, iI_0le, iI_le0, iI_0lt, jL_iI, iI_jL, lc_eq, lc_lt, lc_le, lc_ge, lc_gt, Nat.sub_zero, Nat.zero_le, true_and, and_true, Nat.reduceAdd, Nat.reduceLeDiff]
  refine ⟨fun _ => H, fun _ => ?_⟩
  refine f_isSign (c := 42) ⟨by decide, by decide⟩ (by decide) h ?_
  simp (disch := omega) only [sh29, lt29, sh26, lt26, r0, en_ops, en_opc, iI_add, iI_mul, iI_sub, jL_add, jL_mul, iI_le, iI_lt, iI_eq, iI_eq0, iI_lt0, iI_0le, iI_le0, iI_0lt, jL_iI, iI_jL, lc_eq, lc_lt, lc_le, lc_ge, lc_gt, Nat.sub_zero, Nat.zero_le, true_and, and_true, Nat.reduceAdd, Nat.reduceLeDiff]
  refine ⟨fun g => (g (by first | trivial | rfl)).elim, fun _ => ?_⟩
  refine f_isSign (c := 47) ⟨by decide, by decide⟩ (by decide) h ?_
  simp (disch := omega) only [sh29, lt29, sh26, lt26, r0, en_ops, en_opc, iI_add, iI_mul, iI_sub, jL_add, jL_mul, iI_le, iI_lt, iI_eq, iI_eq0, iI_lt0, iI_0le, iI_le0, iI_0lt, jL_iI, iI_jL, lc_eq, lc_lt, lc_le, lc_ge, lc_gt, Nat.sub_zero, Nat.zero_le, true_and, and_true, Nat.reduceAdd, Nat.reduceLeDiff]
  exact ⟨fun _ => H, fun g => (g (by first | trivial | rfl)).elim⟩
theorem f_term (hR : lgR L hr) (h : lgB X L k pl hi) (H : ∀ hi', lgB X L k pl hi' → Fx (lgP L 0) hi hi' → K (.inl none) hi' hl hr) : en_Call G (d + 8) xc xs Y_X2_readTerm wN wN [.ref 29] hi hl hr K := by
  apply en_X2_readTerm
  simp (disch := omega) only [B_X2_readTerm_0, sh29, lt29, sh26, lt26, en_ops, en_opc, iI_add, iI_mul, iI_sub, jL_add, jL_mul, iI_le, iI_lt, iI_eq, iI_eq0, iI_lt0, iI_0le, iI_le0, iI_0lt, jL_iI, iI_jL, lc_eq, lc_lt, lc_le, lc_ge, lc_gt, Nat.sub_zero, Nat.zero_le, true_and, and_true, Nat.reduceAdd, Nat.reduceLeDiff]
  refine f_fact hR h (fun h1 b1 F1 => ?_)
  simp (disch := omega) only [en_ops, en_opc, iI_add, iI_mul, iI_sub, jL_add, jL_mul, iI_le, iI_lt, iI_eq, iI_eq0, iI_lt0, iI_0le, iI_le0, iI_0lt, jL_iI, iI_jL, lc_eq, lc_lt, lc_le, lc_ge, lc_gt, Nat.sub_zero, Nat.zero_le, true_and, and_true, Nat.reduceAdd, Nat.reduceLeDiff]
  exact f_readTerm_loop (d := d + 1) (i := 0) (by omega) rfl hR b1 (H h1 b1 F1)
theorem f_readValue_loop {ls : List Value} {i : Nat} (hi6 : i ≤ 600) (hls : ls.length = 1) (hR : lgR L hr) (h : lgB X L k pl hi) (H : K (.inl none) hi hl hr) : en_V G Y_X2_readValue (d + 7) wN wN K 23 (.ref 29 :: .int (iI (i : Int)) :: ls) [] hi hl hr xc xs := by
  have r0 := hR.1
  apply s_X2_readValue_23
  simp (disch := omega) only [B_X2_readValue_23, sh29, lt29, sh26, lt26, r0, en_ops, en_opc, iI_add, iI_mul, iI_sub, jL_add, jL_mul, iI_le, iI_lt, iI_eq, iI_eq0, iI_lt0, iI_0le, iI_le0, iI_0lt, jL_iI, iI_jL, lc_eq, lc_lt, lc_le, lc_ge, lc_gt, Nat.sub_zero, Nat.zero_le, true_and, and_true, Nat.reduceAdd, Nat.reduceLeDiff]
  refine ⟨fun _ => H, fun _ => ?_⟩
  refine f_isSign (c := 43) ⟨by decide, by decide⟩ (by decide) h ?_
  simp (disch := omega) only [sh29, lt29, sh26, lt26, r0, en_ops, en_opc, iI_add, iI_mul, iI_sub, jL_add, jL_mul, iI_le, iI_lt, iI_eq, iI_eq0, iI_lt0, iI_0le, iI_le0, iI_0lt, jL_iI, iI_jL, lc_eq, lc_lt, lc_le, lc_ge, lc_gt, Nat.sub_zero, Nat.zero_le, true_and, and_true, Nat.reduceAdd, Nat.reduceLeDiff]
  refine ⟨fun g => (g (by first | trivial | rfl)).elim, fun _ => ?_⟩
  refine f_isSign (c := 45) ⟨by decide, by decide⟩ (by decide) h ?_
  simp (disch := omega) only [sh29, lt29, sh26, lt26, r0, en_ops, en_opc, iI_add, iI_mul, iI_sub, jL_add, jL_mul, iI_le, iI_lt, iI_eq, iI_eq0, iI_lt0, iI_0le, iI_le0, iI_0lt, jL_iI, iI_jL, lc_eq, lc_lt, lc_le, lc_ge, lc_gt, Nat.sub_zero, Nat.zero_le, true_and, and_true, Nat.reduceAdd, Nat.reduceLeDiff]
  exact ⟨fun _ => H, fun g => (g (by first | trivial | rfl)).elim⟩
theorem f_val (hR : lgR L hr) (h : lgB X L k pl hi) (H : ∀ hi', lgB X L k pl hi' → Fx (lgP L 0) hi hi' → K (.inl none) hi' hl hr) : en_Call G (d + 9) xc xs Y_X2_readValue wN wN [.ref 29] hi hl hr K := by
  have r0 := hR.1
  apply en_X2_readValue
  simp (disch := omega) only [B_X2_readValue_0, sh29, lt29, sh26, lt26, r0, en_ops, en_opc, iI_add, iI_mul, iI_sub, jL_add, jL_mul, iI_le, iI_lt, iI_eq, iI_eq0, iI_lt0, iI_0le, iI_le0, iI_0lt, jL_iI, iI_jL, lc_eq, lc_lt, lc_le, lc_ge, lc_gt, Nat.sub_zero, Nat.zero_le, true_and, and_true, Nat.reduceAdd, Nat.reduceLeDiff]
  refine f_isWord (d := d + 3) (j := 11) iw11 hR h ?_
  simp (disch := omega) only [sh29, lt29, sh26, lt26, en_ops, en_opc, iI_add, iI_mul, iI_sub, jL_add, jL_mul, iI_le, iI_lt, iI_eq, iI_eq0, iI_lt0, iI_0le, iI_le0, iI_0lt, jL_iI, iI_jL, lc_eq, lc_lt, lc_le, lc_ge, lc_gt, Nat.sub_zero, Nat.zero_le, true_and, and_true, Nat.reduceAdd, Nat.reduceLeDiff]
  refine ⟨fun _ => ?_, fun g => (g (by first | trivial | rfl)).elim⟩
  refine f_term hR h (fun h1 b1 F1 => ?_)
  simp (disch := omega) only [en_ops, en_opc, iI_add, iI_mul, iI_sub, jL_add, jL_mul, iI_le, iI_lt, iI_eq, iI_eq0, iI_lt0, iI_0le, iI_le0, iI_0lt, jL_iI, iI_jL, lc_eq, lc_lt, lc_le, lc_ge, lc_gt, Nat.sub_zero, Nat.zero_le, true_and, and_true, Nat.reduceAdd, Nat.reduceLeDiff]
  exact f_readValue_loop (d := d + 2) (i := 0) (by omega) rfl hR b1 (H h1 b1 F1)
theorem f_test (hR : lgR L hr) (h : lgB X L k pl hi) (H : ∀ hi', lgB X L k pl hi' → Fx (lgP L 0) hi hi' → K (.inl none) hi' hl hr) : en_Call G (d + 10) xc xs Y_X2_readTest wN wN [.ref 29] hi hl hr K := by
  have r0 := hR.1
  have r1 := hR.2.1
  have q0 : L < 134 := by have := hR.2.2.2.2.s6; omega
  apply en_X2_readTest
  simp (disch := omega) only [B_X2_readTest_0, sh29, lt29, sh26, lt26, r0, en_ops, en_opc, iI_add, iI_mul, iI_sub, jL_add, jL_mul, iI_le, iI_lt, iI_eq, iI_eq0, iI_lt0, iI_0le, iI_le0, iI_0lt, jL_iI, iI_jL, lc_eq, lc_lt, lc_le, lc_ge, lc_gt, Nat.sub_zero, Nat.zero_le, true_and, and_true, Nat.reduceAdd, Nat.reduceLeDiff]
  refine f_isWord (d := d + 4) (j := 12) iw12 hR h ?_
  simp (disch := omega) only [sh29, lt29, sh26, lt26, r0, en_ops, en_opc, iI_add, iI_mul, iI_sub, jL_add, jL_mul, iI_le, iI_lt, iI_eq, iI_eq0, iI_lt0, iI_0le, iI_le0, iI_0lt, jL_iI, iI_jL, lc_eq, lc_lt, lc_le, lc_ge, lc_gt, Nat.sub_zero, Nat.zero_le, true_and, and_true, Nat.reduceAdd, Nat.reduceLeDiff]
  refine ⟨fun _ => ?_, fun g => (g (by first | trivial | rfl)).elim⟩
  refine f_isSign (d := d + 8) (c := 91) ⟨by decide, by decide⟩ (by decide) h ?_
  simp (disch := omega) only [sh29, lt29, sh26, lt26, r0, en_ops, en_opc, iI_add, iI_mul, iI_sub, jL_add, jL_mul, iI_le, iI_lt, iI_eq, iI_eq0, iI_lt0, iI_0le, iI_le0, iI_0lt, jL_iI, iI_jL, lc_eq, lc_lt, lc_le, lc_ge, lc_gt, Nat.sub_zero, Nat.zero_le, true_and, and_true, Nat.reduceAdd, Nat.reduceLeDiff]
  refine ⟨fun _ => ?_, fun g => (g (by first | trivial | rfl)).elim⟩
  refine f_val hR h (fun h1 b1 F1 => ?_)
  simp (disch := omega) only [sh29, lt29, sh26, lt26, r0, en_ops, en_opc, iI_add, iI_mul, iI_sub, jL_add, jL_mul, iI_le, iI_lt, iI_eq, iI_eq0, iI_lt0, iI_0le, iI_le0, iI_0lt, jL_iI, iI_jL, lc_eq, lc_lt, lc_le, lc_ge, lc_gt, Nat.sub_zero, Nat.zero_le, true_and, and_true, Nat.reduceAdd, Nat.reduceLeDiff]
  refine f_cmp (d := d + 7) hR b1 (fun h2 v b2 F2 => ?_)
  simp (disch := omega) only [sh29, lt29, sh26, lt26, r0, en_ops, en_opc, iI_add, iI_mul, iI_sub, jL_add, jL_mul, iI_le, iI_lt, iI_eq, iI_eq0, iI_lt0, iI_0le, iI_le0, iI_0lt, jL_iI, iI_jL, lc_eq, lc_lt, lc_le, lc_ge, lc_gt, Nat.sub_zero, Nat.zero_le, true_and, and_true, Nat.reduceAdd, Nat.reduceLeDiff]
  refine f_step (d := d + 7) hR b2 (fun h3 b3 F3 => ?_)
  simp (disch := omega) only [sh29, lt29, sh26, lt26, r0, en_ops, en_opc, iI_add, iI_mul, iI_sub, jL_add, jL_mul, iI_le, iI_lt, iI_eq, iI_eq0, iI_lt0, iI_0le, iI_le0, iI_0lt, jL_iI, iI_jL, lc_eq, lc_lt, lc_le, lc_ge, lc_gt, Nat.sub_zero, Nat.zero_le, true_and, and_true, Nat.reduceAdd, Nat.reduceLeDiff]
  refine f_val hR b3 (fun h4 b4 F4 => ?_)
  simp (disch := omega) only [sh29, lt29, sh26, lt26, r1, hR.2.2.2.2.s6.1, q0, en_ops, en_opc, iI_add, iI_mul, iI_sub, jL_add, jL_mul, iI_le, iI_lt, iI_eq, iI_eq0, iI_lt0, iI_0le, iI_le0, iI_0lt, jL_iI, iI_jL, lc_eq, lc_lt, lc_le, lc_ge, lc_gt, Nat.sub_zero, Nat.zero_le, true_and, and_true, Nat.reduceAdd, Nat.reduceLeDiff]
  refine f_emit (d := d + 8) hR b4 (fun h5 b5 F5 => ?_)
  simp (disch := omega) only [en_ops, en_opc, iI_add, iI_mul, iI_sub, jL_add, jL_mul, iI_le, iI_lt, iI_eq, iI_eq0, iI_lt0, iI_0le, iI_le0, iI_0lt, jL_iI, iI_jL, lc_eq, lc_lt, lc_le, lc_ge, lc_gt, Nat.sub_zero, Nat.zero_le, true_and, and_true, Nat.reduceAdd, Nat.reduceLeDiff]
  exact H h5 b5 ((((F1.tr F2.p26).tr F3.p26).tr F4).tr F5)
theorem f_readBoth_loop {ls : List Value} {i : Nat} (hi6 : i ≤ 600) (hls : ls.length = 0) (hR : lgR L hr) (h : lgB X L k pl hi) (H : K (.inl none) hi hl hr) : en_V G Y_X2_readBoth (d + 7) wN wN K 6 (.ref 29 :: .int (iI (i : Int)) :: ls) [] hi hl hr xc xs := by
  have r0 := hR.1
  apply s_X2_readBoth_6
  simp (disch := omega) only [B_X2_readBoth_6, sh29, lt29, sh26, lt26, r0, en_ops, en_opc, iI_add, iI_mul, iI_sub, jL_add, jL_mul, iI_le, iI_lt, iI_eq, iI_eq0, iI_lt0, iI_0le, iI_le0, iI_0lt, jL_iI, iI_jL, lc_eq, lc_lt, lc_le, lc_ge, lc_gt, Nat.sub_zero, Nat.zero_le, true_and, and_true, Nat.reduceAdd, Nat.reduceLeDiff]
  refine ⟨fun _ => H, fun _ => ?_⟩
  refine f_isWord (j := 13) iw13 hR h ?_
  simp (disch := omega) only [sh29, lt29, sh26, lt26, r0, en_ops, en_opc, iI_add, iI_mul, iI_sub, jL_add, jL_mul, iI_le, iI_lt, iI_eq, iI_eq0, iI_lt0, iI_0le, iI_le0, iI_0lt, jL_iI, iI_jL, lc_eq, lc_lt, lc_le, lc_ge, lc_gt, Nat.sub_zero, Nat.zero_le, true_and, and_true, Nat.reduceAdd, Nat.reduceLeDiff]
  exact ⟨fun _ => H, fun g => (g (by first | trivial | rfl)).elim⟩
theorem f_both (hR : lgR L hr) (h : lgB X L k pl hi) (H : ∀ hi', lgB X L k pl hi' → Fx (lgP L 0) hi hi' → K (.inl none) hi' hl hr) : en_Call G (d + 11) xc xs Y_X2_readBoth wN wN [.ref 29] hi hl hr K := by
  apply en_X2_readBoth
  simp (disch := omega) only [B_X2_readBoth_0, sh29, lt29, sh26, lt26, en_ops, en_opc, iI_add, iI_mul, iI_sub, jL_add, jL_mul, iI_le, iI_lt, iI_eq, iI_eq0, iI_lt0, iI_0le, iI_le0, iI_0lt, jL_iI, iI_jL, lc_eq, lc_lt, lc_le, lc_ge, lc_gt, Nat.sub_zero, Nat.zero_le, true_and, and_true, Nat.reduceAdd, Nat.reduceLeDiff]
  refine f_test hR h (fun h1 b1 F1 => ?_)
  simp (disch := omega) only [en_ops, en_opc, iI_add, iI_mul, iI_sub, jL_add, jL_mul, iI_le, iI_lt, iI_eq, iI_eq0, iI_lt0, iI_0le, iI_le0, iI_0lt, jL_iI, iI_jL, lc_eq, lc_lt, lc_le, lc_ge, lc_gt, Nat.sub_zero, Nat.zero_le, true_and, and_true, Nat.reduceAdd, Nat.reduceLeDiff]
  exact f_readBoth_loop (d := d + 4) (i := 0) (by omega) rfl hR b1 (H h1 b1 F1)
theorem f_readCondition_loop {ls : List Value} {i : Nat} (hi6 : i ≤ 600) (hls : ls.length = 0) (hR : lgR L hr) (h : lgB X L k pl hi) (H : K (.inl none) hi hl hr) : en_V G Y_X2_readCondition (d + 7) wN wN K 6 (.ref 29 :: .int (iI (i : Int)) :: ls) [] hi hl hr xc xs := by
  have r0 := hR.1
  apply s_X2_readCondition_6
  simp (disch := omega) only [B_X2_readCondition_6, sh29, lt29, sh26, lt26, r0, en_ops, en_opc, iI_add, iI_mul, iI_sub, jL_add, jL_mul, iI_le, iI_lt, iI_eq, iI_eq0, iI_lt0, iI_0le, iI_le0, iI_0lt, jL_iI, iI_jL, lc_eq, lc_lt, lc_le, lc_ge, lc_gt, Nat.sub_zero, Nat.zero_le, true_and, and_true, Nat.reduceAdd, Nat.reduceLeDiff]
  refine ⟨fun _ => H, fun _ => ?_⟩
  refine f_isWord (j := 14) iw14 hR h ?_
  simp (disch := omega) only [sh29, lt29, sh26, lt26, r0, en_ops, en_opc, iI_add, iI_mul, iI_sub, jL_add, jL_mul, iI_le, iI_lt, iI_eq, iI_eq0, iI_lt0, iI_0le, iI_le0, iI_0lt, jL_iI, iI_jL, lc_eq, lc_lt, lc_le, lc_ge, lc_gt, Nat.sub_zero, Nat.zero_le, true_and, and_true, Nat.reduceAdd, Nat.reduceLeDiff]
  exact ⟨fun _ => H, fun g => (g (by first | trivial | rfl)).elim⟩
theorem f_cond (hR : lgR L hr) (h : lgB X L k pl hi) (H : ∀ hi', lgB X L k pl hi' → Fx (lgP L 0) hi hi' → K (.inl none) hi' hl hr) : en_Call G (d + 12) xc xs Y_X2_readCondition wN wN [.ref 29] hi hl hr K := by
  apply en_X2_readCondition
  simp (disch := omega) only [B_X2_readCondition_0, sh29, lt29, sh26, lt26, en_ops, en_opc, iI_add, iI_mul, iI_sub, jL_add, jL_mul, iI_le, iI_lt, iI_eq, iI_eq0, iI_lt0, iI_0le, iI_le0, iI_0lt, jL_iI, iI_jL, lc_eq, lc_lt, lc_le, lc_ge, lc_gt, Nat.sub_zero, Nat.zero_le, true_and, and_true, Nat.reduceAdd, Nat.reduceLeDiff]
  refine f_both hR h (fun h1 b1 F1 => ?_)
  simp (disch := omega) only [en_ops, en_opc, iI_add, iI_mul, iI_sub, jL_add, jL_mul, iI_le, iI_lt, iI_eq, iI_eq0, iI_lt0, iI_0le, iI_le0, iI_0lt, jL_iI, iI_jL, lc_eq, lc_lt, lc_le, lc_ge, lc_gt, Nat.sub_zero, Nat.zero_le, true_and, and_true, Nat.reduceAdd, Nat.reduceLeDiff]
  exact f_readCondition_loop (d := d + 5) (i := 0) (by omega) rfl hR b1 (H h1 b1 F1)
end
