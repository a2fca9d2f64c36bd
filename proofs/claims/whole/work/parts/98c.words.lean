section
variable {G : en_G} {d : Nat} {K : en_K} {X : tTx} {z : tZ} {hi : en_I} {hl : en_L} {hr : en_F} {xc xs : Nat}
theorem tkX.k4 {e : Nat × Nat} (h : tkX X (.inl e) hi) : hi 26 3 = iI 4 := h.2.2.2
theorem t_isWord {j : Nat} (hj : isWd j) (hR : hr 26 0 = .ref 1) (hX : tqS X hi) (h : tkX X z hi) (H : ∀ b : Int, (b = 1 ∧ zWo X z = pkJ j) ∨ (b = 0 ∧ zWo X z ≠ pkJ j) → K (.inl (some (.int (iI b)))) hi hl hr) : en_Call G (d + 5) xc xs Y_X7_isWord wN wN [.ref 26, .ref (1000000 + j)] hi hl hr K := by
  have k := h.k
  have k4 := zKd_le (X := X) z
  have pp := pk_pos hj
  have n6 := tb_n hj
  apply en_X7_isWord
  simp (disch := omega) only [B_X7_isWord_0, sh26, lt26, k, en_ops, en_opc, iI_add, iI_mul, iI_sub, jL_add, jL_mul, iI_le, iI_lt, iI_eq, iI_eq0, iI_lt0, iI_0le, iI_le0, iI_0lt, jL_iI, iI_jL, lc_eq, lc_lt, lc_le, lc_ge, lc_gt, Nat.sub_zero, Nat.zero_le, true_and, and_true, Nat.reduceAdd, Nat.reduceLeDiff]
  refine ⟨fun e => ⟨rfl, H 0 (Or.inr ⟨rfl, fun g => ?_⟩)⟩, fun e => ?_⟩
  · rcases z with e1 | q
    · exact pp g.symm
    · have := (wd_let (X := X) (q := q) (by rw [show wdE X q = pkJ j from g]; exact pp)).1
      exact e (by show (kdE X q : Int) = 2; omega)
  · rcases z with e1 | q
    · exact absurd (show (4 : Int) = 2 from e) (by decide)
    have k2 : kdE X q = 2 := by have : (kdE X q : Int) = 2 := e; omega
    obtain ⟨q1, q2, q3, q4, q5, q6, q7, -⟩ := id h
    have a1 := at_gt (X := X) (q := q) (kd_2 k2).1
    have l6 := hX.1.1
    rw [q5, q7]
    simp (disch := omega) only [en_ops, en_opc, iI_add, iI_mul, iI_sub, jL_add, jL_mul, iI_le, iI_lt, iI_eq, iI_eq0, iI_lt0, iI_0le, iI_le0, iI_0lt, jL_iI, iI_jL, lc_eq, lc_lt, lc_le, lc_ge, lc_gt, Nat.sub_zero, Nat.zero_le, true_and, and_true, Nat.reduceAdd, Nat.reduceLeDiff]
    have L : ∀ m i : Nat, (en_tb j).length - i = m → i ≤ (en_tb j).length → atE X q - q = (en_tb j).length → (∀ i', i' < i → X.1 (q + i') = cJ j i') → en_V G Y_X7_isWord (d + 4 + 1) wN wN K 28 [.ref 26, .ref (1000000 + j), .int (iI (i : Int))] [] hi hl hr xc xs := by
      intro m
      induction m with
      | zero =>
        intro i hm hi9 hlen heq
        have ei : i = (en_tb j).length := by omega
        apply s_X7_isWord_28
        simp (disch := omega) only [B_X7_isWord_28, en_ops, en_opc, iI_add, iI_mul, iI_sub, jL_add, jL_mul, iI_le, iI_lt, iI_eq, iI_eq0, iI_lt0, iI_0le, iI_le0, iI_0lt, jL_iI, iI_jL, lc_eq, lc_lt, lc_le, lc_ge, lc_gt, Nat.sub_zero, Nat.zero_le, true_and, and_true, Nat.reduceAdd, Nat.reduceLeDiff]
        refine ⟨⟨j, rfl, by rw [sl58]; exact hj.1⟩, s_len (d := d + 2) hj.1 ?_⟩
        simp (disch := omega) only [en_ops, en_opc, iI_add, iI_mul, iI_sub, jL_add, jL_mul, iI_le, iI_lt, iI_eq, iI_eq0, iI_lt0, iI_0le, iI_le0, iI_0lt, jL_iI, iI_jL, lc_eq, lc_lt, lc_le, lc_ge, lc_gt, Nat.sub_zero, Nat.zero_le, true_and, and_true, Nat.reduceAdd, Nat.reduceLeDiff]
        refine ⟨fun _ => ⟨rfl, H 1 (Or.inl ⟨rfl, (wd_is hj).mpr ⟨k2, hlen, fun i' h' => heq i' (by omega)⟩⟩)⟩, fun g => absurd g (by omega)⟩
      | succ m ih =>
        intro i hm hi9 hlen heq
        have hi8 : i < (en_tb j).length := by omega
        obtain ⟨b1, b2⟩ := hX.1.2 (q + i) (by omega)
        have wi := wd_in k2 i (by omega)
        obtain ⟨c1, c2, c3⟩ := tb_c hj hi8
        apply s_X7_isWord_28
        simp (disch := omega) only [B_X7_isWord_28, sh26, lt26, q5, hR, en_ops, en_opc, iI_add, iI_mul, iI_sub, jL_add, jL_mul, iI_le, iI_lt, iI_eq, iI_eq0, iI_lt0, iI_0le, iI_le0, iI_0lt, jL_iI, iI_jL, lc_eq, lc_lt, lc_le, lc_ge, lc_gt, Nat.sub_zero, Nat.zero_le, true_and, and_true, Nat.reduceAdd, Nat.reduceLeDiff]
        refine ⟨⟨j, rfl, by rw [sl58]; exact hj.1⟩, s_len (d := d + 2) hj.1 ?_⟩
        simp (disch := omega) only [sh26, lt26, q5, hR, en_ops, en_opc, iI_add, iI_mul, iI_sub, jL_add, jL_mul, iI_le, iI_lt, iI_eq, iI_eq0, iI_lt0, iI_0le, iI_le0, iI_0lt, jL_iI, iI_jL, lc_eq, lc_lt, lc_le, lc_ge, lc_gt, Nat.sub_zero, Nat.zero_le, true_and, and_true, Nat.reduceAdd, Nat.reduceLeDiff]
        refine ⟨fun g => absurd g (by omega), fun _ => ⟨q + i, iI_eq_of (by omega), by rw [sh1]; show q + i < 600; omega, ⟨by decide, by decide⟩, ⟨j, rfl, by rw [sl58]; exact hj.1⟩, ?_⟩⟩
        rw [b2, sb_lo (by omega)]
        refine s_charAt (d := d) hj hi8 ?_
        simp (disch := omega) only [en_ops, en_opc, iI_add, iI_mul, iI_sub, jL_add, jL_mul, iI_le, iI_lt, iI_eq, iI_eq0, iI_lt0, iI_0le, iI_le0, iI_0lt, jL_iI, iI_jL, lc_eq, lc_lt, lc_le, lc_ge, lc_gt, Nat.sub_zero, Nat.zero_le, true_and, and_true, Nat.reduceAdd, Nat.reduceLeDiff]
        refine ⟨fun g => ?_, fun g => ⟨rfl, H 0 (Or.inr ⟨rfl, fun w => ?_⟩)⟩⟩
        · exact ih (i + 1) (by omega) (by omega) hlen (fun i' h' => by
            by_cases e1 : i' = i
            · rw [e1]; omega
            · exact heq i' (by omega))
        · have := ((wd_is hj).mp (show wdE X q = pkJ j from w)).2.2 i hi8
          exact g (by omega)
    refine ⟨⟨j, rfl, by rw [sl58]; exact hj.1⟩, s_len (d := d + 2) hj.1 ?_⟩
    simp (disch := omega) only [en_ops, en_opc, iI_add, iI_mul, iI_sub, jL_add, jL_mul, iI_le, iI_lt, iI_eq, iI_eq0, iI_lt0, iI_0le, iI_le0, iI_0lt, jL_iI, iI_jL, lc_eq, lc_lt, lc_le, lc_ge, lc_gt, Nat.sub_zero, Nat.zero_le, true_and, and_true, Nat.reduceAdd, Nat.reduceLeDiff]
    refine ⟨fun g => L _ 0 rfl (by omega) (by omega) (fun i' h' => absurd h' (by omega)), fun g => ⟨rfl, H 0 (Or.inr ⟨rfl, fun w => ?_⟩)⟩⟩
    have := ((wd_is hj).mp (show wdE X q = pkJ j from w)).2.1
    exact g (by omega)
end
