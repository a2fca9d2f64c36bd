section
variable {G : en_G} {d : Nat} {K : en_K} {nc nz : Nat} {s b : Nat → Int} {f : Nat → Nat → Nat → Int} {hi : en_I} {hl : en_L} {hr : en_F} {xc xs : Nat}
theorem m_nameSize {c z k : Nat} {he bt fr cr ce : Int} (hR : rfR hr) (hs : rfH f hi) (hb : rfB b hi) (hn : rfN nc nz b) (hB : fB nc nz f) (hc : c < 12) (hz : z < nz) (hN : rfM (nmL 0 0 0 0 he bt fr cr ce) hi)
    (H : ∀ hi', Fr (· = 124) hi hi' → rfM (nmL z k (abP (sumTo z (aP f c)) (aP f c z) (wP f nz c)) (beP (sumTo z (aP f c)) (wP f nz c)) he bt fr cr ce) hi' → K (.inl none) hi' hl hr) : en_Call G (d + 4) xc xs Y_X11_nameSize wN wN [.ref 110, .int (iI c), .int (iI z), .int (iI k)] hi hl hr K := by
  have hn' := hn
  obtain ⟨n0, n1, n2, n3⟩ := hn
  have hR' := hR
  obtain ⟨⟨-, -, r10, -, r12, -⟩, ⟨-, -, -, -, -, r25⟩, -⟩ := hR
  have b1 : hi 113 1 = iI nz := by rw [hb 1 (by omega), n1]
  have w0 := wP_nn (m := nz) hB c
  have w1 := wP_le hB n3 hc
  obtain ⟨g0, g1⟩ := sum_lt (c := c) hB hz
  have az := aP_nn hB c z
  have eG := sum_gt (f := aP f c) hz
  have eL := sum_lt2 (f := aP f c) (Nat.le_of_lt hz)
  apply en_X11_nameSize
  simp (disch := omega) only [B_X11_nameSize_0, en_ops, en_opc, iI_add, iI_mul, iI_sub, jL_add, jL_mul, iI_le, iI_lt, iI_eq, iI_eq0, iI_lt0, iI_0le, iI_le0, iI_0lt, jL_iI, iI_jL, lc_eq, lc_lt, lc_le, lc_ge, lc_gt, Nat.sub_zero, Nat.zero_le, true_and, and_true, Nat.reduceAdd, Nat.reduceLeDiff]
  suffices L : ∀ i : Nat, i ≤ nz → en_V G Y_X11_nameSize (d + 4) wN wN K 9 [.ref 110, .int (iI c), .int (iI z), .int (iI k), .long (jL (sumTo i (fun i => if z < i then aP f c i else 0))), jk, .long (jL (sumTo i (fun i => if i < z then aP f c i else 0))), jk, .int (iI i)] [] hi hl hr xc xs from L 0 (by omega)
  refine lp nz ?_ (fun i hi9 ih => ?_)
  · apply s_X11_nameSize_9
    simp (disch := omega) only [B_X11_nameSize_9, r10, sh110, lt110, sh113, lt113, en_ops, en_opc, iI_add, iI_mul, iI_sub, jL_add, jL_mul, iI_le, iI_lt, iI_eq, iI_eq0, iI_lt0, iI_0le, iI_le0, iI_0lt, jL_iI, iI_jL, lc_eq, lc_lt, lc_le, lc_ge, lc_gt, Nat.sub_zero, Nat.zero_le, true_and, and_true, Nat.reduceAdd, Nat.reduceLeDiff]
    refine ⟨1, rfl, by decide, ?_⟩
    simp (disch := omega) only [b1, en_ops, en_opc, iI_add, iI_mul, iI_sub, jL_add, jL_mul, iI_le, iI_lt, iI_eq, iI_eq0, iI_lt0, iI_0le, iI_le0, iI_0lt, jL_iI, iI_jL, lc_eq, lc_lt, lc_le, lc_ge, lc_gt, Nat.sub_zero, Nat.zero_le, true_and, and_true, Nat.reduceAdd, Nat.reduceLeDiff]
    refine ⟨fun _ => m_wholeOf hR' hs hb hn' hc ?_, fun e => absurd (Int.le_refl _) e⟩
    simp (disch := omega) only [r25, sh110, lt110, sh124, lt124, en_ops, en_opc, iI_add, iI_mul, iI_sub, jL_add, jL_mul, iI_le, iI_lt, iI_eq, iI_eq0, iI_lt0, iI_0le, iI_le0, iI_0lt, jL_iI, iI_jL, lc_eq, lc_lt, lc_le, lc_ge, lc_gt, Nat.sub_zero, Nat.zero_le, true_and, and_true, Nat.reduceAdd, Nat.reduceLeDiff]
    refine ⟨0, rfl, by decide, 1, rfl, by decide, fun e => ⟨?_, ?_⟩, fun e => ?_⟩
    · rw [jL_eq0 (by omega) (by omega)]; exact e
    · rw [eG, eL]
      have eW : sumTo nz (aP f c) = wP f nz c := rfl
      rw [eW, jL_div (by omega) (by omega) (by omega) (by omega)]
      simp (disch := omega) only [en_ops, en_opc, iI_add, iI_mul, iI_sub, jL_add, jL_mul, iI_le, iI_lt, iI_eq, iI_eq0, iI_lt0, iI_0le, iI_le0, iI_0lt, jL_iI, iI_jL, lc_eq, lc_lt, lc_le, lc_ge, lc_gt, Nat.sub_zero, Nat.zero_le, true_and, and_true, Nat.reduceAdd, Nat.reduceLeDiff]
      apply s_X11_nameSize_118
      simp (disch := omega) only [B_X11_nameSize_118, r25, sh110, lt110, sh124, lt124, en_ops, en_opc, iI_add, iI_mul, iI_sub, jL_add, jL_mul, iI_le, iI_lt, iI_eq, iI_eq0, iI_lt0, iI_0le, iI_le0, iI_0lt, jL_iI, iI_jL, lc_eq, lc_lt, lc_le, lc_ge, lc_gt, Nat.sub_zero, Nat.zero_le, true_and, and_true, Nat.reduceAdd, Nat.reduceLeDiff]
      refine ⟨2, rfl, by decide, fun _ => ⟨?_, ?_⟩, fun e2 => absurd e2 e⟩
      · rw [jL_eq0 (by omega) (by omega)]; exact e
      · rw [jL_div (by omega) (by omega) (by omega) (by omega)]
        simp (disch := omega) only [en_ops, en_opc, iI_add, iI_mul, iI_sub, jL_add, jL_mul, iI_le, iI_lt, iI_eq, iI_eq0, iI_lt0, iI_0le, iI_le0, iI_0lt, jL_iI, iI_jL, lc_eq, lc_lt, lc_le, lc_ge, lc_gt, Nat.sub_zero, Nat.zero_le, true_and, and_true, Nat.reduceAdd, Nat.reduceLeDiff]
        refine ⟨3, rfl, by decide, H _ (Fr.up (Fr.up (Fr.up (Fr.up Fr.rf (by rfl)) (by rfl)) (by rfl)) (by rfl)) (fun j hj => ?_)⟩
        have z4 := hN 4 (by omega)
        have z5 := hN 5 (by omega)
        have z6 := hN 6 (by omega)
        have z7 := hN 7 (by omega)
        have z8 := hN 8 (by omega)
        have ea : abP (sumTo z (aP f c)) (aP f c z) (wP f nz c) = 16 * (wP f nz c - sumTo z (aP f c) - aP f c z) / wP f nz c := if_neg e
        have eb : beP (sumTo z (aP f c)) (wP f nz c) = 16 * sumTo z (aP f c) / wP f nz c := if_neg e
        rw [ea, eb]
        rcases (show j = 0 ∨ j = 1 ∨ j = 2 ∨ j = 3 ∨ j = 4 ∨ j = 5 ∨ j = 6 ∨ j = 7 ∨ j = 8 by omega) with rfl | rfl | rfl | rfl | rfl | rfl | rfl | rfl | rfl <;> simp [en_up, z4, z5, z6, z7, z8] <;> rfl
    · apply s_X11_nameSize_118
      simp (disch := omega) only [B_X11_nameSize_118, r25, sh110, lt110, sh124, lt124, en_ops, en_opc, iI_add, iI_mul, iI_sub, jL_add, jL_mul, iI_le, iI_lt, iI_eq, iI_eq0, iI_lt0, iI_0le, iI_le0, iI_0lt, jL_iI, iI_jL, lc_eq, lc_lt, lc_le, lc_ge, lc_gt, Nat.sub_zero, Nat.zero_le, true_and, and_true, Nat.reduceAdd, Nat.reduceLeDiff]
      refine ⟨2, rfl, by decide, fun e2 => absurd e e2, fun _ => ⟨3, rfl, by decide, H _ (Fr.up (Fr.up (Fr.up (Fr.up Fr.rf (by rfl)) (by rfl)) (by rfl)) (by rfl)) (fun j hj => ?_)⟩⟩
      have z4 := hN 4 (by omega)
      have z5 := hN 5 (by omega)
      have z6 := hN 6 (by omega)
      have z7 := hN 7 (by omega)
      have z8 := hN 8 (by omega)
      have ea : abP (sumTo z (aP f c)) (aP f c z) (wP f nz c) = 0 := if_pos e
      have eb : beP (sumTo z (aP f c)) (wP f nz c) = 0 := if_pos e
      rw [ea, eb]
      rcases (show j = 0 ∨ j = 1 ∨ j = 2 ∨ j = 3 ∨ j = 4 ∨ j = 5 ∨ j = 6 ∨ j = 7 ∨ j = 8 by omega) with rfl | rfl | rfl | rfl | rfl | rfl | rfl | rfl | rfl <;> simp [en_up, z4, z5, z6, z7, z8] <;> rfl
  · rw [sumTo_s, sumTo_s] at ih
    have a0 := aP_nn hB c i
    have a1 := aP_le hB n3 hc i
    have second : en_V G Y_X11_nameSize (d + 4) wN wN K 40 [.ref 110, .int (iI c), .int (iI z), .int (iI k), .long (jL (sumTo i (fun i => if z < i then aP f c i else 0))), jk, .long (jL (sumTo i (fun i => if i < z then aP f c i else 0))), jk, .int (iI i)] [.long (jL (if z < i then aP f c i else 0)), .long (jL (sumTo i (fun i => if z < i then aP f c i else 0)))] hi hl hr xc xs := by
      apply s_X11_nameSize_40
      simp (disch := omega) only [B_X11_nameSize_40, sh110, lt110, en_ops, en_opc, iI_add, iI_mul, iI_sub, jL_add, jL_mul, iI_le, iI_lt, iI_eq, iI_eq0, iI_lt0, iI_0le, iI_le0, iI_0lt, jL_iI, iI_jL, lc_eq, lc_lt, lc_le, lc_ge, lc_gt, Nat.sub_zero, Nat.zero_le, true_and, and_true, Nat.reduceAdd, Nat.reduceLeDiff]
      refine ⟨fun e => ?_, fun e => m_all hR' hs hc (by omega) ?_⟩
      · rw [if_neg (show ¬ i < z by omega)] at ih
        exact ih
      · simp (disch := omega) only [en_ops, en_opc, iI_add, iI_mul, iI_sub, jL_add, jL_mul, iI_le, iI_lt, iI_eq, iI_eq0, iI_lt0, iI_0le, iI_le0, iI_0lt, jL_iI, iI_jL, lc_eq, lc_lt, lc_le, lc_ge, lc_gt, Nat.sub_zero, Nat.zero_le, true_and, and_true, Nat.reduceAdd, Nat.reduceLeDiff]
        rw [if_pos (show i < z by omega)] at ih
        exact ih
    apply s_X11_nameSize_9
    simp (disch := omega) only [B_X11_nameSize_9, r10, sh110, lt110, sh113, lt113, en_ops, en_opc, iI_add, iI_mul, iI_sub, jL_add, jL_mul, iI_le, iI_lt, iI_eq, iI_eq0, iI_lt0, iI_0le, iI_le0, iI_0lt, jL_iI, iI_jL, lc_eq, lc_lt, lc_le, lc_ge, lc_gt, Nat.sub_zero, Nat.zero_le, true_and, and_true, Nat.reduceAdd, Nat.reduceLeDiff]
    refine ⟨1, rfl, by decide, ?_⟩
    simp (disch := omega) only [b1, en_ops, en_opc, iI_add, iI_mul, iI_sub, jL_add, jL_mul, iI_le, iI_lt, iI_eq, iI_eq0, iI_lt0, iI_0le, iI_le0, iI_0lt, jL_iI, iI_jL, lc_eq, lc_lt, lc_le, lc_ge, lc_gt, Nat.sub_zero, Nat.zero_le, true_and, and_true, Nat.reduceAdd, Nat.reduceLeDiff]
    refine ⟨fun e => by omega, fun _ => ⟨fun e => ?_, fun e => m_all hR' hs hc (by omega) ?_⟩⟩
    · rw [if_neg (show ¬ z < i by omega)] at second
      exact second
    · simp (disch := omega) only [en_ops, en_opc, iI_add, iI_mul, iI_sub, jL_add, jL_mul, iI_le, iI_lt, iI_eq, iI_eq0, iI_lt0, iI_0le, iI_le0, iI_0lt, jL_iI, iI_jL, lc_eq, lc_lt, lc_le, lc_ge, lc_gt, Nat.sub_zero, Nat.zero_le, true_and, and_true, Nat.reduceAdd, Nat.reduceLeDiff]
      rw [if_pos (show z < i by omega)] at second
      exact second
end
