section
variable {G : en_G} {d : Nat} {K : en_K} {nc nz : Nat} {s b : Nat → Int} {f : Nat → Nat → Nat → Int} {hi : en_I} {hl : en_L} {hr : en_F} {xc xs : Nat}
theorem m_isHorn {c : Nat} (hR : rfR hr) (hs : rfH f hi) (hb : rfB b hi) (hn : rfN nc nz b) (hB : fB nc nz f) (hc : c < nc) (H : K (.inl (some (.int (iI (hnI f nc nz c))))) hi hl hr) : en_Call G (d + 4) xc xs Y_X11_isHorn wN wN [.ref 110, .int (iI c)] hi hl hr K := by
  have hn' := hn
  obtain ⟨n0, n1, n2, n3⟩ := hn
  have hR' := hR
  obtain ⟨⟨-, -, r10, -, r12, -⟩, -⟩ := hR
  have e0 : hi 113 0 = iI nc := by rw [hb 0 (by omega), n0]
  have ww : ∀ c : Nat, c < 12 → 0 ≤ wP f nz c ∧ wP f nz c ≤ 10000000 := fun c hc => ⟨wP_nn hB c, wP_le hB n3 hc⟩
  obtain ⟨wc0, wc1⟩ := ww c (by omega)
  have yes : hnP f nc nz c → K (.inl (some (.int (iI 1)))) hi hl hr := fun q => by
    unfold hnI at H; rw [if_pos q] at H; exact H
  have no : ¬ hnP f nc nz c → K (.inl (some (.int (iI 0)))) hi hl hr := fun q => by
    unfold hnI at H; rw [if_neg q] at H; exact H
  apply en_X11_isHorn
  simp (disch := omega) only [B_X11_isHorn_0, sh110, lt110, en_ops, en_opc, iI_add, iI_mul, iI_sub, jL_add, jL_mul, iI_le, iI_lt, iI_eq, iI_eq0, iI_lt0, iI_0le, iI_le0, iI_0lt, jL_iI, iI_jL, lc_eq, lc_lt, lc_le, lc_ge, lc_gt, Nat.sub_zero, Nat.zero_le, true_and, and_true, Nat.reduceAdd, Nat.reduceLeDiff]
  refine m_wholeOf hR' hs hb hn' (by omega) ?_
  simp (disch := omega) only [sh110, lt110, en_ops, en_opc, iI_add, iI_mul, iI_sub, jL_add, jL_mul, iI_le, iI_lt, iI_eq, iI_eq0, iI_lt0, iI_0le, iI_le0, iI_0lt, jL_iI, iI_jL, lc_eq, lc_lt, lc_le, lc_ge, lc_gt, Nat.sub_zero, Nat.zero_le, true_and, and_true, Nat.reduceAdd, Nat.reduceLeDiff]
  have at21 : (c = 0 ∨ wP f nz (c - 1) < wP f nz c) → en_V G Y_X11_isHorn (d + 4) wN wN K 21 [.ref 110, .int (iI c), .int (iI (wP f nz c))] [] hi hl hr xc xs := by
    intro q
    apply s_X11_isHorn_21
    simp (disch := omega) only [B_X11_isHorn_21, r10, sh110, lt110, sh113, lt113, en_ops, en_opc, iI_add, iI_mul, iI_sub, jL_add, jL_mul, iI_le, iI_lt, iI_eq, iI_eq0, iI_lt0, iI_0le, iI_le0, iI_0lt, jL_iI, iI_jL, lc_eq, lc_lt, lc_le, lc_ge, lc_gt, Nat.sub_zero, Nat.zero_le, true_and, and_true, Nat.reduceAdd, Nat.reduceLeDiff]
    refine ⟨0, rfl, by decide, ?_⟩
    simp (disch := omega) only [e0, en_ops, en_opc, iI_add, iI_mul, iI_sub, jL_add, jL_mul, iI_le, iI_lt, iI_eq, iI_eq0, iI_lt0, iI_0le, iI_le0, iI_0lt, jL_iI, iI_jL, lc_eq, lc_lt, lc_le, lc_ge, lc_gt, Nat.sub_zero, Nat.zero_le, true_and, and_true, Nat.reduceAdd, Nat.reduceLeDiff]
    refine ⟨fun e => ⟨rfl, yes ⟨q, Or.inl (by omega)⟩⟩, fun e => ?_⟩
    obtain ⟨wd0, wd1⟩ := ww (c + 1) (by omega)
    refine m_wholeOf (c := c + 1) hR' hs hb hn' (by omega) ?_
    simp (disch := omega) only [en_ops, en_opc, iI_add, iI_mul, iI_sub, jL_add, jL_mul, iI_le, iI_lt, iI_eq, iI_eq0, iI_lt0, iI_0le, iI_le0, iI_0lt, jL_iI, iI_jL, lc_eq, lc_lt, lc_le, lc_ge, lc_gt, Nat.sub_zero, Nat.zero_le, true_and, and_true, Nat.reduceAdd, Nat.reduceLeDiff]
    refine ⟨fun e2 => ⟨rfl, no (fun h => ?_)⟩, fun e2 => ⟨rfl, yes ⟨q, Or.inr (by omega)⟩⟩⟩
    rcases h.2 with g | g <;> omega
  refine ⟨fun e => at21 (Or.inl (by omega)), fun e => ?_⟩
  obtain ⟨wd0, wd1⟩ := ww (c - 1) (by omega)
  rw [show (c : Int) - 1 = ((c - 1 : Nat) : Int) by omega]
  refine m_wholeOf (c := c - 1) hR' hs hb hn' (by omega) ?_
  simp (disch := omega) only [en_ops, en_opc, iI_add, iI_mul, iI_sub, jL_add, jL_mul, iI_le, iI_lt, iI_eq, iI_eq0, iI_lt0, iI_0le, iI_le0, iI_0lt, jL_iI, iI_jL, lc_eq, lc_lt, lc_le, lc_ge, lc_gt, Nat.sub_zero, Nat.zero_le, true_and, and_true, Nat.reduceAdd, Nat.reduceLeDiff]
  refine ⟨fun e2 => ⟨rfl, no (fun h => ?_)⟩, fun e2 => at21 (Or.inr (by omega))⟩
  rcases h.1 with g | g <;> omega
theorem m_shareOf {c z k : Nat} (hR : rfR hr) (hs : rfH f hi) (hb : rfB b hi) (hn : rfN nc nz b) (hB : fB nc nz f) (hc : c < 12) (hz : z < 6) (hk : k < 3) (H : K (.inl (some (.int (iI (shP f nz c (3 * z + k)))))) hi hl hr) : en_Call G (d + 4) xc xs Y_X11_shareOf wN wN [.ref 110, .int (iI c), .int (iI z), .int (iI k)] hi hl hr K := by
  have hR' := hR
  obtain ⟨⟨-, -, r10, -, r12, -⟩, -⟩ := hR
  have w0 := wP_nn (m := nz) hB c
  have w1 := wP_le hB hn.2.2.2 hc
  have f0 := hB.1 c z k
  have f1 : f c z k ≤ wP f nz c := Int.le_trans (f_le hB c z hk) (aP_le hB hn.2.2.2 hc z)
  unfold shP at H
  rw [show (3 * z + k) / 3 = z by omega, show (3 * z + k) % 3 = k by omega] at H
  apply en_X11_shareOf
  simp (disch := omega) only [B_X11_shareOf_0, sh110, lt110, en_ops, en_opc, iI_add, iI_mul, iI_sub, jL_add, jL_mul, iI_le, iI_lt, iI_eq, iI_eq0, iI_lt0, iI_0le, iI_le0, iI_0lt, jL_iI, iI_jL, lc_eq, lc_lt, lc_le, lc_ge, lc_gt, Nat.sub_zero, Nat.zero_le, true_and, and_true, Nat.reduceAdd, Nat.reduceLeDiff]
  refine m_wholeOf hR' hs hb hn hc ?_
  simp (disch := omega) only [r12, sh110, lt110, en_ops, en_opc, iI_add, iI_mul, iI_sub, jL_add, jL_mul, iI_le, iI_lt, iI_eq, iI_eq0, iI_lt0, iI_0le, iI_le0, iI_0lt, jL_iI, iI_jL, lc_eq, lc_lt, lc_le, lc_ge, lc_gt, Nat.sub_zero, Nat.zero_le, true_and, and_true, Nat.reduceAdd, Nat.reduceLeDiff]
  refine ⟨fun e => m_stone ?_, fun e => ?_⟩
  · rw [if_neg e] at H
    simp (disch := omega) only [sh115, lt115, en_ops, en_opc, iI_add, iI_mul, iI_sub, jL_add, jL_mul, iI_le, iI_lt, iI_eq, iI_eq0, iI_lt0, iI_0le, iI_le0, iI_0lt, jL_iI, iI_jL, lc_eq, lc_lt, lc_le, lc_ge, lc_gt, Nat.sub_zero, Nat.zero_le, true_and, and_true, Nat.reduceAdd, Nat.reduceLeDiff]
    refine ⟨24 * c + 3 * z + k, iI_eq_of (by omega), by omega, ?_⟩
    rw [hs c z k hc hz hk]
    simp (disch := omega) only [sh110, lt110, en_ops, en_opc, iI_add, iI_mul, iI_sub, jL_add, jL_mul, iI_le, iI_lt, iI_eq, iI_eq0, iI_lt0, iI_0le, iI_le0, iI_0lt, jL_iI, iI_jL, lc_eq, lc_lt, lc_le, lc_ge, lc_gt, Nat.sub_zero, Nat.zero_le, true_and, and_true, Nat.reduceAdd, Nat.reduceLeDiff]
    refine m_wholeOf hR' hs hb hn hc ?_
    simp (disch := omega) only [en_ops, en_opc, iI_add, iI_mul, iI_sub, jL_add, jL_mul, iI_le, iI_lt, iI_eq, iI_eq0, iI_lt0, iI_0le, iI_le0, iI_0lt, jL_iI, iI_jL, lc_eq, lc_lt, lc_le, lc_ge, lc_gt, Nat.sub_zero, Nat.zero_le, true_and, and_true, Nat.reduceAdd, Nat.reduceLeDiff]
    refine ⟨?_, ?_⟩
    · rw [jL_eq0 (by omega) (by omega)]; exact e
    · rw [jL_div (by omega) (by omega) (by omega) (by omega)]
      simp (disch := omega) only [en_ops, en_opc, iI_add, iI_mul, iI_sub, jL_add, jL_mul, iI_le, iI_lt, iI_eq, iI_eq0, iI_lt0, iI_0le, iI_le0, iI_0lt, jL_iI, iI_jL, lc_eq, lc_lt, lc_le, lc_ge, lc_gt, Nat.sub_zero, Nat.zero_le, true_and, and_true, Nat.reduceAdd, Nat.reduceLeDiff]
      exact H
  · rw [if_pos e] at H
    exact H
end
