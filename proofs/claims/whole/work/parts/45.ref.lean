/-! the reference: its rows, its questions -/
def rfR (hr : en_F) : Prop := (hr 110 1 = .ref 111 ∧ hr 110 9 = .ref 112 ∧ hr 110 10 = .ref 113 ∧ hr 110 11 = .ref 114 ∧ hr 110 12 = .ref 115 ∧ hr 110 13 = .ref 116 ∧ hr 110 14 = .ref 117 ∧ hr 110 15 = .ref 118) ∧ (hr 110 20 = .ref 119 ∧ hr 110 21 = .ref 120 ∧ hr 110 22 = .ref 121 ∧ hr 110 23 = .ref 122 ∧ hr 110 24 = .ref 123 ∧ hr 110 25 = .ref 124) ∧ hr 110 26 = .ref 125 ∧ hr 110 27 = .ref 126 ∧ hr 110 28 = .ref 127 ∧ hr 110 29 = .ref 128 ∧ hr 110 30 = .ref 129 ∧ hr 110 31 = .ref 130 ∧ hr 110 32 = .ref 131 ∧ hr 110 33 = .ref 132
theorem sh110 : en_SH 110 = (11, 34) := by decide
theorem sh111 : en_SH 111 = (100, 4) := by decide
theorem sh112 : en_SH 112 = (100, 600) := by decide
theorem sh113 : en_SH 113 = (100, 76) := by decide
theorem sh115 : en_SH 115 = (100, 834) := by decide
theorem sh124 : en_SH 124 = (100, 9) := by decide
theorem lt110 : 110 < 134 := by decide
theorem lt113 : 113 < 134 := by decide
theorem lt115 : 115 < 134 := by decide
theorem lt124 : 124 < 134 := by decide
def rfS (s : Nat → Int) (hi : en_I) : Prop := ∀ j, j < 834 → hi 115 j = iI (s j)
/-- its heaps -/
def rfH (f : Nat → Nat → Nat → Int) (hi : en_I) : Prop := ∀ c z k, c < 12 → z < 6 → k < 3 → hi 115 (24 * c + 3 * z + k) = iI (f c z k)
def rfB (b : Nat → Int) (hi : en_I) : Prop := ∀ j, j < 76 → hi 113 j = iI (b j)
def rfN (nc nz : Nat) (b : Nat → Int) : Prop := b 0 = nc ∧ b 1 = nz ∧ nc ≤ 12 ∧ nz ≤ 6
section
variable {G : en_G} {d : Nat} {K : en_K} {nc nz : Nat} {s b : Nat → Int} {f : Nat → Nat → Nat → Int} {hi : en_I} {hl : en_L} {hr : en_F} {xc xs : Nat}
theorem m_stone {c z k : Int} (H : K (.inl (some (.int (iI (24 * c + 3 * z + k))))) hi hl hr) : en_Call G (d + 1) xc xs Y_X11_stone wN wN [.int (iI c), .int (iI z), .int (iI k)] hi hl hr K := by
  apply en_X11_stone
  simp (disch := omega) only [B_X11_stone_0, en_ops, en_opc, iI_add, iI_mul, iI_sub, jL_add, jL_mul, iI_le, iI_lt, iI_eq, iI_eq0, iI_lt0, iI_0le, iI_le0, iI_0lt, jL_iI, iI_jL, lc_eq, lc_lt, lc_le, lc_ge, lc_gt, Nat.sub_zero, Nat.zero_le, true_and, and_true, Nat.reduceAdd, Nat.reduceLeDiff]
  rw [show (0 : Int) + 24 * c + 3 * z + k = 24 * c + 3 * z + k by omega]
  exact H
theorem fS_at {c z k : Nat} (hc : c < 12) (hz : z < 6) (hk : k < 3) : fS s c z k = s (24 * c + 3 * z + k) := if_pos ⟨hc, hz, hk⟩
theorem m_all {c z : Nat} (hR : rfR hr) (hs : rfH f hi) (hc : c < 12) (hz : z < 6) (H : K (.inl (some (.int (iI (aP f c z))))) hi hl hr) : en_Call G (d + 2) xc xs Y_X11_all wN wN [.ref 110, .int (iI c), .int (iI z)] hi hl hr K := by
  obtain ⟨⟨-, -, r10, -, r12, -⟩, -⟩ := hR
  apply en_X11_all
  simp (disch := omega) only [B_X11_all_0, en_ops, en_opc, iI_add, iI_mul, iI_sub, jL_add, jL_mul, iI_le, iI_lt, iI_eq, iI_eq0, iI_lt0, iI_0le, iI_le0, iI_0lt, jL_iI, iI_jL, lc_eq, lc_lt, lc_le, lc_ge, lc_gt, Nat.sub_zero, Nat.zero_le, true_and, and_true, Nat.reduceAdd, Nat.reduceLeDiff]
  suffices L : ∀ k : Nat, k ≤ 3 → en_V G Y_X11_all (d + 2) wN wN K 5 [.ref 110, .int (iI c), .int (iI z), .int (iI (sumTo k (f c z))), .int (iI k)] [] hi hl hr xc xs from L 0 (by omega)
  refine lp 3 ?_ (fun k hk ih => ?_)
  · apply s_X11_all_5
    simp (disch := omega) only [B_X11_all_5, en_ops, en_opc, iI_add, iI_mul, iI_sub, jL_add, jL_mul, iI_le, iI_lt, iI_eq, iI_eq0, iI_lt0, iI_0le, iI_le0, iI_0lt, jL_iI, iI_jL, lc_eq, lc_lt, lc_le, lc_ge, lc_gt, Nat.sub_zero, Nat.zero_le, true_and, and_true, Nat.reduceAdd, Nat.reduceLeDiff]
    exact ⟨fun _ => H, fun e => absurd (show (3 : Int) ≤ ((3 : Nat) : Int) by omega) e⟩
  · rw [sumTo_s] at ih
    apply s_X11_all_5
    simp (disch := omega) only [B_X11_all_5, r12, sh110, lt110, en_ops, en_opc, iI_add, iI_mul, iI_sub, jL_add, jL_mul, iI_le, iI_lt, iI_eq, iI_eq0, iI_lt0, iI_0le, iI_le0, iI_0lt, jL_iI, iI_jL, lc_eq, lc_lt, lc_le, lc_ge, lc_gt, Nat.sub_zero, Nat.zero_le, true_and, and_true, Nat.reduceAdd, Nat.reduceLeDiff]
    refine ⟨fun e => by omega, fun _ => m_stone ?_⟩
    simp (disch := omega) only [sh115, lt115, en_ops, en_opc, iI_add, iI_mul, iI_sub, jL_add, jL_mul, iI_le, iI_lt, iI_eq, iI_eq0, iI_lt0, iI_0le, iI_le0, iI_0lt, jL_iI, iI_jL, lc_eq, lc_lt, lc_le, lc_ge, lc_gt, Nat.sub_zero, Nat.zero_le, true_and, and_true, Nat.reduceAdd, Nat.reduceLeDiff]
    refine ⟨24 * c + 3 * z + k, iI_eq_of (by omega), by omega, ?_⟩
    rw [hs c z k hc hz hk, iI_add]
    exact ih
theorem m_wholeOf {c : Nat} (hR : rfR hr) (hs : rfH f hi) (hb : rfB b hi) (hn : rfN nc nz b) (hc : c < 12) (H : K (.inl (some (.int (iI (wP f nz c))))) hi hl hr) : en_Call G (d + 3) xc xs Y_X11_wholeOf wN wN [.ref 110, .int (iI c)] hi hl hr K := by
  obtain ⟨n0, n1, n2, n3⟩ := hn
  have hR' := hR
  obtain ⟨⟨-, -, r10, -, r12, -⟩, -⟩ := hR
  have b1 : hi 113 1 = iI nz := by rw [hb 1 (by omega), n1]
  apply en_X11_wholeOf
  simp (disch := omega) only [B_X11_wholeOf_0, en_ops, en_opc, iI_add, iI_mul, iI_sub, jL_add, jL_mul, iI_le, iI_lt, iI_eq, iI_eq0, iI_lt0, iI_0le, iI_le0, iI_0lt, jL_iI, iI_jL, lc_eq, lc_lt, lc_le, lc_ge, lc_gt, Nat.sub_zero, Nat.zero_le, true_and, and_true, Nat.reduceAdd, Nat.reduceLeDiff]
  suffices L : ∀ z : Nat, z ≤ nz → en_V G Y_X11_wholeOf (d + 3) wN wN K 4 [.ref 110, .int (iI c), .int (iI (sumTo z (aP f c))), .int (iI z)] [] hi hl hr xc xs from L 0 (by omega)
  refine lp nz ?_ (fun z hz ih => ?_)
  · apply s_X11_wholeOf_4
    simp (disch := omega) only [B_X11_wholeOf_4, r10, sh110, lt110, sh113, lt113, en_ops, en_opc, iI_add, iI_mul, iI_sub, jL_add, jL_mul, iI_le, iI_lt, iI_eq, iI_eq0, iI_lt0, iI_0le, iI_le0, iI_0lt, jL_iI, iI_jL, lc_eq, lc_lt, lc_le, lc_ge, lc_gt, Nat.sub_zero, Nat.zero_le, true_and, and_true, Nat.reduceAdd, Nat.reduceLeDiff]
    refine ⟨1, rfl, by decide, ?_⟩
    simp (disch := omega) only [b1, en_ops, en_opc, iI_add, iI_mul, iI_sub, jL_add, jL_mul, iI_le, iI_lt, iI_eq, iI_eq0, iI_lt0, iI_0le, iI_le0, iI_0lt, jL_iI, iI_jL, lc_eq, lc_lt, lc_le, lc_ge, lc_gt, Nat.sub_zero, Nat.zero_le, true_and, and_true, Nat.reduceAdd, Nat.reduceLeDiff]
    exact ⟨fun _ => H, fun e => absurd (Int.le_refl _) e⟩
  · rw [sumTo_s] at ih
    apply s_X11_wholeOf_4
    simp (disch := omega) only [B_X11_wholeOf_4, r10, sh110, lt110, sh113, lt113, en_ops, en_opc, iI_add, iI_mul, iI_sub, jL_add, jL_mul, iI_le, iI_lt, iI_eq, iI_eq0, iI_lt0, iI_0le, iI_le0, iI_0lt, jL_iI, iI_jL, lc_eq, lc_lt, lc_le, lc_ge, lc_gt, Nat.sub_zero, Nat.zero_le, true_and, and_true, Nat.reduceAdd, Nat.reduceLeDiff]
    refine ⟨1, rfl, by decide, ?_⟩
    simp (disch := omega) only [b1, en_ops, en_opc, iI_add, iI_mul, iI_sub, jL_add, jL_mul, iI_le, iI_lt, iI_eq, iI_eq0, iI_lt0, iI_0le, iI_le0, iI_0lt, jL_iI, iI_jL, lc_eq, lc_lt, lc_le, lc_ge, lc_gt, Nat.sub_zero, Nat.zero_le, true_and, and_true, Nat.reduceAdd, Nat.reduceLeDiff]
    refine ⟨fun e => by omega, fun _ => m_all hR' hs hc (by omega) ?_⟩
    simp (disch := omega) only [en_ops, en_opc, iI_add, iI_mul, iI_sub, jL_add, jL_mul, iI_le, iI_lt, iI_eq, iI_eq0, iI_lt0, iI_0le, iI_le0, iI_0lt, jL_iI, iI_jL, lc_eq, lc_lt, lc_le, lc_ge, lc_gt, Nat.sub_zero, Nat.zero_le, true_and, and_true, Nat.reduceAdd, Nat.reduceLeDiff]
    exact ih
theorem m_meanOf {c : Nat} (hR : rfR hr) (hs : rfH f hi) (hb : rfB b hi) (hn : rfN nc nz b) (hB : fB nc nz f) (hc : c < 12) (H : K (.inl (some (.int (iI (mnP f nz c))))) hi hl hr) : en_Call G (d + 4) xc xs Y_X11_meanOf wN wN [.ref 110, .int (iI c)] hi hl hr K := by
  have hn' := hn
  obtain ⟨n0, n1, n2, n3⟩ := hn
  have hR' := hR
  obtain ⟨⟨-, -, r10, -, r12, -⟩, -⟩ := hR
  have b1 : hi 113 1 = iI nz := by rw [hb 1 (by omega), n1]
  have w0 := wP_nn (m := nz) hB c
  have w1 := wP_le hB n3 hc
  apply en_X11_meanOf
  simp (disch := omega) only [B_X11_meanOf_0, sh110, lt110, en_ops, en_opc, iI_add, iI_mul, iI_sub, jL_add, jL_mul, iI_le, iI_lt, iI_eq, iI_eq0, iI_lt0, iI_0le, iI_le0, iI_0lt, jL_iI, iI_jL, lc_eq, lc_lt, lc_le, lc_ge, lc_gt, Nat.sub_zero, Nat.zero_le, true_and, and_true, Nat.reduceAdd, Nat.reduceLeDiff]
  refine m_wholeOf hR' hs hb hn' hc ?_
  simp (disch := omega) only [en_ops, en_opc, iI_add, iI_mul, iI_sub, jL_add, jL_mul, iI_le, iI_lt, iI_eq, iI_eq0, iI_lt0, iI_0le, iI_le0, iI_0lt, jL_iI, iI_jL, lc_eq, lc_lt, lc_le, lc_ge, lc_gt, Nat.sub_zero, Nat.zero_le, true_and, and_true, Nat.reduceAdd, Nat.reduceLeDiff]
  unfold mnP at H
  refine ⟨fun e => ?_, fun e => ?_⟩
  · rw [if_neg e] at H
    suffices L : ∀ z : Nat, z ≤ nz → en_V G Y_X11_meanOf (d + 4) wN wN K 17 [.ref 110, .int (iI c), .int (iI (wP f nz c)), .long (jL (sumTo z (fun z => z * aP f c z))), jk, .int (iI z)] [] hi hl hr xc xs from L 0 (by omega)
    refine lp nz ?_ (fun z hz ih => ?_)
    · apply s_X11_meanOf_17
      simp (disch := omega) only [B_X11_meanOf_17, r10, sh110, lt110, sh113, lt113, en_ops, en_opc, iI_add, iI_mul, iI_sub, jL_add, jL_mul, iI_le, iI_lt, iI_eq, iI_eq0, iI_lt0, iI_0le, iI_le0, iI_0lt, jL_iI, iI_jL, lc_eq, lc_lt, lc_le, lc_ge, lc_gt, Nat.sub_zero, Nat.zero_le, true_and, and_true, Nat.reduceAdd, Nat.reduceLeDiff]
      refine ⟨1, rfl, by decide, ?_⟩
      simp (disch := omega) only [b1, en_ops, en_opc, iI_add, iI_mul, iI_sub, jL_add, jL_mul, iI_le, iI_lt, iI_eq, iI_eq0, iI_lt0, iI_0le, iI_le0, iI_0lt, jL_iI, iI_jL, lc_eq, lc_lt, lc_le, lc_ge, lc_gt, Nat.sub_zero, Nat.zero_le, true_and, and_true, Nat.reduceAdd, Nat.reduceLeDiff]
      obtain ⟨m0, m1⟩ := mn_w (c := c) hB nz (Nat.le_refl _) n3
      refine ⟨fun _ => ⟨?_, ?_⟩, fun e => absurd (Int.le_refl _) e⟩
      · rw [jL_eq0 (by omega) (by omega)]; exact e
      · rw [jL_div (by omega) (by omega) (by omega) (by omega)]
        simp (disch := omega) only [en_ops, en_opc, iI_add, iI_mul, iI_sub, jL_add, jL_mul, iI_le, iI_lt, iI_eq, iI_eq0, iI_lt0, iI_0le, iI_le0, iI_0lt, jL_iI, iI_jL, lc_eq, lc_lt, lc_le, lc_ge, lc_gt, Nat.sub_zero, Nat.zero_le, true_and, and_true, Nat.reduceAdd, Nat.reduceLeDiff]
        exact H
    · rw [sumTo_s] at ih
      have a0 := aP_nn hB c z
      have a1 := aP_le hB n3 hc z
      apply s_X11_meanOf_17
      simp (disch := omega) only [B_X11_meanOf_17, r10, sh110, lt110, sh113, lt113, en_ops, en_opc, iI_add, iI_mul, iI_sub, jL_add, jL_mul, iI_le, iI_lt, iI_eq, iI_eq0, iI_lt0, iI_0le, iI_le0, iI_0lt, jL_iI, iI_jL, lc_eq, lc_lt, lc_le, lc_ge, lc_gt, Nat.sub_zero, Nat.zero_le, true_and, and_true, Nat.reduceAdd, Nat.reduceLeDiff]
      refine ⟨1, rfl, by decide, ?_⟩
      simp (disch := omega) only [b1, en_ops, en_opc, iI_add, iI_mul, iI_sub, jL_add, jL_mul, iI_le, iI_lt, iI_eq, iI_eq0, iI_lt0, iI_0le, iI_le0, iI_0lt, jL_iI, iI_jL, lc_eq, lc_lt, lc_le, lc_ge, lc_gt, Nat.sub_zero, Nat.zero_le, true_and, and_true, Nat.reduceAdd, Nat.reduceLeDiff]
      refine ⟨fun e => by omega, fun _ => m_all hR' hs hc (by omega) ?_⟩
      simp (disch := omega) only [en_ops, en_opc, iI_add, iI_mul, iI_sub, jL_add, jL_mul, iI_le, iI_lt, iI_eq, iI_eq0, iI_lt0, iI_0le, iI_le0, iI_0lt, jL_iI, iI_jL, lc_eq, lc_lt, lc_le, lc_ge, lc_gt, Nat.sub_zero, Nat.zero_le, true_and, and_true, Nat.reduceAdd, Nat.reduceLeDiff]
      exact ih
  · rw [if_pos (by omega)] at H
    exact H
theorem m_soundOf {c : Nat} (hR : rfR hr) (hs : rfH f hi) (hb : rfB b hi) (hn : rfN nc nz b) (hB : fB nc nz f) (hc : c < 12) (H : K (.inl (some (.int (iI (sdP f nz c))))) hi hl hr) : en_Call G (d + 5) xc xs Y_X11_soundOf wN wN [.ref 110, .int (iI c)] hi hl hr K := by
  obtain ⟨m0, m1⟩ := mnP_r (c := c) hB hn.2.2.2
  apply en_X11_soundOf
  simp (disch := omega) only [B_X11_soundOf_0, sh110, lt110, en_ops, en_opc, iI_add, iI_mul, iI_sub, jL_add, jL_mul, iI_le, iI_lt, iI_eq, iI_eq0, iI_lt0, iI_0le, iI_le0, iI_0lt, jL_iI, iI_jL, lc_eq, lc_lt, lc_le, lc_ge, lc_gt, Nat.sub_zero, Nat.zero_le, true_and, and_true, Nat.reduceAdd, Nat.reduceLeDiff]
  refine m_meanOf hR hs hb hn hB hc ?_
  simp (disch := omega) only [sh110, lt110, en_ops, en_opc, iI_add, iI_mul, iI_sub, jL_add, jL_mul, iI_le, iI_lt, iI_eq, iI_eq0, iI_lt0, iI_0le, iI_le0, iI_0lt, jL_iI, iI_jL, lc_eq, lc_lt, lc_le, lc_ge, lc_gt, Nat.sub_zero, Nat.zero_le, true_and, and_true, Nat.reduceAdd, Nat.reduceLeDiff]
  unfold sdP at H
  refine ⟨fun e => ?_, fun e => ?_⟩
  · rw [if_neg e] at H
    refine m_meanOf hR hs hb hn hB hc ?_
    simp (disch := omega) only [en_ops, en_opc, iI_add, iI_mul, iI_sub, jL_add, jL_mul, iI_le, iI_lt, iI_eq, iI_eq0, iI_lt0, iI_0le, iI_le0, iI_0lt, jL_iI, iI_jL, lc_eq, lc_lt, lc_le, lc_ge, lc_gt, Nat.sub_zero, Nat.zero_le, true_and, and_true, Nat.reduceAdd, Nat.reduceLeDiff]
    refine ⟨by decide, ?_⟩
    rw [iI_div (by omega) (by omega) (by decide) (by decide)]
    simp (disch := omega) only [en_ops, en_opc, iI_add, iI_mul, iI_sub, jL_add, jL_mul, iI_le, iI_lt, iI_eq, iI_eq0, iI_lt0, iI_0le, iI_le0, iI_0lt, jL_iI, iI_jL, lc_eq, lc_lt, lc_le, lc_ge, lc_gt, Nat.sub_zero, Nat.zero_le, true_and, and_true, Nat.reduceAdd, Nat.reduceLeDiff]
    exact H
  · rw [if_pos e] at H
    exact H
end
