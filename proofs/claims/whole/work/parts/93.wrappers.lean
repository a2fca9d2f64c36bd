section
variable {G : en_G} {d : Nat} {K : en_K} {W : zW} {n : Nat} {hi : en_I} {hl : en_L} {hr : en_F} {xc xs : Nat}
/-- how a call of the law's wrapper ends: 0 with the answer told to the long at 133, or the refusal's code -/
def lEnd (G : en_G) (W W' : zW) (r : Nat) (cd : Nat → Nat) (v : Int64) (K : en_K) (hi : en_I) (hl : en_L) (hr : en_F) : Prop :=
  (r = 0 → ∀ hi' hl' hr', InvC G W' hi' hr' → Fc hi hi' → Fc hl hl' → Fc hr hr' → K (.inl (some (.int (iI 0)))) hi' (en_up hl' 133 0 v) hr') ∧
  ∀ k, k < 4 → r = k + 1 → ∀ hi' hl' hr', InvC G (zRef W k) hi' hr' → Fc hi hi' → Fc hl hl' → Fc hr hr' → K (.inl (some (.int (iI (cd k : Int))))) hi' hl' hr'
theorem sh133 : (en_SH 133).2 = 1 := by decide
theorem lt133 : 133 < 134 := by decide
theorem l_told {w : Int} (hI : InvC G W hi hr) (hz : zOK n W) (h1 : 1 ≤ xc) (h6 : 6 ≤ xs) (hw : iRg w) (H : lEnd G W W (if 0 ≤ w ∧ w ≤ 6 then 0 else 3) (fun k => if k = 2 then 1 else 0) ((iI (tdP W w)).toInt64) K hi hl hr) : en_Call G (d + 3) xc xs Y_L_told wN wN [.ref 0, .int (iI w), .ref 133] hi hl hr K := by
  apply en_L_told
  simp (disch := omega) only [B_L_told_0, sh0, lt0, en_ops, en_opc, iI_add, iI_mul, iI_sub, jL_add, jL_mul, iI_le, iI_lt, iI_eq, iI_eq0, iI_lt0, iI_0le, iI_le0, iI_0lt, jL_iI, iI_jL, lc_eq, lc_lt, lc_le, lc_ge, lc_gt, Nat.sub_zero, Nat.zero_le, true_and, and_true, Nat.reduceAdd, Nat.reduceLeDiff]
  refine ⟨h1, h6, c_told (d := d) hI hz (by omega) (by omega) hw ⟨fun er hi' hl' hr' I' f1 f2 f3 => ?_, fun k hk er hi' hl' hr' I' f1 f2 f3 => ?_⟩⟩
  · simp (disch := omega) only [lt133, en_ops, en_opc, iI_add, iI_mul, iI_sub, jL_add, jL_mul, iI_le, iI_lt, iI_eq, iI_eq0, iI_lt0, iI_0le, iI_le0, iI_0lt, jL_iI, iI_jL, lc_eq, lc_lt, lc_le, lc_ge, lc_gt, Nat.sub_zero, Nat.zero_le, true_and, and_true, Nat.reduceAdd, Nat.reduceLeDiff]
    refine ⟨0, rfl, by rw [sh133]; decide, by decide, ?_⟩
    exact H.1 er hi' hl' hr' I' f1 f2 f3
  · rcases (show k = 0 ∨ k = 1 ∨ k = 2 ∨ k = 3 by omega) with rfl | rfl | rfl | rfl
    · exact absurd er (by (repeat' split) <;> omega)
    · exact absurd er (by (repeat' split) <;> omega)
    · show o_iconst 1 (o_iret K) (en_set1 [.ref 0, .int (iI w), .ref 133, jk] 3 jk) [] hi' hl' hr' (xc - 1) (xs - 6)
      simp (disch := omega) only [en_ops, en_opc, iI_add, iI_mul, iI_sub, jL_add, jL_mul, iI_le, iI_lt, iI_eq, iI_eq0, iI_lt0, iI_0le, iI_le0, iI_0lt, jL_iI, iI_jL, lc_eq, lc_lt, lc_le, lc_ge, lc_gt, Nat.sub_zero, Nat.zero_le, true_and, and_true, Nat.reduceAdd, Nat.reduceLeDiff]
      exact H.2 2 hk er hi' hl' hr' I' f1 f2 f3
    · exact absurd er (by (repeat' split) <;> omega)
theorem l_stones {c z k : Int} (hI : InvC G W hi hr) (hz : zOK n W) (h1 : 2 ≤ xc) (h6 : 12 ≤ xs) (hc : iRg c) (hzr : iRg z) (hk : iRg k) (H : lEnd G W W (if c = -1 ∨ inC W c then if stB W z k then 0 else 3 else 1) (fun k => if k = 0 then 1 else if k = 2 then 2 else 0) ((iI (stP2 (zS W).1.1 (zE W).2.1 (zE W).2.2.1 c z k)).toInt64) K hi hl hr) : en_Call G (d + 4) xc xs Y_L_stones wN wN [.ref 0, .int (iI c), .int (iI z), .int (iI k), .ref 133] hi hl hr K := by
  apply en_L_stones
  simp (disch := omega) only [B_L_stones_0, sh0, lt0, en_ops, en_opc, iI_add, iI_mul, iI_sub, jL_add, jL_mul, iI_le, iI_lt, iI_eq, iI_eq0, iI_lt0, iI_0le, iI_le0, iI_0lt, jL_iI, iI_jL, lc_eq, lc_lt, lc_le, lc_ge, lc_gt, Nat.sub_zero, Nat.zero_le, true_and, and_true, Nat.reduceAdd, Nat.reduceLeDiff]
  refine ⟨h1, h6, c_stones (d := d) hI hz (by omega) (by omega) hc hzr hk ⟨fun er hi' hl' hr' I' f1 f2 f3 => ?_, fun k hk er hi' hl' hr' I' f1 f2 f3 => ?_⟩⟩
  · simp (disch := omega) only [lt133, en_ops, en_opc, iI_add, iI_mul, iI_sub, jL_add, jL_mul, iI_le, iI_lt, iI_eq, iI_eq0, iI_lt0, iI_0le, iI_le0, iI_0lt, jL_iI, iI_jL, lc_eq, lc_lt, lc_le, lc_ge, lc_gt, Nat.sub_zero, Nat.zero_le, true_and, and_true, Nat.reduceAdd, Nat.reduceLeDiff]
    refine ⟨0, rfl, by rw [sh133]; decide, by decide, ?_⟩
    exact H.1 er hi' hl' hr' I' f1 f2 f3
  · rcases (show k = 0 ∨ k = 1 ∨ k = 2 ∨ k = 3 by omega) with rfl | rfl | rfl | rfl
    · show o_iconst 1 (o_iret K) (en_set1 [.ref 0, .int (iI c), .int (iI z), .int (iI k), .ref 133, jk] 5 jk) [] hi' hl' hr' (xc - 2) (xs - 12)
      simp (disch := omega) only [en_ops, en_opc, iI_add, iI_mul, iI_sub, jL_add, jL_mul, iI_le, iI_lt, iI_eq, iI_eq0, iI_lt0, iI_0le, iI_le0, iI_0lt, jL_iI, iI_jL, lc_eq, lc_lt, lc_le, lc_ge, lc_gt, Nat.sub_zero, Nat.zero_le, true_and, and_true, Nat.reduceAdd, Nat.reduceLeDiff]
      exact H.2 0 hk er hi' hl' hr' I' f1 f2 f3
    · exact absurd er (by (repeat' split) <;> omega)
    · show o_iconst 2 (o_iret K) (en_set1 [.ref 0, .int (iI c), .int (iI z), .int (iI k), .ref 133, jk] 5 jk) [] hi' hl' hr' (xc - 2) (xs - 12)
      simp (disch := omega) only [en_ops, en_opc, iI_add, iI_mul, iI_sub, jL_add, jL_mul, iI_le, iI_lt, iI_eq, iI_eq0, iI_lt0, iI_0le, iI_le0, iI_0lt, jL_iI, iI_jL, lc_eq, lc_lt, lc_le, lc_ge, lc_gt, Nat.sub_zero, Nat.zero_le, true_and, and_true, Nat.reduceAdd, Nat.reduceLeDiff]
      exact H.2 2 hk er hi' hl' hr' I' f1 f2 f3
    · exact absurd er (by (repeat' split) <;> omega)
theorem l_cell {c w : Int} (hI : InvC G W hi hr) (hz : zOK n W) (h1 : 2 ≤ xc) (h6 : 12 ≤ xs) (hc : iRg c) (hw : iRg w) (H : lEnd G W W (if inC W c then if 0 ≤ w ∧ w ≤ 2 then 0 else 3 else 1) (fun k => if k = 0 then 1 else if k = 2 then 2 else 0) ((iI (clP W c.toNat w)).toInt64) K hi hl hr) : en_Call G (d + 3) xc xs Y_L_cell wN wN [.ref 0, .int (iI c), .int (iI w), .ref 133] hi hl hr K := by
  apply en_L_cell
  simp (disch := omega) only [B_L_cell_0, sh0, lt0, en_ops, en_opc, iI_add, iI_mul, iI_sub, jL_add, jL_mul, iI_le, iI_lt, iI_eq, iI_eq0, iI_lt0, iI_0le, iI_le0, iI_0lt, jL_iI, iI_jL, lc_eq, lc_lt, lc_le, lc_ge, lc_gt, Nat.sub_zero, Nat.zero_le, true_and, and_true, Nat.reduceAdd, Nat.reduceLeDiff]
  refine ⟨h1, h6, c_cell (d := d) hI hz (by omega) (by omega) hc hw ⟨fun er hi' hl' hr' I' f1 f2 f3 => ?_, fun k hk er hi' hl' hr' I' f1 f2 f3 => ?_⟩⟩
  · simp (disch := omega) only [lt133, en_ops, en_opc, iI_add, iI_mul, iI_sub, jL_add, jL_mul, iI_le, iI_lt, iI_eq, iI_eq0, iI_lt0, iI_0le, iI_le0, iI_0lt, jL_iI, iI_jL, lc_eq, lc_lt, lc_le, lc_ge, lc_gt, Nat.sub_zero, Nat.zero_le, true_and, and_true, Nat.reduceAdd, Nat.reduceLeDiff]
    refine ⟨0, rfl, by rw [sh133]; decide, by decide, ?_⟩
    exact H.1 er hi' hl' hr' I' f1 f2 f3
  · rcases (show k = 0 ∨ k = 1 ∨ k = 2 ∨ k = 3 by omega) with rfl | rfl | rfl | rfl
    · show o_iconst 1 (o_iret K) (en_set1 [.ref 0, .int (iI c), .int (iI w), .ref 133, jk] 4 jk) [] hi' hl' hr' (xc - 2) (xs - 12)
      simp (disch := omega) only [en_ops, en_opc, iI_add, iI_mul, iI_sub, jL_add, jL_mul, iI_le, iI_lt, iI_eq, iI_eq0, iI_lt0, iI_0le, iI_le0, iI_0lt, jL_iI, iI_jL, lc_eq, lc_lt, lc_le, lc_ge, lc_gt, Nat.sub_zero, Nat.zero_le, true_and, and_true, Nat.reduceAdd, Nat.reduceLeDiff]
      exact H.2 0 hk er hi' hl' hr' I' f1 f2 f3
    · exact absurd er (by (repeat' split) <;> omega)
    · show o_iconst 2 (o_iret K) (en_set1 [.ref 0, .int (iI c), .int (iI w), .ref 133, jk] 4 jk) [] hi' hl' hr' (xc - 2) (xs - 12)
      simp (disch := omega) only [en_ops, en_opc, iI_add, iI_mul, iI_sub, jL_add, jL_mul, iI_le, iI_lt, iI_eq, iI_eq0, iI_lt0, iI_0le, iI_le0, iI_0lt, jL_iI, iI_jL, lc_eq, lc_lt, lc_le, lc_ge, lc_gt, Nat.sub_zero, Nat.zero_le, true_and, and_true, Nat.reduceAdd, Nat.reduceLeDiff]
      exact H.2 2 hk er hi' hl' hr' I' f1 f2 f3
    · exact absurd er (by (repeat' split) <;> omega)
theorem l_put {c z k v : Int} (hI : InvC G W hi hr) (hz : zOK n W) (h1 : 2 ≤ xc) (h6 : 12 ≤ xs) (hc : iRg c) (hzr : iRg z) (hk : iRg k) (hv : iRg v) (H : lEnd G W (zPut W (ptQ (zS W).1 c.toNat z.toNat k.toNat v, (zS W).2)) (if inC W c then if inZ W z ∧ (0 ≤ k ∧ k < 3) ∧ 1 ≤ v ∧ v ≤ 999 then 0 else 3 else 1) (fun k => if k = 0 then 1 else if k = 2 then 2 else 0) ((iI ((zS W).1.1 c.toNat z.toNat k.toNat + v)).toInt64) K hi hl hr) : en_Call G (d + 3) xc xs Y_L_put wN wN [.ref 0, .int (iI c), .int (iI z), .int (iI k), .int (iI v), .ref 133] hi hl hr K := by
  apply en_L_put
  simp (disch := omega) only [B_L_put_0, sh0, lt0, en_ops, en_opc, iI_add, iI_mul, iI_sub, jL_add, jL_mul, iI_le, iI_lt, iI_eq, iI_eq0, iI_lt0, iI_0le, iI_le0, iI_0lt, jL_iI, iI_jL, lc_eq, lc_lt, lc_le, lc_ge, lc_gt, Nat.sub_zero, Nat.zero_le, true_and, and_true, Nat.reduceAdd, Nat.reduceLeDiff]
  refine ⟨h1, h6, c_put (d := d) hI hz (by omega) (by omega) hc hzr hk hv ⟨fun er hi' hl' hr' I' f1 f2 f3 => ?_, fun k hk er hi' hl' hr' I' f1 f2 f3 => ?_⟩⟩
  · simp (disch := omega) only [lt133, en_ops, en_opc, iI_add, iI_mul, iI_sub, jL_add, jL_mul, iI_le, iI_lt, iI_eq, iI_eq0, iI_lt0, iI_0le, iI_le0, iI_0lt, jL_iI, iI_jL, lc_eq, lc_lt, lc_le, lc_ge, lc_gt, Nat.sub_zero, Nat.zero_le, true_and, and_true, Nat.reduceAdd, Nat.reduceLeDiff]
    refine ⟨0, rfl, by rw [sh133]; decide, by decide, ?_⟩
    exact H.1 er hi' hl' hr' I' f1 f2 f3
  · rcases (show k = 0 ∨ k = 1 ∨ k = 2 ∨ k = 3 by omega) with rfl | rfl | rfl | rfl
    · show o_iconst 1 (o_iret K) (en_set1 [.ref 0, .int (iI c), .int (iI z), .int (iI k), .int (iI v), .ref 133, jk] 6 jk) [] hi' hl' hr' (xc - 2) (xs - 12)
      simp (disch := omega) only [en_ops, en_opc, iI_add, iI_mul, iI_sub, jL_add, jL_mul, iI_le, iI_lt, iI_eq, iI_eq0, iI_lt0, iI_0le, iI_le0, iI_0lt, jL_iI, iI_jL, lc_eq, lc_lt, lc_le, lc_ge, lc_gt, Nat.sub_zero, Nat.zero_le, true_and, and_true, Nat.reduceAdd, Nat.reduceLeDiff]
      exact H.2 0 hk er hi' hl' hr' I' f1 f2 f3
    · exact absurd er (by (repeat' split) <;> omega)
    · show o_iconst 2 (o_iret K) (en_set1 [.ref 0, .int (iI c), .int (iI z), .int (iI k), .int (iI v), .ref 133, jk] 6 jk) [] hi' hl' hr' (xc - 2) (xs - 12)
      simp (disch := omega) only [en_ops, en_opc, iI_add, iI_mul, iI_sub, jL_add, jL_mul, iI_le, iI_lt, iI_eq, iI_eq0, iI_lt0, iI_0le, iI_le0, iI_0lt, jL_iI, iI_jL, lc_eq, lc_lt, lc_le, lc_ge, lc_gt, Nat.sub_zero, Nat.zero_le, true_and, and_true, Nat.reduceAdd, Nat.reduceLeDiff]
      exact H.2 2 hk er hi' hl' hr' I' f1 f2 f3
    · exact absurd er (by (repeat' split) <;> omega)
theorem l_run {l : Int} {y : Int} (hI : InvC G W hi hr) (hz : zOK n W) (hn : n ≤ 512) (h1 : 3 ≤ xc) (h6 : 18 ≤ xs) (hlr : iRg l) (hyr : iRg y) (H : lEnd G W (zPut W (yrP (eL W l.toNat) (zYs W y.toNat).2 (zYs W y.toNat).1 (zS W).1, (zS W).2)) (if inL W l then if inY W y then if isNow W then 0 else 4 else 2 else 2) (fun k => if k = 1 then 1 else if k = 3 then 2 else 0) ((iI ((yrP (eL W l.toNat) (zYs W y.toNat).2 (zYs W y.toNat).1 (zS W).1).2.2.2.2.2 - (zS W).1.2.2.2.2.2)).toInt64) K hi hl hr) : en_Call G (d + 10) xc xs Y_L_run wN wN [.ref 0, .int (iI l), .int (iI y), .ref 133] hi hl hr K := by
  apply en_L_run
  simp (disch := omega) only [B_L_run_0, sh0, lt0, en_ops, en_opc, iI_add, iI_mul, iI_sub, jL_add, jL_mul, iI_le, iI_lt, iI_eq, iI_eq0, iI_lt0, iI_0le, iI_le0, iI_0lt, jL_iI, iI_jL, lc_eq, lc_lt, lc_le, lc_ge, lc_gt, Nat.sub_zero, Nat.zero_le, true_and, and_true, Nat.reduceAdd, Nat.reduceLeDiff]
  refine ⟨h1, h6, c_run (d := d) hI hz hn (by omega) (by omega) hlr hyr ⟨fun er hi' hl' hr' I' f1 f2 f3 => ?_, fun k hk er hi' hl' hr' I' f1 f2 f3 => ?_⟩⟩
  · simp (disch := omega) only [lt133, en_ops, en_opc, iI_add, iI_mul, iI_sub, jL_add, jL_mul, iI_le, iI_lt, iI_eq, iI_eq0, iI_lt0, iI_0le, iI_le0, iI_0lt, jL_iI, iI_jL, lc_eq, lc_lt, lc_le, lc_ge, lc_gt, Nat.sub_zero, Nat.zero_le, true_and, and_true, Nat.reduceAdd, Nat.reduceLeDiff]
    refine ⟨0, rfl, by rw [sh133]; decide, by decide, ?_⟩
    exact H.1 er hi' hl' hr' I' f1 f2 f3
  · rcases (show k = 0 ∨ k = 1 ∨ k = 2 ∨ k = 3 by omega) with rfl | rfl | rfl | rfl
    · exact absurd er (by (repeat' split) <;> omega)
    · show o_iconst 1 (o_iret K) (en_set1 [.ref 0, .int (iI l), .int (iI y), .ref 133, jk] 4 jk) [] hi' hl' hr' (xc - 3) (xs - 18)
      simp (disch := omega) only [en_ops, en_opc, iI_add, iI_mul, iI_sub, jL_add, jL_mul, iI_le, iI_lt, iI_eq, iI_eq0, iI_lt0, iI_0le, iI_le0, iI_0lt, jL_iI, iI_jL, lc_eq, lc_lt, lc_le, lc_ge, lc_gt, Nat.sub_zero, Nat.zero_le, true_and, and_true, Nat.reduceAdd, Nat.reduceLeDiff]
      exact H.2 1 hk er hi' hl' hr' I' f1 f2 f3
    · exact absurd er (by (repeat' split) <;> omega)
    · show o_iconst 2 (o_iret K) (en_set1 [.ref 0, .int (iI l), .int (iI y), .ref 133, jk] 4 jk) [] hi' hl' hr' (xc - 3) (xs - 18)
      simp (disch := omega) only [en_ops, en_opc, iI_add, iI_mul, iI_sub, jL_add, jL_mul, iI_le, iI_lt, iI_eq, iI_eq0, iI_lt0, iI_0le, iI_le0, iI_0lt, jL_iI, iI_jL, lc_eq, lc_lt, lc_le, lc_ge, lc_gt, Nat.sub_zero, Nat.zero_le, true_and, and_true, Nat.reduceAdd, Nat.reduceLeDiff]
      exact H.2 3 hk er hi' hl' hr' I' f1 f2 f3
theorem l_lots {l : Int} {y : Int} {k : Int} {x : Int} (hI : InvC G W hi hr) (hz : zOK n W) (hn : n ≤ 512) (h1 : 4 ≤ xc) (h6 : 24 ≤ xs) (hlr : iRg l) (hyr : iRg y) (hk : iRg k) (H : lEnd G W (zPut W ((lzP (eL W l.toNat) (zYs W y.toNat).2 (zYs W y.toNat).1 k.toNat (iI x, (zS W).1)).2, (zS W).2)) (if inL W l then if inY W y then if 1 ≤ k ∧ k ≤ 200 then if isNow W then 0 else 4 else 3 else 2 else 2) (fun k => if k = 1 then 1 else if k = 2 then 2 else if k = 3 then 3 else 0) ((iI ((lzP (eL W l.toNat) (zYs W y.toNat).2 (zYs W y.toNat).1 k.toNat (iI x, (zS W).1)).2.2.2.2.2.2 - (zS W).1.2.2.2.2.2)).toInt64) K hi hl hr) : en_Call G (d + 10) xc xs Y_L_lots wN wN [.ref 0, .int (iI l), .int (iI y), .int (iI k), .int (iI x), .ref 133] hi hl hr K := by
  apply en_L_lots
  simp (disch := omega) only [B_L_lots_0, sh0, lt0, en_ops, en_opc, iI_add, iI_mul, iI_sub, jL_add, jL_mul, iI_le, iI_lt, iI_eq, iI_eq0, iI_lt0, iI_0le, iI_le0, iI_0lt, jL_iI, iI_jL, lc_eq, lc_lt, lc_le, lc_ge, lc_gt, Nat.sub_zero, Nat.zero_le, true_and, and_true, Nat.reduceAdd, Nat.reduceLeDiff]
  refine ⟨h1, h6, c_lots (d := d) hI hz hn (by omega) (by omega) hlr hyr hk ⟨fun er hi' hl' hr' I' f1 f2 f3 => ?_, fun k hk er hi' hl' hr' I' f1 f2 f3 => ?_⟩⟩
  · simp (disch := omega) only [lt133, en_ops, en_opc, iI_add, iI_mul, iI_sub, jL_add, jL_mul, iI_le, iI_lt, iI_eq, iI_eq0, iI_lt0, iI_0le, iI_le0, iI_0lt, jL_iI, iI_jL, lc_eq, lc_lt, lc_le, lc_ge, lc_gt, Nat.sub_zero, Nat.zero_le, true_and, and_true, Nat.reduceAdd, Nat.reduceLeDiff]
    refine ⟨0, rfl, by rw [sh133]; decide, by decide, ?_⟩
    exact H.1 er hi' hl' hr' I' f1 f2 f3
  · rcases (show k = 0 ∨ k = 1 ∨ k = 2 ∨ k = 3 by omega) with rfl | rfl | rfl | rfl
    · exact absurd er (by (repeat' split) <;> omega)
    · show o_iconst 1 (o_iret K) (en_set1 [.ref 0, .int (iI l), .int (iI y), .int (iI k), .int (iI x), .ref 133, jk] 6 jk) [] hi' hl' hr' (xc - 4) (xs - 24)
      simp (disch := omega) only [en_ops, en_opc, iI_add, iI_mul, iI_sub, jL_add, jL_mul, iI_le, iI_lt, iI_eq, iI_eq0, iI_lt0, iI_0le, iI_le0, iI_0lt, jL_iI, iI_jL, lc_eq, lc_lt, lc_le, lc_ge, lc_gt, Nat.sub_zero, Nat.zero_le, true_and, and_true, Nat.reduceAdd, Nat.reduceLeDiff]
      exact H.2 1 hk er hi' hl' hr' I' f1 f2 f3
    · show o_iconst 2 (o_iret K) (en_set1 [.ref 0, .int (iI l), .int (iI y), .int (iI k), .int (iI x), .ref 133, jk] 6 jk) [] hi' hl' hr' (xc - 4) (xs - 24)
      simp (disch := omega) only [en_ops, en_opc, iI_add, iI_mul, iI_sub, jL_add, jL_mul, iI_le, iI_lt, iI_eq, iI_eq0, iI_lt0, iI_0le, iI_le0, iI_0lt, jL_iI, iI_jL, lc_eq, lc_lt, lc_le, lc_ge, lc_gt, Nat.sub_zero, Nat.zero_le, true_and, and_true, Nat.reduceAdd, Nat.reduceLeDiff]
      exact H.2 2 hk er hi' hl' hr' I' f1 f2 f3
    · show o_iconst 3 (o_iret K) (en_set1 [.ref 0, .int (iI l), .int (iI y), .int (iI k), .int (iI x), .ref 133, jk] 6 jk) [] hi' hl' hr' (xc - 4) (xs - 24)
      simp (disch := omega) only [en_ops, en_opc, iI_add, iI_mul, iI_sub, jL_add, jL_mul, iI_le, iI_lt, iI_eq, iI_eq0, iI_lt0, iI_0le, iI_le0, iI_0lt, jL_iI, iI_jL, lc_eq, lc_lt, lc_le, lc_ge, lc_gt, Nat.sub_zero, Nat.zero_le, true_and, and_true, Nat.reduceAdd, Nat.reduceLeDiff]
      exact H.2 3 hk er hi' hl' hr' I' f1 f2 f3
theorem l_mean {c : Int} (hI : InvC G W hi hr) (hz : zOK n W) (h1 : 1 ≤ xc) (h6 : 6 ≤ xs) (hc : iRg c) (H : lEnd G W W (if inC W c then 0 else 1) (fun k => if k = 0 then 1 else 0) ((iI (mnP (zS W).1.1 (zE W).2.2.1 c.toNat)).toInt64) K hi hl hr) : en_Call G (d + 5) xc xs Y_L_mean wN wN [.ref 0, .int (iI c), .ref 133] hi hl hr K := by
  apply en_L_mean
  simp (disch := omega) only [B_L_mean_0, sh0, lt0, en_ops, en_opc, iI_add, iI_mul, iI_sub, jL_add, jL_mul, iI_le, iI_lt, iI_eq, iI_eq0, iI_lt0, iI_0le, iI_le0, iI_0lt, jL_iI, iI_jL, lc_eq, lc_lt, lc_le, lc_ge, lc_gt, Nat.sub_zero, Nat.zero_le, true_and, and_true, Nat.reduceAdd, Nat.reduceLeDiff]
  refine ⟨h1, h6, c_mean (d := d) hI hz (by omega) (by omega) hc ⟨fun er hi' hl' hr' I' f1 f2 f3 => ?_, fun k hk er hi' hl' hr' I' f1 f2 f3 => ?_⟩⟩
  · simp (disch := omega) only [lt133, en_ops, en_opc, iI_add, iI_mul, iI_sub, jL_add, jL_mul, iI_le, iI_lt, iI_eq, iI_eq0, iI_lt0, iI_0le, iI_le0, iI_0lt, jL_iI, iI_jL, lc_eq, lc_lt, lc_le, lc_ge, lc_gt, Nat.sub_zero, Nat.zero_le, true_and, and_true, Nat.reduceAdd, Nat.reduceLeDiff]
    refine ⟨0, rfl, by rw [sh133]; decide, by decide, ?_⟩
    exact H.1 er hi' hl' hr' I' f1 f2 f3
  · rcases (show k = 0 ∨ k = 1 ∨ k = 2 ∨ k = 3 by omega) with rfl | rfl | rfl | rfl
    · show o_iconst 1 (o_iret K) (en_set1 [.ref 0, .int (iI c), .ref 133, jk] 3 jk) [] hi' hl' hr' (xc - 1) (xs - 6)
      simp (disch := omega) only [en_ops, en_opc, iI_add, iI_mul, iI_sub, jL_add, jL_mul, iI_le, iI_lt, iI_eq, iI_eq0, iI_lt0, iI_0le, iI_le0, iI_0lt, jL_iI, iI_jL, lc_eq, lc_lt, lc_le, lc_ge, lc_gt, Nat.sub_zero, Nat.zero_le, true_and, and_true, Nat.reduceAdd, Nat.reduceLeDiff]
      exact H.2 0 hk er hi' hl' hr' I' f1 f2 f3
    · exact absurd er (by (repeat' split) <;> omega)
    · exact absurd er (by (repeat' split) <;> omega)
    · exact absurd er (by (repeat' split) <;> omega)
theorem l_order {w : Int} (hI : InvC G W hi hr) (hz : zOK n W) (h1 : 1 ≤ xc) (h6 : 6 ≤ xs) (hw : iRg w) (H : lEnd G W W (if 0 ≤ w ∧ w ≤ 3 then 0 else 3) (fun k => if k = 2 then 1 else 0) ((iI (orP W w)).toInt64) K hi hl hr) : en_Call G (d + 7) xc xs Y_L_order wN wN [.ref 0, .int (iI w), .ref 133] hi hl hr K := by
  apply en_L_order
  simp (disch := omega) only [B_L_order_0, sh0, lt0, en_ops, en_opc, iI_add, iI_mul, iI_sub, jL_add, jL_mul, iI_le, iI_lt, iI_eq, iI_eq0, iI_lt0, iI_0le, iI_le0, iI_0lt, jL_iI, iI_jL, lc_eq, lc_lt, lc_le, lc_ge, lc_gt, Nat.sub_zero, Nat.zero_le, true_and, and_true, Nat.reduceAdd, Nat.reduceLeDiff]
  refine ⟨h1, h6, c_order (d := d) hI hz (by omega) (by omega) hw ⟨fun er hi' hl' hr' I' f1 f2 f3 => ?_, fun k hk er hi' hl' hr' I' f1 f2 f3 => ?_⟩⟩
  · simp (disch := omega) only [lt133, en_ops, en_opc, iI_add, iI_mul, iI_sub, jL_add, jL_mul, iI_le, iI_lt, iI_eq, iI_eq0, iI_lt0, iI_0le, iI_le0, iI_0lt, jL_iI, iI_jL, lc_eq, lc_lt, lc_le, lc_ge, lc_gt, Nat.sub_zero, Nat.zero_le, true_and, and_true, Nat.reduceAdd, Nat.reduceLeDiff]
    refine ⟨0, rfl, by rw [sh133]; decide, by decide, ?_⟩
    exact H.1 er hi' hl' hr' I' f1 f2 f3
  · rcases (show k = 0 ∨ k = 1 ∨ k = 2 ∨ k = 3 by omega) with rfl | rfl | rfl | rfl
    · exact absurd er (by (repeat' split) <;> omega)
    · exact absurd er (by (repeat' split) <;> omega)
    · show o_iconst 1 (o_iret K) (en_set1 [.ref 0, .int (iI w), .ref 133, jk] 3 jk) [] hi' hl' hr' (xc - 1) (xs - 6)
      simp (disch := omega) only [en_ops, en_opc, iI_add, iI_mul, iI_sub, jL_add, jL_mul, iI_le, iI_lt, iI_eq, iI_eq0, iI_lt0, iI_0le, iI_le0, iI_0lt, jL_iI, iI_jL, lc_eq, lc_lt, lc_le, lc_ge, lc_gt, Nat.sub_zero, Nat.zero_le, true_and, and_true, Nat.reduceAdd, Nat.reduceLeDiff]
      exact H.2 2 hk er hi' hl' hr' I' f1 f2 f3
    · exact absurd er (by (repeat' split) <;> omega)
theorem l_sound {c : Int} (hI : InvC G W hi hr) (hz : zOK n W) (h1 : 1 ≤ xc) (h6 : 6 ≤ xs) (hc : iRg c) (H : lEnd G W W (if inC W c then 0 else 1) (fun k => if k = 0 then 1 else 0) ((iI (sdP (zS W).1.1 (zE W).2.2.1 c.toNat)).toInt64) K hi hl hr) : en_Call G (d + 6) xc xs Y_L_sound wN wN [.ref 0, .int (iI c), .ref 133] hi hl hr K := by
  apply en_L_sound
  simp (disch := omega) only [B_L_sound_0, sh0, lt0, en_ops, en_opc, iI_add, iI_mul, iI_sub, jL_add, jL_mul, iI_le, iI_lt, iI_eq, iI_eq0, iI_lt0, iI_0le, iI_le0, iI_0lt, jL_iI, iI_jL, lc_eq, lc_lt, lc_le, lc_ge, lc_gt, Nat.sub_zero, Nat.zero_le, true_and, and_true, Nat.reduceAdd, Nat.reduceLeDiff]
  refine ⟨h1, h6, c_sound (d := d) hI hz (by omega) (by omega) hc ⟨fun er hi' hl' hr' I' f1 f2 f3 => ?_, fun k hk er hi' hl' hr' I' f1 f2 f3 => ?_⟩⟩
  · simp (disch := omega) only [lt133, en_ops, en_opc, iI_add, iI_mul, iI_sub, jL_add, jL_mul, iI_le, iI_lt, iI_eq, iI_eq0, iI_lt0, iI_0le, iI_le0, iI_0lt, jL_iI, iI_jL, lc_eq, lc_lt, lc_le, lc_ge, lc_gt, Nat.sub_zero, Nat.zero_le, true_and, and_true, Nat.reduceAdd, Nat.reduceLeDiff]
    refine ⟨0, rfl, by rw [sh133]; decide, by decide, ?_⟩
    exact H.1 er hi' hl' hr' I' f1 f2 f3
  · rcases (show k = 0 ∨ k = 1 ∨ k = 2 ∨ k = 3 by omega) with rfl | rfl | rfl | rfl
    · show o_iconst 1 (o_iret K) (en_set1 [.ref 0, .int (iI c), .ref 133, jk] 3 jk) [] hi' hl' hr' (xc - 1) (xs - 6)
      simp (disch := omega) only [en_ops, en_opc, iI_add, iI_mul, iI_sub, jL_add, jL_mul, iI_le, iI_lt, iI_eq, iI_eq0, iI_lt0, iI_0le, iI_le0, iI_0lt, jL_iI, iI_jL, lc_eq, lc_lt, lc_le, lc_ge, lc_gt, Nat.sub_zero, Nat.zero_le, true_and, and_true, Nat.reduceAdd, Nat.reduceLeDiff]
      exact H.2 0 hk er hi' hl' hr' I' f1 f2 f3
    · exact absurd er (by (repeat' split) <;> omega)
    · exact absurd er (by (repeat' split) <;> omega)
    · exact absurd er (by (repeat' split) <;> omega)
theorem l_take {z k : Int} (hI : InvC G W hi hr) (hz : zOK n W) (h1 : 1 ≤ xc) (h6 : 6 ≤ xs) (hzr : iRg z) (hk : iRg k) (H : lEnd G W (tkW W z.toNat k.toNat) (if inZ W z ∧ 0 ≤ k ∧ k < 3 then 0 else 3) (fun k => if k = 2 then 1 else 0) ((iI (tkA W)).toInt64) K hi hl hr) : en_Call G (d + 3) xc xs Y_L_take wN wN [.ref 0, .int (iI z), .int (iI k), .ref 133] hi hl hr K := by
  apply en_L_take
  simp (disch := omega) only [B_L_take_0, sh0, lt0, en_ops, en_opc, iI_add, iI_mul, iI_sub, jL_add, jL_mul, iI_le, iI_lt, iI_eq, iI_eq0, iI_lt0, iI_0le, iI_le0, iI_0lt, jL_iI, iI_jL, lc_eq, lc_lt, lc_le, lc_ge, lc_gt, Nat.sub_zero, Nat.zero_le, true_and, and_true, Nat.reduceAdd, Nat.reduceLeDiff]
  refine ⟨h1, h6, c_take (d := d) hI hz (by omega) (by omega) hzr hk ⟨fun er hi' hl' hr' I' f1 f2 f3 => ?_, fun k hk er hi' hl' hr' I' f1 f2 f3 => ?_⟩⟩
  · simp (disch := omega) only [lt133, en_ops, en_opc, iI_add, iI_mul, iI_sub, jL_add, jL_mul, iI_le, iI_lt, iI_eq, iI_eq0, iI_lt0, iI_0le, iI_le0, iI_0lt, jL_iI, iI_jL, lc_eq, lc_lt, lc_le, lc_ge, lc_gt, Nat.sub_zero, Nat.zero_le, true_and, and_true, Nat.reduceAdd, Nat.reduceLeDiff]
    refine ⟨0, rfl, by rw [sh133]; decide, by decide, ?_⟩
    exact H.1 er hi' hl' hr' I' f1 f2 f3
  · rcases (show k = 0 ∨ k = 1 ∨ k = 2 ∨ k = 3 by omega) with rfl | rfl | rfl | rfl
    · exact absurd er (by (repeat' split) <;> omega)
    · exact absurd er (by (repeat' split) <;> omega)
    · show o_iconst 1 (o_iret K) (en_set1 [.ref 0, .int (iI z), .int (iI k), .ref 133, jk] 4 jk) [] hi' hl' hr' (xc - 1) (xs - 6)
      simp (disch := omega) only [en_ops, en_opc, iI_add, iI_mul, iI_sub, jL_add, jL_mul, iI_le, iI_lt, iI_eq, iI_eq0, iI_lt0, iI_0le, iI_le0, iI_0lt, jL_iI, iI_jL, lc_eq, lc_lt, lc_le, lc_ge, lc_gt, Nat.sub_zero, Nat.zero_le, true_and, and_true, Nat.reduceAdd, Nat.reduceLeDiff]
      exact H.2 2 hk er hi' hl' hr' I' f1 f2 f3
    · exact absurd er (by (repeat' split) <;> omega)
theorem l_word {c : Int} (hI : InvC G W hi hr) (hz : zOK n W) (h1 : 1 ≤ xc) (h6 : 6 ≤ xs) (hc : iRg c) (H : lEnd G W W (if inC W c then 0 else 1) (fun k => if k = 0 then 1 else 0) ((jL (wdP (zS W).1.1 (zE W).2.2.1 (zS W).2.1 (hdG (zS W).2.2.1) c.toNat))) K hi hl hr) : en_Call G (d + 5) xc xs Y_L_word wN wN [.ref 0, .int (iI c), .ref 133] hi hl hr K := by
  apply en_L_word
  simp (disch := omega) only [B_L_word_0, sh0, lt0, en_ops, en_opc, iI_add, iI_mul, iI_sub, jL_add, jL_mul, iI_le, iI_lt, iI_eq, iI_eq0, iI_lt0, iI_0le, iI_le0, iI_0lt, jL_iI, iI_jL, lc_eq, lc_lt, lc_le, lc_ge, lc_gt, Nat.sub_zero, Nat.zero_le, true_and, and_true, Nat.reduceAdd, Nat.reduceLeDiff]
  refine ⟨h1, h6, c_word (d := d) hI hz (by omega) (by omega) hc ⟨fun er hi' hl' hr' I' f1 f2 f3 => ?_, fun k hk er hi' hl' hr' I' f1 f2 f3 => ?_⟩⟩
  · simp (disch := omega) only [lt133, en_ops, en_opc, iI_add, iI_mul, iI_sub, jL_add, jL_mul, iI_le, iI_lt, iI_eq, iI_eq0, iI_lt0, iI_0le, iI_le0, iI_0lt, jL_iI, iI_jL, lc_eq, lc_lt, lc_le, lc_ge, lc_gt, Nat.sub_zero, Nat.zero_le, true_and, and_true, Nat.reduceAdd, Nat.reduceLeDiff]
    refine ⟨0, rfl, by rw [sh133]; decide, by decide, ?_⟩
    exact H.1 er hi' hl' hr' I' f1 f2 f3
  · rcases (show k = 0 ∨ k = 1 ∨ k = 2 ∨ k = 3 by omega) with rfl | rfl | rfl | rfl
    · show o_iconst 1 (o_iret K) (en_set1 [.ref 0, .int (iI c), .ref 133, jk] 3 jk) [] hi' hl' hr' (xc - 1) (xs - 6)
      simp (disch := omega) only [en_ops, en_opc, iI_add, iI_mul, iI_sub, jL_add, jL_mul, iI_le, iI_lt, iI_eq, iI_eq0, iI_lt0, iI_0le, iI_le0, iI_0lt, jL_iI, iI_jL, lc_eq, lc_lt, lc_le, lc_ge, lc_gt, Nat.sub_zero, Nat.zero_le, true_and, and_true, Nat.reduceAdd, Nat.reduceLeDiff]
      exact H.2 0 hk er hi' hl' hr' I' f1 f2 f3
    · exact absurd er (by (repeat' split) <;> omega)
    · exact absurd er (by (repeat' split) <;> omega)
    · exact absurd er (by (repeat' split) <;> omega)
theorem l_odds {c : Int} (hI : InvC G W hi hr) (hz : zOK n W) (h1 : 1 ≤ xc) (h6 : 6 ≤ xs) (hc : iRg c) (H : lEnd G W W (if inC W c then 0 else 1) (fun k => if k = 0 then 1 else 0) ((iI (odP (zE W).2.1 (hdW W) c.toNat)).toInt64) K hi hl hr) : en_Call G (d + 7) xc xs Y_L_odds wN wN [.ref 0, .int (iI c), .ref 133] hi hl hr K := by
  apply en_L_odds
  simp (disch := omega) only [B_L_odds_0, sh0, lt0, en_ops, en_opc, iI_add, iI_mul, iI_sub, jL_add, jL_mul, iI_le, iI_lt, iI_eq, iI_eq0, iI_lt0, iI_0le, iI_le0, iI_0lt, jL_iI, iI_jL, lc_eq, lc_lt, lc_le, lc_ge, lc_gt, Nat.sub_zero, Nat.zero_le, true_and, and_true, Nat.reduceAdd, Nat.reduceLeDiff]
  refine ⟨h1, h6, c_odds (d := d) hI hz (by omega) (by omega) hc ⟨fun er hi' hl' hr' I' f1 f2 f3 => ?_, fun k hk er hi' hl' hr' I' f1 f2 f3 => ?_⟩⟩
  · simp (disch := omega) only [lt133, en_ops, en_opc, iI_add, iI_mul, iI_sub, jL_add, jL_mul, iI_le, iI_lt, iI_eq, iI_eq0, iI_lt0, iI_0le, iI_le0, iI_0lt, jL_iI, iI_jL, lc_eq, lc_lt, lc_le, lc_ge, lc_gt, Nat.sub_zero, Nat.zero_le, true_and, and_true, Nat.reduceAdd, Nat.reduceLeDiff]
    refine ⟨0, rfl, by rw [sh133]; decide, by decide, ?_⟩
    exact H.1 er hi' hl' hr' I' f1 f2 f3
  · rcases (show k = 0 ∨ k = 1 ∨ k = 2 ∨ k = 3 by omega) with rfl | rfl | rfl | rfl
    · show o_iconst 1 (o_iret K) (en_set1 [.ref 0, .int (iI c), .ref 133, jk] 3 jk) [] hi' hl' hr' (xc - 1) (xs - 6)
      simp (disch := omega) only [en_ops, en_opc, iI_add, iI_mul, iI_sub, jL_add, jL_mul, iI_le, iI_lt, iI_eq, iI_eq0, iI_lt0, iI_0le, iI_le0, iI_0lt, jL_iI, iI_jL, lc_eq, lc_lt, lc_le, lc_ge, lc_gt, Nat.sub_zero, Nat.zero_le, true_and, and_true, Nat.reduceAdd, Nat.reduceLeDiff]
      exact H.2 0 hk er hi' hl' hr' I' f1 f2 f3
    · exact absurd er (by (repeat' split) <;> omega)
    · exact absurd er (by (repeat' split) <;> omega)
    · exact absurd er (by (repeat' split) <;> omega)
theorem l_where {w : Int} (hI : InvC G W hi hr) (hz : zOK n W) (h1 : 1 ≤ xc) (h6 : 6 ≤ xs) (hw : iRg w) (H : lEnd G W W (if 0 ≤ w ∧ w ≤ 2 then 0 else 3) (fun k => if k = 2 then 1 else 0) ((iI (whA W w)).toInt64) K hi hl hr) : en_Call G (d + 7) xc xs Y_L_where wN wN [.ref 0, .int (iI w), .ref 133] hi hl hr K := by
  apply en_L_where
  simp (disch := omega) only [B_L_where_0, sh0, lt0, en_ops, en_opc, iI_add, iI_mul, iI_sub, jL_add, jL_mul, iI_le, iI_lt, iI_eq, iI_eq0, iI_lt0, iI_0le, iI_le0, iI_0lt, jL_iI, iI_jL, lc_eq, lc_lt, lc_le, lc_ge, lc_gt, Nat.sub_zero, Nat.zero_le, true_and, and_true, Nat.reduceAdd, Nat.reduceLeDiff]
  refine ⟨h1, h6, c_where (d := d) hI hz (by omega) (by omega) hw ⟨fun er hi' hl' hr' I' f1 f2 f3 => ?_, fun k hk er hi' hl' hr' I' f1 f2 f3 => ?_⟩⟩
  · simp (disch := omega) only [lt133, en_ops, en_opc, iI_add, iI_mul, iI_sub, jL_add, jL_mul, iI_le, iI_lt, iI_eq, iI_eq0, iI_lt0, iI_0le, iI_le0, iI_0lt, jL_iI, iI_jL, lc_eq, lc_lt, lc_le, lc_ge, lc_gt, Nat.sub_zero, Nat.zero_le, true_and, and_true, Nat.reduceAdd, Nat.reduceLeDiff]
    refine ⟨0, rfl, by rw [sh133]; decide, by decide, ?_⟩
    exact H.1 er hi' hl' hr' I' f1 f2 f3
  · rcases (show k = 0 ∨ k = 1 ∨ k = 2 ∨ k = 3 by omega) with rfl | rfl | rfl | rfl
    · exact absurd er (by (repeat' split) <;> omega)
    · exact absurd er (by (repeat' split) <;> omega)
    · show o_iconst 1 (o_iret K) (en_set1 [.ref 0, .int (iI w), .ref 133, jk] 3 jk) [] hi' hl' hr' (xc - 1) (xs - 6)
      simp (disch := omega) only [en_ops, en_opc, iI_add, iI_mul, iI_sub, jL_add, jL_mul, iI_le, iI_lt, iI_eq, iI_eq0, iI_lt0, iI_0le, iI_le0, iI_0lt, jL_iI, iI_jL, lc_eq, lc_lt, lc_le, lc_ge, lc_gt, Nat.sub_zero, Nat.zero_le, true_and, and_true, Nat.reduceAdd, Nat.reduceLeDiff]
      exact H.2 2 hk er hi' hl' hr' I' f1 f2 f3
    · exact absurd er (by (repeat' split) <;> omega)
theorem l_found {z s : Int} (hI : InvC G W hi hr) (hz : zOK n W) (h1 : 1 ≤ xc) (h6 : 6 ≤ xs) (hzr : iRg z) (hs : iRg s) (H : lEnd G W W (if inZ W z ∧ 1 ≤ s ∧ s ≤ 16 then 0 else 3) (fun k => if k = 2 then 1 else 0) ((iI (foP (zS W).1.1 (zE W).2.1 z.toNat s)).toInt64) K hi hl hr) : en_Call G (d + 4) xc xs Y_L_found wN wN [.ref 0, .int (iI z), .int (iI s), .ref 133] hi hl hr K := by
  apply en_L_found
  simp (disch := omega) only [B_L_found_0, sh0, lt0, en_ops, en_opc, iI_add, iI_mul, iI_sub, jL_add, jL_mul, iI_le, iI_lt, iI_eq, iI_eq0, iI_lt0, iI_0le, iI_le0, iI_0lt, jL_iI, iI_jL, lc_eq, lc_lt, lc_le, lc_ge, lc_gt, Nat.sub_zero, Nat.zero_le, true_and, and_true, Nat.reduceAdd, Nat.reduceLeDiff]
  refine ⟨h1, h6, c_found (d := d) hI hz (by omega) (by omega) hzr hs ⟨fun er hi' hl' hr' I' f1 f2 f3 => ?_, fun k hk er hi' hl' hr' I' f1 f2 f3 => ?_⟩⟩
  · simp (disch := omega) only [lt133, en_ops, en_opc, iI_add, iI_mul, iI_sub, jL_add, jL_mul, iI_le, iI_lt, iI_eq, iI_eq0, iI_lt0, iI_0le, iI_le0, iI_0lt, jL_iI, iI_jL, lc_eq, lc_lt, lc_le, lc_ge, lc_gt, Nat.sub_zero, Nat.zero_le, true_and, and_true, Nat.reduceAdd, Nat.reduceLeDiff]
    refine ⟨0, rfl, by rw [sh133]; decide, by decide, ?_⟩
    exact H.1 er hi' hl' hr' I' f1 f2 f3
  · rcases (show k = 0 ∨ k = 1 ∨ k = 2 ∨ k = 3 by omega) with rfl | rfl | rfl | rfl
    · exact absurd er (by (repeat' split) <;> omega)
    · exact absurd er (by (repeat' split) <;> omega)
    · show o_iconst 1 (o_iret K) (en_set1 [.ref 0, .int (iI z), .int (iI s), .ref 133, jk] 4 jk) [] hi' hl' hr' (xc - 1) (xs - 6)
      simp (disch := omega) only [en_ops, en_opc, iI_add, iI_mul, iI_sub, jL_add, jL_mul, iI_le, iI_lt, iI_eq, iI_eq0, iI_lt0, iI_0le, iI_le0, iI_0lt, jL_iI, iI_jL, lc_eq, lc_lt, lc_le, lc_ge, lc_gt, Nat.sub_zero, Nat.zero_le, true_and, and_true, Nat.reduceAdd, Nat.reduceLeDiff]
      exact H.2 2 hk er hi' hl' hr' I' f1 f2 f3
    · exact absurd er (by (repeat' split) <;> omega)
theorem l_miles {z : Int} (hI : InvC G W hi hr) (hz : zOK n W) (h1 : 1 ≤ xc) (h6 : 6 ≤ xs) (hzr : iRg z) (H : lEnd G W W (if inZ W z then 0 else 3) (fun k => if k = 2 then 1 else 0) ((iI (miP (zS W).1.1 (zE W).2.1 z.toNat)).toInt64) K hi hl hr) : en_Call G (d + 4) xc xs Y_L_miles wN wN [.ref 0, .int (iI z), .ref 133] hi hl hr K := by
  apply en_L_miles
  simp (disch := omega) only [B_L_miles_0, sh0, lt0, en_ops, en_opc, iI_add, iI_mul, iI_sub, jL_add, jL_mul, iI_le, iI_lt, iI_eq, iI_eq0, iI_lt0, iI_0le, iI_le0, iI_0lt, jL_iI, iI_jL, lc_eq, lc_lt, lc_le, lc_ge, lc_gt, Nat.sub_zero, Nat.zero_le, true_and, and_true, Nat.reduceAdd, Nat.reduceLeDiff]
  refine ⟨h1, h6, c_miles (d := d) hI hz (by omega) (by omega) hzr ⟨fun er hi' hl' hr' I' f1 f2 f3 => ?_, fun k hk er hi' hl' hr' I' f1 f2 f3 => ?_⟩⟩
  · simp (disch := omega) only [lt133, en_ops, en_opc, iI_add, iI_mul, iI_sub, jL_add, jL_mul, iI_le, iI_lt, iI_eq, iI_eq0, iI_lt0, iI_0le, iI_le0, iI_0lt, jL_iI, iI_jL, lc_eq, lc_lt, lc_le, lc_ge, lc_gt, Nat.sub_zero, Nat.zero_le, true_and, and_true, Nat.reduceAdd, Nat.reduceLeDiff]
    refine ⟨0, rfl, by rw [sh133]; decide, by decide, ?_⟩
    exact H.1 er hi' hl' hr' I' f1 f2 f3
  · rcases (show k = 0 ∨ k = 1 ∨ k = 2 ∨ k = 3 by omega) with rfl | rfl | rfl | rfl
    · exact absurd er (by (repeat' split) <;> omega)
    · exact absurd er (by (repeat' split) <;> omega)
    · show o_iconst 1 (o_iret K) (en_set1 [.ref 0, .int (iI z), .ref 133, jk] 3 jk) [] hi' hl' hr' (xc - 1) (xs - 6)
      simp (disch := omega) only [en_ops, en_opc, iI_add, iI_mul, iI_sub, jL_add, jL_mul, iI_le, iI_lt, iI_eq, iI_eq0, iI_lt0, iI_0le, iI_le0, iI_0lt, jL_iI, iI_jL, lc_eq, lc_lt, lc_le, lc_ge, lc_gt, Nat.sub_zero, Nat.zero_le, true_and, and_true, Nat.reduceAdd, Nat.reduceLeDiff]
      exact H.2 2 hk er hi' hl' hr' I' f1 f2 f3
    · exact absurd er (by (repeat' split) <;> omega)
theorem l_look {z k w : Int} (hI : InvC G W hi hr) (hz : zOK n W) (h1 : 1 ≤ xc) (h6 : 6 ≤ xs) (hzr : iRg z) (hk : iRg k) (hw : iRg w) (H : lEnd G W W (if inZ W z ∧ (1 ≤ k ∧ k ≤ (zE W).2.1) ∧ 0 ≤ w ∧ w ≤ 1 then 0 else 3) (fun k => if k = 2 then 1 else 0) ((iI (lkP2 (zS W).1.1 (zE W).2.1 z.toNat k.toNat w)).toInt64) K hi hl hr) : en_Call G (d + 5) xc xs Y_L_look wN wN [.ref 0, .int (iI z), .int (iI k), .int (iI w), .ref 133] hi hl hr K := by
  apply en_L_look
  simp (disch := omega) only [B_L_look_0, sh0, lt0, en_ops, en_opc, iI_add, iI_mul, iI_sub, jL_add, jL_mul, iI_le, iI_lt, iI_eq, iI_eq0, iI_lt0, iI_0le, iI_le0, iI_0lt, jL_iI, iI_jL, lc_eq, lc_lt, lc_le, lc_ge, lc_gt, Nat.sub_zero, Nat.zero_le, true_and, and_true, Nat.reduceAdd, Nat.reduceLeDiff]
  refine ⟨h1, h6, c_look (d := d) hI hz (by omega) (by omega) hzr hk hw ⟨fun er hi' hl' hr' I' f1 f2 f3 => ?_, fun k hk er hi' hl' hr' I' f1 f2 f3 => ?_⟩⟩
  · simp (disch := omega) only [lt133, en_ops, en_opc, iI_add, iI_mul, iI_sub, jL_add, jL_mul, iI_le, iI_lt, iI_eq, iI_eq0, iI_lt0, iI_0le, iI_le0, iI_0lt, jL_iI, iI_jL, lc_eq, lc_lt, lc_le, lc_ge, lc_gt, Nat.sub_zero, Nat.zero_le, true_and, and_true, Nat.reduceAdd, Nat.reduceLeDiff]
    refine ⟨0, rfl, by rw [sh133]; decide, by decide, ?_⟩
    exact H.1 er hi' hl' hr' I' f1 f2 f3
  · rcases (show k = 0 ∨ k = 1 ∨ k = 2 ∨ k = 3 by omega) with rfl | rfl | rfl | rfl
    · exact absurd er (by (repeat' split) <;> omega)
    · exact absurd er (by (repeat' split) <;> omega)
    · show o_iconst 1 (o_iret K) (en_set1 [.ref 0, .int (iI z), .int (iI k), .int (iI w), .ref 133, jk] 5 jk) [] hi' hl' hr' (xc - 1) (xs - 6)
      simp (disch := omega) only [en_ops, en_opc, iI_add, iI_mul, iI_sub, jL_add, jL_mul, iI_le, iI_lt, iI_eq, iI_eq0, iI_lt0, iI_0le, iI_le0, iI_0lt, jL_iI, iI_jL, lc_eq, lc_lt, lc_le, lc_ge, lc_gt, Nat.sub_zero, Nat.zero_le, true_and, and_true, Nat.reduceAdd, Nat.reduceLeDiff]
      exact H.2 2 hk er hi' hl' hr' I' f1 f2 f3
    · exact absurd er (by (repeat' split) <;> omega)
theorem l_left {l : Int} {y : Int} {c : Int} {z : Int} (hI : InvC G W hi hr) (hz : zOK n W) (hn : n ≤ 512) (h1 : 5 ≤ xc) (h6 : 30 ≤ xs) (hlr : iRg l) (hyr : iRg y) (hc : iRg c) (hz9 : iRg z) (H : lEnd G W W (if inC W c then if inL W l then if inY W y then if inZ W z then if isNow W then 0 else 4 else 3 else 2 else 2 else 1) (fun k => if k = 0 then 1 else if k = 1 then 2 else if k = 2 then 3 else if k = 3 then 4 else 0) ((iI (aP (yrP (eL W l.toNat) (zYs W y.toNat).2 (zYs W y.toNat).1 (zS W).1).1 c.toNat z.toNat)).toInt64) K hi hl hr) : en_Call G (d + 10) xc xs Y_L_left wN wN [.ref 0, .int (iI l), .int (iI y), .int (iI c), .int (iI z), .ref 133] hi hl hr K := by
  apply en_L_left
  simp (disch := omega) only [B_L_left_0, sh0, lt0, en_ops, en_opc, iI_add, iI_mul, iI_sub, jL_add, jL_mul, iI_le, iI_lt, iI_eq, iI_eq0, iI_lt0, iI_0le, iI_le0, iI_0lt, jL_iI, iI_jL, lc_eq, lc_lt, lc_le, lc_ge, lc_gt, Nat.sub_zero, Nat.zero_le, true_and, and_true, Nat.reduceAdd, Nat.reduceLeDiff]
  refine ⟨h1, h6, c_left (d := d) hI hz hn (by omega) (by omega) hlr hyr hc hz9 ⟨fun er hi' hl' hr' I' f1 f2 f3 => ?_, fun k hk er hi' hl' hr' I' f1 f2 f3 => ?_⟩⟩
  · simp (disch := omega) only [lt133, en_ops, en_opc, iI_add, iI_mul, iI_sub, jL_add, jL_mul, iI_le, iI_lt, iI_eq, iI_eq0, iI_lt0, iI_0le, iI_le0, iI_0lt, jL_iI, iI_jL, lc_eq, lc_lt, lc_le, lc_ge, lc_gt, Nat.sub_zero, Nat.zero_le, true_and, and_true, Nat.reduceAdd, Nat.reduceLeDiff]
    refine ⟨0, rfl, by rw [sh133]; decide, by decide, ?_⟩
    exact H.1 er hi' hl' hr' I' f1 f2 f3
  · rcases (show k = 0 ∨ k = 1 ∨ k = 2 ∨ k = 3 by omega) with rfl | rfl | rfl | rfl
    · show o_iconst 1 (o_iret K) (en_set1 [.ref 0, .int (iI l), .int (iI y), .int (iI c), .int (iI z), .ref 133, jk] 6 jk) [] hi' hl' hr' (xc - 5) (xs - 30)
      simp (disch := omega) only [en_ops, en_opc, iI_add, iI_mul, iI_sub, jL_add, jL_mul, iI_le, iI_lt, iI_eq, iI_eq0, iI_lt0, iI_0le, iI_le0, iI_0lt, jL_iI, iI_jL, lc_eq, lc_lt, lc_le, lc_ge, lc_gt, Nat.sub_zero, Nat.zero_le, true_and, and_true, Nat.reduceAdd, Nat.reduceLeDiff]
      exact H.2 0 hk er hi' hl' hr' I' f1 f2 f3
    · show o_iconst 2 (o_iret K) (en_set1 [.ref 0, .int (iI l), .int (iI y), .int (iI c), .int (iI z), .ref 133, jk] 6 jk) [] hi' hl' hr' (xc - 5) (xs - 30)
      simp (disch := omega) only [en_ops, en_opc, iI_add, iI_mul, iI_sub, jL_add, jL_mul, iI_le, iI_lt, iI_eq, iI_eq0, iI_lt0, iI_0le, iI_le0, iI_0lt, jL_iI, iI_jL, lc_eq, lc_lt, lc_le, lc_ge, lc_gt, Nat.sub_zero, Nat.zero_le, true_and, and_true, Nat.reduceAdd, Nat.reduceLeDiff]
      exact H.2 1 hk er hi' hl' hr' I' f1 f2 f3
    · show o_iconst 3 (o_iret K) (en_set1 [.ref 0, .int (iI l), .int (iI y), .int (iI c), .int (iI z), .ref 133, jk] 6 jk) [] hi' hl' hr' (xc - 5) (xs - 30)
      simp (disch := omega) only [en_ops, en_opc, iI_add, iI_mul, iI_sub, jL_add, jL_mul, iI_le, iI_lt, iI_eq, iI_eq0, iI_lt0, iI_0le, iI_le0, iI_0lt, jL_iI, iI_jL, lc_eq, lc_lt, lc_le, lc_ge, lc_gt, Nat.sub_zero, Nat.zero_le, true_and, and_true, Nat.reduceAdd, Nat.reduceLeDiff]
      exact H.2 2 hk er hi' hl' hr' I' f1 f2 f3
    · show o_iconst 4 (o_iret K) (en_set1 [.ref 0, .int (iI l), .int (iI y), .int (iI c), .int (iI z), .ref 133, jk] 6 jk) [] hi' hl' hr' (xc - 5) (xs - 30)
      simp (disch := omega) only [en_ops, en_opc, iI_add, iI_mul, iI_sub, jL_add, jL_mul, iI_le, iI_lt, iI_eq, iI_eq0, iI_lt0, iI_0le, iI_le0, iI_0lt, jL_iI, iI_jL, lc_eq, lc_lt, lc_le, lc_ge, lc_gt, Nat.sub_zero, Nat.zero_le, true_and, and_true, Nat.reduceAdd, Nat.reduceLeDiff]
      exact H.2 3 hk er hi' hl' hr' I' f1 f2 f3
theorem l_sample {c z k : Int} (hI : InvC G W hi hr) (hz : zOK n W) (h1 : 2 ≤ xc) (h6 : 12 ≤ xs) (hc : iRg c) (hzr : iRg z) (hk : iRg k) (H : lEnd G W (zPut W (spS (zS W) c.toNat z.toNat k)) (if inC W c then if inZ W z ∧ -1 ≤ k ∧ k ≤ 999999 then 0 else 3 else 1) (fun k => if k = 0 then 1 else if k = 2 then 2 else 0) ((iI ((zS W).2.2.2 c.toNat z.toNat)).toInt64) K hi hl hr) : en_Call G (d + 3) xc xs Y_L_sample wN wN [.ref 0, .int (iI c), .int (iI z), .int (iI k), .ref 133] hi hl hr K := by
  apply en_L_sample
  simp (disch := omega) only [B_L_sample_0, sh0, lt0, en_ops, en_opc, iI_add, iI_mul, iI_sub, jL_add, jL_mul, iI_le, iI_lt, iI_eq, iI_eq0, iI_lt0, iI_0le, iI_le0, iI_0lt, jL_iI, iI_jL, lc_eq, lc_lt, lc_le, lc_ge, lc_gt, Nat.sub_zero, Nat.zero_le, true_and, and_true, Nat.reduceAdd, Nat.reduceLeDiff]
  refine ⟨h1, h6, c_sample (d := d) hI hz (by omega) (by omega) hc hzr hk ⟨fun er hi' hl' hr' I' f1 f2 f3 => ?_, fun k hk er hi' hl' hr' I' f1 f2 f3 => ?_⟩⟩
  · simp (disch := omega) only [lt133, en_ops, en_opc, iI_add, iI_mul, iI_sub, jL_add, jL_mul, iI_le, iI_lt, iI_eq, iI_eq0, iI_lt0, iI_0le, iI_le0, iI_0lt, jL_iI, iI_jL, lc_eq, lc_lt, lc_le, lc_ge, lc_gt, Nat.sub_zero, Nat.zero_le, true_and, and_true, Nat.reduceAdd, Nat.reduceLeDiff]
    refine ⟨0, rfl, by rw [sh133]; decide, by decide, ?_⟩
    exact H.1 er hi' hl' hr' I' f1 f2 f3
  · rcases (show k = 0 ∨ k = 1 ∨ k = 2 ∨ k = 3 by omega) with rfl | rfl | rfl | rfl
    · show o_iconst 1 (o_iret K) (en_set1 [.ref 0, .int (iI c), .int (iI z), .int (iI k), .ref 133, jk] 5 jk) [] hi' hl' hr' (xc - 2) (xs - 12)
      simp (disch := omega) only [en_ops, en_opc, iI_add, iI_mul, iI_sub, jL_add, jL_mul, iI_le, iI_lt, iI_eq, iI_eq0, iI_lt0, iI_0le, iI_le0, iI_0lt, jL_iI, iI_jL, lc_eq, lc_lt, lc_le, lc_ge, lc_gt, Nat.sub_zero, Nat.zero_le, true_and, and_true, Nat.reduceAdd, Nat.reduceLeDiff]
      exact H.2 0 hk er hi' hl' hr' I' f1 f2 f3
    · exact absurd er (by (repeat' split) <;> omega)
    · show o_iconst 2 (o_iret K) (en_set1 [.ref 0, .int (iI c), .int (iI z), .int (iI k), .ref 133, jk] 5 jk) [] hi' hl' hr' (xc - 2) (xs - 12)
      simp (disch := omega) only [en_ops, en_opc, iI_add, iI_mul, iI_sub, jL_add, jL_mul, iI_le, iI_lt, iI_eq, iI_eq0, iI_lt0, iI_0le, iI_le0, iI_0lt, jL_iI, iI_jL, lc_eq, lc_lt, lc_le, lc_ge, lc_gt, Nat.sub_zero, Nat.zero_le, true_and, and_true, Nat.reduceAdd, Nat.reduceLeDiff]
      exact H.2 2 hk er hi' hl' hr' I' f1 f2 f3
    · exact absurd er (by (repeat' split) <;> omega)
theorem l_which {y w : Int} (hI : InvC G W hi hr) (hz : zOK n W) (hn : n ≤ 512) (h1 : 3 ≤ xc) (h6 : 18 ≤ xs) (hyr : iRg y) (hw : iRg w) (H : lEnd G W W (if inY W y then if 0 ≤ w ∧ w ≤ 1 then if isNow W then 0 else 4 else 3 else 2) (fun k => if k = 1 then 1 else if k = 2 then 2 else if k = 3 then 3 else 0) ((iI (if w = 0 then (whF W y.toNat).1 else (whF W y.toNat).2)).toInt64) K hi hl hr) : en_Call G (d + 10) xc xs Y_L_which wN wN [.ref 0, .int (iI y), .int (iI w), .ref 133] hi hl hr K := by
  apply en_L_which
  simp (disch := omega) only [B_L_which_0, sh0, lt0, en_ops, en_opc, iI_add, iI_mul, iI_sub, jL_add, jL_mul, iI_le, iI_lt, iI_eq, iI_eq0, iI_lt0, iI_0le, iI_le0, iI_0lt, jL_iI, iI_jL, lc_eq, lc_lt, lc_le, lc_ge, lc_gt, Nat.sub_zero, Nat.zero_le, true_and, and_true, Nat.reduceAdd, Nat.reduceLeDiff]
  refine ⟨h1, h6, c_which (d := d) hI hz hn (by omega) (by omega) hyr hw ⟨fun er hi' hl' hr' I' f1 f2 f3 => ?_, fun k hk er hi' hl' hr' I' f1 f2 f3 => ?_⟩⟩
  · simp (disch := omega) only [lt133, en_ops, en_opc, iI_add, iI_mul, iI_sub, jL_add, jL_mul, iI_le, iI_lt, iI_eq, iI_eq0, iI_lt0, iI_0le, iI_le0, iI_0lt, jL_iI, iI_jL, lc_eq, lc_lt, lc_le, lc_ge, lc_gt, Nat.sub_zero, Nat.zero_le, true_and, and_true, Nat.reduceAdd, Nat.reduceLeDiff]
    refine ⟨0, rfl, by rw [sh133]; decide, by decide, ?_⟩
    exact H.1 er hi' hl' hr' I' f1 f2 f3
  · rcases (show k = 0 ∨ k = 1 ∨ k = 2 ∨ k = 3 by omega) with rfl | rfl | rfl | rfl
    · exact absurd er (by (repeat' split) <;> omega)
    · show o_iconst 1 (o_iret K) (en_set1 [.ref 0, .int (iI y), .int (iI w), .ref 133, jk] 4 jk) [] hi' hl' hr' (xc - 3) (xs - 18)
      simp (disch := omega) only [en_ops, en_opc, iI_add, iI_mul, iI_sub, jL_add, jL_mul, iI_le, iI_lt, iI_eq, iI_eq0, iI_lt0, iI_0le, iI_le0, iI_0lt, jL_iI, iI_jL, lc_eq, lc_lt, lc_le, lc_ge, lc_gt, Nat.sub_zero, Nat.zero_le, true_and, and_true, Nat.reduceAdd, Nat.reduceLeDiff]
      exact H.2 1 hk er hi' hl' hr' I' f1 f2 f3
    · show o_iconst 2 (o_iret K) (en_set1 [.ref 0, .int (iI y), .int (iI w), .ref 133, jk] 4 jk) [] hi' hl' hr' (xc - 3) (xs - 18)
      simp (disch := omega) only [en_ops, en_opc, iI_add, iI_mul, iI_sub, jL_add, jL_mul, iI_le, iI_lt, iI_eq, iI_eq0, iI_lt0, iI_0le, iI_le0, iI_0lt, jL_iI, iI_jL, lc_eq, lc_lt, lc_le, lc_ge, lc_gt, Nat.sub_zero, Nat.zero_le, true_and, and_true, Nat.reduceAdd, Nat.reduceLeDiff]
      exact H.2 2 hk er hi' hl' hr' I' f1 f2 f3
    · show o_iconst 3 (o_iret K) (en_set1 [.ref 0, .int (iI y), .int (iI w), .ref 133, jk] 4 jk) [] hi' hl' hr' (xc - 3) (xs - 18)
      simp (disch := omega) only [en_ops, en_opc, iI_add, iI_mul, iI_sub, jL_add, jL_mul, iI_le, iI_lt, iI_eq, iI_eq0, iI_lt0, iI_0le, iI_le0, iI_0lt, jL_iI, iI_jL, lc_eq, lc_lt, lc_le, lc_ge, lc_gt, Nat.sub_zero, Nat.zero_le, true_and, and_true, Nat.reduceAdd, Nat.reduceLeDiff]
      exact H.2 3 hk er hi' hl' hr' I' f1 f2 f3
theorem l_cost {l : Int} {y : Int} {v : Int} {p : Int} {c : Int} (hI : InvC G W hi hr) (hz : zOK n W) (hn : n ≤ 512) (h1 : 5 ≤ xc) (h6 : 30 ≤ xs) (hlr : iRg l) (hyr : iRg y) (hv : iRg v) (hp : iRg p) (hc : iRg c) (H : lEnd G W W (if (inC W c) ∧ (inC W v) ∧ (v ≠ (zE W).2.1 - 1) then if inL W l then if inY W y then if 0 ≤ p ∧ p ≤ 16 then if isNow W then 0 else 4 else 3 else 2 else 2 else 1) (fun k => if k = 0 then 1 else if k = 1 then 2 else if k = 2 then 3 else if k = 3 then 4 else 0) ((iI (wP (yrP (eL W l.toNat) (zYs W y.toNat).2 (zYs W y.toNat).1 (zS W).1).1 (zE W).2.2.1 c.toNat - wP (yrP (wlE (eL W l.toNat) (bwP (zE W).2.1 (2 ^ v.toNat) p (zE W).2.2.2.1)) (zYs W y.toNat).2 (zYs W y.toNat).1 (zS W).1).1 (zE W).2.2.1 c.toNat)).toInt64) K hi hl hr) : en_Call G (d + 10) xc xs Y_L_cost wN wN [.ref 0, .int (iI l), .int (iI y), .int (iI v), .int (iI p), .int (iI c), .ref 133] hi hl hr K := by
  apply en_L_cost
  simp (disch := omega) only [B_L_cost_0, sh0, lt0, en_ops, en_opc, iI_add, iI_mul, iI_sub, jL_add, jL_mul, iI_le, iI_lt, iI_eq, iI_eq0, iI_lt0, iI_0le, iI_le0, iI_0lt, jL_iI, iI_jL, lc_eq, lc_lt, lc_le, lc_ge, lc_gt, Nat.sub_zero, Nat.zero_le, true_and, and_true, Nat.reduceAdd, Nat.reduceLeDiff]
  refine ⟨h1, h6, c_cost (d := d) hI hz hn (by omega) (by omega) hlr hyr hv hp hc ⟨fun er hi' hl' hr' I' f1 f2 f3 => ?_, fun k hk er hi' hl' hr' I' f1 f2 f3 => ?_⟩⟩
  · simp (disch := omega) only [lt133, en_ops, en_opc, iI_add, iI_mul, iI_sub, jL_add, jL_mul, iI_le, iI_lt, iI_eq, iI_eq0, iI_lt0, iI_0le, iI_le0, iI_0lt, jL_iI, iI_jL, lc_eq, lc_lt, lc_le, lc_ge, lc_gt, Nat.sub_zero, Nat.zero_le, true_and, and_true, Nat.reduceAdd, Nat.reduceLeDiff]
    refine ⟨0, rfl, by rw [sh133]; decide, by decide, ?_⟩
    exact H.1 er hi' hl' hr' I' f1 f2 f3
  · rcases (show k = 0 ∨ k = 1 ∨ k = 2 ∨ k = 3 by omega) with rfl | rfl | rfl | rfl
    · show o_iconst 1 (o_iret K) (en_set1 [.ref 0, .int (iI l), .int (iI y), .int (iI v), .int (iI p), .int (iI c), .ref 133, jk] 7 jk) [] hi' hl' hr' (xc - 5) (xs - 30)
      simp (disch := omega) only [en_ops, en_opc, iI_add, iI_mul, iI_sub, jL_add, jL_mul, iI_le, iI_lt, iI_eq, iI_eq0, iI_lt0, iI_0le, iI_le0, iI_0lt, jL_iI, iI_jL, lc_eq, lc_lt, lc_le, lc_ge, lc_gt, Nat.sub_zero, Nat.zero_le, true_and, and_true, Nat.reduceAdd, Nat.reduceLeDiff]
      exact H.2 0 hk er hi' hl' hr' I' f1 f2 f3
    · show o_iconst 2 (o_iret K) (en_set1 [.ref 0, .int (iI l), .int (iI y), .int (iI v), .int (iI p), .int (iI c), .ref 133, jk] 7 jk) [] hi' hl' hr' (xc - 5) (xs - 30)
      simp (disch := omega) only [en_ops, en_opc, iI_add, iI_mul, iI_sub, jL_add, jL_mul, iI_le, iI_lt, iI_eq, iI_eq0, iI_lt0, iI_0le, iI_le0, iI_0lt, jL_iI, iI_jL, lc_eq, lc_lt, lc_le, lc_ge, lc_gt, Nat.sub_zero, Nat.zero_le, true_and, and_true, Nat.reduceAdd, Nat.reduceLeDiff]
      exact H.2 1 hk er hi' hl' hr' I' f1 f2 f3
    · show o_iconst 3 (o_iret K) (en_set1 [.ref 0, .int (iI l), .int (iI y), .int (iI v), .int (iI p), .int (iI c), .ref 133, jk] 7 jk) [] hi' hl' hr' (xc - 5) (xs - 30)
      simp (disch := omega) only [en_ops, en_opc, iI_add, iI_mul, iI_sub, jL_add, jL_mul, iI_le, iI_lt, iI_eq, iI_eq0, iI_lt0, iI_0le, iI_le0, iI_0lt, jL_iI, iI_jL, lc_eq, lc_lt, lc_le, lc_ge, lc_gt, Nat.sub_zero, Nat.zero_le, true_and, and_true, Nat.reduceAdd, Nat.reduceLeDiff]
      exact H.2 2 hk er hi' hl' hr' I' f1 f2 f3
    · show o_iconst 4 (o_iret K) (en_set1 [.ref 0, .int (iI l), .int (iI y), .int (iI v), .int (iI p), .int (iI c), .ref 133, jk] 7 jk) [] hi' hl' hr' (xc - 5) (xs - 30)
      simp (disch := omega) only [en_ops, en_opc, iI_add, iI_mul, iI_sub, jL_add, jL_mul, iI_le, iI_lt, iI_eq, iI_eq0, iI_lt0, iI_0le, iI_le0, iI_0lt, jL_iI, iI_jL, lc_eq, lc_lt, lc_le, lc_ge, lc_gt, Nat.sub_zero, Nat.zero_le, true_and, and_true, Nat.reduceAdd, Nat.reduceLeDiff]
      exact H.2 3 hk er hi' hl' hr' I' f1 f2 f3
theorem l_raised {l : Int} {y : Int} {k : Int} {m : Int} {w : Int} (hI : InvC G W hi hr) (hz : zOK n W) (hn : n ≤ 512) (h1 : 4 ≤ xc) (h6 : 24 ≤ xs) (hlr : iRg l) (hyr : iRg y) (hk : iRg k) (hm : iRg m) (hw : iRg w) (H : lEnd G W W (if inL W l then if inY W y then if (1 ≤ k ∧ k ≤ 3) ∧ (k ≤ (zE W).2.1) ∧ (1 ≤ m ∧ m ≤ 20) ∧ (0 ≤ w ∧ w ≤ 1) then if isNow W then 0 else 4 else 3 else 2 else 2) (fun k => if k = 1 then 1 else if k = 2 then 2 else if k = 3 then 3 else 0) ((iI (if w = 0 then (lsF (pkB k.toNat) (rsP (zVs W l.toNat) (zYs W y.toNat).2 (zYs W y.toNat).1 (zS W).1.2.2.2.2.2 (zS W).1.2.1 m (zE W).2.1) 0 (2 ^ (zE W).2.1)).1 else (lsF (pkB k.toNat) (rsP (zVs W l.toNat) (zYs W y.toNat).2 (zYs W y.toNat).1 (zS W).1.2.2.2.2.2 (zS W).1.2.1 m (zE W).2.1) 0 (2 ^ (zE W).2.1)).2)).toInt64) K hi hl hr) : en_Call G (d + 10) xc xs Y_L_raised wN wN [.ref 0, .int (iI l), .int (iI y), .int (iI k), .int (iI m), .int (iI w), .ref 133] hi hl hr K := by
  apply en_L_raised
  simp (disch := omega) only [B_L_raised_0, sh0, lt0, en_ops, en_opc, iI_add, iI_mul, iI_sub, jL_add, jL_mul, iI_le, iI_lt, iI_eq, iI_eq0, iI_lt0, iI_0le, iI_le0, iI_0lt, jL_iI, iI_jL, lc_eq, lc_lt, lc_le, lc_ge, lc_gt, Nat.sub_zero, Nat.zero_le, true_and, and_true, Nat.reduceAdd, Nat.reduceLeDiff]
  refine ⟨h1, h6, c_raised (d := d) hI hz hn (by omega) (by omega) hlr hyr hk hm hw ⟨fun er hi' hl' hr' I' f1 f2 f3 => ?_, fun k hk er hi' hl' hr' I' f1 f2 f3 => ?_⟩⟩
  · simp (disch := omega) only [lt133, en_ops, en_opc, iI_add, iI_mul, iI_sub, jL_add, jL_mul, iI_le, iI_lt, iI_eq, iI_eq0, iI_lt0, iI_0le, iI_le0, iI_0lt, jL_iI, iI_jL, lc_eq, lc_lt, lc_le, lc_ge, lc_gt, Nat.sub_zero, Nat.zero_le, true_and, and_true, Nat.reduceAdd, Nat.reduceLeDiff]
    refine ⟨0, rfl, by rw [sh133]; decide, by decide, ?_⟩
    exact H.1 er hi' hl' hr' I' f1 f2 f3
  · rcases (show k = 0 ∨ k = 1 ∨ k = 2 ∨ k = 3 by omega) with rfl | rfl | rfl | rfl
    · exact absurd er (by (repeat' split) <;> omega)
    · show o_iconst 1 (o_iret K) (en_set1 [.ref 0, .int (iI l), .int (iI y), .int (iI k), .int (iI m), .int (iI w), .ref 133, jk] 7 jk) [] hi' hl' hr' (xc - 4) (xs - 24)
      simp (disch := omega) only [en_ops, en_opc, iI_add, iI_mul, iI_sub, jL_add, jL_mul, iI_le, iI_lt, iI_eq, iI_eq0, iI_lt0, iI_0le, iI_le0, iI_0lt, jL_iI, iI_jL, lc_eq, lc_lt, lc_le, lc_ge, lc_gt, Nat.sub_zero, Nat.zero_le, true_and, and_true, Nat.reduceAdd, Nat.reduceLeDiff]
      exact H.2 1 hk er hi' hl' hr' I' f1 f2 f3
    · show o_iconst 2 (o_iret K) (en_set1 [.ref 0, .int (iI l), .int (iI y), .int (iI k), .int (iI m), .int (iI w), .ref 133, jk] 7 jk) [] hi' hl' hr' (xc - 4) (xs - 24)
      simp (disch := omega) only [en_ops, en_opc, iI_add, iI_mul, iI_sub, jL_add, jL_mul, iI_le, iI_lt, iI_eq, iI_eq0, iI_lt0, iI_0le, iI_le0, iI_0lt, jL_iI, iI_jL, lc_eq, lc_lt, lc_le, lc_ge, lc_gt, Nat.sub_zero, Nat.zero_le, true_and, and_true, Nat.reduceAdd, Nat.reduceLeDiff]
      exact H.2 2 hk er hi' hl' hr' I' f1 f2 f3
    · show o_iconst 3 (o_iret K) (en_set1 [.ref 0, .int (iI l), .int (iI y), .int (iI k), .int (iI m), .int (iI w), .ref 133, jk] 7 jk) [] hi' hl' hr' (xc - 4) (xs - 24)
      simp (disch := omega) only [en_ops, en_opc, iI_add, iI_mul, iI_sub, jL_add, jL_mul, iI_le, iI_lt, iI_eq, iI_eq0, iI_lt0, iI_0le, iI_le0, iI_0lt, jL_iI, iI_jL, lc_eq, lc_lt, lc_le, lc_ge, lc_gt, Nat.sub_zero, Nat.zero_le, true_and, and_true, Nat.reduceAdd, Nat.reduceLeDiff]
      exact H.2 3 hk er hi' hl' hr' I' f1 f2 f3
theorem l_brought {l : Int} {y : Int} {k : Int} {w : Int} (hI : InvC G W hi hr) (hz : zOK n W) (hn : n ≤ 512) (h1 : 4 ≤ xc) (h6 : 24 ≤ xs) (hlr : iRg l) (hyr : iRg y) (hk : iRg k) (hw : iRg w) (H : lEnd G W W (if inL W l then if inY W y then if (1 ≤ k ∧ k ≤ 999) ∧ (0 ≤ w ∧ w ≤ 1) then if isNow W then 0 else 4 else 3 else 2 else 2) (fun k => if k = 1 then 1 else if k = 2 then 2 else if k = 3 then 3 else 0) ((iI (if w = 0 then (bgO (bgM (eL W l.toNat) (zYs W y.toNat).2 (zYs W y.toNat).1 k (zS W).1) (zE W).2.1 (zE W).2.1 (-1, prP (yrP (eL W l.toNat) (zYs W y.toNat).2 (zYs W y.toNat).1 (zS W).1).1 (zE W).2.1 (zE W).2.2.1 1)).1 else (bgO (bgM (eL W l.toNat) (zYs W y.toNat).2 (zYs W y.toNat).1 k (zS W).1) (zE W).2.1 (zE W).2.1 (-1, prP (yrP (eL W l.toNat) (zYs W y.toNat).2 (zYs W y.toNat).1 (zS W).1).1 (zE W).2.1 (zE W).2.2.1 1)).2)).toInt64) K hi hl hr) : en_Call G (d + 10) xc xs Y_L_brought wN wN [.ref 0, .int (iI l), .int (iI y), .int (iI k), .int (iI w), .ref 133] hi hl hr K := by
  apply en_L_brought
  simp (disch := omega) only [B_L_brought_0, sh0, lt0, en_ops, en_opc, iI_add, iI_mul, iI_sub, jL_add, jL_mul, iI_le, iI_lt, iI_eq, iI_eq0, iI_lt0, iI_0le, iI_le0, iI_0lt, jL_iI, iI_jL, lc_eq, lc_lt, lc_le, lc_ge, lc_gt, Nat.sub_zero, Nat.zero_le, true_and, and_true, Nat.reduceAdd, Nat.reduceLeDiff]
  refine ⟨h1, h6, c_brought (d := d) hI hz hn (by omega) (by omega) hlr hyr hk hw ⟨fun er hi' hl' hr' I' f1 f2 f3 => ?_, fun k hk er hi' hl' hr' I' f1 f2 f3 => ?_⟩⟩
  · simp (disch := omega) only [lt133, en_ops, en_opc, iI_add, iI_mul, iI_sub, jL_add, jL_mul, iI_le, iI_lt, iI_eq, iI_eq0, iI_lt0, iI_0le, iI_le0, iI_0lt, jL_iI, iI_jL, lc_eq, lc_lt, lc_le, lc_ge, lc_gt, Nat.sub_zero, Nat.zero_le, true_and, and_true, Nat.reduceAdd, Nat.reduceLeDiff]
    refine ⟨0, rfl, by rw [sh133]; decide, by decide, ?_⟩
    exact H.1 er hi' hl' hr' I' f1 f2 f3
  · rcases (show k = 0 ∨ k = 1 ∨ k = 2 ∨ k = 3 by omega) with rfl | rfl | rfl | rfl
    · exact absurd er (by (repeat' split) <;> omega)
    · show o_iconst 1 (o_iret K) (en_set1 [.ref 0, .int (iI l), .int (iI y), .int (iI k), .int (iI w), .ref 133, jk] 6 jk) [] hi' hl' hr' (xc - 4) (xs - 24)
      simp (disch := omega) only [en_ops, en_opc, iI_add, iI_mul, iI_sub, jL_add, jL_mul, iI_le, iI_lt, iI_eq, iI_eq0, iI_lt0, iI_0le, iI_le0, iI_0lt, jL_iI, iI_jL, lc_eq, lc_lt, lc_le, lc_ge, lc_gt, Nat.sub_zero, Nat.zero_le, true_and, and_true, Nat.reduceAdd, Nat.reduceLeDiff]
      exact H.2 1 hk er hi' hl' hr' I' f1 f2 f3
    · show o_iconst 2 (o_iret K) (en_set1 [.ref 0, .int (iI l), .int (iI y), .int (iI k), .int (iI w), .ref 133, jk] 6 jk) [] hi' hl' hr' (xc - 4) (xs - 24)
      simp (disch := omega) only [en_ops, en_opc, iI_add, iI_mul, iI_sub, jL_add, jL_mul, iI_le, iI_lt, iI_eq, iI_eq0, iI_lt0, iI_0le, iI_le0, iI_0lt, jL_iI, iI_jL, lc_eq, lc_lt, lc_le, lc_ge, lc_gt, Nat.sub_zero, Nat.zero_le, true_and, and_true, Nat.reduceAdd, Nat.reduceLeDiff]
      exact H.2 2 hk er hi' hl' hr' I' f1 f2 f3
    · show o_iconst 3 (o_iret K) (en_set1 [.ref 0, .int (iI l), .int (iI y), .int (iI k), .int (iI w), .ref 133, jk] 6 jk) [] hi' hl' hr' (xc - 4) (xs - 24)
      simp (disch := omega) only [en_ops, en_opc, iI_add, iI_mul, iI_sub, jL_add, jL_mul, iI_le, iI_lt, iI_eq, iI_eq0, iI_lt0, iI_0le, iI_le0, iI_0lt, jL_iI, iI_jL, lc_eq, lc_lt, lc_le, lc_ge, lc_gt, Nat.sub_zero, Nat.zero_le, true_and, and_true, Nat.reduceAdd, Nat.reduceLeDiff]
      exact H.2 3 hk er hi' hl' hr' I' f1 f2 f3
theorem l_sums {w : Int} (hI : InvC G W hi hr) (hz : zOK n W) (h1 : 1 ≤ xc) (h6 : 6 ≤ xs) (hw : iRg w) (H : lEnd G W W (if 0 ≤ w ∧ w ≤ 4 then 0 else 3) (fun k => if k = 2 then 1 else 0) ((iI ((zS W).1.2.2.2.1 w.toNat)).toInt64) K hi hl hr) : en_Call G (d + 3) xc xs Y_L_sums wN wN [.ref 0, .int (iI w), .ref 133] hi hl hr K := by
  apply en_L_sums
  simp (disch := omega) only [B_L_sums_0, sh0, lt0, en_ops, en_opc, iI_add, iI_mul, iI_sub, jL_add, jL_mul, iI_le, iI_lt, iI_eq, iI_eq0, iI_lt0, iI_0le, iI_le0, iI_0lt, jL_iI, iI_jL, lc_eq, lc_lt, lc_le, lc_ge, lc_gt, Nat.sub_zero, Nat.zero_le, true_and, and_true, Nat.reduceAdd, Nat.reduceLeDiff]
  refine ⟨h1, h6, c_sums (d := d) hI hz (by omega) (by omega) hw ⟨fun er hi' hl' hr' I' f1 f2 f3 => ?_, fun k hk er hi' hl' hr' I' f1 f2 f3 => ?_⟩⟩
  · simp (disch := omega) only [lt133, en_ops, en_opc, iI_add, iI_mul, iI_sub, jL_add, jL_mul, iI_le, iI_lt, iI_eq, iI_eq0, iI_lt0, iI_0le, iI_le0, iI_0lt, jL_iI, iI_jL, lc_eq, lc_lt, lc_le, lc_ge, lc_gt, Nat.sub_zero, Nat.zero_le, true_and, and_true, Nat.reduceAdd, Nat.reduceLeDiff]
    refine ⟨0, rfl, by rw [sh133]; decide, by decide, ?_⟩
    exact H.1 er hi' hl' hr' I' f1 f2 f3
  · rcases (show k = 0 ∨ k = 1 ∨ k = 2 ∨ k = 3 by omega) with rfl | rfl | rfl | rfl
    · exact absurd er (by (repeat' split) <;> omega)
    · exact absurd er (by (repeat' split) <;> omega)
    · show o_iconst 1 (o_iret K) (en_set1 [.ref 0, .int (iI w), .ref 133, jk] 3 jk) [] hi' hl' hr' (xc - 1) (xs - 6)
      simp (disch := omega) only [en_ops, en_opc, iI_add, iI_mul, iI_sub, jL_add, jL_mul, iI_le, iI_lt, iI_eq, iI_eq0, iI_lt0, iI_0le, iI_le0, iI_0lt, jL_iI, iI_jL, lc_eq, lc_lt, lc_le, lc_ge, lc_gt, Nat.sub_zero, Nat.zero_le, true_and, and_true, Nat.reduceAdd, Nat.reduceLeDiff]
      exact H.2 2 hk er hi' hl' hr' I' f1 f2 f3
    · exact absurd er (by (repeat' split) <;> omega)
theorem l_last {l : Int} {y : Int} {c : Int} {k : Int} (hI : InvC G W hi hr) (hz : zOK n W) (hn : n ≤ 512) (h1 : 5 ≤ xc) (h6 : 30 ≤ xs) (hlr : iRg l) (hyr : iRg y) (hc : iRg c) (hk : iRg k) (H : lEnd G W W (if inC W c then if inL W l then if inY W y then if 1 ≤ k ∧ k ≤ 999999 then if isNow W then 0 else 4 else 3 else 2 else 2 else 1) (fun k => if k = 0 then 1 else if k = 1 then 2 else if k = 2 then 3 else if k = 3 then 4 else 0) ((iI (laP (eL W l.toNat) (zYs W y.toNat).2 (zYs W y.toNat).1 c.toNat k 21 0 (zS W).1)).toInt64) K hi hl hr) : en_Call G (d + 10) xc xs Y_L_last wN wN [.ref 0, .int (iI l), .int (iI y), .int (iI c), .int (iI k), .ref 133] hi hl hr K := by
  apply en_L_last
  simp (disch := omega) only [B_L_last_0, sh0, lt0, en_ops, en_opc, iI_add, iI_mul, iI_sub, jL_add, jL_mul, iI_le, iI_lt, iI_eq, iI_eq0, iI_lt0, iI_0le, iI_le0, iI_0lt, jL_iI, iI_jL, lc_eq, lc_lt, lc_le, lc_ge, lc_gt, Nat.sub_zero, Nat.zero_le, true_and, and_true, Nat.reduceAdd, Nat.reduceLeDiff]
  refine ⟨h1, h6, c_last (d := d) hI hz hn (by omega) (by omega) hlr hyr hc hk ⟨fun er hi' hl' hr' I' f1 f2 f3 => ?_, fun k hk er hi' hl' hr' I' f1 f2 f3 => ?_⟩⟩
  · simp (disch := omega) only [lt133, en_ops, en_opc, iI_add, iI_mul, iI_sub, jL_add, jL_mul, iI_le, iI_lt, iI_eq, iI_eq0, iI_lt0, iI_0le, iI_le0, iI_0lt, jL_iI, iI_jL, lc_eq, lc_lt, lc_le, lc_ge, lc_gt, Nat.sub_zero, Nat.zero_le, true_and, and_true, Nat.reduceAdd, Nat.reduceLeDiff]
    refine ⟨0, rfl, by rw [sh133]; decide, by decide, ?_⟩
    exact H.1 er hi' hl' hr' I' f1 f2 f3
  · rcases (show k = 0 ∨ k = 1 ∨ k = 2 ∨ k = 3 by omega) with rfl | rfl | rfl | rfl
    · show o_iconst 1 (o_iret K) (en_set1 [.ref 0, .int (iI l), .int (iI y), .int (iI c), .int (iI k), .ref 133, jk] 6 jk) [] hi' hl' hr' (xc - 5) (xs - 30)
      simp (disch := omega) only [en_ops, en_opc, iI_add, iI_mul, iI_sub, jL_add, jL_mul, iI_le, iI_lt, iI_eq, iI_eq0, iI_lt0, iI_0le, iI_le0, iI_0lt, jL_iI, iI_jL, lc_eq, lc_lt, lc_le, lc_ge, lc_gt, Nat.sub_zero, Nat.zero_le, true_and, and_true, Nat.reduceAdd, Nat.reduceLeDiff]
      exact H.2 0 hk er hi' hl' hr' I' f1 f2 f3
    · show o_iconst 2 (o_iret K) (en_set1 [.ref 0, .int (iI l), .int (iI y), .int (iI c), .int (iI k), .ref 133, jk] 6 jk) [] hi' hl' hr' (xc - 5) (xs - 30)
      simp (disch := omega) only [en_ops, en_opc, iI_add, iI_mul, iI_sub, jL_add, jL_mul, iI_le, iI_lt, iI_eq, iI_eq0, iI_lt0, iI_0le, iI_le0, iI_0lt, jL_iI, iI_jL, lc_eq, lc_lt, lc_le, lc_ge, lc_gt, Nat.sub_zero, Nat.zero_le, true_and, and_true, Nat.reduceAdd, Nat.reduceLeDiff]
      exact H.2 1 hk er hi' hl' hr' I' f1 f2 f3
    · show o_iconst 3 (o_iret K) (en_set1 [.ref 0, .int (iI l), .int (iI y), .int (iI c), .int (iI k), .ref 133, jk] 6 jk) [] hi' hl' hr' (xc - 5) (xs - 30)
      simp (disch := omega) only [en_ops, en_opc, iI_add, iI_mul, iI_sub, jL_add, jL_mul, iI_le, iI_lt, iI_eq, iI_eq0, iI_lt0, iI_0le, iI_le0, iI_0lt, jL_iI, iI_jL, lc_eq, lc_lt, lc_le, lc_ge, lc_gt, Nat.sub_zero, Nat.zero_le, true_and, and_true, Nat.reduceAdd, Nat.reduceLeDiff]
      exact H.2 2 hk er hi' hl' hr' I' f1 f2 f3
    · show o_iconst 4 (o_iret K) (en_set1 [.ref 0, .int (iI l), .int (iI y), .int (iI c), .int (iI k), .ref 133, jk] 6 jk) [] hi' hl' hr' (xc - 5) (xs - 30)
      simp (disch := omega) only [en_ops, en_opc, iI_add, iI_mul, iI_sub, jL_add, jL_mul, iI_le, iI_lt, iI_eq, iI_eq0, iI_lt0, iI_0le, iI_le0, iI_0lt, jL_iI, iI_jL, lc_eq, lc_lt, lc_le, lc_ge, lc_gt, Nat.sub_zero, Nat.zero_le, true_and, and_true, Nat.reduceAdd, Nat.reduceLeDiff]
      exact H.2 3 hk er hi' hl' hr' I' f1 f2 f3
theorem l_like {c e : Int} (hI : InvC G W hi hr) (hz : zOK n W) (h1 : 1 ≤ xc) (h6 : 6 ≤ xs) (hc : iRg c) (he : iRg e) (H : lEnd G W W (if inC W c ∧ inC W e then 0 else 1) (fun k => if k = 0 then 1 else 0) ((iI (sumTo 18 (liI (zS W).1.1 (zE W).2.2.1 c.toNat e.toNat))).toInt64) K hi hl hr) : en_Call G (d + 4) xc xs Y_L_like wN wN [.ref 0, .int (iI c), .int (iI e), .ref 133] hi hl hr K := by
  apply en_L_like
  simp (disch := omega) only [B_L_like_0, sh0, lt0, en_ops, en_opc, iI_add, iI_mul, iI_sub, jL_add, jL_mul, iI_le, iI_lt, iI_eq, iI_eq0, iI_lt0, iI_0le, iI_le0, iI_0lt, jL_iI, iI_jL, lc_eq, lc_lt, lc_le, lc_ge, lc_gt, Nat.sub_zero, Nat.zero_le, true_and, and_true, Nat.reduceAdd, Nat.reduceLeDiff]
  refine ⟨h1, h6, c_like (d := d) hI hz (by omega) (by omega) hc he ⟨fun er hi' hl' hr' I' f1 f2 f3 => ?_, fun k hk er hi' hl' hr' I' f1 f2 f3 => ?_⟩⟩
  · simp (disch := omega) only [lt133, en_ops, en_opc, iI_add, iI_mul, iI_sub, jL_add, jL_mul, iI_le, iI_lt, iI_eq, iI_eq0, iI_lt0, iI_0le, iI_le0, iI_0lt, jL_iI, iI_jL, lc_eq, lc_lt, lc_le, lc_ge, lc_gt, Nat.sub_zero, Nat.zero_le, true_and, and_true, Nat.reduceAdd, Nat.reduceLeDiff]
    refine ⟨0, rfl, by rw [sh133]; decide, by decide, ?_⟩
    exact H.1 er hi' hl' hr' I' f1 f2 f3
  · rcases (show k = 0 ∨ k = 1 ∨ k = 2 ∨ k = 3 by omega) with rfl | rfl | rfl | rfl
    · show o_iconst 1 (o_iret K) (en_set1 [.ref 0, .int (iI c), .int (iI e), .ref 133, jk] 4 jk) [] hi' hl' hr' (xc - 1) (xs - 6)
      simp (disch := omega) only [en_ops, en_opc, iI_add, iI_mul, iI_sub, jL_add, jL_mul, iI_le, iI_lt, iI_eq, iI_eq0, iI_lt0, iI_0le, iI_le0, iI_0lt, jL_iI, iI_jL, lc_eq, lc_lt, lc_le, lc_ge, lc_gt, Nat.sub_zero, Nat.zero_le, true_and, and_true, Nat.reduceAdd, Nat.reduceLeDiff]
      exact H.2 0 hk er hi' hl' hr' I' f1 f2 f3
    · exact absurd er (by (repeat' split) <;> omega)
    · exact absurd er (by (repeat' split) <;> omega)
    · exact absurd er (by (repeat' split) <;> omega)
theorem l_walls {l : Int} {y : Int} {k : Int} {p : Int} {c : Int} {w : Int} (hI : InvC G W hi hr) (hz : zOK n W) (hn : n ≤ 512) (h1 : 5 ≤ xc) (h6 : 30 ≤ xs) (hlr : iRg l) (hyr : iRg y) (hk : iRg k) (hp : iRg p) (hc : iRg c) (hw : iRg w) (H : lEnd G W W (if inC W c then if inL W l then if inY W y then if (1 ≤ k ∧ k ≤ 3) ∧ (k ≤ (zE W).2.1 - 1) ∧ (1 ≤ p ∧ p ≤ 16) ∧ (0 ≤ w ∧ w ≤ 1) then if isNow W then 0 else 4 else 3 else 2 else 2 else 1) (fun k => if k = 0 then 1 else if k = 1 then 2 else if k = 2 then 3 else if k = 3 then 4 else 0) ((iI (if w = 0 then (gtF (pkB k.toNat) (wbG (eL W l.toNat) (zYs W y.toNat).2 (zYs W y.toNat).1 p c.toNat (zS W).1) 0 (2 ^ ((zE W).2.1 - 1))).1 else (gtF (pkB k.toNat) (wbG (eL W l.toNat) (zYs W y.toNat).2 (zYs W y.toNat).1 p c.toNat (zS W).1) 0 (2 ^ ((zE W).2.1 - 1))).2)).toInt64) K hi hl hr) : en_Call G (d + 10) xc xs Y_L_walls wN wN [.ref 0, .int (iI l), .int (iI y), .int (iI k), .int (iI p), .int (iI c), .int (iI w), .ref 133] hi hl hr K := by
  apply en_L_walls
  simp (disch := omega) only [B_L_walls_0, sh0, lt0, en_ops, en_opc, iI_add, iI_mul, iI_sub, jL_add, jL_mul, iI_le, iI_lt, iI_eq, iI_eq0, iI_lt0, iI_0le, iI_le0, iI_0lt, jL_iI, iI_jL, lc_eq, lc_lt, lc_le, lc_ge, lc_gt, Nat.sub_zero, Nat.zero_le, true_and, and_true, Nat.reduceAdd, Nat.reduceLeDiff]
  refine ⟨h1, h6, c_walls (d := d) hI hz hn (by omega) (by omega) hlr hyr hk hp hc hw ⟨fun er hi' hl' hr' I' f1 f2 f3 => ?_, fun k hk er hi' hl' hr' I' f1 f2 f3 => ?_⟩⟩
  · simp (disch := omega) only [lt133, en_ops, en_opc, iI_add, iI_mul, iI_sub, jL_add, jL_mul, iI_le, iI_lt, iI_eq, iI_eq0, iI_lt0, iI_0le, iI_le0, iI_0lt, jL_iI, iI_jL, lc_eq, lc_lt, lc_le, lc_ge, lc_gt, Nat.sub_zero, Nat.zero_le, true_and, and_true, Nat.reduceAdd, Nat.reduceLeDiff]
    refine ⟨0, rfl, by rw [sh133]; decide, by decide, ?_⟩
    exact H.1 er hi' hl' hr' I' f1 f2 f3
  · rcases (show k = 0 ∨ k = 1 ∨ k = 2 ∨ k = 3 by omega) with rfl | rfl | rfl | rfl
    · show o_iconst 1 (o_iret K) (en_set1 [.ref 0, .int (iI l), .int (iI y), .int (iI k), .int (iI p), .int (iI c), .int (iI w), .ref 133, jk] 8 jk) [] hi' hl' hr' (xc - 5) (xs - 30)
      simp (disch := omega) only [en_ops, en_opc, iI_add, iI_mul, iI_sub, jL_add, jL_mul, iI_le, iI_lt, iI_eq, iI_eq0, iI_lt0, iI_0le, iI_le0, iI_0lt, jL_iI, iI_jL, lc_eq, lc_lt, lc_le, lc_ge, lc_gt, Nat.sub_zero, Nat.zero_le, true_and, and_true, Nat.reduceAdd, Nat.reduceLeDiff]
      exact H.2 0 hk er hi' hl' hr' I' f1 f2 f3
    · show o_iconst 2 (o_iret K) (en_set1 [.ref 0, .int (iI l), .int (iI y), .int (iI k), .int (iI p), .int (iI c), .int (iI w), .ref 133, jk] 8 jk) [] hi' hl' hr' (xc - 5) (xs - 30)
      simp (disch := omega) only [en_ops, en_opc, iI_add, iI_mul, iI_sub, jL_add, jL_mul, iI_le, iI_lt, iI_eq, iI_eq0, iI_lt0, iI_0le, iI_le0, iI_0lt, jL_iI, iI_jL, lc_eq, lc_lt, lc_le, lc_ge, lc_gt, Nat.sub_zero, Nat.zero_le, true_and, and_true, Nat.reduceAdd, Nat.reduceLeDiff]
      exact H.2 1 hk er hi' hl' hr' I' f1 f2 f3
    · show o_iconst 3 (o_iret K) (en_set1 [.ref 0, .int (iI l), .int (iI y), .int (iI k), .int (iI p), .int (iI c), .int (iI w), .ref 133, jk] 8 jk) [] hi' hl' hr' (xc - 5) (xs - 30)
      simp (disch := omega) only [en_ops, en_opc, iI_add, iI_mul, iI_sub, jL_add, jL_mul, iI_le, iI_lt, iI_eq, iI_eq0, iI_lt0, iI_0le, iI_le0, iI_0lt, jL_iI, iI_jL, lc_eq, lc_lt, lc_le, lc_ge, lc_gt, Nat.sub_zero, Nat.zero_le, true_and, and_true, Nat.reduceAdd, Nat.reduceLeDiff]
      exact H.2 2 hk er hi' hl' hr' I' f1 f2 f3
    · show o_iconst 4 (o_iret K) (en_set1 [.ref 0, .int (iI l), .int (iI y), .int (iI k), .int (iI p), .int (iI c), .int (iI w), .ref 133, jk] 8 jk) [] hi' hl' hr' (xc - 5) (xs - 30)
      simp (disch := omega) only [en_ops, en_opc, iI_add, iI_mul, iI_sub, jL_add, jL_mul, iI_le, iI_lt, iI_eq, iI_eq0, iI_lt0, iI_0le, iI_le0, iI_0lt, jL_iI, iI_jL, lc_eq, lc_lt, lc_le, lc_ge, lc_gt, Nat.sub_zero, Nat.zero_le, true_and, and_true, Nat.reduceAdd, Nat.reduceLeDiff]
      exact H.2 3 hk er hi' hl' hr' I' f1 f2 f3
theorem l_high {l : Int} {y : Int} (hI : InvC G W hi hr) (hz : zOK n W) (hn : n ≤ 512) (h1 : 3 ≤ xc) (h6 : 18 ≤ xs) (hlr : iRg l) (hyr : iRg y) (H : lEnd G W W (if inL W l then if inY W y then if isNow W then 0 else 4 else 2 else 2) (fun k => if k = 1 then 1 else if k = 3 then 2 else 0) ((iI (fdP (fun m => drB (zVs W l.toNat) (zYs W y.toNat).2 (zYs W y.toNat).1 (zS W).1.2.2.2.2.2 (zS W).1.2.1 m (zE W).2.1) 101 0)).toInt64) K hi hl hr) : en_Call G (d + 10) xc xs Y_L_high wN wN [.ref 0, .int (iI l), .int (iI y), .ref 133] hi hl hr K := by
  apply en_L_high
  simp (disch := omega) only [B_L_high_0, sh0, lt0, en_ops, en_opc, iI_add, iI_mul, iI_sub, jL_add, jL_mul, iI_le, iI_lt, iI_eq, iI_eq0, iI_lt0, iI_0le, iI_le0, iI_0lt, jL_iI, iI_jL, lc_eq, lc_lt, lc_le, lc_ge, lc_gt, Nat.sub_zero, Nat.zero_le, true_and, and_true, Nat.reduceAdd, Nat.reduceLeDiff]
  refine ⟨h1, h6, c_high (d := d) hI hz hn (by omega) (by omega) hlr hyr ⟨fun er hi' hl' hr' I' f1 f2 f3 => ?_, fun k hk er hi' hl' hr' I' f1 f2 f3 => ?_⟩⟩
  · simp (disch := omega) only [lt133, en_ops, en_opc, iI_add, iI_mul, iI_sub, jL_add, jL_mul, iI_le, iI_lt, iI_eq, iI_eq0, iI_lt0, iI_0le, iI_le0, iI_0lt, jL_iI, iI_jL, lc_eq, lc_lt, lc_le, lc_ge, lc_gt, Nat.sub_zero, Nat.zero_le, true_and, and_true, Nat.reduceAdd, Nat.reduceLeDiff]
    refine ⟨0, rfl, by rw [sh133]; decide, by decide, ?_⟩
    exact H.1 er hi' hl' hr' I' f1 f2 f3
  · rcases (show k = 0 ∨ k = 1 ∨ k = 2 ∨ k = 3 by omega) with rfl | rfl | rfl | rfl
    · exact absurd er (by (repeat' split) <;> omega)
    · show o_iconst 1 (o_iret K) (en_set1 [.ref 0, .int (iI l), .int (iI y), .ref 133, jk] 4 jk) [] hi' hl' hr' (xc - 3) (xs - 18)
      simp (disch := omega) only [en_ops, en_opc, iI_add, iI_mul, iI_sub, jL_add, jL_mul, iI_le, iI_lt, iI_eq, iI_eq0, iI_lt0, iI_0le, iI_le0, iI_0lt, jL_iI, iI_jL, lc_eq, lc_lt, lc_le, lc_ge, lc_gt, Nat.sub_zero, Nat.zero_le, true_and, and_true, Nat.reduceAdd, Nat.reduceLeDiff]
      exact H.2 1 hk er hi' hl' hr' I' f1 f2 f3
    · exact absurd er (by (repeat' split) <;> omega)
    · show o_iconst 2 (o_iret K) (en_set1 [.ref 0, .int (iI l), .int (iI y), .ref 133, jk] 4 jk) [] hi' hl' hr' (xc - 3) (xs - 18)
      simp (disch := omega) only [en_ops, en_opc, iI_add, iI_mul, iI_sub, jL_add, jL_mul, iI_le, iI_lt, iI_eq, iI_eq0, iI_lt0, iI_0le, iI_le0, iI_0lt, jL_iI, iI_jL, lc_eq, lc_lt, lc_le, lc_ge, lc_gt, Nat.sub_zero, Nat.zero_le, true_and, and_true, Nat.reduceAdd, Nat.reduceLeDiff]
      exact H.2 3 hk er hi' hl' hr' I' f1 f2 f3
theorem l_one {w : Int} (hI : InvC G W hi hr) (hz : zOK n W) (h1 : 1 ≤ xc) (h6 : 6 ≤ xs) (hw : iRg w) (H : lEnd G W W (if 0 ≤ w ∧ w ≤ 1 then 0 else 3) (fun k => if k = 2 then 1 else 0) ((iI (if w = 0 then (onS (zS W).1.1 (zE W).2.1 (zE W).2.2.1 ((zE W).2.2.1 * 3)).1 else (onS (zS W).1.1 (zE W).2.1 (zE W).2.2.1 ((zE W).2.2.1 * 3)).2)).toInt64) K hi hl hr) : en_Call G (d + 7) xc xs Y_L_one wN wN [.ref 0, .int (iI w), .ref 133] hi hl hr K := by
  apply en_L_one
  simp (disch := omega) only [B_L_one_0, sh0, lt0, en_ops, en_opc, iI_add, iI_mul, iI_sub, jL_add, jL_mul, iI_le, iI_lt, iI_eq, iI_eq0, iI_lt0, iI_0le, iI_le0, iI_0lt, jL_iI, iI_jL, lc_eq, lc_lt, lc_le, lc_ge, lc_gt, Nat.sub_zero, Nat.zero_le, true_and, and_true, Nat.reduceAdd, Nat.reduceLeDiff]
  refine ⟨h1, h6, c_one (d := d) hI hz (by omega) (by omega) hw ⟨fun er hi' hl' hr' I' f1 f2 f3 => ?_, fun k hk er hi' hl' hr' I' f1 f2 f3 => ?_⟩⟩
  · simp (disch := omega) only [lt133, en_ops, en_opc, iI_add, iI_mul, iI_sub, jL_add, jL_mul, iI_le, iI_lt, iI_eq, iI_eq0, iI_lt0, iI_0le, iI_le0, iI_0lt, jL_iI, iI_jL, lc_eq, lc_lt, lc_le, lc_ge, lc_gt, Nat.sub_zero, Nat.zero_le, true_and, and_true, Nat.reduceAdd, Nat.reduceLeDiff]
    refine ⟨0, rfl, by rw [sh133]; decide, by decide, ?_⟩
    exact H.1 er hi' hl' hr' I' f1 f2 f3
  · rcases (show k = 0 ∨ k = 1 ∨ k = 2 ∨ k = 3 by omega) with rfl | rfl | rfl | rfl
    · exact absurd er (by (repeat' split) <;> omega)
    · exact absurd er (by (repeat' split) <;> omega)
    · show o_iconst 1 (o_iret K) (en_set1 [.ref 0, .int (iI w), .ref 133, jk] 3 jk) [] hi' hl' hr' (xc - 1) (xs - 6)
      simp (disch := omega) only [en_ops, en_opc, iI_add, iI_mul, iI_sub, jL_add, jL_mul, iI_le, iI_lt, iI_eq, iI_eq0, iI_lt0, iI_0le, iI_le0, iI_0lt, jL_iI, iI_jL, lc_eq, lc_lt, lc_le, lc_ge, lc_gt, Nat.sub_zero, Nat.zero_le, true_and, and_true, Nat.reduceAdd, Nat.reduceLeDiff]
      exact H.2 2 hk er hi' hl' hr' I' f1 f2 f3
    · exact absurd er (by (repeat' split) <;> omega)
theorem l_seen {k w : Int} (hI : InvC G W hi hr) (hz : zOK n W) (h1 : 1 ≤ xc) (h6 : 6 ≤ xs) (hk : iRg k) (hw : iRg w) (H : lEnd G W W (if (1 ≤ k ∧ k ≤ 999) ∧ 1 ≤ w ∧ w ≤ 16 then 0 else 3) (fun k => if k = 2 then 1 else 0) ((iI ((16 * k + w - 1) / w)).toInt64) K hi hl hr) : en_Call G (d + 3) xc xs Y_L_seen wN wN [.ref 0, .int (iI k), .int (iI w), .ref 133] hi hl hr K := by
  apply en_L_seen
  simp (disch := omega) only [B_L_seen_0, sh0, lt0, en_ops, en_opc, iI_add, iI_mul, iI_sub, jL_add, jL_mul, iI_le, iI_lt, iI_eq, iI_eq0, iI_lt0, iI_0le, iI_le0, iI_0lt, jL_iI, iI_jL, lc_eq, lc_lt, lc_le, lc_ge, lc_gt, Nat.sub_zero, Nat.zero_le, true_and, and_true, Nat.reduceAdd, Nat.reduceLeDiff]
  refine ⟨h1, h6, c_seen (d := d) hI hz (by omega) (by omega) hk hw ⟨fun er hi' hl' hr' I' f1 f2 f3 => ?_, fun k hk er hi' hl' hr' I' f1 f2 f3 => ?_⟩⟩
  · simp (disch := omega) only [lt133, en_ops, en_opc, iI_add, iI_mul, iI_sub, jL_add, jL_mul, iI_le, iI_lt, iI_eq, iI_eq0, iI_lt0, iI_0le, iI_le0, iI_0lt, jL_iI, iI_jL, lc_eq, lc_lt, lc_le, lc_ge, lc_gt, Nat.sub_zero, Nat.zero_le, true_and, and_true, Nat.reduceAdd, Nat.reduceLeDiff]
    refine ⟨0, rfl, by rw [sh133]; decide, by decide, ?_⟩
    exact H.1 er hi' hl' hr' I' f1 f2 f3
  · rcases (show k = 0 ∨ k = 1 ∨ k = 2 ∨ k = 3 by omega) with rfl | rfl | rfl | rfl
    · exact absurd er (by (repeat' split) <;> omega)
    · exact absurd er (by (repeat' split) <;> omega)
    · show o_iconst 1 (o_iret K) (en_set1 [.ref 0, .int (iI k), .int (iI w), .ref 133, jk] 4 jk) [] hi' hl' hr' (xc - 1) (xs - 6)
      simp (disch := omega) only [en_ops, en_opc, iI_add, iI_mul, iI_sub, jL_add, jL_mul, iI_le, iI_lt, iI_eq, iI_eq0, iI_lt0, iI_0le, iI_le0, iI_0lt, jL_iI, iI_jL, lc_eq, lc_lt, lc_le, lc_ge, lc_gt, Nat.sub_zero, Nat.zero_le, true_and, and_true, Nat.reduceAdd, Nat.reduceLeDiff]
      exact H.2 2 hk er hi' hl' hr' I' f1 f2 f3
    · exact absurd er (by (repeat' split) <;> omega)
end
