/-! the law's wrappers of the texts -/
section
variable {G : en_G} {d : Nat} {K : en_K} {W : zW} {n : Nat} {hi : en_I} {hl : en_L} {hr : en_F} {xc xs : Nat}
theorem l_beach {m : Int} (hI : InvC G W hi hr) (hz : zOK n W) (h1 : 1 ≤ xc) (h6 : 6 ≤ xs) (hm : iRg m) (H : lEnd G W (beachW W m.toNat) (if 0 ≤ m ∧ m ≤ zNt W then 0 else 3) (fun k => if k = 2 then 1 else 0) ((iI (beachA W m.toNat)).toInt64) K hi hl hr) : en_Call G (d + 11) xc xs Y_L_beach wN wN [.ref 0, .int (iI m), .ref 133] hi hl hr K := by
  apply en_L_beach
  simp (disch := omega) only [B_L_beach_0, sh0, lt0, en_ops, en_opc, iI_add, iI_mul, iI_sub, jL_add, jL_mul, iI_le, iI_lt, iI_eq, iI_eq0, iI_lt0, iI_0le, iI_le0, iI_0lt, jL_iI, iI_jL, lc_eq, lc_lt, lc_le, lc_ge, lc_gt, Nat.sub_zero, Nat.zero_le, true_and, and_true, Nat.reduceAdd, Nat.reduceLeDiff]
  refine ⟨h1, h6, c_beach (d := d) hI hz (by omega) (by omega) hm ⟨fun er hi' hl' hr' I' f1 f2 f3 => ?_, fun k hk er hi' hl' hr' I' f1 f2 f3 => ?_⟩⟩
  · simp (disch := omega) only [lt133, en_ops, en_opc, iI_add, iI_mul, iI_sub, jL_add, jL_mul, iI_le, iI_lt, iI_eq, iI_eq0, iI_lt0, iI_0le, iI_le0, iI_0lt, jL_iI, iI_jL, lc_eq, lc_lt, lc_le, lc_ge, lc_gt, Nat.sub_zero, Nat.zero_le, true_and, and_true, Nat.reduceAdd, Nat.reduceLeDiff]
    refine ⟨0, rfl, by rw [sh133]; decide, by decide, ?_⟩
    exact H.1 er hi' hl' hr' I' f1 f2 f3
  · rcases (show k = 0 ∨ k = 1 ∨ k = 2 ∨ k = 3 by omega) with rfl | rfl | rfl | rfl
    · exact absurd er (by (repeat' split) <;> omega)
    · exact absurd er (by (repeat' split) <;> omega)
    · show o_iconst 1 (o_iret K) (en_set1 [.ref 0, .int (iI m), .ref 133, jk] 3 jk) [] hi' hl' hr' (xc - 1) (xs - 6)
      simp (disch := omega) only [en_ops, en_opc, iI_add, iI_mul, iI_sub, jL_add, jL_mul, iI_le, iI_lt, iI_eq, iI_eq0, iI_lt0, iI_0le, iI_le0, iI_0lt, jL_iI, iI_jL, lc_eq, lc_lt, lc_le, lc_ge, lc_gt, Nat.sub_zero, Nat.zero_le, true_and, and_true, Nat.reduceAdd, Nat.reduceLeDiff]
      exact H.2 2 hk er hi' hl' hr' I' f1 f2 f3
    · exact absurd er (by (repeat' split) <;> omega)
theorem l_law {m : Int} (hI : InvC G W hi hr) (hz : zOK n W) (h1 : 1 ≤ xc) (h6 : 6 ≤ xs) (hm : iRg m) (H : lEnd G W (lawW W m.toNat) (if 0 ≤ m ∧ m ≤ zNt W then 0 else 3) (fun k => if k = 2 then 1 else 0) ((iI (lawA W m.toNat)).toInt64) K hi hl hr) : en_Call G (d + 65) xc xs Y_L_law wN wN [.ref 0, .int (iI m), .ref 133] hi hl hr K := by
  apply en_L_law
  simp (disch := omega) only [B_L_law_0, sh0, lt0, en_ops, en_opc, iI_add, iI_mul, iI_sub, jL_add, jL_mul, iI_le, iI_lt, iI_eq, iI_eq0, iI_lt0, iI_0le, iI_le0, iI_0lt, jL_iI, iI_jL, lc_eq, lc_lt, lc_le, lc_ge, lc_gt, Nat.sub_zero, Nat.zero_le, true_and, and_true, Nat.reduceAdd, Nat.reduceLeDiff]
  refine ⟨h1, h6, c_law (d := d) hI hz (by omega) (by omega) hm ⟨fun er hi' hl' hr' I' f1 f2 f3 => ?_, fun k hk er hi' hl' hr' I' f1 f2 f3 => ?_⟩⟩
  · simp (disch := omega) only [lt133, en_ops, en_opc, iI_add, iI_mul, iI_sub, jL_add, jL_mul, iI_le, iI_lt, iI_eq, iI_eq0, iI_lt0, iI_0le, iI_le0, iI_0lt, jL_iI, iI_jL, lc_eq, lc_lt, lc_le, lc_ge, lc_gt, Nat.sub_zero, Nat.zero_le, true_and, and_true, Nat.reduceAdd, Nat.reduceLeDiff]
    refine ⟨0, rfl, by rw [sh133]; decide, by decide, ?_⟩
    exact H.1 er hi' hl' hr' I' f1 f2 f3
  · rcases (show k = 0 ∨ k = 1 ∨ k = 2 ∨ k = 3 by omega) with rfl | rfl | rfl | rfl
    · exact absurd er (by (repeat' split) <;> omega)
    · exact absurd er (by (repeat' split) <;> omega)
    · show o_iconst 1 (o_iret K) (en_set1 [.ref 0, .int (iI m), .ref 133, jk] 3 jk) [] hi' hl' hr' (xc - 1) (xs - 6)
      simp (disch := omega) only [en_ops, en_opc, iI_add, iI_mul, iI_sub, jL_add, jL_mul, iI_le, iI_lt, iI_eq, iI_eq0, iI_lt0, iI_0le, iI_le0, iI_0lt, jL_iI, iI_jL, lc_eq, lc_lt, lc_le, lc_ge, lc_gt, Nat.sub_zero, Nat.zero_le, true_and, and_true, Nat.reduceAdd, Nat.reduceLeDiff]
      exact H.2 2 hk er hi' hl' hr' I' f1 f2 f3
    · exact absurd er (by (repeat' split) <;> omega)
theorem l_year {m : Int} (hI : InvC G W hi hr) (hz : zOK n W) (h1 : 1 ≤ xc) (h6 : 6 ≤ xs) (hm : iRg m) (H : lEnd G W (yearW W m.toNat) (if 0 ≤ m ∧ m ≤ zNt W then 0 else 3) (fun k => if k = 2 then 1 else 0) ((iI (yearA W m.toNat)).toInt64) K hi hl hr) : en_Call G (d + 11) xc xs Y_L_year wN wN [.ref 0, .int (iI m), .ref 133] hi hl hr K := by
  apply en_L_year
  simp (disch := omega) only [B_L_year_0, sh0, lt0, en_ops, en_opc, iI_add, iI_mul, iI_sub, jL_add, jL_mul, iI_le, iI_lt, iI_eq, iI_eq0, iI_lt0, iI_0le, iI_le0, iI_0lt, jL_iI, iI_jL, lc_eq, lc_lt, lc_le, lc_ge, lc_gt, Nat.sub_zero, Nat.zero_le, true_and, and_true, Nat.reduceAdd, Nat.reduceLeDiff]
  refine ⟨h1, h6, c_year (d := d) hI hz (by omega) (by omega) hm ⟨fun er hi' hl' hr' I' f1 f2 f3 => ?_, fun k hk er hi' hl' hr' I' f1 f2 f3 => ?_⟩⟩
  · simp (disch := omega) only [lt133, en_ops, en_opc, iI_add, iI_mul, iI_sub, jL_add, jL_mul, iI_le, iI_lt, iI_eq, iI_eq0, iI_lt0, iI_0le, iI_le0, iI_0lt, jL_iI, iI_jL, lc_eq, lc_lt, lc_le, lc_ge, lc_gt, Nat.sub_zero, Nat.zero_le, true_and, and_true, Nat.reduceAdd, Nat.reduceLeDiff]
    refine ⟨0, rfl, by rw [sh133]; decide, by decide, ?_⟩
    exact H.1 er hi' hl' hr' I' f1 f2 f3
  · rcases (show k = 0 ∨ k = 1 ∨ k = 2 ∨ k = 3 by omega) with rfl | rfl | rfl | rfl
    · exact absurd er (by (repeat' split) <;> omega)
    · exact absurd er (by (repeat' split) <;> omega)
    · show o_iconst 1 (o_iret K) (en_set1 [.ref 0, .int (iI m), .ref 133, jk] 3 jk) [] hi' hl' hr' (xc - 1) (xs - 6)
      simp (disch := omega) only [en_ops, en_opc, iI_add, iI_mul, iI_sub, jL_add, jL_mul, iI_le, iI_lt, iI_eq, iI_eq0, iI_lt0, iI_0le, iI_le0, iI_0lt, jL_iI, iI_jL, lc_eq, lc_lt, lc_le, lc_ge, lc_gt, Nat.sub_zero, Nat.zero_le, true_and, and_true, Nat.reduceAdd, Nat.reduceLeDiff]
      exact H.2 2 hk er hi' hl' hr' I' f1 f2 f3
    · exact absurd er (by (repeat' split) <;> omega)
end
