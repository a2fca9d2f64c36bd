section
variable {G : en_G} {d : Nat} {K : en_K} {W : zW} {n : Nat} {hi : en_I} {hl : en_L} {hr : en_F} {xc xs : Nat}
theorem l_wave {l h b f : Int} (hI : InvC G W hi hr) (hz : zOK n W) (hn : n ≤ 512) (h1 : 3 ≤ xc) (h6 : 18 ≤ xs) (hlr : iRg l) (hh : iRg h) (hb : iRg b) (hf : iRg f) {r : Nat} (hr0 : inL W l → wvB h b f → isNow W → r = 0) (hr1 : ¬ inL W l → r = 2) (hr2 : inL W l → ¬ wvB h b f → r = 3) (hr3 : inL W l → wvB h b f → ¬ isNow W → r = 4) (hne : r ≠ 1)
    (H : lEnd G W (zPut W (hrP (eL W l.toNat) (h, b, f) (zS W).1, (zS W).2)) r (fun k => k) (iI (hmP (eL W l.toNat) (h, b, f) (zS W).1)).toInt64 K hi hl hr) : en_Call G (d + 8) xc xs Y_L_wave wN wN [.ref 0, .int (iI l), .int (iI h), .int (iI b), .int (iI f), .ref 133] hi hl hr K := by
  apply en_L_wave
  simp (disch := omega) only [B_L_wave_0, sh0, lt0, en_ops, en_opc, iI_add, iI_mul, iI_sub, jL_add, jL_mul, iI_le, iI_lt, iI_eq, iI_eq0, iI_lt0, iI_0le, iI_le0, iI_0lt, jL_iI, iI_jL, lc_eq, lc_lt, lc_le, lc_ge, lc_gt, Nat.sub_zero, Nat.zero_le, true_and, and_true, Nat.reduceAdd, Nat.reduceLeDiff]
  refine ⟨h1, h6, c_wave (d := d) hI hz hn (by omega) (by omega) hlr hh hb hf hr0 hr1 hr2 hr3 ⟨fun er hi' hl' hr' I' f1 f2 f3 => ?_, fun k hk er hi' hl' hr' I' f1 f2 f3 => ?_⟩⟩
  · simp (disch := omega) only [lt133, en_ops, en_opc, iI_add, iI_mul, iI_sub, jL_add, jL_mul, iI_le, iI_lt, iI_eq, iI_eq0, iI_lt0, iI_0le, iI_le0, iI_0lt, jL_iI, iI_jL, lc_eq, lc_lt, lc_le, lc_ge, lc_gt, Nat.sub_zero, Nat.zero_le, true_and, and_true, Nat.reduceAdd, Nat.reduceLeDiff]
    refine ⟨0, rfl, by rw [sh133]; decide, by decide, ?_⟩
    exact H.1 er hi' hl' hr' I' f1 f2 f3
  · rcases (show k = 0 ∨ k = 1 ∨ k = 2 ∨ k = 3 by omega) with rfl | rfl | rfl | rfl
    · exact absurd er hne
    · show o_iconst 1 (o_iret K) (en_set1 [.ref 0, .int (iI l), .int (iI h), .int (iI b), .int (iI f), .ref 133, jk] 6 jk) [] hi' hl' hr' (xc - 3) (xs - 18)
      simp (disch := omega) only [en_ops, en_opc, iI_add, iI_mul, iI_sub, jL_add, jL_mul, iI_le, iI_lt, iI_eq, iI_eq0, iI_lt0, iI_0le, iI_le0, iI_0lt, jL_iI, iI_jL, lc_eq, lc_lt, lc_le, lc_ge, lc_gt, Nat.sub_zero, Nat.zero_le, true_and, and_true, Nat.reduceAdd, Nat.reduceLeDiff]
      exact H.2 1 hk er hi' hl' hr' I' f1 f2 f3
    · show o_iconst 2 (o_iret K) (en_set1 [.ref 0, .int (iI l), .int (iI h), .int (iI b), .int (iI f), .ref 133, jk] 6 jk) [] hi' hl' hr' (xc - 3) (xs - 18)
      simp (disch := omega) only [en_ops, en_opc, iI_add, iI_mul, iI_sub, jL_add, jL_mul, iI_le, iI_lt, iI_eq, iI_eq0, iI_lt0, iI_0le, iI_le0, iI_0lt, jL_iI, iI_jL, lc_eq, lc_lt, lc_le, lc_ge, lc_gt, Nat.sub_zero, Nat.zero_le, true_and, and_true, Nat.reduceAdd, Nat.reduceLeDiff]
      exact H.2 2 hk er hi' hl' hr' I' f1 f2 f3
    · show o_iconst 3 (o_iret K) (en_set1 [.ref 0, .int (iI l), .int (iI h), .int (iI b), .int (iI f), .ref 133, jk] 6 jk) [] hi' hl' hr' (xc - 3) (xs - 18)
      simp (disch := omega) only [en_ops, en_opc, iI_add, iI_mul, iI_sub, jL_add, jL_mul, iI_le, iI_lt, iI_eq, iI_eq0, iI_lt0, iI_0le, iI_le0, iI_0lt, jL_iI, iI_jL, lc_eq, lc_lt, lc_le, lc_ge, lc_gt, Nat.sub_zero, Nat.zero_le, true_and, and_true, Nat.reduceAdd, Nat.reduceLeDiff]
      exact H.2 3 hk er hi' hl' hr' I' f1 f2 f3
theorem l_says {l w c z k h b f : Int} (hI : InvC G W hi hr) (hz : zOK n W) (h1 : 3 ≤ xc) (h6 : 18 ≤ xs) (hlr : iRg l) (hw : iRg w) (hc : iRg c) (hzr : iRg z) (hk9 : iRg k) (hh : iRg h) (hb : iRg b) (hf : iRg f) {r : Nat} (hr0 : inC W c → inL W l → sayB W w z k h b f → r = 0) (hr1 : ¬ inC W c → r = 1) (hr2 : inC W c → ¬ inL W l → r = 2) (hr3 : inC W c → inL W l → ¬ sayB W w z k h b f → r = 3) (hne : r ≠ 4)
    (H : lEnd G W W r (fun k => k + 1) (iI (syP W l.toNat w.toNat c.toNat z.toNat k.toNat h b f)).toInt64 K hi hl hr) : en_Call G (d + 6) xc xs Y_L_says wN wN [.ref 0, .int (iI l), .int (iI w), .int (iI c), .int (iI z), .int (iI k), .int (iI h), .int (iI b), .int (iI f), .ref 133] hi hl hr K := by
  apply en_L_says
  simp (disch := omega) only [B_L_says_0, sh0, lt0, en_ops, en_opc, iI_add, iI_mul, iI_sub, jL_add, jL_mul, iI_le, iI_lt, iI_eq, iI_eq0, iI_lt0, iI_0le, iI_le0, iI_0lt, jL_iI, iI_jL, lc_eq, lc_lt, lc_le, lc_ge, lc_gt, Nat.sub_zero, Nat.zero_le, true_and, and_true, Nat.reduceAdd, Nat.reduceLeDiff]
  refine ⟨h1, h6, c_says (d := d) hI hz (by omega) (by omega) hlr hw hc hzr hk9 hh hb hf hr0 hr1 hr2 hr3 ⟨fun er hi' hl' hr' I' f1 f2 f3 => ?_, fun m hk er hi' hl' hr' I' f1 f2 f3 => ?_⟩⟩
  · simp (disch := omega) only [lt133, en_ops, en_opc, iI_add, iI_mul, iI_sub, jL_add, jL_mul, iI_le, iI_lt, iI_eq, iI_eq0, iI_lt0, iI_0le, iI_le0, iI_0lt, jL_iI, iI_jL, lc_eq, lc_lt, lc_le, lc_ge, lc_gt, Nat.sub_zero, Nat.zero_le, true_and, and_true, Nat.reduceAdd, Nat.reduceLeDiff]
    refine ⟨0, rfl, by rw [sh133]; decide, by decide, ?_⟩
    exact H.1 er hi' hl' hr' I' f1 f2 f3
  · rcases (show m = 0 ∨ m = 1 ∨ m = 2 ∨ m = 3 by omega) with rfl | rfl | rfl | rfl
    · show o_iconst 1 (o_iret K) (en_set1 [.ref 0, .int (iI l), .int (iI w), .int (iI c), .int (iI z), .int (iI k), .int (iI h), .int (iI b), .int (iI f), .ref 133, jk] 10 jk) [] hi' hl' hr' (xc - 3) (xs - 18)
      simp (disch := omega) only [en_ops, en_opc, iI_add, iI_mul, iI_sub, jL_add, jL_mul, iI_le, iI_lt, iI_eq, iI_eq0, iI_lt0, iI_0le, iI_le0, iI_0lt, jL_iI, iI_jL, lc_eq, lc_lt, lc_le, lc_ge, lc_gt, Nat.sub_zero, Nat.zero_le, true_and, and_true, Nat.reduceAdd, Nat.reduceLeDiff]
      exact H.2 0 hk er hi' hl' hr' I' f1 f2 f3
    · show o_iconst 2 (o_iret K) (en_set1 [.ref 0, .int (iI l), .int (iI w), .int (iI c), .int (iI z), .int (iI k), .int (iI h), .int (iI b), .int (iI f), .ref 133, jk] 10 jk) [] hi' hl' hr' (xc - 3) (xs - 18)
      simp (disch := omega) only [en_ops, en_opc, iI_add, iI_mul, iI_sub, jL_add, jL_mul, iI_le, iI_lt, iI_eq, iI_eq0, iI_lt0, iI_0le, iI_le0, iI_0lt, jL_iI, iI_jL, lc_eq, lc_lt, lc_le, lc_ge, lc_gt, Nat.sub_zero, Nat.zero_le, true_and, and_true, Nat.reduceAdd, Nat.reduceLeDiff]
      exact H.2 1 hk er hi' hl' hr' I' f1 f2 f3
    · show o_iconst 3 (o_iret K) (en_set1 [.ref 0, .int (iI l), .int (iI w), .int (iI c), .int (iI z), .int (iI k), .int (iI h), .int (iI b), .int (iI f), .ref 133, jk] 10 jk) [] hi' hl' hr' (xc - 3) (xs - 18)
      simp (disch := omega) only [en_ops, en_opc, iI_add, iI_mul, iI_sub, jL_add, jL_mul, iI_le, iI_lt, iI_eq, iI_eq0, iI_lt0, iI_0le, iI_le0, iI_0lt, jL_iI, iI_jL, lc_eq, lc_lt, lc_le, lc_ge, lc_gt, Nat.sub_zero, Nat.zero_le, true_and, and_true, Nat.reduceAdd, Nat.reduceLeDiff]
      exact H.2 2 hk er hi' hl' hr' I' f1 f2 f3
    · exact absurd er hne
end
