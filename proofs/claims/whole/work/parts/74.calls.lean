section
variable {G : en_G} {d : Nat} {K : en_K} {W : zW} {n : Nat} {hi : en_I} {hl : en_L} {hr : en_F} {xc xs : Nat}
theorem c_left {l : Int} {y : Int} {c : Int} {z : Int} (hI : InvC G W hi hr) (hz : zOK n W) (hn : n ≤ 512) (h1 : 5 ≤ xc) (h6 : 30 ≤ xs) (hlr : iRg l) (hyr : iRg y) (hc : iRg c) (hz9 : iRg z) (H : cEnd G W W (if inC W c then if inL W l then if inY W y then if inZ W z then if isNow W then 0 else 4 else 3 else 2 else 2 else 1) (.int (iI (aP (yrP (eL W l.toNat) (zYs W y.toNat).2 (zYs W y.toNat).1 (zS W).1).1 c.toNat z.toNat))) K hi hl hr) : en_Call G (d + 9) xc xs Y_X10_left wN wN [.ref 0, .int (iI l), .int (iI y), .int (iI c), .int (iI z)] hi hl hr K := by
  obtain ⟨r9, hSh, hX⟩ := hI.o
  obtain ⟨nc12, nz6⟩ := hz.c
  have nl4 := hz.2.1
  have ny4 := hz.2.2.1
  apply en_X10_left
  simp (disch := omega) only [B_X10_left_0, sh0, lt0, en_ops, en_opc, iI_add, iI_mul, iI_sub, jL_add, jL_mul, iI_le, iI_lt, iI_eq, iI_eq0, iI_lt0, iI_0le, iI_le0, iI_0lt, jL_iI, iI_jL, lc_eq, lc_lt, lc_le, lc_ge, lc_gt, Nat.sub_zero, Nat.zero_le, true_and, and_true, Nat.reduceAdd, Nat.reduceLeDiff]
  refine c_isCell hI hz hc ?_
  by_cases e1 : inC W c
  · rw [if_pos e1]
    simp (disch := omega) only [sh0, lt0, en_ops, en_opc, iI_add, iI_mul, iI_sub, jL_add, jL_mul, iI_le, iI_lt, iI_eq, iI_eq0, iI_lt0, iI_0le, iI_le0, iI_0lt, jL_iI, iI_jL, lc_eq, lc_lt, lc_le, lc_ge, lc_gt, Nat.sub_zero, Nat.zero_le, true_and, and_true, Nat.reduceAdd, Nat.reduceLeDiff]
    refine ⟨by omega, by omega, c_needPlace hI hz (by omega) (by omega) (Or.inr rfl) (fun _ => ?_) (fun e => absurd e (by decide))⟩
    simp (disch := omega) only [sh0, lt0, en_ops, en_opc, iI_add, iI_mul, iI_sub, jL_add, jL_mul, iI_le, iI_lt, iI_eq, iI_eq0, iI_lt0, iI_0le, iI_le0, iI_0lt, jL_iI, iI_jL, lc_eq, lc_lt, lc_le, lc_ge, lc_gt, Nat.sub_zero, Nat.zero_le, true_and, and_true, Nat.reduceAdd, Nat.reduceLeDiff]
    refine ⟨by omega, by omega, c_needLaw hI hz (by omega) (by omega) hlr (fun e2 => ?_) (fun e hi' I' F' => H.2 1 (by omega) (by rw [if_pos e1, if_neg e]) hi' hl hr I' F' Fc.rf Fc.rf)⟩
    simp (disch := omega) only [sh0, lt0, en_ops, en_opc, iI_add, iI_mul, iI_sub, jL_add, jL_mul, iI_le, iI_lt, iI_eq, iI_eq0, iI_lt0, iI_0le, iI_le0, iI_0lt, jL_iI, iI_jL, lc_eq, lc_lt, lc_le, lc_ge, lc_gt, Nat.sub_zero, Nat.zero_le, true_and, and_true, Nat.reduceAdd, Nat.reduceLeDiff]
    refine ⟨by omega, by omega, c_needYear hI hz (by omega) (by omega) hyr (fun e3 => ?_) (fun e hi' I' F' => H.2 1 (by omega) (by rw [if_pos e1, if_pos e2, if_neg e]) hi' hl hr I' F' Fc.rf Fc.rf)⟩
    simp (disch := omega) only [sh0, lt0, en_ops, en_opc, iI_add, iI_mul, iI_sub, jL_add, jL_mul, iI_le, iI_lt, iI_eq, iI_eq0, iI_lt0, iI_0le, iI_le0, iI_0lt, jL_iI, iI_jL, lc_eq, lc_lt, lc_le, lc_ge, lc_gt, Nat.sub_zero, Nat.zero_le, true_and, and_true, Nat.reduceAdd, Nat.reduceLeDiff]
    refine c_isSize hI hz hz9 ?_
    by_cases e4 : inZ W z
    · rw [if_pos e4]
      simp (disch := omega) only [sh0, lt0, en_ops, en_opc, iI_add, iI_mul, iI_sub, jL_add, jL_mul, iI_le, iI_lt, iI_eq, iI_eq0, iI_lt0, iI_0le, iI_le0, iI_0lt, jL_iI, iI_jL, lc_eq, lc_lt, lc_le, lc_ge, lc_gt, Nat.sub_zero, Nat.zero_le, true_and, and_true, Nat.reduceAdd, Nat.reduceLeDiff]
      refine ⟨by omega, by omega, c_needRight hI hz (by omega) (by omega) (Or.inr rfl) (fun _ => ?_) (fun e => absurd e (by decide))⟩
      simp (disch := omega) only [sh0, lt0, en_ops, en_opc, iI_add, iI_mul, iI_sub, jL_add, jL_mul, iI_le, iI_lt, iI_eq, iI_eq0, iI_lt0, iI_0le, iI_le0, iI_0lt, jL_iI, iI_jL, lc_eq, lc_lt, lc_le, lc_ge, lc_gt, Nat.sub_zero, Nat.zero_le, true_and, and_true, Nat.reduceAdd, Nat.reduceLeDiff]
      refine ⟨by omega, by omega, c_needHours hI hz (by omega) (by omega) (fun e5 => ?_) (fun e hi' I' F' => H.2 3 (by omega) (by rw [if_pos e1, if_pos e2, if_pos e3, if_pos e4, if_neg e]) hi' hl hr I' F' Fc.rf Fc.rf)⟩
      obtain ⟨pl, ⟨hR, hN⟩, hT, hS, hE, hse, hq, hO, hy, hyR, hY, r14, r15, r5, r7, r16, r17⟩ := hI.go hz hn (l := l.toNat) (y := y.toNat) (by omega) (by omega) e5.1
      have Hx := H.1 (by rw [if_pos e1, if_pos e2, if_pos e3, if_pos e4, if_pos e5])
      simp (disch := omega) only [r5, r7, r9, r16, r17, sh0, lt0, sh14, lt14, sh15, lt15, sh38, lt38, sh34, lt34, sh16, lt16, sh39, lt39, en_ops, en_opc, iI_add, iI_mul, iI_sub, jL_add, jL_mul, iI_le, iI_lt, iI_eq, iI_eq0, iI_lt0, iI_0le, iI_le0, iI_0lt, jL_iI, iI_jL, lc_eq, lc_lt, lc_le, lc_ge, lc_gt, Nat.sub_zero, Nat.zero_le, true_and, and_true, Nat.reduceAdd, Nat.reduceLeDiff]
      refine ⟨l.toNat, iI_eq_of (by omega), by omega, 50 + 4 * l.toNat, r14, by omega, y.toNat, iI_eq_of (by omega), by omega, 66 + 5 * y.toNat, r15, by omega, ?_⟩
      rw [show z = ((z.toNat : Nat) : Int) by omega, show c = ((c.toNat : Nat) : Int) by omega]
      refine t_behind (d := d + 1) hT hS hE hse hq hO hy hyR hY (fun h8 F8 Q8 O8 S8 => ?_)
      simp (disch := omega) only [r5, r7, r9, r16, r17, sh0, lt0, sh14, lt14, sh15, lt15, sh38, lt38, sh34, lt34, sh16, lt16, sh39, lt39, en_ops, en_opc, iI_add, iI_mul, iI_sub, jL_add, jL_mul, iI_le, iI_lt, iI_eq, iI_eq0, iI_lt0, iI_0le, iI_le0, iI_0lt, jL_iI, iI_jL, lc_eq, lc_lt, lc_le, lc_ge, lc_gt, Nat.sub_zero, Nat.zero_le, true_and, and_true, Nat.reduceAdd, Nat.reduceLeDiff]
      refine t_inCell (d := d + 6) (Or.inr (Or.inl rfl)) hT.2.2.2.1 Q8.1 (by omega) (by omega) (by omega) ?_
      have ei : inP (yrP (eL W l.toNat) (zYs W y.toNat).2 (zYs W y.toNat).1 (zS W).1).1 (eL W l.toNat).2.2.1 c.toNat (z.toNat : Int) (-1) = aP (yrP (eL W l.toNat) (zYs W y.toNat).2 (zYs W y.toNat).1 (zS W).1).1 c.toNat z.toNat := inP_a (show z.toNat < (zE W).2.2.1 by omega)
      rw [ei]
      simp (disch := omega) only [en_ops, en_opc, iI_add, iI_mul, iI_sub, jL_add, jL_mul, iI_le, iI_lt, iI_eq, iI_eq0, iI_lt0, iI_0le, iI_le0, iI_0lt, jL_iI, iI_jL, lc_eq, lc_lt, lc_le, lc_ge, lc_gt, Nat.sub_zero, Nat.zero_le, true_and, and_true, Nat.reduceAdd, Nat.reduceLeDiff]
      exact Hx h8 hl hr (InvC.back hR hN hz F8 (fun x g => g.c) S8) (Fc.of F8 (fun x g => g.f)) Fc.rf Fc.rf
    · rw [if_neg e4]
      simp (disch := omega) only [sh0, lt0, en_ops, en_opc, iI_add, iI_mul, iI_sub, jL_add, jL_mul, iI_le, iI_lt, iI_eq, iI_eq0, iI_lt0, iI_0le, iI_le0, iI_0lt, jL_iI, iI_jL, lc_eq, lc_lt, lc_le, lc_ge, lc_gt, Nat.sub_zero, Nat.zero_le, true_and, and_true, Nat.reduceAdd, Nat.reduceLeDiff]
      exact ⟨by omega, by omega, c_needRight hI hz (by omega) (by omega) (Or.inl rfl) (fun e => absurd e (by decide)) (fun _ hi' I' F' => H.2 2 (by omega) (by rw [if_pos e1, if_pos e2, if_pos e3, if_neg e4]) hi' hl hr I' F' Fc.rf Fc.rf)⟩
  · rw [if_neg e1]
    simp (disch := omega) only [sh0, lt0, en_ops, en_opc, iI_add, iI_mul, iI_sub, jL_add, jL_mul, iI_le, iI_lt, iI_eq, iI_eq0, iI_lt0, iI_0le, iI_le0, iI_0lt, jL_iI, iI_jL, lc_eq, lc_lt, lc_le, lc_ge, lc_gt, Nat.sub_zero, Nat.zero_le, true_and, and_true, Nat.reduceAdd, Nat.reduceLeDiff]
    exact ⟨by omega, by omega, c_needPlace hI hz (by omega) (by omega) (Or.inl rfl) (fun e => absurd e (by decide)) (fun _ hi' I' F' => H.2 0 (by omega) (by rw [if_neg e1]) hi' hl hr I' F' Fc.rf Fc.rf)⟩
theorem c_last {l : Int} {y : Int} {c : Int} {k : Int} (hI : InvC G W hi hr) (hz : zOK n W) (hn : n ≤ 512) (h1 : 5 ≤ xc) (h6 : 30 ≤ xs) (hlr : iRg l) (hyr : iRg y) (hc : iRg c) (hk : iRg k) (H : cEnd G W W (if inC W c then if inL W l then if inY W y then if 1 ≤ k ∧ k ≤ 999999 then if isNow W then 0 else 4 else 3 else 2 else 2 else 1) (.int (iI (laP (eL W l.toNat) (zYs W y.toNat).2 (zYs W y.toNat).1 c.toNat k 21 0 (zS W).1))) K hi hl hr) : en_Call G (d + 9) xc xs Y_X10_last wN wN [.ref 0, .int (iI l), .int (iI y), .int (iI c), .int (iI k)] hi hl hr K := by
  obtain ⟨r9, hSh, hX⟩ := hI.o
  obtain ⟨nc12, nz6⟩ := hz.c
  have nl4 := hz.2.1
  have ny4 := hz.2.2.1
  apply en_X10_last
  simp (disch := omega) only [B_X10_last_0, sh0, lt0, en_ops, en_opc, iI_add, iI_mul, iI_sub, jL_add, jL_mul, iI_le, iI_lt, iI_eq, iI_eq0, iI_lt0, iI_0le, iI_le0, iI_0lt, jL_iI, iI_jL, lc_eq, lc_lt, lc_le, lc_ge, lc_gt, Nat.sub_zero, Nat.zero_le, true_and, and_true, Nat.reduceAdd, Nat.reduceLeDiff]
  refine c_isCell hI hz hc ?_
  by_cases e1 : inC W c
  · rw [if_pos e1]
    simp (disch := omega) only [sh0, lt0, en_ops, en_opc, iI_add, iI_mul, iI_sub, jL_add, jL_mul, iI_le, iI_lt, iI_eq, iI_eq0, iI_lt0, iI_0le, iI_le0, iI_0lt, jL_iI, iI_jL, lc_eq, lc_lt, lc_le, lc_ge, lc_gt, Nat.sub_zero, Nat.zero_le, true_and, and_true, Nat.reduceAdd, Nat.reduceLeDiff]
    refine ⟨by omega, by omega, c_needPlace hI hz (by omega) (by omega) (Or.inr rfl) (fun _ => ?_) (fun e => absurd e (by decide))⟩
    simp (disch := omega) only [sh0, lt0, en_ops, en_opc, iI_add, iI_mul, iI_sub, jL_add, jL_mul, iI_le, iI_lt, iI_eq, iI_eq0, iI_lt0, iI_0le, iI_le0, iI_0lt, jL_iI, iI_jL, lc_eq, lc_lt, lc_le, lc_ge, lc_gt, Nat.sub_zero, Nat.zero_le, true_and, and_true, Nat.reduceAdd, Nat.reduceLeDiff]
    refine ⟨by omega, by omega, c_needLaw hI hz (by omega) (by omega) hlr (fun e2 => ?_) (fun e hi' I' F' => H.2 1 (by omega) (by rw [if_pos e1, if_neg e]) hi' hl hr I' F' Fc.rf Fc.rf)⟩
    simp (disch := omega) only [sh0, lt0, en_ops, en_opc, iI_add, iI_mul, iI_sub, jL_add, jL_mul, iI_le, iI_lt, iI_eq, iI_eq0, iI_lt0, iI_0le, iI_le0, iI_0lt, jL_iI, iI_jL, lc_eq, lc_lt, lc_le, lc_ge, lc_gt, Nat.sub_zero, Nat.zero_le, true_and, and_true, Nat.reduceAdd, Nat.reduceLeDiff]
    refine ⟨by omega, by omega, c_needYear hI hz (by omega) (by omega) hyr (fun e3 => ?_) (fun e hi' I' F' => H.2 1 (by omega) (by rw [if_pos e1, if_pos e2, if_neg e]) hi' hl hr I' F' Fc.rf Fc.rf)⟩
    simp (disch := omega) only [sh0, lt0, en_ops, en_opc, iI_add, iI_mul, iI_sub, jL_add, jL_mul, iI_le, iI_lt, iI_eq, iI_eq0, iI_lt0, iI_0le, iI_le0, iI_0lt, jL_iI, iI_jL, lc_eq, lc_lt, lc_le, lc_ge, lc_gt, Nat.sub_zero, Nat.zero_le, true_and, and_true, Nat.reduceAdd, Nat.reduceLeDiff]
    refine c_isWithin hk (iRg_i (by decide) (by decide)) (iRg_i (by decide) (by decide)) ?_
    by_cases e4 : 1 ≤ k ∧ k ≤ 999999
    · rw [if_pos e4]
      simp (disch := omega) only [sh0, lt0, en_ops, en_opc, iI_add, iI_mul, iI_sub, jL_add, jL_mul, iI_le, iI_lt, iI_eq, iI_eq0, iI_lt0, iI_0le, iI_le0, iI_0lt, jL_iI, iI_jL, lc_eq, lc_lt, lc_le, lc_ge, lc_gt, Nat.sub_zero, Nat.zero_le, true_and, and_true, Nat.reduceAdd, Nat.reduceLeDiff]
      refine ⟨by omega, by omega, c_needRight hI hz (by omega) (by omega) (Or.inr rfl) (fun _ => ?_) (fun e => absurd e (by decide))⟩
      simp (disch := omega) only [sh0, lt0, en_ops, en_opc, iI_add, iI_mul, iI_sub, jL_add, jL_mul, iI_le, iI_lt, iI_eq, iI_eq0, iI_lt0, iI_0le, iI_le0, iI_0lt, jL_iI, iI_jL, lc_eq, lc_lt, lc_le, lc_ge, lc_gt, Nat.sub_zero, Nat.zero_le, true_and, and_true, Nat.reduceAdd, Nat.reduceLeDiff]
      refine ⟨by omega, by omega, c_needHours hI hz (by omega) (by omega) (fun e5 => ?_) (fun e hi' I' F' => H.2 3 (by omega) (by rw [if_pos e1, if_pos e2, if_pos e3, if_pos e4, if_neg e]) hi' hl hr I' F' Fc.rf Fc.rf)⟩
      obtain ⟨pl, ⟨hR, hN⟩, hT, hS, hE, hse, hq, hO, hy, hyR, hY, r14, r15, r5, r7, r16, r17⟩ := hI.go hz hn (l := l.toNat) (y := y.toNat) (by omega) (by omega) e5.1
      have Hx := H.1 (by rw [if_pos e1, if_pos e2, if_pos e3, if_pos e4, if_pos e5])
      simp (disch := omega) only [r5, r7, r9, r16, r17, sh0, lt0, sh14, lt14, sh15, lt15, sh38, lt38, sh34, lt34, sh16, lt16, sh39, lt39, en_ops, en_opc, iI_add, iI_mul, iI_sub, jL_add, jL_mul, iI_le, iI_lt, iI_eq, iI_eq0, iI_lt0, iI_0le, iI_le0, iI_0lt, jL_iI, iI_jL, lc_eq, lc_lt, lc_le, lc_ge, lc_gt, Nat.sub_zero, Nat.zero_le, true_and, and_true, Nat.reduceAdd, Nat.reduceLeDiff]
      refine ⟨l.toNat, iI_eq_of (by omega), by omega, 50 + 4 * l.toNat, r14, by omega, y.toNat, iI_eq_of (by omega), by omega, 66 + 5 * y.toNat, r15, by omega, ?_⟩
      rw [show c = ((c.toNat : Nat) : Int) by omega]
      refine t_years (d := d + 1) hT hS hE hse hq hO hy hyR hY (by omega) (by omega) (fun h8 F8 S8 => ?_)
      simp (disch := omega) only [en_ops, en_opc, iI_add, iI_mul, iI_sub, jL_add, jL_mul, iI_le, iI_lt, iI_eq, iI_eq0, iI_lt0, iI_0le, iI_le0, iI_0lt, jL_iI, iI_jL, lc_eq, lc_lt, lc_le, lc_ge, lc_gt, Nat.sub_zero, Nat.zero_le, true_and, and_true, Nat.reduceAdd, Nat.reduceLeDiff]
      exact Hx h8 hl hr (InvC.back hR hN hz F8 (fun x g => g.c) S8) (Fc.of F8 (fun x g => g.f)) Fc.rf Fc.rf
    · rw [if_neg e4]
      simp (disch := omega) only [sh0, lt0, en_ops, en_opc, iI_add, iI_mul, iI_sub, jL_add, jL_mul, iI_le, iI_lt, iI_eq, iI_eq0, iI_lt0, iI_0le, iI_le0, iI_0lt, jL_iI, iI_jL, lc_eq, lc_lt, lc_le, lc_ge, lc_gt, Nat.sub_zero, Nat.zero_le, true_and, and_true, Nat.reduceAdd, Nat.reduceLeDiff]
      exact ⟨by omega, by omega, c_needRight hI hz (by omega) (by omega) (Or.inl rfl) (fun e => absurd e (by decide)) (fun _ hi' I' F' => H.2 2 (by omega) (by rw [if_pos e1, if_pos e2, if_pos e3, if_neg e4]) hi' hl hr I' F' Fc.rf Fc.rf)⟩
  · rw [if_neg e1]
    simp (disch := omega) only [sh0, lt0, en_ops, en_opc, iI_add, iI_mul, iI_sub, jL_add, jL_mul, iI_le, iI_lt, iI_eq, iI_eq0, iI_lt0, iI_0le, iI_le0, iI_0lt, jL_iI, iI_jL, lc_eq, lc_lt, lc_le, lc_ge, lc_gt, Nat.sub_zero, Nat.zero_le, true_and, and_true, Nat.reduceAdd, Nat.reduceLeDiff]
    exact ⟨by omega, by omega, c_needPlace hI hz (by omega) (by omega) (Or.inl rfl) (fun e => absurd e (by decide)) (fun _ hi' I' F' => H.2 0 (by omega) (by rw [if_neg e1]) hi' hl hr I' F' Fc.rf Fc.rf)⟩
theorem c_high {l : Int} {y : Int} (hI : InvC G W hi hr) (hz : zOK n W) (hn : n ≤ 512) (h1 : 3 ≤ xc) (h6 : 18 ≤ xs) (hlr : iRg l) (hyr : iRg y) (H : cEnd G W W (if inL W l then if inY W y then if isNow W then 0 else 4 else 2 else 2) (.int (iI (fdP (fun m => drB (zVs W l.toNat) (zYs W y.toNat).2 (zYs W y.toNat).1 (zS W).1.2.2.2.2.2 (zS W).1.2.1 m (zE W).2.1) 101 0))) K hi hl hr) : en_Call G (d + 9) xc xs Y_X10_high wN wN [.ref 0, .int (iI l), .int (iI y)] hi hl hr K := by
  obtain ⟨r9, hSh, hX⟩ := hI.o
  obtain ⟨nc12, nz6⟩ := hz.c
  have nl4 := hz.2.1
  have ny4 := hz.2.2.1
  apply en_X10_high
  simp (disch := omega) only [B_X10_high_0, sh0, lt0, en_ops, en_opc, iI_add, iI_mul, iI_sub, jL_add, jL_mul, iI_le, iI_lt, iI_eq, iI_eq0, iI_lt0, iI_0le, iI_le0, iI_0lt, jL_iI, iI_jL, lc_eq, lc_lt, lc_le, lc_ge, lc_gt, Nat.sub_zero, Nat.zero_le, true_and, and_true, Nat.reduceAdd, Nat.reduceLeDiff]
  refine ⟨by omega, by omega, c_needLaw hI hz (by omega) (by omega) hlr (fun e1 => ?_) (fun e hi' I' F' => H.2 1 (by omega) (by rw [if_neg e]) hi' hl hr I' F' Fc.rf Fc.rf)⟩
  simp (disch := omega) only [sh0, lt0, en_ops, en_opc, iI_add, iI_mul, iI_sub, jL_add, jL_mul, iI_le, iI_lt, iI_eq, iI_eq0, iI_lt0, iI_0le, iI_le0, iI_0lt, jL_iI, iI_jL, lc_eq, lc_lt, lc_le, lc_ge, lc_gt, Nat.sub_zero, Nat.zero_le, true_and, and_true, Nat.reduceAdd, Nat.reduceLeDiff]
  refine ⟨by omega, by omega, c_needYear hI hz (by omega) (by omega) hyr (fun e2 => ?_) (fun e hi' I' F' => H.2 1 (by omega) (by rw [if_pos e1, if_neg e]) hi' hl hr I' F' Fc.rf Fc.rf)⟩
  simp (disch := omega) only [sh0, lt0, en_ops, en_opc, iI_add, iI_mul, iI_sub, jL_add, jL_mul, iI_le, iI_lt, iI_eq, iI_eq0, iI_lt0, iI_0le, iI_le0, iI_0lt, jL_iI, iI_jL, lc_eq, lc_lt, lc_le, lc_ge, lc_gt, Nat.sub_zero, Nat.zero_le, true_and, and_true, Nat.reduceAdd, Nat.reduceLeDiff]
  refine ⟨by omega, by omega, c_needHours hI hz (by omega) (by omega) (fun e3 => ?_) (fun e hi' I' F' => H.2 3 (by omega) (by rw [if_pos e1, if_pos e2, if_neg e]) hi' hl hr I' F' Fc.rf Fc.rf)⟩
  obtain ⟨pl, ⟨hR, hN⟩, hT, hS, hE, hse, hq, hO, hy, hyR, hY, r14, r15, r5, r7, r16, r17⟩ := hI.go hz hn (l := l.toNat) (y := y.toNat) (by omega) (by omega) e3.1
  have Hx := H.1 (by rw [if_pos e1, if_pos e2, if_pos e3])
  have x60 := hz.x.2.2.1 e3.1
  simp (disch := omega) only [r5, r7, r9, r16, r17, sh0, lt0, sh14, lt14, sh15, lt15, sh38, lt38, sh34, lt34, sh16, lt16, sh39, lt39, en_ops, en_opc, iI_add, iI_mul, iI_sub, jL_add, jL_mul, iI_le, iI_lt, iI_eq, iI_eq0, iI_lt0, iI_0le, iI_le0, iI_0lt, jL_iI, iI_jL, lc_eq, lc_lt, lc_le, lc_ge, lc_gt, Nat.sub_zero, Nat.zero_le, true_and, and_true, Nat.reduceAdd, Nat.reduceLeDiff]
  refine ⟨l.toNat, iI_eq_of (by omega), by omega, 50 + 4 * l.toNat, r14, by omega, y.toNat, iI_eq_of (by omega), by omega, 66 + 5 * y.toNat, r15, by omega, ?_⟩
  refine t_dry (d := d + 3) hT hS.1 hS.2.2.2.2.1 hS.2.2.2.2.2 hse.2.2.1 hE.1 hq hO (fun c hc => by have := (x60 c hc).2; omega) hy hyR hY (fun h8 F8 => ?_)
  simp (disch := omega) only [en_ops, en_opc, iI_add, iI_mul, iI_sub, jL_add, jL_mul, iI_le, iI_lt, iI_eq, iI_eq0, iI_lt0, iI_0le, iI_le0, iI_0lt, jL_iI, iI_jL, lc_eq, lc_lt, lc_le, lc_ge, lc_gt, Nat.sub_zero, Nat.zero_le, true_and, and_true, Nat.reduceAdd, Nat.reduceLeDiff]
  have S8 : seH G pl (50 + 4 * l.toNat) (eL W l.toNat) h8 := by
    have p14 := hS.2.2.1.sh.2.2.2.2.2.2.1
    obtain ⟨⟨g0, g1, g2⟩, ⟨v0, v1, v2⟩, x3, x4⟩ := hse
    have ee : ∀ x, x ≠ 35 → x ≠ 36 → h8 x = hi x := fun x a1 a2 => F8 x (P56.n x ⟨a1, a2⟩)
    exact ⟨⟨by rw [ee pl (by omega) (by omega)]; exact g0, g1, fun i hi9 => by rw [ee (pl + 4) (by omega) (by omega)]; exact g2 i hi9⟩, ⟨by rw [ee pl (by omega) (by omega)]; exact v0, v1, fun i hi9 => by rw [ee (pl + 5) (by omega) (by omega)]; exact v2 i hi9⟩, x3.mono hS.2.2.2.2.1 F8 (fun x g => by unfold P56 at g; omega), fun c z k hc hz hk => by rw [ee 37 (by omega) (by omega)]; exact x4 c z k hc hz hk⟩
  exact Hx h8 hl hr (InvC.back hR hN hz F8 (fun x g => by unfold P56 at g; omega) S8) (Fc.of F8 (fun x g => by unfold P56 at g; omega)) Fc.rf Fc.rf
theorem c_run {l : Int} {y : Int} (hI : InvC G W hi hr) (hz : zOK n W) (hn : n ≤ 512) (h1 : 3 ≤ xc) (h6 : 18 ≤ xs) (hlr : iRg l) (hyr : iRg y) (H : cEnd G W (zPut W (yrP (eL W l.toNat) (zYs W y.toNat).2 (zYs W y.toNat).1 (zS W).1, (zS W).2)) (if inL W l then if inY W y then if isNow W then 0 else 4 else 2 else 2) (.int (iI ((yrP (eL W l.toNat) (zYs W y.toNat).2 (zYs W y.toNat).1 (zS W).1).2.2.2.2.2 - (zS W).1.2.2.2.2.2))) K hi hl hr) : en_Call G (d + 9) xc xs Y_X10_run wN wN [.ref 0, .int (iI l), .int (iI y)] hi hl hr K := by
  obtain ⟨r9, hSh, hX⟩ := hI.o
  obtain ⟨nc12, nz6⟩ := hz.c
  have nl4 := hz.2.1
  have ny4 := hz.2.2.1
  apply en_X10_run
  simp (disch := omega) only [B_X10_run_0, sh0, lt0, en_ops, en_opc, iI_add, iI_mul, iI_sub, jL_add, jL_mul, iI_le, iI_lt, iI_eq, iI_eq0, iI_lt0, iI_0le, iI_le0, iI_0lt, jL_iI, iI_jL, lc_eq, lc_lt, lc_le, lc_ge, lc_gt, Nat.sub_zero, Nat.zero_le, true_and, and_true, Nat.reduceAdd, Nat.reduceLeDiff]
  refine ⟨by omega, by omega, c_needLaw hI hz (by omega) (by omega) hlr (fun e1 => ?_) (fun e hi' I' F' => H.2 1 (by omega) (by rw [if_neg e]) hi' hl hr I' F' Fc.rf Fc.rf)⟩
  simp (disch := omega) only [sh0, lt0, en_ops, en_opc, iI_add, iI_mul, iI_sub, jL_add, jL_mul, iI_le, iI_lt, iI_eq, iI_eq0, iI_lt0, iI_0le, iI_le0, iI_0lt, jL_iI, iI_jL, lc_eq, lc_lt, lc_le, lc_ge, lc_gt, Nat.sub_zero, Nat.zero_le, true_and, and_true, Nat.reduceAdd, Nat.reduceLeDiff]
  refine ⟨by omega, by omega, c_needYear hI hz (by omega) (by omega) hyr (fun e2 => ?_) (fun e hi' I' F' => H.2 1 (by omega) (by rw [if_pos e1, if_neg e]) hi' hl hr I' F' Fc.rf Fc.rf)⟩
  simp (disch := omega) only [sh0, lt0, en_ops, en_opc, iI_add, iI_mul, iI_sub, jL_add, jL_mul, iI_le, iI_lt, iI_eq, iI_eq0, iI_lt0, iI_0le, iI_le0, iI_0lt, jL_iI, iI_jL, lc_eq, lc_lt, lc_le, lc_ge, lc_gt, Nat.sub_zero, Nat.zero_le, true_and, and_true, Nat.reduceAdd, Nat.reduceLeDiff]
  refine ⟨by omega, by omega, c_needHours hI hz (by omega) (by omega) (fun e3 => ?_) (fun e hi' I' F' => H.2 3 (by omega) (by rw [if_pos e1, if_pos e2, if_neg e]) hi' hl hr I' F' Fc.rf Fc.rf)⟩
  obtain ⟨pl, ⟨hR, hN⟩, hT, hS, hE, hse, hq, hO, hy, hyR, hY, r14, r15, r5, r7, r16, r17⟩ := hI.go hz hn (l := l.toNat) (y := y.toNat) (by omega) (by omega) e3.1
  have Hx := H.1 (by rw [if_pos e1, if_pos e2, if_pos e3])
  simp (disch := omega) only [r5, r7, r9, r16, r17, sh0, lt0, sh14, lt14, sh15, lt15, sh38, lt38, sh34, lt34, sh16, lt16, sh39, lt39, en_ops, en_opc, iI_add, iI_mul, iI_sub, jL_add, jL_mul, iI_le, iI_lt, iI_eq, iI_eq0, iI_lt0, iI_0le, iI_le0, iI_0lt, jL_iI, iI_jL, lc_eq, lc_lt, lc_le, lc_ge, lc_gt, Nat.sub_zero, Nat.zero_le, true_and, and_true, Nat.reduceAdd, Nat.reduceLeDiff]
  refine ⟨l.toNat, iI_eq_of (by omega), by omega, 50 + 4 * l.toNat, r14, by omega, y.toNat, iI_eq_of (by omega), by omega, 66 + 5 * y.toNat, r15, by omega, ?_⟩
  refine t_rollYear (d := d + 2) hS hE hse is16 hSh hq hO hy hyR hY (by omega) (fun h8 F8 Q8 O8 S8 => ?_)
  simp (disch := omega) only [en_ops, en_opc, iI_add, iI_mul, iI_sub, jL_add, jL_mul, iI_le, iI_lt, iI_eq, iI_eq0, iI_lt0, iI_0le, iI_le0, iI_0lt, jL_iI, iI_jL, lc_eq, lc_lt, lc_le, lc_ge, lc_gt, Nat.sub_zero, Nat.zero_le, true_and, and_true, Nat.reduceAdd, Nat.reduceLeDiff]
  exact Hx h8 hl hr (InvC.waves hR hN hz F8 Q8 S8) F8.c Fc.rf Fc.rf
theorem c_lots {l : Int} {y : Int} {k : Int} {x : Int} (hI : InvC G W hi hr) (hz : zOK n W) (hn : n ≤ 512) (h1 : 4 ≤ xc) (h6 : 24 ≤ xs) (hlr : iRg l) (hyr : iRg y) (hk : iRg k)  (H : cEnd G W (zPut W ((lzP (eL W l.toNat) (zYs W y.toNat).2 (zYs W y.toNat).1 k.toNat (iI x, (zS W).1)).2, (zS W).2)) (if inL W l then if inY W y then if 1 ≤ k ∧ k ≤ 200 then if isNow W then 0 else 4 else 3 else 2 else 2) (.int (iI ((lzP (eL W l.toNat) (zYs W y.toNat).2 (zYs W y.toNat).1 k.toNat (iI x, (zS W).1)).2.2.2.2.2.2 - (zS W).1.2.2.2.2.2))) K hi hl hr) : en_Call G (d + 9) xc xs Y_X10_lots wN wN [.ref 0, .int (iI l), .int (iI y), .int (iI k), .int (iI x)] hi hl hr K := by
  obtain ⟨r9, hSh, hX⟩ := hI.o
  obtain ⟨nc12, nz6⟩ := hz.c
  have nl4 := hz.2.1
  have ny4 := hz.2.2.1
  apply en_X10_lots
  simp (disch := omega) only [B_X10_lots_0, sh0, lt0, en_ops, en_opc, iI_add, iI_mul, iI_sub, jL_add, jL_mul, iI_le, iI_lt, iI_eq, iI_eq0, iI_lt0, iI_0le, iI_le0, iI_0lt, jL_iI, iI_jL, lc_eq, lc_lt, lc_le, lc_ge, lc_gt, Nat.sub_zero, Nat.zero_le, true_and, and_true, Nat.reduceAdd, Nat.reduceLeDiff]
  refine ⟨by omega, by omega, c_needLaw hI hz (by omega) (by omega) hlr (fun e1 => ?_) (fun e hi' I' F' => H.2 1 (by omega) (by rw [if_neg e]) hi' hl hr I' F' Fc.rf Fc.rf)⟩
  simp (disch := omega) only [sh0, lt0, en_ops, en_opc, iI_add, iI_mul, iI_sub, jL_add, jL_mul, iI_le, iI_lt, iI_eq, iI_eq0, iI_lt0, iI_0le, iI_le0, iI_0lt, jL_iI, iI_jL, lc_eq, lc_lt, lc_le, lc_ge, lc_gt, Nat.sub_zero, Nat.zero_le, true_and, and_true, Nat.reduceAdd, Nat.reduceLeDiff]
  refine ⟨by omega, by omega, c_needYear hI hz (by omega) (by omega) hyr (fun e2 => ?_) (fun e hi' I' F' => H.2 1 (by omega) (by rw [if_pos e1, if_neg e]) hi' hl hr I' F' Fc.rf Fc.rf)⟩
  simp (disch := omega) only [sh0, lt0, en_ops, en_opc, iI_add, iI_mul, iI_sub, jL_add, jL_mul, iI_le, iI_lt, iI_eq, iI_eq0, iI_lt0, iI_0le, iI_le0, iI_0lt, jL_iI, iI_jL, lc_eq, lc_lt, lc_le, lc_ge, lc_gt, Nat.sub_zero, Nat.zero_le, true_and, and_true, Nat.reduceAdd, Nat.reduceLeDiff]
  refine c_isWithin hk (iRg_i (by decide) (by decide)) (iRg_i (by decide) (by decide)) ?_
  by_cases e3 : 1 ≤ k ∧ k ≤ 200
  · rw [if_pos e3]
    simp (disch := omega) only [sh0, lt0, en_ops, en_opc, iI_add, iI_mul, iI_sub, jL_add, jL_mul, iI_le, iI_lt, iI_eq, iI_eq0, iI_lt0, iI_0le, iI_le0, iI_0lt, jL_iI, iI_jL, lc_eq, lc_lt, lc_le, lc_ge, lc_gt, Nat.sub_zero, Nat.zero_le, true_and, and_true, Nat.reduceAdd, Nat.reduceLeDiff]
    refine ⟨by omega, by omega, c_needRight hI hz (by omega) (by omega) (Or.inr rfl) (fun _ => ?_) (fun e => absurd e (by decide))⟩
    simp (disch := omega) only [sh0, lt0, en_ops, en_opc, iI_add, iI_mul, iI_sub, jL_add, jL_mul, iI_le, iI_lt, iI_eq, iI_eq0, iI_lt0, iI_0le, iI_le0, iI_0lt, jL_iI, iI_jL, lc_eq, lc_lt, lc_le, lc_ge, lc_gt, Nat.sub_zero, Nat.zero_le, true_and, and_true, Nat.reduceAdd, Nat.reduceLeDiff]
    refine ⟨by omega, by omega, c_needHours hI hz (by omega) (by omega) (fun e4 => ?_) (fun e hi' I' F' => H.2 3 (by omega) (by rw [if_pos e1, if_pos e2, if_pos e3, if_neg e]) hi' hl hr I' F' Fc.rf Fc.rf)⟩
    obtain ⟨pl, ⟨hR, hN⟩, hT, hS, hE, hse, hq, hO, hy, hyR, hY, r14, r15, r5, r7, r16, r17⟩ := hI.go hz hn (l := l.toNat) (y := y.toNat) (by omega) (by omega) e4.1
    have Hx := H.1 (by rw [if_pos e1, if_pos e2, if_pos e3, if_pos e4])
    simp (disch := omega) only [r5, r7, r9, r16, r17, sh0, lt0, sh14, lt14, sh15, lt15, sh38, lt38, sh34, lt34, sh16, lt16, sh39, lt39, en_ops, en_opc, iI_add, iI_mul, iI_sub, jL_add, jL_mul, iI_le, iI_lt, iI_eq, iI_eq0, iI_lt0, iI_0le, iI_le0, iI_0lt, jL_iI, iI_jL, lc_eq, lc_lt, lc_le, lc_ge, lc_gt, Nat.sub_zero, Nat.zero_le, true_and, and_true, Nat.reduceAdd, Nat.reduceLeDiff]
    refine ⟨l.toNat, iI_eq_of (by omega), by omega, 50 + 4 * l.toNat, r14, by omega, y.toNat, iI_eq_of (by omega), by omega, 66 + 5 * y.toNat, r15, by omega, ?_⟩
    rw [show k = ((k.toNat : Nat) : Int) by omega]
    refine t_rollLots (d := d + 2) hS hE hse is16 hSh hq hO hy hyR hY (hz.2.2.2.2.2.1 _ (by omega)) (by omega) (by omega) (fun h8 F8 Q8 O8 S8 => ?_)
    simp (disch := omega) only [en_ops, en_opc, iI_add, iI_mul, iI_sub, jL_add, jL_mul, iI_le, iI_lt, iI_eq, iI_eq0, iI_lt0, iI_0le, iI_le0, iI_0lt, jL_iI, iI_jL, lc_eq, lc_lt, lc_le, lc_ge, lc_gt, Nat.sub_zero, Nat.zero_le, true_and, and_true, Nat.reduceAdd, Nat.reduceLeDiff]
    exact Hx h8 hl hr (InvC.waves hR hN hz F8 Q8 S8) F8.c Fc.rf Fc.rf
  · rw [if_neg e3]
    simp (disch := omega) only [sh0, lt0, en_ops, en_opc, iI_add, iI_mul, iI_sub, jL_add, jL_mul, iI_le, iI_lt, iI_eq, iI_eq0, iI_lt0, iI_0le, iI_le0, iI_0lt, jL_iI, iI_jL, lc_eq, lc_lt, lc_le, lc_ge, lc_gt, Nat.sub_zero, Nat.zero_le, true_and, and_true, Nat.reduceAdd, Nat.reduceLeDiff]
    exact ⟨by omega, by omega, c_needRight hI hz (by omega) (by omega) (Or.inl rfl) (fun e => absurd e (by decide)) (fun _ hi' I' F' => H.2 2 (by omega) (by rw [if_pos e1, if_pos e2, if_neg e3]) hi' hl hr I' F' Fc.rf Fc.rf)⟩
end
