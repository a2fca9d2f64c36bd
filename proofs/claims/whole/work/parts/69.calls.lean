section
variable {G : en_G} {d : Nat} {K : en_K} {W : zW} {n : Nat} {hi : en_I} {hl : en_L} {hr : en_F} {xc xs : Nat}
theorem InvC.o (h : InvC G W hi hr) : hr 0 9 = .ref 16 ∧ shR 16 hr ∧ xcH 16 (zE W) (zS W) hi := by
  obtain ⟨pl, h1, h2⟩ := h
  exact ⟨h1.1.2.2.2.2.2.1, h1.2.2.2.2.1.2.2.2.2, h2.2.2.2.2.2.2.2.2.2.1⟩
theorem zOK.f (h : zOK n W) : fB (zE W).2.1 (zE W).2.2.1 (zS W).1.1 := h.2.2.2.2.2.2.2.2.2.1.1
theorem zOK.c (h : zOK n W) : (zE W).2.1 ≤ 12 ∧ (zE W).2.2.1 ≤ 6 := h.2.2.2.2.2.2.2.2.1
theorem is16 : isSh 16 := Or.inl rfl
theorem iRg_n {k : Nat} (h : k < 2147483648) : iRg (k : Int) := by unfold iRg; omega
theorem iRg_i {k : Int} (h : -1000000 ≤ k) (h2 : k ≤ 1000000) : iRg k := by unfold iRg; omega
abbrev inC (W : zW) (c : Int) : Prop := 0 ≤ c ∧ c < (zE W).2.1
abbrev inZ (W : zW) (z : Int) : Prop := 0 ≤ z ∧ z < (zE W).2.2.1
theorem c_mean {c : Int} (hI : InvC G W hi hr) (hz : zOK n W) (h1 : 1 ≤ xc) (h6 : 6 ≤ xs) (hc : iRg c) (H : cEnd G W W (if inC W c then 0 else 1) (.int (iI (mnP (zS W).1.1 (zE W).2.2.1 c.toNat))) K hi hl hr) : en_Call G (d + 4) xc xs Y_X10_mean wN wN [.ref 0, .int (iI c)] hi hl hr K := by
  obtain ⟨r9, hS, hX⟩ := hI.o
  have nc12 := hz.c.1
  apply en_X10_mean
  simp (disch := omega) only [B_X10_mean_0, sh0, lt0, en_ops, en_opc, iI_add, iI_mul, iI_sub, jL_add, jL_mul, iI_le, iI_lt, iI_eq, iI_eq0, iI_lt0, iI_0le, iI_le0, iI_0lt, jL_iI, iI_jL, lc_eq, lc_lt, lc_le, lc_ge, lc_gt, Nat.sub_zero, Nat.zero_le, true_and, and_true, Nat.reduceAdd, Nat.reduceLeDiff]
  refine c_isCell hI hz hc ?_
  by_cases e : inC W c
  · rw [if_pos e]
    rw [if_pos e] at H
    simp (disch := omega) only [sh0, lt0, en_ops, en_opc, iI_add, iI_mul, iI_sub, jL_add, jL_mul, iI_le, iI_lt, iI_eq, iI_eq0, iI_lt0, iI_0le, iI_le0, iI_0lt, jL_iI, iI_jL, lc_eq, lc_lt, lc_le, lc_ge, lc_gt, Nat.sub_zero, Nat.zero_le, true_and, and_true, Nat.reduceAdd, Nat.reduceLeDiff]
    refine ⟨h1, h6, c_needPlace hI hz (Nat.le_refl _) (Nat.le_refl _) (Or.inr rfl) (fun _ => ?_) (fun e => absurd e (by decide))⟩
    simp (disch := omega) only [r9, sh0, lt0, sh16, lt16, en_ops, en_opc, iI_add, iI_mul, iI_sub, jL_add, jL_mul, iI_le, iI_lt, iI_eq, iI_eq0, iI_lt0, iI_0le, iI_le0, iI_0lt, jL_iI, iI_jL, lc_eq, lc_lt, lc_le, lc_ge, lc_gt, Nat.sub_zero, Nat.zero_le, true_and, and_true, Nat.reduceAdd, Nat.reduceLeDiff]
    rw [show c = ((c.toNat : Nat) : Int) by omega]
    refine t_meanOf (d := d) is16 hS hX.1.1 hz.f (by omega) ?_
    simp (disch := omega) only [en_ops, en_opc, iI_add, iI_mul, iI_sub, jL_add, jL_mul, iI_le, iI_lt, iI_eq, iI_eq0, iI_lt0, iI_0le, iI_le0, iI_0lt, jL_iI, iI_jL, lc_eq, lc_lt, lc_le, lc_ge, lc_gt, Nat.sub_zero, Nat.zero_le, true_and, and_true, Nat.reduceAdd, Nat.reduceLeDiff]
    exact H.1 rfl hi hl hr hI Fc.rf Fc.rf Fc.rf
  · rw [if_neg e]
    rw [if_neg e] at H
    simp (disch := omega) only [sh0, lt0, en_ops, en_opc, iI_add, iI_mul, iI_sub, jL_add, jL_mul, iI_le, iI_lt, iI_eq, iI_eq0, iI_lt0, iI_0le, iI_le0, iI_0lt, jL_iI, iI_jL, lc_eq, lc_lt, lc_le, lc_ge, lc_gt, Nat.sub_zero, Nat.zero_le, true_and, and_true, Nat.reduceAdd, Nat.reduceLeDiff]
    exact ⟨h1, h6, c_needPlace hI hz (Nat.le_refl _) (Nat.le_refl _) (Or.inl rfl) (fun e => absurd e (by decide)) (fun _ hi' I' F' => H.2 0 (by omega) rfl hi' hl hr I' F' Fc.rf Fc.rf)⟩
theorem c_sound {c : Int} (hI : InvC G W hi hr) (hz : zOK n W) (h1 : 1 ≤ xc) (h6 : 6 ≤ xs) (hc : iRg c) (H : cEnd G W W (if inC W c then 0 else 1) (.int (iI (sdP (zS W).1.1 (zE W).2.2.1 c.toNat))) K hi hl hr) : en_Call G (d + 5) xc xs Y_X10_sound wN wN [.ref 0, .int (iI c)] hi hl hr K := by
  obtain ⟨r9, hS, hX⟩ := hI.o
  have nc12 := hz.c.1
  apply en_X10_sound
  simp (disch := omega) only [B_X10_sound_0, sh0, lt0, en_ops, en_opc, iI_add, iI_mul, iI_sub, jL_add, jL_mul, iI_le, iI_lt, iI_eq, iI_eq0, iI_lt0, iI_0le, iI_le0, iI_0lt, jL_iI, iI_jL, lc_eq, lc_lt, lc_le, lc_ge, lc_gt, Nat.sub_zero, Nat.zero_le, true_and, and_true, Nat.reduceAdd, Nat.reduceLeDiff]
  refine c_isCell hI hz hc ?_
  by_cases e : inC W c
  · rw [if_pos e]
    rw [if_pos e] at H
    simp (disch := omega) only [sh0, lt0, en_ops, en_opc, iI_add, iI_mul, iI_sub, jL_add, jL_mul, iI_le, iI_lt, iI_eq, iI_eq0, iI_lt0, iI_0le, iI_le0, iI_0lt, jL_iI, iI_jL, lc_eq, lc_lt, lc_le, lc_ge, lc_gt, Nat.sub_zero, Nat.zero_le, true_and, and_true, Nat.reduceAdd, Nat.reduceLeDiff]
    refine ⟨h1, h6, c_needPlace hI hz (Nat.le_refl _) (Nat.le_refl _) (Or.inr rfl) (fun _ => ?_) (fun e => absurd e (by decide))⟩
    simp (disch := omega) only [r9, sh0, lt0, sh16, lt16, en_ops, en_opc, iI_add, iI_mul, iI_sub, jL_add, jL_mul, iI_le, iI_lt, iI_eq, iI_eq0, iI_lt0, iI_0le, iI_le0, iI_0lt, jL_iI, iI_jL, lc_eq, lc_lt, lc_le, lc_ge, lc_gt, Nat.sub_zero, Nat.zero_le, true_and, and_true, Nat.reduceAdd, Nat.reduceLeDiff]
    rw [show c = ((c.toNat : Nat) : Int) by omega]
    refine t_soundOf (d := d) is16 hS hX.1.1 hz.f (by omega) ?_
    simp (disch := omega) only [en_ops, en_opc, iI_add, iI_mul, iI_sub, jL_add, jL_mul, iI_le, iI_lt, iI_eq, iI_eq0, iI_lt0, iI_0le, iI_le0, iI_0lt, jL_iI, iI_jL, lc_eq, lc_lt, lc_le, lc_ge, lc_gt, Nat.sub_zero, Nat.zero_le, true_and, and_true, Nat.reduceAdd, Nat.reduceLeDiff]
    exact H.1 rfl hi hl hr hI Fc.rf Fc.rf Fc.rf
  · rw [if_neg e]
    rw [if_neg e] at H
    simp (disch := omega) only [sh0, lt0, en_ops, en_opc, iI_add, iI_mul, iI_sub, jL_add, jL_mul, iI_le, iI_lt, iI_eq, iI_eq0, iI_lt0, iI_0le, iI_le0, iI_0lt, jL_iI, iI_jL, lc_eq, lc_lt, lc_le, lc_ge, lc_gt, Nat.sub_zero, Nat.zero_le, true_and, and_true, Nat.reduceAdd, Nat.reduceLeDiff]
    exact ⟨h1, h6, c_needPlace hI hz (Nat.le_refl _) (Nat.le_refl _) (Or.inl rfl) (fun e => absurd e (by decide)) (fun _ hi' I' F' => H.2 0 (by omega) rfl hi' hl hr I' F' Fc.rf Fc.rf)⟩
theorem xcH.T {E : hEnv} {s : zSh} {a : Nat} (h : xcH a E s hi) (ho : xOK n E s) : shT a s.2.1 (hdG s.2.2.1) hi := ⟨h.2.1, ho.2.2.2.2.1.1, fun i hi9 => ⟨h.2.2.1 i hi9, by have := ho.2.2.2.2.1.2 i hi9; unfold hdG; omega⟩⟩
theorem zOK.x (h : zOK n W) : xOK n (zE W) (zS W) := h.2.2.2.2.2.2.2.2.2.1
theorem c_word {c : Int} (hI : InvC G W hi hr) (hz : zOK n W) (h1 : 1 ≤ xc) (h6 : 6 ≤ xs) (hc : iRg c) (H : cEnd G W W (if inC W c then 0 else 1) (.long (jL (wdP (zS W).1.1 (zE W).2.2.1 (zS W).2.1 (hdG (zS W).2.2.1) c.toNat))) K hi hl hr) : en_Call G (d + 4) xc xs Y_X10_word wN wN [.ref 0, .int (iI c)] hi hl hr K := by
  obtain ⟨r9, hS, hX⟩ := hI.o
  have nc12 := hz.c.1
  apply en_X10_word
  simp (disch := omega) only [B_X10_word_0, sh0, lt0, en_ops, en_opc, iI_add, iI_mul, iI_sub, jL_add, jL_mul, iI_le, iI_lt, iI_eq, iI_eq0, iI_lt0, iI_0le, iI_le0, iI_0lt, jL_iI, iI_jL, lc_eq, lc_lt, lc_le, lc_ge, lc_gt, Nat.sub_zero, Nat.zero_le, true_and, and_true, Nat.reduceAdd, Nat.reduceLeDiff]
  refine c_isCell hI hz hc ?_
  by_cases e : inC W c
  · rw [if_pos e]
    rw [if_pos e] at H
    simp (disch := omega) only [sh0, lt0, en_ops, en_opc, iI_add, iI_mul, iI_sub, jL_add, jL_mul, iI_le, iI_lt, iI_eq, iI_eq0, iI_lt0, iI_0le, iI_le0, iI_0lt, jL_iI, iI_jL, lc_eq, lc_lt, lc_le, lc_ge, lc_gt, Nat.sub_zero, Nat.zero_le, true_and, and_true, Nat.reduceAdd, Nat.reduceLeDiff]
    refine ⟨h1, h6, c_needPlace hI hz (Nat.le_refl _) (Nat.le_refl _) (Or.inr rfl) (fun _ => ?_) (fun e => absurd e (by decide))⟩
    simp (disch := omega) only [r9, sh0, lt0, sh16, lt16, en_ops, en_opc, iI_add, iI_mul, iI_sub, jL_add, jL_mul, iI_le, iI_lt, iI_eq, iI_eq0, iI_lt0, iI_0le, iI_le0, iI_0lt, jL_iI, iI_jL, lc_eq, lc_lt, lc_le, lc_ge, lc_gt, Nat.sub_zero, Nat.zero_le, true_and, and_true, Nat.reduceAdd, Nat.reduceLeDiff]
    rw [show c = ((c.toNat : Nat) : Int) by omega]
    refine t_wordOf (d := d) is16 hS hX.1.1 hz.f (hX.T hz.x) (by omega) ?_
    simp (disch := omega) only [en_ops, en_opc, iI_add, iI_mul, iI_sub, jL_add, jL_mul, iI_le, iI_lt, iI_eq, iI_eq0, iI_lt0, iI_0le, iI_le0, iI_0lt, jL_iI, iI_jL, lc_eq, lc_lt, lc_le, lc_ge, lc_gt, Nat.sub_zero, Nat.zero_le, true_and, and_true, Nat.reduceAdd, Nat.reduceLeDiff]
    exact H.1 rfl hi hl hr hI Fc.rf Fc.rf Fc.rf
  · rw [if_neg e]
    rw [if_neg e] at H
    simp (disch := omega) only [sh0, lt0, en_ops, en_opc, iI_add, iI_mul, iI_sub, jL_add, jL_mul, iI_le, iI_lt, iI_eq, iI_eq0, iI_lt0, iI_0le, iI_le0, iI_0lt, jL_iI, iI_jL, lc_eq, lc_lt, lc_le, lc_ge, lc_gt, Nat.sub_zero, Nat.zero_le, true_and, and_true, Nat.reduceAdd, Nat.reduceLeDiff]
    exact ⟨h1, h6, c_needPlace hI hz (Nat.le_refl _) (Nat.le_refl _) (Or.inl rfl) (fun e => absurd e (by decide)) (fun _ hi' I' F' => H.2 0 (by omega) rfl hi' hl hr I' F' Fc.rf Fc.rf)⟩
/-- a crest, a wall, overs -/
def clP (W : zW) (c : Nat) (w : Int) : Int := if w = 0 then (zS W).1.2.1 c else if w = 1 then (zE W).2.2.2.1 c else (zS W).1.2.2.1 c
theorem c_cell {c w : Int} (hI : InvC G W hi hr) (hz : zOK n W) (h1 : 2 ≤ xc) (h6 : 12 ≤ xs) (hc : iRg c) (hw : iRg w) (H : cEnd G W W (if inC W c then if 0 ≤ w ∧ w ≤ 2 then 0 else 3 else 1) (.int (iI (clP W c.toNat w))) K hi hl hr) : en_Call G (d + 2) xc xs Y_X10_cell wN wN [.ref 0, .int (iI c), .int (iI w)] hi hl hr K := by
  obtain ⟨r9, hS, hX⟩ := hI.o
  have nc12 := hz.c.1
  obtain ⟨z0, z1, z2, z3, z4, z5, z6, z7, z8, -⟩ := is16.sh
  obtain ⟨y1, y2, y3, y4, y5, y6, y7⟩ := id hS
  apply en_X10_cell
  simp (disch := omega) only [B_X10_cell_0, sh0, lt0, en_ops, en_opc, iI_add, iI_mul, iI_sub, jL_add, jL_mul, iI_le, iI_lt, iI_eq, iI_eq0, iI_lt0, iI_0le, iI_le0, iI_0lt, jL_iI, iI_jL, lc_eq, lc_lt, lc_le, lc_ge, lc_gt, Nat.sub_zero, Nat.zero_le, true_and, and_true, Nat.reduceAdd, Nat.reduceLeDiff]
  refine c_isCell hI hz hc ?_
  by_cases e : inC W c
  · rw [if_pos e]
    rw [if_pos e] at H
    simp (disch := omega) only [sh0, lt0, en_ops, en_opc, iI_add, iI_mul, iI_sub, jL_add, jL_mul, iI_le, iI_lt, iI_eq, iI_eq0, iI_lt0, iI_0le, iI_le0, iI_0lt, jL_iI, iI_jL, lc_eq, lc_lt, lc_le, lc_ge, lc_gt, Nat.sub_zero, Nat.zero_le, true_and, and_true, Nat.reduceAdd, Nat.reduceLeDiff]
    refine ⟨by omega, by omega, c_needPlace hI hz (Nat.le_refl _) (Nat.le_refl _) (Or.inr rfl) (fun _ => ?_) (fun e => absurd e (by decide))⟩
    simp (disch := omega) only [sh0, lt0, en_ops, en_opc, iI_add, iI_mul, iI_sub, jL_add, jL_mul, iI_le, iI_lt, iI_eq, iI_eq0, iI_lt0, iI_0le, iI_le0, iI_0lt, jL_iI, iI_jL, lc_eq, lc_lt, lc_le, lc_ge, lc_gt, Nat.sub_zero, Nat.zero_le, true_and, and_true, Nat.reduceAdd, Nat.reduceLeDiff]
    refine c_isWithin hw (iRg_i (by decide) (by decide)) (iRg_i (by decide) (by decide)) ?_
    by_cases e2 : 0 ≤ w ∧ w ≤ 2
    · rw [if_pos e2]
      rw [if_pos e2] at H
      simp (disch := omega) only [sh0, lt0, en_ops, en_opc, iI_add, iI_mul, iI_sub, jL_add, jL_mul, iI_le, iI_lt, iI_eq, iI_eq0, iI_lt0, iI_0le, iI_le0, iI_0lt, jL_iI, iI_jL, lc_eq, lc_lt, lc_le, lc_ge, lc_gt, Nat.sub_zero, Nat.zero_le, true_and, and_true, Nat.reduceAdd, Nat.reduceLeDiff]
      refine ⟨by omega, by omega, c_needRight hI hz (Nat.le_refl _) (Nat.le_refl _) (Or.inr rfl) (fun _ => ?_) (fun e => absurd e (by decide))⟩
      have Hx := H.1 rfl hi hl hr hI Fc.rf Fc.rf Fc.rf
      unfold clP at Hx
      have ic : iI c = iI ((c.toNat : Nat) : Int) := iI_eq_of (by omega)
      simp (disch := omega) only [r9, sh0, lt0, z0, z1, y2, y3, y4, sh18, lt18, sh19, lt19, sh20, lt20, en_ops, en_opc, iI_add, iI_mul, iI_sub, jL_add, jL_mul, iI_le, iI_lt, iI_eq, iI_eq0, iI_lt0, iI_0le, iI_le0, iI_0lt, jL_iI, iI_jL, lc_eq, lc_lt, lc_le, lc_ge, lc_gt, Nat.sub_zero, Nat.zero_le, true_and, and_true, Nat.reduceAdd, Nat.reduceLeDiff]
      refine ⟨fun e3 => ⟨fun e4 => ⟨c.toNat, ic, by omega, ?_⟩, fun e4 => ⟨c.toNat, ic, by omega, ?_⟩⟩, fun e3 => ⟨c.toNat, ic, by omega, ?_⟩⟩
      · rw [if_neg e3, if_neg (by omega)] at Hx
        rw [hX.1.2.2.2.1 _ (by omega)]
        exact Hx
      · rw [if_neg e3, if_pos (by omega)] at Hx
        rw [hX.1.2.2.1 _ (by omega)]
        exact Hx
      · rw [if_pos (by omega)] at Hx
        rw [hX.1.2.1 _ (by omega)]
        exact Hx
    · rw [if_neg e2]
      rw [if_neg e2] at H
      simp (disch := omega) only [sh0, lt0, en_ops, en_opc, iI_add, iI_mul, iI_sub, jL_add, jL_mul, iI_le, iI_lt, iI_eq, iI_eq0, iI_lt0, iI_0le, iI_le0, iI_0lt, jL_iI, iI_jL, lc_eq, lc_lt, lc_le, lc_ge, lc_gt, Nat.sub_zero, Nat.zero_le, true_and, and_true, Nat.reduceAdd, Nat.reduceLeDiff]
      exact ⟨by omega, by omega, c_needRight hI hz (Nat.le_refl _) (Nat.le_refl _) (Or.inl rfl) (fun e => absurd e (by decide)) (fun _ hi' I' F' => H.2 2 (by omega) rfl hi' hl hr I' F' Fc.rf Fc.rf)⟩
  · rw [if_neg e]
    rw [if_neg e] at H
    simp (disch := omega) only [sh0, lt0, en_ops, en_opc, iI_add, iI_mul, iI_sub, jL_add, jL_mul, iI_le, iI_lt, iI_eq, iI_eq0, iI_lt0, iI_0le, iI_le0, iI_0lt, jL_iI, iI_jL, lc_eq, lc_lt, lc_le, lc_ge, lc_gt, Nat.sub_zero, Nat.zero_le, true_and, and_true, Nat.reduceAdd, Nat.reduceLeDiff]
    exact ⟨by omega, by omega, c_needPlace hI hz (Nat.le_refl _) (Nat.le_refl _) (Or.inl rfl) (fun e => absurd e (by decide)) (fun _ hi' I' F' => H.2 0 (by omega) rfl hi' hl hr I' F' Fc.rf Fc.rf)⟩
theorem c_sums {w : Int} (hI : InvC G W hi hr) (hz : zOK n W) (h1 : 1 ≤ xc) (h6 : 6 ≤ xs) (hw : iRg w) (H : cEnd G W W (if 0 ≤ w ∧ w ≤ 4 then 0 else 3) (.int (iI ((zS W).1.2.2.2.1 w.toNat))) K hi hl hr) : en_Call G (d + 2) xc xs Y_X10_sums wN wN [.ref 0, .int (iI w)] hi hl hr K := by
  obtain ⟨r9, hS, hX⟩ := hI.o
  obtain ⟨z0, z1, z2, z3, z4, z5, z6, z7, z8, -⟩ := is16.sh
  obtain ⟨y1, y2, y3, y4, y5, y6, y7⟩ := id hS
  apply en_X10_sums
  simp (disch := omega) only [B_X10_sums_0, sh0, lt0, en_ops, en_opc, iI_add, iI_mul, iI_sub, jL_add, jL_mul, iI_le, iI_lt, iI_eq, iI_eq0, iI_lt0, iI_0le, iI_le0, iI_0lt, jL_iI, iI_jL, lc_eq, lc_lt, lc_le, lc_ge, lc_gt, Nat.sub_zero, Nat.zero_le, true_and, and_true, Nat.reduceAdd, Nat.reduceLeDiff]
  refine c_isWithin hw (iRg_i (by decide) (by decide)) (iRg_i (by decide) (by decide)) ?_
  by_cases e2 : 0 ≤ w ∧ w ≤ 4
  · rw [if_pos e2]
    rw [if_pos e2] at H
    simp (disch := omega) only [sh0, lt0, en_ops, en_opc, iI_add, iI_mul, iI_sub, jL_add, jL_mul, iI_le, iI_lt, iI_eq, iI_eq0, iI_lt0, iI_0le, iI_le0, iI_0lt, jL_iI, iI_jL, lc_eq, lc_lt, lc_le, lc_ge, lc_gt, Nat.sub_zero, Nat.zero_le, true_and, and_true, Nat.reduceAdd, Nat.reduceLeDiff]
    refine ⟨h1, h6, c_needRight hI hz (Nat.le_refl _) (Nat.le_refl _) (Or.inr rfl) (fun _ => ?_) (fun e => absurd e (by decide))⟩
    simp (disch := omega) only [r9, sh0, lt0, z0, z1, y7, sh23, lt23, en_ops, en_opc, iI_add, iI_mul, iI_sub, jL_add, jL_mul, iI_le, iI_lt, iI_eq, iI_eq0, iI_lt0, iI_0le, iI_le0, iI_0lt, jL_iI, iI_jL, lc_eq, lc_lt, lc_le, lc_ge, lc_gt, Nat.sub_zero, Nat.zero_le, true_and, and_true, Nat.reduceAdd, Nat.reduceLeDiff]
    refine ⟨w.toNat, iI_eq_of (by omega), by omega, ?_⟩
    rw [hX.1.2.2.2.2.1 _ (by omega)]
    exact H.1 rfl hi hl hr hI Fc.rf Fc.rf Fc.rf
  · rw [if_neg e2]
    rw [if_neg e2] at H
    simp (disch := omega) only [sh0, lt0, en_ops, en_opc, iI_add, iI_mul, iI_sub, jL_add, jL_mul, iI_le, iI_lt, iI_eq, iI_eq0, iI_lt0, iI_0le, iI_le0, iI_0lt, jL_iI, iI_jL, lc_eq, lc_lt, lc_le, lc_ge, lc_gt, Nat.sub_zero, Nat.zero_le, true_and, and_true, Nat.reduceAdd, Nat.reduceLeDiff]
    exact ⟨h1, h6, c_needRight hI hz (Nat.le_refl _) (Nat.le_refl _) (Or.inl rfl) (fun e => absurd e (by decide)) (fun _ hi' I' F' => H.2 2 (by omega) rfl hi' hl hr I' F' Fc.rf Fc.rf)⟩
theorem c_fault (hI : InvC G W hi hr) (H : cEnd G W W 0 (.int (iI (zFa W))) K hi hl hr) : en_Call G (d + 1) xc xs Y_X10_fault wN wN [.ref 0] hi hl hr K := by
  obtain ⟨pl, h1, h2⟩ := id hI
  have f2 := h2.2.1
  apply en_X10_fault
  simp (disch := omega) only [B_X10_fault_0, sh0, lt0, f2, en_ops, en_opc, iI_add, iI_mul, iI_sub, jL_add, jL_mul, iI_le, iI_lt, iI_eq, iI_eq0, iI_lt0, iI_0le, iI_le0, iI_0lt, jL_iI, iI_jL, lc_eq, lc_lt, lc_le, lc_ge, lc_gt, Nat.sub_zero, Nat.zero_le, true_and, and_true, Nat.reduceAdd, Nat.reduceLeDiff]
  exact H.1 rfl hi hl hr hI Fc.rf Fc.rf Fc.rf
theorem c_status {w : Int} (hI : InvC G W hi hr) (hw : iRg w) (H : cEnd G W W 0 (.int (iI (if 0 ≤ w ∧ w ≤ 3 then zRf W w.toNat else -1))) K hi hl hr) : en_Call G (d + 1) xc xs Y_X10_status wN wN [.ref 0, .int (iI w)] hi hl hr K := by
  obtain ⟨pl, h1, h2⟩ := id hI
  have r12 := h1.1.2.2.2.2.2.2.2.1
  obtain ⟨w1, w2⟩ := hw
  have Hx := H.1 rfl hi hl hr hI Fc.rf Fc.rf Fc.rf
  apply en_X10_status
  simp (disch := omega) only [B_X10_status_0, r12, sh0, lt0, sh25, lt25, en_ops, en_opc, iI_add, iI_mul, iI_sub, jL_add, jL_mul, iI_le, iI_lt, iI_eq, iI_eq0, iI_lt0, iI_0le, iI_le0, iI_0lt, jL_iI, iI_jL, lc_eq, lc_lt, lc_le, lc_ge, lc_gt, Nat.sub_zero, Nat.zero_le, true_and, and_true, Nat.reduceAdd, Nat.reduceLeDiff]
  refine ⟨fun e => ?_, fun e => ⟨by decide, fun e2 => ?_, fun e2 => ⟨w.toNat, iI_eq_of (by omega), by omega, ?_⟩⟩⟩
  · rw [if_neg (by omega)] at Hx; exact Hx
  · rw [if_neg (by omega)] at Hx; exact Hx
  · rw [if_pos (by omega)] at Hx
    rw [h2.2.2.2.2.2.1 _ (by omega)]
    exact Hx
theorem c_seen {k w : Int} (hI : InvC G W hi hr) (hz : zOK n W) (h1 : 1 ≤ xc) (h6 : 6 ≤ xs) (hk : iRg k) (hw : iRg w) (H : cEnd G W W (if (1 ≤ k ∧ k ≤ 999) ∧ 1 ≤ w ∧ w ≤ 16 then 0 else 3) (.int (iI ((16 * k + w - 1) / w))) K hi hl hr) : en_Call G (d + 2) xc xs Y_X10_seen wN wN [.ref 0, .int (iI k), .int (iI w)] hi hl hr K := by
  have no : ¬ ((1 ≤ k ∧ k ≤ 999) ∧ 1 ≤ w ∧ w ≤ 16) → en_V G Y_X10_seen (d + 2) wN wN K 27 [.ref 0, .int (iI k), .int (iI w)] [.int (iI 0), .ref 0] hi hl hr xc xs := fun e => by
    rw [if_neg e] at H
    apply s_X10_seen_27
    simp (disch := omega) only [B_X10_seen_27, sh0, lt0, en_ops, en_opc, iI_add, iI_mul, iI_sub, jL_add, jL_mul, iI_le, iI_lt, iI_eq, iI_eq0, iI_lt0, iI_0le, iI_le0, iI_0lt, jL_iI, iI_jL, lc_eq, lc_lt, lc_le, lc_ge, lc_gt, Nat.sub_zero, Nat.zero_le, true_and, and_true, Nat.reduceAdd, Nat.reduceLeDiff]
    exact ⟨h1, h6, c_needRight hI hz (Nat.le_refl _) (Nat.le_refl _) (Or.inl rfl) (fun e => absurd e (by decide)) (fun _ hi' I' F' => H.2 2 (by omega) rfl hi' hl hr I' F' Fc.rf Fc.rf)⟩
  apply en_X10_seen
  simp (disch := omega) only [B_X10_seen_0, sh0, lt0, en_ops, en_opc, iI_add, iI_mul, iI_sub, jL_add, jL_mul, iI_le, iI_lt, iI_eq, iI_eq0, iI_lt0, iI_0le, iI_le0, iI_0lt, jL_iI, iI_jL, lc_eq, lc_lt, lc_le, lc_ge, lc_gt, Nat.sub_zero, Nat.zero_le, true_and, and_true, Nat.reduceAdd, Nat.reduceLeDiff]
  refine c_isWithin hk (iRg_i (by decide) (by decide)) (iRg_i (by decide) (by decide)) ?_
  by_cases e1 : 1 ≤ k ∧ k ≤ 999
  · rw [if_pos e1]
    simp (disch := omega) only [en_ops, en_opc, iI_add, iI_mul, iI_sub, jL_add, jL_mul, iI_le, iI_lt, iI_eq, iI_eq0, iI_lt0, iI_0le, iI_le0, iI_0lt, jL_iI, iI_jL, lc_eq, lc_lt, lc_le, lc_ge, lc_gt, Nat.sub_zero, Nat.zero_le, true_and, and_true, Nat.reduceAdd, Nat.reduceLeDiff]
    refine ⟨fun e => absurd e (by decide), fun _ => c_isWithin hw (iRg_i (by decide) (by decide)) (iRg_i (by decide) (by decide)) ?_⟩
    by_cases e2 : 1 ≤ w ∧ w ≤ 16
    · rw [if_pos e2]
      rw [if_pos ⟨e1, e2⟩] at H
      simp (disch := omega) only [en_ops, en_opc, iI_add, iI_mul, iI_sub, jL_add, jL_mul, iI_le, iI_lt, iI_eq, iI_eq0, iI_lt0, iI_0le, iI_le0, iI_0lt, jL_iI, iI_jL, lc_eq, lc_lt, lc_le, lc_ge, lc_gt, Nat.sub_zero, Nat.zero_le, true_and, and_true, Nat.reduceAdd, Nat.reduceLeDiff]
      refine ⟨fun e => absurd e (by decide), fun _ => ?_⟩
      apply s_X10_seen_27
      simp (disch := omega) only [B_X10_seen_27, sh0, lt0, en_ops, en_opc, iI_add, iI_mul, iI_sub, jL_add, jL_mul, iI_le, iI_lt, iI_eq, iI_eq0, iI_lt0, iI_0le, iI_le0, iI_0lt, jL_iI, iI_jL, lc_eq, lc_lt, lc_le, lc_ge, lc_gt, Nat.sub_zero, Nat.zero_le, true_and, and_true, Nat.reduceAdd, Nat.reduceLeDiff]
      refine ⟨h1, h6, c_needRight hI hz (Nat.le_refl _) (Nat.le_refl _) (Or.inr rfl) (fun _ => ?_) (fun e => absurd e (by decide))⟩
      simp (disch := omega) only [en_ops, en_opc, iI_add, iI_mul, iI_sub, jL_add, jL_mul, iI_le, iI_lt, iI_eq, iI_eq0, iI_lt0, iI_0le, iI_le0, iI_0lt, jL_iI, iI_jL, lc_eq, lc_lt, lc_le, lc_ge, lc_gt, Nat.sub_zero, Nat.zero_le, true_and, and_true, Nat.reduceAdd, Nat.reduceLeDiff]
      refine ⟨fun e => by omega, fun _ => ⟨by omega, ?_⟩⟩
      rw [iI_div (by omega) (by omega) (by omega) (by omega)]
      exact H.1 rfl hi hl hr hI Fc.rf Fc.rf Fc.rf
    · rw [if_neg e2]
      simp (disch := omega) only [en_ops, en_opc, iI_add, iI_mul, iI_sub, jL_add, jL_mul, iI_le, iI_lt, iI_eq, iI_eq0, iI_lt0, iI_0le, iI_le0, iI_0lt, jL_iI, iI_jL, lc_eq, lc_lt, lc_le, lc_ge, lc_gt, Nat.sub_zero, Nat.zero_le, true_and, and_true, Nat.reduceAdd, Nat.reduceLeDiff]
      exact ⟨fun _ => no (fun g => e2 g.2), fun e => (e (by first | trivial | rfl)).elim⟩
  · rw [if_neg e1]
    simp (disch := omega) only [en_ops, en_opc, iI_add, iI_mul, iI_sub, jL_add, jL_mul, iI_le, iI_lt, iI_eq, iI_eq0, iI_lt0, iI_0le, iI_le0, iI_0lt, jL_iI, iI_jL, lc_eq, lc_lt, lc_le, lc_ge, lc_gt, Nat.sub_zero, Nat.zero_le, true_and, and_true, Nat.reduceAdd, Nat.reduceLeDiff]
    exact ⟨fun _ => no (fun g => e1 g.1), fun e => (e (by first | trivial | rfl)).elim⟩
end
