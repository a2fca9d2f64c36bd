section
variable {G : en_G} {d : Nat} {K : en_K} {W : zW} {n : Nat} {hi : en_I} {hl : en_L} {hr : en_F} {xc xs : Nat}
/-- painted stones of a cell: of a size; of all -/
def pnP (f : Nat → Nat → Nat → Int) (nz c : Nat) : Int := sumTo nz (fun z => f c z 2)
theorem f_bd {f : Nat → Nat → Nat → Int} {nc nz : Nat} (hB : fB nc nz f) (b1 : nz ≤ 6) {c z k : Nat} (hc : c < 12) (hk : k < 3) : 0 ≤ f c z k ∧ f c z k ≤ 10000000 := ⟨hB.1 c z k, Int.le_trans (f_le hB c z hk) (Int.le_trans (aP_le hB b1 hc z) (wP_le hB b1 hc))⟩
theorem c_lost (hI : InvC G W hi hr) (hz : zOK n W) (H : cEnd G W W 0 (.int (iI ((zS W).1.2.2.2.2.1 - sumTo (zE W).2.1 (pnP (zS W).1.1 (zE W).2.2.1)))) K hi hl hr) : en_Call G (d + 3) xc xs Y_X10_lost wN wN [.ref 0] hi hl hr K := by
  obtain ⟨r9, hS, hX⟩ := hI.o
  have nc12 := hz.c.1
  obtain ⟨z0, z1, -⟩ := is16.sh
  have e0 : hi 16 0 = iI ((zE W).2.1 : Int) := hX.1.1.1
  have e10 : hi 16 10 = iI (zS W).1.2.2.2.2.1 := hX.1.2.2.2.2.2.1
  apply en_X10_lost
  simp (disch := omega) only [B_X10_lost_0, en_ops, en_opc, iI_add, iI_mul, iI_sub, jL_add, jL_mul, iI_le, iI_lt, iI_eq, iI_eq0, iI_lt0, iI_0le, iI_le0, iI_0lt, jL_iI, iI_jL, lc_eq, lc_lt, lc_le, lc_ge, lc_gt, Nat.sub_zero, Nat.zero_le, true_and, and_true, Nat.reduceAdd, Nat.reduceLeDiff]
  suffices L : ∀ c : Nat, c ≤ (zE W).2.1 → en_V G Y_X10_lost (d + 3) wN wN K 4 [.ref 0, .int (iI (sumTo c (pnP (zS W).1.1 (zE W).2.2.1))), .int (iI c)] [] hi hl hr xc xs from L 0 (by omega)
  refine lp (zE W).2.1 ?_ (fun c hc ih => ?_)
  · apply s_X10_lost_4
    simp (disch := omega) only [B_X10_lost_4, r9, sh0, lt0, z0, z1, e0, e10, en_ops, en_opc, iI_add, iI_mul, iI_sub, jL_add, jL_mul, iI_le, iI_lt, iI_eq, iI_eq0, iI_lt0, iI_0le, iI_le0, iI_0lt, jL_iI, iI_jL, lc_eq, lc_lt, lc_le, lc_ge, lc_gt, Nat.sub_zero, Nat.zero_le, true_and, and_true, Nat.reduceAdd, Nat.reduceLeDiff]
    refine ⟨fun _ => H.1 rfl hi hl hr hI Fc.rf Fc.rf Fc.rf, fun e => absurd (Int.le_refl _) e⟩
  · rw [sumTo_s] at ih
    apply s_X10_lost_4
    simp (disch := omega) only [B_X10_lost_4, r9, sh0, lt0, z0, z1, e0, en_ops, en_opc, iI_add, iI_mul, iI_sub, jL_add, jL_mul, iI_le, iI_lt, iI_eq, iI_eq0, iI_lt0, iI_0le, iI_le0, iI_0lt, jL_iI, iI_jL, lc_eq, lc_lt, lc_le, lc_ge, lc_gt, Nat.sub_zero, Nat.zero_le, true_and, and_true, Nat.reduceAdd, Nat.reduceLeDiff]
    refine ⟨fun e => by omega, fun _ => t_inCell (d := d) is16 hS hX.1.1 (by omega) (by omega) (show -1 ≤ (2 : Int) ∧ (2 : Int) < 3 by omega) ?_⟩
    have ek : inP (zS W).1.1 (zE W).2.2.1 c (-1) 2 = pnP (zS W).1.1 (zE W).2.2.1 c := inP_k (k := 2) (by omega)
    rw [ek]
    simp (disch := omega) only [en_ops, en_opc, iI_add, iI_mul, iI_sub, jL_add, jL_mul, iI_le, iI_lt, iI_eq, iI_eq0, iI_lt0, iI_0le, iI_le0, iI_0lt, jL_iI, iI_jL, lc_eq, lc_lt, lc_le, lc_ge, lc_gt, Nat.sub_zero, Nat.zero_le, true_and, and_true, Nat.reduceAdd, Nat.reduceLeDiff]
    exact ih
def foP (f : Nat → Nat → Nat → Int) (nc z : Nat) (s : Int) : Int := sumTo nc (fun c => f c z 2 * s / 16)
theorem c_found {z s : Int} (hI : InvC G W hi hr) (hz : zOK n W) (h1 : 1 ≤ xc) (h6 : 6 ≤ xs) (hzr : iRg z) (hs : iRg s) (H : cEnd G W W (if inZ W z ∧ 1 ≤ s ∧ s ≤ 16 then 0 else 3) (.int (iI (foP (zS W).1.1 (zE W).2.1 z.toNat s))) K hi hl hr) : en_Call G (d + 3) xc xs Y_X10_found wN wN [.ref 0, .int (iI z), .int (iI s)] hi hl hr K := by
  obtain ⟨r9, hS, hX⟩ := hI.o
  obtain ⟨nc12, nz6⟩ := hz.c
  obtain ⟨z0, z1, -⟩ := is16.sh
  have e0 : hi 16 0 = iI ((zE W).2.1 : Int) := hX.1.1.1
  have no : ¬ (inZ W z ∧ 1 ≤ s ∧ s ≤ 16) → ∀ k ls, en_Call G (d + 2) 1 6 Y_X10_needRight wN wN [.ref 0, .int (iI 0)] hi hl hr (en_kk k (x_out K) ls [] (xc - 1) (xs - 6)) := fun e k ls => by
    rw [if_neg e] at H
    exact c_needRight (d := d + 1) hI hz (Nat.le_refl _) (Nat.le_refl _) (Or.inl rfl) (fun e => absurd e (by decide)) (fun _ hi' I' F' => H.2 2 (by omega) rfl hi' hl hr I' F' Fc.rf Fc.rf)
  apply en_X10_found
  simp (disch := omega) only [B_X10_found_0, sh0, lt0, en_ops, en_opc, iI_add, iI_mul, iI_sub, jL_add, jL_mul, iI_le, iI_lt, iI_eq, iI_eq0, iI_lt0, iI_0le, iI_le0, iI_0lt, jL_iI, iI_jL, lc_eq, lc_lt, lc_le, lc_ge, lc_gt, Nat.sub_zero, Nat.zero_le, true_and, and_true, Nat.reduceAdd, Nat.reduceLeDiff]
  refine c_isSize hI hz hzr ?_
  by_cases e1 : inZ W z
  · rw [if_pos e1]
    simp (disch := omega) only [sh0, lt0, en_ops, en_opc, iI_add, iI_mul, iI_sub, jL_add, jL_mul, iI_le, iI_lt, iI_eq, iI_eq0, iI_lt0, iI_0le, iI_le0, iI_0lt, jL_iI, iI_jL, lc_eq, lc_lt, lc_le, lc_ge, lc_gt, Nat.sub_zero, Nat.zero_le, true_and, and_true, Nat.reduceAdd, Nat.reduceLeDiff]
    refine ⟨fun e => absurd e (by decide), fun _ => c_isWithin hs (iRg_i (by decide) (by decide)) (iRg_i (by decide) (by decide)) ?_⟩
    by_cases e2 : 1 ≤ s ∧ s ≤ 16
    · rw [if_pos e2]
      rw [if_pos ⟨e1, e2⟩] at H
      simp (disch := omega) only [sh0, lt0, en_ops, en_opc, iI_add, iI_mul, iI_sub, jL_add, jL_mul, iI_le, iI_lt, iI_eq, iI_eq0, iI_lt0, iI_0le, iI_le0, iI_0lt, jL_iI, iI_jL, lc_eq, lc_lt, lc_le, lc_ge, lc_gt, Nat.sub_zero, Nat.zero_le, true_and, and_true, Nat.reduceAdd, Nat.reduceLeDiff]
      refine ⟨fun e => absurd e (by decide), fun _ => ⟨h1, h6, c_needRight hI hz (Nat.le_refl _) (Nat.le_refl _) (Or.inr rfl) (fun _ => ?_) (fun e => absurd e (by decide))⟩⟩
      simp (disch := omega) only [en_ops, en_opc, iI_add, iI_mul, iI_sub, jL_add, jL_mul, iI_le, iI_lt, iI_eq, iI_eq0, iI_lt0, iI_0le, iI_le0, iI_0lt, jL_iI, iI_jL, lc_eq, lc_lt, lc_le, lc_ge, lc_gt, Nat.sub_zero, Nat.zero_le, true_and, and_true, Nat.reduceAdd, Nat.reduceLeDiff]
      suffices L : ∀ c : Nat, c ≤ (zE W).2.1 → en_V G Y_X10_found (d + 3) wN wN K 32 [.ref 0, .int (iI z), .int (iI s), .int (iI (sumTo c (fun c => (zS W).1.1 c z.toNat 2 * s / 16))), .int (iI c)] [] hi hl hr (xc - 1) (xs - 6) from L 0 (by omega)
      refine lp (zE W).2.1 ?_ (fun c hc ih => ?_)
      · apply s_X10_found_32
        simp (disch := omega) only [B_X10_found_32, r9, sh0, lt0, z0, z1, e0, en_ops, en_opc, iI_add, iI_mul, iI_sub, jL_add, jL_mul, iI_le, iI_lt, iI_eq, iI_eq0, iI_lt0, iI_0le, iI_le0, iI_0lt, jL_iI, iI_jL, lc_eq, lc_lt, lc_le, lc_ge, lc_gt, Nat.sub_zero, Nat.zero_le, true_and, and_true, Nat.reduceAdd, Nat.reduceLeDiff]
        exact ⟨fun _ => H.1 rfl hi hl hr hI Fc.rf Fc.rf Fc.rf, fun e => absurd (Int.le_refl _) e⟩
      · rw [sumTo_s] at ih
        have fb := f_bd hz.f nz6 (c := c) (z := z.toNat) (k := 2) (by omega) (by omega)
        have p0 := Int.mul_nonneg fb.1 (show 0 ≤ s by omega)
        have p1 := Int.mul_le_mul_of_nonneg_left e2.2 fb.1
        apply s_X10_found_32
        simp (disch := omega) only [B_X10_found_32, r9, sh0, lt0, z0, z1, e0, en_ops, en_opc, iI_add, iI_mul, iI_sub, jL_add, jL_mul, iI_le, iI_lt, iI_eq, iI_eq0, iI_lt0, iI_0le, iI_le0, iI_0lt, jL_iI, iI_jL, lc_eq, lc_lt, lc_le, lc_ge, lc_gt, Nat.sub_zero, Nat.zero_le, true_and, and_true, Nat.reduceAdd, Nat.reduceLeDiff]
        refine ⟨fun e => by omega, fun _ => ?_⟩
        rw [show z = ((z.toNat : Nat) : Int) by omega]
        refine t_inCell (d := d) is16 hS hX.1.1 (by omega) (by omega) (show -1 ≤ (2 : Int) ∧ (2 : Int) < 3 by omega) ?_
        have ek : inP (zS W).1.1 (zE W).2.2.1 c (z.toNat : Int) 2 = (zS W).1.1 c z.toNat 2 := inP_1 (k := 2) (by omega) (by omega)
        rw [ek]
        simp (disch := omega) only [en_ops, en_opc, iI_add, iI_mul, iI_sub, jL_add, jL_mul, iI_le, iI_lt, iI_eq, iI_eq0, iI_lt0, iI_0le, iI_le0, iI_0lt, jL_iI, iI_jL, lc_eq, lc_lt, lc_le, lc_ge, lc_gt, Nat.sub_zero, Nat.zero_le, true_and, and_true, Nat.reduceAdd, Nat.reduceLeDiff]
        refine ⟨by decide, ?_⟩
        rw [iI_div p0 (by omega) (by decide) (by decide), iI_add]
        rw [show ((z.toNat : Nat) : Int) = z by omega]
        exact ih
    · rw [if_neg e2]
      simp (disch := omega) only [sh0, lt0, en_ops, en_opc, iI_add, iI_mul, iI_sub, jL_add, jL_mul, iI_le, iI_lt, iI_eq, iI_eq0, iI_lt0, iI_0le, iI_le0, iI_0lt, jL_iI, iI_jL, lc_eq, lc_lt, lc_le, lc_ge, lc_gt, Nat.sub_zero, Nat.zero_le, true_and, and_true, Nat.reduceAdd, Nat.reduceLeDiff]
      exact ⟨fun _ => ⟨h1, h6, no (fun g => e2 g.2) _ _⟩, fun e => (e (by first | trivial | rfl)).elim⟩
  · rw [if_neg e1]
    simp (disch := omega) only [sh0, lt0, en_ops, en_opc, iI_add, iI_mul, iI_sub, jL_add, jL_mul, iI_le, iI_lt, iI_eq, iI_eq0, iI_lt0, iI_0le, iI_le0, iI_0lt, jL_iI, iI_jL, lc_eq, lc_lt, lc_le, lc_ge, lc_gt, Nat.sub_zero, Nat.zero_le, true_and, and_true, Nat.reduceAdd, Nat.reduceLeDiff]
    exact ⟨fun _ => ⟨h1, h6, no (fun g => e1 g.1) _ _⟩, fun e => (e (by first | trivial | rfl)).elim⟩
def miP (f : Nat → Nat → Nat → Int) (nc z : Nat) : Int := if sumTo nc (fun c => f c z 2) = 0 then -1 else 1000 * sumTo nc (fun c => c * f c z 2) / sumTo nc (fun c => f c z 2)
theorem mi_bd {f : Nat → Nat → Nat → Int} {nc nz z : Nat} (hB : fB nc nz f) (b0 : nc ≤ 12) (b1 : nz ≤ 6) {c : Nat} (hc : c ≤ nc) : (0 ≤ sumTo c (fun c => f c z 2) ∧ sumTo c (fun c => f c z 2) ≤ 120000000) ∧ 0 ≤ sumTo c (fun c => (c : Int) * f c z 2) ∧ sumTo c (fun c => (c : Int) * f c z 2) ≤ 1440000000 ∧ sumTo c (fun c => (c : Int) * f c z 2) ≤ 12 * sumTo c (fun c => f c z 2) := by
  have a1 := sumTo_bd (n := c) (g := fun c => f c z 2) (b := 10000000) (fun i hi9 => f_bd hB b1 (by omega) (by omega))
  have a2 : sumTo c (fun c => (c : Int) * f c z 2) ≤ sumTo c (fun c => 12 * f c z 2) := sumTo_le (fun i hi9 => Int.mul_le_mul_of_nonneg_right (by omega) (hB.1 i z 2))
  rw [sumTo_mul] at a2
  have a3 := sumTo_nn (n := c) (f := fun c => (c : Int) * f c z 2) (fun i _ => Int.mul_nonneg (by omega) (hB.1 i z 2))
  omega
theorem c_miles {z : Int} (hI : InvC G W hi hr) (hz : zOK n W) (h1 : 1 ≤ xc) (h6 : 6 ≤ xs) (hzr : iRg z) (H : cEnd G W W (if inZ W z then 0 else 3) (.int (iI (miP (zS W).1.1 (zE W).2.1 z.toNat))) K hi hl hr) : en_Call G (d + 3) xc xs Y_X10_miles wN wN [.ref 0, .int (iI z)] hi hl hr K := by
  obtain ⟨r9, hS, hX⟩ := hI.o
  obtain ⟨nc12, nz6⟩ := hz.c
  obtain ⟨z0, z1, -⟩ := is16.sh
  have e0 : hi 16 0 = iI ((zE W).2.1 : Int) := hX.1.1.1
  apply en_X10_miles
  simp (disch := omega) only [B_X10_miles_0, sh0, lt0, en_ops, en_opc, iI_add, iI_mul, iI_sub, jL_add, jL_mul, iI_le, iI_lt, iI_eq, iI_eq0, iI_lt0, iI_0le, iI_le0, iI_0lt, jL_iI, iI_jL, lc_eq, lc_lt, lc_le, lc_ge, lc_gt, Nat.sub_zero, Nat.zero_le, true_and, and_true, Nat.reduceAdd, Nat.reduceLeDiff]
  refine c_isSize hI hz hzr ?_
  by_cases e1 : inZ W z
  · rw [if_pos e1]
    rw [if_pos e1] at H
    simp (disch := omega) only [sh0, lt0, en_ops, en_opc, iI_add, iI_mul, iI_sub, jL_add, jL_mul, iI_le, iI_lt, iI_eq, iI_eq0, iI_lt0, iI_0le, iI_le0, iI_0lt, jL_iI, iI_jL, lc_eq, lc_lt, lc_le, lc_ge, lc_gt, Nat.sub_zero, Nat.zero_le, true_and, and_true, Nat.reduceAdd, Nat.reduceLeDiff]
    refine ⟨h1, h6, c_needRight hI hz (Nat.le_refl _) (Nat.le_refl _) (Or.inr rfl) (fun _ => ?_) (fun e => absurd e (by decide))⟩
    simp (disch := omega) only [en_ops, en_opc, iI_add, iI_mul, iI_sub, jL_add, jL_mul, iI_le, iI_lt, iI_eq, iI_eq0, iI_lt0, iI_0le, iI_le0, iI_0lt, jL_iI, iI_jL, lc_eq, lc_lt, lc_le, lc_ge, lc_gt, Nat.sub_zero, Nat.zero_le, true_and, and_true, Nat.reduceAdd, Nat.reduceLeDiff]
    suffices L : ∀ c : Nat, c ≤ (zE W).2.1 → ∀ x7 : Value, en_V G Y_X10_miles (d + 3) wN wN K 17 [.ref 0, .int (iI z), .long (jL (sumTo c (fun c => (zS W).1.1 c z.toNat 2))), jk, .long (jL (sumTo c (fun c => (c : Int) * (zS W).1.1 c z.toNat 2))), jk, .int (iI c), x7] [] hi hl hr (xc - 1) (xs - 6) from L 0 (by omega) _
    refine lp (zE W).2.1 (fun x7 => ?_) (fun c hc ih x7 => ?_)
    · have bd := mi_bd (z := z.toNat) hz.f nc12 nz6 (Nat.le_refl _)
      have Hx := H.1 rfl hi hl hr hI Fc.rf Fc.rf Fc.rf
      unfold miP at Hx
      apply s_X10_miles_17
      simp (disch := omega) only [B_X10_miles_17, r9, sh0, lt0, z0, z1, e0, en_ops, en_opc, iI_add, iI_mul, iI_sub, jL_add, jL_mul, iI_le, iI_lt, iI_eq, iI_eq0, iI_lt0, iI_0le, iI_le0, iI_0lt, jL_iI, iI_jL, lc_eq, lc_lt, lc_le, lc_ge, lc_gt, Nat.sub_zero, Nat.zero_le, true_and, and_true, Nat.reduceAdd, Nat.reduceLeDiff]
      refine ⟨fun _ => ⟨fun e => ⟨by rw [jL_eq0 (by omega) (by omega)]; omega, ?_⟩, fun e => ?_⟩, fun e => absurd (Int.le_refl _) e⟩
      · rw [jL_div (by omega) (by omega) (by omega) (by omega)]
        rw [if_neg (by omega)] at Hx
        simp (disch := omega) only [en_ops, en_opc, iI_add, iI_mul, iI_sub, jL_add, jL_mul, iI_le, iI_lt, iI_eq, iI_eq0, iI_lt0, iI_0le, iI_le0, iI_0lt, jL_iI, iI_jL, lc_eq, lc_lt, lc_le, lc_ge, lc_gt, Nat.sub_zero, Nat.zero_le, true_and, and_true, Nat.reduceAdd, Nat.reduceLeDiff]
        exact Hx
      · rw [if_pos (by omega)] at Hx; exact Hx
    · rw [sumTo_s, sumTo_s] at ih
      have fb := f_bd hz.f nz6 (c := c) (z := z.toNat) (k := 2) (by omega) (by omega)
      apply s_X10_miles_17
      simp (disch := omega) only [B_X10_miles_17, r9, sh0, lt0, z0, z1, e0, en_ops, en_opc, iI_add, iI_mul, iI_sub, jL_add, jL_mul, iI_le, iI_lt, iI_eq, iI_eq0, iI_lt0, iI_0le, iI_le0, iI_0lt, jL_iI, iI_jL, lc_eq, lc_lt, lc_le, lc_ge, lc_gt, Nat.sub_zero, Nat.zero_le, true_and, and_true, Nat.reduceAdd, Nat.reduceLeDiff]
      refine ⟨fun e => by omega, fun _ => ?_⟩
      rw [show z = ((z.toNat : Nat) : Int) by omega]
      refine t_inCell (d := d) is16 hS hX.1.1 (by omega) (by omega) (show -1 ≤ (2 : Int) ∧ (2 : Int) < 3 by omega) ?_
      have ek : inP (zS W).1.1 (zE W).2.2.1 c (z.toNat : Int) 2 = (zS W).1.1 c z.toNat 2 := inP_1 (k := 2) (by omega) (by omega)
      rw [ek]
      simp (disch := omega) only [en_ops, en_opc, iI_add, iI_mul, iI_sub, jL_add, jL_mul, iI_le, iI_lt, iI_eq, iI_eq0, iI_lt0, iI_0le, iI_le0, iI_0lt, jL_iI, iI_jL, lc_eq, lc_lt, lc_le, lc_ge, lc_gt, Nat.sub_zero, Nat.zero_le, true_and, and_true, Nat.reduceAdd, Nat.reduceLeDiff]
      rw [show ((z.toNat : Nat) : Int) = z by omega]
      exact ih _
  · rw [if_neg e1]
    rw [if_neg e1] at H
    simp (disch := omega) only [sh0, lt0, en_ops, en_opc, iI_add, iI_mul, iI_sub, jL_add, jL_mul, iI_le, iI_lt, iI_eq, iI_eq0, iI_lt0, iI_0le, iI_le0, iI_0lt, jL_iI, iI_jL, lc_eq, lc_lt, lc_le, lc_ge, lc_gt, Nat.sub_zero, Nat.zero_le, true_and, and_true, Nat.reduceAdd, Nat.reduceLeDiff]
    exact ⟨h1, h6, c_needRight hI hz (Nat.le_refl _) (Nat.le_refl _) (Or.inl rfl) (fun e => absurd e (by decide)) (fun _ hi' I' F' => H.2 2 (by omega) rfl hi' hl hr I' F' Fc.rf Fc.rf)⟩
theorem tsw_toInt {w : Int} (h : iRg w) : (iI w).toInt = w := iI_toInt h.1 h.2
def tdP (W : zW) (w : Int) : Int := if w = 0 then (zE W).2.1 else if w = 1 then (zE W).2.2.1 else if w = 2 then (zE W).2.2.2.2.2.1 else if w = 3 then (zE W).2.2.2.2.2.2.2 else if w = 4 then zNl W else if w = 5 then zNy W else (zS W).1.2.2.2.2.2
theorem c_told {w : Int} (hI : InvC G W hi hr) (hz : zOK n W) (h1 : 1 ≤ xc) (h6 : 6 ≤ xs) (hw : iRg w) (H : cEnd G W W (if 0 ≤ w ∧ w ≤ 6 then 0 else 3) (.int (iI (tdP W w))) K hi hl hr) : en_Call G (d + 2) xc xs Y_X10_told wN wN [.ref 0, .int (iI w)] hi hl hr K := by
  obtain ⟨pl, hR, hN⟩ := id hI
  obtain ⟨r9, hS, hX⟩ := hI.o
  have r3 := hR.1.2.1
  have hpl := hR.2.1.2.2.1
  obtain ⟨l0, -⟩ := hpl.sh
  have lq : pl < 134 := by have := hpl.sh.2.2.2.2.2.2.1; omega
  obtain ⟨z0, z1, -⟩ := is16.sh
  have e0 : hi 16 0 = iI ((zE W).2.1 : Int) := hX.1.1.1
  have e1 : hi 16 1 = iI ((zE W).2.2.1 : Int) := hX.1.1.2.1
  have e11 : hi 16 11 = iI (zS W).1.2.2.2.2.2 := hX.1.2.2.2.2.2.2
  have s6 : hi pl 6 = iI ((zE W).2.2.2.2.2.1 : Int) := hN.2.2.2.2.2.2.2.2.1.1.1
  have s8 : hi pl 8 = iI ((zE W).2.2.2.2.2.2.2 : Int) := hN.2.2.2.2.2.2.2.2.1.2.1.1
  have n6 := hN.2.2.1
  have n8 := hN.2.2.2.1
  have hwi := tsw_toInt hw
  apply en_X10_told
  simp (disch := omega) only [B_X10_told_0, sh0, lt0, en_ops, en_opc, iI_add, iI_mul, iI_sub, jL_add, jL_mul, iI_le, iI_lt, iI_eq, iI_eq0, iI_lt0, iI_0le, iI_le0, iI_0lt, jL_iI, iI_jL, lc_eq, lc_lt, lc_le, lc_ge, lc_gt, Nat.sub_zero, Nat.zero_le, true_and, and_true, Nat.reduceAdd, Nat.reduceLeDiff]
  refine c_isWithin hw (iRg_i (by decide) (by decide)) (iRg_i (by decide) (by decide)) ?_
  by_cases e2 : 0 ≤ w ∧ w ≤ 6
  · rw [if_pos e2]
    rw [if_pos e2] at H
    simp (disch := omega) only [sh0, lt0, en_ops, en_opc, iI_add, iI_mul, iI_sub, jL_add, jL_mul, iI_le, iI_lt, iI_eq, iI_eq0, iI_lt0, iI_0le, iI_le0, iI_0lt, jL_iI, iI_jL, lc_eq, lc_lt, lc_le, lc_ge, lc_gt, Nat.sub_zero, Nat.zero_le, true_and, and_true, Nat.reduceAdd, Nat.reduceLeDiff]
    refine ⟨h1, h6, c_needRight hI hz (Nat.le_refl _) (Nat.le_refl _) (Or.inr rfl) (fun _ => ?_) (fun e => absurd e (by decide))⟩
    have Hx := H.1 rfl hi hl hr hI Fc.rf Fc.rf Fc.rf
    unfold tdP at Hx
    simp (disch := omega) only [hwi, en_ops, en_opc, iI_add, iI_mul, iI_sub, jL_add, jL_mul, iI_le, iI_lt, iI_eq, iI_eq0, iI_lt0, iI_0le, iI_le0, iI_0lt, jL_iI, iI_jL, lc_eq, lc_lt, lc_le, lc_ge, lc_gt, Nat.sub_zero, Nat.zero_le, true_and, and_true, Nat.reduceAdd, Nat.reduceLeDiff]
    refine ⟨fun e => ?_, fun j k hj e => ?_⟩
    · have w6 : w = 6 := by rcases e with e | e; omega; simp at e; omega
      subst w6
      apply s_X10_told_94
      simp (disch := omega) only [B_X10_told_94, r9, sh0, lt0, z0, z1, e11, en_ops, en_opc, iI_add, iI_mul, iI_sub, jL_add, jL_mul, iI_le, iI_lt, iI_eq, iI_eq0, iI_lt0, iI_0le, iI_le0, iI_0lt, jL_iI, iI_jL, lc_eq, lc_lt, lc_le, lc_ge, lc_gt, Nat.sub_zero, Nat.zero_le, true_and, and_true, Nat.reduceAdd, Nat.reduceLeDiff]
      exact Hx
    · rcases j with _ | _ | _ | _ | _ | _ | j
      · obtain rfl := Option.some.inj hj
        have w0 : w = 0 := by omega
        subst w0
        apply s_X10_told_52
        simp (disch := omega) only [B_X10_told_52, r9, sh0, lt0, z0, z1, e0, en_ops, en_opc, iI_add, iI_mul, iI_sub, jL_add, jL_mul, iI_le, iI_lt, iI_eq, iI_eq0, iI_lt0, iI_0le, iI_le0, iI_0lt, jL_iI, iI_jL, lc_eq, lc_lt, lc_le, lc_ge, lc_gt, Nat.sub_zero, Nat.zero_le, true_and, and_true, Nat.reduceAdd, Nat.reduceLeDiff]
        exact Hx
      · obtain rfl := Option.some.inj hj
        have w0 : w = 1 := by omega
        subst w0
        apply s_X10_told_60
        simp (disch := omega) only [B_X10_told_60, r9, sh0, lt0, z0, z1, e1, en_ops, en_opc, iI_add, iI_mul, iI_sub, jL_add, jL_mul, iI_le, iI_lt, iI_eq, iI_eq0, iI_lt0, iI_0le, iI_le0, iI_0lt, jL_iI, iI_jL, lc_eq, lc_lt, lc_le, lc_ge, lc_gt, Nat.sub_zero, Nat.zero_le, true_and, and_true, Nat.reduceAdd, Nat.reduceLeDiff]
        exact Hx
      · obtain rfl := Option.some.inj hj
        have w0 : w = 2 := by omega
        subst w0
        apply s_X10_told_68
        simp (disch := omega) only [B_X10_told_68, r3, sh0, lt0, l0, lq, s6, en_ops, en_opc, iI_add, iI_mul, iI_sub, jL_add, jL_mul, iI_le, iI_lt, iI_eq, iI_eq0, iI_lt0, iI_0le, iI_le0, iI_0lt, jL_iI, iI_jL, lc_eq, lc_lt, lc_le, lc_ge, lc_gt, Nat.sub_zero, Nat.zero_le, true_and, and_true, Nat.reduceAdd, Nat.reduceLeDiff]
        exact Hx
      · obtain rfl := Option.some.inj hj
        have w0 : w = 3 := by omega
        subst w0
        apply s_X10_told_76
        simp (disch := omega) only [B_X10_told_76, r3, sh0, lt0, l0, lq, s8, en_ops, en_opc, iI_add, iI_mul, iI_sub, jL_add, jL_mul, iI_le, iI_lt, iI_eq, iI_eq0, iI_lt0, iI_0le, iI_le0, iI_0lt, jL_iI, iI_jL, lc_eq, lc_lt, lc_le, lc_ge, lc_gt, Nat.sub_zero, Nat.zero_le, true_and, and_true, Nat.reduceAdd, Nat.reduceLeDiff]
        exact Hx
      · obtain rfl := Option.some.inj hj
        have w0 : w = 4 := by omega
        subst w0
        apply s_X10_told_84
        simp (disch := omega) only [B_X10_told_84, sh0, lt0, n6, en_ops, en_opc, iI_add, iI_mul, iI_sub, jL_add, jL_mul, iI_le, iI_lt, iI_eq, iI_eq0, iI_lt0, iI_0le, iI_le0, iI_0lt, jL_iI, iI_jL, lc_eq, lc_lt, lc_le, lc_ge, lc_gt, Nat.sub_zero, Nat.zero_le, true_and, and_true, Nat.reduceAdd, Nat.reduceLeDiff]
        exact Hx
      · obtain rfl := Option.some.inj hj
        have w0 : w = 5 := by omega
        subst w0
        apply s_X10_told_89
        simp (disch := omega) only [B_X10_told_89, sh0, lt0, n8, en_ops, en_opc, iI_add, iI_mul, iI_sub, jL_add, jL_mul, iI_le, iI_lt, iI_eq, iI_eq0, iI_lt0, iI_0le, iI_le0, iI_0lt, jL_iI, iI_jL, lc_eq, lc_lt, lc_le, lc_ge, lc_gt, Nat.sub_zero, Nat.zero_le, true_and, and_true, Nat.reduceAdd, Nat.reduceLeDiff]
        exact Hx
      · cases hj
  · rw [if_neg e2]
    rw [if_neg e2] at H
    simp (disch := omega) only [sh0, lt0, en_ops, en_opc, iI_add, iI_mul, iI_sub, jL_add, jL_mul, iI_le, iI_lt, iI_eq, iI_eq0, iI_lt0, iI_0le, iI_le0, iI_0lt, jL_iI, iI_jL, lc_eq, lc_lt, lc_le, lc_ge, lc_gt, Nat.sub_zero, Nat.zero_le, true_and, and_true, Nat.reduceAdd, Nat.reduceLeDiff]
    exact ⟨h1, h6, c_needRight hI hz (Nat.le_refl _) (Nat.le_refl _) (Or.inl rfl) (fun e => absurd e (by decide)) (fun _ hi' I' F' => H.2 2 (by omega) rfl hi' hl hr I' F' Fc.rf Fc.rf)⟩
end
