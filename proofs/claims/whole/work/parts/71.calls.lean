section
variable {G : en_G} {d : Nat} {K : en_K} {W : zW} {n : Nat} {hi : en_I} {hl : en_L} {hr : en_F} {xc xs : Nat}
/-- the i-th horn: from the cell c on, behind m of them -/
def hoP (f : Nat → Nat → Nat → Int) (nc nz : Nat) (i : Int) : Nat → Nat → Int → Int
  | 0, _, _ => -1
  | k + 1, c, m => if hnI f nc nz c = 1 then if i = m then (c : Int) else hoP f nc nz i k (c + 1) (m + 1) else hoP f nc nz i k (c + 1) m
theorem hn01 {f : Nat → Nat → Nat → Int} {nc nz c : Nat} : hnI f nc nz c = 0 ∨ hnI f nc nz c = 1 := by unfold hnI; split <;> omega
theorem iI_z32 {a : Int} (h1 : -4294967296 < a) (h2 : a < 4294967296) : (iI a = 0) = (a = 0) := by
  refine propext ⟨fun h => ?_, fun h => by rw [h]; rfl⟩
  have t : a.bmod 4294967296 = 0 := by
    have t2 := congrArg Int32.toInt h
    unfold iI at t2
    rw [Int32.toInt_ofInt] at t2
    exact t2
  rw [Int.bmod_def] at t
  split at t <;> omega
theorem c_horn {i : Int} (hI : InvC G W hi hr) (hz : zOK n W) (hi9 : iRg i) (H : cEnd G W W 0 (.int (iI (hoP (zS W).1.1 (zE W).2.1 (zE W).2.2.1 i (zE W).2.1 0 0))) K hi hl hr) : en_Call G (d + 3) xc xs Y_X10_horn wN wN [.ref 0, .int (iI i)] hi hl hr K := by
  obtain ⟨r9, hS, hX⟩ := hI.o
  obtain ⟨nc12, nz6⟩ := hz.c
  obtain ⟨z0, z1, -⟩ := is16.sh
  have e0 : hi 16 0 = iI ((zE W).2.1 : Int) := hX.1.1.1
  obtain ⟨i1, i2⟩ := hi9
  have Hx := H.1 rfl hi hl hr hI Fc.rf Fc.rf Fc.rf
  apply en_X10_horn
  simp (disch := omega) only [B_X10_horn_0, en_ops, en_opc, iI_add, iI_mul, iI_sub, jL_add, jL_mul, iI_le, iI_lt, iI_eq, iI_eq0, iI_lt0, iI_0le, iI_le0, iI_0lt, jL_iI, iI_jL, lc_eq, lc_lt, lc_le, lc_ge, lc_gt, Nat.sub_zero, Nat.zero_le, true_and, and_true, Nat.reduceAdd, Nat.reduceLeDiff]
  suffices L : ∀ k c : Nat, k + c = (zE W).2.1 → ∀ m : Int, 0 ≤ m ∧ m ≤ c → hoP (zS W).1.1 (zE W).2.1 (zE W).2.2.1 i k c m = hoP (zS W).1.1 (zE W).2.1 (zE W).2.2.1 i (zE W).2.1 0 0 → en_V G Y_X10_horn (d + 3) wN wN K 4 [.ref 0, .int (iI i), .int (iI (i - m)), .int (iI (c : Int))] [] hi hl hr xc xs by
    have := L (zE W).2.1 0 (Nat.add_zero _) 0 (by omega) rfl
    rw [Int.sub_zero] at this
    exact this
  intro k
  induction k with
  | zero =>
    intro c hc m hm e9
    rw [← e9] at Hx
    have ec : c = (zE W).2.1 := by omega
    apply s_X10_horn_4
    simp (disch := omega) only [B_X10_horn_4, r9, sh0, lt0, z0, z1, e0, en_ops, en_opc, iI_add, iI_mul, iI_sub, jL_add, jL_mul, iI_le, iI_lt, iI_eq, iI_eq0, iI_lt0, iI_0le, iI_le0, iI_0lt, jL_iI, iI_jL, lc_eq, lc_lt, lc_le, lc_ge, lc_gt, Nat.sub_zero, Nat.zero_le, true_and, and_true, Nat.reduceAdd, Nat.reduceLeDiff]
    exact ⟨fun _ => Hx, fun e => by omega⟩
  | succ k ih =>
    intro c hc m hm e9
    have st : hoP (zS W).1.1 (zE W).2.1 (zE W).2.2.1 i (k + 1) c m = if hnI (zS W).1.1 (zE W).2.1 (zE W).2.2.1 c = 1 then if i = m then (c : Int) else hoP (zS W).1.1 (zE W).2.1 (zE W).2.2.1 i k (c + 1) (m + 1) else hoP (zS W).1.1 (zE W).2.1 (zE W).2.2.1 i k (c + 1) m := rfl
    rw [st] at e9
    have h01 := hn01 (f := (zS W).1.1) (nc := (zE W).2.1) (nz := (zE W).2.2.1) (c := c)
    apply s_X10_horn_4
    simp (disch := omega) only [B_X10_horn_4, r9, sh0, lt0, z0, z1, e0, en_ops, en_opc, iI_add, iI_mul, iI_sub, jL_add, jL_mul, iI_le, iI_lt, iI_eq, iI_eq0, iI_lt0, iI_0le, iI_le0, iI_0lt, jL_iI, iI_jL, lc_eq, lc_lt, lc_le, lc_ge, lc_gt, Nat.sub_zero, Nat.zero_le, true_and, and_true, Nat.reduceAdd, Nat.reduceLeDiff]
    refine ⟨fun e => by omega, fun _ => t_isHorn (d := d) is16 hS hX.1.1 hz.f (by omega) ?_⟩
    simp (disch := omega) only [en_ops, en_opc, iI_add, iI_mul, iI_sub, jL_add, jL_mul, iI_le, iI_lt, iI_eq, iI_eq0, iI_lt0, iI_0le, iI_le0, iI_0lt, jL_iI, iI_jL, lc_eq, lc_lt, lc_le, lc_ge, lc_gt, Nat.sub_zero, Nat.zero_le, true_and, and_true, Nat.reduceAdd, Nat.reduceLeDiff]
    have iz : (iI (i - m) = 0) = (i - m = 0) := iI_z32 (by omega) (by omega)
    refine ⟨fun e => ?_, fun e => ?_⟩
    · rw [if_neg (by omega)] at e9
      exact ih (c + 1) (by omega) m (by omega) e9
    · rw [if_pos (by omega)] at e9
      simp only [iz]
      refine ⟨fun e2 => ?_, fun e2 => ?_⟩
      · rw [if_neg (by omega)] at e9
        have := ih (c + 1) (by omega) (m + 1) (by omega) e9
        rw [show i - (m + 1) = i - m + -1 by omega] at this
        exact this
      · rw [if_pos (by omega)] at e9
        rw [← e9] at Hx
        exact Hx
def orP (W : zW) (w : Int) : Int := if w = 0 then prP (zS W).1.1 (zE W).2.1 (zE W).2.2.1 1 else if w = 1 then prP (zS W).1.1 (zE W).2.1 (zE W).2.2.1 0 else if w = 2 then sumTo (zE W).2.1 (hnI (zS W).1.1 (zE W).2.1 (zE W).2.2.1) else sumTo (zE W).2.1 (knI (zS W).1.1 (zE W).2.1 (zE W).2.2.1)
theorem c_order {w : Int} (hI : InvC G W hi hr) (hz : zOK n W) (h1 : 1 ≤ xc) (h6 : 6 ≤ xs) (hw : iRg w) (H : cEnd G W W (if 0 ≤ w ∧ w ≤ 3 then 0 else 3) (.int (iI (orP W w))) K hi hl hr) : en_Call G (d + 6) xc xs Y_X10_order wN wN [.ref 0, .int (iI w)] hi hl hr K := by
  obtain ⟨r9, hS, hX⟩ := hI.o
  obtain ⟨z0, z1, -⟩ := is16.sh
  have hwi := tsw_toInt hw
  apply en_X10_order
  simp (disch := omega) only [B_X10_order_0, sh0, lt0, en_ops, en_opc, iI_add, iI_mul, iI_sub, jL_add, jL_mul, iI_le, iI_lt, iI_eq, iI_eq0, iI_lt0, iI_0le, iI_le0, iI_0lt, jL_iI, iI_jL, lc_eq, lc_lt, lc_le, lc_ge, lc_gt, Nat.sub_zero, Nat.zero_le, true_and, and_true, Nat.reduceAdd, Nat.reduceLeDiff]
  refine c_isWithin hw (iRg_i (by decide) (by decide)) (iRg_i (by decide) (by decide)) ?_
  by_cases e2 : 0 ≤ w ∧ w ≤ 3
  · rw [if_pos e2]
    rw [if_pos e2] at H
    simp (disch := omega) only [sh0, lt0, en_ops, en_opc, iI_add, iI_mul, iI_sub, jL_add, jL_mul, iI_le, iI_lt, iI_eq, iI_eq0, iI_lt0, iI_0le, iI_le0, iI_0lt, jL_iI, iI_jL, lc_eq, lc_lt, lc_le, lc_ge, lc_gt, Nat.sub_zero, Nat.zero_le, true_and, and_true, Nat.reduceAdd, Nat.reduceLeDiff]
    refine ⟨h1, h6, c_needRight hI hz (Nat.le_refl _) (Nat.le_refl _) (Or.inr rfl) (fun _ => ?_) (fun e => absurd e (by decide))⟩
    have Hx := H.1 rfl hi hl hr hI Fc.rf Fc.rf Fc.rf
    unfold orP at Hx
    simp (disch := omega) only [hwi, en_ops, en_opc, iI_add, iI_mul, iI_sub, jL_add, jL_mul, iI_le, iI_lt, iI_eq, iI_eq0, iI_lt0, iI_0le, iI_le0, iI_0lt, jL_iI, iI_jL, lc_eq, lc_lt, lc_le, lc_ge, lc_gt, Nat.sub_zero, Nat.zero_le, true_and, and_true, Nat.reduceAdd, Nat.reduceLeDiff]
    refine ⟨fun e => ?_, fun j k hj e => ?_⟩
    · have w6 : w = 3 := by rcases e with e | e; omega; simp at e; omega
      subst w6
      apply s_X10_order_62
      simp (disch := omega) only [B_X10_order_62, r9, sh0, lt0, z0, z1, en_ops, en_opc, iI_add, iI_mul, iI_sub, jL_add, jL_mul, iI_le, iI_lt, iI_eq, iI_eq0, iI_lt0, iI_0le, iI_le0, iI_0lt, jL_iI, iI_jL, lc_eq, lc_lt, lc_le, lc_ge, lc_gt, Nat.sub_zero, Nat.zero_le, true_and, and_true, Nat.reduceAdd, Nat.reduceLeDiff]
      refine tS_known (d := d) is16 hS hX.1.1 hz.f ?_
      simp (disch := omega) only [en_ops, en_opc, iI_add, iI_mul, iI_sub, jL_add, jL_mul, iI_le, iI_lt, iI_eq, iI_eq0, iI_lt0, iI_0le, iI_le0, iI_0lt, jL_iI, iI_jL, lc_eq, lc_lt, lc_le, lc_ge, lc_gt, Nat.sub_zero, Nat.zero_le, true_and, and_true, Nat.reduceAdd, Nat.reduceLeDiff]
      exact Hx
    · rcases j with _ | _ | _ | j
      · obtain rfl := Option.some.inj hj
        have w0 : w = 0 := by omega
        subst w0
        apply s_X10_order_36
        simp (disch := omega) only [B_X10_order_36, r9, sh0, lt0, z0, z1, en_ops, en_opc, iI_add, iI_mul, iI_sub, jL_add, jL_mul, iI_le, iI_lt, iI_eq, iI_eq0, iI_lt0, iI_0le, iI_le0, iI_0lt, jL_iI, iI_jL, lc_eq, lc_lt, lc_le, lc_ge, lc_gt, Nat.sub_zero, Nat.zero_le, true_and, and_true, Nat.reduceAdd, Nat.reduceLeDiff]
        refine t_pairs (d := d + 1) (Or.inr rfl) is16 hS hX.1.1 hz.f ?_
        simp (disch := omega) only [en_ops, en_opc, iI_add, iI_mul, iI_sub, jL_add, jL_mul, iI_le, iI_lt, iI_eq, iI_eq0, iI_lt0, iI_0le, iI_le0, iI_0lt, jL_iI, iI_jL, lc_eq, lc_lt, lc_le, lc_ge, lc_gt, Nat.sub_zero, Nat.zero_le, true_and, and_true, Nat.reduceAdd, Nat.reduceLeDiff]
        exact Hx
      · obtain rfl := Option.some.inj hj
        have w0 : w = 1 := by omega
        subst w0
        apply s_X10_order_45
        simp (disch := omega) only [B_X10_order_45, r9, sh0, lt0, z0, z1, en_ops, en_opc, iI_add, iI_mul, iI_sub, jL_add, jL_mul, iI_le, iI_lt, iI_eq, iI_eq0, iI_lt0, iI_0le, iI_le0, iI_0lt, jL_iI, iI_jL, lc_eq, lc_lt, lc_le, lc_ge, lc_gt, Nat.sub_zero, Nat.zero_le, true_and, and_true, Nat.reduceAdd, Nat.reduceLeDiff]
        refine t_pairs (d := d + 1) (Or.inl rfl) is16 hS hX.1.1 hz.f ?_
        simp (disch := omega) only [en_ops, en_opc, iI_add, iI_mul, iI_sub, jL_add, jL_mul, iI_le, iI_lt, iI_eq, iI_eq0, iI_lt0, iI_0le, iI_le0, iI_0lt, jL_iI, iI_jL, lc_eq, lc_lt, lc_le, lc_ge, lc_gt, Nat.sub_zero, Nat.zero_le, true_and, and_true, Nat.reduceAdd, Nat.reduceLeDiff]
        exact Hx
      · obtain rfl := Option.some.inj hj
        have w0 : w = 2 := by omega
        subst w0
        apply s_X10_order_54
        simp (disch := omega) only [B_X10_order_54, r9, sh0, lt0, z0, z1, en_ops, en_opc, iI_add, iI_mul, iI_sub, jL_add, jL_mul, iI_le, iI_lt, iI_eq, iI_eq0, iI_lt0, iI_0le, iI_le0, iI_0lt, jL_iI, iI_jL, lc_eq, lc_lt, lc_le, lc_ge, lc_gt, Nat.sub_zero, Nat.zero_le, true_and, and_true, Nat.reduceAdd, Nat.reduceLeDiff]
        refine t_horns (d := d + 2) is16 hS hX.1.1 hz.f ?_
        simp (disch := omega) only [en_ops, en_opc, iI_add, iI_mul, iI_sub, jL_add, jL_mul, iI_le, iI_lt, iI_eq, iI_eq0, iI_lt0, iI_0le, iI_le0, iI_0lt, jL_iI, iI_jL, lc_eq, lc_lt, lc_le, lc_ge, lc_gt, Nat.sub_zero, Nat.zero_le, true_and, and_true, Nat.reduceAdd, Nat.reduceLeDiff]
        exact Hx
      · cases hj
  · rw [if_neg e2]
    rw [if_neg e2] at H
    simp (disch := omega) only [sh0, lt0, en_ops, en_opc, iI_add, iI_mul, iI_sub, jL_add, jL_mul, iI_le, iI_lt, iI_eq, iI_eq0, iI_lt0, iI_0le, iI_le0, iI_0lt, jL_iI, iI_jL, lc_eq, lc_lt, lc_le, lc_ge, lc_gt, Nat.sub_zero, Nat.zero_le, true_and, and_true, Nat.reduceAdd, Nat.reduceLeDiff]
    exact ⟨h1, h6, c_needRight hI hz (Nat.le_refl _) (Nat.le_refl _) (Or.inl rfl) (fun e => absurd e (by decide)) (fun _ hi' I' F' => H.2 2 (by omega) rfl hi' hl hr I' F' Fc.rf Fc.rf)⟩
def lkP2 (f : Nat → Nat → Nat → Int) (nc z k : Nat) (w : Int) : Int := if w = 0 then (riP (fun c => aP f c z) nc k : Int) else loKP nc (fun c => aP f c z) (riP (fun c => aP f c z) nc k)
theorem c_look {z k w : Int} (hI : InvC G W hi hr) (hz : zOK n W) (h1 : 1 ≤ xc) (h6 : 6 ≤ xs) (hzr : iRg z) (hk : iRg k) (hw : iRg w) (H : cEnd G W W (if inZ W z ∧ (1 ≤ k ∧ k ≤ (zE W).2.1) ∧ 0 ≤ w ∧ w ≤ 1 then 0 else 3) (.int (iI (lkP2 (zS W).1.1 (zE W).2.1 z.toNat k.toNat w))) K hi hl hr) : en_Call G (d + 4) xc xs Y_X10_look wN wN [.ref 0, .int (iI z), .int (iI k), .int (iI w)] hi hl hr K := by
  obtain ⟨r9, hS, hX⟩ := hI.o
  obtain ⟨nc12, nz6⟩ := hz.c
  obtain ⟨z0, z1, -⟩ := is16.sh
  have e0 : hi 16 0 = iI ((zE W).2.1 : Int) := hX.1.1.1
  have no : ¬ (inZ W z ∧ (1 ≤ k ∧ k ≤ (zE W).2.1) ∧ 0 ≤ w ∧ w ≤ 1) → en_V G Y_X10_look (d + 4) wN wN K 38 [.ref 0, .int (iI z), .int (iI k), .int (iI w), jk] [.int (iI 0), .ref 0] hi hl hr xc xs := fun e => by
    rw [if_neg e] at H
    apply s_X10_look_38
    simp (disch := omega) only [B_X10_look_38, sh0, lt0, en_ops, en_opc, iI_add, iI_mul, iI_sub, jL_add, jL_mul, iI_le, iI_lt, iI_eq, iI_eq0, iI_lt0, iI_0le, iI_le0, iI_0lt, jL_iI, iI_jL, lc_eq, lc_lt, lc_le, lc_ge, lc_gt, Nat.sub_zero, Nat.zero_le, true_and, and_true, Nat.reduceAdd, Nat.reduceLeDiff]
    exact ⟨h1, h6, c_needRight hI hz (Nat.le_refl _) (Nat.le_refl _) (Or.inl rfl) (fun e => absurd e (by decide)) (fun _ hi' I' F' => H.2 2 (by omega) rfl hi' hl hr I' F' Fc.rf Fc.rf)⟩
  apply en_X10_look
  simp (disch := omega) only [B_X10_look_0, sh0, lt0, en_ops, en_opc, iI_add, iI_mul, iI_sub, jL_add, jL_mul, iI_le, iI_lt, iI_eq, iI_eq0, iI_lt0, iI_0le, iI_le0, iI_0lt, jL_iI, iI_jL, lc_eq, lc_lt, lc_le, lc_ge, lc_gt, Nat.sub_zero, Nat.zero_le, true_and, and_true, Nat.reduceAdd, Nat.reduceLeDiff]
  refine c_isSize hI hz hzr ?_
  by_cases e1 : inZ W z
  · rw [if_pos e1]
    simp (disch := omega) only [r9, sh0, lt0, z0, z1, e0, en_ops, en_opc, iI_add, iI_mul, iI_sub, jL_add, jL_mul, iI_le, iI_lt, iI_eq, iI_eq0, iI_lt0, iI_0le, iI_le0, iI_0lt, jL_iI, iI_jL, lc_eq, lc_lt, lc_le, lc_ge, lc_gt, Nat.sub_zero, Nat.zero_le, true_and, and_true, Nat.reduceAdd, Nat.reduceLeDiff]
    refine ⟨fun e => absurd e (by decide), fun _ => c_isWithin hk (iRg_i (by decide) (by decide)) (iRg_n (by omega)) ?_⟩
    by_cases e2 : 1 ≤ k ∧ k ≤ (zE W).2.1
    · rw [if_pos e2]
      simp (disch := omega) only [en_ops, en_opc, iI_add, iI_mul, iI_sub, jL_add, jL_mul, iI_le, iI_lt, iI_eq, iI_eq0, iI_lt0, iI_0le, iI_le0, iI_0lt, jL_iI, iI_jL, lc_eq, lc_lt, lc_le, lc_ge, lc_gt, Nat.sub_zero, Nat.zero_le, true_and, and_true, Nat.reduceAdd, Nat.reduceLeDiff]
      refine ⟨fun e => absurd e (by decide), fun _ => c_isWithin hw (iRg_i (by decide) (by decide)) (iRg_i (by decide) (by decide)) ?_⟩
      by_cases e3 : 0 ≤ w ∧ w ≤ 1
      · rw [if_pos e3]
        rw [if_pos ⟨e1, e2, e3⟩] at H
        simp (disch := omega) only [en_ops, en_opc, iI_add, iI_mul, iI_sub, jL_add, jL_mul, iI_le, iI_lt, iI_eq, iI_eq0, iI_lt0, iI_0le, iI_le0, iI_0lt, jL_iI, iI_jL, lc_eq, lc_lt, lc_le, lc_ge, lc_gt, Nat.sub_zero, Nat.zero_le, true_and, and_true, Nat.reduceAdd, Nat.reduceLeDiff]
        refine ⟨fun e => absurd e (by decide), fun _ => ?_⟩
        have Hx := H.1 rfl hi hl hr hI Fc.rf Fc.rf Fc.rf
        unfold lkP2 at Hx
        apply s_X10_look_38
        simp (disch := omega) only [B_X10_look_38, sh0, lt0, en_ops, en_opc, iI_add, iI_mul, iI_sub, jL_add, jL_mul, iI_le, iI_lt, iI_eq, iI_eq0, iI_lt0, iI_0le, iI_le0, iI_0lt, jL_iI, iI_jL, lc_eq, lc_lt, lc_le, lc_ge, lc_gt, Nat.sub_zero, Nat.zero_le, true_and, and_true, Nat.reduceAdd, Nat.reduceLeDiff]
        refine ⟨h1, h6, c_needRight hI hz (Nat.le_refl _) (Nat.le_refl _) (Or.inr rfl) (fun _ => ?_) (fun e => absurd e (by decide))⟩
        simp (disch := omega) only [r9, sh0, lt0, z0, z1, en_ops, en_opc, iI_add, iI_mul, iI_sub, jL_add, jL_mul, iI_le, iI_lt, iI_eq, iI_eq0, iI_lt0, iI_0le, iI_le0, iI_0lt, jL_iI, iI_jL, lc_eq, lc_lt, lc_le, lc_ge, lc_gt, Nat.sub_zero, Nat.zero_le, true_and, and_true, Nat.reduceAdd, Nat.reduceLeDiff]
        rw [show z = ((z.toNat : Nat) : Int) by omega, show k = ((k.toNat : Nat) : Int) by omega]
        refine t_richest (d := d) is16 hS hX.1.1 hz.f (by omega) (by omega) ?_
        simp (disch := omega) only [r9, sh0, lt0, z0, z1, en_ops, en_opc, iI_add, iI_mul, iI_sub, jL_add, jL_mul, iI_le, iI_lt, iI_eq, iI_eq0, iI_lt0, iI_0le, iI_le0, iI_0lt, jL_iI, iI_jL, lc_eq, lc_lt, lc_le, lc_ge, lc_gt, Nat.sub_zero, Nat.zero_le, true_and, and_true, Nat.reduceAdd, Nat.reduceLeDiff]
        refine ⟨fun e => t_partIn (d := d) is16 hS hX.1.1 hz.f (by omega) ?_, fun e => ?_⟩
        · rw [if_neg e] at Hx
          simp (disch := omega) only [en_ops, en_opc, iI_add, iI_mul, iI_sub, jL_add, jL_mul, iI_le, iI_lt, iI_eq, iI_eq0, iI_lt0, iI_0le, iI_le0, iI_0lt, jL_iI, iI_jL, lc_eq, lc_lt, lc_le, lc_ge, lc_gt, Nat.sub_zero, Nat.zero_le, true_and, and_true, Nat.reduceAdd, Nat.reduceLeDiff]
          exact Hx
        · rw [if_pos (by omega)] at Hx
          exact Hx
      · rw [if_neg e3]
        simp (disch := omega) only [en_ops, en_opc, iI_add, iI_mul, iI_sub, jL_add, jL_mul, iI_le, iI_lt, iI_eq, iI_eq0, iI_lt0, iI_0le, iI_le0, iI_0lt, jL_iI, iI_jL, lc_eq, lc_lt, lc_le, lc_ge, lc_gt, Nat.sub_zero, Nat.zero_le, true_and, and_true, Nat.reduceAdd, Nat.reduceLeDiff]
        exact ⟨fun _ => no (fun g => e3 g.2.2), fun e => (e (by first | trivial | rfl)).elim⟩
    · rw [if_neg e2]
      simp (disch := omega) only [en_ops, en_opc, iI_add, iI_mul, iI_sub, jL_add, jL_mul, iI_le, iI_lt, iI_eq, iI_eq0, iI_lt0, iI_0le, iI_le0, iI_0lt, jL_iI, iI_jL, lc_eq, lc_lt, lc_le, lc_ge, lc_gt, Nat.sub_zero, Nat.zero_le, true_and, and_true, Nat.reduceAdd, Nat.reduceLeDiff]
      exact ⟨fun _ => no (fun g => e2 g.2.1), fun e => (e (by first | trivial | rfl)).elim⟩
  · rw [if_neg e1]
    simp (disch := omega) only [sh0, lt0, en_ops, en_opc, iI_add, iI_mul, iI_sub, jL_add, jL_mul, iI_le, iI_lt, iI_eq, iI_eq0, iI_lt0, iI_0le, iI_le0, iI_0lt, jL_iI, iI_jL, lc_eq, lc_lt, lc_le, lc_ge, lc_gt, Nat.sub_zero, Nat.zero_le, true_and, and_true, Nat.reduceAdd, Nat.reduceLeDiff]
    exact ⟨fun _ => no (fun g => e1 g.1), fun e => (e (by first | trivial | rfl)).elim⟩
/-- how far shares are apart -/
def liI (f : Nat → Nat → Nat → Int) (nz c e i : Nat) : Int := if shP f nz c i - shP f nz e i < 0 then -(shP f nz c i - shP f nz e i) else shP f nz c i - shP f nz e i
theorem c_like {c e : Int} (hI : InvC G W hi hr) (hz : zOK n W) (h1 : 1 ≤ xc) (h6 : 6 ≤ xs) (hc : iRg c) (he : iRg e) (H : cEnd G W W (if inC W c ∧ inC W e then 0 else 1) (.int (iI (sumTo 18 (liI (zS W).1.1 (zE W).2.2.1 c.toNat e.toNat)))) K hi hl hr) : en_Call G (d + 3) xc xs Y_X10_like wN wN [.ref 0, .int (iI c), .int (iI e)] hi hl hr K := by
  obtain ⟨r9, hS, hX⟩ := hI.o
  obtain ⟨nc12, nz6⟩ := hz.c
  obtain ⟨z0, z1, -⟩ := is16.sh
  have no : ¬ (inC W c ∧ inC W e) → ∀ k ls, en_Call G (d + 2) 1 6 Y_X10_needPlace wN wN [.ref 0, .int (iI 0)] hi hl hr (en_kk k (x_out K) ls [] (xc - 1) (xs - 6)) := fun e k ls => by
    rw [if_neg e] at H
    exact c_needPlace (d := d + 1) hI hz (Nat.le_refl _) (Nat.le_refl _) (Or.inl rfl) (fun e => absurd e (by decide)) (fun _ hi' I' F' => H.2 0 (by omega) rfl hi' hl hr I' F' Fc.rf Fc.rf)
  apply en_X10_like
  simp (disch := omega) only [B_X10_like_0, sh0, lt0, en_ops, en_opc, iI_add, iI_mul, iI_sub, jL_add, jL_mul, iI_le, iI_lt, iI_eq, iI_eq0, iI_lt0, iI_0le, iI_le0, iI_0lt, jL_iI, iI_jL, lc_eq, lc_lt, lc_le, lc_ge, lc_gt, Nat.sub_zero, Nat.zero_le, true_and, and_true, Nat.reduceAdd, Nat.reduceLeDiff]
  refine c_isCell hI hz hc ?_
  by_cases e1 : inC W c
  · rw [if_pos e1]
    simp (disch := omega) only [sh0, lt0, en_ops, en_opc, iI_add, iI_mul, iI_sub, jL_add, jL_mul, iI_le, iI_lt, iI_eq, iI_eq0, iI_lt0, iI_0le, iI_le0, iI_0lt, jL_iI, iI_jL, lc_eq, lc_lt, lc_le, lc_ge, lc_gt, Nat.sub_zero, Nat.zero_le, true_and, and_true, Nat.reduceAdd, Nat.reduceLeDiff]
    refine ⟨fun e => absurd e (by decide), fun _ => c_isCell hI hz he ?_⟩
    by_cases e2 : inC W e
    · rw [if_pos e2]
      rw [if_pos ⟨e1, e2⟩] at H
      simp (disch := omega) only [sh0, lt0, en_ops, en_opc, iI_add, iI_mul, iI_sub, jL_add, jL_mul, iI_le, iI_lt, iI_eq, iI_eq0, iI_lt0, iI_0le, iI_le0, iI_0lt, jL_iI, iI_jL, lc_eq, lc_lt, lc_le, lc_ge, lc_gt, Nat.sub_zero, Nat.zero_le, true_and, and_true, Nat.reduceAdd, Nat.reduceLeDiff]
      refine ⟨fun e => absurd e (by decide), fun _ => ⟨h1, h6, c_needPlace hI hz (Nat.le_refl _) (Nat.le_refl _) (Or.inr rfl) (fun _ => ?_) (fun e => absurd e (by decide))⟩⟩
      simp (disch := omega) only [en_ops, en_opc, iI_add, iI_mul, iI_sub, jL_add, jL_mul, iI_le, iI_lt, iI_eq, iI_eq0, iI_lt0, iI_0le, iI_le0, iI_0lt, jL_iI, iI_jL, lc_eq, lc_lt, lc_le, lc_ge, lc_gt, Nat.sub_zero, Nat.zero_le, true_and, and_true, Nat.reduceAdd, Nat.reduceLeDiff]
      suffices L : ∀ i : Nat, i ≤ 18 → en_V G Y_X10_like (d + 3) wN wN K 30 [.ref 0, .int (iI c), .int (iI e), .int (iI (sumTo i (liI (zS W).1.1 (zE W).2.2.1 c.toNat e.toNat))), .int (iI (i : Int))] [] hi hl hr (xc - 1) (xs - 6) from L 0 (by omega)
      refine lp 18 ?_ (fun i hi9 ih => ?_)
      · apply s_X10_like_30
        simp (disch := omega) only [B_X10_like_30, en_ops, en_opc, iI_add, iI_mul, iI_sub, jL_add, jL_mul, iI_le, iI_lt, iI_eq, iI_eq0, iI_lt0, iI_0le, iI_le0, iI_0lt, jL_iI, iI_jL, lc_eq, lc_lt, lc_le, lc_ge, lc_gt, Nat.sub_zero, Nat.zero_le, true_and, and_true, Nat.reduceAdd, Nat.reduceLeDiff]
        exact ⟨fun _ => H.1 rfl hi hl hr hI Fc.rf Fc.rf Fc.rf, fun e => absurd (show (18 : Int) ≤ ((18 : Nat) : Int) by omega) e⟩
      · rw [sumTo_s] at ih
        have s1 := shP_r (c := c.toNat) hz.f nz6 hi9
        have s2 := shP_r (c := e.toNat) hz.f nz6 hi9
        apply s_X10_like_30
        simp (disch := omega) only [B_X10_like_30, r9, sh0, lt0, z0, z1, en_ops, en_opc, iI_add, iI_mul, iI_sub, jL_add, jL_mul, iI_le, iI_lt, iI_eq, iI_eq0, iI_lt0, iI_0le, iI_le0, iI_0lt, jL_iI, iI_jL, lc_eq, lc_lt, lc_le, lc_ge, lc_gt, Nat.sub_zero, Nat.zero_le, true_and, and_true, Nat.reduceAdd, Nat.reduceLeDiff]
        refine ⟨fun e => by omega, fun _ => ?_⟩
        rw [show iI c = iI ((c.toNat : Nat) : Int) from iI_eq_of (by omega), show iI e = iI ((e.toNat : Nat) : Int) from iI_eq_of (by omega)]
        rw [show iI c = iI ((c.toNat : Nat) : Int) from iI_eq_of (by omega), show iI e = iI ((e.toNat : Nat) : Int) from iI_eq_of (by omega)] at ih
        refine t_share (d := d) is16 hS hX.1.1 hz.f (by omega) hi9 ?_
        simp (disch := omega) only [r9, sh0, lt0, z0, z1, en_ops, en_opc, iI_add, iI_mul, iI_sub, jL_add, jL_mul, iI_le, iI_lt, iI_eq, iI_eq0, iI_lt0, iI_0le, iI_le0, iI_0lt, jL_iI, iI_jL, lc_eq, lc_lt, lc_le, lc_ge, lc_gt, Nat.sub_zero, Nat.zero_le, true_and, and_true, Nat.reduceAdd, Nat.reduceLeDiff]
        refine t_share (d := d) is16 hS hX.1.1 hz.f (by omega) hi9 ?_
        simp (disch := omega) only [en_ops, en_opc, iI_add, iI_mul, iI_sub, jL_add, jL_mul, iI_le, iI_lt, iI_eq, iI_eq0, iI_lt0, iI_0le, iI_le0, iI_0lt, jL_iI, iI_jL, lc_eq, lc_lt, lc_le, lc_ge, lc_gt, Nat.sub_zero, Nat.zero_le, true_and, and_true, Nat.reduceAdd, Nat.reduceLeDiff]
        refine t_abs (by omega) (by omega) ?_
        simp (disch := omega) only [en_ops, en_opc, iI_add, iI_mul, iI_sub, jL_add, jL_mul, iI_le, iI_lt, iI_eq, iI_eq0, iI_lt0, iI_0le, iI_le0, iI_0lt, jL_iI, iI_jL, lc_eq, lc_lt, lc_le, lc_ge, lc_gt, Nat.sub_zero, Nat.zero_le, true_and, and_true, Nat.reduceAdd, Nat.reduceLeDiff]
        exact ih
    · rw [if_neg e2]
      simp (disch := omega) only [sh0, lt0, en_ops, en_opc, iI_add, iI_mul, iI_sub, jL_add, jL_mul, iI_le, iI_lt, iI_eq, iI_eq0, iI_lt0, iI_0le, iI_le0, iI_0lt, jL_iI, iI_jL, lc_eq, lc_lt, lc_le, lc_ge, lc_gt, Nat.sub_zero, Nat.zero_le, true_and, and_true, Nat.reduceAdd, Nat.reduceLeDiff]
      exact ⟨fun _ => ⟨h1, h6, no (fun g => e2 g.2) _ _⟩, fun e => (e (by first | trivial | rfl)).elim⟩
  · rw [if_neg e1]
    simp (disch := omega) only [sh0, lt0, en_ops, en_opc, iI_add, iI_mul, iI_sub, jL_add, jL_mul, iI_le, iI_lt, iI_eq, iI_eq0, iI_lt0, iI_0le, iI_le0, iI_0lt, jL_iI, iI_jL, lc_eq, lc_lt, lc_le, lc_ge, lc_gt, Nat.sub_zero, Nat.zero_le, true_and, and_true, Nat.reduceAdd, Nat.reduceLeDiff]
    exact ⟨fun _ => ⟨h1, h6, no (fun g => e1 g.1) _ _⟩, fun e => (e (by first | trivial | rfl)).elim⟩
/-- the image, the hand, the tape, the samples that are told -/
def smpP (W : zW) : Int := sumTo (zE W).2.1 (fun c => sumTo (zE W).2.2.1 (smI (zS W).2.2.2 c))
def cnP (W : zW) (w : Int) : Int := if w = 0 then (zS W).2.1 else if w = 1 then zNi W else if w = 2 then zNt W else if w = 3 then smpP W else -1
theorem c_count {w : Int} (hI : InvC G W hi hr) (hz : zOK n W) (hw : iRg w) (H : cEnd G W W 0 (.int (iI (cnP W w))) K hi hl hr) : en_Call G (d + 2) xc xs Y_X10_count wN wN [.ref 0, .int (iI w)] hi hl hr K := by
  obtain ⟨pl, hR, hN⟩ := id hI
  obtain ⟨r9, hS, hX⟩ := hI.o
  obtain ⟨z0, z1, -⟩ := is16.sh
  have e8 : hi 16 8 = iI ((zS W).2.1 : Int) := hX.2.1
  have e1 := hN.1.1
  have e11 := hN.2.2.2.2.1
  have hwi := tsw_toInt hw
  have Hx := H.1 rfl hi hl hr hI Fc.rf Fc.rf Fc.rf
  unfold cnP at Hx
  apply en_X10_count
  simp (disch := omega) only [B_X10_count_0, hwi, en_ops, en_opc, iI_add, iI_mul, iI_sub, jL_add, jL_mul, iI_le, iI_lt, iI_eq, iI_eq0, iI_lt0, iI_0le, iI_le0, iI_0lt, jL_iI, iI_jL, lc_eq, lc_lt, lc_le, lc_ge, lc_gt, Nat.sub_zero, Nat.zero_le, true_and, and_true, Nat.reduceAdd, Nat.reduceLeDiff]
  refine ⟨fun e => ?_, fun j k hj e => ?_⟩
  · have e' : w < 0 ∨ 4 ≤ w := by simp at e; omega
    rw [if_neg (by omega), if_neg (by omega), if_neg (by omega), if_neg (by omega)] at Hx
    apply s_X10_count_58
    simp (disch := omega) only [B_X10_count_58, en_ops, en_opc, iI_add, iI_mul, iI_sub, jL_add, jL_mul, iI_le, iI_lt, iI_eq, iI_eq0, iI_lt0, iI_0le, iI_le0, iI_0lt, jL_iI, iI_jL, lc_eq, lc_lt, lc_le, lc_ge, lc_gt, Nat.sub_zero, Nat.zero_le, true_and, and_true, Nat.reduceAdd, Nat.reduceLeDiff]
    exact Hx
  · rcases j with _ | _ | _ | _ | j
    · obtain rfl := Option.some.inj hj
      have w0 : w = 0 := by omega
      subst w0
      apply s_X10_count_32
      simp (disch := omega) only [B_X10_count_32, r9, sh0, lt0, z0, z1, e8, en_ops, en_opc, iI_add, iI_mul, iI_sub, jL_add, jL_mul, iI_le, iI_lt, iI_eq, iI_eq0, iI_lt0, iI_0le, iI_le0, iI_0lt, jL_iI, iI_jL, lc_eq, lc_lt, lc_le, lc_ge, lc_gt, Nat.sub_zero, Nat.zero_le, true_and, and_true, Nat.reduceAdd, Nat.reduceLeDiff]
      exact Hx
    · obtain rfl := Option.some.inj hj
      have w0 : w = 1 := by omega
      subst w0
      apply s_X10_count_40
      simp (disch := omega) only [B_X10_count_40, sh0, lt0, e11, en_ops, en_opc, iI_add, iI_mul, iI_sub, jL_add, jL_mul, iI_le, iI_lt, iI_eq, iI_eq0, iI_lt0, iI_0le, iI_le0, iI_0lt, jL_iI, iI_jL, lc_eq, lc_lt, lc_le, lc_ge, lc_gt, Nat.sub_zero, Nat.zero_le, true_and, and_true, Nat.reduceAdd, Nat.reduceLeDiff]
      exact Hx
    · obtain rfl := Option.some.inj hj
      have w0 : w = 2 := by omega
      subst w0
      apply s_X10_count_45
      simp (disch := omega) only [B_X10_count_45, sh0, lt0, e1, en_ops, en_opc, iI_add, iI_mul, iI_sub, jL_add, jL_mul, iI_le, iI_lt, iI_eq, iI_eq0, iI_lt0, iI_0le, iI_le0, iI_0lt, jL_iI, iI_jL, lc_eq, lc_lt, lc_le, lc_ge, lc_gt, Nat.sub_zero, Nat.zero_le, true_and, and_true, Nat.reduceAdd, Nat.reduceLeDiff]
      exact Hx
    · obtain rfl := Option.some.inj hj
      have w0 : w = 3 := by omega
      subst w0
      apply s_X10_count_50
      simp (disch := omega) only [B_X10_count_50, r9, sh0, lt0, z0, z1, en_ops, en_opc, iI_add, iI_mul, iI_sub, jL_add, jL_mul, iI_le, iI_lt, iI_eq, iI_eq0, iI_lt0, iI_0le, iI_le0, iI_0lt, jL_iI, iI_jL, lc_eq, lc_lt, lc_le, lc_ge, lc_gt, Nat.sub_zero, Nat.zero_le, true_and, and_true, Nat.reduceAdd, Nat.reduceLeDiff]
      refine t_sampled (d := d) (m := (zS W).2.2.2) is16 hS hX.1.1 (fun c z hc hz9 => ⟨hX.2.2.2 c z hc hz9, hz.x.2.2.2.2.2.1 c z hc hz9⟩) ?_
      simp (disch := omega) only [en_ops, en_opc, iI_add, iI_mul, iI_sub, jL_add, jL_mul, iI_le, iI_lt, iI_eq, iI_eq0, iI_lt0, iI_0le, iI_le0, iI_0lt, jL_iI, iI_jL, lc_eq, lc_lt, lc_le, lc_ge, lc_gt, Nat.sub_zero, Nat.zero_le, true_and, and_true, Nat.reduceAdd, Nat.reduceLeDiff]
      exact Hx
    · cases hj
end
