section
variable {G : en_G} {d : Nat} {K : en_K} {W : zW} {n : Nat} {hi : en_I} {hl : en_L} {hr : en_F} {xc xs : Nat}
theorem c_raised {l : Int} {y : Int} {k : Int} {m : Int} {w : Int} (hI : InvC G W hi hr) (hz : zOK n W) (hn : n ≤ 512) (h1 : 4 ≤ xc) (h6 : 24 ≤ xs) (hlr : iRg l) (hyr : iRg y) (hk : iRg k) (hm : iRg m) (hw : iRg w) (H : cEnd G W W (if inL W l then if inY W y then if (1 ≤ k ∧ k ≤ 3) ∧ (k ≤ (zE W).2.1) ∧ (1 ≤ m ∧ m ≤ 20) ∧ (0 ≤ w ∧ w ≤ 1) then if isNow W then 0 else 4 else 3 else 2 else 2) (.int (iI (if w = 0 then (lsF (pkB k.toNat) (rsP (zVs W l.toNat) (zYs W y.toNat).2 (zYs W y.toNat).1 (zS W).1.2.2.2.2.2 (zS W).1.2.1 m (zE W).2.1) 0 (2 ^ (zE W).2.1)).1 else (lsF (pkB k.toNat) (rsP (zVs W l.toNat) (zYs W y.toNat).2 (zYs W y.toNat).1 (zS W).1.2.2.2.2.2 (zS W).1.2.1 m (zE W).2.1) 0 (2 ^ (zE W).2.1)).2))) K hi hl hr) : en_Call G (d + 9) xc xs Y_X10_raised wN wN [.ref 0, .int (iI l), .int (iI y), .int (iI k), .int (iI m), .int (iI w)] hi hl hr K := by
  obtain ⟨r9, hSh, hX⟩ := hI.o
  obtain ⟨nc12, nz6⟩ := hz.c
  have nl4 := hz.2.1
  have ny4 := hz.2.2.1
  have x0 : hi 16 0 = iI ((zE W).2.1 : Int) := hX.1.1.1
  apply en_X10_raised
  simp (disch := omega) only [B_X10_raised_0, sh0, lt0, en_ops, en_opc, iI_add, iI_mul, iI_sub, jL_add, jL_mul, iI_le, iI_lt, iI_eq, iI_eq0, iI_lt0, iI_0le, iI_le0, iI_0lt, jL_iI, iI_jL, lc_eq, lc_lt, lc_le, lc_ge, lc_gt, Nat.sub_zero, Nat.zero_le, true_and, and_true, Nat.reduceAdd, Nat.reduceLeDiff]
  refine ⟨by omega, by omega, c_needLaw hI hz (by omega) (by omega) hlr (fun e1 => ?_) (fun e hi' I' F' => H.2 1 (by omega) (by rw [if_neg e]) hi' hl hr I' F' Fc.rf Fc.rf)⟩
  simp (disch := omega) only [sh0, lt0, en_ops, en_opc, iI_add, iI_mul, iI_sub, jL_add, jL_mul, iI_le, iI_lt, iI_eq, iI_eq0, iI_lt0, iI_0le, iI_le0, iI_0lt, jL_iI, iI_jL, lc_eq, lc_lt, lc_le, lc_ge, lc_gt, Nat.sub_zero, Nat.zero_le, true_and, and_true, Nat.reduceAdd, Nat.reduceLeDiff]
  refine ⟨by omega, by omega, c_needYear hI hz (by omega) (by omega) hyr (fun e2 => ?_) (fun e hi' I' F' => H.2 1 (by omega) (by rw [if_pos e1, if_neg e]) hi' hl hr I' F' Fc.rf Fc.rf)⟩
  simp (disch := omega) only [sh0, lt0, en_ops, en_opc, iI_add, iI_mul, iI_sub, jL_add, jL_mul, iI_le, iI_lt, iI_eq, iI_eq0, iI_lt0, iI_0le, iI_le0, iI_0lt, jL_iI, iI_jL, lc_eq, lc_lt, lc_le, lc_ge, lc_gt, Nat.sub_zero, Nat.zero_le, true_and, and_true, Nat.reduceAdd, Nat.reduceLeDiff]
  have no : ¬ ((1 ≤ k ∧ k ≤ 3) ∧ (k ≤ (zE W).2.1) ∧ (1 ≤ m ∧ m ≤ 20) ∧ (0 ≤ w ∧ w ≤ 1)) → en_V G Y_X10_raised (d + 9) wN wN K 57 [.ref 0, .int (iI l), .int (iI y), .int (iI k), .int (iI m), .int (iI w)] [.int (iI 0), .ref 0] hi hl hr (xc - 1 - 1) (xs - 6 - 6) := fun e3 => by
    apply s_X10_raised_57
    simp (disch := omega) only [B_X10_raised_57, sh0, lt0, en_ops, en_opc, iI_add, iI_mul, iI_sub, jL_add, jL_mul, iI_le, iI_lt, iI_eq, iI_eq0, iI_lt0, iI_0le, iI_le0, iI_0lt, jL_iI, iI_jL, lc_eq, lc_lt, lc_le, lc_ge, lc_gt, Nat.sub_zero, Nat.zero_le, true_and, and_true, Nat.reduceAdd, Nat.reduceLeDiff]
    exact ⟨by omega, by omega, c_needRight hI hz (by omega) (by omega) (Or.inl rfl) (fun e => absurd e (by decide)) (fun _ hi' I' F' => H.2 2 (by omega) (by rw [if_pos e1, if_pos e2, if_neg e3]) hi' hl hr I' F' Fc.rf Fc.rf)⟩
  refine c_isWithin hk (iRg_i (by decide) (by decide)) (iRg_i (by decide) (by decide)) ?_
  by_cases t1 : 1 ≤ k ∧ k ≤ 3
  · rw [if_pos t1]
    simp (disch := omega) only [sh0, lt0, r9, sh16, lt16, x0, en_ops, en_opc, iI_add, iI_mul, iI_sub, jL_add, jL_mul, iI_le, iI_lt, iI_eq, iI_eq0, iI_lt0, iI_0le, iI_le0, iI_0lt, jL_iI, iI_jL, lc_eq, lc_lt, lc_le, lc_ge, lc_gt, Nat.sub_zero, Nat.zero_le, true_and, and_true, Nat.reduceAdd, Nat.reduceLeDiff]
    refine ⟨fun e => absurd e (by decide), fun _ => ?_⟩
    refine ⟨fun e => no (fun g => absurd (g.2.1) (by omega)), fun e => ?_⟩
    have t2 : k ≤ (zE W).2.1 := by omega
    refine c_isWithin hm (iRg_i (by decide) (by decide)) (iRg_i (by decide) (by decide)) ?_
    by_cases t3 : 1 ≤ m ∧ m ≤ 20
    · rw [if_pos t3]
      simp (disch := omega) only [sh0, lt0, r9, sh16, lt16, x0, en_ops, en_opc, iI_add, iI_mul, iI_sub, jL_add, jL_mul, iI_le, iI_lt, iI_eq, iI_eq0, iI_lt0, iI_0le, iI_le0, iI_0lt, jL_iI, iI_jL, lc_eq, lc_lt, lc_le, lc_ge, lc_gt, Nat.sub_zero, Nat.zero_le, true_and, and_true, Nat.reduceAdd, Nat.reduceLeDiff]
      refine ⟨fun e => absurd e (by decide), fun _ => ?_⟩
      refine c_isWithin hw (iRg_i (by decide) (by decide)) (iRg_i (by decide) (by decide)) ?_
      by_cases t4 : 0 ≤ w ∧ w ≤ 1
      · rw [if_pos t4]
        simp (disch := omega) only [sh0, lt0, r9, sh16, lt16, x0, en_ops, en_opc, iI_add, iI_mul, iI_sub, jL_add, jL_mul, iI_le, iI_lt, iI_eq, iI_eq0, iI_lt0, iI_0le, iI_le0, iI_0lt, jL_iI, iI_jL, lc_eq, lc_lt, lc_le, lc_ge, lc_gt, Nat.sub_zero, Nat.zero_le, true_and, and_true, Nat.reduceAdd, Nat.reduceLeDiff]
        refine ⟨fun e => absurd e (by decide), fun _ => ?_⟩
        have e3 : (1 ≤ k ∧ k ≤ 3) ∧ (k ≤ (zE W).2.1) ∧ (1 ≤ m ∧ m ≤ 20) ∧ (0 ≤ w ∧ w ≤ 1) := ⟨t1, t2, t3, t4⟩
        apply s_X10_raised_57
        simp (disch := omega) only [B_X10_raised_57, sh0, lt0, en_ops, en_opc, iI_add, iI_mul, iI_sub, jL_add, jL_mul, iI_le, iI_lt, iI_eq, iI_eq0, iI_lt0, iI_0le, iI_le0, iI_0lt, jL_iI, iI_jL, lc_eq, lc_lt, lc_le, lc_ge, lc_gt, Nat.sub_zero, Nat.zero_le, true_and, and_true, Nat.reduceAdd, Nat.reduceLeDiff]
        refine ⟨by omega, by omega, c_needRight hI hz (by omega) (by omega) (Or.inr rfl) (fun _ => ?_) (fun e => absurd e (by decide))⟩
        simp (disch := omega) only [sh0, lt0, en_ops, en_opc, iI_add, iI_mul, iI_sub, jL_add, jL_mul, iI_le, iI_lt, iI_eq, iI_eq0, iI_lt0, iI_0le, iI_le0, iI_0lt, jL_iI, iI_jL, lc_eq, lc_lt, lc_le, lc_ge, lc_gt, Nat.sub_zero, Nat.zero_le, true_and, and_true, Nat.reduceAdd, Nat.reduceLeDiff]
        refine ⟨by omega, by omega, c_needHours hI hz (by omega) (by omega) (fun e4 => ?_) (fun e hi' I' F' => H.2 3 (by omega) (by rw [if_pos e1, if_pos e2, if_pos e3, if_neg e]) hi' hl hr I' F' Fc.rf Fc.rf)⟩
        obtain ⟨pl, ⟨hR, hN⟩, hT, hS, hE, hse, hq, hO, hy, hyR, hY, r14, r15, r5, r7, r16, r17⟩ := hI.go hz hn (l := l.toNat) (y := y.toNat) (by omega) (by omega) e4.1
        have Hx := H.1 (by rw [if_pos e1, if_pos e2, if_pos e3, if_pos e4])
        have x60 := hz.x.2.2.1 e4.1
        have hne : (lsF (pkB k.toNat) (rsP (zVs W l.toNat) (zYs W y.toNat).2 (zYs W y.toNat).1 (zS W).1.2.2.2.2.2 (zS W).1.2.1 m (zE W).2.1) 0 (2 ^ (zE W).2.1)).1 ≠ -1 := lsF_ne _ (pk_ex (by omega) (by omega) (by omega))
        simp (disch := omega) only [r5, r7, r9, r16, r17, sh0, lt0, sh14, lt14, sh15, lt15, sh38, lt38, sh34, lt34, sh16, lt16, sh39, lt39, en_ops, en_opc, iI_add, iI_mul, iI_sub, jL_add, jL_mul, iI_le, iI_lt, iI_eq, iI_eq0, iI_lt0, iI_0le, iI_le0, iI_0lt, jL_iI, iI_jL, lc_eq, lc_lt, lc_le, lc_ge, lc_gt, Nat.sub_zero, Nat.zero_le, true_and, and_true, Nat.reduceAdd, Nat.reduceLeDiff]
        refine ⟨l.toNat, iI_eq_of (by omega), by omega, 50 + 4 * l.toNat, r14, by omega, y.toNat, iI_eq_of (by omega), by omega, 66 + 5 * y.toNat, r15, by omega, ?_⟩
        rw [show k = ((k.toNat : Nat) : Int) by omega]
        refine t_raise (d := d + 3) (E := eL W l.toNat) (Y := (zYs W y.toNat).2) hT hS.1 hS.2.2.2.2.1 hS.2.2.2.2.2 hse.2.2.1 hE.1 hq hO (fun c hc => by have := (x60 c hc).2; omega) hy hyR hY (by omega) (by omega) (fun h8 F8 B8 C8 => ?_)
        have S8 : seH G pl (50 + 4 * l.toNat) (eL W l.toNat) h8 := by
          have p14 := hS.2.2.1.sh.2.2.2.2.2.2.1
          obtain ⟨⟨g0, g1, g2⟩, ⟨v0, v1, v2⟩, x3, x4⟩ := hse
          have ee : ∀ x, x < 34 ∨ x = 37 → h8 x = hi x := fun x a1 => F8 x (fun g => by unfold P367 at g; omega)
          exact ⟨⟨by rw [ee pl (by omega)]; exact g0, g1, fun i hi9 => by rw [ee (pl + 4) (by omega)]; exact g2 i hi9⟩, ⟨by rw [ee pl (by omega)]; exact v0, v1, fun i hi9 => by rw [ee (pl + 5) (by omega)]; exact v2 i hi9⟩, x3.mono hS.2.2.2.2.1 F8 (fun x g => by unfold P367 at g; omega), fun c z k hc hz hk => by rw [ee 37 (by omega)]; exact x4 c z k hc hz hk⟩
        have Hy := Hx h8 hl hr (InvC.back hR hN hz F8 (fun x g => by unfold P367 at g; omega) S8) (Fc.of F8 (fun x g => by unfold P367 at g; omega)) Fc.rf Fc.rf
        simp (disch := omega) only [r5, r7, r9, r16, r17, sh0, lt0, sh14, lt14, sh15, lt15, sh38, lt38, sh34, lt34, sh16, lt16, sh39, lt39, en_ops, en_opc, iI_add, iI_mul, iI_sub, jL_add, jL_mul, iI_le, iI_lt, iI_eq, iI_eq0, iI_lt0, iI_0le, iI_le0, iI_0lt, jL_iI, iI_jL, lc_eq, lc_lt, lc_le, lc_ge, lc_gt, Nat.sub_zero, Nat.zero_le, true_and, and_true, Nat.reduceAdd, Nat.reduceLeDiff]
        refine ⟨fun e => ?_, fun e => ?_⟩
        · rw [if_neg (by omega)] at Hy
          rw [C8 hne]
          exact Hy
        · rw [if_pos (by omega)] at Hy
          rw [B8]
          exact Hy
      · rw [if_neg t4]
        simp (disch := omega) only [sh0, lt0, en_ops, en_opc, iI_add, iI_mul, iI_sub, jL_add, jL_mul, iI_le, iI_lt, iI_eq, iI_eq0, iI_lt0, iI_0le, iI_le0, iI_0lt, jL_iI, iI_jL, lc_eq, lc_lt, lc_le, lc_ge, lc_gt, Nat.sub_zero, Nat.zero_le, true_and, and_true, Nat.reduceAdd, Nat.reduceLeDiff]
        exact ⟨fun _ => no (fun g => t4 g.2.2.2), fun e => (e (by first | trivial | rfl)).elim⟩
    · rw [if_neg t3]
      simp (disch := omega) only [sh0, lt0, en_ops, en_opc, iI_add, iI_mul, iI_sub, jL_add, jL_mul, iI_le, iI_lt, iI_eq, iI_eq0, iI_lt0, iI_0le, iI_le0, iI_0lt, jL_iI, iI_jL, lc_eq, lc_lt, lc_le, lc_ge, lc_gt, Nat.sub_zero, Nat.zero_le, true_and, and_true, Nat.reduceAdd, Nat.reduceLeDiff]
      exact ⟨fun _ => no (fun g => t3 g.2.2.1), fun e => (e (by first | trivial | rfl)).elim⟩
  · rw [if_neg t1]
    simp (disch := omega) only [sh0, lt0, en_ops, en_opc, iI_add, iI_mul, iI_sub, jL_add, jL_mul, iI_le, iI_lt, iI_eq, iI_eq0, iI_lt0, iI_0le, iI_le0, iI_0lt, jL_iI, iI_jL, lc_eq, lc_lt, lc_le, lc_ge, lc_gt, Nat.sub_zero, Nat.zero_le, true_and, and_true, Nat.reduceAdd, Nat.reduceLeDiff]
    exact ⟨fun _ => no (fun g => t1 g.1), fun e => (e (by first | trivial | rfl)).elim⟩
theorem c_walls {l : Int} {y : Int} {k : Int} {p : Int} {c : Int} {w : Int} (hI : InvC G W hi hr) (hz : zOK n W) (hn : n ≤ 512) (h1 : 5 ≤ xc) (h6 : 30 ≤ xs) (hlr : iRg l) (hyr : iRg y) (hk : iRg k) (hp : iRg p) (hc : iRg c) (hw : iRg w) (H : cEnd G W W (if inC W c then if inL W l then if inY W y then if (1 ≤ k ∧ k ≤ 3) ∧ (k ≤ (zE W).2.1 - 1) ∧ (1 ≤ p ∧ p ≤ 16) ∧ (0 ≤ w ∧ w ≤ 1) then if isNow W then 0 else 4 else 3 else 2 else 2 else 1) (.int (iI (if w = 0 then (gtF (pkB k.toNat) (wbG (eL W l.toNat) (zYs W y.toNat).2 (zYs W y.toNat).1 p c.toNat (zS W).1) 0 (2 ^ ((zE W).2.1 - 1))).1 else (gtF (pkB k.toNat) (wbG (eL W l.toNat) (zYs W y.toNat).2 (zYs W y.toNat).1 p c.toNat (zS W).1) 0 (2 ^ ((zE W).2.1 - 1))).2))) K hi hl hr) : en_Call G (d + 9) xc xs Y_X10_walls wN wN [.ref 0, .int (iI l), .int (iI y), .int (iI k), .int (iI p), .int (iI c), .int (iI w)] hi hl hr K := by
  obtain ⟨r9, hSh, hX⟩ := hI.o
  obtain ⟨nc12, nz6⟩ := hz.c
  have nl4 := hz.2.1
  have ny4 := hz.2.2.1
  have x0 : hi 16 0 = iI ((zE W).2.1 : Int) := hX.1.1.1
  apply en_X10_walls
  simp (disch := omega) only [B_X10_walls_0, sh0, lt0, en_ops, en_opc, iI_add, iI_mul, iI_sub, jL_add, jL_mul, iI_le, iI_lt, iI_eq, iI_eq0, iI_lt0, iI_0le, iI_le0, iI_0lt, jL_iI, iI_jL, lc_eq, lc_lt, lc_le, lc_ge, lc_gt, Nat.sub_zero, Nat.zero_le, true_and, and_true, Nat.reduceAdd, Nat.reduceLeDiff]
  refine c_isCell hI hz hc ?_
  by_cases e1 : inC W c
  · rw [if_pos e1]
    simp (disch := omega) only [sh0, lt0, en_ops, en_opc, iI_add, iI_mul, iI_sub, jL_add, jL_mul, iI_le, iI_lt, iI_eq, iI_eq0, iI_lt0, iI_0le, iI_le0, iI_0lt, jL_iI, iI_jL, lc_eq, lc_lt, lc_le, lc_ge, lc_gt, Nat.sub_zero, Nat.zero_le, true_and, and_true, Nat.reduceAdd, Nat.reduceLeDiff]
    refine ⟨by omega, by omega, c_needPlace hI hz (by omega) (by omega) (Or.inr rfl) (fun _ => ?_) (fun e => absurd e (by decide))⟩
    simp (disch := omega) only [sh0, lt0, en_ops, en_opc, iI_add, iI_mul, iI_sub, jL_add, jL_mul, iI_le, iI_lt, iI_eq, iI_eq0, iI_lt0, iI_0le, iI_le0, iI_0lt, jL_iI, iI_jL, lc_eq, lc_lt, lc_le, lc_ge, lc_gt, Nat.sub_zero, Nat.zero_le, true_and, and_true, Nat.reduceAdd, Nat.reduceLeDiff]
    refine ⟨by omega, by omega, c_needLaw hI hz (by omega) (by omega) hlr (fun e2 => ?_) (fun e hi' I' F' => H.2 1 (by omega) (by rw [if_pos e1, if_neg e]) hi' hl hr I' F' Fc.rf Fc.rf)⟩
    simp (disch := omega) only [sh0, lt0, en_ops, en_opc, iI_add, iI_mul, iI_sub, jL_add, jL_mul, iI_le, iI_lt, iI_eq, iI_eq0, iI_lt0, iI_0le, iI_le0, iI_0lt, jL_iI, iI_jL, lc_eq, lc_lt, lc_le, lc_ge, lc_gt, Nat.sub_zero, Nat.zero_le, true_and, and_true, Nat.reduceAdd, Nat.reduceLeDiff]
    refine ⟨by omega, by omega, c_needYear hI hz (by omega) (by omega) hyr (fun e3 => ?_) (fun e hi' I' F' => H.2 1 (by omega) (by rw [if_pos e1, if_pos e2, if_neg e]) hi' hl hr I' F' Fc.rf Fc.rf)⟩
    simp (disch := omega) only [sh0, lt0, en_ops, en_opc, iI_add, iI_mul, iI_sub, jL_add, jL_mul, iI_le, iI_lt, iI_eq, iI_eq0, iI_lt0, iI_0le, iI_le0, iI_0lt, jL_iI, iI_jL, lc_eq, lc_lt, lc_le, lc_ge, lc_gt, Nat.sub_zero, Nat.zero_le, true_and, and_true, Nat.reduceAdd, Nat.reduceLeDiff]
    have no : ¬ ((1 ≤ k ∧ k ≤ 3) ∧ (k ≤ (zE W).2.1 - 1) ∧ (1 ≤ p ∧ p ≤ 16) ∧ (0 ≤ w ∧ w ≤ 1)) → en_V G Y_X10_walls (d + 9) wN wN K 69 [.ref 0, .int (iI l), .int (iI y), .int (iI k), .int (iI p), .int (iI c), .int (iI w)] [.int (iI 0), .ref 0] hi hl hr (xc - 1 - 1 - 1) (xs - 6 - 6 - 6) := fun e4 => by
      apply s_X10_walls_69
      simp (disch := omega) only [B_X10_walls_69, sh0, lt0, en_ops, en_opc, iI_add, iI_mul, iI_sub, jL_add, jL_mul, iI_le, iI_lt, iI_eq, iI_eq0, iI_lt0, iI_0le, iI_le0, iI_0lt, jL_iI, iI_jL, lc_eq, lc_lt, lc_le, lc_ge, lc_gt, Nat.sub_zero, Nat.zero_le, true_and, and_true, Nat.reduceAdd, Nat.reduceLeDiff]
      exact ⟨by omega, by omega, c_needRight hI hz (by omega) (by omega) (Or.inl rfl) (fun e => absurd e (by decide)) (fun _ hi' I' F' => H.2 2 (by omega) (by rw [if_pos e1, if_pos e2, if_pos e3, if_neg e4]) hi' hl hr I' F' Fc.rf Fc.rf)⟩
    refine c_isWithin hk (iRg_i (by decide) (by decide)) (iRg_i (by decide) (by decide)) ?_
    by_cases t1 : 1 ≤ k ∧ k ≤ 3
    · rw [if_pos t1]
      simp (disch := omega) only [sh0, lt0, r9, sh16, lt16, x0, en_ops, en_opc, iI_add, iI_mul, iI_sub, jL_add, jL_mul, iI_le, iI_lt, iI_eq, iI_eq0, iI_lt0, iI_0le, iI_le0, iI_0lt, jL_iI, iI_jL, lc_eq, lc_lt, lc_le, lc_ge, lc_gt, Nat.sub_zero, Nat.zero_le, true_and, and_true, Nat.reduceAdd, Nat.reduceLeDiff]
      refine ⟨fun e => absurd e (by decide), fun _ => ?_⟩
      refine ⟨fun e => no (fun g => absurd (g.2.1) (by omega)), fun e => ?_⟩
      have t2 : k ≤ (zE W).2.1 - 1 := by omega
      refine c_isWithin hp (iRg_i (by decide) (by decide)) (iRg_i (by decide) (by decide)) ?_
      by_cases t3 : 1 ≤ p ∧ p ≤ 16
      · rw [if_pos t3]
        simp (disch := omega) only [sh0, lt0, r9, sh16, lt16, x0, en_ops, en_opc, iI_add, iI_mul, iI_sub, jL_add, jL_mul, iI_le, iI_lt, iI_eq, iI_eq0, iI_lt0, iI_0le, iI_le0, iI_0lt, jL_iI, iI_jL, lc_eq, lc_lt, lc_le, lc_ge, lc_gt, Nat.sub_zero, Nat.zero_le, true_and, and_true, Nat.reduceAdd, Nat.reduceLeDiff]
        refine ⟨fun e => absurd e (by decide), fun _ => ?_⟩
        refine c_isWithin hw (iRg_i (by decide) (by decide)) (iRg_i (by decide) (by decide)) ?_
        by_cases t4 : 0 ≤ w ∧ w ≤ 1
        · rw [if_pos t4]
          simp (disch := omega) only [sh0, lt0, r9, sh16, lt16, x0, en_ops, en_opc, iI_add, iI_mul, iI_sub, jL_add, jL_mul, iI_le, iI_lt, iI_eq, iI_eq0, iI_lt0, iI_0le, iI_le0, iI_0lt, jL_iI, iI_jL, lc_eq, lc_lt, lc_le, lc_ge, lc_gt, Nat.sub_zero, Nat.zero_le, true_and, and_true, Nat.reduceAdd, Nat.reduceLeDiff]
          refine ⟨fun e => absurd e (by decide), fun _ => ?_⟩
          have e4 : (1 ≤ k ∧ k ≤ 3) ∧ (k ≤ (zE W).2.1 - 1) ∧ (1 ≤ p ∧ p ≤ 16) ∧ (0 ≤ w ∧ w ≤ 1) := ⟨t1, t2, t3, t4⟩
          apply s_X10_walls_69
          simp (disch := omega) only [B_X10_walls_69, sh0, lt0, en_ops, en_opc, iI_add, iI_mul, iI_sub, jL_add, jL_mul, iI_le, iI_lt, iI_eq, iI_eq0, iI_lt0, iI_0le, iI_le0, iI_0lt, jL_iI, iI_jL, lc_eq, lc_lt, lc_le, lc_ge, lc_gt, Nat.sub_zero, Nat.zero_le, true_and, and_true, Nat.reduceAdd, Nat.reduceLeDiff]
          refine ⟨by omega, by omega, c_needRight hI hz (by omega) (by omega) (Or.inr rfl) (fun _ => ?_) (fun e => absurd e (by decide))⟩
          simp (disch := omega) only [sh0, lt0, en_ops, en_opc, iI_add, iI_mul, iI_sub, jL_add, jL_mul, iI_le, iI_lt, iI_eq, iI_eq0, iI_lt0, iI_0le, iI_le0, iI_0lt, jL_iI, iI_jL, lc_eq, lc_lt, lc_le, lc_ge, lc_gt, Nat.sub_zero, Nat.zero_le, true_and, and_true, Nat.reduceAdd, Nat.reduceLeDiff]
          refine ⟨by omega, by omega, c_needHours hI hz (by omega) (by omega) (fun e5 => ?_) (fun e hi' I' F' => H.2 3 (by omega) (by rw [if_pos e1, if_pos e2, if_pos e3, if_pos e4, if_neg e]) hi' hl hr I' F' Fc.rf Fc.rf)⟩
          obtain ⟨pl, ⟨hR, hN⟩, hT, hS, hE, hse, hq, hO, hy, hyR, hY, r14, r15, r5, r7, r16, r17⟩ := hI.go hz hn (l := l.toNat) (y := y.toNat) (by omega) (by omega) e5.1
          have Hx := H.1 (by rw [if_pos e1, if_pos e2, if_pos e3, if_pos e4, if_pos e5])
          have hne : (gtF (pkB k.toNat) (wbG (eL W l.toNat) (zYs W y.toNat).2 (zYs W y.toNat).1 p c.toNat (zS W).1) 0 (2 ^ ((zE W).2.1 - 1))).1 ≠ -1 := gtF_ne _ (pk_ex (by omega) (by omega) (by omega))
          simp (disch := omega) only [r5, r7, r9, r16, r17, sh0, lt0, sh14, lt14, sh15, lt15, sh38, lt38, sh34, lt34, sh16, lt16, sh39, lt39, en_ops, en_opc, iI_add, iI_mul, iI_sub, jL_add, jL_mul, iI_le, iI_lt, iI_eq, iI_eq0, iI_lt0, iI_0le, iI_le0, iI_0lt, jL_iI, iI_jL, lc_eq, lc_lt, lc_le, lc_ge, lc_gt, Nat.sub_zero, Nat.zero_le, true_and, and_true, Nat.reduceAdd, Nat.reduceLeDiff]
          refine ⟨l.toNat, iI_eq_of (by omega), by omega, 50 + 4 * l.toNat, r14, by omega, y.toNat, iI_eq_of (by omega), by omega, 66 + 5 * y.toNat, r15, by omega, ?_⟩
          rw [show k = ((k.toNat : Nat) : Int) by omega, show c = ((c.toNat : Nat) : Int) by omega]
          refine t_wall (d := d + 1) (E := eL W l.toNat) (Y := (zYs W y.toNat).2) hT hS hE hse hq hO hy hyR hY (by omega) (by omega) (by omega) (by show 1 ≤ (zE W).2.1; omega) (fun h8 F8 S8 B8 C8 => ?_)
          have Hy := Hx h8 hl hr (InvC.back hR hN hz F8 (fun x g => g.c) S8) (Fc.of F8 (fun x g => g.f)) Fc.rf Fc.rf
          simp (disch := omega) only [r5, r7, r9, r16, r17, sh0, lt0, sh14, lt14, sh15, lt15, sh38, lt38, sh34, lt34, sh16, lt16, sh39, lt39, en_ops, en_opc, iI_add, iI_mul, iI_sub, jL_add, jL_mul, iI_le, iI_lt, iI_eq, iI_eq0, iI_lt0, iI_0le, iI_le0, iI_0lt, jL_iI, iI_jL, lc_eq, lc_lt, lc_le, lc_ge, lc_gt, Nat.sub_zero, Nat.zero_le, true_and, and_true, Nat.reduceAdd, Nat.reduceLeDiff]
          refine ⟨fun e => ?_, fun e => ?_⟩
          · rw [if_neg (by omega)] at Hy
            rw [C8 hne]
            exact Hy
          · rw [if_pos (by omega)] at Hy
            rw [B8]
            exact Hy
        · rw [if_neg t4]
          simp (disch := omega) only [sh0, lt0, en_ops, en_opc, iI_add, iI_mul, iI_sub, jL_add, jL_mul, iI_le, iI_lt, iI_eq, iI_eq0, iI_lt0, iI_0le, iI_le0, iI_0lt, jL_iI, iI_jL, lc_eq, lc_lt, lc_le, lc_ge, lc_gt, Nat.sub_zero, Nat.zero_le, true_and, and_true, Nat.reduceAdd, Nat.reduceLeDiff]
          exact ⟨fun _ => no (fun g => t4 g.2.2.2), fun e => (e (by first | trivial | rfl)).elim⟩
      · rw [if_neg t3]
        simp (disch := omega) only [sh0, lt0, en_ops, en_opc, iI_add, iI_mul, iI_sub, jL_add, jL_mul, iI_le, iI_lt, iI_eq, iI_eq0, iI_lt0, iI_0le, iI_le0, iI_0lt, jL_iI, iI_jL, lc_eq, lc_lt, lc_le, lc_ge, lc_gt, Nat.sub_zero, Nat.zero_le, true_and, and_true, Nat.reduceAdd, Nat.reduceLeDiff]
        exact ⟨fun _ => no (fun g => t3 g.2.2.1), fun e => (e (by first | trivial | rfl)).elim⟩
    · rw [if_neg t1]
      simp (disch := omega) only [sh0, lt0, en_ops, en_opc, iI_add, iI_mul, iI_sub, jL_add, jL_mul, iI_le, iI_lt, iI_eq, iI_eq0, iI_lt0, iI_0le, iI_le0, iI_0lt, jL_iI, iI_jL, lc_eq, lc_lt, lc_le, lc_ge, lc_gt, Nat.sub_zero, Nat.zero_le, true_and, and_true, Nat.reduceAdd, Nat.reduceLeDiff]
      exact ⟨fun _ => no (fun g => t1 g.1), fun e => (e (by first | trivial | rfl)).elim⟩
  · rw [if_neg e1]
    simp (disch := omega) only [sh0, lt0, en_ops, en_opc, iI_add, iI_mul, iI_sub, jL_add, jL_mul, iI_le, iI_lt, iI_eq, iI_eq0, iI_lt0, iI_0le, iI_le0, iI_0lt, jL_iI, iI_jL, lc_eq, lc_lt, lc_le, lc_ge, lc_gt, Nat.sub_zero, Nat.zero_le, true_and, and_true, Nat.reduceAdd, Nat.reduceLeDiff]
    exact ⟨by omega, by omega, c_needPlace hI hz (by omega) (by omega) (Or.inl rfl) (fun e => absurd e (by decide)) (fun _ hi' I' F' => H.2 0 (by omega) (by rw [if_neg e1]) hi' hl hr I' F' Fc.rf Fc.rf)⟩
theorem c_brought {l : Int} {y : Int} {k : Int} {w : Int} (hI : InvC G W hi hr) (hz : zOK n W) (hn : n ≤ 512) (h1 : 4 ≤ xc) (h6 : 24 ≤ xs) (hlr : iRg l) (hyr : iRg y) (hk : iRg k) (hw : iRg w) (H : cEnd G W W (if inL W l then if inY W y then if (1 ≤ k ∧ k ≤ 999) ∧ (0 ≤ w ∧ w ≤ 1) then if isNow W then 0 else 4 else 3 else 2 else 2) (.int (iI (if w = 0 then (bgO (bgM (eL W l.toNat) (zYs W y.toNat).2 (zYs W y.toNat).1 k (zS W).1) (zE W).2.1 (zE W).2.1 (-1, prP (yrP (eL W l.toNat) (zYs W y.toNat).2 (zYs W y.toNat).1 (zS W).1).1 (zE W).2.1 (zE W).2.2.1 1)).1 else (bgO (bgM (eL W l.toNat) (zYs W y.toNat).2 (zYs W y.toNat).1 k (zS W).1) (zE W).2.1 (zE W).2.1 (-1, prP (yrP (eL W l.toNat) (zYs W y.toNat).2 (zYs W y.toNat).1 (zS W).1).1 (zE W).2.1 (zE W).2.2.1 1)).2))) K hi hl hr) : en_Call G (d + 9) xc xs Y_X10_brought wN wN [.ref 0, .int (iI l), .int (iI y), .int (iI k), .int (iI w)] hi hl hr K := by
  obtain ⟨r9, hSh, hX⟩ := hI.o
  obtain ⟨nc12, nz6⟩ := hz.c
  have nl4 := hz.2.1
  have ny4 := hz.2.2.1
  have x0 : hi 16 0 = iI ((zE W).2.1 : Int) := hX.1.1.1
  apply en_X10_brought
  simp (disch := omega) only [B_X10_brought_0, sh0, lt0, en_ops, en_opc, iI_add, iI_mul, iI_sub, jL_add, jL_mul, iI_le, iI_lt, iI_eq, iI_eq0, iI_lt0, iI_0le, iI_le0, iI_0lt, jL_iI, iI_jL, lc_eq, lc_lt, lc_le, lc_ge, lc_gt, Nat.sub_zero, Nat.zero_le, true_and, and_true, Nat.reduceAdd, Nat.reduceLeDiff]
  refine ⟨by omega, by omega, c_needLaw hI hz (by omega) (by omega) hlr (fun e1 => ?_) (fun e hi' I' F' => H.2 1 (by omega) (by rw [if_neg e]) hi' hl hr I' F' Fc.rf Fc.rf)⟩
  simp (disch := omega) only [sh0, lt0, en_ops, en_opc, iI_add, iI_mul, iI_sub, jL_add, jL_mul, iI_le, iI_lt, iI_eq, iI_eq0, iI_lt0, iI_0le, iI_le0, iI_0lt, jL_iI, iI_jL, lc_eq, lc_lt, lc_le, lc_ge, lc_gt, Nat.sub_zero, Nat.zero_le, true_and, and_true, Nat.reduceAdd, Nat.reduceLeDiff]
  refine ⟨by omega, by omega, c_needYear hI hz (by omega) (by omega) hyr (fun e2 => ?_) (fun e hi' I' F' => H.2 1 (by omega) (by rw [if_pos e1, if_neg e]) hi' hl hr I' F' Fc.rf Fc.rf)⟩
  simp (disch := omega) only [sh0, lt0, en_ops, en_opc, iI_add, iI_mul, iI_sub, jL_add, jL_mul, iI_le, iI_lt, iI_eq, iI_eq0, iI_lt0, iI_0le, iI_le0, iI_0lt, jL_iI, iI_jL, lc_eq, lc_lt, lc_le, lc_ge, lc_gt, Nat.sub_zero, Nat.zero_le, true_and, and_true, Nat.reduceAdd, Nat.reduceLeDiff]
  have no : ¬ ((1 ≤ k ∧ k ≤ 999) ∧ (0 ≤ w ∧ w ≤ 1)) → en_V G Y_X10_brought (d + 9) wN wN K 37 [.ref 0, .int (iI l), .int (iI y), .int (iI k), .int (iI w)] [.int (iI 0), .ref 0] hi hl hr (xc - 1 - 1) (xs - 6 - 6) := fun e3 => by
    apply s_X10_brought_37
    simp (disch := omega) only [B_X10_brought_37, sh0, lt0, en_ops, en_opc, iI_add, iI_mul, iI_sub, jL_add, jL_mul, iI_le, iI_lt, iI_eq, iI_eq0, iI_lt0, iI_0le, iI_le0, iI_0lt, jL_iI, iI_jL, lc_eq, lc_lt, lc_le, lc_ge, lc_gt, Nat.sub_zero, Nat.zero_le, true_and, and_true, Nat.reduceAdd, Nat.reduceLeDiff]
    exact ⟨by omega, by omega, c_needRight hI hz (by omega) (by omega) (Or.inl rfl) (fun e => absurd e (by decide)) (fun _ hi' I' F' => H.2 2 (by omega) (by rw [if_pos e1, if_pos e2, if_neg e3]) hi' hl hr I' F' Fc.rf Fc.rf)⟩
  refine c_isWithin hk (iRg_i (by decide) (by decide)) (iRg_i (by decide) (by decide)) ?_
  by_cases t1 : 1 ≤ k ∧ k ≤ 999
  · rw [if_pos t1]
    simp (disch := omega) only [sh0, lt0, r9, sh16, lt16, x0, en_ops, en_opc, iI_add, iI_mul, iI_sub, jL_add, jL_mul, iI_le, iI_lt, iI_eq, iI_eq0, iI_lt0, iI_0le, iI_le0, iI_0lt, jL_iI, iI_jL, lc_eq, lc_lt, lc_le, lc_ge, lc_gt, Nat.sub_zero, Nat.zero_le, true_and, and_true, Nat.reduceAdd, Nat.reduceLeDiff]
    refine ⟨fun e => absurd e (by decide), fun _ => ?_⟩
    refine c_isWithin hw (iRg_i (by decide) (by decide)) (iRg_i (by decide) (by decide)) ?_
    by_cases t2 : 0 ≤ w ∧ w ≤ 1
    · rw [if_pos t2]
      simp (disch := omega) only [sh0, lt0, r9, sh16, lt16, x0, en_ops, en_opc, iI_add, iI_mul, iI_sub, jL_add, jL_mul, iI_le, iI_lt, iI_eq, iI_eq0, iI_lt0, iI_0le, iI_le0, iI_0lt, jL_iI, iI_jL, lc_eq, lc_lt, lc_le, lc_ge, lc_gt, Nat.sub_zero, Nat.zero_le, true_and, and_true, Nat.reduceAdd, Nat.reduceLeDiff]
      refine ⟨fun e => absurd e (by decide), fun _ => ?_⟩
      have e3 : (1 ≤ k ∧ k ≤ 999) ∧ (0 ≤ w ∧ w ≤ 1) := ⟨t1, t2⟩
      apply s_X10_brought_37
      simp (disch := omega) only [B_X10_brought_37, sh0, lt0, en_ops, en_opc, iI_add, iI_mul, iI_sub, jL_add, jL_mul, iI_le, iI_lt, iI_eq, iI_eq0, iI_lt0, iI_0le, iI_le0, iI_0lt, jL_iI, iI_jL, lc_eq, lc_lt, lc_le, lc_ge, lc_gt, Nat.sub_zero, Nat.zero_le, true_and, and_true, Nat.reduceAdd, Nat.reduceLeDiff]
      refine ⟨by omega, by omega, c_needRight hI hz (by omega) (by omega) (Or.inr rfl) (fun _ => ?_) (fun e => absurd e (by decide))⟩
      simp (disch := omega) only [sh0, lt0, en_ops, en_opc, iI_add, iI_mul, iI_sub, jL_add, jL_mul, iI_le, iI_lt, iI_eq, iI_eq0, iI_lt0, iI_0le, iI_le0, iI_0lt, jL_iI, iI_jL, lc_eq, lc_lt, lc_le, lc_ge, lc_gt, Nat.sub_zero, Nat.zero_le, true_and, and_true, Nat.reduceAdd, Nat.reduceLeDiff]
      refine ⟨by omega, by omega, c_needHours hI hz (by omega) (by omega) (fun e4 => ?_) (fun e hi' I' F' => H.2 3 (by omega) (by rw [if_pos e1, if_pos e2, if_pos e3, if_neg e]) hi' hl hr I' F' Fc.rf Fc.rf)⟩
      obtain ⟨pl, ⟨hR, hN⟩, hT, hS, hE, hse, hq, hO, hy, hyR, hY, r14, r15, r5, r7, r16, r17⟩ := hI.go hz hn (l := l.toNat) (y := y.toNat) (by omega) (by omega) e4.1
      have Hx := H.1 (by rw [if_pos e1, if_pos e2, if_pos e3, if_pos e4])
      simp (disch := omega) only [r5, r7, r9, r16, r17, sh0, lt0, sh14, lt14, sh15, lt15, sh38, lt38, sh34, lt34, sh16, lt16, sh39, lt39, en_ops, en_opc, iI_add, iI_mul, iI_sub, jL_add, jL_mul, iI_le, iI_lt, iI_eq, iI_eq0, iI_lt0, iI_0le, iI_le0, iI_0lt, jL_iI, iI_jL, lc_eq, lc_lt, lc_le, lc_ge, lc_gt, Nat.sub_zero, Nat.zero_le, true_and, and_true, Nat.reduceAdd, Nat.reduceLeDiff]
      refine ⟨l.toNat, iI_eq_of (by omega), by omega, 50 + 4 * l.toNat, r14, by omega, y.toNat, iI_eq_of (by omega), by omega, 66 + 5 * y.toNat, r15, by omega, ?_⟩
      refine t_bring (d := d) (E := eL W l.toNat) (Y := (zYs W y.toNat).2) hT hS hE hse hq hO hy hyR hY (by omega) (fun h8 F8 S8 B8 C8 => ?_)
      have Hy := Hx h8 hl hr (InvC.back hR hN hz F8 (fun x g => g.c) S8) (Fc.of F8 (fun x g => g.f)) Fc.rf Fc.rf
      simp (disch := omega) only [r5, r7, r9, r16, r17, sh0, lt0, sh14, lt14, sh15, lt15, sh38, lt38, sh34, lt34, sh16, lt16, sh39, lt39, en_ops, en_opc, iI_add, iI_mul, iI_sub, jL_add, jL_mul, iI_le, iI_lt, iI_eq, iI_eq0, iI_lt0, iI_0le, iI_le0, iI_0lt, jL_iI, iI_jL, lc_eq, lc_lt, lc_le, lc_ge, lc_gt, Nat.sub_zero, Nat.zero_le, true_and, and_true, Nat.reduceAdd, Nat.reduceLeDiff]
      refine ⟨fun e => ?_, fun e => ?_⟩
      · rw [if_neg (by omega)] at Hy
        rw [C8]
        exact Hy
      · rw [if_pos (by omega)] at Hy
        rw [B8]
        exact Hy
    · rw [if_neg t2]
      simp (disch := omega) only [sh0, lt0, en_ops, en_opc, iI_add, iI_mul, iI_sub, jL_add, jL_mul, iI_le, iI_lt, iI_eq, iI_eq0, iI_lt0, iI_0le, iI_le0, iI_0lt, jL_iI, iI_jL, lc_eq, lc_lt, lc_le, lc_ge, lc_gt, Nat.sub_zero, Nat.zero_le, true_and, and_true, Nat.reduceAdd, Nat.reduceLeDiff]
      exact ⟨fun _ => no (fun g => t2 g.2), fun e => (e (by first | trivial | rfl)).elim⟩
  · rw [if_neg t1]
    simp (disch := omega) only [sh0, lt0, en_ops, en_opc, iI_add, iI_mul, iI_sub, jL_add, jL_mul, iI_le, iI_lt, iI_eq, iI_eq0, iI_lt0, iI_0le, iI_le0, iI_0lt, jL_iI, iI_jL, lc_eq, lc_lt, lc_le, lc_ge, lc_gt, Nat.sub_zero, Nat.zero_le, true_and, and_true, Nat.reduceAdd, Nat.reduceLeDiff]
    exact ⟨fun _ => no (fun g => t1 g.1), fun e => (e (by first | trivial | rfl)).elim⟩
theorem c_cost {l : Int} {y : Int} {v : Int} {p : Int} {c : Int} (hI : InvC G W hi hr) (hz : zOK n W) (hn : n ≤ 512) (h1 : 5 ≤ xc) (h6 : 30 ≤ xs) (hlr : iRg l) (hyr : iRg y) (hv : iRg v) (hp : iRg p) (hc : iRg c) (H : cEnd G W W (if (inC W c) ∧ (inC W v) ∧ (v ≠ (zE W).2.1 - 1) then if inL W l then if inY W y then if 0 ≤ p ∧ p ≤ 16 then if isNow W then 0 else 4 else 3 else 2 else 2 else 1) (.int (iI (wP (yrP (eL W l.toNat) (zYs W y.toNat).2 (zYs W y.toNat).1 (zS W).1).1 (zE W).2.2.1 c.toNat - wP (yrP (wlE (eL W l.toNat) (bwP (zE W).2.1 (2 ^ v.toNat) p (zE W).2.2.2.1)) (zYs W y.toNat).2 (zYs W y.toNat).1 (zS W).1).1 (zE W).2.2.1 c.toNat))) K hi hl hr) : en_Call G (d + 9) xc xs Y_X10_cost wN wN [.ref 0, .int (iI l), .int (iI y), .int (iI v), .int (iI p), .int (iI c)] hi hl hr K := by
  obtain ⟨r9, hSh, hX⟩ := hI.o
  obtain ⟨nc12, nz6⟩ := hz.c
  have nl4 := hz.2.1
  have ny4 := hz.2.2.1
  have x0 : hi 16 0 = iI ((zE W).2.1 : Int) := hX.1.1.1
  apply en_X10_cost
  simp (disch := omega) only [B_X10_cost_0, sh0, lt0, en_ops, en_opc, iI_add, iI_mul, iI_sub, jL_add, jL_mul, iI_le, iI_lt, iI_eq, iI_eq0, iI_lt0, iI_0le, iI_le0, iI_0lt, jL_iI, iI_jL, lc_eq, lc_lt, lc_le, lc_ge, lc_gt, Nat.sub_zero, Nat.zero_le, true_and, and_true, Nat.reduceAdd, Nat.reduceLeDiff]
  have no : ¬ ((inC W c) ∧ (inC W v) ∧ (v ≠ (zE W).2.1 - 1)) → en_V G Y_X10_cost (d + 9) wN wN K 36 [.ref 0, .int (iI l), .int (iI y), .int (iI v), .int (iI p), .int (iI c), jk] [.int (iI 0), .ref 0] hi hl hr xc xs := fun e1 => by
    apply s_X10_cost_36
    simp (disch := omega) only [B_X10_cost_36, sh0, lt0, en_ops, en_opc, iI_add, iI_mul, iI_sub, jL_add, jL_mul, iI_le, iI_lt, iI_eq, iI_eq0, iI_lt0, iI_0le, iI_le0, iI_0lt, jL_iI, iI_jL, lc_eq, lc_lt, lc_le, lc_ge, lc_gt, Nat.sub_zero, Nat.zero_le, true_and, and_true, Nat.reduceAdd, Nat.reduceLeDiff]
    exact ⟨by omega, by omega, c_needPlace hI hz (by omega) (by omega) (Or.inl rfl) (fun e => absurd e (by decide)) (fun _ hi' I' F' => H.2 0 (by omega) (by rw [if_neg e1]) hi' hl hr I' F' Fc.rf Fc.rf)⟩
  refine c_isCell hI hz hc ?_
  by_cases t1 : inC W c
  · rw [if_pos t1]
    simp (disch := omega) only [sh0, lt0, r9, sh16, lt16, x0, en_ops, en_opc, iI_add, iI_mul, iI_sub, jL_add, jL_mul, iI_le, iI_lt, iI_eq, iI_eq0, iI_lt0, iI_0le, iI_le0, iI_0lt, jL_iI, iI_jL, lc_eq, lc_lt, lc_le, lc_ge, lc_gt, Nat.sub_zero, Nat.zero_le, true_and, and_true, Nat.reduceAdd, Nat.reduceLeDiff]
    refine ⟨fun e => absurd e (by decide), fun _ => ?_⟩
    refine c_isCell hI hz hv ?_
    by_cases t2 : inC W v
    · rw [if_pos t2]
      simp (disch := omega) only [sh0, lt0, r9, sh16, lt16, x0, en_ops, en_opc, iI_add, iI_mul, iI_sub, jL_add, jL_mul, iI_le, iI_lt, iI_eq, iI_eq0, iI_lt0, iI_0le, iI_le0, iI_0lt, jL_iI, iI_jL, lc_eq, lc_lt, lc_le, lc_ge, lc_gt, Nat.sub_zero, Nat.zero_le, true_and, and_true, Nat.reduceAdd, Nat.reduceLeDiff]
      refine ⟨fun e => absurd e (by decide), fun _ => ?_⟩
      refine ⟨fun e => no (fun g => absurd (g.2.2) (by omega)), fun e => ?_⟩
      have t3 : v ≠ (zE W).2.1 - 1 := by omega
      have e1 : (inC W c) ∧ (inC W v) ∧ (v ≠ (zE W).2.1 - 1) := ⟨t1, t2, t3⟩
      apply s_X10_cost_36
      simp (disch := omega) only [B_X10_cost_36, sh0, lt0, en_ops, en_opc, iI_add, iI_mul, iI_sub, jL_add, jL_mul, iI_le, iI_lt, iI_eq, iI_eq0, iI_lt0, iI_0le, iI_le0, iI_0lt, jL_iI, iI_jL, lc_eq, lc_lt, lc_le, lc_ge, lc_gt, Nat.sub_zero, Nat.zero_le, true_and, and_true, Nat.reduceAdd, Nat.reduceLeDiff]
      refine ⟨by omega, by omega, c_needPlace hI hz (by omega) (by omega) (Or.inr rfl) (fun _ => ?_) (fun e => absurd e (by decide))⟩
      simp (disch := omega) only [sh0, lt0, en_ops, en_opc, iI_add, iI_mul, iI_sub, jL_add, jL_mul, iI_le, iI_lt, iI_eq, iI_eq0, iI_lt0, iI_0le, iI_le0, iI_0lt, jL_iI, iI_jL, lc_eq, lc_lt, lc_le, lc_ge, lc_gt, Nat.sub_zero, Nat.zero_le, true_and, and_true, Nat.reduceAdd, Nat.reduceLeDiff]
      refine ⟨by omega, by omega, c_needLaw hI hz (by omega) (by omega) hlr (fun e2 => ?_) (fun e hi' I' F' => H.2 1 (by omega) (by rw [if_pos e1, if_neg e]) hi' hl hr I' F' Fc.rf Fc.rf)⟩
      simp (disch := omega) only [sh0, lt0, en_ops, en_opc, iI_add, iI_mul, iI_sub, jL_add, jL_mul, iI_le, iI_lt, iI_eq, iI_eq0, iI_lt0, iI_0le, iI_le0, iI_0lt, jL_iI, iI_jL, lc_eq, lc_lt, lc_le, lc_ge, lc_gt, Nat.sub_zero, Nat.zero_le, true_and, and_true, Nat.reduceAdd, Nat.reduceLeDiff]
      refine ⟨by omega, by omega, c_needYear hI hz (by omega) (by omega) hyr (fun e3 => ?_) (fun e hi' I' F' => H.2 1 (by omega) (by rw [if_pos e1, if_pos e2, if_neg e]) hi' hl hr I' F' Fc.rf Fc.rf)⟩
      simp (disch := omega) only [sh0, lt0, en_ops, en_opc, iI_add, iI_mul, iI_sub, jL_add, jL_mul, iI_le, iI_lt, iI_eq, iI_eq0, iI_lt0, iI_0le, iI_le0, iI_0lt, jL_iI, iI_jL, lc_eq, lc_lt, lc_le, lc_ge, lc_gt, Nat.sub_zero, Nat.zero_le, true_and, and_true, Nat.reduceAdd, Nat.reduceLeDiff]
      refine c_isWithin hp (iRg_i (by decide) (by decide)) (iRg_i (by decide) (by decide)) ?_
      by_cases e4 : 0 ≤ p ∧ p ≤ 16
      · rw [if_pos e4]
        simp (disch := omega) only [sh0, lt0, en_ops, en_opc, iI_add, iI_mul, iI_sub, jL_add, jL_mul, iI_le, iI_lt, iI_eq, iI_eq0, iI_lt0, iI_0le, iI_le0, iI_0lt, jL_iI, iI_jL, lc_eq, lc_lt, lc_le, lc_ge, lc_gt, Nat.sub_zero, Nat.zero_le, true_and, and_true, Nat.reduceAdd, Nat.reduceLeDiff]
        refine ⟨by omega, by omega, c_needRight hI hz (by omega) (by omega) (Or.inr rfl) (fun _ => ?_) (fun e => absurd e (by decide))⟩
        simp (disch := omega) only [sh0, lt0, en_ops, en_opc, iI_add, iI_mul, iI_sub, jL_add, jL_mul, iI_le, iI_lt, iI_eq, iI_eq0, iI_lt0, iI_0le, iI_le0, iI_0lt, jL_iI, iI_jL, lc_eq, lc_lt, lc_le, lc_ge, lc_gt, Nat.sub_zero, Nat.zero_le, true_and, and_true, Nat.reduceAdd, Nat.reduceLeDiff]
        refine ⟨by omega, by omega, c_needHours hI hz (by omega) (by omega) (fun e5 => ?_) (fun e hi' I' F' => H.2 3 (by omega) (by rw [if_pos e1, if_pos e2, if_pos e3, if_pos e4, if_neg e]) hi' hl hr I' F' Fc.rf Fc.rf)⟩
        obtain ⟨pl, ⟨hR, hN⟩, hT, hS, hE, hse, hq, hO, hy, hyR, hY, r14, r15, r5, r7, r16, r17⟩ := hI.go hz hn (l := l.toNat) (y := y.toNat) (by omega) (by omega) e5.1
        have Hx := H.1 (by rw [if_pos e1, if_pos e2, if_pos e3, if_pos e4, if_pos e5])
        simp (disch := omega) only [r5, r7, r9, r16, r17, sh0, lt0, sh14, lt14, sh15, lt15, sh38, lt38, sh34, lt34, sh16, lt16, sh39, lt39, en_ops, en_opc, iI_add, iI_mul, iI_sub, jL_add, jL_mul, iI_le, iI_lt, iI_eq, iI_eq0, iI_lt0, iI_0le, iI_le0, iI_0lt, jL_iI, iI_jL, lc_eq, lc_lt, lc_le, lc_ge, lc_gt, Nat.sub_zero, Nat.zero_le, true_and, and_true, Nat.reduceAdd, Nat.reduceLeDiff]
        refine ⟨l.toNat, iI_eq_of (by omega), by omega, 50 + 4 * l.toNat, r14, by omega, y.toNat, iI_eq_of (by omega), by omega, 66 + 5 * y.toNat, r15, by omega, ?_⟩
        rw [show c = ((c.toNat : Nat) : Int) by omega, show v = ((v.toNat : Nat) : Int) by omega]
        refine t_behind (d := d + 1) (E := eL W l.toNat) (Y := (zYs W y.toNat).2) hT hS hE hse hq hO hy hyR hY (fun h8 F8 Q8 O8 S8 => ?_)
        simp (disch := omega) only [r5, r7, r9, r16, r17, sh0, lt0, sh14, lt14, sh15, lt15, sh38, lt38, sh34, lt34, sh16, lt16, sh39, lt39, en_ops, en_opc, iI_add, iI_mul, iI_sub, jL_add, jL_mul, iI_le, iI_lt, iI_eq, iI_eq0, iI_lt0, iI_0le, iI_le0, iI_0lt, jL_iI, iI_jL, lc_eq, lc_lt, lc_le, lc_ge, lc_gt, Nat.sub_zero, Nat.zero_le, true_and, and_true, Nat.reduceAdd, Nat.reduceLeDiff]
        refine t_allIn (d := d + 7) (Or.inr (Or.inl rfl)) hT.2.2.2.1 Q8.1 O8.1 (by omega) ?_
        simp (disch := omega) only [r5, r7, r9, r16, r17, sh0, lt0, sh14, lt14, sh15, lt15, sh38, lt38, sh34, lt34, sh16, lt16, sh39, lt39, en_ops, en_opc, iI_add, iI_mul, iI_sub, jL_add, jL_mul, iI_le, iI_lt, iI_eq, iI_eq0, iI_lt0, iI_0le, iI_le0, iI_0lt, jL_iI, iI_jL, lc_eq, lc_lt, lc_le, lc_ge, lc_gt, Nat.sub_zero, Nat.zero_le, true_and, and_true, Nat.reduceAdd, Nat.reduceLeDiff]
        refine ⟨l.toNat, iI_eq_of (by omega), by omega, 50 + 4 * l.toNat, r14, by omega, y.toNat, iI_eq_of (by omega), by omega, 66 + 5 * y.toNat, r15, by omega, ?_⟩
        refine t_behindWall (d := d + 1) (E := eL W l.toNat) (Y := (zYs W y.toNat).2) (w := v.toNat) hT hS hE S8 (hq.frP F8 (fun x g1 g2 g => by unfold Ptr at g; omega)) hO hy hyR (hY.fr hy F8 (fun x g1 g2 g => by unfold Ptr at g; omega)) (by omega) (by omega) (fun h7 F7 Q7 O7 S7 => ?_)
        simp (disch := omega) only [r5, r7, r9, r16, r17, sh0, lt0, sh14, lt14, sh15, lt15, sh38, lt38, sh34, lt34, sh16, lt16, sh39, lt39, en_ops, en_opc, iI_add, iI_mul, iI_sub, jL_add, jL_mul, iI_le, iI_lt, iI_eq, iI_eq0, iI_lt0, iI_0le, iI_le0, iI_0lt, jL_iI, iI_jL, lc_eq, lc_lt, lc_le, lc_ge, lc_gt, Nat.sub_zero, Nat.zero_le, true_and, and_true, Nat.reduceAdd, Nat.reduceLeDiff]
        refine t_allIn (d := d + 7) (Or.inr (Or.inl rfl)) hT.2.2.2.1 Q7.1 O7.1 (by omega) ?_
        simp (disch := omega) only [en_ops, en_opc, iI_add, iI_mul, iI_sub, jL_add, jL_mul, iI_le, iI_lt, iI_eq, iI_eq0, iI_lt0, iI_0le, iI_le0, iI_0lt, jL_iI, iI_jL, lc_eq, lc_lt, lc_le, lc_ge, lc_gt, Nat.sub_zero, Nat.zero_le, true_and, and_true, Nat.reduceAdd, Nat.reduceLeDiff]
        exact Hx h7 hl hr (InvC.back hR hN hz (F8.tr F7) (fun x g => g.c) S7) (Fc.of (F8.tr F7) (fun x g => g.f)) Fc.rf Fc.rf
      · rw [if_neg e4]
        simp (disch := omega) only [sh0, lt0, en_ops, en_opc, iI_add, iI_mul, iI_sub, jL_add, jL_mul, iI_le, iI_lt, iI_eq, iI_eq0, iI_lt0, iI_0le, iI_le0, iI_0lt, jL_iI, iI_jL, lc_eq, lc_lt, lc_le, lc_ge, lc_gt, Nat.sub_zero, Nat.zero_le, true_and, and_true, Nat.reduceAdd, Nat.reduceLeDiff]
        exact ⟨by omega, by omega, c_needRight hI hz (by omega) (by omega) (Or.inl rfl) (fun e => absurd e (by decide)) (fun _ hi' I' F' => H.2 2 (by omega) (by rw [if_pos e1, if_pos e2, if_pos e3, if_neg e4]) hi' hl hr I' F' Fc.rf Fc.rf)⟩
    · rw [if_neg t2]
      simp (disch := omega) only [sh0, lt0, en_ops, en_opc, iI_add, iI_mul, iI_sub, jL_add, jL_mul, iI_le, iI_lt, iI_eq, iI_eq0, iI_lt0, iI_0le, iI_le0, iI_0lt, jL_iI, iI_jL, lc_eq, lc_lt, lc_le, lc_ge, lc_gt, Nat.sub_zero, Nat.zero_le, true_and, and_true, Nat.reduceAdd, Nat.reduceLeDiff]
      exact ⟨fun _ => no (fun g => t2 g.2.1), fun e => (e (by first | trivial | rfl)).elim⟩
  · rw [if_neg t1]
    simp (disch := omega) only [sh0, lt0, en_ops, en_opc, iI_add, iI_mul, iI_sub, jL_add, jL_mul, iI_le, iI_lt, iI_eq, iI_eq0, iI_lt0, iI_0le, iI_le0, iI_0lt, jL_iI, iI_jL, lc_eq, lc_lt, lc_le, lc_ge, lc_gt, Nat.sub_zero, Nat.zero_le, true_and, and_true, Nat.reduceAdd, Nat.reduceLeDiff]
    exact ⟨fun _ => no (fun g => t1 g.1), fun e => (e (by first | trivial | rfl)).elim⟩
end
