section
variable {G : en_G} {d : Nat} {K : en_K} {W : zW} {n : Nat} {hi : en_I} {hl : en_L} {hr : en_F} {xc xs : Nat}
/-- a change of the shore's own cells -/
theorem InvC.sh16 {P : Nat → Prop} {hi' : en_I} {s : zSh} (hI : InvC G W hi hr) (hz : zOK n W) (F : Fr P hi hi') (hP : ∀ x, P x → 16 ≤ x ∧ x ≤ 23) (hx : xcH 16 (zE W) s hi') : InvC G (zPut W s) hi' hr := by
  obtain ⟨pl, hR, ⟨⟨a1, a2⟩, a3, a4, a5, a6, a7, a8, a9, a10, a11, a12⟩⟩ := hI
  obtain ⟨-, z2, z3, z4, -⟩ := hz
  have nP : ∀ x, (x < 16 ∨ 23 < x) → hi' x = hi x := fun x hx => F x (fun g => by have := hP x g; omega)
  exact ⟨pl, hR, ⟨by rw [nP 0 (by omega)]; exact a1, fun j hj => by rw [nP 1 (by omega)]; exact a2 j hj⟩, by rw [nP 0 (by omega)]; exact a3, by rw [nP 0 (by omega)]; exact a4, by rw [nP 0 (by omega)]; exact a5, by rw [nP 0 (by omega)]; exact a6, fun k hk => by rw [nP 25 (by omega)]; exact a7 k hk, a8.mono z2 F (fun x g => by have := hP x g; omega), fun y hy => (a9 y hy).fr (by have h9 : y < zNy W := hy; unfold isYe; omega) F (fun x g1 g2 g => by have := hP x g; omega), a10.frP hR.2.1.2.2.1 F (fun x g => by have := hP x g; omega), hx, fun i hi9 => (a12 i hi9).frP F (fun x g1 g2 g => by have := hP x g; omega)⟩
theorem F16 {P : Nat → Prop} {hi' : en_I} (F : Fr P hi hi') (hP : ∀ x, P x → 16 ≤ x ∧ x ≤ 23) : Fc hi hi' := Fc.of F (fun x g => by have := hP x g; omega)
/-- a stone taken -/
def tkS (s : zSh) (z k : Nat) : zSh := (s.1, s.2.1 + 1, fun i => if i = s.2.1 then (z, k) else s.2.2.1 i, s.2.2.2)
def tkW (W : zW) (z k : Nat) : zW := if (zS W).2.1 < 4 then zPut W (tkS (zS W) z k) else W
def tkA (W : zW) : Int := if (zS W).2.1 < 4 then (zS W).2.1 + 1 else -1
theorem c_take {z k : Int} (hI : InvC G W hi hr) (hz : zOK n W) (h1 : 1 ≤ xc) (h6 : 6 ≤ xs) (hzr : iRg z) (hk : iRg k) (H : cEnd G W (tkW W z.toNat k.toNat) (if inZ W z ∧ 0 ≤ k ∧ k < 3 then 0 else 3) (.int (iI (tkA W))) K hi hl hr) : en_Call G (d + 2) xc xs Y_X10_take wN wN [.ref 0, .int (iI z), .int (iI k)] hi hl hr K := by
  obtain ⟨r9, hSh, hX⟩ := hI.o
  obtain ⟨nc12, nz6⟩ := hz.c
  have y7 := hSh.2.2.2.2.2.1
  have nh4 := hz.x.2.2.2.2.1.1
  have e8 : hi 16 8 = iI ((zS W).2.1 : Int) := hX.2.1
  have no : ¬ (inZ W z ∧ 0 ≤ k ∧ k < 3) → en_V G Y_X10_take (d + 2) wN wN K 21 [.ref 0, .int (iI z), .int (iI k)] [.int (iI 0), .ref 0] hi hl hr xc xs := fun e => by
    rw [if_neg e] at H
    apply s_X10_take_21
    simp (disch := omega) only [B_X10_take_21, sh0, lt0, en_ops, en_opc, iI_add, iI_mul, iI_sub, jL_add, jL_mul, iI_le, iI_lt, iI_eq, iI_eq0, iI_lt0, iI_0le, iI_le0, iI_0lt, jL_iI, iI_jL, lc_eq, lc_lt, lc_le, lc_ge, lc_gt, Nat.sub_zero, Nat.zero_le, true_and, and_true, Nat.reduceAdd, Nat.reduceLeDiff]
    exact ⟨h1, h6, c_needRight hI hz (Nat.le_refl _) (Nat.le_refl _) (Or.inl rfl) (fun e => absurd e (by decide)) (fun _ hi' I' F' => H.2 2 (by omega) rfl hi' hl hr I' F' Fc.rf Fc.rf)⟩
  apply en_X10_take
  simp (disch := omega) only [B_X10_take_0, sh0, lt0, en_ops, en_opc, iI_add, iI_mul, iI_sub, jL_add, jL_mul, iI_le, iI_lt, iI_eq, iI_eq0, iI_lt0, iI_0le, iI_le0, iI_0lt, jL_iI, iI_jL, lc_eq, lc_lt, lc_le, lc_ge, lc_gt, Nat.sub_zero, Nat.zero_le, true_and, and_true, Nat.reduceAdd, Nat.reduceLeDiff]
  refine c_isSize hI hz hzr ?_
  by_cases t1 : inZ W z
  · rw [if_pos t1]
    simp (disch := omega) only [sh0, lt0, en_ops, en_opc, iI_add, iI_mul, iI_sub, jL_add, jL_mul, iI_le, iI_lt, iI_eq, iI_eq0, iI_lt0, iI_0le, iI_le0, iI_0lt, jL_iI, iI_jL, lc_eq, lc_lt, lc_le, lc_ge, lc_gt, Nat.sub_zero, Nat.zero_le, true_and, and_true, Nat.reduceAdd, Nat.reduceLeDiff]
    refine ⟨fun e => absurd e (by decide), fun _ => c_isStuff hk ?_⟩
    by_cases t2 : 0 ≤ k ∧ k < 3
    · rw [if_pos t2]
      simp (disch := omega) only [sh0, lt0, en_ops, en_opc, iI_add, iI_mul, iI_sub, jL_add, jL_mul, iI_le, iI_lt, iI_eq, iI_eq0, iI_lt0, iI_0le, iI_le0, iI_0lt, jL_iI, iI_jL, lc_eq, lc_lt, lc_le, lc_ge, lc_gt, Nat.sub_zero, Nat.zero_le, true_and, and_true, Nat.reduceAdd, Nat.reduceLeDiff]
      refine ⟨fun e => absurd e (by decide), fun _ => ?_⟩
      rw [if_pos ⟨t1, t2⟩] at H
      apply s_X10_take_21
      simp (disch := omega) only [B_X10_take_21, sh0, lt0, en_ops, en_opc, iI_add, iI_mul, iI_sub, jL_add, jL_mul, iI_le, iI_lt, iI_eq, iI_eq0, iI_lt0, iI_0le, iI_le0, iI_0lt, jL_iI, iI_jL, lc_eq, lc_lt, lc_le, lc_ge, lc_gt, Nat.sub_zero, Nat.zero_le, true_and, and_true, Nat.reduceAdd, Nat.reduceLeDiff]
      refine ⟨h1, h6, c_needRight hI hz (Nat.le_refl _) (Nat.le_refl _) (Or.inr rfl) (fun _ => ?_) (fun e => absurd e (by decide))⟩
      have Hx := H.1 rfl
      unfold tkW tkA at Hx
      simp (disch := omega) only [r9, y7, e8, sh0, lt0, sh16, lt16, sh22, lt22, en_ops, en_opc, iI_add, iI_mul, iI_sub, jL_add, jL_mul, iI_le, iI_lt, iI_eq, iI_eq0, iI_lt0, iI_0le, iI_le0, iI_0lt, jL_iI, iI_jL, lc_eq, lc_lt, lc_le, lc_ge, lc_gt, Nat.sub_zero, Nat.zero_le, true_and, and_true, Nat.reduceAdd, Nat.reduceLeDiff]
      refine ⟨fun e => ?_, fun e => ?_⟩
      · rw [if_pos (by omega), if_pos (by omega)] at Hx
        refine t_heapAt ?_
        simp (disch := omega) only [r9, y7, e8, sh0, lt0, sh16, lt16, sh22, lt22, en_ops, en_opc, iI_add, iI_mul, iI_sub, jL_add, jL_mul, iI_le, iI_lt, iI_eq, iI_eq0, iI_lt0, iI_0le, iI_le0, iI_0lt, jL_iI, iI_jL, lc_eq, lc_lt, lc_le, lc_ge, lc_gt, Nat.sub_zero, Nat.zero_le, true_and, and_true, Nat.reduceAdd, Nat.reduceLeDiff]
        refine ⟨(zS W).2.1, rfl, by omega, ?_⟩
        rw [up_row (show (16 : Nat) ≠ 22 by decide), e8]
        simp (disch := omega) only [up_at, en_ops, en_opc, iI_add, iI_mul, iI_sub, jL_add, jL_mul, iI_le, iI_lt, iI_eq, iI_eq0, iI_lt0, iI_0le, iI_le0, iI_0lt, jL_iI, iI_jL, lc_eq, lc_lt, lc_le, lc_ge, lc_gt, Nat.sub_zero, Nat.zero_le, true_and, and_true, Nat.reduceAdd, Nat.reduceLeDiff]
        have F8 : Fr (fun x => x = 22 ∨ x = 16) hi (en_up (en_up hi 22 (zS W).2.1 (iI ((0 * 6 + z) * 3 + k))) 16 8 (iI ((zS W).2.1 + 1))) := Fr.up (Fr.up Fr.rf (Or.inl rfl)) (Or.inr rfl)
        refine Hx _ hl hr (hI.sh16 hz F8 (fun x g => by omega) ?_) (F16 F8 (fun x g => by omega)) Fc.rf Fc.rf
        obtain ⟨⟨⟨x0, x1, x2, x3, x4⟩, g2, g3, g4, g5, g6, g7⟩, b2, b3, b4⟩ := hX
        have ee : ∀ x, x ≠ 22 → x ≠ 16 → en_up (en_up hi 22 (zS W).2.1 (iI ((0 * 6 + z) * 3 + k))) 16 8 (iI ((zS W).2.1 + 1)) x = hi x := fun x q1 q2 => F8 x (fun g => by omega)
        have e16 : ∀ j, j ≠ 8 → en_up (en_up hi 22 (zS W).2.1 (iI ((0 * 6 + z) * 3 + k))) 16 8 (iI ((zS W).2.1 + 1)) 16 j = hi 16 j := fun j hj => by rw [up_ne (Or.inr hj), up_row (by omega)]
        refine ⟨⟨⟨by rw [e16 0 (by omega)]; exact x0, by rw [e16 1 (by omega)]; exact x1, x2, x3, fun c z k hc hz hk => by rw [ee 17 (by omega) (by omega)]; exact x4 c z k hc hz hk⟩, fun c hc => by rw [ee 18 (by omega) (by omega)]; exact g2 c hc, fun c hc => by rw [ee 19 (by omega) (by omega)]; exact g3 c hc, fun c hc => by rw [ee 20 (by omega) (by omega)]; exact g4 c hc, fun i hi9 => by rw [ee 23 (by omega) (by omega)]; exact g5 i hi9, by rw [e16 10 (by omega)]; exact g6, by rw [e16 11 (by omega)]; exact g7⟩, by rw [up_at]; rfl, fun i hi9 => ?_, fun c z hc hz9 => by rw [ee 21 (by omega) (by omega)]; exact b4 c z hc hz9⟩
        have hi5 : i < (zS W).2.1 + 1 := hi9
        rw [up_row (show (22 : Nat) ≠ 16 by decide)]
        show en_up hi 22 (zS W).2.1 (iI ((0 * 6 + z) * 3 + k)) 22 i = iI ((3 * (if i = (zS W).2.1 then (z.toNat, k.toNat) else (zS W).2.2.1 i).1 + (if i = (zS W).2.1 then (z.toNat, k.toNat) else (zS W).2.2.1 i).2 : Nat) : Int)
        by_cases q : i = (zS W).2.1
        · rw [q, up_at, if_pos rfl]; refine iI_eq_of ?_; show (0 * 6 + z) * 3 + k = ((3 * z.toNat + k.toNat : Nat) : Int); omega
        · rw [up_ne (Or.inr q), if_neg q]; exact b3 i (by omega)
      · rw [if_neg (by omega), if_neg (by omega)] at Hx
        exact Hx hi hl hr hI Fc.rf Fc.rf Fc.rf
    · rw [if_neg t2]
      simp (disch := omega) only [sh0, lt0, en_ops, en_opc, iI_add, iI_mul, iI_sub, jL_add, jL_mul, iI_le, iI_lt, iI_eq, iI_eq0, iI_lt0, iI_0le, iI_le0, iI_0lt, jL_iI, iI_jL, lc_eq, lc_lt, lc_le, lc_ge, lc_gt, Nat.sub_zero, Nat.zero_le, true_and, and_true, Nat.reduceAdd, Nat.reduceLeDiff]
      exact ⟨fun _ => no (fun g => t2 g.2), fun e => (e (by first | trivial | rfl)).elim⟩
  · rw [if_neg t1]
    simp (disch := omega) only [sh0, lt0, en_ops, en_opc, iI_add, iI_mul, iI_sub, jL_add, jL_mul, iI_le, iI_lt, iI_eq, iI_eq0, iI_lt0, iI_0le, iI_le0, iI_0lt, jL_iI, iI_jL, lc_eq, lc_lt, lc_le, lc_ge, lc_gt, Nat.sub_zero, Nat.zero_le, true_and, and_true, Nat.reduceAdd, Nat.reduceLeDiff]
    exact ⟨fun _ => no (fun g => t1 g.1), fun e => (e (by first | trivial | rfl)).elim⟩
def drS (s : zSh) : zSh := (s.1, 0, s.2.2.1, s.2.2.2)
theorem c_drop (hI : InvC G W hi hr) (hz : zOK n W) (H : cEnd G W (zPut W (drS (zS W))) 0 (.int (iI ((zS W).2.1 : Int))) K hi hl hr) : en_Call G (d + 1) xc xs Y_X10_drop wN wN [.ref 0] hi hl hr K := by
  obtain ⟨r9, hSh, hX⟩ := hI.o
  have e8 : hi 16 8 = iI ((zS W).2.1 : Int) := hX.2.1
  apply en_X10_drop
  simp (disch := omega) only [B_X10_drop_0, r9, e8, sh0, lt0, sh16, lt16, en_ops, en_opc, iI_add, iI_mul, iI_sub, jL_add, jL_mul, iI_le, iI_lt, iI_eq, iI_eq0, iI_lt0, iI_0le, iI_le0, iI_0lt, jL_iI, iI_jL, lc_eq, lc_lt, lc_le, lc_ge, lc_gt, Nat.sub_zero, Nat.zero_le, true_and, and_true, Nat.reduceAdd, Nat.reduceLeDiff]
  have F8 : Fr (· = 16) hi (en_up hi 16 8 (iI 0)) := Fr.up Fr.rf (by rfl)
  refine H.1 rfl _ hl hr (hI.sh16 hz F8 (fun x g => by omega) ?_) (F16 F8 (fun x g => by omega)) Fc.rf Fc.rf
  obtain ⟨⟨⟨x0, x1, x2, x3, x4⟩, g2, g3, g4, g5, g6, g7⟩, b2, b3, b4⟩ := hX
  have ee : ∀ x, x ≠ 16 → en_up hi 16 8 (iI 0) x = hi x := fun x q1 => F8 x q1
  have e16 : ∀ j, j ≠ 8 → en_up hi 16 8 (iI 0) 16 j = hi 16 j := fun j hj => by rw [up_ne (Or.inr hj)]
  exact ⟨⟨⟨by rw [e16 0 (by omega)]; exact x0, by rw [e16 1 (by omega)]; exact x1, x2, x3, fun c z k hc hz hk => by rw [ee 17 (by omega)]; exact x4 c z k hc hz hk⟩, fun c hc => by rw [ee 18 (by omega)]; exact g2 c hc, fun c hc => by rw [ee 19 (by omega)]; exact g3 c hc, fun c hc => by rw [ee 20 (by omega)]; exact g4 c hc, fun i hi9 => by rw [ee 23 (by omega)]; exact g5 i hi9, by rw [e16 10 (by omega)]; exact g6, by rw [e16 11 (by omega)]; exact g7⟩, by rw [up_at]; rfl, fun i hi9 => absurd (show i < 0 from hi9) (by omega), fun c z hc hz9 => by rw [ee 21 (by omega)]; exact b4 c z hc hz9⟩
/-- a number of the sample -/
def spS (s : zSh) (c z : Nat) (v : Int) : zSh := (s.1, s.2.1, s.2.2.1, fun c' z' => if c' = c ∧ z' = z then v else s.2.2.2 c' z')
theorem c_sample {c z k : Int} (hI : InvC G W hi hr) (hz : zOK n W) (h1 : 2 ≤ xc) (h6 : 12 ≤ xs) (hc : iRg c) (hzr : iRg z) (hk : iRg k) (H : cEnd G W (zPut W (spS (zS W) c.toNat z.toNat k)) (if inC W c then if inZ W z ∧ -1 ≤ k ∧ k ≤ 999999 then 0 else 3 else 1) (.int (iI ((zS W).2.2.2 c.toNat z.toNat))) K hi hl hr) : en_Call G (d + 2) xc xs Y_X10_sample wN wN [.ref 0, .int (iI c), .int (iI z), .int (iI k)] hi hl hr K := by
  obtain ⟨r9, hSh, hX⟩ := hI.o
  obtain ⟨nc12, nz6⟩ := hz.c
  have y6 := hSh.2.2.2.2.1
  apply en_X10_sample
  simp (disch := omega) only [B_X10_sample_0, sh0, lt0, en_ops, en_opc, iI_add, iI_mul, iI_sub, jL_add, jL_mul, iI_le, iI_lt, iI_eq, iI_eq0, iI_lt0, iI_0le, iI_le0, iI_0lt, jL_iI, iI_jL, lc_eq, lc_lt, lc_le, lc_ge, lc_gt, Nat.sub_zero, Nat.zero_le, true_and, and_true, Nat.reduceAdd, Nat.reduceLeDiff]
  refine c_isCell hI hz hc ?_
  by_cases e1 : inC W c
  · rw [if_pos e1]
    rw [if_pos e1] at H
    simp (disch := omega) only [sh0, lt0, en_ops, en_opc, iI_add, iI_mul, iI_sub, jL_add, jL_mul, iI_le, iI_lt, iI_eq, iI_eq0, iI_lt0, iI_0le, iI_le0, iI_0lt, jL_iI, iI_jL, lc_eq, lc_lt, lc_le, lc_ge, lc_gt, Nat.sub_zero, Nat.zero_le, true_and, and_true, Nat.reduceAdd, Nat.reduceLeDiff]
    refine ⟨by omega, by omega, c_needPlace hI hz (by omega) (by omega) (Or.inr rfl) (fun _ => ?_) (fun e => absurd e (by decide))⟩
    simp (disch := omega) only [sh0, lt0, en_ops, en_opc, iI_add, iI_mul, iI_sub, jL_add, jL_mul, iI_le, iI_lt, iI_eq, iI_eq0, iI_lt0, iI_0le, iI_le0, iI_0lt, jL_iI, iI_jL, lc_eq, lc_lt, lc_le, lc_ge, lc_gt, Nat.sub_zero, Nat.zero_le, true_and, and_true, Nat.reduceAdd, Nat.reduceLeDiff]
    have no : ¬ (inZ W z ∧ -1 ≤ k ∧ k ≤ 999999) → en_V G Y_X10_sample (d + 2) wN wN K 34 [.ref 0, .int (iI c), .int (iI z), .int (iI k), jk, jk] [.int (iI 0), .ref 0] hi hl hr (xc - 1) (xs - 6) := fun e => by
      rw [if_neg e] at H
      apply s_X10_sample_34
      simp (disch := omega) only [B_X10_sample_34, sh0, lt0, en_ops, en_opc, iI_add, iI_mul, iI_sub, jL_add, jL_mul, iI_le, iI_lt, iI_eq, iI_eq0, iI_lt0, iI_0le, iI_le0, iI_0lt, jL_iI, iI_jL, lc_eq, lc_lt, lc_le, lc_ge, lc_gt, Nat.sub_zero, Nat.zero_le, true_and, and_true, Nat.reduceAdd, Nat.reduceLeDiff]
      exact ⟨by omega, by omega, c_needRight hI hz (Nat.le_refl _) (Nat.le_refl _) (Or.inl rfl) (fun e => absurd e (by decide)) (fun _ hi' I' F' => H.2 2 (by omega) rfl hi' hl hr I' F' Fc.rf Fc.rf)⟩
    refine c_isSize hI hz hzr ?_
    by_cases t1 : inZ W z
    · rw [if_pos t1]
      simp (disch := omega) only [sh0, lt0, en_ops, en_opc, iI_add, iI_mul, iI_sub, jL_add, jL_mul, iI_le, iI_lt, iI_eq, iI_eq0, iI_lt0, iI_0le, iI_le0, iI_0lt, jL_iI, iI_jL, lc_eq, lc_lt, lc_le, lc_ge, lc_gt, Nat.sub_zero, Nat.zero_le, true_and, and_true, Nat.reduceAdd, Nat.reduceLeDiff]
      refine ⟨fun e => absurd e (by decide), fun _ => c_isWithin hk (iRg_i (by decide) (by decide)) (iRg_i (by decide) (by decide)) ?_⟩
      by_cases t2 : -1 ≤ k ∧ k ≤ 999999
      · rw [if_pos t2]
        rw [if_pos ⟨t1, t2⟩] at H
        simp (disch := omega) only [sh0, lt0, en_ops, en_opc, iI_add, iI_mul, iI_sub, jL_add, jL_mul, iI_le, iI_lt, iI_eq, iI_eq0, iI_lt0, iI_0le, iI_le0, iI_0lt, jL_iI, iI_jL, lc_eq, lc_lt, lc_le, lc_ge, lc_gt, Nat.sub_zero, Nat.zero_le, true_and, and_true, Nat.reduceAdd, Nat.reduceLeDiff]
        refine ⟨fun e => absurd e (by decide), fun _ => ?_⟩
        apply s_X10_sample_34
        simp (disch := omega) only [B_X10_sample_34, sh0, lt0, en_ops, en_opc, iI_add, iI_mul, iI_sub, jL_add, jL_mul, iI_le, iI_lt, iI_eq, iI_eq0, iI_lt0, iI_0le, iI_le0, iI_0lt, jL_iI, iI_jL, lc_eq, lc_lt, lc_le, lc_ge, lc_gt, Nat.sub_zero, Nat.zero_le, true_and, and_true, Nat.reduceAdd, Nat.reduceLeDiff]
        refine ⟨by omega, by omega, c_needRight hI hz (Nat.le_refl _) (Nat.le_refl _) (Or.inr rfl) (fun _ => ?_) (fun e => absurd e (by decide))⟩
        have Hx := H.1 rfl
        simp (disch := omega) only [r9, y6, sh0, lt0, sh16, lt16, sh21, lt21, en_ops, en_opc, iI_add, iI_mul, iI_sub, jL_add, jL_mul, iI_le, iI_lt, iI_eq, iI_eq0, iI_lt0, iI_0le, iI_le0, iI_0lt, jL_iI, iI_jL, lc_eq, lc_lt, lc_le, lc_ge, lc_gt, Nat.sub_zero, Nat.zero_le, true_and, and_true, Nat.reduceAdd, Nat.reduceLeDiff]
        have ix : c * 6 + z = ((c.toNat * 6 + z.toNat : Nat) : Int) := by omega
        refine ⟨c.toNat * 6 + z.toNat, iI_eq_of ix, by omega, c.toNat * 6 + z.toNat, iI_eq_of ix, by omega, ?_⟩
        rw [hX.2.2.2 _ _ (by omega) (by omega)]
        have F8 : Fr (· = 21) hi (en_up hi 21 (c.toNat * 6 + z.toNat) (iI k)) := Fr.up Fr.rf (by rfl)
        refine Hx _ hl hr (hI.sh16 hz F8 (fun x g => by omega) ?_) (F16 F8 (fun x g => by omega)) Fc.rf Fc.rf
        obtain ⟨⟨⟨x0, x1, x2, x3, x4⟩, g2, g3, g4, g5, g6, g7⟩, b2, b3, b4⟩ := hX
        have ee : ∀ x, x ≠ 21 → en_up hi 21 (c.toNat * 6 + z.toNat) (iI k) x = hi x := fun x q1 => F8 x q1
        refine ⟨⟨⟨by rw [ee 16 (by omega)]; exact x0, by rw [ee 16 (by omega)]; exact x1, x2, x3, fun c z k hc hz hk => by rw [ee 17 (by omega)]; exact x4 c z k hc hz hk⟩, fun c hc => by rw [ee 18 (by omega)]; exact g2 c hc, fun c hc => by rw [ee 19 (by omega)]; exact g3 c hc, fun c hc => by rw [ee 20 (by omega)]; exact g4 c hc, fun i hi9 => by rw [ee 23 (by omega)]; exact g5 i hi9, by rw [ee 16 (by omega)]; exact g6, by rw [ee 16 (by omega)]; exact g7⟩, by rw [ee 16 (by omega)]; exact b2, fun i hi9 => by rw [ee 22 (by omega)]; exact b3 i hi9, fun c' z' hc' hz' => ?_⟩
        show en_up hi 21 (c.toNat * 6 + z.toNat) (iI k) 21 (c' * 6 + z') = iI (if c' = c.toNat ∧ z' = z.toNat then k else (zS W).2.2.2 c' z')
        by_cases q : c' = c.toNat ∧ z' = z.toNat
        · rw [q.1, q.2, up_at, if_pos ⟨rfl, rfl⟩]
        · rw [up_ne (Or.inr (by omega)), if_neg q]; exact b4 c' z' hc' hz'
      · rw [if_neg t2]
        simp (disch := omega) only [sh0, lt0, en_ops, en_opc, iI_add, iI_mul, iI_sub, jL_add, jL_mul, iI_le, iI_lt, iI_eq, iI_eq0, iI_lt0, iI_0le, iI_le0, iI_0lt, jL_iI, iI_jL, lc_eq, lc_lt, lc_le, lc_ge, lc_gt, Nat.sub_zero, Nat.zero_le, true_and, and_true, Nat.reduceAdd, Nat.reduceLeDiff]
        exact ⟨fun _ => no (fun g => t2 g.2), fun e => (e (by first | trivial | rfl)).elim⟩
    · rw [if_neg t1]
      simp (disch := omega) only [sh0, lt0, en_ops, en_opc, iI_add, iI_mul, iI_sub, jL_add, jL_mul, iI_le, iI_lt, iI_eq, iI_eq0, iI_lt0, iI_0le, iI_le0, iI_0lt, jL_iI, iI_jL, lc_eq, lc_lt, lc_le, lc_ge, lc_gt, Nat.sub_zero, Nat.zero_le, true_and, and_true, Nat.reduceAdd, Nat.reduceLeDiff]
      exact ⟨fun _ => no (fun g => t1 g.1), fun e => (e (by first | trivial | rfl)).elim⟩
  · rw [if_neg e1]
    rw [if_neg e1] at H
    simp (disch := omega) only [sh0, lt0, en_ops, en_opc, iI_add, iI_mul, iI_sub, jL_add, jL_mul, iI_le, iI_lt, iI_eq, iI_eq0, iI_lt0, iI_0le, iI_le0, iI_0lt, jL_iI, iI_jL, lc_eq, lc_lt, lc_le, lc_ge, lc_gt, Nat.sub_zero, Nat.zero_le, true_and, and_true, Nat.reduceAdd, Nat.reduceLeDiff]
    exact ⟨by omega, by omega, c_needPlace hI hz (by omega) (by omega) (Or.inl rfl) (fun e => absurd e (by decide)) (fun _ hi' I' F' => H.2 0 (by omega) rfl hi' hl hr I' F' Fc.rf Fc.rf)⟩
/-- stones put -/
def ptQ (q : hSt) (c z k : Nat) (v : Int) : hSt := (updF q.1 c z k (q.1 c z k + v), q.2.1, q.2.2.1, fun i => q.2.2.2.1 i + if i = 0 then v else 0, q.2.2.2.2.1 + if k = 2 then v else 0, q.2.2.2.2.2)
theorem c_put {c z k v : Int} (hI : InvC G W hi hr) (hz : zOK n W) (h1 : 2 ≤ xc) (h6 : 12 ≤ xs) (hc : iRg c) (hzr : iRg z) (hk : iRg k) (hv : iRg v) (H : cEnd G W (zPut W (ptQ (zS W).1 c.toNat z.toNat k.toNat v, (zS W).2)) (if inC W c then if inZ W z ∧ (0 ≤ k ∧ k < 3) ∧ 1 ≤ v ∧ v ≤ 999 then 0 else 3 else 1) (.int (iI ((zS W).1.1 c.toNat z.toNat k.toNat + v))) K hi hl hr) : en_Call G (d + 2) xc xs Y_X10_put wN wN [.ref 0, .int (iI c), .int (iI z), .int (iI k), .int (iI v)] hi hl hr K := by
  obtain ⟨r9, hSh, hX⟩ := hI.o
  obtain ⟨nc12, nz6⟩ := hz.c
  obtain ⟨y2, y3, y4, y5, y6, y7, y8⟩ := id hSh
  apply en_X10_put
  simp (disch := omega) only [B_X10_put_0, sh0, lt0, en_ops, en_opc, iI_add, iI_mul, iI_sub, jL_add, jL_mul, iI_le, iI_lt, iI_eq, iI_eq0, iI_lt0, iI_0le, iI_le0, iI_0lt, jL_iI, iI_jL, lc_eq, lc_lt, lc_le, lc_ge, lc_gt, Nat.sub_zero, Nat.zero_le, true_and, and_true, Nat.reduceAdd, Nat.reduceLeDiff]
  refine c_isCell hI hz hc ?_
  by_cases e1 : inC W c
  · rw [if_pos e1]
    rw [if_pos e1] at H
    simp (disch := omega) only [sh0, lt0, en_ops, en_opc, iI_add, iI_mul, iI_sub, jL_add, jL_mul, iI_le, iI_lt, iI_eq, iI_eq0, iI_lt0, iI_0le, iI_le0, iI_0lt, jL_iI, iI_jL, lc_eq, lc_lt, lc_le, lc_ge, lc_gt, Nat.sub_zero, Nat.zero_le, true_and, and_true, Nat.reduceAdd, Nat.reduceLeDiff]
    refine ⟨by omega, by omega, c_needPlace hI hz (by omega) (by omega) (Or.inr rfl) (fun _ => ?_) (fun e => absurd e (by decide))⟩
    simp (disch := omega) only [sh0, lt0, en_ops, en_opc, iI_add, iI_mul, iI_sub, jL_add, jL_mul, iI_le, iI_lt, iI_eq, iI_eq0, iI_lt0, iI_0le, iI_le0, iI_0lt, jL_iI, iI_jL, lc_eq, lc_lt, lc_le, lc_ge, lc_gt, Nat.sub_zero, Nat.zero_le, true_and, and_true, Nat.reduceAdd, Nat.reduceLeDiff]
    have no : ¬ (inZ W z ∧ (0 ≤ k ∧ k < 3) ∧ 1 ≤ v ∧ v ≤ 999) → en_V G Y_X10_put (d + 2) wN wN K 42 [.ref 0, .int (iI c), .int (iI z), .int (iI k), .int (iI v), jk] [.int (iI 0), .ref 0] hi hl hr (xc - 1) (xs - 6) := fun e => by
      rw [if_neg e] at H
      apply s_X10_put_42
      simp (disch := omega) only [B_X10_put_42, sh0, lt0, en_ops, en_opc, iI_add, iI_mul, iI_sub, jL_add, jL_mul, iI_le, iI_lt, iI_eq, iI_eq0, iI_lt0, iI_0le, iI_le0, iI_0lt, jL_iI, iI_jL, lc_eq, lc_lt, lc_le, lc_ge, lc_gt, Nat.sub_zero, Nat.zero_le, true_and, and_true, Nat.reduceAdd, Nat.reduceLeDiff]
      exact ⟨by omega, by omega, c_needRight hI hz (Nat.le_refl _) (Nat.le_refl _) (Or.inl rfl) (fun e => absurd e (by decide)) (fun _ hi' I' F' => H.2 2 (by omega) rfl hi' hl hr I' F' Fc.rf Fc.rf)⟩
    refine c_isSize hI hz hzr ?_
    by_cases t1 : inZ W z
    · rw [if_pos t1]
      simp (disch := omega) only [sh0, lt0, en_ops, en_opc, iI_add, iI_mul, iI_sub, jL_add, jL_mul, iI_le, iI_lt, iI_eq, iI_eq0, iI_lt0, iI_0le, iI_le0, iI_0lt, jL_iI, iI_jL, lc_eq, lc_lt, lc_le, lc_ge, lc_gt, Nat.sub_zero, Nat.zero_le, true_and, and_true, Nat.reduceAdd, Nat.reduceLeDiff]
      refine ⟨fun e => absurd e (by decide), fun _ => c_isStuff hk ?_⟩
      by_cases t2 : 0 ≤ k ∧ k < 3
      · rw [if_pos t2]
        simp (disch := omega) only [sh0, lt0, en_ops, en_opc, iI_add, iI_mul, iI_sub, jL_add, jL_mul, iI_le, iI_lt, iI_eq, iI_eq0, iI_lt0, iI_0le, iI_le0, iI_0lt, jL_iI, iI_jL, lc_eq, lc_lt, lc_le, lc_ge, lc_gt, Nat.sub_zero, Nat.zero_le, true_and, and_true, Nat.reduceAdd, Nat.reduceLeDiff]
        refine ⟨fun e => absurd e (by decide), fun _ => c_isWithin hv (iRg_i (by decide) (by decide)) (iRg_i (by decide) (by decide)) ?_⟩
        by_cases t3 : 1 ≤ v ∧ v ≤ 999
        · rw [if_pos t3]
          rw [if_pos ⟨t1, t2, t3⟩] at H
          simp (disch := omega) only [sh0, lt0, en_ops, en_opc, iI_add, iI_mul, iI_sub, jL_add, jL_mul, iI_le, iI_lt, iI_eq, iI_eq0, iI_lt0, iI_0le, iI_le0, iI_0lt, jL_iI, iI_jL, lc_eq, lc_lt, lc_le, lc_ge, lc_gt, Nat.sub_zero, Nat.zero_le, true_and, and_true, Nat.reduceAdd, Nat.reduceLeDiff]
          refine ⟨fun e => absurd e (by decide), fun _ => ?_⟩
          apply s_X10_put_42
          simp (disch := omega) only [B_X10_put_42, sh0, lt0, en_ops, en_opc, iI_add, iI_mul, iI_sub, jL_add, jL_mul, iI_le, iI_lt, iI_eq, iI_eq0, iI_lt0, iI_0le, iI_le0, iI_0lt, jL_iI, iI_jL, lc_eq, lc_lt, lc_le, lc_ge, lc_gt, Nat.sub_zero, Nat.zero_le, true_and, and_true, Nat.reduceAdd, Nat.reduceLeDiff]
          refine ⟨by omega, by omega, c_needRight hI hz (Nat.le_refl _) (Nat.le_refl _) (Or.inr rfl) (fun _ => ?_) (fun e => absurd e (by decide))⟩
          have Hx := H.1 rfl
          simp (disch := omega) only [en_ops, en_opc, iI_add, iI_mul, iI_sub, jL_add, jL_mul, iI_le, iI_lt, iI_eq, iI_eq0, iI_lt0, iI_0le, iI_le0, iI_0lt, jL_iI, iI_jL, lc_eq, lc_lt, lc_le, lc_ge, lc_gt, Nat.sub_zero, Nat.zero_le, true_and, and_true, Nat.reduceAdd, Nat.reduceLeDiff]
          refine t_heapAt ?_
          obtain ⟨⟨⟨x0, x1, x2, x3, x4⟩, g2, g3, g4, g5, g6, g7⟩, b2, b3, b4⟩ := hX
          have hv9 := x4 c.toNat z.toNat k.toNat (by omega) (by omega) (by omega)
          simp (disch := omega) only [r9, sh0, lt0, sh16, lt16, en_ops, en_opc, iI_add, iI_mul, iI_sub, jL_add, jL_mul, iI_le, iI_lt, iI_eq, iI_eq0, iI_lt0, iI_0le, iI_le0, iI_0lt, jL_iI, iI_jL, lc_eq, lc_lt, lc_le, lc_ge, lc_gt, Nat.sub_zero, Nat.zero_le, true_and, and_true, Nat.reduceAdd, Nat.reduceLeDiff]
          rw [show (c * 6 + z) * 3 + k = (((c.toNat * 6 + z.toNat) * 3 + k.toNat : Nat) : Int) by omega]
          refine t_add is16 hSh (by omega) hv9 g6 ?_
          generalize hg : addH 16 ((c.toNat * 6 + z.toNat) * 3 + k.toNat) hi ((zS W).1.1 c.toNat z.toNat k.toNat + v) ((zS W).1.2.2.2.2.1 + v) = h8
          have h8e : h8 = if k.toNat = 2 then en_up (en_up hi 17 ((c.toNat * 6 + z.toNat) * 3 + k.toNat) (iI ((zS W).1.1 c.toNat z.toNat k.toNat + v))) 16 10 (iI ((zS W).1.2.2.2.2.1 + v)) else en_up hi 17 ((c.toNat * 6 + z.toNat) * 3 + k.toNat) (iI ((zS W).1.1 c.toNat z.toNat k.toNat + v)) := by
            rw [← hg]; unfold addH
            by_cases q : k.toNat = 2
            · rw [if_pos q, if_pos (by omega)]
            · rw [if_neg q, if_neg (by omega)]
          have F8 : Fr (fun x => x = 16 ∨ x = 17) hi h8 := by rw [h8e]; split; exact Fr.up (Fr.up Fr.rf (Or.inr rfl)) (Or.inl rfl); exact Fr.up Fr.rf (Or.inr rfl)
          have e16 : ∀ j, j ≠ 10 → h8 16 j = hi 16 j := fun j hj => by rw [h8e]; split; rw [up_ne (Or.inr hj), up_row (by omega)]; rw [up_row (by omega)]
          have e10 : h8 16 10 = iI ((zS W).1.2.2.2.2.1 + if k.toNat = 2 then v else 0) := by
            rw [h8e]
            by_cases q : k.toNat = 2
            · rw [if_pos q, if_pos q, up_at]
            · rw [if_neg q, if_neg q, up_row (by omega), Int.add_zero]; exact g6
          have e17 : h8 17 = en_up hi 17 ((c.toNat * 6 + z.toNat) * 3 + k.toNat) (iI ((zS W).1.1 c.toNat z.toNat k.toNat + v)) 17 := by rw [h8e]; split; rw [up_row (show (17 : Nat) ≠ 16 by decide)]; rfl
          have ee : ∀ x, x ≠ 16 → x ≠ 17 → h8 x = hi x := fun x q1 q2 => F8 x (fun g => by omega)
          simp (disch := omega) only [r9, y2, y8, sh0, lt0, sh16, lt16, sh17, lt17, sh23, lt23, en_ops, en_opc, iI_add, iI_mul, iI_sub, jL_add, jL_mul, iI_le, iI_lt, iI_eq, iI_eq0, iI_lt0, iI_0le, iI_le0, iI_0lt, jL_iI, iI_jL, lc_eq, lc_lt, lc_le, lc_ge, lc_gt, Nat.sub_zero, Nat.zero_le, true_and, and_true, Nat.reduceAdd, Nat.reduceLeDiff]
          refine ⟨0, rfl, by decide, 0, rfl, by decide, (c.toNat * 6 + z.toNat) * 3 + k.toNat, rfl, by omega, ?_⟩
          rw [up_row (show (17 : Nat) ≠ 23 by decide), e17, up_at, ee 23 (by omega) (by omega), show hi 23 0 = iI ((zS W).1.2.2.2.1 0) from g5 0 (by omega), iI_add]
          have F9 : Fr (fun x => x = 16 ∨ x = 17 ∨ x = 23) hi (en_up h8 23 0 (iI ((zS W).1.2.2.2.1 0 + v))) := Fr.up (F8.mono (fun x g => by omega)) (Or.inr (Or.inr rfl))
          refine Hx _ hl hr (hI.sh16 hz F9 (fun x g => by omega) ?_) (F16 F9 (fun x g => by omega)) Fc.rf Fc.rf
          have u : ∀ x, x ≠ 23 → en_up h8 23 0 (iI ((zS W).1.2.2.2.1 0 + v)) x = h8 x := fun x q => up_row q
          refine ⟨⟨⟨by rw [u 16 (by omega), e16 0 (by omega)]; exact x0, by rw [u 16 (by omega), e16 1 (by omega)]; exact x1, x2, x3, fun c' z' k' hc' hz' hk' => ?_⟩, fun c hc => by rw [u 18 (by omega), ee 18 (by omega) (by omega)]; exact g2 c hc, fun c hc => by rw [u 19 (by omega), ee 19 (by omega) (by omega)]; exact g3 c hc, fun c hc => by rw [u 20 (by omega), ee 20 (by omega) (by omega)]; exact g4 c hc, fun i hi9 => ?_, by rw [u 16 (by omega)]; exact e10, by rw [u 16 (by omega), e16 11 (by omega)]; exact g7⟩, by rw [u 16 (by omega), e16 8 (by omega)]; exact b2, fun i hi9 => by rw [u 22 (by omega), ee 22 (by omega) (by omega)]; exact b3 i hi9, fun c z hc hz9 => by rw [u 21 (by omega), ee 21 (by omega) (by omega)]; exact b4 c z hc hz9⟩
          · rw [u 17 (by omega), e17]
            show en_up hi 17 ((c.toNat * 6 + z.toNat) * 3 + k.toNat) (iI ((zS W).1.1 c.toNat z.toNat k.toNat + v)) 17 ((c' * 6 + z') * 3 + k') = iI (updF (zS W).1.1 c.toNat z.toNat k.toNat ((zS W).1.1 c.toNat z.toNat k.toNat + v) c' z' k')
            unfold updF
            by_cases q : (c' * 6 + z') * 3 + k' = (c.toNat * 6 + z.toNat) * 3 + k.toNat
            · rw [q, up_at, if_pos ((ix_inj (by omega) (by omega) hz' hk').mp q)]
            · rw [up_ne (Or.inr q), if_neg (fun g => q (by rw [g.1, g.2.1, g.2.2]))]; exact x4 c' z' k' hc' hz' hk'
          · show en_up h8 23 0 (iI ((zS W).1.2.2.2.1 0 + v)) 23 i = iI ((zS W).1.2.2.2.1 i + if i = 0 then v else 0)
            by_cases q : i = 0
            · rw [q, up_at, if_pos rfl]
            · rw [up_ne (Or.inr q), if_neg q, Int.add_zero, ee 23 (by omega) (by omega)]; exact g5 i hi9
        · rw [if_neg t3]
          simp (disch := omega) only [sh0, lt0, en_ops, en_opc, iI_add, iI_mul, iI_sub, jL_add, jL_mul, iI_le, iI_lt, iI_eq, iI_eq0, iI_lt0, iI_0le, iI_le0, iI_0lt, jL_iI, iI_jL, lc_eq, lc_lt, lc_le, lc_ge, lc_gt, Nat.sub_zero, Nat.zero_le, true_and, and_true, Nat.reduceAdd, Nat.reduceLeDiff]
          exact ⟨fun _ => no (fun g => t3 g.2.2), fun e => (e (by first | trivial | rfl)).elim⟩
      · rw [if_neg t2]
        simp (disch := omega) only [sh0, lt0, en_ops, en_opc, iI_add, iI_mul, iI_sub, jL_add, jL_mul, iI_le, iI_lt, iI_eq, iI_eq0, iI_lt0, iI_0le, iI_le0, iI_0lt, jL_iI, iI_jL, lc_eq, lc_lt, lc_le, lc_ge, lc_gt, Nat.sub_zero, Nat.zero_le, true_and, and_true, Nat.reduceAdd, Nat.reduceLeDiff]
        exact ⟨fun _ => no (fun g => t2 g.2.1), fun e => (e (by first | trivial | rfl)).elim⟩
    · rw [if_neg t1]
      simp (disch := omega) only [sh0, lt0, en_ops, en_opc, iI_add, iI_mul, iI_sub, jL_add, jL_mul, iI_le, iI_lt, iI_eq, iI_eq0, iI_lt0, iI_0le, iI_le0, iI_0lt, jL_iI, iI_jL, lc_eq, lc_lt, lc_le, lc_ge, lc_gt, Nat.sub_zero, Nat.zero_le, true_and, and_true, Nat.reduceAdd, Nat.reduceLeDiff]
      exact ⟨fun _ => no (fun g => t1 g.1), fun e => (e (by first | trivial | rfl)).elim⟩
  · rw [if_neg e1]
    rw [if_neg e1] at H
    simp (disch := omega) only [sh0, lt0, en_ops, en_opc, iI_add, iI_mul, iI_sub, jL_add, jL_mul, iI_le, iI_lt, iI_eq, iI_eq0, iI_lt0, iI_0le, iI_le0, iI_0lt, jL_iI, iI_jL, lc_eq, lc_lt, lc_le, lc_ge, lc_gt, Nat.sub_zero, Nat.zero_le, true_and, and_true, Nat.reduceAdd, Nat.reduceLeDiff]
    exact ⟨by omega, by omega, c_needPlace hI hz (by omega) (by omega) (Or.inl rfl) (fun e => absurd e (by decide)) (fun _ hi' I' F' => H.2 0 (by omega) rfl hi' hl hr I' F' Fc.rf Fc.rf)⟩
end
