section
variable {G : en_G} {d : Nat} {K : en_K} {X : tTx} {z : tZ} {B : bSt} {i q p0 : Nat} {hi : en_I} {hl : en_L} {hr : en_F} {xc xs : Nat}
theorem n_isClause (H : ∀ b : Int, (b = 1 ∧ bK (wdE X q) ≠ 7) ∨ (b = 0 ∧ bK (wdE X q) = 7) → K (.inl (some (.int (iI b)))) hi hl hr) : en_Call G (d + 6) xc xs Y_X11_isClause wN wN [.int (iI (wdE X q : Int))] hi hl hr K := by
  have wl := wd_lt X q
  apply en_X11_isClause
  simp (disch := omega) only [B_X11_isClause_0, en_ops, en_opc, iI_add, iI_mul, iI_sub, jL_add, jL_mul, iI_le, iI_lt, iI_eq, iI_eq0, iI_lt0, iI_0le, iI_le0, iI_0lt, jL_iI, iI_jL, lc_eq, lc_lt, lc_le, lc_ge, lc_gt, Nat.sub_zero, Nat.zero_le, true_and, and_true, Nat.reduceAdd, Nat.reduceLeDiff]
  refine m_of (d := d) (j := 32) iw32 ?_
  rw [pk32]
  simp (disch := omega) only [en_ops, en_opc, iI_add, iI_mul, iI_sub, jL_add, jL_mul, iI_le, iI_lt, iI_eq, iI_eq0, iI_lt0, iI_0le, iI_le0, iI_0lt, jL_iI, iI_jL, lc_eq, lc_lt, lc_le, lc_ge, lc_gt, Nat.sub_zero, Nat.zero_le, true_and, and_true, Nat.reduceAdd, Nat.reduceLeDiff]
  by_cases w1 : wdE X q = 3322259
  · exact ⟨fun _ => ⟨rfl, H 1 (Or.inl ⟨rfl, by rw [bK_0.mpr w1]; decide⟩)⟩, fun g => absurd (show (wdE X q : Int) = _ by omega) g⟩
  refine ⟨fun g => absurd (show (wdE X q : Int) = _ from g) (by omega), fun _ => ?_⟩
  refine m_of (d := d) (j := 33) iw33 ?_
  rw [pk33]
  simp (disch := omega) only [en_ops, en_opc, iI_add, iI_mul, iI_sub, jL_add, jL_mul, iI_le, iI_lt, iI_eq, iI_eq0, iI_lt0, iI_0le, iI_le0, iI_0lt, jL_iI, iI_jL, lc_eq, lc_lt, lc_le, lc_ge, lc_gt, Nat.sub_zero, Nat.zero_le, true_and, and_true, Nat.reduceAdd, Nat.reduceLeDiff]
  by_cases w2 : wdE X q = 20244659
  · exact ⟨fun _ => ⟨rfl, H 1 (Or.inl ⟨rfl, by rw [bK_1.mpr w2]; decide⟩)⟩, fun g => absurd (show (wdE X q : Int) = _ by omega) g⟩
  refine ⟨fun g => absurd (show (wdE X q : Int) = _ from g) (by omega), fun _ => ?_⟩
  refine m_of (d := d) (j := 34) iw34 ?_
  rw [pk34]
  simp (disch := omega) only [en_ops, en_opc, iI_add, iI_mul, iI_sub, jL_add, jL_mul, iI_le, iI_lt, iI_eq, iI_eq0, iI_lt0, iI_0le, iI_le0, iI_0lt, jL_iI, iI_jL, lc_eq, lc_lt, lc_le, lc_ge, lc_gt, Nat.sub_zero, Nat.zero_le, true_and, and_true, Nat.reduceAdd, Nat.reduceLeDiff]
  by_cases w3 : wdE X q = 267312
  · exact ⟨fun _ => ⟨rfl, H 1 (Or.inl ⟨rfl, by rw [bK_2.mpr w3]; decide⟩)⟩, fun g => absurd (show (wdE X q : Int) = _ by omega) g⟩
  refine ⟨fun g => absurd (show (wdE X q : Int) = _ from g) (by omega), fun _ => ?_⟩
  refine m_of (d := d) (j := 35) iw35 ?_
  rw [pk35]
  simp (disch := omega) only [en_ops, en_opc, iI_add, iI_mul, iI_sub, jL_add, jL_mul, iI_le, iI_lt, iI_eq, iI_eq0, iI_lt0, iI_0le, iI_le0, iI_0lt, jL_iI, iI_jL, lc_eq, lc_lt, lc_le, lc_ge, lc_gt, Nat.sub_zero, Nat.zero_le, true_and, and_true, Nat.reduceAdd, Nat.reduceLeDiff]
  by_cases w4 : wdE X q = 3741300
  · exact ⟨fun _ => ⟨rfl, H 1 (Or.inl ⟨rfl, by rw [bK_3.mpr w4]; decide⟩)⟩, fun g => absurd (show (wdE X q : Int) = _ by omega) g⟩
  refine ⟨fun g => absurd (show (wdE X q : Int) = _ from g) (by omega), fun _ => ?_⟩
  refine m_of (d := d) (j := 36) iw36 ?_
  rw [pk36]
  simp (disch := omega) only [en_ops, en_opc, iI_add, iI_mul, iI_sub, jL_add, jL_mul, iI_le, iI_lt, iI_eq, iI_eq0, iI_lt0, iI_0le, iI_le0, iI_0lt, jL_iI, iI_jL, lc_eq, lc_lt, lc_le, lc_ge, lc_gt, Nat.sub_zero, Nat.zero_le, true_and, and_true, Nat.reduceAdd, Nat.reduceLeDiff]
  by_cases w5 : wdE X q = 755084
  · exact ⟨fun _ => ⟨rfl, H 1 (Or.inl ⟨rfl, by rw [bK_4.mpr w5]; decide⟩)⟩, fun g => absurd (show (wdE X q : Int) = _ by omega) g⟩
  refine ⟨fun g => absurd (show (wdE X q : Int) = _ from g) (by omega), fun _ => ?_⟩
  refine m_of (d := d) (j := 37) iw37 ?_
  rw [pk37]
  simp (disch := omega) only [en_ops, en_opc, iI_add, iI_mul, iI_sub, jL_add, jL_mul, iI_le, iI_lt, iI_eq, iI_eq0, iI_lt0, iI_0le, iI_le0, iI_0lt, jL_iI, iI_jL, lc_eq, lc_lt, lc_le, lc_ge, lc_gt, Nat.sub_zero, Nat.zero_le, true_and, and_true, Nat.reduceAdd, Nat.reduceLeDiff]
  by_cases w6 : wdE X q = 654910919
  · exact ⟨fun _ => ⟨rfl, H 1 (Or.inl ⟨rfl, by rw [bK_5.mpr w6]; decide⟩)⟩, fun g => absurd (show (wdE X q : Int) = _ by omega) g⟩
  refine ⟨fun g => absurd (show (wdE X q : Int) = _ from g) (by omega), fun _ => ?_⟩
  refine m_of (d := d) (j := 38) iw38 ?_
  rw [pk38]
  simp (disch := omega) only [en_ops, en_opc, iI_add, iI_mul, iI_sub, jL_add, jL_mul, iI_le, iI_lt, iI_eq, iI_eq0, iI_lt0, iI_0le, iI_le0, iI_0lt, jL_iI, iI_jL, lc_eq, lc_lt, lc_le, lc_ge, lc_gt, Nat.sub_zero, Nat.zero_le, true_and, and_true, Nat.reduceAdd, Nat.reduceLeDiff]
  by_cases w7 : wdE X q = 13093465
  · exact ⟨fun g => absurd (show (wdE X q : Int) = _ by omega) g, fun _ => ⟨rfl, H 1 (Or.inl ⟨rfl, by rw [bK_6.mpr w7]; decide⟩)⟩⟩
  refine ⟨fun _ => ⟨rfl, H 0 (Or.inr ⟨rfl, ?_⟩)⟩, fun g => absurd (show (wdE X q : Int) = _ from g) (by omega)⟩
  have le := bK_le (wdE X q)
  have n0 : ¬ bK (wdE X q) = 0 := fun g => w1 (bK_0.mp g)
  have n1 : ¬ bK (wdE X q) = 1 := fun g => w2 (bK_1.mp g)
  have n2 : ¬ bK (wdE X q) = 2 := fun g => w3 (bK_2.mp g)
  have n3 : ¬ bK (wdE X q) = 3 := fun g => w4 (bK_3.mp g)
  have n4 : ¬ bK (wdE X q) = 4 := fun g => w5 (bK_4.mp g)
  have n5 : ¬ bK (wdE X q) = 5 := fun g => w6 (bK_5.mp g)
  have n6 : ¬ bK (wdE X q) = 6 := fun g => w7 (bK_6.mp g)
  omega
theorem bF_0 {kd : Nat} (h : bFt i B kd = 0) (hB : bOK i B) : kd ≠ 7 ∧ i ≠ 60 ∧ (kd = 5 → bSn B < 8) ∧ (kd = 6 → bLn B < 4) := by
  have s8 := hB.2.2.2.2.2.2.2.2.2.1.1
  have l4 := hB.2.2.2.2.2.2.2.2.2.2.1
  unfold bFt at h
  by_cases g7 : kd = 7
  · rw [if_pos g7] at h; omega
  rw [if_neg g7] at h
  by_cases g : i = 60 ∨ (kd = 5 ∧ bSn B = 8) ∨ (kd = 6 ∧ bLn B = 4)
  · rw [if_pos g] at h; omega
  · omega
theorem n_clause (hR : rfR hr) (hX : rtS X hi) (h : rtX X (.inr p0) hi) (hP : bqH B hi) (hB : bOK i B) (hft : bFt i B (bK (wdE X q)) = 0) (H : bnK X B (bK (wdE X q)) (.inr p0) hi hl hr K) : en_Call G (d + 6) xc xs Y_X11_readClause wN wN [.ref 110, .int (iI (wdE X q : Int))] hi hl hr K := by
  have wl := wd_lt X q
  have r11 := hR.1.2.2.2.1
  have r13 := hR.1.2.2.2.2.2.1
  have cb := hB.1
  obtain ⟨k7, i60, s8, l4⟩ := bF_0 hft hB
  apply en_X11_readClause
  simp (disch := omega) only [B_X11_readClause_0, en_ops, en_opc, iI_add, iI_mul, iI_sub, jL_add, jL_mul, iI_le, iI_lt, iI_eq, iI_eq0, iI_lt0, iI_0le, iI_le0, iI_0lt, jL_iI, iI_jL, lc_eq, lc_lt, lc_le, lc_ge, lc_gt, Nat.sub_zero, Nat.zero_le, true_and, and_true, Nat.reduceAdd, Nat.reduceLeDiff]
  refine m_of (d := d) (j := 32) iw32 ?_
  rw [pk32]
  simp (disch := omega) only [en_ops, en_opc, iI_add, iI_mul, iI_sub, jL_add, jL_mul, iI_le, iI_lt, iI_eq, iI_eq0, iI_lt0, iI_0le, iI_le0, iI_0lt, jL_iI, iI_jL, lc_eq, lc_lt, lc_le, lc_ge, lc_gt, Nat.sub_zero, Nat.zero_le, true_and, and_true, Nat.reduceAdd, Nat.reduceLeDiff]
  by_cases w1 : wdE X q = 3322259
  · refine ⟨fun g => absurd (show (wdE X q : Int) = _ by omega) g, fun _ => ?_⟩
    rw [bK_0.mpr w1] at H
    simp (disch := omega) only [sh110, lt110, r11, en_ops, en_opc, iI_add, iI_mul, iI_sub, jL_add, jL_mul, iI_le, iI_lt, iI_eq, iI_eq0, iI_lt0, iI_0le, iI_le0, iI_0lt, jL_iI, iI_jL, lc_eq, lc_lt, lc_le, lc_ge, lc_gt, Nat.sub_zero, Nat.zero_le, true_and, and_true, Nat.reduceAdd, Nat.reduceLeDiff]
    refine m_num (d := d + 3) (lo := 2) (up := 12) (by decide) hR hX h (fun h1 v F1 X1 H1 a1 u1 => ?_)
    have P1 : bqH B h1 := hP.fx F1 (fun j w => by have := w.1; omega) (fun j w => by have := w.1; omega)
    simp (disch := omega) only [sh114, lt114, en_ops, en_opc, iI_add, iI_mul, iI_sub, jL_add, jL_mul, iI_le, iI_lt, iI_eq, iI_eq0, iI_lt0, iI_0le, iI_le0, iI_0lt, jL_iI, iI_jL, lc_eq, lc_lt, lc_le, lc_ge, lc_gt, Nat.sub_zero, Nat.zero_le, true_and, and_true, Nat.reduceAdd, Nat.reduceLeDiff]
    refine ⟨0, rfl, by decide, ?_⟩
    have U : Fx (fun a j => a = 114 ∧ j = 0) h1 (en_up h1 114 0 (iI v)) := Fx.up Fx.rf ⟨rfl, rfl⟩
    obtain ⟨X5, H5⟩ := rtX.fw X1 H1 U (fun a j g => Or.inl g.1)
    refine H _ (F1.bq.tr (U.mono (fun a j g => Or.inr (Or.inl g.1)))) X5 H5 (fun q' hq' => ?_)
    have uu := u1 q' hq'
    obtain ⟨m1, m2, m3, m4, m5, ⟨m6, m6'⟩, ⟨m7, m7'⟩, m8⟩ := P1
    refine ⟨?_, by rw [U 114 1 (by decide)]; exact m2, fun j hj => by rw [U 116 j (by omega)]; exact m3 j hj, fun c hc => by rw [U 116 _ (by omega)]; exact m4 c hc, fun c hc => by rw [U 114 _ (by omega)]; exact m5 c hc, ⟨by rw [U 114 2 (by decide)]; exact m6, fun j hj => by rw [U 114 _ (by omega), U 114 _ (by omega), U 114 _ (by omega), U 114 _ (by omega)]; exact m6' j hj⟩, ⟨by rw [U 114 3 (by decide)]; exact m7, fun j hj => by rw [U 114 _ (by omega), U 114 _ (by omega), U 114 _ (by omega), U 114 _ (by omega)]; exact m7' j hj⟩, fun j j1 j2 => by rw [U 116 j (by omega)]; exact m8 j j1 j2⟩
    rw [up_at, uu]
    rfl
  refine ⟨fun _ => ?_, fun g => absurd (show (wdE X q : Int) = _ from g) (by omega)⟩
  refine m_of (d := d) (j := 33) iw33 ?_
  rw [pk33]
  simp (disch := omega) only [en_ops, en_opc, iI_add, iI_mul, iI_sub, jL_add, jL_mul, iI_le, iI_lt, iI_eq, iI_eq0, iI_lt0, iI_0le, iI_le0, iI_0lt, jL_iI, iI_jL, lc_eq, lc_lt, lc_le, lc_ge, lc_gt, Nat.sub_zero, Nat.zero_le, true_and, and_true, Nat.reduceAdd, Nat.reduceLeDiff]
  by_cases w2 : wdE X q = 20244659
  · refine ⟨fun g => absurd (show (wdE X q : Int) = _ by omega) g, fun _ => ?_⟩
    rw [bK_1.mpr w2] at H
    simp (disch := omega) only [sh110, lt110, r11, en_ops, en_opc, iI_add, iI_mul, iI_sub, jL_add, jL_mul, iI_le, iI_lt, iI_eq, iI_eq0, iI_lt0, iI_0le, iI_le0, iI_0lt, jL_iI, iI_jL, lc_eq, lc_lt, lc_le, lc_ge, lc_gt, Nat.sub_zero, Nat.zero_le, true_and, and_true, Nat.reduceAdd, Nat.reduceLeDiff]
    refine m_num (d := d + 3) (lo := 2) (up := 6) (by decide) hR hX h (fun h1 v F1 X1 H1 a1 u1 => ?_)
    have P1 : bqH B h1 := hP.fx F1 (fun j w => by have := w.1; omega) (fun j w => by have := w.1; omega)
    simp (disch := omega) only [sh114, lt114, en_ops, en_opc, iI_add, iI_mul, iI_sub, jL_add, jL_mul, iI_le, iI_lt, iI_eq, iI_eq0, iI_lt0, iI_0le, iI_le0, iI_0lt, jL_iI, iI_jL, lc_eq, lc_lt, lc_le, lc_ge, lc_gt, Nat.sub_zero, Nat.zero_le, true_and, and_true, Nat.reduceAdd, Nat.reduceLeDiff]
    refine ⟨1, rfl, by decide, ?_⟩
    have U : Fx (fun a j => a = 114 ∧ j = 1) h1 (en_up h1 114 1 (iI v)) := Fx.up Fx.rf ⟨rfl, rfl⟩
    obtain ⟨X5, H5⟩ := rtX.fw X1 H1 U (fun a j g => Or.inl g.1)
    refine H _ (F1.bq.tr (U.mono (fun a j g => Or.inr (Or.inl g.1)))) X5 H5 (fun q' hq' => ?_)
    have uu := u1 q' hq'
    obtain ⟨m1, m2, m3, m4, m5, ⟨m6, m6'⟩, ⟨m7, m7'⟩, m8⟩ := P1
    refine ⟨by rw [U 114 0 (by decide)]; exact m1, ?_, fun j hj => by rw [U 116 j (by omega)]; exact m3 j hj, fun c hc => by rw [U 116 _ (by omega)]; exact m4 c hc, fun c hc => by rw [U 114 _ (by omega)]; exact m5 c hc, ⟨by rw [U 114 2 (by decide)]; exact m6, fun j hj => by rw [U 114 _ (by omega), U 114 _ (by omega), U 114 _ (by omega), U 114 _ (by omega)]; exact m6' j hj⟩, ⟨by rw [U 114 3 (by decide)]; exact m7, fun j hj => by rw [U 114 _ (by omega), U 114 _ (by omega), U 114 _ (by omega), U 114 _ (by omega)]; exact m7' j hj⟩, fun j j1 j2 => by rw [U 116 j (by omega)]; exact m8 j j1 j2⟩
    rw [up_at, uu]
    rfl
  refine ⟨fun _ => ?_, fun g => absurd (show (wdE X q : Int) = _ from g) (by omega)⟩
  refine m_of (d := d) (j := 34) iw34 ?_
  rw [pk34]
  simp (disch := omega) only [sh110, lt110, en_ops, en_opc, iI_add, iI_mul, iI_sub, jL_add, jL_mul, iI_le, iI_lt, iI_eq, iI_eq0, iI_lt0, iI_0le, iI_le0, iI_0lt, jL_iI, iI_jL, lc_eq, lc_lt, lc_le, lc_ge, lc_gt, Nat.sub_zero, Nat.zero_le, true_and, and_true, Nat.reduceAdd, Nat.reduceLeDiff]
  by_cases w3 : wdE X q = 267312
  · refine ⟨fun g => absurd (show (wdE X q : Int) = _ by omega) g, fun _ => ?_⟩
    rw [bK_2.mpr w3] at H
    refine n_heap (d := d + 1) hR hX h hP hB (fun hi' F' X' H' R' => ?_)
    simp (disch := omega) only [en_ops, en_opc, iI_add, iI_mul, iI_sub, jL_add, jL_mul, iI_le, iI_lt, iI_eq, iI_eq0, iI_lt0, iI_0le, iI_le0, iI_0lt, jL_iI, iI_jL, lc_eq, lc_lt, lc_le, lc_ge, lc_gt, Nat.sub_zero, Nat.zero_le, true_and, and_true, Nat.reduceAdd, Nat.reduceLeDiff]
    exact H hi' F' X' H' R'
  refine ⟨fun _ => ?_, fun g => absurd (show (wdE X q : Int) = _ from g) (by omega)⟩
  refine m_of (d := d) (j := 35) iw35 ?_
  rw [pk35]
  simp (disch := omega) only [sh110, lt110, en_ops, en_opc, iI_add, iI_mul, iI_sub, jL_add, jL_mul, iI_le, iI_lt, iI_eq, iI_eq0, iI_lt0, iI_0le, iI_le0, iI_0lt, jL_iI, iI_jL, lc_eq, lc_lt, lc_le, lc_ge, lc_gt, Nat.sub_zero, Nat.zero_le, true_and, and_true, Nat.reduceAdd, Nat.reduceLeDiff]
  by_cases w4 : wdE X q = 3741300
  · refine ⟨fun g => absurd (show (wdE X q : Int) = _ by omega) g, fun _ => ?_⟩
    rw [bK_3.mpr w4] at H
    obtain ⟨y1, y2, y3, y4⟩ := ba_3 (X := X) (B := B) (z := .inr p0)
    refine n_cell (d := d + 2) hR hX h hP.1 hB.1 (fun h1 v1 F1 X1 H1 a1 b1 u1 => ?_)
    rw [← y1] at H1 u1
    simp (disch := omega) only [sh110, lt110, en_ops, en_opc, iI_add, iI_mul, iI_sub, jL_add, jL_mul, iI_le, iI_lt, iI_eq, iI_eq0, iI_lt0, iI_0le, iI_le0, iI_0lt, jL_iI, iI_jL, lc_eq, lc_lt, lc_le, lc_ge, lc_gt, Nat.sub_zero, Nat.zero_le, true_and, and_true, Nat.reduceAdd, Nat.reduceLeDiff]
    refine m_num (d := d + 3) (lo := 1) (up := 60) (by decide) hR X1 H1 (fun h2 v2 F2 X2 H2 a2 u2 => ?_)
    rw [← y2] at H2 u2
    have F12 : Fx Prd hi h2 := F1.tr F2
    have P2 : bqH B h2 := hP.fx F12 (fun j w => by have := w.1; omega) (fun j w => by have := w.1; omega)
    simp (disch := omega) only [sh110, lt110, en_ops, en_opc, iI_add, iI_mul, iI_sub, jL_add, jL_mul, iI_le, iI_lt, iI_eq, iI_eq0, iI_lt0, iI_0le, iI_le0, iI_0lt, jL_iI, iI_jL, lc_eq, lc_lt, lc_le, lc_ge, lc_gt, Nat.sub_zero, Nat.zero_le, true_and, and_true, Nat.reduceAdd, Nat.reduceLeDiff]
    refine m_fineZ (d := d + 4) H2 (fun b hb => ?_)
    simp (disch := omega) only [sh110, lt110, r13, en_ops, en_opc, iI_add, iI_mul, iI_sub, jL_add, jL_mul, iI_le, iI_lt, iI_eq, iI_eq0, iI_lt0, iI_0le, iI_le0, iI_0lt, jL_iI, iI_jL, lc_eq, lc_lt, lc_le, lc_ge, lc_gt, Nat.sub_zero, Nat.zero_le, true_and, and_true, Nat.reduceAdd, Nat.reduceLeDiff]
    rcases hb with ⟨rfl, q4, e4⟩ | ⟨rfl, e4, he4⟩
    rotate_left
    · exact ⟨fun _ => H h2 F12.bq X2 (by rw [y4]; exact H2) (fun q' hq' => by rw [y4, he4] at hq'; cases hq'), fun g => (g (by first | trivial | rfl)).elim⟩
    refine ⟨fun g => absurd g (by decide), fun _ => ?_⟩
    simp (disch := omega) only [sh116, lt116, en_ops, en_opc, iI_add, iI_mul, iI_sub, jL_add, jL_mul, iI_le, iI_lt, iI_eq, iI_eq0, iI_lt0, iI_0le, iI_le0, iI_0lt, jL_iI, iI_jL, lc_eq, lc_lt, lc_le, lc_ge, lc_gt, Nat.sub_zero, Nat.zero_le, true_and, and_true, Nat.reduceAdd, Nat.reduceLeDiff]
    refine ⟨576 + v1.toNat, iI_eq_of (by omega), by omega, ?_⟩
    have U : Fx (fun a j => a = 116 ∧ j = 576 + v1.toNat) h2 (en_up h2 116 (576 + v1.toNat) (iI v2)) := Fx.up Fx.rf ⟨rfl, rfl⟩
    obtain ⟨X5, H5⟩ := rtX.fw X2 H2 U (fun a j g => Or.inr g.1)
    refine H _ (F12.bq.tr (U.mono (fun a j g => Or.inr (Or.inr g.1)))) X5 (by rw [y4]; exact H5) (fun q' _ => ?_)
    have t2 := u2 _ e4
    rw [y2] at e4
    obtain ⟨p1, x1, -⟩ := zNm_i e4
    have t1 := u1 _ x1
    rw [show zVa X (.inr p0) = v1.toNat by omega, show zVa X (bA1 X B 3 (.inr p0)) = v2.toNat by omega]
    obtain ⟨m1, m2, m3, m4, m5, m6, m7, m8⟩ := P2
    have er : en_up h2 116 (576 + v1.toNat) (iI v2) 114 = h2 114 := up_row (by decide)
    refine ⟨by rw [er]; exact m1, by rw [er]; exact m2, fun j hj => by rw [U 116 j (by omega)]; exact m3 j hj, fun c hc => ?_, by rw [er]; exact m5, by rw [er]; exact m6, by rw [er]; exact m7, fun j j1 j2 => by rw [U 116 j (by omega)]; exact m8 j j1 j2⟩
    show _ = iI (if c = v1.toNat then ((v2.toNat : Nat) : Int) else bR B c)
    by_cases ec : c = v1.toNat
    · rw [if_pos ec, ec, up_at]
      exact iI_eq_of (by omega)
    · rw [if_neg ec, U 116 _ (by omega)]
      exact m4 c hc
  refine ⟨fun _ => ?_, fun g => absurd (show (wdE X q : Int) = _ from g) (by omega)⟩
  refine m_of (d := d) (j := 36) iw36 ?_
  rw [pk36]
  simp (disch := omega) only [sh110, lt110, r11, sh114, lt114, en_ops, en_opc, iI_add, iI_mul, iI_sub, jL_add, jL_mul, iI_le, iI_lt, iI_eq, iI_eq0, iI_lt0, iI_0le, iI_le0, iI_0lt, jL_iI, iI_jL, lc_eq, lc_lt, lc_le, lc_ge, lc_gt, Nat.sub_zero, Nat.zero_le, true_and, and_true, Nat.reduceAdd, Nat.reduceLeDiff]
  by_cases w5 : wdE X q = 755084
  · refine ⟨fun g => absurd (show (wdE X q : Int) = _ by omega) g, fun _ => ?_⟩
    rw [bK_4.mpr w5] at H
    obtain ⟨y1, y2, y3, y4⟩ := ba_4 (X := X) (B := B) (z := .inr p0)
    refine ⟨0, rfl, by decide, ?_⟩
    rw [hP.1]
    simp (disch := omega) only [sh110, lt110, en_ops, en_opc, iI_add, iI_mul, iI_sub, jL_add, jL_mul, iI_le, iI_lt, iI_eq, iI_eq0, iI_lt0, iI_0le, iI_le0, iI_0lt, jL_iI, iI_jL, lc_eq, lc_lt, lc_le, lc_ge, lc_gt, Nat.sub_zero, Nat.zero_le, true_and, and_true, Nat.reduceAdd, Nat.reduceLeDiff]
    refine m_num (d := d + 3) (lo := 0) (up := (bC B : Int) - 2) (by omega) hR hX h (fun h1 v1 F1 X1 H1 a1 u1 => ?_)
    rw [← y1] at H1 u1
    simp (disch := omega) only [sh110, lt110, en_ops, en_opc, iI_add, iI_mul, iI_sub, jL_add, jL_mul, iI_le, iI_lt, iI_eq, iI_eq0, iI_lt0, iI_0le, iI_le0, iI_0lt, jL_iI, iI_jL, lc_eq, lc_lt, lc_le, lc_ge, lc_gt, Nat.sub_zero, Nat.zero_le, true_and, and_true, Nat.reduceAdd, Nat.reduceLeDiff]
    refine m_num (d := d + 3) (lo := 1) (up := 16) (by decide) hR X1 H1 (fun h2 v2 F2 X2 H2 a2 u2 => ?_)
    rw [← y2] at H2 u2
    have F12 : Fx Prd hi h2 := F1.tr F2
    have P2 : bqH B h2 := hP.fx F12 (fun j w => by have := w.1; omega) (fun j w => by have := w.1; omega)
    simp (disch := omega) only [sh110, lt110, en_ops, en_opc, iI_add, iI_mul, iI_sub, jL_add, jL_mul, iI_le, iI_lt, iI_eq, iI_eq0, iI_lt0, iI_0le, iI_le0, iI_0lt, jL_iI, iI_jL, lc_eq, lc_lt, lc_le, lc_ge, lc_gt, Nat.sub_zero, Nat.zero_le, true_and, and_true, Nat.reduceAdd, Nat.reduceLeDiff]
    refine m_fineZ (d := d + 4) H2 (fun b hb => ?_)
    simp (disch := omega) only [sh110, lt110, r11, en_ops, en_opc, iI_add, iI_mul, iI_sub, jL_add, jL_mul, iI_le, iI_lt, iI_eq, iI_eq0, iI_lt0, iI_0le, iI_le0, iI_0lt, jL_iI, iI_jL, lc_eq, lc_lt, lc_le, lc_ge, lc_gt, Nat.sub_zero, Nat.zero_le, true_and, and_true, Nat.reduceAdd, Nat.reduceLeDiff]
    rcases hb with ⟨rfl, q4, e4⟩ | ⟨rfl, e4, he4⟩
    rotate_left
    · exact ⟨fun _ => H h2 F12.bq X2 (by rw [y4]; exact H2) (fun q' hq' => by rw [y4, he4] at hq'; cases hq'), fun g => (g (by first | trivial | rfl)).elim⟩
    refine ⟨fun g => absurd g (by decide), fun _ => ?_⟩
    simp (disch := omega) only [sh114, lt114, en_ops, en_opc, iI_add, iI_mul, iI_sub, jL_add, jL_mul, iI_le, iI_lt, iI_eq, iI_eq0, iI_lt0, iI_0le, iI_le0, iI_0lt, jL_iI, iI_jL, lc_eq, lc_lt, lc_le, lc_ge, lc_gt, Nat.sub_zero, Nat.zero_le, true_and, and_true, Nat.reduceAdd, Nat.reduceLeDiff]
    refine ⟨52 + v1.toNat, iI_eq_of (by omega), by omega, ?_⟩
    have U : Fx (fun a j => a = 114 ∧ j = 52 + v1.toNat) h2 (en_up h2 114 (52 + v1.toNat) (iI v2)) := Fx.up Fx.rf ⟨rfl, rfl⟩
    obtain ⟨X5, H5⟩ := rtX.fw X2 H2 U (fun a j g => Or.inl g.1)
    refine H _ (F12.bq.tr (U.mono (fun a j g => Or.inr (Or.inl g.1)))) X5 (by rw [y4]; exact H5) (fun q' _ => ?_)
    have t2 := u2 _ e4
    rw [y2] at e4
    obtain ⟨p1, x1, -⟩ := zNm_i e4
    have t1 := u1 _ x1
    rw [show zVa X (.inr p0) = v1.toNat by omega, show zVa X (bA1 X B 4 (.inr p0)) = v2.toNat by omega]
    have sn8 := hB.2.2.2.2.2.2.2.2.2.1.1
    have ln4 := hB.2.2.2.2.2.2.2.2.2.2.1
    obtain ⟨m1, m2, m3, m4, m5, ⟨m6, m6'⟩, ⟨m7, m7'⟩, m8⟩ := P2
    refine ⟨by rw [U 114 0 (by omega)]; exact m1, by rw [U 114 1 (by omega)]; exact m2, fun j hj => by rw [U 116 j (by omega)]; exact m3 j hj, fun c hc => by rw [U 116 _ (by omega)]; exact m4 c hc, fun c hc => ?_, ⟨by rw [U 114 2 (by omega)]; exact m6, fun j hj => ?_⟩, ⟨by rw [U 114 3 (by omega)]; exact m7, fun j hj => ?_⟩, fun j j1 j2 => by rw [U 116 j (by omega)]; exact m8 j j1 j2⟩
    · show _ = iI (if c = v1.toNat then ((v2.toNat : Nat) : Int) else bL B c)
      by_cases ec : c = v1.toNat
      · rw [if_pos ec, ec, up_at]
        exact iI_eq_of (by omega)
      · rw [if_neg ec, U 114 _ (by omega)]
        exact m5 c hc
    · replace hj : j < bSn B := hj
      rw [U 114 _ (by omega), U 114 _ (by omega), U 114 _ (by omega), U 114 _ (by omega)]; exact m6' j hj
    · replace hj : j < bLn B := hj
      rw [U 114 _ (by omega), U 114 _ (by omega), U 114 _ (by omega), U 114 _ (by omega)]; exact m7' j hj
  refine ⟨fun _ => ?_, fun g => absurd (show (wdE X q : Int) = _ from g) (by omega)⟩
  refine m_of (d := d) (j := 37) iw37 ?_
  rw [pk37]
  simp (disch := omega) only [sh110, lt110, en_ops, en_opc, iI_add, iI_mul, iI_sub, jL_add, jL_mul, iI_le, iI_lt, iI_eq, iI_eq0, iI_lt0, iI_0le, iI_le0, iI_0lt, jL_iI, iI_jL, lc_eq, lc_lt, lc_le, lc_ge, lc_gt, Nat.sub_zero, Nat.zero_le, true_and, and_true, Nat.reduceAdd, Nat.reduceLeDiff]
  by_cases w6 : wdE X q = 654910919
  · refine ⟨fun g => absurd (show (wdE X q : Int) = _ by omega) g, fun _ => ?_⟩
    have e5 := bK_5.mpr w6
    rw [e5] at H
    refine n_spring (d := d + 1) hR hX h hP hB (s8 e5) (fun hi' F' X' H' R' => ?_)
    simp (disch := omega) only [en_ops, en_opc, iI_add, iI_mul, iI_sub, jL_add, jL_mul, iI_le, iI_lt, iI_eq, iI_eq0, iI_lt0, iI_0le, iI_le0, iI_0lt, jL_iI, iI_jL, lc_eq, lc_lt, lc_le, lc_ge, lc_gt, Nat.sub_zero, Nat.zero_le, true_and, and_true, Nat.reduceAdd, Nat.reduceLeDiff]
    exact H hi' F' X' H' R'
  refine ⟨fun _ => ?_, fun g => absurd (show (wdE X q : Int) = _ from g) (by omega)⟩
  have e6 : bK (wdE X q) = 6 := by
    have le := bK_le (wdE X q)
    have n0 : ¬ bK (wdE X q) = 0 := fun g => w1 (bK_0.mp g)
    have n1 : ¬ bK (wdE X q) = 1 := fun g => w2 (bK_1.mp g)
    have n2 : ¬ bK (wdE X q) = 2 := fun g => w3 (bK_2.mp g)
    have n3 : ¬ bK (wdE X q) = 3 := fun g => w4 (bK_3.mp g)
    have n4 : ¬ bK (wdE X q) = 4 := fun g => w5 (bK_4.mp g)
    have n5 : ¬ bK (wdE X q) = 5 := fun g => w6 (bK_5.mp g)
    omega
  rw [e6] at H
  refine n_lorry (d := d + 1) hR hX h hP hB (l4 e6) (fun hi' F' X' H' R' => ?_)
  simp (disch := omega) only [en_ops, en_opc, iI_add, iI_mul, iI_sub, jL_add, jL_mul, iI_le, iI_lt, iI_eq, iI_eq0, iI_lt0, iI_0le, iI_le0, iI_0lt, jL_iI, iI_jL, lc_eq, lc_lt, lc_le, lc_ge, lc_gt, Nat.sub_zero, Nat.zero_le, true_and, and_true, Nat.reduceAdd, Nat.reduceLeDiff]
  exact H hi' F' X' H' R'
end
