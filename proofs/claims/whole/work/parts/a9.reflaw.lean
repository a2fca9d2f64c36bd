section
variable {G : en_G} {X : tTx} {l : Nat}
theorem at_wd {q j : Nat} (hj : isWd j) (h : wdE X q = pkJ j) : atE X q = q + (en_tb j).length := by
  obtain ⟨k2, a1, -⟩ := (wd_is hj).mp h
  have := at_gt (X := X) (q := q) (kd_2 k2).1
  omega
theorem d_m4 {f : Nat} (h0 : rgM G X l Y_X11_whole f 0 3) : rgM G X l Y_X11_unit (f + 1) 4 1 := by
  intro o a q d len xc xs hi hl hr K hR h ho hd hne hK
  obtain ⟨d, rfl⟩ : ∃ e, d = e + 8 := ⟨d - 8, by omega⟩
  have e : pgF X (f + 1) 4 o a q = (if kdE X q = 1 then (if nvE X q ≤ 9999 then .inr (fun _ => iI (nvE X q : Int), nxE X q) else .inl (2, q)) else if sgE X q 40 then (if 6 ≤ o then .inl (3, q) else bnd (pgF X f 0 (o + 1) a (nxE X q)) (fun s q1 => if sgE X q1 41 then .inr (s, nxE X q1) else .inl (1, q1))) else if nmE (wdE X q) < 9 then .inr (fun nm => nm (nmE (wdE X q)), nxE X q) else .inl (1, q)) := rfl
  rw [e] at hne hK
  have cv := cv_lt (q := q) h.1
  have c1 : cvE X q = 40 ↔ sgE X q 40 := cv_i (by decide)
  have len0 := h.2.2.2.2.2
  have wl := wd_lt X q
  apply en_X11_unit
  simp (disch := omega) only [B_X11_unit_0, sh110, lt110, en_ops, en_opc, iI_add, iI_mul, iI_sub, jL_add, jL_mul, iI_le, iI_lt, iI_eq, iI_eq0, iI_lt0, iI_0le, iI_le0, iI_0lt, jL_iI, iI_jL, lc_eq, lc_lt, lc_le, lc_ge, lc_gt, Nat.sub_zero, Nat.zero_le, true_and, and_true, Nat.reduceAdd, Nat.reduceLeDiff]
  refine r_fine h ?_
  simp (disch := omega) only [sh110, lt110, en_ops, en_opc, iI_add, iI_mul, iI_sub, jL_add, jL_mul, iI_le, iI_lt, iI_eq, iI_eq0, iI_lt0, iI_0le, iI_le0, iI_0lt, jL_iI, iI_jL, lc_eq, lc_lt, lc_le, lc_ge, lc_gt, Nat.sub_zero, Nat.zero_le, true_and, and_true, Nat.reduceAdd, Nat.reduceLeDiff]
  refine ⟨fun _ => ?_, fun g => absurd g (by decide)⟩
  refine r_here (d := d + 6) hR h (fun g1 S1 Q1 F1 => ?_)
  simp (disch := omega) only [sh110, lt110, en_ops, en_opc, iI_add, iI_mul, iI_sub, jL_add, jL_mul, iI_le, iI_lt, iI_eq, iI_eq0, iI_lt0, iI_0le, iI_le0, iI_0lt, jL_iI, iI_jL, lc_eq, lc_lt, lc_le, lc_ge, lc_gt, Nat.sub_zero, Nat.zero_le, true_and, and_true, Nat.reduceAdd, Nat.reduceLeDiff]
  refine m_isDg (d := d + 6) cv ?_
  have dk : isDg (cvE X q) = true ↔ kdE X q = 1 := by
    unfold cvE
    by_cases w : q < X.2
    · rw [if_pos w]; exact ⟨fun g => kd_d w g, fun g => (kd_1 g).2.1⟩
    · rw [if_neg w]
      exact ⟨fun g => absurd g (by decide), fun g => absurd (kd_1 g).1 w⟩
  by_cases w1 : kdE X q = 1
  · rw [if_pos (dk.mpr w1)]
    have hl9 := (kd_1 w1).1
    have n1 := nx_gt hl9
    rw [if_pos w1] at hne hK
    simp (disch := omega) only [sh110, lt110, en_ops, en_opc, iI_add, iI_mul, iI_sub, jL_add, jL_mul, iI_le, iI_lt, iI_eq, iI_eq0, iI_lt0, iI_0le, iI_le0, iI_0lt, jL_iI, iI_jL, lc_eq, lc_lt, lc_le, lc_ge, lc_gt, Nat.sub_zero, Nat.zero_le, true_and, and_true, Nat.reduceAdd, Nat.reduceLeDiff]
    refine ⟨fun g => absurd g (by decide), fun _ => ?_⟩
    refine m_num (d := d + 5) (z := .inr q) (lo := 0) (up := 9999) (by decide) hR S1.1 S1.2.1 (fun g2 v F2 X2 H2 v1 v2 => ?_)
    by_cases v9 : nvE X q ≤ 9999
    · rw [if_pos v9] at hK
      have zn : zNm X 0 9999 (.inr q) = .inr (nxE X q) := by
        show (if kdE X q = 1 then (if (0 : Int) ≤ (nvE X q : Int) ∧ (nvE X q : Int) ≤ 9999 then .inr (nxE X q) else .inl (2, q)) else .inl (1, q) : tZ) = _
        rw [if_pos w1, if_pos (by omega)]
      have ve : v = (nvE X q : Int) := v2 _ zn
      rw [zn] at H2
      have S2 := S1.to F2 X2 H2 (by omega)
      simp (disch := omega) only [sh110, lt110, en_ops, en_opc, iI_add, iI_mul, iI_sub, jL_add, jL_mul, iI_le, iI_lt, iI_eq, iI_eq0, iI_lt0, iI_0le, iI_le0, iI_0lt, jL_iI, iI_jL, lc_eq, lc_lt, lc_le, lc_ge, lc_gt, Nat.sub_zero, Nat.zero_le, true_and, and_true, Nat.reduceAdd, Nat.reduceLeDiff]
      refine r_emit (d := d + 5) hR S2 (by omega) (fun g3 S3 F3 e3 e4 => ?_)
      simp (disch := omega) only [en_ops, en_opc, iI_add, iI_mul, iI_sub, jL_add, jL_mul, iI_le, iI_lt, iI_eq, iI_eq0, iI_lt0, iI_0le, iI_le0, iI_0lt, jL_iI, iI_jL, lc_eq, lc_lt, lc_le, lc_ge, lc_gt, Nat.sub_zero, Nat.zero_le, true_and, and_true, Nat.reduceAdd, Nat.reduceLeDiff]
      refine hK.s rfl S3 ((F1.prd.tr F2.prd).tr F3) (by omega) (by omega) (by omega) (fun F V hF => ?_)
      obtain ⟨x1, x2⟩ := hF (620 * l + len) (by omega) (by omega)
      exact rs_num (a := 620 * l + len) (by rw [x1, e3]) (by rw [x2, e4, ve]) (by omega)
    · rw [if_neg v9] at hK
      have zn : zNm X 0 9999 (.inr q) = .inl (2, q) := by
        show (if kdE X q = 1 then (if (0 : Int) ≤ (nvE X q : Int) ∧ (nvE X q : Int) ≤ 9999 then .inr (nxE X q) else .inl (2, q)) else .inl (1, q) : tZ) = _
        rw [if_pos w1, if_neg (by omega)]
      rw [zn] at H2
      have B2 := S1.bad F2 X2 H2
      simp (disch := omega) only [sh110, lt110, en_ops, en_opc, iI_add, iI_mul, iI_sub, jL_add, jL_mul, iI_le, iI_lt, iI_eq, iI_eq0, iI_lt0, iI_0le, iI_le0, iI_0lt, jL_iI, iI_jL, lc_eq, lc_lt, lc_le, lc_ge, lc_gt, Nat.sub_zero, Nat.zero_le, true_and, and_true, Nat.reduceAdd, Nat.reduceLeDiff]
      refine f_remit (d := d + 5) B2 ?_
      simp (disch := omega) only [en_ops, en_opc, iI_add, iI_mul, iI_sub, jL_add, jL_mul, iI_le, iI_lt, iI_eq, iI_eq0, iI_lt0, iI_0le, iI_le0, iI_0lt, jL_iI, iI_jL, lc_eq, lc_lt, lc_le, lc_ge, lc_gt, Nat.sub_zero, Nat.zero_le, true_and, and_true, Nat.reduceAdd, Nat.reduceLeDiff]
      exact hK.b rfl B2 (F1.prd.tr F2.prd)
  rw [if_neg (fun g => w1 (dk.mp g))]
  rw [if_neg w1] at hne hK
  simp (disch := omega) only [sh110, lt110, en_ops, en_opc, iI_add, iI_mul, iI_sub, jL_add, jL_mul, iI_le, iI_lt, iI_eq, iI_eq0, iI_lt0, iI_0le, iI_le0, iI_0lt, jL_iI, iI_jL, lc_eq, lc_lt, lc_le, lc_ge, lc_gt, Nat.sub_zero, Nat.zero_le, true_and, and_true, Nat.reduceAdd, Nat.reduceLeDiff]
  refine ⟨fun _ => ?_, fun g => (g (by first | trivial | rfl)).elim⟩
  by_cases w2 : sgE X q 40
  · have cq := c1.mpr w2
    rw [if_pos w2] at hne hK
    refine ⟨fun g => absurd (show (cvE X q : Int) = 40 by omega) g, fun _ => ?_⟩
    refine r_opens (d := d + 5) (b := 1) S1 Q1 ho w2.1 (sg_kd (c := 40) ⟨by decide, by decide⟩ w2).2 (fun n6 g2 S2 F2 => ?_) (fun y6 g2 B2 F2 => ?_)
    · rw [if_neg n6] at hne hK
      obtain ⟨o1, o2⟩ := bnd_o hne
      have n1 := nx_gt w2.1
      simp (disch := omega) only [sh110, lt110, en_ops, en_opc, iI_add, iI_mul, iI_sub, jL_add, jL_mul, iI_le, iI_lt, iI_eq, iI_eq0, iI_lt0, iI_0le, iI_le0, iI_0lt, jL_iI, iI_jL, lc_eq, lc_lt, lc_le, lc_ge, lc_gt, Nat.sub_zero, Nat.zero_le, true_and, and_true, Nat.reduceAdd, Nat.reduceLeDiff]
      refine h0 (o + 1) a (nxE X q) (d + 7) len _ _ g2 hl hr _ hR S2 (by omega) (by omega) o1 ⟨fun s q1 er g3 len1 S3 F3 l1 l0 l2 sg => ?_, fun e er g3 b3 F3 => ?_⟩
      · rw [er, bnd_r] at hK
        have pp := pg_pos _ _ _ _ _ _ _ n1.2.1 n1.2.2 er
        simp (disch := omega) only [sh110, lt110, en_ops, en_opc, iI_add, iI_mul, iI_sub, jL_add, jL_mul, iI_le, iI_lt, iI_eq, iI_eq0, iI_lt0, iI_0le, iI_le0, iI_0lt, jL_iI, iI_jL, lc_eq, lc_lt, lc_le, lc_ge, lc_gt, Nat.sub_zero, Nat.zero_le, true_and, and_true, Nat.reduceAdd, Nat.reduceLeDiff]
        refine r_sign (d := d + 5) (c := 41) ⟨by decide, by decide⟩ (by decide) hR S3 (fun g g4 S4 F4 => ?_) (fun g g4 B4 F4 => ?_)
        · rw [if_pos g] at hK
          have n2 := nx_gt g.1
          obtain ⟨S5, F5⟩ := r_close S4
          simp (disch := omega) only [sh110, lt110, en_ops, en_opc, iI_add, iI_mul, iI_sub, jL_add, jL_mul, iI_le, iI_lt, iI_eq, iI_eq0, iI_lt0, iI_0le, iI_le0, iI_0lt, jL_iI, iI_jL, lc_eq, lc_lt, lc_le, lc_ge, lc_gt, Nat.sub_zero, Nat.zero_le, true_and, and_true, Nat.reduceAdd, Nat.reduceLeDiff]
          refine hK.s rfl S5 (((F1.prd.tr F2).tr F3).tr (F4.prd.tr (F5.rg l1))) l1 l0 (by omega) (fun F V hF => (sg F V (fun j j1 j2 => ?_)).w (by omega))
          obtain ⟨x1, x2⟩ := hF j j1 j2
          have F45 := F4.prd.tr F5
          exact ⟨by rw [x1, F45 119 j (fun g => by unfold rgP at g; omega)], by rw [x2, F45 120 j (fun g => by unfold rgP at g; omega)]⟩
        · rw [if_neg g] at hK
          obtain ⟨S5, F5⟩ := rf_close B4
          simp (disch := omega) only [sh110, lt110, en_ops, en_opc, iI_add, iI_mul, iI_sub, jL_add, jL_mul, iI_le, iI_lt, iI_eq, iI_eq0, iI_lt0, iI_0le, iI_le0, iI_0lt, jL_iI, iI_jL, lc_eq, lc_lt, lc_le, lc_ge, lc_gt, Nat.sub_zero, Nat.zero_le, true_and, and_true, Nat.reduceAdd, Nat.reduceLeDiff]
          exact hK.b rfl S5 (((((F1.prd.tr F2).tr F3).rg (Nat.zero_le _)).tr F4.prd).tr F5)
      · rw [er, bnd_l] at hK
        simp (disch := omega) only [sh110, lt110, en_ops, en_opc, iI_add, iI_mul, iI_sub, jL_add, jL_mul, iI_le, iI_lt, iI_eq, iI_eq0, iI_lt0, iI_0le, iI_le0, iI_0lt, jL_iI, iI_jL, lc_eq, lc_lt, lc_le, lc_ge, lc_gt, Nat.sub_zero, Nat.zero_le, true_and, and_true, Nat.reduceAdd, Nat.reduceLeDiff]
        refine f_sign (d := d + 5) (c := 41) hR b3 ?_
        obtain ⟨S5, F5⟩ := rf_close b3
        simp (disch := omega) only [sh110, lt110, en_ops, en_opc, iI_add, iI_mul, iI_sub, jL_add, jL_mul, iI_le, iI_lt, iI_eq, iI_eq0, iI_lt0, iI_0le, iI_le0, iI_0lt, jL_iI, iI_jL, lc_eq, lc_lt, lc_le, lc_ge, lc_gt, Nat.sub_zero, Nat.zero_le, true_and, and_true, Nat.reduceAdd, Nat.reduceLeDiff]
        exact hK.b rfl S5 ((((F1.prd.tr F2).rg (Nat.zero_le _)).tr F3).tr F5)
    · rw [if_pos y6] at hK
      simp (disch := omega) only [sh110, lt110, en_ops, en_opc, iI_add, iI_mul, iI_sub, jL_add, jL_mul, iI_le, iI_lt, iI_eq, iI_eq0, iI_lt0, iI_0le, iI_le0, iI_0lt, jL_iI, iI_jL, lc_eq, lc_lt, lc_le, lc_ge, lc_gt, Nat.sub_zero, Nat.zero_le, true_and, and_true, Nat.reduceAdd, Nat.reduceLeDiff]
      refine fr_whole (d := d + 5) B2 ?_
      simp (disch := omega) only [sh110, lt110, en_ops, en_opc, iI_add, iI_mul, iI_sub, jL_add, jL_mul, iI_le, iI_lt, iI_eq, iI_eq0, iI_lt0, iI_0le, iI_le0, iI_0lt, jL_iI, iI_jL, lc_eq, lc_lt, lc_le, lc_ge, lc_gt, Nat.sub_zero, Nat.zero_le, true_and, and_true, Nat.reduceAdd, Nat.reduceLeDiff]
      refine f_sign (d := d + 5) (c := 41) hR B2 ?_
      obtain ⟨S5, F5⟩ := rf_close B2
      simp (disch := omega) only [sh110, lt110, en_ops, en_opc, iI_add, iI_mul, iI_sub, jL_add, jL_mul, iI_le, iI_lt, iI_eq, iI_eq0, iI_lt0, iI_0le, iI_le0, iI_0lt, jL_iI, iI_jL, lc_eq, lc_lt, lc_le, lc_ge, lc_gt, Nat.sub_zero, Nat.zero_le, true_and, and_true, Nat.reduceAdd, Nat.reduceLeDiff]
      exact hK.b rfl S5 (((F1.prd.tr F2).rg (Nat.zero_le _)).tr F5)
  · rw [if_neg w2] at hne hK
    refine ⟨fun _ => ?_, fun g => absurd (c1.mp (by omega)) w2⟩
    refine r_word (d := d + 5) hR S1 (fun g2 S2 Q2 F2 => ?_)
    simp (disch := omega) only [sh110, lt110, en_ops, en_opc, iI_add, iI_mul, iI_sub, jL_add, jL_mul, iI_le, iI_lt, iI_eq, iI_eq0, iI_lt0, iI_0le, iI_le0, iI_0lt, jL_iI, iI_jL, lc_eq, lc_lt, lc_le, lc_ge, lc_gt, Nat.sub_zero, Nat.zero_le, true_and, and_true, Nat.reduceAdd, Nat.reduceLeDiff]
    refine m_nameOf (d := d + 1) wl ?_
    simp (disch := omega) only [sh110, lt110, en_ops, en_opc, iI_add, iI_mul, iI_sub, jL_add, jL_mul, iI_le, iI_lt, iI_eq, iI_eq0, iI_lt0, iI_0le, iI_le0, iI_0lt, jL_iI, iI_jL, lc_eq, lc_lt, lc_le, lc_ge, lc_gt, Nat.sub_zero, Nat.zero_le, true_and, and_true, Nat.reduceAdd, Nat.reduceLeDiff]
    by_cases nm : nmE (wdE X q) < 9
    · have hl9 := lt_nm nm
      have n1 := nx_gt hl9
      rw [if_pos nm] at hK ⊢
      refine ⟨fun _ => ?_, fun g => absurd g (by omega)⟩
      refine r_pass (d := d + 5) hR S2 Q2 (fun z => by rw [z, nm_9] at nm; omega) (fun g3 S3 F3 => ?_)
      simp (disch := omega) only [sh110, lt110, en_ops, en_opc, iI_add, iI_mul, iI_sub, jL_add, jL_mul, iI_le, iI_lt, iI_eq, iI_eq0, iI_lt0, iI_0le, iI_le0, iI_0lt, jL_iI, iI_jL, lc_eq, lc_lt, lc_le, lc_ge, lc_gt, Nat.sub_zero, Nat.zero_le, true_and, and_true, Nat.reduceAdd, Nat.reduceLeDiff]
      refine r_emit (d := d + 5) hR S3 (by omega) (fun g4 S4 F4 e3 e4 => ?_)
      simp (disch := omega) only [en_ops, en_opc, iI_add, iI_mul, iI_sub, jL_add, jL_mul, iI_le, iI_lt, iI_eq, iI_eq0, iI_lt0, iI_0le, iI_le0, iI_0lt, jL_iI, iI_jL, lc_eq, lc_lt, lc_le, lc_ge, lc_gt, Nat.sub_zero, Nat.zero_le, true_and, and_true, Nat.reduceAdd, Nat.reduceLeDiff]
      refine hK.s rfl S4 (((F1.prd.tr F2.prd).tr F3.prd).tr F4) (by omega) (by omega) (by omega) (fun F V hF => ?_)
      obtain ⟨x1, x2⟩ := hF (620 * l + len) (by omega) (by omega)
      exact rs_nam (a := 620 * l + len) (by rw [x1, e3]) (by rw [x2, e4]) nm (by omega)
    · rw [if_neg nm] at hK ⊢
      have q4 := Q2.2.2.2
      simp (disch := omega) only [sh110, lt110, q4, en_ops, en_opc, iI_add, iI_mul, iI_sub, jL_add, jL_mul, iI_le, iI_lt, iI_eq, iI_eq0, iI_lt0, iI_0le, iI_le0, iI_0lt, jL_iI, iI_jL, lc_eq, lc_lt, lc_le, lc_ge, lc_gt, Nat.sub_zero, Nat.zero_le, true_and, and_true, Nat.reduceAdd, Nat.reduceLeDiff]
      refine ⟨fun g => (g (by first | trivial | rfl)).elim, fun _ => ?_⟩
      refine r_wrong (d := d + 6) (k := 1) (by decide) S2 (fun g3 B3 F3 => ?_)
      simp (disch := omega) only [en_ops, en_opc, iI_add, iI_mul, iI_sub, jL_add, jL_mul, iI_le, iI_lt, iI_eq, iI_eq0, iI_lt0, iI_0le, iI_le0, iI_0lt, jL_iI, iI_jL, lc_eq, lc_lt, lc_le, lc_ge, lc_gt, Nat.sub_zero, Nat.zero_le, true_and, and_true, Nat.reduceAdd, Nat.reduceLeDiff]
      exact hK.b rfl B3 ((F1.prd.tr F2.prd).tr F3.prd)
theorem d_m9 {f : Nat} (h0 : rgM G X l Y_X11_whole f 0 3) (h5 : rgM G X l Y_X11_anyOf f 5 6) (h9 : rgM G X l Y_X11_oneOf f 9 4) : rgM G X l Y_X11_oneOf (f + 1) 9 4 := by
  intro o a q d len xc xs hi hl hr K hR h ho hd hne hK
  obtain ⟨d, rfl⟩ : ∃ e, d = e + 10 := ⟨d - 10, by omega⟩
  have e : pgF X (f + 1) 9 o a q = (if sgE X q 91 then (if 6 ≤ o then .inl (3, q) else bnd (pgF X f 5 (o + 1) a (nxE X q)) (fun s q1 => if sgE X q1 93 then .inr (s, nxE X q1) else .inl (1, q1))) else if wdE X q = 14836 then (if 6 ≤ o then .inl (3, q) else bnd (pgF X f 9 (o + 1) a (nxE X q)) (fun s q1 => .inr (fun nm => 1 - s nm, q1))) else bnd (pgF X f 0 o a q) (fun s q1 => if sgE X q1 60 ∨ sgE X q1 62 ∨ sgE X q1 61 then bnd (pgF X f 0 o a (nxE X q1)) (fun y q2 => .inr (fun nm => opE (if sgE X q1 60 then 6 else if sgE X q1 62 then 7 else 8) (s nm) (y nm), q2)) else .inl (1, q1))) := rfl
  rw [e] at hne hK
  have cv := cv_lt (q := q) h.1
  have c1 : cvE X q = 91 ↔ sgE X q 91 := cv_i (by decide)
  have len0 := h.2.2.2.2.2
  have wl := wd_lt X q
  have hqn := h.2.1.n
  apply en_X11_oneOf
  simp (disch := omega) only [B_X11_oneOf_0, sh110, lt110, en_ops, en_opc, iI_add, iI_mul, iI_sub, jL_add, jL_mul, iI_le, iI_lt, iI_eq, iI_eq0, iI_lt0, iI_0le, iI_le0, iI_0lt, jL_iI, iI_jL, lc_eq, lc_lt, lc_le, lc_ge, lc_gt, Nat.sub_zero, Nat.zero_le, true_and, and_true, Nat.reduceAdd, Nat.reduceLeDiff]
  refine r_fine h ?_
  simp (disch := omega) only [sh110, lt110, en_ops, en_opc, iI_add, iI_mul, iI_sub, jL_add, jL_mul, iI_le, iI_lt, iI_eq, iI_eq0, iI_lt0, iI_0le, iI_le0, iI_0lt, jL_iI, iI_jL, lc_eq, lc_lt, lc_le, lc_ge, lc_gt, Nat.sub_zero, Nat.zero_le, true_and, and_true, Nat.reduceAdd, Nat.reduceLeDiff]
  refine ⟨fun _ => ?_, fun g => absurd g (by decide)⟩
  refine r_here (d := d + 8) hR h (fun g1 S1 Q1 F1 => ?_)
  simp (disch := omega) only [sh110, lt110, en_ops, en_opc, iI_add, iI_mul, iI_sub, jL_add, jL_mul, iI_le, iI_lt, iI_eq, iI_eq0, iI_lt0, iI_0le, iI_le0, iI_0lt, jL_iI, iI_jL, lc_eq, lc_lt, lc_le, lc_ge, lc_gt, Nat.sub_zero, Nat.zero_le, true_and, and_true, Nat.reduceAdd, Nat.reduceLeDiff]
  by_cases w2 : sgE X q 91
  · have cq := c1.mpr w2
    rw [if_pos w2] at hne hK
    refine ⟨fun g => absurd (show (cvE X q : Int) = 91 by omega) g, fun _ => ?_⟩
    refine r_opens (d := d + 7) (b := 1) S1 Q1 ho w2.1 (sg_kd (c := 91) ⟨by decide, by decide⟩ w2).2 (fun n6 g2 S2 F2 => ?_) (fun y6 g2 B2 F2 => ?_)
    · rw [if_neg n6] at hne hK
      obtain ⟨o1, o2⟩ := bnd_o hne
      have n1 := nx_gt w2.1
      simp (disch := omega) only [sh110, lt110, en_ops, en_opc, iI_add, iI_mul, iI_sub, jL_add, jL_mul, iI_le, iI_lt, iI_eq, iI_eq0, iI_lt0, iI_0le, iI_le0, iI_0lt, jL_iI, iI_jL, lc_eq, lc_lt, lc_le, lc_ge, lc_gt, Nat.sub_zero, Nat.zero_le, true_and, and_true, Nat.reduceAdd, Nat.reduceLeDiff]
      refine h5 (o + 1) a (nxE X q) (d + 9) len _ _ g2 hl hr _ hR S2 (by omega) (by omega) o1 ⟨fun s q1 er g3 len1 S3 F3 l1 l0 l2 sg => ?_, fun e er g3 b3 F3 => ?_⟩
      · rw [er, bnd_r] at hK
        have pp := pg_pos _ _ _ _ _ _ _ n1.2.1 n1.2.2 er
        simp (disch := omega) only [sh110, lt110, en_ops, en_opc, iI_add, iI_mul, iI_sub, jL_add, jL_mul, iI_le, iI_lt, iI_eq, iI_eq0, iI_lt0, iI_0le, iI_le0, iI_0lt, jL_iI, iI_jL, lc_eq, lc_lt, lc_le, lc_ge, lc_gt, Nat.sub_zero, Nat.zero_le, true_and, and_true, Nat.reduceAdd, Nat.reduceLeDiff]
        refine r_sign (d := d + 7) (c := 93) ⟨by decide, by decide⟩ (by decide) hR S3 (fun g g4 S4 F4 => ?_) (fun g g4 B4 F4 => ?_)
        · rw [if_pos g] at hK
          have n2 := nx_gt g.1
          obtain ⟨S5, F5⟩ := r_close S4
          simp (disch := omega) only [sh110, lt110, en_ops, en_opc, iI_add, iI_mul, iI_sub, jL_add, jL_mul, iI_le, iI_lt, iI_eq, iI_eq0, iI_lt0, iI_0le, iI_le0, iI_0lt, jL_iI, iI_jL, lc_eq, lc_lt, lc_le, lc_ge, lc_gt, Nat.sub_zero, Nat.zero_le, true_and, and_true, Nat.reduceAdd, Nat.reduceLeDiff]
          refine hK.s rfl S5 (((F1.prd.tr F2).tr F3).tr (F4.prd.tr (F5.rg l1))) l1 l0 (by omega) (fun F V hF => (sg F V (fun j j1 j2 => ?_)).w (by omega))
          obtain ⟨x1, x2⟩ := hF j j1 j2
          have F45 := F4.prd.tr F5
          exact ⟨by rw [x1, F45 119 j (fun g => by unfold rgP at g; omega)], by rw [x2, F45 120 j (fun g => by unfold rgP at g; omega)]⟩
        · rw [if_neg g] at hK
          obtain ⟨S5, F5⟩ := rf_close B4
          simp (disch := omega) only [sh110, lt110, en_ops, en_opc, iI_add, iI_mul, iI_sub, jL_add, jL_mul, iI_le, iI_lt, iI_eq, iI_eq0, iI_lt0, iI_0le, iI_le0, iI_0lt, jL_iI, iI_jL, lc_eq, lc_lt, lc_le, lc_ge, lc_gt, Nat.sub_zero, Nat.zero_le, true_and, and_true, Nat.reduceAdd, Nat.reduceLeDiff]
          exact hK.b rfl S5 (((((F1.prd.tr F2).tr F3).rg (Nat.zero_le _)).tr F4.prd).tr F5)
      · rw [er, bnd_l] at hK
        simp (disch := omega) only [sh110, lt110, en_ops, en_opc, iI_add, iI_mul, iI_sub, jL_add, jL_mul, iI_le, iI_lt, iI_eq, iI_eq0, iI_lt0, iI_0le, iI_le0, iI_0lt, jL_iI, iI_jL, lc_eq, lc_lt, lc_le, lc_ge, lc_gt, Nat.sub_zero, Nat.zero_le, true_and, and_true, Nat.reduceAdd, Nat.reduceLeDiff]
        refine f_sign (d := d + 7) (c := 93) hR b3 ?_
        obtain ⟨S5, F5⟩ := rf_close b3
        simp (disch := omega) only [sh110, lt110, en_ops, en_opc, iI_add, iI_mul, iI_sub, jL_add, jL_mul, iI_le, iI_lt, iI_eq, iI_eq0, iI_lt0, iI_0le, iI_le0, iI_0lt, jL_iI, iI_jL, lc_eq, lc_lt, lc_le, lc_ge, lc_gt, Nat.sub_zero, Nat.zero_le, true_and, and_true, Nat.reduceAdd, Nat.reduceLeDiff]
        exact hK.b rfl S5 ((((F1.prd.tr F2).rg (Nat.zero_le _)).tr F3).tr F5)
    · rw [if_pos y6] at hK
      simp (disch := omega) only [sh110, lt110, en_ops, en_opc, iI_add, iI_mul, iI_sub, jL_add, jL_mul, iI_le, iI_lt, iI_eq, iI_eq0, iI_lt0, iI_0le, iI_le0, iI_0lt, jL_iI, iI_jL, lc_eq, lc_lt, lc_le, lc_ge, lc_gt, Nat.sub_zero, Nat.zero_le, true_and, and_true, Nat.reduceAdd, Nat.reduceLeDiff]
      refine fr_any (d := d + 5) B2 ?_
      simp (disch := omega) only [sh110, lt110, en_ops, en_opc, iI_add, iI_mul, iI_sub, jL_add, jL_mul, iI_le, iI_lt, iI_eq, iI_eq0, iI_lt0, iI_0le, iI_le0, iI_0lt, jL_iI, iI_jL, lc_eq, lc_lt, lc_le, lc_ge, lc_gt, Nat.sub_zero, Nat.zero_le, true_and, and_true, Nat.reduceAdd, Nat.reduceLeDiff]
      refine f_sign (d := d + 7) (c := 93) hR B2 ?_
      obtain ⟨S5, F5⟩ := rf_close B2
      simp (disch := omega) only [sh110, lt110, en_ops, en_opc, iI_add, iI_mul, iI_sub, jL_add, jL_mul, iI_le, iI_lt, iI_eq, iI_eq0, iI_lt0, iI_0le, iI_le0, iI_0lt, jL_iI, iI_jL, lc_eq, lc_lt, lc_le, lc_ge, lc_gt, Nat.sub_zero, Nat.zero_le, true_and, and_true, Nat.reduceAdd, Nat.reduceLeDiff]
      exact hK.b rfl S5 (((F1.prd.tr F2).rg (Nat.zero_le _)).tr F5)
  rw [if_neg w2] at hne hK
  refine ⟨fun _ => ?_, fun g => absurd (c1.mp (by omega)) w2⟩
  refine r_word (d := d + 7) hR S1 (fun g2 S2 Q2 F2 => ?_)
  simp (disch := omega) only [sh110, lt110, en_ops, en_opc, iI_add, iI_mul, iI_sub, jL_add, jL_mul, iI_le, iI_lt, iI_eq, iI_eq0, iI_lt0, iI_0le, iI_le0, iI_0lt, jL_iI, iI_jL, lc_eq, lc_lt, lc_le, lc_ge, lc_gt, Nat.sub_zero, Nat.zero_le, true_and, and_true, Nat.reduceAdd, Nat.reduceLeDiff]
  refine m_of (d := d + 4) (j := 43) iw43 ?_
  rw [pk43]
  simp (disch := omega) only [sh110, lt110, en_ops, en_opc, iI_add, iI_mul, iI_sub, jL_add, jL_mul, iI_le, iI_lt, iI_eq, iI_eq0, iI_lt0, iI_0le, iI_le0, iI_0lt, jL_iI, iI_jL, lc_eq, lc_lt, lc_le, lc_ge, lc_gt, Nat.sub_zero, Nat.zero_le, true_and, and_true, Nat.reduceAdd, Nat.reduceLeDiff]
  have F12 := F1.tr F2
  by_cases w : wdE X q = 14836
  · have hl9 := lt_wd w (by decide)
    have n1 := nx_gt hl9
    rw [if_pos w] at hne hK
    refine ⟨fun g => absurd (show (wdE X q : Int) = _ by omega) g, fun _ => ?_⟩
    have t43 : (en_tb 43).length = 3 := by decide +kernel
    refine r_opens (d := d + 7) (b := 3) S2 Q2 ho hl9 (by rw [at_wd iw43 (by rw [pk43]; exact w), t43]) (fun n6 g3 S3 F3 => ?_) (fun y6 g3 B3 F3 => ?_)
    · rw [if_neg n6] at hne hK
      obtain ⟨o1, o2⟩ := bnd_o hne
      simp (disch := omega) only [sh110, lt110, en_ops, en_opc, iI_add, iI_mul, iI_sub, jL_add, jL_mul, iI_le, iI_lt, iI_eq, iI_eq0, iI_lt0, iI_0le, iI_le0, iI_0lt, jL_iI, iI_jL, lc_eq, lc_lt, lc_le, lc_ge, lc_gt, Nat.sub_zero, Nat.zero_le, true_and, and_true, Nat.reduceAdd, Nat.reduceLeDiff]
      refine h9 (o + 1) a (nxE X q) (d + 9) len _ _ g3 hl hr _ hR S3 (by omega) (by omega) o1 ⟨fun s q1 er g4 len1 S4 F4 l1 l0 l2 sg => ?_, fun e er g4 b4 F4 => ?_⟩
      · rw [er, bnd_r] at hK
        have pp := pg_pos _ _ _ _ _ _ _ n1.2.1 n1.2.2 er
        obtain ⟨S5, F5⟩ := r_close S4
        simp (disch := omega) only [sh110, lt110, en_ops, en_opc, iI_add, iI_mul, iI_sub, jL_add, jL_mul, iI_le, iI_lt, iI_eq, iI_eq0, iI_lt0, iI_0le, iI_le0, iI_0lt, jL_iI, iI_jL, lc_eq, lc_lt, lc_le, lc_ge, lc_gt, Nat.sub_zero, Nat.zero_le, true_and, and_true, Nat.reduceAdd, Nat.reduceLeDiff]
        refine r_emit (d := d + 7) hR S5 (by omega) (fun g6 S6 F6 e3 e4 => ?_)
        simp (disch := omega) only [en_ops, en_opc, iI_add, iI_mul, iI_sub, jL_add, jL_mul, iI_le, iI_lt, iI_eq, iI_eq0, iI_lt0, iI_0le, iI_le0, iI_0lt, jL_iI, iI_jL, lc_eq, lc_lt, lc_le, lc_ge, lc_gt, Nat.sub_zero, Nat.zero_le, true_and, and_true, Nat.reduceAdd, Nat.reduceLeDiff]
        refine hK.s rfl S6 ((((F12.prd.tr F3).tr F4).tr (F5.rg l1)).tr (F6.rg l1)) (by omega) (by omega) (by omega) (fun F V hF => ?_)
        refine rs_not (N1 := 6 * (6 - (o + 1)) + 4) (a := 620 * l + len) (b := 620 * l + len1) (sg F V (fun j j1 j2 => ?_)) ?_ (by omega) (by omega)
        · obtain ⟨x1, x2⟩ := hF j j1 (by omega)
          have F56 := F5.tr F6
          exact ⟨by rw [x1, F56 119 j (fun g => by unfold rgP at g; omega)], by rw [x2, F56 120 j (fun g => by unfold rgP at g; omega)]⟩
        · rw [(hF (620 * l + len1) (by omega) (by omega)).1, e3]
      · rw [er, bnd_l] at hK
        obtain ⟨S5, F5⟩ := rf_close b4
        simp (disch := omega) only [sh110, lt110, en_ops, en_opc, iI_add, iI_mul, iI_sub, jL_add, jL_mul, iI_le, iI_lt, iI_eq, iI_eq0, iI_lt0, iI_0le, iI_le0, iI_0lt, jL_iI, iI_jL, lc_eq, lc_lt, lc_le, lc_ge, lc_gt, Nat.sub_zero, Nat.zero_le, true_and, and_true, Nat.reduceAdd, Nat.reduceLeDiff]
        refine f_remit (d := d + 7) S5 ?_
        simp (disch := omega) only [en_ops, en_opc, iI_add, iI_mul, iI_sub, jL_add, jL_mul, iI_le, iI_lt, iI_eq, iI_eq0, iI_lt0, iI_0le, iI_le0, iI_0lt, jL_iI, iI_jL, lc_eq, lc_lt, lc_le, lc_ge, lc_gt, Nat.sub_zero, Nat.zero_le, true_and, and_true, Nat.reduceAdd, Nat.reduceLeDiff]
        exact hK.b rfl S5 ((((F12.prd.tr F3).rg (Nat.zero_le _)).tr F4).tr F5)
    · rw [if_pos y6] at hK
      simp (disch := omega) only [sh110, lt110, en_ops, en_opc, iI_add, iI_mul, iI_sub, jL_add, jL_mul, iI_le, iI_lt, iI_eq, iI_eq0, iI_lt0, iI_0le, iI_le0, iI_0lt, jL_iI, iI_jL, lc_eq, lc_lt, lc_le, lc_ge, lc_gt, Nat.sub_zero, Nat.zero_le, true_and, and_true, Nat.reduceAdd, Nat.reduceLeDiff]
      refine fr_one (d := d + 7) B3 ?_
      obtain ⟨S5, F5⟩ := rf_close B3
      simp (disch := omega) only [sh110, lt110, en_ops, en_opc, iI_add, iI_mul, iI_sub, jL_add, jL_mul, iI_le, iI_lt, iI_eq, iI_eq0, iI_lt0, iI_0le, iI_le0, iI_0lt, jL_iI, iI_jL, lc_eq, lc_lt, lc_le, lc_ge, lc_gt, Nat.sub_zero, Nat.zero_le, true_and, and_true, Nat.reduceAdd, Nat.reduceLeDiff]
      refine f_remit (d := d + 7) S5 ?_
      simp (disch := omega) only [en_ops, en_opc, iI_add, iI_mul, iI_sub, jL_add, jL_mul, iI_le, iI_lt, iI_eq, iI_eq0, iI_lt0, iI_0le, iI_le0, iI_0lt, jL_iI, iI_jL, lc_eq, lc_lt, lc_le, lc_ge, lc_gt, Nat.sub_zero, Nat.zero_le, true_and, and_true, Nat.reduceAdd, Nat.reduceLeDiff]
      exact hK.b rfl S5 (((F12.prd.tr F3).rg (Nat.zero_le _)).tr F5)
  rw [if_neg w] at hne hK
  obtain ⟨o1, o2⟩ := bnd_o hne
  refine ⟨fun _ => ?_, fun g => absurd g (by omega)⟩
  refine h0 o a q (d + 9) len _ _ g2 hl hr _ hR S2 ho (by omega) o1 ⟨fun s q1 er g3 len1 S3 F3 l1 l0 l2 sg => ?_, fun e er g3 b3 F3 => ?_⟩
  · have ne2 := o2 s q1 er
    rw [er, bnd_r] at hK
    have pp := pg_pos _ _ _ _ _ _ _ hqn.1 hqn.2 er
    have cv3 := cv_lt (q := q1) S3.1
    have k1 : cvE X q1 = 60 ↔ sgE X q1 60 := cv_i (by decide)
    have k2 : cvE X q1 = 62 ↔ sgE X q1 62 := cv_i (by decide)
    have k3 : cvE X q1 = 61 ↔ sgE X q1 61 := cv_i (by decide)
    simp (disch := omega) only [sh110, lt110, en_ops, en_opc, iI_add, iI_mul, iI_sub, jL_add, jL_mul, iI_le, iI_lt, iI_eq, iI_eq0, iI_lt0, iI_0le, iI_le0, iI_0lt, jL_iI, iI_jL, lc_eq, lc_lt, lc_le, lc_ge, lc_gt, Nat.sub_zero, Nat.zero_le, true_and, and_true, Nat.reduceAdd, Nat.reduceLeDiff]
    refine r_fine (d := d + 8) S3 ?_
    simp (disch := omega) only [sh110, lt110, en_ops, en_opc, iI_add, iI_mul, iI_sub, jL_add, jL_mul, iI_le, iI_lt, iI_eq, iI_eq0, iI_lt0, iI_0le, iI_le0, iI_0lt, jL_iI, iI_jL, lc_eq, lc_lt, lc_le, lc_ge, lc_gt, Nat.sub_zero, Nat.zero_le, true_and, and_true, Nat.reduceAdd, Nat.reduceLeDiff]
    refine ⟨fun _ => ?_, fun g => absurd g (by decide)⟩
    refine r_here (d := d + 8) hR S3 (fun g4 S4 Q4 F4 => ?_)
    have q4 := Q4.2.2.2
    simp (disch := omega) only [sh110, lt110, q4, en_ops, en_opc, iI_add, iI_mul, iI_sub, jL_add, jL_mul, iI_le, iI_lt, iI_eq, iI_eq0, iI_lt0, iI_0le, iI_le0, iI_0lt, jL_iI, iI_jL, lc_eq, lc_lt, lc_le, lc_ge, lc_gt, Nat.sub_zero, Nat.zero_le, true_and, and_true, Nat.reduceAdd, Nat.reduceLeDiff]
    by_cases g : sgE X q1 60 ∨ sgE X q1 62 ∨ sgE X q1 61
    · rw [if_pos g] at hK ne2
      obtain ⟨p1, p2⟩ := bnd_o ne2
      have hl9 : q1 < X.2 := by rcases g with w | w | w <;> exact w.1
      have n1 := nx_gt hl9
      have at1 : atE X q1 = q1 + 1 := by
        rcases g with w | w | w
        · exact (sg_kd (c := 60) ⟨by decide, by decide⟩ w).2
        · exact (sg_kd (c := 62) ⟨by decide, by decide⟩ w).2
        · exact (sg_kd (c := 61) ⟨by decide, by decide⟩ w).2
      obtain ⟨cd, hcd⟩ : ∃ cd : Nat, cd = (if sgE X q1 60 then 6 else if sgE X q1 62 then 7 else 8) := ⟨_, rfl⟩
      have c8 : 6 ≤ cd ∧ cd ≤ 8 := by rw [hcd]; (repeat' split) <;> omega
      rw [← hcd] at hK
      have go : en_V G Y_X11_oneOf (d + 10) wN wN K 127 [.ref 110, .int (iI (cvE X q1 : Int))] [] g4 hl hr xc xs := by
        apply s_X11_oneOf_127
        simp (disch := omega) only [B_X11_oneOf_127, sh110, lt110, q4, en_ops, en_opc, iI_add, iI_mul, iI_sub, jL_add, jL_mul, iI_le, iI_lt, iI_eq, iI_eq0, iI_lt0, iI_0le, iI_le0, iI_0lt, jL_iI, iI_jL, lc_eq, lc_lt, lc_le, lc_ge, lc_gt, Nat.sub_zero, Nat.zero_le, true_and, and_true, Nat.reduceAdd, Nat.reduceLeDiff]
        have Fu : Fx P4 g4 (en_up g4 110 4 (iI ((q1 : Int) + 1))) := Fx.up Fx.rf ⟨rfl, rfl⟩
        have S5 : rgS X l o len1 (nxE X q1) (en_up g4 110 4 (iI ((q1 : Int) + 1))) := S4.to Fu.p4 (rt4 (p := q1) S4.1 _) (Q4.to Fu (by rw [up_at, at1]; exact iI_eq_of (by omega)) hl9) (by omega)
        have l5 := S3.2.2.2.2.2
        refine h0 o a (nxE X q1) (d + 9) len1 _ _ _ hl hr _ hR S5 ho (by omega) p1 ⟨fun y q2 er2 g6 len2 S6 F6 l3 l7 l4 sg2 => ?_, fun e er2 g6 b6 F6 => ?_⟩
        · rw [er2, bnd_r] at hK
          have pp2 := pg_pos _ _ _ _ _ _ _ n1.2.1 n1.2.2 er2
          have fin : en_Call G (d + 9) 0 0 Y_X11_emit wN wN [.ref 110, .int (iI (cd : Int)), .int (iI 0)] g6 hl hr (en_kk (o_vret K) x_no [.ref 110, .int (iI (cvE X q1 : Int))] [] (xc - 0 - 0) (xs - 0 - 0)) := by
            refine r_emit (d := d + 7) hR S6 (by omega) (fun g7 S7 F7 e3 e4 => ?_)
            simp (disch := omega) only [en_ops, en_opc, iI_add, iI_mul, iI_sub, jL_add, jL_mul, iI_le, iI_lt, iI_eq, iI_eq0, iI_lt0, iI_0le, iI_le0, iI_0lt, jL_iI, iI_jL, lc_eq, lc_lt, lc_le, lc_ge, lc_gt, Nat.sub_zero, Nat.zero_le, true_and, and_true, Nat.reduceAdd, Nat.reduceLeDiff]
            have FL := Fu.p4.prd (l := l) (len := len1)
            refine hK.s rfl S7 (((((F12.prd.tr F3).tr F4.prd).tr (FL.rg l1)).tr (F6.rg l1)).tr (F7.rg (by omega))) (by omega) (by omega) (by omega) (fun F V hF => ?_)
            refine rs_bin (N1 := 6 * (6 - o) + 3) (N2 := 6 * (6 - o) + 3) (b := 620 * l + len1) (c := 620 * l + len2) (o := cd) (sg F V (fun j j1 j2 => ?_)) (sg2 F V (fun j j1 j2 => ?_)) ?_ (by omega) (by omega) (by omega) (by omega) (by omega)
            · obtain ⟨x1, x2⟩ := hF j (by omega) (by omega)
              have FZ := ((F4.prd.tr FL).tr F6).tr (F7.rg l3)
              exact ⟨by rw [x1, FZ 119 j (fun g => by unfold rgP at g; omega)], by rw [x2, FZ 120 j (fun g => by unfold rgP at g; omega)]⟩
            · obtain ⟨x1, x2⟩ := hF j (by omega) (by omega)
              exact ⟨by rw [x1, F7 119 j (fun g => by unfold rgP at g; omega)], by rw [x2, F7 120 j (fun g => by unfold rgP at g; omega)]⟩
            · rw [(hF (620 * l + len2) (by omega) (by omega)).1, e3]
          simp (disch := omega) only [sh110, lt110, en_ops, en_opc, iI_add, iI_mul, iI_sub, jL_add, jL_mul, iI_le, iI_lt, iI_eq, iI_eq0, iI_lt0, iI_0le, iI_le0, iI_0lt, jL_iI, iI_jL, lc_eq, lc_lt, lc_le, lc_ge, lc_gt, Nat.sub_zero, Nat.zero_le, true_and, and_true, Nat.reduceAdd, Nat.reduceLeDiff]
          by_cases z1 : sgE X q1 60
          · rw [if_pos z1] at hcd
            rw [hcd] at fin
            exact ⟨fun g => absurd (show (cvE X q1 : Int) = 60 by have := k1.mpr z1; omega) g, fun _ => fin⟩
          · rw [if_neg z1] at hcd
            refine ⟨fun _ => ?_, fun g => absurd (k1.mp (by omega)) z1⟩
            by_cases z2 : sgE X q1 62
            · rw [if_pos z2] at hcd
              rw [hcd] at fin
              exact ⟨fun g => absurd (show (cvE X q1 : Int) = 62 by have := k2.mpr z2; omega) g, fun _ => fin⟩
            · rw [if_neg z2] at hcd
              rw [hcd] at fin
              exact ⟨fun _ => fin, fun g => absurd (k2.mp (by omega)) z2⟩
        · rw [er2, bnd_l] at hK
          have fin : ∀ w : Int32, en_Call G (d + 9) 0 0 Y_X11_emit wN wN [.ref 110, .int w, .int (iI 0)] g6 hl hr (en_kk (o_vret K) x_no [.ref 110, .int (iI (cvE X q1 : Int))] [] (xc - 0 - 0) (xs - 0 - 0)) := by
            intro w
            refine f_remit (d := d + 7) b6 ?_
            simp (disch := omega) only [en_ops, en_opc, iI_add, iI_mul, iI_sub, jL_add, jL_mul, iI_le, iI_lt, iI_eq, iI_eq0, iI_lt0, iI_0le, iI_le0, iI_0lt, jL_iI, iI_jL, lc_eq, lc_lt, lc_le, lc_ge, lc_gt, Nat.sub_zero, Nat.zero_le, true_and, and_true, Nat.reduceAdd, Nat.reduceLeDiff]
            exact hK.b rfl b6 ((((F12.prd.tr F3).tr F4.prd).rg (Nat.zero_le _)).tr (Fu.p4.prd.tr F6))
          simp (disch := omega) only [sh110, lt110, en_ops, en_opc, iI_add, iI_mul, iI_sub, jL_add, jL_mul, iI_le, iI_lt, iI_eq, iI_eq0, iI_lt0, iI_0le, iI_le0, iI_0lt, jL_iI, iI_jL, lc_eq, lc_lt, lc_le, lc_ge, lc_gt, Nat.sub_zero, Nat.zero_le, true_and, and_true, Nat.reduceAdd, Nat.reduceLeDiff]
          exact ⟨fun _ => ⟨fun _ => fin _, fun _ => fin _⟩, fun _ => fin _⟩
      by_cases z1 : cvE X q1 = 60
      · exact ⟨fun _ => go, fun g => absurd (show (cvE X q1 : Int) = 60 by omega) g⟩
      refine ⟨fun _ => go, fun _ => ⟨fun _ => go, fun _ => ⟨fun _ => go, fun z3 => ?_⟩⟩⟩
      exfalso
      rcases g with w | w | w
      · exact z1 (k1.mpr w)
      · have := k2.mpr w
        omega
      · exact z3 (by have := k3.mpr w; omega)
    · rw [if_neg g] at hK
      refine ⟨fun z => absurd (Or.inl (k1.mp (by omega))) g, fun _ => ⟨fun z => absurd (Or.inr (Or.inl (k2.mp (by omega)))) g, fun _ => ⟨fun z => absurd (Or.inr (Or.inr (k3.mp (by omega)))) g, fun _ => ?_⟩⟩⟩
      refine r_wrong (d := d + 8) (k := 1) (by decide) S4 (fun g5 B5 F5 => ?_)
      simp (disch := omega) only [en_ops, en_opc, iI_add, iI_mul, iI_sub, jL_add, jL_mul, iI_le, iI_lt, iI_eq, iI_eq0, iI_lt0, iI_0le, iI_le0, iI_0lt, jL_iI, iI_jL, lc_eq, lc_lt, lc_le, lc_ge, lc_gt, Nat.sub_zero, Nat.zero_le, true_and, and_true, Nat.reduceAdd, Nat.reduceLeDiff]
      exact hK.b rfl B5 ((((F12.prd.tr F3).rg (Nat.zero_le _)).tr F4.prd).tr F5.prd)
  · rw [er, bnd_l] at hK
    simp (disch := omega) only [sh110, lt110, en_ops, en_opc, iI_add, iI_mul, iI_sub, jL_add, jL_mul, iI_le, iI_lt, iI_eq, iI_eq0, iI_lt0, iI_0le, iI_le0, iI_0lt, jL_iI, iI_jL, lc_eq, lc_lt, lc_le, lc_ge, lc_gt, Nat.sub_zero, Nat.zero_le, true_and, and_true, Nat.reduceAdd, Nat.reduceLeDiff]
    refine f_fine (d := d + 8) b3 ?_
    simp (disch := omega) only [sh110, lt110, en_ops, en_opc, iI_add, iI_mul, iI_sub, jL_add, jL_mul, iI_le, iI_lt, iI_eq, iI_eq0, iI_lt0, iI_0le, iI_le0, iI_0lt, jL_iI, iI_jL, lc_eq, lc_lt, lc_le, lc_ge, lc_gt, Nat.sub_zero, Nat.zero_le, true_and, and_true, Nat.reduceAdd, Nat.reduceLeDiff]
    exact ⟨fun g => (g (by first | trivial | rfl)).elim, fun _ => hK.b rfl b3 (F12.prd.tr F3)⟩
end
