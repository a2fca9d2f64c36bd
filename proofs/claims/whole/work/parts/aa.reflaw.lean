section
variable {G : en_G} {X : tTx} {l : Nat}
theorem d_m0 {f : Nat} (h2 : rgM G X l Y_X11_product f 2 2) (hv : rgV G X l Y_X11_whole 77 1 f 1 3) (h0 : rgM G X l Y_X11_whole f 0 3) (h5 : rgM G X l Y_X11_anyOf f 5 6) : rgM G X l Y_X11_whole (f + 1) 0 3 := by
  intro o a q d len xc xs hi hl hr K hR h ho hd hne hK
  obtain ⟨d, rfl⟩ : ∃ e, d = e + 11 := ⟨d - 11, by omega⟩
  have e : pgF X (f + 1) 0 o a q = (if wdE X q = 294 then (if 6 ≤ o then .inl (3, q) else bnd (pgF X f 5 (o + 1) a (nxE X q)) (fun c q1 => if wdE X q1 = 663726 then bnd (pgF X f 0 (o + 1) a (nxE X q1)) (fun x q2 => if wdE X q2 = 176741 then bnd (pgF X f 0 (o + 1) a (nxE X q2)) (fun y q3 => .inr (fun nm => if c nm = 1 then x nm else y nm, q3)) else .inl (1, q2)) else .inl (1, q1))) else bnd (pgF X f 2 o a q) (fun s q1 => pgF X f 1 o s q1)) := rfl
  rw [e] at hne hK
  have len0 := h.2.2.2.2.2
  have wl := wd_lt X q
  have hqn := h.2.1.n
  have t42 : (en_tb 42).length = 2 := by decide +kernel
  apply en_X11_whole
  simp (disch := omega) only [B_X11_whole_0, sh110, lt110, en_ops, en_opc, iI_add, iI_mul, iI_sub, jL_add, jL_mul, iI_le, iI_lt, iI_eq, iI_eq0, iI_lt0, iI_0le, iI_le0, iI_0lt, jL_iI, iI_jL, lc_eq, lc_lt, lc_le, lc_ge, lc_gt, Nat.sub_zero, Nat.zero_le, true_and, and_true, Nat.reduceAdd, Nat.reduceLeDiff]
  refine r_fine h ?_
  simp (disch := omega) only [sh110, lt110, en_ops, en_opc, iI_add, iI_mul, iI_sub, jL_add, jL_mul, iI_le, iI_lt, iI_eq, iI_eq0, iI_lt0, iI_0le, iI_le0, iI_0lt, jL_iI, iI_jL, lc_eq, lc_lt, lc_le, lc_ge, lc_gt, Nat.sub_zero, Nat.zero_le, true_and, and_true, Nat.reduceAdd, Nat.reduceLeDiff]
  refine ⟨fun _ => ?_, fun g => absurd g (by decide)⟩
  refine r_word (d := d + 8) hR h (fun g1 S1 Q1 F1 => ?_)
  simp (disch := omega) only [sh110, lt110, en_ops, en_opc, iI_add, iI_mul, iI_sub, jL_add, jL_mul, iI_le, iI_lt, iI_eq, iI_eq0, iI_lt0, iI_0le, iI_le0, iI_0lt, jL_iI, iI_jL, lc_eq, lc_lt, lc_le, lc_ge, lc_gt, Nat.sub_zero, Nat.zero_le, true_and, and_true, Nat.reduceAdd, Nat.reduceLeDiff]
  refine m_of (d := d + 5) (j := 42) iw42 ?_
  rw [pk42]
  simp (disch := omega) only [sh110, lt110, en_ops, en_opc, iI_add, iI_mul, iI_sub, jL_add, jL_mul, iI_le, iI_lt, iI_eq, iI_eq0, iI_lt0, iI_0le, iI_le0, iI_0lt, jL_iI, iI_jL, lc_eq, lc_lt, lc_le, lc_ge, lc_gt, Nat.sub_zero, Nat.zero_le, true_and, and_true, Nat.reduceAdd, Nat.reduceLeDiff]
  by_cases w : wdE X q = 294
  · have hl9 := lt_wd w (by decide)
    have n1 := nx_gt hl9
    rw [if_pos w] at hne hK
    refine ⟨fun g => absurd (show (wdE X q : Int) = _ by omega) g, fun _ => ?_⟩
    refine r_opens (d := d + 8) (b := 2) S1 Q1 ho hl9 (by rw [at_wd iw42 (by rw [pk42]; exact w), t42]) (fun n6 g2 S2 F2 => ?_) (fun y6 g2 B2 F2 => ?_)
    · rw [if_neg n6] at hne hK
      obtain ⟨o1, o2⟩ := bnd_o hne
      simp (disch := omega) only [sh110, lt110, en_ops, en_opc, iI_add, iI_mul, iI_sub, jL_add, jL_mul, iI_le, iI_lt, iI_eq, iI_eq0, iI_lt0, iI_0le, iI_le0, iI_0lt, jL_iI, iI_jL, lc_eq, lc_lt, lc_le, lc_ge, lc_gt, Nat.sub_zero, Nat.zero_le, true_and, and_true, Nat.reduceAdd, Nat.reduceLeDiff]
      refine h5 (o + 1) a (nxE X q) (d + 10) len _ _ g2 hl hr _ hR S2 (by omega) (by omega) o1 ⟨fun c q1 er g3 len1 S3 F3 l1 l0 l2 sg => ?_, fun e er g3 b3 F3 => ?_⟩
      · have ne2 := o2 c q1 er
        rw [er, bnd_r] at hK
        have pp := pg_pos _ _ _ _ _ _ _ n1.2.1 n1.2.2 er
        have FB3 := (F1.prd.tr F2).tr F3
        simp (disch := omega) only [sh110, lt110, en_ops, en_opc, iI_add, iI_mul, iI_sub, jL_add, jL_mul, iI_le, iI_lt, iI_eq, iI_eq0, iI_lt0, iI_0le, iI_le0, iI_0lt, jL_iI, iI_jL, lc_eq, lc_lt, lc_le, lc_ge, lc_gt, Nat.sub_zero, Nat.zero_le, true_and, and_true, Nat.reduceAdd, Nat.reduceLeDiff]
        refine m_of (d := d + 5) (j := 46) iw46 ?_
        simp (disch := omega) only [sh110, lt110, en_ops, en_opc, iI_add, iI_mul, iI_sub, jL_add, jL_mul, iI_le, iI_lt, iI_eq, iI_eq0, iI_lt0, iI_0le, iI_le0, iI_0lt, jL_iI, iI_jL, lc_eq, lc_lt, lc_le, lc_ge, lc_gt, Nat.sub_zero, Nat.zero_le, true_and, and_true, Nat.reduceAdd, Nat.reduceLeDiff]
        refine r_keyw (d := d + 7) iw46 hR S3 (fun g g4 S4 F4 => ?_) (fun g g4 B4 F4 => ?_)
        · rw [pk46] at g
          rw [if_pos g] at hK ne2
          have n2 := nx_gt (lt_wd g (by decide))
          obtain ⟨p1, p2⟩ := bnd_o ne2
          have FB4 := FB3.tr (F4.prd (l := l) (len := len))
          simp (disch := omega) only [sh110, lt110, en_ops, en_opc, iI_add, iI_mul, iI_sub, jL_add, jL_mul, iI_le, iI_lt, iI_eq, iI_eq0, iI_lt0, iI_0le, iI_le0, iI_0lt, jL_iI, iI_jL, lc_eq, lc_lt, lc_le, lc_ge, lc_gt, Nat.sub_zero, Nat.zero_le, true_and, and_true, Nat.reduceAdd, Nat.reduceLeDiff]
          refine h0 (o + 1) a (nxE X q1) (d + 10) len1 _ _ g4 hl hr _ hR S4 (by omega) (by omega) p1 ⟨fun x q2 er2 g5 len2 S5 F5 l3 l4 l5 sg2 => ?_, fun e er2 g5 b5 F5 => ?_⟩
          · have ne3 := p2 x q2 er2
            rw [er2, bnd_r] at hK
            have pp2 := pg_pos _ _ _ _ _ _ _ n2.2.1 n2.2.2 er2
            have FB5 := FB4.tr (F5.rg l1)
            simp (disch := omega) only [sh110, lt110, en_ops, en_opc, iI_add, iI_mul, iI_sub, jL_add, jL_mul, iI_le, iI_lt, iI_eq, iI_eq0, iI_lt0, iI_0le, iI_le0, iI_0lt, jL_iI, iI_jL, lc_eq, lc_lt, lc_le, lc_ge, lc_gt, Nat.sub_zero, Nat.zero_le, true_and, and_true, Nat.reduceAdd, Nat.reduceLeDiff]
            refine m_of (d := d + 5) (j := 47) iw47 ?_
            simp (disch := omega) only [sh110, lt110, en_ops, en_opc, iI_add, iI_mul, iI_sub, jL_add, jL_mul, iI_le, iI_lt, iI_eq, iI_eq0, iI_lt0, iI_0le, iI_le0, iI_0lt, jL_iI, iI_jL, lc_eq, lc_lt, lc_le, lc_ge, lc_gt, Nat.sub_zero, Nat.zero_le, true_and, and_true, Nat.reduceAdd, Nat.reduceLeDiff]
            refine r_keyw (d := d + 7) iw47 hR S5 (fun g g6 S6 F6 => ?_) (fun g g6 B6 F6 => ?_)
            · rw [pk47] at g
              rw [if_pos g] at hK ne3
              have n3 := nx_gt (lt_wd g (by decide))
              obtain ⟨p3, p4⟩ := bnd_o ne3
              have FB6 := FB5.tr (F6.prd (l := l) (len := len))
              simp (disch := omega) only [sh110, lt110, en_ops, en_opc, iI_add, iI_mul, iI_sub, jL_add, jL_mul, iI_le, iI_lt, iI_eq, iI_eq0, iI_lt0, iI_0le, iI_le0, iI_0lt, jL_iI, iI_jL, lc_eq, lc_lt, lc_le, lc_ge, lc_gt, Nat.sub_zero, Nat.zero_le, true_and, and_true, Nat.reduceAdd, Nat.reduceLeDiff]
              refine h0 (o + 1) a (nxE X q2) (d + 10) len2 _ _ g6 hl hr _ hR S6 (by omega) (by omega) p3 ⟨fun y q3 er3 g7 len3 S7 F7 l6 l7 l8 sg3 => ?_, fun e er3 g7 b7 F7 => ?_⟩
              · rw [er3, bnd_r] at hK
                have pp3 := pg_pos _ _ _ _ _ _ _ n3.2.1 n3.2.2 er3
                have FB7 := FB6.tr (F7.rg (by omega))
                obtain ⟨S8, F8⟩ := r_close S7
                simp (disch := omega) only [sh110, lt110, en_ops, en_opc, iI_add, iI_mul, iI_sub, jL_add, jL_mul, iI_le, iI_lt, iI_eq, iI_eq0, iI_lt0, iI_0le, iI_le0, iI_0lt, jL_iI, iI_jL, lc_eq, lc_lt, lc_le, lc_ge, lc_gt, Nat.sub_zero, Nat.zero_le, true_and, and_true, Nat.reduceAdd, Nat.reduceLeDiff]
                refine r_emit (d := d + 8) hR S8 (by omega) (fun g9 S9 F9 e3 e4 => ?_)
                simp (disch := omega) only [en_ops, en_opc, iI_add, iI_mul, iI_sub, jL_add, jL_mul, iI_le, iI_lt, iI_eq, iI_eq0, iI_lt0, iI_0le, iI_le0, iI_0lt, jL_iI, iI_jL, lc_eq, lc_lt, lc_le, lc_ge, lc_gt, Nat.sub_zero, Nat.zero_le, true_and, and_true, Nat.reduceAdd, Nat.reduceLeDiff]
                refine hK.s rfl S9 ((FB7.tr (F8.rg (by omega))).tr (F9.rg (by omega))) (by omega) (by omega) (by omega) (fun F V hF => ?_)
                have F89 := F8.tr F9
                have F79 : Fx (rgP l len2) g6 g9 := F7.tr (F89.rg (by omega))
                have F59 : Fx (rgP l len1) g4 g9 := (F5.tr (F6.prd)).tr (F79.rg l3)
                refine rs_cho (N1 := 6 * (6 - (o + 1)) + 6) (N2 := 6 * (6 - (o + 1)) + 3) (N3 := 6 * (6 - (o + 1)) + 3) (a := 620 * l + len) (b := 620 * l + len1) (c := 620 * l + len2) (c2 := 620 * l + len3) (sg F V (fun j j1 j2 => ?_)) (sg2 F V (fun j j1 j2 => ?_)) (sg3 F V (fun j j1 j2 => ?_)) ?_ (by omega) (by omega) (by omega) (by omega) (by omega) (by omega)
                · obtain ⟨x1, x2⟩ := hF j (by omega) (by omega)
                  have FZ := (F4.prd (l := l) (len := len1)).tr F59
                  exact ⟨by rw [x1, FZ 119 j (fun g => by unfold rgP at g; omega)], by rw [x2, FZ 120 j (fun g => by unfold rgP at g; omega)]⟩
                · obtain ⟨x1, x2⟩ := hF j (by omega) (by omega)
                  have FZ := (F6.prd (l := l) (len := len2)).tr F79
                  exact ⟨by rw [x1, FZ 119 j (fun g => by unfold rgP at g; omega)], by rw [x2, FZ 120 j (fun g => by unfold rgP at g; omega)]⟩
                · obtain ⟨x1, x2⟩ := hF j (by omega) (by omega)
                  exact ⟨by rw [x1, F89 119 j (fun g => by unfold rgP at g; omega)], by rw [x2, F89 120 j (fun g => by unfold rgP at g; omega)]⟩
                · rw [(hF (620 * l + len3) (by omega) (by omega)).1, e3]
              · rw [er3, bnd_l] at hK
                have FA := (FB6.rg (Nat.zero_le _)).tr F7
                obtain ⟨Sz, Fz⟩ := rf_close b7
                simp (disch := omega) only [sh110, lt110, en_ops, en_opc, iI_add, iI_mul, iI_sub, jL_add, jL_mul, iI_le, iI_lt, iI_eq, iI_eq0, iI_lt0, iI_0le, iI_le0, iI_0lt, jL_iI, iI_jL, lc_eq, lc_lt, lc_le, lc_ge, lc_gt, Nat.sub_zero, Nat.zero_le, true_and, and_true, Nat.reduceAdd, Nat.reduceLeDiff]
                refine f_remit (d := d + 8) Sz ?_
                simp (disch := omega) only [en_ops, en_opc, iI_add, iI_mul, iI_sub, jL_add, jL_mul, iI_le, iI_lt, iI_eq, iI_eq0, iI_lt0, iI_0le, iI_le0, iI_0lt, jL_iI, iI_jL, lc_eq, lc_lt, lc_le, lc_ge, lc_gt, Nat.sub_zero, Nat.zero_le, true_and, and_true, Nat.reduceAdd, Nat.reduceLeDiff]
                exact hK.b rfl Sz (FA.tr Fz)
            · rw [pk47] at g
              rw [if_neg g] at hK
              have FA := (FB5.tr (F6.prd (l := l) (len := len))).rg (Nat.zero_le _)
              simp (disch := omega) only [sh110, lt110, en_ops, en_opc, iI_add, iI_mul, iI_sub, jL_add, jL_mul, iI_le, iI_lt, iI_eq, iI_eq0, iI_lt0, iI_0le, iI_le0, iI_0lt, jL_iI, iI_jL, lc_eq, lc_lt, lc_le, lc_ge, lc_gt, Nat.sub_zero, Nat.zero_le, true_and, and_true, Nat.reduceAdd, Nat.reduceLeDiff]
              refine fr_whole (d := d + 8) B6 ?_
              obtain ⟨Sz, Fz⟩ := rf_close B6
              simp (disch := omega) only [sh110, lt110, en_ops, en_opc, iI_add, iI_mul, iI_sub, jL_add, jL_mul, iI_le, iI_lt, iI_eq, iI_eq0, iI_lt0, iI_0le, iI_le0, iI_0lt, jL_iI, iI_jL, lc_eq, lc_lt, lc_le, lc_ge, lc_gt, Nat.sub_zero, Nat.zero_le, true_and, and_true, Nat.reduceAdd, Nat.reduceLeDiff]
              refine f_remit (d := d + 8) Sz ?_
              simp (disch := omega) only [en_ops, en_opc, iI_add, iI_mul, iI_sub, jL_add, jL_mul, iI_le, iI_lt, iI_eq, iI_eq0, iI_lt0, iI_0le, iI_le0, iI_0lt, jL_iI, iI_jL, lc_eq, lc_lt, lc_le, lc_ge, lc_gt, Nat.sub_zero, Nat.zero_le, true_and, and_true, Nat.reduceAdd, Nat.reduceLeDiff]
              exact hK.b rfl Sz (FA.tr Fz)
          · rw [er2, bnd_l] at hK
            have FA := (FB4.rg (Nat.zero_le _)).tr F5
            simp (disch := omega) only [sh110, lt110, en_ops, en_opc, iI_add, iI_mul, iI_sub, jL_add, jL_mul, iI_le, iI_lt, iI_eq, iI_eq0, iI_lt0, iI_0le, iI_le0, iI_0lt, jL_iI, iI_jL, lc_eq, lc_lt, lc_le, lc_ge, lc_gt, Nat.sub_zero, Nat.zero_le, true_and, and_true, Nat.reduceAdd, Nat.reduceLeDiff]
            refine m_of (d := d + 5) (j := 47) iw47 ?_
            simp (disch := omega) only [sh110, lt110, en_ops, en_opc, iI_add, iI_mul, iI_sub, jL_add, jL_mul, iI_le, iI_lt, iI_eq, iI_eq0, iI_lt0, iI_0le, iI_le0, iI_0lt, jL_iI, iI_jL, lc_eq, lc_lt, lc_le, lc_ge, lc_gt, Nat.sub_zero, Nat.zero_le, true_and, and_true, Nat.reduceAdd, Nat.reduceLeDiff]
            refine f_keyw (d := d + 8) b5 ?_
            simp (disch := omega) only [sh110, lt110, en_ops, en_opc, iI_add, iI_mul, iI_sub, jL_add, jL_mul, iI_le, iI_lt, iI_eq, iI_eq0, iI_lt0, iI_0le, iI_le0, iI_0lt, jL_iI, iI_jL, lc_eq, lc_lt, lc_le, lc_ge, lc_gt, Nat.sub_zero, Nat.zero_le, true_and, and_true, Nat.reduceAdd, Nat.reduceLeDiff]
            refine fr_whole (d := d + 8) b5 ?_
            obtain ⟨Sz, Fz⟩ := rf_close b5
            simp (disch := omega) only [sh110, lt110, en_ops, en_opc, iI_add, iI_mul, iI_sub, jL_add, jL_mul, iI_le, iI_lt, iI_eq, iI_eq0, iI_lt0, iI_0le, iI_le0, iI_0lt, jL_iI, iI_jL, lc_eq, lc_lt, lc_le, lc_ge, lc_gt, Nat.sub_zero, Nat.zero_le, true_and, and_true, Nat.reduceAdd, Nat.reduceLeDiff]
            refine f_remit (d := d + 8) Sz ?_
            simp (disch := omega) only [en_ops, en_opc, iI_add, iI_mul, iI_sub, jL_add, jL_mul, iI_le, iI_lt, iI_eq, iI_eq0, iI_lt0, iI_0le, iI_le0, iI_0lt, jL_iI, iI_jL, lc_eq, lc_lt, lc_le, lc_ge, lc_gt, Nat.sub_zero, Nat.zero_le, true_and, and_true, Nat.reduceAdd, Nat.reduceLeDiff]
            exact hK.b rfl Sz (FA.tr Fz)
        · rw [pk46] at g
          rw [if_neg g] at hK
          have FA := (FB3.tr (F4.prd (l := l) (len := len))).rg (Nat.zero_le _)
          simp (disch := omega) only [sh110, lt110, en_ops, en_opc, iI_add, iI_mul, iI_sub, jL_add, jL_mul, iI_le, iI_lt, iI_eq, iI_eq0, iI_lt0, iI_0le, iI_le0, iI_0lt, jL_iI, iI_jL, lc_eq, lc_lt, lc_le, lc_ge, lc_gt, Nat.sub_zero, Nat.zero_le, true_and, and_true, Nat.reduceAdd, Nat.reduceLeDiff]
          refine fr_whole (d := d + 8) B4 ?_
          simp (disch := omega) only [sh110, lt110, en_ops, en_opc, iI_add, iI_mul, iI_sub, jL_add, jL_mul, iI_le, iI_lt, iI_eq, iI_eq0, iI_lt0, iI_0le, iI_le0, iI_0lt, jL_iI, iI_jL, lc_eq, lc_lt, lc_le, lc_ge, lc_gt, Nat.sub_zero, Nat.zero_le, true_and, and_true, Nat.reduceAdd, Nat.reduceLeDiff]
          refine m_of (d := d + 5) (j := 47) iw47 ?_
          simp (disch := omega) only [sh110, lt110, en_ops, en_opc, iI_add, iI_mul, iI_sub, jL_add, jL_mul, iI_le, iI_lt, iI_eq, iI_eq0, iI_lt0, iI_0le, iI_le0, iI_0lt, jL_iI, iI_jL, lc_eq, lc_lt, lc_le, lc_ge, lc_gt, Nat.sub_zero, Nat.zero_le, true_and, and_true, Nat.reduceAdd, Nat.reduceLeDiff]
          refine f_keyw (d := d + 8) B4 ?_
          simp (disch := omega) only [sh110, lt110, en_ops, en_opc, iI_add, iI_mul, iI_sub, jL_add, jL_mul, iI_le, iI_lt, iI_eq, iI_eq0, iI_lt0, iI_0le, iI_le0, iI_0lt, jL_iI, iI_jL, lc_eq, lc_lt, lc_le, lc_ge, lc_gt, Nat.sub_zero, Nat.zero_le, true_and, and_true, Nat.reduceAdd, Nat.reduceLeDiff]
          refine fr_whole (d := d + 8) B4 ?_
          obtain ⟨Sz, Fz⟩ := rf_close B4
          simp (disch := omega) only [sh110, lt110, en_ops, en_opc, iI_add, iI_mul, iI_sub, jL_add, jL_mul, iI_le, iI_lt, iI_eq, iI_eq0, iI_lt0, iI_0le, iI_le0, iI_0lt, jL_iI, iI_jL, lc_eq, lc_lt, lc_le, lc_ge, lc_gt, Nat.sub_zero, Nat.zero_le, true_and, and_true, Nat.reduceAdd, Nat.reduceLeDiff]
          refine f_remit (d := d + 8) Sz ?_
          simp (disch := omega) only [en_ops, en_opc, iI_add, iI_mul, iI_sub, jL_add, jL_mul, iI_le, iI_lt, iI_eq, iI_eq0, iI_lt0, iI_0le, iI_le0, iI_0lt, jL_iI, iI_jL, lc_eq, lc_lt, lc_le, lc_ge, lc_gt, Nat.sub_zero, Nat.zero_le, true_and, and_true, Nat.reduceAdd, Nat.reduceLeDiff]
          exact hK.b rfl Sz (FA.tr Fz)
      · rw [er, bnd_l] at hK
        have FA := ((F1.prd.tr F2).rg (Nat.zero_le _)).tr F3
        simp (disch := omega) only [sh110, lt110, en_ops, en_opc, iI_add, iI_mul, iI_sub, jL_add, jL_mul, iI_le, iI_lt, iI_eq, iI_eq0, iI_lt0, iI_0le, iI_le0, iI_0lt, jL_iI, iI_jL, lc_eq, lc_lt, lc_le, lc_ge, lc_gt, Nat.sub_zero, Nat.zero_le, true_and, and_true, Nat.reduceAdd, Nat.reduceLeDiff]
        refine m_of (d := d + 5) (j := 46) iw46 ?_
        simp (disch := omega) only [sh110, lt110, en_ops, en_opc, iI_add, iI_mul, iI_sub, jL_add, jL_mul, iI_le, iI_lt, iI_eq, iI_eq0, iI_lt0, iI_0le, iI_le0, iI_0lt, jL_iI, iI_jL, lc_eq, lc_lt, lc_le, lc_ge, lc_gt, Nat.sub_zero, Nat.zero_le, true_and, and_true, Nat.reduceAdd, Nat.reduceLeDiff]
        refine f_keyw (d := d + 8) b3 ?_
        simp (disch := omega) only [sh110, lt110, en_ops, en_opc, iI_add, iI_mul, iI_sub, jL_add, jL_mul, iI_le, iI_lt, iI_eq, iI_eq0, iI_lt0, iI_0le, iI_le0, iI_0lt, jL_iI, iI_jL, lc_eq, lc_lt, lc_le, lc_ge, lc_gt, Nat.sub_zero, Nat.zero_le, true_and, and_true, Nat.reduceAdd, Nat.reduceLeDiff]
        refine fr_whole (d := d + 8) b3 ?_
        simp (disch := omega) only [sh110, lt110, en_ops, en_opc, iI_add, iI_mul, iI_sub, jL_add, jL_mul, iI_le, iI_lt, iI_eq, iI_eq0, iI_lt0, iI_0le, iI_le0, iI_0lt, jL_iI, iI_jL, lc_eq, lc_lt, lc_le, lc_ge, lc_gt, Nat.sub_zero, Nat.zero_le, true_and, and_true, Nat.reduceAdd, Nat.reduceLeDiff]
        refine m_of (d := d + 5) (j := 47) iw47 ?_
        simp (disch := omega) only [sh110, lt110, en_ops, en_opc, iI_add, iI_mul, iI_sub, jL_add, jL_mul, iI_le, iI_lt, iI_eq, iI_eq0, iI_lt0, iI_0le, iI_le0, iI_0lt, jL_iI, iI_jL, lc_eq, lc_lt, lc_le, lc_ge, lc_gt, Nat.sub_zero, Nat.zero_le, true_and, and_true, Nat.reduceAdd, Nat.reduceLeDiff]
        refine f_keyw (d := d + 8) b3 ?_
        simp (disch := omega) only [sh110, lt110, en_ops, en_opc, iI_add, iI_mul, iI_sub, jL_add, jL_mul, iI_le, iI_lt, iI_eq, iI_eq0, iI_lt0, iI_0le, iI_le0, iI_0lt, jL_iI, iI_jL, lc_eq, lc_lt, lc_le, lc_ge, lc_gt, Nat.sub_zero, Nat.zero_le, true_and, and_true, Nat.reduceAdd, Nat.reduceLeDiff]
        refine fr_whole (d := d + 8) b3 ?_
        obtain ⟨Sz, Fz⟩ := rf_close b3
        simp (disch := omega) only [sh110, lt110, en_ops, en_opc, iI_add, iI_mul, iI_sub, jL_add, jL_mul, iI_le, iI_lt, iI_eq, iI_eq0, iI_lt0, iI_0le, iI_le0, iI_0lt, jL_iI, iI_jL, lc_eq, lc_lt, lc_le, lc_ge, lc_gt, Nat.sub_zero, Nat.zero_le, true_and, and_true, Nat.reduceAdd, Nat.reduceLeDiff]
        refine f_remit (d := d + 8) Sz ?_
        simp (disch := omega) only [en_ops, en_opc, iI_add, iI_mul, iI_sub, jL_add, jL_mul, iI_le, iI_lt, iI_eq, iI_eq0, iI_lt0, iI_0le, iI_le0, iI_0lt, jL_iI, iI_jL, lc_eq, lc_lt, lc_le, lc_ge, lc_gt, Nat.sub_zero, Nat.zero_le, true_and, and_true, Nat.reduceAdd, Nat.reduceLeDiff]
        exact hK.b rfl Sz (FA.tr Fz)
    · rw [if_pos y6] at hK
      have FA := (F1.prd.tr F2).rg (Nat.zero_le _)
      simp (disch := omega) only [sh110, lt110, en_ops, en_opc, iI_add, iI_mul, iI_sub, jL_add, jL_mul, iI_le, iI_lt, iI_eq, iI_eq0, iI_lt0, iI_0le, iI_le0, iI_0lt, jL_iI, iI_jL, lc_eq, lc_lt, lc_le, lc_ge, lc_gt, Nat.sub_zero, Nat.zero_le, true_and, and_true, Nat.reduceAdd, Nat.reduceLeDiff]
      refine fr_any (d := d + 6) B2 ?_
      simp (disch := omega) only [sh110, lt110, en_ops, en_opc, iI_add, iI_mul, iI_sub, jL_add, jL_mul, iI_le, iI_lt, iI_eq, iI_eq0, iI_lt0, iI_0le, iI_le0, iI_0lt, jL_iI, iI_jL, lc_eq, lc_lt, lc_le, lc_ge, lc_gt, Nat.sub_zero, Nat.zero_le, true_and, and_true, Nat.reduceAdd, Nat.reduceLeDiff]
      refine m_of (d := d + 5) (j := 46) iw46 ?_
      simp (disch := omega) only [sh110, lt110, en_ops, en_opc, iI_add, iI_mul, iI_sub, jL_add, jL_mul, iI_le, iI_lt, iI_eq, iI_eq0, iI_lt0, iI_0le, iI_le0, iI_0lt, jL_iI, iI_jL, lc_eq, lc_lt, lc_le, lc_ge, lc_gt, Nat.sub_zero, Nat.zero_le, true_and, and_true, Nat.reduceAdd, Nat.reduceLeDiff]
      refine f_keyw (d := d + 8) B2 ?_
      simp (disch := omega) only [sh110, lt110, en_ops, en_opc, iI_add, iI_mul, iI_sub, jL_add, jL_mul, iI_le, iI_lt, iI_eq, iI_eq0, iI_lt0, iI_0le, iI_le0, iI_0lt, jL_iI, iI_jL, lc_eq, lc_lt, lc_le, lc_ge, lc_gt, Nat.sub_zero, Nat.zero_le, true_and, and_true, Nat.reduceAdd, Nat.reduceLeDiff]
      refine fr_whole (d := d + 8) B2 ?_
      simp (disch := omega) only [sh110, lt110, en_ops, en_opc, iI_add, iI_mul, iI_sub, jL_add, jL_mul, iI_le, iI_lt, iI_eq, iI_eq0, iI_lt0, iI_0le, iI_le0, iI_0lt, jL_iI, iI_jL, lc_eq, lc_lt, lc_le, lc_ge, lc_gt, Nat.sub_zero, Nat.zero_le, true_and, and_true, Nat.reduceAdd, Nat.reduceLeDiff]
      refine m_of (d := d + 5) (j := 47) iw47 ?_
      simp (disch := omega) only [sh110, lt110, en_ops, en_opc, iI_add, iI_mul, iI_sub, jL_add, jL_mul, iI_le, iI_lt, iI_eq, iI_eq0, iI_lt0, iI_0le, iI_le0, iI_0lt, jL_iI, iI_jL, lc_eq, lc_lt, lc_le, lc_ge, lc_gt, Nat.sub_zero, Nat.zero_le, true_and, and_true, Nat.reduceAdd, Nat.reduceLeDiff]
      refine f_keyw (d := d + 8) B2 ?_
      simp (disch := omega) only [sh110, lt110, en_ops, en_opc, iI_add, iI_mul, iI_sub, jL_add, jL_mul, iI_le, iI_lt, iI_eq, iI_eq0, iI_lt0, iI_0le, iI_le0, iI_0lt, jL_iI, iI_jL, lc_eq, lc_lt, lc_le, lc_ge, lc_gt, Nat.sub_zero, Nat.zero_le, true_and, and_true, Nat.reduceAdd, Nat.reduceLeDiff]
      refine fr_whole (d := d + 8) B2 ?_
      obtain ⟨Sz, Fz⟩ := rf_close B2
      simp (disch := omega) only [sh110, lt110, en_ops, en_opc, iI_add, iI_mul, iI_sub, jL_add, jL_mul, iI_le, iI_lt, iI_eq, iI_eq0, iI_lt0, iI_0le, iI_le0, iI_0lt, jL_iI, iI_jL, lc_eq, lc_lt, lc_le, lc_ge, lc_gt, Nat.sub_zero, Nat.zero_le, true_and, and_true, Nat.reduceAdd, Nat.reduceLeDiff]
      refine f_remit (d := d + 8) Sz ?_
      simp (disch := omega) only [en_ops, en_opc, iI_add, iI_mul, iI_sub, jL_add, jL_mul, iI_le, iI_lt, iI_eq, iI_eq0, iI_lt0, iI_0le, iI_le0, iI_0lt, jL_iI, iI_jL, lc_eq, lc_lt, lc_le, lc_ge, lc_gt, Nat.sub_zero, Nat.zero_le, true_and, and_true, Nat.reduceAdd, Nat.reduceLeDiff]
      exact hK.b rfl Sz (FA.tr Fz)
  · rw [if_neg w] at hne hK
    obtain ⟨o1, o2⟩ := bnd_o hne
    refine ⟨fun _ => ?_, fun g => absurd g (by omega)⟩
    refine h2 o a q (d + 10) len _ _ g1 hl hr _ hR S1 ho (by omega) o1 ⟨fun s q1 er g2 len1 S2 F2 l1 l0 l2 sg => ?_, fun e er g2 b2 F2 => ?_⟩
    · have ne2 := o2 s q1 er
      rw [er, bnd_r] at hK
      simp (disch := omega) only [en_ops, en_opc, iI_add, iI_mul, iI_sub, jL_add, jL_mul, iI_le, iI_lt, iI_eq, iI_eq0, iI_lt0, iI_0le, iI_le0, iI_0lt, jL_iI, iI_jL, lc_eq, lc_lt, lc_le, lc_ge, lc_gt, Nat.sub_zero, Nat.zero_le, true_and, and_true, Nat.reduceAdd, Nat.reduceLeDiff]
      refine hv o s q1 (d + 11) len len1 _ _ _ g2 hl hr K rfl hR S2 ho (by omega) l0 (fun F V hF => (sg F V hF).w (by omega)) ne2 ⟨fun s2 q2 er2 g3 len2 S3 F3 l3 l5 l4 sg2 => hK.s er2 S3 ((F1.prd.tr F2).tr (F3.rg l1)) (by omega) l5 (by omega) sg2, fun e er2 g3 b3 F3 => hK.b er2 b3 (((F1.prd.tr F2).rg (by omega)).tr F3)⟩
    · rw [er, bnd_l] at hK
      simp (disch := omega) only [en_ops, en_opc, iI_add, iI_mul, iI_sub, jL_add, jL_mul, iI_le, iI_lt, iI_eq, iI_eq0, iI_lt0, iI_0le, iI_le0, iI_0lt, jL_iI, iI_jL, lc_eq, lc_lt, lc_le, lc_ge, lc_gt, Nat.sub_zero, Nat.zero_le, true_and, and_true, Nat.reduceAdd, Nat.reduceLeDiff]
      exact fr_wl (d := d + 9) rfl b2 (hK.b rfl b2 (F1.prd.tr F2))
/-- all readings of the reference -/
theorem d_all (G : en_G) (X : tTx) (l : Nat) : ∀ f : Nat, rgM G X l Y_X11_whole f 0 3 ∧ rgV G X l Y_X11_whole 77 1 f 1 3 ∧ rgM G X l Y_X11_product f 2 2 ∧ rgV G X l Y_X11_product 4 1 f 3 2 ∧ rgM G X l Y_X11_unit f 4 1 ∧ rgM G X l Y_X11_anyOf f 5 6 ∧ rgV G X l Y_X11_anyOf 4 0 f 6 6 ∧ rgM G X l Y_X11_allOf f 7 5 ∧ rgV G X l Y_X11_allOf 4 0 f 8 5 ∧ rgM G X l Y_X11_oneOf f 9 4 := by
  intro f
  induction f with
  | zero =>
    have z : ∀ m Y c, rgM G X l Y 0 m c := fun m Y c o a q d len xc xs hi hl hr K _ _ _ _ hne _ => absurd rfl hne
    have z2 : ∀ m Y pc k c, rgV G X l Y pc k 0 m c := fun m Y pc k c o a q d s0 len xc xs ls hi hl hr K _ _ _ _ _ _ _ hne _ => absurd rfl hne
    exact ⟨z _ _ _, z2 _ _ _ _ _, z _ _ _, z2 _ _ _ _ _, z _ _ _, z _ _ _, z2 _ _ _ _ _, z _ _ _, z2 _ _ _ _ _, z _ _ _⟩
  | succ f ih =>
    obtain ⟨i0, i1, i2, i3, i4, i5, i6, i7, i8, i9⟩ := ih
    exact ⟨d_m0 i2 i1 i0 i5, d_m1 i2 i1, d_m2 i4 i3, d_m3 i4 i3, d_m4 i0, d_m5 i7 i6, d_m6 i7 i6, d_m7 i9 i8, d_m8 i9 i8, d_m9 i0 i5 i9⟩
end
