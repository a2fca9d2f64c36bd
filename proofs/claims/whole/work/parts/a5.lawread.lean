section
variable {G : en_G} {X : tTx} {L : Nat}
/-- the closing of what was open -/
theorem w_close {o len q : Nat} {hi : en_I} (h : lgS X L (o + 1) len q hi) (hL : isLw L) : lgS X L o len q (en_up hi 29 2 (hi 29 2 - iI 1)) ∧ Fx (lgP L len) hi (en_up hi 29 2 (hi 29 2 - iI 1)) := by
  obtain ⟨a1, a2, a3, a4, a5⟩ := id h
  have b := hL.s6
  have F1 : Fx (fun a j => a = 29 ∧ j = 2) hi (en_up hi 29 2 (hi 29 2 - iI 1)) := Fx.up Fx.rf ⟨rfl, rfl⟩
  refine ⟨⟨a1.fx F1 (fun j g => by omega) (fun g => by omega), a2.fx F1 (fun j g => by omega), ?_, by rw [up_ne (Or.inl (by omega))]; exact a4, a5⟩, F1.mono (fun a j g => Or.inr (Or.inl g))⟩
  rw [up_at, a3, iI_sub]
  exact iI_eq_of (by omega)
theorem f_close {k pl : Nat} {hi : en_I} (h : lgB X L k pl hi) (hL : isLw L) : lgB X L k pl (en_up hi 29 2 (hi 29 2 - iI 1)) ∧ Fx (lgP L 0) hi (en_up hi 29 2 (hi 29 2 - iI 1)) := by
  obtain ⟨a1, a2, m, a3, a4⟩ := id h
  have b := hL.s6
  have F1 : Fx (fun a j => a = 29 ∧ j = 2) hi (en_up hi 29 2 (hi 29 2 - iI 1)) := Fx.up Fx.rf ⟨rfl, rfl⟩
  exact ⟨⟨a1.fx F1 (fun j g => by omega) (fun g => by omega), a2.fx F1 (fun j g => by omega), m, a3, by rw [up_ne (Or.inl (by omega))]; exact a4⟩, F1.mono (fun a j g => Or.inr (Or.inl g))⟩
theorem c_m4 {f : Nat} (h0 : lgM G X L Y_X2_readValue f 0 3) : lgM G X L Y_X2_readFactor (f + 1) 4 1 := by
  intro o a q d len xc xs hi hl hr K hR h ho hd hne hK
  obtain ⟨d, rfl⟩ : ∃ e, d = e + 8 := ⟨d - 8, by omega⟩
  have e : pgF X (f + 1) 4 o a q = (if kdE X q = 1 then (if nvE X q ≤ 9999 then .inr (fun _ => iI (nvE X q : Int), nxE X q) else .inl (2, q)) else if sgE X q 40 then (if 6 ≤ o then .inl (3, q) else bnd (pgF X f 0 (o + 1) a (nxE X q)) (fun s q1 => if sgE X q1 41 then .inr (s, nxE X q1) else .inl (1, q1))) else if nmE (wdE X q) < 9 then .inr (fun nm => nm (nmE (wdE X q)), nxE X q) else .inl (1, q)) := rfl
  rw [e] at hne hK
  have r0 := hR.1
  have r1 := hR.2.1
  have hL := hR.2.2.2.2.s6
  have q0 : L < 134 := by omega
  have l6 := h.1.1.1
  have hq := h.2.1.1
  have len0 := h.2.2.2.2
  apply en_X2_readFactor
  simp (disch := omega) only [B_X2_readFactor_0, sh29, lt29, sh26, lt26, en_ops, en_opc, iI_add, iI_mul, iI_sub, jL_add, jL_mul, iI_le, iI_lt, iI_eq, iI_eq0, iI_lt0, iI_0le, iI_le0, iI_0lt, jL_iI, iI_jL, lc_eq, lc_lt, lc_le, lc_ge, lc_gt, Nat.sub_zero, Nat.zero_le, true_and, and_true, Nat.reduceAdd, Nat.reduceLeDiff]
  refine w_nameTold (d := d + 1) hR h ?_
  simp (disch := omega) only [sh29, lt29, sh26, lt26, r0, en_ops, en_opc, iI_add, iI_mul, iI_sub, jL_add, jL_mul, iI_le, iI_lt, iI_eq, iI_eq0, iI_lt0, iI_0le, iI_le0, iI_0lt, jL_iI, iI_jL, lc_eq, lc_lt, lc_le, lc_ge, lc_gt, Nat.sub_zero, Nat.zero_le, true_and, and_true, Nat.reduceAdd, Nat.reduceLeDiff]
  refine t_hasNumber (X := X) (d := d + 6) (z := .inr q) h.2.1 (fun b hb => ?_)
  simp (disch := omega) only [sh29, lt29, sh26, lt26, r0, en_ops, en_opc, iI_add, iI_mul, iI_sub, jL_add, jL_mul, iI_le, iI_lt, iI_eq, iI_eq0, iI_lt0, iI_0le, iI_le0, iI_0lt, jL_iI, iI_jL, lc_eq, lc_lt, lc_le, lc_ge, lc_gt, Nat.sub_zero, Nat.zero_le, true_and, and_true, Nat.reduceAdd, Nat.reduceLeDiff]
  rcases hb with ⟨rfl, w⟩ | ⟨rfl, w⟩
  · have w1 : kdE X q = 1 := w
    have hl9 := (kd_1 w1).1
    have n1 := nx_gt hl9
    rw [if_pos w1] at hne hK
    refine ⟨fun g => absurd g (by decide), fun _ => ?_⟩
    simp (disch := omega) only [sh29, lt29, sh26, lt26, r0, r1, en_ops, en_opc, iI_add, iI_mul, iI_sub, jL_add, jL_mul, iI_le, iI_lt, iI_eq, iI_eq0, iI_lt0, iI_0le, iI_le0, iI_0lt, jL_iI, iI_jL, lc_eq, lc_lt, lc_le, lc_ge, lc_gt, Nat.sub_zero, Nat.zero_le, true_and, and_true, Nat.reduceAdd, Nat.reduceLeDiff]
    refine t_needNum (d := d + 4) (z := .inr q) (lo := 0) (up := 9999) (by decide) hR.2.2.1 h.1 h.2.1 (fun hi1 v F1 X1 H1 v1 v2 v3 => ?_)
    by_cases v9 : nvE X q ≤ 9999
    · rw [if_pos v9] at hK
      have zn : zNm X 0 9999 (.inr q) = .inr (nxE X q) := by
        show (if kdE X q = 1 then (if (0 : Int) ≤ (nvE X q : Int) ∧ (nvE X q : Int) ≤ 9999 then .inr (nxE X q) else .inl (2, q)) else .inl (1, q) : tZ) = _
        rw [if_pos w1, if_pos (by omega)]
      have ve : v = (nvE X q : Int) := v3 _ zn
      rw [zn] at H1
      have S1 := h.tk hR.2.2.2.2 F1 X1 H1 (by omega)
      simp (disch := omega) only [hL.1, q0, en_ops, en_opc, iI_add, iI_mul, iI_sub, jL_add, jL_mul, iI_le, iI_lt, iI_eq, iI_eq0, iI_lt0, iI_0le, iI_le0, iI_0lt, jL_iI, iI_jL, lc_eq, lc_lt, lc_le, lc_ge, lc_gt, Nat.sub_zero, Nat.zero_le, true_and, and_true, Nat.reduceAdd, Nat.reduceLeDiff]
      refine w_emit (d := d + 6) hR S1 (by omega) (fun hi2 S2 F2 e2 => ?_)
      simp (disch := omega) only [en_ops, en_opc, iI_add, iI_mul, iI_sub, jL_add, jL_mul, iI_le, iI_lt, iI_eq, iI_eq0, iI_lt0, iI_0le, iI_le0, iI_0lt, jL_iI, iI_jL, lc_eq, lc_lt, lc_le, lc_ge, lc_gt, Nat.sub_zero, Nat.zero_le, true_and, and_true, Nat.reduceAdd, Nat.reduceLeDiff]
      refine hK.s rfl S2 (F1.p26.tr F2) (by omega) (by omega) (fun F hF => ?_)
      refine cs_num (v := nvE X q) ?_ v9 (by omega)
      rw [hF len (by omega) (by omega), e2, ve]
    · rw [if_neg v9] at hK
      have zn : zNm X 0 9999 (.inr q) = .inl (2, q) := by
        show (if kdE X q = 1 then (if (0 : Int) ≤ (nvE X q : Int) ∧ (nvE X q : Int) ≤ 9999 then .inr (nxE X q) else .inl (2, q)) else .inl (1, q) : tZ) = _
        rw [if_pos w1, if_neg (by omega)]
      rw [zn] at H1
      have B1 := h.bad hR.2.2.2.2 F1 X1 H1
      simp (disch := omega) only [hL.1, q0, en_ops, en_opc, iI_add, iI_mul, iI_sub, jL_add, jL_mul, iI_le, iI_lt, iI_eq, iI_eq0, iI_lt0, iI_0le, iI_le0, iI_0lt, jL_iI, iI_jL, lc_eq, lc_lt, lc_le, lc_ge, lc_gt, Nat.sub_zero, Nat.zero_le, true_and, and_true, Nat.reduceAdd, Nat.reduceLeDiff]
      refine f_emit (d := d + 6) hR B1 (fun hi2 b2 F2 => ?_)
      simp (disch := omega) only [en_ops, en_opc, iI_add, iI_mul, iI_sub, jL_add, jL_mul, iI_le, iI_lt, iI_eq, iI_eq0, iI_lt0, iI_0le, iI_le0, iI_0lt, jL_iI, iI_jL, lc_eq, lc_lt, lc_le, lc_ge, lc_gt, Nat.sub_zero, Nat.zero_le, true_and, and_true, Nat.reduceAdd, Nat.reduceLeDiff]
      exact hK.b rfl b2 (F1.p26.tr F2)
  have w1 : ¬ kdE X q = 1 := w
  rw [if_neg w1] at hne hK
  refine ⟨fun _ => ?_, fun g => (g (by first | trivial | rfl)).elim⟩
  by_cases nm : nmE (wdE X q) < 9
  · have hl9 := lt_nm nm
    have n1 := nx_gt hl9
    have ns : ¬ sgE X q 40 := fun g => by
      have k3 := (sg_kd (c := 40) ⟨by decide, by decide⟩ g).1
      have k2 := (wd_let (X := X) (q := q) (fun z => by rw [z, nm_9] at nm; omega)).1
      omega
    rw [if_neg ns, if_pos nm] at hK
    rw [if_pos nm]
    simp (disch := omega) only [sh29, lt29, sh26, lt26, r0, r1, hL.1, q0, en_ops, en_opc, iI_add, iI_mul, iI_sub, jL_add, jL_mul, iI_le, iI_lt, iI_eq, iI_eq0, iI_lt0, iI_0le, iI_le0, iI_0lt, jL_iI, iI_jL, lc_eq, lc_lt, lc_le, lc_ge, lc_gt, Nat.sub_zero, Nat.zero_le, true_and, and_true, Nat.reduceAdd, Nat.reduceLeDiff]
    refine ⟨fun g => absurd g (by omega), fun _ => ?_⟩
    refine t_emit (d := d + 6) hR h.2.2.2.1 (by omega) (fun hi2 e9 => ?_)
    have Fa : Fx (fun a j => (a = L ∧ j = 1) ∨ (a = L + 1 ∧ j = len)) hi hi2 := by subst e9; exact Fx.up (Fx.up Fx.rf (Or.inr ⟨rfl, rfl⟩)) (Or.inl ⟨rfl, rfl⟩)
    have el : hi2 L 1 = iI ((len + 1 : Nat) : Int) := by subst e9; exact up_at
    have ev : hi2 (L + 1) len = iI (-1 - (nmE (wdE X q) : Int)) := by subst e9; rw [up_ne (Or.inl (by omega)), up_at]
    have X2 : tqS X hi2 := h.1.fx Fa (fun j g => by omega) (fun g => by omega)
    have H2 : tkX X (.inr q) hi2 := tkX.fx (X := X) (z := .inr q) h.2.1 Fa (fun j g => by omega)
    simp (disch := omega) only [sh29, lt29, sh26, lt26, r0, en_ops, en_opc, iI_add, iI_mul, iI_sub, jL_add, jL_mul, iI_le, iI_lt, iI_eq, iI_eq0, iI_lt0, iI_0le, iI_le0, iI_0lt, jL_iI, iI_jL, lc_eq, lc_lt, lc_le, lc_ge, lc_gt, Nat.sub_zero, Nat.zero_le, true_and, and_true, Nat.reduceAdd, Nat.reduceLeDiff]
    refine t_stepZ (d := d + 5) (z := .inr q) hR.2.2.1 X2 H2 (fun q2 e => by cases e; exact hl9) (fun hi3 F3 X3 H3 => ?_)
    simp (disch := omega) only [en_ops, en_opc, iI_add, iI_mul, iI_sub, jL_add, jL_mul, iI_le, iI_lt, iI_eq, iI_eq0, iI_lt0, iI_0le, iI_le0, iI_0lt, jL_iI, iI_jL, lc_eq, lc_lt, lc_le, lc_ge, lc_gt, Nat.sub_zero, Nat.zero_le, true_and, and_true, Nat.reduceAdd, Nat.reduceLeDiff]
    have F4 : Fx (lgP L len) hi hi3 := (Fa.mono (fun a j g => by unfold lgP; omega)).tr F3.p26
    refine hK.s rfl ⟨X3, H3, ?_, ?_, by omega⟩ F4 (by omega) (by omega) (fun F hF => cs_nam (j := nmE (wdE X q)) ?_ nm (by omega))
    · rw [F3 29 2 (fun g => by have := g.1; omega), Fa 29 2 (by omega)]; exact h.2.2.1
    · rw [F3 L 1 (fun g => by have := g.1; omega), el]
    · rw [hF len (by omega) (by omega), F3 (L + 1) len (fun g => by have := g.1; omega), ev]
  · have nm9 : nmE (wdE X q) = 9 := by
      have : nmE (wdE X q) ≤ 9 := by unfold nmE; (repeat' split) <;> omega
      omega
    rw [if_neg nm] at hK ⊢
    simp (disch := omega) only [sh29, lt29, sh26, lt26, r0, en_ops, en_opc, iI_add, iI_mul, iI_sub, jL_add, jL_mul, iI_le, iI_lt, iI_eq, iI_eq0, iI_lt0, iI_0le, iI_le0, iI_0lt, jL_iI, iI_jL, lc_eq, lc_lt, lc_le, lc_ge, lc_gt, Nat.sub_zero, Nat.zero_le, true_and, and_true, Nat.reduceAdd, Nat.reduceLeDiff]
    refine ⟨fun _ => ?_, fun g => (g (by first | trivial | rfl)).elim⟩
    refine w_isSign (d := d + 6) (c := 40) ⟨by decide, by decide⟩ (by decide) h (fun b hb => ?_)
    simp (disch := omega) only [sh29, lt29, sh26, lt26, r0, en_ops, en_opc, iI_add, iI_mul, iI_sub, jL_add, jL_mul, iI_le, iI_lt, iI_eq, iI_eq0, iI_lt0, iI_0le, iI_le0, iI_0lt, jL_iI, iI_jL, lc_eq, lc_lt, lc_le, lc_ge, lc_gt, Nat.sub_zero, Nat.zero_le, true_and, and_true, Nat.reduceAdd, Nat.reduceLeDiff]
    rcases hb with ⟨rfl, w2⟩ | ⟨rfl, w2⟩
    · rw [if_pos w2] at hne hK
      refine ⟨fun g => absurd g (by decide), fun _ => ?_⟩
      refine w_enters (d := d + 4) hR h ho w2.1 (fun n6 h1 hs1 F1 => ?_) (fun y6 h1 b1 F1 => ?_)
      · rw [if_neg n6] at hne hK
        obtain ⟨o1, o2⟩ := bnd_o hne
        have n1 := nx_gt w2.1
        simp (disch := omega) only [sh29, lt29, sh26, lt26, r0, en_ops, en_opc, iI_add, iI_mul, iI_sub, jL_add, jL_mul, iI_le, iI_lt, iI_eq, iI_eq0, iI_lt0, iI_0le, iI_le0, iI_0lt, jL_iI, iI_jL, lc_eq, lc_lt, lc_le, lc_ge, lc_gt, Nat.sub_zero, Nat.zero_le, true_and, and_true, Nat.reduceAdd, Nat.reduceLeDiff]
        refine ⟨fun g => absurd g (by decide), fun _ => ?_⟩
        refine h0 (o + 1) a (nxE X q) (d + 7) len _ _ h1 hl hr _ hR hs1 (by omega) (by omega) o1 ⟨fun s q1 er hi2 len1 S2 F2 l1 l2 sg => ?_, fun e er hi2 b2 F2 => ?_⟩
        · rw [er, bnd_r] at hK
          have pp := pg_pos _ _ _ _ _ _ _ n1.2.1 n1.2.2 er
          simp (disch := omega) only [sh29, lt29, sh26, lt26, r0, en_ops, en_opc, iI_add, iI_mul, iI_sub, jL_add, jL_mul, iI_le, iI_lt, iI_eq, iI_eq0, iI_lt0, iI_0le, iI_le0, iI_0lt, jL_iI, iI_jL, lc_eq, lc_lt, lc_le, lc_ge, lc_gt, Nat.sub_zero, Nat.zero_le, true_and, and_true, Nat.reduceAdd, Nat.reduceLeDiff]
          refine w_needSign (d := d + 4) (c := 41) ⟨by decide, by decide⟩ (by decide) hR S2 (fun g hi3 S3 F3 => ?_) (fun g hi3 B3 F3 => ?_)
          · rw [if_pos g] at hK
            have n2 := nx_gt g.1
            obtain ⟨S4, F4⟩ := w_close S3 hR.2.2.2.2
            simp (disch := omega) only [sh29, lt29, sh26, lt26, en_ops, en_opc, iI_add, iI_mul, iI_sub, jL_add, jL_mul, iI_le, iI_lt, iI_eq, iI_eq0, iI_lt0, iI_0le, iI_le0, iI_0lt, jL_iI, iI_jL, lc_eq, lc_lt, lc_le, lc_ge, lc_gt, Nat.sub_zero, Nat.zero_le, true_and, and_true, Nat.reduceAdd, Nat.reduceLeDiff]
            refine hK.s rfl S4 (((F1.tr F2).tr F3.p26).tr (F4.lg l1)) l1 (by omega) (fun F hF => (sg F (fun j g1 g2 => ?_)).w (by omega))
            rw [hF j g1 g2, F4 (L + 1) j (fun g => by unfold lgP at g; omega), F3 (L + 1) j (fun g => by have := g.1; omega)]
          · rw [if_neg g] at hK
            obtain ⟨S4, F4⟩ := f_close B3 hR.2.2.2.2
            simp (disch := omega) only [sh29, lt29, sh26, lt26, en_ops, en_opc, iI_add, iI_mul, iI_sub, jL_add, jL_mul, iI_le, iI_lt, iI_eq, iI_eq0, iI_lt0, iI_0le, iI_le0, iI_0lt, jL_iI, iI_jL, lc_eq, lc_lt, lc_le, lc_ge, lc_gt, Nat.sub_zero, Nat.zero_le, true_and, and_true, Nat.reduceAdd, Nat.reduceLeDiff]
            exact hK.b rfl S4 ((((F1.tr F2).lg (by omega)).tr F3.p26).tr F4)
        · rw [er, bnd_l] at hK
          simp (disch := omega) only [sh29, lt29, sh26, lt26, r0, en_ops, en_opc, iI_add, iI_mul, iI_sub, jL_add, jL_mul, iI_le, iI_lt, iI_eq, iI_eq0, iI_lt0, iI_0le, iI_le0, iI_0lt, jL_iI, iI_jL, lc_eq, lc_lt, lc_le, lc_ge, lc_gt, Nat.sub_zero, Nat.zero_le, true_and, and_true, Nat.reduceAdd, Nat.reduceLeDiff]
          refine f_needSign (d := d + 4) (c := 41) ⟨by decide, by decide⟩ (by decide) hR b2 (fun hi3 B3 F3 => ?_)
          obtain ⟨S4, F4⟩ := f_close B3 hR.2.2.2.2
          simp (disch := omega) only [sh29, lt29, sh26, lt26, en_ops, en_opc, iI_add, iI_mul, iI_sub, jL_add, jL_mul, iI_le, iI_lt, iI_eq, iI_eq0, iI_lt0, iI_0le, iI_le0, iI_0lt, jL_iI, iI_jL, lc_eq, lc_lt, lc_le, lc_ge, lc_gt, Nat.sub_zero, Nat.zero_le, true_and, and_true, Nat.reduceAdd, Nat.reduceLeDiff]
          exact hK.b rfl S4 ((((F1.lg (by omega)).tr F2).tr F3.p26).tr F4)
      · rw [if_pos y6] at hK
        simp (disch := omega) only [en_ops, en_opc, iI_add, iI_mul, iI_sub, jL_add, jL_mul, iI_le, iI_lt, iI_eq, iI_eq0, iI_lt0, iI_0le, iI_le0, iI_0lt, jL_iI, iI_jL, lc_eq, lc_lt, lc_le, lc_ge, lc_gt, Nat.sub_zero, Nat.zero_le, true_and, and_true, Nat.reduceAdd, Nat.reduceLeDiff]
        refine ⟨fun _ => ?_, fun g => (g (by first | trivial | rfl)).elim⟩
        exact hK.b rfl b1 F1.p26
    · rw [if_neg w2] at hK
      refine ⟨fun _ => ?_, fun g => (g (by first | trivial | rfl)).elim⟩
      refine w_fail (d := d + 6) (k := 1) (by decide) hR h (fun hi1 B1 F1 => ?_)
      simp (disch := omega) only [en_ops, en_opc, iI_add, iI_mul, iI_sub, jL_add, jL_mul, iI_le, iI_lt, iI_eq, iI_eq0, iI_lt0, iI_0le, iI_le0, iI_0lt, jL_iI, iI_jL, lc_eq, lc_lt, lc_le, lc_ge, lc_gt, Nat.sub_zero, Nat.zero_le, true_and, and_true, Nat.reduceAdd, Nat.reduceLeDiff]
      exact hK.b rfl B1 F1.p26
theorem c_m9 {f : Nat} (h0 : lgM G X L Y_X2_readValue f 0 3) (h5 : lgM G X L Y_X2_readCondition f 5 6) (h9 : lgM G X L Y_X2_readTest f 9 4) : lgM G X L Y_X2_readTest (f + 1) 9 4 := by
  intro o a q d len xc xs hi hl hr K hR h ho hd hne hK
  obtain ⟨d, rfl⟩ : ∃ e, d = e + 10 := ⟨d - 10, by omega⟩
  have e : pgF X (f + 1) 9 o a q = (if sgE X q 91 then (if 6 ≤ o then .inl (3, q) else bnd (pgF X f 5 (o + 1) a (nxE X q)) (fun s q1 => if sgE X q1 93 then .inr (s, nxE X q1) else .inl (1, q1))) else if wdE X q = 14836 then (if 6 ≤ o then .inl (3, q) else bnd (pgF X f 9 (o + 1) a (nxE X q)) (fun s q1 => .inr (fun nm => 1 - s nm, q1))) else bnd (pgF X f 0 o a q) (fun s q1 => if sgE X q1 60 ∨ sgE X q1 62 ∨ sgE X q1 61 then bnd (pgF X f 0 o a (nxE X q1)) (fun y q2 => .inr (fun nm => opE (if sgE X q1 60 then 6 else if sgE X q1 62 then 7 else 8) (s nm) (y nm), q2)) else .inl (1, q1))) := rfl
  rw [e] at hne hK
  have r0 := hR.1
  have r1 := hR.2.1
  have hL := hR.2.2.2.2.s6
  have q0 : L < 134 := by omega
  have l6 := h.1.1.1
  have hq := h.2.1.1
  have len0 := h.2.2.2.2
  apply en_X2_readTest
  simp (disch := omega) only [B_X2_readTest_0, sh29, lt29, sh26, lt26, r0, en_ops, en_opc, iI_add, iI_mul, iI_sub, jL_add, jL_mul, iI_le, iI_lt, iI_eq, iI_eq0, iI_lt0, iI_0le, iI_le0, iI_0lt, jL_iI, iI_jL, lc_eq, lc_lt, lc_le, lc_ge, lc_gt, Nat.sub_zero, Nat.zero_le, true_and, and_true, Nat.reduceAdd, Nat.reduceLeDiff]
  refine w_isWord (d := d + 4) (j := 12) iw12 hR h (fun b hb => ?_)
  rw [pk12] at hb
  simp (disch := omega) only [sh29, lt29, sh26, lt26, r0, en_ops, en_opc, iI_add, iI_mul, iI_sub, jL_add, jL_mul, iI_le, iI_lt, iI_eq, iI_eq0, iI_lt0, iI_0le, iI_le0, iI_0lt, jL_iI, iI_jL, lc_eq, lc_lt, lc_le, lc_ge, lc_gt, Nat.sub_zero, Nat.zero_le, true_and, and_true, Nat.reduceAdd, Nat.reduceLeDiff]
  rcases hb with ⟨rfl, w⟩ | ⟨rfl, w⟩
  · have hl9 := lt_wd w (by decide)
    have ns : ¬ sgE X q 91 := fun g => by
      have k3 := (sg_kd (c := 91) ⟨by decide, by decide⟩ g).1
      have k2 := (wd_let (X := X) (q := q) (fun z => by omega)).1
      omega
    rw [if_neg ns, if_pos w] at hne hK
    refine ⟨fun g => absurd g (by decide), fun _ => ?_⟩
    refine w_enters (d := d + 6) hR h ho hl9 (fun n6 h1 hs1 F1 => ?_) (fun y6 h1 b1 F1 => ?_)
    · rw [if_neg n6] at hne hK
      obtain ⟨o1, o2⟩ := bnd_o hne
      have n1 := nx_gt hl9
      simp (disch := omega) only [sh29, lt29, sh26, lt26, r0, en_ops, en_opc, iI_add, iI_mul, iI_sub, jL_add, jL_mul, iI_le, iI_lt, iI_eq, iI_eq0, iI_lt0, iI_0le, iI_le0, iI_0lt, jL_iI, iI_jL, lc_eq, lc_lt, lc_le, lc_ge, lc_gt, Nat.sub_zero, Nat.zero_le, true_and, and_true, Nat.reduceAdd, Nat.reduceLeDiff]
      refine ⟨fun g => absurd g (by decide), fun _ => ?_⟩
      refine h9 (o + 1) a (nxE X q) (d + 9) len _ _ h1 hl hr _ hR hs1 (by omega) (by omega) o1 ⟨fun s q1 er hi2 len1 S2 F2 l1 l2 sg => ?_, fun e er hi2 b2 F2 => ?_⟩
      · rw [er, bnd_r] at hK
        have pp := pg_pos _ _ _ _ _ _ _ n1.2.1 n1.2.2 er
        simp (disch := omega) only [sh29, lt29, sh26, lt26, r1, hL.1, q0, en_ops, en_opc, iI_add, iI_mul, iI_sub, jL_add, jL_mul, iI_le, iI_lt, iI_eq, iI_eq0, iI_lt0, iI_0le, iI_le0, iI_0lt, jL_iI, iI_jL, lc_eq, lc_lt, lc_le, lc_ge, lc_gt, Nat.sub_zero, Nat.zero_le, true_and, and_true, Nat.reduceAdd, Nat.reduceLeDiff]
        refine w_emit (d := d + 8) hR S2 (by omega) (fun hi3 S3 F3 e3 => ?_)
        obtain ⟨S4, F4⟩ := w_close S3 hR.2.2.2.2
        simp (disch := omega) only [sh29, lt29, sh26, lt26, en_ops, en_opc, iI_add, iI_mul, iI_sub, jL_add, jL_mul, iI_le, iI_lt, iI_eq, iI_eq0, iI_lt0, iI_0le, iI_le0, iI_0lt, jL_iI, iI_jL, lc_eq, lc_lt, lc_le, lc_ge, lc_gt, Nat.sub_zero, Nat.zero_le, true_and, and_true, Nat.reduceAdd, Nat.reduceLeDiff]
        refine hK.s rfl S4 (((F1.tr F2).tr (F3.lg l1)).tr (F4.lg (by omega))) (by omega) (by omega) (fun F hF => ?_)
        refine cs_not (N1 := 6 * (6 - (o + 1)) + 4) (sg F (fun j g1 g2 => ?_)) ?_ (by omega) (by omega)
        · rw [hF j g1 (by omega), F4 (L + 1) j (fun g => by unfold lgP at g; omega), F3 (L + 1) j (fun g => by unfold lgP at g; omega)]
        · rw [hF len1 (by omega) (by omega), F4 (L + 1) len1 (fun g => by unfold lgP at g; omega), e3]
      · rw [er, bnd_l] at hK
        simp (disch := omega) only [sh29, lt29, sh26, lt26, r1, hL.1, q0, en_ops, en_opc, iI_add, iI_mul, iI_sub, jL_add, jL_mul, iI_le, iI_lt, iI_eq, iI_eq0, iI_lt0, iI_0le, iI_le0, iI_0lt, jL_iI, iI_jL, lc_eq, lc_lt, lc_le, lc_ge, lc_gt, Nat.sub_zero, Nat.zero_le, true_and, and_true, Nat.reduceAdd, Nat.reduceLeDiff]
        refine f_emit (d := d + 8) hR b2 (fun hi3 B3 F3 => ?_)
        obtain ⟨S4, F4⟩ := f_close B3 hR.2.2.2.2
        simp (disch := omega) only [sh29, lt29, sh26, lt26, en_ops, en_opc, iI_add, iI_mul, iI_sub, jL_add, jL_mul, iI_le, iI_lt, iI_eq, iI_eq0, iI_lt0, iI_0le, iI_le0, iI_0lt, jL_iI, iI_jL, lc_eq, lc_lt, lc_le, lc_ge, lc_gt, Nat.sub_zero, Nat.zero_le, true_and, and_true, Nat.reduceAdd, Nat.reduceLeDiff]
        exact hK.b rfl S4 ((((F1.lg (by omega)).tr F2).tr F3).tr F4)
    · rw [if_pos y6] at hK
      simp (disch := omega) only [en_ops, en_opc, iI_add, iI_mul, iI_sub, jL_add, jL_mul, iI_le, iI_lt, iI_eq, iI_eq0, iI_lt0, iI_0le, iI_le0, iI_0lt, jL_iI, iI_jL, lc_eq, lc_lt, lc_le, lc_ge, lc_gt, Nat.sub_zero, Nat.zero_le, true_and, and_true, Nat.reduceAdd, Nat.reduceLeDiff]
      refine ⟨fun _ => ?_, fun g => (g (by first | trivial | rfl)).elim⟩
      exact hK.b rfl b1 F1.p26
  refine ⟨fun _ => ?_, fun g => (g (by first | trivial | rfl)).elim⟩
  refine w_isSign (d := d + 8) (c := 91) ⟨by decide, by decide⟩ (by decide) h (fun b hb => ?_)
  simp (disch := omega) only [sh29, lt29, sh26, lt26, r0, en_ops, en_opc, iI_add, iI_mul, iI_sub, jL_add, jL_mul, iI_le, iI_lt, iI_eq, iI_eq0, iI_lt0, iI_0le, iI_le0, iI_0lt, jL_iI, iI_jL, lc_eq, lc_lt, lc_le, lc_ge, lc_gt, Nat.sub_zero, Nat.zero_le, true_and, and_true, Nat.reduceAdd, Nat.reduceLeDiff]
  rcases hb with ⟨rfl, w2⟩ | ⟨rfl, w2⟩
  · rw [if_pos w2] at hne hK
    refine ⟨fun g => absurd g (by decide), fun _ => ?_⟩
    refine w_enters (d := d + 6) hR h ho w2.1 (fun n6 h1 hs1 F1 => ?_) (fun y6 h1 b1 F1 => ?_)
    · rw [if_neg n6] at hne hK
      obtain ⟨o1, o2⟩ := bnd_o hne
      have n1 := nx_gt w2.1
      simp (disch := omega) only [sh29, lt29, sh26, lt26, r0, en_ops, en_opc, iI_add, iI_mul, iI_sub, jL_add, jL_mul, iI_le, iI_lt, iI_eq, iI_eq0, iI_lt0, iI_0le, iI_le0, iI_0lt, jL_iI, iI_jL, lc_eq, lc_lt, lc_le, lc_ge, lc_gt, Nat.sub_zero, Nat.zero_le, true_and, and_true, Nat.reduceAdd, Nat.reduceLeDiff]
      refine ⟨fun g => absurd g (by decide), fun _ => ?_⟩
      refine h5 (o + 1) a (nxE X q) (d + 9) len _ _ h1 hl hr _ hR hs1 (by omega) (by omega) o1 ⟨fun s q1 er hi2 len1 S2 F2 l1 l2 sg => ?_, fun e er hi2 b2 F2 => ?_⟩
      · rw [er, bnd_r] at hK
        have pp := pg_pos _ _ _ _ _ _ _ n1.2.1 n1.2.2 er
        simp (disch := omega) only [sh29, lt29, sh26, lt26, r0, en_ops, en_opc, iI_add, iI_mul, iI_sub, jL_add, jL_mul, iI_le, iI_lt, iI_eq, iI_eq0, iI_lt0, iI_0le, iI_le0, iI_0lt, jL_iI, iI_jL, lc_eq, lc_lt, lc_le, lc_ge, lc_gt, Nat.sub_zero, Nat.zero_le, true_and, and_true, Nat.reduceAdd, Nat.reduceLeDiff]
        refine w_needSign (d := d + 6) (c := 93) ⟨by decide, by decide⟩ (by decide) hR S2 (fun g hi3 S3 F3 => ?_) (fun g hi3 B3 F3 => ?_)
        · rw [if_pos g] at hK
          have n2 := nx_gt g.1
          obtain ⟨S4, F4⟩ := w_close S3 hR.2.2.2.2
          simp (disch := omega) only [sh29, lt29, sh26, lt26, en_ops, en_opc, iI_add, iI_mul, iI_sub, jL_add, jL_mul, iI_le, iI_lt, iI_eq, iI_eq0, iI_lt0, iI_0le, iI_le0, iI_0lt, jL_iI, iI_jL, lc_eq, lc_lt, lc_le, lc_ge, lc_gt, Nat.sub_zero, Nat.zero_le, true_and, and_true, Nat.reduceAdd, Nat.reduceLeDiff]
          refine hK.s rfl S4 (((F1.tr F2).tr F3.p26).tr (F4.lg l1)) l1 (by omega) (fun F hF => (sg F (fun j g1 g2 => ?_)).w (by omega))
          rw [hF j g1 g2, F4 (L + 1) j (fun g => by unfold lgP at g; omega), F3 (L + 1) j (fun g => by have := g.1; omega)]
        · rw [if_neg g] at hK
          obtain ⟨S4, F4⟩ := f_close B3 hR.2.2.2.2
          simp (disch := omega) only [sh29, lt29, sh26, lt26, en_ops, en_opc, iI_add, iI_mul, iI_sub, jL_add, jL_mul, iI_le, iI_lt, iI_eq, iI_eq0, iI_lt0, iI_0le, iI_le0, iI_0lt, jL_iI, iI_jL, lc_eq, lc_lt, lc_le, lc_ge, lc_gt, Nat.sub_zero, Nat.zero_le, true_and, and_true, Nat.reduceAdd, Nat.reduceLeDiff]
          exact hK.b rfl S4 ((((F1.tr F2).lg (by omega)).tr F3.p26).tr F4)
      · rw [er, bnd_l] at hK
        simp (disch := omega) only [sh29, lt29, sh26, lt26, r0, en_ops, en_opc, iI_add, iI_mul, iI_sub, jL_add, jL_mul, iI_le, iI_lt, iI_eq, iI_eq0, iI_lt0, iI_0le, iI_le0, iI_0lt, jL_iI, iI_jL, lc_eq, lc_lt, lc_le, lc_ge, lc_gt, Nat.sub_zero, Nat.zero_le, true_and, and_true, Nat.reduceAdd, Nat.reduceLeDiff]
        refine f_needSign (d := d + 6) (c := 93) ⟨by decide, by decide⟩ (by decide) hR b2 (fun hi3 B3 F3 => ?_)
        obtain ⟨S4, F4⟩ := f_close B3 hR.2.2.2.2
        simp (disch := omega) only [sh29, lt29, sh26, lt26, en_ops, en_opc, iI_add, iI_mul, iI_sub, jL_add, jL_mul, iI_le, iI_lt, iI_eq, iI_eq0, iI_lt0, iI_0le, iI_le0, iI_0lt, jL_iI, iI_jL, lc_eq, lc_lt, lc_le, lc_ge, lc_gt, Nat.sub_zero, Nat.zero_le, true_and, and_true, Nat.reduceAdd, Nat.reduceLeDiff]
        exact hK.b rfl S4 ((((F1.lg (by omega)).tr F2).tr F3.p26).tr F4)
    · rw [if_pos y6] at hK
      simp (disch := omega) only [en_ops, en_opc, iI_add, iI_mul, iI_sub, jL_add, jL_mul, iI_le, iI_lt, iI_eq, iI_eq0, iI_lt0, iI_0le, iI_le0, iI_0lt, jL_iI, iI_jL, lc_eq, lc_lt, lc_le, lc_ge, lc_gt, Nat.sub_zero, Nat.zero_le, true_and, and_true, Nat.reduceAdd, Nat.reduceLeDiff]
      refine ⟨fun _ => ?_, fun g => (g (by first | trivial | rfl)).elim⟩
      exact hK.b rfl b1 F1.p26
  rw [if_neg w2, if_neg w] at hne hK
  obtain ⟨o1, o2⟩ := bnd_o hne
  refine ⟨fun _ => ?_, fun g => (g (by first | trivial | rfl)).elim⟩
  refine h0 o a q (d + 9) len _ _ hi hl hr _ hR h ho (by omega) o1 ⟨fun s q1 er hi2 len1 S2 F2 l1 l2 sg => ?_, fun e er hi2 b2 F2 => ?_⟩
  · have ne2 := o2 s q1 er
    rw [er, bnd_r] at hK
    have pp := pg_pos _ _ _ _ _ _ _ hq h.2.1.2.1 er
    simp (disch := omega) only [sh29, lt29, sh26, lt26, r0, en_ops, en_opc, iI_add, iI_mul, iI_sub, jL_add, jL_mul, iI_le, iI_lt, iI_eq, iI_eq0, iI_lt0, iI_0le, iI_le0, iI_0lt, jL_iI, iI_jL, lc_eq, lc_lt, lc_le, lc_ge, lc_gt, Nat.sub_zero, Nat.zero_le, true_and, and_true, Nat.reduceAdd, Nat.reduceLeDiff]
    refine w_cmp (d := d + 7) hR S2 (fun g => ?_) (fun g hi3 v B3 F3 => ?_)
    · rw [if_pos g] at hK ne2
      obtain ⟨p1, p2⟩ := bnd_o ne2
      have hl9 : q1 < X.2 := by rcases g with w | w | w <;> exact w.1
      have n1 := nx_gt hl9
      simp (disch := omega) only [sh29, lt29, sh26, lt26, r0, en_ops, en_opc, iI_add, iI_mul, iI_sub, jL_add, jL_mul, iI_le, iI_lt, iI_eq, iI_eq0, iI_lt0, iI_0le, iI_le0, iI_0lt, jL_iI, iI_jL, lc_eq, lc_lt, lc_le, lc_ge, lc_gt, Nat.sub_zero, Nat.zero_le, true_and, and_true, Nat.reduceAdd, Nat.reduceLeDiff]
      refine w_step (d := d + 7) hR S2 hl9 (fun hi3 S3 F3 => ?_)
      simp (disch := omega) only [sh29, lt29, sh26, lt26, r0, en_ops, en_opc, iI_add, iI_mul, iI_sub, jL_add, jL_mul, iI_le, iI_lt, iI_eq, iI_eq0, iI_lt0, iI_0le, iI_le0, iI_0lt, jL_iI, iI_jL, lc_eq, lc_lt, lc_le, lc_ge, lc_gt, Nat.sub_zero, Nat.zero_le, true_and, and_true, Nat.reduceAdd, Nat.reduceLeDiff]
      refine h0 o a (nxE X q1) (d + 9) len1 _ _ hi3 hl hr _ hR S3 ho (by omega) p1 ⟨fun y q2 er2 hi4 len2 S4 F4 l3 l4 sg2 => ?_, fun e er2 hi4 b4 F4 => ?_⟩
      · rw [er2, bnd_r] at hK
        have pp2 := pg_pos _ _ _ _ _ _ _ n1.2.1 n1.2.2 er2
        simp (disch := omega) only [sh29, lt29, sh26, lt26, r1, hL.1, q0, en_ops, en_opc, iI_add, iI_mul, iI_sub, jL_add, jL_mul, iI_le, iI_lt, iI_eq, iI_eq0, iI_lt0, iI_0le, iI_le0, iI_0lt, jL_iI, iI_jL, lc_eq, lc_lt, lc_le, lc_ge, lc_gt, Nat.sub_zero, Nat.zero_le, true_and, and_true, Nat.reduceAdd, Nat.reduceLeDiff]
        have l5 := S2.2.2.2.2
        refine w_emit (d := d + 8) hR S4 (by omega) (fun hi5 S5 F5 e5 => ?_)
        simp (disch := omega) only [en_ops, en_opc, iI_add, iI_mul, iI_sub, jL_add, jL_mul, iI_le, iI_lt, iI_eq, iI_eq0, iI_lt0, iI_0le, iI_le0, iI_0lt, jL_iI, iI_jL, lc_eq, lc_lt, lc_le, lc_ge, lc_gt, Nat.sub_zero, Nat.zero_le, true_and, and_true, Nat.reduceAdd, Nat.reduceLeDiff]
        refine hK.s rfl S5 (((F2.tr (F3.p26)).tr (F4.lg l1)).tr (F5.lg (by omega))) (by omega) (by omega) (fun F hF => ?_)
        obtain ⟨cd, hcd⟩ : ∃ cd, cd = (if sgE X q1 60 then 6 else if sgE X q1 62 then 7 else 8) := ⟨_, rfl⟩
        rw [← hcd]
        have c8 : 6 ≤ cd ∧ cd ≤ 8 := by rw [hcd]; (repeat' split) <;> omega
        refine cs_bin (N1 := 6 * (6 - o) + 3) (N2 := 6 * (6 - o) + 3) (b := len1) (o := cd) (sg F (fun j g1 g2 => ?_)) (sg2 F (fun j g1 g2 => ?_)) ?_ (by omega) l3 (by omega) (by omega) (by omega)
        · rw [hF j (by omega) (by omega), F5 (L + 1) j (fun g => by unfold lgP at g; omega), F4 (L + 1) j (fun g => by unfold lgP at g; omega), F3 (L + 1) j (fun g => by have := g.1; omega)]
        · rw [hF j (by omega) (by omega), F5 (L + 1) j (fun g => by unfold lgP at g; omega)]
        · rw [hF len2 (by omega) (by omega), e5]
          refine iI_eq_of ?_
          rw [if_pos (show cd ≤ 8 by omega), hcd]
          by_cases z1 : sgE X q1 60
          · rw [if_pos z1, if_pos z1]; rfl
          · rw [if_neg z1, if_neg z1]
            by_cases z2 : sgE X q1 62
            · rw [if_pos z2, if_pos z2]; rfl
            · rw [if_neg z2, if_neg z2]; rfl
      · rw [er2, bnd_l] at hK
        simp (disch := omega) only [sh29, lt29, sh26, lt26, r1, hL.1, q0, en_ops, en_opc, iI_add, iI_mul, iI_sub, jL_add, jL_mul, iI_le, iI_lt, iI_eq, iI_eq0, iI_lt0, iI_0le, iI_le0, iI_0lt, jL_iI, iI_jL, lc_eq, lc_lt, lc_le, lc_ge, lc_gt, Nat.sub_zero, Nat.zero_le, true_and, and_true, Nat.reduceAdd, Nat.reduceLeDiff]
        refine f_emit (d := d + 8) hR b4 (fun hi5 b5 F5 => ?_)
        simp (disch := omega) only [en_ops, en_opc, iI_add, iI_mul, iI_sub, jL_add, jL_mul, iI_le, iI_lt, iI_eq, iI_eq0, iI_lt0, iI_0le, iI_le0, iI_0lt, jL_iI, iI_jL, lc_eq, lc_lt, lc_le, lc_ge, lc_gt, Nat.sub_zero, Nat.zero_le, true_and, and_true, Nat.reduceAdd, Nat.reduceLeDiff]
        exact hK.b rfl b5 ((((F2.lg (by omega)).tr F3.p26).tr F4).tr F5)
    · rw [if_neg g] at hK
      simp (disch := omega) only [sh29, lt29, sh26, lt26, r0, en_ops, en_opc, iI_add, iI_mul, iI_sub, jL_add, jL_mul, iI_le, iI_lt, iI_eq, iI_eq0, iI_lt0, iI_0le, iI_le0, iI_0lt, jL_iI, iI_jL, lc_eq, lc_lt, lc_le, lc_ge, lc_gt, Nat.sub_zero, Nat.zero_le, true_and, and_true, Nat.reduceAdd, Nat.reduceLeDiff]
      refine f_step (d := d + 7) hR B3 (fun hi4 B4 F4 => ?_)
      simp (disch := omega) only [sh29, lt29, sh26, lt26, r0, en_ops, en_opc, iI_add, iI_mul, iI_sub, jL_add, jL_mul, iI_le, iI_lt, iI_eq, iI_eq0, iI_lt0, iI_0le, iI_le0, iI_0lt, jL_iI, iI_jL, lc_eq, lc_lt, lc_le, lc_ge, lc_gt, Nat.sub_zero, Nat.zero_le, true_and, and_true, Nat.reduceAdd, Nat.reduceLeDiff]
      refine f_val (d := d) hR B4 (fun hi5 B5 F5 => ?_)
      simp (disch := omega) only [sh29, lt29, sh26, lt26, r1, hL.1, q0, en_ops, en_opc, iI_add, iI_mul, iI_sub, jL_add, jL_mul, iI_le, iI_lt, iI_eq, iI_eq0, iI_lt0, iI_0le, iI_le0, iI_0lt, jL_iI, iI_jL, lc_eq, lc_lt, lc_le, lc_ge, lc_gt, Nat.sub_zero, Nat.zero_le, true_and, and_true, Nat.reduceAdd, Nat.reduceLeDiff]
      refine f_emit (d := d + 8) hR B5 (fun hi6 b6 F6 => ?_)
      simp (disch := omega) only [en_ops, en_opc, iI_add, iI_mul, iI_sub, jL_add, jL_mul, iI_le, iI_lt, iI_eq, iI_eq0, iI_lt0, iI_0le, iI_le0, iI_0lt, jL_iI, iI_jL, lc_eq, lc_lt, lc_le, lc_ge, lc_gt, Nat.sub_zero, Nat.zero_le, true_and, and_true, Nat.reduceAdd, Nat.reduceLeDiff]
      exact hK.b rfl b6 (((((F2.lg (by omega)).tr F3.p26).tr F4.p26).tr F5).tr F6)
  · rw [er, bnd_l] at hK
    simp (disch := omega) only [sh29, lt29, sh26, lt26, r0, en_ops, en_opc, iI_add, iI_mul, iI_sub, jL_add, jL_mul, iI_le, iI_lt, iI_eq, iI_eq0, iI_lt0, iI_0le, iI_le0, iI_0lt, jL_iI, iI_jL, lc_eq, lc_lt, lc_le, lc_ge, lc_gt, Nat.sub_zero, Nat.zero_le, true_and, and_true, Nat.reduceAdd, Nat.reduceLeDiff]
    refine f_cmp (d := d + 7) hR b2 (fun hi3 v B3 F3 => ?_)
    simp (disch := omega) only [sh29, lt29, sh26, lt26, r0, en_ops, en_opc, iI_add, iI_mul, iI_sub, jL_add, jL_mul, iI_le, iI_lt, iI_eq, iI_eq0, iI_lt0, iI_0le, iI_le0, iI_0lt, jL_iI, iI_jL, lc_eq, lc_lt, lc_le, lc_ge, lc_gt, Nat.sub_zero, Nat.zero_le, true_and, and_true, Nat.reduceAdd, Nat.reduceLeDiff]
    refine f_step (d := d + 7) hR B3 (fun hi4 B4 F4 => ?_)
    simp (disch := omega) only [sh29, lt29, sh26, lt26, r0, en_ops, en_opc, iI_add, iI_mul, iI_sub, jL_add, jL_mul, iI_le, iI_lt, iI_eq, iI_eq0, iI_lt0, iI_0le, iI_le0, iI_0lt, jL_iI, iI_jL, lc_eq, lc_lt, lc_le, lc_ge, lc_gt, Nat.sub_zero, Nat.zero_le, true_and, and_true, Nat.reduceAdd, Nat.reduceLeDiff]
    refine f_val (d := d) hR B4 (fun hi5 B5 F5 => ?_)
    simp (disch := omega) only [sh29, lt29, sh26, lt26, r1, hL.1, q0, en_ops, en_opc, iI_add, iI_mul, iI_sub, jL_add, jL_mul, iI_le, iI_lt, iI_eq, iI_eq0, iI_lt0, iI_0le, iI_le0, iI_0lt, jL_iI, iI_jL, lc_eq, lc_lt, lc_le, lc_ge, lc_gt, Nat.sub_zero, Nat.zero_le, true_and, and_true, Nat.reduceAdd, Nat.reduceLeDiff]
    refine f_emit (d := d + 8) hR B5 (fun hi6 b6 F6 => ?_)
    simp (disch := omega) only [en_ops, en_opc, iI_add, iI_mul, iI_sub, jL_add, jL_mul, iI_le, iI_lt, iI_eq, iI_eq0, iI_lt0, iI_0le, iI_le0, iI_0lt, jL_iI, iI_jL, lc_eq, lc_lt, lc_le, lc_ge, lc_gt, Nat.sub_zero, Nat.zero_le, true_and, and_true, Nat.reduceAdd, Nat.reduceLeDiff]
    exact hK.b rfl b6 ((((F2.tr F3.p26).tr F4.p26).tr F5).tr F6)
end
