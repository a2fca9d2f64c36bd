section
variable {G : en_G} {d : Nat} {K : en_K} {W : zW} {n : Nat} {hi : en_I} {hl : en_L} {hr : en_F} {xc xs : Nat}
theorem InvR.t1 (hI : InvR G W hi hr) : InvR G W (en_up hi 110 0 (iI 0)) hr ∧ Fm hi (en_up hi 110 0 (iI 0)) ∧ en_up hi 110 0 (iI 0) 110 0 = iI 0 := ⟨hI.t0, fun x hx => up_row (by omega), up_at⟩
theorem rEnd.no {W' : zW} {r code k : Nat} {v0 v : Value} {h1 hi' : en_I} (H : rEnd G W W' r code v0 v K hi hl hr) (F1 : Fm hi h1) (hk : k < 4) (hrk : r = k + 1) (I' : InvR G (zRef W k) hi' hr) (F' : Fm h1 hi') (T' : hi' 110 0 = iI (code : Int)) : K (.inl (some v0)) hi' hl hr := H.2 k hk hrk hi' I' (F1.tr F') T'
theorem m_cmean {c : Int} (hI : InvR G W hi hr) (hz : zOK n W) (hc : iRg c) (H : rEnd G W W (if inC W c then 0 else 1) 1 (.int (iI 0)) (.int (iI (mnP (zS W).1.1 (zE W).2.2.1 c.toNat))) K hi hl hr) : en_Call G (d + 5) xc xs Y_X11_mean wN wN [.ref 110, .int (iI c)] hi hl hr K := by
  have nc12 := hz.c.1
  obtain ⟨I1, F1, T1⟩ := hI.t1
  apply en_X11_mean
  simp (disch := omega) only [B_X11_mean_0, sh110, lt110, en_ops, en_opc, iI_add, iI_mul, iI_sub, jL_add, jL_mul, iI_le, iI_lt, iI_eq, iI_eq0, iI_lt0, iI_0le, iI_le0, iI_0lt, jL_iI, iI_jL, lc_eq, lc_lt, lc_le, lc_ge, lc_gt, Nat.sub_zero, Nat.zero_le, true_and, and_true, Nat.reduceAdd, Nat.reduceLeDiff]
  generalize en_up hi 110 0 (iI 0) = h1 at *
  refine m_isCell (d := d + 2) (code := 1) I1 hz T1 hc (by omega) (fun e => ?_) (fun e hi' I' F' T' => ?_)
  · rw [if_pos e] at H
    obtain ⟨b, b1, b2, -⟩ := I1.e
    simp (disch := omega) only [sh110, lt110, en_ops, en_opc, iI_add, iI_mul, iI_sub, jL_add, jL_mul, iI_le, iI_lt, iI_eq, iI_eq0, iI_lt0, iI_0le, iI_le0, iI_0lt, jL_iI, iI_jL, lc_eq, lc_lt, lc_le, lc_ge, lc_gt, Nat.sub_zero, Nat.zero_le, true_and, and_true, Nat.reduceAdd, Nat.reduceLeDiff]
    refine ⟨fun _ => ?_, fun e => absurd e (by decide)⟩
    rw [show c = ((c.toNat : Nat) : Int) by omega]
    refine m_meanOf (d := d) (b := b) I1.1 I1.xr.1.1 b1 b2 hz.f (by omega) ?_
    simp (disch := omega) only [en_ops, en_opc, iI_add, iI_mul, iI_sub, jL_add, jL_mul, iI_le, iI_lt, iI_eq, iI_eq0, iI_lt0, iI_0le, iI_le0, iI_0lt, jL_iI, iI_jL, lc_eq, lc_lt, lc_le, lc_ge, lc_gt, Nat.sub_zero, Nat.zero_le, true_and, and_true, Nat.reduceAdd, Nat.reduceLeDiff]
    exact H.1 rfl h1 I1 F1 T1
  · rw [if_neg e] at H
    simp (disch := omega) only [en_ops, en_opc, iI_add, iI_mul, iI_sub, jL_add, jL_mul, iI_le, iI_lt, iI_eq, iI_eq0, iI_lt0, iI_0le, iI_le0, iI_0lt, jL_iI, iI_jL, lc_eq, lc_lt, lc_le, lc_ge, lc_gt, Nat.sub_zero, Nat.zero_le, true_and, and_true, Nat.reduceAdd, Nat.reduceLeDiff]
    exact ⟨fun e => (e (by first | trivial | rfl)).elim, fun _ => H.no F1 (by omega) rfl I' F' T'⟩
theorem m_csound {c : Int} (hI : InvR G W hi hr) (hz : zOK n W) (hc : iRg c) (H : rEnd G W W (if inC W c then 0 else 1) 1 (.int (iI 0)) (.int (iI (sdP (zS W).1.1 (zE W).2.2.1 c.toNat))) K hi hl hr) : en_Call G (d + 6) xc xs Y_X11_sound wN wN [.ref 110, .int (iI c)] hi hl hr K := by
  have nc12 := hz.c.1
  obtain ⟨I1, F1, T1⟩ := hI.t1
  apply en_X11_sound
  simp (disch := omega) only [B_X11_sound_0, sh110, lt110, en_ops, en_opc, iI_add, iI_mul, iI_sub, jL_add, jL_mul, iI_le, iI_lt, iI_eq, iI_eq0, iI_lt0, iI_0le, iI_le0, iI_0lt, jL_iI, iI_jL, lc_eq, lc_lt, lc_le, lc_ge, lc_gt, Nat.sub_zero, Nat.zero_le, true_and, and_true, Nat.reduceAdd, Nat.reduceLeDiff]
  generalize en_up hi 110 0 (iI 0) = h1 at *
  refine m_isCell (d := d + 3) (code := 1) I1 hz T1 hc (by omega) (fun e => ?_) (fun e hi' I' F' T' => ?_)
  · rw [if_pos e] at H
    obtain ⟨b, b1, b2, -⟩ := I1.e
    simp (disch := omega) only [sh110, lt110, en_ops, en_opc, iI_add, iI_mul, iI_sub, jL_add, jL_mul, iI_le, iI_lt, iI_eq, iI_eq0, iI_lt0, iI_0le, iI_le0, iI_0lt, jL_iI, iI_jL, lc_eq, lc_lt, lc_le, lc_ge, lc_gt, Nat.sub_zero, Nat.zero_le, true_and, and_true, Nat.reduceAdd, Nat.reduceLeDiff]
    refine ⟨fun _ => ?_, fun e => absurd e (by decide)⟩
    rw [show c = ((c.toNat : Nat) : Int) by omega]
    refine m_soundOf (d := d) (b := b) I1.1 I1.xr.1.1 b1 b2 hz.f (by omega) ?_
    simp (disch := omega) only [en_ops, en_opc, iI_add, iI_mul, iI_sub, jL_add, jL_mul, iI_le, iI_lt, iI_eq, iI_eq0, iI_lt0, iI_0le, iI_le0, iI_0lt, jL_iI, iI_jL, lc_eq, lc_lt, lc_le, lc_ge, lc_gt, Nat.sub_zero, Nat.zero_le, true_and, and_true, Nat.reduceAdd, Nat.reduceLeDiff]
    exact H.1 rfl h1 I1 F1 T1
  · rw [if_neg e] at H
    simp (disch := omega) only [en_ops, en_opc, iI_add, iI_mul, iI_sub, jL_add, jL_mul, iI_le, iI_lt, iI_eq, iI_eq0, iI_lt0, iI_0le, iI_le0, iI_0lt, jL_iI, iI_jL, lc_eq, lc_lt, lc_le, lc_ge, lc_gt, Nat.sub_zero, Nat.zero_le, true_and, and_true, Nat.reduceAdd, Nat.reduceLeDiff]
    exact ⟨fun e => (e (by first | trivial | rfl)).elim, fun _ => H.no F1 (by omega) rfl I' F' T'⟩
theorem InvR.H (hI : InvR G W hi hr) (hz : zOK n W) : rhH (zS W).2.1 (zS W).2.2.1 hi := by
  obtain ⟨-, x1, x2, -⟩ := hI.xr
  obtain ⟨o1, o2⟩ := hz.x.2.2.2.2.1
  exact ⟨x1, o1, fun i hi9 => ⟨(x2 i hi9).1, (x2 i hi9).2, o2 i hi9⟩⟩
theorem m_cword {c : Int} (hI : InvR G W hi hr) (hz : zOK n W) (hc : iRg c) (H : rEnd G W W (if inC W c then 0 else 1) 1 (.long (jL 0)) (.long (jL (wdP (zS W).1.1 (zE W).2.2.1 (zS W).2.1 (hdG (zS W).2.2.1) c.toNat))) K hi hl hr) : en_Call G (d + 5) xc xs Y_X11_word_ wN wN [.ref 110, .int (iI c)] hi hl hr K := by
  have nc12 := hz.c.1
  obtain ⟨I1, F1, T1⟩ := hI.t1
  apply en_X11_word_
  simp (disch := omega) only [B_X11_word__0, sh110, lt110, en_ops, en_opc, iI_add, iI_mul, iI_sub, jL_add, jL_mul, iI_le, iI_lt, iI_eq, iI_eq0, iI_lt0, iI_0le, iI_le0, iI_0lt, jL_iI, iI_jL, lc_eq, lc_lt, lc_le, lc_ge, lc_gt, Nat.sub_zero, Nat.zero_le, true_and, and_true, Nat.reduceAdd, Nat.reduceLeDiff]
  generalize en_up hi 110 0 (iI 0) = h1 at *
  refine m_isCell (d := d + 2) (code := 1) I1 hz T1 hc (by omega) (fun e => ?_) (fun e hi' I' F' T' => ?_)
  · rw [if_pos e] at H
    obtain ⟨b, b1, b2, -⟩ := I1.e
    simp (disch := omega) only [sh110, lt110, en_ops, en_opc, iI_add, iI_mul, iI_sub, jL_add, jL_mul, iI_le, iI_lt, iI_eq, iI_eq0, iI_lt0, iI_0le, iI_le0, iI_0lt, jL_iI, iI_jL, lc_eq, lc_lt, lc_le, lc_ge, lc_gt, Nat.sub_zero, Nat.zero_le, true_and, and_true, Nat.reduceAdd, Nat.reduceLeDiff]
    refine ⟨fun _ => ?_, fun e => absurd e (by decide)⟩
    rw [show c = ((c.toNat : Nat) : Int) by omega]
    refine m_wordOf (d := d) (b := b) I1.1 I1.xr.1.1 b1 b2 hz.f (I1.H hz) (by omega) ?_
    simp (disch := omega) only [en_ops, en_opc, iI_add, iI_mul, iI_sub, jL_add, jL_mul, iI_le, iI_lt, iI_eq, iI_eq0, iI_lt0, iI_0le, iI_le0, iI_0lt, jL_iI, iI_jL, lc_eq, lc_lt, lc_le, lc_ge, lc_gt, Nat.sub_zero, Nat.zero_le, true_and, and_true, Nat.reduceAdd, Nat.reduceLeDiff]
    exact H.1 rfl h1 I1 F1 T1
  · rw [if_neg e] at H
    simp (disch := omega) only [en_ops, en_opc, iI_add, iI_mul, iI_sub, jL_add, jL_mul, iI_le, iI_lt, iI_eq, iI_eq0, iI_lt0, iI_0le, iI_le0, iI_0lt, jL_iI, iI_jL, lc_eq, lc_lt, lc_le, lc_ge, lc_gt, Nat.sub_zero, Nat.zero_le, true_and, and_true, Nat.reduceAdd, Nat.reduceLeDiff]
    exact ⟨fun e => (e (by first | trivial | rfl)).elim, fun _ => H.no F1 (by omega) rfl I' F' T'⟩
theorem m_ccell {c w : Int} (hI : InvR G W hi hr) (hz : zOK n W) (hc : iRg c) (hw : iRg w) (H : rEnd G W W (if inC W c then if 0 ≤ w ∧ w ≤ 2 then 0 else 3 else 1) (if inC W c then 2 else 1) (.int (iI 0)) (.int (iI (clP W c.toNat w))) K hi hl hr) : en_Call G (d + 3) xc xs Y_X11_cell wN wN [.ref 110, .int (iI c), .int (iI w)] hi hl hr K := by
  have nc12 := hz.c.1
  obtain ⟨I1, F1, T1⟩ := hI.t1
  apply en_X11_cell
  simp (disch := omega) only [B_X11_cell_0, sh110, lt110, en_ops, en_opc, iI_add, iI_mul, iI_sub, jL_add, jL_mul, iI_le, iI_lt, iI_eq, iI_eq0, iI_lt0, iI_0le, iI_le0, iI_0lt, jL_iI, iI_jL, lc_eq, lc_lt, lc_le, lc_ge, lc_gt, Nat.sub_zero, Nat.zero_le, true_and, and_true, Nat.reduceAdd, Nat.reduceLeDiff]
  generalize en_up hi 110 0 (iI 0) = h1 at *
  refine m_isCell (d := d) (code := 1) I1 hz T1 hc (by omega) (fun e => ?_) (fun e hi' I' F' T' => ?_)
  · rw [if_pos e, if_pos e] at H
    obtain ⟨b, b1, b2, b3, -⟩ := I1.e
    obtain ⟨⟨-, -, r10, -, r12, -⟩, -⟩ := id I1.1
    simp (disch := omega) only [sh110, lt110, en_ops, en_opc, iI_add, iI_mul, iI_sub, jL_add, jL_mul, iI_le, iI_lt, iI_eq, iI_eq0, iI_lt0, iI_0le, iI_le0, iI_0lt, jL_iI, iI_jL, lc_eq, lc_lt, lc_le, lc_ge, lc_gt, Nat.sub_zero, Nat.zero_le, true_and, and_true, Nat.reduceAdd, Nat.reduceLeDiff]
    refine ⟨fun e => absurd e (by decide), fun _ => m_within hw.1 hw.2 (by decide) (by decide) (by decide) (by decide) ?_⟩
    by_cases e2 : 0 ≤ w ∧ w ≤ 2
    · rw [if_pos e2]
      rw [if_pos e2] at H
      simp (disch := omega) only [sh110, lt110, en_ops, en_opc, iI_add, iI_mul, iI_sub, jL_add, jL_mul, iI_le, iI_lt, iI_eq, iI_eq0, iI_lt0, iI_0le, iI_le0, iI_0lt, jL_iI, iI_jL, lc_eq, lc_lt, lc_le, lc_ge, lc_gt, Nat.sub_zero, Nat.zero_le, true_and, and_true, Nat.reduceAdd, Nat.reduceLeDiff]
      refine m_may (d := d + 1) (code := 2) (k := 2) I1 T1 (Or.inr rfl) (by omega) (by omega) (fun _ => ?_) (fun e => absurd e (by decide))
      have Hx := H.1 rfl h1 I1 F1 T1
      unfold clP at Hx
      obtain ⟨-, x2, x3, -⟩ := I1.xr.1
      simp (disch := omega) only [r10, r12, sh110, lt110, sh113, lt113, sh115, lt115, en_ops, en_opc, iI_add, iI_mul, iI_sub, jL_add, jL_mul, iI_le, iI_lt, iI_eq, iI_eq0, iI_lt0, iI_0le, iI_le0, iI_0lt, jL_iI, iI_jL, lc_eq, lc_lt, lc_le, lc_ge, lc_gt, Nat.sub_zero, Nat.zero_le, true_and, and_true, Nat.reduceAdd, Nat.reduceLeDiff]
      refine ⟨fun _ => ⟨fun e3 => ⟨fun e4 => ⟨600 + c.toNat, iI_eq_of (by omega), by omega, ?_⟩, fun e4 => ⟨52 + c.toNat, iI_eq_of (by omega), by omega, ?_⟩⟩, fun e3 => ⟨576 + c.toNat, iI_eq_of (by omega), by omega, ?_⟩⟩, fun e => absurd e (by decide)⟩
      · rw [if_neg e3, if_neg (by omega)] at Hx
        rw [show h1 115 (600 + c.toNat) = iI ((zS W).1.2.2.1 c.toNat) from x3 _ (by omega)]
        exact Hx
      · rw [if_neg e3, if_pos (by omega)] at Hx
        rw [b1 _ (by omega), b3 _ (by omega)]
        exact Hx
      · rw [if_pos (by omega)] at Hx
        rw [show h1 115 (576 + c.toNat) = iI ((zS W).1.2.1 c.toNat) from x2 _ (by omega)]
        exact Hx
    · rw [if_neg e2]
      rw [if_neg e2] at H
      simp (disch := omega) only [sh110, lt110, en_ops, en_opc, iI_add, iI_mul, iI_sub, jL_add, jL_mul, iI_le, iI_lt, iI_eq, iI_eq0, iI_lt0, iI_0le, iI_le0, iI_0lt, jL_iI, iI_jL, lc_eq, lc_lt, lc_le, lc_ge, lc_gt, Nat.sub_zero, Nat.zero_le, true_and, and_true, Nat.reduceAdd, Nat.reduceLeDiff]
      refine m_may (d := d + 1) (code := 2) (k := 2) I1 T1 (Or.inl rfl) (by omega) (by omega) (fun e => absurd e (by decide)) (fun _ hi' I' F' T' => ?_)
      simp (disch := omega) only [en_ops, en_opc, iI_add, iI_mul, iI_sub, jL_add, jL_mul, iI_le, iI_lt, iI_eq, iI_eq0, iI_lt0, iI_0le, iI_le0, iI_0lt, jL_iI, iI_jL, lc_eq, lc_lt, lc_le, lc_ge, lc_gt, Nat.sub_zero, Nat.zero_le, true_and, and_true, Nat.reduceAdd, Nat.reduceLeDiff]
      exact ⟨fun e => (e (by first | trivial | rfl)).elim, fun _ => H.no F1 (by omega) rfl I' F' T'⟩
  · rw [if_neg e, if_neg e] at H
    simp (disch := omega) only [en_ops, en_opc, iI_add, iI_mul, iI_sub, jL_add, jL_mul, iI_le, iI_lt, iI_eq, iI_eq0, iI_lt0, iI_0le, iI_le0, iI_0lt, jL_iI, iI_jL, lc_eq, lc_lt, lc_le, lc_ge, lc_gt, Nat.sub_zero, Nat.zero_le, true_and, and_true, Nat.reduceAdd, Nat.reduceLeDiff]
    exact ⟨fun _ => H.no F1 (by omega) rfl I' F' T', fun e => (e (by first | trivial | rfl)).elim⟩
theorem m_csums {w : Int} (hI : InvR G W hi hr) (hz : zOK n W) (hw : iRg w) (H : rEnd G W W (if 0 ≤ w ∧ w ≤ 4 then 0 else 3) 1 (.int (iI 0)) (.int (iI ((zS W).1.2.2.2.1 w.toNat))) K hi hl hr) : en_Call G (d + 2) xc xs Y_X11_sums wN wN [.ref 110, .int (iI w)] hi hl hr K := by
  obtain ⟨I1, F1, T1⟩ := hI.t1
  obtain ⟨⟨-, -, r10, -, r12, -⟩, -⟩ := id I1.1
  apply en_X11_sums
  simp (disch := omega) only [B_X11_sums_0, sh110, lt110, en_ops, en_opc, iI_add, iI_mul, iI_sub, jL_add, jL_mul, iI_le, iI_lt, iI_eq, iI_eq0, iI_lt0, iI_0le, iI_le0, iI_0lt, jL_iI, iI_jL, lc_eq, lc_lt, lc_le, lc_ge, lc_gt, Nat.sub_zero, Nat.zero_le, true_and, and_true, Nat.reduceAdd, Nat.reduceLeDiff]
  generalize en_up hi 110 0 (iI 0) = h1 at *
  refine m_within hw.1 hw.2 (by decide) (by decide) (by decide) (by decide) ?_
  by_cases e2 : 0 ≤ w ∧ w ≤ 4
  · rw [if_pos e2]
    rw [if_pos e2] at H
    simp (disch := omega) only [sh110, lt110, en_ops, en_opc, iI_add, iI_mul, iI_sub, jL_add, jL_mul, iI_le, iI_lt, iI_eq, iI_eq0, iI_lt0, iI_0le, iI_le0, iI_0lt, jL_iI, iI_jL, lc_eq, lc_lt, lc_le, lc_ge, lc_gt, Nat.sub_zero, Nat.zero_le, true_and, and_true, Nat.reduceAdd, Nat.reduceLeDiff]
    refine m_may (d := d) (code := 1) (k := 2) I1 T1 (Or.inr rfl) (by omega) (by omega) (fun _ => ?_) (fun e => absurd e (by decide))
    simp (disch := omega) only [r12, sh110, lt110, sh115, lt115, en_ops, en_opc, iI_add, iI_mul, iI_sub, jL_add, jL_mul, iI_le, iI_lt, iI_eq, iI_eq0, iI_lt0, iI_0le, iI_le0, iI_0lt, jL_iI, iI_jL, lc_eq, lc_lt, lc_le, lc_ge, lc_gt, Nat.sub_zero, Nat.zero_le, true_and, and_true, Nat.reduceAdd, Nat.reduceLeDiff]
    refine ⟨fun _ => ⟨625 + w.toNat, iI_eq_of (by omega), by omega, ?_⟩, fun e => absurd e (by decide)⟩
    rw [show h1 115 (625 + w.toNat) = iI ((zS W).1.2.2.2.1 w.toNat) from I1.xr.1.2.2.2.1 _ (by omega)]
    exact H.1 rfl h1 I1 F1 T1
  · rw [if_neg e2]
    rw [if_neg e2] at H
    simp (disch := omega) only [sh110, lt110, en_ops, en_opc, iI_add, iI_mul, iI_sub, jL_add, jL_mul, iI_le, iI_lt, iI_eq, iI_eq0, iI_lt0, iI_0le, iI_le0, iI_0lt, jL_iI, iI_jL, lc_eq, lc_lt, lc_le, lc_ge, lc_gt, Nat.sub_zero, Nat.zero_le, true_and, and_true, Nat.reduceAdd, Nat.reduceLeDiff]
    refine m_may (d := d) (code := 1) (k := 2) I1 T1 (Or.inl rfl) (by omega) (by omega) (fun e => absurd e (by decide)) (fun _ hi' I' F' T' => ?_)
    simp (disch := omega) only [en_ops, en_opc, iI_add, iI_mul, iI_sub, jL_add, jL_mul, iI_le, iI_lt, iI_eq, iI_eq0, iI_lt0, iI_0le, iI_le0, iI_0lt, jL_iI, iI_jL, lc_eq, lc_lt, lc_le, lc_ge, lc_gt, Nat.sub_zero, Nat.zero_le, true_and, and_true, Nat.reduceAdd, Nat.reduceLeDiff]
    exact ⟨fun e => (e (by first | trivial | rfl)).elim, fun _ => H.no F1 (by omega) rfl I' F' T'⟩
theorem m_cfault (hI : InvR G W hi hr) (H : rEnd G W W 0 0 (.int (iI 0)) (.int (iI (zFa W))) K hi hl hr) : en_Call G (d + 1) xc xs Y_X11_fault wN wN [.ref 110] hi hl hr K := by
  obtain ⟨I1, F1, T1⟩ := hI.t1
  have f8 := I1.2.2.1
  apply en_X11_fault
  simp (disch := omega) only [B_X11_fault_0, sh110, lt110, en_ops, en_opc, iI_add, iI_mul, iI_sub, jL_add, jL_mul, iI_le, iI_lt, iI_eq, iI_eq0, iI_lt0, iI_0le, iI_le0, iI_0lt, jL_iI, iI_jL, lc_eq, lc_lt, lc_le, lc_ge, lc_gt, Nat.sub_zero, Nat.zero_le, true_and, and_true, Nat.reduceAdd, Nat.reduceLeDiff]
  generalize en_up hi 110 0 (iI 0) = h1 at *
  rw [f8]
  exact H.1 rfl h1 I1 F1 T1
theorem m_cstatus {w : Int} (hI : InvR G W hi hr) (hw : iRg w) (H : rEnd G W W 0 0 (.int (iI 0)) (.int (iI (if 0 ≤ w ∧ w ≤ 3 then zRf W w.toNat else -1))) K hi hl hr) : en_Call G (d + 2) xc xs Y_X11_status wN wN [.ref 110, .int (iI w)] hi hl hr K := by
  obtain ⟨I1, F1, T1⟩ := hI.t1
  obtain ⟨⟨r1, -⟩, -⟩ := id I1.1
  apply en_X11_status
  simp (disch := omega) only [B_X11_status_0, sh110, lt110, en_ops, en_opc, iI_add, iI_mul, iI_sub, jL_add, jL_mul, iI_le, iI_lt, iI_eq, iI_eq0, iI_lt0, iI_0le, iI_le0, iI_0lt, jL_iI, iI_jL, lc_eq, lc_lt, lc_le, lc_ge, lc_gt, Nat.sub_zero, Nat.zero_le, true_and, and_true, Nat.reduceAdd, Nat.reduceLeDiff]
  generalize en_up hi 110 0 (iI 0) = h1 at *
  have Hx := H.1 rfl h1 I1 F1 T1
  refine m_within hw.1 hw.2 (by decide) (by decide) (by decide) (by decide) ?_
  by_cases e2 : 0 ≤ w ∧ w ≤ 3
  · rw [if_pos e2]
    rw [if_pos e2] at Hx
    simp (disch := omega) only [r1, sh110, lt110, sh111, lt111, en_ops, en_opc, iI_add, iI_mul, iI_sub, jL_add, jL_mul, iI_le, iI_lt, iI_eq, iI_eq0, iI_lt0, iI_0le, iI_le0, iI_0lt, jL_iI, iI_jL, lc_eq, lc_lt, lc_le, lc_ge, lc_gt, Nat.sub_zero, Nat.zero_le, true_and, and_true, Nat.reduceAdd, Nat.reduceLeDiff]
    refine ⟨fun e => absurd e (by decide), fun _ => ⟨w.toNat, iI_eq_of (by omega), by omega, ?_⟩⟩
    rw [I1.2.2.2.2.2.2.1 _ (by omega)]
    exact Hx
  · rw [if_neg e2]
    rw [if_neg e2] at Hx
    simp (disch := omega) only [en_ops, en_opc, iI_add, iI_mul, iI_sub, jL_add, jL_mul, iI_le, iI_lt, iI_eq, iI_eq0, iI_lt0, iI_0le, iI_le0, iI_0lt, jL_iI, iI_jL, lc_eq, lc_lt, lc_le, lc_ge, lc_gt, Nat.sub_zero, Nat.zero_le, true_and, and_true, Nat.reduceAdd, Nat.reduceLeDiff]
    exact ⟨fun _ => Hx, fun e => (e (by first | trivial | rfl)).elim⟩
theorem m_cseen {k w : Int} (hI : InvR G W hi hr) (hk : iRg k) (hw : iRg w) (H : rEnd G W W (if (1 ≤ k ∧ k ≤ 999) ∧ 1 ≤ w ∧ w ≤ 16 then 0 else 3) 1 (.int (iI 0)) (.int (iI ((16 * k + w - 1) / w))) K hi hl hr) : en_Call G (d + 2) xc xs Y_X11_seen wN wN [.ref 110, .int (iI k), .int (iI w)] hi hl hr K := by
  obtain ⟨I1, F1, T1⟩ := hI.t1
  apply en_X11_seen
  simp (disch := omega) only [B_X11_seen_0, sh110, lt110, en_ops, en_opc, iI_add, iI_mul, iI_sub, jL_add, jL_mul, iI_le, iI_lt, iI_eq, iI_eq0, iI_lt0, iI_0le, iI_le0, iI_0lt, jL_iI, iI_jL, lc_eq, lc_lt, lc_le, lc_ge, lc_gt, Nat.sub_zero, Nat.zero_le, true_and, and_true, Nat.reduceAdd, Nat.reduceLeDiff]
  generalize en_up hi 110 0 (iI 0) = h1 at *
  have no : ¬ ((1 ≤ k ∧ k ≤ 999) ∧ 1 ≤ w ∧ w ≤ 16) → en_V G Y_X11_seen (d + 2) wN wN K 32 [.ref 110, .int (iI k), .int (iI w)] [.int (iI 0), .ref 110] h1 hl hr xc xs := fun e => by
    rw [if_neg e] at H
    apply s_X11_seen_32
    simp (disch := omega) only [B_X11_seen_32, sh110, lt110, en_ops, en_opc, iI_add, iI_mul, iI_sub, jL_add, jL_mul, iI_le, iI_lt, iI_eq, iI_eq0, iI_lt0, iI_0le, iI_le0, iI_0lt, jL_iI, iI_jL, lc_eq, lc_lt, lc_le, lc_ge, lc_gt, Nat.sub_zero, Nat.zero_le, true_and, and_true, Nat.reduceAdd, Nat.reduceLeDiff]
    refine m_may (d := d) (code := 1) (k := 2) I1 T1 (Or.inl rfl) (by omega) (by omega) (fun e => absurd e (by decide)) (fun _ hi' I' F' T' => ?_)
    simp (disch := omega) only [en_ops, en_opc, iI_add, iI_mul, iI_sub, jL_add, jL_mul, iI_le, iI_lt, iI_eq, iI_eq0, iI_lt0, iI_0le, iI_le0, iI_0lt, jL_iI, iI_jL, lc_eq, lc_lt, lc_le, lc_ge, lc_gt, Nat.sub_zero, Nat.zero_le, true_and, and_true, Nat.reduceAdd, Nat.reduceLeDiff]
    exact ⟨fun e => (e (by first | trivial | rfl)).elim, fun _ => H.no F1 (by omega) rfl I' F' T'⟩
  refine m_within hk.1 hk.2 (by decide) (by decide) (by decide) (by decide) ?_
  by_cases e1 : 1 ≤ k ∧ k ≤ 999
  · rw [if_pos e1]
    simp (disch := omega) only [en_ops, en_opc, iI_add, iI_mul, iI_sub, jL_add, jL_mul, iI_le, iI_lt, iI_eq, iI_eq0, iI_lt0, iI_0le, iI_le0, iI_0lt, jL_iI, iI_jL, lc_eq, lc_lt, lc_le, lc_ge, lc_gt, Nat.sub_zero, Nat.zero_le, true_and, and_true, Nat.reduceAdd, Nat.reduceLeDiff]
    refine ⟨fun e => absurd e (by decide), fun _ => m_within hw.1 hw.2 (by decide) (by decide) (by decide) (by decide) ?_⟩
    by_cases e2 : 1 ≤ w ∧ w ≤ 16
    · rw [if_pos e2]
      rw [if_pos ⟨e1, e2⟩] at H
      simp (disch := omega) only [en_ops, en_opc, iI_add, iI_mul, iI_sub, jL_add, jL_mul, iI_le, iI_lt, iI_eq, iI_eq0, iI_lt0, iI_0le, iI_le0, iI_0lt, jL_iI, iI_jL, lc_eq, lc_lt, lc_le, lc_ge, lc_gt, Nat.sub_zero, Nat.zero_le, true_and, and_true, Nat.reduceAdd, Nat.reduceLeDiff]
      refine ⟨fun e => absurd e (by decide), fun _ => ?_⟩
      apply s_X11_seen_32
      simp (disch := omega) only [B_X11_seen_32, sh110, lt110, en_ops, en_opc, iI_add, iI_mul, iI_sub, jL_add, jL_mul, iI_le, iI_lt, iI_eq, iI_eq0, iI_lt0, iI_0le, iI_le0, iI_0lt, jL_iI, iI_jL, lc_eq, lc_lt, lc_le, lc_ge, lc_gt, Nat.sub_zero, Nat.zero_le, true_and, and_true, Nat.reduceAdd, Nat.reduceLeDiff]
      refine m_may (d := d) (code := 1) (k := 2) I1 T1 (Or.inr rfl) (by omega) (by omega) (fun _ => ?_) (fun e => absurd e (by decide))
      simp (disch := omega) only [en_ops, en_opc, iI_add, iI_mul, iI_sub, jL_add, jL_mul, iI_le, iI_lt, iI_eq, iI_eq0, iI_lt0, iI_0le, iI_le0, iI_0lt, jL_iI, iI_jL, lc_eq, lc_lt, lc_le, lc_ge, lc_gt, Nat.sub_zero, Nat.zero_le, true_and, and_true, Nat.reduceAdd, Nat.reduceLeDiff]
      refine ⟨fun _ => ⟨by omega, ?_⟩, fun e => absurd e (by decide)⟩
      rw [iI_div (by omega) (by omega) (by omega) (by omega)]
      exact H.1 rfl h1 I1 F1 T1
    · rw [if_neg e2]
      simp (disch := omega) only [en_ops, en_opc, iI_add, iI_mul, iI_sub, jL_add, jL_mul, iI_le, iI_lt, iI_eq, iI_eq0, iI_lt0, iI_0le, iI_le0, iI_0lt, jL_iI, iI_jL, lc_eq, lc_lt, lc_le, lc_ge, lc_gt, Nat.sub_zero, Nat.zero_le, true_and, and_true, Nat.reduceAdd, Nat.reduceLeDiff]
      exact ⟨fun _ => no (fun g => e2 g.2), fun e => (e (by first | trivial | rfl)).elim⟩
  · rw [if_neg e1]
    simp (disch := omega) only [en_ops, en_opc, iI_add, iI_mul, iI_sub, jL_add, jL_mul, iI_le, iI_lt, iI_eq, iI_eq0, iI_lt0, iI_0le, iI_le0, iI_0lt, jL_iI, iI_jL, lc_eq, lc_lt, lc_le, lc_ge, lc_gt, Nat.sub_zero, Nat.zero_le, true_and, and_true, Nat.reduceAdd, Nat.reduceLeDiff]
    exact ⟨fun _ => no (fun g => e1 g.1), fun e => (e (by first | trivial | rfl)).elim⟩
end
