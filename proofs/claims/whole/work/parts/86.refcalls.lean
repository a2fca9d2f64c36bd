section
variable {G : en_G} {d : Nat} {K : en_K} {W : zW} {n : Nat} {hi : en_I} {hl : en_L} {hr : en_F} {xc xs : Nat}
theorem m_cleft {l y c z : Int} (hI : InvR G W hi hr) (hz : zOK n W) (hn : n ≤ 512) (hlr : iRg l) (hyr : iRg y) (hc : iRg c) (hz9 : iRg z) (H : rEnd G W W (if inC W c then if inL W l then if inY W y then if inZ W z then if isNow W then 0 else 4 else 3 else 2 else 2 else 1) (if inC W c then if inL W l then if inY W y then if inZ W z then 4 else 3 else 2 else 2 else 1) (.int (iI 0)) (.int (iI (aP (yrP (eL W l.toNat) (zYs W y.toNat).2 (zYs W y.toNat).1 (zS W).1).1 c.toNat z.toNat))) K hi hl hr) : en_Call G (d + 9) xc xs Y_X11_left wN wN [.ref 110, .int (iI l), .int (iI y), .int (iI c), .int (iI z)] hi hl hr K := by
  obtain ⟨I1, F1, T1⟩ := hI.t1
  obtain ⟨⟨-, -, r10, -, r12, -⟩, -⟩ := id I1.1
  obtain ⟨nc12, nz6⟩ := hz.c
  have nl4 := hz.2.1
  have ny4 := hz.2.2.1
  apply en_X11_left
  simp (disch := omega) only [B_X11_left_0, sh110, lt110, en_ops, en_opc, iI_add, iI_mul, iI_sub, jL_add, jL_mul, iI_le, iI_lt, iI_eq, iI_eq0, iI_lt0, iI_0le, iI_le0, iI_0lt, jL_iI, iI_jL, lc_eq, lc_lt, lc_le, lc_ge, lc_gt, Nat.sub_zero, Nat.zero_le, true_and, and_true, Nat.reduceAdd, Nat.reduceLeDiff]
  generalize en_up hi 110 0 (iI 0) = h1 at *
  refine m_isCell (d := d + 6) (code := 1) I1 hz T1 hc (by omega) (fun e1 => ?_) (fun e hi' I' F' T' => ?_)
  · simp (disch := omega) only [sh110, lt110, en_ops, en_opc, iI_add, iI_mul, iI_sub, jL_add, jL_mul, iI_le, iI_lt, iI_eq, iI_eq0, iI_lt0, iI_0le, iI_le0, iI_0lt, jL_iI, iI_jL, lc_eq, lc_lt, lc_le, lc_ge, lc_gt, Nat.sub_zero, Nat.zero_le, true_and, and_true, Nat.reduceAdd, Nat.reduceLeDiff]
    refine ⟨fun e => absurd e (by decide), fun _ => m_isLaw (d := d + 6) (code := 2) I1 hz T1 hlr (by omega) (fun e2 => ?_) (fun e hi' I' F' T' => ?_)⟩
    · simp (disch := omega) only [sh110, lt110, en_ops, en_opc, iI_add, iI_mul, iI_sub, jL_add, jL_mul, iI_le, iI_lt, iI_eq, iI_eq0, iI_lt0, iI_0le, iI_le0, iI_0lt, jL_iI, iI_jL, lc_eq, lc_lt, lc_le, lc_ge, lc_gt, Nat.sub_zero, Nat.zero_le, true_and, and_true, Nat.reduceAdd, Nat.reduceLeDiff]
      refine ⟨fun e => absurd e (by decide), fun _ => m_isYear (d := d + 6) (code := 2) I1 hz T1 hyr (by omega) (fun e3 => ?_) (fun e hi' I' F' T' => ?_)⟩
      · simp (disch := omega) only [sh110, lt110, en_ops, en_opc, iI_add, iI_mul, iI_sub, jL_add, jL_mul, iI_le, iI_lt, iI_eq, iI_eq0, iI_lt0, iI_0le, iI_le0, iI_0lt, jL_iI, iI_jL, lc_eq, lc_lt, lc_le, lc_ge, lc_gt, Nat.sub_zero, Nat.zero_le, true_and, and_true, Nat.reduceAdd, Nat.reduceLeDiff]
        refine ⟨fun e => absurd e (by decide), fun _ => m_isSize (d := d + 6) I1 hz9 ?_⟩
        by_cases e4 : inZ W z
        · rw [if_pos e4]
          simp (disch := omega) only [sh110, lt110, en_ops, en_opc, iI_add, iI_mul, iI_sub, jL_add, jL_mul, iI_le, iI_lt, iI_eq, iI_eq0, iI_lt0, iI_0le, iI_le0, iI_0lt, jL_iI, iI_jL, lc_eq, lc_lt, lc_le, lc_ge, lc_gt, Nat.sub_zero, Nat.zero_le, true_and, and_true, Nat.reduceAdd, Nat.reduceLeDiff]
          refine m_may (d := d + 7) (code := 3) (k := 2) I1 T1 (Or.inr rfl) (by omega) (by omega) (fun _ => ?_) (fun e => absurd e (by decide))
          simp (disch := omega) only [sh110, lt110, en_ops, en_opc, iI_add, iI_mul, iI_sub, jL_add, jL_mul, iI_le, iI_lt, iI_eq, iI_eq0, iI_lt0, iI_0le, iI_le0, iI_0lt, jL_iI, iI_jL, lc_eq, lc_lt, lc_le, lc_ge, lc_gt, Nat.sub_zero, Nat.zero_le, true_and, and_true, Nat.reduceAdd, Nat.reduceLeDiff]
          refine ⟨fun e => absurd e (by decide), fun _ => m_isNow (d := d + 6) (code := 4) I1 hz T1 (by omega) (fun e5 => ?_) (fun e hi' I' F' T' => ?_)⟩
          · simp (disch := omega) only [sh110, lt110, en_ops, en_opc, iI_add, iI_mul, iI_sub, jL_add, jL_mul, iI_le, iI_lt, iI_eq, iI_eq0, iI_lt0, iI_0le, iI_le0, iI_0lt, jL_iI, iI_jL, lc_eq, lc_lt, lc_le, lc_ge, lc_gt, Nat.sub_zero, Nat.zero_le, true_and, and_true, Nat.reduceAdd, Nat.reduceLeDiff]
            have Hx := H.1 (by rw [if_pos e1, if_pos e2, if_pos e3, if_pos e4, if_pos e5])
            obtain ⟨hE, -, -, -, hO⟩ := InvR.gol (l := l.toNat) I1 hz hn (by omega) e5.1
            rw [show iI l = iI ((l.toNat : Nat) : Int) from iI_eq_of (by omega), show iI y = iI ((y.toNat : Nat) : Int) from iI_eq_of (by omega)]
            rw [show iI c = iI ((c.toNat : Nat) : Int) from iI_eq_of (by omega), show iI z = iI ((z.toNat : Nat) : Int) from iI_eq_of (by omega)]
            refine ⟨fun _ => m_keeps (d := d + 7) I1.1 (fun h2 F2 A2 => ?_), fun e => absurd e (by decide)⟩
            have R2 := RS.kp F2 A2
            have I2 := I1.rs hz R2
            obtain ⟨-, ⟨b9, b1, b2⟩, hV, hq, -⟩ := InvR.gol (l := l.toNat) I2 hz hn (by omega) e5.1
            obtain ⟨hy4, hY⟩ := InvR.yr (y := y.toNat) I2 hz (by omega)
            simp (disch := omega) only [sh110, lt110, en_ops, en_opc, iI_add, iI_mul, iI_sub, jL_add, jL_mul, iI_le, iI_lt, iI_eq, iI_eq0, iI_lt0, iI_0le, iI_le0, iI_0lt, jL_iI, iI_jL, lc_eq, lc_lt, lc_le, lc_ge, lc_gt, Nat.sub_zero, Nat.zero_le, true_and, and_true, Nat.reduceAdd, Nat.reduceLeDiff]
            refine m_runs (d := d + 1) (b := b9) I2.1 hE b1 b2 hV hq hO hy4 hY (fun h8 F8 q8 O8 s8 => ?_)
            simp (disch := omega) only [sh110, lt110, en_ops, en_opc, iI_add, iI_mul, iI_sub, jL_add, jL_mul, iI_le, iI_lt, iI_eq, iI_eq0, iI_lt0, iI_0le, iI_le0, iI_0lt, jL_iI, iI_jL, lc_eq, lc_lt, lc_le, lc_ge, lc_gt, Nat.sub_zero, Nat.zero_le, true_and, and_true, Nat.reduceAdd, Nat.reduceLeDiff]
            refine m_all (d := d + 6) I1.1 q8.1 (by omega) (by omega) ?_
            simp (disch := omega) only [sh110, lt110, en_ops, en_opc, iI_add, iI_mul, iI_sub, jL_add, jL_mul, iI_le, iI_lt, iI_eq, iI_eq0, iI_lt0, iI_0le, iI_le0, iI_0lt, jL_iI, iI_jL, lc_eq, lc_lt, lc_le, lc_ge, lc_gt, Nat.sub_zero, Nat.zero_le, true_and, and_true, Nat.reduceAdd, Nat.reduceLeDiff]
            refine m_comesBack (d := d + 7) I1.1 (fun h9 F9 A9 => ?_)
            have R9 := R2.mo F8 F9 A9
            simp (disch := omega) only [en_ops, en_opc, iI_add, iI_mul, iI_sub, jL_add, jL_mul, iI_le, iI_lt, iI_eq, iI_eq0, iI_lt0, iI_0le, iI_le0, iI_0lt, jL_iI, iI_jL, lc_eq, lc_lt, lc_le, lc_ge, lc_gt, Nat.sub_zero, Nat.zero_le, true_and, and_true, Nat.reduceAdd, Nat.reduceLeDiff]
            exact Hx h9 (I1.rs hz R9) (F1.tr R9.m) (R9.t T1)
          · simp (disch := omega) only [en_ops, en_opc, iI_add, iI_mul, iI_sub, jL_add, jL_mul, iI_le, iI_lt, iI_eq, iI_eq0, iI_lt0, iI_0le, iI_le0, iI_0lt, jL_iI, iI_jL, lc_eq, lc_lt, lc_le, lc_ge, lc_gt, Nat.sub_zero, Nat.zero_le, true_and, and_true, Nat.reduceAdd, Nat.reduceLeDiff]
            exact ⟨fun e => (e (by first | trivial | rfl)).elim, fun _ => H.no F1 (k := 3) (by omega) (by rw [if_pos e1, if_pos e2, if_pos e3, if_pos e4, if_neg e]) I' F' (by rw [if_pos e1, if_pos e2, if_pos e3, if_pos e4]; exact T')⟩
        · rw [if_neg e4]
          simp (disch := omega) only [sh110, lt110, en_ops, en_opc, iI_add, iI_mul, iI_sub, jL_add, jL_mul, iI_le, iI_lt, iI_eq, iI_eq0, iI_lt0, iI_0le, iI_le0, iI_0lt, jL_iI, iI_jL, lc_eq, lc_lt, lc_le, lc_ge, lc_gt, Nat.sub_zero, Nat.zero_le, true_and, and_true, Nat.reduceAdd, Nat.reduceLeDiff]
          refine m_may (d := d + 7) (code := 3) (k := 2) I1 T1 (Or.inl rfl) (by omega) (by omega) (fun e => absurd e (by decide)) (fun _ hi' I' F' T' => ?_)
          simp (disch := omega) only [en_ops, en_opc, iI_add, iI_mul, iI_sub, jL_add, jL_mul, iI_le, iI_lt, iI_eq, iI_eq0, iI_lt0, iI_0le, iI_le0, iI_0lt, jL_iI, iI_jL, lc_eq, lc_lt, lc_le, lc_ge, lc_gt, Nat.sub_zero, Nat.zero_le, true_and, and_true, Nat.reduceAdd, Nat.reduceLeDiff]
          exact ⟨fun _ => H.no F1 (k := 2) (by omega) (by rw [if_pos e1, if_pos e2, if_pos e3, if_neg e4]) I' F' (by rw [if_pos e1, if_pos e2, if_pos e3, if_neg e4]; exact T'), fun e => (e (by first | trivial | rfl)).elim⟩
      · simp (disch := omega) only [en_ops, en_opc, iI_add, iI_mul, iI_sub, jL_add, jL_mul, iI_le, iI_lt, iI_eq, iI_eq0, iI_lt0, iI_0le, iI_le0, iI_0lt, jL_iI, iI_jL, lc_eq, lc_lt, lc_le, lc_ge, lc_gt, Nat.sub_zero, Nat.zero_le, true_and, and_true, Nat.reduceAdd, Nat.reduceLeDiff]
        exact ⟨fun _ => H.no F1 (k := 1) (by omega) (by rw [if_pos e1, if_pos e2, if_neg e]) I' F' (by rw [if_pos e1, if_pos e2, if_neg e]; exact T'), fun e => (e (by first | trivial | rfl)).elim⟩
    · simp (disch := omega) only [en_ops, en_opc, iI_add, iI_mul, iI_sub, jL_add, jL_mul, iI_le, iI_lt, iI_eq, iI_eq0, iI_lt0, iI_0le, iI_le0, iI_0lt, jL_iI, iI_jL, lc_eq, lc_lt, lc_le, lc_ge, lc_gt, Nat.sub_zero, Nat.zero_le, true_and, and_true, Nat.reduceAdd, Nat.reduceLeDiff]
      exact ⟨fun _ => H.no F1 (k := 1) (by omega) (by rw [if_pos e1, if_neg e]) I' F' (by rw [if_pos e1, if_neg e]; exact T'), fun e => (e (by first | trivial | rfl)).elim⟩
  · simp (disch := omega) only [en_ops, en_opc, iI_add, iI_mul, iI_sub, jL_add, jL_mul, iI_le, iI_lt, iI_eq, iI_eq0, iI_lt0, iI_0le, iI_le0, iI_0lt, jL_iI, iI_jL, lc_eq, lc_lt, lc_le, lc_ge, lc_gt, Nat.sub_zero, Nat.zero_le, true_and, and_true, Nat.reduceAdd, Nat.reduceLeDiff]
    exact ⟨fun _ => H.no F1 (k := 0) (by omega) (by rw [if_neg e]) I' F' (by rw [if_neg e]; exact T'), fun e => (e (by first | trivial | rfl)).elim⟩
theorem m_clast {l y c k : Int} (hI : InvR G W hi hr) (hz : zOK n W) (hn : n ≤ 512) (hlr : iRg l) (hyr : iRg y) (hc : iRg c) (hk : iRg k) (H : rEnd G W W (if inC W c then if inL W l then if inY W y then if 1 ≤ k ∧ k ≤ 999999 then if isNow W then 0 else 4 else 3 else 2 else 2 else 1) (if inC W c then if inL W l then if inY W y then if 1 ≤ k ∧ k ≤ 999999 then 4 else 3 else 2 else 2 else 1) (.int (iI 0)) (.int (iI (laP (eL W l.toNat) (zYs W y.toNat).2 (zYs W y.toNat).1 c.toNat k 21 0 (zS W).1))) K hi hl hr) : en_Call G (d + 9) xc xs Y_X11_last wN wN [.ref 110, .int (iI l), .int (iI y), .int (iI c), .int (iI k)] hi hl hr K := by
  obtain ⟨I1, F1, T1⟩ := hI.t1
  obtain ⟨⟨-, -, r10, -, r12, -⟩, -⟩ := id I1.1
  obtain ⟨nc12, nz6⟩ := hz.c
  have nl4 := hz.2.1
  have ny4 := hz.2.2.1
  apply en_X11_last
  simp (disch := omega) only [B_X11_last_0, sh110, lt110, en_ops, en_opc, iI_add, iI_mul, iI_sub, jL_add, jL_mul, iI_le, iI_lt, iI_eq, iI_eq0, iI_lt0, iI_0le, iI_le0, iI_0lt, jL_iI, iI_jL, lc_eq, lc_lt, lc_le, lc_ge, lc_gt, Nat.sub_zero, Nat.zero_le, true_and, and_true, Nat.reduceAdd, Nat.reduceLeDiff]
  generalize en_up hi 110 0 (iI 0) = h1 at *
  refine m_isCell (d := d + 6) (code := 1) I1 hz T1 hc (by omega) (fun e1 => ?_) (fun e hi' I' F' T' => ?_)
  · simp (disch := omega) only [sh110, lt110, en_ops, en_opc, iI_add, iI_mul, iI_sub, jL_add, jL_mul, iI_le, iI_lt, iI_eq, iI_eq0, iI_lt0, iI_0le, iI_le0, iI_0lt, jL_iI, iI_jL, lc_eq, lc_lt, lc_le, lc_ge, lc_gt, Nat.sub_zero, Nat.zero_le, true_and, and_true, Nat.reduceAdd, Nat.reduceLeDiff]
    refine ⟨fun e => absurd e (by decide), fun _ => m_isLaw (d := d + 6) (code := 2) I1 hz T1 hlr (by omega) (fun e2 => ?_) (fun e hi' I' F' T' => ?_)⟩
    · simp (disch := omega) only [sh110, lt110, en_ops, en_opc, iI_add, iI_mul, iI_sub, jL_add, jL_mul, iI_le, iI_lt, iI_eq, iI_eq0, iI_lt0, iI_0le, iI_le0, iI_0lt, jL_iI, iI_jL, lc_eq, lc_lt, lc_le, lc_ge, lc_gt, Nat.sub_zero, Nat.zero_le, true_and, and_true, Nat.reduceAdd, Nat.reduceLeDiff]
      refine ⟨fun e => absurd e (by decide), fun _ => m_isYear (d := d + 6) (code := 2) I1 hz T1 hyr (by omega) (fun e3 => ?_) (fun e hi' I' F' T' => ?_)⟩
      · simp (disch := omega) only [sh110, lt110, en_ops, en_opc, iI_add, iI_mul, iI_sub, jL_add, jL_mul, iI_le, iI_lt, iI_eq, iI_eq0, iI_lt0, iI_0le, iI_le0, iI_0lt, jL_iI, iI_jL, lc_eq, lc_lt, lc_le, lc_ge, lc_gt, Nat.sub_zero, Nat.zero_le, true_and, and_true, Nat.reduceAdd, Nat.reduceLeDiff]
        refine ⟨fun e => absurd e (by decide), fun _ => m_within hk.1 hk.2 (by decide) (by decide) (by decide) (by decide) ?_⟩
        by_cases e4 : 1 ≤ k ∧ k ≤ 999999
        · rw [if_pos e4]
          simp (disch := omega) only [sh110, lt110, en_ops, en_opc, iI_add, iI_mul, iI_sub, jL_add, jL_mul, iI_le, iI_lt, iI_eq, iI_eq0, iI_lt0, iI_0le, iI_le0, iI_0lt, jL_iI, iI_jL, lc_eq, lc_lt, lc_le, lc_ge, lc_gt, Nat.sub_zero, Nat.zero_le, true_and, and_true, Nat.reduceAdd, Nat.reduceLeDiff]
          refine m_may (d := d + 7) (code := 3) (k := 2) I1 T1 (Or.inr rfl) (by omega) (by omega) (fun _ => ?_) (fun e => absurd e (by decide))
          simp (disch := omega) only [sh110, lt110, en_ops, en_opc, iI_add, iI_mul, iI_sub, jL_add, jL_mul, iI_le, iI_lt, iI_eq, iI_eq0, iI_lt0, iI_0le, iI_le0, iI_0lt, jL_iI, iI_jL, lc_eq, lc_lt, lc_le, lc_ge, lc_gt, Nat.sub_zero, Nat.zero_le, true_and, and_true, Nat.reduceAdd, Nat.reduceLeDiff]
          refine ⟨fun e => absurd e (by decide), fun _ => m_isNow (d := d + 6) (code := 4) I1 hz T1 (by omega) (fun e5 => ?_) (fun e hi' I' F' T' => ?_)⟩
          · simp (disch := omega) only [sh110, lt110, en_ops, en_opc, iI_add, iI_mul, iI_sub, jL_add, jL_mul, iI_le, iI_lt, iI_eq, iI_eq0, iI_lt0, iI_0le, iI_le0, iI_0lt, jL_iI, iI_jL, lc_eq, lc_lt, lc_le, lc_ge, lc_gt, Nat.sub_zero, Nat.zero_le, true_and, and_true, Nat.reduceAdd, Nat.reduceLeDiff]
            have Hx := H.1 (by rw [if_pos e1, if_pos e2, if_pos e3, if_pos e4, if_pos e5])
            obtain ⟨hE, -, -, -, hO⟩ := InvR.gol (l := l.toNat) I1 hz hn (by omega) e5.1
            rw [show iI l = iI ((l.toNat : Nat) : Int) from iI_eq_of (by omega), show iI y = iI ((y.toNat : Nat) : Int) from iI_eq_of (by omega)]
            rw [show iI c = iI ((c.toNat : Nat) : Int) from iI_eq_of (by omega)]
            refine ⟨fun _ => m_keeps (d := d + 7) I1.1 (fun h2 F2 A2 => ?_), fun e => absurd e (by decide)⟩
            have R2 := RS.kp F2 A2
            have I2 := I1.rs hz R2
            obtain ⟨-, ⟨b9, b1, b2⟩, hV, hq, -⟩ := InvR.gol (l := l.toNat) I2 hz hn (by omega) e5.1
            obtain ⟨hy4, hY⟩ := InvR.yr (y := y.toNat) I2 hz (by omega)
            simp (disch := omega) only [sh110, lt110, en_ops, en_opc, iI_add, iI_mul, iI_sub, jL_add, jL_mul, iI_le, iI_lt, iI_eq, iI_eq0, iI_lt0, iI_0le, iI_le0, iI_0lt, jL_iI, iI_jL, lc_eq, lc_lt, lc_le, lc_ge, lc_gt, Nat.sub_zero, Nat.zero_le, true_and, and_true, Nat.reduceAdd, Nat.reduceLeDiff]
            suffices L : ∀ k' g : Nat, k' + g = 21 → ∀ (q : hSt) (h8 : en_I), Fr Pmo h2 h8 → rsH q h8 → hOK (eL W l.toNat) q → k' ≠ 0 → (∀ v, v = laP (eL W l.toNat) (zYs W y.toNat).2 (zYs W y.toNat).1 c.toNat k k' g q → ∀ h9, RS h1 h9 → K (.inl (some (.int (iI v)))) h9 hl hr) → en_V G Y_X11_last (d + 9) wN wN K 67 [.ref 110, .int (iI ((l.toNat : Nat) : Int)), .int (iI ((y.toNat : Nat) : Int)), .int (iI ((c.toNat : Nat) : Int)), .int (iI k), .int (iI (g : Int)), jk] [] h8 hl hr xc xs from L 21 0 rfl (zS W).1 h2 Fr.rf hq hO (by omega) (fun v hv h9 R9 => by rw [hv]; exact Hx h9 (I1.rs hz R9) (F1.tr R9.m) (R9.t T1))
            intro k'
            induction k' with
            | zero => intro g _ _ _ _ _ _ hk0; exact absurd rfl hk0
            | succ k' ih =>
              intro g hg q h8 F8 q8 O8 _ HH
              have b8 : rfB b9 h8 := fun j hj => by rw [F8 113 (by unfold Pmo; omega)]; exact b1 j hj
              have wr : 0 ≤ wP q.1 (zE W).2.2.1 c.toNat ∧ wP q.1 (zE W).2.2.1 c.toNat ≤ 10000000 := ⟨wP_nn O8.1 _, wP_le O8.1 nz6 (by omega)⟩
              have hh := O8.2.2.2
              have st : laP (eL W l.toNat) (zYs W y.toNat).2 (zYs W y.toNat).1 c.toNat k (k' + 1) g q = if wP q.1 (zE W).2.2.1 c.toNat < k then (g : Int) else if 600 ≤ q.2.2.2.2.2 then -1 else laP (eL W l.toNat) (zYs W y.toNat).2 (zYs W y.toNat).1 c.toNat k k' (g + 1) (yrP (eL W l.toNat) (zYs W y.toNat).2 (zYs W y.toNat).1 q) := rfl
              rw [st] at HH
              have wh : ∀ KK : en_K, KK (.inl (some (.int (iI (wP q.1 (zE W).2.2.1 c.toNat))))) h8 hl hr → en_Call G (d + 8) 0 0 Y_X11_wholeOf wN wN [.ref 110, .int (iI ((c.toNat : Nat) : Int))] h8 hl hr KK := fun KK h => m_wholeOf (d := d + 5) (b := b9) I1.1 q8.1 b8 b2.1 (by omega) h
              have at111 : ∀ v : Int, v = (if wP q.1 (zE W).2.2.1 c.toNat < k then (g : Int) else -1) → (∀ h9, RS h1 h9 → K (.inl (some (.int (iI v)))) h9 hl hr) → en_V G Y_X11_last (d + 9) wN wN K 111 [.ref 110, .int (iI ((l.toNat : Nat) : Int)), .int (iI ((y.toNat : Nat) : Int)), .int (iI ((c.toNat : Nat) : Int)), .int (iI k), .int (iI (g : Int)), jk] [] h8 hl hr xc xs := fun v hv HV => by
                apply s_X11_last_111
                simp (disch := omega) only [B_X11_last_111, sh110, lt110, en_ops, en_opc, iI_add, iI_mul, iI_sub, jL_add, jL_mul, iI_le, iI_lt, iI_eq, iI_eq0, iI_lt0, iI_0le, iI_le0, iI_0lt, jL_iI, iI_jL, lc_eq, lc_lt, lc_le, lc_ge, lc_gt, Nat.sub_zero, Nat.zero_le, true_and, and_true, Nat.reduceAdd, Nat.reduceLeDiff]
                refine wh _ ?_
                simp (disch := omega) only [sh110, lt110, en_ops, en_opc, iI_add, iI_mul, iI_sub, jL_add, jL_mul, iI_le, iI_lt, iI_eq, iI_eq0, iI_lt0, iI_0le, iI_le0, iI_0lt, jL_iI, iI_jL, lc_eq, lc_lt, lc_le, lc_ge, lc_gt, Nat.sub_zero, Nat.zero_le, true_and, and_true, Nat.reduceAdd, Nat.reduceLeDiff]
                refine ⟨fun e => m_comesBack (d := d + 7) I1.1 (fun h9 F9 A9 => ?_), fun e => m_comesBack (d := d + 7) I1.1 (fun h9 F9 A9 => ?_)⟩
                · rw [if_neg (by omega)] at hv
                  subst hv
                  simp (disch := omega) only [en_ops, en_opc, iI_add, iI_mul, iI_sub, jL_add, jL_mul, iI_le, iI_lt, iI_eq, iI_eq0, iI_lt0, iI_0le, iI_le0, iI_0lt, jL_iI, iI_jL, lc_eq, lc_lt, lc_le, lc_ge, lc_gt, Nat.sub_zero, Nat.zero_le, true_and, and_true, Nat.reduceAdd, Nat.reduceLeDiff]
                  exact HV h9 (R2.mo F8 F9 A9)
                · rw [if_pos (by omega)] at hv
                  subst hv
                  simp (disch := omega) only [en_ops, en_opc, iI_add, iI_mul, iI_sub, jL_add, jL_mul, iI_le, iI_lt, iI_eq, iI_eq0, iI_lt0, iI_0le, iI_le0, iI_0lt, jL_iI, iI_jL, lc_eq, lc_lt, lc_le, lc_ge, lc_gt, Nat.sub_zero, Nat.zero_le, true_and, and_true, Nat.reduceAdd, Nat.reduceLeDiff]
                  exact HV h9 (R2.mo F8 F9 A9)
              apply s_X11_last_67
              simp (disch := omega) only [B_X11_last_67, sh110, lt110, en_ops, en_opc, iI_add, iI_mul, iI_sub, jL_add, jL_mul, iI_le, iI_lt, iI_eq, iI_eq0, iI_lt0, iI_0le, iI_le0, iI_0lt, jL_iI, iI_jL, lc_eq, lc_lt, lc_le, lc_ge, lc_gt, Nat.sub_zero, Nat.zero_le, true_and, and_true, Nat.reduceAdd, Nat.reduceLeDiff]
              refine wh _ ?_
              simp (disch := omega) only [r12, sh110, lt110, sh115, lt115, en_ops, en_opc, iI_add, iI_mul, iI_sub, jL_add, jL_mul, iI_le, iI_lt, iI_eq, iI_eq0, iI_lt0, iI_0le, iI_le0, iI_0lt, jL_iI, iI_jL, lc_eq, lc_lt, lc_le, lc_ge, lc_gt, Nat.sub_zero, Nat.zero_le, true_and, and_true, Nat.reduceAdd, Nat.reduceLeDiff]
              refine ⟨fun e => ?_, fun e => ⟨fun e6 => ?_, fun e6 => ⟨624, rfl, by omega, ?_⟩⟩⟩
              · rw [if_pos e] at HH
                exact at111 _ (by rw [if_pos e]) (HH _ rfl)
              · have g20 : g = 20 := by omega
                have k0 : k' = 0 := by omega
                subst k0
                rw [if_neg e] at HH
                refine at111 (-1) (by rw [if_neg e]) (HH _ ?_)
                by_cases q6 : 600 ≤ q.2.2.2.2.2
                · rw [if_pos q6]
                · rw [if_neg q6]; rfl
              · rw [show h8 115 624 = iI q.2.2.2.2.2 from q8.2.2.2.2.2.1]
                simp (disch := omega) only [sh110, lt110, en_ops, en_opc, iI_add, iI_mul, iI_sub, jL_add, jL_mul, iI_le, iI_lt, iI_eq, iI_eq0, iI_lt0, iI_0le, iI_le0, iI_0lt, jL_iI, iI_jL, lc_eq, lc_lt, lc_le, lc_ge, lc_gt, Nat.sub_zero, Nat.zero_le, true_and, and_true, Nat.reduceAdd, Nat.reduceLeDiff]
                refine ⟨fun e7 => ?_, fun e7 => ?_⟩
                · rw [if_neg e, if_pos e7] at HH
                  exact at111 (-1) (by rw [if_neg e]) (HH _ rfl)
                · rw [if_neg e, if_neg e7] at HH
                  obtain ⟨hV8, hY8⟩ : rwV G l.toNat (eL W l.toNat).1 h8 ∧ ryH y.toNat (zYs W y.toNat).1 (zYs W y.toNat).2 h8 := ⟨hV.mono (rwE.of (fun x g1 g2 => F8 x (by unfold Pmo; omega))), hY.fr F8 (fun x g1 g2 g => by unfold Pmo at g; omega)⟩
                  refine m_runs (d := d + 1) (b := b9) I1.1 hE b8 b2 hV8 q8 O8 hy4 hY8 (fun h9 F9 q9 O9 s9 => ?_)
                  simp (disch := omega) only [en_ops, en_opc, iI_add, iI_mul, iI_sub, jL_add, jL_mul, iI_le, iI_lt, iI_eq, iI_eq0, iI_lt0, iI_0le, iI_le0, iI_0lt, jL_iI, iI_jL, lc_eq, lc_lt, lc_le, lc_ge, lc_gt, Nat.sub_zero, Nat.zero_le, true_and, and_true, Nat.reduceAdd, Nat.reduceLeDiff]
                  exact ih (g + 1) (by omega) _ h9 (F8.tr F9) q9 O9 (by omega) HH
          · simp (disch := omega) only [en_ops, en_opc, iI_add, iI_mul, iI_sub, jL_add, jL_mul, iI_le, iI_lt, iI_eq, iI_eq0, iI_lt0, iI_0le, iI_le0, iI_0lt, jL_iI, iI_jL, lc_eq, lc_lt, lc_le, lc_ge, lc_gt, Nat.sub_zero, Nat.zero_le, true_and, and_true, Nat.reduceAdd, Nat.reduceLeDiff]
            exact ⟨fun e => (e (by first | trivial | rfl)).elim, fun _ => H.no F1 (k := 3) (by omega) (by rw [if_pos e1, if_pos e2, if_pos e3, if_pos e4, if_neg e]) I' F' (by rw [if_pos e1, if_pos e2, if_pos e3, if_pos e4]; exact T')⟩
        · rw [if_neg e4]
          simp (disch := omega) only [sh110, lt110, en_ops, en_opc, iI_add, iI_mul, iI_sub, jL_add, jL_mul, iI_le, iI_lt, iI_eq, iI_eq0, iI_lt0, iI_0le, iI_le0, iI_0lt, jL_iI, iI_jL, lc_eq, lc_lt, lc_le, lc_ge, lc_gt, Nat.sub_zero, Nat.zero_le, true_and, and_true, Nat.reduceAdd, Nat.reduceLeDiff]
          refine m_may (d := d + 7) (code := 3) (k := 2) I1 T1 (Or.inl rfl) (by omega) (by omega) (fun e => absurd e (by decide)) (fun _ hi' I' F' T' => ?_)
          simp (disch := omega) only [en_ops, en_opc, iI_add, iI_mul, iI_sub, jL_add, jL_mul, iI_le, iI_lt, iI_eq, iI_eq0, iI_lt0, iI_0le, iI_le0, iI_0lt, jL_iI, iI_jL, lc_eq, lc_lt, lc_le, lc_ge, lc_gt, Nat.sub_zero, Nat.zero_le, true_and, and_true, Nat.reduceAdd, Nat.reduceLeDiff]
          exact ⟨fun _ => H.no F1 (k := 2) (by omega) (by rw [if_pos e1, if_pos e2, if_pos e3, if_neg e4]) I' F' (by rw [if_pos e1, if_pos e2, if_pos e3, if_neg e4]; exact T'), fun e => (e (by first | trivial | rfl)).elim⟩
      · simp (disch := omega) only [en_ops, en_opc, iI_add, iI_mul, iI_sub, jL_add, jL_mul, iI_le, iI_lt, iI_eq, iI_eq0, iI_lt0, iI_0le, iI_le0, iI_0lt, jL_iI, iI_jL, lc_eq, lc_lt, lc_le, lc_ge, lc_gt, Nat.sub_zero, Nat.zero_le, true_and, and_true, Nat.reduceAdd, Nat.reduceLeDiff]
        exact ⟨fun _ => H.no F1 (k := 1) (by omega) (by rw [if_pos e1, if_pos e2, if_neg e]) I' F' (by rw [if_pos e1, if_pos e2, if_neg e]; exact T'), fun e => (e (by first | trivial | rfl)).elim⟩
    · simp (disch := omega) only [en_ops, en_opc, iI_add, iI_mul, iI_sub, jL_add, jL_mul, iI_le, iI_lt, iI_eq, iI_eq0, iI_lt0, iI_0le, iI_le0, iI_0lt, jL_iI, iI_jL, lc_eq, lc_lt, lc_le, lc_ge, lc_gt, Nat.sub_zero, Nat.zero_le, true_and, and_true, Nat.reduceAdd, Nat.reduceLeDiff]
      exact ⟨fun _ => H.no F1 (k := 1) (by omega) (by rw [if_pos e1, if_neg e]) I' F' (by rw [if_pos e1, if_neg e]; exact T'), fun e => (e (by first | trivial | rfl)).elim⟩
  · simp (disch := omega) only [en_ops, en_opc, iI_add, iI_mul, iI_sub, jL_add, jL_mul, iI_le, iI_lt, iI_eq, iI_eq0, iI_lt0, iI_0le, iI_le0, iI_0lt, jL_iI, iI_jL, lc_eq, lc_lt, lc_le, lc_ge, lc_gt, Nat.sub_zero, Nat.zero_le, true_and, and_true, Nat.reduceAdd, Nat.reduceLeDiff]
    exact ⟨fun _ => H.no F1 (k := 0) (by omega) (by rw [if_neg e]) I' F' (by rw [if_neg e]; exact T'), fun e => (e (by first | trivial | rfl)).elim⟩
theorem m_cwhich {y w : Int} (hI : InvR G W hi hr) (hz : zOK n W) (hn : n ≤ 512) (hyr : iRg y) (hw : iRg w) (H : rEnd G W W (if inY W y then if 0 ≤ w ∧ w ≤ 1 then if isNow W then 0 else 4 else 3 else 2) (if inY W y then if 0 ≤ w ∧ w ≤ 1 then 3 else 2 else 1) (.int (iI 0)) (.int (iI (if w = 0 then (whF W y.toNat).1 else (whF W y.toNat).2))) K hi hl hr) : en_Call G (d + 9) xc xs Y_X11_which wN wN [.ref 110, .int (iI y), .int (iI w)] hi hl hr K := by
  obtain ⟨I1, F1, T1⟩ := hI.t1
  obtain ⟨⟨-, -, r10, -, r12, -⟩, -⟩ := id I1.1
  obtain ⟨nc12, nz6⟩ := hz.c
  have nl4 := hz.2.1
  have ny4 := hz.2.2.1
  apply en_X11_which
  simp (disch := omega) only [B_X11_which_0, sh110, lt110, en_ops, en_opc, iI_add, iI_mul, iI_sub, jL_add, jL_mul, iI_le, iI_lt, iI_eq, iI_eq0, iI_lt0, iI_0le, iI_le0, iI_0lt, jL_iI, iI_jL, lc_eq, lc_lt, lc_le, lc_ge, lc_gt, Nat.sub_zero, Nat.zero_le, true_and, and_true, Nat.reduceAdd, Nat.reduceLeDiff]
  generalize en_up hi 110 0 (iI 0) = h1 at *
  refine m_isYear (d := d + 6) (code := 1) I1 hz T1 hyr (by omega) (fun e1 => ?_) (fun e hi' I' F' T' => ?_)
  · simp (disch := omega) only [sh110, lt110, en_ops, en_opc, iI_add, iI_mul, iI_sub, jL_add, jL_mul, iI_le, iI_lt, iI_eq, iI_eq0, iI_lt0, iI_0le, iI_le0, iI_0lt, jL_iI, iI_jL, lc_eq, lc_lt, lc_le, lc_ge, lc_gt, Nat.sub_zero, Nat.zero_le, true_and, and_true, Nat.reduceAdd, Nat.reduceLeDiff]
    refine ⟨fun e => absurd e (by decide), fun _ => m_within hw.1 hw.2 (by decide) (by decide) (by decide) (by decide) ?_⟩
    by_cases e2 : 0 ≤ w ∧ w ≤ 1
    · rw [if_pos e2]
      simp (disch := omega) only [sh110, lt110, en_ops, en_opc, iI_add, iI_mul, iI_sub, jL_add, jL_mul, iI_le, iI_lt, iI_eq, iI_eq0, iI_lt0, iI_0le, iI_le0, iI_0lt, jL_iI, iI_jL, lc_eq, lc_lt, lc_le, lc_ge, lc_gt, Nat.sub_zero, Nat.zero_le, true_and, and_true, Nat.reduceAdd, Nat.reduceLeDiff]
      refine m_may (d := d + 7) (code := 2) (k := 2) I1 T1 (Or.inr rfl) (by omega) (by omega) (fun _ => ?_) (fun e => absurd e (by decide))
      simp (disch := omega) only [sh110, lt110, en_ops, en_opc, iI_add, iI_mul, iI_sub, jL_add, jL_mul, iI_le, iI_lt, iI_eq, iI_eq0, iI_lt0, iI_0le, iI_le0, iI_0lt, jL_iI, iI_jL, lc_eq, lc_lt, lc_le, lc_ge, lc_gt, Nat.sub_zero, Nat.zero_le, true_and, and_true, Nat.reduceAdd, Nat.reduceLeDiff]
      refine ⟨fun e => absurd e (by decide), fun _ => m_isNow (d := d + 6) (code := 3) I1 hz T1 (by omega) (fun e3 => ?_) (fun e hi' I' F' T' => ?_)⟩
      · simp (disch := omega) only [sh110, lt110, en_ops, en_opc, iI_add, iI_mul, iI_sub, jL_add, jL_mul, iI_le, iI_lt, iI_eq, iI_eq0, iI_lt0, iI_0le, iI_le0, iI_0lt, jL_iI, iI_jL, lc_eq, lc_lt, lc_le, lc_ge, lc_gt, Nat.sub_zero, Nat.zero_le, true_and, and_true, Nat.reduceAdd, Nat.reduceLeDiff]
        have Hx := H.1 (by rw [if_pos e1, if_pos e2, if_pos e3])
        rw [show iI y = iI ((y.toNat : Nat) : Int) from iI_eq_of (by omega)]
        have hm := hz.x.2.2.2.2.2.1
        have apR : ∀ f, fB (zE W).2.1 (zE W).2.2.1 f → 0 ≤ apP f (zS W).2.2.2 (zE W).2.1 (zE W).2.2.1 ∧ apP f (zS W).2.2.2 (zE W).2.1 (zE W).2.2.1 ≤ 800000000 := fun f hf => by
          have := sumTo_bd (n := (zE W).2.1) (g := fun c => sumTo (zE W).2.2.1 (apI f (zS W).2.2.2 c)) (b := 66000000) (fun c hc => by
            have := sumTo_bd (n := (zE W).2.2.1) (g := apI f (zS W).2.2.2 c) (b := 11000000) (fun z hz9 => apI_r hf nz6 (by omega) (hm c z (by omega) (by omega)))
            omega)
          show 0 ≤ sumTo _ _ ∧ sumTo _ _ ≤ _
          omega
        refine ⟨fun _ => ?_, fun e => absurd e (by decide)⟩
        unfold whF at Hx
        suffices L : ∀ i : Nat, i ≤ zNl W → ∀ h l x5 x7 x8, InvR G W h hr → Fm h1 h → h 110 0 = iI 0 → (0 ≤ l ∧ l ≤ 800000000) → ((lsF (fun _ => true) (nrG (zE W) (zVs W) (zYs W y.toNat).2 (zYs W y.toNat).1 (zS W).2.2.2 (zS W).1) (-1) i).1 ≠ -1 → l = (lsF (fun _ => true) (nrG (zE W) (zVs W) (zYs W y.toNat).2 (zYs W y.toNat).1 (zS W).2.2.2 (zS W).1) (-1) i).2) → en_V G Y_X11_which (d + 9) wN wN K 47 [.ref 110, .int (iI ((y.toNat : Nat) : Int)), .int (iI w), .int (iI (lsF (fun _ => true) (nrG (zE W) (zVs W) (zYs W y.toNat).2 (zYs W y.toNat).1 (zS W).2.2.2 (zS W).1) (-1) i).1), .long (jL l), x5, .int (iI (i : Int)), x7, x8] [] h hl hr xc xs from L 0 (by omega) h1 0 _ _ _ I1 (fun _ _ => rfl) T1 (by omega) (fun g => absurd rfl g)
        have lsb : ∀ i, -1 ≤ (lsF (fun _ => true) (nrG (zE W) (zVs W) (zYs W y.toNat).2 (zYs W y.toNat).1 (zS W).2.2.2 (zS W).1) (-1) i).1 ∧ (lsF (fun _ => true) (nrG (zE W) (zVs W) (zYs W y.toNat).2 (zYs W y.toNat).1 (zS W).2.2.2 (zS W).1) (-1) i).1 < i := fun i => by
          induction i with
          | zero => exact ⟨Int.le_refl _, by show (-1 : Int) < 0; omega⟩
          | succ i ih =>
            have st : lsF (fun _ => true) (nrG (zE W) (zVs W) (zYs W y.toNat).2 (zYs W y.toNat).1 (zS W).2.2.2 (zS W).1) (-1) (i + 1) = if (true = true) ∧ ((lsF (fun _ => true) (nrG (zE W) (zVs W) (zYs W y.toNat).2 (zYs W y.toNat).1 (zS W).2.2.2 (zS W).1) (-1) i).1 = -1 ∨ nrG (zE W) (zVs W) (zYs W y.toNat).2 (zYs W y.toNat).1 (zS W).2.2.2 (zS W).1 i < (lsF (fun _ => true) (nrG (zE W) (zVs W) (zYs W y.toNat).2 (zYs W y.toNat).1 (zS W).2.2.2 (zS W).1) (-1) i).2) then ((i : Int), nrG (zE W) (zVs W) (zYs W y.toNat).2 (zYs W y.toNat).1 (zS W).2.2.2 (zS W).1 i) else lsF (fun _ => true) (nrG (zE W) (zVs W) (zYs W y.toNat).2 (zYs W y.toNat).1 (zS W).2.2.2 (zS W).1) (-1) i := rfl
            rw [st]
            split
            · exact ⟨by show -1 ≤ (i : Int); omega, by show (i : Int) < ((i + 1 : Nat) : Int); omega⟩
            · omega
        refine lp (zNl W) (fun h l x5 x7 x8 I9 M9 T9 l9 lq => ?_) (fun i hi9 ih h l x5 x7 x8 I9 M9 T9 l9 lq => ?_)
        · have e17 : h 110 17 = iI (zNl W : Int) := I9.2.2.2.1
          have Hy := Hx h I9 (F1.tr M9) T9
          have lb := lsb (zNl W)
          apply s_X11_which_47
          simp (disch := omega) only [B_X11_which_47, sh110, lt110, e17, en_ops, en_opc, iI_add, iI_mul, iI_sub, jL_add, jL_mul, iI_le, iI_lt, iI_eq, iI_eq0, iI_lt0, iI_0le, iI_le0, iI_0lt, jL_iI, iI_jL, lc_eq, lc_lt, lc_le, lc_ge, lc_gt, Nat.sub_zero, Nat.zero_le, true_and, and_true, Nat.reduceAdd, Nat.reduceLeDiff]
          refine ⟨fun _ => ⟨fun e6 => ⟨fun e7 => ?_, fun e7 => ?_⟩, fun e6 => ?_⟩, fun e => absurd (Int.le_refl _) e⟩
          · rw [if_neg e7, ← lq e6] at Hy; exact Hy
          · rw [if_pos e7] at Hy; exact Hy
          · have n0 : zNl W = 0 := by
              by_cases q : zNl W = 0
              · exact q
              · exact absurd e6 (lsF_ne _ ⟨0, by omega, rfl⟩)
            rw [n0] at Hy
            rw [show (if w = 0 then (lsF (fun _ => true) (nrG (zE W) (zVs W) (zYs W y.toNat).2 (zYs W y.toNat).1 (zS W).2.2.2 (zS W).1) (-1) 0).1 else (lsF (fun _ => true) (nrG (zE W) (zVs W) (zYs W y.toNat).2 (zYs W y.toNat).1 (zS W).2.2.2 (zS W).1) (-1) 0).2) = -1 by split <;> rfl] at Hy
            exact Hy
        · have e17 : h 110 17 = iI (zNl W : Int) := I9.2.2.2.1
          have lb := lsb i
          have st : lsF (fun _ => true) (nrG (zE W) (zVs W) (zYs W y.toNat).2 (zYs W y.toNat).1 (zS W).2.2.2 (zS W).1) (-1) (i + 1) = if (true = true) ∧ ((lsF (fun _ => true) (nrG (zE W) (zVs W) (zYs W y.toNat).2 (zYs W y.toNat).1 (zS W).2.2.2 (zS W).1) (-1) i).1 = -1 ∨ nrG (zE W) (zVs W) (zYs W y.toNat).2 (zYs W y.toNat).1 (zS W).2.2.2 (zS W).1 i < (lsF (fun _ => true) (nrG (zE W) (zVs W) (zYs W y.toNat).2 (zYs W y.toNat).1 (zS W).2.2.2 (zS W).1) (-1) i).2) then ((i : Int), nrG (zE W) (zVs W) (zYs W y.toNat).2 (zYs W y.toNat).1 (zS W).2.2.2 (zS W).1 i) else lsF (fun _ => true) (nrG (zE W) (zVs W) (zYs W y.toNat).2 (zYs W y.toNat).1 (zS W).2.2.2 (zS W).1) (-1) i := rfl
          rw [st] at ih
          obtain ⟨hE, -, -, -, hO⟩ := InvR.gol (l := i) I9 hz hn hi9 e3.1
          apply s_X11_which_47
          simp (disch := omega) only [B_X11_which_47, sh110, lt110, e17, en_ops, en_opc, iI_add, iI_mul, iI_sub, jL_add, jL_mul, iI_le, iI_lt, iI_eq, iI_eq0, iI_lt0, iI_0le, iI_le0, iI_0lt, jL_iI, iI_jL, lc_eq, lc_lt, lc_le, lc_ge, lc_gt, Nat.sub_zero, Nat.zero_le, true_and, and_true, Nat.reduceAdd, Nat.reduceLeDiff]
          refine ⟨fun e => by omega, fun _ => m_keeps (d := d + 7) I9.1 (fun h2 F2 A2 => ?_)⟩
          have R2 := RS.kp F2 A2
          have I2 := I9.rs hz R2
          obtain ⟨-, ⟨b9, b1, b2⟩, hV, hq, -⟩ := InvR.gol (l := i) I2 hz hn hi9 e3.1
          obtain ⟨hy4, hY⟩ := InvR.yr (y := y.toNat) I2 hz (by omega)
          simp (disch := omega) only [sh110, lt110, en_ops, en_opc, iI_add, iI_mul, iI_sub, jL_add, jL_mul, iI_le, iI_lt, iI_eq, iI_eq0, iI_lt0, iI_0le, iI_le0, iI_0lt, jL_iI, iI_jL, lc_eq, lc_lt, lc_le, lc_ge, lc_gt, Nat.sub_zero, Nat.zero_le, true_and, and_true, Nat.reduceAdd, Nat.reduceLeDiff]
          refine m_runs (d := d + 1) (b := b9) I2.1 hE b1 b2 hV hq hO hy4 hY (fun h8 F8 q8 O8 s8 => ?_)
          simp (disch := omega) only [sh110, lt110, en_ops, en_opc, iI_add, iI_mul, iI_sub, jL_add, jL_mul, iI_le, iI_lt, iI_eq, iI_eq0, iI_lt0, iI_0le, iI_le0, iI_0lt, jL_iI, iI_jL, lc_eq, lc_lt, lc_le, lc_ge, lc_gt, Nat.sub_zero, Nat.zero_le, true_and, and_true, Nat.reduceAdd, Nat.reduceLeDiff]
          refine m_farOf (d := d + 5) (b := b9) (m := (zS W).2.2.2) I2.1 q8.1 (fun j hj => by rw [F8 113 (by unfold Pmo; omega)]; exact b1 j hj) b2.1 O8.1 (fun c z hc hz9 => ⟨(s8 _ (by omega) (by omega)).trans (I2.xr.2.2.2 c z (by omega) (by omega)), hm c z hc hz9⟩) ?_
          simp (disch := omega) only [sh110, lt110, en_ops, en_opc, iI_add, iI_mul, iI_sub, jL_add, jL_mul, iI_le, iI_lt, iI_eq, iI_eq0, iI_lt0, iI_0le, iI_le0, iI_0lt, jL_iI, iI_jL, lc_eq, lc_lt, lc_le, lc_ge, lc_gt, Nat.sub_zero, Nat.zero_le, true_and, and_true, Nat.reduceAdd, Nat.reduceLeDiff]
          refine m_comesBack (d := d + 7) I2.1 (fun h10 F10 A10 => ?_)
          have R10 := R2.mo F8 F10 A10
          have I10 := I9.rs hz R10
          have ar := apR _ O8.1
          have eg : apP (yrP (eL W i) (zYs W y.toNat).2 (zYs W y.toNat).1 (zS W).1).1 (zS W).2.2.2 (eL W i).2.1 (eL W i).2.2.1 = nrG (zE W) (zVs W) (zYs W y.toNat).2 (zYs W y.toNat).1 (zS W).2.2.2 (zS W).1 i := rfl
          have eg2 : apP (yrP (eL W i) (zYs W y.toNat).2 (zYs W y.toNat).1 (zS W).1).1 (zS W).2.2.2 (zE W).2.1 (zE W).2.2.1 = nrG (zE W) (zVs W) (zYs W y.toNat).2 (zYs W y.toNat).1 (zS W).2.2.2 (zS W).1 i := rfl
          rw [eg]
          rw [eg2] at ar
          generalize nrG (zE W) (zVs W) (zYs W y.toNat).2 (zYs W y.toNat).1 (zS W).2.2.2 (zS W).1 i = v at *
          generalize lsF (fun _ => true) (nrG (zE W) (zVs W) (zYs W y.toNat).2 (zYs W y.toNat).1 (zS W).2.2.2 (zS W).1) (-1) i = s at *
          simp (disch := omega) only [en_ops, en_opc, iI_add, iI_mul, iI_sub, jL_add, jL_mul, iI_le, iI_lt, iI_eq, iI_eq0, iI_lt0, iI_0le, iI_le0, iI_0lt, jL_iI, iI_jL, lc_eq, lc_lt, lc_le, lc_ge, lc_gt, Nat.sub_zero, Nat.zero_le, true_and, and_true, Nat.reduceAdd, Nat.reduceLeDiff]
          refine ⟨fun e6 => ?_, fun e6 => ⟨fun e7 => ?_, fun e7 => ?_⟩⟩
          · rw [if_pos ⟨rfl, Or.inl e6⟩] at ih
            exact ih h10 v _ _ _ I10 (M9.tr R10.m) (R10.t T9) ar (fun _ => rfl)
          · rw [if_pos ⟨rfl, Or.inr (by rw [← lq e6]; exact e7)⟩] at ih
            exact ih h10 v _ _ _ I10 (M9.tr R10.m) (R10.t T9) ar (fun _ => rfl)
          · have := lq e6
            rw [if_neg (fun g => by rcases g.2 with g | g <;> omega)] at ih
            exact ih h10 l _ _ _ I10 (M9.tr R10.m) (R10.t T9) l9 lq
      · simp (disch := omega) only [en_ops, en_opc, iI_add, iI_mul, iI_sub, jL_add, jL_mul, iI_le, iI_lt, iI_eq, iI_eq0, iI_lt0, iI_0le, iI_le0, iI_0lt, jL_iI, iI_jL, lc_eq, lc_lt, lc_le, lc_ge, lc_gt, Nat.sub_zero, Nat.zero_le, true_and, and_true, Nat.reduceAdd, Nat.reduceLeDiff]
        exact ⟨fun e => (e (by first | trivial | rfl)).elim, fun _ => H.no F1 (k := 3) (by omega) (by rw [if_pos e1, if_pos e2, if_neg e]) I' F' (by rw [if_pos e1, if_pos e2]; exact T')⟩
    · rw [if_neg e2]
      simp (disch := omega) only [sh110, lt110, en_ops, en_opc, iI_add, iI_mul, iI_sub, jL_add, jL_mul, iI_le, iI_lt, iI_eq, iI_eq0, iI_lt0, iI_0le, iI_le0, iI_0lt, jL_iI, iI_jL, lc_eq, lc_lt, lc_le, lc_ge, lc_gt, Nat.sub_zero, Nat.zero_le, true_and, and_true, Nat.reduceAdd, Nat.reduceLeDiff]
      refine m_may (d := d + 7) (code := 2) (k := 2) I1 T1 (Or.inl rfl) (by omega) (by omega) (fun e => absurd e (by decide)) (fun _ hi' I' F' T' => ?_)
      simp (disch := omega) only [en_ops, en_opc, iI_add, iI_mul, iI_sub, jL_add, jL_mul, iI_le, iI_lt, iI_eq, iI_eq0, iI_lt0, iI_0le, iI_le0, iI_0lt, jL_iI, iI_jL, lc_eq, lc_lt, lc_le, lc_ge, lc_gt, Nat.sub_zero, Nat.zero_le, true_and, and_true, Nat.reduceAdd, Nat.reduceLeDiff]
      exact ⟨fun _ => H.no F1 (k := 2) (by omega) (by rw [if_pos e1, if_neg e2]) I' F' (by rw [if_pos e1, if_neg e2]; exact T'), fun e => (e (by first | trivial | rfl)).elim⟩
  · simp (disch := omega) only [en_ops, en_opc, iI_add, iI_mul, iI_sub, jL_add, jL_mul, iI_le, iI_lt, iI_eq, iI_eq0, iI_lt0, iI_0le, iI_le0, iI_0lt, jL_iI, iI_jL, lc_eq, lc_lt, lc_le, lc_ge, lc_gt, Nat.sub_zero, Nat.zero_le, true_and, and_true, Nat.reduceAdd, Nat.reduceLeDiff]
    exact ⟨fun _ => H.no F1 (k := 1) (by omega) (by rw [if_neg e]) I' F' (by rw [if_neg e]; exact T'), fun e => (e (by first | trivial | rfl)).elim⟩
end
