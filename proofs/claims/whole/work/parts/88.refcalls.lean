section
variable {G : en_G} {d : Nat} {K : en_K} {W : zW} {n : Nat} {hi : en_I} {hl : en_L} {hr : en_F} {xc xs : Nat}
theorem m_cbrought {l y k w : Int} (hI : InvR G W hi hr) (hz : zOK n W) (hn : n ≤ 512) (hlr : iRg l) (hyr : iRg y) (hk : iRg k) (hw : iRg w) (H : rEnd G W W (if inL W l then if inY W y then if (1 ≤ k ∧ k ≤ 999) ∧ (0 ≤ w ∧ w ≤ 1) then if isNow W then 0 else 4 else 3 else 2 else 2) (if inL W l then if inY W y then if (1 ≤ k ∧ k ≤ 999) ∧ (0 ≤ w ∧ w ≤ 1) then 3 else 2 else 1 else 1) (.int (iI 0)) (.int (iI (if w = 0 then (bgO (bgM (eL W l.toNat) (zYs W y.toNat).2 (zYs W y.toNat).1 k (zS W).1) (zE W).2.1 (zE W).2.1 (-1, prP (yrP (eL W l.toNat) (zYs W y.toNat).2 (zYs W y.toNat).1 (zS W).1).1 (zE W).2.1 (zE W).2.2.1 1)).1 else (bgO (bgM (eL W l.toNat) (zYs W y.toNat).2 (zYs W y.toNat).1 k (zS W).1) (zE W).2.1 (zE W).2.1 (-1, prP (yrP (eL W l.toNat) (zYs W y.toNat).2 (zYs W y.toNat).1 (zS W).1).1 (zE W).2.1 (zE W).2.2.1 1)).2))) K hi hl hr) : en_Call G (d + 9) xc xs Y_X11_brought wN wN [.ref 110, .int (iI l), .int (iI y), .int (iI k), .int (iI w)] hi hl hr K := by
  obtain ⟨I1, F1, T1⟩ := hI.t1
  obtain ⟨⟨-, -, r10, -, r12, -⟩, -⟩ := id I1.1
  obtain ⟨nc12, nz6⟩ := hz.c
  have nl4 := hz.2.1
  have ny4 := hz.2.2.1
  apply en_X11_brought
  simp (disch := omega) only [B_X11_brought_0, sh110, lt110, en_ops, en_opc, iI_add, iI_mul, iI_sub, jL_add, jL_mul, iI_le, iI_lt, iI_eq, iI_eq0, iI_lt0, iI_0le, iI_le0, iI_0lt, jL_iI, iI_jL, lc_eq, lc_lt, lc_le, lc_ge, lc_gt, Nat.sub_zero, Nat.zero_le, true_and, and_true, Nat.reduceAdd, Nat.reduceLeDiff]
  generalize en_up hi 110 0 (iI 0) = h1 at *
  obtain ⟨b9, b1, b2⟩ := I1.e
  have e0 : h1 113 0 = iI ((zE W).2.1 : Int) := by rw [b1 0 (by omega), b2.1.1]
  refine m_isLaw (d := d + 6) (code := 1) I1 hz T1 hlr (by omega) (fun e1 => ?_) (fun e hi' I' F' T' => ?_)
  · simp (disch := omega) only [sh110, lt110, en_ops, en_opc, iI_add, iI_mul, iI_sub, jL_add, jL_mul, iI_le, iI_lt, iI_eq, iI_eq0, iI_lt0, iI_0le, iI_le0, iI_0lt, jL_iI, iI_jL, lc_eq, lc_lt, lc_le, lc_ge, lc_gt, Nat.sub_zero, Nat.zero_le, true_and, and_true, Nat.reduceAdd, Nat.reduceLeDiff]
    refine ⟨fun e => absurd e (by decide), fun _ => m_isYear (d := d + 6) (code := 1) I1 hz T1 hyr (by omega) (fun e2 => ?_) (fun e hi' I' F' T' => ?_)⟩
    · simp (disch := omega) only [sh110, lt110, en_ops, en_opc, iI_add, iI_mul, iI_sub, jL_add, jL_mul, iI_le, iI_lt, iI_eq, iI_eq0, iI_lt0, iI_0le, iI_le0, iI_0lt, jL_iI, iI_jL, lc_eq, lc_lt, lc_le, lc_ge, lc_gt, Nat.sub_zero, Nat.zero_le, true_and, and_true, Nat.reduceAdd, Nat.reduceLeDiff]
      have no3 : ¬ ((1 ≤ k ∧ k ≤ 999) ∧ (0 ≤ w ∧ w ≤ 1)) → en_V G Y_X11_brought (d + 9) wN wN K 50 [.ref 110, .int (iI l), .int (iI y), .int (iI k), .int (iI w), jk, jk, jk, jk, jk] [.int (iI 0), .ref 110] h1 hl hr xc xs := fun e => by
        apply s_X11_brought_50
        simp (disch := omega) only [B_X11_brought_50, sh110, lt110, en_ops, en_opc, iI_add, iI_mul, iI_sub, jL_add, jL_mul, iI_le, iI_lt, iI_eq, iI_eq0, iI_lt0, iI_0le, iI_le0, iI_0lt, jL_iI, iI_jL, lc_eq, lc_lt, lc_le, lc_ge, lc_gt, Nat.sub_zero, Nat.zero_le, true_and, and_true, Nat.reduceAdd, Nat.reduceLeDiff]
        refine m_may (d := d + 7) (code := 2) (k := 2) I1 T1 (Or.inl rfl) (by omega) (by omega) (fun e => absurd e (by decide)) (fun _ hi' I' F' T' => ?_)
        simp (disch := omega) only [en_ops, en_opc, iI_add, iI_mul, iI_sub, jL_add, jL_mul, iI_le, iI_lt, iI_eq, iI_eq0, iI_lt0, iI_0le, iI_le0, iI_0lt, jL_iI, iI_jL, lc_eq, lc_lt, lc_le, lc_ge, lc_gt, Nat.sub_zero, Nat.zero_le, true_and, and_true, Nat.reduceAdd, Nat.reduceLeDiff]
        exact ⟨fun _ => H.no F1 (k := 2) (by omega) (by rw [if_pos e1, if_pos e2, if_neg e]) I' F' (by rw [if_pos e1, if_pos e2, if_neg e]; exact T'), fun e => (e (by first | trivial | rfl)).elim⟩
      refine ⟨fun e => absurd e (by decide), fun _ => m_within hk.1 hk.2 (by decide) (by decide) (by decide) (by decide) ?_⟩
      by_cases q0 : 1 ≤ k ∧ k ≤ 999
      · rw [if_pos q0]
        simp (disch := omega) only [r10, sh110, lt110, sh113, lt113, en_ops, en_opc, iI_add, iI_mul, iI_sub, jL_add, jL_mul, iI_le, iI_lt, iI_eq, iI_eq0, iI_lt0, iI_0le, iI_le0, iI_0lt, jL_iI, iI_jL, lc_eq, lc_lt, lc_le, lc_ge, lc_gt, Nat.sub_zero, Nat.zero_le, true_and, and_true, Nat.reduceAdd, Nat.reduceLeDiff]
        refine ⟨fun e => absurd e (by decide), fun _ => m_within hw.1 hw.2 (by decide) (by decide) (by decide) (by decide) ?_⟩
        by_cases q1 : 0 ≤ w ∧ w ≤ 1
        · rw [if_pos q1]
          simp (disch := omega) only [r10, sh110, lt110, sh113, lt113, en_ops, en_opc, iI_add, iI_mul, iI_sub, jL_add, jL_mul, iI_le, iI_lt, iI_eq, iI_eq0, iI_lt0, iI_0le, iI_le0, iI_0lt, jL_iI, iI_jL, lc_eq, lc_lt, lc_le, lc_ge, lc_gt, Nat.sub_zero, Nat.zero_le, true_and, and_true, Nat.reduceAdd, Nat.reduceLeDiff]
          have e3 : (1 ≤ k ∧ k ≤ 999) ∧ (0 ≤ w ∧ w ≤ 1) := ⟨q0, q1⟩
          refine ⟨fun e => absurd e (by decide), fun _ => ?_⟩
          apply s_X11_brought_50
          simp (disch := omega) only [B_X11_brought_50, sh110, lt110, en_ops, en_opc, iI_add, iI_mul, iI_sub, jL_add, jL_mul, iI_le, iI_lt, iI_eq, iI_eq0, iI_lt0, iI_0le, iI_le0, iI_0lt, jL_iI, iI_jL, lc_eq, lc_lt, lc_le, lc_ge, lc_gt, Nat.sub_zero, Nat.zero_le, true_and, and_true, Nat.reduceAdd, Nat.reduceLeDiff]
          refine m_may (d := d + 7) (code := 2) (k := 2) I1 T1 (Or.inr rfl) (by omega) (by omega) (fun _ => ?_) (fun e => absurd e (by decide))
          simp (disch := omega) only [sh110, lt110, en_ops, en_opc, iI_add, iI_mul, iI_sub, jL_add, jL_mul, iI_le, iI_lt, iI_eq, iI_eq0, iI_lt0, iI_0le, iI_le0, iI_0lt, jL_iI, iI_jL, lc_eq, lc_lt, lc_le, lc_ge, lc_gt, Nat.sub_zero, Nat.zero_le, true_and, and_true, Nat.reduceAdd, Nat.reduceLeDiff]
          refine ⟨fun e => absurd e (by decide), fun _ => m_isNow (d := d + 6) (code := 3) I1 hz T1 (by omega) (fun e4 => ?_) (fun e hi' I' F' T' => ?_)⟩
          · simp (disch := omega) only [sh110, lt110, en_ops, en_opc, iI_add, iI_mul, iI_sub, jL_add, jL_mul, iI_le, iI_lt, iI_eq, iI_eq0, iI_lt0, iI_0le, iI_le0, iI_0lt, jL_iI, iI_jL, lc_eq, lc_lt, lc_le, lc_ge, lc_gt, Nat.sub_zero, Nat.zero_le, true_and, and_true, Nat.reduceAdd, Nat.reduceLeDiff]
            have Hx := H.1 (by rw [if_pos e1, if_pos e2, if_pos e3, if_pos e4])
            obtain ⟨hE, -, hV, hq, hO⟩ := InvR.gol (l := l.toNat) I1 hz hn (by omega) e4.1
            obtain ⟨hy4, hY⟩ := InvR.yr (y := y.toNat) I1 hz (by omega)
            have b2' : rbE (eL W l.toNat) b9 := b2
            have sB : ∀ h, RS h1 h → rfB b9 h := fun h R j hj => by rw [R.2.1 j hj]; exact b1 j hj
            have sV : ∀ h, RS h1 h → rwV G l.toNat (eL W l.toNat).1 h := fun h R => hV.mono (rwE.of (fun x g1 g2 => by rw [R.1 x (by omega) (by omega) (by unfold Psr; omega)]))
            have sY : ∀ h, RS h1 h → ryH y.toNat (zYs W y.toNat).1 (zYs W y.toNat).2 h := fun h R => (InvR.yr (I1.rs hz R) hz (by omega)).2
            have sQ : ∀ h, RS h1 h → rsH (zS W).1 h := fun h R => (I1.rs hz R).xr.1
            rw [show iI l = iI ((l.toNat : Nat) : Int) from iI_eq_of (by omega), show iI y = iI ((y.toNat : Nat) : Int) from iI_eq_of (by omega)]
            refine ⟨fun _ => m_keeps (d := d + 7) I1.1 (fun h2 F2 A2 => ?_), fun e => absurd e (by decide)⟩
            have R2 := RS.kp F2 A2
            simp (disch := omega) only [sh110, lt110, en_ops, en_opc, iI_add, iI_mul, iI_sub, jL_add, jL_mul, iI_le, iI_lt, iI_eq, iI_eq0, iI_lt0, iI_0le, iI_le0, iI_0lt, jL_iI, iI_jL, lc_eq, lc_lt, lc_le, lc_ge, lc_gt, Nat.sub_zero, Nat.zero_le, true_and, and_true, Nat.reduceAdd, Nat.reduceLeDiff]
            refine m_runs (d := d + 1) (b := b9) I1.1 hE (sB h2 R2) b2' (sV h2 R2) (sQ h2 R2) hO hy4 (sY h2 R2) (fun h8 F8 q8 O8 s8 => ?_)
            simp (disch := omega) only [sh110, lt110, en_ops, en_opc, iI_add, iI_mul, iI_sub, jL_add, jL_mul, iI_le, iI_lt, iI_eq, iI_eq0, iI_lt0, iI_0le, iI_le0, iI_0lt, jL_iI, iI_jL, lc_eq, lc_lt, lc_le, lc_ge, lc_gt, Nat.sub_zero, Nat.zero_le, true_and, and_true, Nat.reduceAdd, Nat.reduceLeDiff]
            refine m_pairs (d := d + 3) (b := b9) (o := 1) (Or.inr rfl) I1.1 q8.1 (fun j hj => by rw [F8 113 (by unfold Pmo; omega)]; exact sB h2 R2 j hj) b2.1 O8.1 (fun h9 F9 => ?_)
            simp (disch := omega) only [sh110, lt110, en_ops, en_opc, iI_add, iI_mul, iI_sub, jL_add, jL_mul, iI_le, iI_lt, iI_eq, iI_eq0, iI_lt0, iI_0le, iI_le0, iI_0lt, jL_iI, iI_jL, lc_eq, lc_lt, lc_le, lc_ge, lc_gt, Nat.sub_zero, Nat.zero_le, true_and, and_true, Nat.reduceAdd, Nat.reduceLeDiff]
            refine m_comesBack (d := d + 7) I1.1 (fun h10 F10 A10 => ?_)
            have bk : ∀ h h3 h4 h5 h6, RS h1 h → Fr (· = 115) h h3 → Fr Pmo h3 h4 → Fr (· = 131) h4 h5 → Fr (· = 115) h5 h6 → (∀ j, j < 834 → h6 115 j = h5 117 j) → RS h1 h6 := fun h h3 h4 h5 h6 R G3 G4 G5 G6 A6 => R.bk (h2 := h5) (fun x g1 g2 g3 g4 => by rw [G5 x (fun g => g4 (by unfold Psr; omega)), G4 x (fun q => by rcases q.v with q | q; exact g2 q; exact g4 q.1), G3 x g2]) (fun j hj => by rw [G5 113 (by omega), G4 113 (by unfold Pmo; omega), G3 113 (by omega)]) (by rw [G5 117 (by omega), G4 117 (by unfold Pmo; omega), G3 117 (by omega)]) G6 A6
            have R10 := bk h2 h2 h8 h9 h10 R2 Fr.rf F8 F9 F10 A10
            have ep : prP (yrP (eL W l.toNat) (zYs W y.toNat).2 (zYs W y.toNat).1 (zS W).1).1 (eL W l.toNat).2.1 (eL W l.toNat).2.2.1 1 = prP (yrP (eL W l.toNat) (zYs W y.toNat).2 (zYs W y.toNat).1 (zS W).1).1 (zE W).2.1 (zE W).2.2.1 1 := rfl
            simp (disch := omega) only [en_ops, en_opc, iI_add, iI_mul, iI_sub, jL_add, jL_mul, iI_le, iI_lt, iI_eq, iI_eq0, iI_lt0, iI_0le, iI_le0, iI_0lt, jL_iI, iI_jL, lc_eq, lc_lt, lc_le, lc_ge, lc_gt, Nat.sub_zero, Nat.zero_le, true_and, and_true, Nat.reduceAdd, Nat.reduceLeDiff]
            have Hend : ∀ h9 (s : Int × Int), RS h1 h9 → s = bgO (bgM (eL W l.toNat) (zYs W y.toNat).2 (zYs W y.toNat).1 k (zS W).1) (zE W).2.1 (zE W).2.1 (-1, prP (yrP (eL W l.toNat) (zYs W y.toNat).2 (zYs W y.toNat).1 (zS W).1).1 (zE W).2.1 (zE W).2.2.1 1) → K (.inl (some (.int (iI (if w = 0 then s.1 else s.2))))) h9 hl hr := fun h9 s R9 hs => by
              subst hs
              exact Hx h9 (I1.rs hz R9) (F1.tr R9.m) (R9.t T1)
            generalize hst : ((-1 : Int), prP (yrP (eL W l.toNat) (zYs W y.toNat).2 (zYs W y.toNat).1 (zS W).1).1 (zE W).2.1 (zE W).2.2.1 1) = st0 at Hend
            have z1 : (-1 : Int) = st0.1 := by rw [← hst]
            have z2 : prP (yrP (eL W l.toNat) (zYs W y.toNat).2 (zYs W y.toNat).1 (zS W).1).1 (zE W).2.1 (zE W).2.2.1 1 = st0.2 := by rw [← hst]
            rw [z2, z1]
            have r0 : 0 ≤ st0.2 ∧ st0.2 ≤ 144 := by rw [← z2]; exact prP_r nc12
            have rg : ∀ c e, 0 ≤ bgM (eL W l.toNat) (zYs W y.toNat).2 (zYs W y.toNat).1 k (zS W).1 c e ∧ bgM (eL W l.toNat) (zYs W y.toNat).2 (zYs W y.toNat).1 k (zS W).1 c e ≤ 144 := fun c e => prP_r nc12
            have rO : ∀ c, 0 ≤ (bgO (bgM (eL W l.toNat) (zYs W y.toNat).2 (zYs W y.toNat).1 k (zS W).1) (zE W).2.1 c st0).2 ∧ (bgO (bgM (eL W l.toNat) (zYs W y.toNat).2 (zYs W y.toNat).1 k (zS W).1) (zE W).2.1 c st0).2 ≤ 144 := fun c => by
              induction c with
              | zero => exact r0
              | succ c ih => exact bgI_r rg ih (zE W).2.1
            have e09 : ∀ h, RS h1 h → h 113 0 = iI ((zE W).2.1 : Int) := fun h R => by rw [R.2.1 0 (by omega)]; exact e0
            suffices L : ∀ c : Nat, c ≤ (zE W).2.1 → ∀ h x8 x9, RS h1 h → en_V G Y_X11_brought (d + 9) wN wN K 96 [.ref 110, .int (iI ((l.toNat : Nat) : Int)), .int (iI ((y.toNat : Nat) : Int)), .int (iI k), .int (iI w), .int (iI (bgO (bgM (eL W l.toNat) (zYs W y.toNat).2 (zYs W y.toNat).1 k (zS W).1) (zE W).2.1 c st0).2), .int (iI (bgO (bgM (eL W l.toNat) (zYs W y.toNat).2 (zYs W y.toNat).1 k (zS W).1) (zE W).2.1 c st0).1), .int (iI (c : Int)), x8, x9] [] h hl hr xc xs from L 0 (by omega) h10 _ _ R10
            refine lp (zE W).2.1 (fun h x8 x9 R => ?_) (fun c hc ih h x8 x9 R => ?_)
            · have Hy := Hend h _ R rfl
              apply s_X11_brought_96
              simp (disch := omega) only [B_X11_brought_96, r10, sh110, lt110, sh113, lt113, en_ops, en_opc, iI_add, iI_mul, iI_sub, jL_add, jL_mul, iI_le, iI_lt, iI_eq, iI_eq0, iI_lt0, iI_0le, iI_le0, iI_0lt, jL_iI, iI_jL, lc_eq, lc_lt, lc_le, lc_ge, lc_gt, Nat.sub_zero, Nat.zero_le, true_and, and_true, Nat.reduceAdd, Nat.reduceLeDiff]
              refine ⟨0, rfl, by decide, ?_⟩
              rw [e09 h R]
              simp (disch := omega) only [en_ops, en_opc, iI_add, iI_mul, iI_sub, jL_add, jL_mul, iI_le, iI_lt, iI_eq, iI_eq0, iI_lt0, iI_0le, iI_le0, iI_0lt, jL_iI, iI_jL, lc_eq, lc_lt, lc_le, lc_ge, lc_gt, Nat.sub_zero, Nat.zero_le, true_and, and_true, Nat.reduceAdd, Nat.reduceLeDiff]
              refine ⟨fun _ => ⟨fun e6 => ?_, fun e6 => ?_⟩, fun e => absurd (Int.le_refl _) e⟩
              · rw [if_neg e6] at Hy; exact Hy
              · rw [if_pos e6] at Hy; exact Hy
            · have rc := rO c
              have st1 : bgO (bgM (eL W l.toNat) (zYs W y.toNat).2 (zYs W y.toNat).1 k (zS W).1) (zE W).2.1 (c + 1) st0 = bgI (bgM (eL W l.toNat) (zYs W y.toNat).2 (zYs W y.toNat).1 k (zS W).1) c (zE W).2.1 (bgO (bgM (eL W l.toNat) (zYs W y.toNat).2 (zYs W y.toNat).1 k (zS W).1) (zE W).2.1 c st0) := rfl
              rw [st1] at ih
              generalize bgO (bgM (eL W l.toNat) (zYs W y.toNat).2 (zYs W y.toNat).1 k (zS W).1) (zE W).2.1 c st0 = s at *
              apply s_X11_brought_96
              simp (disch := omega) only [B_X11_brought_96, r10, sh110, lt110, sh113, lt113, en_ops, en_opc, iI_add, iI_mul, iI_sub, jL_add, jL_mul, iI_le, iI_lt, iI_eq, iI_eq0, iI_lt0, iI_0le, iI_le0, iI_0lt, jL_iI, iI_jL, lc_eq, lc_lt, lc_le, lc_ge, lc_gt, Nat.sub_zero, Nat.zero_le, true_and, and_true, Nat.reduceAdd, Nat.reduceLeDiff]
              refine ⟨0, rfl, by decide, ?_⟩
              rw [e09 h R]
              simp (disch := omega) only [en_ops, en_opc, iI_add, iI_mul, iI_sub, jL_add, jL_mul, iI_le, iI_lt, iI_eq, iI_eq0, iI_lt0, iI_0le, iI_le0, iI_0lt, jL_iI, iI_jL, lc_eq, lc_lt, lc_le, lc_ge, lc_gt, Nat.sub_zero, Nat.zero_le, true_and, and_true, Nat.reduceAdd, Nat.reduceLeDiff]
              refine ⟨fun e => by omega, fun _ => ?_⟩
              suffices L2 : ∀ e : Nat, e ≤ (zE W).2.1 → ∀ h x9, RS h1 h → en_V G Y_X11_brought (d + 9) wN wN K 110 [.ref 110, .int (iI ((l.toNat : Nat) : Int)), .int (iI ((y.toNat : Nat) : Int)), .int (iI k), .int (iI w), .int (iI (bgI (bgM (eL W l.toNat) (zYs W y.toNat).2 (zYs W y.toNat).1 k (zS W).1) c e s).2), .int (iI (bgI (bgM (eL W l.toNat) (zYs W y.toNat).2 (zYs W y.toNat).1 k (zS W).1) c e s).1), .int (iI (c : Int)), .int (iI (e : Int)), x9] [] h hl hr xc xs from L2 0 (by omega) h _ R
              refine lp (zE W).2.1 (fun h x9 R => ?_) (fun e he ih2 h x9 R => ?_)
              · apply s_X11_brought_110
                simp (disch := omega) only [B_X11_brought_110, r10, sh110, lt110, sh113, lt113, en_ops, en_opc, iI_add, iI_mul, iI_sub, jL_add, jL_mul, iI_le, iI_lt, iI_eq, iI_eq0, iI_lt0, iI_0le, iI_le0, iI_0lt, jL_iI, iI_jL, lc_eq, lc_lt, lc_le, lc_ge, lc_gt, Nat.sub_zero, Nat.zero_le, true_and, and_true, Nat.reduceAdd, Nat.reduceLeDiff]
                refine ⟨0, rfl, by decide, ?_⟩
                rw [e09 h R]
                simp (disch := omega) only [en_ops, en_opc, iI_add, iI_mul, iI_sub, jL_add, jL_mul, iI_le, iI_lt, iI_eq, iI_eq0, iI_lt0, iI_0le, iI_le0, iI_0lt, jL_iI, iI_jL, lc_eq, lc_lt, lc_le, lc_ge, lc_gt, Nat.sub_zero, Nat.zero_le, true_and, and_true, Nat.reduceAdd, Nat.reduceLeDiff]
                exact ⟨fun _ => ih h _ _ R, fun e => absurd (Int.le_refl _) e⟩
              · have ri := bgI_r (c := c) rg rc e
                have st2 : bgI (bgM (eL W l.toNat) (zYs W y.toNat).2 (zYs W y.toNat).1 k (zS W).1) c (e + 1) s = if c ≠ e ∧ (bgI (bgM (eL W l.toNat) (zYs W y.toNat).2 (zYs W y.toNat).1 k (zS W).1) c e s).2 < bgM (eL W l.toNat) (zYs W y.toNat).2 (zYs W y.toNat).1 k (zS W).1 c e then (100 * (c : Int) + e, bgM (eL W l.toNat) (zYs W y.toNat).2 (zYs W y.toNat).1 k (zS W).1 c e) else bgI (bgM (eL W l.toNat) (zYs W y.toNat).2 (zYs W y.toNat).1 k (zS W).1) c e s := rfl
                rw [st2] at ih2
                have Q0 := sQ h R
                apply s_X11_brought_110
                simp (disch := omega) only [B_X11_brought_110, r10, sh110, lt110, sh113, lt113, en_ops, en_opc, iI_add, iI_mul, iI_sub, jL_add, jL_mul, iI_le, iI_lt, iI_eq, iI_eq0, iI_lt0, iI_0le, iI_le0, iI_0lt, jL_iI, iI_jL, lc_eq, lc_lt, lc_le, lc_ge, lc_gt, Nat.sub_zero, Nat.zero_le, true_and, and_true, Nat.reduceAdd, Nat.reduceLeDiff]
                refine ⟨0, rfl, by decide, ?_⟩
                rw [e09 h R]
                simp (disch := omega) only [sh110, lt110, en_ops, en_opc, iI_add, iI_mul, iI_sub, jL_add, jL_mul, iI_le, iI_lt, iI_eq, iI_eq0, iI_lt0, iI_0le, iI_le0, iI_0lt, jL_iI, iI_jL, lc_eq, lc_lt, lc_le, lc_ge, lc_gt, Nat.sub_zero, Nat.zero_le, true_and, and_true, Nat.reduceAdd, Nat.reduceLeDiff]
                refine ⟨fun g => by omega, fun _ => ⟨fun g => ?_, fun g => ?_⟩⟩
                · have ce : c ≠ e := by omega
                  obtain ⟨zB1, zB2, zB3, zB4⟩ := haP_B (n := k) (by omega) ce hc (Nat.le_of_lt he) nc12 nz6 hO.1 ((zE W).2.2.1 * 3) (Nat.le_refl _)
                  refine m_brings (d := d + 6) (b := b9) (v := (zS W).1.2.2.2.1 4) I1.1 Q0.1 (sB h R) b2.1 hO.1 (Q0.2.2.2.1 4 (by omega)) (by omega) (by omega) ce (by omega) (by omega) (fun h3 E3 S3 V3 => ?_)
                  obtain ⟨F3, D3⟩ := E3
                  have Q3 : rsH ((haP (eL W l.toNat).2.1 (eL W l.toNat).2.2.1 c e k (zS W).1.1 ((eL W l.toNat).2.2.1 * 3)).1, (zS W).1.2.1, (zS W).1.2.2.1, (fun i => (zS W).1.2.2.2.1 i + if i = 4 then (haP (eL W l.toNat).2.1 (eL W l.toNat).2.2.1 c e k (zS W).1.1 ((eL W l.toNat).2.2.1 * 3)).2.2 else 0), (zS W).1.2.2.2.2) h3 := by
                    obtain ⟨-, y2, y3, y4, y5, y6, y7⟩ := Q0
                    refine ⟨S3, fun c hc => (D3 _ (by omega) (by omega)).trans (y2 c hc), fun c hc => (D3 _ (by omega) (by omega)).trans (y3 c hc), fun i hi9 => ?_, (D3 _ (by omega) (by omega)).trans y5, (D3 _ (by omega) (by omega)).trans y6, fun j hj g => (D3 _ (Or.inr g) (by omega)).trans (y7 j hj g)⟩
                    show h3 115 (625 + i) = iI ((zS W).1.2.2.2.1 i + if i = 4 then _ else 0)
                    by_cases q : i = 4
                    · subst q; rw [if_pos rfl]; exact V3
                    · rw [if_neg q, Int.add_zero, D3 _ (by omega) (by omega)]; exact y4 i hi9
                  have O3 : hOK (eL W l.toNat) ((haP (eL W l.toNat).2.1 (eL W l.toNat).2.2.1 c e k (zS W).1.1 ((eL W l.toNat).2.2.1 * 3)).1, (zS W).1.2.1, (zS W).1.2.2.1, (fun i => (zS W).1.2.2.2.1 i + if i = 4 then (haP (eL W l.toNat).2.1 (eL W l.toNat).2.2.1 c e k (zS W).1.1 ((eL W l.toNat).2.2.1 * 3)).2.2 else 0), (zS W).1.2.2.2.2) := ⟨zB1, Int.le_trans zB2 hO.2.1, hO.2.2⟩
                  simp (disch := omega) only [sh110, lt110, en_ops, en_opc, iI_add, iI_mul, iI_sub, jL_add, jL_mul, iI_le, iI_lt, iI_eq, iI_eq0, iI_lt0, iI_0le, iI_le0, iI_0lt, jL_iI, iI_jL, lc_eq, lc_lt, lc_le, lc_ge, lc_gt, Nat.sub_zero, Nat.zero_le, true_and, and_true, Nat.reduceAdd, Nat.reduceLeDiff]
                  refine m_runs (d := d + 1) (b := b9) I1.1 hE (fun j hj => by rw [F3 113 (by omega)]; exact sB h R j hj) b2' ((sV h R).mono (rwE.of (fun x g1 g2 => F3 x (by omega)))) Q3 O3 hy4 ((sY h R).fr F3 (fun x g1 g2 g => by omega)) (fun h4 F4 q4 O4 s4 => ?_)
                  simp (disch := omega) only [sh110, lt110, en_ops, en_opc, iI_add, iI_mul, iI_sub, jL_add, jL_mul, iI_le, iI_lt, iI_eq, iI_eq0, iI_lt0, iI_0le, iI_le0, iI_0lt, jL_iI, iI_jL, lc_eq, lc_lt, lc_le, lc_ge, lc_gt, Nat.sub_zero, Nat.zero_le, true_and, and_true, Nat.reduceAdd, Nat.reduceLeDiff]
                  refine m_pairs (d := d + 3) (b := b9) (o := 1) (Or.inr rfl) I1.1 q4.1 (fun j hj => by rw [F4 113 (by unfold Pmo; omega), F3 113 (by omega)]; exact sB h R j hj) b2.1 O4.1 (fun h5 F5 => ?_)
                  simp (disch := omega) only [sh110, lt110, en_ops, en_opc, iI_add, iI_mul, iI_sub, jL_add, jL_mul, iI_le, iI_lt, iI_eq, iI_eq0, iI_lt0, iI_0le, iI_le0, iI_0lt, jL_iI, iI_jL, lc_eq, lc_lt, lc_le, lc_ge, lc_gt, Nat.sub_zero, Nat.zero_le, true_and, and_true, Nat.reduceAdd, Nat.reduceLeDiff]
                  refine m_comesBack (d := d + 7) I1.1 (fun h6 F6 A6 => ?_)
                  have R6 := bk h h3 h4 h5 h6 R F3 F4 F5 F6 A6
                  have eg : prP (yrP (eL W l.toNat) (zYs W y.toNat).2 (zYs W y.toNat).1 ((haP (eL W l.toNat).2.1 (eL W l.toNat).2.2.1 c e k (zS W).1.1 ((eL W l.toNat).2.2.1 * 3)).1, (zS W).1.2.1, (zS W).1.2.2.1, (fun i => (zS W).1.2.2.2.1 i + if i = 4 then (haP (eL W l.toNat).2.1 (eL W l.toNat).2.2.1 c e k (zS W).1.1 ((eL W l.toNat).2.2.1 * 3)).2.2 else 0), (zS W).1.2.2.2.2)).1 (zE W).2.1 (zE W).2.2.1 1 = bgM (eL W l.toNat) (zYs W y.toNat).2 (zYs W y.toNat).1 k (zS W).1 c e := rfl
                  rw [eg]
                  have gr := rg c e
                  simp (disch := omega) only [en_ops, en_opc, iI_add, iI_mul, iI_sub, jL_add, jL_mul, iI_le, iI_lt, iI_eq, iI_eq0, iI_lt0, iI_0le, iI_le0, iI_0lt, jL_iI, iI_jL, lc_eq, lc_lt, lc_le, lc_ge, lc_gt, Nat.sub_zero, Nat.zero_le, true_and, and_true, Nat.reduceAdd, Nat.reduceLeDiff]
                  refine ⟨fun g2 => ?_, fun g2 => ?_⟩
                  · rw [if_pos ⟨ce, by omega⟩] at ih2
                    exact ih2 h6 _ R6
                  · rw [if_neg (fun g3 => by omega)] at ih2
                    exact ih2 h6 _ R6
                · rw [if_neg (fun g2 => g2.1 (by omega))] at ih2
                  exact ih2 h _ R
          · simp (disch := omega) only [en_ops, en_opc, iI_add, iI_mul, iI_sub, jL_add, jL_mul, iI_le, iI_lt, iI_eq, iI_eq0, iI_lt0, iI_0le, iI_le0, iI_0lt, jL_iI, iI_jL, lc_eq, lc_lt, lc_le, lc_ge, lc_gt, Nat.sub_zero, Nat.zero_le, true_and, and_true, Nat.reduceAdd, Nat.reduceLeDiff]
            exact ⟨fun e => (e (by first | trivial | rfl)).elim, fun _ => H.no F1 (k := 3) (by omega) (by rw [if_pos e1, if_pos e2, if_pos e3, if_neg e]) I' F' (by rw [if_pos e1, if_pos e2, if_pos e3]; exact T')⟩
        · rw [if_neg q1]
          simp (disch := omega) only [sh110, lt110, en_ops, en_opc, iI_add, iI_mul, iI_sub, jL_add, jL_mul, iI_le, iI_lt, iI_eq, iI_eq0, iI_lt0, iI_0le, iI_le0, iI_0lt, jL_iI, iI_jL, lc_eq, lc_lt, lc_le, lc_ge, lc_gt, Nat.sub_zero, Nat.zero_le, true_and, and_true, Nat.reduceAdd, Nat.reduceLeDiff]
          exact ⟨fun _ => no3 (fun g => q1 g.2), fun e => (e (by first | trivial | rfl)).elim⟩
      · rw [if_neg q0]
        simp (disch := omega) only [sh110, lt110, en_ops, en_opc, iI_add, iI_mul, iI_sub, jL_add, jL_mul, iI_le, iI_lt, iI_eq, iI_eq0, iI_lt0, iI_0le, iI_le0, iI_0lt, jL_iI, iI_jL, lc_eq, lc_lt, lc_le, lc_ge, lc_gt, Nat.sub_zero, Nat.zero_le, true_and, and_true, Nat.reduceAdd, Nat.reduceLeDiff]
        exact ⟨fun _ => no3 (fun g => q0 g.1), fun e => (e (by first | trivial | rfl)).elim⟩
    · simp (disch := omega) only [en_ops, en_opc, iI_add, iI_mul, iI_sub, jL_add, jL_mul, iI_le, iI_lt, iI_eq, iI_eq0, iI_lt0, iI_0le, iI_le0, iI_0lt, jL_iI, iI_jL, lc_eq, lc_lt, lc_le, lc_ge, lc_gt, Nat.sub_zero, Nat.zero_le, true_and, and_true, Nat.reduceAdd, Nat.reduceLeDiff]
      exact ⟨fun _ => H.no F1 (k := 1) (by omega) (by rw [if_pos e1, if_neg e]) I' F' (by rw [if_pos e1, if_neg e]; exact T'), fun e => (e (by first | trivial | rfl)).elim⟩
  · simp (disch := omega) only [en_ops, en_opc, iI_add, iI_mul, iI_sub, jL_add, jL_mul, iI_le, iI_lt, iI_eq, iI_eq0, iI_lt0, iI_0le, iI_le0, iI_0lt, jL_iI, iI_jL, lc_eq, lc_lt, lc_le, lc_ge, lc_gt, Nat.sub_zero, Nat.zero_le, true_and, and_true, Nat.reduceAdd, Nat.reduceLeDiff]
    exact ⟨fun _ => H.no F1 (k := 1) (by omega) (by rw [if_neg e]) I' F' (by rw [if_neg e]; exact T'), fun e => (e (by first | trivial | rfl)).elim⟩
end
