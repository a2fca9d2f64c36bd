section
variable {G : en_G} {d : Nat} {K : en_K} {W : zW} {n : Nat} {hi : en_I} {hl : en_L} {hr : en_F} {xc xs : Nat}
theorem m_craised {l y k m w : Int} (hI : InvR G W hi hr) (hz : zOK n W) (hn : n ≤ 512) (hlr : iRg l) (hyr : iRg y) (hk : iRg k) (hm : iRg m) (hw : iRg w) (H : rEnd G W W (if inL W l then if inY W y then if (1 ≤ k ∧ k ≤ 3) ∧ (k ≤ (zE W).2.1) ∧ (1 ≤ m ∧ m ≤ 20) ∧ (0 ≤ w ∧ w ≤ 1) then if isNow W then 0 else 4 else 3 else 2 else 2) (if inL W l then if inY W y then if (1 ≤ k ∧ k ≤ 3) ∧ (k ≤ (zE W).2.1) ∧ (1 ≤ m ∧ m ≤ 20) ∧ (0 ≤ w ∧ w ≤ 1) then 3 else 2 else 1 else 1) (.int (iI 0)) (.int (iI (if w = 0 then (lsF (pkB k.toNat) (rsP (zVs W l.toNat) (zYs W y.toNat).2 (zYs W y.toNat).1 (zS W).1.2.2.2.2.2 (zS W).1.2.1 m (zE W).2.1) 0 (2 ^ (zE W).2.1)).1 else (lsF (pkB k.toNat) (rsP (zVs W l.toNat) (zYs W y.toNat).2 (zYs W y.toNat).1 (zS W).1.2.2.2.2.2 (zS W).1.2.1 m (zE W).2.1) 0 (2 ^ (zE W).2.1)).2))) K hi hl hr) : en_Call G (d + 9) xc xs Y_X11_raised wN wN [.ref 110, .int (iI l), .int (iI y), .int (iI k), .int (iI m), .int (iI w)] hi hl hr K := by
  obtain ⟨I1, F1, T1⟩ := hI.t1
  obtain ⟨⟨-, -, r10, -, r12, -⟩, -⟩ := id I1.1
  obtain ⟨nc12, nz6⟩ := hz.c
  have nl4 := hz.2.1
  have ny4 := hz.2.2.1
  apply en_X11_raised
  simp (disch := omega) only [B_X11_raised_0, sh110, lt110, en_ops, en_opc, iI_add, iI_mul, iI_sub, jL_add, jL_mul, iI_le, iI_lt, iI_eq, iI_eq0, iI_lt0, iI_0le, iI_le0, iI_0lt, jL_iI, iI_jL, lc_eq, lc_lt, lc_le, lc_ge, lc_gt, Nat.sub_zero, Nat.zero_le, true_and, and_true, Nat.reduceAdd, Nat.reduceLeDiff]
  generalize en_up hi 110 0 (iI 0) = h1 at *
  obtain ⟨b9, b1, b2⟩ := I1.e
  have e0 : h1 113 0 = iI ((zE W).2.1 : Int) := by rw [b1 0 (by omega), b2.1.1]
  refine m_isLaw (d := d + 6) (code := 1) I1 hz T1 hlr (by omega) (fun e1 => ?_) (fun e hi' I' F' T' => ?_)
  · simp (disch := omega) only [sh110, lt110, en_ops, en_opc, iI_add, iI_mul, iI_sub, jL_add, jL_mul, iI_le, iI_lt, iI_eq, iI_eq0, iI_lt0, iI_0le, iI_le0, iI_0lt, jL_iI, iI_jL, lc_eq, lc_lt, lc_le, lc_ge, lc_gt, Nat.sub_zero, Nat.zero_le, true_and, and_true, Nat.reduceAdd, Nat.reduceLeDiff]
    refine ⟨fun e => absurd e (by decide), fun _ => m_isYear (d := d + 6) (code := 1) I1 hz T1 hyr (by omega) (fun e2 => ?_) (fun e hi' I' F' T' => ?_)⟩
    · simp (disch := omega) only [sh110, lt110, en_ops, en_opc, iI_add, iI_mul, iI_sub, jL_add, jL_mul, iI_le, iI_lt, iI_eq, iI_eq0, iI_lt0, iI_0le, iI_le0, iI_0lt, jL_iI, iI_jL, lc_eq, lc_lt, lc_le, lc_ge, lc_gt, Nat.sub_zero, Nat.zero_le, true_and, and_true, Nat.reduceAdd, Nat.reduceLeDiff]
      have no3 : ¬ ((1 ≤ k ∧ k ≤ 3) ∧ (k ≤ (zE W).2.1) ∧ (1 ≤ m ∧ m ≤ 20) ∧ (0 ≤ w ∧ w ≤ 1)) → en_V G Y_X11_raised (d + 9) wN wN K 69 [.ref 110, .int (iI l), .int (iI y), .int (iI k), .int (iI m), .int (iI w), jk, jk, jk, jk, jk] [.int (iI 0), .ref 110] h1 hl hr xc xs := fun e => by
        apply s_X11_raised_69
        simp (disch := omega) only [B_X11_raised_69, sh110, lt110, en_ops, en_opc, iI_add, iI_mul, iI_sub, jL_add, jL_mul, iI_le, iI_lt, iI_eq, iI_eq0, iI_lt0, iI_0le, iI_le0, iI_0lt, jL_iI, iI_jL, lc_eq, lc_lt, lc_le, lc_ge, lc_gt, Nat.sub_zero, Nat.zero_le, true_and, and_true, Nat.reduceAdd, Nat.reduceLeDiff]
        refine m_may (d := d + 7) (code := 2) (k := 2) I1 T1 (Or.inl rfl) (by omega) (by omega) (fun e => absurd e (by decide)) (fun _ hi' I' F' T' => ?_)
        simp (disch := omega) only [en_ops, en_opc, iI_add, iI_mul, iI_sub, jL_add, jL_mul, iI_le, iI_lt, iI_eq, iI_eq0, iI_lt0, iI_0le, iI_le0, iI_0lt, jL_iI, iI_jL, lc_eq, lc_lt, lc_le, lc_ge, lc_gt, Nat.sub_zero, Nat.zero_le, true_and, and_true, Nat.reduceAdd, Nat.reduceLeDiff]
        exact ⟨fun _ => H.no F1 (k := 2) (by omega) (by rw [if_pos e1, if_pos e2, if_neg e]) I' F' (by rw [if_pos e1, if_pos e2, if_neg e]; exact T'), fun e => (e (by first | trivial | rfl)).elim⟩
      refine ⟨fun e => absurd e (by decide), fun _ => m_within hk.1 hk.2 (by decide) (by decide) (by decide) (by decide) ?_⟩
      by_cases q0 : 1 ≤ k ∧ k ≤ 3
      · rw [if_pos q0]
        simp (disch := omega) only [r10, sh110, lt110, sh113, lt113, en_ops, en_opc, iI_add, iI_mul, iI_sub, jL_add, jL_mul, iI_le, iI_lt, iI_eq, iI_eq0, iI_lt0, iI_0le, iI_le0, iI_0lt, jL_iI, iI_jL, lc_eq, lc_lt, lc_le, lc_ge, lc_gt, Nat.sub_zero, Nat.zero_le, true_and, and_true, Nat.reduceAdd, Nat.reduceLeDiff]
        refine ⟨fun e => absurd e (by decide), fun _ => ?_⟩
        refine ⟨0, rfl, by decide, ?_⟩
        rw [e0]
        simp (disch := omega) only [en_ops, en_opc, iI_add, iI_mul, iI_sub, jL_add, jL_mul, iI_le, iI_lt, iI_eq, iI_eq0, iI_lt0, iI_0le, iI_le0, iI_0lt, jL_iI, iI_jL, lc_eq, lc_lt, lc_le, lc_ge, lc_gt, Nat.sub_zero, Nat.zero_le, true_and, and_true, Nat.reduceAdd, Nat.reduceLeDiff]
        refine ⟨fun e => no3 (fun g => by have := g.2.1; omega), fun q1 => ?_⟩
        have q1 : k ≤ (zE W).2.1 := by omega
        refine m_within hm.1 hm.2 (by decide) (by decide) (by decide) (by decide) ?_
        by_cases q2 : 1 ≤ m ∧ m ≤ 20
        · rw [if_pos q2]
          simp (disch := omega) only [r10, sh110, lt110, sh113, lt113, en_ops, en_opc, iI_add, iI_mul, iI_sub, jL_add, jL_mul, iI_le, iI_lt, iI_eq, iI_eq0, iI_lt0, iI_0le, iI_le0, iI_0lt, jL_iI, iI_jL, lc_eq, lc_lt, lc_le, lc_ge, lc_gt, Nat.sub_zero, Nat.zero_le, true_and, and_true, Nat.reduceAdd, Nat.reduceLeDiff]
          refine ⟨fun e => absurd e (by decide), fun _ => m_within hw.1 hw.2 (by decide) (by decide) (by decide) (by decide) ?_⟩
          by_cases q3 : 0 ≤ w ∧ w ≤ 1
          · rw [if_pos q3]
            simp (disch := omega) only [r10, sh110, lt110, sh113, lt113, en_ops, en_opc, iI_add, iI_mul, iI_sub, jL_add, jL_mul, iI_le, iI_lt, iI_eq, iI_eq0, iI_lt0, iI_0le, iI_le0, iI_0lt, jL_iI, iI_jL, lc_eq, lc_lt, lc_le, lc_ge, lc_gt, Nat.sub_zero, Nat.zero_le, true_and, and_true, Nat.reduceAdd, Nat.reduceLeDiff]
            have e3 : (1 ≤ k ∧ k ≤ 3) ∧ (k ≤ (zE W).2.1) ∧ (1 ≤ m ∧ m ≤ 20) ∧ (0 ≤ w ∧ w ≤ 1) := ⟨q0, q1, q2, q3⟩
            refine ⟨fun e => absurd e (by decide), fun _ => ?_⟩
            apply s_X11_raised_69
            simp (disch := omega) only [B_X11_raised_69, sh110, lt110, en_ops, en_opc, iI_add, iI_mul, iI_sub, jL_add, jL_mul, iI_le, iI_lt, iI_eq, iI_eq0, iI_lt0, iI_0le, iI_le0, iI_0lt, jL_iI, iI_jL, lc_eq, lc_lt, lc_le, lc_ge, lc_gt, Nat.sub_zero, Nat.zero_le, true_and, and_true, Nat.reduceAdd, Nat.reduceLeDiff]
            refine m_may (d := d + 7) (code := 2) (k := 2) I1 T1 (Or.inr rfl) (by omega) (by omega) (fun _ => ?_) (fun e => absurd e (by decide))
            simp (disch := omega) only [sh110, lt110, en_ops, en_opc, iI_add, iI_mul, iI_sub, jL_add, jL_mul, iI_le, iI_lt, iI_eq, iI_eq0, iI_lt0, iI_0le, iI_le0, iI_0lt, jL_iI, iI_jL, lc_eq, lc_lt, lc_le, lc_ge, lc_gt, Nat.sub_zero, Nat.zero_le, true_and, and_true, Nat.reduceAdd, Nat.reduceLeDiff]
            refine ⟨fun e => absurd e (by decide), fun _ => m_isNow (d := d + 6) (code := 3) I1 hz T1 (by omega) (fun e4 => ?_) (fun e hi' I' F' T' => ?_)⟩
            · simp (disch := omega) only [sh110, lt110, en_ops, en_opc, iI_add, iI_mul, iI_sub, jL_add, jL_mul, iI_le, iI_lt, iI_eq, iI_eq0, iI_lt0, iI_0le, iI_le0, iI_0lt, jL_iI, iI_jL, lc_eq, lc_lt, lc_le, lc_ge, lc_gt, Nat.sub_zero, Nat.zero_le, true_and, and_true, Nat.reduceAdd, Nat.reduceLeDiff]
              have Hx := H.1 (by rw [if_pos e1, if_pos e2, if_pos e3, if_pos e4])
              obtain ⟨hE, -, hV, hq, hO⟩ := InvR.gol (l := l.toNat) I1 hz hn (by omega) e4.1
              obtain ⟨hy4, hY⟩ := InvR.yr (y := y.toNat) I1 hz (by omega)
              have b2' : rbE (eL W l.toNat) b9 := b2
              have sB : ∀ h, RS h1 h → rfB b9 h := fun h R j hj => by rw [R.2.1 j hj]; exact b1 j hj
              have sV : ∀ h, RS h1 h → rwV G l.toNat (eL W l.toNat).1 h := fun h R => hV.mono (rwE.of (fun x g1 g2 => by rw [R.1 x (by omega) (by omega) (by unfold Psr; omega)]))
              have sY : ∀ h, RS h1 h → ryH y.toNat (zYs W y.toNat).1 (zYs W y.toNat).2 h := fun h R => (InvR.yr (I1.rs hz R) hz (by omega)).2
              have sQ : ∀ h, RS h1 h → rsH (zS W).1 h := fun h R => (I1.rs hz R).xr.1
              rw [show iI l = iI ((l.toNat : Nat) : Int) from iI_eq_of (by omega), show iI y = iI ((y.toNat : Nat) : Int) from iI_eq_of (by omega)]
              refine ⟨fun _ => m_keeps (d := d + 7) I1.1 (fun h2 F2 A2 => ?_), fun e => absurd e (by decide)⟩
              have R2 := RS.kp F2 A2
              have x60 := hz.x.2.2.1 e4.1
              simp (disch := omega) only [sh110, lt110, en_ops, en_opc, iI_add, iI_mul, iI_sub, jL_add, jL_mul, iI_le, iI_lt, iI_eq, iI_eq0, iI_lt0, iI_0le, iI_le0, iI_0lt, jL_iI, iI_jL, lc_eq, lc_lt, lc_le, lc_ge, lc_gt, Nat.sub_zero, Nat.zero_le, true_and, and_true, Nat.reduceAdd, Nat.reduceLeDiff]
              refine m_oversNow (d := d + 7) (b := b9) (ov := (zS W).1.2.2.1) I1.1 (sB h2 R2) b2.1 (fun c hc => (sQ h2 R2).2.2.1 c hc) ?_
              simp (disch := omega) only [en_ops, en_opc, iI_add, iI_mul, iI_sub, jL_add, jL_mul, iI_le, iI_lt, iI_eq, iI_eq0, iI_lt0, iI_0le, iI_le0, iI_0lt, jL_iI, iI_jL, lc_eq, lc_lt, lc_le, lc_ge, lc_gt, Nat.sub_zero, Nat.zero_le, true_and, and_true, Nat.reduceAdd, Nat.reduceLeDiff]
              have h600 := hO.2.2.2
              have Hend : ∀ h9 (s : Int × Int), RS h1 h9 → s = lsF (pkB k.toNat) (rsP (zVs W l.toNat) (zYs W y.toNat).2 (zYs W y.toNat).1 (zS W).1.2.2.2.2.2 (zS W).1.2.1 m (zE W).2.1) 0 (2 ^ (zE W).2.1) → K (.inl (some (.int (iI (if w = 0 then s.1 else s.2))))) h9 hl hr := fun h9 s R9 hs => by
                subst hs
                exact Hx h9 (I1.rs hz R9) (F1.tr R9.m) (R9.t T1)
              have gr : ∀ b, -20000 ≤ rsP (zVs W l.toNat) (zYs W y.toNat).2 (zYs W y.toNat).1 (zS W).1.2.2.2.2.2 (zS W).1.2.1 m (zE W).2.1 b ∧ rsP (zVs W l.toNat) (zYs W y.toNat).2 (zYs W y.toNat).1 (zS W).1.2.2.2.2.2 (zS W).1.2.1 m (zE W).2.1 b ≤ 20000 := fun b => rsP_r h600.1 h600.2 nc12
              have p2 : 2 ^ (zE W).2.1 ≤ 4096 := Nat.pow_le_pow_right (n := 2) (by decide) nc12
              have gst : ∀ b : Nat, lsF (pkB k.toNat) (rsP (zVs W l.toNat) (zYs W y.toNat).2 (zYs W y.toNat).1 (zS W).1.2.2.2.2.2 (zS W).1.2.1 m (zE W).2.1) 0 (b + 1) = if pkB k.toNat b = true ∧ ((lsF (pkB k.toNat) (rsP (zVs W l.toNat) (zYs W y.toNat).2 (zYs W y.toNat).1 (zS W).1.2.2.2.2.2 (zS W).1.2.1 m (zE W).2.1) 0 b).1 = -1 ∨ rsP (zVs W l.toNat) (zYs W y.toNat).2 (zYs W y.toNat).1 (zS W).1.2.2.2.2.2 (zS W).1.2.1 m (zE W).2.1 b < (lsF (pkB k.toNat) (rsP (zVs W l.toNat) (zYs W y.toNat).2 (zYs W y.toNat).1 (zS W).1.2.2.2.2.2 (zS W).1.2.1 m (zE W).2.1) 0 b).2) then ((b : Int), rsP (zVs W l.toNat) (zYs W y.toNat).2 (zYs W y.toNat).1 (zS W).1.2.2.2.2.2 (zS W).1.2.1 m (zE W).2.1 b) else lsF (pkB k.toNat) (rsP (zVs W l.toNat) (zYs W y.toNat).2 (zYs W y.toNat).1 (zS W).1.2.2.2.2.2 (zS W).1.2.1 m (zE W).2.1) 0 b := fun b => rfl
              have rL := fun b => lsF_r (P := pkB k.toNat) (g := rsP (zVs W l.toNat) (zYs W y.toNat).2 (zYs W y.toNat).1 (zS W).1.2.2.2.2.2 (zS W).1.2.1 m (zE W).2.1) (s0 := 0) (lo := -20000) (h := 20000) (by omega) b (fun i _ _ => gr i)
              have hgr : ∀ b, b < 2 ^ (zE W).2.1 → sumTo (zE W).2.1 (fun c => oyN (zVs W l.toNat) (zYs W y.toNat).2 (zYs W y.toNat).1 (zS W).1.2.2.2.2.2 c (rzC (zS W).1.2.1 b m (zE W).2.1 c)) = rsP (zVs W l.toNat) (zYs W y.toNat).2 (zYs W y.toNat).1 (zS W).1.2.2.2.2.2 (zS W).1.2.1 m (zE W).2.1 b := fun b hb => rs_link nc12 hb
              generalize rsP (zVs W l.toNat) (zYs W y.toNat).2 (zYs W y.toNat).1 (zS W).1.2.2.2.2.2 (zS W).1.2.1 m (zE W).2.1 = g at *
              have s1 : lsF (pkB k.toNat) g 0 1 = (-1, 0) := if_neg (fun g9 => absurd g9.1 (by unfold pkB; simp))
              suffices L : ∀ b : Nat, b ≤ 2 ^ (zE W).2.1 → 1 ≤ b → ∀ h x10, RS h1 h → en_V G Y_X11_raised (d + 9) wN wN K 106 [.ref 110, .int (iI ((l.toNat : Nat) : Int)), .int (iI ((y.toNat : Nat) : Int)), .int (iI k), .int (iI m), .int (iI w), .int (iI (lsF (pkB k.toNat) g 0 b).1), .int (iI (lsF (pkB k.toNat) g 0 b).2), .int (iI (sumTo (zE W).2.1 (zS W).1.2.2.1)), .int (iI (b : Int)), x10] [] h hl hr xc xs from by
                have := L 1 (Nat.one_le_two_pow) (Nat.le_refl _) h2 jk R2
                rw [s1] at this
                exact this
              refine lp (2 ^ (zE W).2.1) (fun _ h x10 R => ?_) (fun b hb ih hb1 h x10 R => ?_)
              · have Hy := Hend h _ R rfl
                apply s_X11_raised_106
                simp (disch := omega) only [B_X11_raised_106, r10, sh110, lt110, sh113, lt113, en_ops, en_opc, iI_add, iI_mul, iI_sub, jL_add, jL_mul, iI_le, iI_lt, iI_eq, iI_eq0, iI_lt0, iI_0le, iI_le0, iI_0lt, jL_iI, iI_jL, lc_eq, lc_lt, lc_le, lc_ge, lc_gt, Nat.sub_zero, Nat.zero_le, true_and, and_true, Nat.reduceAdd, Nat.reduceLeDiff]
                refine ⟨0, rfl, by decide, ?_⟩
                rw [R.2.1 0 (by omega), e0, shl_1 _ (by omega)]
                simp (disch := omega) only [en_ops, en_opc, iI_add, iI_mul, iI_sub, jL_add, jL_mul, iI_le, iI_lt, iI_eq, iI_eq0, iI_lt0, iI_0le, iI_le0, iI_0lt, jL_iI, iI_jL, lc_eq, lc_lt, lc_le, lc_ge, lc_gt, Nat.sub_zero, Nat.zero_le, true_and, and_true, Nat.reduceAdd, Nat.reduceLeDiff]
                refine ⟨fun _ => ⟨fun e6 => ?_, fun e6 => ?_⟩, fun e => absurd (Int.le_refl _) e⟩
                · rw [if_neg e6] at Hy; exact Hy
                · rw [if_pos e6] at Hy; exact Hy
              · have ih := ih (by omega)
                rw [gst b] at ih
                obtain ⟨⟨rl1, rl2⟩, rl3, rl4⟩ := rL b
                have grb := gr b
                have bc := bc_le (b := b)
                apply s_X11_raised_106
                simp (disch := omega) only [B_X11_raised_106, r10, sh110, lt110, sh113, lt113, en_ops, en_opc, iI_add, iI_mul, iI_sub, jL_add, jL_mul, iI_le, iI_lt, iI_eq, iI_eq0, iI_lt0, iI_0le, iI_le0, iI_0lt, jL_iI, iI_jL, lc_eq, lc_lt, lc_le, lc_ge, lc_gt, Nat.sub_zero, Nat.zero_le, true_and, and_true, Nat.reduceAdd, Nat.reduceLeDiff]
                refine ⟨0, rfl, by decide, ?_⟩
                rw [R.2.1 0 (by omega), e0, shl_1 _ (by omega)]
                simp (disch := omega) only [en_ops, en_opc, iI_add, iI_mul, iI_sub, jL_add, jL_mul, iI_le, iI_lt, iI_eq, iI_eq0, iI_lt0, iI_0le, iI_le0, iI_0lt, jL_iI, iI_jL, lc_eq, lc_lt, lc_le, lc_ge, lc_gt, Nat.sub_zero, Nat.zero_le, true_and, and_true, Nat.reduceAdd, Nat.reduceLeDiff]
                refine ⟨fun e => by omega, fun _ => m_ones (by omega) ?_⟩
                simp (disch := omega) only [en_ops, en_opc, iI_add, iI_mul, iI_sub, jL_add, jL_mul, iI_le, iI_lt, iI_eq, iI_eq0, iI_lt0, iI_0le, iI_le0, iI_0lt, jL_iI, iI_jL, lc_eq, lc_lt, lc_le, lc_ge, lc_gt, Nat.sub_zero, Nat.zero_le, true_and, and_true, Nat.reduceAdd, Nat.reduceLeDiff]
                have pk : pkB k.toNat b = true ↔ (bcN b : Int) = k := by
                  unfold pkB
                  rw [Bool.and_eq_true, decide_eq_true_iff, decide_eq_true_iff]
                  omega
                refine ⟨fun e6 => ?_, fun e6 => ?_⟩
                · have pb : pkB k.toNat b = true := pk.mpr e6
                  suffices L2 : ∀ c : Nat, c ≤ (zE W).2.1 → ∀ h9, Fr (· = 115) h h9 → rsH ((zS W).1.1, (fun j => if j < c ∧ b.testBit j = true then (zS W).1.2.1 j + m else (zS W).1.2.1 j), (zS W).1.2.2) h9 → en_V G Y_X11_raised (d + 9) wN wN K 134 [.ref 110, .int (iI ((l.toNat : Nat) : Int)), .int (iI ((y.toNat : Nat) : Int)), .int (iI k), .int (iI m), .int (iI w), .int (iI (lsF (pkB k.toNat) g 0 b).1), .int (iI (lsF (pkB k.toNat) g 0 b).2), .int (iI (sumTo (zE W).2.1 (zS W).1.2.2.1)), .int (iI (b : Int)), .int (iI (c : Int))] [] h9 hl hr xc xs from L2 0 (by omega) h Fr.rf (by
                    have e : (fun j => if j < 0 ∧ b.testBit j = true then (zS W).1.2.1 j + m else (zS W).1.2.1 j) = (zS W).1.2.1 := funext (fun j => if_neg (fun g9 => absurd g9.1 (Nat.not_lt_zero _)))
                    rw [e]; exact sQ h R)
                  refine lp (zE W).2.1 (fun h9 F9 q9 => ?_) (fun c hc ih2 h9 F9 q9 => ?_)
                  · have e9 : h9 113 0 = iI ((zE W).2.1 : Int) := by rw [F9 113 (by omega), R.2.1 0 (by omega)]; exact e0
                    have hcr : (fun j => if j < (zE W).2.1 ∧ b.testBit j = true then (zS W).1.2.1 j + m else (zS W).1.2.1 j) = rzC (zS W).1.2.1 b m (zE W).2.1 := rfl
                    rw [hcr] at q9
                    apply s_X11_raised_134
                    simp (disch := omega) only [B_X11_raised_134, r10, sh110, lt110, sh113, lt113, en_ops, en_opc, iI_add, iI_mul, iI_sub, jL_add, jL_mul, iI_le, iI_lt, iI_eq, iI_eq0, iI_lt0, iI_0le, iI_le0, iI_0lt, jL_iI, iI_jL, lc_eq, lc_lt, lc_le, lc_ge, lc_gt, Nat.sub_zero, Nat.zero_le, true_and, and_true, Nat.reduceAdd, Nat.reduceLeDiff]
                    refine ⟨0, rfl, by decide, ?_⟩
                    rw [e9]
                    simp (disch := omega) only [sh110, lt110, en_ops, en_opc, iI_add, iI_mul, iI_sub, jL_add, jL_mul, iI_le, iI_lt, iI_eq, iI_eq0, iI_lt0, iI_0le, iI_le0, iI_0lt, jL_iI, iI_jL, lc_eq, lc_lt, lc_le, lc_ge, lc_gt, Nat.sub_zero, Nat.zero_le, true_and, and_true, Nat.reduceAdd, Nat.reduceLeDiff]
                    refine ⟨fun _ => ?_, fun e => absurd (Int.le_refl _) e⟩
                    have O9 : hOK (eL W l.toNat) ((zS W).1.1, rzC (zS W).1.2.1 b m (zE W).2.1, (zS W).1.2.2) := by
                      obtain ⟨o1, o2, o3, o4⟩ := hO
                      refine ⟨o1, o2, fun c hc => ?_, o4⟩
                      have := x60 c hc
                      show 1 ≤ rzC (zS W).1.2.1 b m (zE W).2.1 c ∧ rzC (zS W).1.2.1 b m (zE W).2.1 c ≤ 1000
                      unfold rzC
                      split <;> omega
                    have bh : rfB b9 h9 := fun j hj => by rw [F9 113 (by omega)]; exact sB h R j hj
                    refine m_runs (d := d + 1) (b := b9) I1.1 hE bh b2' ((sV h R).mono (rwE.of (fun x g1 g2 => F9 x (by omega)))) q9 O9 hy4 ((sY h R).fr F9 (fun x g1 g2 g => by omega)) (fun h10 F10 q10 O10 s10 => ?_)
                    simp (disch := omega) only [sh110, lt110, en_ops, en_opc, iI_add, iI_mul, iI_sub, jL_add, jL_mul, iI_le, iI_lt, iI_eq, iI_eq0, iI_lt0, iI_0le, iI_le0, iI_0lt, jL_iI, iI_jL, lc_eq, lc_lt, lc_le, lc_ge, lc_gt, Nat.sub_zero, Nat.zero_le, true_and, and_true, Nat.reduceAdd, Nat.reduceLeDiff]
                    refine m_oversNow (d := d + 7) (b := b9) (ov := (yrP (eL W l.toNat) (zYs W y.toNat).2 (zYs W y.toNat).1 ((zS W).1.1, rzC (zS W).1.2.1 b m (zE W).2.1, (zS W).1.2.2)).2.2.1) I1.1 (fun j hj => by rw [F10 113 (by unfold Pmo; omega)]; exact bh j hj) b2.1 (fun c hc => q10.2.2.1 c hc) ?_
                    have es : sumTo (zE W).2.1 (yrP (eL W l.toNat) (zYs W y.toNat).2 (zYs W y.toNat).1 ((zS W).1.1, rzC (zS W).1.2.1 b m (zE W).2.1, (zS W).1.2.2)).2.2.1 = sumTo (zE W).2.1 (zS W).1.2.2.1 + g b := by
                      rw [← hgr b hb, ← sumTo_add]
                      refine sumTo_congr (fun c hc => ?_)
                      rw [lk_ov (E := eL W l.toNat) hc]
                      rfl
                    rw [es]
                    simp (disch := omega) only [sh110, lt110, en_ops, en_opc, iI_add, iI_mul, iI_sub, jL_add, jL_mul, iI_le, iI_lt, iI_eq, iI_eq0, iI_lt0, iI_0le, iI_le0, iI_0lt, jL_iI, iI_jL, lc_eq, lc_lt, lc_le, lc_ge, lc_gt, Nat.sub_zero, Nat.zero_le, true_and, and_true, Nat.reduceAdd, Nat.reduceLeDiff]
                    refine m_comesBack (d := d + 7) I1.1 (fun h11 F11 A11 => ?_)
                    have R11 : RS h1 h11 := R.bk (h2 := h10) (fun x g1 g2 g3 g4 => by rw [F10 x (fun q => by rcases q.v with q | q; exact g2 q; exact g4 q.1), F9 x g2]) (fun j hj => by rw [F10 113 (by unfold Pmo; omega), F9 113 (by omega)]) (by rw [F10 117 (by unfold Pmo; omega), F9 117 (by omega)]) F11 A11
                    generalize sumTo (zE W).2.1 (zS W).1.2.2.1 = S0 at *
                    rw [show S0 + g b - S0 = g b by omega]
                    simp (disch := omega) only [en_ops, en_opc, iI_add, iI_mul, iI_sub, jL_add, jL_mul, iI_le, iI_lt, iI_eq, iI_eq0, iI_lt0, iI_0le, iI_le0, iI_0lt, jL_iI, iI_jL, lc_eq, lc_lt, lc_le, lc_ge, lc_gt, Nat.sub_zero, Nat.zero_le, true_and, and_true, Nat.reduceAdd, Nat.reduceLeDiff]
                    refine ⟨fun e7 => ?_, fun e7 => ⟨fun e8 => ?_, fun e8 => ?_⟩⟩
                    · rw [if_pos ⟨pb, Or.inl e7⟩] at ih
                      exact ih h11 _ R11
                    · rw [if_pos ⟨pb, Or.inr e8⟩] at ih
                      exact ih h11 _ R11
                    · rw [if_neg (fun g9 => by rcases g9.2 with q | q <;> omega)] at ih
                      exact ih h11 _ R11
                  · have e9 : h9 113 0 = iI ((zE W).2.1 : Int) := by rw [F9 113 (by omega), R.2.1 0 (by omega)]; exact e0
                    have ecr : h9 115 (576 + c) = iI ((zS W).1.2.1 c) := by
                      have := q9.2.1 c (by omega)
                      rw [show (((zS W).1.1, (fun j => if j < c ∧ b.testBit j = true then (zS W).1.2.1 j + m else (zS W).1.2.1 j), (zS W).1.2.2) : hSt).2.1 c = if c < c ∧ b.testBit c = true then (zS W).1.2.1 c + m else (zS W).1.2.1 c from rfl, if_neg (fun g9 => absurd g9.1 (Nat.lt_irrefl c))] at this
                      exact this
                    apply s_X11_raised_134
                    cases hbit : b.testBit c
                    · simp (disch := omega) only [B_X11_raised_134, r10, r12, sh110, lt110, sh113, lt113, sh115, lt115, sh_0 (show c < 32 by omega) hbit, en_ops, en_opc, iI_add, iI_mul, iI_sub, jL_add, jL_mul, iI_le, iI_lt, iI_eq, iI_eq0, iI_lt0, iI_0le, iI_le0, iI_0lt, jL_iI, iI_jL, lc_eq, lc_lt, lc_le, lc_ge, lc_gt, Nat.sub_zero, Nat.zero_le, true_and, and_true, Nat.reduceAdd, Nat.reduceLeDiff]
                      refine ⟨0, rfl, by decide, ?_⟩
                      rw [e9]
                      simp (disch := omega) only [en_ops, en_opc, iI_add, iI_mul, iI_sub, jL_add, jL_mul, iI_le, iI_lt, iI_eq, iI_eq0, iI_lt0, iI_0le, iI_le0, iI_0lt, jL_iI, iI_jL, lc_eq, lc_lt, lc_le, lc_ge, lc_gt, Nat.sub_zero, Nat.zero_le, true_and, and_true, Nat.reduceAdd, Nat.reduceLeDiff]
                      refine ⟨fun e => by omega, fun _ => ⟨576 + c, iI_eq_of (by omega), by omega, ?_⟩⟩
                      rw [ecr]
                      simp (disch := omega) only [en_ops, en_opc, iI_add, iI_mul, iI_sub, jL_add, jL_mul, iI_le, iI_lt, iI_eq, iI_eq0, iI_lt0, iI_0le, iI_le0, iI_0lt, jL_iI, iI_jL, lc_eq, lc_lt, lc_le, lc_ge, lc_gt, Nat.sub_zero, Nat.zero_le, true_and, and_true, Nat.reduceAdd, Nat.reduceLeDiff]
                      refine ⟨fun _ => ⟨576 + c, iI_eq_of (by omega), by omega, ih2 _ (Fr.up F9 rfl) (q9.cr (by omega) (fun j hj => ?_))⟩, fun e => absurd e (by decide)⟩
                      by_cases q : j = c
                      · subst q; rw [if_pos rfl, if_neg (fun g9 => by rw [hbit] at g9; exact absurd g9.2 (by decide)), Int.add_zero]
                      · rw [if_neg q]
                        by_cases q2 : j < c ∧ b.testBit j = true
                        · rw [if_pos ⟨by omega, q2.2⟩, if_pos q2]
                        · rw [if_neg (fun g9 => q2 ⟨by omega, g9.2⟩), if_neg q2]
                    · simp (disch := omega) only [B_X11_raised_134, r10, r12, sh110, lt110, sh113, lt113, sh115, lt115, sh_1 (show c < 32 by omega) hbit, en_ops, en_opc, iI_add, iI_mul, iI_sub, jL_add, jL_mul, iI_le, iI_lt, iI_eq, iI_eq0, iI_lt0, iI_0le, iI_le0, iI_0lt, jL_iI, iI_jL, lc_eq, lc_lt, lc_le, lc_ge, lc_gt, Nat.sub_zero, Nat.zero_le, true_and, and_true, Nat.reduceAdd, Nat.reduceLeDiff]
                      refine ⟨0, rfl, by decide, ?_⟩
                      rw [e9]
                      simp (disch := omega) only [en_ops, en_opc, iI_add, iI_mul, iI_sub, jL_add, jL_mul, iI_le, iI_lt, iI_eq, iI_eq0, iI_lt0, iI_0le, iI_le0, iI_0lt, jL_iI, iI_jL, lc_eq, lc_lt, lc_le, lc_ge, lc_gt, Nat.sub_zero, Nat.zero_le, true_and, and_true, Nat.reduceAdd, Nat.reduceLeDiff]
                      refine ⟨fun e => by omega, fun _ => ⟨576 + c, iI_eq_of (by omega), by omega, ?_⟩⟩
                      rw [ecr]
                      simp (disch := omega) only [en_ops, en_opc, iI_add, iI_mul, iI_sub, jL_add, jL_mul, iI_le, iI_lt, iI_eq, iI_eq0, iI_lt0, iI_0le, iI_le0, iI_0lt, jL_iI, iI_jL, lc_eq, lc_lt, lc_le, lc_ge, lc_gt, Nat.sub_zero, Nat.zero_le, true_and, and_true, Nat.reduceAdd, Nat.reduceLeDiff]
                      refine ⟨fun e => (e (by first | trivial | rfl)).elim, fun _ => ⟨576 + c, iI_eq_of (by omega), by omega, ih2 _ (Fr.up F9 rfl) (q9.cr (by omega) (fun j hj => ?_))⟩⟩
                      by_cases q : j = c
                      · subst q; rw [if_pos rfl, if_pos ⟨by omega, hbit⟩]
                      · rw [if_neg q]
                        by_cases q2 : j < c ∧ b.testBit j = true
                        · rw [if_pos ⟨by omega, q2.2⟩, if_pos q2]
                        · rw [if_neg (fun g9 => q2 ⟨by omega, g9.2⟩), if_neg q2]
                · rw [if_neg (fun g9 => e6 (pk.mp g9.1))] at ih
                  exact ih h _ R
            · simp (disch := omega) only [en_ops, en_opc, iI_add, iI_mul, iI_sub, jL_add, jL_mul, iI_le, iI_lt, iI_eq, iI_eq0, iI_lt0, iI_0le, iI_le0, iI_0lt, jL_iI, iI_jL, lc_eq, lc_lt, lc_le, lc_ge, lc_gt, Nat.sub_zero, Nat.zero_le, true_and, and_true, Nat.reduceAdd, Nat.reduceLeDiff]
              exact ⟨fun e => (e (by first | trivial | rfl)).elim, fun _ => H.no F1 (k := 3) (by omega) (by rw [if_pos e1, if_pos e2, if_pos e3, if_neg e]) I' F' (by rw [if_pos e1, if_pos e2, if_pos e3]; exact T')⟩
          · rw [if_neg q3]
            simp (disch := omega) only [sh110, lt110, en_ops, en_opc, iI_add, iI_mul, iI_sub, jL_add, jL_mul, iI_le, iI_lt, iI_eq, iI_eq0, iI_lt0, iI_0le, iI_le0, iI_0lt, jL_iI, iI_jL, lc_eq, lc_lt, lc_le, lc_ge, lc_gt, Nat.sub_zero, Nat.zero_le, true_and, and_true, Nat.reduceAdd, Nat.reduceLeDiff]
            exact ⟨fun _ => no3 (fun g => q3 g.2.2.2), fun e => (e (by first | trivial | rfl)).elim⟩
        · rw [if_neg q2]
          simp (disch := omega) only [sh110, lt110, en_ops, en_opc, iI_add, iI_mul, iI_sub, jL_add, jL_mul, iI_le, iI_lt, iI_eq, iI_eq0, iI_lt0, iI_0le, iI_le0, iI_0lt, jL_iI, iI_jL, lc_eq, lc_lt, lc_le, lc_ge, lc_gt, Nat.sub_zero, Nat.zero_le, true_and, and_true, Nat.reduceAdd, Nat.reduceLeDiff]
          exact ⟨fun _ => no3 (fun g => q2 g.2.2.1), fun e => (e (by first | trivial | rfl)).elim⟩
      · rw [if_neg q0]
        simp (disch := omega) only [sh110, lt110, en_ops, en_opc, iI_add, iI_mul, iI_sub, jL_add, jL_mul, iI_le, iI_lt, iI_eq, iI_eq0, iI_lt0, iI_0le, iI_le0, iI_0lt, jL_iI, iI_jL, lc_eq, lc_lt, lc_le, lc_ge, lc_gt, Nat.sub_zero, Nat.zero_le, true_and, and_true, Nat.reduceAdd, Nat.reduceLeDiff]
        exact ⟨fun _ => no3 (fun g => q0 g.1), fun e => (e (by first | trivial | rfl)).elim⟩
    · simp (disch := omega) only [en_ops, en_opc, iI_add, iI_mul, iI_sub, jL_add, jL_mul, iI_le, iI_lt, iI_eq, iI_eq0, iI_lt0, iI_0le, iI_le0, iI_0lt, jL_iI, iI_jL, lc_eq, lc_lt, lc_le, lc_ge, lc_gt, Nat.sub_zero, Nat.zero_le, true_and, and_true, Nat.reduceAdd, Nat.reduceLeDiff]
      exact ⟨fun _ => H.no F1 (k := 1) (by omega) (by rw [if_pos e1, if_neg e]) I' F' (by rw [if_pos e1, if_neg e]; exact T'), fun e => (e (by first | trivial | rfl)).elim⟩
  · simp (disch := omega) only [en_ops, en_opc, iI_add, iI_mul, iI_sub, jL_add, jL_mul, iI_le, iI_lt, iI_eq, iI_eq0, iI_lt0, iI_0le, iI_le0, iI_0lt, jL_iI, iI_jL, lc_eq, lc_lt, lc_le, lc_ge, lc_gt, Nat.sub_zero, Nat.zero_le, true_and, and_true, Nat.reduceAdd, Nat.reduceLeDiff]
    exact ⟨fun _ => H.no F1 (k := 1) (by omega) (by rw [if_neg e]) I' F' (by rw [if_neg e]; exact T'), fun e => (e (by first | trivial | rfl)).elim⟩
end
