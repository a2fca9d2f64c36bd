section
variable {G : en_G} {d : Nat} {K : en_K} {W : zW} {n : Nat} {hi : en_I} {hl : en_L} {hr : en_F} {xc xs : Nat}
/-- the state between trials of walls -/
def WS (nc : Nat) (h1 h : en_I) : Prop := (∀ x, x ≠ 113 → x ≠ 115 → ¬ Psr x → h x = h1 x) ∧ (∀ j, j < 76 → j < 52 ∨ 52 + nc ≤ j + 1 → h 113 j = h1 113 j) ∧ (∀ j, j < 24 → h 132 j = h1 113 (52 + j)) ∧ (∀ j, j < 834 → h 117 j = h1 115 j) ∧ ∀ j, j < 834 → h 115 j = h1 115 j
theorem m_cwalls {l y k p c w : Int} (hI : InvR G W hi hr) (hz : zOK n W) (hn : n ≤ 512) (hlr : iRg l) (hyr : iRg y) (hk : iRg k) (hp : iRg p) (hc : iRg c) (hw : iRg w) (H : rEnd G W W (if inC W c then if inL W l then if inY W y then if (1 ≤ k ∧ k ≤ 3) ∧ (k ≤ (zE W).2.1 - 1) ∧ (1 ≤ p ∧ p ≤ 16) ∧ (0 ≤ w ∧ w ≤ 1) then if isNow W then 0 else 4 else 3 else 2 else 2 else 1) (if inC W c then if inL W l then if inY W y then if (1 ≤ k ∧ k ≤ 3) ∧ (k ≤ (zE W).2.1 - 1) ∧ (1 ≤ p ∧ p ≤ 16) ∧ (0 ≤ w ∧ w ≤ 1) then 4 else 3 else 2 else 2 else 1) (.int (iI 0)) (.int (iI (if w = 0 then (gtF (pkB k.toNat) (wbG (eL W l.toNat) (zYs W y.toNat).2 (zYs W y.toNat).1 p c.toNat (zS W).1) 0 (2 ^ ((zE W).2.1 - 1))).1 else (gtF (pkB k.toNat) (wbG (eL W l.toNat) (zYs W y.toNat).2 (zYs W y.toNat).1 p c.toNat (zS W).1) 0 (2 ^ ((zE W).2.1 - 1))).2))) K hi hl hr) : en_Call G (d + 9) xc xs Y_X11_walls wN wN [.ref 110, .int (iI l), .int (iI y), .int (iI k), .int (iI p), .int (iI c), .int (iI w)] hi hl hr K := by
  obtain ⟨I1, F1, T1⟩ := hI.t1
  obtain ⟨⟨-, -, r10, -, r12, -⟩, -⟩ := id I1.1
  obtain ⟨nc12, nz6⟩ := hz.c
  have nl4 := hz.2.1
  have ny4 := hz.2.2.1
  apply en_X11_walls
  simp (disch := omega) only [B_X11_walls_0, sh110, lt110, en_ops, en_opc, iI_add, iI_mul, iI_sub, jL_add, jL_mul, iI_le, iI_lt, iI_eq, iI_eq0, iI_lt0, iI_0le, iI_le0, iI_0lt, jL_iI, iI_jL, lc_eq, lc_lt, lc_le, lc_ge, lc_gt, Nat.sub_zero, Nat.zero_le, true_and, and_true, Nat.reduceAdd, Nat.reduceLeDiff]
  generalize en_up hi 110 0 (iI 0) = h1 at *
  obtain ⟨b9, b1, b2⟩ := I1.e
  have e0 : h1 113 0 = iI ((zE W).2.1 : Int) := by rw [b1 0 (by omega), b2.1.1]
  refine m_isCell (d := d + 6) (code := 1) I1 hz T1 hc (by omega) (fun e1 => ?_) (fun e hi' I' F' T' => ?_)
  · simp (disch := omega) only [sh110, lt110, en_ops, en_opc, iI_add, iI_mul, iI_sub, jL_add, jL_mul, iI_le, iI_lt, iI_eq, iI_eq0, iI_lt0, iI_0le, iI_le0, iI_0lt, jL_iI, iI_jL, lc_eq, lc_lt, lc_le, lc_ge, lc_gt, Nat.sub_zero, Nat.zero_le, true_and, and_true, Nat.reduceAdd, Nat.reduceLeDiff]
    refine ⟨fun e => absurd e (by decide), fun _ => m_isLaw (d := d + 6) (code := 2) I1 hz T1 hlr (by omega) (fun e2 => ?_) (fun e hi' I' F' T' => ?_)⟩
    · simp (disch := omega) only [sh110, lt110, en_ops, en_opc, iI_add, iI_mul, iI_sub, jL_add, jL_mul, iI_le, iI_lt, iI_eq, iI_eq0, iI_lt0, iI_0le, iI_le0, iI_0lt, jL_iI, iI_jL, lc_eq, lc_lt, lc_le, lc_ge, lc_gt, Nat.sub_zero, Nat.zero_le, true_and, and_true, Nat.reduceAdd, Nat.reduceLeDiff]
      refine ⟨fun e => absurd e (by decide), fun _ => m_isYear (d := d + 6) (code := 2) I1 hz T1 hyr (by omega) (fun e3 => ?_) (fun e hi' I' F' T' => ?_)⟩
      · simp (disch := omega) only [sh110, lt110, en_ops, en_opc, iI_add, iI_mul, iI_sub, jL_add, jL_mul, iI_le, iI_lt, iI_eq, iI_eq0, iI_lt0, iI_0le, iI_le0, iI_0lt, jL_iI, iI_jL, lc_eq, lc_lt, lc_le, lc_ge, lc_gt, Nat.sub_zero, Nat.zero_le, true_and, and_true, Nat.reduceAdd, Nat.reduceLeDiff]
        have no4 : ¬ ((1 ≤ k ∧ k ≤ 3) ∧ (k ≤ (zE W).2.1 - 1) ∧ (1 ≤ p ∧ p ≤ 16) ∧ (0 ≤ w ∧ w ≤ 1)) → en_V G Y_X11_walls (d + 9) wN wN K 78 [.ref 110, .int (iI l), .int (iI y), .int (iI k), .int (iI p), .int (iI c), .int (iI w), jk, jk, jk, jk] [.ref 110] h1 hl hr xc xs := fun e => by
          apply s_X11_walls_78
          simp (disch := omega) only [B_X11_walls_78, sh110, lt110, en_ops, en_opc, iI_add, iI_mul, iI_sub, jL_add, jL_mul, iI_le, iI_lt, iI_eq, iI_eq0, iI_lt0, iI_0le, iI_le0, iI_0lt, jL_iI, iI_jL, lc_eq, lc_lt, lc_le, lc_ge, lc_gt, Nat.sub_zero, Nat.zero_le, true_and, and_true, Nat.reduceAdd, Nat.reduceLeDiff]
          refine m_may (d := d + 7) (code := 3) (k := 2) I1 T1 (Or.inl rfl) (by omega) (by omega) (fun e => absurd e (by decide)) (fun _ hi' I' F' T' => ?_)
          simp (disch := omega) only [en_ops, en_opc, iI_add, iI_mul, iI_sub, jL_add, jL_mul, iI_le, iI_lt, iI_eq, iI_eq0, iI_lt0, iI_0le, iI_le0, iI_0lt, jL_iI, iI_jL, lc_eq, lc_lt, lc_le, lc_ge, lc_gt, Nat.sub_zero, Nat.zero_le, true_and, and_true, Nat.reduceAdd, Nat.reduceLeDiff]
          exact ⟨fun _ => H.no F1 (k := 2) (by omega) (by rw [if_pos e1, if_pos e2, if_pos e3, if_neg e]) I' F' (by rw [if_pos e1, if_pos e2, if_pos e3, if_neg e]; exact T'), fun e => (e (by first | trivial | rfl)).elim⟩
        refine ⟨fun e => absurd e (by decide), fun _ => m_within hk.1 hk.2 (by decide) (by decide) (by decide) (by decide) ?_⟩
        by_cases q0 : 1 ≤ k ∧ k ≤ 3
        · rw [if_pos q0]
          simp (disch := omega) only [r10, sh110, lt110, sh113, lt113, en_ops, en_opc, iI_add, iI_mul, iI_sub, jL_add, jL_mul, iI_le, iI_lt, iI_eq, iI_eq0, iI_lt0, iI_0le, iI_le0, iI_0lt, jL_iI, iI_jL, lc_eq, lc_lt, lc_le, lc_ge, lc_gt, Nat.sub_zero, Nat.zero_le, true_and, and_true, Nat.reduceAdd, Nat.reduceLeDiff]
          refine ⟨fun e => absurd e (by decide), fun _ => ?_⟩
          refine ⟨0, rfl, by decide, ?_⟩
          rw [e0]
          simp (disch := omega) only [en_ops, en_opc, iI_add, iI_mul, iI_sub, jL_add, jL_mul, iI_le, iI_lt, iI_eq, iI_eq0, iI_lt0, iI_0le, iI_le0, iI_0lt, jL_iI, iI_jL, lc_eq, lc_lt, lc_le, lc_ge, lc_gt, Nat.sub_zero, Nat.zero_le, true_and, and_true, Nat.reduceAdd, Nat.reduceLeDiff]
          refine ⟨fun e => no4 (fun g => by have := g.2.1; omega), fun q1 => ?_⟩
          have q1 : k ≤ (zE W).2.1 - 1 := by omega
          refine m_within hp.1 hp.2 (by decide) (by decide) (by decide) (by decide) ?_
          by_cases q2 : 1 ≤ p ∧ p ≤ 16
          · rw [if_pos q2]
            simp (disch := omega) only [r10, sh110, lt110, sh113, lt113, en_ops, en_opc, iI_add, iI_mul, iI_sub, jL_add, jL_mul, iI_le, iI_lt, iI_eq, iI_eq0, iI_lt0, iI_0le, iI_le0, iI_0lt, jL_iI, iI_jL, lc_eq, lc_lt, lc_le, lc_ge, lc_gt, Nat.sub_zero, Nat.zero_le, true_and, and_true, Nat.reduceAdd, Nat.reduceLeDiff]
            refine ⟨fun e => absurd e (by decide), fun _ => m_within hw.1 hw.2 (by decide) (by decide) (by decide) (by decide) ?_⟩
            by_cases q3 : 0 ≤ w ∧ w ≤ 1
            · rw [if_pos q3]
              simp (disch := omega) only [r10, sh110, lt110, sh113, lt113, en_ops, en_opc, iI_add, iI_mul, iI_sub, jL_add, jL_mul, iI_le, iI_lt, iI_eq, iI_eq0, iI_lt0, iI_0le, iI_le0, iI_0lt, jL_iI, iI_jL, lc_eq, lc_lt, lc_le, lc_ge, lc_gt, Nat.sub_zero, Nat.zero_le, true_and, and_true, Nat.reduceAdd, Nat.reduceLeDiff]
              have e4 : (1 ≤ k ∧ k ≤ 3) ∧ (k ≤ (zE W).2.1 - 1) ∧ (1 ≤ p ∧ p ≤ 16) ∧ (0 ≤ w ∧ w ≤ 1) := ⟨q0, q1, q2, q3⟩
              refine ⟨fun e => absurd e (by decide), fun _ => m_may (d := d + 7) (code := 3) (k := 2) I1 T1 (Or.inr rfl) (by omega) (by omega) (fun _ => ?_) (fun e => absurd e (by decide))⟩
              simp (disch := omega) only [sh110, lt110, en_ops, en_opc, iI_add, iI_mul, iI_sub, jL_add, jL_mul, iI_le, iI_lt, iI_eq, iI_eq0, iI_lt0, iI_0le, iI_le0, iI_0lt, jL_iI, iI_jL, lc_eq, lc_lt, lc_le, lc_ge, lc_gt, Nat.sub_zero, Nat.zero_le, true_and, and_true, Nat.reduceAdd, Nat.reduceLeDiff]
              refine ⟨fun e => absurd e (by decide), fun _ => m_isNow (d := d + 6) (code := 4) I1 hz T1 (by omega) (fun e5 => ?_) (fun e hi' I' F' T' => ?_)⟩
              · simp (disch := omega) only [sh110, lt110, en_ops, en_opc, iI_add, iI_mul, iI_sub, jL_add, jL_mul, iI_le, iI_lt, iI_eq, iI_eq0, iI_lt0, iI_0le, iI_le0, iI_0lt, jL_iI, iI_jL, lc_eq, lc_lt, lc_le, lc_ge, lc_gt, Nat.sub_zero, Nat.zero_le, true_and, and_true, Nat.reduceAdd, Nat.reduceLeDiff]
                have Hx := H.1 (by rw [if_pos e1, if_pos e2, if_pos e3, if_pos e4, if_pos e5])
                obtain ⟨hE, -, hV, hq, hO⟩ := InvR.gol (l := l.toNat) I1 hz hn (by omega) e5.1
                obtain ⟨hy4, hY⟩ := InvR.yr (y := y.toNat) I1 hz (by omega)
                have b2' : rbE (eL W l.toNat) b9 := b2
                have sB : ∀ h, RS h1 h → rfB b9 h := fun h R j hj => by rw [R.2.1 j hj]; exact b1 j hj
                have sV : ∀ h, RS h1 h → rwV G l.toNat (eL W l.toNat).1 h := fun h R => hV.mono (rwE.of (fun x g1 g2 => by rw [R.1 x (by omega) (by omega) (by unfold Psr; omega)]))
                have sY : ∀ h, RS h1 h → ryH y.toNat (zYs W y.toNat).1 (zYs W y.toNat).2 h := fun h R => (InvR.yr (I1.rs hz R) hz (by omega)).2
                have sQ : ∀ h, RS h1 h → rsH (zS W).1 h := fun h R => (I1.rs hz R).xr.1
                rw [show iI l = iI ((l.toNat : Nat) : Int) from iI_eq_of (by omega), show iI y = iI ((y.toNat : Nat) : Int) from iI_eq_of (by omega)]
                rw [show iI c = iI ((c.toNat : Nat) : Int) from iI_eq_of (by omega)]
                refine ⟨fun _ => ?_, fun e => absurd e (by decide)⟩
                obtain ⟨⟨-, -, -, -, -, -⟩, -, -, -, -, -, -, -, -, r33⟩ := id I1.1
                have sh132 : (en_SH 132).1 = 100 ∧ (en_SH 132).2 = 24 := by decide
                have lt132 : 132 < 134 := by decide
                have wlr := hE.2.1
                have k1 := e4.1
                have k2 := e4.2.1
                have hNC : 2 ≤ (zE W).2.1 := by omega
                suffices M : ∀ h, WS (zE W).2.1 h1 h → en_V G Y_X11_walls (d + 9) wN wN K 143 [.ref 110, .int (iI ((l.toNat : Nat) : Int)), .int (iI ((y.toNat : Nat) : Int)), .int (iI k), .int (iI p), .int (iI ((c.toNat : Nat) : Int)), .int (iI w), .int (iI (-1)), .int (iI 0), .int (iI 1), jk] [] h hl hr xc xs from by
                  suffices L0 : ∀ i : Nat, i ≤ 24 → ∀ h, Fr (· = 132) h1 h → (∀ j, j < i → h 132 j = h1 113 (52 + j)) → en_V G Y_X11_walls (d + 9) wN wN K 100 [.ref 110, .int (iI ((l.toNat : Nat) : Int)), .int (iI ((y.toNat : Nat) : Int)), .int (iI k), .int (iI p), .int (iI ((c.toNat : Nat) : Int)), .int (iI w), .int (iI (i : Int)), jk, jk, jk] [] h hl hr xc xs from L0 0 (by omega) h1 Fr.rf (fun j hj => absurd hj (Nat.not_lt_zero _))
                  refine lp 24 (fun h F A => ?_) (fun i hi9 ih h F A => ?_)
                  · apply s_X11_walls_100
                    simp (disch := omega) only [B_X11_walls_100, sh110, lt110, en_ops, en_opc, iI_add, iI_mul, iI_sub, jL_add, jL_mul, iI_le, iI_lt, iI_eq, iI_eq0, iI_lt0, iI_0le, iI_le0, iI_0lt, jL_iI, iI_jL, lc_eq, lc_lt, lc_le, lc_ge, lc_gt, Nat.sub_zero, Nat.zero_le, true_and, and_true, Nat.reduceAdd, Nat.reduceLeDiff]
                    refine ⟨fun _ => m_keeps (d := d + 7) I1.1 (fun h2 F2 A2 => ?_), fun e => absurd (show (24 : Int) ≤ ((24 : Nat) : Int) by omega) e⟩
                    simp (disch := omega) only [en_ops, en_opc, iI_add, iI_mul, iI_sub, jL_add, jL_mul, iI_le, iI_lt, iI_eq, iI_eq0, iI_lt0, iI_0le, iI_le0, iI_0lt, jL_iI, iI_jL, lc_eq, lc_lt, lc_le, lc_ge, lc_gt, Nat.sub_zero, Nat.zero_le, true_and, and_true, Nat.reduceAdd, Nat.reduceLeDiff]
                    refine M h2 ⟨fun x g1 g2 g3 => by rw [F2 x (fun g => g3 (by unfold Psr; omega)), F x (fun g => g3 (by unfold Psr; omega))], fun j _ _ => by rw [F2 113 (by omega), F 113 (by omega)], fun j hj => by rw [F2 132 (by omega)]; exact A j hj, fun j hj => by rw [A2 j hj, F 115 (by omega)], fun j _ => by rw [F2 115 (by omega), F 115 (by omega)]⟩
                  · apply s_X11_walls_100
                    simp (disch := omega) only [B_X11_walls_100, r10, r33, sh110, lt110, sh113, lt113, en_ops, en_opc, iI_add, iI_mul, iI_sub, jL_add, jL_mul, iI_le, iI_lt, iI_eq, iI_eq0, iI_lt0, iI_0le, iI_le0, iI_0lt, jL_iI, iI_jL, lc_eq, lc_lt, lc_le, lc_ge, lc_gt, Nat.sub_zero, Nat.zero_le, true_and, and_true, Nat.reduceAdd, Nat.reduceLeDiff]
                    refine ⟨fun e => by omega, fun _ => ⟨52 + i, iI_eq_of (by omega), by omega, i, rfl, by rw [sh132.2]; omega, ⟨sh132.1, by decide⟩, ih _ (Fr.up F rfl) (fun j hj => ?_)⟩⟩
                    by_cases q : j = i
                    · rw [q, up_at, F 113 (by omega)]
                    · rw [up_ne (Or.inr q)]; exact A j (by omega)
                intro h0 W0
                have p2 : 2 ^ ((zE W).2.1 - 1) ≤ 2048 := Nat.pow_le_pow_right (n := 2) (i := (zE W).2.1 - 1) (j := 11) (by decide) (by omega)
                have Hend : ∀ h9 (s : Int × Int), RS h1 h9 → s = gtF (pkB k.toNat) (wbG (eL W l.toNat) (zYs W y.toNat).2 (zYs W y.toNat).1 p c.toNat (zS W).1) 0 (2 ^ ((zE W).2.1 - 1)) → K (.inl (some (.int (iI (if w = 0 then s.1 else s.2))))) h9 hl hr := fun h9 s R9 hs => by
                  subst hs
                  exact Hx h9 (I1.rs hz R9) (F1.tr R9.m) (R9.t T1)
                have gst : ∀ b : Nat, gtF (pkB k.toNat) (wbG (eL W l.toNat) (zYs W y.toNat).2 (zYs W y.toNat).1 p c.toNat (zS W).1) 0 (b + 1) = if pkB k.toNat b = true ∧ ((gtF (pkB k.toNat) (wbG (eL W l.toNat) (zYs W y.toNat).2 (zYs W y.toNat).1 p c.toNat (zS W).1) 0 b).1 = -1 ∨ (gtF (pkB k.toNat) (wbG (eL W l.toNat) (zYs W y.toNat).2 (zYs W y.toNat).1 p c.toNat (zS W).1) 0 b).2 < (wbG (eL W l.toNat) (zYs W y.toNat).2 (zYs W y.toNat).1 p c.toNat (zS W).1) b) then ((b : Int), (wbG (eL W l.toNat) (zYs W y.toNat).2 (zYs W y.toNat).1 p c.toNat (zS W).1) b) else gtF (pkB k.toNat) (wbG (eL W l.toNat) (zYs W y.toNat).2 (zYs W y.toNat).1 p c.toNat (zS W).1) 0 b := fun b => rfl
                have hG : ∀ b, (wbG (eL W l.toNat) (zYs W y.toNat).2 (zYs W y.toNat).1 p c.toNat (zS W).1) b = wP (yrP (wlE (eL W l.toNat) (bwP (zE W).2.1 b p (zE W).2.2.2.1)) (zYs W y.toNat).2 (zYs W y.toNat).1 (zS W).1).1 (zE W).2.2.1 c.toNat := fun b => rfl
                have gr : ∀ (b : Nat) (q : hSt), fB (zE W).2.1 (zE W).2.2.1 q.1 → 0 ≤ wP q.1 (zE W).2.2.1 c.toNat ∧ wP q.1 (zE W).2.2.1 c.toNat ≤ 10000000 := fun b q hf => ⟨wP_nn hf _, wP_le hf nz6 (by omega)⟩
                have w113 : ∀ j, j < 12 → h1 113 (52 + j) = iI ((zE W).2.2.2.1 j) := fun j hj => by rw [b1 _ (by omega), b2.2.1 j hj]
                generalize hgg : (wbG (eL W l.toNat) (zYs W y.toNat).2 (zYs W y.toNat).1 p c.toNat (zS W).1) = g at *
                have s1 : gtF (pkB k.toNat) g 0 1 = (-1, 0) := if_neg (fun g9 => absurd g9.1 (by unfold pkB; simp))
                have u0 : ∀ h, WS (zE W).2.1 h1 h → h 113 0 = iI ((zE W).2.1 : Int) := fun h V => by rw [V.2.1 0 (by omega) (by omega)]; exact e0
                suffices L : ∀ b : Nat, b ≤ 2 ^ ((zE W).2.1 - 1) → 1 ≤ b → ∀ h x10, WS (zE W).2.1 h1 h → (0 ≤ (gtF (pkB k.toNat) g 0 b).2 ∧ (gtF (pkB k.toNat) g 0 b).2 ≤ 10000000) → (-1 ≤ (gtF (pkB k.toNat) g 0 b).1 ∧ (gtF (pkB k.toNat) g 0 b).1 < b) → en_V G Y_X11_walls (d + 9) wN wN K 143 [.ref 110, .int (iI ((l.toNat : Nat) : Int)), .int (iI ((y.toNat : Nat) : Int)), .int (iI k), .int (iI p), .int (iI ((c.toNat : Nat) : Int)), .int (iI w), .int (iI (gtF (pkB k.toNat) g 0 b).1), .int (iI (gtF (pkB k.toNat) g 0 b).2), .int (iI (b : Int)), x10] [] h hl hr xc xs from by
                  have := L 1 (Nat.one_le_two_pow) (Nat.le_refl _) h0 jk W0 (by rw [s1]; exact ⟨Int.le_refl _, by show (0 : Int) ≤ 10000000; omega⟩) (by rw [s1]; exact ⟨Int.le_refl _, by show (-1 : Int) < 1; omega⟩)
                  rw [s1] at this
                  exact this
                have ncc : ((zE W).2.1 : Int) - 1 = (((zE W).2.1 - 1 : Nat) : Int) := by omega
                refine lp (2 ^ ((zE W).2.1 - 1)) (fun _ h x10 V r2 r1 => ?_) (fun b hb ih hb1 h x10 V r2 r1 => ?_)
                · apply s_X11_walls_143
                  simp (disch := omega) only [B_X11_walls_143, r10, sh110, lt110, sh113, lt113, en_ops, en_opc, iI_add, iI_mul, iI_sub, jL_add, jL_mul, iI_le, iI_lt, iI_eq, iI_eq0, iI_lt0, iI_0le, iI_le0, iI_0lt, jL_iI, iI_jL, lc_eq, lc_lt, lc_le, lc_ge, lc_gt, Nat.sub_zero, Nat.zero_le, true_and, and_true, Nat.reduceAdd, Nat.reduceLeDiff]
                  refine ⟨0, rfl, by decide, ?_⟩
                  rw [u0 h V, iI_sub, ncc, shl_1 _ (by omega)]
                  simp (disch := omega) only [en_ops, en_opc, iI_add, iI_mul, iI_sub, jL_add, jL_mul, iI_le, iI_lt, iI_eq, iI_eq0, iI_lt0, iI_0le, iI_le0, iI_0lt, jL_iI, iI_jL, lc_eq, lc_lt, lc_le, lc_ge, lc_gt, Nat.sub_zero, Nat.zero_le, true_and, and_true, Nat.reduceAdd, Nat.reduceLeDiff]
                  refine ⟨fun _ => ?_, fun e => absurd (Int.le_refl _) e⟩
                  suffices L9 : ∀ i : Nat, i ≤ 24 → ∀ h9, Fr (· = 113) h h9 → (∀ j, j < 76 → (j < 52 ∨ j < 52 + i ∨ 52 + (zE W).2.1 ≤ j + 1) → h9 113 j = h1 113 j) → en_V G Y_X11_walls (d + 9) wN wN K 277 [.ref 110, .int (iI ((l.toNat : Nat) : Int)), .int (iI ((y.toNat : Nat) : Int)), .int (iI k), .int (iI p), .int (iI ((c.toNat : Nat) : Int)), .int (iI w), .int (iI (gtF (pkB k.toNat) g 0 (2 ^ ((zE W).2.1 - 1))).1), .int (iI (gtF (pkB k.toNat) g 0 (2 ^ ((zE W).2.1 - 1))).2), .int (iI (i : Int)), x10] [] h9 hl hr xc xs from L9 0 (by omega) h Fr.rf (fun j hj g9 => V.2.1 j hj (by omega))
                  refine lp 24 (fun h9 F9 A9 => ?_) (fun i hi9 ih9 h9 F9 A9 => ?_)
                  · have R9 : RS h1 h9 := ⟨fun x g1 g2 g3 => by rw [F9 x g1]; exact V.1 x g1 g2 g3, fun j hj => A9 j hj (by omega), fun j hj => by rw [F9 117 (by omega)]; exact V.2.2.2.1 j hj, fun j hj => by rw [F9 115 (by omega)]; exact V.2.2.2.2 j hj⟩
                    have Hy := Hend h9 _ R9 rfl
                    apply s_X11_walls_277
                    simp (disch := omega) only [B_X11_walls_277, en_ops, en_opc, iI_add, iI_mul, iI_sub, jL_add, jL_mul, iI_le, iI_lt, iI_eq, iI_eq0, iI_lt0, iI_0le, iI_le0, iI_0lt, jL_iI, iI_jL, lc_eq, lc_lt, lc_le, lc_ge, lc_gt, Nat.sub_zero, Nat.zero_le, true_and, and_true, Nat.reduceAdd, Nat.reduceLeDiff]
                    refine ⟨fun _ => ⟨fun e6 => ?_, fun e6 => ?_⟩, fun e => absurd (show (24 : Int) ≤ ((24 : Nat) : Int) by omega) e⟩
                    · rw [if_neg e6] at Hy; exact Hy
                    · rw [if_pos e6] at Hy; exact Hy
                  · apply s_X11_walls_277
                    simp (disch := omega) only [B_X11_walls_277, r10, r33, sh110, lt110, sh113, lt113, en_ops, en_opc, iI_add, iI_mul, iI_sub, jL_add, jL_mul, iI_le, iI_lt, iI_eq, iI_eq0, iI_lt0, iI_0le, iI_le0, iI_0lt, jL_iI, iI_jL, lc_eq, lc_lt, lc_le, lc_ge, lc_gt, Nat.sub_zero, Nat.zero_le, true_and, and_true, Nat.reduceAdd, Nat.reduceLeDiff]
                    refine ⟨fun e => by omega, fun _ => ⟨i, rfl, by rw [sh132.2]; omega, ⟨sh132.1, by decide⟩, 52 + i, iI_eq_of (by omega), by omega, ih9 _ (Fr.up F9 rfl) (fun j hj g9 => ?_)⟩⟩
                    by_cases q : j = 52 + i
                    · rw [q, up_at, F9 132 (by omega)]; exact V.2.2.1 i hi9
                    · rw [up_ne (Or.inr q)]; exact A9 j hj (by omega)
                · have ih := ih (by omega)
                  rw [gst b] at ih
                  have bc := bc_le (b := b)
                  apply s_X11_walls_143
                  simp (disch := omega) only [B_X11_walls_143, r10, sh110, lt110, sh113, lt113, en_ops, en_opc, iI_add, iI_mul, iI_sub, jL_add, jL_mul, iI_le, iI_lt, iI_eq, iI_eq0, iI_lt0, iI_0le, iI_le0, iI_0lt, jL_iI, iI_jL, lc_eq, lc_lt, lc_le, lc_ge, lc_gt, Nat.sub_zero, Nat.zero_le, true_and, and_true, Nat.reduceAdd, Nat.reduceLeDiff]
                  refine ⟨0, rfl, by decide, ?_⟩
                  rw [u0 h V, iI_sub, ncc, shl_1 _ (by omega)]
                  simp (disch := omega) only [en_ops, en_opc, iI_add, iI_mul, iI_sub, jL_add, jL_mul, iI_le, iI_lt, iI_eq, iI_eq0, iI_lt0, iI_0le, iI_le0, iI_0lt, jL_iI, iI_jL, lc_eq, lc_lt, lc_le, lc_ge, lc_gt, Nat.sub_zero, Nat.zero_le, true_and, and_true, Nat.reduceAdd, Nat.reduceLeDiff]
                  refine ⟨fun e => by omega, fun _ => m_ones (by omega) ?_⟩
                  simp (disch := omega) only [en_ops, en_opc, iI_add, iI_mul, iI_sub, jL_add, jL_mul, iI_le, iI_lt, iI_eq, iI_eq0, iI_lt0, iI_0le, iI_le0, iI_0lt, jL_iI, iI_jL, lc_eq, lc_lt, lc_le, lc_ge, lc_gt, Nat.sub_zero, Nat.zero_le, true_and, and_true, Nat.reduceAdd, Nat.reduceLeDiff]
                  have pk : pkB k.toNat b = true ↔ (bcN b : Int) = k := by
                    unfold pkB
                    rw [Bool.and_eq_true, decide_eq_true_iff, decide_eq_true_iff]
                    omega
                  refine ⟨fun e6 => ?_, fun e6 => ?_⟩
                  · have pb : pkB k.toNat b = true := pk.mpr e6
                    suffices L2 : ∀ j : Nat, j ≤ (zE W).2.1 - 1 → ∀ h9, WS (zE W).2.1 h1 h9 → (∀ i, i < j → h9 113 (52 + i) = iI (if b.testBit i = true then p else (zE W).2.2.2.1 i)) → en_V G Y_X11_walls (d + 9) wN wN K 173 [.ref 110, .int (iI ((l.toNat : Nat) : Int)), .int (iI ((y.toNat : Nat) : Int)), .int (iI k), .int (iI p), .int (iI ((c.toNat : Nat) : Int)), .int (iI w), .int (iI (gtF (pkB k.toNat) g 0 b).1), .int (iI (gtF (pkB k.toNat) g 0 b).2), .int (iI (b : Int)), .int (iI (j : Int))] [] h9 hl hr xc xs from L2 0 (by omega) h V (fun i hi9 => absurd hi9 (Nat.not_lt_zero _))
                    have stp : ∀ (j : Nat) (h9 : en_I) (v : Int), j < (zE W).2.1 - 1 → WS (zE W).2.1 h1 h9 → (∀ i, i < j → h9 113 (52 + i) = iI (if b.testBit i = true then p else (zE W).2.2.2.1 i)) → v = (if b.testBit j = true then p else (zE W).2.2.2.1 j) → WS (zE W).2.1 h1 (en_up h9 113 (52 + j) (iI v)) ∧ ∀ i, i < j + 1 → en_up h9 113 (52 + j) (iI v) 113 (52 + i) = iI (if b.testBit i = true then p else (zE W).2.2.2.1 i) := fun j h9 v hj V9 A9 hv => by
                      obtain ⟨v1, v2, v3, v4, v5⟩ := V9
                      refine ⟨⟨fun x g1 g2 g3 => by rw [up_row g1]; exact v1 x g1 g2 g3, fun i hi9 g9 => by rw [up_ne (Or.inr (by omega))]; exact v2 i hi9 g9, fun i hi9 => by rw [up_row (by omega)]; exact v3 i hi9, fun i hi9 => by rw [up_row (by omega)]; exact v4 i hi9, fun i hi9 => by rw [up_row (by omega)]; exact v5 i hi9⟩, fun i hi9 => ?_⟩
                      by_cases q : i = j
                      · rw [q, up_at, hv]
                      · rw [up_ne (Or.inr (by omega))]; exact A9 i (by omega)
                    refine lp ((zE W).2.1 - 1) (fun h9 V9 A9 => ?_) (fun j hj ih2 h9 V9 A9 => ?_)
                    · apply s_X11_walls_173
                      simp (disch := omega) only [B_X11_walls_173, r10, sh110, lt110, sh113, lt113, en_ops, en_opc, iI_add, iI_mul, iI_sub, jL_add, jL_mul, iI_le, iI_lt, iI_eq, iI_eq0, iI_lt0, iI_0le, iI_le0, iI_0lt, jL_iI, iI_jL, lc_eq, lc_lt, lc_le, lc_ge, lc_gt, Nat.sub_zero, Nat.zero_le, true_and, and_true, Nat.reduceAdd, Nat.reduceLeDiff]
                      refine ⟨0, rfl, by decide, ?_⟩
                      rw [u0 h9 V9]
                      simp (disch := omega) only [sh110, lt110, en_ops, en_opc, iI_add, iI_mul, iI_sub, jL_add, jL_mul, iI_le, iI_lt, iI_eq, iI_eq0, iI_lt0, iI_0le, iI_le0, iI_0lt, jL_iI, iI_jL, lc_eq, lc_lt, lc_le, lc_ge, lc_gt, Nat.sub_zero, Nat.zero_le, true_and, and_true, Nat.reduceAdd, Nat.reduceLeDiff]
                      refine ⟨fun _ => ?_, fun e => by omega⟩
                      obtain ⟨v1, v2, v3, v4, v5⟩ := V9
                      have bb : ∀ i, i < 12 → h9 113 (52 + i) = iI (bwP (zE W).2.1 b p (zE W).2.2.2.1 i) := fun i hi9 => by
                        unfold bwP
                        by_cases q : i < (zE W).2.1 - 1
                        · rw [A9 i q]
                          by_cases q2 : b.testBit i = true
                          · rw [if_pos q2, if_pos ⟨by omega, q2⟩]
                          · rw [if_neg q2, if_neg (fun g9 => q2 g9.2)]
                        · rw [if_neg (fun g9 => by have := bit_lt hb g9.2; omega), v2 _ (by omega) (by omega)]
                          exact w113 i hi9
                      have bB : rfB (fun j => if 52 ≤ j ∧ j < 64 then bwP (zE W).2.1 b p (zE W).2.2.2.1 (j - 52) else b9 j) h9 := fun j hj => by
                        show h9 113 j = iI (if 52 ≤ j ∧ j < 64 then bwP (zE W).2.1 b p (zE W).2.2.2.1 (j - 52) else b9 j)
                        by_cases q : 52 ≤ j ∧ j < 64
                        · rw [if_pos q, ← bb (j - 52) (by omega), show 52 + (j - 52) = j by omega]
                        · rw [if_neg q, v2 j hj (by omega)]; exact b1 j hj
                      have rB : rbE (wlE (eL W l.toNat) (bwP (zE W).2.1 b p (zE W).2.2.2.1)) (fun j => if 52 ≤ j ∧ j < 64 then bwP (zE W).2.1 b p (zE W).2.2.2.1 (j - 52) else b9 j) := b2'.wl hE (fun j hj => if_neg (by omega)) (fun c hc => by
                        show (if 52 ≤ 52 + c ∧ 52 + c < 64 then bwP (zE W).2.1 b p (zE W).2.2.2.1 (52 + c - 52) else b9 (52 + c)) = _
                        rw [if_pos (by omega), show 52 + c - 52 = c by omega])
                      have Fx : Fr (fun x => x = 113 ∨ x = 115 ∨ Psr x) h1 h9 := fun x hx => v1 x (fun g9 => hx (Or.inl g9)) (fun g9 => hx (Or.inr (Or.inl g9))) (fun g9 => hx (Or.inr (Or.inr g9)))
                      refine m_runs (d := d + 1) (b := fun j => if 52 ≤ j ∧ j < 64 then bwP (zE W).2.1 b p (zE W).2.2.2.1 (j - 52) else b9 j) (E := wlE (eL W l.toNat) (bwP (zE W).2.1 b p (zE W).2.2.2.1)) I1.1 (hE.wl (bwP_r (by omega) wlr)) bB rB (hV.mono (rwE.of (fun x g1 g2 => v1 x (by omega) (by omega) (by unfold Psr; omega)))) (q := (zS W).1) (I1.xr.cg (InvR.nh hz).1 v5).1 hO hy4 (hY.fr Fx (fun x g1 g2 g9 => by unfold Psr at g9; omega)) (fun h11 F11 q11 O11 s11 => ?_)
                      simp (disch := omega) only [sh110, lt110, en_ops, en_opc, iI_add, iI_mul, iI_sub, jL_add, jL_mul, iI_le, iI_lt, iI_eq, iI_eq0, iI_lt0, iI_0le, iI_le0, iI_0lt, jL_iI, iI_jL, lc_eq, lc_lt, lc_le, lc_ge, lc_gt, Nat.sub_zero, Nat.zero_le, true_and, and_true, Nat.reduceAdd, Nat.reduceLeDiff]
                      refine m_wholeOf (d := d + 5) (b := fun j => if 52 ≤ j ∧ j < 64 then bwP (zE W).2.1 b p (zE W).2.2.2.1 (j - 52) else b9 j) I1.1 q11.1 (fun j hj => by rw [F11 113 (by unfold Pmo; omega)]; exact bB j hj) rB.1 (by omega) ?_
                      have gb := gr b _ O11.1
                      have eg : wP (yrP (wlE (eL W l.toNat) (bwP (zE W).2.1 b p (zE W).2.2.2.1)) (zYs W y.toNat).2 (zYs W y.toNat).1 (zS W).1).1 (wlE (eL W l.toNat) (bwP (zE W).2.1 b p (zE W).2.2.2.1)).2.2.1 c.toNat = g b := (hG b).symm
                      have eg2 : wP (yrP (wlE (eL W l.toNat) (bwP (zE W).2.1 b p (zE W).2.2.2.1)) (zYs W y.toNat).2 (zYs W y.toNat).1 (zS W).1).1 (zE W).2.2.1 c.toNat = g b := (hG b).symm
                      rw [eg]
                      rw [eg2] at gb
                      simp (disch := omega) only [sh110, lt110, en_ops, en_opc, iI_add, iI_mul, iI_sub, jL_add, jL_mul, iI_le, iI_lt, iI_eq, iI_eq0, iI_lt0, iI_0le, iI_le0, iI_0lt, jL_iI, iI_jL, lc_eq, lc_lt, lc_le, lc_ge, lc_gt, Nat.sub_zero, Nat.zero_le, true_and, and_true, Nat.reduceAdd, Nat.reduceLeDiff]
                      refine m_comesBack (d := d + 7) I1.1 (fun h13 F13 A13 => ?_)
                      have e17 : h11 117 = h9 117 := F11 117 (by unfold Pmo; omega)
                      have V13 : WS (zE W).2.1 h1 h13 := ⟨fun x g1 g2 g3 => by rw [F13 x g2, F11 x (fun q => by rcases q.v with q | q; exact g2 q; exact g3 q.1)]; exact v1 x g1 g2 g3, fun j hj g9 => by rw [F13 113 (by omega), F11 113 (by unfold Pmo; omega)]; exact v2 j hj g9, fun j hj => by rw [F13 132 (by omega), F11 132 (by unfold Pmo; omega)]; exact v3 j hj, fun j hj => by rw [F13 117 (by omega), e17]; exact v4 j hj, fun j hj => by rw [A13 j hj, e17]; exact v4 j hj⟩
                      simp (disch := omega) only [en_ops, en_opc, iI_add, iI_mul, iI_sub, jL_add, jL_mul, iI_le, iI_lt, iI_eq, iI_eq0, iI_lt0, iI_0le, iI_le0, iI_0lt, jL_iI, iI_jL, lc_eq, lc_lt, lc_le, lc_ge, lc_gt, Nat.sub_zero, Nat.zero_le, true_and, and_true, Nat.reduceAdd, Nat.reduceLeDiff]
                      refine ⟨fun e7 => ?_, fun e7 => ⟨fun e8 => ?_, fun e8 => ?_⟩⟩
                      · rw [if_pos ⟨pb, Or.inl e7⟩] at ih
                        exact ih h13 _ V13 gb (by show -1 ≤ (b : Int) ∧ (b : Int) < ((b + 1 : Nat) : Int); omega)
                      · rw [if_pos ⟨pb, Or.inr e8⟩] at ih
                        exact ih h13 _ V13 gb (by show -1 ≤ (b : Int) ∧ (b : Int) < ((b + 1 : Nat) : Int); omega)
                      · rw [if_neg (fun g9 => by rcases g9.2 with q | q <;> omega)] at ih
                        exact ih h13 _ V13 r2 (by omega)
                    · apply s_X11_walls_173
                      cases hbit : b.testBit j
                      · simp (disch := omega) only [B_X11_walls_173, r10, r33, sh110, lt110, sh113, lt113, sh_0 (show j < 32 by omega) hbit, en_ops, en_opc, iI_add, iI_mul, iI_sub, jL_add, jL_mul, iI_le, iI_lt, iI_eq, iI_eq0, iI_lt0, iI_0le, iI_le0, iI_0lt, jL_iI, iI_jL, lc_eq, lc_lt, lc_le, lc_ge, lc_gt, Nat.sub_zero, Nat.zero_le, true_and, and_true, Nat.reduceAdd, Nat.reduceLeDiff]
                        refine ⟨0, rfl, by decide, ?_⟩
                        rw [u0 h9 V9]
                        simp (disch := omega) only [en_ops, en_opc, iI_add, iI_mul, iI_sub, jL_add, jL_mul, iI_le, iI_lt, iI_eq, iI_eq0, iI_lt0, iI_0le, iI_le0, iI_0lt, jL_iI, iI_jL, lc_eq, lc_lt, lc_le, lc_ge, lc_gt, Nat.sub_zero, Nat.zero_le, true_and, and_true, Nat.reduceAdd, Nat.reduceLeDiff]
                        refine ⟨fun e => by omega, fun _ => ⟨fun _ => ⟨j, rfl, by rw [sh132.2]; omega, ⟨sh132.1, by decide⟩, 52 + j, iI_eq_of (by omega), by omega, ?_⟩, fun e => absurd e (by decide)⟩⟩
                        rw [V9.2.2.1 j (by omega), w113 j (by omega)]
                        obtain ⟨q1, q2⟩ := stp j h9 _ hj V9 A9 (show (zE W).2.2.2.1 j = _ by rw [if_neg (by rw [hbit]; decide)])
                        exact ih2 _ q1 q2
                      · simp (disch := omega) only [B_X11_walls_173, r10, r33, sh110, lt110, sh113, lt113, sh_1 (show j < 32 by omega) hbit, en_ops, en_opc, iI_add, iI_mul, iI_sub, jL_add, jL_mul, iI_le, iI_lt, iI_eq, iI_eq0, iI_lt0, iI_0le, iI_le0, iI_0lt, jL_iI, iI_jL, lc_eq, lc_lt, lc_le, lc_ge, lc_gt, Nat.sub_zero, Nat.zero_le, true_and, and_true, Nat.reduceAdd, Nat.reduceLeDiff]
                        refine ⟨0, rfl, by decide, ?_⟩
                        rw [u0 h9 V9]
                        simp (disch := omega) only [en_ops, en_opc, iI_add, iI_mul, iI_sub, jL_add, jL_mul, iI_le, iI_lt, iI_eq, iI_eq0, iI_lt0, iI_0le, iI_le0, iI_0lt, jL_iI, iI_jL, lc_eq, lc_lt, lc_le, lc_ge, lc_gt, Nat.sub_zero, Nat.zero_le, true_and, and_true, Nat.reduceAdd, Nat.reduceLeDiff]
                        refine ⟨fun e => by omega, fun _ => ⟨fun e => (e (by first | trivial | rfl)).elim, fun _ => ⟨52 + j, iI_eq_of (by omega), by omega, ?_⟩⟩⟩
                        obtain ⟨q1, q2⟩ := stp j h9 _ hj V9 A9 (show p = _ by rw [if_pos hbit])
                        exact ih2 _ q1 q2
                  · rw [if_neg (fun g9 => e6 (pk.mp g9.1))] at ih
                    exact ih h _ V r2 (by omega)
              · simp (disch := omega) only [en_ops, en_opc, iI_add, iI_mul, iI_sub, jL_add, jL_mul, iI_le, iI_lt, iI_eq, iI_eq0, iI_lt0, iI_0le, iI_le0, iI_0lt, jL_iI, iI_jL, lc_eq, lc_lt, lc_le, lc_ge, lc_gt, Nat.sub_zero, Nat.zero_le, true_and, and_true, Nat.reduceAdd, Nat.reduceLeDiff]
                exact ⟨fun e => (e (by first | trivial | rfl)).elim, fun _ => H.no F1 (k := 3) (by omega) (by rw [if_pos e1, if_pos e2, if_pos e3, if_pos e4, if_neg e]) I' F' (by rw [if_pos e1, if_pos e2, if_pos e3, if_pos e4]; exact T')⟩
            · rw [if_neg q3]
              simp (disch := omega) only [sh110, lt110, en_ops, en_opc, iI_add, iI_mul, iI_sub, jL_add, jL_mul, iI_le, iI_lt, iI_eq, iI_eq0, iI_lt0, iI_0le, iI_le0, iI_0lt, jL_iI, iI_jL, lc_eq, lc_lt, lc_le, lc_ge, lc_gt, Nat.sub_zero, Nat.zero_le, true_and, and_true, Nat.reduceAdd, Nat.reduceLeDiff]
              exact ⟨fun _ => no4 (fun g => q3 g.2.2.2), fun e => (e (by first | trivial | rfl)).elim⟩
          · rw [if_neg q2]
            simp (disch := omega) only [sh110, lt110, en_ops, en_opc, iI_add, iI_mul, iI_sub, jL_add, jL_mul, iI_le, iI_lt, iI_eq, iI_eq0, iI_lt0, iI_0le, iI_le0, iI_0lt, jL_iI, iI_jL, lc_eq, lc_lt, lc_le, lc_ge, lc_gt, Nat.sub_zero, Nat.zero_le, true_and, and_true, Nat.reduceAdd, Nat.reduceLeDiff]
            exact ⟨fun _ => no4 (fun g => q2 g.2.2.1), fun e => (e (by first | trivial | rfl)).elim⟩
        · rw [if_neg q0]
          simp (disch := omega) only [sh110, lt110, en_ops, en_opc, iI_add, iI_mul, iI_sub, jL_add, jL_mul, iI_le, iI_lt, iI_eq, iI_eq0, iI_lt0, iI_0le, iI_le0, iI_0lt, jL_iI, iI_jL, lc_eq, lc_lt, lc_le, lc_ge, lc_gt, Nat.sub_zero, Nat.zero_le, true_and, and_true, Nat.reduceAdd, Nat.reduceLeDiff]
          exact ⟨fun _ => no4 (fun g => q0 g.1), fun e => (e (by first | trivial | rfl)).elim⟩
      · simp (disch := omega) only [en_ops, en_opc, iI_add, iI_mul, iI_sub, jL_add, jL_mul, iI_le, iI_lt, iI_eq, iI_eq0, iI_lt0, iI_0le, iI_le0, iI_0lt, jL_iI, iI_jL, lc_eq, lc_lt, lc_le, lc_ge, lc_gt, Nat.sub_zero, Nat.zero_le, true_and, and_true, Nat.reduceAdd, Nat.reduceLeDiff]
        exact ⟨fun _ => H.no F1 (k := 1) (by omega) (by rw [if_pos e1, if_pos e2, if_neg e]) I' F' (by rw [if_pos e1, if_pos e2, if_neg e]; exact T'), fun e => (e (by first | trivial | rfl)).elim⟩
    · simp (disch := omega) only [en_ops, en_opc, iI_add, iI_mul, iI_sub, jL_add, jL_mul, iI_le, iI_lt, iI_eq, iI_eq0, iI_lt0, iI_0le, iI_le0, iI_0lt, jL_iI, iI_jL, lc_eq, lc_lt, lc_le, lc_ge, lc_gt, Nat.sub_zero, Nat.zero_le, true_and, and_true, Nat.reduceAdd, Nat.reduceLeDiff]
      exact ⟨fun _ => H.no F1 (k := 1) (by omega) (by rw [if_pos e1, if_neg e]) I' F' (by rw [if_pos e1, if_neg e]; exact T'), fun e => (e (by first | trivial | rfl)).elim⟩
  · simp (disch := omega) only [en_ops, en_opc, iI_add, iI_mul, iI_sub, jL_add, jL_mul, iI_le, iI_lt, iI_eq, iI_eq0, iI_lt0, iI_0le, iI_le0, iI_0lt, jL_iI, iI_jL, lc_eq, lc_lt, lc_le, lc_ge, lc_gt, Nat.sub_zero, Nat.zero_le, true_and, and_true, Nat.reduceAdd, Nat.reduceLeDiff]
    exact ⟨fun _ => H.no F1 (k := 0) (by omega) (by rw [if_neg e]) I' F' (by rw [if_neg e]; exact T'), fun e => (e (by first | trivial | rfl)).elim⟩
end
