section
variable {G : en_G} {d : Nat} {K : en_K} {W : zW} {n : Nat} {hi : en_I} {hl : en_L} {hr : en_F} {xc xs : Nat}
/-- one crown changed -/
theorem rsH.cr {f : Nat → Nat → Nat → Int} {cr cr' : Nat → Int} {R : (Nat → Int) × (Nat → Int) × Int × Int} {h : en_I} {c : Nat} {v : Int} (hq : rsH (f, cr, R) h) (hc : c < 12) (e : ∀ j, j < 12 → cr' j = if j = c then v else cr j) : rsH (f, cr', R) (en_up h 115 (576 + c) (iI v)) := by
  obtain ⟨y1, y2, y3, y4, y5, y6, y7⟩ := hq
  refine ⟨fun c' z k hc' hz hk => (up_ne (Or.inr (by omega))).trans (y1 c' z k hc' hz hk), fun j hj => ?_, fun j hj => (up_ne (Or.inr (by omega))).trans (y3 j hj), fun i hi9 => (up_ne (Or.inr (by omega))).trans (y4 i hi9), (up_ne (Or.inr (by omega))).trans y5, (up_ne (Or.inr (by omega))).trans y6, fun j hj g => (up_ne (Or.inr (by omega))).trans (y7 j hj g)⟩
  show en_up h 115 (576 + c) (iI v) 115 (576 + j) = iI (cr' j)
  rw [e j hj]
  by_cases q : j = c
  · rw [q, up_at, if_pos rfl]
  · rw [up_ne (Or.inr (by omega)), if_neg q]; exact y2 j hj
theorem m_clots {l y k x : Int} (hI : InvR G W hi hr) (hz : zOK n W) (hn : n ≤ 512) (hlr : iRg l) (hyr : iRg y) (hk : iRg k) (H : rEnd G W (zPut W ((lzP (eL W l.toNat) (zYs W y.toNat).2 (zYs W y.toNat).1 k.toNat (iI x, (zS W).1)).2, (zS W).2)) (if inL W l then if inY W y then if 1 ≤ k ∧ k ≤ 200 then if isNow W then 0 else 4 else 3 else 2 else 2) (if inL W l then if inY W y then if 1 ≤ k ∧ k ≤ 200 then 3 else 2 else 1 else 1) (.int (iI 0)) (.int (iI ((lzP (eL W l.toNat) (zYs W y.toNat).2 (zYs W y.toNat).1 k.toNat (iI x, (zS W).1)).2.2.2.2.2.2 - (zS W).1.2.2.2.2.2))) K hi hl hr) : en_Call G (d + 9) xc xs Y_X11_lots wN wN [.ref 110, .int (iI l), .int (iI y), .int (iI k), .int (iI x)] hi hl hr K := by
  obtain ⟨I1, F1, T1⟩ := hI.t1
  obtain ⟨⟨-, -, r10, -, r12, -⟩, -⟩ := id I1.1
  obtain ⟨nc12, nz6⟩ := hz.c
  have nl4 := hz.2.1
  have ny4 := hz.2.2.1
  apply en_X11_lots
  simp (disch := omega) only [B_X11_lots_0, sh110, lt110, en_ops, en_opc, iI_add, iI_mul, iI_sub, jL_add, jL_mul, iI_le, iI_lt, iI_eq, iI_eq0, iI_lt0, iI_0le, iI_le0, iI_0lt, jL_iI, iI_jL, lc_eq, lc_lt, lc_le, lc_ge, lc_gt, Nat.sub_zero, Nat.zero_le, true_and, and_true, Nat.reduceAdd, Nat.reduceLeDiff]
  generalize en_up hi 110 0 (iI 0) = h1 at *
  refine m_isLaw (d := d + 6) (code := 1) I1 hz T1 hlr (by omega) (fun e1 => ?_) (fun e hi' I' F' T' => ?_)
  · simp (disch := omega) only [sh110, lt110, en_ops, en_opc, iI_add, iI_mul, iI_sub, jL_add, jL_mul, iI_le, iI_lt, iI_eq, iI_eq0, iI_lt0, iI_0le, iI_le0, iI_0lt, jL_iI, iI_jL, lc_eq, lc_lt, lc_le, lc_ge, lc_gt, Nat.sub_zero, Nat.zero_le, true_and, and_true, Nat.reduceAdd, Nat.reduceLeDiff]
    refine ⟨fun e => absurd e (by decide), fun _ => m_isYear (d := d + 6) (code := 1) I1 hz T1 hyr (by omega) (fun e2 => ?_) (fun e hi' I' F' T' => ?_)⟩
    · simp (disch := omega) only [sh110, lt110, en_ops, en_opc, iI_add, iI_mul, iI_sub, jL_add, jL_mul, iI_le, iI_lt, iI_eq, iI_eq0, iI_lt0, iI_0le, iI_le0, iI_0lt, jL_iI, iI_jL, lc_eq, lc_lt, lc_le, lc_ge, lc_gt, Nat.sub_zero, Nat.zero_le, true_and, and_true, Nat.reduceAdd, Nat.reduceLeDiff]
      refine ⟨fun e => absurd e (by decide), fun _ => m_within hk.1 hk.2 (by decide) (by decide) (by decide) (by decide) ?_⟩
      by_cases e3 : 1 ≤ k ∧ k ≤ 200
      · rw [if_pos e3]
        simp (disch := omega) only [sh110, lt110, en_ops, en_opc, iI_add, iI_mul, iI_sub, jL_add, jL_mul, iI_le, iI_lt, iI_eq, iI_eq0, iI_lt0, iI_0le, iI_le0, iI_0lt, jL_iI, iI_jL, lc_eq, lc_lt, lc_le, lc_ge, lc_gt, Nat.sub_zero, Nat.zero_le, true_and, and_true, Nat.reduceAdd, Nat.reduceLeDiff]
        refine m_may (d := d + 7) (code := 2) (k := 2) I1 T1 (Or.inr rfl) (by omega) (by omega) (fun _ => ?_) (fun e => absurd e (by decide))
        simp (disch := omega) only [sh110, lt110, en_ops, en_opc, iI_add, iI_mul, iI_sub, jL_add, jL_mul, iI_le, iI_lt, iI_eq, iI_eq0, iI_lt0, iI_0le, iI_le0, iI_0lt, jL_iI, iI_jL, lc_eq, lc_lt, lc_le, lc_ge, lc_gt, Nat.sub_zero, Nat.zero_le, true_and, and_true, Nat.reduceAdd, Nat.reduceLeDiff]
        refine ⟨fun e => absurd e (by decide), fun _ => m_isNow (d := d + 6) (code := 3) I1 hz T1 (by omega) (fun e4 => ?_) (fun e hi' I' F' T' => ?_)⟩
        · simp (disch := omega) only [sh110, lt110, en_ops, en_opc, iI_add, iI_mul, iI_sub, jL_add, jL_mul, iI_le, iI_lt, iI_eq, iI_eq0, iI_lt0, iI_0le, iI_le0, iI_0lt, jL_iI, iI_jL, lc_eq, lc_lt, lc_le, lc_ge, lc_gt, Nat.sub_zero, Nat.zero_le, true_and, and_true, Nat.reduceAdd, Nat.reduceLeDiff]
          have Hx := H.1 (by rw [if_pos e1, if_pos e2, if_pos e3, if_pos e4])
          obtain ⟨hE, ⟨b9, b1, b2⟩, hV, hq, hO⟩ := InvR.gol (l := l.toNat) I1 hz hn (by omega) e4.1
          obtain ⟨hy4, hY⟩ := InvR.yr (y := y.toNat) I1 hz (by omega)
          rw [show iI l = iI ((l.toNat : Nat) : Int) from iI_eq_of (by omega), show iI y = iI ((y.toNat : Nat) : Int) from iI_eq_of (by omega)]
          have hny : 1 ≤ (zYs W y.toNat).1 := hz.2.2.2.2.2.1 _ (by omega)
          obtain ⟨yA, yB, yC⟩ := id hY
          obtain ⟨⟨-, -, -, -, r12', -⟩, -, r26, r27, r28, r29, r30, -⟩ := id I1.1
          have nP : ∀ x, 125 ≤ x → x ≤ 129 → ¬ Pmo x := fun x g1 g2 g => by unfold Pmo at g; omega
          refine ⟨fun _ => ?_, fun e => absurd e (by decide)⟩
          have fin : ∀ (i : Nat) (s : Int32 × hSt) (h : en_I), Fr Pmo h1 h → (∀ j, 630 ≤ j → j ≠ 833 → h 115 j = h1 115 j) → rsH s.2 h → s.2.2.2.2.2.2 = (zS W).1.2.2.2.2.2 + i → s = lzP (eL W l.toNat) (zYs W y.toNat).2 (zYs W y.toNat).1 k.toNat (iI x, (zS W).1) → K (.inl (some (.int (iI (i : Int))))) h hl hr := fun i s h F8 s8 q8 hi9 hs => by
            have := H.pt (by rw [if_pos e1, if_pos e2, if_pos e3, if_pos e4]) I1 F1 T1 F8 (fun x g => by rcases g.v with q | q; exact Or.inl q; exact Or.inr q.1) (s := ((lzP (eL W l.toNat) (zYs W y.toNat).2 (zYs W y.toNat).1 k.toNat (iI x, (zS W).1)).2, (zS W).2)) (I1.xr.q (InvR.nh hz).1 (by rw [← hs]; exact q8) s8)
            rw [← hs, hi9, show (zS W).1.2.2.2.2.2 + (i : Int) - (zS W).1.2.2.2.2.2 = i by omega] at this
            exact this
          suffices L : ∀ m i : Nat, i + m = k.toNat → ∀ (s : Int32 × hSt) (h : en_I) (x7 : Value), Fr Pmo h1 h → (∀ j, 630 ≤ j → j ≠ 833 → h 115 j = h1 115 j) → rsH s.2 h → hOK (eL W l.toNat) s.2 → s.2.2.2.2.2.2 = (zS W).1.2.2.2.2.2 + i → s = lzP (eL W l.toNat) (zYs W y.toNat).2 (zYs W y.toNat).1 i (iI x, (zS W).1) → en_V G Y_X11_lots (d + 9) wN wN K 57 [.ref 110, .int (iI ((l.toNat : Nat) : Int)), .int (iI ((y.toNat : Nat) : Int)), .int (iI k), .int (iI x), .int s.1, .int (iI (i : Int)), x7] [] h hl hr xc xs from L k.toNat 0 (by omega) (iI x, (zS W).1) h1 _ Fr.rf (fun _ _ _ => rfl) hq hO (by show _ = (zS W).1.2.2.2.2.2 + 0; rw [Int.add_zero]) rfl
          intro m
          induction m with
          | zero =>
            intro i hi9 s h x7 F8 s8 q8 O8 hh hs
            apply s_X11_lots_57
            simp (disch := omega) only [B_X11_lots_57, r12', r26, r27, r28, r29, sh110, lt110, en_ops, en_opc, iI_add, iI_mul, iI_sub, jL_add, jL_mul, iI_le, iI_lt, iI_eq, iI_eq0, iI_lt0, iI_0le, iI_le0, iI_0lt, jL_iI, iI_jL, lc_eq, lc_lt, lc_le, lc_ge, lc_gt, Nat.sub_zero, Nat.zero_le, true_and, and_true, Nat.reduceAdd, Nat.reduceLeDiff]
            refine ⟨fun _ => ?_, fun e => absurd (by omega) e⟩
            exact fin i s h F8 s8 q8 hh (by rw [hs, show i = k.toNat by omega])
          | succ m ih =>
            intro i hi9 s h x7 F8 s8 q8 O8 hh hs
            have h6 := O8.2.2.2
            have a624 : h 115 624 = iI s.2.2.2.2.2.2 := q8.2.2.2.2.2.1
            apply s_X11_lots_57
            simp (disch := omega) only [B_X11_lots_57, r12', r26, r27, r28, r29, sh110, lt110, sh115, lt115, en_ops, en_opc, iI_add, iI_mul, iI_sub, jL_add, jL_mul, iI_le, iI_lt, iI_eq, iI_eq0, iI_lt0, iI_0le, iI_le0, iI_0lt, jL_iI, iI_jL, lc_eq, lc_lt, lc_le, lc_ge, lc_gt, Nat.sub_zero, Nat.zero_le, true_and, and_true, Nat.reduceAdd, Nat.reduceLeDiff]
            refine ⟨fun e => by omega, fun _ => ⟨624, rfl, by omega, ?_⟩⟩
            rw [a624]
            have eld : s.1 * iI 1103515245 + iI 12345 = ldP s.1 := rfl
            simp (disch := omega) only [sh110, lt110, eld, lk_s, sh125, lt125, en_ops, en_opc, iI_add, iI_mul, iI_sub, jL_add, jL_mul, iI_le, iI_lt, iI_eq, iI_eq0, iI_lt0, iI_0le, iI_le0, iI_0lt, jL_iI, iI_jL, lc_eq, lc_lt, lc_le, lc_ge, lc_gt, Nat.sub_zero, Nat.zero_le, true_and, and_true, Nat.reduceAdd, Nat.reduceLeDiff]
            refine ⟨fun e => ?_, fun e => ?_⟩
            · refine fin i s h F8 s8 q8 hh ?_
              rw [hs] at e ⊢
              exact (lzP_stop (by omega) k.toNat (by omega)).symm
            · refine ⟨y.toNat, rfl, by omega, ?_⟩
              rw [show h 125 y.toNat = iI ((zYs W y.toNat).1 : Int) by rw [F8 125 (nP 125 (by omega) (by omega))]; exact yA]
              have n20 := yB
              generalize hLK : lkP (ldP s.1) = lk
              have lk9 : lk < 32768 := by rw [← hLK]; exact lk_lt _
              generalize hny9 : (zYs W y.toNat).1 = ny at *
              have hm9 : lk % ny < ny := Nat.mod_lt _ (by omega)
              have mm : (lk : Int) - (lk : Int) / (ny : Int) * (ny : Int) = ((lk % ny : Nat) : Int) := by
                have := Int.emod_def (lk : Int) (ny : Int)
                rw [Int.mul_comm] at this
                omega
              rw [iI_div (by omega) (by omega) (by omega) (by omega), iI_mul, iI_sub, mm, iI_add, show 40 * ((y.toNat : Nat) : Int) + ((lk % ny : Nat) : Int) = ((40 * y.toNat + lk % ny : Nat) : Int) by omega]
              have s126 : (en_SH 126).1 = 100 ∧ (en_SH 126).2 = 200 := by decide
              have s127 : (en_SH 127).1 = 100 ∧ (en_SH 127).2 = 200 := by decide
              have s128 : (en_SH 128).1 = 100 ∧ (en_SH 128).2 = 200 := by decide
              obtain ⟨u1, u2, u3, u4, u5, u6, u7⟩ := yC (lk % ny) hm9
              refine ⟨by rw [iI_eq0 (by omega) (by omega)]; omega, 40 * y.toNat + lk % ny, rfl, by rw [s126.2]; omega, ⟨s126.1, by decide⟩, 40 * y.toNat + lk % ny, rfl, by rw [s127.2]; omega, ⟨s127.1, by decide⟩, 40 * y.toNat + lk % ny, rfl, by rw [s128.2]; omega, ⟨s128.1, by decide⟩, ?_⟩
              rw [F8 126 (nP 126 (by omega) (by omega)), F8 127 (nP 127 (by omega) (by omega)), F8 128 (nP 128 (by omega) (by omega)), u1, u2, u3]
              have st : lzP (eL W l.toNat) (zYs W y.toNat).2 ny (i + 1) (iI x, (zS W).1) = (ldP s.1, hrP (eL W l.toNat) ((zYs W y.toNat).2 (lk % ny)).1 s.2) := by
                have st0 : lzP (eL W l.toNat) (zYs W y.toNat).2 ny (i + 1) (iI x, (zS W).1) = if (lzP (eL W l.toNat) (zYs W y.toNat).2 ny i (iI x, (zS W).1)).2.2.2.2.2.2 < 600 then (ldP (lzP (eL W l.toNat) (zYs W y.toNat).2 ny i (iI x, (zS W).1)).1, hrP (eL W l.toNat) ((zYs W y.toNat).2 (lkP (ldP (lzP (eL W l.toNat) (zYs W y.toNat).2 ny i (iI x, (zS W).1)).1) % ny)).1 (lzP (eL W l.toNat) (zYs W y.toNat).2 ny i (iI x, (zS W).1)).2) else lzP (eL W l.toNat) (zYs W y.toNat).2 ny i (iI x, (zS W).1) := rfl
                rw [← hs] at st0
                rw [st0, if_pos (by omega), hLK]
              refine m_hour (d := d + 2) (b := b9) (w := ((zYs W y.toNat).2 (lk % ny)).1) I1.1 hE (fun j hj => by rw [F8 113 (by unfold Pmo; omega)]; exact b1 j hj) b2 (hV.mono (rwE.of (fun x g1 g2 => F8 x (by unfold Pmo; omega)))) q8 O8 (by omega) u5 (fun h9 F9 q9 O9 s9 => ?_)
              simp (disch := omega) only [en_ops, en_opc, iI_add, iI_mul, iI_sub, jL_add, jL_mul, iI_le, iI_lt, iI_eq, iI_eq0, iI_lt0, iI_0le, iI_le0, iI_0lt, jL_iI, iI_jL, lc_eq, lc_lt, lc_le, lc_ge, lc_gt, Nat.sub_zero, Nat.zero_le, true_and, and_true, Nat.reduceAdd, Nat.reduceLeDiff]
              exact ih (i + 1) (by omega) (ldP s.1, hrP (eL W l.toNat) ((zYs W y.toNat).2 (lk % ny)).1 s.2) h9 _ (F8.tr F9) (fun j g1 g2 => (s9 j g1 g2).trans (s8 j g1 g2)) q9 O9 (by show s.2.2.2.2.2.2 + 1 = _; omega) st.symm
        · simp (disch := omega) only [en_ops, en_opc, iI_add, iI_mul, iI_sub, jL_add, jL_mul, iI_le, iI_lt, iI_eq, iI_eq0, iI_lt0, iI_0le, iI_le0, iI_0lt, jL_iI, iI_jL, lc_eq, lc_lt, lc_le, lc_ge, lc_gt, Nat.sub_zero, Nat.zero_le, true_and, and_true, Nat.reduceAdd, Nat.reduceLeDiff]
          exact ⟨fun e => (e (by first | trivial | rfl)).elim, fun _ => H.no F1 (k := 3) (by omega) (by rw [if_pos e1, if_pos e2, if_pos e3, if_neg e]) I' F' (by rw [if_pos e1, if_pos e2, if_pos e3]; exact T')⟩
      · rw [if_neg e3]
        simp (disch := omega) only [sh110, lt110, en_ops, en_opc, iI_add, iI_mul, iI_sub, jL_add, jL_mul, iI_le, iI_lt, iI_eq, iI_eq0, iI_lt0, iI_0le, iI_le0, iI_0lt, jL_iI, iI_jL, lc_eq, lc_lt, lc_le, lc_ge, lc_gt, Nat.sub_zero, Nat.zero_le, true_and, and_true, Nat.reduceAdd, Nat.reduceLeDiff]
        refine m_may (d := d + 7) (code := 2) (k := 2) I1 T1 (Or.inl rfl) (by omega) (by omega) (fun e => absurd e (by decide)) (fun _ hi' I' F' T' => ?_)
        simp (disch := omega) only [en_ops, en_opc, iI_add, iI_mul, iI_sub, jL_add, jL_mul, iI_le, iI_lt, iI_eq, iI_eq0, iI_lt0, iI_0le, iI_le0, iI_0lt, jL_iI, iI_jL, lc_eq, lc_lt, lc_le, lc_ge, lc_gt, Nat.sub_zero, Nat.zero_le, true_and, and_true, Nat.reduceAdd, Nat.reduceLeDiff]
        exact ⟨fun _ => H.no F1 (k := 2) (by omega) (by rw [if_pos e1, if_pos e2, if_neg e3]) I' F' (by rw [if_pos e1, if_pos e2, if_neg e3]; exact T'), fun e => (e (by first | trivial | rfl)).elim⟩
    · simp (disch := omega) only [en_ops, en_opc, iI_add, iI_mul, iI_sub, jL_add, jL_mul, iI_le, iI_lt, iI_eq, iI_eq0, iI_lt0, iI_0le, iI_le0, iI_0lt, jL_iI, iI_jL, lc_eq, lc_lt, lc_le, lc_ge, lc_gt, Nat.sub_zero, Nat.zero_le, true_and, and_true, Nat.reduceAdd, Nat.reduceLeDiff]
      exact ⟨fun _ => H.no F1 (k := 1) (by omega) (by rw [if_pos e1, if_neg e]) I' F' (by rw [if_pos e1, if_neg e]; exact T'), fun e => (e (by first | trivial | rfl)).elim⟩
  · simp (disch := omega) only [en_ops, en_opc, iI_add, iI_mul, iI_sub, jL_add, jL_mul, iI_le, iI_lt, iI_eq, iI_eq0, iI_lt0, iI_0le, iI_le0, iI_0lt, jL_iI, iI_jL, lc_eq, lc_lt, lc_le, lc_ge, lc_gt, Nat.sub_zero, Nat.zero_le, true_and, and_true, Nat.reduceAdd, Nat.reduceLeDiff]
    exact ⟨fun _ => H.no F1 (k := 1) (by omega) (by rw [if_neg e]) I' F' (by rw [if_neg e]; exact T'), fun e => (e (by first | trivial | rfl)).elim⟩
theorem m_chigh {l y : Int} (hI : InvR G W hi hr) (hz : zOK n W) (hn : n ≤ 512) (hlr : iRg l) (hyr : iRg y) (H : rEnd G W W (if inL W l then if inY W y then if isNow W then 0 else 4 else 2 else 2) (if inL W l then if inY W y then 2 else 1 else 1) (.int (iI 0)) (.int (iI (fdP (fun m => drB (zVs W l.toNat) (zYs W y.toNat).2 (zYs W y.toNat).1 (zS W).1.2.2.2.2.2 (zS W).1.2.1 m (zE W).2.1) 101 0))) K hi hl hr) : en_Call G (d + 9) xc xs Y_X11_high wN wN [.ref 110, .int (iI l), .int (iI y)] hi hl hr K := by
  obtain ⟨I1, F1, T1⟩ := hI.t1
  obtain ⟨⟨-, -, r10, -, r12, -⟩, -⟩ := id I1.1
  obtain ⟨nc12, nz6⟩ := hz.c
  have nl4 := hz.2.1
  have ny4 := hz.2.2.1
  apply en_X11_high
  simp (disch := omega) only [B_X11_high_0, sh110, lt110, en_ops, en_opc, iI_add, iI_mul, iI_sub, jL_add, jL_mul, iI_le, iI_lt, iI_eq, iI_eq0, iI_lt0, iI_0le, iI_le0, iI_0lt, jL_iI, iI_jL, lc_eq, lc_lt, lc_le, lc_ge, lc_gt, Nat.sub_zero, Nat.zero_le, true_and, and_true, Nat.reduceAdd, Nat.reduceLeDiff]
  generalize en_up hi 110 0 (iI 0) = h1 at *
  refine m_isLaw (d := d + 6) (code := 1) I1 hz T1 hlr (by omega) (fun e1 => ?_) (fun e hi' I' F' T' => ?_)
  · simp (disch := omega) only [sh110, lt110, en_ops, en_opc, iI_add, iI_mul, iI_sub, jL_add, jL_mul, iI_le, iI_lt, iI_eq, iI_eq0, iI_lt0, iI_0le, iI_le0, iI_0lt, jL_iI, iI_jL, lc_eq, lc_lt, lc_le, lc_ge, lc_gt, Nat.sub_zero, Nat.zero_le, true_and, and_true, Nat.reduceAdd, Nat.reduceLeDiff]
    refine ⟨fun e => absurd e (by decide), fun _ => m_isYear (d := d + 6) (code := 1) I1 hz T1 hyr (by omega) (fun e2 => ?_) (fun e hi' I' F' T' => ?_)⟩
    · simp (disch := omega) only [sh110, lt110, en_ops, en_opc, iI_add, iI_mul, iI_sub, jL_add, jL_mul, iI_le, iI_lt, iI_eq, iI_eq0, iI_lt0, iI_0le, iI_le0, iI_0lt, jL_iI, iI_jL, lc_eq, lc_lt, lc_le, lc_ge, lc_gt, Nat.sub_zero, Nat.zero_le, true_and, and_true, Nat.reduceAdd, Nat.reduceLeDiff]
      refine ⟨fun e => absurd e (by decide), fun _ => m_isNow (d := d + 6) (code := 2) I1 hz T1 (by omega) (fun e3 => ?_) (fun e hi' I' F' T' => ?_)⟩
      · simp (disch := omega) only [sh110, lt110, en_ops, en_opc, iI_add, iI_mul, iI_sub, jL_add, jL_mul, iI_le, iI_lt, iI_eq, iI_eq0, iI_lt0, iI_0le, iI_le0, iI_0lt, jL_iI, iI_jL, lc_eq, lc_lt, lc_le, lc_ge, lc_gt, Nat.sub_zero, Nat.zero_le, true_and, and_true, Nat.reduceAdd, Nat.reduceLeDiff]
        have Hx := H.1 (by rw [if_pos e1, if_pos e2, if_pos e3])
        obtain ⟨hE, ⟨b9, b1, b2⟩, hV, hq, hO⟩ := InvR.gol (l := l.toNat) I1 hz hn (by omega) e3.1
        obtain ⟨hy4, hY⟩ := InvR.yr (y := y.toNat) I1 hz (by omega)
        rw [show iI l = iI ((l.toNat : Nat) : Int) from iI_eq_of (by omega), show iI y = iI ((y.toNat : Nat) : Int) from iI_eq_of (by omega)]
        refine ⟨fun _ => m_keeps (d := d + 7) I1.1 (fun h2 F2 A2 => ?_), fun e => absurd e (by decide)⟩
        have R2 := RS.kp F2 A2
        have I2 := I1.rs hz R2
        have x60 := hz.x.2.2.1 e3.1
        simp (disch := omega) only [sh110, lt110, en_ops, en_opc, iI_add, iI_mul, iI_sub, jL_add, jL_mul, iI_le, iI_lt, iI_eq, iI_eq0, iI_lt0, iI_0le, iI_le0, iI_0lt, jL_iI, iI_jL, lc_eq, lc_lt, lc_le, lc_ge, lc_gt, Nat.sub_zero, Nat.zero_le, true_and, and_true, Nat.reduceAdd, Nat.reduceLeDiff]
        obtain ⟨-, ⟨-, -, -⟩, -, -, -⟩ := InvR.gol (l := l.toNat) I2 hz hn (by omega) e3.1
        refine m_oversNow (d := d + 7) (b := b9) (ov := (zS W).1.2.2.1) I2.1 (fun j hj => by rw [R2.2.1 j hj]; exact b1 j hj) b2.1 (fun c hc => I2.xr.1.2.2.1 c hc) ?_
        simp (disch := omega) only [en_ops, en_opc, iI_add, iI_mul, iI_sub, jL_add, jL_mul, iI_le, iI_lt, iI_eq, iI_eq0, iI_lt0, iI_0le, iI_le0, iI_0lt, jL_iI, iI_jL, lc_eq, lc_lt, lc_le, lc_ge, lc_gt, Nat.sub_zero, Nat.zero_le, true_and, and_true, Nat.reduceAdd, Nat.reduceLeDiff]
        have hO' := hO
        have hq9 : ∀ h, RS h1 h → rsH (zS W).1 h := fun h R => (I1.rs hz R).xr.1
        suffices L : ∀ k m : Nat, k + m = 101 → ∀ h x6, RS h1 h → (∀ h9, RS h1 h9 → K (.inl (some (.int (iI (fdP (fun m => drB (zVs W l.toNat) (zYs W y.toNat).2 (zYs W y.toNat).1 (zS W).1.2.2.2.2.2 (zS W).1.2.1 m (zE W).2.1) k m))))) h9 hl hr) → en_V G Y_X11_high (d + 9) wN wN K 48 [.ref 110, .int (iI ((l.toNat : Nat) : Int)), .int (iI ((y.toNat : Nat) : Int)), .int (iI (sumTo (zE W).2.1 (zS W).1.2.2.1)), .int (iI (-1)), .int (iI (m : Int)), x6] [] h hl hr xc xs from L 101 0 rfl h2 _ R2 (fun h9 R9 => Hx h9 (I1.rs hz R9) (F1.tr R9.m) (R9.t T1))
        intro k
        induction k with
        | zero =>
          intro m hm h x6 R HH
          apply s_X11_high_48
          simp (disch := omega) only [B_X11_high_48, en_ops, en_opc, iI_add, iI_mul, iI_sub, jL_add, jL_mul, iI_le, iI_lt, iI_eq, iI_eq0, iI_lt0, iI_0le, iI_le0, iI_0lt, jL_iI, iI_jL, lc_eq, lc_lt, lc_le, lc_ge, lc_gt, Nat.sub_zero, Nat.zero_le, true_and, and_true, Nat.reduceAdd, Nat.reduceLeDiff]
          exact ⟨fun _ => HH h R, fun e => by omega⟩
        | succ k ih =>
          intro m hm h x6 R HH
          have st : fdP (fun m => drB (zVs W l.toNat) (zYs W y.toNat).2 (zYs W y.toNat).1 (zS W).1.2.2.2.2.2 (zS W).1.2.1 m (zE W).2.1) (k + 1) m = if drB (zVs W l.toNat) (zYs W y.toNat).2 (zYs W y.toNat).1 (zS W).1.2.2.2.2.2 (zS W).1.2.1 m (zE W).2.1 = true then (m : Int) else fdP (fun m => drB (zVs W l.toNat) (zYs W y.toNat).2 (zYs W y.toNat).1 (zS W).1.2.2.2.2.2 (zS W).1.2.1 m (zE W).2.1) k (m + 1) := rfl
          rw [st] at HH
          have I := I1.rs hz R
          obtain ⟨r1', r12'⟩ : hr 110 10 = .ref 113 ∧ hr 110 12 = .ref 115 := ⟨r10, r12⟩
          have e0 : h 113 0 = iI ((zE W).2.1 : Int) := by rw [R.2.1 0 (by omega), b1 0 (by omega), b2.1.1]; rfl
          apply s_X11_high_48
          simp (disch := omega) only [B_X11_high_48, en_ops, en_opc, iI_add, iI_mul, iI_sub, jL_add, jL_mul, iI_le, iI_lt, iI_eq, iI_eq0, iI_lt0, iI_0le, iI_le0, iI_0lt, jL_iI, iI_jL, lc_eq, lc_lt, lc_le, lc_ge, lc_gt, Nat.sub_zero, Nat.zero_le, true_and, and_true, Nat.reduceAdd, Nat.reduceLeDiff]
          refine ⟨fun e => by omega, fun _ => ⟨fun e => absurd trivial e, fun _ => ?_⟩⟩
          suffices L2 : ∀ c : Nat, c ≤ (zE W).2.1 → ∀ h9, Fr (· = 115) h h9 → rsH ((zS W).1.1, (fun j => if j < c then (zS W).1.2.1 j + m else (zS W).1.2.1 j), (zS W).1.2.2) h9 → en_V G Y_X11_high (d + 9) wN wN K 64 [.ref 110, .int (iI ((l.toNat : Nat) : Int)), .int (iI ((y.toNat : Nat) : Int)), .int (iI (sumTo (zE W).2.1 (zS W).1.2.2.1)), .int (iI (-1)), .int (iI (m : Int)), .int (iI (c : Int))] [] h9 hl hr xc xs from L2 0 (by omega) h Fr.rf (hq9 h R)
          refine lp (zE W).2.1 (fun h9 F9 q9 => ?_) (fun c hc ih2 h9 F9 q9 => ?_)
          · have e9 : h9 113 0 = iI ((zE W).2.1 : Int) := by rw [F9 113 (by omega)]; exact e0
            apply s_X11_high_64
            simp (disch := omega) only [B_X11_high_64, r10, sh110, lt110, sh113, lt113, en_ops, en_opc, iI_add, iI_mul, iI_sub, jL_add, jL_mul, iI_le, iI_lt, iI_eq, iI_eq0, iI_lt0, iI_0le, iI_le0, iI_0lt, jL_iI, iI_jL, lc_eq, lc_lt, lc_le, lc_ge, lc_gt, Nat.sub_zero, Nat.zero_le, true_and, and_true, Nat.reduceAdd, Nat.reduceLeDiff]
            refine ⟨0, rfl, by decide, ?_⟩
            rw [e9]
            simp (disch := omega) only [sh110, lt110, en_ops, en_opc, iI_add, iI_mul, iI_sub, jL_add, jL_mul, iI_le, iI_lt, iI_eq, iI_eq0, iI_lt0, iI_0le, iI_le0, iI_0lt, jL_iI, iI_jL, lc_eq, lc_lt, lc_le, lc_ge, lc_gt, Nat.sub_zero, Nat.zero_le, true_and, and_true, Nat.reduceAdd, Nat.reduceLeDiff]
            refine ⟨fun _ => ?_, fun e => absurd (Int.le_refl _) e⟩
            have q8 : rsH ((zS W).1.1, (fun j => if j < (zE W).2.1 then (zS W).1.2.1 j + m else (zS W).1.2.1 j), (zS W).1.2.2) h9 := q9
            generalize hQ : ((zS W).1.1, (fun j => if j < (zE W).2.1 then (zS W).1.2.1 j + (m : Int) else (zS W).1.2.1 j), (zS W).1.2.2) = Q at q8
            have O9 : hOK (eL W l.toNat) Q := by
              rw [← hQ]
              obtain ⟨o1, o2, o3, o4⟩ := hO
              refine ⟨o1, o2, fun c hc => ?_, o4⟩
              have := x60 c hc
              show 1 ≤ (if c < (zE W).2.1 then (zS W).1.2.1 c + (m : Int) else (zS W).1.2.1 c) ∧ (if c < (zE W).2.1 then (zS W).1.2.1 c + (m : Int) else (zS W).1.2.1 c) ≤ 1000
              split <;> omega
            have e9x : ∀ x, x ≠ 115 → h9 x = h x := fun x hx => F9 x hx
            have bh : rfB b9 h9 := fun j hj => by rw [F9 113 (by omega), R.2.1 j hj]; exact b1 j hj
            have hV9 : rwV G l.toNat (eL W l.toNat).1 h9 := hV.mono (rwE.of (fun x g1 g2 => by rw [F9 x (by omega), R.1 x (by omega) (by omega) (by unfold Psr; omega)]))
            have hY9 : ryH y.toNat (zYs W y.toNat).1 (zYs W y.toNat).2 h9 := (InvR.yr (y := y.toNat) I hz (by omega)).2.fr F9 (fun x g1 g2 g => by omega)
            refine m_runs (d := d + 1) (b := b9) I1.1 hE bh b2 hV9 q8 O9 hy4 hY9 (fun h10 F10 q10 O10 s10 => ?_)
            simp (disch := omega) only [sh110, lt110, en_ops, en_opc, iI_add, iI_mul, iI_sub, jL_add, jL_mul, iI_le, iI_lt, iI_eq, iI_eq0, iI_lt0, iI_0le, iI_le0, iI_0lt, jL_iI, iI_jL, lc_eq, lc_lt, lc_le, lc_ge, lc_gt, Nat.sub_zero, Nat.zero_le, true_and, and_true, Nat.reduceAdd, Nat.reduceLeDiff]
            refine m_oversNow (d := d + 7) (b := b9) (ov := (yrP (eL W l.toNat) (zYs W y.toNat).2 (zYs W y.toNat).1 Q).2.2.1) I1.1 (fun j hj => by rw [F10 113 (by unfold Pmo; omega)]; exact bh j hj) b2.1 (fun c hc => q10.2.2.1 c hc) ?_
            have es : sumTo (zE W).2.1 (yrP (eL W l.toNat) (zYs W y.toNat).2 (zYs W y.toNat).1 Q).2.2.1 = sumTo (zE W).2.1 (zS W).1.2.2.1 + sumTo (zE W).2.1 (fun c => oyN (zVs W l.toNat) (zYs W y.toNat).2 (zYs W y.toNat).1 (zS W).1.2.2.2.2.2 c ((zS W).1.2.1 c + m)) := by
              rw [← sumTo_add]
              refine sumTo_congr (fun c hc => ?_)
              rw [lk_ov (E := eL W l.toNat) hc, ← hQ]
              show (zS W).1.2.2.1 c + oyN _ _ _ _ c (if c < (zE W).2.1 then (zS W).1.2.1 c + (m : Int) else (zS W).1.2.1 c) = _
              rw [if_pos hc]; rfl
            have h600 := hO.2.2.2
            have dl := dr_link (V := zVs W l.toNat) (Y := (zYs W y.toNat).2) (n := (zYs W y.toNat).1) (m := (m : Int)) (cr := (zS W).1.2.1) h600.1 h600.2 (zE W).2.1
            have db := sumTo_bd (n := (zE W).2.1) (g := fun c => oyN (zVs W l.toNat) (zYs W y.toNat).2 (zYs W y.toNat).1 (zS W).1.2.2.2.2.2 c ((zS W).1.2.1 c + m)) (b := 600) (fun c _ => oyN_r h600.1 h600.2)
            have esO : sumTo (eL W l.toNat).2.1 (yrP (eL W l.toNat) (zYs W y.toNat).2 (zYs W y.toNat).1 Q).2.2.1 = sumTo (zE W).2.1 (yrP (eL W l.toNat) (zYs W y.toNat).2 (zYs W y.toNat).1 Q).2.2.1 := rfl
            rw [esO, es]
            generalize sumTo (zE W).2.1 (fun c => oyN (zVs W l.toNat) (zYs W y.toNat).2 (zYs W y.toNat).1 (zS W).1.2.2.2.2.2 c ((zS W).1.2.1 c + m)) = D at *
            generalize sumTo (zE W).2.1 (zS W).1.2.2.1 = S0 at *
            have key : (iI (S0 + D) = iI S0) = (D = 0) := by
              rw [← iI_z32 (a := D) (by omega) (by omega)]
              refine propext ⟨fun g => ?_, fun g => ?_⟩
              · have : iI (S0 + D) - iI S0 = iI D := by rw [iI_sub, show S0 + D - S0 = D by omega]
                rw [← this, g, Int32.sub_self]
              · rw [← iI_add, g, Int32.add_zero]
            simp (disch := omega) only [sh110, lt110, key, en_ops, en_opc, iI_add, iI_mul, iI_sub, jL_add, jL_mul, iI_le, iI_lt, iI_eq, iI_eq0, iI_lt0, iI_0le, iI_le0, iI_0lt, jL_iI, iI_jL, lc_eq, lc_lt, lc_le, lc_ge, lc_gt, Nat.sub_zero, Nat.zero_le, true_and, and_true, Nat.reduceAdd, Nat.reduceLeDiff]
            have bk : ∀ h11, Fr (· = 115) h10 h11 → (∀ j, j < 834 → h11 115 j = h10 117 j) → RS h1 h11 := fun h11 F11 A11 => R.bk (h2 := h10) (fun x g1 g2 g3 g4 => by rw [F10 x (fun q => by rcases q.v with q | q; exact g2 q; exact g4 q.1), F9 x g2]) (fun j hj => by rw [F10 113 (by unfold Pmo; omega), F9 113 (by omega)]) (by rw [F10 117 (by unfold Pmo; omega), F9 117 (by omega)]) F11 A11
            refine ⟨fun e => m_comesBack (d := d + 7) I1.1 (fun h11 F11 A11 => ?_), fun e => m_comesBack (d := d + 7) I1.1 (fun h11 F11 A11 => ?_)⟩
            · have R11 := bk h11 F11 A11
              rw [if_neg (fun g => e (dl.mp g))] at HH
              simp (disch := omega) only [en_ops, en_opc, iI_add, iI_mul, iI_sub, jL_add, jL_mul, iI_le, iI_lt, iI_eq, iI_eq0, iI_lt0, iI_0le, iI_le0, iI_0lt, jL_iI, iI_jL, lc_eq, lc_lt, lc_le, lc_ge, lc_gt, Nat.sub_zero, Nat.zero_le, true_and, and_true, Nat.reduceAdd, Nat.reduceLeDiff]
              exact ih (m + 1) (by omega) h11 _ R11 HH
            · have R11 := bk h11 F11 A11
              rw [if_pos (dl.mpr e)] at HH
              simp (disch := omega) only [en_ops, en_opc, iI_add, iI_mul, iI_sub, jL_add, jL_mul, iI_le, iI_lt, iI_eq, iI_eq0, iI_lt0, iI_0le, iI_le0, iI_0lt, jL_iI, iI_jL, lc_eq, lc_lt, lc_le, lc_ge, lc_gt, Nat.sub_zero, Nat.zero_le, true_and, and_true, Nat.reduceAdd, Nat.reduceLeDiff]
              apply s_X11_high_48
              simp (disch := omega) only [B_X11_high_48, en_ops, en_opc, iI_add, iI_mul, iI_sub, jL_add, jL_mul, iI_le, iI_lt, iI_eq, iI_eq0, iI_lt0, iI_0le, iI_le0, iI_0lt, jL_iI, iI_jL, lc_eq, lc_lt, lc_le, lc_ge, lc_gt, Nat.sub_zero, Nat.zero_le, true_and, and_true, Nat.reduceAdd, Nat.reduceLeDiff]
              refine ⟨fun _ => HH h11 R11, fun _ => ⟨fun _ => HH h11 R11, fun e => by omega⟩⟩
          · have e9 : h9 113 0 = iI ((zE W).2.1 : Int) := by rw [F9 113 (by omega)]; exact e0
            apply s_X11_high_64
            simp (disch := omega) only [B_X11_high_64, r10, r12, sh110, lt110, sh113, lt113, sh115, lt115, en_ops, en_opc, iI_add, iI_mul, iI_sub, jL_add, jL_mul, iI_le, iI_lt, iI_eq, iI_eq0, iI_lt0, iI_0le, iI_le0, iI_0lt, jL_iI, iI_jL, lc_eq, lc_lt, lc_le, lc_ge, lc_gt, Nat.sub_zero, Nat.zero_le, true_and, and_true, Nat.reduceAdd, Nat.reduceLeDiff]
            refine ⟨0, rfl, by decide, ?_⟩
            rw [e9]
            simp (disch := omega) only [sh110, lt110, en_ops, en_opc, iI_add, iI_mul, iI_sub, jL_add, jL_mul, iI_le, iI_lt, iI_eq, iI_eq0, iI_lt0, iI_0le, iI_le0, iI_0lt, jL_iI, iI_jL, lc_eq, lc_lt, lc_le, lc_ge, lc_gt, Nat.sub_zero, Nat.zero_le, true_and, and_true, Nat.reduceAdd, Nat.reduceLeDiff]
            refine ⟨fun e => by omega, fun _ => ?_⟩
            refine ⟨576 + c, iI_eq_of (by omega), by omega, 576 + c, iI_eq_of (by omega), by omega, ?_⟩
            rw [show h9 115 (576 + c) = iI (if c < c then (zS W).1.2.1 c + (m : Int) else (zS W).1.2.1 c) from q9.2.1 c (by omega), if_neg (Nat.lt_irrefl c), iI_add]
            refine ih2 _ (Fr.up F9 rfl) (q9.cr (by omega) (fun j hj => ?_))
            by_cases g : j = c
            · subst g; rw [if_pos (by omega), if_pos rfl]
            · rw [if_neg g]
              by_cases g2 : j < c
              · rw [if_pos (by omega), if_pos g2]
              · rw [if_neg (by omega), if_neg g2]
      · simp (disch := omega) only [en_ops, en_opc, iI_add, iI_mul, iI_sub, jL_add, jL_mul, iI_le, iI_lt, iI_eq, iI_eq0, iI_lt0, iI_0le, iI_le0, iI_0lt, jL_iI, iI_jL, lc_eq, lc_lt, lc_le, lc_ge, lc_gt, Nat.sub_zero, Nat.zero_le, true_and, and_true, Nat.reduceAdd, Nat.reduceLeDiff]
        exact ⟨fun e => (e (by first | trivial | rfl)).elim, fun _ => H.no F1 (k := 3) (by omega) (by rw [if_pos e1, if_pos e2, if_neg e]) I' F' (by rw [if_pos e1, if_pos e2]; exact T')⟩
    · simp (disch := omega) only [en_ops, en_opc, iI_add, iI_mul, iI_sub, jL_add, jL_mul, iI_le, iI_lt, iI_eq, iI_eq0, iI_lt0, iI_0le, iI_le0, iI_0lt, jL_iI, iI_jL, lc_eq, lc_lt, lc_le, lc_ge, lc_gt, Nat.sub_zero, Nat.zero_le, true_and, and_true, Nat.reduceAdd, Nat.reduceLeDiff]
      exact ⟨fun _ => H.no F1 (k := 1) (by omega) (by rw [if_pos e1, if_neg e]) I' F' (by rw [if_pos e1, if_neg e]; exact T'), fun e => (e (by first | trivial | rfl)).elim⟩
  · simp (disch := omega) only [en_ops, en_opc, iI_add, iI_mul, iI_sub, jL_add, jL_mul, iI_le, iI_lt, iI_eq, iI_eq0, iI_lt0, iI_0le, iI_le0, iI_0lt, jL_iI, iI_jL, lc_eq, lc_lt, lc_le, lc_ge, lc_gt, Nat.sub_zero, Nat.zero_le, true_and, and_true, Nat.reduceAdd, Nat.reduceLeDiff]
    exact ⟨fun _ => H.no F1 (k := 1) (by omega) (by rw [if_neg e]) I' F' (by rw [if_neg e]; exact T'), fun e => (e (by first | trivial | rfl)).elim⟩
end
