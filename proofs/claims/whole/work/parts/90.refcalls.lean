section
variable {G : en_G} {d : Nat} {K : en_K} {W : zW} {n : Nat} {hi : en_I} {hl : en_L} {hr : en_F} {xc xs : Nat}
theorem rbE.wl {E : hEnv} {b b' : Nat → Int} {wl : Nat → Int} (h : rbE E b) (hE : eOK E) (e : ∀ j, j < 52 → b' j = b j) (w : ∀ c, c < 12 → b' (52 + c) = wl c) : rbE (wlE E wl) b' := by
  obtain ⟨⟨n0, n1, n2, n3⟩, hw, ⟨s1, s2⟩, ⟨l1, l2⟩, lo⟩ := h
  have ns8 := hE.2.2.1
  have nl4 := lo.1
  refine ⟨⟨by rw [e 0 (by omega)]; exact n0, by rw [e 1 (by omega)]; exact n1, n2, n3⟩, w, ⟨by rw [e 2 (by omega)]; exact s1, fun i hi9 => ?_⟩, ⟨by rw [e 3 (by omega)]; exact l1, fun i hi9 => ?_⟩, lo⟩
  · have h9 : i < E.2.2.2.2.2.1 := hi9
    rw [e _ (by omega), e _ (by omega), e _ (by omega), e _ (by omega)]
    exact s2 i hi9
  · have h9 : i < E.2.2.2.2.2.2.2 := hi9
    rw [e _ (by omega), e _ (by omega), e _ (by omega), e _ (by omega)]
    exact l2 i hi9
theorem m_ccost {l y v p c : Int} (hI : InvR G W hi hr) (hz : zOK n W) (hn : n ≤ 512) (hlr : iRg l) (hyr : iRg y) (hv : iRg v) (hp : iRg p) (hc : iRg c) (H : rEnd G W W (if (inC W c) ∧ (inC W v) ∧ (v ≠ (zE W).2.1 - 1) then if inL W l then if inY W y then if 0 ≤ p ∧ p ≤ 16 then if isNow W then 0 else 4 else 3 else 2 else 2 else 1) (if (inC W c) ∧ (inC W v) ∧ (v ≠ (zE W).2.1 - 1) then if inL W l then if inY W y then if 0 ≤ p ∧ p ≤ 16 then 4 else 3 else 2 else 2 else 1) (.int (iI 0)) (.int (iI (wP (yrP (eL W l.toNat) (zYs W y.toNat).2 (zYs W y.toNat).1 (zS W).1).1 (zE W).2.2.1 c.toNat - wP (yrP (wlE (eL W l.toNat) (bwP (zE W).2.1 (2 ^ v.toNat) p (zE W).2.2.2.1)) (zYs W y.toNat).2 (zYs W y.toNat).1 (zS W).1).1 (zE W).2.2.1 c.toNat))) K hi hl hr) : en_Call G (d + 9) xc xs Y_X11_cost wN wN [.ref 110, .int (iI l), .int (iI y), .int (iI v), .int (iI p), .int (iI c)] hi hl hr K := by
  obtain ⟨I1, F1, T1⟩ := hI.t1
  obtain ⟨⟨-, -, r10, -, r12, -⟩, -⟩ := id I1.1
  obtain ⟨nc12, nz6⟩ := hz.c
  have nl4 := hz.2.1
  have ny4 := hz.2.2.1
  apply en_X11_cost
  simp (disch := omega) only [B_X11_cost_0, sh110, lt110, en_ops, en_opc, iI_add, iI_mul, iI_sub, jL_add, jL_mul, iI_le, iI_lt, iI_eq, iI_eq0, iI_lt0, iI_0le, iI_le0, iI_0lt, jL_iI, iI_jL, lc_eq, lc_lt, lc_le, lc_ge, lc_gt, Nat.sub_zero, Nat.zero_le, true_and, and_true, Nat.reduceAdd, Nat.reduceLeDiff]
  generalize en_up hi 110 0 (iI 0) = h1 at *
  obtain ⟨b9, b1, b2⟩ := I1.e
  have e0 : h1 113 0 = iI ((zE W).2.1 : Int) := by rw [b1 0 (by omega), b2.1.1]
  simp (disch := omega) only [r10, sh110, lt110, sh113, lt113, en_ops, en_opc, iI_add, iI_mul, iI_sub, jL_add, jL_mul, iI_le, iI_lt, iI_eq, iI_eq0, iI_lt0, iI_0le, iI_le0, iI_0lt, jL_iI, iI_jL, lc_eq, lc_lt, lc_le, lc_ge, lc_gt, Nat.sub_zero, Nat.zero_le, true_and, and_true, Nat.reduceAdd, Nat.reduceLeDiff]
  refine ⟨0, rfl, by decide, ?_⟩
  rw [e0]
  simp (disch := omega) only [en_ops, en_opc, iI_add, iI_mul, iI_sub, jL_add, jL_mul, iI_le, iI_lt, iI_eq, iI_eq0, iI_lt0, iI_0le, iI_le0, iI_0lt, jL_iI, iI_jL, lc_eq, lc_lt, lc_le, lc_ge, lc_gt, Nat.sub_zero, Nat.zero_le, true_and, and_true, Nat.reduceAdd, Nat.reduceLeDiff]
  refine m_within hv.1 hv.2 (by decide) (by decide) (by omega) (by omega) ?_
  by_cases ev0 : ¬ (0 ≤ v ∧ v ≤ ((zE W).2.1 : Int) - 2)
  · rw [if_neg ev0]
    simp (disch := omega) only [sh110, lt110, en_ops, en_opc, iI_add, iI_mul, iI_sub, jL_add, jL_mul, iI_le, iI_lt, iI_eq, iI_eq0, iI_lt0, iI_0le, iI_le0, iI_0lt, jL_iI, iI_jL, lc_eq, lc_lt, lc_le, lc_ge, lc_gt, Nat.sub_zero, Nat.zero_le, true_and, and_true, Nat.reduceAdd, Nat.reduceLeDiff]
    refine m_may (d := d + 7) (code := 1) (k := 0) I1 T1 (Or.inl rfl) (by omega) (by omega) (fun e => absurd e (by decide)) (fun _ hi' I' F' T' => ?_)
    simp (disch := omega) only [en_ops, en_opc, iI_add, iI_mul, iI_sub, jL_add, jL_mul, iI_le, iI_lt, iI_eq, iI_eq0, iI_lt0, iI_0le, iI_le0, iI_0lt, jL_iI, iI_jL, lc_eq, lc_lt, lc_le, lc_ge, lc_gt, Nat.sub_zero, Nat.zero_le, true_and, and_true, Nat.reduceAdd, Nat.reduceLeDiff]
    exact ⟨fun _ => H.no F1 (k := 0) (by omega) (by rw [if_neg (fun g => by omega)]) I' F' (by rw [if_neg (fun g => by omega)]; exact T'), fun e => (e (by first | trivial | rfl)).elim⟩
  have ev := Classical.not_not.mp ev0
  rw [if_pos ev]
  simp (disch := omega) only [sh110, lt110, en_ops, en_opc, iI_add, iI_mul, iI_sub, jL_add, jL_mul, iI_le, iI_lt, iI_eq, iI_eq0, iI_lt0, iI_0le, iI_le0, iI_0lt, jL_iI, iI_jL, lc_eq, lc_lt, lc_le, lc_ge, lc_gt, Nat.sub_zero, Nat.zero_le, true_and, and_true, Nat.reduceAdd, Nat.reduceLeDiff]
  refine m_may (d := d + 7) (code := 1) (k := 0) I1 T1 (Or.inr rfl) (by omega) (by omega) (fun _ => ?_) (fun e => absurd e (by decide))
  simp (disch := omega) only [sh110, lt110, en_ops, en_opc, iI_add, iI_mul, iI_sub, jL_add, jL_mul, iI_le, iI_lt, iI_eq, iI_eq0, iI_lt0, iI_0le, iI_le0, iI_0lt, jL_iI, iI_jL, lc_eq, lc_lt, lc_le, lc_ge, lc_gt, Nat.sub_zero, Nat.zero_le, true_and, and_true, Nat.reduceAdd, Nat.reduceLeDiff]
  refine ⟨fun e => absurd e (by decide), fun _ => m_isCell (d := d + 6) (code := 1) I1 hz T1 hc (by omega) (fun e1c => ?_) (fun e hi' I' F' T' => ?_)⟩
  · have e1 : (inC W c) ∧ (inC W v) ∧ (v ≠ (zE W).2.1 - 1) := ⟨e1c, by omega, by omega⟩
    simp (disch := omega) only [sh110, lt110, en_ops, en_opc, iI_add, iI_mul, iI_sub, jL_add, jL_mul, iI_le, iI_lt, iI_eq, iI_eq0, iI_lt0, iI_0le, iI_le0, iI_0lt, jL_iI, iI_jL, lc_eq, lc_lt, lc_le, lc_ge, lc_gt, Nat.sub_zero, Nat.zero_le, true_and, and_true, Nat.reduceAdd, Nat.reduceLeDiff]
    refine ⟨fun e => absurd e (by decide), fun _ => m_isLaw (d := d + 6) (code := 2) I1 hz T1 hlr (by omega) (fun e2 => ?_) (fun e hi' I' F' T' => ?_)⟩
    · simp (disch := omega) only [sh110, lt110, en_ops, en_opc, iI_add, iI_mul, iI_sub, jL_add, jL_mul, iI_le, iI_lt, iI_eq, iI_eq0, iI_lt0, iI_0le, iI_le0, iI_0lt, jL_iI, iI_jL, lc_eq, lc_lt, lc_le, lc_ge, lc_gt, Nat.sub_zero, Nat.zero_le, true_and, and_true, Nat.reduceAdd, Nat.reduceLeDiff]
      refine ⟨fun e => absurd e (by decide), fun _ => m_isYear (d := d + 6) (code := 2) I1 hz T1 hyr (by omega) (fun e3 => ?_) (fun e hi' I' F' T' => ?_)⟩
      · simp (disch := omega) only [sh110, lt110, en_ops, en_opc, iI_add, iI_mul, iI_sub, jL_add, jL_mul, iI_le, iI_lt, iI_eq, iI_eq0, iI_lt0, iI_0le, iI_le0, iI_0lt, jL_iI, iI_jL, lc_eq, lc_lt, lc_le, lc_ge, lc_gt, Nat.sub_zero, Nat.zero_le, true_and, and_true, Nat.reduceAdd, Nat.reduceLeDiff]
        refine ⟨fun e => absurd e (by decide), fun _ => m_within hp.1 hp.2 (by decide) (by decide) (by decide) (by decide) ?_⟩
        by_cases e4 : 0 ≤ p ∧ p ≤ 16
        · rw [if_pos e4]
          simp (disch := omega) only [sh110, lt110, en_ops, en_opc, iI_add, iI_mul, iI_sub, jL_add, jL_mul, iI_le, iI_lt, iI_eq, iI_eq0, iI_lt0, iI_0le, iI_le0, iI_0lt, jL_iI, iI_jL, lc_eq, lc_lt, lc_le, lc_ge, lc_gt, Nat.sub_zero, Nat.zero_le, true_and, and_true, Nat.reduceAdd, Nat.reduceLeDiff]
          refine m_may (d := d + 7) (code := 3) (k := 2) I1 T1 (Or.inr rfl) (by omega) (by omega) (fun _ => ?_) (fun e => absurd e (by decide))
          simp (disch := omega) only [sh110, lt110, en_ops, en_opc, iI_add, iI_mul, iI_sub, jL_add, jL_mul, iI_le, iI_lt, iI_eq, iI_eq0, iI_lt0, iI_0le, iI_le0, iI_0lt, jL_iI, iI_jL, lc_eq, lc_lt, lc_le, lc_ge, lc_gt, Nat.sub_zero, Nat.zero_le, true_and, and_true, Nat.reduceAdd, Nat.reduceLeDiff]
          refine ⟨fun e => absurd e (by decide), fun _ => m_isNow (d := d + 6) (code := 4) I1 hz T1 (by omega) (fun e5 => ?_) (fun e hi' I' F' T' => ?_)⟩
          · simp (disch := omega) only [sh110, lt110, en_ops, en_opc, iI_add, iI_mul, iI_sub, jL_add, jL_mul, iI_le, iI_lt, iI_eq, iI_eq0, iI_lt0, iI_0le, iI_le0, iI_0lt, jL_iI, iI_jL, lc_eq, lc_lt, lc_le, lc_ge, lc_gt, Nat.sub_zero, Nat.zero_le, true_and, and_true, Nat.reduceAdd, Nat.reduceLeDiff]
            have Hx := H.1 (by rw [if_pos e1, if_pos e2, if_pos e3, if_pos e4, if_pos e5])
            obtain ⟨hE, -, hV, hq, hO⟩ := InvR.gol (l := l.toNat) I1 hz hn (by omega) e5.1
            obtain ⟨hy4, hY⟩ := InvR.yr (y := y.toNat) I1 hz (by omega)
            have b2' : rbE (eL W l.toNat) b9 := b2
            have sB : ∀ h, RS h1 h → rfB b9 h := fun h R j hj => by rw [R.2.1 j hj]; exact b1 j hj
            have sV : ∀ h, RS h1 h → rwV G l.toNat (eL W l.toNat).1 h := fun h R => hV.mono (rwE.of (fun x g1 g2 => by rw [R.1 x (by omega) (by omega) (by unfold Psr; omega)]))
            have sY : ∀ h, RS h1 h → ryH y.toNat (zYs W y.toNat).1 (zYs W y.toNat).2 h := fun h R => (InvR.yr (I1.rs hz R) hz (by omega)).2
            have sQ : ∀ h, RS h1 h → rsH (zS W).1 h := fun h R => (I1.rs hz R).xr.1
            rw [show iI l = iI ((l.toNat : Nat) : Int) from iI_eq_of (by omega), show iI y = iI ((y.toNat : Nat) : Int) from iI_eq_of (by omega)]
            simp (disch := omega) only [r10, sh110, lt110, sh113, lt113, en_ops, en_opc, iI_add, iI_mul, iI_sub, jL_add, jL_mul, iI_le, iI_lt, iI_eq, iI_eq0, iI_lt0, iI_0le, iI_le0, iI_0lt, jL_iI, iI_jL, lc_eq, lc_lt, lc_le, lc_ge, lc_gt, Nat.sub_zero, Nat.zero_le, true_and, and_true, Nat.reduceAdd, Nat.reduceLeDiff]
            have wlv : h1 113 (52 + v.toNat) = iI ((zE W).2.2.2.1 v.toNat) := by rw [b1 _ (by omega), b2.2.1 _ (by omega)]
            refine ⟨fun _ => ⟨52 + v.toNat, iI_eq_of (by omega), by omega, ?_⟩, fun e => absurd e (by decide)⟩
            rw [wlv, show iI c = iI ((c.toNat : Nat) : Int) from iI_eq_of (by omega)]
            refine m_keeps (d := d + 7) I1.1 (fun h2 F2 A2 => ?_)
            have R2 := RS.kp F2 A2
            simp (disch := omega) only [sh110, lt110, en_ops, en_opc, iI_add, iI_mul, iI_sub, jL_add, jL_mul, iI_le, iI_lt, iI_eq, iI_eq0, iI_lt0, iI_0le, iI_le0, iI_0lt, jL_iI, iI_jL, lc_eq, lc_lt, lc_le, lc_ge, lc_gt, Nat.sub_zero, Nat.zero_le, true_and, and_true, Nat.reduceAdd, Nat.reduceLeDiff]
            refine m_runs (d := d + 1) (b := b9) I1.1 hE (sB h2 R2) b2' (sV h2 R2) (sQ h2 R2) hO hy4 (sY h2 R2) (fun h8 F8 q8 O8 s8 => ?_)
            simp (disch := omega) only [sh110, lt110, en_ops, en_opc, iI_add, iI_mul, iI_sub, jL_add, jL_mul, iI_le, iI_lt, iI_eq, iI_eq0, iI_lt0, iI_0le, iI_le0, iI_0lt, jL_iI, iI_jL, lc_eq, lc_lt, lc_le, lc_ge, lc_gt, Nat.sub_zero, Nat.zero_le, true_and, and_true, Nat.reduceAdd, Nat.reduceLeDiff]
            refine m_wholeOf (d := d + 5) (b := b9) I1.1 q8.1 (fun j hj => by rw [F8 113 (by unfold Pmo; omega)]; exact sB h2 R2 j hj) b2.1 (by omega) ?_
            simp (disch := omega) only [sh110, lt110, en_ops, en_opc, iI_add, iI_mul, iI_sub, jL_add, jL_mul, iI_le, iI_lt, iI_eq, iI_eq0, iI_lt0, iI_0le, iI_le0, iI_0lt, jL_iI, iI_jL, lc_eq, lc_lt, lc_le, lc_ge, lc_gt, Nat.sub_zero, Nat.zero_le, true_and, and_true, Nat.reduceAdd, Nat.reduceLeDiff]
            refine m_comesBack (d := d + 7) I1.1 (fun h9 F9 A9 => ?_)
            have R9 := R2.mo F8 F9 A9
            simp (disch := omega) only [r10, sh110, lt110, sh113, lt113, en_ops, en_opc, iI_add, iI_mul, iI_sub, jL_add, jL_mul, iI_le, iI_lt, iI_eq, iI_eq0, iI_lt0, iI_0le, iI_le0, iI_0lt, jL_iI, iI_jL, lc_eq, lc_lt, lc_le, lc_ge, lc_gt, Nat.sub_zero, Nat.zero_le, true_and, and_true, Nat.reduceAdd, Nat.reduceLeDiff]
            refine ⟨52 + v.toNat, iI_eq_of (by omega), by omega, ?_⟩
            generalize hg : en_up h9 113 (52 + v.toNat) (iI p) = h10
            have F10 : Fr (· = 113) h9 h10 := by rw [← hg]; exact Fr.up Fr.rf rfl
            have b10 : rfB (fun j => if j = 52 + v.toNat then p else b9 j) h10 := fun j hj => by
              show h10 113 j = iI (if j = 52 + v.toNat then p else b9 j)
              by_cases q : j = 52 + v.toNat
              · rw [if_pos q, q, ← hg, up_at]
              · rw [if_neg q, ← hg, up_ne (Or.inr q)]; exact sB h9 R9 j hj
            have wlr := hE.2.1
            have rb10 : rbE (wlE (eL W l.toNat) (bwP (zE W).2.1 (2 ^ v.toNat) p (zE W).2.2.2.1)) (fun j => if j = 52 + v.toNat then p else b9 j) := b2'.wl hE (fun j hj => if_neg (by omega)) (fun c hc => by
              show (if 52 + c = 52 + v.toNat then p else b9 (52 + c)) = _
              rw [bw_one (by omega)]
              by_cases q : c = v.toNat
              · rw [if_pos q, if_pos (by omega)]
              · rw [if_neg q, if_neg (by omega)]; exact b2.2.1 c hc)
            refine m_runs (d := d + 1) (b := fun j => if j = 52 + v.toNat then p else b9 j) (E := wlE (eL W l.toNat) (bwP (zE W).2.1 (2 ^ v.toNat) p (zE W).2.2.2.1)) I1.1 (hE.wl (bwP_r e4 wlr)) b10 rb10 ((sV h9 R9).mono (rwE.of (fun x g1 g2 => F10 x (by omega)))) (q := (zS W).1) ?_ hO hy4 ((sY h9 R9).fr F10 (fun x g1 g2 g => by omega)) (fun h11 F11 q11 O11 s11 => ?_)
            · obtain ⟨y1, y2, y3, y4, y5, y6, y7⟩ := sQ h9 R9
              have e15 : h10 115 = h9 115 := F10 115 (by omega)
              refine ⟨fun c z k hc hz hk => by rw [e15]; exact y1 c z k hc hz hk, fun c hc => by rw [e15]; exact y2 c hc, fun c hc => by rw [e15]; exact y3 c hc, fun i hi9 => by rw [e15]; exact y4 i hi9, by rw [e15]; exact y5, by rw [e15]; exact y6, fun j hj g => by rw [e15]; exact y7 j hj g⟩
            simp (disch := omega) only [sh110, lt110, en_ops, en_opc, iI_add, iI_mul, iI_sub, jL_add, jL_mul, iI_le, iI_lt, iI_eq, iI_eq0, iI_lt0, iI_0le, iI_le0, iI_0lt, jL_iI, iI_jL, lc_eq, lc_lt, lc_le, lc_ge, lc_gt, Nat.sub_zero, Nat.zero_le, true_and, and_true, Nat.reduceAdd, Nat.reduceLeDiff]
            refine m_wholeOf (d := d + 5) (b := fun j => if j = 52 + v.toNat then p else b9 j) I1.1 q11.1 (fun j hj => by rw [F11 113 (by unfold Pmo; omega)]; exact b10 j hj) rb10.1 (by omega) ?_
            simp (disch := omega) only [sh110, lt110, en_ops, en_opc, iI_add, iI_mul, iI_sub, jL_add, jL_mul, iI_le, iI_lt, iI_eq, iI_eq0, iI_lt0, iI_0le, iI_le0, iI_0lt, jL_iI, iI_jL, lc_eq, lc_lt, lc_le, lc_ge, lc_gt, Nat.sub_zero, Nat.zero_le, true_and, and_true, Nat.reduceAdd, Nat.reduceLeDiff]
            refine m_comesBack (d := d + 7) I1.1 (fun h13 F13 A13 => ?_)
            simp (disch := omega) only [r10, sh110, lt110, sh113, lt113, en_ops, en_opc, iI_add, iI_mul, iI_sub, jL_add, jL_mul, iI_le, iI_lt, iI_eq, iI_eq0, iI_lt0, iI_0le, iI_le0, iI_0lt, jL_iI, iI_jL, lc_eq, lc_lt, lc_le, lc_ge, lc_gt, Nat.sub_zero, Nat.zero_le, true_and, and_true, Nat.reduceAdd, Nat.reduceLeDiff]
            refine ⟨52 + v.toNat, iI_eq_of (by omega), by omega, ?_⟩
            have R14 : RS h1 (en_up h13 113 (52 + v.toNat) (iI ((zE W).2.2.2.1 v.toNat))) := by
              obtain ⟨r1, r2, r3, r4⟩ := R9
              have e17 : h11 117 = h9 117 := by rw [F11 117 (by unfold Pmo; omega), F10 117 (by omega)]
              refine ⟨fun x g1 g2 g3 => ?_, fun j hj => ?_, fun j hj => ?_, fun j hj => ?_⟩
              · rw [up_row g1, F13 x g2, F11 x (fun q => by rcases q.v with q | q; exact g2 q; exact g3 q.1), F10 x g1]; exact r1 x g1 g2 g3
              · by_cases q : j = 52 + v.toNat
                · rw [q, up_at, wlv]
                · rw [up_ne (Or.inr q), F13 113 (by omega), F11 113 (by unfold Pmo; omega), ← hg, up_ne (Or.inr q)]; exact r2 j hj
              · rw [up_row (by omega), F13 117 (by omega), e17]; exact r3 j hj
              · rw [up_row (by omega), A13 j hj, e17]; exact r3 j hj
            exact Hx _ (I1.rs hz R14) (F1.tr R14.m) (R14.t T1)
          · simp (disch := omega) only [en_ops, en_opc, iI_add, iI_mul, iI_sub, jL_add, jL_mul, iI_le, iI_lt, iI_eq, iI_eq0, iI_lt0, iI_0le, iI_le0, iI_0lt, jL_iI, iI_jL, lc_eq, lc_lt, lc_le, lc_ge, lc_gt, Nat.sub_zero, Nat.zero_le, true_and, and_true, Nat.reduceAdd, Nat.reduceLeDiff]
            exact ⟨fun e => (e (by first | trivial | rfl)).elim, fun _ => H.no F1 (k := 3) (by omega) (by rw [if_pos e1, if_pos e2, if_pos e3, if_pos e4, if_neg e]) I' F' (by rw [if_pos e1, if_pos e2, if_pos e3, if_pos e4]; exact T')⟩
        · rw [if_neg e4]
          simp (disch := omega) only [sh110, lt110, en_ops, en_opc, iI_add, iI_mul, iI_sub, jL_add, jL_mul, iI_le, iI_lt, iI_eq, iI_eq0, iI_lt0, iI_0le, iI_le0, iI_0lt, jL_iI, iI_jL, lc_eq, lc_lt, lc_le, lc_ge, lc_gt, Nat.sub_zero, Nat.zero_le, true_and, and_true, Nat.reduceAdd, Nat.reduceLeDiff]
          refine m_may (d := d + 7) (code := 3) (k := 2) I1 T1 (Or.inl rfl) (by omega) (by omega) (fun e => absurd e (by decide)) (fun _ hi' I' F' T' => ?_)
          simp (disch := omega) only [en_ops, en_opc, iI_add, iI_mul, iI_sub, jL_add, jL_mul, iI_le, iI_lt, iI_eq, iI_eq0, iI_lt0, iI_0le, iI_le0, iI_0lt, jL_iI, iI_jL, lc_eq, lc_lt, lc_le, lc_ge, lc_gt, Nat.sub_zero, Nat.zero_le, true_and, and_true, Nat.reduceAdd, Nat.reduceLeDiff]
          exact ⟨fun _ => H.no F1 (k := 2) (by omega) (by rw [if_pos e1, if_pos e2, if_pos e3, if_neg e4]) I' F' (by rw [if_pos e1, if_pos e2, if_pos e3, if_neg e4]; exact T'), fun e => (e (by first | trivial | rfl)).elim⟩
      · simp (disch := omega) only [en_ops, en_opc, iI_add, iI_mul, iI_sub, jL_add, jL_mul, iI_le, iI_lt, iI_eq, iI_eq0, iI_lt0, iI_0le, iI_le0, iI_0lt, jL_iI, iI_jL, lc_eq, lc_lt, lc_le, lc_ge, lc_gt, Nat.sub_zero, Nat.zero_le, true_and, and_true, Nat.reduceAdd, Nat.reduceLeDiff]
        exact ⟨fun _ => H.no F1 (k := 1) (by omega) (by rw [if_pos e1, if_pos e2, if_neg e]) I' F' (by rw [if_pos e1, if_pos e2, if_neg e]; exact T'), fun e => (e (by first | trivial | rfl)).elim⟩
    · simp (disch := omega) only [en_ops, en_opc, iI_add, iI_mul, iI_sub, jL_add, jL_mul, iI_le, iI_lt, iI_eq, iI_eq0, iI_lt0, iI_0le, iI_le0, iI_0lt, jL_iI, iI_jL, lc_eq, lc_lt, lc_le, lc_ge, lc_gt, Nat.sub_zero, Nat.zero_le, true_and, and_true, Nat.reduceAdd, Nat.reduceLeDiff]
      exact ⟨fun _ => H.no F1 (k := 1) (by omega) (by rw [if_pos e1, if_neg e]) I' F' (by rw [if_pos e1, if_neg e]; exact T'), fun e => (e (by first | trivial | rfl)).elim⟩
  · simp (disch := omega) only [en_ops, en_opc, iI_add, iI_mul, iI_sub, jL_add, jL_mul, iI_le, iI_lt, iI_eq, iI_eq0, iI_lt0, iI_0le, iI_le0, iI_0lt, jL_iI, iI_jL, lc_eq, lc_lt, lc_le, lc_ge, lc_gt, Nat.sub_zero, Nat.zero_le, true_and, and_true, Nat.reduceAdd, Nat.reduceLeDiff]
    exact ⟨fun _ => H.no F1 (k := 0) (by omega) (by rw [if_neg (fun g => e g.1)]) I' F' (by rw [if_neg (fun g => e g.1)]; exact T'), fun e => (e (by first | trivial | rfl)).elim⟩
end
