section
variable {G : en_G} {d : Nat} {K : en_K} {W : zW} {n : Nat} {hi : en_I} {hl : en_L} {hr : en_F} {xc xs : Nat}
/-- the reference's state is again what it was, and is kept -/
def RS (h1 h : en_I) : Prop := (∀ x, x ≠ 113 → x ≠ 115 → ¬ Psr x → h x = h1 x) ∧ (∀ j, j < 76 → h 113 j = h1 113 j) ∧ (∀ j, j < 834 → h 117 j = h1 115 j) ∧ ∀ j, j < 834 → h 115 j = h1 115 j
theorem InvR.rs {h1 h : en_I} (hI : InvR G W h1 hr) (hz : zOK n W) (R : RS h1 h) : InvR G W h hr := by
  obtain ⟨hR, ⟨a1, a2⟩, a3, a4, a5, a6, a7, a8, a9, ⟨b, a10, a11⟩, a12, a13⟩ := hI
  obtain ⟨e, e13, -, e15⟩ := R
  have e0 : h 110 = h1 110 := e 110 (by omega) (by omega) (by unfold Psr; omega)
  refine ⟨hR, ⟨by rw [e0]; exact a1, fun j hj => by rw [e 112 (by omega) (by omega) (by unfold Psr; omega)]; exact a2 j hj⟩, by rw [e0]; exact a3, by rw [e0]; exact a4, by rw [e0]; exact a5, by rw [e0]; exact a6, fun k hk => by rw [e 111 (by omega) (by omega) (by unfold Psr; omega)]; exact a7 k hk, fun l hl => (a8 l hl).mono (rwE.of (fun x g1 g2 => by rw [e x (by omega) (by omega) (by unfold Psr; omega)])), fun y hy => ?_, ⟨b, fun j hj => by rw [e13 j hj]; exact a10 j hj, a11⟩, a12.cg (InvR.nh hz).1 e15, fun i hi9 => by rw [e 118 (by omega) (by omega) (by unfold Psr; omega)]; exact a13 i hi9⟩
  obtain ⟨y1, y2, y3⟩ := a9 y hy
  refine ⟨by rw [e 125 (by omega) (by omega) (by unfold Psr; omega)]; exact y1, y2, fun i hi9 => ?_⟩
  rw [e 126 (by omega) (by omega) (by unfold Psr; omega), e 127 (by omega) (by omega) (by unfold Psr; omega), e 128 (by omega) (by omega) (by unfold Psr; omega), e 129 (by omega) (by omega) (by unfold Psr; omega)]
  exact y3 i hi9
theorem RS.m {h1 h : en_I} (R : RS h1 h) : Fm h1 h := fun x hx => R.1 x (by omega) (by omega) (by unfold Psr; omega)
theorem RS.t {h1 h : en_I} (R : RS h1 h) (T : h1 110 0 = iI 0) : h 110 0 = iI 0 := by rw [R.1 110 (by omega) (by omega) (by unfold Psr; omega)]; exact T
theorem RS.kp {h1 h2 : en_I} (F : Fr (· = 117) h1 h2) (A : ∀ j, j < 834 → h2 117 j = h1 115 j) : RS h1 h2 := ⟨fun x _ _ g3 => F x (fun g => g3 (by unfold Psr; omega)), fun j _ => by rw [F 113 (by omega)], A, fun j _ => by rw [F 115 (by omega)]⟩
/-- a trial: from the kept state, over rows that it may touch, and back -/
theorem RS.bk {h1 h h2 h3 : en_I} (R : RS h1 h) (e : ∀ x, x ≠ 113 → x ≠ 115 → x ≠ 117 → ¬ Psr x → h2 x = h x) (e13 : ∀ j, j < 76 → h2 113 j = h 113 j) (e17 : h2 117 = h 117) (F : Fr (· = 115) h2 h3) (A : ∀ j, j < 834 → h3 115 j = h2 117 j) : RS h1 h3 := by
  obtain ⟨r1, r2, r3, r4⟩ := R
  refine ⟨fun x g1 g2 g3 => ?_, fun j hj => by rw [F 113 (by omega), e13 j hj]; exact r2 j hj, fun j hj => by rw [F 117 (by omega), e17]; exact r3 j hj, fun j hj => by rw [A j hj, e17]; exact r3 j hj⟩
  rw [F x g2, e x g1 g2 (fun q => g3 (by unfold Psr; omega)) g3]
  exact r1 x g1 g2 g3
theorem Pmo.v {x : Nat} (h : Pmo x) : x = 115 ∨ (Psr x ∧ x ≠ 117) := by unfold Pmo at h; unfold Psr; omega
theorem RS.mo {h1 h h2 h3 : en_I} (R : RS h1 h) (F : Fr Pmo h h2) (F3 : Fr (· = 115) h2 h3) (A : ∀ j, j < 834 → h3 115 j = h2 117 j) : RS h1 h3 :=
  R.bk (fun x g1 g2 _ g3 => F x (fun q => by rcases q.v with q | q; exact g2 q; exact g3 q.1)) (fun j _ => by rw [F 113 (by unfold Pmo; omega)]) (F 117 (by unfold Pmo; omega)) F3 A
/-- what a trial under law l and year y starts from -/
theorem InvR.gol {l : Nat} (hI : InvR G W hi hr) (hz : zOK n W) (hn : n ≤ 512) (hl9 : l < zNl W) (h0 : (zE W).2.1 ≠ 0) : eOK (eL W l) ∧ (∃ b, rfB b hi ∧ rbE (eL W l) b) ∧ rwV G l (eL W l).1 hi ∧ rsH (zS W).1 hi ∧ hOK (eL W l) (zS W).1 := by
  obtain ⟨z1, z2, z3, z4, z5, z6, z7, z8, z9, z10, z11⟩ := id hz
  exact ⟨z7.e z5 hl9, hI.e, hI.2.2.2.2.2.2.2.1 l hl9, hI.xr.1, z10.h hn h0⟩
theorem InvR.yr {y : Nat} (hI : InvR G W hi hr) (hz : zOK n W) (hy9 : y < zNy W) : y < 4 ∧ ryH y (zYs W y).1 (zYs W y).2 hi := by
  have z3 := hz.2.2.1
  exact ⟨by omega, hI.2.2.2.2.2.2.2.2.1 y hy9⟩
theorem xrH.q {q : hSt} {s : zSh} {F F' : Nat → Int32} (h : xrH s F) (hs : s.2.1 ≤ 4) (hq : rsH q (fun _ => F')) (e : ∀ j, 630 ≤ j → j ≠ 833 → F' j = F j) : xrH (q, s.2) F' := by
  obtain ⟨-, x1, x2, x3⟩ := h
  exact ⟨hq, (e _ (by omega) (by omega)).trans x1, fun i hi9 => by have h9 : i < s.2.1 := hi9; exact ⟨(e _ (by omega) (by omega)).trans (x2 i hi9).1, (e _ (by omega) (by omega)).trans (x2 i hi9).2⟩, fun c z hc hz => (e _ (by omega) (by omega)).trans (x3 c z hc hz)⟩
theorem m_cwave {l h b f : Int} (hI : InvR G W hi hr) (hz : zOK n W) (hn : n ≤ 512) (hlr : iRg l) (hh : iRg h) (hb : iRg b) (hf : iRg f) {r code : Nat} (hr0 : inL W l → wvB h b f → isNow W → r = 0) (hr1 : ¬ inL W l → r = 2 ∧ code = 1) (hr2 : inL W l → ¬ wvB h b f → r = 3 ∧ code = 2) (hr3 : inL W l → wvB h b f → ¬ isNow W → r = 4 ∧ code = 3)
    (H : rEnd G W (zPut W (hrP (eL W l.toNat) (h, b, f) (zS W).1, (zS W).2)) r code (.int (iI 0)) (.int (iI (hmP (eL W l.toNat) (h, b, f) (zS W).1))) K hi hl hr) : en_Call G (d + 7) xc xs Y_X11_wave wN wN [.ref 110, .int (iI l), .int (iI h), .int (iI b), .int (iI f)] hi hl hr K := by
  obtain ⟨I1, F1, T1⟩ := hI.t1
  have nl4 := hz.2.1
  apply en_X11_wave
  simp (disch := omega) only [B_X11_wave_0, sh110, lt110, en_ops, en_opc, iI_add, iI_mul, iI_sub, jL_add, jL_mul, iI_le, iI_lt, iI_eq, iI_eq0, iI_lt0, iI_0le, iI_le0, iI_0lt, jL_iI, iI_jL, lc_eq, lc_lt, lc_le, lc_ge, lc_gt, Nat.sub_zero, Nat.zero_le, true_and, and_true, Nat.reduceAdd, Nat.reduceLeDiff]
  generalize en_up hi 110 0 (iI 0) = h1 at *
  refine m_isLaw (d := d + 4) (code := 1) I1 hz T1 hlr (by omega) (fun e1 => ?_) (fun e hi' I' F' T' => ?_)
  · simp (disch := omega) only [sh110, lt110, en_ops, en_opc, iI_add, iI_mul, iI_sub, jL_add, jL_mul, iI_le, iI_lt, iI_eq, iI_eq0, iI_lt0, iI_0le, iI_le0, iI_0lt, jL_iI, iI_jL, lc_eq, lc_lt, lc_le, lc_ge, lc_gt, Nat.sub_zero, Nat.zero_le, true_and, and_true, Nat.reduceAdd, Nat.reduceLeDiff]
    refine ⟨fun e => absurd e (by decide), fun _ => m_isWave (d := d + 4) hh hb hf (fun r1 hr9 => ?_)⟩
    rcases hr9 with ⟨rfl, hw⟩ | ⟨rfl, hw⟩
    · simp (disch := omega) only [sh110, lt110, en_ops, en_opc, iI_add, iI_mul, iI_sub, jL_add, jL_mul, iI_le, iI_lt, iI_eq, iI_eq0, iI_lt0, iI_0le, iI_le0, iI_0lt, jL_iI, iI_jL, lc_eq, lc_lt, lc_le, lc_ge, lc_gt, Nat.sub_zero, Nat.zero_le, true_and, and_true, Nat.reduceAdd, Nat.reduceLeDiff]
      refine m_may (d := d + 5) (code := 2) (k := 2) I1 T1 (Or.inr rfl) (by omega) (by omega) (fun _ => ?_) (fun e => absurd e (by decide))
      simp (disch := omega) only [sh110, lt110, en_ops, en_opc, iI_add, iI_mul, iI_sub, jL_add, jL_mul, iI_le, iI_lt, iI_eq, iI_eq0, iI_lt0, iI_0le, iI_le0, iI_0lt, jL_iI, iI_jL, lc_eq, lc_lt, lc_le, lc_ge, lc_gt, Nat.sub_zero, Nat.zero_le, true_and, and_true, Nat.reduceAdd, Nat.reduceLeDiff]
      refine ⟨fun e => absurd e (by decide), fun _ => m_isNow (d := d + 4) (code := 3) I1 hz T1 (by omega) (fun e5 => ?_) (fun e hi' I' F' T' => ?_)⟩
      · obtain ⟨hE, ⟨b9, b1, b2⟩, hV, hq, hO⟩ := InvR.gol (l := l.toNat) I1 hz hn (by omega) e5.1
        rw [show iI l = iI ((l.toNat : Nat) : Int) from iI_eq_of (by omega)]
        simp (disch := omega) only [sh110, lt110, en_ops, en_opc, iI_add, iI_mul, iI_sub, jL_add, jL_mul, iI_le, iI_lt, iI_eq, iI_eq0, iI_lt0, iI_0le, iI_le0, iI_0lt, jL_iI, iI_jL, lc_eq, lc_lt, lc_le, lc_ge, lc_gt, Nat.sub_zero, Nat.zero_le, true_and, and_true, Nat.reduceAdd, Nat.reduceLeDiff]
        obtain ⟨hw1, hw2, hw3⟩ := id hw
        refine ⟨fun _ => m_hour (d := d) (b := b9) (w := (h, b, f)) I1.1 hE b1 b2 hV hq hO e5.2 ⟨hw1, hw2, by show f = 0 ∨ f = 1; omega⟩ (fun h8 F8 q8 O8 s8 => ?_), fun e => absurd e (by decide)⟩
        simp (disch := omega) only [en_ops, en_opc, iI_add, iI_mul, iI_sub, jL_add, jL_mul, iI_le, iI_lt, iI_eq, iI_eq0, iI_lt0, iI_0le, iI_le0, iI_0lt, jL_iI, iI_jL, lc_eq, lc_lt, lc_le, lc_ge, lc_gt, Nat.sub_zero, Nat.zero_le, true_and, and_true, Nat.reduceAdd, Nat.reduceLeDiff]
        exact H.pt (hr0 e1 hw e5) I1 F1 T1 F8 (fun x g => by rcases g.v with q | q; exact Or.inl q; exact Or.inr q.1) (I1.xr.q (InvR.nh hz).1 q8 s8)
      · obtain ⟨q1, q2⟩ := hr3 e1 hw e
        simp (disch := omega) only [en_ops, en_opc, iI_add, iI_mul, iI_sub, jL_add, jL_mul, iI_le, iI_lt, iI_eq, iI_eq0, iI_lt0, iI_0le, iI_le0, iI_0lt, jL_iI, iI_jL, lc_eq, lc_lt, lc_le, lc_ge, lc_gt, Nat.sub_zero, Nat.zero_le, true_and, and_true, Nat.reduceAdd, Nat.reduceLeDiff]
        exact ⟨fun e => (e (by first | trivial | rfl)).elim, fun _ => H.no F1 (by omega) q1 I' F' (by rw [q2]; exact T')⟩
    · obtain ⟨q1, q2⟩ := hr2 e1 hw
      simp (disch := omega) only [sh110, lt110, en_ops, en_opc, iI_add, iI_mul, iI_sub, jL_add, jL_mul, iI_le, iI_lt, iI_eq, iI_eq0, iI_lt0, iI_0le, iI_le0, iI_0lt, jL_iI, iI_jL, lc_eq, lc_lt, lc_le, lc_ge, lc_gt, Nat.sub_zero, Nat.zero_le, true_and, and_true, Nat.reduceAdd, Nat.reduceLeDiff]
      refine m_may (d := d + 5) (code := 2) (k := 2) I1 T1 (Or.inl rfl) (by omega) (by omega) (fun e => absurd e (by decide)) (fun _ hi' I' F' T' => ?_)
      simp (disch := omega) only [en_ops, en_opc, iI_add, iI_mul, iI_sub, jL_add, jL_mul, iI_le, iI_lt, iI_eq, iI_eq0, iI_lt0, iI_0le, iI_le0, iI_0lt, jL_iI, iI_jL, lc_eq, lc_lt, lc_le, lc_ge, lc_gt, Nat.sub_zero, Nat.zero_le, true_and, and_true, Nat.reduceAdd, Nat.reduceLeDiff]
      exact ⟨fun _ => H.no F1 (by omega) q1 I' F' (by rw [q2]; exact T'), fun e => (e (by first | trivial | rfl)).elim⟩
  · obtain ⟨q1, q2⟩ := hr1 e
    simp (disch := omega) only [en_ops, en_opc, iI_add, iI_mul, iI_sub, jL_add, jL_mul, iI_le, iI_lt, iI_eq, iI_eq0, iI_lt0, iI_0le, iI_le0, iI_0lt, jL_iI, iI_jL, lc_eq, lc_lt, lc_le, lc_ge, lc_gt, Nat.sub_zero, Nat.zero_le, true_and, and_true, Nat.reduceAdd, Nat.reduceLeDiff]
    exact ⟨fun _ => H.no F1 (by omega) q1 I' F' (by rw [q2]; exact T'), fun e => (e (by first | trivial | rfl)).elim⟩
theorem m_crun {l : Int} {y : Int} (hI : InvR G W hi hr) (hz : zOK n W) (hn : n ≤ 512) (hlr : iRg l) (hyr : iRg y) (H : rEnd G W (zPut W (yrP (eL W l.toNat) (zYs W y.toNat).2 (zYs W y.toNat).1 (zS W).1, (zS W).2)) (if inL W l then if inY W y then if isNow W then 0 else 4 else 2 else 2) (if inL W l then if inY W y then 2 else 1 else 1) (.int (iI 0)) (.int (iI ((yrP (eL W l.toNat) (zYs W y.toNat).2 (zYs W y.toNat).1 (zS W).1).2.2.2.2.2 - (zS W).1.2.2.2.2.2))) K hi hl hr) : en_Call G (d + 8) xc xs Y_X11_run wN wN [.ref 110, .int (iI l), .int (iI y)] hi hl hr K := by
  obtain ⟨I1, F1, T1⟩ := hI.t1
  have nl4 := hz.2.1
  have ny4 := hz.2.2.1
  apply en_X11_run
  simp (disch := omega) only [B_X11_run_0, sh110, lt110, en_ops, en_opc, iI_add, iI_mul, iI_sub, jL_add, jL_mul, iI_le, iI_lt, iI_eq, iI_eq0, iI_lt0, iI_0le, iI_le0, iI_0lt, jL_iI, iI_jL, lc_eq, lc_lt, lc_le, lc_ge, lc_gt, Nat.sub_zero, Nat.zero_le, true_and, and_true, Nat.reduceAdd, Nat.reduceLeDiff]
  generalize en_up hi 110 0 (iI 0) = h1 at *
  refine m_isLaw (d := d + 5) (code := 1) I1 hz T1 hlr (by omega) (fun e1 => ?_) (fun e hi' I' F' T' => ?_)
  · simp (disch := omega) only [sh110, lt110, en_ops, en_opc, iI_add, iI_mul, iI_sub, jL_add, jL_mul, iI_le, iI_lt, iI_eq, iI_eq0, iI_lt0, iI_0le, iI_le0, iI_0lt, jL_iI, iI_jL, lc_eq, lc_lt, lc_le, lc_ge, lc_gt, Nat.sub_zero, Nat.zero_le, true_and, and_true, Nat.reduceAdd, Nat.reduceLeDiff]
    refine ⟨fun e => absurd e (by decide), fun _ => m_isYear (d := d + 5) (code := 1) I1 hz T1 hyr (by omega) (fun e2 => ?_) (fun e hi' I' F' T' => ?_)⟩
    · simp (disch := omega) only [sh110, lt110, en_ops, en_opc, iI_add, iI_mul, iI_sub, jL_add, jL_mul, iI_le, iI_lt, iI_eq, iI_eq0, iI_lt0, iI_0le, iI_le0, iI_0lt, jL_iI, iI_jL, lc_eq, lc_lt, lc_le, lc_ge, lc_gt, Nat.sub_zero, Nat.zero_le, true_and, and_true, Nat.reduceAdd, Nat.reduceLeDiff]
      refine ⟨fun e => absurd e (by decide), fun _ => m_isNow (d := d + 5) (code := 2) I1 hz T1 (by omega) (fun e5 => ?_) (fun e hi' I' F' T' => ?_)⟩
      · obtain ⟨hE, ⟨b9, b1, b2⟩, hV, hq, hO⟩ := InvR.gol (l := l.toNat) I1 hz hn (by omega) e5.1
        obtain ⟨hy4, hY⟩ := InvR.yr (y := y.toNat) I1 hz (by omega)
        rw [show iI l = iI ((l.toNat : Nat) : Int) from iI_eq_of (by omega), show iI y = iI ((y.toNat : Nat) : Int) from iI_eq_of (by omega)]
        simp (disch := omega) only [sh110, lt110, en_ops, en_opc, iI_add, iI_mul, iI_sub, jL_add, jL_mul, iI_le, iI_lt, iI_eq, iI_eq0, iI_lt0, iI_0le, iI_le0, iI_0lt, jL_iI, iI_jL, lc_eq, lc_lt, lc_le, lc_ge, lc_gt, Nat.sub_zero, Nat.zero_le, true_and, and_true, Nat.reduceAdd, Nat.reduceLeDiff]
        refine ⟨fun _ => m_runs (d := d) (b := b9) I1.1 hE b1 b2 hV hq hO hy4 hY (fun h8 F8 q8 O8 s8 => ?_), fun e => absurd e (by decide)⟩
        simp (disch := omega) only [en_ops, en_opc, iI_add, iI_mul, iI_sub, jL_add, jL_mul, iI_le, iI_lt, iI_eq, iI_eq0, iI_lt0, iI_0le, iI_le0, iI_0lt, jL_iI, iI_jL, lc_eq, lc_lt, lc_le, lc_ge, lc_gt, Nat.sub_zero, Nat.zero_le, true_and, and_true, Nat.reduceAdd, Nat.reduceLeDiff]
        exact H.pt (by rw [if_pos e1, if_pos e2, if_pos e5]) I1 F1 T1 F8 (fun x g => by rcases g.v with q | q; exact Or.inl q; exact Or.inr q.1) (I1.xr.q (InvR.nh hz).1 q8 s8)
      · simp (disch := omega) only [en_ops, en_opc, iI_add, iI_mul, iI_sub, jL_add, jL_mul, iI_le, iI_lt, iI_eq, iI_eq0, iI_lt0, iI_0le, iI_le0, iI_0lt, jL_iI, iI_jL, lc_eq, lc_lt, lc_le, lc_ge, lc_gt, Nat.sub_zero, Nat.zero_le, true_and, and_true, Nat.reduceAdd, Nat.reduceLeDiff]
        exact ⟨fun e => (e (by first | trivial | rfl)).elim, fun _ => H.no F1 (k := 3) (by omega) (by rw [if_pos e1, if_pos e2, if_neg e]) I' F' (by rw [if_pos e1, if_pos e2]; exact T')⟩
    · simp (disch := omega) only [en_ops, en_opc, iI_add, iI_mul, iI_sub, jL_add, jL_mul, iI_le, iI_lt, iI_eq, iI_eq0, iI_lt0, iI_0le, iI_le0, iI_0lt, jL_iI, iI_jL, lc_eq, lc_lt, lc_le, lc_ge, lc_gt, Nat.sub_zero, Nat.zero_le, true_and, and_true, Nat.reduceAdd, Nat.reduceLeDiff]
      exact ⟨fun _ => H.no F1 (k := 1) (by omega) (by rw [if_pos e1, if_neg e]) I' F' (by rw [if_pos e1, if_neg e]; exact T'), fun e => (e (by first | trivial | rfl)).elim⟩
  · simp (disch := omega) only [en_ops, en_opc, iI_add, iI_mul, iI_sub, jL_add, jL_mul, iI_le, iI_lt, iI_eq, iI_eq0, iI_lt0, iI_0le, iI_le0, iI_0lt, jL_iI, iI_jL, lc_eq, lc_lt, lc_le, lc_ge, lc_gt, Nat.sub_zero, Nat.zero_le, true_and, and_true, Nat.reduceAdd, Nat.reduceLeDiff]
    exact ⟨fun _ => H.no F1 (k := 1) (by omega) (by rw [if_neg e]) I' F' (by rw [if_neg e]; exact T'), fun e => (e (by first | trivial | rfl)).elim⟩
end
