section
variable {G : en_G} {d : Nat} {K : en_K} {X : tTx} {z : tZ} {B : bSt} {p i q : Nat} {hi : en_I} {hl : en_L} {hr : en_F} {xc xs : Nat}
/-- a clause -/
theorem k_clause (hR : hr 26 0 = .ref 1) (hR2 : hr 28 0 = .ref 26) (hp : isPl p) (hpR : plR p hr) (hq : q < X.2) (hB : bOK i B) (hX : tqS X hi) (h : tkX X (.inr q) hi) (hP : bpH p B hi) (hg : bgH i B hi) (H : beK X p i q B hi hl hr K) : en_Call G (d + 7) xc xs Y_X0_readClause wN wN [.ref 28, .ref p, .int (iI (if i = 60 then 1 else 0))] hi hl hr K := by
  obtain ⟨p0, p1, p2, p3, p4, p5, p6, p7⟩ := hp.sh
  have q0 : p < 134 := by omega
  have q2 : p + 2 < 134 := by omega
  have q3 : p + 3 < 134 := by omega
  have r3 : hr p 3 = .ref (p + 2) := hpR.2.1
  have r4 : hr p 4 = .ref (p + 3) := hpR.2.2.1
  have pp : (en_SH p).1 = 3 ∧ p < 134 := ⟨by rw [p0], q0⟩
  have cb := hB.1
  apply en_X0_readClause
  simp (disch := omega) only [B_X0_readClause_0, sh28, lt28, sh26, lt26, hR2, en_ops, en_opc, iI_add, iI_mul, iI_sub, jL_add, jL_mul, iI_le, iI_lt, iI_eq, iI_eq0, iI_lt0, iI_0le, iI_le0, iI_0lt, jL_iI, iI_jL, lc_eq, lc_lt, lc_le, lc_ge, lc_gt, Nat.sub_zero, Nat.zero_le, true_and, and_true, Nat.reduceAdd, Nat.reduceLeDiff]
  refine t_isWord (d := d + 1) (j := 1) iw1 hR hX h (fun b hb => ?_)
  rw [pk1] at hb
  simp (disch := omega) only [sh28, lt28, sh26, lt26, hR2, en_ops, en_opc, iI_add, iI_mul, iI_sub, jL_add, jL_mul, iI_le, iI_lt, iI_eq, iI_eq0, iI_lt0, iI_0le, iI_le0, iI_0lt, jL_iI, iI_jL, lc_eq, lc_lt, lc_le, lc_ge, lc_gt, Nat.sub_zero, Nat.zero_le, true_and, and_true, Nat.reduceAdd, Nat.reduceLeDiff]
  rcases hb with ⟨rfl, w⟩ | ⟨rfl, w1⟩
  · refine ⟨fun _ => ?_, fun g => absurd g (by decide)⟩
    refine k_extent (d := d) hR hR2 hp (bK_0.mpr w) (by decide) hq hB hX h hP hg (fun hi' F' X' H' R' => ?_)
    simp (disch := omega) only [en_ops, en_opc, iI_add, iI_mul, iI_sub, jL_add, jL_mul, iI_le, iI_lt, iI_eq, iI_eq0, iI_lt0, iI_0le, iI_le0, iI_0lt, jL_iI, iI_jL, lc_eq, lc_lt, lc_le, lc_ge, lc_gt, Nat.sub_zero, Nat.zero_le, true_and, and_true, Nat.reduceAdd, Nat.reduceLeDiff]
    exact H hi' F' X' H' R'
  refine ⟨fun g => (g (by first | trivial | rfl)).elim, fun _ => ?_⟩
  refine t_isWord (d := d + 1) (j := 2) iw2 hR hX h (fun b hb => ?_)
  rw [pk2] at hb
  simp (disch := omega) only [sh28, lt28, sh26, lt26, hR2, en_ops, en_opc, iI_add, iI_mul, iI_sub, jL_add, jL_mul, iI_le, iI_lt, iI_eq, iI_eq0, iI_lt0, iI_0le, iI_le0, iI_0lt, jL_iI, iI_jL, lc_eq, lc_lt, lc_le, lc_ge, lc_gt, Nat.sub_zero, Nat.zero_le, true_and, and_true, Nat.reduceAdd, Nat.reduceLeDiff]
  rcases hb with ⟨rfl, w⟩ | ⟨rfl, w2⟩
  · refine ⟨fun g => absurd g (by decide), fun _ => ?_⟩
    refine k_extent (d := d) hR hR2 hp (bK_1.mpr w) (by decide) hq hB hX h hP hg (fun hi' F' X' H' R' => ?_)
    simp (disch := omega) only [en_ops, en_opc, iI_add, iI_mul, iI_sub, jL_add, jL_mul, iI_le, iI_lt, iI_eq, iI_eq0, iI_lt0, iI_0le, iI_le0, iI_0lt, jL_iI, iI_jL, lc_eq, lc_lt, lc_le, lc_ge, lc_gt, Nat.sub_zero, Nat.zero_le, true_and, and_true, Nat.reduceAdd, Nat.reduceLeDiff]
    exact H hi' F' X' H' R'
  refine ⟨fun _ => ?_, fun g => (g (by first | trivial | rfl)).elim⟩
  refine t_isWord (d := d + 1) (j := 3) iw3 hR hX h (fun b hb => ?_)
  rw [pk3] at hb
  simp (disch := omega) only [sh28, lt28, sh26, lt26, hR2, en_ops, en_opc, iI_add, iI_mul, iI_sub, jL_add, jL_mul, iI_le, iI_lt, iI_eq, iI_eq0, iI_lt0, iI_0le, iI_le0, iI_0lt, jL_iI, iI_jL, lc_eq, lc_lt, lc_le, lc_ge, lc_gt, Nat.sub_zero, Nat.zero_le, true_and, and_true, Nat.reduceAdd, Nat.reduceLeDiff]
  rcases hb with ⟨rfl, w⟩ | ⟨rfl, w3⟩
  · refine ⟨fun g => absurd g (by decide), fun _ => ?_⟩
    refine k_heap (d := d + 1) hR hR2 hp hpR (bK_2.mpr w) hq hB hX h hP hg (fun hi' F' X' H' R' => ?_)
    simp (disch := omega) only [en_ops, en_opc, iI_add, iI_mul, iI_sub, jL_add, jL_mul, iI_le, iI_lt, iI_eq, iI_eq0, iI_lt0, iI_0le, iI_le0, iI_0lt, jL_iI, iI_jL, lc_eq, lc_lt, lc_le, lc_ge, lc_gt, Nat.sub_zero, Nat.zero_le, true_and, and_true, Nat.reduceAdd, Nat.reduceLeDiff]
    exact H hi' F' X' H' R'
  refine ⟨fun _ => ?_, fun g => (g (by first | trivial | rfl)).elim⟩
  refine t_isWord (d := d + 1) (j := 4) iw4 hR hX h (fun b hb => ?_)
  rw [pk4] at hb
  simp (disch := omega) only [sh28, lt28, sh26, lt26, hR2, en_ops, en_opc, iI_add, iI_mul, iI_sub, jL_add, jL_mul, iI_le, iI_lt, iI_eq, iI_eq0, iI_lt0, iI_0le, iI_le0, iI_0lt, jL_iI, iI_jL, lc_eq, lc_lt, lc_le, lc_ge, lc_gt, Nat.sub_zero, Nat.zero_le, true_and, and_true, Nat.reduceAdd, Nat.reduceLeDiff]
  rcases hb with ⟨rfl, w⟩ | ⟨rfl, w4⟩
  · refine ⟨fun g => absurd g (by decide), fun _ => ?_⟩
    have hk : bK (wdE X q) = 3 := bK_3.mpr w
    have ez : bZ1 X i B q = if i = 60 then .inl (3, q) else .inr (nxE X q) := bz_o hk (by decide) (by omega)
    obtain ⟨y1, y2, y3, y4⟩ := ba_3 (X := X) (B := B) (z := bZ1 X i B q)
    refine t_begO (d := d + 3) (full := i = 60) hR hR2 hq hX h (fun h1 F1 X1 H1 e3 => ?_)
    rw [← ez] at H1
    have P1 : bpH p B h1 := hP.fx F1 (fun a j g1 g2 w => by omega)
    have c1 := P1.1
    simp (disch := omega) only [sh28, lt28, sh26, lt26, hR2, p0, q0, c1, en_ops, en_opc, iI_add, iI_mul, iI_sub, jL_add, jL_mul, iI_le, iI_lt, iI_eq, iI_eq0, iI_lt0, iI_0le, iI_le0, iI_0lt, jL_iI, iI_jL, lc_eq, lc_lt, lc_le, lc_ge, lc_gt, Nat.sub_zero, Nat.zero_le, true_and, and_true, Nat.reduceAdd, Nat.reduceLeDiff]
    refine t_needNum (d := d + 3) (lo := 0) (up := (bC B : Int) - 1) (by omega) hR X1 H1 (fun h2 v1 F2 X2 H2 a1 b1 u1 => ?_)
    simp (disch := omega) only [sh28, lt28, sh26, lt26, hR2, p0, q0, r3, en_ops, en_opc, iI_add, iI_mul, iI_sub, jL_add, jL_mul, iI_le, iI_lt, iI_eq, iI_eq0, iI_lt0, iI_0le, iI_le0, iI_0lt, jL_iI, iI_jL, lc_eq, lc_lt, lc_le, lc_ge, lc_gt, Nat.sub_zero, Nat.zero_le, true_and, and_true, Nat.reduceAdd, Nat.reduceLeDiff]
    refine t_needNum (d := d + 3) (lo := 1) (up := 60) (by decide) hR X2 H2 (fun h3 v2 F3 X3 H3 a2 b2 u2 => ?_)
    have F23 : Fx P26 h1 h3 := F2.tr F3
    have P3 : bpH p B h3 := P1.fx F23 (fun a j g1 g2 w => by have := w.1; omega)
    simp (disch := omega) only [p2, q2, en_ops, en_opc, iI_add, iI_mul, iI_sub, jL_add, jL_mul, iI_le, iI_lt, iI_eq, iI_eq0, iI_lt0, iI_0le, iI_le0, iI_0lt, jL_iI, iI_jL, lc_eq, lc_lt, lc_le, lc_ge, lc_gt, Nat.sub_zero, Nat.zero_le, true_and, and_true, Nat.reduceAdd, Nat.reduceLeDiff]
    refine ⟨v1.toNat, iI_eq_of (by omega), by omega, ?_⟩
    have U : Fx (fun a _ => a = p + 2) h3 (en_up h3 (p + 2) v1.toNat (iI v2)) := Fx.up Fx.rf rfl
    have FA : Fx (Pbe p) hi (en_up h3 (p + 2) v1.toNat (iI v2)) := ((F1.mono (fun a j w => by unfold Pbe; omega)).tr F23.be).tr (U.mono (fun a j w => by unfold Pbe; omega))
    have eA4 : bA4 X B (bK (wdE X q)) (bZ1 X i B q) = zNm X 1 60 (zNm X 0 ((bC B : Int) - 1) (bZ1 X i B q)) := by rw [hk, y4, y2, y1]
    refine H _ FA (X3.fx U (fun j w => by omega) (fun w => by omega)) (by rw [eA4]; exact H3.fx U (fun j w => by omega)) (fun q' hq' => ?_)
    rw [eA4] at hq'
    have t2 := u2 _ hq'
    obtain ⟨r9, x9, -⟩ := zNm_i hq'
    have t1 := u1 _ x9
    have eN : bNx X i B q = bUp B 3 v1.toNat v2.toNat (zVa X (bA2 X B 3 (bZ1 X i B q))) (zVa X (bA3 X B 3 (bZ1 X i B q))) := by
      unfold bNx
      rw [hk, y1, show zVa X (bZ1 X i B q) = v1.toNat by omega, show zVa X (zNm X 0 ((bC B : Int) - 1) (bZ1 X i B q)) = v2.toNat by omega]
    rw [eN]
    refine ⟨⟨?_, ?_, ?_, fun c hc => ?_, ?_, ?_, ?_⟩, bg_o (by decide) hB hg ?_ ?_ ?_⟩
    · rw [up_ne (Or.inl (by omega))]; exact P3.1
    · rw [up_ne (Or.inl (by omega))]; exact P3.2.1
    · rw [up_row (by omega)]; exact P3.2.2.1
    · show _ = iI (if c = v1.toNat then ((v2.toNat : Nat) : Int) else bR B c)
      by_cases ec : c = v1.toNat
      · rw [if_pos ec, ec, up_at]
        exact iI_eq_of (by omega)
      · rw [if_neg ec, up_ne (Or.inr ec)]
        exact P3.2.2.2.1 c hc
    · rw [up_row (by omega)]; exact P3.2.2.2.2.1
    · rw [up_row (by omega), up_row (by omega)]; exact P3.2.2.2.2.2.1
    · rw [up_row (by omega), up_row (by omega)]; exact P3.2.2.2.2.2.2
    · rw [up_ne (Or.inl (by omega)), F23 28 1 (fun w => by have := w.1; omega), F1 28 1 (by omega)]
    · rw [up_ne (Or.inl (by omega)), F23 28 2 (fun w => by have := w.1; omega), F1 28 2 (by omega)]
    · rw [up_ne (Or.inl (by omega)), F23 28 3 (fun w => by have := w.1; omega)]; exact e3
  refine ⟨fun _ => ?_, fun g => (g (by first | trivial | rfl)).elim⟩
  refine t_isWord (d := d + 1) (j := 5) iw5 hR hX h (fun b hb => ?_)
  rw [pk5] at hb
  simp (disch := omega) only [sh28, lt28, sh26, lt26, hR2, en_ops, en_opc, iI_add, iI_mul, iI_sub, jL_add, jL_mul, iI_le, iI_lt, iI_eq, iI_eq0, iI_lt0, iI_0le, iI_le0, iI_0lt, jL_iI, iI_jL, lc_eq, lc_lt, lc_le, lc_ge, lc_gt, Nat.sub_zero, Nat.zero_le, true_and, and_true, Nat.reduceAdd, Nat.reduceLeDiff]
  rcases hb with ⟨rfl, w⟩ | ⟨rfl, w5⟩
  · refine ⟨fun g => absurd g (by decide), fun _ => ?_⟩
    have hk : bK (wdE X q) = 4 := bK_4.mpr w
    have ez : bZ1 X i B q = if i = 60 then .inl (3, q) else .inr (nxE X q) := bz_o hk (by decide) (by omega)
    obtain ⟨y1, y2, y3, y4⟩ := ba_4 (X := X) (B := B) (z := bZ1 X i B q)
    refine t_begO (d := d + 3) (full := i = 60) hR hR2 hq hX h (fun h1 F1 X1 H1 e3 => ?_)
    rw [← ez] at H1
    have P1 : bpH p B h1 := hP.fx F1 (fun a j g1 g2 w => by omega)
    have c1 := P1.1
    simp (disch := omega) only [sh28, lt28, sh26, lt26, hR2, p0, q0, c1, en_ops, en_opc, iI_add, iI_mul, iI_sub, jL_add, jL_mul, iI_le, iI_lt, iI_eq, iI_eq0, iI_lt0, iI_0le, iI_le0, iI_0lt, jL_iI, iI_jL, lc_eq, lc_lt, lc_le, lc_ge, lc_gt, Nat.sub_zero, Nat.zero_le, true_and, and_true, Nat.reduceAdd, Nat.reduceLeDiff]
    refine t_needNum (d := d + 3) (lo := 0) (up := (bC B : Int) - 2) (by omega) hR X1 H1 (fun h2 v1 F2 X2 H2 a1 b1 u1 => ?_)
    simp (disch := omega) only [sh28, lt28, sh26, lt26, hR2, p0, q0, r4, en_ops, en_opc, iI_add, iI_mul, iI_sub, jL_add, jL_mul, iI_le, iI_lt, iI_eq, iI_eq0, iI_lt0, iI_0le, iI_le0, iI_0lt, jL_iI, iI_jL, lc_eq, lc_lt, lc_le, lc_ge, lc_gt, Nat.sub_zero, Nat.zero_le, true_and, and_true, Nat.reduceAdd, Nat.reduceLeDiff]
    refine t_needNum (d := d + 3) (lo := 1) (up := 16) (by decide) hR X2 H2 (fun h3 v2 F3 X3 H3 a2 b2 u2 => ?_)
    have F23 : Fx P26 h1 h3 := F2.tr F3
    have P3 : bpH p B h3 := P1.fx F23 (fun a j g1 g2 w => by have := w.1; omega)
    simp (disch := omega) only [p3, q3, en_ops, en_opc, iI_add, iI_mul, iI_sub, jL_add, jL_mul, iI_le, iI_lt, iI_eq, iI_eq0, iI_lt0, iI_0le, iI_le0, iI_0lt, jL_iI, iI_jL, lc_eq, lc_lt, lc_le, lc_ge, lc_gt, Nat.sub_zero, Nat.zero_le, true_and, and_true, Nat.reduceAdd, Nat.reduceLeDiff]
    refine ⟨v1.toNat, iI_eq_of (by omega), by omega, ?_⟩
    have U : Fx (fun a _ => a = p + 3) h3 (en_up h3 (p + 3) v1.toNat (iI v2)) := Fx.up Fx.rf rfl
    have FA : Fx (Pbe p) hi (en_up h3 (p + 3) v1.toNat (iI v2)) := ((F1.mono (fun a j w => by unfold Pbe; omega)).tr F23.be).tr (U.mono (fun a j w => by unfold Pbe; omega))
    have eA4 : bA4 X B (bK (wdE X q)) (bZ1 X i B q) = zNm X 1 16 (zNm X 0 ((bC B : Int) - 2) (bZ1 X i B q)) := by rw [hk, y4, y2, y1]
    refine H _ FA (X3.fx U (fun j w => by omega) (fun w => by omega)) (by rw [eA4]; exact H3.fx U (fun j w => by omega)) (fun q' hq' => ?_)
    rw [eA4] at hq'
    have t2 := u2 _ hq'
    obtain ⟨r9, x9, -⟩ := zNm_i hq'
    have t1 := u1 _ x9
    have eN : bNx X i B q = bUp B 4 v1.toNat v2.toNat (zVa X (bA2 X B 4 (bZ1 X i B q))) (zVa X (bA3 X B 4 (bZ1 X i B q))) := by
      unfold bNx
      rw [hk, y1, show zVa X (bZ1 X i B q) = v1.toNat by omega, show zVa X (zNm X 0 ((bC B : Int) - 2) (bZ1 X i B q)) = v2.toNat by omega]
    rw [eN]
    refine ⟨⟨?_, ?_, ?_, ?_, fun c hc => ?_, ?_, ?_⟩, bg_o (by decide) hB hg ?_ ?_ ?_⟩
    · rw [up_ne (Or.inl (by omega))]; exact P3.1
    · rw [up_ne (Or.inl (by omega))]; exact P3.2.1
    · rw [up_row (by omega)]; exact P3.2.2.1
    · rw [up_row (by omega)]; exact P3.2.2.2.1
    · show _ = iI (if c = v1.toNat then ((v2.toNat : Nat) : Int) else bL B c)
      by_cases ec : c = v1.toNat
      · rw [if_pos ec, ec, up_at]
        exact iI_eq_of (by omega)
      · rw [if_neg ec, up_ne (Or.inr ec)]
        exact P3.2.2.2.2.1 c hc
    · rw [up_row (by omega), up_row (by omega)]; exact P3.2.2.2.2.2.1
    · rw [up_row (by omega), up_row (by omega)]; exact P3.2.2.2.2.2.2
    · rw [up_ne (Or.inl (by omega)), F23 28 1 (fun w => by have := w.1; omega), F1 28 1 (by omega)]
    · rw [up_ne (Or.inl (by omega)), F23 28 2 (fun w => by have := w.1; omega), F1 28 2 (by omega)]
    · rw [up_ne (Or.inl (by omega)), F23 28 3 (fun w => by have := w.1; omega)]; exact e3
  refine ⟨fun _ => ?_, fun g => (g (by first | trivial | rfl)).elim⟩
  refine t_isWord (d := d + 1) (j := 6) iw6 hR hX h (fun b hb => ?_)
  rw [pk6] at hb
  simp (disch := omega) only [sh28, lt28, sh26, lt26, hR2, en_ops, en_opc, iI_add, iI_mul, iI_sub, jL_add, jL_mul, iI_le, iI_lt, iI_eq, iI_eq0, iI_lt0, iI_0le, iI_le0, iI_0lt, jL_iI, iI_jL, lc_eq, lc_lt, lc_le, lc_ge, lc_gt, Nat.sub_zero, Nat.zero_le, true_and, and_true, Nat.reduceAdd, Nat.reduceLeDiff]
  rcases hb with ⟨rfl, w⟩ | ⟨rfl, w6⟩
  · refine ⟨fun g => absurd g (by decide), fun _ => ?_⟩
    refine k_spring (d := d + 1) hR hR2 hp hpR (bK_5.mpr w) hq hB hX h hP hg (fun hi' F' X' H' R' => ?_)
    simp (disch := omega) only [en_ops, en_opc, iI_add, iI_mul, iI_sub, jL_add, jL_mul, iI_le, iI_lt, iI_eq, iI_eq0, iI_lt0, iI_0le, iI_le0, iI_0lt, jL_iI, iI_jL, lc_eq, lc_lt, lc_le, lc_ge, lc_gt, Nat.sub_zero, Nat.zero_le, true_and, and_true, Nat.reduceAdd, Nat.reduceLeDiff]
    exact H hi' F' X' H' R'
  refine ⟨fun _ => ?_, fun g => (g (by first | trivial | rfl)).elim⟩
  refine t_isWord (d := d + 1) (j := 7) iw7 hR hX h (fun b hb => ?_)
  rw [pk7] at hb
  simp (disch := omega) only [sh28, lt28, sh26, lt26, hR2, en_ops, en_opc, iI_add, iI_mul, iI_sub, jL_add, jL_mul, iI_le, iI_lt, iI_eq, iI_eq0, iI_lt0, iI_0le, iI_le0, iI_0lt, jL_iI, iI_jL, lc_eq, lc_lt, lc_le, lc_ge, lc_gt, Nat.sub_zero, Nat.zero_le, true_and, and_true, Nat.reduceAdd, Nat.reduceLeDiff]
  rcases hb with ⟨rfl, w⟩ | ⟨rfl, w7⟩
  · refine ⟨fun g => absurd g (by decide), fun _ => ?_⟩
    refine k_lorry (d := d + 1) hR hR2 hp hpR (bK_6.mpr w) hq hB hX h hP hg (fun hi' F' X' H' R' => ?_)
    simp (disch := omega) only [en_ops, en_opc, iI_add, iI_mul, iI_sub, jL_add, jL_mul, iI_le, iI_lt, iI_eq, iI_eq0, iI_lt0, iI_0le, iI_le0, iI_0lt, jL_iI, iI_jL, lc_eq, lc_lt, lc_le, lc_ge, lc_gt, Nat.sub_zero, Nat.zero_le, true_and, and_true, Nat.reduceAdd, Nat.reduceLeDiff]
    exact H hi' F' X' H' R'
  refine ⟨fun _ => ?_, fun g => (g (by first | trivial | rfl)).elim⟩
  have hk7 : bK (wdE X q) = 7 := by
    have le := bK_le (wdE X q)
    have n0 : ¬ bK (wdE X q) = 0 := fun g => w1 (bK_0.mp g)
    have n1 : ¬ bK (wdE X q) = 1 := fun g => w2 (bK_1.mp g)
    have n2 : ¬ bK (wdE X q) = 2 := fun g => w3 (bK_2.mp g)
    have n3 : ¬ bK (wdE X q) = 3 := fun g => w4 (bK_3.mp g)
    have n4 : ¬ bK (wdE X q) = 4 := fun g => w5 (bK_4.mp g)
    have n5 : ¬ bK (wdE X q) = 5 := fun g => w6 (bK_5.mp g)
    have n6 : ¬ bK (wdE X q) = 6 := fun g => w7 (bK_6.mp g)
    omega
  have f7 : bFt i B 7 = 1 := if_pos rfl
  have e1 : bZ1 X i B q = .inl (1, q) := by unfold bZ1; rw [hk7, f7, if_neg (by decide)]
  refine t_fail (X := X) (d := d + 5) (k := 1) (z := .inr q) (by decide) hX h (fun h1 F1 X1 H1 => ?_)
  simp (disch := omega) only [en_ops, en_opc, iI_add, iI_mul, iI_sub, jL_add, jL_mul, iI_le, iI_lt, iI_eq, iI_eq0, iI_lt0, iI_0le, iI_le0, iI_0lt, jL_iI, iI_jL, lc_eq, lc_lt, lc_le, lc_ge, lc_gt, Nat.sub_zero, Nat.zero_le, true_and, and_true, Nat.reduceAdd, Nat.reduceLeDiff]
  refine H h1 F1.be X1 (by rw [e1, ba_inl]; exact H1) (fun q' hq' => ?_)
  rw [e1, ba_inl] at hq'
  cases hq'
def beE (X : tTx) (p : Nat) (r : tZ × bSt) (hi : en_I) (hl : en_L) (hr : en_F) (K : en_K) : Prop := ∀ hi', tkX X r.1 hi' → Fx (Pbe p) hi hi' → (∀ q, r.1 = .inr q → bpH p r.2 hi') → K (.inl (some (.int (iI (zFk r.1 : Int))))) hi' hl hr
theorem v_beach31 {b1 : Nat} {n9 : Int32} (hp : isPl p) (hpR : plR p hr) (hR : hr 26 0 = .ref 1) (hR2 : hr 28 0 = .ref 26) : ∀ (f i : Nat) (z : tZ) (B : bSt) (h9 : en_I), i + f = 62 → i ≤ 61 → (i = 61 → ∃ e, z = .inl e) → tqS X h9 → tkX X z h9 → (∀ q, z = .inr q → bOK i B ∧ bpH p B h9 ∧ bgH i B h9) → beE X p (blF X f i z B) h9 hl hr K → en_V G Y_X0_readBeach (d + 8) wN wN K 31 [.ref 28, .ref b1, .int n9, .ref p, .int (iI (i : Int))] [] h9 hl hr xc xs := by
  intro f
  induction f with
  | zero => intro i z B h9 h1 h2; omega
  | succ f ih =>
    intro i z B h9 h1 h2 h3 hX hz hB hK
    obtain ⟨p0, p1, p2, p3, p4, p5, p6, p7⟩ := hp.sh
    have pp : (en_SH p).1 = 3 ∧ p < 134 := ⟨by rw [p0], by omega⟩
    obtain ⟨f7, f8, f4, f0⟩ := hz.f7
    rcases z with e | q
    · have st : blF X (f + 1) i (.inl e) B = (.inl e, B) := rfl
      rw [st] at hK
      have stop : K (.inl (some (.int (iI (zFk (.inl e) : Int))))) h9 hl hr := hK h9 hz Fx.rf (fun q hq => by cases hq)
      apply s_X0_readBeach_31
      simp (disch := omega) only [B_X0_readBeach_31, sh28, lt28, sh26, lt26, hR2, f7, en_ops, en_opc, iI_add, iI_mul, iI_sub, jL_add, jL_mul, iI_le, iI_lt, iI_eq, iI_eq0, iI_lt0, iI_0le, iI_le0, iI_0lt, jL_iI, iI_jL, lc_eq, lc_lt, lc_le, lc_ge, lc_gt, Nat.sub_zero, Nat.zero_le, true_and, and_true, Nat.reduceAdd, Nat.reduceLeDiff]
      refine ⟨fun _ => stop, fun g => ?_⟩
      refine t_hasMore (X := X) (d := d + 6) hz (fun b hb => ?_)
      simp (disch := omega) only [sh28, lt28, sh26, lt26, hR2, f7, en_ops, en_opc, iI_add, iI_mul, iI_sub, jL_add, jL_mul, iI_le, iI_lt, iI_eq, iI_eq0, iI_lt0, iI_0le, iI_le0, iI_0lt, jL_iI, iI_jL, lc_eq, lc_lt, lc_le, lc_ge, lc_gt, Nat.sub_zero, Nat.zero_le, true_and, and_true, Nat.reduceAdd, Nat.reduceLeDiff]
      rcases hb with ⟨rfl, more⟩ | ⟨rfl, more⟩
      · exact absurd rfl more.2
      · exact ⟨fun _ => stop, fun g => (g (by first | trivial | rfl)).elim⟩
    · have i61 : i ≠ 61 := fun g => by obtain ⟨e, he⟩ := h3 g; cases he
      have st : blF X (f + 1) i (.inr q) B = if X.2 ≤ q then (.inr q, B) else blF X f (i + 1) (bCl X i B q) (bNx X i B q) := rfl
      rw [st] at hK
      obtain ⟨oB, oP, oG⟩ := hB q rfl
      have k3 := kd_le X q
      apply s_X0_readBeach_31
      simp (disch := omega) only [B_X0_readBeach_31, sh28, lt28, sh26, lt26, hR2, f7, en_ops, en_opc, iI_add, iI_mul, iI_sub, jL_add, jL_mul, iI_le, iI_lt, iI_eq, iI_eq0, iI_lt0, iI_0le, iI_le0, iI_0lt, jL_iI, iI_jL, lc_eq, lc_lt, lc_le, lc_ge, lc_gt, Nat.sub_zero, Nat.zero_le, true_and, and_true, Nat.reduceAdd, Nat.reduceLeDiff]
      refine ⟨fun g => absurd g (by omega), fun _ => ?_⟩
      refine t_hasMore (X := X) (d := d + 6) hz (fun b hb => ?_)
      simp (disch := omega) only [sh28, lt28, sh26, lt26, hR2, f7, en_ops, en_opc, iI_add, iI_mul, iI_sub, jL_add, jL_mul, iI_le, iI_lt, iI_eq, iI_eq0, iI_lt0, iI_0le, iI_le0, iI_0lt, jL_iI, iI_jL, lc_eq, lc_lt, lc_le, lc_ge, lc_gt, Nat.sub_zero, Nat.zero_le, true_and, and_true, Nat.reduceAdd, Nat.reduceLeDiff]
      rcases hb with ⟨rfl, more⟩ | ⟨rfl, more⟩
      rotate_left
      · have le : X.2 ≤ q := by
          by_cases g : X.2 ≤ q
          · exact g
          · exact absurd (show zKd X (.inr q) ≠ 0 ∧ zKd X (.inr q) ≠ 4 from ⟨fun w => g (kd_0.mp w), fun w => by have w2 : kdE X q = 4 := w; omega⟩) more
        rw [if_pos le] at hK
        exact ⟨fun _ => hK h9 hz Fx.rf (fun q' hq' => oP), fun g => (g (by first | trivial | rfl)).elim⟩
      refine ⟨fun g => absurd g (by decide), fun _ => ?_⟩
      have lt : q < X.2 := by
        have k0 : ¬ kdE X q = 0 := more.1
        rw [kd_0] at k0
        omega
      rw [if_neg (by omega)] at hK
      have go : en_Call G (d + 7) 0 0 Y_X0_readClause wN wN [.ref 28, .ref p, .int (iI (if i = 60 then 1 else 0))] h9 hl hr (en_kk (o_aload 0 (o_getR wN 0 4 0 (o_bipush 59 (o_inv G (d + 7) 0 0 Y_X7_needSign 1 7 wN wN (o_iinc 4 1 (kv G Y_X0_readBeach (d + 7 + 1) wN wN K 31)) x_no)))) x_no [.ref 28, .ref b1, .int n9, .ref p, .int (iI (i : Int))] [] (xc - 0) (xs - 0)) := by
        refine k_clause (d := d) hR hR2 hp hpR lt oB hX hz oP oG (fun g1 F1 X1 H1 r1 => ?_)
        simp (disch := omega) only [sh28, lt28, sh26, lt26, hR2, en_ops, en_opc, iI_add, iI_mul, iI_sub, jL_add, jL_mul, iI_le, iI_lt, iI_eq, iI_eq0, iI_lt0, iI_0le, iI_le0, iI_0lt, jL_iI, iI_jL, lc_eq, lc_lt, lc_le, lc_ge, lc_gt, Nat.sub_zero, Nat.zero_le, true_and, and_true, Nat.reduceAdd, Nat.reduceLeDiff]
        refine t_needSign (d := d + 4) (c := 59) ⟨by decide, by decide⟩ (by decide) hR X1 H1 (fun g2 F2 X2 H2 => ?_)
        simp (disch := omega) only [en_ops, en_opc, iI_add, iI_mul, iI_sub, jL_add, jL_mul, iI_le, iI_lt, iI_eq, iI_eq0, iI_lt0, iI_0le, iI_le0, iI_0lt, jL_iI, iI_jL, lc_eq, lc_lt, lc_le, lc_ge, lc_gt, Nat.sub_zero, Nat.zero_le, true_and, and_true, Nat.reduceAdd, Nat.reduceLeDiff]
        refine ih (i + 1) (bCl X i B q) (bNx X i B q) g2 (by omega) (by omega) (fun g => ?_) X2 H2 (fun q1 hq1 => ?_) (fun h' H' F' R' => hK h' H' ((F1.tr F2.be).tr F') R')
        · rcases hz9 : bCl X i B q with e | q1
          · exact ⟨e, rfl⟩
          · exact absurd (show i = 60 by omega) (bn_ok oB hz9).2.1
        · have ok := bn_ok oB hq1
          obtain ⟨p4, e4, -⟩ := zSg_i (show zSg X 59 (bA4 X B (bK (wdE X q)) (bZ1 X i B q)) = _ from hq1)
          obtain ⟨r2, r3⟩ := r1 p4 e4
          obtain ⟨m1, m2, m3⟩ := r3
          exact ⟨ok.1, r2.fx F2 (fun a j g1 g2 w => by have := w.1; omega), by rw [F2 28 1 (fun w => by have := w.1; omega)]; exact m1, by rw [F2 28 2 (fun w => by have := w.1; omega)]; exact m2, by rw [F2 28 3 (fun w => by have := w.1; omega)]; exact m3⟩
      by_cases i60 : i = 60
      · rw [if_pos i60] at go
        exact ⟨fun g => absurd (show (i : Int) = 60 by omega) g, fun _ => go⟩
      · rw [if_neg i60] at go
        exact ⟨fun _ => go, fun g => absurd g (by omega)⟩
theorem t_clear (hp : isPl p) (hpR : plR p hr) (H : ∀ hi', Fx (fun a _ => p ≤ a ∧ a ≤ p + 5) hi hi' → bpH p b0S hi' → K (.inl none) hi' hl hr) : en_Call G (d + 2) xc xs Y_X3_clear wN wN [.ref p] hi hl hr K := by
  obtain ⟨p0, p1, p2, p3, p4, p5, p6, p7⟩ := hp.sh
  have q0 : p < 134 := by omega
  obtain ⟨r2, r3, r4, -⟩ := id hpR
  apply en_X3_clear
  simp (disch := omega) only [B_X3_clear_0, p0, q0, r2, en_ops, en_opc, iI_add, iI_mul, iI_sub, jL_add, jL_mul, iI_le, iI_lt, iI_eq, iI_eq0, iI_lt0, iI_0le, iI_le0, iI_0lt, jL_iI, iI_jL, lc_eq, lc_lt, lc_le, lc_ge, lc_gt, Nat.sub_zero, Nat.zero_le, true_and, and_true, Nat.reduceAdd, Nat.reduceLeDiff]
  have F1 : Fx (fun a _ => a = p) hi (en_up (en_up hi p 0 (iI 6)) p 1 (iI 4)) := Fx.up (Fx.up Fx.rf rfl) rfl
  have e0 : en_up (en_up hi p 0 (iI 6)) p 1 (iI 4) p 0 = iI 6 := by rw [up_ne (Or.inr (by decide)), up_at]
  have e1 : en_up (en_up hi p 0 (iI 6)) p 1 (iI 4) p 1 = iI 4 := up_at
  generalize en_up (en_up hi p 0 (iI 6)) p 1 (iI 4) = h1 at F1 e0 e1 ⊢
  refine t_fill (d := d) (x := p + 1) (by rw [p1]) (by omega) (by rw [p1]; decide) (fun h2 F2 E2 => ?_)
  rw [p1] at E2
  simp (disch := omega) only [p0, q0, r3, en_ops, en_opc, iI_add, iI_mul, iI_sub, jL_add, jL_mul, iI_le, iI_lt, iI_eq, iI_eq0, iI_lt0, iI_0le, iI_le0, iI_0lt, jL_iI, iI_jL, lc_eq, lc_lt, lc_le, lc_ge, lc_gt, Nat.sub_zero, Nat.zero_le, true_and, and_true, Nat.reduceAdd, Nat.reduceLeDiff]
  refine t_fill (d := d) (x := p + 2) (by rw [p2]) (by omega) (by rw [p2]; decide) (fun h3 F3 E3 => ?_)
  rw [p2] at E3
  simp (disch := omega) only [p0, q0, r4, en_ops, en_opc, iI_add, iI_mul, iI_sub, jL_add, jL_mul, iI_le, iI_lt, iI_eq, iI_eq0, iI_lt0, iI_0le, iI_le0, iI_0lt, jL_iI, iI_jL, lc_eq, lc_lt, lc_le, lc_ge, lc_gt, Nat.sub_zero, Nat.zero_le, true_and, and_true, Nat.reduceAdd, Nat.reduceLeDiff]
  refine t_fill (d := d) (x := p + 3) (by rw [p3]) (by omega) (by rw [p3]; decide) (fun h4 F4 E4 => ?_)
  rw [p3] at E4
  simp (disch := omega) only [p0, q0, en_ops, en_opc, iI_add, iI_mul, iI_sub, jL_add, jL_mul, iI_le, iI_lt, iI_eq, iI_eq0, iI_lt0, iI_0le, iI_le0, iI_0lt, jL_iI, iI_jL, lc_eq, lc_lt, lc_le, lc_ge, lc_gt, Nat.sub_zero, Nat.zero_le, true_and, and_true, Nat.reduceAdd, Nat.reduceLeDiff]
  have U : Fx (fun a j => a = p ∧ (j = 6 ∨ j = 8)) h4 (en_up (en_up h4 p 6 (iI 0)) p 8 (iI 0)) := Fx.up (Fx.up Fx.rf ⟨rfl, Or.inl rfl⟩) ⟨rfl, Or.inr rfl⟩
  have G2 : Fx (fun a _ => a = p + 1) h1 h2 := fun a j g => by rw [F2 a g]
  have G3 : Fx (fun a _ => a = p + 2) h2 h3 := fun a j g => by rw [F3 a g]
  have G4 : Fx (fun a _ => a = p + 3) h3 h4 := fun a j g => by rw [F4 a g]
  refine H _ (((((F1.mono (fun a j w => by omega)).tr (G2.mono (fun a j w => by omega))).tr (G3.mono (fun a j w => by omega))).tr (G4.mono (fun a j w => by omega))).tr (U.mono (fun a j w => by omega))) ⟨?_, ?_, fun c z k hc hz hk => ?_, fun c hc => ?_, fun c hc => ?_, ⟨?_, fun j hj => absurd hj (Nat.not_lt_zero _)⟩, ⟨up_at, fun j hj => absurd hj (Nat.not_lt_zero _)⟩⟩
  · rw [U p 0 (by omega), G4 p 0 (by omega), G3 p 0 (by omega), G2 p 0 (by omega)]; exact e0
  · rw [U p 1 (by omega), G4 p 1 (by omega), G3 p 1 (by omega), G2 p 1 (by omega)]; exact e1
  · rw [U _ _ (by omega), G4 _ _ (by omega), G3 _ _ (by omega)]; exact E2 _ (by show (c * 6 + z) * 3 + k < 216; omega)
  · rw [U _ _ (by omega), G4 _ _ (by omega)]; exact E3 c hc
  · rw [U _ _ (by omega)]; exact E4 c hc
  · rw [up_ne (Or.inr (by decide)), up_at]; rfl
end
