section
variable {G : en_G} {d : Nat} {K : en_K} {X : tTx} {z : tZ} {B : bSt} {p i q : Nat} {hi : en_I} {hl : en_L} {hr : en_F} {xc xs : Nat}
theorem bz_o {full : Prop} [Decidable full] {kd : Nat} (hk : bK (wdE X q) = kd) (h2 : 2 ≤ kd ∧ kd ≤ 6) (hf : full ↔ (i = 60 ∨ (kd = 5 ∧ bSn B = 8) ∨ (kd = 6 ∧ bLn B = 4))) : bZ1 X i B q = if full then .inl (3, q) else .inr (nxE X q) := by
  unfold bZ1
  rw [hk]
  have e : bFt i B kd = if full then 3 else 0 := by
    unfold bFt
    rw [if_neg (by omega)]
    by_cases g : full
    · rw [if_pos g, if_pos (hf.mp g)]
    · rw [if_neg g, if_neg (fun w => g (hf.mpr w)), if_neg (by omega)]
  rw [e]
  by_cases g : full
  · rw [if_pos g, if_pos g, if_neg (by decide)]
  · rw [if_neg g, if_neg g, if_pos rfl]
/-- the beginning of any clause but cells and sizes: the flags behind it -/
theorem bg_o {kd a b c e : Nat} {hi' : en_I} (h2 : 2 ≤ kd) (hB : bOK i B) (hg : bgH i B hi) (e1 : hi' 28 1 = hi 28 1) (e2 : hi' 28 2 = hi 28 2) (e3 : hi' 28 3 = iI 1) : bgH (i + 1) (bUp B kd a b c e) hi' := by
  have tt := hB.2.2.2.2.1
  have u : bTc (bUp B kd a b c e) = bTc B ∧ bTs (bUp B kd a b c e) = bTs B := by
    unfold bUp
    rw [if_neg (by omega), if_neg (by omega)]
    (repeat' split) <;> exact ⟨rfl, rfl⟩
  unfold bgH
  rw [u.1, u.2, e1, e2, e3, if_pos (show bTc B + bTs B < i + 1 by omega)]
  exact ⟨hg.1, hg.2.1, rfl⟩
theorem k_heap (hR : hr 26 0 = .ref 1) (hR2 : hr 28 0 = .ref 26) (hp : isPl p) (hpR : plR p hr) (hk : bK (wdE X q) = 2) (hq : q < X.2) (hB : bOK i B) (hX : tqS X hi) (h : tkX X (.inr q) hi) (hP : bpH p B hi) (hg : bgH i B hi) (H : beK X p i q B hi hl hr K) : en_Call G (d + 5) xc xs Y_X0_readHeap wN wN [.ref 28, .ref p, .int (iI (if i = 60 then 1 else 0))] hi hl hr K := by
  obtain ⟨p0, p1, p2, p3, p4, p5, p6, p7⟩ := hp.sh
  have q0 : p < 134 := by omega
  have q1 : p + 1 < 134 := by omega
  have ez : bZ1 X i B q = if i = 60 then .inl (3, q) else .inr (nxE X q) := bz_o hk (by decide) (by omega)
  apply en_X0_readHeap
  simp (disch := omega) only [B_X0_readHeap_0, sh28, lt28, en_ops, en_opc, iI_add, iI_mul, iI_sub, jL_add, jL_mul, iI_le, iI_lt, iI_eq, iI_eq0, iI_lt0, iI_0le, iI_le0, iI_0lt, jL_iI, iI_jL, lc_eq, lc_lt, lc_le, lc_ge, lc_gt, Nat.sub_zero, Nat.zero_le, true_and, and_true, Nat.reduceAdd, Nat.reduceLeDiff]
  refine t_begO (d := d + 1) (full := i = 60) hR hR2 hq hX h (fun h1 F1 X1 H1 e3 => ?_)
  rw [← ez] at H1
  have P1 : bpH p B h1 := hP.fx F1 (fun a j g1 g2 w => by omega)
  simp (disch := omega) only [sh28, lt28, en_ops, en_opc, iI_add, iI_mul, iI_sub, jL_add, jL_mul, iI_le, iI_lt, iI_eq, iI_eq0, iI_lt0, iI_0le, iI_le0, iI_0lt, jL_iI, iI_jL, lc_eq, lc_lt, lc_le, lc_ge, lc_gt, Nat.sub_zero, Nat.zero_le, true_and, and_true, Nat.reduceAdd, Nat.reduceLeDiff]
  refine t_needHeap (d := d) (nc := bC B) (nz := bZ B) hR hR2 hp P1.1 P1.2.1 hB.1 hB.2.1 X1 H1 (fun h2 a b c F2 X2 H2 a1 b1 c1 w1 => ?_)
  have r2 : hr p 2 = .ref (p + 1) := hpR.1
  have P2 : bpH p B h2 := P1.fx F2 (fun a j g1 g2 w => by have := w.1; omega)
  simp (disch := omega) only [sh28, lt28, sh26, lt26, hR2, p0, q0, r2, en_ops, en_opc, iI_add, iI_mul, iI_sub, jL_add, jL_mul, iI_le, iI_lt, iI_eq, iI_eq0, iI_lt0, iI_0le, iI_le0, iI_0lt, jL_iI, iI_jL, lc_eq, lc_lt, lc_le, lc_ge, lc_gt, Nat.sub_zero, Nat.zero_le, true_and, and_true, Nat.reduceAdd, Nat.reduceLeDiff]
  refine t_needNum (d := d + 1) (lo := 0) (up := 9999) (by decide) hR X2 H2 (fun h3 v F3 X3 H3 v1 v2 v3 => ?_)
  have P3 : bpH p B h3 := P2.fx F3 (fun a j g1 g2 w => by have := w.1; omega)
  have cb := hB.1
  have zb := hB.2.1
  simp (disch := omega) only [p1, q1, en_ops, en_opc, iI_add, iI_mul, iI_sub, jL_add, jL_mul, iI_le, iI_lt, iI_eq, iI_eq0, iI_lt0, iI_0le, iI_le0, iI_0lt, jL_iI, iI_jL, lc_eq, lc_lt, lc_le, lc_ge, lc_gt, Nat.sub_zero, Nat.zero_le, true_and, and_true, Nat.reduceAdd, Nat.reduceLeDiff]
  refine ⟨(a * 6 + b) * 3 + c, rfl, by omega, ?_⟩
  have U : Fx (fun a _ => a = p + 1) h3 (en_up h3 (p + 1) ((a * 6 + b) * 3 + c) (iI v)) := Fx.up Fx.rf rfl
  have FA : Fx (Pbe p) hi (en_up h3 (p + 1) ((a * 6 + b) * 3 + c) (iI v)) := (((F1.mono (fun a j w => by unfold Pbe; omega)).tr F2.be).tr F3.be).tr (U.mono (fun a j w => by unfold Pbe; omega))
  obtain ⟨y1, y2, y3, y4⟩ := ba_2 (X := X) (B := B) (z := bZ1 X i B q)
  have eA3 : bA3 X B 2 (bZ1 X i B q) = zNm X 0 2 (zNm X 0 ((bZ B : Int) - 1) (zNm X 0 ((bC B : Int) - 1) (bZ1 X i B q))) := by rw [y3, y2, y1]
  have eA4 : bA4 X B (bK (wdE X q)) (bZ1 X i B q) = zNm X 0 9999 (zNm X 0 2 (zNm X 0 ((bZ B : Int) - 1) (zNm X 0 ((bC B : Int) - 1) (bZ1 X i B q)))) := by rw [hk, y4, eA3]
  refine H _ FA (X3.fx U (fun j w => by omega) (fun w => by omega)) (by rw [eA4]; exact H3.fx U (fun j w => by omega)) (fun q' hq' => ?_)
  rw [eA4] at hq'
  obtain ⟨p9, x9, -⟩ := zNm_i hq'
  obtain ⟨wa, wb, wc⟩ := w1 _ x9
  have wv := v3 _ hq'
  have eN : bNx X i B q = bUp B 2 a b c v.toNat := by
    unfold bNx
    rw [hk, eA3, y2, y1, ← wa, ← wb, ← wc, show (zVa X (zNm X 0 2 (zNm X 0 ((bZ B : Int) - 1) (zNm X 0 ((bC B : Int) - 1) (bZ1 X i B q))))) = v.toNat by omega]
  rw [eN]
  refine ⟨⟨?_, ?_, fun c' z' k' hc' hz' hk' => ?_, ?_, ?_, ?_, ?_⟩, bg_o (by decide) hB hg ?_ ?_ ?_⟩
  · rw [up_ne (Or.inl (by omega))]; exact P3.1
  · rw [up_ne (Or.inl (by omega))]; exact P3.2.1
  · show _ = iI (updF (bF B) a b c ((v.toNat : Nat) : Int) c' z' k')
    unfold updF
    by_cases ej : (c' * 6 + z') * 3 + k' = (a * 6 + b) * 3 + c
    · rw [if_pos ((ix_inj (by omega) c1 hz' hk').mp ej), ej, up_at]
      exact iI_eq_of (by omega)
    · rw [if_neg (fun w => ej (by rw [w.1, w.2.1, w.2.2])), up_ne (Or.inr ej)]
      exact P3.2.2.1 c' z' k' hc' hz' hk'
  · intro c' hc'
    rw [up_ne (Or.inl (by omega))]; exact P3.2.2.2.1 c' hc'
  · intro c' hc'
    rw [up_ne (Or.inl (by omega))]; exact P3.2.2.2.2.1 c' hc'
  · refine ⟨by rw [up_ne (Or.inl (by omega))]; exact P3.2.2.2.2.2.1.1, fun j hj => ?_⟩
    rw [up_ne (Or.inl (by omega)), up_ne (Or.inl (by omega))]
    exact P3.2.2.2.2.2.1.2 j hj
  · refine ⟨by rw [up_ne (Or.inl (by omega))]; exact P3.2.2.2.2.2.2.1, fun j hj => ?_⟩
    rw [up_ne (Or.inl (by omega)), up_ne (Or.inl (by omega)), up_ne (Or.inl (by omega)), up_ne (Or.inl (by omega))]
    exact P3.2.2.2.2.2.2.2 j hj
  · rw [up_ne (Or.inl (by omega)), F3 28 1 (fun w => by have := w.1; omega), F2 28 1 (fun w => by have := w.1; omega), F1 28 1 (by omega)]
  · rw [up_ne (Or.inl (by omega)), F3 28 2 (fun w => by have := w.1; omega), F2 28 2 (fun w => by have := w.1; omega), F1 28 2 (by omega)]
  · rw [up_ne (Or.inl (by omega)), F3 28 3 (fun w => by have := w.1; omega), F2 28 3 (fun w => by have := w.1; omega)]; exact e3
theorem k_spring (hR : hr 26 0 = .ref 1) (hR2 : hr 28 0 = .ref 26) (hp : isPl p) (hpR : plR p hr) (hk : bK (wdE X q) = 5) (hq : q < X.2) (hB : bOK i B) (hX : tqS X hi) (h : tkX X (.inr q) hi) (hP : bpH p B hi) (hg : bgH i B hi) (H : beK X p i q B hi hl hr K) : en_Call G (d + 5) xc xs Y_X0_readSpring wN wN [.ref 28, .ref p, .int (iI (if i = 60 then 1 else 0))] hi hl hr K := by
  obtain ⟨p0, p1, p2, p3, p4, p5, p6, p7⟩ := hp.sh
  have q0 : p < 134 := by omega
  have sp8 := hB.2.2.2.2.2.2.2.2.2.1.1
  have pp : (en_SH p).1 = 3 ∧ p < 134 := ⟨by rw [p0], q0⟩
  have e6 : hi p 6 = iI (bSn B : Int) := hP.2.2.2.2.2.1.1
  have ez : bZ1 X i B q = if (i = 60 ∨ bSn B = 8) then .inl (3, q) else .inr (nxE X q) := bz_o hk (by decide) (by omega)
  have go : en_Call G (d + 4) 0 0 Y_X0_beginOther wN wN [.ref 28, .int (iI (if (i = 60 ∨ bSn B = 8) then 1 else 0))] hi hl hr (en_kk (o_aload 0 (o_aload 1 (o_inv G (d + 4) 0 0 Y_X0_needHeap 1 0 wN wN (o_istore 3 (o_aload 1 (o_iload 3 (o_aload 0 (o_getR wN 0 4 0 (o_iconst 1 (o_sipush 999 (o_inv G (d + 4) 0 0 Y_X7_needNumber 2 7 wN wN (o_inv G (d + 4) 0 0 Y_X3_addSpring 2 3 wN wN (o_vret K) x_no) x_no)))))))) x_no))) x_no [.ref 28, .ref p, .int (iI (if i = 60 then 1 else 0)), jk] [] xc xs) := by
    refine t_begO (d := d + 1) (full := i = 60 ∨ bSn B = 8) hR hR2 hq hX h (fun h1 F1 X1 H1 e3 => ?_)
    rw [← ez] at H1
    have P1 : bpH p B h1 := hP.fx F1 (fun a j g1 g2 w => by omega)
    simp (disch := omega) only [sh28, lt28, en_ops, en_opc, iI_add, iI_mul, iI_sub, jL_add, jL_mul, iI_le, iI_lt, iI_eq, iI_eq0, iI_lt0, iI_0le, iI_le0, iI_0lt, jL_iI, iI_jL, lc_eq, lc_lt, lc_le, lc_ge, lc_gt, Nat.sub_zero, Nat.zero_le, true_and, and_true, Nat.reduceAdd, Nat.reduceLeDiff]
    refine t_needHeap (d := d) (nc := bC B) (nz := bZ B) hR hR2 hp P1.1 P1.2.1 hB.1 hB.2.1 X1 H1 (fun h2 a b c F2 X2 H2 a1 b1 c1 w1 => ?_)
    have P2 : bpH p B h2 := P1.fx F2 (fun a j g1 g2 w => by have := w.1; omega)
    simp (disch := omega) only [sh28, lt28, sh26, lt26, hR2, en_ops, en_opc, iI_add, iI_mul, iI_sub, jL_add, jL_mul, iI_le, iI_lt, iI_eq, iI_eq0, iI_lt0, iI_0le, iI_le0, iI_0lt, jL_iI, iI_jL, lc_eq, lc_lt, lc_le, lc_ge, lc_gt, Nat.sub_zero, Nat.zero_le, true_and, and_true, Nat.reduceAdd, Nat.reduceLeDiff]
    refine t_needNum (d := d + 1) (lo := 1) (up := 999) (by decide) hR X2 H2 (fun h3 v F3 X3 H3 v1 v2 v3 => ?_)
    have P3 : bpH p B h3 := P2.fx F3 (fun a j g1 g2 w => by have := w.1; omega)
    simp (disch := omega) only [en_ops, en_opc, iI_add, iI_mul, iI_sub, jL_add, jL_mul, iI_le, iI_lt, iI_eq, iI_eq0, iI_lt0, iI_0le, iI_le0, iI_0lt, jL_iI, iI_jL, lc_eq, lc_lt, lc_le, lc_ge, lc_gt, Nat.sub_zero, Nat.zero_le, true_and, and_true, Nat.reduceAdd, Nat.reduceLeDiff]
    refine ⟨pp, t_addSpring (d := d + 3) hp hpR P3.2.2.2.2.2.1.1 sp8 (fun h4 F4 A4 => ?_)⟩
    simp (disch := omega) only [en_ops, en_opc, iI_add, iI_mul, iI_sub, jL_add, jL_mul, iI_le, iI_lt, iI_eq, iI_eq0, iI_lt0, iI_0le, iI_le0, iI_0lt, jL_iI, iI_jL, lc_eq, lc_lt, lc_le, lc_ge, lc_gt, Nat.sub_zero, Nat.zero_le, true_and, and_true, Nat.reduceAdd, Nat.reduceLeDiff]
    have FA : Fx (Pbe p) hi h4 := (((F1.mono (fun a j w => by unfold Pbe; omega)).tr F2.be).tr F3.be).tr (F4.mono (fun a j w => by unfold Pbe; omega))
    obtain ⟨y1, y2, y3, y4⟩ := ba_5 (X := X) (B := B) (z := bZ1 X i B q)
    have eA3 : bA3 X B 5 (bZ1 X i B q) = zNm X 0 2 (zNm X 0 ((bZ B : Int) - 1) (zNm X 0 ((bC B : Int) - 1) (bZ1 X i B q))) := by rw [y3, y2, y1]
    have eA4 : bA4 X B (bK (wdE X q)) (bZ1 X i B q) = zNm X 1 999 (zNm X 0 2 (zNm X 0 ((bZ B : Int) - 1) (zNm X 0 ((bC B : Int) - 1) (bZ1 X i B q)))) := by rw [hk, y4, eA3]
    refine H _ FA (X3.fx F4 (fun j w => by omega) (fun w => by omega)) (by rw [eA4]; exact H3.fx F4 (fun j w => by omega)) (fun q' hq' => ?_)
    rw [eA4] at hq'
    obtain ⟨p9, x9, -⟩ := zNm_i hq'
    obtain ⟨p8, x8, -⟩ := zNm_i x9
    obtain ⟨p7', x7, -⟩ := zNm_i x8
    obtain ⟨p6', x6, -⟩ := zNm_i x7
    have nf : ¬ (i = 60 ∨ bSn B = 8) := fun w => by rw [ez, if_pos w] at x6; cases x6
    obtain ⟨wa, wb, wc⟩ := w1 _ x9
    have wv := v3 _ hq'
    obtain ⟨n1, n2, n3, n4⟩ := A4 (by omega)
    have eN : bNx X i B q = bUp B 5 a b c v.toNat := by
      unfold bNx
      rw [hk, eA3, y2, y1, ← wa, ← wb, ← wc, show (zVa X (zNm X 0 2 (zNm X 0 ((bZ B : Int) - 1) (zNm X 0 ((bC B : Int) - 1) (bZ1 X i B q))))) = v.toNat by omega]
    rw [eN]
    refine ⟨⟨?_, ?_, ?_, ?_, ?_, ⟨n1, fun j hj => ?_⟩, ?_⟩, bg_o (by decide) hB hg ?_ ?_ ?_⟩
    · rw [n2 0 (by decide)]; exact P3.1
    · rw [n2 1 (by decide)]; exact P3.2.1
    · rw [n3 (p + 1) (by omega) (by omega)]; exact P3.2.2.1
    · rw [n3 (p + 2) (by omega) (by omega)]; exact P3.2.2.2.1
    · rw [n3 (p + 3) (by omega) (by omega)]; exact P3.2.2.2.2.1
    · replace hj : j < bSn B + 1 := hj
      have hh : ∀ x : Nat × Nat × Nat × Int, x = (if j = bSn B then (a, b, c, ((v.toNat : Nat) : Int)) else bSf B j) → h4 (p + 4) (4 * j) = iI (((x.1 * 6 + x.2.1) * 3 + x.2.2.1 : Nat) : Int) ∧ h4 (p + 4) (4 * j + 1) = iI x.2.2.2 := fun x hx => by
        rw [n4 (4 * j), n4 (4 * j + 1)]
        by_cases ej : j = bSn B
        · rw [if_pos ej] at hx
          subst hx
          rw [if_pos (by omega), if_neg (by omega), if_pos (by omega)]
          exact ⟨rfl, iI_eq_of (by show v = ((v.toNat : Nat) : Int); omega)⟩
        · rw [if_neg ej] at hx
          rw [hx, if_neg (by omega), if_neg (by omega), if_neg (by omega), if_neg (by omega)]
          exact P3.2.2.2.2.2.1.2 j (by omega)
      exact hh (if j = bSn B then (a, b, c, ((v.toNat : Nat) : Int)) else bSf B j) rfl
    · refine ⟨by rw [n2 8 (by decide)]; exact P3.2.2.2.2.2.2.1, fun j hj => ?_⟩
      rw [n3 (p + 5) (by omega) (by omega)]
      exact P3.2.2.2.2.2.2.2 j hj
    · rw [F4 28 1 (by omega), F3 28 1 (fun w => by have := w.1; omega), F2 28 1 (fun w => by have := w.1; omega), F1 28 1 (by omega)]
    · rw [F4 28 2 (by omega), F3 28 2 (fun w => by have := w.1; omega), F2 28 2 (fun w => by have := w.1; omega), F1 28 2 (by omega)]
    · rw [F4 28 3 (by omega), F3 28 3 (fun w => by have := w.1; omega), F2 28 3 (fun w => by have := w.1; omega)]; exact e3
  apply en_X0_readSpring
  simp (disch := omega) only [B_X0_readSpring_0, sh28, lt28, p0, q0, e6, en_ops, en_opc, iI_add, iI_mul, iI_sub, jL_add, jL_mul, iI_le, iI_lt, iI_eq, iI_eq0, iI_lt0, iI_0le, iI_le0, iI_0lt, jL_iI, iI_jL, lc_eq, lc_lt, lc_le, lc_ge, lc_gt, Nat.sub_zero, Nat.zero_le, true_and, and_true, Nat.reduceAdd, Nat.reduceLeDiff]
  have s14 : (i = 60 ∨ bSn B = 8) → en_V G Y_X0_readSpring (d + 5) wN wN K 14 [.ref 28, .ref p, .int (iI (if i = 60 then 1 else 0)), jk] [.ref 28] hi hl hr xc xs := fun w => by
    rw [if_pos w] at go
    apply s_X0_readSpring_14
    simp (disch := omega) only [B_X0_readSpring_14, sh28, lt28, en_ops, en_opc, iI_add, iI_mul, iI_sub, jL_add, jL_mul, iI_le, iI_lt, iI_eq, iI_eq0, iI_lt0, iI_0le, iI_le0, iI_0lt, jL_iI, iI_jL, lc_eq, lc_lt, lc_le, lc_ge, lc_gt, Nat.sub_zero, Nat.zero_le, true_and, and_true, Nat.reduceAdd, Nat.reduceLeDiff]
    exact go
  by_cases i60 : i = 60
  · rw [if_pos i60] at s14 ⊢
    exact ⟨fun _ => s14 (Or.inl i60), fun g => absurd g (by decide)⟩
  · rw [if_neg i60] at s14 go ⊢
    refine ⟨fun g => (g (by first | trivial | rfl)).elim, fun _ => ⟨fun g => ?_, fun g => s14 (Or.inr (by omega))⟩⟩
    rw [if_neg (by omega)] at go
    exact go
end
