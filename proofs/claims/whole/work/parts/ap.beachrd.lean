/-! lorries, extents, a clause -/
theorem bK_0 {w : Nat} : bK w = 0 ↔ w = 3322259 := by unfold bK; (repeat' split) <;> omega
theorem bK_1 {w : Nat} : bK w = 1 ↔ w = 20244659 := by unfold bK; (repeat' split) <;> omega
theorem bK_2 {w : Nat} : bK w = 2 ↔ w = 267312 := by unfold bK; (repeat' split) <;> omega
theorem bK_3 {w : Nat} : bK w = 3 ↔ w = 3741300 := by unfold bK; (repeat' split) <;> omega
theorem bK_4 {w : Nat} : bK w = 4 ↔ w = 755084 := by unfold bK; (repeat' split) <;> omega
theorem bK_5 {w : Nat} : bK w = 5 ↔ w = 654910919 := by unfold bK; (repeat' split) <;> omega
theorem bK_6 {w : Nat} : bK w = 6 ↔ w = 13093465 := by unfold bK; (repeat' split) <;> omega
section
variable {G : en_G} {d : Nat} {K : en_K} {X : tTx} {z : tZ} {B : bSt} {p i q : Nat} {hi : en_I} {hl : en_L} {hr : en_F} {xc xs : Nat}
theorem t_isNumber {v : Int} (hv : 0 ≤ v ∧ v < 1000000) (h : tkX X z hi) (H : ∀ b : Int, (b = 1 ∧ zKd X z = 1 ∧ (zVa X z : Int) = v) ∨ (b = 0 ∧ ¬ (zKd X z = 1 ∧ (zVa X z : Int) = v)) → K (.inl (some (.int (iI b)))) hi hl hr) : en_Call G (d + 1) xc xs Y_X7_isNumber wN wN [.ref 26, .int (iI v)] hi hl hr K := by
  have k := h.k
  rcases z with e | q
  · have k5 : hi 26 3 = iI 4 := k
    apply en_X7_isNumber
    simp (disch := omega) only [B_X7_isNumber_0, sh26, lt26, k5, en_ops, en_opc, iI_add, iI_mul, iI_sub, jL_add, jL_mul, iI_le, iI_lt, iI_eq, iI_eq0, iI_lt0, iI_0le, iI_le0, iI_0lt, jL_iI, iI_jL, lc_eq, lc_lt, lc_le, lc_ge, lc_gt, Nat.sub_zero, Nat.zero_le, true_and, and_true, Nat.reduceAdd, Nat.reduceLeDiff]
    exact ⟨fun _ => ⟨rfl, H 0 (Or.inr ⟨rfl, fun g => absurd (show (4 : Nat) = 1 from g.1) (by decide)⟩)⟩, fun g => absurd g (by decide)⟩
  · have k5 : hi 26 3 = iI (kdE X q : Int) := k
    have k6 : kdE X q ≤ 3 := kd_le X q
    obtain ⟨q1, q2, q3, q4, q5, q6, q7, q8, q9⟩ := id h
    by_cases k1 : kdE X q = 1
    · have c9 : capN (nvE X q) ≤ 1000000 := by unfold capN; split <;> omega
      have e5 : hi 26 5 = iI (capN (nvE X q) : Int) := q8 k1
      have cv : ((capN (nvE X q) : Nat) : Int) = v ↔ ((nvE X q : Nat) : Int) = v := by unfold capN; split <;> omega
      have k7 : hi 26 3 = iI 1 := by rw [k5, k1]; rfl
      apply en_X7_isNumber
      simp (disch := omega) only [B_X7_isNumber_0, sh26, lt26, k7, e5, en_ops, en_opc, iI_add, iI_mul, iI_sub, jL_add, jL_mul, iI_le, iI_lt, iI_eq, iI_eq0, iI_lt0, iI_0le, iI_le0, iI_0lt, jL_iI, iI_jL, lc_eq, lc_lt, lc_le, lc_ge, lc_gt, Nat.sub_zero, Nat.zero_le, true_and, and_true, Nat.reduceAdd, Nat.reduceLeDiff]
      refine ⟨fun g => (g (by first | trivial | rfl)).elim, fun _ => ⟨fun e => ⟨rfl, H 0 (Or.inr ⟨rfl, fun g => e (cv.mpr g.2)⟩)⟩, fun e => ⟨rfl, H 1 (Or.inl ⟨rfl, k1, cv.mp e⟩)⟩⟩⟩
    · apply en_X7_isNumber
      simp (disch := omega) only [B_X7_isNumber_0, sh26, lt26, k5, en_ops, en_opc, iI_add, iI_mul, iI_sub, jL_add, jL_mul, iI_le, iI_lt, iI_eq, iI_eq0, iI_lt0, iI_0le, iI_le0, iI_0lt, jL_iI, iI_jL, lc_eq, lc_lt, lc_le, lc_ge, lc_gt, Nat.sub_zero, Nat.zero_le, true_and, and_true, Nat.reduceAdd, Nat.reduceLeDiff]
      refine ⟨fun _ => ⟨rfl, H 0 (Or.inr ⟨rfl, fun g => k1 g.1⟩)⟩, fun g => by omega⟩
theorem zNm_n {lo up : Int} {z1 : tZ} {e : Nat × Nat} (h : z1 = .inl e) : zNm X lo up z1 = .inl e := by subst h; rfl
theorem k_lorry (hR : hr 26 0 = .ref 1) (hR2 : hr 28 0 = .ref 26) (hp : isPl p) (hpR : plR p hr) (hk : bK (wdE X q) = 6) (hq : q < X.2) (hB : bOK i B) (hX : tqS X hi) (h : tkX X (.inr q) hi) (hP : bpH p B hi) (hg : bgH i B hi) (H : beK X p i q B hi hl hr K) : en_Call G (d + 5) xc xs Y_X0_readLorry wN wN [.ref 28, .ref p, .int (iI (if i = 60 then 1 else 0))] hi hl hr K := by
  obtain ⟨p0, p1, p2, p3, p4, p5, p6, p7⟩ := hp.sh
  have q0 : p < 134 := by omega
  have lo4 := hB.2.2.2.2.2.2.2.2.2.2.1
  have cb := hB.1
  have pp : (en_SH p).1 = 3 ∧ p < 134 := ⟨by rw [p0], q0⟩
  have e8 : hi p 8 = iI (bLn B : Int) := hP.2.2.2.2.2.2.1
  have ez : bZ1 X i B q = if (i = 60 ∨ bLn B = 4) then .inl (3, q) else .inr (nxE X q) := bz_o hk (by decide) (by omega)
  obtain ⟨y1, y2, y3, y4⟩ := ba_6 (X := X) (B := B) (z := bZ1 X i B q)
  -- the second half, where the first number is v1 and z2 the state behind the sameness
  have L55 : ∀ (h2 : en_I) (v1 : Int) (z2 : tZ), Fx (fun a j => (a = 26 ∧ 1 < j) ∨ (a = 28 ∧ j = 3)) hi h2 → tqS X h2 → tkX X z2 h2 → h2 28 3 = iI 1 → 0 ≤ v1 → v1 ≤ (bC B : Int) - 1 → z2 = (if zKd X (bA1 X B 6 (bZ1 X i B q)) = 1 ∧ zVa X (bA1 X B 6 (bZ1 X i B q)) = zVa X (bZ1 X i B q) then zFl 2 (bA1 X B 6 (bZ1 X i B q)) else bA1 X B 6 (bZ1 X i B q)) → (∀ q1, bA1 X B 6 (bZ1 X i B q) = .inr q1 → v1 = (zVa X (bZ1 X i B q) : Int)) → en_V G Y_X0_readLorry (d + 5) wN wN K 55 [.ref 28, .ref p, .int (iI (if i = 60 then 1 else 0)), .int (iI v1), jk, jk] [] h2 hl hr xc xs := by
    intro h2 v1 z2 F2 X2 H2 e3 g1 g2 hz2 w1
    have P2 : bpH p B h2 := hP.fx F2 (fun a j g1 g2 w => by omega)
    have c2 := P2.1
    apply s_X0_readLorry_55
    simp (disch := omega) only [B_X0_readLorry_55, sh28, lt28, sh26, lt26, hR2, p0, q0, c2, en_ops, en_opc, iI_add, iI_mul, iI_sub, jL_add, jL_mul, iI_le, iI_lt, iI_eq, iI_eq0, iI_lt0, iI_0le, iI_le0, iI_0lt, jL_iI, iI_jL, lc_eq, lc_lt, lc_le, lc_ge, lc_gt, Nat.sub_zero, Nat.zero_le, true_and, and_true, Nat.reduceAdd, Nat.reduceLeDiff]
    refine t_needNum (d := d + 1) (lo := 0) (up := (bC B : Int)) (by omega) hR X2 H2 (fun h3 v2 F3 X3 H3 a2 b2 w2 => ?_)
    simp (disch := omega) only [sh28, lt28, sh26, lt26, hR2, en_ops, en_opc, iI_add, iI_mul, iI_sub, jL_add, jL_mul, iI_le, iI_lt, iI_eq, iI_eq0, iI_lt0, iI_0le, iI_le0, iI_0lt, jL_iI, iI_jL, lc_eq, lc_lt, lc_le, lc_ge, lc_gt, Nat.sub_zero, Nat.zero_le, true_and, and_true, Nat.reduceAdd, Nat.reduceLeDiff]
    refine t_needNum (d := d + 1) (lo := 1) (up := 999) (by decide) hR X3 H3 (fun h4 v3 F4 X4 H4 a3 b3 w3 => ?_)
    simp (disch := omega) only [sh28, lt28, sh26, lt26, hR2, en_ops, en_opc, iI_add, iI_mul, iI_sub, jL_add, jL_mul, iI_le, iI_lt, iI_eq, iI_eq0, iI_lt0, iI_0le, iI_le0, iI_0lt, jL_iI, iI_jL, lc_eq, lc_lt, lc_le, lc_ge, lc_gt, Nat.sub_zero, Nat.zero_le, true_and, and_true, Nat.reduceAdd, Nat.reduceLeDiff]
    refine t_needNum (d := d + 1) (lo := 1) (up := 99) (by decide) hR X4 H4 (fun h5 v4 F5 X5 H5 a4 b4 w4 => ?_)
    have F25 : Fx P26 h2 h5 := (F3.tr F4).tr F5
    have P5 : bpH p B h5 := P2.fx F25 (fun a j g1 g2 w => by have := w.1; omega)
    simp (disch := omega) only [en_ops, en_opc, iI_add, iI_mul, iI_sub, jL_add, jL_mul, iI_le, iI_lt, iI_eq, iI_eq0, iI_lt0, iI_0le, iI_le0, iI_0lt, jL_iI, iI_jL, lc_eq, lc_lt, lc_le, lc_ge, lc_gt, Nat.sub_zero, Nat.zero_le, true_and, and_true, Nat.reduceAdd, Nat.reduceLeDiff]
    refine ⟨pp, t_addLorry (d := d + 3) hp hpR P5.2.2.2.2.2.2.1 lo4 (fun h6 F6 A6 => ?_)⟩
    simp (disch := omega) only [en_ops, en_opc, iI_add, iI_mul, iI_sub, jL_add, jL_mul, iI_le, iI_lt, iI_eq, iI_eq0, iI_lt0, iI_0le, iI_le0, iI_0lt, jL_iI, iI_jL, lc_eq, lc_lt, lc_le, lc_ge, lc_gt, Nat.sub_zero, Nat.zero_le, true_and, and_true, Nat.reduceAdd, Nat.reduceLeDiff]
    have FA : Fx (Pbe p) hi h6 := ((F2.mono (fun a j w => by unfold Pbe; omega)).tr F25.be).tr (F6.mono (fun a j w => by unfold Pbe; omega))
    rw [← hz2] at y2
    have eA2 : bA2 X B 6 (bZ1 X i B q) = zNm X 0 (bC B) z2 := y2
    have eA3 : bA3 X B 6 (bZ1 X i B q) = zNm X 1 999 (zNm X 0 (bC B) z2) := by rw [y3, eA2]
    have eA4 : bA4 X B (bK (wdE X q)) (bZ1 X i B q) = zNm X 1 99 (zNm X 1 999 (zNm X 0 (bC B) z2)) := by rw [hk, y4, eA3]
    refine H _ FA (X5.fx F6 (fun j w => by omega) (fun w => by omega)) (by rw [eA4]; exact H5.fx F6 (fun j w => by omega)) (fun q' hq' => ?_)
    rw [eA4] at hq'
    have u4 := w4 _ hq'
    obtain ⟨r9, x9, -⟩ := zNm_i hq'
    have u3 := w3 _ x9
    obtain ⟨r8, x8, -⟩ := zNm_i x9
    have u2 := w2 _ x8
    obtain ⟨r7, x7, -⟩ := zNm_i x8
    have nsame : ¬ (zKd X (bA1 X B 6 (bZ1 X i B q)) = 1 ∧ zVa X (bA1 X B 6 (bZ1 X i B q)) = zVa X (bZ1 X i B q)) := fun w => by
      rw [hz2, if_pos w] at x7
      exact zFl_i x7
    have z2e : z2 = bA1 X B 6 (bZ1 X i B q) := by rw [hz2, if_neg nsame]
    have x1 : bA1 X B 6 (bZ1 X i B q) = .inr r7 := by rw [← z2e]; exact x7
    have u1 := w1 _ x1
    rw [y1] at x1
    obtain ⟨r6, x6, -⟩ := zNm_i x1
    have nf : ¬ (i = 60 ∨ bLn B = 4) := fun w => by rw [ez, if_pos w] at x6; cases x6
    obtain ⟨n1, n2, n3, n4⟩ := A6 (by omega)
    have eN : bNx X i B q = bUp B 6 v1.toNat v2.toNat v3.toNat v4.toNat := by
      unfold bNx
      rw [hk, eA3, eA2, ← z2e, show zVa X (bZ1 X i B q) = v1.toNat by omega, show zVa X z2 = v2.toNat by omega, show zVa X (zNm X 0 (bC B) z2) = v3.toNat by omega, show zVa X (zNm X 1 999 (zNm X 0 (bC B) z2)) = v4.toNat by omega]
    rw [eN]
    refine ⟨⟨?_, ?_, ?_, ?_, ?_, ?_, ⟨n1, fun j hj => ?_⟩⟩, bg_o (by decide) hB hg ?_ ?_ ?_⟩
    · rw [n2 0 (by decide)]; exact P5.1
    · rw [n2 1 (by decide)]; exact P5.2.1
    · rw [n3 (p + 1) (by omega) (by omega)]; exact P5.2.2.1
    · rw [n3 (p + 2) (by omega) (by omega)]; exact P5.2.2.2.1
    · rw [n3 (p + 3) (by omega) (by omega)]; exact P5.2.2.2.2.1
    · refine ⟨by rw [n2 6 (by decide)]; exact P5.2.2.2.2.2.1.1, fun j hj => ?_⟩
      rw [n3 (p + 4) (by omega) (by omega)]
      exact P5.2.2.2.2.2.1.2 j hj
    · replace hj : j < bLn B + 1 := hj
      have hh : ∀ x : Nat × Nat × Int × Int, x = (if j = bLn B then (v1.toNat, v2.toNat, ((v3.toNat : Nat) : Int), ((v4.toNat : Nat) : Int)) else bLf B j) → h6 (p + 5) (4 * j) = iI ((x.1 : Nat) : Int) ∧ h6 (p + 5) (4 * j + 1) = iI ((x.2.1 : Nat) : Int) ∧ h6 (p + 5) (4 * j + 2) = iI x.2.2.1 ∧ h6 (p + 5) (4 * j + 3) = iI x.2.2.2 := fun x hx => by
        rw [n4 (4 * j), n4 (4 * j + 1), n4 (4 * j + 2), n4 (4 * j + 3)]
        by_cases ej : j = bLn B
        · rw [if_pos ej] at hx
          subst hx
          rw [if_pos (by omega), if_neg (by omega), if_pos (by omega), if_neg (by omega), if_neg (by omega), if_pos (by omega), if_neg (by omega), if_neg (by omega), if_neg (by omega), if_pos (by omega)]
          exact ⟨iI_eq_of (by show v1 = ((v1.toNat : Nat) : Int); omega), iI_eq_of (by show v2 = ((v2.toNat : Nat) : Int); omega), iI_eq_of (by show v3 = ((v3.toNat : Nat) : Int); omega), iI_eq_of (by show v4 = ((v4.toNat : Nat) : Int); omega)⟩
        · rw [if_neg ej] at hx
          rw [hx, if_neg (by omega), if_neg (by omega), if_neg (by omega), if_neg (by omega), if_neg (by omega), if_neg (by omega), if_neg (by omega), if_neg (by omega), if_neg (by omega), if_neg (by omega), if_neg (by omega), if_neg (by omega), if_neg (by omega), if_neg (by omega), if_neg (by omega), if_neg (by omega)]
          exact P5.2.2.2.2.2.2.2 j (by omega)
      exact hh (if j = bLn B then (v1.toNat, v2.toNat, ((v3.toNat : Nat) : Int), ((v4.toNat : Nat) : Int)) else bLf B j) rfl
    · rw [F6 28 1 (by omega), F25 28 1 (fun w => by have := w.1; omega), F2 28 1 (by omega)]
    · rw [F6 28 2 (by omega), F25 28 2 (fun w => by have := w.1; omega), F2 28 2 (by omega)]
    · rw [F6 28 3 (by omega), F25 28 3 (fun w => by have := w.1; omega)]; exact e3
  have L18 : en_V G Y_X0_readLorry (d + 5) wN wN K 18 [.ref 28, .ref p, .int (iI (if i = 60 then 1 else 0)), jk, jk, jk] [.int (iI (if (i = 60 ∨ bLn B = 4) then 1 else 0)), .ref 28] hi hl hr xc xs := by
    apply s_X0_readLorry_18
    simp (disch := omega) only [B_X0_readLorry_18, sh28, lt28, en_ops, en_opc, iI_add, iI_mul, iI_sub, jL_add, jL_mul, iI_le, iI_lt, iI_eq, iI_eq0, iI_lt0, iI_0le, iI_le0, iI_0lt, jL_iI, iI_jL, lc_eq, lc_lt, lc_le, lc_ge, lc_gt, Nat.sub_zero, Nat.zero_le, true_and, and_true, Nat.reduceAdd, Nat.reduceLeDiff]
    refine t_begO (d := d + 1) (full := i = 60 ∨ bLn B = 4) hR hR2 hq hX h (fun h1 F1 X1 H1 e3 => ?_)
    rw [← ez] at H1
    have P1 : bpH p B h1 := hP.fx F1 (fun a j g1 g2 w => by omega)
    have c1 := P1.1
    simp (disch := omega) only [sh28, lt28, sh26, lt26, hR2, p0, q0, c1, en_ops, en_opc, iI_add, iI_mul, iI_sub, jL_add, jL_mul, iI_le, iI_lt, iI_eq, iI_eq0, iI_lt0, iI_0le, iI_le0, iI_0lt, jL_iI, iI_jL, lc_eq, lc_lt, lc_le, lc_ge, lc_gt, Nat.sub_zero, Nat.zero_le, true_and, and_true, Nat.reduceAdd, Nat.reduceLeDiff]
    refine t_needNum (d := d + 1) (lo := 0) (up := (bC B : Int) - 1) (by omega) hR X1 H1 (fun h2 v1 F2 X2 H2 a1 b1 w1 => ?_)
    rw [← y1] at H2 w1
    have e32 : h2 28 3 = iI 1 := by rw [F2 28 3 (fun w => by have := w.1; omega)]; exact e3
    have F12 : Fx (fun a j => (a = 26 ∧ 1 < j) ∨ (a = 28 ∧ j = 3)) hi h2 := F1.tr (F2.mono (fun a j w => Or.inl w))
    simp (disch := omega) only [sh28, lt28, sh26, lt26, hR2, en_ops, en_opc, iI_add, iI_mul, iI_sub, jL_add, jL_mul, iI_le, iI_lt, iI_eq, iI_eq0, iI_lt0, iI_0le, iI_le0, iI_0lt, jL_iI, iI_jL, lc_eq, lc_lt, lc_le, lc_ge, lc_gt, Nat.sub_zero, Nat.zero_le, true_and, and_true, Nat.reduceAdd, Nat.reduceLeDiff]
    refine t_isNumber (d := d + 3) (v := v1) (by omega) H2 (fun b hb => ?_)
    have sm : (zKd X (bA1 X B 6 (bZ1 X i B q)) = 1 ∧ (zVa X (bA1 X B 6 (bZ1 X i B q)) : Int) = v1) ↔ (zKd X (bA1 X B 6 (bZ1 X i B q)) = 1 ∧ zVa X (bA1 X B 6 (bZ1 X i B q)) = zVa X (bZ1 X i B q)) := by
      rcases hA : bA1 X B 6 (bZ1 X i B q) with e | q1
      · exact ⟨fun g => absurd (show (4 : Nat) = 1 from g.1) (by decide), fun g => absurd (show (4 : Nat) = 1 from g.1) (by decide)⟩
      · have := w1 q1 hA
        exact ⟨fun g => ⟨g.1, by have := g.2; omega⟩, fun g => ⟨g.1, by have := g.2; omega⟩⟩
    rw [sm] at hb
    simp (disch := omega) only [sh28, lt28, sh26, lt26, hR2, en_ops, en_opc, iI_add, iI_mul, iI_sub, jL_add, jL_mul, iI_le, iI_lt, iI_eq, iI_eq0, iI_lt0, iI_0le, iI_le0, iI_0lt, jL_iI, iI_jL, lc_eq, lc_lt, lc_le, lc_ge, lc_gt, Nat.sub_zero, Nat.zero_le, true_and, and_true, Nat.reduceAdd, Nat.reduceLeDiff]
    rcases hb with ⟨rfl, w⟩ | ⟨rfl, w⟩
    · refine ⟨fun g => absurd g (by decide), fun _ => ?_⟩
      refine t_fail (d := d + 3) (k := 2) (by decide) X2 H2 (fun h3 F3 X3 H3 => ?_)
      simp (disch := omega) only [en_ops, en_opc, iI_add, iI_mul, iI_sub, jL_add, jL_mul, iI_le, iI_lt, iI_eq, iI_eq0, iI_lt0, iI_0le, iI_le0, iI_0lt, jL_iI, iI_jL, lc_eq, lc_lt, lc_le, lc_ge, lc_gt, Nat.sub_zero, Nat.zero_le, true_and, and_true, Nat.reduceAdd, Nat.reduceLeDiff]
      refine L55 h3 v1 _ (F12.tr (F3.mono (fun a j w => Or.inl w))) X3 H3 (by rw [F3 28 3 (fun w => by have := w.1; omega)]; exact e32) a1 b1 (by rw [if_pos w]) w1
    · refine ⟨fun _ => L55 h2 v1 _ F12 X2 H2 e32 a1 b1 (by rw [if_neg w]) w1, fun g => (g (by first | trivial | rfl)).elim⟩
  apply en_X0_readLorry
  simp (disch := omega) only [B_X0_readLorry_0, sh28, lt28, p0, q0, e8, en_ops, en_opc, iI_add, iI_mul, iI_sub, jL_add, jL_mul, iI_le, iI_lt, iI_eq, iI_eq0, iI_lt0, iI_0le, iI_le0, iI_0lt, jL_iI, iI_jL, lc_eq, lc_lt, lc_le, lc_ge, lc_gt, Nat.sub_zero, Nat.zero_le, true_and, and_true, Nat.reduceAdd, Nat.reduceLeDiff]
  by_cases i60 : i = 60
  · rw [if_pos i60, if_pos (Or.inl i60)] at L18
    rw [if_pos i60]
    exact ⟨fun _ => L18, fun g => absurd g (by decide)⟩
  · rw [if_neg i60] at L18 ⊢
    refine ⟨fun g => (g (by first | trivial | rfl)).elim, fun _ => ⟨fun g => ?_, fun g => ?_⟩⟩
    · rw [if_neg (by omega)] at L18
      exact L18
    · rw [if_pos (by omega)] at L18
      exact L18
theorem k_extent {kd : Nat} (hR : hr 26 0 = .ref 1) (hR2 : hr 28 0 = .ref 26) (hp : isPl p) (hk : bK (wdE X q) = kd) (h01 : kd ≤ 1) (hq : q < X.2) (hB : bOK i B) (hX : tqS X hi) (h : tkX X (.inr q) hi) (hP : bpH p B hi) (hg : bgH i B hi) (H : beK X p i q B hi hl hr K) : en_Call G (d + 6) xc xs Y_X0_readExtent wN wN [.ref 28, .ref p, .int (iI (if i = 60 then 1 else 0))] hi hl hr K := by
  obtain ⟨p0, p1, p2, p3, p4, p5, p6, p7⟩ := hp.sh
  have q0 : p < 134 := by omega
  obtain ⟨g1, g2, g3⟩ := id hg
  have tc := hB.2.2.1
  have ts := hB.2.2.2.1
  have tt := hB.2.2.2.2.1
  have ez : ∀ w : tZ, w = (if bFt i B kd = 0 then .inr q else .inl (bFt i B kd, q)) → zSt X w = bZ1 X i B q := by
    intro w hw
    rw [hw]
    unfold bZ1
    rw [hk]
    by_cases g : bFt i B kd = 0
    · rw [if_pos g, if_pos g]; rfl
    · rw [if_neg g, if_neg g]; rfl
  have L61 : ∀ (b : Int) (h1 : en_I) (w : tZ), (b = 1 ∧ kd = 0) ∨ (b = 0 ∧ kd = 1) → Fx P26 hi h1 → tqS X h1 → tkX X w h1 → w = (if bFt i B kd = 0 then .inr q else .inl (bFt i B kd, q)) → en_V G Y_X0_readExtent (d + 6) wN wN K 61 [.ref 28, .ref p, .int (iI (if i = 60 then 1 else 0)), .int (iI b)] [] h1 hl hr xc xs := by
    intro b h1 w hb F1 X1 H1 hw
    apply s_X0_readExtent_61
    simp (disch := omega) only [B_X0_readExtent_61, sh28, lt28, sh26, lt26, hR2, en_ops, en_opc, iI_add, iI_mul, iI_sub, jL_add, jL_mul, iI_le, iI_lt, iI_eq, iI_eq0, iI_lt0, iI_0le, iI_le0, iI_0lt, jL_iI, iI_jL, lc_eq, lc_lt, lc_le, lc_ge, lc_gt, Nat.sub_zero, Nat.zero_le, true_and, and_true, Nat.reduceAdd, Nat.reduceLeDiff]
    refine t_stepZ (d := d + 3) hR X1 H1 (fun q2 e => ?_) (fun h2 F2 X2 H2 => ?_)
    · rw [hw] at e
      by_cases g : bFt i B kd = 0
      · rw [if_pos g] at e; cases e; exact hq
      · rw [if_neg g] at e; cases e
    rw [ez w hw] at H2
    have F12 : Fx P26 hi h2 := F1.tr F2
    have P2 : bpH p B h2 := hP.fx F12 (fun a j g1 g2 w => by have := w.1; omega)
    have f1 : ∀ j, h2 28 j = hi 28 j := fun j => F12 28 j (fun w => by have := w.1; omega)
    have good : ∀ q', bA4 X B (bK (wdE X q)) (bZ1 X i B q) = .inr q' → bFt i B kd = 0 := fun q' hq' => by
      by_cases g : bFt i B kd = 0
      · exact g
      · have e1 : bZ1 X i B q = .inl (bFt i B kd, q) := by unfold bZ1; rw [hk, if_neg g]
        rw [e1, ba_inl] at hq'
        cases hq'
    simp (disch := omega) only [sh28, lt28, en_ops, en_opc, iI_add, iI_mul, iI_sub, jL_add, jL_mul, iI_le, iI_lt, iI_eq, iI_eq0, iI_lt0, iI_0le, iI_le0, iI_0lt, jL_iI, iI_jL, lc_eq, lc_lt, lc_le, lc_ge, lc_gt, Nat.sub_zero, Nat.zero_le, true_and, and_true, Nat.reduceAdd, Nat.reduceLeDiff]
    rcases hb with ⟨rfl, rfl⟩ | ⟨rfl, rfl⟩
    · refine ⟨fun g => absurd g (by decide), fun _ => ?_⟩
      refine ⟨(by first | exact Or.inr rfl | exact Or.inr trivial | exact Or.inl trivial), ?_⟩
      have U : Fx (fun a j => a = 28 ∧ j = 1) h2 (en_up h2 28 1 (iI 1)) := Fx.up Fx.rf ⟨rfl, rfl⟩
      simp (disch := omega) only [sh28, lt28, sh26, lt26, hR2, en_ops, en_opc, iI_add, iI_mul, iI_sub, jL_add, jL_mul, iI_le, iI_lt, iI_eq, iI_eq0, iI_lt0, iI_0le, iI_le0, iI_0lt, jL_iI, iI_jL, lc_eq, lc_lt, lc_le, lc_ge, lc_gt, Nat.sub_zero, Nat.zero_le, true_and, and_true, Nat.reduceAdd, Nat.reduceLeDiff]
      refine t_needNum (d := d + 2) (z := bZ1 X i B q) (lo := 2) (up := 12) (by decide) hR (X2.fx U (fun j w => by omega) (fun w => by omega)) (tkX.fx H2 U (fun j w => by omega)) (fun h3 v F3 X3 H3 v1 v2 v3 => ?_)
      simp (disch := omega) only [p0, q0, en_ops, en_opc, iI_add, iI_mul, iI_sub, jL_add, jL_mul, iI_le, iI_lt, iI_eq, iI_eq0, iI_lt0, iI_0le, iI_le0, iI_0lt, jL_iI, iI_jL, lc_eq, lc_lt, lc_le, lc_ge, lc_gt, Nat.sub_zero, Nat.zero_le, true_and, and_true, Nat.reduceAdd, Nat.reduceLeDiff]
      have V : Fx (fun a j => a = p ∧ j = 0) h3 (en_up h3 p 0 (iI v)) := Fx.up Fx.rf ⟨rfl, rfl⟩
      have FA : Fx (Pbe p) hi (en_up h3 p 0 (iI v)) := ((F12.be.tr (U.mono (fun a j w => by unfold Pbe; omega))).tr F3.be).tr (V.mono (fun a j w => by unfold Pbe; omega))
      refine H _ FA (X3.fx V (fun j w => by omega) (fun w => by omega)) (by rw [hk, ba_0.1]; exact H3.fx V (fun j w => by omega)) (fun q' hq' => ?_)
      have ft := good q' hq'
      rw [hk, ba_0.1] at hq'
      have wv := v3 _ hq'
      have nl : bTc B = 0 ∧ bTc B + bTs B = i := by
        unfold bFt at ft
        rw [if_neg (by decide)] at ft
        by_cases g : i = 60 ∨ (0 = 5 ∧ bSn B = 8) ∨ (0 = 6 ∧ bLn B = 4)
        · rw [if_pos g] at ft; omega
        rw [if_neg g] at ft
        by_cases g2 : (0 = 0 ∧ bTc B = 1) ∨ (0 = 1 ∧ bTs B = 1) ∨ (0 ≤ 1 ∧ bTc B + bTs B < i)
        · rw [if_pos g2] at ft; omega
        · omega
      have eN : bNx X i B q = bUp B 0 v.toNat (zVa X (bA1 X B 0 (bZ1 X i B q))) (zVa X (bA2 X B 0 (bZ1 X i B q))) (zVa X (bA3 X B 0 (bZ1 X i B q))) := by
        unfold bNx
        rw [hk, show zVa X (bZ1 X i B q) = v.toNat by omega]
      rw [eN]
      have o1 : ∀ a j, a ≠ 26 → a ≠ 28 → (a ≠ p ∨ j ≠ 0) → en_up h3 p 0 (iI v) a j = hi a j := fun a j n1 n2 n3 => by
        rw [up_ne n3, F3 a j (fun w => n1 w.1), up_ne (Or.inl n2), F12 a j (fun w => n1 w.1)]
      refine ⟨⟨?_, ?_, fun c z k hc hz hk9 => ?_, fun c hc => ?_, fun c hc => ?_, ⟨?_, fun j hj => ?_⟩, ⟨?_, fun j hj => ?_⟩⟩, ?_, ?_, ?_⟩
      · rw [up_at]
        exact iI_eq_of (by show v = ((v.toNat : Nat) : Int); omega)
      · rw [o1 p 1 (by omega) (by omega) (Or.inr (by decide))]; exact hP.2.1
      · rw [o1 (p + 1) _ (by omega) (by omega) (Or.inl (by omega))]; exact hP.2.2.1 c z k hc hz hk9
      · rw [o1 (p + 2) _ (by omega) (by omega) (Or.inl (by omega))]; exact hP.2.2.2.1 c hc
      · rw [o1 (p + 3) _ (by omega) (by omega) (Or.inl (by omega))]; exact hP.2.2.2.2.1 c hc
      · rw [o1 p 6 (by omega) (by omega) (Or.inr (by decide))]; exact hP.2.2.2.2.2.1.1
      · rw [o1 (p + 4) _ (by omega) (by omega) (Or.inl (by omega)), o1 (p + 4) _ (by omega) (by omega) (Or.inl (by omega))]; exact hP.2.2.2.2.2.1.2 j hj
      · rw [o1 p 8 (by omega) (by omega) (Or.inr (by decide))]; exact hP.2.2.2.2.2.2.1
      · rw [o1 (p + 5) _ (by omega) (by omega) (Or.inl (by omega)), o1 (p + 5) _ (by omega) (by omega) (Or.inl (by omega)), o1 (p + 5) _ (by omega) (by omega) (Or.inl (by omega)), o1 (p + 5) _ (by omega) (by omega) (Or.inl (by omega))]; exact hP.2.2.2.2.2.2.2 j hj
      · rw [up_ne (Or.inl (by omega)), F3 28 1 (fun w => by have := w.1; omega), up_at]; rfl
      · rw [up_ne (Or.inl (by omega)), F3 28 2 (fun w => by have := w.1; omega), up_ne (Or.inr (by decide)), f1]; exact g2
      · rw [up_ne (Or.inl (by omega)), F3 28 3 (fun w => by have := w.1; omega), up_ne (Or.inr (by decide)), f1, g3, if_neg (by omega)]
        show _ = iI (if 1 + bTs B < i + 1 then 1 else 0)
        rw [if_neg (by omega)]
    · refine ⟨fun _ => ?_, fun g => (g (by first | trivial | rfl)).elim⟩
      refine ⟨(by first | exact Or.inr rfl | exact Or.inr trivial | exact Or.inl trivial), ?_⟩
      have U : Fx (fun a j => a = 28 ∧ j = 2) h2 (en_up h2 28 2 (iI 1)) := Fx.up Fx.rf ⟨rfl, rfl⟩
      simp (disch := omega) only [sh28, lt28, sh26, lt26, hR2, en_ops, en_opc, iI_add, iI_mul, iI_sub, jL_add, jL_mul, iI_le, iI_lt, iI_eq, iI_eq0, iI_lt0, iI_0le, iI_le0, iI_0lt, jL_iI, iI_jL, lc_eq, lc_lt, lc_le, lc_ge, lc_gt, Nat.sub_zero, Nat.zero_le, true_and, and_true, Nat.reduceAdd, Nat.reduceLeDiff]
      refine t_needNum (d := d + 2) (z := bZ1 X i B q) (lo := 2) (up := 6) (by decide) hR (X2.fx U (fun j w => by omega) (fun w => by omega)) (tkX.fx H2 U (fun j w => by omega)) (fun h3 v F3 X3 H3 v1 v2 v3 => ?_)
      simp (disch := omega) only [p0, q0, en_ops, en_opc, iI_add, iI_mul, iI_sub, jL_add, jL_mul, iI_le, iI_lt, iI_eq, iI_eq0, iI_lt0, iI_0le, iI_le0, iI_0lt, jL_iI, iI_jL, lc_eq, lc_lt, lc_le, lc_ge, lc_gt, Nat.sub_zero, Nat.zero_le, true_and, and_true, Nat.reduceAdd, Nat.reduceLeDiff]
      have V : Fx (fun a j => a = p ∧ j = 1) h3 (en_up h3 p 1 (iI v)) := Fx.up Fx.rf ⟨rfl, rfl⟩
      have FA : Fx (Pbe p) hi (en_up h3 p 1 (iI v)) := ((F12.be.tr (U.mono (fun a j w => by unfold Pbe; omega))).tr F3.be).tr (V.mono (fun a j w => by unfold Pbe; omega))
      refine H _ FA (X3.fx V (fun j w => by omega) (fun w => by omega)) (by rw [hk, ba_1.1]; exact H3.fx V (fun j w => by omega)) (fun q' hq' => ?_)
      have ft := good q' hq'
      rw [hk, ba_1.1] at hq'
      have wv := v3 _ hq'
      have nl : bTs B = 0 ∧ bTc B + bTs B = i := by
        unfold bFt at ft
        rw [if_neg (by decide)] at ft
        by_cases g : i = 60 ∨ (1 = 5 ∧ bSn B = 8) ∨ (1 = 6 ∧ bLn B = 4)
        · rw [if_pos g] at ft; omega
        rw [if_neg g] at ft
        by_cases g2 : (1 = 0 ∧ bTc B = 1) ∨ (1 = 1 ∧ bTs B = 1) ∨ (1 ≤ 1 ∧ bTc B + bTs B < i)
        · rw [if_pos g2] at ft; omega
        · omega
      have eN : bNx X i B q = bUp B 1 v.toNat (zVa X (bA1 X B 1 (bZ1 X i B q))) (zVa X (bA2 X B 1 (bZ1 X i B q))) (zVa X (bA3 X B 1 (bZ1 X i B q))) := by
        unfold bNx
        rw [hk, show zVa X (bZ1 X i B q) = v.toNat by omega]
      rw [eN]
      have o1 : ∀ a j, a ≠ 26 → a ≠ 28 → (a ≠ p ∨ j ≠ 1) → en_up h3 p 1 (iI v) a j = hi a j := fun a j n1 n2 n3 => by
        rw [up_ne n3, F3 a j (fun w => n1 w.1), up_ne (Or.inl n2), F12 a j (fun w => n1 w.1)]
      refine ⟨⟨?_, ?_, fun c z k hc hz hk9 => ?_, fun c hc => ?_, fun c hc => ?_, ⟨?_, fun j hj => ?_⟩, ⟨?_, fun j hj => ?_⟩⟩, ?_, ?_, ?_⟩
      · rw [o1 p 0 (by omega) (by omega) (Or.inr (by decide))]; exact hP.1
      · rw [up_at]
        exact iI_eq_of (by show v = ((v.toNat : Nat) : Int); omega)
      · rw [o1 (p + 1) _ (by omega) (by omega) (Or.inl (by omega))]; exact hP.2.2.1 c z k hc hz hk9
      · rw [o1 (p + 2) _ (by omega) (by omega) (Or.inl (by omega))]; exact hP.2.2.2.1 c hc
      · rw [o1 (p + 3) _ (by omega) (by omega) (Or.inl (by omega))]; exact hP.2.2.2.2.1 c hc
      · rw [o1 p 6 (by omega) (by omega) (Or.inr (by decide))]; exact hP.2.2.2.2.2.1.1
      · rw [o1 (p + 4) _ (by omega) (by omega) (Or.inl (by omega)), o1 (p + 4) _ (by omega) (by omega) (Or.inl (by omega))]; exact hP.2.2.2.2.2.1.2 j hj
      · rw [o1 p 8 (by omega) (by omega) (Or.inr (by decide))]; exact hP.2.2.2.2.2.2.1
      · rw [o1 (p + 5) _ (by omega) (by omega) (Or.inl (by omega)), o1 (p + 5) _ (by omega) (by omega) (Or.inl (by omega)), o1 (p + 5) _ (by omega) (by omega) (Or.inl (by omega)), o1 (p + 5) _ (by omega) (by omega) (Or.inl (by omega))]; exact hP.2.2.2.2.2.2.2 j hj
      · rw [up_ne (Or.inl (by omega)), F3 28 1 (fun w => by have := w.1; omega), up_ne (Or.inr (by decide)), f1]; exact g1
      · rw [up_ne (Or.inl (by omega)), F3 28 2 (fun w => by have := w.1; omega), up_at]; rfl
      · rw [up_ne (Or.inl (by omega)), F3 28 3 (fun w => by have := w.1; omega), up_ne (Or.inr (by decide)), f1, g3, if_neg (by omega)]
        show _ = iI (if bTc B + 1 < i + 1 then 1 else 0)
        rw [if_neg (by omega)]
  apply en_X0_readExtent
  simp (disch := omega) only [B_X0_readExtent_0, sh28, lt28, sh26, lt26, hR2, en_ops, en_opc, iI_add, iI_mul, iI_sub, jL_add, jL_mul, iI_le, iI_lt, iI_eq, iI_eq0, iI_lt0, iI_0le, iI_le0, iI_0lt, jL_iI, iI_jL, lc_eq, lc_lt, lc_le, lc_ge, lc_gt, Nat.sub_zero, Nat.zero_le, true_and, and_true, Nat.reduceAdd, Nat.reduceLeDiff]
  refine t_isWord (d := d) (j := 1) iw1 hR hX h (fun b hb => ?_)
  rw [pk1] at hb
  have hb' : (b = 1 ∧ kd = 0) ∨ (b = 0 ∧ kd = 1) := by
    rcases hb with ⟨e, w⟩ | ⟨e, w⟩
    · exact Or.inl ⟨e, by rw [← hk]; exact bK_0.mpr w⟩
    · exact Or.inr ⟨e, by have : ¬ bK (wdE X q) = 0 := fun g => w (bK_0.mp g); omega⟩
  have bad : ∀ (k : Nat) (h1 : en_I), 1 ≤ k → bFt i B kd = k → Fx P26 hi h1 → tqS X h1 → tkX X (zFl k (.inr q)) h1 → en_V G Y_X0_readExtent (d + 6) wN wN K 61 [.ref 28, .ref p, .int (iI (if i = 60 then 1 else 0)), .int (iI b)] [] h1 hl hr xc xs := fun k h1 k1 ft F1 X1 H1 => L61 b h1 (.inl (k, q)) hb' F1 X1 H1 (by rw [ft, if_neg (by omega)])
  have ok : bFt i B kd = 0 → en_V G Y_X0_readExtent (d + 6) wN wN K 61 [.ref 28, .ref p, .int (iI (if i = 60 then 1 else 0)), .int (iI b)] [] hi hl hr xc xs := fun ft => L61 b hi (.inr q) hb' Fx.rf hX h (by rw [if_pos ft])
  have ft0 : bFt i B kd = if i = 60 then 3 else if (kd = 0 ∧ bTc B = 1) ∨ (kd = 1 ∧ bTs B = 1) ∨ bTc B + bTs B < i then 4 else 0 := by
    unfold bFt
    rw [if_neg (by omega)]
    by_cases g : i = 60
    · rw [if_pos (Or.inl g), if_pos g]
    · rw [if_neg (by omega), if_neg g]
      by_cases g2 : (kd = 0 ∧ bTc B = 1) ∨ (kd = 1 ∧ bTs B = 1) ∨ bTc B + bTs B < i
      · rw [if_pos g2, if_pos (by omega)]
      · rw [if_neg g2, if_neg (by omega)]
  by_cases i60 : i = 60
  · rw [if_pos i60] at ft0 bad ok ⊢
    simp (disch := omega) only [sh28, lt28, sh26, lt26, hR2, en_ops, en_opc, iI_add, iI_mul, iI_sub, jL_add, jL_mul, iI_le, iI_lt, iI_eq, iI_eq0, iI_lt0, iI_0le, iI_le0, iI_0lt, jL_iI, iI_jL, lc_eq, lc_lt, lc_le, lc_ge, lc_gt, Nat.sub_zero, Nat.zero_le, true_and, and_true, Nat.reduceAdd, Nat.reduceLeDiff]
    refine ⟨fun g => absurd g (by decide), fun _ => ?_⟩
    refine t_fail (X := X) (d := d + 4) (k := 3) (z := .inr q) (by decide) hX h (fun h1 F1 X1 H1 => ?_)
    simp (disch := omega) only [en_ops, en_opc, iI_add, iI_mul, iI_sub, jL_add, jL_mul, iI_le, iI_lt, iI_eq, iI_eq0, iI_lt0, iI_0le, iI_le0, iI_0lt, jL_iI, iI_jL, lc_eq, lc_lt, lc_le, lc_ge, lc_gt, Nat.sub_zero, Nat.zero_le, true_and, and_true, Nat.reduceAdd, Nat.reduceLeDiff]
    exact bad 3 h1 (by decide) ft0 F1 X1 H1
  rw [if_neg i60] at ft0 bad ok ⊢
  by_cases late : bTc B + bTs B < i
  · rw [if_pos late] at g3
    rw [if_pos (Or.inr (Or.inr late))] at ft0
    simp (disch := omega) only [sh28, lt28, sh26, lt26, hR2, g3, en_ops, en_opc, iI_add, iI_mul, iI_sub, jL_add, jL_mul, iI_le, iI_lt, iI_eq, iI_eq0, iI_lt0, iI_0le, iI_le0, iI_0lt, jL_iI, iI_jL, lc_eq, lc_lt, lc_le, lc_ge, lc_gt, Nat.sub_zero, Nat.zero_le, true_and, and_true, Nat.reduceAdd, Nat.reduceLeDiff]
    refine ⟨fun _ => ⟨fun _ => ?_, fun g => absurd g (by decide)⟩, fun g => (g (by first | trivial | rfl)).elim⟩
    refine t_fail (X := X) (d := d + 4) (k := 4) (z := .inr q) (by decide) hX h (fun h1 F1 X1 H1 => ?_)
    simp (disch := omega) only [en_ops, en_opc, iI_add, iI_mul, iI_sub, jL_add, jL_mul, iI_le, iI_lt, iI_eq, iI_eq0, iI_lt0, iI_0le, iI_le0, iI_0lt, jL_iI, iI_jL, lc_eq, lc_lt, lc_le, lc_ge, lc_gt, Nat.sub_zero, Nat.zero_le, true_and, and_true, Nat.reduceAdd, Nat.reduceLeDiff]
    exact bad 4 h1 (by decide) ft0 F1 X1 H1
  rw [if_neg late] at g3
  simp (disch := omega) only [sh28, lt28, sh26, lt26, hR2, g3, en_ops, en_opc, iI_add, iI_mul, iI_sub, jL_add, jL_mul, iI_le, iI_lt, iI_eq, iI_eq0, iI_lt0, iI_0le, iI_le0, iI_0lt, jL_iI, iI_jL, lc_eq, lc_lt, lc_le, lc_ge, lc_gt, Nat.sub_zero, Nat.zero_le, true_and, and_true, Nat.reduceAdd, Nat.reduceLeDiff]
  refine ⟨fun _ => ⟨fun g => (g (by first | trivial | rfl)).elim, fun _ => ?_⟩, fun g => (g (by first | trivial | rfl)).elim⟩
  rcases hb' with ⟨rfl, rfl⟩ | ⟨rfl, rfl⟩
  · refine ⟨fun g => absurd g (by decide), fun _ => ?_⟩
    simp (disch := omega) only [sh28, lt28, sh26, lt26, hR2, g1, en_ops, en_opc, iI_add, iI_mul, iI_sub, jL_add, jL_mul, iI_le, iI_lt, iI_eq, iI_eq0, iI_lt0, iI_0le, iI_le0, iI_0lt, jL_iI, iI_jL, lc_eq, lc_lt, lc_le, lc_ge, lc_gt, Nat.sub_zero, Nat.zero_le, true_and, and_true, Nat.reduceAdd, Nat.reduceLeDiff]
    refine ⟨fun g => ok (by rw [ft0, if_neg (by omega)]), fun g => ?_⟩
    refine t_fail (X := X) (d := d + 4) (k := 4) (z := .inr q) (by decide) hX h (fun h1 F1 X1 H1 => ?_)
    simp (disch := omega) only [en_ops, en_opc, iI_add, iI_mul, iI_sub, jL_add, jL_mul, iI_le, iI_lt, iI_eq, iI_eq0, iI_lt0, iI_0le, iI_le0, iI_0lt, jL_iI, iI_jL, lc_eq, lc_lt, lc_le, lc_ge, lc_gt, Nat.sub_zero, Nat.zero_le, true_and, and_true, Nat.reduceAdd, Nat.reduceLeDiff]
    exact bad 4 h1 (by decide) (by rw [ft0, if_pos (by omega)]) F1 X1 H1
  · refine ⟨fun _ => ?_, fun g => (g (by first | trivial | rfl)).elim⟩
    simp (disch := omega) only [sh28, lt28, sh26, lt26, hR2, g2, en_ops, en_opc, iI_add, iI_mul, iI_sub, jL_add, jL_mul, iI_le, iI_lt, iI_eq, iI_eq0, iI_lt0, iI_0le, iI_le0, iI_0lt, jL_iI, iI_jL, lc_eq, lc_lt, lc_le, lc_ge, lc_gt, Nat.sub_zero, Nat.zero_le, true_and, and_true, Nat.reduceAdd, Nat.reduceLeDiff]
    refine ⟨fun g => ok (by rw [ft0, if_neg (by omega)]), fun g => ?_⟩
    refine t_fail (X := X) (d := d + 4) (k := 4) (z := .inr q) (by decide) hX h (fun h1 F1 X1 H1 => ?_)
    simp (disch := omega) only [en_ops, en_opc, iI_add, iI_mul, iI_sub, jL_add, jL_mul, iI_le, iI_lt, iI_eq, iI_eq0, iI_lt0, iI_0le, iI_le0, iI_0lt, jL_iI, iI_jL, lc_eq, lc_lt, lc_le, lc_ge, lc_gt, Nat.sub_zero, Nat.zero_le, true_and, and_true, Nat.reduceAdd, Nat.reduceLeDiff]
    exact bad 4 h1 (by decide) (by rw [ft0, if_pos (by omega)]) F1 X1 H1
end
