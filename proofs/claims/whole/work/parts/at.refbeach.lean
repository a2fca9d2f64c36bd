/-! the reference reads a beach -/
def Pbq (a j : Nat) : Prop := (a = 110 ∧ (j = 4 ∨ j = 5 ∨ j = 6)) ∨ a = 114 ∨ a = 116
theorem sh114 : en_SH 114 = (100, 76) := by decide
theorem lt114 : 114 < 134 := by decide
theorem sh116 : en_SH 116 = (100, 834) := by decide
theorem lt116 : 116 < 134 := by decide
/-- the plan and the state as far as they are read -/
def bqH (B : bSt) (hi : en_I) : Prop := hi 114 0 = iI (bC B : Int) ∧ hi 114 1 = iI (bZ B : Int) ∧ (∀ j, j < 576 → hi 116 j = iI (bF B (j / 24) (j / 3 % 8) (j % 3))) ∧ (∀ c, c < 12 → hi 116 (576 + c) = iI (bR B c)) ∧ (∀ c, c < 12 → hi 114 (52 + c) = iI (bL B c)) ∧
  (hi 114 2 = iI (bSn B : Int) ∧ ∀ j, j < bSn B → hi 114 (4 + 4 * j) = iI ((bSf B j).1 : Int) ∧ hi 114 (4 + 4 * j + 1) = iI ((bSf B j).2.1 : Int) ∧ hi 114 (4 + 4 * j + 2) = iI ((bSf B j).2.2.1 : Int) ∧ hi 114 (4 + 4 * j + 3) = iI (bSf B j).2.2.2) ∧
  (hi 114 3 = iI (bLn B : Int) ∧ ∀ j, j < bLn B → hi 114 (36 + 4 * j) = iI ((bLf B j).1 : Int) ∧ hi 114 (36 + 4 * j + 1) = iI ((bLf B j).2.1 : Int) ∧ hi 114 (36 + 4 * j + 2) = iI (bLf B j).2.2.1 ∧ hi 114 (36 + 4 * j + 3) = iI (bLf B j).2.2.2) ∧
  ∀ j, 600 ≤ j → j < 834 → hi 116 j = iI (if 641 ≤ j ∧ j < 833 then -1 else 0)
def bnK (X : tTx) (B : bSt) (kd : Nat) (z : tZ) (hi : en_I) (hl : en_L) (hr : en_F) (K : en_K) : Prop := ∀ hi', Fx Pbq hi hi' → rtS X hi' → rtX X (bA4 X B kd z) hi' → (∀ q', bA4 X B kd z = .inr q' → bqH (bUp B kd (zVa X z) (zVa X (bA1 X B kd z)) (zVa X (bA2 X B kd z)) (zVa X (bA3 X B kd z))) hi') → K (.inl none) hi' hl hr
section
variable {G : en_G} {d : Nat} {K : en_K} {X : tTx} {z : tZ} {B : bSt} {i q nc kd : Nat} {hi : en_I} {hl : en_L} {hr : en_F} {xc xs : Nat}
theorem bqH.fx {P : Nat → Nat → Prop} {hi' : en_I} (h : bqH B hi) (F : Fx P hi hi') (hP : ∀ j, ¬ P 114 j) (hP2 : ∀ j, ¬ P 116 j) : bqH B hi' := by
  have e : hi' 114 = hi 114 := F.row hP
  have e2 : hi' 116 = hi 116 := F.row hP2
  unfold bqH
  rw [e, e2]
  exact h
theorem Fx.bq {h1 h2 : en_I} (h : Fx Prd h1 h2) : Fx Pbq h1 h2 := h.mono (fun a j g => Or.inl g)
theorem m_fineZ (h : rtX X z hi) (H : ∀ b : Int, (b = 1 ∧ ∃ q, z = .inr q) ∨ (b = 0 ∧ ∃ e, z = .inl e) → K (.inl (some (.int (iI b)))) hi hl hr) : en_Call G (d + 1) xc xs Y_X11_fine wN wN [.ref 110] hi hl hr K := by
  rcases z with e | q
  · exact m_fine0 (d := d) h (H 0 (Or.inr ⟨rfl, e, rfl⟩))
  · exact m_fine1 (d := d) h.1 (H 1 (Or.inl ⟨rfl, q, rfl⟩))
theorem rtX.fw {P : Nat → Nat → Prop} {hi' : en_I} (hS : rtS X hi) (h : rtX X z hi) (F : Fx P hi hi') (hP : ∀ a j, P a j → a = 114 ∨ a = 116) : rtS X hi' ∧ rtX X z hi' :=
  ⟨hS.fx F (fun j g => by have := hP 112 j g; omega) (fun g => by have := hP _ _ g; omega), h.fx F (fun g => by have := hP _ _ g; omega) (fun g => by have := hP _ _ g; omega) (fun g => by have := hP _ _ g; omega)⟩
theorem n_cell (hR : rfR hr) (hX : rtS X hi) (h : rtX X z hi) (h0 : hi 114 0 = iI (nc : Int)) (hc : 2 ≤ nc ∧ nc ≤ 12) (H : ∀ (hi' : en_I) (v : Int), Fx Prd hi hi' → rtS X hi' → rtX X (zNm X 0 ((nc : Int) - 1) z) hi' → 0 ≤ v → v < nc → (∀ q, zNm X 0 ((nc : Int) - 1) z = .inr q → v = (zVa X z : Int)) → K (.inl (some (.int (iI v)))) hi' hl hr) : en_Call G (d + 3) xc xs Y_X11_readCell wN wN [.ref 110] hi hl hr K := by
  have r11 := hR.1.2.2.2.1
  apply en_X11_readCell
  simp (disch := omega) only [B_X11_readCell_0, sh110, lt110, r11, sh114, lt114, en_ops, en_opc, iI_add, iI_mul, iI_sub, jL_add, jL_mul, iI_le, iI_lt, iI_eq, iI_eq0, iI_lt0, iI_0le, iI_le0, iI_0lt, jL_iI, iI_jL, lc_eq, lc_lt, lc_le, lc_ge, lc_gt, Nat.sub_zero, Nat.zero_le, true_and, and_true, Nat.reduceAdd, Nat.reduceLeDiff]
  refine ⟨0, rfl, by decide, ?_⟩
  rw [h0]
  simp (disch := omega) only [sh110, lt110, en_ops, en_opc, iI_add, iI_mul, iI_sub, jL_add, jL_mul, iI_le, iI_lt, iI_eq, iI_eq0, iI_lt0, iI_0le, iI_le0, iI_0lt, jL_iI, iI_jL, lc_eq, lc_lt, lc_le, lc_ge, lc_gt, Nat.sub_zero, Nat.zero_le, true_and, and_true, Nat.reduceAdd, Nat.reduceLeDiff]
  refine m_num (d := d) (lo := 0) (up := (nc : Int) - 1) (by omega) hR hX h (fun h1 v F1 X1 H1 a1 b1 => ?_)
  simp (disch := omega) only [en_ops, en_opc, iI_add, iI_mul, iI_sub, jL_add, jL_mul, iI_le, iI_lt, iI_eq, iI_eq0, iI_lt0, iI_0le, iI_le0, iI_0lt, jL_iI, iI_jL, lc_eq, lc_lt, lc_le, lc_ge, lc_gt, Nat.sub_zero, Nat.zero_le, true_and, and_true, Nat.reduceAdd, Nat.reduceLeDiff]
  exact H h1 v F1 X1 H1 (by omega) (by omega) b1
theorem n_size (hR : rfR hr) (hX : rtS X hi) (h : rtX X z hi) (h0 : hi 114 1 = iI (nc : Int)) (hc : 2 ≤ nc ∧ nc ≤ 6) (H : ∀ (hi' : en_I) (v : Int), Fx Prd hi hi' → rtS X hi' → rtX X (zNm X 0 ((nc : Int) - 1) z) hi' → 0 ≤ v → v < nc → (∀ q, zNm X 0 ((nc : Int) - 1) z = .inr q → v = (zVa X z : Int)) → K (.inl (some (.int (iI v)))) hi' hl hr) : en_Call G (d + 3) xc xs Y_X11_readSize wN wN [.ref 110] hi hl hr K := by
  have r11 := hR.1.2.2.2.1
  apply en_X11_readSize
  simp (disch := omega) only [B_X11_readSize_0, sh110, lt110, r11, sh114, lt114, en_ops, en_opc, iI_add, iI_mul, iI_sub, jL_add, jL_mul, iI_le, iI_lt, iI_eq, iI_eq0, iI_lt0, iI_0le, iI_le0, iI_0lt, jL_iI, iI_jL, lc_eq, lc_lt, lc_le, lc_ge, lc_gt, Nat.sub_zero, Nat.zero_le, true_and, and_true, Nat.reduceAdd, Nat.reduceLeDiff]
  refine ⟨1, rfl, by decide, ?_⟩
  rw [h0]
  simp (disch := omega) only [sh110, lt110, en_ops, en_opc, iI_add, iI_mul, iI_sub, jL_add, jL_mul, iI_le, iI_lt, iI_eq, iI_eq0, iI_lt0, iI_0le, iI_le0, iI_0lt, jL_iI, iI_jL, lc_eq, lc_lt, lc_le, lc_ge, lc_gt, Nat.sub_zero, Nat.zero_le, true_and, and_true, Nat.reduceAdd, Nat.reduceLeDiff]
  refine m_num (d := d) (lo := 0) (up := (nc : Int) - 1) (by omega) hR hX h (fun h1 v F1 X1 H1 a1 b1 => ?_)
  simp (disch := omega) only [en_ops, en_opc, iI_add, iI_mul, iI_sub, jL_add, jL_mul, iI_le, iI_lt, iI_eq, iI_eq0, iI_lt0, iI_0le, iI_le0, iI_0lt, jL_iI, iI_jL, lc_eq, lc_lt, lc_le, lc_ge, lc_gt, Nat.sub_zero, Nat.zero_le, true_and, and_true, Nat.reduceAdd, Nat.reduceLeDiff]
  exact H h1 v F1 X1 H1 (by omega) (by omega) b1
theorem n_heap (hR : rfR hr) (hX : rtS X hi) (h : rtX X z hi) (hP : bqH B hi) (hB : bOK i B) (H : bnK X B 2 z hi hl hr K) : en_Call G (d + 4) xc xs Y_X11_readHeap wN wN [.ref 110] hi hl hr K := by
  have r13 := hR.1.2.2.2.2.2.1
  have cb := hB.1
  have zb := hB.2.1
  obtain ⟨y1, y2, y3, y4⟩ := ba_2 (X := X) (B := B) (z := z)
  have eA3 : bA3 X B 2 z = zNm X 0 2 (zNm X 0 ((bZ B : Int) - 1) (zNm X 0 ((bC B : Int) - 1) z)) := by rw [y3, y2, y1]
  have eA4 : bA4 X B 2 z = zNm X 0 9999 (zNm X 0 2 (zNm X 0 ((bZ B : Int) - 1) (zNm X 0 ((bC B : Int) - 1) z))) := by rw [y4, eA3]
  apply en_X11_readHeap
  simp (disch := omega) only [B_X11_readHeap_0, sh110, lt110, en_ops, en_opc, iI_add, iI_mul, iI_sub, jL_add, jL_mul, iI_le, iI_lt, iI_eq, iI_eq0, iI_lt0, iI_0le, iI_le0, iI_0lt, jL_iI, iI_jL, lc_eq, lc_lt, lc_le, lc_ge, lc_gt, Nat.sub_zero, Nat.zero_le, true_and, and_true, Nat.reduceAdd, Nat.reduceLeDiff]
  refine n_cell (d := d) hR hX h hP.1 hB.1 (fun h1 v1 F1 X1 H1 a1 b1 w1 => ?_)
  have P1 : bqH B h1 := hP.fx F1 (fun j w => by have := w.1; omega) (fun j w => by have := w.1; omega)
  simp (disch := omega) only [sh110, lt110, en_ops, en_opc, iI_add, iI_mul, iI_sub, jL_add, jL_mul, iI_le, iI_lt, iI_eq, iI_eq0, iI_lt0, iI_0le, iI_le0, iI_0lt, jL_iI, iI_jL, lc_eq, lc_lt, lc_le, lc_ge, lc_gt, Nat.sub_zero, Nat.zero_le, true_and, and_true, Nat.reduceAdd, Nat.reduceLeDiff]
  refine n_size (d := d) hR X1 H1 P1.2.1 hB.2.1 (fun h2 v2 F2 X2 H2 a2 b2 w2 => ?_)
  simp (disch := omega) only [sh110, lt110, en_ops, en_opc, iI_add, iI_mul, iI_sub, jL_add, jL_mul, iI_le, iI_lt, iI_eq, iI_eq0, iI_lt0, iI_0le, iI_le0, iI_0lt, jL_iI, iI_jL, lc_eq, lc_lt, lc_le, lc_ge, lc_gt, Nat.sub_zero, Nat.zero_le, true_and, and_true, Nat.reduceAdd, Nat.reduceLeDiff]
  refine m_num (d := d + 1) (lo := 0) (up := 2) (by decide) hR X2 H2 (fun h3 v3 F3 X3 H3 a3 w3 => ?_)
  simp (disch := omega) only [sh110, lt110, en_ops, en_opc, iI_add, iI_mul, iI_sub, jL_add, jL_mul, iI_le, iI_lt, iI_eq, iI_eq0, iI_lt0, iI_0le, iI_le0, iI_0lt, jL_iI, iI_jL, lc_eq, lc_lt, lc_le, lc_ge, lc_gt, Nat.sub_zero, Nat.zero_le, true_and, and_true, Nat.reduceAdd, Nat.reduceLeDiff]
  refine m_num (d := d + 1) (lo := 0) (up := 9999) (by decide) hR X3 H3 (fun h4 v4 F4 X4 H4 a4 w4 => ?_)
  have F14 : Fx Prd hi h4 := ((F1.tr F2).tr F3).tr F4
  have P4 : bqH B h4 := hP.fx F14 (fun j w => by have := w.1; omega) (fun j w => by have := w.1; omega)
  simp (disch := omega) only [sh110, lt110, en_ops, en_opc, iI_add, iI_mul, iI_sub, jL_add, jL_mul, iI_le, iI_lt, iI_eq, iI_eq0, iI_lt0, iI_0le, iI_le0, iI_0lt, jL_iI, iI_jL, lc_eq, lc_lt, lc_le, lc_ge, lc_gt, Nat.sub_zero, Nat.zero_le, true_and, and_true, Nat.reduceAdd, Nat.reduceLeDiff]
  refine m_fineZ (d := d + 2) H4 (fun b hb => ?_)
  simp (disch := omega) only [sh110, lt110, r13, en_ops, en_opc, iI_add, iI_mul, iI_sub, jL_add, jL_mul, iI_le, iI_lt, iI_eq, iI_eq0, iI_lt0, iI_0le, iI_le0, iI_0lt, jL_iI, iI_jL, lc_eq, lc_lt, lc_le, lc_ge, lc_gt, Nat.sub_zero, Nat.zero_le, true_and, and_true, Nat.reduceAdd, Nat.reduceLeDiff]
  rw [← eA4] at H4 hb w4
  rcases hb with ⟨rfl, q4, e4⟩ | ⟨rfl, e4, he4⟩
  rotate_left
  · refine ⟨fun _ => H h4 F14.bq X4 H4 (fun q' hq' => by rw [he4] at hq'; cases hq'), fun g => (g (by first | trivial | rfl)).elim⟩
  refine ⟨fun g => absurd g (by decide), fun _ => ?_⟩
  refine m_stone (d := d + 2) ?_
  simp (disch := omega) only [sh116, lt116, en_ops, en_opc, iI_add, iI_mul, iI_sub, jL_add, jL_mul, iI_le, iI_lt, iI_eq, iI_eq0, iI_lt0, iI_0le, iI_le0, iI_0lt, jL_iI, iI_jL, lc_eq, lc_lt, lc_le, lc_ge, lc_gt, Nat.sub_zero, Nat.zero_le, true_and, and_true, Nat.reduceAdd, Nat.reduceLeDiff]
  refine ⟨24 * v1.toNat + 3 * v2.toNat + v3.toNat, iI_eq_of (by omega), by omega, ?_⟩
  have U : Fx (fun a j => a = 116 ∧ j = 24 * v1.toNat + 3 * v2.toNat + v3.toNat) h4 (en_up h4 116 (24 * v1.toNat + 3 * v2.toNat + v3.toNat) (iI v4)) := Fx.up Fx.rf ⟨rfl, rfl⟩
  obtain ⟨X5, H5⟩ := rtX.fw X4 H4 U (fun a j g => Or.inr g.1)
  have u4 := w4 _ e4
  rw [eA4] at e4
  obtain ⟨p3, x3, -⟩ := zNm_i e4
  have u3 := w3 _ x3
  obtain ⟨p2, x2, -⟩ := zNm_i x3
  have u2 := w2 _ x2
  obtain ⟨p1, x1, -⟩ := zNm_i x2
  have u1 := w1 _ x1
  refine H _ (F14.bq.tr (U.mono (fun a j g => Or.inr (Or.inr g.1)))) X5 H5 (fun q' _ => ?_)
  rw [eA3, y2, y1, show zVa X z = v1.toNat by omega, show zVa X (zNm X 0 ((bC B : Int) - 1) z) = v2.toNat by omega, show zVa X (zNm X 0 ((bZ B : Int) - 1) (zNm X 0 ((bC B : Int) - 1) z)) = v3.toNat by omega, show zVa X (zNm X 0 2 (zNm X 0 ((bZ B : Int) - 1) (zNm X 0 ((bC B : Int) - 1) z))) = v4.toNat by omega]
  obtain ⟨m1, m2, m3, m4, m5, m6, m7, m8⟩ := P4
  have er : en_up h4 116 (24 * v1.toNat + 3 * v2.toNat + v3.toNat) (iI v4) 114 = h4 114 := up_row (by decide)
  refine ⟨by rw [er]; exact m1, by rw [er]; exact m2, fun j hj => ?_, fun c hc => ?_, by rw [er]; exact m5, by rw [er]; exact m6, by rw [er]; exact m7, fun j j1 j2 => ?_⟩
  · show _ = iI (updF (bF B) v1.toNat v2.toNat v3.toNat ((v4.toNat : Nat) : Int) (j / 24) (j / 3 % 8) (j % 3))
    unfold updF
    by_cases ej : j = 24 * v1.toNat + 3 * v2.toNat + v3.toNat
    · rw [if_pos (by omega), ej, up_at]
      exact iI_eq_of (by omega)
    · rw [if_neg (by omega), up_ne (Or.inr ej)]
      exact m3 j hj
  · rw [up_ne (Or.inr (by omega))]; exact m4 c hc
  · rw [up_ne (Or.inr (by omega))]; exact m8 j j1 j2
/-- four places of the plan written, one counted -/
theorem w_four {o k cn : Nat} {a b c e : Int} {h1 : en_I} (ho : 4 ≤ o) (hk : k = 2 ∨ k = 3) : ∀ j, en_up (en_up (en_up (en_up (en_up h1 114 o (iI a)) 114 (o + 1) (iI b)) 114 (o + 2) (iI c)) 114 (o + 3) (iI e)) 114 k (iI ((cn + 1 : Nat) : Int)) 114 j = if j = k then iI ((cn + 1 : Nat) : Int) else if j = o then iI a else if j = o + 1 then iI b else if j = o + 2 then iI c else if j = o + 3 then iI e else h1 114 j := by
  intro j
  by_cases e0 : j = k
  · rw [if_pos e0, e0, up_at]
  rw [if_neg e0, up_ne (Or.inr e0)]
  by_cases e1 : j = o
  · rw [if_pos e1, e1, up_ne (Or.inr (by omega)), up_ne (Or.inr (by omega)), up_ne (Or.inr (by omega)), up_at]
  rw [if_neg e1]
  by_cases e2 : j = o + 1
  · rw [if_pos e2, e2, up_ne (Or.inr (by omega)), up_ne (Or.inr (by omega)), up_at]
  rw [if_neg e2]
  by_cases e3 : j = o + 2
  · rw [if_pos e3, e3, up_ne (Or.inr (by omega)), up_at]
  rw [if_neg e3]
  by_cases e4 : j = o + 3
  · rw [if_pos e4, e4, up_at]
  rw [if_neg e4, up_ne (Or.inr e4), up_ne (Or.inr e3), up_ne (Or.inr e2), up_ne (Or.inr e1)]
theorem n_spring (hR : rfR hr) (hX : rtS X hi) (h : rtX X z hi) (hP : bqH B hi) (hB : bOK i B) (h8 : bSn B < 8) (H : bnK X B 5 z hi hl hr K) : en_Call G (d + 4) xc xs Y_X11_readSpring wN wN [.ref 110] hi hl hr K := by
  have r11 := hR.1.2.2.2.1
  have cb := hB.1
  have zb := hB.2.1
  obtain ⟨y1, y2, y3, y4⟩ := ba_5 (X := X) (B := B) (z := z)
  have eA3 : bA3 X B 5 z = zNm X 0 2 (zNm X 0 ((bZ B : Int) - 1) (zNm X 0 ((bC B : Int) - 1) z)) := by rw [y3, y2, y1]
  have eA4 : bA4 X B 5 z = zNm X 1 999 (zNm X 0 2 (zNm X 0 ((bZ B : Int) - 1) (zNm X 0 ((bC B : Int) - 1) z))) := by rw [y4, eA3]
  have e2 : hi 114 2 = iI (bSn B : Int) := hP.2.2.2.2.2.1.1
  apply en_X11_readSpring
  simp (disch := omega) only [B_X11_readSpring_0, sh110, lt110, r11, sh114, lt114, en_ops, en_opc, iI_add, iI_mul, iI_sub, jL_add, jL_mul, iI_le, iI_lt, iI_eq, iI_eq0, iI_lt0, iI_0le, iI_le0, iI_0lt, jL_iI, iI_jL, lc_eq, lc_lt, lc_le, lc_ge, lc_gt, Nat.sub_zero, Nat.zero_le, true_and, and_true, Nat.reduceAdd, Nat.reduceLeDiff]
  refine ⟨2, rfl, by decide, ?_⟩
  rw [e2]
  simp (disch := omega) only [sh110, lt110, en_ops, en_opc, iI_add, iI_mul, iI_sub, jL_add, jL_mul, iI_le, iI_lt, iI_eq, iI_eq0, iI_lt0, iI_0le, iI_le0, iI_0lt, jL_iI, iI_jL, lc_eq, lc_lt, lc_le, lc_ge, lc_gt, Nat.sub_zero, Nat.zero_le, true_and, and_true, Nat.reduceAdd, Nat.reduceLeDiff]
  refine n_cell (d := d) hR hX h hP.1 hB.1 (fun h1 v1 F1 X1 H1 a1 b1 w1 => ?_)
  have P1 : bqH B h1 := hP.fx F1 (fun j w => by have := w.1; omega) (fun j w => by have := w.1; omega)
  simp (disch := omega) only [sh110, lt110, en_ops, en_opc, iI_add, iI_mul, iI_sub, jL_add, jL_mul, iI_le, iI_lt, iI_eq, iI_eq0, iI_lt0, iI_0le, iI_le0, iI_0lt, jL_iI, iI_jL, lc_eq, lc_lt, lc_le, lc_ge, lc_gt, Nat.sub_zero, Nat.zero_le, true_and, and_true, Nat.reduceAdd, Nat.reduceLeDiff]
  refine n_size (d := d) hR X1 H1 P1.2.1 hB.2.1 (fun h2 v2 F2 X2 H2 a2 b2 w2 => ?_)
  simp (disch := omega) only [sh110, lt110, en_ops, en_opc, iI_add, iI_mul, iI_sub, jL_add, jL_mul, iI_le, iI_lt, iI_eq, iI_eq0, iI_lt0, iI_0le, iI_le0, iI_0lt, jL_iI, iI_jL, lc_eq, lc_lt, lc_le, lc_ge, lc_gt, Nat.sub_zero, Nat.zero_le, true_and, and_true, Nat.reduceAdd, Nat.reduceLeDiff]
  refine m_num (d := d + 1) (lo := 0) (up := 2) (by decide) hR X2 H2 (fun h3 v3 F3 X3 H3 a3 w3 => ?_)
  simp (disch := omega) only [sh110, lt110, en_ops, en_opc, iI_add, iI_mul, iI_sub, jL_add, jL_mul, iI_le, iI_lt, iI_eq, iI_eq0, iI_lt0, iI_0le, iI_le0, iI_0lt, jL_iI, iI_jL, lc_eq, lc_lt, lc_le, lc_ge, lc_gt, Nat.sub_zero, Nat.zero_le, true_and, and_true, Nat.reduceAdd, Nat.reduceLeDiff]
  refine m_num (d := d + 1) (lo := 1) (up := 999) (by decide) hR X3 H3 (fun h4 v4 F4 X4 H4 a4 w4 => ?_)
  have F14 : Fx Prd hi h4 := ((F1.tr F2).tr F3).tr F4
  have P4 : bqH B h4 := hP.fx F14 (fun j w => by have := w.1; omega) (fun j w => by have := w.1; omega)
  have e24 : h4 114 2 = iI (bSn B : Int) := P4.2.2.2.2.2.1.1
  simp (disch := omega) only [sh110, lt110, en_ops, en_opc, iI_add, iI_mul, iI_sub, jL_add, jL_mul, iI_le, iI_lt, iI_eq, iI_eq0, iI_lt0, iI_0le, iI_le0, iI_0lt, jL_iI, iI_jL, lc_eq, lc_lt, lc_le, lc_ge, lc_gt, Nat.sub_zero, Nat.zero_le, true_and, and_true, Nat.reduceAdd, Nat.reduceLeDiff]
  refine m_fineZ (d := d + 2) H4 (fun b hb => ?_)
  simp (disch := omega) only [sh110, lt110, r11, sh114, lt114, en_ops, en_opc, iI_add, iI_mul, iI_sub, jL_add, jL_mul, iI_le, iI_lt, iI_eq, iI_eq0, iI_lt0, iI_0le, iI_le0, iI_0lt, jL_iI, iI_jL, lc_eq, lc_lt, lc_le, lc_ge, lc_gt, Nat.sub_zero, Nat.zero_le, true_and, and_true, Nat.reduceAdd, Nat.reduceLeDiff]
  rw [← eA4] at H4 hb w4
  rcases hb with ⟨rfl, q4, e4⟩ | ⟨rfl, e4, he4⟩
  rotate_left
  · refine ⟨fun g => (g (by first | trivial | rfl)).elim, fun _ => H h4 F14.bq X4 H4 (fun q' hq' => by rw [he4] at hq'; cases hq')⟩
  refine ⟨fun _ => ?_, fun g => absurd g (by decide)⟩
  refine ⟨4 + 4 * bSn B, iI_eq_of (by omega), by omega, 4 + 4 * bSn B + 1, iI_eq_of (by omega), by omega, 4 + 4 * bSn B + 2, iI_eq_of (by omega), by omega, 4 + 4 * bSn B + 3, iI_eq_of (by omega), by omega, 2, rfl, by decide, 2, rfl, by decide, ?_⟩
  rw [show en_up (en_up (en_up (en_up h4 114 (4 + 4 * bSn B) (iI v1)) 114 (4 + 4 * bSn B + 1) (iI v2)) 114 (4 + 4 * bSn B + 2) (iI v3)) 114 (4 + 4 * bSn B + 3) (iI v4) 114 2 = iI (bSn B : Int) by rw [up_ne (Or.inr (by omega)), up_ne (Or.inr (by omega)), up_ne (Or.inr (by omega)), up_ne (Or.inr (by omega))]; exact e24]
  simp (disch := omega) only [en_ops, en_opc, iI_add, iI_mul, iI_sub, jL_add, jL_mul, iI_le, iI_lt, iI_eq, iI_eq0, iI_lt0, iI_0le, iI_le0, iI_0lt, jL_iI, iI_jL, lc_eq, lc_lt, lc_le, lc_ge, lc_gt, Nat.sub_zero, Nat.zero_le, true_and, and_true, Nat.reduceAdd, Nat.reduceLeDiff]
  rw [show (bSn B : Int) + 1 = ((bSn B + 1 : Nat) : Int) from rfl]
  have U : Fx (fun a _ => a = 114) h4 (en_up (en_up (en_up (en_up (en_up h4 114 (4 + 4 * bSn B) (iI v1)) 114 (4 + 4 * bSn B + 1) (iI v2)) 114 (4 + 4 * bSn B + 2) (iI v3)) 114 (4 + 4 * bSn B + 3) (iI v4)) 114 2 (iI ((bSn B + 1 : Nat) : Int))) := Fx.up (Fx.up (Fx.up (Fx.up (Fx.up Fx.rf rfl) rfl) rfl) rfl) rfl
  have wf := w_four (o := 4 + 4 * bSn B) (k := 2) (cn := bSn B) (a := v1) (b := v2) (c := v3) (e := v4) (h1 := h4) (by omega) (Or.inl rfl)
  obtain ⟨X5, H5⟩ := rtX.fw X4 H4 U (fun a j g => Or.inl g)
  have u4 := w4 _ e4
  rw [eA4] at e4
  obtain ⟨p3, x3, -⟩ := zNm_i e4
  have u3 := w3 _ x3
  obtain ⟨p2, x2, -⟩ := zNm_i x3
  have u2 := w2 _ x2
  obtain ⟨p1, x1, -⟩ := zNm_i x2
  have u1 := w1 _ x1
  refine H _ (F14.bq.tr (U.mono (fun a j g => Or.inr (Or.inl g)))) X5 H5 (fun q' _ => ?_)
  rw [eA3, y2, y1, show zVa X z = v1.toNat by omega, show zVa X (zNm X 0 ((bC B : Int) - 1) z) = v2.toNat by omega, show zVa X (zNm X 0 ((bZ B : Int) - 1) (zNm X 0 ((bC B : Int) - 1) z)) = v3.toNat by omega, show zVa X (zNm X 0 2 (zNm X 0 ((bZ B : Int) - 1) (zNm X 0 ((bC B : Int) - 1) z))) = v4.toNat by omega]
  obtain ⟨m1, m2, m3, m4, m5, ⟨m6, m6'⟩, ⟨m7, m7'⟩, m8⟩ := P4
  have er : ∀ j, en_up (en_up (en_up (en_up (en_up h4 114 (4 + 4 * bSn B) (iI v1)) 114 (4 + 4 * bSn B + 1) (iI v2)) 114 (4 + 4 * bSn B + 2) (iI v3)) 114 (4 + 4 * bSn B + 3) (iI v4)) 114 2 (iI ((bSn B + 1 : Nat) : Int)) 116 j = h4 116 j := fun j => U 116 j (show ¬ (116 : Nat) = 114 by decide)
  refine ⟨?_, ?_, fun j hj => by rw [er]; exact m3 j hj, fun c hc => by rw [er]; exact m4 c hc, fun c hc => ?_, ⟨up_at, fun j hj => ?_⟩, ⟨?_, fun j hj => ?_⟩, fun j j1 j2 => by rw [er]; exact m8 j j1 j2⟩
  · rw [wf 0, if_neg (by omega), if_neg (by omega), if_neg (by omega), if_neg (by omega), if_neg (by omega)]; exact m1
  · rw [wf 1, if_neg (by omega), if_neg (by omega), if_neg (by omega), if_neg (by omega), if_neg (by omega)]; exact m2
  · rw [wf (52 + c), if_neg (by omega), if_neg (by omega), if_neg (by omega), if_neg (by omega), if_neg (by omega)]; exact m5 c hc
  · replace hj : j < bSn B + 1 := hj
    have hh : ∀ x : Nat × Nat × Nat × Int, x = (if j = bSn B then (v1.toNat, v2.toNat, v3.toNat, ((v4.toNat : Nat) : Int)) else bSf B j) → en_up (en_up (en_up (en_up (en_up h4 114 (4 + 4 * bSn B) (iI v1)) 114 (4 + 4 * bSn B + 1) (iI v2)) 114 (4 + 4 * bSn B + 2) (iI v3)) 114 (4 + 4 * bSn B + 3) (iI v4)) 114 2 (iI ((bSn B + 1 : Nat) : Int)) 114 (4 + 4 * j) = iI ((x.1 : Nat) : Int) ∧ en_up (en_up (en_up (en_up (en_up h4 114 (4 + 4 * bSn B) (iI v1)) 114 (4 + 4 * bSn B + 1) (iI v2)) 114 (4 + 4 * bSn B + 2) (iI v3)) 114 (4 + 4 * bSn B + 3) (iI v4)) 114 2 (iI ((bSn B + 1 : Nat) : Int)) 114 (4 + 4 * j + 1) = iI ((x.2.1 : Nat) : Int) ∧ en_up (en_up (en_up (en_up (en_up h4 114 (4 + 4 * bSn B) (iI v1)) 114 (4 + 4 * bSn B + 1) (iI v2)) 114 (4 + 4 * bSn B + 2) (iI v3)) 114 (4 + 4 * bSn B + 3) (iI v4)) 114 2 (iI ((bSn B + 1 : Nat) : Int)) 114 (4 + 4 * j + 2) = iI ((x.2.2.1 : Nat) : Int) ∧ en_up (en_up (en_up (en_up (en_up h4 114 (4 + 4 * bSn B) (iI v1)) 114 (4 + 4 * bSn B + 1) (iI v2)) 114 (4 + 4 * bSn B + 2) (iI v3)) 114 (4 + 4 * bSn B + 3) (iI v4)) 114 2 (iI ((bSn B + 1 : Nat) : Int)) 114 (4 + 4 * j + 3) = iI x.2.2.2 := fun x hx => by
      rw [wf, wf, wf, wf]
      by_cases ej : j = bSn B
      · rw [if_pos ej] at hx
        subst hx
        rw [ej, if_neg (by omega), if_pos rfl, if_neg (by omega), if_neg (by omega), if_pos rfl, if_neg (by omega), if_neg (by omega), if_neg (by omega), if_pos rfl, if_neg (by omega), if_neg (by omega), if_neg (by omega), if_neg (by omega), if_pos rfl]
        exact ⟨iI_eq_of (by show v1 = ((v1.toNat : Nat) : Int); omega), iI_eq_of (by show v2 = ((v2.toNat : Nat) : Int); omega), iI_eq_of (by show v3 = ((v3.toNat : Nat) : Int); omega), iI_eq_of (by show v4 = ((v4.toNat : Nat) : Int); omega)⟩
      · rw [if_neg ej] at hx
        rw [hx, if_neg (by omega), if_neg (by omega), if_neg (by omega), if_neg (by omega), if_neg (by omega), if_neg (by omega), if_neg (by omega), if_neg (by omega), if_neg (by omega), if_neg (by omega), if_neg (by omega), if_neg (by omega), if_neg (by omega), if_neg (by omega), if_neg (by omega), if_neg (by omega), if_neg (by omega), if_neg (by omega), if_neg (by omega), if_neg (by omega)]
        exact m6' j (by omega)
    exact hh (if j = bSn B then (v1.toNat, v2.toNat, v3.toNat, ((v4.toNat : Nat) : Int)) else bSf B j) rfl
  · rw [wf 3, if_neg (by omega), if_neg (by omega), if_neg (by omega), if_neg (by omega), if_neg (by omega)]; exact m7
  · replace hj : j < bLn B := hj
    have l4 := hB.2.2.2.2.2.2.2.2.2.2.1
    rw [wf, wf, wf, wf, if_neg (by omega), if_neg (by omega), if_neg (by omega), if_neg (by omega), if_neg (by omega), if_neg (by omega), if_neg (by omega), if_neg (by omega), if_neg (by omega), if_neg (by omega), if_neg (by omega), if_neg (by omega), if_neg (by omega), if_neg (by omega), if_neg (by omega), if_neg (by omega), if_neg (by omega), if_neg (by omega), if_neg (by omega), if_neg (by omega)]
    exact m7' j hj
end
