section
variable {G : en_G} {d : Nat} {K : en_K} {W : zW} {n : Nat} {hi : en_I} {hl : en_L} {hr : en_F} {xc xs : Nat}
theorem lt112 : 112 < 134 := by decide
theorem sh118 : en_SH 118 = (100, 2502) := by decide
theorem lt118 : 118 < 134 := by decide
theorem xrH.cg {s : zSh} {F F' : Nat → Int32} (h : xrH s F) (hs : s.2.1 ≤ 4) (e : ∀ j, j < 834 → F' j = F j) : xrH s F' := by
  obtain ⟨⟨y1, y2, y3, y4, y5, y6, y7⟩, x1, x2, x3⟩ := h
  exact ⟨⟨fun c z k hc hz hk => (e _ (by omega)).trans (y1 c z k hc hz hk), fun c hc => (e _ (by omega)).trans (y2 c hc), fun c hc => (e _ (by omega)).trans (y3 c hc), fun i hi9 => (e _ (by omega)).trans (y4 i hi9), (e _ (by omega)).trans y5, (e _ (by omega)).trans y6, fun j hj g => (e _ (by omega)).trans (y7 j hj g)⟩, (e _ (by omega)).trans x1, fun i hi9 => ⟨(e _ (by omega)).trans (x2 i hi9).1, (e _ (by omega)).trans (x2 i hi9).2⟩, fun c z hc hz => (e _ (by omega)).trans (x3 c z hc hz)⟩
theorem InvR.ch {hi' : en_I} {s : zSh} {im : Nat × (Nat → zSh)} {tp : Nat × (Nat → Nat)} (h : InvR G W hi hr) (F : ∀ x, x ≠ 110 → x ≠ 112 → x ≠ 115 → x ≠ 118 → hi' x = hi x) (F0 : ∀ j, j ≠ 2 → j ≠ 16 → hi' 110 j = hi 110 j) (T : hi' 110 2 = iI (tp.1 : Int) ∧ ∀ j, j < tp.1 → hi' 112 j = iI (tp.2 j : Int)) (N : hi' 110 16 = iI (im.1 : Int)) (X : xrH s (hi' 115)) (Xi : ∀ i, i < im.1 → xrH (im.2 i) (fun j => hi' 118 (834 * i + j))) : InvR G (W.1, W.2.1, W.2.2.1, s, im, tp, W.2.2.2.2.2.2) hi' hr := by
  obtain ⟨hR, ⟨a1, a2⟩, a3, a4, a5, a6, a7, a8, a9, ⟨b, a10, a11⟩, a12, a13⟩ := h
  have FP : Fr (fun x => x = 110 ∨ x = 112 ∨ x = 115 ∨ x = 118) hi hi' := fun x hx => F x (fun g => hx (Or.inl g)) (fun g => hx (Or.inr (Or.inl g))) (fun g => hx (Or.inr (Or.inr (Or.inl g)))) (fun g => hx (Or.inr (Or.inr (Or.inr g))))
  exact ⟨hR, T, by rw [F0 8 (by omega) (by omega)]; exact a3, by rw [F0 17 (by omega) (by omega)]; exact a4, by rw [F0 18 (by omega) (by omega)]; exact a5, N, fun k hk => by rw [F 111 (by omega) (by omega) (by omega) (by omega)]; exact a7 k hk, fun l hl => (a8 l hl).mono (rwE.of (fun x g1 g2 => by rw [F x (by omega) (by omega) (by omega) (by omega)])), fun y hy => (a9 y hy).fr FP (fun x g1 g2 g => by omega), ⟨b, fun j hj => by rw [F 113 (by omega) (by omega) (by omega) (by omega)]; exact a10 j hj, a11⟩, X, Xi⟩
theorem InvR.nh (hz : zOK n W) : (zS W).2.1 ≤ 4 ∧ ∀ i, i < zNi W → (zIm W i).2.1 ≤ 4 := ⟨hz.x.2.2.2.2.1.1, fun i hi9 => (hz.2.2.2.2.2.2.2.2.2.2 i hi9).2.2.2.2.1.1⟩
theorem m_cimage (hI : InvR G W hi hr) (hz : zOK n W) (H : rEnd G W (if zNi W < 3 then zImg W else W) 0 0 (.int (iI 0)) (.int (iI (if zNi W < 3 then (zNi W + 1 : Nat) else -1))) K hi hl hr) : en_Call G (d + 1) xc xs Y_X11_image wN wN [.ref 110] hi hl hr K := by
  obtain ⟨I1, F1, T1⟩ := hI.t1
  obtain ⟨⟨-, -, r10, -, r12, -, -, r15⟩, -⟩ := id I1.1
  obtain ⟨nh4, ni4⟩ := InvR.nh hz
  have n3 := hz.2.2.2.1
  have Hx := H.1 rfl
  have e16 : hi 110 16 = iI (zNi W : Int) := hI.2.2.2.2.2.1
  apply en_X11_image
  simp (disch := omega) only [B_X11_image_0, sh110, lt110, en_ops, en_opc, iI_add, iI_mul, iI_sub, jL_add, jL_mul, iI_le, iI_lt, iI_eq, iI_eq0, iI_lt0, iI_0le, iI_le0, iI_0lt, jL_iI, iI_jL, lc_eq, lc_lt, lc_le, lc_ge, lc_gt, Nat.sub_zero, Nat.zero_le, true_and, and_true, Nat.reduceAdd, Nat.reduceLeDiff]
  rw [up_ne (Or.inr (by omega)), e16]
  simp (disch := omega) only [en_ops, en_opc, iI_add, iI_mul, iI_sub, jL_add, jL_mul, iI_le, iI_lt, iI_eq, iI_eq0, iI_lt0, iI_0le, iI_le0, iI_0lt, jL_iI, iI_jL, lc_eq, lc_lt, lc_le, lc_ge, lc_gt, Nat.sub_zero, Nat.zero_le, true_and, and_true, Nat.reduceAdd, Nat.reduceLeDiff]
  generalize hh1 : en_up hi 110 0 (iI 0) = h1 at *
  have e16 : h1 110 16 = iI (zNi W : Int) := I1.2.2.2.2.2.1
  refine ⟨fun e => ?_, fun e => ?_⟩
  · rw [if_pos (by omega), if_pos (by omega)] at Hx
    suffices L : ∀ i : Nat, i ≤ 834 → ∀ h9, Fr (· = 118) h1 h9 → (∀ j, j < 834 * zNi W → h9 118 j = h1 118 j) → (∀ j, j < i → h9 118 (834 * zNi W + j) = h1 115 j) → en_V G Y_X11_image (d + 1) wN wN K 17 [.ref 110, .int (iI (i : Int))] [] h9 hl hr xc xs from L 0 (by omega) h1 Fr.rf (fun _ _ => rfl) (fun j hj => absurd hj (Nat.not_lt_zero _))
    refine lp 834 (fun h9 F9 A9 B9 => ?_) (fun i hi9 ih h9 F9 A9 B9 => ?_)
    · have e9 : h9 110 = h1 110 := F9 110 (by omega)
      apply s_X11_image_17
      simp (disch := omega) only [B_X11_image_17, sh110, lt110, en_ops, en_opc, iI_add, iI_mul, iI_sub, jL_add, jL_mul, iI_le, iI_lt, iI_eq, iI_eq0, iI_lt0, iI_0le, iI_le0, iI_0lt, jL_iI, iI_jL, lc_eq, lc_lt, lc_le, lc_ge, lc_gt, Nat.sub_zero, Nat.zero_le, true_and, and_true, Nat.reduceAdd, Nat.reduceLeDiff]
      refine ⟨fun _ => ?_, fun e => absurd (show (834 : Int) ≤ ((834 : Nat) : Int) by omega) e⟩
      rw [e9, e16, up_at]
      simp (disch := omega) only [en_ops, en_opc, iI_add, iI_mul, iI_sub, jL_add, jL_mul, iI_le, iI_lt, iI_eq, iI_eq0, iI_lt0, iI_0le, iI_le0, iI_0lt, jL_iI, iI_jL, lc_eq, lc_lt, lc_le, lc_ge, lc_gt, Nat.sub_zero, Nat.zero_le, true_and, and_true, Nat.reduceAdd, Nat.reduceLeDiff]
      refine Hx _ (I1.ch (fun x g0 g1 g2 g3 => by rw [up_row g0]; exact F9 x g3) (fun j g1 g2 => by rw [up_ne (Or.inr g2), e9]) ⟨by rw [up_ne (Or.inr (by omega)), e9]; exact I1.2.1.1, fun j hj => by rw [up_row (by omega), F9 112 (by omega)]; exact I1.2.1.2 j hj⟩ up_at (by rw [up_row (by omega), F9 115 (by omega)]; exact I1.xr) (fun i hi9 => ?_)) (F1.tr (fun x hx => by rw [up_row (by omega)]; exact F9 x (by omega))) (by rw [up_ne (Or.inr (by omega)), e9]; exact T1)
      have hi5 : i < zNi W + 1 := hi9
      show xrH (if i = zNi W then zS W else zIm W i) _
      by_cases q : i = zNi W
      · rw [if_pos q]
        refine I1.xr.cg nh4 (fun j hj => ?_)
        show en_up h9 110 16 _ 118 (834 * i + j) = _
        rw [up_row (by omega), q]
        exact B9 j hj
      · rw [if_neg q]
        refine (I1.2.2.2.2.2.2.2.2.2.2.2 i (by omega)).cg (ni4 i (by omega)) (fun j hj => ?_)
        show en_up h9 110 16 _ 118 (834 * i + j) = _
        rw [up_row (by omega)]
        exact A9 _ (by omega)
    · have e9 : h9 110 = h1 110 := F9 110 (by omega)
      apply s_X11_image_17
      simp (disch := omega) only [B_X11_image_17, r12, r15, sh110, lt110, sh115, lt115, sh118, lt118, en_ops, en_opc, iI_add, iI_mul, iI_sub, jL_add, jL_mul, iI_le, iI_lt, iI_eq, iI_eq0, iI_lt0, iI_0le, iI_le0, iI_0lt, jL_iI, iI_jL, lc_eq, lc_lt, lc_le, lc_ge, lc_gt, Nat.sub_zero, Nat.zero_le, true_and, and_true, Nat.reduceAdd, Nat.reduceLeDiff]
      refine ⟨fun e => by omega, fun _ => ?_⟩
      rw [e9, e16]
      simp (disch := omega) only [en_ops, en_opc, iI_add, iI_mul, iI_sub, jL_add, jL_mul, iI_le, iI_lt, iI_eq, iI_eq0, iI_lt0, iI_0le, iI_le0, iI_0lt, jL_iI, iI_jL, lc_eq, lc_lt, lc_le, lc_ge, lc_gt, Nat.sub_zero, Nat.zero_le, true_and, and_true, Nat.reduceAdd, Nat.reduceLeDiff]
      refine ⟨i, rfl, by omega, 834 * zNi W + i, iI_eq_of (by omega), by omega, ?_⟩
      refine ih _ (Fr.up F9 rfl) (fun j hj => by rw [up_ne (Or.inr (by omega))]; exact A9 j hj) (fun j hj => ?_)
      by_cases q : j = i
      · rw [q, up_at, F9 115 (by omega)]
      · rw [up_ne (Or.inr (by omega))]; exact B9 j (by omega)
  · rw [if_neg (by omega), if_neg (by omega)] at Hx
    exact Hx h1 I1 F1 T1
theorem m_crestore (hI : InvR G W hi hr) (hz : zOK n W) (H : rEnd G W (if zNi W = 0 then W else zRes W) 0 0 (.int (iI 0)) (.int (iI (if zNi W = 0 then -1 else (zNi W - 1 : Nat)))) K hi hl hr) : en_Call G (d + 1) xc xs Y_X11_restore wN wN [.ref 110] hi hl hr K := by
  obtain ⟨I1, F1, T1⟩ := hI.t1
  obtain ⟨⟨-, -, r10, -, r12, -, -, r15⟩, -⟩ := id I1.1
  obtain ⟨nh4, ni4⟩ := InvR.nh hz
  have n3 := hz.2.2.2.1
  have Hx := H.1 rfl
  have e16 : hi 110 16 = iI (zNi W : Int) := hI.2.2.2.2.2.1
  apply en_X11_restore
  simp (disch := omega) only [B_X11_restore_0, sh110, lt110, en_ops, en_opc, iI_add, iI_mul, iI_sub, jL_add, jL_mul, iI_le, iI_lt, iI_eq, iI_eq0, iI_lt0, iI_0le, iI_le0, iI_0lt, jL_iI, iI_jL, lc_eq, lc_lt, lc_le, lc_ge, lc_gt, Nat.sub_zero, Nat.zero_le, true_and, and_true, Nat.reduceAdd, Nat.reduceLeDiff]
  rw [up_ne (Or.inr (by omega)), e16]
  simp (disch := omega) only [en_ops, en_opc, iI_add, iI_mul, iI_sub, jL_add, jL_mul, iI_le, iI_lt, iI_eq, iI_eq0, iI_lt0, iI_0le, iI_le0, iI_0lt, jL_iI, iI_jL, lc_eq, lc_lt, lc_le, lc_ge, lc_gt, Nat.sub_zero, Nat.zero_le, true_and, and_true, Nat.reduceAdd, Nat.reduceLeDiff]
  generalize hh1 : en_up hi 110 0 (iI 0) = h1 at *
  have e16 : h1 110 16 = iI (zNi W : Int) := I1.2.2.2.2.2.1
  refine ⟨fun e => ?_, fun e => ?_⟩
  · rw [if_neg (by omega), if_neg (by omega)] at Hx
    rw [show (zNi W : Int) - 1 = ((zNi W - 1 : Nat) : Int) by omega]
    generalize hh2 : en_up h1 110 16 (iI ((zNi W - 1 : Nat) : Int)) = h2
    have f2 : ∀ x, x ≠ 110 → h2 x = h1 x := fun x hx => by rw [← hh2, up_row hx]
    have g2 : ∀ j, j ≠ 16 → h2 110 j = h1 110 j := fun j hj => by rw [← hh2, up_ne (Or.inr hj)]
    have g16 : h2 110 16 = iI ((zNi W - 1 : Nat) : Int) := by rw [← hh2, up_at]
    suffices L : ∀ i : Nat, i ≤ 834 → ∀ h9, Fr (· = 115) h2 h9 → (∀ j, j < i → h9 115 j = h1 118 (834 * (zNi W - 1) + j)) → en_V G Y_X11_restore (d + 1) wN wN K 26 [.ref 110, .int (iI (i : Int))] [] h9 hl hr xc xs from L 0 (by omega) h2 Fr.rf (fun j hj => absurd hj (Nat.not_lt_zero _))
    refine lp 834 (fun h9 F9 B9 => ?_) (fun i hi9 ih h9 F9 B9 => ?_)
    · have e9 : h9 110 = h2 110 := F9 110 (by omega)
      apply s_X11_restore_26
      simp (disch := omega) only [B_X11_restore_26, sh110, lt110, en_ops, en_opc, iI_add, iI_mul, iI_sub, jL_add, jL_mul, iI_le, iI_lt, iI_eq, iI_eq0, iI_lt0, iI_0le, iI_le0, iI_0lt, jL_iI, iI_jL, lc_eq, lc_lt, lc_le, lc_ge, lc_gt, Nat.sub_zero, Nat.zero_le, true_and, and_true, Nat.reduceAdd, Nat.reduceLeDiff]
      refine ⟨fun _ => ?_, fun e => absurd (show (834 : Int) ≤ ((834 : Nat) : Int) by omega) e⟩
      rw [e9, g16]
      refine Hx _ (I1.ch (fun x g0 g1 g9 g3 => by rw [F9 x g9, f2 x g0]) (fun j q1 q2 => by rw [e9, g2 j q2]) ⟨by rw [e9, g2 2 (by omega)]; exact I1.2.1.1, fun j hj => by rw [F9 112 (by omega), f2 112 (by omega)]; exact I1.2.1.2 j hj⟩ (by rw [e9, g16]) ((I1.2.2.2.2.2.2.2.2.2.2.2 (zNi W - 1) (by omega)).cg (ni4 _ (by omega)) (fun j hj => B9 j hj)) (fun i hi9 => ?_)) (F1.tr (fun x hx => by rw [F9 x (by omega), f2 x (by omega)])) (by rw [e9, g2 0 (by omega)]; exact T1)
      have hi5 : i < zNi W - 1 := hi9
      rw [F9 118 (by omega), f2 118 (by omega)]
      exact I1.2.2.2.2.2.2.2.2.2.2.2 i (by omega)
    · have e9 : h9 110 = h2 110 := F9 110 (by omega)
      apply s_X11_restore_26
      simp (disch := omega) only [B_X11_restore_26, r12, r15, sh110, lt110, sh115, lt115, sh118, lt118, en_ops, en_opc, iI_add, iI_mul, iI_sub, jL_add, jL_mul, iI_le, iI_lt, iI_eq, iI_eq0, iI_lt0, iI_0le, iI_le0, iI_0lt, jL_iI, iI_jL, lc_eq, lc_lt, lc_le, lc_ge, lc_gt, Nat.sub_zero, Nat.zero_le, true_and, and_true, Nat.reduceAdd, Nat.reduceLeDiff]
      refine ⟨fun e => by omega, fun _ => ?_⟩
      rw [e9, g16]
      simp (disch := omega) only [en_ops, en_opc, iI_add, iI_mul, iI_sub, jL_add, jL_mul, iI_le, iI_lt, iI_eq, iI_eq0, iI_lt0, iI_0le, iI_le0, iI_0lt, jL_iI, iI_jL, lc_eq, lc_lt, lc_le, lc_ge, lc_gt, Nat.sub_zero, Nat.zero_le, true_and, and_true, Nat.reduceAdd, Nat.reduceLeDiff]
      refine ⟨834 * (zNi W - 1) + i, iI_eq_of (by omega), by omega, i, rfl, by omega, ?_⟩
      refine ih _ (Fr.up F9 rfl) (fun j hj => ?_)
      by_cases q : j = i
      · rw [q, up_at, F9 118 (by omega), f2 118 (by omega)]
      · rw [up_ne (Or.inr (by omega))]; exact B9 j (by omega)
  · rw [if_pos (by omega), if_pos (by omega)] at Hx
    exact Hx h1 I1 F1 T1
theorem m_cfeed {y1 y2 y3 y4 y5 : Int} (hI : InvR G W hi hr) (hz : zOK n W) (H : rEnd G W (fdW W (x5 y1 y2 y3 y4 y5)) 0 0 (.int (iI 0)) (.int (iI (fdA W))) K hi hl hr) : en_Call G (d + 1) xc xs Y_X11_feed wN wN [.ref 110, .int (iI y1), .int (iI y2), .int (iI y3), .int (iI y4), .int (iI y5)] hi hl hr K := by
  obtain ⟨I1, F1, T1⟩ := hI.t1
  obtain ⟨⟨-, r9, -, -, r12, -, -, r15⟩, -⟩ := id I1.1
  have t6 := hz.1.1
  have Hx := H.1 rfl
  unfold fdW fdA at Hx
  have e2 : hi 110 2 = iI (zNt W : Int) := hI.2.1.1
  apply en_X11_feed
  simp (disch := omega) only [B_X11_feed_0, sh110, lt110, en_ops, en_opc, iI_add, iI_mul, iI_sub, jL_add, jL_mul, iI_le, iI_lt, iI_eq, iI_eq0, iI_lt0, iI_0le, iI_le0, iI_0lt, jL_iI, iI_jL, lc_eq, lc_lt, lc_le, lc_ge, lc_gt, Nat.sub_zero, Nat.zero_le, true_and, and_true, Nat.reduceAdd, Nat.reduceLeDiff]
  rw [up_ne (Or.inr (by omega)), e2]
  simp (disch := omega) only [en_ops, en_opc, iI_add, iI_mul, iI_sub, jL_add, jL_mul, iI_le, iI_lt, iI_eq, iI_eq0, iI_lt0, iI_0le, iI_le0, iI_0lt, jL_iI, iI_jL, lc_eq, lc_lt, lc_le, lc_ge, lc_gt, Nat.sub_zero, Nat.zero_le, true_and, and_true, Nat.reduceAdd, Nat.reduceLeDiff]
  generalize hh1 : en_up hi 110 0 (iI 0) = h1 at *
  obtain ⟨a1, a2⟩ := I1.2.1
  refine ⟨fun e => ?_, fun e => ?_⟩
  · rw [if_pos (by omega), if_pos (by omega)] at Hx
    suffices L : ∀ i : Nat, i ≤ 20 → ∀ h9 x7, Fr (fun x => x = 110 ∨ x = 112) h1 h9 → (∀ j, j ≠ 2 → h9 110 j = h1 110 j) → h9 110 2 = iI ((zNt W + i : Nat) : Int) → (∀ j, j < zNt W + i → h9 112 j = iI ((if j < zNt W then zTp W j else fdN (x5 y1 y2 y3 y4 y5) (j - zNt W) : Nat) : Int)) → en_V G Y_X11_feed (d + 1) wN wN K 23 [.ref 110, .int (iI y1), .int (iI y2), .int (iI y3), .int (iI y4), .int (iI y5), .int (iI (i : Int)), x7] [] h9 hl hr xc xs from L 0 (by omega) h1 _ Fr.rf (fun _ _ => rfl) a1 (fun j hj => by rw [if_pos (by omega)]; exact a2 j (by omega))
    refine lp 20 (fun h9 x7 F9 G9 N9 A9 => ?_) (fun i hi9 ih h9 x7 F9 G9 N9 A9 => ?_)
    · apply s_X11_feed_23
      simp (disch := omega) only [B_X11_feed_23, sh110, lt110, en_ops, en_opc, iI_add, iI_mul, iI_sub, jL_add, jL_mul, iI_le, iI_lt, iI_eq, iI_eq0, iI_lt0, iI_0le, iI_le0, iI_0lt, jL_iI, iI_jL, lc_eq, lc_lt, lc_le, lc_ge, lc_gt, Nat.sub_zero, Nat.zero_le, true_and, and_true, Nat.reduceAdd, Nat.reduceLeDiff]
      refine ⟨fun _ => ?_, fun e => absurd (show (20 : Int) ≤ ((20 : Nat) : Int) by omega) e⟩
      rw [N9]
      refine Hx _ (I1.ch (fun x g0 g1 g9 g3 => F9 x (fun g => by omega)) (fun j q1 q2 => G9 j q1) ⟨N9, fun j hj => A9 j hj⟩ (by rw [G9 16 (by omega)]; exact I1.2.2.2.2.2.1) (by rw [F9 115 (by omega)]; exact I1.xr) (fun i hi9 => by rw [F9 118 (by omega)]; exact I1.2.2.2.2.2.2.2.2.2.2.2 i hi9)) (F1.tr (fun x hx => F9 x (by omega))) (by rw [G9 0 (by omega)]; exact T1)
    · have go : en_V G Y_X11_feed (d + 1) wN wN K 76 [.ref 110, .int (iI y1), .int (iI y2), .int (iI y3), .int (iI y4), .int (iI y5), .int (iI (i : Int)), x7] [.int (iI (x5 y1 y2 y3 y4 y5 (i / 4)))] h9 hl hr xc xs := by
        apply s_X11_feed_76
        simp (disch := omega) only [B_X11_feed_76, r9, sh110, lt110, sh112, lt112, N9, en_ops, en_opc, iI_add, iI_mul, iI_sub, jL_add, jL_mul, iI_le, iI_lt, iI_eq, iI_eq0, iI_lt0, iI_0le, iI_le0, iI_0lt, jL_iI, iI_jL, lc_eq, lc_lt, lc_le, lc_ge, lc_gt, Nat.sub_zero, Nat.zero_le, true_and, and_true, Nat.reduceAdd, Nat.reduceLeDiff]
        refine ⟨by decide, zNt W + i, rfl, by omega, ?_⟩
        rw [iI_div (by omega) (by omega) (by decide) (by decide), iI_mul, iI_sub, iI_mul, iI_sub, show (24 : Int) - 8 * ((i : Int) - (i : Int) / 4 * 4) = ((24 - 8 * (i % 4) : Nat) : Int) by omega, by_s (by omega), up_ne (Or.inl (by omega)), N9, iI_add]
        have F10 : Fr (fun x => x = 110 ∨ x = 112) h1 (en_up (en_up h9 112 (zNt W + i) (iI (byt (x5 y1 y2 y3 y4 y5 (i / 4)) (24 - 8 * (i % 4)) : Int))) 110 2 (iI (((zNt W + i : Nat) : Int) + 1))) := Fr.up (Fr.up F9 (Or.inr rfl)) (Or.inl rfl)
        refine ih _ _ F10 (fun j hj => by rw [up_ne (Or.inr hj), up_row (by omega)]; exact G9 j hj) (by rw [up_at]; exact iI_eq_of (by omega)) (fun j hj => ?_)
        rw [up_row (by omega)]
        by_cases q : j = zNt W + i
        · rw [q, up_at, if_neg (by omega), show zNt W + i - zNt W = i by omega]; rfl
        · rw [up_ne (Or.inr q)]; exact A9 j (by omega)
      apply s_X11_feed_23
      simp (disch := omega) only [B_X11_feed_23, sh110, lt110, en_ops, en_opc, iI_add, iI_mul, iI_sub, jL_add, jL_mul, iI_le, iI_lt, iI_eq, iI_eq0, iI_lt0, iI_0le, iI_le0, iI_0lt, jL_iI, iI_jL, lc_eq, lc_lt, lc_le, lc_ge, lc_gt, Nat.sub_zero, Nat.zero_le, true_and, and_true, Nat.reduceAdd, Nat.reduceLeDiff]
      refine ⟨fun e => by omega, fun _ => ⟨fun q1 => ⟨fun q2 => ⟨fun q3 => ⟨fun q4 => ?_, fun q4 => ?_⟩, fun q3 => ?_⟩, fun q2 => ?_⟩, fun q1 => ?_⟩⟩
      · rw [show i / 4 = 4 by omega] at go; exact go
      · rw [show i / 4 = 3 by omega] at go; exact go
      · rw [show i / 4 = 2 by omega] at go; exact go
      · rw [show i / 4 = 1 by omega] at go; exact go
      · rw [show i / 4 = 0 by omega] at go; exact go
  · rw [if_neg (by omega), if_neg (by omega)] at Hx
    exact Hx h1 I1 F1 T1
theorem m_ccount {w : Int} (hI : InvR G W hi hr) (hz : zOK n W) (hw : iRg w) (H : rEnd G W W 0 0 (.int (iI 0)) (.int (iI (cnP W w))) K hi hl hr) : en_Call G (d + 1) xc xs Y_X11_count wN wN [.ref 110, .int (iI w)] hi hl hr K := by
  obtain ⟨I1, F1, T1⟩ := hI.t1
  obtain ⟨⟨-, r9, r10, -, r12, -, -, r15⟩, -⟩ := id I1.1
  obtain ⟨nc12, nz6⟩ := hz.c
  obtain ⟨b, b1, b2, -⟩ := I1.e
  have hwi := tsw_toInt hw
  have Hx := H.1 rfl _ I1 F1 T1
  unfold cnP at Hx
  apply en_X11_count
  simp (disch := omega) only [B_X11_count_0, sh110, lt110, hwi, en_ops, en_opc, iI_add, iI_mul, iI_sub, jL_add, jL_mul, iI_le, iI_lt, iI_eq, iI_eq0, iI_lt0, iI_0le, iI_le0, iI_0lt, jL_iI, iI_jL, lc_eq, lc_lt, lc_le, lc_ge, lc_gt, Nat.sub_zero, Nat.zero_le, true_and, and_true, Nat.reduceAdd, Nat.reduceLeDiff]
  generalize hh1 : en_up hi 110 0 (iI 0) = h1 at *
  have e0 : h1 113 0 = iI ((zE W).2.1 : Int) := by rw [b1 0 (by omega), b2.1]
  obtain ⟨x0, x1, x2, x3⟩ := I1.xr
  have e16 : h1 110 16 = iI (zNi W : Int) := I1.2.2.2.2.2.1
  have e2 : h1 110 2 = iI (zNt W : Int) := I1.2.1.1
  refine ⟨fun e => ?_, fun j k hj e => ?_⟩
  · have e' : w < 0 ∨ 4 ≤ w := by simp at e; omega
    rw [if_neg (by omega), if_neg (by omega), if_neg (by omega), if_neg (by omega)] at Hx
    apply s_X11_count_105
    simp (disch := omega) only [B_X11_count_105, en_ops, en_opc, iI_add, iI_mul, iI_sub, jL_add, jL_mul, iI_le, iI_lt, iI_eq, iI_eq0, iI_lt0, iI_0le, iI_le0, iI_0lt, jL_iI, iI_jL, lc_eq, lc_lt, lc_le, lc_ge, lc_gt, Nat.sub_zero, Nat.zero_le, true_and, and_true, Nat.reduceAdd, Nat.reduceLeDiff]
    exact Hx
  · rcases j with _ | _ | _ | _ | j
    · obtain rfl := Option.some.inj hj
      have w0 : w = 0 := by omega
      subst w0
      apply s_X11_count_40
      simp (disch := omega) only [B_X11_count_40, r12, sh110, lt110, sh115, lt115, en_ops, en_opc, iI_add, iI_mul, iI_sub, jL_add, jL_mul, iI_le, iI_lt, iI_eq, iI_eq0, iI_lt0, iI_0le, iI_le0, iI_0lt, jL_iI, iI_jL, lc_eq, lc_lt, lc_le, lc_ge, lc_gt, Nat.sub_zero, Nat.zero_le, true_and, and_true, Nat.reduceAdd, Nat.reduceLeDiff]
      refine ⟨630, rfl, by omega, ?_⟩
      rw [x1]
      exact Hx
    · obtain rfl := Option.some.inj hj
      have w0 : w = 1 := by omega
      subst w0
      apply s_X11_count_49
      simp (disch := omega) only [B_X11_count_49, sh110, lt110, e16, en_ops, en_opc, iI_add, iI_mul, iI_sub, jL_add, jL_mul, iI_le, iI_lt, iI_eq, iI_eq0, iI_lt0, iI_0le, iI_le0, iI_0lt, jL_iI, iI_jL, lc_eq, lc_lt, lc_le, lc_ge, lc_gt, Nat.sub_zero, Nat.zero_le, true_and, and_true, Nat.reduceAdd, Nat.reduceLeDiff]
      exact Hx
    · obtain rfl := Option.some.inj hj
      have w0 : w = 2 := by omega
      subst w0
      apply s_X11_count_54
      simp (disch := omega) only [B_X11_count_54, sh110, lt110, e2, en_ops, en_opc, iI_add, iI_mul, iI_sub, jL_add, jL_mul, iI_le, iI_lt, iI_eq, iI_eq0, iI_lt0, iI_0le, iI_le0, iI_0lt, jL_iI, iI_jL, lc_eq, lc_lt, lc_le, lc_ge, lc_gt, Nat.sub_zero, Nat.zero_le, true_and, and_true, Nat.reduceAdd, Nat.reduceLeDiff]
      exact Hx
    · obtain rfl := Option.some.inj hj
      have w0 : w = 3 := by omega
      subst w0
      rw [if_neg (by omega), if_neg (by omega), if_neg (by omega), if_pos rfl] at Hx
      apply s_X11_count_59
      simp (disch := omega) only [B_X11_count_59, en_ops, en_opc, iI_add, iI_mul, iI_sub, jL_add, jL_mul, iI_le, iI_lt, iI_eq, iI_eq0, iI_lt0, iI_0le, iI_le0, iI_0lt, jL_iI, iI_jL, lc_eq, lc_lt, lc_le, lc_ge, lc_gt, Nat.sub_zero, Nat.zero_le, true_and, and_true, Nat.reduceAdd, Nat.reduceLeDiff]
      have es : smpP W = sumTo 192 (fun j => if (zE W).2.1 = 0 then 0 else smI (zS W).2.2.2 (j / 8) (j % 8)) := by
        rw [show (192 : Nat) = 24 * 8 by rfl, sumTo_blk]
        unfold smpP
        by_cases q : (zE W).2.1 = 0
        · rw [q]
          exact (sumTo_zero (fun c _ => sumTo_zero (fun z _ => if_pos rfl))).symm
        · have tl := hz.x.2.2.2.2.2.2 q
          have ec : ∀ c, c < 24 → sumTo 8 (fun z => if (zE W).2.1 = 0 then 0 else smI (zS W).2.2.2 ((8 * c + z) / 8) ((8 * c + z) % 8)) = sumTo 8 (smI (zS W).2.2.2 c) := fun c hc => sumTo_congr (fun z hz9 => by rw [if_neg q, show (8 * c + z) / 8 = c by omega, show (8 * c + z) % 8 = z by omega])
          have sm0 : ∀ c z, c < 24 → z < 8 → (zE W).2.1 ≤ c ∨ (zE W).2.2.1 ≤ z → smI (zS W).2.2.2 c z = 0 := fun c z g1 g2 g3 => by unfold smI; rw [tl c z g1 g2 g3]; rfl
          rw [sumTo_congr ec, sumTo_part (n := (zE W).2.1) (m := 24) (by omega) (fun c g1 g2 => sumTo_zero (fun z hz9 => sm0 c z g2 hz9 (Or.inl g1)))]
          exact sumTo_congr (fun c hc => (sumTo_part (n := (zE W).2.2.1) (m := 8) (by omega) (fun z g1 g2 => sm0 c z (by omega) g2 (Or.inr g1))).symm)
      rw [es] at Hx
      suffices L : ∀ i : Nat, i ≤ 192 → en_V G Y_X11_count (d + 1) wN wN K 63 [.ref 110, .int (iI 3), .int (iI (sumTo i (fun j => if (zE W).2.1 = 0 then 0 else smI (zS W).2.2.2 (j / 8) (j % 8)))), .int (iI ((641 + i : Nat) : Int))] [] h1 hl hr xc xs from L 0 (by omega)
      refine lp 192 ?_ (fun i hi9 ih => ?_)
      · apply s_X11_count_63
        simp (disch := omega) only [B_X11_count_63, en_ops, en_opc, iI_add, iI_mul, iI_sub, jL_add, jL_mul, iI_le, iI_lt, iI_eq, iI_eq0, iI_lt0, iI_0le, iI_le0, iI_0lt, jL_iI, iI_jL, lc_eq, lc_lt, lc_le, lc_ge, lc_gt, Nat.sub_zero, Nat.zero_le, true_and, and_true, Nat.reduceAdd, Nat.reduceLeDiff]
        exact ⟨fun _ => Hx, fun e => absurd (show (833 : Int) ≤ ((641 + 192 : Nat) : Int) by omega) e⟩
      · have xv := x3 (i / 8) (i % 8) (by omega) (by omega)
        rw [show 641 + 8 * (i / 8) + i % 8 = 641 + i by omega] at xv
        rw [sumTo_s] at ih
        apply s_X11_count_63
        simp (disch := omega) only [B_X11_count_63, r10, r12, sh110, lt110, sh113, lt113, sh115, lt115, en_ops, en_opc, iI_add, iI_mul, iI_sub, jL_add, jL_mul, iI_le, iI_lt, iI_eq, iI_eq0, iI_lt0, iI_0le, iI_le0, iI_0lt, jL_iI, iI_jL, lc_eq, lc_lt, lc_le, lc_ge, lc_gt, Nat.sub_zero, Nat.zero_le, true_and, and_true, Nat.reduceAdd, Nat.reduceLeDiff]
        refine ⟨fun e => by omega, fun _ => ⟨0, rfl, by decide, ?_⟩⟩
        rw [e0]
        simp (disch := omega) only [en_ops, en_opc, iI_add, iI_mul, iI_sub, jL_add, jL_mul, iI_le, iI_lt, iI_eq, iI_eq0, iI_lt0, iI_0le, iI_le0, iI_0lt, jL_iI, iI_jL, lc_eq, lc_lt, lc_le, lc_ge, lc_gt, Nat.sub_zero, Nat.zero_le, true_and, and_true, Nat.reduceAdd, Nat.reduceLeDiff]
        have mr : (zE W).2.1 ≠ 0 → -1 ≤ (zS W).2.2.2 (i / 8) (i % 8) ∧ (zS W).2.2.2 (i / 8) (i % 8) ≤ 999999 := fun g => by
          by_cases q : i / 8 < 12 ∧ i % 8 < 6
          · exact hz.x.2.2.2.2.2.1 _ _ q.1 q.2
          · rw [hz.x.2.2.2.2.2.2 g (i / 8) (i % 8) (by omega) (by omega) (by omega)]; omega
        refine ⟨fun e => ?_, fun e => ⟨641 + i, rfl, by omega, ?_⟩⟩
        · rw [if_pos (by omega)] at ih; exact ih
        · rw [if_neg (by omega)] at ih
          unfold smI at ih
          rw [xv]
          have mr := mr (by omega)
          simp (disch := omega) only [en_ops, en_opc, iI_add, iI_mul, iI_sub, jL_add, jL_mul, iI_le, iI_lt, iI_eq, iI_eq0, iI_lt0, iI_0le, iI_le0, iI_0lt, jL_iI, iI_jL, lc_eq, lc_lt, lc_le, lc_ge, lc_gt, Nat.sub_zero, Nat.zero_le, true_and, and_true, Nat.reduceAdd, Nat.reduceLeDiff]
          refine ⟨fun e2 => ?_, fun e2 => ?_⟩
          · rw [if_pos e2] at ih; exact ih
          · rw [if_neg e2] at ih; exact ih
    · cases hj
theorem m_cstones {c z k : Int} (hI : InvR G W hi hr) (hz : zOK n W) (hc : iRg c) (hzr : iRg z) (hk : iRg k) (H : rEnd G W W (if c = -1 ∨ inC W c then if stB W z k then 0 else 3 else 1) (if c = -1 ∨ inC W c then 2 else 1) (.int (iI 0)) (.int (iI (stP2 (zS W).1.1 (zE W).2.1 (zE W).2.2.1 c z k))) K hi hl hr) : en_Call G (d + 3) xc xs Y_X11_stones wN wN [.ref 110, .int (iI c), .int (iI z), .int (iI k)] hi hl hr K := by
  obtain ⟨I1, F1, T1⟩ := hI.t1
  obtain ⟨⟨-, r9, r10, -, r12, -, -, r15⟩, -⟩ := id I1.1
  obtain ⟨nc12, nz6⟩ := hz.c
  obtain ⟨b, b1, b2, -⟩ := I1.e
  obtain ⟨c1, c2⟩ := id hc
  obtain ⟨z1, z2⟩ := id hzr
  obtain ⟨k1, k2⟩ := id hk
  apply en_X11_stones
  simp (disch := omega) only [B_X11_stones_0, sh110, lt110, en_ops, en_opc, iI_add, iI_mul, iI_sub, jL_add, jL_mul, iI_le, iI_lt, iI_eq, iI_eq0, iI_lt0, iI_0le, iI_le0, iI_0lt, jL_iI, iI_jL, lc_eq, lc_lt, lc_le, lc_ge, lc_gt, Nat.sub_zero, Nat.zero_le, true_and, and_true, Nat.reduceAdd, Nat.reduceLeDiff]
  generalize hh1 : en_up hi 110 0 (iI 0) = h1 at *
  have e0 : h1 113 0 = iI ((zE W).2.1 : Int) := by rw [b1 0 (by omega), b2.1]
  have e1 : h1 113 1 = iI ((zE W).2.2.1 : Int) := by rw [b1 1 (by omega), b2.2.1]
  have sx : ∀ c z k, c < 12 → z < 6 → k < 3 → h1 115 (24 * c + 3 * z + k) = iI ((zS W).1.1 c z k) := I1.xr.1.1
  have body : (c = -1 ∨ inC W c) → stB W z k → en_V G Y_X11_stones (d + 3) wN wN K 63 [.ref 110, .int (iI c), .int (iI z), .int (iI k), .int (iI 0), .int (iI 0), jk, jk] [] h1 hl hr xc xs := fun t0 t1 => by
    rw [if_pos t0, if_pos t1] at H
    have Hx := H.1 rfl h1 I1 F1 T1
    unfold stP2 at Hx
    suffices L : ∀ i : Nat, i ≤ (zE W).2.1 → ∀ x6 x7, en_V G Y_X11_stones (d + 3) wN wN K 63 [.ref 110, .int (iI c), .int (iI z), .int (iI k), .int (iI (sumTo i (fun c' => if c = -1 ∨ c = c' then inP (zS W).1.1 (zE W).2.2.1 c' z k else 0))), .int (iI (i : Int)), x6, x7] [] h1 hl hr xc xs from L 0 (by omega) _ _
    refine lp (zE W).2.1 (fun x6 x7 => ?_) (fun i hi9 ih x6 x7 => ?_)
    · apply s_X11_stones_63
      simp (disch := omega) only [B_X11_stones_63, r10, sh110, lt110, sh113, lt113, en_ops, en_opc, iI_add, iI_mul, iI_sub, jL_add, jL_mul, iI_le, iI_lt, iI_eq, iI_eq0, iI_lt0, iI_0le, iI_le0, iI_0lt, jL_iI, iI_jL, lc_eq, lc_lt, lc_le, lc_ge, lc_gt, Nat.sub_zero, Nat.zero_le, true_and, and_true, Nat.reduceAdd, Nat.reduceLeDiff]
      refine ⟨0, rfl, by decide, ?_⟩
      rw [e0]
      simp (disch := omega) only [en_ops, en_opc, iI_add, iI_mul, iI_sub, jL_add, jL_mul, iI_le, iI_lt, iI_eq, iI_eq0, iI_lt0, iI_0le, iI_le0, iI_0lt, jL_iI, iI_jL, lc_eq, lc_lt, lc_le, lc_ge, lc_gt, Nat.sub_zero, Nat.zero_le, true_and, and_true, Nat.reduceAdd, Nat.reduceLeDiff]
      exact ⟨fun _ => Hx, fun e => absurd (Int.le_refl _) e⟩
    · rw [sumTo_s] at ih
      generalize hg : sumTo i (fun c' => if c = -1 ∨ c = c' then inP (zS W).1.1 (zE W).2.2.1 c' z k else 0) = S0 at *
      apply s_X11_stones_63
      simp (disch := omega) only [B_X11_stones_63, r10, sh110, lt110, sh113, lt113, en_ops, en_opc, iI_add, iI_mul, iI_sub, jL_add, jL_mul, iI_le, iI_lt, iI_eq, iI_eq0, iI_lt0, iI_0le, iI_le0, iI_0lt, jL_iI, iI_jL, lc_eq, lc_lt, lc_le, lc_ge, lc_gt, Nat.sub_zero, Nat.zero_le, true_and, and_true, Nat.reduceAdd, Nat.reduceLeDiff]
      refine ⟨0, rfl, by decide, ?_⟩
      rw [e0]
      simp (disch := omega) only [en_ops, en_opc, iI_add, iI_mul, iI_sub, jL_add, jL_mul, iI_le, iI_lt, iI_eq, iI_eq0, iI_lt0, iI_0le, iI_le0, iI_0lt, jL_iI, iI_jL, lc_eq, lc_lt, lc_le, lc_ge, lc_gt, Nat.sub_zero, Nat.zero_le, true_and, and_true, Nat.reduceAdd, Nat.reduceLeDiff]
      refine ⟨fun e => by omega, fun _ => ?_⟩
      have ec : (if c = -1 ∨ c = (i : Int) then inP (zS W).1.1 (zE W).2.2.1 i z k else 0) = sumTo (zE W).2.2.1 (fun z' => sumTo 3 (fun k' => if (c = -1 ∨ c = (i : Int)) ∧ (z = -1 ∨ z = z') ∧ (k = -1 ∨ k = k') then (zS W).1.1 i z' k' else 0)) := by
        by_cases q : c = -1 ∨ c = (i : Int)
        · rw [if_pos q]
          unfold inP
          exact sumTo_congr (fun z' _ => sumTo_congr (fun k' _ => by simp only [q, true_and]))
        · rw [if_neg q]
          exact (sumTo_zero (fun z' _ => sumTo_zero (fun k' _ => if_neg (fun g => q g.1)))).symm
      rw [ec] at ih
      suffices L2 : ∀ j : Nat, j ≤ (zE W).2.2.1 → ∀ x7, en_V G Y_X11_stones (d + 3) wN wN K 77 [.ref 110, .int (iI c), .int (iI z), .int (iI k), .int (iI (S0 + sumTo j (fun z' => sumTo 3 (fun k' => if (c = -1 ∨ c = (i : Int)) ∧ (z = -1 ∨ z = z') ∧ (k = -1 ∨ k = k') then (zS W).1.1 i z' k' else 0)))), .int (iI (i : Int)), .int (iI (j : Int)), x7] [] h1 hl hr xc xs from by
        have := L2 0 (by omega) x7
        rw [sumTo_z, Int.add_zero] at this
        exact this
      refine lp (zE W).2.2.1 (fun x7 => ?_) (fun j hj ih2 x7 => ?_)
      · apply s_X11_stones_77
        simp (disch := omega) only [B_X11_stones_77, r10, sh110, lt110, sh113, lt113, en_ops, en_opc, iI_add, iI_mul, iI_sub, jL_add, jL_mul, iI_le, iI_lt, iI_eq, iI_eq0, iI_lt0, iI_0le, iI_le0, iI_0lt, jL_iI, iI_jL, lc_eq, lc_lt, lc_le, lc_ge, lc_gt, Nat.sub_zero, Nat.zero_le, true_and, and_true, Nat.reduceAdd, Nat.reduceLeDiff]
        refine ⟨1, rfl, by decide, ?_⟩
        rw [e1]
        simp (disch := omega) only [en_ops, en_opc, iI_add, iI_mul, iI_sub, jL_add, jL_mul, iI_le, iI_lt, iI_eq, iI_eq0, iI_lt0, iI_0le, iI_le0, iI_0lt, jL_iI, iI_jL, lc_eq, lc_lt, lc_le, lc_ge, lc_gt, Nat.sub_zero, Nat.zero_le, true_and, and_true, Nat.reduceAdd, Nat.reduceLeDiff]
        exact ⟨fun _ => ih _ _, fun e => absurd (Int.le_refl _) e⟩
      · rw [sumTo_s] at ih2
        generalize hg2 : sumTo j (fun z' => sumTo 3 (fun k' => if (c = -1 ∨ c = (i : Int)) ∧ (z = -1 ∨ z = z') ∧ (k = -1 ∨ k = k') then (zS W).1.1 i z' k' else 0)) = S1 at *
        apply s_X11_stones_77
        simp (disch := omega) only [B_X11_stones_77, r10, sh110, lt110, sh113, lt113, en_ops, en_opc, iI_add, iI_mul, iI_sub, jL_add, jL_mul, iI_le, iI_lt, iI_eq, iI_eq0, iI_lt0, iI_0le, iI_le0, iI_0lt, jL_iI, iI_jL, lc_eq, lc_lt, lc_le, lc_ge, lc_gt, Nat.sub_zero, Nat.zero_le, true_and, and_true, Nat.reduceAdd, Nat.reduceLeDiff]
        refine ⟨1, rfl, by decide, ?_⟩
        rw [e1]
        simp (disch := omega) only [en_ops, en_opc, iI_add, iI_mul, iI_sub, jL_add, jL_mul, iI_le, iI_lt, iI_eq, iI_eq0, iI_lt0, iI_0le, iI_le0, iI_0lt, jL_iI, iI_jL, lc_eq, lc_lt, lc_le, lc_ge, lc_gt, Nat.sub_zero, Nat.zero_le, true_and, and_true, Nat.reduceAdd, Nat.reduceLeDiff]
        refine ⟨fun e => by omega, fun _ => ?_⟩
        suffices L3 : ∀ m : Nat, m ≤ 3 → en_V G Y_X11_stones (d + 3) wN wN K 91 [.ref 110, .int (iI c), .int (iI z), .int (iI k), .int (iI (S0 + (S1 + sumTo m (fun k' => if (c = -1 ∨ c = (i : Int)) ∧ (z = -1 ∨ z = (j : Int)) ∧ (k = -1 ∨ k = k') then (zS W).1.1 i j k' else 0)))), .int (iI (i : Int)), .int (iI (j : Int)), .int (iI (m : Int))] [] h1 hl hr xc xs from by
          have := L3 0 (by omega)
          rw [sumTo_z, Int.add_zero] at this
          exact this
        refine lp 3 ?_ (fun m hm ih3 => ?_)
        · apply s_X11_stones_91
          simp (disch := omega) only [B_X11_stones_91, en_ops, en_opc, iI_add, iI_mul, iI_sub, jL_add, jL_mul, iI_le, iI_lt, iI_eq, iI_eq0, iI_lt0, iI_0le, iI_le0, iI_0lt, jL_iI, iI_jL, lc_eq, lc_lt, lc_le, lc_ge, lc_gt, Nat.sub_zero, Nat.zero_le, true_and, and_true, Nat.reduceAdd, Nat.reduceLeDiff]
          exact ⟨fun _ => ih2 _, fun e => absurd (show (3 : Int) ≤ ((3 : Nat) : Int) by omega) e⟩
        · rw [sumTo_s] at ih3
          generalize hg3 : sumTo m (fun k' => if (c = -1 ∨ c = (i : Int)) ∧ (z = -1 ∨ z = (j : Int)) ∧ (k = -1 ∨ k = k') then (zS W).1.1 i j k' else 0) = S2 at *
          have add : ((c = -1 ∨ c = (i : Int)) ∧ (z = -1 ∨ z = (j : Int)) ∧ (k = -1 ∨ k = (m : Int))) → en_V G Y_X11_stones (d + 3) wN wN K 91 [.ref 110, .int (iI c), .int (iI z), .int (iI k), .int (iI (S0 + (S1 + S2) + (zS W).1.1 i j m)), .int (iI (i : Int)), .int (iI (j : Int)), .int (iI ((m : Int) + 1))] [] h1 hl hr xc xs := fun g => by
            rw [if_pos g, show S0 + (S1 + (S2 + (zS W).1.1 i j m)) = S0 + (S1 + S2) + (zS W).1.1 i j m by omega] at ih3
            exact ih3
          have skip : ¬ ((c = -1 ∨ c = (i : Int)) ∧ (z = -1 ∨ z = (j : Int)) ∧ (k = -1 ∨ k = (m : Int))) → en_V G Y_X11_stones (d + 3) wN wN K 91 [.ref 110, .int (iI c), .int (iI z), .int (iI k), .int (iI (S0 + (S1 + S2) + 0)), .int (iI (i : Int)), .int (iI (j : Int)), .int (iI ((m : Int) + 1))] [] h1 hl hr xc xs := fun g => by
            rw [if_neg g, show S0 + (S1 + (S2 + 0)) = S0 + (S1 + S2) + 0 by omega] at ih3
            exact ih3
          have at121 : ((c = -1 ∨ c = (i : Int)) ∧ (z = -1 ∨ z = (j : Int))) → en_V G Y_X11_stones (d + 3) wN wN K 121 [.ref 110, .int (iI c), .int (iI z), .int (iI k), .int (iI (S0 + (S1 + S2))), .int (iI (i : Int)), .int (iI (j : Int)), .int (iI (m : Int))] [.int (iI (S0 + (S1 + S2)))] h1 hl hr xc xs := fun g => by
            apply s_X11_stones_121
            simp (disch := omega) only [B_X11_stones_121, r12, sh110, lt110, sh115, lt115, en_ops, en_opc, iI_add, iI_mul, iI_sub, jL_add, jL_mul, iI_le, iI_lt, iI_eq, iI_eq0, iI_lt0, iI_0le, iI_le0, iI_0lt, jL_iI, iI_jL, lc_eq, lc_lt, lc_le, lc_ge, lc_gt, Nat.sub_zero, Nat.zero_le, true_and, and_true, Nat.reduceAdd, Nat.reduceLeDiff]
            refine ⟨fun e2 => m_stone ?_, fun e2 => ⟨fun e3 => ?_, fun e3 => m_stone ?_⟩⟩
            · simp (disch := omega) only [sh115, lt115, en_ops, en_opc, iI_add, iI_mul, iI_sub, jL_add, jL_mul, iI_le, iI_lt, iI_eq, iI_eq0, iI_lt0, iI_0le, iI_le0, iI_0lt, jL_iI, iI_jL, lc_eq, lc_lt, lc_le, lc_ge, lc_gt, Nat.sub_zero, Nat.zero_le, true_and, and_true, Nat.reduceAdd, Nat.reduceLeDiff]
              refine ⟨24 * i + 3 * j + m, iI_eq_of (by omega), by omega, ?_⟩
              rw [sx i j m (by omega) (by omega) (by omega)]
              simp (disch := omega) only [en_ops, en_opc, iI_add, iI_mul, iI_sub, jL_add, jL_mul, iI_le, iI_lt, iI_eq, iI_eq0, iI_lt0, iI_0le, iI_le0, iI_0lt, jL_iI, iI_jL, lc_eq, lc_lt, lc_le, lc_ge, lc_gt, Nat.sub_zero, Nat.zero_le, true_and, and_true, Nat.reduceAdd, Nat.reduceLeDiff]
              exact add ⟨g.1, g.2, Or.inl e2⟩
            · exact skip (fun q => by omega)
            · simp (disch := omega) only [sh115, lt115, en_ops, en_opc, iI_add, iI_mul, iI_sub, jL_add, jL_mul, iI_le, iI_lt, iI_eq, iI_eq0, iI_lt0, iI_0le, iI_le0, iI_0lt, jL_iI, iI_jL, lc_eq, lc_lt, lc_le, lc_ge, lc_gt, Nat.sub_zero, Nat.zero_le, true_and, and_true, Nat.reduceAdd, Nat.reduceLeDiff]
              refine ⟨24 * i + 3 * j + m, iI_eq_of (by omega), by omega, ?_⟩
              rw [sx i j m (by omega) (by omega) (by omega)]
              simp (disch := omega) only [en_ops, en_opc, iI_add, iI_mul, iI_sub, jL_add, jL_mul, iI_le, iI_lt, iI_eq, iI_eq0, iI_lt0, iI_0le, iI_le0, iI_0lt, jL_iI, iI_jL, lc_eq, lc_lt, lc_le, lc_ge, lc_gt, Nat.sub_zero, Nat.zero_le, true_and, and_true, Nat.reduceAdd, Nat.reduceLeDiff]
              exact add ⟨g.1, g.2, Or.inr (by omega)⟩
          apply s_X11_stones_91
          simp (disch := omega) only [B_X11_stones_91, en_ops, en_opc, iI_add, iI_mul, iI_sub, jL_add, jL_mul, iI_le, iI_lt, iI_eq, iI_eq0, iI_lt0, iI_0le, iI_le0, iI_0lt, jL_iI, iI_jL, lc_eq, lc_lt, lc_le, lc_ge, lc_gt, Nat.sub_zero, Nat.zero_le, true_and, and_true, Nat.reduceAdd, Nat.reduceLeDiff]
          exact ⟨fun e => by omega, fun _ => ⟨fun e2 => ⟨fun e3 => at121 ⟨Or.inl e2, Or.inl e3⟩, fun e3 => ⟨fun e4 => skip (fun q => by omega), fun e4 => at121 ⟨Or.inl e2, Or.inr e4⟩⟩⟩, fun e2 => ⟨fun e3 => skip (fun q => by omega), fun e3 => ⟨fun e4 => at121 ⟨Or.inr e3, Or.inl e4⟩, fun e4 => ⟨fun e5 => skip (fun q => by omega), fun e5 => at121 ⟨Or.inr e3, Or.inr e5⟩⟩⟩⟩⟩⟩
  have no : (c = -1 ∨ inC W c) → ¬ stB W z k → ∀ kk, en_Call G (d + 2) 0 0 Y_X11_may wN wN [.ref 110, .int (iI 0), .int (iI 2), .int (iI 2)] h1 hl hr (en_kk (o_ifne kk (o_iconst 0 (o_iret K))) x_no [.ref 110, .int (iI c), .int (iI z), .int (iI k), jk, jk, jk, jk] [] xc xs) := fun t0 t1 kk => by
    rw [if_pos t0, if_neg t1, if_pos t0] at H
    refine m_may (d := d + 1) (code := 2) (k := 2) I1 T1 (Or.inl rfl) (by omega) (by omega) (fun e => absurd e (by decide)) (fun _ hi' I' F' T' => ?_)
    simp (disch := omega) only [en_ops, en_opc, iI_add, iI_mul, iI_sub, jL_add, jL_mul, iI_le, iI_lt, iI_eq, iI_eq0, iI_lt0, iI_0le, iI_le0, iI_0lt, jL_iI, iI_jL, lc_eq, lc_lt, lc_le, lc_ge, lc_gt, Nat.sub_zero, Nat.zero_le, true_and, and_true, Nat.reduceAdd, Nat.reduceLeDiff]
    exact ⟨fun e => (e (by first | trivial | rfl)).elim, fun _ => H.no F1 (by omega) rfl I' F' T'⟩
  have at33 : (c = -1 ∨ inC W c) → (z = -1 ∨ inZ W z) → en_V G Y_X11_stones (d + 3) wN wN K 33 [.ref 110, .int (iI c), .int (iI z), .int (iI k), jk, jk, jk, jk] [.ref 110] h1 hl hr xc xs := fun t0 t1 => by
    apply s_X11_stones_33
    simp (disch := omega) only [B_X11_stones_33, en_ops, en_opc, iI_add, iI_mul, iI_sub, jL_add, jL_mul, iI_le, iI_lt, iI_eq, iI_eq0, iI_lt0, iI_0le, iI_le0, iI_0lt, jL_iI, iI_jL, lc_eq, lc_lt, lc_le, lc_ge, lc_gt, Nat.sub_zero, Nat.zero_le, true_and, and_true, Nat.reduceAdd, Nat.reduceLeDiff]
    refine m_within hk.1 hk.2 (by decide) (by decide) (by decide) (by decide) ?_
    by_cases t2 : -1 ≤ k ∧ k ≤ 2
    · rw [if_pos t2]
      simp (disch := omega) only [sh110, lt110, en_ops, en_opc, iI_add, iI_mul, iI_sub, jL_add, jL_mul, iI_le, iI_lt, iI_eq, iI_eq0, iI_lt0, iI_0le, iI_le0, iI_0lt, jL_iI, iI_jL, lc_eq, lc_lt, lc_le, lc_ge, lc_gt, Nat.sub_zero, Nat.zero_le, true_and, and_true, Nat.reduceAdd, Nat.reduceLeDiff]
      refine ⟨fun e => absurd e (by decide), fun _ => m_may (d := d + 1) (code := 2) (k := 2) I1 T1 (Or.inr rfl) (by omega) (by omega) (fun _ => ?_) (fun e => absurd e (by decide))⟩
      simp (disch := omega) only [en_ops, en_opc, iI_add, iI_mul, iI_sub, jL_add, jL_mul, iI_le, iI_lt, iI_eq, iI_eq0, iI_lt0, iI_0le, iI_le0, iI_0lt, jL_iI, iI_jL, lc_eq, lc_lt, lc_le, lc_ge, lc_gt, Nat.sub_zero, Nat.zero_le, true_and, and_true, Nat.reduceAdd, Nat.reduceLeDiff]
      exact ⟨fun _ => body t0 ⟨t1, by omega⟩, fun e => absurd e (by decide)⟩
    · rw [if_neg t2]
      simp (disch := omega) only [sh110, lt110, en_ops, en_opc, iI_add, iI_mul, iI_sub, jL_add, jL_mul, iI_le, iI_lt, iI_eq, iI_eq0, iI_lt0, iI_0le, iI_le0, iI_0lt, jL_iI, iI_jL, lc_eq, lc_lt, lc_le, lc_ge, lc_gt, Nat.sub_zero, Nat.zero_le, true_and, and_true, Nat.reduceAdd, Nat.reduceLeDiff]
      exact ⟨fun _ => no t0 (fun g => by have := g.2; omega) _, fun e => (e (by first | trivial | rfl)).elim⟩
  have at19 : (c = -1 ∨ inC W c) → en_V G Y_X11_stones (d + 3) wN wN K 19 [.ref 110, .int (iI c), .int (iI z), .int (iI k), jk, jk, jk, jk] [] h1 hl hr xc xs := fun t0 => by
    apply s_X11_stones_19
    simp (disch := omega) only [B_X11_stones_19, sh110, lt110, en_ops, en_opc, iI_add, iI_mul, iI_sub, jL_add, jL_mul, iI_le, iI_lt, iI_eq, iI_eq0, iI_lt0, iI_0le, iI_le0, iI_0lt, jL_iI, iI_jL, lc_eq, lc_lt, lc_le, lc_ge, lc_gt, Nat.sub_zero, Nat.zero_le, true_and, and_true, Nat.reduceAdd, Nat.reduceLeDiff]
    refine ⟨fun e => at33 t0 (Or.inl e), fun e => m_isSize (d := d) I1 hzr ?_⟩
    by_cases t1 : inZ W z
    · rw [if_pos t1]
      simp (disch := omega) only [en_ops, en_opc, iI_add, iI_mul, iI_sub, jL_add, jL_mul, iI_le, iI_lt, iI_eq, iI_eq0, iI_lt0, iI_0le, iI_le0, iI_0lt, jL_iI, iI_jL, lc_eq, lc_lt, lc_le, lc_ge, lc_gt, Nat.sub_zero, Nat.zero_le, true_and, and_true, Nat.reduceAdd, Nat.reduceLeDiff]
      exact ⟨fun e => absurd e (by decide), fun _ => at33 t0 (Or.inr t1)⟩
    · rw [if_neg t1]
      simp (disch := omega) only [sh110, lt110, en_ops, en_opc, iI_add, iI_mul, iI_sub, jL_add, jL_mul, iI_le, iI_lt, iI_eq, iI_eq0, iI_lt0, iI_0le, iI_le0, iI_0lt, jL_iI, iI_jL, lc_eq, lc_lt, lc_le, lc_ge, lc_gt, Nat.sub_zero, Nat.zero_le, true_and, and_true, Nat.reduceAdd, Nat.reduceLeDiff]
      exact ⟨fun _ => no t0 (fun g => by rcases g.1 with q | q; exact e q; exact t1 q) _, fun e => (e (by first | trivial | rfl)).elim⟩
  refine ⟨fun e => at19 (Or.inl e), fun e => m_isCell (d := d) (code := 1) I1 hz T1 hc (by omega) (fun t1 => ?_) (fun t1 hi' I' F' T' => ?_)⟩
  · simp (disch := omega) only [en_ops, en_opc, iI_add, iI_mul, iI_sub, jL_add, jL_mul, iI_le, iI_lt, iI_eq, iI_eq0, iI_lt0, iI_0le, iI_le0, iI_0lt, jL_iI, iI_jL, lc_eq, lc_lt, lc_le, lc_ge, lc_gt, Nat.sub_zero, Nat.zero_le, true_and, and_true, Nat.reduceAdd, Nat.reduceLeDiff]
    exact ⟨fun e => absurd e (by decide), fun _ => at19 (Or.inr t1)⟩
  · have t9 : ¬ (c = -1 ∨ inC W c) := fun g => by rcases g with q | q; exact e q; exact t1 q
    rw [if_neg t9, if_neg t9] at H
    simp (disch := omega) only [en_ops, en_opc, iI_add, iI_mul, iI_sub, jL_add, jL_mul, iI_le, iI_lt, iI_eq, iI_eq0, iI_lt0, iI_0le, iI_le0, iI_0lt, jL_iI, iI_jL, lc_eq, lc_lt, lc_le, lc_ge, lc_gt, Nat.sub_zero, Nat.zero_le, true_and, and_true, Nat.reduceAdd, Nat.reduceLeDiff]
    exact ⟨fun _ => H.no F1 (by omega) rfl I' F' T', fun e => (e (by first | trivial | rfl)).elim⟩
end
