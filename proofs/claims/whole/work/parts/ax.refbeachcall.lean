/-! the reference's beach, whole -/
def bi0 (j : Nat) : Int := if 641 ≤ j ∧ j < 833 then -1 else if 576 ≤ j ∧ j < 600 then 20 else 0
theorem tot_flat24 {f : Nat → Nat → Nat → Int} (hz : ∀ c z k, 12 ≤ c ∨ 6 ≤ z → f c z k = 0) : sumTo 576 (fun j => f (j / 24) (j / 3 % 8) (j % 3)) = tot f := by
  show sumTo (24 * 24) (fun j => f (j / 24) (j / 3 % 8) (j % 3)) = sumTo 12 (wP f 6)
  rw [sumTo_blk]
  have inner : ∀ c, sumTo 24 (fun j => f ((24 * c + j) / 24) ((24 * c + j) / 3 % 8) ((24 * c + j) % 3)) = wP f 6 c := fun c => by
    show sumTo (8 * 3) (fun j => f ((24 * c + j) / 24) ((24 * c + j) / 3 % 8) ((24 * c + j) % 3)) = sumTo 6 (aP f c)
    rw [sumTo_blk]
    have e : ∀ z, z < 8 → sumTo 3 (fun k => f ((24 * c + (3 * z + k)) / 24) ((24 * c + (3 * z + k)) / 3 % 8) ((24 * c + (3 * z + k)) % 3)) = aP f c z := fun z hz9 => sumTo_congr (fun k hk => by
      show f ((24 * c + (3 * z + k)) / 24) ((24 * c + (3 * z + k)) / 3 % 8) ((24 * c + (3 * z + k)) % 3) = f c z k
      rw [show (24 * c + (3 * z + k)) / 24 = c by omega, show (24 * c + (3 * z + k)) / 3 % 8 = z by omega, show (24 * c + (3 * z + k)) % 3 = k by omega])
    rw [sumTo_congr (g := aP f c) e]
    exact sumTo_part (by decide) (fun z h1 h2 => sumTo_zero (fun k _ => hz c z k (Or.inr h1)))
  rw [sumTo_congr (g := wP f 6) (fun c _ => inner c)]
  exact sumTo_part (by decide) (fun c h1 h2 => sumTo_zero (fun z _ => sumTo_zero (fun k _ => hz c z k (Or.inl h1))))
section
variable {G : en_G} {d : Nat} {K : en_K} {W : zW} {n : Nat} {B : bSt} {hi : en_I} {hl : en_L} {hr : en_F} {xc xs : Nat}
theorem v_q40 {n9 : Int32} {x3 x4 x5 x6 : Value} (hR : rfR hr) (H : ∀ h', Fx (fun a _ => a = 114 ∨ a = 116) hi h' → bqH b0S h' → ∀ y5 y6, en_V G Y_X11_beach (d + 8) wN wN K 140 [.ref 110, .int n9, .int (iI 0), .int (iI 0), .int (iI 0), y5, y6] [] h' hl hr xc xs) : en_V G Y_X11_beach (d + 8) wN wN K 40 [.ref 110, .int n9, .int (iI 0), x3, x4, x5, x6] [] hi hl hr xc xs := by
  have r11 := hR.1.2.2.2.1
  have r13 := hR.1.2.2.2.2.2.1
  have L61 : ∀ i : Nat, i ≤ 834 → ∀ h9 : en_I, Fx (fun a _ => a = 114 ∨ a = 116) hi h9 → (∀ j, j < 76 → h9 114 j = iI 0) → (∀ j, j < i → h9 116 j = iI (bi0 j)) → en_V G Y_X11_beach (d + 8) wN wN K 61 [.ref 110, .int n9, .int (iI (i : Int)), x3, x4, x5, x6] [] h9 hl hr xc xs := by
    refine lp 834 (fun h9 F9 A9 B9 => ?_) (fun i hi9 ih h9 F9 A9 B9 => ?_)
    · apply s_X11_beach_61
      simp (disch := omega) only [B_X11_beach_61, sh110, lt110, r11, sh114, lt114, en_ops, en_opc, iI_add, iI_mul, iI_sub, jL_add, jL_mul, iI_le, iI_lt, iI_eq, iI_eq0, iI_lt0, iI_0le, iI_le0, iI_0lt, jL_iI, iI_jL, lc_eq, lc_lt, lc_le, lc_ge, lc_gt, Nat.sub_zero, Nat.zero_le, true_and, and_true, Nat.reduceAdd, Nat.reduceLeDiff]
      refine ⟨fun _ => ?_, fun g => absurd (show (834 : Int) ≤ ((834 : Nat) : Int) by decide) g⟩
      refine ⟨0, rfl, by decide, 1, rfl, by decide, ?_⟩
      have U : Fx (fun a j => a = 114 ∧ j < 2) h9 (en_up (en_up h9 114 0 (iI 6)) 114 1 (iI 4)) := Fx.up (Fx.up Fx.rf ⟨rfl, by decide⟩) ⟨rfl, by decide⟩
      refine H _ (F9.tr (U.mono (fun a j g => Or.inl g.1))) ⟨by rw [up_ne (Or.inr (by decide)), up_at]; rfl, up_at, fun j hj => ?_, fun c hc => ?_, fun c hc => ?_, ⟨?_, fun j hj => absurd hj (Nat.not_lt_zero _)⟩, ⟨?_, fun j hj => absurd hj (Nat.not_lt_zero _)⟩, fun j j1 j2 => ?_⟩ _ _
      · rw [U 116 j (by omega), B9 j (by omega)]
        unfold bi0
        rw [if_neg (by omega), if_neg (by omega)]
        rfl
      · rw [U 116 _ (by omega), B9 _ (by omega)]
        unfold bi0
        rw [if_neg (by omega), if_pos (by omega)]
        rfl
      · rw [U 114 _ (by omega), A9 _ (by omega)]; rfl
      · rw [U 114 2 (by decide), A9 2 (by decide)]; rfl
      · rw [U 114 3 (by decide), A9 3 (by decide)]; rfl
      · rw [U 116 j (by omega), B9 j j2]
        unfold bi0
        by_cases g : 641 ≤ j ∧ j < 833
        · rw [if_pos g, if_pos g]
        · rw [if_neg g, if_neg g, if_neg (by omega)]
    · have nx : ∀ v : Int, bi0 i = v → en_V G Y_X11_beach (d + 8) wN wN K 61 [.ref 110, .int n9, .int (iI ((i : Int) + 1)), x3, x4, x5, x6] [] (en_up h9 116 i (iI v)) hl hr xc xs := fun v hv => by
        have U : Fx (fun a j => a = 116 ∧ j = i) h9 (en_up h9 116 i (iI v)) := Fx.up Fx.rf ⟨rfl, rfl⟩
        refine ih _ (F9.tr (U.mono (fun a j g => Or.inr g.1))) (fun j hj => by rw [U 114 j (by omega)]; exact A9 j hj) (fun j hj => ?_)
        by_cases e : j = i
        · rw [e, up_at, hv]
        · rw [up_ne (Or.inr e)]; exact B9 j (by omega)
      have nx91 : ¬ (641 ≤ i ∧ i < 833) → en_V G Y_X11_beach (d + 8) wN wN K 91 [.ref 110, .int n9, .int (iI (i : Int)), x3, x4, x5, x6] [.int (iI (i : Int)), .ref 116] h9 hl hr xc xs := fun g => by
        apply s_X11_beach_91
        simp (disch := omega) only [B_X11_beach_91, sh116, lt116, en_ops, en_opc, iI_add, iI_mul, iI_sub, jL_add, jL_mul, iI_le, iI_lt, iI_eq, iI_eq0, iI_lt0, iI_0le, iI_le0, iI_0lt, jL_iI, iI_jL, lc_eq, lc_lt, lc_le, lc_ge, lc_gt, Nat.sub_zero, Nat.zero_le, true_and, and_true, Nat.reduceAdd, Nat.reduceLeDiff]
        refine ⟨fun g1 => ⟨i, rfl, by omega, nx 0 ?_⟩, fun g1 => ⟨fun g2 => ⟨i, rfl, by omega, nx 0 ?_⟩, fun g2 => ⟨i, rfl, by omega, nx 20 ?_⟩⟩⟩
        · unfold bi0; rw [if_neg g, if_neg (by omega)]
        · unfold bi0; rw [if_neg g, if_neg (by omega)]
        · unfold bi0; rw [if_neg g, if_pos (by omega)]
      apply s_X11_beach_61
      simp (disch := omega) only [B_X11_beach_61, sh110, lt110, r13, sh116, lt116, en_ops, en_opc, iI_add, iI_mul, iI_sub, jL_add, jL_mul, iI_le, iI_lt, iI_eq, iI_eq0, iI_lt0, iI_0le, iI_le0, iI_0lt, jL_iI, iI_jL, lc_eq, lc_lt, lc_le, lc_ge, lc_gt, Nat.sub_zero, Nat.zero_le, true_and, and_true, Nat.reduceAdd, Nat.reduceLeDiff]
      refine ⟨fun g => absurd g (by omega), fun _ => ⟨fun g1 => nx91 (by omega), fun g1 => ⟨fun g2 => nx91 (by omega), fun g2 => ⟨i, rfl, by omega, nx (-1) ?_⟩⟩⟩⟩
      unfold bi0
      rw [if_pos ⟨by omega, by omega⟩]
  have L40 : ∀ i : Nat, i ≤ 76 → ∀ h9 : en_I, Fx (fun a _ => a = 114 ∨ a = 116) hi h9 → (∀ j, j < i → h9 114 j = iI 0) → en_V G Y_X11_beach (d + 8) wN wN K 40 [.ref 110, .int n9, .int (iI (i : Int)), x3, x4, x5, x6] [] h9 hl hr xc xs := by
    refine lp 76 (fun h9 F9 A9 => ?_) (fun i hi9 ih h9 F9 A9 => ?_)
    · apply s_X11_beach_40
      simp (disch := omega) only [B_X11_beach_40, en_ops, en_opc, iI_add, iI_mul, iI_sub, jL_add, jL_mul, iI_le, iI_lt, iI_eq, iI_eq0, iI_lt0, iI_0le, iI_le0, iI_0lt, jL_iI, iI_jL, lc_eq, lc_lt, lc_le, lc_ge, lc_gt, Nat.sub_zero, Nat.zero_le, true_and, and_true, Nat.reduceAdd, Nat.reduceLeDiff]
      refine ⟨fun _ => ?_, fun g => absurd (show (76 : Int) ≤ ((76 : Nat) : Int) by decide) g⟩
      exact L61 0 (by decide) h9 F9 A9 (fun j hj => absurd hj (Nat.not_lt_zero _))
    · apply s_X11_beach_40
      simp (disch := omega) only [B_X11_beach_40, sh110, lt110, r11, sh114, lt114, en_ops, en_opc, iI_add, iI_mul, iI_sub, jL_add, jL_mul, iI_le, iI_lt, iI_eq, iI_eq0, iI_lt0, iI_0le, iI_le0, iI_0lt, jL_iI, iI_jL, lc_eq, lc_lt, lc_le, lc_ge, lc_gt, Nat.sub_zero, Nat.zero_le, true_and, and_true, Nat.reduceAdd, Nat.reduceLeDiff]
      refine ⟨fun g => absurd g (by omega), fun _ => ⟨i, rfl, by omega, ?_⟩⟩
      have U : Fx (fun a j => a = 114 ∧ j = i) h9 (en_up h9 114 i (iI 0)) := Fx.up Fx.rf ⟨rfl, rfl⟩
      refine ih _ (F9.tr (U.mono (fun a j g => Or.inl g.1))) (fun j hj => ?_)
      by_cases e : j = i
      · rw [e, up_at]
      · rw [up_ne (Or.inr e)]; exact A9 j (by omega)
  exact L40 0 (by decide) hi Fx.rf (fun j hj => absurd hj (Nat.not_lt_zero _))
/-- the plan and the state put in force -/
theorem v_q408 {n9 : Int32} {x2 x3 x6 : Value} {x4 : Int32} (hR : rfR hr) (hP : bqH B hi) (hB : bOK 60 B) (H : ∀ h', Fx (fun a _ => a = 113 ∨ a = 115) hi h' → (∀ j, j < 76 → h' 113 j = hi 114 j) → xrH (bShr B) (h' 115) → ∀ x5, en_Call G (d + 7) 0 0 Y_X11_result wN wN [.ref 110, .int (iI (bC B : Int))] (en_up h' 110 16 (iI 0)) hl hr (en_kk (o_iret K) x_no [.ref 110, .int n9, x2, x3, .int x4, x5, x6] [] xc xs)) : en_V G Y_X11_beach (d + 8) wN wN K 408 [.ref 110, .int n9, x2, x3, .int x4, .int (iI 0), x6] [] hi hl hr xc xs := by
  have r10 := hR.1.2.2.1
  have r11 := hR.1.2.2.2.1
  have r12 := hR.1.2.2.2.2.1
  have r13 := hR.1.2.2.2.2.2.1
  obtain ⟨m1, m2, m3, m4, m5, m6, m7, m8⟩ := id hP
  have fz : ∀ c z k, 12 ≤ c ∨ 6 ≤ z → bF B c z k = 0 := fun c z k g => hB.2.2.2.2.2.2.1.2.1 c z k (by have := hB.1; have := hB.2.1; omega)
  have L469 : ∀ i : Nat, i ≤ 576 → ∀ h9 : en_I, Fx (fun a _ => a = 113 ∨ a = 115) hi h9 → (∀ j, j < 76 → h9 113 j = hi 114 j) → (∀ j, j < 834 → j ≠ 625 → j ≠ 833 → h9 115 j = hi 116 j) → h9 115 625 = iI (sumTo i (fun j => bF B (j / 24) (j / 3 % 8) (j % 3))) → h9 115 833 = iI (sumTo i (fun j => if j % 3 = 2 then bF B (j / 24) (j / 3 % 8) (j % 3) else 0)) → en_V G Y_X11_beach (d + 8) wN wN K 469 [.ref 110, .int n9, x2, x3, .int x4, .int (iI (i : Int)), x6] [] h9 hl hr xc xs := by
    refine lp 576 (fun h9 F9 A9 B9 S9 P9 => ?_) (fun i hi9 ih h9 F9 A9 B9 S9 P9 => ?_)
    · apply s_X11_beach_469
      simp (disch := omega) only [B_X11_beach_469, sh110, lt110, r10, sh113, lt113, en_ops, en_opc, iI_add, iI_mul, iI_sub, jL_add, jL_mul, iI_le, iI_lt, iI_eq, iI_eq0, iI_lt0, iI_0le, iI_le0, iI_0lt, jL_iI, iI_jL, lc_eq, lc_lt, lc_le, lc_ge, lc_gt, Nat.sub_zero, Nat.zero_le, true_and, and_true, Nat.reduceAdd, Nat.reduceLeDiff]
      refine ⟨fun _ => ?_, fun g => absurd (show (576 : Int) ≤ ((576 : Nat) : Int) by decide) g⟩
      refine ⟨0, rfl, by decide, ?_⟩
      have e0 : en_up h9 110 16 (iI 0) 113 0 = iI (bC B : Int) := by rw [up_ne (Or.inl (by decide)), A9 0 (by decide)]; exact m1
      rw [e0]
      refine H h9 F9 A9 ⟨⟨fun c z k hc hz hk => ?_, fun c hc => ?_, fun c hc => ?_, fun i hi9 => ?_, ?_, ?_, fun j hj g => ?_⟩, ?_, fun i hi9 => absurd hi9 (Nat.not_lt_zero _), fun c z hc hz => ?_⟩ _
      · show h9 115 (24 * c + 3 * z + k) = _
        rw [B9 _ (by omega) (by omega) (by omega), m3 _ (by omega), show (24 * c + 3 * z + k) / 24 = c by omega, show (24 * c + 3 * z + k) / 3 % 8 = z by omega, show (24 * c + 3 * z + k) % 3 = k by omega]
        rfl
      · show h9 115 (576 + c) = _
        rw [B9 _ (by omega) (by omega) (by omega)]; exact m4 c hc
      · show h9 115 (600 + c) = _
        rw [B9 _ (by omega) (by omega) (by omega), m8 _ (by omega) (by omega), if_neg (by omega)]; rfl
      · show h9 115 (625 + i) = iI (if i = 0 then tot (bF B) else 0)
        by_cases g : i = 0
        · rw [if_pos g, g]
          show h9 115 625 = _
          rw [S9, tot_flat24 fz]
        · rw [if_neg g, B9 _ (by omega) (by omega) (by omega), m8 _ (by omega) (by omega), if_neg (by omega)]
      · show h9 115 833 = iI (bPn (bF B))
        rw [P9]
        exact congrArg iI (tot_flat24 (f := fun c z k => if k = 2 then bF B c z k else 0) (fun c z k g => by
          show (if k = 2 then bF B c z k else 0) = 0
          rw [fz c z k g]
          split <;> rfl))
      · show h9 115 624 = _
        rw [B9 624 (by omega) (by omega) (by omega), m8 624 (by omega) (by omega), if_neg (by omega)]; rfl
      · show h9 115 j = _
        rw [B9 j (by omega) (by omega) (by omega), m3 j hj, fz _ _ _ g]
      · rw [B9 630 (by omega) (by omega) (by omega), m8 630 (by omega) (by omega), if_neg (by omega)]; rfl
      · rw [B9 _ (by omega) (by omega) (by omega), m8 _ (by omega) (by omega), if_pos (by omega)]; rfl
    · have vi : h9 115 i = iI (bF B (i / 24) (i / 3 % 8) (i % 3)) := by rw [B9 i (by omega) (by omega) (by omega)]; exact m3 i hi9
      apply s_X11_beach_469
      simp (disch := omega) only [B_X11_beach_469, sh110, lt110, r12, sh115, lt115, en_ops, en_opc, iI_add, iI_mul, iI_sub, jL_add, jL_mul, iI_le, iI_lt, iI_eq, iI_eq0, iI_lt0, iI_0le, iI_le0, iI_0lt, jL_iI, iI_jL, lc_eq, lc_lt, lc_le, lc_ge, lc_gt, Nat.sub_zero, Nat.zero_le, true_and, and_true, Nat.reduceAdd, Nat.reduceLeDiff]
      refine ⟨fun g => absurd g (by omega), fun _ => ⟨625, rfl, by decide, i, rfl, by omega, 625, rfl, by decide, 833, rfl, by decide, ?_⟩⟩
      rw [S9, vi]
      simp (disch := omega) only [en_ops, en_opc, iI_add, iI_mul, iI_sub, jL_add, jL_mul, iI_le, iI_lt, iI_eq, iI_eq0, iI_lt0, iI_0le, iI_le0, iI_0lt, jL_iI, iI_jL, lc_eq, lc_lt, lc_le, lc_ge, lc_gt, Nat.sub_zero, Nat.zero_le, true_and, and_true, Nat.reduceAdd, Nat.reduceLeDiff]
      have U : Fx (fun a j => a = 115 ∧ j = 625) h9 (en_up h9 115 625 (iI (sumTo i (fun j => bF B (j / 24) (j / 3 % 8) (j % 3)) + bF B (i / 24) (i / 3 % 8) (i % 3)))) := Fx.up Fx.rf ⟨rfl, rfl⟩
      have v625 : en_up h9 115 625 (iI (sumTo i (fun j => bF B (j / 24) (j / 3 % 8) (j % 3)) + bF B (i / 24) (i / 3 % 8) (i % 3))) 115 625 = iI (sumTo (i + 1) (fun j => bF B (j / 24) (j / 3 % 8) (j % 3))) := by rw [up_at, sumTo_s]
      generalize en_up h9 115 625 (iI (sumTo i (fun j => bF B (j / 24) (j / 3 % 8) (j % 3)) + bF B (i / 24) (i / 3 % 8) (i % 3))) = h10 at U v625 ⊢
      have v833 : h10 115 833 = iI (sumTo i (fun j => if j % 3 = 2 then bF B (j / 24) (j / 3 % 8) (j % 3) else 0)) := by rw [U 115 833 (by decide)]; exact P9
      have vi2 : h10 115 i = iI (bF B (i / 24) (i / 3 % 8) (i % 3)) := by rw [U 115 i (by omega)]; exact vi
      have nx : ∀ v : Int, (if i % 3 = 2 then bF B (i / 24) (i / 3 % 8) (i % 3) else 0) = v → en_V G Y_X11_beach (d + 8) wN wN K 469 [.ref 110, .int n9, x2, x3, .int x4, .int (iI ((i : Int) + 1)), x6] [] (en_up h10 115 833 (iI (sumTo i (fun j => if j % 3 = 2 then bF B (j / 24) (j / 3 % 8) (j % 3) else 0) + v))) hl hr xc xs := fun v hv => by
        have U2 : Fx (fun a j => a = 115 ∧ j = 833) h10 (en_up h10 115 833 (iI (sumTo i (fun j => if j % 3 = 2 then bF B (j / 24) (j / 3 % 8) (j % 3) else 0) + v))) := Fx.up Fx.rf ⟨rfl, rfl⟩
        refine ih _ ((F9.tr (U.mono (fun a j g => Or.inr g.1))).tr (U2.mono (fun a j g => Or.inr g.1))) (fun j hj => by rw [U2 113 j (by omega), U 113 j (by omega)]; exact A9 j hj) (fun j hj g1 g2 => by rw [U2 115 j (by omega), U 115 j (by omega)]; exact B9 j hj g1 g2) (by rw [U2 115 625 (by decide)]; exact v625) (by rw [up_at, sumTo_s, hv])
      refine ⟨by decide, ?_⟩
      rw [v833, iI_div (by omega) (by omega) (by decide) (by decide)]
      simp (disch := omega) only [en_ops, en_opc, iI_add, iI_mul, iI_sub, jL_add, jL_mul, iI_le, iI_lt, iI_eq, iI_eq0, iI_lt0, iI_0le, iI_le0, iI_0lt, jL_iI, iI_jL, lc_eq, lc_lt, lc_le, lc_ge, lc_gt, Nat.sub_zero, Nat.zero_le, true_and, and_true, Nat.reduceAdd, Nat.reduceLeDiff]
      refine ⟨fun g => ?_, fun g => ?_⟩
      · refine ⟨833, rfl, by decide, ?_⟩
        exact nx 0 (if_neg (by omega))
      · refine ⟨i, rfl, by omega, 833, rfl, by decide, ?_⟩
        rw [vi2]
        simp (disch := omega) only [en_ops, en_opc, iI_add, iI_mul, iI_sub, jL_add, jL_mul, iI_le, iI_lt, iI_eq, iI_eq0, iI_lt0, iI_0le, iI_le0, iI_0lt, jL_iI, iI_jL, lc_eq, lc_lt, lc_le, lc_ge, lc_gt, Nat.sub_zero, Nat.zero_le, true_and, and_true, Nat.reduceAdd, Nat.reduceLeDiff]
        exact nx _ (if_pos (by omega))
  have L438 : ∀ i : Nat, i ≤ 834 → ∀ h9 : en_I, Fx (fun a _ => a = 113 ∨ a = 115) hi h9 → (∀ j, j < 76 → h9 113 j = hi 114 j) → (∀ j, j < i → h9 115 j = hi 116 j) → en_V G Y_X11_beach (d + 8) wN wN K 438 [.ref 110, .int n9, x2, x3, .int x4, .int (iI (i : Int)), x6] [] h9 hl hr xc xs := by
    refine lp 834 (fun h9 F9 A9 B9 => ?_) (fun i hi9 ih h9 F9 A9 B9 => ?_)
    · apply s_X11_beach_438
      simp (disch := omega) only [B_X11_beach_438, en_ops, en_opc, iI_add, iI_mul, iI_sub, jL_add, jL_mul, iI_le, iI_lt, iI_eq, iI_eq0, iI_lt0, iI_0le, iI_le0, iI_0lt, jL_iI, iI_jL, lc_eq, lc_lt, lc_le, lc_ge, lc_gt, Nat.sub_zero, Nat.zero_le, true_and, and_true, Nat.reduceAdd, Nat.reduceLeDiff]
      refine ⟨fun _ => ?_, fun g => absurd (show (834 : Int) ≤ ((834 : Nat) : Int) by decide) g⟩
      refine L469 0 (by decide) h9 F9 A9 (fun j hj _ _ => B9 j hj) ?_ ?_
      · rw [B9 625 (by decide), m8 625 (by decide) (by decide), if_neg (by decide)]; rfl
      · rw [B9 833 (by decide), m8 833 (by decide) (by decide), if_neg (by decide)]; rfl
    · apply s_X11_beach_438
      simp (disch := omega) only [B_X11_beach_438, sh110, lt110, r12, r13, sh115, lt115, sh116, lt116, en_ops, en_opc, iI_add, iI_mul, iI_sub, jL_add, jL_mul, iI_le, iI_lt, iI_eq, iI_eq0, iI_lt0, iI_0le, iI_le0, iI_0lt, jL_iI, iI_jL, lc_eq, lc_lt, lc_le, lc_ge, lc_gt, Nat.sub_zero, Nat.zero_le, true_and, and_true, Nat.reduceAdd, Nat.reduceLeDiff]
      refine ⟨fun g => absurd g (by omega), fun _ => ⟨i, rfl, by omega, i, rfl, by omega, ?_⟩⟩
      have U : Fx (fun a j => a = 115 ∧ j = i) h9 (en_up h9 115 i (h9 116 i)) := Fx.up Fx.rf ⟨rfl, rfl⟩
      refine ih _ (F9.tr (U.mono (fun a j g => Or.inr g.1))) (fun j hj => by rw [U 113 j (by omega)]; exact A9 j hj) (fun j hj => ?_)
      by_cases e : j = i
      · rw [e, up_at, F9 116 i (by omega)]
      · rw [up_ne (Or.inr e)]; exact B9 j (by omega)
  have L408 : ∀ i : Nat, i ≤ 76 → ∀ h9 : en_I, Fx (fun a _ => a = 113 ∨ a = 115) hi h9 → (∀ j, j < i → h9 113 j = hi 114 j) → en_V G Y_X11_beach (d + 8) wN wN K 408 [.ref 110, .int n9, x2, x3, .int x4, .int (iI (i : Int)), x6] [] h9 hl hr xc xs := by
    refine lp 76 (fun h9 F9 A9 => ?_) (fun i hi9 ih h9 F9 A9 => ?_)
    · apply s_X11_beach_408
      simp (disch := omega) only [B_X11_beach_408, en_ops, en_opc, iI_add, iI_mul, iI_sub, jL_add, jL_mul, iI_le, iI_lt, iI_eq, iI_eq0, iI_lt0, iI_0le, iI_le0, iI_0lt, jL_iI, iI_jL, lc_eq, lc_lt, lc_le, lc_ge, lc_gt, Nat.sub_zero, Nat.zero_le, true_and, and_true, Nat.reduceAdd, Nat.reduceLeDiff]
      refine ⟨fun _ => ?_, fun g => absurd (show (76 : Int) ≤ ((76 : Nat) : Int) by decide) g⟩
      exact L438 0 (by decide) h9 F9 A9 (fun j hj => absurd hj (Nat.not_lt_zero _))
    · apply s_X11_beach_408
      simp (disch := omega) only [B_X11_beach_408, sh110, lt110, r10, r11, sh113, lt113, sh114, lt114, en_ops, en_opc, iI_add, iI_mul, iI_sub, jL_add, jL_mul, iI_le, iI_lt, iI_eq, iI_eq0, iI_lt0, iI_0le, iI_le0, iI_0lt, jL_iI, iI_jL, lc_eq, lc_lt, lc_le, lc_ge, lc_gt, Nat.sub_zero, Nat.zero_le, true_and, and_true, Nat.reduceAdd, Nat.reduceLeDiff]
      refine ⟨fun g => absurd g (by omega), fun _ => ⟨i, rfl, by omega, i, rfl, by omega, ?_⟩⟩
      have U : Fx (fun a j => a = 113 ∧ j = i) h9 (en_up h9 113 i (h9 114 i)) := Fx.up Fx.rf ⟨rfl, rfl⟩
      refine ih _ (F9.tr (U.mono (fun a j g => Or.inl g.1))) (fun j hj => ?_)
      by_cases e : j = i
      · rw [e, up_at, F9 114 i (by omega)]
      · rw [up_ne (Or.inr e)]; exact A9 j (by omega)
  exact L408 0 (by decide) hi Fx.rf (fun j hj => absurd hj (Nat.not_lt_zero _))
theorem m_cbeach {m : Int} (hI : InvR G W hi hr) (hz : zOK n W) (hm : iRg m) (H : rEnd G W (beachW W m.toNat) (if 0 ≤ m ∧ m ≤ zNt W then 0 else 3) 1 (.int (iI 0)) (.int (iI (beachA W m.toNat))) K hi hl hr) : en_Call G (d + 8) xc xs Y_X11_beach wN wN [.ref 110, .int (iI m)] hi hl hr K := by
  obtain ⟨I1, F1, T1⟩ := hI.t1
  obtain ⟨z1, z2, z3, -⟩ := id hz
  obtain ⟨hm1, hm2⟩ := hm
  have hR := hI.1
  apply en_X11_beach
  simp (disch := omega) only [B_X11_beach_0, sh110, lt110, en_ops, en_opc, iI_add, iI_mul, iI_sub, jL_add, jL_mul, iI_le, iI_lt, iI_eq, iI_eq0, iI_lt0, iI_0le, iI_le0, iI_0lt, jL_iI, iI_jL, lc_eq, lc_lt, lc_le, lc_ge, lc_gt, Nat.sub_zero, Nat.zero_le, true_and, and_true, Nat.reduceAdd, Nat.reduceLeDiff]
  generalize en_up hi 110 0 (iI 0) = h1 at *
  obtain ⟨⟨t1, t2⟩, t3, t4, t5, -⟩ := id I1.2
  rw [t1]
  have no : ¬ (0 ≤ m ∧ m ≤ zNt W) → ∀ hi', InvR G (zRef W 2) hi' hr → Fm h1 hi' → hi' 110 0 = iI ((1 : Nat) : Int) → K (.inl (some (.int (iI 0)))) hi' hl hr := fun e hi' I' F' T' => by
    rw [if_neg e] at H
    exact H.no F1 (by omega) rfl I' F' T'
  simp (disch := omega) only [en_ops, en_opc, iI_add, iI_mul, iI_sub, jL_add, jL_mul, iI_le, iI_lt, iI_eq, iI_eq0, iI_lt0, iI_0le, iI_le0, iI_0lt, jL_iI, iI_jL, lc_eq, lc_lt, lc_le, lc_ge, lc_gt, Nat.sub_zero, Nat.zero_le, true_and, and_true, Nat.reduceAdd, Nat.reduceLeDiff]
  refine ⟨fun g => ?_, fun g => ⟨fun g2 => ?_, fun g2 => ?_⟩⟩
  · refine m_may (d := d + 6) (code := 1) (k := 2) I1 T1 (Or.inl rfl) (by omega) (by omega) (fun e => absurd e (by decide)) (fun _ hi' I' F' T' => ?_)
    simp (disch := omega) only [en_ops, en_opc, iI_add, iI_mul, iI_sub, jL_add, jL_mul, iI_le, iI_lt, iI_eq, iI_eq0, iI_lt0, iI_0le, iI_le0, iI_0lt, jL_iI, iI_jL, lc_eq, lc_lt, lc_le, lc_ge, lc_gt, Nat.sub_zero, Nat.zero_le, true_and, and_true, Nat.reduceAdd, Nat.reduceLeDiff]
    exact ⟨fun e => (e (by first | trivial | rfl)).elim, fun _ => no (by omega) hi' I' F' T'⟩
  · refine m_may (d := d + 6) (code := 1) (k := 2) I1 T1 (Or.inl rfl) (by omega) (by omega) (fun e => absurd e (by decide)) (fun _ hi' I' F' T' => ?_)
    simp (disch := omega) only [en_ops, en_opc, iI_add, iI_mul, iI_sub, jL_add, jL_mul, iI_le, iI_lt, iI_eq, iI_eq0, iI_lt0, iI_0le, iI_le0, iI_0lt, jL_iI, iI_jL, lc_eq, lc_lt, lc_le, lc_ge, lc_gt, Nat.sub_zero, Nat.zero_le, true_and, and_true, Nat.reduceAdd, Nat.reduceLeDiff]
    exact ⟨fun e => (e (by first | trivial | rfl)).elim, fun _ => no (by omega) hi' I' F' T'⟩
  have hok : 0 ≤ m ∧ m ≤ zNt W := ⟨by omega, by omega⟩
  rw [if_pos hok] at H
  refine m_may (d := d + 6) (code := 1) (k := 2) I1 T1 (Or.inr rfl) (by omega) (by omega) (fun _ => ?_) (fun e => absurd e (by decide))
  simp (disch := omega) only [sh110, lt110, en_ops, en_opc, iI_add, iI_mul, iI_sub, jL_add, jL_mul, iI_le, iI_lt, iI_eq, iI_eq0, iI_lt0, iI_0le, iI_le0, iI_0lt, jL_iI, iI_jL, lc_eq, lc_lt, lc_le, lc_ge, lc_gt, Nat.sub_zero, Nat.zero_le, true_and, and_true, Nat.reduceAdd, Nat.reduceLeDiff]
  refine ⟨fun _ => ?_, fun g => absurd g (by decide)⟩
  obtain ⟨mN, hmN⟩ : ∃ mN : Nat, m = mN := ⟨m.toNat, by omega⟩
  subst hmN
  rw [show ((mN : Int)).toNat = mN by omega] at H
  refine m_begins (d := d + 6) (X := (zTp W, mN)) (by show mN ≤ 600; omega) (fun j hj => ⟨z1.2 j (by have : j < mN := hj; omega), t2 j (by have : j < mN := hj; omega)⟩) (fun h2 F2 e2 e8 e7 X2 A2 => ?_)
  simp (disch := omega) only [en_ops, en_opc, iI_add, iI_mul, iI_sub, jL_add, jL_mul, iI_le, iI_lt, iI_eq, iI_eq0, iI_lt0, iI_0le, iI_le0, iI_0lt, jL_iI, iI_jL, lc_eq, lc_lt, lc_le, lc_ge, lc_gt, Nat.sub_zero, Nat.zero_le, true_and, and_true, Nat.reduceAdd, Nat.reduceLeDiff]
  have F2' : Fx (fun a j => (a = 110 ∧ (j = 2 ∨ j = 3 ∨ j = 4 ∨ j = 5 ∨ j = 6 ∨ j = 7 ∨ j = 8 ∨ j = 16)) ∨ a = 113 ∨ a = 114 ∨ a = 115 ∨ a = 116) h1 h2 := F2.mono (fun a j w => Or.inl ⟨w.1, by omega⟩)
  have FM : ∀ {P : Nat → Nat → Prop} {g : en_I}, Fx P h1 g → (∀ a j, P a j → 110 ≤ a ∧ a < 133) → Fm hi g := fun F hp => F1.tr (fun x hx => F.row (fun j w => by have := hp x j w; omega))
  have keep : ∀ g : en_I, Fx (fun a j => (a = 110 ∧ (j = 2 ∨ j = 3 ∨ j = 4 ∨ j = 5 ∨ j = 6 ∨ j = 7 ∨ j = 8 ∨ j = 16)) ∨ a = 113 ∨ a = 114 ∨ a = 115 ∨ a = 116) h1 g → (∀ l, l < zNl W → rwV G l (zVs W l) g) ∧ (∀ y, y < zNy W → ryH y (zYs W y).1 (zYs W y).2 g) ∧ g 110 17 = iI (zNl W : Int) ∧ g 110 18 = iI (zNy W : Int) ∧ g 110 0 = iI 0 ∧ g 111 = h1 111 ∧ g 118 = h1 118 := by
    intro g F
    refine ⟨fun l hl => (I1.2.2.2.2.2.2.2.1 l hl).same (fun j j1 j2 => ⟨F 119 j (by omega), F 120 j (by omega)⟩) (fun w hw => ⟨F 121 _ (by omega), F 122 _ (by omega)⟩), fun y hy => ?_, by rw [F 110 17 (by omega)]; exact t4, by rw [F 110 18 (by omega)]; exact t5, by rw [F 110 0 (by omega)]; exact T1, F.row (fun j w => by omega), F.row (fun j w => by omega)⟩
    obtain ⟨a1, a2, a3⟩ := I1.2.2.2.2.2.2.2.2.1 y hy
    refine ⟨by rw [F 125 y (by omega)]; exact a1, a2, fun i hi9 => ?_⟩
    rw [F 126 _ (by omega), F 127 _ (by omega), F 128 _ (by omega), F 129 _ (by omega)]
    exact a3 i hi9
  refine v_q40 (d := d) hR (fun h3 F3 P3 y5 y6 => ?_)
  have S3 : rtS (zTp W, mN) h3 := X2.fx F3 (fun j w => by omega) (fun w => by omega)
  have A3 : rtX (zTp W, mN) (.inr (skE (zTp W, mN) 0)) h3 := rtX.fx (X := (zTp W, mN)) (z := .inr (skE (zTp W, mN) 0)) A2 F3 (by omega) (by omega) (by omega)
  have F13 : Fx (fun a j => (a = 110 ∧ (j = 2 ∨ j = 3 ∨ j = 4 ∨ j = 5 ∨ j = 6 ∨ j = 7 ∨ j = 8 ∨ j = 16)) ∨ a = 113 ∨ a = 114 ∨ a = 115 ∨ a = 116) h1 h3 := F2'.tr (F3.mono (fun a j w => Or.inr (by omega)))
  have e23 : h3 110 2 = iI 0 := by rw [F3 110 2 (by omega)]; exact e2
  refine v_q140 (d := d) (X := (zTp W, mN)) hR 62 0 (.inr (skE (zTp W, mN) 0)) b0S h3 0 0 _ _ rfl (by decide) (fun g => absurd g (by decide)) S3 A3 (fun q _ => ⟨b0_ok, P3, rfl, rfl⟩) ⟨fun q hq h' P' Z' F' x2 x3 x4 x6 => ?_, fun e he h' W' F' => ?_⟩
  · replace hq : (beR0 W mN).1 = .inr q := hq
    replace P' : bqH (beR0 W mN).2 h' := P'
    have ok := beR0_ok hq
    have eW : beachW W mN = zBe W (beR0 W mN).2 := by unfold beachW; rw [hq]
    have eA : beachA W mN = bC (beR0 W mN).2 := by unfold beachA; rw [hq]
    rw [eW, eA] at H
    generalize (beR0 W mN).2 = B at P' ok H
    have F14 : Fx (fun a j => (a = 110 ∧ (j = 2 ∨ j = 3 ∨ j = 4 ∨ j = 5 ∨ j = 6 ∨ j = 7 ∨ j = 8 ∨ j = 16)) ∨ a = 113 ∨ a = 114 ∨ a = 115 ∨ a = 116) h1 h' := F13.tr (F'.mono (fun a j w => by unfold Pbq at w; omega))
    refine v_q408 (d := d) hR P' ok (fun h5 F5 A5 X5 x5 => ?_)
    have U6 : Fx (fun a j => a = 110 ∧ j = 16) h5 (en_up h5 110 16 (iI 0)) := Fx.up Fx.rf ⟨rfl, rfl⟩
    refine m_result1 (d := d + 5) ?_ ?_
    · rw [U6 110 5 (by omega), F5 110 5 (by omega)]; exact Z'.1
    simp (disch := omega) only [en_ops, en_opc, iI_add, iI_mul, iI_sub, jL_add, jL_mul, iI_le, iI_lt, iI_eq, iI_eq0, iI_lt0, iI_0le, iI_le0, iI_0lt, jL_iI, iI_jL, lc_eq, lc_lt, lc_le, lc_ge, lc_gt, Nat.sub_zero, Nat.zero_le, true_and, and_true, Nat.reduceAdd, Nat.reduceLeDiff]
    have F15 : Fx (fun a j => (a = 110 ∧ (j = 2 ∨ j = 3 ∨ j = 4 ∨ j = 5 ∨ j = 6 ∨ j = 7 ∨ j = 8 ∨ j = 16)) ∨ a = 113 ∨ a = 114 ∨ a = 115 ∨ a = 116) h1 (en_up (en_up h5 110 16 (iI 0)) 110 8 (iI (-1))) := Fx.up ((F14.tr (F5.mono (fun a j w => by omega))).tr (U6.mono (fun a j w => by omega))) (Or.inl ⟨rfl, by decide⟩)
    obtain ⟨o1, o2, o3, o4, o5, o6, o7⟩ := keep _ F15
    have U7 : Fx (fun a j => a = 110 ∧ (j = 16 ∨ j = 8)) h5 (en_up (en_up h5 110 16 (iI 0)) 110 8 (iI (-1))) := Fx.up (Fx.up Fx.rf ⟨rfl, Or.inl rfl⟩) ⟨rfl, Or.inr rfl⟩
    have b113 : ∀ j, j < 76 → en_up (en_up h5 110 16 (iI 0)) 110 8 (iI (-1)) 113 j = h' 114 j := fun j hj => by rw [U7 113 j (by omega)]; exact A5 j hj
    have b115 : en_up (en_up h5 110 16 (iI 0)) 110 8 (iI (-1)) 115 = h5 115 := U7.row (fun j w => by omega)
    have v16 : en_up (en_up h5 110 16 (iI 0)) 110 8 (iI (-1)) 110 16 = iI 0 := by rw [up_ne (Or.inr (by decide)), up_at]
    have v8 : en_up (en_up h5 110 16 (iI 0)) 110 8 (iI (-1)) 110 8 = iI (-1) := up_at
    have v2 : en_up (en_up h5 110 16 (iI 0)) 110 8 (iI (-1)) 110 2 = iI 0 := by
      rw [U7 110 2 (by omega), F5 110 2 (by omega), F' 110 2 (by unfold Pbq; omega)]; exact e23
    generalize en_up (en_up h5 110 16 (iI 0)) 110 8 (iI (-1)) = g9 at F15 o1 o2 o3 o4 o5 o6 o7 b113 b115 v16 v8 v2 ⊢
    obtain ⟨m1, m2, m3, m4, m5, ⟨m6, m6'⟩, ⟨m7, m7'⟩, m8⟩ := P'
    have c12 := ok.1
    have z6 := ok.2.1
    have sp := ok.2.2.2.2.2.2.2.2.2.1
    have lo := ok.2.2.2.2.2.2.2.2.2.2
    have wl := ok.2.2.2.2.2.2.2.2.1
    have ti : ∀ (j : Nat) (v : Int), -2147483648 ≤ v → v < 2147483648 → h' 114 j = iI v → (h' 114 j).toInt = v := fun j v g1 g2 e => by rw [e]; exact iI_toInt g1 g2
    have q0 := ti 0 (bC B : Int) (by omega) (by omega) m1
    have q1 := ti 1 (bZ B : Int) (by omega) (by omega) m2
    have q2 := ti 2 (bSn B : Int) (by have := sp.1; omega) (by have := sp.1; omega) m6
    have q3 := ti 3 (bLn B : Int) (by have := lo.1; omega) (by have := lo.1; omega) m7
    have q5 : ∀ c, c < 12 → (h' 114 (52 + c)).toInt = bL B c := fun c hc => ti (52 + c) (bL B c) (by have := (wl c).1; omega) (by have := (wl c).2; omega) (m5 c hc)
    have q6 : ∀ i, i < bSn B → (h' 114 (4 + 4 * i)).toInt = ((bSf B i).1 : Int) ∧ (h' 114 (4 + 4 * i + 1)).toInt = ((bSf B i).2.1 : Int) ∧ (h' 114 (4 + 4 * i + 2)).toInt = ((bSf B i).2.2.1 : Int) ∧ (h' 114 (4 + 4 * i + 3)).toInt = (bSf B i).2.2.2 := fun i hi9 => by
      obtain ⟨c1, c2, c3, c4⟩ := m6' i hi9
      obtain ⟨s1, s2, s3, s4, s5⟩ := sp.2 i hi9
      exact ⟨ti _ _ (by omega) (by omega) c1, ti _ _ (by omega) (by omega) c2, ti _ _ (by omega) (by omega) c3, ti _ _ (by omega) (by omega) c4⟩
    have q7 : ∀ i, i < bLn B → (h' 114 (36 + 4 * i)).toInt = ((bLf B i).1 : Int) ∧ (h' 114 (36 + 4 * i + 1)).toInt = ((bLf B i).2.1 : Int) ∧ (h' 114 (36 + 4 * i + 2)).toInt = (bLf B i).2.2.1 ∧ (h' 114 (36 + 4 * i + 3)).toInt = (bLf B i).2.2.2 := fun i hi9 => by
      obtain ⟨c1, c2, c3, c4⟩ := m7' i hi9
      obtain ⟨s1, s2, s3, ⟨s4, s5⟩, s6, s7⟩ := lo.2 i hi9
      exact ⟨ti _ _ (by omega) (by omega) c1, ti _ _ (by omega) (by omega) c2, ti _ _ (by omega) (by omega) c3, ti _ _ (by omega) (by omega) c4⟩
    refine H.1 rfl g9 ⟨hR, ⟨v2, fun j hj => absurd hj (Nat.not_lt_zero _)⟩, v8, o3, o4, v16, fun k hk => by rw [o6]; exact I1.2.2.2.2.2.2.1 k hk, o1, o2, ⟨fun j => (h' 114 j).toInt, fun j hj => ?_, ⟨q0, q1, c12.2, z6.2⟩, q5, ⟨q2, q6⟩, ⟨q3, q7⟩, lo⟩, ?_, fun i hi9 => absurd hi9 (Nat.not_lt_zero _)⟩ (FM F15 (fun a j w => by omega)) o5
    · rw [b113 j hj]
      obtain ⟨v, g1, g2, e⟩ := iI_of (h' 114 j)
      show h' 114 j = iI (h' 114 j).toInt
      rw [e, iI_toInt g1 g2]
    · rw [b115]; exact X5
  · replace he : (beR0 W mN).1 = .inl e := he
    have eW : beachW W mN = zTx W (e.2 : Int) := by unfold beachW; rw [he]
    have eA : beachA W mN = (e.1 : Int) - 10 := by unfold beachA; rw [he]
    rw [eW, eA] at H
    have F14 : Fx (fun a j => (a = 110 ∧ (j = 2 ∨ j = 3 ∨ j = 4 ∨ j = 5 ∨ j = 6 ∨ j = 7 ∨ j = 8)) ∨ a = 114 ∨ a = 116) h1 (en_up h' 110 8 (iI (e.2 : Int))) := Fx.up (((F2.mono (fun a j w => Or.inl ⟨w.1, by omega⟩)).tr (F3.mono (fun a j w => Or.inr w))).tr (F'.mono (fun a j w => by unfold Pbq at w; omega))) (Or.inl ⟨rfl, by decide⟩)
    obtain ⟨o1, o2, o3, o4, o5, o6, o7⟩ := keep _ (F14.mono (fun a j w => by omega))
    refine H.1 rfl _ ⟨hR, I1.2.txt rfl rfl rfl rfl rfl (fun x hx => F14.row (fun j w => by omega)) (F14 110 16 (by omega)) ⟨?_, fun j hj => absurd hj (Nat.not_lt_zero _)⟩ up_at o3 o4 o1 o2⟩ (FM F14 (fun a j w => by omega)) o5
    rw [up_ne (Or.inr (by decide)), F' 110 2 (by unfold Pbq; omega)]
    exact e23
end
