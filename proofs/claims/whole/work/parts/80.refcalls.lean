section
variable {G : en_G} {d : Nat} {K : en_K} {W : zW} {n : Nat} {hi : en_I} {hl : en_L} {hr : en_F} {xc xs : Nat}
/-- a change of the reference's scratch rows -/
def Psr (x : Nat) : Prop := x = 114 ∨ x = 116 ∨ x = 117 ∨ x = 123 ∨ x = 124 ∨ x = 130 ∨ x = 131 ∨ x = 132
theorem InvR.sc {P : Nat → Prop} {hi' : en_I} (h : InvR G W hi hr) (F : Fr P hi hi') (hP : ∀ x, P x → Psr x) : InvR G W hi' hr := ⟨h.1, h.2.q (fun x g => F x (fun q => by have := hP x q; unfold Psr at this; unfold Prs at g; omega)) (fun j _ => by rw [F 110 (fun q => by have := hP 110 q; unfold Psr at this; omega)])⟩
theorem Fm.sc {P : Nat → Prop} {hi' : en_I} (F : Fr P hi hi') (hP : ∀ x, P x → Psr x) : Fm hi hi' := Fm.of F (fun x g => by have := hP x g; unfold Psr at this; omega)
/-- where the reference's call ends well -/
theorem rEnd.ok {W' : zW} {r code : Nat} {v0 v : Value} {h1 hi' : en_I} {P : Nat → Prop} (H : rEnd G W W r code v0 v K hi hl hr) (hr0 : r = 0) (I1 : InvR G W h1 hr) (F1 : Fm hi h1) (T1 : h1 110 0 = iI 0) (F : Fr P h1 hi') (hP : ∀ x, P x → Psr x) : K (.inl (some v)) hi' hl hr := H.1 hr0 hi' (I1.sc F hP) (F1.tr (Fm.sc F hP)) (by rw [F 110 (fun q => by have := hP 110 q; unfold Psr at this; omega)]; exact T1)
theorem m_ctold {w : Int} (hI : InvR G W hi hr) (hz : zOK n W) (hw : iRg w) (H : rEnd G W W (if 0 ≤ w ∧ w ≤ 6 then 0 else 3) 1 (.int (iI 0)) (.int (iI (tdP W w))) K hi hl hr) : en_Call G (d + 2) xc xs Y_X11_told wN wN [.ref 110, .int (iI w)] hi hl hr K := by
  obtain ⟨I1, F1, T1⟩ := hI.t1
  obtain ⟨⟨-, -, r10, -, r12, -⟩, -⟩ := id I1.1
  apply en_X11_told
  simp (disch := omega) only [B_X11_told_0, sh110, lt110, en_ops, en_opc, iI_add, iI_mul, iI_sub, jL_add, jL_mul, iI_le, iI_lt, iI_eq, iI_eq0, iI_lt0, iI_0le, iI_le0, iI_0lt, jL_iI, iI_jL, lc_eq, lc_lt, lc_le, lc_ge, lc_gt, Nat.sub_zero, Nat.zero_le, true_and, and_true, Nat.reduceAdd, Nat.reduceLeDiff]
  generalize en_up hi 110 0 (iI 0) = h1 at *
  refine m_within hw.1 hw.2 (by decide) (by decide) (by decide) (by decide) ?_
  by_cases e2 : 0 ≤ w ∧ w ≤ 6
  · rw [if_pos e2]
    rw [if_pos e2] at H
    simp (disch := omega) only [sh110, lt110, en_ops, en_opc, iI_add, iI_mul, iI_sub, jL_add, jL_mul, iI_le, iI_lt, iI_eq, iI_eq0, iI_lt0, iI_0le, iI_le0, iI_0lt, jL_iI, iI_jL, lc_eq, lc_lt, lc_le, lc_ge, lc_gt, Nat.sub_zero, Nat.zero_le, true_and, and_true, Nat.reduceAdd, Nat.reduceLeDiff]
    refine m_may (d := d) (code := 1) (k := 2) I1 T1 (Or.inr rfl) (by omega) (by omega) (fun _ => ?_) (fun e => absurd e (by decide))
    obtain ⟨b, b1, b2⟩ := I1.e
    have Hx := H.1 rfl h1 I1 F1 T1
    unfold tdP at Hx
    have a17 : h1 110 17 = iI (zNl W : Int) := I1.2.2.2.1
    have a18 : h1 110 18 = iI (zNy W : Int) := I1.2.2.2.2.1
    have a624 : h1 115 624 = iI (zS W).1.2.2.2.2.2 := I1.xr.1.2.2.2.2.2.1
    simp (disch := omega) only [r10, r12, sh110, lt110, sh113, lt113, sh115, lt115, a17, a18, en_ops, en_opc, iI_add, iI_mul, iI_sub, jL_add, jL_mul, iI_le, iI_lt, iI_eq, iI_eq0, iI_lt0, iI_0le, iI_le0, iI_0lt, jL_iI, iI_jL, lc_eq, lc_lt, lc_le, lc_ge, lc_gt, Nat.sub_zero, Nat.zero_le, true_and, and_true, Nat.reduceAdd, Nat.reduceLeDiff]
    refine ⟨fun _ => ⟨fun e3 => ⟨fun e4 => ⟨fun e5 => ⟨624, rfl, by omega, ?_⟩, fun e5 => ?_⟩, fun e4 => ?_⟩, fun e3 => ⟨w.toNat, iI_eq_of (by omega), by omega, ?_⟩⟩, fun e => absurd e (by decide)⟩
    · rw [if_neg (by omega), if_neg (by omega), if_neg (by omega), if_neg (by omega), if_neg (by omega), if_neg (by omega)] at Hx
      rw [a624]; exact Hx
    · rw [if_neg (by omega), if_neg (by omega), if_neg (by omega), if_neg (by omega), if_neg (by omega), if_pos (by omega)] at Hx
      exact Hx
    · rw [if_neg (by omega), if_neg (by omega), if_neg (by omega), if_neg (by omega), if_pos (by omega)] at Hx
      exact Hx
    · rw [b1 _ (by omega)]
      obtain ⟨⟨n0, n1, -⟩, -, ⟨n2, -⟩, ⟨n3, -⟩, -⟩ := b2
      rcases (show w = 0 ∨ w = 1 ∨ w = 2 ∨ w = 3 by omega) with g | g | g | g
      · subst g; rw [show b (Int.toNat 0) = b 0 from rfl, n0]; exact Hx
      · subst g; rw [show b (Int.toNat 1) = b 1 from rfl, n1]; exact Hx
      · subst g; rw [show b (Int.toNat 2) = b 2 from rfl, n2]; exact Hx
      · subst g; rw [show b (Int.toNat 3) = b 3 from rfl, n3]; exact Hx
  · rw [if_neg e2]
    rw [if_neg e2] at H
    simp (disch := omega) only [sh110, lt110, en_ops, en_opc, iI_add, iI_mul, iI_sub, jL_add, jL_mul, iI_le, iI_lt, iI_eq, iI_eq0, iI_lt0, iI_0le, iI_le0, iI_0lt, jL_iI, iI_jL, lc_eq, lc_lt, lc_le, lc_ge, lc_gt, Nat.sub_zero, Nat.zero_le, true_and, and_true, Nat.reduceAdd, Nat.reduceLeDiff]
    refine m_may (d := d) (code := 1) (k := 2) I1 T1 (Or.inl rfl) (by omega) (by omega) (fun e => absurd e (by decide)) (fun _ hi' I' F' T' => ?_)
    simp (disch := omega) only [en_ops, en_opc, iI_add, iI_mul, iI_sub, jL_add, jL_mul, iI_le, iI_lt, iI_eq, iI_eq0, iI_lt0, iI_0le, iI_le0, iI_0lt, jL_iI, iI_jL, lc_eq, lc_lt, lc_le, lc_ge, lc_gt, Nat.sub_zero, Nat.zero_le, true_and, and_true, Nat.reduceAdd, Nat.reduceLeDiff]
    exact ⟨fun e => (e (by first | trivial | rfl)).elim, fun _ => H.no F1 (by omega) rfl I' F' T'⟩
theorem m_corder {w : Int} (hI : InvR G W hi hr) (hz : zOK n W) (hw : iRg w) (H : rEnd G W W (if 0 ≤ w ∧ w ≤ 3 then 0 else 3) 1 (.int (iI 0)) (.int (iI (orP W w))) K hi hl hr) : en_Call G (d + 7) xc xs Y_X11_order wN wN [.ref 110, .int (iI w)] hi hl hr K := by
  obtain ⟨I1, F1, T1⟩ := hI.t1
  obtain ⟨⟨-, -, r10, -, r12, -⟩, -⟩ := id I1.1
  have nc12 := hz.c.1
  apply en_X11_order
  simp (disch := omega) only [B_X11_order_0, sh110, lt110, en_ops, en_opc, iI_add, iI_mul, iI_sub, jL_add, jL_mul, iI_le, iI_lt, iI_eq, iI_eq0, iI_lt0, iI_0le, iI_le0, iI_0lt, jL_iI, iI_jL, lc_eq, lc_lt, lc_le, lc_ge, lc_gt, Nat.sub_zero, Nat.zero_le, true_and, and_true, Nat.reduceAdd, Nat.reduceLeDiff]
  generalize en_up hi 110 0 (iI 0) = h1 at *
  refine m_within hw.1 hw.2 (by decide) (by decide) (by decide) (by decide) ?_
  by_cases e2 : 0 ≤ w ∧ w ≤ 3
  · rw [if_pos e2]
    rw [if_pos e2] at H
    simp (disch := omega) only [sh110, lt110, en_ops, en_opc, iI_add, iI_mul, iI_sub, jL_add, jL_mul, iI_le, iI_lt, iI_eq, iI_eq0, iI_lt0, iI_0le, iI_le0, iI_0lt, jL_iI, iI_jL, lc_eq, lc_lt, lc_le, lc_ge, lc_gt, Nat.sub_zero, Nat.zero_le, true_and, and_true, Nat.reduceAdd, Nat.reduceLeDiff]
    refine m_may (d := d + 5) (code := 1) (k := 2) I1 T1 (Or.inr rfl) (by omega) (by omega) (fun _ => ?_) (fun e => absurd e (by decide))
    obtain ⟨b, b1, b2, -⟩ := I1.e
    have e0 : h1 113 0 = iI ((zE W).2.1 : Int) := by rw [b1 0 (by omega), b2.1]
    unfold orP at H
    simp (disch := omega) only [sh110, lt110, en_ops, en_opc, iI_add, iI_mul, iI_sub, jL_add, jL_mul, iI_le, iI_lt, iI_eq, iI_eq0, iI_lt0, iI_0le, iI_le0, iI_0lt, jL_iI, iI_jL, lc_eq, lc_lt, lc_le, lc_ge, lc_gt, Nat.sub_zero, Nat.zero_le, true_and, and_true, Nat.reduceAdd, Nat.reduceLeDiff]
    refine ⟨fun _ => ⟨fun e3 => ?_, fun e3 => ⟨fun e4 => ?_, fun e4 => ?_⟩⟩, fun e => absurd e (by decide)⟩
    · rw [if_neg (by omega), if_neg (by omega)] at H
      suffices L : ∀ c : Nat, c ≤ (zE W).2.1 → en_V G Y_X11_order (d + 7) wN wN K 45 [.ref 110, .int (iI w), .int (iI (sumTo c (if w = 2 then hnI (zS W).1.1 (zE W).2.1 (zE W).2.2.1 else knI (zS W).1.1 (zE W).2.1 (zE W).2.2.1))), .int (iI (c : Int))] [] h1 hl hr xc xs from L 0 (by omega)
      refine lp (zE W).2.1 ?_ (fun c hc ih => ?_)
      · apply s_X11_order_45
        simp (disch := omega) only [B_X11_order_45, r10, sh110, lt110, sh113, lt113, en_ops, en_opc, iI_add, iI_mul, iI_sub, jL_add, jL_mul, iI_le, iI_lt, iI_eq, iI_eq0, iI_lt0, iI_0le, iI_le0, iI_0lt, jL_iI, iI_jL, lc_eq, lc_lt, lc_le, lc_ge, lc_gt, Nat.sub_zero, Nat.zero_le, true_and, and_true, Nat.reduceAdd, Nat.reduceLeDiff]
        refine ⟨0, rfl, by decide, ?_⟩
        rw [e0]
        simp (disch := omega) only [en_ops, en_opc, iI_add, iI_mul, iI_sub, jL_add, jL_mul, iI_le, iI_lt, iI_eq, iI_eq0, iI_lt0, iI_0le, iI_le0, iI_0lt, jL_iI, iI_jL, lc_eq, lc_lt, lc_le, lc_ge, lc_gt, Nat.sub_zero, Nat.zero_le, true_and, and_true, Nat.reduceAdd, Nat.reduceLeDiff]
        refine ⟨fun _ => ?_, fun e => absurd (Int.le_refl _) e⟩
        have Hx := H.1 rfl h1 I1 F1 T1
        by_cases g : w = 2
        · rw [if_pos g]; rw [if_pos g] at Hx; exact Hx
        · rw [if_neg g]; rw [if_neg g] at Hx; exact Hx
      · rw [sumTo_s] at ih
        apply s_X11_order_45
        simp (disch := omega) only [B_X11_order_45, r10, sh110, lt110, sh113, lt113, en_ops, en_opc, iI_add, iI_mul, iI_sub, jL_add, jL_mul, iI_le, iI_lt, iI_eq, iI_eq0, iI_lt0, iI_0le, iI_le0, iI_0lt, jL_iI, iI_jL, lc_eq, lc_lt, lc_le, lc_ge, lc_gt, Nat.sub_zero, Nat.zero_le, true_and, and_true, Nat.reduceAdd, Nat.reduceLeDiff]
        refine ⟨0, rfl, by decide, ?_⟩
        rw [e0]
        simp (disch := omega) only [en_ops, en_opc, iI_add, iI_mul, iI_sub, jL_add, jL_mul, iI_le, iI_lt, iI_eq, iI_eq0, iI_lt0, iI_0le, iI_le0, iI_0lt, jL_iI, iI_jL, lc_eq, lc_lt, lc_le, lc_ge, lc_gt, Nat.sub_zero, Nat.zero_le, true_and, and_true, Nat.reduceAdd, Nat.reduceLeDiff]
        refine ⟨fun e => by omega, fun _ => ⟨fun e4 => ?_, fun e4 => ?_⟩⟩
        · rw [if_neg e4]
          rw [if_neg e4] at ih
          refine m_isKnown (d := d) (b := b) I1.1 I1.xr.1.1 b1 b2 hz.f hc ?_
          simp (disch := omega) only [en_ops, en_opc, iI_add, iI_mul, iI_sub, jL_add, jL_mul, iI_le, iI_lt, iI_eq, iI_eq0, iI_lt0, iI_0le, iI_le0, iI_0lt, jL_iI, iI_jL, lc_eq, lc_lt, lc_le, lc_ge, lc_gt, Nat.sub_zero, Nat.zero_le, true_and, and_true, Nat.reduceAdd, Nat.reduceLeDiff]
          rcases (show knI (zS W).1.1 (zE W).2.1 (zE W).2.2.1 c = 0 ∨ knI (zS W).1.1 (zE W).2.1 (zE W).2.2.1 c = 1 by unfold knI; split <;> omega) with g | g
          · rw [g] at ih ⊢
            exact ⟨fun _ => ih, fun e => absurd rfl e⟩
          · rw [g] at ih ⊢
            exact ⟨fun e => absurd e (by decide), fun _ => ih⟩
        · rw [if_pos e4]
          rw [if_pos e4] at ih
          refine m_isHorn (d := d + 2) (b := b) I1.1 I1.xr.1.1 b1 b2 hz.f hc ?_
          simp (disch := omega) only [en_ops, en_opc, iI_add, iI_mul, iI_sub, jL_add, jL_mul, iI_le, iI_lt, iI_eq, iI_eq0, iI_lt0, iI_0le, iI_le0, iI_0lt, jL_iI, iI_jL, lc_eq, lc_lt, lc_le, lc_ge, lc_gt, Nat.sub_zero, Nat.zero_le, true_and, and_true, Nat.reduceAdd, Nat.reduceLeDiff]
          rcases (hn01 (f := (zS W).1.1) (nc := (zE W).2.1) (nz := (zE W).2.2.1) (c := c)) with g | g
          · rw [g] at ih ⊢
            exact ⟨fun _ => ih, fun e => absurd rfl e⟩
          · rw [g] at ih ⊢
            exact ⟨fun e => absurd e (by decide), fun _ => ih⟩
    · refine m_pairs (d := d + 1) (b := b) (o := 0) (Or.inl rfl) I1.1 I1.xr.1.1 b1 b2 hz.f (fun h8 F8 => ?_)
      simp (disch := omega) only [en_ops, en_opc, iI_add, iI_mul, iI_sub, jL_add, jL_mul, iI_le, iI_lt, iI_eq, iI_eq0, iI_lt0, iI_0le, iI_le0, iI_0lt, jL_iI, iI_jL, lc_eq, lc_lt, lc_le, lc_ge, lc_gt, Nat.sub_zero, Nat.zero_le, true_and, and_true, Nat.reduceAdd, Nat.reduceLeDiff]
      rw [if_neg (by omega), if_pos (by omega)] at H
      exact H.ok (W' := W) rfl I1 F1 T1 F8 (fun x g => by unfold Psr; omega)
    · refine m_pairs (d := d + 1) (b := b) (o := 1) (Or.inr rfl) I1.1 I1.xr.1.1 b1 b2 hz.f (fun h8 F8 => ?_)
      simp (disch := omega) only [en_ops, en_opc, iI_add, iI_mul, iI_sub, jL_add, jL_mul, iI_le, iI_lt, iI_eq, iI_eq0, iI_lt0, iI_0le, iI_le0, iI_0lt, jL_iI, iI_jL, lc_eq, lc_lt, lc_le, lc_ge, lc_gt, Nat.sub_zero, Nat.zero_le, true_and, and_true, Nat.reduceAdd, Nat.reduceLeDiff]
      rw [if_pos (by omega)] at H
      exact H.ok (W' := W) rfl I1 F1 T1 F8 (fun x g => by unfold Psr; omega)
  · rw [if_neg e2]
    rw [if_neg e2] at H
    simp (disch := omega) only [sh110, lt110, en_ops, en_opc, iI_add, iI_mul, iI_sub, jL_add, jL_mul, iI_le, iI_lt, iI_eq, iI_eq0, iI_lt0, iI_0le, iI_le0, iI_0lt, jL_iI, iI_jL, lc_eq, lc_lt, lc_le, lc_ge, lc_gt, Nat.sub_zero, Nat.zero_le, true_and, and_true, Nat.reduceAdd, Nat.reduceLeDiff]
    refine m_may (d := d + 5) (code := 1) (k := 2) I1 T1 (Or.inl rfl) (by omega) (by omega) (fun e => absurd e (by decide)) (fun _ hi' I' F' T' => ?_)
    simp (disch := omega) only [en_ops, en_opc, iI_add, iI_mul, iI_sub, jL_add, jL_mul, iI_le, iI_lt, iI_eq, iI_eq0, iI_lt0, iI_0le, iI_le0, iI_0lt, jL_iI, iI_jL, lc_eq, lc_lt, lc_le, lc_ge, lc_gt, Nat.sub_zero, Nat.zero_le, true_and, and_true, Nat.reduceAdd, Nat.reduceLeDiff]
    exact ⟨fun e => (e (by first | trivial | rfl)).elim, fun _ => H.no F1 (by omega) rfl I' F' T'⟩
theorem m_chorn {i : Int} (hI : InvR G W hi hr) (hz : zOK n W) (hi9 : iRg i) (H : rEnd G W W 0 0 (.int (iI 0)) (.int (iI (hoP (zS W).1.1 (zE W).2.1 (zE W).2.2.1 i (zE W).2.1 0 0))) K hi hl hr) : en_Call G (d + 5) xc xs Y_X11_horn wN wN [.ref 110, .int (iI i)] hi hl hr K := by
  obtain ⟨I1, F1, T1⟩ := hI.t1
  obtain ⟨⟨-, -, r10, -, r12, -⟩, -⟩ := id I1.1
  have nc12 := hz.c.1
  obtain ⟨b, b1, b2, -⟩ := I1.e
  apply en_X11_horn
  simp (disch := omega) only [B_X11_horn_0, sh110, lt110, en_ops, en_opc, iI_add, iI_mul, iI_sub, jL_add, jL_mul, iI_le, iI_lt, iI_eq, iI_eq0, iI_lt0, iI_0le, iI_le0, iI_0lt, jL_iI, iI_jL, lc_eq, lc_lt, lc_le, lc_ge, lc_gt, Nat.sub_zero, Nat.zero_le, true_and, and_true, Nat.reduceAdd, Nat.reduceLeDiff]
  generalize en_up hi 110 0 (iI 0) = h1 at *
  have e0 : h1 113 0 = iI ((zE W).2.1 : Int) := by rw [b1 0 (by omega), b2.1]
  have Hx := H.1 rfl h1 I1 F1 T1
  suffices L : ∀ k c : Nat, ∀ m : Int, c + k = (zE W).2.1 → (0 ≤ m ∧ m ≤ c) → (∀ v, v = hoP (zS W).1.1 (zE W).2.1 (zE W).2.2.1 i k c m → K (.inl (some (.int (iI v)))) h1 hl hr) → en_V G Y_X11_horn (d + 5) wN wN K 9 [.ref 110, .int (iI i), .int (iI m), .int (iI (c : Int))] [] h1 hl hr xc xs from L (zE W).2.1 0 0 (by omega) (by omega) (fun v e => by rw [e]; exact Hx)
  obtain ⟨i1, i2⟩ := id hi9
  intro k
  induction k with
  | zero =>
    intro c m hck hm HH
    apply s_X11_horn_9
    simp (disch := omega) only [B_X11_horn_9, r10, sh110, lt110, sh113, lt113, en_ops, en_opc, iI_add, iI_mul, iI_sub, jL_add, jL_mul, iI_le, iI_lt, iI_eq, iI_eq0, iI_lt0, iI_0le, iI_le0, iI_0lt, jL_iI, iI_jL, lc_eq, lc_lt, lc_le, lc_ge, lc_gt, Nat.sub_zero, Nat.zero_le, true_and, and_true, Nat.reduceAdd, Nat.reduceLeDiff]
    refine ⟨0, rfl, by decide, ?_⟩
    rw [e0]
    simp (disch := omega) only [en_ops, en_opc, iI_add, iI_mul, iI_sub, jL_add, jL_mul, iI_le, iI_lt, iI_eq, iI_eq0, iI_lt0, iI_0le, iI_le0, iI_0lt, jL_iI, iI_jL, lc_eq, lc_lt, lc_le, lc_ge, lc_gt, Nat.sub_zero, Nat.zero_le, true_and, and_true, Nat.reduceAdd, Nat.reduceLeDiff]
    exact ⟨fun _ => HH _ rfl, fun e => absurd (by omega) e⟩
  | succ k ih =>
    intro c m hck hm HH
    have st : hoP (zS W).1.1 (zE W).2.1 (zE W).2.2.1 i (k + 1) c m = if hnI (zS W).1.1 (zE W).2.1 (zE W).2.2.1 c = 1 then if i = m then (c : Int) else hoP (zS W).1.1 (zE W).2.1 (zE W).2.2.1 i k (c + 1) (m + 1) else hoP (zS W).1.1 (zE W).2.1 (zE W).2.2.1 i k (c + 1) m := rfl
    rw [st] at HH
    apply s_X11_horn_9
    simp (disch := omega) only [B_X11_horn_9, r10, sh110, lt110, sh113, lt113, en_ops, en_opc, iI_add, iI_mul, iI_sub, jL_add, jL_mul, iI_le, iI_lt, iI_eq, iI_eq0, iI_lt0, iI_0le, iI_le0, iI_0lt, jL_iI, iI_jL, lc_eq, lc_lt, lc_le, lc_ge, lc_gt, Nat.sub_zero, Nat.zero_le, true_and, and_true, Nat.reduceAdd, Nat.reduceLeDiff]
    refine ⟨0, rfl, by decide, ?_⟩
    rw [e0]
    simp (disch := omega) only [sh110, lt110, en_ops, en_opc, iI_add, iI_mul, iI_sub, jL_add, jL_mul, iI_le, iI_lt, iI_eq, iI_eq0, iI_lt0, iI_0le, iI_le0, iI_0lt, jL_iI, iI_jL, lc_eq, lc_lt, lc_le, lc_ge, lc_gt, Nat.sub_zero, Nat.zero_le, true_and, and_true, Nat.reduceAdd, Nat.reduceLeDiff]
    refine ⟨fun e => by omega, fun _ => m_isHorn (d := d) (b := b) I1.1 I1.xr.1.1 b1 b2 hz.f (by omega) ?_⟩
    rcases (hn01 (f := (zS W).1.1) (nc := (zE W).2.1) (nz := (zE W).2.2.1) (c := c)) with g | g
    · rw [g] at HH ⊢
      rw [if_neg (by decide)] at HH
      simp (disch := omega) only [en_ops, en_opc, iI_add, iI_mul, iI_sub, jL_add, jL_mul, iI_le, iI_lt, iI_eq, iI_eq0, iI_lt0, iI_0le, iI_le0, iI_0lt, jL_iI, iI_jL, lc_eq, lc_lt, lc_le, lc_ge, lc_gt, Nat.sub_zero, Nat.zero_le, true_and, and_true, Nat.reduceAdd, Nat.reduceLeDiff]
      exact ⟨fun e => (e (by first | trivial | rfl)).elim, fun _ => ih (c + 1) m (by omega) (by omega) HH⟩
    · rw [g] at HH ⊢
      rw [if_pos rfl] at HH
      simp (disch := omega) only [en_ops, en_opc, iI_add, iI_mul, iI_sub, jL_add, jL_mul, iI_le, iI_lt, iI_eq, iI_eq0, iI_lt0, iI_0le, iI_le0, iI_0lt, jL_iI, iI_jL, lc_eq, lc_lt, lc_le, lc_ge, lc_gt, Nat.sub_zero, Nat.zero_le, true_and, and_true, Nat.reduceAdd, Nat.reduceLeDiff]
      refine ⟨fun _ => ⟨fun e => ?_, fun e => ?_⟩, fun e => absurd e (by decide)⟩
      · rw [if_neg (by omega)] at HH
        exact ih (c + 1) (m + 1) (by omega) (by omega) HH
      · rw [if_pos (by omega)] at HH
        exact HH _ rfl
theorem m_clost (hI : InvR G W hi hr) (hz : zOK n W) (H : rEnd G W W 0 0 (.int (iI 0)) (.int (iI ((zS W).1.2.2.2.2.1 - sumTo (zE W).2.1 (pnP (zS W).1.1 (zE W).2.2.1)))) K hi hl hr) : en_Call G (d + 3) xc xs Y_X11_lost wN wN [.ref 110] hi hl hr K := by
  obtain ⟨I1, F1, T1⟩ := hI.t1
  obtain ⟨⟨-, -, r10, -, r12, -⟩, -⟩ := id I1.1
  obtain ⟨nc12, nz6⟩ := hz.c
  obtain ⟨b, b1, b2, -⟩ := I1.e
  apply en_X11_lost
  have a833 : hi 115 833 = iI (zS W).1.2.2.2.2.1 := hI.xr.1.2.2.2.2.1
  simp (disch := omega) only [B_X11_lost_0, r12, sh110, lt110, sh115, lt115, en_ops, en_opc, iI_add, iI_mul, iI_sub, jL_add, jL_mul, iI_le, iI_lt, iI_eq, iI_eq0, iI_lt0, iI_0le, iI_le0, iI_0lt, jL_iI, iI_jL, lc_eq, lc_lt, lc_le, lc_ge, lc_gt, Nat.sub_zero, Nat.zero_le, true_and, and_true, Nat.reduceAdd, Nat.reduceLeDiff]
  refine ⟨833, rfl, by omega, ?_⟩
  rw [up_row (by omega), a833]
  generalize en_up hi 110 0 (iI 0) = h1 at *
  have e0 : h1 113 0 = iI ((zE W).2.1 : Int) := by rw [b1 0 (by omega), b2.1]
  have e1 : h1 113 1 = iI ((zE W).2.2.1 : Int) := by rw [b1 1 (by omega), b2.2.1]
  have sx : ∀ c z k, c < 12 → z < 6 → k < 3 → h1 115 (24 * c + 3 * z + k) = iI ((zS W).1.1 c z k) := I1.xr.1.1
  suffices L : ∀ c : Nat, c ≤ (zE W).2.1 → ∀ x3, en_V G Y_X11_lost (d + 3) wN wN K 16 [.ref 110, .int (iI ((zS W).1.2.2.2.2.1 - sumTo c (pnP (zS W).1.1 (zE W).2.2.1))), .int (iI c), x3] [] h1 hl hr xc xs from by
    have := L 0 (by omega) jk
    rw [show sumTo 0 (pnP (zS W).1.1 (zE W).2.2.1) = 0 from rfl, Int.sub_zero] at this
    exact this
  refine lp (zE W).2.1 (fun x3 => ?_) (fun c hc ih x3 => ?_)
  · apply s_X11_lost_16
    simp (disch := omega) only [B_X11_lost_16, r10, sh110, lt110, sh113, lt113, en_ops, en_opc, iI_add, iI_mul, iI_sub, jL_add, jL_mul, iI_le, iI_lt, iI_eq, iI_eq0, iI_lt0, iI_0le, iI_le0, iI_0lt, jL_iI, iI_jL, lc_eq, lc_lt, lc_le, lc_ge, lc_gt, Nat.sub_zero, Nat.zero_le, true_and, and_true, Nat.reduceAdd, Nat.reduceLeDiff]
    refine ⟨0, rfl, by decide, ?_⟩
    rw [e0]
    simp (disch := omega) only [en_ops, en_opc, iI_add, iI_mul, iI_sub, jL_add, jL_mul, iI_le, iI_lt, iI_eq, iI_eq0, iI_lt0, iI_0le, iI_le0, iI_0lt, jL_iI, iI_jL, lc_eq, lc_lt, lc_le, lc_ge, lc_gt, Nat.sub_zero, Nat.zero_le, true_and, and_true, Nat.reduceAdd, Nat.reduceLeDiff]
    exact ⟨fun _ => H.1 rfl h1 I1 F1 T1, fun e => absurd (Int.le_refl _) e⟩
  · rw [sumTo_s] at ih
    apply s_X11_lost_16
    simp (disch := omega) only [B_X11_lost_16, r10, sh110, lt110, sh113, lt113, en_ops, en_opc, iI_add, iI_mul, iI_sub, jL_add, jL_mul, iI_le, iI_lt, iI_eq, iI_eq0, iI_lt0, iI_0le, iI_le0, iI_0lt, jL_iI, iI_jL, lc_eq, lc_lt, lc_le, lc_ge, lc_gt, Nat.sub_zero, Nat.zero_le, true_and, and_true, Nat.reduceAdd, Nat.reduceLeDiff]
    refine ⟨0, rfl, by decide, ?_⟩
    rw [e0]
    simp (disch := omega) only [en_ops, en_opc, iI_add, iI_mul, iI_sub, jL_add, jL_mul, iI_le, iI_lt, iI_eq, iI_eq0, iI_lt0, iI_0le, iI_le0, iI_0lt, jL_iI, iI_jL, lc_eq, lc_lt, lc_le, lc_ge, lc_gt, Nat.sub_zero, Nat.zero_le, true_and, and_true, Nat.reduceAdd, Nat.reduceLeDiff]
    refine ⟨fun e => by omega, fun _ => ?_⟩
    suffices L2 : ∀ z : Nat, z ≤ (zE W).2.2.1 → en_V G Y_X11_lost (d + 3) wN wN K 28 [.ref 110, .int (iI ((zS W).1.2.2.2.2.1 - (sumTo c (pnP (zS W).1.1 (zE W).2.2.1) + sumTo z (fun z => (zS W).1.1 c z 2)))), .int (iI c), .int (iI z)] [] h1 hl hr xc xs from by
      have := L2 0 (by omega)
      rw [show sumTo 0 (fun z => (zS W).1.1 c z 2) = 0 from rfl, Int.add_zero] at this
      exact this
    refine lp (zE W).2.2.1 ?_ (fun z hz9 ih2 => ?_)
    · apply s_X11_lost_28
      simp (disch := omega) only [B_X11_lost_28, r10, sh110, lt110, sh113, lt113, en_ops, en_opc, iI_add, iI_mul, iI_sub, jL_add, jL_mul, iI_le, iI_lt, iI_eq, iI_eq0, iI_lt0, iI_0le, iI_le0, iI_0lt, jL_iI, iI_jL, lc_eq, lc_lt, lc_le, lc_ge, lc_gt, Nat.sub_zero, Nat.zero_le, true_and, and_true, Nat.reduceAdd, Nat.reduceLeDiff]
      refine ⟨1, rfl, by decide, ?_⟩
      rw [e1]
      simp (disch := omega) only [en_ops, en_opc, iI_add, iI_mul, iI_sub, jL_add, jL_mul, iI_le, iI_lt, iI_eq, iI_eq0, iI_lt0, iI_0le, iI_le0, iI_0lt, jL_iI, iI_jL, lc_eq, lc_lt, lc_le, lc_ge, lc_gt, Nat.sub_zero, Nat.zero_le, true_and, and_true, Nat.reduceAdd, Nat.reduceLeDiff]
      exact ⟨fun _ => ih _, fun e => absurd (Int.le_refl _) e⟩
    · rw [sumTo_s] at ih2
      apply s_X11_lost_28
      simp (disch := omega) only [B_X11_lost_28, r10, r12, sh110, lt110, sh113, lt113, en_ops, en_opc, iI_add, iI_mul, iI_sub, jL_add, jL_mul, iI_le, iI_lt, iI_eq, iI_eq0, iI_lt0, iI_0le, iI_le0, iI_0lt, jL_iI, iI_jL, lc_eq, lc_lt, lc_le, lc_ge, lc_gt, Nat.sub_zero, Nat.zero_le, true_and, and_true, Nat.reduceAdd, Nat.reduceLeDiff]
      refine ⟨1, rfl, by decide, ?_⟩
      rw [e1]
      simp (disch := omega) only [en_ops, en_opc, iI_add, iI_mul, iI_sub, jL_add, jL_mul, iI_le, iI_lt, iI_eq, iI_eq0, iI_lt0, iI_0le, iI_le0, iI_0lt, jL_iI, iI_jL, lc_eq, lc_lt, lc_le, lc_ge, lc_gt, Nat.sub_zero, Nat.zero_le, true_and, and_true, Nat.reduceAdd, Nat.reduceLeDiff]
      refine ⟨fun e => by omega, fun _ => m_stone ?_⟩
      simp (disch := omega) only [sh115, lt115, en_ops, en_opc, iI_add, iI_mul, iI_sub, jL_add, jL_mul, iI_le, iI_lt, iI_eq, iI_eq0, iI_lt0, iI_0le, iI_le0, iI_0lt, jL_iI, iI_jL, lc_eq, lc_lt, lc_le, lc_ge, lc_gt, Nat.sub_zero, Nat.zero_le, true_and, and_true, Nat.reduceAdd, Nat.reduceLeDiff]
      refine ⟨24 * c + 3 * z + 2, iI_eq_of (by omega), by omega, ?_⟩
      rw [sx c z 2 (by omega) (by omega) (by omega)]
      simp (disch := omega) only [en_ops, en_opc, iI_add, iI_mul, iI_sub, jL_add, jL_mul, iI_le, iI_lt, iI_eq, iI_eq0, iI_lt0, iI_0le, iI_le0, iI_0lt, jL_iI, iI_jL, lc_eq, lc_lt, lc_le, lc_ge, lc_gt, Nat.sub_zero, Nat.zero_le, true_and, and_true, Nat.reduceAdd, Nat.reduceLeDiff]
      rw [show (zS W).1.2.2.2.2.1 - (sumTo c (pnP (zS W).1.1 (zE W).2.2.1) + (sumTo z (fun z => (zS W).1.1 c z 2) + (zS W).1.1 c z 2)) = (zS W).1.2.2.2.2.1 - (sumTo c (pnP (zS W).1.1 (zE W).2.2.1) + sumTo z (fun z => (zS W).1.1 c z 2)) - (zS W).1.1 c z 2 by omega] at ih2
      exact ih2
theorem m_cfound {z s : Int} (hI : InvR G W hi hr) (hz : zOK n W) (hzr : iRg z) (hs : iRg s) (H : rEnd G W W (if inZ W z ∧ 1 ≤ s ∧ s ≤ 16 then 0 else 3) 1 (.int (iI 0)) (.int (iI (foP (zS W).1.1 (zE W).2.1 z.toNat s))) K hi hl hr) : en_Call G (d + 3) xc xs Y_X11_found wN wN [.ref 110, .int (iI z), .int (iI s)] hi hl hr K := by
  obtain ⟨I1, F1, T1⟩ := hI.t1
  obtain ⟨⟨-, -, r10, -, r12, -⟩, -⟩ := id I1.1
  obtain ⟨nc12, nz6⟩ := hz.c
  obtain ⟨b, b1, b2, -⟩ := I1.e
  apply en_X11_found
  simp (disch := omega) only [B_X11_found_0, sh110, lt110, en_ops, en_opc, iI_add, iI_mul, iI_sub, jL_add, jL_mul, iI_le, iI_lt, iI_eq, iI_eq0, iI_lt0, iI_0le, iI_le0, iI_0lt, jL_iI, iI_jL, lc_eq, lc_lt, lc_le, lc_ge, lc_gt, Nat.sub_zero, Nat.zero_le, true_and, and_true, Nat.reduceAdd, Nat.reduceLeDiff]
  generalize en_up hi 110 0 (iI 0) = h1 at *
  have e0 : h1 113 0 = iI ((zE W).2.1 : Int) := by rw [b1 0 (by omega), b2.1]
  have sx : ∀ c z k, c < 12 → z < 6 → k < 3 → h1 115 (24 * c + 3 * z + k) = iI ((zS W).1.1 c z k) := I1.xr.1.1
  refine m_isSize (d := d) I1 hzr ?_
  by_cases e1 : inZ W z
  · rw [if_pos e1]
    simp (disch := omega) only [sh110, lt110, en_ops, en_opc, iI_add, iI_mul, iI_sub, jL_add, jL_mul, iI_le, iI_lt, iI_eq, iI_eq0, iI_lt0, iI_0le, iI_le0, iI_0lt, jL_iI, iI_jL, lc_eq, lc_lt, lc_le, lc_ge, lc_gt, Nat.sub_zero, Nat.zero_le, true_and, and_true, Nat.reduceAdd, Nat.reduceLeDiff]
    refine ⟨fun e => absurd e (by decide), fun _ => m_within hs.1 hs.2 (by decide) (by decide) (by decide) (by decide) ?_⟩
    by_cases e2 : 1 ≤ s ∧ s ≤ 16
    · rw [if_pos e2]
      rw [if_pos ⟨e1, e2⟩] at H
      simp (disch := omega) only [sh110, lt110, en_ops, en_opc, iI_add, iI_mul, iI_sub, jL_add, jL_mul, iI_le, iI_lt, iI_eq, iI_eq0, iI_lt0, iI_0le, iI_le0, iI_0lt, jL_iI, iI_jL, lc_eq, lc_lt, lc_le, lc_ge, lc_gt, Nat.sub_zero, Nat.zero_le, true_and, and_true, Nat.reduceAdd, Nat.reduceLeDiff]
      refine ⟨fun e => absurd e (by decide), fun _ => m_may (d := d + 1) (code := 1) (k := 2) I1 T1 (Or.inr rfl) (by omega) (by omega) (fun _ => ?_) (fun e => absurd e (by decide))⟩
      simp (disch := omega) only [sh110, lt110, en_ops, en_opc, iI_add, iI_mul, iI_sub, jL_add, jL_mul, iI_le, iI_lt, iI_eq, iI_eq0, iI_lt0, iI_0le, iI_le0, iI_0lt, jL_iI, iI_jL, lc_eq, lc_lt, lc_le, lc_ge, lc_gt, Nat.sub_zero, Nat.zero_le, true_and, and_true, Nat.reduceAdd, Nat.reduceLeDiff]
      refine ⟨fun _ => ?_, fun e => absurd e (by decide)⟩
      suffices L : ∀ c : Nat, c ≤ (zE W).2.1 → en_V G Y_X11_found (d + 3) wN wN K 44 [.ref 110, .int (iI z), .int (iI s), .int (iI (sumTo c (fun c => (zS W).1.1 c z.toNat 2 * s / 16))), .int (iI c)] [] h1 hl hr xc xs from L 0 (by omega)
      refine lp (zE W).2.1 ?_ (fun c hc ih => ?_)
      · apply s_X11_found_44
        simp (disch := omega) only [B_X11_found_44, r10, sh110, lt110, sh113, lt113, en_ops, en_opc, iI_add, iI_mul, iI_sub, jL_add, jL_mul, iI_le, iI_lt, iI_eq, iI_eq0, iI_lt0, iI_0le, iI_le0, iI_0lt, jL_iI, iI_jL, lc_eq, lc_lt, lc_le, lc_ge, lc_gt, Nat.sub_zero, Nat.zero_le, true_and, and_true, Nat.reduceAdd, Nat.reduceLeDiff]
        refine ⟨0, rfl, by decide, ?_⟩
        rw [e0]
        simp (disch := omega) only [en_ops, en_opc, iI_add, iI_mul, iI_sub, jL_add, jL_mul, iI_le, iI_lt, iI_eq, iI_eq0, iI_lt0, iI_0le, iI_le0, iI_0lt, jL_iI, iI_jL, lc_eq, lc_lt, lc_le, lc_ge, lc_gt, Nat.sub_zero, Nat.zero_le, true_and, and_true, Nat.reduceAdd, Nat.reduceLeDiff]
        exact ⟨fun _ => H.1 rfl h1 I1 F1 T1, fun e => absurd (Int.le_refl _) e⟩
      · rw [sumTo_s] at ih
        have fb := f_bd hz.f nz6 (c := c) (z := z.toNat) (k := 2) (by omega) (by omega)
        have p0 := Int.mul_nonneg fb.1 (show 0 ≤ s by omega)
        have p1 := Int.mul_le_mul_of_nonneg_left e2.2 fb.1
        apply s_X11_found_44
        simp (disch := omega) only [B_X11_found_44, r10, r12, sh110, lt110, sh113, lt113, en_ops, en_opc, iI_add, iI_mul, iI_sub, jL_add, jL_mul, iI_le, iI_lt, iI_eq, iI_eq0, iI_lt0, iI_0le, iI_le0, iI_0lt, jL_iI, iI_jL, lc_eq, lc_lt, lc_le, lc_ge, lc_gt, Nat.sub_zero, Nat.zero_le, true_and, and_true, Nat.reduceAdd, Nat.reduceLeDiff]
        refine ⟨0, rfl, by decide, ?_⟩
        rw [e0]
        simp (disch := omega) only [en_ops, en_opc, iI_add, iI_mul, iI_sub, jL_add, jL_mul, iI_le, iI_lt, iI_eq, iI_eq0, iI_lt0, iI_0le, iI_le0, iI_0lt, jL_iI, iI_jL, lc_eq, lc_lt, lc_le, lc_ge, lc_gt, Nat.sub_zero, Nat.zero_le, true_and, and_true, Nat.reduceAdd, Nat.reduceLeDiff]
        refine ⟨fun e => by omega, fun _ => m_stone ?_⟩
        simp (disch := omega) only [sh115, lt115, en_ops, en_opc, iI_add, iI_mul, iI_sub, jL_add, jL_mul, iI_le, iI_lt, iI_eq, iI_eq0, iI_lt0, iI_0le, iI_le0, iI_0lt, jL_iI, iI_jL, lc_eq, lc_lt, lc_le, lc_ge, lc_gt, Nat.sub_zero, Nat.zero_le, true_and, and_true, Nat.reduceAdd, Nat.reduceLeDiff]
        refine ⟨24 * c + 3 * z.toNat + 2, iI_eq_of (by omega), by omega, ?_⟩
        rw [sx c z.toNat 2 (by omega) (by omega) (by omega)]
        simp (disch := omega) only [en_ops, en_opc, iI_add, iI_mul, iI_sub, jL_add, jL_mul, iI_le, iI_lt, iI_eq, iI_eq0, iI_lt0, iI_0le, iI_le0, iI_0lt, jL_iI, iI_jL, lc_eq, lc_lt, lc_le, lc_ge, lc_gt, Nat.sub_zero, Nat.zero_le, true_and, and_true, Nat.reduceAdd, Nat.reduceLeDiff]
        refine ⟨by decide, ?_⟩
        rw [jL_div (by omega) (by omega) (by omega) (by omega)]
        simp (disch := omega) only [en_ops, en_opc, iI_add, iI_mul, iI_sub, jL_add, jL_mul, iI_le, iI_lt, iI_eq, iI_eq0, iI_lt0, iI_0le, iI_le0, iI_0lt, jL_iI, iI_jL, lc_eq, lc_lt, lc_le, lc_ge, lc_gt, Nat.sub_zero, Nat.zero_le, true_and, and_true, Nat.reduceAdd, Nat.reduceLeDiff]
        exact ih
    · rw [if_neg e2]
      rw [if_neg (fun g => e2 g.2)] at H
      simp (disch := omega) only [sh110, lt110, en_ops, en_opc, iI_add, iI_mul, iI_sub, jL_add, jL_mul, iI_le, iI_lt, iI_eq, iI_eq0, iI_lt0, iI_0le, iI_le0, iI_0lt, jL_iI, iI_jL, lc_eq, lc_lt, lc_le, lc_ge, lc_gt, Nat.sub_zero, Nat.zero_le, true_and, and_true, Nat.reduceAdd, Nat.reduceLeDiff]
      refine ⟨fun _ => m_may (d := d + 1) (code := 1) (k := 2) I1 T1 (Or.inl rfl) (by omega) (by omega) (fun e => absurd e (by decide)) (fun _ hi' I' F' T' => ?_), fun e => (e (by first | trivial | rfl)).elim⟩
      simp (disch := omega) only [en_ops, en_opc, iI_add, iI_mul, iI_sub, jL_add, jL_mul, iI_le, iI_lt, iI_eq, iI_eq0, iI_lt0, iI_0le, iI_le0, iI_0lt, jL_iI, iI_jL, lc_eq, lc_lt, lc_le, lc_ge, lc_gt, Nat.sub_zero, Nat.zero_le, true_and, and_true, Nat.reduceAdd, Nat.reduceLeDiff]
      exact ⟨fun e => (e (by first | trivial | rfl)).elim, fun _ => H.no F1 (by omega) rfl I' F' T'⟩
  · rw [if_neg e1]
    rw [if_neg (fun g => e1 g.1)] at H
    simp (disch := omega) only [sh110, lt110, en_ops, en_opc, iI_add, iI_mul, iI_sub, jL_add, jL_mul, iI_le, iI_lt, iI_eq, iI_eq0, iI_lt0, iI_0le, iI_le0, iI_0lt, jL_iI, iI_jL, lc_eq, lc_lt, lc_le, lc_ge, lc_gt, Nat.sub_zero, Nat.zero_le, true_and, and_true, Nat.reduceAdd, Nat.reduceLeDiff]
    refine ⟨fun _ => m_may (d := d + 1) (code := 1) (k := 2) I1 T1 (Or.inl rfl) (by omega) (by omega) (fun e => absurd e (by decide)) (fun _ hi' I' F' T' => ?_), fun e => (e (by first | trivial | rfl)).elim⟩
    simp (disch := omega) only [en_ops, en_opc, iI_add, iI_mul, iI_sub, jL_add, jL_mul, iI_le, iI_lt, iI_eq, iI_eq0, iI_lt0, iI_0le, iI_le0, iI_0lt, jL_iI, iI_jL, lc_eq, lc_lt, lc_le, lc_ge, lc_gt, Nat.sub_zero, Nat.zero_le, true_and, and_true, Nat.reduceAdd, Nat.reduceLeDiff]
    exact ⟨fun e => (e (by first | trivial | rfl)).elim, fun _ => H.no F1 (by omega) rfl I' F' T'⟩
theorem m_cmiles {z : Int} (hI : InvR G W hi hr) (hz : zOK n W) (hzr : iRg z) (H : rEnd G W W (if inZ W z then 0 else 3) 1 (.int (iI 0)) (.int (iI (miP (zS W).1.1 (zE W).2.1 z.toNat))) K hi hl hr) : en_Call G (d + 3) xc xs Y_X11_miles wN wN [.ref 110, .int (iI z)] hi hl hr K := by
  obtain ⟨I1, F1, T1⟩ := hI.t1
  obtain ⟨⟨-, -, r10, -, r12, -⟩, -⟩ := id I1.1
  obtain ⟨nc12, nz6⟩ := hz.c
  obtain ⟨b, b1, b2, -⟩ := I1.e
  apply en_X11_miles
  simp (disch := omega) only [B_X11_miles_0, sh110, lt110, en_ops, en_opc, iI_add, iI_mul, iI_sub, jL_add, jL_mul, iI_le, iI_lt, iI_eq, iI_eq0, iI_lt0, iI_0le, iI_le0, iI_0lt, jL_iI, iI_jL, lc_eq, lc_lt, lc_le, lc_ge, lc_gt, Nat.sub_zero, Nat.zero_le, true_and, and_true, Nat.reduceAdd, Nat.reduceLeDiff]
  generalize en_up hi 110 0 (iI 0) = h1 at *
  have e0 : h1 113 0 = iI ((zE W).2.1 : Int) := by rw [b1 0 (by omega), b2.1]
  have sx : ∀ c z k, c < 12 → z < 6 → k < 3 → h1 115 (24 * c + 3 * z + k) = iI ((zS W).1.1 c z k) := I1.xr.1.1
  refine m_isSize (d := d) I1 hzr ?_
  by_cases e1 : inZ W z
  · rw [if_pos e1]
    rw [if_pos e1] at H
    simp (disch := omega) only [sh110, lt110, en_ops, en_opc, iI_add, iI_mul, iI_sub, jL_add, jL_mul, iI_le, iI_lt, iI_eq, iI_eq0, iI_lt0, iI_0le, iI_le0, iI_0lt, jL_iI, iI_jL, lc_eq, lc_lt, lc_le, lc_ge, lc_gt, Nat.sub_zero, Nat.zero_le, true_and, and_true, Nat.reduceAdd, Nat.reduceLeDiff]
    refine m_may (d := d + 1) (code := 1) (k := 2) I1 T1 (Or.inr rfl) (by omega) (by omega) (fun _ => ?_) (fun e => absurd e (by decide))
    have Hx := H.1 rfl h1 I1 F1 T1
    unfold miP at Hx
    simp (disch := omega) only [sh110, lt110, en_ops, en_opc, iI_add, iI_mul, iI_sub, jL_add, jL_mul, iI_le, iI_lt, iI_eq, iI_eq0, iI_lt0, iI_0le, iI_le0, iI_0lt, jL_iI, iI_jL, lc_eq, lc_lt, lc_le, lc_ge, lc_gt, Nat.sub_zero, Nat.zero_le, true_and, and_true, Nat.reduceAdd, Nat.reduceLeDiff]
    refine ⟨fun _ => ?_, fun e => absurd e (by decide)⟩
    suffices L : ∀ c : Nat, c ≤ (zE W).2.1 → ∀ x3 x5, en_V G Y_X11_miles (d + 3) wN wN K 29 [.ref 110, .int (iI z), .long (jL (sumTo c (fun c => (zS W).1.1 c z.toNat 2))), x3, .long (jL (sumTo c (fun c => (c : Int) * (zS W).1.1 c z.toNat 2))), x5, .int (iI c)] [] h1 hl hr xc xs from L 0 (by omega) _ _
    have bd : ∀ c : Nat, c ≤ (zE W).2.1 → (0 ≤ sumTo c (fun c => (zS W).1.1 c z.toNat 2) ∧ sumTo c (fun c => (zS W).1.1 c z.toNat 2) ≤ 10000000 * c) ∧ 0 ≤ sumTo c (fun c => (c : Int) * (zS W).1.1 c z.toNat 2) ∧ sumTo c (fun c => (c : Int) * (zS W).1.1 c z.toNat 2) ≤ 120000000 * c := by
      intro c
      induction c with
      | zero => exact fun _ => ⟨⟨Int.le_refl _, Int.le_refl _⟩, Int.le_refl _, Int.le_refl _⟩
      | succ c ih =>
        intro hc
        have fb := f_bd hz.f nz6 (c := c) (z := z.toNat) (k := 2) (by omega) (by omega)
        have q0 := Int.mul_nonneg (show (0 : Int) ≤ (c : Int) by omega) fb.1
        have q1 := Int.mul_le_mul (show (c : Int) ≤ 12 by omega) fb.2 fb.1 (by omega)
        have := ih (by omega)
        rw [sumTo_s, sumTo_s]
        omega
    refine lp (zE W).2.1 (fun x3 x5 => ?_) (fun c hc ih x3 x5 => ?_)
    · obtain ⟨⟨q1, q2⟩, q3, q4⟩ := bd (zE W).2.1 (Nat.le_refl _)
      generalize sumTo (zE W).2.1 (fun c => (zS W).1.1 c z.toNat 2) = A at *
      generalize sumTo (zE W).2.1 (fun c => (c : Int) * (zS W).1.1 c z.toNat 2) = V at *
      apply s_X11_miles_29
      simp (disch := omega) only [B_X11_miles_29, r10, sh110, lt110, sh113, lt113, en_ops, en_opc, iI_add, iI_mul, iI_sub, jL_add, jL_mul, iI_le, iI_lt, iI_eq, iI_eq0, iI_lt0, iI_0le, iI_le0, iI_0lt, jL_iI, iI_jL, lc_eq, lc_lt, lc_le, lc_ge, lc_gt, Nat.sub_zero, Nat.zero_le, true_and, and_true, Nat.reduceAdd, Nat.reduceLeDiff]
      refine ⟨0, rfl, by decide, ?_⟩
      rw [e0]
      simp (disch := omega) only [en_ops, en_opc, iI_add, iI_mul, iI_sub, jL_add, jL_mul, iI_le, iI_lt, iI_eq, iI_eq0, iI_lt0, iI_0le, iI_le0, iI_0lt, jL_iI, iI_jL, lc_eq, lc_lt, lc_le, lc_ge, lc_gt, Nat.sub_zero, Nat.zero_le, true_and, and_true, Nat.reduceAdd, Nat.reduceLeDiff]
      refine ⟨fun _ => ⟨fun e => ⟨?_, ?_⟩, fun e => ?_⟩, fun e => absurd (Int.le_refl _) e⟩
      · rw [jL_eq0 (by omega) (by omega)]; exact e
      · rw [jL_div (by omega) (by omega) (by omega) (by omega)]
        rw [if_neg e] at Hx
        simp (disch := omega) only [en_ops, en_opc, iI_add, iI_mul, iI_sub, jL_add, jL_mul, iI_le, iI_lt, iI_eq, iI_eq0, iI_lt0, iI_0le, iI_le0, iI_0lt, jL_iI, iI_jL, lc_eq, lc_lt, lc_le, lc_ge, lc_gt, Nat.sub_zero, Nat.zero_le, true_and, and_true, Nat.reduceAdd, Nat.reduceLeDiff]
        exact Hx
      · rw [if_pos e] at Hx
        exact Hx
    · rw [sumTo_s, sumTo_s] at ih
      have fb := f_bd hz.f nz6 (c := c) (z := z.toNat) (k := 2) (by omega) (by omega)
      apply s_X11_miles_29
      simp (disch := omega) only [B_X11_miles_29, r10, r12, sh110, lt110, sh113, lt113, en_ops, en_opc, iI_add, iI_mul, iI_sub, jL_add, jL_mul, iI_le, iI_lt, iI_eq, iI_eq0, iI_lt0, iI_0le, iI_le0, iI_0lt, jL_iI, iI_jL, lc_eq, lc_lt, lc_le, lc_ge, lc_gt, Nat.sub_zero, Nat.zero_le, true_and, and_true, Nat.reduceAdd, Nat.reduceLeDiff]
      refine ⟨0, rfl, by decide, ?_⟩
      rw [e0]
      simp (disch := omega) only [en_ops, en_opc, iI_add, iI_mul, iI_sub, jL_add, jL_mul, iI_le, iI_lt, iI_eq, iI_eq0, iI_lt0, iI_0le, iI_le0, iI_0lt, jL_iI, iI_jL, lc_eq, lc_lt, lc_le, lc_ge, lc_gt, Nat.sub_zero, Nat.zero_le, true_and, and_true, Nat.reduceAdd, Nat.reduceLeDiff]
      refine ⟨fun e => by omega, fun _ => m_stone ?_⟩
      simp (disch := omega) only [sh115, lt115, en_ops, en_opc, iI_add, iI_mul, iI_sub, jL_add, jL_mul, iI_le, iI_lt, iI_eq, iI_eq0, iI_lt0, iI_0le, iI_le0, iI_0lt, jL_iI, iI_jL, lc_eq, lc_lt, lc_le, lc_ge, lc_gt, Nat.sub_zero, Nat.zero_le, true_and, and_true, Nat.reduceAdd, Nat.reduceLeDiff]
      refine ⟨24 * c + 3 * z.toNat + 2, iI_eq_of (by omega), by omega, ?_⟩
      rw [sx c z.toNat 2 (by omega) (by omega) (by omega)]
      simp (disch := omega) only [r12, sh110, lt110, en_ops, en_opc, iI_add, iI_mul, iI_sub, jL_add, jL_mul, iI_le, iI_lt, iI_eq, iI_eq0, iI_lt0, iI_0le, iI_le0, iI_0lt, jL_iI, iI_jL, lc_eq, lc_lt, lc_le, lc_ge, lc_gt, Nat.sub_zero, Nat.zero_le, true_and, and_true, Nat.reduceAdd, Nat.reduceLeDiff]
      refine m_stone ?_
      simp (disch := omega) only [sh115, lt115, en_ops, en_opc, iI_add, iI_mul, iI_sub, jL_add, jL_mul, iI_le, iI_lt, iI_eq, iI_eq0, iI_lt0, iI_0le, iI_le0, iI_0lt, jL_iI, iI_jL, lc_eq, lc_lt, lc_le, lc_ge, lc_gt, Nat.sub_zero, Nat.zero_le, true_and, and_true, Nat.reduceAdd, Nat.reduceLeDiff]
      refine ⟨24 * c + 3 * z.toNat + 2, iI_eq_of (by omega), by omega, ?_⟩
      rw [sx c z.toNat 2 (by omega) (by omega) (by omega)]
      simp (disch := omega) only [en_ops, en_opc, iI_add, iI_mul, iI_sub, jL_add, jL_mul, iI_le, iI_lt, iI_eq, iI_eq0, iI_lt0, iI_0le, iI_le0, iI_0lt, jL_iI, iI_jL, lc_eq, lc_lt, lc_le, lc_ge, lc_gt, Nat.sub_zero, Nat.zero_le, true_and, and_true, Nat.reduceAdd, Nat.reduceLeDiff]
      exact ih _ _
  · rw [if_neg e1]
    rw [if_neg e1] at H
    simp (disch := omega) only [sh110, lt110, en_ops, en_opc, iI_add, iI_mul, iI_sub, jL_add, jL_mul, iI_le, iI_lt, iI_eq, iI_eq0, iI_lt0, iI_0le, iI_le0, iI_0lt, jL_iI, iI_jL, lc_eq, lc_lt, lc_le, lc_ge, lc_gt, Nat.sub_zero, Nat.zero_le, true_and, and_true, Nat.reduceAdd, Nat.reduceLeDiff]
    refine m_may (d := d + 1) (code := 1) (k := 2) I1 T1 (Or.inl rfl) (by omega) (by omega) (fun e => absurd e (by decide)) (fun _ hi' I' F' T' => ?_)
    simp (disch := omega) only [en_ops, en_opc, iI_add, iI_mul, iI_sub, jL_add, jL_mul, iI_le, iI_lt, iI_eq, iI_eq0, iI_lt0, iI_0le, iI_le0, iI_0lt, jL_iI, iI_jL, lc_eq, lc_lt, lc_le, lc_ge, lc_gt, Nat.sub_zero, Nat.zero_le, true_and, and_true, Nat.reduceAdd, Nat.reduceLeDiff]
    exact ⟨fun e => (e (by first | trivial | rfl)).elim, fun _ => H.no F1 (by omega) rfl I' F' T'⟩
end
