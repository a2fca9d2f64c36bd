section
variable {G : en_G} {d : Nat} {K : en_K} {W : zW} {n : Nat} {hi : en_I} {hl : en_L} {hr : en_F} {xc xs : Nat}
theorem m_clook {z k w : Int} (hI : InvR G W hi hr) (hz : zOK n W) (hzr : iRg z) (hk : iRg k) (hw : iRg w) (H : rEnd G W W (if inZ W z ∧ (1 ≤ k ∧ k ≤ (zE W).2.1) ∧ 0 ≤ w ∧ w ≤ 1 then 0 else 3) 1 (.int (iI 0)) (.int (iI (lkP2 (zS W).1.1 (zE W).2.1 z.toNat k.toNat w))) K hi hl hr) : en_Call G (d + 4) xc xs Y_X11_look wN wN [.ref 110, .int (iI z), .int (iI k), .int (iI w)] hi hl hr K := by
  obtain ⟨I1, F1, T1⟩ := hI.t1
  obtain ⟨⟨-, -, r10, -, r12, -⟩, -⟩ := id I1.1
  obtain ⟨nc12, nz6⟩ := hz.c
  obtain ⟨b, b1, b2, -⟩ := I1.e
  apply en_X11_look
  simp (disch := omega) only [B_X11_look_0, sh110, lt110, en_ops, en_opc, iI_add, iI_mul, iI_sub, jL_add, jL_mul, iI_le, iI_lt, iI_eq, iI_eq0, iI_lt0, iI_0le, iI_le0, iI_0lt, jL_iI, iI_jL, lc_eq, lc_lt, lc_le, lc_ge, lc_gt, Nat.sub_zero, Nat.zero_le, true_and, and_true, Nat.reduceAdd, Nat.reduceLeDiff]
  generalize en_up hi 110 0 (iI 0) = h1 at *
  have e0 : h1 113 0 = iI ((zE W).2.1 : Int) := by rw [b1 0 (by omega), b2.1]
  have no : ¬ (inZ W z ∧ (1 ≤ k ∧ k ≤ (zE W).2.1) ∧ 0 ≤ w ∧ w ≤ 1) → ∀ kk ls, en_Call G (d + 3) 0 0 Y_X11_may wN wN [.ref 110, .int (iI 0), .int (iI 1), .int (iI 2)] h1 hl hr (en_kk (o_ifne kk (o_iconst 0 (o_iret K))) x_no ls [] xc xs) := fun e kk ls => by
    rw [if_neg e] at H
    refine m_may (d := d + 2) (code := 1) (k := 2) I1 T1 (Or.inl rfl) (by omega) (by omega) (fun e => absurd e (by decide)) (fun _ hi' I' F' T' => ?_)
    simp (disch := omega) only [en_ops, en_opc, iI_add, iI_mul, iI_sub, jL_add, jL_mul, iI_le, iI_lt, iI_eq, iI_eq0, iI_lt0, iI_0le, iI_le0, iI_0lt, jL_iI, iI_jL, lc_eq, lc_lt, lc_le, lc_ge, lc_gt, Nat.sub_zero, Nat.zero_le, true_and, and_true, Nat.reduceAdd, Nat.reduceLeDiff]
    exact ⟨fun e => (e (by first | trivial | rfl)).elim, fun _ => H.no F1 (by omega) rfl I' F' T'⟩
  have no41 : ¬ (inZ W z ∧ (1 ≤ k ∧ k ≤ (zE W).2.1) ∧ 0 ≤ w ∧ w ≤ 1) → en_V G Y_X11_look (d + 4) wN wN K 41 [.ref 110, .int (iI z), .int (iI k), .int (iI w), jk, jk, jk, jk, jk, jk, jk, jk] [.ref 110] h1 hl hr xc xs := fun e => by
    apply s_X11_look_41
    simp (disch := omega) only [B_X11_look_41, sh110, lt110, en_ops, en_opc, iI_add, iI_mul, iI_sub, jL_add, jL_mul, iI_le, iI_lt, iI_eq, iI_eq0, iI_lt0, iI_0le, iI_le0, iI_0lt, jL_iI, iI_jL, lc_eq, lc_lt, lc_le, lc_ge, lc_gt, Nat.sub_zero, Nat.zero_le, true_and, and_true, Nat.reduceAdd, Nat.reduceLeDiff]
    exact no e _ _
  refine m_isSize (d := d + 1) I1 hzr ?_
  by_cases t1 : inZ W z
  · rw [if_pos t1]
    simp (disch := omega) only [r10, sh110, lt110, sh113, lt113, en_ops, en_opc, iI_add, iI_mul, iI_sub, jL_add, jL_mul, iI_le, iI_lt, iI_eq, iI_eq0, iI_lt0, iI_0le, iI_le0, iI_0lt, jL_iI, iI_jL, lc_eq, lc_lt, lc_le, lc_ge, lc_gt, Nat.sub_zero, Nat.zero_le, true_and, and_true, Nat.reduceAdd, Nat.reduceLeDiff]
    refine ⟨fun e => absurd e (by decide), fun _ => ⟨0, rfl, by decide, ?_⟩⟩
    rw [e0]
    refine m_within hk.1 hk.2 (by decide) (by decide) (by omega) (by omega) ?_
    by_cases t2 : 1 ≤ k ∧ k ≤ (zE W).2.1
    · rw [if_pos t2]
      simp (disch := omega) only [en_ops, en_opc, iI_add, iI_mul, iI_sub, jL_add, jL_mul, iI_le, iI_lt, iI_eq, iI_eq0, iI_lt0, iI_0le, iI_le0, iI_0lt, jL_iI, iI_jL, lc_eq, lc_lt, lc_le, lc_ge, lc_gt, Nat.sub_zero, Nat.zero_le, true_and, and_true, Nat.reduceAdd, Nat.reduceLeDiff]
      refine ⟨fun e => absurd e (by decide), fun _ => m_within hw.1 hw.2 (by decide) (by decide) (by decide) (by decide) ?_⟩
      by_cases t3 : 0 ≤ w ∧ w ≤ 1
      · rw [if_pos t3]
        rw [if_pos ⟨t1, t2, t3⟩] at H
        simp (disch := omega) only [sh110, lt110, en_ops, en_opc, iI_add, iI_mul, iI_sub, jL_add, jL_mul, iI_le, iI_lt, iI_eq, iI_eq0, iI_lt0, iI_0le, iI_le0, iI_0lt, jL_iI, iI_jL, lc_eq, lc_lt, lc_le, lc_ge, lc_gt, Nat.sub_zero, Nat.zero_le, true_and, and_true, Nat.reduceAdd, Nat.reduceLeDiff]
        refine ⟨fun e => absurd e (by decide), fun _ => m_may (d := d + 2) (code := 1) (k := 2) I1 T1 (Or.inr rfl) (by omega) (by omega) (fun _ => ?_) (fun e => absurd e (by decide))⟩
        simp (disch := omega) only [en_ops, en_opc, iI_add, iI_mul, iI_sub, jL_add, jL_mul, iI_le, iI_lt, iI_eq, iI_eq0, iI_lt0, iI_0le, iI_le0, iI_0lt, jL_iI, iI_jL, lc_eq, lc_lt, lc_le, lc_ge, lc_gt, Nat.sub_zero, Nat.zero_le, true_and, and_true, Nat.reduceAdd, Nat.reduceLeDiff]
        refine ⟨fun _ => ?_, fun e => absurd e (by decide)⟩
        have Hx := H.1 rfl h1 I1 F1 T1
        unfold lkP2 loKP at Hx
        have zz : z = ((z.toNat : Nat) : Int) := by omega
        have ar : ∀ c, c < 12 → 0 ≤ aP (zS W).1.1 c z.toNat ∧ aP (zS W).1.1 c z.toNat ≤ 10000000 := fun c hc => ⟨aP_nn hz.f c _, Int.le_trans (aP_le hz.f nz6 hc _) (wP_le hz.f nz6 hc)⟩
        have sr : ∀ c, c ≤ (zE W).2.1 → 0 ≤ sumTo c (fun c => aP (zS W).1.1 c z.toNat) ∧ sumTo c (fun c => aP (zS W).1.1 c z.toNat) ≤ 120000000 := fun c hc => by
          have := sumTo_bd (n := c) (g := fun c => aP (zS W).1.1 c z.toNat) (b := 10000000) (fun i hi9 => ar i (by omega))
          omega
        have br : ∀ bits, 0 ≤ bsP bits (zE W).2.1 (fun c => aP (zS W).1.1 c z.toNat) ∧ bsP bits (zE W).2.1 (fun c => aP (zS W).1.1 c z.toNat) ≤ 120000000 := fun bits => by
          have := sumTo_bd (n := (zE W).2.1) (g := fun c => if bits.testBit c = true then aP (zS W).1.1 c z.toNat else 0) (b := 10000000) (fun i hi9 => by have := ar i (by omega); show 0 ≤ (if bits.testBit i = true then aP (zS W).1.1 i z.toNat else 0) ∧ (if bits.testBit i = true then aP (zS W).1.1 i z.toNat else 0) ≤ 10000000; split <;> omega)
          show 0 ≤ sumTo (zE W).2.1 (fun c => if bits.testBit c = true then aP (zS W).1.1 c z.toNat else 0) ∧ sumTo (zE W).2.1 (fun c => if bits.testBit c = true then aP (zS W).1.1 c z.toNat else 0) ≤ 120000000
          omega
        have xA : ∀ c : Nat, c < 12 → ∀ KK : en_K, KK (.inl (some (.int (iI (aP (zS W).1.1 c z.toNat))))) h1 hl hr → en_Call G (d + 3) 0 0 Y_X11_all wN wN [.ref 110, .int (iI (c : Int)), .int (iI z)] h1 hl hr KK := fun c hc KK h => by
          rw [zz]
          exact m_all (d := d + 1) I1.1 I1.xr.1.1 hc (by omega) h
        suffices L : ∀ c : Nat, c ≤ (zE W).2.1 → ∀ x6 x8 x10 x11, en_V G Y_X11_look (d + 4) wN wN K 64 [.ref 110, .int (iI z), .int (iI k), .int (iI w), .int (iI 0), .long (jL 0), x6, .long (jL (sumTo c (fun c => aP (zS W).1.1 c z.toNat))), x8, .int (iI (c : Int)), x10, x11] [] h1 hl hr xc xs from L 0 (by omega) _ _ _ _
        refine lp (zE W).2.1 (fun x6 x8 x10 x11 => ?_) (fun c hc ih x6 x8 x10 x11 => ?_)
        · apply s_X11_look_64
          simp (disch := omega) only [B_X11_look_64, r10, sh110, lt110, sh113, lt113, en_ops, en_opc, iI_add, iI_mul, iI_sub, jL_add, jL_mul, iI_le, iI_lt, iI_eq, iI_eq0, iI_lt0, iI_0le, iI_le0, iI_0lt, jL_iI, iI_jL, lc_eq, lc_lt, lc_le, lc_ge, lc_gt, Nat.sub_zero, Nat.zero_le, true_and, and_true, Nat.reduceAdd, Nat.reduceLeDiff]
          refine ⟨0, rfl, by decide, ?_⟩
          rw [e0]
          simp (disch := omega) only [en_ops, en_opc, iI_add, iI_mul, iI_sub, jL_add, jL_mul, iI_le, iI_lt, iI_eq, iI_eq0, iI_lt0, iI_0le, iI_le0, iI_0lt, jL_iI, iI_jL, lc_eq, lc_lt, lc_le, lc_ge, lc_gt, Nat.sub_zero, Nat.zero_le, true_and, and_true, Nat.reduceAdd, Nat.reduceLeDiff]
          refine ⟨fun _ => ?_, fun e => absurd (Int.le_refl _) e⟩
          suffices L : ∀ i : Nat, i ≤ k.toNat → ∀ x6 x8 x10 x11, en_V G Y_X11_look (d + 4) wN wN K 97 [.ref 110, .int (iI z), .int (iI k), .int (iI w), .int (iI (riP (fun c => aP (zS W).1.1 c z.toNat) (zE W).2.1 i : Int)), .long (jL (bsP (riP (fun c => aP (zS W).1.1 c z.toNat) (zE W).2.1 i) (zE W).2.1 (fun c => aP (zS W).1.1 c z.toNat))), x6, .long (jL (sumTo (zE W).2.1 (fun c => aP (zS W).1.1 c z.toNat))), x8, .int (iI (i : Int)), x10, x11] [] h1 hl hr xc xs from by
            have := L 0 (by omega) x6 (en_fix x8) x10 x11
            rw [show bsP (riP (fun c => aP (zS W).1.1 c z.toNat) (zE W).2.1 0) (zE W).2.1 (fun c => aP (zS W).1.1 c z.toNat) = 0 from sumTo_zero (fun c _ => by show (if (0 : Nat).testBit c = true then _ else (0 : Int)) = 0; rw [Nat.zero_testBit]; rfl)] at this
            exact this
          refine lp k.toNat (fun x6 x8 x10 x11 => ?_) (fun i hi9 ih x6 x8 x10 x11 => ?_)
          · have s9 := sr _ (Nat.le_refl _)
            have b9 := br (riP (fun c => aP (zS W).1.1 c z.toNat) (zE W).2.1 k.toNat)
            apply s_X11_look_97
            simp (disch := omega) only [B_X11_look_97, en_ops, en_opc, iI_add, iI_mul, iI_sub, jL_add, jL_mul, iI_le, iI_lt, iI_eq, iI_eq0, iI_lt0, iI_0le, iI_le0, iI_0lt, jL_iI, iI_jL, lc_eq, lc_lt, lc_le, lc_ge, lc_gt, Nat.sub_zero, Nat.zero_le, true_and, and_true, Nat.reduceAdd, Nat.reduceLeDiff]
            refine ⟨fun _ => ⟨fun e => ⟨fun e2 => ⟨?_, ?_⟩, fun e2 => ?_⟩, fun e => ?_⟩, fun e => absurd (by omega) e⟩
            · rw [jL_eq0 (by omega) (by omega)]; exact e2
            · rw [jL_div (by omega) (by omega) (by omega) (by omega)]
              rw [if_neg (by omega), if_neg e2] at Hx
              simp (disch := omega) only [en_ops, en_opc, iI_add, iI_mul, iI_sub, jL_add, jL_mul, iI_le, iI_lt, iI_eq, iI_eq0, iI_lt0, iI_0le, iI_le0, iI_0lt, jL_iI, iI_jL, lc_eq, lc_lt, lc_le, lc_ge, lc_gt, Nat.sub_zero, Nat.zero_le, true_and, and_true, Nat.reduceAdd, Nat.reduceLeDiff]
              exact Hx
            · rw [if_neg (by omega), if_pos (by omega)] at Hx
              exact Hx
            · rw [if_pos (by omega)] at Hx
              exact Hx
          · obtain ⟨p1, -⟩ := riP_c (g := fun c => aP (zS W).1.1 c z.toNat) (nc := (zE W).2.1) i (by omega)
            obtain ⟨st, st9⟩ := riP_s (g := fun c => aP (zS W).1.1 c z.toNat) (nc := (zE W).2.1) (k := i) (by omega)
            have ne := riB_ne (g := fun c => aP (zS W).1.1 c z.toNat) (nc := (zE W).2.1) (k := i) (by omega)
            rw [st9, st] at ih
            have b9 := br (riP (fun c => aP (zS W).1.1 c z.toNat) (zE W).2.1 i)
            generalize hbits : riP (fun c => aP (zS W).1.1 c z.toNat) (zE W).2.1 i = bits at *
            apply s_X11_look_97
            simp (disch := omega) only [B_X11_look_97, en_ops, en_opc, iI_add, iI_mul, iI_sub, jL_add, jL_mul, iI_le, iI_lt, iI_eq, iI_eq0, iI_lt0, iI_0le, iI_le0, iI_0lt, jL_iI, iI_jL, lc_eq, lc_lt, lc_le, lc_ge, lc_gt, Nat.sub_zero, Nat.zero_le, true_and, and_true, Nat.reduceAdd, Nat.reduceLeDiff]
            refine ⟨fun e => by omega, fun _ => ?_⟩
            suffices L2 : ∀ c : Nat, c ≤ (zE W).2.1 → en_V G Y_X11_look (d + 4) wN wN K 109 [.ref 110, .int (iI z), .int (iI k), .int (iI w), .int (iI (bits : Int)), .long (jL (bsP bits (zE W).2.1 (fun c => aP (zS W).1.1 c z.toNat))), x6, .long (jL (sumTo (zE W).2.1 (fun c => aP (zS W).1.1 c z.toNat))), x8, .int (iI (i : Int)), .int (iI (riB (fun c => aP (zS W).1.1 c z.toNat) bits c)), .int (iI (c : Int))] [] h1 hl hr xc xs from L2 0 (by omega)
            refine lp (zE W).2.1 ?_ (fun c hc ih2 => ?_)
            · obtain ⟨q0, q9, -⟩ := riB_r (g := fun c => aP (zS W).1.1 c z.toNat) (bits := bits) (zE W).2.1
              have en : riB (fun c => aP (zS W).1.1 c z.toNat) bits (zE W).2.1 = ((riB (fun c => aP (zS W).1.1 c z.toNat) bits (zE W).2.1).toNat : Int) := by omega
              apply s_X11_look_109
              simp (disch := omega) only [B_X11_look_109, r10, sh110, lt110, sh113, lt113, en_ops, en_opc, iI_add, iI_mul, iI_sub, jL_add, jL_mul, iI_le, iI_lt, iI_eq, iI_eq0, iI_lt0, iI_0le, iI_le0, iI_0lt, jL_iI, iI_jL, lc_eq, lc_lt, lc_le, lc_ge, lc_gt, Nat.sub_zero, Nat.zero_le, true_and, and_true, Nat.reduceAdd, Nat.reduceLeDiff]
              refine ⟨0, rfl, by decide, ?_⟩
              rw [e0]
              simp (disch := omega) only [sh110, lt110, en_ops, en_opc, iI_add, iI_mul, iI_sub, jL_add, jL_mul, iI_le, iI_lt, iI_eq, iI_eq0, iI_lt0, iI_0le, iI_le0, iI_0lt, jL_iI, iI_jL, lc_eq, lc_lt, lc_le, lc_ge, lc_gt, Nat.sub_zero, Nat.zero_le, true_and, and_true, Nat.reduceAdd, Nat.reduceLeDiff]
              refine ⟨fun _ => ?_, fun e => absurd (Int.le_refl _) e⟩
              rw [en]
              refine xA _ (by omega) _ ?_
              rw [shl_1 _ (by omega), or_at, ← en]
              have a1 := ar (riB (fun c => aP (zS W).1.1 c z.toNat) bits (zE W).2.1).toNat (by omega)
              simp (disch := omega) only [en_ops, en_opc, iI_add, iI_mul, iI_sub, jL_add, jL_mul, iI_le, iI_lt, iI_eq, iI_eq0, iI_lt0, iI_0le, iI_le0, iI_0lt, jL_iI, iI_jL, lc_eq, lc_lt, lc_le, lc_ge, lc_gt, Nat.sub_zero, Nat.zero_le, true_and, and_true, Nat.reduceAdd, Nat.reduceLeDiff]
              exact ih _ _ _ _
            · obtain ⟨q0, q9, -⟩ := riB_r (g := fun c => aP (zS W).1.1 c z.toNat) (bits := bits) c
              have st2 : riB (fun c => aP (zS W).1.1 c z.toNat) bits (c + 1) = if bits.testBit c = false ∧ (riB (fun c => aP (zS W).1.1 c z.toNat) bits c = -1 ∨ aP (zS W).1.1 (riB (fun c => aP (zS W).1.1 c z.toNat) bits c).toNat z.toNat < aP (zS W).1.1 c z.toNat) then (c : Int) else riB (fun c => aP (zS W).1.1 c z.toNat) bits c := rfl
              rw [st2] at ih2
              apply s_X11_look_109
              cases hbit : bits.testBit c
              · simp (disch := omega) only [B_X11_look_109, r10, sh110, lt110, sh113, lt113, sh_0 (show c < 32 by omega) hbit, en_ops, en_opc, iI_add, iI_mul, iI_sub, jL_add, jL_mul, iI_le, iI_lt, iI_eq, iI_eq0, iI_lt0, iI_0le, iI_le0, iI_0lt, jL_iI, iI_jL, lc_eq, lc_lt, lc_le, lc_ge, lc_gt, Nat.sub_zero, Nat.zero_le, true_and, and_true, Nat.reduceAdd, Nat.reduceLeDiff]
                refine ⟨0, rfl, by decide, ?_⟩
                rw [e0]
                simp (disch := omega) only [en_ops, en_opc, iI_add, iI_mul, iI_sub, jL_add, jL_mul, iI_le, iI_lt, iI_eq, iI_eq0, iI_lt0, iI_0le, iI_le0, iI_0lt, jL_iI, iI_jL, lc_eq, lc_lt, lc_le, lc_ge, lc_gt, Nat.sub_zero, Nat.zero_le, true_and, and_true, Nat.reduceAdd, Nat.reduceLeDiff]
                refine ⟨fun e => by omega, fun _ => ⟨fun e => (e (by first | trivial | rfl)).elim, fun _ => ⟨fun e => ?_, fun e => ?_⟩⟩⟩
                · rw [if_pos ⟨hbit, Or.inl e⟩] at ih2; exact ih2
                · refine xA _ (by omega) _ ?_
                  have en : riB (fun c => aP (zS W).1.1 c z.toNat) bits c = ((riB (fun c => aP (zS W).1.1 c z.toNat) bits c).toNat : Int) := by omega
                  simp (disch := omega) only [sh110, lt110, en_ops, en_opc, iI_add, iI_mul, iI_sub, jL_add, jL_mul, iI_le, iI_lt, iI_eq, iI_eq0, iI_lt0, iI_0le, iI_le0, iI_0lt, jL_iI, iI_jL, lc_eq, lc_lt, lc_le, lc_ge, lc_gt, Nat.sub_zero, Nat.zero_le, true_and, and_true, Nat.reduceAdd, Nat.reduceLeDiff]
                  rw [en]
                  refine xA _ (by omega) _ ?_
                  rw [← en]
                  have a1 := ar c (by omega)
                  have a2 := ar (riB (fun c => aP (zS W).1.1 c z.toNat) bits c).toNat (by omega)
                  simp (disch := omega) only [en_ops, en_opc, iI_add, iI_mul, iI_sub, jL_add, jL_mul, iI_le, iI_lt, iI_eq, iI_eq0, iI_lt0, iI_0le, iI_le0, iI_0lt, jL_iI, iI_jL, lc_eq, lc_lt, lc_le, lc_ge, lc_gt, Nat.sub_zero, Nat.zero_le, true_and, and_true, Nat.reduceAdd, Nat.reduceLeDiff]
                  refine ⟨fun e2 => ?_, fun e2 => ?_⟩
                  · rw [if_neg (fun g9 => by rcases g9.2 with g9 | g9 <;> omega)] at ih2; exact ih2
                  · rw [if_pos ⟨hbit, Or.inr (by omega)⟩] at ih2; exact ih2
              · simp (disch := omega) only [B_X11_look_109, r10, sh110, lt110, sh113, lt113, sh_1 (show c < 32 by omega) hbit, en_ops, en_opc, iI_add, iI_mul, iI_sub, jL_add, jL_mul, iI_le, iI_lt, iI_eq, iI_eq0, iI_lt0, iI_0le, iI_le0, iI_0lt, jL_iI, iI_jL, lc_eq, lc_lt, lc_le, lc_ge, lc_gt, Nat.sub_zero, Nat.zero_le, true_and, and_true, Nat.reduceAdd, Nat.reduceLeDiff]
                refine ⟨0, rfl, by decide, ?_⟩
                rw [e0]
                simp (disch := omega) only [en_ops, en_opc, iI_add, iI_mul, iI_sub, jL_add, jL_mul, iI_le, iI_lt, iI_eq, iI_eq0, iI_lt0, iI_0le, iI_le0, iI_0lt, jL_iI, iI_jL, lc_eq, lc_lt, lc_le, lc_ge, lc_gt, Nat.sub_zero, Nat.zero_le, true_and, and_true, Nat.reduceAdd, Nat.reduceLeDiff]
                rw [if_neg (fun g9 => by rw [hbit] at g9; exact absurd g9.1 (by decide))] at ih2
                exact ⟨fun e => by omega, fun _ => ⟨fun _ => ih2, fun e => absurd e (by decide)⟩⟩
        · rw [sumTo_s] at ih
          have s9 := sr c (by omega)
          have a1 := ar c (by omega)
          apply s_X11_look_64
          simp (disch := omega) only [B_X11_look_64, r10, sh110, lt110, sh113, lt113, en_ops, en_opc, iI_add, iI_mul, iI_sub, jL_add, jL_mul, iI_le, iI_lt, iI_eq, iI_eq0, iI_lt0, iI_0le, iI_le0, iI_0lt, jL_iI, iI_jL, lc_eq, lc_lt, lc_le, lc_ge, lc_gt, Nat.sub_zero, Nat.zero_le, true_and, and_true, Nat.reduceAdd, Nat.reduceLeDiff]
          refine ⟨0, rfl, by decide, ?_⟩
          rw [e0]
          simp (disch := omega) only [sh110, lt110, en_ops, en_opc, iI_add, iI_mul, iI_sub, jL_add, jL_mul, iI_le, iI_lt, iI_eq, iI_eq0, iI_lt0, iI_0le, iI_le0, iI_0lt, jL_iI, iI_jL, lc_eq, lc_lt, lc_le, lc_ge, lc_gt, Nat.sub_zero, Nat.zero_le, true_and, and_true, Nat.reduceAdd, Nat.reduceLeDiff]
          refine ⟨fun e => by omega, fun _ => xA _ (by omega) _ ?_⟩
          simp (disch := omega) only [en_ops, en_opc, iI_add, iI_mul, iI_sub, jL_add, jL_mul, iI_le, iI_lt, iI_eq, iI_eq0, iI_lt0, iI_0le, iI_le0, iI_0lt, jL_iI, iI_jL, lc_eq, lc_lt, lc_le, lc_ge, lc_gt, Nat.sub_zero, Nat.zero_le, true_and, and_true, Nat.reduceAdd, Nat.reduceLeDiff]
          exact ih _ _ _ _
      · rw [if_neg t3]
        simp (disch := omega) only [sh110, lt110, en_ops, en_opc, iI_add, iI_mul, iI_sub, jL_add, jL_mul, iI_le, iI_lt, iI_eq, iI_eq0, iI_lt0, iI_0le, iI_le0, iI_0lt, jL_iI, iI_jL, lc_eq, lc_lt, lc_le, lc_ge, lc_gt, Nat.sub_zero, Nat.zero_le, true_and, and_true, Nat.reduceAdd, Nat.reduceLeDiff]
        exact ⟨fun _ => no41 (fun g => t3 g.2.2), fun e => (e (by first | trivial | rfl)).elim⟩
    · rw [if_neg t2]
      simp (disch := omega) only [en_ops, en_opc, iI_add, iI_mul, iI_sub, jL_add, jL_mul, iI_le, iI_lt, iI_eq, iI_eq0, iI_lt0, iI_0le, iI_le0, iI_0lt, jL_iI, iI_jL, lc_eq, lc_lt, lc_le, lc_ge, lc_gt, Nat.sub_zero, Nat.zero_le, true_and, and_true, Nat.reduceAdd, Nat.reduceLeDiff]
      exact ⟨fun _ => no41 (fun g => t2 g.2.1), fun e => (e (by first | trivial | rfl)).elim⟩
  · rw [if_neg t1]
    simp (disch := omega) only [sh110, lt110, en_ops, en_opc, iI_add, iI_mul, iI_sub, jL_add, jL_mul, iI_le, iI_lt, iI_eq, iI_eq0, iI_lt0, iI_0le, iI_le0, iI_0lt, jL_iI, iI_jL, lc_eq, lc_lt, lc_le, lc_ge, lc_gt, Nat.sub_zero, Nat.zero_le, true_and, and_true, Nat.reduceAdd, Nat.reduceLeDiff]
    exact ⟨fun _ => no41 (fun g => t1 g.1), fun e => (e (by first | trivial | rfl)).elim⟩
theorem m_clike {c e : Int} (hI : InvR G W hi hr) (hz : zOK n W) (hc : iRg c) (he : iRg e) (H : rEnd G W W (if inC W c ∧ inC W e then 0 else 1) 1 (.int (iI 0)) (.int (iI (sumTo 18 (liI (zS W).1.1 (zE W).2.2.1 c.toNat e.toNat)))) K hi hl hr) : en_Call G (d + 5) xc xs Y_X11_like wN wN [.ref 110, .int (iI c), .int (iI e)] hi hl hr K := by
  obtain ⟨I1, F1, T1⟩ := hI.t1
  obtain ⟨⟨-, -, r10, -, r12, -⟩, -⟩ := id I1.1
  obtain ⟨nc12, nz6⟩ := hz.c
  obtain ⟨b, b1, b2, -⟩ := I1.e
  apply en_X11_like
  simp (disch := omega) only [B_X11_like_0, sh110, lt110, en_ops, en_opc, iI_add, iI_mul, iI_sub, jL_add, jL_mul, iI_le, iI_lt, iI_eq, iI_eq0, iI_lt0, iI_0le, iI_le0, iI_0lt, jL_iI, iI_jL, lc_eq, lc_lt, lc_le, lc_ge, lc_gt, Nat.sub_zero, Nat.zero_le, true_and, and_true, Nat.reduceAdd, Nat.reduceLeDiff]
  generalize en_up hi 110 0 (iI 0) = h1 at *
  have e1 : h1 113 1 = iI ((zE W).2.2.1 : Int) := by rw [b1 1 (by omega), b2.2.1]
  refine m_isCell (d := d + 2) (code := 1) I1 hz T1 hc (by omega) (fun t1 => ?_) (fun t1 hi' I' F' T' => ?_)
  · simp (disch := omega) only [sh110, lt110, en_ops, en_opc, iI_add, iI_mul, iI_sub, jL_add, jL_mul, iI_le, iI_lt, iI_eq, iI_eq0, iI_lt0, iI_0le, iI_le0, iI_0lt, jL_iI, iI_jL, lc_eq, lc_lt, lc_le, lc_ge, lc_gt, Nat.sub_zero, Nat.zero_le, true_and, and_true, Nat.reduceAdd, Nat.reduceLeDiff]
    refine ⟨fun e => absurd e (by decide), fun _ => m_isCell (d := d + 2) (code := 1) I1 hz T1 he (by omega) (fun t2 => ?_) (fun t2 hi' I' F' T' => ?_)⟩
    · rw [if_pos ⟨t1, t2⟩] at H
      simp (disch := omega) only [sh110, lt110, en_ops, en_opc, iI_add, iI_mul, iI_sub, jL_add, jL_mul, iI_le, iI_lt, iI_eq, iI_eq0, iI_lt0, iI_0le, iI_le0, iI_0lt, jL_iI, iI_jL, lc_eq, lc_lt, lc_le, lc_ge, lc_gt, Nat.sub_zero, Nat.zero_le, true_and, and_true, Nat.reduceAdd, Nat.reduceLeDiff]
      refine ⟨fun _ => ?_, fun e => absurd e (by decide)⟩
      have Hx := H.1 rfl h1 I1 F1 T1
      have tail : ∀ i, (zE W).2.2.1 * 3 ≤ i → i < 18 → liI (zS W).1.1 (zE W).2.2.1 c.toNat e.toNat i = 0 := fun i g1 g2 => by
        have z0 : ∀ c', (zS W).1.1 c' (i / 3) (i % 3) = 0 := fun c' => hz.f.2.1 c' _ _ (by omega)
        unfold liI shP
        rw [z0, z0]
        simp
      rw [sumTo_part (n := (zE W).2.2.1 * 3) (by omega) tail] at Hx
      suffices L : ∀ z : Nat, z ≤ (zE W).2.2.1 → ∀ x5 x6, en_V G Y_X11_like (d + 5) wN wN K 30 [.ref 110, .int (iI c), .int (iI e), .int (iI (sumTo (z * 3) (liI (zS W).1.1 (zE W).2.2.1 c.toNat e.toNat))), .int (iI (z : Int)), x5, x6] [] h1 hl hr xc xs from L 0 (by omega) _ _
      refine lp (zE W).2.2.1 (fun x5 x6 => ?_) (fun z hz9 ih x5 x6 => ?_)
      · apply s_X11_like_30
        simp (disch := omega) only [B_X11_like_30, r10, sh110, lt110, sh113, lt113, en_ops, en_opc, iI_add, iI_mul, iI_sub, jL_add, jL_mul, iI_le, iI_lt, iI_eq, iI_eq0, iI_lt0, iI_0le, iI_le0, iI_0lt, jL_iI, iI_jL, lc_eq, lc_lt, lc_le, lc_ge, lc_gt, Nat.sub_zero, Nat.zero_le, true_and, and_true, Nat.reduceAdd, Nat.reduceLeDiff]
        refine ⟨1, rfl, by decide, ?_⟩
        rw [e1]
        simp (disch := omega) only [en_ops, en_opc, iI_add, iI_mul, iI_sub, jL_add, jL_mul, iI_le, iI_lt, iI_eq, iI_eq0, iI_lt0, iI_0le, iI_le0, iI_0lt, jL_iI, iI_jL, lc_eq, lc_lt, lc_le, lc_ge, lc_gt, Nat.sub_zero, Nat.zero_le, true_and, and_true, Nat.reduceAdd, Nat.reduceLeDiff]
        exact ⟨fun _ => Hx, fun e => absurd (Int.le_refl _) e⟩
      · rw [show (z + 1) * 3 = z * 3 + 3 by omega] at ih
        apply s_X11_like_30
        simp (disch := omega) only [B_X11_like_30, r10, sh110, lt110, sh113, lt113, en_ops, en_opc, iI_add, iI_mul, iI_sub, jL_add, jL_mul, iI_le, iI_lt, iI_eq, iI_eq0, iI_lt0, iI_0le, iI_le0, iI_0lt, jL_iI, iI_jL, lc_eq, lc_lt, lc_le, lc_ge, lc_gt, Nat.sub_zero, Nat.zero_le, true_and, and_true, Nat.reduceAdd, Nat.reduceLeDiff]
        refine ⟨1, rfl, by decide, ?_⟩
        rw [e1]
        simp (disch := omega) only [en_ops, en_opc, iI_add, iI_mul, iI_sub, jL_add, jL_mul, iI_le, iI_lt, iI_eq, iI_eq0, iI_lt0, iI_0le, iI_le0, iI_0lt, jL_iI, iI_jL, lc_eq, lc_lt, lc_le, lc_ge, lc_gt, Nat.sub_zero, Nat.zero_le, true_and, and_true, Nat.reduceAdd, Nat.reduceLeDiff]
        refine ⟨fun e => by omega, fun _ => ?_⟩
        suffices L2 : ∀ k : Nat, k ≤ 3 → ∀ x6, en_V G Y_X11_like (d + 5) wN wN K 44 [.ref 110, .int (iI c), .int (iI e), .int (iI (sumTo (z * 3 + k) (liI (zS W).1.1 (zE W).2.2.1 c.toNat e.toNat))), .int (iI (z : Int)), .int (iI (k : Int)), x6] [] h1 hl hr xc xs from L2 0 (by omega) x6
        refine lp 3 (fun x6 => ?_) (fun k hk ih2 x6 => ?_)
        · apply s_X11_like_44
          simp (disch := omega) only [B_X11_like_44, en_ops, en_opc, iI_add, iI_mul, iI_sub, jL_add, jL_mul, iI_le, iI_lt, iI_eq, iI_eq0, iI_lt0, iI_0le, iI_le0, iI_0lt, jL_iI, iI_jL, lc_eq, lc_lt, lc_le, lc_ge, lc_gt, Nat.sub_zero, Nat.zero_le, true_and, and_true, Nat.reduceAdd, Nat.reduceLeDiff]
          exact ⟨fun _ => ih _ _, fun e => absurd (show (3 : Int) ≤ ((3 : Nat) : Int) by omega) e⟩
        · rw [show z * 3 + (k + 1) = (z * 3 + k) + 1 by omega, sumTo_s] at ih2
          have s1 := shP_r (c := c.toNat) (i := z * 3 + k) hz.f nz6 (by omega)
          have s2 := shP_r (c := e.toNat) (i := z * 3 + k) hz.f nz6 (by omega)
          apply s_X11_like_44
          simp (disch := omega) only [B_X11_like_44, sh110, lt110, en_ops, en_opc, iI_add, iI_mul, iI_sub, jL_add, jL_mul, iI_le, iI_lt, iI_eq, iI_eq0, iI_lt0, iI_0le, iI_le0, iI_0lt, jL_iI, iI_jL, lc_eq, lc_lt, lc_le, lc_ge, lc_gt, Nat.sub_zero, Nat.zero_le, true_and, and_true, Nat.reduceAdd, Nat.reduceLeDiff]
          refine ⟨fun e => by omega, fun _ => ?_⟩
          rw [show iI c = iI ((c.toNat : Nat) : Int) from iI_eq_of (by omega), show iI e = iI ((e.toNat : Nat) : Int) from iI_eq_of (by omega)]
          rw [show iI c = iI ((c.toNat : Nat) : Int) from iI_eq_of (by omega), show iI e = iI ((e.toNat : Nat) : Int) from iI_eq_of (by omega)] at ih2
          refine m_shareOf (d := d) (b := b) I1.1 I1.xr.1.1 b1 b2 hz.f (by omega) (by omega) hk ?_
          simp (disch := omega) only [sh110, lt110, en_ops, en_opc, iI_add, iI_mul, iI_sub, jL_add, jL_mul, iI_le, iI_lt, iI_eq, iI_eq0, iI_lt0, iI_0le, iI_le0, iI_0lt, jL_iI, iI_jL, lc_eq, lc_lt, lc_le, lc_ge, lc_gt, Nat.sub_zero, Nat.zero_le, true_and, and_true, Nat.reduceAdd, Nat.reduceLeDiff]
          refine m_shareOf (d := d) (b := b) I1.1 I1.xr.1.1 b1 b2 hz.f (by omega) (by omega) hk ?_
          rw [show 3 * z + k = z * 3 + k by omega]
          have ed : liI (zS W).1.1 (zE W).2.2.1 c.toNat e.toNat (z * 3 + k) = if shP (zS W).1.1 (zE W).2.2.1 c.toNat (z * 3 + k) - shP (zS W).1.1 (zE W).2.2.1 e.toNat (z * 3 + k) < 0 then -(shP (zS W).1.1 (zE W).2.2.1 c.toNat (z * 3 + k) - shP (zS W).1.1 (zE W).2.2.1 e.toNat (z * 3 + k)) else shP (zS W).1.1 (zE W).2.2.1 c.toNat (z * 3 + k) - shP (zS W).1.1 (zE W).2.2.1 e.toNat (z * 3 + k) := rfl
          rw [ed] at ih2
          generalize shP (zS W).1.1 (zE W).2.2.1 c.toNat (z * 3 + k) = u at *
          generalize shP (zS W).1.1 (zE W).2.2.1 e.toNat (z * 3 + k) = t at *
          simp (disch := omega) only [en_ops, en_opc, iI_add, iI_mul, iI_sub, jL_add, jL_mul, iI_le, iI_lt, iI_eq, iI_eq0, iI_lt0, iI_0le, iI_le0, iI_0lt, jL_iI, iI_jL, lc_eq, lc_lt, lc_le, lc_ge, lc_gt, Nat.sub_zero, Nat.zero_le, true_and, and_true, Nat.reduceAdd, Nat.reduceLeDiff]
          refine ⟨fun e9 => ?_, fun e9 => ?_⟩
          · rw [if_neg (by omega)] at ih2; exact ih2 _
          · rw [if_pos (by omega)] at ih2
            rw [iI_neg]
            simp (disch := omega) only [en_ops, en_opc, iI_add, iI_mul, iI_sub, jL_add, jL_mul, iI_le, iI_lt, iI_eq, iI_eq0, iI_lt0, iI_0le, iI_le0, iI_0lt, jL_iI, iI_jL, lc_eq, lc_lt, lc_le, lc_ge, lc_gt, Nat.sub_zero, Nat.zero_le, true_and, and_true, Nat.reduceAdd, Nat.reduceLeDiff]
            exact ih2 _
    · rw [if_neg (fun g => t2 g.2)] at H
      simp (disch := omega) only [en_ops, en_opc, iI_add, iI_mul, iI_sub, jL_add, jL_mul, iI_le, iI_lt, iI_eq, iI_eq0, iI_lt0, iI_0le, iI_le0, iI_0lt, jL_iI, iI_jL, lc_eq, lc_lt, lc_le, lc_ge, lc_gt, Nat.sub_zero, Nat.zero_le, true_and, and_true, Nat.reduceAdd, Nat.reduceLeDiff]
      exact ⟨fun e => (e (by first | trivial | rfl)).elim, fun _ => H.no F1 (by omega) rfl I' F' T'⟩
  · rw [if_neg (fun g => t1 g.1)] at H
    simp (disch := omega) only [en_ops, en_opc, iI_add, iI_mul, iI_sub, jL_add, jL_mul, iI_le, iI_lt, iI_eq, iI_eq0, iI_lt0, iI_0le, iI_le0, iI_0lt, jL_iI, iI_jL, lc_eq, lc_lt, lc_le, lc_ge, lc_gt, Nat.sub_zero, Nat.zero_le, true_and, and_true, Nat.reduceAdd, Nat.reduceLeDiff]
    exact ⟨fun _ => H.no F1 (by omega) rfl I' F' T', fun e => (e (by first | trivial | rfl)).elim⟩
end
