section
variable {G : en_G} {d : Nat} {K : en_K} {W : zW} {n : Nat} {hi : en_I} {hl : en_L} {hr : en_F} {xc xs : Nat}
theorem cIn.s {pl : Nat} {P : Nat → Prop} {hi' : en_I} (h : cIn G W pl hi) (hz : zOK n W) (hpl : isPl pl) (F : Fr P hi hi') (hP : ∀ x, P x → (34 ≤ x ∧ x ≤ 49) ∧ x ≠ 37) : cIn G W pl hi' := h.q hz hpl F (fun x g => (hP x g).1) (h.2.2.2.2.2.2.2.2.1.frP hpl F (fun x g => by have := hP x g; omega))
theorem InvC.s {P : Nat → Prop} {hi' : en_I} (h : InvC G W hi hr) (hz : zOK n W) (F : Fr P hi hi') (hP : ∀ x, P x → (34 ≤ x ∧ x ≤ 49) ∧ x ≠ 37) : InvC G W hi' hr := by
  obtain ⟨pl, hR, hN⟩ := h
  exact ⟨pl, hR, hN.s hz hR.2.1.2.2.1 F hP⟩
theorem InvC.gol {l : Nat} (hI : InvC G W hi hr) (hz : zOK n W) (hl9 : l < zNl W) : ∃ pl, (cR pl hr ∧ cIn G W pl hi) ∧ seS pl (50 + 4 * l) hr ∧ eOK (eL W l) ∧ seH G pl (50 + 4 * l) (eL W l) hi ∧ hsH 16 (eL W l) (zS W).1 hi ∧ hr 14 l = .ref (50 + 4 * l) ∧ hr 0 5 = .ref 14 ∧ hr 0 16 = .ref 34 := by
  obtain ⟨pl, hR, hN⟩ := hI
  obtain ⟨z1, z2, z3, z4, z5, z6, z7, z8, z9, z10, z11⟩ := id hz
  obtain ⟨c1, c2, c3, c4, c5, c6, c7, c8, -⟩ := id hR
  obtain ⟨a1, a3, a4, a5, a6, a7, a8, a9, a10, a11, a12⟩ := id hN
  exact ⟨pl, ⟨hR, hN⟩, c2.se c7 (by omega), z7.e z5 hl9, sxH.se a10 (a8 l hl9), a11.1, (c7 l (by omega)).2, c1.2.2.2.1, c1.2.2.2.2.2.2.2.2.2.2.2.1⟩
theorem wvB.ok {x y z : Int} (h : wvB x y z) : wOK (x, y, z) := by
  unfold wvB at h
  exact ⟨⟨by show 1 ≤ x; omega, by show x ≤ 30; omega⟩, ⟨by show 1 ≤ y; omega, by show y ≤ 20; omega⟩, by show z = 0 ∨ z = 1; omega⟩
theorem up3 {h b f : Int} : Fr (· = 35) hi (en_up (en_up (en_up hi 35 4 (iI h)) 35 5 (iI b)) 35 6 (iI f)) ∧ wvH h b f (en_up (en_up (en_up hi 35 4 (iI h)) 35 5 (iI b)) 35 6 (iI f)) := by
  refine ⟨Fr.up (Fr.up (Fr.up Fr.rf (by rfl)) (by rfl)) (by rfl), ?_, ?_, ?_⟩
  · rw [up_ne (Or.inr (by omega)), up_ne (Or.inr (by omega)), up_at]
  · rw [up_ne (Or.inr (by omega)), up_at]
  · rw [up_at]
theorem c_wave {l h b f : Int} (hI : InvC G W hi hr) (hz : zOK n W) (hn : n ≤ 512) (h1 : 3 ≤ xc) (h6 : 18 ≤ xs) (hlr : iRg l) (hh : iRg h) (hb : iRg b) (hf : iRg f) {r : Nat} (hr0 : inL W l → wvB h b f → isNow W → r = 0) (hr1 : ¬ inL W l → r = 2) (hr2 : inL W l → ¬ wvB h b f → r = 3) (hr3 : inL W l → wvB h b f → ¬ isNow W → r = 4)
    (H : cEnd G W (zPut W (hrP (eL W l.toNat) (h, b, f) (zS W).1, (zS W).2)) r (.int (iI (hmP (eL W l.toNat) (h, b, f) (zS W).1))) K hi hl hr) : en_Call G (d + 7) xc xs Y_X10_wave wN wN [.ref 0, .int (iI l), .int (iI h), .int (iI b), .int (iI f)] hi hl hr K := by
  obtain ⟨r9, hSh, hX⟩ := hI.o
  have nl4 := hz.2.1
  apply en_X10_wave
  simp (disch := omega) only [B_X10_wave_0, sh0, lt0, en_ops, en_opc, iI_add, iI_mul, iI_sub, jL_add, jL_mul, iI_le, iI_lt, iI_eq, iI_eq0, iI_lt0, iI_0le, iI_le0, iI_0lt, jL_iI, iI_jL, lc_eq, lc_lt, lc_le, lc_ge, lc_gt, Nat.sub_zero, Nat.zero_le, true_and, and_true, Nat.reduceAdd, Nat.reduceLeDiff]
  refine ⟨by omega, by omega, c_needLaw hI hz (by omega) (by omega) hlr (fun e1 => ?_) (fun e hi' I' F' => H.2 1 (by omega) (hr1 e) hi' hl hr I' F' Fc.rf Fc.rf)⟩
  simp (disch := omega) only [en_ops, en_opc, iI_add, iI_mul, iI_sub, jL_add, jL_mul, iI_le, iI_lt, iI_eq, iI_eq0, iI_lt0, iI_0le, iI_le0, iI_0lt, jL_iI, iI_jL, lc_eq, lc_lt, lc_le, lc_ge, lc_gt, Nat.sub_zero, Nat.zero_le, true_and, and_true, Nat.reduceAdd, Nat.reduceLeDiff]
  refine c_isWave hh hb hf (fun q hq9 => ?_)
  by_cases t1 : wvB h b f
  · obtain rfl : q = 1 := by rcases hq9 with g | g; exact g.1; exact absurd t1 g.2
    simp (disch := omega) only [sh0, lt0, en_ops, en_opc, iI_add, iI_mul, iI_sub, jL_add, jL_mul, iI_le, iI_lt, iI_eq, iI_eq0, iI_lt0, iI_0le, iI_le0, iI_0lt, jL_iI, iI_jL, lc_eq, lc_lt, lc_le, lc_ge, lc_gt, Nat.sub_zero, Nat.zero_le, true_and, and_true, Nat.reduceAdd, Nat.reduceLeDiff]
    refine ⟨by omega, by omega, c_needRight hI hz (by omega) (by omega) (Or.inr rfl) (fun _ => ?_) (fun e => absurd e (by decide))⟩
    simp (disch := omega) only [sh0, lt0, en_ops, en_opc, iI_add, iI_mul, iI_sub, jL_add, jL_mul, iI_le, iI_lt, iI_eq, iI_eq0, iI_lt0, iI_0le, iI_le0, iI_0lt, jL_iI, iI_jL, lc_eq, lc_lt, lc_le, lc_ge, lc_gt, Nat.sub_zero, Nat.zero_le, true_and, and_true, Nat.reduceAdd, Nat.reduceLeDiff]
    refine ⟨by omega, by omega, c_needHours hI hz (by omega) (by omega) (fun e5 => ?_) (fun e hi' I' F' => H.2 3 (by omega) (hr3 e1 t1 e) hi' hl hr I' F' Fc.rf Fc.rf)⟩
    obtain ⟨pl, ⟨hR, hN⟩, hS, hE, hse, hq, r14, r5, r16⟩ := hI.gol hz (l := l.toNat) (by omega)
    have Hx := H.1 (hr0 e1 t1 e5)
    simp (disch := omega) only [r16, sh0, lt0, sh34, lt34, en_ops, en_opc, iI_add, iI_mul, iI_sub, jL_add, jL_mul, iI_le, iI_lt, iI_eq, iI_eq0, iI_lt0, iI_0le, iI_le0, iI_0lt, jL_iI, iI_jL, lc_eq, lc_lt, lc_le, lc_ge, lc_gt, Nat.sub_zero, Nat.zero_le, true_and, and_true, Nat.reduceAdd, Nat.reduceLeDiff]
    refine t_setWave hS.1 ?_
    obtain ⟨F8, W8⟩ := up3 (hi := hi) (h := h) (b := b) (f := f)
    simp (disch := omega) only [r5, r9, r16, sh0, lt0, sh14, lt14, sh34, lt34, en_ops, en_opc, iI_add, iI_mul, iI_sub, jL_add, jL_mul, iI_le, iI_lt, iI_eq, iI_eq0, iI_lt0, iI_0le, iI_le0, iI_0lt, jL_iI, iI_jL, lc_eq, lc_lt, lc_le, lc_ge, lc_gt, Nat.sub_zero, Nat.zero_le, true_and, and_true, Nat.reduceAdd, Nat.reduceLeDiff]
    generalize en_up (en_up (en_up hi 35 4 (iI h)) 35 5 (iI b)) 35 6 (iI f) = h8 at F8 W8 ⊢
    refine ⟨l.toNat, iI_eq_of (by omega), by omega, 50 + 4 * l.toNat, r14, by omega, ?_⟩
    have O8 : hOK (eL W l.toNat) (zS W).1 := hz.x.h hn e5.1
    refine t_hour (d := d + 1) (w := (h, b, f)) hS hE (hse.fr35 hS.2.2.1 hS.2.2.2.2.1 F8 (fun x g1 g2 => g1 g2)) is16 hSh (hq.fr35 is16 F8 (fun x g1 g2 => by omega)) O8 e5.2 W8 t1.ok (fun h7 F7 A7 Q7 O7 S7 W7 => ?_)
    simp (disch := omega) only [en_ops, en_opc, iI_add, iI_mul, iI_sub, jL_add, jL_mul, iI_le, iI_lt, iI_eq, iI_eq0, iI_lt0, iI_0le, iI_le0, iI_0lt, jL_iI, iI_jL, lc_eq, lc_lt, lc_le, lc_ge, lc_gt, Nat.sub_zero, Nat.zero_le, true_and, and_true, Nat.reduceAdd, Nat.reduceLeDiff]
    have F87 : Fa 16 hi h7 := (Fa.w is16 F8).tr ⟨F7, A7⟩
    exact Hx h7 hl hr (InvC.waves hR hN hz F87 Q7 S7) F87.c Fc.rf Fc.rf
  · obtain rfl : q = 0 := by rcases hq9 with g | g; exact absurd g.2 t1; exact g.1
    simp (disch := omega) only [sh0, lt0, en_ops, en_opc, iI_add, iI_mul, iI_sub, jL_add, jL_mul, iI_le, iI_lt, iI_eq, iI_eq0, iI_lt0, iI_0le, iI_le0, iI_0lt, jL_iI, iI_jL, lc_eq, lc_lt, lc_le, lc_ge, lc_gt, Nat.sub_zero, Nat.zero_le, true_and, and_true, Nat.reduceAdd, Nat.reduceLeDiff]
    exact ⟨by omega, by omega, c_needRight hI hz (by omega) (by omega) (Or.inl rfl) (fun e => absurd e (by decide)) (fun _ hi' I' F' => H.2 2 (by omega) (hr2 e1 t1) hi' hl hr I' F' Fc.rf Fc.rf)⟩
/-- what a law says -/
def syP (W : zW) (l w c z k : Nat) (h b f : Int) : Int := if w = 2 then zVs W l 2 (nmL 0 0 0 0 h b f ((zS W).1.2.1 c) c) else zVs W l w (nmS (zS W).1.1 (zE W).2.2.1 h b f ((zS W).1.2.1 c) c z k)
abbrev sayB (W : zW) (w z k h b f : Int) : Prop := (0 ≤ w ∧ w ≤ 2) ∧ inZ W z ∧ (0 ≤ k ∧ k < 3) ∧ wvB h b f
theorem c_says {l w c z k h b f : Int} (hI : InvC G W hi hr) (hz : zOK n W) (h1 : 3 ≤ xc) (h6 : 18 ≤ xs) (hlr : iRg l) (hw : iRg w) (hc : iRg c) (hzr : iRg z) (hk : iRg k) (hh : iRg h) (hb : iRg b) (hf : iRg f) {r : Nat} (hr0 : inC W c → inL W l → sayB W w z k h b f → r = 0) (hr1 : ¬ inC W c → r = 1) (hr2 : inC W c → ¬ inL W l → r = 2) (hr3 : inC W c → inL W l → ¬ sayB W w z k h b f → r = 3)
    (H : cEnd G W W r (.int (iI (syP W l.toNat w.toNat c.toNat z.toNat k.toNat h b f))) K hi hl hr) : en_Call G (d + 5) xc xs Y_X10_says wN wN [.ref 0, .int (iI l), .int (iI w), .int (iI c), .int (iI z), .int (iI k), .int (iI h), .int (iI b), .int (iI f)] hi hl hr K := by
  obtain ⟨r9, hSh, hX⟩ := hI.o
  obtain ⟨nc12, nz6⟩ := hz.c
  have nl4 := hz.2.1
  have y2 := hSh.2.1
  apply en_X10_says
  simp (disch := omega) only [B_X10_says_0, sh0, lt0, en_ops, en_opc, iI_add, iI_mul, iI_sub, jL_add, jL_mul, iI_le, iI_lt, iI_eq, iI_eq0, iI_lt0, iI_0le, iI_le0, iI_0lt, jL_iI, iI_jL, lc_eq, lc_lt, lc_le, lc_ge, lc_gt, Nat.sub_zero, Nat.zero_le, true_and, and_true, Nat.reduceAdd, Nat.reduceLeDiff]
  refine c_isCell hI hz hc ?_
  by_cases e1 : inC W c
  · rw [if_pos e1]
    simp (disch := omega) only [sh0, lt0, en_ops, en_opc, iI_add, iI_mul, iI_sub, jL_add, jL_mul, iI_le, iI_lt, iI_eq, iI_eq0, iI_lt0, iI_0le, iI_le0, iI_0lt, jL_iI, iI_jL, lc_eq, lc_lt, lc_le, lc_ge, lc_gt, Nat.sub_zero, Nat.zero_le, true_and, and_true, Nat.reduceAdd, Nat.reduceLeDiff]
    refine ⟨by omega, by omega, c_needPlace hI hz (by omega) (by omega) (Or.inr rfl) (fun _ => ?_) (fun e => absurd e (by decide))⟩
    simp (disch := omega) only [sh0, lt0, en_ops, en_opc, iI_add, iI_mul, iI_sub, jL_add, jL_mul, iI_le, iI_lt, iI_eq, iI_eq0, iI_lt0, iI_0le, iI_le0, iI_0lt, jL_iI, iI_jL, lc_eq, lc_lt, lc_le, lc_ge, lc_gt, Nat.sub_zero, Nat.zero_le, true_and, and_true, Nat.reduceAdd, Nat.reduceLeDiff]
    refine ⟨by omega, by omega, c_needLaw hI hz (by omega) (by omega) hlr (fun e2 => ?_) (fun e hi' I' F' => H.2 1 (by omega) (hr2 e1 e) hi' hl hr I' F' Fc.rf Fc.rf)⟩
    simp (disch := omega) only [sh0, lt0, en_ops, en_opc, iI_add, iI_mul, iI_sub, jL_add, jL_mul, iI_le, iI_lt, iI_eq, iI_eq0, iI_lt0, iI_0le, iI_le0, iI_0lt, jL_iI, iI_jL, lc_eq, lc_lt, lc_le, lc_ge, lc_gt, Nat.sub_zero, Nat.zero_le, true_and, and_true, Nat.reduceAdd, Nat.reduceLeDiff]
    have no : ¬ sayB W w z k h b f → en_V G Y_X10_says (d + 5) wN wN K 58 [.ref 0, .int (iI l), .int (iI w), .int (iI c), .int (iI z), .int (iI k), .int (iI h), .int (iI b), .int (iI f)] [.int (iI 0), .ref 0] hi hl hr (xc - 1 - 1) (xs - 6 - 6) := fun e => by
      apply s_X10_says_58
      simp (disch := omega) only [B_X10_says_58, sh0, lt0, en_ops, en_opc, iI_add, iI_mul, iI_sub, jL_add, jL_mul, iI_le, iI_lt, iI_eq, iI_eq0, iI_lt0, iI_0le, iI_le0, iI_0lt, jL_iI, iI_jL, lc_eq, lc_lt, lc_le, lc_ge, lc_gt, Nat.sub_zero, Nat.zero_le, true_and, and_true, Nat.reduceAdd, Nat.reduceLeDiff]
      exact ⟨by omega, by omega, c_needRight hI hz (by omega) (by omega) (Or.inl rfl) (fun e => absurd e (by decide)) (fun _ hi' I' F' => H.2 2 (by omega) (hr3 e1 e2 e) hi' hl hr I' F' Fc.rf Fc.rf)⟩
    refine c_isWithin hw (iRg_i (by decide) (by decide)) (iRg_i (by decide) (by decide)) ?_
    by_cases t1 : 0 ≤ w ∧ w ≤ 2
    · rw [if_pos t1]
      simp (disch := omega) only [sh0, lt0, en_ops, en_opc, iI_add, iI_mul, iI_sub, jL_add, jL_mul, iI_le, iI_lt, iI_eq, iI_eq0, iI_lt0, iI_0le, iI_le0, iI_0lt, jL_iI, iI_jL, lc_eq, lc_lt, lc_le, lc_ge, lc_gt, Nat.sub_zero, Nat.zero_le, true_and, and_true, Nat.reduceAdd, Nat.reduceLeDiff]
      refine ⟨fun e => absurd e (by decide), fun _ => c_isSize hI hz hzr ?_⟩
      by_cases t2 : inZ W z
      · rw [if_pos t2]
        simp (disch := omega) only [sh0, lt0, en_ops, en_opc, iI_add, iI_mul, iI_sub, jL_add, jL_mul, iI_le, iI_lt, iI_eq, iI_eq0, iI_lt0, iI_0le, iI_le0, iI_0lt, jL_iI, iI_jL, lc_eq, lc_lt, lc_le, lc_ge, lc_gt, Nat.sub_zero, Nat.zero_le, true_and, and_true, Nat.reduceAdd, Nat.reduceLeDiff]
        refine ⟨fun e => absurd e (by decide), fun _ => c_isStuff hk ?_⟩
        by_cases t3 : 0 ≤ k ∧ k < 3
        · rw [if_pos t3]
          simp (disch := omega) only [sh0, lt0, en_ops, en_opc, iI_add, iI_mul, iI_sub, jL_add, jL_mul, iI_le, iI_lt, iI_eq, iI_eq0, iI_lt0, iI_0le, iI_le0, iI_0lt, jL_iI, iI_jL, lc_eq, lc_lt, lc_le, lc_ge, lc_gt, Nat.sub_zero, Nat.zero_le, true_and, and_true, Nat.reduceAdd, Nat.reduceLeDiff]
          refine ⟨fun e => absurd e (by decide), fun _ => c_isWave hh hb hf (fun q hq9 => ?_)⟩
          by_cases t4 : wvB h b f
          · obtain rfl : q = 1 := by rcases hq9 with g | g; exact g.1; exact absurd t4 g.2
            simp (disch := omega) only [sh0, lt0, en_ops, en_opc, iI_add, iI_mul, iI_sub, jL_add, jL_mul, iI_le, iI_lt, iI_eq, iI_eq0, iI_lt0, iI_0le, iI_le0, iI_0lt, jL_iI, iI_jL, lc_eq, lc_lt, lc_le, lc_ge, lc_gt, Nat.sub_zero, Nat.zero_le, true_and, and_true, Nat.reduceAdd, Nat.reduceLeDiff]
            refine ⟨fun e => absurd e (by decide), fun _ => ?_⟩
            have Hx := H.1 (hr0 e1 e2 ⟨t1, t2, t3, t4⟩)
            obtain ⟨pl, ⟨hR, hN⟩, hS, hE, hse, hq, r14, r5, r16⟩ := hI.gol hz (l := l.toNat) (by omega)
            apply s_X10_says_58
            simp (disch := omega) only [B_X10_says_58, sh0, lt0, en_ops, en_opc, iI_add, iI_mul, iI_sub, jL_add, jL_mul, iI_le, iI_lt, iI_eq, iI_eq0, iI_lt0, iI_0le, iI_le0, iI_0lt, jL_iI, iI_jL, lc_eq, lc_lt, lc_le, lc_ge, lc_gt, Nat.sub_zero, Nat.zero_le, true_and, and_true, Nat.reduceAdd, Nat.reduceLeDiff]
            refine ⟨by omega, by omega, c_needRight hI hz (by omega) (by omega) (Or.inr rfl) (fun _ => ?_) (fun e => absurd e (by decide))⟩
            simp (disch := omega) only [r16, sh0, lt0, sh34, lt34, en_ops, en_opc, iI_add, iI_mul, iI_sub, jL_add, jL_mul, iI_le, iI_lt, iI_eq, iI_eq0, iI_lt0, iI_0le, iI_le0, iI_0lt, jL_iI, iI_jL, lc_eq, lc_lt, lc_le, lc_ge, lc_gt, Nat.sub_zero, Nat.zero_le, true_and, and_true, Nat.reduceAdd, Nat.reduceLeDiff]
            refine t_setWave hS.1 ?_
            obtain ⟨F8, W8⟩ := up3 (hi := hi) (h := h) (b := b) (f := f)
            simp (disch := omega) only [r5, r9, r16, y2, sh0, lt0, sh14, lt14, sh34, lt34, sh16, lt16, sh18, lt18, en_ops, en_opc, iI_add, iI_mul, iI_sub, jL_add, jL_mul, iI_le, iI_lt, iI_eq, iI_eq0, iI_lt0, iI_0le, iI_le0, iI_0lt, jL_iI, iI_jL, lc_eq, lc_lt, lc_le, lc_ge, lc_gt, Nat.sub_zero, Nat.zero_le, true_and, and_true, Nat.reduceAdd, Nat.reduceLeDiff]
            generalize en_up (en_up (en_up hi 35 4 (iI h)) 35 5 (iI b)) 35 6 (iI f) = h8 at F8 W8 ⊢
            have c8 : h8 18 c.toNat = iI ((zS W).1.2.1 c.toNat) := by rw [F8 18 (by decide)]; exact hX.1.2.1 _ (by omega)
            have V8 := hse.2.2.1.mono hS.2.2.2.2.1 F8 (fun x g => by omega)
            have fin : ∀ h7, Fr P56 h8 h7 → InvC G W h7 hr ∧ Fc hi h7 := fun h7 F7 => by
              have F87 : Fr P56 hi h7 := (F8.mono (fun x e => Or.inl e)).tr F7
              exact ⟨hI.s hz F87 (fun x g => by unfold P56 at g; omega), Fc.of F87 (fun x g => by unfold P56 at g; omega)⟩
            unfold syP at Hx
            refine ⟨fun e => ⟨l.toNat, iI_eq_of (by omega), by omega, 50 + 4 * l.toNat, r14, by omega, ?_⟩, fun e => ⟨l.toNat, iI_eq_of (by omega), by omega, 50 + 4 * l.toNat, r14, by omega, c.toNat, iI_eq_of (by omega), by omega, ?_⟩⟩
            · rw [if_neg (by omega)] at Hx
              rw [show w = ((w.toNat : Nat) : Int) by omega, show c = ((c.toNat : Nat) : Int) by omega, show z = ((z.toNat : Nat) : Int) by omega, show k = ((k.toNat : Nat) : Int) by omega]
              refine t_ask (d := d + 1) (V := zVs W l.toNat) (he := h) (bt := b) (fr := f) (nz := (zE W).2.2.1) (nc := (zE W).2.1) hS.1 hS.2.2.2.2.1 hS.2.2.2.2.2 V8 W8 (by omega) is16 hSh (shH.fr is16 hX.1.1 F8 (fun x g1 g2 => by omega)) hz.f (by omega) (by omega) c8 (fun h7 F7 W7 => ?_)
              simp (disch := omega) only [en_ops, en_opc, iI_add, iI_mul, iI_sub, jL_add, jL_mul, iI_le, iI_lt, iI_eq, iI_eq0, iI_lt0, iI_0le, iI_le0, iI_0lt, jL_iI, iI_jL, lc_eq, lc_lt, lc_le, lc_ge, lc_gt, Nat.sub_zero, Nat.zero_le, true_and, and_true, Nat.reduceAdd, Nat.reduceLeDiff]
              exact Hx h7 hl hr (fin h7 F7).1 (fin h7 F7).2 Fc.rf Fc.rf
            · rw [if_pos (by omega)] at Hx
              rw [c8, show c = ((c.toNat : Nat) : Int) by omega]
              refine t_reach (d := d + 1) (V := zVs W l.toNat) (he := h) (bt := b) (fr := f) hS.1 hS.2.2.2.2.1 hS.2.2.2.2.2 V8 W8 (fun h7 F7 W7 => ?_)
              simp (disch := omega) only [en_ops, en_opc, iI_add, iI_mul, iI_sub, jL_add, jL_mul, iI_le, iI_lt, iI_eq, iI_eq0, iI_lt0, iI_0le, iI_le0, iI_0lt, jL_iI, iI_jL, lc_eq, lc_lt, lc_le, lc_ge, lc_gt, Nat.sub_zero, Nat.zero_le, true_and, and_true, Nat.reduceAdd, Nat.reduceLeDiff]
              exact Hx h7 hl hr (fin h7 F7).1 (fin h7 F7).2 Fc.rf Fc.rf
          · obtain rfl : q = 0 := by rcases hq9 with g | g; exact absurd g.2 t4; exact g.1
            simp (disch := omega) only [sh0, lt0, en_ops, en_opc, iI_add, iI_mul, iI_sub, jL_add, jL_mul, iI_le, iI_lt, iI_eq, iI_eq0, iI_lt0, iI_0le, iI_le0, iI_0lt, jL_iI, iI_jL, lc_eq, lc_lt, lc_le, lc_ge, lc_gt, Nat.sub_zero, Nat.zero_le, true_and, and_true, Nat.reduceAdd, Nat.reduceLeDiff]
            exact ⟨fun _ => no (fun g => t4 g.2.2.2), fun e => (e (by first | trivial | rfl)).elim⟩
        · rw [if_neg t3]
          simp (disch := omega) only [sh0, lt0, en_ops, en_opc, iI_add, iI_mul, iI_sub, jL_add, jL_mul, iI_le, iI_lt, iI_eq, iI_eq0, iI_lt0, iI_0le, iI_le0, iI_0lt, jL_iI, iI_jL, lc_eq, lc_lt, lc_le, lc_ge, lc_gt, Nat.sub_zero, Nat.zero_le, true_and, and_true, Nat.reduceAdd, Nat.reduceLeDiff]
          exact ⟨fun _ => no (fun g => t3 g.2.2.1), fun e => (e (by first | trivial | rfl)).elim⟩
      · rw [if_neg t2]
        simp (disch := omega) only [sh0, lt0, en_ops, en_opc, iI_add, iI_mul, iI_sub, jL_add, jL_mul, iI_le, iI_lt, iI_eq, iI_eq0, iI_lt0, iI_0le, iI_le0, iI_0lt, jL_iI, iI_jL, lc_eq, lc_lt, lc_le, lc_ge, lc_gt, Nat.sub_zero, Nat.zero_le, true_and, and_true, Nat.reduceAdd, Nat.reduceLeDiff]
        exact ⟨fun _ => no (fun g => t2 g.2.1), fun e => (e (by first | trivial | rfl)).elim⟩
    · rw [if_neg t1]
      simp (disch := omega) only [sh0, lt0, en_ops, en_opc, iI_add, iI_mul, iI_sub, jL_add, jL_mul, iI_le, iI_lt, iI_eq, iI_eq0, iI_lt0, iI_0le, iI_le0, iI_0lt, jL_iI, iI_jL, lc_eq, lc_lt, lc_le, lc_ge, lc_gt, Nat.sub_zero, Nat.zero_le, true_and, and_true, Nat.reduceAdd, Nat.reduceLeDiff]
      exact ⟨fun _ => no (fun g => t1 g.1), fun e => (e (by first | trivial | rfl)).elim⟩
  · rw [if_neg e1]
    simp (disch := omega) only [sh0, lt0, en_ops, en_opc, iI_add, iI_mul, iI_sub, jL_add, jL_mul, iI_le, iI_lt, iI_eq, iI_eq0, iI_lt0, iI_0le, iI_le0, iI_0lt, jL_iI, iI_jL, lc_eq, lc_lt, lc_le, lc_ge, lc_gt, Nat.sub_zero, Nat.zero_le, true_and, and_true, Nat.reduceAdd, Nat.reduceLeDiff]
    exact ⟨by omega, by omega, c_needPlace hI hz (by omega) (by omega) (Or.inl rfl) (fun e => absurd e (by decide)) (fun _ hi' I' F' => H.2 0 (by omega) (hr1 e1) hi' hl hr I' F' Fc.rf Fc.rf)⟩
/-- which law -/
def whF (W : zW) (y : Nat) : Int × Int := lsF (fun _ => true) (nrG (zE W) (zVs W) (zYs W y).2 (zYs W y).1 (zS W).2.2.2 (zS W).1) (-1) (zNl W)
theorem c_which {y w : Int} (hI : InvC G W hi hr) (hz : zOK n W) (hn : n ≤ 512) (h1 : 3 ≤ xc) (h6 : 18 ≤ xs) (hyr : iRg y) (hw : iRg w) (H : cEnd G W W (if inY W y then if 0 ≤ w ∧ w ≤ 1 then if isNow W then 0 else 4 else 3 else 2) (.int (iI (if w = 0 then (whF W y.toNat).1 else (whF W y.toNat).2))) K hi hl hr) : en_Call G (d + 9) xc xs Y_X10_which wN wN [.ref 0, .int (iI y), .int (iI w)] hi hl hr K := by
  obtain ⟨r9, hSh, hX⟩ := hI.o
  have ny4 := hz.2.2.1
  apply en_X10_which
  simp (disch := omega) only [B_X10_which_0, sh0, lt0, en_ops, en_opc, iI_add, iI_mul, iI_sub, jL_add, jL_mul, iI_le, iI_lt, iI_eq, iI_eq0, iI_lt0, iI_0le, iI_le0, iI_0lt, jL_iI, iI_jL, lc_eq, lc_lt, lc_le, lc_ge, lc_gt, Nat.sub_zero, Nat.zero_le, true_and, and_true, Nat.reduceAdd, Nat.reduceLeDiff]
  refine ⟨by omega, by omega, c_needYear hI hz (by omega) (by omega) hyr (fun e1 => ?_) (fun e hi' I' F' => H.2 1 (by omega) (by rw [if_neg e]) hi' hl hr I' F' Fc.rf Fc.rf)⟩
  simp (disch := omega) only [sh0, lt0, en_ops, en_opc, iI_add, iI_mul, iI_sub, jL_add, jL_mul, iI_le, iI_lt, iI_eq, iI_eq0, iI_lt0, iI_0le, iI_le0, iI_0lt, jL_iI, iI_jL, lc_eq, lc_lt, lc_le, lc_ge, lc_gt, Nat.sub_zero, Nat.zero_le, true_and, and_true, Nat.reduceAdd, Nat.reduceLeDiff]
  refine c_isWithin hw (iRg_i (by decide) (by decide)) (iRg_i (by decide) (by decide)) ?_
  by_cases e2 : 0 ≤ w ∧ w ≤ 1
  · rw [if_pos e2]
    simp (disch := omega) only [sh0, lt0, en_ops, en_opc, iI_add, iI_mul, iI_sub, jL_add, jL_mul, iI_le, iI_lt, iI_eq, iI_eq0, iI_lt0, iI_0le, iI_le0, iI_0lt, jL_iI, iI_jL, lc_eq, lc_lt, lc_le, lc_ge, lc_gt, Nat.sub_zero, Nat.zero_le, true_and, and_true, Nat.reduceAdd, Nat.reduceLeDiff]
    refine ⟨by omega, by omega, c_needRight hI hz (by omega) (by omega) (Or.inr rfl) (fun _ => ?_) (fun e => absurd e (by decide))⟩
    simp (disch := omega) only [sh0, lt0, en_ops, en_opc, iI_add, iI_mul, iI_sub, jL_add, jL_mul, iI_le, iI_lt, iI_eq, iI_eq0, iI_lt0, iI_0le, iI_le0, iI_0lt, jL_iI, iI_jL, lc_eq, lc_lt, lc_le, lc_ge, lc_gt, Nat.sub_zero, Nat.zero_le, true_and, and_true, Nat.reduceAdd, Nat.reduceLeDiff]
    refine ⟨by omega, by omega, c_needHours hI hz (by omega) (by omega) (fun e5 => ?_) (fun e hi' I' F' => H.2 3 (by omega) (by rw [if_pos e1, if_pos e2, if_neg e]) hi' hl hr I' F' Fc.rf Fc.rf)⟩
    have Hx := H.1 (by rw [if_pos e1, if_pos e2, if_pos e5])
    obtain ⟨pl, hR, hN⟩ := id hI
    obtain ⟨z1, z2, z3, z4, z5, z6, z7, z8, z9, z10, z11⟩ := id hz
    obtain ⟨c1, c2, c3, c4, c5, c6, c7, c8, -⟩ := id hR
    obtain ⟨a1, a3, a4, a5, a6, a7, a8, a9, a10, a11, a12⟩ := id hN
    have r5 := c1.2.2.2.1
    have r7 := c1.2.2.2.2.1
    have r17 := c1.2.2.2.2.2.2.2.2.2.2.2.2.1
    obtain ⟨hyR, r15⟩ := c8 y.toNat (by omega)
    simp (disch := omega) only [r5, r7, r9, r17, sh0, lt0, sh14, lt14, sh15, lt15, sh38, lt38, a4, en_ops, en_opc, iI_add, iI_mul, iI_sub, jL_add, jL_mul, iI_le, iI_lt, iI_eq, iI_eq0, iI_lt0, iI_0le, iI_le0, iI_0lt, jL_iI, iI_jL, lc_eq, lc_lt, lc_le, lc_ge, lc_gt, Nat.sub_zero, Nat.zero_le, true_and, and_true, Nat.reduceAdd, Nat.reduceLeDiff]
    refine ⟨y.toNat, iI_eq_of (by omega), by omega, 66 + 5 * y.toNat, r15, by omega, ?_⟩
    refine t_nearest (d := d + 1) (m := (zS W).2.2.2) (Y := (zYs W y.toNat).2) c5 c2 c7 z7 z5 a8 z2 a10 a11.1 (z10.h hn e5.1) (fun c z hc hz9 => ⟨a11.2.2.2 c z hc hz9, z10.2.2.2.2.2.1 c z hc hz9⟩) (show isYe (66 + 5 * y.toNat) by unfold isYe; omega) hyR (a9 y.toNat (by omega)) (fun h8 F8 S8 B8 C8 => ?_)
    have Hy := Hx h8 hl hr ⟨pl, hR, hN.q hz hR.2.1.2.2.1 F8 (fun x g => g.c) S8⟩ (Fc.of F8 (fun x g => g.f)) Fc.rf Fc.rf
    simp (disch := omega) only [r17, sh0, lt0, sh38, lt38, en_ops, en_opc, iI_add, iI_mul, iI_sub, jL_add, jL_mul, iI_le, iI_lt, iI_eq, iI_eq0, iI_lt0, iI_0le, iI_le0, iI_0lt, jL_iI, iI_jL, lc_eq, lc_lt, lc_le, lc_ge, lc_gt, Nat.sub_zero, Nat.zero_le, true_and, and_true, Nat.reduceAdd, Nat.reduceLeDiff]
    refine ⟨fun e => ?_, fun e => ?_⟩
    · rw [if_neg (by omega)] at Hy
      rw [C8]
      exact Hy
    · rw [if_pos (by omega)] at Hy
      rw [B8]
      exact Hy
  · rw [if_neg e2]
    simp (disch := omega) only [sh0, lt0, en_ops, en_opc, iI_add, iI_mul, iI_sub, jL_add, jL_mul, iI_le, iI_lt, iI_eq, iI_eq0, iI_lt0, iI_0le, iI_le0, iI_0lt, jL_iI, iI_jL, lc_eq, lc_lt, lc_le, lc_ge, lc_gt, Nat.sub_zero, Nat.zero_le, true_and, and_true, Nat.reduceAdd, Nat.reduceLeDiff]
    exact ⟨by omega, by omega, c_needRight hI hz (by omega) (by omega) (Or.inl rfl) (fun e => absurd e (by decide)) (fun _ hi' I' F' => H.2 2 (by omega) (by rw [if_pos e1, if_neg e2]) hi' hl hr I' F' Fc.rf Fc.rf)⟩
end
