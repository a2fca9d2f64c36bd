section
variable {G : en_G} {d : Nat} {K : en_K} {W : zW} {n : Nat} {hi : en_I} {hl : en_L} {hr : en_F} {xc xs : Nat}
theorem InvR.put {P : Nat → Prop} {hi' : en_I} {s : zSh} (h : InvR G W hi hr) (F : Fr P hi hi') (hP : ∀ x, P x → x = 115 ∨ Psr x) (hx : xrH s (hi' 115)) : InvR G (zPut W s) hi' hr := by
  obtain ⟨hR, ⟨a1, a2⟩, a3, a4, a5, a6, a7, a8, a9, ⟨b, a10, a11⟩, a12, a13⟩ := h
  have e : ∀ x, x ≠ 115 → ¬ Psr x → hi' x = hi x := fun x g1 g2 => F x (fun q => by rcases hP x q with q | q; exact g1 q; exact g2 q)
  have e0 : hi' 110 = hi 110 := e 110 (by omega) (by unfold Psr; omega)
  refine ⟨hR, ⟨by rw [e0]; exact a1, fun j hj => by rw [e 112 (by omega) (by unfold Psr; omega)]; exact a2 j hj⟩, by rw [e0]; exact a3, by rw [e0]; exact a4, by rw [e0]; exact a5, by rw [e0]; exact a6, fun k hk => by rw [e 111 (by omega) (by unfold Psr; omega)]; exact a7 k hk, fun l hl => (a8 l hl).mono (rwE.of (fun x g1 g2 => by rw [e x (by omega) (by unfold Psr; omega)])), fun y hy => (a9 y hy).fr F (fun x g1 g2 g => by rcases hP x g with q | q; omega; unfold Psr at q; omega), ⟨b, fun j hj => by rw [e 113 (by omega) (by unfold Psr; omega)]; exact a10 j hj, a11⟩, hx, fun i hi9 => by rw [e 118 (by omega) (by unfold Psr; omega)]; exact a13 i hi9⟩
theorem Fm.put {P : Nat → Prop} {hi' : en_I} (F : Fr P hi hi') (hP : ∀ x, P x → x = 115 ∨ Psr x) : Fm hi hi' := Fm.of F (fun x g => by rcases hP x g with q | q; omega; unfold Psr at q; omega)
/-- where the reference's call ends well, with another shore -/
theorem rEnd.pt {r code : Nat} {v0 v : Value} {h1 hi' : en_I} {P : Nat → Prop} {s : zSh} (H : rEnd G W (zPut W s) r code v0 v K hi hl hr) (hr0 : r = 0) (I1 : InvR G W h1 hr) (F1 : Fm hi h1) (T1 : h1 110 0 = iI 0) (F : Fr P h1 hi') (hP : ∀ x, P x → x = 115 ∨ Psr x) (hx : xrH s (hi' 115)) : K (.inl (some v)) hi' hl hr := H.1 hr0 hi' (I1.put F hP hx) (F1.tr (Fm.put F hP)) (by rw [F 110 (fun q => by rcases hP 110 q with q | q; omega; unfold Psr at q; omega)]; exact T1)
theorem rsT {q : hSt} {F F' : Nat → Int32} (h : rsH q (fun _ => F)) (e : ∀ j, j < 630 ∨ j = 833 → F' j = F j) : rsH q (fun _ => F') := by
  obtain ⟨y1, y2, y3, y4, y5, y6, y7⟩ := h
  exact ⟨fun c z k hc hz hk => (e _ (by omega)).trans (y1 c z k hc hz hk), fun c hc => (e _ (by omega)).trans (y2 c hc), fun c hc => (e _ (by omega)).trans (y3 c hc), fun i hi9 => (e _ (by omega)).trans (y4 i hi9), (e _ (by omega)).trans y5, (e _ (by omega)).trans y6, fun j hj g => (e _ (by omega)).trans (y7 j hj g)⟩
theorem m_cdrop (hI : InvR G W hi hr) (hz : zOK n W) (H : rEnd G W (zPut W (drS (zS W))) 0 0 (.int (iI 0)) (.int (iI ((zS W).2.1 : Int))) K hi hl hr) : en_Call G (d + 1) xc xs Y_X11_drop wN wN [.ref 110] hi hl hr K := by
  obtain ⟨I1, F1, T1⟩ := hI.t1
  obtain ⟨⟨-, -, r10, -, r12, -⟩, -⟩ := id I1.1
  obtain ⟨x0, x1, x2, x3⟩ := I1.xr
  apply en_X11_drop
  simp (disch := omega) only [B_X11_drop_0, r12, sh110, lt110, sh115, lt115, en_ops, en_opc, iI_add, iI_mul, iI_sub, jL_add, jL_mul, iI_le, iI_lt, iI_eq, iI_eq0, iI_lt0, iI_0le, iI_le0, iI_0lt, jL_iI, iI_jL, lc_eq, lc_lt, lc_le, lc_ge, lc_gt, Nat.sub_zero, Nat.zero_le, true_and, and_true, Nat.reduceAdd, Nat.reduceLeDiff]
  generalize en_up hi 110 0 (iI 0) = h1 at *
  refine ⟨630, rfl, by omega, 630, rfl, by omega, ?_⟩
  rw [x1]
  have F8 : Fr (· = 115) h1 (en_up h1 115 630 (iI 0)) := Fr.up Fr.rf rfl
  exact H.pt rfl I1 F1 T1 F8 (fun x g => Or.inl g) ⟨rsT x0 (fun j g => up_ne (Or.inr (by omega))), up_at, fun i hi9 => absurd hi9 (Nat.not_lt_zero _), fun c z hc hz9 => by rw [up_ne (Or.inr (by omega))]; exact x3 c z hc hz9⟩
theorem m_ctake {z k : Int} (hI : InvR G W hi hr) (hz : zOK n W) (hzr : iRg z) (hk : iRg k) (H : rEnd G W (tkW W z.toNat k.toNat) (if inZ W z ∧ 0 ≤ k ∧ k < 3 then 0 else 3) 1 (.int (iI 0)) (.int (iI (tkA W))) K hi hl hr) : en_Call G (d + 3) xc xs Y_X11_take wN wN [.ref 110, .int (iI z), .int (iI k)] hi hl hr K := by
  obtain ⟨I1, F1, T1⟩ := hI.t1
  obtain ⟨⟨-, -, r10, -, r12, -⟩, -⟩ := id I1.1
  obtain ⟨nc12, nz6⟩ := hz.c
  obtain ⟨x0, x1, x2, x3⟩ := I1.xr
  have nh4 := hz.x.2.2.2.2.1.1
  apply en_X11_take
  simp (disch := omega) only [B_X11_take_0, sh110, lt110, en_ops, en_opc, iI_add, iI_mul, iI_sub, jL_add, jL_mul, iI_le, iI_lt, iI_eq, iI_eq0, iI_lt0, iI_0le, iI_le0, iI_0lt, jL_iI, iI_jL, lc_eq, lc_lt, lc_le, lc_ge, lc_gt, Nat.sub_zero, Nat.zero_le, true_and, and_true, Nat.reduceAdd, Nat.reduceLeDiff]
  generalize en_up hi 110 0 (iI 0) = h1 at *
  have no : ¬ (inZ W z ∧ 0 ≤ k ∧ k < 3) → en_V G Y_X11_take (d + 3) wN wN K 28 [.ref 110, .int (iI z), .int (iI k)] [.int (iI 0), .ref 110] h1 hl hr xc xs := fun e => by
    rw [if_neg e] at H
    apply s_X11_take_28
    simp (disch := omega) only [B_X11_take_28, sh110, lt110, en_ops, en_opc, iI_add, iI_mul, iI_sub, jL_add, jL_mul, iI_le, iI_lt, iI_eq, iI_eq0, iI_lt0, iI_0le, iI_le0, iI_0lt, jL_iI, iI_jL, lc_eq, lc_lt, lc_le, lc_ge, lc_gt, Nat.sub_zero, Nat.zero_le, true_and, and_true, Nat.reduceAdd, Nat.reduceLeDiff]
    refine m_may (d := d + 1) (code := 1) (k := 2) I1 T1 (Or.inl rfl) (by omega) (by omega) (fun e => absurd e (by decide)) (fun _ hi' I' F' T' => ?_)
    simp (disch := omega) only [en_ops, en_opc, iI_add, iI_mul, iI_sub, jL_add, jL_mul, iI_le, iI_lt, iI_eq, iI_eq0, iI_lt0, iI_0le, iI_le0, iI_0lt, jL_iI, iI_jL, lc_eq, lc_lt, lc_le, lc_ge, lc_gt, Nat.sub_zero, Nat.zero_le, true_and, and_true, Nat.reduceAdd, Nat.reduceLeDiff]
    exact ⟨fun e => (e (by first | trivial | rfl)).elim, fun _ => H.no F1 (by omega) rfl I' F' T'⟩
  refine m_isSize (d := d) I1 hzr ?_
  by_cases t1 : inZ W z
  · rw [if_pos t1]
    simp (disch := omega) only [sh110, lt110, en_ops, en_opc, iI_add, iI_mul, iI_sub, jL_add, jL_mul, iI_le, iI_lt, iI_eq, iI_eq0, iI_lt0, iI_0le, iI_le0, iI_0lt, jL_iI, iI_jL, lc_eq, lc_lt, lc_le, lc_ge, lc_gt, Nat.sub_zero, Nat.zero_le, true_and, and_true, Nat.reduceAdd, Nat.reduceLeDiff]
    refine ⟨fun e => absurd e (by decide), fun _ => m_within hk.1 hk.2 (by decide) (by decide) (by decide) (by decide) ?_⟩
    by_cases t2 : 0 ≤ k ∧ k < 3
    · rw [if_pos (by omega)]
      rw [if_pos ⟨t1, t2⟩] at H
      simp (disch := omega) only [en_ops, en_opc, iI_add, iI_mul, iI_sub, jL_add, jL_mul, iI_le, iI_lt, iI_eq, iI_eq0, iI_lt0, iI_0le, iI_le0, iI_0lt, jL_iI, iI_jL, lc_eq, lc_lt, lc_le, lc_ge, lc_gt, Nat.sub_zero, Nat.zero_le, true_and, and_true, Nat.reduceAdd, Nat.reduceLeDiff]
      refine ⟨fun e => absurd e (by decide), fun _ => ?_⟩
      apply s_X11_take_28
      simp (disch := omega) only [B_X11_take_28, sh110, lt110, en_ops, en_opc, iI_add, iI_mul, iI_sub, jL_add, jL_mul, iI_le, iI_lt, iI_eq, iI_eq0, iI_lt0, iI_0le, iI_le0, iI_0lt, jL_iI, iI_jL, lc_eq, lc_lt, lc_le, lc_ge, lc_gt, Nat.sub_zero, Nat.zero_le, true_and, and_true, Nat.reduceAdd, Nat.reduceLeDiff]
      refine m_may (d := d + 1) (code := 1) (k := 2) I1 T1 (Or.inr rfl) (by omega) (by omega) (fun _ => ?_) (fun e => absurd e (by decide))
      simp (disch := omega) only [r12, sh110, lt110, sh115, lt115, en_ops, en_opc, iI_add, iI_mul, iI_sub, jL_add, jL_mul, iI_le, iI_lt, iI_eq, iI_eq0, iI_lt0, iI_0le, iI_le0, iI_0lt, jL_iI, iI_jL, lc_eq, lc_lt, lc_le, lc_ge, lc_gt, Nat.sub_zero, Nat.zero_le, true_and, and_true, Nat.reduceAdd, Nat.reduceLeDiff]
      refine ⟨fun _ => ⟨630, rfl, by omega, ?_⟩, fun e => absurd e (by decide)⟩
      rw [x1]
      unfold tkW tkA at H
      simp (disch := omega) only [r12, sh110, lt110, sh115, lt115, en_ops, en_opc, iI_add, iI_mul, iI_sub, jL_add, jL_mul, iI_le, iI_lt, iI_eq, iI_eq0, iI_lt0, iI_0le, iI_le0, iI_0lt, jL_iI, iI_jL, lc_eq, lc_lt, lc_le, lc_ge, lc_gt, Nat.sub_zero, Nat.zero_le, true_and, and_true, Nat.reduceAdd, Nat.reduceLeDiff]
      refine ⟨fun e => ?_, fun e => ?_⟩
      · rw [if_pos (by omega), if_pos (by omega)] at H
        refine ⟨630, rfl, by omega, ?_⟩
        rw [x1]
        simp (disch := omega) only [en_ops, en_opc, iI_add, iI_mul, iI_sub, jL_add, jL_mul, iI_le, iI_lt, iI_eq, iI_eq0, iI_lt0, iI_0le, iI_le0, iI_0lt, jL_iI, iI_jL, lc_eq, lc_lt, lc_le, lc_ge, lc_gt, Nat.sub_zero, Nat.zero_le, true_and, and_true, Nat.reduceAdd, Nat.reduceLeDiff]
        refine ⟨631 + 2 * (zS W).2.1, iI_eq_of (by omega), by omega, 630, rfl, by omega, ?_⟩
        rw [up_ne (Or.inr (by omega)), x1]
        simp (disch := omega) only [en_ops, en_opc, iI_add, iI_mul, iI_sub, jL_add, jL_mul, iI_le, iI_lt, iI_eq, iI_eq0, iI_lt0, iI_0le, iI_le0, iI_0lt, jL_iI, iI_jL, lc_eq, lc_lt, lc_le, lc_ge, lc_gt, Nat.sub_zero, Nat.zero_le, true_and, and_true, Nat.reduceAdd, Nat.reduceLeDiff]
        refine ⟨632 + 2 * (zS W).2.1, iI_eq_of (by omega), by omega, 630, rfl, by omega, 630, rfl, by omega, 630, rfl, by omega, ?_⟩
        rw [up_at, up_ne (Or.inr (by omega)), up_ne (Or.inr (by omega)), x1]
        simp (disch := omega) only [en_ops, en_opc, iI_add, iI_mul, iI_sub, jL_add, jL_mul, iI_le, iI_lt, iI_eq, iI_eq0, iI_lt0, iI_0le, iI_le0, iI_0lt, jL_iI, iI_jL, lc_eq, lc_lt, lc_le, lc_ge, lc_gt, Nat.sub_zero, Nat.zero_le, true_and, and_true, Nat.reduceAdd, Nat.reduceLeDiff]
        generalize hg : en_up (en_up (en_up h1 115 (631 + 2 * (zS W).2.1) (iI z)) 115 (632 + 2 * (zS W).2.1) (iI k)) 115 630 (iI ((zS W).2.1 + 1)) = h8
        have F8 : Fr (· = 115) h1 h8 := by rw [← hg]; exact Fr.up (Fr.up (Fr.up Fr.rf rfl) rfl) rfl
        have e8 : ∀ j, j ≠ 630 → j ≠ 631 + 2 * (zS W).2.1 → j ≠ 632 + 2 * (zS W).2.1 → h8 115 j = h1 115 j := fun j q1 q2 q3 => by rw [← hg, up_ne (Or.inr q1), up_ne (Or.inr q3), up_ne (Or.inr q2)]
        refine H.pt rfl I1 F1 T1 F8 (fun x g => Or.inl g) ⟨rsT x0 (fun j g => e8 j (by omega) (by omega) (by omega)), by rw [← hg, up_at]; exact iI_eq_of (by show ((zS W).2.1 : Int) + 1 = (((zS W).2.1 + 1 : Nat) : Int); omega), fun i hi9 => ?_, fun c z hc hz9 => by rw [e8 _ (by omega) (by omega) (by omega)]; exact x3 c z hc hz9⟩
        have hi5 : i < (zS W).2.1 + 1 := hi9
        show h8 115 (631 + 2 * i) = iI ((if i = (zS W).2.1 then (z.toNat, k.toNat) else (zS W).2.2.1 i).1 : Int) ∧ h8 115 (632 + 2 * i) = iI ((if i = (zS W).2.1 then (z.toNat, k.toNat) else (zS W).2.2.1 i).2 : Int)
        by_cases q : i = (zS W).2.1
        · rw [q, if_pos rfl, ← hg, up_ne (Or.inr (by omega)), up_ne (Or.inr (by omega)), up_at, up_ne (Or.inr (by omega)), up_at]
          exact ⟨iI_eq_of (by show z = ((z.toNat : Nat) : Int); omega), iI_eq_of (by show k = ((k.toNat : Nat) : Int); omega)⟩
        · rw [if_neg q, e8 _ (by omega) (by omega) (by omega), e8 _ (by omega) (by omega) (by omega)]
          exact x2 i (by omega)
      · rw [if_neg (by omega), if_neg (by omega)] at H
        exact H.1 rfl h1 I1 F1 T1
    · rw [if_neg (by omega)]
      simp (disch := omega) only [en_ops, en_opc, iI_add, iI_mul, iI_sub, jL_add, jL_mul, iI_le, iI_lt, iI_eq, iI_eq0, iI_lt0, iI_0le, iI_le0, iI_0lt, jL_iI, iI_jL, lc_eq, lc_lt, lc_le, lc_ge, lc_gt, Nat.sub_zero, Nat.zero_le, true_and, and_true, Nat.reduceAdd, Nat.reduceLeDiff]
      exact ⟨fun _ => no (fun g => t2 g.2), fun e => (e (by first | trivial | rfl)).elim⟩
  · rw [if_neg t1]
    simp (disch := omega) only [sh110, lt110, en_ops, en_opc, iI_add, iI_mul, iI_sub, jL_add, jL_mul, iI_le, iI_lt, iI_eq, iI_eq0, iI_lt0, iI_0le, iI_le0, iI_0lt, jL_iI, iI_jL, lc_eq, lc_lt, lc_le, lc_ge, lc_gt, Nat.sub_zero, Nat.zero_le, true_and, and_true, Nat.reduceAdd, Nat.reduceLeDiff]
    exact ⟨fun _ => no (fun g => t1 g.1), fun e => (e (by first | trivial | rfl)).elim⟩
theorem m_csample {c z k : Int} (hI : InvR G W hi hr) (hz : zOK n W) (hc : iRg c) (hzr : iRg z) (hk : iRg k) (H : rEnd G W (zPut W (spS (zS W) c.toNat z.toNat k)) (if inC W c then if inZ W z ∧ -1 ≤ k ∧ k ≤ 999999 then 0 else 3 else 1) (if inC W c then 2 else 1) (.int (iI 0)) (.int (iI ((zS W).2.2.2 c.toNat z.toNat))) K hi hl hr) : en_Call G (d + 3) xc xs Y_X11_sample wN wN [.ref 110, .int (iI c), .int (iI z), .int (iI k)] hi hl hr K := by
  obtain ⟨I1, F1, T1⟩ := hI.t1
  obtain ⟨⟨-, -, r10, -, r12, -⟩, -⟩ := id I1.1
  obtain ⟨nc12, nz6⟩ := hz.c
  obtain ⟨x0, x1, x2, x3⟩ := I1.xr
  apply en_X11_sample
  simp (disch := omega) only [B_X11_sample_0, sh110, lt110, en_ops, en_opc, iI_add, iI_mul, iI_sub, jL_add, jL_mul, iI_le, iI_lt, iI_eq, iI_eq0, iI_lt0, iI_0le, iI_le0, iI_0lt, jL_iI, iI_jL, lc_eq, lc_lt, lc_le, lc_ge, lc_gt, Nat.sub_zero, Nat.zero_le, true_and, and_true, Nat.reduceAdd, Nat.reduceLeDiff]
  generalize en_up hi 110 0 (iI 0) = h1 at *
  refine m_isCell (d := d) (code := 1) I1 hz T1 hc (by omega) (fun e => ?_) (fun e hi' I' F' T' => ?_)
  · rw [if_pos e, if_pos e] at H
    have no : ¬ (inZ W z ∧ -1 ≤ k ∧ k ≤ 999999) → en_V G Y_X11_sample (d + 3) wN wN K 39 [.ref 110, .int (iI c), .int (iI z), .int (iI k), jk, jk] [.int (iI 0), .ref 110] h1 hl hr xc xs := fun e => by
      rw [if_neg e] at H
      apply s_X11_sample_39
      simp (disch := omega) only [B_X11_sample_39, sh110, lt110, en_ops, en_opc, iI_add, iI_mul, iI_sub, jL_add, jL_mul, iI_le, iI_lt, iI_eq, iI_eq0, iI_lt0, iI_0le, iI_le0, iI_0lt, jL_iI, iI_jL, lc_eq, lc_lt, lc_le, lc_ge, lc_gt, Nat.sub_zero, Nat.zero_le, true_and, and_true, Nat.reduceAdd, Nat.reduceLeDiff]
      refine m_may (d := d + 1) (code := 2) (k := 2) I1 T1 (Or.inl rfl) (by omega) (by omega) (fun e => absurd e (by decide)) (fun _ hi' I' F' T' => ?_)
      simp (disch := omega) only [en_ops, en_opc, iI_add, iI_mul, iI_sub, jL_add, jL_mul, iI_le, iI_lt, iI_eq, iI_eq0, iI_lt0, iI_0le, iI_le0, iI_0lt, jL_iI, iI_jL, lc_eq, lc_lt, lc_le, lc_ge, lc_gt, Nat.sub_zero, Nat.zero_le, true_and, and_true, Nat.reduceAdd, Nat.reduceLeDiff]
      exact ⟨fun e => (e (by first | trivial | rfl)).elim, fun _ => H.no F1 (by omega) rfl I' F' T'⟩
    simp (disch := omega) only [sh110, lt110, en_ops, en_opc, iI_add, iI_mul, iI_sub, jL_add, jL_mul, iI_le, iI_lt, iI_eq, iI_eq0, iI_lt0, iI_0le, iI_le0, iI_0lt, jL_iI, iI_jL, lc_eq, lc_lt, lc_le, lc_ge, lc_gt, Nat.sub_zero, Nat.zero_le, true_and, and_true, Nat.reduceAdd, Nat.reduceLeDiff]
    refine ⟨fun e => absurd e (by decide), fun _ => m_isSize (d := d) I1 hzr ?_⟩
    by_cases t1 : inZ W z
    · rw [if_pos t1]
      simp (disch := omega) only [sh110, lt110, en_ops, en_opc, iI_add, iI_mul, iI_sub, jL_add, jL_mul, iI_le, iI_lt, iI_eq, iI_eq0, iI_lt0, iI_0le, iI_le0, iI_0lt, jL_iI, iI_jL, lc_eq, lc_lt, lc_le, lc_ge, lc_gt, Nat.sub_zero, Nat.zero_le, true_and, and_true, Nat.reduceAdd, Nat.reduceLeDiff]
      refine ⟨fun e => absurd e (by decide), fun _ => m_within hk.1 hk.2 (by decide) (by decide) (by decide) (by decide) ?_⟩
      by_cases t2 : -1 ≤ k ∧ k ≤ 999999
      · rw [if_pos t2]
        rw [if_pos ⟨t1, t2⟩] at H
        simp (disch := omega) only [en_ops, en_opc, iI_add, iI_mul, iI_sub, jL_add, jL_mul, iI_le, iI_lt, iI_eq, iI_eq0, iI_lt0, iI_0le, iI_le0, iI_0lt, jL_iI, iI_jL, lc_eq, lc_lt, lc_le, lc_ge, lc_gt, Nat.sub_zero, Nat.zero_le, true_and, and_true, Nat.reduceAdd, Nat.reduceLeDiff]
        refine ⟨fun e => absurd e (by decide), fun _ => ?_⟩
        apply s_X11_sample_39
        simp (disch := omega) only [B_X11_sample_39, sh110, lt110, en_ops, en_opc, iI_add, iI_mul, iI_sub, jL_add, jL_mul, iI_le, iI_lt, iI_eq, iI_eq0, iI_lt0, iI_0le, iI_le0, iI_0lt, jL_iI, iI_jL, lc_eq, lc_lt, lc_le, lc_ge, lc_gt, Nat.sub_zero, Nat.zero_le, true_and, and_true, Nat.reduceAdd, Nat.reduceLeDiff]
        refine m_may (d := d + 1) (code := 2) (k := 2) I1 T1 (Or.inr rfl) (by omega) (by omega) (fun _ => ?_) (fun e => absurd e (by decide))
        simp (disch := omega) only [r12, sh110, lt110, sh115, lt115, en_ops, en_opc, iI_add, iI_mul, iI_sub, jL_add, jL_mul, iI_le, iI_lt, iI_eq, iI_eq0, iI_lt0, iI_0le, iI_le0, iI_0lt, jL_iI, iI_jL, lc_eq, lc_lt, lc_le, lc_ge, lc_gt, Nat.sub_zero, Nat.zero_le, true_and, and_true, Nat.reduceAdd, Nat.reduceLeDiff]
        refine ⟨fun _ => ⟨641 + 8 * c.toNat + z.toNat, iI_eq_of (by omega), by omega, 641 + 8 * c.toNat + z.toNat, iI_eq_of (by omega), by omega, ?_⟩, fun e => absurd e (by decide)⟩
        rw [x3 _ _ (by omega) (by omega)]
        have F8 : Fr (· = 115) h1 (en_up h1 115 (641 + 8 * c.toNat + z.toNat) (iI k)) := Fr.up Fr.rf rfl
        refine H.pt rfl I1 F1 T1 F8 (fun x g => Or.inl g) ⟨rsT x0 (fun j g => up_ne (Or.inr (by omega))), by rw [up_ne (Or.inr (by omega))]; exact x1, fun i hi9 => ?_, fun c' z' hc9 hz9 => ?_⟩
        · have := hz.x.2.2.2.2.1.1
          have h9 : i < (zS W).2.1 := hi9
          rw [up_ne (Or.inr (by omega)), up_ne (Or.inr (by omega))]
          exact x2 i hi9
        · show en_up h1 115 (641 + 8 * c.toNat + z.toNat) (iI k) 115 (641 + 8 * c' + z') = iI (if c' = c.toNat ∧ z' = z.toNat then k else (zS W).2.2.2 c' z')
          by_cases q : c' = c.toNat ∧ z' = z.toNat
          · rw [q.1, q.2, up_at, if_pos ⟨rfl, rfl⟩]
          · rw [up_ne (Or.inr (by omega)), if_neg q]; exact x3 c' z' hc9 hz9
      · rw [if_neg t2]
        simp (disch := omega) only [en_ops, en_opc, iI_add, iI_mul, iI_sub, jL_add, jL_mul, iI_le, iI_lt, iI_eq, iI_eq0, iI_lt0, iI_0le, iI_le0, iI_0lt, jL_iI, iI_jL, lc_eq, lc_lt, lc_le, lc_ge, lc_gt, Nat.sub_zero, Nat.zero_le, true_and, and_true, Nat.reduceAdd, Nat.reduceLeDiff]
        exact ⟨fun _ => no (fun g => t2 g.2), fun e => (e (by first | trivial | rfl)).elim⟩
    · rw [if_neg t1]
      simp (disch := omega) only [sh110, lt110, en_ops, en_opc, iI_add, iI_mul, iI_sub, jL_add, jL_mul, iI_le, iI_lt, iI_eq, iI_eq0, iI_lt0, iI_0le, iI_le0, iI_0lt, jL_iI, iI_jL, lc_eq, lc_lt, lc_le, lc_ge, lc_gt, Nat.sub_zero, Nat.zero_le, true_and, and_true, Nat.reduceAdd, Nat.reduceLeDiff]
      exact ⟨fun _ => no (fun g => t1 g.1), fun e => (e (by first | trivial | rfl)).elim⟩
  · rw [if_neg e, if_neg e] at H
    simp (disch := omega) only [en_ops, en_opc, iI_add, iI_mul, iI_sub, jL_add, jL_mul, iI_le, iI_lt, iI_eq, iI_eq0, iI_lt0, iI_0le, iI_le0, iI_0lt, jL_iI, iI_jL, lc_eq, lc_lt, lc_le, lc_ge, lc_gt, Nat.sub_zero, Nat.zero_le, true_and, and_true, Nat.reduceAdd, Nat.reduceLeDiff]
    exact ⟨fun _ => H.no F1 (by omega) rfl I' F' T', fun e => (e (by first | trivial | rfl)).elim⟩
theorem m_cput {c z k v : Int} (hI : InvR G W hi hr) (hz : zOK n W) (hc : iRg c) (hzr : iRg z) (hk : iRg k) (hv : iRg v) (H : rEnd G W (zPut W (ptQ (zS W).1 c.toNat z.toNat k.toNat v, (zS W).2)) (if inC W c then if inZ W z ∧ (0 ≤ k ∧ k < 3) ∧ 1 ≤ v ∧ v ≤ 999 then 0 else 3 else 1) (if inC W c then 2 else 1) (.int (iI 0)) (.int (iI ((zS W).1.1 c.toNat z.toNat k.toNat + v))) K hi hl hr) : en_Call G (d + 3) xc xs Y_X11_put wN wN [.ref 110, .int (iI c), .int (iI z), .int (iI k), .int (iI v)] hi hl hr K := by
  obtain ⟨I1, F1, T1⟩ := hI.t1
  obtain ⟨⟨-, -, r10, -, r12, -⟩, -⟩ := id I1.1
  obtain ⟨nc12, nz6⟩ := hz.c
  obtain ⟨⟨y1, y2, y3, y4, y5, y6, y7⟩, x1, x2, x3⟩ := I1.xr
  apply en_X11_put
  simp (disch := omega) only [B_X11_put_0, sh110, lt110, en_ops, en_opc, iI_add, iI_mul, iI_sub, jL_add, jL_mul, iI_le, iI_lt, iI_eq, iI_eq0, iI_lt0, iI_0le, iI_le0, iI_0lt, jL_iI, iI_jL, lc_eq, lc_lt, lc_le, lc_ge, lc_gt, Nat.sub_zero, Nat.zero_le, true_and, and_true, Nat.reduceAdd, Nat.reduceLeDiff]
  generalize en_up hi 110 0 (iI 0) = h1 at *
  refine m_isCell (d := d) (code := 1) I1 hz T1 hc (by omega) (fun e => ?_) (fun e hi' I' F' T' => ?_)
  · rw [if_pos e, if_pos e] at H
    have no : ¬ (inZ W z ∧ (0 ≤ k ∧ k < 3) ∧ 1 ≤ v ∧ v ≤ 999) → en_V G Y_X11_put (d + 3) wN wN K 49 [.ref 110, .int (iI c), .int (iI z), .int (iI k), .int (iI v)] [.int (iI 0), .ref 110] h1 hl hr xc xs := fun e => by
      rw [if_neg e] at H
      apply s_X11_put_49
      simp (disch := omega) only [B_X11_put_49, sh110, lt110, en_ops, en_opc, iI_add, iI_mul, iI_sub, jL_add, jL_mul, iI_le, iI_lt, iI_eq, iI_eq0, iI_lt0, iI_0le, iI_le0, iI_0lt, jL_iI, iI_jL, lc_eq, lc_lt, lc_le, lc_ge, lc_gt, Nat.sub_zero, Nat.zero_le, true_and, and_true, Nat.reduceAdd, Nat.reduceLeDiff]
      refine m_may (d := d + 1) (code := 2) (k := 2) I1 T1 (Or.inl rfl) (by omega) (by omega) (fun e => absurd e (by decide)) (fun _ hi' I' F' T' => ?_)
      simp (disch := omega) only [en_ops, en_opc, iI_add, iI_mul, iI_sub, jL_add, jL_mul, iI_le, iI_lt, iI_eq, iI_eq0, iI_lt0, iI_0le, iI_le0, iI_0lt, jL_iI, iI_jL, lc_eq, lc_lt, lc_le, lc_ge, lc_gt, Nat.sub_zero, Nat.zero_le, true_and, and_true, Nat.reduceAdd, Nat.reduceLeDiff]
      exact ⟨fun e => (e (by first | trivial | rfl)).elim, fun _ => H.no F1 (by omega) rfl I' F' T'⟩
    simp (disch := omega) only [sh110, lt110, en_ops, en_opc, iI_add, iI_mul, iI_sub, jL_add, jL_mul, iI_le, iI_lt, iI_eq, iI_eq0, iI_lt0, iI_0le, iI_le0, iI_0lt, jL_iI, iI_jL, lc_eq, lc_lt, lc_le, lc_ge, lc_gt, Nat.sub_zero, Nat.zero_le, true_and, and_true, Nat.reduceAdd, Nat.reduceLeDiff]
    refine ⟨fun e => absurd e (by decide), fun _ => m_isSize (d := d) I1 hzr ?_⟩
    by_cases t1 : inZ W z
    · rw [if_pos t1]
      simp (disch := omega) only [sh110, lt110, en_ops, en_opc, iI_add, iI_mul, iI_sub, jL_add, jL_mul, iI_le, iI_lt, iI_eq, iI_eq0, iI_lt0, iI_0le, iI_le0, iI_0lt, jL_iI, iI_jL, lc_eq, lc_lt, lc_le, lc_ge, lc_gt, Nat.sub_zero, Nat.zero_le, true_and, and_true, Nat.reduceAdd, Nat.reduceLeDiff]
      refine ⟨fun e => absurd e (by decide), fun _ => m_within hk.1 hk.2 (by decide) (by decide) (by decide) (by decide) ?_⟩
      by_cases t2 : 0 ≤ k ∧ k < 3
      · rw [if_pos (by omega)]
        simp (disch := omega) only [en_ops, en_opc, iI_add, iI_mul, iI_sub, jL_add, jL_mul, iI_le, iI_lt, iI_eq, iI_eq0, iI_lt0, iI_0le, iI_le0, iI_0lt, jL_iI, iI_jL, lc_eq, lc_lt, lc_le, lc_ge, lc_gt, Nat.sub_zero, Nat.zero_le, true_and, and_true, Nat.reduceAdd, Nat.reduceLeDiff]
        refine ⟨fun e => absurd e (by decide), fun _ => m_within hv.1 hv.2 (by decide) (by decide) (by decide) (by decide) ?_⟩
        by_cases t3 : 1 ≤ v ∧ v ≤ 999
        · rw [if_pos t3]
          rw [if_pos ⟨t1, t2, t3⟩] at H
          simp (disch := omega) only [en_ops, en_opc, iI_add, iI_mul, iI_sub, jL_add, jL_mul, iI_le, iI_lt, iI_eq, iI_eq0, iI_lt0, iI_0le, iI_le0, iI_0lt, jL_iI, iI_jL, lc_eq, lc_lt, lc_le, lc_ge, lc_gt, Nat.sub_zero, Nat.zero_le, true_and, and_true, Nat.reduceAdd, Nat.reduceLeDiff]
          refine ⟨fun e => absurd e (by decide), fun _ => ?_⟩
          apply s_X11_put_49
          simp (disch := omega) only [B_X11_put_49, sh110, lt110, en_ops, en_opc, iI_add, iI_mul, iI_sub, jL_add, jL_mul, iI_le, iI_lt, iI_eq, iI_eq0, iI_lt0, iI_0le, iI_le0, iI_0lt, jL_iI, iI_jL, lc_eq, lc_lt, lc_le, lc_ge, lc_gt, Nat.sub_zero, Nat.zero_le, true_and, and_true, Nat.reduceAdd, Nat.reduceLeDiff]
          refine m_may (d := d + 1) (code := 2) (k := 2) I1 T1 (Or.inr rfl) (by omega) (by omega) (fun _ => ?_) (fun e => absurd e (by decide))
          simp (disch := omega) only [r12, sh110, lt110, sh115, lt115, en_ops, en_opc, iI_add, iI_mul, iI_sub, jL_add, jL_mul, iI_le, iI_lt, iI_eq, iI_eq0, iI_lt0, iI_0le, iI_le0, iI_0lt, jL_iI, iI_jL, lc_eq, lc_lt, lc_le, lc_ge, lc_gt, Nat.sub_zero, Nat.zero_le, true_and, and_true, Nat.reduceAdd, Nat.reduceLeDiff]
          refine ⟨fun _ => m_stone ?_, fun e => absurd e (by decide)⟩
          simp (disch := omega) only [r12, sh110, lt110, sh115, lt115, en_ops, en_opc, iI_add, iI_mul, iI_sub, jL_add, jL_mul, iI_le, iI_lt, iI_eq, iI_eq0, iI_lt0, iI_0le, iI_le0, iI_0lt, jL_iI, iI_jL, lc_eq, lc_lt, lc_le, lc_ge, lc_gt, Nat.sub_zero, Nat.zero_le, true_and, and_true, Nat.reduceAdd, Nat.reduceLeDiff]
          have ix : 24 * c + 3 * z + k = ((24 * c.toNat + 3 * z.toNat + k.toNat : Nat) : Int) := by omega
          refine ⟨24 * c.toNat + 3 * z.toNat + k.toNat, iI_eq_of ix, by omega, 24 * c.toNat + 3 * z.toNat + k.toNat, iI_eq_of ix, by omega, 625, rfl, by omega, 625, rfl, by omega, 833, rfl, by omega, ?_⟩
          have yv : h1 115 (24 * c.toNat + 3 * z.toNat + k.toNat) = iI ((zS W).1.1 c.toNat z.toNat k.toNat) := y1 _ _ _ (by omega) (by omega) (by omega)
          have y833 : h1 115 833 = iI (zS W).1.2.2.2.2.1 := y5
          rw [yv, up_ne (Or.inr (by omega)), show h1 115 625 = iI ((zS W).1.2.2.2.1 0) from y4 0 (by omega), up_ne (Or.inr (by omega)), up_ne (Or.inr (by omega)), y833]
          have fin : ∀ m : Int, m = (if k.toNat = 2 then v else 0) → K (.inl (some (.int (iI ((zS W).1.1 c.toNat z.toNat k.toNat + v))))) (en_up (en_up (en_up h1 115 (24 * c.toNat + 3 * z.toNat + k.toNat) (iI ((zS W).1.1 c.toNat z.toNat k.toNat + v))) 115 625 (iI ((zS W).1.2.2.2.1 0 + v))) 115 833 (iI ((zS W).1.2.2.2.2.1 + m))) hl hr := fun m hm => by
            generalize hg : en_up (en_up (en_up h1 115 (24 * c.toNat + 3 * z.toNat + k.toNat) (iI ((zS W).1.1 c.toNat z.toNat k.toNat + v))) 115 625 (iI ((zS W).1.2.2.2.1 0 + v))) 115 833 (iI ((zS W).1.2.2.2.2.1 + m)) = h8
            have F8 : Fr (· = 115) h1 h8 := by rw [← hg]; exact Fr.up (Fr.up (Fr.up Fr.rf rfl) rfl) rfl
            have e8 : ∀ j, j ≠ 833 → j ≠ 625 → j ≠ 24 * c.toNat + 3 * z.toNat + k.toNat → h8 115 j = h1 115 j := fun j q1 q2 q3 => by rw [← hg, up_ne (Or.inr q1), up_ne (Or.inr q2), up_ne (Or.inr q3)]
            refine H.pt rfl I1 F1 T1 F8 (fun x g => Or.inl g) ⟨⟨fun c' z' k' hc' hz' hk' => ?_, fun c hc => (e8 _ (by omega) (by omega) (by omega)).trans (y2 c hc), fun c hc => (e8 _ (by omega) (by omega) (by omega)).trans (y3 c hc), fun i hi9 => ?_, ?_, (e8 _ (by omega) (by omega) (by omega)).trans y6, fun j hj g => (e8 _ (by omega) (by omega) (by omega)).trans (y7 j hj g)⟩, (e8 _ (by omega) (by omega) (by omega)).trans x1, fun i hi9 => ?_, fun c z hc hz9 => (e8 _ (by omega) (by omega) (by omega)).trans (x3 c z hc hz9)⟩
            · show h8 115 (24 * c' + 3 * z' + k') = iI (updF (zS W).1.1 c.toNat z.toNat k.toNat ((zS W).1.1 c.toNat z.toNat k.toNat + v) c' z' k')
              unfold updF
              by_cases q : c' = c.toNat ∧ z' = z.toNat ∧ k' = k.toNat
              · rw [if_pos q, q.1, q.2.1, q.2.2, ← hg, up_ne (Or.inr (by omega)), up_ne (Or.inr (by omega)), up_at]
              · rw [if_neg q, e8 _ (by omega) (by omega) (by omega)]; exact y1 c' z' k' hc' hz' hk'
            · show h8 115 (625 + i) = iI ((zS W).1.2.2.2.1 i + if i = 0 then v else 0)
              by_cases q : i = 0
              · rw [q, if_pos rfl, ← hg, up_ne (Or.inr (by omega)), up_at]
              · rw [if_neg q, Int.add_zero, e8 _ (by omega) (by omega) (by omega)]; exact y4 i hi9
            · show h8 115 833 = iI ((zS W).1.2.2.2.2.1 + if k.toNat = 2 then v else 0)
              rw [← hg, up_at, hm]
            · have := hz.x.2.2.2.2.1.1
              have h9 : i < (zS W).2.1 := hi9
              rw [e8 _ (by omega) (by omega) (by omega), e8 _ (by omega) (by omega) (by omega)]
              exact x2 i hi9
          refine ⟨fun e2 => ⟨833, rfl, by omega, ?_⟩, fun e2 => ⟨833, rfl, by omega, ?_⟩⟩
          · refine m_stone ?_
            simp (disch := omega) only [sh115, lt115, en_ops, en_opc, iI_add, iI_mul, iI_sub, jL_add, jL_mul, iI_le, iI_lt, iI_eq, iI_eq0, iI_lt0, iI_0le, iI_le0, iI_0lt, jL_iI, iI_jL, lc_eq, lc_lt, lc_le, lc_ge, lc_gt, Nat.sub_zero, Nat.zero_le, true_and, and_true, Nat.reduceAdd, Nat.reduceLeDiff]
            refine ⟨24 * c.toNat + 3 * z.toNat + k.toNat, iI_eq_of ix, by omega, ?_⟩
            rw [up_ne (Or.inr (by omega)), up_ne (Or.inr (by omega)), up_at]
            exact fin 0 (by rw [if_neg (by omega)])
          · refine m_stone ?_
            simp (disch := omega) only [sh115, lt115, en_ops, en_opc, iI_add, iI_mul, iI_sub, jL_add, jL_mul, iI_le, iI_lt, iI_eq, iI_eq0, iI_lt0, iI_0le, iI_le0, iI_0lt, jL_iI, iI_jL, lc_eq, lc_lt, lc_le, lc_ge, lc_gt, Nat.sub_zero, Nat.zero_le, true_and, and_true, Nat.reduceAdd, Nat.reduceLeDiff]
            refine ⟨24 * c.toNat + 3 * z.toNat + k.toNat, iI_eq_of ix, by omega, ?_⟩
            rw [up_ne (Or.inr (by omega)), up_ne (Or.inr (by omega)), up_at]
            exact fin v (by rw [if_pos (by omega)])
        · rw [if_neg t3]
          simp (disch := omega) only [en_ops, en_opc, iI_add, iI_mul, iI_sub, jL_add, jL_mul, iI_le, iI_lt, iI_eq, iI_eq0, iI_lt0, iI_0le, iI_le0, iI_0lt, jL_iI, iI_jL, lc_eq, lc_lt, lc_le, lc_ge, lc_gt, Nat.sub_zero, Nat.zero_le, true_and, and_true, Nat.reduceAdd, Nat.reduceLeDiff]
          exact ⟨fun _ => no (fun g => t3 g.2.2), fun e => (e (by first | trivial | rfl)).elim⟩
      · rw [if_neg (by omega)]
        simp (disch := omega) only [en_ops, en_opc, iI_add, iI_mul, iI_sub, jL_add, jL_mul, iI_le, iI_lt, iI_eq, iI_eq0, iI_lt0, iI_0le, iI_le0, iI_0lt, jL_iI, iI_jL, lc_eq, lc_lt, lc_le, lc_ge, lc_gt, Nat.sub_zero, Nat.zero_le, true_and, and_true, Nat.reduceAdd, Nat.reduceLeDiff]
        exact ⟨fun _ => no (fun g => t2 g.2.1), fun e => (e (by first | trivial | rfl)).elim⟩
    · rw [if_neg t1]
      simp (disch := omega) only [sh110, lt110, en_ops, en_opc, iI_add, iI_mul, iI_sub, jL_add, jL_mul, iI_le, iI_lt, iI_eq, iI_eq0, iI_lt0, iI_0le, iI_le0, iI_0lt, jL_iI, iI_jL, lc_eq, lc_lt, lc_le, lc_ge, lc_gt, Nat.sub_zero, Nat.zero_le, true_and, and_true, Nat.reduceAdd, Nat.reduceLeDiff]
      exact ⟨fun _ => no (fun g => t1 g.1), fun e => (e (by first | trivial | rfl)).elim⟩
  · rw [if_neg e, if_neg e] at H
    simp (disch := omega) only [en_ops, en_opc, iI_add, iI_mul, iI_sub, jL_add, jL_mul, iI_le, iI_lt, iI_eq, iI_eq0, iI_lt0, iI_0le, iI_le0, iI_0lt, jL_iI, iI_jL, lc_eq, lc_lt, lc_le, lc_ge, lc_gt, Nat.sub_zero, Nat.zero_le, true_and, and_true, Nat.reduceAdd, Nat.reduceLeDiff]
    exact ⟨fun _ => H.no F1 (by omega) rfl I' F' T', fun e => (e (by first | trivial | rfl)).elim⟩
end
