section
variable {G : en_G} {X : tTx} {l : Nat}
theorem rgK.s {o s0 len q N : Nat} {r : lRes} {hi hi' : en_I} {hl : en_L} {hr : en_F} {K : en_K} {s : lSem} {q1 len1 : Nat} (h : rgK X l o s0 len q N r hi hl hr K) (e : r = .inr (s, q1)) (h1 : rgS X l o len1 q1 hi') (F : Fx (rgP l len) hi hi') (l1 : len ≤ len1) (l0 : s0 < len1) (l2 : len1 + q ≤ len + q1) (sg : ∀ F V : Nat → Int32, (∀ j, 620 * l + s0 ≤ j → j < 620 * l + len1 → F j = hi' 119 j ∧ V j = hi' 120 j) → rseg F V (620 * l + s0) (620 * l + len1) N s) : K (.inl none) hi' hl hr := h.1 s q1 e hi' len1 h1 F l1 l0 l2 sg
theorem rgK.b {o s0 len q N k pl : Nat} {r : lRes} {hi hi' : en_I} {hl : en_L} {hr : en_F} {K : en_K} (h : rgK X l o s0 len q N r hi hl hr K) (e : r = .inl (k, pl)) (h1 : rgB X l k pl hi') (F : Fx (rgP l 0) hi hi') : K (.inl none) hi' hl hr := h.2 (k, pl) e hi' h1 F
theorem rg_at {len l1 : Nat} {h1 h2 : en_I} {F V : Nat → Int32} {s0 : Nat} (hF : ∀ j, 620 * l + s0 ≤ j → j < 620 * l + l1 → F j = h1 119 j ∧ V j = h1 120 j) (Fx1 : Fx (rgP l l1) h1 h2) (hF2 : ∀ j, 620 * l + s0 ≤ j → j < 620 * l + len → F j = h2 119 j ∧ V j = h2 120 j) : True := trivial

theorem d_m2 {f : Nat} (h1 : rgM G X l Y_X11_unit f 4 1) (h2 : rgV G X l Y_X11_product 4 1 f 3 2) : rgM G X l Y_X11_product (f + 1) 2 2 := by
  intro o a q d len xc xs hi hl hr K hR h ho hd hne hK
  obtain ⟨d, rfl⟩ : ∃ e, d = e + 8 := ⟨d - 8, by omega⟩
  have e : pgF X (f + 1) 2 o a q = bnd (pgF X f 4 o a q) (fun s q1 => pgF X f 3 o s q1) := rfl
  rw [e] at hne hK
  obtain ⟨o1, o2⟩ := bnd_o hne
  apply en_X11_product
  simp (disch := omega) only [B_X11_product_0, sh110, lt110, en_ops, en_opc, iI_add, iI_mul, iI_sub, jL_add, jL_mul, iI_le, iI_lt, iI_eq, iI_eq0, iI_lt0, iI_0le, iI_le0, iI_0lt, jL_iI, iI_jL, lc_eq, lc_lt, lc_le, lc_ge, lc_gt, Nat.sub_zero, Nat.zero_le, true_and, and_true, Nat.reduceAdd, Nat.reduceLeDiff]
  refine h1 o a q (d + 7) len _ _ hi hl hr _ hR h ho (by omega) o1 ⟨fun s q1 er hi1 len1 S1 F1 l1 l0 l2 sg => ?_, fun e er hi1 b1 F1 => ?_⟩
  · have ne2 := o2 s q1 er
    rw [er, bnd_r] at hK
    simp (disch := omega) only [en_ops, en_opc, iI_add, iI_mul, iI_sub, jL_add, jL_mul, iI_le, iI_lt, iI_eq, iI_eq0, iI_lt0, iI_0le, iI_le0, iI_0lt, jL_iI, iI_jL, lc_eq, lc_lt, lc_le, lc_ge, lc_gt, Nat.sub_zero, Nat.zero_le, true_and, and_true, Nat.reduceAdd, Nat.reduceLeDiff]
    refine h2 o s q1 (d + 8) len len1 _ _ _ hi1 hl hr K rfl hR S1 ho (by omega) l0 (fun F V hF => (sg F V hF).w (by omega)) ne2 ⟨fun s2 q2 er2 hi2 len2 S2 F2 l3 l5 l4 sg2 => hK.s er2 S2 (F1.tr (F2.rg l1)) (by omega) l5 (by omega) sg2, fun e er2 hi2 b2 F2 => hK.b er2 b2 ((F1.rg (by omega)).tr F2)⟩
  · rw [er, bnd_l] at hK
    simp (disch := omega) only [en_ops, en_opc, iI_add, iI_mul, iI_sub, jL_add, jL_mul, iI_le, iI_lt, iI_eq, iI_eq0, iI_lt0, iI_0le, iI_le0, iI_0lt, jL_iI, iI_jL, lc_eq, lc_lt, lc_le, lc_ge, lc_gt, Nat.sub_zero, Nat.zero_le, true_and, and_true, Nat.reduceAdd, Nat.reduceLeDiff]
    exact fr_pl (d := d + 6) rfl b1 (hK.b rfl b1 F1)
theorem d_m5 {f : Nat} (h1 : rgM G X l Y_X11_allOf f 7 5) (h2 : rgV G X l Y_X11_anyOf 4 0 f 6 6) : rgM G X l Y_X11_anyOf (f + 1) 5 6 := by
  intro o a q d len xc xs hi hl hr K hR h ho hd hne hK
  obtain ⟨d, rfl⟩ : ∃ e, d = e + 8 := ⟨d - 8, by omega⟩
  have e : pgF X (f + 1) 5 o a q = bnd (pgF X f 7 o a q) (fun s q1 => pgF X f 6 o s q1) := rfl
  rw [e] at hne hK
  obtain ⟨o1, o2⟩ := bnd_o hne
  apply en_X11_anyOf
  simp (disch := omega) only [B_X11_anyOf_0, sh110, lt110, en_ops, en_opc, iI_add, iI_mul, iI_sub, jL_add, jL_mul, iI_le, iI_lt, iI_eq, iI_eq0, iI_lt0, iI_0le, iI_le0, iI_0lt, jL_iI, iI_jL, lc_eq, lc_lt, lc_le, lc_ge, lc_gt, Nat.sub_zero, Nat.zero_le, true_and, and_true, Nat.reduceAdd, Nat.reduceLeDiff]
  refine h1 o a q (d + 7) len _ _ hi hl hr _ hR h ho (by omega) o1 ⟨fun s q1 er hi1 len1 S1 F1 l1 l0 l2 sg => ?_, fun e er hi1 b1 F1 => ?_⟩
  · have ne2 := o2 s q1 er
    rw [er, bnd_r] at hK
    simp (disch := omega) only [en_ops, en_opc, iI_add, iI_mul, iI_sub, jL_add, jL_mul, iI_le, iI_lt, iI_eq, iI_eq0, iI_lt0, iI_0le, iI_le0, iI_0lt, jL_iI, iI_jL, lc_eq, lc_lt, lc_le, lc_ge, lc_gt, Nat.sub_zero, Nat.zero_le, true_and, and_true, Nat.reduceAdd, Nat.reduceLeDiff]
    refine h2 o s q1 (d + 8) len len1 _ _ _ hi1 hl hr K rfl hR S1 ho (by omega) l0 (fun F V hF => (sg F V hF).w (by omega)) ne2 ⟨fun s2 q2 er2 hi2 len2 S2 F2 l3 l5 l4 sg2 => hK.s er2 S2 (F1.tr (F2.rg l1)) (by omega) l5 (by omega) sg2, fun e er2 hi2 b2 F2 => hK.b er2 b2 ((F1.rg (by omega)).tr F2)⟩
  · rw [er, bnd_l] at hK
    simp (disch := omega) only [en_ops, en_opc, iI_add, iI_mul, iI_sub, jL_add, jL_mul, iI_le, iI_lt, iI_eq, iI_eq0, iI_lt0, iI_0le, iI_le0, iI_0lt, jL_iI, iI_jL, lc_eq, lc_lt, lc_le, lc_ge, lc_gt, Nat.sub_zero, Nat.zero_le, true_and, and_true, Nat.reduceAdd, Nat.reduceLeDiff]
    exact fr_yl (d := d + 6) rfl b1 (hK.b rfl b1 F1)
theorem d_m7 {f : Nat} (h1 : rgM G X l Y_X11_oneOf f 9 4) (h2 : rgV G X l Y_X11_allOf 4 0 f 8 5) : rgM G X l Y_X11_allOf (f + 1) 7 5 := by
  intro o a q d len xc xs hi hl hr K hR h ho hd hne hK
  obtain ⟨d, rfl⟩ : ∃ e, d = e + 8 := ⟨d - 8, by omega⟩
  have e : pgF X (f + 1) 7 o a q = bnd (pgF X f 9 o a q) (fun s q1 => pgF X f 8 o s q1) := rfl
  rw [e] at hne hK
  obtain ⟨o1, o2⟩ := bnd_o hne
  apply en_X11_allOf
  simp (disch := omega) only [B_X11_allOf_0, sh110, lt110, en_ops, en_opc, iI_add, iI_mul, iI_sub, jL_add, jL_mul, iI_le, iI_lt, iI_eq, iI_eq0, iI_lt0, iI_0le, iI_le0, iI_0lt, jL_iI, iI_jL, lc_eq, lc_lt, lc_le, lc_ge, lc_gt, Nat.sub_zero, Nat.zero_le, true_and, and_true, Nat.reduceAdd, Nat.reduceLeDiff]
  refine h1 o a q (d + 7) len _ _ hi hl hr _ hR h ho (by omega) o1 ⟨fun s q1 er hi1 len1 S1 F1 l1 l0 l2 sg => ?_, fun e er hi1 b1 F1 => ?_⟩
  · have ne2 := o2 s q1 er
    rw [er, bnd_r] at hK
    simp (disch := omega) only [en_ops, en_opc, iI_add, iI_mul, iI_sub, jL_add, jL_mul, iI_le, iI_lt, iI_eq, iI_eq0, iI_lt0, iI_0le, iI_le0, iI_0lt, jL_iI, iI_jL, lc_eq, lc_lt, lc_le, lc_ge, lc_gt, Nat.sub_zero, Nat.zero_le, true_and, and_true, Nat.reduceAdd, Nat.reduceLeDiff]
    refine h2 o s q1 (d + 8) len len1 _ _ _ hi1 hl hr K rfl hR S1 ho (by omega) l0 (fun F V hF => (sg F V hF).w (by omega)) ne2 ⟨fun s2 q2 er2 hi2 len2 S2 F2 l3 l5 l4 sg2 => hK.s er2 S2 (F1.tr (F2.rg l1)) (by omega) l5 (by omega) sg2, fun e er2 hi2 b2 F2 => hK.b er2 b2 ((F1.rg (by omega)).tr F2)⟩
  · rw [er, bnd_l] at hK
    simp (disch := omega) only [en_ops, en_opc, iI_add, iI_mul, iI_sub, jL_add, jL_mul, iI_le, iI_lt, iI_eq, iI_eq0, iI_lt0, iI_0le, iI_le0, iI_0lt, jL_iI, iI_jL, lc_eq, lc_lt, lc_le, lc_ge, lc_gt, Nat.sub_zero, Nat.zero_le, true_and, and_true, Nat.reduceAdd, Nat.reduceLeDiff]
    exact fr_ll (d := d + 6) rfl b1 (hK.b rfl b1 F1)
theorem d_m6 {f : Nat} (h1 : rgM G X l Y_X11_allOf f 7 5) (h2 : rgV G X l Y_X11_anyOf 4 0 f 6 6) : rgV G X l Y_X11_anyOf 4 0 (f + 1) 6 6 := by
  intro o a q d s0 len xc xs ls hi hl hr K hls hR h ho hd hs0 hA hne hK
  obtain ⟨d, rfl⟩ : ∃ e, d = e + 8 := ⟨d - 8, by omega⟩
  have hls0 : ls = [] := List.length_eq_zero_iff.mp hls
  subst hls0
  have e : pgF X (f + 1) 6 o a q = (if wdE X q = 498 then bnd (pgF X f 7 o a (nxE X q)) (fun s q1 => pgF X f 6 o (fun nm => opE 11 (a nm) (s nm)) q1) else .inr (a, q)) := rfl
  rw [e] at hne hK
  have wl := wd_lt X q
  apply s_X11_anyOf_4
  simp (disch := omega) only [B_X11_anyOf_4, sh110, lt110, en_ops, en_opc, iI_add, iI_mul, iI_sub, jL_add, jL_mul, iI_le, iI_lt, iI_eq, iI_eq0, iI_lt0, iI_0le, iI_le0, iI_0lt, jL_iI, iI_jL, lc_eq, lc_lt, lc_le, lc_ge, lc_gt, Nat.sub_zero, Nat.zero_le, true_and, and_true, Nat.reduceAdd, Nat.reduceLeDiff]
  refine r_fine h ?_
  simp (disch := omega) only [sh110, lt110, en_ops, en_opc, iI_add, iI_mul, iI_sub, jL_add, jL_mul, iI_le, iI_lt, iI_eq, iI_eq0, iI_lt0, iI_0le, iI_le0, iI_0lt, jL_iI, iI_jL, lc_eq, lc_lt, lc_le, lc_ge, lc_gt, Nat.sub_zero, Nat.zero_le, true_and, and_true, Nat.reduceAdd, Nat.reduceLeDiff]
  refine ⟨fun g => absurd g (by decide), fun _ => ?_⟩
  refine r_word (d := d + 5) hR h (fun g1 S1 Q1 F1 => ?_)
  simp (disch := omega) only [sh110, lt110, en_ops, en_opc, iI_add, iI_mul, iI_sub, jL_add, jL_mul, iI_le, iI_lt, iI_eq, iI_eq0, iI_lt0, iI_0le, iI_le0, iI_0lt, jL_iI, iI_jL, lc_eq, lc_lt, lc_le, lc_ge, lc_gt, Nat.sub_zero, Nat.zero_le, true_and, and_true, Nat.reduceAdd, Nat.reduceLeDiff]
  refine m_of (d := d + 2) (j := 45) iw45 ?_
  rw [pk45]
  simp (disch := omega) only [sh110, lt110, en_ops, en_opc, iI_add, iI_mul, iI_sub, jL_add, jL_mul, iI_le, iI_lt, iI_eq, iI_eq0, iI_lt0, iI_0le, iI_le0, iI_0lt, jL_iI, iI_jL, lc_eq, lc_lt, lc_le, lc_ge, lc_gt, Nat.sub_zero, Nat.zero_le, true_and, and_true, Nat.reduceAdd, Nat.reduceLeDiff]
  by_cases w : wdE X q = 498
  · rw [if_pos w] at hne hK
    have hl9 := lt_wd w (by decide)
    have n1 := nx_gt hl9
    obtain ⟨o1, o2⟩ := bnd_o hne
    have len0 := h.2.2.2.2.2
    refine ⟨fun g => absurd (show (wdE X q : Int) = _ by omega) g, fun _ => ?_⟩
    refine r_pass (d := d + 5) hR S1 Q1 (by omega) (fun g2 S2 F2 => ?_)
    simp (disch := omega) only [sh110, lt110, en_ops, en_opc, iI_add, iI_mul, iI_sub, jL_add, jL_mul, iI_le, iI_lt, iI_eq, iI_eq0, iI_lt0, iI_0le, iI_le0, iI_0lt, jL_iI, iI_jL, lc_eq, lc_lt, lc_le, lc_ge, lc_gt, Nat.sub_zero, Nat.zero_le, true_and, and_true, Nat.reduceAdd, Nat.reduceLeDiff]
    refine h1 o a (nxE X q) (d + 7) len _ _ g2 hl hr _ hR S2 ho (by omega) o1 ⟨fun s q1 er g3 len1 S3 F3 l1 l0 l2 sg => ?_, fun e er g3 b3 F3 => ?_⟩
    · have ne2 := o2 s q1 er
      rw [er, bnd_r] at hK
      have pp := pg_pos _ _ _ _ _ _ _ n1.2.1 n1.2.2 er
      simp (disch := omega) only [sh110, lt110, en_ops, en_opc, iI_add, iI_mul, iI_sub, jL_add, jL_mul, iI_le, iI_lt, iI_eq, iI_eq0, iI_lt0, iI_0le, iI_le0, iI_0lt, jL_iI, iI_jL, lc_eq, lc_lt, lc_le, lc_ge, lc_gt, Nat.sub_zero, Nat.zero_le, true_and, and_true, Nat.reduceAdd, Nat.reduceLeDiff]
      refine r_emit (d := d + 5) hR S3 (by omega) (fun g4 S4 F4 e4 e5 => ?_)
      simp (disch := omega) only [en_ops, en_opc, iI_add, iI_mul, iI_sub, jL_add, jL_mul, iI_le, iI_lt, iI_eq, iI_eq0, iI_lt0, iI_0le, iI_le0, iI_0lt, jL_iI, iI_jL, lc_eq, lc_lt, lc_le, lc_ge, lc_gt, Nat.sub_zero, Nat.zero_le, true_and, and_true, Nat.reduceAdd, Nat.reduceLeDiff]
      have FA : Fx (rgP l len) hi g4 := ((F1.prd.tr F2.prd).tr F3).tr (F4.rg l1)
      refine h2 o _ q1 (d + 8) s0 (len1 + 1) _ _ _ g4 hl hr K rfl hR S4 ho (by omega) (by omega) (fun F V hF => ?_) ne2 ⟨fun s2 q2 er2 g5 len2 S5 F5 l3 l5 l4 sg2 => hK.s er2 S5 (FA.tr (F5.rg (by omega))) (by omega) l5 (by omega) sg2, fun e er2 g5 b5 F5 => hK.b er2 b5 ((FA.rg (by omega)).tr F5)⟩
      refine rs_bin (N1 := 6 * (6 - o) + 6) (N2 := 6 * (6 - o) + 5) (b := 620 * l + len) (c := 620 * l + len1) (o := 11) (hA F V (fun j g1 g2 => ?_)) (sg F V (fun j g1 g2 => ?_)) ?_ (by decide) (by omega) (by omega) (by omega) (by omega)
      · obtain ⟨x1, x2⟩ := hF j (by omega) (by omega)
        exact ⟨by rw [x1, FA 119 j (fun g => by unfold rgP at g; omega)], by rw [x2, FA 120 j (fun g => by unfold rgP at g; omega)]⟩
      · obtain ⟨x1, x2⟩ := hF j (by omega) (by omega)
        exact ⟨by rw [x1, F4 119 j (fun g => by unfold rgP at g; omega)], by rw [x2, F4 120 j (fun g => by unfold rgP at g; omega)]⟩
      · rw [(hF (620 * l + len1) (by omega) (by omega)).1, e4]
        rfl
    · rw [er, bnd_l] at hK
      simp (disch := omega) only [sh110, lt110, en_ops, en_opc, iI_add, iI_mul, iI_sub, jL_add, jL_mul, iI_le, iI_lt, iI_eq, iI_eq0, iI_lt0, iI_0le, iI_le0, iI_0lt, jL_iI, iI_jL, lc_eq, lc_lt, lc_le, lc_ge, lc_gt, Nat.sub_zero, Nat.zero_le, true_and, and_true, Nat.reduceAdd, Nat.reduceLeDiff]
      refine f_remit (d := d + 5) b3 ?_
      simp (disch := omega) only [en_ops, en_opc, iI_add, iI_mul, iI_sub, jL_add, jL_mul, iI_le, iI_lt, iI_eq, iI_eq0, iI_lt0, iI_0le, iI_le0, iI_0lt, jL_iI, iI_jL, lc_eq, lc_lt, lc_le, lc_ge, lc_gt, Nat.sub_zero, Nat.zero_le, true_and, and_true, Nat.reduceAdd, Nat.reduceLeDiff]
      exact fr_yl (d := d + 6) rfl b3 (hK.b rfl b3 ((F1.prd.tr F2.prd).tr F3))
  · rw [if_neg w] at hK
    refine ⟨fun _ => ?_, fun g => absurd g (by omega)⟩
    exact hK.s rfl S1 F1.prd (Nat.le_refl _) hs0 (Nat.le_refl _) (fun F V hF => hA F V (fun j j1 j2 => by
      obtain ⟨x1, x2⟩ := hF j j1 j2
      exact ⟨by rw [x1, F1 119 j (fun g => by have := g.1; omega)], by rw [x2, F1 120 j (fun g => by have := g.1; omega)]⟩))
theorem d_m8 {f : Nat} (h1 : rgM G X l Y_X11_oneOf f 9 4) (h2 : rgV G X l Y_X11_allOf 4 0 f 8 5) : rgV G X l Y_X11_allOf 4 0 (f + 1) 8 5 := by
  intro o a q d s0 len xc xs ls hi hl hr K hls hR h ho hd hs0 hA hne hK
  obtain ⟨d, rfl⟩ : ∃ e, d = e + 8 := ⟨d - 8, by omega⟩
  have hls0 : ls = [] := List.length_eq_zero_iff.mp hls
  subst hls0
  have e : pgF X (f + 1) 8 o a q = (if wdE X q = 1476 then bnd (pgF X f 9 o a (nxE X q)) (fun s q1 => pgF X f 8 o (fun nm => opE 10 (a nm) (s nm)) q1) else .inr (a, q)) := rfl
  rw [e] at hne hK
  have wl := wd_lt X q
  apply s_X11_allOf_4
  simp (disch := omega) only [B_X11_allOf_4, sh110, lt110, en_ops, en_opc, iI_add, iI_mul, iI_sub, jL_add, jL_mul, iI_le, iI_lt, iI_eq, iI_eq0, iI_lt0, iI_0le, iI_le0, iI_0lt, jL_iI, iI_jL, lc_eq, lc_lt, lc_le, lc_ge, lc_gt, Nat.sub_zero, Nat.zero_le, true_and, and_true, Nat.reduceAdd, Nat.reduceLeDiff]
  refine r_fine h ?_
  simp (disch := omega) only [sh110, lt110, en_ops, en_opc, iI_add, iI_mul, iI_sub, jL_add, jL_mul, iI_le, iI_lt, iI_eq, iI_eq0, iI_lt0, iI_0le, iI_le0, iI_0lt, jL_iI, iI_jL, lc_eq, lc_lt, lc_le, lc_ge, lc_gt, Nat.sub_zero, Nat.zero_le, true_and, and_true, Nat.reduceAdd, Nat.reduceLeDiff]
  refine ⟨fun g => absurd g (by decide), fun _ => ?_⟩
  refine r_word (d := d + 5) hR h (fun g1 S1 Q1 F1 => ?_)
  simp (disch := omega) only [sh110, lt110, en_ops, en_opc, iI_add, iI_mul, iI_sub, jL_add, jL_mul, iI_le, iI_lt, iI_eq, iI_eq0, iI_lt0, iI_0le, iI_le0, iI_0lt, jL_iI, iI_jL, lc_eq, lc_lt, lc_le, lc_ge, lc_gt, Nat.sub_zero, Nat.zero_le, true_and, and_true, Nat.reduceAdd, Nat.reduceLeDiff]
  refine m_of (d := d + 2) (j := 44) iw44 ?_
  rw [pk44]
  simp (disch := omega) only [sh110, lt110, en_ops, en_opc, iI_add, iI_mul, iI_sub, jL_add, jL_mul, iI_le, iI_lt, iI_eq, iI_eq0, iI_lt0, iI_0le, iI_le0, iI_0lt, jL_iI, iI_jL, lc_eq, lc_lt, lc_le, lc_ge, lc_gt, Nat.sub_zero, Nat.zero_le, true_and, and_true, Nat.reduceAdd, Nat.reduceLeDiff]
  by_cases w : wdE X q = 1476
  · rw [if_pos w] at hne hK
    have hl9 := lt_wd w (by decide)
    have n1 := nx_gt hl9
    obtain ⟨o1, o2⟩ := bnd_o hne
    have len0 := h.2.2.2.2.2
    refine ⟨fun g => absurd (show (wdE X q : Int) = _ by omega) g, fun _ => ?_⟩
    refine r_pass (d := d + 5) hR S1 Q1 (by omega) (fun g2 S2 F2 => ?_)
    simp (disch := omega) only [sh110, lt110, en_ops, en_opc, iI_add, iI_mul, iI_sub, jL_add, jL_mul, iI_le, iI_lt, iI_eq, iI_eq0, iI_lt0, iI_0le, iI_le0, iI_0lt, jL_iI, iI_jL, lc_eq, lc_lt, lc_le, lc_ge, lc_gt, Nat.sub_zero, Nat.zero_le, true_and, and_true, Nat.reduceAdd, Nat.reduceLeDiff]
    refine h1 o a (nxE X q) (d + 7) len _ _ g2 hl hr _ hR S2 ho (by omega) o1 ⟨fun s q1 er g3 len1 S3 F3 l1 l0 l2 sg => ?_, fun e er g3 b3 F3 => ?_⟩
    · have ne2 := o2 s q1 er
      rw [er, bnd_r] at hK
      have pp := pg_pos _ _ _ _ _ _ _ n1.2.1 n1.2.2 er
      simp (disch := omega) only [sh110, lt110, en_ops, en_opc, iI_add, iI_mul, iI_sub, jL_add, jL_mul, iI_le, iI_lt, iI_eq, iI_eq0, iI_lt0, iI_0le, iI_le0, iI_0lt, jL_iI, iI_jL, lc_eq, lc_lt, lc_le, lc_ge, lc_gt, Nat.sub_zero, Nat.zero_le, true_and, and_true, Nat.reduceAdd, Nat.reduceLeDiff]
      refine r_emit (d := d + 5) hR S3 (by omega) (fun g4 S4 F4 e4 e5 => ?_)
      simp (disch := omega) only [en_ops, en_opc, iI_add, iI_mul, iI_sub, jL_add, jL_mul, iI_le, iI_lt, iI_eq, iI_eq0, iI_lt0, iI_0le, iI_le0, iI_0lt, jL_iI, iI_jL, lc_eq, lc_lt, lc_le, lc_ge, lc_gt, Nat.sub_zero, Nat.zero_le, true_and, and_true, Nat.reduceAdd, Nat.reduceLeDiff]
      have FA : Fx (rgP l len) hi g4 := ((F1.prd.tr F2.prd).tr F3).tr (F4.rg l1)
      refine h2 o _ q1 (d + 8) s0 (len1 + 1) _ _ _ g4 hl hr K rfl hR S4 ho (by omega) (by omega) (fun F V hF => ?_) ne2 ⟨fun s2 q2 er2 g5 len2 S5 F5 l3 l5 l4 sg2 => hK.s er2 S5 (FA.tr (F5.rg (by omega))) (by omega) l5 (by omega) sg2, fun e er2 g5 b5 F5 => hK.b er2 b5 ((FA.rg (by omega)).tr F5)⟩
      refine rs_bin (N1 := 6 * (6 - o) + 5) (N2 := 6 * (6 - o) + 4) (b := 620 * l + len) (c := 620 * l + len1) (o := 10) (hA F V (fun j g1 g2 => ?_)) (sg F V (fun j g1 g2 => ?_)) ?_ (by decide) (by omega) (by omega) (by omega) (by omega)
      · obtain ⟨x1, x2⟩ := hF j (by omega) (by omega)
        exact ⟨by rw [x1, FA 119 j (fun g => by unfold rgP at g; omega)], by rw [x2, FA 120 j (fun g => by unfold rgP at g; omega)]⟩
      · obtain ⟨x1, x2⟩ := hF j (by omega) (by omega)
        exact ⟨by rw [x1, F4 119 j (fun g => by unfold rgP at g; omega)], by rw [x2, F4 120 j (fun g => by unfold rgP at g; omega)]⟩
      · rw [(hF (620 * l + len1) (by omega) (by omega)).1, e4]
        rfl
    · rw [er, bnd_l] at hK
      simp (disch := omega) only [sh110, lt110, en_ops, en_opc, iI_add, iI_mul, iI_sub, jL_add, jL_mul, iI_le, iI_lt, iI_eq, iI_eq0, iI_lt0, iI_0le, iI_le0, iI_0lt, jL_iI, iI_jL, lc_eq, lc_lt, lc_le, lc_ge, lc_gt, Nat.sub_zero, Nat.zero_le, true_and, and_true, Nat.reduceAdd, Nat.reduceLeDiff]
      refine f_remit (d := d + 5) b3 ?_
      simp (disch := omega) only [en_ops, en_opc, iI_add, iI_mul, iI_sub, jL_add, jL_mul, iI_le, iI_lt, iI_eq, iI_eq0, iI_lt0, iI_0le, iI_le0, iI_0lt, jL_iI, iI_jL, lc_eq, lc_lt, lc_le, lc_ge, lc_gt, Nat.sub_zero, Nat.zero_le, true_and, and_true, Nat.reduceAdd, Nat.reduceLeDiff]
      exact fr_ll (d := d + 6) rfl b3 (hK.b rfl b3 ((F1.prd.tr F2.prd).tr F3))
  · rw [if_neg w] at hK
    refine ⟨fun _ => ?_, fun g => absurd g (by omega)⟩
    exact hK.s rfl S1 F1.prd (Nat.le_refl _) hs0 (Nat.le_refl _) (fun F V hF => hA F V (fun j j1 j2 => by
      obtain ⟨x1, x2⟩ := hF j j1 j2
      exact ⟨by rw [x1, F1 119 j (fun g => by have := g.1; omega)], by rw [x2, F1 120 j (fun g => by have := g.1; omega)]⟩))
theorem d_m1 {f : Nat} (h1 : rgM G X l Y_X11_product f 2 2) (h2 : rgV G X l Y_X11_whole 77 1 f 1 3) : rgV G X l Y_X11_whole 77 1 (f + 1) 1 3 := by
  intro o a q d s0 len xc xs ls hi hl hr K hls hR h ho hd hs0 hA hne hK
  obtain ⟨d, rfl⟩ : ∃ e, d = e + 8 := ⟨d - 8, by omega⟩
  obtain ⟨x0, hx0⟩ := List.length_eq_one_iff.mp hls
  subst hx0
  have e : pgF X (f + 1) 1 o a q = (if sgE X q 43 ∨ sgE X q 45 then bnd (pgF X f 2 o a (nxE X q)) (fun s q1 => pgF X f 1 o (fun nm => opE (if sgE X q 43 then 2 else 3) (a nm) (s nm)) q1) else .inr (a, q)) := rfl
  rw [e] at hne hK
  have cv := cv_lt (q := q) h.1
  have c1 : cvE X q = 43 ↔ sgE X q 43 := cv_i (by decide)
  have c2 : cvE X q = 45 ↔ sgE X q 45 := cv_i (by decide)
  have go : ∀ (g0 : en_I), (sgE X q 43 ∨ sgE X q 45) → rgS X l o len q g0 → Fx Prd hi g0 → en_V G Y_X11_whole (d + 8) wN wN K 102 [.ref 110, x0] [] g0 hl hr xc xs := by
    intro g0 w S0 F0
    rw [if_pos w] at hne hK
    have hl9 : q < X.2 := by rcases w with w | w <;> exact w.1
    have at1 : atE X q = q + 1 := by
      rcases w with w | w
      · exact (sg_kd (c := 43) ⟨by decide, by decide⟩ w).2
      · exact (sg_kd (c := 45) ⟨by decide, by decide⟩ w).2
    have n1 := nx_gt hl9
    obtain ⟨o1, o2⟩ := bnd_o hne
    have len0 := h.2.2.2.2.2
    obtain ⟨cd, hcd⟩ : ∃ cd : Nat, cd = (if sgE X q 43 then 2 else 3) := ⟨_, rfl⟩
    have c8 : 2 ≤ cd ∧ cd ≤ 5 := by rw [hcd]; split <;> omega
    rw [← hcd] at o2 hK
    apply s_X11_whole_102
    simp (disch := omega) only [B_X11_whole_102, sh110, lt110, en_ops, en_opc, iI_add, iI_mul, iI_sub, jL_add, jL_mul, iI_le, iI_lt, iI_eq, iI_eq0, iI_lt0, iI_0le, iI_le0, iI_0lt, jL_iI, iI_jL, lc_eq, lc_lt, lc_le, lc_ge, lc_gt, Nat.sub_zero, Nat.zero_le, true_and, and_true, Nat.reduceAdd, Nat.reduceLeDiff]
    refine r_here (d := d + 6) hR S0 (fun g1 S1 Q1 F1 => ?_)
    obtain ⟨q5, q0, qs, q4⟩ := id Q1
    simp (disch := omega) only [sh110, lt110, q4, en_ops, en_opc, iI_add, iI_mul, iI_sub, jL_add, jL_mul, iI_le, iI_lt, iI_eq, iI_eq0, iI_lt0, iI_0le, iI_le0, iI_0lt, jL_iI, iI_jL, lc_eq, lc_lt, lc_le, lc_ge, lc_gt, Nat.sub_zero, Nat.zero_le, true_and, and_true, Nat.reduceAdd, Nat.reduceLeDiff]
    have Fu : Fx P4 g1 (en_up g1 110 4 (iI ((q : Int) + 1))) := Fx.up Fx.rf ⟨rfl, rfl⟩
    have S2 : rgS X l o len (nxE X q) (en_up g1 110 4 (iI ((q : Int) + 1))) := S1.to Fu.p4 (rt4 (p := q) S1.1 _) (Q1.to Fu (by rw [up_at, at1]; exact iI_eq_of (by omega)) hl9) (by omega)
    refine h1 o a (nxE X q) (d + 7) len _ _ _ hl hr _ hR S2 ho (by omega) o1 ⟨fun s q1 er g3 len1 S3 F3 l1 l0 l2 sg => ?_, fun e er g3 b3 F3 => ?_⟩
    · have ne2 := o2 s q1 er
      rw [er, bnd_r] at hK
      have pp := pg_pos _ _ _ _ _ _ _ n1.2.1 n1.2.2 er
      have FA3 : Fx (rgP l len) hi g3 := ((F0.prd.tr F1.prd).tr Fu.p4.prd).tr F3
      have fin : ∀ (x : Value), en_Call G (d + 7) 0 0 Y_X11_emit wN wN [.ref 110, .int (iI (cd : Int)), .int (iI 0)] g3 hl hr (en_kk (kv G Y_X11_whole (d + 7 + 1) wN wN K 77) x_no [.ref 110, x] [] (xc - 0 - 0 - 0) (xs - 0 - 0 - 0)) := by
        intro x
        refine r_emit (d := d + 5) hR S3 (by omega) (fun g4 S4 F4 e4 e5 => ?_)
        simp (disch := omega) only [en_ops, en_opc, iI_add, iI_mul, iI_sub, jL_add, jL_mul, iI_le, iI_lt, iI_eq, iI_eq0, iI_lt0, iI_0le, iI_le0, iI_0lt, jL_iI, iI_jL, lc_eq, lc_lt, lc_le, lc_ge, lc_gt, Nat.sub_zero, Nat.zero_le, true_and, and_true, Nat.reduceAdd, Nat.reduceLeDiff]
        have FA : Fx (rgP l len) hi g4 := FA3.tr (F4.rg l1)
        refine h2 o _ q1 (d + 8) s0 (len1 + 1) _ _ _ g4 hl hr K rfl hR S4 ho (by omega) (by omega) (fun F V hF => ?_) ne2 ⟨fun s2 q2 er2 g5 len2 S5 F5 l3 l5 l4 sg2 => hK.s er2 S5 (FA.tr (F5.rg (by omega))) (by omega) l5 (by omega) sg2, fun e er2 g5 b5 F5 => hK.b er2 b5 ((FA.rg (by omega)).tr F5)⟩
        refine rs_bin (N1 := 6 * (6 - o) + 3) (N2 := 6 * (6 - o) + 2) (b := 620 * l + len) (c := 620 * l + len1) (o := cd) (hA F V (fun j g1 g2 => ?_)) (sg F V (fun j g1 g2 => ?_)) ?_ (by omega) (by omega) (by omega) (by omega) (by omega)
        · obtain ⟨x1, x2⟩ := hF j (by omega) (by omega)
          exact ⟨by rw [x1, FA 119 j (fun g => by unfold rgP at g; omega)], by rw [x2, FA 120 j (fun g => by unfold rgP at g; omega)]⟩
        · obtain ⟨x1, x2⟩ := hF j (by omega) (by omega)
          exact ⟨by rw [x1, F4 119 j (fun g => by unfold rgP at g; omega)], by rw [x2, F4 120 j (fun g => by unfold rgP at g; omega)]⟩
        · rw [(hF (620 * l + len1) (by omega) (by omega)).1, e4]
      simp (disch := omega) only [sh110, lt110, en_ops, en_opc, iI_add, iI_mul, iI_sub, jL_add, jL_mul, iI_le, iI_lt, iI_eq, iI_eq0, iI_lt0, iI_0le, iI_le0, iI_0lt, jL_iI, iI_jL, lc_eq, lc_lt, lc_le, lc_ge, lc_gt, Nat.sub_zero, Nat.zero_le, true_and, and_true, Nat.reduceAdd, Nat.reduceLeDiff]
      by_cases w1 : sgE X q 43
      · rw [if_pos w1] at hcd
        rw [hcd] at fin
        exact ⟨fun g => absurd (show (cvE X q : Int) = 43 by have := c1.mpr w1; omega) g, fun _ => fin _⟩
      · rw [if_neg w1] at hcd
        rw [hcd] at fin
        exact ⟨fun _ => fin _, fun g => absurd (c1.mp (by omega)) w1⟩
    · rw [er, bnd_l] at hK
      have fin : ∀ (x : Value) (w : Int32), en_Call G (d + 7) 0 0 Y_X11_emit wN wN [.ref 110, .int w, .int (iI 0)] g3 hl hr (en_kk (kv G Y_X11_whole (d + 7 + 1) wN wN K 77) x_no [.ref 110, x] [] (xc - 0 - 0 - 0) (xs - 0 - 0 - 0)) := by
        intro x w
        refine f_remit (d := d + 5) b3 ?_
        simp (disch := omega) only [en_ops, en_opc, iI_add, iI_mul, iI_sub, jL_add, jL_mul, iI_le, iI_lt, iI_eq, iI_eq0, iI_lt0, iI_0le, iI_le0, iI_0lt, jL_iI, iI_jL, lc_eq, lc_lt, lc_le, lc_ge, lc_gt, Nat.sub_zero, Nat.zero_le, true_and, and_true, Nat.reduceAdd, Nat.reduceLeDiff]
        exact fr_wl (d := d + 6) rfl b3 (hK.b rfl b3 (((F0.prd.tr F1.prd).tr Fu.p4.prd).tr F3))
      simp (disch := omega) only [sh110, lt110, en_ops, en_opc, iI_add, iI_mul, iI_sub, jL_add, jL_mul, iI_le, iI_lt, iI_eq, iI_eq0, iI_lt0, iI_0le, iI_le0, iI_0lt, jL_iI, iI_jL, lc_eq, lc_lt, lc_le, lc_ge, lc_gt, Nat.sub_zero, Nat.zero_le, true_and, and_true, Nat.reduceAdd, Nat.reduceLeDiff]
      exact ⟨fun _ => fin _ _, fun _ => fin _ _⟩
  apply s_X11_whole_77
  simp (disch := omega) only [B_X11_whole_77, sh110, lt110, en_ops, en_opc, iI_add, iI_mul, iI_sub, jL_add, jL_mul, iI_le, iI_lt, iI_eq, iI_eq0, iI_lt0, iI_0le, iI_le0, iI_0lt, jL_iI, iI_jL, lc_eq, lc_lt, lc_le, lc_ge, lc_gt, Nat.sub_zero, Nat.zero_le, true_and, and_true, Nat.reduceAdd, Nat.reduceLeDiff]
  refine r_fine h ?_
  simp (disch := omega) only [sh110, lt110, en_ops, en_opc, iI_add, iI_mul, iI_sub, jL_add, jL_mul, iI_le, iI_lt, iI_eq, iI_eq0, iI_lt0, iI_0le, iI_le0, iI_0lt, jL_iI, iI_jL, lc_eq, lc_lt, lc_le, lc_ge, lc_gt, Nat.sub_zero, Nat.zero_le, true_and, and_true, Nat.reduceAdd, Nat.reduceLeDiff]
  refine ⟨fun g => absurd g (by decide), fun _ => ?_⟩
  refine r_here (d := d + 6) hR h (fun g1 S1 Q1 F1 => ?_)
  simp (disch := omega) only [sh110, lt110, en_ops, en_opc, iI_add, iI_mul, iI_sub, jL_add, jL_mul, iI_le, iI_lt, iI_eq, iI_eq0, iI_lt0, iI_0le, iI_le0, iI_0lt, jL_iI, iI_jL, lc_eq, lc_lt, lc_le, lc_ge, lc_gt, Nat.sub_zero, Nat.zero_le, true_and, and_true, Nat.reduceAdd, Nat.reduceLeDiff]
  by_cases w : sgE X q 43
  · exact ⟨fun _ => go g1 (Or.inl w) S1 F1, fun g => absurd (show (cvE X q : Int) = 43 by have := c1.mpr w; omega) g⟩
  refine ⟨fun g => absurd (c1.mp (by omega)) w, fun _ => ?_⟩
  refine r_here (d := d + 6) hR S1 (fun g2 S2 Q2 F2 => ?_)
  simp (disch := omega) only [sh110, lt110, en_ops, en_opc, iI_add, iI_mul, iI_sub, jL_add, jL_mul, iI_le, iI_lt, iI_eq, iI_eq0, iI_lt0, iI_0le, iI_le0, iI_0lt, jL_iI, iI_jL, lc_eq, lc_lt, lc_le, lc_ge, lc_gt, Nat.sub_zero, Nat.zero_le, true_and, and_true, Nat.reduceAdd, Nat.reduceLeDiff]
  by_cases w2 : sgE X q 45
  · exact ⟨fun g => absurd (show (cvE X q : Int) = 45 by have := c2.mpr w2; omega) g, fun _ => go g2 (Or.inr w2) S2 (F1.tr F2)⟩
  · rw [if_neg (fun g => by rcases g with g | g; exact w g; exact w2 g)] at hK
    refine ⟨fun _ => ?_, fun g => absurd (c2.mp (by omega)) w2⟩
    have F12 := F1.tr F2
    exact hK.s rfl S2 F12.prd (Nat.le_refl _) hs0 (Nat.le_refl _) (fun F V hF => hA F V (fun j j1 j2 => by
      obtain ⟨x1, x2⟩ := hF j j1 j2
      exact ⟨by rw [x1, F12 119 j (fun g => by have := g.1; omega)], by rw [x2, F12 120 j (fun g => by have := g.1; omega)]⟩))
theorem d_m3 {f : Nat} (h1 : rgM G X l Y_X11_unit f 4 1) (h2 : rgV G X l Y_X11_product 4 1 f 3 2) : rgV G X l Y_X11_product 4 1 (f + 1) 3 2 := by
  intro o a q d s0 len xc xs ls hi hl hr K hls hR h ho hd hs0 hA hne hK
  obtain ⟨d, rfl⟩ : ∃ e, d = e + 8 := ⟨d - 8, by omega⟩
  obtain ⟨x0, hx0⟩ := List.length_eq_one_iff.mp hls
  subst hx0
  have e : pgF X (f + 1) 3 o a q = (if sgE X q 42 ∨ sgE X q 47 then bnd (pgF X f 4 o a (nxE X q)) (fun s q1 => pgF X f 3 o (fun nm => opE (if sgE X q 42 then 4 else 5) (a nm) (s nm)) q1) else .inr (a, q)) := rfl
  rw [e] at hne hK
  have cv := cv_lt (q := q) h.1
  have c1 : cvE X q = 42 ↔ sgE X q 42 := cv_i (by decide)
  have c2 : cvE X q = 47 ↔ sgE X q 47 := cv_i (by decide)
  have go : ∀ (g0 : en_I), (sgE X q 42 ∨ sgE X q 47) → rgS X l o len q g0 → Fx Prd hi g0 → en_V G Y_X11_product (d + 8) wN wN K 29 [.ref 110, x0] [] g0 hl hr xc xs := by
    intro g0 w S0 F0
    rw [if_pos w] at hne hK
    have hl9 : q < X.2 := by rcases w with w | w <;> exact w.1
    have at1 : atE X q = q + 1 := by
      rcases w with w | w
      · exact (sg_kd (c := 42) ⟨by decide, by decide⟩ w).2
      · exact (sg_kd (c := 47) ⟨by decide, by decide⟩ w).2
    have n1 := nx_gt hl9
    obtain ⟨o1, o2⟩ := bnd_o hne
    have len0 := h.2.2.2.2.2
    obtain ⟨cd, hcd⟩ : ∃ cd : Nat, cd = (if sgE X q 42 then 4 else 5) := ⟨_, rfl⟩
    have c8 : 2 ≤ cd ∧ cd ≤ 5 := by rw [hcd]; split <;> omega
    rw [← hcd] at o2 hK
    apply s_X11_product_29
    simp (disch := omega) only [B_X11_product_29, sh110, lt110, en_ops, en_opc, iI_add, iI_mul, iI_sub, jL_add, jL_mul, iI_le, iI_lt, iI_eq, iI_eq0, iI_lt0, iI_0le, iI_le0, iI_0lt, jL_iI, iI_jL, lc_eq, lc_lt, lc_le, lc_ge, lc_gt, Nat.sub_zero, Nat.zero_le, true_and, and_true, Nat.reduceAdd, Nat.reduceLeDiff]
    refine r_here (d := d + 6) hR S0 (fun g1 S1 Q1 F1 => ?_)
    obtain ⟨q5, q0, qs, q4⟩ := id Q1
    simp (disch := omega) only [sh110, lt110, q4, en_ops, en_opc, iI_add, iI_mul, iI_sub, jL_add, jL_mul, iI_le, iI_lt, iI_eq, iI_eq0, iI_lt0, iI_0le, iI_le0, iI_0lt, jL_iI, iI_jL, lc_eq, lc_lt, lc_le, lc_ge, lc_gt, Nat.sub_zero, Nat.zero_le, true_and, and_true, Nat.reduceAdd, Nat.reduceLeDiff]
    have Fu : Fx P4 g1 (en_up g1 110 4 (iI ((q : Int) + 1))) := Fx.up Fx.rf ⟨rfl, rfl⟩
    have S2 : rgS X l o len (nxE X q) (en_up g1 110 4 (iI ((q : Int) + 1))) := S1.to Fu.p4 (rt4 (p := q) S1.1 _) (Q1.to Fu (by rw [up_at, at1]; exact iI_eq_of (by omega)) hl9) (by omega)
    refine h1 o a (nxE X q) (d + 7) len _ _ _ hl hr _ hR S2 ho (by omega) o1 ⟨fun s q1 er g3 len1 S3 F3 l1 l0 l2 sg => ?_, fun e er g3 b3 F3 => ?_⟩
    · have ne2 := o2 s q1 er
      rw [er, bnd_r] at hK
      have pp := pg_pos _ _ _ _ _ _ _ n1.2.1 n1.2.2 er
      have FA3 : Fx (rgP l len) hi g3 := ((F0.prd.tr F1.prd).tr Fu.p4.prd).tr F3
      have fin : ∀ (x : Value), en_Call G (d + 7) 0 0 Y_X11_emit wN wN [.ref 110, .int (iI (cd : Int)), .int (iI 0)] g3 hl hr (en_kk (kv G Y_X11_product (d + 7 + 1) wN wN K 4) x_no [.ref 110, x] [] (xc - 0 - 0 - 0) (xs - 0 - 0 - 0)) := by
        intro x
        refine r_emit (d := d + 5) hR S3 (by omega) (fun g4 S4 F4 e4 e5 => ?_)
        simp (disch := omega) only [en_ops, en_opc, iI_add, iI_mul, iI_sub, jL_add, jL_mul, iI_le, iI_lt, iI_eq, iI_eq0, iI_lt0, iI_0le, iI_le0, iI_0lt, jL_iI, iI_jL, lc_eq, lc_lt, lc_le, lc_ge, lc_gt, Nat.sub_zero, Nat.zero_le, true_and, and_true, Nat.reduceAdd, Nat.reduceLeDiff]
        have FA : Fx (rgP l len) hi g4 := FA3.tr (F4.rg l1)
        refine h2 o _ q1 (d + 8) s0 (len1 + 1) _ _ _ g4 hl hr K rfl hR S4 ho (by omega) (by omega) (fun F V hF => ?_) ne2 ⟨fun s2 q2 er2 g5 len2 S5 F5 l3 l5 l4 sg2 => hK.s er2 S5 (FA.tr (F5.rg (by omega))) (by omega) l5 (by omega) sg2, fun e er2 g5 b5 F5 => hK.b er2 b5 ((FA.rg (by omega)).tr F5)⟩
        refine rs_bin (N1 := 6 * (6 - o) + 2) (N2 := 6 * (6 - o) + 1) (b := 620 * l + len) (c := 620 * l + len1) (o := cd) (hA F V (fun j g1 g2 => ?_)) (sg F V (fun j g1 g2 => ?_)) ?_ (by omega) (by omega) (by omega) (by omega) (by omega)
        · obtain ⟨x1, x2⟩ := hF j (by omega) (by omega)
          exact ⟨by rw [x1, FA 119 j (fun g => by unfold rgP at g; omega)], by rw [x2, FA 120 j (fun g => by unfold rgP at g; omega)]⟩
        · obtain ⟨x1, x2⟩ := hF j (by omega) (by omega)
          exact ⟨by rw [x1, F4 119 j (fun g => by unfold rgP at g; omega)], by rw [x2, F4 120 j (fun g => by unfold rgP at g; omega)]⟩
        · rw [(hF (620 * l + len1) (by omega) (by omega)).1, e4]
      simp (disch := omega) only [sh110, lt110, en_ops, en_opc, iI_add, iI_mul, iI_sub, jL_add, jL_mul, iI_le, iI_lt, iI_eq, iI_eq0, iI_lt0, iI_0le, iI_le0, iI_0lt, jL_iI, iI_jL, lc_eq, lc_lt, lc_le, lc_ge, lc_gt, Nat.sub_zero, Nat.zero_le, true_and, and_true, Nat.reduceAdd, Nat.reduceLeDiff]
      by_cases w1 : sgE X q 42
      · rw [if_pos w1] at hcd
        rw [hcd] at fin
        exact ⟨fun g => absurd (show (cvE X q : Int) = 42 by have := c1.mpr w1; omega) g, fun _ => fin _⟩
      · rw [if_neg w1] at hcd
        rw [hcd] at fin
        exact ⟨fun _ => fin _, fun g => absurd (c1.mp (by omega)) w1⟩
    · rw [er, bnd_l] at hK
      have fin : ∀ (x : Value) (w : Int32), en_Call G (d + 7) 0 0 Y_X11_emit wN wN [.ref 110, .int w, .int (iI 0)] g3 hl hr (en_kk (kv G Y_X11_product (d + 7 + 1) wN wN K 4) x_no [.ref 110, x] [] (xc - 0 - 0 - 0) (xs - 0 - 0 - 0)) := by
        intro x w
        refine f_remit (d := d + 5) b3 ?_
        simp (disch := omega) only [en_ops, en_opc, iI_add, iI_mul, iI_sub, jL_add, jL_mul, iI_le, iI_lt, iI_eq, iI_eq0, iI_lt0, iI_0le, iI_le0, iI_0lt, jL_iI, iI_jL, lc_eq, lc_lt, lc_le, lc_ge, lc_gt, Nat.sub_zero, Nat.zero_le, true_and, and_true, Nat.reduceAdd, Nat.reduceLeDiff]
        exact fr_pl (d := d + 6) rfl b3 (hK.b rfl b3 (((F0.prd.tr F1.prd).tr Fu.p4.prd).tr F3))
      simp (disch := omega) only [sh110, lt110, en_ops, en_opc, iI_add, iI_mul, iI_sub, jL_add, jL_mul, iI_le, iI_lt, iI_eq, iI_eq0, iI_lt0, iI_0le, iI_le0, iI_0lt, jL_iI, iI_jL, lc_eq, lc_lt, lc_le, lc_ge, lc_gt, Nat.sub_zero, Nat.zero_le, true_and, and_true, Nat.reduceAdd, Nat.reduceLeDiff]
      exact ⟨fun _ => fin _ _, fun _ => fin _ _⟩
  apply s_X11_product_4
  simp (disch := omega) only [B_X11_product_4, sh110, lt110, en_ops, en_opc, iI_add, iI_mul, iI_sub, jL_add, jL_mul, iI_le, iI_lt, iI_eq, iI_eq0, iI_lt0, iI_0le, iI_le0, iI_0lt, jL_iI, iI_jL, lc_eq, lc_lt, lc_le, lc_ge, lc_gt, Nat.sub_zero, Nat.zero_le, true_and, and_true, Nat.reduceAdd, Nat.reduceLeDiff]
  refine r_fine h ?_
  simp (disch := omega) only [sh110, lt110, en_ops, en_opc, iI_add, iI_mul, iI_sub, jL_add, jL_mul, iI_le, iI_lt, iI_eq, iI_eq0, iI_lt0, iI_0le, iI_le0, iI_0lt, jL_iI, iI_jL, lc_eq, lc_lt, lc_le, lc_ge, lc_gt, Nat.sub_zero, Nat.zero_le, true_and, and_true, Nat.reduceAdd, Nat.reduceLeDiff]
  refine ⟨fun g => absurd g (by decide), fun _ => ?_⟩
  refine r_here (d := d + 6) hR h (fun g1 S1 Q1 F1 => ?_)
  simp (disch := omega) only [sh110, lt110, en_ops, en_opc, iI_add, iI_mul, iI_sub, jL_add, jL_mul, iI_le, iI_lt, iI_eq, iI_eq0, iI_lt0, iI_0le, iI_le0, iI_0lt, jL_iI, iI_jL, lc_eq, lc_lt, lc_le, lc_ge, lc_gt, Nat.sub_zero, Nat.zero_le, true_and, and_true, Nat.reduceAdd, Nat.reduceLeDiff]
  by_cases w : sgE X q 42
  · exact ⟨fun _ => go g1 (Or.inl w) S1 F1, fun g => absurd (show (cvE X q : Int) = 42 by have := c1.mpr w; omega) g⟩
  refine ⟨fun g => absurd (c1.mp (by omega)) w, fun _ => ?_⟩
  refine r_here (d := d + 6) hR S1 (fun g2 S2 Q2 F2 => ?_)
  simp (disch := omega) only [sh110, lt110, en_ops, en_opc, iI_add, iI_mul, iI_sub, jL_add, jL_mul, iI_le, iI_lt, iI_eq, iI_eq0, iI_lt0, iI_0le, iI_le0, iI_0lt, jL_iI, iI_jL, lc_eq, lc_lt, lc_le, lc_ge, lc_gt, Nat.sub_zero, Nat.zero_le, true_and, and_true, Nat.reduceAdd, Nat.reduceLeDiff]
  by_cases w2 : sgE X q 47
  · exact ⟨fun g => absurd (show (cvE X q : Int) = 47 by have := c2.mpr w2; omega) g, fun _ => go g2 (Or.inr w2) S2 (F1.tr F2)⟩
  · rw [if_neg (fun g => by rcases g with g | g; exact w g; exact w2 g)] at hK
    refine ⟨fun _ => ?_, fun g => absurd (c2.mp (by omega)) w2⟩
    have F12 := F1.tr F2
    exact hK.s rfl S2 F12.prd (Nat.le_refl _) hs0 (Nat.le_refl _) (fun F V hF => hA F V (fun j j1 j2 => by
      obtain ⟨x1, x2⟩ := hF j j1 j2
      exact ⟨by rw [x1, F12 119 j (fun g => by have := g.1; omega)], by rw [x2, F12 120 j (fun g => by have := g.1; omega)]⟩))
end
