section
variable {G : en_G} {X : tTx} {L : Nat}
theorem lgK.s {o s0 len q N : Nat} {r : lRes} {hi hi' : en_I} {hl : en_L} {hr : en_F} {K : en_K} {s : lSem} {q1 len1 : Nat} (h : lgK X L o s0 len q N r hi hl hr K) (e : r = .inr (s, q1)) (h1 : lgS X L o len1 q1 hi') (F : Fx (lgP L len) hi hi') (l1 : len ≤ len1) (l2 : len1 + q ≤ len + q1) (sg : ∀ F : Nat → Int32, (∀ j, s0 ≤ j → j < len1 → F j = hi' (L + 1) j) → cseg F s0 len1 N s) : K (.inl none) hi' hl hr := h.1 s q1 e hi' len1 h1 F l1 l2 sg
theorem lgK.b {o s0 len q N k pl : Nat} {r : lRes} {hi hi' : en_I} {hl : en_L} {hr : en_F} {K : en_K} (h : lgK X L o s0 len q N r hi hl hr K) (e : r = .inl (k, pl)) (h1 : lgB X L k pl hi') (F : Fx (lgP L 0) hi hi') : K (.inl none) hi' hl hr := h.2 (k, pl) e hi' h1 F
theorem cseg.w {F : Nat → Int32} {a b N M : Nat} {s : lSem} (h : cseg F a b N s) (e : N ≤ M) : cseg F a b M s := fun nm t S E h1 h2 => h nm t S E (by omega) h2

theorem c_m2 {f : Nat} (h1 : lgM G X L Y_X2_readFactor f 4 1) (h2 : lgV G X L Y_X2_readTerm 6 1 f 3 2) : lgM G X L Y_X2_readTerm (f + 1) 2 2 := by
  intro o a q d len xc xs hi hl hr K hR h ho hd hne hK
  obtain ⟨d, rfl⟩ : ∃ e, d = e + 8 := ⟨d - 8, by omega⟩
  have e : pgF X (f + 1) 2 o a q = bnd (pgF X f 4 o a q) (fun s q1 => pgF X f 3 o s q1) := rfl
  rw [e] at hne hK
  obtain ⟨o1, o2⟩ := bnd_o hne
  apply en_X2_readTerm
  simp (disch := omega) only [B_X2_readTerm_0, sh29, lt29, sh26, lt26, en_ops, en_opc, iI_add, iI_mul, iI_sub, jL_add, jL_mul, iI_le, iI_lt, iI_eq, iI_eq0, iI_lt0, iI_0le, iI_le0, iI_0lt, jL_iI, iI_jL, lc_eq, lc_lt, lc_le, lc_ge, lc_gt, Nat.sub_zero, Nat.zero_le, true_and, and_true, Nat.reduceAdd, Nat.reduceLeDiff]
  refine h1 o a q (d + 7) len _ _ hi hl hr _ hR h ho (by omega) o1 ⟨fun s q1 er hi1 len1 S1 F1 l1 l2 sg => ?_, fun e er hi1 b1 F1 => ?_⟩
  · have ne2 := o2 s q1 er
    rw [er, bnd_r] at hK
    simp (disch := omega) only [en_ops, en_opc, iI_add, iI_mul, iI_sub, jL_add, jL_mul, iI_le, iI_lt, iI_eq, iI_eq0, iI_lt0, iI_0le, iI_le0, iI_0lt, jL_iI, iI_jL, lc_eq, lc_lt, lc_le, lc_ge, lc_gt, Nat.sub_zero, Nat.zero_le, true_and, and_true, Nat.reduceAdd, Nat.reduceLeDiff]
    refine h2 o s q1 (d + 8) len len1 0 _ _ _ hi1 hl hr K rfl hR S1 ho (by omega) (by omega) l1 (fun F hF => (sg F hF).w (by omega)) ne2 ⟨fun s2 q2 er2 hi2 len2 S2 F2 l3 l4 sg2 => hK.s er2 S2 (F1.tr (F2.lg l1)) (by omega) (by omega) sg2, fun e er2 hi2 b2 F2 => hK.b er2 b2 ((F1.lg (by omega)).tr F2)⟩
  · rw [er, bnd_l] at hK
    simp (disch := omega) only [en_ops, en_opc, iI_add, iI_mul, iI_sub, jL_add, jL_mul, iI_le, iI_lt, iI_eq, iI_eq0, iI_lt0, iI_0le, iI_le0, iI_0lt, jL_iI, iI_jL, lc_eq, lc_lt, lc_le, lc_ge, lc_gt, Nat.sub_zero, Nat.zero_le, true_and, and_true, Nat.reduceAdd, Nat.reduceLeDiff]
    exact f_readTerm_loop (d := d + 1) (i := 0) (by omega) rfl hR b1 (hK.b rfl b1 F1)
theorem c_m5 {f : Nat} (h1 : lgM G X L Y_X2_readBoth f 7 5) (h2 : lgV G X L Y_X2_readCondition 6 0 f 6 6) : lgM G X L Y_X2_readCondition (f + 1) 5 6 := by
  intro o a q d len xc xs hi hl hr K hR h ho hd hne hK
  obtain ⟨d, rfl⟩ : ∃ e, d = e + 8 := ⟨d - 8, by omega⟩
  have e : pgF X (f + 1) 5 o a q = bnd (pgF X f 7 o a q) (fun s q1 => pgF X f 6 o s q1) := rfl
  rw [e] at hne hK
  obtain ⟨o1, o2⟩ := bnd_o hne
  apply en_X2_readCondition
  simp (disch := omega) only [B_X2_readCondition_0, sh29, lt29, sh26, lt26, en_ops, en_opc, iI_add, iI_mul, iI_sub, jL_add, jL_mul, iI_le, iI_lt, iI_eq, iI_eq0, iI_lt0, iI_0le, iI_le0, iI_0lt, jL_iI, iI_jL, lc_eq, lc_lt, lc_le, lc_ge, lc_gt, Nat.sub_zero, Nat.zero_le, true_and, and_true, Nat.reduceAdd, Nat.reduceLeDiff]
  refine h1 o a q (d + 7) len _ _ hi hl hr _ hR h ho (by omega) o1 ⟨fun s q1 er hi1 len1 S1 F1 l1 l2 sg => ?_, fun e er hi1 b1 F1 => ?_⟩
  · have ne2 := o2 s q1 er
    rw [er, bnd_r] at hK
    simp (disch := omega) only [en_ops, en_opc, iI_add, iI_mul, iI_sub, jL_add, jL_mul, iI_le, iI_lt, iI_eq, iI_eq0, iI_lt0, iI_0le, iI_le0, iI_0lt, jL_iI, iI_jL, lc_eq, lc_lt, lc_le, lc_ge, lc_gt, Nat.sub_zero, Nat.zero_le, true_and, and_true, Nat.reduceAdd, Nat.reduceLeDiff]
    refine h2 o s q1 (d + 8) len len1 0 _ _ _ hi1 hl hr K rfl hR S1 ho (by omega) (by omega) l1 (fun F hF => (sg F hF).w (by omega)) ne2 ⟨fun s2 q2 er2 hi2 len2 S2 F2 l3 l4 sg2 => hK.s er2 S2 (F1.tr (F2.lg l1)) (by omega) (by omega) sg2, fun e er2 hi2 b2 F2 => hK.b er2 b2 ((F1.lg (by omega)).tr F2)⟩
  · rw [er, bnd_l] at hK
    simp (disch := omega) only [en_ops, en_opc, iI_add, iI_mul, iI_sub, jL_add, jL_mul, iI_le, iI_lt, iI_eq, iI_eq0, iI_lt0, iI_0le, iI_le0, iI_0lt, jL_iI, iI_jL, lc_eq, lc_lt, lc_le, lc_ge, lc_gt, Nat.sub_zero, Nat.zero_le, true_and, and_true, Nat.reduceAdd, Nat.reduceLeDiff]
    exact f_readCondition_loop (d := d + 1) (i := 0) (by omega) rfl hR b1 (hK.b rfl b1 F1)
theorem c_m7 {f : Nat} (h1 : lgM G X L Y_X2_readTest f 9 4) (h2 : lgV G X L Y_X2_readBoth 6 0 f 8 5) : lgM G X L Y_X2_readBoth (f + 1) 7 5 := by
  intro o a q d len xc xs hi hl hr K hR h ho hd hne hK
  obtain ⟨d, rfl⟩ : ∃ e, d = e + 8 := ⟨d - 8, by omega⟩
  have e : pgF X (f + 1) 7 o a q = bnd (pgF X f 9 o a q) (fun s q1 => pgF X f 8 o s q1) := rfl
  rw [e] at hne hK
  obtain ⟨o1, o2⟩ := bnd_o hne
  apply en_X2_readBoth
  simp (disch := omega) only [B_X2_readBoth_0, sh29, lt29, sh26, lt26, en_ops, en_opc, iI_add, iI_mul, iI_sub, jL_add, jL_mul, iI_le, iI_lt, iI_eq, iI_eq0, iI_lt0, iI_0le, iI_le0, iI_0lt, jL_iI, iI_jL, lc_eq, lc_lt, lc_le, lc_ge, lc_gt, Nat.sub_zero, Nat.zero_le, true_and, and_true, Nat.reduceAdd, Nat.reduceLeDiff]
  refine h1 o a q (d + 7) len _ _ hi hl hr _ hR h ho (by omega) o1 ⟨fun s q1 er hi1 len1 S1 F1 l1 l2 sg => ?_, fun e er hi1 b1 F1 => ?_⟩
  · have ne2 := o2 s q1 er
    rw [er, bnd_r] at hK
    simp (disch := omega) only [en_ops, en_opc, iI_add, iI_mul, iI_sub, jL_add, jL_mul, iI_le, iI_lt, iI_eq, iI_eq0, iI_lt0, iI_0le, iI_le0, iI_0lt, jL_iI, iI_jL, lc_eq, lc_lt, lc_le, lc_ge, lc_gt, Nat.sub_zero, Nat.zero_le, true_and, and_true, Nat.reduceAdd, Nat.reduceLeDiff]
    refine h2 o s q1 (d + 8) len len1 0 _ _ _ hi1 hl hr K rfl hR S1 ho (by omega) (by omega) l1 (fun F hF => (sg F hF).w (by omega)) ne2 ⟨fun s2 q2 er2 hi2 len2 S2 F2 l3 l4 sg2 => hK.s er2 S2 (F1.tr (F2.lg l1)) (by omega) (by omega) sg2, fun e er2 hi2 b2 F2 => hK.b er2 b2 ((F1.lg (by omega)).tr F2)⟩
  · rw [er, bnd_l] at hK
    simp (disch := omega) only [en_ops, en_opc, iI_add, iI_mul, iI_sub, jL_add, jL_mul, iI_le, iI_lt, iI_eq, iI_eq0, iI_lt0, iI_0le, iI_le0, iI_0lt, jL_iI, iI_jL, lc_eq, lc_lt, lc_le, lc_ge, lc_gt, Nat.sub_zero, Nat.zero_le, true_and, and_true, Nat.reduceAdd, Nat.reduceLeDiff]
    exact f_readBoth_loop (d := d + 1) (i := 0) (by omega) rfl hR b1 (hK.b rfl b1 F1)
theorem c_m6 {f : Nat} (h1 : lgM G X L Y_X2_readBoth f 7 5) (h2 : lgV G X L Y_X2_readCondition 6 0 f 6 6) : lgV G X L Y_X2_readCondition 6 0 (f + 1) 6 6 := by
  intro o a q d s0 len i xc xs ls hi hl hr K hls hR h ho hd hi9 hs0 hA hne hK
  obtain ⟨d, rfl⟩ : ∃ e, d = e + 8 := ⟨d - 8, by omega⟩
  have hls0 : ls = [] := List.length_eq_zero_iff.mp hls
  subst hls0
  have e : pgF X (f + 1) 6 o a q = (if wdE X q = 498 then bnd (pgF X f 7 o a (nxE X q)) (fun s q1 => pgF X f 6 o (fun nm => opE 11 (a nm) (s nm)) q1) else .inr (a, q)) := rfl
  rw [e] at hne hK
  have r0 := hR.1
  have r1 := hR.2.1
  have hL := hR.2.2.2.2.s6
  have q0 : L < 134 := by omega
  have l6 := h.1.1.1
  have hq := h.2.1.1
  apply s_X2_readCondition_6
  simp (disch := omega) only [B_X2_readCondition_6, sh29, lt29, sh26, lt26, r0, en_ops, en_opc, iI_add, iI_mul, iI_sub, jL_add, jL_mul, iI_le, iI_lt, iI_eq, iI_eq0, iI_lt0, iI_0le, iI_le0, iI_0lt, jL_iI, iI_jL, lc_eq, lc_lt, lc_le, lc_ge, lc_gt, Nat.sub_zero, Nat.zero_le, true_and, and_true, Nat.reduceAdd, Nat.reduceLeDiff]
  refine ⟨fun g => ?_, fun g => ?_⟩
  · have w : ¬ wdE X q = 498 := fun w => by have := lt_wd w (by decide); omega
    rw [if_neg w] at hK
    exact hK.s rfl h Fx.rf (Nat.le_refl _) (Nat.le_refl _) hA
  refine w_isWord (d := d + 2) (j := 14) iw14 hR h (fun b hb => ?_)
  rw [pk14] at hb
  simp (disch := omega) only [sh29, lt29, sh26, lt26, r0, en_ops, en_opc, iI_add, iI_mul, iI_sub, jL_add, jL_mul, iI_le, iI_lt, iI_eq, iI_eq0, iI_lt0, iI_0le, iI_le0, iI_0lt, jL_iI, iI_jL, lc_eq, lc_lt, lc_le, lc_ge, lc_gt, Nat.sub_zero, Nat.zero_le, true_and, and_true, Nat.reduceAdd, Nat.reduceLeDiff]
  rcases hb with ⟨rfl, w⟩ | ⟨rfl, w⟩
  · rw [if_pos w] at hne hK
    have hl9 := lt_wd w (by decide)
    have n1 := nx_gt hl9
    obtain ⟨o1, o2⟩ := bnd_o hne
    refine ⟨fun g => absurd g (by decide), fun _ => ?_⟩
    refine w_step (d := d + 5) hR h hl9 (fun hj S0 F0 => ?_)
    simp (disch := omega) only [sh29, lt29, sh26, lt26, r0, en_ops, en_opc, iI_add, iI_mul, iI_sub, jL_add, jL_mul, iI_le, iI_lt, iI_eq, iI_eq0, iI_lt0, iI_0le, iI_le0, iI_0lt, jL_iI, iI_jL, lc_eq, lc_lt, lc_le, lc_ge, lc_gt, Nat.sub_zero, Nat.zero_le, true_and, and_true, Nat.reduceAdd, Nat.reduceLeDiff]
    have len0 := h.2.2.2.2
    refine h1 o a (nxE X q) (d + 7) len _ _ hj hl hr _ hR S0 ho (by omega) o1 ⟨fun s q1 er hi1 len1 S1 F1 l1 l2 sg => ?_, fun e er hi1 b1 F1 => ?_⟩
    · have ne2 := o2 s q1 er
      rw [er, bnd_r] at hK
      have pp := pg_pos _ _ _ _ _ _ _ n1.2.1 n1.2.2 er
      simp (disch := omega) only [sh29, lt29, sh26, lt26, r1, hL.1, q0, en_ops, en_opc, iI_add, iI_mul, iI_sub, jL_add, jL_mul, iI_le, iI_lt, iI_eq, iI_eq0, iI_lt0, iI_0le, iI_le0, iI_0lt, jL_iI, iI_jL, lc_eq, lc_lt, lc_le, lc_ge, lc_gt, Nat.sub_zero, Nat.zero_le, true_and, and_true, Nat.reduceAdd, Nat.reduceLeDiff]
      refine w_emit (d := d + 6) hR S1 (by omega) (fun hi2 S2 F2 e2 => ?_)
      simp (disch := omega) only [en_ops, en_opc, iI_add, iI_mul, iI_sub, jL_add, jL_mul, iI_le, iI_lt, iI_eq, iI_eq0, iI_lt0, iI_0le, iI_le0, iI_0lt, jL_iI, iI_jL, lc_eq, lc_lt, lc_le, lc_ge, lc_gt, Nat.sub_zero, Nat.zero_le, true_and, and_true, Nat.reduceAdd, Nat.reduceLeDiff]
      have FA : Fx (lgP L len) hi hi2 := (F0.p26.tr F1).tr (F2.lg l1)
      refine h2 o _ q1 (d + 8) s0 (len1 + 1) (i + 1) _ _ _ hi2 hl hr K rfl hR S2 ho (by omega) (by have := pp.2.2.2 (by decide); omega) (by omega) (fun F hF => ?_) ne2 ⟨fun s2 q2 er2 hi3 len2 S3 F3 l3 l4 sg2 => hK.s er2 S3 (FA.tr (F3.lg (by omega))) (by omega) (by omega) sg2, fun e er2 hi3 b3 F3 => hK.b er2 b3 ((FA.lg (by omega)).tr F3)⟩
      refine cs_bin (N1 := 6 * (6 - o) + 6) (N2 := 6 * (6 - o) + 5) (b := len) (o := 11) (hA F (fun j g1 g2 => ?_)) (sg F (fun j g1 g2 => ?_)) ?_ (by decide) l1 (by omega) (by omega) (by omega)
      · rw [hF j (by omega) (by omega), FA (L + 1) j (fun g => by unfold lgP at g; omega)]
      · rw [hF j (by omega) (by omega), F2 (L + 1) j (fun g => by unfold lgP at g; omega)]
      · rw [hF len1 (by omega) (by omega), e2]
        rfl
    · rw [er, bnd_l] at hK
      simp (disch := omega) only [sh29, lt29, sh26, lt26, r1, hL.1, q0, en_ops, en_opc, iI_add, iI_mul, iI_sub, jL_add, jL_mul, iI_le, iI_lt, iI_eq, iI_eq0, iI_lt0, iI_0le, iI_le0, iI_0lt, jL_iI, iI_jL, lc_eq, lc_lt, lc_le, lc_ge, lc_gt, Nat.sub_zero, Nat.zero_le, true_and, and_true, Nat.reduceAdd, Nat.reduceLeDiff]
      refine f_emit (d := d + 6) hR b1 (fun hi2 b2 F2 => ?_)
      simp (disch := omega) only [en_ops, en_opc, iI_add, iI_mul, iI_sub, jL_add, jL_mul, iI_le, iI_lt, iI_eq, iI_eq0, iI_lt0, iI_0le, iI_le0, iI_0lt, jL_iI, iI_jL, lc_eq, lc_lt, lc_le, lc_ge, lc_gt, Nat.sub_zero, Nat.zero_le, true_and, and_true, Nat.reduceAdd, Nat.reduceLeDiff]
      exact f_readCondition_loop (d := d + 1) (i := i + 1) (by omega) rfl hR b2 (hK.b rfl b2 (((F0.p26 (len := 0)).tr F1).tr F2))
  · rw [if_neg w] at hK
    refine ⟨fun _ => ?_, fun g => (g (by first | trivial | rfl)).elim⟩
    exact hK.s rfl h Fx.rf (Nat.le_refl _) (Nat.le_refl _) hA
theorem c_m8 {f : Nat} (h1 : lgM G X L Y_X2_readTest f 9 4) (h2 : lgV G X L Y_X2_readBoth 6 0 f 8 5) : lgV G X L Y_X2_readBoth 6 0 (f + 1) 8 5 := by
  intro o a q d s0 len i xc xs ls hi hl hr K hls hR h ho hd hi9 hs0 hA hne hK
  obtain ⟨d, rfl⟩ : ∃ e, d = e + 8 := ⟨d - 8, by omega⟩
  have hls0 : ls = [] := List.length_eq_zero_iff.mp hls
  subst hls0
  have e : pgF X (f + 1) 8 o a q = (if wdE X q = 1476 then bnd (pgF X f 9 o a (nxE X q)) (fun s q1 => pgF X f 8 o (fun nm => opE 10 (a nm) (s nm)) q1) else .inr (a, q)) := rfl
  rw [e] at hne hK
  have r0 := hR.1
  have r1 := hR.2.1
  have hL := hR.2.2.2.2.s6
  have q0 : L < 134 := by omega
  have l6 := h.1.1.1
  have hq := h.2.1.1
  apply s_X2_readBoth_6
  simp (disch := omega) only [B_X2_readBoth_6, sh29, lt29, sh26, lt26, r0, en_ops, en_opc, iI_add, iI_mul, iI_sub, jL_add, jL_mul, iI_le, iI_lt, iI_eq, iI_eq0, iI_lt0, iI_0le, iI_le0, iI_0lt, jL_iI, iI_jL, lc_eq, lc_lt, lc_le, lc_ge, lc_gt, Nat.sub_zero, Nat.zero_le, true_and, and_true, Nat.reduceAdd, Nat.reduceLeDiff]
  refine ⟨fun g => ?_, fun g => ?_⟩
  · have w : ¬ wdE X q = 1476 := fun w => by have := lt_wd w (by decide); omega
    rw [if_neg w] at hK
    exact hK.s rfl h Fx.rf (Nat.le_refl _) (Nat.le_refl _) hA
  refine w_isWord (d := d + 2) (j := 13) iw13 hR h (fun b hb => ?_)
  rw [pk13] at hb
  simp (disch := omega) only [sh29, lt29, sh26, lt26, r0, en_ops, en_opc, iI_add, iI_mul, iI_sub, jL_add, jL_mul, iI_le, iI_lt, iI_eq, iI_eq0, iI_lt0, iI_0le, iI_le0, iI_0lt, jL_iI, iI_jL, lc_eq, lc_lt, lc_le, lc_ge, lc_gt, Nat.sub_zero, Nat.zero_le, true_and, and_true, Nat.reduceAdd, Nat.reduceLeDiff]
  rcases hb with ⟨rfl, w⟩ | ⟨rfl, w⟩
  · rw [if_pos w] at hne hK
    have hl9 := lt_wd w (by decide)
    have n1 := nx_gt hl9
    obtain ⟨o1, o2⟩ := bnd_o hne
    refine ⟨fun g => absurd g (by decide), fun _ => ?_⟩
    refine w_step (d := d + 5) hR h hl9 (fun hj S0 F0 => ?_)
    simp (disch := omega) only [sh29, lt29, sh26, lt26, r0, en_ops, en_opc, iI_add, iI_mul, iI_sub, jL_add, jL_mul, iI_le, iI_lt, iI_eq, iI_eq0, iI_lt0, iI_0le, iI_le0, iI_0lt, jL_iI, iI_jL, lc_eq, lc_lt, lc_le, lc_ge, lc_gt, Nat.sub_zero, Nat.zero_le, true_and, and_true, Nat.reduceAdd, Nat.reduceLeDiff]
    have len0 := h.2.2.2.2
    refine h1 o a (nxE X q) (d + 7) len _ _ hj hl hr _ hR S0 ho (by omega) o1 ⟨fun s q1 er hi1 len1 S1 F1 l1 l2 sg => ?_, fun e er hi1 b1 F1 => ?_⟩
    · have ne2 := o2 s q1 er
      rw [er, bnd_r] at hK
      have pp := pg_pos _ _ _ _ _ _ _ n1.2.1 n1.2.2 er
      simp (disch := omega) only [sh29, lt29, sh26, lt26, r1, hL.1, q0, en_ops, en_opc, iI_add, iI_mul, iI_sub, jL_add, jL_mul, iI_le, iI_lt, iI_eq, iI_eq0, iI_lt0, iI_0le, iI_le0, iI_0lt, jL_iI, iI_jL, lc_eq, lc_lt, lc_le, lc_ge, lc_gt, Nat.sub_zero, Nat.zero_le, true_and, and_true, Nat.reduceAdd, Nat.reduceLeDiff]
      refine w_emit (d := d + 6) hR S1 (by omega) (fun hi2 S2 F2 e2 => ?_)
      simp (disch := omega) only [en_ops, en_opc, iI_add, iI_mul, iI_sub, jL_add, jL_mul, iI_le, iI_lt, iI_eq, iI_eq0, iI_lt0, iI_0le, iI_le0, iI_0lt, jL_iI, iI_jL, lc_eq, lc_lt, lc_le, lc_ge, lc_gt, Nat.sub_zero, Nat.zero_le, true_and, and_true, Nat.reduceAdd, Nat.reduceLeDiff]
      have FA : Fx (lgP L len) hi hi2 := (F0.p26.tr F1).tr (F2.lg l1)
      refine h2 o _ q1 (d + 8) s0 (len1 + 1) (i + 1) _ _ _ hi2 hl hr K rfl hR S2 ho (by omega) (by have := pp.2.2.2 (by decide); omega) (by omega) (fun F hF => ?_) ne2 ⟨fun s2 q2 er2 hi3 len2 S3 F3 l3 l4 sg2 => hK.s er2 S3 (FA.tr (F3.lg (by omega))) (by omega) (by omega) sg2, fun e er2 hi3 b3 F3 => hK.b er2 b3 ((FA.lg (by omega)).tr F3)⟩
      refine cs_bin (N1 := 6 * (6 - o) + 5) (N2 := 6 * (6 - o) + 4) (b := len) (o := 10) (hA F (fun j g1 g2 => ?_)) (sg F (fun j g1 g2 => ?_)) ?_ (by decide) l1 (by omega) (by omega) (by omega)
      · rw [hF j (by omega) (by omega), FA (L + 1) j (fun g => by unfold lgP at g; omega)]
      · rw [hF j (by omega) (by omega), F2 (L + 1) j (fun g => by unfold lgP at g; omega)]
      · rw [hF len1 (by omega) (by omega), e2]
        rfl
    · rw [er, bnd_l] at hK
      simp (disch := omega) only [sh29, lt29, sh26, lt26, r1, hL.1, q0, en_ops, en_opc, iI_add, iI_mul, iI_sub, jL_add, jL_mul, iI_le, iI_lt, iI_eq, iI_eq0, iI_lt0, iI_0le, iI_le0, iI_0lt, jL_iI, iI_jL, lc_eq, lc_lt, lc_le, lc_ge, lc_gt, Nat.sub_zero, Nat.zero_le, true_and, and_true, Nat.reduceAdd, Nat.reduceLeDiff]
      refine f_emit (d := d + 6) hR b1 (fun hi2 b2 F2 => ?_)
      simp (disch := omega) only [en_ops, en_opc, iI_add, iI_mul, iI_sub, jL_add, jL_mul, iI_le, iI_lt, iI_eq, iI_eq0, iI_lt0, iI_0le, iI_le0, iI_0lt, jL_iI, iI_jL, lc_eq, lc_lt, lc_le, lc_ge, lc_gt, Nat.sub_zero, Nat.zero_le, true_and, and_true, Nat.reduceAdd, Nat.reduceLeDiff]
      exact f_readBoth_loop (d := d + 1) (i := i + 1) (by omega) rfl hR b2 (hK.b rfl b2 (((F0.p26 (len := 0)).tr F1).tr F2))
  · rw [if_neg w] at hK
    refine ⟨fun _ => ?_, fun g => (g (by first | trivial | rfl)).elim⟩
    exact hK.s rfl h Fx.rf (Nat.le_refl _) (Nat.le_refl _) hA
theorem c_m1 {f : Nat} (h1 : lgM G X L Y_X2_readTerm f 2 2) (h2 : lgV G X L Y_X2_readValue 23 1 f 1 3) : lgV G X L Y_X2_readValue 23 1 (f + 1) 1 3 := by
  intro o a q d s0 len i xc xs ls hi hl hr K hls hR h ho hd hi9 hs0 hA hne hK
  obtain ⟨d, rfl⟩ : ∃ e, d = e + 8 := ⟨d - 8, by omega⟩
  obtain ⟨x0, hx0⟩ := List.length_eq_one_iff.mp hls
  subst hx0
  have e : pgF X (f + 1) 1 o a q = (if sgE X q 43 ∨ sgE X q 45 then bnd (pgF X f 2 o a (nxE X q)) (fun s q1 => pgF X f 1 o (fun nm => opE (if sgE X q 43 then 2 else 3) (a nm) (s nm)) q1) else .inr (a, q)) := rfl
  rw [e] at hne hK
  have r0 := hR.1
  have r1 := hR.2.1
  have hL := hR.2.2.2.2.s6
  have q0 : L < 134 := by omega
  have l6 := h.1.1.1
  have hq := h.2.1.1
  apply s_X2_readValue_23
  simp (disch := omega) only [B_X2_readValue_23, sh29, lt29, sh26, lt26, r0, en_ops, en_opc, iI_add, iI_mul, iI_sub, jL_add, jL_mul, iI_le, iI_lt, iI_eq, iI_eq0, iI_lt0, iI_0le, iI_le0, iI_0lt, jL_iI, iI_jL, lc_eq, lc_lt, lc_le, lc_ge, lc_gt, Nat.sub_zero, Nat.zero_le, true_and, and_true, Nat.reduceAdd, Nat.reduceLeDiff]
  refine ⟨fun g => ?_, fun g => ?_⟩
  · have w : ¬ (sgE X q 43 ∨ sgE X q 45) := fun w => by rcases w with w | w <;> have := w.1 <;> omega
    rw [if_neg w] at hK
    exact hK.s rfl h Fx.rf (Nat.le_refl _) (Nat.le_refl _) hA
  have go : (sgE X q 43 ∨ sgE X q 45) → en_V G Y_X2_readValue (d + 8) wN wN K 54 [.ref 29, .int (iI (i : Int)), x0] [] hi hl hr xc xs := by
    intro w
    rw [if_pos w] at hne hK
    have hl9 : q < X.2 := by rcases w with w | w <;> exact w.1
    have n1 := nx_gt hl9
    obtain ⟨o1, o2⟩ := bnd_o hne
    have len0 := h.2.2.2.2
    have rest : ∀ cd : Nat, cd = (if sgE X q 43 then 2 else 3) → en_Call G (d + 7) 0 0 Y_X7_step wN wN [.ref 26] hi hl hr (en_kk (o_aload 0 (o_inv G (d + 7) 0 0 Y_X2_readTerm 0 2 wN wN (o_aload 0 (o_getR wN 2 4 1 (o_iload 2 (o_inv G (d + 7) 0 0 Y_X1_emit 1 1 wN wN (o_iinc 1 1 (kv G Y_X2_readValue (d + 7 + 1) wN wN K 23)) x_no)))) x_no)) x_no [.ref 29, .int (iI (i : Int)), .int (iI (-8 - (cd : Int)))] [] (xc - 0) (xs - 0)) := by
      intro cd hcd
      refine w_step (d := d + 5) hR h hl9 (fun hj S0 F0 => ?_)
      simp (disch := omega) only [sh29, lt29, sh26, lt26, r0, en_ops, en_opc, iI_add, iI_mul, iI_sub, jL_add, jL_mul, iI_le, iI_lt, iI_eq, iI_eq0, iI_lt0, iI_0le, iI_le0, iI_0lt, jL_iI, iI_jL, lc_eq, lc_lt, lc_le, lc_ge, lc_gt, Nat.sub_zero, Nat.zero_le, true_and, and_true, Nat.reduceAdd, Nat.reduceLeDiff]
      refine h1 o a (nxE X q) (d + 7) len _ _ hj hl hr _ hR S0 ho (by omega) o1 ⟨fun s q1 er hi1 len1 S1 F1 l1 l2 sg => ?_, fun e er hi1 b1 F1 => ?_⟩
      · have ne2 := o2 s q1 er
        rw [er, bnd_r] at hK
        have pp := pg_pos _ _ _ _ _ _ _ n1.2.1 n1.2.2 er
        simp (disch := omega) only [sh29, lt29, sh26, lt26, r1, hL.1, q0, en_ops, en_opc, iI_add, iI_mul, iI_sub, jL_add, jL_mul, iI_le, iI_lt, iI_eq, iI_eq0, iI_lt0, iI_0le, iI_le0, iI_0lt, jL_iI, iI_jL, lc_eq, lc_lt, lc_le, lc_ge, lc_gt, Nat.sub_zero, Nat.zero_le, true_and, and_true, Nat.reduceAdd, Nat.reduceLeDiff]
        refine w_emit (d := d + 6) hR S1 (by omega) (fun hi2 S2 F2 e2 => ?_)
        simp (disch := omega) only [en_ops, en_opc, iI_add, iI_mul, iI_sub, jL_add, jL_mul, iI_le, iI_lt, iI_eq, iI_eq0, iI_lt0, iI_0le, iI_le0, iI_0lt, jL_iI, iI_jL, lc_eq, lc_lt, lc_le, lc_ge, lc_gt, Nat.sub_zero, Nat.zero_le, true_and, and_true, Nat.reduceAdd, Nat.reduceLeDiff]
        have FA : Fx (lgP L len) hi hi2 := (F0.p26.tr F1).tr (F2.lg l1)
        refine h2 o _ q1 (d + 8) s0 (len1 + 1) (i + 1) _ _ _ hi2 hl hr K rfl hR S2 ho (by omega) (by have := pp.2.2.2 (by decide); omega) (by omega) (fun F hF => ?_) ne2 ⟨fun s2 q2 er2 hi3 len2 S3 F3 l3 l4 sg2 => hK.s er2 S3 (FA.tr (F3.lg (by omega))) (by omega) (by omega) sg2, fun e er2 hi3 b3 F3 => hK.b er2 b3 ((FA.lg (by omega)).tr F3)⟩
        rw [← hcd]
        have c8 : 2 ≤ cd ∧ cd ≤ 5 := by rw [hcd]; split <;> omega
        refine cs_bin (N1 := 6 * (6 - o) + 3) (N2 := 6 * (6 - o) + 2) (b := len) (o := cd) (hA F (fun j g1 g2 => ?_)) (sg F (fun j g1 g2 => ?_)) ?_ (by omega) l1 (by omega) (by omega) (by omega)
        · rw [hF j (by omega) (by omega), FA (L + 1) j (fun g => by unfold lgP at g; omega)]
        · rw [hF j (by omega) (by omega), F2 (L + 1) j (fun g => by unfold lgP at g; omega)]
        · rw [hF len1 (by omega) (by omega), e2, if_pos (by omega)]
      · rw [er, bnd_l] at hK
        simp (disch := omega) only [sh29, lt29, sh26, lt26, r1, hL.1, q0, en_ops, en_opc, iI_add, iI_mul, iI_sub, jL_add, jL_mul, iI_le, iI_lt, iI_eq, iI_eq0, iI_lt0, iI_0le, iI_le0, iI_0lt, jL_iI, iI_jL, lc_eq, lc_lt, lc_le, lc_ge, lc_gt, Nat.sub_zero, Nat.zero_le, true_and, and_true, Nat.reduceAdd, Nat.reduceLeDiff]
        refine f_emit (d := d + 6) hR b1 (fun hi2 b2 F2 => ?_)
        simp (disch := omega) only [en_ops, en_opc, iI_add, iI_mul, iI_sub, jL_add, jL_mul, iI_le, iI_lt, iI_eq, iI_eq0, iI_lt0, iI_0le, iI_le0, iI_0lt, jL_iI, iI_jL, lc_eq, lc_lt, lc_le, lc_ge, lc_gt, Nat.sub_zero, Nat.zero_le, true_and, and_true, Nat.reduceAdd, Nat.reduceLeDiff]
        exact f_readValue_loop (d := d + 1) (i := i + 1) (by omega) rfl hR b2 (hK.b rfl b2 (((F0.p26 (len := 0)).tr F1).tr F2))
    apply s_X2_readValue_54
    simp (disch := omega) only [B_X2_readValue_54, sh29, lt29, sh26, lt26, r0, en_ops, en_opc, iI_add, iI_mul, iI_sub, jL_add, jL_mul, iI_le, iI_lt, iI_eq, iI_eq0, iI_lt0, iI_0le, iI_le0, iI_0lt, jL_iI, iI_jL, lc_eq, lc_lt, lc_le, lc_ge, lc_gt, Nat.sub_zero, Nat.zero_le, true_and, and_true, Nat.reduceAdd, Nat.reduceLeDiff]
    refine w_isSign (d := d + 6) (c := 43) ⟨by decide, by decide⟩ (by decide) h (fun b hb => ?_)
    simp (disch := omega) only [sh29, lt29, sh26, lt26, r0, en_ops, en_opc, iI_add, iI_mul, iI_sub, jL_add, jL_mul, iI_le, iI_lt, iI_eq, iI_eq0, iI_lt0, iI_0le, iI_le0, iI_0lt, jL_iI, iI_jL, lc_eq, lc_lt, lc_le, lc_ge, lc_gt, Nat.sub_zero, Nat.zero_le, true_and, and_true, Nat.reduceAdd, Nat.reduceLeDiff]
    rcases hb with ⟨rfl, w2⟩ | ⟨rfl, w2⟩
    · exact ⟨fun g => absurd g (by decide), fun _ => rest 2 (if_pos w2).symm⟩
    · exact ⟨fun _ => rest 3 (if_neg w2).symm, fun g => (g (by first | trivial | rfl)).elim⟩
  refine w_isSign (d := d + 6) (c := 43) ⟨by decide, by decide⟩ (by decide) h (fun b hb => ?_)
  simp (disch := omega) only [sh29, lt29, sh26, lt26, r0, en_ops, en_opc, iI_add, iI_mul, iI_sub, jL_add, jL_mul, iI_le, iI_lt, iI_eq, iI_eq0, iI_lt0, iI_0le, iI_le0, iI_0lt, jL_iI, iI_jL, lc_eq, lc_lt, lc_le, lc_ge, lc_gt, Nat.sub_zero, Nat.zero_le, true_and, and_true, Nat.reduceAdd, Nat.reduceLeDiff]
  rcases hb with ⟨rfl, w⟩ | ⟨rfl, w⟩
  · exact ⟨fun _ => go (Or.inl w), fun g => absurd g (by decide)⟩
  refine ⟨fun g => (g (by first | trivial | rfl)).elim, fun _ => ?_⟩
  refine w_isSign (d := d + 6) (c := 45) ⟨by decide, by decide⟩ (by decide) h (fun b hb => ?_)
  simp (disch := omega) only [sh29, lt29, sh26, lt26, r0, en_ops, en_opc, iI_add, iI_mul, iI_sub, jL_add, jL_mul, iI_le, iI_lt, iI_eq, iI_eq0, iI_lt0, iI_0le, iI_le0, iI_0lt, jL_iI, iI_jL, lc_eq, lc_lt, lc_le, lc_ge, lc_gt, Nat.sub_zero, Nat.zero_le, true_and, and_true, Nat.reduceAdd, Nat.reduceLeDiff]
  rcases hb with ⟨rfl, w2⟩ | ⟨rfl, w2⟩
  · exact ⟨fun g => absurd g (by decide), fun _ => go (Or.inr w2)⟩
  · rw [if_neg (fun g => by rcases g with g | g; exact w g; exact w2 g)] at hK
    exact ⟨fun _ => hK.s rfl h Fx.rf (Nat.le_refl _) (Nat.le_refl _) hA, fun g => (g (by first | trivial | rfl)).elim⟩
theorem c_m3 {f : Nat} (h1 : lgM G X L Y_X2_readFactor f 4 1) (h2 : lgV G X L Y_X2_readTerm 6 1 f 3 2) : lgV G X L Y_X2_readTerm 6 1 (f + 1) 3 2 := by
  intro o a q d s0 len i xc xs ls hi hl hr K hls hR h ho hd hi9 hs0 hA hne hK
  obtain ⟨d, rfl⟩ : ∃ e, d = e + 8 := ⟨d - 8, by omega⟩
  obtain ⟨x0, hx0⟩ := List.length_eq_one_iff.mp hls
  subst hx0
  have e : pgF X (f + 1) 3 o a q = (if sgE X q 42 ∨ sgE X q 47 then bnd (pgF X f 4 o a (nxE X q)) (fun s q1 => pgF X f 3 o (fun nm => opE (if sgE X q 42 then 4 else 5) (a nm) (s nm)) q1) else .inr (a, q)) := rfl
  rw [e] at hne hK
  have r0 := hR.1
  have r1 := hR.2.1
  have hL := hR.2.2.2.2.s6
  have q0 : L < 134 := by omega
  have l6 := h.1.1.1
  have hq := h.2.1.1
  apply s_X2_readTerm_6
  simp (disch := omega) only [B_X2_readTerm_6, sh29, lt29, sh26, lt26, r0, en_ops, en_opc, iI_add, iI_mul, iI_sub, jL_add, jL_mul, iI_le, iI_lt, iI_eq, iI_eq0, iI_lt0, iI_0le, iI_le0, iI_0lt, jL_iI, iI_jL, lc_eq, lc_lt, lc_le, lc_ge, lc_gt, Nat.sub_zero, Nat.zero_le, true_and, and_true, Nat.reduceAdd, Nat.reduceLeDiff]
  refine ⟨fun g => ?_, fun g => ?_⟩
  · have w : ¬ (sgE X q 42 ∨ sgE X q 47) := fun w => by rcases w with w | w <;> have := w.1 <;> omega
    rw [if_neg w] at hK
    exact hK.s rfl h Fx.rf (Nat.le_refl _) (Nat.le_refl _) hA
  have go : (sgE X q 42 ∨ sgE X q 47) → en_V G Y_X2_readTerm (d + 8) wN wN K 37 [.ref 29, .int (iI (i : Int)), x0] [] hi hl hr xc xs := by
    intro w
    rw [if_pos w] at hne hK
    have hl9 : q < X.2 := by rcases w with w | w <;> exact w.1
    have n1 := nx_gt hl9
    obtain ⟨o1, o2⟩ := bnd_o hne
    have len0 := h.2.2.2.2
    have rest : ∀ cd : Nat, cd = (if sgE X q 42 then 4 else 5) → en_Call G (d + 7) 0 0 Y_X7_step wN wN [.ref 26] hi hl hr (en_kk (o_aload 0 (o_inv G (d + 7) 0 0 Y_X2_readFactor 0 2 wN wN (o_aload 0 (o_getR wN 2 4 1 (o_iload 2 (o_inv G (d + 7) 0 0 Y_X1_emit 1 1 wN wN (o_iinc 1 1 (kv G Y_X2_readTerm (d + 7 + 1) wN wN K 6)) x_no)))) x_no)) x_no [.ref 29, .int (iI (i : Int)), .int (iI (-8 - (cd : Int)))] [] (xc - 0) (xs - 0)) := by
      intro cd hcd
      refine w_step (d := d + 5) hR h hl9 (fun hj S0 F0 => ?_)
      simp (disch := omega) only [sh29, lt29, sh26, lt26, r0, en_ops, en_opc, iI_add, iI_mul, iI_sub, jL_add, jL_mul, iI_le, iI_lt, iI_eq, iI_eq0, iI_lt0, iI_0le, iI_le0, iI_0lt, jL_iI, iI_jL, lc_eq, lc_lt, lc_le, lc_ge, lc_gt, Nat.sub_zero, Nat.zero_le, true_and, and_true, Nat.reduceAdd, Nat.reduceLeDiff]
      refine h1 o a (nxE X q) (d + 7) len _ _ hj hl hr _ hR S0 ho (by omega) o1 ⟨fun s q1 er hi1 len1 S1 F1 l1 l2 sg => ?_, fun e er hi1 b1 F1 => ?_⟩
      · have ne2 := o2 s q1 er
        rw [er, bnd_r] at hK
        have pp := pg_pos _ _ _ _ _ _ _ n1.2.1 n1.2.2 er
        simp (disch := omega) only [sh29, lt29, sh26, lt26, r1, hL.1, q0, en_ops, en_opc, iI_add, iI_mul, iI_sub, jL_add, jL_mul, iI_le, iI_lt, iI_eq, iI_eq0, iI_lt0, iI_0le, iI_le0, iI_0lt, jL_iI, iI_jL, lc_eq, lc_lt, lc_le, lc_ge, lc_gt, Nat.sub_zero, Nat.zero_le, true_and, and_true, Nat.reduceAdd, Nat.reduceLeDiff]
        refine w_emit (d := d + 6) hR S1 (by omega) (fun hi2 S2 F2 e2 => ?_)
        simp (disch := omega) only [en_ops, en_opc, iI_add, iI_mul, iI_sub, jL_add, jL_mul, iI_le, iI_lt, iI_eq, iI_eq0, iI_lt0, iI_0le, iI_le0, iI_0lt, jL_iI, iI_jL, lc_eq, lc_lt, lc_le, lc_ge, lc_gt, Nat.sub_zero, Nat.zero_le, true_and, and_true, Nat.reduceAdd, Nat.reduceLeDiff]
        have FA : Fx (lgP L len) hi hi2 := (F0.p26.tr F1).tr (F2.lg l1)
        refine h2 o _ q1 (d + 8) s0 (len1 + 1) (i + 1) _ _ _ hi2 hl hr K rfl hR S2 ho (by omega) (by have := pp.2.2.2 (by decide); omega) (by omega) (fun F hF => ?_) ne2 ⟨fun s2 q2 er2 hi3 len2 S3 F3 l3 l4 sg2 => hK.s er2 S3 (FA.tr (F3.lg (by omega))) (by omega) (by omega) sg2, fun e er2 hi3 b3 F3 => hK.b er2 b3 ((FA.lg (by omega)).tr F3)⟩
        rw [← hcd]
        have c8 : 2 ≤ cd ∧ cd ≤ 5 := by rw [hcd]; split <;> omega
        refine cs_bin (N1 := 6 * (6 - o) + 2) (N2 := 6 * (6 - o) + 1) (b := len) (o := cd) (hA F (fun j g1 g2 => ?_)) (sg F (fun j g1 g2 => ?_)) ?_ (by omega) l1 (by omega) (by omega) (by omega)
        · rw [hF j (by omega) (by omega), FA (L + 1) j (fun g => by unfold lgP at g; omega)]
        · rw [hF j (by omega) (by omega), F2 (L + 1) j (fun g => by unfold lgP at g; omega)]
        · rw [hF len1 (by omega) (by omega), e2, if_pos (by omega)]
      · rw [er, bnd_l] at hK
        simp (disch := omega) only [sh29, lt29, sh26, lt26, r1, hL.1, q0, en_ops, en_opc, iI_add, iI_mul, iI_sub, jL_add, jL_mul, iI_le, iI_lt, iI_eq, iI_eq0, iI_lt0, iI_0le, iI_le0, iI_0lt, jL_iI, iI_jL, lc_eq, lc_lt, lc_le, lc_ge, lc_gt, Nat.sub_zero, Nat.zero_le, true_and, and_true, Nat.reduceAdd, Nat.reduceLeDiff]
        refine f_emit (d := d + 6) hR b1 (fun hi2 b2 F2 => ?_)
        simp (disch := omega) only [en_ops, en_opc, iI_add, iI_mul, iI_sub, jL_add, jL_mul, iI_le, iI_lt, iI_eq, iI_eq0, iI_lt0, iI_0le, iI_le0, iI_0lt, jL_iI, iI_jL, lc_eq, lc_lt, lc_le, lc_ge, lc_gt, Nat.sub_zero, Nat.zero_le, true_and, and_true, Nat.reduceAdd, Nat.reduceLeDiff]
        exact f_readTerm_loop (d := d + 1) (i := i + 1) (by omega) rfl hR b2 (hK.b rfl b2 (((F0.p26 (len := 0)).tr F1).tr F2))
    apply s_X2_readTerm_37
    simp (disch := omega) only [B_X2_readTerm_37, sh29, lt29, sh26, lt26, r0, en_ops, en_opc, iI_add, iI_mul, iI_sub, jL_add, jL_mul, iI_le, iI_lt, iI_eq, iI_eq0, iI_lt0, iI_0le, iI_le0, iI_0lt, jL_iI, iI_jL, lc_eq, lc_lt, lc_le, lc_ge, lc_gt, Nat.sub_zero, Nat.zero_le, true_and, and_true, Nat.reduceAdd, Nat.reduceLeDiff]
    refine w_isSign (d := d + 6) (c := 42) ⟨by decide, by decide⟩ (by decide) h (fun b hb => ?_)
    simp (disch := omega) only [sh29, lt29, sh26, lt26, r0, en_ops, en_opc, iI_add, iI_mul, iI_sub, jL_add, jL_mul, iI_le, iI_lt, iI_eq, iI_eq0, iI_lt0, iI_0le, iI_le0, iI_0lt, jL_iI, iI_jL, lc_eq, lc_lt, lc_le, lc_ge, lc_gt, Nat.sub_zero, Nat.zero_le, true_and, and_true, Nat.reduceAdd, Nat.reduceLeDiff]
    rcases hb with ⟨rfl, w2⟩ | ⟨rfl, w2⟩
    · exact ⟨fun g => absurd g (by decide), fun _ => rest 4 (if_pos w2).symm⟩
    · exact ⟨fun _ => rest 5 (if_neg w2).symm, fun g => (g (by first | trivial | rfl)).elim⟩
  refine w_isSign (d := d + 6) (c := 42) ⟨by decide, by decide⟩ (by decide) h (fun b hb => ?_)
  simp (disch := omega) only [sh29, lt29, sh26, lt26, r0, en_ops, en_opc, iI_add, iI_mul, iI_sub, jL_add, jL_mul, iI_le, iI_lt, iI_eq, iI_eq0, iI_lt0, iI_0le, iI_le0, iI_0lt, jL_iI, iI_jL, lc_eq, lc_lt, lc_le, lc_ge, lc_gt, Nat.sub_zero, Nat.zero_le, true_and, and_true, Nat.reduceAdd, Nat.reduceLeDiff]
  rcases hb with ⟨rfl, w⟩ | ⟨rfl, w⟩
  · exact ⟨fun _ => go (Or.inl w), fun g => absurd g (by decide)⟩
  refine ⟨fun g => (g (by first | trivial | rfl)).elim, fun _ => ?_⟩
  refine w_isSign (d := d + 6) (c := 47) ⟨by decide, by decide⟩ (by decide) h (fun b hb => ?_)
  simp (disch := omega) only [sh29, lt29, sh26, lt26, r0, en_ops, en_opc, iI_add, iI_mul, iI_sub, jL_add, jL_mul, iI_le, iI_lt, iI_eq, iI_eq0, iI_lt0, iI_0le, iI_le0, iI_0lt, jL_iI, iI_jL, lc_eq, lc_lt, lc_le, lc_ge, lc_gt, Nat.sub_zero, Nat.zero_le, true_and, and_true, Nat.reduceAdd, Nat.reduceLeDiff]
  rcases hb with ⟨rfl, w2⟩ | ⟨rfl, w2⟩
  · exact ⟨fun g => absurd g (by decide), fun _ => go (Or.inr w2)⟩
  · rw [if_neg (fun g => by rcases g with g | g; exact w g; exact w2 g)] at hK
    exact ⟨fun _ => hK.s rfl h Fx.rf (Nat.le_refl _) (Nat.le_refl _) hA, fun g => (g (by first | trivial | rfl)).elim⟩
end
