section
variable {G : en_G} {d : Nat} {K : en_K} {a nc nz : Nat} {wl s : Nat → Int} {f : Nat → Nat → Nat → Int} {hi : en_I} {hl : en_L} {hr : en_F} {xc xs : Nat}
/-- the wave that is set -/
def wvH (he bt fr : Int) (hi : en_I) : Prop := hi 35 4 = iI he ∧ hi 35 5 = iI bt ∧ hi 35 6 = iI fr
theorem nm_all {sz st ab be he bt fr cr ce : Int} (h0 : hi 35 0 = iI sz) (h1 : hi 35 1 = iI st) (h2 : hi 35 2 = iI ab) (h3 : hi 35 3 = iI be) (h4 : wvH he bt fr hi) (h7 : hi 35 7 = iI cr) (h8 : hi 35 8 = iI ce) : nmH (nmL sz st ab be he bt fr cr ce) hi := by
  intro j hj
  obtain ⟨h4, h5, h6⟩ := h4
  rcases (show j = 0 ∨ j = 1 ∨ j = 2 ∨ j = 3 ∨ j = 4 ∨ j = 5 ∨ j = 6 ∨ j = 7 ∨ j = 8 by omega) with rfl | rfl | rfl | rfl | rfl | rfl | rfl | rfl | rfl <;> assumption
theorem nmH.wv {sz st ab be he bt fr cr ce : Int} (h : nmH (nmL sz st ab be he bt fr cr ce) hi) : wvH he bt fr hi := ⟨h 4 (by omega), h 5 (by omega), h 6 (by omega)⟩
theorem nmH.fr {nm : Nat → Int} {hi' : en_I} {P : Nat → Prop} (h : nmH nm hi) (hf : Fr P hi hi') (hP : ¬ P 35) : nmH nm hi' := fun j hj => by rw [hf 35 hP]; exact h j hj
theorem isLw.sh {L : Nat} (h : isLw L) : en_SH L = (1, 4) ∧ L < 134 ∧ 50 ≤ L ∧ L + 3 < 66 := by
  rcases h with rfl | rfl | rfl | rfl <;> decide
def P56 (x : Nat) : Prop := x = 35 ∨ x = 36
theorem t_reach {L : Nat} {V : Nat → (Nat → Int) → Int} {c : Nat} {cr he bt fr : Int} (hS : seR hr) (hL : isLw L) (hLR : lwR L hr) (hV : lwV G L V hi) (hw : wvH he bt fr hi)
    (H : ∀ hi', Fr P56 hi hi' → wvH he bt fr hi' → K (.inl (some (.int (iI (V 2 (nmL 0 0 0 0 he bt fr cr c)))))) hi' hl hr) : en_Call G (d + 3) xc xs Y_X4_reach wN wN [.ref 34, .ref L, .int (iI c), .int (iI cr)] hi hl hr K := by
  have hS' := hS
  obtain ⟨r0, r1, r2⟩ := hS
  obtain ⟨l0, l1, l2, l3⟩ := hL.sh
  obtain ⟨w4, w5, w6⟩ := hw
  apply en_X4_reach
  simp (disch := omega) only [B_X4_reach_0, en_ops, en_opc, iI_add, iI_mul, iI_sub, jL_add, jL_mul, iI_le, iI_lt, iI_eq, iI_eq0, iI_lt0, iI_0le, iI_le0, iI_0lt, jL_iI, iI_jL, lc_eq, lc_lt, lc_le, lc_ge, lc_gt, Nat.sub_zero, Nat.zero_le, true_and, and_true, Nat.reduceAdd, Nat.reduceLeDiff]
  refine ⟨⟨by decide, by decide⟩, t_setPlace hS' ?_⟩
  simp (disch := omega) only [en_ops, en_opc, iI_add, iI_mul, iI_sub, jL_add, jL_mul, iI_le, iI_lt, iI_eq, iI_eq0, iI_lt0, iI_0le, iI_le0, iI_0lt, jL_iI, iI_jL, lc_eq, lc_lt, lc_le, lc_ge, lc_gt, Nat.sub_zero, Nat.zero_le, true_and, and_true, Nat.reduceAdd, Nat.reduceLeDiff]
  refine ⟨⟨by decide, by decide⟩, t_setSize (le := 0) (sa := 0) (al := 0) hS' (by omega) (by omega) (by omega) (by omega) ?_⟩
  simp (disch := omega) only [r0, r1, en_ops, en_opc, iI_add, iI_mul, iI_sub, jL_add, jL_mul, iI_le, iI_lt, iI_eq, iI_eq0, iI_lt0, iI_0le, iI_le0, iI_0lt, jL_iI, iI_jL, lc_eq, lc_lt, lc_le, lc_ge, lc_gt, Nat.sub_zero, Nat.zero_le, true_and, and_true, Nat.reduceAdd, Nat.reduceLeDiff]
  refine ⟨⟨by decide, by decide⟩, 1, rfl, by decide, ⟨by decide, by decide⟩, ⟨by decide, by decide⟩, ⟨by decide, by decide⟩, ?_⟩
  rw [l0]
  refine ⟨⟨rfl, l1⟩, ?_⟩
  generalize hg : en_up (en_up (en_up (en_up (en_up (en_up hi 35 8 (iI ↑c)) 35 7 (iI cr)) 35 0 (iI 0)) 35 2 (iI (abP 0 0 0))) 35 3 (iI (beP 0 0))) 35 1 (iI 0) = h9
  have F : Fr (· = 35) hi h9 := by
    subst hg
    exact Fr.up (Fr.up (Fr.up (Fr.up (Fr.up (Fr.up Fr.rf (by rfl)) (by rfl)) (by rfl)) (by rfl)) (by rfl)) (by rfl)
  have N : nmH (nmL 0 0 0 0 he bt fr cr c) h9 := by
    subst hg
    refine nm_all ?_ ?_ ?_ ?_ ⟨?_, ?_, ?_⟩ ?_ ?_ <;> simp [en_up, w4, w5, w6, abP, beP]
  refine hV h9 hl hr _ (d) 0 0 2 _ (F _ (by omega)) (F _ (by omega)) (F _ (by omega)) (F _ (by omega)) (by omega) N hLR (fun hi' F2 => ?_)
  simp (disch := omega) only [en_ops, en_opc, iI_add, iI_mul, iI_sub, jL_add, jL_mul, iI_le, iI_lt, iI_eq, iI_eq0, iI_lt0, iI_0le, iI_le0, iI_0lt, jL_iI, iI_jL, lc_eq, lc_lt, lc_le, lc_ge, lc_gt, Nat.sub_zero, Nat.zero_le, true_and, and_true, Nat.reduceAdd, Nat.reduceLeDiff]
  exact H hi' ((F.mono (fun x e => Or.inl e)).tr (F2.mono (fun x e => Or.inr e))) (N.fr F2 (by decide)).wv
theorem sum_lt {c z : Nat} (hB : fB nc nz f) (hz : z < nz) : 0 ≤ sumTo z (aP f c) ∧ sumTo z (aP f c) + aP f c z ≤ wP f nz c := by
  refine ⟨sumTo_nn (fun i _ => aP_nn hB c i), ?_⟩
  have : sumTo (z + 1) (aP f c) ≤ sumTo nz (aP f c) := sumTo_mono (by omega) (fun i _ => aP_nn hB c i)
  exact this
/-- the names of the stones at c of size z and stuff k -/
def nmS (f : Nat → Nat → Nat → Int) (nz : Nat) (he bt fr : Int) (cr : Int) (c z k : Nat) : Nat → Int := nmL z k (abP (sumTo z (aP f c)) (aP f c z) (wP f nz c)) (beP (sumTo z (aP f c)) (wP f nz c)) he bt fr cr c
theorem shH.fr {P : Nat → Prop} {hi' : en_I} (ha : isSh a) (h : shH a nc nz f hi) (hf : Fr P hi hi') (hP : ∀ x, a ≤ x → x ≤ a + 1 → ¬ P x) : shH a nc nz f hi' := by
  obtain ⟨h0, h1, h2, h3, h4⟩ := h
  have e0 := hf a (hP a (by omega) (by omega))
  have e1 := hf (a + 1) (hP _ (by omega) (by omega))
  refine ⟨by rw [e0]; exact h0, by rw [e0]; exact h1, h2, h3, fun c z k hc hz hk => by rw [e1]; exact h4 c z k hc hz hk⟩
theorem isSh.n35 (ha : isSh a) : a + 7 < 35 ∨ 37 < a := by
  rcases ha with rfl | rfl | rfl | rfl | rfl <;> omega
theorem t_ask {L w : Nat} {V : Nat → (Nat → Int) → Int} {c z k : Nat} {cr he bt fr : Int} (hS : seR hr) (hL : isLw L) (hLR : lwR L hr) (hV : lwV G L V hi) (hw : wvH he bt fr hi) (hw3 : w < 3)
    (ha : isSh a) (hR : shR a hr) (hh : shH a nc nz f hi) (hB : fB nc nz f) (hc : c < 12) (hz : z < nz) (hcr : hi (a + 2) c = iI cr)
    (H : ∀ hi', Fr P56 hi hi' → wvH he bt fr hi' → K (.inl (some (.int (iI (V w (nmS f nz he bt fr cr c z k)))))) hi' hl hr) : en_Call G (d + 3) xc xs Y_X4_ask wN wN [.ref 34, .ref a, .ref L, .int (iI w), .int (iI c), .int (iI z), .int (iI k)] hi hl hr K := by
  obtain ⟨s0, s1, s2, s3, s4, s5, s6, s7, s8, s9, s10, s11⟩ := ha.sh
  obtain ⟨r1, r2, r3, r4, r5, r6, r7⟩ := id hR
  obtain ⟨h0, h1, b0, b1, h2⟩ := id hh
  have q1 : a + 1 < 134 := by omega
  have q2 : a + 2 < 134 := by omega
  have q3 : a + 3 < 134 := by omega
  have q4 : a + 4 < 134 := by omega
  have q5 : a + 5 < 134 := by omega
  have q6 : a + 6 < 134 := by omega
  have q7 : a + 7 < 134 := by omega
  have hS' := hS
  obtain ⟨e0, e1, e2⟩ := hS
  obtain ⟨l0, l1, l2, l3⟩ := hL.sh
  obtain ⟨w4, w5, w6⟩ := hw
  have h35 := ha.n35
  obtain ⟨g0, g1⟩ := sum_lt (c := c) hB hz
  have a0 := aP_nn hB c z
  have wle := wP_le hB b1 hc
  apply en_X4_ask
  simp (disch := omega) only [B_X4_ask_0, en_ops, en_opc, iI_add, iI_mul, iI_sub, jL_add, jL_mul, iI_le, iI_lt, iI_eq, iI_eq0, iI_lt0, iI_0le, iI_le0, iI_0lt, jL_iI, iI_jL, lc_eq, lc_lt, lc_le, lc_ge, lc_gt, Nat.sub_zero, Nat.zero_le, true_and, and_true, Nat.reduceAdd, Nat.reduceLeDiff]
  suffices L9 : ∀ i : Nat, i ≤ z → en_V G Y_X4_ask (d + 3) wN wN K 6 [.ref 34, .ref a, .ref L, .int (iI w), .int (iI c), .int (iI z), .int (iI k), .int (iI (sumTo i (aP f c))), .int (iI i)] [] hi hl hr xc xs from L9 0 (by omega)
  refine lp z ?_ (fun i hi9 ih => ?_)
  · apply s_X4_ask_6
    simp (disch := omega) only [B_X4_ask_6, r2, s0, s1, s3, q2, en_ops, en_opc, iI_add, iI_mul, iI_sub, jL_add, jL_mul, iI_le, iI_lt, iI_eq, iI_eq0, iI_lt0, iI_0le, iI_le0, iI_0lt, jL_iI, iI_jL, lc_eq, lc_lt, lc_le, lc_ge, lc_gt, Nat.sub_zero, Nat.zero_le, true_and, and_true, Nat.reduceAdd, Nat.reduceLeDiff]
    refine ⟨fun _ => ⟨c, rfl, hc, ?_⟩, fun e => absurd (Int.le_refl _) e⟩
    rw [hcr]
    refine ⟨⟨by decide, by decide⟩, t_setPlace hS' ?_⟩
    simp (disch := omega) only [s0, s1, en_ops, en_opc, iI_add, iI_mul, iI_sub, jL_add, jL_mul, iI_le, iI_lt, iI_eq, iI_eq0, iI_lt0, iI_0le, iI_le0, iI_0lt, jL_iI, iI_jL, lc_eq, lc_lt, lc_le, lc_ge, lc_gt, Nat.sub_zero, Nat.zero_le, true_and, and_true, Nat.reduceAdd, Nat.reduceLeDiff]
    generalize hg1 : en_up (en_up hi 35 8 (iI ↑c)) 35 7 (iI cr) = h1x
    have F1 : Fr (· = 35) hi h1x := by subst hg1; exact Fr.up (Fr.up Fr.rf (by rfl)) (by rfl)
    have hh1 : shH a nc nz f h1x := shH.fr ha hh F1 (fun x p1 p2 => by omega)
    refine t_inCell ha hR hh1 hc (by omega) (by omega) ?_
    simp (disch := omega) only [s0, s1, en_ops, en_opc, iI_add, iI_mul, iI_sub, jL_add, jL_mul, iI_le, iI_lt, iI_eq, iI_eq0, iI_lt0, iI_0le, iI_le0, iI_0lt, jL_iI, iI_jL, lc_eq, lc_lt, lc_le, lc_ge, lc_gt, Nat.sub_zero, Nat.zero_le, true_and, and_true, Nat.reduceAdd, Nat.reduceLeDiff]
    refine t_allIn ha hR hh1 hB hc ?_
    rw [inP_a hz]
    simp (disch := omega) only [en_ops, en_opc, iI_add, iI_mul, iI_sub, jL_add, jL_mul, iI_le, iI_lt, iI_eq, iI_eq0, iI_lt0, iI_0le, iI_le0, iI_0lt, jL_iI, iI_jL, lc_eq, lc_lt, lc_le, lc_ge, lc_gt, Nat.sub_zero, Nat.zero_le, true_and, and_true, Nat.reduceAdd, Nat.reduceLeDiff]
    refine ⟨⟨by decide, by decide⟩, t_setSize hS' g0 a0 (by omega) (by omega) ?_⟩
    simp (disch := omega) only [e0, e1, en_ops, en_opc, iI_add, iI_mul, iI_sub, jL_add, jL_mul, iI_le, iI_lt, iI_eq, iI_eq0, iI_lt0, iI_0le, iI_le0, iI_0lt, jL_iI, iI_jL, lc_eq, lc_lt, lc_le, lc_ge, lc_gt, Nat.sub_zero, Nat.zero_le, true_and, and_true, Nat.reduceAdd, Nat.reduceLeDiff]
    refine ⟨⟨by decide, by decide⟩, 1, rfl, by decide, ⟨by decide, by decide⟩, ⟨by decide, by decide⟩, ⟨by decide, by decide⟩, ?_⟩
    rw [l0]
    refine ⟨⟨rfl, l1⟩, ?_⟩
    generalize hg : en_up (en_up (en_up (en_up h1x 35 0 (iI ↑z)) 35 2 (iI (abP (sumTo z (aP f c)) (aP f c z) (wP f nz c)))) 35 3 (iI (beP (sumTo z (aP f c)) (wP f nz c)))) 35 1 (iI ↑k) = h9
    have F : Fr (· = 35) hi h9 := by
      subst hg
      exact Fr.up (Fr.up (Fr.up (Fr.up F1 (by rfl)) (by rfl)) (by rfl)) (by rfl)
    have N : nmH (nmS f nz he bt fr cr c z k) h9 := by
      subst hg
      subst hg1
      refine nm_all ?_ ?_ ?_ ?_ ⟨?_, ?_, ?_⟩ ?_ ?_ <;> simp [en_up, w4, w5, w6]
    refine hV h9 hl hr _ (d) 0 0 w _ (F _ (by omega)) (F _ (by omega)) (F _ (by omega)) (F _ (by omega)) hw3 N hLR (fun hi' F2 => ?_)
    simp (disch := omega) only [en_ops, en_opc, iI_add, iI_mul, iI_sub, jL_add, jL_mul, iI_le, iI_lt, iI_eq, iI_eq0, iI_lt0, iI_0le, iI_le0, iI_0lt, jL_iI, iI_jL, lc_eq, lc_lt, lc_le, lc_ge, lc_gt, Nat.sub_zero, Nat.zero_le, true_and, and_true, Nat.reduceAdd, Nat.reduceLeDiff]
    exact H hi' ((F.mono (fun x e => Or.inl e)).tr (F2.mono (fun x e => Or.inr e))) (nmH.wv (N.fr F2 (by decide)))
  · rw [sumTo_s] at ih
    apply s_X4_ask_6
    simp (disch := omega) only [B_X4_ask_6, s0, s1, en_ops, en_opc, iI_add, iI_mul, iI_sub, jL_add, jL_mul, iI_le, iI_lt, iI_eq, iI_eq0, iI_lt0, iI_0le, iI_le0, iI_0lt, jL_iI, iI_jL, lc_eq, lc_lt, lc_le, lc_ge, lc_gt, Nat.sub_zero, Nat.zero_le, true_and, and_true, Nat.reduceAdd, Nat.reduceLeDiff]
    refine ⟨fun e => by omega, fun _ => t_inCell ha hR hh hc (by omega) (by omega) ?_⟩
    rw [inP_a (by omega)]
    simp (disch := omega) only [en_ops, en_opc, iI_add, iI_mul, iI_sub, jL_add, jL_mul, iI_le, iI_lt, iI_eq, iI_eq0, iI_lt0, iI_0le, iI_le0, iI_0lt, jL_iI, iI_jL, lc_eq, lc_lt, lc_le, lc_ge, lc_gt, Nat.sub_zero, Nat.zero_le, true_and, and_true, Nat.reduceAdd, Nat.reduceLeDiff]
    exact ih
theorem t_held {x : Int} (h1 : -2147483648 ≤ x) (h2 : x < 2147483648) (H : K (.inl (some (.int (iI (if x < 0 then 0 else if 16 < x then 16 else x))))) hi hl hr) : en_Call G (d + 1) xc xs Y_X4_held wN wN [.int (iI x)] hi hl hr K := by
  apply en_X4_held
  simp (disch := omega) only [B_X4_held_0, en_ops, en_opc, iI_add, iI_mul, iI_sub, jL_add, jL_mul, iI_le, iI_lt, iI_eq, iI_eq0, iI_lt0, iI_0le, iI_le0, iI_0lt, jL_iI, iI_jL, lc_eq, lc_lt, lc_le, lc_ge, lc_gt, Nat.sub_zero, Nat.zero_le, true_and, and_true, Nat.reduceAdd, Nat.reduceLeDiff]
  refine ⟨fun e => ⟨fun e2 => ?_, fun e2 => ?_⟩, fun e => ?_⟩
  · rw [if_neg (by omega), if_neg (by omega)] at H; exact H
  · rw [if_neg (by omega), if_pos (by omega)] at H; exact H
  · rw [if_pos (by omega)] at H; exact H
theorem t_lowered {x : Int} (h1 : -2147483648 < x) (h2 : x < 2147483648) (H : K (.inl (some (.int (iI (if 1 < x then x - 1 else 1))))) hi hl hr) : en_Call G (d + 1) xc xs Y_X4_lowered wN wN [.int (iI x)] hi hl hr K := by
  apply en_X4_lowered
  simp (disch := omega) only [B_X4_lowered_0, en_ops, en_opc, iI_add, iI_mul, iI_sub, jL_add, jL_mul, iI_le, iI_lt, iI_eq, iI_eq0, iI_lt0, iI_0le, iI_le0, iI_0lt, jL_iI, iI_jL, lc_eq, lc_lt, lc_le, lc_ge, lc_gt, Nat.sub_zero, Nat.zero_le, true_and, and_true, Nat.reduceAdd, Nat.reduceLeDiff]
  refine ⟨fun e => ?_, fun e => ?_⟩
  · rw [if_neg (by omega)] at H; exact H
  · rw [if_pos (by omega)] at H; exact H
end
