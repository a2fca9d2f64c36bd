theorem sum18 {f : Nat → Nat → Nat → Int} {c : Nat} : sumTo 18 (fun j => f c (j / 3) (j % 3)) = wP f 6 c := by
  simp [sumTo, wP, aP]
  omega
section
variable {G : en_G} {d : Nat} {K : en_K} {a nc nz : Nat} {f : Nat → Nat → Nat → Int} {hi : en_I} {hl : en_L} {hr : en_F} {xc xs : Nat}
theorem t_allIn {c : Nat} (ha : isSh a) (hR : shR a hr) (hh : shH a nc nz f hi) (hB : fB nc nz f) (hc : c < 12)
    (H : K (.inl (some (.int (iI (wP f nz c))))) hi hl hr) : en_Call G (d + 1) xc xs Y_X6_allIn wN wN [.ref a, .int (iI c)] hi hl hr K := by
  obtain ⟨s0, s1, s2, s3, s4, s5, s6, s7, s8, s9, s10, s11⟩ := ha.sh
  obtain ⟨r1, r2, r3, r4, r5, r6, r7⟩ := id hR
  obtain ⟨h0, h1, b0, b1, h2⟩ := id hh
  have q1 : a + 1 < 134 := by omega
  have q2 : a + 2 < 134 := by omega
  have q3 : a + 3 < 134 := by omega
  have q4 : a + 4 < 134 := by omega
  have q5 : a + 5 < 134 := by omega
  have q6 : a + 6 < 134 := by omega
  have q7 : a + 7 < 134 := by omega
  apply en_X6_allIn
  simp (disch := omega) only [B_X6_allIn_0, en_ops, en_opc, iI_add, iI_mul, iI_sub, jL_add, jL_mul, iI_le, iI_lt, iI_eq, iI_eq0, iI_lt0, iI_0le, iI_le0, iI_0lt, jL_iI, iI_jL, lc_eq, lc_lt, lc_le, lc_ge, lc_gt, Nat.sub_zero, Nat.zero_le, true_and, and_true, Nat.reduceAdd, Nat.reduceLeDiff]
  suffices L : ∀ j : Nat, j ≤ 18 → en_V G Y_X6_allIn (d + 1) wN wN K 10 [.ref a, .int (iI c), .int (iI (sumTo j (fun j => f c (j / 3) (j % 3)))), .int (iI (c * 18)), .int (iI (c * 18 + j))] [] hi hl hr xc xs by
    have := L 0 (by omega)
    rw [sumTo_z, show (c : Int) * 18 + (0 : Nat) = c * 18 by omega] at this
    exact this
  refine lp 18 ?_ (fun j hj ih => ?_)
  · apply s_X6_allIn_10
    simp (disch := omega) only [B_X6_allIn_10, en_ops, en_opc, iI_add, iI_mul, iI_sub, jL_add, jL_mul, iI_le, iI_lt, iI_eq, iI_eq0, iI_lt0, iI_0le, iI_le0, iI_0lt, jL_iI, iI_jL, lc_eq, lc_lt, lc_le, lc_ge, lc_gt, Nat.sub_zero, Nat.zero_le, true_and, and_true, Nat.reduceAdd, Nat.reduceLeDiff]
    rw [sum18, wP_6 hB b1]
    exact ⟨fun _ => H, fun e => absurd (show (c : Int) * 18 + 18 ≤ c * 18 + (18 : Nat) by omega) e⟩
  · apply s_X6_allIn_10
    simp (disch := omega) only [B_X6_allIn_10, r1, s0, s1, s2, q1, en_ops, en_opc, iI_add, iI_mul, iI_sub, jL_add, jL_mul, iI_le, iI_lt, iI_eq, iI_eq0, iI_lt0, iI_0le, iI_le0, iI_0lt, jL_iI, iI_jL, lc_eq, lc_lt, lc_le, lc_ge, lc_gt, Nat.sub_zero, Nat.zero_le, true_and, and_true, Nat.reduceAdd, Nat.reduceLeDiff]
    refine ⟨fun e => by omega, fun e => ⟨(c * 6 + j / 3) * 3 + j % 3, iI_eq_of (by omega), by omega, ?_⟩⟩
    rw [h2 _ _ _ hc (by omega) (by omega), iI_add, show (c : Int) * 18 + j + 1 = c * 18 + (j + 1 : Nat) by omega]
    rw [sumTo_s] at ih
    exact ih
def mnP (f : Nat → Nat → Nat → Int) (nz c : Nat) : Int := if wP f nz c = 0 then -1 else 1000 * sumTo nz (fun z => z * aP f c z) / wP f nz c
theorem mn_w {c : Nat} (hB : fB nc nz f) (n : Nat) (hn : n ≤ nz) (b1 : nz ≤ 6) : 0 ≤ sumTo n (fun z => z * aP f c z) ∧ sumTo n (fun z => z * aP f c z) ≤ 5 * wP f nz c := by
  refine ⟨sumTo_nn (fun z _ => Int.mul_nonneg (by omega) (aP_nn hB c z)), ?_⟩
  refine Int.le_trans (sumTo_mono (m := nz) hn (fun z _ => Int.mul_nonneg (by omega) (aP_nn hB c z))) ?_
  unfold wP
  rw [← sumTo_mul]
  exact sumTo_le (fun z hz => Int.mul_le_mul_of_nonneg_right (by omega) (aP_nn hB c z))
theorem mnP_r {c : Nat} (hB : fB nc nz f) (b1 : nz ≤ 6) : -1 ≤ mnP f nz c ∧ mnP f nz c ≤ 5000 := by
  unfold mnP
  split
  · omega
  next e =>
    have w0 := wP_nn (m := nz) hB c
    obtain ⟨m0, m1⟩ := mn_w (c := c) hB nz (Nat.le_refl _) b1
    have : 0 ≤ 1000 * sumTo nz (fun z => z * aP f c z) / wP f nz c := Int.ediv_nonneg (by omega) w0
    have : 1000 * sumTo nz (fun z => z * aP f c z) / wP f nz c ≤ 5000 := Int.ediv_le_of_le_mul (by omega) (by omega)
    omega
theorem t_meanOf {c : Nat} (ha : isSh a) (hR : shR a hr) (hh : shH a nc nz f hi) (hB : fB nc nz f) (hc : c < 12)
    (H : K (.inl (some (.int (iI (mnP f nz c))))) hi hl hr) : en_Call G (d + 3) xc xs Y_X6_meanOf wN wN [.ref a, .int (iI c)] hi hl hr K := by
  obtain ⟨s0, s1, s2, s3, s4, s5, s6, s7, s8, s9, s10, s11⟩ := ha.sh
  obtain ⟨r1, r2, r3, r4, r5, r6, r7⟩ := id hR
  obtain ⟨h0, h1, b0, b1, h2⟩ := id hh
  have q1 : a + 1 < 134 := by omega
  have q2 : a + 2 < 134 := by omega
  have q3 : a + 3 < 134 := by omega
  have q4 : a + 4 < 134 := by omega
  have q5 : a + 5 < 134 := by omega
  have q6 : a + 6 < 134 := by omega
  have q7 : a + 7 < 134 := by omega
  have w0 := wP_nn (m := nz) hB c
  have w1 := wP_le hB b1 hc
  apply en_X6_meanOf
  simp (disch := omega) only [B_X6_meanOf_0, s0, s1, en_ops, en_opc, iI_add, iI_mul, iI_sub, jL_add, jL_mul, iI_le, iI_lt, iI_eq, iI_eq0, iI_lt0, iI_0le, iI_le0, iI_0lt, jL_iI, iI_jL, lc_eq, lc_lt, lc_le, lc_ge, lc_gt, Nat.sub_zero, Nat.zero_le, true_and, and_true, Nat.reduceAdd, Nat.reduceLeDiff]
  refine (t_allIn ha hR hh hB hc ?_)
  simp (disch := omega) only [en_ops, en_opc, iI_add, iI_mul, iI_sub, jL_add, jL_mul, iI_le, iI_lt, iI_eq, iI_eq0, iI_lt0, iI_0le, iI_le0, iI_0lt, jL_iI, iI_jL, lc_eq, lc_lt, lc_le, lc_ge, lc_gt, Nat.sub_zero, Nat.zero_le, true_and, and_true, Nat.reduceAdd, Nat.reduceLeDiff]
  refine ⟨fun e => ?_, fun e => ?_⟩
  · suffices L : ∀ z : Nat, z ≤ nz → en_V G Y_X6_meanOf (d + 3) wN wN K 21 [.ref a, .int (iI c), .long (jL (wP f nz c)), jk, .long (jL (sumTo z (fun z => z * aP f c z))), jk, .int (iI z)] [] hi hl hr xc xs from L 0 (by omega)
    refine lp nz ?_ (fun z hz ih => ?_)
    · apply s_X6_meanOf_21
      simp (disch := omega) only [B_X6_meanOf_21, s0, s1, h1, en_ops, en_opc, iI_add, iI_mul, iI_sub, jL_add, jL_mul, iI_le, iI_lt, iI_eq, iI_eq0, iI_lt0, iI_0le, iI_le0, iI_0lt, jL_iI, iI_jL, lc_eq, lc_lt, lc_le, lc_ge, lc_gt, Nat.sub_zero, Nat.zero_le, true_and, and_true, Nat.reduceAdd, Nat.reduceLeDiff]
      obtain ⟨m0, m1⟩ := mn_w (c := c) hB nz (Nat.le_refl _) b1
      refine ⟨fun _ => ⟨?_, ?_⟩, fun e => absurd (Int.le_refl _) e⟩
      · rw [jL_eq0 (by omega) (by omega)]; exact e
      · rw [jL_div (by omega) (by omega) (by omega) (by omega)]
        simp (disch := omega) only [en_ops, en_opc, iI_add, iI_mul, iI_sub, jL_add, jL_mul, iI_le, iI_lt, iI_eq, iI_eq0, iI_lt0, iI_0le, iI_le0, iI_0lt, jL_iI, iI_jL, lc_eq, lc_lt, lc_le, lc_ge, lc_gt, Nat.sub_zero, Nat.zero_le, true_and, and_true, Nat.reduceAdd, Nat.reduceLeDiff]
        unfold mnP at H
        rw [if_neg e] at H
        exact H
    · apply s_X6_meanOf_21
      simp (disch := omega) only [B_X6_meanOf_21, s0, s1, h1, en_ops, en_opc, iI_add, iI_mul, iI_sub, jL_add, jL_mul, iI_le, iI_lt, iI_eq, iI_eq0, iI_lt0, iI_0le, iI_le0, iI_0lt, jL_iI, iI_jL, lc_eq, lc_lt, lc_le, lc_ge, lc_gt, Nat.sub_zero, Nat.zero_le, true_and, and_true, Nat.reduceAdd, Nat.reduceLeDiff]
      refine ⟨fun e => by omega, fun _ => t_inCell ha hR hh hc (by omega) (by omega) ?_⟩
      rw [inP_a hz]
      have a0 := aP_nn hB c z
      have a1 := aP_le hB b1 hc z
      simp (disch := omega) only [en_ops, en_opc, iI_add, iI_mul, iI_sub, jL_add, jL_mul, iI_le, iI_lt, iI_eq, iI_eq0, iI_lt0, iI_0le, iI_le0, iI_0lt, jL_iI, iI_jL, lc_eq, lc_lt, lc_le, lc_ge, lc_gt, Nat.sub_zero, Nat.zero_le, true_and, and_true, Nat.reduceAdd, Nat.reduceLeDiff]
      rw [sumTo_s] at ih
      exact ih
  · have e0 : wP f nz c = 0 := by omega
    unfold mnP at H
    rw [if_pos e0] at H
    exact H
def sdP (f : Nat → Nat → Nat → Int) (nz c : Nat) : Int := if mnP f nz c = -1 then -1 else 60 - mnP f nz c / 100
theorem t_soundOf {c : Nat} (ha : isSh a) (hR : shR a hr) (hh : shH a nc nz f hi) (hB : fB nc nz f) (hc : c < 12)
    (H : K (.inl (some (.int (iI (sdP f nz c))))) hi hl hr) : en_Call G (d + 4) xc xs Y_X6_soundOf wN wN [.ref a, .int (iI c)] hi hl hr K := by
  obtain ⟨s0, s1, s2, s3, s4, s5, s6, s7, s8, s9, s10, s11⟩ := ha.sh
  obtain ⟨r1, r2, r3, r4, r5, r6, r7⟩ := id hR
  obtain ⟨h0, h1, b0, b1, h2⟩ := id hh
  have q1 : a + 1 < 134 := by omega
  have q2 : a + 2 < 134 := by omega
  have q3 : a + 3 < 134 := by omega
  have q4 : a + 4 < 134 := by omega
  have q5 : a + 5 < 134 := by omega
  have q6 : a + 6 < 134 := by omega
  have q7 : a + 7 < 134 := by omega
  obtain ⟨m0, m1⟩ := mnP_r (c := c) hB b1
  apply en_X6_soundOf
  simp (disch := omega) only [B_X6_soundOf_0, s0, s1, en_ops, en_opc, iI_add, iI_mul, iI_sub, jL_add, jL_mul, iI_le, iI_lt, iI_eq, iI_eq0, iI_lt0, iI_0le, iI_le0, iI_0lt, jL_iI, iI_jL, lc_eq, lc_lt, lc_le, lc_ge, lc_gt, Nat.sub_zero, Nat.zero_le, true_and, and_true, Nat.reduceAdd, Nat.reduceLeDiff]
  refine (t_meanOf ha hR hh hB hc ?_)
  simp (disch := omega) only [en_ops, en_opc, iI_add, iI_mul, iI_sub, jL_add, jL_mul, iI_le, iI_lt, iI_eq, iI_eq0, iI_lt0, iI_0le, iI_le0, iI_0lt, jL_iI, iI_jL, lc_eq, lc_lt, lc_le, lc_ge, lc_gt, Nat.sub_zero, Nat.zero_le, true_and, and_true, Nat.reduceAdd, Nat.reduceLeDiff]
  unfold sdP at H
  refine ⟨fun e => ?_, fun e => ?_⟩
  · rw [if_neg e] at H
    refine ⟨by decide, ?_⟩
    rw [iI_div (by omega) (by omega) (by decide) (by decide)]
    simp (disch := omega) only [en_ops, en_opc, iI_add, iI_mul, iI_sub, jL_add, jL_mul, iI_le, iI_lt, iI_eq, iI_eq0, iI_lt0, iI_0le, iI_le0, iI_0lt, jL_iI, iI_jL, lc_eq, lc_lt, lc_le, lc_ge, lc_gt, Nat.sub_zero, Nat.zero_le, true_and, and_true, Nat.reduceAdd, Nat.reduceLeDiff]
    exact H
  · rw [if_pos e] at H
    exact H
end
