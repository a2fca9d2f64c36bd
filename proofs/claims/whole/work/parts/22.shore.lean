section
variable {G : en_G} {d : Nat} {K : en_K} {a nc nz : Nat} {f : Nat → Nat → Nat → Int} {hi : en_I} {hl : en_L} {hr : en_F} {xc xs : Nat}
def eqS (f : Nat → Nat → Nat → Int) (nz c o : Nat) : Int := if sdP f nz o = sdP f nz c then 1 else 0
def knI (f : Nat → Nat → Nat → Int) (nc nz c : Nat) : Int := if sdP f nz c ≠ -1 ∧ sumTo nc (eqS f nz c) = 1 then 1 else 0
theorem sdP_r {c : Nat} (hB : fB nc nz f) (b1 : nz ≤ 6) : -1 ≤ sdP f nz c ∧ sdP f nz c ≤ 60 := by
  obtain ⟨m0, m1⟩ := mnP_r (c := c) hB b1
  unfold sdP
  split <;> omega
theorem tS_known (ha : isSh a) (hR : shR a hr) (hh : shH a nc nz f hi) (hB : fB nc nz f)
    (H : K (.inl (some (.int (iI (sumTo nc (knI f nc nz)))))) hi hl hr) : en_Call G (d + 5) xc xs Y_X6_known wN wN [.ref a] hi hl hr K := by
  obtain ⟨s0, s1, s2, s3, s4, s5, s6, s7, s8, s9, s10, s11⟩ := ha.sh
  obtain ⟨r1, r2, r3, r4, r5, r6, r7⟩ := id hR
  obtain ⟨h0, h1, b0, b1, h2⟩ := id hh
  have q1 : a + 1 < 134 := by omega
  have q2 : a + 2 < 134 := by omega
  have q3 : a + 3 < 134 := by omega
  have q4 : a + 4 < 134 := by omega
  have q5 : a + 5 < 134 := by omega
  have q6 : a + 6 < 134 := by omega
  have q7 : a + 7 < 134 := by omega
  have hs := fun c => sdP_r (c := c) hB b1
  apply en_X6_known
  simp (disch := omega) only [B_X6_known_0, en_ops, en_opc, iI_add, iI_mul, iI_sub, jL_add, jL_mul, iI_le, iI_lt, iI_eq, iI_eq0, iI_lt0, iI_0le, iI_le0, iI_0lt, jL_iI, iI_jL, lc_eq, lc_lt, lc_le, lc_ge, lc_gt, Nat.sub_zero, Nat.zero_le, true_and, and_true, Nat.reduceAdd, Nat.reduceLeDiff]
  suffices L : ∀ c : Nat, c ≤ nc → ∀ x3 x4 x5 : Value, en_V G Y_X6_known (d + 5) wN wN K 4 [.ref a, .int (iI (sumTo c (knI f nc nz))), .int (iI c), x3, x4, x5] [] hi hl hr xc xs from L 0 (by omega) _ _ _
  refine lp nc (fun x3 x4 x5 => ?_) (fun c hc ih x3 x4 x5 => ?_)
  · apply s_X6_known_4
    simp (disch := omega) only [B_X6_known_4, s0, s1, h0, en_ops, en_opc, iI_add, iI_mul, iI_sub, jL_add, jL_mul, iI_le, iI_lt, iI_eq, iI_eq0, iI_lt0, iI_0le, iI_le0, iI_0lt, jL_iI, iI_jL, lc_eq, lc_lt, lc_le, lc_ge, lc_gt, Nat.sub_zero, Nat.zero_le, true_and, and_true, Nat.reduceAdd, Nat.reduceLeDiff]
    exact ⟨fun _ => H, fun e => absurd (Int.le_refl _) e⟩
  · rw [sumTo_s] at ih
    apply s_X6_known_4
    simp (disch := omega) only [B_X6_known_4, s0, s1, h0, en_ops, en_opc, iI_add, iI_mul, iI_sub, jL_add, jL_mul, iI_le, iI_lt, iI_eq, iI_eq0, iI_lt0, iI_0le, iI_le0, iI_0lt, jL_iI, iI_jL, lc_eq, lc_lt, lc_le, lc_ge, lc_gt, Nat.sub_zero, Nat.zero_le, true_and, and_true, Nat.reduceAdd, Nat.reduceLeDiff]
    refine ⟨fun e => by omega, fun _ => t_soundOf ha hR hh hB (by omega) ?_⟩
    simp (disch := omega) only [en_ops, en_opc, iI_add, iI_mul, iI_sub, jL_add, jL_mul, iI_le, iI_lt, iI_eq, iI_eq0, iI_lt0, iI_0le, iI_le0, iI_0lt, jL_iI, iI_jL, lc_eq, lc_lt, lc_le, lc_ge, lc_gt, Nat.sub_zero, Nat.zero_le, true_and, and_true, Nat.reduceAdd, Nat.reduceLeDiff]
    obtain ⟨c0, c1⟩ := hs c
    suffices L2 : ∀ i : Nat, i ≤ nc → en_V G Y_X6_known (d + 5) wN wN K 24 [.ref a, .int (iI (sumTo c (knI f nc nz))), .int (iI c), .int (iI (sumTo i (eqS f nz c))), .int (iI (sdP f nz c)), .int (iI i)] [] hi hl hr xc xs from L2 0 (by omega)
    refine lp nc ?_ (fun i hi' ih2 => ?_)
    · have r0 : 0 ≤ sumTo nc (eqS f nz c) := sumTo_nn (fun i _ => by unfold eqS; split <;> omega)
      have r1' : sumTo nc (eqS f nz c) ≤ sumTo nc (fun _ => 1) := sumTo_le (fun i _ => by unfold eqS; split <;> omega)
      have r2' : ∀ n : Nat, sumTo n (fun _ => 1) = n := fun n => by
        induction n with
        | zero => rfl
        | succ n ih => rw [sumTo_s, ih]; omega
      have r3' := r2' nc
      apply s_X6_known_24
      simp (disch := omega) only [B_X6_known_24, s0, s1, h0, en_ops, en_opc, iI_add, iI_mul, iI_sub, jL_add, jL_mul, iI_le, iI_lt, iI_eq, iI_eq0, iI_lt0, iI_0le, iI_le0, iI_0lt, jL_iI, iI_jL, lc_eq, lc_lt, lc_le, lc_ge, lc_gt, Nat.sub_zero, Nat.zero_le, true_and, and_true, Nat.reduceAdd, Nat.reduceLeDiff]
      refine ⟨fun _ => ⟨fun e => ?_, fun e => ⟨fun e2 => ?_, fun e2 => ?_⟩⟩, fun e => absurd (Int.le_refl _) e⟩
      · rw [show knI f nc nz c = 0 from if_neg (fun q => q.1 e), Int.add_zero] at ih
        exact ih _ _ _
      · rw [show knI f nc nz c = 0 from if_neg (fun q => e2 q.2), Int.add_zero] at ih
        exact ih _ _ _
      · rw [show knI f nc nz c = 1 from if_pos ⟨e, e2⟩] at ih
        exact ih _ _ _
    · rw [sumTo_s] at ih2
      obtain ⟨d0, d1⟩ := hs i
      apply s_X6_known_24
      simp (disch := omega) only [B_X6_known_24, s0, s1, h0, en_ops, en_opc, iI_add, iI_mul, iI_sub, jL_add, jL_mul, iI_le, iI_lt, iI_eq, iI_eq0, iI_lt0, iI_0le, iI_le0, iI_0lt, jL_iI, iI_jL, lc_eq, lc_lt, lc_le, lc_ge, lc_gt, Nat.sub_zero, Nat.zero_le, true_and, and_true, Nat.reduceAdd, Nat.reduceLeDiff]
      refine ⟨fun e => by omega, fun _ => t_soundOf ha hR hh hB (by omega) ?_⟩
      simp (disch := omega) only [en_ops, en_opc, iI_add, iI_mul, iI_sub, jL_add, jL_mul, iI_le, iI_lt, iI_eq, iI_eq0, iI_lt0, iI_0le, iI_le0, iI_0lt, jL_iI, iI_jL, lc_eq, lc_lt, lc_le, lc_ge, lc_gt, Nat.sub_zero, Nat.zero_le, true_and, and_true, Nat.reduceAdd, Nat.reduceLeDiff]
      refine ⟨fun e => ?_, fun e => ?_⟩
      · rw [show eqS f nz c i = 0 from if_neg e, Int.add_zero] at ih2
        exact ih2
      · rw [show eqS f nz c i = 1 from if_pos e] at ih2
        exact ih2
theorem shP_r {c i : Nat} (hB : fB nc nz f) (b1 : nz ≤ 6) (hi : i < 18) : 0 ≤ shP f nz c i ∧ shP f nz c i ≤ 1000 := by
  unfold shP
  split
  · omega
  next e =>
    have w0 := wP_nn (m := nz) hB c
    have f0 := hB.1 c (i / 3) (i % 3)
    have f1 : f c (i / 3) (i % 3) ≤ wP f nz c := by
      refine Int.le_trans (f_le hB c (i / 3) (Nat.mod_lt _ (by omega))) ?_
      by_cases q : i / 3 < nz
      · exact sumTo_at (f := aP f c) q (fun z _ => aP_nn hB c z)
      · rw [aP_z hB c _ (by omega)]; exact w0
    exact ⟨Int.ediv_nonneg (by omega) w0, Int.ediv_le_of_le_mul (by omega) (by omega)⟩
theorem t_share {c i : Nat} (ha : isSh a) (hR : shR a hr) (hh : shH a nc nz f hi) (hB : fB nc nz f) (hc : c < 12) (hi18 : i < 18)
    (H : K (.inl (some (.int (iI (shP f nz c i))))) hi hl hr) : en_Call G (d + 2) xc xs Y_X6_share wN wN [.ref a, .int (iI c), .int (iI i)] hi hl hr K := by
  obtain ⟨s0, s1, s2, s3, s4, s5, s6, s7, s8, s9, s10, s11⟩ := ha.sh
  obtain ⟨r1, r2, r3, r4, r5, r6, r7⟩ := id hR
  obtain ⟨h0, h1, b0, b1, h2⟩ := id hh
  have q1 : a + 1 < 134 := by omega
  have q2 : a + 2 < 134 := by omega
  have q3 : a + 3 < 134 := by omega
  have q4 : a + 4 < 134 := by omega
  have q5 : a + 5 < 134 := by omega
  have q6 : a + 6 < 134 := by omega
  have q7 : a + 7 < 134 := by omega
  have w0 := wP_nn (m := nz) hB c
  have w1 := wP_le hB b1 hc
  apply en_X6_share
  simp (disch := omega) only [B_X6_share_0, s0, s1, en_ops, en_opc, iI_add, iI_mul, iI_sub, jL_add, jL_mul, iI_le, iI_lt, iI_eq, iI_eq0, iI_lt0, iI_0le, iI_le0, iI_0lt, jL_iI, iI_jL, lc_eq, lc_lt, lc_le, lc_ge, lc_gt, Nat.sub_zero, Nat.zero_le, true_and, and_true, Nat.reduceAdd, Nat.reduceLeDiff]
  refine t_allIn ha hR hh hB hc ?_
  simp (disch := omega) only [s0, s1, en_ops, en_opc, iI_add, iI_mul, iI_sub, jL_add, jL_mul, iI_le, iI_lt, iI_eq, iI_eq0, iI_lt0, iI_0le, iI_le0, iI_0lt, jL_iI, iI_jL, lc_eq, lc_lt, lc_le, lc_ge, lc_gt, Nat.sub_zero, Nat.zero_le, true_and, and_true, Nat.reduceAdd, Nat.reduceLeDiff]
  have f0 := hB.1 c (i / 3) (i % 3)
  have f1 : f c (i / 3) (i % 3) ≤ wP f nz c := by
    refine Int.le_trans (f_le hB c (i / 3) (Nat.mod_lt _ (by omega))) ?_
    exact aP_le hB b1 hc _
  unfold shP at H
  refine ⟨fun e => ?_, fun e => ⟨fun e2 => by omega, fun e2 => ⟨fun e3 => ?_, fun e3 => by omega⟩⟩⟩
  · rw [if_pos e] at H; exact H
  · rw [if_neg e] at H
    simp (disch := omega) only [r1, s2, q1, en_ops, en_opc, iI_add, iI_mul, iI_sub, jL_add, jL_mul, iI_le, iI_lt, iI_eq, iI_eq0, iI_lt0, iI_0le, iI_le0, iI_0lt, jL_iI, iI_jL, lc_eq, lc_lt, lc_le, lc_ge, lc_gt, Nat.sub_zero, Nat.zero_le, true_and, and_true, Nat.reduceAdd, Nat.reduceLeDiff]
    refine ⟨(c * 6 + i / 3) * 3 + i % 3, iI_eq_of (by omega), by omega, ?_⟩
    rw [h2 _ _ _ hc (by omega) (by omega)]
    simp (disch := omega) only [en_ops, en_opc, iI_add, iI_mul, iI_sub, jL_add, jL_mul, iI_le, iI_lt, iI_eq, iI_eq0, iI_lt0, iI_0le, iI_le0, iI_0lt, jL_iI, iI_jL, lc_eq, lc_lt, lc_le, lc_ge, lc_gt, Nat.sub_zero, Nat.zero_le, true_and, and_true, Nat.reduceAdd, Nat.reduceLeDiff]
    refine ⟨?_, ?_⟩
    · rw [jL_eq0 (by omega) (by omega)]; exact e
    · rw [jL_div (by omega) (by omega) (by omega) (by omega)]
      simp (disch := omega) only [en_ops, en_opc, iI_add, iI_mul, iI_sub, jL_add, jL_mul, iI_le, iI_lt, iI_eq, iI_eq0, iI_lt0, iI_0le, iI_le0, iI_0lt, jL_iI, iI_jL, lc_eq, lc_lt, lc_le, lc_ge, lc_gt, Nat.sub_zero, Nat.zero_le, true_and, and_true, Nat.reduceAdd, Nat.reduceLeDiff]
      exact H
/-- the hand of a shore -/
def shT (a nh : Nat) (g : Nat → Nat) (hi : en_I) : Prop := hi a 8 = iI nh ∧ nh ≤ 4 ∧ ∀ i, i < nh → hi (a + 6) i = iI (g i) ∧ g i < 18
def wdP (f : Nat → Nat → Nat → Int) (nz nh : Nat) (g : Nat → Nat) (c : Nat) : Int := prodTo nh (fun i => shP f nz c (g i))
theorem t_wordOf {c nh : Nat} {g : Nat → Nat} (ha : isSh a) (hR : shR a hr) (hh : shH a nc nz f hi) (hB : fB nc nz f) (hT : shT a nh g hi) (hc : c < 12)
    (H : K (.inl (some (.long (jL (wdP f nz nh g c))))) hi hl hr) : en_Call G (d + 3) xc xs Y_X6_wordOf wN wN [.ref a, .int (iI c)] hi hl hr K := by
  obtain ⟨s0, s1, s2, s3, s4, s5, s6, s7, s8, s9, s10, s11⟩ := ha.sh
  obtain ⟨r1, r2, r3, r4, r5, r6, r7⟩ := id hR
  obtain ⟨h0, h1, b0, b1, h2⟩ := id hh
  have q1 : a + 1 < 134 := by omega
  have q2 : a + 2 < 134 := by omega
  have q3 : a + 3 < 134 := by omega
  have q4 : a + 4 < 134 := by omega
  have q5 : a + 5 < 134 := by omega
  have q6 : a + 6 < 134 := by omega
  have q7 : a + 7 < 134 := by omega
  obtain ⟨t0, t1, t2⟩ := hT
  apply en_X6_wordOf
  simp (disch := omega) only [B_X6_wordOf_0, en_ops, en_opc, iI_add, iI_mul, iI_sub, jL_add, jL_mul, iI_le, iI_lt, iI_eq, iI_eq0, iI_lt0, iI_0le, iI_le0, iI_0lt, jL_iI, iI_jL, lc_eq, lc_lt, lc_le, lc_ge, lc_gt, Nat.sub_zero, Nat.zero_le, true_and, and_true, Nat.reduceAdd, Nat.reduceLeDiff]
  suffices L : ∀ i : Nat, i ≤ nh → en_V G Y_X6_wordOf (d + 3) wN wN K 5 [.ref a, .int (iI c), .long (jL (prodTo i (fun i => shP f nz c (g i)))), jk, .int (iI i)] [] hi hl hr xc xs from L 0 (by omega)
  refine lp nh ?_ (fun i hi' ih => ?_)
  · apply s_X6_wordOf_5
    simp (disch := omega) only [B_X6_wordOf_5, s0, s1, t0, en_ops, en_opc, iI_add, iI_mul, iI_sub, jL_add, jL_mul, iI_le, iI_lt, iI_eq, iI_eq0, iI_lt0, iI_0le, iI_le0, iI_0lt, jL_iI, iI_jL, lc_eq, lc_lt, lc_le, lc_ge, lc_gt, Nat.sub_zero, Nat.zero_le, true_and, and_true, Nat.reduceAdd, Nat.reduceLeDiff]
    exact ⟨fun _ => H, fun e => absurd (Int.le_refl _) e⟩
  · obtain ⟨t3, t4⟩ := t2 i hi'
    apply s_X6_wordOf_5
    simp (disch := omega) only [B_X6_wordOf_5, s0, s1, t0, r6, s7, q6, en_ops, en_opc, iI_add, iI_mul, iI_sub, jL_add, jL_mul, iI_le, iI_lt, iI_eq, iI_eq0, iI_lt0, iI_0le, iI_le0, iI_0lt, jL_iI, iI_jL, lc_eq, lc_lt, lc_le, lc_ge, lc_gt, Nat.sub_zero, Nat.zero_le, true_and, and_true, Nat.reduceAdd, Nat.reduceLeDiff]
    refine ⟨fun e => by omega, fun _ => ⟨fun e => by omega, fun _ => ⟨i, rfl, by omega, ?_⟩⟩⟩
    rw [t3]
    refine t_share ha hR hh hB hc t4 ?_
    obtain ⟨p0, p1⟩ := shP_r (c := c) hB b1 t4
    simp (disch := omega) only [en_ops, en_opc, iI_add, iI_mul, iI_sub, jL_add, jL_mul, iI_le, iI_lt, iI_eq, iI_eq0, iI_lt0, iI_0le, iI_le0, iI_0lt, jL_iI, iI_jL, lc_eq, lc_lt, lc_le, lc_ge, lc_gt, Nat.sub_zero, Nat.zero_le, true_and, and_true, Nat.reduceAdd, Nat.reduceLeDiff]
    exact ih
/-- the samples of a shore -/
def shM (a : Nat) (m : Nat → Nat → Int) (hi : en_I) : Prop := ∀ c z, c < 12 → z < 6 → hi (a + 5) (c * 6 + z) = iI (m c z) ∧ -1 ≤ m c z ∧ m c z ≤ 999999
def smI (m : Nat → Nat → Int) (c z : Nat) : Int := if m c z = -1 then 0 else 1
theorem t_sampled {m : Nat → Nat → Int} (ha : isSh a) (hR : shR a hr) (hh : shH a nc nz f hi) (hM : shM a m hi)
    (H : K (.inl (some (.int (iI (sumTo nc (fun c => sumTo nz (smI m c))))))) hi hl hr) : en_Call G (d + 1) xc xs Y_X6_sampled wN wN [.ref a] hi hl hr K := by
  obtain ⟨s0, s1, s2, s3, s4, s5, s6, s7, s8, s9, s10, s11⟩ := ha.sh
  obtain ⟨r1, r2, r3, r4, r5, r6, r7⟩ := id hR
  obtain ⟨h0, h1, b0, b1, h2⟩ := id hh
  have q1 : a + 1 < 134 := by omega
  have q2 : a + 2 < 134 := by omega
  have q3 : a + 3 < 134 := by omega
  have q4 : a + 4 < 134 := by omega
  have q5 : a + 5 < 134 := by omega
  have q6 : a + 6 < 134 := by omega
  have q7 : a + 7 < 134 := by omega
  apply en_X6_sampled
  simp (disch := omega) only [B_X6_sampled_0, en_ops, en_opc, iI_add, iI_mul, iI_sub, jL_add, jL_mul, iI_le, iI_lt, iI_eq, iI_eq0, iI_lt0, iI_0le, iI_le0, iI_0lt, jL_iI, iI_jL, lc_eq, lc_lt, lc_le, lc_ge, lc_gt, Nat.sub_zero, Nat.zero_le, true_and, and_true, Nat.reduceAdd, Nat.reduceLeDiff]
  suffices L : ∀ c : Nat, c ≤ nc → ∀ x3 : Value, en_V G Y_X6_sampled (d + 1) wN wN K 4 [.ref a, .int (iI (sumTo c (fun c => sumTo nz (smI m c)))), .int (iI c), x3] [] hi hl hr xc xs from L 0 (by omega) _
  refine lp nc (fun x3 => ?_) (fun c hc ih x3 => ?_)
  · apply s_X6_sampled_4
    simp (disch := omega) only [B_X6_sampled_4, s0, s1, h0, en_ops, en_opc, iI_add, iI_mul, iI_sub, jL_add, jL_mul, iI_le, iI_lt, iI_eq, iI_eq0, iI_lt0, iI_0le, iI_le0, iI_0lt, jL_iI, iI_jL, lc_eq, lc_lt, lc_le, lc_ge, lc_gt, Nat.sub_zero, Nat.zero_le, true_and, and_true, Nat.reduceAdd, Nat.reduceLeDiff]
    exact ⟨fun _ => H, fun e => absurd (Int.le_refl _) e⟩
  · rw [sumTo_s] at ih
    apply s_X6_sampled_4
    simp (disch := omega) only [B_X6_sampled_4, s0, s1, h0, en_ops, en_opc, iI_add, iI_mul, iI_sub, jL_add, jL_mul, iI_le, iI_lt, iI_eq, iI_eq0, iI_lt0, iI_0le, iI_le0, iI_0lt, jL_iI, iI_jL, lc_eq, lc_lt, lc_le, lc_ge, lc_gt, Nat.sub_zero, Nat.zero_le, true_and, and_true, Nat.reduceAdd, Nat.reduceLeDiff]
    refine ⟨fun e => by omega, fun _ => ?_⟩
    suffices L2 : ∀ z : Nat, z ≤ nz → en_V G Y_X6_sampled (d + 1) wN wN K 14 [.ref a, .int (iI (sumTo c (fun c => sumTo nz (smI m c)) + sumTo z (smI m c))), .int (iI c), .int (iI z)] [] hi hl hr xc xs by
      have := L2 0 (by omega)
      rw [sumTo_z, Int.add_zero] at this
      exact this
    refine lp nz ?_ (fun z hz ih2 => ?_)
    · apply s_X6_sampled_14
      simp (disch := omega) only [B_X6_sampled_14, s0, s1, h1, en_ops, en_opc, iI_add, iI_mul, iI_sub, jL_add, jL_mul, iI_le, iI_lt, iI_eq, iI_eq0, iI_lt0, iI_0le, iI_le0, iI_0lt, jL_iI, iI_jL, lc_eq, lc_lt, lc_le, lc_ge, lc_gt, Nat.sub_zero, Nat.zero_le, true_and, and_true, Nat.reduceAdd, Nat.reduceLeDiff]
      exact ⟨fun _ => ih _, fun e => absurd (Int.le_refl _) e⟩
    · rw [sumTo_s] at ih2
      obtain ⟨m0, m1, m2⟩ := hM c z (by omega) (by omega)
      apply s_X6_sampled_14
      simp (disch := omega) only [B_X6_sampled_14, s0, s1, h1, r5, s6, q5, en_ops, en_opc, iI_add, iI_mul, iI_sub, jL_add, jL_mul, iI_le, iI_lt, iI_eq, iI_eq0, iI_lt0, iI_0le, iI_le0, iI_0lt, jL_iI, iI_jL, lc_eq, lc_lt, lc_le, lc_ge, lc_gt, Nat.sub_zero, Nat.zero_le, true_and, and_true, Nat.reduceAdd, Nat.reduceLeDiff]
      refine ⟨fun e => by omega, fun _ => ⟨c * 6 + z, iI_eq_of (by omega), by omega, ?_⟩⟩
      simp (disch := omega) only [m0, en_ops, en_opc, iI_add, iI_mul, iI_sub, jL_add, jL_mul, iI_le, iI_lt, iI_eq, iI_eq0, iI_lt0, iI_0le, iI_le0, iI_0lt, jL_iI, iI_jL, lc_eq, lc_lt, lc_le, lc_ge, lc_gt, Nat.sub_zero, Nat.zero_le, true_and, and_true, Nat.reduceAdd, Nat.reduceLeDiff]
      refine ⟨fun e => ?_, fun e => ?_⟩
      · rw [show smI m c z = 0 from if_pos e, Int.add_zero] at ih2
        exact ih2
      · rw [show smI m c z = 1 from if_neg e, ← Int.add_assoc] at ih2
        exact ih2
end
