def b2i (b : Prop) [Decidable b] : Int := if b then 1 else 0
def prC (f : Nat → Nat → Nat → Int) (nz : Nat) (o : Int) (c a : Nat) : Int := if mnP f nz a ≠ -1 ∧ mnP f nz c ≠ -1 ∧ (o = 0 ∨ mnP f nz a ≤ mnP f nz c) then 1 else 0
def prP (f : Nat → Nat → Nat → Int) (nc nz : Nat) (o : Int) : Int := sumTo nc (fun c => sumTo c (prC f nz o c))
abbrev hnP (f : Nat → Nat → Nat → Int) (nc nz c : Nat) : Prop := (c = 0 ∨ wP f nz (c - 1) < wP f nz c) ∧ (c + 1 = nc ∨ wP f nz (c + 1) < wP f nz c)
def hnI (f : Nat → Nat → Nat → Int) (nc nz c : Nat) : Int := if hnP f nc nz c then 1 else 0
def shP (f : Nat → Nat → Nat → Int) (nz c i : Nat) : Int := if wP f nz c = 0 then 0 else 1000 * f c (i / 3) (i % 3) / wP f nz c
def prodTo : Nat → (Nat → Int) → Int
  | 0, _ => 1
  | n + 1, g => prodTo n g * g n
section
variable {G : en_G} {d : Nat} {K : en_K} {a nc nz : Nat} {f : Nat → Nat → Nat → Int} {hi : en_I} {hl : en_L} {hr : en_F} {xc xs : Nat}
theorem t_pairs {o : Int} (ho : o = 0 ∨ o = 1) (ha : isSh a) (hR : shR a hr) (hh : shH a nc nz f hi) (hB : fB nc nz f)
    (H : K (.inl (some (.int (iI (prP f nc nz o))))) hi hl hr) : en_Call G (d + 4) xc xs Y_X6_pairs wN wN [.ref a, .int (iI o)] hi hl hr K := by
  obtain ⟨s0, s1, s2, s3, s4, s5, s6, s7, s8, s9, s10, s11⟩ := ha.sh
  obtain ⟨r1, r2, r3, r4, r5, r6, r7⟩ := id hR
  obtain ⟨h0, h1, b0, b1, h2⟩ := id hh
  have q1 : a + 1 < 134 := by omega
  have q2 : a + 2 < 134 := by omega
  have q3 : a + 3 < 134 := by omega
  have q4 : a + 4 < 134 := by omega
  have q5 : a + 5 < 134 := by omega
  have q6 : a + 6 < 134 := by omega
  have q7 : a + 7 < 134 := by omega
  have hm := fun c => mnP_r (c := c) hB b1
  apply en_X6_pairs
  simp (disch := omega) only [B_X6_pairs_0, en_ops, en_opc, iI_add, iI_mul, iI_sub, jL_add, jL_mul, iI_le, iI_lt, iI_eq, iI_eq0, iI_lt0, iI_0le, iI_le0, iI_0lt, jL_iI, iI_jL, lc_eq, lc_lt, lc_le, lc_ge, lc_gt, Nat.sub_zero, Nat.zero_le, true_and, and_true, Nat.reduceAdd, Nat.reduceLeDiff]
  suffices L : ∀ c : Nat, c ≤ nc ∨ c ≤ 1 → 1 ≤ c → ∀ x4 x5 x6 : Value, en_V G Y_X6_pairs (d + 4) wN wN K 4 [.ref a, .int (iI o), .int (iI (sumTo c (fun c => sumTo c (prC f nz o c)))), .int (iI c), x4, x5, x6] [] hi hl hr xc xs from L 1 (by omega) (by omega) _ _ _
  have E0 : ∀ c : Nat, nc ≤ c → c ≤ 12 → 1 ≤ c → (nc = c ∨ c = 1) → ∀ x4 x5 x6 : Value, en_V G Y_X6_pairs (d + 4) wN wN K 4 [.ref a, .int (iI o), .int (iI (sumTo c (fun c => sumTo c (prC f nz o c)))), .int (iI c), x4, x5, x6] [] hi hl hr xc xs := by
    intro c h1' h12 h2' h3' x4 x5 x6
    apply s_X6_pairs_4
    simp (disch := omega) only [B_X6_pairs_4, s0, s1, h0, en_ops, en_opc, iI_add, iI_mul, iI_sub, jL_add, jL_mul, iI_le, iI_lt, iI_eq, iI_eq0, iI_lt0, iI_0le, iI_le0, iI_0lt, jL_iI, iI_jL, lc_eq, lc_lt, lc_le, lc_ge, lc_gt, Nat.sub_zero, Nat.zero_le, true_and, and_true, Nat.reduceAdd, Nat.reduceLeDiff]
    refine ⟨fun _ => ?_, fun e => by omega⟩
    have : sumTo c (fun c => sumTo c (prC f nz o c)) = prP f nc nz o := by
      unfold prP
      rcases h3' with rfl | rfl
      · rfl
      · rcases (show nc = 0 ∨ nc = 1 by omega) with e | e <;> rw [e] <;> rfl
    rw [this]
    exact H
  intro c hc hc1
  rcases Nat.lt_or_ge c nc with hlt | hge
  · clear hc
    obtain ⟨m, hm'⟩ : ∃ m, nc = c + m := ⟨nc - c, by omega⟩
    induction m generalizing c with
    | zero => omega
    | succ m ihm =>
      have nxt : ∀ x4 x5 x6 : Value, en_V G Y_X6_pairs (d + 4) wN wN K 4 [.ref a, .int (iI o), .int (iI (sumTo (c + 1) (fun c => sumTo c (prC f nz o c)))), .int (iI (c + 1)), x4, x5, x6] [] hi hl hr xc xs := by
        rcases Nat.lt_or_ge (c + 1) nc with q | q
        · exact ihm (c + 1) (by omega) q (by omega)
        · exact E0 (c + 1) (by omega) (by omega) (by omega) (by omega)
      rw [sumTo_s] at nxt
      intro x4 x5 x6
      apply s_X6_pairs_4
      simp (disch := omega) only [B_X6_pairs_4, s0, s1, h0, en_ops, en_opc, iI_add, iI_mul, iI_sub, jL_add, jL_mul, iI_le, iI_lt, iI_eq, iI_eq0, iI_lt0, iI_0le, iI_le0, iI_0lt, jL_iI, iI_jL, lc_eq, lc_lt, lc_le, lc_ge, lc_gt, Nat.sub_zero, Nat.zero_le, true_and, and_true, Nat.reduceAdd, Nat.reduceLeDiff]
      refine ⟨fun e => by omega, fun _ => t_meanOf ha hR hh hB (by omega) ?_⟩
      simp (disch := omega) only [en_ops, en_opc, iI_add, iI_mul, iI_sub, jL_add, jL_mul, iI_le, iI_lt, iI_eq, iI_eq0, iI_lt0, iI_0le, iI_le0, iI_0lt, jL_iI, iI_jL, lc_eq, lc_lt, lc_le, lc_ge, lc_gt, Nat.sub_zero, Nat.zero_le, true_and, and_true, Nat.reduceAdd, Nat.reduceLeDiff]
      suffices L2 : ∀ i : Nat, i ≤ c → ∀ x6 : Value, en_V G Y_X6_pairs (d + 4) wN wN K 22 [.ref a, .int (iI o), .int (iI (sumTo c (fun c => sumTo c (prC f nz o c)) + sumTo i (prC f nz o c))), .int (iI c), .int (iI (mnP f nz c)), .int (iI i), x6] [] hi hl hr xc xs by
        have := L2 0 (by omega) x6
        rw [sumTo_z, Int.add_zero] at this
        exact this
      obtain ⟨mc0, mc1⟩ := hm c
      refine lp c (fun x6 => ?_) (fun i hi' ih x6 => ?_)
      · apply s_X6_pairs_22
        simp (disch := omega) only [B_X6_pairs_22, s0, s1, en_ops, en_opc, iI_add, iI_mul, iI_sub, jL_add, jL_mul, iI_le, iI_lt, iI_eq, iI_eq0, iI_lt0, iI_0le, iI_le0, iI_0lt, jL_iI, iI_jL, lc_eq, lc_lt, lc_le, lc_ge, lc_gt, Nat.sub_zero, Nat.zero_le, true_and, and_true, Nat.reduceAdd, Nat.reduceLeDiff]
        exact ⟨fun _ => nxt _ _ _, fun e => absurd (Int.le_refl _) e⟩
      · rw [sumTo_s] at ih
        obtain ⟨mi0, mi1⟩ := hm i
        apply s_X6_pairs_22
        simp (disch := omega) only [B_X6_pairs_22, s0, s1, en_ops, en_opc, iI_add, iI_mul, iI_sub, jL_add, jL_mul, iI_le, iI_lt, iI_eq, iI_eq0, iI_lt0, iI_0le, iI_le0, iI_0lt, jL_iI, iI_jL, lc_eq, lc_lt, lc_le, lc_ge, lc_gt, Nat.sub_zero, Nat.zero_le, true_and, and_true, Nat.reduceAdd, Nat.reduceLeDiff]
        refine ⟨fun e => by omega, fun _ => ⟨fun e => ?_, fun e => t_meanOf ha hR hh hB (by omega) ?_⟩⟩
        · have z : sumTo c (prC f nz o c) = sumTo i (prC f nz o c) := sumTo_part (by omega) (fun j _ _ => if_neg (fun h => h.2.1 e))
          have := nxt (.int (iI (mnP f nz c))) (.int (iI i)) x6
          rw [z] at this
          exact this
        · simp (disch := omega) only [en_ops, en_opc, iI_add, iI_mul, iI_sub, jL_add, jL_mul, iI_le, iI_lt, iI_eq, iI_eq0, iI_lt0, iI_0le, iI_le0, iI_0lt, jL_iI, iI_jL, lc_eq, lc_lt, lc_le, lc_ge, lc_gt, Nat.sub_zero, Nat.zero_le, true_and, and_true, Nat.reduceAdd, Nat.reduceLeDiff]
          refine ⟨fun e2 => ?_, fun e2 => ⟨fun e3 => ?_, fun e3 => ⟨fun e4 => ?_, fun e4 => ?_⟩⟩⟩
          · have z : prC f nz o c i = 0 := if_neg (fun h => h.1 e2)
            rw [z, Int.add_zero] at ih
            exact ih _
          · have z : prC f nz o c i = 1 := if_pos ⟨e2, e, Or.inl e3⟩
            rw [z, ← Int.add_assoc] at ih
            exact ih _
          · have z : prC f nz o c i = 0 := if_neg (fun h => by omega)
            rw [z, Int.add_zero] at ih
            exact ih _
          · have z : prC f nz o c i = 1 := if_pos ⟨e2, e, Or.inr (by omega)⟩
            rw [z, ← Int.add_assoc] at ih
            exact ih _
  · exact E0 c hge (by omega) hc1 (by omega)
theorem t_isHorn {c : Nat} (ha : isSh a) (hR : shR a hr) (hh : shH a nc nz f hi) (hB : fB nc nz f) (hc : c < nc)
    (H : K (.inl (some (.int (iI (hnI f nc nz c))))) hi hl hr) : en_Call G (d + 2) xc xs Y_X6_isHorn wN wN [.ref a, .int (iI c)] hi hl hr K := by
  obtain ⟨s0, s1, s2, s3, s4, s5, s6, s7, s8, s9, s10, s11⟩ := ha.sh
  obtain ⟨r1, r2, r3, r4, r5, r6, r7⟩ := id hR
  obtain ⟨h0, h1, b0, b1, h2⟩ := id hh
  have q1 : a + 1 < 134 := by omega
  have q2 : a + 2 < 134 := by omega
  have q3 : a + 3 < 134 := by omega
  have q4 : a + 4 < 134 := by omega
  have q5 : a + 5 < 134 := by omega
  have q6 : a + 6 < 134 := by omega
  have q7 : a + 7 < 134 := by omega
  have ww : ∀ c : Nat, c < 12 → 0 ≤ wP f nz c ∧ wP f nz c ≤ 10000000 := fun c hc => ⟨wP_nn hB c, wP_le hB b1 hc⟩
  obtain ⟨wc0, wc1⟩ := ww c (by omega)
  have yes : hnP f nc nz c → K (.inl (some (.int (iI 1)))) hi hl hr := fun q => by
    unfold hnI at H; rw [if_pos q] at H; exact H
  have no : ¬ hnP f nc nz c → K (.inl (some (.int (iI 0)))) hi hl hr := fun q => by
    unfold hnI at H; rw [if_neg q] at H; exact H
  apply en_X6_isHorn
  simp (disch := omega) only [B_X6_isHorn_0, s0, s1, en_ops, en_opc, iI_add, iI_mul, iI_sub, jL_add, jL_mul, iI_le, iI_lt, iI_eq, iI_eq0, iI_lt0, iI_0le, iI_le0, iI_0lt, jL_iI, iI_jL, lc_eq, lc_lt, lc_le, lc_ge, lc_gt, Nat.sub_zero, Nat.zero_le, true_and, and_true, Nat.reduceAdd, Nat.reduceLeDiff]
  refine t_allIn ha hR hh hB (by omega) ?_
  simp (disch := omega) only [s0, s1, en_ops, en_opc, iI_add, iI_mul, iI_sub, jL_add, jL_mul, iI_le, iI_lt, iI_eq, iI_eq0, iI_lt0, iI_0le, iI_le0, iI_0lt, jL_iI, iI_jL, lc_eq, lc_lt, lc_le, lc_ge, lc_gt, Nat.sub_zero, Nat.zero_le, true_and, and_true, Nat.reduceAdd, Nat.reduceLeDiff]
  have at21 : (c = 0 ∨ wP f nz (c - 1) < wP f nz c) → en_V G Y_X6_isHorn (d + 2) wN wN K 21 [.ref a, .int (iI c), .int (iI (wP f nz c))] [] hi hl hr xc xs := by
    intro q
    apply s_X6_isHorn_21
    simp (disch := omega) only [B_X6_isHorn_21, s0, s1, h0, en_ops, en_opc, iI_add, iI_mul, iI_sub, jL_add, jL_mul, iI_le, iI_lt, iI_eq, iI_eq0, iI_lt0, iI_0le, iI_le0, iI_0lt, jL_iI, iI_jL, lc_eq, lc_lt, lc_le, lc_ge, lc_gt, Nat.sub_zero, Nat.zero_le, true_and, and_true, Nat.reduceAdd, Nat.reduceLeDiff]
    refine ⟨fun e => ⟨rfl, yes ⟨q, Or.inl (by omega)⟩⟩, fun e => ?_⟩
    obtain ⟨wd0, wd1⟩ := ww (c + 1) (by omega)
    refine t_allIn (c := c + 1) ha hR hh hB (by omega) ?_
    simp (disch := omega) only [en_ops, en_opc, iI_add, iI_mul, iI_sub, jL_add, jL_mul, iI_le, iI_lt, iI_eq, iI_eq0, iI_lt0, iI_0le, iI_le0, iI_0lt, jL_iI, iI_jL, lc_eq, lc_lt, lc_le, lc_ge, lc_gt, Nat.sub_zero, Nat.zero_le, true_and, and_true, Nat.reduceAdd, Nat.reduceLeDiff]
    refine ⟨fun e2 => ⟨rfl, no (fun h => ?_)⟩, fun e2 => ⟨rfl, yes ⟨q, Or.inr (by omega)⟩⟩⟩
    rcases h.2 with g | g <;> omega
  refine ⟨fun e => at21 (Or.inl (by omega)), fun e => ?_⟩
  obtain ⟨wd0, wd1⟩ := ww (c - 1) (by omega)
  rw [show (c : Int) - 1 = ((c - 1 : Nat) : Int) by omega]
  refine t_allIn (c := c - 1) ha hR hh hB (by omega) ?_
  simp (disch := omega) only [en_ops, en_opc, iI_add, iI_mul, iI_sub, jL_add, jL_mul, iI_le, iI_lt, iI_eq, iI_eq0, iI_lt0, iI_0le, iI_le0, iI_0lt, jL_iI, iI_jL, lc_eq, lc_lt, lc_le, lc_ge, lc_gt, Nat.sub_zero, Nat.zero_le, true_and, and_true, Nat.reduceAdd, Nat.reduceLeDiff]
  refine ⟨fun e2 => ⟨rfl, no (fun h => ?_)⟩, fun e2 => at21 (Or.inr (by omega))⟩
  rcases h.1 with g | g <;> omega
theorem t_horns (ha : isSh a) (hR : shR a hr) (hh : shH a nc nz f hi) (hB : fB nc nz f)
    (H : K (.inl (some (.int (iI (sumTo nc (hnI f nc nz)))))) hi hl hr) : en_Call G (d + 3) xc xs Y_X6_horns wN wN [.ref a] hi hl hr K := by
  obtain ⟨s0, s1, s2, s3, s4, s5, s6, s7, s8, s9, s10, s11⟩ := ha.sh
  obtain ⟨r1, r2, r3, r4, r5, r6, r7⟩ := id hR
  obtain ⟨h0, h1, b0, b1, h2⟩ := id hh
  have q1 : a + 1 < 134 := by omega
  have q2 : a + 2 < 134 := by omega
  have q3 : a + 3 < 134 := by omega
  have q4 : a + 4 < 134 := by omega
  have q5 : a + 5 < 134 := by omega
  have q6 : a + 6 < 134 := by omega
  have q7 : a + 7 < 134 := by omega
  apply en_X6_horns
  simp (disch := omega) only [B_X6_horns_0, en_ops, en_opc, iI_add, iI_mul, iI_sub, jL_add, jL_mul, iI_le, iI_lt, iI_eq, iI_eq0, iI_lt0, iI_0le, iI_le0, iI_0lt, jL_iI, iI_jL, lc_eq, lc_lt, lc_le, lc_ge, lc_gt, Nat.sub_zero, Nat.zero_le, true_and, and_true, Nat.reduceAdd, Nat.reduceLeDiff]
  suffices L : ∀ c : Nat, c ≤ nc → en_V G Y_X6_horns (d + 3) wN wN K 4 [.ref a, .int (iI (sumTo c (hnI f nc nz))), .int (iI c)] [] hi hl hr xc xs from L 0 (by omega)
  refine lp nc ?_ (fun c hc ih => ?_)
  · apply s_X6_horns_4
    simp (disch := omega) only [B_X6_horns_4, s0, s1, h0, en_ops, en_opc, iI_add, iI_mul, iI_sub, jL_add, jL_mul, iI_le, iI_lt, iI_eq, iI_eq0, iI_lt0, iI_0le, iI_le0, iI_0lt, jL_iI, iI_jL, lc_eq, lc_lt, lc_le, lc_ge, lc_gt, Nat.sub_zero, Nat.zero_le, true_and, and_true, Nat.reduceAdd, Nat.reduceLeDiff]
    exact ⟨fun _ => H, fun e => absurd (Int.le_refl _) e⟩
  · rw [sumTo_s] at ih
    apply s_X6_horns_4
    simp (disch := omega) only [B_X6_horns_4, s0, s1, h0, en_ops, en_opc, iI_add, iI_mul, iI_sub, jL_add, jL_mul, iI_le, iI_lt, iI_eq, iI_eq0, iI_lt0, iI_0le, iI_le0, iI_0lt, jL_iI, iI_jL, lc_eq, lc_lt, lc_le, lc_ge, lc_gt, Nat.sub_zero, Nat.zero_le, true_and, and_true, Nat.reduceAdd, Nat.reduceLeDiff]
    refine ⟨fun e => by omega, fun _ => t_isHorn ha hR hh hB hc ?_⟩
    have r : 0 ≤ hnI f nc nz c ∧ hnI f nc nz c ≤ 1 := by unfold hnI; split <;> omega
    simp (disch := omega) only [en_ops, en_opc, iI_add, iI_mul, iI_sub, jL_add, jL_mul, iI_le, iI_lt, iI_eq, iI_eq0, iI_lt0, iI_0le, iI_le0, iI_0lt, jL_iI, iI_jL, lc_eq, lc_lt, lc_le, lc_ge, lc_gt, Nat.sub_zero, Nat.zero_le, true_and, and_true, Nat.reduceAdd, Nat.reduceLeDiff]
    refine ⟨fun e => ?_, fun e => ?_⟩
    · rw [e, Int.add_zero] at ih; exact ih
    · rw [show hnI f nc nz c = 1 by omega] at ih; exact ih
end
