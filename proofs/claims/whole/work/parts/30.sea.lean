section
variable {G : en_G} {d : Nat} {K : en_K} {a nc nz : Nat} {f g : Nat → Nat → Nat → Int} {hi : en_I} {hl : en_L} {hr : en_F} {xc xs : Nat}
variable {V : Nat → (Nat → Int) → Int} {he bt fr : Int} {cr wl sm : Nat → Int}
theorem wP_fN {N c : Nat} (h : N ≤ c * 18) (hnz : nz ≤ 6) : wP (fN V f nz he bt fr cr N) nz c = wP f nz c := by
  refine sumTo_congr (fun z hz => sumTo_congr (fun k hk => ?_))
  unfold fN
  rw [if_neg (by omega)]
theorem t_cc33 {L c : Nat} {hi0 : en_I} (hS : seR hr) (hL : isLw L) (hLR : lwR L hr) (hV : lwV G L V hi0) (hVr : ∀ w nm, -2147483648 ≤ V w nm ∧ V w nm < 2147483648) (ha : isSh a) (hR : shR a hr) (hB : fB nc nz f)
    (hwl : 0 ≤ cgP wl fr c ∧ cgP wl fr c ≤ 16) (hc : c < nc) (hnc : nc ≤ 12) (hnz : nz ≤ 6)
    (H : ∀ hi', mvI V f a nc nz wl he bt fr cr sm c hi0 ((c + 1) * 18) hi' → K (.inl (some (.int (iI (sumTo ((c + 1) * 18) (mvN V f nz he bt fr cr) - sumTo (c * 18) (mvN V f nz he bt fr cr)))))) hi' hl hr) :
    ∀ z : Nat, z ≤ nz → ∀ hi' x8 x9 x10, mvI V f a nc nz wl he bt fr cr sm c hi0 ((c * 6 + z) * 3) hi' → en_V G Y_X4_carryCell (d + 4) wN wN K 33 [.ref 34, .ref a, .ref L, .int (iI c), .int (iI (wP f nz c)), .int (iI (sumTo ((c * 6 + z) * 3) (mvN V f nz he bt fr cr) - sumTo (c * 18) (mvN V f nz he bt fr cr))), .int (iI (sumTo z (aP f c))), .int (iI z), x8, x9, x10] [] hi' hl hr xc xs := by
  obtain ⟨s0, s1, s2, s3, s4, s5, s6, s7, s8, s9, s10, s11⟩ := ha.sh
  obtain ⟨r1, r2, r3, r4, r5, r6, r7⟩ := id hR
  have q1 : a + 1 < 134 := by omega
  have w0 := wP_nn (m := nz) hB c
  have w1 := wP_le hB hnz (c := c) (by omega)
  have out : ∀ z : Nat, z ≤ 6 → (∀ n, (c * 6 + z) * 3 ≤ n → n < (c + 1) * 18 → f (cN n) (zN n) (kN n) = 0) → ∀ hi', mvI V f a nc nz wl he bt fr cr sm c hi0 ((c * 6 + z) * 3) hi' → K (.inl (some (.int (iI (sumTo ((c * 6 + z) * 3) (mvN V f nz he bt fr cr) - sumTo (c * 18) (mvN V f nz he bt fr cr)))))) hi' hl hr := by
    intro z hz6 hz0 hi' hI
    have := H hi' (hI.skip hB (by omega) hz0)
    rw [(skip_N (V := V) (he := he) (bt := bt) (fr := fr) (cr := cr) (wl := wl) (sm := sm) hB (show (c * 6 + z) * 3 ≤ (c + 1) * 18 by omega) hz0).1] at this
    exact this
  refine lp nz (fun hi' x8 x9 x10 hI => ?_) (fun z hz ih hi' x8 x9 x10 hI => ?_)
  · have nz1 : hi' a 1 = iI nz := hI.2.1.2.1
    apply s_X4_carryCell_33
    simp (disch := omega) only [B_X4_carryCell_33, s0, s1, nz1, en_ops, en_opc, iI_add, iI_mul, iI_sub, jL_add, jL_mul, iI_le, iI_lt, iI_eq, iI_eq0, iI_lt0, iI_0le, iI_le0, iI_0lt, jL_iI, iI_jL, lc_eq, lc_lt, lc_le, lc_ge, lc_gt, Nat.sub_zero, Nat.zero_le, true_and, and_true, Nat.reduceAdd, Nat.reduceLeDiff]
    exact ⟨fun _ => out nz hnz (fun n h1 h2 => hB.2.1 _ _ _ (by unfold zN; omega)) hi' hI, fun e => absurd (Int.le_refl _) e⟩
  · have nz1 : hi' a 1 = iI nz := hI.2.1.2.1
    apply s_X4_carryCell_33
    simp (disch := omega) only [B_X4_carryCell_33, s0, s1, nz1, en_ops, en_opc, iI_add, iI_mul, iI_sub, jL_add, jL_mul, iI_le, iI_lt, iI_eq, iI_eq0, iI_lt0, iI_0le, iI_le0, iI_0lt, jL_iI, iI_jL, lc_eq, lc_lt, lc_le, lc_ge, lc_gt, Nat.sub_zero, Nat.zero_le, true_and, and_true, Nat.reduceAdd, Nat.reduceLeDiff]
    refine ⟨fun e => by omega, fun _ => ⟨fun e => out z (by omega) (fun n h1 h2 => ?_) hi' hI, fun e => ?_⟩⟩
    · have e1 : cN n = c := by unfold cN; omega
      have f0 := hB.1 (cN n) (zN n) (kN n)
      have f1 := f_le hB (cN n) (zN n) (k := kN n) (by unfold kN; omega)
      have f2 := aP_le hB hnz (c := cN n) (by omega) (zN n)
      rw [e1] at f0 f1 f2 ⊢
      omega
    · refine t_heapAt (c := c) (z := z) (k := 0) ?_
      simp (disch := omega) only [en_ops, en_opc, iI_add, iI_mul, iI_sub, jL_add, jL_mul, iI_le, iI_lt, iI_eq, iI_eq0, iI_lt0, iI_0le, iI_le0, iI_0lt, jL_iI, iI_jL, lc_eq, lc_lt, lc_le, lc_ge, lc_gt, Nat.sub_zero, Nat.zero_le, true_and, and_true, Nat.reduceAdd, Nat.reduceLeDiff]
      rw [show ((c : Int) * 6 + z) * 3 + 0 = (((c * 6 + z) * 3 : Nat) : Int) by omega]
      obtain ⟨g0, g1⟩ := sum_lt (c := c) hB hz
      have a0 := aP_nn hB c z
      suffices L2 : ∀ k : Nat, k ≤ 3 → en_V G Y_X4_carryCell (d + 4) wN wN K 62 [.ref 34, .ref a, .ref L, .int (iI c), .int (iI (wP f nz c)), .int (iI (sumTo ((c * 6 + z) * 3) (mvN V f nz he bt fr cr) - sumTo (c * 18) (mvN V f nz he bt fr cr))), .int (iI (sumTo z (aP f c))), .int (iI z), .int (iI (((c * 6 + z) * 3 : Nat) : Int)), .int (iI (sumTo k (f c z))), .int (iI k)] [] hi' hl hr xc xs from L2 0 (by omega)
      refine lp 3 ?_ (fun k hk ih2 => ?_)
      · apply s_X4_carryCell_62
        simp (disch := omega) only [B_X4_carryCell_62, s0, s1, en_ops, en_opc, iI_add, iI_mul, iI_sub, jL_add, jL_mul, iI_le, iI_lt, iI_eq, iI_eq0, iI_lt0, iI_0le, iI_le0, iI_0lt, jL_iI, iI_jL, lc_eq, lc_lt, lc_le, lc_ge, lc_gt, Nat.sub_zero, Nat.zero_le, true_and, and_true, Nat.reduceAdd, Nat.reduceLeDiff]
        refine ⟨fun _ => ⟨⟨by decide, by decide⟩, t_setSize hS g0 a0 (by have : sumTo 3 (f c z) = aP f c z := rfl; omega) (by omega) ?_⟩, fun e => absurd (show (3 : Int) ≤ ((3 : Nat) : Int) by omega) e⟩
        simp (disch := omega) only [en_ops, en_opc, iI_add, iI_mul, iI_sub, jL_add, jL_mul, iI_le, iI_lt, iI_eq, iI_eq0, iI_lt0, iI_0le, iI_le0, iI_0lt, jL_iI, iI_jL, lc_eq, lc_lt, lc_le, lc_ge, lc_gt, Nat.sub_zero, Nat.zero_le, true_and, and_true, Nat.reduceAdd, Nat.reduceLeDiff]
        generalize hg : en_up (en_up (en_up hi' 35 0 (iI ↑z)) 35 2 (iI (abP (sumTo z (aP f c)) (sumTo 3 (f c z)) (wP f nz c)))) 35 3 (iI (beP (sumTo z (aP f c)) (wP f nz c))) = h5
        have F5 : Fr (· = 35) hi' h5 := by subst hg; exact Fr.up (Fr.up (Fr.up Fr.rf (by rfl)) (by rfl)) (by rfl)
        have an : a + 1 ≠ 35 ∧ a ≠ 35 ∧ a + 7 ≠ 35 := by rcases id ha with rfl | rfl | rfl | rfl | rfl <;> omega
        obtain ⟨i1, i2, i3, i4, i5, i6, i7, i8⟩ := hI
        obtain ⟨w4, w5, w6⟩ := id i6
        have E5 : ∀ x, x ≠ 35 → h5 x = hi' x := fun x hx => F5 x hx
        have R5 : ∀ j, 4 ≤ j → h5 35 j = hi' 35 j := fun j hj => by subst hg; rw [up_ne (Or.inr (by omega)), up_ne (Or.inr (by omega)), up_ne (Or.inr (by omega))]
        have I5 : mvI V f a nc nz wl he bt fr cr sm c hi0 ((c * 6 + z) * 3) h5 := by
          refine ⟨i1.tr (F5.mono (fun x e => Or.inr (Or.inl e))), shH.fr ha i2 F5 (fun x g1 g2 => by omega), fun c' z' k' hc' hz' hk' => by rw [E5 37 (by omega)]; exact i3 c' z' k' hc' hz' hk', fun i hi9 => by rw [E5 _ an.2.2]; exact i4 i hi9, by unfold aimH; rw [E5 34 (by omega)]; exact i5, ⟨by rw [R5 4 (by omega)]; exact w4, by rw [R5 5 (by omega)]; exact w5, by rw [R5 6 (by omega)]; exact w6⟩, by rw [R5 7 (by omega)]; exact i7, by rw [R5 8 (by omega)]; exact i8⟩
        have Z5 : szH f nz c z h5 := by
          subst hg
          refine ⟨?_, ?_, ?_⟩ <;> simp [en_up] <;> rfl
        refine t_cc104 (V := V) (f := f) (nc := nc) (nz := nz) (wl := wl) (sm := sm) (z := z) (hi0 := hi0) hS hL hLR hV hVr ha hR hB hwl hc hnc hz hnz (fun hi2 y8 y9 y10 hI2 => ?_) 0 (by omega) h5 I5 Z5
        have t9 := ih hi2 y8 y9 y10 (by rw [show (c * 6 + (z + 1)) * 3 = (c * 6 + z) * 3 + 3 by omega]; exact hI2)
        rw [show (c * 6 + (z + 1)) * 3 = (c * 6 + z) * 3 + 3 by omega] at t9
        exact t9
      · rw [sumTo_s] at ih2
        have hv : hi' (a + 1) ((c * 6 + z) * 3 + k) = iI (f c z k) := by
          rw [hI.2.1.2.2.2.2 c z k (by omega) (by omega) hk]
          unfold fN
          rw [if_neg (by omega)]
        apply s_X4_carryCell_62
        simp (disch := omega) only [B_X4_carryCell_62, r1, s0, s1, s2, q1, en_ops, en_opc, iI_add, iI_mul, iI_sub, jL_add, jL_mul, iI_le, iI_lt, iI_eq, iI_eq0, iI_lt0, iI_0le, iI_le0, iI_0lt, jL_iI, iI_jL, lc_eq, lc_lt, lc_le, lc_ge, lc_gt, Nat.sub_zero, Nat.zero_le, true_and, and_true, Nat.reduceAdd, Nat.reduceLeDiff]
        refine ⟨fun e => by omega, fun _ => ⟨(c * 6 + z) * 3 + k, iI_eq_of (by omega), by omega, ?_⟩⟩
        rw [hv, iI_add]
        exact ih2
theorem t_carryCell {L c : Nat} (hS : seR hr) (hL : isLw L) (hLR : lwR L hr) (hV : lwV G L V hi) (hVr : ∀ w nm, -2147483648 ≤ V w nm ∧ V w nm < 2147483648) (ha : isSh a) (hR : shR a hr) (hB : fB nc nz f) (hfr : fr = 0 ∨ fr = 1)
    (hwl0 : ∀ c, c < 12 → 0 ≤ wl c ∧ wl c ≤ 16) (hc : c < nc) (hnc : nc ≤ 12) (hnz : nz ≤ 6) (hwl : ∀ c, c < 12 → hi (a + 3) c = iI (wl c)) (hcr : hi (a + 2) c = iI (cr c))
    (hh : shH a nc nz (fN V f nz he bt fr cr (c * 18)) hi) (hA : arrH (arN V f nc nz wl he bt fr cr (c * 18)) hi) (hM : smH a (smN V f nz he bt fr cr sm (c * 18)) hi) (hw : wvH he bt fr hi)
    (H : ∀ hi', mvI V f a nc nz wl he bt fr cr sm c hi ((c + 1) * 18) hi' → K (.inl (some (.int (iI (sumTo ((c + 1) * 18) (mvN V f nz he bt fr cr) - sumTo (c * 18) (mvN V f nz he bt fr cr)))))) hi' hl hr) :
    en_Call G (d + 4) xc xs Y_X4_carryCell wN wN [.ref 34, .ref a, .ref L, .int (iI c)] hi hl hr K := by
  obtain ⟨s0, s1, s2, s3, s4, s5, s6, s7, s8, s9, s10, s11⟩ := ha.sh
  obtain ⟨r1, r2, r3, r4, r5, r6, r7⟩ := id hR
  obtain ⟨h0, h1, b0, b1, h2⟩ := id hh
  have q1 : a + 1 < 134 := by omega
  have q2 : a + 2 < 134 := by omega
  have q3 : a + 3 < 134 := by omega
  have q4 : a + 4 < 134 := by omega
  have q5 : a + 5 < 134 := by omega
  have q6 : a + 6 < 134 := by omega
  have q7 : a + 7 < 134 := by omega
  have an : a + 1 ≠ 35 ∧ a ≠ 35 ∧ a + 7 ≠ 35 ∧ a + 1 ≠ 34 ∧ a ≠ 34 ∧ a + 7 ≠ 34 ∧ a + 3 ≠ 35 := by rcases id ha with rfl | rfl | rfl | rfl | rfl <;> omega
  have hcg : 0 ≤ cgP wl fr c ∧ cgP wl fr c ≤ 16 := by unfold cgP; exact hwl0 _ (by split <;> omega)
  apply en_X4_carryCell
  simp (disch := omega) only [B_X4_carryCell_0, s0, s1, en_ops, en_opc, iI_add, iI_mul, iI_sub, jL_add, jL_mul, iI_le, iI_lt, iI_eq, iI_eq0, iI_lt0, iI_0le, iI_le0, iI_0lt, jL_iI, iI_jL, lc_eq, lc_lt, lc_le, lc_ge, lc_gt, Nat.sub_zero, Nat.zero_le, true_and, and_true, Nat.reduceAdd, Nat.reduceLeDiff]
  refine t_allIn ha hR hh (fN_B hB _) (by omega) ?_
  rw [wP_fN (Nat.le_refl _) hnz]
  simp (disch := omega) only [r2, s3, q2, s0, s1, en_ops, en_opc, iI_add, iI_mul, iI_sub, jL_add, jL_mul, iI_le, iI_lt, iI_eq, iI_eq0, iI_lt0, iI_0le, iI_le0, iI_0lt, jL_iI, iI_jL, lc_eq, lc_lt, lc_le, lc_ge, lc_gt, Nat.sub_zero, Nat.zero_le, true_and, and_true, Nat.reduceAdd, Nat.reduceLeDiff]
  refine ⟨c, rfl, by omega, ?_⟩
  rw [hcr]
  refine ⟨⟨by decide, by decide⟩, t_setPlace hS ?_⟩
  simp (disch := omega) only [en_ops, en_opc, iI_add, iI_mul, iI_sub, jL_add, jL_mul, iI_le, iI_lt, iI_eq, iI_eq0, iI_lt0, iI_0le, iI_le0, iI_0lt, jL_iI, iI_jL, lc_eq, lc_lt, lc_le, lc_ge, lc_gt, Nat.sub_zero, Nat.zero_le, true_and, and_true, Nat.reduceAdd, Nat.reduceLeDiff]
  generalize hg : en_up (en_up hi 35 8 (iI ↑c)) 35 7 (iI (cr c)) = h5
  have F5 : Fr (· = 35) hi h5 := by subst hg; exact Fr.up (Fr.up Fr.rf (by rfl)) (by rfl)
  have E5 : ∀ x, x ≠ 35 → h5 x = hi x := fun x hx => F5 x hx
  obtain ⟨w4, w5, w6⟩ := id hw
  have W5 : wvH he bt fr h5 := by
    subst hg
    refine ⟨?_, ?_, ?_⟩ <;> simp [en_up, w4, w5, w6]
  have N7 : h5 35 7 = iI (cr c) ∧ h5 35 8 = iI c := by
    subst hg
    refine ⟨?_, ?_⟩ <;> simp [en_up]
  refine ⟨⟨by decide, by decide⟩, t_aimFrom (nc := nc) (wl := wl) hS W5 hfr ha hR (by rw [E5 a an.2.1]; exact h0) hnc (fun c hc => by rw [E5 _ an.2.2.2.2.2.2]; exact hwl c hc) hc (fun h6 F6 A6 => ?_)⟩
  simp (disch := omega) only [en_ops, en_opc, iI_add, iI_mul, iI_sub, jL_add, jL_mul, iI_le, iI_lt, iI_eq, iI_eq0, iI_lt0, iI_0le, iI_le0, iI_0lt, jL_iI, iI_jL, lc_eq, lc_lt, lc_le, lc_ge, lc_gt, Nat.sub_zero, Nat.zero_le, true_and, and_true, Nat.reduceAdd, Nat.reduceLeDiff]
  have E6 : ∀ x, x ≠ 34 → h6 x = h5 x := fun x hx => F6 x hx
  have I6 : mvI V f a nc nz wl he bt fr cr sm c hi (c * 18) h6 := by
    refine ⟨(F5.mono (fun x e => Or.inr (Or.inl e))).tr (F6.mono (fun x e => Or.inl e)), shH.fr ha (shH.fr ha hh F5 (fun x g1 g2 => by omega)) F6 (fun x g1 g2 => by omega), fun c' z' k' hc' hz' hk' => by rw [E6 37 (by omega), E5 37 (by omega)]; exact hA c' z' k' hc' hz' hk', fun i hi9 => by rw [E6 _ an.2.2.2.2.2.1, E5 _ an.2.2.1]; exact hM i hi9, A6, ?_, by rw [E6 35 (by omega)]; exact N7.1, by rw [E6 35 (by omega)]; exact N7.2⟩
    unfold wvH
    rw [E6 35 (by omega)]
    exact W5
  have := t_cc33 (V := V) (f := f) (nc := nc) (nz := nz) (wl := wl) (sm := sm) (he := he) (bt := bt) (fr := fr) (cr := cr) (K := K) (hl := hl) (xc := xc) (xs := xs) (d := d) hS hL hLR hV hVr ha hR hB hcg hc hnc hnz H 0 (by omega) h6 jk jk jk (by rw [show (c * 6 + 0) * 3 = c * 18 by omega]; exact I6)
  rw [show (c * 6 + 0) * 3 = c * 18 by omega, Int.sub_self] at this
  exact this
end
