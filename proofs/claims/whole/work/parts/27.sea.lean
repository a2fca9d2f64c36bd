section
variable {G : en_G} {d : Nat} {K : en_K} {a nc nz : Nat} {wl sm : Nat → Int} {f ar : Nat → Nat → Nat → Int} {hi : en_I} {hl : en_L} {hr : en_F} {xc xs : Nat}
def updF (f : Nat → Nat → Nat → Int) (c z k : Nat) (v : Int) (c' z' k' : Nat) : Int := if c' = c ∧ z' = z ∧ k' = k then v else f c' z' k'
def Pmv (a x : Nat) : Prop := x = 36 ∨ x = 37 ∨ x = a + 1 ∨ x = a + 7
def smH (a : Nat) (sm : Nat → Int) (hi : en_I) : Prop := ∀ i, i < 5 → hi (a + 7) i = iI (sm i)
theorem t_carryHeap {L c z k : Nat} {V : Nat → (Nat → Int) → Int} {nm : Nat → Int} {fr v m w : Int} (hS : seR hr) (hL : isLw L) (hLR : lwR L hr) (hV : lwV G L V hi) (hVr : ∀ w nm, -2147483648 ≤ V w nm ∧ V w nm < 2147483648)
    (hN : nmH nm hi) (hz0 : nm 0 = z) (ha : isSh a) (hR : shR a hr) (hh : shH a nc nz f hi) (hA : arrH ar hi) (hsm : smH a sm hi) (haim : aimH nc wl fr c hi) (hwl : 0 ≤ cgP wl fr c ∧ cgP wl fr c ≤ 16)
    (hc : c < nc) (hz : z < nz) (hk : k < 3) (hv : f c z k = v) (hv0 : 0 ≤ v) (hv1 : v ≤ 10000000) (hm : m = v * heP (V 0 nm) / 16) (hw : w = m * heP (V 1 nm) / 16)
    (H : ∀ hi', Fr (Pmv a) hi hi' → shH a nc nz (updF f c z k (v - m)) hi' → arrH (fun c' z' k' => ar c' z' k' + ctP nc wl fr c z k m w c' z' k') hi' → smH a (fun i => sm i + if i = 2 ∧ z = 0 then w else 0) hi' → K (.inl (some (.int (iI m)))) hi' hl hr) :
    en_Call G (d + 3) xc xs Y_X4_carryHeap wN wN [.ref 34, .ref a, .ref L, .int (iI (((c * 6 + z) * 3 + k : Nat) : Int))] hi hl hr K := by
  obtain ⟨s0, s1, s2, s3, s4, s5, s6, s7, s8, s9, s10, s11⟩ := ha.sh
  obtain ⟨r1, r2, r3, r4, r5, r6, r7⟩ := id hR
  obtain ⟨h0, h1, b0, b1, h2⟩ := id hh
  have q1 : a + 1 < 134 := by omega
  have q2 : a + 2 < 134 := by omega
  have q3 : a + 3 < 134 := by omega
  have q4 : a + 4 < 134 := by omega
  have q5 : a + 5 < 134 := by omega
  have q6 : a + 6 < 134 := by omega
  have q7 : a + 7 < 134 := by omega
  have hS' := hS
  obtain ⟨e0, e1, e2⟩ := hS
  obtain ⟨l0, l1, l2, l3⟩ := hL.sh
  have h35 := ha.n35
  have hx := ha
  have an : a + 1 ≠ 36 ∧ a + 1 ≠ 37 ∧ a + 7 ≠ 36 ∧ a + 7 ≠ 37 ∧ a ≠ 36 ∧ a ≠ 37 := by rcases hx with rfl | rfl | rfl | rfl | rfl <;> omega
  have an4 : a + 1 ≠ 34 ∧ a + 7 ≠ 34 ∧ a ≠ 34 ∧ a + 1 ≠ 35 ∧ a + 7 ≠ 35 := by rcases hx with rfl | rfl | rfl | rfl | rfl <;> omega
  have aL : a + 7 < 50 ∨ 66 ≤ a := by rcases hx with rfl | rfl | rfl | rfl | rfl <;> omega
  obtain ⟨g0, g1⟩ := heP_r (V 0 nm)
  obtain ⟨g2, g3⟩ := heP_r (V 1 nm)
  have p0 := Int.mul_nonneg hv0 g0
  have p1 : v * heP (V 0 nm) ≤ v * 16 := Int.mul_le_mul_of_nonneg_left g1 hv0
  have m0 : 0 ≤ m := by omega
  have m1 : m ≤ v := by omega
  have p2 := Int.mul_nonneg m0 g2
  have p3 : m * heP (V 1 nm) ≤ m * 16 := Int.mul_le_mul_of_nonneg_left g3 m0
  have w0 : 0 ≤ w := by omega
  have w1 : w ≤ m := by omega
  obtain ⟨i0, hi0⟩ : ∃ i0, i0 = (c * 6 + z) * 3 + k := ⟨_, rfl⟩
  have b0' : i0 < 216 := by omega
  have hv9 : hi (a + 1) i0 = iI v := by rw [hi0, h2 c z k (by omega) (by omega) hk, hv]
  rw [← hi0]
  apply en_X4_carryHeap
  simp (disch := omega) only [B_X4_carryHeap_0, r1, s0, s1, s2, q1, e0, e1, en_ops, en_opc, iI_add, iI_mul, iI_sub, jL_add, jL_mul, iI_le, iI_lt, iI_eq, iI_eq0, iI_lt0, iI_0le, iI_le0, iI_0lt, jL_iI, iI_jL, lc_eq, lc_lt, lc_le, lc_ge, lc_gt, Nat.sub_zero, Nat.zero_le, true_and, and_true, Nat.reduceAdd, Nat.reduceLeDiff]
  refine ⟨i0, rfl, b0', ⟨by decide, by decide⟩, ⟨by decide, by decide⟩, ?_⟩
  rw [l0, hv9]
  refine ⟨⟨rfl, l1⟩, ?_⟩
  refine hV hi hl hr _ d 0 0 0 nm rfl rfl rfl rfl (by omega) hN hLR (fun hA1 F1 => ?_)
  have hN1 := hN.fr F1 (by decide)
  have hV1 := hV.mono hL F1 (fun x e => Or.inl (by omega))
  simp (disch := omega) only [en_ops, en_opc, iI_add, iI_mul, iI_sub, jL_add, jL_mul, iI_le, iI_lt, iI_eq, iI_eq0, iI_lt0, iI_0le, iI_le0, iI_0lt, jL_iI, iI_jL, lc_eq, lc_lt, lc_le, lc_ge, lc_gt, Nat.sub_zero, Nat.zero_le, true_and, and_true, Nat.reduceAdd, Nat.reduceLeDiff]
  refine t_held (hVr _ _).1 (hVr _ _).2 ?_
  show en_kk _ _ _ _ _ _ (.inl (some (.int (iI (heP (V 0 nm)))))) _ _ _
  simp (disch := omega) only [e0, e1, en_ops, en_opc, iI_add, iI_mul, iI_sub, jL_add, jL_mul, iI_le, iI_lt, iI_eq, iI_eq0, iI_lt0, iI_0le, iI_le0, iI_0lt, jL_iI, iI_jL, lc_eq, lc_lt, lc_le, lc_ge, lc_gt, Nat.sub_zero, Nat.zero_le, true_and, and_true, Nat.reduceAdd, Nat.reduceLeDiff]
  refine ⟨by decide, ?_⟩
  rw [iI_div (by omega) (by omega) (by decide) (by decide), ← hm]
  simp (disch := omega) only [e0, e1, en_ops, en_opc, iI_add, iI_mul, iI_sub, jL_add, jL_mul, iI_le, iI_lt, iI_eq, iI_eq0, iI_lt0, iI_0le, iI_le0, iI_0lt, jL_iI, iI_jL, lc_eq, lc_lt, lc_le, lc_ge, lc_gt, Nat.sub_zero, Nat.zero_le, true_and, and_true, Nat.reduceAdd, Nat.reduceLeDiff]
  refine ⟨fun e => ⟨⟨by decide, by decide⟩, ⟨by decide, by decide⟩, ?_⟩, fun e => ?_⟩
  · rw [l0]
    refine ⟨⟨rfl, l1⟩, ?_⟩
    refine hV1 hA1 hl hr _ d 0 0 1 nm rfl rfl rfl rfl (by omega) hN1 hLR (fun hA2 F2 => ?_)
    simp (disch := omega) only [en_ops, en_opc, iI_add, iI_mul, iI_sub, jL_add, jL_mul, iI_le, iI_lt, iI_eq, iI_eq0, iI_lt0, iI_0le, iI_le0, iI_0lt, jL_iI, iI_jL, lc_eq, lc_lt, lc_le, lc_ge, lc_gt, Nat.sub_zero, Nat.zero_le, true_and, and_true, Nat.reduceAdd, Nat.reduceLeDiff]
    refine t_held (hVr _ _).1 (hVr _ _).2 ?_
    show en_kk _ _ _ _ _ _ (.inl (some (.int (iI (heP (V 1 nm)))))) _ _ _
    simp (disch := omega) only [e0, e1, en_ops, en_opc, iI_add, iI_mul, iI_sub, jL_add, jL_mul, iI_le, iI_lt, iI_eq, iI_eq0, iI_lt0, iI_0le, iI_le0, iI_0lt, jL_iI, iI_jL, lc_eq, lc_lt, lc_le, lc_ge, lc_gt, Nat.sub_zero, Nat.zero_le, true_and, and_true, Nat.reduceAdd, Nat.reduceLeDiff]
    refine ⟨by decide, ?_⟩
    rw [iI_div (by omega) (by omega) (by decide) (by decide), ← hw]
    simp (disch := omega) only [r1, s0, s1, s2, q1, e0, e1, en_ops, en_opc, iI_add, iI_mul, iI_sub, jL_add, jL_mul, iI_le, iI_lt, iI_eq, iI_eq0, iI_lt0, iI_0le, iI_le0, iI_0lt, jL_iI, iI_jL, lc_eq, lc_lt, lc_le, lc_ge, lc_gt, Nat.sub_zero, Nat.zero_le, true_and, and_true, Nat.reduceAdd, Nat.reduceLeDiff]
    have F12 : Fr (· = 36) hi hA2 := F1.tr F2
    have hv2 : hA2 (a + 1) i0 = iI v := by rw [F12 _ an.1]; exact hv9
    refine ⟨i0, rfl, b0', i0, rfl, b0', ?_⟩
    rw [hv2, iI_sub]
    generalize hg3 : en_up hA2 (a + 1) i0 (iI (v - m)) = hA3
    have F3 : Fr (Pmv a) hi hA3 := by subst hg3; exact Fr.up (F12.mono (fun x e => Or.inl e)) (Or.inr (Or.inr (Or.inl rfl)))
    have sh3 : shH a nc nz (updF f c z k (v - m)) hA3 := by
      have ea := F3 a (fun q => by rcases q with q | q | q | q <;> omega)
      refine ⟨by rw [ea]; exact h0, by rw [ea]; exact h1, b0, b1, fun c' z' k' hc' hz' hk' => ?_⟩
      subst hg3
      unfold updF
      by_cases j : (c' * 6 + z') * 3 + k' = i0
      · have j2 := (ix_inj (c := c) (c' := c') (z := z) (k := k) (by omega) hk hz' hk').mp (by omega)
        rw [j, up_at, if_pos j2]
      · rw [up_ne (Or.inr j), if_neg (fun g => j (by rw [g.1, g.2.1, g.2.2, hi0])), F12 _ an.1]
        exact h2 c' z' k' hc' hz' hk'
    have hA37 : arrH ar hA3 := fun c' z' k' hc' hz' hk' => by
      subst hg3
      rw [up_row (by omega), F12 37 (by decide)]
      exact hA c' z' k' hc' hz' hk'
    have hai3 : aimH nc wl fr c hA3 := by
      have := F3 34 (fun q => by rcases q with q | q | q | q <;> omega)
      unfold aimH
      rw [this]
      exact haim
    have hsm3 : smH a sm hA3 := fun i hi9 => by
      subst hg3
      rw [up_row (by omega), F12 _ an.2.2.1]
      exact hsm i hi9
    have n3 : hA3 35 0 = iI z := by
      subst hg3
      rw [up_row (by omega), F12 35 (by decide), hN 0 (by omega), hz0]
    refine ⟨⟨by decide, by decide⟩, ?_⟩
    rw [hi0]
    refine t_arrive hS' hai3 hA37 (by omega) (by omega) hwl hc b0 (by omega) hk (fun hA4 F4 R4 => ?_)
    have n4 : hA4 35 0 = iI z := by rw [F4 35 (by decide)]; exact n3
    have sm4 : hA4 (a + 7) = hA3 (a + 7) := F4 _ an.2.2.2.1
    have F04 : Fr (Pmv a) hi hA4 := F3.tr (F4.mono (fun x e => Or.inr (Or.inl e)))
    have sh4 : shH a nc nz (updF f c z k (v - m)) hA4 := shH.fr ha sh3 F4 (fun x g1 g2 => by omega)
    have hai4 : aimH nc wl fr c hA4 := by
      have := F4 34 (by decide)
      unfold aimH
      rw [this]
      exact hai3
    have hsm4 : smH a sm hA4 := fun i hi9 => by rw [sm4]; exact hsm3 i hi9
    simp (disch := omega) only [e0, n4, en_ops, en_opc, iI_add, iI_mul, iI_sub, jL_add, jL_mul, iI_le, iI_lt, iI_eq, iI_eq0, iI_lt0, iI_0le, iI_le0, iI_0lt, jL_iI, iI_jL, lc_eq, lc_lt, lc_le, lc_ge, lc_gt, Nat.sub_zero, Nat.zero_le, true_and, and_true, Nat.reduceAdd, Nat.reduceLeDiff]
    refine ⟨⟨by decide, by decide⟩, 0, rfl, by decide, ⟨by decide, by decide⟩, ?_⟩
    simp (disch := omega) only [n4, en_ops, en_opc, iI_add, iI_mul, iI_sub, jL_add, jL_mul, iI_le, iI_lt, iI_eq, iI_eq0, iI_lt0, iI_0le, iI_le0, iI_0lt, jL_iI, iI_jL, lc_eq, lc_lt, lc_le, lc_ge, lc_gt, Nat.sub_zero, Nat.zero_le, true_and, and_true, Nat.reduceAdd, Nat.reduceLeDiff]
    refine ⟨fun ez => ⟨⟨by decide, by decide⟩, ?_⟩, fun ez => ?_⟩
    · rw [show (((c * 6 + z) * 3 + k : Nat) : Int) - 3 = (((c * 6 + (z - 1)) * 3 + k : Nat) : Int) by omega]
      refine t_arrive hS' hai4 R4 w0 (by omega) hwl hc b0 (by omega) hk (fun hA5 F5 R5 => ?_)
      simp (disch := omega) only [en_ops, en_opc, iI_add, iI_mul, iI_sub, jL_add, jL_mul, iI_le, iI_lt, iI_eq, iI_eq0, iI_lt0, iI_0le, iI_le0, iI_0lt, jL_iI, iI_jL, lc_eq, lc_lt, lc_le, lc_ge, lc_gt, Nat.sub_zero, Nat.zero_le, true_and, and_true, Nat.reduceAdd, Nat.reduceLeDiff]
      refine H hA5 (F04.tr (F5.mono (fun x e => Or.inr (Or.inl e)))) (shH.fr ha sh4 F5 (fun x g1 g2 => by omega)) (fun c' z' k' hc' hz' hk' => ?_) (fun i hi9 => ?_)
      · rw [R5 c' z' k' hc' hz' hk']
        refine iI_eq_of ?_
        simp only [ctP]
        rw [if_neg (by omega)]
        omega
      · rw [F5 _ an.2.2.2.1, hsm4 i hi9]
        refine iI_eq_of ?_
        show sm i = sm i + (if i = 2 ∧ z = 0 then w else 0)
        rw [if_neg (by omega)]
        omega
    · simp (disch := omega) only [r7, s0, s1, s8, q7, en_ops, en_opc, iI_add, iI_mul, iI_sub, jL_add, jL_mul, iI_le, iI_lt, iI_eq, iI_eq0, iI_lt0, iI_0le, iI_le0, iI_0lt, jL_iI, iI_jL, lc_eq, lc_lt, lc_le, lc_ge, lc_gt, Nat.sub_zero, Nat.zero_le, true_and, and_true, Nat.reduceAdd, Nat.reduceLeDiff]
      refine ⟨2, rfl, by decide, 2, rfl, by decide, ?_⟩
      rw [hsm4 2 (by omega), iI_add]
      refine H _ (F04.up (Or.inr (Or.inr (Or.inr rfl)))) (shH.fr (P := (· = a + 7)) ha sh4 (Fr.up Fr.rf (by rfl)) (fun x g1 g2 => by omega)) (fun c' z' k' hc' hz' hk' => ?_) (fun i hi9 => ?_)
      · rw [up_row (by omega), R4 c' z' k' hc' hz' hk']
        refine iI_eq_of ?_
        simp only [ctP]
        rw [if_pos (by omega)]
        omega
      · by_cases j : i = 2
        · subst j
          rw [up_at]
          refine iI_eq_of ?_
          show _ = sm 2 + (if 2 = 2 ∧ z = 0 then w else 0)
          rw [if_pos ⟨rfl, by omega⟩]
        · rw [up_ne (Or.inr j), hsm4 i hi9]
          refine iI_eq_of ?_
          show sm i = sm i + (if i = 2 ∧ z = 0 then w else 0)
          rw [if_neg (fun g => j g.1)]
          omega
  · have m9 : m = 0 := by omega
    have w9 : w = 0 := by omega
    rw [show iI 0 = iI m by rw [m9]]
    refine H hA1 (F1.mono (fun x e => Or.inl e)) ?_ (fun c' z' k' hc' hz' hk' => ?_) (fun i hi9 => ?_)
    · obtain ⟨x0, x1, x2, x3, x4⟩ := shH.fr ha hh F1 (fun x g1 g2 => by omega)
      refine ⟨x0, x1, x2, x3, fun c' z' k' hc' hz' hk' => ?_⟩
      rw [x4 c' z' k' hc' hz' hk']
      unfold updF
      split
      next g => obtain ⟨g1, g2, g3⟩ := g; subst g1 g2 g3; exact iI_eq_of (by omega)
      next => rfl
    · rw [F1 37 (by decide), hA c' z' k' hc' hz' hk']
      refine iI_eq_of ?_
      show ar c' z' k' = ar c' z' k' + ctP nc wl fr c z k m w c' z' k'
      rw [m9, w9, ctP_0]
      omega
    · rw [F1 _ an.2.2.1, hsm i hi9]
      refine iI_eq_of ?_
      show sm i = sm i + (if i = 2 ∧ z = 0 then w else 0)
      split <;> omega
end
