section
variable {G : en_G} {d : Nat} {K : en_K} {a nc nz : Nat} {f g : Nat → Nat → Nat → Int} {hi : en_I} {hl : en_L} {hr : en_F} {xc xs : Nat} {sm : Nat → Int}
def loP (x : Int) : Int := if 1 < x then x - 1 else 1
/-- a cell that the sea has gone over, to its j-th heap -/
def goN (f : Nat → Nat → Nat → Int) (c j c' z k : Nat) : Int := if c' = c ∧ z * 3 + k < j then f c' z k - f c' z k / 16 else f c' z k
def goS (f : Nat → Nat → Nat → Int) (c j : Nat) : Int := sumTo j (fun j => f c (j / 3) (j % 3) / 16)
def Pgo (a x : Nat) : Prop := x = a + 1 ∨ x = a + 2 ∨ x = a + 4 ∨ x = a + 7
theorem t_goOver {c : Nat} {cr ov : Int} (ha : isSh a) (hR : shR a hr) (hh : shH a nc nz f hi) (hB : fB nc nz f) (hM : smH a sm hi) (hc : c < 12) (hcr : hi (a + 2) c = iI cr) (hov : hi (a + 4) c = iI ov) (h1 : -2147483648 < cr) (h2 : cr < 2147483648)
    (H : ∀ hi', Fr (Pgo a) hi hi' → hi' (a + 2) = en_up hi (a + 2) c (iI (loP cr)) (a + 2) → hi' (a + 4) = en_up hi (a + 4) c (iI (ov + 1)) (a + 4) → shH a nc nz (goN f c 18) hi' → smH a (fun i => sm i + if i = 3 then goS f c 18 else 0) hi' → K (.inl none) hi' hl hr) :
    en_Call G (d + 2) xc xs Y_X4_goOver wN wN [.ref a, .int (iI c)] hi hl hr K := by
  obtain ⟨s0, s1, s2, s3, s4, s5, s6, s7, s8, s9, s10, s11⟩ := ha.sh
  obtain ⟨r1, r2, r3, r4, r5, r6, r7⟩ := id hR
  obtain ⟨x0, x1, x2, x3, x4⟩ := id hh
  have q1 : a + 1 < 134 := by omega
  have q2 : a + 2 < 134 := by omega
  have q4 : a + 4 < 134 := by omega
  have q7 : a + 7 < 134 := by omega
  apply en_X4_goOver
  simp (disch := omega) only [B_X4_goOver_0, r2, s0, s1, s3, q2, en_ops, en_opc, iI_add, iI_mul, iI_sub, jL_add, jL_mul, iI_le, iI_lt, iI_eq, iI_eq0, iI_lt0, iI_0le, iI_le0, iI_0lt, jL_iI, iI_jL, lc_eq, lc_lt, lc_le, lc_ge, lc_gt, Nat.sub_zero, Nat.zero_le, true_and, and_true, Nat.reduceAdd, Nat.reduceLeDiff]
  refine ⟨c, rfl, hc, ?_⟩
  rw [hcr]
  refine t_lowered h1 h2 ?_
  simp (disch := omega) only [r4, s0, s1, s3, s5, q2, q4, en_ops, en_opc, iI_add, iI_mul, iI_sub, jL_add, jL_mul, iI_le, iI_lt, iI_eq, iI_eq0, iI_lt0, iI_0le, iI_le0, iI_0lt, jL_iI, iI_jL, lc_eq, lc_lt, lc_le, lc_ge, lc_gt, Nat.sub_zero, Nat.zero_le, true_and, and_true, Nat.reduceAdd, Nat.reduceLeDiff]
  refine ⟨c, rfl, hc, c, rfl, hc, c, rfl, hc, ?_⟩
  rw [up_ne (Or.inl (by omega)), hov, iI_add]
  generalize hg : en_up (en_up hi (a + 2) c (iI (if 1 < cr then cr - 1 else 1))) (a + 4) c (iI (ov + 1)) = h5
  have F5 : Fr (Pgo a) hi h5 := by subst hg; exact Fr.up (Fr.up Fr.rf (Or.inr (Or.inl rfl))) (Or.inr (Or.inr (Or.inl rfl)))
  have e2 : h5 (a + 2) = en_up hi (a + 2) c (iI (loP cr)) (a + 2) := by subst hg; rw [up_row (by omega)]; rfl
  have e4 : h5 (a + 4) = en_up hi (a + 4) c (iI (ov + 1)) (a + 4) := by
    subst hg
    funext j
    by_cases e : j = c
    · subst e; rw [up_at, up_at]
    · rw [up_ne (Or.inr e), up_ne (Or.inr e)]
      exact (up_ne (Or.inr e)).symm
  have e0 : h5 a = hi a := by subst hg; rw [up_row (by omega), up_row (by omega)]
  have e1 : h5 (a + 1) = hi (a + 1) := by subst hg; rw [up_row (by omega), up_row (by omega)]
  have e7 : h5 (a + 7) = hi (a + 7) := by subst hg; rw [up_row (by omega), up_row (by omega)]
  suffices L : ∀ j : Nat, j ≤ 18 → ∀ (h9 : en_I) (x4 : Value), Fr (fun x => x = a + 1 ∨ x = a + 7) h5 h9 → shH a nc nz (goN f c j) h9 → smH a (fun i => sm i + if i = 3 then goS f c j else 0) h9 → en_V G Y_X4_goOver (d + 2) wN wN K 32 [.ref a, .int (iI c), .int (iI (c * 18)), .int (iI (c * 18 + j)), x4] [] h9 hl hr xc xs by
    have := L 0 (by omega) h5 jk Fr.rf ⟨by rw [e0]; exact x0, by rw [e0]; exact x1, x2, x3, fun c' z k hc' hz hk => by rw [e1, x4 c' z k hc' hz hk]; unfold goN; rw [if_neg (by omega)]⟩ (fun i hi9 => by rw [e7, hM i hi9]; refine iI_eq_of ?_; show sm i = sm i + (if i = 3 then goS f c 0 else 0); unfold goS; rw [sumTo_z]; split <;> omega)
    rw [show (c : Int) * 18 + (0 : Nat) = c * 18 by omega] at this
    exact this
  refine lp 18 (fun h9 x4 F9 S9 M9 => ?_) (fun j hj ih h9 x4' F9 S9 M9 => ?_)
  · apply s_X4_goOver_32
    simp (disch := omega) only [B_X4_goOver_32, en_ops, en_opc, iI_add, iI_mul, iI_sub, jL_add, jL_mul, iI_le, iI_lt, iI_eq, iI_eq0, iI_lt0, iI_0le, iI_le0, iI_0lt, jL_iI, iI_jL, lc_eq, lc_lt, lc_le, lc_ge, lc_gt, Nat.sub_zero, Nat.zero_le, true_and, and_true, Nat.reduceAdd, Nat.reduceLeDiff]
    refine ⟨fun _ => H h9 (F5.tr (F9.mono (fun x e => by unfold Pgo; omega))) ?_ ?_ S9 M9, fun e => absurd (show (c : Int) * 18 + 18 ≤ c * 18 + (18 : Nat) by omega) e⟩
    · rw [F9 (a + 2) (by omega)]; exact e2
    · rw [F9 (a + 4) (by omega)]; exact e4
  · have hz : j / 3 < 6 := by omega
    have hk : j % 3 < 3 := by omega
    have hv : h9 (a + 1) ((c * 6 + j / 3) * 3 + j % 3) = iI (f c (j / 3) (j % 3)) := by
      rw [S9.2.2.2.2 c _ _ hc hz hk]
      unfold goN
      rw [if_neg (by omega)]
    have f0 := hB.1 c (j / 3) (j % 3)
    have f1 : f c (j / 3) (j % 3) ≤ 10000000 := Int.le_trans (f_le hB c _ hk) (Int.le_trans (aP_le hB x3 hc _) (wP_le hB x3 hc))
    have ix : (c : Int) * 18 + j = (((c * 6 + j / 3) * 3 + j % 3 : Nat) : Int) := by omega
    apply s_X4_goOver_32
    simp (disch := omega) only [B_X4_goOver_32, r1, r7, s0, s1, s2, s8, q1, q7, en_ops, en_opc, iI_add, iI_mul, iI_sub, jL_add, jL_mul, iI_le, iI_lt, iI_eq, iI_eq0, iI_lt0, iI_0le, iI_le0, iI_0lt, jL_iI, iI_jL, lc_eq, lc_lt, lc_le, lc_ge, lc_gt, Nat.sub_zero, Nat.zero_le, true_and, and_true, Nat.reduceAdd, Nat.reduceLeDiff]
    refine ⟨fun e => by omega, fun _ => ⟨(c * 6 + j / 3) * 3 + j % 3, iI_eq_of ix, by omega, by decide, ?_⟩⟩
    rw [hv, iI_div (by omega) (by omega) (by decide) (by decide)]
    refine ⟨(c * 6 + j / 3) * 3 + j % 3, iI_eq_of ix, by omega, (c * 6 + j / 3) * 3 + j % 3, iI_eq_of ix, by omega, 3, rfl, by decide, 3, rfl, by decide, ?_⟩
    rw [hv, iI_sub, up_ne (Or.inl (by omega)), M9 3 (by omega), iI_add, show (c : Int) * 18 + j + 1 = c * 18 + (j + 1 : Nat) by omega]
    refine ih _ _ (Fr.up (Fr.up F9 (Or.inl rfl)) (Or.inr rfl)) ?_ (fun i hi9 => ?_)
    · have ea : ∀ u v, en_up (en_up h9 (a + 1) ((c * 6 + j / 3) * 3 + j % 3) u) (a + 7) 3 v a = h9 a := fun u v => by rw [up_row (by omega), up_row (by omega)]
      refine ⟨by rw [ea]; exact S9.1, by rw [ea]; exact S9.2.1, x2, x3, fun c' z k hc' hz' hk' => ?_⟩
      rw [up_row (by omega)]
      by_cases q : (c' * 6 + z) * 3 + k = (c * 6 + j / 3) * 3 + j % 3
      · obtain ⟨g1, g2, g3⟩ := (ix_inj (c := c) (c' := c') (z := j / 3) (k := j % 3) hz hk hz' hk').mp q
        subst g1 g2 g3
        rw [up_at]
        unfold goN
        rw [if_pos ⟨rfl, by omega⟩]
      · rw [up_ne (Or.inr q), S9.2.2.2.2 c' z k hc' hz' hk']
        unfold goN
        by_cases e9 : c' = c ∧ z * 3 + k < j
        · rw [if_pos e9, if_pos ⟨e9.1, by omega⟩]
        · rw [if_neg e9, if_neg (fun e8 => by obtain ⟨e8, e7⟩ := e8; subst e8; omega)]
    · by_cases e : i = 3
      · subst e
        rw [up_at]
        refine iI_eq_of ?_
        show sm 3 + (if 3 = 3 then goS f c j else 0) + _ = sm 3 + (if 3 = 3 then goS f c (j + 1) else 0)
        unfold goS
        rw [if_pos rfl, if_pos rfl, sumTo_s]
        omega
      · rw [up_ne (Or.inr e), up_row (by omega), M9 i hi9]
        refine iI_eq_of ?_
        show sm i + (if i = 3 then goS f c j else 0) = sm i + (if i = 3 then goS f c (j + 1) else 0)
        rw [if_neg e, if_neg e]
end
