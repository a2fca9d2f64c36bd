section
variable {G : en_G} {d : Nat} {K : en_K} {a nc nz : Nat} {f g : Nat → Nat → Nat → Int} {hi : en_I} {hl : en_L} {hr : en_F} {xc xs : Nat} {sm : Nat → Int}
/-- a plan's springs: cell, size, stuff, number -/
def spH (pl ns : Nat) (sp : Nat → Nat × Nat × Nat × Int) (hi : en_I) : Prop := hi pl 6 = iI ns ∧ ns ≤ 8 ∧ ∀ i, i < ns → hi (pl + 4) (4 * i) = iI ((((sp i).1 * 6 + (sp i).2.1) * 3 + (sp i).2.2.1 : Nat) : Int) ∧ hi (pl + 4) (4 * i + 1) = iI (sp i).2.2.2 ∧ (sp i).1 < 12 ∧ (sp i).2.1 < 6 ∧ (sp i).2.2.1 < 3
def isPl (pl : Nat) : Prop := pl = 2 ∨ pl = 8
theorem isPl.sh {pl : Nat} (h : isPl pl) : en_SH pl = (3, 9) ∧ en_SH (pl + 1) = (100, 216) ∧ en_SH (pl + 2) = (100, 12) ∧ en_SH (pl + 3) = (100, 12) ∧ en_SH (pl + 4) = (100, 32) ∧ en_SH (pl + 5) = (100, 16) ∧ pl + 5 < 14 ∧ 2 ≤ pl := by
  rcases h with rfl | rfl <;> decide
def plR (pl : Nat) (hr : en_F) : Prop := hr pl 2 = .ref (pl + 1) ∧ hr pl 3 = .ref (pl + 2) ∧ hr pl 4 = .ref (pl + 3) ∧ hr pl 5 = .ref (pl + 4) ∧ hr pl 7 = .ref (pl + 5)
def spF (f : Nat → Nat → Nat → Int) (sp : Nat → Nat × Nat × Nat × Int) (n c z k : Nat) : Int := f c z k + sumTo n (fun i => if c = (sp i).1 ∧ z = (sp i).2.1 ∧ k = (sp i).2.2.1 then (sp i).2.2.2 else 0)
def spP (sp : Nat → Nat × Nat × Nat × Int) (n : Nat) : Int := sumTo n (fun i => if (sp i).2.2.1 = 2 then (sp i).2.2.2 else 0)
def spN (sp : Nat → Nat × Nat × Nat × Int) (n : Nat) : Int := sumTo n (fun i => (sp i).2.2.2)
def Pfl (a x : Nat) : Prop := x = a ∨ x = a + 1 ∨ x = a + 7
theorem t_flow {pl ns : Nat} {sp : Nat → Nat × Nat × Nat × Int} {p : Int} (h34 : hr 34 5 = .ref pl) (hpl : isPl pl) (hPR : plR pl hr) (hsp : spH pl ns sp hi) (ha : isSh a) (hR : shR a hr) (hh : shH a nc nz f hi) (hM : smH a sm hi) (hp : hi a 10 = iI p)
    (H : ∀ hi', Fr (Pfl a) hi hi' → (∀ j, j ≠ 10 → hi' a j = hi a j) → hi' a 10 = iI (p + spP sp ns) → shH a nc nz (spF f sp ns) hi' → smH a (fun i => sm i + if i = 1 then spN sp ns else 0) hi' → K (.inl none) hi' hl hr) :
    en_Call G (d + 2) xc xs Y_X4_flow wN wN [.ref 34, .ref a] hi hl hr K := by
  obtain ⟨s0, s1, s2, s3, s4, s5, s6, s7, s8, s9, s10, s11⟩ := ha.sh
  obtain ⟨r1, r2, r3, r4, r5, r6, r7⟩ := id hR
  obtain ⟨l0, l1, l2, l3, l4, l5, l6, l7⟩ := hpl.sh
  obtain ⟨k1, k2, k3, k4, k5⟩ := hPR
  obtain ⟨p0, p1, p2⟩ := hsp
  have q1 : a + 1 < 134 := by omega
  have q7 : a + 7 < 134 := by omega
  have lq : pl < 134 := by omega
  have lq4 : pl + 4 < 134 := by omega
  have npl : ¬ Pfl a pl := fun q => by rcases q with q | q | q <;> omega
  have npl4 : ¬ Pfl a (pl + 4) := fun q => by rcases q with q | q | q <;> omega
  apply en_X4_flow
  simp (disch := omega) only [B_X4_flow_0, en_ops, en_opc, iI_add, iI_mul, iI_sub, jL_add, jL_mul, iI_le, iI_lt, iI_eq, iI_eq0, iI_lt0, iI_0le, iI_le0, iI_0lt, jL_iI, iI_jL, lc_eq, lc_lt, lc_le, lc_ge, lc_gt, Nat.sub_zero, Nat.zero_le, true_and, and_true, Nat.reduceAdd, Nat.reduceLeDiff]
  suffices L : ∀ i : Nat, i ≤ ns → ∀ (h9 : en_I) (x3 : Value), Fr (Pfl a) hi h9 → (∀ j, j ≠ 10 → h9 a j = hi a j) → h9 a 10 = iI (p + spP sp i) → shH a nc nz (spF f sp i) h9 → smH a (fun j => sm j + if j = 1 then spN sp i else 0) h9 → en_V G Y_X4_flow (d + 2) wN wN K 2 [.ref 34, .ref a, .int (iI i), x3] [] h9 hl hr xc xs by
    refine L 0 (by omega) hi jk Fr.rf (fun _ _ => rfl) (by rw [hp]; unfold spP; rw [sumTo_z, Int.add_zero]) (hh.cg (fun c z k _ _ _ => by unfold spF; rw [sumTo_z, Int.add_zero])) (fun j hj => by rw [hM j hj]; refine iI_eq_of ?_; show sm j = sm j + (if j = 1 then spN sp 0 else 0); unfold spN; rw [sumTo_z]; split <;> omega)
  refine lp ns (fun h9 x3 F9 A9 P9 S9 M9 => ?_) (fun i hi9 ih h9 x3 F9 A9 P9 S9 M9 => ?_)
  · have p0' : h9 pl 6 = iI ns := by rw [F9 pl npl]; exact p0
    apply s_X4_flow_2
    simp (disch := omega) only [B_X4_flow_2, h34, l0, lq, p0', en_ops, en_opc, iI_add, iI_mul, iI_sub, jL_add, jL_mul, iI_le, iI_lt, iI_eq, iI_eq0, iI_lt0, iI_0le, iI_le0, iI_0lt, jL_iI, iI_jL, lc_eq, lc_lt, lc_le, lc_ge, lc_gt, Nat.sub_zero, Nat.zero_le, true_and, and_true, Nat.reduceAdd, Nat.reduceLeDiff]
    exact ⟨⟨by decide, by decide⟩, fun _ => H h9 F9 A9 P9 S9 M9, fun e => absurd (Int.le_refl _) e⟩
  · have p0' : h9 pl 6 = iI ns := by rw [F9 pl npl]; exact p0
    obtain ⟨t1, t2, t3, t4, t5⟩ := p2 i hi9
    have t1' : h9 (pl + 4) (4 * i) = iI ((((sp i).1 * 6 + (sp i).2.1) * 3 + (sp i).2.2.1 : Nat) : Int) := by rw [F9 _ npl4]; exact t1
    have t2' : h9 (pl + 4) (4 * i + 1) = iI (sp i).2.2.2 := by rw [F9 _ npl4]; exact t2
    apply s_X4_flow_2
    simp (disch := omega) only [B_X4_flow_2, h34, l0, lq, p0', k4, l4, lq4, s0, s1, en_ops, en_opc, iI_add, iI_mul, iI_sub, jL_add, jL_mul, iI_le, iI_lt, iI_eq, iI_eq0, iI_lt0, iI_0le, iI_le0, iI_0lt, jL_iI, iI_jL, lc_eq, lc_lt, lc_le, lc_ge, lc_gt, Nat.sub_zero, Nat.zero_le, true_and, and_true, Nat.reduceAdd, Nat.reduceLeDiff]
    refine ⟨⟨by decide, by decide⟩, fun e => by omega, fun _ => ⟨⟨by decide, by decide⟩, 4 * i + 1, iI_eq_of (by omega), by omega, ?_⟩⟩
    rw [t2']
    refine ⟨⟨by decide, by decide⟩, 4 * i, iI_eq_of (by omega), by omega, ?_⟩
    rw [t1']
    obtain ⟨i0, hi0⟩ : ∃ i0, i0 = ((sp i).1 * 6 + (sp i).2.1) * 3 + (sp i).2.2.1 := ⟨_, rfl⟩
    have hv := S9.2.2.2.2 _ _ _ t3 t4 t5
    rw [← hi0] at hv ⊢
    refine t_add ha hR (by omega) hv P9 ?_
    simp (disch := omega) only [r7, s0, s1, s8, q7, en_ops, en_opc, iI_add, iI_mul, iI_sub, jL_add, jL_mul, iI_le, iI_lt, iI_eq, iI_eq0, iI_lt0, iI_0le, iI_le0, iI_0lt, jL_iI, iI_jL, lc_eq, lc_lt, lc_le, lc_ge, lc_gt, Nat.sub_zero, Nat.zero_le, true_and, and_true, Nat.reduceAdd, Nat.reduceLeDiff]
    have A7 : addH a i0 h9 (spF f sp i (sp i).1 (sp i).2.1 (sp i).2.2.1 + (sp i).2.2.2) (p + spP sp i + (sp i).2.2.2) (a + 7) = h9 (a + 7) := by
      unfold addH
      split
      · rw [up_row (by omega), up_row (by omega)]
      · rw [up_row (by omega)]
    have A1 : addH a i0 h9 (spF f sp i (sp i).1 (sp i).2.1 (sp i).2.2.1 + (sp i).2.2.2) (p + spP sp i + (sp i).2.2.2) (a + 1) = en_up h9 (a + 1) i0 (iI (spF f sp i (sp i).1 (sp i).2.1 (sp i).2.2.1 + (sp i).2.2.2)) (a + 1) := by
      unfold addH
      split
      · rw [up_row (by omega)]
      · rfl
    have A0 : ∀ j, j ≠ 10 → addH a i0 h9 (spF f sp i (sp i).1 (sp i).2.1 (sp i).2.2.1 + (sp i).2.2.2) (p + spP sp i + (sp i).2.2.2) a j = h9 a j := fun j hj => by
      unfold addH
      split
      · rw [up_ne (Or.inr hj), up_row (by omega)]
      · rw [up_row (by omega)]
    have AP : addH a i0 h9 (spF f sp i (sp i).1 (sp i).2.1 (sp i).2.2.1 + (sp i).2.2.2) (p + spP sp i + (sp i).2.2.2) a 10 = iI (p + spP sp (i + 1)) := by
      unfold addH spP
      rw [sumTo_s]
      by_cases e : (sp i).2.2.1 = 2
      · rw [if_pos (by omega), up_at, if_pos e]; exact iI_eq_of (by omega)
      · rw [if_neg (by omega), up_row (by omega), P9, if_neg e]; exact iI_eq_of (by unfold spP; omega)
    have AF : Fr (Pfl a) h9 (addH a i0 h9 (spF f sp i (sp i).1 (sp i).2.1 (sp i).2.2.1 + (sp i).2.2.2) (p + spP sp i + (sp i).2.2.2)) := by
      unfold addH
      split
      · exact Fr.up (Fr.up Fr.rf (Or.inr (Or.inl rfl))) (Or.inl rfl)
      · exact Fr.up Fr.rf (Or.inr (Or.inl rfl))
    generalize addH a i0 h9 (spF f sp i (sp i).1 (sp i).2.1 (sp i).2.2.1 + (sp i).2.2.2) (p + spP sp i + (sp i).2.2.2) = h8 at A7 A1 A0 AP AF ⊢
    refine ⟨1, rfl, by decide, 1, rfl, by decide, ?_⟩
    rw [A7, M9 1 (by omega), iI_add]
    refine ih _ _ (Fr.up (F9.tr AF) (Or.inr (Or.inr rfl))) (fun j hj => by rw [up_row (by omega), A0 j hj]; exact A9 j hj) (by rw [up_row (by omega)]; exact AP) ?_ (fun j hj => ?_)
    · obtain ⟨x0, x1, x2, x3, x4⟩ := S9
      refine ⟨by rw [up_row (by omega), A0 0 (by omega)]; exact x0, by rw [up_row (by omega), A0 1 (by omega)]; exact x1, x2, x3, fun c z k hc hz hk => ?_⟩
      rw [up_row (by omega), A1]
      unfold spF
      rw [sumTo_s]
      by_cases q : (c * 6 + z) * 3 + k = i0
      · have j2 := (ix_inj (c := (sp i).1) (c' := c) t4 t5 hz hk).mp (by omega)
        rw [q, up_at, if_pos j2]
        obtain ⟨g1, g2, g3⟩ := j2
        rw [g1, g2, g3]
        exact iI_eq_of (by omega)
      · rw [up_ne (Or.inr q), x4 c z k hc hz hk, if_neg (fun g => q (by rw [g.1, g.2.1, g.2.2, hi0]))]
        unfold spF
        exact iI_eq_of (by omega)
    · by_cases e : j = 1
      · subst e
        rw [up_at]
        refine iI_eq_of ?_
        show sm 1 + (if 1 = 1 then spN sp i else 0) + _ = sm 1 + (if 1 = 1 then spN sp (i + 1) else 0)
        unfold spN
        rw [if_pos rfl, if_pos rfl, sumTo_s]
        omega
      · rw [up_ne (Or.inr e), A7, M9 j hj]
        refine iI_eq_of ?_
        show sm j + (if j = 1 then spN sp i else 0) = sm j + (if j = 1 then spN sp (i + 1) else 0)
        rw [if_neg e, if_neg e]
end
