section
variable {G : en_G} {d : Nat} {K : en_K} {a nc nz : Nat} {f g : Nat → Nat → Nat → Int} {hi : en_I} {hl : en_L} {hr : en_F} {xc xs : Nat} {sm : Nat → Int}
theorem drP_s {lo : Nat → Nat × Nat × Int × Int} {h : Int} {i : Nat} : drP nc nz lo h f (i + 1) = if h % (lo i).2.2.2 = 0 then ((haP nc nz (lo i).1 (lo i).2.1 (lo i).2.2.1 (drP nc nz lo h f i).1 (nz * 3)).1, (drP nc nz lo h f i).2 + (haP nc nz (lo i).1 (lo i).2.1 (lo i).2.2.1 (drP nc nz lo h f i).1 (nz * 3)).2.2) else drP nc nz lo h f i := rfl
theorem t_drive {pl nl : Nat} {lo : Nat → Nat × Nat × Int × Int} {h : Int} (h34 : hr 34 5 = .ref pl) (hpl : isPl pl) (hPR : plR pl hr) (hlo : loH pl nl nc lo hi) (ha : isSh a) (hR : shR a hr) (hh : shH a nc nz f hi) (hB : fB nc nz f) (hM : smH a sm hi) (h0 : hi a 11 = iI h) (hh0 : 0 ≤ h) (hh1 : h ≤ 1000)
    (H : ∀ hi', Fr (Pha a) hi hi' → shH a nc nz (drP nc nz lo h f nl).1 hi' → fB nc nz (drP nc nz lo h f nl).1 → tot (drP nc nz lo h f nl).1 ≤ tot f → smH a (fun i => sm i + if i = 4 then (drP nc nz lo h f nl).2 else 0) hi' → K (.inl none) hi' hl hr) :
    en_Call G (d + 3) xc xs Y_X4_drive wN wN [.ref 34, .ref a] hi hl hr K := by
  obtain ⟨s0, s1, s2, s3, s4, s5, s6, s7, s8, s9, s10, s11⟩ := ha.sh
  obtain ⟨l0, l1, l2, l3, l4, l5, l6, l7⟩ := hpl.sh
  obtain ⟨k1, k2, k3, k4, k5⟩ := hPR
  obtain ⟨p0, p1, p2⟩ := hlo
  have b0 := hh.2.2.1
  have b1 := hh.2.2.2.1
  have lq : pl < 134 := by omega
  have lq5 : pl + 5 < 134 := by omega
  have npl : ¬ Pha a pl := fun q => by rcases q with q | q <;> omega
  have npl5 : ¬ Pha a (pl + 5) := fun q => by rcases q with q | q <;> omega
  have na : ¬ Pha a a := fun q => by rcases q with q | q <;> omega
  apply en_X4_drive
  simp (disch := omega) only [B_X4_drive_0, en_ops, en_opc, iI_add, iI_mul, iI_sub, jL_add, jL_mul, iI_le, iI_lt, iI_eq, iI_eq0, iI_lt0, iI_0le, iI_le0, iI_0lt, jL_iI, iI_jL, lc_eq, lc_lt, lc_le, lc_ge, lc_gt, Nat.sub_zero, Nat.zero_le, true_and, and_true, Nat.reduceAdd, Nat.reduceLeDiff]
  suffices L : ∀ i : Nat, i ≤ nl → ∀ (h9 : en_I) (x3 x4 : Value), Fr (Pha a) hi h9 → shH a nc nz (drP nc nz lo h f i).1 h9 → fB nc nz (drP nc nz lo h f i).1 → tot (drP nc nz lo h f i).1 ≤ tot f → smH a (fun j => sm j + if j = 4 then (drP nc nz lo h f i).2 else 0) h9 → en_V G Y_X4_drive (d + 3) wN wN K 2 [.ref 34, .ref a, .int (iI i), x3, x4] [] h9 hl hr xc xs by
    refine L 0 (by omega) hi jk jk Fr.rf hh hB (Int.le_refl _) (fun j hj => by rw [hM j hj]; refine iI_eq_of ?_; show sm j = sm j + (if j = 4 then 0 else 0); split <;> omega)
  refine lp nl (fun h9 x3 x4 F9 S9 B9 T9 M9 => ?_) (fun i hi9 ih h9 x3 x4 F9 S9 B9 T9 M9 => ?_)
  · have p0' : h9 pl 8 = iI nl := by rw [F9 pl npl]; exact p0
    apply s_X4_drive_2
    simp (disch := omega) only [B_X4_drive_2, h34, l0, lq, p0', en_ops, en_opc, iI_add, iI_mul, iI_sub, jL_add, jL_mul, iI_le, iI_lt, iI_eq, iI_eq0, iI_lt0, iI_0le, iI_le0, iI_0lt, jL_iI, iI_jL, lc_eq, lc_lt, lc_le, lc_ge, lc_gt, Nat.sub_zero, Nat.zero_le, true_and, and_true, Nat.reduceAdd, Nat.reduceLeDiff]
    exact ⟨⟨by decide, by decide⟩, fun _ => H h9 F9 S9 B9 T9 M9, fun e => absurd (Int.le_refl _) e⟩
  · have p0' : h9 pl 8 = iI nl := by rw [F9 pl npl]; exact p0
    obtain ⟨t1, t2, t3, t4, t5, t6, t7, ⟨t8, t9⟩, t10, t11⟩ := p2 i hi9
    have E5 : h9 (pl + 5) = hi (pl + 5) := F9 _ npl5
    have h11 : h9 a 11 = iI h := by rw [F9 a na]; exact h0
    apply s_X4_drive_2
    simp (disch := omega) only [B_X4_drive_2, h34, l0, lq, p0', k5, l5, lq5, s0, s1, h11, en_ops, en_opc, iI_add, iI_mul, iI_sub, jL_add, jL_mul, iI_le, iI_lt, iI_eq, iI_eq0, iI_lt0, iI_0le, iI_le0, iI_0lt, jL_iI, iI_jL, lc_eq, lc_lt, lc_le, lc_ge, lc_gt, Nat.sub_zero, Nat.zero_le, true_and, and_true, Nat.reduceAdd, Nat.reduceLeDiff]
    refine ⟨⟨by decide, by decide⟩, fun e => by omega, fun _ => ⟨⟨by decide, by decide⟩, 4 * i + 3, iI_eq_of (by omega), by omega, ?_⟩⟩
    rw [E5, t4]
    have em := Int.emod_nonneg h (show (lo i).2.2.2 ≠ 0 by omega)
    have em2 := Int.emod_lt_of_pos h (show 0 < (lo i).2.2.2 by omega)
    have ed : h - h / (lo i).2.2.2 * (lo i).2.2.2 = h % (lo i).2.2.2 := by rw [Int.emod_def, Int.mul_comm]
    rw [iI_div hh0 (by omega) (by omega) (by omega), iI_mul, iI_sub, ed]
    simp (disch := omega) only [en_ops, en_opc, iI_add, iI_mul, iI_sub, jL_add, jL_mul, iI_le, iI_lt, iI_eq, iI_eq0, iI_lt0, iI_0le, iI_le0, iI_0lt, jL_iI, iI_jL, lc_eq, lc_lt, lc_le, lc_ge, lc_gt, Nat.sub_zero, Nat.zero_le, true_and, and_true, Nat.reduceAdd, Nat.reduceLeDiff]
    rw [drP_s] at ih
    refine ⟨fun e => by omega, fun _ => ⟨by omega, fun e => ?_, fun e => ?_⟩⟩
    · rw [if_neg e] at ih
      exact ih h9 _ _ F9 S9 B9 T9 M9
    · rw [if_pos e] at ih
      refine ⟨⟨by decide, by decide⟩, 4 * i, iI_eq_of (by omega), by omega, ?_⟩
      rw [t1]
      refine ⟨⟨by decide, by decide⟩, 4 * i + 1, iI_eq_of (by omega), by omega, ?_⟩
      rw [t2]
      refine ⟨⟨by decide, by decide⟩, 4 * i + 2, iI_eq_of (by omega), by omega, ?_⟩
      rw [t3]
      obtain ⟨z1, z2, z3, z4⟩ := haP_B (n := (lo i).2.2.1) (by omega) t7 t5 t6 b0 b1 B9 (nz * 3) (Nat.le_refl _)
      refine t_haul ha hR S9 B9 M9 (by omega) t6 t7 (by omega) t9 (fun h8 F8 S8 M8 => ?_)
      simp (disch := omega) only [en_ops, en_opc, iI_add, iI_mul, iI_sub, jL_add, jL_mul, iI_le, iI_lt, iI_eq, iI_eq0, iI_lt0, iI_0le, iI_le0, iI_0lt, jL_iI, iI_jL, lc_eq, lc_lt, lc_le, lc_ge, lc_gt, Nat.sub_zero, Nat.zero_le, true_and, and_true, Nat.reduceAdd, Nat.reduceLeDiff]
      refine ih h8 _ _ (F9.tr F8) S8 z1 (Int.le_trans z2 T9) (fun j hj => ?_)
      rw [M8 j hj]
      refine iI_eq_of ?_
      show sm j + (if j = 4 then (drP nc nz lo h f i).2 else 0) + (if j = 4 then (haP nc nz (lo i).1 (lo i).2.1 (lo i).2.2.1 (drP nc nz lo h f i).1 (nz * 3)).2.2 else 0) = sm j + (if j = 4 then (drP nc nz lo h f i).2 + (haP nc nz (lo i).1 (lo i).2.1 (lo i).2.2.1 (drP nc nz lo h f i).1 (nz * 3)).2.2 else 0)
      split <;> omega
end
