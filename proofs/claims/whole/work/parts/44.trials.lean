section
variable {G : en_G} {d : Nat} {K : en_K} {a b : Nat} {E : hEnv} {q : hSt} {hi hi' : en_I} {hl : en_L} {hr : en_F} {xc xs : Nat}
theorem shC.hs (ha : isSh a) (h : shC a b hi hi') (hq : hsH b E q hi) : hsH a E q hi' := by
  obtain ⟨s0, s1, s2, s3, s4, s5, s6, s7, s8, s9, s10, s11⟩ := ha.sh
  obtain ⟨-, ⟨c0, c1, c8, c10, c11⟩, hk⟩ := h
  obtain ⟨⟨x0, x1, x2, x3, x4⟩, y2, y3, y4, y5, y6, y7⟩ := hq
  refine ⟨⟨by rw [c0]; exact x0, by rw [c1]; exact x1, x2, x3, fun c z k hc hz hk9 => ?_⟩, fun c hc => ?_, fun c hc => ?_, fun c hc => ?_, fun i hi9 => ?_, by rw [c10]; exact y6, by rw [c11]; exact y7⟩
  · rw [hk 1 (by omega) (by omega) _ (by rw [s2]; show _ < 216; omega)]; exact x4 c z k hc hz hk9
  · rw [hk 2 (by omega) (by omega) _ (by rw [s3]; exact hc)]; exact y2 c hc
  · rw [hk 3 (by omega) (by omega) _ (by rw [s4]; exact hc)]; exact y3 c hc
  · rw [hk 4 (by omega) (by omega) _ (by rw [s5]; exact hc)]; exact y4 c hc
  · rw [hk 7 (by omega) (by omega) _ (by rw [s8]; exact hi9)]; exact y5 i hi9
theorem seH.frS {pl L : Nat} {P : Nat → Prop} (hpl : isPl pl) (hL : isLw L) (h : seH G pl L E hi) (F : Fr P hi hi') (hP : ∀ x, P x → (16 ≤ x ∧ x ≤ 23) ∨ (39 ≤ x ∧ x ≤ 46) ∨ 86 ≤ x) : seH G pl L E hi' := by
  have p14 := hpl.sh.2.2.2.2.2.2.1
  have ee : ∀ x, x < 14 ∨ x = 37 → hi' x = hi x := fun x hx => F x (fun g => by have := hP x g; omega)
  obtain ⟨⟨z0, z1, z2⟩, ⟨v0, v1, v2⟩, x3, x4⟩ := h
  refine ⟨⟨by rw [ee pl (by omega)]; exact z0, z1, fun i hi9 => by rw [ee (pl + 4) (by omega)]; exact z2 i hi9⟩, ⟨by rw [ee pl (by omega)]; exact v0, v1, fun i hi9 => by rw [ee (pl + 5) (by omega)]; exact v2 i hi9⟩, x3.mono hL F (fun x g => by have := hP x g; omega), fun c z k hc hz hk => by rw [ee 37 (by omega)]; exact x4 c z k hc hz hk⟩
/-- the trials' row -/
def trR (hr : en_F) : Prop := hr 38 0 = .ref 34 ∧ hr 38 1 = .ref 39 ∧ hr 38 2 = .ref 47 ∧ shR 39 hr ∧ shR 16 hr
/-- what a trial touches -/
def Ptr (x : Nat) : Prop := (34 ≤ x ∧ x ≤ 47)
theorem Fa.tr39 (h : Fa 39 hi hi') : Fr Ptr hi hi' := h.1.mono (fun x g => by unfold Prl at g; unfold Ptr; omega)
theorem t_behind {pl L y n : Nat} {Y : hYr} (hT : trR hr) (hS : seS pl L hr) (hE : eOK E) (hse : seH G pl L E hi) (hq : hsH 16 E q hi) (hO : hOK E q) (hy : isYe y) (hyR : yeR y hr) (hY : yeH y n Y hi)
    (H : ∀ hi', Fr Ptr hi hi' → hsH 39 E (yrP E Y n q) hi' → hOK E (yrP E Y n q) → seH G pl L E hi' → K (.inl (some (.ref 39))) hi' hl hr) :
    en_Call G (d + 7) xc xs Y_X8_behind wN wN [.ref 38, .ref 16, .ref L, .ref y] hi hl hr K := by
  obtain ⟨t0, t1, t2, t3, t4⟩ := hT
  have ha : isSh 39 := Or.inr (Or.inl rfl)
  have hb : isSh 16 := Or.inl rfl
  apply en_X8_behind
  simp (disch := omega) only [B_X8_behind_0, t0, t1, en_ops, en_opc, iI_add, iI_mul, iI_sub, jL_add, jL_mul, iI_le, iI_lt, iI_eq, iI_eq0, iI_lt0, iI_0le, iI_le0, iI_0lt, jL_iI, iI_jL, lc_eq, lc_lt, lc_le, lc_ge, lc_gt, Nat.sub_zero, Nat.zero_le, true_and, and_true, Nat.reduceAdd, Nat.reduceLeDiff]
  refine ⟨⟨by decide, by decide⟩, ⟨by decide, by decide⟩, t_copy ha hb (by decide) t3 t4 (fun h9 C9 => ?_)⟩
  simp (disch := omega) only [t0, t1, en_ops, en_opc, iI_add, iI_mul, iI_sub, jL_add, jL_mul, iI_le, iI_lt, iI_eq, iI_eq0, iI_lt0, iI_0le, iI_le0, iI_0lt, jL_iI, iI_jL, lc_eq, lc_lt, lc_le, lc_ge, lc_gt, Nat.sub_zero, Nat.zero_le, true_and, and_true, Nat.reduceAdd, Nat.reduceLeDiff]
  have F9 : Fr Ptr hi h9 := C9.1.mono (fun x g => by unfold Psh at g; unfold Ptr; omega)
  refine ⟨⟨by decide, by decide⟩, ⟨by decide, by decide⟩, ⟨by decide, by decide⟩, ?_⟩
  refine t_rollYear hS hE (hse.frS hS.2.2.1 hS.2.2.2.2.1 C9.1 (fun x g => by unfold Psh at g; omega)) ha t3 (C9.hs ha hq) hO hy hyR (hY.fr hy F9 (fun x g1 g2 g => by unfold Ptr at g; omega)) (by omega) (fun h8 A8 Q8 O8 S8 => ?_)
  simp (disch := omega) only [t1, en_ops, en_opc, iI_add, iI_mul, iI_sub, jL_add, jL_mul, iI_le, iI_lt, iI_eq, iI_eq0, iI_lt0, iI_0le, iI_le0, iI_0lt, jL_iI, iI_jL, lc_eq, lc_lt, lc_le, lc_ge, lc_gt, Nat.sub_zero, Nat.zero_le, true_and, and_true, Nat.reduceAdd, Nat.reduceLeDiff]
  refine ⟨⟨by decide, by decide⟩, H h8 (F9.tr A8.tr39) Q8 O8 S8⟩
end
