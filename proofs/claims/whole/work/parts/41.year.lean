section
variable {G : en_G} {d : Nat} {K : en_K} {a : Nat} {E : hEnv} {q : hSt} {hi : en_I} {hl : en_L} {hr : en_F} {xc xs : Nat}
/-- a wave, k times, the hours permitting -/
def rpP (E : hEnv) (w : Int × Int × Int) : Nat → hSt → hSt
  | 0, q => q
  | k + 1, q => if (rpP E w k q).2.2.2.2.2 < 600 then hrP E w (rpP E w k q) else rpP E w k q
theorem rpP_stop {w : Int × Int × Int} {k : Nat} (h : ¬ (rpP E w k q).2.2.2.2.2 < 600) : ∀ m, k ≤ m → rpP E w m q = rpP E w k q := by
  intro m hm
  induction m with
  | zero => rw [show k = 0 by omega]
  | succ m ih =>
    by_cases e : k = m + 1
    · rw [e]
    · have := ih (by omega)
      show (if (rpP E w m q).2.2.2.2.2 < 600 then hrP E w (rpP E w m q) else rpP E w m q) = _
      rw [this, if_neg h]
/-- a year's waves: height, beat, from, times -/
abbrev hYr : Type := Nat → (Int × Int × Int) × Nat
def yrP (E : hEnv) (Y : hYr) : Nat → hSt → hSt
  | 0, q => q
  | i + 1, q => rpP E (Y i).1 (Y i).2 (yrP E Y i q)
def isYe (y : Nat) : Prop := y = 66 ∨ y = 71 ∨ y = 76 ∨ y = 81
theorem isYe.sh {y : Nat} (h : isYe y) : en_SH y = (9, 5) ∧ en_SH (y + 1) = (100, 20) ∧ en_SH (y + 2) = (100, 20) ∧ en_SH (y + 3) = (100, 20) ∧ en_SH (y + 4) = (100, 20) ∧ 66 ≤ y ∧ y + 4 < 86 := by
  rcases h with rfl | rfl | rfl | rfl <;> decide
def yeR (y : Nat) (hr : en_F) : Prop := hr y 0 = .ref (y + 1) ∧ hr y 1 = .ref (y + 2) ∧ hr y 2 = .ref (y + 3) ∧ hr y 3 = .ref (y + 4)
def yeH (y n : Nat) (Y : hYr) (hi : en_I) : Prop := hi y 4 = iI n ∧ n ≤ 20 ∧ ∀ i, i < n → hi (y + 1) i = iI (Y i).1.1 ∧ hi (y + 2) i = iI (Y i).1.2.1 ∧ hi (y + 3) i = iI (Y i).1.2.2 ∧ hi (y + 4) i = iI (Y i).2 ∧ wOK (Y i).1 ∧ 1 ≤ (Y i).2 ∧ (Y i).2 ≤ 9
theorem yeH.fr {y n : Nat} {Y : hYr} {P : Nat → Prop} {hi' : en_I} (hy : isYe y) (h : yeH y n Y hi) (F : Fr P hi hi') (hP : ∀ x, 66 ≤ x → x < 86 → ¬ P x) : yeH y n Y hi' := by
  obtain ⟨l0, l1, l2, l3, l4, l5, l6⟩ := hy.sh
  obtain ⟨h0, h1, h2⟩ := h
  have ee : ∀ x, 66 ≤ x → x < 86 → hi' x = hi x := fun x g1 g2 => F x (hP x g1 g2)
  refine ⟨by rw [ee y (by omega) (by omega)]; exact h0, h1, fun i hi9 => ?_⟩
  rw [ee (y + 1) (by omega) (by omega), ee (y + 2) (by omega) (by omega), ee (y + 3) (by omega) (by omega), ee (y + 4) (by omega) (by omega)]
  exact h2 i hi9
theorem t_setWaveOf {y n i : Nat} {Y : hYr} (hS : seR hr) (hy : isYe y) (hyR : yeR y hr) (hY : yeH y n Y hi) (hi9 : i < n)
    (H : ∀ hi', Fr (· = 35) hi hi' → wvH (Y i).1.1 (Y i).1.2.1 (Y i).1.2.2 hi' → K (.inl none) hi' hl hr) : en_Call G (d + 2) xc xs Y_X4_setWaveOf wN wN [.ref 34, .ref y, .int (iI i)] hi hl hr K := by
  obtain ⟨l0, l1, l2, l3, l4, l5, l6⟩ := hy.sh
  obtain ⟨k0, k1, k2, k3⟩ := hyR
  obtain ⟨h0, h1, h2⟩ := hY
  obtain ⟨t1, t2, t3, t4, t5⟩ := h2 i hi9
  have q0 : y < 134 := by omega
  have q1 : y + 1 < 134 := by omega
  have q2 : y + 2 < 134 := by omega
  have q3 : y + 3 < 134 := by omega
  apply en_X4_setWaveOf
  simp (disch := omega) only [B_X4_setWaveOf_0, k0, k1, k2, l0, l1, l2, l3, q0, q1, q2, q3, en_ops, en_opc, iI_add, iI_mul, iI_sub, jL_add, jL_mul, iI_le, iI_lt, iI_eq, iI_eq0, iI_lt0, iI_0le, iI_le0, iI_0lt, jL_iI, iI_jL, lc_eq, lc_lt, lc_le, lc_ge, lc_gt, Nat.sub_zero, Nat.zero_le, true_and, and_true, Nat.reduceAdd, Nat.reduceLeDiff]
  refine ⟨i, rfl, by omega, i, rfl, by omega, i, rfl, by omega, ⟨by decide, by decide⟩, ?_⟩
  rw [t1, t2, t3]
  refine t_setWave hS ?_
  simp (disch := omega) only [en_ops, en_opc, iI_add, iI_mul, iI_sub, jL_add, jL_mul, iI_le, iI_lt, iI_eq, iI_eq0, iI_lt0, iI_0le, iI_le0, iI_0lt, jL_iI, iI_jL, lc_eq, lc_lt, lc_le, lc_ge, lc_gt, Nat.sub_zero, Nat.zero_le, true_and, and_true, Nat.reduceAdd, Nat.reduceLeDiff]
  refine H _ (Fr.up (Fr.up (Fr.up Fr.rf (by rfl)) (by rfl)) (by rfl)) ⟨?_, ?_, ?_⟩ <;> simp [en_up]
/-- within a trial or a year: what has been touched -/
theorem hsH.fr35 {hi' : en_I} {P : Nat → Prop} (ha : isSh a) (h : hsH a E q hi) (F : Fr P hi hi') (hP : ∀ x, x < 34 ∨ 37 < x → ¬ P x) : hsH a E q hi' := by
  have n34 := ha.n34
  have ee : ∀ x, a ≤ x → x ≤ a + 7 → hi' x = hi x := fun x h1 h2 => F x (hP x (n34 x h1 h2).1)
  obtain ⟨y1, y2, y3, y4, y5, y6, y7⟩ := h
  refine ⟨shH.fr ha y1 F (fun x h1 h2 => hP x (n34 x h1 (by omega)).1), fun c hc => ?_, fun c hc => ?_, fun c hc => ?_, fun i hi9 => ?_, ?_, ?_⟩
  · rw [ee (a + 2) (by omega) (by omega)]; exact y2 c hc
  · rw [ee (a + 3) (by omega) (by omega)]; exact y3 c hc
  · rw [ee (a + 4) (by omega) (by omega)]; exact y4 c hc
  · rw [ee (a + 7) (by omega) (by omega)]; exact y5 i hi9
  · rw [ee a (by omega) (by omega)]; exact y6
  · rw [ee a (by omega) (by omega)]; exact y7
theorem seH.fr35 {pl L : Nat} {hi' : en_I} {P : Nat → Prop} (hpl : isPl pl) (hL : isLw L) (h : seH G pl L E hi) (F : Fr P hi hi') (hP : ∀ x, x ≠ 35 → ¬ P x) : seH G pl L E hi' := by
  have p14 := hpl.sh.2.2.2.2.2.2.1
  have ee : ∀ x, x ≠ 35 → hi' x = hi x := fun x hx => F x (hP x hx)
  obtain ⟨⟨z0, z1, z2⟩, ⟨v0, v1, v2⟩, x3, x4⟩ := h
  refine ⟨⟨by rw [ee pl (by omega)]; exact z0, z1, fun i hi9 => by rw [ee (pl + 4) (by omega)]; exact z2 i hi9⟩, ⟨by rw [ee pl (by omega)]; exact v0, v1, fun i hi9 => by rw [ee (pl + 5) (by omega)]; exact v2 i hi9⟩, x3.mono hL F (fun x g => ?_), fun c z k hc hz hk => by rw [ee 37 (by omega)]; exact x4 c z k hc hz hk⟩
  by_cases e : x = 35
  · omega
  · exact absurd g (hP x e)
/-- all that waves touch, and the shore's own row but for its hours and its painted -/
def Fa (a : Nat) (hi hi' : en_I) : Prop := Fr (Prl a) hi hi' ∧ ∀ j, j ≠ 10 → j ≠ 11 → hi' a j = hi a j
theorem Fa.rf : Fa a hi hi := ⟨Fr.rf, fun _ _ _ => rfl⟩
theorem Fa.tr {h1 h2 h3 : en_I} (x : Fa a h1 h2) (y : Fa a h2 h3) : Fa a h1 h3 := ⟨x.1.tr y.1, fun j e1 e2 => (y.2 j e1 e2).trans (x.2 j e1 e2)⟩
theorem Fa.w {h1 h2 : en_I} (ha : isSh a) (F : Fr (· = 35) h1 h2) : Fa a h1 h2 := ⟨F.mono (fun x e => Or.inr (Or.inl e)), fun j _ _ => by have := (ha.n34 a (by omega) (by omega)).1; rw [F a (by omega)]⟩
theorem t_rollYear {pl L y n : Nat} {Y : hYr} (hS : seS pl L hr) (hE : eOK E) (hse : seH G pl L E hi) (ha : isSh a) (hR : shR a hr) (hq : hsH a E q hi) (hO : hOK E q) (hy : isYe y) (hyR : yeR y hr) (hY : yeH y n Y hi) (hay : a + 7 < 66 ∨ 86 ≤ a)
    (H : ∀ hi', Fa a hi hi' → hsH a E (yrP E Y n q) hi' → hOK E (yrP E Y n q) → seH G pl L E hi' → K (.inl (some (.int (iI ((yrP E Y n q).2.2.2.2.2 - q.2.2.2.2.2))))) hi' hl hr) :
    en_Call G (d + 6) xc xs Y_X4_rollYear wN wN [.ref 34, .ref a, .ref L, .ref y] hi hl hr K := by
  obtain ⟨s0, s1, -⟩ := ha.sh
  obtain ⟨l0, l1, l2, l3, l4, l5, l6⟩ := hy.sh
  obtain ⟨k0, k1, k2, k3⟩ := id hyR
  have q0 : y < 134 := by omega
  have q4 : y + 4 < 134 := by omega
  have hpl := hS.2.2.1
  have hL := hS.2.2.2.2.1
  have h11 := hq.2.2.2.2.2.2
  have pY : ∀ x, 66 ≤ x → x < 86 → ¬ Prl a x := fun x h1 h2 g => by unfold Prl at g; omega
  apply en_X4_rollYear
  simp (disch := omega) only [B_X4_rollYear_0, s0, s1, h11, en_ops, en_opc, iI_add, iI_mul, iI_sub, jL_add, jL_mul, iI_le, iI_lt, iI_eq, iI_eq0, iI_lt0, iI_0le, iI_le0, iI_0lt, jL_iI, iI_jL, lc_eq, lc_lt, lc_le, lc_ge, lc_gt, Nat.sub_zero, Nat.zero_le, true_and, and_true, Nat.reduceAdd, Nat.reduceLeDiff]
  suffices L9 : ∀ i : Nat, i ≤ n → ∀ (h9 : en_I) (x6 : Value), Fa a hi h9 → hsH a E (yrP E Y i q) h9 → hOK E (yrP E Y i q) → seH G pl L E h9 → en_V G Y_X4_rollYear (d + 6) wN wN K 9 [.ref 34, .ref a, .ref L, .ref y, .int (iI q.2.2.2.2.2), .int (iI i), x6] [] h9 hl hr xc xs from L9 0 (by omega) hi jk Fa.rf hq hO hse
  refine lp n (fun h9 x6 F9 Q9 O9 S9 => ?_) (fun i hi9 ih h9 x6 F9 Q9 O9 S9 => ?_)
  · have n9 : h9 y 4 = iI n := by rw [F9.1 y (pY y (by omega) (by omega))]; exact hY.1
    have e11 := Q9.2.2.2.2.2.2
    have n20 := hY.2.1
    apply s_X4_rollYear_9
    simp (disch := omega) only [B_X4_rollYear_9, s0, s1, l0, q0, n9, e11, en_ops, en_opc, iI_add, iI_mul, iI_sub, jL_add, jL_mul, iI_le, iI_lt, iI_eq, iI_eq0, iI_lt0, iI_0le, iI_le0, iI_0lt, jL_iI, iI_jL, lc_eq, lc_lt, lc_le, lc_ge, lc_gt, Nat.sub_zero, Nat.zero_le, true_and, and_true, Nat.reduceAdd, Nat.reduceLeDiff]
    exact ⟨fun _ => H h9 F9 Q9 O9 S9, fun e => absurd (Int.le_refl _) e⟩
  · have Y9 : yeH y n Y h9 := hY.fr hy F9.1 pY
    have n9 : h9 y 4 = iI n := Y9.1
    have n20 := hY.2.1
    obtain ⟨u1, u2, u3, u4, u5, u6, u7⟩ := Y9.2.2 i hi9
    apply s_X4_rollYear_9
    simp (disch := omega) only [B_X4_rollYear_9, s0, s1, l0, q0, n9, en_ops, en_opc, iI_add, iI_mul, iI_sub, jL_add, jL_mul, iI_le, iI_lt, iI_eq, iI_eq0, iI_lt0, iI_0le, iI_le0, iI_0lt, jL_iI, iI_jL, lc_eq, lc_lt, lc_le, lc_ge, lc_gt, Nat.sub_zero, Nat.zero_le, true_and, and_true, Nat.reduceAdd, Nat.reduceLeDiff]
    refine ⟨fun e => by omega, fun _ => ⟨⟨by decide, by decide⟩, ?_⟩⟩
    refine t_setWaveOf (d := d + 3) hS.1 hy hyR Y9 hi9 (fun h8 F8 W8 => ?_)
    simp (disch := omega) only [en_ops, en_opc, iI_add, iI_mul, iI_sub, jL_add, jL_mul, iI_le, iI_lt, iI_eq, iI_eq0, iI_lt0, iI_0le, iI_le0, iI_0lt, jL_iI, iI_jL, lc_eq, lc_lt, lc_le, lc_ge, lc_gt, Nat.sub_zero, Nat.zero_le, true_and, and_true, Nat.reduceAdd, Nat.reduceLeDiff]
    suffices L8 : ∀ t : Nat, t ≤ (Y i).2 → ∀ h7, Fa a hi h7 → hsH a E (rpP E (Y i).1 t (yrP E Y i q)) h7 → hOK E (rpP E (Y i).1 t (yrP E Y i q)) → seH G pl L E h7 → wvH (Y i).1.1 (Y i).1.2.1 (Y i).1.2.2 h7 → en_V G Y_X4_rollYear (d + 6) wN wN K 28 [.ref 34, .ref a, .ref L, .ref y, .int (iI q.2.2.2.2.2), .int (iI i), .int (iI t)] [] h7 hl hr xc xs by
      exact L8 0 (by omega) h8 (F9.tr (Fa.w ha F8)) (Q9.fr35 ha F8 (fun x g1 g2 => by omega)) O9 (S9.fr35 hpl hL F8 (fun x g1 g2 => g1 g2)) W8
    refine lp (Y i).2 (fun h7 F7 Q7 O7 S7 W7 => ?_) (fun t ht ih7 h7 F7 Q7 O7 S7 W7 => ?_)
    · have Y7 : yeH y n Y h7 := hY.fr hy F7.1 pY
      have u7' := (Y7.2.2 i hi9).2.2.2.1
      apply s_X4_rollYear_28
      simp (disch := omega) only [B_X4_rollYear_28, k3, l0, l4, q0, q4, en_ops, en_opc, iI_add, iI_mul, iI_sub, jL_add, jL_mul, iI_le, iI_lt, iI_eq, iI_eq0, iI_lt0, iI_0le, iI_le0, iI_0lt, jL_iI, iI_jL, lc_eq, lc_lt, lc_le, lc_ge, lc_gt, Nat.sub_zero, Nat.zero_le, true_and, and_true, Nat.reduceAdd, Nat.reduceLeDiff]
      refine ⟨i, rfl, by omega, ?_⟩
      rw [u7']
      simp (disch := omega) only [en_ops, en_opc, iI_add, iI_mul, iI_sub, jL_add, jL_mul, iI_le, iI_lt, iI_eq, iI_eq0, iI_lt0, iI_0le, iI_le0, iI_0lt, jL_iI, iI_jL, lc_eq, lc_lt, lc_le, lc_ge, lc_gt, Nat.sub_zero, Nat.zero_le, true_and, and_true, Nat.reduceAdd, Nat.reduceLeDiff]
      exact ⟨fun _ => ih h7 _ F7 Q7 O7 S7, fun e => absurd (Int.le_refl _) e⟩
    · have Y7 : yeH y n Y h7 := hY.fr hy F7.1 pY
      have u7' := (Y7.2.2 i hi9).2.2.2.1
      have e11 := Q7.2.2.2.2.2.2
      obtain ⟨-, -, -, o4, o5⟩ := id O7
      apply s_X4_rollYear_28
      simp (disch := omega) only [B_X4_rollYear_28, k3, l0, l4, q0, q4, en_ops, en_opc, iI_add, iI_mul, iI_sub, jL_add, jL_mul, iI_le, iI_lt, iI_eq, iI_eq0, iI_lt0, iI_0le, iI_le0, iI_0lt, jL_iI, iI_jL, lc_eq, lc_lt, lc_le, lc_ge, lc_gt, Nat.sub_zero, Nat.zero_le, true_and, and_true, Nat.reduceAdd, Nat.reduceLeDiff]
      refine ⟨i, rfl, by omega, ?_⟩
      rw [u7']
      simp (disch := omega) only [s0, s1, e11, en_ops, en_opc, iI_add, iI_mul, iI_sub, jL_add, jL_mul, iI_le, iI_lt, iI_eq, iI_eq0, iI_lt0, iI_0le, iI_le0, iI_0lt, jL_iI, iI_jL, lc_eq, lc_lt, lc_le, lc_ge, lc_gt, Nat.sub_zero, Nat.zero_le, true_and, and_true, Nat.reduceAdd, Nat.reduceLeDiff]
      refine ⟨fun e => by omega, fun _ => ⟨fun e => ?_, fun e => ⟨⟨by decide, by decide⟩, ?_⟩⟩⟩
      · have st := rpP_stop (E := E) (w := (Y i).1) (k := t) (q := yrP E Y i q) (by omega) (Y i).2 (by omega)
        have hy9 : yrP E Y (i + 1) q = rpP E (Y i).1 t (yrP E Y i q) := st
        rw [hy9] at ih
        exact ih h7 _ F7 Q7 O7 S7
      · have st : rpP E (Y i).1 (t + 1) (yrP E Y i q) = hrP E (Y i).1 (rpP E (Y i).1 t (yrP E Y i q)) := if_pos (by omega)
        rw [st] at ih7
        refine t_hour (d := d) hS hE S7 ha hR Q7 O7 (by omega) W7 u5 (fun h6 F6 A6 Q6 O6 S6 W6 => ?_)
        simp (disch := omega) only [en_ops, en_opc, iI_add, iI_mul, iI_sub, jL_add, jL_mul, iI_le, iI_lt, iI_eq, iI_eq0, iI_lt0, iI_0le, iI_le0, iI_0lt, jL_iI, iI_jL, lc_eq, lc_lt, lc_le, lc_ge, lc_gt, Nat.sub_zero, Nat.zero_le, true_and, and_true, Nat.reduceAdd, Nat.reduceLeDiff]
        exact ih7 h6 (F7.tr ⟨F6, A6⟩) Q6 O6 S6 W6
end
