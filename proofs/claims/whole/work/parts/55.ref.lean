section
variable {G : en_G} {d : Nat} {K : en_K} {b : Nat → Int} {hi : en_I} {hl : en_L} {hr : en_F} {xc xs : Nat} {E : hEnv} {q : hSt}
theorem sh125 : en_SH 125 = (100, 5) := by decide
theorem sh126 : en_SH 126 = (100, 200) := by decide
theorem sh127 : en_SH 127 = (100, 200) := by decide
theorem sh128 : en_SH 128 = (100, 200) := by decide
theorem sh129 : en_SH 129 = (100, 200) := by decide
theorem lt125 : 125 < 134 := by decide
theorem lt126 : 126 < 134 := by decide
theorem lt127 : 127 < 134 := by decide
theorem lt128 : 128 < 134 := by decide
theorem lt129 : 129 < 134 := by decide
/-- the reference's year y -/
def ryH (y n : Nat) (Y : hYr) (hi : en_I) : Prop := hi 125 y = iI n ∧ n ≤ 20 ∧ ∀ i, i < n → hi 126 (40 * y + i) = iI (Y i).1.1 ∧ hi 127 (40 * y + i) = iI (Y i).1.2.1 ∧ hi 128 (40 * y + i) = iI (Y i).1.2.2 ∧ hi 129 (40 * y + i) = iI (Y i).2 ∧ wOK (Y i).1 ∧ 1 ≤ (Y i).2 ∧ (Y i).2 ≤ 9
theorem ryH.fr {y n : Nat} {Y : hYr} {P : Nat → Prop} {hi' : en_I} (h : ryH y n Y hi) (F : Fr P hi hi') (hP : ∀ x, 125 ≤ x → x ≤ 129 → ¬ P x) : ryH y n Y hi' := by
  have e : ∀ x, 125 ≤ x → x ≤ 129 → hi' x = hi x := fun x g1 g2 => F x (hP x g1 g2)
  obtain ⟨h1, h2, h3⟩ := h
  refine ⟨by rw [e 125 (by omega) (by omega)]; exact h1, h2, fun i hi9 => ?_⟩
  rw [e 126 (by omega) (by omega), e 127 (by omega) (by omega), e 128 (by omega) (by omega), e 129 (by omega) (by omega)]
  exact h3 i hi9
theorem rfB.fr {P : Nat → Prop} {hi' : en_I} (h : rfB b hi) (F : Fr P hi hi') (hP : ¬ P 113) : rfB b hi' := fun j hj => by rw [F 113 hP]; exact h j hj
theorem m_runs {l y n : Nat} {Y : hYr} (hR : rfR hr) (hE : eOK E) (hb : rfB b hi) (hbE : rbE E b) (hV : rwV G l E.1 hi) (hq : rsH q hi) (hO : hOK E q) (hy : y < 4) (hY : ryH y n Y hi)
    (H : ∀ hi', Fr Pmo hi hi' → rsH (yrP E Y n q) hi' → hOK E (yrP E Y n q) → (∀ j, 630 ≤ j → j ≠ 833 → hi' 115 j = hi 115 j) → K (.inl (some (.int (iI ((yrP E Y n q).2.2.2.2.2 - q.2.2.2.2.2))))) hi' hl hr) :
    en_Call G (d + 7) xc xs Y_X11_runs wN wN [.ref 110, .int (iI l), .int (iI y)] hi hl hr K := by
  obtain ⟨⟨-, -, r10, -, r12, -⟩, -, r26, r27, r28, r29, r30, -⟩ := id hR
  have nP : ¬ Pmo 113 := by unfold Pmo; omega
  have nY : ∀ x, 125 ≤ x → x ≤ 129 → ¬ Pmo x := fun x g1 g2 g => by unfold Pmo at g; omega
  have n20 := hY.2.1
  apply en_X11_runs
  simp (disch := omega) only [B_X11_runs_0, en_ops, en_opc, iI_add, iI_mul, iI_sub, jL_add, jL_mul, iI_le, iI_lt, iI_eq, iI_eq0, iI_lt0, iI_0le, iI_le0, iI_0lt, jL_iI, iI_jL, lc_eq, lc_lt, lc_le, lc_ge, lc_gt, Nat.sub_zero, Nat.zero_le, true_and, and_true, Nat.reduceAdd, Nat.reduceLeDiff]
  suffices L9 : ∀ i : Nat, i ≤ n → ∀ (h9 : en_I) (x5 : Value), Fr Pmo hi h9 → (∀ j, 630 ≤ j → j ≠ 833 → h9 115 j = hi 115 j) → rsH (yrP E Y i q) h9 → hOK E (yrP E Y i q) → en_V G Y_X11_runs (d + 7) wN wN K 8 [.ref 110, .int (iI l), .int (iI y), .int (iI ((yrP E Y i q).2.2.2.2.2 - q.2.2.2.2.2)), .int (iI (40 * (y : Int) + i)), x5] [] h9 hl hr xc xs by
    have := L9 0 (by omega) hi jk Fr.rf (fun _ _ _ => rfl) hq hO
    rw [show (yrP E Y 0 q).2.2.2.2.2 - q.2.2.2.2.2 = 0 from Int.sub_self _, show 40 * (y : Int) + (0 : Nat) = 40 * (y : Int) by omega] at this
    exact this
  refine lp n (fun h9 x5 F9 R9 Q9 O9 => ?_) (fun i hi9 ih h9 x5 F9 R9 Q9 O9 => ?_)
  · have Y9 := hY.fr F9 nY
    apply s_X11_runs_8
    simp (disch := omega) only [B_X11_runs_8, r26, sh110, lt110, sh125, lt125, en_ops, en_opc, iI_add, iI_mul, iI_sub, jL_add, jL_mul, iI_le, iI_lt, iI_eq, iI_eq0, iI_lt0, iI_0le, iI_le0, iI_0lt, jL_iI, iI_jL, lc_eq, lc_lt, lc_le, lc_ge, lc_gt, Nat.sub_zero, Nat.zero_le, true_and, and_true, Nat.reduceAdd, Nat.reduceLeDiff]
    refine ⟨y, rfl, by omega, ?_⟩
    rw [Y9.1]
    simp (disch := omega) only [en_ops, en_opc, iI_add, iI_mul, iI_sub, jL_add, jL_mul, iI_le, iI_lt, iI_eq, iI_eq0, iI_lt0, iI_0le, iI_le0, iI_0lt, jL_iI, iI_jL, lc_eq, lc_lt, lc_le, lc_ge, lc_gt, Nat.sub_zero, Nat.zero_le, true_and, and_true, Nat.reduceAdd, Nat.reduceLeDiff]
    exact ⟨fun _ => H h9 F9 Q9 O9 R9, fun e => by omega⟩
  · have Y9 := hY.fr F9 nY
    obtain ⟨u1, u2, u3, u4, u5, u6, u7⟩ := Y9.2.2 i hi9
    apply s_X11_runs_8
    simp (disch := omega) only [B_X11_runs_8, r26, sh110, lt110, sh125, lt125, en_ops, en_opc, iI_add, iI_mul, iI_sub, jL_add, jL_mul, iI_le, iI_lt, iI_eq, iI_eq0, iI_lt0, iI_0le, iI_le0, iI_0lt, jL_iI, iI_jL, lc_eq, lc_lt, lc_le, lc_ge, lc_gt, Nat.sub_zero, Nat.zero_le, true_and, and_true, Nat.reduceAdd, Nat.reduceLeDiff]
    refine ⟨y, rfl, by omega, ?_⟩
    rw [Y9.1]
    simp (disch := omega) only [en_ops, en_opc, iI_add, iI_mul, iI_sub, jL_add, jL_mul, iI_le, iI_lt, iI_eq, iI_eq0, iI_lt0, iI_0le, iI_le0, iI_0lt, jL_iI, iI_jL, lc_eq, lc_lt, lc_le, lc_ge, lc_gt, Nat.sub_zero, Nat.zero_le, true_and, and_true, Nat.reduceAdd, Nat.reduceLeDiff]
    refine ⟨fun e => by omega, fun _ => ?_⟩
    suffices L8 : ∀ t : Nat, t ≤ (Y i).2 → ∀ h7, Fr Pmo hi h7 → (∀ j, 630 ≤ j → j ≠ 833 → h7 115 j = hi 115 j) → rsH (rpP E (Y i).1 t (yrP E Y i q)) h7 → hOK E (rpP E (Y i).1 t (yrP E Y i q)) → en_V G Y_X11_runs (d + 7) wN wN K 27 [.ref 110, .int (iI l), .int (iI y), .int (iI ((rpP E (Y i).1 t (yrP E Y i q)).2.2.2.2.2 - q.2.2.2.2.2)), .int (iI (40 * (y : Int) + i)), .int (iI t)] [] h7 hl hr xc xs by
      exact L8 0 (by omega) h9 F9 R9 Q9 O9
    have en : (40 * (y : Int) + i + 1) = 40 * (y : Int) + ((i + 1 : Nat) : Int) := by omega
    refine lp (Y i).2 (fun h7 F7 R7 Q7 O7 => ?_) (fun t ht ih7 h7 F7 R7 Q7 O7 => ?_)
    · have Y7 := hY.fr F7 nY
      have u7' := (Y7.2.2 i hi9).2.2.2.1
      apply s_X11_runs_27
      simp (disch := omega) only [B_X11_runs_27, r30, sh110, lt110, sh129, lt129, en_ops, en_opc, iI_add, iI_mul, iI_sub, jL_add, jL_mul, iI_le, iI_lt, iI_eq, iI_eq0, iI_lt0, iI_0le, iI_le0, iI_0lt, jL_iI, iI_jL, lc_eq, lc_lt, lc_le, lc_ge, lc_gt, Nat.sub_zero, Nat.zero_le, true_and, and_true, Nat.reduceAdd, Nat.reduceLeDiff]
      refine ⟨40 * y + i, iI_eq_of (by omega), by omega, ?_⟩
      rw [u7']
      simp (disch := omega) only [en_ops, en_opc, iI_add, iI_mul, iI_sub, jL_add, jL_mul, iI_le, iI_lt, iI_eq, iI_eq0, iI_lt0, iI_0le, iI_le0, iI_0lt, jL_iI, iI_jL, lc_eq, lc_lt, lc_le, lc_ge, lc_gt, Nat.sub_zero, Nat.zero_le, true_and, and_true, Nat.reduceAdd, Nat.reduceLeDiff]
      refine ⟨fun _ => ?_, fun e => absurd (Int.le_refl _) e⟩
      rw [en]
      exact ih h7 _ F7 R7 Q7 O7
    · have Y7 := hY.fr F7 nY
      obtain ⟨z1, z2, z3, z4, -⟩ := Y7.2.2 i hi9
      have e11 := Q7.2.2.2.2.2.1
      obtain ⟨-, -, -, o4, o5⟩ := id O7
      apply s_X11_runs_27
      simp (disch := omega) only [B_X11_runs_27, r12, r27, r28, r29, r30, sh110, lt110, sh115, lt115, sh126, lt126, sh127, lt127, sh128, lt128, sh129, lt129, en_ops, en_opc, iI_add, iI_mul, iI_sub, jL_add, jL_mul, iI_le, iI_lt, iI_eq, iI_eq0, iI_lt0, iI_0le, iI_le0, iI_0lt, jL_iI, iI_jL, lc_eq, lc_lt, lc_le, lc_ge, lc_gt, Nat.sub_zero, Nat.zero_le, true_and, and_true, Nat.reduceAdd, Nat.reduceLeDiff]
      refine ⟨40 * y + i, iI_eq_of (by omega), by omega, ?_⟩
      rw [z4]
      simp (disch := omega) only [en_ops, en_opc, iI_add, iI_mul, iI_sub, jL_add, jL_mul, iI_le, iI_lt, iI_eq, iI_eq0, iI_lt0, iI_0le, iI_le0, iI_0lt, jL_iI, iI_jL, lc_eq, lc_lt, lc_le, lc_ge, lc_gt, Nat.sub_zero, Nat.zero_le, true_and, and_true, Nat.reduceAdd, Nat.reduceLeDiff]
      refine ⟨fun e => by omega, fun _ => ⟨624, rfl, by decide, ?_⟩⟩
      rw [e11]
      simp (disch := omega) only [en_ops, en_opc, iI_add, iI_mul, iI_sub, jL_add, jL_mul, iI_le, iI_lt, iI_eq, iI_eq0, iI_lt0, iI_0le, iI_le0, iI_0lt, jL_iI, iI_jL, lc_eq, lc_lt, lc_le, lc_ge, lc_gt, Nat.sub_zero, Nat.zero_le, true_and, and_true, Nat.reduceAdd, Nat.reduceLeDiff]
      refine ⟨fun e => ?_, fun e => ⟨40 * y + i, iI_eq_of (by omega), by omega, 40 * y + i, iI_eq_of (by omega), by omega, 40 * y + i, iI_eq_of (by omega), by omega, ?_⟩⟩
      · have st := rpP_stop (E := E) (w := (Y i).1) (k := t) (q := yrP E Y i q) (by omega) (Y i).2 (by omega)
        have hy9 : yrP E Y (i + 1) q = rpP E (Y i).1 t (yrP E Y i q) := st
        rw [hy9] at ih
        rw [en]
        exact ih h7 _ F7 R7 Q7 O7
      · rw [z1, z2, z3]
        have st : rpP E (Y i).1 (t + 1) (yrP E Y i q) = hrP E (Y i).1 (rpP E (Y i).1 t (yrP E Y i q)) := if_pos (by omega)
        rw [st] at ih7
        refine m_hour (d := d) (b := b) hR hE (hb.fr F7 nP) hbE (hV.mono (rwE.frm rwE.rf F7 Pmo.n)) Q7 O7 (by omega) u5 (fun h6 F6 Q6 O6 R6 => ?_)
        simp (disch := omega) only [en_ops, en_opc, iI_add, iI_mul, iI_sub, jL_add, jL_mul, iI_le, iI_lt, iI_eq, iI_eq0, iI_lt0, iI_0le, iI_le0, iI_0lt, jL_iI, iI_jL, lc_eq, lc_lt, lc_le, lc_ge, lc_gt, Nat.sub_zero, Nat.zero_le, true_and, and_true, Nat.reduceAdd, Nat.reduceLeDiff]
        have i9 := ih7 h6 (F7.tr F6) (fun j j1 j2 => by rw [R6 j j1 j2]; exact R7 j j1 j2) Q6 O6
        have eh : (hrP E (Y i).1 (rpP E (Y i).1 t (yrP E Y i q))).2.2.2.2.2 - q.2.2.2.2.2 = (rpP E (Y i).1 t (yrP E Y i q)).2.2.2.2.2 - q.2.2.2.2.2 + 1 := by
          show (rpP E (Y i).1 t (yrP E Y i q)).2.2.2.2.2 + 1 - q.2.2.2.2.2 = _
          omega
        rw [eh] at i9
        exact i9
end
