/-! the reference's clauses, one by one -/
def bqE (G : en_G) (X : tTx) (r : tZ × bSt) (h9 : en_I) (hl : en_L) (hr : en_F) (K : en_K) (V : en_I → Prop) : Prop :=
  (∀ q, r.1 = .inr q → ∀ h', bqH r.2 h' → rtX X (.inr q) h' → Fx Pbq h9 h' → V h') ∧
  ∀ e, r.1 = .inl e → ∀ h', rtF e.1 e.2 h' → Fx Pbq h9 h' → K (.inl (some (.int (iI ((e.1 : Int) - 10))))) (en_up h' 110 8 (iI (e.2 : Int))) hl hr
section
variable {G : en_G} {d : Nat} {K : en_K} {X : tTx} {z : tZ} {B : bSt} {i q p0 : Nat} {hi : en_I} {hl : en_L} {hr : en_F} {xc xs : Nat}
theorem v_q140 {n9 : Int32} (hR : rfR hr) : ∀ (f i : Nat) (z : tZ) (B : bSt) (h9 : en_I) (tc ts : Nat) (x5 x6 : Value), i + f = 62 → i ≤ 61 → (i = 61 → ∃ e, z = .inl e) → rtS X h9 → rtX X z h9 → (∀ q, z = .inr q → bOK i B ∧ bqH B h9 ∧ tc = bTc B ∧ ts = bTs B) →
    bqE G X (blF X f i z B) h9 hl hr K (fun h' => ∀ (x2 x3 : Value) (x4 : Int32) (x6 : Value), en_V G Y_X11_beach (d + 8) wN wN K 408 [.ref 110, .int n9, x2, x3, .int x4, .int (iI 0), x6] [] h' hl hr xc xs) →
    en_V G Y_X11_beach (d + 8) wN wN K 140 [.ref 110, .int n9, .int (iI (i : Int)), .int (iI (tc : Int)), .int (iI (ts : Int)), x5, x6] [] h9 hl hr xc xs := by
  have r11 := hR.1.2.2.2.1
  intro f
  induction f with
  | zero => intro i z B h9 tc ts x5 x6 h1 h2; omega
  | succ f ih =>
    intro i z B h9 tc ts x5 x6 h1 h2 h3 hX hz hB hK
    rcases z with e | q
    · have st : blF X (f + 1) i (.inl e) B = (.inl e, B) := rfl
      rw [st] at hK
      apply s_X11_beach_140
      simp (disch := omega) only [B_X11_beach_140, sh110, lt110, en_ops, en_opc, iI_add, iI_mul, iI_sub, jL_add, jL_mul, iI_le, iI_lt, iI_eq, iI_eq0, iI_lt0, iI_0le, iI_le0, iI_0lt, jL_iI, iI_jL, lc_eq, lc_lt, lc_le, lc_ge, lc_gt, Nat.sub_zero, Nat.zero_le, true_and, and_true, Nat.reduceAdd, Nat.reduceLeDiff]
      refine m_fine0 (d := d + 6) hz ?_
      simp (disch := omega) only [sh110, lt110, en_ops, en_opc, iI_add, iI_mul, iI_sub, jL_add, jL_mul, iI_le, iI_lt, iI_eq, iI_eq0, iI_lt0, iI_0le, iI_le0, iI_0lt, jL_iI, iI_jL, lc_eq, lc_lt, lc_le, lc_ge, lc_gt, Nat.sub_zero, Nat.zero_le, true_and, and_true, Nat.reduceAdd, Nat.reduceLeDiff]
      refine ⟨fun _ => ?_, fun g => (g (by first | trivial | rfl)).elim⟩
      refine m_fine0 (d := d + 6) hz ?_
      simp (disch := omega) only [sh110, lt110, en_ops, en_opc, iI_add, iI_mul, iI_sub, jL_add, jL_mul, iI_le, iI_lt, iI_eq, iI_eq0, iI_lt0, iI_0le, iI_le0, iI_0lt, jL_iI, iI_jL, lc_eq, lc_lt, lc_le, lc_ge, lc_gt, Nat.sub_zero, Nat.zero_le, true_and, and_true, Nat.reduceAdd, Nat.reduceLeDiff]
      refine ⟨fun g => (g (by first | trivial | rfl)).elim, fun _ => ?_⟩
      refine m_result0 (d := d + 5) hz ?_
      simp (disch := omega) only [en_ops, en_opc, iI_add, iI_mul, iI_sub, jL_add, jL_mul, iI_le, iI_lt, iI_eq, iI_eq0, iI_lt0, iI_0le, iI_le0, iI_0lt, jL_iI, iI_jL, lc_eq, lc_lt, lc_le, lc_ge, lc_gt, Nat.sub_zero, Nat.zero_le, true_and, and_true, Nat.reduceAdd, Nat.reduceLeDiff]
      exact hK.2 e rfl h9 hz Fx.rf
    have i61 : i ≠ 61 := fun g => by obtain ⟨e, he⟩ := h3 g; cases he
    have st : blF X (f + 1) i (.inr q) B = if X.2 ≤ q then (.inr q, B) else blF X f (i + 1) (bCl X i B q) (bNx X i B q) := rfl
    rw [st] at hK
    obtain ⟨oB, oP, rfl, rfl⟩ := hB q rfl
    have tc1 := oB.2.2.1
    have ts1 := oB.2.2.2.1
    have wl := wd_lt X q
    apply s_X11_beach_140
    simp (disch := omega) only [B_X11_beach_140, sh110, lt110, en_ops, en_opc, iI_add, iI_mul, iI_sub, jL_add, jL_mul, iI_le, iI_lt, iI_eq, iI_eq0, iI_lt0, iI_0le, iI_le0, iI_0lt, jL_iI, iI_jL, lc_eq, lc_lt, lc_le, lc_ge, lc_gt, Nat.sub_zero, Nat.zero_le, true_and, and_true, Nat.reduceAdd, Nat.reduceLeDiff]
    refine m_fine1 (d := d + 6) hz.1 ?_
    simp (disch := omega) only [sh110, lt110, en_ops, en_opc, iI_add, iI_mul, iI_sub, jL_add, jL_mul, iI_le, iI_lt, iI_eq, iI_eq0, iI_lt0, iI_0le, iI_le0, iI_0lt, jL_iI, iI_jL, lc_eq, lc_lt, lc_le, lc_ge, lc_gt, Nat.sub_zero, Nat.zero_le, true_and, and_true, Nat.reduceAdd, Nat.reduceLeDiff]
    refine ⟨fun g => absurd g (by decide), fun _ => ?_⟩
    refine m_isMore (d := d + 5) hR hX hz (fun g1 b F1 X1 Q1 hb => ?_)
    simp (disch := omega) only [sh110, lt110, en_ops, en_opc, iI_add, iI_mul, iI_sub, jL_add, jL_mul, iI_le, iI_lt, iI_eq, iI_eq0, iI_lt0, iI_0le, iI_le0, iI_0lt, jL_iI, iI_jL, lc_eq, lc_lt, lc_le, lc_ge, lc_gt, Nat.sub_zero, Nat.zero_le, true_and, and_true, Nat.reduceAdd, Nat.reduceLeDiff]
    rcases hb with ⟨rfl, hq⟩ | ⟨rfl, hq⟩
    rotate_left
    · rw [if_pos (by omega)] at hK
      refine ⟨fun _ => ?_, fun g => (g (by first | trivial | rfl)).elim⟩
      refine m_fine1 (d := d + 6) Q1.1 ?_
      simp (disch := omega) only [en_ops, en_opc, iI_add, iI_mul, iI_sub, jL_add, jL_mul, iI_le, iI_lt, iI_eq, iI_eq0, iI_lt0, iI_0le, iI_le0, iI_0lt, jL_iI, iI_jL, lc_eq, lc_lt, lc_le, lc_ge, lc_gt, Nat.sub_zero, Nat.zero_le, true_and, and_true, Nat.reduceAdd, Nat.reduceLeDiff]
      refine ⟨fun _ => ?_, fun g => absurd g (by decide)⟩
      exact hK.1 q rfl g1 (oP.fx F1 (fun j w => by have := w.1; omega) (fun j w => by have := w.1; omega)) Q1.A F1.p4.bq _ _ _ _
    rw [if_neg (by omega)] at hK
    refine ⟨fun g => absurd g (by decide), fun _ => ?_⟩
    refine m_word (d := d + 5) X1 hR Q1.A (fun g2 F2 X2 Q2 => ?_)
    have F12 : Fx Prd h9 g2 := F1.p4.tr F2.p4
    have P2 : bqH B g2 := oP.fx F12 (fun j w => by have := w.1; omega) (fun j w => by have := w.1; omega)
    have q4 := Q2.2.2.2
    -- a fault at the word
    have bad : ∀ (k : Nat) (h' : en_I) (x6 : Value), 1 ≤ k → bFt i B (bK (wdE X q)) = k → rtF k q h' → Fx Prd h9 h' → en_V G Y_X11_beach (d + 8) wN wN K 318 [.ref 110, .int n9, .int (iI (i : Int)), .int (iI (bTc B : Int)), .int (iI (bTs B : Int)), .int (iI (wdE X q : Int)), x6] [] h' hl hr xc xs := by
      intro k h' x6 k1 ft W F'
      apply s_X11_beach_318
      simp (disch := omega) only [B_X11_beach_318, sh110, lt110, en_ops, en_opc, iI_add, iI_mul, iI_sub, jL_add, jL_mul, iI_le, iI_lt, iI_eq, iI_eq0, iI_lt0, iI_0le, iI_le0, iI_0lt, jL_iI, iI_jL, lc_eq, lc_lt, lc_le, lc_ge, lc_gt, Nat.sub_zero, Nat.zero_le, true_and, and_true, Nat.reduceAdd, Nat.reduceLeDiff]
      refine m_fine0 (d := d + 6) W ?_
      simp (disch := omega) only [sh110, lt110, en_ops, en_opc, iI_add, iI_mul, iI_sub, jL_add, jL_mul, iI_le, iI_lt, iI_eq, iI_eq0, iI_lt0, iI_0le, iI_le0, iI_0lt, jL_iI, iI_jL, lc_eq, lc_lt, lc_le, lc_ge, lc_gt, Nat.sub_zero, Nat.zero_le, true_and, and_true, Nat.reduceAdd, Nat.reduceLeDiff]
      refine ⟨fun g => (g (by first | trivial | rfl)).elim, fun _ => ?_⟩
      refine m_fine0 (d := d + 6) W ?_
      simp (disch := omega) only [sh110, lt110, en_ops, en_opc, iI_add, iI_mul, iI_sub, jL_add, jL_mul, iI_le, iI_lt, iI_eq, iI_eq0, iI_lt0, iI_0le, iI_le0, iI_0lt, jL_iI, iI_jL, lc_eq, lc_lt, lc_le, lc_ge, lc_gt, Nat.sub_zero, Nat.zero_le, true_and, and_true, Nat.reduceAdd, Nat.reduceLeDiff]
      refine ⟨fun g => (g (by first | trivial | rfl)).elim, fun _ => ?_⟩
      refine m_result0 (d := d + 5) W ?_
      simp (disch := omega) only [en_ops, en_opc, iI_add, iI_mul, iI_sub, jL_add, jL_mul, iI_le, iI_lt, iI_eq, iI_eq0, iI_lt0, iI_0le, iI_le0, iI_0lt, jL_iI, iI_jL, lc_eq, lc_lt, lc_le, lc_ge, lc_gt, Nat.sub_zero, Nat.zero_le, true_and, and_true, Nat.reduceAdd, Nat.reduceLeDiff]
      have e1 : bZ1 X i B q = .inl (k, q) := by unfold bZ1; rw [ft, if_neg (by omega)]
      have e2 : bCl X i B q = .inl (k, q) := by unfold bCl; rw [e1, ba_inl]; rfl
      rw [e2] at hK
      have st2 : blF X f (i + 1) (.inl (k, q)) (bNx X i B q) = (.inl (k, q), bNx X i B q) := by cases f <;> rfl
      rw [st2] at hK
      exact hK.2 (k, q) rfl h' W F'.bq
    -- the word passed
    have good : ∀ x6 : Value, bFt i B (bK (wdE X q)) = 0 → en_V G Y_X11_beach (d + 8) wN wN K 318 [.ref 110, .int n9, .int (iI (i : Int)), .int (iI (bTc B : Int)), .int (iI (bTs B : Int)), .int (iI (wdE X q : Int)), x6] [] g2 hl hr xc xs := by
      intro x6 ft
      have k7 := (bF_0 ft oB).1
      have w0 : wdE X q ≠ 0 := fun g => k7 (by rw [g]; rfl)
      have e1 : bZ1 X i B q = .inr (nxE X q) := by unfold bZ1; rw [ft, if_pos rfl]
      apply s_X11_beach_318
      simp (disch := omega) only [B_X11_beach_318, sh110, lt110, en_ops, en_opc, iI_add, iI_mul, iI_sub, jL_add, jL_mul, iI_le, iI_lt, iI_eq, iI_eq0, iI_lt0, iI_0le, iI_le0, iI_0lt, jL_iI, iI_jL, lc_eq, lc_lt, lc_le, lc_ge, lc_gt, Nat.sub_zero, Nat.zero_le, true_and, and_true, Nat.reduceAdd, Nat.reduceLeDiff]
      refine m_fine1 (d := d + 6) Q2.1 ?_
      simp (disch := omega) only [sh110, lt110, en_ops, en_opc, iI_add, iI_mul, iI_sub, jL_add, jL_mul, iI_le, iI_lt, iI_eq, iI_eq0, iI_lt0, iI_0le, iI_le0, iI_0lt, jL_iI, iI_jL, lc_eq, lc_lt, lc_le, lc_ge, lc_gt, Nat.sub_zero, Nat.zero_le, true_and, and_true, Nat.reduceAdd, Nat.reduceLeDiff]
      refine ⟨fun _ => ?_, fun g => absurd g (by decide)⟩
      refine m_passW (d := d + 5) X2 hR Q2 w0 (fun g3 F3 X3 A3 => ?_)
      have F13 : Fx Prd h9 g3 := F12.tr F3.p4
      have P3 : bqH B g3 := oP.fx F13 (fun j w => by have := w.1; omega) (fun j w => by have := w.1; omega)
      have nf : (bK (wdE X q) = 0 → bTc B = 0) ∧ (bK (wdE X q) = 1 → bTs B = 0) := by
        unfold bFt at ft
        rw [if_neg k7] at ft
        by_cases g : i = 60 ∨ (bK (wdE X q) = 5 ∧ bSn B = 8) ∨ (bK (wdE X q) = 6 ∧ bLn B = 4)
        · rw [if_pos g] at ft; omega
        rw [if_neg g] at ft
        by_cases g2 : (bK (wdE X q) = 0 ∧ bTc B = 1) ∨ (bK (wdE X q) = 1 ∧ bTs B = 1) ∨ (bK (wdE X q) ≤ 1 ∧ bTc B + bTs B < i)
        · rw [if_pos g2] at ft; omega
        · omega
      have uT : bTc (bNx X i B q) = (if bK (wdE X q) = 0 then 1 else bTc B) ∧ bTs (bNx X i B q) = (if bK (wdE X q) = 1 then 1 else bTs B) := by
        unfold bNx bUp
        by_cases k0 : bK (wdE X q) = 0
        · rw [if_pos k0, if_pos k0, if_neg (by omega)]; exact ⟨rfl, rfl⟩
        by_cases k1 : bK (wdE X q) = 1
        · rw [if_neg k0, if_pos k1, if_neg k0, if_pos k1]; exact ⟨rfl, rfl⟩
        rw [if_neg k0, if_neg k1, if_neg k0, if_neg k1]
        (repeat' split) <;> exact ⟨rfl, rfl⟩
      -- the clause itself
      have L : ∀ x6 : Value, en_Call G (d + 7) 0 0 Y_X11_readClause wN wN [.ref 110, .int (iI (wdE X q : Int))] g3 hl hr (en_kk (o_aload 0 (o_bipush 59 (o_inv G (d + 7) 0 0 Y_X11_sign 1 11 wN wN (o_iinc 2 1 (kv G Y_X11_beach (d + 7 + 1) wN wN K 140)) x_no))) x_no [.ref 110, .int n9, .int (iI (i : Int)), .int (iI ((if bK (wdE X q) = 0 then 1 else bTc B : Nat) : Int)), .int (iI ((if bK (wdE X q) = 1 then 1 else bTs B : Nat) : Int)), .int (iI (wdE X q : Int)), x6] [] xc xs) := by
        intro x6
        refine n_clause (d := d + 1) (i := i) hR X3 A3 P3 oB ft (fun g4 F4 X4 H4 R4 => ?_)
        simp (disch := omega) only [sh110, lt110, en_ops, en_opc, iI_add, iI_mul, iI_sub, jL_add, jL_mul, iI_le, iI_lt, iI_eq, iI_eq0, iI_lt0, iI_0le, iI_le0, iI_0lt, jL_iI, iI_jL, lc_eq, lc_lt, lc_le, lc_ge, lc_gt, Nat.sub_zero, Nat.zero_le, true_and, and_true, Nat.reduceAdd, Nat.reduceLeDiff]
        refine m_sign (d := d + 5) (c := 59) ⟨by decide, by decide⟩ (by decide) hR X4 H4 (fun g5 F5 X5 H5 => ?_)
        simp (disch := omega) only [en_ops, en_opc, iI_add, iI_mul, iI_sub, jL_add, jL_mul, iI_le, iI_lt, iI_eq, iI_eq0, iI_lt0, iI_0le, iI_le0, iI_0lt, jL_iI, iI_jL, lc_eq, lc_lt, lc_le, lc_ge, lc_gt, Nat.sub_zero, Nat.zero_le, true_and, and_true, Nat.reduceAdd, Nat.reduceLeDiff]
        have FA : Fx Pbq h9 g5 := (F13.bq.tr F4).tr F5.bq
        have eC : bCl X i B q = zSg X 59 (bA4 X B (bK (wdE X q)) (.inr (nxE X q))) := by unfold bCl; rw [e1]
        rw [← eC] at H5
        refine ih (i + 1) (bCl X i B q) (bNx X i B q) g5 _ _ _ _ (by omega) (by omega) (fun g => ?_) X5 H5 (fun q1 hq1 => ?_) ⟨fun q1 hq1 h' R' Z' F' => hK.1 q1 hq1 h' R' Z' (FA.tr F'), fun e he h' W' F' => hK.2 e he h' W' (FA.tr F')⟩
        · rcases hz9 : bCl X i B q with e | q1
          · exact ⟨e, rfl⟩
          · exact absurd (show i = 60 by omega) (bn_ok oB hz9).2.1
        · have ok := bn_ok oB hq1
          rw [eC] at hq1
          obtain ⟨p4, e4, -⟩ := zSg_i hq1
          have R5 := R4 p4 e4
          have eN : bNx X i B q = bUp B (bK (wdE X q)) (zVa X (.inr (nxE X q))) (zVa X (bA1 X B (bK (wdE X q)) (.inr (nxE X q)))) (zVa X (bA2 X B (bK (wdE X q)) (.inr (nxE X q)))) (zVa X (bA3 X B (bK (wdE X q)) (.inr (nxE X q)))) := by unfold bNx; rw [e1]
          rw [← eN] at R5
          exact ⟨ok.1, R5.fx F5 (fun j w => by have := w.1; omega) (fun j w => by have := w.1; omega), uT.1.symm, uT.2.symm⟩
      -- the second flag
      have L351 : ∀ (x3 x6 : Value), en_V G Y_X11_beach (d + 8) wN wN K 351 [.ref 110, .int n9, .int (iI (i : Int)), x3, .int (iI (bTs B : Int)), .int (iI (wdE X q : Int)), x6] [.int (iI ((if bK (wdE X q) = 0 then 1 else bTc B : Nat) : Int))] g3 hl hr xc xs := by
        intro x3 x6
        have L6 := L x6
        apply s_X11_beach_351
        simp (disch := omega) only [B_X11_beach_351, sh110, lt110, en_ops, en_opc, iI_add, iI_mul, iI_sub, jL_add, jL_mul, iI_le, iI_lt, iI_eq, iI_eq0, iI_lt0, iI_0le, iI_le0, iI_0lt, jL_iI, iI_jL, lc_eq, lc_lt, lc_le, lc_ge, lc_gt, Nat.sub_zero, Nat.zero_le, true_and, and_true, Nat.reduceAdd, Nat.reduceLeDiff]
        refine ⟨fun g => ?_, fun g => ?_⟩
        · have t1 : bTs B = 1 := by omega
          have n1 : bK (wdE X q) ≠ 1 := fun w => by have := nf.2 w; omega
          rw [if_neg n1, t1] at L6
          exact L6
        · have t0 : bTs B = 0 := by omega
          refine m_of (d := d + 2) (j := 33) iw33 ?_
          rw [pk33]
          simp (disch := omega) only [sh110, lt110, en_ops, en_opc, iI_add, iI_mul, iI_sub, jL_add, jL_mul, iI_le, iI_lt, iI_eq, iI_eq0, iI_lt0, iI_0le, iI_le0, iI_0lt, jL_iI, iI_jL, lc_eq, lc_lt, lc_le, lc_ge, lc_gt, Nat.sub_zero, Nat.zero_le, true_and, and_true, Nat.reduceAdd, Nat.reduceLeDiff]
          by_cases k1 : bK (wdE X q) = 1
          · have w := bK_1.mp k1
            rw [if_pos k1] at L6
            exact ⟨fun g => absurd (show (wdE X q : Int) = _ by omega) g, fun _ => L6⟩
          · have w : wdE X q ≠ 20244659 := fun w => k1 (bK_1.mpr w)
            rw [if_neg k1, t0] at L6
            exact ⟨fun _ => L6, fun g => absurd (show (wdE X q : Int) = _ from g) (by omega)⟩
      simp (disch := omega) only [en_ops, en_opc, iI_add, iI_mul, iI_sub, jL_add, jL_mul, iI_le, iI_lt, iI_eq, iI_eq0, iI_lt0, iI_0le, iI_le0, iI_0lt, jL_iI, iI_jL, lc_eq, lc_lt, lc_le, lc_ge, lc_gt, Nat.sub_zero, Nat.zero_le, true_and, and_true, Nat.reduceAdd, Nat.reduceLeDiff]
      refine ⟨fun g => ?_, fun g => ?_⟩
      · have t1 : bTc B = 1 := by omega
        have n0 : bK (wdE X q) ≠ 0 := fun w => by have := nf.1 w; omega
        have L7 := L351 (.int (iI (bTc B : Int))) x6
        rw [if_neg n0, t1] at L7
        rw [t1]
        exact L7
      · have t0 : bTc B = 0 := by omega
        refine m_of (d := d + 2) (j := 32) iw32 ?_
        rw [pk32]
        simp (disch := omega) only [en_ops, en_opc, iI_add, iI_mul, iI_sub, jL_add, jL_mul, iI_le, iI_lt, iI_eq, iI_eq0, iI_lt0, iI_0le, iI_le0, iI_0lt, jL_iI, iI_jL, lc_eq, lc_lt, lc_le, lc_ge, lc_gt, Nat.sub_zero, Nat.zero_le, true_and, and_true, Nat.reduceAdd, Nat.reduceLeDiff]
        have L7 := L351 (.int (iI (bTc B : Int))) x6
        by_cases k0 : bK (wdE X q) = 0
        · have w := bK_0.mp k0
          rw [if_pos k0] at L7
          exact ⟨fun g => absurd (show (wdE X q : Int) = _ by omega) g, fun _ => L7⟩
        · have w : wdE X q ≠ 3322259 := fun w => k0 (bK_0.mpr w)
          rw [if_neg k0] at L7
          refine ⟨fun _ => ?_, fun g => absurd (show (wdE X q : Int) = _ from g) (by omega)⟩
          rw [t0] at L7 ⊢
          exact L7
    -- what is wrong, asked in order
    have fk : bFt i B (bK (wdE X q)) = if bK (wdE X q) = 7 then 1 else if i = 60 ∨ (bK (wdE X q) = 5 ∧ bSn B = 8) ∨ (bK (wdE X q) = 6 ∧ bLn B = 4) then 3 else if (bK (wdE X q) = 0 ∧ bTc B = 1) ∨ (bK (wdE X q) = 1 ∧ bTs B = 1) ∨ (bK (wdE X q) ≤ 1 ∧ bTc B + bTs B < i) then 4 else 0 := rfl
    have wr : ∀ (k : Nat) (x6 : Value), 1 ≤ k ∧ k ≤ 4 → bFt i B (bK (wdE X q)) = k → en_Call G (d + 7) 0 0 Y_X11_wrong wN wN [.ref 110, .int (iI (k : Int)), .int (iI (q : Int))] g2 hl hr (en_kk (kv G Y_X11_beach (d + 7 + 1) wN wN K 318) x_no [.ref 110, .int n9, .int (iI (i : Int)), .int (iI (bTc B : Int)), .int (iI (bTs B : Int)), .int (iI (wdE X q : Int)), x6] [] xc xs) := by
      intro k x6 hk ft
      refine m_wrong1 (d := d + 6) (k := k) (pl := q) Q2.1 ⟨hk.1, hk.2, by have := Q2.2.1; have := X2.1; omega⟩ (fun g3 F3 W3 => ?_)
      simp (disch := omega) only [en_ops, en_opc, iI_add, iI_mul, iI_sub, jL_add, jL_mul, iI_le, iI_lt, iI_eq, iI_eq0, iI_lt0, iI_0le, iI_le0, iI_0lt, jL_iI, iI_jL, lc_eq, lc_lt, lc_le, lc_ge, lc_gt, Nat.sub_zero, Nat.zero_le, true_and, and_true, Nat.reduceAdd, Nat.reduceLeDiff]
      exact bad k g3 x6 hk.1 ft W3 (F12.tr F3)
    have e42 : g2 114 2 = iI (bSn B : Int) := P2.2.2.2.2.2.1.1
    have e43 : g2 114 3 = iI (bLn B : Int) := P2.2.2.2.2.2.2.1.1
    have sn8 := oB.2.2.2.2.2.2.2.2.2.1.1
    have ln4 := oB.2.2.2.2.2.2.2.2.2.2.1
    have L289 : bK (wdE X q) ≠ 7 → ¬ (i = 60 ∨ (bK (wdE X q) = 5 ∧ bSn B = 8) ∨ (bK (wdE X q) = 6 ∧ bLn B = 4)) → ¬ (bK (wdE X q) = 0 ∧ (bTc B = 1 ∨ bTc B + bTs B < i)) → en_V G Y_X11_beach (d + 8) wN wN K 289 [.ref 110, .int n9, .int (iI (i : Int)), .int (iI (bTc B : Int)), .int (iI (bTs B : Int)), .int (iI (wdE X q : Int)), .int (iI (if bTc B + bTs B < i then 1 else 0))] [] g2 hl hr xc xs := by
      intro k7 nf n0
      rw [if_neg k7, if_neg nf] at fk
      have gd := good (.int (iI (if bTc B + bTs B < i then 1 else 0)))
      have wr4 := wr 4 (.int (iI (if bTc B + bTs B < i then 1 else 0))) (by decide)
      apply s_X11_beach_289
      simp (disch := omega) only [B_X11_beach_289, sh110, lt110, en_ops, en_opc, iI_add, iI_mul, iI_sub, jL_add, jL_mul, iI_le, iI_lt, iI_eq, iI_eq0, iI_lt0, iI_0le, iI_le0, iI_0lt, jL_iI, iI_jL, lc_eq, lc_lt, lc_le, lc_ge, lc_gt, Nat.sub_zero, Nat.zero_le, true_and, and_true, Nat.reduceAdd, Nat.reduceLeDiff]
      refine m_of (d := d + 2) (j := 33) iw33 ?_
      rw [pk33]
      simp (disch := omega) only [sh110, lt110, q4, en_ops, en_opc, iI_add, iI_mul, iI_sub, jL_add, jL_mul, iI_le, iI_lt, iI_eq, iI_eq0, iI_lt0, iI_0le, iI_le0, iI_0lt, jL_iI, iI_jL, lc_eq, lc_lt, lc_le, lc_ge, lc_gt, Nat.sub_zero, Nat.zero_le, true_and, and_true, Nat.reduceAdd, Nat.reduceLeDiff]
      by_cases k1 : bK (wdE X q) = 1
      · have w := bK_1.mp k1
        refine ⟨fun g => absurd (show (wdE X q : Int) = _ by omega) g, fun _ => ⟨fun g => ?_, fun g => ?_⟩⟩
        · exact wr4 (by rw [fk, if_pos (by omega)])
        · by_cases l : bTc B + bTs B < i
          · rw [if_pos l] at wr4 ⊢
            exact ⟨fun g => absurd g (by decide), fun _ => wr4 (by rw [fk, if_pos (by omega)])⟩
          · rw [if_neg l] at gd ⊢
            exact ⟨fun _ => gd (by rw [fk, if_neg (by omega)]), fun g => (g (by first | trivial | rfl)).elim⟩
      · have w : wdE X q ≠ 20244659 := fun w => k1 (bK_1.mpr w)
        exact ⟨fun _ => gd (by rw [fk, if_neg (by omega)]), fun g => absurd (show (wdE X q : Int) = _ from g) (by omega)⟩
    have L270 : bK (wdE X q) ≠ 7 → ¬ (i = 60 ∨ (bK (wdE X q) = 5 ∧ bSn B = 8) ∨ (bK (wdE X q) = 6 ∧ bLn B = 4)) → en_V G Y_X11_beach (d + 8) wN wN K 270 [.ref 110, .int n9, .int (iI (i : Int)), .int (iI (bTc B : Int)), .int (iI (bTs B : Int)), .int (iI (wdE X q : Int)), .int (iI (if bTc B + bTs B < i then 1 else 0))] [] g2 hl hr xc xs := by
      intro k7 nf
      have fk2 := fk
      rw [if_neg k7, if_neg nf] at fk2
      have nx := L289 k7 nf
      have wr4 := wr 4 (.int (iI (if bTc B + bTs B < i then 1 else 0))) (by decide)
      apply s_X11_beach_270
      simp (disch := omega) only [B_X11_beach_270, sh110, lt110, en_ops, en_opc, iI_add, iI_mul, iI_sub, jL_add, jL_mul, iI_le, iI_lt, iI_eq, iI_eq0, iI_lt0, iI_0le, iI_le0, iI_0lt, jL_iI, iI_jL, lc_eq, lc_lt, lc_le, lc_ge, lc_gt, Nat.sub_zero, Nat.zero_le, true_and, and_true, Nat.reduceAdd, Nat.reduceLeDiff]
      refine m_of (d := d + 2) (j := 32) iw32 ?_
      rw [pk32]
      simp (disch := omega) only [sh110, lt110, q4, en_ops, en_opc, iI_add, iI_mul, iI_sub, jL_add, jL_mul, iI_le, iI_lt, iI_eq, iI_eq0, iI_lt0, iI_0le, iI_le0, iI_0lt, jL_iI, iI_jL, lc_eq, lc_lt, lc_le, lc_ge, lc_gt, Nat.sub_zero, Nat.zero_le, true_and, and_true, Nat.reduceAdd, Nat.reduceLeDiff]
      by_cases k0 : bK (wdE X q) = 0
      · have w := bK_0.mp k0
        refine ⟨fun g => absurd (show (wdE X q : Int) = _ by omega) g, fun _ => ⟨fun g => ?_, fun g => ?_⟩⟩
        · exact wr4 (by rw [fk2, if_pos (by omega)])
        · by_cases l : bTc B + bTs B < i
          · rw [if_pos l] at wr4 ⊢
            exact ⟨fun _ => wr4 (by rw [fk2, if_pos (by omega)]), fun g => absurd g (by decide)⟩
          · rw [if_neg l] at nx ⊢
            exact ⟨fun g => (g (by first | trivial | rfl)).elim, fun _ => nx (by omega)⟩
      · have w : wdE X q ≠ 3322259 := fun w => k0 (bK_0.mpr w)
        exact ⟨fun _ => nx (by omega), fun g => absurd (show (wdE X q : Int) = _ from g) (by omega)⟩
    have L238 : bK (wdE X q) ≠ 7 → ¬ (i = 60 ∨ (bK (wdE X q) = 5 ∧ bSn B = 8)) → en_V G Y_X11_beach (d + 8) wN wN K 238 [.ref 110, .int n9, .int (iI (i : Int)), .int (iI (bTc B : Int)), .int (iI (bTs B : Int)), .int (iI (wdE X q : Int)), .int (iI (if bTc B + bTs B < i then 1 else 0))] [] g2 hl hr xc xs := by
      intro k7 nf
      have fk2 := fk
      rw [if_neg k7] at fk2
      have nx := L270 k7
      have wr3 := wr 3 (.int (iI (if bTc B + bTs B < i then 1 else 0))) (by decide)
      apply s_X11_beach_238
      simp (disch := omega) only [B_X11_beach_238, sh110, lt110, en_ops, en_opc, iI_add, iI_mul, iI_sub, jL_add, jL_mul, iI_le, iI_lt, iI_eq, iI_eq0, iI_lt0, iI_0le, iI_le0, iI_0lt, jL_iI, iI_jL, lc_eq, lc_lt, lc_le, lc_ge, lc_gt, Nat.sub_zero, Nat.zero_le, true_and, and_true, Nat.reduceAdd, Nat.reduceLeDiff]
      refine m_of (d := d + 2) (j := 38) iw38 ?_
      rw [pk38]
      simp (disch := omega) only [sh110, lt110, q4, r11, sh114, lt114, en_ops, en_opc, iI_add, iI_mul, iI_sub, jL_add, jL_mul, iI_le, iI_lt, iI_eq, iI_eq0, iI_lt0, iI_0le, iI_le0, iI_0lt, jL_iI, iI_jL, lc_eq, lc_lt, lc_le, lc_ge, lc_gt, Nat.sub_zero, Nat.zero_le, true_and, and_true, Nat.reduceAdd, Nat.reduceLeDiff]
      by_cases k6 : bK (wdE X q) = 6
      · have w := bK_6.mp k6
        refine ⟨fun g => absurd (show (wdE X q : Int) = _ by omega) g, fun _ => ⟨3, rfl, by decide, ?_⟩⟩
        rw [e43]
        simp (disch := omega) only [en_ops, en_opc, iI_add, iI_mul, iI_sub, jL_add, jL_mul, iI_le, iI_lt, iI_eq, iI_eq0, iI_lt0, iI_0le, iI_le0, iI_0lt, jL_iI, iI_jL, lc_eq, lc_lt, lc_le, lc_ge, lc_gt, Nat.sub_zero, Nat.zero_le, true_and, and_true, Nat.reduceAdd, Nat.reduceLeDiff]
        exact ⟨fun g => nx (by omega), fun g => wr3 (by rw [fk2, if_pos (by omega)])⟩
      · have w : wdE X q ≠ 13093465 := fun w => k6 (bK_6.mpr w)
        exact ⟨fun _ => nx (by omega), fun g => absurd (show (wdE X q : Int) = _ from g) (by omega)⟩
    have L189 : ∀ x6 : Value, en_V G Y_X11_beach (d + 8) wN wN K 189 [.ref 110, .int n9, .int (iI (i : Int)), .int (iI (bTc B : Int)), .int (iI (bTs B : Int)), .int (iI (wdE X q : Int)), x6] [.int (iI (if bTc B + bTs B < i then 1 else 0))] g2 hl hr xc xs := by
      intro x6
      have nx := L238
      have wr3 := wr 3 (.int (iI (if bTc B + bTs B < i then 1 else 0))) (by decide)
      have wr1 := wr 1 (.int (iI (if bTc B + bTs B < i then 1 else 0))) (by decide)
      apply s_X11_beach_189
      simp (disch := omega) only [B_X11_beach_189, sh110, lt110, en_ops, en_opc, iI_add, iI_mul, iI_sub, jL_add, jL_mul, iI_le, iI_lt, iI_eq, iI_eq0, iI_lt0, iI_0le, iI_le0, iI_0lt, jL_iI, iI_jL, lc_eq, lc_lt, lc_le, lc_ge, lc_gt, Nat.sub_zero, Nat.zero_le, true_and, and_true, Nat.reduceAdd, Nat.reduceLeDiff]
      refine n_isClause (d := d + 1) (X := X) (q := q) (fun b hb => ?_)
      simp (disch := omega) only [sh110, lt110, q4, en_ops, en_opc, iI_add, iI_mul, iI_sub, jL_add, jL_mul, iI_le, iI_lt, iI_eq, iI_eq0, iI_lt0, iI_0le, iI_le0, iI_0lt, jL_iI, iI_jL, lc_eq, lc_lt, lc_le, lc_ge, lc_gt, Nat.sub_zero, Nat.zero_le, true_and, and_true, Nat.reduceAdd, Nat.reduceLeDiff]
      rcases hb with ⟨rfl, k7⟩ | ⟨rfl, k7⟩
      rotate_left
      · exact ⟨fun g => (g (by first | trivial | rfl)).elim, fun _ => wr1 (by rw [fk, if_pos k7])⟩
      rw [if_neg k7] at fk
      refine ⟨fun _ => ⟨fun g => ?_, fun g => ?_⟩, fun g => absurd g (by decide)⟩
      · exact wr3 (by rw [fk, if_pos (by omega)])
      refine m_of (d := d + 2) (j := 37) iw37 ?_
      rw [pk37]
      simp (disch := omega) only [sh110, lt110, q4, r11, sh114, lt114, en_ops, en_opc, iI_add, iI_mul, iI_sub, jL_add, jL_mul, iI_le, iI_lt, iI_eq, iI_eq0, iI_lt0, iI_0le, iI_le0, iI_0lt, jL_iI, iI_jL, lc_eq, lc_lt, lc_le, lc_ge, lc_gt, Nat.sub_zero, Nat.zero_le, true_and, and_true, Nat.reduceAdd, Nat.reduceLeDiff]
      by_cases k5 : bK (wdE X q) = 5
      · have w := bK_5.mp k5
        refine ⟨fun g => absurd (show (wdE X q : Int) = _ by omega) g, fun _ => ⟨2, rfl, by decide, ?_⟩⟩
        rw [e42]
        simp (disch := omega) only [en_ops, en_opc, iI_add, iI_mul, iI_sub, jL_add, jL_mul, iI_le, iI_lt, iI_eq, iI_eq0, iI_lt0, iI_0le, iI_le0, iI_0lt, jL_iI, iI_jL, lc_eq, lc_lt, lc_le, lc_ge, lc_gt, Nat.sub_zero, Nat.zero_le, true_and, and_true, Nat.reduceAdd, Nat.reduceLeDiff]
        exact ⟨fun g => wr3 (by rw [fk, if_pos (by omega)]), fun g => nx k7 (by omega)⟩
      · have w : wdE X q ≠ 654910919 := fun w => k5 (bK_5.mpr w)
        exact ⟨fun _ => nx k7 (by omega), fun g => absurd (show (wdE X q : Int) = _ from g) (by omega)⟩
    have L170 : ∀ x6 : Value, en_V G Y_X11_beach (d + 8) wN wN K 170 [.ref 110, .int n9, .int (iI (i : Int)), .int (iI (bTc B : Int)), .int (iI (bTs B : Int)), .int (iI (wdE X q : Int)), x6] [.int (iI (bTc B : Int)), .int (iI (i : Int))] g2 hl hr xc xs := by
      intro x6
      have nx := L189 x6
      apply s_X11_beach_170
      simp (disch := omega) only [B_X11_beach_170, en_ops, en_opc, iI_add, iI_mul, iI_sub, jL_add, jL_mul, iI_le, iI_lt, iI_eq, iI_eq0, iI_lt0, iI_0le, iI_le0, iI_0lt, jL_iI, iI_jL, lc_eq, lc_lt, lc_le, lc_ge, lc_gt, Nat.sub_zero, Nat.zero_le, true_and, and_true, Nat.reduceAdd, Nat.reduceLeDiff]
      refine ⟨fun g => ⟨fun g2 => ?_, fun g2 => ?_⟩, fun g => ⟨fun g2 => ?_, fun g2 => ?_⟩⟩
      · rw [if_neg (by omega)] at nx; exact nx
      · rw [if_pos (by omega)] at nx; exact nx
      · rw [if_neg (by omega)] at nx; exact nx
      · rw [if_pos (by omega)] at nx; exact nx
    simp (disch := omega) only [sh110, lt110, en_ops, en_opc, iI_add, iI_mul, iI_sub, jL_add, jL_mul, iI_le, iI_lt, iI_eq, iI_eq0, iI_lt0, iI_0le, iI_le0, iI_0lt, jL_iI, iI_jL, lc_eq, lc_lt, lc_le, lc_ge, lc_gt, Nat.sub_zero, Nat.zero_le, true_and, and_true, Nat.reduceAdd, Nat.reduceLeDiff]
    refine ⟨fun g => ?_, fun g => ?_⟩
    · have nx := L170 x6
      rw [show ((bTc B : Nat) : Int) = 0 by omega] at nx ⊢
      exact nx
    · have nx := L170 x6
      rw [show ((bTc B : Nat) : Int) = 1 by omega] at nx ⊢
      exact nx
end
