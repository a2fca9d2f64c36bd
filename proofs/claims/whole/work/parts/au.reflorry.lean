section
variable {G : en_G} {d : Nat} {K : en_K} {X : tTx} {z : tZ} {B : bSt} {i q : Nat} {hi : en_I} {hl : en_L} {hr : en_F} {xc xs : Nat}
theorem m_wrong5 {k : Nat} {pl : Nat} (h : hi 110 5 = iI (-1)) (hk : 1 ≤ k ∧ k ≤ 4 ∧ pl ≤ 600) (H : ∀ hi', Fx (fun a j => a = 110 ∧ (j = 5 ∨ j = 6)) hi hi' → rtF k pl hi' → K (.inl none) hi' hl hr) : en_Call G (d + 1) xc xs Y_X11_wrong wN wN [.ref 110, .int (iI (k : Int)), .int (iI (pl : Int))] hi hl hr K := by
  apply en_X11_wrong
  simp (disch := omega) only [B_X11_wrong_0, sh110, lt110, h, en_ops, en_opc, iI_add, iI_mul, iI_sub, jL_add, jL_mul, iI_le, iI_lt, iI_eq, iI_eq0, iI_lt0, iI_0le, iI_le0, iI_0lt, jL_iI, iI_jL, lc_eq, lc_lt, lc_le, lc_ge, lc_gt, Nat.sub_zero, Nat.zero_le, true_and, and_true, Nat.reduceAdd, Nat.reduceLeDiff]
  refine ⟨fun _ => H _ (Fx.up (Fx.up Fx.rf ⟨rfl, by decide⟩) ⟨rfl, by decide⟩) ⟨hk, ?_, up_at⟩, fun g => (g (by first | trivial | rfl)).elim⟩
  rw [up_ne (Or.inr (by decide)), up_at]
/-- a number, read from a place that stands: where the reading is then -/
theorem m_num4 {lo up : Int} (hb : 0 ≤ lo ∧ lo ≤ 9999 ∧ up ≤ 9999 ∧ -100 ≤ up) (hR : rfR hr) (hX : rtS X hi) (h : rtX X (.inr q) hi) (H : ∀ (hi' : en_I) (v : Int), Fx Prd hi hi' → rtS X hi' → rtX X (zNm X lo up (.inr q)) hi' → (v = 0 ∨ lo ≤ v ∧ v ≤ up) → (∀ q1, zNm X lo up (.inr q) = .inr q1 → v = (zVa X (.inr q) : Int)) → (∃ p : Nat, p ≤ X.2 ∧ hi' 110 4 = iI (p : Int)) → K (.inl (some (.int (iI v)))) hi' hl hr) : en_Call G (d + 2) xc xs Y_X11_readNumber wN wN [.ref 110, .int (iI lo), .int (iI up)] hi hl hr K := by
  obtain ⟨⟨-, r9, -⟩, -⟩ := id hR
  apply en_X11_readNumber
  simp (disch := omega) only [B_X11_readNumber_0, sh110, lt110, en_ops, en_opc, iI_add, iI_mul, iI_sub, jL_add, jL_mul, iI_le, iI_lt, iI_eq, iI_eq0, iI_lt0, iI_0le, iI_le0, iI_0lt, jL_iI, iI_jL, lc_eq, lc_lt, lc_le, lc_ge, lc_gt, Nat.sub_zero, Nat.zero_le, true_and, and_true, Nat.reduceAdd, Nat.reduceLeDiff]
  · refine m_fine1 h.1 ?_
    simp (disch := omega) only [sh110, lt110, en_ops, en_opc, iI_add, iI_mul, iI_sub, jL_add, jL_mul, iI_le, iI_lt, iI_eq, iI_eq0, iI_lt0, iI_0le, iI_le0, iI_0lt, jL_iI, iI_jL, lc_eq, lc_lt, lc_le, lc_ge, lc_gt, Nat.sub_zero, Nat.zero_le, true_and, and_true, Nat.reduceAdd, Nat.reduceLeDiff]
    refine ⟨fun _ => ?_, fun g => absurd g (by decide)⟩
    refine m_here hX hR h (fun h9 F9 X9 Q9 => ?_)
    have b := X9.1
    obtain ⟨q5, q0, qs, q4⟩ := id Q9
    simp (disch := omega) only [sh110, lt110, q4, en_ops, en_opc, iI_add, iI_mul, iI_sub, jL_add, jL_mul, iI_le, iI_lt, iI_eq, iI_eq0, iI_lt0, iI_0le, iI_le0, iI_0lt, jL_iI, iI_jL, lc_eq, lc_lt, lc_le, lc_ge, lc_gt, Nat.sub_zero, Nat.zero_le, true_and, and_true, Nat.reduceAdd, Nat.reduceLeDiff]
    have e3 := X9.2.2
    by_cases k1 : kdE X q = 1
    · obtain ⟨a1, a2, a3⟩ := kd_1 k1
      rw [if_pos a1]
      refine m_isDg (d := d) (X9.2.1 q a1).1 ?_
      rw [if_pos a2]
      simp (disch := omega) only [sh110, lt110, en_ops, en_opc, iI_add, iI_mul, iI_sub, jL_add, jL_mul, iI_le, iI_lt, iI_eq, iI_eq0, iI_lt0, iI_0le, iI_le0, iI_0lt, jL_iI, iI_jL, lc_eq, lc_lt, lc_le, lc_ge, lc_gt, Nat.sub_zero, Nat.zero_le, true_and, and_true, Nat.reduceAdd, Nat.reduceLeDiff]
      refine ⟨fun _ => ?_, fun g => absurd g (by decide)⟩
      have zn : zNm X lo up (.inr q) = if lo ≤ (nvE X q : Int) ∧ (nvE X q : Int) ≤ up then .inr (nxE X q) else .inl (2, q) := if_pos k1
      have L114 : ∀ (v : Int) (h : en_I) (x3 : Value), 0 ≤ v → v ≤ 99999 → ((nvE X q : Int) ≤ 9999 → v = nvE X q) → (9999 < (nvE X q : Int) → 9999 < v) → Fx P4 h9 h → rtS X h → h 110 4 = iI (atE X q : Int) → en_V G Y_X11_readNumber (d + 2) wN wN K 114 [.ref 110, .int (iI lo), .int (iI up), x3, .int (iI (q : Int)), .int (iI v)] [] h hl hr xc xs := by
        intro v h x3 v0 v9 w1 w2 F X' h4'
        have bad : ¬ (lo ≤ (nvE X q : Int) ∧ (nvE X q : Int) ≤ up) → en_Call G (d + 1) 0 0 Y_X11_wrong wN wN [.ref 110, .int (iI 2), .int (iI (q : Int))] h hl hr (en_kk (o_iconst 0 (o_iret K)) x_no [.ref 110, .int (iI lo), .int (iI up), x3, .int (iI (q : Int)), .int (iI v)] [] xc xs) := by
          intro g
          rw [if_neg g] at zn
          refine m_wrong5 (k := 2) (pl := q) (by rw [F 110 5 (fun g => by have := g.2; omega)]; exact q5) (by omega) (fun h8 F8 W8 => ?_)
          simp (disch := omega) only [en_ops, en_opc, iI_add, iI_mul, iI_sub, jL_add, jL_mul, iI_le, iI_lt, iI_eq, iI_eq0, iI_lt0, iI_0le, iI_le0, iI_0lt, jL_iI, iI_jL, lc_eq, lc_lt, lc_le, lc_ge, lc_gt, Nat.sub_zero, Nat.zero_le, true_and, and_true, Nat.reduceAdd, Nat.reduceLeDiff]
          exact H _ 0 ((F9.tr F).p4.tr (F8.mono (fun a j g => ⟨g.1, Or.inr g.2⟩))) (X'.fx F8 (fun j g => by have := g.1; omega) (fun g => by have := g.2; omega)) (by rw [zn]; exact W8) (Or.inl rfl) (fun q e => by rw [zn] at e; cases e) ⟨atE X q, (at_gt a1).2, by rw [F8 110 4 (by decide)]; exact h4'⟩
        have w3 : ((nvE X q : Int) ≤ 9999 ∧ v = nvE X q) ∨ (9999 < (nvE X q : Int) ∧ 9999 < v) := by
          by_cases g : (nvE X q : Int) ≤ 9999
          · exact Or.inl ⟨g, w1 g⟩
          · exact Or.inr ⟨by omega, w2 (by omega)⟩
        apply s_X11_readNumber_114
        simp (disch := omega) only [B_X11_readNumber_114, sh110, lt110, en_ops, en_opc, iI_add, iI_mul, iI_sub, jL_add, jL_mul, iI_le, iI_lt, iI_eq, iI_eq0, iI_lt0, iI_0le, iI_le0, iI_0lt, jL_iI, iI_jL, lc_eq, lc_lt, lc_le, lc_ge, lc_gt, Nat.sub_zero, Nat.zero_le, true_and, and_true, Nat.reduceAdd, Nat.reduceLeDiff]
        refine ⟨fun g => bad (by omega), fun g => ⟨fun g2 => ?_, fun g2 => bad (by omega)⟩⟩
        have ve : v = nvE X q := w1 (by omega)
        have zo := zn
        rw [if_pos ⟨by omega, by omega⟩] at zo
        exact H _ v (F9.tr F).p4 X' (by rw [zo]; exact Q9.to F h4' a1) (Or.inr ⟨by omega, by omega⟩) (fun _ _ => ve) ⟨atE X q, (at_gt a1).2, h4'⟩
      suffices L41 : ∀ (m p : Nat) (v : Int) (h : en_I) (x3 : Value), X.2 - p = m → q ≤ p → p ≤ X.2 → rnT X isDg p = atE X q → rtS X h → h 110 4 = iI (p : Int) → Fx P4 h9 h → 0 ≤ v → v ≤ 99999 → ((dgF (fun i => X.1 (q + i)) (p - q) : Int) ≤ 9999 → v = dgF (fun i => X.1 (q + i)) (p - q)) → (9999 < (dgF (fun i => X.1 (q + i)) (p - q) : Int) → 9999 < v) → en_V G Y_X11_readNumber (d + 2) wN wN K 41 [.ref 110, .int (iI lo), .int (iI up), x3, .int (iI (q : Int)), .int (iI v)] [] h hl hr xc xs from L41 _ q 0 h9 _ rfl (Nat.le_refl _) q0 a3.symm X9 q4 Fx.rf (by decide) (by decide) (fun _ => by rw [Nat.sub_self]; rfl) (fun g => absurd (show (9999 : Int) < ((0 : Nat) : Int) by rw [Nat.sub_self] at g; exact g) (by decide))
      intro m
      induction m with
      | zero =>
        intro p v h x3 hm hqp hp he X' h4' F v0 v9 w1 w2
        have e3' := X'.2.2
        have ep : atE X q = p := by rw [← he]; exact rt_e (by omega)
        have nv : nvE X q = dgF (fun i => X.1 (q + i)) (p - q) := by rw [← ep]; rfl
        apply s_X11_readNumber_41
        simp (disch := omega) only [B_X11_readNumber_41, sh110, lt110, h4', e3', en_ops, en_opc, iI_add, iI_mul, iI_sub, jL_add, jL_mul, iI_le, iI_lt, iI_eq, iI_eq0, iI_lt0, iI_0le, iI_le0, iI_0lt, jL_iI, iI_jL, lc_eq, lc_lt, lc_le, lc_ge, lc_gt, Nat.sub_zero, Nat.zero_le, true_and, and_true, Nat.reduceAdd, Nat.reduceLeDiff]
        exact ⟨fun _ => L114 v h x3 v0 v9 (by rw [nv]; exact w1) (by rw [nv]; exact w2) F X' (by rw [h4', ep]), fun g => absurd (show (X.2 : Int) ≤ p by omega) g⟩
      | succ m ih =>
        intro p v h x3 hm hqp hp he X' h4' F v0 v9 w1 w2
        have e3' := X'.2.2
        obtain ⟨b1, b2⟩ := X'.2.1 p (by omega)
        apply s_X11_readNumber_41
        simp (disch := omega) only [B_X11_readNumber_41, sh110, lt110, sh112, lt112, h4', e3', r9, en_ops, en_opc, iI_add, iI_mul, iI_sub, jL_add, jL_mul, iI_le, iI_lt, iI_eq, iI_eq0, iI_lt0, iI_0le, iI_le0, iI_0lt, jL_iI, iI_jL, lc_eq, lc_lt, lc_le, lc_ge, lc_gt, Nat.sub_zero, Nat.zero_le, true_and, and_true, Nat.reduceAdd, Nat.reduceLeDiff]
        refine ⟨fun g => by omega, fun _ => ⟨p, rfl, by omega, ?_⟩⟩
        rw [b2]
        refine m_isDg (d := d) b1 ?_
        by_cases l : isDg (X.1 p) = true
        · rw [if_pos l]
          have l2 := isDg_i.mp l
          have ds : dgF (fun i => X.1 (q + i)) (p + 1 - q) = 10 * dgF (fun i => X.1 (q + i)) (p - q) + (X.1 p - 48) := by
            rw [show p + 1 - q = (p - q) + 1 by omega, dg_s, show q + (p - q) = p by omega]
          simp (disch := omega) only [sh110, lt110, sh112, lt112, h4', e3', r9, en_ops, en_opc, iI_add, iI_mul, iI_sub, jL_add, jL_mul, iI_le, iI_lt, iI_eq, iI_eq0, iI_lt0, iI_0le, iI_le0, iI_0lt, jL_iI, iI_jL, lc_eq, lc_lt, lc_le, lc_ge, lc_gt, Nat.sub_zero, Nat.zero_le, true_and, and_true, Nat.reduceAdd, Nat.reduceLeDiff]
          refine ⟨fun g => absurd g (by decide), fun _ => ⟨fun g => ⟨p, rfl, by omega, ?_⟩, fun g => ?_⟩⟩
          · rw [b2]
            simp (disch := omega) only [sh110, lt110, h4', en_ops, en_opc, iI_add, iI_mul, iI_sub, jL_add, jL_mul, iI_le, iI_lt, iI_eq, iI_eq0, iI_lt0, iI_0le, iI_le0, iI_0lt, jL_iI, iI_jL, lc_eq, lc_lt, lc_le, lc_ge, lc_gt, Nat.sub_zero, Nat.zero_le, true_and, and_true, Nat.reduceAdd, Nat.reduceLeDiff]
            have FF : Fx P4 h (en_up h 110 4 (iI ((p : Int) + 1))) := Fx.up Fx.rf ⟨rfl, rfl⟩
            refine ih (p + 1) _ _ _ (by omega) (by omega) (by omega) (by rw [← he]; exact (rt_s (by omega) l).symm) (rt4 (p := p) X' _) up_at (F.tr FF) (by omega) (by omega) (fun g2 => ?_) (fun g2 => ?_)
            · rw [ds] at g2 ⊢; have := w1 (by omega); omega
            · rw [ds] at g2
              by_cases g3 : (dgF (fun i => X.1 (q + i)) (p - q) : Int) ≤ 9999
              · have := w1 g3; omega
              · have := w2 (by omega); omega
          · have FF : Fx P4 h (en_up h 110 4 (iI ((p : Int) + 1))) := Fx.up Fx.rf ⟨rfl, rfl⟩
            have g9 : ¬ (dgF (fun i => X.1 (q + i)) (p - q) : Int) ≤ 9999 := fun g3 => by have := w1 g3; omega
            refine ih (p + 1) _ _ _ (by omega) (by omega) (by omega) (by rw [← he]; exact (rt_s (by omega) l).symm) (rt4 (p := p) X' _) up_at (F.tr FF) (by omega) (by omega) (fun g2 => ?_) (fun g2 => by omega)
            rw [ds] at g2
            omega
        · rw [if_neg l]
          have ep : atE X q = p := by rw [← he]; exact rt_n (Bool.eq_false_iff.mpr l)
          have nv : nvE X q = dgF (fun i => X.1 (q + i)) (p - q) := by rw [← ep]; rfl
          simp (disch := omega) only [en_ops, en_opc, iI_add, iI_mul, iI_sub, jL_add, jL_mul, iI_le, iI_lt, iI_eq, iI_eq0, iI_lt0, iI_0le, iI_le0, iI_0lt, jL_iI, iI_jL, lc_eq, lc_lt, lc_le, lc_ge, lc_gt, Nat.sub_zero, Nat.zero_le, true_and, and_true, Nat.reduceAdd, Nat.reduceLeDiff]
          exact ⟨fun _ => L114 v h x3 v0 v9 (by rw [nv]; exact w1) (by rw [nv]; exact w2) F X' (by rw [h4', ep]), fun g => (g (by first | trivial | rfl)).elim⟩
    · have nd : isDg (if q < X.2 then X.1 q else 0) = false := by
        by_cases w : q < X.2
        · rw [if_pos w]; exact Bool.eq_false_iff.mpr (fun l => k1 (kd_d w l))
        · rw [if_neg w]; rfl
      have cc : (if q < X.2 then X.1 q else 0) < 256 := by
        by_cases w : q < X.2
        · rw [if_pos w]; exact (X9.2.1 q w).1
        · rw [if_neg w]; omega
      refine m_isDg (d := d) cc ?_
      rw [if_neg (show ¬ isDg (if q < X.2 then X.1 q else 0) = true by rw [nd]; decide)]
      simp (disch := omega) only [sh110, lt110, q4, en_ops, en_opc, iI_add, iI_mul, iI_sub, jL_add, jL_mul, iI_le, iI_lt, iI_eq, iI_eq0, iI_lt0, iI_0le, iI_le0, iI_0lt, jL_iI, iI_jL, lc_eq, lc_lt, lc_le, lc_ge, lc_gt, Nat.sub_zero, Nat.zero_le, true_and, and_true, Nat.reduceAdd, Nat.reduceLeDiff]
      refine ⟨fun g => (g (by first | trivial | rfl)).elim, fun _ => ?_⟩
      refine m_wrong5 (k := 1) (pl := q) q5 (by omega) (fun h8 F8 W8 => ?_)
      simp (disch := omega) only [en_ops, en_opc, iI_add, iI_mul, iI_sub, jL_add, jL_mul, iI_le, iI_lt, iI_eq, iI_eq0, iI_lt0, iI_0le, iI_le0, iI_0lt, jL_iI, iI_jL, lc_eq, lc_lt, lc_le, lc_ge, lc_gt, Nat.sub_zero, Nat.zero_le, true_and, and_true, Nat.reduceAdd, Nat.reduceLeDiff]
      have zn : zNm X lo up (.inr q) = .inl (1, q) := if_neg k1
      exact H _ 0 (F9.p4.tr (F8.mono (fun a j g => ⟨g.1, Or.inr g.2⟩))) (X9.fx F8 (fun j g => by have := g.1; omega) (fun g => by have := g.2; omega)) (by rw [zn]; exact W8) (Or.inl rfl) (fun q e => by rw [zn] at e; cases e) ⟨q, q0, by rw [F8 110 4 (by decide)]; exact q4⟩
/-- here, behind a fault -/
theorem m_hereF0 (hR : rfR hr) : ∀ (m p : Nat) (h9 : en_I), X.2 - p = m → p ≤ X.2 → rtS X h9 → h9 110 4 = iI (p : Int) →
    (∀ hi' (c : Int32), Fx P4 h9 hi' → rtS X hi' → K (.inl (some (.int c))) hi' hl hr) → B_X11_here_0 G d K [.ref 110] [] h9 hl hr xc xs := by
  obtain ⟨⟨-, r9, -⟩, -⟩ := id hR
  intro m
  induction m with
  | zero =>
    intro p h9 hm hp hX h4 H
    have l6 := hX.1
    have e3 := hX.2.2
    simp (disch := omega) only [B_X11_here_0, sh110, lt110, h4, e3, en_ops, en_opc, iI_add, iI_mul, iI_sub, jL_add, jL_mul, iI_le, iI_lt, iI_eq, iI_eq0, iI_lt0, iI_0le, iI_le0, iI_0lt, jL_iI, iI_jL, lc_eq, lc_lt, lc_le, lc_ge, lc_gt, Nat.sub_zero, Nat.zero_le, true_and, and_true, Nat.reduceAdd, Nat.reduceLeDiff]
    refine ⟨fun _ => ⟨fun _ => ?_, fun g => absurd (show (X.2 : Int) ≤ p by omega) g⟩, fun g => absurd (show (X.2 : Int) ≤ p by omega) g⟩
    exact H h9 _ Fx.rf hX
  | succ m ih =>
    intro p h9 hm hp hX h4 H
    have l6 := hX.1
    have e3 := hX.2.2
    obtain ⟨b1, b2⟩ := hX.2.1 p (by omega)
    simp (disch := omega) only [B_X11_here_0, sh110, lt110, sh112, lt112, h4, e3, r9, en_ops, en_opc, iI_add, iI_mul, iI_sub, jL_add, jL_mul, iI_le, iI_lt, iI_eq, iI_eq0, iI_lt0, iI_0le, iI_le0, iI_0lt, jL_iI, iI_jL, lc_eq, lc_lt, lc_le, lc_ge, lc_gt, Nat.sub_zero, Nat.zero_le, true_and, and_true, Nat.reduceAdd, Nat.reduceLeDiff]
    refine ⟨fun g => by omega, fun _ => ⟨p, rfl, by omega, ?_⟩⟩
    rw [b2]
    simp (disch := omega) only [sh110, lt110, sh112, lt112, h4, e3, r9, en_ops, en_opc, iI_add, iI_mul, iI_sub, jL_add, jL_mul, iI_le, iI_lt, iI_eq, iI_eq0, iI_lt0, iI_0le, iI_le0, iI_0lt, jL_iI, iI_jL, lc_eq, lc_lt, lc_le, lc_ge, lc_gt, Nat.sub_zero, Nat.zero_le, true_and, and_true, Nat.reduceAdd, Nat.reduceLeDiff]
    refine ⟨fun g => ⟨fun g2 => by omega, fun _ => ⟨p, rfl, by omega, ?_⟩⟩, fun g => ?_⟩
    · exact H h9 _ Fx.rf hX
    · apply s_X11_here_0
      have F : Fx P4 h9 (en_up h9 110 4 (iI ((p : Int) + 1))) := Fx.up Fx.rf ⟨rfl, rfl⟩
      exact ih (p + 1) _ (by omega) (by omega) (rt4 (p := p) hX _) up_at (fun hi' c F' X' => H hi' c (F.tr F') X')
theorem m_hereF {p : Nat} (hX : rtS X hi) (hR : rfR hr) (hp : p ≤ X.2) (h4 : hi 110 4 = iI (p : Int)) (H : ∀ hi' (c : Int32), Fx P4 hi hi' → rtS X hi' → K (.inl (some (.int c))) hi' hl hr) : en_Call G (d + 1) xc xs Y_X11_here wN wN [.ref 110] hi hl hr K :=
  en_X11_here (m_hereF0 hR _ p hi rfl hp hX h4 H)
theorem rtF.p4 {k pl : Nat} {hi' : en_I} (h : rtF k pl hi) (F : Fx P4 hi hi') : rtF k pl hi' := ⟨h.1, by rw [F 110 5 (fun g => by have := g.2; omega)]; exact h.2.1, by rw [F 110 6 (fun g => by have := g.2; omega)]; exact h.2.2⟩
theorem n_lorry (hR : rfR hr) (hX : rtS X hi) (h : rtX X (.inr q) hi) (hP : bqH B hi) (hB : bOK i B) (h4 : bLn B < 4) (H : bnK X B 6 (.inr q) hi hl hr K) : en_Call G (d + 4) xc xs Y_X11_readLorry wN wN [.ref 110] hi hl hr K := by
  have r11 := hR.1.2.2.2.1
  have cb := hB.1
  obtain ⟨y1, y2, y3, y4⟩ := ba_6 (X := X) (B := B) (z := .inr q)
  have e3 : hi 114 3 = iI (bLn B : Int) := hP.2.2.2.2.2.2.1.1
  have L59 : ∀ (h2 : en_I) (v1 v2 : Int) (x3 : Value), Fx Prd hi h2 → rtS X h2 → rtX X (bA2 X B 6 (.inr q)) h2 → (∀ q2, bA2 X B 6 (.inr q) = .inr q2 → v1 = (zVa X (.inr q) : Int) ∧ v2 = (zVa X (bA1 X B 6 (.inr q)) : Int)) → en_V G Y_X11_readLorry (d + 4) wN wN K 59 [.ref 110, .int (iI (36 + 4 * (bLn B : Int))), .int (iI v1), x3, .int (iI v2), jk, jk] [] h2 hl hr xc xs := by
    intro h2 v1 v2 x3 F2 X2 H2 w12
    apply s_X11_readLorry_59
    simp (disch := omega) only [B_X11_readLorry_59, sh110, lt110, en_ops, en_opc, iI_add, iI_mul, iI_sub, jL_add, jL_mul, iI_le, iI_lt, iI_eq, iI_eq0, iI_lt0, iI_0le, iI_le0, iI_0lt, jL_iI, iI_jL, lc_eq, lc_lt, lc_le, lc_ge, lc_gt, Nat.sub_zero, Nat.zero_le, true_and, and_true, Nat.reduceAdd, Nat.reduceLeDiff]
    refine m_num (d := d + 1) (lo := 1) (up := 999) (by decide) hR X2 H2 (fun h3 v3 F3 X3 H3 a3 w3 => ?_)
    simp (disch := omega) only [sh110, lt110, en_ops, en_opc, iI_add, iI_mul, iI_sub, jL_add, jL_mul, iI_le, iI_lt, iI_eq, iI_eq0, iI_lt0, iI_0le, iI_le0, iI_0lt, jL_iI, iI_jL, lc_eq, lc_lt, lc_le, lc_ge, lc_gt, Nat.sub_zero, Nat.zero_le, true_and, and_true, Nat.reduceAdd, Nat.reduceLeDiff]
    refine m_num (d := d + 1) (lo := 1) (up := 99) (by decide) hR X3 H3 (fun h4' v4 F4 X4 H4 a4 w4 => ?_)
    have F14 : Fx Prd hi h4' := (F2.tr F3).tr F4
    have P4 : bqH B h4' := hP.fx F14 (fun j w => by have := w.1; omega) (fun j w => by have := w.1; omega)
    have e34 : h4' 114 3 = iI (bLn B : Int) := P4.2.2.2.2.2.2.1.1
    simp (disch := omega) only [sh110, lt110, en_ops, en_opc, iI_add, iI_mul, iI_sub, jL_add, jL_mul, iI_le, iI_lt, iI_eq, iI_eq0, iI_lt0, iI_0le, iI_le0, iI_0lt, jL_iI, iI_jL, lc_eq, lc_lt, lc_le, lc_ge, lc_gt, Nat.sub_zero, Nat.zero_le, true_and, and_true, Nat.reduceAdd, Nat.reduceLeDiff]
    refine m_fineZ (d := d + 2) H4 (fun b hb => ?_)
    simp (disch := omega) only [sh110, lt110, r11, sh114, lt114, en_ops, en_opc, iI_add, iI_mul, iI_sub, jL_add, jL_mul, iI_le, iI_lt, iI_eq, iI_eq0, iI_lt0, iI_0le, iI_le0, iI_0lt, jL_iI, iI_jL, lc_eq, lc_lt, lc_le, lc_ge, lc_gt, Nat.sub_zero, Nat.zero_le, true_and, and_true, Nat.reduceAdd, Nat.reduceLeDiff]
    rw [← y3] at H4 hb w4
    rw [← y4] at H4 hb w4
    rcases hb with ⟨rfl, q4, e4⟩ | ⟨rfl, e4, he4⟩
    rotate_left
    · refine ⟨fun g => (g (by first | trivial | rfl)).elim, fun _ => H h4' F14.bq X4 H4 (fun q' hq' => by rw [he4] at hq'; cases hq')⟩
    refine ⟨fun _ => ?_, fun g => absurd g (by decide)⟩
    refine ⟨36 + 4 * bLn B, iI_eq_of (by omega), by omega, 36 + 4 * bLn B + 1, iI_eq_of (by omega), by omega, 36 + 4 * bLn B + 2, iI_eq_of (by omega), by omega, 36 + 4 * bLn B + 3, iI_eq_of (by omega), by omega, 3, rfl, by decide, 3, rfl, by decide, ?_⟩
    rw [show en_up (en_up (en_up (en_up h4' 114 (36 + 4 * bLn B) (iI v1)) 114 (36 + 4 * bLn B + 1) (iI v2)) 114 (36 + 4 * bLn B + 2) (iI v3)) 114 (36 + 4 * bLn B + 3) (iI v4) 114 3 = iI (bLn B : Int) by rw [up_ne (Or.inr (by omega)), up_ne (Or.inr (by omega)), up_ne (Or.inr (by omega)), up_ne (Or.inr (by omega))]; exact e34]
    simp (disch := omega) only [en_ops, en_opc, iI_add, iI_mul, iI_sub, jL_add, jL_mul, iI_le, iI_lt, iI_eq, iI_eq0, iI_lt0, iI_0le, iI_le0, iI_0lt, jL_iI, iI_jL, lc_eq, lc_lt, lc_le, lc_ge, lc_gt, Nat.sub_zero, Nat.zero_le, true_and, and_true, Nat.reduceAdd, Nat.reduceLeDiff]
    rw [show (bLn B : Int) + 1 = ((bLn B + 1 : Nat) : Int) from rfl]
    have U : Fx (fun a _ => a = 114) h4' (en_up (en_up (en_up (en_up (en_up h4' 114 (36 + 4 * bLn B) (iI v1)) 114 (36 + 4 * bLn B + 1) (iI v2)) 114 (36 + 4 * bLn B + 2) (iI v3)) 114 (36 + 4 * bLn B + 3) (iI v4)) 114 3 (iI ((bLn B + 1 : Nat) : Int))) := Fx.up (Fx.up (Fx.up (Fx.up (Fx.up Fx.rf rfl) rfl) rfl) rfl) rfl
    have wf := w_four (o := 36 + 4 * bLn B) (k := 3) (cn := bLn B) (a := v1) (b := v2) (c := v3) (e := v4) (h1 := h4') (by omega) (Or.inr rfl)
    obtain ⟨X5, H5⟩ := rtX.fw X4 H4 U (fun a j g => Or.inl g)
    have u4 := w4 _ e4
    rw [y4] at e4
    obtain ⟨p3, x3', -⟩ := zNm_i e4
    have u3 : v3 = _ := w3 _ (y3 ▸ x3')
    obtain ⟨p2, x2, -⟩ := zNm_i (show zNm X 1 999 (bA2 X B 6 (.inr q)) = _ from y3 ▸ x3')
    obtain ⟨u1, u2⟩ := w12 _ x2
    refine H _ (F14.bq.tr (U.mono (fun a j g => Or.inr (Or.inl g)))) X5 H5 (fun q' _ => ?_)
    rw [show zVa X (.inr q) = v1.toNat by omega, show zVa X (bA1 X B 6 (.inr q)) = v2.toNat by omega, show zVa X (bA2 X B 6 (.inr q)) = v3.toNat by omega, show zVa X (bA3 X B 6 (.inr q)) = v4.toNat by omega]
    obtain ⟨m1, m2, m3, m4, m5, ⟨m6, m6'⟩, ⟨m7, m7'⟩, m8⟩ := P4
    have er : ∀ j, en_up (en_up (en_up (en_up (en_up h4' 114 (36 + 4 * bLn B) (iI v1)) 114 (36 + 4 * bLn B + 1) (iI v2)) 114 (36 + 4 * bLn B + 2) (iI v3)) 114 (36 + 4 * bLn B + 3) (iI v4)) 114 3 (iI ((bLn B + 1 : Nat) : Int)) 116 j = h4' 116 j := fun j => U 116 j (show ¬ (116 : Nat) = 114 by decide)
    refine ⟨?_, ?_, fun j hj => by rw [er]; exact m3 j hj, fun c hc => by rw [er]; exact m4 c hc, fun c hc => ?_, ⟨?_, fun j hj => ?_⟩, ⟨up_at, fun j hj => ?_⟩, fun j j1 j2 => by rw [er]; exact m8 j j1 j2⟩
    · rw [wf 0, if_neg (by omega), if_neg (by omega), if_neg (by omega), if_neg (by omega), if_neg (by omega)]; exact m1
    · rw [wf 1, if_neg (by omega), if_neg (by omega), if_neg (by omega), if_neg (by omega), if_neg (by omega)]; exact m2
    · rw [wf (52 + c), if_neg (by omega), if_neg (by omega), if_neg (by omega), if_neg (by omega), if_neg (by omega)]; exact m5 c hc
    · rw [wf 2, if_neg (by omega), if_neg (by omega), if_neg (by omega), if_neg (by omega), if_neg (by omega)]; exact m6
    · replace hj : j < bSn B := hj
      have l8 := hB.2.2.2.2.2.2.2.2.2.1.1
      rw [wf, wf, wf, wf, if_neg (by omega), if_neg (by omega), if_neg (by omega), if_neg (by omega), if_neg (by omega), if_neg (by omega), if_neg (by omega), if_neg (by omega), if_neg (by omega), if_neg (by omega), if_neg (by omega), if_neg (by omega), if_neg (by omega), if_neg (by omega), if_neg (by omega), if_neg (by omega), if_neg (by omega), if_neg (by omega), if_neg (by omega), if_neg (by omega)]
      exact m6' j hj
    · replace hj : j < bLn B + 1 := hj
      generalize en_up (en_up (en_up (en_up (en_up h4' 114 (36 + 4 * bLn B) (iI v1)) 114 (36 + 4 * bLn B + 1) (iI v2)) 114 (36 + 4 * bLn B + 2) (iI v3)) 114 (36 + 4 * bLn B + 3) (iI v4)) 114 3 (iI ((bLn B + 1 : Nat) : Int)) = h9 at wf ⊢
      have hh : ∀ x : Nat × Nat × Int × Int, x = (if j = bLn B then (v1.toNat, v2.toNat, ((v3.toNat : Nat) : Int), ((v4.toNat : Nat) : Int)) else bLf B j) → h9 114 (36 + 4 * j) = iI ((x.1 : Nat) : Int) ∧ h9 114 (36 + 4 * j + 1) = iI ((x.2.1 : Nat) : Int) ∧ h9 114 (36 + 4 * j + 2) = iI x.2.2.1 ∧ h9 114 (36 + 4 * j + 3) = iI x.2.2.2 := fun x hx => by
        rw [wf, wf, wf, wf]
        by_cases ej : j = bLn B
        · rw [if_pos ej] at hx
          subst hx
          rw [ej, if_neg (by omega), if_pos rfl, if_neg (by omega), if_neg (by omega), if_pos rfl, if_neg (by omega), if_neg (by omega), if_neg (by omega), if_pos rfl, if_neg (by omega), if_neg (by omega), if_neg (by omega), if_neg (by omega), if_pos rfl]
          exact ⟨iI_eq_of (by show v1 = ((v1.toNat : Nat) : Int); omega), iI_eq_of (by show v2 = ((v2.toNat : Nat) : Int); omega), iI_eq_of (by show v3 = ((v3.toNat : Nat) : Int); omega), iI_eq_of (by show v4 = ((v4.toNat : Nat) : Int); omega)⟩
        · rw [if_neg ej] at hx
          rw [hx, if_neg (by omega), if_neg (by omega), if_neg (by omega), if_neg (by omega), if_neg (by omega), if_neg (by omega), if_neg (by omega), if_neg (by omega), if_neg (by omega), if_neg (by omega), if_neg (by omega), if_neg (by omega), if_neg (by omega), if_neg (by omega), if_neg (by omega), if_neg (by omega), if_neg (by omega), if_neg (by omega), if_neg (by omega), if_neg (by omega)]
          exact m7' j (by omega)
      exact hh (if j = bLn B then (v1.toNat, v2.toNat, ((v3.toNat : Nat) : Int), ((v4.toNat : Nat) : Int)) else bLf B j) rfl
  apply en_X11_readLorry
  simp (disch := omega) only [B_X11_readLorry_0, sh110, lt110, r11, sh114, lt114, en_ops, en_opc, iI_add, iI_mul, iI_sub, jL_add, jL_mul, iI_le, iI_lt, iI_eq, iI_eq0, iI_lt0, iI_0le, iI_le0, iI_0lt, jL_iI, iI_jL, lc_eq, lc_lt, lc_le, lc_ge, lc_gt, Nat.sub_zero, Nat.zero_le, true_and, and_true, Nat.reduceAdd, Nat.reduceLeDiff]
  refine ⟨3, rfl, by decide, ?_⟩
  rw [e3]
  simp (disch := omega) only [sh110, lt110, en_ops, en_opc, iI_add, iI_mul, iI_sub, jL_add, jL_mul, iI_le, iI_lt, iI_eq, iI_eq0, iI_lt0, iI_0le, iI_le0, iI_0lt, jL_iI, iI_jL, lc_eq, lc_lt, lc_le, lc_ge, lc_gt, Nat.sub_zero, Nat.zero_le, true_and, and_true, Nat.reduceAdd, Nat.reduceLeDiff]
  apply en_X11_readCell
  simp (disch := omega) only [B_X11_readCell_0, sh110, lt110, r11, sh114, lt114, en_ops, en_opc, iI_add, iI_mul, iI_sub, jL_add, jL_mul, iI_le, iI_lt, iI_eq, iI_eq0, iI_lt0, iI_0le, iI_le0, iI_0lt, jL_iI, iI_jL, lc_eq, lc_lt, lc_le, lc_ge, lc_gt, Nat.sub_zero, Nat.zero_le, true_and, and_true, Nat.reduceAdd, Nat.reduceLeDiff]
  refine ⟨0, rfl, by decide, ?_⟩
  rw [hP.1]
  simp (disch := omega) only [sh110, lt110, en_ops, en_opc, iI_add, iI_mul, iI_sub, jL_add, jL_mul, iI_le, iI_lt, iI_eq, iI_eq0, iI_lt0, iI_0le, iI_le0, iI_0lt, jL_iI, iI_jL, lc_eq, lc_lt, lc_le, lc_ge, lc_gt, Nat.sub_zero, Nat.zero_le, true_and, and_true, Nat.reduceAdd, Nat.reduceLeDiff]
  refine m_num4 (d := d) (lo := 0) (up := (bC B : Int) - 1) (by omega) hR hX h (fun h1 v1 F1 X1 H1 a1 w1 p1 => ?_)
  obtain ⟨pp, pp1, pp2⟩ := p1
  rw [← y1] at H1 w1
  have P1 : bqH B h1 := hP.fx F1 (fun j w => by have := w.1; omega) (fun j w => by have := w.1; omega)
  simp (disch := omega) only [sh110, lt110, en_ops, en_opc, iI_add, iI_mul, iI_sub, jL_add, jL_mul, iI_le, iI_lt, iI_eq, iI_eq0, iI_lt0, iI_0le, iI_le0, iI_0lt, jL_iI, iI_jL, lc_eq, lc_lt, lc_le, lc_ge, lc_gt, Nat.sub_zero, Nat.zero_le, true_and, and_true, Nat.reduceAdd, Nat.reduceLeDiff]
  rcases hA : bA1 X B 6 (.inr q) with e | q1
  · rw [hA] at H1
    refine m_hereF (d := d + 2) X1 hR pp1 pp2 (fun h2 c F2 X2 => ?_)
    have H2 : rtX X (.inl e) h2 := rtF.p4 H1 F2
    have F12 : Fx Prd hi h2 := F1.tr F2.p4
    have P2 : bqH B h2 := P1.fx F2 (fun j w => by have := w.1; omega) (fun j w => by have := w.1; omega)
    simp (disch := omega) only [sh110, lt110, r11, sh114, lt114, en_ops, en_opc, iI_add, iI_mul, iI_sub, jL_add, jL_mul, iI_le, iI_lt, iI_eq, iI_eq0, iI_lt0, iI_0le, iI_le0, iI_0lt, jL_iI, iI_jL, lc_eq, lc_lt, lc_le, lc_ge, lc_gt, Nat.sub_zero, Nat.zero_le, true_and, and_true, Nat.reduceAdd, Nat.reduceLeDiff]
    refine ⟨0, rfl, by decide, ?_⟩
    rw [P2.1]
    have eA2 : bA2 X B 6 (.inr q) = .inl e := by
      rw [y2, hA, if_neg (fun g => absurd (show (4 : Nat) = 1 from g.1) (by decide))]
      rfl
    refine m_num (d := d + 1) (z := .inl e) (lo := 0) (up := (bC B : Int)) (by omega) hR X2 H2 (fun h3 v2 F3 X3 H3 a3 w3 => ?_)
    simp (disch := omega) only [sh110, lt110, en_ops, en_opc, iI_add, iI_mul, iI_sub, jL_add, jL_mul, iI_le, iI_lt, iI_eq, iI_eq0, iI_lt0, iI_0le, iI_le0, iI_0lt, jL_iI, iI_jL, lc_eq, lc_lt, lc_le, lc_ge, lc_gt, Nat.sub_zero, Nat.zero_le, true_and, and_true, Nat.reduceAdd, Nat.reduceLeDiff]
    refine m_fine0 (d := d + 2) H3 ?_
    simp (disch := omega) only [sh110, lt110, en_ops, en_opc, iI_add, iI_mul, iI_sub, jL_add, jL_mul, iI_le, iI_lt, iI_eq, iI_eq0, iI_lt0, iI_0le, iI_le0, iI_0lt, jL_iI, iI_jL, lc_eq, lc_lt, lc_le, lc_ge, lc_gt, Nat.sub_zero, Nat.zero_le, true_and, and_true, Nat.reduceAdd, Nat.reduceLeDiff]
    refine ⟨fun _ => ?_, fun g => (g (by first | trivial | rfl)).elim⟩
    exact L59 h3 v1 v2 _ (F12.tr F3) X3 (by rw [eA2]; exact H3) (fun q2 e2 => by rw [eA2] at e2; cases e2)
  · rw [hA] at H1
    have u1 := w1 q1 hA
    refine m_here (d := d + 2) X1 hR H1 (fun h2 F2 X2 Q2 => ?_)
    have q4 := Q2.2.2.2
    have F12 : Fx Prd hi h2 := F1.tr F2.p4
    have P2 : bqH B h2 := P1.fx F2 (fun j w => by have := w.1; omega) (fun j w => by have := w.1; omega)
    simp (disch := omega) only [sh110, lt110, r11, sh114, lt114, q4, en_ops, en_opc, iI_add, iI_mul, iI_sub, jL_add, jL_mul, iI_le, iI_lt, iI_eq, iI_eq0, iI_lt0, iI_0le, iI_le0, iI_0lt, jL_iI, iI_jL, lc_eq, lc_lt, lc_le, lc_ge, lc_gt, Nat.sub_zero, Nat.zero_le, true_and, and_true, Nat.reduceAdd, Nat.reduceLeDiff]
    refine ⟨0, rfl, by decide, ?_⟩
    rw [P2.1]
    refine m_num (d := d + 1) (z := .inr q1) (lo := 0) (up := (bC B : Int)) (by omega) hR X2 Q2.A (fun h3 v2 F3 X3 H3 a3 w3 => ?_)
    simp (disch := omega) only [sh110, lt110, en_ops, en_opc, iI_add, iI_mul, iI_sub, jL_add, jL_mul, iI_le, iI_lt, iI_eq, iI_eq0, iI_lt0, iI_0le, iI_le0, iI_0lt, jL_iI, iI_jL, lc_eq, lc_lt, lc_le, lc_ge, lc_gt, Nat.sub_zero, Nat.zero_le, true_and, and_true, Nat.reduceAdd, Nat.reduceLeDiff]
    rcases hN : zNm X 0 (bC B) (.inr q1) with e | q2
    · rw [hN] at H3
      have eA2 : bA2 X B 6 (.inr q) = .inl e := by
        rw [y2, hA, if_neg (fun g => ?_)]
        · exact hN
        · have k1 : kdE X q1 = 1 := g.1
          have k2 : nvE X q1 = zVa X (.inr q) := g.2
          have : zNm X 0 (bC B) (.inr q1) = if (0 : Int) ≤ (nvE X q1 : Int) ∧ (nvE X q1 : Int) ≤ (bC B : Int) then .inr (nxE X q1) else .inl (2, q1) := if_pos k1
          rw [this, if_pos ⟨by omega, by omega⟩] at hN
          cases hN
      refine m_fine0 (d := d + 2) H3 ?_
      simp (disch := omega) only [sh110, lt110, en_ops, en_opc, iI_add, iI_mul, iI_sub, jL_add, jL_mul, iI_le, iI_lt, iI_eq, iI_eq0, iI_lt0, iI_0le, iI_le0, iI_0lt, jL_iI, iI_jL, lc_eq, lc_lt, lc_le, lc_ge, lc_gt, Nat.sub_zero, Nat.zero_le, true_and, and_true, Nat.reduceAdd, Nat.reduceLeDiff]
      refine ⟨fun _ => ?_, fun g => (g (by first | trivial | rfl)).elim⟩
      exact L59 h3 v1 v2 _ (F12.tr F3) X3 (by rw [eA2]; exact H3) (fun q2 e2 => by rw [eA2] at e2; cases e2)
    · rw [hN] at H3
      have u2 : v2 = (nvE X q1 : Int) := w3 q2 hN
      obtain ⟨p9, x9, k9, -⟩ := zNm_i hN
      cases x9
      refine m_fine1 (d := d + 2) H3.1 ?_
      simp (disch := omega) only [sh110, lt110, en_ops, en_opc, iI_add, iI_mul, iI_sub, jL_add, jL_mul, iI_le, iI_lt, iI_eq, iI_eq0, iI_lt0, iI_0le, iI_le0, iI_0lt, jL_iI, iI_jL, lc_eq, lc_lt, lc_le, lc_ge, lc_gt, Nat.sub_zero, Nat.zero_le, true_and, and_true, Nat.reduceAdd, Nat.reduceLeDiff]
      refine ⟨fun g => absurd g (by decide), fun _ => ⟨fun g => ?_, fun g => ?_⟩⟩
      · have eA2 : bA2 X B 6 (.inr q) = .inr q2 := by
          rw [y2, hA, if_neg (fun w => g ?_)]
          · exact hN
          · have k2 : nvE X q1 = zVa X (.inr q) := w.2
            omega
        exact L59 h3 v1 v2 _ (F12.tr F3) X3 (by rw [eA2]; exact H3) (fun q2 _ => ⟨u1, by rw [hA]; exact u2⟩)
      · have eA2 : bA2 X B 6 (.inr q) = .inl (2, q1) := by
          rw [y2, hA, if_pos ⟨k9, by show nvE X q1 = zVa X (.inr q); omega⟩]
          rfl
        refine m_wrong1 (d := d + 2) (k := 2) (pl := q1) H3.1 (by have := Q2.2.1; have := X2.1; omega) (fun h4' F4 W4 => ?_)
        simp (disch := omega) only [en_ops, en_opc, iI_add, iI_mul, iI_sub, jL_add, jL_mul, iI_le, iI_lt, iI_eq, iI_eq0, iI_lt0, iI_0le, iI_le0, iI_0lt, jL_iI, iI_jL, lc_eq, lc_lt, lc_le, lc_ge, lc_gt, Nat.sub_zero, Nat.zero_le, true_and, and_true, Nat.reduceAdd, Nat.reduceLeDiff]
        exact L59 h4' v1 v2 _ ((F12.tr F3).tr F4) (X3.fx F4 (fun j g => by have := g.1; omega) (fun g => by have := g.2; omega)) (by rw [eA2]; exact W4) (fun q2 e2 => by rw [eA2] at e2; cases e2)
end
