/-! the reference's year -/
def Pyq (ny a j : Nat) : Prop := (a = 110 ∧ (j = 4 ∨ j = 5 ∨ j = 6)) ∨ ((126 ≤ a ∧ a ≤ 129) ∧ 40 * ny ≤ j ∧ j < 40 * ny + 40)
def ryI (ny m : Nat) (Y : hYr) (hi : en_I) : Prop := ∀ i, i < m → hi 126 (40 * ny + i) = iI (Y i).1.1 ∧ hi 127 (40 * ny + i) = iI (Y i).1.2.1 ∧ hi 128 (40 * ny + i) = iI (Y i).1.2.2 ∧ hi 129 (40 * ny + i) = iI (Y i).2
section
variable {G : en_G} {d : Nat} {K : en_K} {W : zW} {n ny : Nat} {X : tTx} {z : tZ} {hi : en_I} {hl : en_L} {hr : en_F} {xc xs : Nat}
theorem rtX.row {hi' : en_I} (hS : rtS X hi) (h : rtX X z hi) (F : Fx (fun a _ => 113 ≤ a) hi hi') : rtS X hi' ∧ rtX X z hi' := ⟨hS.fx F (fun j g => by omega) (fun g => by omega), h.fx F (by omega) (by omega) (by omega)⟩
theorem v_y66 {n9 : Int32} (hR : rfR hr) (hny : ny < 4) : ∀ (f i : Nat) (z : tZ) (Y : hYr) (h9 : en_I) (x3 : Value), i + f = 22 → i ≤ 21 → (i = 21 → ¬ (zKd X z ≠ 0 ∧ zKd X z ≠ 4)) → rtS X h9 → rtX X z h9 → h9 110 18 = iI (ny : Int) → (∀ q, z = .inr q → ryI ny i Y h9) →
    (∀ h' y3, rtX X (yrZ X f i z Y).1 h' → Fx (Pyq ny) h9 h' → (∀ q, (yrZ X f i z Y).1 = .inr q → ryI ny (yrZ X f i z Y).2.1 (yrZ X f i z Y).2.2 h') → ∀ m9 : Nat, ((∃ q, (yrZ X f i z Y).1 = .inr q) → m9 = (yrZ X f i z Y).2.1) → m9 ≤ 21 → en_V G Y_X11_year (d + 9) wN wN K 238 [.ref 110, .int n9, .int (iI (m9 : Int)), y3] [] h' hl hr xc xs) →
    en_V G Y_X11_year (d + 9) wN wN K 66 [.ref 110, .int n9, .int (iI (i : Int)), x3] [] h9 hl hr xc xs := by
  obtain ⟨-, -, -, r27, r28, r29, r30, -⟩ := id hR
  have s126 : en_SH 126 = (100, 200) := by decide
  have s127 : en_SH 127 = (100, 200) := by decide
  have s128 : en_SH 128 = (100, 200) := by decide
  have s129 : en_SH 129 = (100, 200) := by decide
  have l126 : 126 < 134 := by decide
  have l127 : 127 < 134 := by decide
  have l128 : 128 < 134 := by decide
  have l129 : 129 < 134 := by decide
  intro f
  induction f with
  | zero => intro i z Y h9 x3 h1 h2; omega
  | succ f ih =>
    intro i z Y h9 x3 h1 h2 h3 hX hz h18 hY hK
    have e : yrZ X (f + 1) i z Y = if zKd X z ≠ 0 ∧ zKd X z ≠ 4 then yrZ X f (i + 1) (y7Z X i z) (fun j => if j = i then ywZ X i z else Y j) else (z, i, Y) := rfl
    have stop : ∀ (h' : en_I) (y3 : Value), ¬ (zKd X z ≠ 0 ∧ zKd X z ≠ 4) → rtX X z h' → Fx (Pyq ny) h9 h' → (∀ q, z = .inr q → ryI ny i Y h') → en_V G Y_X11_year (d + 9) wN wN K 238 [.ref 110, .int n9, .int (iI (i : Int)), y3] [] h' hl hr xc xs := fun h' y3 g Hz F' R' => by
      rw [if_neg g] at e
      rw [e] at hK
      exact hK h' y3 Hz F' R' i (fun _ => rfl) h2
    rcases z with e1 | q
    · apply s_X11_year_66
      simp (disch := omega) only [B_X11_year_66, sh110, lt110, en_ops, en_opc, iI_add, iI_mul, iI_sub, jL_add, jL_mul, iI_le, iI_lt, iI_eq, iI_eq0, iI_lt0, iI_0le, iI_le0, iI_0lt, jL_iI, iI_jL, lc_eq, lc_lt, lc_le, lc_ge, lc_gt, Nat.sub_zero, Nat.zero_le, true_and, and_true, Nat.reduceAdd, Nat.reduceLeDiff]
      refine m_fine0 (d := d + 7) hz ?_
      simp (disch := omega) only [en_ops, en_opc, iI_add, iI_mul, iI_sub, jL_add, jL_mul, iI_le, iI_lt, iI_eq, iI_eq0, iI_lt0, iI_0le, iI_le0, iI_0lt, jL_iI, iI_jL, lc_eq, lc_lt, lc_le, lc_ge, lc_gt, Nat.sub_zero, Nat.zero_le, true_and, and_true, Nat.reduceAdd, Nat.reduceLeDiff]
      exact ⟨fun _ => stop h9 _ (fun g => g.2 rfl) hz Fx.rf hY, fun g => (g (by first | trivial | rfl)).elim⟩
    have yi := hY q rfl
    have wl := wd_lt X q
    have k3 := kd_le X q
    apply s_X11_year_66
    simp (disch := omega) only [B_X11_year_66, sh110, lt110, en_ops, en_opc, iI_add, iI_mul, iI_sub, jL_add, jL_mul, iI_le, iI_lt, iI_eq, iI_eq0, iI_lt0, iI_0le, iI_le0, iI_0lt, jL_iI, iI_jL, lc_eq, lc_lt, lc_le, lc_ge, lc_gt, Nat.sub_zero, Nat.zero_le, true_and, and_true, Nat.reduceAdd, Nat.reduceLeDiff]
    refine m_fine1 (d := d + 7) hz.1 ?_
    simp (disch := omega) only [sh110, lt110, en_ops, en_opc, iI_add, iI_mul, iI_sub, jL_add, jL_mul, iI_le, iI_lt, iI_eq, iI_eq0, iI_lt0, iI_0le, iI_le0, iI_0lt, jL_iI, iI_jL, lc_eq, lc_lt, lc_le, lc_ge, lc_gt, Nat.sub_zero, Nat.zero_le, true_and, and_true, Nat.reduceAdd, Nat.reduceLeDiff]
    refine ⟨fun g => absurd g (by decide), fun _ => ?_⟩
    refine m_isMore (d := d + 6) hR hX hz (fun g1 b F1 X1 Q1 hb => ?_)
    simp (disch := omega) only [sh110, lt110, en_ops, en_opc, iI_add, iI_mul, iI_sub, jL_add, jL_mul, iI_le, iI_lt, iI_eq, iI_eq0, iI_lt0, iI_0le, iI_le0, iI_0lt, jL_iI, iI_jL, lc_eq, lc_lt, lc_le, lc_ge, lc_gt, Nat.sub_zero, Nat.zero_le, true_and, and_true, Nat.reduceAdd, Nat.reduceLeDiff]
    have FP : ∀ {h1 h2 : en_I}, Fx Prd h1 h2 → Fx (Pyq ny) h1 h2 := fun F => F.mono (fun a j w => Or.inl w)
    have rfr : ∀ {h1 h2 : en_I} {m : Nat} {Y : hYr}, Fx Prd h1 h2 → ryI ny m Y h1 → ryI ny m Y h2 := fun F R j hj => by
      rw [F 126 _ (fun w => by have := w.1; omega), F 127 _ (fun w => by have := w.1; omega), F 128 _ (fun w => by have := w.1; omega), F 129 _ (fun w => by have := w.1; omega)]
      exact R j hj
    rcases hb with ⟨rfl, hq⟩ | ⟨rfl, hq⟩
    rotate_left
    · have nm : ¬ (zKd X (.inr q) ≠ 0 ∧ zKd X (.inr q) ≠ 4) := fun g => g.1 (kd_0.mpr (by omega))
      exact ⟨fun _ => stop g1 _ nm Q1.A (FP F1.p4) (fun _ _ => rfr F1.p4 yi), fun g => (g (by first | trivial | rfl)).elim⟩
    have more : zKd X (.inr q) ≠ 0 ∧ zKd X (.inr q) ≠ 4 := ⟨fun g => by have := kd_0.mp g; omega, show kdE X q ≠ 4 by omega⟩
    have i21 : i ≠ 21 := fun g => h3 g more
    rw [if_pos more] at e
    rw [e] at hK
    refine ⟨fun g => absurd g (by decide), fun _ => ?_⟩
    refine m_word (d := d + 6) X1 hR Q1.A (fun g2 F2 X2 Q2 => ?_)
    have F12 : Fx Prd h9 g2 := F1.p4.tr F2.p4
    have q4 := Q2.2.2.2
    simp (disch := omega) only [sh110, lt110, en_ops, en_opc, iI_add, iI_mul, iI_sub, jL_add, jL_mul, iI_le, iI_lt, iI_eq, iI_eq0, iI_lt0, iI_0le, iI_le0, iI_0lt, jL_iI, iI_jL, lc_eq, lc_lt, lc_le, lc_ge, lc_gt, Nat.sub_zero, Nat.zero_le, true_and, and_true, Nat.reduceAdd, Nat.reduceLeDiff]
    refine m_of (d := d + 3) (j := 56) iw56 ?_
    rw [pk56]
    simp (disch := omega) only [sh110, lt110, q4, en_ops, en_opc, iI_add, iI_mul, iI_sub, jL_add, jL_mul, iI_le, iI_lt, iI_eq, iI_eq0, iI_lt0, iI_0le, iI_le0, iI_0lt, jL_iI, iI_jL, lc_eq, lc_lt, lc_le, lc_ge, lc_gt, Nat.sub_zero, Nat.zero_le, true_and, and_true, Nat.reduceAdd, Nat.reduceLeDiff]
    -- a fault at once
    have out : ∀ (k : Nat) (h' : en_I) (y3 : Value), y7Z X i (.inr q) = .inl (k, q) → rtF k q h' → Fx (Pyq ny) h9 h' → en_V G Y_X11_year (d + 9) wN wN K 120 [.ref 110, .int n9, .int (iI (i : Int)), y3] [] h' hl hr xc xs := by
      intro k h' y3 e7 W F'
      apply s_X11_year_120
      simp (disch := omega) only [B_X11_year_120, sh110, lt110, en_ops, en_opc, iI_add, iI_mul, iI_sub, jL_add, jL_mul, iI_le, iI_lt, iI_eq, iI_eq0, iI_lt0, iI_0le, iI_le0, iI_0lt, jL_iI, iI_jL, lc_eq, lc_lt, lc_le, lc_ge, lc_gt, Nat.sub_zero, Nat.zero_le, true_and, and_true, Nat.reduceAdd, Nat.reduceLeDiff]
      refine m_fine0 (d := d + 7) W ?_
      simp (disch := omega) only [en_ops, en_opc, iI_add, iI_mul, iI_sub, jL_add, jL_mul, iI_le, iI_lt, iI_eq, iI_eq0, iI_lt0, iI_0le, iI_le0, iI_0lt, jL_iI, iI_jL, lc_eq, lc_lt, lc_le, lc_ge, lc_gt, Nat.sub_zero, Nat.zero_le, true_and, and_true, Nat.reduceAdd, Nat.reduceLeDiff]
      refine ⟨fun g => (g (by first | trivial | rfl)).elim, fun _ => ?_⟩
      have st : yrZ X f (i + 1) (y7Z X i (.inr q)) (fun j => if j = i then ywZ X i (.inr q) else Y j) = (.inl (k, q), i + 1, fun j => if j = i then ywZ X i (.inr q) else Y j) := by
        rw [e7]
        cases f with
        | zero => rfl
        | succ f => exact if_neg (fun g => g.2 rfl)
      rw [st] at hK
      exact hK h' _ W F' (fun q hq => by cases hq) i (fun g => by obtain ⟨q, hq⟩ := g; cases hq) h2
    by_cases w : wdE X q = 755397
    rotate_left
    · refine ⟨fun g => absurd (show (wdE X q : Int) = _ from g) (by omega), fun _ => ?_⟩
      refine m_wrong1 (d := d + 7) (k := 1) (pl := q) Q2.1 (by have := X1.1; omega) (fun g3 F3 W3 => ?_)
      simp (disch := omega) only [en_ops, en_opc, iI_add, iI_mul, iI_sub, jL_add, jL_mul, iI_le, iI_lt, iI_eq, iI_eq0, iI_lt0, iI_0le, iI_le0, iI_0lt, jL_iI, iI_jL, lc_eq, lc_lt, lc_le, lc_ge, lc_gt, Nat.sub_zero, Nat.zero_le, true_and, and_true, Nat.reduceAdd, Nat.reduceLeDiff]
      refine out 1 g3 _ ?_ W3 (FP (F12.tr F3))
      have e1 : y1Z X i (.inr q) = .inr q := if_neg (fun g => w g.2)
      have e2 : y2Z X i (.inr q) = .inl (1, q) := by
        unfold y2Z
        rw [e1]
        exact if_neg w
      unfold y7Z y6Z y5Z y4Z y3Z
      rw [e2]
      rfl
    refine ⟨fun _ => ?_, fun g => absurd (show (wdE X q : Int) = _ by omega) g⟩
    by_cases i20 : i = 20
    · refine ⟨fun g => absurd (show (i : Int) = 20 by omega) g, fun _ => ?_⟩
      refine m_wrong1 (d := d + 7) (k := 3) (pl := q) Q2.1 (by have := X1.1; omega) (fun g3 F3 W3 => ?_)
      simp (disch := omega) only [en_ops, en_opc, iI_add, iI_mul, iI_sub, jL_add, jL_mul, iI_le, iI_lt, iI_eq, iI_eq0, iI_lt0, iI_0le, iI_le0, iI_0lt, jL_iI, iI_jL, lc_eq, lc_lt, lc_le, lc_ge, lc_gt, Nat.sub_zero, Nat.zero_le, true_and, and_true, Nat.reduceAdd, Nat.reduceLeDiff]
      refine out 3 g3 _ ?_ W3 (FP (F12.tr F3))
      have e1 : y1Z X i (.inr q) = .inl (3, q) := if_pos ⟨i20, w⟩
      unfold y7Z y6Z y5Z y4Z y3Z y2Z
      rw [e1]
      rfl
    refine ⟨fun _ => ?_, fun g => absurd g (by omega)⟩
    have e1 : y1Z X i (.inr q) = .inr q := if_neg (fun g => i20 g.1)
    have e2 : y2Z X i (.inr q) = .inr (nxE X q) := by
      unfold y2Z
      rw [e1]
      exact if_pos w
    apply s_X11_year_120
    simp (disch := omega) only [B_X11_year_120, sh110, lt110, en_ops, en_opc, iI_add, iI_mul, iI_sub, jL_add, jL_mul, iI_le, iI_lt, iI_eq, iI_eq0, iI_lt0, iI_0le, iI_le0, iI_0lt, jL_iI, iI_jL, lc_eq, lc_lt, lc_le, lc_ge, lc_gt, Nat.sub_zero, Nat.zero_le, true_and, and_true, Nat.reduceAdd, Nat.reduceLeDiff]
    refine m_fine1 (d := d + 7) Q2.1 ?_
    simp (disch := omega) only [sh110, lt110, en_ops, en_opc, iI_add, iI_mul, iI_sub, jL_add, jL_mul, iI_le, iI_lt, iI_eq, iI_eq0, iI_lt0, iI_0le, iI_le0, iI_0lt, jL_iI, iI_jL, lc_eq, lc_lt, lc_le, lc_ge, lc_gt, Nat.sub_zero, Nat.zero_le, true_and, and_true, Nat.reduceAdd, Nat.reduceLeDiff]
    refine ⟨fun _ => ?_, fun g => absurd g (by decide)⟩
    refine m_passW (d := d + 6) X2 hR Q2 (by omega) (fun g3 F3 X3 A3 => ?_)
    have F13 : Fx Prd h9 g3 := F12.tr F3.p4
    have g18 : g3 110 18 = iI (ny : Int) := by rw [F13 110 18 (fun w => by have := w.2; omega)]; exact h18
    have Z2 : rtX X (y2Z X i (.inr q)) g3 := by rw [e2]; exact A3
    simp (disch := omega) only [sh110, lt110, g18, r27, en_ops, en_opc, iI_add, iI_mul, iI_sub, jL_add, jL_mul, iI_le, iI_lt, iI_eq, iI_eq0, iI_lt0, iI_0le, iI_le0, iI_0lt, jL_iI, iI_jL, lc_eq, lc_lt, lc_le, lc_ge, lc_gt, Nat.sub_zero, Nat.zero_le, true_and, and_true, Nat.reduceAdd, Nat.reduceLeDiff]
    have q9 : (40 : Int) * (ny : Int) + (i : Int) = ((40 * ny + i : Nat) : Int) := by omega
    -- the sign and on
    have fin : ∀ h' : en_I, rtS X h' → rtX X (y6Z X i (.inr q)) h' → Fx (Pyq ny) h9 h' → ryI ny i Y h' → (∀ p, y6Z X i (.inr q) = .inr p → h' 126 (40 * ny + i) = iI (ywZ X i (.inr q)).1.1 ∧ h' 127 (40 * ny + i) = iI (ywZ X i (.inr q)).1.2.1 ∧ h' 128 (40 * ny + i) = iI (ywZ X i (.inr q)).1.2.2 ∧ h' 129 (40 * ny + i) = iI (ywZ X i (.inr q)).2) → en_Call G (d + 8) 0 0 Y_X11_sign wN wN [.ref 110, .int (iI 59)] h' hl hr (en_kk (o_iinc 2 1 (kv G Y_X11_year (d + 8 + 1) wN wN K 66)) x_no [.ref 110, .int n9, .int (iI (i : Int)), .int (iI (40 * (ny : Int) + (i : Int)))] [] xc xs) := by
      intro h' X' Z' F' R' Rn
      refine m_sign (d := d + 6) (c := 59) ⟨by decide, by decide⟩ (by decide) hR X' Z' (fun h8 F8 X8 Z8 => ?_)
      simp (disch := omega) only [en_ops, en_opc, iI_add, iI_mul, iI_sub, jL_add, jL_mul, iI_le, iI_lt, iI_eq, iI_eq0, iI_lt0, iI_0le, iI_le0, iI_0lt, jL_iI, iI_jL, lc_eq, lc_lt, lc_le, lc_ge, lc_gt, Nat.sub_zero, Nat.zero_le, true_and, and_true, Nat.reduceAdd, Nat.reduceLeDiff]
      have F9 : Fx (Pyq ny) h9 h8 := F'.tr (FP F8)
      refine ih (i + 1) (y7Z X i (.inr q)) _ h8 _ (by omega) (by omega) (fun g => ?_) X8 Z8 (by rw [F9 110 18 (fun w => by unfold Pyq at w; omega)]; exact h18) (fun q1 hq1 => ?_) (fun h7 y3 H7 F7 R7 => hK h7 y3 H7 (F9.tr F7) R7)
      · exact absurd (show i = 20 by omega) i20
      · obtain ⟨p, hp⟩ := y7_i hq1
        obtain ⟨c1, c2, c3, c4⟩ := Rn p hp
        intro j hj
        rw [F8 126 _ (fun w => by have := w.1; omega), F8 127 _ (fun w => by have := w.1; omega), F8 128 _ (fun w => by have := w.1; omega), F8 129 _ (fun w => by have := w.1; omega)]
        show _ = iI (if j = i then ywZ X i (.inr q) else Y j).1.1 ∧ _ = iI (if j = i then ywZ X i (.inr q) else Y j).1.2.1 ∧ _ = iI (if j = i then ywZ X i (.inr q) else Y j).1.2.2 ∧ _ = iI ((if j = i then ywZ X i (.inr q) else Y j).2 : Int)
        by_cases ej : j = i
        · rw [if_pos ej, ej]
          exact ⟨c1, c2, c3, c4⟩
        · rw [if_neg ej]
          exact R' j (by omega)
    refine m_num (d := d + 6) (lo := 1) (up := 30) (by decide) hR X3 Z2 (fun k1 v1 G1 S1 H1 a1 b1 => ?_)
    simp (disch := omega) only [sh110, lt110, s126, l126, r28, en_ops, en_opc, iI_add, iI_mul, iI_sub, jL_add, jL_mul, iI_le, iI_lt, iI_eq, iI_eq0, iI_lt0, iI_0le, iI_le0, iI_0lt, jL_iI, iI_jL, lc_eq, lc_lt, lc_le, lc_ge, lc_gt, Nat.sub_zero, Nat.zero_le, true_and, and_true, Nat.reduceAdd, Nat.reduceLeDiff]
    refine ⟨40 * ny + i, iI_eq_of (by omega), by omega, ?_⟩
    have U1 : Fx (fun a _ => 113 ≤ a) k1 (en_up k1 126 (40 * ny + i) (iI v1)) := Fx.up Fx.rf (by decide)
    obtain ⟨S1', H1'⟩ := rtX.row S1 H1 U1
    refine m_num (d := d + 6) (lo := 1) (up := 20) (by decide) hR S1' H1' (fun k2 v2 G2 S2 H2 a2 b2 => ?_)
    simp (disch := omega) only [sh110, lt110, s127, l127, r29, en_ops, en_opc, iI_add, iI_mul, iI_sub, jL_add, jL_mul, iI_le, iI_lt, iI_eq, iI_eq0, iI_lt0, iI_0le, iI_le0, iI_0lt, jL_iI, iI_jL, lc_eq, lc_lt, lc_le, lc_ge, lc_gt, Nat.sub_zero, Nat.zero_le, true_and, and_true, Nat.reduceAdd, Nat.reduceLeDiff]
    refine ⟨40 * ny + i, iI_eq_of (by omega), by omega, ?_⟩
    have U2 : Fx (fun a _ => 113 ≤ a) k2 (en_up k2 127 (40 * ny + i) (iI v2)) := Fx.up Fx.rf (by decide)
    obtain ⟨S2', H2'⟩ := rtX.row S2 H2 U2
    refine m_num (d := d + 6) (lo := 0) (up := 1) (by decide) hR S2' H2' (fun k3' v3 G3 S3 H3 a3 b3 => ?_)
    simp (disch := omega) only [sh110, lt110, s128, l128, s129, l129, r30, en_ops, en_opc, iI_add, iI_mul, iI_sub, jL_add, jL_mul, iI_le, iI_lt, iI_eq, iI_eq0, iI_lt0, iI_0le, iI_le0, iI_0lt, jL_iI, iI_jL, lc_eq, lc_lt, lc_le, lc_ge, lc_gt, Nat.sub_zero, Nat.zero_le, true_and, and_true, Nat.reduceAdd, Nat.reduceLeDiff]
    refine ⟨40 * ny + i, iI_eq_of (by omega), by omega, 40 * ny + i, iI_eq_of (by omega), by omega, ?_⟩
    have U3 : Fx (fun a _ => 113 ≤ a) k3' (en_up (en_up k3' 128 (40 * ny + i) (iI v3)) 129 (40 * ny + i) (iI 1)) := Fx.up (Fx.up Fx.rf (by decide)) (by decide)
    obtain ⟨S3', H3'⟩ := rtX.row S3 H3 U3
    have p129 : ∀ {a j : Nat}, 113 ≤ a → ¬ Prd a j := fun g w => by have := w.1; omega
    have FQ1 : Fx (Pyq ny) k1 (en_up k1 126 (40 * ny + i) (iI v1)) := Fx.up Fx.rf (Or.inr ⟨by decide, by omega, by omega⟩)
    have FQ2 : Fx (Pyq ny) k2 (en_up k2 127 (40 * ny + i) (iI v2)) := Fx.up Fx.rf (Or.inr ⟨by decide, by omega, by omega⟩)
    have FQ3 : Fx (Pyq ny) k3' (en_up (en_up k3' 128 (40 * ny + i) (iI v3)) 129 (40 * ny + i) (iI 1)) := Fx.up (Fx.up Fx.rf (Or.inr ⟨by decide, by omega, by omega⟩)) (Or.inr ⟨by decide, by omega, by omega⟩)
    have FA : Fx (Pyq ny) h9 (en_up (en_up k3' 128 (40 * ny + i) (iI v3)) 129 (40 * ny + i) (iI 1)) := (((((FP F13).tr (FP G1)).tr FQ1).tr (FP G2)).tr FQ2).tr ((FP G3).tr FQ3)
    have RA : ryI ny i Y (en_up (en_up k3' 128 (40 * ny + i) (iI v3)) 129 (40 * ny + i) (iI 1)) := by
      intro j hj
      have nj : 40 * ny + j ≠ 40 * ny + i := by omega
      have fr : ∀ a, 126 ≤ a → a ≤ 129 → en_up (en_up k3' 128 (40 * ny + i) (iI v3)) 129 (40 * ny + i) (iI 1) a (40 * ny + j) = h9 a (40 * ny + j) := fun a g1 g2 => by
        rw [up_ne (Or.inr nj), up_ne (Or.inr nj), G3 a _ (p129 (by omega)), up_ne (Or.inr nj), G2 a _ (p129 (by omega)), up_ne (Or.inr nj), G1 a _ (p129 (by omega)), F13 a _ (p129 (by omega))]
      rw [fr 126 (by decide) (by decide), fr 127 (by decide) (by decide), fr 128 (by decide) (by decide), fr 129 (by decide) (by decide)]
      exact yi j hj
    have V1 : ∀ p, y3Z X i (.inr q) = .inr p → en_up (en_up k3' 128 (40 * ny + i) (iI v3)) 129 (40 * ny + i) (iI 1) 126 (40 * ny + i) = iI (zVa X (y2Z X i (.inr q)) : Int) := fun p hp => by
      rw [up_ne (Or.inl (by decide)), up_ne (Or.inl (by decide)), G3 126 _ (p129 (by decide)), up_ne (Or.inl (by decide)), G2 126 _ (p129 (by decide)), up_at, b1 p hp]
    have V2 : ∀ p, y4Z X i (.inr q) = .inr p → en_up (en_up k3' 128 (40 * ny + i) (iI v3)) 129 (40 * ny + i) (iI 1) 127 (40 * ny + i) = iI (zVa X (y3Z X i (.inr q)) : Int) := fun p hp => by
      rw [up_ne (Or.inl (by decide)), up_ne (Or.inl (by decide)), G3 127 _ (p129 (by decide)), up_at, b2 p hp]; rfl
    have V3 : ∀ p, y5Z X i (.inr q) = .inr p → en_up (en_up k3' 128 (40 * ny + i) (iI v3)) 129 (40 * ny + i) (iI 1) 128 (40 * ny + i) = iI (zVa X (y4Z X i (.inr q)) : Int) := fun p hp => by
      rw [up_ne (Or.inl (by decide)), up_at, b3 p hp]; rfl
    have V4 : en_up (en_up k3' 128 (40 * ny + i) (iI v3)) 129 (40 * ny + i) (iI 1) 129 (40 * ny + i) = iI 1 := up_at
    generalize en_up (en_up k3' 128 (40 * ny + i) (iI v3)) 129 (40 * ny + i) (iI 1) = k4 at *
    have H5 : rtX X (y5Z X i (.inr q)) k4 := H3'
    have chain : ∀ p, y5Z X i (.inr q) = .inr p → (∃ p4, y4Z X i (.inr q) = .inr p4) ∧ ∃ p3, y3Z X i (.inr q) = .inr p3 := fun p hp => by
      obtain ⟨p4, e4, -⟩ := zNm_i (show zNm X 0 1 (y4Z X i (.inr q)) = _ from hp)
      obtain ⟨p3, e3, -⟩ := zNm_i (show zNm X 1 20 (y3Z X i (.inr q)) = _ from e4)
      exact ⟨⟨p4, e4⟩, p3, e3⟩
    rcases h5 : y5Z X i (.inr q) with e5 | p5
    · rw [h5] at H5
      refine m_fine0 (d := d + 7) H5 ?_
      simp (disch := omega) only [sh110, lt110, en_ops, en_opc, iI_add, iI_mul, iI_sub, jL_add, jL_mul, iI_le, iI_lt, iI_eq, iI_eq0, iI_lt0, iI_0le, iI_le0, iI_0lt, jL_iI, iI_jL, lc_eq, lc_lt, lc_le, lc_ge, lc_gt, Nat.sub_zero, Nat.zero_le, true_and, and_true, Nat.reduceAdd, Nat.reduceLeDiff]
      refine ⟨fun _ => ?_, fun g => (g (by first | trivial | rfl)).elim⟩
      have e6 : y6Z X i (.inr q) = .inl e5 := by
        unfold y6Z
        rw [h5]
        exact if_neg (show ¬ (0 : Nat) = 21279923 by decide)
      exact fin k4 S3' (by rw [e6]; exact H5) FA RA (fun p hp => by rw [e6] at hp; cases hp)
    · rw [h5] at H5
      obtain ⟨⟨p4, c4⟩, p3, c3⟩ := chain p5 h5
      refine m_fine1 (d := d + 7) H5.1 ?_
      simp (disch := omega) only [sh110, lt110, en_ops, en_opc, iI_add, iI_mul, iI_sub, jL_add, jL_mul, iI_le, iI_lt, iI_eq, iI_eq0, iI_lt0, iI_0le, iI_le0, iI_0lt, jL_iI, iI_jL, lc_eq, lc_lt, lc_le, lc_ge, lc_gt, Nat.sub_zero, Nat.zero_le, true_and, and_true, Nat.reduceAdd, Nat.reduceLeDiff]
      refine ⟨fun g => absurd g (by decide), fun _ => ?_⟩
      refine m_word (d := d + 6) S3' hR H5 (fun k5 G5 S5 Q5 => ?_)
      have wl5 := wd_lt X p5
      simp (disch := omega) only [sh110, lt110, en_ops, en_opc, iI_add, iI_mul, iI_sub, jL_add, jL_mul, iI_le, iI_lt, iI_eq, iI_eq0, iI_lt0, iI_0le, iI_le0, iI_0lt, jL_iI, iI_jL, lc_eq, lc_lt, lc_le, lc_ge, lc_gt, Nat.sub_zero, Nat.zero_le, true_and, and_true, Nat.reduceAdd, Nat.reduceLeDiff]
      refine m_of (d := d + 3) (j := 57) iw57 ?_
      rw [pk57]
      simp (disch := omega) only [sh110, lt110, en_ops, en_opc, iI_add, iI_mul, iI_sub, jL_add, jL_mul, iI_le, iI_lt, iI_eq, iI_eq0, iI_lt0, iI_0le, iI_le0, iI_0lt, jL_iI, iI_jL, lc_eq, lc_lt, lc_le, lc_ge, lc_gt, Nat.sub_zero, Nat.zero_le, true_and, and_true, Nat.reduceAdd, Nat.reduceLeDiff]
      have FB : Fx (Pyq ny) h9 k5 := FA.tr (FP G5.p4)
      have RB : ryI ny i Y k5 := rfr G5.p4 RA
      have k5r : ∀ a, 113 ≤ a → ∀ j, k5 a j = k4 a j := fun a g j => G5 a j (fun w => by have := w.1; omega)
      by_cases t : wdE X p5 = 21279923
      · refine ⟨fun g => absurd (show (wdE X p5 : Int) = _ by omega) g, fun _ => ?_⟩
        have e6 : y6Z X i (.inr q) = zNm X 1 9 (zSt X (y5Z X i (.inr q))) := by
          unfold y6Z
          rw [h5]
          exact if_pos t
        refine m_passW (d := d + 6) S5 hR Q5 (by omega) (fun k6 G6 S6 A6 => ?_)
        simp (disch := omega) only [sh110, lt110, r30, en_ops, en_opc, iI_add, iI_mul, iI_sub, jL_add, jL_mul, iI_le, iI_lt, iI_eq, iI_eq0, iI_lt0, iI_0le, iI_le0, iI_0lt, jL_iI, iI_jL, lc_eq, lc_lt, lc_le, lc_ge, lc_gt, Nat.sub_zero, Nat.zero_le, true_and, and_true, Nat.reduceAdd, Nat.reduceLeDiff]
        refine m_num (d := d + 6) (z := .inr (nxE X p5)) (lo := 1) (up := 9) (by decide) hR S6 A6 (fun k7 v7 G7 S7 H7 a7 b7 => ?_)
        simp (disch := omega) only [sh110, lt110, s129, l129, en_ops, en_opc, iI_add, iI_mul, iI_sub, jL_add, jL_mul, iI_le, iI_lt, iI_eq, iI_eq0, iI_lt0, iI_0le, iI_le0, iI_0lt, jL_iI, iI_jL, lc_eq, lc_lt, lc_le, lc_ge, lc_gt, Nat.sub_zero, Nat.zero_le, true_and, and_true, Nat.reduceAdd, Nat.reduceLeDiff]
        refine ⟨40 * ny + i, iI_eq_of (by omega), by omega, ?_⟩
        have U7 : Fx (fun a _ => 113 ≤ a) k7 (en_up k7 129 (40 * ny + i) (iI v7)) := Fx.up Fx.rf (by decide)
        obtain ⟨S7', H7'⟩ := rtX.row S7 H7 U7
        have e6' : y6Z X i (.inr q) = zNm X 1 9 (.inr (nxE X p5)) := by rw [e6, h5]; rfl
        have FQ7 : Fx (Pyq ny) k7 (en_up k7 129 (40 * ny + i) (iI v7)) := Fx.up Fx.rf (Or.inr ⟨by decide, by omega, by omega⟩)
        have k7r : ∀ a, 113 ≤ a → ∀ j, k7 a j = k4 a j := fun a g j => by rw [G7 a j (p129 g), G6 a j (fun w => by have := w.1; omega), k5r a g j]
        refine fin _ S7' (by rw [e6']; exact H7') (((FB.tr (FP G6.p4)).tr (FP G7)).tr FQ7) (fun j hj => ?_) (fun p hp => ?_)
        · have nj : 40 * ny + j ≠ 40 * ny + i := by omega
          rw [up_ne (Or.inr nj), up_ne (Or.inr nj), up_ne (Or.inr nj), up_ne (Or.inr nj), k7r 126 (by decide), k7r 127 (by decide), k7r 128 (by decide), k7r 129 (by decide)]
          exact RA j hj
        · rw [e6'] at hp
          rw [up_ne (Or.inl (by decide)), up_ne (Or.inl (by decide)), up_ne (Or.inl (by decide)), up_at, k7r 126 (by decide), k7r 127 (by decide), k7r 128 (by decide), V1 _ c3, V2 _ c4, V3 _ h5, b7 p hp]
          refine ⟨rfl, rfl, rfl, ?_⟩
          show _ = iI ((if zWo X (y5Z X i (.inr q)) = 21279923 then zVa X (zSt X (y5Z X i (.inr q))) else 1 : Nat) : Int)
          rw [h5, if_pos (show zWo X (.inr p5) = 21279923 from t)]
          rfl
      · refine ⟨fun _ => ?_, fun g => absurd g (by omega)⟩
        have e6 : y6Z X i (.inr q) = .inr p5 := by
          unfold y6Z
          rw [h5]
          exact if_neg t
        refine fin k5 S5 (by rw [e6]; exact Q5.A) FB RB (fun p hp => ?_)
        rw [k5r 126 (by decide), k5r 127 (by decide), k5r 128 (by decide), k5r 129 (by decide), V1 _ c3, V2 _ c4, V3 _ h5, V4]
        refine ⟨rfl, rfl, rfl, ?_⟩
        show _ = iI ((if zWo X (y5Z X i (.inr q)) = 21279923 then zVa X (zSt X (y5Z X i (.inr q))) else 1 : Nat) : Int)
        rw [h5, if_neg (show ¬ zWo X (.inr p5) = 21279923 from t)]
        rfl
theorem m_cyear {m : Int} (hI : InvR G W hi hr) (hz : zOK n W) (hm : iRg m) (H : rEnd G W (yearW W m.toNat) (if 0 ≤ m ∧ m ≤ zNt W then 0 else 3) 1 (.int (iI 0)) (.int (iI (yearA W m.toNat))) K hi hl hr) : en_Call G (d + 9) xc xs Y_X11_year wN wN [.ref 110, .int (iI m)] hi hl hr K := by
  obtain ⟨I1, F1, T1⟩ := hI.t1
  obtain ⟨z1, z2, z3, -⟩ := id hz
  obtain ⟨hm1, hm2⟩ := hm
  have hR := hI.1
  obtain ⟨-, -, r26, -⟩ := id hR
  have s125 : en_SH 125 = (100, 5) := by decide
  have l125 : 125 < 134 := by decide
  apply en_X11_year
  simp (disch := omega) only [B_X11_year_0, sh110, lt110, en_ops, en_opc, iI_add, iI_mul, iI_sub, jL_add, jL_mul, iI_le, iI_lt, iI_eq, iI_eq0, iI_lt0, iI_0le, iI_le0, iI_0lt, jL_iI, iI_jL, lc_eq, lc_lt, lc_le, lc_ge, lc_gt, Nat.sub_zero, Nat.zero_le, true_and, and_true, Nat.reduceAdd, Nat.reduceLeDiff]
  generalize en_up hi 110 0 (iI 0) = h1 at *
  obtain ⟨⟨t1, t2⟩, t3, t4, t5, -⟩ := id I1.2
  rw [t1]
  have no : ¬ (0 ≤ m ∧ m ≤ zNt W) → en_V G Y_X11_year (d + 9) wN wN K 23 [.ref 110, .int (iI m), jk, jk] [.int (iI 0), .ref 110] h1 hl hr xc xs := fun e => by
    rw [if_neg e] at H
    apply s_X11_year_23
    simp (disch := omega) only [B_X11_year_23, sh110, lt110, en_ops, en_opc, iI_add, iI_mul, iI_sub, jL_add, jL_mul, iI_le, iI_lt, iI_eq, iI_eq0, iI_lt0, iI_0le, iI_le0, iI_0lt, jL_iI, iI_jL, lc_eq, lc_lt, lc_le, lc_ge, lc_gt, Nat.sub_zero, Nat.zero_le, true_and, and_true, Nat.reduceAdd, Nat.reduceLeDiff]
    refine m_may (d := d + 7) (code := 1) (k := 2) I1 T1 (Or.inl rfl) (by omega) (by omega) (fun e => absurd e (by decide)) (fun _ hi' I' F' T' => ?_)
    simp (disch := omega) only [en_ops, en_opc, iI_add, iI_mul, iI_sub, jL_add, jL_mul, iI_le, iI_lt, iI_eq, iI_eq0, iI_lt0, iI_0le, iI_le0, iI_0lt, jL_iI, iI_jL, lc_eq, lc_lt, lc_le, lc_ge, lc_gt, Nat.sub_zero, Nat.zero_le, true_and, and_true, Nat.reduceAdd, Nat.reduceLeDiff]
    exact ⟨fun e => (e (by first | trivial | rfl)).elim, fun _ => H.no F1 (by omega) rfl I' F' T'⟩
  simp (disch := omega) only [en_ops, en_opc, iI_add, iI_mul, iI_sub, jL_add, jL_mul, iI_le, iI_lt, iI_eq, iI_eq0, iI_lt0, iI_0le, iI_le0, iI_0lt, jL_iI, iI_jL, lc_eq, lc_lt, lc_le, lc_ge, lc_gt, Nat.sub_zero, Nat.zero_le, true_and, and_true, Nat.reduceAdd, Nat.reduceLeDiff]
  refine ⟨fun g => no (by omega), fun g => ⟨fun g2 => no (by omega), fun g2 => ?_⟩⟩
  have hok : 0 ≤ m ∧ m ≤ zNt W := ⟨by omega, by omega⟩
  rw [if_pos hok] at H
  apply s_X11_year_23
  simp (disch := omega) only [B_X11_year_23, sh110, lt110, en_ops, en_opc, iI_add, iI_mul, iI_sub, jL_add, jL_mul, iI_le, iI_lt, iI_eq, iI_eq0, iI_lt0, iI_0le, iI_le0, iI_0lt, jL_iI, iI_jL, lc_eq, lc_lt, lc_le, lc_ge, lc_gt, Nat.sub_zero, Nat.zero_le, true_and, and_true, Nat.reduceAdd, Nat.reduceLeDiff]
  refine m_may (d := d + 7) (code := 1) (k := 2) I1 T1 (Or.inr rfl) (by omega) (by omega) (fun _ => ?_) (fun e => absurd e (by decide))
  simp (disch := omega) only [sh110, lt110, en_ops, en_opc, iI_add, iI_mul, iI_sub, jL_add, jL_mul, iI_le, iI_lt, iI_eq, iI_eq0, iI_lt0, iI_0le, iI_le0, iI_0lt, jL_iI, iI_jL, lc_eq, lc_lt, lc_le, lc_ge, lc_gt, Nat.sub_zero, Nat.zero_le, true_and, and_true, Nat.reduceAdd, Nat.reduceLeDiff]
  refine ⟨fun _ => ?_, fun g => absurd g (by decide)⟩
  obtain ⟨mN, hmN⟩ : ∃ mN : Nat, m = mN := ⟨m.toNat, by omega⟩
  subst hmN
  rw [show ((mN : Int)).toNat = mN by omega] at H
  refine m_begins (d := d + 7) (X := (zTp W, mN)) (by show mN ≤ 600; omega) (fun j hj => ⟨z1.2 j (by have : j < mN := hj; omega), t2 j (by have : j < mN := hj; omega)⟩) (fun h2 F2 e2 e8 e7 X2 A2 => ?_)
  have e18 : h2 110 18 = iI (zNy W : Int) := by rw [F2 110 18 (by decide)]; exact t5
  have tp0 : ∀ g : en_I, g 110 2 = iI 0 → ∀ fa, g 110 2 = iI (zNt (zTx W fa) : Int) ∧ ∀ j, j < zNt (zTx W fa) → g 112 j = iI (zTp (zTx W fa) j : Int) := fun g e fa => ⟨e, fun j hj => absurd hj (Nat.not_lt_zero _)⟩
  have FM : ∀ {P : Nat → Nat → Prop} {g : en_I}, Fx P h1 g → (∀ a j, P a j → 110 ≤ a ∧ a < 133) → Fm hi g := fun F hp => F1.tr (fun x hx => F.row (fun j w => by have := hp x j w; omega))
  have old : ∀ g : en_I, Fx (fun a j => (a = 110 ∧ (j = 2 ∨ j = 3 ∨ j = 4 ∨ j = 5 ∨ j = 6 ∨ j = 7 ∨ j = 8 ∨ j = 18)) ∨ (zNy W < 4 ∧ (Pyq (zNy W) a j ∨ (a = 125 ∧ j = zNy W)))) h1 g → (∀ l, l < zNl W → rwV G l (zVs W l) g) ∧ (∀ y, y < zNy W → ryH y (zYs W y).1 (zYs W y).2 g) ∧ (∀ x, x = 111 ∨ x = 113 ∨ x = 115 ∨ x = 118 → g x = h1 x) ∧ g 110 16 = h1 110 16 ∧ g 110 17 = iI (zNl W : Int) ∧ g 110 0 = iI 0 := by
    intro g F
    refine ⟨fun l hl => (I1.2.2.2.2.2.2.2.1 l hl).same (fun j j1 j2 => ⟨F 119 j (by unfold Pyq; omega), F 120 j (by unfold Pyq; omega)⟩) (fun w hw => ⟨F 121 _ (by unfold Pyq; omega), F 122 _ (by unfold Pyq; omega)⟩), fun y hy => ?_, fun x hx => F.row (fun j w => by unfold Pyq at w; omega), F 110 16 (by unfold Pyq; omega), by rw [F 110 17 (by unfold Pyq; omega)]; exact t4, by rw [F 110 0 (by unfold Pyq; omega)]; exact T1⟩
    obtain ⟨a1, a2, a3⟩ := I1.2.2.2.2.2.2.2.2.1 y hy
    refine ⟨by rw [F 125 y (by unfold Pyq; omega)]; exact a1, a2, fun i hi9 => ?_⟩
    rw [F 126 _ (by unfold Pyq; omega), F 127 _ (by unfold Pyq; omega), F 128 _ (by unfold Pyq; omega), F 129 _ (by unfold Pyq; omega)]
    exact a3 i hi9
  have F2' : Fx (fun a j => (a = 110 ∧ (j = 2 ∨ j = 3 ∨ j = 4 ∨ j = 5 ∨ j = 6 ∨ j = 7 ∨ j = 8 ∨ j = 18)) ∨ (zNy W < 4 ∧ (Pyq (zNy W) a j ∨ (a = 125 ∧ j = zNy W)))) h1 h2 := F2.mono (fun a j w => Or.inl ⟨w.1, by omega⟩)
  simp (disch := omega) only [sh110, lt110, e18, en_ops, en_opc, iI_add, iI_mul, iI_sub, jL_add, jL_mul, iI_le, iI_lt, iI_eq, iI_eq0, iI_lt0, iI_0le, iI_le0, iI_0lt, jL_iI, iI_jL, lc_eq, lc_lt, lc_le, lc_ge, lc_gt, Nat.sub_zero, Nat.zero_le, true_and, and_true, Nat.reduceAdd, Nat.reduceLeDiff]
  refine ⟨fun n4 => ?_, fun n4 => ?_⟩
  rotate_left
  · have ny4 : zNy W = 4 := by omega
    have eW : yearW W mN = zTx W (-1) := by unfold yearW; rw [if_pos ny4]
    have eA : yearA W mN = -1 := by unfold yearA; rw [if_pos ny4]
    rw [eW, eA] at H
    obtain ⟨o1, o2, o3, o4, o5, o6⟩ := old h2 F2'
    exact H.1 rfl h2 ⟨hR, I1.2.txt rfl rfl rfl rfl rfl o3 o4 (tp0 _ e2 (-1)) e8 o5 e18 o1 o2⟩ (FM F2' (fun a j w => by unfold Pyq at w; omega)) o6
  have ny4 : zNy W < 4 := by omega
  have eln : ¬ zNy W = 4 := by omega
  have e238 : ∀ (h' : en_I) (y3 : Value), rtX (zTp W, mN) (yeR0 W mN).1 h' → Fx (Pyq (zNy W)) h2 h' → (∀ q, (yeR0 W mN).1 = .inr q → ryI (zNy W) (yeR0 W mN).2.1 (yeR0 W mN).2.2 h') → ∀ m9 : Nat, ((∃ q, (yeR0 W mN).1 = .inr q) → m9 = (yeR0 W mN).2.1) → m9 ≤ 21 → en_V G Y_X11_year (d + 9) wN wN K 238 [.ref 110, .int (iI (mN : Int)), .int (iI (m9 : Int)), y3] [] h' hl hr xc xs := by
    intro h' y3 Z' F' R' m9 hm9 m21
    have f18 : h' 110 18 = iI (zNy W : Int) := by rw [F' 110 18 (by unfold Pyq; omega)]; exact e18
    have f2 : h' 110 2 = iI 0 := by rw [F' 110 2 (by unfold Pyq; omega)]; exact e2
    have FA : Fx (fun a j => (a = 110 ∧ (j = 2 ∨ j = 3 ∨ j = 4 ∨ j = 5 ∨ j = 6 ∨ j = 7 ∨ j = 8 ∨ j = 18)) ∨ (zNy W < 4 ∧ (Pyq (zNy W) a j ∨ (a = 125 ∧ j = zNy W)))) h1 h' := F2'.tr (F'.mono (fun a j w => Or.inr ⟨ny4, Or.inl w⟩))
    apply s_X11_year_238
    simp (disch := omega) only [B_X11_year_238, sh110, lt110, f18, en_ops, en_opc, iI_add, iI_mul, iI_sub, jL_add, jL_mul, iI_le, iI_lt, iI_eq, iI_eq0, iI_lt0, iI_0le, iI_le0, iI_0lt, jL_iI, iI_jL, lc_eq, lc_lt, lc_le, lc_ge, lc_gt, Nat.sub_zero, Nat.zero_le, true_and, and_true, Nat.reduceAdd, Nat.reduceLeDiff]
    rcases hq : (yeR0 W mN).1 with e1 | q
    · rw [hq] at Z'
      have bb := Z'.1
      have eW : yearW W mN = zTx W (e1.2 : Int) := by unfold yearW; rw [if_neg eln, hq]
      have eA : yearA W mN = (e1.1 : Int) - 10 := by unfold yearA; rw [if_neg eln, hq]
      rw [eW, eA] at H
      refine m_result0 (d := d + 6) Z' ?_
      have u18 : en_up h' 110 8 (iI (e1.2 : Int)) 110 18 = iI (zNy W : Int) := by rw [up_ne (Or.inr (by decide))]; exact f18
      simp (disch := omega) only [sh110, lt110, u18, en_ops, en_opc, iI_add, iI_mul, iI_sub, jL_add, jL_mul, iI_le, iI_lt, iI_eq, iI_eq0, iI_lt0, iI_0le, iI_le0, iI_0lt, jL_iI, iI_jL, lc_eq, lc_lt, lc_le, lc_ge, lc_gt, Nat.sub_zero, Nat.zero_le, true_and, and_true, Nat.reduceAdd, Nat.reduceLeDiff]
      refine ⟨fun _ => ?_, fun g => absurd g (by omega)⟩
      have FB : Fx (fun a j => (a = 110 ∧ (j = 2 ∨ j = 3 ∨ j = 4 ∨ j = 5 ∨ j = 6 ∨ j = 7 ∨ j = 8 ∨ j = 18)) ∨ (zNy W < 4 ∧ (Pyq (zNy W) a j ∨ (a = 125 ∧ j = zNy W)))) h1 (en_up h' 110 8 (iI (e1.2 : Int))) := Fx.up FA (Or.inl ⟨rfl, by decide⟩)
      obtain ⟨o1, o2, o3, o4, o5, o6⟩ := old _ FB
      refine H.1 rfl _ ⟨hR, I1.2.txt rfl rfl rfl rfl rfl o3 o4 (tp0 _ ?_ _) up_at o5 u18 o1 o2⟩ (FM FB (fun a j w => by unfold Pyq at w; omega)) o6
      rw [up_ne (Or.inr (by decide))]; exact f2
    · rw [hq] at Z'
      have em : m9 = (yeR0 W mN).2.1 := hm9 ⟨q, hq⟩
      obtain ⟨k1, k2, k3⟩ := yeR0_ok hq
      have eW : yearW W mN = zAy (zTx W (-1)) (yeR0 W mN).2.1 (yeR0 W mN).2.2 := by unfold yearW; rw [if_neg eln, hq]
      have eA : yearA W mN = zNy W := by unfold yearA; rw [if_neg eln, hq]
      rw [eW, eA] at H
      refine m_result1 (d := d + 6) Z'.1 ?_
      have u18 : en_up h' 110 8 (iI (-1)) 110 18 = iI (zNy W : Int) := by rw [up_ne (Or.inr (by decide))]; exact f18
      simp (disch := omega) only [sh110, lt110, u18, r26, s125, l125, en_ops, en_opc, iI_add, iI_mul, iI_sub, jL_add, jL_mul, iI_le, iI_lt, iI_eq, iI_eq0, iI_lt0, iI_0le, iI_le0, iI_0lt, jL_iI, iI_jL, lc_eq, lc_lt, lc_le, lc_ge, lc_gt, Nat.sub_zero, Nat.zero_le, true_and, and_true, Nat.reduceAdd, Nat.reduceLeDiff]
      refine ⟨fun g => (g (by first | trivial | rfl)).elim, fun _ => ⟨zNy W, rfl, by omega, ?_⟩⟩
      rw [show en_up (en_up h' 110 8 (iI (-1))) 125 (zNy W) (iI (m9 : Int)) 110 18 = iI (zNy W : Int) by rw [up_ne (Or.inl (by decide))]; exact u18]
      simp (disch := omega) only [en_ops, en_opc, iI_add, iI_mul, iI_sub, jL_add, jL_mul, iI_le, iI_lt, iI_eq, iI_eq0, iI_lt0, iI_0le, iI_le0, iI_0lt, jL_iI, iI_jL, lc_eq, lc_lt, lc_le, lc_ge, lc_gt, Nat.sub_zero, Nat.zero_le, true_and, and_true, Nat.reduceAdd, Nat.reduceLeDiff]
      have FB : Fx (fun a j => (a = 110 ∧ (j = 2 ∨ j = 3 ∨ j = 4 ∨ j = 5 ∨ j = 6 ∨ j = 7 ∨ j = 8 ∨ j = 18)) ∨ (zNy W < 4 ∧ (Pyq (zNy W) a j ∨ (a = 125 ∧ j = zNy W)))) h1 (en_up (en_up (en_up h' 110 8 (iI (-1))) 125 (zNy W) (iI (m9 : Int))) 110 18 (iI ((zNy W : Int) + 1))) := Fx.up (Fx.up (Fx.up FA (Or.inl ⟨rfl, by decide⟩)) (Or.inr ⟨ny4, Or.inr ⟨rfl, rfl⟩⟩)) (Or.inl ⟨rfl, by decide⟩)
      obtain ⟨o1, o2, o3, o4, o5, o6⟩ := old _ FB
      refine H.1 rfl _ ⟨hR, I1.2.txt rfl rfl rfl rfl rfl o3 o4 (tp0 _ ?_ (-1)) ?_ o5 ?_ o1 (fun y hy => ?_)⟩ (FM FB (fun a j w => by unfold Pyq at w; omega)) o6
      · rw [up_ne (Or.inr (by decide)), up_ne (Or.inl (by decide)), up_ne (Or.inr (by decide))]; exact f2
      · rw [up_ne (Or.inr (by decide)), up_ne (Or.inl (by decide)), up_at]; rfl
      · rw [up_at]; rfl
      · show ryH y (if y = zNy W then ((yeR0 W mN).2.1, (yeR0 W mN).2.2) else zYs W y).1 (if y = zNy W then ((yeR0 W mN).2.1, (yeR0 W mN).2.2) else zYs W y).2 _
        by_cases ey : y = zNy W
        · rw [if_pos ey, ey]
          refine ⟨?_, k1, fun i hi9 => ?_⟩
          · rw [up_ne (Or.inl (by decide)), up_at, em]
          · rw [up_row (by decide), up_row (by decide), up_row (by decide), up_row (by decide), up_row (by decide), up_row (by decide), up_row (by decide), up_row (by decide), up_row (by decide), up_row (by decide), up_row (by decide), up_row (by decide)]
            obtain ⟨d1, d2, d3, d4⟩ := R' q hq i hi9
            obtain ⟨k4, k5, k6⟩ := k3 i hi9
            exact ⟨d1, d2, d3, d4, k4, k5, k6⟩
        · rw [if_neg ey]
          exact o2 y (by have : y < zNy W + 1 := hy; omega)
  have go : ∀ (z : tZ) (h' : en_I) (x3 : Value), z = y0Z (zTp W, mN) → rtS (zTp W, mN) h' → rtX (zTp W, mN) z h' → Fx Prd h2 h' → en_V G Y_X11_year (d + 9) wN wN K 66 [.ref 110, .int (iI (mN : Int)), .int (iI 0), x3] [] h' hl hr xc xs := by
    intro z h' x3 hz X' Z' F'
    subst hz
    have FP : Fx (Pyq (zNy W)) h2 h' := F'.mono (fun a j w => Or.inl w)
    exact v_y66 hR ny4 22 0 (y0Z (zTp W, mN)) (fun _ => ((0, 0, 0), 0)) h' x3 rfl (by decide) (fun g => absurd g (by decide)) X' Z' (by rw [FP 110 18 (by unfold Pyq; omega)]; exact e18) (fun q _ j hj => absurd hj (Nat.not_lt_zero _)) (fun h7 y3 Z7 F7 R7 m9 hm9 m21 => e238 h7 y3 Z7 (FP.tr F7) R7 m9 hm9 m21)
  refine m_isMore (d := d + 6) hR X2 A2 (fun g1 b F1' X1 Q1 hb => ?_)
  have e3 := X1.2.2
  simp (disch := omega) only [sh110, lt110, e3, en_ops, en_opc, iI_add, iI_mul, iI_sub, jL_add, jL_mul, iI_le, iI_lt, iI_eq, iI_eq0, iI_lt0, iI_0le, iI_le0, iI_0lt, jL_iI, iI_jL, lc_eq, lc_lt, lc_le, lc_ge, lc_gt, Nat.sub_zero, Nat.zero_le, true_and, and_true, Nat.reduceAdd, Nat.reduceLeDiff]
  rcases hb with ⟨rfl, hq⟩ | ⟨rfl, hq⟩
  · exact ⟨fun _ => go (.inr (skE (zTp W, mN) 0)) g1 _ (if_pos hq).symm X1 Q1.A F1'.p4, fun g => absurd g (by decide)⟩
  · refine ⟨fun g => (g (by first | trivial | rfl)).elim, fun _ => ?_⟩
    have eq0 : skE (zTp W, mN) 0 = mN := by
      have : skE (zTp W, mN) 0 ≤ mN := Q1.2.1
      have : ¬ skE (zTp W, mN) 0 < mN := hq
      omega
    refine m_wrong1 (d := d + 7) (k := 1) (pl := mN) Q1.1 (by omega) (fun g2 F2 W2 => ?_)
    simp (disch := omega) only [en_ops, en_opc, iI_add, iI_mul, iI_sub, jL_add, jL_mul, iI_le, iI_lt, iI_eq, iI_eq0, iI_lt0, iI_0le, iI_le0, iI_0lt, jL_iI, iI_jL, lc_eq, lc_lt, lc_le, lc_ge, lc_gt, Nat.sub_zero, Nat.zero_le, true_and, and_true, Nat.reduceAdd, Nat.reduceLeDiff]
    refine go (.inl (1, skE (zTp W, mN) 0)) g2 _ (if_neg hq).symm (X1.fx F2 (fun j w => by have := w.1; omega) (fun w => by have := w.2; omega)) ?_ (F1'.p4.tr F2)
    rw [eq0]
    exact W2
end
