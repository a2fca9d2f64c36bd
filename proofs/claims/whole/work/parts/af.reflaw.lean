section
variable {G : en_G} {d : Nat} {K : en_K} {W : zW} {n l : Nat} {V : lV3} {hi : en_I} {hl : en_L} {hr : en_F} {xc xs : Nat}
theorem m_worked0 {w : Nat} {x : Int} (hR : rfR hr) (hl4 : l < 4) (hw : w < 3) (hx : x = 3 * l + w) (hA : hi 121 (3 * l + w) = iI 0) (hB : hi 122 (3 * l + w) = iI 0) (H : K (.inl (some (.int (iI 0)))) hi hl hr) : en_Call G (d + 1) xc xs Y_X11_worked wN wN [.ref 110, .int (iI x)] hi hl hr K := by
  obtain ⟨-, ⟨r20, r21, r22, r23, r24, r25⟩, -⟩ := id hR
  apply en_X11_worked
  simp (disch := omega) only [B_X11_worked_0, sh110, lt110, sh121, lt121, r22, en_ops, en_opc, iI_add, iI_mul, iI_sub, jL_add, jL_mul, iI_le, iI_lt, iI_eq, iI_eq0, iI_lt0, iI_0le, iI_le0, iI_0lt, jL_iI, iI_jL, lc_eq, lc_lt, lc_le, lc_ge, lc_gt, Nat.sub_zero, Nat.zero_le, true_and, and_true, Nat.reduceAdd, Nat.reduceLeDiff]
  refine ⟨3 * l + w, iI_eq_of (by omega), by omega, ?_⟩
  rw [hA]
  apply s_X11_worked_9
  simp (disch := omega) only [B_X11_worked_9, sh110, lt110, sh122, lt122, r23, en_ops, en_opc, iI_add, iI_mul, iI_sub, jL_add, jL_mul, iI_le, iI_lt, iI_eq, iI_eq0, iI_lt0, iI_0le, iI_le0, iI_0lt, jL_iI, iI_jL, lc_eq, lc_lt, lc_le, lc_ge, lc_gt, Nat.sub_zero, Nat.zero_le, true_and, and_true, Nat.reduceAdd, Nat.reduceLeDiff]
  refine ⟨3 * l + w, iI_eq_of (by omega), by omega, ?_⟩
  rw [hB]
  simp (disch := omega) only [en_ops, en_opc, iI_add, iI_mul, iI_sub, jL_add, jL_mul, iI_le, iI_lt, iI_eq, iI_eq0, iI_lt0, iI_0le, iI_le0, iI_0lt, jL_iI, iI_jL, lc_eq, lc_lt, lc_le, lc_ge, lc_gt, Nat.sub_zero, Nat.zero_le, true_and, and_true, Nat.reduceAdd, Nat.reduceLeDiff]
  exact ⟨fun _ => ⟨fun g => (g (by first | trivial | rfl)).elim, fun _ => H⟩, fun g => absurd (Int.le_refl _) g⟩
theorem rwV.of (hl4 : l < 4) (h : ruR l V 600 hi) : rwV G l (Vn V) hi := by
  intro hi' hl hr K d xc xs w nm x e hw hx hN hR H
  obtain ⟨v1, v2⟩ := h w hw
  obtain ⟨e1, e2⟩ := e
  obtain ⟨f1, f2⟩ := e2 w hw
  rcases hv : V w with _ | s
  · obtain ⟨a, b⟩ := v1 hv
    refine m_worked0 hR hl4 hw hx (by rw [f1]; exact a) (by rw [f2]; exact b) ?_
    have := H hi' Fr.rf
    rw [show Vn V w nm = 0 by unfold Vn; rw [hv]] at this
    exact this
  · obtain ⟨A, B, c1, c2, c3, c4, c5⟩ := v2 s hv
    obtain ⟨k, S', r1, r2, -⟩ := c5 (hi' 119) (hi' 120) (fun j j1 j2 => e1 j (by omega) (by omega)) (fun j => iI (nm j)) 0 (hi' 123) (620 * l + B) (by decide) (Nat.le_refl _)
    refine m_worked (k := k) (S' := S') (nm := nm) hR hl4 hw hx (by rw [f1]; exact c3) (by rw [f2]; exact c4) (by omega) hN r1 (fun h9 F9 => ?_)
    have := H h9 F9
    rw [show Vn V w nm = (s (fun j => iI (nm j))).toInt by unfold Vn; rw [hv], i_of, ← r2] at this
    exact this
theorem rIn.txt {W' : zW} {hi' : en_I} (h : rIn G W hi) (q1 : zE W' = zE W) (q2 : zS W' = zS W) (q3 : zNi W' = zNi W) (q4 : zIm W' = zIm W) (q5 : zRf W' = zRf W) (F : ∀ x, x = 111 ∨ x = 113 ∨ x = 115 ∨ x = 118 → hi' x = hi x) (f16 : hi' 110 16 = hi 110 16) (tp : hi' 110 2 = iI (zNt W' : Int) ∧ ∀ j, j < zNt W' → hi' 112 j = iI (zTp W' j : Int)) (fa : hi' 110 8 = iI (zFa W')) (nl : hi' 110 17 = iI (zNl W' : Int)) (ny : hi' 110 18 = iI (zNy W' : Int)) (lw : ∀ l, l < zNl W' → rwV G l (zVs W' l) hi') (ye : ∀ y, y < zNy W' → ryH y (zYs W' y).1 (zYs W' y).2 hi') : rIn G W' hi' := by
  obtain ⟨a1, a3, a4, a5, a6, a7, a8, a9, ⟨b, a10, a11⟩, a12, a13⟩ := h
  refine ⟨tp, fa, nl, ny, by rw [q3, f16]; exact a6, fun k hk => by rw [q5, F 111 (by omega)]; exact a7 k hk, lw, ye, ⟨b, fun j hj => by rw [F 113 (by omega)]; exact a10 j hj, by rw [q1]; exact a11⟩, by rw [q2, F 115 (by omega)]; exact a12, fun i hi9 => ?_⟩
  rw [q4, F 118 (by omega)]
  rw [q3] at hi9
  exact a13 i hi9
theorem rwV.same {U : Nat → (Nat → Int) → Int} {hi' : en_I} (h : rwV G l U hi) (e1 : ∀ j, 620 * l ≤ j → j < 620 * l + 620 → hi' 119 j = hi 119 j ∧ hi' 120 j = hi 120 j) (e2 : ∀ w, w < 3 → hi' 121 (3 * l + w) = hi 121 (3 * l + w) ∧ hi' 122 (3 * l + w) = hi 122 (3 * l + w)) : rwV G l U hi' := h.mono ⟨e1, e2⟩
theorem m_begins {X : tTx} (hX : X.2 ≤ 600) (hT : ∀ j, j < X.2 → X.1 j < 256 ∧ hi 112 j = iI (X.1 j : Int)) (H : ∀ hi', Fx (fun a j => a = 110 ∧ (j = 2 ∨ j = 3 ∨ j = 4 ∨ j = 5 ∨ j = 7 ∨ j = 8)) hi hi' → hi' 110 2 = iI 0 → hi' 110 8 = iI (-1) → hi' 110 7 = iI 0 → rtS X hi' → rtA X (skE X 0) hi' → K (.inl none) hi' hl hr) : en_Call G (d + 1) xc xs Y_X11_begins wN wN [.ref 110, .int (iI (X.2 : Int))] hi hl hr K := by
  apply en_X11_begins
  simp (disch := omega) only [B_X11_begins_0, sh110, lt110, en_ops, en_opc, iI_add, iI_mul, iI_sub, jL_add, jL_mul, iI_le, iI_lt, iI_eq, iI_eq0, iI_lt0, iI_0le, iI_le0, iI_0lt, jL_iI, iI_jL, lc_eq, lc_lt, lc_le, lc_ge, lc_gt, Nat.sub_zero, Nat.zero_le, true_and, and_true, Nat.reduceAdd, Nat.reduceLeDiff]
  have F : Fx (fun a j => a = 110 ∧ (j = 2 ∨ j = 3 ∨ j = 4 ∨ j = 5 ∨ j = 7 ∨ j = 8)) hi (en_up (en_up (en_up (en_up (en_up (en_up hi 110 2 (iI 0)) 110 8 (iI (-1))) 110 3 (iI (X.2 : Int))) 110 4 (iI 0)) 110 5 (iI (-1))) 110 7 (iI 0)) := Fx.up (Fx.up (Fx.up (Fx.up (Fx.up (Fx.up Fx.rf ⟨rfl, by decide⟩) ⟨rfl, by decide⟩) ⟨rfl, by decide⟩) ⟨rfl, by decide⟩) ⟨rfl, by decide⟩) ⟨rfl, by decide⟩
  refine H _ F ?_ ?_ up_at ⟨hX, fun j hj => ⟨(hT j hj).1, by rw [F 112 j (by omega)]; exact (hT j hj).2⟩, ?_⟩ ⟨?_, 0, Nat.zero_le _, ?_, rfl⟩
  · rw [up_ne (Or.inr (by decide)), up_ne (Or.inr (by decide)), up_ne (Or.inr (by decide)), up_ne (Or.inr (by decide)), up_ne (Or.inr (by decide)), up_at]
  · rw [up_ne (Or.inr (by decide)), up_ne (Or.inr (by decide)), up_ne (Or.inr (by decide)), up_ne (Or.inr (by decide)), up_at]
  · rw [up_ne (Or.inr (by decide)), up_ne (Or.inr (by decide)), up_ne (Or.inr (by decide)), up_at]
  · rw [up_ne (Or.inr (by decide)), up_at]
  · rw [up_ne (Or.inr (by decide)), up_ne (Or.inr (by decide)), up_at]; rfl
/-- the result: the fault's place is kept -/
theorem m_result1 {g : Int} (h : hi 110 5 = iI (-1)) (H : K (.inl (some (.int (iI g)))) (en_up hi 110 8 (iI (-1))) hl hr) : en_Call G (d + 2) xc xs Y_X11_result wN wN [.ref 110, .int (iI g)] hi hl hr K := by
  apply en_X11_result
  simp (disch := omega) only [B_X11_result_0, sh110, lt110, h, en_ops, en_opc, iI_add, iI_mul, iI_sub, jL_add, jL_mul, iI_le, iI_lt, iI_eq, iI_eq0, iI_lt0, iI_0le, iI_le0, iI_0lt, jL_iI, iI_jL, lc_eq, lc_lt, lc_le, lc_ge, lc_gt, Nat.sub_zero, Nat.zero_le, true_and, and_true, Nat.reduceAdd, Nat.reduceLeDiff]
  refine m_fine1 (by rw [up_ne (Or.inr (by decide))]; exact h) ?_
  simp (disch := omega) only [sh110, lt110, en_ops, en_opc, iI_add, iI_mul, iI_sub, jL_add, jL_mul, iI_le, iI_lt, iI_eq, iI_eq0, iI_lt0, iI_0le, iI_le0, iI_0lt, jL_iI, iI_jL, lc_eq, lc_lt, lc_le, lc_ge, lc_gt, Nat.sub_zero, Nat.zero_le, true_and, and_true, Nat.reduceAdd, Nat.reduceLeDiff]
  exact ⟨fun g => absurd g (by decide), fun _ => H⟩
theorem m_result0 {g : Int32} {k pl : Nat} (h : rtF k pl hi) (H : K (.inl (some (.int (iI ((k : Int) - 10))))) (en_up hi 110 8 (iI (pl : Int))) hl hr) : en_Call G (d + 2) xc xs Y_X11_result wN wN [.ref 110, .int g] hi hl hr K := by
  obtain ⟨b, h5, h6⟩ := id h
  apply en_X11_result
  simp (disch := omega) only [B_X11_result_0, sh110, lt110, h5, en_ops, en_opc, iI_add, iI_mul, iI_sub, jL_add, jL_mul, iI_le, iI_lt, iI_eq, iI_eq0, iI_lt0, iI_0le, iI_le0, iI_0lt, jL_iI, iI_jL, lc_eq, lc_lt, lc_le, lc_ge, lc_gt, Nat.sub_zero, Nat.zero_le, true_and, and_true, Nat.reduceAdd, Nat.reduceLeDiff]
  refine m_fine0 (k := k) (pl := pl) ⟨b, by rw [up_ne (Or.inr (by decide))]; exact h5, by rw [up_ne (Or.inr (by decide))]; exact h6⟩ ?_
  simp (disch := omega) only [sh110, lt110, en_ops, en_opc, iI_add, iI_mul, iI_sub, jL_add, jL_mul, iI_le, iI_lt, iI_eq, iI_eq0, iI_lt0, iI_0le, iI_le0, iI_0lt, jL_iI, iI_jL, lc_eq, lc_lt, lc_le, lc_ge, lc_gt, Nat.sub_zero, Nat.zero_le, true_and, and_true, Nat.reduceAdd, Nat.reduceLeDiff]
  refine ⟨fun _ => ?_, fun g => (g (by first | trivial | rfl)).elim⟩
  rw [up_ne (Or.inr (by decide)), h6]
  simp (disch := omega) only [en_ops, en_opc, iI_add, iI_mul, iI_sub, jL_add, jL_mul, iI_le, iI_lt, iI_eq, iI_eq0, iI_lt0, iI_0le, iI_le0, iI_0lt, jL_iI, iI_jL, lc_eq, lc_lt, lc_le, lc_ge, lc_gt, Nat.sub_zero, Nat.zero_le, true_and, and_true, Nat.reduceAdd, Nat.reduceLeDiff]
  exact H
theorem m_claw {m : Int} (hI : InvR G W hi hr) (hz : zOK n W) (hm : iRg m) (H : rEnd G W (lawW W m.toNat) (if 0 ≤ m ∧ m ≤ zNt W then 0 else 3) 1 (.int (iI 0)) (.int (iI (lawA W m.toNat))) K hi hl hr) : en_Call G (d + 61) xc xs Y_X11_law wN wN [.ref 110, .int (iI m)] hi hl hr K := by
  obtain ⟨I1, F1, T1⟩ := hI.t1
  obtain ⟨z1, z2, z3, -⟩ := id hz
  obtain ⟨hm1, hm2⟩ := hm
  have hR := hI.1
  obtain ⟨-, ⟨r20, r21, r22, r23, -⟩, -⟩ := id hR
  apply en_X11_law
  simp (disch := omega) only [B_X11_law_0, sh110, lt110, en_ops, en_opc, iI_add, iI_mul, iI_sub, jL_add, jL_mul, iI_le, iI_lt, iI_eq, iI_eq0, iI_lt0, iI_0le, iI_le0, iI_0lt, jL_iI, iI_jL, lc_eq, lc_lt, lc_le, lc_ge, lc_gt, Nat.sub_zero, Nat.zero_le, true_and, and_true, Nat.reduceAdd, Nat.reduceLeDiff]
  generalize en_up hi 110 0 (iI 0) = h1 at *
  obtain ⟨⟨t1, t2⟩, t3, t4, t5, -⟩ := id I1.2
  rw [t1]
  have no : ¬ (0 ≤ m ∧ m ≤ zNt W) → en_V G Y_X11_law (d + 61) wN wN K 23 [.ref 110, .int (iI m), jk, jk] [.int (iI 0), .ref 110] h1 hl hr xc xs := fun e => by
    rw [if_neg e] at H
    apply s_X11_law_23
    simp (disch := omega) only [B_X11_law_23, sh110, lt110, en_ops, en_opc, iI_add, iI_mul, iI_sub, jL_add, jL_mul, iI_le, iI_lt, iI_eq, iI_eq0, iI_lt0, iI_0le, iI_le0, iI_0lt, jL_iI, iI_jL, lc_eq, lc_lt, lc_le, lc_ge, lc_gt, Nat.sub_zero, Nat.zero_le, true_and, and_true, Nat.reduceAdd, Nat.reduceLeDiff]
    refine m_may (d := d + 59) (code := 1) (k := 2) I1 T1 (Or.inl rfl) (by omega) (by omega) (fun e => absurd e (by decide)) (fun _ hi' I' F' T' => ?_)
    simp (disch := omega) only [en_ops, en_opc, iI_add, iI_mul, iI_sub, jL_add, jL_mul, iI_le, iI_lt, iI_eq, iI_eq0, iI_lt0, iI_0le, iI_le0, iI_0lt, jL_iI, iI_jL, lc_eq, lc_lt, lc_le, lc_ge, lc_gt, Nat.sub_zero, Nat.zero_le, true_and, and_true, Nat.reduceAdd, Nat.reduceLeDiff]
    exact ⟨fun e => (e (by first | trivial | rfl)).elim, fun _ => H.no F1 (by omega) rfl I' F' T'⟩
  simp (disch := omega) only [en_ops, en_opc, iI_add, iI_mul, iI_sub, jL_add, jL_mul, iI_le, iI_lt, iI_eq, iI_eq0, iI_lt0, iI_0le, iI_le0, iI_0lt, jL_iI, iI_jL, lc_eq, lc_lt, lc_le, lc_ge, lc_gt, Nat.sub_zero, Nat.zero_le, true_and, and_true, Nat.reduceAdd, Nat.reduceLeDiff]
  refine ⟨fun g => no (by omega), fun g => ⟨fun g2 => no (by omega), fun g2 => ?_⟩⟩
  have hok : 0 ≤ m ∧ m ≤ zNt W := ⟨by omega, by omega⟩
  rw [if_pos hok] at H
  apply s_X11_law_23
  simp (disch := omega) only [B_X11_law_23, sh110, lt110, en_ops, en_opc, iI_add, iI_mul, iI_sub, jL_add, jL_mul, iI_le, iI_lt, iI_eq, iI_eq0, iI_lt0, iI_0le, iI_le0, iI_0lt, jL_iI, iI_jL, lc_eq, lc_lt, lc_le, lc_ge, lc_gt, Nat.sub_zero, Nat.zero_le, true_and, and_true, Nat.reduceAdd, Nat.reduceLeDiff]
  refine m_may (d := d + 59) (code := 1) (k := 2) I1 T1 (Or.inr rfl) (by omega) (by omega) (fun _ => ?_) (fun e => absurd e (by decide))
  simp (disch := omega) only [sh110, lt110, en_ops, en_opc, iI_add, iI_mul, iI_sub, jL_add, jL_mul, iI_le, iI_lt, iI_eq, iI_eq0, iI_lt0, iI_0le, iI_le0, iI_0lt, jL_iI, iI_jL, lc_eq, lc_lt, lc_le, lc_ge, lc_gt, Nat.sub_zero, Nat.zero_le, true_and, and_true, Nat.reduceAdd, Nat.reduceLeDiff]
  refine ⟨fun _ => ?_, fun g => absurd g (by decide)⟩
  obtain ⟨mN, hmN⟩ : ∃ mN : Nat, m = mN := ⟨m.toNat, by omega⟩
  subst hmN
  rw [show ((mN : Int)).toNat = mN by omega] at H
  refine m_begins (d := d + 59) (X := (zTp W, mN)) (by show mN ≤ 600; omega) (fun j hj => ⟨z1.2 j (by have : j < mN := hj; omega), t2 j (by have : j < mN := hj; omega)⟩) (fun h2 F2 e2 e8 e7 X2 A2 => ?_)
  have e17 : h2 110 17 = iI (zNl W : Int) := by rw [F2 110 17 (by decide)]; exact t4
  have tp0 : ∀ g : en_I, g 110 2 = iI 0 → ∀ fa, g 110 2 = iI (zNt (zTx W fa) : Int) ∧ ∀ j, j < zNt (zTx W fa) → g 112 j = iI (zTp (zTx W fa) j : Int) := fun g e fa => ⟨e, fun j hj => absurd hj (Nat.not_lt_zero _)⟩
  have FM : ∀ {P : Nat → Nat → Prop} {g : en_I}, Fx P h1 g → (∀ a j, P a j → 110 ≤ a ∧ a < 133) → Fm hi g := fun F hp => F1.tr (fun x hx => F.row (fun j w => by have := hp x j w; omega))
  have old : ∀ g : en_I, Fx (fun a j => (a = 110 ∧ (j = 2 ∨ j = 3 ∨ j = 4 ∨ j = 5 ∨ j = 6 ∨ j = 7 ∨ j = 8 ∨ j = 17 ∨ j = 19)) ∨ (zNl W < 4 ∧ ruQ (zNl W) a j)) h1 g → (∀ l, l < zNl W → rwV G l (zVs W l) g) ∧ (∀ y, y < zNy W → ryH y (zYs W y).1 (zYs W y).2 g) ∧ (∀ x, x = 111 ∨ x = 113 ∨ x = 115 ∨ x = 118 → g x = h1 x) ∧ g 110 16 = h1 110 16 ∧ g 110 18 = iI (zNy W : Int) ∧ g 110 0 = iI 0 := by
    intro g F
    refine ⟨fun l hl => (I1.2.2.2.2.2.2.2.1 l hl).same (fun j j1 j2 => ⟨F 119 j (by unfold ruQ; omega), F 120 j (by unfold ruQ; omega)⟩) (fun w hw => ⟨F 121 _ (by unfold ruQ; omega), F 122 _ (by unfold ruQ; omega)⟩), fun y hy => ?_, fun x hx => F.row (fun j w => by unfold ruQ at w; omega), F 110 16 (by unfold ruQ; omega), by rw [F 110 18 (by unfold ruQ; omega)]; exact t5, by rw [F 110 0 (by unfold ruQ; omega)]; exact T1⟩
    exact (I1.2.2.2.2.2.2.2.2.1 y hy).fr (P := fun x => x < 125) (fun x hx => F.row (fun j w => by unfold ruQ at w; omega)) (fun x g1 g2 w => by omega)
  have F2' : Fx (fun a j => (a = 110 ∧ (j = 2 ∨ j = 3 ∨ j = 4 ∨ j = 5 ∨ j = 6 ∨ j = 7 ∨ j = 8 ∨ j = 17 ∨ j = 19)) ∨ (zNl W < 4 ∧ ruQ (zNl W) a j)) h1 h2 := F2.mono (fun a j w => Or.inl ⟨w.1, by omega⟩)
  simp (disch := omega) only [sh110, lt110, e17, en_ops, en_opc, iI_add, iI_mul, iI_sub, jL_add, jL_mul, iI_le, iI_lt, iI_eq, iI_eq0, iI_lt0, iI_0le, iI_le0, iI_0lt, jL_iI, iI_jL, lc_eq, lc_lt, lc_le, lc_ge, lc_gt, Nat.sub_zero, Nat.zero_le, true_and, and_true, Nat.reduceAdd, Nat.reduceLeDiff]
  refine ⟨fun n4 => ?_, fun n4 => ?_⟩
  rotate_left
  · have nl4 : zNl W = 4 := by omega
    have eW : lawW W mN = zTx W (-1) := by unfold lawW; rw [if_pos nl4]
    have eA : lawA W mN = -1 := by unfold lawA; rw [if_pos nl4]
    rw [eW, eA] at H
    obtain ⟨o1, o2, o3, o4, o5, o6⟩ := old h2 F2'
    exact H.1 rfl h2 ⟨hR, I1.2.txt rfl rfl rfl rfl rfl o3 o4 (tp0 _ e2 (-1)) e8 e17 o5 o1 o2⟩ (FM F2' (fun a j w => by unfold ruQ at w; omega)) o6
  have nl4 : zNl W < 4 := by omega
  have eln : ¬ zNl W = 4 := by omega
  have G0 : Fx (fun a j => a = 110 ∧ j = 19) h2 (en_up h2 110 19 (iI 0)) := Fx.up Fx.rf ⟨rfl, rfl⟩
  have g19 : en_up h2 110 19 (iI 0) 110 19 = iI 0 := up_at
  generalize en_up h2 110 19 (iI 0) = g0 at G0 g19 ⊢
  have g17 : g0 110 17 = iI (zNl W : Int) := by rw [G0 110 17 (by decide)]; exact e17
  -- the end
  have e284 : ∀ h9 : en_I, Fx (ruQ (zNl W)) g0 h9 → ((∃ V, lwR0 W mN = .inr V ∧ h9 110 5 = iI (-1) ∧ ruR (zNl W) V 600 h9) ∨ ∃ k pl : Nat, lwR0 W mN = .inl (k, pl) ∧ rtF k pl h9) → ∀ y2 y3, en_V G Y_X11_law (d + 61) wN wN K 284 [.ref 110, .int (iI (mN : Int)), y2, y3] [] h9 hl hr xc xs := by
    intro h9 F9 hE y2 y3
    have f17 : h9 110 17 = iI (zNl W : Int) := by rw [F9 110 17 (by unfold ruQ; omega)]; exact g17
    have f2 : h9 110 2 = iI 0 := by rw [F9 110 2 (by unfold ruQ; omega), G0 110 2 (by decide)]; exact e2
    have FA : Fx (fun a j => (a = 110 ∧ (j = 2 ∨ j = 3 ∨ j = 4 ∨ j = 5 ∨ j = 6 ∨ j = 7 ∨ j = 8 ∨ j = 17 ∨ j = 19)) ∨ (zNl W < 4 ∧ ruQ (zNl W) a j)) h1 h9 := (F2'.tr (G0.mono (fun a j w => Or.inl ⟨w.1, by omega⟩))).tr (F9.mono (fun a j w => Or.inr ⟨nl4, w⟩))
    apply s_X11_law_284
    simp (disch := omega) only [B_X11_law_284, sh110, lt110, f17, en_ops, en_opc, iI_add, iI_mul, iI_sub, jL_add, jL_mul, iI_le, iI_lt, iI_eq, iI_eq0, iI_lt0, iI_0le, iI_le0, iI_0lt, jL_iI, iI_jL, lc_eq, lc_lt, lc_le, lc_ge, lc_gt, Nat.sub_zero, Nat.zero_le, true_and, and_true, Nat.reduceAdd, Nat.reduceLeDiff]
    rcases hE with ⟨V, eV, h5, hV⟩ | ⟨k, pl, eV, W9⟩
    · have eW : lawW W mN = zAl (zTx W (-1)) (Vn V) := by unfold lawW; rw [if_neg eln, eV]
      have eA : lawA W mN = zNl W := by unfold lawA; rw [if_neg eln, eV]
      rw [eW, eA] at H
      refine m_result1 (d := d + 58) h5 ?_
      have u17 : en_up h9 110 8 (iI (-1)) 110 17 = iI (zNl W : Int) := by rw [up_ne (Or.inr (by decide))]; exact f17
      simp (disch := omega) only [sh110, lt110, u17, en_ops, en_opc, iI_add, iI_mul, iI_sub, jL_add, jL_mul, iI_le, iI_lt, iI_eq, iI_eq0, iI_lt0, iI_0le, iI_le0, iI_0lt, jL_iI, iI_jL, lc_eq, lc_lt, lc_le, lc_ge, lc_gt, Nat.sub_zero, Nat.zero_le, true_and, and_true, Nat.reduceAdd, Nat.reduceLeDiff]
      refine ⟨fun g => (g (by first | trivial | rfl)).elim, fun _ => ?_⟩
      have FB : Fx (fun a j => (a = 110 ∧ (j = 2 ∨ j = 3 ∨ j = 4 ∨ j = 5 ∨ j = 6 ∨ j = 7 ∨ j = 8 ∨ j = 17 ∨ j = 19)) ∨ (zNl W < 4 ∧ ruQ (zNl W) a j)) h1 (en_up (en_up h9 110 8 (iI (-1))) 110 17 (iI ((zNl W : Int) + 1))) := Fx.up (Fx.up FA (Or.inl ⟨rfl, by decide⟩)) (Or.inl ⟨rfl, by decide⟩)
      obtain ⟨o1, o2, o3, o4, o5, o6⟩ := old _ FB
      have hV' : ruR (zNl W) V 600 (en_up (en_up h9 110 8 (iI (-1))) 110 17 (iI ((zNl W : Int) + 1))) := by
        intro w hw
        rw [up_row (by decide), up_row (by decide), up_row (by decide), up_row (by decide), up_row (by decide), up_row (by decide), up_row (by decide), up_row (by decide)]
        exact hV w hw
      refine H.1 rfl _ ⟨hR, I1.2.txt rfl rfl rfl rfl rfl o3 o4 (tp0 _ ?_ (-1)) ?_ ?_ o5 (fun l hl9 => ?_) o2⟩ (FM FB (fun a j w => by unfold ruQ at w; omega)) o6
      · rw [up_ne (Or.inr (by decide)), up_ne (Or.inr (by decide))]; exact f2
      · rw [up_ne (Or.inr (by decide)), up_at]; rfl
      · rw [up_at]; rfl
      · show rwV G l (if l = zNl W then Vn V else zVs W l) _
        by_cases el : l = zNl W
        · rw [if_pos el, el]
          exact rwV.of nl4 hV'
        · rw [if_neg el]
          exact o1 l (by have : l < zNl W + 1 := hl9; omega)
    · have eW : lawW W mN = zTx W (pl : Int) := by unfold lawW; rw [if_neg eln, eV]
      have eA : lawA W mN = (k : Int) - 10 := by unfold lawA; rw [if_neg eln, eV]
      rw [eW, eA] at H
      have bb := W9.1
      refine m_result0 (d := d + 58) W9 ?_
      have u17 : en_up h9 110 8 (iI (pl : Int)) 110 17 = iI (zNl W : Int) := by rw [up_ne (Or.inr (by decide))]; exact f17
      simp (disch := omega) only [sh110, lt110, u17, en_ops, en_opc, iI_add, iI_mul, iI_sub, jL_add, jL_mul, iI_le, iI_lt, iI_eq, iI_eq0, iI_lt0, iI_0le, iI_le0, iI_0lt, jL_iI, iI_jL, lc_eq, lc_lt, lc_le, lc_ge, lc_gt, Nat.sub_zero, Nat.zero_le, true_and, and_true, Nat.reduceAdd, Nat.reduceLeDiff]
      refine ⟨fun _ => ?_, fun g => absurd g (by omega)⟩
      have FB : Fx (fun a j => (a = 110 ∧ (j = 2 ∨ j = 3 ∨ j = 4 ∨ j = 5 ∨ j = 6 ∨ j = 7 ∨ j = 8 ∨ j = 17 ∨ j = 19)) ∨ (zNl W < 4 ∧ ruQ (zNl W) a j)) h1 (en_up h9 110 8 (iI (pl : Int))) := Fx.up FA (Or.inl ⟨rfl, by decide⟩)
      obtain ⟨o1, o2, o3, o4, o5, o6⟩ := old _ FB
      refine H.1 rfl _ ⟨hR, I1.2.txt rfl rfl rfl rfl rfl o3 o4 (tp0 _ ?_ _) up_at u17 o5 o1 o2⟩ (FM FB (fun a j w => by unfold ruQ at w; omega)) o6
      rw [up_ne (Or.inr (by decide))]; exact f2
  suffices L55 : ∀ i : Nat, i ≤ 3 → ∀ (h9 : en_I) (x3 : Value), Fx (fun a j => (a = 121 ∨ a = 122) ∧ 3 * zNl W ≤ j ∧ j < 3 * zNl W + 3) g0 h9 → (∀ w, w < i → h9 121 (3 * zNl W + w) = iI 0 ∧ h9 122 (3 * zNl W + w) = iI 0) → en_V G Y_X11_law (d + 61) wN wN K 55 [.ref 110, .int (iI (mN : Int)), .int (iI (i : Int)), x3] [] h9 hl hr xc xs from L55 0 (by decide) g0 _ Fx.rf (fun w hw => absurd hw (Nat.not_lt_zero _))
  refine lp 3 (fun h9 x3 F9 Z9 => ?_) (fun i hi9 ih h9 x3 F9 Z9 => ?_)
  · apply s_X11_law_55
    simp (disch := omega) only [B_X11_law_55, sh110, lt110, en_ops, en_opc, iI_add, iI_mul, iI_sub, jL_add, jL_mul, iI_le, iI_lt, iI_eq, iI_eq0, iI_lt0, iI_0le, iI_le0, iI_0lt, jL_iI, iI_jL, lc_eq, lc_lt, lc_le, lc_ge, lc_gt, Nat.sub_zero, Nat.zero_le, true_and, and_true, Nat.reduceAdd, Nat.reduceLeDiff]
    refine ⟨fun _ => ?_, fun g => (g (by first | trivial | rfl)).elim⟩
    have X9 : rtS (zTp W, mN) h9 := (X2.fx G0 (fun j w => by omega) (by omega)).fx F9 (fun j w => by omega) (fun w => by omega)
    have A9 : rtA (zTp W, mN) (skE (zTp W, mN) 0) h9 := rtX.fx (X := (zTp W, mN)) (z := .inr _) (rtX.fx (X := (zTp W, mN)) (z := .inr _) A2 G0 (by decide) (by decide) (by decide)) F9 (by omega) (by omega) (by omega)
    refine v_law94 hR 4 0 (skE (zTp W, mN) 0) 0 (fun _ => none) h9 _ _ rfl rfl ⟨X9, A9, by rw [F9 110 7 (by omega), G0 110 7 (by decide)]; exact e7, by rw [F9 110 19 (by omega)]; exact g19, ⟨by rw [F9 110 17 (by omega)]; exact g17, nl4⟩, Nat.zero_le _⟩ (fun w hw => ⟨fun _ => Z9 w hw, fun s e => by cases e⟩) ⟨fun V eV h' h5 h17 F' R' => ?_, fun k pl eV h' W' h17 F' => ?_⟩
    · exact e284 h' ((F9.mono (fun a j w => by unfold ruQ; omega)).tr F') (Or.inl ⟨V, eV, h5, R'⟩)
    · exact e284 h' ((F9.mono (fun a j w => by unfold ruQ; omega)).tr F') (Or.inr ⟨k, pl, eV, W'⟩)
  · have f17 : h9 110 17 = iI (zNl W : Int) := by rw [F9 110 17 (by omega)]; exact g17
    apply s_X11_law_55
    simp (disch := omega) only [B_X11_law_55, sh110, lt110, sh121, lt121, sh122, lt122, r22, r23, f17, en_ops, en_opc, iI_add, iI_mul, iI_sub, jL_add, jL_mul, iI_le, iI_lt, iI_eq, iI_eq0, iI_lt0, iI_0le, iI_le0, iI_0lt, jL_iI, iI_jL, lc_eq, lc_lt, lc_le, lc_ge, lc_gt, Nat.sub_zero, Nat.zero_le, true_and, and_true, Nat.reduceAdd, Nat.reduceLeDiff]
    refine ⟨fun g => absurd g (by omega), fun _ => ⟨3 * zNl W + i, iI_eq_of (by omega), by omega, ?_⟩⟩
    rw [up_ne (Or.inl (by decide)), f17]
    simp (disch := omega) only [sh110, lt110, sh121, lt121, sh122, lt122, r22, r23, f17, en_ops, en_opc, iI_add, iI_mul, iI_sub, jL_add, jL_mul, iI_le, iI_lt, iI_eq, iI_eq0, iI_lt0, iI_0le, iI_le0, iI_0lt, jL_iI, iI_jL, lc_eq, lc_lt, lc_le, lc_ge, lc_gt, Nat.sub_zero, Nat.zero_le, true_and, and_true, Nat.reduceAdd, Nat.reduceLeDiff]
    refine ⟨3 * zNl W + i, iI_eq_of (by omega), by omega, ?_⟩
    refine ih _ _ (F9.tr (Fx.up (Fx.up Fx.rf ⟨Or.inl rfl, by omega, by omega⟩) ⟨Or.inr rfl, by omega, by omega⟩)) (fun w hw => ?_)
    by_cases ew : w = i
    · rw [ew]
      exact ⟨by rw [up_ne (Or.inl (by decide)), up_at], up_at⟩
    · obtain ⟨a, b⟩ := Z9 w (by omega)
      exact ⟨by rw [up_ne (Or.inl (by decide)), up_ne (Or.inr (by omega))]; exact a, by rw [up_ne (Or.inr (by omega)), up_ne (Or.inl (by decide))]; exact b⟩
end
