/-! the tokens of the class -/
def Fx {α : Type} (P : Nat → Nat → Prop) (h h' : Nat → Nat → α) : Prop := ∀ a j, ¬ P a j → h' a j = h a j
theorem Fx.rf {α : Type} {P : Nat → Nat → Prop} {h : Nat → Nat → α} : Fx P h h := fun _ _ _ => rfl
theorem Fx.tr {α : Type} {P : Nat → Nat → Prop} {a b c : Nat → Nat → α} (x : Fx P a b) (y : Fx P b c) : Fx P a c := fun i j hi => (y i j hi).trans (x i j hi)
theorem Fx.mono {α : Type} {P Q : Nat → Nat → Prop} {a b : Nat → Nat → α} (x : Fx P a b) (h : ∀ i j, P i j → Q i j) : Fx Q a b := fun i j hi => x i j (fun g => hi (h i j g))
theorem Fx.up {α : Type} {P : Nat → Nat → Prop} {h1 h2 : Nat → Nat → α} {a i : Nat} {v : α} (q : Fx P h1 h2) (ha : P a i) : Fx P h1 (en_up h2 a i v) := fun x j hx => by
  rw [up_ne (by by_cases e : x = a; exact Or.inr (fun g => hx (by rw [e, g]; exact ha)); exact Or.inl e)]
  exact q x j hx
theorem Fx.fr {P : Nat → Nat → Prop} {Q : Nat → Prop} {h h' : en_I} (x : Fx P h h') (hq : ∀ a j, P a j → Q a) : Fr Q h h' := fun a ha => by
  funext j
  exact x a j (fun g => ha (hq a j g))
theorem Fx.row {α : Type} {P : Nat → Nat → Prop} {h h' : Nat → Nat → α} {a : Nat} (x : Fx P h h') (hq : ∀ j, ¬ P a j) : h' a = h a := by
  funext j
  exact x a j (hq j)
def P26 (a j : Nat) : Prop := a = 26 ∧ 1 < j
def P26at (a j : Nat) : Prop := a = 26 ∧ j = 2
/-- the text, as the class has it -/
def txH (X : tTx) (hi : en_I) : Prop := X.2 ≤ 600 ∧ ∀ j, j < X.2 → X.1 j < 256 ∧ hi 1 j = iI (sbB (X.1 j))
def tqS (X : tTx) (hi : en_I) : Prop := txH X hi ∧ hi 26 1 = iI (X.2 : Int)
/-- the token at q -/
def tkH (X : tTx) (q : Nat) (hi : en_I) : Prop := q ≤ X.2 ∧ skE X q = q ∧ hi 26 7 = iI 0 ∧ hi 26 8 = iI (-1) ∧ hi 26 4 = iI (q : Int) ∧ hi 26 3 = iI (kdE X q : Int) ∧ hi 26 2 = iI (atE X q : Int) ∧ (kdE X q = 1 → hi 26 5 = iI (if nvE X q ≤ 1000000 then nvE X q else 1000000 : Nat)) ∧ (kdE X q = 3 → hi 26 6 = iI (sbB (X.1 q)))
/-- a fault -/
def tkF (k pl : Nat) (hi : en_I) : Prop := (1 ≤ k ∧ k ≤ 4 ∧ pl ≤ 600) ∧ hi 26 7 = iI (k : Int) ∧ hi 26 8 = iI (pl : Int) ∧ hi 26 3 = iI 4
theorem tqS.fx {X : tTx} {P : Nat → Nat → Prop} {hi hi' : en_I} (h : tqS X hi) (F : Fx P hi hi') (hP : ∀ j, ¬ P 1 j) (h26 : ¬ P 26 1) : tqS X hi' := ⟨⟨h.1.1, fun j hj => ⟨(h.1.2 j hj).1, by rw [F 1 j (hP j)]; exact (h.1.2 j hj).2⟩⟩, by rw [F 26 1 h26]; exact h.2⟩
theorem tkH.fx {X : tTx} {q : Nat} {P : Nat → Nat → Prop} {hi hi' : en_I} (h : tkH X q hi) (F : Fx P hi hi') (h26 : ∀ j, ¬ P 26 j) : tkH X q hi' := by
  unfold tkH
  rw [F 26 7 (h26 7), F 26 8 (h26 8), F 26 4 (h26 4), F 26 3 (h26 3), F 26 2 (h26 2), F 26 5 (h26 5), F 26 6 (h26 6)]
  exact h
theorem tkF.fx {k pl : Nat} {P : Nat → Nat → Prop} {hi hi' : en_I} (h : tkF k pl hi) (F : Fx P hi hi') (h26 : ∀ j, ¬ P 26 j) : tkF k pl hi' := by
  unfold tkF
  rw [F 26 7 (h26 7), F 26 8 (h26 8), F 26 3 (h26 3)]
  exact h
theorem sb_r {t : Nat} (h : t < 256) : -128 ≤ sbB t ∧ sbB t ≤ 127 := by
  unfold sbB
  split <;> omega
theorem sb_e {t c : Nat} (h : t < 256) (hc : c < 128) : sbB t = (c : Int) ↔ t = c := by
  unfold sbB
  split <;> omega
theorem sb_lo {t : Nat} (h : t < 128) : sbB t = (t : Int) := if_pos h
theorem sb_in {t a b : Nat} (h : t < 256) (ha : 0 < a) (hb : b < 128) : ((a : Int) ≤ sbB t ∧ sbB t ≤ (b : Int)) ↔ (a ≤ t ∧ t ≤ b) := by
  unfold sbB
  split <;> omega
theorem sh26 : en_SH 26 = (7, 9) := by decide
theorem lt26 : 26 < 134 := by decide
theorem sh1 : en_SH 1 = (101, 600) := by decide
theorem lt1 : 1 < 134 := by decide
section
variable {G : en_G} {d : Nat} {K : en_K} {X : tTx} {hi : en_I} {hl : en_L} {hr : en_F} {xc xs : Nat}
theorem t_isDg {t : Nat} (h : t < 256) (H : K (.inl (some (.int (iI (if isDg t = true then 1 else 0))))) hi hl hr) : en_Call G (d + 1) xc xs Y_X7_isDigit wN wN [.int (iI (sbB t))] hi hl hr K := by
  have r := sb_r h
  have q := sb_in (a := 48) (b := 57) h (by omega) (by omega)
  rw [← isDg_i] at q
  apply en_X7_isDigit
  simp (disch := omega) only [B_X7_isDigit_0, en_ops, en_opc, iI_add, iI_mul, iI_sub, jL_add, jL_mul, iI_le, iI_lt, iI_eq, iI_eq0, iI_lt0, iI_0le, iI_le0, iI_0lt, jL_iI, iI_jL, lc_eq, lc_lt, lc_le, lc_ge, lc_gt, Nat.sub_zero, Nat.zero_le, true_and, and_true, Nat.reduceAdd, Nat.reduceLeDiff]
  refine ⟨fun e => ⟨rfl, ?_⟩, fun e => ⟨fun e2 => ⟨rfl, ?_⟩, fun e2 => ⟨rfl, ?_⟩⟩⟩
  · rw [if_neg (fun g => by have := q.mpr g; omega)] at H; exact H
  · rw [if_neg (fun g => by have := q.mpr g; omega)] at H; exact H
  · rw [if_pos (q.mp (by omega))] at H; exact H
theorem t_isLt {t : Nat} (h : t < 256) (H : K (.inl (some (.int (iI (if isLt t = true then 1 else 0))))) hi hl hr) : en_Call G (d + 1) xc xs Y_X7_isLetter wN wN [.int (iI (sbB t))] hi hl hr K := by
  have r := sb_r h
  have q := sb_in (a := 97) (b := 122) h (by omega) (by omega)
  rw [← isLt_i] at q
  apply en_X7_isLetter
  simp (disch := omega) only [B_X7_isLetter_0, en_ops, en_opc, iI_add, iI_mul, iI_sub, jL_add, jL_mul, iI_le, iI_lt, iI_eq, iI_eq0, iI_lt0, iI_0le, iI_le0, iI_0lt, jL_iI, iI_jL, lc_eq, lc_lt, lc_le, lc_ge, lc_gt, Nat.sub_zero, Nat.zero_le, true_and, and_true, Nat.reduceAdd, Nat.reduceLeDiff]
  refine ⟨fun e => ⟨rfl, ?_⟩, fun e => ⟨fun e2 => ⟨rfl, ?_⟩, fun e2 => ⟨rfl, ?_⟩⟩⟩
  · rw [if_neg (fun g => by have := q.mpr g; omega)] at H; exact H
  · rw [if_neg (fun g => by have := q.mpr g; omega)] at H; exact H
  · rw [if_pos (q.mp (by omega))] at H; exact H
/-- a word's end -/
theorem v_st186 (hR : hr 26 0 = .ref 1) {e : Nat} : ∀ (m p : Nat) (h9 : en_I), X.2 - p = m → p ≤ X.2 → rnT X isLt p = e → tqS X h9 → h9 26 2 = iI (p : Int) →
    (∀ hi', Fx P26at h9 hi' → hi' 26 2 = iI (e : Int) → K (.inl none) hi' hl hr) → en_V G Y_X7_step (d + 2) wN wN K 186 [.ref 26] [] h9 hl hr xc xs := by
  intro m
  induction m with
  | zero =>
    intro p h9 hm hp he hX h2 H
    have l600 := hX.1.1
    have e1 := hX.2
    apply s_X7_step_186
    simp (disch := omega) only [B_X7_step_186, sh26, lt26, h2, e1, en_ops, en_opc, iI_add, iI_mul, iI_sub, jL_add, jL_mul, iI_le, iI_lt, iI_eq, iI_eq0, iI_lt0, iI_0le, iI_le0, iI_0lt, jL_iI, iI_jL, lc_eq, lc_lt, lc_le, lc_ge, lc_gt, Nat.sub_zero, Nat.zero_le, true_and, and_true, Nat.reduceAdd, Nat.reduceLeDiff]
    refine ⟨fun _ => H h9 Fx.rf ?_, fun g => absurd (show (X.2 : Int) ≤ p by omega) g⟩
    rw [h2, ← he, rt_e (by omega)]
  | succ m ih =>
    intro p h9 hm hp he hX h2 H
    have l600 := hX.1.1
    have e1 := hX.2
    obtain ⟨b1, b2⟩ := hX.1.2 p (by omega)
    apply s_X7_step_186
    simp (disch := omega) only [B_X7_step_186, sh26, lt26, h2, e1, hR, en_ops, en_opc, iI_add, iI_mul, iI_sub, jL_add, jL_mul, iI_le, iI_lt, iI_eq, iI_eq0, iI_lt0, iI_0le, iI_le0, iI_0lt, jL_iI, iI_jL, lc_eq, lc_lt, lc_le, lc_ge, lc_gt, Nat.sub_zero, Nat.zero_le, true_and, and_true, Nat.reduceAdd, Nat.reduceLeDiff]
    refine ⟨fun g => by omega, fun _ => ⟨p, rfl, by rw [sh1]; show p < 600; omega, ⟨by decide, by decide⟩, ?_⟩⟩
    rw [b2]
    refine t_isLt (d := d) b1 ?_
    by_cases l : isLt (X.1 p) = true
    · rw [if_pos l]
      simp (disch := omega) only [sh26, lt26, h2, en_ops, en_opc, iI_add, iI_mul, iI_sub, jL_add, jL_mul, iI_le, iI_lt, iI_eq, iI_eq0, iI_lt0, iI_0le, iI_le0, iI_0lt, jL_iI, iI_jL, lc_eq, lc_lt, lc_le, lc_ge, lc_gt, Nat.sub_zero, Nat.zero_le, true_and, and_true, Nat.reduceAdd, Nat.reduceLeDiff]
      refine ⟨fun g => absurd g (by decide), fun _ => ?_⟩
      have F : Fx P26at h9 (en_up h9 26 2 (iI ((p : Int) + 1))) := Fx.up Fx.rf ⟨rfl, rfl⟩
      refine ih (p + 1) _ (by omega) (by omega) (by rw [← rt_s (by omega) l]; exact he) (hX.fx F (fun j g => by have := g.1; omega) (fun g => by have := g.2; omega)) (up_at) (fun hi' F' e' => H hi' (F.tr F') e')
    · rw [if_neg l]
      simp (disch := omega) only [en_ops, en_opc, iI_add, iI_mul, iI_sub, jL_add, jL_mul, iI_le, iI_lt, iI_eq, iI_eq0, iI_lt0, iI_0le, iI_le0, iI_0lt, jL_iI, iI_jL, lc_eq, lc_lt, lc_le, lc_ge, lc_gt, Nat.sub_zero, Nat.zero_le, true_and, and_true, Nat.reduceAdd, Nat.reduceLeDiff]
      refine ⟨fun _ => H h9 Fx.rf ?_, fun g => (g (by first | trivial | rfl)).elim⟩
      rw [h2, ← he, rt_n (Bool.eq_false_iff.mpr l)]
theorem dg_s {g : Nat → Nat} {k : Nat} : dgF g (k + 1) = 10 * dgF g k + (g k - 48) := rfl
def capN (v : Nat) : Nat := if v ≤ 1000000 then v else 1000000
/-- a number's end -/
theorem v_st98 (hR : hr 26 0 = .ref 1) {q e : Nat} : ∀ (m p : Nat) (h9 : en_I), X.2 - p = m → q ≤ p → p ≤ X.2 → rnT X isDg p = e → tqS X h9 → h9 26 2 = iI (p : Int) → h9 26 5 = iI (capN (dgF (fun i => X.1 (q + i)) (p - q)) : Int) →
    (∀ hi', Fx (fun a j => a = 26 ∧ (j = 2 ∨ j = 5)) h9 hi' → hi' 26 2 = iI (e : Int) → hi' 26 5 = iI (capN (dgF (fun i => X.1 (q + i)) (e - q)) : Int) → K (.inl none) hi' hl hr) → en_V G Y_X7_step (d + 2) wN wN K 98 [.ref 26] [] h9 hl hr xc xs := by
  intro m
  induction m with
  | zero =>
    intro p h9 hm hq hp he hX h2 h5 H
    have l600 := hX.1.1
    have e1 := hX.2
    have ep : e = p := by rw [← he, rt_e (by omega)]
    apply s_X7_step_98
    simp (disch := omega) only [B_X7_step_98, sh26, lt26, h2, e1, en_ops, en_opc, iI_add, iI_mul, iI_sub, jL_add, jL_mul, iI_le, iI_lt, iI_eq, iI_eq0, iI_lt0, iI_0le, iI_le0, iI_0lt, jL_iI, iI_jL, lc_eq, lc_lt, lc_le, lc_ge, lc_gt, Nat.sub_zero, Nat.zero_le, true_and, and_true, Nat.reduceAdd, Nat.reduceLeDiff]
    refine ⟨fun _ => H h9 Fx.rf (by rw [h2, ep]) (by rw [h5, ep]), fun g => absurd (show (X.2 : Int) ≤ p by omega) g⟩
  | succ m ih =>
    intro p h9 hm hq hp he hX h2 h5 H
    have l600 := hX.1.1
    have e1 := hX.2
    obtain ⟨b1, b2⟩ := hX.1.2 p (by omega)
    apply s_X7_step_98
    simp (disch := omega) only [B_X7_step_98, sh26, lt26, h2, e1, hR, en_ops, en_opc, iI_add, iI_mul, iI_sub, jL_add, jL_mul, iI_le, iI_lt, iI_eq, iI_eq0, iI_lt0, iI_0le, iI_le0, iI_0lt, jL_iI, iI_jL, lc_eq, lc_lt, lc_le, lc_ge, lc_gt, Nat.sub_zero, Nat.zero_le, true_and, and_true, Nat.reduceAdd, Nat.reduceLeDiff]
    refine ⟨fun g => by omega, fun _ => ⟨p, rfl, by rw [sh1]; show p < 600; omega, ⟨by decide, by decide⟩, ?_⟩⟩
    rw [b2]
    refine t_isDg (d := d) b1 ?_
    by_cases l : isDg (X.1 p) = true
    · rw [if_pos l]
      have l2 := isDg_i.mp l
      simp (disch := omega) only [sh26, lt26, h2, h5, hR, en_ops, en_opc, iI_add, iI_mul, iI_sub, jL_add, jL_mul, iI_le, iI_lt, iI_eq, iI_eq0, iI_lt0, iI_0le, iI_le0, iI_0lt, jL_iI, iI_jL, lc_eq, lc_lt, lc_le, lc_ge, lc_gt, Nat.sub_zero, Nat.zero_le, true_and, and_true, Nat.reduceAdd, Nat.reduceLeDiff]
      refine ⟨fun g => absurd g (by decide), fun _ => ⟨p, rfl, by rw [sh1]; show p < 600; omega, ⟨by decide, by decide⟩, ?_⟩⟩
      rw [b2, sb_lo (by omega)]
      simp (disch := omega) only [en_ops, en_opc, iI_add, iI_mul, iI_sub, jL_add, jL_mul, iI_le, iI_lt, iI_eq, iI_eq0, iI_lt0, iI_0le, iI_le0, iI_0lt, jL_iI, iI_jL, lc_eq, lc_lt, lc_le, lc_ge, lc_gt, Nat.sub_zero, Nat.zero_le, true_and, and_true, Nat.reduceAdd, Nat.reduceLeDiff]
      have c9 : capN (dgF (fun i => X.1 (q + i)) (p - q)) ≤ 1000000 := by unfold capN; split <;> omega
      refine t_min (d := d) (by omega) (by omega) (by omega) (by omega) ?_
      have ec : (if (1000000 : Int) ≤ 10 * (capN (dgF (fun i => X.1 (q + i)) (p - q)) : Int) + (X.1 p : Int) - 48 then (1000000 : Int) else 10 * (capN (dgF (fun i => X.1 (q + i)) (p - q)) : Int) + (X.1 p : Int) - 48) = (capN (dgF (fun i => X.1 (q + i)) (p + 1 - q)) : Int) := by
        rw [show p + 1 - q = (p - q) + 1 by omega, dg_s]
        show _ = ((capN (10 * dgF (fun i => X.1 (q + i)) (p - q) + (X.1 (q + (p - q)) - 48)) : Nat) : Int)
        rw [show q + (p - q) = p by omega]
        generalize dgF (fun i => X.1 (q + i)) (p - q) = v
        unfold capN
        repeat' split
        all_goals omega
      rw [ec]
      simp (disch := omega) only [sh26, lt26, en_ops, en_opc, iI_add, iI_mul, iI_sub, jL_add, jL_mul, iI_le, iI_lt, iI_eq, iI_eq0, iI_lt0, iI_0le, iI_le0, iI_0lt, jL_iI, iI_jL, lc_eq, lc_lt, lc_le, lc_ge, lc_gt, Nat.sub_zero, Nat.zero_le, true_and, and_true, Nat.reduceAdd, Nat.reduceLeDiff]
      rw [up_ne (Or.inr (by decide)), h2]
      simp (disch := omega) only [en_ops, en_opc, iI_add, iI_mul, iI_sub, jL_add, jL_mul, iI_le, iI_lt, iI_eq, iI_eq0, iI_lt0, iI_0le, iI_le0, iI_0lt, jL_iI, iI_jL, lc_eq, lc_lt, lc_le, lc_ge, lc_gt, Nat.sub_zero, Nat.zero_le, true_and, and_true, Nat.reduceAdd, Nat.reduceLeDiff]
      have F : Fx (fun a j => a = 26 ∧ (j = 2 ∨ j = 5)) h9 (en_up (en_up h9 26 5 (iI (capN (dgF (fun i => X.1 (q + i)) (p + 1 - q)) : Int))) 26 2 (iI ((p : Int) + 1))) := Fx.up (Fx.up Fx.rf ⟨rfl, Or.inr rfl⟩) ⟨rfl, Or.inl rfl⟩
      refine ih (p + 1) _ (by omega) (by omega) (by omega) (by rw [← rt_s (by omega) l]; exact he) (hX.fx F (fun j g => by have := g.1; omega) (fun g => by have := g.2; omega)) (up_at) (by rw [up_ne (Or.inr (by decide)), up_at]) (fun hi' F' e' e5 => H hi' (F.tr F') e' e5)
    · rw [if_neg l]
      have ep : e = p := by rw [← he, rt_n (Bool.eq_false_iff.mpr l)]
      simp (disch := omega) only [en_ops, en_opc, iI_add, iI_mul, iI_sub, jL_add, jL_mul, iI_le, iI_lt, iI_eq, iI_eq0, iI_lt0, iI_0le, iI_le0, iI_0lt, jL_iI, iI_jL, lc_eq, lc_lt, lc_le, lc_ge, lc_gt, Nat.sub_zero, Nat.zero_le, true_and, and_true, Nat.reduceAdd, Nat.reduceLeDiff]
      exact ⟨fun _ => H h9 Fx.rf (by rw [h2, ep]) (by rw [h5, ep]), fun g => (g (by first | trivial | rfl)).elim⟩
/-- behind the blanks -/
theorem v_st46 (hR : hr 26 0 = .ref 1) {q : Nat} (hq : q ≤ X.2) (hs : skE X q = q) (hX : tqS X hi) (h2 : hi 26 2 = iI (q : Int)) (h7 : hi 26 7 = iI 0) (h8 : hi 26 8 = iI (-1))
    (H : ∀ hi', Fx P26 hi hi' → tqS X hi' → tkH X q hi' → K (.inl none) hi' hl hr) : en_V G Y_X7_step (d + 2) wN wN K 46 [.ref 26] [] hi hl hr xc xs := by
  have l600 := hX.1.1
  have e1 := hX.2
  have F1 : ∀ v, Fx P26 hi (en_up hi 26 4 v) := fun v => Fx.up Fx.rf ⟨rfl, by decide⟩
  apply s_X7_step_46
  simp (disch := omega) only [B_X7_step_46, sh26, lt26, h2, hR, en_ops, en_opc, iI_add, iI_mul, iI_sub, jL_add, jL_mul, iI_le, iI_lt, iI_eq, iI_eq0, iI_lt0, iI_0le, iI_le0, iI_0lt, jL_iI, iI_jL, lc_eq, lc_lt, lc_le, lc_ge, lc_gt, Nat.sub_zero, Nat.zero_le, true_and, and_true, Nat.reduceAdd, Nat.reduceLeDiff]
  rw [up_ne (Or.inr (by decide)), up_ne (Or.inr (by decide)), h2, e1]
  simp (disch := omega) only [sh26, lt26, en_ops, en_opc, iI_add, iI_mul, iI_sub, jL_add, jL_mul, iI_le, iI_lt, iI_eq, iI_eq0, iI_lt0, iI_0le, iI_le0, iI_0lt, jL_iI, iI_jL, lc_eq, lc_lt, lc_le, lc_ge, lc_gt, Nat.sub_zero, Nat.zero_le, true_and, and_true, Nat.reduceAdd, Nat.reduceLeDiff]
  by_cases hl9 : q < X.2
  · obtain ⟨b1, b2⟩ := hX.1.2 q hl9
    refine ⟨fun _ => ⟨q, rfl, by rw [sh1]; show q < 600; omega, ⟨by decide, by decide⟩, ?_⟩, fun g => absurd g (by omega)⟩
    rw [up_ne (Or.inl (by decide)), b2]
    refine t_isDg (d := d) b1 ?_
    by_cases l : isDg (X.1 q) = true
    · rw [if_pos l]
      have k1 := kd_d hl9 l
      have a1 := (kd_1 k1).2.2
      simp (disch := omega) only [sh26, lt26, en_ops, en_opc, iI_add, iI_mul, iI_sub, jL_add, jL_mul, iI_le, iI_lt, iI_eq, iI_eq0, iI_lt0, iI_0le, iI_le0, iI_0lt, jL_iI, iI_jL, lc_eq, lc_lt, lc_le, lc_ge, lc_gt, Nat.sub_zero, Nat.zero_le, true_and, and_true, Nat.reduceAdd, Nat.reduceLeDiff]
      refine ⟨fun g => absurd g (by decide), fun _ => ?_⟩
      have F3 : Fx P26 hi (en_up (en_up (en_up hi 26 4 (iI (q : Int))) 26 3 (iI 1)) 26 5 (iI 0)) := Fx.up (Fx.up (F1 _) ⟨rfl, by decide⟩) ⟨rfl, by decide⟩
      refine v_st98 (d := d) hR (q := q) _ q _ rfl (Nat.le_refl _) hq rfl (hX.fx F3 (fun j g => by have := g.1; omega) (fun g => by have := g.2; omega)) (by rw [up_ne (Or.inr (by decide)), up_ne (Or.inr (by decide)), up_ne (Or.inr (by decide))]; exact h2) (by rw [up_at, Nat.sub_self]; rfl) (fun hi' F' e2 e5 => ?_)
      have F4 : Fx P26 hi hi' := F3.tr (F'.mono (fun i j g => ⟨g.1, by have := g.2; omega⟩))
      have o : ∀ j, j ≠ 2 → j ≠ 5 → hi' 26 j = en_up (en_up (en_up hi 26 4 (iI (q : Int))) 26 3 (iI 1)) 26 5 (iI 0) 26 j := fun j g1 g2 => F' 26 j (fun g => by have := g.2; omega)
      refine H hi' F4 (hX.fx F4 (fun j g => by have := g.1; omega) (fun g => by have := g.2; omega)) ⟨hq, hs, ?_, ?_, ?_, ?_, ?_, fun _ => ?_, fun g => by omega⟩
      · rw [o 7 (by decide) (by decide), up_ne (Or.inr (by decide)), up_ne (Or.inr (by decide)), up_ne (Or.inr (by decide))]; exact h7
      · rw [o 8 (by decide) (by decide), up_ne (Or.inr (by decide)), up_ne (Or.inr (by decide)), up_ne (Or.inr (by decide))]; exact h8
      · rw [o 4 (by decide) (by decide), up_ne (Or.inr (by decide)), up_ne (Or.inr (by decide)), up_at]
      · rw [o 3 (by decide) (by decide), up_ne (Or.inr (by decide)), up_at, k1]; rfl
      · rw [e2, a1]
      · rw [e5, ← a1]; rfl
    · rw [if_neg l]
      simp (disch := omega) only [sh26, lt26, hR, en_ops, en_opc, iI_add, iI_mul, iI_sub, jL_add, jL_mul, iI_le, iI_lt, iI_eq, iI_eq0, iI_lt0, iI_0le, iI_le0, iI_0lt, jL_iI, iI_jL, lc_eq, lc_lt, lc_le, lc_ge, lc_gt, Nat.sub_zero, Nat.zero_le, true_and, and_true, Nat.reduceAdd, Nat.reduceLeDiff]
      refine ⟨fun _ => ⟨q, ?_, by rw [sh1]; show q < 600; omega, ⟨by decide, by decide⟩, ?_⟩, fun g => (g (by first | trivial | rfl)).elim⟩
      · rw [up_ne (Or.inr (by decide)), h2]
      rw [up_ne (Or.inl (by decide)), b2]
      refine t_isLt (d := d) b1 ?_
      by_cases l2 : isLt (X.1 q) = true
      · rw [if_pos l2]
        have k1 := kd_l hl9 l2
        have a1 := (kd_2 k1).2.2
        simp (disch := omega) only [sh26, lt26, en_ops, en_opc, iI_add, iI_mul, iI_sub, jL_add, jL_mul, iI_le, iI_lt, iI_eq, iI_eq0, iI_lt0, iI_0le, iI_le0, iI_0lt, jL_iI, iI_jL, lc_eq, lc_lt, lc_le, lc_ge, lc_gt, Nat.sub_zero, Nat.zero_le, true_and, and_true, Nat.reduceAdd, Nat.reduceLeDiff]
        refine ⟨fun g => absurd g (by decide), fun _ => ?_⟩
        have F3 : Fx P26 hi (en_up (en_up hi 26 4 (iI (q : Int))) 26 3 (iI 2)) := Fx.up (F1 _) ⟨rfl, by decide⟩
        refine v_st186 (d := d) hR _ q _ rfl hq rfl (hX.fx F3 (fun j g => by have := g.1; omega) (fun g => by have := g.2; omega)) (by rw [up_ne (Or.inr (by decide)), up_ne (Or.inr (by decide))]; exact h2) (fun hi' F' e2 => ?_)
        have F4 : Fx P26 hi hi' := F3.tr (F'.mono (fun i j g => ⟨g.1, by have := g.2; omega⟩))
        have o : ∀ j, j ≠ 2 → hi' 26 j = en_up (en_up hi 26 4 (iI (q : Int))) 26 3 (iI 2) 26 j := fun j g1 => F' 26 j (fun g => g1 g.2)
        refine H hi' F4 (hX.fx F4 (fun j g => by have := g.1; omega) (fun g => by have := g.2; omega)) ⟨hq, hs, ?_, ?_, ?_, ?_, ?_, fun g => by omega, fun g => by omega⟩
        · rw [o 7 (by decide), up_ne (Or.inr (by decide)), up_ne (Or.inr (by decide))]; exact h7
        · rw [o 8 (by decide), up_ne (Or.inr (by decide)), up_ne (Or.inr (by decide))]; exact h8
        · rw [o 4 (by decide), up_ne (Or.inr (by decide)), up_at]
        · rw [o 3 (by decide), up_at, k1]; rfl
        · rw [e2, a1]
      · rw [if_neg l2]
        have k1 := kd_s hl9 l l2
        have a1 := (kd_3 k1).2.2.2
        simp (disch := omega) only [sh26, lt26, hR, en_ops, en_opc, iI_add, iI_mul, iI_sub, jL_add, jL_mul, iI_le, iI_lt, iI_eq, iI_eq0, iI_lt0, iI_0le, iI_le0, iI_0lt, jL_iI, iI_jL, lc_eq, lc_lt, lc_le, lc_ge, lc_gt, Nat.sub_zero, Nat.zero_le, true_and, and_true, Nat.reduceAdd, Nat.reduceLeDiff]
        refine ⟨fun _ => ?_, fun g => (g (by first | trivial | rfl)).elim⟩
        refine ⟨q, ?_, by rw [sh1]; show q < 600; omega, ⟨by decide, by decide⟩, ?_⟩
        · rw [up_ne (Or.inr (by decide)), up_ne (Or.inr (by decide)), h2]
        rw [up_ne (Or.inl (by decide)), up_ne (Or.inl (by decide)), b2]
        rw [up_ne (Or.inr (by decide)), up_ne (Or.inr (by decide)), up_ne (Or.inr (by decide)), h2]
        simp (disch := omega) only [en_ops, en_opc, iI_add, iI_mul, iI_sub, jL_add, jL_mul, iI_le, iI_lt, iI_eq, iI_eq0, iI_lt0, iI_0le, iI_le0, iI_0lt, jL_iI, iI_jL, lc_eq, lc_lt, lc_le, lc_ge, lc_gt, Nat.sub_zero, Nat.zero_le, true_and, and_true, Nat.reduceAdd, Nat.reduceLeDiff]
        have F4 : Fx P26 hi (en_up (en_up (en_up (en_up hi 26 4 (iI (q : Int))) 26 3 (iI 3)) 26 6 (iI (sbB (X.1 q)))) 26 2 (iI ((q : Int) + 1))) := Fx.up (Fx.up (Fx.up (F1 _) ⟨rfl, by decide⟩) ⟨rfl, by decide⟩) ⟨rfl, by decide⟩
        refine H _ F4 (hX.fx F4 (fun j g => by have := g.1; omega) (fun g => by have := g.2; omega)) ⟨hq, hs, ?_, ?_, ?_, ?_, ?_, fun g => by omega, fun g => ?_⟩
        · rw [up_ne (Or.inr (by decide)), up_ne (Or.inr (by decide)), up_ne (Or.inr (by decide)), up_ne (Or.inr (by decide))]; exact h7
        · rw [up_ne (Or.inr (by decide)), up_ne (Or.inr (by decide)), up_ne (Or.inr (by decide)), up_ne (Or.inr (by decide))]; exact h8
        · rw [up_ne (Or.inr (by decide)), up_ne (Or.inr (by decide)), up_ne (Or.inr (by decide)), up_at]
        · rw [up_ne (Or.inr (by decide)), up_ne (Or.inr (by decide)), up_at, k1]; rfl
        · rw [up_at, a1]; exact iI_eq_of (by omega)
        · rw [up_ne (Or.inr (by decide)), up_at]
  · refine ⟨fun g => absurd g (by omega), fun _ => ?_⟩
    have k1 := kd_e (X := X) (q := q) (by omega)
    have a1 := at_e (X := X) (q := q) (by omega)
    have F3 : Fx P26 hi (en_up (en_up hi 26 4 (iI (q : Int))) 26 3 (iI 0)) := Fx.up (F1 _) ⟨rfl, by decide⟩
    refine H _ F3 (hX.fx F3 (fun j g => by have := g.1; omega) (fun g => by have := g.2; omega)) ⟨hq, hs, ?_, ?_, ?_, ?_, ?_, fun g => by omega, fun g => by omega⟩
    · rw [up_ne (Or.inr (by decide)), up_ne (Or.inr (by decide))]; exact h7
    · rw [up_ne (Or.inr (by decide)), up_ne (Or.inr (by decide))]; exact h8
    · rw [up_ne (Or.inr (by decide)), up_at]
    · rw [up_at, k1]; rfl
    · rw [up_ne (Or.inr (by decide)), up_ne (Or.inr (by decide)), h2, a1]
theorem v_st8 (hR : hr 26 0 = .ref 1) {q : Nat} : ∀ (m p : Nat) (h9 : en_I), X.2 - p = m → p ≤ X.2 → skE X p = q → tqS X h9 → h9 26 2 = iI (p : Int) → h9 26 7 = iI 0 → h9 26 8 = iI (-1) →
    (∀ hi', Fx P26 h9 hi' → tqS X hi' → tkH X q hi' → K (.inl none) hi' hl hr) → en_V G Y_X7_step (d + 2) wN wN K 8 [.ref 26] [] h9 hl hr xc xs := by
  intro m
  induction m with
  | zero =>
    intro p h9 hm hp he hX h2 h7 h8 H
    have l600 := hX.1.1
    have e1 := hX.2
    have ep : q = p := by rw [← he]; exact rt_e (by omega)
    apply s_X7_step_8
    simp (disch := omega) only [B_X7_step_8, sh26, lt26, h2, e1, en_ops, en_opc, iI_add, iI_mul, iI_sub, jL_add, jL_mul, iI_le, iI_lt, iI_eq, iI_eq0, iI_lt0, iI_0le, iI_le0, iI_0lt, jL_iI, iI_jL, lc_eq, lc_lt, lc_le, lc_ge, lc_gt, Nat.sub_zero, Nat.zero_le, true_and, and_true, Nat.reduceAdd, Nat.reduceLeDiff]
    refine ⟨fun _ => v_st46 hR (by omega) (by rw [ep]; exact rt_e (by omega)) hX (by rw [h2, ep]) h7 h8 H, fun g => absurd (show (X.2 : Int) ≤ p by omega) g⟩
  | succ m ih =>
    intro p h9 hm hp he hX h2 h7 h8 H
    have l600 := hX.1.1
    have e1 := hX.2
    obtain ⟨b1, b2⟩ := hX.1.2 p (by omega)
    have br := sb_r b1
    have b32 := sb_e (c := 32) b1 (by omega)
    apply s_X7_step_8
    simp (disch := omega) only [B_X7_step_8, sh26, lt26, h2, e1, hR, en_ops, en_opc, iI_add, iI_mul, iI_sub, jL_add, jL_mul, iI_le, iI_lt, iI_eq, iI_eq0, iI_lt0, iI_0le, iI_le0, iI_0lt, jL_iI, iI_jL, lc_eq, lc_lt, lc_le, lc_ge, lc_gt, Nat.sub_zero, Nat.zero_le, true_and, and_true, Nat.reduceAdd, Nat.reduceLeDiff]
    refine ⟨fun g => by omega, fun _ => ⟨p, rfl, by rw [sh1]; show p < 600; omega, ⟨by decide, by decide⟩, ?_⟩⟩
    rw [b2]
    simp (disch := omega) only [sh26, lt26, h2, en_ops, en_opc, iI_add, iI_mul, iI_sub, jL_add, jL_mul, iI_le, iI_lt, iI_eq, iI_eq0, iI_lt0, iI_0le, iI_le0, iI_0lt, jL_iI, iI_jL, lc_eq, lc_lt, lc_le, lc_ge, lc_gt, Nat.sub_zero, Nat.zero_le, true_and, and_true, Nat.reduceAdd, Nat.reduceLeDiff]
    refine ⟨fun g => ?_, fun g => ?_⟩
    · have nb : isBk (X.1 p) = false := Bool.eq_false_iff.mpr (fun z => g (b32.mpr (isBk_i.mp z)))
      have ep : q = p := by rw [← he]; exact rt_n nb
      exact v_st46 hR (by omega) (by rw [ep]; exact rt_n nb) hX (by rw [h2, ep]) h7 h8 H
    · have nb : isBk (X.1 p) = true := isBk_i.mpr (b32.mp g)
      have F : Fx P26 h9 (en_up h9 26 2 (iI ((p : Int) + 1))) := Fx.up Fx.rf ⟨rfl, by decide⟩
      exact ih (p + 1) _ (by omega) (by omega) (by rw [← he]; exact (rt_s (by omega) nb).symm) (hX.fx F (fun j g => by have := g.1; omega) (fun g => by have := g.2; omega)) up_at (by rw [up_ne (Or.inr (by decide))]; exact h7) (by rw [up_ne (Or.inr (by decide))]; exact h8) (fun hi' F' X' H' => H hi' (F.tr F') X' H')
theorem t_step (hR : hr 26 0 = .ref 1) {p : Nat} (hX : tqS X hi) (hp : p ≤ X.2) (h2 : hi 26 2 = iI (p : Int)) (h7 : hi 26 7 = iI 0) (h8 : hi 26 8 = iI (-1)) (H : ∀ hi', Fx P26 hi hi' → tqS X hi' → tkH X (skE X p) hi' → K (.inl none) hi' hl hr) : en_Call G (d + 2) xc xs Y_X7_step wN wN [.ref 26] hi hl hr K := by
  apply en_X7_step
  simp (disch := omega) only [B_X7_step_0, sh26, lt26, h7, en_ops, en_opc, iI_add, iI_mul, iI_sub, jL_add, jL_mul, iI_le, iI_lt, iI_eq, iI_eq0, iI_lt0, iI_0le, iI_le0, iI_0lt, jL_iI, iI_jL, lc_eq, lc_lt, lc_le, lc_ge, lc_gt, Nat.sub_zero, Nat.zero_le, true_and, and_true, Nat.reduceAdd, Nat.reduceLeDiff]
  exact ⟨fun _ => v_st8 hR _ p hi rfl hp rfl hX h2 h7 h8 H, fun g => (g (by first | trivial | rfl)).elim⟩
theorem t_open {Tb : Nat → Nat} {n : Nat} (hT : n ≤ 600 ∧ ∀ j, j < n → Tb j < 256 ∧ hi 1 j = iI (sbB (Tb j))) (H : ∀ hi', Fx (fun a j => a = 26) hi hi' → tqS (Tb, n) hi' → tkH (Tb, n) (skE (Tb, n) 0) hi' → K (.inl none) hi' hl (en_up hr 26 0 (.ref 1))) : en_Call G (d + 3) xc xs Y_X7_open wN wN [.ref 26, .ref 1, .int (iI (n : Int))] hi hl hr K := by
  have n6 := hT.1
  have e6 : (en_SH 1).2 = 600 := by decide
  have a1 : (en_SH 1).1 = 101 := by decide
  apply en_X7_open
  simp (disch := omega) only [B_X7_open_0, sh26, lt26, en_ops, en_opc, iI_add, iI_mul, iI_sub, jL_add, jL_mul, iI_le, iI_lt, iI_eq, iI_eq0, iI_lt0, iI_0le, iI_le0, iI_0lt, jL_iI, iI_jL, lc_eq, lc_lt, lc_le, lc_ge, lc_gt, Nat.sub_zero, Nat.zero_le, true_and, and_true, Nat.reduceAdd, Nat.reduceLeDiff]
  refine ⟨⟨by rw [a1]; decide, by rw [a1]; decide, by decide⟩, ?_⟩
  rw [e6]
  refine t_min (d := d + 1) (x := (n : Int)) (y := 600) (by omega) (by omega) (by decide) (by decide) ?_
  rw [if_pos (show (n : Int) ≤ 600 by omega)]
  simp (disch := omega) only [sh26, lt26, en_ops, en_opc, iI_add, iI_mul, iI_sub, jL_add, jL_mul, iI_le, iI_lt, iI_eq, iI_eq0, iI_lt0, iI_0le, iI_le0, iI_0lt, jL_iI, iI_jL, lc_eq, lc_lt, lc_le, lc_ge, lc_gt, Nat.sub_zero, Nat.zero_le, true_and, and_true, Nat.reduceAdd, Nat.reduceLeDiff]
  have F : Fx (fun a j => a = 26) hi (en_up (en_up (en_up (en_up (en_up hi 26 1 (iI (n : Int))) 26 2 (iI 0)) 26 7 (iI 0)) 26 8 (iI (-1))) 26 3 (iI 0)) := Fx.up (Fx.up (Fx.up (Fx.up (Fx.up Fx.rf rfl) rfl) rfl) rfl) rfl
  refine t_step (d := d) (X := (Tb, n)) (p := 0) up_at ⟨⟨hT.1, fun j hj => ⟨(hT.2 j hj).1, by rw [F 1 j (by omega)]; exact (hT.2 j hj).2⟩⟩, ?_⟩ (Nat.zero_le _) ?_ ?_ ?_ (fun hi' F' X' H' => ?_)
  · rw [up_ne (Or.inr (by decide)), up_ne (Or.inr (by decide)), up_ne (Or.inr (by decide)), up_ne (Or.inr (by decide)), up_at]
  · rw [up_ne (Or.inr (by decide)), up_ne (Or.inr (by decide)), up_ne (Or.inr (by decide)), up_at]; rfl
  · rw [up_ne (Or.inr (by decide)), up_ne (Or.inr (by decide)), up_at]
  · rw [up_ne (Or.inr (by decide)), up_at]
  · simp (disch := omega) only [en_ops, en_opc, iI_add, iI_mul, iI_sub, jL_add, jL_mul, iI_le, iI_lt, iI_eq, iI_eq0, iI_lt0, iI_0le, iI_le0, iI_0lt, jL_iI, iI_jL, lc_eq, lc_lt, lc_le, lc_ge, lc_gt, Nat.sub_zero, Nat.zero_le, true_and, and_true, Nat.reduceAdd, Nat.reduceLeDiff]
    exact H hi' (F.tr (F'.mono (fun a j g => g.1))) X' H'
/-- a reading's state: a fault, or the token's place -/
abbrev tZ : Type := (Nat × Nat) ⊕ Nat
def tkX (X : tTx) (z : tZ) (hi : en_I) : Prop := match z with
  | .inl e => tkF e.1 e.2 hi
  | .inr q => tkH X q hi
def zFl (k : Nat) (z : tZ) : tZ := match z with
  | .inl e => .inl e
  | .inr q => .inl (k, q)
def zSt (X : tTx) (z : tZ) : tZ := match z with
  | .inl e => .inl e
  | .inr q => .inr (nxE X q)
def zSg (X : tTx) (c : Nat) (z : tZ) : tZ := match z with
  | .inl e => .inl e
  | .inr q => if sgE X q c then .inr (nxE X q) else .inl (1, q)
def zWd (X : tTx) (w : Nat) (z : tZ) : tZ := match z with
  | .inl e => .inl e
  | .inr q => if wdE X q = w then .inr (nxE X q) else .inl (1, q)
def zNm (X : tTx) (lo up : Int) (z : tZ) : tZ := match z with
  | .inl e => .inl e
  | .inr q => if kdE X q = 1 then (if lo ≤ (nvE X q : Int) ∧ (nvE X q : Int) ≤ up then .inr (nxE X q) else .inl (2, q)) else .inl (1, q)
def zWo (X : tTx) (z : tZ) : Nat := match z with
  | .inl _ => 0
  | .inr q => wdE X q
def zVa (X : tTx) (z : tZ) : Nat := match z with
  | .inl _ => 0
  | .inr q => nvE X q
def zKd (X : tTx) (z : tZ) : Nat := match z with
  | .inl _ => 4
  | .inr q => kdE X q
def pkJ (j : Nat) : Nat := wlF (fun i => ((en_tb j).getD i 0).toInt.toNat) (en_tb j).length
theorem tkX.fx {z : tZ} {P : Nat → Nat → Prop} {hi' : en_I} (h : tkX X z hi) (F : Fx P hi hi') (h26 : ∀ j, ¬ P 26 j) : tkX X z hi' := by
  rcases z with e | q
  · exact tkF.fx (k := e.1) (pl := e.2) h F h26
  · exact tkH.fx (q := q) h F h26
theorem tkX.k {z : tZ} (h : tkX X z hi) : hi 26 3 = iI (zKd X z : Int) := by
  rcases z with e | q
  · exact h.2.2.2
  · exact h.2.2.2.2.2.1
theorem zKd_le (z : tZ) : zKd X z ≤ 4 := by
  rcases z with e | q
  · exact Nat.le_refl _
  · exact Nat.le_succ_of_le (kd_le X q)
end
