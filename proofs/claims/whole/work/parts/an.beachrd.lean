/-! the class reads a beach -/
def Pbe (p a j : Nat) : Prop := (a = 26 ∧ 1 < j) ∨ (a = 28 ∧ 1 ≤ j ∧ j ≤ 3) ∨ (p ≤ a ∧ a ≤ p + 5)
/-- the plan as far as it is read -/
def bpH (p : Nat) (B : bSt) (hi : en_I) : Prop := hi p 0 = iI (bC B : Int) ∧ hi p 1 = iI (bZ B : Int) ∧ (∀ c z k, c < 12 → z < 6 → k < 3 → hi (p + 1) ((c * 6 + z) * 3 + k) = iI (bF B c z k)) ∧ (∀ c, c < 12 → hi (p + 2) c = iI (bR B c)) ∧ (∀ c, c < 12 → hi (p + 3) c = iI (bL B c)) ∧
  (hi p 6 = iI (bSn B : Int) ∧ ∀ j, j < bSn B → hi (p + 4) (4 * j) = iI ((((bSf B j).1 * 6 + (bSf B j).2.1) * 3 + (bSf B j).2.2.1 : Nat) : Int) ∧ hi (p + 4) (4 * j + 1) = iI (bSf B j).2.2.2) ∧
  (hi p 8 = iI (bLn B : Int) ∧ ∀ j, j < bLn B → hi (p + 5) (4 * j) = iI ((bLf B j).1 : Int) ∧ hi (p + 5) (4 * j + 1) = iI ((bLf B j).2.1 : Int) ∧ hi (p + 5) (4 * j + 2) = iI (bLf B j).2.2.1 ∧ hi (p + 5) (4 * j + 3) = iI (bLf B j).2.2.2)
def bgH (i : Nat) (B : bSt) (hi : en_I) : Prop := hi 28 1 = iI (bTc B : Int) ∧ hi 28 2 = iI (bTs B : Int) ∧ hi 28 3 = iI (if bTc B + bTs B < i then 1 else 0)
section
variable {G : en_G} {d : Nat} {K : en_K} {X : tTx} {z : tZ} {B : bSt} {p i q : Nat} {hi : en_I} {hl : en_L} {hr : en_F} {xc xs : Nat}
theorem bpH.fx {P : Nat → Nat → Prop} {hi' : en_I} (h : bpH p B hi) (F : Fx P hi hi') (hP : ∀ a j, p ≤ a → a ≤ p + 5 → ¬ P a j) : bpH p B hi' := by
  have e : ∀ a, p ≤ a → a ≤ p + 5 → hi' a = hi a := fun a g1 g2 => F.row (fun j => hP a j g1 g2)
  unfold bpH
  rw [e p (by omega) (by omega), e (p + 1) (by omega) (by omega), e (p + 2) (by omega) (by omega), e (p + 3) (by omega) (by omega), e (p + 4) (by omega) (by omega), e (p + 5) (by omega) (by omega)]
  exact h
theorem Fx.be {h1 h2 : en_I} (h : Fx P26 h1 h2) : Fx (Pbe p) h1 h2 := h.mono (fun a j g => Or.inl g)
/-- the word of any clause but cells and sizes is passed -/
theorem t_begO {full : Prop} [Decidable full] (hR : hr 26 0 = .ref 1) (hR2 : hr 28 0 = .ref 26) (hq : q < X.2) (hX : tqS X hi) (h : tkX X (.inr q) hi) (H : ∀ hi', Fx (fun a j => (a = 26 ∧ 1 < j) ∨ (a = 28 ∧ j = 3)) hi hi' → tqS X hi' → tkX X (if full then .inl (3, q) else .inr (nxE X q)) hi' → hi' 28 3 = iI 1 → K (.inl none) hi' hl hr) : en_Call G (d + 3) xc xs Y_X0_beginOther wN wN [.ref 28, .int (iI (if full then 1 else 0))] hi hl hr K := by
  have up3 : ∀ h1 : en_I, Fx (fun a j => a = 28 ∧ j = 3) h1 (en_up h1 28 3 (iI 1)) := fun h1 => Fx.up Fx.rf ⟨rfl, rfl⟩
  apply en_X0_beginOther
  simp (disch := omega) only [B_X0_beginOther_0, sh28, lt28, sh26, lt26, hR2, en_ops, en_opc, iI_add, iI_mul, iI_sub, jL_add, jL_mul, iI_le, iI_lt, iI_eq, iI_eq0, iI_lt0, iI_0le, iI_le0, iI_0lt, jL_iI, iI_jL, lc_eq, lc_lt, lc_le, lc_ge, lc_gt, Nat.sub_zero, Nat.zero_le, true_and, and_true, Nat.reduceAdd, Nat.reduceLeDiff]
  by_cases g : full
  · rw [if_pos g]
    refine ⟨fun w => absurd w (by decide), fun _ => ?_⟩
    refine t_fail (X := X) (d := d + 1) (k := 3) (z := .inr q) (by decide) hX h (fun h1 F1 X1 H1 => ?_)
    simp (disch := omega) only [sh28, lt28, sh26, lt26, hR2, en_ops, en_opc, iI_add, iI_mul, iI_sub, jL_add, jL_mul, iI_le, iI_lt, iI_eq, iI_eq0, iI_lt0, iI_0le, iI_le0, iI_0lt, jL_iI, iI_jL, lc_eq, lc_lt, lc_le, lc_ge, lc_gt, Nat.sub_zero, Nat.zero_le, true_and, and_true, Nat.reduceAdd, Nat.reduceLeDiff]
    refine ⟨(by first | exact Or.inr rfl | exact Or.inr trivial | exact Or.inl trivial), ?_⟩
    have U := up3 h1
    refine t_stepZ (d := d) (z := .inl (3, q)) hR (X1.fx U (fun j w => by omega) (fun w => by omega)) (tkX.fx (X := X) (z := .inl (3, q)) H1 U (fun j w => by omega)) (fun q2 e => by cases e) (fun h2 F2 X2 H2 => ?_)
    simp (disch := omega) only [en_ops, en_opc, iI_add, iI_mul, iI_sub, jL_add, jL_mul, iI_le, iI_lt, iI_eq, iI_eq0, iI_lt0, iI_0le, iI_le0, iI_0lt, jL_iI, iI_jL, lc_eq, lc_lt, lc_le, lc_ge, lc_gt, Nat.sub_zero, Nat.zero_le, true_and, and_true, Nat.reduceAdd, Nat.reduceLeDiff]
    refine H h2 (((F1.mono (fun a j w => Or.inl w)).tr (U.mono (fun a j w => Or.inr w))).tr (F2.mono (fun a j w => Or.inl w))) X2 (by rw [if_pos g]; exact H2) ?_
    rw [F2 28 3 (fun w => by have := w.1; omega), up_at]
  · rw [if_neg g]
    refine ⟨fun _ => ?_, fun w => (w (by first | trivial | rfl)).elim⟩
    refine ⟨(by first | exact Or.inr rfl | exact Or.inr trivial | exact Or.inl trivial), ?_⟩
    have U := up3 hi
    refine t_stepZ (d := d) (z := .inr q) hR (hX.fx U (fun j w => by omega) (fun w => by omega)) (tkX.fx (X := X) (z := .inr q) h U (fun j w => by omega)) (fun q2 e => by cases e; exact hq) (fun h2 F2 X2 H2 => ?_)
    simp (disch := omega) only [en_ops, en_opc, iI_add, iI_mul, iI_sub, jL_add, jL_mul, iI_le, iI_lt, iI_eq, iI_eq0, iI_lt0, iI_0le, iI_le0, iI_0lt, jL_iI, iI_jL, lc_eq, lc_lt, lc_le, lc_ge, lc_gt, Nat.sub_zero, Nat.zero_le, true_and, and_true, Nat.reduceAdd, Nat.reduceLeDiff]
    refine H h2 ((U.mono (fun a j w => Or.inr w)).tr (F2.mono (fun a j w => Or.inl w))) X2 (by rw [if_neg g]; exact H2) ?_
    rw [F2 28 3 (fun w => by have := w.1; omega), up_at]
/-- three numbers of a heap -/
theorem t_needHeap {nc nz : Nat} (hR : hr 26 0 = .ref 1) (hR2 : hr 28 0 = .ref 26) (hp : isPl p) (h0 : hi p 0 = iI (nc : Int)) (h1 : hi p 1 = iI (nz : Int)) (hc : 2 ≤ nc ∧ nc ≤ 12) (hz9 : 2 ≤ nz ∧ nz ≤ 6) (hX : tqS X hi) (h : tkX X z hi)
    (H : ∀ (hi' : en_I) (a b c : Nat), Fx P26 hi hi' → tqS X hi' → tkX X (zNm X 0 2 (zNm X 0 ((nz : Int) - 1) (zNm X 0 ((nc : Int) - 1) z))) hi' → a < nc → b < nz → c < 3 → (∀ q, zNm X 0 2 (zNm X 0 ((nz : Int) - 1) (zNm X 0 ((nc : Int) - 1) z)) = .inr q → a = zVa X z ∧ b = zVa X (zNm X 0 ((nc : Int) - 1) z) ∧ c = zVa X (zNm X 0 ((nz : Int) - 1) (zNm X 0 ((nc : Int) - 1) z))) → K (.inl (some (.int (iI (((a * 6 + b) * 3 + c : Nat) : Int))))) hi' hl hr) : en_Call G (d + 4) xc xs Y_X0_needHeap wN wN [.ref 28, .ref p] hi hl hr K := by
  obtain ⟨p0, p1, p2, p3, p4, p5, p6, p7⟩ := hp.sh
  have q0 : p < 134 := by omega
  apply en_X0_needHeap
  simp (disch := omega) only [B_X0_needHeap_0, sh28, lt28, sh26, lt26, hR2, p0, q0, h0, en_ops, en_opc, iI_add, iI_mul, iI_sub, jL_add, jL_mul, iI_le, iI_lt, iI_eq, iI_eq0, iI_lt0, iI_0le, iI_le0, iI_0lt, jL_iI, iI_jL, lc_eq, lc_lt, lc_le, lc_ge, lc_gt, Nat.sub_zero, Nat.zero_le, true_and, and_true, Nat.reduceAdd, Nat.reduceLeDiff]
  refine t_needNum (d := d) (lo := 0) (up := (nc : Int) - 1) (by omega) hR hX h (fun g1 v1 F1 X1 H1 a1 b1 c1 => ?_)
  have e1 : g1 p 1 = iI (nz : Int) := by rw [F1 p 1 (fun w => by have := w.1; omega)]; exact h1
  simp (disch := omega) only [sh28, lt28, sh26, lt26, hR2, p0, q0, e1, en_ops, en_opc, iI_add, iI_mul, iI_sub, jL_add, jL_mul, iI_le, iI_lt, iI_eq, iI_eq0, iI_lt0, iI_0le, iI_le0, iI_0lt, jL_iI, iI_jL, lc_eq, lc_lt, lc_le, lc_ge, lc_gt, Nat.sub_zero, Nat.zero_le, true_and, and_true, Nat.reduceAdd, Nat.reduceLeDiff]
  refine t_needNum (d := d) (lo := 0) (up := (nz : Int) - 1) (by omega) hR X1 H1 (fun g2 v2 F2 X2 H2 a2 b2 c2 => ?_)
  simp (disch := omega) only [sh28, lt28, sh26, lt26, hR2, en_ops, en_opc, iI_add, iI_mul, iI_sub, jL_add, jL_mul, iI_le, iI_lt, iI_eq, iI_eq0, iI_lt0, iI_0le, iI_le0, iI_0lt, jL_iI, iI_jL, lc_eq, lc_lt, lc_le, lc_ge, lc_gt, Nat.sub_zero, Nat.zero_le, true_and, and_true, Nat.reduceAdd, Nat.reduceLeDiff]
  refine t_needNum (d := d) (lo := 0) (up := 2) (by decide) hR X2 H2 (fun g3 v3 F3 X3 H3 a3 b3 c3 => ?_)
  simp (disch := omega) only [sh28, lt28, sh26, lt26, hR2, en_ops, en_opc, iI_add, iI_mul, iI_sub, jL_add, jL_mul, iI_le, iI_lt, iI_eq, iI_eq0, iI_lt0, iI_0le, iI_le0, iI_0lt, jL_iI, iI_jL, lc_eq, lc_lt, lc_le, lc_ge, lc_gt, Nat.sub_zero, Nat.zero_le, true_and, and_true, Nat.reduceAdd, Nat.reduceLeDiff]
  refine t_heapAt (d := d + 2) (c := v1) (z := v2) (k := v3) ?_
  simp (disch := omega) only [en_ops, en_opc, iI_add, iI_mul, iI_sub, jL_add, jL_mul, iI_le, iI_lt, iI_eq, iI_eq0, iI_lt0, iI_0le, iI_le0, iI_0lt, jL_iI, iI_jL, lc_eq, lc_lt, lc_le, lc_ge, lc_gt, Nat.sub_zero, Nat.zero_le, true_and, and_true, Nat.reduceAdd, Nat.reduceLeDiff]
  have hh := H g3 v1.toNat v2.toNat v3.toNat ((F1.tr F2).tr F3) X3 H3 (by omega) (by omega) (by omega) (fun q hq => by
    obtain ⟨r3, x3, -⟩ := zNm_i hq
    obtain ⟨r2, x2, -⟩ := zNm_i x3
    have y3 := c3 _ hq
    have y2 := c2 _ x3
    have y1 := c1 _ x2
    omega)
  rw [show ((((v1.toNat * 6 + v2.toNat) * 3 + v3.toNat : Nat)) : Int) = (v1 * 6 + v2) * 3 + v3 by omega] at hh
  exact hh
theorem t_addSpring {h n : Int} {ns : Nat} (hp : isPl p) (hpR : plR p hr) (hn : hi p 6 = iI (ns : Int)) (h8 : ns ≤ 8) (H : ∀ hi', Fx (fun a _ => p ≤ a ∧ a ≤ p + 5) hi hi' → (ns < 8 → hi' p 6 = iI ((ns + 1 : Nat) : Int) ∧ (∀ j, j ≠ 6 → hi' p j = hi p j) ∧ (∀ a, a ≠ p → a ≠ p + 4 → hi' a = hi a) ∧ ∀ j, hi' (p + 4) j = if j = 4 * ns then iI h else if j = 4 * ns + 1 then iI n else hi (p + 4) j) → K (.inl none) hi' hl hr) : en_Call G (d + 1) xc xs Y_X3_addSpring wN wN [.ref p, .int (iI h), .int (iI n)] hi hl hr K := by
  obtain ⟨p0, p1, p2, p3, p4, p5, p6, p7⟩ := hp.sh
  have q0 : p < 134 := by omega
  have q4 : p + 4 < 134 := by omega
  have r5 := hpR.2.2.2.1
  apply en_X3_addSpring
  simp (disch := omega) only [B_X3_addSpring_0, p0, q0, p4, q4, hn, r5, en_ops, en_opc, iI_add, iI_mul, iI_sub, jL_add, jL_mul, iI_le, iI_lt, iI_eq, iI_eq0, iI_lt0, iI_0le, iI_le0, iI_0lt, jL_iI, iI_jL, lc_eq, lc_lt, lc_le, lc_ge, lc_gt, Nat.sub_zero, Nat.zero_le, true_and, and_true, Nat.reduceAdd, Nat.reduceLeDiff]
  refine ⟨fun g => H hi Fx.rf (fun w => by omega), fun g => ?_⟩
  refine ⟨4 * ns, iI_eq_of (by omega), by omega, ?_⟩
  rw [up_ne (Or.inl (by omega)), hn]
  simp (disch := omega) only [en_ops, en_opc, iI_add, iI_mul, iI_sub, jL_add, jL_mul, iI_le, iI_lt, iI_eq, iI_eq0, iI_lt0, iI_0le, iI_le0, iI_0lt, jL_iI, iI_jL, lc_eq, lc_lt, lc_le, lc_ge, lc_gt, Nat.sub_zero, Nat.zero_le, true_and, and_true, Nat.reduceAdd, Nat.reduceLeDiff]
  refine ⟨4 * ns + 1, iI_eq_of (by omega), by omega, ?_⟩
  rw [up_ne (Or.inl (by omega)), up_ne (Or.inl (by omega)), hn]
  simp (disch := omega) only [en_ops, en_opc, iI_add, iI_mul, iI_sub, jL_add, jL_mul, iI_le, iI_lt, iI_eq, iI_eq0, iI_lt0, iI_0le, iI_le0, iI_0lt, jL_iI, iI_jL, lc_eq, lc_lt, lc_le, lc_ge, lc_gt, Nat.sub_zero, Nat.zero_le, true_and, and_true, Nat.reduceAdd, Nat.reduceLeDiff]
  refine H _ (Fx.up (Fx.up (Fx.up Fx.rf ⟨by omega, by omega⟩) ⟨by omega, by omega⟩) ⟨by omega, by omega⟩) (fun _ => ⟨up_at, fun j hj => ?_, fun a h1 h2 => ?_, fun j => ?_⟩)
  · rw [up_ne (Or.inr hj), up_ne (Or.inl (by omega)), up_ne (Or.inl (by omega))]
  · rw [up_row h1, up_row h2, up_row h2]
  · rw [up_ne (Or.inl (by omega))]
    by_cases e1 : j = 4 * ns
    · rw [if_pos e1, e1, up_ne (Or.inr (by omega)), up_at]
    · rw [if_neg e1]
      by_cases e2 : j = 4 * ns + 1
      · rw [if_pos e2, e2, up_at]
      · rw [if_neg e2, up_ne (Or.inr e2), up_ne (Or.inr e1)]
theorem t_addLorry {a b c e : Int} {nl : Nat} (hp : isPl p) (hpR : plR p hr) (hn : hi p 8 = iI (nl : Int)) (h4 : nl ≤ 4) (H : ∀ hi', Fx (fun a _ => p ≤ a ∧ a ≤ p + 5) hi hi' → (nl < 4 → hi' p 8 = iI ((nl + 1 : Nat) : Int) ∧ (∀ j, j ≠ 8 → hi' p j = hi p j) ∧ (∀ a, a ≠ p → a ≠ p + 5 → hi' a = hi a) ∧ ∀ j, hi' (p + 5) j = if j = 4 * nl then iI a else if j = 4 * nl + 1 then iI b else if j = 4 * nl + 2 then iI c else if j = 4 * nl + 3 then iI e else hi (p + 5) j) → K (.inl none) hi' hl hr) : en_Call G (d + 1) xc xs Y_X3_addLorry wN wN [.ref p, .int (iI a), .int (iI b), .int (iI c), .int (iI e)] hi hl hr K := by
  obtain ⟨p0, p1, p2, p3, p4, p5, p6, p7⟩ := hp.sh
  have q0 : p < 134 := by omega
  have q5 : p + 5 < 134 := by omega
  have r7 := hpR.2.2.2.2
  apply en_X3_addLorry
  simp (disch := omega) only [B_X3_addLorry_0, p0, q0, p5, q5, hn, r7, en_ops, en_opc, iI_add, iI_mul, iI_sub, jL_add, jL_mul, iI_le, iI_lt, iI_eq, iI_eq0, iI_lt0, iI_0le, iI_le0, iI_0lt, jL_iI, iI_jL, lc_eq, lc_lt, lc_le, lc_ge, lc_gt, Nat.sub_zero, Nat.zero_le, true_and, and_true, Nat.reduceAdd, Nat.reduceLeDiff]
  refine ⟨fun g => H hi Fx.rf (fun w => by omega), fun g => ?_⟩
  refine ⟨4 * nl, iI_eq_of (by omega), by omega, 4 * nl + 1, iI_eq_of (by omega), by omega, 4 * nl + 2, iI_eq_of (by omega), by omega, 4 * nl + 3, iI_eq_of (by omega), by omega, ?_⟩
  rw [up_ne (Or.inl (by omega)), up_ne (Or.inl (by omega)), up_ne (Or.inl (by omega)), up_ne (Or.inl (by omega)), hn]
  simp (disch := omega) only [en_ops, en_opc, iI_add, iI_mul, iI_sub, jL_add, jL_mul, iI_le, iI_lt, iI_eq, iI_eq0, iI_lt0, iI_0le, iI_le0, iI_0lt, jL_iI, iI_jL, lc_eq, lc_lt, lc_le, lc_ge, lc_gt, Nat.sub_zero, Nat.zero_le, true_and, and_true, Nat.reduceAdd, Nat.reduceLeDiff]
  refine H _ (Fx.up (Fx.up (Fx.up (Fx.up (Fx.up Fx.rf ⟨by omega, by omega⟩) ⟨by omega, by omega⟩) ⟨by omega, by omega⟩) ⟨by omega, by omega⟩) ⟨by omega, by omega⟩) (fun _ => ⟨up_at, fun j hj => ?_, fun a h1 h2 => ?_, fun j => ?_⟩)
  · rw [up_ne (Or.inr hj), up_ne (Or.inl (by omega)), up_ne (Or.inl (by omega)), up_ne (Or.inl (by omega)), up_ne (Or.inl (by omega))]
  · rw [up_row h1, up_row h2, up_row h2, up_row h2, up_row h2]
  · rw [up_ne (Or.inl (by omega))]
    by_cases e1 : j = 4 * nl
    · rw [if_pos e1, e1, up_ne (Or.inr (by omega)), up_ne (Or.inr (by omega)), up_ne (Or.inr (by omega)), up_at]
    · rw [if_neg e1]
      by_cases e2 : j = 4 * nl + 1
      · rw [if_pos e2, e2, up_ne (Or.inr (by omega)), up_ne (Or.inr (by omega)), up_at]
      · rw [if_neg e2]
        by_cases e3 : j = 4 * nl + 2
        · rw [if_pos e3, e3, up_ne (Or.inr (by omega)), up_at]
        · rw [if_neg e3]
          by_cases e4 : j = 4 * nl + 3
          · rw [if_pos e4, e4, up_at]
          · rw [if_neg e4, up_ne (Or.inr e4), up_ne (Or.inr e3), up_ne (Or.inr e2), up_ne (Or.inr e1)]
/-- the end of a clause: the token behind it, the plan -/
def beK (X : tTx) (p i q : Nat) (B : bSt) (hi : en_I) (hl : en_L) (hr : en_F) (K : en_K) : Prop := ∀ hi', Fx (Pbe p) hi hi' → tqS X hi' → tkX X (bA4 X B (bK (wdE X q)) (bZ1 X i B q)) hi' → (∀ q', bA4 X B (bK (wdE X q)) (bZ1 X i B q) = .inr q' → bpH p (bNx X i B q) hi' ∧ bgH (i + 1) (bNx X i B q) hi') → K (.inl none) hi' hl hr
end
