/-! a beach begun: the shore, the state -/
def bPn (f : Nat → Nat → Nat → Int) : Int := tot (fun c z k => if k = 2 then f c z k else 0)
def bEnv (W : zW) (B : bSt) : hEnv := ((zE W).1, bC B, bZ B, bL B, bSf B, bSn B, bLf B, bLn B)
def bShr (B : bSt) : zSh := ((bF B, bR B, fun _ => 0, fun i => if i = 0 then tot (bF B) else 0, bPn (bF B), 0), 0, fun _ => (0, 0), fun _ _ => -1)
def zBe (W : zW) (B : bSt) : zW := (bEnv W B, W.2.1, W.2.2.1, bShr B, (0, zIm W), (0, zTp W), -1, zRf W)
def beR0 (W : zW) (n : Nat) : tZ × bSt := blF (zTp W, n) 62 0 (.inr (skE (zTp W, n) 0)) b0S
def beachW (W : zW) (n : Nat) : zW := match (beR0 W n).1 with
  | .inl e => zTx W (e.2 : Int)
  | .inr _ => zBe W (beR0 W n).2
def beachA (W : zW) (n : Nat) : Int := match (beR0 W n).1 with
  | .inl e => (e.1 : Int) - 10
  | .inr _ => bC (beR0 W n).2
theorem beR0_ok {W : zW} {m q : Nat} (h : (beR0 W m).1 = .inr q) : bOK 60 (beR0 W m).2 :=
  (bl_ok (X := (zTp W, m)) 62 0 (.inr (skE (zTp W, m) 0)) b0S rfl (by decide) (fun g => absurd g (by decide)) (fun _ _ => b0_ok) q h).2
theorem tot_flat {f : Nat → Nat → Nat → Int} : sumTo 216 (fun j => f (j / 18) (j / 3 % 6) (j % 3)) = tot f := by
  show sumTo (12 * 18) (fun j => f (j / 18) (j / 3 % 6) (j % 3)) = sumTo 12 (wP f 6)
  rw [sumTo_blk]
  refine sumTo_congr (fun c hc => ?_)
  show sumTo (6 * 3) (fun j => f ((18 * c + j) / 18) ((18 * c + j) / 3 % 6) ((18 * c + j) % 3)) = sumTo 6 (aP f c)
  rw [sumTo_blk]
  refine sumTo_congr (fun z hz => sumTo_congr (fun k hk => ?_))
  show f ((18 * c + (3 * z + k)) / 18) ((18 * c + (3 * z + k)) / 3 % 6) ((18 * c + (3 * z + k)) % 3) = f c z k
  rw [show (18 * c + (3 * z + k)) / 18 = c by omega, show (18 * c + (3 * z + k)) / 3 % 6 = z by omega, show (18 * c + (3 * z + k)) % 3 = k by omega]
theorem zOK.be {W : zW} {n : Nat} {B : bSt} (h : zOK n W) (hB : bOK 60 B) : zOK (n + 1) (zBe W B) := by
  obtain ⟨h1, h2, h3, h4, h5, h6, h7, h8, h9, h10, h11⟩ := h
  obtain ⟨⟨c1, c2⟩, ⟨s1, s2⟩, -, -, -, -, ⟨f1, f2, f3⟩, r1, w1, sp, lo⟩ := hB
  have t6 : tot (bF B) ≤ 599940 := by
    have : tot (bF B) ≤ 9999 * ((60 : Nat) : Int) := f3
    omega
  refine ⟨⟨Nat.zero_le _, fun j hj => absurd hj (Nat.not_lt_zero _)⟩, h2, h3, Nat.zero_le _, h5, h6, ⟨fun c _ => w1 c, sp⟩, lo, ⟨c2, s2⟩, ?_, fun i hi => absurd hi (Nat.not_lt_zero _)⟩
  refine ⟨⟨fun c z k => (f1 c z k).1, fun c z k hz => f2 c z k (Or.inr (Or.inl hz)), fun c z k hc => f2 c z k (Or.inl hc), ?_⟩, ?_, fun _ c _ => r1 c, ⟨Int.le_refl _, by show (0 : Int) ≤ 600; decide⟩, ⟨Nat.zero_le _, fun i hi => absurd hi (Nat.not_lt_zero _)⟩, fun c z _ _ => ⟨Int.le_refl _, by show (-1 : Int) ≤ 999999; decide⟩, fun _ c z _ _ _ => rfl⟩
  · show tot (bF B) ≤ 10000000
    omega
  · show tot (bF B) ≤ 600000 + 999 * ((n + 1 : Nat) : Int) + 7992 * 0
    omega
theorem zOK.beach {W : zW} {n m : Nat} (h : zOK n W) : zOK (n + 1) (beachW W m) := by
  unfold beachW
  rcases hr : (beR0 W m).1 with e1 | q
  · exact h.tx
  · exact h.be (beR0_ok hr)
section
variable {G : en_G} {d : Nat} {K : en_K} {X : tTx} {B : bSt} {p : Nat} {E : hEnv} {hi : en_I} {hl : en_L} {hr : en_F} {xc xs : Nat}
theorem t_begin (hp : isPl p) (hpR : plR p hr) (hS : shR 16 hr) (hP : bpH p B hi) (hB : bOK 60 B) (e1 : E.2.1 = bC B) (e2 : E.2.2.1 = bZ B) (e3 : E.2.2.2.1 = bL B) (H : ∀ hi', Fr (fun x => 16 ≤ x ∧ x ≤ 23) hi hi' → xcH 16 E (bShr B) hi' → K (.inl none) hi' hl hr) : en_Call G (d + 2) xc xs Y_X6_begin wN wN [.ref 16, .ref p] hi hl hr K := by
  obtain ⟨p0, p1, p2, p3, p4, p5, p6, p7⟩ := hp.sh
  have q0 : p < 134 := by omega
  have q1 : p + 1 < 134 := by omega
  obtain ⟨r2, r3, r4, -⟩ := id hpR
  have g2 : hr 16 2 = .ref 17 := hS.1
  have g3 : hr 16 3 = .ref 18 := hS.2.1
  have g4 : hr 16 4 = .ref 19 := hS.2.2.1
  have g5 : hr 16 5 = .ref 20 := hS.2.2.2.1
  have g6 : hr 16 6 = .ref 21 := hS.2.2.2.2.1
  have g9 : hr 16 9 = .ref 23 := hS.2.2.2.2.2.2
  have lt23 : 23 < 134 := by decide
  apply en_X6_begin
  simp (disch := omega) only [B_X6_begin_0, sh16, lt16, p0, q0, p2, p3, sh18, sh19, r3, r4, g3, g4, g5, List.map_nil, List.sum_nil, row_ne, up_row, row_at, en_ops, en_opc, iI_add, iI_mul, iI_sub, jL_add, jL_mul, iI_le, iI_lt, iI_eq, iI_eq0, iI_lt0, iI_0le, iI_le0, iI_0lt, jL_iI, iI_jL, lc_eq, lc_lt, lc_le, lc_ge, lc_gt, Nat.sub_zero, Nat.zero_le, true_and, and_true, Nat.reduceAdd, Nat.reduceLeDiff]
  refine ⟨12, 0, 0, rfl, rfl, rfl, by decide, by omega, by decide, by decide, 12, 0, 0, rfl, rfl, rfl, by decide, by omega, by decide, by decide, ?_⟩
  refine t_fill (d := d) (x := 20) (by decide) (by decide) (by decide) (fun h2 F2 E2 => ?_)
  have a0 : h2 16 0 = hi p 0 := by
    rw [F2 16 (by decide)]
    simp (disch := omega) only [row_ne, up_row, up_ne, up_at]
  have a1 : h2 16 1 = hi p 1 := by
    rw [F2 16 (by decide)]
    simp (disch := omega) only [row_ne, up_row, up_ne, up_at]
  have a18 : ∀ j, j < 12 → h2 18 j = hi (p + 2) j := fun j hj => by
    rw [F2 18 (by decide)]
    simp (disch := omega) only [row_ne, up_row, row_at]
    exact cpy0 hj
  have a19 : ∀ j, j < 12 → h2 19 j = hi (p + 3) j := fun j hj => by
    rw [F2 19 (by decide)]
    simp (disch := omega) only [row_ne, up_row, row_at]
    exact cpy0 hj
  have o2 : ∀ x, x < 16 ∨ 23 < x → h2 x = hi x := fun x hx => by
    rw [F2 x (by omega)]
    simp (disch := omega) only [row_ne, up_row]
  clear F2
  simp (disch := omega) only [sh16, lt16, g6, en_ops, en_opc, iI_add, iI_mul, iI_sub, jL_add, jL_mul, iI_le, iI_lt, iI_eq, iI_eq0, iI_lt0, iI_0le, iI_le0, iI_0lt, jL_iI, iI_jL, lc_eq, lc_lt, lc_le, lc_ge, lc_gt, Nat.sub_zero, Nat.zero_le, true_and, and_true, Nat.reduceAdd, Nat.reduceLeDiff]
  refine t_fill (d := d) (x := 21) (by decide) (by decide) (by decide) (fun h3 F3 E3 => ?_)
  simp (disch := omega) only [sh16, lt16, g9, en_ops, en_opc, iI_add, iI_mul, iI_sub, jL_add, jL_mul, iI_le, iI_lt, iI_eq, iI_eq0, iI_lt0, iI_0le, iI_le0, iI_0lt, jL_iI, iI_jL, lc_eq, lc_lt, lc_le, lc_ge, lc_gt, Nat.sub_zero, Nat.zero_le, true_and, and_true, Nat.reduceAdd, Nat.reduceLeDiff]
  refine t_fill (d := d) (x := 23) (by decide) (by decide) (by decide) (fun h4 F4 E4 => ?_)
  have b8 : h4 16 8 = iI 0 := by rw [F4 16 (by decide), up_ne (Or.inr (by decide)), up_ne (Or.inr (by decide)), up_at]
  have b11 : h4 16 11 = iI 0 := by rw [F4 16 (by decide), up_ne (Or.inr (by decide)), up_at]
  have b10 : h4 16 10 = iI 0 := by rw [F4 16 (by decide), up_at]
  have b0 : ∀ j, j < 2 → h4 16 j = h3 16 j := fun j hj => by rw [F4 16 (by decide), up_ne (Or.inr (by omega)), up_ne (Or.inr (by omega)), up_ne (Or.inr (by omega))]
  have o4 : ∀ x, x ≠ 16 → x ≠ 23 → h4 x = h3 x := fun x x1 x2 => by rw [F4 x x2, up_row x1, up_row x1, up_row x1]
  clear F4
  simp (disch := omega) only [sh16, lt16, g2, en_ops, en_opc, iI_add, iI_mul, iI_sub, jL_add, jL_mul, iI_le, iI_lt, iI_eq, iI_eq0, iI_lt0, iI_0le, iI_le0, iI_0lt, jL_iI, iI_jL, lc_eq, lc_lt, lc_le, lc_ge, lc_gt, Nat.sub_zero, Nat.zero_le, true_and, and_true, Nat.reduceAdd, Nat.reduceLeDiff]
  refine t_fill (d := d) (x := 17) (by decide) (by decide) (by decide) (fun h5 F5 E5 => ?_)
  simp (disch := omega) only [en_ops, en_opc, iI_add, iI_mul, iI_sub, jL_add, jL_mul, iI_le, iI_lt, iI_eq, iI_eq0, iI_lt0, iI_0le, iI_le0, iI_0lt, jL_iI, iI_jL, lc_eq, lc_lt, lc_le, lc_ge, lc_gt, Nat.sub_zero, Nat.zero_le, true_and, and_true, Nat.reduceAdd, Nat.reduceLeDiff]
  have oA : ∀ x, x < 16 ∨ 23 < x → h5 x = hi x := fun x hx => by rw [F5 x (by omega), o4 x (by omega) (by omega), F3 x (by omega), o2 x hx]
  have k0 : ∀ j, j < 2 → h5 16 j = hi p j := fun j hj => by
    rw [F5 16 (by decide), b0 j hj, F3 16 (by decide)]
    rcases (show j = 0 ∨ j = 1 by omega) with rfl | rfl
    · exact a0
    · exact a1
  have k18 : ∀ j, j < 12 → h5 18 j = hi (p + 2) j := fun j hj => by rw [F5 18 (by decide), o4 18 (by decide) (by decide), F3 18 (by decide)]; exact a18 j hj
  have k19 : ∀ j, j < 12 → h5 19 j = hi (p + 3) j := fun j hj => by rw [F5 19 (by decide), o4 19 (by decide) (by decide), F3 19 (by decide)]; exact a19 j hj
  have k20 : ∀ j, j < 12 → h5 20 j = iI 0 := fun j hj => by rw [F5 20 (by decide), o4 20 (by decide) (by decide), F3 20 (by decide)]; exact E2 j hj
  have k21 : ∀ j, j < 72 → h5 21 j = iI (-1) := fun j hj => by rw [F5 21 (by decide), o4 21 (by decide) (by decide)]; exact E3 j hj
  have k23 : ∀ j, j < 5 → h5 23 j = iI 0 := fun j hj => by rw [F5 23 (by decide)]; exact E4 j hj
  have k17 : ∀ j, j < 216 → h5 17 j = iI 0 := fun j hj => E5 j hj
  have k8 : h5 16 8 = iI 0 := by rw [F5 16 (by decide)]; exact b8
  have k10 : h5 16 10 = iI 0 := by rw [F5 16 (by decide)]; exact b10
  have k11 : h5 16 11 = iI 0 := by rw [F5 16 (by decide)]; exact b11
  have hv0 : ∀ j, j < 216 → hi (p + 1) j = iI (bF B (j / 18) (j / 3 % 6) (j % 3)) := fun j hj => by
    have := hP.2.2.1 (j / 18) (j / 3 % 6) (j % 3) (by omega) (by omega) (by omega)
    rw [show (j / 18 * 6 + j / 3 % 6) * 3 + j % 3 = j by omega] at this
    exact this
  -- the heaps, one by one
  have L95 : ∀ i : Nat, i ≤ 216 → ∀ h9 : en_I, Fx (fun a j => a = 17 ∨ (a = 16 ∧ j = 10) ∨ (a = 23 ∧ j = 0)) h5 h9 → (∀ j, j < 216 → h9 17 j = iI (if j < i then bF B (j / 18) (j / 3 % 6) (j % 3) else 0)) → h9 16 10 = iI (sumTo i (fun j => if j % 3 = 2 then bF B (j / 18) (j / 3 % 6) (j % 3) else 0)) → h9 23 0 = iI (sumTo i (fun j => bF B (j / 18) (j / 3 % 6) (j % 3))) → en_V G Y_X6_begin (d + 2) wN wN K 95 [.ref 16, .ref p, .int (iI (i : Int))] [] h9 hl hr xc xs := by
    refine lp 216 (fun h9 F9 A9 P9 S9 => ?_) (fun i hi9 ih h9 F9 A9 P9 S9 => ?_)
    · apply s_X6_begin_95
      simp (disch := omega) only [B_X6_begin_95, en_ops, en_opc, iI_add, iI_mul, iI_sub, jL_add, jL_mul, iI_le, iI_lt, iI_eq, iI_eq0, iI_lt0, iI_0le, iI_le0, iI_0lt, jL_iI, iI_jL, lc_eq, lc_lt, lc_le, lc_ge, lc_gt, Nat.sub_zero, Nat.zero_le, true_and, and_true, Nat.reduceAdd, Nat.reduceLeDiff]
      refine ⟨fun _ => ?_, fun g => absurd (show (216 : Int) ≤ ((216 : Nat) : Int) by decide) g⟩
      have w : ∀ x, x ≠ 16 → x ≠ 17 → x ≠ 23 → h9 x = h5 x := fun x x1 x2 x3 => F9.row (fun j g => by omega)
      refine H h9 (fun x hx => by rw [w x (by omega) (by omega) (by omega)]; exact oA x (by omega)) ⟨⟨⟨?_, ?_, ?_, ?_, fun c z k hc hz hk => ?_⟩, fun c hc => ?_, fun c hc => ?_, fun c hc => ?_, fun i hi9 => ?_, ?_, ?_⟩, ?_, fun i hi9 => absurd hi9 (Nat.not_lt_zero _), fun c z hc hz => ?_⟩
      · rw [F9 16 0 (by omega), k0 0 (by decide), e1]; exact hP.1
      · rw [F9 16 1 (by omega), k0 1 (by decide), e2]; exact hP.2.1
      · rw [e1]; exact hB.1.2
      · rw [e2]; exact hB.2.1.2
      · rw [show (16 : Nat) + 1 = 17 from rfl, A9 _ (by omega), if_pos (by omega), show ((c * 6 + z) * 3 + k) / 18 = c by omega, show ((c * 6 + z) * 3 + k) / 3 % 6 = z by omega, show ((c * 6 + z) * 3 + k) % 3 = k by omega]
        rfl
      · rw [show (16 : Nat) + 2 = 18 from rfl, F9 18 c (by omega), k18 c hc]; exact hP.2.2.2.1 c hc
      · rw [show (16 : Nat) + 3 = 19 from rfl, F9 19 c (by omega), k19 c hc, e3]; exact hP.2.2.2.2.1 c hc
      · rw [show (16 : Nat) + 4 = 20 from rfl, F9 20 c (by omega), k20 c hc]; rfl
      · show h9 23 i = iI (if i = 0 then tot (bF B) else 0)
        by_cases g : i = 0
        · rw [if_pos g, g, S9, tot_flat]
        · rw [if_neg g, F9 23 i (by omega)]; exact k23 i hi9
      · show h9 16 10 = iI (bPn (bF B))
        rw [P9]
        exact congrArg iI (tot_flat (f := fun c z k => if k = 2 then bF B c z k else 0))
      · rw [F9 16 11 (by omega), k11]; rfl
      · rw [F9 16 8 (by omega), k8]; rfl
      · show h9 21 (c * 6 + z) = iI (-1)
        rw [F9 21 _ (by omega)]; exact k21 _ (by omega)
    · have v9 : h9 (p + 1) i = iI (bF B (i / 18) (i / 3 % 6) (i % 3)) := by
        rw [F9 (p + 1) i (by omega), oA (p + 1) (by omega)]; exact hv0 i hi9
      apply s_X6_begin_95
      simp (disch := omega) only [B_X6_begin_95, p0, q0, p1, q1, r2, sh16, lt16, en_ops, en_opc, iI_add, iI_mul, iI_sub, jL_add, jL_mul, iI_le, iI_lt, iI_eq, iI_eq0, iI_lt0, iI_0le, iI_le0, iI_0lt, jL_iI, iI_jL, lc_eq, lc_lt, lc_le, lc_ge, lc_gt, Nat.sub_zero, Nat.zero_le, true_and, and_true, Nat.reduceAdd, Nat.reduceLeDiff]
      refine ⟨fun g => absurd g (by omega), fun _ => ⟨i, rfl, hi9, ?_⟩⟩
      rw [v9]
      have z9 : h9 (16 + 1) i = iI 0 := by
        rw [show (16 : Nat) + 1 = 17 from rfl, A9 i hi9, if_neg (by omega)]
      refine t_add (d := d) (a := 16) (i := i) (n := bF B (i / 18) (i / 3 % 6) (i % 3)) (v := 0) (p := sumTo i (fun j => if j % 3 = 2 then bF B (j / 18) (j / 3 % 6) (j % 3) else 0)) (Or.inl rfl) hS hi9 z9 P9 ?_
      have m17 : ∀ j, addH 16 i h9 (0 + bF B (i / 18) (i / 3 % 6) (i % 3)) (sumTo i (fun j => if j % 3 = 2 then bF B (j / 18) (j / 3 % 6) (j % 3) else 0) + bF B (i / 18) (i / 3 % 6) (i % 3)) 17 j = if j = i then iI (bF B (i / 18) (i / 3 % 6) (i % 3)) else h9 17 j := fun j => by
        unfold addH
        rw [Int.zero_add]
        by_cases g3 : i % 3 = 2
        · rw [if_pos g3, up_ne (Or.inl (by decide))]
          by_cases g : j = i
          · rw [if_pos g, g]; exact up_at
          · rw [if_neg g]; exact up_ne (Or.inr g)
        · rw [if_neg g3]
          by_cases g : j = i
          · rw [if_pos g, g]; exact up_at
          · rw [if_neg g]; exact up_ne (Or.inr g)
      have m10 : addH 16 i h9 (0 + bF B (i / 18) (i / 3 % 6) (i % 3)) (sumTo i (fun j => if j % 3 = 2 then bF B (j / 18) (j / 3 % 6) (j % 3) else 0) + bF B (i / 18) (i / 3 % 6) (i % 3)) 16 10 = iI (sumTo (i + 1) (fun j => if j % 3 = 2 then bF B (j / 18) (j / 3 % 6) (j % 3) else 0)) := by
        rw [sumTo_s]
        unfold addH
        by_cases g3 : i % 3 = 2
        · rw [if_pos g3, if_pos g3, up_at]
        · rw [if_neg g3, if_neg g3, Int.add_zero, up_ne (Or.inl (by decide))]; exact P9
      have mo : Fx (fun a j => a = 17 ∨ (a = 16 ∧ j = 10) ∨ (a = 23 ∧ j = 0)) h9 (addH 16 i h9 (0 + bF B (i / 18) (i / 3 % 6) (i % 3)) (sumTo i (fun j => if j % 3 = 2 then bF B (j / 18) (j / 3 % 6) (j % 3) else 0) + bF B (i / 18) (i / 3 % 6) (i % 3))) := by
        unfold addH
        by_cases g3 : i % 3 = 2
        · rw [if_pos g3]; exact Fx.up (Fx.up Fx.rf (Or.inl rfl)) (Or.inr (Or.inl ⟨rfl, rfl⟩))
        · rw [if_neg g3]; exact Fx.up Fx.rf (Or.inl rfl)
      have m23 : addH 16 i h9 (0 + bF B (i / 18) (i / 3 % 6) (i % 3)) (sumTo i (fun j => if j % 3 = 2 then bF B (j / 18) (j / 3 % 6) (j % 3) else 0) + bF B (i / 18) (i / 3 % 6) (i % 3)) 23 0 = iI (sumTo i (fun j => bF B (j / 18) (j / 3 % 6) (j % 3))) := by
        unfold addH
        by_cases g3 : i % 3 = 2
        · rw [if_pos g3, up_ne (Or.inl (by decide)), up_ne (Or.inl (by decide))]; exact S9
        · rw [if_neg g3, up_ne (Or.inl (by decide))]; exact S9
      generalize addH 16 i h9 (0 + bF B (i / 18) (i / 3 % 6) (i % 3)) (sumTo i (fun j => if j % 3 = 2 then bF B (j / 18) (j / 3 % 6) (j % 3) else 0) + bF B (i / 18) (i / 3 % 6) (i % 3)) = h10 at m17 m10 mo m23 ⊢
      have v10 : h10 (p + 1) i = iI (bF B (i / 18) (i / 3 % 6) (i % 3)) := by rw [mo (p + 1) i (by omega)]; exact v9
      simp (disch := omega) only [p0, q0, p1, q1, r2, sh16, lt16, g9, sh23, lt23, en_ops, en_opc, iI_add, iI_mul, iI_sub, jL_add, jL_mul, iI_le, iI_lt, iI_eq, iI_eq0, iI_lt0, iI_0le, iI_le0, iI_0lt, jL_iI, iI_jL, lc_eq, lc_lt, lc_le, lc_ge, lc_gt, Nat.sub_zero, Nat.zero_le, true_and, and_true, Nat.reduceAdd, Nat.reduceLeDiff]
      refine ⟨0, rfl, by decide, i, rfl, hi9, 0, rfl, by decide, ?_⟩
      rw [m23, v10]
      simp (disch := omega) only [en_ops, en_opc, iI_add, iI_mul, iI_sub, jL_add, jL_mul, iI_le, iI_lt, iI_eq, iI_eq0, iI_lt0, iI_0le, iI_le0, iI_0lt, jL_iI, iI_jL, lc_eq, lc_lt, lc_le, lc_ge, lc_gt, Nat.sub_zero, Nat.zero_le, true_and, and_true, Nat.reduceAdd, Nat.reduceLeDiff]
      have U : Fx (fun a j => a = 23 ∧ j = 0) h10 (en_up h10 23 0 (iI (sumTo i (fun j => bF B (j / 18) (j / 3 % 6) (j % 3)) + bF B (i / 18) (i / 3 % 6) (i % 3)))) := Fx.up Fx.rf ⟨rfl, rfl⟩
      refine ih _ ((F9.tr mo).tr (U.mono (fun a j g => Or.inr (Or.inr g)))) (fun j hj => ?_) ?_ ?_
      · rw [U 17 j (by omega), m17 j]
        by_cases g : j = i
        · rw [if_pos g, if_pos (by omega), g]
        · rw [if_neg g, A9 j hj]
          by_cases g2 : j < i
          · rw [if_pos g2, if_pos (by omega)]
          · rw [if_neg g2, if_neg (by omega)]
      · rw [U 16 10 (by omega)]; exact m10
      · rw [up_at, sumTo_s]
  refine L95 0 (by decide) h5 Fx.rf (fun j hj => ?_) ?_ ?_
  · rw [k17 j hj, if_neg (by omega)]
  · rw [k10]; rfl
  · rw [k23 0 (by decide)]; rfl
end
