section
variable {G : en_G} {d : Nat} {K : en_K} {X : tTx} {z : tZ} {hi : en_I} {hl : en_L} {hr : en_F} {xc xs : Nat}
theorem sh28 : en_SH 28 = (0, 4) := by decide
theorem lt28 : 28 < 134 := by decide
def Pyr (y a j : Nat) : Prop := (a = 26 ∧ 1 < j) ∨ (y ≤ a ∧ a ≤ y + 4)
/-- a year as far as it is read -/
def yeI (y m : Nat) (Y : hYr) (hi : en_I) : Prop := ∀ i, i < m → hi (y + 1) i = iI (Y i).1.1 ∧ hi (y + 2) i = iI (Y i).1.2.1 ∧ hi (y + 3) i = iI (Y i).1.2.2 ∧ hi (y + 4) i = iI (Y i).2
theorem t_addW {y m : Nat} {a b c t : Int} (hy : isYe y) (hyR : yeR y hr) (hm : hi y 4 = iI (m : Int)) (h20 : m ≤ 20) (H : ∀ (hi' : en_I) (m' : Nat), Fx (fun a _ => y ≤ a ∧ a ≤ y + 4) hi hi' → hi' y 4 = iI (m' : Int) → m' ≤ 20 → (m < 20 → m' = m + 1 ∧ (∀ j, hi' (y + 1) j = if j = m then iI a else hi (y + 1) j) ∧ (∀ j, hi' (y + 2) j = if j = m then iI b else hi (y + 2) j) ∧ (∀ j, hi' (y + 3) j = if j = m then iI c else hi (y + 3) j) ∧ (∀ j, hi' (y + 4) j = if j = m then iI t else hi (y + 4) j)) → K (.inl none) hi' hl hr) : en_Call G (d + 1) xc xs Y_X9_add wN wN [.ref y, .int (iI a), .int (iI b), .int (iI c), .int (iI t)] hi hl hr K := by
  obtain ⟨l0, l1, l2, l3, l4, l5, l6⟩ := hy.sh
  obtain ⟨k0, k1, k2, k3⟩ := hyR
  have q0 : y < 134 := by omega
  have q1 : y + 1 < 134 := by omega
  have q2 : y + 2 < 134 := by omega
  have q3 : y + 3 < 134 := by omega
  have q4 : y + 4 < 134 := by omega
  apply en_X9_add
  simp (disch := omega) only [B_X9_add_0, k0, k1, k2, k3, l0, l1, l2, l3, l4, q0, q1, q2, q3, q4, hm, en_ops, en_opc, iI_add, iI_mul, iI_sub, jL_add, jL_mul, iI_le, iI_lt, iI_eq, iI_eq0, iI_lt0, iI_0le, iI_le0, iI_0lt, jL_iI, iI_jL, lc_eq, lc_lt, lc_le, lc_ge, lc_gt, Nat.sub_zero, Nat.zero_le, true_and, and_true, Nat.reduceAdd, Nat.reduceLeDiff]
  refine ⟨fun g => H hi m Fx.rf hm h20 (fun g2 => by omega), fun g => ?_⟩
  refine ⟨m, rfl, by omega, m, ?_, by omega, m, ?_, by omega, m, ?_, by omega, ?_⟩
  · rw [up_ne (Or.inl (by omega))]; exact hm
  · rw [up_ne (Or.inl (by omega)), up_ne (Or.inl (by omega))]; exact hm
  · rw [up_ne (Or.inl (by omega)), up_ne (Or.inl (by omega)), up_ne (Or.inl (by omega))]; exact hm
  rw [up_ne (Or.inl (by omega)), up_ne (Or.inl (by omega)), up_ne (Or.inl (by omega)), up_ne (Or.inl (by omega)), hm]
  simp (disch := omega) only [en_ops, en_opc, iI_add, iI_mul, iI_sub, jL_add, jL_mul, iI_le, iI_lt, iI_eq, iI_eq0, iI_lt0, iI_0le, iI_le0, iI_0lt, jL_iI, iI_jL, lc_eq, lc_lt, lc_le, lc_ge, lc_gt, Nat.sub_zero, Nat.zero_le, true_and, and_true, Nat.reduceAdd, Nat.reduceLeDiff]
  refine H _ (m + 1) (Fx.up (Fx.up (Fx.up (Fx.up (Fx.up Fx.rf ⟨by omega, by omega⟩) ⟨by omega, by omega⟩) ⟨by omega, by omega⟩) ⟨by omega, by omega⟩) ⟨by omega, by omega⟩) up_at (by omega) (fun _ => ⟨rfl, fun j => ?_, fun j => ?_, fun j => ?_, fun j => ?_⟩)
  · by_cases e : j = m
    · rw [if_pos e, e, up_ne (Or.inl (by omega)), up_ne (Or.inl (by omega)), up_ne (Or.inl (by omega)), up_ne (Or.inl (by omega)), up_at]
    · rw [if_neg e, up_ne (Or.inl (by omega)), up_ne (Or.inl (by omega)), up_ne (Or.inl (by omega)), up_ne (Or.inl (by omega)), up_ne (Or.inr e)]
  · by_cases e : j = m
    · rw [if_pos e, e, up_ne (Or.inl (by omega)), up_ne (Or.inl (by omega)), up_ne (Or.inl (by omega)), up_at]
    · rw [if_neg e, up_ne (Or.inl (by omega)), up_ne (Or.inl (by omega)), up_ne (Or.inl (by omega)), up_ne (Or.inr e), up_ne (Or.inl (by omega))]
  · by_cases e : j = m
    · rw [if_pos e, e, up_ne (Or.inl (by omega)), up_ne (Or.inl (by omega)), up_at]
    · rw [if_neg e, up_ne (Or.inl (by omega)), up_ne (Or.inl (by omega)), up_ne (Or.inr e), up_ne (Or.inl (by omega)), up_ne (Or.inl (by omega))]
  · by_cases e : j = m
    · rw [if_pos e, e, up_ne (Or.inl (by omega)), up_at]
    · rw [if_neg e, up_ne (Or.inl (by omega)), up_ne (Or.inr e), up_ne (Or.inl (by omega)), up_ne (Or.inl (by omega)), up_ne (Or.inl (by omega))]
theorem t_readWave {y m i : Nat} (hy : isYe y) (hyR : yeR y hr) (hR : hr 26 0 = .ref 1) (hR2 : hr 28 0 = .ref 26) (hX : tqS X hi) (h : tkX X z hi) (hm : hi y 4 = iI (m : Int)) (h20 : m ≤ 20) (hi20 : i ≤ 20)
    (H : ∀ (hi' : en_I) (m' : Nat), Fx (Pyr y) hi hi' → tqS X hi' → tkX X (y6Z X i z) hi' → hi' y 4 = iI (m' : Int) → m' ≤ 20 → (∀ q, y6Z X i z = .inr q → m < 20 → m' = m + 1 ∧ (∀ j, hi' (y + 1) j = if j = m then iI (ywZ X i z).1.1 else hi (y + 1) j) ∧ (∀ j, hi' (y + 2) j = if j = m then iI (ywZ X i z).1.2.1 else hi (y + 2) j) ∧ (∀ j, hi' (y + 3) j = if j = m then iI (ywZ X i z).1.2.2 else hi (y + 3) j) ∧ (∀ j, hi' (y + 4) j = if j = m then iI (ywZ X i z).2 else hi (y + 4) j)) → K (.inl none) hi' hl hr) :
    en_Call G (d + 7) xc xs Y_X0_readWave wN wN [.ref 28, .ref y, .int (iI (if i = 20 then 1 else 0))] hi hl hr K := by
  have b := hy.sh
  have sy : (en_SH y).1 = 9 ∧ y < 134 := ⟨by rw [b.1], by omega⟩
  have L24 : ∀ h1, Fx P26 hi h1 → tqS X h1 → tkX X (y1Z X i z) h1 → en_V G Y_X0_readWave (d + 7) wN wN K 24 [.ref 28, .ref y, .int (iI (if i = 20 then 1 else 0)), jk, jk, jk, jk] [] h1 hl hr xc xs := by
    intro h1 F1 X1 H1
    apply s_X0_readWave_24
    simp (disch := omega) only [B_X0_readWave_24, sh28, lt28, sh26, lt26, hR2, en_ops, en_opc, iI_add, iI_mul, iI_sub, jL_add, jL_mul, iI_le, iI_lt, iI_eq, iI_eq0, iI_lt0, iI_0le, iI_le0, iI_0lt, jL_iI, iI_jL, lc_eq, lc_lt, lc_le, lc_ge, lc_gt, Nat.sub_zero, Nat.zero_le, true_and, and_true, Nat.reduceAdd, Nat.reduceLeDiff]
    refine t_needWord (j := 26) iw26 hR X1 H1 (fun h2 F2 X2 H2 => ?_)
    rw [pk26] at H2
    simp (disch := omega) only [sh28, lt28, sh26, lt26, hR2, en_ops, en_opc, iI_add, iI_mul, iI_sub, jL_add, jL_mul, iI_le, iI_lt, iI_eq, iI_eq0, iI_lt0, iI_0le, iI_le0, iI_0lt, jL_iI, iI_jL, lc_eq, lc_lt, lc_le, lc_ge, lc_gt, Nat.sub_zero, Nat.zero_le, true_and, and_true, Nat.reduceAdd, Nat.reduceLeDiff]
    refine t_needNum (d := d + 3) (lo := 1) (up := 30) (by decide) hR X2 H2 (fun h3 v3 F3 X3 H3 a3 b3 c3 => ?_)
    simp (disch := omega) only [sh28, lt28, sh26, lt26, hR2, en_ops, en_opc, iI_add, iI_mul, iI_sub, jL_add, jL_mul, iI_le, iI_lt, iI_eq, iI_eq0, iI_lt0, iI_0le, iI_le0, iI_0lt, jL_iI, iI_jL, lc_eq, lc_lt, lc_le, lc_ge, lc_gt, Nat.sub_zero, Nat.zero_le, true_and, and_true, Nat.reduceAdd, Nat.reduceLeDiff]
    refine t_needNum (d := d + 3) (lo := 1) (up := 20) (by decide) hR X3 H3 (fun h4 v4 F4 X4 H4 a4 b4 c4 => ?_)
    simp (disch := omega) only [sh28, lt28, sh26, lt26, hR2, en_ops, en_opc, iI_add, iI_mul, iI_sub, jL_add, jL_mul, iI_le, iI_lt, iI_eq, iI_eq0, iI_lt0, iI_0le, iI_le0, iI_0lt, jL_iI, iI_jL, lc_eq, lc_lt, lc_le, lc_ge, lc_gt, Nat.sub_zero, Nat.zero_le, true_and, and_true, Nat.reduceAdd, Nat.reduceLeDiff]
    refine t_needNum (d := d + 3) (lo := 0) (up := 1) (by decide) hR X4 H4 (fun h5 v5 F5 X5 H5 a5 b5 c5 => ?_)
    simp (disch := omega) only [sh28, lt28, sh26, lt26, hR2, en_ops, en_opc, iI_add, iI_mul, iI_sub, jL_add, jL_mul, iI_le, iI_lt, iI_eq, iI_eq0, iI_lt0, iI_0le, iI_le0, iI_0lt, jL_iI, iI_jL, lc_eq, lc_lt, lc_le, lc_ge, lc_gt, Nat.sub_zero, Nat.zero_le, true_and, and_true, Nat.reduceAdd, Nat.reduceLeDiff]
    have FF : Fx P26 hi h5 := (((F1.tr F2).tr F3).tr F4).tr F5
    have H5' : tkX X (y5Z X i z) h5 := H5
    have fin : ∀ (h7 : en_I) (t : Int), Fx P26 hi h7 → tqS X h7 → tkX X (y6Z X i z) h7 → (∀ q, y6Z X i z = .inr q → t = (ywZ X i z).2) → en_Call G (d + 6) 0 0 Y_X9_add wN wN [.ref y, .int (iI v3), .int (iI v4), .int (iI v5), .int (iI t)] h7 hl hr (en_kk (o_vret K) x_no [.ref 28, .ref y, .int (iI (if i = 20 then 1 else 0)), .int (iI v3), .int (iI v4), .int (iI v5), .int (iI t)] [] xc xs) := by
      intro h7 t F7 X7 H7 ht
      refine t_addW (d := d + 5) (m := m) hy hyR (by rw [F7 y 4 (fun g => by have := g.1; omega)]; exact hm) h20 (fun h8 m' F8 e8 m20 r8 => ?_)
      simp (disch := omega) only [en_ops, en_opc, iI_add, iI_mul, iI_sub, jL_add, jL_mul, iI_le, iI_lt, iI_eq, iI_eq0, iI_lt0, iI_0le, iI_le0, iI_0lt, jL_iI, iI_jL, lc_eq, lc_lt, lc_le, lc_ge, lc_gt, Nat.sub_zero, Nat.zero_le, true_and, and_true, Nat.reduceAdd, Nat.reduceLeDiff]
      have F9 : Fx (Pyr y) hi h8 := (F7.mono (fun a j g => Or.inl g)).tr (F8.mono (fun a j g => Or.inr g))
      refine H h8 m' F9 (X7.fx F8 (fun j g => by omega) (fun g => by omega)) (H7.fx F8 (fun j g => by omega)) e8 m20 (fun q e m9 => ?_)
      obtain ⟨r1, r2, r3, r4, r5⟩ := r8 m9
      obtain ⟨p5, e5, -, -⟩ := y6_i e
      have w5 : v5 = (zVa X (y4Z X i z) : Int) := c5 _ e5
      obtain ⟨p4, e4, -⟩ := zNm_i (show zNm X 0 1 (y4Z X i z) = _ from e5)
      have w4 : v4 = (zVa X (y3Z X i z) : Int) := c4 _ e4
      obtain ⟨p3, e3, -⟩ := zNm_i (show zNm X 1 20 (y3Z X i z) = _ from e4)
      have w3 : v3 = (zVa X (y2Z X i z) : Int) := c3 _ e3
      have er : ∀ x, y ≤ x → h7 x = hi x := fun x g => F7.row (fun j w => by have := w.1; omega)
      refine ⟨r1, fun j => ?_, fun j => ?_, fun j => ?_, fun j => ?_⟩
      · rw [r2 j, er (y + 1) (by omega), w3]; rfl
      · rw [r3 j, er (y + 2) (by omega), w4]; rfl
      · rw [r4 j, er (y + 3) (by omega), w5]; rfl
      · rw [r5 j, er (y + 4) (by omega), ht q e]
    refine t_isWord (d := d + 1) (j := 27) iw27 hR X5 H5' (fun b hb => ?_)
    rw [pk27] at hb
    simp (disch := omega) only [sh28, lt28, sh26, lt26, hR2, en_ops, en_opc, iI_add, iI_mul, iI_sub, jL_add, jL_mul, iI_le, iI_lt, iI_eq, iI_eq0, iI_lt0, iI_0le, iI_le0, iI_0lt, jL_iI, iI_jL, lc_eq, lc_lt, lc_le, lc_ge, lc_gt, Nat.sub_zero, Nat.zero_le, true_and, and_true, Nat.reduceAdd, Nat.reduceLeDiff]
    rcases hb with ⟨rfl, w⟩ | ⟨rfl, w⟩
    · refine ⟨fun g => absurd g (by decide), fun _ => ?_⟩
      refine t_stepZ (d := d + 4) hR X5 H5' (fun q e => ?_) (fun h6 F6 X6 H6 => ?_)
      · rw [e] at w
        exact lt_wd (show wdE X q = 21279923 from w) (by decide)
      simp (disch := omega) only [sh28, lt28, sh26, lt26, hR2, en_ops, en_opc, iI_add, iI_mul, iI_sub, jL_add, jL_mul, iI_le, iI_lt, iI_eq, iI_eq0, iI_lt0, iI_0le, iI_le0, iI_0lt, jL_iI, iI_jL, lc_eq, lc_lt, lc_le, lc_ge, lc_gt, Nat.sub_zero, Nat.zero_le, true_and, and_true, Nat.reduceAdd, Nat.reduceLeDiff]
      have e6 : y6Z X i z = zNm X 1 9 (zSt X (y5Z X i z)) := if_pos w
      refine t_needNum (d := d + 3) (lo := 1) (up := 9) (by decide) hR X6 H6 (fun h7 v7 F7 X7 H7 a7 b7 c7 => ?_)
      simp (disch := omega) only [sh28, lt28, sh26, lt26, hR2, en_ops, en_opc, iI_add, iI_mul, iI_sub, jL_add, jL_mul, iI_le, iI_lt, iI_eq, iI_eq0, iI_lt0, iI_0le, iI_le0, iI_0lt, jL_iI, iI_jL, lc_eq, lc_lt, lc_le, lc_ge, lc_gt, Nat.sub_zero, Nat.zero_le, true_and, and_true, Nat.reduceAdd, Nat.reduceLeDiff]
      refine ⟨sy, fin h7 v7 ((FF.tr F6).tr F7) X7 (by rw [e6]; exact H7) (fun q e => ?_)⟩
      rw [e6] at e
      rw [c7 q e]
      show _ = ((if zWo X (y5Z X i z) = 21279923 then zVa X (zSt X (y5Z X i z)) else 1 : Nat) : Int)
      rw [if_pos w]
    · have e6 : y6Z X i z = y5Z X i z := if_neg w
      refine ⟨fun _ => ?_, fun g => (g (by first | trivial | rfl)).elim⟩
      refine ⟨sy, fin h5 1 FF X5 (by rw [e6]; exact H5') (fun q e => ?_)⟩
      show _ = ((if zWo X (y5Z X i z) = 21279923 then zVa X (zSt X (y5Z X i z)) else 1 : Nat) : Int)
      rw [if_neg w]
      rfl
  apply en_X0_readWave
  simp (disch := omega) only [B_X0_readWave_0, sh28, lt28, sh26, lt26, hR2, en_ops, en_opc, iI_add, iI_mul, iI_sub, jL_add, jL_mul, iI_le, iI_lt, iI_eq, iI_eq0, iI_lt0, iI_0le, iI_le0, iI_0lt, jL_iI, iI_jL, lc_eq, lc_lt, lc_le, lc_ge, lc_gt, Nat.sub_zero, Nat.zero_le, true_and, and_true, Nat.reduceAdd, Nat.reduceLeDiff]
  by_cases i20 : i = 20
  · rw [if_pos i20]
    rw [if_pos i20] at L24
    refine ⟨fun g => absurd g (by decide), fun _ => ?_⟩
    refine t_isWord (d := d + 1) (j := 26) iw26 hR hX h (fun b hb => ?_)
    rw [pk26] at hb
    simp (disch := omega) only [sh28, lt28, sh26, lt26, hR2, en_ops, en_opc, iI_add, iI_mul, iI_sub, jL_add, jL_mul, iI_le, iI_lt, iI_eq, iI_eq0, iI_lt0, iI_0le, iI_le0, iI_0lt, jL_iI, iI_jL, lc_eq, lc_lt, lc_le, lc_ge, lc_gt, Nat.sub_zero, Nat.zero_le, true_and, and_true, Nat.reduceAdd, Nat.reduceLeDiff]
    rcases hb with ⟨rfl, w⟩ | ⟨rfl, w⟩
    · refine ⟨fun g => absurd g (by decide), fun _ => ?_⟩
      refine t_fail (d := d + 5) (k := 3) (by decide) hX h (fun h1 F1 X1 H1 => ?_)
      simp (disch := omega) only [en_ops, en_opc, iI_add, iI_mul, iI_sub, jL_add, jL_mul, iI_le, iI_lt, iI_eq, iI_eq0, iI_lt0, iI_0le, iI_le0, iI_0lt, jL_iI, iI_jL, lc_eq, lc_lt, lc_le, lc_ge, lc_gt, Nat.sub_zero, Nat.zero_le, true_and, and_true, Nat.reduceAdd, Nat.reduceLeDiff]
      refine L24 h1 F1 X1 ?_
      have e1 : y1Z X i z = zFl 3 z := if_pos ⟨i20, w⟩
      rw [e1]; exact H1
    · refine ⟨fun _ => ?_, fun g => (g (by first | trivial | rfl)).elim⟩
      have e1 : y1Z X i z = z := if_neg (fun g => w g.2)
      exact L24 hi Fx.rf hX (by rw [e1]; exact h)
  · rw [if_neg i20]
    rw [if_neg i20] at L24
    refine ⟨fun _ => ?_, fun g => (g (by first | trivial | rfl)).elim⟩
    have e1 : y1Z X i z = z := if_neg (fun g => i20 g.1)
    exact L24 hi Fx.rf hX (by rw [e1]; exact h)
end
