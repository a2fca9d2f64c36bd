/-! what a written law says when it is asked -/
theorem row_up {h : en_I} {a i : Nat} {v : Int32} : en_up h a i v a = upN (h a) i v := by
  funext j
  unfold en_up upN
  by_cases e : j = i
  · rw [if_pos ⟨rfl, e⟩, if_pos e]
  · rw [if_neg (fun g => e g.2), if_neg e]
theorem i_of (x : Int32) : iI x.toInt = x := by
  unfold iI
  exact Int32.ofInt_toInt x
theorem i_rg (x : Int32) : -2147483648 ≤ x.toInt ∧ x.toInt < 2147483648 := ⟨Int32.le_toInt x, by have := Int32.toInt_lt x; omega⟩
section
variable {G : en_G} {d : Nat} {K : en_K} {hi : en_I} {hl : en_L} {hr : en_F} {xc xs : Nat}
theorem dv_m1 (x : Int32) : x / iI (-1) = -x := by
  apply Int32.toInt.inj
  rw [Int32.toInt_div, Int32.toInt_neg, show (iI (-1)).toInt = -1 by decide, Int.tdiv_neg, Int.tdiv_one]
theorem i01 (b : Prop) [Decidable b] : (if b then iI 1 else iI 0) = (if b then (1 : Int32) else 0) := rfl
theorem t_joined {c : Nat} {x y : Int32} (hc : 2 ≤ c ∧ c ≤ 11 ∧ c ≠ 9) (H : K (.inl (some (.int (opE c x y)))) hi hl hr) : en_Call G (d + 1) xc xs Y_X1_joined wN wN [.int (iI (if c ≤ 8 then -8 - (c : Int) else -7 - (c : Int))), .int x, .int y] hi hl hr K := by
  have hc' : c = 2 ∨ c = 3 ∨ c = 4 ∨ c = 5 ∨ c = 6 ∨ c = 7 ∨ c = 8 ∨ c = 10 ∨ c = 11 := by omega
  apply en_X1_joined
  simp (disch := omega) only [B_X1_joined_0, en_ops, en_opc, iI_add, iI_mul, iI_sub, jL_add, jL_mul, iI_le, iI_lt, iI_eq, iI_eq0, iI_lt0, iI_0le, iI_le0, iI_0lt, jL_iI, iI_jL, lc_eq, lc_lt, lc_le, lc_ge, lc_gt, Nat.sub_zero, Nat.zero_le, true_and, and_true, Nat.reduceAdd, Nat.reduceLeDiff]
  rcases hc' with rfl | rfl | rfl | rfl | rfl | rfl | rfl | rfl | rfl
  · have e0 : (iI (if 2 ≤ 8 then -8 - ((2 : Nat) : Int) else -7 - ((2 : Nat) : Int))).toInt = -10 := by decide
    rw [e0]
    refine ⟨fun g => by rcases g with g | g; omega; simp at g, fun j k hk hj => ?_⟩
    have hj7 : j = 7 := by omega
    subst hj7
    cases hk
    apply s_X1_joined_48
    simp (disch := omega) only [B_X1_joined_48, en_ops, en_opc, iI_add, iI_mul, iI_sub, jL_add, jL_mul, iI_le, iI_lt, iI_eq, iI_eq0, iI_lt0, iI_0le, iI_le0, iI_0lt, jL_iI, iI_jL, lc_eq, lc_lt, lc_le, lc_ge, lc_gt, Nat.sub_zero, Nat.zero_le, true_and, and_true, Nat.reduceAdd, Nat.reduceLeDiff]
    exact H
  · have e0 : (iI (if 3 ≤ 8 then -8 - ((3 : Nat) : Int) else -7 - ((3 : Nat) : Int))).toInt = -11 := by decide
    rw [e0]
    refine ⟨fun g => by rcases g with g | g; omega; simp at g, fun j k hk hj => ?_⟩
    have hj7 : j = 6 := by omega
    subst hj7
    cases hk
    apply s_X1_joined_52
    simp (disch := omega) only [B_X1_joined_52, en_ops, en_opc, iI_add, iI_mul, iI_sub, jL_add, jL_mul, iI_le, iI_lt, iI_eq, iI_eq0, iI_lt0, iI_0le, iI_le0, iI_0lt, jL_iI, iI_jL, lc_eq, lc_lt, lc_le, lc_ge, lc_gt, Nat.sub_zero, Nat.zero_le, true_and, and_true, Nat.reduceAdd, Nat.reduceLeDiff]
    exact H
  · have e0 : (iI (if 4 ≤ 8 then -8 - ((4 : Nat) : Int) else -7 - ((4 : Nat) : Int))).toInt = -12 := by decide
    rw [e0]
    refine ⟨fun g => by rcases g with g | g; omega; simp at g, fun j k hk hj => ?_⟩
    have hj7 : j = 5 := by omega
    subst hj7
    cases hk
    apply s_X1_joined_56
    simp (disch := omega) only [B_X1_joined_56, en_ops, en_opc, iI_add, iI_mul, iI_sub, jL_add, jL_mul, iI_le, iI_lt, iI_eq, iI_eq0, iI_lt0, iI_0le, iI_le0, iI_0lt, jL_iI, iI_jL, lc_eq, lc_lt, lc_le, lc_ge, lc_gt, Nat.sub_zero, Nat.zero_le, true_and, and_true, Nat.reduceAdd, Nat.reduceLeDiff]
    exact H
  · have e0 : (iI (if 5 ≤ 8 then -8 - ((5 : Nat) : Int) else -7 - ((5 : Nat) : Int))).toInt = -13 := by decide
    rw [e0]
    refine ⟨fun g => by rcases g with g | g; omega; simp at g, fun j k hk hj => ?_⟩
    have hj7 : j = 4 := by omega
    subst hj7
    cases hk
    apply s_X1_joined_60
    simp (disch := omega) only [B_X1_joined_60, en_ops, en_opc, iI_add, iI_mul, iI_sub, jL_add, jL_mul, iI_le, iI_lt, iI_eq, iI_eq0, iI_lt0, iI_0le, iI_le0, iI_0lt, jL_iI, iI_jL, lc_eq, lc_lt, lc_le, lc_ge, lc_gt, Nat.sub_zero, Nat.zero_le, true_and, and_true, Nat.reduceAdd, Nat.reduceLeDiff]
    by_cases y0 : y = 0
    · have H2 := H
      rw [show opE 5 x y = (if y = 0 then 0 else x / y) from rfl, if_pos y0] at H2
      exact ⟨fun g => absurd y0 g, fun _ => H2⟩
    · have H2 := H
      rw [show opE 5 x y = (if y = 0 then 0 else x / y) from rfl, if_neg y0] at H2
      exact ⟨fun _ => ⟨y0, H2⟩, fun g => absurd g y0⟩
  · have e0 : (iI (if 6 ≤ 8 then -8 - ((6 : Nat) : Int) else -7 - ((6 : Nat) : Int))).toInt = -14 := by decide
    rw [e0]
    refine ⟨fun g => by rcases g with g | g; omega; simp at g, fun j k hk hj => ?_⟩
    have hj7 : j = 3 := by omega
    subst hj7
    cases hk
    apply s_X1_joined_72
    simp (disch := omega) only [B_X1_joined_72, en_ops, en_opc, iI_add, iI_mul, iI_sub, jL_add, jL_mul, iI_le, iI_lt, iI_eq, iI_eq0, iI_lt0, iI_0le, iI_le0, iI_0lt, jL_iI, iI_jL, lc_eq, lc_lt, lc_le, lc_ge, lc_gt, Nat.sub_zero, Nat.zero_le, true_and, and_true, Nat.reduceAdd, Nat.reduceLeDiff]
    by_cases y0 : x < y
    · have H2 := H
      rw [show opE 6 x y = (if x < y then 1 else 0) from rfl, if_pos y0] at H2
      exact ⟨fun g => absurd y0 (Int32.not_lt.mpr g), fun _ => H2⟩
    · have H2 := H
      rw [show opE 6 x y = (if x < y then 1 else 0) from rfl, if_neg y0] at H2
      exact ⟨fun _ => H2, fun g => absurd (Int32.not_lt.mp y0) g⟩
  · have e0 : (iI (if 7 ≤ 8 then -8 - ((7 : Nat) : Int) else -7 - ((7 : Nat) : Int))).toInt = -15 := by decide
    rw [e0]
    refine ⟨fun g => by rcases g with g | g; omega; simp at g, fun j k hk hj => ?_⟩
    have hj7 : j = 2 := by omega
    subst hj7
    cases hk
    apply s_X1_joined_83
    simp (disch := omega) only [B_X1_joined_83, en_ops, en_opc, iI_add, iI_mul, iI_sub, jL_add, jL_mul, iI_le, iI_lt, iI_eq, iI_eq0, iI_lt0, iI_0le, iI_le0, iI_0lt, jL_iI, iI_jL, lc_eq, lc_lt, lc_le, lc_ge, lc_gt, Nat.sub_zero, Nat.zero_le, true_and, and_true, Nat.reduceAdd, Nat.reduceLeDiff]
    by_cases y0 : y < x
    · have H2 := H
      rw [show opE 7 x y = (if y < x then 1 else 0) from rfl, if_pos y0] at H2
      exact ⟨fun g => absurd y0 (Int32.not_lt.mpr g), fun _ => H2⟩
    · have H2 := H
      rw [show opE 7 x y = (if y < x then 1 else 0) from rfl, if_neg y0] at H2
      exact ⟨fun _ => H2, fun g => absurd (Int32.not_lt.mp y0) g⟩
  · have e0 : (iI (if 8 ≤ 8 then -8 - ((8 : Nat) : Int) else -7 - ((8 : Nat) : Int))).toInt = -16 := by decide
    rw [e0]
    refine ⟨fun g => by rcases g with g | g; omega; simp at g, fun j k hk hj => ?_⟩
    have hj7 : j = 1 := by omega
    subst hj7
    cases hk
    apply s_X1_joined_94
    simp (disch := omega) only [B_X1_joined_94, en_ops, en_opc, iI_add, iI_mul, iI_sub, jL_add, jL_mul, iI_le, iI_lt, iI_eq, iI_eq0, iI_lt0, iI_0le, iI_le0, iI_0lt, jL_iI, iI_jL, lc_eq, lc_lt, lc_le, lc_ge, lc_gt, Nat.sub_zero, Nat.zero_le, true_and, and_true, Nat.reduceAdd, Nat.reduceLeDiff]
    by_cases y0 : x = y
    · have H2 := H
      rw [show opE 8 x y = (if x = y then 1 else 0) from rfl, if_pos y0] at H2
      exact ⟨fun g => absurd y0 g, fun _ => H2⟩
    · have H2 := H
      rw [show opE 8 x y = (if x = y then 1 else 0) from rfl, if_neg y0] at H2
      exact ⟨fun _ => H2, fun g => absurd g y0⟩
  · have e0 : (iI (if 10 ≤ 8 then -8 - ((10 : Nat) : Int) else -7 - ((10 : Nat) : Int))).toInt = -17 := by decide
    rw [e0]
    refine ⟨fun g => by rcases g with g | g; omega; simp at g, fun j k hk hj => ?_⟩
    have hj7 : j = 0 := by omega
    subst hj7
    cases hk
    apply s_X1_joined_105
    simp (disch := omega) only [B_X1_joined_105, en_ops, en_opc, iI_add, iI_mul, iI_sub, jL_add, jL_mul, iI_le, iI_lt, iI_eq, iI_eq0, iI_lt0, iI_0le, iI_le0, iI_0lt, jL_iI, iI_jL, lc_eq, lc_lt, lc_le, lc_ge, lc_gt, Nat.sub_zero, Nat.zero_le, true_and, and_true, Nat.reduceAdd, Nat.reduceLeDiff]
    exact H
  · have e0 : (iI (if 11 ≤ 8 then -8 - ((11 : Nat) : Int) else -7 - ((11 : Nat) : Int))).toInt = -18 := by decide
    rw [e0]
    refine ⟨fun _ => ?_, fun j k hk hj => by omega⟩
    apply s_X1_joined_109
    simp (disch := omega) only [B_X1_joined_109, en_ops, en_opc, iI_add, iI_mul, iI_sub, jL_add, jL_mul, iI_le, iI_lt, iI_eq, iI_eq0, iI_lt0, iI_0le, iI_le0, iI_0lt, jL_iI, iI_jL, lc_eq, lc_lt, lc_le, lc_ge, lc_gt, Nat.sub_zero, Nat.zero_le, true_and, and_true, Nat.reduceAdd, Nat.reduceLeDiff]
    exact H
/-- the class's value: the steps walked -/
theorem t_value {L w k A B : Nat} {S' : Nat → Int32} {nm : Nat → Int} (hL : isLw L) (hLR : lwR L hr) (hw : w < 3) (hA : hi (L + 2) w = iI (A : Int)) (hB : hi (L + 3) w = iI (B : Int)) (hB6 : B ≤ 600) (hN : nmH nm hi) (hrun : grun (ckS (hi (L + 1)) (fun j => iI (nm j))) (ckO (hi (L + 1)) B) k (A, 0, hi 36) (B, 1, S'))
    (H : ∀ hi', Fr (· = 36) hi hi' → K (.inl (some (.int (S' 0)))) hi' hl hr) : en_Call G (d + 2) xc xs Y_X1_value wN wN [.ref L, .int (iI (w : Int)), .ref 35, .ref 36] hi hl hr K := by
  have s0 : en_SH L = (1, 4) ∧ en_SH (L + 1) = (100, 600) ∧ en_SH (L + 2) = (100, 3) ∧ en_SH (L + 3) = (100, 3) ∧ 50 ≤ L ∧ L + 3 < 66 := by
    rcases hL with rfl | rfl | rfl | rfl <;> decide
  obtain ⟨s0, s1, s2, s3, s4, s5⟩ := s0
  have q0 : L < 134 := by omega
  have q1 : L + 1 < 134 := by omega
  have q2 : L + 2 < 134 := by omega
  have q3 : L + 3 < 134 := by omega
  obtain ⟨r0, r1, r2⟩ := hLR
  have s35 : en_SH 35 = (100, 9) := by decide
  have s36 : en_SH 36 = (100, 64) := by decide
  have l35 : 35 < 134 := by decide
  have l36 : 36 < 134 := by decide
  apply en_X1_value
  simp (disch := omega) only [B_X1_value_0, s0, s2, s3, q0, q2, q3, r1, r2, en_ops, en_opc, iI_add, iI_mul, iI_sub, jL_add, jL_mul, iI_le, iI_lt, iI_eq, iI_eq0, iI_lt0, iI_0le, iI_le0, iI_0lt, jL_iI, iI_jL, lc_eq, lc_lt, lc_le, lc_ge, lc_gt, Nat.sub_zero, Nat.zero_le, true_and, and_true, Nat.reduceAdd, Nat.reduceLeDiff]
  refine ⟨w, rfl, hw, w, rfl, hw, ?_⟩
  rw [hA, hB]
  suffices L9 : ∀ (k at9 top : Nat) (x7 x8 x9 : Value) (h9 : en_I), Fr (· = 36) hi h9 → grun (ckS (hi (L + 1)) (fun j => iI (nm j))) (ckO (hi (L + 1)) B) k (at9, top, h9 36) (B, 1, S') → en_V G Y_X1_value (d + 2) wN wN K 19 [.ref L, .int (iI (w : Int)), .ref 35, .ref 36, .int (iI (B : Int)), .int (iI (at9 : Int)), .int (iI (top : Int)), x7, x8, x9] [] h9 hl hr xc xs from L9 k A 0 _ _ _ hi Fr.rf hrun
  intro k
  induction k with
  | zero =>
    intro at9 top x7 x8 x9 h9 F9 g
    have g2 : (at9, top, h9 36) = (B, 1, S') := g
    cases g2
    apply s_X1_value_19
    simp (disch := omega) only [B_X1_value_19, s36, l36, en_ops, en_opc, iI_add, iI_mul, iI_sub, jL_add, jL_mul, iI_le, iI_lt, iI_eq, iI_eq0, iI_lt0, iI_0le, iI_le0, iI_0lt, jL_iI, iI_jL, lc_eq, lc_lt, lc_le, lc_ge, lc_gt, Nat.sub_zero, Nat.zero_le, true_and, and_true, Nat.reduceAdd, Nat.reduceLeDiff]
    refine ⟨fun _ => ⟨fun g => absurd g (by decide), fun _ => ⟨0, rfl, by decide, ?_⟩⟩, fun g => absurd (Int.le_refl _) g⟩
    exact H h9 F9
  | succ k ih =>
    intro at9 top x7 x8 x9 h9 F9 g
    obtain ⟨⟨ok1, ok2, ok3⟩, run⟩ := g
    replace ok1 : at9 < B := ok1
    replace ok2 : top ≤ 64 := ok2
    replace ok3 : (-9 ≤ (hi (L + 1) at9).toInt ∧ top < 64) ∨ ((hi (L + 1) at9).toInt = -21 ∧ at9 + 1 < B ∧ (at9 : Int) + 1 < (hi (L + 1) (at9 + 1)).toInt) ∨ ((hi (L + 1) at9).toInt = -20 ∧ 1 ≤ top ∧ at9 + 1 < B ∧ (at9 : Int) + 1 < (hi (L + 1) (at9 + 1)).toInt) ∨ ((hi (L + 1) at9).toInt = -19 ∧ 1 ≤ top) ∨ ((-18 ≤ (hi (L + 1) at9).toInt ∧ (hi (L + 1) at9).toInt ≤ -10) ∧ 2 ≤ top) := ok3
    have e1 : h9 (L + 1) = hi (L + 1) := F9 (L + 1) (by omega)
    have e35 : h9 35 = hi 35 := F9 35 (by omega)
    obtain ⟨e, he⟩ : ∃ e, (hi (L + 1) at9).toInt = e := ⟨_, rfl⟩
    obtain ⟨g1, g2⟩ := i_rg (hi (L + 1) at9)
    have hx : hi (L + 1) at9 = iI e := by rw [← he, i_of]
    rw [he] at ok3 g1 g2
    apply s_X1_value_19
    simp (disch := omega) only [B_X1_value_19, s36, l36, s0, s1, q0, q1, r0, en_ops, en_opc, iI_add, iI_mul, iI_sub, jL_add, jL_mul, iI_le, iI_lt, iI_eq, iI_eq0, iI_lt0, iI_0le, iI_le0, iI_0lt, jL_iI, iI_jL, lc_eq, lc_lt, lc_le, lc_ge, lc_gt, Nat.sub_zero, Nat.zero_le, true_and, and_true, Nat.reduceAdd, Nat.reduceLeDiff]
    refine ⟨fun g => absurd g (by omega), fun _ => ⟨fun g => absurd g (by omega), fun _ => ⟨at9, rfl, by omega, ?_⟩⟩⟩
    rw [e1, hx]
    simp (disch := omega) only [s36, l36, s35, l35, en_ops, en_opc, iI_add, iI_mul, iI_sub, jL_add, jL_mul, iI_le, iI_lt, iI_eq, iI_eq0, iI_lt0, iI_0le, iI_le0, iI_0lt, jL_iI, iI_jL, lc_eq, lc_lt, lc_le, lc_ge, lc_gt, Nat.sub_zero, Nat.zero_le, true_and, and_true, Nat.reduceAdd, Nat.reduceLeDiff]
    rcases ok3 with ⟨o1, o2⟩ | ⟨o1, o2, o3⟩ | ⟨o1, o2, o3, o4⟩ | ⟨o1, o2⟩ | ⟨⟨o1, o2⟩, o3⟩
    · refine ⟨fun g => absurd g (by omega), fun _ => ⟨by decide, fun g => absurd g (by omega), fun _ => ⟨fun g => ⟨(-1 - e).toNat, iI_eq_of (by omega), by omega, top, rfl, o2, ?_⟩, fun g => ⟨top, rfl, o2, ?_⟩⟩⟩⟩
      · have st : ckS (hi (L + 1)) (fun j => iI (nm j)) (at9, top, h9 36) = (at9 + 1, top + 1, upN (h9 36) top (iI (nm (-1 - e).toNat))) := by
          unfold ckS
          show (if 0 ≤ (hi (L + 1) at9).toInt then _ else _) = _
          rw [he, if_neg (by omega), if_pos o1]
        rw [st] at run
        refine ih (at9 + 1) (top + 1) _ _ _ _ (Fr.up F9 rfl) ?_
        rw [row_up, e35, hN _ (by omega)]
        exact run
      · have st : ckS (hi (L + 1)) (fun j => iI (nm j)) (at9, top, h9 36) = (at9 + 1, top + 1, upN (h9 36) top (hi (L + 1) at9)) := by
          unfold ckS
          show (if 0 ≤ (hi (L + 1) at9).toInt then _ else _) = _
          rw [he, if_pos (by omega)]
        rw [st] at run
        refine ih (at9 + 1) (top + 1) _ _ _ _ (Fr.up F9 rfl) ?_
        rw [row_up, ← hx]
        exact run
    · refine ⟨fun _ => ⟨fun _ => ⟨fun g => absurd o1 g, fun _ => ?_⟩, fun g => absurd o1 g⟩, fun g => absurd g (by omega)⟩
      have st : ckS (hi (L + 1)) (fun j => iI (nm j)) (at9, top, h9 36) = ((hi (L + 1) (at9 + 1)).toInt.toNat, top, h9 36) := by
        unfold ckS
        show (if 0 ≤ (hi (L + 1) at9).toInt then _ else _) = _
        rw [he, if_neg (by omega), if_neg (by omega), if_pos o1]
      rw [st] at run
      apply s_X1_value_112
      simp (disch := omega) only [B_X1_value_112, s36, l36, s0, s1, q0, q1, r0, en_ops, en_opc, iI_add, iI_mul, iI_sub, jL_add, jL_mul, iI_le, iI_lt, iI_eq, iI_eq0, iI_lt0, iI_0le, iI_le0, iI_0lt, jL_iI, iI_jL, lc_eq, lc_lt, lc_le, lc_ge, lc_gt, Nat.sub_zero, Nat.zero_le, true_and, and_true, Nat.reduceAdd, Nat.reduceLeDiff]
      refine ⟨fun _ => ⟨fun g => absurd g (by omega), fun _ => ⟨at9 + 1, rfl, by omega, ?_⟩⟩, fun g => absurd g (by omega)⟩
      obtain ⟨am, ham⟩ : ∃ am, (hi (L + 1) (at9 + 1)).toInt = am := ⟨_, rfl⟩
      obtain ⟨g3, g4⟩ := i_rg (hi (L + 1) (at9 + 1))
      rw [ham] at o3 g3 g4 run
      rw [e1, show hi (L + 1) (at9 + 1) = iI am by rw [← ham, i_of]]
      apply s_X1_value_163
      simp (disch := omega) only [B_X1_value_163, en_ops, en_opc, iI_add, iI_mul, iI_sub, jL_add, jL_mul, iI_le, iI_lt, iI_eq, iI_eq0, iI_lt0, iI_0le, iI_le0, iI_0lt, jL_iI, iI_jL, lc_eq, lc_lt, lc_le, lc_ge, lc_gt, Nat.sub_zero, Nat.zero_le, true_and, and_true, Nat.reduceAdd, Nat.reduceLeDiff]
      refine ⟨fun g => absurd g (by decide), fun _ => ⟨fun g => absurd g (by omega), fun _ => ?_⟩⟩
      rw [show am = ((am.toNat : Nat) : Int) by omega]
      exact ih am.toNat top _ _ _ h9 F9 run
    · refine ⟨fun _ => ⟨fun g => absurd g (by omega), fun _ => ⟨fun g => absurd o1 g, fun _ => ⟨fun _ => ?_, fun g => absurd g (by omega)⟩⟩⟩, fun g => absurd g (by omega)⟩
      have st : ckS (hi (L + 1)) (fun j => iI (nm j)) (at9, top, h9 36) = (if h9 36 (top - 1) = 0 then (hi (L + 1) (at9 + 1)).toInt.toNat else at9 + 2, top - 1, h9 36) := by
        unfold ckS
        show (if 0 ≤ (hi (L + 1) at9).toInt then _ else _) = _
        rw [he, if_neg (by omega), if_neg (by omega), if_neg (by omega), if_pos o1]
      rw [st] at run
      obtain ⟨am, ham⟩ : ∃ am, (hi (L + 1) (at9 + 1)).toInt = am := ⟨_, rfl⟩
      obtain ⟨g3, g4⟩ := i_rg (hi (L + 1) (at9 + 1))
      rw [ham] at o4 g3 g4 run
      have eam : hi (L + 1) (at9 + 1) = iI am := by rw [← ham, i_of]
      apply s_X1_value_112
      simp (disch := omega) only [B_X1_value_112, s36, l36, s0, s1, q0, q1, r0, en_ops, en_opc, iI_add, iI_mul, iI_sub, jL_add, jL_mul, iI_le, iI_lt, iI_eq, iI_eq0, iI_lt0, iI_0le, iI_le0, iI_0lt, jL_iI, iI_jL, lc_eq, lc_lt, lc_le, lc_ge, lc_gt, Nat.sub_zero, Nat.zero_le, true_and, and_true, Nat.reduceAdd, Nat.reduceLeDiff]
      refine ⟨fun g => absurd o1 g, fun _ => ⟨fun g => absurd g (by omega), fun _ => ⟨top - 1, iI_eq_of (by omega), by omega, ?_⟩⟩⟩
      refine ⟨fun g => ?_, fun g => ?_⟩
      · rw [if_neg g] at run
        refine ⟨fun g => absurd g (by omega), fun _ => ⟨at9 + 1, rfl, by omega, ?_⟩⟩
        rw [e1, eam]
        apply s_X1_value_163
        simp (disch := omega) only [B_X1_value_163, en_ops, en_opc, iI_add, iI_mul, iI_sub, jL_add, jL_mul, iI_le, iI_lt, iI_eq, iI_eq0, iI_lt0, iI_0le, iI_le0, iI_0lt, jL_iI, iI_jL, lc_eq, lc_lt, lc_le, lc_ge, lc_gt, Nat.sub_zero, Nat.zero_le, true_and, and_true, Nat.reduceAdd, Nat.reduceLeDiff]
        refine ⟨fun _ => ?_, fun g => (g (by first | trivial | rfl)).elim⟩
        rw [show (top : Int) + -1 = ((top - 1 : Nat) : Int) by omega, show (at9 : Int) + 1 + 1 = ((at9 + 2 : Nat) : Int) by omega]
        exact ih (at9 + 2) (top - 1) _ _ _ h9 F9 run
      · rw [if_pos g] at run
        refine ⟨fun g => absurd g (by omega), fun _ => ⟨at9 + 1, rfl, by omega, ?_⟩⟩
        rw [e1, eam]
        apply s_X1_value_163
        simp (disch := omega) only [B_X1_value_163, en_ops, en_opc, iI_add, iI_mul, iI_sub, jL_add, jL_mul, iI_le, iI_lt, iI_eq, iI_eq0, iI_lt0, iI_0le, iI_le0, iI_0lt, jL_iI, iI_jL, lc_eq, lc_lt, lc_le, lc_ge, lc_gt, Nat.sub_zero, Nat.zero_le, true_and, and_true, Nat.reduceAdd, Nat.reduceLeDiff]
        refine ⟨fun g => absurd g (by decide), fun _ => ⟨fun g => absurd g (by omega), fun _ => ?_⟩⟩
        rw [show (top : Int) + -1 = ((top - 1 : Nat) : Int) by omega, show am = ((am.toNat : Nat) : Int) by omega]
        exact ih am.toNat (top - 1) _ _ _ h9 F9 run
    · refine ⟨fun _ => ⟨fun g => absurd g (by omega), fun _ => ⟨fun _ => ⟨fun g => absurd o1 g, fun _ => ⟨fun g => absurd g (by omega), fun _ => ⟨top - 1, iI_eq_of (by omega), by omega, top - 1, iI_eq_of (by omega), by omega, ?_⟩⟩⟩, fun g => absurd g (by omega)⟩⟩, fun g => absurd g (by omega)⟩
      have st : ckS (hi (L + 1)) (fun j => iI (nm j)) (at9, top, h9 36) = (at9 + 1, top, upN (h9 36) (top - 1) (1 - h9 36 (top - 1))) := by
        unfold ckS
        show (if 0 ≤ (hi (L + 1) at9).toInt then _ else _) = _
        rw [he, if_neg (by omega), if_neg (by omega), if_neg (by omega), if_neg (by omega), if_pos o1]
      rw [st] at run
      refine ih (at9 + 1) top _ _ _ _ (Fr.up F9 rfl) ?_
      rw [row_up]
      exact run
    · refine ⟨fun _ => ⟨fun g => absurd g (by omega), fun _ => ⟨fun _ => ⟨fun _ => ⟨fun g => absurd g (by omega), fun _ => ⟨top - 2, iI_eq_of (by omega), by omega, top - 1, iI_eq_of (by omega), by omega, ?_⟩⟩, fun g => absurd g (by omega)⟩, fun g => absurd g (by omega)⟩⟩, fun g => absurd g (by omega)⟩
      obtain ⟨c, hc⟩ : ∃ c, c = (if -16 ≤ e then (-8 - e).toNat else (-7 - e).toNat) := ⟨_, rfl⟩
      have c9 : 2 ≤ c ∧ c ≤ 11 ∧ c ≠ 9 ∧ e = (if c ≤ 8 then -8 - (c : Int) else -7 - (c : Int)) := by
        rw [hc]
        (repeat' split) <;> omega
      have st : ckS (hi (L + 1)) (fun j => iI (nm j)) (at9, top, h9 36) = (at9 + 1, top - 1, upN (h9 36) (top - 2) (opE c (h9 36 (top - 2)) (h9 36 (top - 1)))) := by
        unfold ckS
        show (if 0 ≤ (hi (L + 1) at9).toInt then _ else _) = _
        rw [he, if_neg (by omega), if_neg (by omega), if_neg (by omega), if_neg (by omega), if_neg (by omega)]
        show (at9 + 1, top - 1, upN (h9 36) (top - 2) (opE (if -16 ≤ e then (-8 - e).toNat else (-7 - e).toNat) (h9 36 (top - 2)) (h9 36 (top - 1)))) = _
        rw [← hc]
      rw [st] at run
      rw [c9.2.2.2]
      refine t_joined (d := d) ⟨c9.1, c9.2.1, c9.2.2.1⟩ ?_
      simp (disch := omega) only [s36, l36, en_ops, en_opc, iI_add, iI_mul, iI_sub, jL_add, jL_mul, iI_le, iI_lt, iI_eq, iI_eq0, iI_lt0, iI_0le, iI_le0, iI_0lt, jL_iI, iI_jL, lc_eq, lc_lt, lc_le, lc_ge, lc_gt, Nat.sub_zero, Nat.zero_le, true_and, and_true, Nat.reduceAdd, Nat.reduceLeDiff]
      refine ⟨top - 2, iI_eq_of (by omega), by omega, ?_⟩
      rw [show (top : Int) + -1 = ((top - 1 : Nat) : Int) by omega]
      refine ih (at9 + 1) (top - 1) _ _ _ _ (Fr.up F9 rfl) ?_
      rw [row_up]
      exact run
/-- the reference's -/
theorem m_worked {l w k A B : Nat} {x : Int} {S' : Nat → Int32} {nm : Nat → Int} (hR : rfR hr) (hl4 : l < 4) (hw : w < 3) (hx : x = 3 * l + w) (hA : hi 121 (3 * l + w) = iI (A : Int)) (hB : hi 122 (3 * l + w) = iI (B : Int)) (hB6 : B ≤ 2480) (hN : rfM nm hi) (hrun : grun (rkS (hi 119) (hi 120) (fun j => iI (nm j))) (rkO (hi 119) (hi 120) B) k (A, 0, hi 123) (B, 1, S'))
    (H : ∀ hi', Fr (· = 123) hi hi' → K (.inl (some (.int (S' 0)))) hi' hl hr) : en_Call G (d + 1) xc xs Y_X11_worked wN wN [.ref 110, .int (iI x)] hi hl hr K := by
  obtain ⟨-, ⟨r20, r21, r22, r23, r24, r25⟩, -⟩ := id hR
  have s119 : en_SH 119 = (100, 2480) := by decide
  have s120 : en_SH 120 = (100, 2480) := by decide
  have s121 : en_SH 121 = (100, 12) := by decide
  have s122 : en_SH 122 = (100, 12) := by decide
  have s123 : en_SH 123 = (100, 620) := by decide
  have s124 : en_SH 124 = (100, 9) := by decide
  have l119 : 119 < 134 := by decide
  have l120 : 120 < 134 := by decide
  have l121 : 121 < 134 := by decide
  have l122 : 122 < 134 := by decide
  have l123 : 123 < 134 := by decide
  have l124 : 124 < 134 := by decide
  apply en_X11_worked
  simp (disch := omega) only [B_X11_worked_0, sh110, lt110, s121, l121, r22, en_ops, en_opc, iI_add, iI_mul, iI_sub, jL_add, jL_mul, iI_le, iI_lt, iI_eq, iI_eq0, iI_lt0, iI_0le, iI_le0, iI_0lt, jL_iI, iI_jL, lc_eq, lc_lt, lc_le, lc_ge, lc_gt, Nat.sub_zero, Nat.zero_le, true_and, and_true, Nat.reduceAdd, Nat.reduceLeDiff]
  refine ⟨3 * l + w, iI_eq_of (by omega), by omega, ?_⟩
  rw [hA]
  suffices L9 : ∀ (k at9 top : Nat) (x4 x5 x6 x7 : Value) (h9 : en_I), Fr (· = 123) hi h9 → grun (rkS (hi 119) (hi 120) (fun j => iI (nm j))) (rkO (hi 119) (hi 120) B) k (at9, top, h9 123) (B, 1, S') → en_V G Y_X11_worked (d + 1) wN wN K 9 [.ref 110, .int (iI x), .int (iI (top : Int)), .int (iI (at9 : Int)), x4, x5, x6, x7] [] h9 hl hr xc xs from L9 k A 0 _ _ _ _ hi Fr.rf hrun
  intro k
  induction k with
  | zero =>
    intro at9 top x4 x5 x6 x7 h9 F9 g
    have g2 : (at9, top, h9 123) = (B, 1, S') := g
    cases g2
    have e122 : h9 122 = hi 122 := F9 122 (by omega)
    apply s_X11_worked_9
    simp (disch := omega) only [B_X11_worked_9, sh110, lt110, s122, l122, s123, l123, r23, r24, en_ops, en_opc, iI_add, iI_mul, iI_sub, jL_add, jL_mul, iI_le, iI_lt, iI_eq, iI_eq0, iI_lt0, iI_0le, iI_le0, iI_0lt, jL_iI, iI_jL, lc_eq, lc_lt, lc_le, lc_ge, lc_gt, Nat.sub_zero, Nat.zero_le, true_and, and_true, Nat.reduceAdd, Nat.reduceLeDiff]
    refine ⟨3 * l + w, iI_eq_of (by omega), by omega, ?_⟩
    rw [e122, hB]
    simp (disch := omega) only [sh110, lt110, s122, l122, s123, l123, r23, r24, en_ops, en_opc, iI_add, iI_mul, iI_sub, jL_add, jL_mul, iI_le, iI_lt, iI_eq, iI_eq0, iI_lt0, iI_0le, iI_le0, iI_0lt, jL_iI, iI_jL, lc_eq, lc_lt, lc_le, lc_ge, lc_gt, Nat.sub_zero, Nat.zero_le, true_and, and_true, Nat.reduceAdd, Nat.reduceLeDiff]
    exact ⟨fun _ => ⟨fun _ => ⟨0, rfl, by decide, H h9 F9⟩, fun g => absurd g (by decide)⟩, fun g => absurd (Int.le_refl _) g⟩
  | succ k ih =>
    intro at9 top x4 x5 x6 x7 h9 F9 g
    obtain ⟨⟨ok1, ok2, ok3⟩, run⟩ := g
    replace ok1 : at9 < B := ok1
    replace ok2 : top ≤ 64 := ok2
    replace ok3 : ((hi 119 at9).toInt = 0 ∧ top < 64) ∨ ((hi 119 at9).toInt = 1 ∧ top < 64 ∧ 0 ≤ (hi 120 at9).toInt ∧ (hi 120 at9).toInt < 9) ∨ ((hi 119 at9).toInt = 9 ∧ 1 ≤ top) ∨ ((hi 119 at9).toInt = 12 ∧ 3 ≤ top) ∨ ((2 ≤ (hi 119 at9).toInt ∧ (hi 119 at9).toInt ≤ 11 ∧ (hi 119 at9).toInt ≠ 9) ∧ 2 ≤ top) := ok3
    have ee : ∀ x, x ≠ 123 → h9 x = hi x := fun x g => F9 x g
    obtain ⟨e, he⟩ : ∃ e, (hi 119 at9).toInt = e := ⟨_, rfl⟩
    obtain ⟨g1, g2⟩ := i_rg (hi 119 at9)
    have hx9 : hi 119 at9 = iI e := by rw [← he, i_of]
    rw [he] at ok3 g1 g2
    apply s_X11_worked_9
    simp (disch := omega) only [B_X11_worked_9, sh110, lt110, s119, l119, s120, l120, s122, l122, s123, l123, s124, l124, r20, r21, r23, r24, r25, en_ops, en_opc, iI_add, iI_mul, iI_sub, jL_add, jL_mul, iI_le, iI_lt, iI_eq, iI_eq0, iI_lt0, iI_0le, iI_le0, iI_0lt, jL_iI, iI_jL, lc_eq, lc_lt, lc_le, lc_ge, lc_gt, Nat.sub_zero, Nat.zero_le, true_and, and_true, Nat.reduceAdd, Nat.reduceLeDiff]
    refine ⟨3 * l + w, iI_eq_of (by omega), by omega, ?_⟩
    rw [ee 122 (by decide), hB]
    simp (disch := omega) only [sh110, lt110, s119, l119, s120, l120, s122, l122, s123, l123, s124, l124, r20, r21, r23, r24, r25, en_ops, en_opc, iI_add, iI_mul, iI_sub, jL_add, jL_mul, iI_le, iI_lt, iI_eq, iI_eq0, iI_lt0, iI_0le, iI_le0, iI_0lt, jL_iI, iI_jL, lc_eq, lc_lt, lc_le, lc_ge, lc_gt, Nat.sub_zero, Nat.zero_le, true_and, and_true, Nat.reduceAdd, Nat.reduceLeDiff]
    refine ⟨fun g => absurd g (by omega), fun _ => ⟨at9, rfl, by omega, ?_⟩⟩
    rw [ee 119 (by decide), hx9]
    simp (disch := omega) only [s123, l123, s124, l124, s120, l120, en_ops, en_opc, iI_add, iI_mul, iI_sub, jL_add, jL_mul, iI_le, iI_lt, iI_eq, iI_eq0, iI_lt0, iI_0le, iI_le0, iI_0lt, jL_iI, iI_jL, lc_eq, lc_lt, lc_le, lc_ge, lc_gt, Nat.sub_zero, Nat.zero_le, true_and, and_true, Nat.reduceAdd, Nat.reduceLeDiff]
    have ws : ∀ (t : Nat) (v : Int32) (h : en_I), h = h9 → en_up h 123 t v 123 = upN (h9 123) t v := fun t v h e => by rw [e, row_up]
    rcases ok3 with ⟨o1, o2⟩ | ⟨o1, o2, o3, o4⟩ | ⟨o1, o2⟩ | ⟨o1, o2⟩ | ⟨⟨o1, o2, o4⟩, o3⟩
    · have st : rkS (hi 119) (hi 120) (fun j => iI (nm j)) (at9, top, h9 123) = (at9 + 1, top + 1, upN (h9 123) top (hi 120 at9)) := by
        unfold rkS
        show (if (hi 119 at9).toInt = 0 then _ else _) = _
        rw [he, if_pos o1]
      rw [st] at run
      refine ⟨fun g => absurd g (by omega), fun _ => ⟨fun g => absurd o1 g, fun _ => ⟨at9, rfl, by omega, top, rfl, by omega, ?_⟩⟩⟩
      rw [ee 120 (by decide)]
      exact ih (at9 + 1) (top + 1) _ _ _ _ _ (Fr.up F9 rfl) (by rw [row_up]; exact run)
    · have st : rkS (hi 119) (hi 120) (fun j => iI (nm j)) (at9, top, h9 123) = (at9 + 1, top + 1, upN (h9 123) top (iI (nm (hi 120 at9).toInt.toNat))) := by
        unfold rkS
        show (if (hi 119 at9).toInt = 0 then _ else _) = _
        rw [he, if_neg (by omega), if_pos o1]
      rw [st] at run
      refine ⟨fun g => absurd g (by omega), fun _ => ⟨fun _ => ⟨at9, rfl, by omega, (hi 120 at9).toInt.toNat, ?_, by omega, top, rfl, by omega, ?_⟩, fun g => absurd g (by omega)⟩⟩
      · rw [ee 120 (by decide), show (((hi 120 at9).toInt.toNat : Nat) : Int) = (hi 120 at9).toInt by omega, i_of]
      · rw [ee 124 (by decide), hN _ (by omega)]
        exact ih (at9 + 1) (top + 1) _ _ _ _ _ (Fr.up F9 rfl) (by rw [row_up]; exact run)
    · have st : rkS (hi 119) (hi 120) (fun j => iI (nm j)) (at9, top, h9 123) = (at9 + 1, top, upN (h9 123) (top - 1) (1 - h9 123 (top - 1))) := by
        unfold rkS
        show (if (hi 119 at9).toInt = 0 then _ else _) = _
        rw [he, if_neg (by omega), if_neg (by omega), if_pos o1]
      rw [st] at run
      refine ⟨fun _ => ⟨fun g => absurd o1 g, fun _ => ⟨top - 1, iI_eq_of (by omega), by omega, top - 1, iI_eq_of (by omega), by omega, ?_⟩⟩, fun g => absurd g (by omega)⟩
      exact ih (at9 + 1) top _ _ _ _ _ (Fr.up F9 rfl) (by rw [row_up]; exact run)
    · have st : rkS (hi 119) (hi 120) (fun j => iI (nm j)) (at9, top, h9 123) = (at9 + 1, top - 2, upN (h9 123) (top - 3) (if h9 123 (top - 3) = 1 then h9 123 (top - 2) else h9 123 (top - 1))) := by
        unfold rkS
        show (if (hi 119 at9).toInt = 0 then _ else _) = _
        rw [he, if_neg (by omega), if_neg (by omega), if_neg (by omega), if_pos o1]
      rw [st] at run
      refine ⟨fun _ => ⟨fun _ => ⟨fun g => absurd o1 g, fun _ => ?_⟩, fun g => absurd g (by omega)⟩, fun g => absurd g (by omega)⟩
      rw [show (top : Int) + -2 = ((top - 2 : Nat) : Int) by omega]
      refine ⟨top - 3, iI_eq_of (by omega), by omega, fun g => ⟨top - 1, iI_eq_of (by omega), by omega, top - 3, iI_eq_of (by omega), by omega, ?_⟩, fun g => ⟨top - 2, rfl, by omega, top - 3, iI_eq_of (by omega), by omega, ?_⟩⟩
      · rw [if_neg (show ¬ h9 123 (top - 3) = 1 from g)] at run
        exact ih (at9 + 1) (top - 2) _ _ _ _ _ (Fr.up F9 rfl) (by rw [row_up]; exact run)
      · rw [if_pos (show h9 123 (top - 3) = 1 from g)] at run
        exact ih (at9 + 1) (top - 2) _ _ _ _ _ (Fr.up F9 rfl) (by rw [row_up]; exact run)
    · obtain ⟨c, hc⟩ : ∃ c, c = e.toNat := ⟨_, rfl⟩
      have c9 : 2 ≤ c ∧ c ≤ 11 ∧ c ≠ 9 ∧ e = (c : Int) := by omega
      have st : rkS (hi 119) (hi 120) (fun j => iI (nm j)) (at9, top, h9 123) = (at9 + 1, top - 1, upN (h9 123) (top - 2) (opE c (h9 123 (top - 2)) (h9 123 (top - 1)))) := by
        unfold rkS
        show (if (hi 119 at9).toInt = 0 then _ else _) = _
        rw [he, if_neg (by omega), if_neg (by omega), if_neg (by omega), if_neg (by omega)]
        show (at9 + 1, top - 1, upN (h9 123) (top - 2) (opE e.toNat (h9 123 (top - 2)) (h9 123 (top - 1)))) = _
        rw [← hc]
      rw [st] at run
      refine ⟨fun _ => ⟨fun _ => ⟨fun _ => ⟨top - 2, iI_eq_of (by omega), by omega, top - 1, iI_eq_of (by omega), by omega, ?_⟩, fun g => absurd g (by omega)⟩, fun g => absurd g (by omega)⟩, fun g => absurd g (by omega)⟩
      rw [iI_toInt (by omega) (by omega)]
      rw [show (top : Int) + -1 = ((top - 1 : Nat) : Int) by omega]
      have fin : ∀ v, v = opE c (h9 123 (top - 2)) (h9 123 (top - 1)) → ∀ (x4 x5 x6 x7 : Value), en_V G Y_X11_worked (d + 1) wN wN K 9 [.ref 110, .int (iI x), .int (iI ((top - 1 : Nat) : Int)), .int (iI ((at9 + 1 : Nat) : Int)), x4, x5, x6, x7] [] (en_up h9 123 (top - 2) v) hl hr xc xs := fun v hv x4 x5 x6 x7 => ih (at9 + 1) (top - 1) _ _ _ _ _ (Fr.up F9 rfl) (by rw [row_up, hv]; exact run)
      generalize h9 123 (top - 2) = xv at *
      generalize h9 123 (top - 1) = yv at *
      have hc' : c = 2 ∨ c = 3 ∨ c = 4 ∨ c = 5 ∨ c = 6 ∨ c = 7 ∨ c = 8 ∨ c = 10 ∨ c = 11 := by omega
      have e9 := c9.2.2.2
      clear hc
      rcases hc' with rfl | rfl | rfl | rfl | rfl | rfl | rfl | rfl | rfl
      · refine ⟨fun g => by rcases g with g | g; omega; simp at g; omega, fun j k hk hj => ?_⟩
        have hj7 : j = 0 := by omega
        subst hj7
        cases hk
        apply s_X11_worked_224
        simp (disch := omega) only [B_X11_worked_224, sh110, lt110, s123, l123, r24, en_ops, en_opc, iI_add, iI_mul, iI_sub, jL_add, jL_mul, iI_le, iI_lt, iI_eq, iI_eq0, iI_lt0, iI_0le, iI_le0, iI_0lt, jL_iI, iI_jL, lc_eq, lc_lt, lc_le, lc_ge, lc_gt, Nat.sub_zero, Nat.zero_le, true_and, and_true, Nat.reduceAdd, Nat.reduceLeDiff]
        refine ⟨top - 2, iI_eq_of (by omega), by omega, ?_⟩
        exact fin _ rfl _ _ _ _
      · refine ⟨fun g => by rcases g with g | g; omega; simp at g; omega, fun j k hk hj => ?_⟩
        have hj7 : j = 1 := by omega
        subst hj7
        cases hk
        apply s_X11_worked_234
        simp (disch := omega) only [B_X11_worked_234, sh110, lt110, s123, l123, r24, en_ops, en_opc, iI_add, iI_mul, iI_sub, jL_add, jL_mul, iI_le, iI_lt, iI_eq, iI_eq0, iI_lt0, iI_0le, iI_le0, iI_0lt, jL_iI, iI_jL, lc_eq, lc_lt, lc_le, lc_ge, lc_gt, Nat.sub_zero, Nat.zero_le, true_and, and_true, Nat.reduceAdd, Nat.reduceLeDiff]
        refine ⟨top - 2, iI_eq_of (by omega), by omega, ?_⟩
        exact fin _ rfl _ _ _ _
      · refine ⟨fun g => by rcases g with g | g; omega; simp at g; omega, fun j k hk hj => ?_⟩
        have hj7 : j = 2 := by omega
        subst hj7
        cases hk
        apply s_X11_worked_244
        simp (disch := omega) only [B_X11_worked_244, sh110, lt110, s123, l123, r24, en_ops, en_opc, iI_add, iI_mul, iI_sub, jL_add, jL_mul, iI_le, iI_lt, iI_eq, iI_eq0, iI_lt0, iI_0le, iI_le0, iI_0lt, jL_iI, iI_jL, lc_eq, lc_lt, lc_le, lc_ge, lc_gt, Nat.sub_zero, Nat.zero_le, true_and, and_true, Nat.reduceAdd, Nat.reduceLeDiff]
        refine ⟨top - 2, iI_eq_of (by omega), by omega, ?_⟩
        exact fin _ rfl _ _ _ _
      · refine ⟨fun g => by rcases g with g | g; omega; simp at g; omega, fun j k hk hj => ?_⟩
        have hj7 : j = 3 := by omega
        subst hj7
        cases hk
        apply s_X11_worked_254
        simp (disch := omega) only [B_X11_worked_254, sh110, lt110, s123, l123, r24, en_ops, en_opc, iI_add, iI_mul, iI_sub, jL_add, jL_mul, iI_le, iI_lt, iI_eq, iI_eq0, iI_lt0, iI_0le, iI_le0, iI_0lt, jL_iI, iI_jL, lc_eq, lc_lt, lc_le, lc_ge, lc_gt, Nat.sub_zero, Nat.zero_le, true_and, and_true, Nat.reduceAdd, Nat.reduceLeDiff]
        have q5 : ∀ v, v = (if yv = 0 then 0 else xv / yv) → v = opE 5 xv yv := fun v h => h
        refine ⟨fun g => ⟨fun g2 => ⟨g, top - 2, iI_eq_of (by omega), by omega, fin _ (q5 _ (if_neg g).symm) _ _ _ _⟩, fun g2 => ⟨top - 2, iI_eq_of (by omega), by omega, fin _ (q5 _ ?_) _ _ _ _⟩⟩, fun g => ⟨top - 2, iI_eq_of (by omega), by omega, fin _ (q5 _ (if_pos g).symm) _ _ _ _⟩⟩
        rw [if_neg g, g2, dv_m1]
      · refine ⟨fun g => by rcases g with g | g; omega; simp at g; omega, fun j k hk hj => ?_⟩
        have hj7 : j = 4 := by omega
        subst hj7
        cases hk
        apply s_X11_worked_285
        simp (disch := omega) only [B_X11_worked_285, sh110, lt110, s123, l123, r24, en_ops, en_opc, iI_add, iI_mul, iI_sub, jL_add, jL_mul, iI_le, iI_lt, iI_eq, iI_eq0, iI_lt0, iI_0le, iI_le0, iI_0lt, jL_iI, iI_jL, lc_eq, lc_lt, lc_le, lc_ge, lc_gt, Nat.sub_zero, Nat.zero_le, true_and, and_true, Nat.reduceAdd, Nat.reduceLeDiff]
        refine ⟨fun g => ⟨top - 2, iI_eq_of (by omega), by omega, ?_⟩, fun g => ⟨top - 2, iI_eq_of (by omega), by omega, ?_⟩⟩
        · exact fin _ (if_neg (Int32.not_lt.mpr g)).symm _ _ _ _
        · exact fin _ (if_pos (Int32.not_le.mp g)).symm _ _ _ _
      · refine ⟨fun g => by rcases g with g | g; omega; simp at g; omega, fun j k hk hj => ?_⟩
        have hj7 : j = 5 := by omega
        subst hj7
        cases hk
        apply s_X11_worked_302
        simp (disch := omega) only [B_X11_worked_302, sh110, lt110, s123, l123, r24, en_ops, en_opc, iI_add, iI_mul, iI_sub, jL_add, jL_mul, iI_le, iI_lt, iI_eq, iI_eq0, iI_lt0, iI_0le, iI_le0, iI_0lt, jL_iI, iI_jL, lc_eq, lc_lt, lc_le, lc_ge, lc_gt, Nat.sub_zero, Nat.zero_le, true_and, and_true, Nat.reduceAdd, Nat.reduceLeDiff]
        refine ⟨fun g => ⟨top - 2, iI_eq_of (by omega), by omega, ?_⟩, fun g => ⟨top - 2, iI_eq_of (by omega), by omega, ?_⟩⟩
        · exact fin _ (if_neg (Int32.not_lt.mpr g)).symm _ _ _ _
        · exact fin _ (if_pos (Int32.not_le.mp g)).symm _ _ _ _
      · refine ⟨fun g => by rcases g with g | g; omega; simp at g; omega, fun j k hk hj => ?_⟩
        have hj7 : j = 6 := by omega
        subst hj7
        cases hk
        apply s_X11_worked_319
        simp (disch := omega) only [B_X11_worked_319, sh110, lt110, s123, l123, r24, en_ops, en_opc, iI_add, iI_mul, iI_sub, jL_add, jL_mul, iI_le, iI_lt, iI_eq, iI_eq0, iI_lt0, iI_0le, iI_le0, iI_0lt, jL_iI, iI_jL, lc_eq, lc_lt, lc_le, lc_ge, lc_gt, Nat.sub_zero, Nat.zero_le, true_and, and_true, Nat.reduceAdd, Nat.reduceLeDiff]
        refine ⟨fun g => ⟨top - 2, iI_eq_of (by omega), by omega, ?_⟩, fun g => ⟨top - 2, iI_eq_of (by omega), by omega, ?_⟩⟩
        · exact fin _ (if_neg g).symm _ _ _ _
        · exact fin _ (if_pos g).symm _ _ _ _
      · refine ⟨fun g => by rcases g with g | g; omega; simp at g; omega, fun j k hk hj => ?_⟩
        have hj7 : j = 8 := by omega
        subst hj7
        cases hk
        apply s_X11_worked_336
        simp (disch := omega) only [B_X11_worked_336, sh110, lt110, s123, l123, r24, en_ops, en_opc, iI_add, iI_mul, iI_sub, jL_add, jL_mul, iI_le, iI_lt, iI_eq, iI_eq0, iI_lt0, iI_0le, iI_le0, iI_0lt, jL_iI, iI_jL, lc_eq, lc_lt, lc_le, lc_ge, lc_gt, Nat.sub_zero, Nat.zero_le, true_and, and_true, Nat.reduceAdd, Nat.reduceLeDiff]
        refine ⟨top - 2, iI_eq_of (by omega), by omega, ?_⟩
        exact fin _ rfl _ _ _ _
      · refine ⟨fun _ => ?_, fun j k hk hj => ?_⟩
        rotate_left
        · have : j < 9 := by
            have := (List.getElem?_eq_some_iff.mp hk).1
            simpa using this
          omega
        apply s_X11_worked_346
        simp (disch := omega) only [B_X11_worked_346, sh110, lt110, s123, l123, r24, en_ops, en_opc, iI_add, iI_mul, iI_sub, jL_add, jL_mul, iI_le, iI_lt, iI_eq, iI_eq0, iI_lt0, iI_0le, iI_le0, iI_0lt, jL_iI, iI_jL, lc_eq, lc_lt, lc_le, lc_ge, lc_gt, Nat.sub_zero, Nat.zero_le, true_and, and_true, Nat.reduceAdd, Nat.reduceLeDiff]
        refine ⟨top - 2, iI_eq_of (by omega), by omega, ?_⟩
        exact fin _ rfl _ _ _ _
end
