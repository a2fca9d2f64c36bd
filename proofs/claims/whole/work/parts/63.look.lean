section
variable {G : en_G} {d : Nat} {K : en_K} {a nc nz : Nat} {f : Nat → Nat → Nat → Int} {hi : en_I} {hl : en_L} {hr : en_F} {xc xs : Nat} {g : Nat → Int}
/-! looking: the richest cells -/
def riB (g : Nat → Int) (bits : Nat) : Nat → Int
  | 0 => -1
  | c + 1 => if bits.testBit c = false ∧ (riB g bits c = -1 ∨ g (riB g bits c).toNat < g c) then (c : Int) else riB g bits c
theorem riB_r {bits : Nat} (n : Nat) : -1 ≤ riB g bits n ∧ riB g bits n < n ∧ (riB g bits n ≠ -1 → bits.testBit (riB g bits n).toNat = false) ∧ ((∃ c, c < n ∧ bits.testBit c = false) → riB g bits n ≠ -1) := by
  induction n with
  | zero => exact ⟨Int.le_refl _, by show (-1 : Int) < 0; omega, fun e => absurd rfl e, fun ⟨c, hc, _⟩ => by omega⟩
  | succ n ih =>
    obtain ⟨i1, i2, i3, i4⟩ := ih
    show -1 ≤ (if bits.testBit n = false ∧ (riB g bits n = -1 ∨ g (riB g bits n).toNat < g n) then (n : Int) else riB g bits n) ∧ (if bits.testBit n = false ∧ (riB g bits n = -1 ∨ g (riB g bits n).toNat < g n) then (n : Int) else riB g bits n) < ((n + 1 : Nat) : Int) ∧ ((if bits.testBit n = false ∧ (riB g bits n = -1 ∨ g (riB g bits n).toNat < g n) then (n : Int) else riB g bits n) ≠ -1 → bits.testBit (if bits.testBit n = false ∧ (riB g bits n = -1 ∨ g (riB g bits n).toNat < g n) then (n : Int) else riB g bits n).toNat = false) ∧ (_ → (if bits.testBit n = false ∧ (riB g bits n = -1 ∨ g (riB g bits n).toNat < g n) then (n : Int) else riB g bits n) ≠ -1)
    split
    next q => exact ⟨by omega, by omega, fun _ => by rw [show ((n : Int)).toNat = n by omega]; exact q.1, fun _ => by omega⟩
    next q =>
      refine ⟨i1, by omega, i3, fun ⟨c, hc, hb⟩ => ?_⟩
      by_cases e : c = n
      · subst e
        intro e2
        exact q ⟨hb, Or.inl e2⟩
      · exact i4 ⟨c, by omega, hb⟩
def riP (g : Nat → Int) (nc : Nat) : Nat → Nat
  | 0 => 0
  | k + 1 => if riB g (riP g nc k) nc = -1 then riP g nc k else riP g nc k ||| 2 ^ (riB g (riP g nc k) nc).toNat
theorem tb_or (b j i : Nat) : (b ||| 2 ^ j).testBit i = (b.testBit i || decide (j = i)) := by rw [Nat.testBit_or, Nat.testBit_two_pow]
def bsP (bits nc : Nat) (g : Nat → Int) : Int := sumTo nc (fun c => if bits.testBit c = true then g c else 0)
theorem bs_or {bits j : Nat} (hj : j < nc) (hb : bits.testBit j = false) : bsP (bits ||| 2 ^ j) nc g = bsP bits nc g + g j := by
  have e : bsP (bits ||| 2 ^ j) nc g = sumTo nc (fun c => (if bits.testBit c = true then g c else 0) + (if c = j then g j else 0)) := sumTo_congr (fun c _ => by
    rw [tb_or]
    by_cases e : c = j
    · subst e; rw [hb]; simp
    · rw [if_neg e]
      have : decide (j = c) = false := by simp; omega
      rw [this]; simp)
  rw [e, sumTo_add]
  have : sumTo nc (fun c => if c = j then g j else 0) = g j := by rw [sumTo_one hj (fun i _ h2 => if_neg h2), if_pos rfl]
  rw [this]; rfl
theorem riP_c (k : Nat) (hk : k ≤ nc) : riP g nc k < 2 ^ nc ∧ bsP (riP g nc k) nc (fun _ => 1) = k := by
  induction k with
  | zero => exact ⟨Nat.two_pow_pos nc, sumTo_zero (fun c _ => by show (if (0 : Nat).testBit c = true then (1 : Int) else 0) = 0; rw [Nat.zero_testBit]; rfl)⟩
  | succ k ih =>
    obtain ⟨i1, i2⟩ := ih (by omega)
    obtain ⟨b1, b2, b3, b4⟩ := riB_r (g := g) (bits := riP g nc k) nc
    have ex : ∃ c, c < nc ∧ (riP g nc k).testBit c = false := by
      rcases Classical.em (∃ c, c < nc ∧ (riP g nc k).testBit c = false) with q | q
      · exact q
      · have : bsP (riP g nc k) nc (fun _ => 1) = sumTo nc (fun _ => (1 : Int)) := sumTo_congr (fun c hc => by
          have : (riP g nc k).testBit c = true := by
            cases h : (riP g nc k).testBit c
            · exact absurd ⟨c, hc, h⟩ q
            · rfl
          rw [if_pos this])
        have e1 : ∀ m : Nat, sumTo m (fun _ => (1 : Int)) = m := fun m => by
          induction m with
          | zero => rfl
          | succ m ih => rw [sumTo_s, ih]; omega
        rw [e1] at this
        omega
    have ne := b4 ex
    have st : riP g nc (k + 1) = riP g nc k ||| 2 ^ (riB g (riP g nc k) nc).toNat := if_neg ne
    rw [st]
    refine ⟨Nat.or_lt_two_pow i1 (Nat.pow_lt_pow_right (by decide) (by omega)), ?_⟩
    rw [bs_or (g := fun _ => 1) (by omega) (b3 ne), i2]
    omega
theorem riB_ne {k : Nat} (hk : k < nc) : riB g (riP g nc k) nc ≠ -1 := by
  obtain ⟨b1, b2, b3, b4⟩ := riB_r (g := g) (bits := riP g nc k) nc
  obtain ⟨i1, i2⟩ := riP_c (g := g) (nc := nc) k (by omega)
  refine b4 ?_
  rcases Classical.em (∃ c, c < nc ∧ (riP g nc k).testBit c = false) with q | q
  · exact q
  · have : bsP (riP g nc k) nc (fun _ => 1) = sumTo nc (fun _ => (1 : Int)) := sumTo_congr (fun c hc => by
      have : (riP g nc k).testBit c = true := by
        cases h : (riP g nc k).testBit c
        · exact absurd ⟨c, hc, h⟩ q
        · rfl
      rw [if_pos this])
    have e1 : ∀ m : Nat, sumTo m (fun _ => (1 : Int)) = m := fun m => by
      induction m with
      | zero => rfl
      | succ m ih => rw [sumTo_s, ih]; omega
    rw [e1] at this
    omega
theorem riP_s {k : Nat} (hk : k < nc) : riP g nc (k + 1) = riP g nc k ||| 2 ^ (riB g (riP g nc k) nc).toNat ∧ bsP (riP g nc (k + 1)) nc g = bsP (riP g nc k) nc g + g (riB g (riP g nc k) nc).toNat := by
  obtain ⟨b1, b2, b3, b4⟩ := riB_r (g := g) (bits := riP g nc k) nc
  have ne := riB_ne (g := g) hk
  have st : riP g nc (k + 1) = riP g nc k ||| 2 ^ (riB g (riP g nc k) nc).toNat := if_neg ne
  exact ⟨st, by rw [st, bs_or (by omega) (b3 ne)]⟩
theorem t_richest {z n : Nat} (ha : isSh a) (hR : shR a hr) (hh : shH a nc nz f hi) (hB : fB nc nz f) (hz : z < nz) (hn : n ≤ nc)
    (H : K (.inl (some (.int (iI (riP (fun c => aP f c z) nc n : Int))))) hi hl hr) : en_Call G (d + 3) xc xs Y_X6_richest wN wN [.ref a, .int (iI (z : Int)), .int (iI (n : Int))] hi hl hr K := by
  obtain ⟨s0, s1, s2, s3, s4, s5, s6, s7, s8, s9, s10, s11⟩ := ha.sh
  obtain ⟨r1, r2, r3, r4, r5, r6, r7⟩ := id hR
  obtain ⟨h0, h1, b0, b1, h2⟩ := id hh
  have q1 : a + 1 < 134 := by omega
  have q2 : a + 2 < 134 := by omega
  have q3 : a + 3 < 134 := by omega
  have q4 : a + 4 < 134 := by omega
  have q5 : a + 5 < 134 := by omega
  have q6 : a + 6 < 134 := by omega
  have q7 : a + 7 < 134 := by omega
  have ar : ∀ c, c < 12 → 0 ≤ aP f c z ∧ aP f c z ≤ 10000000 := fun c hc => ⟨aP_nn hB c z, Int.le_trans (aP_le hB b1 hc z) (wP_le hB b1 hc)⟩
  apply en_X6_richest
  simp (disch := omega) only [B_X6_richest_0, en_ops, en_opc, iI_add, iI_mul, iI_sub, jL_add, jL_mul, iI_le, iI_lt, iI_eq, iI_eq0, iI_lt0, iI_0le, iI_le0, iI_0lt, jL_iI, iI_jL, lc_eq, lc_lt, lc_le, lc_ge, lc_gt, Nat.sub_zero, Nat.zero_le, true_and, and_true, Nat.reduceAdd, Nat.reduceLeDiff]
  suffices L : ∀ k : Nat, k ≤ n → ∀ x5 x6 x7, en_V G Y_X6_richest (d + 3) wN wN K 5 [.ref a, .int (iI (z : Int)), .int (iI (n : Int)), .int (iI (riP (fun c => aP f c z) nc k : Int)), .int (iI (k : Int)), x5, x6, x7] [] hi hl hr xc xs from L 0 (by omega) _ _ _
  refine lp n (fun x5 x6 x7 => ?_) (fun k hk ih x5 x6 x7 => ?_)
  · apply s_X6_richest_5
    simp (disch := omega) only [B_X6_richest_5, en_ops, en_opc, iI_add, iI_mul, iI_sub, jL_add, jL_mul, iI_le, iI_lt, iI_eq, iI_eq0, iI_lt0, iI_0le, iI_le0, iI_0lt, jL_iI, iI_jL, lc_eq, lc_lt, lc_le, lc_ge, lc_gt, Nat.sub_zero, Nat.zero_le, true_and, and_true, Nat.reduceAdd, Nat.reduceLeDiff]
    exact ⟨fun _ => H, fun e => absurd (Int.le_refl _) e⟩
  · obtain ⟨p1, -⟩ := riP_c (g := fun c => aP f c z) (nc := nc) k (by omega)
    obtain ⟨st, -⟩ := riP_s (g := fun c => aP f c z) (nc := nc) (k := k) (by omega)
    have ne := riB_ne (g := fun c => aP f c z) (nc := nc) (k := k) (by omega)
    rw [st] at ih
    generalize hbits : riP (fun c => aP f c z) nc k = bits at *
    apply s_X6_richest_5
    simp (disch := omega) only [B_X6_richest_5, en_ops, en_opc, iI_add, iI_mul, iI_sub, jL_add, jL_mul, iI_le, iI_lt, iI_eq, iI_eq0, iI_lt0, iI_0le, iI_le0, iI_0lt, jL_iI, iI_jL, lc_eq, lc_lt, lc_le, lc_ge, lc_gt, Nat.sub_zero, Nat.zero_le, true_and, and_true, Nat.reduceAdd, Nat.reduceLeDiff]
    refine ⟨fun e => by omega, fun _ => ?_⟩
    suffices L2 : ∀ c : Nat, c ≤ nc → ∀ x7, en_V G Y_X6_richest (d + 3) wN wN K 17 [.ref a, .int (iI (z : Int)), .int (iI (n : Int)), .int (iI (bits : Int)), .int (iI (k : Int)), .int (iI (riB (fun c => aP f c z) bits c)), .int (iI (c : Int)), x7] [] hi hl hr xc xs from L2 0 (by omega) _
    refine lp nc (fun x7 => ?_) (fun c hc ih2 x7 => ?_)
    · obtain ⟨r0, r9, -⟩ := riB_r (g := fun c => aP f c z) (bits := bits) nc
      apply s_X6_richest_17
      simp (disch := omega) only [B_X6_richest_17, s0, s1, h0, en_ops, en_opc, iI_add, iI_mul, iI_sub, jL_add, jL_mul, iI_le, iI_lt, iI_eq, iI_eq0, iI_lt0, iI_0le, iI_le0, iI_0lt, jL_iI, iI_jL, lc_eq, lc_lt, lc_le, lc_ge, lc_gt, Nat.sub_zero, Nat.zero_le, true_and, and_true, Nat.reduceAdd, Nat.reduceLeDiff]
      have en : riB (fun c => aP f c z) bits nc = ((riB (fun c => aP f c z) bits nc).toNat : Int) := by omega
      refine ⟨fun _ => ⟨fun e => absurd e ne, fun _ => ?_⟩, fun e => absurd (Int.le_refl _) e⟩
      rw [en, shl_1 _ (by omega), or_at, ← en]
      exact ih _ _ _
    · obtain ⟨r0, r9, -⟩ := riB_r (g := fun c => aP f c z) (bits := bits) c
      have st2 : riB (fun c => aP f c z) bits (c + 1) = if bits.testBit c = false ∧ (riB (fun c => aP f c z) bits c = -1 ∨ aP f (riB (fun c => aP f c z) bits c).toNat z < aP f c z) then (c : Int) else riB (fun c => aP f c z) bits c := rfl
      rw [st2] at ih2
      apply s_X6_richest_17
      cases hbit : bits.testBit c
      · simp (disch := omega) only [B_X6_richest_17, s0, s1, h0, sh_0 (show c < 32 by omega) hbit, en_ops, en_opc, iI_add, iI_mul, iI_sub, jL_add, jL_mul, iI_le, iI_lt, iI_eq, iI_eq0, iI_lt0, iI_0le, iI_le0, iI_0lt, jL_iI, iI_jL, lc_eq, lc_lt, lc_le, lc_ge, lc_gt, Nat.sub_zero, Nat.zero_le, true_and, and_true, Nat.reduceAdd, Nat.reduceLeDiff]
        refine ⟨fun e => by omega, fun _ => ⟨fun e => (e (by first | trivial | rfl)).elim, fun _ => ?_⟩⟩
        apply s_X6_richest_40
        simp (disch := omega) only [B_X6_richest_40, s0, s1, en_ops, en_opc, iI_add, iI_mul, iI_sub, jL_add, jL_mul, iI_le, iI_lt, iI_eq, iI_eq0, iI_lt0, iI_0le, iI_le0, iI_0lt, jL_iI, iI_jL, lc_eq, lc_lt, lc_le, lc_ge, lc_gt, Nat.sub_zero, Nat.zero_le, true_and, and_true, Nat.reduceAdd, Nat.reduceLeDiff]
        refine ⟨fun e => absurd e (by decide), fun _ => ⟨fun e => ?_, fun e => ?_⟩⟩
        · rw [if_pos ⟨hbit, Or.inl e⟩] at ih2; exact ih2 _
        · refine t_inCell (d := d) ha hR hh (by omega) (by omega) (by omega) ?_
          rw [inP_a hz]
          have en : riB (fun c => aP f c z) bits c = ((riB (fun c => aP f c z) bits c).toNat : Int) := by omega
          simp (disch := omega) only [s0, s1, en_ops, en_opc, iI_add, iI_mul, iI_sub, jL_add, jL_mul, iI_le, iI_lt, iI_eq, iI_eq0, iI_lt0, iI_0le, iI_le0, iI_0lt, jL_iI, iI_jL, lc_eq, lc_lt, lc_le, lc_ge, lc_gt, Nat.sub_zero, Nat.zero_le, true_and, and_true, Nat.reduceAdd, Nat.reduceLeDiff]
          rw [en]
          refine t_inCell (d := d) ha hR hh (by omega) (by omega) (by omega) ?_
          rw [inP_a hz, ← en]
          have a1 := ar c (by omega)
          have a2 := ar (riB (fun c => aP f c z) bits c).toNat (by omega)
          simp (disch := omega) only [en_ops, en_opc, iI_add, iI_mul, iI_sub, jL_add, jL_mul, iI_le, iI_lt, iI_eq, iI_eq0, iI_lt0, iI_0le, iI_le0, iI_0lt, jL_iI, iI_jL, lc_eq, lc_lt, lc_le, lc_ge, lc_gt, Nat.sub_zero, Nat.zero_le, true_and, and_true, Nat.reduceAdd, Nat.reduceLeDiff]
          refine ⟨fun e2 => ?_, fun e2 => ?_⟩
          · rw [if_neg (fun g9 => by rcases g9.2 with g9 | g9 <;> omega)] at ih2; exact ih2 _
          · rw [if_pos ⟨hbit, Or.inr (by omega)⟩] at ih2; exact ih2 _
      · simp (disch := omega) only [B_X6_richest_17, s0, s1, h0, sh_1 (show c < 32 by omega) hbit, en_ops, en_opc, iI_add, iI_mul, iI_sub, jL_add, jL_mul, iI_le, iI_lt, iI_eq, iI_eq0, iI_lt0, iI_0le, iI_le0, iI_0lt, jL_iI, iI_jL, lc_eq, lc_lt, lc_le, lc_ge, lc_gt, Nat.sub_zero, Nat.zero_le, true_and, and_true, Nat.reduceAdd, Nat.reduceLeDiff]
        refine ⟨fun e => by omega, fun _ => ⟨fun _ => ?_, fun e => absurd e (by decide)⟩⟩
        apply s_X6_richest_40
        simp (disch := omega) only [B_X6_richest_40, en_ops, en_opc, iI_add, iI_mul, iI_sub, jL_add, jL_mul, iI_le, iI_lt, iI_eq, iI_eq0, iI_lt0, iI_0le, iI_le0, iI_0lt, jL_iI, iI_jL, lc_eq, lc_lt, lc_le, lc_ge, lc_gt, Nat.sub_zero, Nat.zero_le, true_and, and_true, Nat.reduceAdd, Nat.reduceLeDiff]
        rw [if_neg (fun g9 => by rw [hbit] at g9; exact absurd g9.1 (by decide))] at ih2
        exact ⟨fun _ => ih2 _, fun e => (e (by first | trivial | rfl)).elim⟩
def loKP (nc : Nat) (g : Nat → Int) (bits : Nat) : Int := if sumTo nc g = 0 then 0 else 1000 * bsP bits nc g / sumTo nc g
theorem t_partIn {z bits : Nat} (ha : isSh a) (hR : shR a hr) (hh : shH a nc nz f hi) (hB : fB nc nz f) (hz : z < nz)
    (H : K (.inl (some (.int (iI (loKP nc (fun c => aP f c z) bits))))) hi hl hr) : en_Call G (d + 3) xc xs Y_X6_partIn wN wN [.ref a, .int (iI (bits : Int)), .int (iI (z : Int))] hi hl hr K := by
  obtain ⟨s0, s1, s2, s3, s4, s5, s6, s7, s8, s9, s10, s11⟩ := ha.sh
  obtain ⟨r1, r2, r3, r4, r5, r6, r7⟩ := id hR
  obtain ⟨h0, h1, b0, b1, h2⟩ := id hh
  have q1 : a + 1 < 134 := by omega
  have q2 : a + 2 < 134 := by omega
  have q3 : a + 3 < 134 := by omega
  have q4 : a + 4 < 134 := by omega
  have q5 : a + 5 < 134 := by omega
  have q6 : a + 6 < 134 := by omega
  have q7 : a + 7 < 134 := by omega
  have ar : ∀ c, c < 12 → 0 ≤ aP f c z ∧ aP f c z ≤ 10000000 := fun c hc => ⟨aP_nn hB c z, Int.le_trans (aP_le hB b1 hc z) (wP_le hB b1 hc)⟩
  have sr : ∀ c, c ≤ nc → 0 ≤ sumTo c (fun c => aP f c z) ∧ sumTo c (fun c => aP f c z) ≤ 120000000 := fun c hc => by
    have := sumTo_bd (n := c) (g := fun c => aP f c z) (b := 10000000) (fun i hi9 => ar i (by omega))
    omega
  have br : ∀ c, c ≤ nc → 0 ≤ bsP bits c (fun c => aP f c z) ∧ bsP bits c (fun c => aP f c z) ≤ 120000000 := fun c hc => by
    have := sumTo_bd (n := c) (g := fun c => if bits.testBit c = true then aP f c z else 0) (b := 10000000) (fun i hi9 => by have := ar i (by omega); show 0 ≤ (if bits.testBit i = true then aP f i z else 0) ∧ (if bits.testBit i = true then aP f i z else 0) ≤ 10000000; split <;> omega)
    show 0 ≤ sumTo c (fun c => if bits.testBit c = true then aP f c z else 0) ∧ sumTo c (fun c => if bits.testBit c = true then aP f c z else 0) ≤ 120000000
    omega
  apply en_X6_partIn
  simp (disch := omega) only [B_X6_partIn_0, en_ops, en_opc, iI_add, iI_mul, iI_sub, jL_add, jL_mul, iI_le, iI_lt, iI_eq, iI_eq0, iI_lt0, iI_0le, iI_le0, iI_0lt, jL_iI, iI_jL, lc_eq, lc_lt, lc_le, lc_ge, lc_gt, Nat.sub_zero, Nat.zero_le, true_and, and_true, Nat.reduceAdd, Nat.reduceLeDiff]
  suffices L : ∀ c : Nat, c ≤ nc → ∀ x8, en_V G Y_X6_partIn (d + 3) wN wN K 8 [.ref a, .int (iI (bits : Int)), .int (iI (z : Int)), .long (jL (bsP bits c (fun c => aP f c z))), jk, .long (jL (sumTo c (fun c => aP f c z))), jk, .int (iI (c : Int)), x8] [] hi hl hr xc xs from L 0 (by omega) _
  refine lp nc (fun x8 => ?_) (fun c hc ih x8 => ?_)
  · have s9 := sr nc (Nat.le_refl _)
    have b9 := br nc (Nat.le_refl _)
    apply s_X6_partIn_8
    simp (disch := omega) only [B_X6_partIn_8, s0, s1, h0, en_ops, en_opc, iI_add, iI_mul, iI_sub, jL_add, jL_mul, iI_le, iI_lt, iI_eq, iI_eq0, iI_lt0, iI_0le, iI_le0, iI_0lt, jL_iI, iI_jL, lc_eq, lc_lt, lc_le, lc_ge, lc_gt, Nat.sub_zero, Nat.zero_le, true_and, and_true, Nat.reduceAdd, Nat.reduceLeDiff]
    refine ⟨fun _ => ⟨fun e => ?_, fun e => ?_⟩, fun e => absurd (Int.le_refl _) e⟩
    · have hO : loKP nc (fun c => aP f c z) bits = 1000 * bsP bits nc (fun c => aP f c z) / sumTo nc (fun c => aP f c z) := if_neg (by omega)
      rw [hO] at H
      refine ⟨by rw [jL_eq0 (by omega) (by omega)]; omega, ?_⟩
      rw [jL_div (by omega) (by omega) (by omega) (by omega)]
      simp (disch := omega) only [en_ops, en_opc, iI_add, iI_mul, iI_sub, jL_add, jL_mul, iI_le, iI_lt, iI_eq, iI_eq0, iI_lt0, iI_0le, iI_le0, iI_0lt, jL_iI, iI_jL, lc_eq, lc_lt, lc_le, lc_ge, lc_gt, Nat.sub_zero, Nat.zero_le, true_and, and_true, Nat.reduceAdd, Nat.reduceLeDiff]
      exact H
    · have hO : loKP nc (fun c => aP f c z) bits = 0 := if_pos (by omega)
      rw [hO] at H
      exact H
  · have eb : bsP bits (c + 1) (fun c => aP f c z) = bsP bits c (fun c => aP f c z) + (if bits.testBit c = true then aP f c z else 0) := by unfold bsP; rw [sumTo_s]
    rw [sumTo_s, eb] at ih
    have a1 := ar c (by omega)
    apply s_X6_partIn_8
    cases hbit : bits.testBit c
    · rw [hbit, if_neg (by decide)] at ih
      simp (disch := omega) only [B_X6_partIn_8, s0, s1, h0, en_ops, en_opc, iI_add, iI_mul, iI_sub, jL_add, jL_mul, iI_le, iI_lt, iI_eq, iI_eq0, iI_lt0, iI_0le, iI_le0, iI_0lt, jL_iI, iI_jL, lc_eq, lc_lt, lc_le, lc_ge, lc_gt, Nat.sub_zero, Nat.zero_le, true_and, and_true, Nat.reduceAdd, Nat.reduceLeDiff]
      refine ⟨fun e => by omega, fun _ => t_inCell (d := d) ha hR hh (by omega) (by omega) (by omega) ?_⟩
      rw [inP_a hz]
      simp (disch := omega) only [sh_0 (show c < 32 by omega) hbit, en_ops, en_opc, iI_add, iI_mul, iI_sub, jL_add, jL_mul, iI_le, iI_lt, iI_eq, iI_eq0, iI_lt0, iI_0le, iI_le0, iI_0lt, jL_iI, iI_jL, lc_eq, lc_lt, lc_le, lc_ge, lc_gt, Nat.sub_zero, Nat.zero_le, true_and, and_true, Nat.reduceAdd, Nat.reduceLeDiff]
      exact ⟨fun _ => ih _, fun e => absurd e (by decide)⟩
    · rw [hbit, if_pos rfl] at ih
      simp (disch := omega) only [B_X6_partIn_8, s0, s1, h0, en_ops, en_opc, iI_add, iI_mul, iI_sub, jL_add, jL_mul, iI_le, iI_lt, iI_eq, iI_eq0, iI_lt0, iI_0le, iI_le0, iI_0lt, jL_iI, iI_jL, lc_eq, lc_lt, lc_le, lc_ge, lc_gt, Nat.sub_zero, Nat.zero_le, true_and, and_true, Nat.reduceAdd, Nat.reduceLeDiff]
      refine ⟨fun e => by omega, fun _ => t_inCell (d := d) ha hR hh (by omega) (by omega) (by omega) ?_⟩
      rw [inP_a hz]
      simp (disch := omega) only [sh_1 (show c < 32 by omega) hbit, en_ops, en_opc, iI_add, iI_mul, iI_sub, jL_add, jL_mul, iI_le, iI_lt, iI_eq, iI_eq0, iI_lt0, iI_0le, iI_le0, iI_0lt, jL_iI, iI_jL, lc_eq, lc_lt, lc_le, lc_ge, lc_gt, Nat.sub_zero, Nat.zero_le, true_and, and_true, Nat.reduceAdd, Nat.reduceLeDiff]
      exact ⟨fun e => (e (by first | trivial | rfl)).elim, fun _ => ih _⟩
theorem t_yadd {y n : Nat} {Y : hYr} {w : Int × Int × Int} {t : Nat} (hy : isYe y) (hyR : yeR y hr) (hY : yeH y n Y hi) (hn : n < 20) (hw : wOK w) (ht : 1 ≤ t ∧ t ≤ 9)
    (H : ∀ hi', Fr (fun x => y ≤ x ∧ x ≤ y + 4) hi hi' → yeH y (n + 1) (fun i => if i = n then (w, t) else Y i) hi' → K (.inl none) hi' hl hr) : en_Call G (d + 1) xc xs Y_X9_add wN wN [.ref y, .int (iI w.1), .int (iI w.2.1), .int (iI w.2.2), .int (iI (t : Int))] hi hl hr K := by
  obtain ⟨l0, l1, l2, l3, l4, l5, l6⟩ := hy.sh
  obtain ⟨k0, k1, k2, k3⟩ := hyR
  obtain ⟨h0, h1, h2⟩ := hY
  have q0 : y < 134 := by omega
  have q1 : y + 1 < 134 := by omega
  have q2 : y + 2 < 134 := by omega
  have q3 : y + 3 < 134 := by omega
  have q4 : y + 4 < 134 := by omega
  apply en_X9_add
  simp (disch := omega) only [B_X9_add_0, k0, k1, k2, k3, l0, l1, l2, l3, l4, q0, q1, q2, q3, q4, h0, up_row, en_ops, en_opc, iI_add, iI_mul, iI_sub, jL_add, jL_mul, iI_le, iI_lt, iI_eq, iI_eq0, iI_lt0, iI_0le, iI_le0, iI_0lt, jL_iI, iI_jL, lc_eq, lc_lt, lc_le, lc_ge, lc_gt, Nat.sub_zero, Nat.zero_le, true_and, and_true, Nat.reduceAdd, Nat.reduceLeDiff]
  refine ⟨fun e => by omega, fun _ => ⟨n, rfl, by omega, n, rfl, by omega, n, rfl, by omega, n, rfl, by omega, ?_⟩⟩
  refine H _ (Fr.up (Fr.up (Fr.up (Fr.up (Fr.up Fr.rf ⟨by omega, by omega⟩) ⟨by omega, by omega⟩) ⟨by omega, by omega⟩) ⟨by omega, by omega⟩) ⟨by omega, by omega⟩) ⟨?_, by omega, fun i hi9 => ?_⟩
  · rw [up_at]; exact iI_eq_of (by omega)
  · by_cases e : i = n
    · subst e
      simp (disch := omega) only [up_ne, up_row, up_at]
      simp only [if_true]
      exact ⟨trivial, trivial, trivial, trivial, hw, ht⟩
    · have := h2 i (by omega)
      simp (disch := omega) only [up_ne, up_row, if_neg e]
      exact this
end
