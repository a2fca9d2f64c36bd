section
variable {G : en_G} {d : Nat} {K : en_K} {a nc nz : Nat} {f : Nat → Nat → Nat → Int} {hi : en_I} {hl : en_L} {hr : en_F} {xc xs : Nat} {g : Nat → Int}
/-! what a hand in the dark makes of its stones -/
def FrL (P : Nat → Prop) (hl hl' : en_L) : Prop := ∀ x, ¬ P x → hl' x = hl x
theorem sh48 : en_SH 48 = (5, 3) := by decide
theorem lt48 : 48 < 134 := by decide
theorem sh49 : en_SH 49 = (102, 12) := by decide
theorem lt49 : 49 < 134 := by decide
def P48 (x : Nat) : Prop := x = 48 ∨ x = 49
def snH (nc : Nat) (g : Nat → Int) (hi : en_I) (hl : en_L) : Prop := hi 48 1 = iI nc ∧ hl 48 2 = jL (sumTo nc g) ∧ ∀ c, c < nc → hl 49 c = jL (g c)
def gB (nc : Nat) (g : Nat → Int) : Prop := nc ≤ 12 ∧ ∀ c, c < nc → 0 ≤ g c ∧ g c ≤ 1000000000000
theorem gB.s (h : gB nc g) {n : Nat} (hn : n ≤ nc) : 0 ≤ sumTo n g ∧ sumTo n g ≤ 12000000000000 := by
  have := sumTo_bd (n := n) (g := g) (b := 1000000000000) (fun c hc => h.2 c (by omega))
  have := h.1
  omega
theorem prod_r {h : Nat → Int} : ∀ n, n ≤ 4 → (∀ i, i < n → 0 ≤ h i ∧ h i ≤ 1000) → 0 ≤ prodTo n h ∧ prodTo n h ≤ 1000000000000 := by
  have e : ∀ n, (∀ i, i < n → 0 ≤ h i ∧ h i ≤ 1000) → 0 ≤ prodTo n h ∧ prodTo n h ≤ 1000 ^ n := by
    intro n
    induction n with
    | zero => exact fun _ => ⟨show (0 : Int) ≤ 1 by decide, show (1 : Int) ≤ 1000 ^ 0 by decide⟩
    | succ n ih =>
      intro hh
      obtain ⟨i1, i2⟩ := ih (fun i hi => hh i (by omega))
      obtain ⟨a1, a2⟩ := hh n (by omega)
      refine ⟨Int.mul_nonneg i1 a1, ?_⟩
      show prodTo n h * h n ≤ 1000 ^ (n + 1)
      rw [Int.pow_succ]
      exact Int.mul_le_mul i2 a2 a1 (by omega)
  intro n hn hh
  obtain ⟨e1, e2⟩ := e n hh
  refine ⟨e1, Int.le_trans e2 ?_⟩
  rcases (show n = 0 ∨ n = 1 ∨ n = 2 ∨ n = 3 ∨ n = 4 by omega) with rfl | rfl | rfl | rfl | rfl <;> decide
theorem wdP_B {nh : Nat} {gs : Nat → Nat} (hB : fB nc nz f) (b0 : nc ≤ 12) (b1 : nz ≤ 6) (hn : nh ≤ 4) (hg : ∀ i, i < nh → gs i < 18) : gB nc (wdP f nz nh gs) := ⟨b0, fun c _ => prod_r nh hn (fun i hi9 => shP_r hB b1 (hg i hi9))⟩
theorem shP_B {i : Nat} (hB : fB nc nz f) (b0 : nc ≤ 12) (b1 : nz ≤ 6) (hi18 : i < 18) : gB nc (fun c => shP f nz c i) := ⟨b0, fun c _ => by have := shP_r (c := c) hB b1 hi18; show 0 ≤ shP f nz c i ∧ shP f nz c i ≤ _; omega⟩
theorem t_keep {c : Nat} {v t : Int} (h49 : hr 48 0 = .ref 49) (ht : hl 48 2 = jL t) (hc : c < 12) (H : K (.inl none) hi (en_up (en_up hl 49 c (jL v)) 48 2 (jL (t + v))) hr) : en_Call G (d + 1) xc xs Y_X5_keep wN wN [.ref 48, .int (iI (c : Int)), .long (jL v)] hi hl hr K := by
  apply en_X5_keep
  simp (disch := omega) only [B_X5_keep_0, h49, sh48, lt48, sh49, lt49, en_ops, en_opc, iI_add, iI_mul, iI_sub, jL_add, jL_mul, iI_le, iI_lt, iI_eq, iI_eq0, iI_lt0, iI_0le, iI_le0, iI_0lt, jL_iI, iI_jL, lc_eq, lc_lt, lc_le, lc_ge, lc_gt, Nat.sub_zero, Nat.zero_le, true_and, and_true, Nat.reduceAdd, Nat.reduceLeDiff]
  refine ⟨c, rfl, by omega, ?_⟩
  rw [up_ne (Or.inl (by omega)), ht]
  simp (disch := omega) only [en_ops, en_opc, iI_add, iI_mul, iI_sub, jL_add, jL_mul, iI_le, iI_lt, iI_eq, iI_eq0, iI_lt0, iI_0le, iI_le0, iI_0lt, jL_iI, iI_jL, lc_eq, lc_lt, lc_le, lc_ge, lc_gt, Nat.sub_zero, Nat.zero_le, true_and, and_true, Nat.reduceAdd, Nat.reduceLeDiff]
  exact H
theorem t_begin5 {n : Int} (H : K (.inl none) (en_up hi 48 1 (iI n)) (en_up hl 48 2 (jL 0)) hr) : en_Call G (d + 1) xc xs Y_X5_begin wN wN [.ref 48, .int (iI n)] hi hl hr K := by
  apply en_X5_begin
  simp (disch := omega) only [B_X5_begin_0, sh48, lt48, en_ops, en_opc, iI_add, iI_mul, iI_sub, jL_add, jL_mul, iI_le, iI_lt, iI_eq, iI_eq0, iI_lt0, iI_0le, iI_le0, iI_0lt, jL_iI, iI_jL, lc_eq, lc_lt, lc_le, lc_ge, lc_gt, Nat.sub_zero, Nat.zero_le, true_and, and_true, Nat.reduceAdd, Nat.reduceLeDiff]
  exact H
theorem t_feelHand {nh : Nat} {gs : Nat → Nat} (ha : isSh a) (h48 : a + 7 < 48 ∨ 48 < a) (h49 : hr 48 0 = .ref 49) (hR : shR a hr) (hh : shH a nc nz f hi) (hB : fB nc nz f) (hT : shT a nh gs hi)
    (H : ∀ hi' hl', Fr (· = 48) hi hi' → FrL P48 hl hl' → snH nc (wdP f nz nh gs) hi' hl' → K (.inl none) hi' hl' hr) : en_Call G (d + 4) xc xs Y_X5_feelHand wN wN [.ref 48, .ref a] hi hl hr K := by
  obtain ⟨s0, s1, s2, s3, s4, s5, s6, s7, s8, s9, s10, s11⟩ := ha.sh
  obtain ⟨r1, r2, r3, r4, r5, r6, r7⟩ := id hR
  obtain ⟨h0, h1, b0, b1, h2⟩ := id hh
  have q1 : a + 1 < 134 := by omega
  have q2 : a + 2 < 134 := by omega
  have q3 : a + 3 < 134 := by omega
  have q4 : a + 4 < 134 := by omega
  have q5 : a + 5 < 134 := by omega
  have q6 : a + 6 < 134 := by omega
  have q7 : a + 7 < 134 := by omega
  apply en_X5_feelHand
  simp (disch := omega) only [B_X5_feelHand_0, s0, s1, h0, sh48, lt48, en_ops, en_opc, iI_add, iI_mul, iI_sub, jL_add, jL_mul, iI_le, iI_lt, iI_eq, iI_eq0, iI_lt0, iI_0le, iI_le0, iI_0lt, jL_iI, iI_jL, lc_eq, lc_lt, lc_le, lc_ge, lc_gt, Nat.sub_zero, Nat.zero_le, true_and, and_true, Nat.reduceAdd, Nat.reduceLeDiff]
  refine t_begin5 ?_
  simp (disch := omega) only [en_ops, en_opc, iI_add, iI_mul, iI_sub, jL_add, jL_mul, iI_le, iI_lt, iI_eq, iI_eq0, iI_lt0, iI_0le, iI_le0, iI_0lt, jL_iI, iI_jL, lc_eq, lc_lt, lc_le, lc_ge, lc_gt, Nat.sub_zero, Nat.zero_le, true_and, and_true, Nat.reduceAdd, Nat.reduceLeDiff]
  have F0 : Fr (· = 48) hi (en_up hi 48 1 (iI nc)) := Fr.up Fr.rf (by rfl)
  suffices L : ∀ c : Nat, c ≤ nc → ∀ hl9, FrL P48 hl hl9 → hl9 48 2 = jL (sumTo c (wdP f nz nh gs)) → (∀ j, j < c → hl9 49 j = jL (wdP f nz nh gs j)) → en_V G Y_X5_feelHand (d + 4) wN wN K 10 [.ref 48, .ref a, .int (iI c)] [] (en_up hi 48 1 (iI nc)) hl9 hr xc xs by
    refine L 0 (by omega) _ (fun x hx => up_row (fun e => hx (Or.inl e))) (by rw [up_at]; rfl) (fun j hj => by omega)
  refine lp nc (fun hl9 F9 A9 W9 => ?_) (fun c hc ih hl9 F9 A9 W9 => ?_)
  · apply s_X5_feelHand_10
    simp (disch := omega) only [B_X5_feelHand_10, sh48, lt48, up_at, en_ops, en_opc, iI_add, iI_mul, iI_sub, jL_add, jL_mul, iI_le, iI_lt, iI_eq, iI_eq0, iI_lt0, iI_0le, iI_le0, iI_0lt, jL_iI, iI_jL, lc_eq, lc_lt, lc_le, lc_ge, lc_gt, Nat.sub_zero, Nat.zero_le, true_and, and_true, Nat.reduceAdd, Nat.reduceLeDiff]
    exact ⟨fun _ => H _ _ F0 F9 ⟨up_at, A9, W9⟩, fun e => absurd (Int.le_refl _) e⟩
  · apply s_X5_feelHand_10
    simp (disch := omega) only [B_X5_feelHand_10, sh48, lt48, s0, s1, up_at, en_ops, en_opc, iI_add, iI_mul, iI_sub, jL_add, jL_mul, iI_le, iI_lt, iI_eq, iI_eq0, iI_lt0, iI_0le, iI_le0, iI_0lt, jL_iI, iI_jL, lc_eq, lc_lt, lc_le, lc_ge, lc_gt, Nat.sub_zero, Nat.zero_le, true_and, and_true, Nat.reduceAdd, Nat.reduceLeDiff]
    refine ⟨fun e => by omega, fun _ => t_wordOf (d := d) (nh := nh) (g := gs) ha hR (shH.fr ha hh F0 (fun x g1 g2 => by omega)) hB ?_ (by omega) ?_⟩
    · obtain ⟨t1, t2, t3⟩ := hT
      exact ⟨by rw [F0 a (by omega)]; exact t1, t2, fun i hi9 => by rw [F0 (a + 6) (by omega)]; exact t3 i hi9⟩
    · simp (disch := omega) only [sh48, lt48, en_ops, en_opc, iI_add, iI_mul, iI_sub, jL_add, jL_mul, iI_le, iI_lt, iI_eq, iI_eq0, iI_lt0, iI_0le, iI_le0, iI_0lt, jL_iI, iI_jL, lc_eq, lc_lt, lc_le, lc_ge, lc_gt, Nat.sub_zero, Nat.zero_le, true_and, and_true, Nat.reduceAdd, Nat.reduceLeDiff]
      refine t_keep h49 A9 (by omega) ?_
      simp (disch := omega) only [en_ops, en_opc, iI_add, iI_mul, iI_sub, jL_add, jL_mul, iI_le, iI_lt, iI_eq, iI_eq0, iI_lt0, iI_0le, iI_le0, iI_0lt, jL_iI, iI_jL, lc_eq, lc_lt, lc_le, lc_ge, lc_gt, Nat.sub_zero, Nat.zero_le, true_and, and_true, Nat.reduceAdd, Nat.reduceLeDiff]
      refine ih _ (fun x hx => ?_) ?_ (fun j hj => ?_)
      · rw [up_row (fun e => hx (Or.inl e)), up_row (fun e => hx (Or.inr e))]; exact F9 x hx
      · rw [up_at, sumTo_s]
      · rw [up_ne (Or.inl (by omega))]
        by_cases e : j = c
        · subst e; rw [up_at]
        · rw [up_ne (Or.inr e)]; exact W9 j (by omega)
theorem t_feelStone {i : Nat} (ha : isSh a) (h48 : a + 7 < 48 ∨ 48 < a) (h49 : hr 48 0 = .ref 49) (hR : shR a hr) (hh : shH a nc nz f hi) (hB : fB nc nz f) (hi18 : i < 18)
    (H : ∀ hi' hl', Fr (· = 48) hi hi' → FrL P48 hl hl' → snH nc (fun c => shP f nz c i) hi' hl' → K (.inl none) hi' hl' hr) : en_Call G (d + 4) xc xs Y_X5_feelStone wN wN [.ref 48, .ref a, .int (iI (i : Int))] hi hl hr K := by
  obtain ⟨s0, s1, s2, s3, s4, s5, s6, s7, s8, s9, s10, s11⟩ := ha.sh
  obtain ⟨r1, r2, r3, r4, r5, r6, r7⟩ := id hR
  obtain ⟨h0, h1, b0, b1, h2⟩ := id hh
  have q1 : a + 1 < 134 := by omega
  have q2 : a + 2 < 134 := by omega
  have q3 : a + 3 < 134 := by omega
  have q4 : a + 4 < 134 := by omega
  have q5 : a + 5 < 134 := by omega
  have q6 : a + 6 < 134 := by omega
  have q7 : a + 7 < 134 := by omega
  apply en_X5_feelStone
  simp (disch := omega) only [B_X5_feelStone_0, s0, s1, h0, sh48, lt48, en_ops, en_opc, iI_add, iI_mul, iI_sub, jL_add, jL_mul, iI_le, iI_lt, iI_eq, iI_eq0, iI_lt0, iI_0le, iI_le0, iI_0lt, jL_iI, iI_jL, lc_eq, lc_lt, lc_le, lc_ge, lc_gt, Nat.sub_zero, Nat.zero_le, true_and, and_true, Nat.reduceAdd, Nat.reduceLeDiff]
  refine t_begin5 ?_
  simp (disch := omega) only [en_ops, en_opc, iI_add, iI_mul, iI_sub, jL_add, jL_mul, iI_le, iI_lt, iI_eq, iI_eq0, iI_lt0, iI_0le, iI_le0, iI_0lt, jL_iI, iI_jL, lc_eq, lc_lt, lc_le, lc_ge, lc_gt, Nat.sub_zero, Nat.zero_le, true_and, and_true, Nat.reduceAdd, Nat.reduceLeDiff]
  have F0 : Fr (· = 48) hi (en_up hi 48 1 (iI nc)) := Fr.up Fr.rf (by rfl)
  suffices L : ∀ c : Nat, c ≤ nc → ∀ hl9, FrL P48 hl hl9 → hl9 48 2 = jL (sumTo c (fun c => shP f nz c i)) → (∀ j, j < c → hl9 49 j = jL (shP f nz j i)) → en_V G Y_X5_feelStone (d + 4) wN wN K 10 [.ref 48, .ref a, .int (iI (i : Int)), .int (iI c)] [] (en_up hi 48 1 (iI nc)) hl9 hr xc xs by
    refine L 0 (by omega) _ (fun x hx => up_row (fun e => hx (Or.inl e))) (by rw [up_at]; rfl) (fun j hj => by omega)
  refine lp nc (fun hl9 F9 A9 W9 => ?_) (fun c hc ih hl9 F9 A9 W9 => ?_)
  · apply s_X5_feelStone_10
    simp (disch := omega) only [B_X5_feelStone_10, sh48, lt48, up_at, en_ops, en_opc, iI_add, iI_mul, iI_sub, jL_add, jL_mul, iI_le, iI_lt, iI_eq, iI_eq0, iI_lt0, iI_0le, iI_le0, iI_0lt, jL_iI, iI_jL, lc_eq, lc_lt, lc_le, lc_ge, lc_gt, Nat.sub_zero, Nat.zero_le, true_and, and_true, Nat.reduceAdd, Nat.reduceLeDiff]
    exact ⟨fun _ => H _ _ F0 F9 ⟨up_at, A9, W9⟩, fun e => absurd (Int.le_refl _) e⟩
  · apply s_X5_feelStone_10
    simp (disch := omega) only [B_X5_feelStone_10, sh48, lt48, s0, s1, up_at, en_ops, en_opc, iI_add, iI_mul, iI_sub, jL_add, jL_mul, iI_le, iI_lt, iI_eq, iI_eq0, iI_lt0, iI_0le, iI_le0, iI_0lt, jL_iI, iI_jL, lc_eq, lc_lt, lc_le, lc_ge, lc_gt, Nat.sub_zero, Nat.zero_le, true_and, and_true, Nat.reduceAdd, Nat.reduceLeDiff]
    refine ⟨fun e => by omega, fun _ => t_share (d := d + 1) ha hR (shH.fr ha hh F0 (fun x g1 g2 => by omega)) hB (by omega) hi18 ?_⟩
    have sr := shP_r (c := c) hB b1 hi18
    simp (disch := omega) only [sh48, lt48, en_ops, en_opc, iI_add, iI_mul, iI_sub, jL_add, jL_mul, iI_le, iI_lt, iI_eq, iI_eq0, iI_lt0, iI_0le, iI_le0, iI_0lt, jL_iI, iI_jL, lc_eq, lc_lt, lc_le, lc_ge, lc_gt, Nat.sub_zero, Nat.zero_le, true_and, and_true, Nat.reduceAdd, Nat.reduceLeDiff]
    refine t_keep h49 A9 (by omega) ?_
    simp (disch := omega) only [en_ops, en_opc, iI_add, iI_mul, iI_sub, jL_add, jL_mul, iI_le, iI_lt, iI_eq, iI_eq0, iI_lt0, iI_0le, iI_le0, iI_0lt, jL_iI, iI_jL, lc_eq, lc_lt, lc_le, lc_ge, lc_gt, Nat.sub_zero, Nat.zero_le, true_and, and_true, Nat.reduceAdd, Nat.reduceLeDiff]
    refine ih _ (fun x hx => ?_) ?_ (fun j hj => ?_)
    · rw [up_row (fun e => hx (Or.inl e)), up_row (fun e => hx (Or.inr e))]; exact F9 x hx
    · rw [up_at, sumTo_s]
    · rw [up_ne (Or.inl (by omega))]
      by_cases e : j = c
      · subst e; rw [up_at]
      · rw [up_ne (Or.inr e)]; exact W9 j (by omega)
def odP (nc : Nat) (g : Nat → Int) (c : Nat) : Int := if sumTo nc g = 0 then 0 else 1000 * g c / sumTo nc g
theorem t_oddsOf {c : Nat} (h49 : hr 48 0 = .ref 49) (hs : snH nc g hi hl) (hg : gB nc g) (hc : c < nc) (H : K (.inl (some (.int (iI (odP nc g c))))) hi hl hr) : en_Call G (d + 1) xc xs Y_X5_oddsOf wN wN [.ref 48, .int (iI (c : Int))] hi hl hr K := by
  obtain ⟨x1, x2, x3⟩ := hs
  have r1 := hg.s (n := nc) (Nat.le_refl _)
  have r2 := hg.2 c hc
  have nc12 := hg.1
  apply en_X5_oddsOf
  simp (disch := omega) only [B_X5_oddsOf_0, h49, sh48, lt48, sh49, lt49, x2, en_ops, en_opc, iI_add, iI_mul, iI_sub, jL_add, jL_mul, iI_le, iI_lt, iI_eq, iI_eq0, iI_lt0, iI_0le, iI_le0, iI_0lt, jL_iI, iI_jL, lc_eq, lc_lt, lc_le, lc_ge, lc_gt, Nat.sub_zero, Nat.zero_le, true_and, and_true, Nat.reduceAdd, Nat.reduceLeDiff]
  refine ⟨fun e => ⟨c, rfl, by omega, ?_⟩, fun e => ?_⟩
  · have hO : odP nc g c = 1000 * g c / sumTo nc g := if_neg (by omega)
    rw [hO] at H
    rw [x3 c hc]
    simp (disch := omega) only [en_ops, en_opc, iI_add, iI_mul, iI_sub, jL_add, jL_mul, iI_le, iI_lt, iI_eq, iI_eq0, iI_lt0, iI_0le, iI_le0, iI_0lt, jL_iI, iI_jL, lc_eq, lc_lt, lc_le, lc_ge, lc_gt, Nat.sub_zero, Nat.zero_le, true_and, and_true, Nat.reduceAdd, Nat.reduceLeDiff]
    refine ⟨by rw [jL_eq0 (by omega) (by omega)]; omega, ?_⟩
    rw [jL_div (by omega) (by omega) (by omega) (by omega)]
    simp (disch := omega) only [en_ops, en_opc, iI_add, iI_mul, iI_sub, jL_add, jL_mul, iI_le, iI_lt, iI_eq, iI_eq0, iI_lt0, iI_0le, iI_le0, iI_0lt, jL_iI, iI_jL, lc_eq, lc_lt, lc_le, lc_ge, lc_gt, Nat.sub_zero, Nat.zero_le, true_and, and_true, Nat.reduceAdd, Nat.reduceLeDiff]
    exact H
  · have hO : odP nc g c = 0 := if_pos (by omega)
    rw [hO] at H
    exact H
/-- the first of the greatest, of the least -/
def guF (g : Nat → Int) : Nat → Int
  | 0 => -1
  | c + 1 => if guF g c = -1 ∨ g (guF g c).toNat < g c then (c : Int) else guF g c
def neF (g : Nat → Int) : Nat → Int
  | 0 => -1
  | c + 1 => if neF g c = -1 ∨ g c < g (neF g c).toNat then (c : Int) else neF g c
theorem guF_r (n : Nat) : -1 ≤ guF g n ∧ guF g n < n ∧ (n ≠ 0 → 0 ≤ guF g n) := by
  induction n with
  | zero => exact ⟨Int.le_refl _, by show (-1 : Int) < 0; omega, fun e => absurd rfl e⟩
  | succ n ih =>
    show -1 ≤ (if guF g n = -1 ∨ g (guF g n).toNat < g n then (n : Int) else guF g n) ∧ (if guF g n = -1 ∨ g (guF g n).toNat < g n then (n : Int) else guF g n) < ((n + 1 : Nat) : Int) ∧ (n + 1 ≠ 0 → 0 ≤ (if guF g n = -1 ∨ g (guF g n).toNat < g n then (n : Int) else guF g n))
    split <;> omega
theorem neF_r (n : Nat) : -1 ≤ neF g n ∧ neF g n < n ∧ (n ≠ 0 → 0 ≤ neF g n) := by
  induction n with
  | zero => exact ⟨Int.le_refl _, by show (-1 : Int) < 0; omega, fun e => absurd rfl e⟩
  | succ n ih =>
    show -1 ≤ (if neF g n = -1 ∨ g n < g (neF g n).toNat then (n : Int) else neF g n) ∧ (if neF g n = -1 ∨ g n < g (neF g n).toNat then (n : Int) else neF g n) < ((n + 1 : Nat) : Int) ∧ (n + 1 ≠ 0 → 0 ≤ (if neF g n = -1 ∨ g n < g (neF g n).toNat then (n : Int) else neF g n))
    split <;> omega
theorem t_guess (h49 : hr 48 0 = .ref 49) (hs : snH nc g hi hl) (hg : gB nc g) (H : K (.inl (some (.int (iI (if sumTo nc g = 0 then -1 else guF g nc))))) hi hl hr) : en_Call G (d + 1) xc xs Y_X5_guess wN wN [.ref 48] hi hl hr K := by
  obtain ⟨x1, x2, x3⟩ := hs
  have r1 := hg.s (n := nc) (Nat.le_refl _)
  have nc12 := hg.1
  apply en_X5_guess
  simp (disch := omega) only [B_X5_guess_0, en_ops, en_opc, iI_add, iI_mul, iI_sub, jL_add, jL_mul, iI_le, iI_lt, iI_eq, iI_eq0, iI_lt0, iI_0le, iI_le0, iI_0lt, jL_iI, iI_jL, lc_eq, lc_lt, lc_le, lc_ge, lc_gt, Nat.sub_zero, Nat.zero_le, true_and, and_true, Nat.reduceAdd, Nat.reduceLeDiff]
  by_cases e : sumTo nc g = 0
  · rw [if_pos e] at H
    apply s_X5_guess_4
    simp (disch := omega) only [B_X5_guess_4, sh48, lt48, x1, x2, en_ops, en_opc, iI_add, iI_mul, iI_sub, jL_add, jL_mul, iI_le, iI_lt, iI_eq, iI_eq0, iI_lt0, iI_0le, iI_le0, iI_0lt, jL_iI, iI_jL, lc_eq, lc_lt, lc_le, lc_ge, lc_gt, Nat.sub_zero, Nat.zero_le, true_and, and_true, Nat.reduceAdd, Nat.reduceLeDiff]
    exact ⟨fun _ => H, fun _ => ⟨fun _ => H, fun e2 => by omega⟩⟩
  · rw [if_neg e] at H
    suffices L : ∀ c : Nat, c ≤ nc → en_V G Y_X5_guess (d + 1) wN wN K 4 [.ref 48, .int (iI (guF g c)), .int (iI c)] [] hi hl hr xc xs from L 0 (by omega)
    refine lp nc ?_ (fun c hc ih => ?_)
    · apply s_X5_guess_4
      simp (disch := omega) only [B_X5_guess_4, sh48, lt48, x1, x2, en_ops, en_opc, iI_add, iI_mul, iI_sub, jL_add, jL_mul, iI_le, iI_lt, iI_eq, iI_eq0, iI_lt0, iI_0le, iI_le0, iI_0lt, jL_iI, iI_jL, lc_eq, lc_lt, lc_le, lc_ge, lc_gt, Nat.sub_zero, Nat.zero_le, true_and, and_true, Nat.reduceAdd, Nat.reduceLeDiff]
      exact ⟨fun _ => H, fun e => absurd (Int.le_refl _) e⟩
    · obtain ⟨b0, b1, b2⟩ := guF_r (g := g) c
      have gc := hg.2 c hc
      have st : guF g (c + 1) = if guF g c = -1 ∨ g (guF g c).toNat < g c then (c : Int) else guF g c := rfl
      rw [st] at ih
      apply s_X5_guess_4
      simp (disch := omega) only [B_X5_guess_4, h49, sh48, lt48, sh49, lt49, x1, x2, en_ops, en_opc, iI_add, iI_mul, iI_sub, jL_add, jL_mul, iI_le, iI_lt, iI_eq, iI_eq0, iI_lt0, iI_0le, iI_le0, iI_0lt, jL_iI, iI_jL, lc_eq, lc_lt, lc_le, lc_ge, lc_gt, Nat.sub_zero, Nat.zero_le, true_and, and_true, Nat.reduceAdd, Nat.reduceLeDiff]
      refine ⟨fun e2 => by omega, fun _ => ⟨fun e2 => by omega, fun _ => ⟨fun e2 => ?_, fun e2 => ⟨c, rfl, by omega, (guF g c).toNat, iI_eq_of (by omega), by omega, ?_⟩⟩⟩⟩
      · rw [if_pos (Or.inl e2)] at ih; exact ih
      · have gb := hg.2 (guF g c).toNat (by omega)
        rw [x3 c hc, x3 _ (by omega)]
        simp (disch := omega) only [en_ops, en_opc, iI_add, iI_mul, iI_sub, jL_add, jL_mul, iI_le, iI_lt, iI_eq, iI_eq0, iI_lt0, iI_0le, iI_le0, iI_0lt, jL_iI, iI_jL, lc_eq, lc_lt, lc_le, lc_ge, lc_gt, Nat.sub_zero, Nat.zero_le, true_and, and_true, Nat.reduceAdd, Nat.reduceLeDiff]
        refine ⟨fun e3 => ?_, fun e3 => ?_⟩
        · rw [if_neg (by omega)] at ih; exact ih
        · rw [if_pos (by omega)] at ih; exact ih
def faI (g : Nat → Int) (c o : Nat) : Int := (if (o : Int) - c < 0 then -((o : Int) - c) else (o : Int) - c) * g o
def faP (nc : Nat) (g : Nat → Int) (c : Nat) : Int := sumTo nc (faI g c)
theorem faI_r (hg : gB nc g) {c o : Nat} (hc : c < nc) (ho : o < nc) : 0 ≤ faI g c o ∧ faI g c o ≤ 12 * g o := by
  have := hg.1
  obtain ⟨g0, g1⟩ := hg.2 o ho
  unfold faI
  split
  · exact ⟨Int.mul_nonneg (by omega) g0, Int.mul_le_mul_of_nonneg_right (by omega) g0⟩
  · exact ⟨Int.mul_nonneg (by omega) g0, Int.mul_le_mul_of_nonneg_right (by omega) g0⟩
theorem faP_r (hg : gB nc g) {c : Nat} (hc : c < nc) {n : Nat} (hn : n ≤ nc) : 0 ≤ sumTo n (faI g c) ∧ sumTo n (faI g c) ≤ 12 * sumTo nc g := by
  refine ⟨sumTo_nn (fun o ho => (faI_r hg hc (by omega)).1), ?_⟩
  rw [← sumTo_mul]
  refine Int.le_trans (sumTo_le (g := fun o => 12 * g o) (fun o ho => (faI_r hg hc (by omega)).2)) ?_
  exact sumTo_mono hn (fun o ho => by have := hg.2 o ho; show 0 ≤ 12 * g o; omega)
theorem t_farFrom {c : Nat} (h49 : hr 48 0 = .ref 49) (hs : snH nc g hi hl) (hg : gB nc g) (hc : c < nc) (H : K (.inl (some (.long (jL (faP nc g c))))) hi hl hr) : en_Call G (d + 2) xc xs Y_X5_farFrom wN wN [.ref 48, .int (iI (c : Int))] hi hl hr K := by
  obtain ⟨x1, x2, x3⟩ := hs
  have nc12 := hg.1
  have r1 := hg.s (n := nc) (Nat.le_refl _)
  apply en_X5_farFrom
  simp (disch := omega) only [B_X5_farFrom_0, en_ops, en_opc, iI_add, iI_mul, iI_sub, jL_add, jL_mul, iI_le, iI_lt, iI_eq, iI_eq0, iI_lt0, iI_0le, iI_le0, iI_0lt, jL_iI, iI_jL, lc_eq, lc_lt, lc_le, lc_ge, lc_gt, Nat.sub_zero, Nat.zero_le, true_and, and_true, Nat.reduceAdd, Nat.reduceLeDiff]
  suffices L : ∀ o : Nat, o ≤ nc → en_V G Y_X5_farFrom (d + 2) wN wN K 5 [.ref 48, .int (iI (c : Int)), .long (jL (sumTo o (faI g c))), jk, .int (iI o)] [] hi hl hr xc xs from L 0 (by omega)
  refine lp nc ?_ (fun o ho ih => ?_)
  · apply s_X5_farFrom_5
    simp (disch := omega) only [B_X5_farFrom_5, sh48, lt48, x1, en_ops, en_opc, iI_add, iI_mul, iI_sub, jL_add, jL_mul, iI_le, iI_lt, iI_eq, iI_eq0, iI_lt0, iI_0le, iI_le0, iI_0lt, jL_iI, iI_jL, lc_eq, lc_lt, lc_le, lc_ge, lc_gt, Nat.sub_zero, Nat.zero_le, true_and, and_true, Nat.reduceAdd, Nat.reduceLeDiff]
    exact ⟨fun _ => H, fun e => absurd (Int.le_refl _) e⟩
  · rw [sumTo_s] at ih
    have fr := faP_r hg hc (n := o) (by omega)
    have fi := faI_r hg hc ho
    obtain ⟨g0, g1⟩ := hg.2 o ho
    have fd : faI g c o = (if (o : Int) - c < 0 then -((o : Int) - c) else (o : Int) - c) * g o := rfl
    apply s_X5_farFrom_5
    simp (disch := omega) only [B_X5_farFrom_5, sh48, lt48, x1, en_ops, en_opc, iI_add, iI_mul, iI_sub, jL_add, jL_mul, iI_le, iI_lt, iI_eq, iI_eq0, iI_lt0, iI_0le, iI_le0, iI_0lt, jL_iI, iI_jL, lc_eq, lc_lt, lc_le, lc_ge, lc_gt, Nat.sub_zero, Nat.zero_le, true_and, and_true, Nat.reduceAdd, Nat.reduceLeDiff]
    refine ⟨fun e => by omega, fun _ => t_abs (by omega) (by omega) ?_⟩
    generalize hab : (if (o : Int) - c < 0 then -((o : Int) - c) else (o : Int) - c) = ab at fd ⊢
    have rab : 0 ≤ ab ∧ ab ≤ 12 := by rw [← hab]; split <;> omega
    simp (disch := omega) only [h49, sh48, lt48, sh49, lt49, en_ops, en_opc, iI_add, iI_mul, iI_sub, jL_add, jL_mul, iI_le, iI_lt, iI_eq, iI_eq0, iI_lt0, iI_0le, iI_le0, iI_0lt, jL_iI, iI_jL, lc_eq, lc_lt, lc_le, lc_ge, lc_gt, Nat.sub_zero, Nat.zero_le, true_and, and_true, Nat.reduceAdd, Nat.reduceLeDiff]
    refine ⟨o, rfl, by omega, ?_⟩
    rw [x3 o ho]
    simp (disch := omega) only [en_ops, en_opc, iI_add, iI_mul, iI_sub, jL_add, jL_mul, iI_le, iI_lt, iI_eq, iI_eq0, iI_lt0, iI_0le, iI_le0, iI_0lt, jL_iI, iI_jL, lc_eq, lc_lt, lc_le, lc_ge, lc_gt, Nat.sub_zero, Nat.zero_le, true_and, and_true, Nat.reduceAdd, Nat.reduceLeDiff]
    rw [← fd]
    exact ih
theorem t_near (h49 : hr 48 0 = .ref 49) (hs : snH nc g hi hl) (hg : gB nc g) (H : K (.inl (some (.int (iI (if sumTo nc g = 0 then -1 else neF (faP nc g) nc))))) hi hl hr) : en_Call G (d + 3) xc xs Y_X5_near wN wN [.ref 48] hi hl hr K := by
  have hs' := hs
  obtain ⟨x1, x2, x3⟩ := hs
  have r1 := hg.s (n := nc) (Nat.le_refl _)
  have nc12 := hg.1
  apply en_X5_near
  simp (disch := omega) only [B_X5_near_0, en_ops, en_opc, iI_add, iI_mul, iI_sub, jL_add, jL_mul, iI_le, iI_lt, iI_eq, iI_eq0, iI_lt0, iI_0le, iI_le0, iI_0lt, jL_iI, iI_jL, lc_eq, lc_lt, lc_le, lc_ge, lc_gt, Nat.sub_zero, Nat.zero_le, true_and, and_true, Nat.reduceAdd, Nat.reduceLeDiff]
  by_cases e : sumTo nc g = 0
  · rw [if_pos e] at H
    apply s_X5_near_4
    simp (disch := omega) only [B_X5_near_4, sh48, lt48, x1, x2, en_ops, en_opc, iI_add, iI_mul, iI_sub, jL_add, jL_mul, iI_le, iI_lt, iI_eq, iI_eq0, iI_lt0, iI_0le, iI_le0, iI_0lt, jL_iI, iI_jL, lc_eq, lc_lt, lc_le, lc_ge, lc_gt, Nat.sub_zero, Nat.zero_le, true_and, and_true, Nat.reduceAdd, Nat.reduceLeDiff]
    exact ⟨fun _ => H, fun _ => ⟨fun _ => H, fun e2 => by omega⟩⟩
  · rw [if_neg e] at H
    suffices L : ∀ c : Nat, c ≤ nc → en_V G Y_X5_near (d + 3) wN wN K 4 [.ref 48, .int (iI (neF (faP nc g) c)), .int (iI c)] [] hi hl hr xc xs from L 0 (by omega)
    refine lp nc ?_ (fun c hc ih => ?_)
    · apply s_X5_near_4
      simp (disch := omega) only [B_X5_near_4, sh48, lt48, x1, x2, en_ops, en_opc, iI_add, iI_mul, iI_sub, jL_add, jL_mul, iI_le, iI_lt, iI_eq, iI_eq0, iI_lt0, iI_0le, iI_le0, iI_0lt, jL_iI, iI_jL, lc_eq, lc_lt, lc_le, lc_ge, lc_gt, Nat.sub_zero, Nat.zero_le, true_and, and_true, Nat.reduceAdd, Nat.reduceLeDiff]
      exact ⟨fun _ => H, fun e => absurd (Int.le_refl _) e⟩
    · obtain ⟨b0, b1, b2⟩ := neF_r (g := faP nc g) c
      have gc : 0 ≤ faP nc g c ∧ faP nc g c ≤ 12 * sumTo nc g := faP_r hg hc (Nat.le_refl _)
      have st : neF (faP nc g) (c + 1) = if neF (faP nc g) c = -1 ∨ faP nc g c < faP nc g (neF (faP nc g) c).toNat then (c : Int) else neF (faP nc g) c := rfl
      rw [st] at ih
      apply s_X5_near_4
      simp (disch := omega) only [B_X5_near_4, sh48, lt48, x1, x2, en_ops, en_opc, iI_add, iI_mul, iI_sub, jL_add, jL_mul, iI_le, iI_lt, iI_eq, iI_eq0, iI_lt0, iI_0le, iI_le0, iI_0lt, jL_iI, iI_jL, lc_eq, lc_lt, lc_le, lc_ge, lc_gt, Nat.sub_zero, Nat.zero_le, true_and, and_true, Nat.reduceAdd, Nat.reduceLeDiff]
      refine ⟨fun e2 => by omega, fun _ => ⟨fun e2 => by omega, fun _ => ⟨fun e2 => ?_, fun e2 => ?_⟩⟩⟩
      · rw [if_pos (Or.inl e2)] at ih; exact ih
      · refine t_farFrom h49 hs' hg hc ?_
        simp (disch := omega) only [sh48, lt48, en_ops, en_opc, iI_add, iI_mul, iI_sub, jL_add, jL_mul, iI_le, iI_lt, iI_eq, iI_eq0, iI_lt0, iI_0le, iI_le0, iI_0lt, jL_iI, iI_jL, lc_eq, lc_lt, lc_le, lc_ge, lc_gt, Nat.sub_zero, Nat.zero_le, true_and, and_true, Nat.reduceAdd, Nat.reduceLeDiff]
        have gb : 0 ≤ faP nc g (neF (faP nc g) c).toNat ∧ faP nc g (neF (faP nc g) c).toNat ≤ 12 * sumTo nc g := faP_r hg (by omega) (Nat.le_refl _)
        have en : neF (faP nc g) c = ((neF (faP nc g) c).toNat : Int) := by omega
        rw [en]
        refine t_farFrom h49 hs' hg (by omega) ?_
        rw [← en]
        simp (disch := omega) only [en_ops, en_opc, iI_add, iI_mul, iI_sub, jL_add, jL_mul, iI_le, iI_lt, iI_eq, iI_eq0, iI_lt0, iI_0le, iI_le0, iI_0lt, jL_iI, iI_jL, lc_eq, lc_lt, lc_le, lc_ge, lc_gt, Nat.sub_zero, Nat.zero_le, true_and, and_true, Nat.reduceAdd, Nat.reduceLeDiff]
        refine ⟨fun e3 => ?_, fun e3 => ?_⟩
        · rw [if_neg (by omega)] at ih; exact ih
        · rw [if_pos (by omega)] at ih; exact ih
def hfP (nc : Nat) (g : Nat → Int) : Int := if sumTo nc g = 0 then -1 else 1000 * faP nc g (neF (faP nc g) nc).toNat / sumTo nc g
theorem t_howFar (h49 : hr 48 0 = .ref 49) (hs : snH nc g hi hl) (hg : gB nc g) (H : K (.inl (some (.int (iI (hfP nc g))))) hi hl hr) : en_Call G (d + 4) xc xs Y_X5_howFar wN wN [.ref 48] hi hl hr K := by
  have hs' := hs
  obtain ⟨x1, x2, x3⟩ := hs
  have r1 := hg.s (n := nc) (Nat.le_refl _)
  have nc12 := hg.1
  apply en_X5_howFar
  simp (disch := omega) only [B_X5_howFar_0, sh48, lt48, x2, en_ops, en_opc, iI_add, iI_mul, iI_sub, jL_add, jL_mul, iI_le, iI_lt, iI_eq, iI_eq0, iI_lt0, iI_0le, iI_le0, iI_0lt, jL_iI, iI_jL, lc_eq, lc_lt, lc_le, lc_ge, lc_gt, Nat.sub_zero, Nat.zero_le, true_and, and_true, Nat.reduceAdd, Nat.reduceLeDiff]
  refine ⟨fun e => ?_, fun e => ?_⟩
  · have hO : hfP nc g = 1000 * faP nc g (neF (faP nc g) nc).toNat / sumTo nc g := if_neg (by omega)
    rw [hO] at H
    have nc0 : nc ≠ 0 := fun e0 => by subst e0; exact absurd (show sumTo 0 g = 0 from rfl) (by omega)
    obtain ⟨b0, b1, b2⟩ := neF_r (g := faP nc g) nc
    have b3 := b2 nc0
    have gb : 0 ≤ faP nc g (neF (faP nc g) nc).toNat ∧ faP nc g (neF (faP nc g) nc).toNat ≤ 12 * sumTo nc g := faP_r hg (by omega) (Nat.le_refl _)
    refine t_near h49 hs' hg ?_
    rw [if_neg (by omega)]
    have en : neF (faP nc g) nc = ((neF (faP nc g) nc).toNat : Int) := by omega
    simp (disch := omega) only [sh48, lt48, en_ops, en_opc, iI_add, iI_mul, iI_sub, jL_add, jL_mul, iI_le, iI_lt, iI_eq, iI_eq0, iI_lt0, iI_0le, iI_le0, iI_0lt, jL_iI, iI_jL, lc_eq, lc_lt, lc_le, lc_ge, lc_gt, Nat.sub_zero, Nat.zero_le, true_and, and_true, Nat.reduceAdd, Nat.reduceLeDiff]
    rw [en]
    refine t_farFrom h49 hs' hg (by omega) ?_
    simp (disch := omega) only [sh48, lt48, x2, en_ops, en_opc, iI_add, iI_mul, iI_sub, jL_add, jL_mul, iI_le, iI_lt, iI_eq, iI_eq0, iI_lt0, iI_0le, iI_le0, iI_0lt, jL_iI, iI_jL, lc_eq, lc_lt, lc_le, lc_ge, lc_gt, Nat.sub_zero, Nat.zero_le, true_and, and_true, Nat.reduceAdd, Nat.reduceLeDiff]
    refine ⟨by rw [jL_eq0 (by omega) (by omega)]; omega, ?_⟩
    rw [jL_div (by omega) (by omega) (by omega) (by omega)]
    simp (disch := omega) only [en_ops, en_opc, iI_add, iI_mul, iI_sub, jL_add, jL_mul, iI_le, iI_lt, iI_eq, iI_eq0, iI_lt0, iI_0le, iI_le0, iI_0lt, jL_iI, iI_jL, lc_eq, lc_lt, lc_le, lc_ge, lc_gt, Nat.sub_zero, Nat.zero_le, true_and, and_true, Nat.reduceAdd, Nat.reduceLeDiff]
    exact H
  · have hO : hfP nc g = -1 := if_pos (by omega)
    rw [hO] at H
    exact H
end
