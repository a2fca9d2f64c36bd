section
variable {G : en_G} {d : Nat} {K : en_K} {nc nz nh : Nat} {b : Nat → Int} {f : Nat → Nat → Nat → Int} {hi : en_I} {hl : en_L} {hr : en_F} {xc xs : Nat} {hd : Nat → Nat × Nat} {g : Nat → Int}
/-- the reference's hand -/
def rhH (nh : Nat) (hd : Nat → Nat × Nat) (hi : en_I) : Prop := hi 115 630 = iI nh ∧ nh ≤ 4 ∧ ∀ i, i < nh → hi 115 (631 + 2 * i) = iI ((hd i).1 : Int) ∧ hi 115 (632 + 2 * i) = iI ((hd i).2 : Int) ∧ (hd i).1 < 6 ∧ (hd i).2 < 3
def hdG (hd : Nat → Nat × Nat) (i : Nat) : Nat := 3 * (hd i).1 + (hd i).2
theorem m_wordOf {c : Nat} (hR : rfR hr) (hs : rfH f hi) (hb : rfB b hi) (hn : rfN nc nz b) (hB : fB nc nz f) (hH : rhH nh hd hi) (hc : c < 12)
    (H : K (.inl (some (.long (jL (wdP f nz nh (hdG hd) c))))) hi hl hr) : en_Call G (d + 4) xc xs Y_X11_wordOf wN wN [.ref 110, .int (iI (c : Int))] hi hl hr K := by
  obtain ⟨n0, n1, n12, n6⟩ := id hn
  obtain ⟨⟨-, -, r10, -, r12, -⟩, -⟩ := id hR
  obtain ⟨t0, t1, t2⟩ := hH
  have w0 := wP_nn (m := nz) hB c
  have w1 := wP_le hB n6 hc
  apply en_X11_wordOf
  simp (disch := omega) only [B_X11_wordOf_0, sh110, lt110, en_ops, en_opc, iI_add, iI_mul, iI_sub, jL_add, jL_mul, iI_le, iI_lt, iI_eq, iI_eq0, iI_lt0, iI_0le, iI_le0, iI_0lt, jL_iI, iI_jL, lc_eq, lc_lt, lc_le, lc_ge, lc_gt, Nat.sub_zero, Nat.zero_le, true_and, and_true, Nat.reduceAdd, Nat.reduceLeDiff]
  refine m_wholeOf (d := d) hR hs hb hn hc ?_
  simp (disch := omega) only [en_ops, en_opc, iI_add, iI_mul, iI_sub, jL_add, jL_mul, iI_le, iI_lt, iI_eq, iI_eq0, iI_lt0, iI_0le, iI_le0, iI_0lt, jL_iI, iI_jL, lc_eq, lc_lt, lc_le, lc_ge, lc_gt, Nat.sub_zero, Nat.zero_le, true_and, and_true, Nat.reduceAdd, Nat.reduceLeDiff]
  suffices L : ∀ i : Nat, i ≤ nh → en_V G Y_X11_wordOf (d + 4) wN wN K 12 [.ref 110, .int (iI (c : Int)), .long (jL (prodTo i (fun i => shP f nz c (hdG hd i)))), jk, .int (iI (wP f nz c)), .int (iI i)] [] hi hl hr xc xs from L 0 (by omega)
  refine lp nh ?_ (fun i hi' ih => ?_)
  · apply s_X11_wordOf_12
    simp (disch := omega) only [B_X11_wordOf_12, r12, sh110, lt110, sh115, lt115, en_ops, en_opc, iI_add, iI_mul, iI_sub, jL_add, jL_mul, iI_le, iI_lt, iI_eq, iI_eq0, iI_lt0, iI_0le, iI_le0, iI_0lt, jL_iI, iI_jL, lc_eq, lc_lt, lc_le, lc_ge, lc_gt, Nat.sub_zero, Nat.zero_le, true_and, and_true, Nat.reduceAdd, Nat.reduceLeDiff]
    refine ⟨630, rfl, by decide, ?_⟩
    rw [t0]
    simp (disch := omega) only [en_ops, en_opc, iI_add, iI_mul, iI_sub, jL_add, jL_mul, iI_le, iI_lt, iI_eq, iI_eq0, iI_lt0, iI_0le, iI_le0, iI_0lt, jL_iI, iI_jL, lc_eq, lc_lt, lc_le, lc_ge, lc_gt, Nat.sub_zero, Nat.zero_le, true_and, and_true, Nat.reduceAdd, Nat.reduceLeDiff]
    exact ⟨fun _ => H, fun e => absurd (Int.le_refl _) e⟩
  · obtain ⟨t3, t4, t5, t6⟩ := t2 i hi'
    have e3 : hdG hd i / 3 = (hd i).1 ∧ hdG hd i % 3 = (hd i).2 := by unfold hdG; omega
    have es : shP f nz c (hdG hd i) = if wP f nz c = 0 then 0 else 1000 * f c (hd i).1 (hd i).2 / wP f nz c := by unfold shP; rw [e3.1, e3.2]
    have st : prodTo (i + 1) (fun i => shP f nz c (hdG hd i)) = prodTo i (fun i => shP f nz c (hdG hd i)) * shP f nz c (hdG hd i) := rfl
    rw [st, es] at ih
    have f0 := hB.1 c (hd i).1 (hd i).2
    have f1 : f c (hd i).1 (hd i).2 ≤ 10000000 := Int.le_trans (f_le hB c _ t6) (Int.le_trans (aP_le hB n6 hc _) w1)
    apply s_X11_wordOf_12
    simp (disch := omega) only [B_X11_wordOf_12, r12, sh110, lt110, sh115, lt115, en_ops, en_opc, iI_add, iI_mul, iI_sub, jL_add, jL_mul, iI_le, iI_lt, iI_eq, iI_eq0, iI_lt0, iI_0le, iI_le0, iI_0lt, jL_iI, iI_jL, lc_eq, lc_lt, lc_le, lc_ge, lc_gt, Nat.sub_zero, Nat.zero_le, true_and, and_true, Nat.reduceAdd, Nat.reduceLeDiff]
    refine ⟨630, rfl, by decide, ?_⟩
    rw [t0]
    simp (disch := omega) only [r12, sh110, lt110, sh115, lt115, en_ops, en_opc, iI_add, iI_mul, iI_sub, jL_add, jL_mul, iI_le, iI_lt, iI_eq, iI_eq0, iI_lt0, iI_0le, iI_le0, iI_0lt, jL_iI, iI_jL, lc_eq, lc_lt, lc_le, lc_ge, lc_gt, Nat.sub_zero, Nat.zero_le, true_and, and_true, Nat.reduceAdd, Nat.reduceLeDiff]
    refine ⟨fun e => by omega, fun _ => ⟨fun e => ⟨631 + 2 * i, iI_eq_of (by omega), by omega, ?_⟩, fun e => ?_⟩⟩
    · rw [t3]
      refine ⟨632 + 2 * i, iI_eq_of (by omega), by omega, ?_⟩
      rw [t4]
      refine m_stone ?_
      simp (disch := omega) only [sh115, lt115, en_ops, en_opc, iI_add, iI_mul, iI_sub, jL_add, jL_mul, iI_le, iI_lt, iI_eq, iI_eq0, iI_lt0, iI_0le, iI_le0, iI_0lt, jL_iI, iI_jL, lc_eq, lc_lt, lc_le, lc_ge, lc_gt, Nat.sub_zero, Nat.zero_le, true_and, and_true, Nat.reduceAdd, Nat.reduceLeDiff]
      refine ⟨24 * c + 3 * (hd i).1 + (hd i).2, iI_eq_of (by omega), by omega, ?_⟩
      rw [hs c _ _ hc t5 t6]
      simp (disch := omega) only [en_ops, en_opc, iI_add, iI_mul, iI_sub, jL_add, jL_mul, iI_le, iI_lt, iI_eq, iI_eq0, iI_lt0, iI_0le, iI_le0, iI_0lt, jL_iI, iI_jL, lc_eq, lc_lt, lc_le, lc_ge, lc_gt, Nat.sub_zero, Nat.zero_le, true_and, and_true, Nat.reduceAdd, Nat.reduceLeDiff]
      refine ⟨by rw [jL_eq0 (by omega) (by omega)]; omega, ?_⟩
      rw [jL_div (by omega) (by omega) (by omega) (by omega), jL_mul]
      rw [if_neg e] at ih
      exact ih
    · rw [if_pos (by omega)] at ih
      exact ih
theorem m_allWords (hR : rfR hr) (hs : rfH f hi) (hb : rfB b hi) (hn : rfN nc nz b) (hB : fB nc nz f) (hH : rhH nh hd hi)
    (H : K (.inl (some (.long (jL (sumTo nc (wdP f nz nh (hdG hd))))))) hi hl hr) : en_Call G (d + 5) xc xs Y_X11_allWords wN wN [.ref 110] hi hl hr K := by
  obtain ⟨n0, n1, n12, n6⟩ := id hn
  obtain ⟨⟨-, -, r10, -, r12, -⟩, -⟩ := id hR
  have e0 : hi 113 0 = iI nc := by rw [hb 0 (by omega), n0]
  apply en_X11_allWords
  simp (disch := omega) only [B_X11_allWords_0, en_ops, en_opc, iI_add, iI_mul, iI_sub, jL_add, jL_mul, iI_le, iI_lt, iI_eq, iI_eq0, iI_lt0, iI_0le, iI_le0, iI_0lt, jL_iI, iI_jL, lc_eq, lc_lt, lc_le, lc_ge, lc_gt, Nat.sub_zero, Nat.zero_le, true_and, and_true, Nat.reduceAdd, Nat.reduceLeDiff]
  suffices L : ∀ c : Nat, c ≤ nc → en_V G Y_X11_allWords (d + 5) wN wN K 4 [.ref 110, .long (jL (sumTo c (wdP f nz nh (hdG hd)))), jk, .int (iI c)] [] hi hl hr xc xs from L 0 (by omega)
  refine lp nc ?_ (fun c hc ih => ?_)
  · apply s_X11_allWords_4
    simp (disch := omega) only [B_X11_allWords_4, r10, sh110, lt110, sh113, lt113, en_ops, en_opc, iI_add, iI_mul, iI_sub, jL_add, jL_mul, iI_le, iI_lt, iI_eq, iI_eq0, iI_lt0, iI_0le, iI_le0, iI_0lt, jL_iI, iI_jL, lc_eq, lc_lt, lc_le, lc_ge, lc_gt, Nat.sub_zero, Nat.zero_le, true_and, and_true, Nat.reduceAdd, Nat.reduceLeDiff]
    refine ⟨0, rfl, by decide, ?_⟩
    rw [e0]
    simp (disch := omega) only [en_ops, en_opc, iI_add, iI_mul, iI_sub, jL_add, jL_mul, iI_le, iI_lt, iI_eq, iI_eq0, iI_lt0, iI_0le, iI_le0, iI_0lt, jL_iI, iI_jL, lc_eq, lc_lt, lc_le, lc_ge, lc_gt, Nat.sub_zero, Nat.zero_le, true_and, and_true, Nat.reduceAdd, Nat.reduceLeDiff]
    exact ⟨fun _ => H, fun e => absurd (Int.le_refl _) e⟩
  · rw [sumTo_s] at ih
    apply s_X11_allWords_4
    simp (disch := omega) only [B_X11_allWords_4, r10, sh110, lt110, sh113, lt113, en_ops, en_opc, iI_add, iI_mul, iI_sub, jL_add, jL_mul, iI_le, iI_lt, iI_eq, iI_eq0, iI_lt0, iI_0le, iI_le0, iI_0lt, jL_iI, iI_jL, lc_eq, lc_lt, lc_le, lc_ge, lc_gt, Nat.sub_zero, Nat.zero_le, true_and, and_true, Nat.reduceAdd, Nat.reduceLeDiff]
    refine ⟨0, rfl, by decide, ?_⟩
    rw [e0]
    simp (disch := omega) only [en_ops, en_opc, iI_add, iI_mul, iI_sub, jL_add, jL_mul, iI_le, iI_lt, iI_eq, iI_eq0, iI_lt0, iI_0le, iI_le0, iI_0lt, jL_iI, iI_jL, lc_eq, lc_lt, lc_le, lc_ge, lc_gt, Nat.sub_zero, Nat.zero_le, true_and, and_true, Nat.reduceAdd, Nat.reduceLeDiff]
    refine ⟨fun e => by omega, fun _ => m_wordOf (d := d) hR hs hb hn hB hH (by omega) ?_⟩
    simp (disch := omega) only [en_ops, en_opc, iI_add, iI_mul, iI_sub, jL_add, jL_mul, iI_le, iI_lt, iI_eq, iI_eq0, iI_lt0, iI_0le, iI_le0, iI_0lt, jL_iI, iI_jL, lc_eq, lc_lt, lc_le, lc_ge, lc_gt, Nat.sub_zero, Nat.zero_le, true_and, and_true, Nat.reduceAdd, Nat.reduceLeDiff]
    exact ih
/-- long division by tens -/
theorem byA {v a : Int} (hv : 0 ≤ v) (ha : 0 < a) (k : Int) (hk : 0 ≤ k) : 10 * (v * k / a) + (v * k % a * 10) / a = v * (k * 10) / a ∧ (v * k % a * 10) % a = v * (k * 10) % a := by
  have e : v * (k * 10) = v * k % a * 10 + a * (10 * (v * k / a)) := by
    have h1 := Int.emod_add_mul_ediv (v * k) a
    have h2 : a * (10 * (v * k / a)) = 10 * (a * (v * k / a)) := by rw [← Int.mul_assoc, Int.mul_comm a 10, Int.mul_assoc]
    rw [h2, ← Int.mul_assoc]
    generalize v * k % a = r at *
    generalize a * (v * k / a) = m at *
    omega
  rw [e, Int.add_mul_ediv_left _ _ (by omega), Int.add_mul_emod_self_left]
  exact ⟨by omega, rfl⟩
theorem m_byAll {v a : Int} (hv : 0 ≤ v) (hv2 : v ≤ 200 * a) (ha : 0 < a) (ha2 : a ≤ 100000000000000) (H : K (.inl (some (.int (iI (1000 * v / a))))) hi hl hr) : en_Call G (d + 1) xc xs Y_X11_byAll wN wN [.long (jL v), .long (jL a)] hi hl hr K := by
  have q0 : 0 ≤ v / a := Int.ediv_nonneg hv (by omega)
  have er : v - v / a * a = v % a := by rw [Int.emod_def, Int.mul_comm]
  have rg : ∀ x : Int, 0 ≤ x % a ∧ x % a < a := fun x => ⟨Int.emod_nonneg x (by omega), Int.emod_lt_of_pos x ha⟩
  have qg : ∀ k : Int, 0 ≤ k → k ≤ 1000 → 0 ≤ v * k / a ∧ v * k / a ≤ 200000 := fun k k0 k1 => by
    refine ⟨Int.ediv_nonneg (Int.mul_nonneg hv k0) (by omega), ?_⟩
    refine Int.ediv_le_of_le_mul ha ?_
    have := Int.mul_le_mul hv2 k1 k0 (by omega)
    omega
  apply en_X11_byAll
  simp (disch := omega) only [B_X11_byAll_0, en_ops, en_opc, iI_add, iI_mul, iI_sub, jL_add, jL_mul, iI_le, iI_lt, iI_eq, iI_eq0, iI_lt0, iI_0le, iI_le0, iI_0lt, jL_iI, iI_jL, lc_eq, lc_lt, lc_le, lc_ge, lc_gt, Nat.sub_zero, Nat.zero_le, true_and, and_true, Nat.reduceAdd, Nat.reduceLeDiff]
  refine ⟨by rw [jL_eq0 (by omega) (by omega)]; omega, by rw [jL_eq0 (by omega) (by omega)]; omega, ?_⟩
  rw [jL_div hv (by omega) ha (by omega), jL_mul, jL_sub, er]
  suffices L : ∀ i : Nat, i ≤ 3 → en_V G Y_X11_byAll (d + 1) wN wN K 13 [.long (jL v), jk, .long (jL a), jk, .long (jL (v * 10 ^ i / a)), jk, .long (jL (v * 10 ^ i % a)), jk, .int (iI (i : Int))] [] hi hl hr xc xs by
    have := L 0 (by omega)
    rw [show v * (10 : Int) ^ 0 = v by rw [Int.pow_zero, Int.mul_one]] at this
    exact this
  refine lp 3 ?_ (fun i hi9 ih => ?_)
  · apply s_X11_byAll_13
    simp (disch := omega) only [B_X11_byAll_13, en_ops, en_opc, iI_add, iI_mul, iI_sub, jL_add, jL_mul, iI_le, iI_lt, iI_eq, iI_eq0, iI_lt0, iI_0le, iI_le0, iI_0lt, jL_iI, iI_jL, lc_eq, lc_lt, lc_le, lc_ge, lc_gt, Nat.sub_zero, Nat.zero_le, true_and, and_true, Nat.reduceAdd, Nat.reduceLeDiff]
    refine ⟨fun _ => ?_, fun e => absurd (show (3 : Int) ≤ ((3 : Nat) : Int) by omega) e⟩
    rw [show v * (10 : Int) ^ 3 = 1000 * v by rw [Int.mul_comm]; rfl]
    exact H
  · have kr : (0 : Int) ≤ 10 ^ i ∧ (10 : Int) ^ i ≤ 100 := by rcases (show i = 0 ∨ i = 1 ∨ i = 2 by omega) with rfl | rfl | rfl <;> decide
    obtain ⟨b1, b2⟩ := byA hv ha (10 ^ i) kr.1
    have r1 := rg (v * 10 ^ i)
    have q1 := qg (10 ^ i) kr.1 (by omega)
    rw [Int.pow_succ, ← b1, ← b2] at ih
    generalize hq : v * 10 ^ i / a = q at *
    generalize hrr : v * 10 ^ i % a = r at *
    have d0 : 0 ≤ r * 10 / a := Int.ediv_nonneg (by omega) (by omega)
    have em : r * 10 - r * 10 / a * a = r * 10 % a := by rw [Int.emod_def, Int.mul_comm a]
    apply s_X11_byAll_13
    simp (disch := omega) only [B_X11_byAll_13, en_ops, en_opc, iI_add, iI_mul, iI_sub, jL_add, jL_mul, iI_le, iI_lt, iI_eq, iI_eq0, iI_lt0, iI_0le, iI_le0, iI_0lt, jL_iI, iI_jL, lc_eq, lc_lt, lc_le, lc_ge, lc_gt, Nat.sub_zero, Nat.zero_le, true_and, and_true, Nat.reduceAdd, Nat.reduceLeDiff]
    refine ⟨fun e => by omega, fun _ => ⟨by rw [jL_eq0 (by omega) (by omega)]; omega, ?_⟩⟩
    rw [jL_div (by omega) (by omega) (by omega) (by omega)]
    simp (disch := omega) only [en_ops, en_opc, iI_add, iI_mul, iI_sub, jL_add, jL_mul, iI_le, iI_lt, iI_eq, iI_eq0, iI_lt0, iI_0le, iI_le0, iI_0lt, jL_iI, iI_jL, lc_eq, lc_lt, lc_le, lc_ge, lc_gt, Nat.sub_zero, Nat.zero_le, true_and, and_true, Nat.reduceAdd, Nat.reduceLeDiff]
    refine ⟨by rw [jL_eq0 (by omega) (by omega)]; omega, ?_⟩
    rw [jL_sub, em]
    exact ih
theorem gw_B (hB : fB nc nz f) (b0 : nc ≤ 12) (b1 : nz ≤ 6) (hH : rhH nh hd hi) : gB nc (wdP f nz nh (hdG hd)) := wdP_B hB b0 b1 hH.2.1 (fun i hi9 => by obtain ⟨-, -, t5, t6⟩ := hH.2.2 i hi9; unfold hdG; omega)
theorem m_farNear (hR : rfR hr) (hs : rfH f hi) (hb : rfB b hi) (hn : rfN nc nz b) (hB : fB nc nz f) (hH : rhH nh hd hi)
    (H : K (.inl (some (.int (iI (hfP nc (wdP f nz nh (hdG hd))))))) hi hl hr) : en_Call G (d + 6) xc xs Y_X11_farNear wN wN [.ref 110] hi hl hr K := by
  obtain ⟨n0, n1, n12, n6⟩ := id hn
  obtain ⟨⟨-, -, r10, -, r12, -⟩, -⟩ := id hR
  have e0 : hi 113 0 = iI nc := by rw [hb 0 (by omega), n0]
  have hg := gw_B hB n12 n6 hH
  have r1 := hg.s (n := nc) (Nat.le_refl _)
  have wd : ∀ {K' : en_K} {c : Nat}, c < nc → K' (.inl (some (.long (jL (wdP f nz nh (hdG hd) c))))) hi hl hr → en_Call G (d + 5) 0 0 Y_X11_wordOf wN wN [.ref 110, .int (iI (c : Int))] hi hl hr K' := fun hc h => m_wordOf (d := d + 1) hR hs hb hn hB hH (by omega) h
  have hall : ∀ {K' : en_K}, K' (.inl (some (.long (jL (sumTo nc (wdP f nz nh (hdG hd))))))) hi hl hr → en_Call G (d + 5) 0 0 Y_X11_allWords wN wN [.ref 110] hi hl hr K' := fun h => m_allWords (d := d) hR hs hb hn hB hH h
  generalize wdP f nz nh (hdG hd) = g at *
  apply en_X11_farNear
  simp (disch := omega) only [B_X11_farNear_0, sh110, lt110, en_ops, en_opc, iI_add, iI_mul, iI_sub, jL_add, jL_mul, iI_le, iI_lt, iI_eq, iI_eq0, iI_lt0, iI_0le, iI_le0, iI_0lt, jL_iI, iI_jL, lc_eq, lc_lt, lc_le, lc_ge, lc_gt, Nat.sub_zero, Nat.zero_le, true_and, and_true, Nat.reduceAdd, Nat.reduceLeDiff]
  refine hall ?_
  simp (disch := omega) only [en_ops, en_opc, iI_add, iI_mul, iI_sub, jL_add, jL_mul, iI_le, iI_lt, iI_eq, iI_eq0, iI_lt0, iI_0le, iI_le0, iI_0lt, jL_iI, iI_jL, lc_eq, lc_lt, lc_le, lc_ge, lc_gt, Nat.sub_zero, Nat.zero_le, true_and, and_true, Nat.reduceAdd, Nat.reduceLeDiff]
  refine ⟨fun e => ?_, fun e => ?_⟩
  · have hO : hfP nc g = 1000 * faP nc g (neF (faP nc g) nc).toNat / sumTo nc g := if_neg (by omega)
    rw [hO] at H
    have fr : ∀ c, c < nc → 0 ≤ faP nc g c ∧ faP nc g c ≤ 12 * sumTo nc g := fun c hc => faP_r hg hc (Nat.le_refl _)
    have lv : ∀ c : Nat, 1 ≤ c → c ≤ nc → 0 ≤ neF (faP nc g) c ∧ neF (faP nc g) c < c := fun c h1 h2 => by have := neF_r (g := faP nc g) c; have := this.2.2 (by omega); omega
    have nc0 : nc ≠ 0 := fun e0 => by subst e0; exact absurd (show sumTo 0 g = 0 from rfl) (by omega)
    suffices L : ∀ c : Nat, c ≤ nc → ∀ (x6 x8 : Value) (l : Int), (c ≠ 0 → l = faP nc g (neF (faP nc g) c).toNat) → (c = 0 → l = 0) → en_V G Y_X11_farNear (d + 6) wN wN K 18 [.ref 110, .long (jL (sumTo nc g)), jk, .long (jL l), jk, .int (iI (c : Int)), x6, jk, x8] [] hi hl hr xc xs from L 0 (by omega) _ _ 0 (fun e => absurd rfl e) (fun _ => rfl)
    refine lp nc (fun x6 x8 l hl1 hl0 => ?_) (fun c hc ih x6 x8 l hl1 hl0 => ?_)
    · have l9 := hl1 nc0
      obtain ⟨b0, b1⟩ := lv nc (by omega) (Nat.le_refl _)
      have f9 := fr (neF (faP nc g) nc).toNat (by omega)
      rw [← l9] at H f9
      apply s_X11_farNear_18
      simp (disch := omega) only [B_X11_farNear_18, r10, sh110, lt110, sh113, lt113, en_ops, en_opc, iI_add, iI_mul, iI_sub, jL_add, jL_mul, iI_le, iI_lt, iI_eq, iI_eq0, iI_lt0, iI_0le, iI_le0, iI_0lt, jL_iI, iI_jL, lc_eq, lc_lt, lc_le, lc_ge, lc_gt, Nat.sub_zero, Nat.zero_le, true_and, and_true, Nat.reduceAdd, Nat.reduceLeDiff]
      refine ⟨0, rfl, by decide, ?_⟩
      rw [e0]
      simp (disch := omega) only [en_ops, en_opc, iI_add, iI_mul, iI_sub, jL_add, jL_mul, iI_le, iI_lt, iI_eq, iI_eq0, iI_lt0, iI_0le, iI_le0, iI_0lt, jL_iI, iI_jL, lc_eq, lc_lt, lc_le, lc_ge, lc_gt, Nat.sub_zero, Nat.zero_le, true_and, and_true, Nat.reduceAdd, Nat.reduceLeDiff]
      refine ⟨fun _ => m_byAll (by omega) (by omega) (by omega) (by omega) ?_, fun e => absurd (Int.le_refl _) e⟩
      simp (disch := omega) only [en_ops, en_opc, iI_add, iI_mul, iI_sub, jL_add, jL_mul, iI_le, iI_lt, iI_eq, iI_eq0, iI_lt0, iI_0le, iI_le0, iI_0lt, jL_iI, iI_jL, lc_eq, lc_lt, lc_le, lc_ge, lc_gt, Nat.sub_zero, Nat.zero_le, true_and, and_true, Nat.reduceAdd, Nat.reduceLeDiff]
      exact H
    · apply s_X11_farNear_18
      simp (disch := omega) only [B_X11_farNear_18, r10, sh110, lt110, sh113, lt113, en_ops, en_opc, iI_add, iI_mul, iI_sub, jL_add, jL_mul, iI_le, iI_lt, iI_eq, iI_eq0, iI_lt0, iI_0le, iI_le0, iI_0lt, jL_iI, iI_jL, lc_eq, lc_lt, lc_le, lc_ge, lc_gt, Nat.sub_zero, Nat.zero_le, true_and, and_true, Nat.reduceAdd, Nat.reduceLeDiff]
      refine ⟨0, rfl, by decide, ?_⟩
      rw [e0]
      simp (disch := omega) only [en_ops, en_opc, iI_add, iI_mul, iI_sub, jL_add, jL_mul, iI_le, iI_lt, iI_eq, iI_eq0, iI_lt0, iI_0le, iI_le0, iI_0lt, jL_iI, iI_jL, lc_eq, lc_lt, lc_le, lc_ge, lc_gt, Nat.sub_zero, Nat.zero_le, true_and, and_true, Nat.reduceAdd, Nat.reduceLeDiff]
      refine ⟨fun e => by omega, fun _ => ?_⟩
      suffices L2 : ∀ o : Nat, o ≤ nc → en_V G Y_X11_farNear (d + 6) wN wN K 35 [.ref 110, .long (jL (sumTo nc g)), jk, .long (jL l), jk, .int (iI (c : Int)), .long (jL (sumTo o (faI g c))), jk, .int (iI (o : Int))] [] hi hl hr xc xs from L2 0 (by omega)
      have fc := fr c hc
      refine lp nc ?_ (fun o ho ih2 => ?_)
      · have ef : sumTo nc (faI g c) = faP nc g c := rfl
        rw [ef]
        have nx : ∀ l' : Int, l' = faP nc g (neF (faP nc g) (c + 1)).toNat → en_V G Y_X11_farNear (d + 6) wN wN K 18 [.ref 110, .long (jL (sumTo nc g)), jk, .long (jL l'), jk, .int (iI ((c : Int) + 1)), .long (jL (faP nc g c)), jk, .int (iI (nc : Int))] [] hi hl hr xc xs := fun l' h9 => ih _ _ l' (fun _ => h9) (fun e => by omega)
        have st : neF (faP nc g) (c + 1) = if neF (faP nc g) c = -1 ∨ faP nc g c < faP nc g (neF (faP nc g) c).toNat then (c : Int) else neF (faP nc g) c := rfl
        apply s_X11_farNear_35
        simp (disch := omega) only [B_X11_farNear_35, r10, sh110, lt110, sh113, lt113, en_ops, en_opc, iI_add, iI_mul, iI_sub, jL_add, jL_mul, iI_le, iI_lt, iI_eq, iI_eq0, iI_lt0, iI_0le, iI_le0, iI_0lt, jL_iI, iI_jL, lc_eq, lc_lt, lc_le, lc_ge, lc_gt, Nat.sub_zero, Nat.zero_le, true_and, and_true, Nat.reduceAdd, Nat.reduceLeDiff]
        refine ⟨0, rfl, by decide, ?_⟩
        rw [e0]
        by_cases c0 : c = 0
        · subst c0
          have z1 : neF (faP nc g) 1 = 0 := if_pos (Or.inl rfl)
          simp (disch := omega) only [en_ops, en_opc, iI_add, iI_mul, iI_sub, jL_add, jL_mul, iI_le, iI_lt, iI_eq, iI_eq0, iI_lt0, iI_0le, iI_le0, iI_0lt, jL_iI, iI_jL, lc_eq, lc_lt, lc_le, lc_ge, lc_gt, Nat.sub_zero, Nat.zero_le, true_and, and_true, Nat.reduceAdd, Nat.reduceLeDiff]
          refine ⟨fun _ => ⟨fun _ => ?_, fun e => by omega⟩, fun e => absurd (Int.le_refl _) e⟩
          exact nx _ (by rw [z1]; rfl)
        · obtain ⟨b0, b1⟩ := lv c (by omega) (by omega)
          have l9 := hl1 c0
          have fl := fr (neF (faP nc g) c).toNat (by omega)
          rw [← l9] at fl
          simp (disch := omega) only [en_ops, en_opc, iI_add, iI_mul, iI_sub, jL_add, jL_mul, iI_le, iI_lt, iI_eq, iI_eq0, iI_lt0, iI_0le, iI_le0, iI_0lt, jL_iI, iI_jL, lc_eq, lc_lt, lc_le, lc_ge, lc_gt, Nat.sub_zero, Nat.zero_le, true_and, and_true, Nat.reduceAdd, Nat.reduceLeDiff]
          refine ⟨fun _ => ⟨fun e => by omega, fun e => ⟨fun e2 => nx _ ?_, fun e2 => nx _ ?_⟩⟩, fun e => absurd (Int.le_refl _) e⟩
          · rw [st, if_neg (by rw [← l9]; omega)]; exact l9
          · rw [st, if_pos (by rw [← l9]; omega), show ((c : Int)).toNat = c by omega]
      · rw [sumTo_s] at ih2
        have f1 := faP_r hg hc (n := o) (by omega)
        have fi := faI_r hg hc ho
        obtain ⟨g0, g1⟩ := hg.2 o ho
        have fd : faI g c o = (if (o : Int) - c < 0 then -((o : Int) - c) else (o : Int) - c) * g o := rfl
        apply s_X11_farNear_35
        simp (disch := omega) only [B_X11_farNear_35, r10, sh110, lt110, sh113, lt113, en_ops, en_opc, iI_add, iI_mul, iI_sub, jL_add, jL_mul, iI_le, iI_lt, iI_eq, iI_eq0, iI_lt0, iI_0le, iI_le0, iI_0lt, jL_iI, iI_jL, lc_eq, lc_lt, lc_le, lc_ge, lc_gt, Nat.sub_zero, Nat.zero_le, true_and, and_true, Nat.reduceAdd, Nat.reduceLeDiff]
        refine ⟨0, rfl, by decide, ?_⟩
        rw [e0]
        simp (disch := omega) only [en_ops, en_opc, iI_add, iI_mul, iI_sub, jL_add, jL_mul, iI_le, iI_lt, iI_eq, iI_eq0, iI_lt0, iI_0le, iI_le0, iI_0lt, jL_iI, iI_jL, lc_eq, lc_lt, lc_le, lc_ge, lc_gt, Nat.sub_zero, Nat.zero_le, true_and, and_true, Nat.reduceAdd, Nat.reduceLeDiff]
        refine ⟨fun e => by omega, fun _ => wd ho ?_⟩
        simp (disch := omega) only [en_ops, en_opc, iI_add, iI_mul, iI_sub, jL_add, jL_mul, iI_le, iI_lt, iI_eq, iI_eq0, iI_lt0, iI_0le, iI_le0, iI_0lt, jL_iI, iI_jL, lc_eq, lc_lt, lc_le, lc_ge, lc_gt, Nat.sub_zero, Nat.zero_le, true_and, and_true, Nat.reduceAdd, Nat.reduceLeDiff]
        refine ⟨fun e => ?_, fun e => ?_⟩
        · rw [fd, if_neg (by omega), Int.mul_comm] at ih2; exact ih2
        · rw [fd, if_pos (by omega), Int.mul_comm, show -((o : Int) - c) = c - o by omega] at ih2; exact ih2
  · have hO : hfP nc g = -1 := if_pos (by omega)
    rw [hO] at H
    exact H
end
