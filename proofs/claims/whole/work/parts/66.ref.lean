section
variable {G : en_G} {d : Nat} {K : en_K} {nc nz : Nat} {b : Nat → Int} {f : Nat → Nat → Nat → Int} {hi : en_I} {hl : en_L} {hr : en_F} {xc xs : Nat}
theorem sh131 : en_SH 131 = (100, 24) := by decide
theorem lt131 : 131 < 134 := by decide
theorem sh117 : en_SH 117 = (100, 834) := by decide
theorem lt117 : 117 < 134 := by decide
theorem m_pairs {o : Int} (ho : o = 0 ∨ o = 1) (hR : rfR hr) (hs : rfH f hi) (hb : rfB b hi) (hn : rfN nc nz b) (hB : fB nc nz f)
    (H : ∀ hi', Fr (· = 131) hi hi' → K (.inl (some (.int (iI (prP f nc nz o))))) hi' hl hr) : en_Call G (d + 5) xc xs Y_X11_pairs wN wN [.ref 110, .int (iI o)] hi hl hr K := by
  obtain ⟨n0, n1, n12, n6⟩ := id hn
  obtain ⟨⟨-, -, r10, -, r12, -⟩, -, -, -, -, -, -, -, r32, -⟩ := id hR
  have hm := fun c => mnP_r (c := c) hB n6
  apply en_X11_pairs
  simp (disch := omega) only [B_X11_pairs_0, en_ops, en_opc, iI_add, iI_mul, iI_sub, jL_add, jL_mul, iI_le, iI_lt, iI_eq, iI_eq0, iI_lt0, iI_0le, iI_le0, iI_0lt, jL_iI, iI_jL, lc_eq, lc_lt, lc_le, lc_ge, lc_gt, Nat.sub_zero, Nat.zero_le, true_and, and_true, Nat.reduceAdd, Nat.reduceLeDiff]
  suffices L : ∀ c : Nat, c ≤ nc → ∀ h9 x4, Fr (· = 131) hi h9 → (∀ j, j < c → h9 131 j = iI (mnP f nz j)) → en_V G Y_X11_pairs (d + 5) wN wN K 4 [.ref 110, .int (iI o), .int (iI (sumTo c (fun c => sumTo c (prC f nz o c)))), .int (iI c), x4] [] h9 hl hr xc xs from L 0 (by omega) hi _ Fr.rf (fun j hj => by omega)
  refine lp nc (fun h9 x4 F9 M9 => ?_) (fun c hc ih h9 x4 F9 M9 => ?_)
  · have e0 : h9 113 0 = iI nc := by rw [F9 113 (by decide), hb 0 (by omega), n0]
    apply s_X11_pairs_4
    simp (disch := omega) only [B_X11_pairs_4, r10, sh110, lt110, sh113, lt113, en_ops, en_opc, iI_add, iI_mul, iI_sub, jL_add, jL_mul, iI_le, iI_lt, iI_eq, iI_eq0, iI_lt0, iI_0le, iI_le0, iI_0lt, jL_iI, iI_jL, lc_eq, lc_lt, lc_le, lc_ge, lc_gt, Nat.sub_zero, Nat.zero_le, true_and, and_true, Nat.reduceAdd, Nat.reduceLeDiff]
    refine ⟨0, rfl, by decide, ?_⟩
    rw [e0]
    simp (disch := omega) only [en_ops, en_opc, iI_add, iI_mul, iI_sub, jL_add, jL_mul, iI_le, iI_lt, iI_eq, iI_eq0, iI_lt0, iI_0le, iI_le0, iI_0lt, jL_iI, iI_jL, lc_eq, lc_lt, lc_le, lc_ge, lc_gt, Nat.sub_zero, Nat.zero_le, true_and, and_true, Nat.reduceAdd, Nat.reduceLeDiff]
    exact ⟨fun _ => H h9 F9, fun e => absurd (Int.le_refl _) e⟩
  · have e0 : h9 113 0 = iI nc := by rw [F9 113 (by decide), hb 0 (by omega), n0]
    rw [sumTo_s] at ih
    apply s_X11_pairs_4
    simp (disch := omega) only [B_X11_pairs_4, r10, r32, sh110, lt110, sh113, lt113, en_ops, en_opc, iI_add, iI_mul, iI_sub, jL_add, jL_mul, iI_le, iI_lt, iI_eq, iI_eq0, iI_lt0, iI_0le, iI_le0, iI_0lt, jL_iI, iI_jL, lc_eq, lc_lt, lc_le, lc_ge, lc_gt, Nat.sub_zero, Nat.zero_le, true_and, and_true, Nat.reduceAdd, Nat.reduceLeDiff]
    refine ⟨0, rfl, by decide, ?_⟩
    rw [e0]
    simp (disch := omega) only [en_ops, en_opc, iI_add, iI_mul, iI_sub, jL_add, jL_mul, iI_le, iI_lt, iI_eq, iI_eq0, iI_lt0, iI_0le, iI_le0, iI_0lt, jL_iI, iI_jL, lc_eq, lc_lt, lc_le, lc_ge, lc_gt, Nat.sub_zero, Nat.zero_le, true_and, and_true, Nat.reduceAdd, Nat.reduceLeDiff]
    refine ⟨fun e => by omega, fun _ => m_meanOf (d := d) (b := b) hR (fun c z k hc hz hk => by rw [F9 115 (by decide)]; exact hs c z k hc hz hk) (hb.fr F9 (by decide)) hn hB (by omega) ?_⟩
    simp (disch := omega) only [sh131, lt131, en_ops, en_opc, iI_add, iI_mul, iI_sub, jL_add, jL_mul, iI_le, iI_lt, iI_eq, iI_eq0, iI_lt0, iI_0le, iI_le0, iI_0lt, jL_iI, iI_jL, lc_eq, lc_lt, lc_le, lc_ge, lc_gt, Nat.sub_zero, Nat.zero_le, true_and, and_true, Nat.reduceAdd, Nat.reduceLeDiff]
    refine ⟨c, rfl, by omega, ?_⟩
    have F8 : Fr (· = 131) hi (en_up h9 131 c (iI (mnP f nz c))) := Fr.up F9 (by rfl)
    have M8 : ∀ j, j < c + 1 → en_up h9 131 c (iI (mnP f nz c)) 131 j = iI (mnP f nz j) := fun j hj => by
      by_cases e : j = c
      · subst e; rw [up_at]
      · rw [up_ne (Or.inr e)]; exact M9 j (by omega)
    generalize en_up h9 131 c (iI (mnP f nz c)) = h8 at F8 M8 ⊢
    suffices L2 : ∀ i : Nat, i ≤ c → en_V G Y_X11_pairs (d + 5) wN wN K 28 [.ref 110, .int (iI o), .int (iI (sumTo c (fun c => sumTo c (prC f nz o c)) + sumTo i (prC f nz o c))), .int (iI c), .int (iI i)] [] h8 hl hr xc xs by
      have := L2 0 (by omega)
      rw [sumTo_z, Int.add_zero] at this
      exact this
    obtain ⟨mc0, mc1⟩ := hm c
    refine lp c ?_ (fun i hi' ih2 => ?_)
    · apply s_X11_pairs_28
      simp (disch := omega) only [B_X11_pairs_28, en_ops, en_opc, iI_add, iI_mul, iI_sub, jL_add, jL_mul, iI_le, iI_lt, iI_eq, iI_eq0, iI_lt0, iI_0le, iI_le0, iI_0lt, jL_iI, iI_jL, lc_eq, lc_lt, lc_le, lc_ge, lc_gt, Nat.sub_zero, Nat.zero_le, true_and, and_true, Nat.reduceAdd, Nat.reduceLeDiff]
      exact ⟨fun _ => ih h8 _ F8 M8, fun e => absurd (Int.le_refl _) e⟩
    · rw [sumTo_s, ← Int.add_assoc] at ih2
      obtain ⟨mi0, mi1⟩ := hm i
      have yes : prC f nz o c i = 1 → en_V G Y_X11_pairs (d + 5) wN wN K 28 [.ref 110, .int (iI o), .int (iI (sumTo c (fun c => sumTo c (prC f nz o c)) + sumTo i (prC f nz o c) + 1)), .int (iI c), .int (iI ((i : Int) + 1))] [] h8 hl hr xc xs := fun z => by rw [z] at ih2; exact ih2
      have no : prC f nz o c i = 0 → en_V G Y_X11_pairs (d + 5) wN wN K 28 [.ref 110, .int (iI o), .int (iI (sumTo c (fun c => sumTo c (prC f nz o c)) + sumTo i (prC f nz o c) + 0)), .int (iI c), .int (iI ((i : Int) + 1))] [] h8 hl hr xc xs := fun z => by rw [z] at ih2; exact ih2
      apply s_X11_pairs_28
      simp (disch := omega) only [B_X11_pairs_28, r32, sh110, lt110, sh131, lt131, en_ops, en_opc, iI_add, iI_mul, iI_sub, jL_add, jL_mul, iI_le, iI_lt, iI_eq, iI_eq0, iI_lt0, iI_0le, iI_le0, iI_0lt, jL_iI, iI_jL, lc_eq, lc_lt, lc_le, lc_ge, lc_gt, Nat.sub_zero, Nat.zero_le, true_and, and_true, Nat.reduceAdd, Nat.reduceLeDiff]
      refine ⟨fun e => by omega, fun _ => ⟨i, rfl, by omega, ?_⟩⟩
      rw [M8 i (by omega)]
      simp (disch := omega) only [r32, sh110, lt110, sh131, lt131, en_ops, en_opc, iI_add, iI_mul, iI_sub, jL_add, jL_mul, iI_le, iI_lt, iI_eq, iI_eq0, iI_lt0, iI_0le, iI_le0, iI_0lt, jL_iI, iI_jL, lc_eq, lc_lt, lc_le, lc_ge, lc_gt, Nat.sub_zero, Nat.zero_le, true_and, and_true, Nat.reduceAdd, Nat.reduceLeDiff]
      refine ⟨fun e => no (if_neg (fun g => g.1 e)), fun e => ⟨c, rfl, by omega, ?_⟩⟩
      rw [M8 c (by omega)]
      simp (disch := omega) only [r32, sh110, lt110, sh131, lt131, en_ops, en_opc, iI_add, iI_mul, iI_sub, jL_add, jL_mul, iI_le, iI_lt, iI_eq, iI_eq0, iI_lt0, iI_0le, iI_le0, iI_0lt, jL_iI, iI_jL, lc_eq, lc_lt, lc_le, lc_ge, lc_gt, Nat.sub_zero, Nat.zero_le, true_and, and_true, Nat.reduceAdd, Nat.reduceLeDiff]
      refine ⟨fun e2 => no (if_neg (fun g => g.2.1 e2)), fun e2 => ⟨fun e3 => yes (if_pos ⟨e, e2, Or.inl e3⟩), fun e3 => ⟨c, rfl, by omega, i, rfl, by omega, ?_⟩⟩⟩
      rw [M8 c (by omega), M8 i (by omega)]
      simp (disch := omega) only [en_ops, en_opc, iI_add, iI_mul, iI_sub, jL_add, jL_mul, iI_le, iI_lt, iI_eq, iI_eq0, iI_lt0, iI_0le, iI_le0, iI_0lt, jL_iI, iI_jL, lc_eq, lc_lt, lc_le, lc_ge, lc_gt, Nat.sub_zero, Nat.zero_le, true_and, and_true, Nat.reduceAdd, Nat.reduceLeDiff]
      exact ⟨fun e4 => no (if_neg (fun g => by omega)), fun e4 => yes (if_pos ⟨e, e2, Or.inr (by omega)⟩)⟩
theorem m_isKnown {c : Nat} (hR : rfR hr) (hs : rfH f hi) (hb : rfB b hi) (hn : rfN nc nz b) (hB : fB nc nz f) (hc : c < nc)
    (H : K (.inl (some (.int (iI (knI f nc nz c))))) hi hl hr) : en_Call G (d + 6) xc xs Y_X11_isKnown wN wN [.ref 110, .int (iI (c : Int))] hi hl hr K := by
  obtain ⟨n0, n1, n12, n6⟩ := id hn
  obtain ⟨⟨-, -, r10, -, r12, -⟩, -⟩ := id hR
  have e0 : hi 113 0 = iI nc := by rw [hb 0 (by omega), n0]
  have sr := fun c => sdP_r (c := c) hB n6
  obtain ⟨sc0, sc1⟩ := sr c
  have hk : knI f nc nz c = if sdP f nz c ≠ -1 ∧ sumTo nc (eqS f nz c) = 1 then 1 else 0 := rfl
  have eqr : ∀ o, 0 ≤ eqS f nz c o := fun o => by unfold eqS; split <;> omega
  have eqc : eqS f nz c c = 1 := if_pos rfl
  apply en_X11_isKnown
  simp (disch := omega) only [B_X11_isKnown_0, sh110, lt110, en_ops, en_opc, iI_add, iI_mul, iI_sub, jL_add, jL_mul, iI_le, iI_lt, iI_eq, iI_eq0, iI_lt0, iI_0le, iI_le0, iI_0lt, jL_iI, iI_jL, lc_eq, lc_lt, lc_le, lc_ge, lc_gt, Nat.sub_zero, Nat.zero_le, true_and, and_true, Nat.reduceAdd, Nat.reduceLeDiff]
  refine m_soundOf (d := d) hR hs hb hn hB (by omega) ?_
  simp (disch := omega) only [en_ops, en_opc, iI_add, iI_mul, iI_sub, jL_add, jL_mul, iI_le, iI_lt, iI_eq, iI_eq0, iI_lt0, iI_0le, iI_le0, iI_0lt, jL_iI, iI_jL, lc_eq, lc_lt, lc_le, lc_ge, lc_gt, Nat.sub_zero, Nat.zero_le, true_and, and_true, Nat.reduceAdd, Nat.reduceLeDiff]
  refine ⟨fun e => ?_, fun e => ⟨rfl, ?_⟩⟩
  · suffices L : ∀ o : Nat, o ≤ nc → (∀ j, j < o → j ≠ c → sdP f nz j ≠ sdP f nz c) → en_V G Y_X11_isKnown (d + 6) wN wN K 13 [.ref 110, .int (iI (c : Int)), .int (iI o)] [] hi hl hr xc xs from L 0 (by omega) (fun j hj => by omega)
    refine lp nc (fun hne => ?_) (fun o ho ih hne => ?_)
    · have : sumTo nc (eqS f nz c) = 1 := by rw [sumTo_one (f := eqS f nz c) hc (fun i h1 h2 => if_neg (hne i h1 h2)), eqc]
      rw [hk, if_pos ⟨e, this⟩] at H
      apply s_X11_isKnown_13
      simp (disch := omega) only [B_X11_isKnown_13, r10, sh110, lt110, sh113, lt113, en_ops, en_opc, iI_add, iI_mul, iI_sub, jL_add, jL_mul, iI_le, iI_lt, iI_eq, iI_eq0, iI_lt0, iI_0le, iI_le0, iI_0lt, jL_iI, iI_jL, lc_eq, lc_lt, lc_le, lc_ge, lc_gt, Nat.sub_zero, Nat.zero_le, true_and, and_true, Nat.reduceAdd, Nat.reduceLeDiff]
      refine ⟨0, rfl, by decide, ?_⟩
      rw [e0]
      simp (disch := omega) only [en_ops, en_opc, iI_add, iI_mul, iI_sub, jL_add, jL_mul, iI_le, iI_lt, iI_eq, iI_eq0, iI_lt0, iI_0le, iI_le0, iI_0lt, jL_iI, iI_jL, lc_eq, lc_lt, lc_le, lc_ge, lc_gt, Nat.sub_zero, Nat.zero_le, true_and, and_true, Nat.reduceAdd, Nat.reduceLeDiff]
      exact ⟨fun _ => ⟨rfl, H⟩, fun e => absurd (Int.le_refl _) e⟩
    · obtain ⟨so0, so1⟩ := sr o
      apply s_X11_isKnown_13
      simp (disch := omega) only [B_X11_isKnown_13, r10, sh110, lt110, sh113, lt113, en_ops, en_opc, iI_add, iI_mul, iI_sub, jL_add, jL_mul, iI_le, iI_lt, iI_eq, iI_eq0, iI_lt0, iI_0le, iI_le0, iI_0lt, jL_iI, iI_jL, lc_eq, lc_lt, lc_le, lc_ge, lc_gt, Nat.sub_zero, Nat.zero_le, true_and, and_true, Nat.reduceAdd, Nat.reduceLeDiff]
      refine ⟨0, rfl, by decide, ?_⟩
      rw [e0]
      simp (disch := omega) only [en_ops, en_opc, iI_add, iI_mul, iI_sub, jL_add, jL_mul, iI_le, iI_lt, iI_eq, iI_eq0, iI_lt0, iI_0le, iI_le0, iI_0lt, jL_iI, iI_jL, lc_eq, lc_lt, lc_le, lc_ge, lc_gt, Nat.sub_zero, Nat.zero_le, true_and, and_true, Nat.reduceAdd, Nat.reduceLeDiff]
      refine ⟨fun e => by omega, fun _ => ⟨fun e2 => ih (fun j hj hjc => hne j (by omega) hjc), fun e2 => m_soundOf (d := d) hR hs hb hn hB (by omega) ?_⟩⟩
      simp (disch := omega) only [sh110, lt110, en_ops, en_opc, iI_add, iI_mul, iI_sub, jL_add, jL_mul, iI_le, iI_lt, iI_eq, iI_eq0, iI_lt0, iI_0le, iI_le0, iI_0lt, jL_iI, iI_jL, lc_eq, lc_lt, lc_le, lc_ge, lc_gt, Nat.sub_zero, Nat.zero_le, true_and, and_true, Nat.reduceAdd, Nat.reduceLeDiff]
      refine m_soundOf (d := d) hR hs hb hn hB (by omega) ?_
      simp (disch := omega) only [en_ops, en_opc, iI_add, iI_mul, iI_sub, jL_add, jL_mul, iI_le, iI_lt, iI_eq, iI_eq0, iI_lt0, iI_0le, iI_le0, iI_0lt, jL_iI, iI_jL, lc_eq, lc_lt, lc_le, lc_ge, lc_gt, Nat.sub_zero, Nat.zero_le, true_and, and_true, Nat.reduceAdd, Nat.reduceLeDiff]
      refine ⟨fun e3 => ih (fun j hj hjc => ?_), fun e3 => ⟨rfl, ?_⟩⟩
      · by_cases g : j = o
        · subst g; exact e3
        · exact hne j (by omega) hjc
      · have e4 : eqS f nz c o = 1 := if_pos (by omega)
        have : sumTo nc (eqS f nz c) ≠ 1 := fun g => by
          have a1 := sumTo_le (n := nc) (f := fun j => (if j = c then 1 else 0) + (if j = o then 1 else 0)) (g := eqS f nz c) (fun j _ => by
            show (if j = c then (1 : Int) else 0) + (if j = o then 1 else 0) ≤ eqS f nz c j
            by_cases j1 : j = c
            · subst j1; rw [eqc, if_pos rfl, if_neg (by omega)]; decide
            · rw [if_neg j1]
              by_cases j2 : j = o
              · subst j2; rw [e4, if_pos rfl]; decide
              · rw [if_neg j2]; exact eqr j)
          rw [sumTo_add, sumTo_one hc (fun i _ h2 => if_neg h2), sumTo_one ho (fun i _ h2 => if_neg h2), if_pos rfl, if_pos rfl] at a1
          omega
        rw [hk, if_neg (fun g => this g.2)] at H
        exact H
  · rw [hk, if_neg (fun g => g.1 (by omega))] at H
    exact H
theorem m_keeps (hR : rfR hr) (H : ∀ hi', Fr (· = 117) hi hi' → (∀ j, j < 834 → hi' 117 j = hi 115 j) → K (.inl none) hi' hl hr) : en_Call G (d + 1) xc xs Y_X11_keeps wN wN [.ref 110] hi hl hr K := by
  obtain ⟨⟨-, -, -, -, r12, -, r14, -⟩, -⟩ := id hR
  apply en_X11_keeps
  simp (disch := omega) only [B_X11_keeps_0, en_ops, en_opc, iI_add, iI_mul, iI_sub, jL_add, jL_mul, iI_le, iI_lt, iI_eq, iI_eq0, iI_lt0, iI_0le, iI_le0, iI_0lt, jL_iI, iI_jL, lc_eq, lc_lt, lc_le, lc_ge, lc_gt, Nat.sub_zero, Nat.zero_le, true_and, and_true, Nat.reduceAdd, Nat.reduceLeDiff]
  suffices L : ∀ i : Nat, i ≤ 834 → ∀ h9, Fr (· = 117) hi h9 → (∀ j, j < i → h9 117 j = hi 115 j) → en_V G Y_X11_keeps (d + 1) wN wN K 2 [.ref 110, .int (iI i)] [] h9 hl hr xc xs from L 0 (by omega) hi Fr.rf (fun j hj => by omega)
  refine lp 834 (fun h9 F9 A9 => ?_) (fun i hi9 ih h9 F9 A9 => ?_)
  · apply s_X11_keeps_2
    simp (disch := omega) only [B_X11_keeps_2, en_ops, en_opc, iI_add, iI_mul, iI_sub, jL_add, jL_mul, iI_le, iI_lt, iI_eq, iI_eq0, iI_lt0, iI_0le, iI_le0, iI_0lt, jL_iI, iI_jL, lc_eq, lc_lt, lc_le, lc_ge, lc_gt, Nat.sub_zero, Nat.zero_le, true_and, and_true, Nat.reduceAdd, Nat.reduceLeDiff]
    exact ⟨fun _ => H h9 F9 A9, fun e => absurd (show (834 : Int) ≤ ((834 : Nat) : Int) by omega) e⟩
  · apply s_X11_keeps_2
    simp (disch := omega) only [B_X11_keeps_2, r12, r14, sh110, lt110, sh115, lt115, sh117, lt117, en_ops, en_opc, iI_add, iI_mul, iI_sub, jL_add, jL_mul, iI_le, iI_lt, iI_eq, iI_eq0, iI_lt0, iI_0le, iI_le0, iI_0lt, jL_iI, iI_jL, lc_eq, lc_lt, lc_le, lc_ge, lc_gt, Nat.sub_zero, Nat.zero_le, true_and, and_true, Nat.reduceAdd, Nat.reduceLeDiff]
    refine ⟨fun e => by omega, fun _ => ⟨i, rfl, by omega, i, rfl, by omega, ih _ (Fr.up F9 (by rfl)) (fun j hj => ?_)⟩⟩
    by_cases e : j = i
    · subst e; rw [up_at, F9 115 (by decide)]
    · rw [up_ne (Or.inr e)]; exact A9 j (by omega)
theorem m_comesBack (hR : rfR hr) (H : ∀ hi', Fr (· = 115) hi hi' → (∀ j, j < 834 → hi' 115 j = hi 117 j) → K (.inl none) hi' hl hr) : en_Call G (d + 1) xc xs Y_X11_comesBack wN wN [.ref 110] hi hl hr K := by
  obtain ⟨⟨-, -, -, -, r12, -, r14, -⟩, -⟩ := id hR
  apply en_X11_comesBack
  simp (disch := omega) only [B_X11_comesBack_0, en_ops, en_opc, iI_add, iI_mul, iI_sub, jL_add, jL_mul, iI_le, iI_lt, iI_eq, iI_eq0, iI_lt0, iI_0le, iI_le0, iI_0lt, jL_iI, iI_jL, lc_eq, lc_lt, lc_le, lc_ge, lc_gt, Nat.sub_zero, Nat.zero_le, true_and, and_true, Nat.reduceAdd, Nat.reduceLeDiff]
  suffices L : ∀ i : Nat, i ≤ 834 → ∀ h9, Fr (· = 115) hi h9 → (∀ j, j < i → h9 115 j = hi 117 j) → en_V G Y_X11_comesBack (d + 1) wN wN K 2 [.ref 110, .int (iI i)] [] h9 hl hr xc xs from L 0 (by omega) hi Fr.rf (fun j hj => by omega)
  refine lp 834 (fun h9 F9 A9 => ?_) (fun i hi9 ih h9 F9 A9 => ?_)
  · apply s_X11_comesBack_2
    simp (disch := omega) only [B_X11_comesBack_2, en_ops, en_opc, iI_add, iI_mul, iI_sub, jL_add, jL_mul, iI_le, iI_lt, iI_eq, iI_eq0, iI_lt0, iI_0le, iI_le0, iI_0lt, jL_iI, iI_jL, lc_eq, lc_lt, lc_le, lc_ge, lc_gt, Nat.sub_zero, Nat.zero_le, true_and, and_true, Nat.reduceAdd, Nat.reduceLeDiff]
    exact ⟨fun _ => H h9 F9 A9, fun e => absurd (show (834 : Int) ≤ ((834 : Nat) : Int) by omega) e⟩
  · apply s_X11_comesBack_2
    simp (disch := omega) only [B_X11_comesBack_2, r12, r14, sh110, lt110, sh115, lt115, sh117, lt117, en_ops, en_opc, iI_add, iI_mul, iI_sub, jL_add, jL_mul, iI_le, iI_lt, iI_eq, iI_eq0, iI_lt0, iI_0le, iI_le0, iI_0lt, jL_iI, iI_jL, lc_eq, lc_lt, lc_le, lc_ge, lc_gt, Nat.sub_zero, Nat.zero_le, true_and, and_true, Nat.reduceAdd, Nat.reduceLeDiff]
    refine ⟨fun e => by omega, fun _ => ⟨i, rfl, by omega, i, rfl, by omega, ih _ (Fr.up F9 (by rfl)) (fun j hj => ?_)⟩⟩
    by_cases e : j = i
    · subst e; rw [up_at, F9 117 (by decide)]
    · rw [up_ne (Or.inr e)]; exact A9 j (by omega)
theorem m_oversNow {ov : Nat → Int} (hR : rfR hr) (hb : rfB b hi) (hn : rfN nc nz b) (ho : ∀ c, c < 12 → hi 115 (600 + c) = iI (ov c)) (H : K (.inl (some (.int (iI (sumTo nc ov))))) hi hl hr) : en_Call G (d + 1) xc xs Y_X11_oversNow wN wN [.ref 110] hi hl hr K := by
  obtain ⟨n0, n1, n12, n6⟩ := id hn
  obtain ⟨⟨-, -, r10, -, r12, -⟩, -⟩ := id hR
  have e0 : hi 113 0 = iI nc := by rw [hb 0 (by omega), n0]
  apply en_X11_oversNow
  simp (disch := omega) only [B_X11_oversNow_0, en_ops, en_opc, iI_add, iI_mul, iI_sub, jL_add, jL_mul, iI_le, iI_lt, iI_eq, iI_eq0, iI_lt0, iI_0le, iI_le0, iI_0lt, jL_iI, iI_jL, lc_eq, lc_lt, lc_le, lc_ge, lc_gt, Nat.sub_zero, Nat.zero_le, true_and, and_true, Nat.reduceAdd, Nat.reduceLeDiff]
  suffices L : ∀ c : Nat, c ≤ nc → en_V G Y_X11_oversNow (d + 1) wN wN K 4 [.ref 110, .int (iI (sumTo c ov)), .int (iI c)] [] hi hl hr xc xs from L 0 (by omega)
  refine lp nc ?_ (fun c hc ih => ?_)
  · apply s_X11_oversNow_4
    simp (disch := omega) only [B_X11_oversNow_4, r10, sh110, lt110, sh113, lt113, en_ops, en_opc, iI_add, iI_mul, iI_sub, jL_add, jL_mul, iI_le, iI_lt, iI_eq, iI_eq0, iI_lt0, iI_0le, iI_le0, iI_0lt, jL_iI, iI_jL, lc_eq, lc_lt, lc_le, lc_ge, lc_gt, Nat.sub_zero, Nat.zero_le, true_and, and_true, Nat.reduceAdd, Nat.reduceLeDiff]
    refine ⟨0, rfl, by decide, ?_⟩
    rw [e0]
    simp (disch := omega) only [en_ops, en_opc, iI_add, iI_mul, iI_sub, jL_add, jL_mul, iI_le, iI_lt, iI_eq, iI_eq0, iI_lt0, iI_0le, iI_le0, iI_0lt, jL_iI, iI_jL, lc_eq, lc_lt, lc_le, lc_ge, lc_gt, Nat.sub_zero, Nat.zero_le, true_and, and_true, Nat.reduceAdd, Nat.reduceLeDiff]
    exact ⟨fun _ => H, fun e => absurd (Int.le_refl _) e⟩
  · rw [sumTo_s] at ih
    apply s_X11_oversNow_4
    simp (disch := omega) only [B_X11_oversNow_4, r10, r12, sh110, lt110, sh113, lt113, sh115, lt115, en_ops, en_opc, iI_add, iI_mul, iI_sub, jL_add, jL_mul, iI_le, iI_lt, iI_eq, iI_eq0, iI_lt0, iI_0le, iI_le0, iI_0lt, jL_iI, iI_jL, lc_eq, lc_lt, lc_le, lc_ge, lc_gt, Nat.sub_zero, Nat.zero_le, true_and, and_true, Nat.reduceAdd, Nat.reduceLeDiff]
    refine ⟨0, rfl, by decide, ?_⟩
    rw [e0]
    simp (disch := omega) only [en_ops, en_opc, iI_add, iI_mul, iI_sub, jL_add, jL_mul, iI_le, iI_lt, iI_eq, iI_eq0, iI_lt0, iI_0le, iI_le0, iI_0lt, jL_iI, iI_jL, lc_eq, lc_lt, lc_le, lc_ge, lc_gt, Nat.sub_zero, Nat.zero_le, true_and, and_true, Nat.reduceAdd, Nat.reduceLeDiff]
    refine ⟨fun e => by omega, fun _ => ⟨600 + c, iI_eq_of (by omega), by omega, ?_⟩⟩
    rw [ho c (by omega), iI_add]
    exact ih
theorem m_farOf {m : Nat → Nat → Int} (hR : rfR hr) (hs : rfH f hi) (hb : rfB b hi) (hn : rfN nc nz b) (hB : fB nc nz f) (hm : ∀ c z, c < 12 → z < 6 → hi 115 (641 + 8 * c + z) = iI (m c z) ∧ -1 ≤ m c z ∧ m c z ≤ 999999)
    (H : K (.inl (some (.long (jL (apP f m nc nz))))) hi hl hr) : en_Call G (d + 3) xc xs Y_X11_farOf wN wN [.ref 110] hi hl hr K := by
  obtain ⟨n0, n1, n12, n6⟩ := id hn
  obtain ⟨⟨-, -, r10, -, r12, -⟩, -⟩ := id hR
  have e0 : hi 113 0 = iI nc := by rw [hb 0 (by omega), n0]
  have e1 : hi 113 1 = iI nz := by rw [hb 1 (by omega), n1]
  have rI : ∀ c, c < 12 → ∀ z, z < 6 → 0 ≤ apI f m c z ∧ apI f m c z ≤ 11000000 := fun c hc z hz => apI_r hB n6 hc (hm c z hc hz).2
  have rz : ∀ c, c < 12 → ∀ k, k ≤ 6 → 0 ≤ sumTo k (apI f m c) ∧ sumTo k (apI f m c) ≤ 66000000 := fun c hc k hk => by
    have := sumTo_bd (n := k) (g := apI f m c) (b := 11000000) (fun z hz => rI c hc z (by omega))
    omega
  have rc : ∀ c, c ≤ nc → 0 ≤ sumTo c (fun c => sumTo nz (apI f m c)) ∧ sumTo c (fun c => sumTo nz (apI f m c)) ≤ 800000000 := fun c hc => by
    have := sumTo_bd (n := c) (g := fun c => sumTo nz (apI f m c)) (b := 66000000) (fun c' hc' => rz c' (by omega) nz n6)
    omega
  apply en_X11_farOf
  simp (disch := omega) only [B_X11_farOf_0, en_ops, en_opc, iI_add, iI_mul, iI_sub, jL_add, jL_mul, iI_le, iI_lt, iI_eq, iI_eq0, iI_lt0, iI_0le, iI_le0, iI_0lt, jL_iI, iI_jL, lc_eq, lc_lt, lc_le, lc_ge, lc_gt, Nat.sub_zero, Nat.zero_le, true_and, and_true, Nat.reduceAdd, Nat.reduceLeDiff]
  suffices L : ∀ c : Nat, c ≤ nc → ∀ x4 x5 x6 : Value, en_V G Y_X11_farOf (d + 3) wN wN K 4 [.ref 110, .long (jL (sumTo c (fun c => sumTo nz (apI f m c)))), jk, .int (iI c), x4, x5, x6] [] hi hl hr xc xs from L 0 (by omega) _ _ _
  refine lp nc (fun x4 x5 x6 => ?_) (fun c hc ih x4 x5 x6 => ?_)
  · apply s_X11_farOf_4
    simp (disch := omega) only [B_X11_farOf_4, r10, sh110, lt110, sh113, lt113, en_ops, en_opc, iI_add, iI_mul, iI_sub, jL_add, jL_mul, iI_le, iI_lt, iI_eq, iI_eq0, iI_lt0, iI_0le, iI_le0, iI_0lt, jL_iI, iI_jL, lc_eq, lc_lt, lc_le, lc_ge, lc_gt, Nat.sub_zero, Nat.zero_le, true_and, and_true, Nat.reduceAdd, Nat.reduceLeDiff]
    refine ⟨0, rfl, by decide, ?_⟩
    rw [e0]
    simp (disch := omega) only [en_ops, en_opc, iI_add, iI_mul, iI_sub, jL_add, jL_mul, iI_le, iI_lt, iI_eq, iI_eq0, iI_lt0, iI_0le, iI_le0, iI_0lt, jL_iI, iI_jL, lc_eq, lc_lt, lc_le, lc_ge, lc_gt, Nat.sub_zero, Nat.zero_le, true_and, and_true, Nat.reduceAdd, Nat.reduceLeDiff]
    exact ⟨fun _ => H, fun e => absurd (Int.le_refl _) e⟩
  · rw [sumTo_s] at ih
    apply s_X11_farOf_4
    simp (disch := omega) only [B_X11_farOf_4, r10, sh110, lt110, sh113, lt113, en_ops, en_opc, iI_add, iI_mul, iI_sub, jL_add, jL_mul, iI_le, iI_lt, iI_eq, iI_eq0, iI_lt0, iI_0le, iI_le0, iI_0lt, jL_iI, iI_jL, lc_eq, lc_lt, lc_le, lc_ge, lc_gt, Nat.sub_zero, Nat.zero_le, true_and, and_true, Nat.reduceAdd, Nat.reduceLeDiff]
    refine ⟨0, rfl, by decide, ?_⟩
    rw [e0]
    simp (disch := omega) only [en_ops, en_opc, iI_add, iI_mul, iI_sub, jL_add, jL_mul, iI_le, iI_lt, iI_eq, iI_eq0, iI_lt0, iI_0le, iI_le0, iI_0lt, jL_iI, iI_jL, lc_eq, lc_lt, lc_le, lc_ge, lc_gt, Nat.sub_zero, Nat.zero_le, true_and, and_true, Nat.reduceAdd, Nat.reduceLeDiff]
    refine ⟨fun e => by omega, fun _ => ?_⟩
    suffices L2 : ∀ z : Nat, z ≤ nz → ∀ x5 x6 : Value, en_V G Y_X11_farOf (d + 3) wN wN K 17 [.ref 110, .long (jL (sumTo c (fun c => sumTo nz (apI f m c)) + sumTo z (apI f m c))), jk, .int (iI c), .int (iI z), x5, x6] [] hi hl hr xc xs by
      have := L2 0 (by omega) x5 x6
      rw [sumTo_z, Int.add_zero] at this
      exact this
    refine lp nz (fun x5 x6 => ?_) (fun z hz ih2 x5 x6 => ?_)
    · apply s_X11_farOf_17
      simp (disch := omega) only [B_X11_farOf_17, r10, sh110, lt110, sh113, lt113, en_ops, en_opc, iI_add, iI_mul, iI_sub, jL_add, jL_mul, iI_le, iI_lt, iI_eq, iI_eq0, iI_lt0, iI_0le, iI_le0, iI_0lt, jL_iI, iI_jL, lc_eq, lc_lt, lc_le, lc_ge, lc_gt, Nat.sub_zero, Nat.zero_le, true_and, and_true, Nat.reduceAdd, Nat.reduceLeDiff]
      refine ⟨1, rfl, by decide, ?_⟩
      rw [e1]
      simp (disch := omega) only [en_ops, en_opc, iI_add, iI_mul, iI_sub, jL_add, jL_mul, iI_le, iI_lt, iI_eq, iI_eq0, iI_lt0, iI_0le, iI_le0, iI_0lt, jL_iI, iI_jL, lc_eq, lc_lt, lc_le, lc_ge, lc_gt, Nat.sub_zero, Nat.zero_le, true_and, and_true, Nat.reduceAdd, Nat.reduceLeDiff]
      exact ⟨fun _ => ih _ _ _, fun e => absurd (Int.le_refl _) e⟩
    · obtain ⟨m1, m2, m3⟩ := hm c z (by omega) (by omega)
      have a0 := aP_nn hB c z
      have a1 := Int.le_trans (aP_le hB n6 (show c < 12 by omega) z) (wP_le hB n6 (by omega))
      have g1 := rc c (by omega)
      have g2 := rz c (by omega) z (by omega)
      rw [sumTo_s, ← Int.add_assoc] at ih2
      apply s_X11_farOf_17
      simp (disch := omega) only [B_X11_farOf_17, r10, r12, sh110, lt110, sh113, lt113, sh115, lt115, en_ops, en_opc, iI_add, iI_mul, iI_sub, jL_add, jL_mul, iI_le, iI_lt, iI_eq, iI_eq0, iI_lt0, iI_0le, iI_le0, iI_0lt, jL_iI, iI_jL, lc_eq, lc_lt, lc_le, lc_ge, lc_gt, Nat.sub_zero, Nat.zero_le, true_and, and_true, Nat.reduceAdd, Nat.reduceLeDiff]
      refine ⟨1, rfl, by decide, ?_⟩
      rw [e1]
      simp (disch := omega) only [en_ops, en_opc, iI_add, iI_mul, iI_sub, jL_add, jL_mul, iI_le, iI_lt, iI_eq, iI_eq0, iI_lt0, iI_0le, iI_le0, iI_0lt, jL_iI, iI_jL, lc_eq, lc_lt, lc_le, lc_ge, lc_gt, Nat.sub_zero, Nat.zero_le, true_and, and_true, Nat.reduceAdd, Nat.reduceLeDiff]
      refine ⟨fun e => by omega, fun _ => ⟨641 + 8 * c + z, iI_eq_of (by omega), by omega, ?_⟩⟩
      rw [m1]
      simp (disch := omega) only [sh110, lt110, en_ops, en_opc, iI_add, iI_mul, iI_sub, jL_add, jL_mul, iI_le, iI_lt, iI_eq, iI_eq0, iI_lt0, iI_0le, iI_le0, iI_0lt, jL_iI, iI_jL, lc_eq, lc_lt, lc_le, lc_ge, lc_gt, Nat.sub_zero, Nat.zero_le, true_and, and_true, Nat.reduceAdd, Nat.reduceLeDiff]
      refine ⟨fun e => m_all (d := d) hR hs (by omega) (by omega) ?_, fun e => ?_⟩
      · have ez : apI f m c z = if m c z - aP f c z < 0 then -(m c z - aP f c z) else m c z - aP f c z := if_neg e
        rw [ez] at ih2
        simp (disch := omega) only [en_ops, en_opc, iI_add, iI_mul, iI_sub, jL_add, jL_mul, iI_le, iI_lt, iI_eq, iI_eq0, iI_lt0, iI_0le, iI_le0, iI_0lt, jL_iI, iI_jL, lc_eq, lc_lt, lc_le, lc_ge, lc_gt, Nat.sub_zero, Nat.zero_le, true_and, and_true, Nat.reduceAdd, Nat.reduceLeDiff]
        refine ⟨fun e2 => ?_, fun e2 => ?_⟩
        · by_cases e3 : m c z - aP f c z < 0
          · rw [if_pos e3, show -(m c z - aP f c z) = aP f c z - m c z by omega] at ih2
            exact ih2 _ _
          · rw [if_neg e3, show m c z - aP f c z = aP f c z - m c z by omega] at ih2
            exact ih2 _ _
        · rw [if_neg (by omega), show m c z - aP f c z = -(aP f c z - m c z) by omega] at ih2
          rw [iI_neg]
          simp (disch := omega) only [en_ops, en_opc, iI_add, iI_mul, iI_sub, jL_add, jL_mul, iI_le, iI_lt, iI_eq, iI_eq0, iI_lt0, iI_0le, iI_le0, iI_0lt, jL_iI, iI_jL, lc_eq, lc_lt, lc_le, lc_ge, lc_gt, Nat.sub_zero, Nat.zero_le, true_and, and_true, Nat.reduceAdd, Nat.reduceLeDiff]
          exact ih2 _ _
      · have ez : apI f m c z = 0 := if_pos (by omega)
        rw [ez, Int.add_zero] at ih2
        exact ih2 _ _
end
