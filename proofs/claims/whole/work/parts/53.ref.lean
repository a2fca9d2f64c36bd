section
variable {nc nz : Nat} {f : Nat → Nat → Nat → Int}
def loOK (nc nl : Nat) (lo : Nat → Nat × Nat × Int × Int) : Prop := nl ≤ 4 ∧ ∀ i, i < nl → (lo i).1 < nc ∧ (lo i).2.1 ≤ nc ∧ (lo i).1 ≠ (lo i).2.1 ∧ (1 ≤ (lo i).2.2.1 ∧ (lo i).2.2.1 ≤ 999) ∧ 1 ≤ (lo i).2.2.2 ∧ (lo i).2.2.2 ≤ 99
theorem loH.ok {pl nl nc : Nat} {lo : Nat → Nat × Nat × Int × Int} {hi : en_I} (h : loH pl nl nc lo hi) : loOK nc nl lo := ⟨h.2.1, fun i hi9 => by obtain ⟨-, -, -, -, g⟩ := h.2.2 i hi9; exact g⟩
theorem drP_B {nl : Nat} {lo : Nat → Nat × Nat × Int × Int} {h : Int} (hlo : loOK nc nl lo) (hnc : nc ≤ 12) (hnz : nz ≤ 6) (hB : fB nc nz f) : ∀ i, i ≤ nl → fB nc nz (drP nc nz lo h f i).1 ∧ tot (drP nc nz lo h f i).1 ≤ tot f := by
  intro i
  induction i with
  | zero => exact fun _ => ⟨hB, Int.le_refl _⟩
  | succ i ih =>
    intro hi9
    obtain ⟨i1, i2⟩ := ih (by omega)
    obtain ⟨t5, t6, t7, ⟨t8, t9⟩, t10, t11⟩ := hlo.2 i (by omega)
    rw [drP_s]
    split
    · obtain ⟨z1, z2, z3, z4⟩ := haP_B (n := (lo i).2.2.1) (by omega) t7 t5 t6 hnc hnz i1 (nz * 3) (Nat.le_refl _)
      exact ⟨z1, Int.le_trans z2 i2⟩
    · exact ⟨i1, i2⟩
theorem hOK_hr {E : hEnv} {q : hSt} {w : Int × Int × Int} (hE : eOK E) (hlo : loOK E.2.1 E.2.2.2.2.2.2.2 E.2.2.2.2.2.2.1) (hnc : E.2.1 ≤ 12) (hnz : E.2.2.1 ≤ 6) (hO : hOK E q) (hlt : q.2.2.2.2.2 < 600) : hOK E (hrP E w q) := by
  obtain ⟨e1, e2, e3⟩ := hE
  obtain ⟨o1, o2, o3, o4, o5⟩ := hO
  have B1 := f1_B (V := E.1) (he := w.1) (bt := w.2.1) (fr := w.2.2) (cr := q.2.1) o1 e2 hnc
  have T1 := f1_tot (V := E.1) (he := w.1) (bt := w.2.1) (fr := w.2.2) (cr := q.2.1) o1 e2 hnc (E.2.1 * 18) (Nat.le_refl _)
  have B2 := f2_B (V := E.1) (he := w.1) (bt := w.2.1) (fr := w.2.2) (cr := q.2.1) B1 E.2.1
  have T2 : tot (f2P E.1 w.1 w.2.1 w.2.2 q.2.1 (f1P E.1 q.1 E.2.1 E.2.2.1 E.2.2.2.1 w.1 w.2.1 w.2.2 q.2.1 (E.2.1 * 18)) E.2.1) ≤ tot q.1 := Int.le_trans (tot_le (fun c z k _ _ _ => (f2_le B1 _ c z k).2)) T1
  have B3 := spF_B hnc hnz e3 B2 (by omega)
  have T3 := spF_tot (f := f2P E.1 w.1 w.2.1 w.2.2 q.2.1 (f1P E.1 q.1 E.2.1 E.2.2.1 E.2.2.2.1 w.1 w.2.1 w.2.2 q.2.1 (E.2.1 * 18)) E.2.1) hnc hnz e3
  have N3 := spN_r e3 _ (Nat.le_refl _)
  have N8 := e3.1
  obtain ⟨D1, D2⟩ := drP_B (h := q.2.2.2.2.2 + 1) hlo hnc hnz B3 _ (Nat.le_refl _)
  refine ⟨D1, ?_, fun c hc => ?_, ?_, ?_⟩
  · show tot _ ≤ 5190000 + 7992 * (q.2.2.2.2.2 + 1)
    refine Int.le_trans D2 ?_
    omega
  · have c9 := o3 c hc
    show 1 ≤ cr2 _ _ _ _ _ _ _ ∧ cr2 _ _ _ _ _ _ _ ≤ 1000
    unfold cr2 loP
    split
    · split <;> omega
    · exact c9
  · show 0 ≤ q.2.2.2.2.2 + 1; omega
  · show q.2.2.2.2.2 + 1 ≤ 600; omega
theorem goS_24 (hB : fB nc nz f) (hnz : nz ≤ 6) (c : Nat) : goS f c 24 = goS f c 18 := sumTo_part (by omega) (fun i h1 h2 => by rw [hB.2.1 c (i / 3) (i % 3) (by omega)]; rfl)
end
section
variable {G : en_G} {d : Nat} {K : en_K} {nc nz : Nat} {b : Nat → Int} {f : Nat → Nat → Nat → Int} {hi : en_I} {hl : en_L} {hr : en_F} {xc xs : Nat}
variable {V : Nat → (Nat → Int) → Int} {he bt fr v : Int} {cr ov : Nat → Int}
def Pos (x : Nat) : Prop := x = 115 ∨ x = 123 ∨ x = 124
theorem Pos.n : ∀ x, 119 ≤ x → x ≤ 122 → ¬ Pos x := fun x h1 h2 g => by unfold Pos at g; omega
def ovR (V : Nat → (Nat → Int) → Int) (f : Nat → Nat → Nat → Int) (he bt fr : Int) (cr ov : Nat → Int) (v : Int) (hi0 : en_I) (n : Nat) (hi : en_I) : Prop :=
  Fr Pos hi0 hi ∧ rfH (f2P V he bt fr cr f n) hi ∧ rfJ hi ∧ hi 115 628 = iI (v + bhP V he bt fr cr f n) ∧ (∀ c, c < 12 → hi 115 (576 + c) = iI (cr2 V he bt fr cr n c)) ∧ (∀ c, c < 12 → hi 115 (600 + c) = iI (ov2 V he bt fr cr ov n c)) ∧ ∀ j, 624 ≤ j → j ≠ 628 → hi 115 j = hi0 115 j
theorem m_overs {l : Nat} (hR : rfR hr) (hs : rfH f hi) (hJ : rfJ hi) (hb : rfB b hi) (hn : rfN nc nz b) (hB : fB nc nz f) (hcr : ∀ c, c < 12 → hi 115 (576 + c) = iI (cr c)) (hcr0 : ∀ c, c < 12 → 1 ≤ cr c ∧ cr c ≤ 1000) (hov : ∀ c, c < 12 → hi 115 (600 + c) = iI (ov c)) (hV : rwV G l V hi) (hVr : ∀ w nm, -2147483648 ≤ V w nm ∧ V w nm < 2147483648) (hv : hi 115 628 = iI v)
    (H : ∀ hi', ovR V f he bt fr cr ov v hi nc hi' → K (.inl none) hi' hl hr) :
    en_Call G (d + 2) xc xs Y_X11_overs wN wN [.ref 110, .int (iI l), .int (iI he), .int (iI bt), .int (iI fr)] hi hl hr K := by
  obtain ⟨n0, n1, n12, n6⟩ := id hn
  obtain ⟨⟨-, -, r10, -, r12, -⟩, -⟩ := id hR
  apply en_X11_overs
  simp (disch := omega) only [B_X11_overs_0, en_ops, en_opc, iI_add, iI_mul, iI_sub, jL_add, jL_mul, iI_le, iI_lt, iI_eq, iI_eq0, iI_lt0, iI_0le, iI_le0, iI_0lt, jL_iI, iI_jL, lc_eq, lc_lt, lc_le, lc_ge, lc_gt, Nat.sub_zero, Nat.zero_le, true_and, and_true, Nat.reduceAdd, Nat.reduceLeDiff]
  suffices L : ∀ c : Nat, c ≤ nc → ∀ (h9 : en_I) (x6 x7 : Value), ovR V f he bt fr cr ov v hi c h9 → en_V G Y_X11_overs (d + 2) wN wN K 3 [.ref 110, .int (iI l), .int (iI he), .int (iI bt), .int (iI fr), .int (iI c), x6, x7] [] h9 hl hr xc xs by
    refine L 0 (by omega) hi _ _ ⟨Fr.rf, fun c z k hc hz hk => by rw [hs c z k hc hz hk]; unfold f2P; rw [if_neg (by omega)], hJ, ?_, fun c hc => by rw [hcr c hc]; unfold cr2; rw [if_neg (by omega)], fun c hc => by rw [hov c hc]; unfold ov2; rw [if_neg (by omega)], fun _ _ _ => rfl⟩
    rw [hv]; unfold bhP; rw [sumTo_z, Int.add_zero]
  refine lp nc (fun h9 x6 x7 I9 => ?_) (fun c hc ih h9 x6 x7 I9 => ?_)
  · have e0 : h9 113 0 = iI nc := by rw [I9.1 113 (by unfold Pos; omega), hb 0 (by omega), n0]
    apply s_X11_overs_3
    simp (disch := omega) only [B_X11_overs_3, r10, sh110, lt110, sh113, lt113, en_ops, en_opc, iI_add, iI_mul, iI_sub, jL_add, jL_mul, iI_le, iI_lt, iI_eq, iI_eq0, iI_lt0, iI_0le, iI_le0, iI_0lt, jL_iI, iI_jL, lc_eq, lc_lt, lc_le, lc_ge, lc_gt, Nat.sub_zero, Nat.zero_le, true_and, and_true, Nat.reduceAdd, Nat.reduceLeDiff]
    refine ⟨0, rfl, by decide, ?_⟩
    rw [e0]
    simp (disch := omega) only [en_ops, en_opc, iI_add, iI_mul, iI_sub, jL_add, jL_mul, iI_le, iI_lt, iI_eq, iI_eq0, iI_lt0, iI_0le, iI_le0, iI_0lt, jL_iI, iI_jL, lc_eq, lc_lt, lc_le, lc_ge, lc_gt, Nat.sub_zero, Nat.zero_le, true_and, and_true, Nat.reduceAdd, Nat.reduceLeDiff]
    exact ⟨fun _ => H h9 I9, fun e => absurd (Int.le_refl _) e⟩
  · obtain ⟨i1, i2, i3, i4, i5, i6, i7⟩ := id I9
    have e0 : h9 113 0 = iI nc := by rw [i1 113 (by unfold Pos; omega), hb 0 (by omega), n0]
    have c5 : h9 115 (576 + c) = iI (cr c) := by rw [i5 c (by omega)]; exact iI_eq_of (if_neg (by omega))
    have o6 : h9 115 (600 + c) = iI (ov c) := by rw [i6 c (by omega)]; exact iI_eq_of (if_neg (by omega))
    obtain ⟨v0, v1⟩ := hVr 2 (nmL 0 0 0 0 he bt fr (cr c) c)
    have cc := hcr0 c (by omega)
    apply s_X11_overs_3
    simp (disch := omega) only [B_X11_overs_3, r10, r12, sh110, lt110, sh113, lt113, en_ops, en_opc, iI_add, iI_mul, iI_sub, jL_add, jL_mul, iI_le, iI_lt, iI_eq, iI_eq0, iI_lt0, iI_0le, iI_le0, iI_0lt, jL_iI, iI_jL, lc_eq, lc_lt, lc_le, lc_ge, lc_gt, Nat.sub_zero, Nat.zero_le, true_and, and_true, Nat.reduceAdd, Nat.reduceLeDiff]
    refine ⟨0, rfl, by decide, ?_⟩
    rw [e0]
    simp (disch := omega) only [en_ops, en_opc, iI_add, iI_mul, iI_sub, jL_add, jL_mul, iI_le, iI_lt, iI_eq, iI_eq0, iI_lt0, iI_0le, iI_le0, iI_0lt, jL_iI, iI_jL, lc_eq, lc_lt, lc_le, lc_ge, lc_gt, Nat.sub_zero, Nat.zero_le, true_and, and_true, Nat.reduceAdd, Nat.reduceLeDiff]
    refine ⟨fun e => by omega, fun _ => ?_⟩
    refine m_name hR c5 (by omega) (fun h8 F8 M8 => ?_)
    simp (disch := omega) only [sh110, lt110, en_ops, en_opc, iI_add, iI_mul, iI_sub, jL_add, jL_mul, iI_le, iI_lt, iI_eq, iI_eq0, iI_lt0, iI_0le, iI_le0, iI_0lt, jL_iI, iI_jL, lc_eq, lc_lt, lc_le, lc_ge, lc_gt, Nat.sub_zero, Nat.zero_le, true_and, and_true, Nat.reduceAdd, Nat.reduceLeDiff]
    have F98 : Fr Pos hi h8 := i1.tr (F8.mono (fun x e => Or.inr (Or.inr e)))
    refine hV h8 hl hr _ _ _ _ 2 _ _ (rwE.frm rwE.rf F98 Pos.n) (by omega) (by omega) M8 hR (fun h7 F7 => ?_)
    have F97 : Fr Pos hi h7 := F98.tr (F7.mono (fun x e => Or.inr (Or.inl e)))
    have E7 : h7 115 = h9 115 := by rw [F7 115 (by decide), F8 115 (by decide)]
    simp (disch := omega) only [r12, sh110, lt110, sh115, lt115, en_ops, en_opc, iI_add, iI_mul, iI_sub, jL_add, jL_mul, iI_le, iI_lt, iI_eq, iI_eq0, iI_lt0, iI_0le, iI_le0, iI_0lt, jL_iI, iI_jL, lc_eq, lc_lt, lc_le, lc_ge, lc_gt, Nat.sub_zero, Nat.zero_le, true_and, and_true, Nat.reduceAdd, Nat.reduceLeDiff]
    refine ⟨576 + c, iI_eq_of (by omega), by omega, ?_⟩
    rw [E7, c5]
    simp (disch := omega) only [r12, sh110, lt110, sh115, lt115, en_ops, en_opc, iI_add, iI_mul, iI_sub, jL_add, jL_mul, iI_le, iI_lt, iI_eq, iI_eq0, iI_lt0, iI_0le, iI_le0, iI_0lt, jL_iI, iI_jL, lc_eq, lc_lt, lc_le, lc_ge, lc_gt, Nat.sub_zero, Nat.zero_le, true_and, and_true, Nat.reduceAdd, Nat.reduceLeDiff]
    refine ⟨fun e => ?_, fun e => ?_⟩
    · have yes : ovP V he bt fr cr c := by show _ < _; omega
      refine ⟨600 + c, iI_eq_of (by omega), by omega, 600 + c, iI_eq_of (by omega), by omega, 576 + c, iI_eq_of (by omega), by omega, ?_⟩
      rw [up_ne (Or.inr (by omega)), E7, o6, c5]
      simp (disch := omega) only [en_ops, en_opc, iI_add, iI_mul, iI_sub, jL_add, jL_mul, iI_le, iI_lt, iI_eq, iI_eq0, iI_lt0, iI_0le, iI_le0, iI_0lt, jL_iI, iI_jL, lc_eq, lc_lt, lc_le, lc_ge, lc_gt, Nat.sub_zero, Nat.zero_le, true_and, and_true, Nat.reduceAdd, Nat.reduceLeDiff]
      -- the walk over the cell's heaps
      have L104 : ∀ i : Nat, i ≤ 24 → ∀ (h6 : en_I) (x7 : Value), Fr Pos hi h6 → (∀ j, j < 24 → h6 115 (24 * c + j) = iI (if j < i then f c (j / 3) (j % 3) - f c (j / 3) (j % 3) / 16 else f c (j / 3) (j % 3))) → h6 115 628 = iI (v + bhP V he bt fr cr f c + goS f c i) → (∀ j, (j < 24 * c ∨ 24 * c + 24 ≤ j) → j < 576 → h6 115 j = h9 115 j) → (∀ j, 576 ≤ j → j ≠ 576 + c → j ≠ 600 + c → j ≠ 628 → h6 115 j = h9 115 j) → h6 115 (576 + c) = iI (loP (cr c)) → h6 115 (600 + c) = iI (ov c + 1) → en_V G Y_X11_overs (d + 2) wN wN K 104 [.ref 110, .int (iI l), .int (iI he), .int (iI bt), .int (iI fr), .int (iI c), .int (iI ((24 * c + i : Nat) : Int)), x7] [] h6 hl hr xc xs := by
        refine lp 24 (fun h6 x7 F6 A6 V6 B6 C6 D6 O6 => ?_) (fun i hi9 ih6 h6 x7 F6 A6 V6 B6 C6 D6 O6 => ?_)
        · apply s_X11_overs_104
          simp (disch := omega) only [B_X11_overs_104, en_ops, en_opc, iI_add, iI_mul, iI_sub, jL_add, jL_mul, iI_le, iI_lt, iI_eq, iI_eq0, iI_lt0, iI_0le, iI_le0, iI_0lt, jL_iI, iI_jL, lc_eq, lc_lt, lc_le, lc_ge, lc_gt, Nat.sub_zero, Nat.zero_le, true_and, and_true, Nat.reduceAdd, Nat.reduceLeDiff]
          refine m_stone ?_
          simp (disch := omega) only [en_ops, en_opc, iI_add, iI_mul, iI_sub, jL_add, jL_mul, iI_le, iI_lt, iI_eq, iI_eq0, iI_lt0, iI_0le, iI_le0, iI_0lt, jL_iI, iI_jL, lc_eq, lc_lt, lc_le, lc_ge, lc_gt, Nat.sub_zero, Nat.zero_le, true_and, and_true, Nat.reduceAdd, Nat.reduceLeDiff]
          refine ⟨fun _ => ih h6 _ _ ⟨F6, fun c' z' k' hc' hz' hk' => ?_, fun j j1 j2 => ?_, ?_, fun c' hc' => ?_, fun c' hc' => ?_, fun j j1 j2 => ?_⟩, fun e9 => absurd (show (24 : Int) * ((c : Int) + 1) + 3 * 0 + 0 ≤ ((24 * c + 24 : Nat) : Int) by omega) e9⟩
          · by_cases g : c' = c
            · subst g
              have a9 := A6 (3 * z' + k') (by omega)
              rw [show 24 * c' + (3 * z' + k') = 24 * c' + 3 * z' + k' by omega, if_pos (by omega), show (3 * z' + k') / 3 = z' by omega, show (3 * z' + k') % 3 = k' by omega] at a9
              rw [a9]; unfold f2P; rw [if_pos ⟨by omega, yes⟩]
            · rw [B6 _ (by omega) (by omega), i2 c' z' k' hc' hz' hk']
              unfold f2P
              by_cases g2 : c' < c ∧ ovP V he bt fr cr c'
              · rw [if_pos g2, if_pos ⟨by omega, g2.2⟩]
              · rw [if_neg g2, if_neg (fun g3 => g2 ⟨by omega, g3.2⟩)]
          · by_cases g : j / 24 = c
            · have a9 := A6 (j - 24 * c) (by omega)
              rw [show 24 * c + (j - 24 * c) = j by omega, if_pos (by omega), hB.2.1 c ((j - 24 * c) / 3) _ (by omega)] at a9
              exact a9
            · rw [B6 j (by omega) j1]; exact i3 j j1 j2
          · rw [V6, goS_24 hB n6]
            refine iI_eq_of ?_
            unfold bhP
            rw [sumTo_s, if_pos yes]; omega
          · unfold cr2
            by_cases g : c' = c
            · subst g; rw [D6, if_pos ⟨by omega, yes⟩]
            · rw [C6 _ (by omega) (by omega) (by omega) (by omega), i5 c' hc']
              unfold cr2
              by_cases g2 : c' < c ∧ ovP V he bt fr cr c'
              · rw [if_pos g2, if_pos ⟨by omega, g2.2⟩]
              · rw [if_neg g2, if_neg (fun g3 => g2 ⟨by omega, g3.2⟩)]
          · unfold ov2
            by_cases g : c' = c
            · subst g; rw [O6, if_pos ⟨by omega, yes⟩]
            · rw [C6 _ (by omega) (by omega) (by omega) (by omega), i6 c' hc']
              unfold ov2
              by_cases g2 : c' < c ∧ ovP V he bt fr cr c'
              · rw [if_pos g2, if_pos ⟨by omega, g2.2⟩]
              · rw [if_neg g2, if_neg (fun g3 => g2 ⟨by omega, g3.2⟩)]
          · rw [C6 j (by omega) (by omega) (by omega) j2]; exact i7 j j1 j2
        · have a9 := A6 i hi9
          rw [if_neg (by omega)] at a9
          have f0 := hB.1 c (i / 3) (i % 3)
          have f1 : f c (i / 3) (i % 3) ≤ 10000000 := Int.le_trans (f_le hB c (i / 3) (by omega)) (Int.le_trans (aP_le hB n6 (by omega) _) (wP_le hB n6 (by omega)))
          apply s_X11_overs_104
          simp (disch := omega) only [B_X11_overs_104, r12, sh110, lt110, sh115, lt115, en_ops, en_opc, iI_add, iI_mul, iI_sub, jL_add, jL_mul, iI_le, iI_lt, iI_eq, iI_eq0, iI_lt0, iI_0le, iI_le0, iI_0lt, jL_iI, iI_jL, lc_eq, lc_lt, lc_le, lc_ge, lc_gt, Nat.sub_zero, Nat.zero_le, true_and, and_true, Nat.reduceAdd, Nat.reduceLeDiff]
          refine m_stone ?_
          simp (disch := omega) only [r12, sh110, lt110, sh115, lt115, en_ops, en_opc, iI_add, iI_mul, iI_sub, jL_add, jL_mul, iI_le, iI_lt, iI_eq, iI_eq0, iI_lt0, iI_0le, iI_le0, iI_0lt, jL_iI, iI_jL, lc_eq, lc_lt, lc_le, lc_ge, lc_gt, Nat.sub_zero, Nat.zero_le, true_and, and_true, Nat.reduceAdd, Nat.reduceLeDiff]
          refine ⟨fun e9 => by omega, fun _ => ⟨24 * c + i, rfl, by omega, ?_⟩⟩
          rw [a9]
          refine ⟨by decide, ?_⟩
          rw [iI_div (by omega) (by omega) (by decide) (by decide)]
          refine ⟨24 * c + i, rfl, by omega, 24 * c + i, rfl, by omega, 628, rfl, by decide, 628, rfl, by decide, ?_⟩
          rw [up_ne (Or.inr (by omega)), a9, V6, iI_sub, iI_add]
          rw [show ((24 * c + i : Nat) : Int) + 1 = ((24 * c + (i + 1) : Nat) : Int) by omega]
          refine ih6 _ _ (Fr.up (Fr.up F6 (Or.inl rfl)) (Or.inl rfl)) (fun j hj => ?_) ?_ (fun j j1 j2 => ?_) (fun j j1 j2 j3 j4 => ?_) ?_ ?_
          · rw [up_ne (Or.inr (by omega))]
            by_cases g : j = i
            · subst g; rw [up_at, if_pos (by omega)]
            · rw [up_ne (Or.inr (by omega)), A6 j hj]
              by_cases g2 : j < i
              · rw [if_pos g2, if_pos (by omega)]
              · rw [if_neg g2, if_neg (by omega)]
          · rw [up_at]
            refine iI_eq_of ?_
            unfold goS
            rw [sumTo_s]; omega
          · rw [up_ne (Or.inr (by omega)), up_ne (Or.inr (by omega))]; exact B6 j j1 j2
          · rw [up_ne (Or.inr (by omega)), up_ne (Or.inr (by omega))]; exact C6 j j1 j2 j3 j4
          · rw [up_ne (Or.inr (by omega)), up_ne (Or.inr (by omega))]; exact D6
          · rw [up_ne (Or.inr (by omega)), up_ne (Or.inr (by omega))]; exact O6
      have heap9 : ∀ j, j < 24 → h9 115 (24 * c + j) = iI (f c (j / 3) (j % 3)) := fun j hj => by
        by_cases g : j < 18
        · have := i2 c (j / 3) (j % 3) (by omega) (by omega) (by omega)
          rw [show 24 * c + 3 * (j / 3) + j % 3 = 24 * c + j by omega] at this
          rw [this]; unfold f2P; rw [if_neg (by omega)]
        · rw [i3 _ (by omega) (by omega), hB.2.1 c (j / 3) _ (by omega)]
      have go : ∀ h6 : en_I, Fr Pos hi h6 → h6 115 (576 + c) = iI (loP (cr c)) → h6 115 (600 + c) = iI (ov c + 1) → (∀ j, j ≠ 576 + c → j ≠ 600 + c → h6 115 j = h9 115 j) → en_V G Y_X11_overs (d + 2) wN wN K 104 [.ref 110, .int (iI l), .int (iI he), .int (iI bt), .int (iI fr), .int (iI c), .int (iI (24 * (c : Int) + 3 * 0 + 0)), x7] [] h6 hl hr xc xs := by
        intro h6 F6 D6 O6 A6
        have := L104 0 (by omega) h6 x7 F6 (fun j hj => by rw [A6 _ (by omega) (by omega), heap9 j hj, if_neg (by omega)]) (by rw [A6 _ (by omega) (by omega), i4]; unfold goS; rw [sumTo_z, Int.add_zero]) (fun j j1 j2 => A6 j (by omega) (by omega)) (fun j j1 j2 j3 j4 => A6 j j2 j3) D6 O6
        rw [show ((24 * c + 0 : Nat) : Int) = 24 * (c : Int) + 3 * 0 + 0 by omega] at this
        exact this
      refine ⟨fun e2 => m_stone ?_, fun e2 => ?_⟩
      · simp (disch := omega) only [en_ops, en_opc, iI_add, iI_mul, iI_sub, jL_add, jL_mul, iI_le, iI_lt, iI_eq, iI_eq0, iI_lt0, iI_0le, iI_le0, iI_0lt, jL_iI, iI_jL, lc_eq, lc_lt, lc_le, lc_ge, lc_gt, Nat.sub_zero, Nat.zero_le, true_and, and_true, Nat.reduceAdd, Nat.reduceLeDiff]
        refine go _ (Fr.up F97 (Or.inl rfl)) ?_ ?_ (fun j j1 j2 => ?_)
        · rw [up_ne (Or.inr (by omega)), E7, c5]; unfold loP; rw [if_neg (by omega)]; exact iI_eq_of (by omega)
        · rw [up_at]
        · rw [up_ne (Or.inr j2), E7]
      · refine ⟨576 + c, iI_eq_of (by omega), by omega, 576 + c, iI_eq_of (by omega), by omega, m_stone ?_⟩
        rw [up_ne (Or.inr (by omega)), E7, c5]
        simp (disch := omega) only [en_ops, en_opc, iI_add, iI_mul, iI_sub, jL_add, jL_mul, iI_le, iI_lt, iI_eq, iI_eq0, iI_lt0, iI_0le, iI_le0, iI_0lt, jL_iI, iI_jL, lc_eq, lc_lt, lc_le, lc_ge, lc_gt, Nat.sub_zero, Nat.zero_le, true_and, and_true, Nat.reduceAdd, Nat.reduceLeDiff]
        refine go _ (Fr.up (Fr.up F97 (Or.inl rfl)) (Or.inl rfl)) ?_ ?_ (fun j j1 j2 => ?_)
        · rw [up_at]; unfold loP; rw [if_pos (by omega)]
        · rw [up_ne (Or.inr (by omega)), up_at]
        · rw [up_ne (Or.inr j1), up_ne (Or.inr j2), E7]
    · have no : ¬ ovP V he bt fr cr c := by show ¬ (_ < _); omega
      have same : ∀ j, (j < c + 1 ∧ ovP V he bt fr cr j) ↔ (j < c ∧ ovP V he bt fr cr j) := fun j => ⟨fun ⟨g1, g2⟩ => ⟨by rcases Nat.lt_or_ge j c with g | g; exact g; exact absurd (by rw [show j = c by omega] at g2; exact g2) no, g2⟩, fun ⟨g1, g2⟩ => ⟨by omega, g2⟩⟩
      refine ih h7 _ _ ⟨F97, fun c' z' k' hc' hz' hk' => ?_, fun j j1 j2 => by rw [E7]; exact i3 j j1 j2, ?_, fun c' hc' => ?_, fun c' hc' => ?_, fun j j1 j2 => by rw [E7]; exact i7 j j1 j2⟩
      · rw [E7, i2 c' z' k' hc' hz' hk']; unfold f2P; simp only [same]
      · rw [E7, i4]; unfold bhP; rw [sumTo_s, if_neg no, Int.add_zero]
      · rw [E7, i5 c' hc']; unfold cr2; simp only [same]
      · rw [E7, i6 c' hc']; unfold ov2; simp only [same]
end
