section
variable {G : en_G} {d : Nat} {K : en_K} {nc nz : Nat} {b wl : Nat → Int} {f : Nat → Nat → Nat → Int} {hi : en_I} {hl : en_L} {hr : en_F} {xc xs : Nat}
variable {V : Nat → (Nat → Int) → Int} {he bt fr : Int} {cr sm : Nat → Int}
theorem mR_held {x : Int} (h1 : -2147483648 ≤ x) (h2 : x < 2147483648) (H : K (.inl (some (.int (iI (heP x))))) hi hl hr) : en_Call G (d + 1) xc xs Y_X11_held wN wN [.int (iI x)] hi hl hr K := by
  apply en_X11_held
  simp (disch := omega) only [B_X11_held_0, en_ops, en_opc, iI_add, iI_mul, iI_sub, jL_add, jL_mul, iI_le, iI_lt, iI_eq, iI_eq0, iI_lt0, iI_0le, iI_le0, iI_0lt, jL_iI, iI_jL, lc_eq, lc_lt, lc_le, lc_ge, lc_gt, Nat.sub_zero, Nat.zero_le, true_and, and_true, Nat.reduceAdd, Nat.reduceLeDiff]
  unfold heP at H
  refine ⟨fun e => ⟨fun e2 => ?_, fun e2 => ?_⟩, fun e => ?_⟩
  · rw [if_neg (by omega), if_neg (by omega)] at H; exact H
  · rw [if_neg (by omega), if_pos (by omega)] at H; exact H
  · rw [if_pos (by omega)] at H; exact H
/-- the rows of the reference's law l are the same -/
def rwE (l : Nat) (hi hi' : en_I) : Prop := (∀ j, 620 * l ≤ j → j < 620 * l + 620 → hi' 119 j = hi 119 j ∧ hi' 120 j = hi 120 j) ∧ ∀ w, w < 3 → hi' 121 (3 * l + w) = hi 121 (3 * l + w) ∧ hi' 122 (3 * l + w) = hi 122 (3 * l + w)
theorem rwE.rf {l : Nat} : rwE l hi hi := ⟨fun _ _ _ => ⟨rfl, rfl⟩, fun _ _ => ⟨rfl, rfl⟩⟩
theorem rwE.tr {l : Nat} {h1 h2 h3 : en_I} (a : rwE l h1 h2) (b : rwE l h2 h3) : rwE l h1 h3 := ⟨fun j g1 g2 => ⟨((b.1 j g1 g2).1).trans (a.1 j g1 g2).1, ((b.1 j g1 g2).2).trans (a.1 j g1 g2).2⟩, fun w g => ⟨((b.2 w g).1).trans (a.2 w g).1, ((b.2 w g).2).trans (a.2 w g).2⟩⟩
theorem rwE.frm {l : Nat} {P : Nat → Prop} {h1 h2 h3 : en_I} (a : rwE l h1 h2) (F : Fr P h2 h3) (hP : ∀ x, 119 ≤ x → x ≤ 122 → ¬ P x) : rwE l h1 h3 := by
  have e : ∀ x, 119 ≤ x → x ≤ 122 → h3 x = h2 x := fun x g1 g2 => F x (hP x g1 g2)
  refine ⟨fun j g1 g2 => ?_, fun w g => ?_⟩
  · rw [e 119 (by omega) (by omega), e 120 (by omega) (by omega)]; exact a.1 j g1 g2
  · rw [e 121 (by omega) (by omega), e 122 (by omega) (by omega)]; exact a.2 w g
/-- the reference's law l says V of its names, whenever it is asked -/
def rwV (G : en_G) (l : Nat) (V : Nat → (Nat → Int) → Int) (hi : en_I) : Prop := ∀ (hi' : en_I) (hl : en_L) (hr : en_F) (K : en_K) (d xc xs w : Nat) (nm : Nat → Int) (x : Int), rwE l hi hi' → w < 3 → x = 3 * l + w → rfM nm hi' → rfR hr →
  (∀ hi'', Fr (· = 123) hi' hi'' → K (.inl (some (.int (iI (V w nm))))) hi'' hl hr) → en_Call G (d + 1) xc xs Y_X11_worked wN wN [.ref 110, .int (iI x)] hi' hl hr K
theorem rwV.mono {l : Nat} {h1 h2 : en_I} (h : rwV G l V h1) (e : rwE l h1 h2) : rwV G l V h2 := fun hi' hl hr K d xc xs w nm x e2 => h hi' hl hr K d xc xs w nm x (e.tr e2)
def Pmo (x : Nat) : Prop := x = 115 ∨ x = 123 ∨ x = 124 ∨ x = 130
theorem Pmo.n : ∀ x, 119 ≤ x → x ≤ 122 → ¬ Pmo x := fun x h1 h2 g => by unfold Pmo at g; omega
theorem Pmo.n2 : ∀ x, x ≤ 114 → ¬ Pmo x := fun x h1 g => by unfold Pmo at g; omega
/-- within the reference's carrying: N places are done -/
def mvR (V : Nat → (Nat → Int) → Int) (f : Nat → Nat → Nat → Int) (nc nz : Nat) (wl : Nat → Int) (he bt fr : Int) (cr sm : Nat → Int) (hi0 : en_I) (N : Nat) (hi : en_I) : Prop :=
  Fr Pmo hi0 hi ∧ (∀ j, j ≠ 627 → hi 115 j = hi0 115 j) ∧ hi 115 627 = iI (smN V f nz he bt fr cr sm N 2) ∧ chH (fun c z k => fN V f nz he bt fr cr N c z k - f c z k + arN V f nc nz wl he bt fr cr N c z k) hi ∧ ∀ j, j < 576 → (12 ≤ j / 24 ∨ 6 ≤ j / 3 % 8) → hi 130 j = iI 0
/-- the places that stand for no heap are 0 -/
def rfJ (hi : en_I) : Prop := ∀ j, j < 576 → (12 ≤ j / 24 ∨ 6 ≤ j / 3 % 8) → hi 115 j = iI 0
theorem mvR.skip {hi0 : en_I} {M N : Nat} (hB : fB nc nz f) (h : mvR V f nc nz wl he bt fr cr sm hi0 M hi) (hMN : M ≤ N) (hz : ∀ n, M ≤ n → n < N → f (cN n) (zN n) (kN n) = 0) : mvR V f nc nz wl he bt fr cr sm hi0 N hi := by
  obtain ⟨h1, h2, h3, h4, h5⟩ := h
  obtain ⟨-, e2, e3, e4⟩ := skip_N (V := V) (he := he) (bt := bt) (fr := fr) (cr := cr) (wl := wl) (sm := sm) hB hMN hz
  refine ⟨h1, h2, by rw [e2]; exact h3, fun c z k hc hz hk => ?_, h5⟩
  show hi 130 (24 * c + 3 * z + k) = iI (fN V f nz he bt fr cr N c z k - f c z k + arN V f nc nz wl he bt fr cr N c z k)
  rw [e3 c z k, e4 c z k hz hk]
  exact h4 c z k hc hz hk
theorem fN_s {c z k c' z' k' : Nat} (hz : z < 6) (hk : k < 3) (hz' : z' < 6) (hk' : k' < 3) : fN V f nz he bt fr cr ((c * 6 + z) * 3 + k + 1) c' z' k' = fN V f nz he bt fr cr ((c * 6 + z) * 3 + k) c' z' k' - (if c' = c ∧ z' = z ∧ k' = k then mvP V f nz he bt fr cr c z k else 0) := by
  unfold fN
  by_cases j : c' = c ∧ z' = z ∧ k' = k
  · obtain ⟨g1, g2, g3⟩ := j
    rw [g1, g2, g3, if_pos (show (c * 6 + z) * 3 + k < (c * 6 + z) * 3 + k + 1 by omega), if_neg (show ¬ ((c * 6 + z) * 3 + k < (c * 6 + z) * 3 + k) by omega), if_pos ⟨rfl, rfl, rfl⟩]
  · have j2 : ¬ (c' * 6 + z') * 3 + k' = (c * 6 + z) * 3 + k := fun q => j ((ix_inj (c := c) (c' := c') (z := z) (k := k) hz hk hz' hk').mp q)
    rw [if_neg j, Int.sub_zero]
    by_cases j3 : (c' * 6 + z') * 3 + k' < (c * 6 + z) * 3 + k
    · rw [if_pos (show (c' * 6 + z') * 3 + k' < (c * 6 + z) * 3 + k + 1 by omega), if_pos j3]
    · rw [if_neg (show ¬ ((c' * 6 + z') * 3 + k' < (c * 6 + z) * 3 + k + 1) by omega), if_neg j3]
theorem m_mv59 {l c z : Nat} {hi0 : en_I} (hR : rfR hr) (hs : rfH f hi0) (hb : rfB b hi0) (hn : rfN nc nz b) (hB : fB nc nz f) (hwl : ∀ c, c < 12 → b (52 + c) = wl c ∧ 0 ≤ wl c ∧ wl c ≤ 16) (hcr : ∀ c, c < 12 → hi0 115 (576 + c) = iI (cr c)) (hV : rwV G l V hi0) (hVr : ∀ w nm, -2147483648 ≤ V w nm ∧ V w nm < 2147483648) (hfr : fr = 0 ∨ fr = 1) (hc : c < nc) (hz : z < nz)
    (H : ∀ hi' x8 x9 x10 x11, mvR V f nc nz wl he bt fr cr sm hi0 ((c * 6 + (z + 1)) * 3) hi' → en_V G Y_X11_moves (d + 5) wN wN K 45 [.ref 110, .int (iI l), .int (iI he), .int (iI bt), .int (iI fr), .int (iI (sumTo ((c * 6 + (z + 1)) * 3) (mvN V f nz he bt fr cr))), .int (iI c), .int (iI (z + 1)), x8, x9, x10, x11] [] hi' hl hr xc xs) :
    ∀ k : Nat, k ≤ 3 → ∀ hi' x9 x10 x11, mvR V f nc nz wl he bt fr cr sm hi0 ((c * 6 + z) * 3 + k) hi' → en_V G Y_X11_moves (d + 5) wN wN K 59 [.ref 110, .int (iI l), .int (iI he), .int (iI bt), .int (iI fr), .int (iI (sumTo ((c * 6 + z) * 3 + k) (mvN V f nz he bt fr cr))), .int (iI c), .int (iI z), .int (iI k), x9, x10, x11] [] hi' hl hr xc xs := by
  obtain ⟨n0, n1, n12, n6⟩ := id hn
  obtain ⟨⟨-, -, r10, -, r12, -⟩, -⟩ := id hR
  refine lp 3 (fun hi' x9 x10 x11 hI => ?_) (fun k hk ih hi' x9 x10 x11 hI => ?_)
  · apply s_X11_moves_59
    simp (disch := omega) only [B_X11_moves_59, en_ops, en_opc, iI_add, iI_mul, iI_sub, jL_add, jL_mul, iI_le, iI_lt, iI_eq, iI_eq0, iI_lt0, iI_0le, iI_le0, iI_0lt, jL_iI, iI_jL, lc_eq, lc_lt, lc_le, lc_ge, lc_gt, Nat.sub_zero, Nat.zero_le, true_and, and_true, Nat.reduceAdd, Nat.reduceLeDiff]
    refine ⟨fun _ => ?_, fun e => absurd (show (3 : Int) ≤ ((3 : Nat) : Int) by omega) e⟩
    rw [show (c * 6 + z) * 3 + 3 = (c * 6 + (z + 1)) * 3 by omega] at hI ⊢
    exact H hi' _ _ _ _ hI
  · obtain ⟨q1, q2, q3⟩ := n_at (c := c) (z := z) (k := k) (by omega) hk
    obtain ⟨i1, i2, i3, i4, i5⟩ := id hI
    have hv : hi' 115 (24 * c + 3 * z + k) = iI (f c z k) := by rw [i2 _ (by omega)]; exact hs c z k (by omega) (by omega) hk
    have f0 := hB.1 c z k
    have f1 : f c z k ≤ 10000000 := Int.le_trans (f_le hB c z hk) (Int.le_trans (aP_le hB n6 (by omega) z) (wP_le hB n6 (by omega)))
    have m0 := mvP_r (V := V) (nz := nz) (he := he) (bt := bt) (fr := fr) (cr := cr) hB.1 c z k
    have w0 := wrP_r (V := V) (nz := nz) (he := he) (bt := bt) (fr := fr) (cr := cr) hB.1 c z k
    have ix : (24 * (c : Int) + 3 * z + k) = ((24 * c + 3 * z + k : Nat) : Int) := by omega
    have eM : sumTo ((c * 6 + z) * 3 + (k + 1)) (mvN V f nz he bt fr cr) = sumTo ((c * 6 + z) * 3 + k) (mvN V f nz he bt fr cr) + mvP V f nz he bt fr cr c z k := by
      rw [← Nat.add_assoc, sumTo_s]; unfold mvN; rw [q1, q2, q3]
    apply s_X11_moves_59
    simp (disch := omega) only [B_X11_moves_59, r12, sh110, lt110, en_ops, en_opc, iI_add, iI_mul, iI_sub, jL_add, jL_mul, iI_le, iI_lt, iI_eq, iI_eq0, iI_lt0, iI_0le, iI_le0, iI_0lt, jL_iI, iI_jL, lc_eq, lc_lt, lc_le, lc_ge, lc_gt, Nat.sub_zero, Nat.zero_le, true_and, and_true, Nat.reduceAdd, Nat.reduceLeDiff]
    refine ⟨fun e => by omega, fun _ => m_stone ?_⟩
    simp (disch := omega) only [sh115, lt115, en_ops, en_opc, iI_add, iI_mul, iI_sub, jL_add, jL_mul, iI_le, iI_lt, iI_eq, iI_eq0, iI_lt0, iI_0le, iI_le0, iI_0lt, jL_iI, iI_jL, lc_eq, lc_lt, lc_le, lc_ge, lc_gt, Nat.sub_zero, Nat.zero_le, true_and, and_true, Nat.reduceAdd, Nat.reduceLeDiff]
    refine ⟨24 * c + 3 * z + k, iI_eq_of ix, by omega, ?_⟩
    rw [hv]
    simp (disch := omega) only [sh110, lt110, en_ops, en_opc, iI_add, iI_mul, iI_sub, jL_add, jL_mul, iI_le, iI_lt, iI_eq, iI_eq0, iI_lt0, iI_0le, iI_le0, iI_0lt, jL_iI, iI_jL, lc_eq, lc_lt, lc_le, lc_ge, lc_gt, Nat.sub_zero, Nat.zero_le, true_and, and_true, Nat.reduceAdd, Nat.reduceLeDiff]
    refine ⟨fun e => ?_, fun e => ?_⟩
    · have H5 : rfH f hi' := fun c' z' k' hc' hz' hk' => by rw [i2 _ (by omega)]; exact hs c' z' k' hc' hz' hk'
      have B5 : rfB b hi' := fun j hj => by rw [i1 113 (by unfold Pmo; omega)]; exact hb j hj
      refine m_name hR (cr := cr c) (by rw [i2 _ (by omega)]; exact hcr c (by omega)) (by omega) (fun h5 F5 M5 => ?_)
      simp (disch := omega) only [sh110, lt110, en_ops, en_opc, iI_add, iI_mul, iI_sub, jL_add, jL_mul, iI_le, iI_lt, iI_eq, iI_eq0, iI_lt0, iI_0le, iI_le0, iI_0lt, jL_iI, iI_jL, lc_eq, lc_lt, lc_le, lc_ge, lc_gt, Nat.sub_zero, Nat.zero_le, true_and, and_true, Nat.reduceAdd, Nat.reduceLeDiff]
      refine m_nameSize hR (f := f) (fun c' z' k' hc' hz' hk' => by rw [F5 115 (by decide)]; exact H5 c' z' k' hc' hz' hk') (fun j hj => by rw [F5 113 (by decide)]; exact B5 j hj) hn hB (by omega) hz M5 (fun h6 F6 M6 => ?_)
      have F56 : Fr Pmo hi0 h6 := i1.tr ((F5.tr F6).mono (fun x e => Or.inr (Or.inr (Or.inl e))))
      simp (disch := omega) only [sh110, lt110, en_ops, en_opc, iI_add, iI_mul, iI_sub, jL_add, jL_mul, iI_le, iI_lt, iI_eq, iI_eq0, iI_lt0, iI_0le, iI_le0, iI_0lt, jL_iI, iI_jL, lc_eq, lc_lt, lc_le, lc_ge, lc_gt, Nat.sub_zero, Nat.zero_le, true_and, and_true, Nat.reduceAdd, Nat.reduceLeDiff]
      refine hV h6 hl hr _ _ _ _ 0 (nmS f nz he bt fr (cr c) c z k) _ (rwE.frm rwE.rf F56 Pmo.n) (by omega) (by omega) M6 hR (fun h7 F7 => ?_)
      simp (disch := omega) only [en_ops, en_opc, iI_add, iI_mul, iI_sub, jL_add, jL_mul, iI_le, iI_lt, iI_eq, iI_eq0, iI_lt0, iI_0le, iI_le0, iI_0lt, jL_iI, iI_jL, lc_eq, lc_lt, lc_le, lc_ge, lc_gt, Nat.sub_zero, Nat.zero_le, true_and, and_true, Nat.reduceAdd, Nat.reduceLeDiff]
      have v0 := hVr 0 (nmS f nz he bt fr (cr c) c z k)
      have v1 := hVr 1 (nmS f nz he bt fr (cr c) c z k)
      refine mR_held v0.1 v0.2 ?_
      obtain ⟨g0, g1⟩ := heP_r (V 0 (nmS f nz he bt fr (cr c) c z k))
      obtain ⟨g2, g3⟩ := heP_r (V 1 (nmS f nz he bt fr (cr c) c z k))
      have p0 := Int.mul_nonneg f0 g0
      have p1 := Int.mul_le_mul_of_nonneg_left g1 f0
      have p2 := Int.mul_nonneg m0.1 g2
      have p3 := Int.mul_le_mul_of_nonneg_left g3 m0.1
      have em : f c z k * heP (V 0 (nmS f nz he bt fr (cr c) c z k)) / 16 = mvP V f nz he bt fr cr c z k := rfl
      have ew : mvP V f nz he bt fr cr c z k * heP (V 1 (nmS f nz he bt fr (cr c) c z k)) / 16 = wrP V f nz he bt fr cr c z k := rfl
      simp (disch := omega) only [sh110, lt110, en_ops, en_opc, iI_add, iI_mul, iI_sub, jL_add, jL_mul, iI_le, iI_lt, iI_eq, iI_eq0, iI_lt0, iI_0le, iI_le0, iI_0lt, jL_iI, iI_jL, lc_eq, lc_lt, lc_le, lc_ge, lc_gt, Nat.sub_zero, Nat.zero_le, true_and, and_true, Nat.reduceAdd, Nat.reduceLeDiff]
      refine ⟨by decide, ?_⟩
      rw [jL_div (by omega) (by omega) (by omega) (by omega), em]
      simp (disch := omega) only [sh110, lt110, en_ops, en_opc, iI_add, iI_mul, iI_sub, jL_add, jL_mul, iI_le, iI_lt, iI_eq, iI_eq0, iI_lt0, iI_0le, iI_le0, iI_0lt, jL_iI, iI_jL, lc_eq, lc_lt, lc_le, lc_ge, lc_gt, Nat.sub_zero, Nat.zero_le, true_and, and_true, Nat.reduceAdd, Nat.reduceLeDiff]
      have F57 : Fr Pmo hi0 h7 := F56.tr (F7.mono (fun x e => Or.inr (Or.inl e)))
      refine hV h7 hl hr _ _ _ _ 1 (nmS f nz he bt fr (cr c) c z k) _ (rwE.frm rwE.rf F57 Pmo.n) (by omega) (by omega) (fun j hj => by rw [F7 124 (by decide)]; exact M6 j hj) hR (fun h8 F8 => ?_)
      simp (disch := omega) only [en_ops, en_opc, iI_add, iI_mul, iI_sub, jL_add, jL_mul, iI_le, iI_lt, iI_eq, iI_eq0, iI_lt0, iI_0le, iI_le0, iI_0lt, jL_iI, iI_jL, lc_eq, lc_lt, lc_le, lc_ge, lc_gt, Nat.sub_zero, Nat.zero_le, true_and, and_true, Nat.reduceAdd, Nat.reduceLeDiff]
      refine mR_held v1.1 v1.2 ?_
      simp (disch := omega) only [sh110, lt110, en_ops, en_opc, iI_add, iI_mul, iI_sub, jL_add, jL_mul, iI_le, iI_lt, iI_eq, iI_eq0, iI_lt0, iI_0le, iI_le0, iI_0lt, jL_iI, iI_jL, lc_eq, lc_lt, lc_le, lc_ge, lc_gt, Nat.sub_zero, Nat.zero_le, true_and, and_true, Nat.reduceAdd, Nat.reduceLeDiff]
      refine ⟨by decide, ?_⟩
      rw [jL_div (by omega) (by omega) (by omega) (by omega), ew]
      simp (disch := omega) only [sh110, lt110, en_ops, en_opc, iI_add, iI_mul, iI_sub, jL_add, jL_mul, iI_le, iI_lt, iI_eq, iI_eq0, iI_lt0, iI_0le, iI_le0, iI_0lt, jL_iI, iI_jL, lc_eq, lc_lt, lc_le, lc_ge, lc_gt, Nat.sub_zero, Nat.zero_le, true_and, and_true, Nat.reduceAdd, Nat.reduceLeDiff]
      have F58 : Fr Pmo hi0 h8 := F57.tr (F8.mono (fun x e => Or.inr (Or.inl e)))
      have E8 : ∀ x, x ≠ 123 → x ≠ 124 → h8 x = hi' x := fun x g1 g2 => by rw [F8 x g1, F7 x g1, F6 x g2, F5 x g2]
      refine m_goes (wl := wl) (sz := z) (worn := 0) hR (fun j hj => by rw [E8 113 (by decide) (by decide)]; exact B5 j hj) n0 hwl (fun c' z' k' hc' hz' hk' => by rw [E8 130 (by decide) (by decide)]; exact i4 c' z' k' hc' hz' hk') (by rw [E8 115 (by decide) (by decide)]; exact i3) hfr (by omega) (by omega) hc n12 (by omega) hk (Or.inl ⟨rfl, rfl⟩) (fun h9 F9 J9 R9 V9 C9 => ?_)
      simp (disch := omega) only [sh110, lt110, en_ops, en_opc, iI_add, iI_mul, iI_sub, jL_add, jL_mul, iI_le, iI_lt, iI_eq, iI_eq0, iI_lt0, iI_0le, iI_le0, iI_0lt, jL_iI, iI_jL, lc_eq, lc_lt, lc_le, lc_ge, lc_gt, Nat.sub_zero, Nat.zero_le, true_and, and_true, Nat.reduceAdd, Nat.reduceLeDiff]
      refine m_goes (wl := wl) (sz := z - 1) (worn := 1) hR (fun j hj => by rw [F9 113 (by unfold Pgs; omega), E8 113 (by decide) (by decide)]; exact B5 j hj) n0 hwl C9 V9 hfr w0.1 (by omega) hc n12 (by omega) hk (by omega) (fun h10 F10 J10 R10 V10 C10 => ?_)
      simp (disch := omega) only [en_ops, en_opc, iI_add, iI_mul, iI_sub, jL_add, jL_mul, iI_le, iI_lt, iI_eq, iI_eq0, iI_lt0, iI_0le, iI_le0, iI_0lt, jL_iI, iI_jL, lc_eq, lc_lt, lc_le, lc_ge, lc_gt, Nat.sub_zero, Nat.zero_le, true_and, and_true, Nat.reduceAdd, Nat.reduceLeDiff]
      have nx : mvR V f nc nz wl he bt fr cr sm hi0 ((c * 6 + z) * 3 + (k + 1)) h10 := by
        have FG : ∀ x, Pgs x → Pmo x := fun x g => by unfold Pgs at g; unfold Pmo; omega
        refine ⟨(F58.tr (F9.mono FG)).tr (F10.mono FG), fun j hj => by rw [R10 j hj, R9 j hj, E8 115 (by decide) (by decide)]; exact i2 j hj, ?_, fun c' z' k' hc' hz' hk' => ?_, fun j j1 j2 => by rw [J10 j (Or.inr j2), J9 j (Or.inr j2), E8 130 (by decide) (by decide)]; exact i5 j j1 j2⟩
        · rw [V10]
          refine iI_eq_of ?_
          rw [← Nat.add_assoc]
          unfold smN
          rw [if_pos rfl, if_pos rfl, sumTo_s]
          unfold sdN
          rw [q1, q2, q3, if_neg (show ¬ ((0 : Int) = 1 ∧ z = 0) by omega)]
          by_cases z9 : z = 0
          · rw [if_pos ⟨rfl, z9⟩, if_pos z9]; omega
          · rw [if_neg (fun g => z9 g.2), if_neg z9]; omega
        · rw [C10 c' z' k' hc' hz' hk']
          refine iI_eq_of ?_
          dsimp only
          show _ = fN V f nz he bt fr cr ((c * 6 + z) * 3 + (k + 1)) c' z' k' - f c' z' k' + arN V f nc nz wl he bt fr cr ((c * 6 + z) * 3 + (k + 1)) c' z' k'
          rw [← Nat.add_assoc, fN_s (c := c) (z := z) (k := k) (by omega) hk hz' hk']
          have a1 : arN V f nc nz wl he bt fr cr ((c * 6 + z) * 3 + k + 1) c' z' k' = arN V f nc nz wl he bt fr cr ((c * 6 + z) * 3 + k) c' z' k' + ctP nc wl fr c z k (mvP V f nz he bt fr cr c z k) (wrP V f nz he bt fr cr c z k) c' z' k' := by
            have := sumTo_s (n := (c * 6 + z) * 3 + k) (f := ctN V f nc nz wl he bt fr cr c' z' k')
            have e8 : ctN V f nc nz wl he bt fr cr c' z' k' ((c * 6 + z) * 3 + k) = ctP nc wl fr c z k (mvP V f nz he bt fr cr c z k) (wrP V f nz he bt fr cr c z k) c' z' k' := by unfold ctN; rw [q1, q2, q3]
            rw [e8] at this
            exact this
          have c1 : ctP nc wl fr c z k (mvP V f nz he bt fr cr c z k) (wrP V f nz he bt fr cr c z k) c' z' k' = goP nc wl fr c z k (mvP V f nz he bt fr cr c z k - wrP V f nz he bt fr cr c z k) c' z' k' + (if z = 0 then 0 else goP nc wl fr c (z - 1) k (wrP V f nz he bt fr cr c z k) c' z' k') := rfl
          have e9 : (if (1 : Int) = 1 ∧ z = 0 then (0 : Int) else goP nc wl fr c (z - 1) k (wrP V f nz he bt fr cr c z k) c' z' k') = (if z = 0 then 0 else goP nc wl fr c (z - 1) k (wrP V f nz he bt fr cr c z k) c' z' k') := by
            by_cases z9 : z = 0
            · rw [if_pos ⟨rfl, z9⟩, if_pos z9]
            · rw [if_neg (fun g => z9 g.2), if_neg z9]
          rw [a1, c1, e9, if_neg (show ¬ ((0 : Int) = 1 ∧ z = 0) by omega)]
          generalize (if z = 0 then (0 : Int) else goP nc wl fr c (z - 1) k (wrP V f nz he bt fr cr c z k) c' z' k') = X
          generalize goP nc wl fr c z k (mvP V f nz he bt fr cr c z k - wrP V f nz he bt fr cr c z k) c' z' k' = X2
          by_cases j : c' = c ∧ z' = z ∧ k' = k
          · rw [if_pos j, if_pos j, if_pos j]; omega
          · rw [if_neg j, if_neg j, if_neg j]; omega
      rw [eM] at ih
      exact ih h10 _ _ _ nx
    · have z0 : f (cN ((c * 6 + z) * 3 + k)) (zN ((c * 6 + z) * 3 + k)) (kN ((c * 6 + z) * 3 + k)) = 0 := by rw [q1, q2, q3]; omega
      have hI2 := hI.skip (N := (c * 6 + z) * 3 + (k + 1)) hB (by omega) (fun n h1 h2 => by rw [show n = (c * 6 + z) * 3 + k by omega]; exact z0)
      rw [eM, show mvP V f nz he bt fr cr c z k = 0 by omega, Int.add_zero] at ih
      exact ih hi' _ _ _ hI2
theorem m_moves {l : Nat} (hR : rfR hr) (hs : rfH f hi) (hJ : rfJ hi) (hb : rfB b hi) (hn : rfN nc nz b) (hB : fB nc nz f) (hwl : ∀ c, c < 12 → b (52 + c) = wl c ∧ 0 ≤ wl c ∧ wl c ≤ 16) (hcr : ∀ c, c < 12 → hi 115 (576 + c) = iI (cr c)) (hV : rwV G l V hi) (hVr : ∀ w nm, -2147483648 ≤ V w nm ∧ V w nm < 2147483648) (hv : hi 115 627 = iI (sm 2)) (hfr : fr = 0 ∨ fr = 1)
    (H : ∀ hi', Fr Pmo hi hi' → (∀ j, 576 ≤ j → j ≠ 627 → hi' 115 j = hi 115 j) → rfH (f1P V f nc nz wl he bt fr cr (nc * 18)) hi' → rfJ hi' → hi' 115 627 = iI (smN V f nz he bt fr cr sm (nc * 18) 2) → K (.inl (some (.int (iI (sumTo (nc * 18) (mvN V f nz he bt fr cr)))))) hi' hl hr) :
    en_Call G (d + 5) xc xs Y_X11_moves wN wN [.ref 110, .int (iI l), .int (iI he), .int (iI bt), .int (iI fr)] hi hl hr K := by
  obtain ⟨n0, n1, n12, n6⟩ := id hn
  obtain ⟨⟨-, -, r10, -, r12, -⟩, -, -, -, -, -, -, r31, -⟩ := id hR
  apply en_X11_moves
  simp (disch := omega) only [B_X11_moves_0, en_ops, en_opc, iI_add, iI_mul, iI_sub, jL_add, jL_mul, iI_le, iI_lt, iI_eq, iI_eq0, iI_lt0, iI_0le, iI_le0, iI_0lt, jL_iI, iI_jL, lc_eq, lc_lt, lc_le, lc_ge, lc_gt, Nat.sub_zero, Nat.zero_le, true_and, and_true, Nat.reduceAdd, Nat.reduceLeDiff]
  have L216 : ∀ (h5 : en_I) (x7 x8 x9 x10 x11 : Value), mvR V f nc nz wl he bt fr cr sm hi (nc * 18) h5 → ∀ i : Nat, i ≤ 576 → ∀ h9, Fr (· = 115) h5 h9 → (∀ j, h9 115 j = if j < i then h5 115 j + h5 130 j else h5 115 j) → en_V G Y_X11_moves (d + 5) wN wN K 216 [.ref 110, .int (iI l), .int (iI he), .int (iI bt), .int (iI fr), .int (iI (sumTo (nc * 18) (mvN V f nz he bt fr cr))), .int (iI i), x7, x8, x9, x10, x11] [] h9 hl hr xc xs := by
    intro h5 x7 x8 x9 x10 x11 I5
    obtain ⟨i1, i2, i3, i4, i5⟩ := I5
    refine lp 576 (fun h9 F9 E9 => ?_) (fun i hi9 ih h9 F9 E9 => ?_)
    · apply s_X11_moves_216
      simp (disch := omega) only [B_X11_moves_216, en_ops, en_opc, iI_add, iI_mul, iI_sub, jL_add, jL_mul, iI_le, iI_lt, iI_eq, iI_eq0, iI_lt0, iI_0le, iI_le0, iI_0lt, jL_iI, iI_jL, lc_eq, lc_lt, lc_le, lc_ge, lc_gt, Nat.sub_zero, Nat.zero_le, true_and, and_true, Nat.reduceAdd, Nat.reduceLeDiff]
      refine ⟨fun _ => H h9 (i1.tr (F9.mono (fun x e => Or.inl e))) (fun j j1 j2 => by rw [E9 j, if_neg (by omega)]; exact i2 j j2) (fun c z k hc hz hk => ?_) (fun j j1 j2 => by rw [E9, if_pos j1, i2 j (by omega), hJ j j1 j2, i5 j j1 j2, iI_add]; rfl) (by rw [E9, if_neg (by omega)]; exact i3), fun e => absurd (show (576 : Int) ≤ ((576 : Nat) : Int) by omega) e⟩
      rw [E9, if_pos (by omega), i2 _ (by omega), hs c z k hc hz hk, i4 c z k hc hz hk, iI_add]
      refine iI_eq_of ?_
      show f c z k + (fN V f nz he bt fr cr (nc * 18) c z k - f c z k + arN V f nc nz wl he bt fr cr (nc * 18) c z k) = f1P V f nc nz wl he bt fr cr (nc * 18) c z k
      unfold f1P; omega
    · apply s_X11_moves_216
      simp (disch := omega) only [B_X11_moves_216, r12, r31, sh110, lt110, sh115, lt115, sh130, lt130, en_ops, en_opc, iI_add, iI_mul, iI_sub, jL_add, jL_mul, iI_le, iI_lt, iI_eq, iI_eq0, iI_lt0, iI_0le, iI_le0, iI_0lt, jL_iI, iI_jL, lc_eq, lc_lt, lc_le, lc_ge, lc_gt, Nat.sub_zero, Nat.zero_le, true_and, and_true, Nat.reduceAdd, Nat.reduceLeDiff]
      refine ⟨fun e => by omega, fun _ => ⟨i, rfl, by omega, i, rfl, by omega, i, rfl, by omega, ?_⟩⟩
      refine ih _ (Fr.up F9 (by rfl)) (fun j => ?_)
      rw [F9 130 (by decide), E9 i, if_neg (by omega)]
      by_cases e : j = i
      · subst e; rw [up_at, if_pos (by omega)]
      · rw [up_ne (Or.inr e), E9 j]
        by_cases e2 : j < i
        · rw [if_pos e2, if_pos (by omega)]
        · rw [if_neg e2, if_neg (by omega)]
  have L31 : ∀ c : Nat, c ≤ nc → ∀ (h9 : en_I) (x7 x8 x9 x10 x11 : Value), mvR V f nc nz wl he bt fr cr sm hi (c * 18) h9 → en_V G Y_X11_moves (d + 5) wN wN K 31 [.ref 110, .int (iI l), .int (iI he), .int (iI bt), .int (iI fr), .int (iI (sumTo (c * 18) (mvN V f nz he bt fr cr))), .int (iI c), x7, x8, x9, x10, x11] [] h9 hl hr xc xs := by
    refine lp nc (fun h9 x7 x8 x9 x10 x11 I9 => ?_) (fun c hc ih h9 x7 x8 x9 x10 x11 I9 => ?_)
    · have e0 : h9 113 0 = iI nc := by rw [I9.1 113 (by unfold Pmo; omega), hb 0 (by omega), n0]
      apply s_X11_moves_31
      simp (disch := omega) only [B_X11_moves_31, r10, sh110, lt110, sh113, lt113, en_ops, en_opc, iI_add, iI_mul, iI_sub, jL_add, jL_mul, iI_le, iI_lt, iI_eq, iI_eq0, iI_lt0, iI_0le, iI_le0, iI_0lt, jL_iI, iI_jL, lc_eq, lc_lt, lc_le, lc_ge, lc_gt, Nat.sub_zero, Nat.zero_le, true_and, and_true, Nat.reduceAdd, Nat.reduceLeDiff]
      refine ⟨0, rfl, by decide, ?_⟩
      rw [e0]
      simp (disch := omega) only [en_ops, en_opc, iI_add, iI_mul, iI_sub, jL_add, jL_mul, iI_le, iI_lt, iI_eq, iI_eq0, iI_lt0, iI_0le, iI_le0, iI_0lt, jL_iI, iI_jL, lc_eq, lc_lt, lc_le, lc_ge, lc_gt, Nat.sub_zero, Nat.zero_le, true_and, and_true, Nat.reduceAdd, Nat.reduceLeDiff]
      exact ⟨fun _ => L216 h9 x7 x8 x9 x10 x11 I9 0 (by omega) h9 Fr.rf (fun j => by rw [if_neg (by omega)]), fun e => absurd (Int.le_refl _) e⟩
    · have e0 : h9 113 0 = iI nc := by rw [I9.1 113 (by unfold Pmo; omega), hb 0 (by omega), n0]
      apply s_X11_moves_31
      simp (disch := omega) only [B_X11_moves_31, r10, sh110, lt110, sh113, lt113, en_ops, en_opc, iI_add, iI_mul, iI_sub, jL_add, jL_mul, iI_le, iI_lt, iI_eq, iI_eq0, iI_lt0, iI_0le, iI_le0, iI_0lt, jL_iI, iI_jL, lc_eq, lc_lt, lc_le, lc_ge, lc_gt, Nat.sub_zero, Nat.zero_le, true_and, and_true, Nat.reduceAdd, Nat.reduceLeDiff]
      refine ⟨0, rfl, by decide, ?_⟩
      rw [e0]
      simp (disch := omega) only [en_ops, en_opc, iI_add, iI_mul, iI_sub, jL_add, jL_mul, iI_le, iI_lt, iI_eq, iI_eq0, iI_lt0, iI_0le, iI_le0, iI_0lt, jL_iI, iI_jL, lc_eq, lc_lt, lc_le, lc_ge, lc_gt, Nat.sub_zero, Nat.zero_le, true_and, and_true, Nat.reduceAdd, Nat.reduceLeDiff]
      refine ⟨fun e => by omega, fun _ => ?_⟩
      suffices L45 : ∀ z : Nat, z ≤ nz → ∀ (h9 : en_I) (x8 x9 x10 x11 : Value), mvR V f nc nz wl he bt fr cr sm hi ((c * 6 + z) * 3) h9 → en_V G Y_X11_moves (d + 5) wN wN K 45 [.ref 110, .int (iI l), .int (iI he), .int (iI bt), .int (iI fr), .int (iI (sumTo ((c * 6 + z) * 3) (mvN V f nz he bt fr cr))), .int (iI c), .int (iI z), x8, x9, x10, x11] [] h9 hl hr xc xs by
        rw [show c * 18 = (c * 6 + 0) * 3 by omega] at I9 ⊢
        exact L45 0 (by omega) h9 _ _ _ _ I9
      refine lp nz (fun h9 x8 x9 x10 x11 I9 => ?_) (fun z hz ih2 h9 x8 x9 x10 x11 I9 => ?_)
      · have e1 : h9 113 1 = iI nz := by rw [I9.1 113 (by unfold Pmo; omega), hb 1 (by omega), n1]
        have zz : ∀ n, (c * 6 + nz) * 3 ≤ n → n < (c + 1) * 18 → f (cN n) (zN n) (kN n) = 0 := fun n h1 h2 => hB.2.1 _ _ _ (by unfold zN; omega)
        have I8 := I9.skip (N := (c + 1) * 18) hB (by omega) zz
        have eM := (skip_N (V := V) (he := he) (bt := bt) (fr := fr) (cr := cr) (wl := wl) (sm := sm) hB (show (c * 6 + nz) * 3 ≤ (c + 1) * 18 by omega) zz).1
        rw [eM] at ih
        apply s_X11_moves_45
        simp (disch := omega) only [B_X11_moves_45, r10, sh110, lt110, sh113, lt113, en_ops, en_opc, iI_add, iI_mul, iI_sub, jL_add, jL_mul, iI_le, iI_lt, iI_eq, iI_eq0, iI_lt0, iI_0le, iI_le0, iI_0lt, jL_iI, iI_jL, lc_eq, lc_lt, lc_le, lc_ge, lc_gt, Nat.sub_zero, Nat.zero_le, true_and, and_true, Nat.reduceAdd, Nat.reduceLeDiff]
        refine ⟨1, rfl, by decide, ?_⟩
        rw [e1]
        simp (disch := omega) only [en_ops, en_opc, iI_add, iI_mul, iI_sub, jL_add, jL_mul, iI_le, iI_lt, iI_eq, iI_eq0, iI_lt0, iI_0le, iI_le0, iI_0lt, jL_iI, iI_jL, lc_eq, lc_lt, lc_le, lc_ge, lc_gt, Nat.sub_zero, Nat.zero_le, true_and, and_true, Nat.reduceAdd, Nat.reduceLeDiff]
        exact ⟨fun _ => ih h9 _ _ _ _ _ I8, fun e => absurd (Int.le_refl _) e⟩
      · have e1 : h9 113 1 = iI nz := by rw [I9.1 113 (by unfold Pmo; omega), hb 1 (by omega), n1]
        apply s_X11_moves_45
        simp (disch := omega) only [B_X11_moves_45, r10, sh110, lt110, sh113, lt113, en_ops, en_opc, iI_add, iI_mul, iI_sub, jL_add, jL_mul, iI_le, iI_lt, iI_eq, iI_eq0, iI_lt0, iI_0le, iI_le0, iI_0lt, jL_iI, iI_jL, lc_eq, lc_lt, lc_le, lc_ge, lc_gt, Nat.sub_zero, Nat.zero_le, true_and, and_true, Nat.reduceAdd, Nat.reduceLeDiff]
        refine ⟨1, rfl, by decide, ?_⟩
        rw [e1]
        simp (disch := omega) only [en_ops, en_opc, iI_add, iI_mul, iI_sub, jL_add, jL_mul, iI_le, iI_lt, iI_eq, iI_eq0, iI_lt0, iI_0le, iI_le0, iI_0lt, jL_iI, iI_jL, lc_eq, lc_lt, lc_le, lc_ge, lc_gt, Nat.sub_zero, Nat.zero_le, true_and, and_true, Nat.reduceAdd, Nat.reduceLeDiff]
        refine ⟨fun e => by omega, fun _ => ?_⟩
        exact m_mv59 hR hs hb hn hB hwl hcr hV hVr hfr hc hz (fun h8 x8 x9 x10 x11 I8 => ih2 h8 x8 x9 x10 x11 I8) 0 (by omega) h9 _ _ _ I9
  suffices L6 : ∀ i : Nat, i ≤ 576 → ∀ h9, Fr (· = 130) hi h9 → (∀ j, j < i → h9 130 j = iI 0) → en_V G Y_X11_moves (d + 5) wN wN K 6 [.ref 110, .int (iI l), .int (iI he), .int (iI bt), .int (iI fr), .int (iI 0), .int (iI i), jk, jk, jk, jk, jk] [] h9 hl hr xc xs from L6 0 (by omega) hi Fr.rf (fun j hj => by omega)
  refine lp 576 (fun h9 F9 E9 => ?_) (fun i hi9 ih h9 F9 E9 => ?_)
  · apply s_X11_moves_6
    simp (disch := omega) only [B_X11_moves_6, en_ops, en_opc, iI_add, iI_mul, iI_sub, jL_add, jL_mul, iI_le, iI_lt, iI_eq, iI_eq0, iI_lt0, iI_0le, iI_le0, iI_0lt, jL_iI, iI_jL, lc_eq, lc_lt, lc_le, lc_ge, lc_gt, Nat.sub_zero, Nat.zero_le, true_and, and_true, Nat.reduceAdd, Nat.reduceLeDiff]
    refine ⟨fun _ => L31 0 (by omega) h9 _ _ _ _ _ ⟨F9.mono (fun x e => Or.inr (Or.inr (Or.inr e))), fun j _ => by rw [F9 115 (by decide)], ?_, fun c z k hc hz hk => ?_, fun j j1 _ => E9 j j1⟩, fun e => absurd (show (576 : Int) ≤ ((576 : Nat) : Int) by omega) e⟩
    · rw [F9 115 (by decide), hv]
      refine iI_eq_of ?_
      unfold smN
      rw [if_pos rfl, Nat.zero_mul, sumTo_z]; omega
    · rw [E9 _ (by omega)]
      refine iI_eq_of ?_
      show 0 = fN V f nz he bt fr cr (0 * 18) c z k - f c z k + arN V f nc nz wl he bt fr cr (0 * 18) c z k
      unfold fN arN
      rw [Nat.zero_mul, if_neg (by omega), sumTo_z]; omega
  · apply s_X11_moves_6
    simp (disch := omega) only [B_X11_moves_6, r31, sh110, lt110, sh130, lt130, en_ops, en_opc, iI_add, iI_mul, iI_sub, jL_add, jL_mul, iI_le, iI_lt, iI_eq, iI_eq0, iI_lt0, iI_0le, iI_le0, iI_0lt, jL_iI, iI_jL, lc_eq, lc_lt, lc_le, lc_ge, lc_gt, Nat.sub_zero, Nat.zero_le, true_and, and_true, Nat.reduceAdd, Nat.reduceLeDiff]
    refine ⟨fun e => by omega, fun _ => ⟨i, rfl, by omega, ih _ (Fr.up F9 (by rfl)) (fun j hj => ?_)⟩⟩
    by_cases e : j = i
    · subst e; exact up_at
    · rw [up_ne (Or.inr e)]; exact E9 j (by omega)
end
