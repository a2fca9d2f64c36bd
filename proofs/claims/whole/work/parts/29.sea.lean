section
variable {G : en_G} {d : Nat} {K : en_K} {a nc nz : Nat} {f g : Nat → Nat → Nat → Int} {hi : en_I} {hl : en_L} {hr : en_F} {xc xs : Nat}
variable {V : Nat → (Nat → Int) → Int} {he bt fr : Int} {cr wl sm : Nat → Int}
theorem shH.cg (h : shH a nc nz f hi) (e : ∀ c z k, c < 12 → z < 6 → k < 3 → g c z k = f c z k) : shH a nc nz g hi :=
  ⟨h.1, h.2.1, h.2.2.1, h.2.2.2.1, fun c z k hc hz hk => by rw [e c z k hc hz hk]; exact h.2.2.2.2 c z k hc hz hk⟩
theorem arrH.cg (h : arrH f hi) (e : ∀ c z k, g c z k = f c z k) : arrH g hi := fun c z k hc hz hk => by rw [e c z k]; exact h c z k hc hz hk
def Pcc (a x : Nat) : Prop := x = 34 ∨ x = 35 ∨ x = 36 ∨ x = 37 ∨ x = a + 1 ∨ x = a + 7
/-- within an hour's carrying: N places are done, the cell c is at hand -/
def mvI (V : Nat → (Nat → Int) → Int) (f : Nat → Nat → Nat → Int) (a nc nz : Nat) (wl : Nat → Int) (he bt fr : Int) (cr sm : Nat → Int) (c : Nat) (hi0 : en_I) (N : Nat) (hi : en_I) : Prop :=
  Fr (Pcc a) hi0 hi ∧ shH a nc nz (fN V f nz he bt fr cr N) hi ∧ arrH (arN V f nc nz wl he bt fr cr N) hi ∧ smH a (smN V f nz he bt fr cr sm N) hi ∧ aimH nc wl fr c hi ∧ wvH he bt fr hi ∧ hi 35 7 = iI (cr c) ∧ hi 35 8 = iI c
theorem mvI.skip {hi0 : en_I} {c M N : Nat} (hB : fB nc nz f) (h : mvI V f a nc nz wl he bt fr cr sm c hi0 M hi) (hMN : M ≤ N) (hz : ∀ n, M ≤ n → n < N → f (cN n) (zN n) (kN n) = 0) : mvI V f a nc nz wl he bt fr cr sm c hi0 N hi := by
  obtain ⟨h1, h2, h3, h4, h5⟩ := h
  obtain ⟨-, e2, e3, e4⟩ := skip_N (V := V) (he := he) (bt := bt) (fr := fr) (cr := cr) (wl := wl) (sm := sm) hB hMN hz
  exact ⟨h1, h2.cg (fun c z k _ hz hk => e4 c z k hz hk), h3.cg e3, fun i hi9 => by rw [e2 i]; exact h4 i hi9, h5⟩
def szH (f : Nat → Nat → Nat → Int) (nz c z : Nat) (hi : en_I) : Prop := hi 35 0 = iI z ∧ hi 35 2 = iI (abP (sumTo z (aP f c)) (aP f c z) (wP f nz c)) ∧ hi 35 3 = iI (beP (sumTo z (aP f c)) (wP f nz c))
theorem t_cc104 {L c z : Nat} {hi0 : en_I} {all : Int} (hS : seR hr) (hL : isLw L) (hLR : lwR L hr) (hV : lwV G L V hi0) (hVr : ∀ w nm, -2147483648 ≤ V w nm ∧ V w nm < 2147483648) (ha : isSh a) (hR : shR a hr) (hB : fB nc nz f)
    (hwl : 0 ≤ cgP wl fr c ∧ cgP wl fr c ≤ 16) (hc : c < nc) (hnc : nc ≤ 12) (hz : z < nz) (hnz : nz ≤ 6)
    (H : ∀ hi' x8 x9 x10, mvI V f a nc nz wl he bt fr cr sm c hi0 ((c * 6 + z) * 3 + 3) hi' → en_V G Y_X4_carryCell (d + 4) wN wN K 33 [.ref 34, .ref a, .ref L, .int (iI c), .int (iI all), .int (iI (sumTo ((c * 6 + z) * 3 + 3) (mvN V f nz he bt fr cr) - sumTo (c * 18) (mvN V f nz he bt fr cr))), .int (iI (sumTo (z + 1) (aP f c))), .int (iI (z + 1)), x8, x9, x10] [] hi' hl hr xc xs) :
    ∀ k : Nat, k ≤ 3 → ∀ hi', mvI V f a nc nz wl he bt fr cr sm c hi0 ((c * 6 + z) * 3 + k) hi' → szH f nz c z hi' → en_V G Y_X4_carryCell (d + 4) wN wN K 104 [.ref 34, .ref a, .ref L, .int (iI c), .int (iI all), .int (iI (sumTo ((c * 6 + z) * 3 + k) (mvN V f nz he bt fr cr) - sumTo (c * 18) (mvN V f nz he bt fr cr))), .int (iI (sumTo z (aP f c))), .int (iI z), .int (iI (((c * 6 + z) * 3 : Nat) : Int)), .int (iI (aP f c z)), .int (iI k)] [] hi' hl hr xc xs := by
  obtain ⟨s0, s1, s2, s3, s4, s5, s6, s7, s8, s9, s10, s11⟩ := ha.sh
  obtain ⟨r1, r2, r3, r4, r5, r6, r7⟩ := id hR
  have q1 : a + 1 < 134 := by omega
  have hS' := hS
  obtain ⟨e0, e1, e2⟩ := hS
  obtain ⟨l0, l1, l2, l3⟩ := hL.sh
  have an : a + 1 ≠ 35 ∧ a ≠ 35 ∧ a ≠ 34 ∧ a ≠ 36 ∧ a ≠ 37 ∧ (a + 7 < 50 ∨ 66 ≤ a) ∧ a + 7 ≠ 35 ∧ a + 7 ≠ 34 ∧ a + 1 ≠ 34 := by rcases id ha with rfl | rfl | rfl | rfl | rfl <;> omega
  refine lp 3 (fun hi' hI hs => ?_) (fun k hk ih hi' hI hs => ?_)
  · apply s_X4_carryCell_104
    simp (disch := omega) only [B_X4_carryCell_104, en_ops, en_opc, iI_add, iI_mul, iI_sub, jL_add, jL_mul, iI_le, iI_lt, iI_eq, iI_eq0, iI_lt0, iI_0le, iI_le0, iI_0lt, jL_iI, iI_jL, lc_eq, lc_lt, lc_le, lc_ge, lc_gt, Nat.sub_zero, Nat.zero_le, true_and, and_true, Nat.reduceAdd, Nat.reduceLeDiff]
    exact ⟨fun _ => H hi' _ _ _ hI, fun e => absurd (show (3 : Int) ≤ ((3 : Nat) : Int) by omega) e⟩
  · obtain ⟨n1, n2, n3⟩ := n_at (c := c) (z := z) (k := k) (by omega) hk
    have hI' := hI
    obtain ⟨i1, i2, i3, i4, i5, i6, i7, i8⟩ := hI
    have hv : hi' (a + 1) ((c * 6 + z) * 3 + k) = iI (f c z k) := by
      rw [i2.2.2.2.2 c z k (by omega) (by omega) hk]
      unfold fN
      rw [if_neg (by omega)]
    have f0 := hB.1 c z k
    have f1 : f c z k ≤ 10000000 := Int.le_trans (f_le hB c z hk) (Int.le_trans (aP_le hB hnz (by omega) z) (wP_le hB hnz (by omega)))
    have v1 : ∀ c z k, fN V f nz he bt fr cr ((c * 6 + z) * 3 + k) c z k = f c z k := fun c z k => by unfold fN; rw [if_neg (by omega)]
    apply s_X4_carryCell_104
    simp (disch := omega) only [B_X4_carryCell_104, r1, s0, s1, s2, q1, en_ops, en_opc, iI_add, iI_mul, iI_sub, jL_add, jL_mul, iI_le, iI_lt, iI_eq, iI_eq0, iI_lt0, iI_0le, iI_le0, iI_0lt, jL_iI, iI_jL, lc_eq, lc_lt, lc_le, lc_ge, lc_gt, Nat.sub_zero, Nat.zero_le, true_and, and_true, Nat.reduceAdd, Nat.reduceLeDiff]
    refine ⟨fun e => by omega, fun _ => ⟨(c * 6 + z) * 3 + k, iI_eq_of (by omega), by omega, ?_⟩⟩
    rw [hv]
    simp (disch := omega) only [e0, en_ops, en_opc, iI_add, iI_mul, iI_sub, jL_add, jL_mul, iI_le, iI_lt, iI_eq, iI_eq0, iI_lt0, iI_0le, iI_le0, iI_0lt, jL_iI, iI_jL, lc_eq, lc_lt, lc_le, lc_ge, lc_gt, Nat.sub_zero, Nat.zero_le, true_and, and_true, Nat.reduceAdd, Nat.reduceLeDiff]
    refine ⟨fun e => ?_, fun e => ⟨⟨by decide, by decide⟩, 1, rfl, by decide, ⟨by decide, by decide⟩, ⟨by decide, by decide⟩, ?_⟩⟩
    · have z0 : f (cN ((c * 6 + z) * 3 + k)) (zN ((c * 6 + z) * 3 + k)) (kN ((c * 6 + z) * 3 + k)) = 0 := by rw [n1, n2, n3]; omega
      have hI2 := hI'.skip (N := (c * 6 + z) * 3 + (k + 1)) hB (by omega) (fun n h1 h2 => by rw [show n = (c * 6 + z) * 3 + k by omega]; exact z0)
      have ez := (n_zero (V := V) (he := he) (bt := bt) (fr := fr) (cr := cr) (wl := wl) hB z0).1
      have := ih hi' hI2 hs
      rw [show (c * 6 + z) * 3 + (k + 1) = (c * 6 + z) * 3 + k + 1 by omega, sumTo_s, ez, Int.add_zero] at this
      exact this
    · rw [show (((c * 6 + z) * 3 : Nat) : Int) + (k : Int) = (((c * 6 + z) * 3 + k : Nat) : Int) by omega]
      generalize hg : en_up hi' 35 1 (iI (k : Int)) = h5
      have F5 : Fr (· = 35) hi' h5 := by subst hg; exact Fr.up Fr.rf (by rfl)
      have F05 : Fr (Pcc a) hi0 h5 := i1.tr (F5.mono (fun x e => Or.inr (Or.inl e)))
      obtain ⟨z1, z2, z3⟩ := hs
      obtain ⟨w4, w5, w6⟩ := id i6
      have N5 : nmH (nmS f nz he bt fr (cr c) c z k) h5 := by
        subst hg
        refine nm_all ?_ ?_ ?_ ?_ ⟨?_, ?_, ?_⟩ ?_ ?_ <;> simp [en_up, w4, w5, w6, z1, z2, z3, i7, i8]
      have E5 : ∀ x, x ≠ 35 → h5 x = hi' x := fun x hx => F5 x hx
      refine t_carryHeap (nm := nmS f nz he bt fr (cr c) c z k) (f := fN V f nz he bt fr cr ((c * 6 + z) * 3 + k)) (v := f c z k) (m := mvP V f nz he bt fr cr c z k) (w := wrP V f nz he bt fr cr c z k) hS' hL hLR (hV.mono hL F05 (fun x q => by rcases q with q | q | q | q | q | q <;> omega)) hVr N5 rfl ha hR (shH.fr ha i2 F5 (fun x g1 g2 => by omega)) (fun c' z' k' hc' hz' hk' => by rw [E5 37 (by omega)]; exact i3 c' z' k' hc' hz' hk') (fun i hi9 => by rw [E5 _ an.2.2.2.2.2.2.1]; exact i4 i hi9) (by unfold aimH; rw [E5 34 (by omega)]; exact i5) hwl hc hz hk (v1 c z k) f0 f1 rfl rfl (fun hi2 F2 S2 A2 M2 => ?_)
      simp (disch := omega) only [en_ops, en_opc, iI_add, iI_mul, iI_sub, jL_add, jL_mul, iI_le, iI_lt, iI_eq, iI_eq0, iI_lt0, iI_0le, iI_le0, iI_0lt, jL_iI, iI_jL, lc_eq, lc_lt, lc_le, lc_ge, lc_gt, Nat.sub_zero, Nat.zero_le, true_and, and_true, Nat.reduceAdd, Nat.reduceLeDiff]
      have E2 : ∀ x, ¬ Pmv a x → hi2 x = h5 x := fun x hx => F2 x hx
      have p34 : ¬ Pmv a 34 := fun q => by rcases q with q | q | q | q <;> omega
      have p35 : ¬ Pmv a 35 := fun q => by rcases q with q | q | q | q <;> omega
      have R35 : ∀ j, j ≠ 1 → hi2 35 j = hi' 35 j := fun j hj => by rw [E2 35 p35, ← hg, up_ne (Or.inr hj)]
      have nx : mvI V f a nc nz wl he bt fr cr sm c hi0 ((c * 6 + z) * 3 + (k + 1)) hi2 := by
        rw [show (c * 6 + z) * 3 + (k + 1) = (c * 6 + z) * 3 + k + 1 by omega]
        refine ⟨F05.tr (F2.mono (fun x q => by rcases q with q | q | q | q <;> unfold Pcc <;> omega)), S2.cg (fun c' z' k' hc' hz' hk' => ?_), A2.cg (fun c' z' k' => ?_), fun i hi9 => ?_, ?_, ⟨?_, ?_, ?_⟩, ?_, ?_⟩
        · unfold updF fN
          by_cases j : c' = c ∧ z' = z ∧ k' = k
          · rw [if_pos j, if_pos (by rw [j.1, j.2.1, j.2.2]; omega)]
            obtain ⟨g1, g2, g3⟩ := j
            subst g1 g2 g3
            rfl
          · rw [if_neg j]
            have j2 : ¬ (c' * 6 + z') * 3 + k' = (c * 6 + z) * 3 + k := fun q => j ((ix_inj (c := c) (c' := c') (z := z) (k := k) (by omega) hk hz' hk').mp q)
            by_cases j3 : (c' * 6 + z') * 3 + k' < (c * 6 + z) * 3 + k
            · rw [if_pos (by omega), if_pos j3]
            · rw [if_neg (by omega), if_neg j3]
        · show sumTo _ _ = _
          rw [sumTo_s]
          unfold arN ctN
          rw [n1, n2, n3]
        · rw [M2 i hi9]
          refine iI_eq_of ?_
          show smN V f nz he bt fr cr sm ((c * 6 + z) * 3 + k) i + (if i = 2 ∧ z = 0 then wrP V f nz he bt fr cr c z k else 0) = _
          unfold smN
          rw [sumTo_s]
          unfold sdN
          rw [n1, n2, n3]
          by_cases j : i = 2
          · simp only [if_pos j]
            by_cases j4 : z = 0
            · rw [if_pos ⟨j, j4⟩, if_pos j4]; omega
            · rw [if_neg (fun q => j4 q.2), if_neg j4]; omega
          · simp only [if_neg j]; rw [if_neg (fun q => j q.1)]; omega
        · unfold aimH; rw [E2 34 p34, E5 34 (by omega)]; exact i5
        · rw [R35 4 (by omega)]; exact w4
        · rw [R35 5 (by omega)]; exact w5
        · rw [R35 6 (by omega)]; exact w6
        · rw [R35 7 (by omega)]; exact i7
        · rw [R35 8 (by omega)]; exact i8
      have := ih hi2 nx ⟨by rw [R35 0 (by omega)]; exact z1, by rw [R35 2 (by omega)]; exact z2, by rw [R35 3 (by omega)]; exact z3⟩
      rw [show (c * 6 + z) * 3 + (k + 1) = (c * 6 + z) * 3 + k + 1 by omega, sumTo_s] at this
      unfold mvN at this ⊢
      rw [n1, n2, n3] at this
      refine cast (congrArg (fun q => en_V G Y_X4_carryCell (d + 4) wN wN K 104 [.ref 34, .ref a, .ref L, .int (iI c), .int (iI all), .int (iI q), .int (iI (sumTo z (aP f c))), .int (iI z), .int (iI (((c * 6 + z) * 3 : Nat) : Int)), .int (iI (aP f c z)), .int (iI (k + 1))] [] hi2 hl hr xc xs) ?_) this
      omega
end
