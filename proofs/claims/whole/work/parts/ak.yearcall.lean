def yeR0 (W : zW) (n : Nat) : tZ × Nat × hYr := yrZ (zTp W, n) 22 0 (y0Z (zTp W, n)) (fun _ => ((0, 0, 0), 0))
def yearW (W : zW) (n : Nat) : zW := if zNy W = 4 then zTx W (-1) else match (yeR0 W n).1 with
  | .inl e => zTx W (e.2 : Int)
  | .inr _ => zAy (zTx W (-1)) (yeR0 W n).2.1 (yeR0 W n).2.2
def yearA (W : zW) (n : Nat) : Int := if zNy W = 4 then -1 else match (yeR0 W n).1 with
  | .inl e => (e.1 : Int) - 10
  | .inr _ => zNy W
theorem yeR0_ok {W : zW} {m q : Nat} (h : (yeR0 W m).1 = .inr q) : (yeR0 W m).2.1 ≤ 20 ∧ 1 ≤ (yeR0 W m).2.1 ∧ ∀ j, j < (yeR0 W m).2.1 → yOk ((yeR0 W m).2.2 j) := by
  obtain ⟨r1, r2⟩ := yr_ok (X := (zTp W, m)) 22 0 (y0Z (zTp W, m)) (fun _ => ((0, 0, 0), 0)) rfl (by decide) (fun g => absurd g (by decide)) (fun q _ j hj => absurd hj (Nat.not_lt_zero _))
  obtain ⟨a1, a2, a3, a4⟩ := r2 q h
  refine ⟨by rw [if_neg (by decide)] at a1; exact a1, ?_, a4⟩
  by_cases w : skE (zTp W, m) 0 < m
  · have e : y0Z (zTp W, m) = .inr (skE (zTp W, m) 0) := if_pos w
    rw [e] at a3
    have := kd_le (zTp W, m) (skE (zTp W, m) 0)
    have z0 : ¬ kdE (zTp W, m) (skE (zTp W, m) 0) = 0 := by
      rw [kd_0]
      show ¬ m ≤ skE (zTp W, m) 0
      omega
    have := a3 ⟨z0, show kdE (zTp W, m) (skE (zTp W, m) 0) ≠ 4 by omega⟩
    rw [← e] at this
    exact this
  · have e : y0Z (zTp W, m) = .inl (1, skE (zTp W, m) 0) := if_neg w
    have st : yeR0 W m = (.inl (1, skE (zTp W, m) 0), 0, (fun _ => ((0, 0, 0), 0))) := by
      unfold yeR0
      rw [e]
      exact if_neg (fun g => g.2 rfl)
    rw [st] at h
    cases h
theorem zOK.ay {W : zW} {n m : Nat} {Y : hYr} (h : zOK n W) (h4 : zNy W < 4) (hm : 1 ≤ m) : zOK n (zAy W m Y) := by
  obtain ⟨h1, h2, h3, h4', h5, h6, h7, h8, h9, h10, h11⟩ := h
  refine ⟨h1, h2, by show zNy W + 1 ≤ 4; omega, h4', h5, fun y hy => ?_, h7, h8, h9, h10, h11⟩
  show 1 ≤ (if y = zNy W then (m, Y) else zYs W y).1
  by_cases e : y = zNy W
  · rw [if_pos e]; exact hm
  · rw [if_neg e]; exact h6 y (by have : y < zNy W + 1 := hy; omega)
theorem zOK.year {W : zW} {n m : Nat} (h : zOK n W) : zOK (n + 1) (yearW W m) := by
  unfold yearW
  by_cases e : zNy W = 4
  · rw [if_pos e]; exact h.tx
  · rw [if_neg e]
    have := h.2.2.1
    rcases hr : (yeR0 W m).1 with e1 | q
    · exact h.tx
    · exact (h.tx).ay (by show zNy W < 4; omega) (yeR0_ok hr).2.1
section
variable {G : en_G} {d : Nat} {K : en_K} {W : zW} {n : Nat} {hi : en_I} {hl : en_L} {hr : en_F} {xc xs : Nat}
theorem c_year {m : Int} (hI : InvC G W hi hr) (hz : zOK n W) (h1 : 1 ≤ xc) (h6 : 6 ≤ xs) (hm : iRg m) (H : cEnd G W (yearW W m.toNat) (if 0 ≤ m ∧ m ≤ zNt W then 0 else 3) (.int (iI (yearA W m.toNat))) K hi hl hr) : en_Call G (d + 10) xc xs Y_X10_year wN wN [.ref 0, .int (iI m)] hi hl hr K := by
  obtain ⟨pl, hR, hN⟩ := id hI
  obtain ⟨z1, z2, z3, -⟩ := id hz
  have t0 : hi 0 1 = iI (zNt W : Int) := hN.1.1
  have l0 : hi 0 6 = iI (zNl W : Int) := hN.2.2.1
  have y0 : hi 0 8 = iI (zNy W : Int) := hN.2.2.2.1
  have hpl := hR.2.1.2.2.1
  obtain ⟨r1, r3, r4, r5, r7, r9, r10, r12, r13, r14, r15, r16, r17, r18⟩ := id hR.1
  have s15 : en_SH 15 = (119, 4) := by decide
  have lt15 : 15 < 134 := by decide
  have hX := hR.2.2.2.2.2.2
  have hyr := hX.2.1
  have h28 : hr 28 0 = .ref 26 := hX.2.2.1
  apply en_X10_year
  simp (disch := omega) only [B_X10_year_0, sh0, lt0, t0, en_ops, en_opc, iI_add, iI_mul, iI_sub, jL_add, jL_mul, iI_le, iI_lt, iI_eq, iI_eq0, iI_lt0, iI_0le, iI_le0, iI_0lt, jL_iI, iI_jL, lc_eq, lc_lt, lc_le, lc_ge, lc_gt, Nat.sub_zero, Nat.zero_le, true_and, and_true, Nat.reduceAdd, Nat.reduceLeDiff]
  refine c_isWithin hm (by unfold iRg; omega) (by unfold iRg; omega) ?_
  by_cases e : 0 ≤ m ∧ m ≤ zNt W
  rotate_left
  · rw [if_neg e]
    rw [if_neg e] at H
    simp (disch := omega) only [sh0, lt0, en_ops, en_opc, iI_add, iI_mul, iI_sub, jL_add, jL_mul, iI_le, iI_lt, iI_eq, iI_eq0, iI_lt0, iI_0le, iI_le0, iI_0lt, jL_iI, iI_jL, lc_eq, lc_lt, lc_le, lc_ge, lc_gt, Nat.sub_zero, Nat.zero_le, true_and, and_true, Nat.reduceAdd, Nat.reduceLeDiff]
    exact ⟨h1, h6, c_needRight hI hz (Nat.le_refl _) (Nat.le_refl _) (Or.inl rfl) (fun e => absurd e (by decide)) (fun _ hi' I' F' => H.2 2 (by omega) rfl hi' hl hr I' F' Fc.rf Fc.rf)⟩
  rw [if_pos e]
  rw [if_pos e] at H
  have Hx := H.1 rfl
  simp (disch := omega) only [sh0, lt0, en_ops, en_opc, iI_add, iI_mul, iI_sub, jL_add, jL_mul, iI_le, iI_lt, iI_eq, iI_eq0, iI_lt0, iI_0le, iI_le0, iI_0lt, jL_iI, iI_jL, lc_eq, lc_lt, lc_le, lc_ge, lc_gt, Nat.sub_zero, Nat.zero_le, true_and, and_true, Nat.reduceAdd, Nat.reduceLeDiff]
  refine ⟨h1, h6, c_needRight hI hz (Nat.le_refl _) (Nat.le_refl _) (Or.inr rfl) (fun _ => ?_) (fun e => absurd e (by decide))⟩
  simp (disch := omega) only [sh0, lt0, en_ops, en_opc, iI_add, iI_mul, iI_sub, jL_add, jL_mul, iI_le, iI_lt, iI_eq, iI_eq0, iI_lt0, iI_0le, iI_le0, iI_0lt, jL_iI, iI_jL, lc_eq, lc_lt, lc_le, lc_ge, lc_gt, Nat.sub_zero, Nat.zero_le, true_and, and_true, Nat.reduceAdd, Nat.reduceLeDiff]
  rw [up_ne (Or.inr (by decide)), up_ne (Or.inr (by decide)), y0]
  simp (disch := omega) only [sh0, lt0, en_ops, en_opc, iI_add, iI_mul, iI_sub, jL_add, jL_mul, iI_le, iI_lt, iI_eq, iI_eq0, iI_lt0, iI_0le, iI_le0, iI_0lt, jL_iI, iI_jL, lc_eq, lc_lt, lc_le, lc_ge, lc_gt, Nat.sub_zero, Nat.zero_le, true_and, and_true, Nat.reduceAdd, Nat.reduceLeDiff]
  have F2 : Fx (fun a j => a = 0 ∧ (j = 1 ∨ j = 2)) hi (en_up (en_up hi 0 1 (iI 0)) 0 2 (iI (-1))) := Fx.up (Fx.up Fx.rf ⟨rfl, Or.inl rfl⟩) ⟨rfl, Or.inr rfl⟩
  generalize hg2 : en_up (en_up hi 0 1 (iI 0)) 0 2 (iI (-1)) = g2 at F2 ⊢
  have e01 : g2 0 1 = iI 0 := by rw [← hg2, up_ne (Or.inr (by decide)), up_at]
  have e02 : g2 0 2 = iI (-1) := by rw [← hg2, up_at]
  have e08 : g2 0 8 = iI (zNy W : Int) := by rw [F2 0 8 (by decide)]; exact y0
  have old : ∀ g : en_I, Fx (fun a j => (a = 0 ∧ (j = 1 ∨ j = 2 ∨ j = 8)) ∨ a = 26 ∨ (zNy W < 4 ∧ 66 + 5 * zNy W ≤ a ∧ a ≤ 66 + 5 * zNy W + 4)) hi g → lwA G (zNl W) (zVs W) g ∧ (∀ y, y < zNy W → yeH (66 + 5 * y) (zYs W y).1 (zYs W y).2 g) ∧ Fr Ptx hi g ∧ g 0 11 = hi 0 11 ∧ g 0 6 = iI (zNl W : Int) := by
    intro g F
    have rr : ∀ x, x ≠ 0 → x ≠ 26 → ¬ (zNy W < 4 ∧ 66 + 5 * zNy W ≤ x ∧ x ≤ 66 + 5 * zNy W + 4) → g x = hi x := fun x g1 g2 g3 => F.row (fun j w => by
      rcases w with w | w | w
      · exact g1 w.1
      · exact g2 w
      · exact g3 w)
    refine ⟨fun i hi9 => (hN.2.2.2.2.2.2.1 i hi9).same (rr _ (by omega) (by omega) (by omega)) (rr _ (by omega) (by omega) (by omega)) (rr _ (by omega) (by omega) (by omega)) (rr _ (by omega) (by omega) (by omega)), fun y hy => ?_, F.fr (fun a j w => by unfold Ptx; omega), F 0 11 (by omega), by rw [F 0 6 (by omega)]; exact l0⟩
    obtain ⟨a1, a2, a3⟩ := hN.2.2.2.2.2.2.2.1 y hy
    refine ⟨by rw [rr _ (by omega) (by omega) (by omega)]; exact a1, a2, fun i hi9 => ?_⟩
    rw [rr (66 + 5 * y + 1) (by omega) (by omega) (by omega), rr (66 + 5 * y + 2) (by omega) (by omega) (by omega), rr (66 + 5 * y + 3) (by omega) (by omega) (by omega), rr (66 + 5 * y + 4) (by omega) (by omega) (by omega)]
    exact a3 i hi9
  have tp0 : ∀ g : en_I, g 0 1 = iI 0 → ∀ fa, g 0 1 = iI (zNt (zTx W fa) : Int) ∧ ∀ j, j < zNt (zTx W fa) → g 1 j = iI (sbB (zTp (zTx W fa) j)) := fun g e fa => ⟨e, fun j hj => absurd hj (Nat.not_lt_zero _)⟩
  have FC : ∀ {P : Nat → Nat → Prop} {g : en_I}, Fx P hi g → (∀ a j, P a j → a < 110) → Fc hi g := fun F hp x hx => F.row (fun j w => by have := hp x j w; omega)
  refine ⟨fun g => ?_, fun g => ?_⟩
  · have ny4 : zNy W < 4 := by omega
    obtain ⟨yer, e15⟩ := hyr (zNy W) (by omega)
    have isy : isYe (66 + 5 * zNy W) := by unfold isYe; omega
    rw [r7, r1, r14]
    simp (disch := omega) only [s15, lt15, en_ops, en_opc, iI_add, iI_mul, iI_sub, jL_add, jL_mul, iI_le, iI_lt, iI_eq, iI_eq0, iI_lt0, iI_0le, iI_le0, iI_0lt, jL_iI, iI_jL, lc_eq, lc_lt, lc_le, lc_ge, lc_gt, Nat.sub_zero, Nat.zero_le, true_and, and_true, Nat.reduceAdd, Nat.reduceLeDiff]
    refine ⟨zNy W, rfl, ny4, _, e15, by omega, ?_⟩
    have hT : m.toNat ≤ 600 ∧ ∀ j, j < m.toNat → zTp W j < 256 ∧ g2 1 j = iI (sbB (zTp W j)) := ⟨by omega, fun j hj => ⟨z1.2 j (by omega), by rw [F2 1 j (by omega)]; exact hN.1.2 j (by omega)⟩⟩
    have s28 : (en_SH 28).1 = 0 ∧ 28 < 134 := by decide
    refine ⟨s28, ?_⟩
    rw [show m = ((m.toNat : Nat) : Int) by omega]
    have FR : Fx (fun a j => a = 26 ∨ (a = 29 ∧ j = 1)) hr (en_up hr 26 0 (.ref 1)) := Fx.up Fx.rf (Or.inl rfl)
    have Fhr : Fc hr (en_up hr 26 0 (.ref 1)) := fun x hx => FR.row (fun j w => by omega)
    generalize hgr : en_up hr 26 0 (.ref 1) = hr' at FR Fhr
    have y13 : hr' 0 13 = .ref 26 := by rw [FR 0 13 (by decide)]; exact r13
    refine t_readYear (d := d + 1) (m := m.toNat) (Tb := zTp W) isy yer h28 hT (fun h4 T4 F4 R4 => ?_)
    rw [hgr]
    replace T4 : tkX (zTp W, m.toNat) (yeR0 W m.toNat).1 h4 := T4
    replace R4 : ∀ q, (yeR0 W m.toNat).1 = .inr q → h4 (66 + 5 * zNy W) 4 = iI ((yeR0 W m.toNat).2.1 : Int) ∧ yeI (66 + 5 * zNy W) (yeR0 W m.toNat).2.1 (yeR0 W m.toNat).2.2 h4 := R4
    show en_kk _ _ _ _ _ _ (.inl (some (.int (iI (zFk (yeR0 W m.toNat).1 : Int))))) _ _ _
    obtain ⟨f7, f8, f4, f0⟩ := T4.f7
    have f08 : h4 0 8 = iI (zNy W : Int) := by rw [F4 0 8 (by omega)]; exact e08
    have FA : Fx (fun a j => (a = 0 ∧ (j = 1 ∨ j = 2 ∨ j = 8)) ∨ a = 26 ∨ (zNy W < 4 ∧ 66 + 5 * zNy W ≤ a ∧ a ≤ 66 + 5 * zNy W + 4)) hi h4 := (F2.mono (fun a j w => Or.inl ⟨w.1, by omega⟩)).tr (F4.mono (fun a j w => by rcases w with w | w; exact Or.inr (Or.inl w); exact Or.inr (Or.inr ⟨ny4, w⟩)))
    have f01 : h4 0 1 = iI 0 := by rw [F4 0 1 (by omega)]; exact e01
    simp (disch := omega) only [sh0, lt0, y13, sh26, lt26, f8, en_ops, en_opc, iI_add, iI_mul, iI_sub, jL_add, jL_mul, iI_le, iI_lt, iI_eq, iI_eq0, iI_lt0, iI_0le, iI_le0, iI_0lt, jL_iI, iI_jL, lc_eq, lc_lt, lc_le, lc_ge, lc_gt, Nat.sub_zero, Nat.zero_le, true_and, and_true, Nat.reduceAdd, Nat.reduceLeDiff]
    rcases hq : (yeR0 W m.toNat).1 with e1 | q
    · rw [hq] at f0 f4
      have k0 : zFk (.inl e1) ≠ 0 := fun g => by obtain ⟨q, hq⟩ := f0.mp g; cases hq
      refine ⟨fun g => absurd g (by omega), fun _ => ?_⟩
      have eW : yearW W m.toNat = zTx W (e1.2 : Int) := by
        unfold yearW
        rw [if_neg (by omega), hq]
      have eA : yearA W m.toNat = (e1.1 : Int) - 10 := by
        unfold yearA
        rw [if_neg (by omega), hq]
      rw [eW, eA] at Hx
      have F5 : Fx (fun a j => (a = 0 ∧ (j = 1 ∨ j = 2 ∨ j = 8)) ∨ a = 26 ∨ (zNy W < 4 ∧ 66 + 5 * zNy W ≤ a ∧ a ≤ 66 + 5 * zNy W + 4)) hi (en_up h4 0 2 (iI (zFp (.inl e1)))) := Fx.up FA (Or.inl ⟨rfl, by decide⟩)
      obtain ⟨o1, o2, o3, o4, o5⟩ := old _ F5
      refine Hx _ hl hr' ⟨pl, hR.fx FR, hN.txt hz hpl rfl rfl rfl rfl rfl o3 o4 (tp0 _ (by rw [up_ne (Or.inr (by decide))]; exact f01) _) up_at o5 ?_ o1 o2⟩ (FC F5 (fun a j w => by omega)) Fc.rf Fhr
      rw [up_ne (Or.inr (by decide))]
      exact f08
    · rw [hq] at f0 f4
      have k0 : zFk (.inr q) = 0 := rfl
      rw [k0]
      refine ⟨fun _ => ?_, fun g => (g (by first | trivial | rfl)).elim⟩
      rw [show en_up h4 0 2 (iI (zFp (.inr q))) 0 8 = iI (zNy W : Int) by rw [up_ne (Or.inr (by decide))]; exact f08, up_at]
      simp (disch := omega) only [en_ops, en_opc, iI_add, iI_mul, iI_sub, jL_add, jL_mul, iI_le, iI_lt, iI_eq, iI_eq0, iI_lt0, iI_0le, iI_le0, iI_0lt, jL_iI, iI_jL, lc_eq, lc_lt, lc_le, lc_ge, lc_gt, Nat.sub_zero, Nat.zero_le, true_and, and_true, Nat.reduceAdd, Nat.reduceLeDiff]
      rw [show (zNy W : Int) + 1 - 1 = (zNy W : Int) by omega]
      have eW : yearW W m.toNat = zAy (zTx W (-1)) (yeR0 W m.toNat).2.1 (yeR0 W m.toNat).2.2 := by
        unfold yearW
        rw [if_neg (by omega), hq]
      have eA : yearA W m.toNat = zNy W := by
        unfold yearA
        rw [if_neg (by omega), hq]
      rw [eW, eA] at Hx
      obtain ⟨c1, c2⟩ := R4 q hq
      obtain ⟨k1, k2, k3⟩ := yeR0_ok hq
      have F5 : Fx (fun a j => (a = 0 ∧ (j = 1 ∨ j = 2 ∨ j = 8)) ∨ a = 26 ∨ (zNy W < 4 ∧ 66 + 5 * zNy W ≤ a ∧ a ≤ 66 + 5 * zNy W + 4)) hi (en_up (en_up h4 0 2 (iI (zFp (.inr q)))) 0 8 (iI ((zNy W : Int) + 1))) := Fx.up (Fx.up FA (Or.inl ⟨rfl, by decide⟩)) (Or.inl ⟨rfl, by decide⟩)
      obtain ⟨o1, o2, o3, o4, o5⟩ := old _ F5
      refine Hx _ hl hr' ⟨pl, hR.fx FR, hN.txt hz hpl rfl rfl rfl rfl rfl o3 o4 (tp0 _ (by rw [up_ne (Or.inr (by decide)), up_ne (Or.inr (by decide))]; exact f01) (-1)) ?_ o5 ?_ o1 (fun y hy => ?_)⟩ (FC F5 (fun a j w => by omega)) Fc.rf Fhr
      · rw [up_ne (Or.inr (by decide)), up_at]; rfl
      · rw [up_at]; rfl
      · show yeH (66 + 5 * y) (if y = zNy W then ((yeR0 W m.toNat).2.1, (yeR0 W m.toNat).2.2) else zYs W y).1 (if y = zNy W then ((yeR0 W m.toNat).2.1, (yeR0 W m.toNat).2.2) else zYs W y).2 _
        by_cases ey : y = zNy W
        · rw [if_pos ey, ey]
          refine ⟨?_, k1, fun i hi9 => ?_⟩
          · rw [up_ne (Or.inl (by omega)), up_ne (Or.inl (by omega))]; exact c1
          · rw [up_row (by omega), up_row (by omega), up_row (by omega), up_row (by omega), up_row (by omega), up_row (by omega), up_row (by omega), up_row (by omega)]
            obtain ⟨d1, d2, d3, d4⟩ := c2 i hi9
            obtain ⟨k4, k5, k6⟩ := k3 i hi9
            exact ⟨d1, d2, d3, d4, k4, k5, k6⟩
        · rw [if_neg ey]
          exact o2 y (by have : y < zNy W + 1 := hy; omega)
  · have ny4 : zNy W = 4 := by omega
    have eW : yearW W m.toNat = zTx W (-1) := by unfold yearW; rw [if_pos ny4]
    have eA : yearA W m.toNat = -1 := by unfold yearA; rw [if_pos ny4]
    rw [eW, eA] at Hx
    have F5 : Fx (fun a j => (a = 0 ∧ (j = 1 ∨ j = 2 ∨ j = 8)) ∨ a = 26 ∨ (zNy W < 4 ∧ 66 + 5 * zNy W ≤ a ∧ a ≤ 66 + 5 * zNy W + 4)) hi g2 := F2.mono (fun a j w => Or.inl ⟨w.1, by omega⟩)
    obtain ⟨o1, o2, o3, o4, o5⟩ := old _ F5
    exact Hx g2 hl hr ⟨pl, hR, hN.txt hz hpl rfl rfl rfl rfl rfl o3 o4 (tp0 _ e01 _) e02 o5 e08 o1 o2⟩ (FC F5 (fun a j w => by omega)) Fc.rf Fc.rf
end
