section
variable {G : en_G} {d : Nat} {K : en_K} {W : zW} {n L : Nat} {V : lV3} {hi : en_I} {hl : en_L} {hr : en_F} {xc xs : Nat}
theorem c_law {m : Int} (hI : InvC G W hi hr) (hz : zOK n W) (h1 : 1 ≤ xc) (h6 : 6 ≤ xs) (hm : iRg m) (H : cEnd G W (lawW W m.toNat) (if 0 ≤ m ∧ m ≤ zNt W then 0 else 3) (.int (iI (lawA W m.toNat))) K hi hl hr) : en_Call G (d + 64) xc xs Y_X10_law wN wN [.ref 0, .int (iI m)] hi hl hr K := by
  obtain ⟨pl, hR, hN⟩ := id hI
  obtain ⟨z1, z2, z3, -⟩ := id hz
  have t0 : hi 0 1 = iI (zNt W : Int) := hN.1.1
  have l0 : hi 0 6 = iI (zNl W : Int) := hN.2.2.1
  have hpl := hR.2.1.2.2.1
  obtain ⟨r1, r3, r4, r5, r7, r9, r10, r12, r13, r14, r15, r16, r17, r18⟩ := id hR.1
  have s14 : en_SH 14 = (111, 4) := by decide
  have lt14 : 14 < 134 := by decide
  have hX := hR.2.2.2.2.2.2
  have hlw : lwX hr := hX.1
  have h29 : hr 29 0 = .ref 26 := hX.2.2.2.1
  apply en_X10_law
  simp (disch := omega) only [B_X10_law_0, sh0, lt0, t0, en_ops, en_opc, iI_add, iI_mul, iI_sub, jL_add, jL_mul, iI_le, iI_lt, iI_eq, iI_eq0, iI_lt0, iI_0le, iI_le0, iI_0lt, jL_iI, iI_jL, lc_eq, lc_lt, lc_le, lc_ge, lc_gt, Nat.sub_zero, Nat.zero_le, true_and, and_true, Nat.reduceAdd, Nat.reduceLeDiff]
  refine c_isWithin hm (by unfold iRg; omega) (by unfold iRg; omega) ?_
  by_cases e : 0 ≤ m ∧ m ≤ zNt W
  rotate_left
  · rw [if_neg e]
    rw [if_neg e] at H
    simp (disch := omega) only [sh0, lt0, en_ops, en_opc, iI_add, iI_mul, iI_sub, jL_add, jL_mul, iI_le, iI_lt, iI_eq, iI_eq0, iI_lt0, iI_0le, iI_le0, iI_0lt, jL_iI, iI_jL, lc_eq, lc_lt, lc_le, lc_ge, lc_gt, Nat.sub_zero, Nat.zero_le, true_and, and_true, Nat.reduceAdd, Nat.reduceLeDiff]
    exact ⟨h1, h6, c_needRight hI hz (Nat.le_refl _) (Nat.le_refl _) (Or.inl rfl) (fun e => absurd e (by decide)) (fun _ hi' I' F' => H.2 2 (by omega) rfl hi' hl hr I' F' Fc.rf Fc.rf)⟩
  rw [if_pos e]
  rw [if_pos e] at H
  have Hx := H.1 rfl
  simp (disch := omega) only [sh0, lt0, en_ops, en_opc, iI_add, iI_mul, iI_sub, jL_add, jL_mul, iI_le, iI_lt, iI_eq, iI_eq0, iI_lt0, iI_0le, iI_le0, iI_0lt, jL_iI, iI_jL, lc_eq, lc_lt, lc_le, lc_ge, lc_gt, Nat.sub_zero, Nat.zero_le, true_and, and_true, Nat.reduceAdd, Nat.reduceLeDiff]
  refine ⟨h1, h6, c_needRight hI hz (Nat.le_refl _) (Nat.le_refl _) (Or.inr rfl) (fun _ => ?_) (fun e => absurd e (by decide))⟩
  simp (disch := omega) only [sh0, lt0, en_ops, en_opc, iI_add, iI_mul, iI_sub, jL_add, jL_mul, iI_le, iI_lt, iI_eq, iI_eq0, iI_lt0, iI_0le, iI_le0, iI_0lt, jL_iI, iI_jL, lc_eq, lc_lt, lc_le, lc_ge, lc_gt, Nat.sub_zero, Nat.zero_le, true_and, and_true, Nat.reduceAdd, Nat.reduceLeDiff]
  rw [up_ne (Or.inr (by decide)), up_ne (Or.inr (by decide)), l0]
  simp (disch := omega) only [sh0, lt0, en_ops, en_opc, iI_add, iI_mul, iI_sub, jL_add, jL_mul, iI_le, iI_lt, iI_eq, iI_eq0, iI_lt0, iI_0le, iI_le0, iI_0lt, jL_iI, iI_jL, lc_eq, lc_lt, lc_le, lc_ge, lc_gt, Nat.sub_zero, Nat.zero_le, true_and, and_true, Nat.reduceAdd, Nat.reduceLeDiff]
  have F2 : Fx (fun a j => a = 0 ∧ (j = 1 ∨ j = 2)) hi (en_up (en_up hi 0 1 (iI 0)) 0 2 (iI (-1))) := Fx.up (Fx.up Fx.rf ⟨rfl, Or.inl rfl⟩) ⟨rfl, Or.inr rfl⟩
  generalize hg2 : en_up (en_up hi 0 1 (iI 0)) 0 2 (iI (-1)) = g2 at F2 ⊢
  have e01 : g2 0 1 = iI 0 := by rw [← hg2, up_ne (Or.inr (by decide)), up_at]
  have e02 : g2 0 2 = iI (-1) := by rw [← hg2, up_at]
  have e06 : g2 0 6 = iI (zNl W : Int) := by rw [F2 0 6 (by decide)]; exact l0
  have cR' : ∀ {hr' : en_F}, Fx (fun a j => a = 26 ∨ (a = 29 ∧ j = 1)) hr hr' → cR pl hr' := fun F => hR.fx F
  -- the laws and years that stand
  have old : ∀ g : en_I, Fx (fun a j => (a = 0 ∧ (j = 1 ∨ j = 2 ∨ j = 6)) ∨ a = 26 ∨ (zNl W < 4 ∧ ruP (50 + 4 * zNl W) a j)) hi g → (∀ i, i < zNl W → lwV G (50 + 4 * i) (zVs W i) g) ∧ (∀ y, y < zNy W → yeH (66 + 5 * y) (zYs W y).1 (zYs W y).2 g) ∧ Fr Ptx hi g ∧ g 0 11 = hi 0 11 ∧ g 0 8 = iI (zNy W : Int) := by
    intro g F
    have rr : ∀ x, x ≠ 0 → x ≠ 26 → (∀ j, zNl W < 4 → ¬ ruP (50 + 4 * zNl W) x j) → g x = hi x := fun x g1 g2 g3 => F.row (fun j w => by
      rcases w with w | w | w
      · exact g1 w.1
      · exact g2 w
      · exact g3 j w.1 w.2)
    refine ⟨fun i hi9 => (hN.2.2.2.2.2.2.1 i hi9).same ?_ ?_ ?_ ?_, fun y hy => ?_, F.fr (fun a j w => by unfold ruP at w; unfold Ptx; omega), F 0 11 (by unfold ruP; omega), ?_⟩
    · exact rr _ (by omega) (by omega) (fun j _ w => by unfold ruP at w; omega)
    · exact rr _ (by omega) (by omega) (fun j _ w => by unfold ruP at w; omega)
    · exact rr _ (by omega) (by omega) (fun j _ w => by unfold ruP at w; omega)
    · exact rr _ (by omega) (by omega) (fun j _ w => by unfold ruP at w; omega)
    · exact (hN.2.2.2.2.2.2.2.1 y hy).fr (by have h9 : y < zNy W := hy; unfold isYe; omega) (P := fun x => x < 66) (fun x hx => rr x (by omega) (by omega) (fun j _ w => by unfold ruP at w; omega)) (fun x g1 g2 w => by omega)
    · rw [F 0 8 (by unfold ruP; omega)]; exact hN.2.2.2.1
  have tp0 : ∀ g : en_I, g 0 1 = iI 0 → ∀ fa, g 0 1 = iI (zNt (zTx W fa) : Int) ∧ ∀ j, j < zNt (zTx W fa) → g 1 j = iI (sbB (zTp (zTx W fa) j)) := fun g e fa => ⟨e, fun j hj => absurd hj (Nat.not_lt_zero _)⟩
  have FC : ∀ {P : Nat → Nat → Prop} {g : en_I}, Fx P hi g → (∀ a j, P a j → a < 110) → Fc hi g := fun F hp x hx => F.row (fun j w => by have := hp x j w; omega)
  refine ⟨fun g => ?_, fun g => ?_⟩
  · have nl4 : zNl W < 4 := by omega
    obtain ⟨lwr, e14⟩ := hlw (zNl W) (by omega)
    have isl : isLw (50 + 4 * zNl W) := by unfold isLw; omega
    rw [r5, r1, r15]
    simp (disch := omega) only [s14, lt14, en_ops, en_opc, iI_add, iI_mul, iI_sub, jL_add, jL_mul, iI_le, iI_lt, iI_eq, iI_eq0, iI_lt0, iI_0le, iI_le0, iI_0lt, jL_iI, iI_jL, lc_eq, lc_lt, lc_le, lc_ge, lc_gt, Nat.sub_zero, Nat.zero_le, true_and, and_true, Nat.reduceAdd, Nat.reduceLeDiff]
    refine ⟨zNl W, rfl, nl4, _, e14, by omega, ?_⟩
    have hT : m.toNat ≤ 600 ∧ ∀ j, j < m.toNat → zTp W j < 256 ∧ g2 1 j = iI (sbB (zTp W j)) := ⟨by omega, fun j hj => ⟨z1.2 j (by omega), by rw [F2 1 j (by omega)]; exact hN.1.2 j (by omega)⟩⟩
    have s29 : (en_SH 29).1 = 2 ∧ 29 < 134 := by decide
    refine ⟨s29, ?_⟩
    rw [show m = ((m.toNat : Nat) : Int) by omega]
    have FR : Fx (fun a j => a = 26 ∨ (a = 29 ∧ j = 1)) hr (en_up (en_up hr 29 1 (.ref (50 + 4 * zNl W))) 26 0 (.ref 1)) := Fx.up (Fx.up Fx.rf (Or.inr ⟨rfl, rfl⟩)) (Or.inl rfl)
    have Fhr : Fc hr (en_up (en_up hr 29 1 (.ref (50 + 4 * zNl W))) 26 0 (.ref 1)) := fun x hx => FR.row (fun j w => by omega)
    generalize hgr : en_up (en_up hr 29 1 (.ref (50 + 4 * zNl W))) 26 0 (.ref 1) = hr' at FR Fhr
    have y0 : hr' 0 13 = .ref 26 := by rw [FR 0 13 (by decide)]; exact r13
    refine t_readLaw (d := d + 2) (m := m.toNat) (Tb := zTp W) isl lwr h29 hT (fun V eV h4 e8 F4 R4 => ?_) (fun k pl' eV h4 bb e8 F4 => ?_)
    · rw [hgr]
      have f06 : h4 0 6 = iI (zNl W : Int) := by rw [F4 0 6 (by unfold ruP; omega)]; exact e06
      simp (disch := omega) only [sh0, lt0, y0, sh26, lt26, e8, en_ops, en_opc, iI_add, iI_mul, iI_sub, jL_add, jL_mul, iI_le, iI_lt, iI_eq, iI_eq0, iI_lt0, iI_0le, iI_le0, iI_0lt, jL_iI, iI_jL, lc_eq, lc_lt, lc_le, lc_ge, lc_gt, Nat.sub_zero, Nat.zero_le, true_and, and_true, Nat.reduceAdd, Nat.reduceLeDiff]
      refine ⟨fun _ => ?_, fun g => (g (by first | trivial | rfl)).elim⟩
      rw [show en_up h4 0 2 (iI (-1)) 0 6 = iI (zNl W : Int) by rw [up_ne (Or.inr (by decide))]; exact f06, up_at]
      simp (disch := omega) only [en_ops, en_opc, iI_add, iI_mul, iI_sub, jL_add, jL_mul, iI_le, iI_lt, iI_eq, iI_eq0, iI_lt0, iI_0le, iI_le0, iI_0lt, jL_iI, iI_jL, lc_eq, lc_lt, lc_le, lc_ge, lc_gt, Nat.sub_zero, Nat.zero_le, true_and, and_true, Nat.reduceAdd, Nat.reduceLeDiff]
      have eW : lawW W m.toNat = zAl (zTx W (-1)) (Vn V) := by
        unfold lawW
        rw [if_neg (by omega), show lwR0 W m.toNat = .inr V from eV]
      have eA : lawA W m.toNat = zNl W := by
        unfold lawA
        rw [if_neg (by omega), show lwR0 W m.toNat = .inr V from eV]
      rw [eW, eA] at Hx
      rw [show (zNl W : Int) + 1 - 1 = (zNl W : Int) by omega]
      have F5 : Fx (fun a j => (a = 0 ∧ (j = 1 ∨ j = 2 ∨ j = 6)) ∨ a = 26 ∨ (zNl W < 4 ∧ ruP (50 + 4 * zNl W) a j)) hi (en_up (en_up h4 0 2 (iI (-1))) 0 6 (iI ((zNl W : Int) + 1))) := Fx.up (Fx.up ((F2.mono (fun a j w => Or.inl ⟨w.1, by omega⟩)).tr (F4.mono (fun a j w => by rcases w with w | w; exact Or.inr (Or.inl w); exact Or.inr (Or.inr ⟨nl4, w⟩)))) (Or.inl ⟨rfl, by decide⟩)) (Or.inl ⟨rfl, by decide⟩)
      have R5 : ruH (50 + 4 * zNl W) V 600 (en_up (en_up h4 0 2 (iI (-1))) 0 6 (iI ((zNl W : Int) + 1))) := R4.fx (P := fun a _ => a = 0) (Fx.up (Fx.up Fx.rf rfl) rfl) (fun j w => by omega) (fun j w => by omega) (fun j _ w => by omega) (Nat.le_refl _)
      obtain ⟨o1, o2, o3, o4, o5⟩ := old _ F5
      have e1 : (en_up (en_up h4 0 2 (iI (-1))) 0 6 (iI ((zNl W : Int) + 1))) 0 1 = iI 0 := by rw [up_ne (Or.inr (by decide)), up_ne (Or.inr (by decide)), F4 0 1 (by unfold ruP; omega)]; exact e01
      refine Hx _ hl hr' ⟨pl, cR' FR, hN.txt hz hpl rfl rfl rfl rfl rfl o3 o4 (tp0 _ e1 (-1)) ?_ ?_ o5 (fun i hi9 => ?_) o2⟩ (FC F5 (fun a j w => by unfold ruP at w; omega)) Fc.rf Fhr
      · rw [up_ne (Or.inr (by decide)), up_at]; rfl
      · rw [up_at]; rfl
      · show lwV G (50 + 4 * i) (if i = zNl W then Vn V else zVs W i) _
        by_cases ei : i = zNl W
        · rw [if_pos ei, ei]
          exact lwV.of isl R5
        · rw [if_neg ei]
          exact o1 i (by have : i < zNl W + 1 := hi9; omega)
    · rw [hgr]
      simp (disch := omega) only [sh0, lt0, y0, sh26, lt26, e8, en_ops, en_opc, iI_add, iI_mul, iI_sub, jL_add, jL_mul, iI_le, iI_lt, iI_eq, iI_eq0, iI_lt0, iI_0le, iI_le0, iI_0lt, jL_iI, iI_jL, lc_eq, lc_lt, lc_le, lc_ge, lc_gt, Nat.sub_zero, Nat.zero_le, true_and, and_true, Nat.reduceAdd, Nat.reduceLeDiff]
      refine ⟨fun g => absurd g (by omega), fun _ => ?_⟩
      have eW : lawW W m.toNat = zTx W (pl' : Int) := by
        unfold lawW
        rw [if_neg (by omega), show lwR0 W m.toNat = .inl (k, pl') from eV]
      have eA : lawA W m.toNat = (k : Int) - 10 := by
        unfold lawA
        rw [if_neg (by omega), show lwR0 W m.toNat = .inl (k, pl') from eV]
      rw [eW, eA] at Hx
      have F5 : Fx (fun a j => (a = 0 ∧ (j = 1 ∨ j = 2 ∨ j = 6)) ∨ a = 26 ∨ (zNl W < 4 ∧ ruP (50 + 4 * zNl W) a j)) hi (en_up h4 0 2 (iI (pl' : Int))) := Fx.up ((F2.mono (fun a j w => Or.inl ⟨w.1, by omega⟩)).tr (F4.mono (fun a j w => by rcases w with w | w; exact Or.inr (Or.inl w); exact Or.inr (Or.inr ⟨nl4, w⟩)))) (Or.inl ⟨rfl, by decide⟩)
      obtain ⟨o1, o2, o3, o4, o5⟩ := old _ F5
      have e1 : (en_up h4 0 2 (iI (pl' : Int))) 0 1 = iI 0 := by rw [up_ne (Or.inr (by decide)), F4 0 1 (by unfold ruP; omega)]; exact e01
      refine Hx _ hl hr' ⟨pl, cR' FR, hN.txt hz hpl rfl rfl rfl rfl rfl o3 o4 (tp0 _ e1 _) up_at ?_ o5 o1 o2⟩ (FC F5 (fun a j w => by unfold ruP at w; omega)) Fc.rf Fhr
      rw [up_ne (Or.inr (by decide)), F4 0 6 (by unfold ruP; omega)]
      exact e06
  · have nl4 : zNl W = 4 := by omega
    have eW : lawW W m.toNat = zTx W (-1) := by unfold lawW; rw [if_pos nl4]
    have eA : lawA W m.toNat = -1 := by unfold lawA; rw [if_pos nl4]
    rw [eW, eA] at Hx
    have F5 : Fx (fun a j => (a = 0 ∧ (j = 1 ∨ j = 2 ∨ j = 6)) ∨ a = 26 ∨ (zNl W < 4 ∧ ruP (50 + 4 * zNl W) a j)) hi g2 := F2.mono (fun a j w => Or.inl ⟨w.1, by omega⟩)
    obtain ⟨o1, o2, o3, o4, o5⟩ := old _ F5
    exact Hx g2 hl hr ⟨pl, hR, hN.txt hz hpl rfl rfl rfl rfl rfl o3 o4 (tp0 _ e01 _) e02 e06 o5 o1 o2⟩ (FC F5 (fun a j w => by unfold ruP at w; omega)) Fc.rf Fc.rf
end
