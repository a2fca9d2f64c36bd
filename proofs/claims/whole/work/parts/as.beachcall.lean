section
variable {G : en_G} {d : Nat} {K : en_K} {W : zW} {n : Nat} {X : tTx} {B : bSt} {p : Nat} {hi : en_I} {hl : en_L} {hr : en_F} {xc xs : Nat}
theorem t_readBeach {m : Nat} {Tb : Nat → Nat} (hp : isPl p) (hpR : plR p hr) (hR2 : hr 28 0 = .ref 26) (hT : m ≤ 600 ∧ ∀ j, j < m → Tb j < 256 ∧ hi 1 j = iI (sbB (Tb j)))
    (H : ∀ hi', tkX (Tb, m) (blF (Tb, m) 62 0 (.inr (skE (Tb, m) 0)) b0S).1 hi' → Fx (fun a j => a = 26 ∨ (a = 28 ∧ 1 ≤ j ∧ j ≤ 3) ∨ (p ≤ a ∧ a ≤ p + 5)) hi hi' → (∀ q, (blF (Tb, m) 62 0 (.inr (skE (Tb, m) 0)) b0S).1 = .inr q → bpH p (blF (Tb, m) 62 0 (.inr (skE (Tb, m) 0)) b0S).2 hi') → K (.inl (some (.int (iI (zFk (blF (Tb, m) 62 0 (.inr (skE (Tb, m) 0)) b0S).1 : Int))))) hi' hl (en_up hr 26 0 (.ref 1))) :
    en_Call G (d + 8) xc xs Y_X0_readBeach wN wN [.ref 28, .ref 1, .int (iI (m : Int)), .ref p] hi hl hr K := by
  obtain ⟨p0, p1, p2, p3, p4, p5, p6, p7⟩ := hp.sh
  have q0 : p < 134 := by omega
  apply en_X0_readBeach
  simp (disch := omega) only [B_X0_readBeach_0, sh28, lt28, p0, q0, hR2, en_ops, en_opc, iI_add, iI_mul, iI_sub, jL_add, jL_mul, iI_le, iI_lt, iI_eq, iI_eq0, iI_lt0, iI_0le, iI_le0, iI_0lt, jL_iI, iI_jL, lc_eq, lc_lt, lc_le, lc_ge, lc_gt, Nat.sub_zero, Nat.zero_le, true_and, and_true, Nat.reduceAdd, Nat.reduceLeDiff]
  refine t_clear (d := d + 5) hp hpR (fun h1 F1 P1 => ?_)
  simp (disch := omega) only [sh28, lt28, sh26, lt26, hR2, en_ops, en_opc, iI_add, iI_mul, iI_sub, jL_add, jL_mul, iI_le, iI_lt, iI_eq, iI_eq0, iI_lt0, iI_0le, iI_le0, iI_0lt, jL_iI, iI_jL, lc_eq, lc_lt, lc_le, lc_ge, lc_gt, Nat.sub_zero, Nat.zero_le, true_and, and_true, Nat.reduceAdd, Nat.reduceLeDiff]
  refine ⟨(by first | exact Or.inl rfl | exact Or.inl trivial), (by first | exact Or.inl rfl | exact Or.inl trivial), (by first | exact Or.inl rfl | exact Or.inl trivial), ?_⟩
  have U : Fx (fun a j => a = 28 ∧ 1 ≤ j ∧ j ≤ 3) h1 (en_up (en_up (en_up h1 28 1 (iI 0)) 28 2 (iI 0)) 28 3 (iI 0)) := Fx.up (Fx.up (Fx.up Fx.rf ⟨rfl, by decide⟩) ⟨rfl, by decide⟩) ⟨rfl, by decide⟩
  have u1 : en_up (en_up (en_up h1 28 1 (iI 0)) 28 2 (iI 0)) 28 3 (iI 0) 28 1 = iI 0 := by rw [up_ne (Or.inr (by decide)), up_ne (Or.inr (by decide)), up_at]
  have u2 : en_up (en_up (en_up h1 28 1 (iI 0)) 28 2 (iI 0)) 28 3 (iI 0) 28 2 = iI 0 := by rw [up_ne (Or.inr (by decide)), up_at]
  have u3 : en_up (en_up (en_up h1 28 1 (iI 0)) 28 2 (iI 0)) 28 3 (iI 0) 28 3 = iI 0 := up_at
  generalize en_up (en_up (en_up h1 28 1 (iI 0)) 28 2 (iI 0)) 28 3 (iI 0) = h2 at U u1 u2 u3 ⊢
  refine t_open (d := d + 4) (Tb := Tb) (n := m) ⟨hT.1, fun j hj => ⟨(hT.2 j hj).1, by rw [U 1 j (by omega), F1 1 j (by omega)]; exact (hT.2 j hj).2⟩⟩ (fun h3 F3 X3 T3 => ?_)
  have r26 : en_up hr 26 0 (.ref 1) 26 0 = .ref 1 := up_at
  have r28 : en_up hr 26 0 (.ref 1) 28 0 = .ref 26 := by rw [up_ne (Or.inl (by decide))]; exact hR2
  have rp : plR p (en_up hr 26 0 (.ref 1)) := by
    obtain ⟨y1, y2, y3, y4, y5⟩ := hpR
    exact ⟨by rw [up_ne (Or.inl (by omega))]; exact y1, by rw [up_ne (Or.inl (by omega))]; exact y2, by rw [up_ne (Or.inl (by omega))]; exact y3, by rw [up_ne (Or.inl (by omega))]; exact y4, by rw [up_ne (Or.inl (by omega))]; exact y5⟩
  have P3 : bpH p b0S h3 := (P1.fx U (fun a j g1 g2 w => by have := w.1; omega)).fx F3 (fun a j g1 g2 w => by omega)
  have G3 : bgH 0 b0S h3 := ⟨by rw [F3 28 1 (by omega)]; exact u1, by rw [F3 28 2 (by omega)]; exact u2, by rw [F3 28 3 (by omega), u3, if_neg (show ¬ bTc b0S + bTs b0S < 0 from Nat.not_lt_zero _)]⟩
  have FF : Fx (fun a j => a = 26 ∨ (a = 28 ∧ 1 ≤ j ∧ j ≤ 3) ∨ (p ≤ a ∧ a ≤ p + 5)) hi h3 := ((F1.mono (fun a j w => Or.inr (Or.inr w))).tr (U.mono (fun a j w => Or.inr (Or.inl w)))).tr (F3.mono (fun a j w => Or.inl w))
  simp (disch := omega) only [en_ops, en_opc, iI_add, iI_mul, iI_sub, jL_add, jL_mul, iI_le, iI_lt, iI_eq, iI_eq0, iI_lt0, iI_0le, iI_le0, iI_0lt, jL_iI, iI_jL, lc_eq, lc_lt, lc_le, lc_ge, lc_gt, Nat.sub_zero, Nat.zero_le, true_and, and_true, Nat.reduceAdd, Nat.reduceLeDiff]
  refine v_beach31 (d := d) (X := (Tb, m)) hp rp r26 r28 62 0 (.inr (skE (Tb, m) 0)) b0S h3 rfl (by decide) (fun g => absurd g (by decide)) X3 T3 (fun q hq => ⟨b0_ok, P3, G3⟩) (fun h' H' F' R' => ?_)
  exact H h' H' (FF.tr (F'.mono (fun a j w => by unfold Pbe at w; omega))) R'
theorem c_beach {m : Int} (hI : InvC G W hi hr) (hz : zOK n W) (h1 : 1 ≤ xc) (h6 : 6 ≤ xs) (hm : iRg m) (H : cEnd G W (beachW W m.toNat) (if 0 ≤ m ∧ m ≤ zNt W then 0 else 3) (.int (iI (beachA W m.toNat))) K hi hl hr) : en_Call G (d + 10) xc xs Y_X10_beach wN wN [.ref 0, .int (iI m)] hi hl hr K := by
  obtain ⟨pl, hR, hN⟩ := id hI
  obtain ⟨z1, z2, z3, -⟩ := id hz
  have t0 : hi 0 1 = iI (zNt W : Int) := hN.1.1
  have hpl := hR.2.1.2.2.1
  have hp2 : isPl (10 - pl) := by rcases hpl with rfl | rfl; exact Or.inr rfl; exact Or.inl rfl
  have hpp : 10 - (10 - pl) = pl := by rcases hpl with rfl | rfl <;> rfl
  have hps : (pl = 2 ∧ 10 - pl = 8) ∨ (pl = 8 ∧ 10 - pl = 2) := by rcases hpl with rfl | rfl; exact Or.inl ⟨rfl, rfl⟩; exact Or.inr ⟨rfl, rfl⟩
  have hpR : plR (10 - pl) hr := by
    rcases hps with ⟨-, e⟩ | ⟨-, e⟩
    · rw [e]; exact hR.2.2.2.1
    · rw [e]; exact hR.2.2.1
  obtain ⟨r1, r3, r4, r5, r7, r9, r10, r12, r13, r14, r15, r16, r17, r18⟩ := id hR.1
  have h28 : hr 28 0 = .ref 26 := hR.2.2.2.2.2.2.2.2.1
  have s28 : (en_SH 28).1 = 0 ∧ 28 < 134 := by decide
  apply en_X10_beach
  simp (disch := omega) only [B_X10_beach_0, sh0, lt0, t0, en_ops, en_opc, iI_add, iI_mul, iI_sub, jL_add, jL_mul, iI_le, iI_lt, iI_eq, iI_eq0, iI_lt0, iI_0le, iI_le0, iI_0lt, jL_iI, iI_jL, lc_eq, lc_lt, lc_le, lc_ge, lc_gt, Nat.sub_zero, Nat.zero_le, true_and, and_true, Nat.reduceAdd, Nat.reduceLeDiff]
  refine c_isWithin hm (by unfold iRg; omega) (by unfold iRg; omega) ?_
  by_cases e : 0 ≤ m ∧ m ≤ zNt W
  rotate_left
  · rw [if_neg e]
    rw [if_neg e] at H
    simp (disch := omega) only [sh0, lt0, en_ops, en_opc, iI_add, iI_mul, iI_sub, jL_add, jL_mul, iI_le, iI_lt, iI_eq, iI_eq0, iI_lt0, iI_0le, iI_le0, iI_0lt, jL_iI, iI_jL, lc_eq, lc_lt, lc_le, lc_ge, lc_gt, Nat.sub_zero, Nat.zero_le, true_and, and_true, Nat.reduceAdd, Nat.reduceLeDiff]
    exact ⟨h1, h6, c_needRight hI hz (Nat.le_refl _) (Nat.le_refl _) (Or.inl rfl) (fun e => absurd e (by decide)) (fun _ hi' I' F' => H.2 2 (by omega) rfl hi' hl hr I' F' Fc.rf Fc.rf)⟩
  rw [if_pos e]
  rw [if_pos e] at H
  have Hx := H.1 rfl
  simp (disch := omega) only [sh0, lt0, en_ops, en_opc, iI_add, iI_mul, iI_sub, jL_add, jL_mul, iI_le, iI_lt, iI_eq, iI_eq0, iI_lt0, iI_0le, iI_le0, iI_0lt, jL_iI, iI_jL, lc_eq, lc_lt, lc_le, lc_ge, lc_gt, Nat.sub_zero, Nat.zero_le, true_and, and_true, Nat.reduceAdd, Nat.reduceLeDiff]
  refine ⟨h1, h6, c_needRight hI hz (Nat.le_refl _) (Nat.le_refl _) (Or.inr rfl) (fun _ => ?_) (fun e => absurd e (by decide))⟩
  simp (disch := omega) only [sh0, lt0, r14, r1, r4, en_ops, en_opc, iI_add, iI_mul, iI_sub, jL_add, jL_mul, iI_le, iI_lt, iI_eq, iI_eq0, iI_lt0, iI_0le, iI_le0, iI_0lt, jL_iI, iI_jL, lc_eq, lc_lt, lc_le, lc_ge, lc_gt, Nat.sub_zero, Nat.zero_le, true_and, and_true, Nat.reduceAdd, Nat.reduceLeDiff]
  have F2 : Fx (fun a j => a = 0 ∧ j = 1) hi (en_up hi 0 1 (iI 0)) := Fx.up Fx.rf ⟨rfl, rfl⟩
  have e01 : en_up hi 0 1 (iI 0) 0 1 = iI 0 := up_at
  generalize en_up hi 0 1 (iI 0) = g2 at F2 e01 ⊢
  refine ⟨s28, ?_⟩
  have hT : m.toNat ≤ 600 ∧ ∀ j, j < m.toNat → zTp W j < 256 ∧ g2 1 j = iI (sbB (zTp W j)) := ⟨by omega, fun j hj => ⟨z1.2 j (by omega), by rw [F2 1 j (by omega)]; exact hN.1.2 j (by omega)⟩⟩
  have FR : Fx (fun a j => a = 26 ∨ (a = 29 ∧ j = 1)) hr (en_up hr 26 0 (.ref 1)) := Fx.up Fx.rf (Or.inl rfl)
  have Fhr : Fc hr (en_up hr 26 0 (.ref 1)) := fun x hx => FR.row (fun j w => by omega)
  rw [show m = ((m.toNat : Nat) : Int) by omega]
  refine t_readBeach (d := d + 1) (m := m.toNat) (Tb := zTp W) hp2 hpR h28 hT (fun h4 T4 F4 R4 => ?_)
  generalize en_up hr 26 0 (.ref 1) = hr' at FR Fhr ⊢
  have y3 : hr' 0 3 = .ref pl := by rw [FR 0 3 (by decide)]; exact r3
  have y4 : hr' 0 4 = .ref (10 - pl) := by rw [FR 0 4 (by decide)]; exact r4
  have y9 : hr' 0 9 = .ref 16 := by rw [FR 0 9 (by decide)]; exact r9
  have y13 : hr' 0 13 = .ref 26 := by rw [FR 0 13 (by decide)]; exact r13
  have y16 : hr' 0 16 = .ref 34 := by rw [FR 0 16 (by decide)]; exact r16
  have cR' := hR.fx FR
  replace T4 : tkX (zTp W, m.toNat) (beR0 W m.toNat).1 h4 := T4
  replace R4 : ∀ q, (beR0 W m.toNat).1 = .inr q → bpH (10 - pl) (beR0 W m.toNat).2 h4 := R4
  show en_kk _ _ _ _ _ _ (.inl (some (.int (iI (zFk (beR0 W m.toNat).1 : Int))))) _ _ _
  obtain ⟨f7, f8, f4, f0⟩ := T4.f7
  have FA : Fx (fun a j => (a = 0 ∧ j = 1) ∨ a = 26 ∨ (a = 28 ∧ 1 ≤ j ∧ j ≤ 3) ∨ (10 - pl ≤ a ∧ a ≤ 10 - pl + 5)) hi h4 := (F2.mono (fun a j w => Or.inl w)).tr (F4.mono (fun a j w => Or.inr w))
  have f01 : h4 0 1 = iI 0 := by rw [F4 0 1 (by omega)]; exact e01
  have FC : ∀ {P : Nat → Nat → Prop} {g : en_I}, Fx P hi g → (∀ a j, P a j → a < 110) → Fc hi g := fun F hp x hx => F.row (fun j w => by have := hp x j w; omega)
  obtain ⟨⟨a1, a2⟩, a3, a4, a5, a6, a7, a8, a9, a10, a11, a12⟩ := id hN
  have z4 : zNi W ≤ 3 := hz.2.2.2.1
  -- what of the state stands whatever the plan is
  have keep : ∀ g : en_I, Fx (fun a j => (a = 0 ∧ (j = 1 ∨ j = 2 ∨ j = 11)) ∨ a = 26 ∨ (a = 28 ∧ 1 ≤ j ∧ j ≤ 3) ∨ (10 - pl ≤ a ∧ a ≤ 10 - pl + 5) ∨ (16 ≤ a ∧ a ≤ 23)) hi g → (g 0 6 = iI (zNl W : Int)) ∧ (g 0 8 = iI (zNy W : Int)) ∧ (∀ k, k < 4 → g 25 k = iI (zRf W k)) ∧ lwA G (zNl W) (zVs W) g ∧ (∀ y, y < zNy W → yeH (66 + 5 * y) (zYs W y).1 (zYs W y).2 g) := by
    intro g F
    have rr : ∀ x, 24 ≤ x → x ≠ 26 → x ≠ 28 → g x = hi x := fun x g1 g2 g3 => F.row (fun j w => by omega)
    refine ⟨by rw [F 0 6 (by omega)]; exact a4, by rw [F 0 8 (by omega)]; exact a5, fun k hk => by rw [rr 25 (by omega) (by omega) (by omega)]; exact a7 k hk, fun i hi9 => (a8 i hi9).same (rr _ (by omega) (by omega) (by omega)) (rr _ (by omega) (by omega) (by omega)) (rr _ (by omega) (by omega) (by omega)) (rr _ (by omega) (by omega) (by omega)), fun y hy => ?_⟩
    obtain ⟨b1, b2, b3⟩ := a9 y hy
    refine ⟨by rw [rr _ (by omega) (by omega) (by omega)]; exact b1, b2, fun i hi9 => ?_⟩
    rw [rr (66 + 5 * y + 1) (by omega) (by omega) (by omega), rr (66 + 5 * y + 2) (by omega) (by omega) (by omega), rr (66 + 5 * y + 3) (by omega) (by omega) (by omega), rr (66 + 5 * y + 4) (by omega) (by omega) (by omega)]
    exact b3 i hi9
  simp (disch := omega) only [sh0, lt0, y13, sh26, lt26, f8, en_ops, en_opc, iI_add, iI_mul, iI_sub, jL_add, jL_mul, iI_le, iI_lt, iI_eq, iI_eq0, iI_lt0, iI_0le, iI_le0, iI_0lt, jL_iI, iI_jL, lc_eq, lc_lt, lc_le, lc_ge, lc_gt, Nat.sub_zero, Nat.zero_le, true_and, and_true, Nat.reduceAdd, Nat.reduceLeDiff]
  rcases hq : (beR0 W m.toNat).1 with e1 | q
  · rw [hq] at f0 f4
    have k0 : zFk (.inl e1) ≠ 0 := fun g => by obtain ⟨q, hq⟩ := f0.mp g; cases hq
    refine ⟨fun g => absurd g (by omega), fun _ => ?_⟩
    have eW : beachW W m.toNat = zTx W (e1.2 : Int) := by unfold beachW; rw [hq]
    have eA : beachA W m.toNat = (e1.1 : Int) - 10 := by unfold beachA; rw [hq]
    rw [eW, eA] at Hx
    have F5 : Fx (fun a j => (a = 0 ∧ (j = 1 ∨ j = 2 ∨ j = 11)) ∨ a = 26 ∨ (a = 28 ∧ 1 ≤ j ∧ j ≤ 3) ∨ (10 - pl ≤ a ∧ a ≤ 10 - pl + 5) ∨ (16 ≤ a ∧ a ≤ 23)) hi (en_up h4 0 2 (iI (zFp (.inl e1)))) := Fx.up (FA.mono (fun a j w => by omega)) (Or.inl ⟨rfl, by decide⟩)
    have F6 : Fx (fun a j => (a = 0 ∧ (j = 1 ∨ j = 2)) ∨ a = 26 ∨ (a = 28 ∧ 1 ≤ j ∧ j ≤ 3) ∨ (10 - pl ≤ a ∧ a ≤ 10 - pl + 5)) hi (en_up h4 0 2 (iI (zFp (.inl e1)))) := Fx.up (FA.mono (fun a j w => by omega)) (Or.inl ⟨rfl, by decide⟩)
    obtain ⟨o1, o2, o3, o4, o5⟩ := keep _ F5
    have rr : ∀ x, x ≠ 0 → x ≠ 26 → x ≠ 28 → (x < 10 - pl ∨ 10 - pl + 5 < x) → en_up h4 0 2 (iI (zFp (.inl e1))) x = hi x := fun x x1 x2 x3 x4 => F6.row (fun j w => by omega)
    refine Hx _ hl hr' ⟨pl, cR', ⟨⟨?_, fun j hj => absurd hj (Nat.not_lt_zero _)⟩, up_at, o1, o2, ?_, o3, o4, o5, ?_, a11.frP (Fx.fr F6 (Q := fun a => a = 0 ∨ a = 26 ∨ a = 28 ∨ (10 - pl ≤ a ∧ a ≤ 10 - pl + 5)) (fun a j w => by omega)) (fun x g1 g2 (w : x = 0 ∨ x = 26 ∨ x = 28 ∨ (10 - pl ≤ x ∧ x ≤ 10 - pl + 5)) => by omega), fun i hi9 => (a12 i hi9).frP (Fx.fr F6 (Q := fun a => a = 0 ∨ a = 26 ∨ a = 28 ∨ (10 - pl ≤ a ∧ a ≤ 10 - pl + 5)) (fun a j w => by omega)) (fun x g1 g2 (w : x = 0 ∨ x = 26 ∨ x = 28 ∨ (10 - pl ≤ x ∧ x ≤ 10 - pl + 5)) => by omega)⟩⟩ (FC F6 (fun a j w => by omega)) Fc.rf Fhr
    · rw [up_ne (Or.inr (by decide))]; exact f01
    · rw [F6 0 11 (by omega)]; exact a6
    · have p7 := hpl.sh.2.2.2.2.2.2
      obtain ⟨⟨x1, x2, x3⟩, ⟨x4, x5, x6⟩, x7⟩ := a10
      exact ⟨⟨by rw [rr pl (by omega) (by omega) (by omega) (by omega)]; exact x1, x2, fun i hi9 => by rw [rr (pl + 4) (by omega) (by omega) (by omega) (by omega)]; exact x3 i hi9⟩, ⟨by rw [rr pl (by omega) (by omega) (by omega) (by omega)]; exact x4, x5, fun i hi9 => by rw [rr (pl + 5) (by omega) (by omega) (by omega) (by omega)]; exact x6 i hi9⟩, fun c z k hc hz9 hk => by rw [rr 37 (by omega) (by omega) (by omega) (by omega)]; exact x7 c z k hc hz9 hk⟩
  · rw [hq] at f0 f4
    have k0 : zFk (.inr q) = 0 := rfl
    rw [k0]
    refine ⟨fun _ => ?_, fun g => (g (by first | trivial | rfl)).elim⟩
    have ok := beR0_ok hq
    have P4 := R4 q hq
    have eW : beachW W m.toNat = zBe W (beR0 W m.toNat).2 := by unfold beachW; rw [hq]
    have eA : beachA W m.toNat = bC (beR0 W m.toNat).2 := by unfold beachA; rw [hq]
    rw [eW, eA] at Hx
    generalize (beR0 W m.toNat).2 = B at ok P4 Hx
    have u16 : ∀ w1 w2 : Value, en_up (en_up hr' 0 3 w1) 0 4 w2 0 16 = .ref 34 := fun w1 w2 => by rw [up_ne (Or.inr (by decide)), up_ne (Or.inr (by decide))]; exact y16
    have u9 : ∀ w1 w2 : Value, en_up (en_up hr' 0 3 w1) 0 4 w2 0 9 = .ref 16 := fun w1 w2 => by rw [up_ne (Or.inr (by decide)), up_ne (Or.inr (by decide))]; exact y9
    have u3 : ∀ w1 w2 : Value, en_up (en_up hr' 0 3 w1) 0 4 w2 0 3 = w1 := fun w1 w2 => by rw [up_ne (Or.inr (by decide)), up_at]
    simp (disch := omega) only [sh0, lt0, y3, y4, u16, u9, u3, sh34, lt34, en_ops, en_opc, iI_add, iI_mul, iI_sub, jL_add, jL_mul, iI_le, iI_lt, iI_eq, iI_eq0, iI_lt0, iI_0le, iI_le0, iI_0lt, jL_iI, iI_jL, lc_eq, lc_lt, lc_le, lc_ge, lc_gt, Nat.sub_zero, Nat.zero_le, true_and, and_true, Nat.reduceAdd, Nat.reduceLeDiff]
    have F5 : Fx (fun a j => (a = 0 ∧ (j = 1 ∨ j = 2)) ∨ a = 26 ∨ (a = 28 ∧ 1 ≤ j ∧ j ≤ 3) ∨ (10 - pl ≤ a ∧ a ≤ 10 - pl + 5)) hi (en_up h4 0 2 (iI (zFp (.inr q)))) := Fx.up (FA.mono (fun a j w => by omega)) (Or.inl ⟨rfl, by decide⟩)
    have P5 : bpH (10 - pl) B (en_up h4 0 2 (iI (zFp (.inr q)))) := P4.fx (Fx.up (P := fun a _ => a = 0) Fx.rf rfl) (fun a j g1 g2 w => by omega)
    have v1 : en_up h4 0 2 (iI (zFp (.inr q))) 0 1 = iI 0 := by rw [up_ne (Or.inr (by decide))]; exact f01
    have v2 : en_up h4 0 2 (iI (zFp (.inr q))) 0 2 = iI (-1) := up_at
    generalize en_up h4 0 2 (iI (zFp (.inr q))) = h5 at F5 P5 v1 v2 ⊢
    -- the references behind the exchange
    have FX : ∀ hr2 : en_F, hr2 = en_up (en_up (en_up hr' 0 3 (.ref (10 - pl))) 0 4 (.ref pl)) 34 5 (.ref (10 - pl)) → cR (10 - pl) hr2 ∧ hr2 0 9 = .ref 16 ∧ hr2 0 3 = .ref (10 - pl) ∧ plR (10 - pl) hr2 ∧ shR 16 hr2 ∧ Fc hr hr2 := by
      intro hr2 e2
      have w03 : hr2 0 3 = .ref (10 - pl) := by rw [e2, up_ne (Or.inl (by decide)), up_ne (Or.inr (by decide)), up_at]
      have w04 : hr2 0 4 = .ref pl := by rw [e2, up_ne (Or.inl (by decide)), up_at]
      have w34 : hr2 34 5 = .ref (10 - pl) := by rw [e2, up_at]
      have FW : Fx (fun a j => (a = 0 ∧ (j = 3 ∨ j = 4)) ∨ (a = 34 ∧ j = 5)) hr' hr2 := by
        rw [e2]
        exact Fx.up (Fx.up (Fx.up Fx.rf (Or.inl ⟨rfl, Or.inl rfl⟩)) (Or.inl ⟨rfl, Or.inr rfl⟩)) (Or.inr ⟨rfl, rfl⟩)
      have ea : ∀ a j, a ≠ 0 → a ≠ 34 → hr2 a j = hr' a j := fun a j g1 g2 => FW a j (by omega)
      have e0 : ∀ j, j ≠ 3 → j ≠ 4 → hr2 0 j = hr' 0 j := fun j g1 g2 => FW 0 j (by omega)
      have e34 : ∀ j, j < 3 → hr2 34 j = hr' 34 j := fun j g => FW 34 j (by omega)
      have cc : cR (10 - pl) hr2 := by
        obtain ⟨⟨b1, b3, b4, b5, b7, b9, b10, b12, b13, b14, b15, b16, b17, b18⟩, ⟨s1, s2, s3, s4⟩, c2, c8, t1, sh, lx, yx, q1, q2, q3⟩ := cR'
        refine ⟨⟨by rw [e0 0 (by decide) (by decide)]; exact b1, w03, by rw [hpp]; exact w04, by rw [e0 5 (by decide) (by decide)]; exact b5, by rw [e0 7 (by decide) (by decide)]; exact b7, by rw [e0 9 (by decide) (by decide)]; exact b9, by rw [e0 10 (by decide) (by decide)]; exact b10, by rw [e0 12 (by decide) (by decide)]; exact b12, by rw [e0 13 (by decide) (by decide)]; exact b13, by rw [e0 14 (by decide) (by decide)]; exact b14, by rw [e0 15 (by decide) (by decide)]; exact b15, by rw [e0 16 (by decide) (by decide)]; exact b16, by rw [e0 17 (by decide) (by decide)]; exact b17, by rw [e0 18 (by decide) (by decide)]; exact b18⟩, ⟨?_, w34, hp2, ?_⟩, ?_, ?_, ?_, ?_, ?_, ?_, by rw [ea 28 0 (by decide) (by decide)]; exact q1, by rw [ea 29 0 (by decide) (by decide)]; exact q2, by rw [ea 48 0 (by decide) (by decide)]; exact q3⟩
        · obtain ⟨x0, x1, x2⟩ := s1
          exact ⟨by rw [e34 0 (by decide)]; exact x0, by rw [e34 1 (by decide)]; exact x1, by rw [e34 2 (by decide)]; exact x2⟩
        · have c9 : plR (10 - pl) hr' := by
            rcases hps with ⟨-, e⟩ | ⟨-, e⟩
            · rw [e]; exact c8
            · rw [e]; exact c2
          unfold plR at c9 ⊢
          rw [ea _ _ (by omega) (by omega), ea _ _ (by omega) (by omega), ea _ _ (by omega) (by omega), ea _ _ (by omega) (by omega), ea _ _ (by omega) (by omega)]
          exact c9
        · unfold plR at c2 ⊢
          simp (disch := omega) only [ea]
          exact c2
        · unfold plR at c8 ⊢
          simp (disch := omega) only [ea]
          exact c8
        · unfold trR shR at t1 ⊢
          simp (disch := omega) only [ea]
          exact t1
        · unfold shR at sh ⊢
          simp (disch := omega) only [ea]
          exact sh
        · unfold lwX lwR at lx ⊢
          simp (disch := omega) only [ea]
          exact lx
        · unfold yeR at yx ⊢
          simp (disch := omega) only [ea]
          exact yx
      refine ⟨cc, cc.1.2.2.2.2.2.1, w03, cc.2.1.2.2.2, cc.2.2.2.2.1.2.2.2.2, fun x hx => ?_⟩
      rw [show hr2 x = hr' x from FW.row (fun j w => by omega)]
      exact Fhr x hx
    apply en_X4_follow
    simp (disch := omega) only [B_X4_follow_0, sh34, lt34, en_ops, en_opc, iI_add, iI_mul, iI_sub, jL_add, jL_mul, iI_le, iI_lt, iI_eq, iI_eq0, iI_lt0, iI_0le, iI_le0, iI_0lt, jL_iI, iI_jL, lc_eq, lc_lt, lc_le, lc_ge, lc_gt, Nat.sub_zero, Nat.zero_le, true_and, and_true, Nat.reduceAdd, Nat.reduceLeDiff]
    generalize hg : en_up (en_up (en_up hr' 0 3 (.ref (10 - pl))) 0 4 (.ref pl)) 34 5 (.ref (10 - pl)) = hr2
    obtain ⟨cc, w9, w3, wp, ws, wf⟩ := FX hr2 hg.symm
    simp (disch := omega) only [sh0, lt0, w9, w3, sh16, lt16, en_ops, en_opc, iI_add, iI_mul, iI_sub, jL_add, jL_mul, iI_le, iI_lt, iI_eq, iI_eq0, iI_lt0, iI_0le, iI_le0, iI_0lt, jL_iI, iI_jL, lc_eq, lc_lt, lc_le, lc_ge, lc_gt, Nat.sub_zero, Nat.zero_le, true_and, and_true, Nat.reduceAdd, Nat.reduceLeDiff]
    refine t_begin (d := d + 7) (E := bEnv W B) hp2 wp ws P5 ok rfl rfl rfl (fun h6 F6 X6 => ?_)
    simp (disch := omega) only [sh0, lt0, w9, sh16, lt16, en_ops, en_opc, iI_add, iI_mul, iI_sub, jL_add, jL_mul, iI_le, iI_lt, iI_eq, iI_eq0, iI_lt0, iI_0le, iI_le0, iI_0lt, jL_iI, iI_jL, lc_eq, lc_lt, lc_le, lc_ge, lc_gt, Nat.sub_zero, Nat.zero_le, true_and, and_true, Nat.reduceAdd, Nat.reduceLeDiff]
    have m16 : en_up h6 0 11 (iI 0) 16 0 = iI (bC B : Int) := by rw [up_ne (Or.inl (by decide))]; exact X6.1.1.1
    rw [m16]
    have FB : Fx (fun a j => (a = 0 ∧ (j = 1 ∨ j = 2 ∨ j = 11)) ∨ a = 26 ∨ (a = 28 ∧ 1 ≤ j ∧ j ≤ 3) ∨ (10 - pl ≤ a ∧ a ≤ 10 - pl + 5) ∨ (16 ≤ a ∧ a ≤ 23)) hi (en_up h6 0 11 (iI 0)) := by
      have F56 : Fx (fun a _ => 16 ≤ a ∧ a ≤ 23) h5 h6 := fun a j g => by rw [F6 a g]
      exact Fx.up ((F5.mono (fun a j w => by omega)).tr (F56.mono (fun a j w => by omega))) (Or.inl ⟨rfl, by decide⟩)
    obtain ⟨o1, o2, o3, o4, o5⟩ := keep _ FB
    have P6 : bpH (10 - pl) B (en_up h6 0 11 (iI 0)) := by
      have F56 : Fx (fun a _ => a = 0 ∨ (16 ≤ a ∧ a ≤ 23)) h5 (en_up h6 0 11 (iI 0)) := Fx.up (fun a j g => by rw [F6 a (by omega)]) (Or.inl rfl)
      exact P5.fx F56 (fun a j g1 g2 w => by omega)
    obtain ⟨p1, p2, p3, p4, p5, ⟨p6, p7⟩, p8, p9⟩ := P6
    refine Hx _ hl hr2 ⟨10 - pl, cc, ⟨⟨?_, fun j hj => absurd hj (Nat.not_lt_zero _)⟩, ?_, o1, o2, up_at, o3, o4, o5, ⟨⟨p6, ok.2.2.2.2.2.2.2.2.2.1.1, fun i hi9 => ?_⟩, ⟨p8, ok.2.2.2.2.2.2.2.2.2.2.1, fun i hi9 => ?_⟩, ?_⟩, ?_, fun i hi9 => absurd hi9 (Nat.not_lt_zero _)⟩⟩ (FC FB (fun a j w => by omega)) Fc.rf wf
    · rw [up_ne (Or.inr (by decide)), F6 0 (by omega)]; exact v1
    · rw [up_ne (Or.inr (by decide)), F6 0 (by omega)]; exact v2
    · obtain ⟨c1, c2⟩ := p7 i hi9
      obtain ⟨s1, s2, s3, s4⟩ := ok.2.2.2.2.2.2.2.2.2.1.2 i hi9
      have := ok.1
      have := ok.2.1
      exact ⟨c1, c2, by show (bSf B i).1 < 12; omega, by show (bSf B i).2.1 < 6; omega, s3⟩
    · obtain ⟨c1, c2, c3, c4⟩ := p9 i hi9
      obtain ⟨s1, s2, s3, s4, s5⟩ := ok.2.2.2.2.2.2.2.2.2.2.2 i hi9
      exact ⟨c1, c2, c3, c4, s1, s2, s3, s4, s5⟩
    · intro c z k hc hz9 hk
      have rw37 : en_up h6 0 11 (iI 0) 37 = hi 37 := FB.row (fun j w => by omega)
      rw [rw37]
      exact a10.2.2 c z k hc hz9 hk
    · exact X6.frP (Fr.up Fr.rf (P := (· = 0)) rfl) (fun x g1 g2 w => by omega)
end
