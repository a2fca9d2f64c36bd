section
variable {G : en_G} {d : Nat} {K : en_K} {W : zW} {n : Nat} {hi : en_I} {hl : en_L} {hr : en_F} {xc xs : Nat}
theorem m_codds {c : Int} (hI : InvR G W hi hr) (hz : zOK n W) (hc : iRg c) (H : rEnd G W W (if inC W c then 0 else 1) 1 (.int (iI 0)) (.int (iI (odP (zE W).2.1 (hdW W) c.toNat))) K hi hl hr) : en_Call G (d + 6) xc xs Y_X11_odds wN wN [.ref 110, .int (iI c)] hi hl hr K := by
  have nc12 := hz.c.1
  obtain ⟨I1, F1, T1⟩ := hI.t1
  apply en_X11_odds
  simp (disch := omega) only [B_X11_odds_0, sh110, lt110, en_ops, en_opc, iI_add, iI_mul, iI_sub, jL_add, jL_mul, iI_le, iI_lt, iI_eq, iI_eq0, iI_lt0, iI_0le, iI_le0, iI_0lt, jL_iI, iI_jL, lc_eq, lc_lt, lc_le, lc_ge, lc_gt, Nat.sub_zero, Nat.zero_le, true_and, and_true, Nat.reduceAdd, Nat.reduceLeDiff]
  generalize en_up hi 110 0 (iI 0) = h1 at *
  refine m_isCell (d := d + 3) (code := 1) I1 hz T1 hc (by omega) (fun e => ?_) (fun e hi' I' F' T' => ?_)
  · rw [if_pos e] at H
    obtain ⟨b, b1, b2, -⟩ := I1.e
    have Hx := H.1 rfl h1 I1 F1 T1
    have hg : gB (zE W).2.1 (hdW W) := hz.hg
    have r1 := hg.s (n := (zE W).2.1) (Nat.le_refl _)
    have g1 := hg.2 c.toNat (by omega)
    unfold odP at Hx
    have hall : ∀ {K' : en_K}, K' (.inl (some (.long (jL (sumTo (zE W).2.1 (hdW W)))))) h1 hl hr → en_Call G (d + 5) 0 0 Y_X11_allWords wN wN [.ref 110] h1 hl hr K' := fun h => m_allWords (d := d) I1.1 I1.xr.1.1 b1 b2 hz.f (I1.H hz) h
    simp (disch := omega) only [sh110, lt110, en_ops, en_opc, iI_add, iI_mul, iI_sub, jL_add, jL_mul, iI_le, iI_lt, iI_eq, iI_eq0, iI_lt0, iI_0le, iI_le0, iI_0lt, jL_iI, iI_jL, lc_eq, lc_lt, lc_le, lc_ge, lc_gt, Nat.sub_zero, Nat.zero_le, true_and, and_true, Nat.reduceAdd, Nat.reduceLeDiff]
    refine ⟨fun _ => hall ?_, fun e => absurd e (by decide)⟩
    simp (disch := omega) only [sh110, lt110, en_ops, en_opc, iI_add, iI_mul, iI_sub, jL_add, jL_mul, iI_le, iI_lt, iI_eq, iI_eq0, iI_lt0, iI_0le, iI_le0, iI_0lt, jL_iI, iI_jL, lc_eq, lc_lt, lc_le, lc_ge, lc_gt, Nat.sub_zero, Nat.zero_le, true_and, and_true, Nat.reduceAdd, Nat.reduceLeDiff]
    refine ⟨fun e2 => ?_, fun e2 => ?_⟩
    · rw [if_neg e2] at Hx
      rw [show c = ((c.toNat : Nat) : Int) by omega]
      refine m_wordOf (d := d + 1) (b := b) I1.1 I1.xr.1.1 b1 b2 hz.f (I1.H hz) (by omega) ?_
      simp (disch := omega) only [sh110, lt110, en_ops, en_opc, iI_add, iI_mul, iI_sub, jL_add, jL_mul, iI_le, iI_lt, iI_eq, iI_eq0, iI_lt0, iI_0le, iI_le0, iI_0lt, jL_iI, iI_jL, lc_eq, lc_lt, lc_le, lc_ge, lc_gt, Nat.sub_zero, Nat.zero_le, true_and, and_true, Nat.reduceAdd, Nat.reduceLeDiff]
      refine hall ?_
      simp (disch := omega) only [en_ops, en_opc, iI_add, iI_mul, iI_sub, jL_add, jL_mul, iI_le, iI_lt, iI_eq, iI_eq0, iI_lt0, iI_0le, iI_le0, iI_0lt, jL_iI, iI_jL, lc_eq, lc_lt, lc_le, lc_ge, lc_gt, Nat.sub_zero, Nat.zero_le, true_and, and_true, Nat.reduceAdd, Nat.reduceLeDiff]
      have gle : hdW W c.toNat ≤ 200 * sumTo (zE W).2.1 (hdW W) := by
        have := sumTo_at (n := (zE W).2.1) (f := hdW W) (a := c.toNat) (by omega) (fun i hi9 => (hg.2 i hi9).1)
        omega
      refine m_byAll g1.1 gle (by omega) (by omega) ?_
      simp (disch := omega) only [en_ops, en_opc, iI_add, iI_mul, iI_sub, jL_add, jL_mul, iI_le, iI_lt, iI_eq, iI_eq0, iI_lt0, iI_0le, iI_le0, iI_0lt, jL_iI, iI_jL, lc_eq, lc_lt, lc_le, lc_ge, lc_gt, Nat.sub_zero, Nat.zero_le, true_and, and_true, Nat.reduceAdd, Nat.reduceLeDiff]
      exact Hx
    · rw [if_pos e2] at Hx
      exact Hx
  · rw [if_neg e] at H
    simp (disch := omega) only [en_ops, en_opc, iI_add, iI_mul, iI_sub, jL_add, jL_mul, iI_le, iI_lt, iI_eq, iI_eq0, iI_lt0, iI_0le, iI_le0, iI_0lt, jL_iI, iI_jL, lc_eq, lc_lt, lc_le, lc_ge, lc_gt, Nat.sub_zero, Nat.zero_le, true_and, and_true, Nat.reduceAdd, Nat.reduceLeDiff]
    exact ⟨fun e => (e (by first | trivial | rfl)).elim, fun _ => H.no F1 (by omega) rfl I' F' T'⟩
theorem m_cwhere {w : Int} (hI : InvR G W hi hr) (hz : zOK n W) (hw : iRg w) (H : rEnd G W W (if 0 ≤ w ∧ w ≤ 2 then 0 else 3) 1 (.int (iI 0)) (.int (iI (whA W w))) K hi hl hr) : en_Call G (d + 6) xc xs Y_X11_where wN wN [.ref 110, .int (iI w)] hi hl hr K := by
  obtain ⟨I1, F1, T1⟩ := hI.t1
  obtain ⟨⟨-, -, r10, -, r12, -⟩, -⟩ := id I1.1
  have nc12 := hz.c.1
  obtain ⟨b, b1, b2, -⟩ := I1.e
  apply en_X11_where
  simp (disch := omega) only [B_X11_where_0, sh110, lt110, en_ops, en_opc, iI_add, iI_mul, iI_sub, jL_add, jL_mul, iI_le, iI_lt, iI_eq, iI_eq0, iI_lt0, iI_0le, iI_le0, iI_0lt, jL_iI, iI_jL, lc_eq, lc_lt, lc_le, lc_ge, lc_gt, Nat.sub_zero, Nat.zero_le, true_and, and_true, Nat.reduceAdd, Nat.reduceLeDiff]
  generalize en_up hi 110 0 (iI 0) = h1 at *
  have e0 : h1 113 0 = iI ((zE W).2.1 : Int) := by rw [b1 0 (by omega), b2.1]
  refine m_within hw.1 hw.2 (by decide) (by decide) (by decide) (by decide) ?_
  by_cases e : 0 ≤ w ∧ w ≤ 2
  · rw [if_pos e]
    rw [if_pos e] at H
    simp (disch := omega) only [sh110, lt110, en_ops, en_opc, iI_add, iI_mul, iI_sub, jL_add, jL_mul, iI_le, iI_lt, iI_eq, iI_eq0, iI_lt0, iI_0le, iI_le0, iI_0lt, jL_iI, iI_jL, lc_eq, lc_lt, lc_le, lc_ge, lc_gt, Nat.sub_zero, Nat.zero_le, true_and, and_true, Nat.reduceAdd, Nat.reduceLeDiff]
    refine m_may (d := d + 4) (code := 1) (k := 2) I1 T1 (Or.inr rfl) (by omega) (by omega) (fun _ => ?_) (fun e => absurd e (by decide))
    have Hx := H.1 rfl h1 I1 F1 T1
    have hg : gB (zE W).2.1 (hdW W) := hz.hg
    have r1 := hg.s (n := (zE W).2.1) (Nat.le_refl _)
    unfold whA hfP at Hx
    have wd : ∀ {K' : en_K} {c : Nat}, c < (zE W).2.1 → K' (.inl (some (.long (jL (hdW W c))))) h1 hl hr → en_Call G (d + 5) 0 0 Y_X11_wordOf wN wN [.ref 110, .int (iI (c : Int))] h1 hl hr K' := fun hc h => m_wordOf (d := d + 1) I1.1 I1.xr.1.1 b1 b2 hz.f (I1.H hz) (by omega) h
    have hall : ∀ {K' : en_K}, K' (.inl (some (.long (jL (sumTo (zE W).2.1 (hdW W)))))) h1 hl hr → en_Call G (d + 5) 0 0 Y_X11_allWords wN wN [.ref 110] h1 hl hr K' := fun h => m_allWords (d := d) I1.1 I1.xr.1.1 b1 b2 hz.f (I1.H hz) h
    generalize hdW W = g at *
    generalize (zE W).2.1 = nc at *
    simp (disch := omega) only [sh110, lt110, en_ops, en_opc, iI_add, iI_mul, iI_sub, jL_add, jL_mul, iI_le, iI_lt, iI_eq, iI_eq0, iI_lt0, iI_0le, iI_le0, iI_0lt, jL_iI, iI_jL, lc_eq, lc_lt, lc_le, lc_ge, lc_gt, Nat.sub_zero, Nat.zero_le, true_and, and_true, Nat.reduceAdd, Nat.reduceLeDiff]
    refine ⟨fun _ => hall ?_, fun e => absurd e (by decide)⟩
    simp (disch := omega) only [en_ops, en_opc, iI_add, iI_mul, iI_sub, jL_add, jL_mul, iI_le, iI_lt, iI_eq, iI_eq0, iI_lt0, iI_0le, iI_le0, iI_0lt, jL_iI, iI_jL, lc_eq, lc_lt, lc_le, lc_ge, lc_gt, Nat.sub_zero, Nat.zero_le, true_and, and_true, Nat.reduceAdd, Nat.reduceLeDiff]
    refine ⟨fun e3 => ?_, fun e3 => ?_⟩
    · rw [if_neg e3, if_neg e3, if_neg e3] at Hx
      have fr : ∀ c, c < nc → 0 ≤ faP nc g c ∧ faP nc g c ≤ 12 * sumTo nc g := fun c hc => faP_r hg hc (Nat.le_refl _)
      have lv : ∀ c : Nat, 1 ≤ c → c ≤ nc → 0 ≤ neF (faP nc g) c ∧ neF (faP nc g) c < c := fun c h1 h2 => by have := neF_r (g := faP nc g) c; have := this.2.2 (by omega); omega
      have gv : ∀ c : Nat, 1 ≤ c → c ≤ nc → 0 ≤ guF g c ∧ guF g c < c := fun c h1 h2 => by have := guF_r (g := g) c; have := this.2.2 (by omega); omega
      have nc0 : nc ≠ 0 := fun e0 => by subst e0; exact absurd (show sumTo 0 g = 0 from rfl) (by omega)
      suffices L : ∀ c : Nat, c ≤ nc → ∀ (x9 x11 : Value) (l : Int), (c ≠ 0 → l = faP nc g (neF (faP nc g) c).toNat) → (c = 0 → l = 0) → en_V G Y_X11_where (d + 6) wN wN K 47 [.ref 110, .int (iI w), .long (jL (sumTo nc g)), jk, .int (iI ((guF g c).toNat : Int)), .int (iI (neF (faP nc g) c)), .long (jL l), jk, .int (iI (c : Int)), x9, jk, x11] [] h1 hl hr xc xs from L 0 (by omega) _ _ 0 (fun e => absurd rfl e) (fun _ => rfl)
      refine lp nc (fun x9 x11 l hl1 hl0 => ?_) (fun c hc ih x9 x11 l hl1 hl0 => ?_)
      · have l9 := hl1 nc0
        obtain ⟨b0, b1⟩ := lv nc (by omega) (Nat.le_refl _)
        obtain ⟨g0, g1⟩ := gv nc (by omega) (Nat.le_refl _)
        have f9 := fr (neF (faP nc g) nc).toNat (by omega)
        rw [← l9] at Hx f9
        apply s_X11_where_47
        simp (disch := omega) only [B_X11_where_47, r10, sh110, lt110, sh113, lt113, en_ops, en_opc, iI_add, iI_mul, iI_sub, jL_add, jL_mul, iI_le, iI_lt, iI_eq, iI_eq0, iI_lt0, iI_0le, iI_le0, iI_0lt, jL_iI, iI_jL, lc_eq, lc_lt, lc_le, lc_ge, lc_gt, Nat.sub_zero, Nat.zero_le, true_and, and_true, Nat.reduceAdd, Nat.reduceLeDiff]
        refine ⟨0, rfl, by decide, ?_⟩
        rw [e0]
        simp (disch := omega) only [en_ops, en_opc, iI_add, iI_mul, iI_sub, jL_add, jL_mul, iI_le, iI_lt, iI_eq, iI_eq0, iI_lt0, iI_0le, iI_le0, iI_0lt, jL_iI, iI_jL, lc_eq, lc_lt, lc_le, lc_ge, lc_gt, Nat.sub_zero, Nat.zero_le, true_and, and_true, Nat.reduceAdd, Nat.reduceLeDiff]
        refine ⟨fun _ => ⟨fun e4 => ⟨fun e5 => m_byAll (by omega) (by omega) (by omega) (by omega) ?_, fun e5 => ?_⟩, fun e4 => ?_⟩, fun e => absurd (Int.le_refl _) e⟩
        · rw [if_neg e4, if_neg e5] at Hx
          simp (disch := omega) only [en_ops, en_opc, iI_add, iI_mul, iI_sub, jL_add, jL_mul, iI_le, iI_lt, iI_eq, iI_eq0, iI_lt0, iI_0le, iI_le0, iI_0lt, jL_iI, iI_jL, lc_eq, lc_lt, lc_le, lc_ge, lc_gt, Nat.sub_zero, Nat.zero_le, true_and, and_true, Nat.reduceAdd, Nat.reduceLeDiff]
          exact Hx
        · rw [if_neg e4, if_pos e5] at Hx
          exact Hx
        · rw [if_pos e4] at Hx
          rw [show ((guF g nc).toNat : Int) = guF g nc by omega]
          exact Hx
      · have fc := fr c hc
        have st9 : guF g (c + 1) = if guF g c = -1 ∨ g (guF g c).toNat < g c then (c : Int) else guF g c := rfl
        have gc := hg.2 c hc
        have body : ∀ gg : Int, gg = ((guF g (c + 1)).toNat : Int) → en_V G Y_X11_where (d + 6) wN wN K 84 [.ref 110, .int (iI w), .long (jL (sumTo nc g)), jk, .int (iI gg), .int (iI (neF (faP nc g) c)), .long (jL l), jk, .int (iI (c : Int)), .long (jL 0), jk, .int (iI 0)] [] h1 hl hr xc xs := fun gg hgg => by
          rw [← hgg] at ih
          suffices L2 : ∀ o : Nat, o ≤ nc → en_V G Y_X11_where (d + 6) wN wN K 84 [.ref 110, .int (iI w), .long (jL (sumTo nc g)), jk, .int (iI gg), .int (iI (neF (faP nc g) c)), .long (jL l), jk, .int (iI (c : Int)), .long (jL (sumTo o (faI g c))), jk, .int (iI (o : Int))] [] h1 hl hr xc xs from L2 0 (by omega)
          refine lp nc ?_ (fun o ho ih2 => ?_)
          · have ef : sumTo nc (faI g c) = faP nc g c := rfl
            rw [ef]
            have st : neF (faP nc g) (c + 1) = if neF (faP nc g) c = -1 ∨ faP nc g c < faP nc g (neF (faP nc g) c).toNat then (c : Int) else neF (faP nc g) c := rfl
            apply s_X11_where_84
            have nr := neF_r (g := faP nc g) c
            by_cases c0 : c = 0
            · subst c0
              have z0 : neF (faP nc g) 0 = -1 := rfl
              have z1 : neF (faP nc g) 1 = 0 := if_pos (Or.inl rfl)
              simp (disch := omega) only [B_X11_where_84, r10, sh110, lt110, sh113, lt113, en_ops, en_opc, iI_add, iI_mul, iI_sub, jL_add, jL_mul, iI_le, iI_lt, iI_eq, iI_eq0, iI_lt0, iI_0le, iI_le0, iI_0lt, jL_iI, iI_jL, lc_eq, lc_lt, lc_le, lc_ge, lc_gt, Nat.sub_zero, Nat.zero_le, true_and, and_true, Nat.reduceAdd, Nat.reduceLeDiff]
              refine ⟨0, rfl, by decide, ?_⟩
              rw [e0]
              simp (disch := omega) only [en_ops, en_opc, iI_add, iI_mul, iI_sub, jL_add, jL_mul, iI_le, iI_lt, iI_eq, iI_eq0, iI_lt0, iI_0le, iI_le0, iI_0lt, jL_iI, iI_jL, lc_eq, lc_lt, lc_le, lc_ge, lc_gt, Nat.sub_zero, Nat.zero_le, true_and, and_true, Nat.reduceAdd, Nat.reduceLeDiff]
              refine ⟨fun _ => ⟨fun _ => ?_, fun e4 => absurd z0 e4⟩, fun e => absurd (Int.le_refl _) e⟩
              have := ih (.long (jL (faP nc g 0))) (.int (iI (nc : Int))) (faP nc g 0) (fun _ => by rw [z1]; rfl) (fun e => by omega)
              rw [z1] at this
              exact this
            · obtain ⟨b0, b1⟩ := lv c (by omega) (by omega)
              have l9 := hl1 c0
              have fl := fr (neF (faP nc g) c).toNat (by omega)
              rw [← l9] at fl
              simp (disch := omega) only [B_X11_where_84, r10, sh110, lt110, sh113, lt113, en_ops, en_opc, iI_add, iI_mul, iI_sub, jL_add, jL_mul, iI_le, iI_lt, iI_eq, iI_eq0, iI_lt0, iI_0le, iI_le0, iI_0lt, jL_iI, iI_jL, lc_eq, lc_lt, lc_le, lc_ge, lc_gt, Nat.sub_zero, Nat.zero_le, true_and, and_true, Nat.reduceAdd, Nat.reduceLeDiff]
              refine ⟨0, rfl, by decide, ?_⟩
              rw [e0]
              simp (disch := omega) only [en_ops, en_opc, iI_add, iI_mul, iI_sub, jL_add, jL_mul, iI_le, iI_lt, iI_eq, iI_eq0, iI_lt0, iI_0le, iI_le0, iI_0lt, jL_iI, iI_jL, lc_eq, lc_lt, lc_le, lc_ge, lc_gt, Nat.sub_zero, Nat.zero_le, true_and, and_true, Nat.reduceAdd, Nat.reduceLeDiff]
              refine ⟨fun _ => ⟨fun e => by omega, fun _ => ⟨fun e2 => ?_, fun e2 => ?_⟩⟩, fun e => absurd (Int.le_refl _) e⟩
              · have st' : neF (faP nc g) (c + 1) = c := by rw [st, if_pos (by rw [← l9]; omega)]
                have := ih (.long (jL (faP nc g c))) (.int (iI (nc : Int))) (faP nc g c) (fun _ => by rw [st', show ((c : Int)).toNat = c by omega]) (fun e => by omega)
                rw [st'] at this
                exact this
              · have st' : neF (faP nc g) (c + 1) = neF (faP nc g) c := by rw [st, if_neg (by rw [← l9]; omega)]
                have := ih (.long (jL (faP nc g c))) (.int (iI (nc : Int))) l (fun _ => by rw [st']; exact l9) (fun e => by omega)
                rw [st'] at this
                exact this
          · rw [sumTo_s] at ih2
            have f1 := faP_r hg hc (n := o) (by omega)
            have fi := faI_r hg hc ho
            obtain ⟨g0, g1⟩ := hg.2 o ho
            have fd : faI g c o = (if (o : Int) - c < 0 then -((o : Int) - c) else (o : Int) - c) * g o := rfl
            apply s_X11_where_84
            simp (disch := omega) only [B_X11_where_84, r10, sh110, lt110, sh113, lt113, en_ops, en_opc, iI_add, iI_mul, iI_sub, jL_add, jL_mul, iI_le, iI_lt, iI_eq, iI_eq0, iI_lt0, iI_0le, iI_le0, iI_0lt, jL_iI, iI_jL, lc_eq, lc_lt, lc_le, lc_ge, lc_gt, Nat.sub_zero, Nat.zero_le, true_and, and_true, Nat.reduceAdd, Nat.reduceLeDiff]
            refine ⟨0, rfl, by decide, ?_⟩
            rw [e0]
            simp (disch := omega) only [sh110, lt110, en_ops, en_opc, iI_add, iI_mul, iI_sub, jL_add, jL_mul, iI_le, iI_lt, iI_eq, iI_eq0, iI_lt0, iI_0le, iI_le0, iI_0lt, jL_iI, iI_jL, lc_eq, lc_lt, lc_le, lc_ge, lc_gt, Nat.sub_zero, Nat.zero_le, true_and, and_true, Nat.reduceAdd, Nat.reduceLeDiff]
            refine ⟨fun e => by omega, fun _ => wd ho ?_⟩
            simp (disch := omega) only [en_ops, en_opc, iI_add, iI_mul, iI_sub, jL_add, jL_mul, iI_le, iI_lt, iI_eq, iI_eq0, iI_lt0, iI_0le, iI_le0, iI_0lt, jL_iI, iI_jL, lc_eq, lc_lt, lc_le, lc_ge, lc_gt, Nat.sub_zero, Nat.zero_le, true_and, and_true, Nat.reduceAdd, Nat.reduceLeDiff]
            refine ⟨fun e => ?_, fun e => ?_⟩
            · rw [fd, if_neg (by omega), Int.mul_comm] at ih2; exact ih2
            · rw [fd, if_pos (by omega), Int.mul_comm, show -((o : Int) - c) = c - o by omega] at ih2; exact ih2
        have gl : (guF g c).toNat < nc := by
          by_cases c0 : c = 0
          · subst c0; show (-1 : Int).toNat < nc; exact Nat.pos_of_ne_zero nc0
          · have := gv c (by omega) (by omega); omega
        have g2 := hg.2 _ gl
        apply s_X11_where_47
        simp (disch := omega) only [B_X11_where_47, r10, sh110, lt110, sh113, lt113, en_ops, en_opc, iI_add, iI_mul, iI_sub, jL_add, jL_mul, iI_le, iI_lt, iI_eq, iI_eq0, iI_lt0, iI_0le, iI_le0, iI_0lt, jL_iI, iI_jL, lc_eq, lc_lt, lc_le, lc_ge, lc_gt, Nat.sub_zero, Nat.zero_le, true_and, and_true, Nat.reduceAdd, Nat.reduceLeDiff]
        refine ⟨0, rfl, by decide, ?_⟩
        rw [e0]
        simp (disch := omega) only [sh110, lt110, en_ops, en_opc, iI_add, iI_mul, iI_sub, jL_add, jL_mul, iI_le, iI_lt, iI_eq, iI_eq0, iI_lt0, iI_0le, iI_le0, iI_0lt, jL_iI, iI_jL, lc_eq, lc_lt, lc_le, lc_ge, lc_gt, Nat.sub_zero, Nat.zero_le, true_and, and_true, Nat.reduceAdd, Nat.reduceLeDiff]
        refine ⟨fun e => by omega, fun _ => wd hc ?_⟩
        simp (disch := omega) only [sh110, lt110, en_ops, en_opc, iI_add, iI_mul, iI_sub, jL_add, jL_mul, iI_le, iI_lt, iI_eq, iI_eq0, iI_lt0, iI_0le, iI_le0, iI_0lt, jL_iI, iI_jL, lc_eq, lc_lt, lc_le, lc_ge, lc_gt, Nat.sub_zero, Nat.zero_le, true_and, and_true, Nat.reduceAdd, Nat.reduceLeDiff]
        refine wd gl ?_
        simp (disch := omega) only [en_ops, en_opc, iI_add, iI_mul, iI_sub, jL_add, jL_mul, iI_le, iI_lt, iI_eq, iI_eq0, iI_lt0, iI_0le, iI_le0, iI_0lt, jL_iI, iI_jL, lc_eq, lc_lt, lc_le, lc_ge, lc_gt, Nat.sub_zero, Nat.zero_le, true_and, and_true, Nat.reduceAdd, Nat.reduceLeDiff]
        refine ⟨fun e4 => body _ ?_, fun e4 => body _ ?_⟩
        · by_cases c0 : c = 0
          · subst c0
            rw [show guF g (0 + 1) = 0 from if_pos (Or.inl rfl)]; rfl
          · have := gv c (by omega) (by omega)
            rw [st9, if_neg (by omega)]
        · by_cases c0 : c = 0
          · subst c0
            rw [show guF g (0 + 1) = 0 from if_pos (Or.inl rfl)]; rfl
          · rw [st9, if_pos (Or.inr (by omega))]; omega
    · rw [if_pos e3, if_pos e3, if_pos e3] at Hx
      have : (if w = 0 then (-1 : Int) else if w = 1 then -1 else -1) = -1 := by split; rfl; split <;> rfl
      rw [this] at Hx
      exact Hx
  · rw [if_neg e]
    rw [if_neg e] at H
    simp (disch := omega) only [sh110, lt110, en_ops, en_opc, iI_add, iI_mul, iI_sub, jL_add, jL_mul, iI_le, iI_lt, iI_eq, iI_eq0, iI_lt0, iI_0le, iI_le0, iI_0lt, jL_iI, iI_jL, lc_eq, lc_lt, lc_le, lc_ge, lc_gt, Nat.sub_zero, Nat.zero_le, true_and, and_true, Nat.reduceAdd, Nat.reduceLeDiff]
    refine m_may (d := d + 4) (code := 1) (k := 2) I1 T1 (Or.inl rfl) (by omega) (by omega) (fun e => absurd e (by decide)) (fun _ hi' I' F' T' => ?_)
    simp (disch := omega) only [en_ops, en_opc, iI_add, iI_mul, iI_sub, jL_add, jL_mul, iI_le, iI_lt, iI_eq, iI_eq0, iI_lt0, iI_0le, iI_le0, iI_0lt, jL_iI, iI_jL, lc_eq, lc_lt, lc_le, lc_ge, lc_gt, Nat.sub_zero, Nat.zero_le, true_and, and_true, Nat.reduceAdd, Nat.reduceLeDiff]
    exact ⟨fun e => (e (by first | trivial | rfl)).elim, fun _ => H.no F1 (by omega) rfl I' F' T'⟩
/-- the hand of one stone -/
theorem on_hd (f : Nat → Nat → Nat → Int) (nz c z k : Nat) (hk : k < 3) : wdP f nz 1 (hdG (fun _ => (z, k))) c = shP f nz c (z * 3 + k) := by
  show 1 * shP f nz c (3 * z + k) = shP f nz c (z * 3 + k)
  rw [Int.one_mul, show 3 * z + k = z * 3 + k by omega]
theorem m_cone {w : Int} (hI : InvR G W hi hr) (hz : zOK n W) (hw : iRg w) (H : rEnd G W W (if 0 ≤ w ∧ w ≤ 1 then 0 else 3) 1 (.int (iI 0)) (.int (iI (if w = 0 then (onS (zS W).1.1 (zE W).2.1 (zE W).2.2.1 ((zE W).2.2.1 * 3)).1 else (onS (zS W).1.1 (zE W).2.1 (zE W).2.2.1 ((zE W).2.2.1 * 3)).2))) K hi hl hr) : en_Call G (d + 7) xc xs Y_X11_one wN wN [.ref 110, .int (iI w)] hi hl hr K := by
  obtain ⟨I1, F1, T1⟩ := hI.t1
  obtain ⟨⟨-, -, r10, -, r12, -⟩, -⟩ := id I1.1
  obtain ⟨nc12, nz6⟩ := hz.c
  obtain ⟨b, b1, b2, -⟩ := I1.e
  apply en_X11_one
  simp (disch := omega) only [B_X11_one_0, sh110, lt110, en_ops, en_opc, iI_add, iI_mul, iI_sub, jL_add, jL_mul, iI_le, iI_lt, iI_eq, iI_eq0, iI_lt0, iI_0le, iI_le0, iI_0lt, jL_iI, iI_jL, lc_eq, lc_lt, lc_le, lc_ge, lc_gt, Nat.sub_zero, Nat.zero_le, true_and, and_true, Nat.reduceAdd, Nat.reduceLeDiff]
  generalize en_up hi 110 0 (iI 0) = h1 at *
  have e1 : h1 113 1 = iI ((zE W).2.2.1 : Int) := by rw [b1 1 (by omega), b2.2.1]
  have sx := I1.xr
  refine m_within hw.1 hw.2 (by decide) (by decide) (by decide) (by decide) ?_
  by_cases e : 0 ≤ w ∧ w ≤ 1
  · rw [if_pos e]
    rw [if_pos e] at H
    simp (disch := omega) only [sh110, lt110, en_ops, en_opc, iI_add, iI_mul, iI_sub, jL_add, jL_mul, iI_le, iI_lt, iI_eq, iI_eq0, iI_lt0, iI_0le, iI_le0, iI_0lt, jL_iI, iI_jL, lc_eq, lc_lt, lc_le, lc_ge, lc_gt, Nat.sub_zero, Nat.zero_le, true_and, and_true, Nat.reduceAdd, Nat.reduceLeDiff]
    refine m_may (d := d + 5) (code := 1) (k := 2) I1 T1 (Or.inr rfl) (by omega) (by omega) (fun _ => ?_) (fun e => absurd e (by decide))
    simp (disch := omega) only [sh110, lt110, en_ops, en_opc, iI_add, iI_mul, iI_sub, jL_add, jL_mul, iI_le, iI_lt, iI_eq, iI_eq0, iI_lt0, iI_0le, iI_le0, iI_0lt, jL_iI, iI_jL, lc_eq, lc_lt, lc_le, lc_ge, lc_gt, Nat.sub_zero, Nat.zero_le, true_and, and_true, Nat.reduceAdd, Nat.reduceLeDiff]
    refine ⟨fun _ => m_keeps (d := d + 5) I1.1 (fun h2 F2 A2 => ?_), fun e => absurd e (by decide)⟩
    simp (disch := omega) only [r12, sh110, lt110, sh115, lt115, en_ops, en_opc, iI_add, iI_mul, iI_sub, jL_add, jL_mul, iI_le, iI_lt, iI_eq, iI_eq0, iI_lt0, iI_0le, iI_le0, iI_0lt, jL_iI, iI_jL, lc_eq, lc_lt, lc_le, lc_ge, lc_gt, Nat.sub_zero, Nat.zero_le, true_and, and_true, Nat.reduceAdd, Nat.reduceLeDiff]
    refine ⟨630, rfl, by omega, ?_⟩
    have hf := hz.f
    have rng := on_r hf nc12 nz6
    have Hx := H.1 rfl
    suffices L : ∀ z : Nat, z ≤ (zE W).2.2.1 → ∀ h9 x5 x6 l, Fr (fun x => x = 115 ∨ x = 117) h1 h9 → (∀ j, j < 834 → h9 117 j = h1 115 j) → (∀ j, j < 576 → h9 115 j = h1 115 j) → h9 115 630 = iI 1 → (-1 ≤ l ∧ l ≤ 12000) → ((onS (zS W).1.1 (zE W).2.1 (zE W).2.2.1 (z * 3)).1 ≠ -1 → l = (onS (zS W).1.1 (zE W).2.1 (zE W).2.2.1 (z * 3)).2) → en_V G Y_X11_one (d + 7) wN wN K 42 [.ref 110, .int (iI w), .int (iI (onS (zS W).1.1 (zE W).2.1 (zE W).2.2.1 (z * 3)).1), .int (iI l), .int (iI (z : Int)), x5, x6] [] h9 hl hr xc xs from
      L 0 (by omega) (en_up h2 115 630 (iI 1)) _ _ 0 ((F2.mono (Q := fun x => x = 115 ∨ x = 117) (fun x g => Or.inr g)).up (Or.inl rfl)) (fun j hj => by rw [up_row (by omega)]; exact A2 j hj) (fun j hj => by rw [up_ne (Or.inr (by omega)), F2 115 (by omega)]) up_at (by omega) (fun g => absurd rfl g)
    refine lp (zE W).2.2.1 (fun h9 x5 x6 l F9 A9 B9 N9 l9 lq => ?_) (fun z hz9 ih h9 x5 x6 l F9 A9 B9 N9 l9 lq => ?_)
    · obtain ⟨⟨q1, q2⟩, -⟩ := rng ((zE W).2.2.1 * 3) (by omega)
      have e9 : h9 113 1 = iI ((zE W).2.2.1 : Int) := by rw [F9 113 (by omega)]; exact e1
      apply s_X11_one_42
      simp (disch := omega) only [B_X11_one_42, r10, sh110, lt110, sh113, lt113, en_ops, en_opc, iI_add, iI_mul, iI_sub, jL_add, jL_mul, iI_le, iI_lt, iI_eq, iI_eq0, iI_lt0, iI_0le, iI_le0, iI_0lt, jL_iI, iI_jL, lc_eq, lc_lt, lc_le, lc_ge, lc_gt, Nat.sub_zero, Nat.zero_le, true_and, and_true, Nat.reduceAdd, Nat.reduceLeDiff]
      refine ⟨1, rfl, by decide, ?_⟩
      rw [e9]
      simp (disch := omega) only [sh110, lt110, en_ops, en_opc, iI_add, iI_mul, iI_sub, jL_add, jL_mul, iI_le, iI_lt, iI_eq, iI_eq0, iI_lt0, iI_0le, iI_le0, iI_0lt, jL_iI, iI_jL, lc_eq, lc_lt, lc_le, lc_ge, lc_gt, Nat.sub_zero, Nat.zero_le, true_and, and_true, Nat.reduceAdd, Nat.reduceLeDiff]
      refine ⟨fun _ => m_comesBack (d := d + 5) I1.1 (fun h10 F10 A10 => ?_), fun e => absurd (Int.le_refl _) e⟩
      have F11 : Fr (fun x => x = 115 ∨ x = 117) h1 h10 := F9.tr (F10.mono (fun x g => Or.inl g))
      have I10 : InvR G W h10 hr := I1.put (s := zS W) F11 (fun x g => by rcases g with g | g; exact Or.inl g; exact Or.inr (by unfold Psr; omega)) (I1.xr.cg (InvR.nh hz).1 (fun j hj => (A10 j hj).trans (A9 j hj)))
      have Hy := Hx h10 I10 (F1.tr (fun x hx => F11 x (by omega))) (by rw [F11 110 (by omega)]; exact T1)
      simp (disch := omega) only [en_ops, en_opc, iI_add, iI_mul, iI_sub, jL_add, jL_mul, iI_le, iI_lt, iI_eq, iI_eq0, iI_lt0, iI_0le, iI_le0, iI_0lt, jL_iI, iI_jL, lc_eq, lc_lt, lc_le, lc_ge, lc_gt, Nat.sub_zero, Nat.zero_le, true_and, and_true, Nat.reduceAdd, Nat.reduceLeDiff]
      refine ⟨fun e3 => ⟨fun e4 => ?_, fun e4 => ?_⟩, fun e3 => ?_⟩
      · rw [if_neg e4, ← lq e3] at Hy; exact Hy
      · rw [if_pos e4] at Hy; exact Hy
      · have q2 : ∀ i, (onS (zS W).1.1 (zE W).2.1 (zE W).2.2.1 i).1 = -1 → (onS (zS W).1.1 (zE W).2.1 (zE W).2.2.1 i).2 = -1 := by
          intro i
          induction i with
          | zero => exact fun _ => rfl
          | succ i ih =>
            have st : onS (zS W).1.1 (zE W).2.1 (zE W).2.2.1 (i + 1) = if onG (zS W).1.1 (zE W).2.1 (zE W).2.2.1 i ≠ -1 ∧ ((onS (zS W).1.1 (zE W).2.1 (zE W).2.2.1 i).1 = -1 ∨ onG (zS W).1.1 (zE W).2.1 (zE W).2.2.1 i < (onS (zS W).1.1 (zE W).2.1 (zE W).2.2.1 i).2) then (10 * ((i / 3 : Nat) : Int) + ((i % 3 : Nat) : Int), onG (zS W).1.1 (zE W).2.1 (zE W).2.2.1 i) else onS (zS W).1.1 (zE W).2.1 (zE W).2.2.1 i := rfl
            rw [st]
            split
            · intro g; have g' : 10 * ((i / 3 : Nat) : Int) + ((i % 3 : Nat) : Int) = -1 := g; omega
            · exact ih
        rw [q2 _ e3, e3] at Hy
        rw [show (if w = 0 then (-1 : Int) else -1) = -1 by split <;> rfl] at Hy
        exact Hy
    · have e9 : h9 113 1 = iI ((zE W).2.2.1 : Int) := by rw [F9 113 (by omega)]; exact e1
      apply s_X11_one_42
      simp (disch := omega) only [B_X11_one_42, r10, sh110, lt110, sh113, lt113, en_ops, en_opc, iI_add, iI_mul, iI_sub, jL_add, jL_mul, iI_le, iI_lt, iI_eq, iI_eq0, iI_lt0, iI_0le, iI_le0, iI_0lt, jL_iI, iI_jL, lc_eq, lc_lt, lc_le, lc_ge, lc_gt, Nat.sub_zero, Nat.zero_le, true_and, and_true, Nat.reduceAdd, Nat.reduceLeDiff]
      refine ⟨1, rfl, by decide, ?_⟩
      rw [e9]
      simp (disch := omega) only [en_ops, en_opc, iI_add, iI_mul, iI_sub, jL_add, jL_mul, iI_le, iI_lt, iI_eq, iI_eq0, iI_lt0, iI_0le, iI_le0, iI_0lt, jL_iI, iI_jL, lc_eq, lc_lt, lc_le, lc_ge, lc_gt, Nat.sub_zero, Nat.zero_le, true_and, and_true, Nat.reduceAdd, Nat.reduceLeDiff]
      refine ⟨fun e => by omega, fun _ => ?_⟩
      suffices L2 : ∀ k : Nat, k ≤ 3 → ∀ h9 x6 l, Fr (fun x => x = 115 ∨ x = 117) h1 h9 → (∀ j, j < 834 → h9 117 j = h1 115 j) → (∀ j, j < 576 → h9 115 j = h1 115 j) → h9 115 630 = iI 1 → (-1 ≤ l ∧ l ≤ 12000) → ((onS (zS W).1.1 (zE W).2.1 (zE W).2.2.1 (z * 3 + k)).1 ≠ -1 → l = (onS (zS W).1.1 (zE W).2.1 (zE W).2.2.1 (z * 3 + k)).2) → en_V G Y_X11_one (d + 7) wN wN K 56 [.ref 110, .int (iI w), .int (iI (onS (zS W).1.1 (zE W).2.1 (zE W).2.2.1 (z * 3 + k)).1), .int (iI l), .int (iI (z : Int)), .int (iI (k : Int)), x6] [] h9 hl hr xc xs from L2 0 (by omega) h9 x6 l F9 A9 B9 N9 l9 lq
      refine lp 3 (fun h9 x6 l F9 A9 B9 N9 l9 lq => ?_) (fun k hk ih2 h9 x6 l F9 A9 B9 N9 l9 lq => ?_)
      · rw [show (z + 1) * 3 = z * 3 + 3 by omega] at ih
        apply s_X11_one_56
        simp (disch := omega) only [B_X11_one_56, en_ops, en_opc, iI_add, iI_mul, iI_sub, jL_add, jL_mul, iI_le, iI_lt, iI_eq, iI_eq0, iI_lt0, iI_0le, iI_le0, iI_0lt, jL_iI, iI_jL, lc_eq, lc_lt, lc_le, lc_ge, lc_gt, Nat.sub_zero, Nat.zero_le, true_and, and_true, Nat.reduceAdd, Nat.reduceLeDiff]
        exact ⟨fun _ => ih h9 _ _ l F9 A9 B9 N9 l9 lq, fun e => absurd (show (3 : Int) ≤ ((3 : Nat) : Int) by omega) e⟩
      · obtain ⟨⟨o1, o2⟩, o3, o4⟩ := rng (z * 3 + k) (by omega)
        have gr := hf_r (shP_B (i := z * 3 + k) hf nc12 nz6 (by omega))
        have eg : hfP (zE W).2.1 (wdP (zS W).1.1 (zE W).2.2.1 1 (hdG (fun _ => (z, k)))) = onG (zS W).1.1 (zE W).2.1 (zE W).2.2.1 (z * 3 + k) := by
          unfold onG
          rw [show wdP (zS W).1.1 (zE W).2.2.1 1 (hdG (fun _ => (z, k))) = fun c => shP (zS W).1.1 (zE W).2.2.1 c (z * 3 + k) from funext (fun c => on_hd _ _ c z k hk)]
        have eg2 : hfP (zE W).2.1 (fun c => shP (zS W).1.1 (zE W).2.2.1 c (z * 3 + k)) = onG (zS W).1.1 (zE W).2.1 (zE W).2.2.1 (z * 3 + k) := rfl
        rw [eg2] at gr
        have st : onS (zS W).1.1 (zE W).2.1 (zE W).2.2.1 (z * 3 + (k + 1)) = if onG (zS W).1.1 (zE W).2.1 (zE W).2.2.1 (z * 3 + k) ≠ -1 ∧ ((onS (zS W).1.1 (zE W).2.1 (zE W).2.2.1 (z * 3 + k)).1 = -1 ∨ onG (zS W).1.1 (zE W).2.1 (zE W).2.2.1 (z * 3 + k) < (onS (zS W).1.1 (zE W).2.1 (zE W).2.2.1 (z * 3 + k)).2) then (10 * (z : Int) + k, onG (zS W).1.1 (zE W).2.1 (zE W).2.2.1 (z * 3 + k)) else onS (zS W).1.1 (zE W).2.1 (zE W).2.2.1 (z * 3 + k) := by
          have st0 : onS (zS W).1.1 (zE W).2.1 (zE W).2.2.1 (z * 3 + k + 1) = if onG (zS W).1.1 (zE W).2.1 (zE W).2.2.1 (z * 3 + k) ≠ -1 ∧ ((onS (zS W).1.1 (zE W).2.1 (zE W).2.2.1 (z * 3 + k)).1 = -1 ∨ onG (zS W).1.1 (zE W).2.1 (zE W).2.2.1 (z * 3 + k) < (onS (zS W).1.1 (zE W).2.1 (zE W).2.2.1 (z * 3 + k)).2) then (10 * (((z * 3 + k) / 3 : Nat) : Int) + (((z * 3 + k) % 3 : Nat) : Int), onG (zS W).1.1 (zE W).2.1 (zE W).2.2.1 (z * 3 + k)) else onS (zS W).1.1 (zE W).2.1 (zE W).2.2.1 (z * 3 + k) := rfl
          rw [show (z * 3 + k) / 3 = z by omega, show (z * 3 + k) % 3 = k by omega] at st0
          exact st0
        rw [st] at ih2
        generalize onS (zS W).1.1 (zE W).2.1 (zE W).2.2.1 (z * 3 + k) = q at *
        apply s_X11_one_56
        simp (disch := omega) only [B_X11_one_56, r12, sh110, lt110, sh115, lt115, en_ops, en_opc, iI_add, iI_mul, iI_sub, jL_add, jL_mul, iI_le, iI_lt, iI_eq, iI_eq0, iI_lt0, iI_0le, iI_le0, iI_0lt, jL_iI, iI_jL, lc_eq, lc_lt, lc_le, lc_ge, lc_gt, Nat.sub_zero, Nat.zero_le, true_and, and_true, Nat.reduceAdd, Nat.reduceLeDiff]
        refine ⟨fun e => by omega, fun _ => ⟨631, rfl, by omega, 632, rfl, by omega, ?_⟩⟩
        generalize hg : en_up (en_up h9 115 631 (iI (z : Int))) 115 632 (iI (k : Int)) = h8
        have F8 : Fr (fun x => x = 115 ∨ x = 117) h1 h8 := by rw [← hg]; exact Fr.up (Fr.up F9 (Or.inl rfl)) (Or.inl rfl)
        have A8 : ∀ j, j < 834 → h8 117 j = h1 115 j := fun j hj => by rw [← hg, up_row (by omega), up_row (by omega)]; exact A9 j hj
        have B8 : ∀ j, j < 576 → h8 115 j = h1 115 j := fun j hj => by rw [← hg, up_ne (Or.inr (by omega)), up_ne (Or.inr (by omega))]; exact B9 j hj
        have N8 : h8 115 630 = iI 1 := by rw [← hg, up_ne (Or.inr (by omega)), up_ne (Or.inr (by omega))]; exact N9
        refine m_farNear (d := d) (b := b) (nh := 1) (hd := fun _ => (z, k)) I1.1 (fun c z k hc hz hk => (B8 _ (by omega)).trans (I1.xr.1.1 c z k hc hz hk)) (fun j hj => by rw [F8 113 (by omega)]; exact b1 j hj) b2 hf ⟨N8, by omega, fun i hi9 => ?_⟩ ?_
        · obtain rfl : i = 0 := by omega
          exact ⟨by rw [← hg, up_ne (Or.inr (by omega)), up_at], by rw [← hg, up_at], by show z < 6; omega, hk⟩
        · rw [eg]
          simp (disch := omega) only [en_ops, en_opc, iI_add, iI_mul, iI_sub, jL_add, jL_mul, iI_le, iI_lt, iI_eq, iI_eq0, iI_lt0, iI_0le, iI_le0, iI_0lt, jL_iI, iI_jL, lc_eq, lc_lt, lc_le, lc_ge, lc_gt, Nat.sub_zero, Nat.zero_le, true_and, and_true, Nat.reduceAdd, Nat.reduceLeDiff]
          refine ⟨fun e2 => ?_, fun e2 => ?_⟩
          · rw [if_neg (fun g => g.1 e2)] at ih2
            exact ih2 h8 _ l F8 A8 B8 N8 l9 lq
          · refine ⟨fun e3 => ?_, fun e3 => ⟨fun e4 => ?_, fun e4 => ?_⟩⟩
            · rw [if_pos ⟨e2, Or.inl e3⟩] at ih2
              exact ih2 h8 _ _ F8 A8 B8 N8 gr (fun _ => rfl)
            · rw [if_pos ⟨e2, Or.inr (by rw [← lq e3]; exact e4)⟩] at ih2
              exact ih2 h8 _ _ F8 A8 B8 N8 gr (fun _ => rfl)
            · have := lq e3
              rw [if_neg (fun g => by rcases g.2 with g | g <;> omega)] at ih2
              exact ih2 h8 _ l F8 A8 B8 N8 l9 lq
  · rw [if_neg e]
    rw [if_neg e] at H
    simp (disch := omega) only [sh110, lt110, en_ops, en_opc, iI_add, iI_mul, iI_sub, jL_add, jL_mul, iI_le, iI_lt, iI_eq, iI_eq0, iI_lt0, iI_0le, iI_le0, iI_0lt, jL_iI, iI_jL, lc_eq, lc_lt, lc_le, lc_ge, lc_gt, Nat.sub_zero, Nat.zero_le, true_and, and_true, Nat.reduceAdd, Nat.reduceLeDiff]
    refine m_may (d := d + 5) (code := 1) (k := 2) I1 T1 (Or.inl rfl) (by omega) (by omega) (fun e => absurd e (by decide)) (fun _ hi' I' F' T' => ?_)
    simp (disch := omega) only [en_ops, en_opc, iI_add, iI_mul, iI_sub, jL_add, jL_mul, iI_le, iI_lt, iI_eq, iI_eq0, iI_lt0, iI_0le, iI_le0, iI_0lt, jL_iI, iI_jL, lc_eq, lc_lt, lc_le, lc_ge, lc_gt, Nat.sub_zero, Nat.zero_le, true_and, and_true, Nat.reduceAdd, Nat.reduceLeDiff]
    exact ⟨fun e => (e (by first | trivial | rfl)).elim, fun _ => H.no F1 (by omega) rfl I' F' T'⟩
end
