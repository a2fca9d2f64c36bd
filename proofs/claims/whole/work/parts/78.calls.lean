section
variable {G : en_G} {d : Nat} {K : en_K} {W : zW} {n : Nat} {hi : en_I} {hl : en_L} {hr : en_F} {xc xs : Nat}
theorem InvC.r48 (h : InvC G W hi hr) : hr 0 18 = .ref 48 ∧ hr 48 0 = .ref 49 := by
  obtain ⟨pl, h1, h2⟩ := h
  exact ⟨h1.1.2.2.2.2.2.2.2.2.2.2.2.2.2, h1.2.2.2.2.2.2.2.2.2.2⟩
/-- the words of the hand -/
abbrev hdW (W : zW) : Nat → Int := wdP (zS W).1.1 (zE W).2.2.1 (zS W).2.1 (hdG (zS W).2.2.1)
theorem zOK.hg (hz : zOK n W) : gB (zE W).2.1 (hdW W) := wdP_B hz.f hz.c.1 hz.c.2 hz.x.2.2.2.2.1.1 (fun i hi9 => by have := hz.x.2.2.2.2.1.2 i hi9; unfold hdG; omega)
theorem FcL {hl' : en_L} (h : FrL P48 hl hl') : Fc hl hl' := fun x hx => h x (fun g => by unfold P48 at g; omega)
theorem c_odds {c : Int} (hI : InvC G W hi hr) (hz : zOK n W) (h1 : 1 ≤ xc) (h6 : 6 ≤ xs) (hc : iRg c) (H : cEnd G W W (if inC W c then 0 else 1) (.int (iI (odP (zE W).2.1 (hdW W) c.toNat))) K hi hl hr) : en_Call G (d + 6) xc xs Y_X10_odds wN wN [.ref 0, .int (iI c)] hi hl hr K := by
  obtain ⟨r9, hS, hX⟩ := hI.o
  obtain ⟨r18, r48⟩ := hI.r48
  have nc12 := hz.c.1
  apply en_X10_odds
  simp (disch := omega) only [B_X10_odds_0, sh0, lt0, en_ops, en_opc, iI_add, iI_mul, iI_sub, jL_add, jL_mul, iI_le, iI_lt, iI_eq, iI_eq0, iI_lt0, iI_0le, iI_le0, iI_0lt, jL_iI, iI_jL, lc_eq, lc_lt, lc_le, lc_ge, lc_gt, Nat.sub_zero, Nat.zero_le, true_and, and_true, Nat.reduceAdd, Nat.reduceLeDiff]
  refine c_isCell hI hz hc ?_
  by_cases e : inC W c
  · rw [if_pos e]
    rw [if_pos e] at H
    simp (disch := omega) only [sh0, lt0, en_ops, en_opc, iI_add, iI_mul, iI_sub, jL_add, jL_mul, iI_le, iI_lt, iI_eq, iI_eq0, iI_lt0, iI_0le, iI_le0, iI_0lt, jL_iI, iI_jL, lc_eq, lc_lt, lc_le, lc_ge, lc_gt, Nat.sub_zero, Nat.zero_le, true_and, and_true, Nat.reduceAdd, Nat.reduceLeDiff]
    refine ⟨h1, h6, c_needPlace hI hz (Nat.le_refl _) (Nat.le_refl _) (Or.inr rfl) (fun _ => ?_) (fun e => absurd e (by decide))⟩
    simp (disch := omega) only [r9, r18, sh0, lt0, sh48, lt48, en_ops, en_opc, iI_add, iI_mul, iI_sub, jL_add, jL_mul, iI_le, iI_lt, iI_eq, iI_eq0, iI_lt0, iI_0le, iI_le0, iI_0lt, jL_iI, iI_jL, lc_eq, lc_lt, lc_le, lc_ge, lc_gt, Nat.sub_zero, Nat.zero_le, true_and, and_true, Nat.reduceAdd, Nat.reduceLeDiff]
    refine t_feelHand (d := d + 1) is16 (by omega) r48 hS hX.1.1 hz.f (hX.T hz.x) (fun h8 l8 F8 L8 S8 => ?_)
    simp (disch := omega) only [r9, r18, sh0, lt0, sh48, lt48, en_ops, en_opc, iI_add, iI_mul, iI_sub, jL_add, jL_mul, iI_le, iI_lt, iI_eq, iI_eq0, iI_lt0, iI_0le, iI_le0, iI_0lt, jL_iI, iI_jL, lc_eq, lc_lt, lc_le, lc_ge, lc_gt, Nat.sub_zero, Nat.zero_le, true_and, and_true, Nat.reduceAdd, Nat.reduceLeDiff]
    rw [show c = ((c.toNat : Nat) : Int) by omega]
    refine t_oddsOf (d := d + 4) r48 S8 hz.hg (by omega) ?_
    simp (disch := omega) only [en_ops, en_opc, iI_add, iI_mul, iI_sub, jL_add, jL_mul, iI_le, iI_lt, iI_eq, iI_eq0, iI_lt0, iI_0le, iI_le0, iI_0lt, jL_iI, iI_jL, lc_eq, lc_lt, lc_le, lc_ge, lc_gt, Nat.sub_zero, Nat.zero_le, true_and, and_true, Nat.reduceAdd, Nat.reduceLeDiff]
    exact H.1 rfl h8 l8 hr (hI.s hz F8 (fun x g => by omega)) (Fc.of F8 (fun x g => by omega)) (FcL L8) Fc.rf
  · rw [if_neg e]
    rw [if_neg e] at H
    simp (disch := omega) only [sh0, lt0, en_ops, en_opc, iI_add, iI_mul, iI_sub, jL_add, jL_mul, iI_le, iI_lt, iI_eq, iI_eq0, iI_lt0, iI_0le, iI_le0, iI_0lt, jL_iI, iI_jL, lc_eq, lc_lt, lc_le, lc_ge, lc_gt, Nat.sub_zero, Nat.zero_le, true_and, and_true, Nat.reduceAdd, Nat.reduceLeDiff]
    exact ⟨h1, h6, c_needPlace hI hz (Nat.le_refl _) (Nat.le_refl _) (Or.inl rfl) (fun e => absurd e (by decide)) (fun _ hi' I' F' => H.2 0 (by omega) rfl hi' hl hr I' F' Fc.rf Fc.rf)⟩
/-- where -/
def whA (W : zW) (w : Int) : Int := if w = 0 then (if sumTo (zE W).2.1 (hdW W) = 0 then -1 else guF (hdW W) (zE W).2.1) else if w = 1 then (if sumTo (zE W).2.1 (hdW W) = 0 then -1 else neF (faP (zE W).2.1 (hdW W)) (zE W).2.1) else hfP (zE W).2.1 (hdW W)
theorem c_where {w : Int} (hI : InvC G W hi hr) (hz : zOK n W) (h1 : 1 ≤ xc) (h6 : 6 ≤ xs) (hw : iRg w) (H : cEnd G W W (if 0 ≤ w ∧ w ≤ 2 then 0 else 3) (.int (iI (whA W w))) K hi hl hr) : en_Call G (d + 6) xc xs Y_X10_where wN wN [.ref 0, .int (iI w)] hi hl hr K := by
  obtain ⟨r9, hS, hX⟩ := hI.o
  obtain ⟨r18, r48⟩ := hI.r48
  have nc12 := hz.c.1
  apply en_X10_where
  simp (disch := omega) only [B_X10_where_0, sh0, lt0, en_ops, en_opc, iI_add, iI_mul, iI_sub, jL_add, jL_mul, iI_le, iI_lt, iI_eq, iI_eq0, iI_lt0, iI_0le, iI_le0, iI_0lt, jL_iI, iI_jL, lc_eq, lc_lt, lc_le, lc_ge, lc_gt, Nat.sub_zero, Nat.zero_le, true_and, and_true, Nat.reduceAdd, Nat.reduceLeDiff]
  refine c_isWithin hw (iRg_i (by decide) (by decide)) (iRg_i (by decide) (by decide)) ?_
  by_cases e : 0 ≤ w ∧ w ≤ 2
  · rw [if_pos e]
    rw [if_pos e] at H
    simp (disch := omega) only [sh0, lt0, en_ops, en_opc, iI_add, iI_mul, iI_sub, jL_add, jL_mul, iI_le, iI_lt, iI_eq, iI_eq0, iI_lt0, iI_0le, iI_le0, iI_0lt, jL_iI, iI_jL, lc_eq, lc_lt, lc_le, lc_ge, lc_gt, Nat.sub_zero, Nat.zero_le, true_and, and_true, Nat.reduceAdd, Nat.reduceLeDiff]
    refine ⟨h1, h6, c_needRight hI hz (Nat.le_refl _) (Nat.le_refl _) (Or.inr rfl) (fun _ => ?_) (fun e => absurd e (by decide))⟩
    simp (disch := omega) only [r9, r18, sh0, lt0, sh48, lt48, en_ops, en_opc, iI_add, iI_mul, iI_sub, jL_add, jL_mul, iI_le, iI_lt, iI_eq, iI_eq0, iI_lt0, iI_0le, iI_le0, iI_0lt, jL_iI, iI_jL, lc_eq, lc_lt, lc_le, lc_ge, lc_gt, Nat.sub_zero, Nat.zero_le, true_and, and_true, Nat.reduceAdd, Nat.reduceLeDiff]
    refine t_feelHand (d := d + 1) is16 (by omega) r48 hS hX.1.1 hz.f (hX.T hz.x) (fun h8 l8 F8 L8 S8 => ?_)
    have Hx := H.1 rfl h8 l8 hr (hI.s hz F8 (fun x g => by omega)) (Fc.of F8 (fun x g => by omega)) (FcL L8) Fc.rf
    unfold whA at Hx
    simp (disch := omega) only [r9, r18, sh0, lt0, sh48, lt48, en_ops, en_opc, iI_add, iI_mul, iI_sub, jL_add, jL_mul, iI_le, iI_lt, iI_eq, iI_eq0, iI_lt0, iI_0le, iI_le0, iI_0lt, jL_iI, iI_jL, lc_eq, lc_lt, lc_le, lc_ge, lc_gt, Nat.sub_zero, Nat.zero_le, true_and, and_true, Nat.reduceAdd, Nat.reduceLeDiff]
    refine ⟨fun e2 => ⟨fun e3 => t_howFar (d := d + 1) r48 S8 hz.hg ?_, fun e3 => t_near (d := d + 2) r48 S8 hz.hg ?_⟩, fun e2 => t_guess (d := d + 4) r48 S8 hz.hg ?_⟩
    · simp (disch := omega) only [en_ops, en_opc, iI_add, iI_mul, iI_sub, jL_add, jL_mul, iI_le, iI_lt, iI_eq, iI_eq0, iI_lt0, iI_0le, iI_le0, iI_0lt, jL_iI, iI_jL, lc_eq, lc_lt, lc_le, lc_ge, lc_gt, Nat.sub_zero, Nat.zero_le, true_and, and_true, Nat.reduceAdd, Nat.reduceLeDiff]
      rw [if_neg e2, if_neg (by omega)] at Hx
      exact Hx
    · simp (disch := omega) only [en_ops, en_opc, iI_add, iI_mul, iI_sub, jL_add, jL_mul, iI_le, iI_lt, iI_eq, iI_eq0, iI_lt0, iI_0le, iI_le0, iI_0lt, jL_iI, iI_jL, lc_eq, lc_lt, lc_le, lc_ge, lc_gt, Nat.sub_zero, Nat.zero_le, true_and, and_true, Nat.reduceAdd, Nat.reduceLeDiff]
      rw [if_neg e2, if_pos (by omega)] at Hx
      exact Hx
    · simp (disch := omega) only [en_ops, en_opc, iI_add, iI_mul, iI_sub, jL_add, jL_mul, iI_le, iI_lt, iI_eq, iI_eq0, iI_lt0, iI_0le, iI_le0, iI_0lt, jL_iI, iI_jL, lc_eq, lc_lt, lc_le, lc_ge, lc_gt, Nat.sub_zero, Nat.zero_le, true_and, and_true, Nat.reduceAdd, Nat.reduceLeDiff]
      rw [if_pos (by omega)] at Hx
      exact Hx
  · rw [if_neg e]
    rw [if_neg e] at H
    simp (disch := omega) only [sh0, lt0, en_ops, en_opc, iI_add, iI_mul, iI_sub, jL_add, jL_mul, iI_le, iI_lt, iI_eq, iI_eq0, iI_lt0, iI_0le, iI_le0, iI_0lt, jL_iI, iI_jL, lc_eq, lc_lt, lc_le, lc_ge, lc_gt, Nat.sub_zero, Nat.zero_le, true_and, and_true, Nat.reduceAdd, Nat.reduceLeDiff]
    exact ⟨h1, h6, c_needRight hI hz (Nat.le_refl _) (Nat.le_refl _) (Or.inl rfl) (fun e => absurd e (by decide)) (fun _ hi' I' F' => H.2 2 (by omega) rfl hi' hl hr I' F' Fc.rf Fc.rf)⟩
/-- by one: the stones in the order z 3 + k; how far with each -/
def onG (f : Nat → Nat → Nat → Int) (nc nz i : Nat) : Int := hfP nc (fun c => shP f nz c i)
def onS (f : Nat → Nat → Nat → Int) (nc nz : Nat) : Nat → Int × Int
  | 0 => (-1, -1)
  | i + 1 => if onG f nc nz i ≠ -1 ∧ ((onS f nc nz i).1 = -1 ∨ onG f nc nz i < (onS f nc nz i).2) then (10 * ((i / 3 : Nat) : Int) + ((i % 3 : Nat) : Int), onG f nc nz i) else onS f nc nz i
theorem hf_r {nc : Nat} {g : Nat → Int} (hg : gB nc g) : -1 ≤ hfP nc g ∧ hfP nc g ≤ 12000 := by
  unfold hfP
  have r1 := hg.s (n := nc) (Nat.le_refl _)
  split
  · omega
  next e =>
    have nc0 : nc ≠ 0 := fun e0 => by subst e0; exact e rfl
    obtain ⟨b0, b1, b2⟩ := neF_r (g := faP nc g) nc
    have b3 := b2 nc0
    have gb : 0 ≤ faP nc g (neF (faP nc g) nc).toNat ∧ faP nc g (neF (faP nc g) nc).toNat ≤ 12 * sumTo nc g := faP_r hg (by omega) (Nat.le_refl _)
    have q0 : 0 ≤ 1000 * faP nc g (neF (faP nc g) nc).toNat / sumTo nc g := Int.ediv_nonneg (by omega) (by omega)
    have q1 : 1000 * faP nc g (neF (faP nc g) nc).toNat / sumTo nc g ≤ 12000 := Int.ediv_le_of_le_mul (by omega) (by omega)
    omega
theorem on_r {f : Nat → Nat → Nat → Int} {nc nz : Nat} (hB : fB nc nz f) (b0 : nc ≤ 12) (b1 : nz ≤ 6) : ∀ i, i ≤ 18 → (-1 ≤ (onS f nc nz i).1 ∧ (onS f nc nz i).1 ≤ 52) ∧ -1 ≤ (onS f nc nz i).2 ∧ (onS f nc nz i).2 ≤ 12000 := by
  intro i
  induction i with
  | zero => exact fun _ => ⟨⟨Int.le_refl _, by show (-1 : Int) ≤ 52; omega⟩, Int.le_refl _, by show (-1 : Int) ≤ 12000; omega⟩
  | succ i ih =>
    intro hi9
    have g := hf_r (shP_B (i := i) hB b0 b1 (by omega))
    have st : onS f nc nz (i + 1) = if onG f nc nz i ≠ -1 ∧ ((onS f nc nz i).1 = -1 ∨ onG f nc nz i < (onS f nc nz i).2) then (10 * ((i / 3 : Nat) : Int) + ((i % 3 : Nat) : Int), onG f nc nz i) else onS f nc nz i := rfl
    rw [st]
    split
    · exact ⟨⟨by show -1 ≤ 10 * ((i / 3 : Nat) : Int) + ((i % 3 : Nat) : Int); omega, by show 10 * ((i / 3 : Nat) : Int) + ((i % 3 : Nat) : Int) ≤ 52; omega⟩, g⟩
    · exact ih (by omega)
theorem c_one {w : Int} (hI : InvC G W hi hr) (hz : zOK n W) (h1 : 1 ≤ xc) (h6 : 6 ≤ xs) (hw : iRg w) (H : cEnd G W W (if 0 ≤ w ∧ w ≤ 1 then 0 else 3) (.int (iI (if w = 0 then (onS (zS W).1.1 (zE W).2.1 (zE W).2.2.1 ((zE W).2.2.1 * 3)).1 else (onS (zS W).1.1 (zE W).2.1 (zE W).2.2.1 ((zE W).2.2.1 * 3)).2))) K hi hl hr) : en_Call G (d + 6) xc xs Y_X10_one wN wN [.ref 0, .int (iI w)] hi hl hr K := by
  obtain ⟨r9, hS, hX⟩ := hI.o
  obtain ⟨r18, r48⟩ := hI.r48
  obtain ⟨nc12, nz6⟩ := hz.c
  have e16 : hi 16 1 = iI ((zE W).2.2.1 : Int) := hX.1.1.2.1
  apply en_X10_one
  simp (disch := omega) only [B_X10_one_0, sh0, lt0, en_ops, en_opc, iI_add, iI_mul, iI_sub, jL_add, jL_mul, iI_le, iI_lt, iI_eq, iI_eq0, iI_lt0, iI_0le, iI_le0, iI_0lt, jL_iI, iI_jL, lc_eq, lc_lt, lc_le, lc_ge, lc_gt, Nat.sub_zero, Nat.zero_le, true_and, and_true, Nat.reduceAdd, Nat.reduceLeDiff]
  refine c_isWithin hw (iRg_i (by decide) (by decide)) (iRg_i (by decide) (by decide)) ?_
  by_cases e : 0 ≤ w ∧ w ≤ 1
  · rw [if_pos e]
    rw [if_pos e] at H
    simp (disch := omega) only [sh0, lt0, en_ops, en_opc, iI_add, iI_mul, iI_sub, jL_add, jL_mul, iI_le, iI_lt, iI_eq, iI_eq0, iI_lt0, iI_0le, iI_le0, iI_0lt, jL_iI, iI_jL, lc_eq, lc_lt, lc_le, lc_ge, lc_gt, Nat.sub_zero, Nat.zero_le, true_and, and_true, Nat.reduceAdd, Nat.reduceLeDiff]
    refine ⟨h1, h6, c_needRight hI hz (Nat.le_refl _) (Nat.le_refl _) (Or.inr rfl) (fun _ => ?_) (fun e => absurd e (by decide))⟩
    have Hx := H.1 rfl
    simp (disch := omega) only [en_ops, en_opc, iI_add, iI_mul, iI_sub, jL_add, jL_mul, iI_le, iI_lt, iI_eq, iI_eq0, iI_lt0, iI_0le, iI_le0, iI_0lt, jL_iI, iI_jL, lc_eq, lc_lt, lc_le, lc_ge, lc_gt, Nat.sub_zero, Nat.zero_le, true_and, and_true, Nat.reduceAdd, Nat.reduceLeDiff]
    suffices L : ∀ z : Nat, z ≤ (zE W).2.2.1 → ∀ h9 l9 x5 x6, Fr (· = 48) hi h9 → FrL P48 hl l9 → en_V G Y_X10_one (d + 6) wN wN K 17 [.ref 0, .int (iI w), .int (iI (onS (zS W).1.1 (zE W).2.1 (zE W).2.2.1 (z * 3)).1), .int (iI (onS (zS W).1.1 (zE W).2.1 (zE W).2.2.1 (z * 3)).2), .int (iI (z : Int)), x5, x6] [] h9 l9 hr (xc - 1) (xs - 6) from L 0 (by omega) hi hl _ _ Fr.rf (fun _ _ => rfl)
    refine lp (zE W).2.2.1 (fun h9 l9 x5 x6 F9 L9 => ?_) (fun z hz9 ih h9 l9 x5 x6 F9 L9 => ?_)
    · have e9 : h9 16 1 = iI ((zE W).2.2.1 : Int) := by rw [F9 16 (by decide)]; exact e16
      have Hy := Hx h9 l9 hr (hI.s hz F9 (fun x g => by omega)) (Fc.of F9 (fun x g => by omega)) (FcL L9) Fc.rf
      apply s_X10_one_17
      simp (disch := omega) only [B_X10_one_17, r9, sh0, lt0, sh16, lt16, e9, en_ops, en_opc, iI_add, iI_mul, iI_sub, jL_add, jL_mul, iI_le, iI_lt, iI_eq, iI_eq0, iI_lt0, iI_0le, iI_le0, iI_0lt, jL_iI, iI_jL, lc_eq, lc_lt, lc_le, lc_ge, lc_gt, Nat.sub_zero, Nat.zero_le, true_and, and_true, Nat.reduceAdd, Nat.reduceLeDiff]
      refine ⟨fun _ => ⟨fun e2 => ?_, fun e2 => ?_⟩, fun e => absurd (Int.le_refl _) e⟩
      · rw [if_neg e2] at Hy; exact Hy
      · rw [if_pos (by omega)] at Hy; exact Hy
    · have e9 : h9 16 1 = iI ((zE W).2.2.1 : Int) := by rw [F9 16 (by decide)]; exact e16
      apply s_X10_one_17
      simp (disch := omega) only [B_X10_one_17, r9, sh0, lt0, sh16, lt16, e9, en_ops, en_opc, iI_add, iI_mul, iI_sub, jL_add, jL_mul, iI_le, iI_lt, iI_eq, iI_eq0, iI_lt0, iI_0le, iI_le0, iI_0lt, jL_iI, iI_jL, lc_eq, lc_lt, lc_le, lc_ge, lc_gt, Nat.sub_zero, Nat.zero_le, true_and, and_true, Nat.reduceAdd, Nat.reduceLeDiff]
      refine ⟨fun e => by omega, fun _ => ?_⟩
      suffices L2 : ∀ k : Nat, k ≤ 3 → ∀ h9 l9 x6, Fr (· = 48) hi h9 → FrL P48 hl l9 → en_V G Y_X10_one (d + 6) wN wN K 32 [.ref 0, .int (iI w), .int (iI (onS (zS W).1.1 (zE W).2.1 (zE W).2.2.1 (z * 3 + k)).1), .int (iI (onS (zS W).1.1 (zE W).2.1 (zE W).2.2.1 (z * 3 + k)).2), .int (iI (z : Int)), .int (iI (k : Int)), x6] [] h9 l9 hr (xc - 1) (xs - 6) from L2 0 (by omega) h9 l9 x6 F9 L9
      refine lp 3 (fun h9 l9 x6 F9 L9 => ?_) (fun k hk ih2 h9 l9 x6 F9 L9 => ?_)
      · rw [show (z + 1) * 3 = z * 3 + 3 by omega] at ih
        apply s_X10_one_32
        simp (disch := omega) only [B_X10_one_32, en_ops, en_opc, iI_add, iI_mul, iI_sub, jL_add, jL_mul, iI_le, iI_lt, iI_eq, iI_eq0, iI_lt0, iI_0le, iI_le0, iI_0lt, jL_iI, iI_jL, lc_eq, lc_lt, lc_le, lc_ge, lc_gt, Nat.sub_zero, Nat.zero_le, true_and, and_true, Nat.reduceAdd, Nat.reduceLeDiff]
        exact ⟨fun _ => ih h9 l9 _ _ F9 L9, fun e => absurd (show (3 : Int) ≤ ((3 : Nat) : Int) by omega) e⟩
      · obtain ⟨⟨o1, o2⟩, o3, o4⟩ := on_r hz.f nc12 nz6 (z * 3 + k) (by omega)
        have gr := hf_r (shP_B (i := z * 3 + k) hz.f nc12 nz6 (by omega))
        have eg : hfP (zE W).2.1 (fun c => shP (zS W).1.1 (zE W).2.2.1 c (z * 3 + k)) = onG (zS W).1.1 (zE W).2.1 (zE W).2.2.1 (z * 3 + k) := rfl
        rw [eg] at gr
        have st : onS (zS W).1.1 (zE W).2.1 (zE W).2.2.1 (z * 3 + (k + 1)) = if onG (zS W).1.1 (zE W).2.1 (zE W).2.2.1 (z * 3 + k) ≠ -1 ∧ ((onS (zS W).1.1 (zE W).2.1 (zE W).2.2.1 (z * 3 + k)).1 = -1 ∨ onG (zS W).1.1 (zE W).2.1 (zE W).2.2.1 (z * 3 + k) < (onS (zS W).1.1 (zE W).2.1 (zE W).2.2.1 (z * 3 + k)).2) then (10 * (z : Int) + k, onG (zS W).1.1 (zE W).2.1 (zE W).2.2.1 (z * 3 + k)) else onS (zS W).1.1 (zE W).2.1 (zE W).2.2.1 (z * 3 + k) := by
          have st0 : onS (zS W).1.1 (zE W).2.1 (zE W).2.2.1 (z * 3 + k + 1) = if onG (zS W).1.1 (zE W).2.1 (zE W).2.2.1 (z * 3 + k) ≠ -1 ∧ ((onS (zS W).1.1 (zE W).2.1 (zE W).2.2.1 (z * 3 + k)).1 = -1 ∨ onG (zS W).1.1 (zE W).2.1 (zE W).2.2.1 (z * 3 + k) < (onS (zS W).1.1 (zE W).2.1 (zE W).2.2.1 (z * 3 + k)).2) then (10 * (((z * 3 + k) / 3 : Nat) : Int) + (((z * 3 + k) % 3 : Nat) : Int), onG (zS W).1.1 (zE W).2.1 (zE W).2.2.1 (z * 3 + k)) else onS (zS W).1.1 (zE W).2.1 (zE W).2.2.1 (z * 3 + k) := rfl
          rw [show (z * 3 + k) / 3 = z by omega, show (z * 3 + k) % 3 = k by omega] at st0
          exact st0
        rw [st] at ih2
        generalize onS (zS W).1.1 (zE W).2.1 (zE W).2.2.1 (z * 3 + k) = q at *
        apply s_X10_one_32
        simp (disch := omega) only [B_X10_one_32, r9, r18, sh0, lt0, sh48, lt48, en_ops, en_opc, iI_add, iI_mul, iI_sub, jL_add, jL_mul, iI_le, iI_lt, iI_eq, iI_eq0, iI_lt0, iI_0le, iI_le0, iI_0lt, jL_iI, iI_jL, lc_eq, lc_lt, lc_le, lc_ge, lc_gt, Nat.sub_zero, Nat.zero_le, true_and, and_true, Nat.reduceAdd, Nat.reduceLeDiff]
        refine ⟨fun e => by omega, fun _ => t_heapAt ?_⟩
        simp (disch := omega) only [r9, r18, sh0, lt0, sh48, lt48, en_ops, en_opc, iI_add, iI_mul, iI_sub, jL_add, jL_mul, iI_le, iI_lt, iI_eq, iI_eq0, iI_lt0, iI_0le, iI_le0, iI_0lt, jL_iI, iI_jL, lc_eq, lc_lt, lc_le, lc_ge, lc_gt, Nat.sub_zero, Nat.zero_le, true_and, and_true, Nat.reduceAdd, Nat.reduceLeDiff]
        rw [show ((0 : Int) * 6 + z) * 3 + k = ((z * 3 + k : Nat) : Int) by omega]
        refine t_feelStone (d := d + 1) is16 (by omega) r48 hS (shH.fr is16 hX.1.1 F9 (fun x g1 g2 => by omega)) hz.f (by omega) (fun h8 l8 F8 L8 S8 => ?_)
        simp (disch := omega) only [r9, r18, sh0, lt0, sh48, lt48, en_ops, en_opc, iI_add, iI_mul, iI_sub, jL_add, jL_mul, iI_le, iI_lt, iI_eq, iI_eq0, iI_lt0, iI_0le, iI_le0, iI_0lt, jL_iI, iI_jL, lc_eq, lc_lt, lc_le, lc_ge, lc_gt, Nat.sub_zero, Nat.zero_le, true_and, and_true, Nat.reduceAdd, Nat.reduceLeDiff]
        refine t_howFar (d := d + 1) r48 S8 (shP_B hz.f nc12 nz6 (by omega)) ?_
        rw [eg]
        have F98 := F9.tr F8
        have L98 : FrL P48 hl l8 := fun x hx => (L8 x hx).trans (L9 x hx)
        simp (disch := omega) only [en_ops, en_opc, iI_add, iI_mul, iI_sub, jL_add, jL_mul, iI_le, iI_lt, iI_eq, iI_eq0, iI_lt0, iI_0le, iI_le0, iI_0lt, jL_iI, iI_jL, lc_eq, lc_lt, lc_le, lc_ge, lc_gt, Nat.sub_zero, Nat.zero_le, true_and, and_true, Nat.reduceAdd, Nat.reduceLeDiff]
        refine ⟨fun e2 => ?_, fun e2 => ⟨fun e3 => ?_, fun e3 => ⟨fun e4 => ?_, fun e4 => ?_⟩⟩⟩
        · rw [if_neg (fun g => g.1 e2)] at ih2; exact ih2 h8 l8 _ F98 L98
        · rw [if_pos ⟨e2, Or.inl e3⟩] at ih2
          exact ih2 h8 l8 _ F98 L98
        · rw [if_neg (fun g => by rcases g.2 with g | g <;> omega)] at ih2; exact ih2 h8 l8 _ F98 L98
        · rw [if_pos ⟨e2, Or.inr (by omega)⟩] at ih2
          exact ih2 h8 l8 _ F98 L98
  · rw [if_neg e]
    rw [if_neg e] at H
    simp (disch := omega) only [sh0, lt0, en_ops, en_opc, iI_add, iI_mul, iI_sub, jL_add, jL_mul, iI_le, iI_lt, iI_eq, iI_eq0, iI_lt0, iI_0le, iI_le0, iI_0lt, jL_iI, iI_jL, lc_eq, lc_lt, lc_le, lc_ge, lc_gt, Nat.sub_zero, Nat.zero_le, true_and, and_true, Nat.reduceAdd, Nat.reduceLeDiff]
    exact ⟨h1, h6, c_needRight hI hz (Nat.le_refl _) (Nat.le_refl _) (Or.inl rfl) (fun e => absurd e (by decide)) (fun _ hi' I' F' => H.2 2 (by omega) rfl hi' hl hr I' F' Fc.rf Fc.rf)⟩
/-- stones of cells, sizes, stuffs -/
def stP2 (f : Nat → Nat → Nat → Int) (nc nz : Nat) (c z k : Int) : Int := sumTo nc (fun c' => if c = -1 ∨ c = c' then inP f nz c' z k else 0)
abbrev stB (W : zW) (z k : Int) : Prop := (z = -1 ∨ inZ W z) ∧ (k = -1 ∨ 0 ≤ k ∧ k < 3)
theorem c_stones {c z k : Int} (hI : InvC G W hi hr) (hz : zOK n W) (h1 : 2 ≤ xc) (h6 : 12 ≤ xs) (hc : iRg c) (hzr : iRg z) (hk : iRg k) (H : cEnd G W W (if c = -1 ∨ inC W c then if stB W z k then 0 else 3 else 1) (.int (iI (stP2 (zS W).1.1 (zE W).2.1 (zE W).2.2.1 c z k))) K hi hl hr) : en_Call G (d + 3) xc xs Y_X10_stones wN wN [.ref 0, .int (iI c), .int (iI z), .int (iI k)] hi hl hr K := by
  obtain ⟨r9, hS, hX⟩ := hI.o
  obtain ⟨nc12, nz6⟩ := hz.c
  obtain ⟨c1, c2⟩ := id hc
  obtain ⟨z1, z2⟩ := id hzr
  obtain ⟨k1, k2⟩ := id hk
  have e0 : hi 16 0 = iI ((zE W).2.1 : Int) := hX.1.1.1
  have at19n : ¬ (c = -1 ∨ inC W c) → en_V G Y_X10_stones (d + 3) wN wN K 19 [.ref 0, .int (iI c), .int (iI z), .int (iI k), jk, jk] [.int (iI 0), .ref 0] hi hl hr xc xs := fun e => by
    rw [if_neg e] at H
    apply s_X10_stones_19
    simp (disch := omega) only [B_X10_stones_19, sh0, lt0, en_ops, en_opc, iI_add, iI_mul, iI_sub, jL_add, jL_mul, iI_le, iI_lt, iI_eq, iI_eq0, iI_lt0, iI_0le, iI_le0, iI_0lt, jL_iI, iI_jL, lc_eq, lc_lt, lc_le, lc_ge, lc_gt, Nat.sub_zero, Nat.zero_le, true_and, and_true, Nat.reduceAdd, Nat.reduceLeDiff]
    exact ⟨by omega, by omega, c_needPlace hI hz (by omega) (by omega) (Or.inl rfl) (fun e => absurd e (by decide)) (fun _ hi' I' F' => H.2 0 (by omega) rfl hi' hl hr I' F' Fc.rf Fc.rf)⟩
  have at19y : (c = -1 ∨ inC W c) → en_V G Y_X10_stones (d + 3) wN wN K 19 [.ref 0, .int (iI c), .int (iI z), .int (iI k), jk, jk] [.int (iI 1), .ref 0] hi hl hr xc xs := fun e1 => by
    rw [if_pos e1] at H
    have no : ¬ stB W z k → ∀ q ls, en_Call G (d + 2) 1 6 Y_X10_needRight wN wN [.ref 0, .int (iI 0)] hi hl hr (en_kk q (x_out K) ls [] (xc - 1 - 1) (xs - 6 - 6)) := fun e q ls => by
      rw [if_neg e] at H
      exact c_needRight (d := d + 1) hI hz (Nat.le_refl _) (Nat.le_refl _) (Or.inl rfl) (fun e => absurd e (by decide)) (fun _ hi' I' F' => H.2 2 (by omega) rfl hi' hl hr I' F' Fc.rf Fc.rf)
    have yes : stB W z k → en_Call G (d + 2) 1 6 Y_X10_needRight wN wN [.ref 0, .int (iI 1)] hi hl hr (en_kk (o_iconst 0 (o_istore 4 (o_iconst 0 (o_istore 5 (kv G Y_X10_stones (d + 2 + 1) wN wN K 62))))) (x_out K) [.ref 0, .int (iI c), .int (iI z), .int (iI k), jk, jk] [] (xc - 1 - 1) (xs - 6 - 6)) := fun e => by
      rw [if_pos e] at H
      refine c_needRight (d := d + 1) hI hz (Nat.le_refl _) (Nat.le_refl _) (Or.inr rfl) (fun _ => ?_) (fun e => absurd e (by decide))
      simp (disch := omega) only [en_ops, en_opc, iI_add, iI_mul, iI_sub, jL_add, jL_mul, iI_le, iI_lt, iI_eq, iI_eq0, iI_lt0, iI_0le, iI_le0, iI_0lt, jL_iI, iI_jL, lc_eq, lc_lt, lc_le, lc_ge, lc_gt, Nat.sub_zero, Nat.zero_le, true_and, and_true, Nat.reduceAdd, Nat.reduceLeDiff]
      have Hx := H.1 rfl hi hl hr hI Fc.rf Fc.rf Fc.rf
      unfold stP2 at Hx
      suffices L : ∀ i : Nat, i ≤ (zE W).2.1 → en_V G Y_X10_stones (d + 3) wN wN K 62 [.ref 0, .int (iI c), .int (iI z), .int (iI k), .int (iI (sumTo i (fun c' => if c = -1 ∨ c = c' then inP (zS W).1.1 (zE W).2.2.1 c' z k else 0))), .int (iI (i : Int))] [] hi hl hr (xc - 1 - 1) (xs - 6 - 6) from L 0 (by omega)
      refine lp (zE W).2.1 ?_ (fun i hi9 ih => ?_)
      · apply s_X10_stones_62
        simp (disch := omega) only [B_X10_stones_62, r9, sh0, lt0, sh16, lt16, e0, en_ops, en_opc, iI_add, iI_mul, iI_sub, jL_add, jL_mul, iI_le, iI_lt, iI_eq, iI_eq0, iI_lt0, iI_0le, iI_le0, iI_0lt, jL_iI, iI_jL, lc_eq, lc_lt, lc_le, lc_ge, lc_gt, Nat.sub_zero, Nat.zero_le, true_and, and_true, Nat.reduceAdd, Nat.reduceLeDiff]
        exact ⟨fun _ => Hx, fun e => absurd (Int.le_refl _) e⟩
      · rw [sumTo_s] at ih
        apply s_X10_stones_62
        simp (disch := omega) only [B_X10_stones_62, r9, sh0, lt0, sh16, lt16, e0, en_ops, en_opc, iI_add, iI_mul, iI_sub, jL_add, jL_mul, iI_le, iI_lt, iI_eq, iI_eq0, iI_lt0, iI_0le, iI_le0, iI_0lt, jL_iI, iI_jL, lc_eq, lc_lt, lc_le, lc_ge, lc_gt, Nat.sub_zero, Nat.zero_le, true_and, and_true, Nat.reduceAdd, Nat.reduceLeDiff]
        refine ⟨fun e => by omega, fun _ => ⟨fun e2 => ?_, fun e2 => ⟨fun e3 => ?_, fun e3 => ?_⟩⟩⟩
        · refine t_inCell (d := d) is16 hS hX.1.1 (by omega) (by omega) (by omega) ?_
          rw [if_pos (Or.inl e2)] at ih
          simp (disch := omega) only [en_ops, en_opc, iI_add, iI_mul, iI_sub, jL_add, jL_mul, iI_le, iI_lt, iI_eq, iI_eq0, iI_lt0, iI_0le, iI_le0, iI_0lt, jL_iI, iI_jL, lc_eq, lc_lt, lc_le, lc_ge, lc_gt, Nat.sub_zero, Nat.zero_le, true_and, and_true, Nat.reduceAdd, Nat.reduceLeDiff]
          exact ih
        · rw [if_neg (by omega), Int.add_zero] at ih
          exact ih
        · refine t_inCell (d := d) is16 hS hX.1.1 (by omega) (by omega) (by omega) ?_
          rw [if_pos (Or.inr (by omega))] at ih
          simp (disch := omega) only [en_ops, en_opc, iI_add, iI_mul, iI_sub, jL_add, jL_mul, iI_le, iI_lt, iI_eq, iI_eq0, iI_lt0, iI_0le, iI_le0, iI_0lt, jL_iI, iI_jL, lc_eq, lc_lt, lc_le, lc_ge, lc_gt, Nat.sub_zero, Nat.zero_le, true_and, and_true, Nat.reduceAdd, Nat.reduceLeDiff]
          exact ih
    have at36 : (z = -1 ∨ inZ W z) → en_V G Y_X10_stones (d + 3) wN wN K 36 [.ref 0, .int (iI c), .int (iI z), .int (iI k), jk, jk] [.ref 0] hi hl hr (xc - 1) (xs - 6) := fun t1 => by
      apply s_X10_stones_36
      simp (disch := omega) only [B_X10_stones_36, sh0, lt0, en_ops, en_opc, iI_add, iI_mul, iI_sub, jL_add, jL_mul, iI_le, iI_lt, iI_eq, iI_eq0, iI_lt0, iI_0le, iI_le0, iI_0lt, jL_iI, iI_jL, lc_eq, lc_lt, lc_le, lc_ge, lc_gt, Nat.sub_zero, Nat.zero_le, true_and, and_true, Nat.reduceAdd, Nat.reduceLeDiff]
      refine ⟨fun e2 => ⟨by omega, by omega, yes ⟨t1, Or.inl e2⟩⟩, fun e2 => c_isStuff hk ?_⟩
      by_cases t2 : 0 ≤ k ∧ k < 3
      · rw [if_pos t2]
        simp (disch := omega) only [sh0, lt0, en_ops, en_opc, iI_add, iI_mul, iI_sub, jL_add, jL_mul, iI_le, iI_lt, iI_eq, iI_eq0, iI_lt0, iI_0le, iI_le0, iI_0lt, jL_iI, iI_jL, lc_eq, lc_lt, lc_le, lc_ge, lc_gt, Nat.sub_zero, Nat.zero_le, true_and, and_true, Nat.reduceAdd, Nat.reduceLeDiff]
        exact ⟨fun e => absurd e (by decide), fun _ => ⟨by omega, by omega, yes ⟨t1, Or.inr t2⟩⟩⟩
      · rw [if_neg t2]
        simp (disch := omega) only [sh0, lt0, en_ops, en_opc, iI_add, iI_mul, iI_sub, jL_add, jL_mul, iI_le, iI_lt, iI_eq, iI_eq0, iI_lt0, iI_0le, iI_le0, iI_0lt, jL_iI, iI_jL, lc_eq, lc_lt, lc_le, lc_ge, lc_gt, Nat.sub_zero, Nat.zero_le, true_and, and_true, Nat.reduceAdd, Nat.reduceLeDiff]
        exact ⟨fun _ => ⟨by omega, by omega, no (fun g => by rcases g.2 with g | g; exact e2 g; exact t2 g) _ _⟩, fun e => (e (by first | trivial | rfl)).elim⟩
    apply s_X10_stones_19
    simp (disch := omega) only [B_X10_stones_19, sh0, lt0, en_ops, en_opc, iI_add, iI_mul, iI_sub, jL_add, jL_mul, iI_le, iI_lt, iI_eq, iI_eq0, iI_lt0, iI_0le, iI_le0, iI_0lt, jL_iI, iI_jL, lc_eq, lc_lt, lc_le, lc_ge, lc_gt, Nat.sub_zero, Nat.zero_le, true_and, and_true, Nat.reduceAdd, Nat.reduceLeDiff]
    refine ⟨by omega, by omega, c_needPlace hI hz (by omega) (by omega) (Or.inr rfl) (fun _ => ?_) (fun e => absurd e (by decide))⟩
    simp (disch := omega) only [sh0, lt0, en_ops, en_opc, iI_add, iI_mul, iI_sub, jL_add, jL_mul, iI_le, iI_lt, iI_eq, iI_eq0, iI_lt0, iI_0le, iI_le0, iI_0lt, jL_iI, iI_jL, lc_eq, lc_lt, lc_le, lc_ge, lc_gt, Nat.sub_zero, Nat.zero_le, true_and, and_true, Nat.reduceAdd, Nat.reduceLeDiff]
    refine ⟨fun e2 => at36 (Or.inl e2), fun e2 => c_isSize hI hz hzr ?_⟩
    by_cases t1 : inZ W z
    · rw [if_pos t1]
      simp (disch := omega) only [sh0, lt0, en_ops, en_opc, iI_add, iI_mul, iI_sub, jL_add, jL_mul, iI_le, iI_lt, iI_eq, iI_eq0, iI_lt0, iI_0le, iI_le0, iI_0lt, jL_iI, iI_jL, lc_eq, lc_lt, lc_le, lc_ge, lc_gt, Nat.sub_zero, Nat.zero_le, true_and, and_true, Nat.reduceAdd, Nat.reduceLeDiff]
      exact ⟨fun e => absurd e (by decide), fun _ => at36 (Or.inr t1)⟩
    · rw [if_neg t1]
      simp (disch := omega) only [sh0, lt0, en_ops, en_opc, iI_add, iI_mul, iI_sub, jL_add, jL_mul, iI_le, iI_lt, iI_eq, iI_eq0, iI_lt0, iI_0le, iI_le0, iI_0lt, jL_iI, iI_jL, lc_eq, lc_lt, lc_le, lc_ge, lc_gt, Nat.sub_zero, Nat.zero_le, true_and, and_true, Nat.reduceAdd, Nat.reduceLeDiff]
      exact ⟨fun _ => ⟨by omega, by omega, no (fun g => by rcases g.1 with g | g; exact e2 g; exact t1 g) _ _⟩, fun e => (e (by first | trivial | rfl)).elim⟩
  apply en_X10_stones
  simp (disch := omega) only [B_X10_stones_0, sh0, lt0, en_ops, en_opc, iI_add, iI_mul, iI_sub, jL_add, jL_mul, iI_le, iI_lt, iI_eq, iI_eq0, iI_lt0, iI_0le, iI_le0, iI_0lt, jL_iI, iI_jL, lc_eq, lc_lt, lc_le, lc_ge, lc_gt, Nat.sub_zero, Nat.zero_le, true_and, and_true, Nat.reduceAdd, Nat.reduceLeDiff]
  refine ⟨fun e => at19y (Or.inl e), fun e => c_isCell hI hz hc ?_⟩
  by_cases t1 : inC W c
  · rw [if_pos t1]
    simp (disch := omega) only [sh0, lt0, en_ops, en_opc, iI_add, iI_mul, iI_sub, jL_add, jL_mul, iI_le, iI_lt, iI_eq, iI_eq0, iI_lt0, iI_0le, iI_le0, iI_0lt, jL_iI, iI_jL, lc_eq, lc_lt, lc_le, lc_ge, lc_gt, Nat.sub_zero, Nat.zero_le, true_and, and_true, Nat.reduceAdd, Nat.reduceLeDiff]
    exact ⟨fun e => absurd e (by decide), fun _ => at19y (Or.inr t1)⟩
  · rw [if_neg t1]
    simp (disch := omega) only [sh0, lt0, en_ops, en_opc, iI_add, iI_mul, iI_sub, jL_add, jL_mul, iI_le, iI_lt, iI_eq, iI_eq0, iI_lt0, iI_0le, iI_le0, iI_0lt, jL_iI, iI_jL, lc_eq, lc_lt, lc_le, lc_ge, lc_gt, Nat.sub_zero, Nat.zero_le, true_and, and_true, Nat.reduceAdd, Nat.reduceLeDiff]
    exact ⟨fun _ => at19n (fun g => by rcases g with g | g; exact e g; exact t1 g), fun e => (e (by first | trivial | rfl)).elim⟩
end
