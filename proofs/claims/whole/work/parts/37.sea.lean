section
variable {G : en_G} {d : Nat} {K : en_K} {a nc nz : Nat} {f g : Nat → Nat → Nat → Int} {hi : en_I} {hl : en_L} {hr : en_F} {xc xs : Nat}
variable {V : Nat → (Nat → Int) → Int} {he bt fr : Int} {cr ov wl sm : Nat → Int}
/-- the first stage of an hour: c cells have set out -/
def r1I (V : Nat → (Nat → Int) → Int) (f : Nat → Nat → Nat → Int) (a nc nz : Nat) (wl : Nat → Int) (he bt fr : Int) (cr sm : Nat → Int) (hi0 : en_I) (N : Nat) (hi : en_I) : Prop :=
  Fr (Pcc a) hi0 hi ∧ shH a nc nz (fN V f nz he bt fr cr N) hi ∧ arrH (arN V f nc nz wl he bt fr cr N) hi ∧ smH a (smN V f nz he bt fr cr sm N) hi ∧ wvH he bt fr hi
theorem isSh.n34 (ha : isSh a) : ∀ x, a ≤ x → x ≤ a + 7 → (x < 34 ∨ 37 < x) ∧ (x < 50 ∨ 66 ≤ x) := by
  intro x h1 h2
  rcases ha with rfl | rfl | rfl | rfl | rfl <;> omega
theorem Pcc.b (ha : isSh a) {x : Nat} (q : Pcc a x) : x < 50 ∨ 66 ≤ x := by
  have := ha.n34
  have := this (a + 1) (by omega) (by omega)
  have := ha.n34 (a + 7) (by omega) (by omega)
  rcases q with q | q | q | q | q | q <;> omega
theorem t_roll5 {L : Nat} (hS : seR hr) (hL : isLw L) (hLR : lwR L hr) (hV : lwV G L V hi) (hVr : ∀ w nm, -2147483648 ≤ V w nm ∧ V w nm < 2147483648) (ha : isSh a) (hR : shR a hr) (hB : fB nc nz f) (hfr : fr = 0 ∨ fr = 1)
    (hwl0 : ∀ c, c < 12 → 0 ≤ wl c ∧ wl c ≤ 16) (hnc : nc ≤ 12) (hnz : nz ≤ 6) (hwl : ∀ c, c < 12 → hi (a + 3) c = iI (wl c)) (hcr : ∀ c, c < 12 → hi (a + 2) c = iI (cr c))
    (H : ∀ h9, r1I V f a nc nz wl he bt fr cr sm hi (nc * 18) h9 → en_V G Y_X4_roll (d + 5) wN wN K 34 [.ref 34, .ref a, .ref L, .int (iI (sumTo (nc * 18) (mvN V f nz he bt fr cr))), .int (iI 0)] [] h9 hl hr xc xs) :
    ∀ c : Nat, c ≤ nc → ∀ h9, r1I V f a nc nz wl he bt fr cr sm hi (c * 18) h9 → en_V G Y_X4_roll (d + 5) wN wN K 5 [.ref 34, .ref a, .ref L, .int (iI (sumTo (c * 18) (mvN V f nz he bt fr cr))), .int (iI c)] [] h9 hl hr xc xs := by
  obtain ⟨s0, s1, -⟩ := ha.sh
  have n34 := ha.n34
  refine lp nc (fun h9 hI => ?_) (fun c hc ih h9 hI => ?_)
  · have n0 : h9 a 0 = iI nc := hI.2.1.1
    apply s_X4_roll_5
    simp (disch := omega) only [B_X4_roll_5, s0, s1, n0, en_ops, en_opc, iI_add, iI_mul, iI_sub, jL_add, jL_mul, iI_le, iI_lt, iI_eq, iI_eq0, iI_lt0, iI_0le, iI_le0, iI_0lt, jL_iI, iI_jL, lc_eq, lc_lt, lc_le, lc_ge, lc_gt, Nat.sub_zero, Nat.zero_le, true_and, and_true, Nat.reduceAdd, Nat.reduceLeDiff]
    exact ⟨fun _ => H h9 hI, fun e => absurd (Int.le_refl _) e⟩
  · have n0 : h9 a 0 = iI nc := hI.2.1.1
    obtain ⟨i1, i2, i3, i4, i5⟩ := hI
    have p2 : ¬ Pcc a (a + 2) := fun q => by have := n34 (a + 2) (by omega) (by omega); rcases q with q | q | q | q | q | q <;> omega
    have p3 : ¬ Pcc a (a + 3) := fun q => by have := n34 (a + 3) (by omega) (by omega); rcases q with q | q | q | q | q | q <;> omega
    apply s_X4_roll_5
    simp (disch := omega) only [B_X4_roll_5, s0, s1, n0, en_ops, en_opc, iI_add, iI_mul, iI_sub, jL_add, jL_mul, iI_le, iI_lt, iI_eq, iI_eq0, iI_lt0, iI_0le, iI_le0, iI_0lt, jL_iI, iI_jL, lc_eq, lc_lt, lc_le, lc_ge, lc_gt, Nat.sub_zero, Nat.zero_le, true_and, and_true, Nat.reduceAdd, Nat.reduceLeDiff]
    refine ⟨fun e => by omega, fun _ => ⟨⟨by decide, by decide⟩, ?_⟩⟩
    refine t_carryCell (V := V) (f := f) (nc := nc) (nz := nz) (wl := wl) (he := he) (bt := bt) (fr := fr) (cr := cr) (sm := sm) hS hL hLR (hV.mono hL i1 (fun x q => Pcc.b ha q)) hVr ha hR hB hfr hwl0 hc hnc hnz (fun c hc => by rw [i1 _ p3]; exact hwl c hc) (by rw [i1 _ p2]; exact hcr c (by omega)) i2 i3 i4 i5 (fun h8 hI8 => ?_)
    simp (disch := omega) only [en_ops, en_opc, iI_add, iI_mul, iI_sub, jL_add, jL_mul, iI_le, iI_lt, iI_eq, iI_eq0, iI_lt0, iI_0le, iI_le0, iI_0lt, jL_iI, iI_jL, lc_eq, lc_lt, lc_le, lc_ge, lc_gt, Nat.sub_zero, Nat.zero_le, true_and, and_true, Nat.reduceAdd, Nat.reduceLeDiff]
    obtain ⟨j1, j2, j3, j4, j5, j6, -⟩ := hI8
    have t9 := ih h8 ⟨i1.tr j1, j2, j3, j4, j6⟩
    rw [show sumTo (c * 18) (mvN V f nz he bt fr cr) + (sumTo ((c + 1) * 18) (mvN V f nz he bt fr cr) - sumTo (c * 18) (mvN V f nz he bt fr cr)) = sumTo ((c + 1) * 18) (mvN V f nz he bt fr cr) by omega]
    exact t9
/-- the second: what came in is laid down -/
def r2I (V : Nat → (Nat → Int) → Int) (f : Nat → Nat → Nat → Int) (a nc nz : Nat) (wl : Nat → Int) (he bt fr : Int) (cr sm : Nat → Int) (hi0 : en_I) (i : Nat) (hi : en_I) : Prop :=
  Fr (Pcc a) hi0 hi ∧ shH a nc nz (fun c z k => if (c * 6 + z) * 3 + k < i then f1P V f nc nz wl he bt fr cr (nc * 18) c z k else fN V f nz he bt fr cr (nc * 18) c z k) hi ∧ arrH (fun c z k => if (c * 6 + z) * 3 + k < i then 0 else arN V f nc nz wl he bt fr cr (nc * 18) c z k) hi ∧ smH a (smN V f nz he bt fr cr sm (nc * 18)) hi ∧ wvH he bt fr hi
theorem t_roll34 {L : Nat} {mv : Int} {hi0 : en_I} (hS : seR hr) (ha : isSh a) (hR : shR a hr) (hB : fB nc nz f) (hnc : nc ≤ 12)
    (H : ∀ h9, r2I V f a nc nz wl he bt fr cr sm hi0 (nc * 18) h9 → en_V G Y_X4_roll (d + 5) wN wN K 80 [.ref 34, .ref a, .ref L, .int (iI mv), .int (iI 0)] [] h9 hl hr xc xs) :
    ∀ i : Nat, i ≤ nc * 18 → ∀ h9, r2I V f a nc nz wl he bt fr cr sm hi0 i h9 → en_V G Y_X4_roll (d + 5) wN wN K 34 [.ref 34, .ref a, .ref L, .int (iI mv), .int (iI i)] [] h9 hl hr xc xs := by
  obtain ⟨s0, s1, s2, s3, s4, s5, s6, s7, s8, s9, s10, s11⟩ := ha.sh
  obtain ⟨r1, r2, r3, r4, r5, r6, r7⟩ := id hR
  obtain ⟨e0, e1, e2⟩ := hS
  have q1 : a + 1 < 134 := by omega
  have n34 := ha.n34
  have na := n34 a (by omega) (by omega)
  have n1 := n34 (a + 1) (by omega) (by omega)
  have n7 := n34 (a + 7) (by omega) (by omega)
  refine lp (nc * 18) (fun h9 hI => ?_) (fun i hi9 ih h9 hI => ?_)
  · have n0 : h9 a 0 = iI nc := hI.2.1.1
    apply s_X4_roll_34
    simp (disch := omega) only [B_X4_roll_34, s0, s1, n0, en_ops, en_opc, iI_add, iI_mul, iI_sub, jL_add, jL_mul, iI_le, iI_lt, iI_eq, iI_eq0, iI_lt0, iI_0le, iI_le0, iI_0lt, jL_iI, iI_jL, lc_eq, lc_lt, lc_le, lc_ge, lc_gt, Nat.sub_zero, Nat.zero_le, true_and, and_true, Nat.reduceAdd, Nat.reduceLeDiff]
    exact ⟨fun _ => H h9 hI, fun e => absurd (show (nc : Int) * 18 ≤ ((nc * 18 : Nat) : Int) by omega) e⟩
  · have n0 : h9 a 0 = iI nc := hI.2.1.1
    obtain ⟨i1, i2, i3, i4, i5⟩ := hI
    have hc : i / 18 < nc := by omega
    have hz : i / 3 % 6 < 6 := by omega
    have hk : i % 3 < 3 := by omega
    have ix : (i / 18 * 6 + i / 3 % 6) * 3 + i % 3 = i := by omega
    have v1 : h9 (a + 1) i = iI (fN V f nz he bt fr cr (nc * 18) (i / 18) (i / 3 % 6) (i % 3)) := by
      have t := i2.2.2.2.2 (i / 18) (i / 3 % 6) (i % 3) (by omega) hz hk
      rw [ix] at t
      rw [t]
      exact iI_eq_of (if_neg (by omega))
    have v2 : h9 37 i = iI (arN V f nc nz wl he bt fr cr (nc * 18) (i / 18) (i / 3 % 6) (i % 3)) := by
      have t := i3 (i / 18) (i / 3 % 6) (i % 3) (by omega) hz hk
      rw [ix] at t
      rw [t]
      exact iI_eq_of (if_neg (by omega))
    apply s_X4_roll_34
    simp (disch := omega) only [B_X4_roll_34, s0, s1, n0, r1, s2, q1, e2, en_ops, en_opc, iI_add, iI_mul, iI_sub, jL_add, jL_mul, iI_le, iI_lt, iI_eq, iI_eq0, iI_lt0, iI_0le, iI_le0, iI_0lt, jL_iI, iI_jL, lc_eq, lc_lt, lc_le, lc_ge, lc_gt, Nat.sub_zero, Nat.zero_le, true_and, and_true, Nat.reduceAdd, Nat.reduceLeDiff]
    refine ⟨fun e => by omega, fun _ => ⟨i, rfl, by omega, ⟨by decide, by decide⟩, i, rfl, by rw [show (en_SH 37).2 = 216 by decide]; omega, ⟨by decide, by decide⟩, i, rfl, by omega, ⟨by decide, by decide⟩, i, rfl, by rw [show (en_SH 37).2 = 216 by decide]; omega, ⟨by decide, by decide⟩, ?_⟩⟩
    rw [v1, v2, iI_add]
    refine ih _ ⟨Fr.up (Fr.up i1 (Or.inr (Or.inr (Or.inr (Or.inr (Or.inl rfl)))))) (Or.inr (Or.inr (Or.inr (Or.inl rfl)))), ?_, fun c z k hc' hz' hk' => ?_, fun j hj => ?_, ?_⟩
    · refine ⟨by rw [up_row (by omega), up_row (by omega)]; exact i2.1, by rw [up_row (by omega), up_row (by omega)]; exact i2.2.1, i2.2.2.1, i2.2.2.2.1, fun c z k hc' hz' hk' => ?_⟩
      rw [up_row (by omega)]
      show _ = iI (if (c * 6 + z) * 3 + k < i + 1 then f1P V f nc nz wl he bt fr cr (nc * 18) c z k else fN V f nz he bt fr cr (nc * 18) c z k)
      by_cases j : (c * 6 + z) * 3 + k = i
      · have j2 : c = i / 18 ∧ z = i / 3 % 6 ∧ k = i % 3 := by omega
        rw [j, up_at, if_pos (by omega)]
        unfold f1P
        obtain ⟨g1, g2, g3⟩ := j2
        subst g1 g2 g3
        rfl
      · rw [up_ne (Or.inr j), i2.2.2.2.2 c z k hc' hz' hk']
        refine iI_eq_of ?_
        show (if (c * 6 + z) * 3 + k < i then f1P V f nc nz wl he bt fr cr (nc * 18) c z k else fN V f nz he bt fr cr (nc * 18) c z k) = _
        by_cases j3 : (c * 6 + z) * 3 + k < i
        · rw [if_pos j3, if_pos (by omega)]
        · rw [if_neg j3, if_neg (by omega)]
    · show _ = iI (if (c * 6 + z) * 3 + k < i + 1 then 0 else arN V f nc nz wl he bt fr cr (nc * 18) c z k)
      by_cases j : (c * 6 + z) * 3 + k = i
      · rw [j, up_at, if_pos (by omega)]
      · rw [up_ne (Or.inr j), up_row (by omega), i3 c z k hc' hz' hk']
        refine iI_eq_of ?_
        show (if (c * 6 + z) * 3 + k < i then 0 else arN V f nc nz wl he bt fr cr (nc * 18) c z k) = _
        by_cases j3 : (c * 6 + z) * 3 + k < i
        · rw [if_pos j3, if_pos (by omega)]
        · rw [if_neg j3, if_neg (by omega)]
    · rw [up_row (by omega), up_row (by omega)]; exact i4 j hj
    · unfold wvH
      rw [up_row (by omega), up_row (by omega)]
      exact i5
end
