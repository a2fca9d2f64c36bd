section
variable {G : en_G} {d : Nat} {K : en_K} {a nc nz : Nat} {f g : Nat → Nat → Nat → Int} {hi : en_I} {hl : en_L} {hr : en_F} {xc xs : Nat}
variable {V : Nat → (Nat → Int) → Int} {he bt fr : Int} {cr ov wl sm : Nat → Int}
abbrev ovP (V : Nat → (Nat → Int) → Int) (he bt fr : Int) (cr : Nat → Int) (c : Nat) : Prop := cr c < V 2 (nmL 0 0 0 0 he bt fr (cr c) c)
def f2P (V : Nat → (Nat → Int) → Int) (he bt fr : Int) (cr : Nat → Int) (f : Nat → Nat → Nat → Int) (n c z k : Nat) : Int := if c < n ∧ ovP V he bt fr cr c then f c z k - f c z k / 16 else f c z k
def cr2 (V : Nat → (Nat → Int) → Int) (he bt fr : Int) (cr : Nat → Int) (n c : Nat) : Int := if c < n ∧ ovP V he bt fr cr c then loP (cr c) else cr c
def ov2 (V : Nat → (Nat → Int) → Int) (he bt fr : Int) (cr ov : Nat → Int) (n c : Nat) : Int := if c < n ∧ ovP V he bt fr cr c then ov c + 1 else ov c
def bhP (V : Nat → (Nat → Int) → Int) (he bt fr : Int) (cr : Nat → Int) (f : Nat → Nat → Nat → Int) (n : Nat) : Int := sumTo n (fun c => if ovP V he bt fr cr c then goS f c 18 else 0)
theorem f2_le (hB : fB nc nz f) (n c z k : Nat) : 0 ≤ f2P V he bt fr cr f n c z k ∧ f2P V he bt fr cr f n c z k ≤ f c z k := by
  have := hB.1 c z k
  unfold f2P
  split <;> omega
theorem f2_B (hB : fB nc nz f) (n : Nat) : fB nc nz (f2P V he bt fr cr f n) := fB_le hB (fun c z k => (f2_le hB n c z k).1) (fun c z k => (f2_le hB n c z k).2)
def Pov (a x : Nat) : Prop := x = 35 ∨ x = 36 ∨ x = a + 1 ∨ x = a + 2 ∨ x = a + 4 ∨ x = a + 7
/-- the third: n cells have been gone over, or not -/
def r3I (V : Nat → (Nat → Int) → Int) (f : Nat → Nat → Nat → Int) (a nc nz : Nat) (he bt fr : Int) (cr ov sm : Nat → Int) (hi0 : en_I) (n : Nat) (hi : en_I) : Prop :=
  Fr (Pov a) hi0 hi ∧ shH a nc nz (f2P V he bt fr cr f n) hi ∧ smH a (fun i => sm i + if i = 3 then bhP V he bt fr cr f n else 0) hi ∧ wvH he bt fr hi ∧ (∀ c, c < 12 → hi (a + 2) c = iI (cr2 V he bt fr cr n c)) ∧ ∀ c, c < 12 → hi (a + 4) c = iI (ov2 V he bt fr cr ov n c)
theorem Pov.b (ha : isSh a) {x : Nat} (q : Pov a x) : x < 50 ∨ 66 ≤ x := by
  have h1 := ha.n34 (a + 1) (by omega) (by omega)
  have h2 := ha.n34 (a + 2) (by omega) (by omega)
  have h4 := ha.n34 (a + 4) (by omega) (by omega)
  have h7 := ha.n34 (a + 7) (by omega) (by omega)
  rcases q with q | q | q | q | q | q <;> omega
theorem t_roll80 {L : Nat} {mv : Int} (hS : seR hr) (hL : isLw L) (hLR : lwR L hr) (hV : lwV G L V hi) (hVr : ∀ w nm, -2147483648 ≤ V w nm ∧ V w nm < 2147483648) (ha : isSh a) (hR : shR a hr) (hB : fB nc nz f) (hnc : nc ≤ 12) (hcr0 : ∀ c, c < 12 → 1 ≤ cr c ∧ cr c ≤ 1000)
    (H : ∀ h9, r3I V f a nc nz he bt fr cr ov sm hi nc h9 → B_X4_roll_80 G (d + 4) K [.ref 34, .ref a, .ref L, .int (iI mv), .int (iI nc)] [] h9 hl hr xc xs) :
    ∀ c : Nat, c ≤ nc → ∀ h9, r3I V f a nc nz he bt fr cr ov sm hi c h9 → en_V G Y_X4_roll (d + 5) wN wN K 80 [.ref 34, .ref a, .ref L, .int (iI mv), .int (iI c)] [] h9 hl hr xc xs := by
  obtain ⟨s0, s1, s2, s3, s4, s5, s6, s7, s8, s9, s10, s11⟩ := ha.sh
  obtain ⟨r1, r2, r3, r4, r5, r6, r7⟩ := id hR
  have q2 : a + 2 < 134 := by omega
  have n34 := ha.n34
  refine lp nc (fun h9 hI => ?_) (fun c hc ih h9 hI => ?_)
  · apply s_X4_roll_80
    exact H h9 hI
  · have n0 : h9 a 0 = iI nc := hI.2.1.1
    obtain ⟨i1, i2, i3, i4, i5, i6⟩ := hI
    have c5 : h9 (a + 2) c = iI (cr c) := by rw [i5 c (by omega)]; exact iI_eq_of (if_neg (by omega))
    have o6 : h9 (a + 4) c = iI (ov c) := by rw [i6 c (by omega)]; exact iI_eq_of (if_neg (by omega))
    have n0a := n34 a (by omega) (by omega)
    have n1a := n34 (a + 1) (by omega) (by omega)
    have n2a := n34 (a + 2) (by omega) (by omega)
    have n4a := n34 (a + 4) (by omega) (by omega)
    have n7a := n34 (a + 7) (by omega) (by omega)
    have cc := hcr0 c (by omega)
    obtain ⟨v0, v1⟩ := hVr 2 (nmL 0 0 0 0 he bt fr (cr c) c)
    apply s_X4_roll_80
    simp (disch := omega) only [B_X4_roll_80, s0, s1, n0, r2, s3, q2, en_ops, en_opc, iI_add, iI_mul, iI_sub, jL_add, jL_mul, iI_le, iI_lt, iI_eq, iI_eq0, iI_lt0, iI_0le, iI_le0, iI_0lt, jL_iI, iI_jL, lc_eq, lc_lt, lc_le, lc_ge, lc_gt, Nat.sub_zero, Nat.zero_le, true_and, and_true, Nat.reduceAdd, Nat.reduceLeDiff]
    refine ⟨fun e => by omega, fun _ => ⟨c, rfl, by omega, ?_⟩⟩
    rw [c5]
    refine ⟨⟨by decide, by decide⟩, t_reach (V := V) (he := he) (bt := bt) (fr := fr) hS hL hLR (hV.mono hL i1 (fun x q => Pov.b ha q)) i4 (fun h8 F8 W8 => ?_)⟩
    have p0 : ∀ x, x ≠ 35 → x ≠ 36 → h8 x = h9 x := fun x h1 h2 => F8 x (fun q => by rcases q with q | q <;> omega)
    have S8 : shH a nc nz (f2P V he bt fr cr f c) h8 := shH.fr ha i2 F8 (fun x g1 g2 q => by rcases q with q | q <;> omega)
    have M8 : smH a (fun i => sm i + if i = 3 then bhP V he bt fr cr f c else 0) h8 := fun i hi9 => by rw [p0 _ (by omega) (by omega)]; exact i3 i hi9
    have c8 : h8 (a + 2) c = iI (cr c) := by rw [p0 _ (by omega) (by omega)]; exact c5
    have o8 : h8 (a + 4) c = iI (ov c) := by rw [p0 _ (by omega) (by omega)]; exact o6
    simp (disch := omega) only [r2, s0, s1, s3, q2, en_ops, en_opc, iI_add, iI_mul, iI_sub, jL_add, jL_mul, iI_le, iI_lt, iI_eq, iI_eq0, iI_lt0, iI_0le, iI_le0, iI_0lt, jL_iI, iI_jL, lc_eq, lc_lt, lc_le, lc_ge, lc_gt, Nat.sub_zero, Nat.zero_le, true_and, and_true, Nat.reduceAdd, Nat.reduceLeDiff]
    refine ⟨c, rfl, by omega, ?_⟩
    rw [c8]
    simp (disch := omega) only [en_ops, en_opc, iI_add, iI_mul, iI_sub, jL_add, jL_mul, iI_le, iI_lt, iI_eq, iI_eq0, iI_lt0, iI_0le, iI_le0, iI_0lt, jL_iI, iI_jL, lc_eq, lc_lt, lc_le, lc_ge, lc_gt, Nat.sub_zero, Nat.zero_le, true_and, and_true, Nat.reduceAdd, Nat.reduceLeDiff]
    refine ⟨fun e => ?_, fun e => ?_⟩
    · have no : ¬ ovP V he bt fr cr c := by show ¬ (_ < _); omega
      have same : ∀ j, (j < c + 1 ∧ ovP V he bt fr cr j) ↔ (j < c ∧ ovP V he bt fr cr j) := fun j => ⟨fun ⟨g1, g2⟩ => ⟨by rcases Nat.lt_or_ge j c with g | g; exact g; exact absurd (by rw [show j = c by omega] at g2; exact g2) no, g2⟩, fun ⟨g1, g2⟩ => ⟨by omega, g2⟩⟩
      refine ih h8 ⟨i1.tr (F8.mono (fun x q => by rcases q with q | q <;> unfold Pov <;> omega)), S8.cg (fun c' z k _ _ _ => by unfold f2P; simp only [same]), fun i hi9 => ?_, W8, fun j hj => ?_, fun j hj => ?_⟩
      · rw [M8 i hi9]
        refine iI_eq_of ?_
        show sm i + (if i = 3 then bhP V he bt fr cr f c else 0) = sm i + (if i = 3 then bhP V he bt fr cr f (c + 1) else 0)
        unfold bhP
        rw [sumTo_s, if_neg no, Int.add_zero]
      · rw [p0 _ (by omega) (by omega), i5 j hj]
        unfold cr2; simp only [same]
      · rw [p0 _ (by omega) (by omega), i6 j hj]
        unfold ov2; simp only [same]
    · have yes : ovP V he bt fr cr c := by show _ < _; omega
      refine t_goOver (f := f2P V he bt fr cr f c) ha hR S8 (f2_B hB c) M8 (by omega) c8 o8 (by omega) (by omega) (fun h7 F7 e2 e4 S7 M7 => ?_)
      simp (disch := omega) only [en_ops, en_opc, iI_add, iI_mul, iI_sub, jL_add, jL_mul, iI_le, iI_lt, iI_eq, iI_eq0, iI_lt0, iI_0le, iI_le0, iI_0lt, jL_iI, iI_jL, lc_eq, lc_lt, lc_le, lc_ge, lc_gt, Nat.sub_zero, Nat.zero_le, true_and, and_true, Nat.reduceAdd, Nat.reduceLeDiff]
      have p7 : h7 35 = h8 35 := F7 35 (fun q => by rcases q with q | q | q | q <;> omega)
      refine ih h7 ⟨(i1.tr (F8.mono (fun x q => by rcases q with q | q <;> unfold Pov <;> omega))).tr (F7.mono (fun x q => by rcases q with q | q | q | q <;> unfold Pov <;> omega)), S7.cg (fun c' z k hc' hz hk => ?_), fun i hi9 => ?_, by unfold wvH; rw [p7]; exact W8, fun j hj => ?_, fun j hj => ?_⟩
      · unfold goN f2P
        by_cases j : c' = c
        · subst j
          rw [if_pos ⟨by omega, yes⟩, if_pos ⟨rfl, by omega⟩, if_neg (by omega)]
        · rw [if_neg (show ¬ (c' = c ∧ z * 3 + k < 18) from fun g => j g.1)]
          by_cases j2 : c' < c ∧ ovP V he bt fr cr c'
          · rw [if_pos j2, if_pos ⟨by omega, j2.2⟩]
          · rw [if_neg j2, if_neg (fun g => j2 ⟨by omega, g.2⟩)]
      · rw [M7 i hi9]
        refine iI_eq_of ?_
        show sm i + (if i = 3 then bhP V he bt fr cr f c else 0) + (if i = 3 then goS (f2P V he bt fr cr f c) c 18 else 0) = sm i + (if i = 3 then bhP V he bt fr cr f (c + 1) else 0)
        have eg : goS (f2P V he bt fr cr f c) c 18 = goS f c 18 := sumTo_congr (fun j hj => by unfold f2P; rw [if_neg (by omega)])
        rw [eg]
        unfold bhP
        rw [sumTo_s, if_pos yes]
        split <;> omega
      · rw [e2]
        unfold cr2
        by_cases g : j = c
        · subst g
          rw [up_at, if_pos ⟨by omega, yes⟩]
        · rw [up_ne (Or.inr g), p0 _ (by omega) (by omega), i5 j hj]
          unfold cr2
          by_cases j2 : j < c ∧ ovP V he bt fr cr j
          · rw [if_pos j2, if_pos ⟨by omega, j2.2⟩]
          · rw [if_neg j2, if_neg (fun g2 => j2 ⟨by omega, g2.2⟩)]
      · rw [e4]
        unfold ov2
        by_cases g : j = c
        · subst g
          rw [up_at, if_pos ⟨by omega, yes⟩]
        · rw [up_ne (Or.inr g), p0 _ (by omega) (by omega), i6 j hj]
          unfold ov2
          by_cases j2 : j < c ∧ ovP V he bt fr cr j
          · rw [if_pos j2, if_pos ⟨by omega, j2.2⟩]
          · rw [if_neg j2, if_neg (fun g2 => j2 ⟨by omega, g2.2⟩)]
end
