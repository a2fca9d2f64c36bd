section
variable {G : en_G} {d : Nat} {K : en_K} {a : Nat} {E : hEnv} {q : hSt} {hi : en_I} {hl : en_L} {hr : en_F} {xc xs : Nat}
/-- one cell's overs: how many, its crest, the hours -/
def o1P (V : Nat → (Nat → Int) → Int) (c : Nat) (w : Int × Int × Int) (s : Int × Int × Int) : Int × Int × Int := if s.2.1 < V 2 (nmL 0 0 0 0 w.1 w.2.1 w.2.2 s.2.1 c) then (s.1 + 1, loP s.2.1, s.2.2 + 1) else (s.1, s.2.1, s.2.2 + 1)
def ocP (V : Nat → (Nat → Int) → Int) (c : Nat) (w : Int × Int × Int) : Nat → Int × Int × Int → Int × Int × Int
  | 0, s => s
  | k + 1, s => if (ocP V c w k s).2.2 < 600 then o1P V c w (ocP V c w k s) else ocP V c w k s
def oyP (V : Nat → (Nat → Int) → Int) (c : Nat) (Y : hYr) : Nat → Int × Int × Int → Int × Int × Int
  | 0, s => s
  | i + 1, s => ocP V c (Y i).1 (Y i).2 (oyP V c Y i s)
theorem ocP_stop {V : Nat → (Nat → Int) → Int} {c : Nat} {w : Int × Int × Int} {k : Nat} {s : Int × Int × Int} (h : ¬ (ocP V c w k s).2.2 < 600) : ∀ m, k ≤ m → ocP V c w m s = ocP V c w k s := by
  intro m hm
  induction m with
  | zero => rw [show k = 0 by omega]
  | succ m ih =>
    by_cases e : k = m + 1
    · rw [e]
    · have := ih (by omega)
      show (if (ocP V c w m s).2.2 < 600 then o1P V c w (ocP V c w m s) else ocP V c w m s) = _
      rw [this, if_neg h]
def oR (s : Int × Int × Int) : Prop := (1 ≤ s.2.1 ∧ s.2.1 ≤ 1000) ∧ 0 ≤ s.2.2 ∧ s.2.2 ≤ 600
theorem oR.step {V : Nat → (Nat → Int) → Int} {c : Nat} {w : Int × Int × Int} {s : Int × Int × Int} (h : oR s) (h6 : s.2.2 < 600) : oR (o1P V c w s) := by
  obtain ⟨⟨h1, h2⟩, h3, h4⟩ := h
  unfold o1P loP
  split
  · exact ⟨by show 1 ≤ (if 1 < s.2.1 then s.2.1 - 1 else 1) ∧ (if 1 < s.2.1 then s.2.1 - 1 else 1) ≤ 1000; split <;> omega, by show 0 ≤ s.2.2 + 1; omega, by show s.2.2 + 1 ≤ 600; omega⟩
  · exact ⟨⟨h1, h2⟩, by show 0 ≤ s.2.2 + 1; omega, by show s.2.2 + 1 ≤ 600; omega⟩
theorem P56.n (x : Nat) (h : x ≠ 35 ∧ x ≠ 36) : ¬ P56 x := fun g => by rcases g with g | g <;> omega
theorem t_oversIn {L y n c : Nat} {Y : hYr} {V : Nat → (Nat → Int) → Int} {top h : Int} (hS : seR hr) (hL : isLw L) (hLR : lwR L hr) (hV : lwV G L V hi) (hVr : ∀ w nm, -2147483648 ≤ V w nm ∧ V w nm < 2147483648) (ha : isSh a) (hy : isYe y) (hyR : yeR y hr) (hY : yeH y n Y hi) (h11 : hi a 11 = iI h) (hO : oR (0, top, h))
    (H : ∀ hi', Fr P56 hi hi' → K (.inl (some (.int (iI (oyP V c Y n (0, top, h)).1)))) hi' hl hr) :
    en_Call G (d + 4) xc xs Y_X4_oversIn wN wN [.ref 34, .ref a, .ref L, .ref y, .int (iI c), .int (iI top)] hi hl hr K := by
  obtain ⟨s0, s1, -⟩ := ha.sh
  obtain ⟨l0, l1, l2, l3, l4, l5, l6⟩ := hy.sh
  obtain ⟨k0, k1, k2, k3⟩ := id hyR
  have q0 : y < 134 := by omega
  have q4 : y + 4 < 134 := by omega
  have n20 := hY.2.1
  have pY : ∀ x, 66 ≤ x → x < 86 → ¬ P56 x := fun x h1 h2 => P56.n x (by omega)
  apply en_X4_oversIn
  simp (disch := omega) only [B_X4_oversIn_0, s0, s1, h11, en_ops, en_opc, iI_add, iI_mul, iI_sub, jL_add, jL_mul, iI_le, iI_lt, iI_eq, iI_eq0, iI_lt0, iI_0le, iI_le0, iI_0lt, jL_iI, iI_jL, lc_eq, lc_lt, lc_le, lc_ge, lc_gt, Nat.sub_zero, Nat.zero_le, true_and, and_true, Nat.reduceAdd, Nat.reduceLeDiff]
  suffices L9 : ∀ i : Nat, i ≤ n → ∀ (h9 : en_I) (x10 : Value), Fr P56 hi h9 → oR (oyP V c Y i (0, top, h)) → en_V G Y_X4_oversIn (d + 4) wN wN K 16 [.ref 34, .ref a, .ref L, .ref y, .int (iI c), .int (iI top), .int (iI (oyP V c Y i (0, top, h)).1), .int (iI (oyP V c Y i (0, top, h)).2.1), .int (iI (oyP V c Y i (0, top, h)).2.2), .int (iI i), x10] [] h9 hl hr xc xs from L9 0 (by omega) hi jk Fr.rf hO
  refine lp n (fun h9 x10 F9 O9 => ?_) (fun i hi9 ih h9 x10 F9 O9 => ?_)
  · have n9 : h9 y 4 = iI n := by rw [F9 y (pY y (by omega) (by omega))]; exact hY.1
    apply s_X4_oversIn_16
    simp (disch := omega) only [B_X4_oversIn_16, l0, q0, n9, en_ops, en_opc, iI_add, iI_mul, iI_sub, jL_add, jL_mul, iI_le, iI_lt, iI_eq, iI_eq0, iI_lt0, iI_0le, iI_le0, iI_0lt, jL_iI, iI_jL, lc_eq, lc_lt, lc_le, lc_ge, lc_gt, Nat.sub_zero, Nat.zero_le, true_and, and_true, Nat.reduceAdd, Nat.reduceLeDiff]
    exact ⟨fun _ => H h9 F9, fun e => absurd (Int.le_refl _) e⟩
  · have Y9 : yeH y n Y h9 := hY.fr hy F9 pY
    have n9 : h9 y 4 = iI n := Y9.1
    obtain ⟨u1, u2, u3, u4, u5, u6, u7⟩ := Y9.2.2 i hi9
    apply s_X4_oversIn_16
    simp (disch := omega) only [B_X4_oversIn_16, l0, q0, n9, en_ops, en_opc, iI_add, iI_mul, iI_sub, jL_add, jL_mul, iI_le, iI_lt, iI_eq, iI_eq0, iI_lt0, iI_0le, iI_le0, iI_0lt, jL_iI, iI_jL, lc_eq, lc_lt, lc_le, lc_ge, lc_gt, Nat.sub_zero, Nat.zero_le, true_and, and_true, Nat.reduceAdd, Nat.reduceLeDiff]
    refine ⟨fun e => by omega, fun _ => ⟨⟨by decide, by decide⟩, ?_⟩⟩
    refine t_setWaveOf (d := d + 1) hS hy hyR Y9 hi9 (fun h8 F8 W8 => ?_)
    simp (disch := omega) only [en_ops, en_opc, iI_add, iI_mul, iI_sub, jL_add, jL_mul, iI_le, iI_lt, iI_eq, iI_eq0, iI_lt0, iI_0le, iI_le0, iI_0lt, jL_iI, iI_jL, lc_eq, lc_lt, lc_le, lc_ge, lc_gt, Nat.sub_zero, Nat.zero_le, true_and, and_true, Nat.reduceAdd, Nat.reduceLeDiff]
    generalize hs : oyP V c Y i (0, top, h) = s at O9 ⊢
    have hy9 : oyP V c Y (i + 1) (0, top, h) = ocP V c (Y i).1 (Y i).2 s := by rw [← hs]; rfl
    rw [hy9] at ih
    suffices L8 : ∀ t : Nat, t ≤ (Y i).2 → ∀ h7, Fr P56 hi h7 → oR (ocP V c (Y i).1 t s) → wvH (Y i).1.1 (Y i).1.2.1 (Y i).1.2.2 h7 → en_V G Y_X4_oversIn (d + 4) wN wN K 35 [.ref 34, .ref a, .ref L, .ref y, .int (iI c), .int (iI top), .int (iI (ocP V c (Y i).1 t s).1), .int (iI (ocP V c (Y i).1 t s).2.1), .int (iI (ocP V c (Y i).1 t s).2.2), .int (iI i), .int (iI t)] [] h7 hl hr xc xs by
      exact L8 0 (by omega) h8 (F9.tr (F8.mono (fun x e => Or.inl e))) O9 W8
    refine lp (Y i).2 (fun h7 F7 O7 W7 => ?_) (fun t ht ih7 h7 F7 O7 W7 => ?_)
    · have Y7 : yeH y n Y h7 := hY.fr hy F7 pY
      have u7' := (Y7.2.2 i hi9).2.2.2.1
      apply s_X4_oversIn_35
      simp (disch := omega) only [B_X4_oversIn_35, k3, l0, l4, q0, q4, en_ops, en_opc, iI_add, iI_mul, iI_sub, jL_add, jL_mul, iI_le, iI_lt, iI_eq, iI_eq0, iI_lt0, iI_0le, iI_le0, iI_0lt, jL_iI, iI_jL, lc_eq, lc_lt, lc_le, lc_ge, lc_gt, Nat.sub_zero, Nat.zero_le, true_and, and_true, Nat.reduceAdd, Nat.reduceLeDiff]
      refine ⟨i, rfl, by omega, ?_⟩
      rw [u7']
      simp (disch := omega) only [en_ops, en_opc, iI_add, iI_mul, iI_sub, jL_add, jL_mul, iI_le, iI_lt, iI_eq, iI_eq0, iI_lt0, iI_0le, iI_le0, iI_0lt, jL_iI, iI_jL, lc_eq, lc_lt, lc_le, lc_ge, lc_gt, Nat.sub_zero, Nat.zero_le, true_and, and_true, Nat.reduceAdd, Nat.reduceLeDiff]
      exact ⟨fun _ => ih h7 _ F7 O7, fun e => absurd (Int.le_refl _) e⟩
    · have Y7 : yeH y n Y h7 := hY.fr hy F7 pY
      have u7' := (Y7.2.2 i hi9).2.2.2.1
      obtain ⟨⟨o1, o2⟩, o3, o4⟩ := id O7
      apply s_X4_oversIn_35
      simp (disch := omega) only [B_X4_oversIn_35, k3, l0, l4, q0, q4, en_ops, en_opc, iI_add, iI_mul, iI_sub, jL_add, jL_mul, iI_le, iI_lt, iI_eq, iI_eq0, iI_lt0, iI_0le, iI_le0, iI_0lt, jL_iI, iI_jL, lc_eq, lc_lt, lc_le, lc_ge, lc_gt, Nat.sub_zero, Nat.zero_le, true_and, and_true, Nat.reduceAdd, Nat.reduceLeDiff]
      refine ⟨i, rfl, by omega, ?_⟩
      rw [u7']
      simp (disch := omega) only [en_ops, en_opc, iI_add, iI_mul, iI_sub, jL_add, jL_mul, iI_le, iI_lt, iI_eq, iI_eq0, iI_lt0, iI_0le, iI_le0, iI_0lt, jL_iI, iI_jL, lc_eq, lc_lt, lc_le, lc_ge, lc_gt, Nat.sub_zero, Nat.zero_le, true_and, and_true, Nat.reduceAdd, Nat.reduceLeDiff]
      refine ⟨fun e => by omega, fun _ => ⟨fun e => ?_, fun e => ⟨⟨by decide, by decide⟩, ?_⟩⟩⟩
      · have st := ocP_stop (V := V) (c := c) (w := (Y i).1) (k := t) (s := s) (by omega) (Y i).2 (by omega)
        rw [st] at ih
        exact ih h7 _ F7 O7
      · have st : ocP V c (Y i).1 (t + 1) s = o1P V c (Y i).1 (ocP V c (Y i).1 t s) := if_pos (by omega)
        rw [st] at ih7
        have O6 := O7.step (V := V) (c := c) (w := (Y i).1) (by omega)
        generalize ocP V c (Y i).1 t s = r at *
        obtain ⟨v0, v1⟩ := hVr 2 (nmL 0 0 0 0 (Y i).1.1 (Y i).1.2.1 (Y i).1.2.2 r.2.1 c)
        refine t_reach (V := V) (he := (Y i).1.1) (bt := (Y i).1.2.1) (fr := (Y i).1.2.2) hS hL hLR (hV.mono hL F7 (fun x g => by rcases g with g | g <;> omega)) W7 (fun h6 F6 W6 => ?_)
        simp (disch := omega) only [en_ops, en_opc, iI_add, iI_mul, iI_sub, jL_add, jL_mul, iI_le, iI_lt, iI_eq, iI_eq0, iI_lt0, iI_0le, iI_le0, iI_0lt, jL_iI, iI_jL, lc_eq, lc_lt, lc_le, lc_ge, lc_gt, Nat.sub_zero, Nat.zero_le, true_and, and_true, Nat.reduceAdd, Nat.reduceLeDiff]
        refine ⟨fun e2 => ?_, fun e2 => ?_⟩
        · have z : o1P V c (Y i).1 r = (r.1, r.2.1, r.2.2 + 1) := if_neg (by omega)
          rw [z] at ih7 O6
          exact ih7 h6 (F7.tr F6) O6 W6
        · have z : o1P V c (Y i).1 r = (r.1 + 1, loP r.2.1, r.2.2 + 1) := if_pos (by omega)
          rw [z] at ih7 O6
          refine t_lowered (by omega) (by omega) ?_
          simp (disch := omega) only [en_ops, en_opc, iI_add, iI_mul, iI_sub, jL_add, jL_mul, iI_le, iI_lt, iI_eq, iI_eq0, iI_lt0, iI_0le, iI_le0, iI_0lt, jL_iI, iI_jL, lc_eq, lc_lt, lc_le, lc_ge, lc_gt, Nat.sub_zero, Nat.zero_le, true_and, and_true, Nat.reduceAdd, Nat.reduceLeDiff]
          exact ih7 h6 (F7.tr F6) O6 W6
end
