section
variable {G : en_G} {d : Nat} {K : en_K} {a : Nat} {E : hEnv} {q : hSt} {hi : en_I} {hl : en_L} {hr : en_F} {xc xs : Nat}
def wlE (E : hEnv) (wl : Nat → Int) : hEnv := (E.1, E.2.1, E.2.2.1, wl, E.2.2.2.2)
def bwP (nc bits : Nat) (p : Int) (wl : Nat → Int) (c : Nat) : Int := if c < nc ∧ bits.testBit c = true then p else wl c
theorem eOK.wl {wl : Nat → Int} (h : eOK E) (hw : ∀ c, c < 12 → 0 ≤ wl c ∧ wl c ≤ 16) : eOK (wlE E wl) := ⟨h.1, hw, h.2.2⟩
theorem hsH.frP {P : Nat → Prop} {hi' : en_I} (h : hsH a E q hi) (F : Fr P hi hi') (hP : ∀ x, a ≤ x → x ≤ a + 7 → ¬ P x) : hsH a E q hi' := by
  have ee : ∀ x, a ≤ x → x ≤ a + 7 → hi' x = hi x := fun x h1 h2 => F x (hP x h1 h2)
  obtain ⟨⟨x0, x1, x2, x3, x4⟩, y2, y3, y4, y5, y6, y7⟩ := h
  refine ⟨⟨by rw [ee a (by omega) (by omega)]; exact x0, by rw [ee a (by omega) (by omega)]; exact x1, x2, x3, fun c z k hc hz hk => by rw [ee (a + 1) (by omega) (by omega)]; exact x4 c z k hc hz hk⟩, fun c hc => by rw [ee (a + 2) (by omega) (by omega)]; exact y2 c hc, fun c hc => by rw [ee (a + 3) (by omega) (by omega)]; exact y3 c hc, fun c hc => by rw [ee (a + 4) (by omega) (by omega)]; exact y4 c hc, fun i hi9 => by rw [ee (a + 7) (by omega) (by omega)]; exact y5 i hi9, by rw [ee a (by omega) (by omega)]; exact y6, by rw [ee a (by omega) (by omega)]; exact y7⟩
def lzP (E : hEnv) (Y : hYr) (n : Nat) : Nat → Int32 × hSt → Int32 × hSt
  | 0, s => s
  | k + 1, s => if (lzP E Y n k s).2.2.2.2.2.2 < 600 then (ldP (lzP E Y n k s).1, hrP E (Y (lkP (ldP (lzP E Y n k s).1) % n)).1 (lzP E Y n k s).2) else lzP E Y n k s
theorem lzP_stop {Y : hYr} {n k : Nat} {s : Int32 × hSt} (h : ¬ (lzP E Y n k s).2.2.2.2.2.2 < 600) : ∀ m, k ≤ m → lzP E Y n m s = lzP E Y n k s := by
  intro m hm
  induction m with
  | zero => rw [show k = 0 by omega]
  | succ m ih =>
    by_cases e : k = m + 1
    · rw [e]
    · have := ih (by omega)
      show (if (lzP E Y n m s).2.2.2.2.2.2 < 600 then _ else lzP E Y n m s) = _
      rw [this, if_neg h]
theorem t_rollLots {pl L y n m : Nat} {Y : hYr} {x : Int32} (hS : seS pl L hr) (hE : eOK E) (hse : seH G pl L E hi) (ha : isSh a) (hR : shR a hr) (hq : hsH a E q hi) (hO : hOK E q) (hy : isYe y) (hyR : yeR y hr) (hY : yeH y n Y hi) (hn : 1 ≤ n) (hay : a + 7 < 66 ∨ 86 ≤ a) (hm : m ≤ 200)
    (H : ∀ hi', Fa a hi hi' → hsH a E (lzP E Y n m (x, q)).2 hi' → hOK E (lzP E Y n m (x, q)).2 → seH G pl L E hi' → K (.inl (some (.int (iI ((lzP E Y n m (x, q)).2.2.2.2.2.2 - q.2.2.2.2.2))))) hi' hl hr) :
    en_Call G (d + 6) xc xs Y_X4_rollLots wN wN [.ref 34, .ref a, .ref L, .ref y, .int (iI m), .int x] hi hl hr K := by
  obtain ⟨s0, s1, -⟩ := ha.sh
  obtain ⟨l0, l1, l2, l3, l4, l5, l6⟩ := hy.sh
  have q0 : y < 134 := by omega
  have hpl := hS.2.2.1
  have hL := hS.2.2.2.2.1
  have h11 := hq.2.2.2.2.2.2
  have n20 := hY.2.1
  have pY : ∀ x, 66 ≤ x → x < 86 → ¬ Prl a x := fun x h1 h2 g => by unfold Prl at g; omega
  apply en_X4_rollLots
  simp (disch := omega) only [B_X4_rollLots_0, s0, s1, h11, en_ops, en_opc, iI_add, iI_mul, iI_sub, jL_add, jL_mul, iI_le, iI_lt, iI_eq, iI_eq0, iI_lt0, iI_0le, iI_le0, iI_0lt, jL_iI, iI_jL, lc_eq, lc_lt, lc_le, lc_ge, lc_gt, Nat.sub_zero, Nat.zero_le, true_and, and_true, Nat.reduceAdd, Nat.reduceLeDiff]
  suffices L9 : ∀ i : Nat, i ≤ m → ∀ (h9 : en_I), Fa a hi h9 → hsH a E (lzP E Y n i (x, q)).2 h9 → hOK E (lzP E Y n i (x, q)).2 → seH G pl L E h9 → en_V G Y_X4_rollLots (d + 6) wN wN K 13 [.ref 34, .ref a, .ref L, .ref y, .int (iI m), .int x, .int (iI q.2.2.2.2.2), .int (lzP E Y n i (x, q)).1, .int (iI i)] [] h9 hl hr xc xs from L9 0 (by omega) hi Fa.rf hq hO hse
  refine lp m (fun h9 F9 Q9 O9 S9 => ?_) (fun i hi9 ih h9 F9 Q9 O9 S9 => ?_)
  · have e11 := Q9.2.2.2.2.2.2
    apply s_X4_rollLots_13
    simp (disch := omega) only [B_X4_rollLots_13, s0, s1, e11, en_ops, en_opc, iI_add, iI_mul, iI_sub, jL_add, jL_mul, iI_le, iI_lt, iI_eq, iI_eq0, iI_lt0, iI_0le, iI_le0, iI_0lt, jL_iI, iI_jL, lc_eq, lc_lt, lc_le, lc_ge, lc_gt, Nat.sub_zero, Nat.zero_le, true_and, and_true, Nat.reduceAdd, Nat.reduceLeDiff]
    exact ⟨fun _ => H h9 F9 Q9 O9 S9, fun e => absurd (Int.le_refl _) e⟩
  · have e11 := Q9.2.2.2.2.2.2
    have Y9 : yeH y n Y h9 := hY.fr hy F9.1 pY
    have n9 : h9 y 4 = iI n := Y9.1
    obtain ⟨-, -, -, o4, o5⟩ := id O9
    apply s_X4_rollLots_13
    simp (disch := omega) only [B_X4_rollLots_13, s0, s1, e11, l0, q0, n9, en_ops, en_opc, iI_add, iI_mul, iI_sub, jL_add, jL_mul, iI_le, iI_lt, iI_eq, iI_eq0, iI_lt0, iI_0le, iI_le0, iI_0lt, jL_iI, iI_jL, lc_eq, lc_lt, lc_le, lc_ge, lc_gt, Nat.sub_zero, Nat.zero_le, true_and, and_true, Nat.reduceAdd, Nat.reduceLeDiff]
    by_cases hh : (lzP E Y n i (x, q)).2.2.2.2.2.2 < 600
    · have st : lzP E Y n (i + 1) (x, q) = (ldP (lzP E Y n i (x, q)).1, hrP E (Y (lkP (ldP (lzP E Y n i (x, q)).1) % n)).1 (lzP E Y n i (x, q)).2) := if_pos hh
      rw [st] at ih
      generalize hx : lzP E Y n i (x, q) = s at *
      have el : ((s.1 * iI 1103515245 + iI 12345).toUInt32 >>> ((iI 16).toUInt32 &&& Int32.toUInt32 31)).toInt32 &&& iI 32767 = iI (lkP (ldP s.1) : Int) := lk_u (ldP s.1)
      have l9 := lk_lt (ldP s.1)
      have lm : lkP (ldP s.1) % n < n := Nat.mod_lt _ (by omega)
      refine ⟨fun e => by omega, fun _ => ⟨fun e => by omega, fun _ => ⟨fun e => by omega, fun _ => ⟨by omega, ?_⟩⟩⟩⟩
      have ed : (lkP (ldP s.1) : Int) - (lkP (ldP s.1) : Int) / (n : Int) * (n : Int) = ((lkP (ldP s.1) % n : Nat) : Int) := by
        rw [show ((lkP (ldP s.1) % n : Nat) : Int) = (lkP (ldP s.1) : Int) % (n : Int) from rfl, Int.emod_def, Int.mul_comm]
      rw [el, iI_div (by omega) (by omega) (by omega) (by omega), iI_mul, iI_sub, ed]
      refine ⟨⟨by decide, by decide⟩, ?_⟩
      refine t_setWaveOf (d := d + 3) hS.1 hy hyR Y9 lm (fun h8 F8 W8 => ?_)
      simp (disch := omega) only [en_ops, en_opc, iI_add, iI_mul, iI_sub, jL_add, jL_mul, iI_le, iI_lt, iI_eq, iI_eq0, iI_lt0, iI_0le, iI_le0, iI_0lt, jL_iI, iI_jL, lc_eq, lc_lt, lc_le, lc_ge, lc_gt, Nat.sub_zero, Nat.zero_le, true_and, and_true, Nat.reduceAdd, Nat.reduceLeDiff]
      obtain ⟨u1, u2, u3, u4, u5, u6, u7⟩ := Y9.2.2 _ lm
      refine ⟨⟨by decide, by decide⟩, ?_⟩
      refine t_hour (d := d) hS hE (S9.fr35 hpl hL F8 (fun x g1 g2 => g1 g2)) ha hR (Q9.fr35 ha F8 (fun x g1 g2 => by omega)) O9 (by omega) W8 u5 (fun h6 F6 A6 Q6 O6 S6 W6 => ?_)
      simp (disch := omega) only [en_ops, en_opc, iI_add, iI_mul, iI_sub, jL_add, jL_mul, iI_le, iI_lt, iI_eq, iI_eq0, iI_lt0, iI_0le, iI_le0, iI_0lt, jL_iI, iI_jL, lc_eq, lc_lt, lc_le, lc_ge, lc_gt, Nat.sub_zero, Nat.zero_le, true_and, and_true, Nat.reduceAdd, Nat.reduceLeDiff]
      exact ih h6 ((F9.tr (Fa.w ha F8)).tr ⟨F6, A6⟩) Q6 O6 S6
    · have st := lzP_stop hh m (by omega)
      rw [st] at H
      exact ⟨fun e => by omega, fun _ => ⟨fun _ => H h9 F9 Q9 O9 S9, fun e => by omega⟩⟩
theorem bwP_r {nc bits : Nat} {p : Int} {wl : Nat → Int} (hp : 0 ≤ p ∧ p ≤ 16) (hw : ∀ c, c < 12 → 0 ≤ wl c ∧ wl c ≤ 16) : ∀ c, c < 12 → 0 ≤ bwP nc bits p wl c ∧ bwP nc bits p wl c ≤ 16 := fun c hc => by
  unfold bwP
  split
  · exact hp
  · exact hw c hc
theorem sh17 : en_SH 17 = (100, 216) := by decide
theorem lt17 : 17 < 134 := by decide
theorem sh18 : en_SH 18 = (100, 12) := by decide
theorem lt18 : 18 < 134 := by decide
theorem sh19 : en_SH 19 = (100, 12) := by decide
theorem lt19 : 19 < 134 := by decide
theorem sh20 : en_SH 20 = (100, 12) := by decide
theorem lt20 : 20 < 134 := by decide
theorem sh21 : en_SH 21 = (100, 72) := by decide
theorem lt21 : 21 < 134 := by decide
theorem sh22 : en_SH 22 = (100, 4) := by decide
theorem lt22 : 22 < 134 := by decide
theorem sh23 : en_SH 23 = (100, 5) := by decide
theorem lt23 : 23 < 134 := by decide
theorem sh40 : en_SH 40 = (100, 216) := by decide
theorem lt40 : 40 < 134 := by decide
theorem sh41 : en_SH 41 = (100, 12) := by decide
theorem lt41 : 41 < 134 := by decide
theorem sh42 : en_SH 42 = (100, 12) := by decide
theorem lt42 : 42 < 134 := by decide
theorem sh43 : en_SH 43 = (100, 12) := by decide
theorem lt43 : 43 < 134 := by decide
theorem sh44 : en_SH 44 = (100, 72) := by decide
theorem lt44 : 44 < 134 := by decide
theorem sh45 : en_SH 45 = (100, 4) := by decide
theorem lt45 : 45 < 134 := by decide
theorem sh46 : en_SH 46 = (100, 5) := by decide
theorem lt46 : 46 < 134 := by decide
theorem sh38 : en_SH 38 = (8, 5) := by decide
theorem lt38 : 38 < 134 := by decide
theorem t_buildWalls {bits : Nat} {p : Int} (hT : trR hr) (hq : hsH 39 E q hi) (hb : bits < 4096)
    (H : ∀ hi', Fr (· = 42) hi hi' → hsH 39 (wlE E (bwP E.2.1 bits p E.2.2.2.1)) q hi' → K (.inl none) hi' hl hr) : en_Call G (d + 1) xc xs Y_X8_buildWalls wN wN [.ref 38, .int (iI (bits : Int)), .int (iI p)] hi hl hr K := by
  obtain ⟨t0, t1, t2, t3, t4⟩ := hT
  have ha : isSh 39 := Or.inr (Or.inl rfl)
  obtain ⟨s0, s1, s2, s3, s4, -⟩ := ha.sh
  obtain ⟨r1, r2, r3, -⟩ := id t3
  have e0 := hq.1.1
  have nc12 := hq.1.2.2.1
  have wl0 := hq.2.2.1
  apply en_X8_buildWalls
  simp (disch := omega) only [B_X8_buildWalls_0, en_ops, en_opc, iI_add, iI_mul, iI_sub, jL_add, jL_mul, iI_le, iI_lt, iI_eq, iI_eq0, iI_lt0, iI_0le, iI_le0, iI_0lt, jL_iI, iI_jL, lc_eq, lc_lt, lc_le, lc_ge, lc_gt, Nat.sub_zero, Nat.zero_le, true_and, and_true, Nat.reduceAdd, Nat.reduceLeDiff]
  suffices L : ∀ c : Nat, c ≤ E.2.1 → ∀ h9, Fr (· = 42) hi h9 → (∀ j, j < 12 → h9 42 j = iI (bwP c bits p E.2.2.2.1 j)) → en_V G Y_X8_buildWalls (d + 1) wN wN K 2 [.ref 38, .int (iI (bits : Int)), .int (iI p), .int (iI c)] [] h9 hl hr xc xs by
    refine L 0 (by omega) hi Fr.rf (fun j hj => ?_)
    rw [wl0 j hj]; unfold bwP; rw [if_neg (by omega)]
  refine lp E.2.1 (fun h9 F9 W9 => ?_) (fun c hc ih h9 F9 W9 => ?_)
  · have e9 : h9 39 0 = iI (E.2.1 : Int) := by rw [F9 39 (by decide)]; exact e0
    apply s_X8_buildWalls_2
    simp (disch := omega) only [B_X8_buildWalls_2, t1, sh38, lt38, s0, s1, e9, en_ops, en_opc, iI_add, iI_mul, iI_sub, jL_add, jL_mul, iI_le, iI_lt, iI_eq, iI_eq0, iI_lt0, iI_0le, iI_le0, iI_0lt, jL_iI, iI_jL, lc_eq, lc_lt, lc_le, lc_ge, lc_gt, Nat.sub_zero, Nat.zero_le, true_and, and_true, Nat.reduceAdd, Nat.reduceLeDiff]
    refine ⟨fun _ => H h9 F9 ?_, fun e => absurd (Int.le_refl _) e⟩
    obtain ⟨⟨x0, x1, x2, x3, x4⟩, y2, y3, y4, y5, y6, y7⟩ := hq
    refine ⟨⟨by rw [F9 39 (by decide)]; exact x0, by rw [F9 39 (by decide)]; exact x1, x2, x3, fun c z k hc hz hk => by rw [F9 40 (by decide)]; exact x4 c z k hc hz hk⟩, fun c hc => by rw [F9 41 (by decide)]; exact y2 c hc, fun c hc => W9 c hc, fun c hc => by rw [F9 43 (by decide)]; exact y4 c hc, fun i hi9 => by rw [F9 46 (by decide)]; exact y5 i hi9, by rw [F9 39 (by decide)]; exact y6, by rw [F9 39 (by decide)]; exact y7⟩
  · have e9 : h9 39 0 = iI (E.2.1 : Int) := by rw [F9 39 (by decide)]; exact e0
    apply s_X8_buildWalls_2
    cases hbit : bits.testBit c
    · simp (disch := omega) only [B_X8_buildWalls_2, t1, sh38, lt38, s0, s1, e9, sh_0 (show c < 32 by omega) hbit, en_ops, en_opc, iI_add, iI_mul, iI_sub, jL_add, jL_mul, iI_le, iI_lt, iI_eq, iI_eq0, iI_lt0, iI_0le, iI_le0, iI_0lt, jL_iI, iI_jL, lc_eq, lc_lt, lc_le, lc_ge, lc_gt, Nat.sub_zero, Nat.zero_le, true_and, and_true, Nat.reduceAdd, Nat.reduceLeDiff]
      refine ⟨fun e => by omega, fun _ => ⟨fun _ => ih h9 F9 (fun j hj => ?_), fun e => absurd e (by decide)⟩⟩
      rw [W9 j hj]
      unfold bwP
      by_cases g : j = c
      · subst g; rw [if_neg (by omega), if_neg (fun g2 => by rw [hbit] at g2; exact absurd g2.2 (by decide))]
      · by_cases g2 : j < c ∧ bits.testBit j = true
        · rw [if_pos g2, if_pos ⟨by omega, g2.2⟩]
        · rw [if_neg g2, if_neg (fun g3 => g2 ⟨by omega, g3.2⟩)]
    · simp (disch := omega) only [B_X8_buildWalls_2, t1, sh38, lt38, s0, s1, r3, sh42, lt42, e9, sh_1 (show c < 32 by omega) hbit, en_ops, en_opc, iI_add, iI_mul, iI_sub, jL_add, jL_mul, iI_le, iI_lt, iI_eq, iI_eq0, iI_lt0, iI_0le, iI_le0, iI_0lt, jL_iI, iI_jL, lc_eq, lc_lt, lc_le, lc_ge, lc_gt, Nat.sub_zero, Nat.zero_le, true_and, and_true, Nat.reduceAdd, Nat.reduceLeDiff]
      refine ⟨fun e => by omega, fun _ => ⟨fun e => (e (by first | trivial | rfl)).elim, fun _ => ⟨c, rfl, by omega, ih _ (Fr.up F9 (by rfl)) (fun j hj => ?_)⟩⟩⟩
      unfold bwP
      by_cases g : j = c
      · subst g; rw [up_at, if_pos ⟨by omega, hbit⟩]
      · rw [up_ne (Or.inr g), W9 j hj]
        unfold bwP
        by_cases g2 : j < c ∧ bits.testBit j = true
        · rw [if_pos g2, if_pos ⟨by omega, g2.2⟩]
        · rw [if_neg g2, if_neg (fun g3 => g2 ⟨by omega, g3.2⟩)]
theorem Psh39 {x : Nat} (g : Psh 39 x) : Ptr x := by unfold Psh at g; unfold Ptr; omega
theorem seH.tr39 {pl L : Nat} {P : Nat → Prop} {hi' : en_I} (hS : seS pl L hr) (h : seH G pl L E hi) (F : Fr P hi hi') (hP : ∀ x, P x → 39 ≤ x ∧ x ≤ 46) : seH G pl L E hi' := h.frS hS.2.2.1 hS.2.2.2.2.1 F (fun x g => by have := hP x g; omega)
/-- a year on the trial shore, its walls and heaps as they stand there -/
theorem t_tryYear {pl L y n : Nat} {Y : hYr} {E' : hEnv} {q' : hSt} {hi0 : en_I} (hT : trR hr) (hS : seS pl L hr) (hE : eOK E') (hse : seH G pl L E' hi) (hq : hsH 39 E' q' hi) (hO : hOK E' q') (hy : isYe y) (hyR : yeR y hr) (hY : yeH y n Y hi0) (F0 : Fr Ptr hi0 hi)
    (H : ∀ hi', Fr Ptr hi0 hi' → hsH 39 E' (yrP E' Y n q') hi' → hOK E' (yrP E' Y n q') → seH G pl L E' hi' → (∀ j, hi' 38 j = hi 38 j) → (∀ j, hi' 47 j = hi 47 j) → K (.inl (some (.int (iI ((yrP E' Y n q').2.2.2.2.2 - q'.2.2.2.2.2))))) hi' hl hr) :
    en_Call G (d + 6) xc xs Y_X4_rollYear wN wN [.ref 34, .ref 39, .ref L, .ref y] hi hl hr K := by
  refine t_rollYear hS hE hse (Or.inr (Or.inl rfl)) hT.2.2.2.1 hq hO hy hyR (hY.fr hy F0 (fun x g1 g2 g => by unfold Ptr at g; omega)) (by omega) (fun h8 A8 Q8 O8 S8 => ?_)
  exact H h8 (F0.tr A8.tr39) Q8 O8 S8 (fun j => by rw [A8.1 38 (by unfold Prl; omega)]) (fun j => by rw [A8.1 47 (by unfold Prl; omega)])
theorem t_behindWall {pl L y n w : Nat} {p : Int} {Y : hYr} (hT : trR hr) (hS : seS pl L hr) (hE : eOK E) (hse : seH G pl L E hi) (hq : hsH 16 E q hi) (hO : hOK E q) (hy : isYe y) (hyR : yeR y hr) (hY : yeH y n Y hi) (hw : w < 12) (hp : 0 ≤ p ∧ p ≤ 16)
    (H : ∀ hi', Fr Ptr hi hi' → hsH 39 (wlE E (bwP E.2.1 (2 ^ w) p E.2.2.2.1)) (yrP (wlE E (bwP E.2.1 (2 ^ w) p E.2.2.2.1)) Y n q) hi' → hOK E (yrP (wlE E (bwP E.2.1 (2 ^ w) p E.2.2.2.1)) Y n q) → seH G pl L E hi' → K (.inl (some (.ref 39))) hi' hl hr) :
    en_Call G (d + 7) xc xs Y_X8_behindWall wN wN [.ref 38, .ref 16, .ref L, .ref y, .int (iI (w : Int)), .int (iI p)] hi hl hr K := by
  obtain ⟨t0, t1, t2, t3, t4⟩ := id hT
  have ha : isSh 39 := Or.inr (Or.inl rfl)
  have hb : isSh 16 := Or.inl rfl
  have w2 : 2 ^ w < 4096 := Nat.pow_lt_pow_right (by decide) hw
  apply en_X8_behindWall
  simp (disch := omega) only [B_X8_behindWall_0, t0, t1, en_ops, en_opc, iI_add, iI_mul, iI_sub, jL_add, jL_mul, iI_le, iI_lt, iI_eq, iI_eq0, iI_lt0, iI_0le, iI_le0, iI_0lt, jL_iI, iI_jL, lc_eq, lc_lt, lc_le, lc_ge, lc_gt, Nat.sub_zero, Nat.zero_le, true_and, and_true, Nat.reduceAdd, Nat.reduceLeDiff]
  refine ⟨⟨by decide, by decide⟩, ⟨by decide, by decide⟩, t_copy ha hb (by decide) t3 t4 (fun h9 C9 => ?_)⟩
  have F9 : Fr Ptr hi h9 := C9.1.mono (fun x g => Psh39 g)
  simp (disch := omega) only [t0, t1, shl_1 w (show w < 31 by omega), en_ops, en_opc, iI_add, iI_mul, iI_sub, jL_add, jL_mul, iI_le, iI_lt, iI_eq, iI_eq0, iI_lt0, iI_0le, iI_le0, iI_0lt, jL_iI, iI_jL, lc_eq, lc_lt, lc_le, lc_ge, lc_gt, Nat.sub_zero, Nat.zero_le, true_and, and_true, Nat.reduceAdd, Nat.reduceLeDiff]
  refine ⟨⟨by decide, by decide⟩, t_buildWalls (d := d + 5) hT (C9.hs ha hq) w2 (fun h8 F8 Q8 => ?_)⟩
  have F98 : Fr Ptr hi h8 := F9.tr (F8.mono (fun x e => by unfold Ptr; omega))
  simp (disch := omega) only [t0, t1, en_ops, en_opc, iI_add, iI_mul, iI_sub, jL_add, jL_mul, iI_le, iI_lt, iI_eq, iI_eq0, iI_lt0, iI_0le, iI_le0, iI_0lt, jL_iI, iI_jL, lc_eq, lc_lt, lc_le, lc_ge, lc_gt, Nat.sub_zero, Nat.zero_le, true_and, and_true, Nat.reduceAdd, Nat.reduceLeDiff]
  refine ⟨⟨by decide, by decide⟩, ⟨by decide, by decide⟩, ⟨by decide, by decide⟩, ?_⟩
  have S8 : seH G pl L E h8 := (hse.tr39 hS C9.1 (fun x g => by unfold Psh at g; omega)).tr39 hS F8 (fun x g => by omega)
  refine t_tryYear (E' := wlE E (bwP E.2.1 (2 ^ w) p E.2.2.2.1)) (hi0 := hi) hT hS (hE.wl (bwP_r hp hE.2.1)) S8 Q8 hO hy hyR hY F98 (fun h7 F7 Q7 O7 S7 _ _ => ?_)
  simp (disch := omega) only [t1, en_ops, en_opc, iI_add, iI_mul, iI_sub, jL_add, jL_mul, iI_le, iI_lt, iI_eq, iI_eq0, iI_lt0, iI_0le, iI_le0, iI_0lt, jL_iI, iI_jL, lc_eq, lc_lt, lc_le, lc_ge, lc_gt, Nat.sub_zero, Nat.zero_le, true_and, and_true, Nat.reduceAdd, Nat.reduceLeDiff]
  exact ⟨⟨by decide, by decide⟩, H h7 F7 Q7 O7 S7⟩
end
