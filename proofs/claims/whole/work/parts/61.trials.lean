section
variable {G : en_G} {d : Nat} {K : en_K} {a : Nat} {E : hEnv} {q : hSt} {hi : en_I} {hl : en_L} {hr : en_F} {xc xs : Nat} {Y : hYr} {V : Nat → (Nat → Int) → Int}
/-- behind how many years a cell has fewer -/
def laP (E : hEnv) (Y : hYr) (n c : Nat) (m : Int) : Nat → Nat → hSt → Int
  | 0, _, _ => -1
  | k + 1, g, q => if wP q.1 E.2.2.1 c < m then (g : Int) else if 600 ≤ q.2.2.2.2.2 then -1 else laP E Y n c m k (g + 1) (yrP E Y n q)
theorem t_years {pl L y n c : Nat} {m : Int} (hT : trR hr) (hS : seS pl L hr) (hE : eOK E) (hse : seH G pl L E hi) (hq : hsH 16 E q hi) (hO : hOK E q) (hy : isYe y) (hyR : yeR y hr) (hY : yeH y n Y hi) (hc : c < 12) (hm : 1 ≤ m ∧ m ≤ 999999)
    (H : ∀ hi', Fr Ptr hi hi' → seH G pl L E hi' → K (.inl (some (.int (iI (laP E Y n c m 21 0 q))))) hi' hl hr) :
    en_Call G (d + 7) xc xs Y_X8_yearsTillFewer wN wN [.ref 38, .ref 16, .ref L, .ref y, .int (iI (c : Int)), .int (iI m)] hi hl hr K := by
  obtain ⟨t0, t1, t2, t3, t4⟩ := id hT
  have ha : isSh 39 := Or.inr (Or.inl rfl)
  have hb : isSh 16 := Or.inl rfl
  obtain ⟨s0, s1, -⟩ := ha.sh
  have nz6 := hq.1.2.2.2.1
  apply en_X8_yearsTillFewer
  simp (disch := omega) only [B_X8_yearsTillFewer_0, t0, t1, sh38, lt38, en_ops, en_opc, iI_add, iI_mul, iI_sub, jL_add, jL_mul, iI_le, iI_lt, iI_eq, iI_eq0, iI_lt0, iI_0le, iI_le0, iI_0lt, jL_iI, iI_jL, lc_eq, lc_lt, lc_le, lc_ge, lc_gt, Nat.sub_zero, Nat.zero_le, true_and, and_true, Nat.reduceAdd, Nat.reduceLeDiff]
  refine ⟨⟨by decide, by decide⟩, t_copy ha hb (by decide) t3 t4 (fun h8 C8 => ?_)⟩
  simp (disch := omega) only [en_ops, en_opc, iI_add, iI_mul, iI_sub, jL_add, jL_mul, iI_le, iI_lt, iI_eq, iI_eq0, iI_lt0, iI_0le, iI_le0, iI_0lt, jL_iI, iI_jL, lc_eq, lc_lt, lc_le, lc_ge, lc_gt, Nat.sub_zero, Nat.zero_le, true_and, and_true, Nat.reduceAdd, Nat.reduceLeDiff]
  have F8 : Fr Ptr hi h8 := C8.1.mono (fun x g => Psh39 g)
  suffices L : ∀ k g : Nat, k + g = 21 → ∀ (q' : hSt) h9, Fr Ptr hi h9 → seH G pl L E h9 → hsH 39 E q' h9 → hOK E q' → laP E Y n c m k g q' = laP E Y n c m 21 0 q → en_V G Y_X8_yearsTillFewer (d + 7) wN wN K 11 [.ref 38, .ref 16, .ref L, .ref y, .int (iI (c : Int)), .int (iI m), .int (iI (g : Int))] [] h9 hl hr xc xs from L 21 0 rfl q h8 F8 (hse.tr39 hS C8.1 (fun x g => by unfold Psh at g; omega)) (C8.hs ha hq) hO rfl
  intro k
  induction k with
  | zero =>
    intro g hg q' h9 F9 S9 Q9 O9 e9
    have g21 : g = 21 := by omega
    subst g21
    rw [← e9] at H
    apply s_X8_yearsTillFewer_11
    simp (disch := omega) only [B_X8_yearsTillFewer_11, en_ops, en_opc, iI_add, iI_mul, iI_sub, jL_add, jL_mul, iI_le, iI_lt, iI_eq, iI_eq0, iI_lt0, iI_0le, iI_le0, iI_0lt, jL_iI, iI_jL, lc_eq, lc_lt, lc_le, lc_ge, lc_gt, Nat.sub_zero, Nat.zero_le, true_and, and_true, Nat.reduceAdd, Nat.reduceLeDiff]
    exact ⟨fun _ => H h9 F9 S9, fun e => absurd (show (20 : Int) < ((21 : Nat) : Int) by omega) e⟩
  | succ k ih =>
    intro g hg q' h9 F9 S9 Q9 O9 e9
    have w0 := wP_nn (m := E.2.2.1) O9.1 c
    have w1 := wP_le O9.1 nz6 hc
    have e11 := Q9.2.2.2.2.2.2
    obtain ⟨-, -, -, o4, o5⟩ := id O9
    have st : laP E Y n c m (k + 1) g q' = if wP q'.1 E.2.2.1 c < m then (g : Int) else if 600 ≤ q'.2.2.2.2.2 then -1 else laP E Y n c m k (g + 1) (yrP E Y n q') := rfl
    rw [st] at e9
    apply s_X8_yearsTillFewer_11
    simp (disch := omega) only [B_X8_yearsTillFewer_11, t0, t1, sh38, lt38, en_ops, en_opc, iI_add, iI_mul, iI_sub, jL_add, jL_mul, iI_le, iI_lt, iI_eq, iI_eq0, iI_lt0, iI_0le, iI_le0, iI_0lt, jL_iI, iI_jL, lc_eq, lc_lt, lc_le, lc_ge, lc_gt, Nat.sub_zero, Nat.zero_le, true_and, and_true, Nat.reduceAdd, Nat.reduceLeDiff]
    refine ⟨fun e => by omega, fun _ => ⟨⟨by decide, by decide⟩, t_allIn (d := d + 5) ha t3 Q9.1 O9.1 hc ?_⟩⟩
    simp (disch := omega) only [t0, t1, sh38, lt38, s0, s1, e11, en_ops, en_opc, iI_add, iI_mul, iI_sub, jL_add, jL_mul, iI_le, iI_lt, iI_eq, iI_eq0, iI_lt0, iI_0le, iI_le0, iI_0lt, jL_iI, iI_jL, lc_eq, lc_lt, lc_le, lc_ge, lc_gt, Nat.sub_zero, Nat.zero_le, true_and, and_true, Nat.reduceAdd, Nat.reduceLeDiff]
    refine ⟨fun e => ⟨fun e2 => ?_, fun e2 => ?_⟩, fun e => ?_⟩
    · rw [if_neg (by omega), if_neg (by omega)] at e9
      refine ⟨⟨by decide, by decide⟩, ?_⟩
      refine t_tryYear (hi0 := hi) hT hS hE S9 Q9 O9 hy hyR hY F9 (fun h7 F7 Q7 O7 S7 _ _ => ?_)
      simp (disch := omega) only [en_ops, en_opc, iI_add, iI_mul, iI_sub, jL_add, jL_mul, iI_le, iI_lt, iI_eq, iI_eq0, iI_lt0, iI_0le, iI_le0, iI_0lt, jL_iI, iI_jL, lc_eq, lc_lt, lc_le, lc_ge, lc_gt, Nat.sub_zero, Nat.zero_le, true_and, and_true, Nat.reduceAdd, Nat.reduceLeDiff]
      exact ih (g + 1) (by omega) _ h7 F7 S7 Q7 O7 e9
    · rw [if_neg (by omega), if_pos (by omega)] at e9
      rw [← e9] at H
      exact H h9 F9 S9
    · rw [if_pos (by omega)] at e9
      rw [← e9] at H
      exact H h9 F9 S9
/-- is no crest gone over, all m higher -/
def drB (V : Nat → (Nat → Int) → Int) (Y : hYr) (n : Nat) (h : Int) (cr : Nat → Int) (m : Int) : Nat → Bool
  | 0 => true
  | c + 1 => drB V Y n h cr m c && decide (oyN V Y n h c (cr c + m) = 0)
def fdP (P : Nat → Bool) : Nat → Nat → Int
  | 0, _ => -1
  | k + 1, m => if P m = true then (m : Int) else fdP P k (m + 1)
theorem drB_mono {n m' : Nat} {h m : Int} {cr : Nat → Int} (hf : drB V Y n h cr m m' = false) : ∀ k, m' ≤ k → drB V Y n h cr m k = false := by
  intro k hk
  induction k with
  | zero => rw [show m' = 0 by omega] at hf; exact hf
  | succ k ih =>
    by_cases e : m' = k + 1
    · rw [← e]; exact hf
    · show (drB V Y n h cr m k && _) = false
      rw [ih (by omega)]; rfl
theorem t_dry {L y n : Nat} (hT : trR hr) (hS : seR hr) (hL : isLw L) (hLR : lwR L hr) (hV : lwV G L V hi) (hVr : ∀ w nm, -2147483648 ≤ V w nm ∧ V w nm < 2147483648) (hq : hsH 16 E q hi) (hO : hOK E q) (hcr : ∀ c, c < 12 → q.2.1 c ≤ 900) (hy : isYe y) (hyR : yeR y hr) (hY : yeH y n Y hi)
    (H : ∀ hi', Fr P56 hi hi' → K (.inl (some (.int (iI (fdP (fun m => drB V Y n q.2.2.2.2.2 q.2.1 m E.2.1) 101 0))))) hi' hl hr) :
    en_Call G (d + 5) xc xs Y_X8_leastDry wN wN [.ref 38, .ref 16, .ref L, .ref y] hi hl hr K := by
  obtain ⟨t0, t1, t2, t3, t4⟩ := id hT
  have hb : isSh 16 := Or.inl rfl
  obtain ⟨z0, z1, z2, z3, -⟩ := hb.sh
  obtain ⟨y1, y2, -⟩ := id t4
  obtain ⟨-, -, o3, o4, o5⟩ := id hO
  have nc12 := hq.1.2.2.1
  have e0 : ∀ h9, Fr P56 hi h9 → h9 16 0 = iI (E.2.1 : Int) := fun h9 F => by rw [F 16 (P56.n _ (by omega))]; exact hq.1.1
  have e11 : ∀ h9, Fr P56 hi h9 → h9 16 11 = iI q.2.2.2.2.2 := fun h9 F => by rw [F 16 (P56.n _ (by omega))]; exact hq.2.2.2.2.2.2
  have ec : ∀ h9, Fr P56 hi h9 → ∀ c, c < 12 → h9 18 c = iI (q.2.1 c) := fun h9 F c hc => by rw [F 18 (P56.n _ (by omega))]; exact hq.2.1 c hc
  have V9 : ∀ h9, Fr P56 hi h9 → lwV G L V h9 := fun h9 F => hV.mono hL F (fun x g => by unfold P56 at g; omega)
  have Y9 : ∀ h9, Fr P56 hi h9 → yeH y n Y h9 := fun h9 F => hY.fr hy F (fun x g1 g2 => P56.n x (by omega))
  apply en_X8_leastDry
  simp (disch := omega) only [B_X8_leastDry_0, en_ops, en_opc, iI_add, iI_mul, iI_sub, jL_add, jL_mul, iI_le, iI_lt, iI_eq, iI_eq0, iI_lt0, iI_0le, iI_le0, iI_0lt, jL_iI, iI_jL, lc_eq, lc_lt, lc_le, lc_ge, lc_gt, Nat.sub_zero, Nat.zero_le, true_and, and_true, Nat.reduceAdd, Nat.reduceLeDiff]
  suffices L : ∀ k m : Nat, k + m = 101 → ∀ h9 x5 x6, Fr P56 hi h9 → fdP (fun m => drB V Y n q.2.2.2.2.2 q.2.1 m E.2.1) k m = fdP (fun m => drB V Y n q.2.2.2.2.2 q.2.1 m E.2.1) 101 0 → en_V G Y_X8_leastDry (d + 5) wN wN K 3 [.ref 38, .ref 16, .ref L, .ref y, .int (iI (m : Int)), x5, x6] [] h9 hl hr xc xs from L 101 0 rfl hi _ _ Fr.rf rfl
  intro k
  induction k with
  | zero =>
    intro m hm h9 x5 x6 F9 e9
    have g21 : m = 101 := by omega
    subst g21
    rw [← e9] at H
    apply s_X8_leastDry_3
    simp (disch := omega) only [B_X8_leastDry_3, en_ops, en_opc, iI_add, iI_mul, iI_sub, jL_add, jL_mul, iI_le, iI_lt, iI_eq, iI_eq0, iI_lt0, iI_0le, iI_le0, iI_0lt, jL_iI, iI_jL, lc_eq, lc_lt, lc_le, lc_ge, lc_gt, Nat.sub_zero, Nat.zero_le, true_and, and_true, Nat.reduceAdd, Nat.reduceLeDiff]
    exact ⟨fun _ => H h9 F9, fun e => absurd (show (100 : Int) < ((101 : Nat) : Int) by omega) e⟩
  | succ k ih =>
    intro m hm h9 x5 x6 F9 e9
    have st : fdP (fun m => drB V Y n q.2.2.2.2.2 q.2.1 m E.2.1) (k + 1) m = if drB V Y n q.2.2.2.2.2 q.2.1 m E.2.1 = true then (m : Int) else fdP (fun m => drB V Y n q.2.2.2.2.2 q.2.1 m E.2.1) k (m + 1) := rfl
    rw [st] at e9
    apply s_X8_leastDry_3
    simp (disch := omega) only [B_X8_leastDry_3, en_ops, en_opc, iI_add, iI_mul, iI_sub, jL_add, jL_mul, iI_le, iI_lt, iI_eq, iI_eq0, iI_lt0, iI_0le, iI_le0, iI_0lt, jL_iI, iI_jL, lc_eq, lc_lt, lc_le, lc_ge, lc_gt, Nat.sub_zero, Nat.zero_le, true_and, and_true, Nat.reduceAdd, Nat.reduceLeDiff]
    refine ⟨fun e => by omega, fun _ => ?_⟩
    have no : ∀ c : Nat, c ≤ E.2.1 → ∀ h8, Fr P56 hi h8 → drB V Y n q.2.2.2.2.2 q.2.1 m c = false → en_V G Y_X8_leastDry (d + 5) wN wN K 16 [.ref 38, .ref 16, .ref L, .ref y, .int (iI (m : Int)), .int (iI 0), .int (iI (c : Int))] [] h8 hl hr xc xs := fun c hc h8 F8 hf => by
      have hF := drB_mono hf E.2.1 hc
      rw [hF, if_neg (by decide)] at e9
      apply s_X8_leastDry_16
      simp (disch := omega) only [B_X8_leastDry_16, z0, z1, e0 h8 F8, en_ops, en_opc, iI_add, iI_mul, iI_sub, jL_add, jL_mul, iI_le, iI_lt, iI_eq, iI_eq0, iI_lt0, iI_0le, iI_le0, iI_0lt, jL_iI, iI_jL, lc_eq, lc_lt, lc_le, lc_ge, lc_gt, Nat.sub_zero, Nat.zero_le, true_and, and_true, Nat.reduceAdd, Nat.reduceLeDiff]
      refine ⟨fun _ => ⟨fun _ => ih (m + 1) (by omega) h8 _ _ F8 e9, fun e => (e (by first | trivial | rfl)).elim⟩, fun _ => ⟨fun _ => ⟨fun _ => ih (m + 1) (by omega) h8 _ _ F8 e9, fun e => (e (by first | trivial | rfl)).elim⟩, fun e => (e (by first | trivial | rfl)).elim⟩⟩
    suffices L2 : ∀ c : Nat, c ≤ E.2.1 → ∀ h8, Fr P56 hi h8 → drB V Y n q.2.2.2.2.2 q.2.1 m c = true → en_V G Y_X8_leastDry (d + 5) wN wN K 16 [.ref 38, .ref 16, .ref L, .ref y, .int (iI (m : Int)), .int (iI 1), .int (iI (c : Int))] [] h8 hl hr xc xs from L2 0 (by omega) h9 F9 rfl
    refine lp E.2.1 (fun h8 F8 hf => ?_) (fun c hc ih2 h8 F8 hf => ?_)
    · rw [hf, if_pos rfl] at e9
      rw [← e9] at H
      apply s_X8_leastDry_16
      simp (disch := omega) only [B_X8_leastDry_16, z0, z1, e0 h8 F8, en_ops, en_opc, iI_add, iI_mul, iI_sub, jL_add, jL_mul, iI_le, iI_lt, iI_eq, iI_eq0, iI_lt0, iI_0le, iI_le0, iI_0lt, jL_iI, iI_jL, lc_eq, lc_lt, lc_le, lc_ge, lc_gt, Nat.sub_zero, Nat.zero_le, true_and, and_true, Nat.reduceAdd, Nat.reduceLeDiff]
      exact ⟨fun _ => ⟨fun e => absurd e (by decide), fun _ => H h8 F8⟩, fun e => absurd (Int.le_refl _) e⟩
    · have cc := o3 c (by omega)
      have cc9 := hcr c (by omega)
      apply s_X8_leastDry_16
      simp (disch := omega) only [B_X8_leastDry_16, z0, z1, sh18, lt18, y2, t0, sh38, lt38, e0 h8 F8, en_ops, en_opc, iI_add, iI_mul, iI_sub, jL_add, jL_mul, iI_le, iI_lt, iI_eq, iI_eq0, iI_lt0, iI_0le, iI_le0, iI_0lt, jL_iI, iI_jL, lc_eq, lc_lt, lc_le, lc_ge, lc_gt, Nat.sub_zero, Nat.zero_le, true_and, and_true, Nat.reduceAdd, Nat.reduceLeDiff]
      refine ⟨fun e => by omega, fun _ => ⟨fun e => absurd e (by decide), fun _ => ⟨c, rfl, by omega, ?_⟩⟩⟩
      rw [ec h8 F8 c (by omega)]
      simp (disch := omega) only [en_ops, en_opc, iI_add, iI_mul, iI_sub, jL_add, jL_mul, iI_le, iI_lt, iI_eq, iI_eq0, iI_lt0, iI_0le, iI_le0, iI_0lt, jL_iI, iI_jL, lc_eq, lc_lt, lc_le, lc_ge, lc_gt, Nat.sub_zero, Nat.zero_le, true_and, and_true, Nat.reduceAdd, Nat.reduceLeDiff]
      refine ⟨⟨by decide, by decide⟩, ?_⟩
      refine t_oversIn (V := V) (Y := Y) (d := d) hS hL hLR (V9 h8 F8) hVr hb hy hyR (Y9 h8 F8) (e11 h8 F8) ⟨⟨by show 1 ≤ q.2.1 c + m; omega, by show q.2.1 c + m ≤ 1000; omega⟩, o4, o5⟩ (fun h7 F7 => ?_)
      have rr := oyN_r (V := V) (Y := Y) (n := n) (c := c) (top := q.2.1 c + m) o4 o5
      have er : (oyP V c Y n (0, q.2.1 c + m, q.2.2.2.2.2)).1 = oyN V Y n q.2.2.2.2.2 c (q.2.1 c + m) := rfl
      rw [er]
      simp (disch := omega) only [en_ops, en_opc, iI_add, iI_mul, iI_sub, jL_add, jL_mul, iI_le, iI_lt, iI_eq, iI_eq0, iI_lt0, iI_0le, iI_le0, iI_0lt, jL_iI, iI_jL, lc_eq, lc_lt, lc_le, lc_ge, lc_gt, Nat.sub_zero, Nat.zero_le, true_and, and_true, Nat.reduceAdd, Nat.reduceLeDiff]
      have sd : drB V Y n q.2.2.2.2.2 q.2.1 m (c + 1) = (drB V Y n q.2.2.2.2.2 q.2.1 m c && decide (oyN V Y n q.2.2.2.2.2 c (q.2.1 c + m) = 0)) := rfl
      rw [hf] at sd
      refine ⟨fun e => no (c + 1) (by omega) h7 (F8.tr F7) (by rw [sd]; simp [e]), fun e => ih2 h7 (F8.tr F7) (by rw [sd]; simp; omega)⟩
theorem t_behind2 {pl L y n : Nat} (hT : trR hr) (hS : seS pl L hr) (hE : eOK E) (hse : seH G pl L E hi) (hq : hsH 16 E q hi) (hO : hOK E q) (hy : isYe y) (hyR : yeR y hr) (hY : yeH y n Y hi)
    (H : ∀ hi', Fr Ptr hi hi' → hsH 39 E (yrP E Y n q) hi' → hOK E (yrP E Y n q) → seH G pl L E hi' → (∀ j, hi' 38 j = hi 38 j) → K (.inl (some (.ref 39))) hi' hl hr) :
    en_Call G (d + 7) xc xs Y_X8_behind wN wN [.ref 38, .ref 16, .ref L, .ref y] hi hl hr K := by
  obtain ⟨t0, t1, t2, t3, t4⟩ := id hT
  have ha : isSh 39 := Or.inr (Or.inl rfl)
  have hb : isSh 16 := Or.inl rfl
  apply en_X8_behind
  simp (disch := omega) only [B_X8_behind_0, t0, t1, en_ops, en_opc, iI_add, iI_mul, iI_sub, jL_add, jL_mul, iI_le, iI_lt, iI_eq, iI_eq0, iI_lt0, iI_0le, iI_le0, iI_0lt, jL_iI, iI_jL, lc_eq, lc_lt, lc_le, lc_ge, lc_gt, Nat.sub_zero, Nat.zero_le, true_and, and_true, Nat.reduceAdd, Nat.reduceLeDiff]
  refine ⟨⟨by decide, by decide⟩, ⟨by decide, by decide⟩, t_copy ha hb (by decide) t3 t4 (fun h9 C9 => ?_)⟩
  simp (disch := omega) only [t0, t1, en_ops, en_opc, iI_add, iI_mul, iI_sub, jL_add, jL_mul, iI_le, iI_lt, iI_eq, iI_eq0, iI_lt0, iI_0le, iI_le0, iI_0lt, jL_iI, iI_jL, lc_eq, lc_lt, lc_le, lc_ge, lc_gt, Nat.sub_zero, Nat.zero_le, true_and, and_true, Nat.reduceAdd, Nat.reduceLeDiff]
  have F9 : Fr Ptr hi h9 := C9.1.mono (fun x g => Psh39 g)
  refine ⟨⟨by decide, by decide⟩, ⟨by decide, by decide⟩, ⟨by decide, by decide⟩, ?_⟩
  refine t_tryYear (hi0 := hi) hT hS hE (hse.tr39 hS C9.1 (fun x g => by unfold Psh at g; omega)) (C9.hs ha hq) hO hy hyR hY F9 (fun h8 F8 Q8 O8 S8 E8 _ => ?_)
  simp (disch := omega) only [t1, en_ops, en_opc, iI_add, iI_mul, iI_sub, jL_add, jL_mul, iI_le, iI_lt, iI_eq, iI_eq0, iI_lt0, iI_0le, iI_le0, iI_0lt, jL_iI, iI_jL, lc_eq, lc_lt, lc_le, lc_ge, lc_gt, Nat.sub_zero, Nat.zero_le, true_and, and_true, Nat.reduceAdd, Nat.reduceLeDiff]
  exact ⟨⟨by decide, by decide⟩, H h8 F8 Q8 O8 S8 (fun j => by rw [E8, C9.1 38 (by unfold Psh; omega)])⟩
/-- which bringing is the best -/
def bgI (g : Nat → Nat → Int) (c : Nat) : Nat → Int × Int → Int × Int
  | 0, s => s
  | e + 1, s => if c ≠ e ∧ (bgI g c e s).2 < g c e then (100 * (c : Int) + e, g c e) else bgI g c e s
def bgO (g : Nat → Nat → Int) (nc : Nat) : Nat → Int × Int → Int × Int
  | 0, s => s
  | c + 1, s => bgI g c nc (bgO g nc c s)
def bgM (E : hEnv) (Y : hYr) (n : Nat) (m : Int) (q : hSt) (c e : Nat) : Int := prP (yrP E Y n ((haP E.2.1 E.2.2.1 c e m q.1 (E.2.2.1 * 3)).1, q.2.1, q.2.2.1, (fun i => q.2.2.2.1 i + if i = 4 then (haP E.2.1 E.2.2.1 c e m q.1 (E.2.2.1 * 3)).2.2 else 0), q.2.2.2.2)).1 E.2.1 E.2.2.1 1
theorem prP_r {f : Nat → Nat → Nat → Int} {nc nz : Nat} {o : Int} (h : nc ≤ 12) : 0 ≤ prP f nc nz o ∧ prP f nc nz o ≤ 144 := by
  have c1 : ∀ c a, 0 ≤ prC f nz o c a ∧ prC f nz o c a ≤ 1 := fun c a => by unfold prC; split <;> omega
  have := sumTo_bd (n := nc) (g := fun c => sumTo c (prC f nz o c)) (b := 12) (fun c hc => by
    have := sumTo_bd (n := c) (g := prC f nz o c) (b := 1) (fun i _ => c1 c i)
    omega)
  unfold prP
  omega
theorem bgI_r {g : Nat → Nat → Int} {lo h : Int} (hg : ∀ c e, lo ≤ g c e ∧ g c e ≤ h) {c : Nat} {s : Int × Int} (hs : lo ≤ s.2 ∧ s.2 ≤ h) : ∀ e, lo ≤ (bgI g c e s).2 ∧ (bgI g c e s).2 ≤ h := by
  intro e
  induction e with
  | zero => exact hs
  | succ e ih =>
    show lo ≤ (if c ≠ e ∧ (bgI g c e s).2 < g c e then (100 * (c : Int) + e, g c e) else bgI g c e s).2 ∧ (if c ≠ e ∧ (bgI g c e s).2 < g c e then (100 * (c : Int) + e, g c e) else bgI g c e s).2 ≤ h
    split
    · exact hg c e
    · exact ih
theorem t_bring {pl L y n : Nat} {m : Int} (hT : trR hr) (hS : seS pl L hr) (hE : eOK E) (hse : seH G pl L E hi) (hq : hsH 16 E q hi) (hO : hOK E q) (hy : isYe y) (hyR : yeR y hr) (hY : yeH y n Y hi) (hm : 1 ≤ m ∧ m ≤ 999)
    (H : ∀ hi', Fr Ptr hi hi' → seH G pl L E hi' → hi' 38 3 = iI (bgO (bgM E Y n m q) E.2.1 E.2.1 (-1, prP (yrP E Y n q).1 E.2.1 E.2.2.1 1)).1 → hi' 38 4 = iI (bgO (bgM E Y n m q) E.2.1 E.2.1 (-1, prP (yrP E Y n q).1 E.2.1 E.2.2.1 1)).2 → K (.inl none) hi' hl hr) :
    en_Call G (d + 8) xc xs Y_X8_bring wN wN [.ref 38, .ref 16, .ref L, .ref y, .int (iI m)] hi hl hr K := by
  obtain ⟨t0, t1, t2, t3, t4⟩ := id hT
  have ha : isSh 39 := Or.inr (Or.inl rfl)
  have hb : isSh 16 := Or.inl rfl
  obtain ⟨z0, z1, -⟩ := hb.sh
  obtain ⟨s0, s1, -⟩ := ha.sh
  have nc12 := hq.1.2.2.1
  have nz6 := hq.1.2.2.2.1
  have p38 : Ptr 38 := by unfold Ptr; omega
  have nP : ∀ x, 16 ≤ x → x ≤ 23 → ¬ Ptr x := fun x g1 g2 g => by unfold Ptr at g; omega
  have e0 : ∀ h9, Fr Ptr hi h9 → h9 16 0 = iI (E.2.1 : Int) := fun h9 F => by rw [F 16 (nP _ (by omega) (by omega))]; exact hq.1.1
  have upd1 : ∀ (h7 : en_I) (j : Nat) (u : Int), seH G pl L E h7 → seH G pl L E (en_up h7 38 j (iI u)) := fun h7 j u X7 => by
    have F0 : Fr (· = 38) h7 (en_up h7 38 j (iI u)) := Fr.up Fr.rf (by rfl)
    have e : ∀ x, x ≠ 38 → en_up h7 38 j (iI u) x = h7 x := fun x hx => F0 x hx
    have p14 := hS.2.2.1.sh.2.2.2.2.2.2.1
    obtain ⟨⟨z0, z1, z2⟩, ⟨v0, v1, v2⟩, x3, x4⟩ := X7
    exact ⟨⟨by rw [e pl (by omega)]; exact z0, z1, fun i hi9 => by rw [e (pl + 4) (by omega)]; exact z2 i hi9⟩, ⟨by rw [e pl (by omega)]; exact v0, v1, fun i hi9 => by rw [e (pl + 5) (by omega)]; exact v2 i hi9⟩, x3.mono hS.2.2.2.2.1 F0 (fun x g => by omega), fun c z k hc hz hk => by rw [e 37 (by omega)]; exact x4 c z k hc hz hk⟩
  generalize hs0 : ((-1 : Int), prP (yrP E Y n q).1 E.2.1 E.2.2.1 1) = st0 at H
  have r0 : 0 ≤ st0.2 ∧ st0.2 ≤ 144 := by rw [← hs0]; exact prP_r nc12
  have rg : ∀ c e, 0 ≤ bgM E Y n m q c e ∧ bgM E Y n m q c e ≤ 144 := fun c e => prP_r nc12
  have rO : ∀ c, 0 ≤ (bgO (bgM E Y n m q) E.2.1 c st0).2 ∧ (bgO (bgM E Y n m q) E.2.1 c st0).2 ≤ 144 := fun c => by
    induction c with
    | zero => exact r0
    | succ c ih => exact bgI_r rg ih E.2.1
  have L42 : ∀ c : Nat, c ≤ E.2.1 → ∀ h9 x6 x7, Fr Ptr hi h9 → seH G pl L E h9 → h9 38 3 = iI (bgO (bgM E Y n m q) E.2.1 c st0).1 → h9 38 4 = iI (bgO (bgM E Y n m q) E.2.1 c st0).2 → en_V G Y_X8_bring (d + 8) wN wN K 42 [.ref 38, .ref 16, .ref L, .ref y, .int (iI m), .int (iI (c : Int)), x6, x7] [] h9 hl hr xc xs := by
    refine lp E.2.1 (fun h9 x6 x7 F9 S9 B9 C9 => ?_) (fun c hc ih h9 x6 x7 F9 S9 B9 C9 => ?_)
    · apply s_X8_bring_42
      simp (disch := omega) only [B_X8_bring_42, z0, z1, e0 h9 F9, en_ops, en_opc, iI_add, iI_mul, iI_sub, jL_add, jL_mul, iI_le, iI_lt, iI_eq, iI_eq0, iI_lt0, iI_0le, iI_le0, iI_0lt, jL_iI, iI_jL, lc_eq, lc_lt, lc_le, lc_ge, lc_gt, Nat.sub_zero, Nat.zero_le, true_and, and_true, Nat.reduceAdd, Nat.reduceLeDiff]
      exact ⟨fun _ => H h9 F9 S9 B9 C9, fun e => absurd (Int.le_refl _) e⟩
    · apply s_X8_bring_42
      simp (disch := omega) only [B_X8_bring_42, z0, z1, e0 h9 F9, en_ops, en_opc, iI_add, iI_mul, iI_sub, jL_add, jL_mul, iI_le, iI_lt, iI_eq, iI_eq0, iI_lt0, iI_0le, iI_le0, iI_0lt, jL_iI, iI_jL, lc_eq, lc_lt, lc_le, lc_ge, lc_gt, Nat.sub_zero, Nat.zero_le, true_and, and_true, Nat.reduceAdd, Nat.reduceLeDiff]
      refine ⟨fun e => by omega, fun _ => ?_⟩
      have rc := rO c
      have st1 : bgO (bgM E Y n m q) E.2.1 (c + 1) st0 = bgI (bgM E Y n m q) c E.2.1 (bgO (bgM E Y n m q) E.2.1 c st0) := rfl
      rw [st1] at ih
      generalize bgO (bgM E Y n m q) E.2.1 c st0 = s at *
      suffices L54 : ∀ e : Nat, e ≤ E.2.1 → ∀ h9 x7, Fr Ptr hi h9 → seH G pl L E h9 → h9 38 3 = iI (bgI (bgM E Y n m q) c e s).1 → h9 38 4 = iI (bgI (bgM E Y n m q) c e s).2 → en_V G Y_X8_bring (d + 8) wN wN K 54 [.ref 38, .ref 16, .ref L, .ref y, .int (iI m), .int (iI (c : Int)), .int (iI (e : Int)), x7] [] h9 hl hr xc xs from L54 0 (by omega) h9 _ F9 S9 B9 C9
      refine lp E.2.1 (fun h9 x7 F9 S9 B9 C9 => ?_) (fun e he ih2 h9 x7 F9 S9 B9 C9 => ?_)
      · apply s_X8_bring_54
        simp (disch := omega) only [B_X8_bring_54, z0, z1, e0 h9 F9, en_ops, en_opc, iI_add, iI_mul, iI_sub, jL_add, jL_mul, iI_le, iI_lt, iI_eq, iI_eq0, iI_lt0, iI_0le, iI_le0, iI_0lt, jL_iI, iI_jL, lc_eq, lc_lt, lc_le, lc_ge, lc_gt, Nat.sub_zero, Nat.zero_le, true_and, and_true, Nat.reduceAdd, Nat.reduceLeDiff]
        exact ⟨fun _ => ih h9 _ _ F9 S9 B9 C9, fun e => absurd (Int.le_refl _) e⟩
      · have ri := bgI_r (c := c) rg rc e
        have Q9 := hq.frP F9 (fun x g1 g2 => nP x g1 (by omega))
        have st2 : bgI (bgM E Y n m q) c (e + 1) s = if c ≠ e ∧ (bgI (bgM E Y n m q) c e s).2 < bgM E Y n m q c e then (100 * (c : Int) + e, bgM E Y n m q c e) else bgI (bgM E Y n m q) c e s := rfl
        rw [st2] at ih2
        apply s_X8_bring_54
        simp (disch := omega) only [B_X8_bring_54, z0, z1, e0 h9 F9, t0, t1, sh38, lt38, en_ops, en_opc, iI_add, iI_mul, iI_sub, jL_add, jL_mul, iI_le, iI_lt, iI_eq, iI_eq0, iI_lt0, iI_0le, iI_le0, iI_0lt, jL_iI, iI_jL, lc_eq, lc_lt, lc_le, lc_ge, lc_gt, Nat.sub_zero, Nat.zero_le, true_and, and_true, Nat.reduceAdd, Nat.reduceLeDiff]
        refine ⟨fun g => by omega, fun _ => ⟨fun g => ?_, fun g => ⟨⟨by decide, by decide⟩, t_copy ha hb (by decide) t3 t4 (fun h8 C8 => ?_)⟩⟩⟩
        · rw [if_neg (fun g2 => g2.1 (by omega))] at ih2
          exact ih2 h9 _ F9 S9 B9 C9
        · have F8 : Fr Ptr hi h8 := F9.tr (C8.1.mono (fun x g => Psh39 g))
          have S8 := S9.tr39 hS C8.1 (fun x g => by unfold Psh at g; omega)
          have Q8 := C8.hs ha Q9
          obtain ⟨zB1, zB2, zB3, zB4⟩ := haP_B (n := m) (by omega) (show c ≠ e by omega) hc (Nat.le_of_lt he) nc12 nz6 hO.1 (E.2.2.1 * 3) (Nat.le_refl _)
          simp (disch := omega) only [t0, t1, sh38, lt38, en_ops, en_opc, iI_add, iI_mul, iI_sub, jL_add, jL_mul, iI_le, iI_lt, iI_eq, iI_eq0, iI_lt0, iI_0le, iI_le0, iI_0lt, jL_iI, iI_jL, lc_eq, lc_lt, lc_le, lc_ge, lc_gt, Nat.sub_zero, Nat.zero_le, true_and, and_true, Nat.reduceAdd, Nat.reduceLeDiff]
          refine ⟨⟨by decide, by decide⟩, t_haul (d := d + 5) ha t3 Q8.1 hO.1 Q8.2.2.2.2.1 (by omega) (by omega) (by omega) (by omega) hm.2 (fun h7 F7 S7 M7 => ?_)⟩
          have E7 : ∀ x, x ≠ 40 → x ≠ 46 → h7 x = h8 x := fun x g1 g2 => F7 x (fun g => by rcases g with g | g <;> omega)
          have F97 : Fr Ptr hi h7 := F8.tr (F7.mono (fun x g => by unfold Ptr; rcases g with g | g <;> omega))
          have X7 : seH G pl L E h7 := S8.tr39 hS F7 (fun x g => by rcases g with g | g <;> omega)
          have Q7 : hsH 39 E ((haP E.2.1 E.2.2.1 c e m q.1 (E.2.2.1 * 3)).1, q.2.1, q.2.2.1, (fun i => q.2.2.2.1 i + if i = 4 then (haP E.2.1 E.2.2.1 c e m q.1 (E.2.2.1 * 3)).2.2 else 0), q.2.2.2.2) h7 := by
            obtain ⟨-, y2, y3, y4, y5, y6, y7⟩ := Q8
            exact ⟨S7, fun c hc => by rw [E7 _ (by omega) (by omega)]; exact y2 c hc, fun c hc => by rw [E7 _ (by omega) (by omega)]; exact y3 c hc, fun c hc => by rw [E7 _ (by omega) (by omega)]; exact y4 c hc, M7, by rw [E7 _ (by omega) (by omega)]; exact y6, by rw [E7 _ (by omega) (by omega)]; exact y7⟩
          have O7 : hOK E ((haP E.2.1 E.2.2.1 c e m q.1 (E.2.2.1 * 3)).1, q.2.1, q.2.2.1, (fun i => q.2.2.2.1 i + if i = 4 then (haP E.2.1 E.2.2.1 c e m q.1 (E.2.2.1 * 3)).2.2 else 0), q.2.2.2.2) := ⟨zB1, Int.le_trans zB2 hO.2.1, hO.2.2⟩
          simp (disch := omega) only [t0, t1, sh38, lt38, en_ops, en_opc, iI_add, iI_mul, iI_sub, jL_add, jL_mul, iI_le, iI_lt, iI_eq, iI_eq0, iI_lt0, iI_0le, iI_le0, iI_0lt, jL_iI, iI_jL, lc_eq, lc_lt, lc_le, lc_ge, lc_gt, Nat.sub_zero, Nat.zero_le, true_and, and_true, Nat.reduceAdd, Nat.reduceLeDiff]
          refine ⟨⟨by decide, by decide⟩, ?_⟩
          refine t_tryYear (d := d + 1) (hi0 := hi) hT hS hE X7 Q7 O7 hy hyR hY F97 (fun h6 F6 Q6 O6 S6 E6 _ => ?_)
          simp (disch := omega) only [t1, sh38, lt38, s0, s1, en_ops, en_opc, iI_add, iI_mul, iI_sub, jL_add, jL_mul, iI_le, iI_lt, iI_eq, iI_eq0, iI_lt0, iI_0le, iI_le0, iI_0lt, jL_iI, iI_jL, lc_eq, lc_lt, lc_le, lc_ge, lc_gt, Nat.sub_zero, Nat.zero_le, true_and, and_true, Nat.reduceAdd, Nat.reduceLeDiff]
          refine t_pairs (d := d + 3) (Or.inr rfl) ha t3 Q6.1 O6.1 ?_
          have E69 : ∀ j, h6 38 j = h9 38 j := fun j => by rw [E6, E7 38 (by omega) (by omega), C8.1 38 (by unfold Psh; omega)]
          have eg : prP (yrP E Y n ((haP E.2.1 E.2.2.1 c e m q.1 (E.2.2.1 * 3)).1, q.2.1, q.2.2.1, (fun i => q.2.2.2.1 i + if i = 4 then (haP E.2.1 E.2.2.1 c e m q.1 (E.2.2.1 * 3)).2.2 else 0), q.2.2.2.2)).1 E.2.1 E.2.2.1 1 = bgM E Y n m q c e := rfl
          rw [eg]
          have gr := rg c e
          simp (disch := omega) only [sh38, lt38, en_ops, en_opc, iI_add, iI_mul, iI_sub, jL_add, jL_mul, iI_le, iI_lt, iI_eq, iI_eq0, iI_lt0, iI_0le, iI_le0, iI_0lt, jL_iI, iI_jL, lc_eq, lc_lt, lc_le, lc_ge, lc_gt, Nat.sub_zero, Nat.zero_le, true_and, and_true, Nat.reduceAdd, Nat.reduceLeDiff]
          rw [E69 4, C9]
          simp (disch := omega) only [sh38, lt38, en_ops, en_opc, iI_add, iI_mul, iI_sub, jL_add, jL_mul, iI_le, iI_lt, iI_eq, iI_eq0, iI_lt0, iI_0le, iI_le0, iI_0lt, jL_iI, iI_jL, lc_eq, lc_lt, lc_le, lc_ge, lc_gt, Nat.sub_zero, Nat.zero_le, true_and, and_true, Nat.reduceAdd, Nat.reduceLeDiff]
          refine ⟨fun g2 => ?_, fun g2 => ?_⟩
          · rw [if_neg (fun g3 => by omega)] at ih2
            exact ih2 h6 _ F6 S6 (by rw [E69]; exact B9) (by rw [E69]; exact C9)
          · rw [if_pos ⟨by omega, by omega⟩] at ih2
            refine ih2 _ _ (Fr.up (Fr.up F6 p38) p38) (upd1 _ _ _ (upd1 _ _ _ S6)) (by rw [up_ne (Or.inr (by omega)), up_at]) (by rw [up_at])
  apply en_X8_bring
  simp (disch := omega) only [B_X8_bring_0, t0, t1, sh38, lt38, en_ops, en_opc, iI_add, iI_mul, iI_sub, jL_add, jL_mul, iI_le, iI_lt, iI_eq, iI_eq0, iI_lt0, iI_0le, iI_le0, iI_0lt, jL_iI, iI_jL, lc_eq, lc_lt, lc_le, lc_ge, lc_gt, Nat.sub_zero, Nat.zero_le, true_and, and_true, Nat.reduceAdd, Nat.reduceLeDiff]
  refine ⟨⟨by decide, by decide⟩, t_copy ha hb (by decide) t3 t4 (fun h8 C8 => ?_)⟩
  have S1 : seH G pl L E (en_up hi 38 3 (iI (-1))) := upd1 hi 3 (-1) hse
  have Q1 := hq.frP (Fr.up Fr.rf (by rfl) : Fr (· = 38) hi (en_up hi 38 3 (iI (-1)))) (fun x g1 g2 => by omega)
  have F1 : Fr Ptr hi (en_up hi 38 3 (iI (-1))) := Fr.up Fr.rf p38
  have F8 : Fr Ptr hi h8 := F1.tr (C8.1.mono (fun x g => Psh39 g))
  have S8 := S1.tr39 hS C8.1 (fun x g => by unfold Psh at g; omega)
  have Q8 := C8.hs ha Q1
  simp (disch := omega) only [t0, t1, sh38, lt38, en_ops, en_opc, iI_add, iI_mul, iI_sub, jL_add, jL_mul, iI_le, iI_lt, iI_eq, iI_eq0, iI_lt0, iI_0le, iI_le0, iI_0lt, jL_iI, iI_jL, lc_eq, lc_lt, lc_le, lc_ge, lc_gt, Nat.sub_zero, Nat.zero_le, true_and, and_true, Nat.reduceAdd, Nat.reduceLeDiff]
  refine ⟨⟨by decide, by decide⟩, ?_⟩
  refine t_tryYear (d := d + 1) (hi0 := hi) hT hS hE S8 Q8 hO hy hyR hY F8 (fun h6 F6 Q6 O6 S6 E6 _ => ?_)
  simp (disch := omega) only [t1, sh38, lt38, s0, s1, en_ops, en_opc, iI_add, iI_mul, iI_sub, jL_add, jL_mul, iI_le, iI_lt, iI_eq, iI_eq0, iI_lt0, iI_0le, iI_le0, iI_0lt, jL_iI, iI_jL, lc_eq, lc_lt, lc_le, lc_ge, lc_gt, Nat.sub_zero, Nat.zero_le, true_and, and_true, Nat.reduceAdd, Nat.reduceLeDiff]
  refine t_pairs (d := d + 3) (Or.inr rfl) ha t3 Q6.1 O6.1 ?_
  simp (disch := omega) only [sh38, lt38, en_ops, en_opc, iI_add, iI_mul, iI_sub, jL_add, jL_mul, iI_le, iI_lt, iI_eq, iI_eq0, iI_lt0, iI_0le, iI_le0, iI_0lt, jL_iI, iI_jL, lc_eq, lc_lt, lc_le, lc_ge, lc_gt, Nat.sub_zero, Nat.zero_le, true_and, and_true, Nat.reduceAdd, Nat.reduceLeDiff]
  refine L42 0 (by omega) _ _ _ (Fr.up F6 p38) (upd1 _ _ _ S6) ?_ ?_
  · rw [up_ne (Or.inr (by omega)), E6, C8.1 38 (by unfold Psh; omega), up_at, ← hs0]; rfl
  · rw [up_at, ← hs0]; rfl
end
