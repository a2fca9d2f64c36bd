section
variable {G : en_G} {d : Nat} {K : en_K} {a : Nat} {E : hEnv} {q : hSt} {hi : en_I} {hl : en_L} {hr : en_F} {xc xs : Nat} {Y : hYr}
def gtF (P : Nat → Bool) (g : Nat → Int) (s0 : Int) : Nat → Int × Int
  | 0 => (-1, s0)
  | i + 1 => if P i = true ∧ ((gtF P g s0 i).1 = -1 ∨ (gtF P g s0 i).2 < g i) then ((i : Int), g i) else gtF P g s0 i
theorem gtF_r {P : Nat → Bool} {g : Nat → Int} {s0 lo h : Int} (h0 : lo ≤ s0 ∧ s0 ≤ h) : ∀ n, (∀ i, i < n → P i = true → lo ≤ g i ∧ g i ≤ h) → (-1 ≤ (gtF P g s0 n).1 ∧ (gtF P g s0 n).1 < n) ∧ lo ≤ (gtF P g s0 n).2 ∧ (gtF P g s0 n).2 ≤ h := by
  intro n
  induction n with
  | zero => exact fun _ => ⟨⟨Int.le_refl _, by show (-1 : Int) < 0; omega⟩, h0⟩
  | succ n ih =>
    intro hg
    obtain ⟨⟨i1, i2⟩, i3⟩ := ih (fun i hi => hg i (by omega))
    have st : gtF P g s0 (n + 1) = if P n = true ∧ ((gtF P g s0 n).1 = -1 ∨ (gtF P g s0 n).2 < g n) then ((n : Int), g n) else gtF P g s0 n := rfl
    rw [st]
    split
    next c => exact ⟨⟨by show (-1 : Int) ≤ n; omega, by show (n : Int) < _; omega⟩, hg n (by omega) c.1⟩
    next => exact ⟨⟨i1, by omega⟩, i3⟩
/-- the stones of a cell behind a year with walls -/
def wbG (E : hEnv) (Y : hYr) (n : Nat) (p : Int) (c : Nat) (q : hSt) (b : Nat) : Int := wP (yrP (wlE E (bwP E.2.1 b p E.2.2.2.1)) Y n q).1 E.2.2.1 c
theorem t_wall {pl L y n k c : Nat} {p : Int} (hT : trR hr) (hS : seS pl L hr) (hE : eOK E) (hse : seH G pl L E hi) (hq : hsH 16 E q hi) (hO : hOK E q) (hy : isYe y) (hyR : yeR y hr) (hY : yeH y n Y hi) (hk : k ≤ 12) (hp : 0 ≤ p ∧ p ≤ 16) (hc : c < 12) (hnc : 1 ≤ E.2.1)
    (H : ∀ hi', Fr Ptr hi hi' → seH G pl L E hi' → hi' 38 3 = iI (gtF (pkB k) (wbG E Y n p c q) 0 (2 ^ (E.2.1 - 1))).1 → ((gtF (pkB k) (wbG E Y n p c q) 0 (2 ^ (E.2.1 - 1))).1 ≠ -1 → hi' 38 4 = iI (gtF (pkB k) (wbG E Y n p c q) 0 (2 ^ (E.2.1 - 1))).2) → K (.inl none) hi' hl hr) :
    en_Call G (d + 7) xc xs Y_X8_wall wN wN [.ref 38, .ref 16, .ref L, .ref y, .int (iI (k : Int)), .int (iI p), .int (iI (c : Int))] hi hl hr K := by
  obtain ⟨t0, t1, t2, t3, t4⟩ := id hT
  have ha : isSh 39 := Or.inr (Or.inl rfl)
  have hb : isSh 16 := Or.inl rfl
  obtain ⟨z0, z1, -⟩ := hb.sh
  obtain ⟨s0, s1, -⟩ := ha.sh
  have nc12 := hq.1.2.2.1
  have nz6 := hq.1.2.2.2.1
  have p38 : Ptr 38 := by unfold Ptr; omega
  have nP : ∀ x, 16 ≤ x → x ≤ 23 → ¬ Ptr x := fun x g1 g2 g => by unfold Ptr at g; omega
  have e0 : ∀ h9, Fr Ptr hi h9 → h9 16 0 = iI (E.2.1 : Int) := fun h9 F => by rw [F 16 (nP _ (by omega) (by omega))]; exact hq.1.1
  have ecc : ((E.2.1 : Int) - 1) = ((E.2.1 - 1 : Nat) : Int) := by omega
  have pw := pow12 (n := E.2.1 - 1) (by omega)
  have pw1 : 1 ≤ 2 ^ (E.2.1 - 1) := Nat.one_le_two_pow
  have upd : ∀ (h7 : en_I) (u v : Int), seH G pl L E h7 → seH G pl L E (en_up (en_up h7 38 3 (iI u)) 38 4 (iI v)) := fun h7 u v X7 => by
    have F0 : Fr (· = 38) h7 (en_up (en_up h7 38 3 (iI u)) 38 4 (iI v)) := Fr.up (Fr.up Fr.rf (by rfl)) (by rfl)
    have e : ∀ x, x ≠ 38 → en_up (en_up h7 38 3 (iI u)) 38 4 (iI v) x = h7 x := fun x hx => F0 x hx
    have p14 := hS.2.2.1.sh.2.2.2.2.2.2.1
    obtain ⟨⟨z0, z1, z2⟩, ⟨v0, v1, v2⟩, x3, x4⟩ := X7
    exact ⟨⟨by rw [e pl (by omega)]; exact z0, z1, fun i hi9 => by rw [e (pl + 4) (by omega)]; exact z2 i hi9⟩, ⟨by rw [e pl (by omega)]; exact v0, v1, fun i hi9 => by rw [e (pl + 5) (by omega)]; exact v2 i hi9⟩, x3.mono hS.2.2.2.2.1 F0 (fun x g => by omega), fun c z k hc hz hk => by rw [e 37 (by omega)]; exact x4 c z k hc hz hk⟩
  have upd3 : ∀ (h7 : en_I) (u : Int), seH G pl L E h7 → seH G pl L E (en_up h7 38 3 (iI u)) := fun h7 u X7 => by
    have F0 : Fr (· = 38) h7 (en_up h7 38 3 (iI u)) := Fr.up Fr.rf (by rfl)
    have e : ∀ x, x ≠ 38 → en_up h7 38 3 (iI u) x = h7 x := fun x hx => F0 x hx
    have p14 := hS.2.2.1.sh.2.2.2.2.2.2.1
    obtain ⟨⟨z0, z1, z2⟩, ⟨v0, v1, v2⟩, x3, x4⟩ := X7
    exact ⟨⟨by rw [e pl (by omega)]; exact z0, z1, fun i hi9 => by rw [e (pl + 4) (by omega)]; exact z2 i hi9⟩, ⟨by rw [e pl (by omega)]; exact v0, v1, fun i hi9 => by rw [e (pl + 5) (by omega)]; exact v2 i hi9⟩, x3.mono hS.2.2.2.2.1 F0 (fun x g => by omega), fun c z k hc hz hk => by rw [e 37 (by omega)]; exact x4 c z k hc hz hk⟩
  apply en_X8_wall
  simp (disch := omega) only [B_X8_wall_0, sh38, lt38, en_ops, en_opc, iI_add, iI_mul, iI_sub, jL_add, jL_mul, iI_le, iI_lt, iI_eq, iI_eq0, iI_lt0, iI_0le, iI_le0, iI_0lt, jL_iI, iI_jL, lc_eq, lc_lt, lc_le, lc_ge, lc_gt, Nat.sub_zero, Nat.zero_le, true_and, and_true, Nat.reduceAdd, Nat.reduceLeDiff]
  suffices L8 : ∀ i : Nat, i ≤ 2 ^ (E.2.1 - 1) → 1 ≤ i → ∀ h9 x8, Fr Ptr hi h9 → seH G pl L E h9 → (∀ j, j < i → 0 ≤ wbG E Y n p c q j ∨ pkB k j = false) → (∀ j, j < i → wbG E Y n p c q j ≤ 10000000 ∨ pkB k j = false) → h9 38 3 = iI (gtF (pkB k) (wbG E Y n p c q) 0 i).1 → ((gtF (pkB k) (wbG E Y n p c q) 0 i).1 ≠ -1 → h9 38 4 = iI (gtF (pkB k) (wbG E Y n p c q) 0 i).2) → en_V G Y_X8_wall (d + 7) wN wN K 8 [.ref 38, .ref 16, .ref L, .ref y, .int (iI (k : Int)), .int (iI p), .int (iI (c : Int)), .int (iI i), x8] [] h9 hl hr xc xs by
    have pk0 : pkB k 0 = false := rfl
    exact L8 1 (by omega) (by omega) _ _ (Fr.up Fr.rf p38) (upd3 hi (-1) hse) (fun j hj => Or.inr (by rw [show j = 0 by omega]; exact pk0)) (fun j hj => Or.inr (by rw [show j = 0 by omega]; exact pk0)) (by rw [up_at]; rfl) (fun e => absurd rfl e)
  refine lp (2 ^ (E.2.1 - 1)) (fun _ h9 x8 F9 S9 R9 T9 B9 C9 => ?_) (fun i hi9 ih h1 h9 x8 F9 S9 R9 T9 B9 C9 => ?_)
  · apply s_X8_wall_8
    simp (disch := omega) only [B_X8_wall_8, z0, z1, e0 h9 F9, ecc, shl_1 (E.2.1 - 1) (show E.2.1 - 1 < 31 by omega), en_ops, en_opc, iI_add, iI_mul, iI_sub, jL_add, jL_mul, iI_le, iI_lt, iI_eq, iI_eq0, iI_lt0, iI_0le, iI_le0, iI_0lt, jL_iI, iI_jL, lc_eq, lc_lt, lc_le, lc_ge, lc_gt, Nat.sub_zero, Nat.zero_le, true_and, and_true, Nat.reduceAdd, Nat.reduceLeDiff]
    exact ⟨fun _ => H h9 F9 S9 B9 C9, fun e => absurd (Int.le_refl _) e⟩
  · have bl := bc_le (b := i)
    obtain ⟨⟨ls1, ls2⟩, ls3, ls4⟩ := gtF_r (P := pkB k) (g := wbG E Y n p c q) (s0 := 0) (lo := 0) (h := 10000000) (by omega) i (fun j hj pj => by
      rcases R9 j hj with g1 | g1
      · rcases T9 j hj with g2 | g2
        · exact ⟨g1, g2⟩
        · rw [g2] at pj; cases pj
      · rw [g1] at pj; cases pj)
    have Q9 := hq.frP F9 (fun x g1 g2 => nP x g1 (by omega))
    apply s_X8_wall_8
    simp (disch := omega) only [B_X8_wall_8, z0, z1, e0 h9 F9, ecc, shl_1 (E.2.1 - 1) (show E.2.1 - 1 < 31 by omega), en_ops, en_opc, iI_add, iI_mul, iI_sub, jL_add, jL_mul, iI_le, iI_lt, iI_eq, iI_eq0, iI_lt0, iI_0le, iI_le0, iI_0lt, jL_iI, iI_jL, lc_eq, lc_lt, lc_le, lc_ge, lc_gt, Nat.sub_zero, Nat.zero_le, true_and, and_true, Nat.reduceAdd, Nat.reduceLeDiff]
    refine ⟨fun e => by omega, fun _ => t_bitCount (d := d + 5) (by omega) ?_⟩
    simp (disch := omega) only [t0, t1, sh38, lt38, en_ops, en_opc, iI_add, iI_mul, iI_sub, jL_add, jL_mul, iI_le, iI_lt, iI_eq, iI_eq0, iI_lt0, iI_0le, iI_le0, iI_0lt, jL_iI, iI_jL, lc_eq, lc_lt, lc_le, lc_ge, lc_gt, Nat.sub_zero, Nat.zero_le, true_and, and_true, Nat.reduceAdd, Nat.reduceLeDiff]
    refine ⟨fun e => ?_, fun e => ⟨⟨by decide, by decide⟩, t_copy ha hb (by decide) t3 t4 (fun h8 C8 => ?_)⟩⟩
    · have pk : pkB k i = false := by unfold pkB; simp; omega
      have st : gtF (pkB k) (wbG E Y n p c q) 0 (i + 1) = gtF (pkB k) (wbG E Y n p c q) 0 i := if_neg (fun g => by rw [pk] at g; exact absurd g.1 (by decide))
      rw [st] at ih
      refine ih (by omega) h9 x8 F9 S9 (fun j hj => ?_) (fun j hj => ?_) B9 C9
      · by_cases g : j = i
        · subst g; exact Or.inr pk
        · exact R9 j (by omega)
      · by_cases g : j = i
        · subst g; exact Or.inr pk
        · exact T9 j (by omega)
    · have pk : pkB k i = true := by unfold pkB; simp; omega
      have F8 : Fr Ptr hi h8 := F9.tr (C8.1.mono (fun x g => Psh39 g))
      simp (disch := omega) only [t0, t1, sh38, lt38, en_ops, en_opc, iI_add, iI_mul, iI_sub, jL_add, jL_mul, iI_le, iI_lt, iI_eq, iI_eq0, iI_lt0, iI_0le, iI_le0, iI_0lt, jL_iI, iI_jL, lc_eq, lc_lt, lc_le, lc_ge, lc_gt, Nat.sub_zero, Nat.zero_le, true_and, and_true, Nat.reduceAdd, Nat.reduceLeDiff]
      refine t_buildWalls (d := d + 5) hT (C8.hs ha Q9) (by omega) (fun h7 F7 Q7 => ?_)
      have F97 : Fr Ptr hi h7 := F8.tr (F7.mono (fun x e => by unfold Ptr; omega))
      have S7 : seH G pl L E h7 := (S9.tr39 hS C8.1 (fun x g => by unfold Psh at g; omega)).tr39 hS F7 (fun x g => by omega)
      simp (disch := omega) only [t0, t1, sh38, lt38, en_ops, en_opc, iI_add, iI_mul, iI_sub, jL_add, jL_mul, iI_le, iI_lt, iI_eq, iI_eq0, iI_lt0, iI_0le, iI_le0, iI_0lt, jL_iI, iI_jL, lc_eq, lc_lt, lc_le, lc_ge, lc_gt, Nat.sub_zero, Nat.zero_le, true_and, and_true, Nat.reduceAdd, Nat.reduceLeDiff]
      refine ⟨⟨by decide, by decide⟩, ?_⟩
      refine t_tryYear (E' := wlE E (bwP E.2.1 i p E.2.2.2.1)) (hi0 := hi) hT hS (hE.wl (bwP_r hp hE.2.1)) S7 Q7 hO hy hyR hY F97 (fun h6 F6 Q6 O6 S6 E6 _ => ?_)
      simp (disch := omega) only [t1, sh38, lt38, s0, s1, en_ops, en_opc, iI_add, iI_mul, iI_sub, jL_add, jL_mul, iI_le, iI_lt, iI_eq, iI_eq0, iI_lt0, iI_0le, iI_le0, iI_0lt, jL_iI, iI_jL, lc_eq, lc_lt, lc_le, lc_ge, lc_gt, Nat.sub_zero, Nat.zero_le, true_and, and_true, Nat.reduceAdd, Nat.reduceLeDiff]
      have B6 := O6.1
      refine t_allIn (d := d + 5) ha t3 Q6.1 B6 hc ?_
      have g0 : 0 ≤ wbG E Y n p c q i := wP_nn (m := E.2.2.1) B6 c
      have g1 : wbG E Y n p c q i ≤ 10000000 := wP_le B6 nz6 hc
      have eg : wP (yrP (wlE E (bwP E.2.1 i p E.2.2.2.1)) Y n q).1 (wlE E (bwP E.2.1 i p E.2.2.2.1)).2.2.1 c = wbG E Y n p c q i := rfl
      rw [eg]
      have R6 : ∀ j, j < i + 1 → 0 ≤ wbG E Y n p c q j ∨ pkB k j = false := fun j hj => by
        by_cases g : j = i
        · subst g; exact Or.inl g0
        · exact R9 j (by omega)
      have T6 : ∀ j, j < i + 1 → wbG E Y n p c q j ≤ 10000000 ∨ pkB k j = false := fun j hj => by
        by_cases g : j = i
        · subst g; exact Or.inl g1
        · exact T9 j (by omega)
      have E69 : ∀ j, h6 38 j = h9 38 j := fun j => by rw [E6, F7 38 (by decide), C8.1 38 (by unfold Psh; omega)]
      have S6' : seH G pl L E h6 := S6
      have yes : ((gtF (pkB k) (wbG E Y n p c q) 0 i).1 = -1 ∨ (gtF (pkB k) (wbG E Y n p c q) 0 i).2 < wbG E Y n p c q i) → en_V G Y_X8_wall (d + 7) wN wN K 8 [.ref 38, .ref 16, .ref L, .ref y, .int (iI (k : Int)), .int (iI p), .int (iI (c : Int)), .int (iI ((i : Int) + 1)), .int (iI (wbG E Y n p c q i))] [] (en_up (en_up h6 38 3 (iI (i : Int))) 38 4 (iI (wbG E Y n p c q i))) hl hr xc xs := fun g => by
        have st : gtF (pkB k) (wbG E Y n p c q) 0 (i + 1) = ((i : Int), wbG E Y n p c q i) := if_pos ⟨pk, g⟩
        rw [st] at ih
        exact ih (by omega) _ _ (Fr.up (Fr.up F6 p38) p38) (upd _ _ _ S6') R6 T6 (by rw [up_ne (Or.inr (by omega)), up_at]) (fun _ => by rw [up_at])
      simp (disch := omega) only [sh38, lt38, en_ops, en_opc, iI_add, iI_mul, iI_sub, jL_add, jL_mul, iI_le, iI_lt, iI_eq, iI_eq0, iI_lt0, iI_0le, iI_le0, iI_0lt, jL_iI, iI_jL, lc_eq, lc_lt, lc_le, lc_ge, lc_gt, Nat.sub_zero, Nat.zero_le, true_and, and_true, Nat.reduceAdd, Nat.reduceLeDiff]
      rw [E69 3, B9]
      simp (disch := omega) only [sh38, lt38, en_ops, en_opc, iI_add, iI_mul, iI_sub, jL_add, jL_mul, iI_le, iI_lt, iI_eq, iI_eq0, iI_lt0, iI_0le, iI_le0, iI_0lt, jL_iI, iI_jL, lc_eq, lc_lt, lc_le, lc_ge, lc_gt, Nat.sub_zero, Nat.zero_le, true_and, and_true, Nat.reduceAdd, Nat.reduceLeDiff]
      refine ⟨fun e2 => yes (Or.inl e2), fun e2 => ?_⟩
      rw [E69 4, C9 e2]
      simp (disch := omega) only [sh38, lt38, en_ops, en_opc, iI_add, iI_mul, iI_sub, jL_add, jL_mul, iI_le, iI_lt, iI_eq, iI_eq0, iI_lt0, iI_0le, iI_le0, iI_0lt, jL_iI, iI_jL, lc_eq, lc_lt, lc_le, lc_ge, lc_gt, Nat.sub_zero, Nat.zero_le, true_and, and_true, Nat.reduceAdd, Nat.reduceLeDiff]
      refine ⟨fun e3 => ?_, fun e3 => yes (Or.inr (by omega))⟩
      have st : gtF (pkB k) (wbG E Y n p c q) 0 (i + 1) = gtF (pkB k) (wbG E Y n p c q) 0 i := if_neg (fun g => by rcases g.2 with g | g <;> omega)
      rw [st] at ih
      exact ih (by omega) h6 _ F6 S6' R6 T6 (by rw [E69]; exact B9) (fun e => by rw [E69]; exact C9 e)
end
