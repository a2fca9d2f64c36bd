/-! a law's text whole: which rule says what -/
def rlE (w : Nat) : Nat := if w = 442053 then 0 else if w = 758834 then 1 else if w = 514226 then 2 else 3
abbrev lV3 : Type := Nat → Option lSem
def cnV (V : lV3) : Nat := (if (V 0).isSome = true then 1 else 0) + (if (V 1).isSome = true then 1 else 0) + (if (V 2).isSome = true then 1 else 0)
def pg0 (X : tTx) (q : Nat) : lRes := pgF X 7000 0 0 (fun _ => 0) q
def lwF (X : tTx) : Nat → Nat → lV3 → (Nat × Nat) ⊕ lV3
  | 0, _, _ => .inl (9, 0)
  | f + 1, q, V => if X.2 ≤ q then .inr V else if rlE (wdE X q) = 3 then .inl (1, q) else if (V (rlE (wdE X q))).isSome = true then .inl (4, q) else if sgE X (nxE X q) 61 then (match pg0 X (nxE X (nxE X q)) with
    | .inl e => .inl e
    | .inr y => if sgE X y.2 59 then lwF X f (nxE X y.2) (fun k => if k = rlE (wdE X q) then some y.1 else V k) else .inl (1, y.2)) else .inl (1, nxE X q)
theorem pg0_ok {X : tTx} {q : Nat} (h6 : X.2 ≤ 600) (hq : q ≤ X.2) (hs : skE X q = q) : pg0 X q ≠ oof := pg_ok 7000 0 0 _ q (by decide) hq hs (by show 10 * (X.2 - q) + 2 < 7000; omega)
theorem rlE_le (w : Nat) : rlE w ≤ 3 := by unfold rlE; (repeat' split) <;> omega
theorem rl_lt {X : tTx} {q : Nat} (h : ¬ rlE (wdE X q) = 3) : q < X.2 := by
  refine (wd_let (X := X) (q := q) (fun e => h ?_)).2.1
  rw [e]
  rfl
theorem cn_le (V : lV3) : cnV V ≤ 3 := by unfold cnV; (repeat' split) <;> omega
theorem cn_up {V : lV3} {w : Nat} {s : lSem} (hw : w < 3) (h : ¬ (V w).isSome = true) : cnV (fun k => if k = w then some s else V k) = cnV V + 1 := by
  generalize hV : (fun k => if k = w then some s else V k) = V'
  have e : ∀ k, k ≠ w → V' k = V k := fun k g => by rw [← hV]; exact if_neg g
  have e2 : V' w = some s := by rw [← hV]; exact if_pos rfl
  unfold cnV
  rcases (show w = 0 ∨ w = 1 ∨ w = 2 by omega) with rfl | rfl | rfl
  · rw [e 1 (by decide), e 2 (by decide), e2, if_neg h, if_pos (show (some s).isSome = true from rfl)]; omega
  · rw [e 0 (by decide), e 2 (by decide), e2, if_neg h, if_pos (show (some s).isSome = true from rfl)]; omega
  · rw [e 0 (by decide), e 1 (by decide), e2, if_neg h, if_pos (show (some s).isSome = true from rfl)]
/-- the class's rows of the rules -/
def ruH (L : Nat) (V : lV3) (len : Nat) (hi : en_I) : Prop := ∀ w, w < 3 → (V w = none → hi (L + 2) w = iI 0 ∧ hi (L + 3) w = iI 0) ∧ ∀ s, V w = some s → ∃ A B : Nat, A ≤ B ∧ B ≤ len ∧ hi (L + 2) w = iI (A : Int) ∧ hi (L + 3) w = iI (B : Int) ∧ ∀ F : Nat → Int32, (∀ j, A ≤ j → j < B → F j = hi (L + 1) j) → cseg F A B 39 s
def toH (V : lV3) (hi : en_I) : Prop := ∃ b : Nat, hi 29 3 = iI (b : Int) ∧ ∀ k, k < 3 → b.testBit k = (V k).isSome
def ruP (L : Nat) (a j : Nat) : Prop := (a = 26 ∧ 1 < j) ∨ (a = 29 ∧ (j = 2 ∨ j = 3)) ∨ (a = L ∧ j = 1) ∨ a = L + 1 ∨ a = L + 2 ∨ a = L + 3
section
variable {G : en_G} {d : Nat} {K : en_K} {X : tTx} {L o len q k pl : Nat} {V : lV3} {hi : en_I} {hl : en_L} {hr : en_F} {xc xs : Nat}
theorem ruH.fx {P : Nat → Nat → Prop} {hi' : en_I} {len2 : Nat} (h : ruH L V len hi) (F : Fx P hi hi') (h2 : ∀ j, ¬ P (L + 2) j) (h3 : ∀ j, ¬ P (L + 3) j) (h1 : ∀ j, j < len → ¬ P (L + 1) j) (l2 : len ≤ len2) : ruH L V len2 hi' := by
  intro w hw
  obtain ⟨a1, a2⟩ := h w hw
  refine ⟨fun e => ?_, fun s e => ?_⟩
  · rw [F (L + 2) w (h2 w), F (L + 3) w (h3 w)]; exact a1 e
  · obtain ⟨A, B, b1, b2, b3, b4, b5⟩ := a2 s e
    refine ⟨A, B, b1, by omega, by rw [F (L + 2) w (h2 w)]; exact b3, by rw [F (L + 3) w (h3 w)]; exact b4, fun G hG => b5 G (fun j j1 j2 => ?_)⟩
    rw [hG j j1 j2, F (L + 1) j (h1 j (by omega))]
theorem toH.fx {P : Nat → Nat → Prop} {hi' : en_I} (h : toH V hi) (F : Fx P hi hi') (h3 : ¬ P 29 3) : toH V hi' := by
  obtain ⟨b, h1, h2⟩ := h
  exact ⟨b, by rw [F 29 3 h3]; exact h1, h2⟩
theorem w_ruleTold (hR : lgR L hr) (h : lgS X L o len q hi) (H : K (.inl (some (.int (iI (if rlE (wdE X q) = 3 then -1 else (rlE (wdE X q) : Int)))))) hi hl hr) : en_Call G (d + 6) xc xs Y_X2_ruleTold wN wN [.ref 29] hi hl hr K := by
  have r0 := hR.1
  have e : rlE (wdE X q) = if wdE X q = 442053 then 0 else if wdE X q = 758834 then 1 else if wdE X q = 514226 then 2 else 3 := rfl
  rw [e] at H
  apply en_X2_ruleTold
  simp (disch := omega) only [B_X2_ruleTold_0, sh29, lt29, sh26, lt26, r0, en_ops, en_opc, iI_add, iI_mul, iI_sub, jL_add, jL_mul, iI_le, iI_lt, iI_eq, iI_eq0, iI_lt0, iI_0le, iI_le0, iI_0lt, jL_iI, iI_jL, lc_eq, lc_lt, lc_le, lc_ge, lc_gt, Nat.sub_zero, Nat.zero_le, true_and, and_true, Nat.reduceAdd, Nat.reduceLeDiff]
  refine w_isWord (j := 8) iw8 hR h (fun b hb => ?_)
  rw [pk8] at hb
  simp (disch := omega) only [sh29, lt29, sh26, lt26, r0, en_ops, en_opc, iI_add, iI_mul, iI_sub, jL_add, jL_mul, iI_le, iI_lt, iI_eq, iI_eq0, iI_lt0, iI_0le, iI_le0, iI_0lt, jL_iI, iI_jL, lc_eq, lc_lt, lc_le, lc_ge, lc_gt, Nat.sub_zero, Nat.zero_le, true_and, and_true, Nat.reduceAdd, Nat.reduceLeDiff]
  rcases hb with ⟨rfl, w⟩ | ⟨rfl, w⟩
  · rw [if_pos w, if_neg (by decide)] at H
    exact ⟨fun g => absurd g (by decide), fun _ => H⟩
  rw [if_neg w] at H
  refine ⟨fun _ => ?_, fun g => (g (by first | trivial | rfl)).elim⟩
  refine w_isWord (j := 9) iw9 hR h (fun b hb => ?_)
  rw [pk9] at hb
  simp (disch := omega) only [sh29, lt29, sh26, lt26, r0, en_ops, en_opc, iI_add, iI_mul, iI_sub, jL_add, jL_mul, iI_le, iI_lt, iI_eq, iI_eq0, iI_lt0, iI_0le, iI_le0, iI_0lt, jL_iI, iI_jL, lc_eq, lc_lt, lc_le, lc_ge, lc_gt, Nat.sub_zero, Nat.zero_le, true_and, and_true, Nat.reduceAdd, Nat.reduceLeDiff]
  rcases hb with ⟨rfl, w⟩ | ⟨rfl, w⟩
  · rw [if_pos w, if_neg (by decide)] at H
    exact ⟨fun g => absurd g (by decide), fun _ => H⟩
  rw [if_neg w] at H
  refine ⟨fun _ => ?_, fun g => (g (by first | trivial | rfl)).elim⟩
  refine w_isWord (j := 10) iw10 hR h (fun b hb => ?_)
  rw [pk10] at hb
  simp (disch := omega) only [sh29, lt29, sh26, lt26, r0, en_ops, en_opc, iI_add, iI_mul, iI_sub, jL_add, jL_mul, iI_le, iI_lt, iI_eq, iI_eq0, iI_lt0, iI_0le, iI_le0, iI_0lt, jL_iI, iI_jL, lc_eq, lc_lt, lc_le, lc_ge, lc_gt, Nat.sub_zero, Nat.zero_le, true_and, and_true, Nat.reduceAdd, Nat.reduceLeDiff]
  rcases hb with ⟨rfl, w⟩ | ⟨rfl, w⟩
  · rw [if_pos w, if_neg (by decide)] at H
    exact ⟨fun g => absurd g (by decide), fun _ => H⟩
  rw [if_neg w, if_pos rfl] at H
  exact ⟨fun _ => H, fun g => (g (by first | trivial | rfl)).elim⟩
/-- a rule's ends -/
def lrK (X : tTx) (L len q : Nat) (V : lV3) (hi : en_I) (hl : en_L) (hr : en_F) (K : en_K) : Prop :=
  (∀ s q1, pg0 X (nxE X (nxE X q)) = .inr (s, q1) → ¬ rlE (wdE X q) = 3 → ¬ (V (rlE (wdE X q))).isSome = true → sgE X (nxE X q) 61 → sgE X q1 59 → ∀ hi' len1, lgS X L 0 len1 (nxE X q1) hi' → Fx (ruP L) hi hi' → ruH L (fun k => if k = rlE (wdE X q) then some s else V k) len1 hi' → toH (fun k => if k = rlE (wdE X q) then some s else V k) hi' → K (.inl none) hi' hl hr) ∧
  ∀ e, (rlE (wdE X q) = 3 ∧ e = (1, q) ∨ ¬ rlE (wdE X q) = 3 ∧ ((V (rlE (wdE X q))).isSome = true ∧ e = (4, q) ∨ ¬ (V (rlE (wdE X q))).isSome = true ∧ (¬ sgE X (nxE X q) 61 ∧ e = (1, nxE X q) ∨ sgE X (nxE X q) 61 ∧ (pg0 X (nxE X (nxE X q)) = .inl e ∨ ∃ s q1, pg0 X (nxE X (nxE X q)) = .inr (s, q1) ∧ ¬ sgE X q1 59 ∧ e = (1, q1))))) → ∀ hi', lgB X L e.1 e.2 hi' → Fx (ruP L) hi hi' → K (.inl none) hi' hl hr
theorem ruP.lg {a j : Nat} (h : lgP L len a j) : ruP L a j := by
  unfold lgP at h
  unfold ruP
  omega
theorem Fx.ru {h1 h2 : en_I} (h : Fx (lgP L len) h1 h2) : Fx (ruP L) h1 h2 := h.mono (fun a j g => ruP.lg g)
theorem Fx.ru26 {h1 h2 : en_I} (h : Fx P26 h1 h2) : Fx (ruP L) h1 h2 := (h.p26 (L := L) (len := 0)).ru
theorem lgB.w {hi' : en_I} {x : Nat} (hL : isLw L) (hx : x = L + 2 ∨ x = L + 3) (h : lgB X L k pl hi) (F : Fx (fun a _ => a = x) hi hi') : lgB X L k pl hi' ∧ Fx (ruP L) hi hi' := by
  obtain ⟨a1, a2, m, a3, a4⟩ := h
  have b := hL.s6
  exact ⟨⟨a1.fx F (fun j g => by omega) (fun g => by omega), a2.fx F (fun j g => by omega), m, a3, by rw [F L 1 (by omega)]; exact a4⟩, F.mono (fun a j g => by unfold ruP; omega)⟩
theorem lgS.w {hi' : en_I} {x : Nat} (hL : isLw L) (hx : x = L + 2 ∨ x = L + 3) (h : lgS X L o len q hi) (F : Fx (fun a _ => a = x) hi hi') : lgS X L o len q hi' ∧ Fx (ruP L) hi hi' := by
  obtain ⟨a1, a2, a3, a4, a5⟩ := h
  have b := hL.s6
  exact ⟨⟨a1.fx F (fun j g => by omega) (fun g => by omega), a2.fx F (fun j g => by omega), by rw [F 29 2 (by omega)]; exact a3, by rw [F L 1 (by omega)]; exact a4, a5⟩, F.mono (fun a j g => by unfold ruP; omega)⟩
theorem c_rule (hR : lgR L hr) (h : lgS X L 0 len q hi) (hq : q < X.2) (hV : ruH L V len hi) (hT : toH V hi) (hK : lrK X L len q V hi hl hr K) : en_Call G (d + 60) xc xs Y_X2_readRule wN wN [.ref 29] hi hl hr K := by
  have r0 := hR.1
  have r1 := hR.2.1
  obtain ⟨x1, x2, x3⟩ := hR.2.2.2.1
  obtain ⟨s0, s1, s2, s3, s4, s5⟩ := hR.2.2.2.2.s6
  have q0 : L < 134 := by omega
  have q2 : L + 2 < 134 := by omega
  have q3 : L + 3 < 134 := by omega
  have rle := rlE_le (wdE X q)
  obtain ⟨b, b1, b2⟩ := id hT
  apply en_X2_readRule
  simp (disch := omega) only [B_X2_readRule_0, sh29, lt29, sh26, lt26, en_ops, en_opc, iI_add, iI_mul, iI_sub, jL_add, jL_mul, iI_le, iI_lt, iI_eq, iI_eq0, iI_lt0, iI_0le, iI_le0, iI_0lt, jL_iI, iI_jL, lc_eq, lc_lt, lc_le, lc_ge, lc_gt, Nat.sub_zero, Nat.zero_le, true_and, and_true, Nat.reduceAdd, Nat.reduceLeDiff]
  refine w_ruleTold (d := d + 53) hR h ?_
  by_cases g3 : rlE (wdE X q) = 3
  · rw [if_pos g3]
    simp (disch := omega) only [sh29, lt29, sh26, lt26, r0, en_ops, en_opc, iI_add, iI_mul, iI_sub, jL_add, jL_mul, iI_le, iI_lt, iI_eq, iI_eq0, iI_lt0, iI_0le, iI_le0, iI_0lt, jL_iI, iI_jL, lc_eq, lc_lt, lc_le, lc_ge, lc_gt, Nat.sub_zero, Nat.zero_le, true_and, and_true, Nat.reduceAdd, Nat.reduceLeDiff]
    refine ⟨fun g => (g (by first | trivial | rfl)).elim, fun _ => ?_⟩
    refine w_fail (d := d + 58) (k := 1) (by decide) hR h (fun h1 B1 F1 => ?_)
    simp (disch := omega) only [en_ops, en_opc, iI_add, iI_mul, iI_sub, jL_add, jL_mul, iI_le, iI_lt, iI_eq, iI_eq0, iI_lt0, iI_0le, iI_le0, iI_0lt, jL_iI, iI_jL, lc_eq, lc_lt, lc_le, lc_ge, lc_gt, Nat.sub_zero, Nat.zero_le, true_and, and_true, Nat.reduceAdd, Nat.reduceLeDiff]
    exact hK.2 (1, q) (Or.inl ⟨g3, rfl⟩) h1 B1 F1.ru26
  rw [if_neg g3]
  unfold lrK at hK
  generalize hw : rlE (wdE X q) = w at *
  have w3 : w < 3 := by omega
  have bw := b2 w w3
  simp (disch := omega) only [sh29, lt29, sh26, lt26, r0, b1, en_ops, en_opc, iI_add, iI_mul, iI_sub, jL_add, jL_mul, iI_le, iI_lt, iI_eq, iI_eq0, iI_lt0, iI_0le, iI_le0, iI_0lt, jL_iI, iI_jL, lc_eq, lc_lt, lc_le, lc_ge, lc_gt, Nat.sub_zero, Nat.zero_le, true_and, and_true, Nat.reduceAdd, Nat.reduceLeDiff]
  refine ⟨fun _ => ?_, fun g => absurd g (by omega)⟩
  by_cases told : (V w).isSome = true
  · rw [sh_1 (by omega) (by rw [bw]; exact told)]
    refine ⟨fun g => (g (by first | trivial | rfl)).elim, fun _ => ?_⟩
    refine w_fail (d := d + 58) (k := 4) (by decide) hR h (fun h1 B1 F1 => ?_)
    simp (disch := omega) only [en_ops, en_opc, iI_add, iI_mul, iI_sub, jL_add, jL_mul, iI_le, iI_lt, iI_eq, iI_eq0, iI_lt0, iI_0le, iI_le0, iI_0lt, jL_iI, iI_jL, lc_eq, lc_lt, lc_le, lc_ge, lc_gt, Nat.sub_zero, Nat.zero_le, true_and, and_true, Nat.reduceAdd, Nat.reduceLeDiff]
    exact hK.2 (4, q) (Or.inr ⟨g3, Or.inl ⟨told, rfl⟩⟩) h1 B1 F1.ru26
  rw [sh_0 (by omega) (by rw [bw]; exact Bool.eq_false_iff.mpr told)]
  refine ⟨fun _ => ?_, fun g => absurd g (by decide)⟩
  rw [shl_1 w (by omega), or_at]
  have F0 : Fx (fun a j => a = 29 ∧ j = 3) hi (en_up hi 29 3 (iI ((b ||| 2 ^ w : Nat) : Int))) := Fx.up Fx.rf ⟨rfl, rfl⟩
  obtain ⟨a1, a2, a3, a4, a5⟩ := id h
  have S0 : lgS X L 0 len q (en_up hi 29 3 (iI ((b ||| 2 ^ w : Nat) : Int))) := ⟨a1.fx F0 (fun j g => by omega) (fun g => by omega), a2.fx F0 (fun j g => by omega), by rw [F0 29 2 (by omega)]; exact a3, by rw [F0 L 1 (by omega)]; exact a4, a5⟩
  have F0' : Fx (ruP L) hi (en_up hi 29 3 (iI ((b ||| 2 ^ w : Nat) : Int))) := F0.mono (fun a j g => by unfold ruP; omega)
  have T0 : ∀ h9 : en_I, h9 29 3 = iI ((b ||| 2 ^ w : Nat) : Int) → ∀ s : lSem, toH (fun k => if k = w then some s else V k) h9 := by
    intro h9 e s
    refine ⟨b ||| 2 ^ w, e, fun k hk => ?_⟩
    rw [Nat.testBit_or, b2 k hk, Nat.testBit_two_pow]
    show _ = (if k = w then some s else V k).isSome
    by_cases kw : k = w
    · rw [if_pos kw, kw]; simp
    · rw [if_neg kw]; simp [Ne.symm kw]
  have n1 := nx_gt hq
  refine w_step (d := d + 57) hR S0 hq (fun h1 S1 F1 => ?_)
  simp (disch := omega) only [sh29, lt29, sh26, lt26, r0, en_ops, en_opc, iI_add, iI_mul, iI_sub, jL_add, jL_mul, iI_le, iI_lt, iI_eq, iI_eq0, iI_lt0, iI_0le, iI_le0, iI_0lt, jL_iI, iI_jL, lc_eq, lc_lt, lc_le, lc_ge, lc_gt, Nat.sub_zero, Nat.zero_le, true_and, and_true, Nat.reduceAdd, Nat.reduceLeDiff]
  have FF : ∀ {h9 : en_I}, Fx (lgP L len) h1 h9 → h9 29 3 = iI ((b ||| 2 ^ w : Nat) : Int) := by
    intro h9 F
    rw [F 29 3 (fun g => by unfold lgP at g; omega), F1 29 3 (fun g => by have := g.1; omega), up_at]
  refine w_needSign (d := d + 56) (c := 61) ⟨by decide, by decide⟩ (by decide) hR S1 (fun g h2 S2 F2 => ?_) (fun g h2 B2 F2 => ?_)
  · have n2 := nx_gt g.1
    have e2 := S2.2.2.2.1
    simp (disch := omega) only [sh29, lt29, sh26, lt26, r1, s0, s2, q0, q2, x2, e2, en_ops, en_opc, iI_add, iI_mul, iI_sub, jL_add, jL_mul, iI_le, iI_lt, iI_eq, iI_eq0, iI_lt0, iI_0le, iI_le0, iI_0lt, jL_iI, iI_jL, lc_eq, lc_lt, lc_le, lc_ge, lc_gt, Nat.sub_zero, Nat.zero_le, true_and, and_true, Nat.reduceAdd, Nat.reduceLeDiff]
    refine ⟨w, rfl, w3, ?_⟩
    have Fa : Fx (fun a _ => a = L + 2) h2 (en_up h2 (L + 2) w (iI (len : Int))) := Fx.up Fx.rf rfl
    obtain ⟨S3, F3⟩ := S2.w hR.2.2.2.2 (Or.inl rfl) Fa
    have pgok := pg0_ok S3.1.1.1 n2.2.1 n2.2.2
    refine (c_all G X L 7000).1 0 (fun _ => 0) (nxE X (nxE X q)) (d + 59) len _ _ _ hl hr _ hR S3 (by omega) (by omega) pgok ⟨fun s q1 er h4 len1 S4 F4 l1 l2 sg => ?_, fun e er h4 B4 F4 => ?_⟩
    · have pp := pg_pos _ _ _ _ _ _ _ n2.2.1 n2.2.2 er
      have e4 := S4.2.2.2.1
      simp (disch := omega) only [sh29, lt29, sh26, lt26, r0, r1, s0, s3, q0, q3, x3, e4, en_ops, en_opc, iI_add, iI_mul, iI_sub, jL_add, jL_mul, iI_le, iI_lt, iI_eq, iI_eq0, iI_lt0, iI_0le, iI_le0, iI_0lt, jL_iI, iI_jL, lc_eq, lc_lt, lc_le, lc_ge, lc_gt, Nat.sub_zero, Nat.zero_le, true_and, and_true, Nat.reduceAdd, Nat.reduceLeDiff]
      refine ⟨w, rfl, w3, ?_⟩
      have Fb : Fx (fun a _ => a = L + 3) h4 (en_up h4 (L + 3) w (iI (len1 : Int))) := Fx.up Fx.rf rfl
      obtain ⟨S5, F5⟩ := S4.w hR.2.2.2.2 (Or.inr rfl) Fb
      have FA : Fx (ruP L) hi (en_up h4 (L + 3) w (iI (len1 : Int))) := ((((F0'.tr F1.ru26).tr F2.ru26).tr F3).tr F4.ru).tr F5
      refine w_needSign (d := d + 56) (c := 59) ⟨by decide, by decide⟩ (by decide) hR S5 (fun g6 h6 S6 F6 => ?_) (fun g6 h6 B6 F6 => ?_)
      · simp (disch := omega) only [en_ops, en_opc, iI_add, iI_mul, iI_sub, jL_add, jL_mul, iI_le, iI_lt, iI_eq, iI_eq0, iI_lt0, iI_0le, iI_le0, iI_0lt, jL_iI, iI_jL, lc_eq, lc_lt, lc_le, lc_ge, lc_gt, Nat.sub_zero, Nat.zero_le, true_and, and_true, Nat.reduceAdd, Nat.reduceLeDiff]
        refine hK.1 s q1 er g3 told g g6 h6 len1 S6 (FA.tr F6.ru26) (fun w' hw' => ?_) (T0 h6 ?_ s)
        · have fr : ∀ x, x = L + 2 ∨ x = L + 3 → ∀ j, j ≠ w → h6 x j = hi x j := by
            intro x hx j hj
            rw [F6 x j (fun g => by have := g.1; omega)]
            by_cases e3 : x = L + 3
            · rw [e3, up_ne (Or.inr hj), F4 (L + 3) j (fun g => by unfold lgP at g; omega), Fa (L + 3) j (by omega), F2 (L + 3) j (fun g => by have := g.1; omega), F1 (L + 3) j (fun g => by have := g.1; omega), F0 (L + 3) j (by omega)]
            · rw [Fb x j (by omega), F4 x j (fun g => by unfold lgP at g; omega), show x = L + 2 by omega, up_ne (Or.inr hj), F2 (L + 2) j (fun g => by have := g.1; omega), F1 (L + 2) j (fun g => by have := g.1; omega), F0 (L + 2) j (by omega)]
          have fs : ∀ j, j < len → h6 (L + 1) j = hi (L + 1) j := by
            intro j hj
            rw [F6 (L + 1) j (fun g => by have := g.1; omega), Fb (L + 1) j (by omega), F4 (L + 1) j (fun g => by unfold lgP at g; omega), Fa (L + 1) j (by omega), F2 (L + 1) j (fun g => by have := g.1; omega), F1 (L + 1) j (fun g => by have := g.1; omega), F0 (L + 1) j (by omega)]
          show ((if w' = w then some s else V w') = none → _) ∧ ∀ s', (if w' = w then some s else V w') = some s' → _
          by_cases kw : w' = w
          · rw [if_pos kw]
            refine ⟨fun e => (by cases e), fun s' e => ?_⟩
            cases e
            refine ⟨len, len1, l1, Nat.le_refl _, ?_, ?_, fun F hF => sg F (fun j j1 j2 => ?_)⟩
            · rw [kw, F6 (L + 2) w (fun g => by have := g.1; omega), Fb (L + 2) w (by omega), F4 (L + 2) w (fun g => by unfold lgP at g; omega), up_at]
            · rw [kw, F6 (L + 3) w (fun g => by have := g.1; omega), up_at]
            · rw [hF j j1 j2, F6 (L + 1) j (fun g => by have := g.1; omega), Fb (L + 1) j (by omega)]
          · rw [if_neg kw]
            obtain ⟨v1, v2⟩ := hV w' hw'
            refine ⟨fun e => ?_, fun s' e => ?_⟩
            · rw [fr (L + 2) (Or.inl rfl) w' kw, fr (L + 3) (Or.inr rfl) w' kw]; exact v1 e
            · obtain ⟨A, B, c1, c2, c3, c4, c5⟩ := v2 s' e
              refine ⟨A, B, c1, by omega, by rw [fr (L + 2) (Or.inl rfl) w' kw]; exact c3, by rw [fr (L + 3) (Or.inr rfl) w' kw]; exact c4, fun F hF => c5 F (fun j j1 j2 => ?_)⟩
              rw [hF j j1 j2, fs j (by omega)]
        · rw [F6 29 3 (fun g => by have := g.1; omega), Fb 29 3 (by omega), F4 29 3 (fun g => by unfold lgP at g; omega), Fa 29 3 (by omega), F2 29 3 (fun g => by have := g.1; omega), F1 29 3 (fun g => by have := g.1; omega), up_at]
      · simp (disch := omega) only [en_ops, en_opc, iI_add, iI_mul, iI_sub, jL_add, jL_mul, iI_le, iI_lt, iI_eq, iI_eq0, iI_lt0, iI_0le, iI_le0, iI_0lt, jL_iI, iI_jL, lc_eq, lc_lt, lc_le, lc_ge, lc_gt, Nat.sub_zero, Nat.zero_le, true_and, and_true, Nat.reduceAdd, Nat.reduceLeDiff]
        exact hK.2 (1, q1) (Or.inr ⟨g3, Or.inr ⟨told, Or.inr ⟨g, Or.inr ⟨s, q1, er, g6, rfl⟩⟩⟩⟩) h6 B6 (FA.tr F6.ru26)
    · obtain ⟨b4, b5, m, b6, b7⟩ := id B4
      simp (disch := omega) only [sh29, lt29, sh26, lt26, r0, r1, s0, s3, q0, q3, x3, b7, en_ops, en_opc, iI_add, iI_mul, iI_sub, jL_add, jL_mul, iI_le, iI_lt, iI_eq, iI_eq0, iI_lt0, iI_0le, iI_le0, iI_0lt, jL_iI, iI_jL, lc_eq, lc_lt, lc_le, lc_ge, lc_gt, Nat.sub_zero, Nat.zero_le, true_and, and_true, Nat.reduceAdd, Nat.reduceLeDiff]
      refine ⟨w, rfl, w3, ?_⟩
      have Fb : Fx (fun a _ => a = L + 3) h4 (en_up h4 (L + 3) w (iI (m : Int))) := Fx.up Fx.rf rfl
      obtain ⟨B5, F5⟩ := B4.w hR.2.2.2.2 (Or.inr rfl) Fb
      refine f_needSign (d := d + 56) (c := 59) ⟨by decide, by decide⟩ (by decide) hR B5 (fun h6 B6 F6 => ?_)
      simp (disch := omega) only [en_ops, en_opc, iI_add, iI_mul, iI_sub, jL_add, jL_mul, iI_le, iI_lt, iI_eq, iI_eq0, iI_lt0, iI_0le, iI_le0, iI_0lt, jL_iI, iI_jL, lc_eq, lc_lt, lc_le, lc_ge, lc_gt, Nat.sub_zero, Nat.zero_le, true_and, and_true, Nat.reduceAdd, Nat.reduceLeDiff]
      exact hK.2 e (Or.inr ⟨g3, Or.inr ⟨told, Or.inr ⟨g, Or.inl er⟩⟩⟩) h6 B6 ((((((F0'.tr F1.ru26).tr F2.ru26).tr F3).tr F4.ru).tr F5).tr F6.ru26)
  · obtain ⟨b4, b5, m, b6, b7⟩ := id B2
    simp (disch := omega) only [sh29, lt29, sh26, lt26, r1, s0, s2, q0, q2, x2, b7, en_ops, en_opc, iI_add, iI_mul, iI_sub, jL_add, jL_mul, iI_le, iI_lt, iI_eq, iI_eq0, iI_lt0, iI_0le, iI_le0, iI_0lt, jL_iI, iI_jL, lc_eq, lc_lt, lc_le, lc_ge, lc_gt, Nat.sub_zero, Nat.zero_le, true_and, and_true, Nat.reduceAdd, Nat.reduceLeDiff]
    refine ⟨w, rfl, w3, ?_⟩
    have Fa : Fx (fun a _ => a = L + 2) h2 (en_up h2 (L + 2) w (iI (m : Int))) := Fx.up Fx.rf rfl
    obtain ⟨B3, F3⟩ := B2.w hR.2.2.2.2 (Or.inl rfl) Fa
    refine f_val (d := d + 50) hR B3 (fun h4 B4 F4 => ?_)
    obtain ⟨c4, c5, m2, c6, c7⟩ := id B4
    simp (disch := omega) only [sh29, lt29, sh26, lt26, r0, r1, s0, s3, q0, q3, x3, c7, en_ops, en_opc, iI_add, iI_mul, iI_sub, jL_add, jL_mul, iI_le, iI_lt, iI_eq, iI_eq0, iI_lt0, iI_0le, iI_le0, iI_0lt, jL_iI, iI_jL, lc_eq, lc_lt, lc_le, lc_ge, lc_gt, Nat.sub_zero, Nat.zero_le, true_and, and_true, Nat.reduceAdd, Nat.reduceLeDiff]
    refine ⟨w, rfl, w3, ?_⟩
    have Fb : Fx (fun a _ => a = L + 3) h4 (en_up h4 (L + 3) w (iI (m2 : Int))) := Fx.up Fx.rf rfl
    obtain ⟨B5, F5⟩ := B4.w hR.2.2.2.2 (Or.inr rfl) Fb
    refine f_needSign (d := d + 56) (c := 59) ⟨by decide, by decide⟩ (by decide) hR B5 (fun h6 B6 F6 => ?_)
    simp (disch := omega) only [en_ops, en_opc, iI_add, iI_mul, iI_sub, jL_add, jL_mul, iI_le, iI_lt, iI_eq, iI_eq0, iI_lt0, iI_0le, iI_le0, iI_0lt, jL_iI, iI_jL, lc_eq, lc_lt, lc_le, lc_ge, lc_gt, Nat.sub_zero, Nat.zero_le, true_and, and_true, Nat.reduceAdd, Nat.reduceLeDiff]
    exact hK.2 (1, nxE X q) (Or.inr ⟨g3, Or.inr ⟨told, Or.inl ⟨g, rfl⟩⟩⟩) h6 B6 ((((((F0'.tr F1.ru26).tr F2.ru26).tr F3).tr F4.ru).tr F5).tr F6.ru26)
/-- the whole text -/
def lrE (X : tTx) (L : Nat) (r : (Nat × Nat) ⊕ lV3) (hi : en_I) (hl : en_L) (hr : en_F) (K : en_K) : Prop :=
  (∀ V, r = .inr V → ∀ hi', hi' 26 8 = iI (-1) → Fx (ruP L) hi hi' → ruH L V 600 hi' → K (.inl (some (.int (iI 0)))) hi' hl hr) ∧
  ∀ k pl : Nat, r = .inl (k, pl) → ∀ hi', (1 ≤ k ∧ k ≤ 4 ∧ pl ≤ 600) → hi' 26 8 = iI (pl : Int) → Fx (ruP L) hi hi' → K (.inl (some (.int (iI (k : Int))))) hi' hl hr
theorem v_law34 {b1 b2 : Nat} {n9 : Int32} (hR : lgR L hr) : ∀ (f i : Nat) (q len : Nat) (V : lV3) (hi : en_I), i + f = 4 → cnV V = i → lgS X L 0 len q hi → ruH L V len hi → toH V hi → lrE X L (lwF X f q V) hi hl hr K → en_V G Y_X2_readLaw (d + 61) wN wN K 34 [.ref 29, .ref b1, .int n9, .ref b2, .int (iI (i : Int))] [] hi hl hr xc xs := by
  intro f
  induction f with
  | zero =>
    intro i q len V hi hf hc h hV hT hK
    have := cn_le V
    omega
  | succ f ih =>
    intro i q len V hi hf hc h hV hT hK
    have r0 := hR.1
    have bad : ∀ (e : Nat × Nat) (h9 : en_I) (i9 : Nat), i9 ≤ 4 → lgB X L e.1 e.2 h9 → Fx (ruP L) hi h9 → lwF X (f + 1) q V = .inl e → en_V G Y_X2_readLaw (d + 61) wN wN K 34 [.ref 29, .ref b1, .int n9, .ref b2, .int (iI (i9 : Int))] [] h9 hl hr xc xs := by
      intro e h9 i9 hi9 B9 F9 er
      obtain ⟨c1, c2, c3⟩ := id B9
      have bb := c2.1
      have e7 := c2.2.1
      have fin := hK.2 e.1 e.2 er h9 bb c2.2.2.1 F9
      apply s_X2_readLaw_34
      simp (disch := omega) only [B_X2_readLaw_34, sh29, lt29, sh26, lt26, r0, e7, en_ops, en_opc, iI_add, iI_mul, iI_sub, jL_add, jL_mul, iI_le, iI_lt, iI_eq, iI_eq0, iI_lt0, iI_0le, iI_le0, iI_0lt, jL_iI, iI_jL, lc_eq, lc_lt, lc_le, lc_ge, lc_gt, Nat.sub_zero, Nat.zero_le, true_and, and_true, Nat.reduceAdd, Nat.reduceLeDiff]
      refine ⟨fun _ => fin, fun _ => ?_⟩
      refine t_hasMore (X := X) (d := d + 59) (z := .inl e) c2 (fun b hb => ?_)
      simp (disch := omega) only [sh29, lt29, sh26, lt26, r0, e7, en_ops, en_opc, iI_add, iI_mul, iI_sub, jL_add, jL_mul, iI_le, iI_lt, iI_eq, iI_eq0, iI_lt0, iI_0le, iI_le0, iI_0lt, jL_iI, iI_jL, lc_eq, lc_lt, lc_le, lc_ge, lc_gt, Nat.sub_zero, Nat.zero_le, true_and, and_true, Nat.reduceAdd, Nat.reduceLeDiff]
      rcases hb with ⟨rfl, g⟩ | ⟨rfl, g⟩
      · exact absurd rfl g.2
      · exact ⟨fun _ => fin, fun g => (g (by first | trivial | rfl)).elim⟩
    have ef : lwF X (f + 1) q V = if X.2 ≤ q then .inr V else if rlE (wdE X q) = 3 then .inl (1, q) else if (V (rlE (wdE X q))).isSome = true then .inl (4, q) else if sgE X (nxE X q) 61 then (match pg0 X (nxE X (nxE X q)) with
    | .inl e => .inl e
    | .inr y => if sgE X y.2 59 then lwF X f (nxE X y.2) (fun k => if k = rlE (wdE X q) then some y.1 else V k) else .inl (1, y.2)) else .inl (1, nxE X q) := rfl
    have e7 := h.2.1.2.2.1
    apply s_X2_readLaw_34
    simp (disch := omega) only [B_X2_readLaw_34, sh29, lt29, sh26, lt26, r0, e7, en_ops, en_opc, iI_add, iI_mul, iI_sub, jL_add, jL_mul, iI_le, iI_lt, iI_eq, iI_eq0, iI_lt0, iI_0le, iI_le0, iI_0lt, jL_iI, iI_jL, lc_eq, lc_lt, lc_le, lc_ge, lc_gt, Nat.sub_zero, Nat.zero_le, true_and, and_true, Nat.reduceAdd, Nat.reduceLeDiff]
    have ci := cn_le V
    refine ⟨fun g => absurd g (by omega), fun _ => ?_⟩
    refine t_hasMore (X := X) (d := d + 59) (z := .inr q) h.2.1 (fun b hb => ?_)
    simp (disch := omega) only [sh29, lt29, sh26, lt26, r0, e7, en_ops, en_opc, iI_add, iI_mul, iI_sub, jL_add, jL_mul, iI_le, iI_lt, iI_eq, iI_eq0, iI_lt0, iI_0le, iI_le0, iI_0lt, jL_iI, iI_jL, lc_eq, lc_lt, lc_le, lc_ge, lc_gt, Nat.sub_zero, Nat.zero_le, true_and, and_true, Nat.reduceAdd, Nat.reduceLeDiff]
    have k3 := kd_le X q
    rcases hb with ⟨rfl, g⟩ | ⟨rfl, g⟩
    · have hq : q < X.2 := by
        have : kdE X q ≠ 0 := g.1
        rw [Ne, kd_0] at this
        omega
      rw [if_neg (by omega)] at ef
      refine ⟨fun g => absurd g (by decide), fun _ => ?_⟩
      refine c_rule (d := d) hR h hq hV hT ⟨fun s q1 er g3 told g g6 h6 len1 S6 F6 V6 T6 => ?_, fun e he h6 B6 F6 => ?_⟩
      · rw [if_neg g3, if_neg told, if_pos g, er] at ef
        have ef2 : lwF X (f + 1) q V = lwF X f (nxE X q1) (fun k => if k = rlE (wdE X q) then some s else V k) := by
          rw [ef]
          exact if_pos g6
        rw [ef2] at hK
        simp (disch := omega) only [en_ops, en_opc, iI_add, iI_mul, iI_sub, jL_add, jL_mul, iI_le, iI_lt, iI_eq, iI_eq0, iI_lt0, iI_0le, iI_le0, iI_0lt, jL_iI, iI_jL, lc_eq, lc_lt, lc_le, lc_ge, lc_gt, Nat.sub_zero, Nat.zero_le, true_and, and_true, Nat.reduceAdd, Nat.reduceLeDiff]
        have cu := cn_up (s := s) (show rlE (wdE X q) < 3 by have := rlE_le (wdE X q); omega) told
        exact ih (i + 1) (nxE X q1) len1 _ h6 (by omega) (by omega) S6 V6 T6 ⟨fun V' e hi' e8 F' R' => hK.1 V' e hi' e8 (F6.tr F') R', fun k pl e hi' bb e8 F' => hK.2 k pl e hi' bb e8 (F6.tr F')⟩
      · simp (disch := omega) only [en_ops, en_opc, iI_add, iI_mul, iI_sub, jL_add, jL_mul, iI_le, iI_lt, iI_eq, iI_eq0, iI_lt0, iI_0le, iI_le0, iI_0lt, jL_iI, iI_jL, lc_eq, lc_lt, lc_le, lc_ge, lc_gt, Nat.sub_zero, Nat.zero_le, true_and, and_true, Nat.reduceAdd, Nat.reduceLeDiff]
        refine bad e h6 (i + 1) (by omega) B6 F6 ?_
        rcases he with ⟨g3, rfl⟩ | ⟨g3, he⟩
        · rw [ef, if_pos g3]
        rw [if_neg g3] at ef
        rcases he with ⟨told, rfl⟩ | ⟨told, he⟩
        · rw [ef, if_pos told]
        rw [if_neg told] at ef
        rcases he with ⟨g, rfl⟩ | ⟨g, he⟩
        · rw [ef, if_neg g]
        rw [if_pos g] at ef
        rcases he with er | ⟨s, q1, er, g6, rfl⟩
        · rw [ef, er]
        · rw [ef, er]
          exact if_neg g6
    · have hq : X.2 ≤ q := by
        by_cases z : kdE X q = 0
        · exact kd_0.mp z
        · exact absurd ⟨z, show kdE X q ≠ 4 by omega⟩ g
      rw [if_pos hq] at ef
      refine ⟨fun _ => ?_, fun g => (g (by first | trivial | rfl)).elim⟩
      exact hK.1 V ef hi h.2.1.2.2.2.1 Fx.rf (hV.fx (P := fun _ _ => False) Fx.rf (fun _ g => g) (fun _ g => g) (fun _ _ g => g) (by have := h.2.2.2.2; have := h.2.1.1; have := h.1.1.1; omega))
end
