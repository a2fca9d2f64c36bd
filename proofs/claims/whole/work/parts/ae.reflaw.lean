/-! the reference's law, whole -/
def ruR (l : Nat) (V : lV3) (len : Nat) (hi : en_I) : Prop := ∀ w, w < 3 → (V w = none → hi 121 (3 * l + w) = iI 0 ∧ hi 122 (3 * l + w) = iI 0) ∧ ∀ s, V w = some s → ∃ A B : Nat, A < B ∧ B ≤ len ∧ hi 121 (3 * l + w) = iI ((620 * l + A : Nat) : Int) ∧ hi 122 (3 * l + w) = iI ((620 * l + B : Nat) : Int) ∧ ∀ F U : Nat → Int32, (∀ j, 620 * l + A ≤ j → j < 620 * l + B → F j = hi 119 j ∧ U j = hi 120 j) → rseg F U (620 * l + A) (620 * l + B) 39 s
def ruQ (l : Nat) (a j : Nat) : Prop := (a = 110 ∧ (j = 4 ∨ j = 5 ∨ j = 6 ∨ j = 7 ∨ j = 19)) ∨ ((a = 119 ∨ a = 120) ∧ 620 * l ≤ j ∧ j < 620 * l + 620) ∨ ((a = 121 ∨ a = 122) ∧ 3 * l ≤ j ∧ j < 3 * l + 3)
theorem sh121 : en_SH 121 = (100, 12) := by decide
theorem sh122 : en_SH 122 = (100, 12) := by decide
theorem lt121 : 121 < 134 := by decide
theorem lt122 : 122 < 134 := by decide
/-- the end of the loop: what the text says, or its fault -/
def rwE0 (X : tTx) (l : Nat) (r : (Nat × Nat) ⊕ lV3) (hi : en_I) (P : en_I → Prop) : Prop :=
  (∀ V, r = .inr V → ∀ hi', hi' 110 5 = iI (-1) → hi' 110 17 = iI (l : Int) → Fx (ruQ l) hi hi' → ruR l V 600 hi' → P hi') ∧
  ∀ k pl : Nat, r = .inl (k, pl) → ∀ hi', rtF k pl hi' → hi' 110 17 = iI (l : Int) → Fx (ruQ l) hi hi' → P hi'
section
variable {G : en_G} {d : Nat} {K : en_K} {X : tTx} {l o len q k pl : Nat} {V : lV3} {hi : en_I} {hl : en_L} {hr : en_F} {xc xs : Nat}
theorem ruQ.rg {a j : Nat} (h : rgP l len a j) : ruQ l a j := by
  unfold rgP at h
  unfold ruQ
  omega
theorem Fx.rq {h1 h2 : en_I} (h : Fx (rgP l len) h1 h2) : Fx (ruQ l) h1 h2 := h.mono (fun a j g => ruQ.rg g)
theorem Fx.rqp {h1 h2 : en_I} (h : Fx Prd h1 h2) : Fx (ruQ l) h1 h2 := (h.prd (l := l) (len := 0)).rq
theorem rgS.w {hi' : en_I} (h : rgS X l o len q hi) (F : Fx (fun a j => (a = 121 ∨ a = 122) ∧ 3 * l ≤ j ∧ j < 3 * l + 3) hi hi') : rgS X l o len q hi' ∧ Fx (ruQ l) hi hi' := by
  obtain ⟨a1, a2, a3, a4, ⟨a5, a6⟩, a7⟩ := h
  exact ⟨⟨a1.fx F (fun j g => by omega) (fun g => by omega), rtX.fx (X := X) (z := .inr q) a2 F (by omega) (by omega) (by omega), by rw [F 110 7 (by omega)]; exact a3, by rw [F 110 19 (by omega)]; exact a4, ⟨by rw [F 110 17 (by omega)]; exact a5, a6⟩, a7⟩, F.mono (fun a j g => by unfold ruQ; omega)⟩
theorem rgB.w {hi' : en_I} (h : rgB X l k pl hi) (F : Fx (fun a j => (a = 121 ∨ a = 122) ∧ 3 * l ≤ j ∧ j < 3 * l + 3) hi hi') : rgB X l k pl hi' ∧ Fx (ruQ l) hi hi' := by
  obtain ⟨b1, b2, b3, b4, m, b5, b6⟩ := h
  exact ⟨⟨b1.fx F (fun j g => by omega) (fun g => by omega), rtX.fx (X := X) (z := .inl (k, pl)) b2 F (by omega) (by omega) (by omega), by rw [F 110 17 (by omega)]; exact b3, b4, m, b5, by rw [F 110 19 (by omega)]; exact b6⟩, F.mono (fun a j g => by unfold ruQ; omega)⟩
theorem v_law94 {n9 : Int32} (hR : rfR hr) : ∀ (f i : Nat) (q len : Nat) (V : lV3) (hi : en_I) (x2 x3 : Value), i + f = 4 → cnV V = i → rgS X l 0 len q hi → ruR l V len hi → rwE0 X l (lwF X f q V) hi (fun h => ∀ y2 y3, en_V G Y_X11_law (d + 61) wN wN K 284 [.ref 110, .int n9, y2, y3] [] h hl hr xc xs) → en_V G Y_X11_law (d + 61) wN wN K 94 [.ref 110, .int n9, x2, x3] [] hi hl hr xc xs := by
  intro f
  induction f with
  | zero =>
    intro i q len V hi x2 x3 hf hc h hV hK
    have := cn_le V
    omega
  | succ f ih =>
    intro i q len V hi x2 x3 hf hc h hV hK
    obtain ⟨-, ⟨r20, r21, r22, r23, -⟩, -⟩ := id hR
    have ef : lwF X (f + 1) q V = if X.2 ≤ q then .inr V else if rlE (wdE X q) = 3 then .inl (1, q) else if (V (rlE (wdE X q))).isSome = true then .inl (4, q) else if sgE X (nxE X q) 61 then (match pg0 X (nxE X (nxE X q)) with
    | .inl e => .inl e
    | .inr y => if sgE X y.2 59 then lwF X f (nxE X y.2) (fun k => if k = rlE (wdE X q) then some y.1 else V k) else .inl (1, y.2)) else .inl (1, nxE X q) := rfl
    have bad : ∀ (e : Nat × Nat) (h9 : en_I) (y2 y3 : Value), rgB X l e.1 e.2 h9 → Fx (ruQ l) hi h9 → lwF X (f + 1) q V = .inl e → en_V G Y_X11_law (d + 61) wN wN K 94 [.ref 110, .int n9, y2, y3] [] h9 hl hr xc xs := by
      intro e h9 y2 y3 B9 F9 er
      apply s_X11_law_94
      simp (disch := omega) only [B_X11_law_94, sh110, lt110, en_ops, en_opc, iI_add, iI_mul, iI_sub, jL_add, jL_mul, iI_le, iI_lt, iI_eq, iI_eq0, iI_lt0, iI_0le, iI_le0, iI_0lt, jL_iI, iI_jL, lc_eq, lc_lt, lc_le, lc_ge, lc_gt, Nat.sub_zero, Nat.zero_le, true_and, and_true, Nat.reduceAdd, Nat.reduceLeDiff]
      refine f_fine (d := d + 59) B9 ?_
      simp (disch := omega) only [en_ops, en_opc, iI_add, iI_mul, iI_sub, jL_add, jL_mul, iI_le, iI_lt, iI_eq, iI_eq0, iI_lt0, iI_0le, iI_le0, iI_0lt, jL_iI, iI_jL, lc_eq, lc_lt, lc_le, lc_ge, lc_gt, Nat.sub_zero, Nat.zero_le, true_and, and_true, Nat.reduceAdd, Nat.reduceLeDiff]
      exact ⟨fun _ => hK.2 e.1 e.2 er h9 B9.2.1 B9.2.2.1 F9 _ _, fun g => (g (by first | trivial | rfl)).elim⟩
    have wl := wd_lt X q
    have l4 := h.2.2.2.2.1.2
    apply s_X11_law_94
    simp (disch := omega) only [B_X11_law_94, sh110, lt110, en_ops, en_opc, iI_add, iI_mul, iI_sub, jL_add, jL_mul, iI_le, iI_lt, iI_eq, iI_eq0, iI_lt0, iI_0le, iI_le0, iI_0lt, jL_iI, iI_jL, lc_eq, lc_lt, lc_le, lc_ge, lc_gt, Nat.sub_zero, Nat.zero_le, true_and, and_true, Nat.reduceAdd, Nat.reduceLeDiff]
    refine r_fine (d := d + 59) h ?_
    simp (disch := omega) only [sh110, lt110, en_ops, en_opc, iI_add, iI_mul, iI_sub, jL_add, jL_mul, iI_le, iI_lt, iI_eq, iI_eq0, iI_lt0, iI_0le, iI_le0, iI_0lt, jL_iI, iI_jL, lc_eq, lc_lt, lc_le, lc_ge, lc_gt, Nat.sub_zero, Nat.zero_le, true_and, and_true, Nat.reduceAdd, Nat.reduceLeDiff]
    refine ⟨fun g => absurd g (by decide), fun _ => ?_⟩
    refine m_isMore (d := d + 58) hR h.1 h.2.1 (fun h1 b F1 X1 Q1 hb => ?_)
    have S1 : rgS X l 0 len q h1 := h.to F1.p4 X1 Q1.A (Nat.le_refl _)
    simp (disch := omega) only [sh110, lt110, en_ops, en_opc, iI_add, iI_mul, iI_sub, jL_add, jL_mul, iI_le, iI_lt, iI_eq, iI_eq0, iI_lt0, iI_0le, iI_le0, iI_0lt, jL_iI, iI_jL, lc_eq, lc_lt, lc_le, lc_ge, lc_gt, Nat.sub_zero, Nat.zero_le, true_and, and_true, Nat.reduceAdd, Nat.reduceLeDiff]
    rcases hb with ⟨rfl, hq⟩ | ⟨rfl, hq⟩
    rotate_left
    · rw [if_pos (by omega)] at ef
      refine ⟨fun _ => ?_, fun g => (g (by first | trivial | rfl)).elim⟩
      refine hK.1 V ef h1 Q1.1 S1.2.2.2.2.1.1 F1.p4.rqp (fun w hw => ?_) _ _
      obtain ⟨v1, v2⟩ := hV w hw
      have fr : ∀ x j, 119 ≤ x → h1 x j = hi x j := fun x j g => F1 x j (fun g => by have := g.1; omega)
      refine ⟨fun e => by rw [fr 121 _ (by decide), fr 122 _ (by decide)]; exact v1 e, fun s e => ?_⟩
      obtain ⟨A, B, c1, c2, c3, c4, c5⟩ := v2 s e
      have n1 := h.2.1.n.1
      have n2 := h.1.1
      have n3 := h.2.2.2.2.2
      refine ⟨A, B, c1, by omega, by rw [fr 121 _ (by decide)]; exact c3, by rw [fr 122 _ (by decide)]; exact c4, fun F U hF => c5 F U (fun j j1 j2 => ?_)⟩
      rw [← fr 119 j (by decide), ← fr 120 j (by decide)]
      exact hF j j1 j2
    rw [if_neg (by omega)] at ef
    refine ⟨fun g => absurd g (by decide), fun _ => ?_⟩
    refine r_word (d := d + 58) hR S1 (fun h2 S2 Q2 F2 => ?_)
    simp (disch := omega) only [sh110, lt110, en_ops, en_opc, iI_add, iI_mul, iI_sub, jL_add, jL_mul, iI_le, iI_lt, iI_eq, iI_eq0, iI_lt0, iI_0le, iI_le0, iI_0lt, jL_iI, iI_jL, lc_eq, lc_lt, lc_le, lc_ge, lc_gt, Nat.sub_zero, Nat.zero_le, true_and, and_true, Nat.reduceAdd, Nat.reduceLeDiff]
    have F12 : Fx Prd hi h2 := F1.p4.tr F2
    have rle := rlE_le (wdE X q)
    have q4 := Q2.2.2.2
    have a17 := S2.2.2.2.2.1.1
    have a19 := S2.2.2.2.1
    have go : ∀ kk : Int, kk = (if rlE (wdE X q) = 3 then -1 else (rlE (wdE X q) : Int)) → en_V G Y_X11_law (d + 61) wN wN K 156 [.ref 110, .int n9, .int (iI (wdE X q : Int)), x3] [.int (iI kk)] h2 hl hr xc xs := by
      intro kk hkk
      -- behind the tests
      have g199b : ∀ (e : Nat × Nat) (h9 : en_I) (y2 y3 : Value), rgB X l e.1 e.2 h9 → Fx (ruQ l) hi h9 → lwF X (f + 1) q V = .inl e → en_V G Y_X11_law (d + 61) wN wN K 199 [.ref 110, .int n9, y2, y3] [] h9 hl hr xc xs := by
        intro e h9 y2 y3 B9 F9 er
        apply s_X11_law_199
        simp (disch := omega) only [B_X11_law_199, sh110, lt110, en_ops, en_opc, iI_add, iI_mul, iI_sub, jL_add, jL_mul, iI_le, iI_lt, iI_eq, iI_eq0, iI_lt0, iI_0le, iI_le0, iI_0lt, jL_iI, iI_jL, lc_eq, lc_lt, lc_le, lc_ge, lc_gt, Nat.sub_zero, Nat.zero_le, true_and, and_true, Nat.reduceAdd, Nat.reduceLeDiff]
        refine f_fine (d := d + 59) B9 ?_
        simp (disch := omega) only [en_ops, en_opc, iI_add, iI_mul, iI_sub, jL_add, jL_mul, iI_le, iI_lt, iI_eq, iI_eq0, iI_lt0, iI_0le, iI_le0, iI_0lt, jL_iI, iI_jL, lc_eq, lc_lt, lc_le, lc_ge, lc_gt, Nat.sub_zero, Nat.zero_le, true_and, and_true, Nat.reduceAdd, Nat.reduceLeDiff]
        exact ⟨fun g => (g (by first | trivial | rfl)).elim, fun _ => hK.2 e.1 e.2 er h9 B9.2.1 B9.2.2.1 F9 _ _⟩
      apply s_X11_law_156
      simp (disch := omega) only [B_X11_law_156, sh110, lt110, sh122, lt122, q4, r23, a17, en_ops, en_opc, iI_add, iI_mul, iI_sub, jL_add, jL_mul, iI_le, iI_lt, iI_eq, iI_eq0, iI_lt0, iI_0le, iI_le0, iI_0lt, jL_iI, iI_jL, lc_eq, lc_lt, lc_le, lc_ge, lc_gt, Nat.sub_zero, Nat.zero_le, true_and, and_true, Nat.reduceAdd, Nat.reduceLeDiff]
      by_cases g3 : rlE (wdE X q) = 3
      · rw [if_pos g3] at hkk
        subst hkk
        refine ⟨fun g => (g (by first | trivial | rfl)).elim, fun _ => ?_⟩
        refine r_wrong (d := d + 59) (k := 1) (by decide) S2 (fun h3 B3 F3 => ?_)
        simp (disch := omega) only [en_ops, en_opc, iI_add, iI_mul, iI_sub, jL_add, jL_mul, iI_le, iI_lt, iI_eq, iI_eq0, iI_lt0, iI_0le, iI_le0, iI_0lt, jL_iI, iI_jL, lc_eq, lc_lt, lc_le, lc_ge, lc_gt, Nat.sub_zero, Nat.zero_le, true_and, and_true, Nat.reduceAdd, Nat.reduceLeDiff]
        exact g199b (1, q) h3 _ _ B3 (F12.rqp.tr F3.rqp) (by rw [ef, if_pos g3])
      rw [if_neg g3] at hkk ef
      generalize hw : rlE (wdE X q) = w at *
      subst hkk
      have w3 : w < 3 := by omega
      obtain ⟨v1, v2⟩ := hV w w3
      have e122 : h2 122 (3 * l + w) = hi 122 (3 * l + w) := F12 122 _ (fun g => by have := g.1; omega)
      refine ⟨fun _ => ⟨3 * l + w, iI_eq_of (by omega), by omega, ?_⟩, fun g => absurd g (by omega)⟩
      rw [e122]
      by_cases told : (V w).isSome = true
      · obtain ⟨s, hs⟩ := Option.isSome_iff_exists.mp told
        obtain ⟨A, B, c1, c2, c3, c4, -⟩ := v2 s hs
        rw [c4]
        have n1 := h.2.1.n.1
        have n2 := h.1.1
        have n3 := h.2.2.2.2.2
        simp (disch := omega) only [en_ops, en_opc, iI_add, iI_mul, iI_sub, jL_add, jL_mul, iI_le, iI_lt, iI_eq, iI_eq0, iI_lt0, iI_0le, iI_le0, iI_0lt, jL_iI, iI_jL, lc_eq, lc_lt, lc_le, lc_ge, lc_gt, Nat.sub_zero, Nat.zero_le, true_and, and_true, Nat.reduceAdd, Nat.reduceLeDiff]
        refine ⟨fun g => absurd g (by omega), fun _ => ?_⟩
        refine r_wrong (d := d + 59) (k := 4) (by decide) S2 (fun h3 B3 F3 => ?_)
        simp (disch := omega) only [en_ops, en_opc, iI_add, iI_mul, iI_sub, jL_add, jL_mul, iI_le, iI_lt, iI_eq, iI_eq0, iI_lt0, iI_0le, iI_le0, iI_0lt, jL_iI, iI_jL, lc_eq, lc_lt, lc_le, lc_ge, lc_gt, Nat.sub_zero, Nat.zero_le, true_and, and_true, Nat.reduceAdd, Nat.reduceLeDiff]
        exact g199b (4, q) h3 _ _ B3 (F12.rqp.tr F3.rqp) (by rw [ef, if_pos told])
      have hno : V w = none := by
        rcases hv : V w with _ | s
        · rfl
        · rw [hv] at told; exact absurd rfl told
      rw [(v1 hno).2]
      rw [if_neg told] at ef
      refine ⟨fun _ => ?_, fun g => absurd (show iI 0 ≤ 0 by decide) g⟩
      apply s_X11_law_199
      simp (disch := omega) only [B_X11_law_199, sh110, lt110, en_ops, en_opc, iI_add, iI_mul, iI_sub, jL_add, jL_mul, iI_le, iI_lt, iI_eq, iI_eq0, iI_lt0, iI_0le, iI_le0, iI_0lt, jL_iI, iI_jL, lc_eq, lc_lt, lc_le, lc_ge, lc_gt, Nat.sub_zero, Nat.zero_le, true_and, and_true, Nat.reduceAdd, Nat.reduceLeDiff]
      refine r_fine (d := d + 59) S2 ?_
      simp (disch := omega) only [sh110, lt110, en_ops, en_opc, iI_add, iI_mul, iI_sub, jL_add, jL_mul, iI_le, iI_lt, iI_eq, iI_eq0, iI_lt0, iI_0le, iI_le0, iI_0lt, jL_iI, iI_jL, lc_eq, lc_lt, lc_le, lc_ge, lc_gt, Nat.sub_zero, Nat.zero_le, true_and, and_true, Nat.reduceAdd, Nat.reduceLeDiff]
      refine ⟨fun _ => ?_, fun g => absurd g (by decide)⟩
      refine r_pass (d := d + 58) hR S2 Q2 (fun z => by rw [z] at hw; exact g3 (by rw [← hw]; rfl)) (fun h3 S3 F3 => ?_)
      simp (disch := omega) only [sh110, lt110, en_ops, en_opc, iI_add, iI_mul, iI_sub, jL_add, jL_mul, iI_le, iI_lt, iI_eq, iI_eq0, iI_lt0, iI_0le, iI_le0, iI_0lt, jL_iI, iI_jL, lc_eq, lc_lt, lc_le, lc_ge, lc_gt, Nat.sub_zero, Nat.zero_le, true_and, and_true, Nat.reduceAdd, Nat.reduceLeDiff]
      have n1 := nx_gt hq
      refine r_sign (d := d + 58) (c := 61) ⟨by decide, by decide⟩ (by decide) hR S3 (fun g h4 S4 F4 => ?_) (fun g h4 B4 F4 => ?_)
      · have n2 := nx_gt g.1
        have b17 := S4.2.2.2.2.1.1
        have b19 := S4.2.2.2.1
        simp (disch := omega) only [sh110, lt110, sh121, lt121, sh122, lt122, r22, r23, b17, b19, en_ops, en_opc, iI_add, iI_mul, iI_sub, jL_add, jL_mul, iI_le, iI_lt, iI_eq, iI_eq0, iI_lt0, iI_0le, iI_le0, iI_0lt, jL_iI, iI_jL, lc_eq, lc_lt, lc_le, lc_ge, lc_gt, Nat.sub_zero, Nat.zero_le, true_and, and_true, Nat.reduceAdd, Nat.reduceLeDiff]
        refine ⟨3 * l + w, iI_eq_of (by omega), by omega, ?_⟩
        have Fa : Fx (fun a j => (a = 121 ∨ a = 122) ∧ 3 * l ≤ j ∧ j < 3 * l + 3) h4 (en_up h4 121 (3 * l + w) (iI (620 * (l : Int) + (len : Int)))) := Fx.up Fx.rf ⟨Or.inl rfl, by omega, by omega⟩
        obtain ⟨S5, F5⟩ := S4.w Fa
        have pgok := pg0_ok S5.1.1 n2.2.1 n2.2.2
        refine (d_all G X l 7000).1 0 (fun _ => 0) (nxE X (nxE X q)) (d + 60) len _ _ _ hl hr _ hR S5 (by omega) (by omega) pgok ⟨fun s q1 er h6 len1 S6 F6 l1 l0 l2 sg => ?_, fun e er h6 B6 F6 => ?_⟩
        · have pp := pg_pos _ _ _ _ _ _ _ n2.2.1 n2.2.2 er
          have c17 := S6.2.2.2.2.1.1
          have c19 := S6.2.2.2.1
          simp (disch := omega) only [sh110, lt110, sh121, lt121, sh122, lt122, r22, r23, c17, c19, en_ops, en_opc, iI_add, iI_mul, iI_sub, jL_add, jL_mul, iI_le, iI_lt, iI_eq, iI_eq0, iI_lt0, iI_0le, iI_le0, iI_0lt, jL_iI, iI_jL, lc_eq, lc_lt, lc_le, lc_ge, lc_gt, Nat.sub_zero, Nat.zero_le, true_and, and_true, Nat.reduceAdd, Nat.reduceLeDiff]
          refine ⟨3 * l + w, iI_eq_of (by omega), by omega, ?_⟩
          have Fb : Fx (fun a j => (a = 121 ∨ a = 122) ∧ 3 * l ≤ j ∧ j < 3 * l + 3) h6 (en_up h6 122 (3 * l + w) (iI (620 * (l : Int) + (len1 : Int)))) := Fx.up Fx.rf ⟨Or.inr rfl, by omega, by omega⟩
          obtain ⟨S7, F7⟩ := S6.w Fb
          have FA : Fx (ruQ l) hi (en_up h6 122 (3 * l + w) (iI (620 * (l : Int) + (len1 : Int)))) := (((((F12.rqp.tr F3.rqp).tr F4.rqp).tr F5).tr F6.rq).tr F7)
          refine r_sign (d := d + 58) (c := 59) ⟨by decide, by decide⟩ (by decide) hR S7 (fun g8 h8 S8 F8 => ?_) (fun g8 h8 B8 F8 => ?_)
          · simp (disch := omega) only [en_ops, en_opc, iI_add, iI_mul, iI_sub, jL_add, jL_mul, iI_le, iI_lt, iI_eq, iI_eq0, iI_lt0, iI_0le, iI_le0, iI_0lt, jL_iI, iI_jL, lc_eq, lc_lt, lc_le, lc_ge, lc_gt, Nat.sub_zero, Nat.zero_le, true_and, and_true, Nat.reduceAdd, Nat.reduceLeDiff]
            have ef2 : lwF X (f + 1) q V = lwF X f (nxE X q1) (fun k => if k = w then some s else V k) := by
              rw [ef, if_pos g, show pg0 X (nxE X (nxE X q)) = .inr (s, q1) from er]
              exact if_pos g8
            rw [ef2] at hK
            have FB : Fx (ruQ l) hi h8 := FA.tr F8.rqp
            have cu := cn_up (s := s) w3 told
            refine ih (i + 1) (nxE X q1) len1 _ h8 _ _ (by omega) (by omega) S8 (fun w' hw' => ?_) ⟨fun V' e hi' e5 e17 F' R' => hK.1 V' e hi' e5 e17 (FB.tr F') R', fun k pl e hi' bb e17 F' => hK.2 k pl e hi' bb e17 (FB.tr F')⟩
            have F34 : Fx Prd hi h4 := (F12.tr F3).tr F4
            have p119 : ∀ x j, 119 ≤ x → ¬ Prd x j := fun x j g z => by have := z.1; omega
            have fr : ∀ x, x = 121 ∨ x = 122 → ∀ j, j ≠ 3 * l + w → h8 x j = hi x j := by
              intro x hx j hj
              rw [F8 x j (p119 x j (by omega))]
              rcases hx with rfl | rfl
              · rw [up_ne (Or.inl (by decide)), F6 121 j (fun g => by unfold rgP at g; omega), up_ne (Or.inr hj), F34 121 j (p119 121 j (by decide))]
              · rw [up_ne (Or.inr hj), F6 122 j (fun g => by unfold rgP at g; omega), up_ne (Or.inl (by decide)), F34 122 j (p119 122 j (by decide))]
            have fs : ∀ x, x = 119 ∨ x = 120 → ∀ j, 620 * l ≤ j → j < 620 * l + len → h8 x j = hi x j := by
              intro x hx j j1 j2
              rw [F8 x j (p119 x j (by omega)), up_ne (Or.inl (by omega)), F6 x j (fun g => by unfold rgP at g; omega), up_ne (Or.inl (by omega)), F34 x j (p119 x j (by omega))]
            show ((if w' = w then some s else V w') = none → _) ∧ ∀ s', (if w' = w then some s else V w') = some s' → _
            by_cases kw : w' = w
            · rw [if_pos kw]
              refine ⟨fun e => (by cases e), fun s' e => ?_⟩
              cases e
              refine ⟨len, len1, l0, Nat.le_refl _, ?_, ?_, fun F U hF => sg F U (fun j j1 j2 => ?_)⟩
              · rw [kw, F8 121 _ (p119 121 _ (by decide)), up_ne (Or.inl (by decide)), F6 121 _ (fun g => by unfold rgP at g; omega), up_at]
                exact iI_eq_of (by omega)
              · rw [kw, F8 122 _ (p119 122 _ (by decide)), up_at]
                exact iI_eq_of (by omega)
              · obtain ⟨y1, y2⟩ := hF j j1 j2
                exact ⟨by rw [y1, F8 119 j (p119 119 j (by decide)), up_ne (Or.inl (by decide))], by rw [y2, F8 120 j (p119 120 j (by decide)), up_ne (Or.inl (by decide))]⟩
            · rw [if_neg kw]
              obtain ⟨u1, u2⟩ := hV w' hw'
              refine ⟨fun e => ?_, fun s' e => ?_⟩
              · rw [fr 121 (Or.inl rfl) _ (by omega), fr 122 (Or.inr rfl) _ (by omega)]; exact u1 e
              · obtain ⟨A, B, c1, c2, c3, c4, c5⟩ := u2 s' e
                refine ⟨A, B, c1, by omega, by rw [fr 121 (Or.inl rfl) _ (by omega)]; exact c3, by rw [fr 122 (Or.inr rfl) _ (by omega)]; exact c4, fun F U hF => c5 F U (fun j j1 j2 => ?_)⟩
                obtain ⟨y1, y2⟩ := hF j j1 j2
                exact ⟨by rw [y1, fs 119 (Or.inl rfl) j (by omega) (by omega)], by rw [y2, fs 120 (Or.inr rfl) j (by omega) (by omega)]⟩
          · simp (disch := omega) only [en_ops, en_opc, iI_add, iI_mul, iI_sub, jL_add, jL_mul, iI_le, iI_lt, iI_eq, iI_eq0, iI_lt0, iI_0le, iI_le0, iI_0lt, jL_iI, iI_jL, lc_eq, lc_lt, lc_le, lc_ge, lc_gt, Nat.sub_zero, Nat.zero_le, true_and, and_true, Nat.reduceAdd, Nat.reduceLeDiff]
            refine bad (1, q1) h8 _ _ B8 (FA.tr F8.rqp) ?_
            rw [ef, if_pos g, show pg0 X (nxE X (nxE X q)) = .inr (s, q1) from er]
            exact if_neg g8
        · obtain ⟨b1, b2, b17', b4, m, b5, b6⟩ := id B6
          simp (disch := omega) only [sh110, lt110, sh121, lt121, sh122, lt122, r22, r23, b17', b6, en_ops, en_opc, iI_add, iI_mul, iI_sub, jL_add, jL_mul, iI_le, iI_lt, iI_eq, iI_eq0, iI_lt0, iI_0le, iI_le0, iI_0lt, jL_iI, iI_jL, lc_eq, lc_lt, lc_le, lc_ge, lc_gt, Nat.sub_zero, Nat.zero_le, true_and, and_true, Nat.reduceAdd, Nat.reduceLeDiff]
          refine ⟨3 * l + w, iI_eq_of (by omega), by omega, ?_⟩
          have Fb : Fx (fun a j => (a = 121 ∨ a = 122) ∧ 3 * l ≤ j ∧ j < 3 * l + 3) h6 (en_up h6 122 (3 * l + w) (iI (620 * (l : Int) + (m : Int)))) := Fx.up Fx.rf ⟨Or.inr rfl, by omega, by omega⟩
          obtain ⟨B7, F7⟩ := B6.w Fb
          refine f_sign (d := d + 58) (c := 59) hR B7 ?_
          simp (disch := omega) only [en_ops, en_opc, iI_add, iI_mul, iI_sub, jL_add, jL_mul, iI_le, iI_lt, iI_eq, iI_eq0, iI_lt0, iI_0le, iI_le0, iI_0lt, jL_iI, iI_jL, lc_eq, lc_lt, lc_le, lc_ge, lc_gt, Nat.sub_zero, Nat.zero_le, true_and, and_true, Nat.reduceAdd, Nat.reduceLeDiff]
          refine bad e _ _ _ B7 ((((((F12.rqp.tr F3.rqp).tr F4.rqp).tr F5).tr F6.rq)).tr F7) ?_
          have er' : pg0 X (nxE X (nxE X q)) = .inl e := er
          rw [ef, if_pos g, er']
      · obtain ⟨b1, b2, b17', b4, m, b5, b6⟩ := id B4
        simp (disch := omega) only [sh110, lt110, sh121, lt121, sh122, lt122, r22, r23, b17', b6, en_ops, en_opc, iI_add, iI_mul, iI_sub, jL_add, jL_mul, iI_le, iI_lt, iI_eq, iI_eq0, iI_lt0, iI_0le, iI_le0, iI_0lt, jL_iI, iI_jL, lc_eq, lc_lt, lc_le, lc_ge, lc_gt, Nat.sub_zero, Nat.zero_le, true_and, and_true, Nat.reduceAdd, Nat.reduceLeDiff]
        refine ⟨3 * l + w, iI_eq_of (by omega), by omega, ?_⟩
        have Fa : Fx (fun a j => (a = 121 ∨ a = 122) ∧ 3 * l ≤ j ∧ j < 3 * l + 3) h4 (en_up h4 121 (3 * l + w) (iI (620 * (l : Int) + (m : Int)))) := Fx.up Fx.rf ⟨Or.inl rfl, by omega, by omega⟩
        obtain ⟨B5, F5⟩ := B4.w Fa
        obtain ⟨c1, c2, c17, c4, m2, c5, c6⟩ := id B5
        refine fr_whole (d := d + 58) B5 ?_
        simp (disch := omega) only [sh110, lt110, sh121, lt121, sh122, lt122, r22, r23, c17, c6, en_ops, en_opc, iI_add, iI_mul, iI_sub, jL_add, jL_mul, iI_le, iI_lt, iI_eq, iI_eq0, iI_lt0, iI_0le, iI_le0, iI_0lt, jL_iI, iI_jL, lc_eq, lc_lt, lc_le, lc_ge, lc_gt, Nat.sub_zero, Nat.zero_le, true_and, and_true, Nat.reduceAdd, Nat.reduceLeDiff]
        refine ⟨3 * l + w, iI_eq_of (by omega), by omega, ?_⟩
        have Fb : Fx (fun a j => (a = 121 ∨ a = 122) ∧ 3 * l ≤ j ∧ j < 3 * l + 3) (en_up h4 121 (3 * l + w) (iI (620 * (l : Int) + (m : Int)))) (en_up (en_up h4 121 (3 * l + w) (iI (620 * (l : Int) + (m : Int)))) 122 (3 * l + w) (iI (620 * (l : Int) + (m2 : Int)))) := Fx.up Fx.rf ⟨Or.inr rfl, by omega, by omega⟩
        obtain ⟨B7, F7⟩ := B5.w Fb
        refine f_sign (d := d + 58) (c := 59) hR B7 ?_
        simp (disch := omega) only [en_ops, en_opc, iI_add, iI_mul, iI_sub, jL_add, jL_mul, iI_le, iI_lt, iI_eq, iI_eq0, iI_lt0, iI_0le, iI_le0, iI_0lt, jL_iI, iI_jL, lc_eq, lc_lt, lc_le, lc_ge, lc_gt, Nat.sub_zero, Nat.zero_le, true_and, and_true, Nat.reduceAdd, Nat.reduceLeDiff]
        refine bad (1, nxE X q) _ _ _ B7 (((((F12.rqp.tr F3.rqp).tr F4.rqp).tr F5)).tr F7) ?_
        rw [ef, if_neg g]
    refine m_of (d := d + 55) (j := 39) iw39 ?_
    rw [pk39]
    simp (disch := omega) only [en_ops, en_opc, iI_add, iI_mul, iI_sub, jL_add, jL_mul, iI_le, iI_lt, iI_eq, iI_eq0, iI_lt0, iI_0le, iI_le0, iI_0lt, jL_iI, iI_jL, lc_eq, lc_lt, lc_le, lc_ge, lc_gt, Nat.sub_zero, Nat.zero_le, true_and, and_true, Nat.reduceAdd, Nat.reduceLeDiff]
    by_cases w0 : wdE X q = 442053
    · exact ⟨fun g => absurd (show (wdE X q : Int) = _ by omega) g, fun _ => go 0 (by rw [w0]; rfl)⟩
    refine ⟨fun _ => ?_, fun g => absurd g (by omega)⟩
    refine m_of (d := d + 55) (j := 40) iw40 ?_
    rw [pk40]
    simp (disch := omega) only [en_ops, en_opc, iI_add, iI_mul, iI_sub, jL_add, jL_mul, iI_le, iI_lt, iI_eq, iI_eq0, iI_lt0, iI_0le, iI_le0, iI_0lt, jL_iI, iI_jL, lc_eq, lc_lt, lc_le, lc_ge, lc_gt, Nat.sub_zero, Nat.zero_le, true_and, and_true, Nat.reduceAdd, Nat.reduceLeDiff]
    by_cases w1 : wdE X q = 758834
    · exact ⟨fun g => absurd (show (wdE X q : Int) = _ by omega) g, fun _ => go 1 (by rw [w1]; rfl)⟩
    refine ⟨fun _ => ?_, fun g => absurd g (by omega)⟩
    refine m_of (d := d + 55) (j := 41) iw41 ?_
    rw [pk41]
    simp (disch := omega) only [en_ops, en_opc, iI_add, iI_mul, iI_sub, jL_add, jL_mul, iI_le, iI_lt, iI_eq, iI_eq0, iI_lt0, iI_0le, iI_le0, iI_0lt, jL_iI, iI_jL, lc_eq, lc_lt, lc_le, lc_ge, lc_gt, Nat.sub_zero, Nat.zero_le, true_and, and_true, Nat.reduceAdd, Nat.reduceLeDiff]
    by_cases w2 : wdE X q = 514226
    · exact ⟨fun g => absurd (show (wdE X q : Int) = _ by omega) g, fun _ => go 2 (by rw [w2]; rfl)⟩
    refine ⟨fun _ => go (-1) ?_, fun g => absurd g (by omega)⟩
    have : rlE (wdE X q) = 3 := by unfold rlE; rw [if_neg w0, if_neg w1, if_neg w2]
    rw [if_pos this]
end
