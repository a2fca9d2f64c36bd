/-! the class reads a law -/
def lgR (L : Nat) (hr : en_F) : Prop := hr 29 0 = .ref 26 ∧ hr 29 1 = .ref L ∧ hr 26 0 = .ref 1 ∧ lwR L hr ∧ isLw L
def lgP (L len : Nat) (a j : Nat) : Prop := (a = 26 ∧ 1 < j) ∨ (a = 29 ∧ j = 2) ∨ (a = L ∧ j = 1) ∨ (a = L + 1 ∧ len ≤ j)
def lgS (X : tTx) (L o len q : Nat) (hi : en_I) : Prop := tqS X hi ∧ tkH X q hi ∧ hi 29 2 = iI (o : Int) ∧ hi L 1 = iI (len : Int) ∧ len ≤ q
def lgB (X : tTx) (L k pl : Nat) (hi : en_I) : Prop := tqS X hi ∧ tkF k pl hi ∧ ∃ len : Nat, len ≤ 600 ∧ hi L 1 = iI (len : Int)
theorem isLw.s6 {L : Nat} (h : isLw L) : en_SH L = (1, 4) ∧ en_SH (L + 1) = (100, 600) ∧ en_SH (L + 2) = (100, 3) ∧ en_SH (L + 3) = (100, 3) ∧ 50 ≤ L ∧ L + 3 < 66 := by
  rcases h with rfl | rfl | rfl | rfl <;> decide
theorem sh29 : en_SH 29 = (2, 4) := by decide
theorem lt29 : 29 < 134 := by decide
/-- the ends of a reading: from s0 the steps stand, from len on they are new -/
def lgK (X : tTx) (L o s0 len q N : Nat) (r : lRes) (hi : en_I) (hl : en_L) (hr : en_F) (K : en_K) : Prop :=
  (∀ s q1, r = .inr (s, q1) → ∀ hi' len1, lgS X L o len1 q1 hi' → Fx (lgP L len) hi hi' → len ≤ len1 → len1 + q ≤ len + q1 → (∀ F : Nat → Int32, (∀ j, s0 ≤ j → j < len1 → F j = hi' (L + 1) j) → cseg F s0 len1 N s) → K (.inl none) hi' hl hr) ∧
  ∀ e, r = .inl e → ∀ hi', lgB X L e.1 e.2 hi' → Fx (lgP L 0) hi hi' → K (.inl none) hi' hl hr
def lgM (G : en_G) (X : tTx) (L : Nat) (Y : en_Y) (f m c : Nat) : Prop := ∀ (o : Nat) (a : lSem) (q d len xc xs : Nat) (hi : en_I) (hl : en_L) (hr : en_F) (K : en_K), lgR L hr → lgS X L o len q hi → o ≤ 6 → 6 * (6 - o) + c + 8 ≤ d → pgF X f m o a q ≠ oof → lgK X L o len len q (6 * (6 - o) + c) (pgF X f m o a q) hi hl hr K → en_Call G d xc xs Y wN wN [.ref 29] hi hl hr K
def lgV (G : en_G) (X : tTx) (L : Nat) (Y : en_Y) (pc k f m c : Nat) : Prop := ∀ (o : Nat) (a : lSem) (q d s0 len i xc xs : Nat) (ls : List Value) (hi : en_I) (hl : en_L) (hr : en_F) (K : en_K), ls.length = k → lgR L hr → lgS X L o len q hi → o ≤ 6 → 6 * (6 - o) + c + 8 ≤ d → i ≤ q → s0 ≤ len → (∀ F : Nat → Int32, (∀ j, s0 ≤ j → j < len → F j = hi (L + 1) j) → cseg F s0 len (6 * (6 - o) + c) a) → pgF X f m o a q ≠ oof → lgK X L o s0 len q (6 * (6 - o) + c) (pgF X f m o a q) hi hl hr K → en_V G Y d wN wN K pc (.ref 29 :: .int (iI (i : Int)) :: ls) [] hi hl hr xc xs
section
variable {G : en_G} {d : Nat} {K : en_K} {X : tTx} {L o len q k pl : Nat} {hi : en_I} {hl : en_L} {hr : en_F} {xc xs : Nat}
theorem lgP.m {L a j : Nat} {l1 l2 : Nat} (h : lgP L l2 a j) (e : l1 ≤ l2) : lgP L l1 a j := by
  unfold lgP at h ⊢
  omega
theorem Fx.lg {L l1 l2 : Nat} {h1 h2 : en_I} (h : Fx (lgP L l2) h1 h2) (e : l1 ≤ l2) : Fx (lgP L l1) h1 h2 := h.mono (fun a j g => g.m e)
theorem Fx.p26 {h1 h2 : en_I} (h : Fx P26 h1 h2) : Fx (lgP L len) h1 h2 := h.mono (fun a j g => Or.inl g)
/-- the reader's own fields stay in a token's step -/
theorem lgS.tk {q1 : Nat} {hi' : en_I} (hL : isLw L) (h : lgS X L o len q hi) (F : Fx P26 hi hi') (hX : tqS X hi') (hq : tkH X q1 hi') (hl9 : q ≤ q1) : lgS X L o len q1 hi' := by
  obtain ⟨a1, a2, a3, a4, a5⟩ := h
  have b := hL.s6
  exact ⟨hX, hq, by rw [F 29 2 (fun g => by have := g.1; omega)]; exact a3, by rw [F L 1 (fun g => by have := g.1; omega)]; exact a4, by omega⟩
theorem lgS.bad {e : Nat × Nat} {hi' : en_I} (hL : isLw L) (h : lgS X L o len q hi) (F : Fx P26 hi hi') (hX : tqS X hi') (hq : tkX X (.inl e) hi') : lgB X L e.1 e.2 hi' := by
  obtain ⟨a1, a2, a3, a4, a5⟩ := h
  have b := hL.s6
  have := a2.1
  have := a1.1.1
  exact ⟨hX, hq, len, by omega, by rw [F L 1 (fun g => by have := g.1; omega)]; exact a4⟩
theorem t_emit {e : Int32} (hR : lgR L hr) (h1 : hi L 1 = iI (len : Int)) (h6 : len < 600) (H : ∀ hi', hi' = en_up (en_up hi (L + 1) len e) L 1 (iI ((len + 1 : Nat) : Int)) → K (.inl none) hi' hl hr) : en_Call G (d + 1) xc xs Y_X1_emit wN wN [.ref L, .int e] hi hl hr K := by
  obtain ⟨s0, s1, s2, s3, s4, s5⟩ := hR.2.2.2.2.s6
  have q0 : L < 134 := by omega
  have q1 : L + 1 < 134 := by omega
  have r0 := hR.2.2.2.1.1
  apply en_X1_emit
  simp (disch := omega) only [B_X1_emit_0, s0, s1, q0, q1, h1, r0, en_ops, en_opc, iI_add, iI_mul, iI_sub, jL_add, jL_mul, iI_le, iI_lt, iI_eq, iI_eq0, iI_lt0, iI_0le, iI_le0, iI_0lt, jL_iI, iI_jL, lc_eq, lc_lt, lc_le, lc_ge, lc_gt, Nat.sub_zero, Nat.zero_le, true_and, and_true, Nat.reduceAdd, Nat.reduceLeDiff]
  refine ⟨fun g => absurd g (by omega), fun _ => ⟨len, rfl, h6, ?_⟩⟩
  rw [up_ne (Or.inl (by omega)), h1]
  simp (disch := omega) only [en_ops, en_opc, iI_add, iI_mul, iI_sub, jL_add, jL_mul, iI_le, iI_lt, iI_eq, iI_eq0, iI_lt0, iI_0le, iI_le0, iI_0lt, jL_iI, iI_jL, lc_eq, lc_lt, lc_le, lc_ge, lc_gt, Nat.sub_zero, Nat.zero_le, true_and, and_true, Nat.reduceAdd, Nat.reduceLeDiff]
  exact H _ rfl
/-- behind a fault a step may find no room -/
theorem f_emit {e : Int32} (hR : lgR L hr) (h : lgB X L k pl hi) (H : ∀ hi', lgB X L k pl hi' → Fx (lgP L 0) hi hi' → K (.inl none) hi' hl hr) : en_Call G (d + 1) xc xs Y_X1_emit wN wN [.ref L, .int e] hi hl hr K := by
  obtain ⟨hX, hF, len, h6, h1⟩ := id h
  have b := hR.2.2.2.2.s6
  by_cases g6 : len < 600
  · refine t_emit hR h1 g6 (fun hi' e9 => ?_)
    subst e9
    have F : Fx (lgP L 0) hi (en_up (en_up hi (L + 1) len e) L 1 (iI ((len + 1 : Nat) : Int))) := Fx.up (Fx.up Fx.rf (Or.inr (Or.inr (Or.inr ⟨rfl, by omega⟩)))) (Or.inr (Or.inr (Or.inl ⟨rfl, rfl⟩)))
    exact H _ ⟨hX.fx F (fun j g => by unfold lgP at g; omega) (fun g => by unfold lgP at g; omega), hF.fx (P := fun a _ => a = L ∨ a = L + 1) (Fx.up (Fx.up Fx.rf (Or.inr rfl)) (Or.inl rfl)) (fun j g => by omega), len + 1, by omega, up_at⟩ F
  · obtain ⟨s0, s1, s2, s3, s4, s5⟩ := b
    have q0 : L < 134 := by omega
    apply en_X1_emit
    simp (disch := omega) only [B_X1_emit_0, s0, q0, h1, en_ops, en_opc, iI_add, iI_mul, iI_sub, jL_add, jL_mul, iI_le, iI_lt, iI_eq, iI_eq0, iI_lt0, iI_0le, iI_le0, iI_0lt, jL_iI, iI_jL, lc_eq, lc_lt, lc_le, lc_ge, lc_gt, Nat.sub_zero, Nat.zero_le, true_and, and_true, Nat.reduceAdd, Nat.reduceLeDiff]
    exact ⟨fun _ => H hi h Fx.rf, fun g => absurd (show (600 : Int) ≤ len by omega) g⟩
/-- a step written -/
theorem w_emit {e : Int32} (hR : lgR L hr) (h : lgS X L o len q hi) (hl9 : len < q) (H : ∀ hi', lgS X L o (len + 1) q hi' → Fx (lgP L len) hi hi' → hi' (L + 1) len = e → K (.inl none) hi' hl hr) : en_Call G (d + 1) xc xs Y_X1_emit wN wN [.ref L, .int e] hi hl hr K := by
  obtain ⟨a1, a2, a3, a4, a5⟩ := id h
  have := a2.1
  have := a1.1.1
  have b := hR.2.2.2.2.s6
  refine t_emit hR a4 (by omega) (fun hi' e9 => ?_)
  subst e9
  have F : Fx (lgP L len) hi (en_up (en_up hi (L + 1) len e) L 1 (iI ((len + 1 : Nat) : Int))) := Fx.up (Fx.up Fx.rf (Or.inr (Or.inr (Or.inr ⟨rfl, by omega⟩)))) (Or.inr (Or.inr (Or.inl ⟨rfl, rfl⟩)))
  have F2 : Fx (fun a _ => a = L ∨ a = L + 1) hi (en_up (en_up hi (L + 1) len e) L 1 (iI ((len + 1 : Nat) : Int))) := Fx.up (Fx.up Fx.rf (Or.inr rfl)) (Or.inl rfl)
  refine H _ ⟨a1.fx F2 (fun j g => by omega) (fun g => by omega), a2.fx F2 (fun j g => by omega), by rw [F2 29 2 (by omega)]; exact a3, up_at, by omega⟩ F ?_
  rw [up_ne (Or.inl (by omega)), up_at]
theorem w_isWord {j : Nat} (hj : isWd j) (hR : lgR L hr) (h : lgS X L o len q hi) (H : ∀ b : Int, (b = 1 ∧ wdE X q = pkJ j) ∨ (b = 0 ∧ wdE X q ≠ pkJ j) → K (.inl (some (.int (iI b)))) hi hl hr) : en_Call G (d + 5) xc xs Y_X7_isWord wN wN [.ref 26, .ref (1000000 + j)] hi hl hr K := t_isWord (z := .inr q) hj hR.2.2.1 h.1 h.2.1 H
theorem f_isWord {j : Nat} (hj : isWd j) (hR : lgR L hr) (h : lgB X L k pl hi) (H : K (.inl (some (.int (iI 0)))) hi hl hr) : en_Call G (d + 5) xc xs Y_X7_isWord wN wN [.ref 26, .ref (1000000 + j)] hi hl hr K := t_isWord (z := .inl (k, pl)) hj hR.2.2.1 h.1 h.2.1 (fun b hb => by
  rcases hb with ⟨rfl, g⟩ | ⟨rfl, g⟩
  · exact absurd g.symm (pk_pos hj)
  · exact H)
theorem w_isSign {c : Nat} (hc : isSg c) (hc2 : c < 128) (h : lgS X L o len q hi) (H : ∀ b : Int, (b = 1 ∧ sgE X q c) ∨ (b = 0 ∧ ¬ sgE X q c) → K (.inl (some (.int (iI b)))) hi hl hr) : en_Call G (d + 1) xc xs Y_X7_isSign wN wN [.ref 26, .int (iI (c : Int))] hi hl hr K := t_isSign (z := .inr q) hc hc2 h.1 h.2.1 H
theorem f_isSign {c : Nat} (hc : isSg c) (hc2 : c < 128) (h : lgB X L k pl hi) (H : K (.inl (some (.int (iI 0)))) hi hl hr) : en_Call G (d + 1) xc xs Y_X7_isSign wN wN [.ref 26, .int (iI (c : Int))] hi hl hr K := t_isSign (z := .inl (k, pl)) hc hc2 h.1 h.2.1 (fun b hb => by
  rcases hb with ⟨rfl, g⟩ | ⟨rfl, g⟩
  · exact g.elim
  · exact H)
theorem w_step (hR : lgR L hr) (h : lgS X L o len q hi) (hq : q < X.2) (H : ∀ hi', lgS X L o len (nxE X q) hi' → Fx P26 hi hi' → K (.inl none) hi' hl hr) : en_Call G (d + 2) xc xs Y_X7_step wN wN [.ref 26] hi hl hr K := t_stepZ (z := .inr q) hR.2.2.1 h.1 h.2.1 (fun q2 e => by cases e; exact hq) (fun hi' F X' H' => H hi' (h.tk hR.2.2.2.2 F X' H' (by have := nx_gt hq; omega)) F)
theorem lgB.fx {hi' : en_I} (hL : isLw L) (h : lgB X L k pl hi) (F : Fx P26 hi hi') (hX : tqS X hi') (hF : tkF k pl hi') : lgB X L k pl hi' := by
  obtain ⟨a1, a2, m, a3, a4⟩ := h
  have b := hL.s6
  exact ⟨hX, hF, m, a3, by rw [F L 1 (fun g => by have := g.1; omega)]; exact a4⟩
theorem f_step (hR : lgR L hr) (h : lgB X L k pl hi) (H : ∀ hi', lgB X L k pl hi' → Fx P26 hi hi' → K (.inl none) hi' hl hr) : en_Call G (d + 2) xc xs Y_X7_step wN wN [.ref 26] hi hl hr K := t_stepZ (z := .inl (k, pl)) hR.2.2.1 h.1 h.2.1 (fun q2 e => by cases e) (fun hi' F X' H' => H hi' (h.fx hR.2.2.2.2 F X' H') F)
theorem w_fail {k : Nat} (hk : 1 ≤ k ∧ k ≤ 4) (hR : lgR L hr) (h : lgS X L o len q hi) (H : ∀ hi', lgB X L k q hi' → Fx P26 hi hi' → K (.inl none) hi' hl hr) : en_Call G (d + 1) xc xs Y_X7_fail wN wN [.ref 26, .int (iI (k : Int))] hi hl hr K := t_fail (z := .inr q) hk h.1 h.2.1 (fun hi' F X' H' => H hi' (h.bad (e := (k, q)) hR.2.2.2.2 F X' H') F)
theorem f_fail {k2 : Nat} (hk : 1 ≤ k2 ∧ k2 ≤ 4) (hR : lgR L hr) (h : lgB X L k pl hi) (H : ∀ hi', lgB X L k pl hi' → Fx P26 hi hi' → K (.inl none) hi' hl hr) : en_Call G (d + 1) xc xs Y_X7_fail wN wN [.ref 26, .int (iI (k2 : Int))] hi hl hr K := t_fail (z := .inl (k, pl)) hk h.1 h.2.1 (fun hi' F X' H' => H hi' (h.fx hR.2.2.2.2 F X' H') F)
theorem f_needSign {c : Nat} (hc : isSg c) (hc2 : c < 128) (hR : lgR L hr) (h : lgB X L k pl hi) (H : ∀ hi', lgB X L k pl hi' → Fx P26 hi hi' → K (.inl none) hi' hl hr) : en_Call G (d + 3) xc xs Y_X7_needSign wN wN [.ref 26, .int (iI (c : Int))] hi hl hr K := t_needSign (z := .inl (k, pl)) hc hc2 hR.2.2.1 h.1 h.2.1 (fun hi' F X' H' => H hi' (h.fx hR.2.2.2.2 F X' H') F)
theorem f_needWord {j : Nat} (hj : isWd j) (hR : lgR L hr) (h : lgB X L k pl hi) (H : ∀ hi', lgB X L k pl hi' → Fx P26 hi hi' → K (.inl none) hi' hl hr) : en_Call G (d + 6) xc xs Y_X7_needWord wN wN [.ref 26, .ref (1000000 + j)] hi hl hr K := t_needWord (z := .inl (k, pl)) hj hR.2.2.1 h.1 h.2.1 (fun hi' F X' H' => H hi' (h.fx hR.2.2.2.2 F X' H') F)
theorem w_needSign {c : Nat} (hc : isSg c) (hc2 : c < 128) (hR : lgR L hr) (h : lgS X L o len q hi) (H1 : sgE X q c → ∀ hi', lgS X L o len (nxE X q) hi' → Fx P26 hi hi' → K (.inl none) hi' hl hr) (H0 : ¬ sgE X q c → ∀ hi', lgB X L 1 q hi' → Fx P26 hi hi' → K (.inl none) hi' hl hr) : en_Call G (d + 3) xc xs Y_X7_needSign wN wN [.ref 26, .int (iI (c : Int))] hi hl hr K := t_needSign (z := .inr q) hc hc2 hR.2.2.1 h.1 h.2.1 (fun hi' F X' H' => by
  by_cases g : sgE X q c
  · replace H' : tkX X (if sgE X q c then .inr (nxE X q) else .inl (1, q)) hi' := H'
    rw [if_pos g] at H'
    exact H1 g hi' (h.tk hR.2.2.2.2 F X' H' (by have := nx_gt g.1; omega)) F
  · replace H' : tkX X (if sgE X q c then .inr (nxE X q) else .inl (1, q)) hi' := H'
    rw [if_neg g] at H'
    exact H0 g hi' (h.bad (e := (1, q)) hR.2.2.2.2 F X' H') F)
theorem w_needWord {j : Nat} (hj : isWd j) (hR : lgR L hr) (h : lgS X L o len q hi) (H1 : wdE X q = pkJ j → ∀ hi', lgS X L o len (nxE X q) hi' → Fx P26 hi hi' → K (.inl none) hi' hl hr) (H0 : ¬ wdE X q = pkJ j → ∀ hi', lgB X L 1 q hi' → Fx P26 hi hi' → K (.inl none) hi' hl hr) : en_Call G (d + 6) xc xs Y_X7_needWord wN wN [.ref 26, .ref (1000000 + j)] hi hl hr K := t_needWord (z := .inr q) hj hR.2.2.1 h.1 h.2.1 (fun hi' F X' H' => by
  by_cases g : wdE X q = pkJ j
  · replace H' : tkX X (if wdE X q = pkJ j then .inr (nxE X q) else .inl (1, q)) hi' := H'
    rw [if_pos g] at H'
    exact H1 g hi' (h.tk hR.2.2.2.2 F X' H' (by have := nx_gt (wd_let (X := X) (q := q) (by rw [g]; exact pk_pos hj)).2.1; omega)) F
  · replace H' : tkX X (if wdE X q = pkJ j then .inr (nxE X q) else .inl (1, q)) hi' := H'
    rw [if_neg g] at H'
    exact H0 g hi' (h.bad (e := (1, q)) hR.2.2.2.2 F X' H') F)
theorem w_enters (hR : lgR L hr) (h : lgS X L o len q hi) (ho : o ≤ 6) (hq : q < X.2) (H1 : ¬ 6 ≤ o → ∀ hi', lgS X L (o + 1) len (nxE X q) hi' → Fx (lgP L len) hi hi' → K (.inl (some (.int (iI 1)))) hi' hl hr) (H0 : 6 ≤ o → ∀ hi', lgB X L 3 q hi' → Fx P26 hi hi' → K (.inl (some (.int (iI 0)))) hi' hl hr) : en_Call G (d + 3) xc xs Y_X2_enters wN wN [.ref 29] hi hl hr K := by
  obtain ⟨a1, a2, a3, a4, a5⟩ := id h
  have r0 := hR.1
  have b := hR.2.2.2.2.s6
  apply en_X2_enters
  simp (disch := omega) only [B_X2_enters_0, sh29, lt29, sh26, lt26, a3, r0, en_ops, en_opc, iI_add, iI_mul, iI_sub, jL_add, jL_mul, iI_le, iI_lt, iI_eq, iI_eq0, iI_lt0, iI_0le, iI_le0, iI_0lt, jL_iI, iI_jL, lc_eq, lc_lt, lc_le, lc_ge, lc_gt, Nat.sub_zero, Nat.zero_le, true_and, and_true, Nat.reduceAdd, Nat.reduceLeDiff]
  refine ⟨fun g => ?_, fun g => ?_⟩
  · have F1 : Fx (fun a j => a = 29 ∧ j = 2) hi (en_up hi 29 2 (iI ((o : Int) + 1))) := Fx.up Fx.rf ⟨rfl, rfl⟩
    have h1 : lgS X L (o + 1) len q (en_up hi 29 2 (iI ((o : Int) + 1))) := ⟨a1.fx F1 (fun j g => by omega) (fun g => by omega), a2.fx F1 (fun j g => by omega), by rw [up_at]; exact iI_eq_of (by omega), by rw [up_ne (Or.inl (by omega))]; exact a4, a5⟩
    refine w_step (d := d) hR h1 hq (fun hi' h' F' => ?_)
    simp (disch := omega) only [en_ops, en_opc, iI_add, iI_mul, iI_sub, jL_add, jL_mul, iI_le, iI_lt, iI_eq, iI_eq0, iI_lt0, iI_0le, iI_le0, iI_0lt, jL_iI, iI_jL, lc_eq, lc_lt, lc_le, lc_ge, lc_gt, Nat.sub_zero, Nat.zero_le, true_and, and_true, Nat.reduceAdd, Nat.reduceLeDiff]
    exact ⟨rfl, H1 (by omega) hi' h' ((F1.mono (fun a j g => Or.inr (Or.inl g))).tr F'.p26)⟩
  · refine w_fail (d := d + 1) (k := 3) (by decide) hR h (fun hi' h' F' => ?_)
    simp (disch := omega) only [en_ops, en_opc, iI_add, iI_mul, iI_sub, jL_add, jL_mul, iI_le, iI_lt, iI_eq, iI_eq0, iI_lt0, iI_0le, iI_le0, iI_0lt, jL_iI, iI_jL, lc_eq, lc_lt, lc_le, lc_ge, lc_gt, Nat.sub_zero, Nat.zero_le, true_and, and_true, Nat.reduceAdd, Nat.reduceLeDiff]
    exact ⟨rfl, H0 (by omega) hi' h' F'⟩
end
