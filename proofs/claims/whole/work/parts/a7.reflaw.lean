/-! the reference reads a law -/
theorem pk32 : pkJ 32 = 3322259 := by decide +kernel
theorem iw32 : isWd 32 := ⟨by decide, by decide⟩
theorem pk33 : pkJ 33 = 20244659 := by decide +kernel
theorem iw33 : isWd 33 := ⟨by decide, by decide⟩
theorem pk34 : pkJ 34 = 267312 := by decide +kernel
theorem iw34 : isWd 34 := ⟨by decide, by decide⟩
theorem pk35 : pkJ 35 = 3741300 := by decide +kernel
theorem iw35 : isWd 35 := ⟨by decide, by decide⟩
theorem pk36 : pkJ 36 = 755084 := by decide +kernel
theorem iw36 : isWd 36 := ⟨by decide, by decide⟩
theorem pk37 : pkJ 37 = 654910919 := by decide +kernel
theorem iw37 : isWd 37 := ⟨by decide, by decide⟩
theorem pk38 : pkJ 38 = 13093465 := by decide +kernel
theorem iw38 : isWd 38 := ⟨by decide, by decide⟩
theorem pk39 : pkJ 39 = 442053 := by decide +kernel
theorem iw39 : isWd 39 := ⟨by decide, by decide⟩
theorem pk40 : pkJ 40 = 758834 := by decide +kernel
theorem iw40 : isWd 40 := ⟨by decide, by decide⟩
theorem pk41 : pkJ 41 = 514226 := by decide +kernel
theorem iw41 : isWd 41 := ⟨by decide, by decide⟩
theorem pk42 : pkJ 42 = 294 := by decide +kernel
theorem iw42 : isWd 42 := ⟨by decide, by decide⟩
theorem pk43 : pkJ 43 = 14836 := by decide +kernel
theorem iw43 : isWd 43 := ⟨by decide, by decide⟩
theorem pk44 : pkJ 44 = 1476 := by decide +kernel
theorem iw44 : isWd 44 := ⟨by decide, by decide⟩
theorem pk45 : pkJ 45 = 498 := by decide +kernel
theorem iw45 : isWd 45 := ⟨by decide, by decide⟩
theorem pk46 : pkJ 46 = 663726 := by decide +kernel
theorem iw46 : isWd 46 := ⟨by decide, by decide⟩
theorem pk47 : pkJ 47 = 176741 := by decide +kernel
theorem iw47 : isWd 47 := ⟨by decide, by decide⟩
theorem pk48 : pkJ 48 = 632645 := by decide +kernel
theorem iw48 : isWd 48 := ⟨by decide, by decide⟩
theorem pk49 : pkJ 49 = 20600006 := by decide +kernel
theorem iw49 : isWd 49 := ⟨by decide, by decide⟩
theorem pk50 : pkJ 50 = 1130181 := by decide +kernel
theorem iw50 : isWd 50 := ⟨by decide, by decide⟩
theorem pk51 : pkJ 51 = 2273783 := by decide +kernel
theorem iw51 : isWd 51 := ⟨by decide, by decide⟩
theorem pk52 : pkJ 52 = 273980692 := by decide +kernel
theorem iw52 : isWd 52 := ⟨by decide, by decide⟩
theorem pk53 : pkJ 53 = 70708 := by decide +kernel
theorem iw53 : isWd 53 := ⟨by decide, by decide⟩
theorem pk54 : pkJ 54 = 215533 := by decide +kernel
theorem iw54 : isWd 54 := ⟨by decide, by decide⟩
theorem pk55 : pkJ 55 = 103820 := by decide +kernel
theorem iw55 : isWd 55 := ⟨by decide, by decide⟩
theorem pk56 : pkJ 56 = 755397 := by decide +kernel
theorem iw56 : isWd 56 := ⟨by decide, by decide⟩
theorem pk57 : pkJ 57 = 21279923 := by decide +kernel
theorem iw57 : isWd 57 := ⟨by decide, by decide⟩
def rgP (l len : Nat) (a j : Nat) : Prop := (a = 110 ∧ (j = 4 ∨ j = 5 ∨ j = 6 ∨ j = 7 ∨ j = 19)) ∨ ((a = 119 ∨ a = 120) ∧ 620 * l + len ≤ j ∧ j < 620 * l + 620)
def rgS (X : tTx) (l o len q : Nat) (hi : en_I) : Prop := rtS X hi ∧ rtA X q hi ∧ hi 110 7 = iI (o : Int) ∧ hi 110 19 = iI (len : Int) ∧ (hi 110 17 = iI (l : Int) ∧ l < 4) ∧ len ≤ q
def rgB (X : tTx) (l k pl : Nat) (hi : en_I) : Prop := rtS X hi ∧ rtF k pl hi ∧ hi 110 17 = iI (l : Int) ∧ l < 4 ∧ ∃ len : Nat, len ≤ 600 ∧ hi 110 19 = iI (len : Int)
def rgK (X : tTx) (l o s0 len q N : Nat) (r : lRes) (hi : en_I) (hl : en_L) (hr : en_F) (K : en_K) : Prop :=
  (∀ s q1, r = .inr (s, q1) → ∀ hi' len1, rgS X l o len1 q1 hi' → Fx (rgP l len) hi hi' → len ≤ len1 → s0 < len1 → len1 + q ≤ len + q1 → (∀ F V : Nat → Int32, (∀ j, 620 * l + s0 ≤ j → j < 620 * l + len1 → F j = hi' 119 j ∧ V j = hi' 120 j) → rseg F V (620 * l + s0) (620 * l + len1) N s) → K (.inl none) hi' hl hr) ∧
  ∀ e, r = .inl e → ∀ hi', rgB X l e.1 e.2 hi' → Fx (rgP l 0) hi hi' → K (.inl none) hi' hl hr
def rgM (G : en_G) (X : tTx) (l : Nat) (Y : en_Y) (f m c : Nat) : Prop := ∀ (o : Nat) (a : lSem) (q d len xc xs : Nat) (hi : en_I) (hl : en_L) (hr : en_F) (K : en_K), rfR hr → rgS X l o len q hi → o ≤ 6 → 6 * (6 - o) + c + 8 ≤ d → pgF X f m o a q ≠ oof → rgK X l o len len q (6 * (6 - o) + c) (pgF X f m o a q) hi hl hr K → en_Call G d xc xs Y wN wN [.ref 110] hi hl hr K
def rgV (G : en_G) (X : tTx) (l : Nat) (Y : en_Y) (pc k f m c : Nat) : Prop := ∀ (o : Nat) (a : lSem) (q d s0 len xc xs : Nat) (ls : List Value) (hi : en_I) (hl : en_L) (hr : en_F) (K : en_K), ls.length = k → rfR hr → rgS X l o len q hi → o ≤ 6 → 6 * (6 - o) + c + 8 ≤ d → s0 < len → (∀ F V : Nat → Int32, (∀ j, 620 * l + s0 ≤ j → j < 620 * l + len → F j = hi 119 j ∧ V j = hi 120 j) → rseg F V (620 * l + s0) (620 * l + len) (6 * (6 - o) + c) a) → pgF X f m o a q ≠ oof → rgK X l o s0 len q (6 * (6 - o) + c) (pgF X f m o a q) hi hl hr K → en_V G Y d wN wN K pc (.ref 110 :: ls) [] hi hl hr xc xs
theorem sh119 : en_SH 119 = (100, 2480) := by decide
theorem sh120 : en_SH 120 = (100, 2480) := by decide
theorem lt119 : 119 < 134 := by decide
theorem lt120 : 120 < 134 := by decide
theorem rseg.w {F V : Nat → Int32} {a b N M : Nat} {s : lSem} (h : rseg F V a b N s) (e : N ≤ M) : rseg F V a b M s := fun nm t S E h1 h2 => h nm t S E (by omega) h2
section
variable {G : en_G} {d : Nat} {K : en_K} {X : tTx} {l o len q k pl : Nat} {hi : en_I} {hl : en_L} {hr : en_F} {xc xs : Nat}
theorem rgP.m {a j : Nat} {l1 l2 : Nat} (h : rgP l l2 a j) (e : l1 ≤ l2) : rgP l l1 a j := by
  unfold rgP at h ⊢
  omega
theorem Fx.rg {l1 l2 : Nat} {h1 h2 : en_I} (h : Fx (rgP l l2) h1 h2) (e : l1 ≤ l2) : Fx (rgP l l1) h1 h2 := h.mono (fun a j g => g.m e)
theorem Fx.prd {h1 h2 : en_I} (h : Fx Prd h1 h2) : Fx (rgP l len) h1 h2 := h.mono (fun a j g => Or.inl ⟨g.1, by have := g.2; omega⟩)
theorem rgS.to {q1 : Nat} {hi' : en_I} (h : rgS X l o len q hi) (F : Fx Prd hi hi') (X' : rtS X hi') (A' : rtA X q1 hi') (hl9 : q ≤ q1) : rgS X l o len q1 hi' := by
  obtain ⟨a1, a2, a3, a4, ⟨a5, a6⟩, a7⟩ := h
  exact ⟨X', A', by rw [F 110 7 (fun g => by have := g.2; omega)]; exact a3, by rw [F 110 19 (fun g => by have := g.2; omega)]; exact a4, ⟨by rw [F 110 17 (fun g => by have := g.2; omega)]; exact a5, a6⟩, by omega⟩
theorem rgS.bad {hi' : en_I} (h : rgS X l o len q hi) (F : Fx Prd hi hi') (X' : rtS X hi') (W : rtF k pl hi') : rgB X l k pl hi' := by
  obtain ⟨a1, a2, a3, a4, ⟨a5, a6⟩, a7⟩ := h
  have := a2.n.1
  have := a1.1
  exact ⟨X', W, by rw [F 110 17 (fun g => by have := g.2; omega)]; exact a5, a6, len, by omega, by rw [F 110 19 (fun g => by have := g.2; omega)]; exact a4⟩
theorem r_word (hR : rfR hr) (h : rgS X l o len q hi) (H : ∀ hi', rgS X l o len q hi' → rtQ X q hi' → Fx Prd hi hi' → K (.inl (some (.int (iI (wdE X q : Int))))) hi' hl hr) : en_Call G (d + 2) xc xs Y_X11_word wN wN [.ref 110] hi hl hr K := m_word h.1 hR h.2.1 (fun hi' F X' Q => H hi' (h.to F.p4 X' Q.A (Nat.le_refl _)) Q F.p4)
/-- the byte there -/
def cvE (X : tTx) (q : Nat) : Nat := if q < X.2 then X.1 q else 0
theorem cv_lt (h : rtS X hi) : cvE X q < 256 := by
  unfold cvE
  by_cases w : q < X.2
  · rw [if_pos w]; exact (h.2.1 q w).1
  · rw [if_neg w]; omega
theorem cv_i {c : Nat} (hc : 0 < c) : cvE X q = c ↔ sgE X q c := by
  unfold cvE
  by_cases w : q < X.2
  · rw [if_pos w]; exact ⟨fun g => ⟨w, g⟩, fun g => g.2⟩
  · rw [if_neg w]; exact ⟨fun g => by omega, fun g => absurd g.1 w⟩
theorem r_here (hR : rfR hr) (h : rgS X l o len q hi) (H : ∀ hi', rgS X l o len q hi' → rtQ X q hi' → Fx Prd hi hi' → K (.inl (some (.int (iI (cvE X q : Int))))) hi' hl hr) : en_Call G (d + 1) xc xs Y_X11_here wN wN [.ref 110] hi hl hr K := m_here h.1 hR h.2.1 (fun hi' F X' Q => H hi' (h.to F.p4 X' Q.A (Nat.le_refl _)) Q F.p4)
theorem r_pass (hR : rfR hr) (h : rgS X l o len q hi) (Q : rtQ X q hi) (hw : wdE X q ≠ 0) (H : ∀ hi', rgS X l o len (nxE X q) hi' → Fx Prd hi hi' → K (.inl none) hi' hl hr) : en_Call G (d + 2) xc xs Y_X11_pass wN wN [.ref 110] hi hl hr K := m_passW h.1 hR Q hw (fun hi' F X' A' => H hi' (h.to F.p4 X' A' (by have := nx_gt (wd_let hw).2.1; omega)) F.p4)
theorem r_wrong {k : Nat} (hk : 1 ≤ k ∧ k ≤ 4) (h : rgS X l o len q hi) (H : ∀ hi', rgB X l k q hi' → Fx Prd hi hi' → K (.inl none) hi' hl hr) : en_Call G (d + 1) xc xs Y_X11_wrong wN wN [.ref 110, .int (iI (k : Int)), .int (iI (q : Int))] hi hl hr K := m_wrong1 h.2.1.1 ⟨hk.1, hk.2, by have := h.2.1.n.1; have := h.1.1; omega⟩ (fun hi' F W => H hi' (h.bad F (h.1.fx F (fun j g => by have := g.1; omega) (fun g => by have := g.2; omega)) W) F)
theorem f_fine (h : rgB X l k pl hi) (H : K (.inl (some (.int (iI 0)))) hi hl hr) : en_Call G (d + 1) xc xs Y_X11_fine wN wN [.ref 110] hi hl hr K := m_fine0 h.2.1 H
theorem r_fine (h : rgS X l o len q hi) (H : K (.inl (some (.int (iI 1)))) hi hl hr) : en_Call G (d + 1) xc xs Y_X11_fine wN wN [.ref 110] hi hl hr K := m_fine1 h.2.1.1 H
theorem f_remit {w v : Int32} (h : rgB X l k pl hi) (H : K (.inl none) hi hl hr) : en_Call G (d + 2) xc xs Y_X11_emit wN wN [.ref 110, .int w, .int v] hi hl hr K := by
  apply en_X11_emit
  simp (disch := omega) only [B_X11_emit_0, sh110, lt110, en_ops, en_opc, iI_add, iI_mul, iI_sub, jL_add, jL_mul, iI_le, iI_lt, iI_eq, iI_eq0, iI_lt0, iI_0le, iI_le0, iI_0lt, jL_iI, iI_jL, lc_eq, lc_lt, lc_le, lc_ge, lc_gt, Nat.sub_zero, Nat.zero_le, true_and, and_true, Nat.reduceAdd, Nat.reduceLeDiff]
  refine f_fine h ?_
  simp (disch := omega) only [en_ops, en_opc, iI_add, iI_mul, iI_sub, jL_add, jL_mul, iI_le, iI_lt, iI_eq, iI_eq0, iI_lt0, iI_0le, iI_le0, iI_0lt, jL_iI, iI_jL, lc_eq, lc_lt, lc_le, lc_ge, lc_gt, Nat.sub_zero, Nat.zero_le, true_and, and_true, Nat.reduceAdd, Nat.reduceLeDiff]
  exact ⟨fun g => (g (by first | trivial | rfl)).elim, fun _ => H⟩
theorem r_emit {w v : Int32} (hR : rfR hr) (h : rgS X l o len q hi) (hl9 : len < q) (H : ∀ hi', rgS X l o (len + 1) q hi' → Fx (rgP l len) hi hi' → hi' 119 (620 * l + len) = w → hi' 120 (620 * l + len) = v → K (.inl none) hi' hl hr) : en_Call G (d + 2) xc xs Y_X11_emit wN wN [.ref 110, .int w, .int v] hi hl hr K := by
  obtain ⟨a1, a2, a3, a4, ⟨a5, a6⟩, a7⟩ := id h
  have n1 := a2.n.1
  have l6 := a1.1
  obtain ⟨-, ⟨r20, r21, -⟩, -⟩ := id hR
  apply en_X11_emit
  simp (disch := omega) only [B_X11_emit_0, sh110, lt110, en_ops, en_opc, iI_add, iI_mul, iI_sub, jL_add, jL_mul, iI_le, iI_lt, iI_eq, iI_eq0, iI_lt0, iI_0le, iI_le0, iI_0lt, jL_iI, iI_jL, lc_eq, lc_lt, lc_le, lc_ge, lc_gt, Nat.sub_zero, Nat.zero_le, true_and, and_true, Nat.reduceAdd, Nat.reduceLeDiff]
  refine r_fine h ?_
  simp (disch := omega) only [sh110, lt110, sh119, lt119, sh120, lt120, a4, a5, r20, r21, en_ops, en_opc, iI_add, iI_mul, iI_sub, jL_add, jL_mul, iI_le, iI_lt, iI_eq, iI_eq0, iI_lt0, iI_0le, iI_le0, iI_0lt, jL_iI, iI_jL, lc_eq, lc_lt, lc_le, lc_ge, lc_gt, Nat.sub_zero, Nat.zero_le, true_and, and_true, Nat.reduceAdd, Nat.reduceLeDiff]
  refine ⟨fun _ => ?_, fun g => absurd g (by decide)⟩
  refine ⟨620 * l + len, iI_eq_of (by omega), by omega, ?_⟩
  rw [up_ne (Or.inl (by decide)), up_ne (Or.inl (by decide)), a5, a4]
  simp (disch := omega) only [en_ops, en_opc, iI_add, iI_mul, iI_sub, jL_add, jL_mul, iI_le, iI_lt, iI_eq, iI_eq0, iI_lt0, iI_0le, iI_le0, iI_0lt, jL_iI, iI_jL, lc_eq, lc_lt, lc_le, lc_ge, lc_gt, Nat.sub_zero, Nat.zero_le, true_and, and_true, Nat.reduceAdd, Nat.reduceLeDiff]
  refine ⟨620 * l + len, iI_eq_of (by omega), by omega, ?_⟩
  rw [up_ne (Or.inl (by decide)), up_ne (Or.inl (by decide)), a4]
  simp (disch := omega) only [en_ops, en_opc, iI_add, iI_mul, iI_sub, jL_add, jL_mul, iI_le, iI_lt, iI_eq, iI_eq0, iI_lt0, iI_0le, iI_le0, iI_0lt, jL_iI, iI_jL, lc_eq, lc_lt, lc_le, lc_ge, lc_gt, Nat.sub_zero, Nat.zero_le, true_and, and_true, Nat.reduceAdd, Nat.reduceLeDiff]
  have F2 : Fx (fun a j => (a = 110 ∧ j = 19) ∨ (a = 119 ∧ j = 620 * l + len) ∨ (a = 120 ∧ j = 620 * l + len)) hi (en_up (en_up (en_up hi 119 (620 * l + len) w) 120 (620 * l + len) v) 110 19 (iI ((len : Int) + 1))) := Fx.up (Fx.up (Fx.up Fx.rf (Or.inr (Or.inl ⟨rfl, rfl⟩))) (Or.inr (Or.inr ⟨rfl, rfl⟩))) (Or.inl ⟨rfl, rfl⟩)
  refine H _ ⟨a1.fx F2 (fun j g => by omega) (fun g => by omega), ?_, by rw [F2 110 7 (by omega)]; exact a3, up_at, ⟨by rw [F2 110 17 (by omega)]; exact a5, a6⟩, by omega⟩ (F2.mono (fun a j g => by unfold rgP; omega)) ?_ ?_
  · exact rtX.fx (X := X) (z := .inr q) a2 F2 (by omega) (by omega) (by omega)
  · rw [up_ne (Or.inl (by decide)), up_ne (Or.inl (by decide)), up_at]
  · rw [up_ne (Or.inl (by decide)), up_at]
theorem r_opens {b : Nat} (h : rgS X l o len q hi) (Q : rtQ X q hi) (ho : o ≤ 6) (hl9 : q < X.2) (hb : atE X q = q + b) (H1 : ¬ 6 ≤ o → ∀ hi', rgS X l (o + 1) len (nxE X q) hi' → Fx (rgP l len) hi hi' → K (.inl none) hi' hl hr) (H0 : 6 ≤ o → ∀ hi', rgB X l 3 q hi' → Fx (rgP l len) hi hi' → K (.inl none) hi' hl hr) : en_Call G (d + 2) xc xs Y_X11_opensOne wN wN [.ref 110, .int (iI (b : Int))] hi hl hr K := by
  obtain ⟨a1, a2, a3, a4, ⟨a5, a6⟩, a7⟩ := id h
  obtain ⟨q5, q0, qs, q4⟩ := id Q
  have l6 := a1.1
  apply en_X11_opensOne
  simp (disch := omega) only [B_X11_opensOne_0, sh110, lt110, en_ops, en_opc, iI_add, iI_mul, iI_sub, jL_add, jL_mul, iI_le, iI_lt, iI_eq, iI_eq0, iI_lt0, iI_0le, iI_le0, iI_0lt, jL_iI, iI_jL, lc_eq, lc_lt, lc_le, lc_ge, lc_gt, Nat.sub_zero, Nat.zero_le, true_and, and_true, Nat.reduceAdd, Nat.reduceLeDiff]
  refine r_fine h ?_
  simp (disch := omega) only [sh110, lt110, a3, q4, en_ops, en_opc, iI_add, iI_mul, iI_sub, jL_add, jL_mul, iI_le, iI_lt, iI_eq, iI_eq0, iI_lt0, iI_0le, iI_le0, iI_0lt, jL_iI, iI_jL, lc_eq, lc_lt, lc_le, lc_ge, lc_gt, Nat.sub_zero, Nat.zero_le, true_and, and_true, Nat.reduceAdd, Nat.reduceLeDiff]
  refine ⟨fun g => absurd g (by decide), fun _ => ⟨fun g => ?_, fun g => ?_⟩⟩
  · apply s_X11_opensOne_25
    simp (disch := omega) only [B_X11_opensOne_25, sh110, lt110, en_ops, en_opc, iI_add, iI_mul, iI_sub, jL_add, jL_mul, iI_le, iI_lt, iI_eq, iI_eq0, iI_lt0, iI_0le, iI_le0, iI_0lt, jL_iI, iI_jL, lc_eq, lc_lt, lc_le, lc_ge, lc_gt, Nat.sub_zero, Nat.zero_le, true_and, and_true, Nat.reduceAdd, Nat.reduceLeDiff]
    refine r_fine h ?_
    simp (disch := omega) only [sh110, lt110, q4, en_ops, en_opc, iI_add, iI_mul, iI_sub, jL_add, jL_mul, iI_le, iI_lt, iI_eq, iI_eq0, iI_lt0, iI_0le, iI_le0, iI_0lt, jL_iI, iI_jL, lc_eq, lc_lt, lc_le, lc_ge, lc_gt, Nat.sub_zero, Nat.zero_le, true_and, and_true, Nat.reduceAdd, Nat.reduceLeDiff]
    refine ⟨fun g => absurd g (by decide), fun _ => ?_⟩
    rw [up_ne (Or.inr (by decide)), a3]
    simp (disch := omega) only [en_ops, en_opc, iI_add, iI_mul, iI_sub, jL_add, jL_mul, iI_le, iI_lt, iI_eq, iI_eq0, iI_lt0, iI_0le, iI_le0, iI_0lt, jL_iI, iI_jL, lc_eq, lc_lt, lc_le, lc_ge, lc_gt, Nat.sub_zero, Nat.zero_le, true_and, and_true, Nat.reduceAdd, Nat.reduceLeDiff]
    have F2 : Fx (fun a j => a = 110 ∧ (j = 4 ∨ j = 7)) hi (en_up (en_up hi 110 4 (iI ((q : Int) + (b : Int)))) 110 7 (iI ((o : Int) + 1))) := Fx.up (Fx.up Fx.rf ⟨rfl, Or.inl rfl⟩) ⟨rfl, Or.inr rfl⟩
    have n1 := nx_gt hl9
    refine H1 (by omega) _ ⟨a1.fx F2 (fun j g => by omega) (fun g => by omega), ⟨by rw [F2 110 5 (by omega)]; exact q5, atE X q, (at_gt hl9).2, ?_, rfl⟩, up_at, by rw [F2 110 19 (by omega)]; exact a4, ⟨by rw [F2 110 17 (by omega)]; exact a5, a6⟩, by omega⟩ (F2.mono (fun a j g => by unfold rgP; omega))
    rw [up_ne (Or.inr (by decide)), up_at, hb]
    exact iI_eq_of (by omega)
  · refine r_wrong (k := 3) (by decide) h (fun h1 B1 F1 => ?_)
    simp (disch := omega) only [en_ops, en_opc, iI_add, iI_mul, iI_sub, jL_add, jL_mul, iI_le, iI_lt, iI_eq, iI_eq0, iI_lt0, iI_0le, iI_le0, iI_0lt, jL_iI, iI_jL, lc_eq, lc_lt, lc_le, lc_ge, lc_gt, Nat.sub_zero, Nat.zero_le, true_and, and_true, Nat.reduceAdd, Nat.reduceLeDiff]
    apply s_X11_opensOne_25
    simp (disch := omega) only [B_X11_opensOne_25, sh110, lt110, en_ops, en_opc, iI_add, iI_mul, iI_sub, jL_add, jL_mul, iI_le, iI_lt, iI_eq, iI_eq0, iI_lt0, iI_0le, iI_le0, iI_0lt, jL_iI, iI_jL, lc_eq, lc_lt, lc_le, lc_ge, lc_gt, Nat.sub_zero, Nat.zero_le, true_and, and_true, Nat.reduceAdd, Nat.reduceLeDiff]
    refine f_fine B1 ?_
    simp (disch := omega) only [sh110, lt110, en_ops, en_opc, iI_add, iI_mul, iI_sub, jL_add, jL_mul, iI_le, iI_lt, iI_eq, iI_eq0, iI_lt0, iI_0le, iI_le0, iI_0lt, jL_iI, iI_jL, lc_eq, lc_lt, lc_le, lc_ge, lc_gt, Nat.sub_zero, Nat.zero_le, true_and, and_true, Nat.reduceAdd, Nat.reduceLeDiff]
    refine ⟨fun _ => ?_, fun g => (g (by first | trivial | rfl)).elim⟩
    obtain ⟨b1, b2, b3, b4, m, b5, b6⟩ := id B1
    have F2 : Fx (fun a j => a = 110 ∧ j = 7) h1 (en_up h1 110 7 (h1 110 7 + iI 1)) := Fx.up Fx.rf ⟨rfl, rfl⟩
    exact H0 (by omega) _ ⟨b1.fx F2 (fun j g => by omega) (fun g => by omega), rtX.fx (X := X) (z := .inl (3, q)) b2 F2 (by omega) (by omega) (by omega), by rw [F2 110 17 (by omega)]; exact b3, b4, m, b5, by rw [F2 110 19 (by omega)]; exact b6⟩ (F1.prd.tr (F2.mono (fun a j g => by unfold rgP; omega)))
theorem r_close {o len q : Nat} {hi : en_I} (h : rgS X l (o + 1) len q hi) : rgS X l o len q (en_up hi 110 7 (hi 110 7 - iI 1)) ∧ Fx (rgP l len) hi (en_up hi 110 7 (hi 110 7 - iI 1)) := by
  obtain ⟨a1, a2, a3, a4, ⟨a5, a6⟩, a7⟩ := id h
  have F2 : Fx (fun a j => a = 110 ∧ j = 7) hi (en_up hi 110 7 (hi 110 7 - iI 1)) := Fx.up Fx.rf ⟨rfl, rfl⟩
  refine ⟨⟨a1.fx F2 (fun j g => by omega) (fun g => by omega), rtX.fx (X := X) (z := .inr q) a2 F2 (by omega) (by omega) (by omega), ?_, by rw [F2 110 19 (by omega)]; exact a4, ⟨by rw [F2 110 17 (by omega)]; exact a5, a6⟩, a7⟩, F2.mono (fun a j g => by unfold rgP; omega)⟩
  rw [up_at, a3, iI_sub]
  exact iI_eq_of (by omega)
theorem rf_close {k pl : Nat} {hi : en_I} (h : rgB X l k pl hi) : rgB X l k pl (en_up hi 110 7 (hi 110 7 - iI 1)) ∧ Fx (rgP l 0) hi (en_up hi 110 7 (hi 110 7 - iI 1)) := by
  obtain ⟨b1, b2, b3, b4, m, b5, b6⟩ := id h
  have F2 : Fx (fun a j => a = 110 ∧ j = 7) hi (en_up hi 110 7 (hi 110 7 - iI 1)) := Fx.up Fx.rf ⟨rfl, rfl⟩
  exact ⟨⟨b1.fx F2 (fun j g => by omega) (fun g => by omega), rtX.fx (X := X) (z := .inl (k, pl)) b2 F2 (by omega) (by omega) (by omega), by rw [F2 110 17 (by omega)]; exact b3, b4, m, b5, by rw [F2 110 19 (by omega)]; exact b6⟩, F2.mono (fun a j g => by unfold rgP; omega)⟩
theorem r_sign {c : Nat} (hc : isSg c) (hc0 : 0 < c ∧ c < 128) (hR : rfR hr) (h : rgS X l o len q hi) (H1 : sgE X q c → ∀ hi', rgS X l o len (nxE X q) hi' → Fx Prd hi hi' → K (.inl none) hi' hl hr) (H0 : ¬ sgE X q c → ∀ hi', rgB X l 1 q hi' → Fx Prd hi hi' → K (.inl none) hi' hl hr) : en_Call G (d + 2) xc xs Y_X11_sign wN wN [.ref 110, .int (iI (c : Int))] hi hl hr K := m_sign (z := .inr q) hc hc0 hR h.1 h.2.1 (fun hi' F X' H' => by
  replace H' : rtX X (if sgE X q c then .inr (nxE X q) else .inl (1, q)) hi' := H'
  by_cases g : sgE X q c
  · rw [if_pos g] at H'
    exact H1 g hi' (h.to F X' H' (by have := nx_gt g.1; omega)) F
  · rw [if_neg g] at H'
    exact H0 g hi' (h.bad F X' H') F)
theorem f_sign {c : Nat} (hR : rfR hr) (h : rgB X l k pl hi) (H : K (.inl none) hi hl hr) : en_Call G (d + 2) xc xs Y_X11_sign wN wN [.ref 110, .int (iI (c : Int))] hi hl hr K := by
  apply en_X11_sign
  simp (disch := omega) only [B_X11_sign_0, sh110, lt110, en_ops, en_opc, iI_add, iI_mul, iI_sub, jL_add, jL_mul, iI_le, iI_lt, iI_eq, iI_eq0, iI_lt0, iI_0le, iI_le0, iI_0lt, jL_iI, iI_jL, lc_eq, lc_lt, lc_le, lc_ge, lc_gt, Nat.sub_zero, Nat.zero_le, true_and, and_true, Nat.reduceAdd, Nat.reduceLeDiff]
  refine f_fine h ?_
  simp (disch := omega) only [sh110, lt110, en_ops, en_opc, iI_add, iI_mul, iI_sub, jL_add, jL_mul, iI_le, iI_lt, iI_eq, iI_eq0, iI_lt0, iI_0le, iI_le0, iI_0lt, jL_iI, iI_jL, lc_eq, lc_lt, lc_le, lc_ge, lc_gt, Nat.sub_zero, Nat.zero_le, true_and, and_true, Nat.reduceAdd, Nat.reduceLeDiff]
  refine ⟨fun _ => ?_, fun g => (g (by first | trivial | rfl)).elim⟩
  refine f_fine h ?_
  simp (disch := omega) only [sh110, lt110, en_ops, en_opc, iI_add, iI_mul, iI_sub, jL_add, jL_mul, iI_le, iI_lt, iI_eq, iI_eq0, iI_lt0, iI_0le, iI_le0, iI_0lt, jL_iI, iI_jL, lc_eq, lc_lt, lc_le, lc_ge, lc_gt, Nat.sub_zero, Nat.zero_le, true_and, and_true, Nat.reduceAdd, Nat.reduceLeDiff]
  exact ⟨fun _ => H, fun g => (g (by first | trivial | rfl)).elim⟩
theorem f_keyw {w : Int32} (h : rgB X l k pl hi) (H : K (.inl none) hi hl hr) : en_Call G (d + 2) xc xs Y_X11_keyword wN wN [.ref 110, .int w] hi hl hr K := by
  apply en_X11_keyword
  simp (disch := omega) only [B_X11_keyword_0, sh110, lt110, en_ops, en_opc, iI_add, iI_mul, iI_sub, jL_add, jL_mul, iI_le, iI_lt, iI_eq, iI_eq0, iI_lt0, iI_0le, iI_le0, iI_0lt, jL_iI, iI_jL, lc_eq, lc_lt, lc_le, lc_ge, lc_gt, Nat.sub_zero, Nat.zero_le, true_and, and_true, Nat.reduceAdd, Nat.reduceLeDiff]
  refine f_fine h ?_
  simp (disch := omega) only [sh110, lt110, en_ops, en_opc, iI_add, iI_mul, iI_sub, jL_add, jL_mul, iI_le, iI_lt, iI_eq, iI_eq0, iI_lt0, iI_0le, iI_le0, iI_0lt, jL_iI, iI_jL, lc_eq, lc_lt, lc_le, lc_ge, lc_gt, Nat.sub_zero, Nat.zero_le, true_and, and_true, Nat.reduceAdd, Nat.reduceLeDiff]
  refine ⟨fun _ => ?_, fun g => (g (by first | trivial | rfl)).elim⟩
  refine f_fine h ?_
  simp (disch := omega) only [sh110, lt110, en_ops, en_opc, iI_add, iI_mul, iI_sub, jL_add, jL_mul, iI_le, iI_lt, iI_eq, iI_eq0, iI_lt0, iI_0le, iI_le0, iI_0lt, jL_iI, iI_jL, lc_eq, lc_lt, lc_le, lc_ge, lc_gt, Nat.sub_zero, Nat.zero_le, true_and, and_true, Nat.reduceAdd, Nat.reduceLeDiff]
  exact ⟨fun _ => H, fun g => (g (by first | trivial | rfl)).elim⟩
theorem r_keyw {j : Nat} (hj : isWd j) (hR : rfR hr) (h : rgS X l o len q hi) (H1 : wdE X q = pkJ j → ∀ hi', rgS X l o len (nxE X q) hi' → Fx Prd hi hi' → K (.inl none) hi' hl hr) (H0 : ¬ wdE X q = pkJ j → ∀ hi', rgB X l 1 q hi' → Fx Prd hi hi' → K (.inl none) hi' hl hr) : en_Call G (d + 3) xc xs Y_X11_keyword wN wN [.ref 110, .int (iI (pkJ j : Int))] hi hl hr K := m_keyword (z := .inr q) hj hR h.1 h.2.1 (fun hi' F X' H' => by
  replace H' : rtX X (if wdE X q = pkJ j then .inr (nxE X q) else .inl (1, q)) hi' := H'
  by_cases g : wdE X q = pkJ j
  · rw [if_pos g] at H'
    exact H1 g hi' (h.to F X' H' (by have := nx_gt (wd_let (X := X) (q := q) (by rw [g]; exact pk_pos hj)).2.1; omega)) F
  · rw [if_neg g] at H'
    exact H0 g hi' (h.bad F X' H') F)
theorem m_nameOf {w : Nat} (hw : w < 1073741824) (H : K (.inl (some (.int (iI (if nmE w < 9 then (nmE w : Int) else -1))))) hi hl hr) : en_Call G (d + 6) xc xs Y_X11_nameOf wN wN [.int (iI (w : Int))] hi hl hr K := by
  have e : nmE w = if w = 632645 then 0 else if w = 20600006 then 1 else if w = 1130181 then 2 else if w = 2273783 then 3 else if w = 273980692 then 4 else if w = 70708 then 5 else if w = 215533 then 6 else if w = 3741300 then 7 else if w = 103820 then 8 else 9 := rfl
  rw [e] at H
  apply en_X11_nameOf
  simp (disch := omega) only [B_X11_nameOf_0, en_ops, en_opc, iI_add, iI_mul, iI_sub, jL_add, jL_mul, iI_le, iI_lt, iI_eq, iI_eq0, iI_lt0, iI_0le, iI_le0, iI_0lt, jL_iI, iI_jL, lc_eq, lc_lt, lc_le, lc_ge, lc_gt, Nat.sub_zero, Nat.zero_le, true_and, and_true, Nat.reduceAdd, Nat.reduceLeDiff]
  refine m_of (j := 48) iw48 ?_
  rw [pk48]
  simp (disch := omega) only [en_ops, en_opc, iI_add, iI_mul, iI_sub, jL_add, jL_mul, iI_le, iI_lt, iI_eq, iI_eq0, iI_lt0, iI_0le, iI_le0, iI_0lt, jL_iI, iI_jL, lc_eq, lc_lt, lc_le, lc_ge, lc_gt, Nat.sub_zero, Nat.zero_le, true_and, and_true, Nat.reduceAdd, Nat.reduceLeDiff]
  by_cases w48 : w = 632645
  · rw [if_pos w48] at H
    exact ⟨fun g => absurd (show (w : Int) = _ by omega) g, fun _ => H⟩
  rw [if_neg w48] at H
  refine ⟨fun _ => ?_, fun g => absurd g (by omega)⟩
  refine m_of (j := 49) iw49 ?_
  rw [pk49]
  simp (disch := omega) only [en_ops, en_opc, iI_add, iI_mul, iI_sub, jL_add, jL_mul, iI_le, iI_lt, iI_eq, iI_eq0, iI_lt0, iI_0le, iI_le0, iI_0lt, jL_iI, iI_jL, lc_eq, lc_lt, lc_le, lc_ge, lc_gt, Nat.sub_zero, Nat.zero_le, true_and, and_true, Nat.reduceAdd, Nat.reduceLeDiff]
  by_cases w49 : w = 20600006
  · rw [if_pos w49] at H
    exact ⟨fun g => absurd (show (w : Int) = _ by omega) g, fun _ => H⟩
  rw [if_neg w49] at H
  refine ⟨fun _ => ?_, fun g => absurd g (by omega)⟩
  refine m_of (j := 50) iw50 ?_
  rw [pk50]
  simp (disch := omega) only [en_ops, en_opc, iI_add, iI_mul, iI_sub, jL_add, jL_mul, iI_le, iI_lt, iI_eq, iI_eq0, iI_lt0, iI_0le, iI_le0, iI_0lt, jL_iI, iI_jL, lc_eq, lc_lt, lc_le, lc_ge, lc_gt, Nat.sub_zero, Nat.zero_le, true_and, and_true, Nat.reduceAdd, Nat.reduceLeDiff]
  by_cases w50 : w = 1130181
  · rw [if_pos w50] at H
    exact ⟨fun g => absurd (show (w : Int) = _ by omega) g, fun _ => H⟩
  rw [if_neg w50] at H
  refine ⟨fun _ => ?_, fun g => absurd g (by omega)⟩
  refine m_of (j := 51) iw51 ?_
  rw [pk51]
  simp (disch := omega) only [en_ops, en_opc, iI_add, iI_mul, iI_sub, jL_add, jL_mul, iI_le, iI_lt, iI_eq, iI_eq0, iI_lt0, iI_0le, iI_le0, iI_0lt, jL_iI, iI_jL, lc_eq, lc_lt, lc_le, lc_ge, lc_gt, Nat.sub_zero, Nat.zero_le, true_and, and_true, Nat.reduceAdd, Nat.reduceLeDiff]
  by_cases w51 : w = 2273783
  · rw [if_pos w51] at H
    exact ⟨fun g => absurd (show (w : Int) = _ by omega) g, fun _ => H⟩
  rw [if_neg w51] at H
  refine ⟨fun _ => ?_, fun g => absurd g (by omega)⟩
  refine m_of (j := 52) iw52 ?_
  rw [pk52]
  simp (disch := omega) only [en_ops, en_opc, iI_add, iI_mul, iI_sub, jL_add, jL_mul, iI_le, iI_lt, iI_eq, iI_eq0, iI_lt0, iI_0le, iI_le0, iI_0lt, jL_iI, iI_jL, lc_eq, lc_lt, lc_le, lc_ge, lc_gt, Nat.sub_zero, Nat.zero_le, true_and, and_true, Nat.reduceAdd, Nat.reduceLeDiff]
  by_cases w52 : w = 273980692
  · rw [if_pos w52] at H
    exact ⟨fun g => absurd (show (w : Int) = _ by omega) g, fun _ => H⟩
  rw [if_neg w52] at H
  refine ⟨fun _ => ?_, fun g => absurd g (by omega)⟩
  refine m_of (j := 53) iw53 ?_
  rw [pk53]
  simp (disch := omega) only [en_ops, en_opc, iI_add, iI_mul, iI_sub, jL_add, jL_mul, iI_le, iI_lt, iI_eq, iI_eq0, iI_lt0, iI_0le, iI_le0, iI_0lt, jL_iI, iI_jL, lc_eq, lc_lt, lc_le, lc_ge, lc_gt, Nat.sub_zero, Nat.zero_le, true_and, and_true, Nat.reduceAdd, Nat.reduceLeDiff]
  by_cases w53 : w = 70708
  · rw [if_pos w53] at H
    exact ⟨fun g => absurd (show (w : Int) = _ by omega) g, fun _ => H⟩
  rw [if_neg w53] at H
  refine ⟨fun _ => ?_, fun g => absurd g (by omega)⟩
  refine m_of (j := 54) iw54 ?_
  rw [pk54]
  simp (disch := omega) only [en_ops, en_opc, iI_add, iI_mul, iI_sub, jL_add, jL_mul, iI_le, iI_lt, iI_eq, iI_eq0, iI_lt0, iI_0le, iI_le0, iI_0lt, jL_iI, iI_jL, lc_eq, lc_lt, lc_le, lc_ge, lc_gt, Nat.sub_zero, Nat.zero_le, true_and, and_true, Nat.reduceAdd, Nat.reduceLeDiff]
  by_cases w54 : w = 215533
  · rw [if_pos w54] at H
    exact ⟨fun g => absurd (show (w : Int) = _ by omega) g, fun _ => H⟩
  rw [if_neg w54] at H
  refine ⟨fun _ => ?_, fun g => absurd g (by omega)⟩
  refine m_of (j := 35) iw35 ?_
  rw [pk35]
  simp (disch := omega) only [en_ops, en_opc, iI_add, iI_mul, iI_sub, jL_add, jL_mul, iI_le, iI_lt, iI_eq, iI_eq0, iI_lt0, iI_0le, iI_le0, iI_0lt, jL_iI, iI_jL, lc_eq, lc_lt, lc_le, lc_ge, lc_gt, Nat.sub_zero, Nat.zero_le, true_and, and_true, Nat.reduceAdd, Nat.reduceLeDiff]
  by_cases w35 : w = 3741300
  · rw [if_pos w35] at H
    exact ⟨fun g => absurd (show (w : Int) = _ by omega) g, fun _ => H⟩
  rw [if_neg w35] at H
  refine ⟨fun _ => ?_, fun g => absurd g (by omega)⟩
  refine m_of (j := 55) iw55 ?_
  rw [pk55]
  simp (disch := omega) only [en_ops, en_opc, iI_add, iI_mul, iI_sub, jL_add, jL_mul, iI_le, iI_lt, iI_eq, iI_eq0, iI_lt0, iI_0le, iI_le0, iI_0lt, jL_iI, iI_jL, lc_eq, lc_lt, lc_le, lc_ge, lc_gt, Nat.sub_zero, Nat.zero_le, true_and, and_true, Nat.reduceAdd, Nat.reduceLeDiff]
  by_cases w55 : w = 103820
  · rw [if_pos w55] at H
    exact ⟨fun g => absurd (show (w : Int) = _ by omega) g, fun _ => H⟩
  rw [if_neg w55] at H
  refine ⟨fun _ => ?_, fun g => absurd g (by omega)⟩
  exact H
/-! behind a fault nothing is read -/
theorem fr_unit (h : rgB X l k pl hi) (H : K (.inl none) hi hl hr) : en_Call G (d + 2) xc xs Y_X11_unit wN wN [.ref 110] hi hl hr K := by
  apply en_X11_unit
  simp (disch := omega) only [B_X11_unit_0, sh110, lt110, en_ops, en_opc, iI_add, iI_mul, iI_sub, jL_add, jL_mul, iI_le, iI_lt, iI_eq, iI_eq0, iI_lt0, iI_0le, iI_le0, iI_0lt, jL_iI, iI_jL, lc_eq, lc_lt, lc_le, lc_ge, lc_gt, Nat.sub_zero, Nat.zero_le, true_and, and_true, Nat.reduceAdd, Nat.reduceLeDiff]
  refine f_fine h ?_
  simp (disch := omega) only [en_ops, en_opc, iI_add, iI_mul, iI_sub, jL_add, jL_mul, iI_le, iI_lt, iI_eq, iI_eq0, iI_lt0, iI_0le, iI_le0, iI_0lt, jL_iI, iI_jL, lc_eq, lc_lt, lc_le, lc_ge, lc_gt, Nat.sub_zero, Nat.zero_le, true_and, and_true, Nat.reduceAdd, Nat.reduceLeDiff]
  exact ⟨fun g => (g (by first | trivial | rfl)).elim, fun _ => H⟩
theorem fr_whole (h : rgB X l k pl hi) (H : K (.inl none) hi hl hr) : en_Call G (d + 2) xc xs Y_X11_whole wN wN [.ref 110] hi hl hr K := by
  apply en_X11_whole
  simp (disch := omega) only [B_X11_whole_0, sh110, lt110, en_ops, en_opc, iI_add, iI_mul, iI_sub, jL_add, jL_mul, iI_le, iI_lt, iI_eq, iI_eq0, iI_lt0, iI_0le, iI_le0, iI_0lt, jL_iI, iI_jL, lc_eq, lc_lt, lc_le, lc_ge, lc_gt, Nat.sub_zero, Nat.zero_le, true_and, and_true, Nat.reduceAdd, Nat.reduceLeDiff]
  refine f_fine h ?_
  simp (disch := omega) only [en_ops, en_opc, iI_add, iI_mul, iI_sub, jL_add, jL_mul, iI_le, iI_lt, iI_eq, iI_eq0, iI_lt0, iI_0le, iI_le0, iI_0lt, jL_iI, iI_jL, lc_eq, lc_lt, lc_le, lc_ge, lc_gt, Nat.sub_zero, Nat.zero_le, true_and, and_true, Nat.reduceAdd, Nat.reduceLeDiff]
  exact ⟨fun g => (g (by first | trivial | rfl)).elim, fun _ => H⟩
theorem fr_one (h : rgB X l k pl hi) (H : K (.inl none) hi hl hr) : en_Call G (d + 2) xc xs Y_X11_oneOf wN wN [.ref 110] hi hl hr K := by
  apply en_X11_oneOf
  simp (disch := omega) only [B_X11_oneOf_0, sh110, lt110, en_ops, en_opc, iI_add, iI_mul, iI_sub, jL_add, jL_mul, iI_le, iI_lt, iI_eq, iI_eq0, iI_lt0, iI_0le, iI_le0, iI_0lt, jL_iI, iI_jL, lc_eq, lc_lt, lc_le, lc_ge, lc_gt, Nat.sub_zero, Nat.zero_le, true_and, and_true, Nat.reduceAdd, Nat.reduceLeDiff]
  refine f_fine h ?_
  simp (disch := omega) only [en_ops, en_opc, iI_add, iI_mul, iI_sub, jL_add, jL_mul, iI_le, iI_lt, iI_eq, iI_eq0, iI_lt0, iI_0le, iI_le0, iI_0lt, jL_iI, iI_jL, lc_eq, lc_lt, lc_le, lc_ge, lc_gt, Nat.sub_zero, Nat.zero_le, true_and, and_true, Nat.reduceAdd, Nat.reduceLeDiff]
  exact ⟨fun g => (g (by first | trivial | rfl)).elim, fun _ => H⟩
theorem fr_wl {ls : List Value} (hls : ls.length = 1) (h : rgB X l k pl hi) (H : K (.inl none) hi hl hr) : en_V G Y_X11_whole (d + 2) wN wN K 77 (.ref 110 :: ls) [] hi hl hr xc xs := by
  apply s_X11_whole_77
  simp (disch := omega) only [B_X11_whole_77, sh110, lt110, en_ops, en_opc, iI_add, iI_mul, iI_sub, jL_add, jL_mul, iI_le, iI_lt, iI_eq, iI_eq0, iI_lt0, iI_0le, iI_le0, iI_0lt, jL_iI, iI_jL, lc_eq, lc_lt, lc_le, lc_ge, lc_gt, Nat.sub_zero, Nat.zero_le, true_and, and_true, Nat.reduceAdd, Nat.reduceLeDiff]
  refine f_fine h ?_
  simp (disch := omega) only [en_ops, en_opc, iI_add, iI_mul, iI_sub, jL_add, jL_mul, iI_le, iI_lt, iI_eq, iI_eq0, iI_lt0, iI_0le, iI_le0, iI_0lt, jL_iI, iI_jL, lc_eq, lc_lt, lc_le, lc_ge, lc_gt, Nat.sub_zero, Nat.zero_le, true_and, and_true, Nat.reduceAdd, Nat.reduceLeDiff]
  exact ⟨fun _ => H, fun g => (g (by first | trivial | rfl)).elim⟩
theorem fr_pl {ls : List Value} (hls : ls.length = 1) (h : rgB X l k pl hi) (H : K (.inl none) hi hl hr) : en_V G Y_X11_product (d + 2) wN wN K 4 (.ref 110 :: ls) [] hi hl hr xc xs := by
  apply s_X11_product_4
  simp (disch := omega) only [B_X11_product_4, sh110, lt110, en_ops, en_opc, iI_add, iI_mul, iI_sub, jL_add, jL_mul, iI_le, iI_lt, iI_eq, iI_eq0, iI_lt0, iI_0le, iI_le0, iI_0lt, jL_iI, iI_jL, lc_eq, lc_lt, lc_le, lc_ge, lc_gt, Nat.sub_zero, Nat.zero_le, true_and, and_true, Nat.reduceAdd, Nat.reduceLeDiff]
  refine f_fine h ?_
  simp (disch := omega) only [en_ops, en_opc, iI_add, iI_mul, iI_sub, jL_add, jL_mul, iI_le, iI_lt, iI_eq, iI_eq0, iI_lt0, iI_0le, iI_le0, iI_0lt, jL_iI, iI_jL, lc_eq, lc_lt, lc_le, lc_ge, lc_gt, Nat.sub_zero, Nat.zero_le, true_and, and_true, Nat.reduceAdd, Nat.reduceLeDiff]
  exact ⟨fun _ => H, fun g => (g (by first | trivial | rfl)).elim⟩
theorem fr_yl {ls : List Value} (hls : ls.length = 0) (h : rgB X l k pl hi) (H : K (.inl none) hi hl hr) : en_V G Y_X11_anyOf (d + 2) wN wN K 4 (.ref 110 :: ls) [] hi hl hr xc xs := by
  apply s_X11_anyOf_4
  simp (disch := omega) only [B_X11_anyOf_4, sh110, lt110, en_ops, en_opc, iI_add, iI_mul, iI_sub, jL_add, jL_mul, iI_le, iI_lt, iI_eq, iI_eq0, iI_lt0, iI_0le, iI_le0, iI_0lt, jL_iI, iI_jL, lc_eq, lc_lt, lc_le, lc_ge, lc_gt, Nat.sub_zero, Nat.zero_le, true_and, and_true, Nat.reduceAdd, Nat.reduceLeDiff]
  refine f_fine h ?_
  simp (disch := omega) only [en_ops, en_opc, iI_add, iI_mul, iI_sub, jL_add, jL_mul, iI_le, iI_lt, iI_eq, iI_eq0, iI_lt0, iI_0le, iI_le0, iI_0lt, jL_iI, iI_jL, lc_eq, lc_lt, lc_le, lc_ge, lc_gt, Nat.sub_zero, Nat.zero_le, true_and, and_true, Nat.reduceAdd, Nat.reduceLeDiff]
  exact ⟨fun _ => H, fun g => (g (by first | trivial | rfl)).elim⟩
theorem fr_ll {ls : List Value} (hls : ls.length = 0) (h : rgB X l k pl hi) (H : K (.inl none) hi hl hr) : en_V G Y_X11_allOf (d + 2) wN wN K 4 (.ref 110 :: ls) [] hi hl hr xc xs := by
  apply s_X11_allOf_4
  simp (disch := omega) only [B_X11_allOf_4, sh110, lt110, en_ops, en_opc, iI_add, iI_mul, iI_sub, jL_add, jL_mul, iI_le, iI_lt, iI_eq, iI_eq0, iI_lt0, iI_0le, iI_le0, iI_0lt, jL_iI, iI_jL, lc_eq, lc_lt, lc_le, lc_ge, lc_gt, Nat.sub_zero, Nat.zero_le, true_and, and_true, Nat.reduceAdd, Nat.reduceLeDiff]
  refine f_fine h ?_
  simp (disch := omega) only [en_ops, en_opc, iI_add, iI_mul, iI_sub, jL_add, jL_mul, iI_le, iI_lt, iI_eq, iI_eq0, iI_lt0, iI_0le, iI_le0, iI_0lt, jL_iI, iI_jL, lc_eq, lc_lt, lc_le, lc_ge, lc_gt, Nat.sub_zero, Nat.zero_le, true_and, and_true, Nat.reduceAdd, Nat.reduceLeDiff]
  exact ⟨fun _ => H, fun g => (g (by first | trivial | rfl)).elim⟩
theorem fr_prod (h : rgB X l k pl hi) (H : K (.inl none) hi hl hr) : en_Call G (d + 3) xc xs Y_X11_product wN wN [.ref 110] hi hl hr K := by
  apply en_X11_product
  simp (disch := omega) only [B_X11_product_0, sh110, lt110, en_ops, en_opc, iI_add, iI_mul, iI_sub, jL_add, jL_mul, iI_le, iI_lt, iI_eq, iI_eq0, iI_lt0, iI_0le, iI_le0, iI_0lt, jL_iI, iI_jL, lc_eq, lc_lt, lc_le, lc_ge, lc_gt, Nat.sub_zero, Nat.zero_le, true_and, and_true, Nat.reduceAdd, Nat.reduceLeDiff]
  refine fr_unit h ?_
  simp (disch := omega) only [en_ops, en_opc, iI_add, iI_mul, iI_sub, jL_add, jL_mul, iI_le, iI_lt, iI_eq, iI_eq0, iI_lt0, iI_0le, iI_le0, iI_0lt, jL_iI, iI_jL, lc_eq, lc_lt, lc_le, lc_ge, lc_gt, Nat.sub_zero, Nat.zero_le, true_and, and_true, Nat.reduceAdd, Nat.reduceLeDiff]
  exact fr_pl (d := d + 1) rfl h H
theorem fr_all (h : rgB X l k pl hi) (H : K (.inl none) hi hl hr) : en_Call G (d + 3) xc xs Y_X11_allOf wN wN [.ref 110] hi hl hr K := by
  apply en_X11_allOf
  simp (disch := omega) only [B_X11_allOf_0, sh110, lt110, en_ops, en_opc, iI_add, iI_mul, iI_sub, jL_add, jL_mul, iI_le, iI_lt, iI_eq, iI_eq0, iI_lt0, iI_0le, iI_le0, iI_0lt, jL_iI, iI_jL, lc_eq, lc_lt, lc_le, lc_ge, lc_gt, Nat.sub_zero, Nat.zero_le, true_and, and_true, Nat.reduceAdd, Nat.reduceLeDiff]
  refine fr_one h ?_
  simp (disch := omega) only [en_ops, en_opc, iI_add, iI_mul, iI_sub, jL_add, jL_mul, iI_le, iI_lt, iI_eq, iI_eq0, iI_lt0, iI_0le, iI_le0, iI_0lt, jL_iI, iI_jL, lc_eq, lc_lt, lc_le, lc_ge, lc_gt, Nat.sub_zero, Nat.zero_le, true_and, and_true, Nat.reduceAdd, Nat.reduceLeDiff]
  exact fr_ll (d := d + 1) rfl h H
theorem fr_any (h : rgB X l k pl hi) (H : K (.inl none) hi hl hr) : en_Call G (d + 4) xc xs Y_X11_anyOf wN wN [.ref 110] hi hl hr K := by
  apply en_X11_anyOf
  simp (disch := omega) only [B_X11_anyOf_0, sh110, lt110, en_ops, en_opc, iI_add, iI_mul, iI_sub, jL_add, jL_mul, iI_le, iI_lt, iI_eq, iI_eq0, iI_lt0, iI_0le, iI_le0, iI_0lt, jL_iI, iI_jL, lc_eq, lc_lt, lc_le, lc_ge, lc_gt, Nat.sub_zero, Nat.zero_le, true_and, and_true, Nat.reduceAdd, Nat.reduceLeDiff]
  refine fr_all h ?_
  simp (disch := omega) only [en_ops, en_opc, iI_add, iI_mul, iI_sub, jL_add, jL_mul, iI_le, iI_lt, iI_eq, iI_eq0, iI_lt0, iI_0le, iI_le0, iI_0lt, jL_iI, iI_jL, lc_eq, lc_lt, lc_le, lc_ge, lc_gt, Nat.sub_zero, Nat.zero_le, true_and, and_true, Nat.reduceAdd, Nat.reduceLeDiff]
  exact fr_yl (d := d + 2) rfl h H
end
