/-! the reading of the reference -/
def P4 (a j : Nat) : Prop := a = 110 ∧ j = 4
def Prd (a j : Nat) : Prop := a = 110 ∧ (j = 4 ∨ j = 5 ∨ j = 6)
def rtS (X : tTx) (hi : en_I) : Prop := X.2 ≤ 600 ∧ (∀ j, j < X.2 → X.1 j < 256 ∧ hi 112 j = iI (X.1 j : Int)) ∧ hi 110 3 = iI (X.2 : Int)
/-- without a fault, ahead of q -/
def rtA (X : tTx) (q : Nat) (hi : en_I) : Prop := hi 110 5 = iI (-1) ∧ ∃ p, p ≤ X.2 ∧ hi 110 4 = iI (p : Int) ∧ skE X p = q
/-- without a fault, at q -/
def rtQ (X : tTx) (q : Nat) (hi : en_I) : Prop := hi 110 5 = iI (-1) ∧ q ≤ X.2 ∧ skE X q = q ∧ hi 110 4 = iI (q : Int)
def rtF (k pl : Nat) (hi : en_I) : Prop := (1 ≤ k ∧ k ≤ 4 ∧ pl ≤ 600) ∧ hi 110 5 = iI (pl : Int) ∧ hi 110 6 = iI (k : Int)
def rtX (X : tTx) (z : tZ) (hi : en_I) : Prop := match z with
  | .inl e => rtF e.1 e.2 hi
  | .inr q => rtA X q hi
theorem rtQ.A {X : tTx} {q : Nat} {hi : en_I} (h : rtQ X q hi) : rtA X q hi := ⟨h.1, q, h.2.1, h.2.2.2, h.2.2.1⟩
theorem rtA.n {X : tTx} {q : Nat} {hi : en_I} (h : rtA X q hi) : q ≤ X.2 ∧ skE X q = q := by
  obtain ⟨-, p, h1, -, h3⟩ := h
  rw [← h3]
  exact ⟨rt_le h1, sk_id h1⟩
theorem rtS.fx {X : tTx} {P : Nat → Nat → Prop} {hi hi' : en_I} (h : rtS X hi) (F : Fx P hi hi') (hP : ∀ j, ¬ P 112 j) (h3 : ¬ P 110 3) : rtS X hi' := ⟨h.1, fun j hj => ⟨(h.2.1 j hj).1, by rw [F 112 j (hP j)]; exact (h.2.1 j hj).2⟩, by rw [F 110 3 h3]; exact h.2.2⟩
theorem rtX.fx {X : tTx} {z : tZ} {P : Nat → Nat → Prop} {hi hi' : en_I} (h : rtX X z hi) (F : Fx P hi hi') (h4 : ¬ P 110 4) (h5 : ¬ P 110 5) (h6 : ¬ P 110 6) : rtX X z hi' := by
  rcases z with e | q
  · obtain ⟨a1, a2, a3⟩ := h
    exact ⟨a1, by rw [F 110 5 h5]; exact a2, by rw [F 110 6 h6]; exact a3⟩
  · obtain ⟨a1, p, a2, a3, a4⟩ := h
    exact ⟨by rw [F 110 5 h5]; exact a1, p, a2, by rw [F 110 4 h4]; exact a3, a4⟩
section
variable {G : en_G} {d : Nat} {K : en_K} {X : tTx} {z : tZ} {q : Nat} {hi : en_I} {hl : en_L} {hr : en_F} {xc xs : Nat}
theorem m_fine1 (h : hi 110 5 = iI (-1)) (H : K (.inl (some (.int (iI 1)))) hi hl hr) : en_Call G (d + 1) xc xs Y_X11_fine wN wN [.ref 110] hi hl hr K := by
  apply en_X11_fine
  simp (disch := omega) only [B_X11_fine_0, sh110, lt110, h, en_ops, en_opc, iI_add, iI_mul, iI_sub, jL_add, jL_mul, iI_le, iI_lt, iI_eq, iI_eq0, iI_lt0, iI_0le, iI_le0, iI_0lt, jL_iI, iI_jL, lc_eq, lc_lt, lc_le, lc_ge, lc_gt, Nat.sub_zero, Nat.zero_le, true_and, and_true, Nat.reduceAdd, Nat.reduceLeDiff]
  exact ⟨fun g => (g (by first | trivial | rfl)).elim, fun _ => ⟨rfl, H⟩⟩
theorem m_fine0 {k pl : Nat} (h : rtF k pl hi) (H : K (.inl (some (.int (iI 0)))) hi hl hr) : en_Call G (d + 1) xc xs Y_X11_fine wN wN [.ref 110] hi hl hr K := by
  obtain ⟨b, h5, -⟩ := h
  apply en_X11_fine
  simp (disch := omega) only [B_X11_fine_0, sh110, lt110, h5, en_ops, en_opc, iI_add, iI_mul, iI_sub, jL_add, jL_mul, iI_le, iI_lt, iI_eq, iI_eq0, iI_lt0, iI_0le, iI_le0, iI_0lt, jL_iI, iI_jL, lc_eq, lc_lt, lc_le, lc_ge, lc_gt, Nat.sub_zero, Nat.zero_le, true_and, and_true, Nat.reduceAdd, Nat.reduceLeDiff]
  exact ⟨fun _ => ⟨rfl, H⟩, fun g => absurd g (by omega)⟩
theorem m_wrong1 {k : Nat} {pl : Nat} (h : hi 110 5 = iI (-1)) (hk : 1 ≤ k ∧ k ≤ 4 ∧ pl ≤ 600) (H : ∀ hi', Fx Prd hi hi' → rtF k pl hi' → K (.inl none) hi' hl hr) : en_Call G (d + 1) xc xs Y_X11_wrong wN wN [.ref 110, .int (iI (k : Int)), .int (iI (pl : Int))] hi hl hr K := by
  apply en_X11_wrong
  simp (disch := omega) only [B_X11_wrong_0, sh110, lt110, h, en_ops, en_opc, iI_add, iI_mul, iI_sub, jL_add, jL_mul, iI_le, iI_lt, iI_eq, iI_eq0, iI_lt0, iI_0le, iI_le0, iI_0lt, jL_iI, iI_jL, lc_eq, lc_lt, lc_le, lc_ge, lc_gt, Nat.sub_zero, Nat.zero_le, true_and, and_true, Nat.reduceAdd, Nat.reduceLeDiff]
  refine ⟨fun _ => H _ (Fx.up (Fx.up Fx.rf ⟨rfl, by decide⟩) ⟨rfl, by decide⟩) ⟨hk, ?_, up_at⟩, fun g => (g (by first | trivial | rfl)).elim⟩
  rw [up_ne (Or.inr (by decide)), up_at]
theorem m_wrong0 {k pl : Nat} {k2 pl2 : Int32} (h : rtF k pl hi) (H : K (.inl none) hi hl hr) : en_Call G (d + 1) xc xs Y_X11_wrong wN wN [.ref 110, .int k2, .int pl2] hi hl hr K := by
  obtain ⟨b, h5, -⟩ := h
  apply en_X11_wrong
  simp (disch := omega) only [B_X11_wrong_0, sh110, lt110, h5, en_ops, en_opc, iI_add, iI_mul, iI_sub, jL_add, jL_mul, iI_le, iI_lt, iI_eq, iI_eq0, iI_lt0, iI_0le, iI_le0, iI_0lt, jL_iI, iI_jL, lc_eq, lc_lt, lc_le, lc_ge, lc_gt, Nat.sub_zero, Nat.zero_le, true_and, and_true, Nat.reduceAdd, Nat.reduceLeDiff]
  exact ⟨fun g => absurd g (by omega), fun _ => H⟩
theorem rt4 {h9 : en_I} {p : Nat} (hX : rtS X h9) (v : Int32) : rtS X (en_up h9 110 4 v) := hX.fx (P := P4) (Fx.up Fx.rf ⟨rfl, rfl⟩) (fun j g => by have := g.1; omega) (fun g => by have := g.2; omega)
/-- here: at the token -/
theorem m_here0 (hR : rfR hr) : ∀ (m p : Nat) (h9 : en_I), X.2 - p = m → p ≤ X.2 → skE X p = q → rtS X h9 → h9 110 5 = iI (-1) → h9 110 4 = iI (p : Int) →
    (∀ hi', Fx P4 h9 hi' → rtS X hi' → rtQ X q hi' → K (.inl (some (.int (iI ((if q < X.2 then X.1 q else 0 : Nat) : Int))))) hi' hl hr) → B_X11_here_0 G d K [.ref 110] [] h9 hl hr xc xs := by
  obtain ⟨⟨-, r9, -⟩, -⟩ := id hR
  intro m
  induction m with
  | zero =>
    intro p h9 hm hp he hX h5 h4 H
    have l6 := hX.1
    have e3 := hX.2.2
    have ep : q = p := by rw [← he]; exact rt_e (by omega)
    simp (disch := omega) only [B_X11_here_0, sh110, lt110, h4, e3, en_ops, en_opc, iI_add, iI_mul, iI_sub, jL_add, jL_mul, iI_le, iI_lt, iI_eq, iI_eq0, iI_lt0, iI_0le, iI_le0, iI_0lt, jL_iI, iI_jL, lc_eq, lc_lt, lc_le, lc_ge, lc_gt, Nat.sub_zero, Nat.zero_le, true_and, and_true, Nat.reduceAdd, Nat.reduceLeDiff]
    refine ⟨fun _ => ⟨fun _ => ?_, fun g => absurd (show (X.2 : Int) ≤ p by omega) g⟩, fun g => absurd (show (X.2 : Int) ≤ p by omega) g⟩
    have := H h9 Fx.rf hX ⟨h5, by omega, by rw [ep]; exact rt_e (by omega), by rw [h4, ep]⟩
    rw [if_neg (by omega)] at this
    exact this
  | succ m ih =>
    intro p h9 hm hp he hX h5 h4 H
    have l6 := hX.1
    have e3 := hX.2.2
    obtain ⟨b1, b2⟩ := hX.2.1 p (by omega)
    simp (disch := omega) only [B_X11_here_0, sh110, lt110, sh112, lt112, h4, e3, r9, en_ops, en_opc, iI_add, iI_mul, iI_sub, jL_add, jL_mul, iI_le, iI_lt, iI_eq, iI_eq0, iI_lt0, iI_0le, iI_le0, iI_0lt, jL_iI, iI_jL, lc_eq, lc_lt, lc_le, lc_ge, lc_gt, Nat.sub_zero, Nat.zero_le, true_and, and_true, Nat.reduceAdd, Nat.reduceLeDiff]
    refine ⟨fun g => by omega, fun _ => ⟨p, rfl, by omega, ?_⟩⟩
    rw [b2]
    simp (disch := omega) only [sh110, lt110, sh112, lt112, h4, e3, r9, en_ops, en_opc, iI_add, iI_mul, iI_sub, jL_add, jL_mul, iI_le, iI_lt, iI_eq, iI_eq0, iI_lt0, iI_0le, iI_le0, iI_0lt, jL_iI, iI_jL, lc_eq, lc_lt, lc_le, lc_ge, lc_gt, Nat.sub_zero, Nat.zero_le, true_and, and_true, Nat.reduceAdd, Nat.reduceLeDiff]
    refine ⟨fun g => ⟨fun g2 => by omega, fun _ => ⟨p, rfl, by omega, ?_⟩⟩, fun g => ?_⟩
    · have nb : isBk (X.1 p) = false := Bool.eq_false_iff.mpr (fun z => g (by have := isBk_i.mp z; omega))
      have ep : q = p := by rw [← he]; exact rt_n nb
      rw [b2]
      have := H h9 Fx.rf hX ⟨h5, by omega, by rw [ep]; exact rt_n nb, by rw [h4, ep]⟩
      rw [if_pos (by omega), ep] at this
      exact this
    · have nb : isBk (X.1 p) = true := isBk_i.mpr (by omega)
      apply s_X11_here_0
      have F : Fx P4 h9 (en_up h9 110 4 (iI ((p : Int) + 1))) := Fx.up Fx.rf ⟨rfl, rfl⟩
      exact ih (p + 1) _ (by omega) (by omega) (by rw [← he]; exact (rt_s (by omega) nb).symm) (rt4 (p := p) hX _) (by rw [up_ne (Or.inr (by decide))]; exact h5) up_at (fun hi' F' X' Q' => H hi' (F.tr F') X' Q')
theorem m_here (hX : rtS X hi) (hR : rfR hr) (h : rtA X q hi) (H : ∀ hi', Fx P4 hi hi' → rtS X hi' → rtQ X q hi' → K (.inl (some (.int (iI ((if q < X.2 then X.1 q else 0 : Nat) : Int))))) hi' hl hr) : en_Call G (d + 1) xc xs Y_X11_here wN wN [.ref 110] hi hl hr K := by
  obtain ⟨h5, p, hp, h4, he⟩ := h
  exact en_X11_here (m_here0 hR _ p hi rfl hp he hX h5 h4 H)
theorem m_isDg {t : Nat} (h : t < 256) (H : K (.inl (some (.int (iI (if isDg t = true then 1 else 0))))) hi hl hr) : en_Call G (d + 1) xc xs Y_X11_isDigit wN wN [.int (iI (t : Int))] hi hl hr K := by
  have q := isDg_i (b := t)
  apply en_X11_isDigit
  simp (disch := omega) only [B_X11_isDigit_0, en_ops, en_opc, iI_add, iI_mul, iI_sub, jL_add, jL_mul, iI_le, iI_lt, iI_eq, iI_eq0, iI_lt0, iI_0le, iI_le0, iI_0lt, jL_iI, iI_jL, lc_eq, lc_lt, lc_le, lc_ge, lc_gt, Nat.sub_zero, Nat.zero_le, true_and, and_true, Nat.reduceAdd, Nat.reduceLeDiff]
  refine ⟨fun e => ⟨rfl, ?_⟩, fun e => ⟨fun e2 => ⟨rfl, ?_⟩, fun e2 => ⟨rfl, ?_⟩⟩⟩
  · rw [if_neg (fun g => by have := q.mp g; omega)] at H; exact H
  · rw [if_neg (fun g => by have := q.mp g; omega)] at H; exact H
  · rw [if_pos (q.mpr (by omega))] at H; exact H
theorem m_isSm {t : Nat} (h : t < 256) (H : K (.inl (some (.int (iI (if isLt t = true then 1 else 0))))) hi hl hr) : en_Call G (d + 1) xc xs Y_X11_isSmall wN wN [.int (iI (t : Int))] hi hl hr K := by
  have q := isLt_i (b := t)
  apply en_X11_isSmall
  simp (disch := omega) only [B_X11_isSmall_0, en_ops, en_opc, iI_add, iI_mul, iI_sub, jL_add, jL_mul, iI_le, iI_lt, iI_eq, iI_eq0, iI_lt0, iI_0le, iI_le0, iI_0lt, jL_iI, iI_jL, lc_eq, lc_lt, lc_le, lc_ge, lc_gt, Nat.sub_zero, Nat.zero_le, true_and, and_true, Nat.reduceAdd, Nat.reduceLeDiff]
  refine ⟨fun e => ⟨rfl, ?_⟩, fun e => ⟨fun e2 => ⟨rfl, ?_⟩, fun e2 => ⟨rfl, ?_⟩⟩⟩
  · rw [if_neg (fun g => by have := q.mp g; omega)] at H; exact H
  · rw [if_neg (fun g => by have := q.mp g; omega)] at H; exact H
  · rw [if_pos (q.mpr (by omega))] at H; exact H
theorem m_pass (hR : rfR hr) : ∀ (m p : Nat) (h9 : en_I) (e : Nat), X.2 - p = m → p ≤ X.2 → rnT X isLt p = e → rtS X h9 → h9 110 4 = iI (p : Int) →
    (∀ hi', Fx P4 h9 hi' → rtS X hi' → hi' 110 4 = iI (e : Int) → K (.inl none) hi' hl hr) → B_X11_pass_0 G (d + 1) K [.ref 110] [] h9 hl hr xc xs := by
  obtain ⟨⟨-, r9, -⟩, -⟩ := id hR
  intro m
  induction m with
  | zero =>
    intro p h9 e hm hp he hX h4 H
    have l6 := hX.1
    have e3 := hX.2.2
    have ep : e = p := by rw [← he]; exact rt_e (by omega)
    simp (disch := omega) only [B_X11_pass_0, sh110, lt110, h4, e3, en_ops, en_opc, iI_add, iI_mul, iI_sub, jL_add, jL_mul, iI_le, iI_lt, iI_eq, iI_eq0, iI_lt0, iI_0le, iI_le0, iI_0lt, jL_iI, iI_jL, lc_eq, lc_lt, lc_le, lc_ge, lc_gt, Nat.sub_zero, Nat.zero_le, true_and, and_true, Nat.reduceAdd, Nat.reduceLeDiff]
    exact ⟨fun _ => H h9 Fx.rf hX (by rw [h4, ep]), fun g => absurd (show (X.2 : Int) ≤ p by omega) g⟩
  | succ m ih =>
    intro p h9 e hm hp he hX h4 H
    have l6 := hX.1
    have e3 := hX.2.2
    obtain ⟨b1, b2⟩ := hX.2.1 p (by omega)
    simp (disch := omega) only [B_X11_pass_0, sh110, lt110, sh112, lt112, h4, e3, r9, en_ops, en_opc, iI_add, iI_mul, iI_sub, jL_add, jL_mul, iI_le, iI_lt, iI_eq, iI_eq0, iI_lt0, iI_0le, iI_le0, iI_0lt, jL_iI, iI_jL, lc_eq, lc_lt, lc_le, lc_ge, lc_gt, Nat.sub_zero, Nat.zero_le, true_and, and_true, Nat.reduceAdd, Nat.reduceLeDiff]
    refine ⟨fun g => by omega, fun _ => ⟨p, rfl, by omega, ?_⟩⟩
    rw [b2]
    refine m_isSm (d := d) b1 ?_
    by_cases l : isLt (X.1 p) = true
    · rw [if_pos l]
      simp (disch := omega) only [sh110, lt110, h4, en_ops, en_opc, iI_add, iI_mul, iI_sub, jL_add, jL_mul, iI_le, iI_lt, iI_eq, iI_eq0, iI_lt0, iI_0le, iI_le0, iI_0lt, jL_iI, iI_jL, lc_eq, lc_lt, lc_le, lc_ge, lc_gt, Nat.sub_zero, Nat.zero_le, true_and, and_true, Nat.reduceAdd, Nat.reduceLeDiff]
      refine ⟨fun g => absurd g (by decide), fun _ => ?_⟩
      apply s_X11_pass_0
      have F : Fx P4 h9 (en_up h9 110 4 (iI ((p : Int) + 1))) := Fx.up Fx.rf ⟨rfl, rfl⟩
      exact ih (p + 1) _ e (by omega) (by omega) (by rw [← he]; exact (rt_s (by omega) l).symm) (rt4 (p := p) hX _) up_at (fun hi' F' X' Q' => H hi' (F.tr F') X' Q')
    · rw [if_neg l]
      have ep : e = p := by rw [← he]; exact rt_n (Bool.eq_false_iff.mpr l)
      simp (disch := omega) only [en_ops, en_opc, iI_add, iI_mul, iI_sub, jL_add, jL_mul, iI_le, iI_lt, iI_eq, iI_eq0, iI_lt0, iI_0le, iI_le0, iI_0lt, jL_iI, iI_jL, lc_eq, lc_lt, lc_le, lc_ge, lc_gt, Nat.sub_zero, Nat.zero_le, true_and, and_true, Nat.reduceAdd, Nat.reduceLeDiff]
      exact ⟨fun _ => H h9 Fx.rf hX (by rw [h4, ep]), fun g => (g (by first | trivial | rfl)).elim⟩
/-- a word is passed -/
theorem m_passW (hX : rtS X hi) (hR : rfR hr) (h : rtQ X q hi) (hw : wdE X q ≠ 0) (H : ∀ hi', Fx P4 hi hi' → rtS X hi' → rtA X (nxE X q) hi' → K (.inl none) hi' hl hr) : en_Call G (d + 2) xc xs Y_X11_pass wN wN [.ref 110] hi hl hr K := by
  obtain ⟨h5, hq, hs, h4⟩ := h
  obtain ⟨k2, hl9, a1, -, -⟩ := wd_let hw
  refine en_X11_pass (m_pass hR _ q hi _ rfl hq rfl hX h4 (fun hi' F X' e4 => H hi' F X' ⟨by rw [F 110 5 (fun g => by have := g.2; omega)]; exact h5, atE X q, (at_gt hl9).2, by rw [e4, a1], rfl⟩))
theorem shl5 {v x : Nat} (hv : v < 33554432) (hx : x < 32) : iI (v : Int) <<< (iI 5 &&& 31) ||| iI (x : Int) = iI ((32 * v + x : Nat) : Int) := by
  have e : iI (v : Int) <<< (iI 5 &&& 31) = iI ((32 * v : Nat) : Int) := by
    refine b_ext (fun i hi => ?_)
    have := b_shl 5 (by decide) (iI (v : Int)) hi
    rw [← iI_nat] at this
    rw [show iI ((5 : Nat) : Int) = iI 5 from rfl] at this
    rw [this, bt_i _ hi, show 32 * v = 2 ^ 5 * v from rfl, Nat.testBit_two_pow_mul]
    by_cases h5 : 5 ≤ i
    · rw [bt_i _ (by omega)]
    · simp [h5]
  rw [e, or_at, show 32 * v = 2 ^ 5 * v from rfl, ← Nat.two_pow_add_eq_or_of_lt (show x < 2 ^ 5 from hx)]
theorem m_word (hX : rtS X hi) (hR : rfR hr) (h : rtA X q hi) (H : ∀ hi', Fx P4 hi hi' → rtS X hi' → rtQ X q hi' → K (.inl (some (.int (iI (wdE X q : Int))))) hi' hl hr) : en_Call G (d + 2) xc xs Y_X11_word wN wN [.ref 110] hi hl hr K := by
  obtain ⟨⟨-, r9, -⟩, -⟩ := id hR
  apply en_X11_word
  simp (disch := omega) only [B_X11_word_0, sh110, lt110, en_ops, en_opc, iI_add, iI_mul, iI_sub, jL_add, jL_mul, iI_le, iI_lt, iI_eq, iI_eq0, iI_lt0, iI_0le, iI_le0, iI_0lt, jL_iI, iI_jL, lc_eq, lc_lt, lc_le, lc_ge, lc_gt, Nat.sub_zero, Nat.zero_le, true_and, and_true, Nat.reduceAdd, Nat.reduceLeDiff]
  refine m_here hX hR h (fun h9 F9 X9 Q9 => ?_)
  have Q9' := Q9
  obtain ⟨h5, hq, hs, h4⟩ := Q9'
  simp (disch := omega) only [sh110, lt110, h4, en_ops, en_opc, iI_add, iI_mul, iI_sub, jL_add, jL_mul, iI_le, iI_lt, iI_eq, iI_eq0, iI_lt0, iI_0le, iI_le0, iI_0lt, jL_iI, iI_jL, lc_eq, lc_lt, lc_le, lc_ge, lc_gt, Nat.sub_zero, Nat.zero_le, true_and, and_true, Nat.reduceAdd, Nat.reduceLeDiff]
  have l6 := X9.1
  have e3 := X9.2.2
  obtain ⟨e, he⟩ : ∃ e, rnT X isLt q = e := ⟨_, rfl⟩
  have wr : wdE X q = if e - q ≤ 6 then wlF (fun i => X.1 (q + i)) (e - q) else 0 := by
    by_cases k2 : kdE X q = 2
    · obtain ⟨a1, a2, a3⟩ := kd_2 k2
      unfold wdE
      rw [a3, he]
      by_cases g : e - q ≤ 6
      · rw [if_pos ⟨k2, g⟩, if_pos g]
      · rw [if_neg (fun w => g w.2), if_neg g]
    · have eq : e = q := by
        by_cases hl9 : q < X.2
        · rw [← he]
          exact rt_n (Bool.eq_false_iff.mpr (fun l => k2 (kd_l hl9 l)))
        · rw [← he]; exact rt_e (by omega)
      unfold wdE
      rw [if_neg (fun w => k2 w.1), eq, Nat.sub_self]
      rfl
  have fin : ∀ (n : Nat), q + n = e → K (.inl (some (.int (iI (if n ≤ 6 then (wlF (fun i => X.1 (q + i)) n : Int) else 0))))) h9 hl hr := by
    intro n hn
    have := H h9 F9 X9 Q9
    rw [wr, show e - q = n by omega] at this
    by_cases g : n ≤ 6
    · rw [if_pos g] at this ⊢; exact this
    · rw [if_neg g] at this ⊢; exact this
  suffices L : ∀ (m p n : Nat), X.2 - p = m → p ≤ X.2 → p = q + n → rnT X isLt p = e → (∀ i, i < n → 97 ≤ X.1 (q + i) ∧ X.1 (q + i) ≤ 122) → en_V G Y_X11_word (d + 2) wN wN K 14 [.ref 110, .int (iI (if n ≤ 6 then (wlF (fun i => X.1 (q + i)) n : Int) else 0)), .int (iI (n : Int)), .int (iI (p : Int))] [] h9 hl hr xc xs from L _ q 0 rfl hq rfl he (fun i hi => absurd hi (by omega))
  intro m
  induction m with
  | zero =>
    intro p n hm hp hn he2 hg
    have ep : e = p := by rw [← he2]; exact rt_e (by omega)
    have fn := fin n (by omega)
    apply s_X11_word_14
    simp (disch := omega) only [B_X11_word_14, sh110, lt110, e3, en_ops, en_opc, iI_add, iI_mul, iI_sub, jL_add, jL_mul, iI_le, iI_lt, iI_eq, iI_eq0, iI_lt0, iI_0le, iI_le0, iI_0lt, jL_iI, iI_jL, lc_eq, lc_lt, lc_le, lc_ge, lc_gt, Nat.sub_zero, Nat.zero_le, true_and, and_true, Nat.reduceAdd, Nat.reduceLeDiff]
    refine ⟨fun _ => ⟨fun g => ?_, fun g => ?_⟩, fun g => absurd (show (X.2 : Int) ≤ p by omega) g⟩
    · exact fn
    · rw [if_neg (by omega)] at fn; exact fn
  | succ m ih =>
    intro p n hm hp hn he2 hg
    obtain ⟨b1, b2⟩ := X9.2.1 p (by omega)
    apply s_X11_word_14
    simp (disch := omega) only [B_X11_word_14, sh110, lt110, sh112, lt112, e3, r9, en_ops, en_opc, iI_add, iI_mul, iI_sub, jL_add, jL_mul, iI_le, iI_lt, iI_eq, iI_eq0, iI_lt0, iI_0le, iI_le0, iI_0lt, jL_iI, iI_jL, lc_eq, lc_lt, lc_le, lc_ge, lc_gt, Nat.sub_zero, Nat.zero_le, true_and, and_true, Nat.reduceAdd, Nat.reduceLeDiff]
    refine ⟨fun g => by omega, fun _ => ⟨p, rfl, by omega, ?_⟩⟩
    rw [b2]
    refine m_isSm (d := d) b1 ?_
    by_cases l : isLt (X.1 p) = true
    · rw [if_pos l]
      have l2 := isLt_i.mp l
      simp (disch := omega) only [sh110, lt110, sh112, lt112, r9, en_ops, en_opc, iI_add, iI_mul, iI_sub, jL_add, jL_mul, iI_le, iI_lt, iI_eq, iI_eq0, iI_lt0, iI_0le, iI_le0, iI_0lt, jL_iI, iI_jL, lc_eq, lc_lt, lc_le, lc_ge, lc_gt, Nat.sub_zero, Nat.zero_le, true_and, and_true, Nat.reduceAdd, Nat.reduceLeDiff]
      refine ⟨fun g => absurd g (by decide), fun _ => ⟨fun g => ?_, fun g => ⟨p, rfl, by omega, ?_⟩⟩⟩
      · have := ih (p + 1) (n + 1) (by omega) (by omega) (by omega) (by rw [← he2]; exact (rt_s (by omega) l).symm) (fun i hi => by
          by_cases w : i = n
          · rw [w, ← hn]; exact l2
          · exact hg i (by omega))
        rw [if_neg (by omega)] at this
        exact this
      · have hh := ih (p + 1) (n + 1) (by omega) (by omega) (by omega) (by rw [← he2]; exact (rt_s (by omega) l).symm) (fun i hi => by
          by_cases w : i = n
          · rw [w, ← hn]; exact l2
          · exact hg i (by omega))
        rw [if_pos (by omega)] at hh
        have lt := wl_lt n hg
        have : 32 ^ n ≤ 32 ^ 5 := Nat.pow_le_pow_right (by omega) (by omega)
        rw [b2, if_pos (show n ≤ 6 by omega), iI_sub, show ((X.1 p : Int) - 96) = ((X.1 p - 96 : Nat) : Int) by omega, shl5 (by omega) (by omega), show 32 * wlF (fun i => X.1 (q + i)) n + (X.1 p - 96) = wlF (fun i => X.1 (q + i)) (n + 1) by rw [hn]; rfl]
        exact hh
    · rw [if_neg l]
      have ep : e = p := by rw [← he2]; exact rt_n (Bool.eq_false_iff.mpr l)
      have fn := fin n (by omega)
      simp (disch := omega) only [en_ops, en_opc, iI_add, iI_mul, iI_sub, jL_add, jL_mul, iI_le, iI_lt, iI_eq, iI_eq0, iI_lt0, iI_0le, iI_le0, iI_0lt, jL_iI, iI_jL, lc_eq, lc_lt, lc_le, lc_ge, lc_gt, Nat.sub_zero, Nat.zero_le, true_and, and_true, Nat.reduceAdd, Nat.reduceLeDiff]
      refine ⟨fun _ => ⟨fun g => fn, fun g => ?_⟩, fun g => (g (by first | trivial | rfl)).elim⟩
      rw [if_neg (by omega)] at fn; exact fn
end
