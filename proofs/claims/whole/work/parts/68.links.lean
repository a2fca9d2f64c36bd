/-! links: what the reference does at length, the class does shorter -/
section
variable {E : hEnv} {q q0 : hSt} {Y : hYr} {c : Nat} {w : Int × Int × Int} {s : Int × Int × Int}
def lkR (c : Nat) (q0 q : hSt) (s : Int × Int × Int) : Prop := s.2.1 = q.2.1 c ∧ s.2.2 = q.2.2.2.2.2 ∧ s.1 = q.2.2.1 c - q0.2.2.1 c
theorem lkR.h (h : lkR c q0 q s) (hc : c < E.2.1) : lkR c q0 (hrP E w q) (o1P E.1 c w s) := by
  obtain ⟨h1, h2, h3⟩ := h
  have ec : (hrP E w q).2.1 c = cr2 E.1 w.1 w.2.1 w.2.2 q.2.1 E.2.1 c := rfl
  have eo : (hrP E w q).2.2.1 c = ov2 E.1 w.1 w.2.1 w.2.2 q.2.1 q.2.2.1 E.2.1 c := rfl
  have eh : (hrP E w q).2.2.2.2.2 = q.2.2.2.2.2 + 1 := rfl
  unfold lkR
  rw [ec, eo, eh]
  unfold o1P cr2 ov2
  rw [h1]
  by_cases g : q.2.1 c < E.1 2 (nmL 0 0 0 0 w.1 w.2.1 w.2.2 (q.2.1 c) c)
  · rw [if_pos g, if_pos ⟨hc, g⟩, if_pos ⟨hc, g⟩]
    refine ⟨rfl, ?_, ?_⟩
    · show s.2.2 + 1 = _; omega
    · show s.1 + 1 = _; omega
  · rw [if_neg g, if_neg (fun g2 => g g2.2), if_neg (fun g2 => g g2.2)]
    refine ⟨rfl, ?_, ?_⟩
    · show s.2.2 + 1 = _; omega
    · exact h3
theorem lkR.r (h : lkR c q0 q s) (hc : c < E.2.1) : ∀ k, lkR c q0 (rpP E w k q) (ocP E.1 c w k s) := by
  intro k
  induction k with
  | zero => exact h
  | succ k ih =>
    show lkR c q0 (if (rpP E w k q).2.2.2.2.2 < 600 then hrP E w (rpP E w k q) else rpP E w k q) (if (ocP E.1 c w k s).2.2 < 600 then o1P E.1 c w (ocP E.1 c w k s) else ocP E.1 c w k s)
    have e := ih.2.1
    by_cases g : (rpP E w k q).2.2.2.2.2 < 600
    · rw [if_pos g, if_pos (by omega)]; exact ih.h hc
    · rw [if_neg g, if_neg (by omega)]; exact ih
theorem lk_year (hc : c < E.2.1) : ∀ n, lkR c q (yrP E Y n q) (oyP E.1 c Y n (0, q.2.1 c, q.2.2.2.2.2)) := by
  intro n
  induction n with
  | zero => exact ⟨rfl, rfl, by show (0 : Int) = q.2.2.1 c - q.2.2.1 c; omega⟩
  | succ n ih => exact ih.r hc _
theorem lk_ov {n : Nat} (hc : c < E.2.1) : (yrP E Y n q).2.2.1 c = q.2.2.1 c + oyN E.1 Y n q.2.2.2.2.2 c (q.2.1 c) := by
  have := (lk_year (q := q) (Y := Y) hc n).2.2
  unfold oyN
  omega
/-- crests raised -/
def rzC (cr : Nat → Int) (b : Nat) (m : Int) (nc c : Nat) : Int := if c < nc ∧ b.testBit c = true then cr c + m else cr c
theorem rs_link {V : Nat → (Nat → Int) → Int} {n nc b : Nat} {h m : Int} {cr : Nat → Int} (hnc : nc ≤ 12) (hb : b < 2 ^ nc) : sumTo nc (fun c => oyN V Y n h c (rzC cr b m nc c)) = rsP V Y n h cr m nc b := by
  have e1 : fbP (fwP V Y n h cr m) b = sumTo nc (fun c => if b.testBit c = true then fwP V Y n h cr m c else 0) := sumTo_part hnc (fun i h1 h2 => if_neg (fun g => by have := bit_lt hb g; omega))
  have e2 : sumTo nc (fun c => oyN V Y n h c (rzC cr b m nc c) + (if b.testBit c = true then fwP V Y n h cr m c else 0)) = plP V Y n h cr nc := sumTo_congr (fun c hc => by
    unfold rzC fwP
    by_cases g : b.testBit c = true
    · rw [if_pos ⟨hc, g⟩, if_pos g]; omega
    · rw [if_neg (fun g2 => g g2.2), if_neg g]; omega)
  rw [sumTo_add, ← e1] at e2
  unfold rsP
  omega
theorem bw_one {nc w' : Nat} {p : Int} {wl : Nat → Int} (hw : w' < nc) (c : Nat) : bwP nc (2 ^ w') p wl c = if c = w' then p else wl c := by
  unfold bwP
  rw [Nat.testBit_two_pow]
  by_cases e : c = w'
  · subst e; rw [if_pos rfl, if_pos ⟨hw, by simp⟩]
  · rw [if_neg e, if_neg (fun g => e (by have := g.2; simp at this; omega))]
theorem lsF_ne {P : Nat → Bool} {g : Nat → Int} {s0 : Int} : ∀ n, (∃ i, i < n ∧ P i = true) → (lsF P g s0 n).1 ≠ -1 := by
  intro n
  induction n with
  | zero => exact fun ⟨i, hi, _⟩ => by omega
  | succ n ih =>
    intro ⟨i, hi, hp⟩
    show (if P n = true ∧ ((lsF P g s0 n).1 = -1 ∨ g n < (lsF P g s0 n).2) then ((n : Int), g n) else lsF P g s0 n).1 ≠ -1
    split
    · show (n : Int) ≠ -1; omega
    next q9 =>
      by_cases e : i = n
      · subst e; exact fun z => q9 ⟨hp, Or.inl z⟩
      · exact ih ⟨i, by omega, hp⟩
theorem gtF_ne {P : Nat → Bool} {g : Nat → Int} {s0 : Int} : ∀ n, (∃ i, i < n ∧ P i = true) → (gtF P g s0 n).1 ≠ -1 := by
  intro n
  induction n with
  | zero => exact fun ⟨i, hi, _⟩ => by omega
  | succ n ih =>
    intro ⟨i, hi, hp⟩
    show (if P n = true ∧ ((gtF P g s0 n).1 = -1 ∨ (gtF P g s0 n).2 < g n) then ((n : Int), g n) else gtF P g s0 n).1 ≠ -1
    split
    · show (n : Int) ≠ -1; omega
    next q9 =>
      by_cases e : i = n
      · subst e; exact fun z => q9 ⟨hp, Or.inl z⟩
      · exact ih ⟨i, by omega, hp⟩
theorem lsF_s0 {P : Nat → Bool} {g : Nat → Int} {s0 s1 : Int} : ∀ n, (lsF P g s0 n).1 = (lsF P g s1 n).1 ∧ ((lsF P g s0 n).1 ≠ -1 → (lsF P g s0 n).2 = (lsF P g s1 n).2) := by
  intro n
  induction n with
  | zero => exact ⟨rfl, fun e => absurd rfl e⟩
  | succ n ih =>
    obtain ⟨i1, i2⟩ := ih
    show (if P n = true ∧ ((lsF P g s0 n).1 = -1 ∨ g n < (lsF P g s0 n).2) then ((n : Int), g n) else lsF P g s0 n).1 = (if P n = true ∧ ((lsF P g s1 n).1 = -1 ∨ g n < (lsF P g s1 n).2) then ((n : Int), g n) else lsF P g s1 n).1 ∧ ((if P n = true ∧ ((lsF P g s0 n).1 = -1 ∨ g n < (lsF P g s0 n).2) then ((n : Int), g n) else lsF P g s0 n).1 ≠ -1 → (if P n = true ∧ ((lsF P g s0 n).1 = -1 ∨ g n < (lsF P g s0 n).2) then ((n : Int), g n) else lsF P g s0 n).2 = (if P n = true ∧ ((lsF P g s1 n).1 = -1 ∨ g n < (lsF P g s1 n).2) then ((n : Int), g n) else lsF P g s1 n).2)
    have same : (P n = true ∧ ((lsF P g s0 n).1 = -1 ∨ g n < (lsF P g s0 n).2)) ↔ (P n = true ∧ ((lsF P g s1 n).1 = -1 ∨ g n < (lsF P g s1 n).2)) := by
      by_cases e : (lsF P g s0 n).1 = -1
      · constructor
        · exact fun h => ⟨h.1, Or.inl (by rw [← i1]; exact e)⟩
        · exact fun h => ⟨h.1, Or.inl e⟩
      · rw [i2 e, i1]
    by_cases h : P n = true ∧ ((lsF P g s0 n).1 = -1 ∨ g n < (lsF P g s0 n).2)
    · rw [if_pos h, if_pos (same.mp h)]; exact ⟨rfl, fun _ => rfl⟩
    · rw [if_neg h, if_neg (fun z => h (same.mpr z))]; exact ⟨i1, i2⟩
theorem pk_ex {k n : Nat} (h1 : 1 ≤ k) (h3 : k ≤ 3) (hk : k ≤ n) : ∃ i, i < 2 ^ n ∧ pkB k i = true := by
  refine ⟨2 ^ k - 1, ?_, ?_⟩
  · have := Nat.pow_le_pow_right (n := 2) (by decide) hk
    have := Nat.one_le_two_pow (n := k)
    omega
  · rcases (show k = 1 ∨ k = 2 ∨ k = 3 by omega) with rfl | rfl | rfl <;> decide
theorem dr_link {V : Nat → (Nat → Int) → Int} {n : Nat} {h m : Int} {cr : Nat → Int} (h0 : 0 ≤ h) (h6 : h ≤ 600) : ∀ nc, (drB V Y n h cr m nc = true ↔ sumTo nc (fun c => oyN V Y n h c (cr c + m)) = 0) := by
  intro nc
  induction nc with
  | zero => exact ⟨fun _ => rfl, fun _ => rfl⟩
  | succ nc ih =>
    have r1 := sumTo_nn (n := nc) (f := fun c => oyN V Y n h c (cr c + m)) (fun c _ => (oyN_r h0 h6).1)
    have r2 := oyN_r (V := V) (Y := Y) (n := n) (c := nc) (top := cr nc + m) h0 h6
    have sd : drB V Y n h cr m (nc + 1) = (drB V Y n h cr m nc && decide (oyN V Y n h nc (cr nc + m) = 0)) := rfl
    rw [sd, sumTo_s, Bool.and_eq_true, ih, decide_eq_true_iff]
    constructor
    · exact fun ⟨a, b⟩ => by omega
    · exact fun a => ⟨by omega, by omega⟩
end
