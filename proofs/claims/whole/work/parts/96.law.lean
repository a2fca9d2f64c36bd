/-! a law's text: what it says as a function of the names; a fault: its kind and place -/
abbrev lSem : Type := (Nat → Int32) → Int32
abbrev lRes : Type := (Nat × Nat) ⊕ (lSem × Nat)
def bnd (r : lRes) (k : lSem → Nat → lRes) : lRes := match r with
  | .inl e => .inl e
  | .inr y => k y.1 y.2
def oof : lRes := .inl (9, 0)
/-- two values joined: 2 plus, 3 less, 4 times, 5 by, 6 below, 7 above, 8 alike, 10 and, 11 or -/
def opE (c : Nat) (x y : Int32) : Int32 := match c with
  | 2 => x + y
  | 3 => x - y
  | 4 => x * y
  | 5 => if y = 0 then 0 else x / y
  | 6 => if x < y then 1 else 0
  | 7 => if y < x then 1 else 0
  | 8 => if x = y then 1 else 0
  | 10 => x &&& y
  | _ => x ||| y
def nmE (w : Nat) : Nat := if w = 632645 then 0 else if w = 20600006 then 1 else if w = 1130181 then 2 else if w = 2273783 then 3 else if w = 273980692 then 4 else if w = 70708 then 5 else if w = 215533 then 6 else if w = 3741300 then 7 else if w = 103820 then 8 else 9
def pgF (X : tTx) : Nat → Nat → Nat → lSem → Nat → lRes
  | 0, _, _, _, _ => .inl (9, 0)
  | f + 1, 0, o, a, q => if wdE X q = 294 then (if 6 ≤ o then .inl (3, q) else bnd (pgF X f 5 (o + 1) a (nxE X q)) (fun c q1 => if wdE X q1 = 663726 then bnd (pgF X f 0 (o + 1) a (nxE X q1)) (fun x q2 => if wdE X q2 = 176741 then bnd (pgF X f 0 (o + 1) a (nxE X q2)) (fun y q3 => .inr (fun nm => if c nm = 1 then x nm else y nm, q3)) else .inl (1, q2)) else .inl (1, q1))) else bnd (pgF X f 2 o a q) (fun s q1 => pgF X f 1 o s q1)
  | f + 1, 1, o, a, q => if sgE X q 43 ∨ sgE X q 45 then bnd (pgF X f 2 o a (nxE X q)) (fun s q1 => pgF X f 1 o (fun nm => opE (if sgE X q 43 then 2 else 3) (a nm) (s nm)) q1) else .inr (a, q)
  | f + 1, 2, o, a, q => bnd (pgF X f 4 o a q) (fun s q1 => pgF X f 3 o s q1)
  | f + 1, 3, o, a, q => if sgE X q 42 ∨ sgE X q 47 then bnd (pgF X f 4 o a (nxE X q)) (fun s q1 => pgF X f 3 o (fun nm => opE (if sgE X q 42 then 4 else 5) (a nm) (s nm)) q1) else .inr (a, q)
  | f + 1, 4, o, a, q => if kdE X q = 1 then (if nvE X q ≤ 9999 then .inr (fun _ => iI (nvE X q : Int), nxE X q) else .inl (2, q)) else if sgE X q 40 then (if 6 ≤ o then .inl (3, q) else bnd (pgF X f 0 (o + 1) a (nxE X q)) (fun s q1 => if sgE X q1 41 then .inr (s, nxE X q1) else .inl (1, q1))) else if nmE (wdE X q) < 9 then .inr (fun nm => nm (nmE (wdE X q)), nxE X q) else .inl (1, q)
  | f + 1, 5, o, a, q => bnd (pgF X f 7 o a q) (fun s q1 => pgF X f 6 o s q1)
  | f + 1, 6, o, a, q => if wdE X q = 498 then bnd (pgF X f 7 o a (nxE X q)) (fun s q1 => pgF X f 6 o (fun nm => opE 11 (a nm) (s nm)) q1) else .inr (a, q)
  | f + 1, 7, o, a, q => bnd (pgF X f 9 o a q) (fun s q1 => pgF X f 8 o s q1)
  | f + 1, 8, o, a, q => if wdE X q = 1476 then bnd (pgF X f 9 o a (nxE X q)) (fun s q1 => pgF X f 8 o (fun nm => opE 10 (a nm) (s nm)) q1) else .inr (a, q)
  | f + 1, _, o, a, q => if sgE X q 91 then (if 6 ≤ o then .inl (3, q) else bnd (pgF X f 5 (o + 1) a (nxE X q)) (fun s q1 => if sgE X q1 93 then .inr (s, nxE X q1) else .inl (1, q1))) else if wdE X q = 14836 then (if 6 ≤ o then .inl (3, q) else bnd (pgF X f 9 (o + 1) a (nxE X q)) (fun s q1 => .inr (fun nm => 1 - s nm, q1))) else bnd (pgF X f 0 o a q) (fun s q1 => if sgE X q1 60 ∨ sgE X q1 62 ∨ sgE X q1 61 then bnd (pgF X f 0 o a (nxE X q1)) (fun y q2 => .inr (fun nm => opE (if sgE X q1 60 then 6 else if sgE X q1 62 then 7 else 8) (s nm) (y nm), q2)) else .inl (1, q1))
theorem bnd_i {r : lRes} {k : lSem → Nat → lRes} {s : lSem} {q : Nat} (h : bnd r k = .inr (s, q)) : ∃ s1 q1, r = .inr (s1, q1) ∧ k s1 q1 = .inr (s, q) := by
  rcases r with e | y
  · exact absurd h (by intro g; cases g)
  · exact ⟨y.1, y.2, rfl, h⟩
theorem bnd_o {r : lRes} {k : lSem → Nat → lRes} (h : bnd r k ≠ oof) : r ≠ oof ∧ ∀ s q, r = .inr (s, q) → k s q ≠ oof := by
  refine ⟨fun g => h (by rw [g]; rfl), fun s q g e => h (by rw [g]; exact e)⟩
theorem bnd_of {r : lRes} {k : lSem → Nat → lRes} (h1 : r ≠ oof) (h2 : ∀ s q, r = .inr (s, q) → k s q ≠ oof) : bnd r k ≠ oof := by
  rcases r with e | y
  · exact h1
  · exact h2 y.1 y.2 rfl
theorem bnd_l {e : Nat × Nat} {k : lSem → Nat → lRes} : bnd (.inl e) k = .inl e := rfl
theorem bnd_r {s : lSem} {q : Nat} {k : lSem → Nat → lRes} : bnd (.inr (s, q)) k = k s q := rfl
section
variable {X : tTx}
/-- where a reading ends -/
def pgE (X : tTx) (m q q1 : Nat) : Prop := q ≤ q1 ∧ q1 ≤ X.2 ∧ skE X q1 = q1 ∧ (m ≠ 1 ∧ m ≠ 3 ∧ m ≠ 6 ∧ m ≠ 8 → q < q1)
theorem lt_wd {q w : Nat} (h : wdE X q = w) (hw : w ≠ 0) : q < X.2 := (wd_let (by rw [h]; exact hw)).2.1
theorem nm_9 : nmE 0 = 9 := by decide
theorem lt_nm {q : Nat} (h : nmE (wdE X q) < 9) : q < X.2 := by
  refine (wd_let (X := X) (q := q) (fun e => ?_)).2.1
  rw [e, nm_9] at h
  omega
theorem pg_pos : ∀ (f m o : Nat) (a : lSem) (q : Nat) (s : lSem) (q1 : Nat), q ≤ X.2 → skE X q = q → pgF X f m o a q = .inr (s, q1) → pgE X m q q1 := by
  intro f
  induction f with
  | zero => intro m o a q s q1 _ _ h; cases h
  | succ f ih =>
    intro m o a q s q1 hq hs h
    -- a call behind a call
    have two : ∀ (m1 m2 o1 : Nat) (a1 : lSem) (g : lSem → lSem), bnd (pgF X f m1 o1 a1 q) (fun s q1 => pgF X f m2 o1 (g s) q1) = .inr (s, q1) → (m1 ≠ 1 ∧ m1 ≠ 3 ∧ m1 ≠ 6 ∧ m1 ≠ 8) → q < q1 ∧ q1 ≤ X.2 ∧ skE X q1 = q1 := by
      intro m1 m2 o1 a1 g e hm
      obtain ⟨s1, p1, e1, e2⟩ := bnd_i e
      obtain ⟨b1, b2, b3, b4⟩ := ih _ _ _ _ _ _ hq hs e1
      obtain ⟨c1, c2, c3, c4⟩ := ih _ _ _ _ _ _ b2 b3 e2
      have := b4 hm
      exact ⟨by omega, c2, c3⟩
    have lop : ∀ (m1 m2 o1 : Nat) (a1 : lSem) (g : lSem → lSem), q < X.2 → bnd (pgF X f m1 o1 a1 (nxE X q)) (fun s q1 => pgF X f m2 o1 (g s) q1) = .inr (s, q1) → q < q1 ∧ q1 ≤ X.2 ∧ skE X q1 = q1 := by
      intro m1 m2 o1 a1 g hl e
      obtain ⟨n1, n2, n3⟩ := nx_gt hl
      obtain ⟨s1, p1, e1, e2⟩ := bnd_i e
      obtain ⟨b1, b2, b3, b4⟩ := ih _ _ _ _ _ _ n2 n3 e1
      obtain ⟨c1, c2, c3, c4⟩ := ih _ _ _ _ _ _ b2 b3 e2
      exact ⟨by omega, c2, c3⟩
    have fin : q < q1 ∧ q1 ≤ X.2 ∧ skE X q1 = q1 → pgE X m q q1 := fun g => ⟨by omega, g.2.1, g.2.2, fun _ => g.1⟩
    have stay : ∀ {s1 : lSem}, (Sum.inr (s1, q) : lRes) = .inr (s, q1) → (m = 1 ∨ m = 3 ∨ m = 6 ∨ m = 8) → pgE X m q q1 := by
      intro s1 e hm
      cases e
      exact ⟨Nat.le_refl _, hq, hs, fun g => by omega⟩
    have nxt : ∀ {s1 : lSem}, q < X.2 → (Sum.inr (s1, nxE X q) : lRes) = .inr (s, q1) → q < q1 ∧ q1 ≤ X.2 ∧ skE X q1 = q1 := by
      intro s1 hl e
      cases e
      exact nx_gt hl
    match m with
    | 0 =>
      replace h : (if wdE X q = 294 then (if 6 ≤ o then .inl (3, q) else bnd (pgF X f 5 (o + 1) a (nxE X q)) (fun c q1 => if wdE X q1 = 663726 then bnd (pgF X f 0 (o + 1) a (nxE X q1)) (fun x q2 => if wdE X q2 = 176741 then bnd (pgF X f 0 (o + 1) a (nxE X q2)) (fun y q3 => .inr (fun nm => if c nm = 1 then x nm else y nm, q3)) else .inl (1, q2)) else .inl (1, q1))) else bnd (pgF X f 2 o a q) (fun s q1 => pgF X f 1 o s q1) : lRes) = .inr (s, q1) := h
      by_cases w : wdE X q = 294
      · rw [if_pos w] at h
        have hl := lt_wd w (by decide)
        obtain ⟨n1, n2, n3⟩ := nx_gt hl
        by_cases o6 : 6 ≤ o
        · rw [if_pos o6] at h; cases h
        · rw [if_neg o6] at h
          obtain ⟨c, p1, e1, h⟩ := bnd_i h
          obtain ⟨b1, b2, b3, b4⟩ := ih _ _ _ _ _ _ n2 n3 e1
          by_cases w2 : wdE X p1 = 663726
          · rw [if_pos w2] at h
            obtain ⟨n4, n5, n6⟩ := nx_gt (lt_wd w2 (by decide))
            obtain ⟨x, p2, e2, h⟩ := bnd_i h
            obtain ⟨c1, c2, c3, c4⟩ := ih _ _ _ _ _ _ n5 n6 e2
            by_cases w3 : wdE X p2 = 176741
            · rw [if_pos w3] at h
              obtain ⟨n7, n8, n9⟩ := nx_gt (lt_wd w3 (by decide))
              obtain ⟨y, p3, e3, h⟩ := bnd_i h
              obtain ⟨d1, d2, d3, d4⟩ := ih _ _ _ _ _ _ n8 n9 e3
              cases h
              exact fin ⟨by omega, d2, d3⟩
            · rw [if_neg w3] at h; cases h
          · rw [if_neg w2] at h; cases h
      · rw [if_neg w] at h
        exact fin (two 2 1 o a (fun s => s) h (by decide))
    | 1 =>
      replace h : (if sgE X q 43 ∨ sgE X q 45 then bnd (pgF X f 2 o a (nxE X q)) (fun s q1 => pgF X f 1 o (fun nm => opE (if sgE X q 43 then 2 else 3) (a nm) (s nm)) q1) else .inr (a, q) : lRes) = .inr (s, q1) := h
      by_cases w : sgE X q 43 ∨ sgE X q 45
      · rw [if_pos w] at h
        have hl : q < X.2 := by rcases w with w | w <;> exact w.1
        exact fin (lop 2 1 o a (fun s nm => opE (if sgE X q 43 then 2 else 3) (a nm) (s nm)) hl h)
      · rw [if_neg w] at h
        exact stay h (by omega)
    | 2 => exact fin (two 4 3 o a (fun s => s) h (by decide))
    | 3 =>
      replace h : (if sgE X q 42 ∨ sgE X q 47 then bnd (pgF X f 4 o a (nxE X q)) (fun s q1 => pgF X f 3 o (fun nm => opE (if sgE X q 42 then 4 else 5) (a nm) (s nm)) q1) else .inr (a, q) : lRes) = .inr (s, q1) := h
      by_cases w : sgE X q 42 ∨ sgE X q 47
      · rw [if_pos w] at h
        have hl : q < X.2 := by rcases w with w | w <;> exact w.1
        exact fin (lop 4 3 o a (fun s nm => opE (if sgE X q 42 then 4 else 5) (a nm) (s nm)) hl h)
      · rw [if_neg w] at h
        exact stay h (by omega)
    | 4 =>
      replace h : (if kdE X q = 1 then (if nvE X q ≤ 9999 then .inr (fun _ => iI (nvE X q : Int), nxE X q) else .inl (2, q)) else if sgE X q 40 then (if 6 ≤ o then .inl (3, q) else bnd (pgF X f 0 (o + 1) a (nxE X q)) (fun s q1 => if sgE X q1 41 then .inr (s, nxE X q1) else .inl (1, q1))) else if nmE (wdE X q) < 9 then .inr (fun nm => nm (nmE (wdE X q)), nxE X q) else .inl (1, q) : lRes) = .inr (s, q1) := h
      by_cases w : kdE X q = 1
      · rw [if_pos w] at h
        by_cases v : nvE X q ≤ 9999
        · rw [if_pos v] at h; exact fin (nxt (kd_1 w).1 h)
        · rw [if_neg v] at h; cases h
      · rw [if_neg w] at h
        by_cases w2 : sgE X q 40
        · rw [if_pos w2] at h
          obtain ⟨n1, n2, n3⟩ := nx_gt w2.1
          by_cases o6 : 6 ≤ o
          · rw [if_pos o6] at h; cases h
          · rw [if_neg o6] at h
            obtain ⟨c, p1, e1, h⟩ := bnd_i h
            obtain ⟨b1, b2, b3, b4⟩ := ih _ _ _ _ _ _ n2 n3 e1
            by_cases w3 : sgE X p1 41
            · rw [if_pos w3] at h
              obtain ⟨n4, n5, n6⟩ := nx_gt w3.1
              cases h
              exact fin ⟨by omega, n5, n6⟩
            · rw [if_neg w3] at h; cases h
        · rw [if_neg w2] at h
          by_cases w3 : nmE (wdE X q) < 9
          · rw [if_pos w3] at h; exact fin (nxt (lt_nm w3) h)
          · rw [if_neg w3] at h; cases h
    | 5 => exact fin (two 7 6 o a (fun s => s) h (by decide))
    | 6 =>
      replace h : (if wdE X q = 498 then bnd (pgF X f 7 o a (nxE X q)) (fun s q1 => pgF X f 6 o (fun nm => opE 11 (a nm) (s nm)) q1) else .inr (a, q) : lRes) = .inr (s, q1) := h
      by_cases w : wdE X q = 498
      · rw [if_pos w] at h
        exact fin (lop 7 6 o a (fun s nm => opE 11 (a nm) (s nm)) (lt_wd w (by decide)) h)
      · rw [if_neg w] at h
        exact stay h (by omega)
    | 7 => exact fin (two 9 8 o a (fun s => s) h (by decide))
    | 8 =>
      replace h : (if wdE X q = 1476 then bnd (pgF X f 9 o a (nxE X q)) (fun s q1 => pgF X f 8 o (fun nm => opE 10 (a nm) (s nm)) q1) else .inr (a, q) : lRes) = .inr (s, q1) := h
      by_cases w : wdE X q = 1476
      · rw [if_pos w] at h
        exact fin (lop 9 8 o a (fun s nm => opE 10 (a nm) (s nm)) (lt_wd w (by decide)) h)
      · rw [if_neg w] at h
        exact stay h (by omega)
    | m + 9 =>
      replace h : (if sgE X q 91 then (if 6 ≤ o then .inl (3, q) else bnd (pgF X f 5 (o + 1) a (nxE X q)) (fun s q1 => if sgE X q1 93 then .inr (s, nxE X q1) else .inl (1, q1))) else if wdE X q = 14836 then (if 6 ≤ o then .inl (3, q) else bnd (pgF X f 9 (o + 1) a (nxE X q)) (fun s q1 => .inr (fun nm => 1 - s nm, q1))) else bnd (pgF X f 0 o a q) (fun s q1 => if sgE X q1 60 ∨ sgE X q1 62 ∨ sgE X q1 61 then bnd (pgF X f 0 o a (nxE X q1)) (fun y q2 => .inr (fun nm => opE (if sgE X q1 60 then 6 else if sgE X q1 62 then 7 else 8) (s nm) (y nm), q2)) else .inl (1, q1)) : lRes) = .inr (s, q1) := h
      by_cases w2 : sgE X q 91
      · rw [if_pos w2] at h
        obtain ⟨n1, n2, n3⟩ := nx_gt w2.1
        by_cases o6 : 6 ≤ o
        · rw [if_pos o6] at h; cases h
        · rw [if_neg o6] at h
          obtain ⟨c, p1, e1, h⟩ := bnd_i h
          obtain ⟨b1, b2, b3, b4⟩ := ih _ _ _ _ _ _ n2 n3 e1
          by_cases w3 : sgE X p1 93
          · rw [if_pos w3] at h
            obtain ⟨n4, n5, n6⟩ := nx_gt w3.1
            cases h
            exact fin ⟨by omega, n5, n6⟩
          · rw [if_neg w3] at h; cases h
      · rw [if_neg w2] at h
        by_cases w : wdE X q = 14836
        · rw [if_pos w] at h
          obtain ⟨n1, n2, n3⟩ := nx_gt (lt_wd w (by decide))
          by_cases o6 : 6 ≤ o
          · rw [if_pos o6] at h; cases h
          · rw [if_neg o6] at h
            obtain ⟨c, p1, e1, h⟩ := bnd_i h
            obtain ⟨b1, b2, b3, b4⟩ := ih _ _ _ _ _ _ n2 n3 e1
            cases h
            exact fin ⟨by omega, b2, b3⟩
        · rw [if_neg w] at h
          obtain ⟨c, p1, e1, h⟩ := bnd_i h
          obtain ⟨b1, b2, b3, b4⟩ := ih _ _ _ _ _ _ hq hs e1
          have := b4 (by decide)
          by_cases w3 : sgE X p1 60 ∨ sgE X p1 62 ∨ sgE X p1 61
          · rw [if_pos w3] at h
            have hl : p1 < X.2 := by rcases w3 with w | w | w <;> exact w.1
            obtain ⟨n4, n5, n6⟩ := nx_gt hl
            obtain ⟨y, p2, e2, h⟩ := bnd_i h
            obtain ⟨c1, c2, c3, c4⟩ := ih _ _ _ _ _ _ n5 n6 e2
            cases h
            exact fin ⟨by omega, c2, c3⟩
          · rw [if_neg w3] at h; cases h
end
