section
variable {X : tTx}
def rkE (m : Nat) : Nat := if m = 2 then 1 else if m = 0 then 2 else if m = 9 then 3 else if m = 7 then 4 else if m = 5 then 5 else 0
theorem no1 {k pl : Nat} (h : k ≠ 9) : (Sum.inl (k, pl) : lRes) ≠ oof := fun g => h (by cases g; rfl)
theorem no2 {y : lSem × Nat} : (Sum.inr y : lRes) ≠ oof := fun g => by cases g
theorem pg_ok : ∀ (f m o : Nat) (a : lSem) (q : Nat), m ≤ 9 → q ≤ X.2 → skE X q = q → 10 * (X.2 - q) + rkE m < f → pgF X f m o a q ≠ oof := by
  intro f
  induction f with
  | zero => intro m o a q _ _ _ h; omega
  | succ f ih =>
    intro m o a q hm hq hs hf
    have two : ∀ (m1 m2 o1 : Nat) (a1 : lSem) (g : lSem → lSem), m1 ≤ 9 → m2 ≤ 9 → (m1 ≠ 1 ∧ m1 ≠ 3 ∧ m1 ≠ 6 ∧ m1 ≠ 8) → rkE m1 < rkE m → rkE m2 = 0 → bnd (pgF X f m1 o1 a1 q) (fun s q1 => pgF X f m2 o1 (g s) q1) ≠ oof := by
      intro m1 m2 o1 a1 g h1 h2 h3 h4 h5
      refine bnd_of (ih _ _ _ _ h1 hq hs (by omega)) (fun s q1 e => ?_)
      obtain ⟨b1, b2, b3, b4⟩ := pg_pos _ _ _ _ _ _ _ hq hs e
      have := b4 h3
      exact ih _ _ _ _ h2 b2 b3 (by omega)
    have lop : ∀ (m1 m2 o1 : Nat) (a1 : lSem) (g : lSem → lSem), m1 ≤ 9 → m2 ≤ 9 → rkE m1 ≤ 5 → rkE m2 ≤ 5 → q < X.2 → bnd (pgF X f m1 o1 a1 (nxE X q)) (fun s q1 => pgF X f m2 o1 (g s) q1) ≠ oof := by
      intro m1 m2 o1 a1 g h1 h2 h4 h5 hl
      obtain ⟨n1, n2, n3⟩ := nx_gt hl
      refine bnd_of (ih _ _ _ _ h1 n2 n3 (by omega)) (fun s q1 e => ?_)
      obtain ⟨b1, b2, b3, b4⟩ := pg_pos _ _ _ _ _ _ _ n2 n3 e
      exact ih _ _ _ _ h2 b2 b3 (by omega)
    have r5 : ∀ m, rkE m ≤ 5 := fun m => by unfold rkE; (repeat' split) <;> omega
    match m with
    | 0 =>
      show (if wdE X q = 294 then (if 6 ≤ o then .inl (3, q) else bnd (pgF X f 5 (o + 1) a (nxE X q)) (fun c q1 => if wdE X q1 = 663726 then bnd (pgF X f 0 (o + 1) a (nxE X q1)) (fun x q2 => if wdE X q2 = 176741 then bnd (pgF X f 0 (o + 1) a (nxE X q2)) (fun y q3 => .inr (fun nm => if c nm = 1 then x nm else y nm, q3)) else .inl (1, q2)) else .inl (1, q1))) else bnd (pgF X f 2 o a q) (fun s q1 => pgF X f 1 o s q1) : lRes) ≠ oof
      by_cases w : wdE X q = 294
      · rw [if_pos w]
        obtain ⟨n1, n2, n3⟩ := nx_gt (lt_wd w (by decide))
        by_cases o6 : 6 ≤ o
        · rw [if_pos o6]; exact no1 (by decide)
        · rw [if_neg o6]
          have := r5 5
          refine bnd_of (ih _ _ _ _ (by decide) n2 n3 (by omega)) (fun c p1 e1 => ?_)
          obtain ⟨b1, b2, b3, b4⟩ := pg_pos _ _ _ _ _ _ _ n2 n3 e1
          by_cases w2 : wdE X p1 = 663726
          · rw [if_pos w2]
            obtain ⟨n4, n5, n6⟩ := nx_gt (lt_wd w2 (by decide))
            have := r5 0
            refine bnd_of (ih _ _ _ _ (by decide) n5 n6 (by omega)) (fun x p2 e2 => ?_)
            obtain ⟨c1, c2, c3, c4⟩ := pg_pos _ _ _ _ _ _ _ n5 n6 e2
            by_cases w3 : wdE X p2 = 176741
            · rw [if_pos w3]
              obtain ⟨n7, n8, n9⟩ := nx_gt (lt_wd w3 (by decide))
              exact bnd_of (ih _ _ _ _ (by decide) n8 n9 (by omega)) (fun y p3 e3 => no2)
            · rw [if_neg w3]; exact no1 (by decide)
          · rw [if_neg w2]; exact no1 (by decide)
      · rw [if_neg w]
        exact two 2 1 o a (fun s => s) (by decide) (by decide) (by decide) (by decide) (by decide)
    | 1 =>
      show (if sgE X q 43 ∨ sgE X q 45 then bnd (pgF X f 2 o a (nxE X q)) (fun s q1 => pgF X f 1 o (fun nm => opE (if sgE X q 43 then 2 else 3) (a nm) (s nm)) q1) else .inr (a, q) : lRes) ≠ oof
      by_cases w : sgE X q 43 ∨ sgE X q 45
      · rw [if_pos w]
        have hl : q < X.2 := by rcases w with w | w <;> exact w.1
        exact lop 2 1 o a (fun s nm => opE (if sgE X q 43 then 2 else 3) (a nm) (s nm)) (by decide) (by decide) (r5 _) (r5 _) hl
      · rw [if_neg w]; exact no2
    | 2 => exact two 4 3 o a (fun s => s) (by decide) (by decide) (by decide) (by decide) (by decide)
    | 3 =>
      show (if sgE X q 42 ∨ sgE X q 47 then bnd (pgF X f 4 o a (nxE X q)) (fun s q1 => pgF X f 3 o (fun nm => opE (if sgE X q 42 then 4 else 5) (a nm) (s nm)) q1) else .inr (a, q) : lRes) ≠ oof
      by_cases w : sgE X q 42 ∨ sgE X q 47
      · rw [if_pos w]
        have hl : q < X.2 := by rcases w with w | w <;> exact w.1
        exact lop 4 3 o a (fun s nm => opE (if sgE X q 42 then 4 else 5) (a nm) (s nm)) (by decide) (by decide) (r5 _) (r5 _) hl
      · rw [if_neg w]; exact no2
    | 4 =>
      show (if kdE X q = 1 then (if nvE X q ≤ 9999 then .inr (fun _ => iI (nvE X q : Int), nxE X q) else .inl (2, q)) else if sgE X q 40 then (if 6 ≤ o then .inl (3, q) else bnd (pgF X f 0 (o + 1) a (nxE X q)) (fun s q1 => if sgE X q1 41 then .inr (s, nxE X q1) else .inl (1, q1))) else if nmE (wdE X q) < 9 then .inr (fun nm => nm (nmE (wdE X q)), nxE X q) else .inl (1, q) : lRes) ≠ oof
      by_cases w : kdE X q = 1
      · rw [if_pos w]
        by_cases v : nvE X q ≤ 9999
        · rw [if_pos v]; exact no2
        · rw [if_neg v]; exact no1 (by decide)
      · rw [if_neg w]
        by_cases w2 : sgE X q 40
        · rw [if_pos w2]
          obtain ⟨n1, n2, n3⟩ := nx_gt w2.1
          by_cases o6 : 6 ≤ o
          · rw [if_pos o6]; exact no1 (by decide)
          · rw [if_neg o6]
            have := r5 0
            refine bnd_of (ih _ _ _ _ (by decide) n2 n3 (by omega)) (fun c p1 e1 => ?_)
            by_cases w3 : sgE X p1 41
            · rw [if_pos w3]; exact no2
            · rw [if_neg w3]; exact no1 (by decide)
        · rw [if_neg w2]
          by_cases w3 : nmE (wdE X q) < 9
          · rw [if_pos w3]; exact no2
          · rw [if_neg w3]; exact no1 (by decide)
    | 5 => exact two 7 6 o a (fun s => s) (by decide) (by decide) (by decide) (by decide) (by decide)
    | 6 =>
      show (if wdE X q = 498 then bnd (pgF X f 7 o a (nxE X q)) (fun s q1 => pgF X f 6 o (fun nm => opE 11 (a nm) (s nm)) q1) else .inr (a, q) : lRes) ≠ oof
      by_cases w : wdE X q = 498
      · rw [if_pos w]
        exact lop 7 6 o a (fun s nm => opE 11 (a nm) (s nm)) (by decide) (by decide) (r5 _) (r5 _) (lt_wd w (by decide))
      · rw [if_neg w]; exact no2
    | 7 => exact two 9 8 o a (fun s => s) (by decide) (by decide) (by decide) (by decide) (by decide)
    | 8 =>
      show (if wdE X q = 1476 then bnd (pgF X f 9 o a (nxE X q)) (fun s q1 => pgF X f 8 o (fun nm => opE 10 (a nm) (s nm)) q1) else .inr (a, q) : lRes) ≠ oof
      by_cases w : wdE X q = 1476
      · rw [if_pos w]
        exact lop 9 8 o a (fun s nm => opE 10 (a nm) (s nm)) (by decide) (by decide) (r5 _) (r5 _) (lt_wd w (by decide))
      · rw [if_neg w]; exact no2
    | m + 9 =>
      have m0 : m = 0 := by omega
      subst m0
      show (if sgE X q 91 then (if 6 ≤ o then .inl (3, q) else bnd (pgF X f 5 (o + 1) a (nxE X q)) (fun s q1 => if sgE X q1 93 then .inr (s, nxE X q1) else .inl (1, q1))) else if wdE X q = 14836 then (if 6 ≤ o then .inl (3, q) else bnd (pgF X f 9 (o + 1) a (nxE X q)) (fun s q1 => .inr (fun nm => 1 - s nm, q1))) else bnd (pgF X f 0 o a q) (fun s q1 => if sgE X q1 60 ∨ sgE X q1 62 ∨ sgE X q1 61 then bnd (pgF X f 0 o a (nxE X q1)) (fun y q2 => .inr (fun nm => opE (if sgE X q1 60 then 6 else if sgE X q1 62 then 7 else 8) (s nm) (y nm), q2)) else .inl (1, q1)) : lRes) ≠ oof
      have e9 : rkE (0 + 9) = 3 := rfl
      by_cases w2 : sgE X q 91
      · rw [if_pos w2]
        obtain ⟨n1, n2, n3⟩ := nx_gt w2.1
        by_cases o6 : 6 ≤ o
        · rw [if_pos o6]; exact no1 (by decide)
        · rw [if_neg o6]
          have := r5 5
          refine bnd_of (ih _ _ _ _ (by decide) n2 n3 (by omega)) (fun c p1 e1 => ?_)
          by_cases w3 : sgE X p1 93
          · rw [if_pos w3]; exact no2
          · rw [if_neg w3]; exact no1 (by decide)
      · rw [if_neg w2]
        by_cases w : wdE X q = 14836
        · rw [if_pos w]
          obtain ⟨n1, n2, n3⟩ := nx_gt (lt_wd w (by decide))
          by_cases o6 : 6 ≤ o
          · rw [if_pos o6]; exact no1 (by decide)
          · rw [if_neg o6]
            have := r5 9
            exact bnd_of (ih _ _ _ _ (by decide) n2 n3 (by omega)) (fun c p1 e1 => no2)
        · rw [if_neg w]
          have e0 : rkE 0 = 2 := rfl
          refine bnd_of (ih _ _ _ _ (by decide) hq hs (by omega)) (fun c p1 e1 => ?_)
          obtain ⟨b1, b2, b3, b4⟩ := pg_pos _ _ _ _ _ _ _ hq hs e1
          by_cases w3 : sgE X p1 60 ∨ sgE X p1 62 ∨ sgE X p1 61
          · rw [if_pos w3]
            have hl : p1 < X.2 := by rcases w3 with w | w | w <;> exact w.1
            obtain ⟨n4, n5, n6⟩ := nx_gt hl
            exact bnd_of (ih _ _ _ _ (by decide) n5 n6 (by omega)) (fun y p2 e2 => no2)
          · rw [if_neg w3]; exact no1 (by decide)
/-- what a condition says is 0 or 1 -/
def is01 (s : lSem) : Prop := ∀ nm, s nm = 0 ∨ s nm = 1
theorem o01 {c : Nat} {x y : Int32} (hc : c = 6 ∨ c = 7 ∨ c = 8) : opE c x y = 0 ∨ opE c x y = 1 := by
  rcases hc with rfl | rfl | rfl
  · show (if x < y then (1 : Int32) else 0) = 0 ∨ (if x < y then (1 : Int32) else 0) = 1
    split
    · exact Or.inr rfl
    · exact Or.inl rfl
  · show (if y < x then (1 : Int32) else 0) = 0 ∨ (if y < x then (1 : Int32) else 0) = 1
    split
    · exact Or.inr rfl
    · exact Or.inl rfl
  · show (if x = y then (1 : Int32) else 0) = 0 ∨ (if x = y then (1 : Int32) else 0) = 1
    split
    · exact Or.inr rfl
    · exact Or.inl rfl
theorem b01' {c : Nat} {x y : Int32} (hc : c = 10 ∨ c = 11) (hx : x = 0 ∨ x = 1) (hy : y = 0 ∨ y = 1) : opE c x y = 0 ∨ opE c x y = 1 := by
  rcases hc with rfl | rfl <;> rcases hx with rfl | rfl <;> rcases hy with rfl | rfl <;> decide
theorem pg_01 : ∀ (f m o : Nat) (a : lSem) (q : Nat) (s : lSem) (q1 : Nat), 5 ≤ m → (m = 6 ∨ m = 8 → is01 a) → pgF X f m o a q = .inr (s, q1) → is01 s := by
  intro f
  induction f with
  | zero => intro m o a q s q1 _ _ h; cases h
  | succ f ih =>
    intro m o a q s q1 hm ha h
    match m with
    | 0 => omega
    | 1 => omega
    | 2 => omega
    | 3 => omega
    | 4 => omega
    | 5 =>
      obtain ⟨s1, p1, e1, h⟩ := bnd_i (r := pgF X f 7 o a q) (k := fun s q1 => pgF X f 6 o s q1) h
      exact ih 6 _ _ _ _ _ (by decide) (fun _ => ih 7 _ _ _ _ _ (by decide) (fun g => by omega) e1) h
    | 6 =>
      replace h : (if wdE X q = 498 then bnd (pgF X f 7 o a (nxE X q)) (fun s q1 => pgF X f 6 o (fun nm => opE 11 (a nm) (s nm)) q1) else .inr (a, q) : lRes) = .inr (s, q1) := h
      by_cases w : wdE X q = 498
      · rw [if_pos w] at h
        obtain ⟨s1, p1, e1, h⟩ := bnd_i h
        have a1 := ih 7 _ _ _ _ _ (by decide) (fun g => by omega) e1
        exact ih 6 _ _ _ _ _ (by decide) (fun _ nm => b01' (Or.inr rfl) (ha (Or.inl rfl) nm) (a1 nm)) h
      · rw [if_neg w] at h
        cases h
        exact ha (Or.inl rfl)
    | 7 =>
      obtain ⟨s1, p1, e1, h⟩ := bnd_i (r := pgF X f 9 o a q) (k := fun s q1 => pgF X f 8 o s q1) h
      exact ih 8 _ _ _ _ _ (by decide) (fun _ => ih 9 _ _ _ _ _ (by decide) (fun g => by omega) e1) h
    | 8 =>
      replace h : (if wdE X q = 1476 then bnd (pgF X f 9 o a (nxE X q)) (fun s q1 => pgF X f 8 o (fun nm => opE 10 (a nm) (s nm)) q1) else .inr (a, q) : lRes) = .inr (s, q1) := h
      by_cases w : wdE X q = 1476
      · rw [if_pos w] at h
        obtain ⟨s1, p1, e1, h⟩ := bnd_i h
        have a1 := ih 9 _ _ _ _ _ (by decide) (fun g => by omega) e1
        exact ih 8 _ _ _ _ _ (by decide) (fun _ nm => b01' (Or.inl rfl) (ha (Or.inr rfl) nm) (a1 nm)) h
      · rw [if_neg w] at h
        cases h
        exact ha (Or.inr rfl)
    | m + 9 =>
      replace h : (if sgE X q 91 then (if 6 ≤ o then .inl (3, q) else bnd (pgF X f 5 (o + 1) a (nxE X q)) (fun s q1 => if sgE X q1 93 then .inr (s, nxE X q1) else .inl (1, q1))) else if wdE X q = 14836 then (if 6 ≤ o then .inl (3, q) else bnd (pgF X f 9 (o + 1) a (nxE X q)) (fun s q1 => .inr (fun nm => 1 - s nm, q1))) else bnd (pgF X f 0 o a q) (fun s q1 => if sgE X q1 60 ∨ sgE X q1 62 ∨ sgE X q1 61 then bnd (pgF X f 0 o a (nxE X q1)) (fun y q2 => .inr (fun nm => opE (if sgE X q1 60 then 6 else if sgE X q1 62 then 7 else 8) (s nm) (y nm), q2)) else .inl (1, q1)) : lRes) = .inr (s, q1) := h
      by_cases w2 : sgE X q 91
      · rw [if_pos w2] at h
        by_cases o6 : 6 ≤ o
        · rw [if_pos o6] at h; cases h
        · rw [if_neg o6] at h
          obtain ⟨c, p1, e1, h⟩ := bnd_i h
          have a1 := ih 5 _ _ _ _ _ (by decide) (fun g => by omega) e1
          by_cases w3 : sgE X p1 93
          · rw [if_pos w3] at h; cases h; exact a1
          · rw [if_neg w3] at h; cases h
      · rw [if_neg w2] at h
        by_cases w : wdE X q = 14836
        · rw [if_pos w] at h
          by_cases o6 : 6 ≤ o
          · rw [if_pos o6] at h; cases h
          · rw [if_neg o6] at h
            obtain ⟨c, p1, e1, h⟩ := bnd_i h
            have a1 := ih 9 _ _ _ _ _ (by decide) (fun g => by omega) e1
            cases h
            intro nm
            show 1 - c nm = 0 ∨ 1 - c nm = 1
            rcases a1 nm with g | g <;> rw [g] <;> decide
        · rw [if_neg w] at h
          obtain ⟨c, p1, e1, h⟩ := bnd_i h
          by_cases w3 : sgE X p1 60 ∨ sgE X p1 62 ∨ sgE X p1 61
          · rw [if_pos w3] at h
            obtain ⟨y, p2, e2, h⟩ := bnd_i h
            cases h
            intro nm
            refine o01 ?_
            split
            · exact Or.inl rfl
            · split
              · exact Or.inr (Or.inl rfl)
              · exact Or.inr (Or.inr rfl)
          · rw [if_neg w3] at h; cases h
end
