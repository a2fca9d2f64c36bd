/-! a beach's text -/
abbrev bSt : Type := Nat × Nat × (Nat → Nat → Nat → Int) × (Nat → Int) × (Nat → Int) × (Nat × (Nat → Nat × Nat × Nat × Int)) × (Nat × (Nat → Nat × Nat × Int × Int)) × Nat × Nat
abbrev bC (B : bSt) : Nat := B.1
abbrev bZ (B : bSt) : Nat := B.2.1
abbrev bF (B : bSt) : Nat → Nat → Nat → Int := B.2.2.1
abbrev bR (B : bSt) : Nat → Int := B.2.2.2.1
abbrev bL (B : bSt) : Nat → Int := B.2.2.2.2.1
abbrev bSn (B : bSt) : Nat := B.2.2.2.2.2.1.1
abbrev bSf (B : bSt) : Nat → Nat × Nat × Nat × Int := B.2.2.2.2.2.1.2
abbrev bLn (B : bSt) : Nat := B.2.2.2.2.2.2.1.1
abbrev bLf (B : bSt) : Nat → Nat × Nat × Int × Int := B.2.2.2.2.2.2.1.2
abbrev bTc (B : bSt) : Nat := B.2.2.2.2.2.2.2.1
abbrev bTs (B : bSt) : Nat := B.2.2.2.2.2.2.2.2
def b0S : bSt := (6, 4, (fun _ _ _ => 0), (fun _ => 20), (fun _ => 0), (0, fun _ => (0, 0, 0, 0)), (0, fun _ => (0, 0, 0, 0)), 0, 0)
/-- a clause's kind -/
def bK (w : Nat) : Nat := if w = 3322259 then 0 else if w = 20244659 then 1 else if w = 267312 then 2 else if w = 3741300 then 3 else if w = 755084 then 4 else if w = 654910919 then 5 else if w = 13093465 then 6 else 7
/-- what is wrong with a clause at its word: 0 nothing -/
def bFt (i : Nat) (B : bSt) (kd : Nat) : Nat := if kd = 7 then 1 else if i = 60 ∨ (kd = 5 ∧ bSn B = 8) ∨ (kd = 6 ∧ bLn B = 4) then 3 else if (kd = 0 ∧ bTc B = 1) ∨ (kd = 1 ∧ bTs B = 1) ∨ (kd ≤ 1 ∧ bTc B + bTs B < i) then 4 else 0
def bZ1 (X : tTx) (i : Nat) (B : bSt) (q : Nat) : tZ := if bFt i B (bK (wdE X q)) = 0 then .inr (nxE X q) else .inl (bFt i B (bK (wdE X q)), q)
/-- the number there is c -/
def zEq (X : tTx) (c : Nat) (z : tZ) : Prop := zKd X z = 1 ∧ zVa X z = c
/-- the numbers' states behind the word -/
def bA1 (X : tTx) (B : bSt) (kd : Nat) (z : tZ) : tZ := if kd = 0 then zNm X 2 12 z else if kd = 1 then zNm X 2 6 z else if kd = 4 then zNm X 0 ((bC B : Int) - 2) z else zNm X 0 ((bC B : Int) - 1) z
def bA2 (X : tTx) (B : bSt) (kd : Nat) (z : tZ) : tZ := if kd ≤ 1 then bA1 X B kd z else if kd = 3 then zNm X 1 60 (bA1 X B kd z) else if kd = 4 then zNm X 1 16 (bA1 X B kd z) else if kd = 6 then zNm X 0 (bC B) (if zKd X (bA1 X B kd z) = 1 ∧ zVa X (bA1 X B kd z) = zVa X z then zFl 2 (bA1 X B kd z) else bA1 X B kd z) else zNm X 0 ((bZ B : Int) - 1) (bA1 X B kd z)
def bA3 (X : tTx) (B : bSt) (kd : Nat) (z : tZ) : tZ := if kd = 2 ∨ kd = 5 then zNm X 0 2 (bA2 X B kd z) else if kd = 6 then zNm X 1 999 (bA2 X B kd z) else bA2 X B kd z
def bA4 (X : tTx) (B : bSt) (kd : Nat) (z : tZ) : tZ := if kd = 2 then zNm X 0 9999 (bA3 X B kd z) else if kd = 5 then zNm X 1 999 (bA3 X B kd z) else if kd = 6 then zNm X 1 99 (bA3 X B kd z) else bA3 X B kd z
/-- the state behind a clause of numbers a, b, c, d -/
def bUp (B : bSt) (kd a b c e : Nat) : bSt :=
  if kd = 0 then (a, B.2.1, B.2.2.1, B.2.2.2.1, B.2.2.2.2.1, B.2.2.2.2.2.1, B.2.2.2.2.2.2.1, 1, B.2.2.2.2.2.2.2.2)
  else if kd = 1 then (B.1, a, B.2.2.1, B.2.2.2.1, B.2.2.2.2.1, B.2.2.2.2.2.1, B.2.2.2.2.2.2.1, B.2.2.2.2.2.2.2.1, 1)
  else if kd = 2 then (B.1, B.2.1, updF (bF B) a b c e, B.2.2.2)
  else if kd = 3 then (B.1, B.2.1, B.2.2.1, (fun x => if x = a then (b : Int) else bR B x), B.2.2.2.2)
  else if kd = 4 then (B.1, B.2.1, B.2.2.1, B.2.2.2.1, (fun x => if x = a then (b : Int) else bL B x), B.2.2.2.2.2)
  else if kd = 5 then (B.1, B.2.1, B.2.2.1, B.2.2.2.1, B.2.2.2.2.1, (bSn B + 1, fun j => if j = bSn B then (a, b, c, (e : Int)) else bSf B j), B.2.2.2.2.2.2)
  else (B.1, B.2.1, B.2.2.1, B.2.2.2.1, B.2.2.2.2.1, B.2.2.2.2.2.1, (bLn B + 1, fun j => if j = bLn B then (a, b, (c : Int), (e : Int)) else bLf B j), B.2.2.2.2.2.2.2)
/-- a clause, whole, its sign behind -/
def bCl (X : tTx) (i : Nat) (B : bSt) (q : Nat) : tZ := zSg X 59 (bA4 X B (bK (wdE X q)) (bZ1 X i B q))
def bNx (X : tTx) (i : Nat) (B : bSt) (q : Nat) : bSt := bUp B (bK (wdE X q)) (zVa X (bZ1 X i B q)) (zVa X (bA1 X B (bK (wdE X q)) (bZ1 X i B q))) (zVa X (bA2 X B (bK (wdE X q)) (bZ1 X i B q))) (zVa X (bA3 X B (bK (wdE X q)) (bZ1 X i B q)))
def blF (X : tTx) : Nat → Nat → tZ → bSt → tZ × bSt
  | 0, _, z, B => (z, B)
  | f + 1, i, z, B => match z with
    | .inl e => (.inl e, B)
    | .inr q => if X.2 ≤ q then (.inr q, B) else blF X f (i + 1) (bCl X i B q) (bNx X i B q)
/-- what holds of it behind i clauses -/
def bOK (i : Nat) (B : bSt) : Prop := (2 ≤ bC B ∧ bC B ≤ 12) ∧ (2 ≤ bZ B ∧ bZ B ≤ 6) ∧ bTc B ≤ 1 ∧ bTs B ≤ 1 ∧ bTc B + bTs B ≤ i ∧ (bTc B + bTs B = i → (∀ c z k, bF B c z k = 0) ∧ bSn B = 0 ∧ bLn B = 0) ∧
  ((∀ c z k, 0 ≤ bF B c z k ∧ bF B c z k ≤ 9999) ∧ (∀ c z k, bC B ≤ c ∨ bZ B ≤ z ∨ 3 ≤ k → bF B c z k = 0) ∧ tot (bF B) ≤ 9999 * i) ∧ (∀ c, 1 ≤ bR B c ∧ bR B c ≤ 60) ∧ (∀ c, 0 ≤ bL B c ∧ bL B c ≤ 16) ∧ spOK (bC B) (bZ B) (bSn B) (bSf B) ∧ loOK (bC B) (bLn B) (bLf B)
theorem bK_le (w : Nat) : bK w ≤ 7 := by unfold bK; (repeat' split) <;> omega
theorem b_lt {X : tTx} {q : Nat} (h : bK (wdE X q) ≠ 7) : q < X.2 := by
  refine (wd_let (X := X) (q := q) (fun e => h ?_)).2.1
  rw [e]
  rfl
theorem b0_ok : bOK 0 b0S := by
  have t0 : tot (fun _ _ _ => (0 : Int)) = 0 := sumTo_zero (fun c _ => sumTo_zero (fun z _ => sumTo_zero (fun k _ => rfl)))
  refine ⟨by decide, by decide, by decide, by decide, by decide, fun _ => ⟨fun _ _ _ => rfl, rfl, rfl⟩, ⟨fun _ _ _ => ⟨Int.le_refl _, by show (0 : Int) ≤ 9999; decide⟩, fun _ _ _ _ => rfl, ?_⟩, fun _ => ⟨by show (1 : Int) ≤ 20; decide, by show (20 : Int) ≤ 60; decide⟩, fun _ => ⟨Int.le_refl _, by show (0 : Int) ≤ 16; decide⟩, ⟨by decide, fun i hi => absurd hi (Nat.not_lt_zero _)⟩, ⟨by decide, fun i hi => absurd hi (Nat.not_lt_zero _)⟩⟩
  show tot (fun _ _ _ => (0 : Int)) ≤ 9999 * ((0 : Nat) : Int)
  rw [t0]
  decide
section
variable {X : tTx} {B : bSt} {z : tZ}
theorem ba_0 : bA4 X B 0 z = zNm X 2 12 z ∧ bA3 X B 0 z = zNm X 2 12 z ∧ bA2 X B 0 z = zNm X 2 12 z ∧ bA1 X B 0 z = zNm X 2 12 z := ⟨rfl, rfl, rfl, rfl⟩
theorem ba_1 : bA4 X B 1 z = zNm X 2 6 z ∧ bA3 X B 1 z = zNm X 2 6 z ∧ bA2 X B 1 z = zNm X 2 6 z ∧ bA1 X B 1 z = zNm X 2 6 z := ⟨rfl, rfl, rfl, rfl⟩
theorem ba_2 : bA1 X B 2 z = zNm X 0 ((bC B : Int) - 1) z ∧ bA2 X B 2 z = zNm X 0 ((bZ B : Int) - 1) (bA1 X B 2 z) ∧ bA3 X B 2 z = zNm X 0 2 (bA2 X B 2 z) ∧ bA4 X B 2 z = zNm X 0 9999 (bA3 X B 2 z) := ⟨rfl, rfl, rfl, rfl⟩
theorem ba_3 : bA1 X B 3 z = zNm X 0 ((bC B : Int) - 1) z ∧ bA2 X B 3 z = zNm X 1 60 (bA1 X B 3 z) ∧ bA3 X B 3 z = bA2 X B 3 z ∧ bA4 X B 3 z = bA2 X B 3 z := ⟨rfl, rfl, rfl, rfl⟩
theorem ba_4 : bA1 X B 4 z = zNm X 0 ((bC B : Int) - 2) z ∧ bA2 X B 4 z = zNm X 1 16 (bA1 X B 4 z) ∧ bA3 X B 4 z = bA2 X B 4 z ∧ bA4 X B 4 z = bA2 X B 4 z := ⟨rfl, rfl, rfl, rfl⟩
theorem ba_5 : bA1 X B 5 z = zNm X 0 ((bC B : Int) - 1) z ∧ bA2 X B 5 z = zNm X 0 ((bZ B : Int) - 1) (bA1 X B 5 z) ∧ bA3 X B 5 z = zNm X 0 2 (bA2 X B 5 z) ∧ bA4 X B 5 z = zNm X 1 999 (bA3 X B 5 z) := ⟨rfl, rfl, rfl, rfl⟩
theorem ba_6 : bA1 X B 6 z = zNm X 0 ((bC B : Int) - 1) z ∧ bA2 X B 6 z = zNm X 0 (bC B) (if zKd X (bA1 X B 6 z) = 1 ∧ zVa X (bA1 X B 6 z) = zVa X z then zFl 2 (bA1 X B 6 z) else bA1 X B 6 z) ∧ bA3 X B 6 z = zNm X 1 999 (bA2 X B 6 z) ∧ bA4 X B 6 z = zNm X 1 99 (bA3 X B 6 z) := ⟨rfl, rfl, rfl, rfl⟩
theorem ba_inl {kd : Nat} {e : Nat × Nat} : bA4 X B kd (.inl e) = .inl e := by
  have n : ∀ lo up : Int, zNm X lo up (.inl e) = .inl e := fun _ _ => rfl
  have f : ∀ k : Nat, zFl k (.inl e) = (.inl e : tZ) := fun _ => rfl
  have a1 : bA1 X B kd (.inl e) = .inl e := by unfold bA1; (repeat' split) <;> rfl
  have a2 : bA2 X B kd (.inl e) = .inl e := by
    unfold bA2
    rw [a1]
    (repeat' split) <;> rfl
  have a3 : bA3 X B kd (.inl e) = .inl e := by
    unfold bA3
    rw [a2]
    (repeat' split) <;> rfl
  unfold bA4
  rw [a3]
  (repeat' split) <;> rfl
theorem bn_ok {i q q' : Nat} (h : bOK i B) (hq : bCl X i B q = .inr q') : bOK (i + 1) (bNx X i B q) ∧ i ≠ 60 ∧ q < X.2 ∧ bFt i B (bK (wdE X q)) = 0 := by
  obtain ⟨p4, e4, -⟩ := zSg_i (show zSg X 59 (bA4 X B (bK (wdE X q)) (bZ1 X i B q)) = _ from hq)
  have ft : bFt i B (bK (wdE X q)) = 0 := by
    by_cases g : bFt i B (bK (wdE X q)) = 0
    · exact g
    · have : bZ1 X i B q = .inl (bFt i B (bK (wdE X q)), q) := if_neg g
      rw [this, ba_inl] at e4
      cases e4
  have k7 := bK_le (wdE X q)
  have hl : bK (wdE X q) ≠ 7 := fun g => by rw [g] at ft; exact absurd ft (by unfold bFt; rw [if_pos rfl]; decide)
  have hq9 := b_lt hl
  unfold bNx
  generalize bZ1 X i B q = z1 at e4 ⊢
  generalize bK (wdE X q) = kd at *
  obtain ⟨⟨c1, c2⟩, ⟨s1, s2⟩, tc, ts, ti, tm, ⟨f1, f2, f3⟩, r1, w1, sp, lo⟩ := id h
  have ft2 : i ≠ 60 ∧ (kd = 5 → bSn B ≠ 8) ∧ (kd = 6 → bLn B ≠ 4) ∧ (kd = 0 → bTc B ≠ 1) ∧ (kd = 1 → bTs B ≠ 1) ∧ (kd ≤ 1 → ¬ bTc B + bTs B < i) := by
    unfold bFt at ft
    rw [if_neg hl] at ft
    by_cases g : i = 60 ∨ (kd = 5 ∧ bSn B = 8) ∨ (kd = 6 ∧ bLn B = 4)
    · rw [if_pos g] at ft; omega
    rw [if_neg g] at ft
    by_cases g2 : (kd = 0 ∧ bTc B = 1) ∨ (kd = 1 ∧ bTs B = 1) ∨ (kd ≤ 1 ∧ bTc B + bTs B < i)
    · rw [if_pos g2] at ft; omega
    · omega
  obtain ⟨n60, n5, n6, n0, n1, nm⟩ := ft2
  refine ⟨?_, n60, hq9, ft⟩
  have dj : kd = 0 ∨ kd = 1 ∨ kd = 2 ∨ kd = 3 ∨ kd = 4 ∨ kd = 5 ∨ kd = 6 := by omega
  rcases dj with rfl | rfl | rfl | rfl | rfl | rfl | rfl
  · rw [ba_0.1] at e4
    obtain ⟨p, x1, -, v1, v2, -, v3⟩ := zNm_i e4
    obtain ⟨z1', z2', z3'⟩ := tm (by have := nm (by decide); omega)
    have t1 := n0 rfl
    refine ⟨?_, ⟨s1, s2⟩, Nat.le_refl _, ts, ?_, fun _ => ⟨z1', z2', z3'⟩, ⟨f1, fun c z k _ => z1' c z k, by show tot (bF B) ≤ 9999 * ((i + 1 : Nat) : Int); omega⟩, r1, w1, ⟨sp.1, fun j hj => absurd hj (by show ¬ j < bSn B; omega)⟩, ⟨lo.1, fun j hj => absurd hj (by show ¬ j < bLn B; omega)⟩⟩
    · show 2 ≤ zVa X z1 ∧ zVa X z1 ≤ 12
      rw [v3]; omega
    · show 1 + bTs B ≤ i + 1
      omega
  · rw [ba_1.1] at e4
    obtain ⟨p, x1, -, v1, v2, -, v3⟩ := zNm_i e4
    obtain ⟨z1', z2', z3'⟩ := tm (by have := nm (by decide); omega)
    have t1 := n1 rfl
    refine ⟨⟨c1, c2⟩, ?_, tc, Nat.le_refl _, ?_, fun _ => ⟨z1', z2', z3'⟩, ⟨f1, fun c z k _ => z1' c z k, by show tot (bF B) ≤ 9999 * ((i + 1 : Nat) : Int); omega⟩, r1, w1, ⟨sp.1, fun j hj => absurd hj (by show ¬ j < bSn B; omega)⟩, lo⟩
    · show 2 ≤ zVa X z1 ∧ zVa X z1 ≤ 6
      rw [v3]; omega
    · show bTc B + 1 ≤ i + 1
      omega
  · obtain ⟨b1, b2, b3, b4⟩ := ba_2 (X := X) (B := B) (z := z1)
    rw [b4] at e4
    obtain ⟨p3, x3, -, v31, v32, -, v3⟩ := zNm_i e4
    have x3' := x3
    rw [b3] at x3
    obtain ⟨p2, x2, -, v21, v22, -, v2⟩ := zNm_i x3
    have x2' := x2
    rw [b2] at x2
    obtain ⟨p1, x1, -, v11, v12, -, v1⟩ := zNm_i x2
    have x1' := x1
    rw [b1] at x1
    obtain ⟨p0, x0, -, v01, v02, -, v0⟩ := zNm_i x1
    have ea : zVa X z1 < bC B := by rw [v0]; omega
    have eb : zVa X (bA1 X B 2 z1) < bZ B := by rw [v1]; omega
    have ec : zVa X (bA2 X B 2 z1) < 3 := by rw [v2]; omega
    have ed : zVa X (bA3 X B 2 z1) ≤ 9999 := by rw [v3]; omega
    generalize zVa X z1 = a at *
    generalize zVa X (bA1 X B 2 z1) = b at *
    generalize zVa X (bA2 X B 2 z1) = c at *
    generalize zVa X (bA3 X B 2 z1) = e at *
    refine ⟨⟨c1, c2⟩, ⟨s1, s2⟩, tc, ts, by show bTc B + bTs B ≤ i + 1; omega, fun g => absurd (show bTc B + bTs B = i + 1 from g) (by omega), ⟨fun c' z' k' => ?_, fun c' z' k' g => ?_, ?_⟩, r1, w1, sp, lo⟩
    · show 0 ≤ updF (bF B) a b c e c' z' k' ∧ updF (bF B) a b c e c' z' k' ≤ 9999
      unfold updF
      split
      · omega
      · exact f1 c' z' k'
    · show updF (bF B) a b c e c' z' k' = 0
      unfold updF
      rw [if_neg (fun w => by
        replace g : bC B ≤ c' ∨ bZ B ≤ z' ∨ 3 ≤ k' := g
        omega)]
      exact f2 c' z' k' g
    · show tot (updF (bF B) a b c e) ≤ 9999 * ((i + 1 : Nat) : Int)
      have t1 : tot (updF (bF B) a b c e) ≤ tot (fun c' z' k' => bF B c' z' k' + (if c' = a ∧ z' = b ∧ k' = c then (e : Int) else 0)) := tot_le (fun c' z' k' _ _ _ => by
        have := (f1 c' z' k').1
        unfold updF
        split
        · omega
        · omega)
      rw [tot_add, tot_one (by omega) (by omega) (by omega)] at t1
      omega
  · obtain ⟨b1, b2, b3, b4⟩ := ba_3 (X := X) (B := B) (z := z1)
    rw [b4, b2] at e4
    obtain ⟨p1, x1, -, v11, v12, -, v1⟩ := zNm_i e4
    have x1' := x1
    rw [b1] at x1
    obtain ⟨p0, x0, -, v01, v02, -, v0⟩ := zNm_i x1
    have eb : 1 ≤ zVa X (bA1 X B 3 z1) ∧ zVa X (bA1 X B 3 z1) ≤ 60 := by rw [v1]; omega
    refine ⟨⟨c1, c2⟩, ⟨s1, s2⟩, tc, ts, by show bTc B + bTs B ≤ i + 1; omega, fun g => absurd (show bTc B + bTs B = i + 1 from g) (by omega), ⟨f1, f2, by show tot (bF B) ≤ 9999 * ((i + 1 : Nat) : Int); omega⟩, fun x => ?_, w1, sp, lo⟩
    show 1 ≤ (if x = zVa X z1 then ((zVa X (bA1 X B 3 z1) : Nat) : Int) else bR B x) ∧ (if x = zVa X z1 then ((zVa X (bA1 X B 3 z1) : Nat) : Int) else bR B x) ≤ 60
    split
    · omega
    · exact r1 x
  · obtain ⟨b1, b2, b3, b4⟩ := ba_4 (X := X) (B := B) (z := z1)
    rw [b4, b2] at e4
    obtain ⟨p1, x1, -, v11, v12, -, v1⟩ := zNm_i e4
    have x1' := x1
    rw [b1] at x1
    obtain ⟨p0, x0, -, v01, v02, -, v0⟩ := zNm_i x1
    have eb : 1 ≤ zVa X (bA1 X B 4 z1) ∧ zVa X (bA1 X B 4 z1) ≤ 16 := by rw [v1]; omega
    refine ⟨⟨c1, c2⟩, ⟨s1, s2⟩, tc, ts, by show bTc B + bTs B ≤ i + 1; omega, fun g => absurd (show bTc B + bTs B = i + 1 from g) (by omega), ⟨f1, f2, by show tot (bF B) ≤ 9999 * ((i + 1 : Nat) : Int); omega⟩, r1, fun x => ?_, sp, lo⟩
    show 0 ≤ (if x = zVa X z1 then ((zVa X (bA1 X B 4 z1) : Nat) : Int) else bL B x) ∧ (if x = zVa X z1 then ((zVa X (bA1 X B 4 z1) : Nat) : Int) else bL B x) ≤ 16
    split
    · omega
    · exact w1 x
  · obtain ⟨b1, b2, b3, b4⟩ := ba_5 (X := X) (B := B) (z := z1)
    rw [b4] at e4
    obtain ⟨p3, x3, -, v31, v32, -, v3⟩ := zNm_i e4
    rw [b3] at x3
    obtain ⟨p2, x2, -, v21, v22, -, v2⟩ := zNm_i x3
    rw [b2] at x2
    obtain ⟨p1, x1, -, v11, v12, -, v1⟩ := zNm_i x2
    rw [b1] at x1
    obtain ⟨p0, x0, -, v01, v02, -, v0⟩ := zNm_i x1
    have ea : zVa X z1 < bC B := by rw [v0]; omega
    have eb : zVa X (bA1 X B 5 z1) < bZ B := by rw [v1]; omega
    have ec : zVa X (bA2 X B 5 z1) < 3 := by rw [v2]; omega
    have ed : 1 ≤ zVa X (bA3 X B 5 z1) ∧ zVa X (bA3 X B 5 z1) ≤ 999 := by rw [v3]; omega
    have n8 := n5 rfl
    refine ⟨⟨c1, c2⟩, ⟨s1, s2⟩, tc, ts, by show bTc B + bTs B ≤ i + 1; omega, fun g => absurd (show bTc B + bTs B = i + 1 from g) (by omega), ⟨f1, f2, by show tot (bF B) ≤ 9999 * ((i + 1 : Nat) : Int); omega⟩, r1, w1, ⟨by show bSn B + 1 ≤ 8; have := sp.1; omega, fun j hj => ?_⟩, lo⟩
    replace hj : j < bSn B + 1 := hj
    show (if j = bSn B then (zVa X z1, zVa X (bA1 X B 5 z1), zVa X (bA2 X B 5 z1), ((zVa X (bA3 X B 5 z1) : Nat) : Int)) else bSf B j).1 < bC B ∧ (if j = bSn B then (zVa X z1, zVa X (bA1 X B 5 z1), zVa X (bA2 X B 5 z1), ((zVa X (bA3 X B 5 z1) : Nat) : Int)) else bSf B j).2.1 < bZ B ∧ (if j = bSn B then (zVa X z1, zVa X (bA1 X B 5 z1), zVa X (bA2 X B 5 z1), ((zVa X (bA3 X B 5 z1) : Nat) : Int)) else bSf B j).2.2.1 < 3 ∧ 1 ≤ (if j = bSn B then (zVa X z1, zVa X (bA1 X B 5 z1), zVa X (bA2 X B 5 z1), ((zVa X (bA3 X B 5 z1) : Nat) : Int)) else bSf B j).2.2.2 ∧ (if j = bSn B then (zVa X z1, zVa X (bA1 X B 5 z1), zVa X (bA2 X B 5 z1), ((zVa X (bA3 X B 5 z1) : Nat) : Int)) else bSf B j).2.2.2 ≤ 999
    by_cases ej : j = bSn B
    · rw [if_pos ej]
      exact ⟨ea, eb, ec, by show (1 : Int) ≤ ((zVa X (bA3 X B 5 z1) : Nat) : Int); omega, by show ((zVa X (bA3 X B 5 z1) : Nat) : Int) ≤ 999; omega⟩
    · rw [if_neg ej]
      exact sp.2 j (by omega)
  · obtain ⟨b1, b2, b3, b4⟩ := ba_6 (X := X) (B := B) (z := z1)
    rw [b4] at e4
    obtain ⟨p3, x3, -, v31, v32, -, v3⟩ := zNm_i e4
    rw [b3] at x3
    obtain ⟨p2, x2, -, v21, v22, -, v2⟩ := zNm_i x3
    rw [b2] at x2
    by_cases g : zKd X (bA1 X B 6 z1) = 1 ∧ zVa X (bA1 X B 6 z1) = zVa X z1
    · rw [if_pos g] at x2
      obtain ⟨p1, x1, -⟩ := zNm_i x2
      exact (zFl_i x1).elim
    rw [if_neg g] at x2
    obtain ⟨p1, x1, k1, v11, v12, -, v1⟩ := zNm_i x2
    have g2 : zVa X (bA1 X B 6 z1) ≠ zVa X z1 := fun w => g ⟨by rw [x1]; exact k1, w⟩
    rw [b1] at x1
    obtain ⟨p0, x0, -, v01, v02, -, v0⟩ := zNm_i x1
    have ea : zVa X z1 < bC B := by rw [v0]; omega
    have eb : zVa X (bA1 X B 6 z1) ≤ bC B := by rw [v1]; omega
    have ec : 1 ≤ zVa X (bA2 X B 6 z1) ∧ zVa X (bA2 X B 6 z1) ≤ 999 := by rw [v2]; omega
    have ed : 1 ≤ zVa X (bA3 X B 6 z1) ∧ zVa X (bA3 X B 6 z1) ≤ 99 := by rw [v3]; omega
    have n4 := n6 rfl
    refine ⟨⟨c1, c2⟩, ⟨s1, s2⟩, tc, ts, by show bTc B + bTs B ≤ i + 1; omega, fun g => absurd (show bTc B + bTs B = i + 1 from g) (by omega), ⟨f1, f2, by show tot (bF B) ≤ 9999 * ((i + 1 : Nat) : Int); omega⟩, r1, w1, sp, ⟨by show bLn B + 1 ≤ 4; have := lo.1; omega, fun j hj => ?_⟩⟩
    replace hj : j < bLn B + 1 := hj
    have hh : ∀ x : Nat × Nat × Int × Int, x = (if j = bLn B then (zVa X z1, zVa X (bA1 X B 6 z1), ((zVa X (bA2 X B 6 z1) : Nat) : Int), ((zVa X (bA3 X B 6 z1) : Nat) : Int)) else bLf B j) → x.1 < bC B ∧ x.2.1 ≤ bC B ∧ x.1 ≠ x.2.1 ∧ (1 ≤ x.2.2.1 ∧ x.2.2.1 ≤ 999) ∧ 1 ≤ x.2.2.2 ∧ x.2.2.2 ≤ 99 := fun x hx => by
      by_cases ej : j = bLn B
      · rw [if_pos ej] at hx
        subst hx
        exact ⟨ea, eb, fun w => g2 w.symm, ⟨by show (1 : Int) ≤ ((zVa X (bA2 X B 6 z1) : Nat) : Int); omega, by show ((zVa X (bA2 X B 6 z1) : Nat) : Int) ≤ 999; omega⟩, by show (1 : Int) ≤ ((zVa X (bA3 X B 6 z1) : Nat) : Int); omega, by show ((zVa X (bA3 X B 6 z1) : Nat) : Int) ≤ 99; omega⟩
      · rw [if_neg ej] at hx
        rw [hx]
        exact lo.2 j (by omega)
    exact hh _ rfl
/-- how a beach's reading ends -/
theorem bl_ok : ∀ (f i : Nat) (z : tZ) (B : bSt), i + f = 62 → i ≤ 61 → (i = 61 → ∃ e, z = .inl e) → (∀ q, z = .inr q → bOK i B) → (∀ q, (blF X f i z B).1 = .inr q → X.2 ≤ q ∧ bOK 60 (blF X f i z B).2) := by
  intro f
  induction f with
  | zero => intro i z B h1 h2; omega
  | succ f ih =>
    intro i z B h1 h2 h3 hB q hq
    rcases z with e | p
    · cases hq
    have e : blF X (f + 1) i (.inr p) B = if X.2 ≤ p then (.inr p, B) else blF X f (i + 1) (bCl X i B p) (bNx X i B p) := rfl
    have i61 : i ≠ 61 := fun g => by obtain ⟨e, he⟩ := h3 g; cases he
    rw [e] at hq ⊢
    by_cases g : X.2 ≤ p
    · rw [if_pos g] at hq ⊢
      cases hq
      refine ⟨g, ?_⟩
      have o := hB q rfl
      obtain ⟨o1, o2, o3, o4, o5, o6, ⟨o7, o8, o9⟩, o10⟩ := o
      refine ⟨o1, o2, o3, o4, ?_, fun g9 => absurd (show bTc B + bTs B = 60 from g9) (by omega), ⟨o7, o8, ?_⟩, o10⟩
      · show bTc B + bTs B ≤ 60
        omega
      · show tot (bF B) ≤ 9999 * ((60 : Nat) : Int)
        omega
    · rw [if_neg g] at hq ⊢
      refine ih (i + 1) _ _ (by omega) (by omega) (fun w => ?_) (fun q1 hq1 => (bn_ok (hB p rfl) hq1).1) q hq
      rcases hz : bCl X i B p with e1 | q1
      · exact ⟨e1, rfl⟩
      · exact absurd (show i = 60 by omega) (bn_ok (hB p rfl) hz).2.1
end
