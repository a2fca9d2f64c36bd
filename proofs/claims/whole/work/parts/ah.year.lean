/-! a year's text -/
def zMo (X : tTx) (z : tZ) : Prop := zKd X z ≠ 0 ∧ zKd X z ≠ 4
def y1Z (X : tTx) (i : Nat) (z : tZ) : tZ := if i = 20 ∧ zWo X z = 755397 then zFl 3 z else z
def y2Z (X : tTx) (i : Nat) (z : tZ) : tZ := zWd X 755397 (y1Z X i z)
def y3Z (X : tTx) (i : Nat) (z : tZ) : tZ := zNm X 1 30 (y2Z X i z)
def y4Z (X : tTx) (i : Nat) (z : tZ) : tZ := zNm X 1 20 (y3Z X i z)
def y5Z (X : tTx) (i : Nat) (z : tZ) : tZ := zNm X 0 1 (y4Z X i z)
def y6Z (X : tTx) (i : Nat) (z : tZ) : tZ := if zWo X (y5Z X i z) = 21279923 then zNm X 1 9 (zSt X (y5Z X i z)) else y5Z X i z
def y7Z (X : tTx) (i : Nat) (z : tZ) : tZ := zSg X 59 (y6Z X i z)
def ywZ (X : tTx) (i : Nat) (z : tZ) : (Int × Int × Int) × Nat := (((zVa X (y2Z X i z) : Nat), (zVa X (y3Z X i z) : Nat), (zVa X (y4Z X i z) : Nat)), if zWo X (y5Z X i z) = 21279923 then zVa X (zSt X (y5Z X i z)) else 1)
/-- the waves, one by one -/
def yrZ (X : tTx) : Nat → Nat → tZ → hYr → tZ × Nat × hYr
  | 0, i, z, Y => (z, i, Y)
  | f + 1, i, z, Y => if zKd X z ≠ 0 ∧ zKd X z ≠ 4 then yrZ X f (i + 1) (y7Z X i z) (fun j => if j = i then ywZ X i z else Y j) else (z, i, Y)
def y0Z (X : tTx) : tZ := if skE X 0 < X.2 then .inr (skE X 0) else .inl (1, skE X 0)
theorem zNm_i {X : tTx} {lo up : Int} {z : tZ} {q : Nat} (h : zNm X lo up z = .inr q) : ∃ p, z = .inr p ∧ kdE X p = 1 ∧ lo ≤ (nvE X p : Int) ∧ (nvE X p : Int) ≤ up ∧ q = nxE X p ∧ zVa X z = nvE X p := by
  rcases z with e | p
  · cases h
  · replace h : (if kdE X p = 1 then (if lo ≤ (nvE X p : Int) ∧ (nvE X p : Int) ≤ up then .inr (nxE X p) else .inl (2, p)) else .inl (1, p) : tZ) = .inr q := h
    by_cases k : kdE X p = 1
    · rw [if_pos k] at h
      by_cases v : lo ≤ (nvE X p : Int) ∧ (nvE X p : Int) ≤ up
      · rw [if_pos v] at h
        cases h
        exact ⟨p, rfl, k, v.1, v.2, rfl, rfl⟩
      · rw [if_neg v] at h; cases h
    · rw [if_neg k] at h; cases h
theorem zWd_i {X : tTx} {w : Nat} {z : tZ} {q : Nat} (h : zWd X w z = .inr q) : ∃ p, z = .inr p ∧ wdE X p = w ∧ q = nxE X p := by
  rcases z with e | p
  · cases h
  · replace h : (if wdE X p = w then .inr (nxE X p) else .inl (1, p) : tZ) = .inr q := h
    by_cases k : wdE X p = w
    · rw [if_pos k] at h; cases h; exact ⟨p, rfl, k, rfl⟩
    · rw [if_neg k] at h; cases h
theorem zSg_i {X : tTx} {w : Nat} {z : tZ} {q : Nat} (h : zSg X w z = .inr q) : ∃ p, z = .inr p ∧ sgE X p w ∧ q = nxE X p := by
  rcases z with e | p
  · cases h
  · replace h : (if sgE X p w then .inr (nxE X p) else .inl (1, p) : tZ) = .inr q := h
    by_cases k : sgE X p w
    · rw [if_pos k] at h; cases h; exact ⟨p, rfl, k, rfl⟩
    · rw [if_neg k] at h; cases h
theorem zFl_i {k : Nat} {z : tZ} {q : Nat} (h : zFl k z = .inr q) : False := by
  rcases z with e | p <;> cases h
theorem y6_i {X : tTx} {i : Nat} {z : tZ} {q : Nat} (h : y6Z X i z = .inr q) : ∃ p, y5Z X i z = .inr p ∧ 1 ≤ (ywZ X i z).2 ∧ (ywZ X i z).2 ≤ 9 := by
  unfold y6Z at h
  unfold ywZ
  by_cases t : zWo X (y5Z X i z) = 21279923
  · rw [if_pos t] at h ⊢
    obtain ⟨p, e, -, l1, l2, -, e2⟩ := zNm_i h
    have g5 : ∃ g, y5Z X i z = .inr g := by
      rcases h5 : y5Z X i z with g | g
      · rw [h5] at e; cases e
      · exact ⟨g, rfl⟩
    obtain ⟨g, hg⟩ := g5
    refine ⟨g, hg, ?_⟩
    rw [hg] at e2
    show 1 ≤ zVa X (zSt X (y5Z X i z)) ∧ zVa X (zSt X (y5Z X i z)) ≤ 9
    rw [hg, e2]
    omega
  · rw [if_neg t] at h ⊢
    exact ⟨q, h, Nat.le_refl _, by show (1 : Nat) ≤ 9; decide⟩
/-- a wave that stands has numbers that may be -/
theorem yw_ok {X : tTx} {i : Nat} {z : tZ} {q : Nat} (h : y6Z X i z = .inr q) : wOK (ywZ X i z).1 ∧ 1 ≤ (ywZ X i z).2 ∧ (ywZ X i z).2 ≤ 9 ∧ i ≠ 20 ∧ ∃ p, z = .inr p := by
  obtain ⟨p5, e5, t1, t2⟩ := y6_i h
  obtain ⟨p4, e4, -, f1, f2, -, v4⟩ := zNm_i (show zNm X 0 1 (y4Z X i z) = _ from e5)
  obtain ⟨p3, e3, -, b1, b2, -, v3⟩ := zNm_i (show zNm X 1 20 (y3Z X i z) = _ from e4)
  obtain ⟨p2, e2, -, a1, a2, -, v2⟩ := zNm_i (show zNm X 1 30 (y2Z X i z) = _ from e3)
  obtain ⟨p1, e1, w1, -⟩ := zWd_i (show zWd X 755397 (y1Z X i z) = _ from e2)
  have n20 : ¬ (i = 20 ∧ zWo X z = 755397) := fun g => by
    unfold y1Z at e1
    rw [if_pos g] at e1
    exact zFl_i e1
  unfold y1Z at e1
  rw [if_neg n20] at e1
  refine ⟨?_, t1, t2, fun g => n20 ⟨g, by rw [e1]; exact w1⟩, p1, e1⟩
  show (1 ≤ ((zVa X (y2Z X i z) : Nat) : Int) ∧ ((zVa X (y2Z X i z) : Nat) : Int) ≤ 30) ∧ (1 ≤ ((zVa X (y3Z X i z) : Nat) : Int) ∧ ((zVa X (y3Z X i z) : Nat) : Int) ≤ 20) ∧ (((zVa X (y4Z X i z) : Nat) : Int) = 0 ∨ ((zVa X (y4Z X i z) : Nat) : Int) = 1)
  rw [v2, v3, v4]
  omega
theorem y7_i {X : tTx} {i : Nat} {z : tZ} {q : Nat} (h : y7Z X i z = .inr q) : ∃ p, y6Z X i z = .inr p := by
  obtain ⟨p, e, -⟩ := zSg_i (show zSg X 59 (y6Z X i z) = _ from h)
  exact ⟨p, e⟩
theorem y7_20 {X : tTx} {z : tZ} : ∃ e, y7Z X 20 z = .inl e := by
  rcases h : y7Z X 20 z with e | q
  · exact ⟨e, rfl⟩
  · obtain ⟨p, e⟩ := y7_i h
    exact absurd rfl (yw_ok e).2.2.2.1
def yOk (x : (Int × Int × Int) × Nat) : Prop := wOK x.1 ∧ 1 ≤ x.2 ∧ x.2 ≤ 9
/-- how a year's reading ends -/
theorem yr_ok {X : tTx} : ∀ (f i : Nat) (z : tZ) (Y : hYr), i + f = 22 → i ≤ 21 → (i = 21 → ¬ (zKd X z ≠ 0 ∧ zKd X z ≠ 4)) → (∀ q, z = .inr q → ∀ j, j < i → yOk (Y j)) →
    ¬ (zKd X (yrZ X f i z Y).1 ≠ 0 ∧ zKd X (yrZ X f i z Y).1 ≠ 4) ∧ (∀ q, (yrZ X f i z Y).1 = .inr q → (yrZ X f i z Y).2.1 ≤ 20 + (if i = 21 then 1 else 0) ∧ i ≤ (yrZ X f i z Y).2.1 ∧ (zKd X z ≠ 0 ∧ zKd X z ≠ 4 → i + 1 ≤ (yrZ X f i z Y).2.1) ∧ ∀ j, j < (yrZ X f i z Y).2.1 → yOk ((yrZ X f i z Y).2.2 j)) := by
  intro f
  induction f with
  | zero => intro i z Y h1 h2; omega
  | succ f ih =>
    intro i z Y h1 h2 h3 hY
    have e : yrZ X (f + 1) i z Y = if zKd X z ≠ 0 ∧ zKd X z ≠ 4 then yrZ X f (i + 1) (y7Z X i z) (fun j => if j = i then ywZ X i z else Y j) else (z, i, Y) := rfl
    by_cases m : zKd X z ≠ 0 ∧ zKd X z ≠ 4
    · rw [if_pos m] at e
      have i21 : i ≠ 21 := fun g => h3 g m
      have zin : ∃ q, z = .inr q := by
        rcases z with e1 | q
        · exact absurd rfl m.2
        · exact ⟨q, rfl⟩
      obtain ⟨q0, hq0⟩ := zin
      have n20 : i + 1 = 21 → ¬ (zKd X (y7Z X i z) ≠ 0 ∧ zKd X (y7Z X i z) ≠ 4) := fun g => by
        have i20 : i = 20 := by omega
        subst i20
        obtain ⟨e2, he2⟩ := y7_20 (X := X) (z := z)
        rw [he2]
        exact fun w => w.2 rfl
      obtain ⟨r1, r2⟩ := ih (i + 1) (y7Z X i z) (fun j => if j = i then ywZ X i z else Y j) (by omega) (by omega) n20 (fun q hq j hj => by
        obtain ⟨p, hp⟩ := y7_i hq
        have ok := yw_ok hp
        show yOk (if j = i then ywZ X i z else Y j)
        by_cases ej : j = i
        · rw [if_pos ej]; exact ⟨ok.1, ok.2.1, ok.2.2.1⟩
        · rw [if_neg ej]; exact hY q0 hq0 j (by omega))
      rw [e]
      refine ⟨r1, fun q hq => ?_⟩
      obtain ⟨a1, a2, a3, a4⟩ := r2 q hq
      refine ⟨?_, by omega, fun _ => by omega, a4⟩
      by_cases i20 : i = 20
      · subst i20
        have stop : (yrZ X f 21 (y7Z X 20 z) (fun j => if j = 20 then ywZ X 20 z else Y j)).1 = y7Z X 20 z := by
          have f1 : f = 1 := by omega
          subst f1
          have e1 : yrZ X 1 21 (y7Z X 20 z) (fun j => if j = 20 then ywZ X 20 z else Y j) = (y7Z X 20 z, 21, fun j => if j = 20 then ywZ X 20 z else Y j) := if_neg (n20 rfl)
          rw [e1]
        rw [show (20 + 1 : Nat) = 21 from rfl, stop] at hq
        obtain ⟨e2, he2⟩ := y7_20 (X := X) (z := z)
        rw [he2] at hq
        cases hq
      · rw [if_neg (by omega)] at a1
        omega
    · rw [if_neg m] at e
      rw [e]
      refine ⟨m, fun q hq => ⟨?_, Nat.le_refl _, fun g => absurd g m, fun j hj => hY q hq j hj⟩⟩
      show i ≤ 20 + (if i = 21 then 1 else 0)
      by_cases g : i = 21
      · rw [if_pos g]; omega
      · rw [if_neg g]; omega
