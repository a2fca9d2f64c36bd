/-! texts: X.2 bytes X.1; a token stands at a place where no blank stands -/
abbrev tTx : Type := (Nat → Nat) × Nat
def rnF (P : Nat → Bool) : Nat → Nat → Nat
  | 0, p => p
  | k + 1, p => if P p = true then rnF P k (p + 1) else p
theorem rn_b (P : Nat → Bool) : ∀ k p, p ≤ rnF P k p ∧ rnF P k p ≤ p + k := by
  intro k
  induction k with
  | zero => intro p; exact ⟨Nat.le_refl _, Nat.le_refl _⟩
  | succ k ih =>
    intro p
    show p ≤ (if P p = true then rnF P k (p + 1) else p) ∧ (if P p = true then rnF P k (p + 1) else p) ≤ p + (k + 1)
    have := ih (p + 1)
    by_cases h : P p = true
    · rw [if_pos h]; omega
    · rw [if_neg h]; omega
theorem rn_in (P : Nat → Bool) : ∀ k p i, p ≤ i → i < rnF P k p → P i = true := by
  intro k
  induction k with
  | zero => intro p i h1 h2; exact absurd h2 (by show ¬ i < p; omega)
  | succ k ih =>
    intro p i h1 h2
    have e : rnF P (k + 1) p = if P p = true then rnF P k (p + 1) else p := rfl
    rw [e] at h2
    by_cases h : P p = true
    · rw [if_pos h] at h2
      by_cases q : i = p
      · rw [q]; exact h
      · exact ih (p + 1) i (by omega) h2
    · rw [if_neg h] at h2; omega
theorem rn_st (P : Nat → Bool) : ∀ k p, rnF P k p < p + k → P (rnF P k p) = false := by
  intro k
  induction k with
  | zero => intro p h; exact absurd h (by show ¬ p < p + 0; omega)
  | succ k ih =>
    intro p h2
    have e : rnF P (k + 1) p = if P p = true then rnF P k (p + 1) else p := rfl
    rw [e] at h2 ⊢
    by_cases h : P p = true
    · rw [if_pos h] at h2 ⊢; exact ih (p + 1) (by omega)
    · rw [if_neg h] at h2 ⊢; exact Bool.eq_false_iff.mpr h
/-- how far a run of such bytes goes from p -/
def rnT (X : tTx) (P : Nat → Bool) (p : Nat) : Nat := rnF (fun i => P (X.1 i)) (X.2 - p) p
theorem rt_s {X : tTx} {P : Nat → Bool} {p : Nat} (h1 : p < X.2) (h2 : P (X.1 p) = true) : rnT X P p = rnT X P (p + 1) := by
  unfold rnT
  rw [show X.2 - p = (X.2 - (p + 1)) + 1 by omega]
  exact if_pos h2
theorem rt_e {X : tTx} {P : Nat → Bool} {p : Nat} (h1 : X.2 ≤ p) : rnT X P p = p := by
  unfold rnT
  rw [show X.2 - p = 0 by omega]
  rfl
theorem rt_n {X : tTx} {P : Nat → Bool} {p : Nat} (h2 : P (X.1 p) = false) : rnT X P p = p := by
  unfold rnT
  cases h : X.2 - p with
  | zero => rfl
  | succ k => exact if_neg (by show ¬ P (X.1 p) = true; rw [h2]; decide)
theorem rt_ge {X : tTx} {P : Nat → Bool} {p : Nat} : p ≤ rnT X P p := (rn_b _ _ _).1
theorem rt_le {X : tTx} {P : Nat → Bool} {p : Nat} (h : p ≤ X.2) : rnT X P p ≤ X.2 := by
  have := (rn_b (fun i => P (X.1 i)) (X.2 - p) p).2
  unfold rnT
  omega
theorem rt_in {X : tTx} {P : Nat → Bool} {p i : Nat} (h1 : p ≤ i) (h2 : i < rnT X P p) : P (X.1 i) = true := rn_in (fun i => P (X.1 i)) _ _ i h1 h2
theorem rt_st {X : tTx} {P : Nat → Bool} {p : Nat} (h : p ≤ X.2) (h2 : rnT X P p < X.2) : P (X.1 (rnT X P p)) = false := rn_st (fun i => P (X.1 i)) _ _ (by show rnT X P p < _; omega)
def isBk (b : Nat) : Bool := decide (b = 32)
def isDg (b : Nat) : Bool := decide (48 ≤ b ∧ b ≤ 57)
def isLt (b : Nat) : Bool := decide (97 ≤ b ∧ b ≤ 122)
theorem isBk_i {b : Nat} : isBk b = true ↔ b = 32 := by unfold isBk; simp
theorem isDg_i {b : Nat} : isDg b = true ↔ 48 ≤ b ∧ b ≤ 57 := by unfold isDg; simp
theorem isLt_i {b : Nat} : isLt b = true ↔ 97 ≤ b ∧ b ≤ 122 := by unfold isLt; simp
/-- behind the blanks -/
def skE (X : tTx) (p : Nat) : Nat := rnT X isBk p
theorem sk_id {X : tTx} {p : Nat} (h : p ≤ X.2) : skE X (skE X p) = skE X p := by
  unfold skE
  by_cases e : rnT X isBk p < X.2
  · exact rt_n (rt_st h e)
  · exact rt_e (by omega)
theorem sk_nb {X : tTx} {q : Nat} (h : skE X q = q) (hq : q < X.2) : X.1 q ≠ 32 := by
  intro e
  unfold skE at h
  have := rt_s hq (isBk_i.mpr e)
  have := rt_ge (X := X) (P := isBk) (p := q + 1)
  omega
/-- a token's kind: 0 the end, 1 a number, 2 a word, 3 a sign; its end; what stands behind it -/
def kdE (X : tTx) (q : Nat) : Nat := if X.2 ≤ q then 0 else if isDg (X.1 q) = true then 1 else if isLt (X.1 q) = true then 2 else 3
def atE (X : tTx) (q : Nat) : Nat := if X.2 ≤ q then q else if isDg (X.1 q) = true then rnT X isDg q else if isLt (X.1 q) = true then rnT X isLt q else q + 1
def nxE (X : tTx) (q : Nat) : Nat := skE X (atE X q)
theorem at_gt {X : tTx} {q : Nat} (h : q < X.2) : q < atE X q ∧ atE X q ≤ X.2 := by
  unfold atE
  rw [if_neg (by omega)]
  by_cases d : isDg (X.1 q) = true
  · rw [if_pos d, rt_s h d]
    exact ⟨rt_ge, rt_le (by omega)⟩
  · rw [if_neg d]
    by_cases l : isLt (X.1 q) = true
    · rw [if_pos l, rt_s h l]
      exact ⟨rt_ge, rt_le (by omega)⟩
    · rw [if_neg l]; omega
theorem at_e {X : tTx} {q : Nat} (h : X.2 ≤ q) : atE X q = q := if_pos h
theorem kd_e {X : tTx} {q : Nat} (h : X.2 ≤ q) : kdE X q = 0 := if_pos h
theorem kd_0 {X : tTx} {q : Nat} : kdE X q = 0 ↔ X.2 ≤ q := by
  refine ⟨fun h => ?_, fun h => if_pos h⟩
  unfold kdE at h
  by_cases e : X.2 ≤ q
  · exact e
  · rw [if_neg e] at h
    split at h
    · omega
    · split at h <;> omega
theorem nx_gt {X : tTx} {q : Nat} (h : q < X.2) : q < nxE X q ∧ nxE X q ≤ X.2 ∧ skE X (nxE X q) = nxE X q := by
  have g := at_gt h
  have := rt_ge (X := X) (P := isBk) (p := atE X q)
  have := rt_le (X := X) (P := isBk) (p := atE X q) g.2
  unfold nxE
  refine ⟨?_, ?_, sk_id g.2⟩ <;> unfold skE <;> omega
/-- a number's value, a word's -/
def dgF (g : Nat → Nat) : Nat → Nat
  | 0 => 0
  | k + 1 => 10 * dgF g k + (g k - 48)
def nvE (X : tTx) (q : Nat) : Nat := dgF (fun i => X.1 (q + i)) (atE X q - q)
def wlF (g : Nat → Nat) : Nat → Nat
  | 0 => 0
  | k + 1 => 32 * wlF g k + (g k - 96)
def wdE (X : tTx) (q : Nat) : Nat := if kdE X q = 2 ∧ atE X q - q ≤ 6 then wlF (fun i => X.1 (q + i)) (atE X q - q) else 0
theorem wl_inj : ∀ (k m : Nat) (g h : Nat → Nat), (∀ i, i < k → 97 ≤ g i ∧ g i ≤ 122) → (∀ i, i < m → 97 ≤ h i ∧ h i ≤ 122) → wlF g k = wlF h m → k = m ∧ ∀ i, i < k → g i = h i := by
  intro k
  induction k with
  | zero =>
    intro m g h hg hh e
    cases m with
    | zero => exact ⟨rfl, fun i hi => absurd hi (by omega)⟩
    | succ m =>
      have := hh m (by omega)
      have e2 : (0 : Nat) = 32 * wlF h m + (h m - 96) := e
      omega
  | succ k ih =>
    intro m g h hg hh e
    cases m with
    | zero =>
      have := hg k (by omega)
      have e2 : 32 * wlF g k + (g k - 96) = 0 := e
      omega
    | succ m =>
      have a1 := hg k (by omega)
      have a2 := hh m (by omega)
      have e2 : 32 * wlF g k + (g k - 96) = 32 * wlF h m + (h m - 96) := e
      obtain ⟨r1, r2⟩ := ih m g h (fun i hi => hg i (by omega)) (fun i hi => hh i (by omega)) (by omega)
      refine ⟨by omega, fun i hi => ?_⟩
      by_cases q : i = k
      · rw [q]; subst r1; omega
      · exact r2 i (by omega)
theorem wl_congr {g h : Nat → Nat} : ∀ k, (∀ i, i < k → g i = h i) → wlF g k = wlF h k := by
  intro k
  induction k with
  | zero => intro _; rfl
  | succ k ih =>
    intro e
    show 32 * wlF g k + (g k - 96) = 32 * wlF h k + (h k - 96)
    rw [ih (fun i hi => e i (by omega)), e k (by omega)]
theorem wl_lt {g : Nat → Nat} : ∀ k, (∀ i, i < k → 97 ≤ g i ∧ g i ≤ 122) → wlF g k < 32 ^ k := by
  intro k
  induction k with
  | zero => intro _; show 0 < 1; omega
  | succ k ih =>
    intro e
    have := ih (fun i hi => e i (by omega))
    have := e k (by omega)
    show 32 * wlF g k + (g k - 96) < 32 ^ (k + 1)
    rw [Nat.pow_succ]
    omega
theorem kd_2 {X : tTx} {q : Nat} (h : kdE X q = 2) : q < X.2 ∧ isLt (X.1 q) = true ∧ atE X q = rnT X isLt q := by
  unfold kdE at h
  by_cases e : X.2 ≤ q
  · rw [if_pos e] at h; omega
  · rw [if_neg e] at h
    by_cases d : isDg (X.1 q) = true
    · rw [if_pos d] at h; omega
    · rw [if_neg d] at h
      by_cases l : isLt (X.1 q) = true
      · refine ⟨by omega, l, ?_⟩
        unfold atE
        rw [if_neg e, if_neg d, if_pos l]
      · rw [if_neg l] at h; omega
theorem kd_1 {X : tTx} {q : Nat} (h : kdE X q = 1) : q < X.2 ∧ isDg (X.1 q) = true ∧ atE X q = rnT X isDg q := by
  unfold kdE at h
  by_cases e : X.2 ≤ q
  · rw [if_pos e] at h; omega
  · rw [if_neg e] at h
    by_cases d : isDg (X.1 q) = true
    · refine ⟨by omega, d, ?_⟩
      unfold atE
      rw [if_neg e, if_pos d]
    · rw [if_neg d] at h
      by_cases l : isLt (X.1 q) = true
      · rw [if_pos l] at h; omega
      · rw [if_neg l] at h; omega
theorem kd_3 {X : tTx} {q : Nat} (h : kdE X q = 3) : q < X.2 ∧ isDg (X.1 q) = false ∧ isLt (X.1 q) = false ∧ atE X q = q + 1 := by
  unfold kdE at h
  by_cases e : X.2 ≤ q
  · rw [if_pos e] at h; omega
  · rw [if_neg e] at h
    by_cases d : isDg (X.1 q) = true
    · rw [if_pos d] at h; omega
    · rw [if_neg d] at h
      by_cases l : isLt (X.1 q) = true
      · rw [if_pos l] at h; omega
      · refine ⟨by omega, Bool.eq_false_iff.mpr d, Bool.eq_false_iff.mpr l, ?_⟩
        unfold atE
        rw [if_neg e, if_neg d, if_neg l]
theorem kd_le (X : tTx) (q : Nat) : kdE X q ≤ 3 := by
  unfold kdE
  split
  · omega
  · split
    · omega
    · split <;> omega
theorem kd_l {X : tTx} {q : Nat} (h : q < X.2) (l : isLt (X.1 q) = true) : kdE X q = 2 := by
  unfold kdE
  rw [if_neg (by omega), if_neg (fun d => by have := isLt_i.mp l; have := isDg_i.mp d; omega), if_pos l]
theorem kd_d {X : tTx} {q : Nat} (h : q < X.2) (l : isDg (X.1 q) = true) : kdE X q = 1 := by
  unfold kdE
  rw [if_neg (by omega), if_pos l]
theorem kd_s {X : tTx} {q : Nat} (h : q < X.2) (d : ¬ isDg (X.1 q) = true) (l : ¬ isLt (X.1 q) = true) : kdE X q = 3 := by
  unfold kdE
  rw [if_neg (by omega), if_neg d, if_neg l]
/-- a sign's byte stands at the place -/
abbrev sgE (X : tTx) (q c : Nat) : Prop := q < X.2 ∧ X.1 q = c
def isSg (c : Nat) : Prop := ¬ isDg c = true ∧ ¬ isLt c = true
theorem sg_kd {X : tTx} {q c : Nat} (hc : isSg c) (h : sgE X q c) : kdE X q = 3 ∧ atE X q = q + 1 := by
  obtain ⟨h1, h2⟩ := h
  have k := kd_s h1 (by rw [h2]; exact hc.1) (by rw [h2]; exact hc.2)
  exact ⟨k, (kd_3 k).2.2.2⟩
theorem wd_let {X : tTx} {q : Nat} (h : wdE X q ≠ 0) : kdE X q = 2 ∧ q < X.2 ∧ atE X q = rnT X isLt q ∧ atE X q - q ≤ 6 ∧ wdE X q = wlF (fun i => X.1 (q + i)) (atE X q - q) := by
  unfold wdE at h ⊢
  by_cases e : kdE X q = 2 ∧ atE X q - q ≤ 6
  · rw [if_pos e]
    obtain ⟨a1, a2, a3⟩ := kd_2 e.1
    exact ⟨e.1, a1, a3, e.2, rfl⟩
  · rw [if_neg e] at h; exact absurd rfl h
theorem wd_in {X : tTx} {q : Nat} (h : kdE X q = 2) : ∀ i, i < atE X q - q → 97 ≤ X.1 (q + i) ∧ X.1 (q + i) ≤ 122 := by
  intro i hi
  obtain ⟨a1, a2, a3⟩ := kd_2 h
  have := rt_ge (X := X) (P := isLt) (p := q)
  exact isLt_i.mp (rt_in (X := X) (P := isLt) (p := q) (by omega) (by omega))
theorem wd_lt (X : tTx) (q : Nat) : wdE X q < 1073741824 := by
  unfold wdE
  by_cases e : kdE X q = 2 ∧ atE X q - q ≤ 6
  · rw [if_pos e]
    have := wl_lt (atE X q - q) (wd_in e.1)
    have : 32 ^ (atE X q - q) ≤ 32 ^ 6 := Nat.pow_le_pow_right (by omega) e.2
    omega
  · rw [if_neg e]; omega
theorem dg_in {X : tTx} {q : Nat} (h : kdE X q = 1) : ∀ i, i < atE X q - q → 48 ≤ X.1 (q + i) ∧ X.1 (q + i) ≤ 57 := by
  intro i hi
  obtain ⟨a1, a2, a3⟩ := kd_1 h
  have := rt_ge (X := X) (P := isDg) (p := q)
  exact isDg_i.mp (rt_in (X := X) (P := isDg) (p := q) (by omega) (by omega))
