section
variable {nc nz : Nat} {f g : Nat → Nat → Nat → Int}
theorem fB_le (hB : fB nc nz f) (h0 : ∀ c z k, 0 ≤ g c z k) (h1 : ∀ c z k, g c z k ≤ f c z k) : fB nc nz g := by
  refine ⟨h0, fun c z k hz => ?_, fun c z k hc => ?_, Int.le_trans (sumTo_le (fun c _ => sumTo_le (fun z _ => sumTo_le (fun k _ => h1 c z k)))) hB.2.2.2⟩
  · have := hB.2.1 c z k hz; have := h0 c z k; have := h1 c z k; omega
  · have := hB.2.2.1 c z k hc; have := h0 c z k; have := h1 c z k; omega
/-- what an hour's wave carries off -/
def mvP (V : Nat → (Nat → Int) → Int) (f : Nat → Nat → Nat → Int) (nz : Nat) (he bt fr : Int) (cr : Nat → Int) (c z k : Nat) : Int := f c z k * heP (V 0 (nmS f nz he bt fr (cr c) c z k)) / 16
def wrP (V : Nat → (Nat → Int) → Int) (f : Nat → Nat → Nat → Int) (nz : Nat) (he bt fr : Int) (cr : Nat → Int) (c z k : Nat) : Int := mvP V f nz he bt fr cr c z k * heP (V 1 (nmS f nz he bt fr (cr c) c z k)) / 16
theorem mvP_r {V : Nat → (Nat → Int) → Int} {he bt fr : Int} {cr : Nat → Int} (h0 : ∀ c z k, 0 ≤ f c z k) (c z k : Nat) : 0 ≤ mvP V f nz he bt fr cr c z k ∧ mvP V f nz he bt fr cr c z k ≤ f c z k := by
  obtain ⟨g0, g1⟩ := heP_r (V 0 (nmS f nz he bt fr (cr c) c z k))
  have p0 := Int.mul_nonneg (h0 c z k) g0
  have p1 := Int.mul_le_mul_of_nonneg_left g1 (h0 c z k)
  unfold mvP
  omega
theorem wrP_r {V : Nat → (Nat → Int) → Int} {he bt fr : Int} {cr : Nat → Int} (h0 : ∀ c z k, 0 ≤ f c z k) (c z k : Nat) : 0 ≤ wrP V f nz he bt fr cr c z k ∧ wrP V f nz he bt fr cr c z k ≤ mvP V f nz he bt fr cr c z k := by
  obtain ⟨g0, g1⟩ := heP_r (V 1 (nmS f nz he bt fr (cr c) c z k))
  have m0 := (mvP_r (V := V) (nz := nz) (he := he) (bt := bt) (fr := fr) (cr := cr) h0 c z k).1
  have p0 := Int.mul_nonneg m0 g0
  have p1 := Int.mul_le_mul_of_nonneg_left g1 m0
  unfold wrP
  omega
/-- the row of them: n = (6 c + z) 3 + k -/
def cN (n : Nat) : Nat := n / 18
def zN (n : Nat) : Nat := n / 3 % 6
def kN (n : Nat) : Nat := n % 3
variable {V : Nat → (Nat → Int) → Int} {he bt fr : Int} {cr wl sm : Nat → Int}
def mvN (V : Nat → (Nat → Int) → Int) (f : Nat → Nat → Nat → Int) (nz : Nat) (he bt fr : Int) (cr : Nat → Int) (n : Nat) : Int := mvP V f nz he bt fr cr (cN n) (zN n) (kN n)
def ctN (V : Nat → (Nat → Int) → Int) (f : Nat → Nat → Nat → Int) (nc nz : Nat) (wl : Nat → Int) (he bt fr : Int) (cr : Nat → Int) (c' z' k' n : Nat) : Int := ctP nc wl fr (cN n) (zN n) (kN n) (mvP V f nz he bt fr cr (cN n) (zN n) (kN n)) (wrP V f nz he bt fr cr (cN n) (zN n) (kN n)) c' z' k'
def sdN (V : Nat → (Nat → Int) → Int) (f : Nat → Nat → Nat → Int) (nz : Nat) (he bt fr : Int) (cr : Nat → Int) (n : Nat) : Int := if zN n = 0 then wrP V f nz he bt fr cr (cN n) (zN n) (kN n) else 0
def fN (V : Nat → (Nat → Int) → Int) (f : Nat → Nat → Nat → Int) (nz : Nat) (he bt fr : Int) (cr : Nat → Int) (N c z k : Nat) : Int := if (c * 6 + z) * 3 + k < N then f c z k - mvP V f nz he bt fr cr c z k else f c z k
def arN (V : Nat → (Nat → Int) → Int) (f : Nat → Nat → Nat → Int) (nc nz : Nat) (wl : Nat → Int) (he bt fr : Int) (cr : Nat → Int) (N c z k : Nat) : Int := sumTo N (ctN V f nc nz wl he bt fr cr c z k)
def smN (V : Nat → (Nat → Int) → Int) (f : Nat → Nat → Nat → Int) (nz : Nat) (he bt fr : Int) (cr sm : Nat → Int) (N i : Nat) : Int := sm i + if i = 2 then sumTo N (sdN V f nz he bt fr cr) else 0
theorem fN_B (hB : fB nc nz f) (N : Nat) : fB nc nz (fN V f nz he bt fr cr N) := by
  refine fB_le hB (fun c z k => ?_) (fun c z k => ?_)
  · have := mvP_r (V := V) (nz := nz) (he := he) (bt := bt) (fr := fr) (cr := cr) hB.1 c z k
    have := hB.1 c z k
    unfold fN; split <;> omega
  · have := mvP_r (V := V) (nz := nz) (he := he) (bt := bt) (fr := fr) (cr := cr) hB.1 c z k
    unfold fN; split <;> omega
theorem n_at {c z k : Nat} (hz : z < 6) (hk : k < 3) : cN ((c * 6 + z) * 3 + k) = c ∧ zN ((c * 6 + z) * 3 + k) = z ∧ kN ((c * 6 + z) * 3 + k) = k := by
  unfold cN zN kN; omega
theorem n_zero (hB : fB nc nz f) {n : Nat} (h : f (cN n) (zN n) (kN n) = 0) : mvN V f nz he bt fr cr n = 0 ∧ sdN V f nz he bt fr cr n = 0 ∧ ∀ c z k, ctN V f nc nz wl he bt fr cr c z k n = 0 := by
  have m := mvP_r (V := V) (nz := nz) (he := he) (bt := bt) (fr := fr) (cr := cr) hB.1 (cN n) (zN n) (kN n)
  have w := wrP_r (V := V) (nz := nz) (he := he) (bt := bt) (fr := fr) (cr := cr) hB.1 (cN n) (zN n) (kN n)
  have m0 : mvP V f nz he bt fr cr (cN n) (zN n) (kN n) = 0 := by omega
  have w0 : wrP V f nz he bt fr cr (cN n) (zN n) (kN n) = 0 := by omega
  refine ⟨m0, ?_, fun c z k => ?_⟩
  · unfold sdN; rw [w0]; split <;> rfl
  · unfold ctN; rw [m0, w0]; exact ctP_0
/-- where all from M to N stand for nothing -/
theorem skip_N (hB : fB nc nz f) {M N : Nat} (hMN : M ≤ N) (h : ∀ n, M ≤ n → n < N → f (cN n) (zN n) (kN n) = 0) :
    sumTo N (mvN V f nz he bt fr cr) = sumTo M (mvN V f nz he bt fr cr) ∧ (∀ i, smN V f nz he bt fr cr sm N i = smN V f nz he bt fr cr sm M i) ∧ (∀ c z k, arN V f nc nz wl he bt fr cr N c z k = arN V f nc nz wl he bt fr cr M c z k) ∧ ∀ c z k, z < 6 → k < 3 → fN V f nz he bt fr cr N c z k = fN V f nz he bt fr cr M c z k := by
  refine ⟨sumTo_part hMN (fun n h1 h2 => (n_zero (wl := wl) hB (h n h1 h2)).1), fun i => ?_, fun c z k => sumTo_part hMN (fun n h1 h2 => (n_zero hB (h n h1 h2)).2.2 c z k), fun c z k hz hk => ?_⟩
  · unfold smN
    rw [sumTo_part hMN (fun n h1 h2 => (n_zero (wl := wl) hB (h n h1 h2)).2.1)]
  · unfold fN
    by_cases j1 : (c * 6 + z) * 3 + k < M
    · rw [if_pos j1, if_pos (by omega)]
    · rw [if_neg j1]
      by_cases j2 : (c * 6 + z) * 3 + k < N
      · rw [if_pos j2]
        have := h _ (by omega) j2
        obtain ⟨q1, q2, q3⟩ := n_at (c := c) hz hk
        rw [q1, q2, q3] at this
        have := mvP_r (V := V) (nz := nz) (he := he) (bt := bt) (fr := fr) (cr := cr) hB.1 c z k
        omega
      · rw [if_neg j2]
end
