theorem t_heapAt {G : en_G} {d : Nat} {K : en_K} {c z k : Int} {hi : en_I} {hl : en_L} {hr : en_F} {xc xs : Nat} (h : K (.inl (some (.int (iI ((c * 6 + z) * 3 + k))))) hi hl hr) : en_Call G (d + 1) xc xs Y_X6_heapAt wN wN [.int (iI c), .int (iI z), .int (iI k)] hi hl hr K := by
  apply en_X6_heapAt
  simp only [B_X6_heapAt_0, en_ops, en_opc, iI_add, iI_mul, iI_sub]
  exact h
/-- a shore's cell, its rows behind it -/
def isSh (a : Nat) : Prop := a = 16 ∨ a = 39 ∨ a = 86 ∨ a = 94 ∨ a = 102
theorem isSh.sh {a : Nat} (h : isSh a) : en_SH a = (6, 12) ∧ a < 134 ∧ en_SH (a + 1) = (100, 216) ∧ en_SH (a + 2) = (100, 12) ∧ en_SH (a + 3) = (100, 12) ∧ en_SH (a + 4) = (100, 12) ∧ en_SH (a + 5) = (100, 72) ∧ en_SH (a + 6) = (100, 4) ∧ en_SH (a + 7) = (100, 5) ∧ a + 7 < 134 ∧ 16 ≤ a ∧ a + 7 ≤ 109 := by
  rcases h with rfl | rfl | rfl | rfl | rfl <;> decide
def shR (a : Nat) (hr : en_F) : Prop := hr a 2 = .ref (a + 1) ∧ hr a 3 = .ref (a + 2) ∧ hr a 4 = .ref (a + 3) ∧ hr a 5 = .ref (a + 4) ∧ hr a 6 = .ref (a + 5) ∧ hr a 7 = .ref (a + 6) ∧ hr a 9 = .ref (a + 7)
/-! the stones of a beach as they are told: f c z k, at cell c, of size z and stuff k -/
def aP (f : Nat → Nat → Nat → Int) (c z : Nat) : Int := sumTo 3 (f c z)
def wP (f : Nat → Nat → Nat → Int) (nz c : Nat) : Int := sumTo nz (aP f c)
def fB (nc nz : Nat) (f : Nat → Nat → Nat → Int) : Prop := (∀ c z k, 0 ≤ f c z k) ∧ (∀ c z k, nz ≤ z → f c z k = 0) ∧ (∀ c z k, nc ≤ c → f c z k = 0) ∧ sumTo 12 (wP f 6) ≤ 10000000
theorem aP_nn {nc nz : Nat} {f : Nat → Nat → Nat → Int} (h : fB nc nz f) (c z : Nat) : 0 ≤ aP f c z := sumTo_nn (fun k _ => h.1 c z k)
theorem aP_z {nc nz : Nat} {f : Nat → Nat → Nat → Int} (h : fB nc nz f) (c z : Nat) (hz : nz ≤ z) : aP f c z = 0 := sumTo_zero (fun k _ => h.2.1 c z k hz)
theorem wP_nn {nc nz m : Nat} {f : Nat → Nat → Nat → Int} (h : fB nc nz f) (c : Nat) : 0 ≤ wP f m c := sumTo_nn (fun z _ => aP_nn h c z)
theorem wP_6 {nc nz : Nat} {f : Nat → Nat → Nat → Int} (h : fB nc nz f) (hz : nz ≤ 6) (c : Nat) : wP f 6 c = wP f nz c := sumTo_part hz (fun z h1 _ => aP_z h c z h1)
theorem wP_le {nc nz : Nat} {f : Nat → Nat → Nat → Int} (h : fB nc nz f) (hz : nz ≤ 6) {c : Nat} (hc : c < 12) : wP f nz c ≤ 10000000 := by
  rw [← wP_6 h hz]
  exact Int.le_trans (sumTo_at (f := wP f 6) hc (fun c _ => wP_nn h c)) h.2.2.2
theorem aP_le {nc nz : Nat} {f : Nat → Nat → Nat → Int} (h : fB nc nz f) (hz : nz ≤ 6) {c : Nat} (hc : c < 12) (z : Nat) : aP f c z ≤ wP f nz c := by
  by_cases e : z < nz
  · exact sumTo_at (f := aP f c) e (fun z _ => aP_nn h c z)
  · rw [aP_z h c z (by omega)]
    exact wP_nn h c
theorem f_le {nc nz : Nat} {f : Nat → Nat → Nat → Int} (h : fB nc nz f) (c z : Nat) {k : Nat} (hk : k < 3) : f c z k ≤ aP f c z := sumTo_at (f := f c z) hk (fun k _ => h.1 c z k)
/-- the heaps of a shore, and how many cells and sizes it has -/
def shH (a nc nz : Nat) (f : Nat → Nat → Nat → Int) (hi : en_I) : Prop := hi a 0 = iI nc ∧ hi a 1 = iI nz ∧ nc ≤ 12 ∧ nz ≤ 6 ∧ ∀ c z k, c < 12 → z < 6 → k < 3 → hi (a + 1) ((c * 6 + z) * 3 + k) = iI (f c z k)
def inP (f : Nat → Nat → Nat → Int) (nz c : Nat) (z k : Int) : Int := sumTo nz (fun z' => sumTo 3 (fun k' => if (z = -1 ∨ z = z') ∧ (k = -1 ∨ k = k') then f c z' k' else 0))
theorem inP_a {f : Nat → Nat → Nat → Int} {nz c z : Nat} (hz : z < nz) : inP f nz c z (-1) = aP f c z := by
  unfold inP aP
  rw [sumTo_one hz (fun i h1 h2 => sumTo_zero (fun k _ => if_neg (by omega)))]
  exact sumTo_congr (fun k _ => if_pos (by omega))
theorem inP_1 {f : Nat → Nat → Nat → Int} {nz c z k : Nat} (hz : z < nz) (hk : k < 3) : inP f nz c z k = f c z k := by
  unfold inP
  rw [sumTo_one hz (fun i h1 h2 => sumTo_zero (fun k _ => if_neg (by omega))), sumTo_one hk (fun i h1 h2 => if_neg (by omega)), if_pos (by omega)]
theorem inP_k {f : Nat → Nat → Nat → Int} {nz c k : Nat} (hk : k < 3) : inP f nz c (-1) k = sumTo nz (fun z => f c z k) := by
  unfold inP
  refine sumTo_congr (fun z _ => ?_)
  rw [sumTo_one hk (fun i h1 h2 => if_neg (by omega)), if_pos (by omega)]
section
variable {G : en_G} {d : Nat} {K : en_K} {a nc nz : Nat} {f : Nat → Nat → Nat → Int} {hi : en_I} {hl : en_L} {hr : en_F} {xc xs : Nat}
theorem t_inCell_18 {c z' : Nat} {z k acc : Int} (ha : isSh a) (hR : shR a hr) (hh : shH a nc nz f hi) (hc : c < 12) (hz' : z' < nz) (hz : -1 ≤ z ∧ z < 6) (hk : -1 ≤ k ∧ k < 3)
    (H : ∀ x6 : Value, en_V G Y_X6_inCell (d + 2) wN wN K 6 [.ref a, .int (iI c), .int (iI z), .int (iI k), .int (iI (acc + sumTo 3 (fun k' => if (z = -1 ∨ z = z') ∧ (k = -1 ∨ k = k') then f c z' k' else 0))), .int (iI (z' + 1)), x6] [] hi hl hr xc xs) :
    ∀ k' : Nat, k' ≤ 3 → en_V G Y_X6_inCell (d + 2) wN wN K 18 [.ref a, .int (iI c), .int (iI z), .int (iI k), .int (iI (acc + sumTo k' (fun k' => if (z = -1 ∨ z = z') ∧ (k = -1 ∨ k = k') then f c z' k' else 0))), .int (iI z'), .int (iI k')] [] hi hl hr xc xs := by
  obtain ⟨s0, s1, s2, s3, s4, s5, s6, s7, s8, s9, -⟩ := ha.sh
  obtain ⟨r1, r2, r3, r4, r5, r6, r7⟩ := hR
  obtain ⟨h0, h1, b0, b1, h2⟩ := hh
  refine lp 3 ?_ (fun k' hk' ih => ?_)
  · apply s_X6_inCell_18
    simp (disch := omega) only [B_X6_inCell_18, en_ops, en_opc, iI_add, iI_mul, iI_sub, iI_le, iI_lt, iI_eq]
    exact ⟨fun _ => H _, fun h => absurd (show (3 : Int) ≤ ((3 : Nat) : Int) by omega) h⟩
  · rw [sumTo_s] at ih
    have go : ((z = -1 ∨ z = z') ∧ (k = -1 ∨ k = k')) → en_Call G (d + 1) 0 0 Y_X6_heapAt wN wN [.int (iI c), .int (iI z'), .int (iI k')] hi hl hr (en_kk (o_iaload wN (o_iadd (o_istore 4 (o_iinc 6 1 (kv G Y_X6_inCell (d + 1 + 1) wN wN K 18))))) x_no [.ref a, .int (iI c), .int (iI z), .int (iI k), .int (iI (acc + sumTo k' (fun k' => if (z = -1 ∨ z = z') ∧ (k = -1 ∨ k = k') then f c z' k' else 0))), .int (iI z'), .int (iI k')] [.ref (a + 1), .int (iI (acc + sumTo k' (fun k' => if (z = -1 ∨ z = z') ∧ (k = -1 ∨ k = k') then f c z' k' else 0)))] xc xs) := by
      intro hyes
      apply t_heapAt
      simp only [en_ops, en_opc, iI_add, s2]
      refine ⟨(c * 6 + z') * 3 + k', iI_eq_of (by omega), by omega, ⟨trivial, by omega⟩, ?_⟩
      rw [h2 _ _ _ hc (by omega) hk', iI_add]
      rw [if_pos hyes, ← Int.add_assoc] at ih
      exact ih
    have no : ¬((z = -1 ∨ z = z') ∧ (k = -1 ∨ k = k')) → en_V G Y_X6_inCell (d + 2) wN wN K 18 [.ref a, .int (iI c), .int (iI z), .int (iI k), .int (iI (acc + sumTo k' (fun k' => if (z = -1 ∨ z = z') ∧ (k = -1 ∨ k = k') then f c z' k' else 0))), .int (iI z'), .int (iI (k' + 1))] [] hi hl hr xc xs := by
      intro hno
      rw [if_neg hno, Int.add_zero] at ih
      exact ih
    apply s_X6_inCell_18
    simp (disch := omega) only [B_X6_inCell_18, en_ops, en_opc, iI_add, iI_mul, iI_sub, iI_le, iI_lt, iI_eq]
    have at35 : (z = -1 ∨ z = z') → en_V G Y_X6_inCell (d + 1 + 1) wN wN K 35 [.ref a, .int (iI c), .int (iI z), .int (iI k), .int (iI (acc + sumTo k' (fun k' => if (z = -1 ∨ z = z') ∧ (k = -1 ∨ k = k') then f c z' k' else 0))), .int (iI z'), .int (iI k')] [] hi hl hr xc xs := by
      intro hyes
      apply s_X6_inCell_35
      simp (disch := omega) only [B_X6_inCell_35, en_ops, en_opc, iI_add, iI_mul, iI_sub, iI_le, iI_lt, iI_eq, r1, s0, s1]
      refine ⟨fun e => ⟨⟨trivial, trivial⟩, by omega, by omega, by omega, go ⟨hyes, Or.inl e⟩⟩, fun e => ⟨fun e2 => no (by omega), fun e2 => ⟨⟨trivial, trivial⟩, by omega, by omega, by omega, go ⟨hyes, Or.inr e2⟩⟩⟩⟩
    exact ⟨fun e => by omega, fun e => ⟨fun e => at35 (Or.inl e), fun e => ⟨fun e2 => no (by omega), fun e2 => at35 (Or.inr e2)⟩⟩⟩
theorem t_inCell {c : Nat} {z k : Int} (ha : isSh a) (hR : shR a hr) (hh : shH a nc nz f hi) (hc : c < 12) (hz : -1 ≤ z ∧ z < 6) (hk : -1 ≤ k ∧ k < 3)
    (H : K (.inl (some (.int (iI (inP f nz c z k))))) hi hl hr) : en_Call G (d + 2) xc xs Y_X6_inCell wN wN [.ref a, .int (iI c), .int (iI z), .int (iI k)] hi hl hr K := by
  obtain ⟨s0, s1, s2, s3, s4, s5, s6, s7, s8, s9, -⟩ := ha.sh
  have hh' := hh
  obtain ⟨h0, h1, b0, b1, h2⟩ := hh
  apply en_X6_inCell
  simp only [B_X6_inCell_0, en_ops, en_opc]
  suffices L : ∀ z' : Nat, z' ≤ nz → ∀ x6 : Value, en_V G Y_X6_inCell (d + 2) wN wN K 6 [.ref a, .int (iI c), .int (iI z), .int (iI k), .int (iI (sumTo z' (fun z' => sumTo 3 (fun k' => if (z = -1 ∨ z = z') ∧ (k = -1 ∨ k = k') then f c z' k' else 0)))), .int (iI z'), x6] [] hi hl hr xc xs from L 0 (by omega) _
  refine lp nz (fun x6 => ?_) (fun z' hz' ih x6 => ?_)
  · apply s_X6_inCell_6
    simp (disch := omega) only [B_X6_inCell_6, en_ops, en_opc, iI_add, iI_mul, iI_sub, iI_le, iI_lt, iI_eq, s0, s1, h1]
    exact ⟨⟨trivial, trivial⟩, fun _ => H, fun e => absurd (Int.le_refl _) e⟩
  · apply s_X6_inCell_6
    simp (disch := omega) only [B_X6_inCell_6, en_ops, en_opc, iI_add, iI_mul, iI_sub, iI_le, iI_lt, iI_eq, s0, s1, h1]
    refine ⟨⟨trivial, trivial⟩, fun e => by omega, fun e => ?_⟩
    have := t_inCell_18 (d := d) (K := K) (hl := hl) (xc := xc) (xs := xs) (acc := sumTo z' (fun z' => sumTo 3 (fun k' => if (z = -1 ∨ z = z') ∧ (k = -1 ∨ k = k') then f c z' k' else 0))) ha hR hh' hc hz' hz hk (fun x => ih x) 0 (by omega)
    rw [sumTo_z, Int.add_zero] at this
    exact this
end
