section
variable {nc nz : Nat} {f g : Nat → Nat → Nat → Int} {V : Nat → (Nat → Int) → Int} {he bt fr : Int} {cr wl sm : Nat → Int}
theorem stP_r {c : Nat} {n : Int} (hw : ∀ c, c < 12 → 0 ≤ wl c ∧ wl c ≤ 16) (hc : c < 12) (hn : 0 ≤ n) : 0 ≤ stP nc wl fr c n ∧ stP nc wl fr c n ≤ n := by
  unfold stP
  split
  next q =>
    have hb : 0 ≤ cgP wl fr c ∧ cgP wl fr c ≤ 16 := by unfold cgP; exact hw _ (by split <;> omega)
    have p0 := Int.mul_nonneg hn hb.1
    have p1 : n * cgP wl fr c ≤ n * 16 := Int.mul_le_mul_of_nonneg_left hb.2 hn
    omega
  next => omega
theorem goP_nn {c z k : Nat} {n : Int} (hw : ∀ c, c < 12 → 0 ≤ wl c ∧ wl c ≤ 16) (hc : c < 12) (hn : 0 ≤ n) (c' z' k' : Nat) : 0 ≤ goP nc wl fr c z k n c' z' k' := by
  obtain ⟨s0, s1⟩ := stP_r (nc := nc) (fr := fr) hw hc hn
  unfold goP
  split <;> split <;> omega
theorem toP_lt {c : Nat} (hc : c < nc) (q : insP nc fr c) : toP fr c < nc := by
  unfold toP
  rcases q with ⟨q1, q2⟩ | ⟨q1, q2⟩
  · rw [if_pos q1]; exact q2
  · rw [if_neg q1]; omega
theorem tot_go {c z k : Nat} {n : Int} (hc : c < nc) (hnc : nc ≤ 12) (hz : z < 6) (hk : k < 3) : tot (goP nc wl fr c z k n) = n := by
  have e : tot (goP nc wl fr c z k n) = tot (fun c' z' k' => (if c' = c ∧ z' = z ∧ k' = k then stP nc wl fr c n else 0) + (if insP nc fr c ∧ c' = toP fr c ∧ z' = z ∧ k' = k then n - stP nc wl fr c n else 0)) := rfl
  rw [e, tot_add, tot_one (by omega) hz hk, tot_ite (fun q => by have := toP_lt hc q; omega) hz hk]
  by_cases q : insP nc fr c
  · rw [if_pos q]; omega
  · rw [if_neg q]; unfold stP; rw [if_neg q]; omega
theorem tot_ct {c z k : Nat} {m w : Int} (hc : c < nc) (hnc : nc ≤ 12) (hz : z < 6) (hk : k < 3) (hw : 0 ≤ w) : tot (ctP nc wl fr c z k m w) ≤ m := by
  by_cases e : z = 0
  · have e1 : tot (ctP nc wl fr c z k m w) = tot (goP nc wl fr c z k (m - w)) := tot_cg (fun c' z' k' _ _ _ => by unfold ctP; rw [if_pos e]; omega)
    rw [e1, tot_go hc hnc hz hk]; omega
  · have e1 : tot (ctP nc wl fr c z k m w) = tot (fun c' z' k' => goP nc wl fr c z k (m - w) c' z' k' + goP nc wl fr c (z - 1) k w c' z' k') := tot_cg (fun c' z' k' _ _ _ => by unfold ctP; rw [if_neg e])
    rw [e1, tot_add, tot_go hc hnc hz hk, tot_go hc hnc (by omega) hk]; omega
/-- the heaps when all have set out and come in -/
def f1P (V : Nat → (Nat → Int) → Int) (f : Nat → Nat → Nat → Int) (nc nz : Nat) (wl : Nat → Int) (he bt fr : Int) (cr : Nat → Int) (N c z k : Nat) : Int := fN V f nz he bt fr cr N c z k + arN V f nc nz wl he bt fr cr N c z k
theorem ctN_nn (hB : fB nc nz f) (hw : ∀ c, c < 12 → 0 ≤ wl c ∧ wl c ≤ 16) (hnc : nc ≤ 12) {n : Nat} (hn : n < nc * 18) (c z k : Nat) : 0 ≤ ctN V f nc nz wl he bt fr cr c z k n := by
  have hc : cN n < 12 := by unfold cN; omega
  have m := mvP_r (V := V) (nz := nz) (he := he) (bt := bt) (fr := fr) (cr := cr) hB.1 (cN n) (zN n) (kN n)
  have w := wrP_r (V := V) (nz := nz) (he := he) (bt := bt) (fr := fr) (cr := cr) hB.1 (cN n) (zN n) (kN n)
  unfold ctN ctP
  have g1 := goP_nn (nc := nc) (fr := fr) (z := zN n) (k := kN n) hw hc (show 0 ≤ mvP V f nz he bt fr cr (cN n) (zN n) (kN n) - wrP V f nz he bt fr cr (cN n) (zN n) (kN n) by omega) c z k
  have g2 := goP_nn (nc := nc) (fr := fr) (z := zN n - 1) (k := kN n) hw hc w.1 c z k
  split <;> omega
theorem ctN_z (hB : fB nc nz f) {n c z k : Nat} (hn : n < nc * 18) (h : nz ≤ z ∨ nc ≤ c) : ctN V f nc nz wl he bt fr cr c z k n = 0 := by
  have hc : cN n < nc := by unfold cN; omega
  by_cases q : nz ≤ zN n
  · exact (n_zero hB (hB.2.1 _ _ _ q)).2.2 c z k
  · unfold ctN ctP goP
    have t := fun i => toP_lt (fr := fr) hc i
    have n1 : ¬ (c = cN n ∧ z = zN n ∧ k = kN n) := fun g => by omega
    have n2 : ¬ (c = cN n ∧ z = zN n - 1 ∧ k = kN n) := fun g => by omega
    have n3 : ¬ (insP nc fr (cN n) ∧ c = toP fr (cN n) ∧ z = zN n ∧ k = kN n) := fun g => by have := t g.1; omega
    have n4 : ¬ (insP nc fr (cN n) ∧ c = toP fr (cN n) ∧ z = zN n - 1 ∧ k = kN n) := fun g => by have := t g.1; omega
    rw [if_neg n1, if_neg n2, if_neg n3, if_neg n4]
    split <;> rfl
theorem f1_tot (hB : fB nc nz f) (hw : ∀ c, c < 12 → 0 ≤ wl c ∧ wl c ≤ 16) (hnc : nc ≤ 12) : ∀ N, N ≤ nc * 18 → tot (f1P V f nc nz wl he bt fr cr N) ≤ tot f := by
  intro N
  induction N with
  | zero =>
    intro _
    refine Int.le_of_eq (tot_cg (fun c z k _ _ _ => ?_))
    unfold f1P fN arN
    rw [if_neg (by omega), sumTo_z]; omega
  | succ N ih =>
    intro hN
    have i9 := ih (by omega)
    have hc : cN N < nc := by unfold cN; omega
    have hz : zN N < 6 := by unfold zN; omega
    have hk : kN N < 3 := by unfold kN; omega
    have m := mvP_r (V := V) (nz := nz) (he := he) (bt := bt) (fr := fr) (cr := cr) hB.1 (cN N) (zN N) (kN N)
    have w := wrP_r (V := V) (nz := nz) (he := he) (bt := bt) (fr := fr) (cr := cr) hB.1 (cN N) (zN N) (kN N)
    have e : tot (f1P V f nc nz wl he bt fr cr (N + 1)) = tot (fun c z k => (f1P V f nc nz wl he bt fr cr N c z k + (if c = cN N ∧ z = zN N ∧ k = kN N then -(mvP V f nz he bt fr cr (cN N) (zN N) (kN N)) else 0)) + ctP nc wl fr (cN N) (zN N) (kN N) (mvP V f nz he bt fr cr (cN N) (zN N) (kN N)) (wrP V f nz he bt fr cr (cN N) (zN N) (kN N)) c z k) := by
      refine tot_cg (fun c z k hc' hz' hk' => ?_)
      unfold f1P arN
      rw [sumTo_s]
      unfold fN
      by_cases j : (c * 6 + z) * 3 + k = N
      · obtain ⟨q1, q2, q3⟩ := n_at (c := c) hz' hk'
        rw [j] at q1 q2 q3
        rw [if_pos (by omega), if_neg (by omega), if_pos ⟨q1.symm, q2.symm, q3.symm⟩, q1, q2, q3]
        unfold ctN
        rw [q1, q2, q3]
        omega
      · have j2 : ¬ (c = cN N ∧ z = zN N ∧ k = kN N) := fun g => j (by obtain ⟨g1, g2, g3⟩ := g; unfold cN at g1; unfold zN at g2; unfold kN at g3; omega)
        rw [if_neg j2]
        by_cases j3 : (c * 6 + z) * 3 + k < N
        · rw [if_pos (by omega), if_pos j3]; unfold ctN; omega
        · rw [if_neg (by omega), if_neg j3]; unfold ctN; omega
    rw [e, tot_add, tot_add, tot_one (by omega) hz hk]
    have t9 := tot_ct (wl := wl) (fr := fr) (m := mvP V f nz he bt fr cr (cN N) (zN N) (kN N)) hc hnc hz hk w.1
    omega
theorem f1_B (hB : fB nc nz f) (hw : ∀ c, c < 12 → 0 ≤ wl c ∧ wl c ≤ 16) (hnc : nc ≤ 12) : fB nc nz (f1P V f nc nz wl he bt fr cr (nc * 18)) := by
  have b := fN_B (V := V) (he := he) (bt := bt) (fr := fr) (cr := cr) hB (nc * 18)
  refine ⟨fun c z k => ?_, fun c z k h => ?_, fun c z k h => ?_, Int.le_trans (f1_tot hB hw hnc _ (Nat.le_refl _)) hB.2.2.2⟩
  · have := b.1 c z k
    have : 0 ≤ arN V f nc nz wl he bt fr cr (nc * 18) c z k := sumTo_nn (fun n hn => ctN_nn hB hw hnc hn c z k)
    unfold f1P; omega
  · unfold f1P arN
    rw [b.2.1 c z k h, sumTo_zero (fun n hn => ctN_z hB hn (Or.inl h))]; rfl
  · unfold f1P arN
    rw [b.2.2.1 c z k h, sumTo_zero (fun n hn => ctN_z hB hn (Or.inr h))]; rfl
end
