section
variable {G : en_G} {d : Nat} {K : en_K} {a b : Nat} {E : hEnv} {q : hSt} {hi : en_I} {hl : en_L} {hr : en_F} {xc xs : Nat}
theorem cpy0 {src dst : Nat → Int32} {n j : Nat} (h : j < n) : en_cpy src dst 0 0 n j = src j := by
  unfold en_cpy
  simp [h]
def Psh (a x : Nat) : Prop := a ≤ x ∧ x ≤ a + 7
/-- the shore at a is the one at b -/
def shC (a b : Nat) (hi hi' : en_I) : Prop := Fr (Psh a) hi hi' ∧ (hi' a 0 = hi b 0 ∧ hi' a 1 = hi b 1 ∧ hi' a 8 = hi b 8 ∧ hi' a 10 = hi b 10 ∧ hi' a 11 = hi b 11) ∧ ∀ k, 1 ≤ k → k ≤ 7 → ∀ j, j < (en_SH (a + k)).2 → hi' (a + k) j = hi (b + k) j
theorem t_copy (ha : isSh a) (hb : isSh b) (hab : a ≠ b) (hR : shR a hr) (hRb : shR b hr) (H : ∀ hi', shC a b hi hi' → K (.inl none) hi' hl hr) : en_Call G (d + 1) xc xs Y_X6_copy wN wN [.ref a, .ref b] hi hl hr K := by
  obtain ⟨s0, s1, s2, s3, s4, s5, s6, s7, s8, s9, s10, s11⟩ := ha.sh
  obtain ⟨z0, z1, z2, z3, z4, z5, z6, z7, z8, z9, z10, z11⟩ := hb.sh
  obtain ⟨r1, r2, r3, r4, r5, r6, r7⟩ := id hR
  obtain ⟨y1, y2, y3, y4, y5, y6, y7⟩ := id hRb
  have ab : a + 7 < b ∨ b + 7 < a := by
    rcases ha with rfl | rfl | rfl | rfl | rfl <;> rcases hb with rfl | rfl | rfl | rfl | rfl <;> omega
  have g : ∀ k, k ≤ 7 → a + k < 134 := fun k hk => by omega
  have g' : ∀ k, k ≤ 7 → b + k < 134 := fun k hk => by omega
  apply en_X6_copy
  simp (disch := omega) only [B_X6_copy_0, r1, r2, r3, r4, r5, r6, r7, y1, y2, y3, y4, y5, y6, y7, s0, s1, z0, z1, s2, s3, s4, s5, s6, s7, s8, z2, z3, z4, z5, z6, z7, z8, List.map_nil, List.sum_nil, row_ne, up_row, row_at, en_ops, en_opc, iI_add, iI_mul, iI_sub, jL_add, jL_mul, iI_le, iI_lt, iI_eq, iI_eq0, iI_lt0, iI_0le, iI_le0, iI_0lt, jL_iI, iI_jL, lc_eq, lc_lt, lc_le, lc_ge, lc_gt, Nat.sub_zero, Nat.zero_le, true_and, and_true, Nat.reduceAdd, Nat.reduceLeDiff]
  refine ⟨216, 0, 0, rfl, rfl, rfl, g 1 (by omega), g' 1 (by omega), by decide, by decide, 12, 0, 0, rfl, rfl, rfl, g 2 (by omega), g' 2 (by omega), by decide, by decide, 12, 0, 0, rfl, rfl, rfl, g 3 (by omega), g' 3 (by omega), by decide, by decide, 12, 0, 0, rfl, rfl, rfl, g 4 (by omega), g' 4 (by omega), by decide, by decide, 72, 0, 0, rfl, rfl, rfl, g 5 (by omega), g' 5 (by omega), by decide, by decide, 4, 0, 0, rfl, rfl, rfl, g 6 (by omega), g' 6 (by omega), by decide, by decide, 5, 0, 0, rfl, rfl, rfl, g 7 (by omega), g' 7 (by omega), by decide, by decide, ?_⟩
  refine H _ ⟨fun x hx => ?_, ⟨?_, ?_, ?_, ?_, ?_⟩, fun k k1 k7 j hj => ?_⟩
  · have hx' : x < a ∨ a + 7 < x := by unfold Psh at hx; omega
    simp (disch := omega) only [row_ne, up_row]
  · simp (disch := omega) only [row_ne, up_row, up_ne, up_at]
  · simp (disch := omega) only [row_ne, up_row, up_ne, up_at]
  · simp (disch := omega) only [row_ne, up_row, up_ne, up_at]
  · simp (disch := omega) only [row_ne, up_row, up_ne, up_at]
  · simp (disch := omega) only [row_ne, up_row, up_ne, up_at]
  · rcases (show k = 1 ∨ k = 2 ∨ k = 3 ∨ k = 4 ∨ k = 5 ∨ k = 6 ∨ k = 7 by omega) with rfl | rfl | rfl | rfl | rfl | rfl | rfl
    · rw [s2] at hj; simp (disch := omega) only [row_ne, up_row, row_at]; exact cpy0 hj
    · rw [s3] at hj; simp (disch := omega) only [row_ne, up_row, row_at]; exact cpy0 hj
    · rw [s4] at hj; simp (disch := omega) only [row_ne, up_row, row_at]; exact cpy0 hj
    · rw [s5] at hj; simp (disch := omega) only [row_ne, up_row, row_at]; exact cpy0 hj
    · rw [s6] at hj; simp (disch := omega) only [row_ne, up_row, row_at]; exact cpy0 hj
    · rw [s7] at hj; simp (disch := omega) only [row_ne, up_row, row_at]; exact cpy0 hj
    · rw [s8] at hj; simp (disch := omega) only [row_ne, up_row, row_at]; exact cpy0 hj
end
