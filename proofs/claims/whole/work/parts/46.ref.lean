section
variable {G : en_G} {d : Nat} {K : en_K} {nc nz : Nat} {s b : Nat → Int} {hi : en_I} {hl : en_L} {hr : en_F} {xc xs : Nat}
/-- the reference's names -/
def rfM (nm : Nat → Int) (hi : en_I) : Prop := ∀ j, j < 9 → hi 124 j = iI (nm j)
theorem m_name {c : Nat} {he bt fr cr : Int} (hR : rfR hr) (hcr : hi 115 (576 + c) = iI cr) (hc : c < 12) (H : ∀ hi', Fr (· = 124) hi hi' → rfM (nmL 0 0 0 0 he bt fr cr c) hi' → K (.inl none) hi' hl hr) : en_Call G (d + 1) xc xs Y_X11_name wN wN [.ref 110, .int (iI c), .int (iI he), .int (iI bt), .int (iI fr)] hi hl hr K := by
  obtain ⟨⟨-, -, r10, -, r12, -⟩, ⟨-, -, -, -, -, r25⟩, -⟩ := hR
  apply en_X11_name
  simp (disch := omega) only [B_X11_name_0, en_ops, en_opc, iI_add, iI_mul, iI_sub, jL_add, jL_mul, iI_le, iI_lt, iI_eq, iI_eq0, iI_lt0, iI_0le, iI_le0, iI_0lt, jL_iI, iI_jL, lc_eq, lc_lt, lc_le, lc_ge, lc_gt, Nat.sub_zero, Nat.zero_le, true_and, and_true, Nat.reduceAdd, Nat.reduceLeDiff]
  suffices L : ∀ i : Nat, i ≤ 4 → ∀ h9, Fr (· = 124) hi h9 → (∀ j, j < i → h9 124 j = iI 0) → en_V G Y_X11_name (d + 1) wN wN K 3 [.ref 110, .int (iI c), .int (iI he), .int (iI bt), .int (iI fr), .int (iI i)] [] h9 hl hr xc xs from L 0 (by omega) hi Fr.rf (fun j hj => by omega)
  refine lp 4 (fun h9 F9 Z9 => ?_) (fun i hi9 ih h9 F9 Z9 => ?_)
  · have c9 : h9 115 (576 + c) = iI cr := by rw [F9 115 (by decide)]; exact hcr
    apply s_X11_name_3
    simp (disch := omega) only [B_X11_name_3, r25, r12, sh110, lt110, sh124, lt124, sh115, lt115, en_ops, en_opc, iI_add, iI_mul, iI_sub, jL_add, jL_mul, iI_le, iI_lt, iI_eq, iI_eq0, iI_lt0, iI_0le, iI_le0, iI_0lt, jL_iI, iI_jL, lc_eq, lc_lt, lc_le, lc_ge, lc_gt, Nat.sub_zero, Nat.zero_le, true_and, and_true, Nat.reduceAdd, Nat.reduceLeDiff]
    refine ⟨fun _ => ⟨4, rfl, by decide, 5, rfl, by decide, 6, rfl, by decide, 576 + c, iI_eq_of (by omega), by omega, 7, rfl, by decide, 8, rfl, by decide, ?_⟩, fun e => absurd (show (4 : Int) ≤ ((4 : Nat) : Int) by omega) e⟩
    refine H _ (Fr.up (Fr.up (Fr.up (Fr.up (Fr.up F9 (by rfl)) (by rfl)) (by rfl)) (by rfl)) (by rfl)) (fun j hj => ?_)
    have z0 := Z9 0 (by omega)
    have z1 := Z9 1 (by omega)
    have z2 := Z9 2 (by omega)
    have z3 := Z9 3 (by omega)
    rcases (show j = 0 ∨ j = 1 ∨ j = 2 ∨ j = 3 ∨ j = 4 ∨ j = 5 ∨ j = 6 ∨ j = 7 ∨ j = 8 by omega) with rfl | rfl | rfl | rfl | rfl | rfl | rfl | rfl | rfl <;> simp [en_up, nmL, z0, z1, z2, z3, c9]
  · apply s_X11_name_3
    simp (disch := omega) only [B_X11_name_3, r25, sh110, lt110, sh124, lt124, en_ops, en_opc, iI_add, iI_mul, iI_sub, jL_add, jL_mul, iI_le, iI_lt, iI_eq, iI_eq0, iI_lt0, iI_0le, iI_le0, iI_0lt, jL_iI, iI_jL, lc_eq, lc_lt, lc_le, lc_ge, lc_gt, Nat.sub_zero, Nat.zero_le, true_and, and_true, Nat.reduceAdd, Nat.reduceLeDiff]
    refine ⟨fun e => by omega, fun _ => ⟨i, rfl, by omega, ih _ (Fr.up F9 (by rfl)) (fun j hj => ?_)⟩⟩
    by_cases e : j = i
    · subst e; exact up_at
    · rw [up_ne (Or.inr e)]; exact Z9 j (by omega)
theorem sum_gt {f : Nat → Int} {n z : Nat} (hz : z < n) : sumTo n (fun i => if z < i then f i else 0) = sumTo n f - sumTo z f - f z := by
  induction n with
  | zero => omega
  | succ n ih =>
    rw [sumTo_s, sumTo_s]
    by_cases e : z = n
    · subst e
      rw [if_neg (by omega), sumTo_zero (fun i hi => if_neg (by omega))]
      omega
    · rw [ih (by omega), if_pos (by omega)]
      omega
theorem sum_lt2 {f : Nat → Int} {n z : Nat} (hz : z ≤ n) : sumTo n (fun i => if i < z then f i else 0) = sumTo z f := by
  rw [sumTo_part (n := z) hz (fun i h1 _ => if_neg (by omega))]
  exact sumTo_congr (fun i hi => if_pos hi)
end
