theorem up_at {α : Type} {h : Nat → Nat → α} {a i : Nat} {v : α} : en_up h a i v a i = v := by unfold en_up; rw [if_pos ⟨rfl, rfl⟩]
theorem up_ne {α : Type} {h : Nat → Nat → α} {a i a' j : Nat} {v : α} (e : a' ≠ a ∨ j ≠ i) : en_up h a i v a' j = h a' j := by unfold en_up; rw [if_neg (fun q => by rcases e with e | e; exact e q.1; exact e q.2)]
theorem up_row {α : Type} {h : Nat → Nat → α} {a i a' : Nat} {v : α} (e : a' ≠ a) : en_up h a i v a' = h a' := by funext j; exact up_ne (Or.inl e)
theorem row_at {α : Type} {h : Nat → Nat → α} {a : Nat} {g : Nat → α} : en_row h a g a = g := by unfold en_row; rw [if_pos rfl]
theorem row_ne {α : Type} {h : Nat → Nat → α} {a a' : Nat} {g : Nat → α} (e : a' ≠ a) : en_row h a g a' = h a' := by unfold en_row; rw [if_neg e]
/-- what a call leaves as it was -/
def Fr (P : Nat → Prop) (hi hi' : en_I) : Prop := ∀ x, ¬ P x → hi' x = hi x
theorem Fr.rf {P : Nat → Prop} {hi : en_I} : Fr P hi hi := fun _ _ => rfl
theorem Fr.tr {P : Nat → Prop} {h1 h2 h3 : en_I} (a : Fr P h1 h2) (b : Fr P h2 h3) : Fr P h1 h3 := fun x hx => (b x hx).trans (a x hx)
theorem Fr.up {P : Nat → Prop} {h1 h2 : en_I} {a i : Nat} {v : Int32} (q : Fr P h1 h2) (ha : P a) : Fr P h1 (en_up h2 a i v) := fun x hx => (up_row (fun e => hx (by rw [e]; exact ha))).trans (q x hx)
theorem Fr.row {P : Nat → Prop} {h1 h2 : en_I} {a : Nat} {g : Nat → Int32} (q : Fr P h1 h2) (ha : P a) : Fr P h1 (en_row h2 a g) := fun x hx => (row_ne (fun e => hx (by rw [e]; exact ha))).trans (q x hx)
theorem Fr.mono {P Q : Nat → Prop} {h1 h2 : en_I} (q : Fr P h1 h2) (h : ∀ x, P x → Q x) : Fr Q h1 h2 := fun x hx => q x (fun e => hx (h x e))
section
variable {G : en_G} {d : Nat} {K : en_K} {hi : en_I} {hl : en_L} {hr : en_F} {xc xs : Nat}
theorem t_fill {x : Nat} {v : Int32} (hx : (en_SH x).1 = 100) (hx2 : x < 134) (hx3 : (en_SH x).2 < 1000) (H : ∀ hi', Fr (· = x) hi hi' → (∀ j, j < (en_SH x).2 → hi' x j = v) → K (.inl none) hi' hl hr) : en_Call G (d + 1) xc xs Y_J7_fill_53178 wN wN [.ref x, .int v] hi hl hr K := by
  apply en_J7_fill_53178
  simp (disch := omega) only [B_J7_fill_53178_0, hx, hx2, en_ops, en_opc, iI_add, iI_mul, iI_sub, jL_add, jL_mul, iI_le, iI_lt, iI_eq, iI_eq0, iI_lt0, iI_0le, iI_le0, iI_0lt, jL_iI, iI_jL, lc_eq, lc_lt, lc_le, lc_ge, lc_gt, Nat.sub_zero, Nat.zero_le, true_and, and_true, Nat.reduceAdd, Nat.reduceLeDiff]
  refine ⟨by decide, ?_⟩
  suffices L : ∀ i : Nat, i ≤ (en_SH x).2 → ∀ hi', Fr (· = x) hi hi' → (∀ j, j < i → hi' x j = v) → en_V G Y_J7_fill_53178 (d + 1) wN wN K 5 [.ref x, .int v, .int (iI i), .int (iI ((en_SH x).2 : Nat))] [] hi' hl hr xc xs from L 0 (by omega) hi Fr.rf (fun j hj => by omega)
  refine lp (en_SH x).2 (fun hi' h1 h2 => ?_) (fun i hi9 ih hi' h1 h2 => ?_)
  · apply s_J7_fill_53178_5
    simp (disch := omega) only [B_J7_fill_53178_5, en_ops, en_opc, iI_add, iI_mul, iI_sub, jL_add, jL_mul, iI_le, iI_lt, iI_eq, iI_eq0, iI_lt0, iI_0le, iI_le0, iI_0lt, jL_iI, iI_jL, lc_eq, lc_lt, lc_le, lc_ge, lc_gt, Nat.sub_zero, Nat.zero_le, true_and, and_true, Nat.reduceAdd, Nat.reduceLeDiff]
    exact ⟨fun _ => H hi' h1 h2, fun e => absurd (Int.le_refl _) e⟩
  · apply s_J7_fill_53178_5
    simp (disch := omega) only [B_J7_fill_53178_5, en_ops, en_opc, iI_add, iI_mul, iI_sub, jL_add, jL_mul, iI_le, iI_lt, iI_eq, iI_eq0, iI_lt0, iI_0le, iI_le0, iI_0lt, jL_iI, iI_jL, lc_eq, lc_lt, lc_le, lc_ge, lc_gt, Nat.sub_zero, Nat.zero_le, true_and, and_true, Nat.reduceAdd, Nat.reduceLeDiff]
    refine ⟨fun e => by omega, fun _ => ⟨i, rfl, hi9, ⟨hx, hx2⟩, ih _ (h1.up rfl) (fun j hj => ?_)⟩⟩
    by_cases e : j = i
    · subst e; exact up_at
    · rw [up_ne (Or.inr e)]; exact h2 j (by omega)
theorem t_min {x y : Int} (h1 : -2147483648 ≤ x) (h2 : x < 2147483648) (h3 : -2147483648 ≤ y) (h4 : y < 2147483648) (H : K (.inl (some (.int (iI (if x ≤ y then x else y))))) hi hl hr) : en_Call G (d + 1) xc xs Y_J9_min_7cf53 wN wN [.int (iI x), .int (iI y)] hi hl hr K := by
  apply en_J9_min_7cf53
  simp (disch := omega) only [B_J9_min_7cf53_0, en_ops, en_opc, iI_add, iI_mul, iI_sub, jL_add, jL_mul, iI_le, iI_lt, iI_eq, iI_eq0, iI_lt0, iI_0le, iI_le0, iI_0lt, jL_iI, iI_jL, lc_eq, lc_lt, lc_le, lc_ge, lc_gt, Nat.sub_zero, Nat.zero_le, true_and, and_true, Nat.reduceAdd, Nat.reduceLeDiff]
  refine ⟨fun e => ?_, fun e => ?_⟩
  · rw [if_neg (by omega)] at H; exact H
  · rw [if_pos (by omega)] at H; exact H
theorem t_abs {x : Int} (h1 : -2147483647 ≤ x) (h2 : x < 2147483648) (H : K (.inl (some (.int (iI (if x < 0 then -x else x))))) hi hl hr) : en_Call G (d + 1) xc xs Y_J9_abs_0f7a4 wN wN [.int (iI x)] hi hl hr K := by
  apply en_J9_abs_0f7a4
  simp (disch := omega) only [B_J9_abs_0f7a4_0, iI_neg, en_ops, en_opc, iI_add, iI_mul, iI_sub, jL_add, jL_mul, iI_le, iI_lt, iI_eq, iI_eq0, iI_lt0, iI_0le, iI_le0, iI_0lt, jL_iI, iI_jL, lc_eq, lc_lt, lc_le, lc_ge, lc_gt, Nat.sub_zero, Nat.zero_le, true_and, and_true, Nat.reduceAdd, Nat.reduceLeDiff]
  refine ⟨fun e => ?_, fun e => ?_⟩
  · rw [if_neg (by omega)] at H; exact H
  · rw [if_pos (by omega)] at H; exact H
variable {a nc nz : Nat} {f : Nat → Nat → Nat → Int}
def addH (a i : Nat) (hi : en_I) (v p : Int) : en_I := if i % 3 = 2 then en_up (en_up hi (a + 1) i (iI v)) a 10 (iI p) else en_up hi (a + 1) i (iI v)
theorem t_add {i : Nat} {n v p : Int} (ha : isSh a) (hR : shR a hr) (hi9 : i < 216) (hv : hi (a + 1) i = iI v) (hp : hi a 10 = iI p)
    (H : K (.inl none) (addH a i hi (v + n) (p + n)) hl hr) : en_Call G (d + 1) xc xs Y_X6_add wN wN [.ref a, .int (iI i), .int (iI n)] hi hl hr K := by
  obtain ⟨s0, s1, s2, s3, s4, s5, s6, s7, s8, s9, s10, s11⟩ := ha.sh
  obtain ⟨r1, r2, r3, r4, r5, r6, r7⟩ := id hR
  have q1 : a + 1 < 134 := by omega
  apply en_X6_add
  simp (disch := omega) only [B_X6_add_0, r1, s0, s1, s2, q1, en_ops, en_opc, iI_add, iI_mul, iI_sub, jL_add, jL_mul, iI_le, iI_lt, iI_eq, iI_eq0, iI_lt0, iI_0le, iI_le0, iI_0lt, jL_iI, iI_jL, lc_eq, lc_lt, lc_le, lc_ge, lc_gt, Nat.sub_zero, Nat.zero_le, true_and, and_true, Nat.reduceAdd, Nat.reduceLeDiff]
  refine ⟨fun e => by omega, fun _ => ⟨fun e => by omega, fun _ => ⟨i, rfl, hi9, i, rfl, hi9, ?_⟩⟩⟩
  refine ⟨by decide, ?_⟩
  rw [iI_div (by omega) (by omega) (by decide) (by decide)]
  simp (disch := omega) only [hv, s0, s1, en_ops, en_opc, iI_add, iI_mul, iI_sub, jL_add, jL_mul, iI_le, iI_lt, iI_eq, iI_eq0, iI_lt0, iI_0le, iI_le0, iI_0lt, jL_iI, iI_jL, lc_eq, lc_lt, lc_le, lc_ge, lc_gt, Nat.sub_zero, Nat.zero_le, true_and, and_true, Nat.reduceAdd, Nat.reduceLeDiff]
  have hp2 : en_up hi (a + 1) i (iI (v + n)) a 10 = iI p := by rw [up_ne (Or.inl (by omega))]; exact hp
  unfold addH at H
  refine ⟨fun e => ?_, fun e => ?_⟩
  · rw [if_neg (by omega)] at H; exact H
  · rw [if_pos (by omega)] at H
    simp (disch := omega) only [hp2, en_ops, en_opc, iI_add, iI_mul, iI_sub, jL_add, jL_mul, iI_le, iI_lt, iI_eq, iI_eq0, iI_lt0, iI_0le, iI_le0, iI_0lt, jL_iI, iI_jL, lc_eq, lc_lt, lc_le, lc_ge, lc_gt, Nat.sub_zero, Nat.zero_le, true_and, and_true, Nat.reduceAdd, Nat.reduceLeDiff]
    exact H
end
