/-! the constructors -/
section
variable {G : en_G} {Y Yc : en_Y} {d xc xs : Nat} {w w1 : en_Wd} {K : en_K} {k : en_Kont} {ls r : List Value} {hi : en_I} {hl : en_L} {hr : en_F} {uc us : Nat}
theorem oc_obj {a : Nat} : o_obj k ls (.ref a :: r) hi hl hr uc us = ((en_cs r ≤ 8 ∧ a < 1000000) ∧ k ls r hi hl hr uc us) := rfl
end
def en_opi := And.intro @cs_nil (And.intro @cs_i (And.intro @cs_r (And.intro @oc_obj (And.intro @oe_new (And.intro @oe_newa (And.intro @oc_ini0 (And.intro @oc_ini1 (And.intro @oe_aastore (And.intro @oe_kv (And.intro @sv_some @sv_none))))))))))
/-- the cells below a are as they were -/
def smF {α : Type} (a : Nat) (h h' : Nat → Nat → α) : Prop := ∀ x, x < a → h' x = h x
/-- the cells from a to m hold 0 -/
def Zf (a m : Nat) (h : en_I) : Prop := ∀ x j, a ≤ x → x < m → h x j = 0
def Zo (a : Nat) (h : en_I) : Prop := ∀ j, h a j = 0
theorem smF.rf {α : Type} {a : Nat} {h : Nat → Nat → α} : smF a h h := fun _ _ => rfl
theorem smF.row {α : Type} {a b : Nat} {h h' : Nat → Nat → α} {f : Nat → α} (e : a ≤ b) (q : smF a h h') : smF a h (en_row h' b f) := fun x hx => by rw [row_ne (by omega)]; exact q x hx
theorem smF.up {α : Type} {a b j : Nat} {h h' : Nat → Nat → α} {v : α} (e : a ≤ b) (q : smF a h h') : smF a h (en_up h' b j v) := fun x hx => by rw [up_row (by omega)]; exact q x hx
theorem smF.tr {α : Type} {a b : Nat} {h h1 h2 : Nat → Nat → α} (e : a ≤ b) (q1 : smF b h1 h2) (q : smF a h h1) : smF a h h2 := fun x hx => (q1 x (by omega)).trans (q x hx)
theorem Zf.nil {a : Nat} {h : en_I} : Zf a a h := fun x j h1 h2 => by omega
theorem Zf.row {a m : Nat} {h : en_I} (q : Zf a m h) : Zf a (m + 1) (en_row h m (fun _ => 0)) := fun x j h1 h2 => by
  by_cases e : x = m
  · subst e; rw [row_at]
  · rw [row_ne e]; exact q x j h1 (by omega)
theorem Zf.up {a m b j : Nat} {h : en_I} {v : Int32} (e : b < a) (q : Zf a m h) : Zf a m (en_up h b j v) := fun x j9 h1 h2 => by rw [up_row (by omega)]; exact q x j9 h1 h2
theorem Zf.up0 {a m b j : Nat} {h : en_I} (q : Zf a m h) : Zf a m (en_up h b j (iI 0)) := fun x j9 h1 h2 => by
  by_cases e : x = b ∧ j9 = j
  · obtain ⟨rfl, rfl⟩ := e; rw [up_at]; rfl
  · rw [up_ne (by omega)]; exact q x j9 h1 h2
theorem Zf.sub {a m m' : Nat} {h h' : en_I} (q : Zf a m h) (s : smF m h h') (z : Zf m m' h') : Zf a m' h' := fun x j h1 h2 => by
  by_cases e : x < m
  · rw [s x e]; exact q x j h1 e
  · exact z x j (by omega) h2
theorem Zf.own {a m : Nat} {h : en_I} (q : Zo a h) (z : Zf (a + 1) m h) : Zf a m h := fun x j h1 h2 => by
  by_cases e : x = a
  · subst e; exact q j
  · exact z x j (by omega) h2
theorem Zo.row {a m : Nat} {h : en_I} {f : Nat → Int32} (e : m ≠ a) (q : Zo a h) : Zo a (en_row h m f) := fun j => by rw [row_ne (Ne.symm e)]; exact q j
theorem Zo.up0 {a b j : Nat} {h : en_I} (q : Zo a h) : Zo a (en_up h b j (iI 0)) := fun j9 => by
  by_cases e : a = b ∧ j9 = j
  · obtain ⟨rfl, rfl⟩ := e; rw [up_at]; rfl
  · rw [up_ne (by omega)]; exact q j9
theorem Zo.new {a : Nat} {h : en_I} : Zo a (en_row h a (fun _ => 0)) := fun j => by rw [row_at]
section
variable {G : en_G} {d xc xs : Nat} {K : en_K} {hi : en_I} {hl : en_L} {hr : en_F}
theorem i_X1 {a : Nat} (ha : a < 150) (sh : en_SH a = (1, 4) ∧ en_SH (a + 1) = (100, 600) ∧ en_SH (a + 2) = (100, 3) ∧ en_SH (a + 3) = (100, 3)) (h5 : 3 ≤ xc) (h6 : 606 ≤ xs) (hz : Zo a hi) (H : ∀ (hi' : en_I) (hl' : en_L) (hr' : en_F), smF a hi hi' → smF a hr hr' → Zf a (a + 4) hi' → lwR a hr' → K (.inl none) hi' hl' hr') : en_Call G (d + 1) xc xs Y_X1_init (a + 1, true) (a + 4, true) [.ref a] hi hl hr K := by
  obtain ⟨t0, t1, t2, t3⟩ := sh
  apply en_X1_init (a + 1) (by omega)
  simp (disch := omega) only [B_X1_init_0, t0, en_ops, en_opi, Nat.add_assoc, Nat.reduceAdd, iI_add, iI_le, true_and, and_true]
  refine ⟨⟨by decide, by omega⟩, 600, rfl, t1, ⟨by omega, by omega⟩, by omega, by omega, 3, rfl, t2, ⟨by omega, by omega⟩, by omega, 3, rfl, t3, ⟨by omega, by omega⟩, by omega, ?_⟩
  refine H _ _ _ ?_ ?_ ?_ ?_
  · (repeat' first | exact smF.rf | refine smF.row (by omega) ?_ | refine smF.up (by omega) ?_)
  · (repeat' first | exact smF.rf | refine smF.row (by omega) ?_ | refine smF.up (by omega) ?_)
  · refine Zf.own ?_ ?_
    · (repeat' first | exact hz | refine Zo.row (by omega) ?_ | refine Zo.up0 ?_)
    · (repeat' first | exact Zf.nil | refine Zf.row ?_ | refine Zf.up (by omega) ?_)
  · (try unfold lwR)
    (repeat' apply And.intro) <;> simp (disch := omega) only [up_at, up_ne, up_row, row_ne]
theorem i_X3 {a : Nat} (ha : a < 150) (sh : en_SH a = (3, 9) ∧ en_SH (a + 1) = (100, 216) ∧ en_SH (a + 2) = (100, 12) ∧ en_SH (a + 3) = (100, 12) ∧ en_SH (a + 4) = (100, 32) ∧ en_SH (a + 5) = (100, 16)) (h5 : 5 ≤ xc) (h6 : 288 ≤ xs) (hz : Zo a hi) (H : ∀ (hi' : en_I) (hl' : en_L) (hr' : en_F), smF a hi hi' → smF a hr hr' → Zf a (a + 6) hi' → plR a hr' → K (.inl none) hi' hl' hr') : en_Call G (d + 1) xc xs Y_X3_init (a + 1, true) (a + 6, true) [.ref a] hi hl hr K := by
  obtain ⟨t0, t1, t2, t3, t4, t5⟩ := sh
  apply en_X3_init (a + 1) (by omega)
  simp (disch := omega) only [B_X3_init_0, t0, en_ops, en_opi, Nat.add_assoc, Nat.reduceAdd, iI_add, iI_le, true_and, and_true]
  refine ⟨⟨by decide, by omega⟩, by omega, by omega, 216, rfl, t1, ⟨by omega, by omega⟩, by omega, 12, rfl, t2, ⟨by omega, by omega⟩, by omega, 12, rfl, t3, ⟨by omega, by omega⟩, by omega, 32, rfl, t4, ⟨by omega, by omega⟩, by omega, by omega, 16, rfl, t5, ⟨by omega, by omega⟩, by omega, by omega, ?_⟩
  refine H _ _ _ ?_ ?_ ?_ ?_
  · (repeat' first | exact smF.rf | refine smF.row (by omega) ?_ | refine smF.up (by omega) ?_)
  · (repeat' first | exact smF.rf | refine smF.row (by omega) ?_ | refine smF.up (by omega) ?_)
  · refine Zf.own ?_ ?_
    · (repeat' first | exact hz | refine Zo.row (by omega) ?_ | refine Zo.up0 ?_)
    · (repeat' first | exact Zf.nil | refine Zf.row ?_ | refine Zf.up (by omega) ?_)
  · (try unfold plR)
    (repeat' apply And.intro) <;> simp (disch := omega) only [up_at, up_ne, up_row, row_ne]
theorem i_X6 {a : Nat} (ha : a < 150) (sh : en_SH a = (6, 12) ∧ en_SH (a + 1) = (100, 216) ∧ en_SH (a + 2) = (100, 12) ∧ en_SH (a + 3) = (100, 12) ∧ en_SH (a + 4) = (100, 12) ∧ en_SH (a + 5) = (100, 72) ∧ en_SH (a + 6) = (100, 4) ∧ en_SH (a + 7) = (100, 5)) (h5 : 7 ≤ xc) (h6 : 333 ≤ xs) (hz : Zo a hi) (H : ∀ (hi' : en_I) (hl' : en_L) (hr' : en_F), smF a hi hi' → smF a hr hr' → Zf a (a + 8) hi' → shR a hr' → K (.inl none) hi' hl' hr') : en_Call G (d + 1) xc xs Y_X6_init (a + 1, true) (a + 8, true) [.ref a] hi hl hr K := by
  obtain ⟨t0, t1, t2, t3, t4, t5, t6, t7⟩ := sh
  apply en_X6_init (a + 1) (by omega)
  simp (disch := omega) only [B_X6_init_0, t0, en_ops, en_opi, Nat.add_assoc, Nat.reduceAdd, iI_add, iI_le, true_and, and_true]
  refine ⟨⟨by decide, by omega⟩, by omega, by omega, 216, rfl, t1, ⟨by omega, by omega⟩, by omega, 12, rfl, t2, ⟨by omega, by omega⟩, by omega, 12, rfl, t3, ⟨by omega, by omega⟩, by omega, 12, rfl, t4, ⟨by omega, by omega⟩, by omega, 72, rfl, t5, ⟨by omega, by omega⟩, by omega, 4, rfl, t6, ⟨by omega, by omega⟩, by omega, by omega, 5, rfl, t7, ⟨by omega, by omega⟩, by omega, by omega, by omega, ?_⟩
  refine H _ _ _ ?_ ?_ ?_ ?_
  · (repeat' first | exact smF.rf | refine smF.row (by omega) ?_ | refine smF.up (by omega) ?_)
  · (repeat' first | exact smF.rf | refine smF.row (by omega) ?_ | refine smF.up (by omega) ?_)
  · refine Zf.own ?_ ?_
    · (repeat' first | exact hz | refine Zo.row (by omega) ?_ | refine Zo.up0 ?_)
    · (repeat' first | exact Zf.nil | refine Zf.row ?_ | refine Zf.up (by omega) ?_)
  · (try unfold shR)
    (repeat' apply And.intro) <;> simp (disch := omega) only [up_at, up_ne, up_row, row_ne]
theorem i_X9 {a : Nat} (ha : a < 150) (sh : en_SH a = (9, 5) ∧ en_SH (a + 1) = (100, 20) ∧ en_SH (a + 2) = (100, 20) ∧ en_SH (a + 3) = (100, 20) ∧ en_SH (a + 4) = (100, 20)) (h5 : 4 ≤ xc) (h6 : 80 ≤ xs) (hz : Zo a hi) (H : ∀ (hi' : en_I) (hl' : en_L) (hr' : en_F), smF a hi hi' → smF a hr hr' → Zf a (a + 5) hi' → yeR a hr' → K (.inl none) hi' hl' hr') : en_Call G (d + 1) xc xs Y_X9_init (a + 1, true) (a + 5, true) [.ref a] hi hl hr K := by
  obtain ⟨t0, t1, t2, t3, t4⟩ := sh
  apply en_X9_init (a + 1) (by omega)
  simp (disch := omega) only [B_X9_init_0, t0, en_ops, en_opi, Nat.add_assoc, Nat.reduceAdd, iI_add, iI_le, true_and, and_true]
  refine ⟨⟨by decide, by omega⟩, 20, rfl, t1, ⟨by omega, by omega⟩, by omega, 20, rfl, t2, ⟨by omega, by omega⟩, by omega, 20, rfl, t3, ⟨by omega, by omega⟩, by omega, 20, rfl, t4, ⟨by omega, by omega⟩, by omega, by omega, ?_⟩
  refine H _ _ _ ?_ ?_ ?_ ?_
  · (repeat' first | exact smF.rf | refine smF.row (by omega) ?_ | refine smF.up (by omega) ?_)
  · (repeat' first | exact smF.rf | refine smF.row (by omega) ?_ | refine smF.up (by omega) ?_)
  · refine Zf.own ?_ ?_
    · (repeat' first | exact hz | refine Zo.row (by omega) ?_ | refine Zo.up0 ?_)
    · (repeat' first | exact Zf.nil | refine Zf.row ?_ | refine Zf.up (by omega) ?_)
  · (try unfold yeR)
    (repeat' apply And.intro) <;> simp (disch := omega) only [up_at, up_ne, up_row, row_ne]
theorem i_X0 {a x1 : Nat} (ha : a < 150) (sh : en_SH a = (0, 4)) (h5 : 0 ≤ xc) (h6 : 0 ≤ xs) (hz : Zo a hi) (H : ∀ (hi' : en_I) (hl' : en_L) (hr' : en_F), smF a hi hi' → smF a hr hr' → Zf a (a + 1) hi' → hr' a 0 = .ref x1 → K (.inl none) hi' hl' hr') : en_Call G (d + 1) xc xs Y_X0_init (a + 1, true) (a + 1, true) [.ref a, .ref x1] hi hl hr K := by
  have t0 := sh
  apply en_X0_init (a + 1) (by omega)
  simp (disch := omega) only [B_X0_init_0, t0, en_ops, en_opi, Nat.add_assoc, Nat.reduceAdd, iI_add, iI_le, true_and, and_true]
  refine ⟨⟨by decide, by omega⟩, by omega, Or.inl trivial, by omega, Or.inl trivial, by omega, Or.inl trivial, by omega, ?_⟩
  refine H _ _ _ ?_ ?_ ?_ ?_
  · (repeat' first | exact smF.rf | refine smF.row (by omega) ?_ | refine smF.up (by omega) ?_)
  · (repeat' first | exact smF.rf | refine smF.row (by omega) ?_ | refine smF.up (by omega) ?_)
  · refine Zf.own ?_ ?_
    · (repeat' first | exact hz | refine Zo.row (by omega) ?_ | refine Zo.up0 ?_)
    · (repeat' first | exact Zf.nil | refine Zf.row ?_ | refine Zf.up (by omega) ?_)
  · (repeat' apply And.intro) <;> simp (disch := omega) only [up_at, up_ne, up_row, row_ne]
theorem i_X5 {a : Nat} (ha : a < 150) (sh : en_SH a = (5, 3) ∧ en_SH (a + 1) = (102, 12)) (h5 : 1 ≤ xc) (h6 : 12 ≤ xs) (hz : Zo a hi) (H : ∀ (hi' : en_I) (hl' : en_L) (hr' : en_F), smF a hi hi' → smF a hr hr' → Zf a (a + 2) hi' → hr' a 0 = .ref (a + 1) → K (.inl none) hi' hl' hr') : en_Call G (d + 1) xc xs Y_X5_init (a + 1, true) (a + 2, true) [.ref a] hi hl hr K := by
  obtain ⟨t0, t1⟩ := sh
  apply en_X5_init (a + 1) (by omega)
  simp (disch := omega) only [B_X5_init_0, t0, en_ops, en_opi, Nat.add_assoc, Nat.reduceAdd, iI_add, iI_le, true_and, and_true]
  refine ⟨⟨by decide, by omega⟩, 12, rfl, t1, ⟨by omega, by omega⟩, by omega, by omega, by omega, ?_⟩
  refine H _ _ _ ?_ ?_ ?_ ?_
  · (repeat' first | exact smF.rf | refine smF.row (by omega) ?_ | refine smF.up (by omega) ?_)
  · (repeat' first | exact smF.rf | refine smF.row (by omega) ?_ | refine smF.up (by omega) ?_)
  · refine Zf.own ?_ ?_
    · (repeat' first | exact hz | refine Zo.row (by omega) ?_ | refine Zo.up0 ?_)
    · (repeat' first | exact Zf.nil | refine Zf.row ?_ | refine Zf.up (by omega) ?_)
  · (repeat' apply And.intro) <;> simp (disch := omega) only [up_at, up_ne, up_row, row_ne]
theorem i_X4 {a x1 : Nat} (ha : a < 150) (sh : en_SH a = (4, 6) ∧ en_SH (a + 1) = (100, 9) ∧ en_SH (a + 2) = (100, 64) ∧ en_SH (a + 3) = (100, 216)) (h5 : 3 ≤ xc) (h6 : 289 ≤ xs) (hz : Zo a hi) (H : ∀ (hi' : en_I) (hl' : en_L) (hr' : en_F), smF a hi hi' → smF a hr hr' → Zf a (a + 4) hi' → hr' a 0 = .ref (a + 1) ∧ hr' a 1 = .ref (a + 2) ∧ hr' a 2 = .ref (a + 3) ∧ hr' a 5 = .ref x1 → K (.inl none) hi' hl' hr') : en_Call G (d + 1) xc xs Y_X4_init (a + 1, true) (a + 4, true) [.ref a, .ref x1] hi hl hr K := by
  obtain ⟨t0, t1, t2, t3⟩ := sh
  apply en_X4_init (a + 1) (by omega)
  simp (disch := omega) only [B_X4_init_0, t0, en_ops, en_opi, Nat.add_assoc, Nat.reduceAdd, iI_add, iI_le, true_and, and_true]
  refine ⟨⟨by decide, by omega⟩, 9, rfl, t1, ⟨by omega, by omega⟩, by omega, 64, rfl, t2, ⟨by omega, by omega⟩, by omega, 216, rfl, t3, ⟨by omega, by omega⟩, by omega, by omega, by omega, by omega, ?_⟩
  refine H _ _ _ ?_ ?_ ?_ ?_
  · (repeat' first | exact smF.rf | refine smF.row (by omega) ?_ | refine smF.up (by omega) ?_)
  · (repeat' first | exact smF.rf | refine smF.row (by omega) ?_ | refine smF.up (by omega) ?_)
  · refine Zf.own ?_ ?_
    · (repeat' first | exact hz | refine Zo.row (by omega) ?_ | refine Zo.up0 ?_)
    · (repeat' first | exact Zf.nil | refine Zf.row ?_ | refine Zf.up (by omega) ?_)
  · (repeat' apply And.intro) <;> simp (disch := omega) only [up_at, up_ne, up_row, row_ne]
theorem i_X7 {a : Nat} (ha : a < 150) (sh : en_SH a = (7, 9) ∧ en_SH (a + 1) = (101, 0)) (h5 : 1 ≤ xc) (h6 : 0 ≤ xs) (H : ∀ (hi' : en_I) (hl' : en_L) (hr' : en_F), smF a hi hi' → smF a hr hr' → Zf (a + 1) (a + 2) hi' → K (.inl none) hi' hl' hr') : en_Call G (d + 1) xc xs Y_X7_init (a + 1, true) (a + 2, true) [.ref a] hi hl hr K := by
  obtain ⟨t0, t1⟩ := sh
  apply en_X7_init (a + 1) (by omega)
  simp (disch := omega) only [B_X7_init_0, t0, en_ops, en_opi, Nat.add_assoc, Nat.reduceAdd, iI_add, iI_le, true_and, and_true]
  refine ⟨⟨by decide, by omega⟩, 0, rfl, t1, ⟨by omega, by omega⟩, by omega, by omega, by omega, by omega, by omega, by omega, by omega, by omega, by omega, ?_⟩
  refine H _ _ _ ?_ ?_ ?_
  · (repeat' first | exact smF.rf | refine smF.row (by omega) ?_ | refine smF.up (by omega) ?_)
  · (repeat' first | exact smF.rf | refine smF.row (by omega) ?_ | refine smF.up (by omega) ?_)
  · (repeat' first | exact Zf.nil | refine Zf.row ?_ | refine Zf.up (by omega) ?_)
theorem i_X2 {a x1 : Nat} (ha : a < 140) (sh : en_SH a = (2, 4) ∧ en_SH (a + 1) = (1, 4) ∧ en_SH (a + 2) = (100, 600) ∧ en_SH (a + 3) = (100, 3) ∧ en_SH (a + 4) = (100, 3)) (h5 : 4 ≤ xc) (h6 : 610 ≤ xs) (hz : Zo a hi) (H : ∀ (hi' : en_I) (hl' : en_L) (hr' : en_F), smF a hi hi' → smF a hr hr' → Zf a (a + 5) hi' → hr' a 0 = .ref x1 → K (.inl none) hi' hl' hr') : en_Call G (d + 2) xc xs Y_X2_init (a + 1, true) (a + 5, true) [.ref a, .ref x1] hi hl hr K := by
  obtain ⟨t0, t1, t2, t3, t4⟩ := sh
  apply en_X2_init (a + 1) (by omega) t1
  simp (disch := omega) only [B_X2_init_0, t0, en_ops, en_opi, Nat.add_assoc, Nat.reduceAdd, iI_add, iI_le, true_and, and_true]
  refine ⟨⟨by decide, by omega⟩, ⟨by omega, by omega⟩, by omega, by decide, by omega, by omega, i_X1 (a := a + 1) (by omega) ⟨t1, t2, t3, t4⟩ (by omega) (by omega) Zo.new (fun hi1 hl1 hr1 q1 r1 z1 f1 => ?_)⟩
  simp (disch := omega) only [t0, en_ops, en_opi, Nat.add_assoc, Nat.reduceAdd, iI_add, iI_le, true_and, and_true]
  refine ⟨by omega, by omega, by omega, by omega, ?_⟩
  refine H _ _ _ ?_ ?_ ?_ ?_
  · refine smF.tr (b := a) (Nat.le_refl _) ?_ (smF.tr (b := a + 1) (by omega) q1 ?_)
    · (repeat' first | exact smF.rf | refine smF.row (by omega) ?_ | refine smF.up (by omega) ?_)
    · (repeat' first | exact smF.rf | refine smF.row (by omega) ?_ | refine smF.up (by omega) ?_)
  · refine smF.tr (b := a) (Nat.le_refl _) ?_ (smF.tr (b := a + 1) (by omega) r1 ?_)
    · (repeat' first | exact smF.rf | refine smF.row (by omega) ?_ | refine smF.up (by omega) ?_)
    · (repeat' first | exact smF.rf | refine smF.row (by omega) ?_ | refine smF.up (by omega) ?_)
  · refine Zf.own ?_ ?_
    · (repeat' first | refine Zo.row (by omega) ?_ | refine Zo.up0 ?_)
      intro j
      rw [q1 a (by omega), row_ne (by omega)]
      exact hz j
    · (repeat' first | exact z1 | refine Zf.row ?_ | refine Zf.up (by omega) ?_)
  · simp (disch := omega) only [up_at, up_ne, up_row, row_ne]
theorem i_X8 {a x1 : Nat} (ha : a < 140) (sh : en_SH a = (8, 5) ∧ en_SH (a + 1) = (6, 12) ∧ en_SH (a + 2) = (100, 216) ∧ en_SH (a + 3) = (100, 12) ∧ en_SH (a + 4) = (100, 12) ∧ en_SH (a + 5) = (100, 12) ∧ en_SH (a + 6) = (100, 72) ∧ en_SH (a + 7) = (100, 4) ∧ en_SH (a + 8) = (100, 5) ∧ en_SH (a + 9) = (100, 12)) (h5 : 9 ≤ xc) (h6 : 357 ≤ xs) (H : ∀ (hi' : en_I) (hl' : en_L) (hr' : en_F), smF a hi hi' → smF a hr hr' → Zf (a + 1) (a + 10) hi' → hr' a 0 = .ref x1 ∧ hr' a 1 = .ref (a + 1) ∧ hr' a 2 = .ref (a + 9) ∧ shR (a + 1) hr' → K (.inl none) hi' hl' hr') : en_Call G (d + 2) xc xs Y_X8_init (a + 1, true) (a + 10, true) [.ref a, .ref x1] hi hl hr K := by
  obtain ⟨t0, t1, t2, t3, t4, t5, t6, t7, t8, t9⟩ := sh
  apply en_X8_init (a + 1) (by omega) t1
  simp (disch := omega) only [B_X8_init_0, t0, en_ops, en_opi, Nat.add_assoc, Nat.reduceAdd, iI_add, iI_le, true_and, and_true]
  refine ⟨⟨by decide, by omega⟩, ⟨by omega, by omega⟩, by omega, by decide, by omega, by omega, i_X6 (a := a + 1) (by omega) ⟨t1, t2, t3, t4, t5, t6, t7, t8⟩ (by omega) (by omega) Zo.new (fun hi1 hl1 hr1 q1 r1 z1 f1 => ?_)⟩
  simp (disch := omega) only [t0, en_ops, en_opi, Nat.add_assoc, Nat.reduceAdd, iI_add, iI_le, true_and, and_true]
  refine ⟨by omega, 12, rfl, t9, ⟨by omega, by omega⟩, by omega, by omega, by omega, by omega, ?_⟩
  refine H _ _ _ ?_ ?_ ?_ ?_
  · refine smF.tr (b := a) (Nat.le_refl _) ?_ (smF.tr (b := a + 1) (by omega) q1 ?_)
    · (repeat' first | exact smF.rf | refine smF.row (by omega) ?_ | refine smF.up (by omega) ?_)
    · (repeat' first | exact smF.rf | refine smF.row (by omega) ?_ | refine smF.up (by omega) ?_)
  · refine smF.tr (b := a) (Nat.le_refl _) ?_ (smF.tr (b := a + 1) (by omega) r1 ?_)
    · (repeat' first | exact smF.rf | refine smF.row (by omega) ?_ | refine smF.up (by omega) ?_)
    · (repeat' first | exact smF.rf | refine smF.row (by omega) ?_ | refine smF.up (by omega) ?_)
  · (repeat' first | exact z1 | refine Zf.row ?_ | refine Zf.up (by omega) ?_)
  · refine ⟨?_, ?_, ?_, ?_⟩
    · simp (disch := omega) only [up_at, up_ne, up_row, row_ne]
    · simp (disch := omega) only [up_at, up_ne, up_row, row_ne]
    · simp (disch := omega) only [up_at, up_ne, up_row, row_ne]
    · unfold shR at f1 ⊢
      simp (disch := omega) only [up_at, up_ne, up_row, row_ne]
      exact f1
end
