/-- the bank's numbers while it is made -/
def Zq (n : Nat) (h : en_I) : Prop := ∀ x j, 0 < x → x < n → x ≠ 26 → x ≠ 38 → h x j = 0
def Zc (h : en_I) : Prop := h 0 2 = iI (-1) ∧ ∀ j, j ≠ 2 → h 0 j = 0
theorem Zq.one {h : en_I} : Zq 1 h := fun x j h1 h2 => by omega
theorem Zq.row {n : Nat} {h : en_I} (q : Zq n h) : Zq (n + 1) (en_row h n (fun _ => 0)) := fun x j h1 h2 h3 h4 => by
  by_cases e : x = n
  · subst e; rw [row_at]
  · rw [row_ne e]; exact q x j h1 (by omega) h3 h4
theorem Zq.rowge {n b : Nat} {h : en_I} {f : Nat → Int32} (e : n ≤ b) (q : Zq n h) : Zq n (en_row h b f) := fun x j h1 h2 h3 h4 => by
  rw [row_ne (by omega)]; exact q x j h1 h2 h3 h4
theorem Zq.up {n j : Nat} {h : en_I} {v : Int32} (q : Zq n h) : Zq n (en_up h 0 j v) := fun x j9 h1 h2 h3 h4 => by
  rw [up_row (by omega)]; exact q x j9 h1 h2 h3 h4
theorem Zq.sub {a m : Nat} {h h' : en_I} (q : Zq a h) (s : smF a h h') (z : Zf a m h') : Zq m h' := fun x j h1 h2 h3 h4 => by
  by_cases e : x < a
  · rw [s x e]; exact q x j h1 e h3 h4
  · exact z x j (by omega) h2
theorem Zq.sub1 {a m : Nat} {h h' : en_I} (ha : a = 26 ∨ a = 38) (q : Zq a h) (s : smF a h h') (z : Zf (a + 1) m h') : Zq m h' := fun x j h1 h2 h3 h4 => by
  by_cases e : x < a
  · rw [s x e]; exact q x j h1 e h3 h4
  · exact z x j (by omega) h2
theorem Zc.row {b : Nat} {h : en_I} {f : Nat → Int32} (e : 0 < b) (q : Zc h) : Zc (en_row h b f) := ⟨by rw [row_ne (by omega)]; exact q.1, fun j hj => by rw [row_ne (by omega)]; exact q.2 j hj⟩
theorem Zc.up0 {j : Nat} {h : en_I} (e : j ≠ 2) (q : Zc h) : Zc (en_up h 0 j (iI 0)) := ⟨by rw [up_ne (by omega)]; exact q.1, fun j9 hj => by
  by_cases e9 : j9 = j
  · subst e9; rw [up_at]; rfl
  · rw [up_ne (by omega)]; exact q.2 j9 hj⟩
theorem Zc.fst {h : en_I} (q : ∀ j, j ≠ 2 → h 0 j = 0) : Zc (en_up h 0 2 (iI (-1))) := ⟨up_at, fun j hj => by rw [up_ne (by omega)]; exact q j hj⟩
theorem Zc.sub {a : Nat} {h h' : en_I} (e : 0 < a) (q : Zc h) (s : smF a h h') : Zc h' := ⟨by rw [s 0 e]; exact q.1, fun j hj => by rw [s 0 e]; exact q.2 j hj⟩
section
variable {G : en_G} {d xc xs : Nat} {K : en_K} {hi : en_I} {hl : en_L} {hr : en_F}
set_option maxRecDepth 8000 in
theorem i_X11 (h5 : 22 ≤ xc) (h6 : 12802 ≤ xs) (hz : Zo 110 hi) (H : ∀ (hi' : en_I) (hl' : en_L) (hr' : en_F), smF 110 hi hi' → smF 110 hr hr' → Zf 111 133 hi' → hi' 110 8 = iI (-1) → (∀ j, j ≠ 8 → hi' 110 j = 0) → rfR hr' → K (.inl none) hi' hl' hr') : en_Call G (d + 1) xc xs Y_X11_init (111, true) (133, true) [.ref 110] hi hl hr K := by
  apply en_X11_init 111 (by decide)
  simp (disch := omega) only [B_X11_init_0, sh110, en_ops, en_opi, Nat.add_assoc, Nat.reduceAdd, iI_add, iI_le, true_and, and_true]
  refine ⟨⟨by decide, by decide⟩, 4, rfl, by decide, ⟨by omega, by omega⟩, by decide, by decide, 600, rfl, by decide, ⟨by omega, by omega⟩, by decide, 76, rfl, by decide, ⟨by omega, by omega⟩, by decide, 76, rfl, by decide, ⟨by omega, by omega⟩, by decide, 834, rfl, by decide, ⟨by omega, by omega⟩, by decide, 834, rfl, by decide, ⟨by omega, by omega⟩, by decide, 834, rfl, by decide, ⟨by omega, by omega⟩, by decide, 2502, rfl, by decide, ⟨by omega, by omega⟩, by decide, 2480, rfl, by decide, ⟨by omega, by omega⟩, by decide, 2480, rfl, by decide, ⟨by omega, by omega⟩, by decide, 12, rfl, by decide, ⟨by omega, by omega⟩, by decide, 12, rfl, by decide, ⟨by omega, by omega⟩, by decide, 620, rfl, by decide, ⟨by omega, by omega⟩, by decide, 9, rfl, by decide, ⟨by omega, by omega⟩, by decide, 5, rfl, by decide, ⟨by omega, by omega⟩, by decide, 200, rfl, by decide, ⟨by omega, by omega⟩, by decide, 200, rfl, by decide, ⟨by omega, by omega⟩, by decide, 200, rfl, by decide, ⟨by omega, by omega⟩, by decide, 200, rfl, by decide, ⟨by omega, by omega⟩, by decide, 576, rfl, by decide, ⟨by omega, by omega⟩, by decide, 24, rfl, by decide, ⟨by omega, by omega⟩, by decide, 24, rfl, by decide, ⟨by omega, by omega⟩, by decide, ?_⟩
  refine H _ _ _ ?_ ?_ ?_ ?_ ?_ ?_
  · (repeat' first | exact smF.rf | refine smF.row (by omega) ?_ | refine smF.up (by omega) ?_)
  · (repeat' first | exact smF.rf | refine smF.row (by omega) ?_ | refine smF.up (by omega) ?_)
  · (repeat' first | exact Zf.nil | refine Zf.row ?_ | refine Zf.up (by omega) ?_)
  · simp (disch := omega) only [up_at, up_ne, up_row, row_ne]
  · intro j hj
    simp (disch := omega) only [up_ne, row_ne]
    exact hz j
  · unfold rfR
    (repeat' apply And.intro) <;> simp (disch := omega) only [up_at, up_ne, up_row, row_ne]
set_option maxRecDepth 8000 in
theorem i_X10 (h5 : 109 ≤ xc) (h6 : 6668 ≤ xs) (hz : Zo 0 hi) (H : ∀ (hi' : en_I) (hl' : en_L) (hr' : en_F), (∀ hr'' : en_F, (∀ x, x < 110 → hr'' x = hr' x) → cR 2 hr'') → Zc hi' → Zq 110 hi' → K (.inl none) hi' hl' hr') : en_Call G 100 xc xs Y_X10_init (1, true) (110, true) [.ref 0] hi hl hr K := by
  apply en_X10_init (d := 99) (wf := (110, true)) 1 (by decide) (by decide) (by decide)
  simp (disch := omega) only [B_X10_init_0, sh0, up_at, up_ne, up_row, row_ne, en_ops, en_opi, Nat.add_assoc, Nat.reduceAdd, Int.reduceAdd, iI_add, iI_le, true_and, and_true]
  refine ⟨⟨by decide, by decide⟩, 600, rfl, by decide, ⟨by omega, by omega⟩, by decide, by decide, by decide, ⟨by omega, by omega⟩, by decide, by decide, by omega, by omega, i_X3 (d := 98) (a := 2) (by decide) (by decide) (by omega) (by omega) Zo.new (fun hi1 hl1 hr1 q1 r1 z1 f1 => ?_)⟩
  have Z1 : Zq 8 hi1 := Zq.sub (by (repeat' first | exact Zq.one | refine Zq.rowge (by omega) ?_ | refine Zq.row ?_ | refine Zq.up ?_)) q1 z1
  have C1 : Zc hi1 := Zc.sub (by decide : 0 < 2) (by
    refine Zc.row (by omega) (Zc.fst ?_)
    intro j hj
    refine (Zo.up0 (Zo.row (by omega) hz)) j) q1
  have R1 : ∀ x, x < 2 → hr1 x = _ := r1
  clear q1 z1 r1
  simp (disch := omega) only [sh0, up_at, up_ne, up_row, row_ne, R1, en_ops, en_opi, Nat.add_assoc, Nat.reduceAdd, Int.reduceAdd, iI_add, iI_le, true_and, and_true]
  refine ⟨by decide, ⟨by omega, by omega⟩, by decide, by decide, by omega, by omega, i_X3 (d := 98) (a := 8) (by decide) (by decide) (by omega) (by omega) Zo.new (fun hi2 hl2 hr2 q2 r2 z2 f2 => ?_)⟩
  have Z2 : Zq 14 hi2 := Zq.sub (by (repeat' first | exact Z1 | refine Zq.rowge (by omega) ?_ | refine Zq.row ?_ | refine Zq.up ?_)) q2 z2
  have C2 : Zc hi2 := Zc.sub (by decide : 0 < 8) (by (repeat' first | exact C1 | refine Zc.row (by omega) ?_ | refine Zc.up0 (by omega) ?_)) q2
  have R2 : ∀ x, x < 8 → hr2 x = _ := r2
  clear q2 z2 r2
  simp (disch := omega) only [sh0, up_at, up_ne, up_row, row_ne, R1, R2, en_ops, en_opi, Nat.add_assoc, Nat.reduceAdd, Int.reduceAdd, iI_add, iI_le, true_and, and_true]
  refine ⟨by decide, 4, rfl, by decide, ⟨by omega, by omega⟩, by decide, by decide, 4, rfl, by decide, ⟨by omega, by omega⟩, by decide, by decide, ?_⟩
  refine s_X10_init_71 16 (by decide) (by decide) (by decide) (by decide) (by decide) _ _ _ _ _ _ _ ?_
  simp (disch := omega) only [B_X10_init_71, sh0, up_at, up_ne, up_row, row_ne, R1, R2, en_ops, en_opi, Nat.add_assoc, Nat.reduceAdd, Int.reduceAdd, iI_add, iI_le, true_and, and_true]
  refine ⟨⟨by omega, by omega⟩, by decide, by decide, by omega, by omega, i_X6 (d := 98) (a := 16) (by decide) (by decide) (by omega) (by omega) Zo.new (fun hi3 hl3 hr3 q3 r3 z3 f3 => ?_)⟩
  have Z3 : Zq 24 hi3 := Zq.sub (by (repeat' first | exact Z2 | refine Zq.rowge (by omega) ?_ | refine Zq.row ?_ | refine Zq.up ?_)) q3 z3
  have C3 : Zc hi3 := Zc.sub (by decide : 0 < 16) (by (repeat' first | exact C2 | refine Zc.row (by omega) ?_ | refine Zc.up0 (by omega) ?_)) q3
  have R3 : ∀ x, x < 16 → hr3 x = _ := r3
  clear q3 z3 r3
  simp (disch := omega) only [sh0, up_at, up_ne, up_row, row_ne, R1, R2, R3, en_ops, en_opi, Nat.add_assoc, Nat.reduceAdd, Int.reduceAdd, iI_add, iI_le, true_and, and_true]
  refine ⟨by decide, 3, rfl, by decide, ⟨by omega, by omega⟩, by decide, by decide, 4, rfl, by decide, ⟨by omega, by omega⟩, by decide, ⟨by omega, by omega⟩, by decide, by decide, by omega, by omega, i_X7 (d := 98) (a := 26) (by decide) (by decide) (by omega) (by omega) (fun hi4 hl4 hr4 q4 r4 z4 => ?_)⟩
  have Z4 : Zq 28 hi4 := Zq.sub1 (by decide) (by (repeat' first | exact Z3 | refine Zq.rowge (by omega) ?_ | refine Zq.row ?_ | refine Zq.up ?_)) q4 z4
  have C4 : Zc hi4 := Zc.sub (by decide : 0 < 26) (by (repeat' first | exact C3 | refine Zc.row (by omega) ?_ | refine Zc.up0 (by omega) ?_)) q4
  have R4 : ∀ x, x < 26 → hr4 x = _ := r4
  clear q4 z4 r4
  simp (disch := omega) only [sh0, up_at, up_ne, up_row, row_ne, R1, R2, R3, R4, en_ops, en_opi, Nat.add_assoc, Nat.reduceAdd, Int.reduceAdd, iI_add, iI_le, true_and, and_true]
  refine ⟨by decide, ⟨by omega, by omega⟩, by decide, by decide, by decide, by omega, by omega, i_X0 (d := 98) (a := 28) (by decide) (by decide) (by omega) (by omega) Zo.new (fun hi5 hl5 hr5 q5 r5 z5 f5 => ?_)⟩
  have Z5 : Zq 29 hi5 := Zq.sub (by (repeat' first | exact Z4 | refine Zq.rowge (by omega) ?_ | refine Zq.row ?_ | refine Zq.up ?_)) q5 z5
  have C5 : Zc hi5 := Zc.sub (by decide : 0 < 28) (by (repeat' first | exact C4 | refine Zc.row (by omega) ?_ | refine Zc.up0 (by omega) ?_)) q5
  have R5 : ∀ x, x < 28 → hr5 x = _ := r5
  clear q5 z5 r5
  simp (disch := omega) only [sh0, up_at, up_ne, up_row, row_ne, R1, R2, R3, R4, R5, en_ops, en_opi, Nat.add_assoc, Nat.reduceAdd, Int.reduceAdd, iI_add, iI_le, true_and, and_true]
  refine ⟨by decide, ⟨by omega, by omega⟩, by decide, by decide, by decide, by omega, by omega, i_X2 (d := 97) (a := 29) (by decide) (by decide) (by omega) (by omega) Zo.new (fun hi6 hl6 hr6 q6 r6 z6 f6 => ?_)⟩
  have Z6 : Zq 34 hi6 := Zq.sub (by (repeat' first | exact Z5 | refine Zq.rowge (by omega) ?_ | refine Zq.row ?_ | refine Zq.up ?_)) q6 z6
  have C6 : Zc hi6 := Zc.sub (by decide : 0 < 29) (by (repeat' first | exact C5 | refine Zc.row (by omega) ?_ | refine Zc.up0 (by omega) ?_)) q6
  have R6 : ∀ x, x < 29 → hr6 x = _ := r6
  clear q6 z6 r6
  simp (disch := omega) only [sh0, up_at, up_ne, up_row, row_ne, R1, R2, R3, R4, R5, R6, en_ops, en_opi, Nat.add_assoc, Nat.reduceAdd, Int.reduceAdd, iI_add, iI_le, true_and, and_true]
  refine ⟨by decide, ?_⟩
  refine s_X10_init_143 34 (by decide) (by decide) (by decide) (by decide) _ _ _ _ _ _ _ ?_
  simp (disch := omega) only [B_X10_init_143, sh0, up_at, up_ne, up_row, row_ne, R1, R2, R3, R4, R5, R6, en_ops, en_opi, Nat.add_assoc, Nat.reduceAdd, Int.reduceAdd, iI_add, iI_le, true_and, and_true]
  refine ⟨⟨by omega, by omega⟩, by decide, by decide, by decide, by omega, by omega, i_X4 (d := 98) (a := 34) (by decide) (by decide) (by omega) (by omega) Zo.new (fun hi7 hl7 hr7 q7 r7 z7 f7 => ?_)⟩
  have Z7 : Zq 38 hi7 := Zq.sub (by (repeat' first | exact Z6 | refine Zq.rowge (by omega) ?_ | refine Zq.row ?_ | refine Zq.up ?_)) q7 z7
  have C7 : Zc hi7 := Zc.sub (by decide : 0 < 34) (by (repeat' first | exact C6 | refine Zc.row (by omega) ?_ | refine Zc.up0 (by omega) ?_)) q7
  have R7 : ∀ x, x < 34 → hr7 x = _ := r7
  clear q7 z7 r7
  simp (disch := omega) only [sh0, up_at, up_ne, up_row, row_ne, R1, R2, R3, R4, R5, R6, R7, en_ops, en_opi, Nat.add_assoc, Nat.reduceAdd, Int.reduceAdd, iI_add, iI_le, true_and, and_true]
  refine ⟨by decide, ⟨by omega, by omega⟩, by decide, by decide, by decide, by omega, by omega, i_X8 (d := 97) (a := 38) (by decide) (by decide) (by omega) (by omega) (fun hi8 hl8 hr8 q8 r8 z8 f8 => ?_)⟩
  have Z8 : Zq 48 hi8 := Zq.sub1 (by decide) (by (repeat' first | exact Z7 | refine Zq.rowge (by omega) ?_ | refine Zq.row ?_ | refine Zq.up ?_)) q8 z8
  have C8 : Zc hi8 := Zc.sub (by decide : 0 < 38) (by (repeat' first | exact C7 | refine Zc.row (by omega) ?_ | refine Zc.up0 (by omega) ?_)) q8
  have R8 : ∀ x, x < 38 → hr8 x = _ := r8
  clear q8 z8 r8
  simp (disch := omega) only [sh0, up_at, up_ne, up_row, row_ne, R1, R2, R3, R4, R5, R6, R7, R8, en_ops, en_opi, Nat.add_assoc, Nat.reduceAdd, Int.reduceAdd, iI_add, iI_le, true_and, and_true]
  refine ⟨by decide, ⟨by omega, by omega⟩, by decide, by decide, by omega, by omega, i_X5 (d := 98) (a := 48) (by decide) (by decide) (by omega) (by omega) Zo.new (fun hi9 hl9 hr9 q9 r9 z9 f9 => ?_)⟩
  have Z9 : Zq 50 hi9 := Zq.sub (by (repeat' first | exact Z8 | refine Zq.rowge (by omega) ?_ | refine Zq.row ?_ | refine Zq.up ?_)) q9 z9
  have C9 : Zc hi9 := Zc.sub (by decide : 0 < 48) (by (repeat' first | exact C8 | refine Zc.row (by omega) ?_ | refine Zc.up0 (by omega) ?_)) q9
  have R9 : ∀ x, x < 48 → hr9 x = _ := r9
  clear q9 z9 r9
  simp (disch := omega) only [sh0, up_at, up_ne, up_row, row_ne, R1, R2, R3, R4, R5, R6, R7, R8, R9, en_ops, en_opi, Nat.add_assoc, Nat.reduceAdd, Int.reduceAdd, iI_add, iI_le, true_and, and_true]
  refine ⟨by decide, ?_⟩
  refine s_X10_init_186 50 (by decide) (by decide) _ _ _ _ _ _ _ ?_
  simp (disch := omega) only [B_X10_init_186, sh0, up_at, up_ne, up_row, row_ne, R1, R2, R3, R4, R5, R6, R7, R8, R9, en_ops, en_opi, Nat.add_assoc, Nat.reduceAdd, Int.reduceAdd, iI_add, iI_le, true_and, and_true]
  refine ⟨fun e => absurd e (by decide), fun _ => ?_⟩
  refine ⟨by decide, ⟨by omega, by omega⟩, by decide, by decide, by omega, by omega, i_X1 (d := 98) (a := 50) (by decide) (by decide) (by omega) (by omega) Zo.new (fun hi10 hl10 hr10 q10 r10 z10 f10 => ?_)⟩
  have Z10 : Zq 54 hi10 := Zq.sub (by (repeat' first | exact Z9 | refine Zq.rowge (by omega) ?_ | refine Zq.row ?_ | refine Zq.up ?_)) q10 z10
  have C10 : Zc hi10 := Zc.sub (by decide : 0 < 50) (by (repeat' first | exact C9 | refine Zc.row (by omega) ?_ | refine Zc.up0 (by omega) ?_)) q10
  have R10 : ∀ x, x < 50 → hr10 x = _ := r10
  clear q10 z10 r10
  simp (disch := omega) only [sh0, up_at, up_ne, up_row, row_ne, R1, R2, R3, R4, R5, R6, R7, R8, R9, R10, en_ops, en_opi, Nat.add_assoc, Nat.reduceAdd, Int.reduceAdd, iI_add, iI_le, true_and, and_true]
  refine ⟨0, rfl, by decide, ⟨by decide, by decide⟩, ⟨by decide, by decide⟩, ?_⟩
  refine s_X10_init_186 54 (by decide) (by decide) _ _ _ _ _ _ _ ?_
  simp (disch := omega) only [B_X10_init_186, sh0, up_at, up_ne, up_row, row_ne, R1, R2, R3, R4, R5, R6, R7, R8, R9, R10, en_ops, en_opi, Nat.add_assoc, Nat.reduceAdd, Int.reduceAdd, iI_add, iI_le, true_and, and_true]
  refine ⟨fun e => absurd e (by decide), fun _ => ?_⟩
  refine ⟨by decide, ⟨by omega, by omega⟩, by decide, by decide, by omega, by omega, i_X1 (d := 98) (a := 54) (by decide) (by decide) (by omega) (by omega) Zo.new (fun hi11 hl11 hr11 q11 r11 z11 f11 => ?_)⟩
  have Z11 : Zq 58 hi11 := Zq.sub (by (repeat' first | exact Z10 | refine Zq.rowge (by omega) ?_ | refine Zq.row ?_ | refine Zq.up ?_)) q11 z11
  have C11 : Zc hi11 := Zc.sub (by decide : 0 < 54) (by (repeat' first | exact C10 | refine Zc.row (by omega) ?_ | refine Zc.up0 (by omega) ?_)) q11
  have R11 : ∀ x, x < 54 → hr11 x = _ := r11
  clear q11 z11 r11
  simp (disch := omega) only [sh0, up_at, up_ne, up_row, row_ne, R1, R2, R3, R4, R5, R6, R7, R8, R9, R10, R11, en_ops, en_opi, Nat.add_assoc, Nat.reduceAdd, Int.reduceAdd, iI_add, iI_le, true_and, and_true]
  refine ⟨1, rfl, by decide, ⟨by decide, by decide⟩, ⟨by decide, by decide⟩, ?_⟩
  refine s_X10_init_186 58 (by decide) (by decide) _ _ _ _ _ _ _ ?_
  simp (disch := omega) only [B_X10_init_186, sh0, up_at, up_ne, up_row, row_ne, R1, R2, R3, R4, R5, R6, R7, R8, R9, R10, R11, en_ops, en_opi, Nat.add_assoc, Nat.reduceAdd, Int.reduceAdd, iI_add, iI_le, true_and, and_true]
  refine ⟨fun e => absurd e (by decide), fun _ => ?_⟩
  refine ⟨by decide, ⟨by omega, by omega⟩, by decide, by decide, by omega, by omega, i_X1 (d := 98) (a := 58) (by decide) (by decide) (by omega) (by omega) Zo.new (fun hi12 hl12 hr12 q12 r12 z12 f12 => ?_)⟩
  have Z12 : Zq 62 hi12 := Zq.sub (by (repeat' first | exact Z11 | refine Zq.rowge (by omega) ?_ | refine Zq.row ?_ | refine Zq.up ?_)) q12 z12
  have C12 : Zc hi12 := Zc.sub (by decide : 0 < 58) (by (repeat' first | exact C11 | refine Zc.row (by omega) ?_ | refine Zc.up0 (by omega) ?_)) q12
  have R12 : ∀ x, x < 58 → hr12 x = _ := r12
  clear q12 z12 r12
  simp (disch := omega) only [sh0, up_at, up_ne, up_row, row_ne, R1, R2, R3, R4, R5, R6, R7, R8, R9, R10, R11, R12, en_ops, en_opi, Nat.add_assoc, Nat.reduceAdd, Int.reduceAdd, iI_add, iI_le, true_and, and_true]
  refine ⟨2, rfl, by decide, ⟨by decide, by decide⟩, ⟨by decide, by decide⟩, ?_⟩
  refine s_X10_init_186 62 (by decide) (by decide) _ _ _ _ _ _ _ ?_
  simp (disch := omega) only [B_X10_init_186, sh0, up_at, up_ne, up_row, row_ne, R1, R2, R3, R4, R5, R6, R7, R8, R9, R10, R11, R12, en_ops, en_opi, Nat.add_assoc, Nat.reduceAdd, Int.reduceAdd, iI_add, iI_le, true_and, and_true]
  refine ⟨fun e => absurd e (by decide), fun _ => ?_⟩
  refine ⟨by decide, ⟨by omega, by omega⟩, by decide, by decide, by omega, by omega, i_X1 (d := 98) (a := 62) (by decide) (by decide) (by omega) (by omega) Zo.new (fun hi13 hl13 hr13 q13 r13 z13 f13 => ?_)⟩
  have Z13 : Zq 66 hi13 := Zq.sub (by (repeat' first | exact Z12 | refine Zq.rowge (by omega) ?_ | refine Zq.row ?_ | refine Zq.up ?_)) q13 z13
  have C13 : Zc hi13 := Zc.sub (by decide : 0 < 62) (by (repeat' first | exact C12 | refine Zc.row (by omega) ?_ | refine Zc.up0 (by omega) ?_)) q13
  have R13 : ∀ x, x < 62 → hr13 x = _ := r13
  clear q13 z13 r13
  simp (disch := omega) only [sh0, up_at, up_ne, up_row, row_ne, R1, R2, R3, R4, R5, R6, R7, R8, R9, R10, R11, R12, R13, en_ops, en_opi, Nat.add_assoc, Nat.reduceAdd, Int.reduceAdd, iI_add, iI_le, true_and, and_true]
  refine ⟨3, rfl, by decide, ⟨by decide, by decide⟩, ⟨by decide, by decide⟩, ?_⟩
  refine s_X10_init_186x 66 (by decide) _ _ _ _ _ _ _ ?_
  simp (disch := omega) only [B_X10_init_186x, sh0, up_at, up_ne, up_row, row_ne, R1, R2, R3, R4, R5, R6, R7, R8, R9, R10, R11, R12, R13, en_ops, en_opi, Nat.add_assoc, Nat.reduceAdd, Int.reduceAdd, iI_add, iI_le, true_and, and_true]
  refine ⟨fun _ => ?_, fun e => (e (by decide)).elim⟩
  refine s_X10_init_212 66 (by decide) (by decide) _ _ _ _ _ _ _ ?_
  simp (disch := omega) only [B_X10_init_212, sh0, up_at, up_ne, up_row, row_ne, R1, R2, R3, R4, R5, R6, R7, R8, R9, R10, R11, R12, R13, en_ops, en_opi, Nat.add_assoc, Nat.reduceAdd, Int.reduceAdd, iI_add, iI_le, true_and, and_true]
  refine ⟨fun e => absurd e (by decide), fun _ => ?_⟩
  refine ⟨by decide, ⟨by omega, by omega⟩, by decide, by decide, by omega, by omega, i_X9 (d := 98) (a := 66) (by decide) (by decide) (by omega) (by omega) Zo.new (fun hi14 hl14 hr14 q14 r14 z14 f14 => ?_)⟩
  have Z14 : Zq 71 hi14 := Zq.sub (by (repeat' first | exact Z13 | refine Zq.rowge (by omega) ?_ | refine Zq.row ?_ | refine Zq.up ?_)) q14 z14
  have C14 : Zc hi14 := Zc.sub (by decide : 0 < 66) (by (repeat' first | exact C13 | refine Zc.row (by omega) ?_ | refine Zc.up0 (by omega) ?_)) q14
  have R14 : ∀ x, x < 66 → hr14 x = _ := r14
  clear q14 z14 r14
  simp (disch := omega) only [sh0, up_at, up_ne, up_row, row_ne, R1, R2, R3, R4, R5, R6, R7, R8, R9, R10, R11, R12, R13, R14, en_ops, en_opi, Nat.add_assoc, Nat.reduceAdd, Int.reduceAdd, iI_add, iI_le, true_and, and_true]
  refine ⟨0, rfl, by decide, ⟨by decide, by decide⟩, ⟨by decide, by decide⟩, ?_⟩
  refine s_X10_init_212 71 (by decide) (by decide) _ _ _ _ _ _ _ ?_
  simp (disch := omega) only [B_X10_init_212, sh0, up_at, up_ne, up_row, row_ne, R1, R2, R3, R4, R5, R6, R7, R8, R9, R10, R11, R12, R13, R14, en_ops, en_opi, Nat.add_assoc, Nat.reduceAdd, Int.reduceAdd, iI_add, iI_le, true_and, and_true]
  refine ⟨fun e => absurd e (by decide), fun _ => ?_⟩
  refine ⟨by decide, ⟨by omega, by omega⟩, by decide, by decide, by omega, by omega, i_X9 (d := 98) (a := 71) (by decide) (by decide) (by omega) (by omega) Zo.new (fun hi15 hl15 hr15 q15 r15 z15 f15 => ?_)⟩
  have Z15 : Zq 76 hi15 := Zq.sub (by (repeat' first | exact Z14 | refine Zq.rowge (by omega) ?_ | refine Zq.row ?_ | refine Zq.up ?_)) q15 z15
  have C15 : Zc hi15 := Zc.sub (by decide : 0 < 71) (by (repeat' first | exact C14 | refine Zc.row (by omega) ?_ | refine Zc.up0 (by omega) ?_)) q15
  have R15 : ∀ x, x < 71 → hr15 x = _ := r15
  clear q15 z15 r15
  simp (disch := omega) only [sh0, up_at, up_ne, up_row, row_ne, R1, R2, R3, R4, R5, R6, R7, R8, R9, R10, R11, R12, R13, R14, R15, en_ops, en_opi, Nat.add_assoc, Nat.reduceAdd, Int.reduceAdd, iI_add, iI_le, true_and, and_true]
  refine ⟨1, rfl, by decide, ⟨by decide, by decide⟩, ⟨by decide, by decide⟩, ?_⟩
  refine s_X10_init_212 76 (by decide) (by decide) _ _ _ _ _ _ _ ?_
  simp (disch := omega) only [B_X10_init_212, sh0, up_at, up_ne, up_row, row_ne, R1, R2, R3, R4, R5, R6, R7, R8, R9, R10, R11, R12, R13, R14, R15, en_ops, en_opi, Nat.add_assoc, Nat.reduceAdd, Int.reduceAdd, iI_add, iI_le, true_and, and_true]
  refine ⟨fun e => absurd e (by decide), fun _ => ?_⟩
  refine ⟨by decide, ⟨by omega, by omega⟩, by decide, by decide, by omega, by omega, i_X9 (d := 98) (a := 76) (by decide) (by decide) (by omega) (by omega) Zo.new (fun hi16 hl16 hr16 q16 r16 z16 f16 => ?_)⟩
  have Z16 : Zq 81 hi16 := Zq.sub (by (repeat' first | exact Z15 | refine Zq.rowge (by omega) ?_ | refine Zq.row ?_ | refine Zq.up ?_)) q16 z16
  have C16 : Zc hi16 := Zc.sub (by decide : 0 < 76) (by (repeat' first | exact C15 | refine Zc.row (by omega) ?_ | refine Zc.up0 (by omega) ?_)) q16
  have R16 : ∀ x, x < 76 → hr16 x = _ := r16
  clear q16 z16 r16
  simp (disch := omega) only [sh0, up_at, up_ne, up_row, row_ne, R1, R2, R3, R4, R5, R6, R7, R8, R9, R10, R11, R12, R13, R14, R15, R16, en_ops, en_opi, Nat.add_assoc, Nat.reduceAdd, Int.reduceAdd, iI_add, iI_le, true_and, and_true]
  refine ⟨2, rfl, by decide, ⟨by decide, by decide⟩, ⟨by decide, by decide⟩, ?_⟩
  refine s_X10_init_212 81 (by decide) (by decide) _ _ _ _ _ _ _ ?_
  simp (disch := omega) only [B_X10_init_212, sh0, up_at, up_ne, up_row, row_ne, R1, R2, R3, R4, R5, R6, R7, R8, R9, R10, R11, R12, R13, R14, R15, R16, en_ops, en_opi, Nat.add_assoc, Nat.reduceAdd, Int.reduceAdd, iI_add, iI_le, true_and, and_true]
  refine ⟨fun e => absurd e (by decide), fun _ => ?_⟩
  refine ⟨by decide, ⟨by omega, by omega⟩, by decide, by decide, by omega, by omega, i_X9 (d := 98) (a := 81) (by decide) (by decide) (by omega) (by omega) Zo.new (fun hi17 hl17 hr17 q17 r17 z17 f17 => ?_)⟩
  have Z17 : Zq 86 hi17 := Zq.sub (by (repeat' first | exact Z16 | refine Zq.rowge (by omega) ?_ | refine Zq.row ?_ | refine Zq.up ?_)) q17 z17
  have C17 : Zc hi17 := Zc.sub (by decide : 0 < 81) (by (repeat' first | exact C16 | refine Zc.row (by omega) ?_ | refine Zc.up0 (by omega) ?_)) q17
  have R17 : ∀ x, x < 81 → hr17 x = _ := r17
  clear q17 z17 r17
  simp (disch := omega) only [sh0, up_at, up_ne, up_row, row_ne, R1, R2, R3, R4, R5, R6, R7, R8, R9, R10, R11, R12, R13, R14, R15, R16, R17, en_ops, en_opi, Nat.add_assoc, Nat.reduceAdd, Int.reduceAdd, iI_add, iI_le, true_and, and_true]
  refine ⟨3, rfl, by decide, ⟨by decide, by decide⟩, ⟨by decide, by decide⟩, ?_⟩
  refine s_X10_init_212x 86 (by decide) _ _ _ _ _ _ _ ?_
  simp (disch := omega) only [B_X10_init_212x, sh0, up_at, up_ne, up_row, row_ne, R1, R2, R3, R4, R5, R6, R7, R8, R9, R10, R11, R12, R13, R14, R15, R16, R17, en_ops, en_opi, Nat.add_assoc, Nat.reduceAdd, Int.reduceAdd, iI_add, iI_le, true_and, and_true]
  refine ⟨fun _ => ?_, fun e => (e (by decide)).elim⟩
  refine s_X10_init_238 86 (by decide) (by decide) _ _ _ _ _ _ _ ?_
  simp (disch := omega) only [B_X10_init_238, sh0, up_at, up_ne, up_row, row_ne, R1, R2, R3, R4, R5, R6, R7, R8, R9, R10, R11, R12, R13, R14, R15, R16, R17, en_ops, en_opi, Nat.add_assoc, Nat.reduceAdd, Int.reduceAdd, iI_add, iI_le, true_and, and_true]
  refine ⟨fun e => absurd e (by decide), fun _ => ?_⟩
  refine ⟨by decide, ⟨by omega, by omega⟩, by decide, by decide, by omega, by omega, i_X6 (d := 98) (a := 86) (by decide) (by decide) (by omega) (by omega) Zo.new (fun hi18 hl18 hr18 q18 r18 z18 f18 => ?_)⟩
  have Z18 : Zq 94 hi18 := Zq.sub (by (repeat' first | exact Z17 | refine Zq.rowge (by omega) ?_ | refine Zq.row ?_ | refine Zq.up ?_)) q18 z18
  have C18 : Zc hi18 := Zc.sub (by decide : 0 < 86) (by (repeat' first | exact C17 | refine Zc.row (by omega) ?_ | refine Zc.up0 (by omega) ?_)) q18
  have R18 : ∀ x, x < 86 → hr18 x = _ := r18
  clear q18 z18 r18
  simp (disch := omega) only [sh0, up_at, up_ne, up_row, row_ne, R1, R2, R3, R4, R5, R6, R7, R8, R9, R10, R11, R12, R13, R14, R15, R16, R17, R18, en_ops, en_opi, Nat.add_assoc, Nat.reduceAdd, Int.reduceAdd, iI_add, iI_le, true_and, and_true]
  refine ⟨0, rfl, by decide, ⟨by decide, by decide⟩, ⟨by decide, by decide⟩, ?_⟩
  refine s_X10_init_238 94 (by decide) (by decide) _ _ _ _ _ _ _ ?_
  simp (disch := omega) only [B_X10_init_238, sh0, up_at, up_ne, up_row, row_ne, R1, R2, R3, R4, R5, R6, R7, R8, R9, R10, R11, R12, R13, R14, R15, R16, R17, R18, en_ops, en_opi, Nat.add_assoc, Nat.reduceAdd, Int.reduceAdd, iI_add, iI_le, true_and, and_true]
  refine ⟨fun e => absurd e (by decide), fun _ => ?_⟩
  refine ⟨by decide, ⟨by omega, by omega⟩, by decide, by decide, by omega, by omega, i_X6 (d := 98) (a := 94) (by decide) (by decide) (by omega) (by omega) Zo.new (fun hi19 hl19 hr19 q19 r19 z19 f19 => ?_)⟩
  have Z19 : Zq 102 hi19 := Zq.sub (by (repeat' first | exact Z18 | refine Zq.rowge (by omega) ?_ | refine Zq.row ?_ | refine Zq.up ?_)) q19 z19
  have C19 : Zc hi19 := Zc.sub (by decide : 0 < 94) (by (repeat' first | exact C18 | refine Zc.row (by omega) ?_ | refine Zc.up0 (by omega) ?_)) q19
  have R19 : ∀ x, x < 94 → hr19 x = _ := r19
  clear q19 z19 r19
  simp (disch := omega) only [sh0, up_at, up_ne, up_row, row_ne, R1, R2, R3, R4, R5, R6, R7, R8, R9, R10, R11, R12, R13, R14, R15, R16, R17, R18, R19, en_ops, en_opi, Nat.add_assoc, Nat.reduceAdd, Int.reduceAdd, iI_add, iI_le, true_and, and_true]
  refine ⟨1, rfl, by decide, ⟨by decide, by decide⟩, ⟨by decide, by decide⟩, ?_⟩
  refine s_X10_init_238 102 (by decide) (by decide) _ _ _ _ _ _ _ ?_
  simp (disch := omega) only [B_X10_init_238, sh0, up_at, up_ne, up_row, row_ne, R1, R2, R3, R4, R5, R6, R7, R8, R9, R10, R11, R12, R13, R14, R15, R16, R17, R18, R19, en_ops, en_opi, Nat.add_assoc, Nat.reduceAdd, Int.reduceAdd, iI_add, iI_le, true_and, and_true]
  refine ⟨fun e => absurd e (by decide), fun _ => ?_⟩
  refine ⟨by decide, ⟨by omega, by omega⟩, by decide, by decide, by omega, by omega, i_X6 (d := 98) (a := 102) (by decide) (by decide) (by omega) (by omega) Zo.new (fun hi20 hl20 hr20 q20 r20 z20 f20 => ?_)⟩
  have Z20 : Zq 110 hi20 := Zq.sub (by (repeat' first | exact Z19 | refine Zq.rowge (by omega) ?_ | refine Zq.row ?_ | refine Zq.up ?_)) q20 z20
  have C20 : Zc hi20 := Zc.sub (by decide : 0 < 102) (by (repeat' first | exact C19 | refine Zc.row (by omega) ?_ | refine Zc.up0 (by omega) ?_)) q20
  have R20 : ∀ x, x < 102 → hr20 x = _ := r20
  clear q20 z20 r20
  simp (disch := omega) only [sh0, up_at, up_ne, up_row, row_ne, R1, R2, R3, R4, R5, R6, R7, R8, R9, R10, R11, R12, R13, R14, R15, R16, R17, R18, R19, R20, en_ops, en_opi, Nat.add_assoc, Nat.reduceAdd, Int.reduceAdd, iI_add, iI_le, true_and, and_true]
  refine ⟨2, rfl, by decide, ⟨by decide, by decide⟩, ⟨by decide, by decide⟩, ?_⟩
  refine s_X10_init_238x 110 (by decide) _ _ _ _ _ _ _ ?_
  simp (disch := omega) only [B_X10_init_238x, sh0, up_at, up_ne, up_row, row_ne, R1, R2, R3, R4, R5, R6, R7, R8, R9, R10, R11, R12, R13, R14, R15, R16, R17, R18, R19, R20, en_ops, en_opi, Nat.add_assoc, Nat.reduceAdd, Int.reduceAdd, iI_add, iI_le, true_and, and_true]
  refine ⟨fun _ => ?_, fun e => (e (by decide)).elim⟩
  obtain ⟨f1_0, f1_1, f1_2, f1_3, f1_4⟩ := f1
  obtain ⟨f2_0, f2_1, f2_2, f2_3, f2_4⟩ := f2
  obtain ⟨f3_0, f3_1, f3_2, f3_3, f3_4, f3_5, f3_6⟩ := f3
  obtain ⟨f7_0, f7_1, f7_2, f7_3⟩ := f7
  obtain ⟨f8_0, f8_1, f8_2, f8_3, f8_4, f8_5, f8_6, f8_7, f8_8, f8_9⟩ := f8
  obtain ⟨f10_0, f10_1, f10_2⟩ := f10
  obtain ⟨f11_0, f11_1, f11_2⟩ := f11
  obtain ⟨f12_0, f12_1, f12_2⟩ := f12
  obtain ⟨f13_0, f13_1, f13_2⟩ := f13
  obtain ⟨f14_0, f14_1, f14_2, f14_3⟩ := f14
  obtain ⟨f15_0, f15_1, f15_2, f15_3⟩ := f15
  obtain ⟨f16_0, f16_1, f16_2, f16_3⟩ := f16
  obtain ⟨f17_0, f17_1, f17_2, f17_3⟩ := f17
  obtain ⟨f18_0, f18_1, f18_2, f18_3, f18_4, f18_5, f18_6⟩ := f18
  obtain ⟨f19_0, f19_1, f19_2, f19_3, f19_4, f19_5, f19_6⟩ := f19
  obtain ⟨f20_0, f20_1, f20_2, f20_3, f20_4, f20_5, f20_6⟩ := f20
  refine H _ _ _ ?_ ?_ ?_
  · intro hr99 R99
    unfold cR sxS seR plR trR shR lwX lwR yeR isPl
    refine ⟨?_, ⟨?_, ?_, Or.inl rfl, ?_⟩, ?_, ?_, ?_, fun i hi9 => ?_, fun i hi9 => ?_, fun i hi9 => ?_, ?_, ?_, ?_⟩
    · (repeat' apply And.intro) <;> simp (disch := omega) only [up_at, up_ne, up_row, row_ne, R99, R1, R2, R3, R4, R5, R6, R7, R8, R9, R10, R11, R12, R13, R14, R15, R16, R17, R18, R19, R20, f1_0, f1_1, f1_2, f1_3, f1_4, f2_0, f2_1, f2_2, f2_3, f2_4, f3_0, f3_1, f3_2, f3_3, f3_4, f3_5, f3_6, f5, f6, f7_0, f7_1, f7_2, f7_3, f8_0, f8_1, f8_2, f8_3, f8_4, f8_5, f8_6, f8_7, f8_8, f8_9, f9, f10_0, f10_1, f10_2, f11_0, f11_1, f11_2, f12_0, f12_1, f12_2, f13_0, f13_1, f13_2, f14_0, f14_1, f14_2, f14_3, f15_0, f15_1, f15_2, f15_3, f16_0, f16_1, f16_2, f16_3, f17_0, f17_1, f17_2, f17_3, f18_0, f18_1, f18_2, f18_3, f18_4, f18_5, f18_6, f19_0, f19_1, f19_2, f19_3, f19_4, f19_5, f19_6, f20_0, f20_1, f20_2, f20_3, f20_4, f20_5, f20_6, Nat.reduceAdd, Nat.reduceMul, Nat.reduceSub]
    · (repeat' apply And.intro) <;> simp (disch := omega) only [up_at, up_ne, up_row, row_ne, R99, R1, R2, R3, R4, R5, R6, R7, R8, R9, R10, R11, R12, R13, R14, R15, R16, R17, R18, R19, R20, f1_0, f1_1, f1_2, f1_3, f1_4, f2_0, f2_1, f2_2, f2_3, f2_4, f3_0, f3_1, f3_2, f3_3, f3_4, f3_5, f3_6, f5, f6, f7_0, f7_1, f7_2, f7_3, f8_0, f8_1, f8_2, f8_3, f8_4, f8_5, f8_6, f8_7, f8_8, f8_9, f9, f10_0, f10_1, f10_2, f11_0, f11_1, f11_2, f12_0, f12_1, f12_2, f13_0, f13_1, f13_2, f14_0, f14_1, f14_2, f14_3, f15_0, f15_1, f15_2, f15_3, f16_0, f16_1, f16_2, f16_3, f17_0, f17_1, f17_2, f17_3, f18_0, f18_1, f18_2, f18_3, f18_4, f18_5, f18_6, f19_0, f19_1, f19_2, f19_3, f19_4, f19_5, f19_6, f20_0, f20_1, f20_2, f20_3, f20_4, f20_5, f20_6, Nat.reduceAdd, Nat.reduceMul, Nat.reduceSub]
    · (repeat' apply And.intro) <;> simp (disch := omega) only [up_at, up_ne, up_row, row_ne, R99, R1, R2, R3, R4, R5, R6, R7, R8, R9, R10, R11, R12, R13, R14, R15, R16, R17, R18, R19, R20, f1_0, f1_1, f1_2, f1_3, f1_4, f2_0, f2_1, f2_2, f2_3, f2_4, f3_0, f3_1, f3_2, f3_3, f3_4, f3_5, f3_6, f5, f6, f7_0, f7_1, f7_2, f7_3, f8_0, f8_1, f8_2, f8_3, f8_4, f8_5, f8_6, f8_7, f8_8, f8_9, f9, f10_0, f10_1, f10_2, f11_0, f11_1, f11_2, f12_0, f12_1, f12_2, f13_0, f13_1, f13_2, f14_0, f14_1, f14_2, f14_3, f15_0, f15_1, f15_2, f15_3, f16_0, f16_1, f16_2, f16_3, f17_0, f17_1, f17_2, f17_3, f18_0, f18_1, f18_2, f18_3, f18_4, f18_5, f18_6, f19_0, f19_1, f19_2, f19_3, f19_4, f19_5, f19_6, f20_0, f20_1, f20_2, f20_3, f20_4, f20_5, f20_6, Nat.reduceAdd, Nat.reduceMul, Nat.reduceSub]
    · (repeat' apply And.intro) <;> simp (disch := omega) only [up_at, up_ne, up_row, row_ne, R99, R1, R2, R3, R4, R5, R6, R7, R8, R9, R10, R11, R12, R13, R14, R15, R16, R17, R18, R19, R20, f1_0, f1_1, f1_2, f1_3, f1_4, f2_0, f2_1, f2_2, f2_3, f2_4, f3_0, f3_1, f3_2, f3_3, f3_4, f3_5, f3_6, f5, f6, f7_0, f7_1, f7_2, f7_3, f8_0, f8_1, f8_2, f8_3, f8_4, f8_5, f8_6, f8_7, f8_8, f8_9, f9, f10_0, f10_1, f10_2, f11_0, f11_1, f11_2, f12_0, f12_1, f12_2, f13_0, f13_1, f13_2, f14_0, f14_1, f14_2, f14_3, f15_0, f15_1, f15_2, f15_3, f16_0, f16_1, f16_2, f16_3, f17_0, f17_1, f17_2, f17_3, f18_0, f18_1, f18_2, f18_3, f18_4, f18_5, f18_6, f19_0, f19_1, f19_2, f19_3, f19_4, f19_5, f19_6, f20_0, f20_1, f20_2, f20_3, f20_4, f20_5, f20_6, Nat.reduceAdd, Nat.reduceMul, Nat.reduceSub]
    · (repeat' apply And.intro) <;> simp (disch := omega) only [up_at, up_ne, up_row, row_ne, R99, R1, R2, R3, R4, R5, R6, R7, R8, R9, R10, R11, R12, R13, R14, R15, R16, R17, R18, R19, R20, f1_0, f1_1, f1_2, f1_3, f1_4, f2_0, f2_1, f2_2, f2_3, f2_4, f3_0, f3_1, f3_2, f3_3, f3_4, f3_5, f3_6, f5, f6, f7_0, f7_1, f7_2, f7_3, f8_0, f8_1, f8_2, f8_3, f8_4, f8_5, f8_6, f8_7, f8_8, f8_9, f9, f10_0, f10_1, f10_2, f11_0, f11_1, f11_2, f12_0, f12_1, f12_2, f13_0, f13_1, f13_2, f14_0, f14_1, f14_2, f14_3, f15_0, f15_1, f15_2, f15_3, f16_0, f16_1, f16_2, f16_3, f17_0, f17_1, f17_2, f17_3, f18_0, f18_1, f18_2, f18_3, f18_4, f18_5, f18_6, f19_0, f19_1, f19_2, f19_3, f19_4, f19_5, f19_6, f20_0, f20_1, f20_2, f20_3, f20_4, f20_5, f20_6, Nat.reduceAdd, Nat.reduceMul, Nat.reduceSub]
    · (repeat' apply And.intro) <;> simp (disch := omega) only [up_at, up_ne, up_row, row_ne, R99, R1, R2, R3, R4, R5, R6, R7, R8, R9, R10, R11, R12, R13, R14, R15, R16, R17, R18, R19, R20, f1_0, f1_1, f1_2, f1_3, f1_4, f2_0, f2_1, f2_2, f2_3, f2_4, f3_0, f3_1, f3_2, f3_3, f3_4, f3_5, f3_6, f5, f6, f7_0, f7_1, f7_2, f7_3, f8_0, f8_1, f8_2, f8_3, f8_4, f8_5, f8_6, f8_7, f8_8, f8_9, f9, f10_0, f10_1, f10_2, f11_0, f11_1, f11_2, f12_0, f12_1, f12_2, f13_0, f13_1, f13_2, f14_0, f14_1, f14_2, f14_3, f15_0, f15_1, f15_2, f15_3, f16_0, f16_1, f16_2, f16_3, f17_0, f17_1, f17_2, f17_3, f18_0, f18_1, f18_2, f18_3, f18_4, f18_5, f18_6, f19_0, f19_1, f19_2, f19_3, f19_4, f19_5, f19_6, f20_0, f20_1, f20_2, f20_3, f20_4, f20_5, f20_6, Nat.reduceAdd, Nat.reduceMul, Nat.reduceSub]
    · (repeat' apply And.intro) <;> simp (disch := omega) only [up_at, up_ne, up_row, row_ne, R99, R1, R2, R3, R4, R5, R6, R7, R8, R9, R10, R11, R12, R13, R14, R15, R16, R17, R18, R19, R20, f1_0, f1_1, f1_2, f1_3, f1_4, f2_0, f2_1, f2_2, f2_3, f2_4, f3_0, f3_1, f3_2, f3_3, f3_4, f3_5, f3_6, f5, f6, f7_0, f7_1, f7_2, f7_3, f8_0, f8_1, f8_2, f8_3, f8_4, f8_5, f8_6, f8_7, f8_8, f8_9, f9, f10_0, f10_1, f10_2, f11_0, f11_1, f11_2, f12_0, f12_1, f12_2, f13_0, f13_1, f13_2, f14_0, f14_1, f14_2, f14_3, f15_0, f15_1, f15_2, f15_3, f16_0, f16_1, f16_2, f16_3, f17_0, f17_1, f17_2, f17_3, f18_0, f18_1, f18_2, f18_3, f18_4, f18_5, f18_6, f19_0, f19_1, f19_2, f19_3, f19_4, f19_5, f19_6, f20_0, f20_1, f20_2, f20_3, f20_4, f20_5, f20_6, Nat.reduceAdd, Nat.reduceMul, Nat.reduceSub]
    · rcases (show i = 0 ∨ i = 1 ∨ i = 2 by omega) with rfl | rfl | rfl <;> (repeat' apply And.intro) <;> simp (disch := omega) only [up_at, up_ne, up_row, row_ne, R99, R1, R2, R3, R4, R5, R6, R7, R8, R9, R10, R11, R12, R13, R14, R15, R16, R17, R18, R19, R20, f1_0, f1_1, f1_2, f1_3, f1_4, f2_0, f2_1, f2_2, f2_3, f2_4, f3_0, f3_1, f3_2, f3_3, f3_4, f3_5, f3_6, f5, f6, f7_0, f7_1, f7_2, f7_3, f8_0, f8_1, f8_2, f8_3, f8_4, f8_5, f8_6, f8_7, f8_8, f8_9, f9, f10_0, f10_1, f10_2, f11_0, f11_1, f11_2, f12_0, f12_1, f12_2, f13_0, f13_1, f13_2, f14_0, f14_1, f14_2, f14_3, f15_0, f15_1, f15_2, f15_3, f16_0, f16_1, f16_2, f16_3, f17_0, f17_1, f17_2, f17_3, f18_0, f18_1, f18_2, f18_3, f18_4, f18_5, f18_6, f19_0, f19_1, f19_2, f19_3, f19_4, f19_5, f19_6, f20_0, f20_1, f20_2, f20_3, f20_4, f20_5, f20_6, Nat.reduceAdd, Nat.reduceMul, Nat.reduceSub]
    · rcases (show i = 0 ∨ i = 1 ∨ i = 2 ∨ i = 3 by omega) with rfl | rfl | rfl | rfl <;> (repeat' apply And.intro) <;> simp (disch := omega) only [up_at, up_ne, up_row, row_ne, R99, R1, R2, R3, R4, R5, R6, R7, R8, R9, R10, R11, R12, R13, R14, R15, R16, R17, R18, R19, R20, f1_0, f1_1, f1_2, f1_3, f1_4, f2_0, f2_1, f2_2, f2_3, f2_4, f3_0, f3_1, f3_2, f3_3, f3_4, f3_5, f3_6, f5, f6, f7_0, f7_1, f7_2, f7_3, f8_0, f8_1, f8_2, f8_3, f8_4, f8_5, f8_6, f8_7, f8_8, f8_9, f9, f10_0, f10_1, f10_2, f11_0, f11_1, f11_2, f12_0, f12_1, f12_2, f13_0, f13_1, f13_2, f14_0, f14_1, f14_2, f14_3, f15_0, f15_1, f15_2, f15_3, f16_0, f16_1, f16_2, f16_3, f17_0, f17_1, f17_2, f17_3, f18_0, f18_1, f18_2, f18_3, f18_4, f18_5, f18_6, f19_0, f19_1, f19_2, f19_3, f19_4, f19_5, f19_6, f20_0, f20_1, f20_2, f20_3, f20_4, f20_5, f20_6, Nat.reduceAdd, Nat.reduceMul, Nat.reduceSub]
    · rcases (show i = 0 ∨ i = 1 ∨ i = 2 ∨ i = 3 by omega) with rfl | rfl | rfl | rfl <;> (repeat' apply And.intro) <;> simp (disch := omega) only [up_at, up_ne, up_row, row_ne, R99, R1, R2, R3, R4, R5, R6, R7, R8, R9, R10, R11, R12, R13, R14, R15, R16, R17, R18, R19, R20, f1_0, f1_1, f1_2, f1_3, f1_4, f2_0, f2_1, f2_2, f2_3, f2_4, f3_0, f3_1, f3_2, f3_3, f3_4, f3_5, f3_6, f5, f6, f7_0, f7_1, f7_2, f7_3, f8_0, f8_1, f8_2, f8_3, f8_4, f8_5, f8_6, f8_7, f8_8, f8_9, f9, f10_0, f10_1, f10_2, f11_0, f11_1, f11_2, f12_0, f12_1, f12_2, f13_0, f13_1, f13_2, f14_0, f14_1, f14_2, f14_3, f15_0, f15_1, f15_2, f15_3, f16_0, f16_1, f16_2, f16_3, f17_0, f17_1, f17_2, f17_3, f18_0, f18_1, f18_2, f18_3, f18_4, f18_5, f18_6, f19_0, f19_1, f19_2, f19_3, f19_4, f19_5, f19_6, f20_0, f20_1, f20_2, f20_3, f20_4, f20_5, f20_6, Nat.reduceAdd, Nat.reduceMul, Nat.reduceSub]
    · (repeat' apply And.intro) <;> simp (disch := omega) only [up_at, up_ne, up_row, row_ne, R99, R1, R2, R3, R4, R5, R6, R7, R8, R9, R10, R11, R12, R13, R14, R15, R16, R17, R18, R19, R20, f1_0, f1_1, f1_2, f1_3, f1_4, f2_0, f2_1, f2_2, f2_3, f2_4, f3_0, f3_1, f3_2, f3_3, f3_4, f3_5, f3_6, f5, f6, f7_0, f7_1, f7_2, f7_3, f8_0, f8_1, f8_2, f8_3, f8_4, f8_5, f8_6, f8_7, f8_8, f8_9, f9, f10_0, f10_1, f10_2, f11_0, f11_1, f11_2, f12_0, f12_1, f12_2, f13_0, f13_1, f13_2, f14_0, f14_1, f14_2, f14_3, f15_0, f15_1, f15_2, f15_3, f16_0, f16_1, f16_2, f16_3, f17_0, f17_1, f17_2, f17_3, f18_0, f18_1, f18_2, f18_3, f18_4, f18_5, f18_6, f19_0, f19_1, f19_2, f19_3, f19_4, f19_5, f19_6, f20_0, f20_1, f20_2, f20_3, f20_4, f20_5, f20_6, Nat.reduceAdd, Nat.reduceMul, Nat.reduceSub]
    · (repeat' apply And.intro) <;> simp (disch := omega) only [up_at, up_ne, up_row, row_ne, R99, R1, R2, R3, R4, R5, R6, R7, R8, R9, R10, R11, R12, R13, R14, R15, R16, R17, R18, R19, R20, f1_0, f1_1, f1_2, f1_3, f1_4, f2_0, f2_1, f2_2, f2_3, f2_4, f3_0, f3_1, f3_2, f3_3, f3_4, f3_5, f3_6, f5, f6, f7_0, f7_1, f7_2, f7_3, f8_0, f8_1, f8_2, f8_3, f8_4, f8_5, f8_6, f8_7, f8_8, f8_9, f9, f10_0, f10_1, f10_2, f11_0, f11_1, f11_2, f12_0, f12_1, f12_2, f13_0, f13_1, f13_2, f14_0, f14_1, f14_2, f14_3, f15_0, f15_1, f15_2, f15_3, f16_0, f16_1, f16_2, f16_3, f17_0, f17_1, f17_2, f17_3, f18_0, f18_1, f18_2, f18_3, f18_4, f18_5, f18_6, f19_0, f19_1, f19_2, f19_3, f19_4, f19_5, f19_6, f20_0, f20_1, f20_2, f20_3, f20_4, f20_5, f20_6, Nat.reduceAdd, Nat.reduceMul, Nat.reduceSub]
    · (repeat' apply And.intro) <;> simp (disch := omega) only [up_at, up_ne, up_row, row_ne, R99, R1, R2, R3, R4, R5, R6, R7, R8, R9, R10, R11, R12, R13, R14, R15, R16, R17, R18, R19, R20, f1_0, f1_1, f1_2, f1_3, f1_4, f2_0, f2_1, f2_2, f2_3, f2_4, f3_0, f3_1, f3_2, f3_3, f3_4, f3_5, f3_6, f5, f6, f7_0, f7_1, f7_2, f7_3, f8_0, f8_1, f8_2, f8_3, f8_4, f8_5, f8_6, f8_7, f8_8, f8_9, f9, f10_0, f10_1, f10_2, f11_0, f11_1, f11_2, f12_0, f12_1, f12_2, f13_0, f13_1, f13_2, f14_0, f14_1, f14_2, f14_3, f15_0, f15_1, f15_2, f15_3, f16_0, f16_1, f16_2, f16_3, f17_0, f17_1, f17_2, f17_3, f18_0, f18_1, f18_2, f18_3, f18_4, f18_5, f18_6, f19_0, f19_1, f19_2, f19_3, f19_4, f19_5, f19_6, f20_0, f20_1, f20_2, f20_3, f20_4, f20_5, f20_6, Nat.reduceAdd, Nat.reduceMul, Nat.reduceSub]
  · (repeat' first | exact C20 | refine Zc.row (by omega) ?_ | refine Zc.up0 (by omega) ?_)
  · (repeat' first | exact Z20 | refine Zq.rowge (by omega) ?_ | refine Zq.row ?_ | refine Zq.up ?_)
end
