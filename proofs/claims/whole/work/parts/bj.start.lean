/-! what the Statement gives of the start -/
/-- what is said of a String constant -/
def sAt (cls : String) (k : Nat) (bs : List Int32) : List Cond := Cond.exactly (.string cls k) "java/lang/String" :: Cond.eq (.field (.string cls k) "java/lang/String" "coder" "B") (.int 0) :: Cond.arrayOf (.field (.string cls k) "java/lang/String" "value" "[B") .byte :: Cond.eq (.length (.field (.string cls k) "java/lang/String" "value" "[B")) (.int (Int32.ofNat bs.length)) :: (List.range bs.length).map (fun j => Cond.eq (.elem (.field (.string cls k) "java/lang/String" "value" "[B") (.int (Int32.ofNat j))) (.int (bs.getD j 0)))
def sFl : List Cond := flatC (Cond.and given_1 narrow_1)
def sPos : List Nat := [122, 166, 175, 184, 192, 201, 209, 219, 228, 236, 244, 252, 258, 265, 272, 278, 286, 294, 302, 311, 320, 329, 339, 347, 355, 365, 373, 381, 390, 406, 421, 465, 481, 491, 501, 510, 521, 530, 541, 551, 560, 569, 578, 585, 593, 601, 608, 617, 626, 635, 645, 655, 665, 676, 685, 694, 703, 712]
theorem sTabOK : (en_strs.zipIdx.all (fun x => decide ((sFl.drop (sPos.getD x.2 0)).take (4 + x.1.2.2.2.length) = sAt x.1.1 x.1.2.1 x.1.2.2.2))) = true := by decide +kernel
theorem sMem {j : Nat} {q : String × Nat × String × List Int32} (h : en_strs[j]? = some q) : ∀ w ∈ sAt q.1 q.2.1 q.2.2.2, w ∈ sFl := by
  have h1 := List.all_eq_true.mp sTabOK (q, j) (List.mem_zipIdx_iff_getElem?.mpr h)
  have h2 : (sFl.drop (sPos.getD j 0)).take (4 + q.2.2.2.length) = sAt q.1 q.2.1 q.2.2.2 := of_decide_eq_true h1
  intro w hw
  rw [← h2] at hw
  exact List.mem_of_mem_drop (List.mem_of_mem_take hw)
theorem sRef : ∀ q ∈ en_strs, Cond.stringRef q.1 q.2.1 q.2.2.1 ∈ lw_tbl := by decide +kernel
theorem sLen : ∀ q ∈ en_strs, q.2.2.2.length < 2 ^ 31 := by decide +kernel
theorem sNc : ∀ q ∈ en_nc, Cond.not (.castable q.1 q.2) ∈ sFl := by decide +kernel
theorem sX2 : ∀ q ∈ en_X2, Cond.methodLinkNest q.1 q.2.1 q.2.2.1 q.2.2.2 ∈ lw_tbl := by decide +kernel
section
variable {args : Array Value} {s : State} {A : Nat → Prop}
theorem s_str (hA : ∀ a : Nat, a < s.heap.size → ¬ A a) {cls tx : String} {k : Nat} {bs : List Int32} (hb : bs.length < 2 ^ 31) (hR : (Cond.stringRef cls k tx).before args s = true) (h : ∀ w ∈ sAt cls k bs, w.before args s = true) : ∃ a v : Nat, vk_R cls k tx a s ∧ va_O "java/lang/String" a A s s.heap ∧ va_OF "java/lang/String" "coder" "B" (.int 0) a A s s.heap ∧ va_OF "java/lang/String" "value" "[B" (.ref v) a A s s.heap ∧ va_T .byte v bs.length (fun i => .int (bs.getD i 0)) A s s.heap := by
  have hex := h _ List.mem_cons_self
  have hco := h _ (List.mem_cons_of_mem _ List.mem_cons_self)
  have har := h _ (List.mem_cons_of_mem _ (List.mem_cons_of_mem _ List.mem_cons_self))
  have hle := h _ (List.mem_cons_of_mem _ (List.mem_cons_of_mem _ (List.mem_cons_of_mem _ List.mem_cons_self)))
  have hel : ∀ j : Nat, j < bs.length → (Cond.eq (.elem (.field (.string cls k) "java/lang/String" "value" "[B") (.int (Int32.ofNat j))) (.int (bs.getD j 0))).before args s = true := fun j hj => h _ (List.mem_cons_of_mem _ (List.mem_cons_of_mem _ (List.mem_cons_of_mem _ (List.mem_cons_of_mem _ (List.mem_map.mpr ⟨j, List.mem_range.mpr hj, rfl⟩)))))
  obtain ⟨adK, adV, hS, hE⟩ := vk_Sof (s := s) (args := args) (N := 1) (tm := fun _ => .string cls k) (len := [bs.length]) (byt := [bs]) (A := A) (fun i hi => by
    obtain rfl : i = 0 := by omega
    exact hb) (fun i hi => hex) (fun i hi => hco) (fun i hi => har) (fun i hi => by
    obtain rfl : i = 0 := by omega
    exact hle) (fun i hi j hj => by
    obtain rfl : i = 0 := by omega
    exact hel j hj) (fun i j hi hj hij => absurd (show i = j by omega) hij) hA
  obtain ⟨o1, o2, o3, o4⟩ := hS.1 0 (by decide)
  exact ⟨adK 0, adV 0, vk_R.of hR (hE 0 (by decide)), o1, o2, o3, o4⟩
theorem s_strs (hA : ∀ a : Nat, a < s.heap.size → ¬ A a) (hts : ∀ w ∈ lw_tbl, w.before args s = true) (hfl : ∀ w ∈ sFl, w.before args s = true) : ∃ f : Nat → Nat × Nat, ∀ (j : Nat) (q : String × Nat × String × List Int32), en_strs[j]? = some q → vk_R q.1 q.2.1 q.2.2.1 (f j).1 s ∧ va_O "java/lang/String" (f j).1 A s s.heap ∧ va_OF "java/lang/String" "coder" "B" (.int 0) (f j).1 A s s.heap ∧ va_OF "java/lang/String" "value" "[B" (.ref (f j).2) (f j).1 A s s.heap ∧ va_T .byte (f j).2 q.2.2.2.length (fun i => .int (q.2.2.2.getD i 0)) A s s.heap := by
  have h0 : ∀ j : Nat, ∃ x : Nat × Nat, ∀ q : String × Nat × String × List Int32, en_strs[j]? = some q → vk_R q.1 q.2.1 q.2.2.1 x.1 s ∧ va_O "java/lang/String" x.1 A s s.heap ∧ va_OF "java/lang/String" "coder" "B" (.int 0) x.1 A s s.heap ∧ va_OF "java/lang/String" "value" "[B" (.ref x.2) x.1 A s s.heap ∧ va_T .byte x.2 q.2.2.2.length (fun i => .int (q.2.2.2.getD i 0)) A s s.heap := by
    intro j
    cases e : en_strs[j]? with
    | none => exact ⟨(0, 0), fun q h => by cases h⟩
    | some q0 =>
      have hm := List.mem_of_getElem? e
      obtain ⟨a, v, h⟩ := s_str hA (sLen q0 hm) (hts _ (sRef q0 hm)) (fun w hw => hfl w (sMem e w hw))
      exact ⟨(a, v), fun q h' => by cases h'; exact h⟩
  obtain ⟨f, hf⟩ := Classical.skolem.mp h0
  exact ⟨f, hf⟩
theorem s_cls (hts : ∀ w ∈ en_T, w.before args s = true) : ∃ D : va_G, ∀ (c : Nat) (q : vw_C), vwCl[c]? = some q → u_Kn s q.1 q.2.1 q.2.2 (D.1 c) (D.2 c) := by
  have h0 : ∀ c : Nat, ∃ x : ClassId × (Nat → Nat), ∀ q : vw_C, vwCl[c]? = some q → u_Kn s q.1 q.2.1 q.2.2 x.1 x.2 := by
    intro c
    match c with
    | 0 =>
      obtain ⟨a, b, h⟩ := u_known hts cl_X0.2.2.1 (hts _ tw_302)
      exact ⟨(a, b), fun q e => by cases e; exact h⟩
    | 1 =>
      obtain ⟨a, b, h⟩ := u_known hts cl_X1.2.2.1 (hts _ tw_327)
      exact ⟨(a, b), fun q e => by cases e; exact h⟩
    | 2 =>
      obtain ⟨a, b, h⟩ := u_known hts cl_X2.2.2.1 (hts _ tw_321)
      exact ⟨(a, b), fun q e => by cases e; exact h⟩
    | 3 =>
      obtain ⟨a, b, h⟩ := u_known hts cl_X3.2.2.1 (hts _ tw_136)
      exact ⟨(a, b), fun q e => by cases e; exact h⟩
    | 4 =>
      obtain ⟨a, b, h⟩ := u_known hts cl_X4.2.2.1 (hts _ tw_362)
      exact ⟨(a, b), fun q e => by cases e; exact h⟩
    | 5 =>
      obtain ⟨a, b, h⟩ := u_known hts cl_X5.2.2.1 (hts _ tw_413)
      exact ⟨(a, b), fun q e => by cases e; exact h⟩
    | 6 =>
      obtain ⟨a, b, h⟩ := u_known hts cl_X6.2.2.1 (hts _ tw_194)
      exact ⟨(a, b), fun q e => by cases e; exact h⟩
    | 7 =>
      obtain ⟨a, b, h⟩ := u_known hts cl_X7.2.2.1 (hts _ tw_265)
      exact ⟨(a, b), fun q e => by cases e; exact h⟩
    | 8 =>
      obtain ⟨a, b, h⟩ := u_known hts cl_X8.2.2.1 (hts _ tw_387)
      exact ⟨(a, b), fun q e => by cases e; exact h⟩
    | 9 =>
      obtain ⟨a, b, h⟩ := u_known hts cl_X9.2.2.1 (hts _ tw_430)
      exact ⟨(a, b), fun q e => by cases e; exact h⟩
    | 10 =>
      obtain ⟨a, b, h⟩ := u_known hts cl_X10.2.2.1 (hts _ tw_128)
      exact ⟨(a, b), fun q e => by cases e; exact h⟩
    | 11 =>
      obtain ⟨a, b, h⟩ := u_known hts cl_X11.2.2.1 (hts _ tw_1507)
      exact ⟨(a, b), fun q e => by cases e; exact h⟩
    | c + 12 =>
      obtain ⟨a, b, h⟩ := u_known hts cl_X0.2.2.1 (hts _ tw_302)
      exact ⟨(a, b), fun q e => by simp [vwCl] at e⟩
  obtain ⟨f, hf⟩ := Classical.skolem.mp h0
  exact ⟨(fun c => (f c).1, fun c => (f c).2), hf⟩
theorem s_arp {ty : FieldType} (h : (Cond.arrayClass ty).before args s = true) (hp : ty = .int ∨ ty = .byte ∨ ty = .long) : ∃ cA : ClassId, ArrOfT s cA ty ∧ va_RA s cA ty := by
  obtain ⟨c, kA, comp, h1, h2, h3⟩ := Cond.arrayClass_spec h
  refine ⟨c, fun n z => ⟨fun k h => (by cases h), kA, h2, comp, h3⟩, ?_⟩
  rcases hp with rfl | rfl | rfl <;> exact h1
theorem s_aro {C : String} (h : (Cond.arrayOver (.object C)).before args s = true) : ∃ cA : ClassId, ArrOfT s cA (.object C) ∧ va_RA s cA (.object C) := by
  obtain ⟨comp, c, k, h1, h2, h3, h4, h5⟩ := Cond.arrayOver_spec h
  exact ⟨c, fun n z => ⟨fun k9 h9 => (by cases h9), k, h3, comp, h4⟩, k, comp, h3, h4, h1, h5⟩
end
theorem aoX1 : Cond.arrayOver (.object RX1) ∈ lw_tbl := by decide +kernel
theorem aoX9 : Cond.arrayOver (.object RX9) ∈ lw_tbl := by decide +kernel
theorem aoX6 : Cond.arrayOver (.object RX6) ∈ lw_tbl := by decide +kernel
/-- the references outside, by their numbers -/
def sRv (f : Nat → Nat × Nat) (fv : Value) (b : Nat) : Nat → Value := fun k => if k = 3000000 then fv else if k = 4000000 then .ref b else if 2000000 ≤ k then .ref (f (k - 2000000)).2 else .ref (f (k - 1000000)).1
def sTc (ci cb cl c1 c9 c6 : ClassId) : Nat → ClassId := fun k => if k = 0 then ci else if k = 1 then cb else if k = 2 then cl else if k = 11 then c1 else if k = 19 then c9 else c6
theorem sRv_ref {f : Nat → Nat × Nat} {fv : Value} {b : Nat} (h : fv = .null ∨ ∃ a, fv = .ref a) (k : Nat) : sRv f fv b k = .null ∨ ∃ a : Nat, sRv f fv b k = .ref a := by
  unfold sRv
  split
  · exact h
  · split
    · exact Or.inr ⟨_, rfl⟩
    · split <;> exact Or.inr ⟨_, rfl⟩
theorem sRv_1 {f : Nat → Nat × Nat} {fv : Value} {b j : Nat} (h : j < 1000000) : sRv f fv b (1000000 + j) = .ref (f j).1 := by
  unfold sRv
  rw [if_neg (by omega), if_neg (by omega), if_neg (by omega), Nat.add_sub_cancel_left]
theorem sRv_2 {f : Nat → Nat × Nat} {fv : Value} {b j : Nat} (h : j < 1000000) : sRv f fv b (2000000 + j) = .ref (f j).2 := by
  unfold sRv
  rw [if_neg (by omega), if_neg (by omega), if_pos (by omega), Nat.add_sub_cancel_left]
theorem sRv_3 {f : Nat → Nat × Nat} {fv : Value} {b : Nat} : sRv f fv b 3000000 = fv := by unfold sRv; rw [if_pos rfl]
theorem sRv_4 {f : Nat → Nat × Nat} {fv : Value} {b : Nat} : sRv f fv b 4000000 = .ref b := by unfold sRv; rw [if_neg (by omega), if_pos rfl]
theorem sSz : en_strs.length < 1000000 := by decide +kernel
/-- the world at the law's start -/
theorem s_world {l : Launch} {s : State} {b L : Nat} {xs : Nat → Int32} (hts : ∀ w ∈ lw_tbl, w.before #[Value.ref b] s = true) (hX : va_X b L xs s s.heap) (hbl : b < s.heap.size) (hgv : (Cond.and given_1 narrow_1).before #[Value.ref b] s = true) :
    ∃ (D : va_G) (tc : Nat → ClassId) (rv : Nat → Value), rv 4000000 = .ref b ∧ ∀ (hi : en_I) (hl : en_L) (hr : en_F), en_R (l, s.heap.size, D, tc, rv, (L, xs)) (0, true) hi hl hr s s.heap := by
  have hA : ∀ a : Nat, a < s.heap.size → ¬ s.heap.size ≤ a := fun a h => Nat.not_le.mpr h
  have htT : ∀ w ∈ en_T, w.before #[Value.ref b] s = true := fun w hw => hts w (List.mem_filter.mp hw).1
  have hfl : ∀ w ∈ sFl, w.before #[Value.ref b] s = true := flat_of_before _ hgv
  obtain ⟨f, hf⟩ := s_strs (A := fun a => s.heap.size ≤ a) hA hts hfl
  obtain ⟨D, hD⟩ := s_cls htT
  obtain ⟨ci, i1, i2⟩ := s_arp (ty := .int) (htT _ tw_arr_int) (Or.inl rfl)
  obtain ⟨cb, b1, b2⟩ := s_arp (ty := .byte) (htT _ tw_arr_byte) (Or.inr (Or.inl rfl))
  obtain ⟨cl, l1, l2⟩ := s_arp (ty := .long) (htT _ tw_arr_long) (Or.inr (Or.inr rfl))
  obtain ⟨c1, k1, k2⟩ := s_aro (C := RX1) (hts _ aoX1)
  obtain ⟨c9, m1, m2⟩ := s_aro (C := RX9) (hts _ aoX9)
  obtain ⟨c6, n1, n2⟩ := s_aro (C := RX6) (hts _ aoX6)
  have hZq := vx_Zqof (A := fun a => s.heap.size ≤ a) (hts (.laysStatic "jdk/internal/util/Preconditions" "SIOOBE_FORMATTER" "Ljava/util/function/BiFunction;") (by decide +kernel)) (hts (.initialized "jdk/internal/util/Preconditions") (by decide +kernel)) (hfl _ (by decide +kernel)) hA
  obtain ⟨fv, hfv, hZf⟩ : ∃ fv : Value, (fv = .null ∨ ∃ a, fv = .ref a) ∧ va_Z "jdk/internal/util/Preconditions" "SIOOBE_FORMATTER" "Ljava/util/function/BiFunction;" fv (fun a => s.heap.size ≤ a) s s.heap := by
    rcases hZq.1 with h | ⟨t, h⟩
    · exact ⟨.null, Or.inl rfl, h⟩
    · exact ⟨.ref t, Or.inr ⟨t, rfl⟩, h⟩
  refine ⟨D, sTc ci cb cl c1 c9 c6, sRv f fv b, sRv_4, fun hi hl hr => ⟨fun k q h => by simp [en_ws] at h, ⟨hD, fun k q h => ?_⟩, Nat.le_refl _, by decide, ?_⟩⟩
  · match k, h with
    | 0, h => cases h; exact ⟨i1, i2⟩
    | 1, h => cases h; exact ⟨b1, b2⟩
    | 2, h => cases h; exact ⟨l1, l2⟩
    | 3, h => cases h; exact ⟨k1, k2⟩
    | 4, h => cases h; exact ⟨m1, m2⟩
    | 5, h => cases h; exact ⟨n1, n2⟩
    | k + 6, h => cases h
  · refine ⟨sRv_ref hfv, ?_, ?_, ?_, ?_, fun j q hj => ?_, fun q hq => ?_, fun w hw => ?_, fun q hq => ?_, fun C hC => ?_, ?_⟩
    · exact vx_Zqof (hts (.laysStatic Bundle.tN "UNASSIGNED_STACK" Bundle.steD) (by decide +kernel)) (hts (.initialized Bundle.tN) (by decide +kernel)) (hfl _ (by decide +kernel)) hA
    · exact vx_Zqof (hts (.laysStatic Bundle.tN "SUPPRESSED_SENTINEL" Bundle.listD) (by decide +kernel)) (hts (.initialized Bundle.tN) (by decide +kernel)) (hfl _ (by decide +kernel)) hA
    · exact va_Zof (hts (.laysStatic "java/lang/String" "COMPACT_STRINGS" "Z") (by decide +kernel)) (hts (.initialized "java/lang/String") (by decide +kernel)) (va_eqi (hfl (.eq (.static "java/lang/String" "COMPACT_STRINGS" "Z") (.int 1)) (by decide +kernel))) hA
    · show va_Z _ _ _ (sRv f fv b 3000000) _ _ _
      rw [sRv_3]
      exact hZf
    · have hj9 : j < 1000000 := Nat.lt_trans (List.getElem?_eq_some_iff.mp hj).1 sSz
      exact ⟨(f j).1, (f j).2, sRv_1 hj9, sRv_2 hj9, hf j q hj⟩
    · exact va_Nc.of (hfl _ (sNc q hq))
    · have h9 := List.mem_filter.mp hw
      have h8 : w.onTables = true ∧ w.keepsFace = true := by simpa using h9.2
      exact va_tabs h8.1 (rfl : s.vm = s.vm) (hts w h9.1)
    · exact va_tabs rfl (rfl : s.vm = s.vm) (hts _ (sX2 q hq))
    · rcases List.mem_cons.mp hC with rfl | hC
      · exact va_AO.of (hts _ aoX1)
      · rcases List.mem_cons.mp hC with rfl | hC
        · exact va_AO.of (hts _ aoX9)
        · rcases List.mem_cons.mp hC with rfl | hC
          · exact va_AO.of (hts _ aoX6)
          · exact absurd hC List.not_mem_nil
    · exact ⟨b, sRv_4 (f := f) (fv := fv), hX, hbl, Nat.not_le.mpr hbl⟩
