/-- the cells of a run, in the order in which they are made: class (below 100) or kind of row, and how many fields or places -/
def en_shl : List (Nat × Nat) := [(10, 19), (101, 600), (3, 9), (100, 216), (100, 12), (100, 12), (100, 32), (100, 16), (3, 9), (100, 216), (100, 12), (100, 12), (100, 32), (100, 16), (111, 4), (119, 4), (6, 12), (100, 216), (100, 12), (100, 12), (100, 12), (100, 72), (100, 4), (100, 5), (116, 3), (100, 4), (7, 9), (101, 0), (0, 4), (2, 4), (1, 4), (100, 600), (100, 3), (100, 3), (4, 6), (100, 9), (100, 64), (100, 216), (8, 5), (6, 12), (100, 216), (100, 12), (100, 12), (100, 12), (100, 72), (100, 4), (100, 5), (100, 12), (5, 3), (102, 12), (1, 4), (100, 600), (100, 3), (100, 3), (1, 4), (100, 600), (100, 3), (100, 3), (1, 4), (100, 600), (100, 3), (100, 3), (1, 4), (100, 600), (100, 3), (100, 3), (9, 5), (100, 20), (100, 20), (100, 20), (100, 20), (9, 5), (100, 20), (100, 20), (100, 20), (100, 20), (9, 5), (100, 20), (100, 20), (100, 20), (100, 20), (9, 5), (100, 20), (100, 20), (100, 20), (100, 20), (6, 12), (100, 216), (100, 12), (100, 12), (100, 12), (100, 72), (100, 4), (100, 5), (6, 12), (100, 216), (100, 12), (100, 12), (100, 12), (100, 72), (100, 4), (100, 5), (6, 12), (100, 216), (100, 12), (100, 12), (100, 12), (100, 72), (100, 4), (100, 5), (11, 34), (100, 4), (100, 600), (100, 76), (100, 76), (100, 834), (100, 834), (100, 834), (100, 2502), (100, 2480), (100, 2480), (100, 12), (100, 12), (100, 620), (100, 9), (100, 5), (100, 200), (100, 200), (100, 200), (100, 200), (100, 576), (100, 24), (100, 24), (102, 1)]
def en_SH (k : Nat) : Nat × Nat := en_shl.getD k (999, 0)
/-- the texts of the tables: class, place, text, bytes -/
def en_strs : List (String × Nat × String × List Int32) := [("ShingleBank", 142, "an argument is none of those that may be", [97, 110, 32, 97, 114, 103, 117, 109, 101, 110, 116, 32, 105, 115, 32, 110, 111, 110, 101, 32, 111, 102, 32, 116, 104, 111, 115, 101, 32, 116, 104, 97, 116, 32, 109, 97, 121, 32, 98, 101]),
  ("ShingleBank$ClauseReader", 52, "cells", [99, 101, 108, 108, 115]),
  ("ShingleBank$ClauseReader", 58, "sizes", [115, 105, 122, 101, 115]),
  ("ShingleBank$ClauseReader", 63, "heap", [104, 101, 97, 112]),
  ("ShingleBank$ClauseReader", 68, "crest", [99, 114, 101, 115, 116]),
  ("ShingleBank$ClauseReader", 84, "wall", [119, 97, 108, 108]),
  ("ShingleBank$ClauseReader", 89, "spring", [115, 112, 114, 105, 110, 103]),
  ("ShingleBank$ClauseReader", 94, "lorry", [108, 111, 114, 114, 121]),
  ("ShingleBank$LawReader", 75, "move", [109, 111, 118, 101]),
  ("ShingleBank$LawReader", 81, "wear", [119, 101, 97, 114]),
  ("ShingleBank$LawReader", 83, "over", [111, 118, 101, 114]),
  ("ShingleBank$LawReader", 85, "if", [105, 102]),
  ("ShingleBank$LawReader", 162, "not", [110, 111, 116]),
  ("ShingleBank$LawReader", 160, "and", [97, 110, 100]),
  ("ShingleBank$LawReader", 155, "or", [111, 114]),
  ("ShingleBank$LawReader", 106, "then", [116, 104, 101, 110]),
  ("ShingleBank$LawReader", 116, "else", [101, 108, 115, 101]),
  ("ShingleBank$LawReader", 134, "size", [115, 105, 122, 101]),
  ("ShingleBank$LawReader", 136, "stuff", [115, 116, 117, 102, 102]),
  ("ShingleBank$LawReader", 138, "above", [97, 98, 111, 118, 101]),
  ("ShingleBank$LawReader", 140, "below", [98, 101, 108, 111, 119]),
  ("ShingleBank$LawReader", 142, "height", [104, 101, 105, 103, 104, 116]),
  ("ShingleBank$LawReader", 144, "beat", [98, 101, 97, 116]),
  ("ShingleBank$LawReader", 146, "from", [102, 114, 111, 109]),
  ("ShingleBank$LawReader", 148, "crest", [99, 114, 101, 115, 116]),
  ("ShingleBank$LawReader", 150, "cell", [99, 101, 108, 108]),
  ("ShingleBank$ClauseReader", 148, "wave", [119, 97, 118, 101]),
  ("ShingleBank$ClauseReader", 154, "times", [116, 105, 109, 101, 115]),
  ("ShingleBank", 128, "no such CELL", [110, 111, 32, 115, 117, 99, 104, 32, 67, 69, 76, 76]),
  ("ShingleBank", 135, "no such LAW", [110, 111, 32, 115, 117, 99, 104, 32, 76, 65, 87]),
  ("ShingleBank", 150, "there is no BEACH, or its HOURS are over", [116, 104, 101, 114, 101, 32, 105, 115, 32, 110, 111, 32, 66, 69, 65, 67, 72, 44, 32, 111, 114, 32, 105, 116, 115, 32, 72, 79, 85, 82, 83, 32, 97, 114, 101, 32, 111, 118, 101, 114]),
  ("ShingleBank", 138, "no such YEAR", [110, 111, 32, 115, 117, 99, 104, 32, 89, 69, 65, 82]),
  ("ShingleBankModel", 143, "cells", [99, 101, 108, 108, 115]),
  ("ShingleBankModel", 149, "sizes", [115, 105, 122, 101, 115]),
  ("ShingleBankModel", 151, "heap", [104, 101, 97, 112]),
  ("ShingleBankModel", 153, "crest", [99, 114, 101, 115, 116]),
  ("ShingleBankModel", 155, "wall", [119, 97, 108, 108]),
  ("ShingleBankModel", 157, "spring", [115, 112, 114, 105, 110, 103]),
  ("ShingleBankModel", 159, "lorry", [108, 111, 114, 114, 121]),
  ("ShingleBankModel", 263, "move", [109, 111, 118, 101]),
  ("ShingleBankModel", 265, "wear", [119, 101, 97, 114]),
  ("ShingleBankModel", 267, "over", [111, 118, 101, 114]),
  ("ShingleBankModel", 236, "if", [105, 102]),
  ("ShingleBankModel", 251, "not", [110, 111, 116]),
  ("ShingleBankModel", 256, "and", [97, 110, 100]),
  ("ShingleBankModel", 261, "or", [111, 114]),
  ("ShingleBankModel", 241, "then", [116, 104, 101, 110]),
  ("ShingleBankModel", 246, "else", [101, 108, 115, 101]),
  ("ShingleBankModel", 209, "size", [115, 105, 122, 101]),
  ("ShingleBankModel", 210, "stuff", [115, 116, 117, 102, 102]),
  ("ShingleBankModel", 212, "above", [97, 98, 111, 118, 101]),
  ("ShingleBankModel", 214, "below", [98, 101, 108, 111, 119]),
  ("ShingleBankModel", 216, "height", [104, 101, 105, 103, 104, 116]),
  ("ShingleBankModel", 217, "beat", [98, 101, 97, 116]),
  ("ShingleBankModel", 218, "from", [102, 114, 111, 109]),
  ("ShingleBankModel", 219, "cell", [99, 101, 108, 108]),
  ("ShingleBankModel", 272, "wave", [119, 97, 118, 101]),
  ("ShingleBankModel", 274, "times", [116, 105, 109, 101, 115])]
def en_nc : List (String × String) := [("java/lang/IllegalArgumentException", "java/lang/IndexOutOfBoundsException"), ("java/lang/IllegalArgumentException", "java/util/NoSuchElementException"), ("java/lang/IllegalArgumentException", "java/lang/IllegalStateException"), ("java/lang/IndexOutOfBoundsException", "java/lang/IllegalArgumentException"), ("java/lang/IndexOutOfBoundsException", "java/util/NoSuchElementException"), ("java/lang/IndexOutOfBoundsException", "java/lang/IllegalStateException"), ("java/util/NoSuchElementException", "java/lang/IllegalArgumentException"), ("java/util/NoSuchElementException", "java/lang/IndexOutOfBoundsException"), ("java/util/NoSuchElementException", "java/lang/IllegalStateException"), ("java/lang/IllegalStateException", "java/lang/IllegalArgumentException"), ("java/lang/IllegalStateException", "java/lang/IndexOutOfBoundsException"), ("java/lang/IllegalStateException", "java/util/NoSuchElementException")]
def en_X2 : List (String × Nat × MethodName × String) := [("ShingleBank", 22, ⟨"ShingleBank$Plan", "<init>", "()V"⟩, "ShingleBank"), ("ShingleBank", 50, ⟨"ShingleBank$Shore", "<init>", "()V"⟩, "ShingleBank"), ("ShingleBank", 68, ⟨"ShingleBank$Tokens", "<init>", "()V"⟩, "ShingleBank"), ("ShingleBank$LawReader", 11, ⟨"ShingleBank$Law", "<init>", "()V"⟩, "ShingleBank"), ("ShingleBank$Trials", 11, ⟨"ShingleBank$Shore", "<init>", "()V"⟩, "ShingleBank"), ("ShingleBank", 109, ⟨"ShingleBank$Senses", "<init>", "()V"⟩, "ShingleBank"), ("ShingleBank", 114, ⟨"ShingleBank$Law", "<init>", "()V"⟩, "ShingleBank"), ("ShingleBank", 115, ⟨"ShingleBank$Year", "<init>", "()V"⟩, "ShingleBank")]
def en_X1 : List Cond := lw_tbl.filter (fun w => w.onTables && w.keepsFace)
/-! THE ENGINE: a plain machine over a heap of numbered cells (the k-th cell that the law's run makes lies at base + k); each step of it is sound for the machine of the Statement. -/
abbrev en_G : Type := Launch × Nat × va_G × (Nat → ClassId) × (Nat → Value) × (Nat × (Nat → Int32))
abbrev en_I : Type := Nat → Nat → Int32
abbrev en_L : Type := Nat → Nat → Int64
abbrev en_F : Type := Nat → Nat → Value
abbrev en_Wd : Type := Nat × Bool
abbrev en_Y : Type := MethodName × ByteArray × Nat × Option FieldType × List (Nat × Nat × Nat × Nat)
abbrev en_O : Type := Option Value ⊕ String
abbrev en_K : Type := en_O → en_I → en_L → en_F → Prop
abbrev en_Kont : Type := List Value → List Value → en_I → en_L → en_F → Nat → Nat → Prop
abbrev en_C : Type := Program × Env × Room × State × MethodId × Array Value × List Frame × Method × Code × (State → Prop)
def en_A (G : en_G) : Nat → Prop := fun q => G.2.1 ≤ q
def en_tr (G : en_G) : Value → Value
  | .ref k => if k < 1000000 then .ref (G.2.1 + k) else G.2.2.2.2.1 k
  | v => v
def en_rf (G : en_G) : Value → Option Nat
  | .ref k => some (G.2.1 + k)
  | _ => none
def en_up {α : Type} (h : Nat → Nat → α) (a i : Nat) (v : α) : Nat → Nat → α := fun a' j => if a' = a ∧ j = i then v else h a' j
def en_row {α : Type} (h : Nat → Nat → α) (a : Nat) (f : Nat → α) : Nat → Nat → α := fun a' => if a' = a then f else h a'
theorem en_up_row {α : Type} (h : Nat → Nat → α) (a i : Nat) (v : α) : en_up h a i v = en_row h a (fun j => if j = i then v else h a j) := by
  funext a' j
  unfold en_up en_row
  by_cases q : a' = a
  · subst q; simp
  · simp [q]
theorem en_row_self {α : Type} (h : Nat → Nat → α) (a : Nat) : en_row h a (h a) = h := by
  funext a' j
  unfold en_row
  by_cases q : a' = a
  · subst q; simp
  · simp [q]
def en_tyOf : Nat → Nat → FieldType := fun ci => match ci with
  | 0 => tyX0
  | 1 => tyX1
  | 2 => tyX2
  | 3 => tyX3
  | 4 => tyX4
  | 5 => tyX5
  | 6 => tyX6
  | 7 => tyX7
  | 8 => tyX8
  | 9 => tyX9
  | 10 => tyX10
  | _ => tyX11
def en_fv (G : en_G) (t : FieldType) (x : Int32) (y : Int64) (v : Value) : Value := match t with
  | .long => .long y
  | .object _ => en_tr G v
  | .array _ => en_tr G v
  | _ => .int x
def en_enc (G : en_G) (sh : Nat × Nat) (fi : Nat → Int32) (fl : Nat → Int64) (fr : Nat → Value) : va_E :=
  if sh.1 < 100 then .inr (sh.1, (List.range sh.2).map (fun k => en_fv G (en_tyOf sh.1 k) (fi k) (fl k) (fr k)))
  else if sh.1 = 100 then .inl (G.2.2.2.1 0, sh.2, .inl fi)
  else if sh.1 = 101 then .inl (G.2.2.2.1 1, sh.2, .inl fi)
  else if sh.1 = 102 then .inl (G.2.2.2.1 2, sh.2, .inr (.inl fl))
  else .inl (G.2.2.2.1 (sh.1 - 100), sh.2, .inr (.inr (.inr (.inr (fun i => en_rf G (fr i))))))
def en_ws (G : en_G) (n : Nat) (hi : en_I) (hl : en_L) (hr : en_F) : va_W := (List.range n).map (fun k => (G.2.1 + k, en_enc G (en_SH k) (hi k) (hl k) (hr k)))
def en_tys (G : en_G) : List (ClassId × FieldType) := [(G.2.2.2.1 0, .int), (G.2.2.2.1 1, .byte), (G.2.2.2.1 2, .long), (G.2.2.2.1 11, .object RX1), (G.2.2.2.1 19, .object RX9), (G.2.2.2.1 16, .object RX6)]
def en_Str (G : en_G) (U : State) (H : Heap) (j : Nat) (q : String × Nat × String × List Int32) : Prop := ∃ a v : Nat, G.2.2.2.2.1 (1000000 + j) = .ref a ∧ G.2.2.2.2.1 (2000000 + j) = .ref v ∧ vk_R q.1 q.2.1 q.2.2.1 a U ∧ va_O "java/lang/String" a (en_A G) U H ∧ va_OF "java/lang/String" "coder" "B" (.int 0) a (en_A G) U H ∧ va_OF "java/lang/String" "value" "[B" (.ref v) a (en_A G) U H ∧ va_T .byte v q.2.2.2.length (fun i => .int (q.2.2.2.getD i 0)) (en_A G) U H
/-- the script: an array outside -/
def en_Scr (G : en_G) (U : State) (H : Heap) : Prop := ∃ b0 : Nat, G.2.2.2.2.1 4000000 = .ref b0 ∧ va_X b0 G.2.2.2.2.2.1 G.2.2.2.2.2.2 U H ∧ b0 < H.size ∧ ¬ en_A G b0
def en_Z (G : en_G) (U : State) (H : Heap) : Prop :=
  (∀ k : Nat, G.2.2.2.2.1 k = .null ∨ ∃ a : Nat, G.2.2.2.2.1 k = .ref a) ∧ vx_Zq Bundle.tN "UNASSIGNED_STACK" Bundle.steD (en_A G) U H ∧ vx_Zq Bundle.tN "SUPPRESSED_SENTINEL" Bundle.listD (en_A G) U H ∧
  va_Z "java/lang/String" "COMPACT_STRINGS" "Z" (.int 1) (en_A G) U H ∧ va_Z "jdk/internal/util/Preconditions" "SIOOBE_FORMATTER" "Ljava/util/function/BiFunction;" (G.2.2.2.2.1 3000000) (en_A G) U H ∧
  (∀ (j : Nat) (q : String × Nat × String × List Int32), en_strs[j]? = some q → en_Str G U H j q) ∧ (∀ q ∈ en_nc, va_Nc q.1 q.2 U) ∧ (∀ w ∈ en_X1, va_Nw w U) ∧ (∀ q ∈ en_X2, va_Nw (.methodLinkNest q.1 q.2.1 q.2.2.1 q.2.2.2) U) ∧ (∀ C ∈ [RX1, RX9, RX6], va_AO C U) ∧ en_Scr G U H
theorem en_Z.scr {G : en_G} {U : State} {H : Heap} (h : en_Z G U H) : en_Scr G U H := h.2.2.2.2.2.2.2.2.2.2
theorem en_Z.ao {G : en_G} {U : State} {H : Heap} (h : en_Z G U H) : ∀ C ∈ [RX1, RX9, RX6], va_AO C U := h.2.2.2.2.2.2.2.2.2.1
theorem en_Z.kept {G : en_G} {U : State} {H H1 : Heap} (h : en_Z G U H) (hq : ∀ a : Nat, a < H.size → ¬ en_A G a → H1[a]? = H[a]?) : en_Z G U H1 := by
  obtain ⟨h0, h1, h2, h3, h4, h5, h6, h7, h8, h9, b0, g1, g2, g3, g4⟩ := h
  refine ⟨h0, h1.kept hq, h2.kept hq, h3.kept hq, h4.kept hq, fun j q hj => ?_, h6, h7, h8, h9, b0, g1, g2.kept (hq b0 g3 g4), Nat.lt_of_not_le (fun z => ?_), g4⟩
  · obtain ⟨a, v, e1, e2, r1, r2, r3, r4, r5⟩ := h5 j q hj
    exact ⟨a, v, e1, e2, r1, r2.kept hq, r3.kept hq, r4.kept hq, r5.kept hq⟩
  · obtain ⟨scr, k1, -⟩ := g2
    have k2 := hq b0 g3 g4
    rw [k1, Array.getElem?_eq_none z] at k2
    cases k2
def en_R (G : en_G) (w : en_Wd) (hi : en_I) (hl : en_L) (hr : en_F) (U : State) (H : Heap) : Prop :=
  va_P G.2.2.1 vwCl (en_ws G w.1 hi hl hr) H ∧ va_K G.2.2.1 vwCl (en_tys G) U ∧ G.2.1 + w.1 ≤ H.size ∧ w.1 < 1000000 ∧ en_Z G U H
theorem en_ws_at {G : en_G} {n : Nat} {hi : en_I} {hl : en_L} {hr : en_F} {a : Nat} (h : a < n) : (en_ws G n hi hl hr)[a]? = some (G.2.1 + a, en_enc G (en_SH a) (hi a) (hl a) (hr a)) := by
  simp [en_ws, h]
theorem en_ws_set {G : en_G} {n : Nat} {hi : en_I} {hl : en_L} {hr : en_F} {a : Nat} {e : va_E} {fi : Nat → Int32} {fl : Nat → Int64} {fr : Nat → Value} (h : a < n) (he : e = en_enc G (en_SH a) fi fl fr) : (en_ws G n hi hl hr).set a (G.2.1 + a, e) = en_ws G n (en_row hi a fi) (en_row hl a fl) (en_row hr a fr) := by
  subst he
  apply List.ext_getElem?
  intro k
  by_cases hk : k = a
  · subst hk
    rw [List.getElem?_set_self (by simp [en_ws, h]), en_ws_at h]
    simp [en_row]
  · rw [List.getElem?_set_ne (Ne.symm hk)]
    by_cases hn : k < n
    · rw [en_ws_at hn, en_ws_at hn]
      simp [en_row, hk]
    · simp [en_ws, hn]
theorem en_ws_D {G : en_G} {n : Nat} {hi : en_I} {hl : en_L} {hr : en_F} : va_D (en_A G) (en_ws G n hi hl hr) := by
  refine ⟨fun i j p q h1 h2 h3 => ?_, fun k q hk => ?_⟩
  · have l1 : i < n := by have := (List.getElem?_eq_some_iff.mp h1).1; simpa [en_ws] using this
    have l2 : j < n := by have := (List.getElem?_eq_some_iff.mp h2).1; simpa [en_ws] using this
    rw [en_ws_at l1] at h1
    rw [en_ws_at l2] at h2
    cases h1; cases h2
    have h4 : G.2.1 + i = G.2.1 + j := h3
    omega
  · have l1 : k < n := by have := (List.getElem?_eq_some_iff.mp hk).1; simpa [en_ws] using this
    rw [en_ws_at l1] at hk
    cases hk
    exact Nat.le_add_right _ _
/-- the locals of the plain machine: what isn't a float is held -/
def en_lr (G : en_G) (n : Nat) (ls : List Value) (rl : Array Slot) : Prop := rl.size = n ∧ ls.length ≤ n ∧ lv_wf rl ∧ ∀ (i : Nat) (v : Value), ls[i]? = some v → (∀ z, v ≠ .float z) → rl[i]? = some (.val (en_tr G v))
abbrev jk : Value := .float 0
/-- the words that every method has -/
def en_T : List Cond := lw_tbl.filter goodWord
def en_wsY (Y : en_Y) : List Cond := (match Y.2.2.2.2 with
  | [] => Cond.code Y.1 Y.2.1 Y.2.2.1 Y.2.2.2.1
  | h => Cond.codeWith Y.1 Y.2.1 Y.2.2.1 Y.2.2.2.1 h) :: en_T
def en_rm (d xc xs : Nat) : Room := { frames := d + 8, cells := xc, slots := xs, locals := 64 * d + 200 }
def en_Pw (G : en_G) (w : en_Wd) (hi : en_I) (hl : en_L) (hr : en_F) (H : Heap) : Prop := va_P G.2.2.1 vwCl (en_ws G w.1 hi hl hr) H ∧ G.2.1 + w.1 ≤ H.size ∧ w.1 < 1000000
def en_Qc (G : en_G) (w' : en_Wd) (K : en_K) : Array Value → State → Outcome → State → Prop := fun _ st o t => ∃ (v : Option Value) (hi : en_I) (hl : en_L) (hr : en_F), o = .returned (v.map (en_tr G)) ∧ K (.inl v) hi hl hr ∧ en_Pw G w' hi hl hr t.heap ∧ va_F (en_A G) st t
def en_XC (G : en_G) (w' : en_Wd) (K : en_K) : String → State → State → Prop := fun E st t => ∃ (hi : en_I) (hl : en_L) (hr : en_F), K (.inr E) hi hl hr ∧ en_Pw G w' hi hl hr t.heap ∧ va_F (en_A G) st t
/-- a call of the method Y: from these arguments, in this heap, it comes to an end at which K holds; xc, xs: the cells and slots that it may make; d: the calls that may stand open -/
def en_Call (G : en_G) (d xc xs : Nat) (Y : en_Y) (w w' : en_Wd) (as : List Value) (hi : en_I) (hl : en_L) (hr : en_F) (K : en_K) : Prop :=
  G.1.stackTraces = false → vx_Met G.1 Y.1 (en_wsY Y) (en_rm d xc xs) (fun v U => v = (as.map (en_tr G)).toArray ∧ en_R G w hi hl hr U U.heap ∧ (w.2 = true → U.heap.size ≤ G.2.1 + w.1)) (en_Qc G w' K) (en_XC G w' K) xc xs (en_A G)
theorem en_Z.warm {G : en_G} {s U : State} {H : Heap} (hW : s.WarmedH U.vm) (h : en_Z G s H) : en_Z G U H := by
  obtain ⟨h0, h1, h2, h3, h4, h5, h6, h7, h8, h9, b0, g1, g2, g3, g4⟩ := h
  refine ⟨h0, h1.moved hW.alike, h2.moved hW.alike, h3.moved hW.alike, h4.moved hW.alike, fun j q hj => ?_, fun q hq => (h6 q hq).moved hW.alike, fun w hw => ?_, fun q hq => (h8 q hq).warmM hW, fun C hC => (h9 C hC).moved hW.alike, b0, g1, g2.moved hW.alike, g3, g4⟩
  · obtain ⟨a, v, e1, e2, r1, r2, r3, r4, r5⟩ := h5 j q hj
    exact ⟨a, v, e1, e2, r1.warm hW, r2.moved hW.alike, r3.moved hW.alike, r4.moved hW.alike, r5.moved hW.alike⟩
  · have hk : w.onTables = true ∧ w.keepsFace = true := by
      have := (List.mem_filter.mp hw).2
      simpa using this
    exact va_tabs hk.1 (rfl : (s.setVm U.vm).vm = U.vm) (Cond.before_shiftedFace (State.Shifted.of_warmed hW) w hk.2 (h7 w hw))
theorem en_Z.same {G : en_G} {s U : State} {H : Heap} (hW : U.vm = s.vm) (h : en_Z G s H) : en_Z G U H := by
  have hA : s.vm.Alike U.vm := by rw [hW]; exact Vm.Alike.refl _
  obtain ⟨h0, h1, h2, h3, h4, h5, h6, h7, h8, h9, b0, g1, g2, g3, g4⟩ := h
  refine ⟨h0, h1.moved hA, h2.moved hA, h3.moved hA, h4.moved hA, fun j q hj => ?_, fun q hq => (h6 q hq).moved hA, fun w hw => ?_, fun q hq => va_Nw.same rfl hW.symm (h8 q hq), fun C hC => (h9 C hC).moved hA, b0, g1, g2.moved hA, g3, g4⟩
  · obtain ⟨a, v, e1, e2, r1, r2, r3, r4, r5⟩ := h5 j q hj
    exact ⟨a, v, e1, e2, r1.same hW, r2.moved hA, r3.moved hA, r4.moved hA, r5.moved hA⟩
  · have hk : w.onTables = true ∧ w.keepsFace = true := by
      have := (List.mem_filter.mp hw).2
      simpa using this
    exact va_Nw.same hk.1 hW.symm (h7 w hw)
theorem en_R.warm {G : en_G} {w : en_Wd} {hi : en_I} {hl : en_L} {hr : en_F} {s U : State} {H : Heap} (hW : s.WarmedH U.vm) (h : en_R G w hi hl hr s H) : en_R G w hi hl hr U H := by
  obtain ⟨h1, h2, h3, h5, h6⟩ := h
  exact ⟨h1, h2.moved hW.alike, h3, h5, h6.warm hW⟩
theorem en_R.same {G : en_G} {w : en_Wd} {hi : en_I} {hl : en_L} {hr : en_F} {s U : State} {H : Heap} (hW : U.vm = s.vm) (h : en_R G w hi hl hr s H) : en_R G w hi hl hr U H := by
  obtain ⟨h1, h2, h3, h5, h6⟩ := h
  exact ⟨h1, h2.moved (by rw [hW]; exact Vm.Alike.refl _), h3, h5, h6.same hW⟩
/-- behind a step: the same tables, the cells outside kept -/
theorem en_R.step {G : en_G} {w w1 : en_Wd} {hi hi1 : en_I} {hl hl1 : en_L} {hr hr1 : en_F} {s : State} {H H1 : Heap} (h : en_R G w hi hl hr s H) (hP : va_P G.2.2.1 vwCl (en_ws G w1.1 hi1 hl1 hr1) H1) (hq : ∀ a : Nat, a < H.size → ¬ en_A G a → H1[a]? = H[a]?) (h3 : G.2.1 + w1.1 ≤ H1.size) (h5 : w1.1 < 1000000) : en_R G w1 hi1 hl1 hr1 s H1 := by
  obtain ⟨-, h2, -, -, h6⟩ := h
  exact ⟨hP, h2, h3, h5, h6.kept hq⟩
theorem en_blind {G : en_G} {w : en_Wd} {as : List Value} {hi : en_I} {hl : en_L} {hr : en_F} : FrameBlind (fun v U => v = (as.map (en_tr G)).toArray ∧ en_R G w hi hl hr U U.heap ∧ (w.2 = true → U.heap.size ≤ G.2.1 + w.1)) := by
  intro a U g mk q
  obtain ⟨q1, q2, q3⟩ := q
  exact ⟨q1, en_R.same (s := U) rfl q2, q3⟩
def en_Fin (G : en_G) (Y : en_Y) (xc xs : Nat) (w' : en_Wd) (K : en_K) (p : Program) (e : Env) (R : Room) (s : State) (m : MethodId) (args : Array Value) (below : List Frame) (meth : Method) (c : Code) (Q : State → Prop) : Prop :=
  Q = vx_MQ below (en_Qc G w' K) (en_XC G w' K) args s xc xs (en_A G) ∨
  ((∀ (o : en_O) (hi : en_I) (hl : en_L) (hr : en_F), K o hi hl hr → ∃ z, o = .inl (some (.int z))) ∧ ∀ (z : Int32) (hi : en_I) (hl : en_L) (hr : en_F) (H : Heap) (locs : List Loc) (cells slots pc : Nat) (ls : Array Slot), K (.inl (some (.int z))) hi hl hr → va_S (en_A G) s.heap H locs → cells ≤ xc → slots ≤ xs → decode Y.2.1 pc = .ok (.ireturn, 1) → W p G.1 e R s m args below meth c H locs cells slots Q (F0 m pc ls [.int z]))
def en_Ctx (G : en_G) (Y : en_Y) (d xc xs : Nat) (w' : en_Wd) (K : en_K) (p : Program) (e : Env) (R : Room) (s : State) (m : MethodId) (args : Array Value) (below : List Frame) (meth : Method) (c : Code) (Q : State → Prop) : Prop :=
  (p.tables.exec = Jvm.exec ∧ c.code = Y.2.1 ∧ c.maxLocals = Y.2.2.1 ∧ meth.sig.returnType = Y.2.2.2.1 ∧ s.vm.findClass Y.1.cls = some m.cls ∧ (∀ w ∈ en_T, w.before args s = true) ∧ meth.name = Y.1.name ∧ meth.locks = false ∧ c.exceptionTable.toList = tableOf Y.2.2.2.2 ∧ G.1.stackTraces = false) ∧
  (d + 8 ≤ R.frames ∧ 64 * d + 200 ≤ R.locals ∧ xc ≤ R.cells ∧ xs ≤ R.slots ∧ G.2.1 ≤ s.heap.size) ∧ en_Fin G Y xc xs w' K p e R s m args below meth c Q
/-- from the method Y's frame at pc, with these locals and this stack, in this heap, with what may still be made, it comes to its end, at which K holds -/
def en_V (G : en_G) (Y : en_Y) (d : Nat) (w w' : en_Wd) (K : en_K) (pc : Nat) (ls st : List Value) (hi : en_I) (hl : en_L) (hr : en_F) (uc us : Nat) : Prop :=
  ∀ (p : Program) (e : Env) (R : Room) (s : State) (m : MethodId) (args : Array Value) (below : List Frame) (meth : Method) (c : Code) (Q : State → Prop) (xc xs : Nat), en_Ctx G Y d xc xs w' K p e R s m args below meth c Q →
    ∀ (H : Heap) (locs : List Loc) (cells slots : Nat) (rl : Array Slot), en_lr G Y.2.2.1 ls rl → en_R G w hi hl hr s H → va_S (en_A G) s.heap H locs → cells + uc ≤ xc → slots + us ≤ xs → (w.2 = true → s.heap.size + cells ≤ G.2.1 + w.1) →
      W p G.1 e R s m args below meth c H locs cells slots Q (F0 m pc rl (st.map (en_tr G)))
def en_S (G : en_G) (Y : en_Y) (d : Nat) (w w' : en_Wd) (K : en_K) (k : en_Kont) (pc : Nat) : Prop := ∀ (ls st : List Value) (hi : en_I) (hl : en_L) (hr : en_F) (uc us : Nat), k ls st hi hl hr uc us → en_V G Y d w w' K pc ls st hi hl hr uc us
/-- the locals at a method's start -/
def en_ent : List Value → List Value
  | [] => []
  | .long x :: l => .long x :: jk :: en_ent l
  | .double x :: l => .double x :: jk :: en_ent l
  | v :: l => v :: en_ent l
