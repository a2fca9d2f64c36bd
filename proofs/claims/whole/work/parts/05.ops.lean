def iI (z : Int) : Int32 := Int32.ofInt z
def jL (z : Int) : Int64 := Int64.ofInt z
def en_get : List Value → Nat → Value
  | [], _ => jk
  | v :: _, 0 => v
  | _ :: l, n + 1 => en_get l n
theorem en_get_at : ∀ (ls : List Value) (i : Nat) (v : Value), en_get ls i = v → (∀ z, v ≠ .float z) → ls[i]? = some v
  | [], i, v, h, hv => absurd h.symm (hv 0)
  | a :: l, 0, v, h, hv => by have : a = v := h; rw [this]; rfl
  | a :: l, n + 1, v, h, hv => by rw [List.getElem?_cons_succ]; exact en_get_at l n v h hv
def en_fix : Value → Value
  | .long _ => jk
  | .double _ => jk
  | v => v
/-- a value of one slot is stored; of two -/
def en_set1 (ls : List Value) (i : Nat) (v : Value) : List Value := match i with
  | 0 => ls.set 0 v
  | i + 1 => (ls.modify i en_fix).set (i + 1) v
def en_set2 (ls : List Value) (i : Nat) (v : Value) : List Value := (en_set1 ls i v).set (i + 1) jk
theorem en_lr_get {G : en_G} {n : Nat} {ls : List Value} {rl : Array Slot} (h : en_lr G n ls rl) {i : Nat} {v : Value} (hg : en_get ls i = v) (hv : ∀ z, v ≠ .float z) : rl[i]? = some (.val (en_tr G v)) := h.2.2.2 i v (en_get_at ls i v hg hv) hv
theorem en_tr_int (G : en_G) (x : Int32) : en_tr G (.int x) = .int x := rfl
theorem en_tr_long (G : en_G) (x : Int64) : en_tr G (.long x) = .long x := rfl
theorem en_tr_ref (G : en_G) {k : Nat} (h : k < 1000000) : en_tr G (.ref k) = .ref (G.2.1 + k) := if_pos h
theorem en_isref {G : en_G} {U : State} {H : Heap} (h : en_Z G U H) (k : Nat) : en_tr G (.ref k) = .null ∨ ∃ a, en_tr G (.ref k) = .ref a := by
  by_cases q : k < 1000000
  · exact Or.inr ⟨_, en_tr_ref G q⟩
  · have e : en_tr G (.ref k) = G.2.2.2.2.1 k := if_neg q
    rw [e]; exact h.1 k
theorem en_cat {G : en_G} {U : State} {H : Heap} (h : en_Z G U H) (v : Value) : (en_tr G v).category = v.category := by
  cases v with
  | ref k => rcases en_isref h k with e | ⟨a, e⟩ <;> rw [e] <;> rfl
  | _ => rfl
theorem en_cats {G : en_G} {U : State} {H : Heap} (h : en_Z G U H) : ∀ l : List Value, ((l.map (en_tr G)).map fun v => v.category).sum = (l.map fun v => v.category).sum := by
  intro l
  induction l with
  | nil => rfl
  | cons a l ih => simp only [List.map_cons, List.sum_cons, ih, en_cat h]
def en_lw (G : en_G) (ls : List Value) : List (Nat × Value) := (ls.zipIdx.filter (fun q => match q.1 with | .float _ => false | _ => true)).map (fun q => (q.2, en_tr G q.1))
theorem en_lw_mem {G : en_G} {ls : List Value} {q : Nat × Value} : q ∈ en_lw G ls ↔ ∃ v, ls[q.1]? = some v ∧ (∀ z, v ≠ .float z) ∧ q.2 = en_tr G v := by
  unfold en_lw
  constructor
  · intro h
    obtain ⟨x, h1, h2⟩ := List.mem_map.mp h
    obtain ⟨h3, h4⟩ := List.mem_filter.mp h1
    have h5 := List.mem_zipIdx_iff_getElem?.mp h3
    subst h2
    refine ⟨x.1, h5, fun z e => ?_, rfl⟩
    rw [e] at h4
    simp at h4
  · rintro ⟨v, h1, h2, h3⟩
    refine List.mem_map.mpr ⟨(v, q.1), List.mem_filter.mpr ⟨List.mem_zipIdx_iff_getElem?.mpr h1, ?_⟩, by rw [← h3]⟩
    cases v <;> first | rfl | exact absurd rfl (h2 _)
theorem en_lr_has {G : en_G} {n : Nat} {ls : List Value} {rl : Array Slot} (h : en_lr G n ls rl) : lv_has rl n (en_lw G ls) := by
  refine ⟨h.1, h.2.2.1, fun q hq => ?_⟩
  obtain ⟨v, h1, h2, h3⟩ := en_lw_mem.mp hq
  rw [h3]; exact h.2.2.2 q.1 v h1 h2
theorem en_fix_cat {v x : Value} (h : en_fix v = x) (hx : ∀ z, x ≠ .float z) : v = x ∧ ¬ x.category = 2 := by
  cases v <;> simp only [en_fix] at h <;> subst h <;> first | exact ⟨rfl, by simp [Value.category]⟩ | exact absurd rfl (hx _)
theorem en_set1_at {ls : List Value} {i j : Nat} {v x : Value} (h : (en_set1 ls i v)[j]? = some x) (hx : ∀ z, x ≠ .float z) : (j = i ∧ x = v) ∨ (j ≠ i ∧ ls[j]? = some x ∧ ¬ (j + 1 = i ∧ x.category = 2)) := by
  cases i with
  | zero =>
    simp only [en_set1, List.getElem?_set] at h
    by_cases e : 0 = j
    · subst e
      by_cases e2 : 0 < ls.length
      · rw [if_pos rfl, if_pos e2] at h
        exact Or.inl ⟨rfl, (Option.some.inj h).symm⟩
      · rw [if_pos rfl, if_neg e2] at h; cases h
    · rw [if_neg e] at h
      exact Or.inr ⟨Ne.symm e, h, fun z => by omega⟩
  | succ i =>
    simp only [en_set1, List.getElem?_set, List.getElem?_modify, List.length_modify] at h
    by_cases e : i + 1 = j
    · subst e
      by_cases e2 : i + 1 < ls.length
      · rw [if_pos rfl, if_pos e2] at h
        exact Or.inl ⟨rfl, (Option.some.inj h).symm⟩
      · rw [if_pos rfl, if_neg e2] at h; cases h
    · rw [if_neg e] at h
      refine Or.inr ⟨Ne.symm e, ?_⟩
      cases hl : ls[j]? with
      | none => rw [hl] at h; cases h
      | some a =>
        rw [hl] at h
        simp only [Option.map_eq_map, Option.map_some, Option.some.injEq] at h
        by_cases e2 : i = j
        · rw [if_pos e2] at h
          obtain ⟨q1, q2⟩ := en_fix_cat h hx
          exact ⟨by rw [q1], fun z => q2 z.2⟩
        · simp only [e2, if_false] at h
          exact ⟨by rw [← h], fun z => by omega⟩
theorem en_set1_len (ls : List Value) (i : Nat) (v : Value) : (en_set1 ls i v).length = ls.length := by cases i <;> simp [en_set1]
theorem en_set2_len (ls : List Value) (i : Nat) (v : Value) : (en_set2 ls i v).length = ls.length := by simp [en_set2, en_set1_len]
/-- the locals behind a store of one slot -/
theorem en_lr_store {G : en_G} {U : State} {H : Heap} (hZ : en_Z G U H) {n i : Nat} {ls : List Value} {rl rl' : Array Slot} {v : Value} (h : en_lr G n ls rl) (h' : lv_has rl' n ((i, en_tr G v) :: (en_lw G ls).filter (fun q => !(q.1 == i) && !(q.1 + 1 == i && q.2.category == 2)))) : en_lr G n (en_set1 ls i v) rl' := by
  refine ⟨h'.1, by rw [en_set1_len]; exact h.2.1, h'.2.1, fun j x hj hx => ?_⟩
  rcases en_set1_at hj hx with ⟨rfl, rfl⟩ | ⟨h1, h2, h3⟩
  · exact h'.2.2 (j, en_tr G x) List.mem_cons_self
  · refine h'.2.2 (j, en_tr G x) (List.mem_cons_of_mem _ (List.mem_filter.mpr ⟨en_lw_mem.mpr ⟨x, h2, hx, rfl⟩, ?_⟩))
    have hcat := en_cat hZ x
    simp only [Bool.and_eq_true, Bool.not_eq_true', beq_eq_false_iff_ne, ne_eq, Bool.and_eq_false_iff]
    refine ⟨h1, ?_⟩
    by_cases e2 : j + 1 = i
    · right
      rw [hcat]
      exact fun z => h3 ⟨e2, z⟩
    · left; exact e2
theorem en_lr_store2 {G : en_G} {U : State} {H : Heap} (hZ : en_Z G U H) {n i : Nat} {ls : List Value} {rl rl' : Array Slot} {v : Value} (h : en_lr G n ls rl) (h' : lv_has rl' n ((i, en_tr G v) :: (en_lw G ls).filter (fun q => !(q.1 == i) && (!(q.1 == i + 1) && !(q.1 + 1 == i && q.2.category == 2))))) : en_lr G n (en_set2 ls i v) rl' := by
  refine ⟨h'.1, by rw [en_set2_len]; exact h.2.1, h'.2.1, fun j x hj hx => ?_⟩
  unfold en_set2 at hj
  rw [List.getElem?_set] at hj
  by_cases e0 : i + 1 = j
  · rw [if_pos e0] at hj
    split at hj
    · exact absurd (Option.some.inj hj).symm (hx 0)
    · cases hj
  · rw [if_neg e0] at hj
    rcases en_set1_at hj hx with ⟨rfl, rfl⟩ | ⟨h1, h2, h3⟩
    · exact h'.2.2 (j, en_tr G x) List.mem_cons_self
    · refine h'.2.2 (j, en_tr G x) (List.mem_cons_of_mem _ (List.mem_filter.mpr ⟨en_lw_mem.mpr ⟨x, h2, hx, rfl⟩, ?_⟩))
      have hcat := en_cat hZ x
      simp only [Bool.and_eq_true, Bool.not_eq_true', beq_eq_false_iff_ne, ne_eq, Bool.and_eq_false_iff]
      refine ⟨h1, fun z => e0 z.symm, ?_⟩
      by_cases e2 : j + 1 = i
      · right
        rw [hcat]
        exact fun z => h3 ⟨e2, z⟩
      · left; exact e2

section
variable {G : en_G} {Y : en_Y} {d : Nat} {w w' : en_Wd} {K : en_K} {k kt kf : en_Kont} {pc : Nat} {ls st : List Value} {hi : en_I} {hl : en_L} {hr : en_F} {uc us : Nat}
def o_iadd  (k : en_Kont) : en_Kont := fun ls st hi hl hr uc us => match st with
  | .int y :: .int x :: r => k ls (.int (x + y) :: r) hi hl hr uc us
  | _ => False
theorem oe_iadd  {y : Int32} {x : Int32} {r : List Value} : o_iadd  k ls (.int y :: .int x :: r) hi hl hr uc us = (k ls (.int (x + y) :: r) hi hl hr uc us) := rfl
theorem sn_iadd  (hd : decode Y.2.1 pc = .ok (.iadd, 1))  (hk : en_S G Y d w w' K k (pc + 1)) : en_S G Y d w w' K (o_iadd  k) pc := by
  intro ls st hi hl hr uc us h
  unfold o_iadd at h
  split at h
  next y x r =>
    intro p e R s m args below meth c Q xc xs hC H locs cells slots rl h1 h2 h3 h4 h5 h6
    exact lv_iadd hC.1.1 hC.1.2.1 hd (hk _ _ _ _ _ _ _ h p e R s m args below meth c Q xc xs hC H locs cells slots rl h1 h2 h3 h4 h5 h6)
  next => exact h.elim
def o_isub  (k : en_Kont) : en_Kont := fun ls st hi hl hr uc us => match st with
  | .int y :: .int x :: r => k ls (.int (x - y) :: r) hi hl hr uc us
  | _ => False
theorem oe_isub  {y : Int32} {x : Int32} {r : List Value} : o_isub  k ls (.int y :: .int x :: r) hi hl hr uc us = (k ls (.int (x - y) :: r) hi hl hr uc us) := rfl
theorem sn_isub  (hd : decode Y.2.1 pc = .ok (.isub, 1))  (hk : en_S G Y d w w' K k (pc + 1)) : en_S G Y d w w' K (o_isub  k) pc := by
  intro ls st hi hl hr uc us h
  unfold o_isub at h
  split at h
  next y x r =>
    intro p e R s m args below meth c Q xc xs hC H locs cells slots rl h1 h2 h3 h4 h5 h6
    exact lv_isub hC.1.1 hC.1.2.1 hd (hk _ _ _ _ _ _ _ h p e R s m args below meth c Q xc xs hC H locs cells slots rl h1 h2 h3 h4 h5 h6)
  next => exact h.elim
def o_imul  (k : en_Kont) : en_Kont := fun ls st hi hl hr uc us => match st with
  | .int y :: .int x :: r => k ls (.int (x * y) :: r) hi hl hr uc us
  | _ => False
theorem oe_imul  {y : Int32} {x : Int32} {r : List Value} : o_imul  k ls (.int y :: .int x :: r) hi hl hr uc us = (k ls (.int (x * y) :: r) hi hl hr uc us) := rfl
theorem sn_imul  (hd : decode Y.2.1 pc = .ok (.imul, 1))  (hk : en_S G Y d w w' K k (pc + 1)) : en_S G Y d w w' K (o_imul  k) pc := by
  intro ls st hi hl hr uc us h
  unfold o_imul at h
  split at h
  next y x r =>
    intro p e R s m args below meth c Q xc xs hC H locs cells slots rl h1 h2 h3 h4 h5 h6
    exact lv_imul hC.1.1 hC.1.2.1 hd (hk _ _ _ _ _ _ _ h p e R s m args below meth c Q xc xs hC H locs cells slots rl h1 h2 h3 h4 h5 h6)
  next => exact h.elim
def o_iand  (k : en_Kont) : en_Kont := fun ls st hi hl hr uc us => match st with
  | .int y :: .int x :: r => k ls (.int (x &&& y) :: r) hi hl hr uc us
  | _ => False
theorem oe_iand  {y : Int32} {x : Int32} {r : List Value} : o_iand  k ls (.int y :: .int x :: r) hi hl hr uc us = (k ls (.int (x &&& y) :: r) hi hl hr uc us) := rfl
theorem sn_iand  (hd : decode Y.2.1 pc = .ok (.iand, 1))  (hk : en_S G Y d w w' K k (pc + 1)) : en_S G Y d w w' K (o_iand  k) pc := by
  intro ls st hi hl hr uc us h
  unfold o_iand at h
  split at h
  next y x r =>
    intro p e R s m args below meth c Q xc xs hC H locs cells slots rl h1 h2 h3 h4 h5 h6
    exact lv_iand hC.1.1 hC.1.2.1 hd (hk _ _ _ _ _ _ _ h p e R s m args below meth c Q xc xs hC H locs cells slots rl h1 h2 h3 h4 h5 h6)
  next => exact h.elim
def o_ior  (k : en_Kont) : en_Kont := fun ls st hi hl hr uc us => match st with
  | .int y :: .int x :: r => k ls (.int (x ||| y) :: r) hi hl hr uc us
  | _ => False
theorem oe_ior  {y : Int32} {x : Int32} {r : List Value} : o_ior  k ls (.int y :: .int x :: r) hi hl hr uc us = (k ls (.int (x ||| y) :: r) hi hl hr uc us) := rfl
theorem sn_ior  (hd : decode Y.2.1 pc = .ok (.ior, 1))  (hk : en_S G Y d w w' K k (pc + 1)) : en_S G Y d w w' K (o_ior  k) pc := by
  intro ls st hi hl hr uc us h
  unfold o_ior at h
  split at h
  next y x r =>
    intro p e R s m args below meth c Q xc xs hC H locs cells slots rl h1 h2 h3 h4 h5 h6
    exact lv_ior hC.1.1 hC.1.2.1 hd (hk _ _ _ _ _ _ _ h p e R s m args below meth c Q xc xs hC H locs cells slots rl h1 h2 h3 h4 h5 h6)
  next => exact h.elim
def o_ishl  (k : en_Kont) : en_Kont := fun ls st hi hl hr uc us => match st with
  | .int y :: .int x :: r => k ls (.int (x <<< (y &&& 31)) :: r) hi hl hr uc us
  | _ => False
theorem oe_ishl  {y : Int32} {x : Int32} {r : List Value} : o_ishl  k ls (.int y :: .int x :: r) hi hl hr uc us = (k ls (.int (x <<< (y &&& 31)) :: r) hi hl hr uc us) := rfl
theorem sn_ishl  (hd : decode Y.2.1 pc = .ok (.ishl, 1))  (hk : en_S G Y d w w' K k (pc + 1)) : en_S G Y d w w' K (o_ishl  k) pc := by
  intro ls st hi hl hr uc us h
  unfold o_ishl at h
  split at h
  next y x r =>
    intro p e R s m args below meth c Q xc xs hC H locs cells slots rl h1 h2 h3 h4 h5 h6
    exact lv_ishl hC.1.1 hC.1.2.1 hd (hk _ _ _ _ _ _ _ h p e R s m args below meth c Q xc xs hC H locs cells slots rl h1 h2 h3 h4 h5 h6)
  next => exact h.elim
def o_ishr  (k : en_Kont) : en_Kont := fun ls st hi hl hr uc us => match st with
  | .int y :: .int x :: r => k ls (.int (x >>> (y &&& 31)) :: r) hi hl hr uc us
  | _ => False
theorem oe_ishr  {y : Int32} {x : Int32} {r : List Value} : o_ishr  k ls (.int y :: .int x :: r) hi hl hr uc us = (k ls (.int (x >>> (y &&& 31)) :: r) hi hl hr uc us) := rfl
theorem sn_ishr  (hd : decode Y.2.1 pc = .ok (.ishr, 1))  (hk : en_S G Y d w w' K k (pc + 1)) : en_S G Y d w w' K (o_ishr  k) pc := by
  intro ls st hi hl hr uc us h
  unfold o_ishr at h
  split at h
  next y x r =>
    intro p e R s m args below meth c Q xc xs hC H locs cells slots rl h1 h2 h3 h4 h5 h6
    exact lv_ishr hC.1.1 hC.1.2.1 hd (hk _ _ _ _ _ _ _ h p e R s m args below meth c Q xc xs hC H locs cells slots rl h1 h2 h3 h4 h5 h6)
  next => exact h.elim
def o_iushr  (k : en_Kont) : en_Kont := fun ls st hi hl hr uc us => match st with
  | .int y :: .int x :: r => k ls (.int ((x.toUInt32 >>> (y.toUInt32 &&& Int32.toUInt32 31)).toInt32) :: r) hi hl hr uc us
  | _ => False
theorem oe_iushr  {y : Int32} {x : Int32} {r : List Value} : o_iushr  k ls (.int y :: .int x :: r) hi hl hr uc us = (k ls (.int ((x.toUInt32 >>> (y.toUInt32 &&& Int32.toUInt32 31)).toInt32) :: r) hi hl hr uc us) := rfl
theorem sn_iushr  (hd : decode Y.2.1 pc = .ok (.iushr, 1))  (hk : en_S G Y d w w' K k (pc + 1)) : en_S G Y d w w' K (o_iushr  k) pc := by
  intro ls st hi hl hr uc us h
  unfold o_iushr at h
  split at h
  next y x r =>
    intro p e R s m args below meth c Q xc xs hC H locs cells slots rl h1 h2 h3 h4 h5 h6
    exact lv_iushr hC.1.1 hC.1.2.1 hd rfl (hk _ _ _ _ _ _ _ h p e R s m args below meth c Q xc xs hC H locs cells slots rl h1 h2 h3 h4 h5 h6)
  next => exact h.elim
def o_idiv  (k : en_Kont) : en_Kont := fun ls st hi hl hr uc us => match st with
  | .int y :: .int x :: r => ¬ y = 0 ∧ k ls (.int (x / y) :: r) hi hl hr uc us
  | _ => False
theorem oe_idiv  {y : Int32} {x : Int32} {r : List Value} : o_idiv  k ls (.int y :: .int x :: r) hi hl hr uc us = (¬ y = 0 ∧ k ls (.int (x / y) :: r) hi hl hr uc us) := rfl
theorem sn_idiv  (hd : decode Y.2.1 pc = .ok (.idiv, 1))  (hk : en_S G Y d w w' K k (pc + 1)) : en_S G Y d w w' K (o_idiv  k) pc := by
  intro ls st hi hl hr uc us h
  unfold o_idiv at h
  split at h
  next y x r =>
    intro p e R s m args below meth c Q xc xs hC H locs cells slots rl h1 h2 h3 h4 h5 h6
    exact lv_idiv hC.1.1 hC.1.2.1 hd h.1 (hk _ _ _ _ _ _ _ h.2 p e R s m args below meth c Q xc xs hC H locs cells slots rl h1 h2 h3 h4 h5 h6)
  next => exact h.elim
def o_irem  (k : en_Kont) : en_Kont := fun ls st hi hl hr uc us => match st with
  | .int y :: .int x :: r => ¬ y = 0 ∧ k ls (.int (x - x / y * y) :: r) hi hl hr uc us
  | _ => False
theorem oe_irem  {y : Int32} {x : Int32} {r : List Value} : o_irem  k ls (.int y :: .int x :: r) hi hl hr uc us = (¬ y = 0 ∧ k ls (.int (x - x / y * y) :: r) hi hl hr uc us) := rfl
theorem sn_irem  (hd : decode Y.2.1 pc = .ok (.irem, 1))  (hk : en_S G Y d w w' K k (pc + 1)) : en_S G Y d w w' K (o_irem  k) pc := by
  intro ls st hi hl hr uc us h
  unfold o_irem at h
  split at h
  next y x r =>
    intro p e R s m args below meth c Q xc xs hC H locs cells slots rl h1 h2 h3 h4 h5 h6
    exact lv_irem hC.1.1 hC.1.2.1 hd h.1 (hk _ _ _ _ _ _ _ h.2 p e R s m args below meth c Q xc xs hC H locs cells slots rl h1 h2 h3 h4 h5 h6)
  next => exact h.elim
def o_ineg  (k : en_Kont) : en_Kont := fun ls st hi hl hr uc us => match st with
  | .int x :: r => k ls (.int (-x) :: r) hi hl hr uc us
  | _ => False
theorem oe_ineg  {x : Int32} {r : List Value} : o_ineg  k ls (.int x :: r) hi hl hr uc us = (k ls (.int (-x) :: r) hi hl hr uc us) := rfl
theorem sn_ineg  (hd : decode Y.2.1 pc = .ok (.ineg, 1))  (hk : en_S G Y d w w' K k (pc + 1)) : en_S G Y d w w' K (o_ineg  k) pc := by
  intro ls st hi hl hr uc us h
  unfold o_ineg at h
  split at h
  next x r =>
    intro p e R s m args below meth c Q xc xs hC H locs cells slots rl h1 h2 h3 h4 h5 h6
    exact lv_ineg hC.1.1 hC.1.2.1 hd (hk _ _ _ _ _ _ _ h p e R s m args below meth c Q xc xs hC H locs cells slots rl h1 h2 h3 h4 h5 h6)
  next => exact h.elim
def o_ladd  (k : en_Kont) : en_Kont := fun ls st hi hl hr uc us => match st with
  | .long Z :: .long X :: r => k ls (.long (X + Z) :: r) hi hl hr uc us
  | _ => False
theorem oe_ladd  {Z : Int64} {X : Int64} {r : List Value} : o_ladd  k ls (.long Z :: .long X :: r) hi hl hr uc us = (k ls (.long (X + Z) :: r) hi hl hr uc us) := rfl
theorem sn_ladd  (hd : decode Y.2.1 pc = .ok (.ladd, 1))  (hk : en_S G Y d w w' K k (pc + 1)) : en_S G Y d w w' K (o_ladd  k) pc := by
  intro ls st hi hl hr uc us h
  unfold o_ladd at h
  split at h
  next Z X r =>
    intro p e R s m args below meth c Q xc xs hC H locs cells slots rl h1 h2 h3 h4 h5 h6
    exact lv_ladd hC.1.1 hC.1.2.1 hd (hk _ _ _ _ _ _ _ h p e R s m args below meth c Q xc xs hC H locs cells slots rl h1 h2 h3 h4 h5 h6)
  next => exact h.elim
def o_lmul  (k : en_Kont) : en_Kont := fun ls st hi hl hr uc us => match st with
  | .long Z :: .long X :: r => k ls (.long (X * Z) :: r) hi hl hr uc us
  | _ => False
theorem oe_lmul  {Z : Int64} {X : Int64} {r : List Value} : o_lmul  k ls (.long Z :: .long X :: r) hi hl hr uc us = (k ls (.long (X * Z) :: r) hi hl hr uc us) := rfl
theorem sn_lmul  (hd : decode Y.2.1 pc = .ok (.lmul, 1))  (hk : en_S G Y d w w' K k (pc + 1)) : en_S G Y d w w' K (o_lmul  k) pc := by
  intro ls st hi hl hr uc us h
  unfold o_lmul at h
  split at h
  next Z X r =>
    intro p e R s m args below meth c Q xc xs hC H locs cells slots rl h1 h2 h3 h4 h5 h6
    exact lv_lmul hC.1.1 hC.1.2.1 hd (hk _ _ _ _ _ _ _ h p e R s m args below meth c Q xc xs hC H locs cells slots rl h1 h2 h3 h4 h5 h6)
  next => exact h.elim
def o_ldiv  (k : en_Kont) : en_Kont := fun ls st hi hl hr uc us => match st with
  | .long Z :: .long X :: r => ¬ Z = 0 ∧ k ls (.long (X / Z) :: r) hi hl hr uc us
  | _ => False
theorem oe_ldiv  {Z : Int64} {X : Int64} {r : List Value} : o_ldiv  k ls (.long Z :: .long X :: r) hi hl hr uc us = (¬ Z = 0 ∧ k ls (.long (X / Z) :: r) hi hl hr uc us) := rfl
theorem sn_ldiv  (hd : decode Y.2.1 pc = .ok (.ldiv, 1))  (hk : en_S G Y d w w' K k (pc + 1)) : en_S G Y d w w' K (o_ldiv  k) pc := by
  intro ls st hi hl hr uc us h
  unfold o_ldiv at h
  split at h
  next Z X r =>
    intro p e R s m args below meth c Q xc xs hC H locs cells slots rl h1 h2 h3 h4 h5 h6
    exact lv_ldiv hC.1.1 hC.1.2.1 hd h.1 (hk _ _ _ _ _ _ _ h.2 p e R s m args below meth c Q xc xs hC H locs cells slots rl h1 h2 h3 h4 h5 h6)
  next => exact h.elim
def o_lrem  (k : en_Kont) : en_Kont := fun ls st hi hl hr uc us => match st with
  | .long Z :: .long X :: r => ¬ Z = 0 ∧ k ls (.long (X - X / Z * Z) :: r) hi hl hr uc us
  | _ => False
theorem oe_lrem  {Z : Int64} {X : Int64} {r : List Value} : o_lrem  k ls (.long Z :: .long X :: r) hi hl hr uc us = (¬ Z = 0 ∧ k ls (.long (X - X / Z * Z) :: r) hi hl hr uc us) := rfl
theorem sn_lrem  (hd : decode Y.2.1 pc = .ok (.lrem, 1))  (hk : en_S G Y d w w' K k (pc + 1)) : en_S G Y d w w' K (o_lrem  k) pc := by
  intro ls st hi hl hr uc us h
  unfold o_lrem at h
  split at h
  next Z X r =>
    intro p e R s m args below meth c Q xc xs hC H locs cells slots rl h1 h2 h3 h4 h5 h6
    exact lv_lrem hC.1.1 hC.1.2.1 hd h.1 (hk _ _ _ _ _ _ _ h.2 p e R s m args below meth c Q xc xs hC H locs cells slots rl h1 h2 h3 h4 h5 h6)
  next => exact h.elim
def o_lcmp  (k : en_Kont) : en_Kont := fun ls st hi hl hr uc us => match st with
  | .long Z :: .long X :: r => k ls (.int (lg_cmp X Z) :: r) hi hl hr uc us
  | _ => False
theorem oe_lcmp  {Z : Int64} {X : Int64} {r : List Value} : o_lcmp  k ls (.long Z :: .long X :: r) hi hl hr uc us = (k ls (.int (lg_cmp X Z) :: r) hi hl hr uc us) := rfl
theorem sn_lcmp  (hd : decode Y.2.1 pc = .ok (.lcmp, 1))  (hk : en_S G Y d w w' K k (pc + 1)) : en_S G Y d w w' K (o_lcmp  k) pc := by
  intro ls st hi hl hr uc us h
  unfold o_lcmp at h
  split at h
  next Z X r =>
    intro p e R s m args below meth c Q xc xs hC H locs cells slots rl h1 h2 h3 h4 h5 h6
    exact W.lcmp hC.1.1 hC.1.2.1 hd (hk _ _ _ _ _ _ _ h p e R s m args below meth c Q xc xs hC H locs cells slots rl h1 h2 h3 h4 h5 h6)
  next => exact h.elim
def o_i2l  (k : en_Kont) : en_Kont := fun ls st hi hl hr uc us => match st with
  | .int x :: r => k ls (.long x.toInt64 :: r) hi hl hr uc us
  | _ => False
theorem oe_i2l  {x : Int32} {r : List Value} : o_i2l  k ls (.int x :: r) hi hl hr uc us = (k ls (.long x.toInt64 :: r) hi hl hr uc us) := rfl
theorem sn_i2l  (hd : decode Y.2.1 pc = .ok (.i2l, 1))  (hk : en_S G Y d w w' K k (pc + 1)) : en_S G Y d w w' K (o_i2l  k) pc := by
  intro ls st hi hl hr uc us h
  unfold o_i2l at h
  split at h
  next x r =>
    intro p e R s m args below meth c Q xc xs hC H locs cells slots rl h1 h2 h3 h4 h5 h6
    exact lv_i2l hC.1.1 hC.1.2.1 hd rfl (hk _ _ _ _ _ _ _ h p e R s m args below meth c Q xc xs hC H locs cells slots rl h1 h2 h3 h4 h5 h6)
  next => exact h.elim
def o_l2i  (k : en_Kont) : en_Kont := fun ls st hi hl hr uc us => match st with
  | .long X :: r => k ls (.int X.toInt32 :: r) hi hl hr uc us
  | _ => False
theorem oe_l2i  {X : Int64} {r : List Value} : o_l2i  k ls (.long X :: r) hi hl hr uc us = (k ls (.int X.toInt32 :: r) hi hl hr uc us) := rfl
theorem sn_l2i  (hd : decode Y.2.1 pc = .ok (.l2i, 1))  (hk : en_S G Y d w w' K k (pc + 1)) : en_S G Y d w w' K (o_l2i  k) pc := by
  intro ls st hi hl hr uc us h
  unfold o_l2i at h
  split at h
  next X r =>
    intro p e R s m args below meth c Q xc xs hC H locs cells slots rl h1 h2 h3 h4 h5 h6
    exact lv_l2i hC.1.1 hC.1.2.1 hd rfl (hk _ _ _ _ _ _ _ h p e R s m args below meth c Q xc xs hC H locs cells slots rl h1 h2 h3 h4 h5 h6)
  next => exact h.elim
def o_i2b  (k : en_Kont) : en_Kont := fun ls st hi hl hr uc us => match st with
  | .int x :: r => k ls (.int x.toInt8.toInt32 :: r) hi hl hr uc us
  | _ => False
theorem oe_i2b  {x : Int32} {r : List Value} : o_i2b  k ls (.int x :: r) hi hl hr uc us = (k ls (.int x.toInt8.toInt32 :: r) hi hl hr uc us) := rfl
theorem sn_i2b  (hd : decode Y.2.1 pc = .ok (.i2b, 1))  (hk : en_S G Y d w w' K k (pc + 1)) : en_S G Y d w w' K (o_i2b  k) pc := by
  intro ls st hi hl hr uc us h
  unfold o_i2b at h
  split at h
  next x r =>
    intro p e R s m args below meth c Q xc xs hC H locs cells slots rl h1 h2 h3 h4 h5 h6
    exact lv_i2b hC.1.1 hC.1.2.1 hd rfl (hk _ _ _ _ _ _ _ h p e R s m args below meth c Q xc xs hC H locs cells slots rl h1 h2 h3 h4 h5 h6)
  next => exact h.elim
def o_i2c  (k : en_Kont) : en_Kont := fun ls st hi hl hr uc us => match st with
  | .int x :: r => k ls (.int (x.toUInt32 % 65536).toInt32 :: r) hi hl hr uc us
  | _ => False
theorem oe_i2c  {x : Int32} {r : List Value} : o_i2c  k ls (.int x :: r) hi hl hr uc us = (k ls (.int (x.toUInt32 % 65536).toInt32 :: r) hi hl hr uc us) := rfl
theorem sn_i2c  (hd : decode Y.2.1 pc = .ok (.i2c, 1))  (hk : en_S G Y d w w' K k (pc + 1)) : en_S G Y d w w' K (o_i2c  k) pc := by
  intro ls st hi hl hr uc us h
  unfold o_i2c at h
  split at h
  next x r =>
    intro p e R s m args below meth c Q xc xs hC H locs cells slots rl h1 h2 h3 h4 h5 h6
    exact lv_i2c hC.1.1 hC.1.2.1 hd rfl (hk _ _ _ _ _ _ _ h p e R s m args below meth c Q xc xs hC H locs cells slots rl h1 h2 h3 h4 h5 h6)
  next => exact h.elim
def o_pop  (k : en_Kont) : en_Kont := fun ls st hi hl hr uc us => match st with
  | .int x :: r => k ls (r) hi hl hr uc us
  | _ => False
theorem oe_pop  {x : Int32} {r : List Value} : o_pop  k ls (.int x :: r) hi hl hr uc us = (k ls (r) hi hl hr uc us) := rfl
theorem sn_pop  (hd : decode Y.2.1 pc = .ok (.pop, 1))  (hk : en_S G Y d w w' K k (pc + 1)) : en_S G Y d w w' K (o_pop  k) pc := by
  intro ls st hi hl hr uc us h
  unfold o_pop at h
  split at h
  next x r =>
    intro p e R s m args below meth c Q xc xs hC H locs cells slots rl h1 h2 h3 h4 h5 h6
    exact lv_pop hC.1.1 hC.1.2.1 hd rfl (hk _ _ _ _ _ _ _ h p e R s m args below meth c Q xc xs hC H locs cells slots rl h1 h2 h3 h4 h5 h6)
  next => exact h.elim
def o_popr  (k : en_Kont) : en_Kont := fun ls st hi hl hr uc us => match st with
  | .ref n :: r => k ls (r) hi hl hr uc us
  | _ => False
theorem oe_popr  {n : Nat} {r : List Value} : o_popr  k ls (.ref n :: r) hi hl hr uc us = (k ls (r) hi hl hr uc us) := rfl
theorem sn_popr  (hd : decode Y.2.1 pc = .ok (.pop, 1))  (hk : en_S G Y d w w' K k (pc + 1)) : en_S G Y d w w' K (o_popr  k) pc := by
  intro ls st hi hl hr uc us h
  unfold o_popr at h
  split at h
  next n r =>
    intro p e R s m args below meth c Q xc xs hC H locs cells slots rl h1 h2 h3 h4 h5 h6
    exact lv_pop hC.1.1 hC.1.2.1 hd (en_cat h2.2.2.2.2 (.ref n)) (hk _ _ _ _ _ _ _ h p e R s m args below meth c Q xc xs hC H locs cells slots rl h1 h2 h3 h4 h5 h6)
  next => exact h.elim
def o_dupr  (k : en_Kont) : en_Kont := fun ls st hi hl hr uc us => match st with
  | .ref n :: r => k ls (.ref n :: .ref n :: r) hi hl hr uc us
  | _ => False
theorem oe_dupr  {n : Nat} {r : List Value} : o_dupr  k ls (.ref n :: r) hi hl hr uc us = (k ls (.ref n :: .ref n :: r) hi hl hr uc us) := rfl
theorem sn_dupr  (hd : decode Y.2.1 pc = .ok (.dup, 1))  (hk : en_S G Y d w w' K k (pc + 1)) : en_S G Y d w w' K (o_dupr  k) pc := by
  intro ls st hi hl hr uc us h
  unfold o_dupr at h
  split at h
  next n r =>
    intro p e R s m args below meth c Q xc xs hC H locs cells slots rl h1 h2 h3 h4 h5 h6
    exact lv_dup hC.1.1 hC.1.2.1 hd (en_cat h2.2.2.2.2 (.ref n)) (hk _ _ _ _ _ _ _ h p e R s m args below meth c Q xc xs hC H locs cells slots rl h1 h2 h3 h4 h5 h6)
  next => exact h.elim
def o_dupi  (k : en_Kont) : en_Kont := fun ls st hi hl hr uc us => match st with
  | .int x :: r => k ls (.int x :: .int x :: r) hi hl hr uc us
  | _ => False
theorem oe_dupi  {x : Int32} {r : List Value} : o_dupi  k ls (.int x :: r) hi hl hr uc us = (k ls (.int x :: .int x :: r) hi hl hr uc us) := rfl
theorem sn_dupi  (hd : decode Y.2.1 pc = .ok (.dup, 1))  (hk : en_S G Y d w w' K k (pc + 1)) : en_S G Y d w w' K (o_dupi  k) pc := by
  intro ls st hi hl hr uc us h
  unfold o_dupi at h
  split at h
  next x r =>
    intro p e R s m args below meth c Q xc xs hC H locs cells slots rl h1 h2 h3 h4 h5 h6
    exact lv_dup hC.1.1 hC.1.2.1 hd rfl (hk _ _ _ _ _ _ _ h p e R s m args below meth c Q xc xs hC H locs cells slots rl h1 h2 h3 h4 h5 h6)
  next => exact h.elim
def o_dup2  (k : en_Kont) : en_Kont := fun ls st hi hl hr uc us => match st with
  | .int x :: .ref n :: r => k ls (.int x :: .ref n :: .int x :: .ref n :: r) hi hl hr uc us
  | _ => False
theorem oe_dup2  {x : Int32} {n : Nat} {r : List Value} : o_dup2  k ls (.int x :: .ref n :: r) hi hl hr uc us = (k ls (.int x :: .ref n :: .int x :: .ref n :: r) hi hl hr uc us) := rfl
theorem sn_dup2  (hd : decode Y.2.1 pc = .ok (.dup2, 1))  (hk : en_S G Y d w w' K k (pc + 1)) : en_S G Y d w w' K (o_dup2  k) pc := by
  intro ls st hi hl hr uc us h
  unfold o_dup2 at h
  split at h
  next x n r =>
    intro p e R s m args below meth c Q xc xs hC H locs cells slots rl h1 h2 h3 h4 h5 h6
    exact lv_dup2_11 hC.1.1 hC.1.2.1 hd rfl (en_cat h2.2.2.2.2 (.ref n)) (hk _ _ _ _ _ _ _ h p e R s m args below meth c Q xc xs hC H locs cells slots rl h1 h2 h3 h4 h5 h6)
  next => exact h.elim
def o_iconst (z : Int) (k : en_Kont) : en_Kont := fun ls st hi hl hr uc us => k ls (.int (iI z) :: st) hi hl hr uc us
theorem oe_iconst {z : Int} : o_iconst z k ls st hi hl hr uc us = k ls (.int (iI z) :: st) hi hl hr uc us := rfl
theorem sn_iconst {z : Int}  (hd : decode Y.2.1 pc = .ok (.iconst z, 1)) (hk : en_S G Y d w w' K k (pc + 1)) : en_S G Y d w w' K (o_iconst z k) pc := by
  intro ls st hi hl hr uc us h
  intro p e R s m args below meth c Q xc xs hC H locs cells slots rl h1 h2 h3 h4 h5 h6
  exact lv_iconst hC.1.1 hC.1.2.1 hd rfl (hk _ _ _ _ _ _ _ h p e R s m args below meth c Q xc xs hC H locs cells slots rl h1 h2 h3 h4 h5 h6)
def o_bipush (z : Int) (k : en_Kont) : en_Kont := fun ls st hi hl hr uc us => k ls (.int (iI z) :: st) hi hl hr uc us
theorem oe_bipush {z : Int} : o_bipush z k ls st hi hl hr uc us = k ls (.int (iI z) :: st) hi hl hr uc us := rfl
theorem sn_bipush {z : Int} (hz : (Int8.ofInt z).toInt32 = iI z) (hd : decode Y.2.1 pc = .ok (.bipush z, 2)) (hk : en_S G Y d w w' K k (pc + 2)) : en_S G Y d w w' K (o_bipush z k) pc := by
  intro ls st hi hl hr uc us h
  intro p e R s m args below meth c Q xc xs hC H locs cells slots rl h1 h2 h3 h4 h5 h6
  exact lv_bipush hC.1.1 hC.1.2.1 hd hz (hk _ _ _ _ _ _ _ h p e R s m args below meth c Q xc xs hC H locs cells slots rl h1 h2 h3 h4 h5 h6)
def o_sipush (z : Int) (k : en_Kont) : en_Kont := fun ls st hi hl hr uc us => k ls (.int (iI z) :: st) hi hl hr uc us
theorem oe_sipush {z : Int} : o_sipush z k ls st hi hl hr uc us = k ls (.int (iI z) :: st) hi hl hr uc us := rfl
theorem sn_sipush {z : Int} (hz : (Int16.ofInt z).toInt32 = iI z) (hd : decode Y.2.1 pc = .ok (.sipush z, 3)) (hk : en_S G Y d w w' K k (pc + 3)) : en_S G Y d w w' K (o_sipush z k) pc := by
  intro ls st hi hl hr uc us h
  intro p e R s m args below meth c Q xc xs hC H locs cells slots rl h1 h2 h3 h4 h5 h6
  exact lv_sipush hC.1.1 hC.1.2.1 hd hz (hk _ _ _ _ _ _ _ h p e R s m args below meth c Q xc xs hC H locs cells slots rl h1 h2 h3 h4 h5 h6)
def o_lconst (z : Int) (k : en_Kont) : en_Kont := fun ls st hi hl hr uc us => k ls (.long (jL z) :: st) hi hl hr uc us
theorem oe_lconst {z : Int} : o_lconst z k ls st hi hl hr uc us = k ls (.long (jL z) :: st) hi hl hr uc us := rfl
theorem sn_lconst {z : Int} {q : Fin 2} (hz : Int64.ofNat (q : Nat) = jL z) (hd : decode Y.2.1 pc = .ok (.lconst q, 1)) (hk : en_S G Y d w w' K k (pc + 1)) : en_S G Y d w w' K (o_lconst z k) pc := by
  intro ls st hi hl hr uc us h
  intro p e R s m args below meth c Q xc xs hC H locs cells slots rl h1 h2 h3 h4 h5 h6
  exact lv_lconst hC.1.1 hC.1.2.1 hd hz (hk _ _ _ _ _ _ _ h p e R s m args below meth c Q xc xs hC H locs cells slots rl h1 h2 h3 h4 h5 h6)
def o_ldc (z : Int) (k : en_Kont) : en_Kont := fun ls st hi hl hr uc us => k ls (.int (iI z) :: st) hi hl hr uc us
theorem oe_ldc {z : Int} : o_ldc z k ls st hi hl hr uc us = k ls (.int (iI z) :: st) hi hl hr uc us := rfl
theorem sn_ldc {z : Int} {i : Nat} (hw : Cond.constant Y.1.cls i (iI z) ∈ en_T) (hd : decode Y.2.1 pc = .ok (.ldc i, 2)) (hk : en_S G Y d w w' K k (pc + 2)) : en_S G Y d w w' K (o_ldc z k) pc := by
  intro ls st hi hl hr uc us h
  intro p e R s m args below meth c Q xc xs hC H locs cells slots rl h1 h2 h3 h4 h5 h6
  exact lv_ldc hC.1.1 hC.1.2.1 hC.1.2.2.2.2.1 (hC.1.2.2.2.2.2.1 _ hw) hd (hk _ _ _ _ _ _ _ h p e R s m args below meth c Q xc xs hC H locs cells slots rl h1 h2 h3 h4 h5 h6)
def o_ldcw (z : Int) (k : en_Kont) : en_Kont := fun ls st hi hl hr uc us => k ls (.int (iI z) :: st) hi hl hr uc us
theorem oe_ldcw {z : Int} : o_ldcw z k ls st hi hl hr uc us = k ls (.int (iI z) :: st) hi hl hr uc us := rfl
theorem sn_ldcw {z : Int} {i : Nat} (hw : Cond.constant Y.1.cls i (iI z) ∈ en_T) (hd : decode Y.2.1 pc = .ok (.ldc_w i, 3)) (hk : en_S G Y d w w' K k (pc + 3)) : en_S G Y d w w' K (o_ldcw z k) pc := by
  intro ls st hi hl hr uc us h
  intro p e R s m args below meth c Q xc xs hC H locs cells slots rl h1 h2 h3 h4 h5 h6
  exact lv_ldcw hC.1.1 hC.1.2.1 hC.1.2.2.2.2.1 (hC.1.2.2.2.2.2.1 _ hw) hd (hk _ _ _ _ _ _ _ h p e R s m args below meth c Q xc xs hC H locs cells slots rl h1 h2 h3 h4 h5 h6)
def o_ldc2 (z : Int) (k : en_Kont) : en_Kont := fun ls st hi hl hr uc us => k ls (.long (jL z) :: st) hi hl hr uc us
theorem oe_ldc2 {z : Int} : o_ldc2 z k ls st hi hl hr uc us = k ls (.long (jL z) :: st) hi hl hr uc us := rfl
theorem sn_ldc2 {z : Int} {i : Nat} (hw : Cond.constantLong Y.1.cls i (jL z) ∈ en_T) (hd : decode Y.2.1 pc = .ok (.ldc2_w i, 3)) (hk : en_S G Y d w w' K k (pc + 3)) : en_S G Y d w w' K (o_ldc2 z k) pc := by
  intro ls st hi hl hr uc us h
  intro p e R s m args below meth c Q xc xs hC H locs cells slots rl h1 h2 h3 h4 h5 h6
  exact lv_ldc2 hC.1.1 hC.1.2.1 hC.1.2.2.2.2.1 (hC.1.2.2.2.2.2.1 _ hw) hd (hk _ _ _ _ _ _ _ h p e R s m args below meth c Q xc xs hC H locs cells slots rl h1 h2 h3 h4 h5 h6)
def o_iload (i : Nat) (k : en_Kont) : en_Kont := fun ls st hi hl hr uc us => match en_get ls i with
  | .int x => k ls (.int x :: st) hi hl hr uc us
  | _ => False
theorem oe_iload {i : Nat} : o_iload i k ls st hi hl hr uc us = (match en_get ls i with
  | .int x => k ls (.int x :: st) hi hl hr uc us
  | _ => False) := rfl
theorem sn_iload_n {i : Nat} {q : Fin 4} (hq : (q : Nat) = i) (hd : decode Y.2.1 pc = .ok (.iload_n q, 1)) (hk : en_S G Y d w w' K k (pc + 1)) : en_S G Y d w w' K (o_iload i k) pc := by
  intro ls st hi hl hr uc us h
  unfold o_iload at h
  split at h
  next x hx =>
    intro p e R s m args below meth c Q xc xs hC H locs cells slots rl h1 h2 h3 h4 h5 h6
    exact lv_iload_n hC.1.1 hC.1.2.1 hd hq (en_lr_get h1 hx (fun z e => by cases e)) (hk _ _ _ _ _ _ _ h p e R s m args below meth c Q xc xs hC H locs cells slots rl h1 h2 h3 h4 h5 h6)
  next => exact h.elim
theorem sn_iload {i : Nat} (hd : decode Y.2.1 pc = .ok (.iload i, 2)) (hk : en_S G Y d w w' K k (pc + 2)) : en_S G Y d w w' K (o_iload i k) pc := by
  intro ls st hi hl hr uc us h
  unfold o_iload at h
  split at h
  next x hx =>
    intro p e R s m args below meth c Q xc xs hC H locs cells slots rl h1 h2 h3 h4 h5 h6
    exact lv_iload hC.1.1 hC.1.2.1 hd (en_lr_get h1 hx (fun z e => by cases e)) (hk _ _ _ _ _ _ _ h p e R s m args below meth c Q xc xs hC H locs cells slots rl h1 h2 h3 h4 h5 h6)
  next => exact h.elim
def o_lload (i : Nat) (k : en_Kont) : en_Kont := fun ls st hi hl hr uc us => match en_get ls i with
  | .long x => k ls (.long x :: st) hi hl hr uc us
  | _ => False
theorem oe_lload {i : Nat} : o_lload i k ls st hi hl hr uc us = (match en_get ls i with
  | .long x => k ls (.long x :: st) hi hl hr uc us
  | _ => False) := rfl
theorem sn_lload_n {i : Nat} {q : Fin 4} (hq : (q : Nat) = i) (hd : decode Y.2.1 pc = .ok (.lload_n q, 1)) (hk : en_S G Y d w w' K k (pc + 1)) : en_S G Y d w w' K (o_lload i k) pc := by
  intro ls st hi hl hr uc us h
  unfold o_lload at h
  split at h
  next x hx =>
    intro p e R s m args below meth c Q xc xs hC H locs cells slots rl h1 h2 h3 h4 h5 h6
    exact lv_lload_n hC.1.1 hC.1.2.1 hd hq (en_lr_get h1 hx (fun z e => by cases e)) (hk _ _ _ _ _ _ _ h p e R s m args below meth c Q xc xs hC H locs cells slots rl h1 h2 h3 h4 h5 h6)
  next => exact h.elim
theorem sn_lload {i : Nat} (hd : decode Y.2.1 pc = .ok (.lload i, 2)) (hk : en_S G Y d w w' K k (pc + 2)) : en_S G Y d w w' K (o_lload i k) pc := by
  intro ls st hi hl hr uc us h
  unfold o_lload at h
  split at h
  next x hx =>
    intro p e R s m args below meth c Q xc xs hC H locs cells slots rl h1 h2 h3 h4 h5 h6
    exact lv_lload hC.1.1 hC.1.2.1 hd (en_lr_get h1 hx (fun z e => by cases e)) (hk _ _ _ _ _ _ _ h p e R s m args below meth c Q xc xs hC H locs cells slots rl h1 h2 h3 h4 h5 h6)
  next => exact h.elim
def o_aload (i : Nat) (k : en_Kont) : en_Kont := fun ls st hi hl hr uc us => match en_get ls i with
  | .ref x => k ls (.ref x :: st) hi hl hr uc us
  | _ => False
theorem oe_aload {i : Nat} : o_aload i k ls st hi hl hr uc us = (match en_get ls i with
  | .ref x => k ls (.ref x :: st) hi hl hr uc us
  | _ => False) := rfl
theorem sn_aload_n {i : Nat} {q : Fin 4} (hq : (q : Nat) = i) (hd : decode Y.2.1 pc = .ok (.aload_n q, 1)) (hk : en_S G Y d w w' K k (pc + 1)) : en_S G Y d w w' K (o_aload i k) pc := by
  intro ls st hi hl hr uc us h
  unfold o_aload at h
  split at h
  next x hx =>
    intro p e R s m args below meth c Q xc xs hC H locs cells slots rl h1 h2 h3 h4 h5 h6
    have hg := en_lr_get h1 hx (fun z e => by cases e)
    have hh := hk _ _ _ _ _ _ _ h p e R s m args below meth c Q xc xs hC H locs cells slots rl h1 h2 h3 h4 h5 h6
    rw [List.map_cons] at hh
    rcases en_isref h2.2.2.2.2 x with e | ⟨a, e⟩
    · rw [e] at hg hh
      exact lv_aload_nN hC.1.1 hC.1.2.1 hd hq hg hh
    · rw [e] at hg hh
      exact lv_aload_n hC.1.1 hC.1.2.1 hd hq hg hh
  next => exact h.elim
theorem sn_aload {i : Nat} (hd : decode Y.2.1 pc = .ok (.aload i, 2)) (hk : en_S G Y d w w' K k (pc + 2)) : en_S G Y d w w' K (o_aload i k) pc := by
  intro ls st hi hl hr uc us h
  unfold o_aload at h
  split at h
  next x hx =>
    intro p e R s m args below meth c Q xc xs hC H locs cells slots rl h1 h2 h3 h4 h5 h6
    have hg := en_lr_get h1 hx (fun z e => by cases e)
    have hh := hk _ _ _ _ _ _ _ h p e R s m args below meth c Q xc xs hC H locs cells slots rl h1 h2 h3 h4 h5 h6
    rw [List.map_cons] at hh
    rcases en_isref h2.2.2.2.2 x with e | ⟨a, e⟩
    · rw [e] at hg hh
      exact lv_aloadN hC.1.1 hC.1.2.1 hd hg hh
    · rw [e] at hg hh
      exact lv_aload hC.1.1 hC.1.2.1 hd hg hh
  next => exact h.elim
end