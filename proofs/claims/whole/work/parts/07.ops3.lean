section
variable {G : en_G} {Y : en_Y} {d : Nat} {w w' : en_Wd} {K : en_K} {k kt kf : en_Kont} {pc : Nat} {ls st : List Value} {hi : en_I} {hl : en_L} {hr : en_F} {uc us : Nat}
/-- what a class of the world is: its place, name, fields, their words -/
def en_Cl (ci : Nat) (C : String) (T : u_T) (N : Nat) : Prop := ci < 12 ∧ vwCl[ci]? = some (C, T, N) ∧ (∀ w ∈ u_ws C T N, w ∈ en_T) ∧ (∀ k, k < N → parseFieldDescriptor (T k).2.2.1 = some (en_tyOf ci k)) ∧ (∀ a, a < N → ∀ b, b < N → a ≠ b → (T a).2.1 ≠ (T b).2.1)
def en_fk : FieldType → Nat
  | .long => 1
  | .object _ => 2
  | .array _ => 2
  | .float => 3
  | .double => 3
  | _ => 0
theorem en_fv_I {t : FieldType} {x : Int32} {y : Int64} {v : Value} (h : en_fk t = 0) : en_fv G t x y v = .int x := by cases t <;> first | rfl | cases h
theorem en_fv_L {t : FieldType} {x : Int32} {y : Int64} {v : Value} (h : en_fk t = 1) : en_fv G t x y v = .long y := by cases t <;> first | rfl | cases h
theorem en_fv_R {t : FieldType} {x : Int32} {y : Int64} {v : Value} (h : en_fk t = 2) : en_fv G t x y v = en_tr G v := by cases t <;> first | rfl | cases h
theorem en_fs {ci N j : Nat} {fi : Nat → Int32} {fl : Nat → Int64} {fr : Nat → Value} (h : j < N) : ((List.range N).map (fun k => en_fv G (en_tyOf ci k) (fi k) (fl k) (fr k)))[j]? = some (en_fv G (en_tyOf ci j) (fi j) (fl j) (fr j)) := by
  simp [h]
/-- one field of an object written -/
theorem en_set_o {n a ci N j : Nat} {v : Value} (h : a < n) (hs : en_SH a = (ci, N)) (hc : ci < 12) {fi : Nat → Int32} {fl : Nat → Int64} {fr : Nat → Value} (hv : en_fv G (en_tyOf ci j) (fi j) (fl j) (fr j) = v) (hi1 : ∀ i, i ≠ j → fi i = hi a i) (hl1 : ∀ i, i ≠ j → fl i = hl a i) (hr1 : ∀ i, i ≠ j → fr i = hr a i) :
    (en_ws G n hi hl hr).set a (G.2.1 + a, .inr (ci, ((List.range N).map (fun k => en_fv G (en_tyOf ci k) (hi a k) (hl a k) (hr a k))).set j v)) = en_ws G n (en_row hi a fi) (en_row hl a fl) (en_row hr a fr) := by
  refine en_ws_set h ?_
  rw [hs]; unfold en_enc
  rw [if_pos (by show ci < 100; omega)]
  congr 2
  apply List.ext_getElem?
  intro i
  by_cases hij : i = j
  · subst hij
    rw [List.getElem?_set]
    by_cases hN : i < N
    · simp [hN, hv]
    · simp [hN]
  · rw [List.getElem?_set_ne (fun q => hij q.symm)]
    by_cases hN : i < N
    · simp [hN, hi1 i hij, hl1 i hij, hr1 i hij]
    · simp [hN]

def o_getI (w : en_Wd) (ci N j : Nat) (k : en_Kont) : en_Kont := fun ls st hi hl hr uc us => match st with
  | .ref a :: r => (en_SH a = (ci, N) ∧ a < w.1) ∧ k ls (.int (hi a j) :: r) hi hl hr uc us
  | _ => False
theorem oe_getI {ci N j a : Nat} {r : List Value} : o_getI w ci N j k ls (.ref a :: r) hi hl hr uc us = ((en_SH a = (ci, N) ∧ a < w.1) ∧ k ls (.int (hi a j) :: r) hi hl hr uc us) := rfl
theorem sn_getI {ci N j idx : Nat} {C : String} {T : u_T} (hcl : en_Cl ci C T N) (hj : j < N) (hty : en_fk (en_tyOf ci j) = 0) (hlk : Cond.fieldLink Y.1.cls idx (T j).1 (T j).2.1 (T j).2.2.1 ∈ en_T) (hd : decode Y.2.1 pc = .ok (.getfield idx, 3)) (hk : en_S G Y d w w' K k (pc + 3)) : en_S G Y d w w' K (o_getI w ci N j k) pc := by
  intro ls st hi hl hr uc us h
  unfold o_getI at h
  split at h
  next a r =>
    intro p e R s m args below meth c Q xc xs hC H locs cells slots rl h1 h2 h3 h4 h5 h6
    obtain ⟨⟨hs, ha⟩, h⟩ := h
    rw [List.map_cons, en_ref h2 ha]
    refine va_get (Ts := en_T) hC.1.1 hC.1.2.1 hC.1.2.2.2.2.2.1 hcl.2.2.1 hC.1.2.2.2.2.1 h2.2.1 h2.1 a (en_at_o ha hs hcl.1) hcl.2.1 j hj (hC.1.2.2.2.2.2.1 _ hlk) (fun _ h9 => h9) (en_fs hj) hd ?_
    have hh := hk _ _ _ _ _ _ _ h p e R s m args below meth c Q xc xs hC H locs cells slots rl h1 h2 h3 h4 h5 h6
    rw [List.map_cons] at hh
    rw [en_fv_I hty]
    exact hh
  next => exact h.elim
def o_getL (w : en_Wd) (ci N j : Nat) (k : en_Kont) : en_Kont := fun ls st hi hl hr uc us => match st with
  | .ref a :: r => (en_SH a = (ci, N) ∧ a < w.1) ∧ k ls (.long (hl a j) :: r) hi hl hr uc us
  | _ => False
theorem oe_getL {ci N j a : Nat} {r : List Value} : o_getL w ci N j k ls (.ref a :: r) hi hl hr uc us = ((en_SH a = (ci, N) ∧ a < w.1) ∧ k ls (.long (hl a j) :: r) hi hl hr uc us) := rfl
theorem sn_getL {ci N j idx : Nat} {C : String} {T : u_T} (hcl : en_Cl ci C T N) (hj : j < N) (hty : en_fk (en_tyOf ci j) = 1) (hlk : Cond.fieldLink Y.1.cls idx (T j).1 (T j).2.1 (T j).2.2.1 ∈ en_T) (hd : decode Y.2.1 pc = .ok (.getfield idx, 3)) (hk : en_S G Y d w w' K k (pc + 3)) : en_S G Y d w w' K (o_getL w ci N j k) pc := by
  intro ls st hi hl hr uc us h
  unfold o_getL at h
  split at h
  next a r =>
    intro p e R s m args below meth c Q xc xs hC H locs cells slots rl h1 h2 h3 h4 h5 h6
    obtain ⟨⟨hs, ha⟩, h⟩ := h
    rw [List.map_cons, en_ref h2 ha]
    refine va_get (Ts := en_T) hC.1.1 hC.1.2.1 hC.1.2.2.2.2.2.1 hcl.2.2.1 hC.1.2.2.2.2.1 h2.2.1 h2.1 a (en_at_o ha hs hcl.1) hcl.2.1 j hj (hC.1.2.2.2.2.2.1 _ hlk) (fun _ h9 => h9) (en_fs hj) hd ?_
    have hh := hk _ _ _ _ _ _ _ h p e R s m args below meth c Q xc xs hC H locs cells slots rl h1 h2 h3 h4 h5 h6
    rw [List.map_cons] at hh
    rw [en_fv_L hty]
    exact hh
  next => exact h.elim
def o_getR (w : en_Wd) (ci N j : Nat) (k : en_Kont) : en_Kont := fun ls st hi hl hr uc us => match st with
  | .ref a :: r => (en_SH a = (ci, N) ∧ a < w.1) ∧ k ls (hr a j :: r) hi hl hr uc us
  | _ => False
theorem oe_getR {ci N j a : Nat} {r : List Value} : o_getR w ci N j k ls (.ref a :: r) hi hl hr uc us = ((en_SH a = (ci, N) ∧ a < w.1) ∧ k ls (hr a j :: r) hi hl hr uc us) := rfl
theorem sn_getR {ci N j idx : Nat} {C : String} {T : u_T} (hcl : en_Cl ci C T N) (hj : j < N) (hty : en_fk (en_tyOf ci j) = 2) (hlk : Cond.fieldLink Y.1.cls idx (T j).1 (T j).2.1 (T j).2.2.1 ∈ en_T) (hd : decode Y.2.1 pc = .ok (.getfield idx, 3)) (hk : en_S G Y d w w' K k (pc + 3)) : en_S G Y d w w' K (o_getR w ci N j k) pc := by
  intro ls st hi hl hr uc us h
  unfold o_getR at h
  split at h
  next a r =>
    intro p e R s m args below meth c Q xc xs hC H locs cells slots rl h1 h2 h3 h4 h5 h6
    obtain ⟨⟨hs, ha⟩, h⟩ := h
    rw [List.map_cons, en_ref h2 ha]
    refine va_get (Ts := en_T) hC.1.1 hC.1.2.1 hC.1.2.2.2.2.2.1 hcl.2.2.1 hC.1.2.2.2.2.1 h2.2.1 h2.1 a (en_at_o ha hs hcl.1) hcl.2.1 j hj (hC.1.2.2.2.2.2.1 _ hlk) (fun _ h9 => h9) (en_fs hj) hd ?_
    have hh := hk _ _ _ _ _ _ _ h p e R s m args below meth c Q xc xs hC H locs cells slots rl h1 h2 h3 h4 h5 h6
    rw [List.map_cons] at hh
    rw [en_fv_R hty]
    exact hh
  next => exact h.elim
theorem en_nZ {x : Int32} (h : x = iI 0 ∨ x = iI 1) : narrow .boolean (.int x) = .int x ∧ fits .boolean (.int x) = true := by
  rcases h with rfl | rfl <;> exact ⟨by decide, by decide⟩
theorem en_nR {t : FieldType} (hty : en_fk t = 2) {v : Value} (h : v = .null ∨ ∃ a, v = .ref a) : narrow t v = v ∧ fits t v = true := by
  cases t <;> first | (cases hty; done) | (rcases h with rfl | ⟨a, rfl⟩ <;> exact ⟨rfl, rfl⟩)
def o_putI (w : en_Wd) (ci N j : Nat) (k : en_Kont) : en_Kont := fun ls st hi hl hr uc us => match st with
  | .int x :: .ref a :: r => (en_SH a = (ci, N) ∧ a < w.1) ∧ k ls r (en_up hi a j x) hl hr uc us
  | _ => False
theorem oe_putI {ci N j a : Nat} {x : Int32} {r : List Value} : o_putI w ci N j k ls (.int x :: .ref a :: r) hi hl hr uc us = ((en_SH a = (ci, N) ∧ a < w.1) ∧ k ls r (en_up hi a j x) hl hr uc us) := rfl
theorem sn_putI {ci N j idx : Nat} {C : String} {T : u_T} (hcl : en_Cl ci C T N) (hj : j < N) (hty : en_tyOf ci j = .int) (hfin : (T j).2.2.2 = false) (hlk : Cond.fieldLink Y.1.cls idx (T j).1 (T j).2.1 (T j).2.2.1 ∈ en_T) (hd : decode Y.2.1 pc = .ok (.putfield idx, 3)) (hk : en_S G Y d w w' K k (pc + 3)) : en_S G Y d w w' K (o_putI w ci N j k) pc := by
  intro ls st hi hl hr uc us h
  unfold o_putI at h
  split at h
  next x a r =>
    intro p e R s m args below meth c Q xc xs hC H locs cells slots rl h1 h2 h3 h4 h5 h6
    obtain ⟨⟨hs, ha⟩, h⟩ := h
    rw [List.map_cons, List.map_cons, en_ref h2 ha]
    refine va_put (Ts := en_T) hC.1.1 hC.1.2.1 hC.1.2.2.2.2.2.1 hcl.2.2.1 (en_tyOf ci) hcl.2.2.2.1 hcl.2.2.2.2 hC.1.2.2.2.2.1 h2.2.1 h2.1 en_ws_D h3 a (en_at_o ha hs hcl.1) hcl.2.1 j hj (hC.1.2.2.2.2.2.1 _ hlk) (fun _ h9 => h9) hfin (hcl.2.2.2.1 j hj) (by rw [hty]; rfl) (by rw [hty]; rfl) (by simp [hj]) hd (fun H1 locs1 hP1 _ hS1 => ?_)
    rw [en_set_o (fi := (fun i => if i = j then x else hi a i)) (fl := (hl a)) (fr := (hr a)) ha hs hcl.1 (by rw [en_fv_I (by rw [hty]; rfl)]; simp [en_tr]) (fun i hi9 => by simp [hi9]) (fun i hi9 => by simp [hi9]) (fun i hi9 => by simp [hi9])] at hP1
    rw [← en_up_row, en_row_self, en_row_self] at hP1
    exact hk _ _ _ _ _ _ _ h p e R s m args below meth c Q xc xs hC H1 locs1 cells slots rl h1 (en_wr h2 h3 hS1 hC.2.1.2.2.2.2 hP1) hS1 h4 h5 h6
  next => exact h.elim
theorem sn_putIF {ci N j idx : Nat} {C : String} {T : u_T} (hcl : en_Cl ci C T N) (hj : j < N) (hty : en_tyOf ci j = .int) (hfin : (T j).2.2.2 = true) (hin : Y.1.name = "<init>") (hdecl : (T j).1 = Y.1.cls) (hlk : Cond.fieldLink Y.1.cls idx (T j).1 (T j).2.1 (T j).2.2.1 ∈ en_T) (hd : decode Y.2.1 pc = .ok (.putfield idx, 3)) (hk : en_S G Y d w w' K k (pc + 3)) : en_S G Y d w w' K (o_putI w ci N j k) pc := by
  intro ls st hi hl hr uc us h
  unfold o_putI at h
  split at h
  next x a r =>
    intro p e R s m args below meth c Q xc xs hC H locs cells slots rl h1 h2 h3 h4 h5 h6
    obtain ⟨⟨hs, ha⟩, h⟩ := h
    rw [List.map_cons, List.map_cons, en_ref h2 ha]
    refine va_putF (Ts := en_T) hC.1.1 hC.1.2.1 hC.1.2.2.2.2.2.1 hcl.2.2.1 (en_tyOf ci) hcl.2.2.2.1 hcl.2.2.2.2 hC.1.2.2.2.2.1 h2.2.1 h2.1 en_ws_D h3 a (en_at_o ha hs hcl.1) hcl.2.1 j hj (hC.1.2.2.2.2.2.1 _ hlk) (fun _ h9 => h9) hfin (hC.1.2.2.2.2.2.2.1.trans hin) hdecl (hcl.2.2.2.1 j hj) (by rw [hty]; rfl) (by rw [hty]; rfl) (by simp [hj]) hd (fun H1 locs1 hP1 _ hS1 => ?_)
    rw [en_set_o (fi := (fun i => if i = j then x else hi a i)) (fl := (hl a)) (fr := (hr a)) ha hs hcl.1 (by rw [en_fv_I (by rw [hty]; rfl)]; simp [en_tr]) (fun i hi9 => by simp [hi9]) (fun i hi9 => by simp [hi9]) (fun i hi9 => by simp [hi9])] at hP1
    rw [← en_up_row, en_row_self, en_row_self] at hP1
    exact hk _ _ _ _ _ _ _ h p e R s m args below meth c Q xc xs hC H1 locs1 cells slots rl h1 (en_wr h2 h3 hS1 hC.2.1.2.2.2.2 hP1) hS1 h4 h5 h6
  next => exact h.elim
def o_putZ (w : en_Wd) (ci N j : Nat) (k : en_Kont) : en_Kont := fun ls st hi hl hr uc us => match st with
  | .int x :: .ref a :: r => (en_SH a = (ci, N) ∧ a < w.1) ∧ (x = iI 0 ∨ x = iI 1) ∧ k ls r (en_up hi a j x) hl hr uc us
  | _ => False
theorem oe_putZ {ci N j a : Nat} {x : Int32} {r : List Value} : o_putZ w ci N j k ls (.int x :: .ref a :: r) hi hl hr uc us = ((en_SH a = (ci, N) ∧ a < w.1) ∧ (x = iI 0 ∨ x = iI 1) ∧ k ls r (en_up hi a j x) hl hr uc us) := rfl
theorem sn_putZ {ci N j idx : Nat} {C : String} {T : u_T} (hcl : en_Cl ci C T N) (hj : j < N) (hty : en_tyOf ci j = .boolean) (hfin : (T j).2.2.2 = false) (hlk : Cond.fieldLink Y.1.cls idx (T j).1 (T j).2.1 (T j).2.2.1 ∈ en_T) (hd : decode Y.2.1 pc = .ok (.putfield idx, 3)) (hk : en_S G Y d w w' K k (pc + 3)) : en_S G Y d w w' K (o_putZ w ci N j k) pc := by
  intro ls st hi hl hr uc us h
  unfold o_putZ at h
  split at h
  next x a r =>
    intro p e R s m args below meth c Q xc xs hC H locs cells slots rl h1 h2 h3 h4 h5 h6
    obtain ⟨⟨hs, ha⟩, h⟩ := h
    rw [List.map_cons, List.map_cons, en_ref h2 ha]
    refine va_put (Ts := en_T) hC.1.1 hC.1.2.1 hC.1.2.2.2.2.2.1 hcl.2.2.1 (en_tyOf ci) hcl.2.2.2.1 hcl.2.2.2.2 hC.1.2.2.2.2.1 h2.2.1 h2.1 en_ws_D h3 a (en_at_o ha hs hcl.1) hcl.2.1 j hj (hC.1.2.2.2.2.2.1 _ hlk) (fun _ h9 => h9) hfin (hcl.2.2.2.1 j hj) (by rw [hty]; exact (en_nZ h.1).1) (by rw [hty]; exact (en_nZ h.1).2) (by simp [hj]) hd (fun H1 locs1 hP1 _ hS1 => ?_)
    rw [en_set_o (fi := (fun i => if i = j then x else hi a i)) (fl := (hl a)) (fr := (hr a)) ha hs hcl.1 (by rw [en_fv_I (by rw [hty]; rfl)]; simp [en_tr]) (fun i hi9 => by simp [hi9]) (fun i hi9 => by simp [hi9]) (fun i hi9 => by simp [hi9])] at hP1
    rw [← en_up_row, en_row_self, en_row_self] at hP1
    exact hk _ _ _ _ _ _ _ h.2 p e R s m args below meth c Q xc xs hC H1 locs1 cells slots rl h1 (en_wr h2 h3 hS1 hC.2.1.2.2.2.2 hP1) hS1 h4 h5 h6
  next => exact h.elim
def o_putL (w : en_Wd) (ci N j : Nat) (k : en_Kont) : en_Kont := fun ls st hi hl hr uc us => match st with
  | .long X :: .ref a :: r => (en_SH a = (ci, N) ∧ a < w.1) ∧ k ls r hi (en_up hl a j X) hr uc us
  | _ => False
theorem oe_putL {ci N j a : Nat} {X : Int64} {r : List Value} : o_putL w ci N j k ls (.long X :: .ref a :: r) hi hl hr uc us = ((en_SH a = (ci, N) ∧ a < w.1) ∧ k ls r hi (en_up hl a j X) hr uc us) := rfl
theorem sn_putL {ci N j idx : Nat} {C : String} {T : u_T} (hcl : en_Cl ci C T N) (hj : j < N) (hty : en_tyOf ci j = .long) (hfin : (T j).2.2.2 = false) (hlk : Cond.fieldLink Y.1.cls idx (T j).1 (T j).2.1 (T j).2.2.1 ∈ en_T) (hd : decode Y.2.1 pc = .ok (.putfield idx, 3)) (hk : en_S G Y d w w' K k (pc + 3)) : en_S G Y d w w' K (o_putL w ci N j k) pc := by
  intro ls st hi hl hr uc us h
  unfold o_putL at h
  split at h
  next X a r =>
    intro p e R s m args below meth c Q xc xs hC H locs cells slots rl h1 h2 h3 h4 h5 h6
    obtain ⟨⟨hs, ha⟩, h⟩ := h
    rw [List.map_cons, List.map_cons, en_ref h2 ha]
    refine va_put (Ts := en_T) hC.1.1 hC.1.2.1 hC.1.2.2.2.2.2.1 hcl.2.2.1 (en_tyOf ci) hcl.2.2.2.1 hcl.2.2.2.2 hC.1.2.2.2.2.1 h2.2.1 h2.1 en_ws_D h3 a (en_at_o ha hs hcl.1) hcl.2.1 j hj (hC.1.2.2.2.2.2.1 _ hlk) (fun _ h9 => h9) hfin (hcl.2.2.2.1 j hj) (by rw [hty]; rfl) (by rw [hty]; rfl) (by simp [hj]) hd (fun H1 locs1 hP1 _ hS1 => ?_)
    rw [en_set_o (fi := (hi a)) (fl := (fun i => if i = j then X else hl a i)) (fr := (hr a)) ha hs hcl.1 (by rw [en_fv_L (by rw [hty]; rfl)]; simp [en_tr]) (fun i hi9 => by simp [hi9]) (fun i hi9 => by simp [hi9]) (fun i hi9 => by simp [hi9])] at hP1
    rw [en_row_self, ← en_up_row, en_row_self] at hP1
    exact hk _ _ _ _ _ _ _ h p e R s m args below meth c Q xc xs hC H1 locs1 cells slots rl h1 (en_wr h2 h3 hS1 hC.2.1.2.2.2.2 hP1) hS1 h4 h5 h6
  next => exact h.elim
def o_putR (w : en_Wd) (ci N j : Nat) (k : en_Kont) : en_Kont := fun ls st hi hl hr uc us => match st with
  | .ref n :: .ref a :: r => (en_SH a = (ci, N) ∧ a < w.1) ∧ k ls r hi hl (en_up hr a j (.ref n)) uc us
  | _ => False
theorem oe_putR {ci N j a : Nat} {n : Nat} {r : List Value} : o_putR w ci N j k ls (.ref n :: .ref a :: r) hi hl hr uc us = ((en_SH a = (ci, N) ∧ a < w.1) ∧ k ls r hi hl (en_up hr a j (.ref n)) uc us) := rfl
theorem sn_putR {ci N j idx : Nat} {C : String} {T : u_T} (hcl : en_Cl ci C T N) (hj : j < N) (hty : en_fk (en_tyOf ci j) = 2) (hfin : (T j).2.2.2 = false) (hlk : Cond.fieldLink Y.1.cls idx (T j).1 (T j).2.1 (T j).2.2.1 ∈ en_T) (hd : decode Y.2.1 pc = .ok (.putfield idx, 3)) (hk : en_S G Y d w w' K k (pc + 3)) : en_S G Y d w w' K (o_putR w ci N j k) pc := by
  intro ls st hi hl hr uc us h
  unfold o_putR at h
  split at h
  next n a r =>
    intro p e R s m args below meth c Q xc xs hC H locs cells slots rl h1 h2 h3 h4 h5 h6
    obtain ⟨⟨hs, ha⟩, h⟩ := h
    rw [List.map_cons, List.map_cons, en_ref h2 ha]
    refine va_put (Ts := en_T) hC.1.1 hC.1.2.1 hC.1.2.2.2.2.2.1 hcl.2.2.1 (en_tyOf ci) hcl.2.2.2.1 hcl.2.2.2.2 hC.1.2.2.2.2.1 h2.2.1 h2.1 en_ws_D h3 a (en_at_o ha hs hcl.1) hcl.2.1 j hj (hC.1.2.2.2.2.2.1 _ hlk) (fun _ h9 => h9) hfin (hcl.2.2.2.1 j hj) (en_nR hty (en_isref h2.2.2.2.2 n)).1 (en_nR hty (en_isref h2.2.2.2.2 n)).2 (by simp [hj]) hd (fun H1 locs1 hP1 _ hS1 => ?_)
    rw [en_set_o (fi := (hi a)) (fl := (hl a)) (fr := (fun i => if i = j then .ref n else hr a i)) ha hs hcl.1 (by rw [en_fv_R hty]; simp [en_tr]) (fun i hi9 => by simp [hi9]) (fun i hi9 => by simp [hi9]) (fun i hi9 => by simp [hi9])] at hP1
    rw [en_row_self, en_row_self, ← en_up_row] at hP1
    exact hk _ _ _ _ _ _ _ h p e R s m args below meth c Q xc xs hC H1 locs1 cells slots rl h1 (en_wr h2 h3 hS1 hC.2.1.2.2.2.2 hP1) hS1 h4 h5 h6
  next => exact h.elim
theorem sn_putRF {ci N j idx : Nat} {C : String} {T : u_T} (hcl : en_Cl ci C T N) (hj : j < N) (hty : en_fk (en_tyOf ci j) = 2) (hfin : (T j).2.2.2 = true) (hin : Y.1.name = "<init>") (hdecl : (T j).1 = Y.1.cls) (hlk : Cond.fieldLink Y.1.cls idx (T j).1 (T j).2.1 (T j).2.2.1 ∈ en_T) (hd : decode Y.2.1 pc = .ok (.putfield idx, 3)) (hk : en_S G Y d w w' K k (pc + 3)) : en_S G Y d w w' K (o_putR w ci N j k) pc := by
  intro ls st hi hl hr uc us h
  unfold o_putR at h
  split at h
  next n a r =>
    intro p e R s m args below meth c Q xc xs hC H locs cells slots rl h1 h2 h3 h4 h5 h6
    obtain ⟨⟨hs, ha⟩, h⟩ := h
    rw [List.map_cons, List.map_cons, en_ref h2 ha]
    refine va_putF (Ts := en_T) hC.1.1 hC.1.2.1 hC.1.2.2.2.2.2.1 hcl.2.2.1 (en_tyOf ci) hcl.2.2.2.1 hcl.2.2.2.2 hC.1.2.2.2.2.1 h2.2.1 h2.1 en_ws_D h3 a (en_at_o ha hs hcl.1) hcl.2.1 j hj (hC.1.2.2.2.2.2.1 _ hlk) (fun _ h9 => h9) hfin (hC.1.2.2.2.2.2.2.1.trans hin) hdecl (hcl.2.2.2.1 j hj) (en_nR hty (en_isref h2.2.2.2.2 n)).1 (en_nR hty (en_isref h2.2.2.2.2 n)).2 (by simp [hj]) hd (fun H1 locs1 hP1 _ hS1 => ?_)
    rw [en_set_o (fi := (hi a)) (fl := (hl a)) (fr := (fun i => if i = j then .ref n else hr a i)) ha hs hcl.1 (by rw [en_fv_R hty]; simp [en_tr]) (fun i hi9 => by simp [hi9]) (fun i hi9 => by simp [hi9]) (fun i hi9 => by simp [hi9])] at hP1
    rw [en_row_self, en_row_self, ← en_up_row] at hP1
    exact hk _ _ _ _ _ _ _ h p e R s m args below meth c Q xc xs hC H1 locs1 cells slots rl h1 (en_wr h2 h3 hS1 hC.2.1.2.2.2.2 hP1) hS1 h4 h5 h6
  next => exact h.elim
def o_iaload (w : en_Wd) (k : en_Kont) : en_Kont := fun ls st hi hl hr uc us => match st with
  | .int j :: .ref a :: r => ∃ i : Nat, j = iI i ∧ i < (en_SH a).2 ∧ ((en_SH a).1 = 100 ∧ a < w.1) ∧ k ls (.int (hi a i) :: r) hi hl hr uc us
  | _ => False
theorem oe_iaload {j : Int32} {a : Nat} {r : List Value} : o_iaload w k ls (.int j :: .ref a :: r) hi hl hr uc us = (∃ i : Nat, j = iI i ∧ i < (en_SH a).2 ∧ ((en_SH a).1 = 100 ∧ a < w.1) ∧ k ls (.int (hi a i) :: r) hi hl hr uc us) := rfl
theorem sn_iaload (hd : decode Y.2.1 pc = .ok (.iaload, 1)) (hk : en_S G Y d w w' K k (pc + 1)) : en_S G Y d w w' K (o_iaload w k) pc := by
  intro ls st hi hl hr uc us h
  unfold o_iaload at h
  split at h
  next j a r =>
    intro p e R s m args below meth c Q xc xs hC H locs cells slots rl h1 h2 h3 h4 h5 h6
    obtain ⟨i, rfl, hin, ⟨hs, ha⟩, h⟩ := h
    have hsm := en_SH_small a
    rw [List.map_cons, List.map_cons, en_ref h2 ha, en_tr_int]
    refine va_iald hC.1.1 hC.1.2.1 h2.2.1 h2.1 a 0 (en_at_i ha hs) rfl (iI_in hin (by omega)) hd ?_
    rw [iI_cl (by omega)]
    exact hk _ _ _ _ _ _ _ h p e R s m args below meth c Q xc xs hC H locs cells slots rl h1 h2 h3 h4 h5 h6
  next => exact h.elim
def o_baload (w : en_Wd) (k : en_Kont) : en_Kont := fun ls st hi hl hr uc us => match st with
  | .int j :: .ref a :: r => ∃ i : Nat, j = iI i ∧ i < (en_SH a).2 ∧ ((en_SH a).1 = 101 ∧ a < w.1) ∧ k ls (.int (hi a i) :: r) hi hl hr uc us
  | _ => False
theorem oe_baload {j : Int32} {a : Nat} {r : List Value} : o_baload w k ls (.int j :: .ref a :: r) hi hl hr uc us = (∃ i : Nat, j = iI i ∧ i < (en_SH a).2 ∧ ((en_SH a).1 = 101 ∧ a < w.1) ∧ k ls (.int (hi a i) :: r) hi hl hr uc us) := rfl
theorem sn_baload (hd : decode Y.2.1 pc = .ok (.baload, 1)) (hk : en_S G Y d w w' K k (pc + 1)) : en_S G Y d w w' K (o_baload w k) pc := by
  intro ls st hi hl hr uc us h
  unfold o_baload at h
  split at h
  next j a r =>
    intro p e R s m args below meth c Q xc xs hC H locs cells slots rl h1 h2 h3 h4 h5 h6
    obtain ⟨i, rfl, hin, ⟨hs, ha⟩, h⟩ := h
    have hsm := en_SH_small a
    rw [List.map_cons, List.map_cons, en_ref h2 ha, en_tr_int]
    refine va_bald hC.1.1 hC.1.2.1 h2.2.1 h2.1 a 1 (en_at_b ha hs) rfl (iI_in hin (by omega)) hd ?_
    rw [iI_cl (by omega)]
    exact hk _ _ _ _ _ _ _ h p e R s m args below meth c Q xc xs hC H locs cells slots rl h1 h2 h3 h4 h5 h6
  next => exact h.elim
def o_laload (w : en_Wd) (k : en_Kont) : en_Kont := fun ls st hi hl hr uc us => match st with
  | .int j :: .ref a :: r => ∃ i : Nat, j = iI i ∧ i < (en_SH a).2 ∧ ((en_SH a).1 = 102 ∧ a < w.1) ∧ k ls (.long (hl a i) :: r) hi hl hr uc us
  | _ => False
theorem oe_laload {j : Int32} {a : Nat} {r : List Value} : o_laload w k ls (.int j :: .ref a :: r) hi hl hr uc us = (∃ i : Nat, j = iI i ∧ i < (en_SH a).2 ∧ ((en_SH a).1 = 102 ∧ a < w.1) ∧ k ls (.long (hl a i) :: r) hi hl hr uc us) := rfl
theorem sn_laload (hd : decode Y.2.1 pc = .ok (.laload, 1)) (hk : en_S G Y d w w' K k (pc + 1)) : en_S G Y d w w' K (o_laload w k) pc := by
  intro ls st hi hl hr uc us h
  unfold o_laload at h
  split at h
  next j a r =>
    intro p e R s m args below meth c Q xc xs hC H locs cells slots rl h1 h2 h3 h4 h5 h6
    obtain ⟨i, rfl, hin, ⟨hs, ha⟩, h⟩ := h
    have hsm := en_SH_small a
    rw [List.map_cons, List.map_cons, en_ref h2 ha, en_tr_int]
    refine va_lald hC.1.1 hC.1.2.1 h2.2.1 h2.1 a 2 (en_at_l ha hs) rfl (iI_in hin (by omega)) hd ?_
    rw [iI_cl (by omega)]
    exact hk _ _ _ _ _ _ _ h p e R s m args below meth c Q xc xs hC H locs cells slots rl h1 h2 h3 h4 h5 h6
  next => exact h.elim
def en_t0 (t : Nat) : Nat := if t = 8 then 3 else if t = 16 then 4 else 5
def o_aaload (w : en_Wd) (t : Nat) (k : en_Kont) : en_Kont := fun ls st hi hl hr uc us => match st with
  | .int j :: .ref a :: r => ∃ i : Nat, j = iI i ∧ i < (en_SH a).2 ∧ ((en_SH a).1 = 103 + t ∧ a < w.1) ∧ ∃ v : Nat, hr a i = .ref v ∧ v < 1000000 ∧ k ls (.ref v :: r) hi hl hr uc us
  | _ => False
theorem oe_aaload {t : Nat} {j : Int32} {a : Nat} {r : List Value} : o_aaload w t k ls (.int j :: .ref a :: r) hi hl hr uc us = (∃ i : Nat, j = iI i ∧ i < (en_SH a).2 ∧ ((en_SH a).1 = 103 + t ∧ a < w.1) ∧ ∃ v : Nat, hr a i = .ref v ∧ v < 1000000 ∧ k ls (.ref v :: r) hi hl hr uc us) := rfl
theorem sn_aaload {t : Nat} {C : String} (ht : (en_tys G)[en_t0 t]? = some (G.2.2.2.1 (3 + t), .object C)) (hd : decode Y.2.1 pc = .ok (.aaload, 1)) (hk : en_S G Y d w w' K k (pc + 1)) : en_S G Y d w w' K (o_aaload w t k) pc := by
  intro ls st hi hl hr uc us h
  unfold o_aaload at h
  split at h
  next j a r =>
    intro p e R s m args below meth c Q xc xs hC H locs cells slots rl h1 h2 h3 h4 h5 h6
    obtain ⟨i, rfl, hin, ⟨hs, ha⟩, v, hv, hv2, h⟩ := h
    have hsm := en_SH_small a
    rw [List.map_cons, List.map_cons, en_ref h2 ha, en_tr_int]
    refine va_aldq hC.1.1 hC.1.2.1 h2.2.1 h2.1 a (en_t0 t) (en_at_q ha hs) ht (iI_in hin (by omega)) hd ?_
    rw [iI_cl (by omega), hv]
    have hh := hk _ _ _ _ _ _ _ h p e R s m args below meth c Q xc xs hC H locs cells slots rl h1 h2 h3 h4 h5 h6
    rw [List.map_cons, en_tr_ref G hv2] at hh
    exact hh
  next => exact h.elim
def o_iastore (w : en_Wd) (k : en_Kont) : en_Kont := fun ls st hi hl hr uc us => match st with
  | .int x :: .int j :: .ref a :: r => ∃ i : Nat, j = iI i ∧ i < (en_SH a).2 ∧ ((en_SH a).1 = 100 ∧ a < w.1) ∧ k ls r (en_up hi a i x) hl hr uc us
  | _ => False
theorem oe_iastore {x : Int32} {j : Int32} {a : Nat} {r : List Value} : o_iastore w k ls (.int x :: .int j :: .ref a :: r) hi hl hr uc us = (∃ i : Nat, j = iI i ∧ i < (en_SH a).2 ∧ ((en_SH a).1 = 100 ∧ a < w.1) ∧ k ls r (en_up hi a i x) hl hr uc us) := rfl
theorem sn_iastore (hd : decode Y.2.1 pc = .ok (.iastore, 1)) (hk : en_S G Y d w w' K k (pc + 1)) : en_S G Y d w w' K (o_iastore w k) pc := by
  intro ls st hi hl hr uc us h
  unfold o_iastore at h
  split at h
  next x j a r =>
    intro p e R s m args below meth c Q xc xs hC H locs cells slots rl h1 h2 h3 h4 h5 h6
    obtain ⟨i, rfl, hin, ⟨hs, ha⟩, h⟩ := h
    have hsm := en_SH_small a
    rw [List.map_cons, List.map_cons, List.map_cons, en_ref h2 ha, en_tr_int]
    refine va_iast hC.1.1 hC.1.2.1 h2.2.1 h2.1 en_ws_D h3 a 0 (en_at_i ha hs) rfl (iI_in hin (by omega)) hd (fun H1 locs1 hP1 _ hS1 => ?_)
    rw [iI_cl (by omega), en_ws_set (fi := (fun j => if j = i then x else hi a j)) (fl := (hl a)) (fr := hr a) ha (by unfold en_enc; rw [hs]; rfl)] at hP1
    rw [← en_up_row, en_row_self, en_row_self] at hP1
    exact hk _ _ _ _ _ _ _ h p e R s m args below meth c Q xc xs hC H1 locs1 cells slots rl h1 (en_wr h2 h3 hS1 hC.2.1.2.2.2.2 hP1) hS1 h4 h5 h6
  next => exact h.elim
def o_bastore (w : en_Wd) (k : en_Kont) : en_Kont := fun ls st hi hl hr uc us => match st with
  | .int x :: .int j :: .ref a :: r => ∃ i : Nat, j = iI i ∧ i < (en_SH a).2 ∧ ((en_SH a).1 = 101 ∧ a < w.1) ∧ k ls r (en_up hi a i x.toInt8.toInt32) hl hr uc us
  | _ => False
theorem oe_bastore {x : Int32} {j : Int32} {a : Nat} {r : List Value} : o_bastore w k ls (.int x :: .int j :: .ref a :: r) hi hl hr uc us = (∃ i : Nat, j = iI i ∧ i < (en_SH a).2 ∧ ((en_SH a).1 = 101 ∧ a < w.1) ∧ k ls r (en_up hi a i x.toInt8.toInt32) hl hr uc us) := rfl
theorem sn_bastore (hd : decode Y.2.1 pc = .ok (.bastore, 1)) (hk : en_S G Y d w w' K k (pc + 1)) : en_S G Y d w w' K (o_bastore w k) pc := by
  intro ls st hi hl hr uc us h
  unfold o_bastore at h
  split at h
  next x j a r =>
    intro p e R s m args below meth c Q xc xs hC H locs cells slots rl h1 h2 h3 h4 h5 h6
    obtain ⟨i, rfl, hin, ⟨hs, ha⟩, h⟩ := h
    have hsm := en_SH_small a
    rw [List.map_cons, List.map_cons, List.map_cons, en_ref h2 ha, en_tr_int]
    refine va_bast hC.1.1 hC.1.2.1 h2.2.1 h2.1 en_ws_D h3 a 1 (en_at_b ha hs) rfl (iI_in hin (by omega)) hd (fun H1 locs1 hP1 _ hS1 => ?_)
    rw [iI_cl (by omega), en_ws_set (fi := (fun j => if j = i then x.toInt8.toInt32 else hi a j)) (fl := (hl a)) (fr := hr a) ha (by unfold en_enc; rw [hs]; rfl)] at hP1
    rw [← en_up_row, en_row_self, en_row_self] at hP1
    exact hk _ _ _ _ _ _ _ h p e R s m args below meth c Q xc xs hC H1 locs1 cells slots rl h1 (en_wr h2 h3 hS1 hC.2.1.2.2.2.2 hP1) hS1 h4 h5 h6
  next => exact h.elim
def o_lastore (w : en_Wd) (k : en_Kont) : en_Kont := fun ls st hi hl hr uc us => match st with
  | .long X :: .int j :: .ref a :: r => ∃ i : Nat, j = iI i ∧ i < (en_SH a).2 ∧ ((en_SH a).1 = 102 ∧ a < w.1) ∧ k ls r hi (en_up hl a i X) hr uc us
  | _ => False
theorem oe_lastore {X : Int64} {j : Int32} {a : Nat} {r : List Value} : o_lastore w k ls (.long X :: .int j :: .ref a :: r) hi hl hr uc us = (∃ i : Nat, j = iI i ∧ i < (en_SH a).2 ∧ ((en_SH a).1 = 102 ∧ a < w.1) ∧ k ls r hi (en_up hl a i X) hr uc us) := rfl
theorem sn_lastore (hd : decode Y.2.1 pc = .ok (.lastore, 1)) (hk : en_S G Y d w w' K k (pc + 1)) : en_S G Y d w w' K (o_lastore w k) pc := by
  intro ls st hi hl hr uc us h
  unfold o_lastore at h
  split at h
  next X j a r =>
    intro p e R s m args below meth c Q xc xs hC H locs cells slots rl h1 h2 h3 h4 h5 h6
    obtain ⟨i, rfl, hin, ⟨hs, ha⟩, h⟩ := h
    have hsm := en_SH_small a
    rw [List.map_cons, List.map_cons, List.map_cons, en_ref h2 ha, en_tr_int]
    refine va_last hC.1.1 hC.1.2.1 h2.2.1 h2.1 en_ws_D h3 a 2 (en_at_l ha hs) rfl (iI_in hin (by omega)) hd (fun H1 locs1 hP1 _ hS1 => ?_)
    rw [iI_cl (by omega), en_ws_set (fi := (hi a)) (fl := (fun j => if j = i then X else hl a j)) (fr := hr a) ha (by unfold en_enc; rw [hs]; rfl)] at hP1
    rw [en_row_self, ← en_up_row, en_row_self] at hP1
    exact hk _ _ _ _ _ _ _ h p e R s m args below meth c Q xc xs hC H1 locs1 cells slots rl h1 (en_wr h2 h3 hS1 hC.2.1.2.2.2.2 hP1) hS1 h4 h5 h6
  next => exact h.elim
def o_alen (w : en_Wd) (k : en_Kont) : en_Kont := fun ls st hi hl hr uc us => match st with
  | .ref a :: r => (100 ≤ (en_SH a).1 ∧ (en_SH a).1 < 103 ∧ a < w.1) ∧ k ls (.int (iI ((en_SH a).2 : Nat)) :: r) hi hl hr uc us
  | _ => False
theorem oe_alen {a : Nat} {r : List Value} : o_alen w k ls (.ref a :: r) hi hl hr uc us = ((100 ≤ (en_SH a).1 ∧ (en_SH a).1 < 103 ∧ a < w.1) ∧ k ls (.int (iI ((en_SH a).2 : Nat)) :: r) hi hl hr uc us) := rfl
theorem sn_alen (hd : decode Y.2.1 pc = .ok (.arraylength, 1)) (hk : en_S G Y d w w' K k (pc + 1)) : en_S G Y d w w' K (o_alen w k) pc := by
  intro ls st hi hl hr uc us h
  unfold o_alen at h
  split at h
  next a r =>
    intro p e R s m args below meth c Q xc xs hC H locs cells slots rl h1 h2 h3 h4 h5 h6
    obtain ⟨⟨hs, hs2, ha⟩, h⟩ := h
    rw [List.map_cons, en_ref h2 ha]
    have hh := hk _ _ _ _ _ _ _ h p e R s m args below meth c Q xc xs hC H locs cells slots rl h1 h2 h3 h4 h5 h6
    rw [List.map_cons, en_tr_int] at hh
    rcases (show (en_SH a).1 = 100 ∨ (en_SH a).1 = 101 ∨ (en_SH a).1 = 102 by omega) with q | q | q
    · exact va_alen hC.1.1 hC.1.2.1 h2.2.1 h2.1 a 0 (en_at_i ha q) rfl (iI_nat _).symm hd hh
    · exact va_alen hC.1.1 hC.1.2.1 h2.2.1 h2.1 a 1 (en_at_b ha q) rfl (iI_nat _).symm hd hh
    · exact va_alen hC.1.1 hC.1.2.1 h2.2.1 h2.1 a 2 (en_at_l ha q) rfl (iI_nat _).symm hd hh
  next => exact h.elim
end
