section
variable {G : en_G} {Y : en_Y} {d : Nat} {w w' w1 : en_Wd} {K : en_K} {k kt kf : en_Kont} {kx : en_KX} {pc : Nat} {ls st : List Value} {hi : en_I} {hl : en_L} {hr : en_F} {uc us : Nat}
/-- a call by an object: np parameters above the receiver -/
def o_inv (G : en_G) (d xc xs : Nat) (Yc : en_Y) (np ci : Nat) (w w1 : en_Wd) (k : en_Kont) (kx : en_KX) : en_Kont := fun ls st hi hl hr uc us => match st.drop np with
  | .ref a :: r => ((en_SH a).1 = ci ∧ a < w.1) ∧ (r.map fun v => v.category).sum ≤ 8 ∧ xc ≤ uc ∧ xs ≤ us ∧ en_Call G d xc xs Yc w w1 (.ref a :: (st.take np).reverse) hi hl hr (en_kk k kx ls r (uc - xc) (us - xs))
  | _ => False
/-- a static call -/
def o_ins (G : en_G) (d xc xs : Nat) (Yc : en_Y) (np : Nat) (w w1 : en_Wd) (k : en_Kont) (kx : en_KX) : en_Kont := fun ls st hi hl hr uc us =>
  np ≤ st.length ∧ ((st.drop np).map fun v => v.category).sum ≤ 8 ∧ xc ≤ uc ∧ xs ≤ us ∧ en_Call G d xc xs Yc w w1 (st.take np).reverse hi hl hr (en_kk k kx ls (st.drop np) (uc - xc) (us - xs))
theorem en_callB {xc0 xs0 np idx : Nat} {Yc : en_Y} {R : Room} {s : State} {args : Array Value} (hcal : en_Cal Yc np) (hts : ∀ w0 ∈ en_T, w0.before args s = true) (hl : Cond.methodLink Y.1.cls idx Yc.1 ∈ en_T) (hf : d + 1 + 8 ≤ R.frames) (hlo : 64 * (d + 1) + 200 ≤ R.locals) : CallB R s args Y.1.cls idx Yc.1 Yc.2.1 Yc.2.2.1 Yc.2.2.2.1 (en_wsY Yc) (en_rm d xc0 xs0) xc0 xs0 np := by
  have h1 : (Cond.initialized Yc.1.cls).before args s = true := hts _ hcal.2.1
  have h2 : (Cond.methodLink Y.1.cls idx Yc.1).before args s = true := hts _ hl
  have h3 : (en_rm d xc0 xs0).frames + 1 ≤ R.frames := by
    show d + 8 + 1 ≤ R.frames
    omega
  have h4 : 8 + (Yc.2.2.1 + 11) + (en_rm d xc0 xs0).locals ≤ R.locals := by
    have := hcal.2.2.2.2
    show 8 + (Yc.2.2.1 + 11) + (64 * d + 200) ≤ R.locals
    omega
  exact callB_of np hts (en_gin hcal) (en_wsY_eq hcal) rfl rfl h1 h2 hcal.2.2.2.1 ⟨h3, h4⟩
theorem en_catsum {U : State} {H : Heap} (hZ : en_Z G U H) {m : MethodId} {rl : Array Slot} {st0 r : List Value} (hcat : (r.map fun v => v.category).sum ≤ 8) : 2 * (F0 m pc rl st0).monitorRoom + ((r.map (en_tr G)).map fun v => v.category).sum ≤ 8 := by
  refine lv_room (pc := pc) (ls := rl) (rest := st0) ?_
  rw [en_cats hZ]
  exact hcat
theorem sn_inv {xc0 xs0 np ci idx : Nat} {Yc : en_Y} (hcal : en_Cal Yc np) (hcv : en_CalV Yc) (hcn : (vwCl[ci]?).map (fun q => q.1) = some Yc.1.cls) (hlk : Cond.methodLink Y.1.cls idx Yc.1 ∈ en_T) (hw : w1.2 = true → w.2 = true ∧ w.1 + xc0 ≤ w1.1) (hd : decode Y.2.1 pc = .ok (.invokevirtual idx, 3)) (hk : en_S G Y (d + 1) w1 w' K k (pc + 3)) (hx : en_SX G Y (d + 1) w1 w' K kx pc) : en_S G Y (d + 1) w w' K (o_inv G d xc0 xs0 Yc np ci w w1 k kx) pc := by
  intro ls st hi hl hr uc us h
  unfold o_inv at h
  split at h
  next a r hst =>
    intro p e R s m args below meth c Q xc xs hC H locs cells slots rl h1 h2 h3 h4 h5 h6
    obtain ⟨⟨hs, ha⟩, hcat, hmc, hms, h⟩ := h
    have hlen : (st.take np).length = np := by
      have h9 : (st.drop np).length = st.length - np := List.length_drop
      rw [hst] at h9
      rw [List.length_take]
      simp only [List.length_cons] at h9
      omega
    have hst2 : st = st.take np ++ .ref a :: r := by rw [← hst, List.take_append_drop]
    obtain ⟨T, N, v1, v2, v3⟩ := en_SH_cname hs hcn
    refine en_fin (r := r) (mc := xc0) (ms := xs0) (a := ((Value.ref a :: (st.take np).reverse).map (en_tr G)).toArray) hC h1 h2 h3 h4 h5 h6 hmc hms hw hk hx ?_
    intro T9 hT9 X9
    have hsz : w.2 = true → H.size ≤ G.2.1 + w.1 := fun e9 => by
      have := X9.heapSize
      rw [hT9] at this
      exact Nat.le_trans this (h6 e9)
    have hts : ∀ w0 ∈ en_T, w0.before args s = true := hC.1.2.2.2.2.2.1
    have hM : vx_Met G.1 Yc.1 (en_wsY Yc) (en_rm d xc0 xs0) (fun v U => v = ((Value.ref a :: (st.take np).reverse).map (en_tr G)).toArray ∧ en_R G w hi hl hr U U.heap ∧ (w.2 = true → U.heap.size ≤ G.2.1 + w.1)) (en_Qc G w1 (en_kk k kx ls r (uc - xc0) (us - xs0))) (en_XC G w1 (en_kk k kx ls r (uc - xc0) (us - xs0))) xc0 xs0 (en_A G) := h hC.1.2.2.2.2.2.2.2.2.2
    have hcw : CallW R s args Y.1.cls Yc.1.cls idx Yc.1 Yc.2.1 Yc.2.2.1 Yc.2.2.2.1 (en_wsY Yc) (en_rm d xc0 xs0) xc0 xs0 np := ⟨en_callB hcal hts hlk hC.2.1.1 hC.2.1.2.1, hts _ hcv.1, hts _ hcv.2⟩
    have hmap : (Value.ref a :: (st.take np).reverse).map (en_tr G) = Value.ref (G.2.1 + a) :: ((st.take np).reverse).map (en_tr G) := by rw [List.map_cons, en_ref h2 ha]
    have hpre : PreV s H Yc.1.cls (G.2.1 + a) (fun v U => v = ((Value.ref a :: (st.take np).reverse).map (en_tr G)).toArray ∧ en_R G w hi hl hr U U.heap ∧ (w.2 = true → U.heap.size ≤ G.2.1 + w.1)) (((st.take np).reverse).map (en_tr G)) := by
      refine ⟨en_blind, va_recv h2.2.1 h2.1 v1 (en_at_o ha v2 v3), fun U hU hW => ?_⟩
      refine ⟨by rw [hmap], ?_, ?_⟩
      · rw [hU]; exact h2.warm hW
      · rw [hU]; exact hsz
    have hstk : (F0 m pc rl (st.map (en_tr G))).stack = (((st.take np).reverse).map (en_tr G)).reverse ++ Value.ref (G.2.1 + a) :: r.map (en_tr G) := by
      show st.map (en_tr G) = _
      rw [← List.map_reverse, List.reverse_reverse]
      have e9 : st.map (en_tr G) = (st.take np ++ Value.ref a :: r).map (en_tr G) := by rw [← hst2]
      rw [e9, List.map_append, List.map_cons, en_ref h2 ha]
    have hroom : cells + xc0 ≤ R.cells ∧ slots + xs0 ≤ R.slots := by
      have g1 := hC.2.1.2.2.1
      have g2 := hC.2.1.2.2.2.1
      omega
    have hlen2 : (((st.take np).reverse).map (en_tr G)).length = np := by rw [List.length_map, List.length_reverse, hlen]
    have hfix : CallFix p m c Y.2.1 Y.2.2.1 s args en_T Y.1.cls := ⟨hC.1.1, hC.1.2.1, hC.1.2.2.1, hC.1.2.2.2.2.1, hts⟩
    have hrun := vx_runV (e := e) (below := below) (meth := meth) (H := H) (locs := locs) (cells := cells) (slots := slots) (g := F0 m pc rl (st.map (en_tr G))) hfix hM hcw hpre rfl hlen2 h1.1 hstk (en_catsum h2.2.2.2.2 hcat) hd hroom
    rw [hmap]
    exact hrun T9 hT9 X9
  next => exact h.elim
theorem sn_ins {xc0 xs0 np idx : Nat} {Yc : en_Y} (hcal : en_Cal Yc np) (hst : Cond.static Yc.1 ∈ en_T) (hlk : Cond.methodLink Y.1.cls idx Yc.1 ∈ en_T) (hw : w1.2 = true → w.2 = true ∧ w.1 + xc0 ≤ w1.1) (hd : decode Y.2.1 pc = .ok (.invokestatic idx, 3)) (hk : en_S G Y (d + 1) w1 w' K k (pc + 3)) (hx : en_SX G Y (d + 1) w1 w' K kx pc) : en_S G Y (d + 1) w w' K (o_ins G d xc0 xs0 Yc np w w1 k kx) pc := by
  intro ls st hi hl hr uc us h
  obtain ⟨hnp, hcat, hmc, hms, h⟩ := h
  intro p e R s m args below meth c Q xc xs hC H locs cells slots rl h1 h2 h3 h4 h5 h6
  have hlen : (st.take np).length = np := by rw [List.length_take]; omega
  refine en_fin (r := st.drop np) (mc := xc0) (ms := xs0) (a := (((st.take np).reverse).map (en_tr G)).toArray) hC h1 h2 h3 h4 h5 h6 hmc hms hw hk hx ?_
  intro T9 hT9 X9
  have hsz : w.2 = true → H.size ≤ G.2.1 + w.1 := fun e9 => by
    have := X9.heapSize
    rw [hT9] at this
    exact Nat.le_trans this (h6 e9)
  have hts : ∀ w0 ∈ en_T, w0.before args s = true := hC.1.2.2.2.2.2.1
  have hM : vx_Met G.1 Yc.1 (en_wsY Yc) (en_rm d xc0 xs0) (fun v U => v = (((st.take np).reverse).map (en_tr G)).toArray ∧ en_R G w hi hl hr U U.heap ∧ (w.2 = true → U.heap.size ≤ G.2.1 + w.1)) (en_Qc G w1 (en_kk k kx ls (st.drop np) (uc - xc0) (us - xs0))) (en_XC G w1 (en_kk k kx ls (st.drop np) (uc - xc0) (us - xs0))) xc0 xs0 (en_A G) := h hC.1.2.2.2.2.2.2.2.2.2
  have hcw : CallB R s args Y.1.cls idx Yc.1 Yc.2.1 Yc.2.2.1 Yc.2.2.2.1 (en_wsY Yc) (en_rm d xc0 xs0) xc0 xs0 np ∧ (Cond.static Yc.1).before args s = true := ⟨en_callB hcal hts hlk hC.2.1.1 hC.2.1.2.1, hts _ hst⟩
  have hpre : PreS s H (fun v U => v = (((st.take np).reverse).map (en_tr G)).toArray ∧ en_R G w hi hl hr U U.heap ∧ (w.2 = true → U.heap.size ≤ G.2.1 + w.1)) (((st.take np).reverse).map (en_tr G)) := by
    refine ⟨en_blind, fun U hU hW => ?_⟩
    refine ⟨rfl, ?_, ?_⟩
    · rw [hU]; exact h2.warm hW
    · rw [hU]; exact hsz
  have hstk : (F0 m pc rl (st.map (en_tr G))).stack = (((st.take np).reverse).map (en_tr G)).reverse ++ (st.drop np).map (en_tr G) := by
    show st.map (en_tr G) = _
    rw [← List.map_reverse, List.reverse_reverse, ← List.map_append, List.take_append_drop]
  have hroom : cells + xc0 ≤ R.cells ∧ slots + xs0 ≤ R.slots := by
    have g1 := hC.2.1.2.2.1
    have g2 := hC.2.1.2.2.2.1
    omega
  have hlen2 : (((st.take np).reverse).map (en_tr G)).length = np := by rw [List.length_map, List.length_reverse, hlen]
  have hfix : CallFix p m c Y.2.1 Y.2.2.1 s args en_T Y.1.cls := ⟨hC.1.1, hC.1.2.1, hC.1.2.2.1, hC.1.2.2.2.2.1, hts⟩
  have hrun := vx_runS (e := e) (below := below) (meth := meth) (H := H) (locs := locs) (cells := cells) (slots := slots) (g := F0 m pc rl (st.map (en_tr G))) hfix hM hcw hpre rfl hlen2 h1.1 hstk (en_catsum h2.2.2.2.2 hcat) hd hroom
  exact hrun T9 hT9 X9
/-- the start of a method's walk -/
def en_pad (n : Nat) (l : List Value) : List Value := (l ++ List.replicate (n - l.length) jk)
theorem en_ent_len {U : State} {H : Heap} (hZ : en_Z G U H) : ∀ as : List Value, (lg_sl (as.map (en_tr G))).length = (en_ent as).length := by
  intro as
  induction as with
  | nil => rfl
  | cons a l ih =>
    have hc := en_cat hZ a
    have e : lg_sl ((a :: l).map (en_tr G)) = (if (en_tr G a).category = 2 then [Slot.val (en_tr G a), .second] else [Slot.val (en_tr G a)]) ++ lg_sl (l.map (en_tr G)) := rfl
    rw [e, List.length_append, ih, hc]
    cases a <;> simp [Value.category, en_ent] <;> omega
theorem en_ent_mem {U : State} {H : Heap} (hZ : en_Z G U H) : ∀ (as : List Value) (i0 i : Nat) (v : Value), (en_ent as)[i]? = some v → (∀ z, v ≠ .float z) → (i0 + i, en_tr G v) ∈ lv_args i0 (as.map (en_tr G)) := by
  intro as
  induction as with
  | nil => intro i0 i v h; simp [en_ent] at h
  | cons a l ih =>
    intro i0 i v h hv
    have hc := en_cat hZ a
    have e : lv_args i0 ((a :: l).map (en_tr G)) = (i0, en_tr G a) :: lv_args (if (en_tr G a).category = 2 then i0 + 2 else i0 + 1) (l.map (en_tr G)) := rfl
    rw [e, hc]
    have one : en_ent (a :: l) = a :: en_ent l → ¬ a.category = 2 → (i0 + i, en_tr G v) ∈ (i0, en_tr G a) :: lv_args (if a.category = 2 then i0 + 2 else i0 + 1) (l.map (en_tr G)) := by
      intro e1 e2
      rw [e1] at h
      rw [if_neg e2]
      cases i with
      | zero => cases h; exact List.mem_cons_self
      | succ i =>
        refine List.mem_cons_of_mem _ ?_
        have := ih (i0 + 1) i v h hv
        rw [show i0 + (i + 1) = i0 + 1 + i by omega]
        exact this
    have two : en_ent (a :: l) = a :: jk :: en_ent l → a.category = 2 → (i0 + i, en_tr G v) ∈ (i0, en_tr G a) :: lv_args (if a.category = 2 then i0 + 2 else i0 + 1) (l.map (en_tr G)) := by
      intro e1 e2
      rw [e1] at h
      rw [if_pos e2]
      match i, h with
      | 0, h => cases h; exact List.mem_cons_self
      | 1, h => cases h; exact absurd rfl (hv _)
      | i + 2, h =>
        refine List.mem_cons_of_mem _ ?_
        have := ih (i0 + 2) i v h hv
        rw [show i0 + (i + 2) = i0 + 2 + i by omega]
        exact this
    cases a with
    | long x => exact two rfl rfl
    | double x => exact two rfl rfl
    | _ => exact one rfl (by simp [Value.category])
theorem en_lr_ent {U : State} {H : Heap} (hZ : en_Z G U H) {n : Nat} {as : List Value} (h : (en_ent as).length ≤ n) : en_lr G n (en_pad n (en_ent as)) ((lg_sl (as.map (en_tr G)) ++ List.replicate (n - (lg_sl (as.map (en_tr G))).length) Slot.unset).toArray) := by
  have he := lv_entry (as.map (en_tr G)) (n := n) (by rw [en_ent_len hZ]; exact h)
  refine ⟨he.1, ?_, he.2.1, fun i v hi hv => ?_⟩
  · unfold en_pad
    rw [List.length_append, List.length_replicate]
    omega
  · unfold en_pad at hi
    by_cases hl : i < (en_ent as).length
    · rw [List.getElem?_append_left hl] at hi
      have := he.2.2 _ (en_ent_mem hZ as 0 i v hi hv)
      rw [Nat.zero_add] at this
      exact this
    · rw [List.getElem?_append_right (by omega)] at hi
      have := List.mem_of_getElem? hi
      exact absurd (List.mem_replicate.mp this).2 (hv 0)
theorem en_of {xc xs : Nat} {as : List Value} (hy : plainName Y.1.cls = true) (hh : Y.2.2.2.2 = []) (hlen : (en_ent as).length ≤ Y.2.2.1)
    (h : en_V G Y d w w' K 0 (en_pad Y.2.2.1 (en_ent as)) [] hi hl hr xc xs) : en_Call G d xc xs Y w w' as hi hl hr K := by
  intro hst
  refine vx_ofW (cc := Y.2.1) (maxL := Y.2.2.1) (ret := Y.2.2.2.1) (ws' := en_T) hy (by unfold en_wsY; rw [hh]) ?_
  intro p e s m args below meth c s₁ B hml htab hv
  obtain ⟨rfl, hR, hsz⟩ := hv
  have hts := atoms_spec (ws := en_wsY Y) B.pre
  have hp := h p e (en_rm d xc xs) s m (as.map (en_tr G)).toArray below meth c _ xc xs ⟨⟨B.exec, B.bytes, hml, B.returns, findClass_of_methodNamed B.named, fun w0 hw => hts w0 (by unfold en_wsY; exact List.mem_cons_of_mem _ hw), (name_of_methodNamed B.named B.method).1, B.notSynchronized, ?_, hst⟩, ⟨Nat.le_refl _, Nat.le_refl _, Nat.le_refl _, Nat.le_refl _, Nat.le_trans (Nat.le_add_right _ _) hR.2.2.1⟩, Or.inl rfl⟩ s.heap [] 0 0 _ (en_lr_ent hR.2.2.2.2 hlen) hR va_S.rf (by omega) (by omega) (fun e9 => by have := hsz e9; omega)
  · rw [lg_entry_eq]
    exact hp
  · rw [hh]
    exact List.eq_nil_iff_forall_not_mem.mpr fun x hx => htab x hx
end
theorem eg_0 {a0 : Value} {l : List Value} : en_get (a0 :: l) 0 = a0 := rfl
theorem es_0 {a0 v : Value} {l : List Value} : en_set1 (a0 :: l) 0 v = v :: l := rfl
theorem et_0 {a0 a1 v : Value} {l : List Value} : en_set2 (a0 :: a1 :: l) 0 v = v :: jk :: l := rfl
theorem eg_1 {a0 a1 : Value} {l : List Value} : en_get (a0 :: a1 :: l) 1 = a1 := rfl
theorem es_1 {a0 a1 v : Value} {l : List Value} : en_set1 (a0 :: a1 :: l) 1 v = en_fix a0 :: v :: l := rfl
theorem et_1 {a0 a1 a2 v : Value} {l : List Value} : en_set2 (a0 :: a1 :: a2 :: l) 1 v = en_fix a0 :: v :: jk :: l := rfl
theorem eg_2 {a0 a1 a2 : Value} {l : List Value} : en_get (a0 :: a1 :: a2 :: l) 2 = a2 := rfl
theorem es_2 {a0 a1 a2 v : Value} {l : List Value} : en_set1 (a0 :: a1 :: a2 :: l) 2 v = a0 :: en_fix a1 :: v :: l := rfl
theorem et_2 {a0 a1 a2 a3 v : Value} {l : List Value} : en_set2 (a0 :: a1 :: a2 :: a3 :: l) 2 v = a0 :: en_fix a1 :: v :: jk :: l := rfl
theorem eg_3 {a0 a1 a2 a3 : Value} {l : List Value} : en_get (a0 :: a1 :: a2 :: a3 :: l) 3 = a3 := rfl
theorem es_3 {a0 a1 a2 a3 v : Value} {l : List Value} : en_set1 (a0 :: a1 :: a2 :: a3 :: l) 3 v = a0 :: a1 :: en_fix a2 :: v :: l := rfl
theorem et_3 {a0 a1 a2 a3 a4 v : Value} {l : List Value} : en_set2 (a0 :: a1 :: a2 :: a3 :: a4 :: l) 3 v = a0 :: a1 :: en_fix a2 :: v :: jk :: l := rfl
theorem eg_4 {a0 a1 a2 a3 a4 : Value} {l : List Value} : en_get (a0 :: a1 :: a2 :: a3 :: a4 :: l) 4 = a4 := rfl
theorem es_4 {a0 a1 a2 a3 a4 v : Value} {l : List Value} : en_set1 (a0 :: a1 :: a2 :: a3 :: a4 :: l) 4 v = a0 :: a1 :: a2 :: en_fix a3 :: v :: l := rfl
theorem et_4 {a0 a1 a2 a3 a4 a5 v : Value} {l : List Value} : en_set2 (a0 :: a1 :: a2 :: a3 :: a4 :: a5 :: l) 4 v = a0 :: a1 :: a2 :: en_fix a3 :: v :: jk :: l := rfl
theorem eg_5 {a0 a1 a2 a3 a4 a5 : Value} {l : List Value} : en_get (a0 :: a1 :: a2 :: a3 :: a4 :: a5 :: l) 5 = a5 := rfl
theorem es_5 {a0 a1 a2 a3 a4 a5 v : Value} {l : List Value} : en_set1 (a0 :: a1 :: a2 :: a3 :: a4 :: a5 :: l) 5 v = a0 :: a1 :: a2 :: a3 :: en_fix a4 :: v :: l := rfl
theorem et_5 {a0 a1 a2 a3 a4 a5 a6 v : Value} {l : List Value} : en_set2 (a0 :: a1 :: a2 :: a3 :: a4 :: a5 :: a6 :: l) 5 v = a0 :: a1 :: a2 :: a3 :: en_fix a4 :: v :: jk :: l := rfl
theorem eg_6 {a0 a1 a2 a3 a4 a5 a6 : Value} {l : List Value} : en_get (a0 :: a1 :: a2 :: a3 :: a4 :: a5 :: a6 :: l) 6 = a6 := rfl
theorem es_6 {a0 a1 a2 a3 a4 a5 a6 v : Value} {l : List Value} : en_set1 (a0 :: a1 :: a2 :: a3 :: a4 :: a5 :: a6 :: l) 6 v = a0 :: a1 :: a2 :: a3 :: a4 :: en_fix a5 :: v :: l := rfl
theorem et_6 {a0 a1 a2 a3 a4 a5 a6 a7 v : Value} {l : List Value} : en_set2 (a0 :: a1 :: a2 :: a3 :: a4 :: a5 :: a6 :: a7 :: l) 6 v = a0 :: a1 :: a2 :: a3 :: a4 :: en_fix a5 :: v :: jk :: l := rfl
theorem eg_7 {a0 a1 a2 a3 a4 a5 a6 a7 : Value} {l : List Value} : en_get (a0 :: a1 :: a2 :: a3 :: a4 :: a5 :: a6 :: a7 :: l) 7 = a7 := rfl
theorem es_7 {a0 a1 a2 a3 a4 a5 a6 a7 v : Value} {l : List Value} : en_set1 (a0 :: a1 :: a2 :: a3 :: a4 :: a5 :: a6 :: a7 :: l) 7 v = a0 :: a1 :: a2 :: a3 :: a4 :: a5 :: en_fix a6 :: v :: l := rfl
theorem et_7 {a0 a1 a2 a3 a4 a5 a6 a7 a8 v : Value} {l : List Value} : en_set2 (a0 :: a1 :: a2 :: a3 :: a4 :: a5 :: a6 :: a7 :: a8 :: l) 7 v = a0 :: a1 :: a2 :: a3 :: a4 :: a5 :: en_fix a6 :: v :: jk :: l := rfl
theorem eg_8 {a0 a1 a2 a3 a4 a5 a6 a7 a8 : Value} {l : List Value} : en_get (a0 :: a1 :: a2 :: a3 :: a4 :: a5 :: a6 :: a7 :: a8 :: l) 8 = a8 := rfl
theorem es_8 {a0 a1 a2 a3 a4 a5 a6 a7 a8 v : Value} {l : List Value} : en_set1 (a0 :: a1 :: a2 :: a3 :: a4 :: a5 :: a6 :: a7 :: a8 :: l) 8 v = a0 :: a1 :: a2 :: a3 :: a4 :: a5 :: a6 :: en_fix a7 :: v :: l := rfl
theorem et_8 {a0 a1 a2 a3 a4 a5 a6 a7 a8 a9 v : Value} {l : List Value} : en_set2 (a0 :: a1 :: a2 :: a3 :: a4 :: a5 :: a6 :: a7 :: a8 :: a9 :: l) 8 v = a0 :: a1 :: a2 :: a3 :: a4 :: a5 :: a6 :: en_fix a7 :: v :: jk :: l := rfl
theorem eg_9 {a0 a1 a2 a3 a4 a5 a6 a7 a8 a9 : Value} {l : List Value} : en_get (a0 :: a1 :: a2 :: a3 :: a4 :: a5 :: a6 :: a7 :: a8 :: a9 :: l) 9 = a9 := rfl
theorem es_9 {a0 a1 a2 a3 a4 a5 a6 a7 a8 a9 v : Value} {l : List Value} : en_set1 (a0 :: a1 :: a2 :: a3 :: a4 :: a5 :: a6 :: a7 :: a8 :: a9 :: l) 9 v = a0 :: a1 :: a2 :: a3 :: a4 :: a5 :: a6 :: a7 :: en_fix a8 :: v :: l := rfl
theorem et_9 {a0 a1 a2 a3 a4 a5 a6 a7 a8 a9 a10 v : Value} {l : List Value} : en_set2 (a0 :: a1 :: a2 :: a3 :: a4 :: a5 :: a6 :: a7 :: a8 :: a9 :: a10 :: l) 9 v = a0 :: a1 :: a2 :: a3 :: a4 :: a5 :: a6 :: a7 :: en_fix a8 :: v :: jk :: l := rfl
theorem eg_10 {a0 a1 a2 a3 a4 a5 a6 a7 a8 a9 a10 : Value} {l : List Value} : en_get (a0 :: a1 :: a2 :: a3 :: a4 :: a5 :: a6 :: a7 :: a8 :: a9 :: a10 :: l) 10 = a10 := rfl
theorem es_10 {a0 a1 a2 a3 a4 a5 a6 a7 a8 a9 a10 v : Value} {l : List Value} : en_set1 (a0 :: a1 :: a2 :: a3 :: a4 :: a5 :: a6 :: a7 :: a8 :: a9 :: a10 :: l) 10 v = a0 :: a1 :: a2 :: a3 :: a4 :: a5 :: a6 :: a7 :: a8 :: en_fix a9 :: v :: l := rfl
theorem et_10 {a0 a1 a2 a3 a4 a5 a6 a7 a8 a9 a10 a11 v : Value} {l : List Value} : en_set2 (a0 :: a1 :: a2 :: a3 :: a4 :: a5 :: a6 :: a7 :: a8 :: a9 :: a10 :: a11 :: l) 10 v = a0 :: a1 :: a2 :: a3 :: a4 :: a5 :: a6 :: a7 :: a8 :: en_fix a9 :: v :: jk :: l := rfl
theorem eg_11 {a0 a1 a2 a3 a4 a5 a6 a7 a8 a9 a10 a11 : Value} {l : List Value} : en_get (a0 :: a1 :: a2 :: a3 :: a4 :: a5 :: a6 :: a7 :: a8 :: a9 :: a10 :: a11 :: l) 11 = a11 := rfl
theorem es_11 {a0 a1 a2 a3 a4 a5 a6 a7 a8 a9 a10 a11 v : Value} {l : List Value} : en_set1 (a0 :: a1 :: a2 :: a3 :: a4 :: a5 :: a6 :: a7 :: a8 :: a9 :: a10 :: a11 :: l) 11 v = a0 :: a1 :: a2 :: a3 :: a4 :: a5 :: a6 :: a7 :: a8 :: a9 :: en_fix a10 :: v :: l := rfl
theorem et_11 {a0 a1 a2 a3 a4 a5 a6 a7 a8 a9 a10 a11 a12 v : Value} {l : List Value} : en_set2 (a0 :: a1 :: a2 :: a3 :: a4 :: a5 :: a6 :: a7 :: a8 :: a9 :: a10 :: a11 :: a12 :: l) 11 v = a0 :: a1 :: a2 :: a3 :: a4 :: a5 :: a6 :: a7 :: a8 :: a9 :: en_fix a10 :: v :: jk :: l := rfl
theorem eg_12 {a0 a1 a2 a3 a4 a5 a6 a7 a8 a9 a10 a11 a12 : Value} {l : List Value} : en_get (a0 :: a1 :: a2 :: a3 :: a4 :: a5 :: a6 :: a7 :: a8 :: a9 :: a10 :: a11 :: a12 :: l) 12 = a12 := rfl
theorem es_12 {a0 a1 a2 a3 a4 a5 a6 a7 a8 a9 a10 a11 a12 v : Value} {l : List Value} : en_set1 (a0 :: a1 :: a2 :: a3 :: a4 :: a5 :: a6 :: a7 :: a8 :: a9 :: a10 :: a11 :: a12 :: l) 12 v = a0 :: a1 :: a2 :: a3 :: a4 :: a5 :: a6 :: a7 :: a8 :: a9 :: a10 :: en_fix a11 :: v :: l := rfl
theorem et_12 {a0 a1 a2 a3 a4 a5 a6 a7 a8 a9 a10 a11 a12 a13 v : Value} {l : List Value} : en_set2 (a0 :: a1 :: a2 :: a3 :: a4 :: a5 :: a6 :: a7 :: a8 :: a9 :: a10 :: a11 :: a12 :: a13 :: l) 12 v = a0 :: a1 :: a2 :: a3 :: a4 :: a5 :: a6 :: a7 :: a8 :: a9 :: a10 :: en_fix a11 :: v :: jk :: l := rfl
theorem ef_i {x : Int32} : en_fix (.int x) = .int x := rfl
theorem ef_r {x : Nat} : en_fix (.ref x) = .ref x := rfl
theorem ef_j {x : UInt32} : en_fix (.float x) = .float x := rfl
theorem ef_l {x : Int64} : en_fix (.long x) = .float 0 := rfl
theorem iI_add (a b : Int) : iI a + iI b = iI (a + b) := by unfold iI; exact (Int32.ofInt_add a b).symm
theorem iI_sub (a b : Int) : iI a - iI b = iI (a - b) := by unfold iI; exact (Int32.ofInt_sub a b).symm
theorem iI_mul (a b : Int) : iI a * iI b = iI (a * b) := by unfold iI; exact (Int32.ofInt_mul a b).symm
theorem iI_neg (a : Int) : -iI a = iI (-a) := by unfold iI; exact (Int32.ofInt_neg a).symm
theorem jL_add (a b : Int) : jL a + jL b = jL (a + b) := by unfold jL; exact (Int64.ofInt_add a b).symm
theorem jL_sub (a b : Int) : jL a - jL b = jL (a - b) := by unfold jL; exact (Int64.ofInt_sub a b).symm
theorem jL_mul (a b : Int) : jL a * jL b = jL (a * b) := by unfold jL; exact (Int64.ofInt_mul a b).symm
theorem iI_toInt {a : Int} (h1 : -2147483648 ≤ a) (h2 : a < 2147483648) : (iI a).toInt = a := by
  unfold iI
  rw [Int32.toInt_ofInt]
  unfold Int.bmod
  simp only [Int32.size]
  omega
theorem jL_toInt {a : Int} (h1 : -9223372036854775808 ≤ a) (h2 : a < 9223372036854775808) : (jL a).toInt = a := by
  unfold jL
  rw [Int64.toInt_ofInt]
  unfold Int.bmod
  simp only [Int64.size]
  omega
theorem iI_of (x : Int32) : ∃ a : Int, -2147483648 ≤ a ∧ a < 2147483648 ∧ x = iI a := by
  refine ⟨x.toInt, Int32.le_toInt x, Int32.toInt_lt x, ?_⟩
  unfold iI
  exact (Int32.ofInt_toInt x).symm
theorem iI_lt {a b : Int} (h1 : -2147483648 ≤ a) (h2 : a < 2147483648) (h3 : -2147483648 ≤ b) (h4 : b < 2147483648) : (iI a < iI b) = (a < b) := by
  rw [Int32.lt_iff_toInt_lt, iI_toInt h1 h2, iI_toInt h3 h4]
theorem iI_le {a b : Int} (h1 : -2147483648 ≤ a) (h2 : a < 2147483648) (h3 : -2147483648 ≤ b) (h4 : b < 2147483648) : (iI a ≤ iI b) = (a ≤ b) := by
  rw [Int32.le_iff_toInt_le, iI_toInt h1 h2, iI_toInt h3 h4]
theorem iI_eq {a b : Int} (h1 : -2147483648 ≤ a) (h2 : a < 2147483648) (h3 : -2147483648 ≤ b) (h4 : b < 2147483648) : (iI a = iI b) = (a = b) := by
  refine propext ⟨fun h => ?_, fun h => by rw [h]⟩
  have := congrArg Int32.toInt h
  rwa [iI_toInt h1 h2, iI_toInt h3 h4] at this
theorem iI_z : (0 : Int32) = iI 0 := rfl
def en_ops := And.intro @oe_iadd (And.intro @oe_isub (And.intro @oe_imul (And.intro @oe_iand (And.intro @oe_ior (And.intro @oe_ishl (And.intro @oe_ishr (And.intro @oe_iushr (And.intro @oe_idiv (And.intro @oe_irem (And.intro @oe_ineg (And.intro @oe_ladd (And.intro @oe_lmul (And.intro @oe_ldiv (And.intro @oe_lrem (And.intro @oe_lcmp (And.intro @oe_i2l (And.intro @oe_l2i (And.intro @oe_i2b (And.intro @oe_i2c (And.intro @oe_pop (And.intro @oe_popr (And.intro @oe_dupr (And.intro @oe_dupi (And.intro @oe_dup2 (And.intro @oe_iconst (And.intro @oe_bipush (And.intro @oe_sipush (And.intro @oe_lconst (And.intro @oe_ldc (And.intro @oe_ldcw (And.intro @oe_ldc2 (And.intro @oe_iload (And.intro @oe_lload (And.intro @oe_aload (And.intro @oe_istore (And.intro @oe_lstore (And.intro @oe_astore (And.intro @oe_iinc (And.intro @oe_ifeq (And.intro @oe_ifne (And.intro @oe_iflt (And.intro @oe_ifge (And.intro @oe_ifgt (And.intro @oe_ifle (And.intro @oe_iceq (And.intro @oe_icne (And.intro @oe_iclt (And.intro @oe_icge (And.intro @oe_icgt (And.intro @oe_icle (And.intro @oe_tsw (And.intro @oe_getI (And.intro @oe_getL (And.intro @oe_getR (And.intro @oe_putI (And.intro @oe_putZ (And.intro @oe_putL (And.intro @oe_putR (And.intro @oe_iaload (And.intro @oe_baload (And.intro @oe_laload (And.intro @oe_aaload (And.intro @oe_iastore (And.intro @oe_bastore (And.intro @oe_lastore (And.intro @oe_alen (And.intro @oe_iret (And.intro @oe_nret (And.intro @oe_lret (And.intro @oe_aret (And.intro @oe_vret (And.intro @oe_kl (And.intro @oe_kr (And.intro @eg_0 (And.intro @es_0 (And.intro @et_0 (And.intro @eg_1 (And.intro @es_1 (And.intro @et_1 (And.intro @eg_2 (And.intro @es_2 (And.intro @et_2 (And.intro @eg_3 (And.intro @es_3 (And.intro @et_3 (And.intro @eg_4 (And.intro @es_4 (And.intro @et_4 (And.intro @eg_5 (And.intro @es_5 (And.intro @et_5 (And.intro @eg_6 (And.intro @es_6 (And.intro @et_6 (And.intro @eg_7 (And.intro @es_7 (And.intro @et_7 (And.intro @eg_8 (And.intro @es_8 (And.intro @et_8 (And.intro @eg_9 (And.intro @es_9 (And.intro @et_9 (And.intro @eg_10 (And.intro @es_10 (And.intro @et_10 (And.intro @eg_11 (And.intro @es_11 (And.intro @et_11 (And.intro @eg_12 (And.intro @es_12 (And.intro @et_12 (And.intro @ef_i (And.intro @ef_r (And.intro @ef_j (@ef_l))))))))))))))))))))))))))))))))))))))))))))))))))))))))))))))))))))))))))))))))))))))))))))))))))))))))))))))))))))
