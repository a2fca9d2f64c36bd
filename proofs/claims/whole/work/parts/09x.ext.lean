section
variable {G : en_G} {Y : en_Y} {d : Nat} {w w' w1 : en_Wd} {K : en_K} {k kt kf : en_Kont} {kx : en_KX} {pc : Nat} {ls st : List Value} {hi : en_I} {hl : en_L} {hr : en_F} {uc us : Nat}
-- System.arraycopy of rows of ints
def en_cpy (f g : Nat → Int32) (sp dp n : Nat) : Nat → Int32 := fun j => if dp ≤ j ∧ j < dp + n then f (sp + (j - dp)) else g j
def o_copy (w : en_Wd) (k : en_Kont) : en_Kont := fun ls st hi hl hr uc us => match st with
  | .int n :: .int dp :: .ref a :: .int sp :: .ref a0 :: r => (r.map fun v => v.category).sum ≤ 8 ∧ ∃ n' dp' sp' : Nat, n = iI n' ∧ dp = iI dp' ∧ sp = iI sp' ∧ ((en_SH a).1 = 100 ∧ a < w.1) ∧ ((en_SH a0).1 = 100 ∧ a0 < w.1) ∧ sp' + n' ≤ (en_SH a0).2 ∧ dp' + n' ≤ (en_SH a).2 ∧ k ls r (en_row hi a (en_cpy (hi a0) (hi a) sp' dp' n')) hl hr uc us
  | _ => False
theorem oe_copy {n dp sp : Int32} {a a0 : Nat} {r : List Value} : o_copy w k ls (.int n :: .int dp :: .ref a :: .int sp :: .ref a0 :: r) hi hl hr uc us = ((r.map fun v => v.category).sum ≤ 8 ∧ ∃ n' dp' sp' : Nat, n = iI n' ∧ dp = iI dp' ∧ sp = iI sp' ∧ ((en_SH a).1 = 100 ∧ a < w.1) ∧ ((en_SH a0).1 = 100 ∧ a0 < w.1) ∧ sp' + n' ≤ (en_SH a0).2 ∧ dp' + n' ≤ (en_SH a).2 ∧ k ls r (en_row hi a (en_cpy (hi a0) (hi a) sp' dp' n')) hl hr uc us) := rfl
theorem sn_copy {idx : Nat} (hlk : Cond.methodLink Y.1.cls idx arraycopyName ∈ en_T) (hnat : Cond.native arraycopyName ∈ en_T) (hst : Cond.static arraycopyName ∈ en_T) (hini : Cond.initialized "java/lang/System" ∈ en_T) (hd : decode Y.2.1 pc = .ok (.invokestatic idx, 3)) (hk : en_S G Y d w w' K k (pc + 3)) : en_S G Y d w w' K (o_copy w k) pc := by
  intro ls st hi hl hr uc us h
  unfold o_copy at h
  split at h
  next n dp a sp a0 r =>
    intro p e R s m args below meth c Q xc xs hC H locs cells slots rl h1 h2 h3 h4 h5 h6
    obtain ⟨hcat, n', dp', sp', rfl, rfl, rfl, ⟨hs, ha⟩, ⟨hs0, ha0⟩, b1, b2, h⟩ := h
    have hsm := en_SH_small a
    have hsm0 := en_SH_small a0
    have cl : ∀ i : Nat, i < 2 ^ 31 → ¬ iI (i : Int) < 0 := fun i hi9 => by rw [iI_nat]; exact nI_pos hi9
    rw [List.map_cons, List.map_cons, List.map_cons, List.map_cons, List.map_cons, en_ref h2 ha, en_ref h2 ha0, en_tr_int, en_tr_int, en_tr_int]
    refine va_copyi hC.1.1 hC.1.2.1 (by rw [hC.1.2.2.1, h1.1]) hC.1.2.2.2.2.1 (hC.1.2.2.2.2.2.1 _ hlk) (hC.1.2.2.2.2.2.1 _ hnat) (hC.1.2.2.2.2.2.1 _ hst) (hC.1.2.2.2.2.2.1 _ hini) h2.2.1 h2.1 en_ws_D h3 a0 a 0 0 (en_at_i ha0 hs0) (en_at_i ha hs) rfl rfl rfl (cl _ (by omega)) (cl _ (by omega)) (cl _ (by omega)) (by rw [iI_cl (by omega), iI_cl (by omega)]; exact b1) (by rw [iI_cl (by omega), iI_cl (by omega)]; exact b2) (fun _ _ => rfl) ?_ ?_ hd (fun H1 locs1 hP1 _ hS1 => ?_)
    · have := hC.2.1.1; omega
    · have g1 := hC.2.1.2.1
      rw [en_cats h2.2.2.2.2]
      have g2 : nativeFrameWords "java/lang/System" "arraycopy" 5 ≤ 100 := by decide +kernel
      omega
    · rw [iI_cl (by omega), iI_cl (by omega), iI_cl (by omega)] at hP1
      rw [en_ws_set (fi := en_cpy (hi a0) (hi a) sp' dp' n') (fl := hl a) (fr := hr a) ha (by unfold en_enc; rw [hs]; rfl)] at hP1
      rw [en_row_self, en_row_self] at hP1
      exact hk _ _ _ _ _ _ _ h p e R s m args below meth c Q xc xs hC H1 locs1 cells slots rl h1 (en_wr h2 h3 hS1 hC.2.1.2.2.2.2 hP1) hS1 h4 h5 h6
  next => exact h.elim
-- texts
def o_ldcS (j : Nat) (k : en_Kont) : en_Kont := fun ls st hi hl hr uc us => k ls (.ref (1000000 + j) :: st) hi hl hr uc us
theorem oe_ldcS {j : Nat} : o_ldcS j k ls st hi hl hr uc us = k ls (.ref (1000000 + j) :: st) hi hl hr uc us := rfl
theorem en_str {j idx : Nat} {tx : String} {bs : List Int32} {s : State} {H : Heap} {cls : String} (hj : en_strs[j]? = some (cls, idx, tx, bs)) (hZ : en_Z G s H) : ∃ a v : Nat, en_tr G (.ref (1000000 + j)) = .ref a ∧ en_tr G (.ref (2000000 + j)) = .ref v ∧ vk_R cls idx tx a s ∧ va_O "java/lang/String" a (en_A G) s H ∧ va_OF "java/lang/String" "coder" "B" (.int 0) a (en_A G) s H ∧ va_OF "java/lang/String" "value" "[B" (.ref v) a (en_A G) s H ∧ va_T .byte v bs.length (fun i => .int (bs.getD i 0)) (en_A G) s H := by
  obtain ⟨a, v, e1, e2, r⟩ := hZ.2.2.2.2.2.1 j _ hj
  refine ⟨a, v, ?_, ?_, r⟩
  · rw [← e1]; exact if_neg (show ¬ 1000000 + j < 1000000 by omega)
  · rw [← e2]; exact if_neg (show ¬ 2000000 + j < 1000000 by omega)
theorem sn_ldcS {j idx : Nat} {tx : String} {bs : List Int32} (hj : en_strs[j]? = some (Y.1.cls, idx, tx, bs)) (hd : decode Y.2.1 pc = .ok (.ldc idx, 2)) (hk : en_S G Y d w w' K k (pc + 2)) : en_S G Y d w w' K (o_ldcS j k) pc := by
  intro ls st hi hl hr uc us h
  intro p e R s m args below meth c Q xc xs hC H locs cells slots rl h1 h2 h3 h4 h5 h6
  obtain ⟨a, v, e1, e2, r1, -⟩ := en_str hj h2.2.2.2.2
  have hh := hk _ _ _ _ _ _ _ h p e R s m args below meth c Q xc xs hC H locs cells slots rl h1 h2 h3 h4 h5 h6
  rw [List.map_cons, e1] at hh
  exact va_ldcS hC.1.1 hC.1.2.1 hC.1.2.2.2.2.1 r1 hd hh
theorem sn_ldcSw {j idx : Nat} {tx : String} {bs : List Int32} (hj : en_strs[j]? = some (Y.1.cls, idx, tx, bs)) (hd : decode Y.2.1 pc = .ok (.ldc_w idx, 3)) (hk : en_S G Y d w w' K k (pc + 3)) : en_S G Y d w w' K (o_ldcS j k) pc := by
  intro ls st hi hl hr uc us h
  intro p e R s m args below meth c Q xc xs hC H locs cells slots rl h1 h2 h3 h4 h5 h6
  obtain ⟨a, v, e1, e2, r1, -⟩ := en_str hj h2.2.2.2.2
  have hh := hk _ _ _ _ _ _ _ h p e R s m args below meth c Q xc xs hC H locs cells slots rl h1 h2 h3 h4 h5 h6
  rw [List.map_cons, e1] at hh
  intro T hT X
  obtain ⟨t, a1, b1⟩ := hh T hT X
  exact ⟨t, X.ldcStringW hC.1.1 hC.1.2.2.2.2.1 (text := tx) (a := a) r1.1 r1.2 (g := F0 m pc rl (st.map (en_tr G))) rfl (by rw [hC.1.2.1]; exact hd) t a1, b1⟩

-- throwing
def o_throw (E : String) (K : en_K) : en_Kont := fun _ st hi hl hr uc us => ((st.map fun v => v.category).sum ≤ 8 ∧ 1 ≤ uc ∧ 6 ≤ us) ∧ K (.inr E) hi hl hr
theorem oe_throw {E : String} : o_throw E K ls [] hi hl hr uc us = ((True ∧ 1 ≤ uc ∧ 6 ≤ us) ∧ K (.inr E) hi hl hr) := by
  unfold o_throw
  simp
def en_thr (own : String) (ik ic : Nat) (E : String) : Prop := Bundle.fit E = true ∧ (Cond.classLink own ik E ∈ en_T) ∧ Cond.initialized E ∈ en_T ∧ (∀ w0 ∈ vx_atS own ic E ["java/lang/RuntimeException", "java/lang/Exception"], w0 ∈ en_T ∨ (w0 ∈ en_X1 ∧ w0.onTables = true)) ∧ ∀ w0 ∈ Cond.classLink own ik E :: Cond.initialized E :: vx_atS own ic E ["java/lang/RuntimeException", "java/lang/Exception"], vx_ot w0 = true
theorem sn_throw {j ik is ic : Nat} {E tx : String} {bs : List Int32} (ht : en_thr Y.1.cls ik ic E) (hj : en_strs[j]? = some (Y.1.cls, is, tx, bs)) (htab : Y.2.2.2.2 = []) (d0 : decode Y.2.1 pc = .ok (.new ik, 3)) (d3 : decode Y.2.1 (pc + 3) = .ok (.dup, 1)) (d4 : decode Y.2.1 (pc + 4) = .ok (.ldc is, 2)) (d6 : decode Y.2.1 (pc + 6) = .ok (.invokespecial ic, 3)) (d9 : decode Y.2.1 (pc + 9) = .ok (.athrow, 1)) : en_S G Y d w w K (o_throw E K) pc := by
  intro ls st hi hl hr uc us h
  intro p e R s m args below meth c Q xc xs hC H locs cells slots rl h1 h2 h3 h4 h5 h6
  obtain ⟨⟨hcat, g1, g2⟩, h⟩ := h
  obtain ⟨a, v, e1, e2, r1, -⟩ := en_str hj h2.2.2.2.2
  rcases hC.2.2 with rfl | ⟨hq0, hq⟩
  · refine vx_throwS (A := en_A G) (names := ["java/lang/RuntimeException", "java/lang/Exception"]) hC.1.1 hC.1.2.1 hC.1.2.2.2.2.2.2.2.2.2 hC.1.2.2.2.2.1 ht.1 (by decide +kernel) (hC.1.2.2.2.2.2.1 _ ht.2.1) (hC.1.2.2.2.2.2.1 _ ht.2.2.1) r1 (fun w0 hw => ?_) ht.2.2.2.2 ?_ ?_ h3 (by rw [hC.1.2.2.1, h1.1]) d0 d3 d4 d6 d9 ?_ ?_ ?_ ?_ ?_ hC.1.2.2.2.2.2.2.2.1 (fun t hA hsz hkp => ?_) h3.2.2 (by omega) (by omega)
    · rcases ht.2.2.2.1 w0 hw with q | ⟨q, q2⟩
      · exact hC.1.2.2.2.2.2.1 _ q
      · exact va_Nw.use q2 (h2.2.2.2.2.2.2.2.2.2.2.2.1 w0 q)
    · exact h2.2.2.2.2.2.1.kept (fun a ha hA => (h3.2.1 a (Nat.lt_of_lt_of_le (Nat.lt_of_not_le hA) hC.2.1.2.2.2.2) hA).symm)
    · exact h2.2.2.2.2.2.2.1.kept (fun a ha hA => (h3.2.1 a (Nat.lt_of_lt_of_le (Nat.lt_of_not_le hA) hC.2.1.2.2.2.2) hA).symm)
    · intro x hx
      rw [hC.1.2.2.2.2.2.2.2.2.1, htab] at hx
      cases hx
    · have := hC.2.1.1
      show 2 + 3 < R.frames
      omega
    · have := hC.2.1.2.1
      rw [en_cats h2.2.2.2.2]
      show _ + (13 * (2 + 1) + 43) ≤ R.locals
      omega
    · have := hC.2.1.2.2.1; omega
    · have := hC.2.1.2.2.2.1; omega
    · refine ⟨hi, hl, hr, h, ⟨h2.1.kept (fun k0 q0 hk0 => hkp q0.1 ((h2.1 k0 q0 hk0).lt)), Nat.le_trans h2.2.2.1 hsz, h2.2.2.2.1⟩, Nat.le_trans h3.1 hsz, fun q g3 g4 => ?_⟩
      rw [hkp q (Nat.lt_of_lt_of_le g3 h3.1)]
      exact h3.2.1 q g3 g4
  · obtain ⟨z, hz⟩ := hq0 _ _ _ _ h; cases hz

theorem en_back {s : State} {H : Heap} {locs : List Loc} (h3 : va_S (en_A G) s.heap H locs) (hb : G.2.1 ≤ s.heap.size) : ∀ a : Nat, a < H.size → ¬ en_A G a → s.heap[a]? = H[a]? := fun a _ hA => (h3.2.1 a (Nat.lt_of_lt_of_le (Nat.lt_of_not_le hA) hb) hA).symm
-- a call by a text
def o_invS (G : en_G) (d : Nat) (Yc : en_Y) (np : Nat) (w : en_Wd) (k : en_Kont) : en_Kont := fun ls st hi hl hr uc us => match st.drop np with
  | .ref a :: r => (∃ j : Nat, a = 1000000 + j ∧ j < en_strs.length) ∧ (r.map fun v => v.category).sum ≤ 8 ∧ en_Call G d 0 0 Yc w w (.ref a :: (st.take np).reverse) hi hl hr (en_kk k x_no ls r uc us)
  | _ => False
theorem sn_invS {np idx : Nat} {Yc : en_Y} (hcal : en_Cal Yc np) (hcv : en_CalV Yc) (hcn : Yc.1.cls = "java/lang/String") (hlk : Cond.methodLink Y.1.cls idx Yc.1 ∈ en_T) (hd : decode Y.2.1 pc = .ok (.invokevirtual idx, 3)) (hk : en_S G Y (d + 1) w w' K k (pc + 3)) : en_S G Y (d + 1) w w' K (o_invS G d Yc np w k) pc := by
  intro ls st hi hl hr uc us h
  unfold o_invS at h
  split at h
  next a r hst =>
    intro p e R s m args below meth c Q xc xs hC H locs cells slots rl h1 h2 h3 h4 h5 h6
    obtain ⟨⟨j, hj, hj2⟩, hcat, h⟩ := h
    have hlen : (st.take np).length = np := by
      have h9 : (st.drop np).length = st.length - np := List.length_drop
      rw [hst] at h9
      rw [List.length_take]
      simp only [List.length_cons] at h9
      omega
    have hst2 : st = st.take np ++ .ref a :: r := by rw [← hst, List.take_append_drop]
    obtain ⟨sa, v, e1, e2, r1, r2, -⟩ := en_str (List.getElem?_eq_getElem hj2) h2.2.2.2.2
    have ea : en_tr G (.ref a) = .ref sa := by rw [hj]; exact e1
    refine en_fin (r := r) (w1 := w) (mc := 0) (ms := 0) (kx := x_no) (a := ((Value.ref a :: (st.take np).reverse).map (en_tr G)).toArray) hC h1 h2 h3 h4 h5 h6 (Nat.zero_le _) (Nat.zero_le _) (fun e => ⟨e, Nat.le_refl _⟩) hk sn_no ?_
    intro T9 hT9 X9
    have hsz : w.2 = true → H.size ≤ G.2.1 + w.1 := fun e9 => by
      have := X9.heapSize
      rw [hT9] at this
      exact Nat.le_trans this (h6 e9)
    have hts : ∀ w0 ∈ en_T, w0.before args s = true := hC.1.2.2.2.2.2.1
    have hM : vx_Met G.1 Yc.1 (en_wsY Yc) (en_rm d 0 0) (fun v U => v = ((Value.ref a :: (st.take np).reverse).map (en_tr G)).toArray ∧ en_R G w hi hl hr U U.heap ∧ (w.2 = true → U.heap.size ≤ G.2.1 + w.1)) (en_Qc G w (en_kk k x_no ls r uc us)) (en_XC G w (en_kk k x_no ls r uc us)) 0 0 (en_A G) := h hC.1.2.2.2.2.2.2.2.2.2
    have hcw : CallW R s args Y.1.cls Yc.1.cls idx Yc.1 Yc.2.1 Yc.2.2.1 Yc.2.2.2.1 (en_wsY Yc) (en_rm d 0 0) 0 0 np := ⟨en_callB hcal hts hlk hC.2.1.1 hC.2.1.2.1, hts _ hcv.1, hts _ hcv.2⟩
    have hmap : (Value.ref a :: (st.take np).reverse).map (en_tr G) = Value.ref sa :: ((st.take np).reverse).map (en_tr G) := by rw [List.map_cons, ea]
    have hpre : PreV s H Yc.1.cls sa (fun v U => v = ((Value.ref a :: (st.take np).reverse).map (en_tr G)).toArray ∧ en_R G w hi hl hr U U.heap ∧ (w.2 = true → U.heap.size ≤ G.2.1 + w.1)) (((st.take np).reverse).map (en_tr G)) := by
      refine ⟨en_blind, ?_, fun U hU hW => ⟨by rw [hmap], ?_, ?_⟩⟩
      · obtain ⟨cell, k1, k2, k3, -⟩ := r2
        exact ⟨cell, k1, k2, by rw [hcn]; exact k3⟩
      · rw [hU]; exact h2.warm hW
      · rw [hU]; exact hsz
    have hstk : (F0 m pc rl (st.map (en_tr G))).stack = (((st.take np).reverse).map (en_tr G)).reverse ++ Value.ref sa :: r.map (en_tr G) := by
      show st.map (en_tr G) = _
      rw [← List.map_reverse, List.reverse_reverse]
      have e9 : st.map (en_tr G) = (st.take np ++ Value.ref a :: r).map (en_tr G) := by rw [← hst2]
      rw [e9, List.map_append, List.map_cons, ea]
    have hroom : cells + 0 ≤ R.cells ∧ slots + 0 ≤ R.slots := by
      have g1 := hC.2.1.2.2.1
      have g2 := hC.2.1.2.2.2.1
      omega
    have hlen2 : (((st.take np).reverse).map (en_tr G)).length = np := by rw [List.length_map, List.length_reverse, hlen]
    have hfix : CallFix p m c Y.2.1 Y.2.2.1 s args en_T Y.1.cls := ⟨hC.1.1, hC.1.2.1, hC.1.2.2.1, hC.1.2.2.2.2.1, hts⟩
    have hrun := vx_runV (e := e) (below := below) (meth := meth) (H := H) (locs := locs) (cells := cells) (slots := slots) (g := F0 m pc rl (st.map (en_tr G))) hfix hM hcw hpre rfl hlen2 h1.1 hstk (en_catsum h2.2.2.2.2 hcat) hd hroom
    rw [hmap]
    exact hrun T9 hT9 X9
  next => exact h.elim
-- what a text holds
def en_tb (j : Nat) : List Int32 := (en_strs.getD j ("", 0, "", [])).2.2.2
theorem en_tb_at {j : Nat} (h : j < en_strs.length) : ∃ c i t, en_strs[j]? = some (c, i, t, en_tb j) := by
  refine ⟨(en_strs[j]).1, (en_strs[j]).2.1, (en_strs[j]).2.2.1, ?_⟩
  unfold en_tb
  rw [List.getD_eq_getElem?_getD, List.getElem?_eq_getElem h]
  rfl
def o_getSV (k : en_Kont) : en_Kont := fun ls st hi hl hr uc us => match st with
  | .ref a :: r => (∃ j : Nat, a = 1000000 + j ∧ j < en_strs.length) ∧ k ls (.ref (a + 1000000) :: r) hi hl hr uc us
  | _ => False
theorem oe_getSV {a : Nat} {r : List Value} : o_getSV k ls (.ref a :: r) hi hl hr uc us = ((∃ j : Nat, a = 1000000 + j ∧ j < en_strs.length) ∧ k ls (.ref (a + 1000000) :: r) hi hl hr uc us) := rfl
theorem sn_getSV {idx : Nat} (hlk : Cond.fieldLink Y.1.cls idx "java/lang/String" "value" "[B" ∈ en_T) (hd : decode Y.2.1 pc = .ok (.getfield idx, 3)) (hk : en_S G Y d w w' K k (pc + 3)) : en_S G Y d w w' K (o_getSV k) pc := by
  intro ls st hi hl hr uc us h
  unfold o_getSV at h
  split at h
  next a r =>
    intro p e R s m args below meth c Q xc xs hC H locs cells slots rl h1 h2 h3 h4 h5 h6
    obtain ⟨⟨j, rfl, hj⟩, h⟩ := h
    obtain ⟨c0, i0, t0, hs⟩ := en_tb_at hj
    obtain ⟨sa, v, e1, e2, r1, r2, r3, r4, r5⟩ := en_str hs h2.2.2.2.2
    have hh := hk _ _ _ _ _ _ _ h p e R s m args below meth c Q xc xs hC H locs cells slots rl h1 h2 h3 h4 h5 h6
    rw [List.map_cons, show 1000000 + j + 1000000 = 2000000 + j by omega, e2] at hh
    rw [List.map_cons, e1]
    exact vk_getf hC.1.1 hC.1.2.1 (r4.kept (en_back h3 hC.2.1.2.2.2.2)) h3 hC.1.2.2.2.2.1 (hC.1.2.2.2.2.2.1 _ hlk) (fun _ h9 => h9) hd hh
  next => exact h.elim
def o_getSC (k : en_Kont) : en_Kont := fun ls st hi hl hr uc us => match st with
  | .ref a :: r => (∃ j : Nat, a = 1000000 + j ∧ j < en_strs.length) ∧ k ls (.int (iI 0) :: r) hi hl hr uc us
  | _ => False
theorem oe_getSC {a : Nat} {r : List Value} : o_getSC k ls (.ref a :: r) hi hl hr uc us = ((∃ j : Nat, a = 1000000 + j ∧ j < en_strs.length) ∧ k ls (.int (iI 0) :: r) hi hl hr uc us) := rfl
theorem sn_getSC {idx : Nat} (hlk : Cond.fieldLink Y.1.cls idx "java/lang/String" "coder" "B" ∈ en_T) (hd : decode Y.2.1 pc = .ok (.getfield idx, 3)) (hk : en_S G Y d w w' K k (pc + 3)) : en_S G Y d w w' K (o_getSC k) pc := by
  intro ls st hi hl hr uc us h
  unfold o_getSC at h
  split at h
  next a r =>
    intro p e R s m args below meth c Q xc xs hC H locs cells slots rl h1 h2 h3 h4 h5 h6
    obtain ⟨⟨j, rfl, hj⟩, h⟩ := h
    obtain ⟨c0, i0, t0, hs⟩ := en_tb_at hj
    obtain ⟨sa, v, e1, e2, r1, r2, r3, r4, r5⟩ := en_str hs h2.2.2.2.2
    have hh := hk _ _ _ _ _ _ _ h p e R s m args below meth c Q xc xs hC H locs cells slots rl h1 h2 h3 h4 h5 h6
    rw [List.map_cons, e1]
    exact vk_getf hC.1.1 hC.1.2.1 (r3.kept (en_back h3 hC.2.1.2.2.2.2)) h3 hC.1.2.2.2.2.1 (hC.1.2.2.2.2.2.1 _ hlk) (fun _ h9 => h9) hd hh
  next => exact h.elim
def o_alenS (k : en_Kont) : en_Kont := fun ls st hi hl hr uc us => match st with
  | .ref a :: r => ∃ j : Nat, a = 2000000 + j ∧ j < en_strs.length ∧ k ls (.int (iI ((en_tb j).length : Nat)) :: r) hi hl hr uc us
  | _ => False
theorem oe_alenS {a : Nat} {r : List Value} : o_alenS k ls (.ref a :: r) hi hl hr uc us = (∃ j : Nat, a = 2000000 + j ∧ j < en_strs.length ∧ k ls (.int (iI ((en_tb j).length : Nat)) :: r) hi hl hr uc us) := rfl
theorem sn_alenS (hd : decode Y.2.1 pc = .ok (.arraylength, 1)) (hk : en_S G Y d w w' K k (pc + 1)) : en_S G Y d w w' K (o_alenS k) pc := by
  intro ls st hi hl hr uc us h
  unfold o_alenS at h
  split at h
  next a r =>
    intro p e R s m args below meth c Q xc xs hC H locs cells slots rl h1 h2 h3 h4 h5 h6
    obtain ⟨j, rfl, hj, h⟩ := h
    obtain ⟨c0, i0, t0, hs⟩ := en_tb_at hj
    obtain ⟨sa, v, e1, e2, r1, r2, r3, r4, r5⟩ := en_str hs h2.2.2.2.2
    have hh := hk _ _ _ _ _ _ _ h p e R s m args below meth c Q xc xs hC H locs cells slots rl h1 h2 h3 h4 h5 h6
    obtain ⟨cell, k1, k2, k3, k4, k5, k6, k7⟩ := r5
    rw [List.map_cons, e2]
    exact W.alen (n := iI ((en_tb j).length : Nat)) hC.1.1 hC.1.2.1 k1 k2 (by rw [k5, iI_nat]; rfl) rfl rfl hd hh
  next => exact h.elim
def o_baldS (k : en_Kont) : en_Kont := fun ls st hi hl hr uc us => match st with
  | .int z :: .ref a :: r => ∃ j i : Nat, a = 2000000 + j ∧ j < en_strs.length ∧ z = iI i ∧ i < (en_tb j).length ∧ k ls (.int ((en_tb j).getD i 0) :: r) hi hl hr uc us
  | _ => False
theorem oe_baldS {z : Int32} {a : Nat} {r : List Value} : o_baldS k ls (.int z :: .ref a :: r) hi hl hr uc us = (∃ j i : Nat, a = 2000000 + j ∧ j < en_strs.length ∧ z = iI i ∧ i < (en_tb j).length ∧ k ls (.int ((en_tb j).getD i 0) :: r) hi hl hr uc us) := rfl
theorem en_tb_len {j : Nat} (hj : j < en_strs.length) : (en_tb j).length < 100 := by
  have h : ∀ q ∈ en_strs, q.2.2.2.length < 100 := by decide +kernel
  obtain ⟨c0, i0, t0, hs⟩ := en_tb_at hj
  have h9 := h _ (List.mem_of_getElem? hs)
  exact h9
theorem sn_baldS (hd : decode Y.2.1 pc = .ok (.baload, 1)) (hk : en_S G Y d w w' K k (pc + 1)) : en_S G Y d w w' K (o_baldS k) pc := by
  intro ls st hi hl hr uc us h
  unfold o_baldS at h
  split at h
  next z a r =>
    intro p e R s m args below meth c Q xc xs hC H locs cells slots rl h1 h2 h3 h4 h5 h6
    obtain ⟨j, i, rfl, hj, rfl, hi9, h⟩ := h
    have hl9 := en_tb_len hj
    obtain ⟨c0, i0, t0, hs⟩ := en_tb_at hj
    obtain ⟨sa, v, e1, e2, r1, r2, r3, r4, r5⟩ := en_str hs h2.2.2.2.2
    have hh := hk _ _ _ _ _ _ _ h p e R s m args below meth c Q xc xs hC H locs cells slots rl h1 h2 h3 h4 h5 h6
    obtain ⟨cell, k1, k2, k3, k4, k5, k6, k7⟩ := r5
    rw [List.map_cons, List.map_cons, e2, en_tr_int]
    have hin : ¬ (iI (i : Int) < 0 ∨ cell.slots.size ≤ (iI (i : Int)).toNatClampNeg) := by
      rw [iI_cl (by omega), iI_nat]
      intro q
      rcases q with q | q
      · exact nI_pos (by omega) q
      · omega
    exact W.bald (v := .int ((en_tb j).getD i 0)) hC.1.1 hC.1.2.1 k1 k2 k3 hin (by rw [iI_cl (by omega)]; exact k6 i hi9) rfl rfl hd hh
  next => exact h.elim
-- statics
def o_stC (k : en_Kont) : en_Kont := fun ls st hi hl hr uc us => k ls (.int (iI 1) :: st) hi hl hr uc us
theorem oe_stC : o_stC k ls st hi hl hr uc us = k ls (.int (iI 1) :: st) hi hl hr uc us := rfl
theorem sn_stC {idx : Nat} (hlk : Cond.fieldLink Y.1.cls idx "java/lang/String" "COMPACT_STRINGS" "Z" ∈ en_T) (hd : decode Y.2.1 pc = .ok (.getstatic idx, 3)) (hk : en_S G Y d w w' K k (pc + 3)) : en_S G Y d w w' K (o_stC k) pc := by
  intro ls st hi hl hr uc us h
  intro p e R s m args below meth c Q xc xs hC H locs cells slots rl h1 h2 h3 h4 h5 h6
  have hh := hk _ _ _ _ _ _ _ h p e R s m args below meth c Q xc xs hC H locs cells slots rl h1 h2 h3 h4 h5 h6
  exact va_gets hC.1.1 hC.1.2.1 (h2.2.2.2.2.2.2.2.1.kept (en_back h3 hC.2.1.2.2.2.2)) h3 hC.1.2.2.2.2.1 (hC.1.2.2.2.2.2.1 _ hlk) (fun _ h9 => h9) hd hh
def o_stF (k : en_Kont) : en_Kont := fun ls st hi hl hr uc us => k ls (.ref 3000000 :: st) hi hl hr uc us
theorem oe_stF : o_stF k ls st hi hl hr uc us = k ls (.ref 3000000 :: st) hi hl hr uc us := rfl
theorem sn_stF {idx : Nat} (hlk : Cond.fieldLink Y.1.cls idx "jdk/internal/util/Preconditions" "SIOOBE_FORMATTER" "Ljava/util/function/BiFunction;" ∈ en_T) (hd : decode Y.2.1 pc = .ok (.getstatic idx, 3)) (hk : en_S G Y d w w' K k (pc + 3)) : en_S G Y d w w' K (o_stF k) pc := by
  intro ls st hi hl hr uc us h
  intro p e R s m args below meth c Q xc xs hC H locs cells slots rl h1 h2 h3 h4 h5 h6
  have hh := hk _ _ _ _ _ _ _ h p e R s m args below meth c Q xc xs hC H locs cells slots rl h1 h2 h3 h4 h5 h6
  rw [List.map_cons] at hh
  exact va_gets hC.1.1 hC.1.2.1 (h2.2.2.2.2.2.2.2.2.1.kept (en_back h3 hC.2.1.2.2.2.2)) h3 hC.1.2.2.2.2.1 (hC.1.2.2.2.2.2.1 _ hlk) (fun _ h9 => h9) hd hh
-- the script
def o_scl (G : en_G) (k : en_Kont) : en_Kont := fun ls st hi hl hr uc us => match st with
  | .ref a :: r => a = 4000000 ∧ k ls (.int (iI (G.2.2.2.2.2.1 : Nat)) :: r) hi hl hr uc us
  | _ => False
theorem oe_scl {a : Nat} {r : List Value} : o_scl G k ls (.ref a :: r) hi hl hr uc us = (a = 4000000 ∧ k ls (.int (iI (G.2.2.2.2.2.1 : Nat)) :: r) hi hl hr uc us) := rfl
theorem sn_scl (hd : decode Y.2.1 pc = .ok (.arraylength, 1)) (hk : en_S G Y d w w' K k (pc + 1)) : en_S G Y d w w' K (o_scl G k) pc := by
  intro ls st hi hl hr uc us h
  unfold o_scl at h
  split at h
  next a r =>
    intro p e R s m args below meth c Q xc xs hC H locs cells slots rl h1 h2 h3 h4 h5 h6
    obtain ⟨rfl, h⟩ := h
    have hh := hk _ _ _ _ _ _ _ h p e R s m args below meth c Q xc xs hC H locs cells slots rl h1 h2 h3 h4 h5 h6
    obtain ⟨b0, g1, ⟨scr, k1, k2, k3, k4, k5⟩, g3, g4⟩ := h2.2.2.2.2.scr
    rw [List.map_cons, show en_tr G (.ref 4000000) = .ref b0 from g1]
    exact W.alen (n := iI (G.2.2.2.2.2.1 : Nat)) hC.1.1 hC.1.2.1 k1 k2 (by rw [k4, iI_nat]; rfl) rfl rfl hd hh
  next => exact h.elim
def o_scr (G : en_G) (k : en_Kont) : en_Kont := fun ls st hi hl hr uc us => match st with
  | .int z :: .ref a :: r => ∃ i : Nat, z = iI i ∧ a = 4000000 ∧ i < G.2.2.2.2.2.1 ∧ i < 2 ^ 31 ∧ k ls (.int (G.2.2.2.2.2.2 i) :: r) hi hl hr uc us
  | _ => False
theorem oe_scr {z : Int32} {a : Nat} {r : List Value} : o_scr G k ls (.int z :: .ref a :: r) hi hl hr uc us = (∃ i : Nat, z = iI i ∧ a = 4000000 ∧ i < G.2.2.2.2.2.1 ∧ i < 2 ^ 31 ∧ k ls (.int (G.2.2.2.2.2.2 i) :: r) hi hl hr uc us) := rfl
theorem sn_scr (hd : decode Y.2.1 pc = .ok (.iaload, 1)) (hk : en_S G Y d w w' K k (pc + 1)) : en_S G Y d w w' K (o_scr G k) pc := by
  intro ls st hi hl hr uc us h
  unfold o_scr at h
  split at h
  next z a r =>
    intro p e R s m args below meth c Q xc xs hC H locs cells slots rl h1 h2 h3 h4 h5 h6
    obtain ⟨i, rfl, rfl, hi9, hi8, h⟩ := h
    have hh := hk _ _ _ _ _ _ _ h p e R s m args below meth c Q xc xs hC H locs cells slots rl h1 h2 h3 h4 h5 h6
    obtain ⟨b0, g1, ⟨scr, k1, k2, k3, k4, k5⟩, g3, g4⟩ := h2.2.2.2.2.scr
    rw [List.map_cons, List.map_cons, show en_tr G (.ref 4000000) = .ref b0 from g1, en_tr_int]
    have hin : ¬ (iI (i : Int) < 0 ∨ scr.slots.size ≤ (iI (i : Int)).toNatClampNeg) := by
      rw [iI_cl hi8, k4, iI_nat]
      intro q
      rcases q with q | q
      · exact nI_pos hi8 q
      · omega
    exact W.iald (v := .int (G.2.2.2.2.2.2 i)) hC.1.1 hC.1.2.1 k1 k2 k3 hin (by rw [iI_cl hi8]; exact k5 i hi9) rfl rfl hd hh
  next => exact h.elim
def o_stuck : en_Kont := fun _ _ _ _ _ _ _ => False
theorem sn_stuck : en_S G Y d w w' K o_stuck pc := fun _ _ _ _ _ _ _ h => h.elim
-- catching
def x_cat (l : List (String × Nat × en_Kont)) : en_KX := fun E ls hi hl hr uc us => match l.find? (fun q => q.1 == E) with
  | some q => q.2.2 (en_set1 ls q.2.1 jk) [] hi hl hr uc us
  | none => False
theorem en_lr_storeX {n i : Nat} {ls : List Value} {rl rl' : Array Slot} {v : Value} {U : State} {H : Heap} (hZ : en_Z G U H) (h : en_lr G n ls rl) (h' : lv_has rl' n ((i, v) :: (en_lw G ls).filter (fun q => !(q.1 == i) && !(q.1 + 1 == i && q.2.category == 2)))) : en_lr G n (en_set1 ls i jk) rl' := by
  refine ⟨h'.1, by rw [en_set1_len]; exact h.2.1, h'.2.1, fun j x hj hx => ?_⟩
  rcases en_set1_at hj hx with ⟨rfl, rfl⟩ | ⟨h1, h2, h3⟩
  · exact absurd rfl (hx 0)
  · refine h'.2.2 (j, en_tr G x) (List.mem_cons_of_mem _ (List.mem_filter.mpr ⟨en_lw_mem.mpr ⟨x, h2, hx, rfl⟩, ?_⟩))
    have hcat := en_cat hZ x
    simp only [Bool.and_eq_true, Bool.not_eq_true', beq_eq_false_iff_ne, ne_eq, Bool.and_eq_false_iff]
    refine ⟨h1, ?_⟩
    by_cases e2 : j + 1 = i
    · right
      rw [hcat]
      exact fun z => h3 ⟨e2, z⟩
    · left; exact e2
/-- the handler at h begins with a store of what was thrown -/
def en_Han (G : en_G) (Y : en_Y) (d : Nat) (w w' : en_Wd) (K : en_K) (q : String × Nat × en_Kont) (h : Nat) : Prop := q.2.1 < Y.2.2.1 ∧ ((∃ f : Fin 4, (f : Nat) = q.2.1 ∧ decode Y.2.1 h = .ok (.astore_n f, 1) ∧ en_S G Y d w w' K q.2.2 (h + 1)) ∨ (decode Y.2.1 h = .ok (.astore q.2.1, 2) ∧ en_S G Y d w w' K q.2.2 (h + 2)))
theorem sn_cat {l : List (String × Nat × en_Kont)} (hl9 : ∀ (n : Nat) (q : String × Nat × en_Kont), l[n]? = some q → ∃ z : ExceptionTableEntry, (tableOf Y.2.2.2.2)[n]? = some z ∧ covers z pc = true ∧ z.catchType ≠ 0 ∧ Cond.classLink Y.1.cls z.catchType q.1 ∈ en_T ∧ Cond.castable q.1 q.1 ∈ en_X1 ∧ en_Han G Y d w w' K q z.handlerPc) (hnc : ∀ q ∈ l, ∀ r ∈ l, q.1 ≠ r.1 → (q.1, r.1) ∈ en_nc) : en_SX G Y d w w' K (x_cat l) pc := by
  intro E ls hi hl hr uc us h
  unfold x_cat at h
  split at h
  next q hq =>
    intro p e R s m args below meth c Q xc xs hC H locs cells slots rl rest q9 ce h1 h2 h3 h4 h5 h6 hce hcv hcl
    obtain ⟨hqE, pre, suf, hsp, hpre⟩ := List.find?_eq_some_iff_append.mp hq
    have hqE : q.1 = E := by simpa using hqE
    subst hqE
    obtain ⟨z, g1, g2, g3, g4, g5, g6, g7⟩ := hl9 pre.length q (by rw [hsp]; simp)
    have hz1 : (tableOf Y.2.2.2.2) = (tableOf Y.2.2.2.2).take pre.length ++ z :: (tableOf Y.2.2.2.2).drop (pre.length + 1) := by
      have hlt := (List.getElem?_eq_some_iff.mp g1).1
      have hz := (List.getElem?_eq_some_iff.mp g1).2
      rw [← hz]
      simp
    refine vx_catch (own := Y.1.cls) hC.1.2.2.2.2.1 _ z _ (by rw [hC.1.2.2.2.2.2.2.2.2.1]; exact hz1) (fun x hx => ?_) g2 g3 (hC.1.2.2.2.2.2.1 _ g4) (va_Nw.use rfl (h2.2.2.2.2.2.2.2.2.2.2.2.1 _ g5)) hce hcv hcl ?_
    · obtain ⟨n, hn⟩ := List.getElem?_of_mem hx
      have hn2 : n < pre.length := by
        have := (List.getElem?_eq_some_iff.mp hn).1
        rw [List.length_take] at this
        omega
      have hn3 : (tableOf Y.2.2.2.2)[n]? = some x := by
        rw [List.getElem?_take] at hn
        rw [if_pos hn2] at hn
        exact hn
      have hq2 : l[n]? = some (pre[n]) := by
        rw [hsp, List.getElem?_append_left hn2]
        exact List.getElem?_eq_getElem hn2
      obtain ⟨z2, k1, k2, k3, k4, -⟩ := hl9 n _ hq2
      have hz2 : z2 = x := Option.some.inj (k1.symm.trans hn3)
      subst hz2
      refine Or.inr ⟨k3, (pre[n]).1, hC.1.2.2.2.2.2.1 _ k4, ?_⟩
      have hne : q.1 ≠ (pre[n]).1 := by
        have := hpre _ (List.getElem_mem hn2)
        simp at this
        exact fun e9 => this e9.symm
      exact h2.2.2.2.2.2.2.2.2.2.2.1 _ (hnc q (by rw [hsp]; simp) _ (List.mem_of_getElem? hq2) hne)
    · rcases g7 with ⟨f, f1, f2, f3⟩ | ⟨f2, f3⟩
      · exact lv_astore_n hC.1.1 hC.1.2.1 f2 f1 (en_lr_has h1) g6 rfl (fun rl' h' => f3 _ _ _ _ _ _ _ h p e R s m args below meth c Q xc xs hC H locs cells slots rl' (en_lr_storeX h2.2.2.2.2 h1 h') h2 h3 h4 h5 h6)
      · exact lv_astore hC.1.1 hC.1.2.1 f2 (en_lr_has h1) g6 rfl (fun rl' h' => f3 _ _ _ _ _ _ _ h p e R s m args below meth c Q xc xs hC H locs cells slots rl' (en_lr_storeX h2.2.2.2.2 h1 h') h2 h3 h4 h5 h6)
  next => exact h.elim
-- a method with a table
def en_CalW (Yc : en_Y) (np : Nat) : Prop := Yc.2.2.2.2 ≠ [] ∧ Cond.initialized Yc.1.cls ∈ en_T ∧ Cond.codeWith Yc.1 Yc.2.1 Yc.2.2.1 Yc.2.2.2.1 Yc.2.2.2.2 ∈ en_T ∧ (Yc.1.cls ≠ "java/lang/invoke/MethodHandle" ∧ Yc.1.cls ≠ "java/lang/invoke/VarHandle" ∧ (parseMethodDescriptor Yc.1.desc).map (fun d => d.parameters.length) = some np) ∧ Yc.2.2.1 ≤ 45
theorem en_wsW {Yc : en_Y} {np : Nat} (hcal : en_CalW Yc np) : en_wsY Yc = Cond.codeWith Yc.1 Yc.2.1 Yc.2.2.1 Yc.2.2.2.1 Yc.2.2.2.2 :: en_T := by
  unfold en_wsY
  cases h : Yc.2.2.2.2 with
  | nil => exact absurd h hcal.1
  | cons a l => rfl
theorem sn_insW {xc0 xs0 np idx : Nat} {Yc : en_Y} (hcal : en_CalW Yc np) (hst : Cond.static Yc.1 ∈ en_T) (hlk : Cond.methodLink Y.1.cls idx Yc.1 ∈ en_T) (hw : w1.2 = true → w.2 = true ∧ w.1 + xc0 ≤ w1.1) (hd : decode Y.2.1 pc = .ok (.invokestatic idx, 3)) (hk : en_S G Y (d + 1) w1 w' K k (pc + 3)) (hx : en_SX G Y (d + 1) w1 w' K kx pc) : en_S G Y (d + 1) w w' K (o_ins G d xc0 xs0 Yc np w w1 k kx) pc := by
  intro ls st hi hl hr uc us h
  obtain ⟨hnp, hcat, hmc, hms, h⟩ := h
  intro p e R s m args below meth c Q xc xs hC H locs cells slots rl h1 h2 h3 h4 h5 h6
  have hlen : (st.take np).length = np := by rw [List.length_take]; omega
  refine en_fin (r := st.drop np) (mc := xc0) (ms := xs0) (a := (((st.take np).reverse).map (en_tr G)).toArray) hC h1 h2 h3 h4 h5 h6 hmc hms hw hk hx ?_
  intro T9 hT9 X9
  have hsz : w.2 = true → H.size ≤ G.2.1 + w.1 := fun e9 => by
    have := X9.heapSize
    rw [hT9] at this
    exact Nat.le_trans this (h6 e9)
  have hts : ∀ w0 ∈ en_T, w0.before args s = true := hC.1.2.2.2.2.2.1
  have hM : vx_Met G.1 Yc.1 (en_wsY Yc) (en_rm d xc0 xs0) (fun v U => v = (((st.take np).reverse).map (en_tr G)).toArray ∧ en_R G w hi hl hr U U.heap ∧ (w.2 = true → U.heap.size ≤ G.2.1 + w.1)) (en_Qc G w1 (en_kk k kx ls (st.drop np) (uc - xc0) (us - xs0))) (en_XC G w1 (en_kk k kx ls (st.drop np) (uc - xc0) (us - xs0))) xc0 xs0 (en_A G) := h hC.1.2.2.2.2.2.2.2.2.2
  have g3 : (en_rm d xc0 xs0).frames + 1 ≤ R.frames := by
    have := hC.2.1.1
    show d + 8 + 1 ≤ R.frames
    omega
  have g4 : 8 + (Yc.2.2.1 + 11) + (en_rm d xc0 xs0).locals ≤ R.locals := by
    have := hcal.2.2.2.2
    have := hC.2.1.2.1
    show 8 + (Yc.2.2.1 + 11) + (64 * d + 200) ≤ R.locals
    omega
  have hG : GoodIn en_T (va_wsS Y.1.cls idx Yc.1 (en_wsY Yc)) := by
    intro w0 hw0
    refine en_good ?_
    unfold va_wsS at hw0
    rcases List.mem_append.mp hw0 with q | q
    · simp only [List.mem_cons, List.not_mem_nil, or_false] at q
      rcases q with rfl | rfl | rfl
      · exact hlk
      · exact hst
      · exact hcal.2.1
    · rw [en_wsW hcal] at q
      rcases List.mem_cons.mp q with rfl | q
      · exact hcal.2.2.1
      · exact q
  have hcw : vx_CSW R s args Y.1.cls idx Yc.1 Yc.2.1 Yc.2.2.1 Yc.2.2.2.1 Yc.2.2.2.2 (en_wsY Yc) (en_rm d xc0 xs0) xc0 xs0 np := vx_cwSW np hts hG (en_wsW hcal) rfl rfl hcal.2.2.2.1 ⟨g3, g4⟩
  have hpre : PreS s H (fun v U => v = (((st.take np).reverse).map (en_tr G)).toArray ∧ en_R G w hi hl hr U U.heap ∧ (w.2 = true → U.heap.size ≤ G.2.1 + w.1)) (((st.take np).reverse).map (en_tr G)) := by
    refine ⟨en_blind, fun U hU hW => ?_⟩
    refine ⟨rfl, ?_, ?_⟩
    · rw [hU]; exact h2.warm hW
    · rw [hU]; exact hsz
  have hstk : (F0 m pc rl (st.map (en_tr G))).stack = (((st.take np).reverse).map (en_tr G)).reverse ++ (st.drop np).map (en_tr G) := by
    show st.map (en_tr G) = _
    rw [← List.map_reverse, List.reverse_reverse, ← List.map_append, List.take_append_drop]
  have hroom : cells + xc0 ≤ R.cells ∧ slots + xs0 ≤ R.slots := by
    have g1 := hC.2.1.2.2.1
    have g2 := hC.2.1.2.2.2.1
    omega
  have hlen2 : (((st.take np).reverse).map (en_tr G)).length = np := by rw [List.length_map, List.length_reverse, hlen]
  have hfix : CallFix p m c Y.2.1 Y.2.2.1 s args en_T Y.1.cls := ⟨hC.1.1, hC.1.2.1, hC.1.2.2.1, hC.1.2.2.2.2.1, hts⟩
  have hrun := vx_runSX (e := e) (below := below) (meth := meth) (H := H) (locs := locs) (cells := cells) (slots := slots) (g := F0 m pc rl (st.map (en_tr G))) hfix hM hcw hpre rfl hlen2 h1.1 hstk (en_catsum h2.2.2.2.2 hcat) hd hroom
  exact hrun T9 hT9 X9
theorem en_ofW {xc xs : Nat} {as : List Value} (hy : plainName Y.1.cls = true) {np : Nat} (hh : en_CalW Y np) (hlen : (en_ent as).length ≤ Y.2.2.1)
    (h : en_V G Y d w w' K 0 (en_pad Y.2.2.1 (en_ent as)) [] hi hl hr xc xs) : en_Call G d xc xs Y w w' as hi hl hr K := by
  intro hst
  refine vx_ofWH (cc := Y.2.1) (maxL := Y.2.2.1) (ret := Y.2.2.2.1) (hh := Y.2.2.2.2) (ws' := en_T) hy (en_wsW hh) ?_
  intro p e s m args below meth c s₁ B hml hv
  obtain ⟨rfl, hR, hsz⟩ := hv
  have hts := atoms_spec (ws := en_wsY Y) B.pre
  have htab : c.exceptionTable.toList = tableOf Y.2.2.2.2 := vx_table (x := Y.1) B (hts (Cond.codeWith Y.1 Y.2.1 Y.2.2.1 Y.2.2.2.1 Y.2.2.2.2) (by rw [en_wsW hh]; exact List.mem_cons_self))
  have hp := h p e (en_rm d xc xs) s m (as.map (en_tr G)).toArray below meth c _ xc xs ⟨⟨B.exec, B.bytes, hml, B.returns, findClass_of_methodNamed B.named, fun w0 hw => hts w0 (by unfold en_wsY; exact List.mem_cons_of_mem _ hw), (name_of_methodNamed B.named B.method).1, B.notSynchronized, htab, hst⟩, ⟨Nat.le_refl _, Nat.le_refl _, Nat.le_refl _, Nat.le_refl _, Nat.le_trans (Nat.le_add_right _ _) hR.2.2.1⟩, Or.inl rfl⟩ s.heap [] 0 0 _ (en_lr_ent hR.2.2.2.2 hlen) hR va_S.rf (by omega) (by omega) (fun e9 => by have := hsz e9; omega)
  rw [lg_entry_eq]
  exact hp
-- making
theorem en_ws_succ {n : Nat} {fi : Nat → Int32} {fl : Nat → Int64} {fr : Nat → Value} : en_ws G (n + 1) (en_row hi n fi) (en_row hl n fl) (en_row hr n fr) = en_ws G n hi hl hr ++ [(G.2.1 + n, en_enc G (en_SH n) fi fl fr)] := by
  unfold en_ws
  rw [List.range_succ, List.map_append]
  congr 1
  · apply List.map_congr_left
    intro k0 hk0
    have hlt := List.mem_range.mp hk0
    have hne : k0 ≠ n := by omega
    simp [en_row, hne]
  · simp [en_row]
theorem en_born {n : Nat} {H H1 : Heap} {fi : Nat → Int32} {fl : Nat → Int64} {fr : Nat → Value} (hP : va_P G.2.2.1 vwCl (en_ws G n hi hl hr) H) (hq : ∀ q, q < G.2.1 + n → H1[q]? = H[q]?) (hc : va_at G.2.2.1 vwCl (G.2.1 + n, en_enc G (en_SH n) fi fl fr) H1) : va_P G.2.2.1 vwCl (en_ws G (n + 1) (en_row hi n fi) (en_row hl n fl) (en_row hr n fr)) H1 := by
  rw [en_ws_succ]
  refine va_P.app (hP.kept (fun k0 q0 hk0 => hq _ ?_)) (fun k0 q0 hk0 => ?_)
  · have hlt : k0 < n := by
      have := (List.getElem?_eq_some_iff.mp hk0).1
      simpa [en_ws] using this
    rw [en_ws_at hlt] at hk0
    cases hk0
    show G.2.1 + k0 < _
    omega
  · have hz : k0 < 1 := (List.getElem?_eq_some_iff.mp hk0).1
    rw [show k0 = 0 by omega] at hk0
    cases hk0
    exact hc
theorem en_new {s : State} {H H1 : Heap} {locs : List Loc} {n : Nat} {b : Bool} {fi : Nat → Int32} {fl : Nat → Int64} {fr : Nat → Value} (h2 : en_R G (n, b) hi hl hr s H) (h3 : va_S (en_A G) s.heap H locs) (hsz : H.size = G.2.1 + n) (z1 : H1.size = H.size + 1) (o1 : ∀ q, q < H.size → H1[q]? = H[q]?) (hn : n + 1 < 1000000) (hc : va_at G.2.2.1 vwCl (G.2.1 + n, en_enc G (en_SH n) fi fl fr) H1) : en_R G (n + 1, b) (en_row hi n fi) (en_row hl n fl) (en_row hr n fr) s H1 ∧ va_S (en_A G) s.heap H1 locs :=
  ⟨h2.step (en_born h2.1 (fun q hq => o1 q (by rw [hsz]; exact hq)) hc) (fun a ha _ => o1 a ha) (by show G.2.1 + (n + 1) ≤ _; omega) hn, ⟨Nat.le_trans h3.1 (by omega), fun q g1 g2 => (o1 q (Nat.lt_of_lt_of_le g1 h3.1)).trans (h3.2.1 q g1 g2), h3.2.2⟩⟩
/-- the heap ends where the world ends -/
theorem en_exact {n : Nat} {R : Room} {p : Program} {e : Env} {s : State} {m : MethodId} {args : Array Value} {below : List Frame} {meth : Method} {c : Code} {T : State} {H : Heap} {locs : List Loc} {cells slots : Nat} (X : Stand p G.1 e R s m args below meth c T locs cells slots) (hT : T.heap = H) (h2 : en_R G (n, true) hi hl hr s H) (h6 : (n, true).2 = true → s.heap.size + cells ≤ G.2.1 + (n, true).1) : H.size = G.2.1 + n := by
  have h7 := h6 rfl
  have h8 := X.heapSize
  rw [hT] at h8
  have h9 := h2.2.2.1
  have h7 : s.heap.size + cells ≤ G.2.1 + n := h7
  have h9 : G.2.1 + n ≤ H.size := h9
  omega
def o_new (n ci N : Nat) (k : en_Kont) : en_Kont := fun ls st hi hl hr uc us => (1 ≤ uc ∧ N ≤ us) ∧ k ls (.ref n :: st) (en_row hi n (fun _ => 0)) (en_row hl n (fun _ => 0)) (en_row hr n (fun _ => .null)) (uc - 1) (us - N)
theorem oe_new {n ci N : Nat} : o_new n ci N k ls st hi hl hr uc us = ((1 ≤ uc ∧ N ≤ us) ∧ k ls (.ref n :: st) (en_row hi n (fun _ => 0)) (en_row hl n (fun _ => 0)) (en_row hr n (fun _ => .null)) (uc - 1) (us - N)) := rfl
theorem en_dv {t : FieldType} (h : en_fk t < 3) : defaultValue t = en_fv G t 0 0 .null := by
  cases t <;> first | rfl | (exact absurd h (by decide))
theorem sn_new {n ci N idx : Nat} {C : String} {T : u_T} (hcl : en_Cl ci C T N) (hft : ∀ j, j < N → en_fk (en_tyOf ci j) < 3) (hs : en_SH n = (ci, N)) (hn : n + 1 < 1000000) (hlk : Cond.classLink Y.1.cls idx C ∈ en_T) (hins : Cond.instantiable C N ∈ en_T) (hini : Cond.initialized C ∈ en_T) (hd : decode Y.2.1 pc = .ok (.new idx, 3)) (hk : en_S G Y d (n + 1, true) w' K k (pc + 3)) : en_S G Y d (n, true) w' K (o_new n ci N k) pc := by
  intro ls st hi hl hr uc us h
  intro p e R s m args below meth c Q xc xs hC H locs cells slots rl h1 h2 h3 h4 h5 h6
  obtain ⟨⟨g1, g2⟩, h⟩ := h
  intro T9 hT9 X9
  have hsz := en_exact X9 hT9 h2 h6
  have hKn := h2.2.1.1 ci _ hcl.2.1
  have hts : ∀ w0 ∈ en_T, w0.before args s = true := hC.1.2.2.2.2.2.1
  have r1 := hC.2.1.2.2.1
  have r2 := hC.2.1.2.2.2.1
  refine W.newcK (g := F0 m pc rl (st.map (en_tr G))) (h := H.size) hC.1.1 hC.1.2.1 hC.1.2.2.2.2.1 (hts _ hlk) (hts _ hins) (hts _ hini) rfl hd (by omega) (by omega) hKn.2.1 rfl (fun H1 kC hkC e1 z1 o1 => ?_) T9 hT9 X9
  have hob := (u_born (en_tyOf ci) hts hcl.2.2.1 hKn hkC e1 hcl.2.2.2.1).to (V' := vp_V ((List.range N).map (fun k0 => en_fv G (en_tyOf ci k0) 0 0 .null))) (fun j hj => by simp [vp_V, hj, en_dv (G := G) (hft j hj)])
  obtain ⟨hR1, hS1⟩ := en_new (fi := fun _ => 0) (fl := fun _ => 0) (fr := fun _ => .null) h2 h3 hsz z1 o1 hn (by
    unfold en_enc
    rw [hs, if_pos (by show ci < 100; have := hcl.1; omega)]
    rw [hsz] at hob
    exact ⟨_, hcl.2.1, hob⟩)
  have hh := hk _ _ _ _ _ _ _ h p e R s m args below meth c Q xc xs hC H1 locs (cells + 1) (slots + N) rl h1 hR1 hS1 (by omega) (by omega) (fun e9 => by have := h6 rfl; show s.heap.size + (cells + 1) ≤ G.2.1 + (n + 1); have h7 : s.heap.size + cells ≤ G.2.1 + n := this; omega)
  rw [List.map_cons, en_tr_ref G (by omega)] at hh
  rw [hsz]
  exact hh
def o_newa (n kd : Nat) (k : en_Kont) : en_Kont := fun ls st hi hl hr uc us => match st with
  | .int z :: r => ∃ N : Nat, z = iI N ∧ en_SH n = (kd, N) ∧ (1 ≤ uc ∧ N ≤ us) ∧ k ls (.ref n :: r) (en_row hi n (fun _ => 0)) (en_row hl n (fun _ => 0)) (en_row hr n (fun _ => .null)) (uc - 1) (us - N)
  | _ => False
theorem oe_newa {n kd : Nat} {z : Int32} {r : List Value} : o_newa n kd k ls (.int z :: r) hi hl hr uc us = (∃ N : Nat, z = iI N ∧ en_SH n = (kd, N) ∧ (1 ≤ uc ∧ N ≤ us) ∧ k ls (.ref n :: r) (en_row hi n (fun _ => 0)) (en_row hl n (fun _ => 0)) (en_row hr n (fun _ => .null)) (uc - 1) (us - N)) := rfl
theorem en_pos {i : Nat} (h : i < 2 ^ 31) : ¬ iI (i : Int) < 0 := by rw [iI_nat]; exact nI_pos h
theorem sn_newa {n : Nat} (t kd : Nat) (aty : ArrayType) (ha : (t = 0 ∧ kd = 100 ∧ aty = .int) ∨ (t = 1 ∧ kd = 101 ∧ aty = .byte) ∨ (t = 2 ∧ kd = 102 ∧ aty = .long)) (hn : n + 1 < 1000000) (hac : Cond.arrayClass (newarray.typeOf aty) ∈ en_T) (hd : decode Y.2.1 pc = .ok (.newarray aty, 2)) (hk : en_S G Y d (n + 1, true) w' K k (pc + 2)) : en_S G Y d (n, true) w' K (o_newa n kd k) pc := by
  intro ls st hi hl hr uc us h
  unfold o_newa at h
  split at h
  next z r =>
    intro p e R s m args below meth c Q xc xs hC H locs cells slots rl h1 h2 h3 h4 h5 h6
    obtain ⟨N, rfl, hs, ⟨g1, g2⟩, h⟩ := h
    intro T9 hT9 X9
    have hsz := en_exact X9 hT9 h2 h6
    have hsm := en_SH_small n
    rw [hs] at hsm
    have hsm : N < 3000 := hsm
    have hts : ∀ w0 ∈ en_T, w0.before args s = true := hC.1.2.2.2.2.2.1
    have r1 := hC.2.1.2.2.1
    have r2 := hC.2.1.2.2.2.1
    refine va_newaK (N := N) (h := H.size) (g := F0 m pc rl ((Value.int (iI N) :: r).map (en_tr G))) hC.1.1 hC.1.2.1 (hts _ hac) rfl hd (rest := r.map (en_tr G)) rfl (en_pos (by omega)) (iI_cl (by omega)) ?_ (by omega) (by omega) rfl (fun H1 cA e1 z1 o1 hAr hNm => ?_) T9 hT9 X9
    · rcases ha with ⟨-, -, rfl⟩ | ⟨-, -, rfl⟩ | ⟨-, -, rfl⟩
      · show N * 4 ≤ _; omega
      · show N * 1 ≤ _; omega
      · show N * 8 ≤ _; omega
    · obtain ⟨hR1, hS1⟩ := en_new (fi := fun _ => 0) (fl := fun _ => 0) (fr := fun _ => .null) h2 h3 hsz z1 o1 hn (by
        rw [hsz] at e1
        rcases ha with ⟨-, rfl, rfl⟩ | ⟨-, rfl, rfl⟩ | ⟨-, rfl, rfl⟩
        · have hca : cA = G.2.2.2.1 0 := Option.some.inj (hNm.symm.trans (h2.2.1.2 0 _ rfl).2)
          subst hca
          unfold en_enc; rw [hs]; exact e1
        · have hca : cA = G.2.2.2.1 1 := Option.some.inj (hNm.symm.trans (h2.2.1.2 1 _ rfl).2)
          subst hca
          unfold en_enc; rw [hs]; exact e1
        · have hca : cA = G.2.2.2.1 2 := Option.some.inj (hNm.symm.trans (h2.2.1.2 2 _ rfl).2)
          subst hca
          unfold en_enc; rw [hs]; exact e1)
      have hh := hk _ _ _ _ _ _ _ h p e R s m args below meth c Q xc xs hC H1 locs (cells + 1) (slots + N) rl h1 hR1 hS1 (by omega) (by omega) (fun e9 => by have := h6 rfl; show s.heap.size + (cells + 1) ≤ G.2.1 + (n + 1); have h7 : s.heap.size + cells ≤ G.2.1 + n := this; omega)
      rw [List.map_cons, en_tr_ref G (by omega)] at hh
      rw [hsz]
      exact hh
  next => exact h.elim
theorem sn_newq {n idx : Nat} {C : String} (t : Nat) (ht : (en_tys G)[en_t0 t]? = some (G.2.2.2.1 (3 + t), .object C)) (hC9 : C ∈ [RX1, RX9, RX6]) (hn : n + 1 < 1000000) (hlk : Cond.classLink Y.1.cls idx C ∈ en_T) (hd : decode Y.2.1 pc = .ok (.anewarray idx, 3)) (hk : en_S G Y d (n + 1, true) w' K k (pc + 3)) : en_S G Y d (n, true) w' K (o_newa n (103 + t) k) pc := by
  intro ls st hi hl hr uc us h
  unfold o_newa at h
  split at h
  next z r =>
    intro p e R s m args below meth c Q xc xs hC H locs cells slots rl h1 h2 h3 h4 h5 h6
    obtain ⟨N, rfl, hs, ⟨g1, g2⟩, h⟩ := h
    intro T9 hT9 X9
    have hsz := en_exact X9 hT9 h2 h6
    have hsm := en_SH_small n
    rw [hs] at hsm
    have hsm : N < 3000 := hsm
    have hcl9 : (iI (N : Int)).toNatClampNeg = N := iI_cl (by omega)
    have hts : ∀ w0 ∈ en_T, w0.before args s = true := hC.1.2.2.2.2.2.1
    have r1 := hC.2.1.2.2.1
    have r2 := hC.2.1.2.2.2.1
    refine W.anew (g := F0 m pc rl ((Value.int (iI N) :: r).map (en_tr G))) hC.1.1 hC.1.2.1 hC.1.2.2.2.2.1 (hts _ hlk) (va_AO.use (h2.2.2.2.2.ao C hC9)) rfl hd (rest := r.map (en_tr G)) rfl (en_pos (by omega)) (by rw [hcl9]; omega) (by omega) (by rw [hcl9]; omega) (fun cA kA comp f1 f2 f3 f4 => ?_) T9 hT9 X9
    rw [hcl9]
    generalize hH1 : H.push ({ cls := cA, slots := Array.replicate N .null, vm := .none } : Cell) = H1
    have z1 : H1.size = H.size + 1 := by rw [← hH1, Array.size_push]
    have e1 : H1[H.size]? = some (arrV cA N (fun _ => .null)) := by rw [← hH1, Array.getElem?_push_size, ← arrV_new]
    have o1 : ∀ q : Nat, q < H.size → H1[q]? = H[q]? := fun q hq => by rw [← hH1, Array.getElem?_push, if_neg (Nat.ne_of_lt hq)]
    obtain ⟨hR1, hS1⟩ := en_new (fi := fun _ => 0) (fl := fun _ => 0) (fr := fun _ => .null) h2 h3 hsz z1 o1 hn (by
      rw [hsz] at e1
      obtain ⟨kA2, comp2, q1, q2, q3, q4⟩ := (h2.2.1.2 (en_t0 t) _ ht).2
      have hca : cA = G.2.2.2.1 (3 + t) := Option.some.inj (f1.symm.trans q4)
      subst hca
      unfold en_enc
      rw [hs, if_neg (by show ¬ 103 + t < 100; omega), if_neg (by show ¬ 103 + t = 100; omega), if_neg (by show ¬ 103 + t = 101; omega), if_neg (by show ¬ 103 + t = 102; omega)]
      show H1[G.2.1 + n]? = some (vp_cell (G.2.2.2.1 (103 + t - 100)) _)
      rw [show 103 + t - 100 = 3 + t by omega]
      exact e1)
    have hh := hk _ _ _ _ _ _ _ h p e R s m args below meth c Q xc xs hC H1 locs (cells + 1) (slots + N) rl h1 hR1 hS1 (by omega) (by omega) (fun e9 => by have := h6 rfl; show s.heap.size + (cells + 1) ≤ G.2.1 + (n + 1); have h7 : s.heap.size + cells ≤ G.2.1 + n := this; omega)
    rw [List.map_cons, en_tr_ref G (by omega)] at hh
    rw [hsz]
    exact hh
  next => exact h.elim
def o_aastore (w : en_Wd) (t ci : Nat) (k : en_Kont) : en_Kont := fun ls st hi hl hr uc us => match st with
  | .ref v :: .int j :: .ref a :: r => ∃ i : Nat, j = iI i ∧ i < (en_SH a).2 ∧ ((en_SH a).1 = 103 + t ∧ a < w.1) ∧ ((en_SH v).1 = ci ∧ v < w.1) ∧ k ls r hi hl (en_up hr a i (.ref v)) uc us
  | _ => False
theorem oe_aastore {t ci v a : Nat} {j : Int32} {r : List Value} : o_aastore w t ci k ls (.ref v :: .int j :: .ref a :: r) hi hl hr uc us = (∃ i : Nat, j = iI i ∧ i < (en_SH a).2 ∧ ((en_SH a).1 = 103 + t ∧ a < w.1) ∧ ((en_SH v).1 = ci ∧ v < w.1) ∧ k ls r hi hl (en_up hr a i (.ref v)) uc us) := rfl
theorem sn_aastore {t ci : Nat} {C : String} {T : u_T} {N : Nat} (hcl : en_Cl ci C T N) (ht : (en_tys G)[en_t0 t]? = some (G.2.2.2.1 (3 + t), .object C)) (hd : decode Y.2.1 pc = .ok (.aastore, 1)) (hk : en_S G Y d w w' K k (pc + 1)) : en_S G Y d w w' K (o_aastore w t ci k) pc := by
  intro ls st hi hl hr uc us h
  unfold o_aastore at h
  split at h
  next v j a r =>
    intro p e R s m args below meth c Q xc xs hC H locs cells slots rl h1 h2 h3 h4 h5 h6
    obtain ⟨i, rfl, hin, ⟨hs, ha⟩, ⟨hsv, hv⟩, h⟩ := h
    have hsm := en_SH_small a
    rw [List.map_cons, List.map_cons, List.map_cons, en_ref h2 ha, en_ref h2 hv, en_tr_int]
    refine va_astq hC.1.1 hC.1.2.1 h2.2.1 h2.1 en_ws_D h3 a (en_t0 t) v ci (en_at_q ha hs) ht (en_at_o hv (show en_SH v = (ci, (en_SH v).2) by rw [← hsv]) hcl.1) hcl.2.1 (iI_in hin (by omega)) hd (fun H1 locs1 hP1 _ hS1 => ?_)
    rw [iI_cl (by omega), en_ws_set (fi := hi a) (fl := hl a) (fr := fun j => if j = i then .ref v else hr a j) ha (by
      unfold en_enc
      rw [hs, if_neg (by omega), if_neg (by omega), if_neg (by omega), if_neg (by omega), show 103 + t - 100 = 3 + t by omega]
      have e9 : va_up (fun i => en_rf G (hr a i)) i (some (G.2.1 + v)) = fun j => en_rf G (if j = i then .ref v else hr a j) := by
        funext j
        unfold va_up
        by_cases q : j = i
        · simp [q, en_rf]
        · simp [q]
      rw [e9])] at hP1
    rw [en_row_self, en_row_self, ← en_up_row] at hP1
    exact hk _ _ _ _ _ _ _ h p e R s m args below meth c Q xc xs hC H1 locs1 cells slots rl h1 (en_wr h2 h3 hS1 hC.2.1.2.2.2.2 hP1) hS1 h4 h5 h6
  next => exact h.elim
def o_obj (k : en_Kont) : en_Kont := fun ls st hi hl hr uc us => match st with
  | .ref a :: r => ((r.map fun v => v.category).sum ≤ 8 ∧ a < 1000000) ∧ k ls r hi hl hr uc us
  | _ => False
theorem oe_obj {a : Nat} {r : List Value} : o_obj k ls (.ref a :: r) hi hl hr uc us = (((r.map fun v => v.category).sum ≤ 8 ∧ a < 1000000) ∧ k ls r hi hl hr uc us) := rfl
theorem sn_obj {idx : Nat} (hlk : Cond.methodLink Y.1.cls idx Lib.objectInit ∈ en_T) (hin : Cond.instanceMethod Lib.objectInit ∈ en_T) (hco : Cond.code Lib.objectInit ⟨#[0xb1]⟩ 1 none ∈ en_T) (hd : decode Y.2.1 pc = .ok (.invokespecial idx, 3)) (hk : en_S G Y d w w' K k (pc + 3)) : en_S G Y d w w' K (o_obj k) pc := by
  intro ls st hi hl hr uc us h
  unfold o_obj at h
  split at h
  next a r =>
    intro p e R s m args below meth c Q xc xs hC H locs cells slots rl h1 h2 h3 h4 h5 h6
    obtain ⟨⟨hcat, ha⟩, h⟩ := h
    have hts : ∀ w0 ∈ en_T, w0.before args s = true := hC.1.2.2.2.2.2.1
    have hh := hk _ _ _ _ _ _ _ h p e R s m args below meth c Q xc xs hC H locs cells slots rl h1 h2 h3 h4 h5 h6
    rw [List.map_cons, en_tr_ref G ha]
    refine W.objInit hC.1.1 hC.1.2.1 hC.1.2.2.2.2.1 (hts _ hlk) (hts _ hin) (hts _ hco) rfl (by rw [hC.1.2.2.1]; exact h1.1) (rest := r.map (en_tr G)) rfl hd ?_ ?_ hh
    · have := hC.2.1.1; omega
    · have g1 := hC.2.1.2.1
      have g2 := en_catsum (pc := pc) (m := m) (rl := rl) (st0 := []) h2.2.2.2.2 hcat
      have g3 : (2 * (F0 m pc rl ([] : List Value)).monitorRoom) = 0 := rfl
      show 2 * 0 + _ + 12 ≤ R.locals
      omega
  next => exact h.elim
/-- a constructor's call -/
def o_ini (G : en_G) (d xc xs : Nat) (Yc : en_Y) (np : Nat) (w w1 : en_Wd) (k : en_Kont) : en_Kont := fun ls st hi hl hr uc us => match st.drop np with
  | .ref a :: r => a < 1000000 ∧ (r.map fun v => v.category).sum ≤ 8 ∧ xc ≤ uc ∧ xs ≤ us ∧ en_Call G d xc xs Yc w w1 (.ref a :: (st.take np).reverse) hi hl hr (en_kk k x_no ls r (uc - xc) (us - xs))
  | _ => False
theorem sn_ini {xc0 xs0 np idx : Nat} {Yc : en_Y} (hcal : en_Cal Yc np) (hret : Yc.2.2.2.1 = none) (hnm : Yc.1.name = "<init>") (hin : Cond.instanceMethod Yc.1 ∈ en_T) (hlk : Cond.methodLink Y.1.cls idx Yc.1 ∈ en_T ∨ ∃ host, (Y.1.cls, idx, Yc.1, host) ∈ en_X2) (hw : w1.2 = true → w.2 = true ∧ w.1 + xc0 ≤ w1.1) (hd : decode Y.2.1 pc = .ok (.invokespecial idx, 3)) (hk : en_S G Y (d + 1) w1 w' K k (pc + 3)) : en_S G Y (d + 1) w w' K (o_ini G d xc0 xs0 Yc np w w1 k) pc := by
  intro ls st hi hl hr uc us h
  unfold o_ini at h
  split at h
  next a r hst =>
    intro p e R s m args below meth c Q xc xs hC H locs cells slots rl h1 h2 h3 h4 h5 h6
    obtain ⟨ha, hcat, hmc, hms, h⟩ := h
    have hlen : (st.take np).length = np := by
      have h9 : (st.drop np).length = st.length - np := List.length_drop
      rw [hst] at h9
      rw [List.length_take]
      simp only [List.length_cons] at h9
      omega
    have hst2 : st = st.take np ++ .ref a :: r := by rw [← hst, List.take_append_drop]
    refine en_fin (kx := x_no) (r := r) (mc := xc0) (ms := xs0) (a := ((Value.ref a :: (st.take np).reverse).map (en_tr G)).toArray) hC h1 h2 h3 h4 h5 h6 hmc hms hw hk sn_no ?_
    intro T9 hT9 X9
    have hsz : w.2 = true → H.size ≤ G.2.1 + w.1 := fun e9 => by
      have := X9.heapSize
      rw [hT9] at this
      exact Nat.le_trans this (h6 e9)
    have hts : ∀ w0 ∈ en_T, w0.before args s = true := hC.1.2.2.2.2.2.1
    have hMx : vx_Met G.1 Yc.1 (en_wsY Yc) (en_rm d xc0 xs0) (fun v U => v = ((Value.ref a :: (st.take np).reverse).map (en_tr G)).toArray ∧ en_R G w hi hl hr U U.heap ∧ (w.2 = true → U.heap.size ≤ G.2.1 + w.1)) (en_Qc G w1 (en_kk k x_no ls r (uc - xc0) (us - xs0))) (en_XC G w1 (en_kk k x_no ls r (uc - xc0) (us - xs0))) xc0 xs0 (en_A G) := h hC.1.2.2.2.2.2.2.2.2.2
    have hM : Met G.1 Yc.1 (en_wsY Yc) (en_rm d xc0 xs0) (fun v U => v = ((Value.ref a :: (st.take np).reverse).map (en_tr G)).toArray ∧ en_R G w hi hl hr U U.heap ∧ (w.2 = true → U.heap.size ≤ G.2.1 + w.1)) (en_Qc G w1 (en_kk k x_no ls r (uc - xc0) (us - xs0))) xc0 xs0 (en_A G) := by
      intro p9 e9 q1 q2 q3 s9 m9 a9 b9 q4 q5 q6 q7
      obtain ⟨n9, o9, k1, k2, k3, k4⟩ := hMx p9 e9 q1 q2 q3 s9 m9 a9 b9 q4 q5 q6 q7
      refine ⟨n9, o9, k1, k2, k3, ?_⟩
      rcases k4 with k4 | ⟨q, -, E, ce, L, ⟨hi9, hl9, hr9, hK9, -⟩, -⟩
      · exact k4
      · exact hK9.elim
    have hmap : (Value.ref a :: (st.take np).reverse).map (en_tr G) = Value.ref (G.2.1 + a) :: ((st.take np).reverse).map (en_tr G) := by rw [List.map_cons, en_tr_ref G ha]
    have hpre : PreS s H (fun v U => v = ((Value.ref a :: (st.take np).reverse).map (en_tr G)).toArray ∧ en_R G w hi hl hr U U.heap ∧ (w.2 = true → U.heap.size ≤ G.2.1 + w.1)) (Value.ref (G.2.1 + a) :: ((st.take np).reverse).map (en_tr G)) := by
      refine ⟨en_blind, fun U hU hW => ⟨by rw [hmap], ?_, ?_⟩⟩
      · rw [hU]; exact h2.warm hW
      · rw [hU]; exact hsz
    have hstk : (F0 m pc rl (st.map (en_tr G))).stack = (((st.take np).reverse).map (en_tr G)).reverse ++ Value.ref (G.2.1 + a) :: r.map (en_tr G) := by
      show st.map (en_tr G) = _
      rw [← List.map_reverse, List.reverse_reverse]
      have e9 : st.map (en_tr G) = (st.take np ++ Value.ref a :: r).map (en_tr G) := by rw [← hst2]
      rw [e9, List.map_append, List.map_cons, en_tr_ref G ha]
    have hroom : cells + xc0 ≤ R.cells ∧ slots + xs0 ≤ R.slots := by
      have g1 := hC.2.1.2.2.1
      have g2 := hC.2.1.2.2.2.1
      omega
    have hlen2 : (((st.take np).reverse).map (en_tr G)).length = np := by rw [List.length_map, List.length_reverse, hlen]
    have hfix : CallFix p m c Y.2.1 Y.2.2.1 s args en_T Y.1.cls := ⟨hC.1.1, hC.1.2.1, hC.1.2.2.1, hC.1.2.2.2.2.1, hts⟩
    have g3 : (en_rm d xc0 xs0).frames + 1 ≤ R.frames := by
      have := hC.2.1.1
      show d + 8 + 1 ≤ R.frames
      omega
    have g4 : 8 + (Yc.2.2.1 + 11) + (en_rm d xc0 xs0).locals ≤ R.locals := by
      have := hcal.2.2.2.2
      have := hC.2.1.2.1
      show 8 + (Yc.2.2.1 + 11) + (64 * d + 200) ≤ R.locals
      omega
    have hwe := en_wsY_eq hcal
    rw [hret] at hwe
    have hva : va_Run p G.1 e R s m args below meth c H locs cells slots xc0 xs0 (F0 m pc rl (st.map (en_tr G))) (r.map (en_tr G)) (en_Qc G w1 (en_kk k x_no ls r (uc - xc0) (us - xs0)) ((Value.ref a :: (st.take np).reverse).map (en_tr G)).toArray) (en_A G) := by
      rw [hmap]
      rcases hlk with hlk | ⟨host, hlk⟩
      · exact va_runI hfix hM ⟨callB_of np hts (en_gin hcal) hwe rfl rfl (hts _ hcal.2.1) (hts _ hlk) hcal.2.2.2.1 ⟨g3, g4⟩, hnm, hts _ hin⟩ hpre rfl hlen2 h1.1 hstk (en_catsum h2.2.2.2.2 hcat) hd hroom
      · have hnw : va_Nw (.methodLinkNest Y.1.cls idx Yc.1 host) s := h2.2.2.2.2.2.2.2.2.2.2.2.2.1 _ hlk
        exact va_runIN hfix hM ⟨va_cnB np hts (en_gin hcal) hwe rfl rfl hnw (hts _ hcal.2.1) hcal.2.2.2.1 ⟨g3, g4⟩, hnm, hts _ hin⟩ hpre rfl hlen2 h1.1 hstk (en_catsum h2.2.2.2.2 hcat) hd hroom
    obtain ⟨v, st₀, t, T', L, y1, y2, y3, y4, y5, y6, y7⟩ := hva T9 hT9 X9
    exact Or.inl ⟨v, st₀, t, T', L, y1, y2, y3, y4, y5, y6, y7⟩
  next => exact h.elim
def en_all {α : Type} (P : Nat → α → Prop) : Nat → List α → Prop
  | _, [] => True
  | n, a :: l => P n a ∧ en_all P (n + 1) l
theorem en_allg {α : Type} {P : Nat → α → Prop} : ∀ (l : List α) (n0 : Nat), en_all P n0 l → ∀ (n : Nat) (q : α), l[n]? = some q → P (n0 + n) q
  | [], _, _, n, q, h => by simp at h
  | a :: l, n0, hp, 0, q, h => by cases h; exact hp.1
  | a :: l, n0, hp, n + 1, q, h => by
    have := en_allg l (n0 + 1) hp.2 n q h
    rw [show n0 + (n + 1) = n0 + 1 + n by omega]
    exact this
theorem sn_cats {l : List (String × Nat × en_Kont)} (hl9 : en_all (fun n q => ∃ z : ExceptionTableEntry, (tableOf Y.2.2.2.2)[n]? = some z ∧ covers z pc = true ∧ z.catchType ≠ 0 ∧ Cond.classLink Y.1.cls z.catchType q.1 ∈ en_T ∧ Cond.castable q.1 q.1 ∈ en_X1 ∧ en_Han G Y d w w' K q z.handlerPc) 0 l) (ns : List String) (hns : l.map (fun q => q.1) = ns) (hnc : ∀ a ∈ ns, ∀ b ∈ ns, a ≠ b → (a, b) ∈ en_nc) : en_SX G Y d w w' K (x_cat l) pc := by
  refine sn_cat (fun n q hq => ?_) (fun q hq r hr9 hne => hnc q.1 ?_ r.1 ?_ hne)
  · have := en_allg l 0 hl9 n q hq
    rw [Nat.zero_add] at this
    exact this
  · rw [← hns]; exact List.mem_map_of_mem hq
  · rw [← hns]; exact List.mem_map_of_mem hr9
end
