section
variable {G : en_G} {Y : en_Y} {d : Nat} {w w' w1 : en_Wd} {K : en_K} {k kt kf : en_Kont} {pc : Nat} {ls st : List Value} {hi : en_I} {hl : en_L} {hr : en_F} {uc us : Nat}
theorem en_R.pw {U : State} {H : Heap} (h : en_R G w hi hl hr U H) : en_Pw G w hi hl hr H := ⟨h.1, h.2.2.1, h.2.2.2.1⟩
theorem en_R.back {s : State} {H H1 : Heap} (h : en_R G w hi hl hr s H) {hi1 : en_I} {hl1 : en_L} {hr1 : en_F} (hp : en_Pw G w1 hi1 hl1 hr1 H1) (hq : ∀ a : Nat, a < H.size → ¬ en_A G a → H1[a]? = H[a]?) : en_R G w1 hi1 hl1 hr1 s H1 := h.step hp.1 hq hp.2.1 hp.2.2
-- ends
def o_iret (K : en_K) : en_Kont := fun _ st hi hl hr _ _ => match st with
  | [.int v] => K (.inl (some (.int v))) hi hl hr
  | _ => False
def o_nret (ty : FieldType) (K : en_K) : en_Kont := fun _ st hi hl hr _ _ => match st with
  | [.int v] => narrow ty (.int v) = .int v ∧ K (.inl (some (.int v))) hi hl hr
  | _ => False
def o_lret (K : en_K) : en_Kont := fun _ st hi hl hr _ _ => match st with
  | [.long v] => K (.inl (some (.long v))) hi hl hr
  | _ => False
def o_aret (K : en_K) : en_Kont := fun _ st hi hl hr _ _ => match st with
  | [.ref v] => K (.inl (some (.ref v))) hi hl hr
  | _ => False
def o_vret (K : en_K) : en_Kont := fun _ st hi hl hr _ _ => match st with
  | [] => K (.inl none) hi hl hr
  | _ => False
theorem oe_iret {v : Int32} : o_iret K ls [.int v] hi hl hr uc us = K (.inl (some (.int v))) hi hl hr := rfl
theorem oe_nret {ty : FieldType} {v : Int32} : o_nret ty K ls [.int v] hi hl hr uc us = (narrow ty (.int v) = .int v ∧ K (.inl (some (.int v))) hi hl hr) := rfl
theorem oe_lret {v : Int64} : o_lret K ls [.long v] hi hl hr uc us = K (.inl (some (.long v))) hi hl hr := rfl
theorem oe_aret {v : Nat} : o_aret K ls [.ref v] hi hl hr uc us = K (.inl (some (.ref v))) hi hl hr := rfl
theorem oe_vret : o_vret K ls [] hi hl hr uc us = K (.inl none) hi hl hr := rfl
theorem en_q {s t : State} {H : Heap} {args : Array Value} {locs : List Loc} {v : Option Value} (hR : en_R G w hi hl hr s H) (hS : va_S (en_A G) s.heap H locs) (hK : K (.inl v) hi hl hr) (ht : t.heap = H) : en_Qc G w K args s (.returned (v.map (en_tr G))) t :=
  ⟨v, hi, hl, hr, rfl, hK, by rw [ht]; exact hR.pw, hS.F ht⟩
theorem sn_iret  (hret : Y.2.2.2.1 = some .int)  (hd : decode Y.2.1 pc = .ok (.ireturn, 1)) : en_S G Y d w w K (o_iret K) pc := by
  intro ls st hi hl hr uc us h
  unfold o_iret at h
  split at h
  next v =>
    intro p e R s m args below meth c Q xc xs hC H locs cells slots rl h1 h2 h3 h4 h5 h6
    rcases hC.2.2 with rfl | ⟨hq0, hq⟩
    · exact vx_ret (W.widen (k := xc) (n := xs) (by omega) (by omega) (W.iret hC.1.1 hC.1.2.1 (hC.1.2.2.2.1.trans hret) (fun t ht hW => en_q (v := some (.int v)) h2 h3 h ht) h3.2.2 hd hC.1.2.2.2.2.2.2.2.1))
    · exact hq _ _ _ _ H locs cells slots pc rl h h3 (by omega) (by omega) hd
  next => exact h.elim
theorem sn_nret {ty : FieldType} (hret : Y.2.2.2.1 = some ty)  (hd : decode Y.2.1 pc = .ok (.ireturn, 1)) : en_S G Y d w w K (o_nret ty K) pc := by
  intro ls st hi hl hr uc us h
  unfold o_nret at h
  split at h
  next v =>
    intro p e R s m args below meth c Q xc xs hC H locs cells slots rl h1 h2 h3 h4 h5 h6
    rcases hC.2.2 with rfl | ⟨hq0, hq⟩
    · exact vx_ret (W.widen (k := xc) (n := xs) (by omega) (by omega) (W.zret hC.1.1 hC.1.2.1 (hC.1.2.2.2.1.trans hret) h.1 (fun t ht hW => en_q (v := some (.int v)) h2 h3 h.2 ht) h3.2.2 hd hC.1.2.2.2.2.2.2.2.1))
    · exact hq _ _ _ _ H locs cells slots pc rl h.2 h3 (by omega) (by omega) hd
  next => exact h.elim
theorem sn_lret  (hret : Y.2.2.2.1 = some .long)  (hd : decode Y.2.1 pc = .ok (.lreturn, 1)) : en_S G Y d w w K (o_lret K) pc := by
  intro ls st hi hl hr uc us h
  unfold o_lret at h
  split at h
  next v =>
    intro p e R s m args below meth c Q xc xs hC H locs cells slots rl h1 h2 h3 h4 h5 h6
    rcases hC.2.2 with rfl | ⟨hq0, hq⟩
    · exact vx_ret (W.widen (k := xc) (n := xs) (by omega) (by omega) (W.lret hC.1.1 hC.1.2.1 (hC.1.2.2.2.1.trans hret) (fun t ht hW => en_q (v := some (.long v)) h2 h3 h ht) h3.2.2 hd hC.1.2.2.2.2.2.2.2.1))
    · obtain ⟨z, hz⟩ := hq0 _ _ _ _ h; cases hz
  next => exact h.elim
theorem sn_aret {ty : String} (hret : Y.2.2.2.1 = some (.object ty))  (hd : decode Y.2.1 pc = .ok (.areturn, 1)) : en_S G Y d w w K (o_aret K) pc := by
  intro ls st hi hl hr uc us h
  unfold o_aret at h
  split at h
  next v =>
    intro p e R s m args below meth c Q xc xs hC H locs cells slots rl h1 h2 h3 h4 h5 h6
    rcases hC.2.2 with rfl | ⟨hq0, hq⟩
    · exact vx_ret (W.widen (k := xc) (n := xs) (by omega) (by omega) (W.aret hC.1.1 hC.1.2.1 (hC.1.2.2.2.1.trans hret) (Or.inl ⟨_, rfl⟩) (en_isref h2.2.2.2.2 v) (fun t ht hW => en_q (v := some (.ref v)) h2 h3 h ht) h3.2.2 hd hC.1.2.2.2.2.2.2.2.1))
    · obtain ⟨z, hz⟩ := hq0 _ _ _ _ h; cases hz
  next => exact h.elim
theorem sn_vret  (hret : Y.2.2.2.1 = none)  (hd : decode Y.2.1 pc = .ok (.return_, 1)) : en_S G Y d w w K (o_vret K) pc := by
  intro ls st hi hl hr uc us h
  unfold o_vret at h
  split at h
  next  =>
    intro p e R s m args below meth c Q xc xs hC H locs cells slots rl h1 h2 h3 h4 h5 h6
    rcases hC.2.2 with rfl | ⟨hq0, hq⟩
    · exact vx_ret (W.widen (k := xc) (n := xs) (by omega) (by omega) (W.vret hC.1.1 hC.1.2.1 (hC.1.2.2.2.1.trans hret) (fun t ht hW => en_q (v := none) h2 h3 h ht) h3.2.2 hd hC.1.2.2.2.2.2.2.2.1))
    · obtain ⟨z, hz⟩ := hq0 _ _ _ _ h; cases hz
  next => exact h.elim
-- calls
/-- a method that can be called: its words, its place among the classes, how many parameters -/
def en_Cal (Yc : en_Y) (np : Nat) : Prop := Yc.2.2.2.2 = [] ∧ Cond.initialized Yc.1.cls ∈ en_T ∧ Cond.code Yc.1 Yc.2.1 Yc.2.2.1 Yc.2.2.2.1 ∈ en_T ∧ (Yc.1.cls ≠ "java/lang/invoke/MethodHandle" ∧ Yc.1.cls ≠ "java/lang/invoke/VarHandle" ∧ (parseMethodDescriptor Yc.1.desc).map (fun d => d.parameters.length) = some np) ∧ Yc.2.2.1 ≤ 45
def en_CalV (Yc : en_Y) : Prop := Cond.instanceMethod Yc.1 ∈ en_T ∧ Cond.selects Yc.1.cls Yc.1 Yc.1 ∈ en_T
theorem en_good {w0 : Cond} (h : w0 ∈ en_T) : w0 ∈ en_T ∧ ((w0.onTables && w0.keeps) = true ∨ ∃ ty, w0 = .arrayClass ty) := ⟨h, good_of_word (List.mem_filter.mp h).2⟩
theorem en_gin {Yc : en_Y} {np : Nat} (hcal : en_Cal Yc np) : GoodIn en_T (en_wsY Yc) := by
  intro w0 hw
  unfold en_wsY at hw
  rw [hcal.1] at hw
  rcases List.mem_cons.mp hw with rfl | hw
  · exact en_good hcal.2.2.1
  · exact en_good hw
theorem en_wsY_eq {Yc : en_Y} {np : Nat} (hcal : en_Cal Yc np) : en_wsY Yc = Cond.code Yc.1 Yc.2.1 Yc.2.2.1 Yc.2.2.2.1 :: en_T := by
  unfold en_wsY
  rw [hcal.1]
/-- where E is thrown over the frame at pc -/
def en_VX (G : en_G) (Y : en_Y) (d : Nat) (w w' : en_Wd) (K : en_K) (E : String) (pc : Nat) (ls : List Value) (hi : en_I) (hl : en_L) (hr : en_F) (uc us : Nat) : Prop :=
  ∀ (p : Program) (e : Env) (R : Room) (s : State) (m : MethodId) (args : Array Value) (below : List Frame) (meth : Method) (c : Code) (Q : State → Prop) (xc xs : Nat), en_Ctx G Y d xc xs w' K p e R s m args below meth c Q →
    ∀ (H : Heap) (locs : List Loc) (cells slots : Nat) (rl : Array Slot) (rest : List Value) (q : Addr) (ce : Cell), en_lr G Y.2.2.1 ls rl → en_R G w hi hl hr s H → va_S (en_A G) s.heap H locs → cells + uc ≤ xc → slots + us ≤ xs → (w.2 = true → s.heap.size + cells ≤ G.2.1 + w.1) → H[q]? = some ce → ce.vm = .none → s.vm.findClass E = some ce.cls →
      vx_W p G.1 e R s m args below meth c H locs cells slots Q (F0 m pc rl rest) q
abbrev en_KX : Type := String → List Value → en_I → en_L → en_F → Nat → Nat → Prop
def en_SX (G : en_G) (Y : en_Y) (d : Nat) (w w' : en_Wd) (K : en_K) (kx : en_KX) (pc : Nat) : Prop := ∀ (E : String) (ls : List Value) (hi : en_I) (hl : en_L) (hr : en_F) (uc us : Nat), kx E ls hi hl hr uc us → en_VX G Y d w w' K E pc ls hi hl hr uc us
/-- what is thrown goes on to the caller -/
def x_out (K : en_K) : en_KX := fun E _ hi hl hr _ _ => K (.inr E) hi hl hr
theorem sn_out (hout : ∀ x ∈ tableOf Y.2.2.2.2, covers x pc = false) : en_SX G Y d w w K (x_out K) pc := by
  intro E ls hi hl hr uc us h
  intro p e R s m args below meth c Q xc xs hC H locs cells slots rl rest q ce h1 h2 h3 h4 h5 h6 hce hcv hcl
  rcases hC.2.2 with rfl | ⟨hq0, hq⟩
  · exact vx_out (by rw [hC.1.2.2.2.2.2.2.2.2.1]; exact hout) hC.1.2.2.2.2.2.2.2.1 hce hcv hcl (fun t ht hA => ⟨hi, hl, hr, h, by rw [ht]; exact h2.pw, h3.F ht⟩) h3.2.2 (by omega) (by omega)
  · obtain ⟨z, hz⟩ := hq0 _ _ _ _ h; cases hz
/-- nothing is thrown -/
def x_no : en_KX := fun _ _ _ _ _ _ _ => False
theorem sn_no : en_SX G Y d w w' K x_no pc := fun _ _ _ _ _ _ _ h => h.elim
def en_kk (k : en_Kont) (kx : en_KX) (ls r : List Value) (uc us : Nat) : en_K := fun o hi hl hr => match o with
  | .inl v => k ls (v.toList ++ r) hi hl hr uc us
  | .inr E => kx E ls hi hl hr uc us
theorem oe_kl {kx : en_KX} {r : List Value} {v : Option Value} : en_kk k kx ls r uc us (.inl v) hi hl hr = k ls (v.toList ++ r) hi hl hr uc us := rfl
theorem oe_kr {kx : en_KX} {r : List Value} {E : String} : en_kk k kx ls r uc us (.inr E) hi hl hr = kx E ls hi hl hr uc us := rfl
/-- from a run of the callee to the caller's goal -/
theorem en_fin {kx : en_KX} {p : Program} {e : Env} {R : Room} {s : State} {m : MethodId} {args : Array Value} {below : List Frame} {meth : Method} {c : Code} {Q : State → Prop} {xc xs mc ms : Nat} {H : Heap} {locs : List Loc} {cells slots : Nat} {rl : Array Slot} {st0 : List Value} {r : List Value} {a : Array Value}
    (hC : en_Ctx G Y d xc xs w' K p e R s m args below meth c Q) (h1 : en_lr G Y.2.2.1 ls rl) (h2 : en_R G w hi hl hr s H) (h3 : va_S (en_A G) s.heap H locs) (h4 : cells + uc ≤ xc) (h5 : slots + us ≤ xs) (h6 : w.2 = true → s.heap.size + cells ≤ G.2.1 + w.1)
    (hmc : mc ≤ uc) (hms : ms ≤ us) (hw : w1.2 = true → w.2 = true ∧ w.1 + mc ≤ w1.1) (hk : en_S G Y d w1 w' K k (pc + 3)) (hx : en_SX G Y d w1 w' K kx pc)
    (hr9 : vx_Run p G.1 e R s m args below meth c H locs cells slots mc ms (F0 m pc rl st0) (r.map (en_tr G)) (en_Qc G w1 (en_kk k kx ls r (uc - mc) (us - ms)) a) (en_XC G w1 (en_kk k kx ls r (uc - mc) (us - ms))) (en_A G)) :
    W p G.1 e R s m args below meth c H locs cells slots Q (F0 m pc rl st0) := by
  have keep : ∀ (st₀ t T' : State) (L : List Loc), st₀.heap = H → T'.heap = t.heap → (∀ q ∈ L, en_A G q.base) → va_F (en_A G) st₀ t → va_S (en_A G) s.heap T'.heap (locs ++ L) ∧ ∀ a : Nat, a < H.size → ¬ en_A G a → T'.heap[a]? = H[a]? := by
    intro st₀ t T' L h0 e1 hL hF
    obtain ⟨hz, hkp⟩ := hF
    rw [h0] at hz hkp
    refine ⟨⟨Nat.le_trans h3.1 (by rw [e1]; exact hz), fun q g1 g2 => ?_, fun q hq => ?_⟩, fun q g1 g2 => by rw [e1]; exact hkp q g1 g2⟩
    · rw [e1, hkp q (Nat.lt_of_lt_of_le g1 h3.1) g2]; exact h3.2.1 q g1 g2
    · rcases List.mem_append.mp hq with g | g
      · exact h3.2.2 q g
      · exact hL q g
  have hx6 : w1.2 = true → s.heap.size + (cells + mc) ≤ G.2.1 + w1.1 := fun e9 => by
    obtain ⟨g1, g2⟩ := hw e9
    have := h6 g1
    omega
  intro T hT X
  rcases hr9 T hT X with ⟨v, st₀, t, T', L, h0, X', hL, e1, e2, hq, stp⟩ | ⟨q, st₀, t, T', L, E, ce, h0, X', hL, e1, e2, hq, hce, hcv, hcl, stp⟩
  · obtain ⟨v', hi', hl', hr', hv, hK, hP, hF⟩ := hq
    cases hv
    obtain ⟨hS', hq'⟩ := keep st₀ t T' L h0 e1 hL hF
    have hR' : en_R G w1 hi' hl' hr' s T'.heap := h2.back (by rw [e1]; exact hP) hq'
    obtain ⟨t2, a1, b1⟩ := hk _ _ _ _ _ _ _ hK p e R s m args below meth c Q xc xs hC T'.heap (locs ++ L) (cells + mc) (slots + ms) rl h1 hR' hS' (by omega) (by omega) hx6 T' rfl X'
    refine ⟨t2, stp t2 ?_, b1⟩
    rw [List.map_append] at a1
    cases v' <;> exact a1
  · obtain ⟨hi', hl', hr', hK, hP, hF⟩ := hq
    obtain ⟨hS', hq'⟩ := keep st₀ t T' L h0 e1 hL hF
    have hR' : en_R G w1 hi' hl' hr' s T'.heap := h2.back (by rw [e1]; exact hP) hq'
    obtain ⟨t2, a1, b1⟩ := hx _ _ _ _ _ _ _ hK p e R s m args below meth c Q xc xs hC T'.heap (locs ++ L) (cells + mc) (slots + ms) rl (r.map (en_tr G)) q ce h1 hR' hS' (by omega) (by omega) hx6 (by rw [e1]; exact hce) hcv hcl T' rfl X'
    exact ⟨t2, stp.trans a1, b1⟩
theorem en_pre {s : State} {H : Heap} {as : List Value} (h2 : en_R G w hi hl hr s H) {T : State} {hb : w.2 = true → H.size ≤ G.2.1 + w.1} : ∀ U : State, U.heap = H → s.WarmedH U.vm → (as.map (en_tr G)).toArray = (as.map (en_tr G)).toArray ∧ en_R G w hi hl hr U U.heap ∧ (w.2 = true → U.heap.size ≤ G.2.1 + w.1) := by
  intro U hU hW
  rw [hU]
  exact ⟨rfl, h2.warm hW, hb⟩
theorem en_SH_cname {a ci : Nat} {Yc : en_Y} (h : (en_SH a).1 = ci) (hc : (vwCl[ci]?).map (fun q => q.1) = some Yc.1.cls) : ∃ T N, vwCl[ci]? = some (Yc.1.cls, T, N) ∧ en_SH a = (ci, N) ∧ ci < 12 := by
  cases hv : vwCl[ci]? with
  | none => rw [hv] at hc; cases hc
  | some q =>
    rw [hv] at hc
    have hlt : ci < 12 := (List.getElem?_eq_some_iff.mp hv).1
    obtain ⟨C, T, N⟩ := q
    have hC : C = Yc.1.cls := by simpa using hc
    subst hC
    have h2 := en_SH_cls a ci (en_SH a).2 (by rw [← h]) hlt
    rw [hv] at h2
    have hN : N = (en_SH a).2 := by simpa using h2
    exact ⟨T, N, rfl, by rw [hN, ← h], hlt⟩
end
