theorem iI_nat (i : Nat) : iI (i : Int) = nI i := by
  unfold iI nI
  first | rfl | simp [Int32.ofInt_eq_ofNat] | simp
theorem iI_cl {i : Nat} (h : i < 2 ^ 31) : (iI (i : Int)).toNatClampNeg = i := by rw [iI_nat]; exact nI_clamp h
theorem iI_in {i n : Nat} (h : i < n) (hn : n < 2 ^ 31) : vp_in (iI (i : Int)) n := by rw [iI_nat]; exact vp_in_nI h hn
theorem en_SH_small (a : Nat) : (en_SH a).2 < 3000 := by
  have h : ∀ q ∈ en_shl, q.2 < 3000 := by decide +kernel
  unfold en_SH
  rw [List.getD_eq_getElem?_getD]
  cases e : en_shl[a]? with
  | none => decide
  | some q => exact h q (List.mem_of_getElem? e)
theorem en_SH_cls (a ci N : Nat) (h : en_SH a = (ci, N)) (hc : ci < 12) : (vwCl[ci]?).map (fun q => q.2.2) = some N := by
  have h0 : ∀ q ∈ en_shl, q.1 < 12 → (vwCl[q.1]?).map (fun q => q.2.2) = some q.2 := by decide +kernel
  unfold en_SH at h
  rw [List.getD_eq_getElem?_getD] at h
  cases e : en_shl[a]? with
  | none => rw [e] at h; cases h; exact absurd hc (by decide)
  | some q =>
    rw [e] at h
    have h2 : q = (ci, N) := h
    subst h2
    exact h0 _ (List.mem_of_getElem? e) hc
section
variable {G : en_G} {Y : en_Y} {d : Nat} {w w' : en_Wd} {K : en_K} {k kt kf : en_Kont} {pc : Nat} {ls st : List Value} {hi : en_I} {hl : en_L} {hr : en_F} {uc us : Nat}
theorem en_at_i {n : Nat} {a : Nat} (h : a < n) (hs : (en_SH a).1 = 100) : (en_ws G n hi hl hr)[a]? = some (G.2.1 + a, .inl (G.2.2.2.1 0, (en_SH a).2, .inl (hi a))) := by
  rw [en_ws_at h]; simp [en_enc, hs]
theorem en_at_b {n : Nat} {a : Nat} (h : a < n) (hs : (en_SH a).1 = 101) : (en_ws G n hi hl hr)[a]? = some (G.2.1 + a, .inl (G.2.2.2.1 1, (en_SH a).2, .inl (hi a))) := by
  rw [en_ws_at h]; simp [en_enc, hs]
theorem en_at_l {n : Nat} {a : Nat} (h : a < n) (hs : (en_SH a).1 = 102) : (en_ws G n hi hl hr)[a]? = some (G.2.1 + a, .inl (G.2.2.2.1 2, (en_SH a).2, .inr (.inl (hl a)))) := by
  rw [en_ws_at h]; simp [en_enc, hs]
theorem en_at_q {n : Nat} {a t : Nat} (h : a < n) (hs : (en_SH a).1 = 103 + t) : (en_ws G n hi hl hr)[a]? = some (G.2.1 + a, .inl (G.2.2.2.1 (3 + t), (en_SH a).2, .inr (.inr (.inr (.inr (fun i => en_rf G (hr a i))))))) := by
  rw [en_ws_at h]; unfold en_enc
  rw [hs, if_neg (by omega), if_neg (by omega), if_neg (by omega), if_neg (by omega)]
  rw [show 103 + t - 100 = 3 + t by omega]
theorem en_at_o {n : Nat} {a ci N : Nat} (h : a < n) (hs : en_SH a = (ci, N)) (hc : ci < 12) : (en_ws G n hi hl hr)[a]? = some (G.2.1 + a, .inr (ci, (List.range N).map (fun k => en_fv G (en_tyOf ci k) (hi a k) (hl a k) (hr a k)))) := by
  rw [en_ws_at h, hs]; unfold en_enc
  rw [if_pos (by show ci < 100; omega)]
theorem en_ref {U : State} {H : Heap} (hR : en_R G w hi hl hr U H) {a : Nat} (h : a < w.1) : en_tr G (.ref a) = .ref (G.2.1 + a) := en_tr_ref G (Nat.lt_trans h hR.2.2.2.1)
theorem en_size {n : Nat} {D : va_G} {H1 : Heap} {hi1 : en_I} {hl1 : en_L} {hr1 : en_F} (hP : va_P D vwCl (en_ws G n hi1 hl1 hr1) H1) : n = 0 ∨ G.2.1 + n ≤ H1.size := by
  rcases Nat.eq_zero_or_pos n with h | h
  · exact Or.inl h
  · have hl := (hP (n - 1) _ (en_ws_at (by omega))).lt
    have hl : G.2.1 + (n - 1) < H1.size := hl
    exact Or.inr (by omega)
/-- the world behind a write that the frame's law tells -/
theorem en_wr {s : State} {H H1 : Heap} {locs locs1 : List Loc} (hR : en_R G w hi hl hr s H) (hS : va_S (en_A G) s.heap H locs) (hS1 : va_S (en_A G) s.heap H1 locs1) (hb : G.2.1 ≤ s.heap.size) {hi1 : en_I} {hl1 : en_L} {hr1 : en_F} (hP : va_P G.2.2.1 vwCl (en_ws G w.1 hi1 hl1 hr1) H1) : en_R G w hi1 hl1 hr1 s H1 := by
  refine hR.step hP (fun a _ hA => ?_) ?_ hR.2.2.2.1
  · have ha : a < s.heap.size := by
      unfold en_A at hA
      omega
    rw [hS1.2.1 a ha hA, hS.2.1 a ha hA]
  · rcases en_size hP with e | e
    · rw [e]; exact Nat.le_trans hb hS1.1
    · exact e

def o_istore (i : Nat) (k : en_Kont) : en_Kont := fun ls st hi hl hr uc us => match st with
  | .int x :: r => k (en_set1 ls i (.int x)) r hi hl hr uc us
  | _ => False
theorem oe_istore {i : Nat} {x : Int32} {r : List Value} : o_istore i k ls (.int x :: r) hi hl hr uc us = k (en_set1 ls i (.int x)) r hi hl hr uc us := rfl
theorem sn_istore_n {i : Nat} {q : Fin 4} (hq : (q : Nat) = i) (hn : i < Y.2.2.1) (hd : decode Y.2.1 pc = .ok (.istore_n q, 1)) (hk : en_S G Y d w w' K k (pc + 1)) : en_S G Y d w w' K (o_istore i k) pc := by
  intro ls st hi hl hr uc us h
  unfold o_istore at h
  split at h
  next x r =>
    intro p e R s m args below meth c Q xc xs hC H locs cells slots rl h1 h2 h3 h4 h5 h6
    exact lv_istore_n hC.1.1 hC.1.2.1 hd hq (en_lr_has h1) hn rfl (fun rl' h' => hk _ _ _ _ _ _ _ h p e R s m args below meth c Q xc xs hC H locs cells slots rl' (en_lr_store h2.2.2.2.2 h1 h') h2 h3 h4 h5 h6)
  next => exact h.elim
theorem sn_istore {i : Nat} (hn : i < Y.2.2.1) (hd : decode Y.2.1 pc = .ok (.istore i, 2)) (hk : en_S G Y d w w' K k (pc + 2)) : en_S G Y d w w' K (o_istore i k) pc := by
  intro ls st hi hl hr uc us h
  unfold o_istore at h
  split at h
  next x r =>
    intro p e R s m args below meth c Q xc xs hC H locs cells slots rl h1 h2 h3 h4 h5 h6
    exact lv_istore hC.1.1 hC.1.2.1 hd (en_lr_has h1) hn rfl (fun rl' h' => hk _ _ _ _ _ _ _ h p e R s m args below meth c Q xc xs hC H locs cells slots rl' (en_lr_store h2.2.2.2.2 h1 h') h2 h3 h4 h5 h6)
  next => exact h.elim
def o_lstore (i : Nat) (k : en_Kont) : en_Kont := fun ls st hi hl hr uc us => match st with
  | .long X :: r => k (en_set2 ls i (.long X)) r hi hl hr uc us
  | _ => False
theorem oe_lstore {i : Nat} {X : Int64} {r : List Value} : o_lstore i k ls (.long X :: r) hi hl hr uc us = k (en_set2 ls i (.long X)) r hi hl hr uc us := rfl
theorem sn_lstore_n {i : Nat} {q : Fin 4} (hq : (q : Nat) = i) (hn : i + 1 < Y.2.2.1) (hd : decode Y.2.1 pc = .ok (.lstore_n q, 1)) (hk : en_S G Y d w w' K k (pc + 1)) : en_S G Y d w w' K (o_lstore i k) pc := by
  intro ls st hi hl hr uc us h
  unfold o_lstore at h
  split at h
  next X r =>
    intro p e R s m args below meth c Q xc xs hC H locs cells slots rl h1 h2 h3 h4 h5 h6
    exact lv_lstore_n hC.1.1 hC.1.2.1 hd hq (en_lr_has h1) hn rfl (fun rl' h' => hk _ _ _ _ _ _ _ h p e R s m args below meth c Q xc xs hC H locs cells slots rl' (en_lr_store2 h2.2.2.2.2 h1 h') h2 h3 h4 h5 h6)
  next => exact h.elim
theorem sn_lstore {i : Nat} (hn : i + 1 < Y.2.2.1) (hd : decode Y.2.1 pc = .ok (.lstore i, 2)) (hk : en_S G Y d w w' K k (pc + 2)) : en_S G Y d w w' K (o_lstore i k) pc := by
  intro ls st hi hl hr uc us h
  unfold o_lstore at h
  split at h
  next X r =>
    intro p e R s m args below meth c Q xc xs hC H locs cells slots rl h1 h2 h3 h4 h5 h6
    exact lv_lstore hC.1.1 hC.1.2.1 hd (en_lr_has h1) hn rfl (fun rl' h' => hk _ _ _ _ _ _ _ h p e R s m args below meth c Q xc xs hC H locs cells slots rl' (en_lr_store2 h2.2.2.2.2 h1 h') h2 h3 h4 h5 h6)
  next => exact h.elim
def o_astore (i : Nat) (k : en_Kont) : en_Kont := fun ls st hi hl hr uc us => match st with
  | .ref n :: r => k (en_set1 ls i (.ref n)) r hi hl hr uc us
  | _ => False
theorem oe_astore {i : Nat} {n : Nat} {r : List Value} : o_astore i k ls (.ref n :: r) hi hl hr uc us = k (en_set1 ls i (.ref n)) r hi hl hr uc us := rfl
theorem sn_astore_n {i : Nat} {q : Fin 4} (hq : (q : Nat) = i) (hn : i < Y.2.2.1) (hd : decode Y.2.1 pc = .ok (.astore_n q, 1)) (hk : en_S G Y d w w' K k (pc + 1)) : en_S G Y d w w' K (o_astore i k) pc := by
  intro ls st hi hl hr uc us h
  unfold o_astore at h
  split at h
  next n r =>
    intro p e R s m args below meth c Q xc xs hC H locs cells slots rl h1 h2 h3 h4 h5 h6
    rw [List.map_cons]
    rcases en_isref h2.2.2.2.2 n with e9 | ⟨a9, e9⟩
    · rw [e9]
      exact lv_astore_nN hC.1.1 hC.1.2.1 hd hq (en_lr_has h1) hn rfl (fun rl' h' => hk _ _ _ _ _ _ _ h p e R s m args below meth c Q xc xs hC H locs cells slots rl' (en_lr_store h2.2.2.2.2 h1 (by rw [e9]; exact h')) h2 h3 h4 h5 h6)
    · rw [e9]
      exact lv_astore_n hC.1.1 hC.1.2.1 hd hq (en_lr_has h1) hn rfl (fun rl' h' => hk _ _ _ _ _ _ _ h p e R s m args below meth c Q xc xs hC H locs cells slots rl' (en_lr_store h2.2.2.2.2 h1 (by rw [e9]; exact h')) h2 h3 h4 h5 h6)
  next => exact h.elim
theorem sn_astore {i : Nat} (hn : i < Y.2.2.1) (hd : decode Y.2.1 pc = .ok (.astore i, 2)) (hk : en_S G Y d w w' K k (pc + 2)) : en_S G Y d w w' K (o_astore i k) pc := by
  intro ls st hi hl hr uc us h
  unfold o_astore at h
  split at h
  next n r =>
    intro p e R s m args below meth c Q xc xs hC H locs cells slots rl h1 h2 h3 h4 h5 h6
    rw [List.map_cons]
    rcases en_isref h2.2.2.2.2 n with e9 | ⟨a9, e9⟩
    · rw [e9]
      exact lv_astoreN hC.1.1 hC.1.2.1 hd (en_lr_has h1) hn rfl (fun rl' h' => hk _ _ _ _ _ _ _ h p e R s m args below meth c Q xc xs hC H locs cells slots rl' (en_lr_store h2.2.2.2.2 h1 (by rw [e9]; exact h')) h2 h3 h4 h5 h6)
    · rw [e9]
      exact lv_astore hC.1.1 hC.1.2.1 hd (en_lr_has h1) hn rfl (fun rl' h' => hk _ _ _ _ _ _ _ h p e R s m args below meth c Q xc xs hC H locs cells slots rl' (en_lr_store h2.2.2.2.2 h1 (by rw [e9]; exact h')) h2 h3 h4 h5 h6)
  next => exact h.elim
def o_iinc (i : Nat) (z : Int) (k : en_Kont) : en_Kont := fun ls st hi hl hr uc us => match en_get ls i with
  | .int x => k (en_set1 ls i (.int (x + iI z))) st hi hl hr uc us
  | _ => False
theorem oe_iinc {i : Nat} {z : Int} : o_iinc i z k ls st hi hl hr uc us = (match en_get ls i with
  | .int x => k (en_set1 ls i (.int (x + iI z))) st hi hl hr uc us
  | _ => False) := rfl
theorem sn_iinc {i : Nat} {z : Int} (hn : i < Y.2.2.1) (hd : decode Y.2.1 pc = .ok (.iinc i z, 3)) (hk : en_S G Y d w w' K k (pc + 3)) : en_S G Y d w w' K (o_iinc i z k) pc := by
  intro ls st hi hl hr uc us h
  unfold o_iinc at h
  split at h
  next x hx =>
    intro p e R s m args below meth c Q xc xs hC H locs cells slots rl h1 h2 h3 h4 h5 h6
    obtain ⟨k0, hk0⟩ := List.getElem?_of_mem (en_lw_mem.mpr ⟨.int x, en_get_at ls i _ hx (fun z e => by cases e), (fun z e => by cases e), rfl⟩ : (i, en_tr G (.int x)) ∈ en_lw G ls)
    exact lv_iinc (v := x + iI z) hC.1.1 hC.1.2.1 hd (en_lr_has h1) hk0 rfl hn rfl (fun rl' h' => hk _ _ _ _ _ _ _ h p e R s m args below meth c Q xc xs hC H locs cells slots rl' (en_lr_store h2.2.2.2.2 h1 h') h2 h3 h4 h5 h6)
  next => exact h.elim
theorem sn_goto {off : Int} {tgt : Nat} (hd : decode Y.2.1 pc = .ok (.goto off, 3)) (ht : (pc : Int) + off = (tgt : Int)) (hk : en_S G Y d w w' K k tgt) : en_S G Y d w w' K k pc := by
  intro ls st hi hl hr uc us h
  intro p e R s m args below meth c Q xc xs hC H locs cells slots rl h1 h2 h3 h4 h5 h6
  exact lv_goto hC.1.1 hC.1.2.1 hd ht (hk _ _ _ _ _ _ _ h p e R s m args below meth c Q xc xs hC H locs cells slots rl h1 h2 h3 h4 h5 h6)
def o_ifeq (kt kf : en_Kont) : en_Kont := fun ls st hi hl hr uc us => match st with
  | .int x :: r => (x = 0 → kt ls r hi hl hr uc us) ∧ (¬ x = 0 → kf ls r hi hl hr uc us)
  | _ => False
theorem oe_ifeq {x : Int32} {r : List Value} : o_ifeq kt kf ls (.int x :: r) hi hl hr uc us = ((x = 0 → kt ls r hi hl hr uc us) ∧ (¬ x = 0 → kf ls r hi hl hr uc us)) := rfl
theorem sn_ifeq {off : Int} {tgt : Nat} (hd : decode Y.2.1 pc = .ok (.ifCond .eq off, 3)) (ht : (pc : Int) + off = (tgt : Int)) (hkt : en_S G Y d w w' K kt tgt) (hkf : en_S G Y d w w' K kf (pc + 3)) : en_S G Y d w w' K (o_ifeq kt kf) pc := by
  intro ls st hi hl hr uc us h
  unfold o_ifeq at h
  split at h
  next x r =>
    intro p e R s m args below meth c Q xc xs hC H locs cells slots rl h1 h2 h3 h4 h5 h6
    exact lv_if_eq hC.1.1 hC.1.2.1 hd ht (fun q => hkt _ _ _ _ _ _ _ (h.1 q) p e R s m args below meth c Q xc xs hC H locs cells slots rl h1 h2 h3 h4 h5 h6) (fun q => hkf _ _ _ _ _ _ _ (h.2 q) p e R s m args below meth c Q xc xs hC H locs cells slots rl h1 h2 h3 h4 h5 h6)
  next => exact h.elim
def o_ifne (kt kf : en_Kont) : en_Kont := fun ls st hi hl hr uc us => match st with
  | .int x :: r => (¬ x = 0 → kt ls r hi hl hr uc us) ∧ (x = 0 → kf ls r hi hl hr uc us)
  | _ => False
theorem oe_ifne {x : Int32} {r : List Value} : o_ifne kt kf ls (.int x :: r) hi hl hr uc us = ((¬ x = 0 → kt ls r hi hl hr uc us) ∧ (x = 0 → kf ls r hi hl hr uc us)) := rfl
theorem sn_ifne {off : Int} {tgt : Nat} (hd : decode Y.2.1 pc = .ok (.ifCond .ne off, 3)) (ht : (pc : Int) + off = (tgt : Int)) (hkt : en_S G Y d w w' K kt tgt) (hkf : en_S G Y d w w' K kf (pc + 3)) : en_S G Y d w w' K (o_ifne kt kf) pc := by
  intro ls st hi hl hr uc us h
  unfold o_ifne at h
  split at h
  next x r =>
    intro p e R s m args below meth c Q xc xs hC H locs cells slots rl h1 h2 h3 h4 h5 h6
    exact lv_if_ne hC.1.1 hC.1.2.1 hd ht (fun q => hkt _ _ _ _ _ _ _ (h.1 q) p e R s m args below meth c Q xc xs hC H locs cells slots rl h1 h2 h3 h4 h5 h6) (fun q => hkf _ _ _ _ _ _ _ (h.2 q) p e R s m args below meth c Q xc xs hC H locs cells slots rl h1 h2 h3 h4 h5 h6)
  next => exact h.elim
def o_iflt (kt kf : en_Kont) : en_Kont := fun ls st hi hl hr uc us => match st with
  | .int x :: r => (x < 0 → kt ls r hi hl hr uc us) ∧ (¬ x < 0 → kf ls r hi hl hr uc us)
  | _ => False
theorem oe_iflt {x : Int32} {r : List Value} : o_iflt kt kf ls (.int x :: r) hi hl hr uc us = ((x < 0 → kt ls r hi hl hr uc us) ∧ (¬ x < 0 → kf ls r hi hl hr uc us)) := rfl
theorem sn_iflt {off : Int} {tgt : Nat} (hd : decode Y.2.1 pc = .ok (.ifCond .lt off, 3)) (ht : (pc : Int) + off = (tgt : Int)) (hkt : en_S G Y d w w' K kt tgt) (hkf : en_S G Y d w w' K kf (pc + 3)) : en_S G Y d w w' K (o_iflt kt kf) pc := by
  intro ls st hi hl hr uc us h
  unfold o_iflt at h
  split at h
  next x r =>
    intro p e R s m args below meth c Q xc xs hC H locs cells slots rl h1 h2 h3 h4 h5 h6
    exact lv_if_lt hC.1.1 hC.1.2.1 hd ht (fun q => hkt _ _ _ _ _ _ _ (h.1 q) p e R s m args below meth c Q xc xs hC H locs cells slots rl h1 h2 h3 h4 h5 h6) (fun q => hkf _ _ _ _ _ _ _ (h.2 q) p e R s m args below meth c Q xc xs hC H locs cells slots rl h1 h2 h3 h4 h5 h6)
  next => exact h.elim
def o_ifge (kt kf : en_Kont) : en_Kont := fun ls st hi hl hr uc us => match st with
  | .int x :: r => (0 ≤ x → kt ls r hi hl hr uc us) ∧ (¬ 0 ≤ x → kf ls r hi hl hr uc us)
  | _ => False
theorem oe_ifge {x : Int32} {r : List Value} : o_ifge kt kf ls (.int x :: r) hi hl hr uc us = ((0 ≤ x → kt ls r hi hl hr uc us) ∧ (¬ 0 ≤ x → kf ls r hi hl hr uc us)) := rfl
theorem sn_ifge {off : Int} {tgt : Nat} (hd : decode Y.2.1 pc = .ok (.ifCond .ge off, 3)) (ht : (pc : Int) + off = (tgt : Int)) (hkt : en_S G Y d w w' K kt tgt) (hkf : en_S G Y d w w' K kf (pc + 3)) : en_S G Y d w w' K (o_ifge kt kf) pc := by
  intro ls st hi hl hr uc us h
  unfold o_ifge at h
  split at h
  next x r =>
    intro p e R s m args below meth c Q xc xs hC H locs cells slots rl h1 h2 h3 h4 h5 h6
    exact lv_if_ge hC.1.1 hC.1.2.1 hd ht (fun q => hkt _ _ _ _ _ _ _ (h.1 q) p e R s m args below meth c Q xc xs hC H locs cells slots rl h1 h2 h3 h4 h5 h6) (fun q => hkf _ _ _ _ _ _ _ (h.2 q) p e R s m args below meth c Q xc xs hC H locs cells slots rl h1 h2 h3 h4 h5 h6)
  next => exact h.elim
def o_ifgt (kt kf : en_Kont) : en_Kont := fun ls st hi hl hr uc us => match st with
  | .int x :: r => (0 < x → kt ls r hi hl hr uc us) ∧ (¬ 0 < x → kf ls r hi hl hr uc us)
  | _ => False
theorem oe_ifgt {x : Int32} {r : List Value} : o_ifgt kt kf ls (.int x :: r) hi hl hr uc us = ((0 < x → kt ls r hi hl hr uc us) ∧ (¬ 0 < x → kf ls r hi hl hr uc us)) := rfl
theorem sn_ifgt {off : Int} {tgt : Nat} (hd : decode Y.2.1 pc = .ok (.ifCond .gt off, 3)) (ht : (pc : Int) + off = (tgt : Int)) (hkt : en_S G Y d w w' K kt tgt) (hkf : en_S G Y d w w' K kf (pc + 3)) : en_S G Y d w w' K (o_ifgt kt kf) pc := by
  intro ls st hi hl hr uc us h
  unfold o_ifgt at h
  split at h
  next x r =>
    intro p e R s m args below meth c Q xc xs hC H locs cells slots rl h1 h2 h3 h4 h5 h6
    exact lv_if_gt hC.1.1 hC.1.2.1 hd ht (fun q => hkt _ _ _ _ _ _ _ (h.1 q) p e R s m args below meth c Q xc xs hC H locs cells slots rl h1 h2 h3 h4 h5 h6) (fun q => hkf _ _ _ _ _ _ _ (h.2 q) p e R s m args below meth c Q xc xs hC H locs cells slots rl h1 h2 h3 h4 h5 h6)
  next => exact h.elim
def o_ifle (kt kf : en_Kont) : en_Kont := fun ls st hi hl hr uc us => match st with
  | .int x :: r => (x ≤ 0 → kt ls r hi hl hr uc us) ∧ (¬ x ≤ 0 → kf ls r hi hl hr uc us)
  | _ => False
theorem oe_ifle {x : Int32} {r : List Value} : o_ifle kt kf ls (.int x :: r) hi hl hr uc us = ((x ≤ 0 → kt ls r hi hl hr uc us) ∧ (¬ x ≤ 0 → kf ls r hi hl hr uc us)) := rfl
theorem sn_ifle {off : Int} {tgt : Nat} (hd : decode Y.2.1 pc = .ok (.ifCond .le off, 3)) (ht : (pc : Int) + off = (tgt : Int)) (hkt : en_S G Y d w w' K kt tgt) (hkf : en_S G Y d w w' K kf (pc + 3)) : en_S G Y d w w' K (o_ifle kt kf) pc := by
  intro ls st hi hl hr uc us h
  unfold o_ifle at h
  split at h
  next x r =>
    intro p e R s m args below meth c Q xc xs hC H locs cells slots rl h1 h2 h3 h4 h5 h6
    exact lv_if_le hC.1.1 hC.1.2.1 hd ht (fun q => hkt _ _ _ _ _ _ _ (h.1 q) p e R s m args below meth c Q xc xs hC H locs cells slots rl h1 h2 h3 h4 h5 h6) (fun q => hkf _ _ _ _ _ _ _ (h.2 q) p e R s m args below meth c Q xc xs hC H locs cells slots rl h1 h2 h3 h4 h5 h6)
  next => exact h.elim
def o_iceq (kt kf : en_Kont) : en_Kont := fun ls st hi hl hr uc us => match st with
  | .int y :: .int x :: r => (x = y → kt ls r hi hl hr uc us) ∧ (¬ x = y → kf ls r hi hl hr uc us)
  | _ => False
theorem oe_iceq {x y : Int32} {r : List Value} : o_iceq kt kf ls (.int y :: .int x :: r) hi hl hr uc us = ((x = y → kt ls r hi hl hr uc us) ∧ (¬ x = y → kf ls r hi hl hr uc us)) := rfl
theorem sn_iceq {off : Int} {tgt : Nat} (hd : decode Y.2.1 pc = .ok (.if_icmp .eq off, 3)) (ht : (pc : Int) + off = (tgt : Int)) (hkt : en_S G Y d w w' K kt tgt) (hkf : en_S G Y d w w' K kf (pc + 3)) : en_S G Y d w w' K (o_iceq kt kf) pc := by
  intro ls st hi hl hr uc us h
  unfold o_iceq at h
  split at h
  next y x r =>
    intro p e R s m args below meth c Q xc xs hC H locs cells slots rl h1 h2 h3 h4 h5 h6
    exact lv_icmp_eq hC.1.1 hC.1.2.1 hd ht (fun q => hkt _ _ _ _ _ _ _ (h.1 q) p e R s m args below meth c Q xc xs hC H locs cells slots rl h1 h2 h3 h4 h5 h6) (fun q => hkf _ _ _ _ _ _ _ (h.2 q) p e R s m args below meth c Q xc xs hC H locs cells slots rl h1 h2 h3 h4 h5 h6)
  next => exact h.elim
def o_icne (kt kf : en_Kont) : en_Kont := fun ls st hi hl hr uc us => match st with
  | .int y :: .int x :: r => (¬ x = y → kt ls r hi hl hr uc us) ∧ (x = y → kf ls r hi hl hr uc us)
  | _ => False
theorem oe_icne {x y : Int32} {r : List Value} : o_icne kt kf ls (.int y :: .int x :: r) hi hl hr uc us = ((¬ x = y → kt ls r hi hl hr uc us) ∧ (x = y → kf ls r hi hl hr uc us)) := rfl
theorem sn_icne {off : Int} {tgt : Nat} (hd : decode Y.2.1 pc = .ok (.if_icmp .ne off, 3)) (ht : (pc : Int) + off = (tgt : Int)) (hkt : en_S G Y d w w' K kt tgt) (hkf : en_S G Y d w w' K kf (pc + 3)) : en_S G Y d w w' K (o_icne kt kf) pc := by
  intro ls st hi hl hr uc us h
  unfold o_icne at h
  split at h
  next y x r =>
    intro p e R s m args below meth c Q xc xs hC H locs cells slots rl h1 h2 h3 h4 h5 h6
    exact lv_icmp_ne hC.1.1 hC.1.2.1 hd ht (fun q => hkt _ _ _ _ _ _ _ (h.1 q) p e R s m args below meth c Q xc xs hC H locs cells slots rl h1 h2 h3 h4 h5 h6) (fun q => hkf _ _ _ _ _ _ _ (h.2 q) p e R s m args below meth c Q xc xs hC H locs cells slots rl h1 h2 h3 h4 h5 h6)
  next => exact h.elim
def o_iclt (kt kf : en_Kont) : en_Kont := fun ls st hi hl hr uc us => match st with
  | .int y :: .int x :: r => (x < y → kt ls r hi hl hr uc us) ∧ (¬ x < y → kf ls r hi hl hr uc us)
  | _ => False
theorem oe_iclt {x y : Int32} {r : List Value} : o_iclt kt kf ls (.int y :: .int x :: r) hi hl hr uc us = ((x < y → kt ls r hi hl hr uc us) ∧ (¬ x < y → kf ls r hi hl hr uc us)) := rfl
theorem sn_iclt {off : Int} {tgt : Nat} (hd : decode Y.2.1 pc = .ok (.if_icmp .lt off, 3)) (ht : (pc : Int) + off = (tgt : Int)) (hkt : en_S G Y d w w' K kt tgt) (hkf : en_S G Y d w w' K kf (pc + 3)) : en_S G Y d w w' K (o_iclt kt kf) pc := by
  intro ls st hi hl hr uc us h
  unfold o_iclt at h
  split at h
  next y x r =>
    intro p e R s m args below meth c Q xc xs hC H locs cells slots rl h1 h2 h3 h4 h5 h6
    exact lv_icmp_lt hC.1.1 hC.1.2.1 hd ht (fun q => hkt _ _ _ _ _ _ _ (h.1 q) p e R s m args below meth c Q xc xs hC H locs cells slots rl h1 h2 h3 h4 h5 h6) (fun q => hkf _ _ _ _ _ _ _ (h.2 q) p e R s m args below meth c Q xc xs hC H locs cells slots rl h1 h2 h3 h4 h5 h6)
  next => exact h.elim
def o_icge (kt kf : en_Kont) : en_Kont := fun ls st hi hl hr uc us => match st with
  | .int y :: .int x :: r => (y ≤ x → kt ls r hi hl hr uc us) ∧ (¬ y ≤ x → kf ls r hi hl hr uc us)
  | _ => False
theorem oe_icge {x y : Int32} {r : List Value} : o_icge kt kf ls (.int y :: .int x :: r) hi hl hr uc us = ((y ≤ x → kt ls r hi hl hr uc us) ∧ (¬ y ≤ x → kf ls r hi hl hr uc us)) := rfl
theorem sn_icge {off : Int} {tgt : Nat} (hd : decode Y.2.1 pc = .ok (.if_icmp .ge off, 3)) (ht : (pc : Int) + off = (tgt : Int)) (hkt : en_S G Y d w w' K kt tgt) (hkf : en_S G Y d w w' K kf (pc + 3)) : en_S G Y d w w' K (o_icge kt kf) pc := by
  intro ls st hi hl hr uc us h
  unfold o_icge at h
  split at h
  next y x r =>
    intro p e R s m args below meth c Q xc xs hC H locs cells slots rl h1 h2 h3 h4 h5 h6
    exact lv_icmp_ge hC.1.1 hC.1.2.1 hd ht (fun q => hkt _ _ _ _ _ _ _ (h.1 q) p e R s m args below meth c Q xc xs hC H locs cells slots rl h1 h2 h3 h4 h5 h6) (fun q => hkf _ _ _ _ _ _ _ (h.2 q) p e R s m args below meth c Q xc xs hC H locs cells slots rl h1 h2 h3 h4 h5 h6)
  next => exact h.elim
def o_icgt (kt kf : en_Kont) : en_Kont := fun ls st hi hl hr uc us => match st with
  | .int y :: .int x :: r => (y < x → kt ls r hi hl hr uc us) ∧ (¬ y < x → kf ls r hi hl hr uc us)
  | _ => False
theorem oe_icgt {x y : Int32} {r : List Value} : o_icgt kt kf ls (.int y :: .int x :: r) hi hl hr uc us = ((y < x → kt ls r hi hl hr uc us) ∧ (¬ y < x → kf ls r hi hl hr uc us)) := rfl
theorem sn_icgt {off : Int} {tgt : Nat} (hd : decode Y.2.1 pc = .ok (.if_icmp .gt off, 3)) (ht : (pc : Int) + off = (tgt : Int)) (hkt : en_S G Y d w w' K kt tgt) (hkf : en_S G Y d w w' K kf (pc + 3)) : en_S G Y d w w' K (o_icgt kt kf) pc := by
  intro ls st hi hl hr uc us h
  unfold o_icgt at h
  split at h
  next y x r =>
    intro p e R s m args below meth c Q xc xs hC H locs cells slots rl h1 h2 h3 h4 h5 h6
    exact lv_icmp_gt hC.1.1 hC.1.2.1 hd ht (fun q => hkt _ _ _ _ _ _ _ (h.1 q) p e R s m args below meth c Q xc xs hC H locs cells slots rl h1 h2 h3 h4 h5 h6) (fun q => hkf _ _ _ _ _ _ _ (h.2 q) p e R s m args below meth c Q xc xs hC H locs cells slots rl h1 h2 h3 h4 h5 h6)
  next => exact h.elim
def o_icle (kt kf : en_Kont) : en_Kont := fun ls st hi hl hr uc us => match st with
  | .int y :: .int x :: r => (x ≤ y → kt ls r hi hl hr uc us) ∧ (¬ x ≤ y → kf ls r hi hl hr uc us)
  | _ => False
theorem oe_icle {x y : Int32} {r : List Value} : o_icle kt kf ls (.int y :: .int x :: r) hi hl hr uc us = ((x ≤ y → kt ls r hi hl hr uc us) ∧ (¬ x ≤ y → kf ls r hi hl hr uc us)) := rfl
theorem sn_icle {off : Int} {tgt : Nat} (hd : decode Y.2.1 pc = .ok (.if_icmp .le off, 3)) (ht : (pc : Int) + off = (tgt : Int)) (hkt : en_S G Y d w w' K kt tgt) (hkf : en_S G Y d w w' K kf (pc + 3)) : en_S G Y d w w' K (o_icle kt kf) pc := by
  intro ls st hi hl hr uc us h
  unfold o_icle at h
  split at h
  next y x r =>
    intro p e R s m args below meth c Q xc xs hC H locs cells slots rl h1 h2 h3 h4 h5 h6
    exact lv_icmp_le hC.1.1 hC.1.2.1 hd ht (fun q => hkt _ _ _ _ _ _ _ (h.1 q) p e R s m args below meth c Q xc xs hC H locs cells slots rl h1 h2 h3 h4 h5 h6) (fun q => hkf _ _ _ _ _ _ _ (h.2 q) p e R s m args below meth c Q xc xs hC H locs cells slots rl h1 h2 h3 h4 h5 h6)
  next => exact h.elim
def o_tsw (lo : Int) (ks : List en_Kont) (kd : en_Kont) : en_Kont := fun ls st hi hl hr uc us => match st with
  | .int x :: r => (x.toInt < lo ∨ lo + ks.length ≤ x.toInt → kd ls r hi hl hr uc us) ∧ ∀ (j : Nat) (k : en_Kont), ks[j]? = some k → x.toInt = lo + j → k ls r hi hl hr uc us
  | _ => False
theorem oe_tsw {lo : Int} {ks : List en_Kont} {kd : en_Kont} {x : Int32} {r : List Value} : o_tsw lo ks kd ls (.int x :: r) hi hl hr uc us = ((x.toInt < lo ∨ lo + ks.length ≤ x.toInt → kd ls r hi hl hr uc us) ∧ ∀ (j : Nat) (k : en_Kont), ks[j]? = some k → x.toInt = lo + j → k ls r hi hl hr uc us) := rfl
theorem sn_tsw {dflt lo hh : Int} {offs : Array Int} {len : Nat} {ks : List en_Kont} {kd : en_Kont} {td : Nat} (tg : Nat → Nat) (hd : decode Y.2.1 pc = .ok (.tableswitch dflt lo hh offs, len)) (hlen : hh + 1 = lo + ks.length) (htd : (pc : Int) + dflt = (td : Int)) (hto : ∀ j : Nat, j < ks.length → ∃ off, offs[j]? = some off ∧ (pc : Int) + off = (tg j : Int)) (hkd : en_S G Y d w w' K kd td) (hks : ∀ (j : Nat) (k : en_Kont), ks[j]? = some k → en_S G Y d w w' K k (tg j)) : en_S G Y d w w' K (o_tsw lo ks kd) pc := by
  intro ls st hi hl hr uc us h
  unfold o_tsw at h
  split at h
  next x r =>
    intro p e R s m args below meth c Q xc xs hC H locs cells slots rl h1 h2 h3 h4 h5 h6
    by_cases hq : x.toInt < lo ∨ hh < x.toInt
    · exact lv_tableOut hC.1.1 hC.1.2.1 hd hq htd (hkd _ _ _ _ _ _ _ (h.1 (by rcases hq with q | q <;> omega)) p e R s m args below meth c Q xc xs hC H locs cells slots rl h1 h2 h3 h4 h5 h6)
    · have hj : (x.toInt - lo).toNat < ks.length := by omega
      obtain ⟨off, o1, o2⟩ := hto _ hj
      exact lv_tableIn hC.1.1 hC.1.2.1 hd (by omega) (by omega) o1 o2 (hks _ _ (List.getElem?_eq_getElem hj) _ _ _ _ _ _ _ (h.2 _ _ (List.getElem?_eq_getElem hj) (by omega)) p e R s m args below meth c Q xc xs hC H locs cells slots rl h1 h2 h3 h4 h5 h6)
  next => exact h.elim
end
