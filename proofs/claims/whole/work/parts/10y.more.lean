section
variable {l : Launch}
theorem vy_ofWF {y : MethodName} {ws ws' : List Cond} {rm : Room} {Pc : Array Value → State → Prop} {Qc : Array Value → State → Outcome → State → Prop} {XC : String → State → State → Prop} {mc ms : Nat} {free : Addr → Prop} {cc : ByteArray} {maxL : Nat} {ret : Option FieldType}
    (hy : plainFor y = true) (hw : ws = Cond.code y cc maxL ret :: ws')
    (body : ∀ p e s m args below meth c s₁, BodyLoose p l y (headSpec ws rm) cc maxL ret e s m args below meth c s₁ → c.maxLocals = maxL → (∀ x ∈ c.exceptionTable.toList, False) → Pc args s →
      W p l e (headSpec ws rm).room s m args below meth c s.heap [] 0 0 (vx_MQ below Qc XC args s mc ms free) (entryFrame m args maxL)) : vx_Met l y ws rm Pc Qc XC mc ms free := by
  refine MetFree.of_bodySF (code := cc) (maxLocals := maxL) (ret := ret) hy ?_ ?_
  · intro args s m h hn
    obtain ⟨meth, c, h1, h2, h3, h4, h5, h6, -, -⟩ := Cond.code_spec hn (atoms_spec (ws := ws) h _ (by rw [hw]; exact List.mem_cons_self))
    exact ⟨meth, c, h1, h2, h3, h4, h5, h6⟩
  · intro p e s m args below meth c s₁ B hml hP _
    have hh0 : s₁.heap = s.heap := by rw [B.state]; rfl
    have ht : ∀ x ∈ c.exceptionTable.toList, False := by
      obtain ⟨meth9, c9, h1, h2, -, -, -, -, h7, -⟩ := Cond.code_spec B.named (atoms_spec (ws := ws) B.pre _ (by rw [hw]; exact List.mem_cons_self))
      cases Option.some.inj (h1.symm.trans B.method)
      cases Option.some.inj (h2.symm.trans (Stand.of_body B).code)
      intro x hx
      rw [Array.isEmpty_iff.mp h7] at hx
      cases hx
    obtain ⟨t, a1, o, b1, b2, b3⟩ := body p e s m args below meth c s₁ B hml ht hP s₁ hh0 (Stand.of_body B)
    exact ⟨t, o, a1, b1, b2, b3⟩
end
section
variable {G : en_G} {Y : en_Y} {d : Nat} {w w' w1 : en_Wd} {K : en_K} {k kt kf : en_Kont} {pc : Nat} {ls st : List Value} {hi : en_I} {hl : en_L} {hr : en_F} {uc us : Nat}
theorem en_ofF {xc xs : Nat} {as : List Value} (hy : plainFor Y.1 = true) (hh : Y.2.2.2.2 = []) (hlen : (en_ent as).length ≤ Y.2.2.1)
    (h : en_V G Y d w w' K 0 (en_pad Y.2.2.1 (en_ent as)) [] hi hl hr xc xs) : en_Call G d xc xs Y w w' as hi hl hr K := by
  intro hst
  refine vy_ofWF (cc := Y.2.1) (maxL := Y.2.2.1) (ret := Y.2.2.2.1) (ws' := en_T) hy (by unfold en_wsY; rw [hh]) ?_
  intro p e s m args below meth c s₁ B hml htab hv
  obtain ⟨rfl, hR, hsz⟩ := hv
  have hts := atoms_spec (ws := en_wsY Y) B.pre
  have hp := h p e (en_rm d xc xs) s m (as.map (en_tr G)).toArray below meth c _ xc xs ⟨⟨B.exec, B.bytes, hml, B.returns, findClass_of_methodNamed B.named, fun w0 hw => hts w0 (by unfold en_wsY; exact List.mem_cons_of_mem _ hw), (name_of_methodNamed B.named B.method).1, B.notSynchronized, ?_, hst⟩, ⟨Nat.le_refl _, Nat.le_refl _, Nat.le_refl _, Nat.le_refl _, Nat.le_trans (Nat.le_add_right _ _) hR.2.2.1⟩, Or.inl rfl⟩ s.heap [] 0 0 _ (en_lr_ent hR.2.2.2.2 hlen) hR va_S.rf (by omega) (by omega) (fun e9 => by have := hsz e9; omega)
  · rw [lg_entry_eq]
    exact hp
  · rw [hh]
    exact List.eq_nil_iff_forall_not_mem.mpr fun x hx => htab x hx
theorem en_sw_dec {ks : List en_Kont} {offs : Array Int} {pc : Nat} {tg : Nat → Nat} (n : Nat) (hn : ks.length = n) (h : (List.range n).all (fun j => match offs[j]? with
    | some off => decide ((pc : Int) + off = (tg j : Int))
    | none => false) = true) : ∀ j : Nat, j < ks.length → ∃ off, offs[j]? = some off ∧ (pc : Int) + off = (tg j : Int) := by
  intro j hj
  rw [hn] at hj
  have := List.all_eq_true.mp h j (List.mem_range.mpr hj)
  cases e : offs[j]? with
  | none => rw [e] at this; cases this
  | some off => rw [e] at this; exact ⟨off, rfl, of_decide_eq_true this⟩
theorem en_han1 {E : String} {n : Nat} {z : ExceptionTableEntry} (h : Nat) (hz : z.handlerPc = h) (hn : n < Y.2.2.1) {f : Fin 4} (hf : (f : Nat) = n) (hd : decode Y.2.1 h = .ok (.astore_n f, 1)) (hk : en_S G Y d w w' K k (h + 1)) : en_Han G Y d w w' K (E, n, k) z.handlerPc := by rw [hz]; exact ⟨hn, Or.inl ⟨f, hf, hd, hk⟩⟩
theorem en_han2 {E : String} {n : Nat} {z : ExceptionTableEntry} (h : Nat) (hz : z.handlerPc = h) (hn : n < Y.2.2.1) (hd : decode Y.2.1 h = .ok (.astore n, 2)) (hk : en_S G Y d w w' K k (h + 2)) : en_Han G Y d w w' K (E, n, k) z.handlerPc := by rw [hz]; exact ⟨hn, Or.inr ⟨hd, hk⟩⟩
def en_four : List String := ["java/lang/IndexOutOfBoundsException", "java/util/NoSuchElementException", "java/lang/IllegalArgumentException", "java/lang/IllegalStateException"]
theorem en_nc_all : ∀ a ∈ en_four, ∀ b ∈ en_four, a ≠ b → (a, b) ∈ en_nc := by decide +kernel
theorem en_nc_of {ns : List String} (h : ns.all (fun a => en_four.contains a) = true) : ∀ a ∈ ns, ∀ b ∈ ns, a ≠ b → (a, b) ∈ en_nc := fun a ha b hb hne => en_nc_all a (by have := List.all_eq_true.mp h a ha; simpa using this) b (by have := List.all_eq_true.mp h b hb; simpa using this) hne
end
