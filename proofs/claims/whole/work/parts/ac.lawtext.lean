/-! the call law of the class -/
def Vn (V : lV3) : Nat → (Nat → Int) → Int := fun w nm => match V w with
  | some s => (s (fun j => iI (nm j))).toInt
  | none => 0
def zTx (W : zW) (fa : Int) : zW := (W.1, W.2.1, W.2.2.1, W.2.2.2.1, W.2.2.2.2.1, (0, zTp W), fa, zRf W)
def zAl (W : zW) (V : Nat → (Nat → Int) → Int) : zW := (W.1, (zNl W + 1, fun j => if j = zNl W then V else zVs W j), W.2.2)
def zAy (W : zW) (n : Nat) (Y : hYr) : zW := (W.1, W.2.1, (zNy W + 1, fun j => if j = zNy W then (n, Y) else zYs W j), W.2.2.2)
def lwR0 (W : zW) (n : Nat) : (Nat × Nat) ⊕ lV3 := lwF (zTp W, n) 4 (skE (zTp W, n) 0) (fun _ => none)
def lawW (W : zW) (n : Nat) : zW := if zNl W = 4 then zTx W (-1) else match lwR0 W n with
  | .inl e => zTx W (e.2 : Int)
  | .inr V => zAl (zTx W (-1)) (Vn V)
def lawA (W : zW) (n : Nat) : Int := if zNl W = 4 then -1 else match lwR0 W n with
  | .inl e => (e.1 : Int) - 10
  | .inr _ => zNl W
theorem Vn_rg (V : lV3) (w : Nat) (nm : Nat → Int) : -2147483648 ≤ Vn V w nm ∧ Vn V w nm < 2147483648 := by
  unfold Vn
  split
  · exact i_rg _
  · decide
theorem zOK.tx {W : zW} {n : Nat} {fa : Int} (h : zOK n W) : zOK (n + 1) (zTx W fa) := by
  obtain ⟨h1, h2, h3, h4, h5, h6, h7, h8, h9, h10, h11⟩ := h.mono (Nat.le_succ n)
  exact ⟨⟨Nat.zero_le _, fun j hj => absurd hj (Nat.not_lt_zero _)⟩, h2, h3, h4, h5, h6, h7, h8, h9, h10, h11⟩
theorem zOK.al {W : zW} {n : Nat} {V : Nat → (Nat → Int) → Int} (h : zOK n W) (h4 : zNl W < 4) (hV : ∀ w nm, -2147483648 ≤ V w nm ∧ V w nm < 2147483648) : zOK n (zAl W V) := by
  obtain ⟨h1, h2, h3, h4, h5, h6, h7, h8, h9, h10, h11⟩ := h
  refine ⟨h1, by show zNl W + 1 ≤ 4; omega, h3, h4, fun i hi w nm => ?_, h6, h7, h8, h9, h10, h11⟩
  show -2147483648 ≤ (if i = zNl W then V else zVs W i) w nm ∧ (if i = zNl W then V else zVs W i) w nm < 2147483648
  by_cases e : i = zNl W
  · rw [if_pos e]; exact hV w nm
  · rw [if_neg e]; exact h5 i (by have : i < zNl W + 1 := hi; omega) w nm
theorem zOK.law {W : zW} {n m : Nat} (h : zOK n W) : zOK (n + 1) (lawW W m) := by
  unfold lawW
  by_cases e : zNl W = 4
  · rw [if_pos e]; exact h.tx
  · rw [if_neg e]
    have := h.2.1
    split
    · exact h.tx
    · exact (h.tx).al (by show zNl W < 4; omega) (Vn_rg _)
section
variable {G : en_G} {d : Nat} {K : en_K} {W : zW} {n L : Nat} {V : lV3} {hi : en_I} {hl : en_L} {hr : en_F} {xc xs : Nat}
theorem lwV.same {U : Nat → (Nat → Int) → Int} {hi' : en_I} (h : lwV G L U hi) (e0 : hi' L = hi L) (e1 : hi' (L + 1) = hi (L + 1)) (e2 : hi' (L + 2) = hi (L + 2)) (e3 : hi' (L + 3) = hi (L + 3)) : lwV G L U hi' := by
  intro h2 hl hr K d xc xs w nm g0 g1 g2 g3
  rw [e0] at g0
  rw [e1] at g1
  rw [e2] at g2
  rw [e3] at g3
  exact h h2 hl hr K d xc xs w nm g0 g1 g2 g3
theorem t_value0 {w : Nat} (hL : isLw L) (hLR : lwR L hr) (hw : w < 3) (hA : hi (L + 2) w = iI 0) (hB : hi (L + 3) w = iI 0) (H : K (.inl (some (.int (iI 0)))) hi hl hr) : en_Call G (d + 2) xc xs Y_X1_value wN wN [.ref L, .int (iI (w : Int)), .ref 35, .ref 36] hi hl hr K := by
  obtain ⟨s0, s1, s2, s3, s4, s5⟩ := hL.s6
  have q0 : L < 134 := by omega
  have q2 : L + 2 < 134 := by omega
  have q3 : L + 3 < 134 := by omega
  obtain ⟨r0, r1, r2⟩ := hLR
  apply en_X1_value
  simp (disch := omega) only [B_X1_value_0, s0, s2, s3, q0, q2, q3, r1, r2, en_ops, en_opc, iI_add, iI_mul, iI_sub, jL_add, jL_mul, iI_le, iI_lt, iI_eq, iI_eq0, iI_lt0, iI_0le, iI_le0, iI_0lt, jL_iI, iI_jL, lc_eq, lc_lt, lc_le, lc_ge, lc_gt, Nat.sub_zero, Nat.zero_le, true_and, and_true, Nat.reduceAdd, Nat.reduceLeDiff]
  refine ⟨w, rfl, hw, w, rfl, hw, ?_⟩
  rw [hA, hB]
  apply s_X1_value_19
  simp (disch := omega) only [B_X1_value_19, en_ops, en_opc, iI_add, iI_mul, iI_sub, jL_add, jL_mul, iI_le, iI_lt, iI_eq, iI_eq0, iI_lt0, iI_0le, iI_le0, iI_0lt, jL_iI, iI_jL, lc_eq, lc_lt, lc_le, lc_ge, lc_gt, Nat.sub_zero, Nat.zero_le, true_and, and_true, Nat.reduceAdd, Nat.reduceLeDiff]
  exact ⟨fun _ => ⟨fun _ => H, fun g => absurd (Int.le_refl _) g⟩, fun g => absurd (Int.le_refl _) g⟩
/-- a law that was read says what its text says -/
theorem lwV.of (hL : isLw L) (h : ruH L V 600 hi) : lwV G L (Vn V) hi := by
  intro hi' hl hr K d xc xs w nm e0 e1 e2 e3 hw hN hLR H
  obtain ⟨v1, v2⟩ := h w hw
  rcases hv : V w with _ | s
  · obtain ⟨a, b⟩ := v1 hv
    refine t_value0 hL hLR hw (by rw [e2]; exact a) (by rw [e3]; exact b) ?_
    have := H hi' Fr.rf
    rw [show Vn V w nm = 0 by unfold Vn; rw [hv]] at this
    exact this
  · obtain ⟨A, B, c1, c2, c3, c4, c5⟩ := v2 s hv
    obtain ⟨k, S', r1, r2, -⟩ := c5 (hi (L + 1)) (fun j _ _ => rfl) (fun j => iI (nm j)) 0 (hi' 36) B (by decide) (Nat.le_refl _)
    rw [← e1] at r1
    refine t_value (k := k) (S' := S') (nm := nm) hL hLR hw (by rw [e2]; exact c3) (by rw [e3]; exact c4) c2 hN r1 (fun h9 F9 => ?_)
    have := H h9 F9
    rw [show Vn V w nm = (s (fun j => iI (nm j))).toInt by unfold Vn; rw [hv], i_of, ← r2] at this
    exact this
theorem sxH.fr0 {pl : Nat} {E : hEnv} {hi' : en_I} (h : sxH pl E hi) (hpl : isPl pl) (ee : ∀ x, (2 ≤ x ∧ x < 14) ∨ x = 37 → hi' x = hi x) : sxH pl E hi' := by
  have p2 : 2 ≤ pl ∧ pl + 5 < 14 := by rcases hpl with rfl | rfl <;> decide
  obtain ⟨⟨z0, z1, z2⟩, ⟨v0, v1, v2⟩, x3⟩ := h
  exact ⟨⟨by rw [ee pl (by omega)]; exact z0, z1, fun i hi9 => by rw [ee (pl + 4) (by omega)]; exact z2 i hi9⟩, ⟨by rw [ee pl (by omega)]; exact v0, v1, fun i hi9 => by rw [ee (pl + 5) (by omega)]; exact v2 i hi9⟩, fun c z k hc hz hk => by rw [ee 37 (by omega)]; exact x3 c z k hc hz hk⟩
/-- what a text's call may touch -/
def Ptx (x : Nat) : Prop := x = 0 ∨ x = 26 ∨ x = 28 ∨ x = 29 ∨ (50 ≤ x ∧ x < 86)
theorem cIn.txt {W' : zW} {pl : Nat} {hi' : en_I} (h : cIn G W pl hi) (hz : zOK n W) (hpl : isPl pl) (q1 : zE W' = zE W) (q2 : zS W' = zS W) (q3 : zNi W' = zNi W) (q4 : zIm W' = zIm W) (q5 : zRf W' = zRf W) (F : Fr Ptx hi hi') (f11 : hi' 0 11 = hi 0 11) (tp : hi' 0 1 = iI (zNt W' : Int) ∧ ∀ j, j < zNt W' → hi' 1 j = iI (sbB (zTp W' j))) (fa : hi' 0 2 = iI (zFa W')) (nl : hi' 0 6 = iI (zNl W' : Int)) (ny : hi' 0 8 = iI (zNy W' : Int)) (lw : lwA G (zNl W') (zVs W') hi') (ye : ∀ y, y < zNy W' → yeH (66 + 5 * y) (zYs W' y).1 (zYs W' y).2 hi') : cIn G W' pl hi' := by
  obtain ⟨a1, a3, a4, a5, a6, a7, a8, a9, a10, a11, a12⟩ := h
  have z4 := hz.2.2.2.1
  have ee : ∀ x, ¬ Ptx x → hi' x = hi x := fun x g => F x g
  refine ⟨tp, fa, nl, ny, by rw [q3, f11]; exact a6, fun k hk => by rw [q5, ee 25 (by unfold Ptx; omega)]; exact a7 k hk, lw, ye, ?_, ?_, fun i hi9 => ?_⟩
  · rw [q1]; exact a10.fr0 hpl (fun x g => ee x (by unfold Ptx; omega))
  · rw [q1, q2]; exact a11.frP F (fun x g1 g2 => by unfold Ptx; omega)
  · rw [q1, q4]
    rw [q3] at hi9
    exact (a12 i hi9).frP F (fun x g1 g2 => by unfold Ptx; omega)
theorem cR.fx {pl : Nat} {hr' : en_F} (h : cR pl hr) (F : Fx (fun a j => a = 26 ∨ (a = 29 ∧ j = 1)) hr hr') : cR pl hr' := by
  have e : ∀ a j, a ≠ 26 → a ≠ 29 ∨ j ≠ 1 → hr' a j = hr a j := fun a j g1 g2 => F a j (by omega)
  have p2 : pl < 14 := by
    have g : isPl pl := h.2.1.2.2.1
    rcases g with rfl | rfl <;> decide
  unfold cR sxS seR plR trR shR lwX lwR yeR at h ⊢
  simp (disch := omega) only [e]
  exact h
theorem t_readLaw {m : Nat} {Tb : Nat → Nat} (hL : isLw L) (hLR : lwR L hr) (h29 : hr 29 0 = .ref 26) (hT : m ≤ 600 ∧ ∀ j, j < m → Tb j < 256 ∧ hi 1 j = iI (sbB (Tb j)))
    (H1 : ∀ V, lwF (Tb, m) 4 (skE (Tb, m) 0) (fun _ => none) = .inr V → ∀ hi', hi' 26 8 = iI (-1) → Fx (fun a j => a = 26 ∨ ruP L a j) hi hi' → ruH L V 600 hi' → K (.inl (some (.int (iI 0)))) hi' hl (en_up (en_up hr 29 1 (.ref L)) 26 0 (.ref 1)))
    (H2 : ∀ k pl : Nat, lwF (Tb, m) 4 (skE (Tb, m) 0) (fun _ => none) = .inl (k, pl) → ∀ hi', (1 ≤ k ∧ k ≤ 4 ∧ pl ≤ 600) → hi' 26 8 = iI (pl : Int) → Fx (fun a j => a = 26 ∨ ruP L a j) hi hi' → K (.inl (some (.int (iI (k : Int))))) hi' hl (en_up (en_up hr 29 1 (.ref L)) 26 0 (.ref 1))) :
    en_Call G (d + 61) xc xs Y_X2_readLaw wN wN [.ref 29, .ref 1, .int (iI (m : Int)), .ref L] hi hl hr K := by
  obtain ⟨s0, s1, s2, s3, s4, s5⟩ := hL.s6
  have q0 : L < 134 := by omega
  have q2 : L + 2 < 134 := by omega
  have q3 : L + 3 < 134 := by omega
  obtain ⟨x1, x2, x3⟩ := id hLR
  have y1 : en_up hr 29 1 (.ref L) L 2 = .ref (L + 2) := by rw [up_ne (Or.inl (by omega))]; exact x2
  have y2 : en_up hr 29 1 (.ref L) L 3 = .ref (L + 3) := by rw [up_ne (Or.inl (by omega))]; exact x3
  have y3 : en_up hr 29 1 (.ref L) 29 1 = .ref L := up_at
  have y4 : en_up hr 29 1 (.ref L) 29 0 = .ref 26 := by rw [up_ne (Or.inr (by decide))]; exact h29
  apply en_X2_readLaw
  simp (disch := omega) only [B_X2_readLaw_0, sh29, lt29, sh26, lt26, y3, s0, q0, en_ops, en_opc, iI_add, iI_mul, iI_sub, jL_add, jL_mul, iI_le, iI_lt, iI_eq, iI_eq0, iI_lt0, iI_0le, iI_le0, iI_0lt, jL_iI, iI_jL, lc_eq, lc_lt, lc_le, lc_ge, lc_gt, Nat.sub_zero, Nat.zero_le, true_and, and_true, Nat.reduceAdd, Nat.reduceLeDiff]
  apply en_X1_clear
  simp (disch := omega) only [B_X1_clear_0, s0, s2, s3, q0, q2, q3, y1, y2, en_ops, en_opc, iI_add, iI_mul, iI_sub, jL_add, jL_mul, iI_le, iI_lt, iI_eq, iI_eq0, iI_lt0, iI_0le, iI_le0, iI_0lt, jL_iI, iI_jL, lc_eq, lc_lt, lc_le, lc_ge, lc_gt, Nat.sub_zero, Nat.zero_le, true_and, and_true, Nat.reduceAdd, Nat.reduceLeDiff]
  refine t_fill (d := d + 58) (by rw [s2]) q2 (by rw [s2]; decide) (fun h1 F1 e1 => ?_)
  rw [s2] at e1
  simp (disch := omega) only [s0, s2, s3, q0, q2, q3, y1, y2, en_ops, en_opc, iI_add, iI_mul, iI_sub, jL_add, jL_mul, iI_le, iI_lt, iI_eq, iI_eq0, iI_lt0, iI_0le, iI_le0, iI_0lt, jL_iI, iI_jL, lc_eq, lc_lt, lc_le, lc_ge, lc_gt, Nat.sub_zero, Nat.zero_le, true_and, and_true, Nat.reduceAdd, Nat.reduceLeDiff]
  refine t_fill (d := d + 58) (by rw [s3]) q3 (by rw [s3]; decide) (fun h2 F2 e2 => ?_)
  rw [s3] at e2
  simp (disch := omega) only [sh29, lt29, sh26, lt26, y3, y4, en_ops, en_opc, iI_add, iI_mul, iI_sub, jL_add, jL_mul, iI_le, iI_lt, iI_eq, iI_eq0, iI_lt0, iI_0le, iI_le0, iI_0lt, jL_iI, iI_jL, lc_eq, lc_lt, lc_le, lc_ge, lc_gt, Nat.sub_zero, Nat.zero_le, true_and, and_true, Nat.reduceAdd, Nat.reduceLeDiff]
  have FA : Fx (fun a j => a = 26 ∨ ruP L a j) hi (en_up (en_up h2 29 2 (iI 0)) 29 3 (iI 0)) := by
    intro a j hj
    unfold ruP at hj
    have g29 : a ≠ 29 ∨ (j ≠ 2 ∧ j ≠ 3) := by omega
    rw [up_ne (by omega), up_ne (by omega), F2 a (by omega), F1 a (by omega), up_ne (by omega)]
  have HH : m ≤ 600 ∧ ∀ j, j < m → Tb j < 256 ∧ (en_up (en_up h2 29 2 (iI 0)) 29 3 (iI 0)) 1 j = iI (sbB (Tb j)) := ⟨hT.1, fun j hj => ⟨(hT.2 j hj).1, by rw [FA 1 j (by unfold ruP; omega)]; exact (hT.2 j hj).2⟩⟩
  refine t_open (d := d + 57) HH (fun h3 F3 X3 T3 => ?_)
  simp (disch := omega) only [en_ops, en_opc, iI_add, iI_mul, iI_sub, jL_add, jL_mul, iI_le, iI_lt, iI_eq, iI_eq0, iI_lt0, iI_0le, iI_le0, iI_0lt, jL_iI, iI_jL, lc_eq, lc_lt, lc_le, lc_ge, lc_gt, Nat.sub_zero, Nat.zero_le, true_and, and_true, Nat.reduceAdd, Nat.reduceLeDiff]
  have Rf : lgR L (en_up (en_up hr 29 1 (.ref L)) 26 0 (.ref 1)) := ⟨by rw [up_ne (Or.inl (by decide))]; exact y4, by rw [up_ne (Or.inl (by decide))]; exact y3, up_at, ⟨by rw [up_ne (Or.inl (by omega)), up_ne (Or.inl (by omega))]; exact x1, by rw [up_ne (Or.inl (by omega))]; exact y1, by rw [up_ne (Or.inl (by omega))]; exact y2⟩, hL⟩
  have FB : Fx (fun a j => a = 26 ∨ ruP L a j) hi h3 := FA.tr (F3.mono (fun a j g => Or.inl g))
  refine v_law34 Rf 4 0 (skE (Tb, m) 0) 0 (fun _ => none) h3 rfl rfl ⟨X3, T3, ?_, ?_, Nat.zero_le _⟩ (fun w hw => ⟨fun _ => ⟨?_, ?_⟩, fun s e => by cases e⟩) ⟨0, ?_, fun k hk => by simp⟩ ⟨fun V e h4 e8 F4 R4 => H1 V e h4 e8 (FB.tr (F4.mono (fun a j g => Or.inr g))) R4, fun k pl e h4 bb e8 F4 => H2 k pl e h4 bb e8 (FB.tr (F4.mono (fun a j g => Or.inr g)))⟩
  · rw [F3 29 2 (by decide), up_ne (Or.inr (by decide)), up_at]; rfl
  · rw [F3 L 1 (by omega), up_ne (Or.inl (by omega)), up_ne (Or.inl (by omega)), F2 L (by omega), F1 L (by omega), up_at]; rfl
  · rw [F3 (L + 2) w (by omega), up_ne (Or.inl (by omega)), up_ne (Or.inl (by omega)), F2 (L + 2) (by omega)]; exact e1 w hw
  · rw [F3 (L + 3) w (by omega), up_ne (Or.inl (by omega)), up_ne (Or.inl (by omega))]; exact e2 w hw
  · rw [F3 29 3 (by decide), up_at]; rfl
end
