/-! the whole state, as the calls see it -/
abbrev zSh : Type := hSt × Nat × (Nat → Nat × Nat) × (Nat → Nat → Int)
abbrev zW : Type := hEnv × (Nat × (Nat → Nat → (Nat → Int) → Int)) × (Nat × (Nat → Nat × hYr)) × zSh × (Nat × (Nat → zSh)) × (Nat × (Nat → Nat)) × Int × (Nat → Int)
abbrev zE (W : zW) : hEnv := W.1
abbrev zNl (W : zW) : Nat := W.2.1.1
abbrev zVs (W : zW) : Nat → Nat → (Nat → Int) → Int := W.2.1.2
abbrev zNy (W : zW) : Nat := W.2.2.1.1
abbrev zYs (W : zW) : Nat → Nat × hYr := W.2.2.1.2
abbrev zS (W : zW) : zSh := W.2.2.2.1
abbrev zNi (W : zW) : Nat := W.2.2.2.2.1.1
abbrev zIm (W : zW) : Nat → zSh := W.2.2.2.2.1.2
abbrev zNt (W : zW) : Nat := W.2.2.2.2.2.1.1
abbrev zTp (W : zW) : Nat → Nat := W.2.2.2.2.2.1.2
abbrev zFa (W : zW) : Int := W.2.2.2.2.2.2.1
abbrev zRf (W : zW) : Nat → Int := W.2.2.2.2.2.2.2
/-- a refusal counted -/
def zRef (W : zW) (k : Nat) : zW := (W.1, W.2.1, W.2.2.1, W.2.2.2.1, W.2.2.2.2.1, W.2.2.2.2.2.1, W.2.2.2.2.2.2.1, fun j => if j = k then zRf W j + 1 else zRf W j)
/-- another shore -/
def zPut (W : zW) (s : zSh) : zW := (W.1, W.2.1, W.2.2.1, s, W.2.2.2.2)
/-- what holds of a shore after n calls -/
def xOK (n : Nat) (E : hEnv) (s : zSh) : Prop :=
  fB E.2.1 E.2.2.1 s.1.1 ∧ tot s.1.1 ≤ 600000 + 999 * n + 7992 * s.1.2.2.2.2.2 ∧ (E.2.1 ≠ 0 → ∀ c, c < 12 → 1 ≤ s.1.2.1 c ∧ s.1.2.1 c ≤ 60) ∧ (0 ≤ s.1.2.2.2.2.2 ∧ s.1.2.2.2.2.2 ≤ 600) ∧
  (s.2.1 ≤ 4 ∧ ∀ i, i < s.2.1 → (s.2.2.1 i).1 < 6 ∧ (s.2.2.1 i).2 < 3) ∧ (∀ c z, c < 12 → z < 6 → -1 ≤ s.2.2.2 c z ∧ s.2.2.2 c z ≤ 999999) ∧ (E.2.1 ≠ 0 → ∀ c z, c < 24 → z < 8 → E.2.1 ≤ c ∨ E.2.2.1 ≤ z → s.2.2.2 c z = -1)
def zOK (n : Nat) (W : zW) : Prop :=
  (zNt W ≤ 600 ∧ ∀ j, j < zNt W → zTp W j < 256) ∧ zNl W ≤ 4 ∧ zNy W ≤ 4 ∧ zNi W ≤ 3 ∧ lwB (zNl W) (zVs W) ∧ (∀ y, y < zNy W → 1 ≤ (zYs W y).1) ∧ exOK (zE W) ∧ loOK (zE W).2.1 (zE W).2.2.2.2.2.2.2 (zE W).2.2.2.2.2.2.1 ∧ ((zE W).2.1 ≤ 12 ∧ (zE W).2.2.1 ≤ 6) ∧ xOK n (zE W) (zS W) ∧ ∀ i, i < zNi W → xOK n (zE W) (zIm W i)
theorem xOK.mono {n m : Nat} {E : hEnv} {s : zSh} (h : xOK n E s) (hnm : n ≤ m) : xOK m E s := by
  obtain ⟨h1, h2, h3⟩ := h
  exact ⟨h1, by omega, h3⟩
theorem zOK.mono {n m : Nat} {W : zW} (h : zOK n W) (hnm : n ≤ m) : zOK m W := by
  obtain ⟨h1, h2, h3, h4, h5, h6, h7, h8, h9, h10, h11⟩ := h
  exact ⟨h1, h2, h3, h4, h5, h6, h7, h8, h9, h10.mono hnm, fun i hi => (h11 i hi).mono hnm⟩
theorem zOK.ref {n k : Nat} {W : zW} (h : zOK n W) : zOK (n + 1) (zRef W k) := h.mono (Nat.le_succ n)
theorem zOK.put {n : Nat} {W : zW} {s : zSh} (h : zOK n W) (hs : xOK (n + 1) (zE W) s) : zOK (n + 1) (zPut W s) := by
  obtain ⟨h1, h2, h3, h4, h5, h6, h7, h8, h9, h10, h11⟩ := h.mono (Nat.le_succ n)
  exact ⟨h1, h2, h3, h4, h5, h6, h7, h8, h9, hs, h11⟩
theorem xOK.h {n : Nat} {E : hEnv} {s : zSh} (h : xOK n E s) (hn : n ≤ 512) (h0 : E.2.1 ≠ 0) : hOK E s.1 := by
  obtain ⟨h1, h2, h3, h4, -⟩ := h
  exact ⟨h1, by omega, fun c hc => ⟨(h3 h0 c hc).1, by have := (h3 h0 c hc).2; omega⟩, h4.1, h4.2⟩
/-- a shore of the class -/
def xcH (a : Nat) (E : hEnv) (s : zSh) (hi : en_I) : Prop := hsH a E s.1 hi ∧ hi a 8 = iI (s.2.1 : Int) ∧ (∀ i, i < s.2.1 → hi (a + 6) i = iI ((3 * (s.2.2.1 i).1 + (s.2.2.1 i).2 : Nat) : Int)) ∧ ∀ c z, c < 12 → z < 6 → hi (a + 5) (c * 6 + z) = iI (s.2.2.2 c z)
/-- a row of the reference -/
def xrH (s : zSh) (F : Nat → Int32) : Prop := rsH s.1 (fun _ => F) ∧ F 630 = iI (s.2.1 : Int) ∧ (∀ i, i < s.2.1 → F (631 + 2 * i) = iI ((s.2.2.1 i).1 : Int) ∧ F (632 + 2 * i) = iI ((s.2.2.1 i).2 : Int)) ∧ ∀ c z, c < 24 → z < 8 → F (641 + 8 * c + z) = iI (s.2.2.2 c z)
def sbB (t : Nat) : Int := if t < 128 then t else (t : Int) - 256
/-- the class's references -/
def cR (pl : Nat) (hr : en_F) : Prop :=
  (hr 0 0 = .ref 1 ∧ hr 0 3 = .ref pl ∧ hr 0 4 = .ref (10 - pl) ∧ hr 0 5 = .ref 14 ∧ hr 0 7 = .ref 15 ∧ hr 0 9 = .ref 16 ∧ hr 0 10 = .ref 24 ∧ hr 0 12 = .ref 25 ∧ hr 0 13 = .ref 26 ∧ hr 0 14 = .ref 28 ∧ hr 0 15 = .ref 29 ∧ hr 0 16 = .ref 34 ∧ hr 0 17 = .ref 38 ∧ hr 0 18 = .ref 48) ∧
  sxS pl hr ∧ plR 2 hr ∧ plR 8 hr ∧ trR hr ∧ (∀ i, i < 3 → shR (86 + 8 * i) hr ∧ hr 24 i = .ref (86 + 8 * i)) ∧ lwX hr ∧ (∀ i, i < 4 → yeR (66 + 5 * i) hr ∧ hr 15 i = .ref (66 + 5 * i)) ∧ hr 28 0 = .ref 26 ∧ hr 29 0 = .ref 26 ∧ hr 48 0 = .ref 49
/-- the class's numbers -/
def cIn (G : en_G) (W : zW) (pl : Nat) (hi : en_I) : Prop :=
  (hi 0 1 = iI (zNt W : Int) ∧ ∀ j, j < zNt W → hi 1 j = iI (sbB (zTp W j))) ∧ hi 0 2 = iI (zFa W) ∧ hi 0 6 = iI (zNl W : Int) ∧ hi 0 8 = iI (zNy W : Int) ∧ hi 0 11 = iI (zNi W : Int) ∧ (∀ k, k < 4 → hi 25 k = iI (zRf W k)) ∧ lwA G (zNl W) (zVs W) hi ∧ (∀ y, y < zNy W → yeH (66 + 5 * y) (zYs W y).1 (zYs W y).2 hi) ∧ sxH pl (zE W) hi ∧ xcH 16 (zE W) (zS W) hi ∧ ∀ i, i < zNi W → xcH (86 + 8 * i) (zE W) (zIm W i) hi
def InvC (G : en_G) (W : zW) (hi : en_I) (hr : en_F) : Prop := ∃ pl, cR pl hr ∧ cIn G W pl hi
/-- the reference's numbers -/
def rIn (G : en_G) (W : zW) (hi : en_I) : Prop :=
  (hi 110 2 = iI (zNt W : Int) ∧ ∀ j, j < zNt W → hi 112 j = iI (zTp W j : Int)) ∧ hi 110 8 = iI (zFa W) ∧ hi 110 17 = iI (zNl W : Int) ∧ hi 110 18 = iI (zNy W : Int) ∧ hi 110 16 = iI (zNi W : Int) ∧ (∀ k, k < 4 → hi 111 k = iI (zRf W k)) ∧ (∀ l, l < zNl W → rwV G l (zVs W l) hi) ∧ (∀ y, y < zNy W → ryH y (zYs W y).1 (zYs W y).2 hi) ∧ (∃ b, rfB b hi ∧ rbE (zE W) b) ∧ xrH (zS W) (hi 115) ∧ ∀ i, i < zNi W → xrH (zIm W i) (fun j => hi 118 (834 * i + j))
def InvR (G : en_G) (W : zW) (hi : en_I) (hr : en_F) : Prop := rfR hr ∧ rIn G W hi
def Fc {α : Type} (h h' : Nat → Nat → α) : Prop := ∀ x, 110 ≤ x → h' x = h x
def Fm {α : Type} (h h' : Nat → Nat → α) : Prop := ∀ x, (x < 110 ∨ 133 ≤ x) → h' x = h x
theorem Fc.rf {α : Type} {h : Nat → Nat → α} : Fc h h := fun _ _ => rfl
theorem Fm.rf {α : Type} {h : Nat → Nat → α} : Fm h h := fun _ _ => rfl
theorem Fc.of {P : Nat → Prop} {hi hi' : en_I} (F : Fr P hi hi') (hP : ∀ x, P x → x < 110) : Fc hi hi' := fun x hx => F x (fun g => by have := hP x g; omega)
theorem Fm.of {P : Nat → Prop} {hi hi' : en_I} (F : Fr P hi hi') (hP : ∀ x, P x → 110 ≤ x ∧ x < 133) : Fm hi hi' := fun x hx => F x (fun g => by have := hP x g; omega)
theorem Fc.tr {α : Type} {a b c : Nat → Nat → α} (x : Fc a b) (y : Fc b c) : Fc a c := fun i hi => (y i hi).trans (x i hi)
theorem Fm.tr {α : Type} {a b c : Nat → Nat → α} (x : Fm a b) (y : Fm b c) : Fm a c := fun i hi => (y i hi).trans (x i hi)
def exN : Nat → String
  | 0 => "java/lang/IndexOutOfBoundsException"
  | 1 => "java/util/NoSuchElementException"
  | 2 => "java/lang/IllegalArgumentException"
  | _ => "java/lang/IllegalStateException"
/-- the end of a call of the class: r = 0: it answers v and the state is W'; else the refusal of kind r - 1 -/
def cEnd (G : en_G) (W W' : zW) (r : Nat) (v : Value) (K : en_K) (hi : en_I) (hl : en_L) (hr : en_F) : Prop :=
  (r = 0 → ∀ hi' hl' hr', InvC G W' hi' hr' → Fc hi hi' → Fc hl hl' → Fc hr hr' → K (.inl (some v)) hi' hl' hr') ∧
  ∀ k, k < 4 → r = k + 1 → ∀ hi' hl' hr', InvC G (zRef W k) hi' hr' → Fc hi hi' → Fc hl hl' → Fc hr hr' → K (.inr (exN k)) hi' hl' hr'
/-- the end of a call of the reference: code is what it then holds as thrown -/
def rEnd (G : en_G) (W W' : zW) (r code : Nat) (v0 v : Value) (K : en_K) (hi : en_I) (hl : en_L) (hr : en_F) : Prop :=
  (r = 0 → ∀ hi', InvR G W' hi' hr → Fm hi hi' → hi' 110 0 = iI 0 → K (.inl (some v)) hi' hl hr) ∧
  ∀ k, k < 4 → r = k + 1 → ∀ hi', InvR G (zRef W k) hi' hr → Fm hi hi' → hi' 110 0 = iI (code : Int) → K (.inl (some v0)) hi' hl hr
section
variable {G : en_G} {d : Nat} {K : en_K} {W : zW} {n : Nat} {hi : en_I} {hl : en_L} {hr : en_F} {xc xs : Nat}
theorem xcH.frP {a : Nat} {E : hEnv} {s : zSh} {P : Nat → Prop} {hi' : en_I} (h : xcH a E s hi) (F : Fr P hi hi') (hP : ∀ x, a ≤ x → x ≤ a + 7 → ¬ P x) : xcH a E s hi' := by
  obtain ⟨h1, h2, h3, h4⟩ := h
  have ee : ∀ x, a ≤ x → x ≤ a + 7 → hi' x = hi x := fun x g1 g2 => F x (hP x g1 g2)
  exact ⟨h1.frP F hP, by rw [ee a (by omega) (by omega)]; exact h2, fun i hi9 => by rw [ee (a + 6) (by omega) (by omega)]; exact h3 i hi9, fun c z hc hz => by rw [ee (a + 5) (by omega) (by omega)]; exact h4 c z hc hz⟩
theorem sxH.frP {pl : Nat} {E : hEnv} {P : Nat → Prop} {hi' : en_I} (h : sxH pl E hi) (hpl : isPl pl) (F : Fr P hi hi') (hP : ∀ x, P x → 14 ≤ x ∧ x ≠ 37) : sxH pl E hi' := by
  have p14 := hpl.sh.2.2.2.2.2.2.1
  have ee : ∀ x, x < 14 ∨ x = 37 → hi' x = hi x := fun x hx => F x (fun g => by have := hP x g; omega)
  obtain ⟨⟨z0, z1, z2⟩, ⟨v0, v1, v2⟩, x3⟩ := h
  exact ⟨⟨by rw [ee pl (by omega)]; exact z0, z1, fun i hi9 => by rw [ee (pl + 4) (by omega)]; exact z2 i hi9⟩, ⟨by rw [ee pl (by omega)]; exact v0, v1, fun i hi9 => by rw [ee (pl + 5) (by omega)]; exact v2 i hi9⟩, fun c z k hc hz hk => by rw [ee 37 (by omega)]; exact x3 c z k hc hz hk⟩
/-- what a question of the class may touch -/
def Pq (x : Nat) : Prop := 34 ≤ x ∧ x ≤ 49
theorem cIn.q {pl : Nat} {P : Nat → Prop} {hi' : en_I} (h : cIn G W pl hi) (hz : zOK n W) (hpl : isPl pl) (F : Fr P hi hi') (hP : ∀ x, P x → 34 ≤ x ∧ x ≤ 49) (hsx : sxH pl (zE W) hi') : cIn G W pl hi' := by
  obtain ⟨⟨a1, a2⟩, a3, a4, a5, a6, a7, a8, a9, a10, a11, a12⟩ := h
  obtain ⟨-, z2, z3, z4, -⟩ := hz
  have ee : ∀ x, x < 34 ∨ 49 < x → hi' x = hi x := fun x hx => F x (fun g => by have := hP x g; omega)
  exact ⟨⟨by rw [ee 0 (by omega)]; exact a1, fun j hj => by rw [ee 1 (by omega)]; exact a2 j hj⟩, by rw [ee 0 (by omega)]; exact a3, by rw [ee 0 (by omega)]; exact a4, by rw [ee 0 (by omega)]; exact a5, by rw [ee 0 (by omega)]; exact a6, fun k hk => by rw [ee 25 (by omega)]; exact a7 k hk, a8.mono z2 F (fun x g => by have := hP x g; omega), fun y hy => (a9 y hy).fr (by unfold isYe; omega) F (fun x g1 g2 g => by have := hP x g; omega), hsx, a11.frP F (fun x g1 g2 g => by have := hP x g; omega), fun i hi9 => (a12 i hi9).frP F (fun x g1 g2 g => by have := hP x g; omega)⟩
theorem cIn.rfu {pl k : Nat} (h : cIn G W pl hi) (hz : zOK n W) (hpl : isPl pl) (hk : k < 4) : cIn G (zRef W k) pl (en_up hi 25 k (iI (zRf W k + 1))) := by
  have F : Fr (· = 25) hi (en_up hi 25 k (iI (zRf W k + 1))) := Fr.up Fr.rf (by rfl)
  obtain ⟨⟨a1, a2⟩, a3, a4, a5, a6, a7, a8, a9, a10, a11, a12⟩ := h
  obtain ⟨-, z2, z3, z4, -⟩ := hz
  have ee : ∀ x, x ≠ 25 → en_up hi 25 k (iI (zRf W k + 1)) x = hi x := fun x hx => F x hx
  refine ⟨⟨by rw [ee 0 (by omega)]; exact a1, fun j hj => by rw [ee 1 (by omega)]; exact a2 j hj⟩, by rw [ee 0 (by omega)]; exact a3, by rw [ee 0 (by omega)]; exact a4, by rw [ee 0 (by omega)]; exact a5, by rw [ee 0 (by omega)]; exact a6, fun j hj => ?_, a8.mono z2 F (fun x g => by omega), fun y hy => (a9 y hy).fr (by have h9 : y < zNy W := hy; unfold isYe; omega) F (fun x g1 g2 g => by omega), a10.frP hpl F (fun x g => by omega), a11.frP F (fun x g1 g2 g => by omega), fun i hi9 => (a12 i hi9).frP F (fun x g1 g2 g => by omega)⟩
  show _ = iI (if j = k then zRf W j + 1 else zRf W j)
  by_cases e : j = k
  · subst e; rw [up_at, if_pos rfl]
  · rw [up_ne (Or.inr e), if_neg e]; exact a7 j hj
theorem InvC.rfu {k : Nat} (h : InvC G W hi hr) (hz : zOK n W) (hk : k < 4) : InvC G (zRef W k) (en_up hi 25 k (iI (zRf W k + 1))) hr := by
  obtain ⟨pl, h1, h2⟩ := h
  exact ⟨pl, h1, h2.rfu hz h1.2.1.2.2.1 hk⟩
theorem sh0 : en_SH 0 = (10, 19) := by decide
theorem lt0 : 0 < 134 := by decide
theorem sh25 : en_SH 25 = (100, 4) := by decide
theorem lt25 : 25 < 134 := by decide
theorem sh16 : en_SH 16 = (6, 12) := by decide
theorem lt16 : 16 < 134 := by decide
theorem c_needRight {b : Int} (hI : InvC G W hi hr) (hz : zOK n W) (h1 : 1 ≤ xc) (h6 : 6 ≤ xs) (hb : b = 0 ∨ b = 1) (H1 : b = 1 → K (.inl none) hi hl hr) (H0 : b = 0 → ∀ hi', InvC G (zRef W 2) hi' hr → Fc hi hi' → K (.inr "java/lang/IllegalArgumentException") hi' hl hr) : en_Call G (d + 1) xc xs Y_X10_needRight wN wN [.ref 0, .int (iI b)] hi hl hr K := by
  obtain ⟨pl, hR, hN⟩ := id hI
  have r12 := hR.1.2.2.2.2.2.2.2.1
  have a7 := hN.2.2.2.2.2.1 2 (by omega)
  apply en_X10_needRight
  simp (disch := omega) only [B_X10_needRight_0, r12, sh0, lt0, sh25, lt25, en_ops, en_opc, iI_add, iI_mul, iI_sub, jL_add, jL_mul, iI_le, iI_lt, iI_eq, iI_eq0, iI_lt0, iI_0le, iI_le0, iI_0lt, jL_iI, iI_jL, lc_eq, lc_lt, lc_le, lc_ge, lc_gt, Nat.sub_zero, Nat.zero_le, true_and, and_true, Nat.reduceAdd, Nat.reduceLeDiff]
  refine ⟨fun e => H1 (by omega), fun e => ⟨2, rfl, by decide, 2, rfl, by decide, ?_⟩⟩
  rw [a7]
  simp (disch := omega) only [en_ops, en_opc, iI_add, iI_mul, iI_sub, jL_add, jL_mul, iI_le, iI_lt, iI_eq, iI_eq0, iI_lt0, iI_0le, iI_le0, iI_0lt, jL_iI, iI_jL, lc_eq, lc_lt, lc_le, lc_ge, lc_gt, Nat.sub_zero, Nat.zero_le, true_and, and_true, Nat.reduceAdd, Nat.reduceLeDiff]
  exact And.intro ⟨h1, h6⟩ (H0 (by omega) _ (hI.rfu hz (by omega)) (Fc.of (Fr.up Fr.rf (P := (· = 25)) (by rfl)) (fun x g => by omega)))
theorem c_needPlace {b : Int} (hI : InvC G W hi hr) (hz : zOK n W) (h1 : 1 ≤ xc) (h6 : 6 ≤ xs) (hb : b = 0 ∨ b = 1) (H1 : b = 1 → K (.inl none) hi hl hr) (H0 : b = 0 → ∀ hi', InvC G (zRef W 0) hi' hr → Fc hi hi' → K (.inr "java/lang/IndexOutOfBoundsException") hi' hl hr) : en_Call G (d + 1) xc xs Y_X10_needPlace wN wN [.ref 0, .int (iI b)] hi hl hr K := by
  obtain ⟨pl, hR, hN⟩ := id hI
  have r12 := hR.1.2.2.2.2.2.2.2.1
  have a7 := hN.2.2.2.2.2.1 0 (by omega)
  apply en_X10_needPlace
  simp (disch := omega) only [B_X10_needPlace_0, r12, sh0, lt0, sh25, lt25, en_ops, en_opc, iI_add, iI_mul, iI_sub, jL_add, jL_mul, iI_le, iI_lt, iI_eq, iI_eq0, iI_lt0, iI_0le, iI_le0, iI_0lt, jL_iI, iI_jL, lc_eq, lc_lt, lc_le, lc_ge, lc_gt, Nat.sub_zero, Nat.zero_le, true_and, and_true, Nat.reduceAdd, Nat.reduceLeDiff]
  refine ⟨fun e => H1 (by omega), fun e => ⟨0, rfl, by decide, 0, rfl, by decide, ?_⟩⟩
  rw [a7]
  simp (disch := omega) only [en_ops, en_opc, iI_add, iI_mul, iI_sub, jL_add, jL_mul, iI_le, iI_lt, iI_eq, iI_eq0, iI_lt0, iI_0le, iI_le0, iI_0lt, jL_iI, iI_jL, lc_eq, lc_lt, lc_le, lc_ge, lc_gt, Nat.sub_zero, Nat.zero_le, true_and, and_true, Nat.reduceAdd, Nat.reduceLeDiff]
  exact And.intro ⟨h1, h6⟩ (H0 (by omega) _ (hI.rfu hz (by omega)) (Fc.of (Fr.up Fr.rf (P := (· = 25)) (by rfl)) (fun x g => by omega)))
theorem c_needHours (hI : InvC G W hi hr) (hz : zOK n W) (h1 : 1 ≤ xc) (h6 : 6 ≤ xs) (H1 : ((zE W).2.1 ≠ 0 ∧ (zS W).1.2.2.2.2.2 < 600) → K (.inl none) hi hl hr) (H0 : ¬ ((zE W).2.1 ≠ 0 ∧ (zS W).1.2.2.2.2.2 < 600) → ∀ hi', InvC G (zRef W 3) hi' hr → Fc hi hi' → K (.inr "java/lang/IllegalStateException") hi' hl hr) : en_Call G (d + 1) xc xs Y_X10_needHours wN wN [.ref 0] hi hl hr K := by
  obtain ⟨pl, hR, hN⟩ := id hI
  have r12 := hR.1.2.2.2.2.2.2.2.1
  have r9 := hR.1.2.2.2.2.2.1
  have a7 := hN.2.2.2.2.2.1 3 (by omega)
  have x16 := hN.2.2.2.2.2.2.2.2.2.1
  have e0 : hi 16 0 = iI ((zE W).2.1 : Int) := x16.1.1.1
  have e11 : hi 16 11 = iI (zS W).1.2.2.2.2.2 := x16.1.2.2.2.2.2.2
  have nc12 := hz.2.2.2.2.2.2.2.2.1.1
  have hh := hz.2.2.2.2.2.2.2.2.2.1.2.2.2.1
  have no : ¬ ((zE W).2.1 ≠ 0 ∧ (zS W).1.2.2.2.2.2 < 600) → K (.inr "java/lang/IllegalStateException") (en_up hi 25 3 (iI (zRf W 3 + 1))) hl hr := fun e => H0 e _ (hI.rfu hz (by omega)) (Fc.of (Fr.up Fr.rf (P := (· = 25)) (by rfl)) (fun x g => by omega))
  apply en_X10_needHours
  simp (disch := omega) only [B_X10_needHours_0, r12, r9, sh0, lt0, sh25, lt25, sh16, lt16, e0, e11, en_ops, en_opc, iI_add, iI_mul, iI_sub, jL_add, jL_mul, iI_le, iI_lt, iI_eq, iI_eq0, iI_lt0, iI_0le, iI_le0, iI_0lt, jL_iI, iI_jL, lc_eq, lc_lt, lc_le, lc_ge, lc_gt, Nat.sub_zero, Nat.zero_le, true_and, and_true, Nat.reduceAdd, Nat.reduceLeDiff]
  refine ⟨fun e => ⟨3, rfl, by decide, 3, rfl, by decide, ?_⟩, fun e => ⟨fun e2 => H1 (by omega), fun e2 => ⟨3, rfl, by decide, 3, rfl, by decide, ?_⟩⟩⟩
  · rw [a7]
    simp (disch := omega) only [en_ops, en_opc, iI_add, iI_mul, iI_sub, jL_add, jL_mul, iI_le, iI_lt, iI_eq, iI_eq0, iI_lt0, iI_0le, iI_le0, iI_0lt, jL_iI, iI_jL, lc_eq, lc_lt, lc_le, lc_ge, lc_gt, Nat.sub_zero, Nat.zero_le, true_and, and_true, Nat.reduceAdd, Nat.reduceLeDiff]
    exact And.intro ⟨h1, h6⟩ (no (by omega))
  · rw [a7]
    simp (disch := omega) only [en_ops, en_opc, iI_add, iI_mul, iI_sub, jL_add, jL_mul, iI_le, iI_lt, iI_eq, iI_eq0, iI_lt0, iI_0le, iI_le0, iI_0lt, jL_iI, iI_jL, lc_eq, lc_lt, lc_le, lc_ge, lc_gt, Nat.sub_zero, Nat.zero_le, true_and, and_true, Nat.reduceAdd, Nat.reduceLeDiff]
    exact And.intro ⟨h1, h6⟩ (no (by omega))
theorem c_needLaw {z : Int} (hI : InvC G W hi hr) (hz : zOK n W) (h1 : 1 ≤ xc) (h6 : 6 ≤ xs) (hr1 : iRg z) (H1 : (0 ≤ z ∧ z < zNl W) → K (.inl none) hi hl hr) (H0 : ¬ (0 ≤ z ∧ z < zNl W) → ∀ hi', InvC G (zRef W 1) hi' hr → Fc hi hi' → K (.inr "java/util/NoSuchElementException") hi' hl hr) : en_Call G (d + 1) xc xs Y_X10_needLaw wN wN [.ref 0, .int (iI z)] hi hl hr K := by
  obtain ⟨pl, hR, hN⟩ := id hI
  have r12 := hR.1.2.2.2.2.2.2.2.1
  have a4 := hN.2.2.1
  have a7 := hN.2.2.2.2.2.1 1 (by omega)
  have n4 := hz.2.1
  obtain ⟨q1, q2⟩ := hr1
  have no : ¬ (0 ≤ z ∧ z < zNl W) → K (.inr "java/util/NoSuchElementException") (en_up hi 25 1 (iI (zRf W 1 + 1))) hl hr := fun e => H0 e _ (hI.rfu hz (by omega)) (Fc.of (Fr.up Fr.rf (P := (· = 25)) (by rfl)) (fun x g => by omega))
  apply en_X10_needLaw
  simp (disch := omega) only [B_X10_needLaw_0, r12, sh0, lt0, sh25, lt25, a4, en_ops, en_opc, iI_add, iI_mul, iI_sub, jL_add, jL_mul, iI_le, iI_lt, iI_eq, iI_eq0, iI_lt0, iI_0le, iI_le0, iI_0lt, jL_iI, iI_jL, lc_eq, lc_lt, lc_le, lc_ge, lc_gt, Nat.sub_zero, Nat.zero_le, true_and, and_true, Nat.reduceAdd, Nat.reduceLeDiff]
  refine ⟨fun e => ⟨1, rfl, by decide, 1, rfl, by decide, ?_⟩, fun e => ⟨fun e2 => H1 (by omega), fun e2 => ⟨1, rfl, by decide, 1, rfl, by decide, ?_⟩⟩⟩
  · rw [a7]
    simp (disch := omega) only [en_ops, en_opc, iI_add, iI_mul, iI_sub, jL_add, jL_mul, iI_le, iI_lt, iI_eq, iI_eq0, iI_lt0, iI_0le, iI_le0, iI_0lt, jL_iI, iI_jL, lc_eq, lc_lt, lc_le, lc_ge, lc_gt, Nat.sub_zero, Nat.zero_le, true_and, and_true, Nat.reduceAdd, Nat.reduceLeDiff]
    exact And.intro ⟨h1, h6⟩ (no (by omega))
  · rw [a7]
    simp (disch := omega) only [en_ops, en_opc, iI_add, iI_mul, iI_sub, jL_add, jL_mul, iI_le, iI_lt, iI_eq, iI_eq0, iI_lt0, iI_0le, iI_le0, iI_0lt, jL_iI, iI_jL, lc_eq, lc_lt, lc_le, lc_ge, lc_gt, Nat.sub_zero, Nat.zero_le, true_and, and_true, Nat.reduceAdd, Nat.reduceLeDiff]
    exact And.intro ⟨h1, h6⟩ (no (by omega))
theorem c_needYear {z : Int} (hI : InvC G W hi hr) (hz : zOK n W) (h1 : 1 ≤ xc) (h6 : 6 ≤ xs) (hr1 : iRg z) (H1 : (0 ≤ z ∧ z < zNy W) → K (.inl none) hi hl hr) (H0 : ¬ (0 ≤ z ∧ z < zNy W) → ∀ hi', InvC G (zRef W 1) hi' hr → Fc hi hi' → K (.inr "java/util/NoSuchElementException") hi' hl hr) : en_Call G (d + 1) xc xs Y_X10_needYear wN wN [.ref 0, .int (iI z)] hi hl hr K := by
  obtain ⟨pl, hR, hN⟩ := id hI
  have r12 := hR.1.2.2.2.2.2.2.2.1
  have a4 := hN.2.2.2.1
  have a7 := hN.2.2.2.2.2.1 1 (by omega)
  have n4 := hz.2.2.1
  obtain ⟨q1, q2⟩ := hr1
  have no : ¬ (0 ≤ z ∧ z < zNy W) → K (.inr "java/util/NoSuchElementException") (en_up hi 25 1 (iI (zRf W 1 + 1))) hl hr := fun e => H0 e _ (hI.rfu hz (by omega)) (Fc.of (Fr.up Fr.rf (P := (· = 25)) (by rfl)) (fun x g => by omega))
  apply en_X10_needYear
  simp (disch := omega) only [B_X10_needYear_0, r12, sh0, lt0, sh25, lt25, a4, en_ops, en_opc, iI_add, iI_mul, iI_sub, jL_add, jL_mul, iI_le, iI_lt, iI_eq, iI_eq0, iI_lt0, iI_0le, iI_le0, iI_0lt, jL_iI, iI_jL, lc_eq, lc_lt, lc_le, lc_ge, lc_gt, Nat.sub_zero, Nat.zero_le, true_and, and_true, Nat.reduceAdd, Nat.reduceLeDiff]
  refine ⟨fun e => ⟨1, rfl, by decide, 1, rfl, by decide, ?_⟩, fun e => ⟨fun e2 => H1 (by omega), fun e2 => ⟨1, rfl, by decide, 1, rfl, by decide, ?_⟩⟩⟩
  · rw [a7]
    simp (disch := omega) only [en_ops, en_opc, iI_add, iI_mul, iI_sub, jL_add, jL_mul, iI_le, iI_lt, iI_eq, iI_eq0, iI_lt0, iI_0le, iI_le0, iI_0lt, jL_iI, iI_jL, lc_eq, lc_lt, lc_le, lc_ge, lc_gt, Nat.sub_zero, Nat.zero_le, true_and, and_true, Nat.reduceAdd, Nat.reduceLeDiff]
    exact And.intro ⟨h1, h6⟩ (no (by omega))
  · rw [a7]
    simp (disch := omega) only [en_ops, en_opc, iI_add, iI_mul, iI_sub, jL_add, jL_mul, iI_le, iI_lt, iI_eq, iI_eq0, iI_lt0, iI_0le, iI_le0, iI_0lt, jL_iI, iI_jL, lc_eq, lc_lt, lc_le, lc_ge, lc_gt, Nat.sub_zero, Nat.zero_le, true_and, and_true, Nat.reduceAdd, Nat.reduceLeDiff]
    exact And.intro ⟨h1, h6⟩ (no (by omega))
theorem c_isWithin {v lo h : Int} (a1 : iRg v) (a2 : iRg lo) (a3 : iRg h) (H : K (.inl (some (.int (iI (if lo ≤ v ∧ v ≤ h then 1 else 0))))) hi hl hr) : en_Call G (d + 1) xc xs Y_X10_isWithin wN wN [.int (iI v), .int (iI lo), .int (iI h)] hi hl hr K := by
  obtain ⟨a11, a12⟩ := a1
  obtain ⟨a21, a22⟩ := a2
  obtain ⟨a31, a32⟩ := a3
  apply en_X10_isWithin
  simp (disch := omega) only [B_X10_isWithin_0, en_ops, en_opc, iI_add, iI_mul, iI_sub, jL_add, jL_mul, iI_le, iI_lt, iI_eq, iI_eq0, iI_lt0, iI_0le, iI_le0, iI_0lt, jL_iI, iI_jL, lc_eq, lc_lt, lc_le, lc_ge, lc_gt, Nat.sub_zero, Nat.zero_le, true_and, and_true, Nat.reduceAdd, Nat.reduceLeDiff]
  refine ⟨fun e => ⟨rfl, ?_⟩, fun e => ⟨fun e2 => ⟨rfl, ?_⟩, fun e2 => ⟨rfl, ?_⟩⟩⟩
  · rw [if_neg (by omega)] at H; exact H
  · rw [if_neg (by omega)] at H; exact H
  · rw [if_pos (by omega)] at H; exact H
theorem c_isCell {c : Int} (hI : InvC G W hi hr) (hz : zOK n W) (hc : iRg c) (H : K (.inl (some (.int (iI (if 0 ≤ c ∧ c < (zE W).2.1 then 1 else 0))))) hi hl hr) : en_Call G (d + 1) xc xs Y_X10_isCell wN wN [.ref 0, .int (iI c)] hi hl hr K := by
  obtain ⟨pl, hR, hN⟩ := id hI
  have r9 := hR.1.2.2.2.2.2.1
  have x16 := hN.2.2.2.2.2.2.2.2.2.1
  have e0 : hi 16 0 = iI ((zE W).2.1 : Int) := x16.1.1.1
  have nc12 := hz.2.2.2.2.2.2.2.2.1.1
  obtain ⟨c1, c2⟩ := hc
  apply en_X10_isCell
  simp (disch := omega) only [B_X10_isCell_0, r9, sh0, lt0, sh16, lt16, e0, en_ops, en_opc, iI_add, iI_mul, iI_sub, jL_add, jL_mul, iI_le, iI_lt, iI_eq, iI_eq0, iI_lt0, iI_0le, iI_le0, iI_0lt, jL_iI, iI_jL, lc_eq, lc_lt, lc_le, lc_ge, lc_gt, Nat.sub_zero, Nat.zero_le, true_and, and_true, Nat.reduceAdd, Nat.reduceLeDiff]
  refine ⟨fun e => ⟨rfl, ?_⟩, fun e => ⟨fun e2 => ⟨rfl, ?_⟩, fun e2 => ⟨rfl, ?_⟩⟩⟩
  · rw [if_neg (by omega)] at H; exact H
  · rw [if_neg (by omega)] at H; exact H
  · rw [if_pos (by omega)] at H; exact H
theorem c_isSize {c : Int} (hI : InvC G W hi hr) (hz : zOK n W) (hc : iRg c) (H : K (.inl (some (.int (iI (if 0 ≤ c ∧ c < (zE W).2.2.1 then 1 else 0))))) hi hl hr) : en_Call G (d + 1) xc xs Y_X10_isSize wN wN [.ref 0, .int (iI c)] hi hl hr K := by
  obtain ⟨pl, hR, hN⟩ := id hI
  have r9 := hR.1.2.2.2.2.2.1
  have x16 := hN.2.2.2.2.2.2.2.2.2.1
  have e0 : hi 16 1 = iI ((zE W).2.2.1 : Int) := x16.1.1.2.1
  have nz6 := hz.2.2.2.2.2.2.2.2.1.2
  obtain ⟨c1, c2⟩ := hc
  apply en_X10_isSize
  simp (disch := omega) only [B_X10_isSize_0, r9, sh0, lt0, sh16, lt16, e0, en_ops, en_opc, iI_add, iI_mul, iI_sub, jL_add, jL_mul, iI_le, iI_lt, iI_eq, iI_eq0, iI_lt0, iI_0le, iI_le0, iI_0lt, jL_iI, iI_jL, lc_eq, lc_lt, lc_le, lc_ge, lc_gt, Nat.sub_zero, Nat.zero_le, true_and, and_true, Nat.reduceAdd, Nat.reduceLeDiff]
  refine ⟨fun e => ⟨rfl, ?_⟩, fun e => ⟨fun e2 => ⟨rfl, ?_⟩, fun e2 => ⟨rfl, ?_⟩⟩⟩
  · rw [if_neg (by omega)] at H; exact H
  · rw [if_neg (by omega)] at H; exact H
  · rw [if_pos (by omega)] at H; exact H
theorem c_isStuff {c : Int} (hc : iRg c) (H : K (.inl (some (.int (iI (if 0 ≤ c ∧ c < 3 then 1 else 0))))) hi hl hr) : en_Call G (d + 1) xc xs Y_X10_isStuff wN wN [.int (iI c)] hi hl hr K := by
  obtain ⟨c1, c2⟩ := hc
  apply en_X10_isStuff
  simp (disch := omega) only [B_X10_isStuff_0, en_ops, en_opc, iI_add, iI_mul, iI_sub, jL_add, jL_mul, iI_le, iI_lt, iI_eq, iI_eq0, iI_lt0, iI_0le, iI_le0, iI_0lt, jL_iI, iI_jL, lc_eq, lc_lt, lc_le, lc_ge, lc_gt, Nat.sub_zero, Nat.zero_le, true_and, and_true, Nat.reduceAdd, Nat.reduceLeDiff]
  refine ⟨fun e => ⟨rfl, ?_⟩, fun e => ⟨fun e2 => ⟨rfl, ?_⟩, fun e2 => ⟨rfl, ?_⟩⟩⟩
  · rw [if_neg (by omega)] at H; exact H
  · rw [if_neg (by omega)] at H; exact H
  · rw [if_pos (by omega)] at H; exact H
def wvB (h b f : Int) : Prop := (1 ≤ h ∧ h ≤ 30) ∧ (1 ≤ b ∧ b ≤ 20) ∧ 0 ≤ f ∧ f ≤ 1
theorem c_isWave {x y z : Int} (hx : iRg x) (hy : iRg y) (hz : iRg z) (H : ∀ r : Int, (r = 1 ∧ wvB x y z ∨ r = 0 ∧ ¬ wvB x y z) → K (.inl (some (.int (iI r)))) hi hl hr) : en_Call G (d + 2) xc xs Y_X10_isWave wN wN [.int (iI x), .int (iI y), .int (iI z)] hi hl hr K := by
  unfold wvB at H
  apply en_X10_isWave
  simp (disch := omega) only [B_X10_isWave_0, en_ops, en_opc, iI_add, iI_mul, iI_sub, jL_add, jL_mul, iI_le, iI_lt, iI_eq, iI_eq0, iI_lt0, iI_0le, iI_le0, iI_0lt, jL_iI, iI_jL, lc_eq, lc_lt, lc_le, lc_ge, lc_gt, Nat.sub_zero, Nat.zero_le, true_and, and_true, Nat.reduceAdd, Nat.reduceLeDiff]
  refine c_isWithin hx (by unfold iRg; omega) (by unfold iRg; omega) ?_
  by_cases e1 : (1 : Int) ≤ x ∧ x ≤ 30
  · rw [if_pos e1]
    simp (disch := omega) only [en_ops, en_opc, iI_add, iI_mul, iI_sub, jL_add, jL_mul, iI_le, iI_lt, iI_eq, iI_eq0, iI_lt0, iI_0le, iI_le0, iI_0lt, jL_iI, iI_jL, lc_eq, lc_lt, lc_le, lc_ge, lc_gt, Nat.sub_zero, Nat.zero_le, true_and, and_true, Nat.reduceAdd, Nat.reduceLeDiff]
    refine ⟨fun e => absurd e (by decide), fun _ => c_isWithin hy (by unfold iRg; omega) (by unfold iRg; omega) ?_⟩
    by_cases e2 : (1 : Int) ≤ y ∧ y ≤ 20
    · rw [if_pos e2]
      simp (disch := omega) only [en_ops, en_opc, iI_add, iI_mul, iI_sub, jL_add, jL_mul, iI_le, iI_lt, iI_eq, iI_eq0, iI_lt0, iI_0le, iI_le0, iI_0lt, jL_iI, iI_jL, lc_eq, lc_lt, lc_le, lc_ge, lc_gt, Nat.sub_zero, Nat.zero_le, true_and, and_true, Nat.reduceAdd, Nat.reduceLeDiff]
      refine ⟨fun e => absurd e (by decide), fun _ => c_isWithin hz (by unfold iRg; omega) (by unfold iRg; omega) ?_⟩
      by_cases e3 : (0 : Int) ≤ z ∧ z ≤ 1
      · rw [if_pos e3]
        simp (disch := omega) only [en_ops, en_opc, iI_add, iI_mul, iI_sub, jL_add, jL_mul, iI_le, iI_lt, iI_eq, iI_eq0, iI_lt0, iI_0le, iI_le0, iI_0lt, jL_iI, iI_jL, lc_eq, lc_lt, lc_le, lc_ge, lc_gt, Nat.sub_zero, Nat.zero_le, true_and, and_true, Nat.reduceAdd, Nat.reduceLeDiff]
        exact ⟨fun e => absurd e (by decide), fun _ => ⟨rfl, H 1 (Or.inl ⟨rfl, e1, e2, e3⟩)⟩⟩
      · rw [if_neg e3]
        simp (disch := omega) only [en_ops, en_opc, iI_add, iI_mul, iI_sub, jL_add, jL_mul, iI_le, iI_lt, iI_eq, iI_eq0, iI_lt0, iI_0le, iI_le0, iI_0lt, jL_iI, iI_jL, lc_eq, lc_lt, lc_le, lc_ge, lc_gt, Nat.sub_zero, Nat.zero_le, true_and, and_true, Nat.reduceAdd, Nat.reduceLeDiff]
        exact ⟨fun _ => ⟨rfl, H 0 (Or.inr ⟨rfl, fun g => e3 g.2.2⟩)⟩, fun e => (e (by first | trivial | rfl)).elim⟩
    · rw [if_neg e2]
      simp (disch := omega) only [en_ops, en_opc, iI_add, iI_mul, iI_sub, jL_add, jL_mul, iI_le, iI_lt, iI_eq, iI_eq0, iI_lt0, iI_0le, iI_le0, iI_0lt, jL_iI, iI_jL, lc_eq, lc_lt, lc_le, lc_ge, lc_gt, Nat.sub_zero, Nat.zero_le, true_and, and_true, Nat.reduceAdd, Nat.reduceLeDiff]
      exact ⟨fun _ => ⟨rfl, H 0 (Or.inr ⟨rfl, fun g => e2 g.2.1⟩)⟩, fun e => (e (by first | trivial | rfl)).elim⟩
  · rw [if_neg e1]
    simp (disch := omega) only [en_ops, en_opc, iI_add, iI_mul, iI_sub, jL_add, jL_mul, iI_le, iI_lt, iI_eq, iI_eq0, iI_lt0, iI_0le, iI_le0, iI_0lt, jL_iI, iI_jL, lc_eq, lc_lt, lc_le, lc_ge, lc_gt, Nat.sub_zero, Nat.zero_le, true_and, and_true, Nat.reduceAdd, Nat.reduceLeDiff]
    exact ⟨fun _ => ⟨rfl, H 0 (Or.inr ⟨rfl, fun g => e1 g.1⟩)⟩, fun e => (e (by first | trivial | rfl)).elim⟩
end
