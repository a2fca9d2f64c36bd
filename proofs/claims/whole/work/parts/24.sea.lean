/-! a shore as a row of numbers, in the reference's order: 24 c + 3 z + k a heap, 576 + c a crest, 600 + c the overs, 624 the hours, 625 .. the sums, 630 the hand's size, 631 .. the hand, 641 + 8 c + z the samples, 833 the painted -/
def fS (s : Nat → Int) (c z k : Nat) : Int := if c < 12 ∧ z < 6 ∧ k < 3 then s (24 * c + 3 * z + k) else 0
def gS (s : Nat → Int) (i : Nat) : Nat := 3 * (s (631 + 2 * i)).toNat + (s (632 + 2 * i)).toNat
def mS (s : Nat → Int) (c z : Nat) : Int := s (641 + 8 * c + z)
def nhS (s : Nat → Int) : Nat := (s 630).toNat
def shS (a nc nz : Nat) (wl s : Nat → Int) (hi : en_I) : Prop :=
  shH a nc nz (fS s) hi ∧ (∀ c, c < 12 → hi (a + 2) c = iI (s (576 + c))) ∧ (∀ c, c < 12 → hi (a + 3) c = iI (wl c)) ∧ (∀ c, c < 12 → hi (a + 4) c = iI (s (600 + c))) ∧
  (∀ c z, c < 12 → z < 6 → hi (a + 5) (c * 6 + z) = iI (mS s c z)) ∧ (hi a 8 = iI (s 630) ∧ ∀ i, i < nhS s → hi (a + 6) i = iI (gS s i)) ∧ (∀ i, i < 5 → hi (a + 7) i = iI (s (625 + i))) ∧ hi a 10 = iI (s 833) ∧ hi a 11 = iI (s 624)
/-- what holds of a shore's numbers -/
def sOK (nc nz : Nat) (wl s : Nat → Int) : Prop :=
  fB nc nz (fS s) ∧ (∀ c, c < 12 → 1 ≤ s (576 + c) ∧ s (576 + c) ≤ 200) ∧ (∀ c, c < 12 → 0 ≤ s (600 + c) ∧ s (600 + c) ≤ 600) ∧ (0 ≤ s 624 ∧ s 624 ≤ 600) ∧ (∀ c, c < 12 → 0 ≤ wl c ∧ wl c ≤ 16) ∧
  (0 ≤ s 630 ∧ s 630 ≤ 4 ∧ ∀ i, i < 4 → (0 ≤ s (631 + 2 * i) ∧ s (631 + 2 * i) < 6) ∧ 0 ≤ s (632 + 2 * i) ∧ s (632 + 2 * i) < 3) ∧ (∀ c z, c < 12 → z < 6 → -1 ≤ mS s c z ∧ mS s c z ≤ 999999)
section
variable {G : en_G} {d : Nat} {K : en_K} {a nc nz : Nat} {wl s : Nat → Int} {hi : en_I} {hl : en_L} {hr : en_F} {xc xs : Nat}
theorem shS.T (h : shS a nc nz wl s hi) (ho : sOK nc nz wl s) : shT a (nhS s) (gS s) hi := by
  obtain ⟨-, -, -, -, -, ⟨h1, h2⟩, -⟩ := h
  obtain ⟨-, -, -, -, -, ⟨o1, o2, o3⟩, -⟩ := ho
  refine ⟨by rw [h1]; exact iI_eq_of (by unfold nhS; omega), by unfold nhS; omega, fun i hi9 => ⟨h2 i hi9, ?_⟩⟩
  obtain ⟨⟨a1, a2⟩, a3, a4⟩ := o3 i (by unfold nhS at hi9; omega)
  unfold gS
  omega
theorem shS.M (h : shS a nc nz wl s hi) (ho : sOK nc nz wl s) : shM a (mS s) hi := fun c z hc hz => ⟨h.2.2.2.2.1 c z hc hz, ho.2.2.2.2.2.2 c z hc hz⟩
/-- nine names of a law -/
def nmL (sz st ab be he bt fr cr ce : Int) : Nat → Int := fun j => match j with
  | 0 => sz
  | 1 => st
  | 2 => ab
  | 3 => be
  | 4 => he
  | 5 => bt
  | 6 => fr
  | 7 => cr
  | _ => ce
def nmH (nm : Nat → Int) (hi : en_I) : Prop := ∀ j, j < 9 → hi 35 j = iI (nm j)
def lwR (L : Nat) (hr : en_F) : Prop := hr L 0 = .ref (L + 1) ∧ hr L 2 = .ref (L + 2) ∧ hr L 3 = .ref (L + 3)
def isLw (L : Nat) : Prop := L = 50 ∨ L = 54 ∨ L = 58 ∨ L = 62
def seR (hr : en_F) : Prop := hr 34 0 = .ref 35 ∧ hr 34 1 = .ref 36 ∧ hr 34 2 = .ref 37
/-- the law at L says V of its names, whenever it is asked -/
def lwV (G : en_G) (L : Nat) (V : Nat → (Nat → Int) → Int) (hi : en_I) : Prop := ∀ (hi' : en_I) (hl : en_L) (hr : en_F) (K : en_K) (d xc xs w : Nat) (nm : Nat → Int), hi' L = hi L → hi' (L + 1) = hi (L + 1) → hi' (L + 2) = hi (L + 2) → hi' (L + 3) = hi (L + 3) → w < 3 → nmH nm hi' → lwR L hr →
  (∀ hi'', Fr (· = 36) hi' hi'' → K (.inl (some (.int (iI (V w nm))))) hi'' hl hr) → en_Call G (d + 2) xc xs Y_X1_value wN wN [.ref L, .int (iI w), .ref 35, .ref 36] hi' hl hr K
theorem lwV.mono {L : Nat} {V : Nat → (Nat → Int) → Int} {P : Nat → Prop} {hi' : en_I} (h : lwV G L V hi) (hL : isLw L) (hf : Fr P hi hi') (hP : ∀ x, P x → x < 50 ∨ 66 ≤ x) : lwV G L V hi' := by
  have e : ∀ x, 50 ≤ x → x < 66 → hi' x = hi x := fun x h1 h2 => hf x (fun q => by rcases hP x q with g | g <;> omega)
  have hb : 50 ≤ L ∧ L + 3 < 66 := by rcases hL with rfl | rfl | rfl | rfl <;> omega
  intro h2 hl hr K d xc xs w nm e0 e1 e2 e3
  rw [e _ (by omega) (by omega)] at e0
  rw [e _ (by omega) (by omega)] at e1
  rw [e _ (by omega) (by omega)] at e2
  rw [e _ (by omega) (by omega)] at e3
  exact h h2 hl hr K d xc xs w nm e0 e1 e2 e3
theorem t_setPlace {ce cr : Int} (hR : seR hr) (H : K (.inl none) (en_up (en_up hi 35 8 (iI ce)) 35 7 (iI cr)) hl hr) : en_Call G (d + 1) xc xs Y_X4_setPlace wN wN [.ref 34, .int (iI ce), .int (iI cr)] hi hl hr K := by
  obtain ⟨r0, r1, r2⟩ := hR
  apply en_X4_setPlace
  simp (disch := omega) only [B_X4_setPlace_0, r0, en_ops, en_opc, iI_add, iI_mul, iI_sub, jL_add, jL_mul, iI_le, iI_lt, iI_eq, iI_eq0, iI_lt0, iI_0le, iI_le0, iI_0lt, jL_iI, iI_jL, lc_eq, lc_lt, lc_le, lc_ge, lc_gt, Nat.sub_zero, Nat.zero_le, true_and, and_true, Nat.reduceAdd, Nat.reduceLeDiff]
  exact ⟨⟨by decide, by decide⟩, 8, rfl, by decide, ⟨by decide, by decide⟩, ⟨by decide, by decide⟩, 7, rfl, by decide, ⟨by decide, by decide⟩, H⟩
theorem t_setWave {he bt fr : Int} (hR : seR hr) (H : K (.inl none) (en_up (en_up (en_up hi 35 4 (iI he)) 35 5 (iI bt)) 35 6 (iI fr)) hl hr) : en_Call G (d + 1) xc xs Y_X4_setWave wN wN [.ref 34, .int (iI he), .int (iI bt), .int (iI fr)] hi hl hr K := by
  obtain ⟨r0, r1, r2⟩ := hR
  apply en_X4_setWave
  simp (disch := omega) only [B_X4_setWave_0, r0, en_ops, en_opc, iI_add, iI_mul, iI_sub, jL_add, jL_mul, iI_le, iI_lt, iI_eq, iI_eq0, iI_lt0, iI_0le, iI_le0, iI_0lt, jL_iI, iI_jL, lc_eq, lc_lt, lc_le, lc_ge, lc_gt, Nat.sub_zero, Nat.zero_le, true_and, and_true, Nat.reduceAdd, Nat.reduceLeDiff]
  exact ⟨⟨by decide, by decide⟩, 4, rfl, by decide, ⟨by decide, by decide⟩, ⟨by decide, by decide⟩, 5, rfl, by decide, ⟨by decide, by decide⟩, ⟨by decide, by decide⟩, 6, rfl, by decide, ⟨by decide, by decide⟩, H⟩
def abP (le sa al : Int) : Int := if al = 0 then 0 else 16 * (al - le - sa) / al
def beP (le al : Int) : Int := if al = 0 then 0 else 16 * le / al
theorem t_setSize {sz le sa al : Int} (hR : seR hr) (h1 : 0 ≤ le) (h2 : 0 ≤ sa) (h3 : le + sa ≤ al) (h4 : al ≤ 100000000)
    (H : K (.inl none) (en_up (en_up (en_up hi 35 0 (iI sz)) 35 2 (iI (abP le sa al))) 35 3 (iI (beP le al))) hl hr) : en_Call G (d + 1) xc xs Y_X4_setSize wN wN [.ref 34, .int (iI sz), .int (iI le), .int (iI sa), .int (iI al)] hi hl hr K := by
  obtain ⟨r0, r1, r2⟩ := hR
  apply en_X4_setSize
  simp (disch := omega) only [B_X4_setSize_0, r0, en_ops, en_opc, iI_add, iI_mul, iI_sub, jL_add, jL_mul, iI_le, iI_lt, iI_eq, iI_eq0, iI_lt0, iI_0le, iI_le0, iI_0lt, jL_iI, iI_jL, lc_eq, lc_lt, lc_le, lc_ge, lc_gt, Nat.sub_zero, Nat.zero_le, true_and, and_true, Nat.reduceAdd, Nat.reduceLeDiff]
  refine ⟨⟨by decide, by decide⟩, 0, rfl, by decide, ⟨by decide, by decide⟩, ⟨by decide, by decide⟩, fun e => ⟨e, ?_⟩, fun e => ?_⟩
  · apply s_X4_setSize_33
    rw [iI_div (by omega) (by omega) (by omega) (by omega)]
    simp (disch := omega) only [B_X4_setSize_33, r0, en_ops, en_opc, iI_add, iI_mul, iI_sub, jL_add, jL_mul, iI_le, iI_lt, iI_eq, iI_eq0, iI_lt0, iI_0le, iI_le0, iI_0lt, jL_iI, iI_jL, lc_eq, lc_lt, lc_le, lc_ge, lc_gt, Nat.sub_zero, Nat.zero_le, true_and, and_true, Nat.reduceAdd, Nat.reduceLeDiff]
    refine ⟨2, rfl, by decide, ⟨by decide, by decide⟩, ⟨by decide, by decide⟩, fun _ => ⟨e, ?_⟩, fun e2 => absurd e2 e⟩
    rw [iI_div (by omega) (by omega) (by omega) (by omega)]
    refine ⟨3, rfl, by decide, ⟨by decide, by decide⟩, ?_⟩
    unfold abP beP at H
    rw [if_neg e, if_neg e] at H
    exact H
  · apply s_X4_setSize_33
    simp (disch := omega) only [B_X4_setSize_33, r0, en_ops, en_opc, iI_add, iI_mul, iI_sub, jL_add, jL_mul, iI_le, iI_lt, iI_eq, iI_eq0, iI_lt0, iI_0le, iI_le0, iI_0lt, jL_iI, iI_jL, lc_eq, lc_lt, lc_le, lc_ge, lc_gt, Nat.sub_zero, Nat.zero_le, true_and, and_true, Nat.reduceAdd, Nat.reduceLeDiff]
    refine ⟨2, rfl, by decide, ⟨by decide, by decide⟩, ⟨by decide, by decide⟩, fun e2 => absurd e e2, fun _ => ⟨3, rfl, by decide, ⟨by decide, by decide⟩, ?_⟩⟩
    unfold abP beP at H
    rw [if_pos e, if_pos e] at H
    exact H
end
