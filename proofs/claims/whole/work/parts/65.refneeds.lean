section
variable {G : en_G} {d : Nat} {K : en_K} {W : zW} {n : Nat} {hi : en_I} {hl : en_L} {hr : en_F} {xc xs : Nat}
/-- the rows of the reference that its state is made of -/
def Prs (x : Nat) : Prop := x = 111 ∨ x = 112 ∨ x = 113 ∨ x = 115 ∨ (118 ≤ x ∧ x ≤ 122) ∨ (125 ≤ x ∧ x ≤ 129)
theorem rwE.of {l : Nat} {hi' : en_I} (h : ∀ x, 119 ≤ x → x ≤ 122 → hi' x = hi x) : rwE l hi hi' := ⟨fun j _ _ => by rw [h 119 (by omega) (by omega), h 120 (by omega) (by omega)]; exact ⟨rfl, rfl⟩, fun w _ => by rw [h 121 (by omega) (by omega), h 122 (by omega) (by omega)]; exact ⟨rfl, rfl⟩⟩
theorem rIn.q {hi' : en_I} (h : rIn G W hi) (F : ∀ x, Prs x → hi' x = hi x) (F0 : ∀ j, j = 2 ∨ 8 ≤ j → hi' 110 j = hi 110 j) : rIn G W hi' := by
  obtain ⟨⟨a1, a2⟩, a3, a4, a5, a6, a7, a8, a9, ⟨b, a10, a11⟩, a12, a13⟩ := h
  have e : ∀ x, Prs x → hi' x = hi x := F
  refine ⟨⟨by rw [F0 2 (by omega)]; exact a1, fun j hj => by rw [e 112 (by unfold Prs; omega)]; exact a2 j hj⟩, by rw [F0 8 (by omega)]; exact a3, by rw [F0 17 (by omega)]; exact a4, by rw [F0 18 (by omega)]; exact a5, by rw [F0 16 (by omega)]; exact a6, fun k hk => by rw [e 111 (by unfold Prs; omega)]; exact a7 k hk, fun l hl => (a8 l hl).mono (rwE.of (fun x g1 g2 => e x (by unfold Prs; omega))), fun y hy => ?_, ⟨b, fun j hj => by rw [e 113 (by unfold Prs; omega)]; exact a10 j hj, a11⟩, by rw [e 115 (by unfold Prs; omega)]; exact a12, fun i hi9 => by rw [e 118 (by unfold Prs; omega)]; exact a13 i hi9⟩
  obtain ⟨y1, y2, y3⟩ := a9 y hy
  refine ⟨by rw [e 125 (by unfold Prs; omega)]; exact y1, y2, fun i hi9 => ?_⟩
  rw [e 126 (by unfold Prs; omega), e 127 (by unfold Prs; omega), e 128 (by unfold Prs; omega), e 129 (by unfold Prs; omega)]
  exact y3 i hi9
theorem lt111 : 111 < 134 := by decide
theorem InvR.t0 {v : Int32} (h : InvR G W hi hr) : InvR G W (en_up hi 110 0 v) hr := ⟨h.1, h.2.q (fun x g => up_row (fun e => by subst e; unfold Prs at g; omega)) (fun j g => up_ne (Or.inr (by omega)))⟩
theorem InvR.rfu {k : Nat} {v : Int32} (h : InvR G W hi hr) (hk : k < 4) : InvR G (zRef W k) (en_up (en_up hi 110 0 v) 111 k (iI (zRf W k + 1))) hr := by
  obtain ⟨hR, ⟨a1, a2⟩, a3, a4, a5, a6, a7, a8, a9, ⟨b, a10, a11⟩, a12, a13⟩ := h
  have F : Fr (fun x => x = 110 ∨ x = 111) hi (en_up (en_up hi 110 0 v) 111 k (iI (zRf W k + 1))) := Fr.up (Fr.up Fr.rf (Or.inl rfl)) (Or.inr rfl)
  have e : ∀ x, x ≠ 110 → x ≠ 111 → en_up (en_up hi 110 0 v) 111 k (iI (zRf W k + 1)) x = hi x := fun x g1 g2 => F x (fun g => by rcases g with g | g <;> omega)
  have e0 : ∀ j, j ≠ 0 → en_up (en_up hi 110 0 v) 111 k (iI (zRf W k + 1)) 110 j = hi 110 j := fun j hj => by rw [up_ne (Or.inl (by omega)), up_ne (Or.inr hj)]
  refine ⟨hR, ⟨by rw [e0 2 (by omega)]; exact a1, fun j hj => by rw [e 112 (by omega) (by omega)]; exact a2 j hj⟩, by rw [e0 8 (by omega)]; exact a3, by rw [e0 17 (by omega)]; exact a4, by rw [e0 18 (by omega)]; exact a5, by rw [e0 16 (by omega)]; exact a6, fun j hj => ?_, fun l hl => (a8 l hl).mono (rwE.of (fun x g1 g2 => e x (by omega) (by omega))), fun y hy => (a9 y hy).fr F (fun x g1 g2 g => by rcases g with g | g <;> omega), ⟨b, a10.fr F (fun g => by rcases g with g | g <;> omega), a11⟩, by rw [e 115 (by omega) (by omega)]; exact a12, fun i hi9 => by rw [e 118 (by omega) (by omega)]; exact a13 i hi9⟩
  show _ = iI (if j = k then zRf W j + 1 else zRf W j)
  by_cases g : j = k
  · subst g; rw [up_at, if_pos rfl]
  · rw [up_ne (Or.inr g), up_ne (Or.inl (by omega)), if_neg g]; exact a7 j hj
theorem m_may {b : Int} {code k : Nat} (hI : InvR G W hi hr) (h0 : hi 110 0 = iI 0) (hb : b = 0 ∨ b = 1) (hc : 1 ≤ code ∧ code ≤ 4) (hk : k < 4) (H1 : b = 1 → K (.inl (some (.int (iI 1)))) hi hl hr) (H0 : b = 0 → ∀ hi', InvR G (zRef W k) hi' hr → Fm hi hi' → hi' 110 0 = iI (code : Int) → K (.inl (some (.int (iI 0)))) hi' hl hr) : en_Call G (d + 1) xc xs Y_X11_may wN wN [.ref 110, .int (iI b), .int (iI (code : Int)), .int (iI (k : Int))] hi hl hr K := by
  obtain ⟨hR, hN⟩ := id hI
  obtain ⟨⟨r1, -⟩, -⟩ := id hR
  have a7 := hN.2.2.2.2.2.1 k hk
  have r4 : (en_SH 111).1 = 100 := by decide
  have n1 : ¬ (iI (code : Int) = 0) := by rw [iI_eq0 (by omega) (by omega)]; omega
  apply en_X11_may
  simp (disch := omega) only [B_X11_may_0, r1, sh110, lt110, h0, sh111, lt111, en_ops, en_opc, iI_add, iI_mul, iI_sub, jL_add, jL_mul, iI_le, iI_lt, iI_eq, iI_eq0, iI_lt0, iI_0le, iI_le0, iI_0lt, jL_iI, iI_jL, lc_eq, lc_lt, lc_le, lc_ge, lc_gt, Nat.sub_zero, Nat.zero_le, true_and, and_true, Nat.reduceAdd, Nat.reduceLeDiff]
  refine ⟨fun e => ⟨fun e2 => absurd e2 (by decide), fun _ => ⟨rfl, H1 (by omega)⟩⟩, fun e => ⟨fun e2 => absurd e2 (by decide), fun _ => ?_⟩⟩
  refine ⟨k, rfl, hk, k, rfl, hk, ?_⟩
  rw [up_ne (Or.inl (by omega)), up_at, up_row (show (111 : Nat) ≠ 110 by decide), a7]
  simp (disch := omega) only [en_ops, en_opc, iI_add, iI_mul, iI_sub, jL_add, jL_mul, iI_le, iI_lt, iI_eq, iI_eq0, iI_lt0, iI_0le, iI_le0, iI_0lt, jL_iI, iI_jL, lc_eq, lc_lt, lc_le, lc_ge, lc_gt, Nat.sub_zero, Nat.zero_le, true_and, and_true, Nat.reduceAdd, Nat.reduceLeDiff]
  refine ⟨fun _ => ⟨rfl, ?_⟩, fun e2 => by omega⟩
  exact H0 (by omega) _ (hI.rfu hk) (fun x hx => by rw [up_row (by omega), up_row (by omega)]) (by rw [up_ne (Or.inl (by omega)), up_at])
theorem InvR.e (h : InvR G W hi hr) : ∃ b, rfB b hi ∧ rbE (zE W) b := h.2.2.2.2.2.2.2.2.2.1
theorem InvR.xr (h : InvR G W hi hr) : xrH (zS W) (hi 115) := h.2.2.2.2.2.2.2.2.2.2.1
theorem m_isCell {c : Int} {code : Nat} (hI : InvR G W hi hr) (hz : zOK n W) (h0 : hi 110 0 = iI 0) (hc : iRg c) (hcd : 1 ≤ code ∧ code ≤ 4) (H1 : (0 ≤ c ∧ c < (zE W).2.1) → K (.inl (some (.int (iI 1)))) hi hl hr) (H0 : ¬ (0 ≤ c ∧ c < (zE W).2.1) → ∀ hi', InvR G (zRef W 0) hi' hr → Fm hi hi' → hi' 110 0 = iI (code : Int) → K (.inl (some (.int (iI 0)))) hi' hl hr) : en_Call G (d + 2) xc xs Y_X11_isCell wN wN [.ref 110, .int (iI c), .int (iI (code : Int))] hi hl hr K := by
  obtain ⟨b, b1, b2, -⟩ := hI.e
  obtain ⟨hR, hN⟩ := id hI
  obtain ⟨⟨-, -, r10, -⟩, -⟩ := id hR
  have e0 : hi 113 0 = iI ((zE W).2.1 : Int) := by rw [b1 0 (by omega), b2.1]
  have nc12 := b2.2.2.1
  apply en_X11_isCell
  simp (disch := omega) only [B_X11_isCell_0, r10, sh110, lt110, sh113, lt113, en_ops, en_opc, iI_add, iI_mul, iI_sub, jL_add, jL_mul, iI_le, iI_lt, iI_eq, iI_eq0, iI_lt0, iI_0le, iI_le0, iI_0lt, jL_iI, iI_jL, lc_eq, lc_lt, lc_le, lc_ge, lc_gt, Nat.sub_zero, Nat.zero_le, true_and, and_true, Nat.reduceAdd, Nat.reduceLeDiff]
  refine ⟨0, rfl, by decide, ?_⟩
  rw [e0]
  simp (disch := omega) only [en_ops, en_opc, iI_add, iI_mul, iI_sub, jL_add, jL_mul, iI_le, iI_lt, iI_eq, iI_eq0, iI_lt0, iI_0le, iI_le0, iI_0lt, jL_iI, iI_jL, lc_eq, lc_lt, lc_le, lc_ge, lc_gt, Nat.sub_zero, Nat.zero_le, true_and, and_true, Nat.reduceAdd, Nat.reduceLeDiff]
  refine m_within hc.1 hc.2 (by decide) (by decide) (by omega) (by omega) ?_
  simp (disch := omega) only [sh110, lt110, en_ops, en_opc, iI_add, iI_mul, iI_sub, jL_add, jL_mul, iI_le, iI_lt, iI_eq, iI_eq0, iI_lt0, iI_0le, iI_le0, iI_0lt, jL_iI, iI_jL, lc_eq, lc_lt, lc_le, lc_ge, lc_gt, Nat.sub_zero, Nat.zero_le, true_and, and_true, Nat.reduceAdd, Nat.reduceLeDiff]
  by_cases e : 0 ≤ c ∧ c < (zE W).2.1
  · rw [if_pos (by omega)]
    refine m_may (d := d) (k := 0) hI h0 (Or.inr rfl) hcd (by omega) (fun _ => ?_) (fun e => absurd e (by decide))
    simp (disch := omega) only [en_ops, en_opc, iI_add, iI_mul, iI_sub, jL_add, jL_mul, iI_le, iI_lt, iI_eq, iI_eq0, iI_lt0, iI_0le, iI_le0, iI_0lt, jL_iI, iI_jL, lc_eq, lc_lt, lc_le, lc_ge, lc_gt, Nat.sub_zero, Nat.zero_le, true_and, and_true, Nat.reduceAdd, Nat.reduceLeDiff]
    exact ⟨rfl, H1 e⟩
  · rw [if_neg (by omega)]
    refine m_may (d := d) (k := 0) hI h0 (Or.inl rfl) hcd (by omega) (fun e => absurd e (by decide)) (fun _ hi' I' F' T' => ?_)
    simp (disch := omega) only [en_ops, en_opc, iI_add, iI_mul, iI_sub, jL_add, jL_mul, iI_le, iI_lt, iI_eq, iI_eq0, iI_lt0, iI_0le, iI_le0, iI_0lt, jL_iI, iI_jL, lc_eq, lc_lt, lc_le, lc_ge, lc_gt, Nat.sub_zero, Nat.zero_le, true_and, and_true, Nat.reduceAdd, Nat.reduceLeDiff]
    exact ⟨rfl, H0 e hi' I' F' T'⟩
theorem m_isLaw {c : Int} {code : Nat} (hI : InvR G W hi hr) (hz : zOK n W) (h0 : hi 110 0 = iI 0) (hc : iRg c) (hcd : 1 ≤ code ∧ code ≤ 4) (H1 : (0 ≤ c ∧ c < zNl W) → K (.inl (some (.int (iI 1)))) hi hl hr) (H0 : ¬ (0 ≤ c ∧ c < zNl W) → ∀ hi', InvR G (zRef W 1) hi' hr → Fm hi hi' → hi' 110 0 = iI (code : Int) → K (.inl (some (.int (iI 0)))) hi' hl hr) : en_Call G (d + 2) xc xs Y_X11_isLaw wN wN [.ref 110, .int (iI c), .int (iI (code : Int))] hi hl hr K := by
  have a4 := hI.2.2.2.1
  have n4 := hz.2.1
  apply en_X11_isLaw
  simp (disch := omega) only [B_X11_isLaw_0, sh110, lt110, a4, en_ops, en_opc, iI_add, iI_mul, iI_sub, jL_add, jL_mul, iI_le, iI_lt, iI_eq, iI_eq0, iI_lt0, iI_0le, iI_le0, iI_0lt, jL_iI, iI_jL, lc_eq, lc_lt, lc_le, lc_ge, lc_gt, Nat.sub_zero, Nat.zero_le, true_and, and_true, Nat.reduceAdd, Nat.reduceLeDiff]
  refine m_within hc.1 hc.2 (by decide) (by decide) (by omega) (by omega) ?_
  simp (disch := omega) only [sh110, lt110, en_ops, en_opc, iI_add, iI_mul, iI_sub, jL_add, jL_mul, iI_le, iI_lt, iI_eq, iI_eq0, iI_lt0, iI_0le, iI_le0, iI_0lt, jL_iI, iI_jL, lc_eq, lc_lt, lc_le, lc_ge, lc_gt, Nat.sub_zero, Nat.zero_le, true_and, and_true, Nat.reduceAdd, Nat.reduceLeDiff]
  by_cases e : 0 ≤ c ∧ c < zNl W
  · rw [if_pos (by omega)]
    refine m_may (d := d) (k := 1) hI h0 (Or.inr rfl) hcd (by omega) (fun _ => ?_) (fun e => absurd e (by decide))
    simp (disch := omega) only [en_ops, en_opc, iI_add, iI_mul, iI_sub, jL_add, jL_mul, iI_le, iI_lt, iI_eq, iI_eq0, iI_lt0, iI_0le, iI_le0, iI_0lt, jL_iI, iI_jL, lc_eq, lc_lt, lc_le, lc_ge, lc_gt, Nat.sub_zero, Nat.zero_le, true_and, and_true, Nat.reduceAdd, Nat.reduceLeDiff]
    exact ⟨rfl, H1 e⟩
  · rw [if_neg (by omega)]
    refine m_may (d := d) (k := 1) hI h0 (Or.inl rfl) hcd (by omega) (fun e => absurd e (by decide)) (fun _ hi' I' F' T' => ?_)
    simp (disch := omega) only [en_ops, en_opc, iI_add, iI_mul, iI_sub, jL_add, jL_mul, iI_le, iI_lt, iI_eq, iI_eq0, iI_lt0, iI_0le, iI_le0, iI_0lt, jL_iI, iI_jL, lc_eq, lc_lt, lc_le, lc_ge, lc_gt, Nat.sub_zero, Nat.zero_le, true_and, and_true, Nat.reduceAdd, Nat.reduceLeDiff]
    exact ⟨rfl, H0 e hi' I' F' T'⟩
theorem m_isYear {c : Int} {code : Nat} (hI : InvR G W hi hr) (hz : zOK n W) (h0 : hi 110 0 = iI 0) (hc : iRg c) (hcd : 1 ≤ code ∧ code ≤ 4) (H1 : (0 ≤ c ∧ c < zNy W) → K (.inl (some (.int (iI 1)))) hi hl hr) (H0 : ¬ (0 ≤ c ∧ c < zNy W) → ∀ hi', InvR G (zRef W 1) hi' hr → Fm hi hi' → hi' 110 0 = iI (code : Int) → K (.inl (some (.int (iI 0)))) hi' hl hr) : en_Call G (d + 2) xc xs Y_X11_isYear wN wN [.ref 110, .int (iI c), .int (iI (code : Int))] hi hl hr K := by
  have a4 := hI.2.2.2.2.1
  have n4 := hz.2.2.1
  apply en_X11_isYear
  simp (disch := omega) only [B_X11_isYear_0, sh110, lt110, a4, en_ops, en_opc, iI_add, iI_mul, iI_sub, jL_add, jL_mul, iI_le, iI_lt, iI_eq, iI_eq0, iI_lt0, iI_0le, iI_le0, iI_0lt, jL_iI, iI_jL, lc_eq, lc_lt, lc_le, lc_ge, lc_gt, Nat.sub_zero, Nat.zero_le, true_and, and_true, Nat.reduceAdd, Nat.reduceLeDiff]
  refine m_within hc.1 hc.2 (by decide) (by decide) (by omega) (by omega) ?_
  simp (disch := omega) only [sh110, lt110, en_ops, en_opc, iI_add, iI_mul, iI_sub, jL_add, jL_mul, iI_le, iI_lt, iI_eq, iI_eq0, iI_lt0, iI_0le, iI_le0, iI_0lt, jL_iI, iI_jL, lc_eq, lc_lt, lc_le, lc_ge, lc_gt, Nat.sub_zero, Nat.zero_le, true_and, and_true, Nat.reduceAdd, Nat.reduceLeDiff]
  by_cases e : 0 ≤ c ∧ c < zNy W
  · rw [if_pos (by omega)]
    refine m_may (d := d) (k := 1) hI h0 (Or.inr rfl) hcd (by omega) (fun _ => ?_) (fun e => absurd e (by decide))
    simp (disch := omega) only [en_ops, en_opc, iI_add, iI_mul, iI_sub, jL_add, jL_mul, iI_le, iI_lt, iI_eq, iI_eq0, iI_lt0, iI_0le, iI_le0, iI_0lt, jL_iI, iI_jL, lc_eq, lc_lt, lc_le, lc_ge, lc_gt, Nat.sub_zero, Nat.zero_le, true_and, and_true, Nat.reduceAdd, Nat.reduceLeDiff]
    exact ⟨rfl, H1 e⟩
  · rw [if_neg (by omega)]
    refine m_may (d := d) (k := 1) hI h0 (Or.inl rfl) hcd (by omega) (fun e => absurd e (by decide)) (fun _ hi' I' F' T' => ?_)
    simp (disch := omega) only [en_ops, en_opc, iI_add, iI_mul, iI_sub, jL_add, jL_mul, iI_le, iI_lt, iI_eq, iI_eq0, iI_lt0, iI_0le, iI_le0, iI_0lt, jL_iI, iI_jL, lc_eq, lc_lt, lc_le, lc_ge, lc_gt, Nat.sub_zero, Nat.zero_le, true_and, and_true, Nat.reduceAdd, Nat.reduceLeDiff]
    exact ⟨rfl, H0 e hi' I' F' T'⟩
theorem m_isSize {c : Int} (hI : InvR G W hi hr) (hc : iRg c) (H : K (.inl (some (.int (iI (if 0 ≤ c ∧ c < (zE W).2.2.1 then 1 else 0))))) hi hl hr) : en_Call G (d + 2) xc xs Y_X11_isSize wN wN [.ref 110, .int (iI c)] hi hl hr K := by
  obtain ⟨b, b1, b2, -⟩ := hI.e
  obtain ⟨⟨-, -, r10, -⟩, -⟩ := id hI.1
  have e0 : hi 113 1 = iI ((zE W).2.2.1 : Int) := by rw [b1 1 (by omega), b2.2.1]
  have nz6 := b2.2.2.2
  apply en_X11_isSize
  simp (disch := omega) only [B_X11_isSize_0, r10, sh110, lt110, sh113, lt113, en_ops, en_opc, iI_add, iI_mul, iI_sub, jL_add, jL_mul, iI_le, iI_lt, iI_eq, iI_eq0, iI_lt0, iI_0le, iI_le0, iI_0lt, jL_iI, iI_jL, lc_eq, lc_lt, lc_le, lc_ge, lc_gt, Nat.sub_zero, Nat.zero_le, true_and, and_true, Nat.reduceAdd, Nat.reduceLeDiff]
  refine ⟨1, rfl, by decide, ?_⟩
  rw [e0]
  simp (disch := omega) only [en_ops, en_opc, iI_add, iI_mul, iI_sub, jL_add, jL_mul, iI_le, iI_lt, iI_eq, iI_eq0, iI_lt0, iI_0le, iI_le0, iI_0lt, jL_iI, iI_jL, lc_eq, lc_lt, lc_le, lc_ge, lc_gt, Nat.sub_zero, Nat.zero_le, true_and, and_true, Nat.reduceAdd, Nat.reduceLeDiff]
  refine m_within hc.1 hc.2 (by decide) (by decide) (by omega) (by omega) ?_
  simp (disch := omega) only [en_ops, en_opc, iI_add, iI_mul, iI_sub, jL_add, jL_mul, iI_le, iI_lt, iI_eq, iI_eq0, iI_lt0, iI_0le, iI_le0, iI_0lt, jL_iI, iI_jL, lc_eq, lc_lt, lc_le, lc_ge, lc_gt, Nat.sub_zero, Nat.zero_le, true_and, and_true, Nat.reduceAdd, Nat.reduceLeDiff]
  by_cases e : 0 ≤ c ∧ c < (zE W).2.2.1
  · rw [if_pos e] at H
    rw [if_pos (by omega)]
    exact ⟨rfl, H⟩
  · rw [if_neg e] at H
    rw [if_neg (by omega)]
    exact ⟨rfl, H⟩
theorem m_isWave {x y z : Int} (hx : iRg x) (hy : iRg y) (hz : iRg z) (H : ∀ r : Int, (r = 1 ∧ wvB x y z ∨ r = 0 ∧ ¬ wvB x y z) → K (.inl (some (.int (iI r)))) hi hl hr) : en_Call G (d + 2) xc xs Y_X11_isWave wN wN [.int (iI x), .int (iI y), .int (iI z)] hi hl hr K := by
  unfold wvB at H
  apply en_X11_isWave
  simp (disch := omega) only [B_X11_isWave_0, en_ops, en_opc, iI_add, iI_mul, iI_sub, jL_add, jL_mul, iI_le, iI_lt, iI_eq, iI_eq0, iI_lt0, iI_0le, iI_le0, iI_0lt, jL_iI, iI_jL, lc_eq, lc_lt, lc_le, lc_ge, lc_gt, Nat.sub_zero, Nat.zero_le, true_and, and_true, Nat.reduceAdd, Nat.reduceLeDiff]
  refine m_within hx.1 hx.2 (by decide) (by decide) (by decide) (by decide) ?_
  by_cases e1 : (1 : Int) ≤ x ∧ x ≤ 30
  · rw [if_pos e1]
    simp (disch := omega) only [en_ops, en_opc, iI_add, iI_mul, iI_sub, jL_add, jL_mul, iI_le, iI_lt, iI_eq, iI_eq0, iI_lt0, iI_0le, iI_le0, iI_0lt, jL_iI, iI_jL, lc_eq, lc_lt, lc_le, lc_ge, lc_gt, Nat.sub_zero, Nat.zero_le, true_and, and_true, Nat.reduceAdd, Nat.reduceLeDiff]
    refine ⟨fun e => absurd e (by decide), fun _ => m_within hy.1 hy.2 (by decide) (by decide) (by decide) (by decide) ?_⟩
    by_cases e2 : (1 : Int) ≤ y ∧ y ≤ 20
    · rw [if_pos e2]
      simp (disch := omega) only [en_ops, en_opc, iI_add, iI_mul, iI_sub, jL_add, jL_mul, iI_le, iI_lt, iI_eq, iI_eq0, iI_lt0, iI_0le, iI_le0, iI_0lt, jL_iI, iI_jL, lc_eq, lc_lt, lc_le, lc_ge, lc_gt, Nat.sub_zero, Nat.zero_le, true_and, and_true, Nat.reduceAdd, Nat.reduceLeDiff]
      refine ⟨fun e => absurd e (by decide), fun _ => m_within hz.1 hz.2 (by decide) (by decide) (by decide) (by decide) ?_⟩
      by_cases e3 : (0 : Int) ≤ z ∧ z ≤ 1
      · rw [if_pos e3]
        simp (disch := omega) only [en_ops, en_opc, iI_add, iI_mul, iI_sub, jL_add, jL_mul, iI_le, iI_lt, iI_eq, iI_eq0, iI_lt0, iI_0le, iI_le0, iI_0lt, jL_iI, iI_jL, lc_eq, lc_lt, lc_le, lc_ge, lc_gt, Nat.sub_zero, Nat.zero_le, true_and, and_true, Nat.reduceAdd, Nat.reduceLeDiff]
        exact ⟨fun e => absurd e (by decide), fun _ => ⟨rfl, H 1 (Or.inl ⟨rfl, e1, e2, e3⟩)⟩⟩
      · rw [if_neg e3]
        simp (disch := omega) only [en_ops, en_opc, iI_add, iI_mul, iI_sub, jL_add, jL_mul, iI_le, iI_lt, iI_eq, iI_eq0, iI_lt0, iI_0le, iI_le0, iI_0lt, jL_iI, iI_jL, lc_eq, lc_lt, lc_le, lc_ge, lc_gt, Nat.sub_zero, Nat.zero_le, true_and, and_true, Nat.reduceAdd, Nat.reduceLeDiff]
        exact ⟨fun _ => ⟨rfl, H 0 (Or.inr ⟨rfl, fun g => e3 g.2.2⟩)⟩, fun e => (e (by first | trivial | rfl)).elim⟩
    · rw [if_neg e2]
      simp (disch := omega) only [en_ops, en_opc, iI_add, iI_mul, iI_sub, jL_add, jL_mul, iI_le, iI_lt, iI_eq, iI_eq0, iI_lt0, iI_0le, iI_le0, iI_0lt, jL_iI, iI_jL, lc_eq, lc_lt, lc_le, lc_ge, lc_gt, Nat.sub_zero, Nat.zero_le, true_and, and_true, Nat.reduceAdd, Nat.reduceLeDiff]
      exact ⟨fun _ => ⟨rfl, H 0 (Or.inr ⟨rfl, fun g => e2 g.2.1⟩)⟩, fun e => (e (by first | trivial | rfl)).elim⟩
  · rw [if_neg e1]
    simp (disch := omega) only [en_ops, en_opc, iI_add, iI_mul, iI_sub, jL_add, jL_mul, iI_le, iI_lt, iI_eq, iI_eq0, iI_lt0, iI_0le, iI_le0, iI_0lt, jL_iI, iI_jL, lc_eq, lc_lt, lc_le, lc_ge, lc_gt, Nat.sub_zero, Nat.zero_le, true_and, and_true, Nat.reduceAdd, Nat.reduceLeDiff]
    exact ⟨fun _ => ⟨rfl, H 0 (Or.inr ⟨rfl, fun g => e1 g.1⟩)⟩, fun e => (e (by first | trivial | rfl)).elim⟩
theorem m_isNow {code : Nat} (hI : InvR G W hi hr) (hz : zOK n W) (h0 : hi 110 0 = iI 0) (hcd : 1 ≤ code ∧ code ≤ 4) (H1 : ((zE W).2.1 ≠ 0 ∧ (zS W).1.2.2.2.2.2 < 600) → K (.inl (some (.int (iI 1)))) hi hl hr) (H0 : ¬ ((zE W).2.1 ≠ 0 ∧ (zS W).1.2.2.2.2.2 < 600) → ∀ hi', InvR G (zRef W 3) hi' hr → Fm hi hi' → hi' 110 0 = iI (code : Int) → K (.inl (some (.int (iI 0)))) hi' hl hr) : en_Call G (d + 2) xc xs Y_X11_isNow wN wN [.ref 110, .int (iI (code : Int))] hi hl hr K := by
  obtain ⟨b, b1, b2, -⟩ := hI.e
  obtain ⟨⟨-, -, r10, -, r12, -⟩, -⟩ := id hI.1
  have e0 : hi 113 0 = iI ((zE W).2.1 : Int) := by rw [b1 0 (by omega), b2.1]
  have nc12 := b2.2.2.1
  have e4 : hi 115 624 = iI (zS W).1.2.2.2.2.2 := hI.xr.1.2.2.2.2.2.1
  have hh := hz.2.2.2.2.2.2.2.2.2.1.2.2.2.1
  have no : ¬ ((zE W).2.1 ≠ 0 ∧ (zS W).1.2.2.2.2.2 < 600) → ∀ {k ls r uc us}, (∀ hi', InvR G (zRef W 3) hi' hr → Fm hi hi' → hi' 110 0 = iI (code : Int) → k ls (.int (iI 0) :: r) hi' hl hr uc us) → en_Call G (d + 1) 0 0 Y_X11_may wN wN [.ref 110, .int (iI 0), .int (iI (code : Int)), .int (iI 3)] hi hl hr (en_kk k x_no ls r uc us) := fun e {k ls r uc us} h => m_may (d := d) (k := 3) hI h0 (Or.inl rfl) hcd (by omega) (fun e => absurd e (by decide)) (fun _ hi' I' F' T' => h hi' I' F' T')
  apply en_X11_isNow
  simp (disch := omega) only [B_X11_isNow_0, r10, r12, sh110, lt110, sh113, lt113, sh115, lt115, en_ops, en_opc, iI_add, iI_mul, iI_sub, jL_add, jL_mul, iI_le, iI_lt, iI_eq, iI_eq0, iI_lt0, iI_0le, iI_le0, iI_0lt, jL_iI, iI_jL, lc_eq, lc_lt, lc_le, lc_ge, lc_gt, Nat.sub_zero, Nat.zero_le, true_and, and_true, Nat.reduceAdd, Nat.reduceLeDiff]
  refine ⟨0, rfl, by decide, ?_⟩
  rw [e0]
  simp (disch := omega) only [sh110, lt110, en_ops, en_opc, iI_add, iI_mul, iI_sub, jL_add, jL_mul, iI_le, iI_lt, iI_eq, iI_eq0, iI_lt0, iI_0le, iI_le0, iI_0lt, jL_iI, iI_jL, lc_eq, lc_lt, lc_le, lc_ge, lc_gt, Nat.sub_zero, Nat.zero_le, true_and, and_true, Nat.reduceAdd, Nat.reduceLeDiff]
  refine ⟨fun e => no (by omega) (fun hi' I' F' T' => ?_), fun e => ⟨624, rfl, by decide, ?_⟩⟩
  · simp (disch := omega) only [en_ops, en_opc, iI_add, iI_mul, iI_sub, jL_add, jL_mul, iI_le, iI_lt, iI_eq, iI_eq0, iI_lt0, iI_0le, iI_le0, iI_0lt, jL_iI, iI_jL, lc_eq, lc_lt, lc_le, lc_ge, lc_gt, Nat.sub_zero, Nat.zero_le, true_and, and_true, Nat.reduceAdd, Nat.reduceLeDiff]
    exact ⟨rfl, H0 (by omega) hi' I' F' T'⟩
  · rw [e4]
    simp (disch := omega) only [sh110, lt110, en_ops, en_opc, iI_add, iI_mul, iI_sub, jL_add, jL_mul, iI_le, iI_lt, iI_eq, iI_eq0, iI_lt0, iI_0le, iI_le0, iI_0lt, jL_iI, iI_jL, lc_eq, lc_lt, lc_le, lc_ge, lc_gt, Nat.sub_zero, Nat.zero_le, true_and, and_true, Nat.reduceAdd, Nat.reduceLeDiff]
    refine ⟨fun e2 => no (by omega) (fun hi' I' F' T' => ?_), fun e2 => m_may (d := d) (k := 3) hI h0 (Or.inr rfl) hcd (by omega) (fun _ => ?_) (fun e => absurd e (by decide))⟩
    · simp (disch := omega) only [en_ops, en_opc, iI_add, iI_mul, iI_sub, jL_add, jL_mul, iI_le, iI_lt, iI_eq, iI_eq0, iI_lt0, iI_0le, iI_le0, iI_0lt, jL_iI, iI_jL, lc_eq, lc_lt, lc_le, lc_ge, lc_gt, Nat.sub_zero, Nat.zero_le, true_and, and_true, Nat.reduceAdd, Nat.reduceLeDiff]
      exact ⟨rfl, H0 (by omega) hi' I' F' T'⟩
    · simp (disch := omega) only [en_ops, en_opc, iI_add, iI_mul, iI_sub, jL_add, jL_mul, iI_le, iI_lt, iI_eq, iI_eq0, iI_lt0, iI_0le, iI_le0, iI_0lt, jL_iI, iI_jL, lc_eq, lc_lt, lc_le, lc_ge, lc_gt, Nat.sub_zero, Nat.zero_le, true_and, and_true, Nat.reduceAdd, Nat.reduceLeDiff]
      exact ⟨rfl, H1 (by omega)⟩
end
