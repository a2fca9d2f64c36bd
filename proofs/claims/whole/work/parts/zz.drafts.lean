-- DRAFT 54
/-! the reference's hour -/
def rsH (q : hSt) (hi : en_I) : Prop :=
  rfH q.1 hi ∧ (∀ c, c < 12 → hi 115 (576 + c) = iI (q.2.1 c)) ∧ (∀ c, c < 12 → hi 115 (600 + c) = iI (q.2.2.1 c)) ∧ (∀ i, i < 5 → hi 115 (625 + i) = iI (q.2.2.2.1 i)) ∧ hi 115 833 = iI q.2.2.2.2.1 ∧ hi 115 624 = iI q.2.2.2.2.2 ∧ rfJ hi
/-- the reference's plan -/
def rbE (E : hEnv) (b : Nat → Int) : Prop := rfN E.2.1 E.2.2.1 b ∧ (∀ c, c < 12 → b (52 + c) = E.2.2.2.1 c) ∧
  (b 2 = E.2.2.2.2.2.1 ∧ ∀ i, i < E.2.2.2.2.2.1 → b (4 + 4 * i) = (E.2.2.2.2.1 i).1 ∧ b (4 + 4 * i + 1) = (E.2.2.2.2.1 i).2.1 ∧ b (4 + 4 * i + 2) = (E.2.2.2.2.1 i).2.2.1 ∧ b (4 + 4 * i + 3) = (E.2.2.2.2.1 i).2.2.2) ∧
  (b 3 = E.2.2.2.2.2.2.2 ∧ ∀ i, i < E.2.2.2.2.2.2.2 → b (36 + 4 * i) = (E.2.2.2.2.2.2.1 i).1 ∧ b (36 + 4 * i + 1) = (E.2.2.2.2.2.2.1 i).2.1 ∧ b (36 + 4 * i + 2) = (E.2.2.2.2.2.2.1 i).2.2.1 ∧ b (36 + 4 * i + 3) = (E.2.2.2.2.2.2.1 i).2.2.2) ∧ loOK E.2.1 E.2.2.2.2.2.2.2 E.2.2.2.2.2.2.1
section
variable {G : en_G} {d : Nat} {K : en_K} {nc nz : Nat} {b : Nat → Int} {f : Nat → Nat → Nat → Int} {hi : en_I} {hl : en_L} {hr : en_F} {xc xs : Nat} {E : hEnv} {q : hSt} {w : Int × Int × Int}
theorem m_hour23 {l : Nat} {x1 x2 x3 x4 x5 p v : Int} {h5 : en_I} {ns : Nat} {sp : Nat → Nat × Nat × Nat × Int} {hh : Int} (hR : rfR hr) (hb : rfB b h5) (hso : spOK nc nz ns sp) (hnc : nc ≤ 12) (hnz : nz ≤ 6) (h2 : b 2 = ns) (hsp : ∀ i, i < ns → b (4 + 4 * i) = (sp i).1 ∧ b (4 + 4 * i + 1) = (sp i).2.1 ∧ b (4 + 4 * i + 2) = (sp i).2.2.1 ∧ b (4 + 4 * i + 3) = (sp i).2.2.2)
    (hs : rfH f h5) (hJ : rfJ h5) (hv : h5 115 626 = iI v) (hp : h5 115 833 = iI p) (ht : h5 115 624 = iI hh)
    (H : ∀ h9 x7, Fr (· = 115) h5 h9 → rfH (spF f sp ns) h9 → rfJ h9 → h9 115 626 = iI (v + spN sp ns) → h9 115 833 = iI (p + spP sp ns) → h9 115 624 = iI (hh + 1) → (∀ j, 576 ≤ j → j ≠ 626 → j ≠ 833 → j ≠ 624 → h9 115 j = h5 115 j) → en_V G Y_X11_hour (d + 6) wN wN K 165 [.ref 110, .int (iI x1), .int (iI x2), .int (iI x3), .int (iI x4), .int (iI x5), .int (iI 0), x7] [] h9 hl hr xc xs) :
    ∀ i : Nat, i ≤ ns → ∀ h9 x7, Fr (· = 115) h5 h9 → rfH (spF f sp i) h9 → rfJ h9 → h9 115 626 = iI (v + spN sp i) → h9 115 833 = iI (p + spP sp i) → (∀ j, 576 ≤ j → j ≠ 626 → j ≠ 833 → h9 115 j = h5 115 j) → en_V G Y_X11_hour (d + 6) wN wN K 23 [.ref 110, .int (iI x1), .int (iI x2), .int (iI x3), .int (iI x4), .int (iI x5), .int (iI i), x7] [] h9 hl hr xc xs := by
  obtain ⟨⟨-, -, r10, -, r12, -⟩, -⟩ := id hR
  have n8 := hso.1
  have bb : ∀ h9, Fr (· = 115) h5 h9 → ∀ j, j < 76 → h9 113 j = iI (b j) := fun h9 F j hj => by rw [F 113 (by decide)]; exact hb j hj
  refine lp ns (fun h9 x7 F9 S9 J9 V9 P9 E9 => ?_) (fun i hi9 ih h9 x7 F9 S9 J9 V9 P9 E9 => ?_)
  · have b2 : h9 113 2 = iI ns := by rw [bb h9 F9 2 (by omega), h2]
    apply s_X11_hour_23
    simp (disch := omega) only [B_X11_hour_23, r10, r12, sh110, lt110, sh113, lt113, sh115, lt115, en_ops, en_opc, iI_add, iI_mul, iI_sub, jL_add, jL_mul, iI_le, iI_lt, iI_eq, iI_eq0, iI_lt0, iI_0le, iI_le0, iI_0lt, jL_iI, iI_jL, lc_eq, lc_lt, lc_le, lc_ge, lc_gt, Nat.sub_zero, Nat.zero_le, true_and, and_true, Nat.reduceAdd, Nat.reduceLeDiff]
    refine ⟨2, rfl, by decide, ?_⟩
    rw [b2]
    simp (disch := omega) only [en_ops, en_opc, iI_add, iI_mul, iI_sub, jL_add, jL_mul, iI_le, iI_lt, iI_eq, iI_eq0, iI_lt0, iI_0le, iI_le0, iI_0lt, jL_iI, iI_jL, lc_eq, lc_lt, lc_le, lc_ge, lc_gt, Nat.sub_zero, Nat.zero_le, true_and, and_true, Nat.reduceAdd, Nat.reduceLeDiff]
    refine ⟨fun _ => ⟨624, rfl, by decide, 624, rfl, by decide, ?_⟩, fun e => absurd (Int.le_refl _) e⟩
    rw [E9 624 (by omega) (by omega) (by omega), ht]
    simp (disch := omega) only [en_ops, en_opc, iI_add, iI_mul, iI_sub, jL_add, jL_mul, iI_le, iI_lt, iI_eq, iI_eq0, iI_lt0, iI_0le, iI_le0, iI_0lt, jL_iI, iI_jL, lc_eq, lc_lt, lc_le, lc_ge, lc_gt, Nat.sub_zero, Nat.zero_le, true_and, and_true, Nat.reduceAdd, Nat.reduceLeDiff]
    refine H _ _ (Fr.up F9 (by rfl)) (fun c z k hc hz hk => by rw [up_ne (Or.inr (by omega))]; exact S9 c z k hc hz hk) (fun j j1 j2 => by rw [up_ne (Or.inr (by omega))]; exact J9 j j1 j2) (by rw [up_ne (Or.inr (by omega))]; exact V9) (by rw [up_ne (Or.inr (by omega))]; exact P9) (by rw [up_at]) (fun j j1 j2 j3 j4 => by rw [up_ne (Or.inr j4)]; exact E9 j j1 j2 j3)
  · have b2 : h9 113 2 = iI ns := by rw [bb h9 F9 2 (by omega), h2]
    obtain ⟨g1, g2, g3, g4, g5⟩ := hso.2 i hi9
    obtain ⟨t1, t2, t3, t4⟩ := hsp i hi9
    have c1 : h9 113 (4 + 4 * i) = iI ((sp i).1 : Int) := by rw [bb h9 F9 _ (by omega), t1]
    have c2 : h9 113 (4 + 4 * i + 1) = iI ((sp i).2.1 : Int) := by rw [bb h9 F9 _ (by omega), t2]
    have c3 : h9 113 (4 + 4 * i + 2) = iI ((sp i).2.2.1 : Int) := by rw [bb h9 F9 _ (by omega), t3]
    have c4 : h9 113 (4 + 4 * i + 3) = iI (sp i).2.2.2 := by rw [bb h9 F9 _ (by omega), t4]
    have ix : (24 * ((sp i).1 : Int) + 3 * ((sp i).2.1 : Int) + ((sp i).2.2.1 : Int)) = ((24 * (sp i).1 + 3 * (sp i).2.1 + (sp i).2.2.1 : Nat) : Int) := by omega
    have hv9 := S9 (sp i).1 (sp i).2.1 (sp i).2.2.1 (by omega) (by omega) g3
    have i0 : ((4 : Int) + 4 * (i : Int)) = ((4 + 4 * i : Nat) : Int) := by omega
    apply s_X11_hour_23
    simp (disch := omega) only [B_X11_hour_23, r10, r12, sh110, lt110, sh113, lt113, sh115, lt115, en_ops, en_opc, iI_add, iI_mul, iI_sub, jL_add, jL_mul, iI_le, iI_lt, iI_eq, iI_eq0, iI_lt0, iI_0le, iI_le0, iI_0lt, jL_iI, iI_jL, lc_eq, lc_lt, lc_le, lc_ge, lc_gt, Nat.sub_zero, Nat.zero_le, true_and, and_true, Nat.reduceAdd, Nat.reduceLeDiff]
    refine ⟨2, rfl, by decide, ?_⟩
    rw [b2]
    simp (disch := omega) only [en_ops, en_opc, iI_add, iI_mul, iI_sub, jL_add, jL_mul, iI_le, iI_lt, iI_eq, iI_eq0, iI_lt0, iI_0le, iI_le0, iI_0lt, jL_iI, iI_jL, lc_eq, lc_lt, lc_le, lc_ge, lc_gt, Nat.sub_zero, Nat.zero_le, true_and, and_true, Nat.reduceAdd, Nat.reduceLeDiff]
    refine ⟨fun e => by omega, fun _ => ⟨4 + 4 * i, iI_eq_of i0, by omega, ?_⟩⟩
    rw [c1]
    refine ⟨4 + 4 * i + 1, iI_eq_of (by omega), by omega, ?_⟩
    rw [c2]
    refine ⟨4 + 4 * i + 2, iI_eq_of (by omega), by omega, ?_⟩
    rw [c3]
    refine m_stone ?_
    simp (disch := omega) only [r10, r12, sh110, lt110, sh113, lt113, sh115, lt115, en_ops, en_opc, iI_add, iI_mul, iI_sub, jL_add, jL_mul, iI_le, iI_lt, iI_eq, iI_eq0, iI_lt0, iI_0le, iI_le0, iI_0lt, jL_iI, iI_jL, lc_eq, lc_lt, lc_le, lc_ge, lc_gt, Nat.sub_zero, Nat.zero_le, true_and, and_true, Nat.reduceAdd, Nat.reduceLeDiff]
    refine ⟨24 * (sp i).1 + 3 * (sp i).2.1 + (sp i).2.2.1, iI_eq_of ix, by omega, 4 + 4 * i + 3, iI_eq_of (by omega), by omega, 24 * (sp i).1 + 3 * (sp i).2.1 + (sp i).2.2.1, iI_eq_of ix, by omega, ?_⟩
    rw [hv9, c4, iI_add]
    generalize hg : en_up h9 115 (24 * (sp i).1 + 3 * (sp i).2.1 + (sp i).2.2.1) (iI (spF f sp i (sp i).1 (sp i).2.1 (sp i).2.2.1 + (sp i).2.2.2)) = h8
    have F8 : Fr (· = 115) h5 h8 := by subst hg; exact Fr.up F9 (by rfl)
    have A8 : ∀ j, j ≠ 24 * (sp i).1 + 3 * (sp i).2.1 + (sp i).2.2.1 → h8 115 j = h9 115 j := fun j hj => by subst hg; exact up_ne (Or.inr hj)
    have S8 : rfH (spF f sp (i + 1)) h8 := fun c z k hc hz hk => by
      unfold spF
      rw [sumTo_s]
      by_cases j : 24 * c + 3 * z + k = 24 * (sp i).1 + 3 * (sp i).2.1 + (sp i).2.2.1
      · obtain ⟨q1, q2, q3⟩ := (rx_inj (by omega) g3 hz hk).mp j
        rw [j, ← hg, up_at, if_pos ⟨q1, q2, q3⟩, q1, q2, q3]
        refine iI_eq_of ?_
        unfold spF; omega
      · rw [A8 _ j, if_neg (fun g => j (by rw [g.1, g.2.1, g.2.2])), S9 c z k hc hz hk]
        refine iI_eq_of ?_
        unfold spF; omega
    have J8 : rfJ h8 := fun j j1 j2 => by rw [A8 j (by omega)]; exact J9 j j1 j2
    have c8 : ∀ j, j < 76 → h8 113 j = h9 113 j := fun j _ => by rw [F8 113 (by decide), F9 113 (by decide)]
    refine ⟨626, rfl, by decide, 4 + 4 * i + 3, iI_eq_of (by omega), by omega, 626, rfl, by decide, ?_⟩
    rw [A8 626 (by omega), V9, c8 _ (by omega), c4, iI_add]
    refine ⟨833, rfl, by decide, 4 + 4 * i + 2, iI_eq_of (by omega), by omega, ?_⟩
    rw [up_ne (Or.inr (show 4 + 4 * i + 2 ≠ 626 by omega)), c8 _ (by omega), c3, up_ne (Or.inr (show (833 : Nat) ≠ 626 by decide)), A8 833 (by omega), P9]
    simp (disch := omega) only [en_ops, en_opc, iI_add, iI_mul, iI_sub, jL_add, jL_mul, iI_le, iI_lt, iI_eq, iI_eq0, iI_lt0, iI_0le, iI_le0, iI_0lt, jL_iI, iI_jL, lc_eq, lc_lt, lc_le, lc_ge, lc_gt, Nat.sub_zero, Nat.zero_le, true_and, and_true, Nat.reduceAdd, Nat.reduceLeDiff]
    have eN : spN sp (i + 1) = spN sp i + (sp i).2.2.2 := by unfold spN; rw [sumTo_s]
    have eP : spP sp (i + 1) = spP sp i + if (sp i).2.2.1 = 2 then (sp i).2.2.2 else 0 := by unfold spP; rw [sumTo_s]
    rw [eN, eP] at ih
    have fin : ∀ y : Int, y = (if (sp i).2.2.1 = 2 then (sp i).2.2.2 else 0) → en_V G Y_X11_hour (d + 6) wN wN K 23 [.ref 110, .int (iI x1), .int (iI x2), .int (iI x3), .int (iI x4), .int (iI x5), .int (iI ((i : Int) + 1)), .int (iI ((4 : Int) + 4 * (i : Int)))] [] (en_up (en_up h8 115 626 (iI (v + spN sp i + (sp i).2.2.2))) 115 833 (iI (p + spP sp i + y))) hl hr xc xs := by
      intro y hy
      have i9 := ih _ (.int (iI ((4 : Int) + 4 * (i : Int)))) (Fr.up (Fr.up F8 (i := 626) (v := iI (v + spN sp i + (sp i).2.2.2)) (by rfl)) (i := 833) (v := iI (p + spP sp i + y)) (by rfl)) (fun c z k hc hz hk => by rw [up_ne (Or.inr (by omega)), up_ne (Or.inr (by omega))]; exact S8 c z k hc hz hk) (fun j j1 j2 => by rw [up_ne (Or.inr (by omega)), up_ne (Or.inr (by omega))]; exact J8 j j1 j2) (by rw [up_ne (Or.inr (by omega)), up_at]; exact iI_eq_of (by omega)) (by rw [up_at, hy]; exact iI_eq_of (by omega)) (fun j j1 j2 j3 => by rw [up_ne (Or.inr j3), up_ne (Or.inr j2), A8 j (by omega)]; exact E9 j j1 j2 j3)
      exact i9
    refine ⟨fun e => ⟨833, rfl, by decide, fin 0 (by rw [if_neg (by omega)])⟩, fun e => ⟨4 + 4 * i + 3, iI_eq_of (by omega), by omega, 833, rfl, by decide, ?_⟩⟩
    rw [up_row (by omega), c8 _ (by omega), c4]
    simp (disch := omega) only [en_ops, en_opc, iI_add, iI_mul, iI_sub, jL_add, jL_mul, iI_le, iI_lt, iI_eq, iI_eq0, iI_lt0, iI_0le, iI_le0, iI_0lt, jL_iI, iI_jL, lc_eq, lc_lt, lc_le, lc_ge, lc_gt, Nat.sub_zero, Nat.zero_le, true_and, and_true, Nat.reduceAdd, Nat.reduceLeDiff]
    exact fin _ (by rw [if_pos (by omega)])
theorem m_hour {l : Nat} (hR : rfR hr) (hE : eOK E) (hb : rfB b hi) (hbE : rbE E b) (hV : rwV G l E.1 hi) (hq : rsH q hi) (hO : hOK E q) (hlt : q.2.2.2.2.2 < 600) (hwo : wOK w)
    (H : ∀ hi', Fr Pmo hi hi' → rsH (hrP E w q) hi' → hOK E (hrP E w q) → (∀ j, 630 ≤ j → j ≠ 833 → hi' 115 j = hi 115 j) → K (.inl (some (.int (iI (hmP E w q))))) hi' hl hr) :
    en_Call G (d + 6) xc xs Y_X11_hour wN wN [.ref 110, .int (iI l), .int (iI w.1), .int (iI w.2.1), .int (iI w.2.2)] hi hl hr K := by
  obtain ⟨⟨-, -, r10, -, r12, -⟩, -⟩ := id hR
  obtain ⟨hn, hwl, ⟨hns, hsp⟩, ⟨hnl, hlo⟩, hloo⟩ := id hbE
  obtain ⟨n0, n1, n12, n6⟩ := id hn
  obtain ⟨e1, e2, e3⟩ := id hE
  obtain ⟨y1, y2, y3, y4, y5, y6, y7⟩ := id hq
  obtain ⟨o1, o2, o3, o4, o5⟩ := id hO
  have O9 := hOK_hr (w := w) hE hloo n12 n6 hO hlt
  have B1 := f1_B (V := E.1) (he := w.1) (bt := w.2.1) (fr := w.2.2) (cr := q.2.1) o1 e2 n12
  have T1 := f1_tot (V := E.1) (he := w.1) (bt := w.2.1) (fr := w.2.2) (cr := q.2.1) o1 e2 n12 (E.2.1 * 18) (Nat.le_refl _)
  have B2 := f2_B (V := E.1) (he := w.1) (bt := w.2.1) (fr := w.2.2) (cr := q.2.1) B1 E.2.1
  have T2 : tot (f2P E.1 w.1 w.2.1 w.2.2 q.2.1 (f1P E.1 q.1 E.2.1 E.2.2.1 E.2.2.2.1 w.1 w.2.1 w.2.2 q.2.1 (E.2.1 * 18)) E.2.1) ≤ tot q.1 := Int.le_trans (tot_le (fun c z k _ _ _ => (f2_le B1 _ c z k).2)) T1
  have B3 := spF_B n12 n6 e3 B2 (by omega)
  apply en_X11_hour
  simp (disch := omega) only [B_X11_hour_0, sh110, lt110, en_ops, en_opc, iI_add, iI_mul, iI_sub, jL_add, jL_mul, iI_le, iI_lt, iI_eq, iI_eq0, iI_lt0, iI_0le, iI_le0, iI_0lt, jL_iI, iI_jL, lc_eq, lc_lt, lc_le, lc_ge, lc_gt, Nat.sub_zero, Nat.zero_le, true_and, and_true, Nat.reduceAdd, Nat.reduceLeDiff]
  refine m_moves (b := b) (nc := E.2.1) (nz := E.2.2.1) (f := q.1) (wl := E.2.2.2.1) (V := E.1) (cr := q.2.1) (sm := q.2.2.2.1) hR y1 y7 hb hn o1 (fun c hc => ⟨hwl c hc, e2 c hc⟩) y2 hV e1 (y4 2 (by omega)) hwo.2.2 (fun h8 F8 R8 S8 J8 V8 => ?_)
  simp (disch := omega) only [sh110, lt110, en_ops, en_opc, iI_add, iI_mul, iI_sub, jL_add, jL_mul, iI_le, iI_lt, iI_eq, iI_eq0, iI_lt0, iI_0le, iI_le0, iI_0lt, jL_iI, iI_jL, lc_eq, lc_lt, lc_le, lc_ge, lc_gt, Nat.sub_zero, Nat.zero_le, true_and, and_true, Nat.reduceAdd, Nat.reduceLeDiff]
  have b8 : rfB b h8 := fun j hj => by rw [F8 113 (by unfold Pmo; omega)]; exact hb j hj
  refine m_overs (b := b) (nc := E.2.1) (nz := E.2.2.1) (V := E.1) (cr := q.2.1) (ov := q.2.2.1) (v := q.2.2.2.1 3) hR S8 J8 b8 hn B1 (fun c hc => by rw [R8 _ (by omega) (by omega)]; exact y2 c hc) o3 (fun c hc => by rw [R8 _ (by omega) (by omega)]; exact y3 c hc) (hV.mono (rwE.frm rwE.rf F8 Pmo.n)) e1 (by rw [R8 _ (by omega) (by omega)]; exact y4 3 (by omega)) (fun h7 I7 => ?_)
  obtain ⟨i1, i2, i3, i4, i5, i6, i7⟩ := I7
  have F7 : Fr Pmo hi h7 := F8.tr (i1.mono (fun x g => by unfold Pos at g; unfold Pmo; omega))
  have b7 : rfB b h7 := fun j hj => by rw [F7 113 (by unfold Pmo; omega)]; exact hb j hj
  simp (disch := omega) only [en_ops, en_opc, iI_add, iI_mul, iI_sub, jL_add, jL_mul, iI_le, iI_lt, iI_eq, iI_eq0, iI_lt0, iI_0le, iI_le0, iI_0lt, jL_iI, iI_jL, lc_eq, lc_lt, lc_le, lc_ge, lc_gt, Nat.sub_zero, Nat.zero_le, true_and, and_true, Nat.reduceAdd, Nat.reduceLeDiff]
  have R7 : ∀ j, 624 ≤ j → j ≠ 627 → j ≠ 628 → h7 115 j = hi 115 j := fun j j1 j2 j3 => by rw [i7 j j1 j3, R8 j (by omega) j2]
  refine m_hour23 (d := d) (nc := E.2.1) (nz := E.2.2.1) (v := q.2.2.2.1 1) (p := q.2.2.2.2.1) (hh := q.2.2.2.2.2) (ns := E.2.2.2.2.2.1) (sp := E.2.2.2.2.1) (l := l) hR b7 e3 n12 n6 hns hsp i2 i3 (by rw [R7 _ (by omega) (by omega) (by omega)]; exact y4 1 (by omega)) (by rw [R7 _ (by omega) (by omega) (by omega)]; exact y5) (by rw [R7 _ (by omega) (by omega) (by omega)]; exact y6) (fun h6 x7 F6 S6 J6 V6 P6 T6 R6 => ?_) 0 (by omega) h7 _ Fr.rf (fun c z k hc hz hk => by rw [i2 c z k hc hz hk]; unfold spF; rw [sumTo_z, Int.add_zero]) i3 (by rw [R7 _ (by omega) (by omega) (by omega), y4 1 (by omega)]; unfold spN; rw [sumTo_z, Int.add_zero]) (by rw [R7 _ (by omega) (by omega) (by omega), y5]; unfold spP; rw [sumTo_z, Int.add_zero]) (fun _ _ _ _ => rfl)
  have F06 : Fr Pmo hi h6 := F7.tr (F6.mono (fun x e => Or.inl e))
  have b6 : ∀ h9, Fr (· = 115) h6 h9 → ∀ j, j < 76 → h9 113 j = iI (b j) := fun h9 F j hj => by rw [F 113 (by decide), F06 113 (by unfold Pmo; omega)]; exact hb j hj
  have nl4 := hloo.1
  suffices L : ∀ i : Nat, i ≤ E.2.2.2.2.2.2.2 → ∀ h9 x7, Fr (· = 115) h6 h9 → rfH (drP E.2.1 E.2.2.1 E.2.2.2.2.2.2.1 (q.2.2.2.2.2 + 1) (h3P E.1 E.2.1 E.2.2.1 E.2.2.2.1 w.1 w.2.1 w.2.2 E.2.2.2.2.1 E.2.2.2.2.2.1 q.2.1 q.1) i).1 h9 → rfJ h9 → h9 115 629 = iI (q.2.2.2.1 4 + (drP E.2.1 E.2.2.1 E.2.2.2.2.2.2.1 (q.2.2.2.2.2 + 1) (h3P E.1 E.2.1 E.2.2.1 E.2.2.2.1 w.1 w.2.1 w.2.2 E.2.2.2.2.1 E.2.2.2.2.2.1 q.2.1 q.1) i).2) → (∀ j, 576 ≤ j → j ≠ 629 → h9 115 j = h6 115 j) → en_V G Y_X11_hour (d + 6) wN wN K 165 [.ref 110, .int (iI l), .int (iI w.1), .int (iI w.2.1), .int (iI w.2.2), .int (iI (hmP E w q)), .int (iI i), x7] [] h9 hl hr xc xs by
    refine L 0 (by omega) h6 x7 Fr.rf S6 J6 ?_ (fun _ _ _ => rfl)
    rw [R6 629 (by omega) (by omega) (by omega) (by omega), R7 629 (by omega) (by omega) (by omega), y4 4 (by omega)]
    exact iI_eq_of (by show _ = _ + (0 : Int); omega)
  refine lp _ (fun h9 x7 F9 S9 J9 V9 E9 => ?_) (fun i hi9 ih h9 x7 F9 S9 J9 V9 E9 => ?_)
  · have b3 : h9 113 3 = iI (E.2.2.2.2.2.2.2 : Int) := by rw [b6 h9 F9 3 (by omega), hnl]
    apply s_X11_hour_165
    simp (disch := omega) only [B_X11_hour_165, r10, sh110, lt110, sh113, lt113, en_ops, en_opc, iI_add, iI_mul, iI_sub, jL_add, jL_mul, iI_le, iI_lt, iI_eq, iI_eq0, iI_lt0, iI_0le, iI_le0, iI_0lt, jL_iI, iI_jL, lc_eq, lc_lt, lc_le, lc_ge, lc_gt, Nat.sub_zero, Nat.zero_le, true_and, and_true, Nat.reduceAdd, Nat.reduceLeDiff]
    refine ⟨3, rfl, by decide, ?_⟩
    rw [b3]
    simp (disch := omega) only [en_ops, en_opc, iI_add, iI_mul, iI_sub, jL_add, jL_mul, iI_le, iI_lt, iI_eq, iI_eq0, iI_lt0, iI_0le, iI_le0, iI_0lt, jL_iI, iI_jL, lc_eq, lc_lt, lc_le, lc_ge, lc_gt, Nat.sub_zero, Nat.zero_le, true_and, and_true, Nat.reduceAdd, Nat.reduceLeDiff]
    refine ⟨fun _ => H h9 (F06.tr (F9.mono (fun x e => Or.inl e))) ⟨S9, fun c hc => ?_, fun c hc => ?_, fun i hi9 => ?_, ?_, ?_, J9⟩ O9 (fun j j1 j2 => ?_), fun e => absurd (Int.le_refl _) e⟩
    · rw [E9 _ (by omega) (by omega), R6 _ (by omega) (by omega) (by omega) (by omega)]; exact i5 c hc
    · rw [E9 _ (by omega) (by omega), R6 _ (by omega) (by omega) (by omega) (by omega)]; exact i6 c hc
    · show h9 115 (625 + i) = iI (smP _ _ _ _ _ _ _ _ _ _ _ _ _ _ _ i)
      unfold smP
      rcases (show i = 0 ∨ i = 1 ∨ i = 2 ∨ i = 3 ∨ i = 4 by omega) with rfl | rfl | rfl | rfl | rfl
      · rw [E9 _ (by omega) (by omega), R6 _ (by omega) (by omega) (by omega) (by omega), R7 _ (by omega) (by omega) (by omega), y4 0 (by omega)]
        refine iI_eq_of ?_
        unfold smN; simp
      · rw [E9 _ (by omega) (by omega), show 625 + 1 = 626 by rfl, V6]
        refine iI_eq_of ?_
        unfold smN; simp
      · rw [E9 _ (by omega) (by omega), R6 _ (by omega) (by omega) (by omega) (by omega), show 625 + 2 = 627 by rfl, i7 _ (by omega) (by omega), V8]
        refine iI_eq_of ?_
        simp
      · rw [E9 _ (by omega) (by omega), R6 _ (by omega) (by omega) (by omega) (by omega), show 625 + 3 = 628 by rfl, i4]
        refine iI_eq_of ?_
        unfold smN; simp
      · rw [show 625 + 4 = 629 by rfl, V9]
        refine iI_eq_of ?_
        unfold smN h4P; simp
    · rw [E9 _ (by omega) (by omega)]; exact P6
    · rw [E9 _ (by omega) (by omega)]; exact T6
    · rw [E9 _ (by omega) (by omega), R6 _ (by omega) (by omega) j2 (by omega), R7 _ (by omega) (by omega) (by omega)]
  · have b3 : h9 113 3 = iI (E.2.2.2.2.2.2.2 : Int) := by rw [b6 h9 F9 3 (by omega), hnl]
    obtain ⟨g1, g2, g3, ⟨g4, g5⟩, g6, g7⟩ := hloo.2 i hi9
    obtain ⟨t1, t2, t3, t4⟩ := hlo i hi9
    have c1 : h9 113 (36 + 4 * i) = iI ((E.2.2.2.2.2.2.1 i).1 : Int) := by rw [b6 h9 F9 _ (by omega), t1]
    have c2 : h9 113 (36 + 4 * i + 1) = iI ((E.2.2.2.2.2.2.1 i).2.1 : Int) := by rw [b6 h9 F9 _ (by omega), t2]
    have c3 : h9 113 (36 + 4 * i + 2) = iI (E.2.2.2.2.2.2.1 i).2.2.1 := by rw [b6 h9 F9 _ (by omega), t3]
    have c4 : h9 113 (36 + 4 * i + 3) = iI (E.2.2.2.2.2.2.1 i).2.2.2 := by rw [b6 h9 F9 _ (by omega), t4]
    have T9 : h9 115 624 = iI (q.2.2.2.2.2 + 1) := by rw [E9 _ (by omega) (by omega)]; exact T6
    apply s_X11_hour_165
    simp (disch := omega) only [B_X11_hour_165, r10, r12, sh110, lt110, sh113, lt113, sh115, lt115, en_ops, en_opc, iI_add, iI_mul, iI_sub, jL_add, jL_mul, iI_le, iI_lt, iI_eq, iI_eq0, iI_lt0, iI_0le, iI_le0, iI_0lt, jL_iI, iI_jL, lc_eq, lc_lt, lc_le, lc_ge, lc_gt, Nat.sub_zero, Nat.zero_le, true_and, and_true, Nat.reduceAdd, Nat.reduceLeDiff]
    refine ⟨3, rfl, by decide, ?_⟩
    rw [b3]
    simp (disch := omega) only [en_ops, en_opc, iI_add, iI_mul, iI_sub, jL_add, jL_mul, iI_le, iI_lt, iI_eq, iI_eq0, iI_lt0, iI_0le, iI_le0, iI_0lt, jL_iI, iI_jL, lc_eq, lc_lt, lc_le, lc_ge, lc_gt, Nat.sub_zero, Nat.zero_le, true_and, and_true, Nat.reduceAdd, Nat.reduceLeDiff]
    refine ⟨fun e => by omega, fun _ => ⟨624, rfl, by decide, 36 + 4 * i + 3, iI_eq_of (by omega), by omega, ?_⟩⟩
    rw [T9, c4]
    have em := Int.emod_nonneg (q.2.2.2.2.2 + 1) (show (E.2.2.2.2.2.2.1 i).2.2.2 ≠ 0 by omega)
    have em2 := Int.emod_lt_of_pos (q.2.2.2.2.2 + 1) (show 0 < (E.2.2.2.2.2.2.1 i).2.2.2 by omega)
    have ed : (q.2.2.2.2.2 + 1) - (q.2.2.2.2.2 + 1) / (E.2.2.2.2.2.2.1 i).2.2.2 * (E.2.2.2.2.2.2.1 i).2.2.2 = (q.2.2.2.2.2 + 1) % (E.2.2.2.2.2.2.1 i).2.2.2 := by rw [Int.emod_def, Int.mul_comm]
    rw [iI_div (by omega) (by omega) (by omega) (by omega), iI_mul, iI_sub, ed]
    simp (disch := omega) only [en_ops, en_opc, iI_add, iI_mul, iI_sub, jL_add, jL_mul, iI_le, iI_lt, iI_eq, iI_eq0, iI_lt0, iI_0le, iI_le0, iI_0lt, jL_iI, iI_jL, lc_eq, lc_lt, lc_le, lc_ge, lc_gt, Nat.sub_zero, Nat.zero_le, true_and, and_true, Nat.reduceAdd, Nat.reduceLeDiff]
    rw [drP_s] at ih
    refine ⟨by omega, fun e => ?_, fun e => ?_⟩
    · rw [if_neg e] at ih
      exact ih h9 _ F9 S9 J9 V9 E9
    · rw [if_pos e] at ih
      refine ⟨36 + 4 * i, iI_eq_of (by omega), by omega, ?_⟩
      rw [c1]
      refine ⟨36 + 4 * i + 1, iI_eq_of (by omega), by omega, ?_⟩
      rw [c2]
      refine ⟨36 + 4 * i + 2, iI_eq_of (by omega), by omega, ?_⟩
      rw [c3]
      refine m_brings (b := b) (nc := E.2.1) (nz := E.2.2.1) hR S9 (b6 h9 F9) hn (drP_B hloo n12 n6 B3 i (by omega)).1 V9 (by omega) g2 g3 (by omega) g5 (fun h8 F8 S8 V8 => ?_)
      simp (disch := omega) only [en_ops, en_opc, iI_add, iI_mul, iI_sub, jL_add, jL_mul, iI_le, iI_lt, iI_eq, iI_eq0, iI_lt0, iI_0le, iI_le0, iI_0lt, jL_iI, iI_jL, lc_eq, lc_lt, lc_le, lc_ge, lc_gt, Nat.sub_zero, Nat.zero_le, true_and, and_true, Nat.reduceAdd, Nat.reduceLeDiff]
      refine ih h8 _ (F9.tr F8.1) S8 (fun j j1 j2 => by rw [F8.2 j (Or.inr j2) (by omega)]; exact J9 j j1 j2) (by rw [V8]; exact iI_eq_of (by omega)) (fun j j1 j2 => by rw [F8.2 j (Or.inl j1) j2]; exact E9 j j1 j2)
end
-- DRAFT 55
section
variable {G : en_G} {d : Nat} {K : en_K} {b : Nat → Int} {hi : en_I} {hl : en_L} {hr : en_F} {xc xs : Nat} {E : hEnv} {q : hSt}
theorem sh125 : en_SH 125 = (100, 5) := by decide
theorem sh126 : en_SH 126 = (100, 200) := by decide
theorem sh127 : en_SH 127 = (100, 200) := by decide
theorem sh128 : en_SH 128 = (100, 200) := by decide
theorem sh129 : en_SH 129 = (100, 200) := by decide
theorem lt125 : 125 < 134 := by decide
theorem lt126 : 126 < 134 := by decide
theorem lt127 : 127 < 134 := by decide
theorem lt128 : 128 < 134 := by decide
theorem lt129 : 129 < 134 := by decide
/-- the reference's year y -/
def ryH (y n : Nat) (Y : hYr) (hi : en_I) : Prop := hi 125 y = iI n ∧ n ≤ 20 ∧ ∀ i, i < n → hi 126 (40 * y + i) = iI (Y i).1.1 ∧ hi 127 (40 * y + i) = iI (Y i).1.2.1 ∧ hi 128 (40 * y + i) = iI (Y i).1.2.2 ∧ hi 129 (40 * y + i) = iI (Y i).2 ∧ wOK (Y i).1 ∧ 1 ≤ (Y i).2 ∧ (Y i).2 ≤ 9
theorem ryH.fr {y n : Nat} {Y : hYr} {P : Nat → Prop} {hi' : en_I} (h : ryH y n Y hi) (F : Fr P hi hi') (hP : ∀ x, 125 ≤ x → x ≤ 129 → ¬ P x) : ryH y n Y hi' := by
  have e : ∀ x, 125 ≤ x → x ≤ 129 → hi' x = hi x := fun x g1 g2 => F x (hP x g1 g2)
  obtain ⟨h1, h2, h3⟩ := h
  refine ⟨by rw [e 125 (by omega) (by omega)]; exact h1, h2, fun i hi9 => ?_⟩
  rw [e 126 (by omega) (by omega), e 127 (by omega) (by omega), e 128 (by omega) (by omega), e 129 (by omega) (by omega)]
  exact h3 i hi9
theorem rfB.fr {P : Nat → Prop} {hi' : en_I} (h : rfB b hi) (F : Fr P hi hi') (hP : ¬ P 113) : rfB b hi' := fun j hj => by rw [F 113 hP]; exact h j hj
theorem m_runs {l y n : Nat} {Y : hYr} (hR : rfR hr) (hE : eOK E) (hb : rfB b hi) (hbE : rbE E b) (hV : rwV G l E.1 hi) (hq : rsH q hi) (hO : hOK E q) (hy : y < 4) (hY : ryH y n Y hi)
    (H : ∀ hi', Fr Pmo hi hi' → rsH (yrP E Y n q) hi' → hOK E (yrP E Y n q) → (∀ j, 630 ≤ j → j ≠ 833 → hi' 115 j = hi 115 j) → K (.inl (some (.int (iI ((yrP E Y n q).2.2.2.2.2 - q.2.2.2.2.2))))) hi' hl hr) :
    en_Call G (d + 7) xc xs Y_X11_runs wN wN [.ref 110, .int (iI l), .int (iI y)] hi hl hr K := by
  obtain ⟨⟨-, -, r10, -, r12, -⟩, -, r26, r27, r28, r29, r30, -⟩ := id hR
  have nP : ¬ Pmo 113 := by unfold Pmo; omega
  have nY : ∀ x, 125 ≤ x → x ≤ 129 → ¬ Pmo x := fun x g1 g2 g => by unfold Pmo at g; omega
  have n20 := hY.2.1
  apply en_X11_runs
  simp (disch := omega) only [B_X11_runs_0, en_ops, en_opc, iI_add, iI_mul, iI_sub, jL_add, jL_mul, iI_le, iI_lt, iI_eq, iI_eq0, iI_lt0, iI_0le, iI_le0, iI_0lt, jL_iI, iI_jL, lc_eq, lc_lt, lc_le, lc_ge, lc_gt, Nat.sub_zero, Nat.zero_le, true_and, and_true, Nat.reduceAdd, Nat.reduceLeDiff]
  suffices L9 : ∀ i : Nat, i ≤ n → ∀ (h9 : en_I) (x5 : Value), Fr Pmo hi h9 → (∀ j, 630 ≤ j → j ≠ 833 → h9 115 j = hi 115 j) → rsH (yrP E Y i q) h9 → hOK E (yrP E Y i q) → en_V G Y_X11_runs (d + 7) wN wN K 8 [.ref 110, .int (iI l), .int (iI y), .int (iI ((yrP E Y i q).2.2.2.2.2 - q.2.2.2.2.2)), .int (iI (40 * (y : Int) + i)), x5] [] h9 hl hr xc xs by
    have := L9 0 (by omega) hi jk Fr.rf (fun _ _ _ => rfl) hq hO
    rw [show (yrP E Y 0 q).2.2.2.2.2 - q.2.2.2.2.2 = 0 from Int.sub_self _, show 40 * (y : Int) + (0 : Nat) = 40 * (y : Int) by omega] at this
    exact this
  refine lp n (fun h9 x5 F9 R9 Q9 O9 => ?_) (fun i hi9 ih h9 x5 F9 R9 Q9 O9 => ?_)
  · have Y9 := hY.fr F9 nY
    apply s_X11_runs_8
    simp (disch := omega) only [B_X11_runs_8, r26, sh110, lt110, sh125, lt125, en_ops, en_opc, iI_add, iI_mul, iI_sub, jL_add, jL_mul, iI_le, iI_lt, iI_eq, iI_eq0, iI_lt0, iI_0le, iI_le0, iI_0lt, jL_iI, iI_jL, lc_eq, lc_lt, lc_le, lc_ge, lc_gt, Nat.sub_zero, Nat.zero_le, true_and, and_true, Nat.reduceAdd, Nat.reduceLeDiff]
    refine ⟨y, rfl, by omega, ?_⟩
    rw [Y9.1]
    simp (disch := omega) only [en_ops, en_opc, iI_add, iI_mul, iI_sub, jL_add, jL_mul, iI_le, iI_lt, iI_eq, iI_eq0, iI_lt0, iI_0le, iI_le0, iI_0lt, jL_iI, iI_jL, lc_eq, lc_lt, lc_le, lc_ge, lc_gt, Nat.sub_zero, Nat.zero_le, true_and, and_true, Nat.reduceAdd, Nat.reduceLeDiff]
    exact ⟨fun _ => H h9 F9 Q9 O9 R9, fun e => by omega⟩
  · have Y9 := hY.fr F9 nY
    obtain ⟨u1, u2, u3, u4, u5, u6, u7⟩ := Y9.2.2 i hi9
    apply s_X11_runs_8
    simp (disch := omega) only [B_X11_runs_8, r26, sh110, lt110, sh125, lt125, en_ops, en_opc, iI_add, iI_mul, iI_sub, jL_add, jL_mul, iI_le, iI_lt, iI_eq, iI_eq0, iI_lt0, iI_0le, iI_le0, iI_0lt, jL_iI, iI_jL, lc_eq, lc_lt, lc_le, lc_ge, lc_gt, Nat.sub_zero, Nat.zero_le, true_and, and_true, Nat.reduceAdd, Nat.reduceLeDiff]
    refine ⟨y, rfl, by omega, ?_⟩
    rw [Y9.1]
    simp (disch := omega) only [en_ops, en_opc, iI_add, iI_mul, iI_sub, jL_add, jL_mul, iI_le, iI_lt, iI_eq, iI_eq0, iI_lt0, iI_0le, iI_le0, iI_0lt, jL_iI, iI_jL, lc_eq, lc_lt, lc_le, lc_ge, lc_gt, Nat.sub_zero, Nat.zero_le, true_and, and_true, Nat.reduceAdd, Nat.reduceLeDiff]
    refine ⟨fun e => by omega, fun _ => ?_⟩
    suffices L8 : ∀ t : Nat, t ≤ (Y i).2 → ∀ h7, Fr Pmo hi h7 → (∀ j, 630 ≤ j → j ≠ 833 → h7 115 j = hi 115 j) → rsH (rpP E (Y i).1 t (yrP E Y i q)) h7 → hOK E (rpP E (Y i).1 t (yrP E Y i q)) → en_V G Y_X11_runs (d + 7) wN wN K 27 [.ref 110, .int (iI l), .int (iI y), .int (iI ((rpP E (Y i).1 t (yrP E Y i q)).2.2.2.2.2 - q.2.2.2.2.2)), .int (iI (40 * (y : Int) + i)), .int (iI t)] [] h7 hl hr xc xs by
      exact L8 0 (by omega) h9 F9 R9 Q9 O9
    have en : (40 * (y : Int) + i + 1) = 40 * (y : Int) + ((i + 1 : Nat) : Int) := by omega
    refine lp (Y i).2 (fun h7 F7 R7 Q7 O7 => ?_) (fun t ht ih7 h7 F7 R7 Q7 O7 => ?_)
    · have Y7 := hY.fr F7 nY
      have u7' := (Y7.2.2 i hi9).2.2.2.1
      apply s_X11_runs_27
      simp (disch := omega) only [B_X11_runs_27, r30, sh110, lt110, sh129, lt129, en_ops, en_opc, iI_add, iI_mul, iI_sub, jL_add, jL_mul, iI_le, iI_lt, iI_eq, iI_eq0, iI_lt0, iI_0le, iI_le0, iI_0lt, jL_iI, iI_jL, lc_eq, lc_lt, lc_le, lc_ge, lc_gt, Nat.sub_zero, Nat.zero_le, true_and, and_true, Nat.reduceAdd, Nat.reduceLeDiff]
      refine ⟨40 * y + i, iI_eq_of (by omega), by omega, ?_⟩
      rw [u7']
      simp (disch := omega) only [en_ops, en_opc, iI_add, iI_mul, iI_sub, jL_add, jL_mul, iI_le, iI_lt, iI_eq, iI_eq0, iI_lt0, iI_0le, iI_le0, iI_0lt, jL_iI, iI_jL, lc_eq, lc_lt, lc_le, lc_ge, lc_gt, Nat.sub_zero, Nat.zero_le, true_and, and_true, Nat.reduceAdd, Nat.reduceLeDiff]
      refine ⟨fun _ => ?_, fun e => absurd (Int.le_refl _) e⟩
      rw [en]
      exact ih h7 _ F7 R7 Q7 O7
    · have Y7 := hY.fr F7 nY
      obtain ⟨z1, z2, z3, z4, -⟩ := Y7.2.2 i hi9
      have e11 := Q7.2.2.2.2.2.1
      obtain ⟨-, -, -, o4, o5⟩ := id O7
      apply s_X11_runs_27
      simp (disch := omega) only [B_X11_runs_27, r12, r27, r28, r29, r30, sh110, lt110, sh115, lt115, sh126, lt126, sh127, lt127, sh128, lt128, sh129, lt129, en_ops, en_opc, iI_add, iI_mul, iI_sub, jL_add, jL_mul, iI_le, iI_lt, iI_eq, iI_eq0, iI_lt0, iI_0le, iI_le0, iI_0lt, jL_iI, iI_jL, lc_eq, lc_lt, lc_le, lc_ge, lc_gt, Nat.sub_zero, Nat.zero_le, true_and, and_true, Nat.reduceAdd, Nat.reduceLeDiff]
      refine ⟨40 * y + i, iI_eq_of (by omega), by omega, ?_⟩
      rw [z4]
      simp (disch := omega) only [en_ops, en_opc, iI_add, iI_mul, iI_sub, jL_add, jL_mul, iI_le, iI_lt, iI_eq, iI_eq0, iI_lt0, iI_0le, iI_le0, iI_0lt, jL_iI, iI_jL, lc_eq, lc_lt, lc_le, lc_ge, lc_gt, Nat.sub_zero, Nat.zero_le, true_and, and_true, Nat.reduceAdd, Nat.reduceLeDiff]
      refine ⟨fun e => by omega, fun _ => ⟨624, rfl, by decide, ?_⟩⟩
      rw [e11]
      simp (disch := omega) only [en_ops, en_opc, iI_add, iI_mul, iI_sub, jL_add, jL_mul, iI_le, iI_lt, iI_eq, iI_eq0, iI_lt0, iI_0le, iI_le0, iI_0lt, jL_iI, iI_jL, lc_eq, lc_lt, lc_le, lc_ge, lc_gt, Nat.sub_zero, Nat.zero_le, true_and, and_true, Nat.reduceAdd, Nat.reduceLeDiff]
      refine ⟨fun e => ?_, fun e => ⟨40 * y + i, iI_eq_of (by omega), by omega, 40 * y + i, iI_eq_of (by omega), by omega, 40 * y + i, iI_eq_of (by omega), by omega, ?_⟩⟩
      · have st := rpP_stop (E := E) (w := (Y i).1) (k := t) (q := yrP E Y i q) (by omega) (Y i).2 (by omega)
        have hy9 : yrP E Y (i + 1) q = rpP E (Y i).1 t (yrP E Y i q) := st
        rw [hy9] at ih
        rw [en]
        exact ih h7 _ F7 R7 Q7 O7
      · rw [z1, z2, z3]
        have st : rpP E (Y i).1 (t + 1) (yrP E Y i q) = hrP E (Y i).1 (rpP E (Y i).1 t (yrP E Y i q)) := if_pos (by omega)
        rw [st] at ih7
        refine m_hour (d := d) (b := b) hR hE (hb.fr F7 nP) hbE (hV.mono (rwE.frm rwE.rf F7 Pmo.n)) Q7 O7 (by omega) u5 (fun h6 F6 Q6 O6 R6 => ?_)
        simp (disch := omega) only [en_ops, en_opc, iI_add, iI_mul, iI_sub, jL_add, jL_mul, iI_le, iI_lt, iI_eq, iI_eq0, iI_lt0, iI_0le, iI_le0, iI_0lt, jL_iI, iI_jL, lc_eq, lc_lt, lc_le, lc_ge, lc_gt, Nat.sub_zero, Nat.zero_le, true_and, and_true, Nat.reduceAdd, Nat.reduceLeDiff]
        have i9 := ih7 h6 (F7.tr F6) (fun j j1 j2 => by rw [R6 j j1 j2]; exact R7 j j1 j2) Q6 O6
        have eh : (hrP E (Y i).1 (rpP E (Y i).1 t (yrP E Y i q))).2.2.2.2.2 - q.2.2.2.2.2 = (rpP E (Y i).1 t (yrP E Y i q)).2.2.2.2.2 - q.2.2.2.2.2 + 1 := by
          show (rpP E (Y i).1 t (yrP E Y i q)).2.2.2.2.2 + 1 - q.2.2.2.2.2 = _
          omega
        rw [eh] at i9
        exact i9
end
-- DRAFT 56
def bt (x : Int32) (i : Nat) : Bool := x.toBitVec.getLsbD i
theorem b_ext {x y : Int32} (h : ∀ i, i < 32 → bt x i = bt y i) : x = y := Int32.toBitVec_inj.mp (BitVec.eq_of_getLsbD_eq (fun i hi => h i hi))
theorem b_or (x y : Int32) (i : Nat) : bt (x ||| y) i = (bt x i || bt y i) := by unfold bt; rw [Int32.toBitVec_or, BitVec.getLsbD_or]
theorem b_and (x y : Int32) (i : Nat) : bt (x &&& y) i = (bt x i && bt y i) := by unfold bt; rw [Int32.toBitVec_and, BitVec.getLsbD_and]
theorem b_xor (x y : Int32) (i : Nat) : bt (x ^^^ y) i = (bt x i ^^ bt y i) := by unfold bt; rw [Int32.toBitVec_xor, BitVec.getLsbD_xor]
theorem b_big {x : Int32} {i : Nat} (h : 32 ≤ i) : bt x i = false := BitVec.getLsbD_of_ge _ _ h
theorem b_0 (i : Nat) : bt 0 i = false := BitVec.getLsbD_zero
theorem s_l : ∀ n, n < 32 → ((nI n &&& 31).toBitVec.smod 32).toNat = n := by decide +kernel
theorem s_u : ∀ n, n < 32 → (((nI n).toUInt32 &&& Int32.toUInt32 31).toBitVec % 32).toNat = n := by decide +kernel
theorem b_shl (n : Nat) (hn : n < 32) (x : Int32) {i : Nat} (hi : i < 32) : bt (x <<< (nI n &&& 31)) i = (decide (n ≤ i) && bt x (i - n)) := by
  unfold bt
  rw [Int32.toBitVec_shiftLeft]
  show (x.toBitVec <<< ((nI n &&& 31).toBitVec.smod 32).toNat).getLsbD i = _
  rw [s_l n hn, BitVec.getLsbD_shiftLeft]
  rcases Nat.lt_or_ge i n with h | h
  · simp [h, Nat.not_le.mpr h]
  · simp [hi, h, Nat.not_lt.mpr h]
theorem b_ushr (n : Nat) (hn : n < 32) (x : Int32) (i : Nat) : bt ((x.toUInt32 >>> ((nI n).toUInt32 &&& Int32.toUInt32 31)).toInt32) i = bt x (n + i) := by
  show (x.toUInt32 >>> ((nI n).toUInt32 &&& Int32.toUInt32 31)).toBitVec.getLsbD i = x.toUInt32.toBitVec.getLsbD (n + i)
  rw [UInt32.toBitVec_shiftRight]
  show (x.toUInt32.toBitVec >>> (((nI n).toUInt32 &&& Int32.toUInt32 31).toBitVec % 32).toNat).getLsbD i = _
  rw [s_u n hn, BitVec.getLsbD_ushiftRight]
theorem b_sshr (n : Nat) (hn : n < 32) (x : Int32) {i : Nat} (hi : i < 32) : bt (x >>> (nI n &&& 31)) i = if n + i < 32 then bt x (n + i) else bt x 31 := by
  unfold bt
  rw [Int32.toBitVec_shiftRight]
  show (x.toBitVec.sshiftRight ((nI n &&& 31).toBitVec.smod 32).toNat).getLsbD i = _
  rw [s_l n hn, BitVec.getLsbD_sshiftRight, BitVec.msb_eq_getLsbD_last]
  simp [hi]
theorem bt_i (b : Nat) {i : Nat} (hi : i < 32) : bt (iI (b : Int)) i = b.testBit i := by
  rw [iI_nat]
  show (BitVec.ofNat 32 b).getLsbD i = _
  rw [BitVec.getLsbD_ofNat]
  simp [hi]
theorem bt_0 : ∀ i, i < 32 → bt (iI 0) i = false := by decide +kernel
theorem bt_1 : ∀ i, i < 32 → bt (iI 1) i = decide (i = 0) := by decide +kernel
theorem bt_15 : ∀ i, i < 32 → bt (iI 32767) i = decide (i < 15) := by decide +kernel
theorem sh_bt {x : Int32} {c : Nat} (hc : c < 32) : x >>> (iI (c : Int) &&& 31) &&& iI 1 = if bt x c then iI 1 else iI 0 := by
  apply b_ext
  intro i hi
  rw [b_and, iI_nat c, b_sshr c hc _ hi, bt_1 i hi]
  by_cases e : i = 0
  · subst e
    rw [if_pos (by omega), Nat.add_zero]
    cases h : bt x c
    · simp [bt_0]
    · simp [bt_1]
  · have : bt (if bt x c then iI 1 else iI 0) i = false := by
      cases h : bt x c
      · simp [bt_0 i hi]
      · simp [bt_1 i hi, e]
    rw [this]; simp [e]
theorem sh_1 {b c : Nat} (hc : c < 32) (h : b.testBit c = true) : iI (b : Int) >>> (iI (c : Int) &&& 31) &&& iI 1 = iI 1 := by
  rw [sh_bt hc, bt_i b hc, h]; rfl
theorem sh_0 {b c : Nat} (hc : c < 32) (h : b.testBit c = false) : iI (b : Int) >>> (iI (c : Int) &&& 31) &&& iI 1 = iI 0 := by
  rw [sh_bt hc, bt_i b hc, h]; rfl
theorem shl_1 : ∀ c : Nat, c < 31 → iI 1 <<< (iI (c : Int) &&& 31) = iI ((2 ^ c : Nat) : Int) := by decide +kernel
theorem or_at (a b : Nat) : iI (a : Int) ||| iI (b : Int) = iI ((a ||| b : Nat) : Int) := by
  apply b_ext
  intro i hi
  rw [b_or, bt_i a hi, bt_i b hi, bt_i _ hi, Nat.testBit_or]
/-- a draw -/
def ldP (s : Int32) : Int32 := s * iI 1103515245 + iI 12345
def lkP (s : Int32) : Nat := s.toBitVec.toNat / 65536 % 32768
theorem lk_bt (s : Int32) {i : Nat} (hi : i < 32) : bt (iI (lkP s : Int)) i = (bt s (16 + i) && decide (i < 15)) := by
  rw [bt_i _ hi]
  unfold lkP bt
  rw [show (32768 : Nat) = 2 ^ 15 by rfl, Nat.testBit_mod_two_pow, show (65536 : Nat) = 2 ^ 16 by rfl, ← Nat.shiftRight_eq_div_pow, Nat.testBit_shiftRight, BitVec.testBit_toNat, Bool.and_comm]
theorem lk_u (s : Int32) : (s.toUInt32 >>> ((iI 16).toUInt32 &&& Int32.toUInt32 31)).toInt32 &&& iI 32767 = iI (lkP s : Int) := by
  apply b_ext
  intro i hi
  rw [lk_bt s hi, b_and, bt_15 i hi, show iI 16 = nI 16 from iI_nat 16, b_ushr 16 (by omega)]
theorem lk_s (s : Int32) : s >>> (iI 16 &&& 31) &&& iI 32767 = iI (lkP s : Int) := by
  apply b_ext
  intro i hi
  rw [lk_bt s hi, b_and, bt_15 i hi, show iI 16 = nI 16 from iI_nat 16, b_sshr 16 (by omega) _ hi]
  by_cases e : i < 15
  · rw [if_pos (by omega)]
  · simp [e]
theorem lk_lt (s : Int32) : lkP s < 32768 := Nat.mod_lt _ (by decide)
/-! how many bits are set -/
def onF : Nat → Nat → Nat
  | 0, _ => 0
  | n + 1, k => if k = 0 then 0 else onF n (k &&& (k - 1)) + 1
def onE : Nat → Nat → Bool
  | 0, k => k == 0
  | n + 1, k => if k = 0 then true else onE n (k &&& (k - 1))
def bcF (x0 : Int32) : Int32 :=
  let x1 := x0 - ((x0.toUInt32 >>> ((iI 1).toUInt32 &&& Int32.toUInt32 31)).toInt32 &&& iI 1431655765)
  let x2 := (x1 &&& iI 858993459) + ((x1.toUInt32 >>> ((iI 2).toUInt32 &&& Int32.toUInt32 31)).toInt32 &&& iI 858993459)
  let x3 := (x2 + (x2.toUInt32 >>> ((iI 4).toUInt32 &&& Int32.toUInt32 31)).toInt32) &&& iI 252645135
  let x4 := x3 + (x3.toUInt32 >>> ((iI 8).toUInt32 &&& Int32.toUInt32 31)).toInt32
  let x5 := x4 + (x4.toUInt32 >>> ((iI 16).toUInt32 &&& Int32.toUInt32 31)).toInt32
  x5 &&& iI 63
theorem on_e : ∀ a, a < 64 → ∀ b, b < 64 → onE 12 (64 * a + b) = true := by decide +kernel
theorem bc_e : ∀ a, a < 64 → ∀ b, b < 64 → bcF (iI ((64 * a + b : Nat) : Int)) = iI (onF 12 (64 * a + b) : Int) := by decide +kernel
def bcN (b : Nat) : Nat := onF 12 b
theorem on_all {b : Nat} (h : b < 4096) : onE 12 b = true := by
  have := on_e (b / 64) (by omega) (b % 64) (by omega)
  rwa [show 64 * (b / 64) + b % 64 = b by omega] at this
theorem bc_all {b : Nat} (h : b < 4096) : bcF (iI (b : Int)) = iI (bcN b : Int) := by
  have := bc_e (b / 64) (by omega) (b % 64) (by omega)
  rwa [show 64 * (b / 64) + b % 64 = b by omega] at this
theorem bc_le {b : Nat} : bcN b ≤ 12 := by
  have : ∀ n k, onF n k ≤ n := by
    intro n
    induction n with
    | zero => intro k; exact Nat.le_refl _
    | succ n ih =>
      intro k
      show (if k = 0 then 0 else onF n (k &&& (k - 1)) + 1) ≤ n + 1
      split
      · omega
      · have := ih (k &&& (k - 1)); omega
  exact this 12 b
section
variable {G : en_G} {d : Nat} {K : en_K} {hi : en_I} {hl : en_L} {hr : en_F} {xc xs : Nat}
theorem t_bitCount {b : Nat} (hb : b < 4096) (H : K (.inl (some (.int (iI (bcN b : Int))))) hi hl hr) : en_Call G (d + 1) xc xs Y_J6_bitCount_0f7a4 wN wN [.int (iI (b : Int))] hi hl hr K := by
  apply en_J6_bitCount_0f7a4
  simp only [B_J6_bitCount_0f7a4_0, en_ops, en_opc]
  rw [← bc_all hb] at H
  exact H
theorem and_at (a b : Nat) : iI (a : Int) &&& iI (b : Int) = iI ((a &&& b : Nat) : Int) := by
  apply b_ext
  intro i hi
  rw [b_and, bt_i a hi, bt_i b hi, bt_i _ hi, Nat.testBit_and]
theorem m_ones {b : Nat} (hb : b < 4096) (H : K (.inl (some (.int (iI (bcN b : Int))))) hi hl hr) : en_Call G (d + 1) xc xs Y_X11_ones wN wN [.int (iI (b : Int))] hi hl hr K := by
  apply en_X11_ones
  simp (disch := omega) only [B_X11_ones_0, en_ops, en_opc, iI_add, iI_mul, iI_sub, jL_add, jL_mul, iI_le, iI_lt, iI_eq, iI_eq0, iI_lt0, iI_0le, iI_le0, iI_0lt, jL_iI, iI_jL, lc_eq, lc_lt, lc_le, lc_ge, lc_gt, Nat.sub_zero, Nat.zero_le, true_and, and_true, Nat.reduceAdd, Nat.reduceLeDiff]
  suffices L : ∀ n k m : Nat, onE n k = true → k < 4096 → m + onF n k = bcN b → en_V G Y_X11_ones (d + 1) wN wN K 4 [.int (iI (b : Int)), .int (iI (m : Int)), .int (iI (k : Int))] [] hi hl hr xc xs from L 12 b 0 (on_all hb) hb (Nat.zero_add _)
  intro n
  induction n with
  | zero =>
    intro k m hk hk2 hm
    have k0 : k = 0 := by have : (k == 0) = true := hk; simpa using this
    subst k0
    have m0 : m = bcN b := hm
    apply s_X11_ones_4
    simp (disch := omega) only [B_X11_ones_4, en_ops, en_opc, iI_add, iI_mul, iI_sub, jL_add, jL_mul, iI_le, iI_lt, iI_eq, iI_eq0, iI_lt0, iI_0le, iI_le0, iI_0lt, jL_iI, iI_jL, lc_eq, lc_lt, lc_le, lc_ge, lc_gt, Nat.sub_zero, Nat.zero_le, true_and, and_true, Nat.reduceAdd, Nat.reduceLeDiff]
    refine ⟨fun _ => by rw [m0]; exact H, fun e => absurd rfl e⟩
  | succ n ih =>
    intro k m hk hk2 hm
    apply s_X11_ones_4
    simp (disch := omega) only [B_X11_ones_4, en_ops, en_opc, iI_add, iI_mul, iI_sub, jL_add, jL_mul, iI_le, iI_lt, iI_eq, iI_eq0, iI_lt0, iI_0le, iI_le0, iI_0lt, jL_iI, iI_jL, lc_eq, lc_lt, lc_le, lc_ge, lc_gt, Nat.sub_zero, Nat.zero_le, true_and, and_true, Nat.reduceAdd, Nat.reduceLeDiff]
    by_cases k0 : k = 0
    · subst k0
      have m0 : m = bcN b := hm
      refine ⟨fun _ => by rw [m0]; exact H, fun e => absurd rfl e⟩
    · have hk' : onE n (k &&& (k - 1)) = true := by
        have : (if k = 0 then true else onE n (k &&& (k - 1))) = true := hk
        rwa [if_neg k0] at this
      have hm' : m + (if k = 0 then 0 else onF n (k &&& (k - 1)) + 1) = bcN b := hm
      rw [if_neg k0] at hm'
      refine ⟨fun e => by omega, fun _ => ?_⟩
      rw [show (k : Int) - 1 = ((k - 1 : Nat) : Int) by omega, and_at]
      have lt : k &&& (k - 1) ≤ k := Nat.and_le_left
      exact ih _ (m + 1) hk' (by omega) (by omega)
end
-- DRAFT 57
section
variable {G : en_G} {d : Nat} {K : en_K} {a : Nat} {E : hEnv} {q : hSt} {hi : en_I} {hl : en_L} {hr : en_F} {xc xs : Nat}
def wlE (E : hEnv) (wl : Nat → Int) : hEnv := (E.1, E.2.1, E.2.2.1, wl, E.2.2.2.2)
def bwP (nc bits : Nat) (p : Int) (wl : Nat → Int) (c : Nat) : Int := if c < nc ∧ bits.testBit c = true then p else wl c
theorem eOK.wl {wl : Nat → Int} (h : eOK E) (hw : ∀ c, c < 12 → 0 ≤ wl c ∧ wl c ≤ 16) : eOK (wlE E wl) := ⟨h.1, hw, h.2.2⟩
theorem hsH.frP {P : Nat → Prop} {hi' : en_I} (h : hsH a E q hi) (F : Fr P hi hi') (hP : ∀ x, a ≤ x → x ≤ a + 7 → ¬ P x) : hsH a E q hi' := by
  have ee : ∀ x, a ≤ x → x ≤ a + 7 → hi' x = hi x := fun x h1 h2 => F x (hP x h1 h2)
  obtain ⟨⟨x0, x1, x2, x3, x4⟩, y2, y3, y4, y5, y6, y7⟩ := h
  refine ⟨⟨by rw [ee a (by omega) (by omega)]; exact x0, by rw [ee a (by omega) (by omega)]; exact x1, x2, x3, fun c z k hc hz hk => by rw [ee (a + 1) (by omega) (by omega)]; exact x4 c z k hc hz hk⟩, fun c hc => by rw [ee (a + 2) (by omega) (by omega)]; exact y2 c hc, fun c hc => by rw [ee (a + 3) (by omega) (by omega)]; exact y3 c hc, fun c hc => by rw [ee (a + 4) (by omega) (by omega)]; exact y4 c hc, fun i hi9 => by rw [ee (a + 7) (by omega) (by omega)]; exact y5 i hi9, by rw [ee a (by omega) (by omega)]; exact y6, by rw [ee a (by omega) (by omega)]; exact y7⟩
def lzP (E : hEnv) (Y : hYr) (n : Nat) : Nat → Int32 × hSt → Int32 × hSt
  | 0, s => s
  | k + 1, s => if (lzP E Y n k s).2.2.2.2.2.2 < 600 then (ldP (lzP E Y n k s).1, hrP E (Y (lkP (ldP (lzP E Y n k s).1) % n)).1 (lzP E Y n k s).2) else lzP E Y n k s
theorem lzP_stop {Y : hYr} {n k : Nat} {s : Int32 × hSt} (h : ¬ (lzP E Y n k s).2.2.2.2.2.2 < 600) : ∀ m, k ≤ m → lzP E Y n m s = lzP E Y n k s := by
  intro m hm
  induction m with
  | zero => rw [show k = 0 by omega]
  | succ m ih =>
    by_cases e : k = m + 1
    · rw [e]
    · have := ih (by omega)
      show (if (lzP E Y n m s).2.2.2.2.2.2 < 600 then _ else lzP E Y n m s) = _
      rw [this, if_neg h]
theorem t_rollLots {pl L y n m : Nat} {Y : hYr} {x : Int32} (hS : seS pl L hr) (hE : eOK E) (hse : seH G pl L E hi) (ha : isSh a) (hR : shR a hr) (hq : hsH a E q hi) (hO : hOK E q) (hy : isYe y) (hyR : yeR y hr) (hY : yeH y n Y hi) (hn : 1 ≤ n) (hay : a + 7 < 66 ∨ 86 ≤ a) (hm : m ≤ 200)
    (H : ∀ hi', Fa a hi hi' → hsH a E (lzP E Y n m (x, q)).2 hi' → hOK E (lzP E Y n m (x, q)).2 → seH G pl L E hi' → K (.inl (some (.int (iI ((lzP E Y n m (x, q)).2.2.2.2.2.2 - q.2.2.2.2.2))))) hi' hl hr) :
    en_Call G (d + 6) xc xs Y_X4_rollLots wN wN [.ref 34, .ref a, .ref L, .ref y, .int (iI m), .int x] hi hl hr K := by
  obtain ⟨s0, s1, -⟩ := ha.sh
  obtain ⟨l0, l1, l2, l3, l4, l5, l6⟩ := hy.sh
  have q0 : y < 134 := by omega
  have hpl := hS.2.2.1
  have hL := hS.2.2.2.2.1
  have h11 := hq.2.2.2.2.2.2
  have n20 := hY.2.1
  have pY : ∀ x, 66 ≤ x → x < 86 → ¬ Prl a x := fun x h1 h2 g => by unfold Prl at g; omega
  apply en_X4_rollLots
  simp (disch := omega) only [B_X4_rollLots_0, s0, s1, h11, en_ops, en_opc, iI_add, iI_mul, iI_sub, jL_add, jL_mul, iI_le, iI_lt, iI_eq, iI_eq0, iI_lt0, iI_0le, iI_le0, iI_0lt, jL_iI, iI_jL, lc_eq, lc_lt, lc_le, lc_ge, lc_gt, Nat.sub_zero, Nat.zero_le, true_and, and_true, Nat.reduceAdd, Nat.reduceLeDiff]
  suffices L9 : ∀ i : Nat, i ≤ m → ∀ (h9 : en_I), Fa a hi h9 → hsH a E (lzP E Y n i (x, q)).2 h9 → hOK E (lzP E Y n i (x, q)).2 → seH G pl L E h9 → en_V G Y_X4_rollLots (d + 6) wN wN K 13 [.ref 34, .ref a, .ref L, .ref y, .int (iI m), .int x, .int (iI q.2.2.2.2.2), .int (lzP E Y n i (x, q)).1, .int (iI i)] [] h9 hl hr xc xs from L9 0 (by omega) hi Fa.rf hq hO hse
  refine lp m (fun h9 F9 Q9 O9 S9 => ?_) (fun i hi9 ih h9 F9 Q9 O9 S9 => ?_)
  · have e11 := Q9.2.2.2.2.2.2
    apply s_X4_rollLots_13
    simp (disch := omega) only [B_X4_rollLots_13, s0, s1, e11, en_ops, en_opc, iI_add, iI_mul, iI_sub, jL_add, jL_mul, iI_le, iI_lt, iI_eq, iI_eq0, iI_lt0, iI_0le, iI_le0, iI_0lt, jL_iI, iI_jL, lc_eq, lc_lt, lc_le, lc_ge, lc_gt, Nat.sub_zero, Nat.zero_le, true_and, and_true, Nat.reduceAdd, Nat.reduceLeDiff]
    exact ⟨fun _ => H h9 F9 Q9 O9 S9, fun e => absurd (Int.le_refl _) e⟩
  · have e11 := Q9.2.2.2.2.2.2
    have Y9 : yeH y n Y h9 := hY.fr hy F9.1 pY
    have n9 : h9 y 4 = iI n := Y9.1
    obtain ⟨-, -, -, o4, o5⟩ := id O9
    apply s_X4_rollLots_13
    simp (disch := omega) only [B_X4_rollLots_13, s0, s1, e11, l0, q0, n9, en_ops, en_opc, iI_add, iI_mul, iI_sub, jL_add, jL_mul, iI_le, iI_lt, iI_eq, iI_eq0, iI_lt0, iI_0le, iI_le0, iI_0lt, jL_iI, iI_jL, lc_eq, lc_lt, lc_le, lc_ge, lc_gt, Nat.sub_zero, Nat.zero_le, true_and, and_true, Nat.reduceAdd, Nat.reduceLeDiff]
    by_cases hh : (lzP E Y n i (x, q)).2.2.2.2.2.2 < 600
    · have st : lzP E Y n (i + 1) (x, q) = (ldP (lzP E Y n i (x, q)).1, hrP E (Y (lkP (ldP (lzP E Y n i (x, q)).1) % n)).1 (lzP E Y n i (x, q)).2) := if_pos hh
      rw [st] at ih
      generalize hx : lzP E Y n i (x, q) = s at *
      have el : ((s.1 * iI 1103515245 + iI 12345).toUInt32 >>> ((iI 16).toUInt32 &&& Int32.toUInt32 31)).toInt32 &&& iI 32767 = iI (lkP (ldP s.1) : Int) := lk_u (ldP s.1)
      have l9 := lk_lt (ldP s.1)
      have lm : lkP (ldP s.1) % n < n := Nat.mod_lt _ (by omega)
      refine ⟨fun e => by omega, fun _ => ⟨fun e => by omega, fun _ => ⟨fun e => by omega, fun _ => ⟨by omega, ?_⟩⟩⟩⟩
      have ed : (lkP (ldP s.1) : Int) - (lkP (ldP s.1) : Int) / (n : Int) * (n : Int) = ((lkP (ldP s.1) % n : Nat) : Int) := by
        rw [show ((lkP (ldP s.1) % n : Nat) : Int) = (lkP (ldP s.1) : Int) % (n : Int) from rfl, Int.emod_def, Int.mul_comm]
      rw [el, iI_div (by omega) (by omega) (by omega) (by omega), iI_mul, iI_sub, ed]
      refine ⟨⟨by decide, by decide⟩, ?_⟩
      refine t_setWaveOf (d := d + 3) hS.1 hy hyR Y9 lm (fun h8 F8 W8 => ?_)
      simp (disch := omega) only [en_ops, en_opc, iI_add, iI_mul, iI_sub, jL_add, jL_mul, iI_le, iI_lt, iI_eq, iI_eq0, iI_lt0, iI_0le, iI_le0, iI_0lt, jL_iI, iI_jL, lc_eq, lc_lt, lc_le, lc_ge, lc_gt, Nat.sub_zero, Nat.zero_le, true_and, and_true, Nat.reduceAdd, Nat.reduceLeDiff]
      obtain ⟨u1, u2, u3, u4, u5, u6, u7⟩ := Y9.2.2 _ lm
      refine ⟨⟨by decide, by decide⟩, ?_⟩
      refine t_hour (d := d) hS hE (S9.fr35 hpl hL F8 (fun x g1 g2 => g1 g2)) ha hR (Q9.fr35 ha F8 (fun x g1 g2 => by omega)) O9 (by omega) W8 u5 (fun h6 F6 A6 Q6 O6 S6 W6 => ?_)
      simp (disch := omega) only [en_ops, en_opc, iI_add, iI_mul, iI_sub, jL_add, jL_mul, iI_le, iI_lt, iI_eq, iI_eq0, iI_lt0, iI_0le, iI_le0, iI_0lt, jL_iI, iI_jL, lc_eq, lc_lt, lc_le, lc_ge, lc_gt, Nat.sub_zero, Nat.zero_le, true_and, and_true, Nat.reduceAdd, Nat.reduceLeDiff]
      exact ih h6 ((F9.tr (Fa.w ha F8)).tr ⟨F6, A6⟩) Q6 O6 S6
    · have st := lzP_stop hh m (by omega)
      rw [st] at H
      exact ⟨fun e => by omega, fun _ => ⟨fun _ => H h9 F9 Q9 O9 S9, fun e => by omega⟩⟩
theorem bwP_r {nc bits : Nat} {p : Int} {wl : Nat → Int} (hp : 0 ≤ p ∧ p ≤ 16) (hw : ∀ c, c < 12 → 0 ≤ wl c ∧ wl c ≤ 16) : ∀ c, c < 12 → 0 ≤ bwP nc bits p wl c ∧ bwP nc bits p wl c ≤ 16 := fun c hc => by
  unfold bwP
  split
  · exact hp
  · exact hw c hc
theorem sh17 : en_SH 17 = (100, 216) := by decide
theorem lt17 : 17 < 134 := by decide
theorem sh18 : en_SH 18 = (100, 12) := by decide
theorem lt18 : 18 < 134 := by decide
theorem sh19 : en_SH 19 = (100, 12) := by decide
theorem lt19 : 19 < 134 := by decide
theorem sh20 : en_SH 20 = (100, 12) := by decide
theorem lt20 : 20 < 134 := by decide
theorem sh21 : en_SH 21 = (100, 72) := by decide
theorem lt21 : 21 < 134 := by decide
theorem sh22 : en_SH 22 = (100, 4) := by decide
theorem lt22 : 22 < 134 := by decide
theorem sh23 : en_SH 23 = (100, 5) := by decide
theorem lt23 : 23 < 134 := by decide
theorem sh40 : en_SH 40 = (100, 216) := by decide
theorem lt40 : 40 < 134 := by decide
theorem sh41 : en_SH 41 = (100, 12) := by decide
theorem lt41 : 41 < 134 := by decide
theorem sh42 : en_SH 42 = (100, 12) := by decide
theorem lt42 : 42 < 134 := by decide
theorem sh43 : en_SH 43 = (100, 12) := by decide
theorem lt43 : 43 < 134 := by decide
theorem sh44 : en_SH 44 = (100, 72) := by decide
theorem lt44 : 44 < 134 := by decide
theorem sh45 : en_SH 45 = (100, 4) := by decide
theorem lt45 : 45 < 134 := by decide
theorem sh46 : en_SH 46 = (100, 5) := by decide
theorem lt46 : 46 < 134 := by decide
theorem sh38 : en_SH 38 = (8, 5) := by decide
theorem lt38 : 38 < 134 := by decide
theorem t_buildWalls {bits : Nat} {p : Int} (hT : trR hr) (hq : hsH 39 E q hi) (hb : bits < 4096)
    (H : ∀ hi', Fr (· = 42) hi hi' → hsH 39 (wlE E (bwP E.2.1 bits p E.2.2.2.1)) q hi' → K (.inl none) hi' hl hr) : en_Call G (d + 1) xc xs Y_X8_buildWalls wN wN [.ref 38, .int (iI (bits : Int)), .int (iI p)] hi hl hr K := by
  obtain ⟨t0, t1, t2, t3, t4⟩ := hT
  have ha : isSh 39 := Or.inr (Or.inl rfl)
  obtain ⟨s0, s1, s2, s3, s4, -⟩ := ha.sh
  obtain ⟨r1, r2, r3, -⟩ := id t3
  have e0 := hq.1.1
  have nc12 := hq.1.2.2.1
  have wl0 := hq.2.2.1
  apply en_X8_buildWalls
  simp (disch := omega) only [B_X8_buildWalls_0, en_ops, en_opc, iI_add, iI_mul, iI_sub, jL_add, jL_mul, iI_le, iI_lt, iI_eq, iI_eq0, iI_lt0, iI_0le, iI_le0, iI_0lt, jL_iI, iI_jL, lc_eq, lc_lt, lc_le, lc_ge, lc_gt, Nat.sub_zero, Nat.zero_le, true_and, and_true, Nat.reduceAdd, Nat.reduceLeDiff]
  suffices L : ∀ c : Nat, c ≤ E.2.1 → ∀ h9, Fr (· = 42) hi h9 → (∀ j, j < 12 → h9 42 j = iI (bwP c bits p E.2.2.2.1 j)) → en_V G Y_X8_buildWalls (d + 1) wN wN K 2 [.ref 38, .int (iI (bits : Int)), .int (iI p), .int (iI c)] [] h9 hl hr xc xs by
    refine L 0 (by omega) hi Fr.rf (fun j hj => ?_)
    rw [wl0 j hj]; unfold bwP; rw [if_neg (by omega)]
  refine lp E.2.1 (fun h9 F9 W9 => ?_) (fun c hc ih h9 F9 W9 => ?_)
  · have e9 : h9 39 0 = iI (E.2.1 : Int) := by rw [F9 39 (by decide)]; exact e0
    apply s_X8_buildWalls_2
    simp (disch := omega) only [B_X8_buildWalls_2, t1, sh38, lt38, s0, s1, e9, en_ops, en_opc, iI_add, iI_mul, iI_sub, jL_add, jL_mul, iI_le, iI_lt, iI_eq, iI_eq0, iI_lt0, iI_0le, iI_le0, iI_0lt, jL_iI, iI_jL, lc_eq, lc_lt, lc_le, lc_ge, lc_gt, Nat.sub_zero, Nat.zero_le, true_and, and_true, Nat.reduceAdd, Nat.reduceLeDiff]
    refine ⟨fun _ => H h9 F9 ?_, fun e => absurd (Int.le_refl _) e⟩
    obtain ⟨⟨x0, x1, x2, x3, x4⟩, y2, y3, y4, y5, y6, y7⟩ := hq
    refine ⟨⟨by rw [F9 39 (by decide)]; exact x0, by rw [F9 39 (by decide)]; exact x1, x2, x3, fun c z k hc hz hk => by rw [F9 40 (by decide)]; exact x4 c z k hc hz hk⟩, fun c hc => by rw [F9 41 (by decide)]; exact y2 c hc, fun c hc => W9 c hc, fun c hc => by rw [F9 43 (by decide)]; exact y4 c hc, fun i hi9 => by rw [F9 46 (by decide)]; exact y5 i hi9, by rw [F9 39 (by decide)]; exact y6, by rw [F9 39 (by decide)]; exact y7⟩
  · have e9 : h9 39 0 = iI (E.2.1 : Int) := by rw [F9 39 (by decide)]; exact e0
    apply s_X8_buildWalls_2
    cases hbit : bits.testBit c
    · simp (disch := omega) only [B_X8_buildWalls_2, t1, sh38, lt38, s0, s1, e9, sh_0 (show c < 32 by omega) hbit, en_ops, en_opc, iI_add, iI_mul, iI_sub, jL_add, jL_mul, iI_le, iI_lt, iI_eq, iI_eq0, iI_lt0, iI_0le, iI_le0, iI_0lt, jL_iI, iI_jL, lc_eq, lc_lt, lc_le, lc_ge, lc_gt, Nat.sub_zero, Nat.zero_le, true_and, and_true, Nat.reduceAdd, Nat.reduceLeDiff]
      refine ⟨fun e => by omega, fun _ => ⟨fun _ => ih h9 F9 (fun j hj => ?_), fun e => absurd (show ¬ (0 : Int) = 1 by decide) e⟩⟩
      rw [W9 j hj]
      unfold bwP
      by_cases g : j = c
      · subst g; rw [if_neg (by omega), if_neg (fun g2 => by rw [hbit] at g2; exact absurd g2.2 (by decide))]
      · by_cases g2 : j < c ∧ bits.testBit j = true
        · rw [if_pos g2, if_pos ⟨by omega, g2.2⟩]
        · rw [if_neg g2, if_neg (fun g3 => g2 ⟨by omega, g3.2⟩)]
    · simp (disch := omega) only [B_X8_buildWalls_2, t1, sh38, lt38, s0, s1, r3, sh42, lt42, e9, sh_1 (show c < 32 by omega) hbit, en_ops, en_opc, iI_add, iI_mul, iI_sub, jL_add, jL_mul, iI_le, iI_lt, iI_eq, iI_eq0, iI_lt0, iI_0le, iI_le0, iI_0lt, jL_iI, iI_jL, lc_eq, lc_lt, lc_le, lc_ge, lc_gt, Nat.sub_zero, Nat.zero_le, true_and, and_true, Nat.reduceAdd, Nat.reduceLeDiff]
      refine ⟨fun e => by omega, fun _ => ⟨fun e => absurd rfl e, fun _ => ⟨c, rfl, by omega, ih _ (Fr.up F9 (by rfl)) (fun j hj => ?_)⟩⟩⟩
      unfold bwP
      by_cases g : j = c
      · subst g; rw [up_at, if_pos ⟨by omega, hbit⟩]
      · rw [up_ne (Or.inr g), W9 j hj]
        unfold bwP
        by_cases g2 : j < c ∧ bits.testBit j = true
        · rw [if_pos g2, if_pos ⟨by omega, g2.2⟩]
        · rw [if_neg g2, if_neg (fun g3 => g2 ⟨by omega, g3.2⟩)]
theorem Psh39 {x : Nat} (g : Psh 39 x) : Ptr x := by unfold Psh at g; unfold Ptr; omega
theorem seH.tr39 {pl L : Nat} {P : Nat → Prop} {hi' : en_I} (hS : seS pl L hr) (h : seH G pl L E hi) (F : Fr P hi hi') (hP : ∀ x, P x → 39 ≤ x ∧ x ≤ 46) : seH G pl L E hi' := h.frS hS.2.2.1 hS.2.2.2.2.1 F (fun x g => by have := hP x g; omega)
/-- a year on the trial shore, its walls and heaps as they stand there -/
theorem t_tryYear {pl L y n : Nat} {Y : hYr} {E' : hEnv} {q' : hSt} {hi0 : en_I} (hT : trR hr) (hS : seS pl L hr) (hE : eOK E') (hse : seH G pl L E' hi) (hq : hsH 39 E' q' hi) (hO : hOK E' q') (hy : isYe y) (hyR : yeR y hr) (hY : yeH y n Y hi0) (F0 : Fr Ptr hi0 hi)
    (H : ∀ hi', Fr Ptr hi0 hi' → hsH 39 E' (yrP E' Y n q') hi' → hOK E' (yrP E' Y n q') → seH G pl L E' hi' → (∀ j, hi' 38 j = hi 38 j) → (∀ j, hi' 47 j = hi 47 j) → K (.inl (some (.int (iI ((yrP E' Y n q').2.2.2.2.2 - q'.2.2.2.2.2))))) hi' hl hr) :
    en_Call G (d + 6) xc xs Y_X4_rollYear wN wN [.ref 34, .ref 39, .ref L, .ref y] hi hl hr K := by
  refine t_rollYear hS hE hse (Or.inr (Or.inl rfl)) hT.2.2.2.1 hq hO hy hyR (hY.fr hy F0 (fun x g1 g2 g => by unfold Ptr at g; omega)) (by omega) (fun h8 A8 Q8 O8 S8 => ?_)
  exact H h8 (F0.tr A8.tr39) Q8 O8 S8 (fun j => by rw [A8.1 38 (by unfold Prl; omega)]) (fun j => by rw [A8.1 47 (by unfold Prl; omega)])
theorem t_behindWall {pl L y n w : Nat} {p : Int} {Y : hYr} (hT : trR hr) (hS : seS pl L hr) (hE : eOK E) (hse : seH G pl L E hi) (hq : hsH 16 E q hi) (hO : hOK E q) (hy : isYe y) (hyR : yeR y hr) (hY : yeH y n Y hi) (hw : w < 12) (hp : 0 ≤ p ∧ p ≤ 16)
    (H : ∀ hi', Fr Ptr hi hi' → hsH 39 (wlE E (bwP E.2.1 (2 ^ w) p E.2.2.2.1)) (yrP (wlE E (bwP E.2.1 (2 ^ w) p E.2.2.2.1)) Y n q) hi' → hOK E (yrP (wlE E (bwP E.2.1 (2 ^ w) p E.2.2.2.1)) Y n q) → seH G pl L E hi' → K (.inl (some (.ref 39))) hi' hl hr) :
    en_Call G (d + 7) xc xs Y_X8_behindWall wN wN [.ref 38, .ref 16, .ref L, .ref y, .int (iI (w : Int)), .int (iI p)] hi hl hr K := by
  obtain ⟨t0, t1, t2, t3, t4⟩ := id hT
  have ha : isSh 39 := Or.inr (Or.inl rfl)
  have hb : isSh 16 := Or.inl rfl
  have w2 : 2 ^ w < 4096 := Nat.pow_lt_pow_right (by decide) hw
  apply en_X8_behindWall
  simp (disch := omega) only [B_X8_behindWall_0, t0, t1, en_ops, en_opc, iI_add, iI_mul, iI_sub, jL_add, jL_mul, iI_le, iI_lt, iI_eq, iI_eq0, iI_lt0, iI_0le, iI_le0, iI_0lt, jL_iI, iI_jL, lc_eq, lc_lt, lc_le, lc_ge, lc_gt, Nat.sub_zero, Nat.zero_le, true_and, and_true, Nat.reduceAdd, Nat.reduceLeDiff]
  refine ⟨⟨by decide, by decide⟩, ⟨by decide, by decide⟩, t_copy ha hb (by decide) t3 t4 (fun h9 C9 => ?_)⟩
  have F9 : Fr Ptr hi h9 := C9.1.mono (fun x g => Psh39 g)
  simp (disch := omega) only [t0, t1, shl_1 w (show w < 31 by omega), en_ops, en_opc, iI_add, iI_mul, iI_sub, jL_add, jL_mul, iI_le, iI_lt, iI_eq, iI_eq0, iI_lt0, iI_0le, iI_le0, iI_0lt, jL_iI, iI_jL, lc_eq, lc_lt, lc_le, lc_ge, lc_gt, Nat.sub_zero, Nat.zero_le, true_and, and_true, Nat.reduceAdd, Nat.reduceLeDiff]
  refine ⟨⟨by decide, by decide⟩, t_buildWalls (d := d + 5) hT (C9.hs ha hq) w2 (fun h8 F8 Q8 => ?_)⟩
  have F98 : Fr Ptr hi h8 := F9.tr (F8.mono (fun x e => by unfold Ptr; omega))
  simp (disch := omega) only [t0, t1, en_ops, en_opc, iI_add, iI_mul, iI_sub, jL_add, jL_mul, iI_le, iI_lt, iI_eq, iI_eq0, iI_lt0, iI_0le, iI_le0, iI_0lt, jL_iI, iI_jL, lc_eq, lc_lt, lc_le, lc_ge, lc_gt, Nat.sub_zero, Nat.zero_le, true_and, and_true, Nat.reduceAdd, Nat.reduceLeDiff]
  refine ⟨⟨by decide, by decide⟩, ⟨by decide, by decide⟩, ⟨by decide, by decide⟩, ?_⟩
  have S8 : seH G pl L E h8 := (hse.tr39 hS C9.1 (fun x g => by unfold Psh at g; omega)).tr39 hS F8 (fun x g => by omega)
  refine t_tryYear (E' := wlE E (bwP E.2.1 (2 ^ w) p E.2.2.2.1)) (hi0 := hi) hT hS (hE.wl (bwP_r hp hE.2.1)) S8 Q8 hO hy hyR hY F98 (fun h7 F7 Q7 O7 S7 _ _ => ?_)
  simp (disch := omega) only [t1, en_ops, en_opc, iI_add, iI_mul, iI_sub, jL_add, jL_mul, iI_le, iI_lt, iI_eq, iI_eq0, iI_lt0, iI_0le, iI_le0, iI_0lt, jL_iI, iI_jL, lc_eq, lc_lt, lc_le, lc_ge, lc_gt, Nat.sub_zero, Nat.zero_le, true_and, and_true, Nat.reduceAdd, Nat.reduceLeDiff]
  exact ⟨⟨by decide, by decide⟩, H h7 F7 Q7 O7 S7⟩
end
-- DRAFT 58
section
variable {G : en_G} {Y : en_Y} {d : Nat} {w w' : en_Wd} {K : en_K} {k : en_Kont} {pc : Nat}
/-- the length of a row of references -/
def o_alenq (w : en_Wd) (t : Nat) (k : en_Kont) : en_Kont := fun ls st hi hl hr uc us => match st with
  | .ref a :: r => ((en_SH a).1 = 103 + t ∧ a < w.1) ∧ k ls (.int (iI ((en_SH a).2 : Nat)) :: r) hi hl hr uc us
  | _ => False
theorem oe_alenq {t a : Nat} {ls r : List Value} {hi : en_I} {hl : en_L} {hr : en_F} {uc us : Nat} : o_alenq w t k ls (.ref a :: r) hi hl hr uc us = (((en_SH a).1 = 103 + t ∧ a < w.1) ∧ k ls (.int (iI ((en_SH a).2 : Nat)) :: r) hi hl hr uc us) := rfl
theorem sn_alenq {t : Nat} {C : String} (ht : (en_tys G)[en_t0 t]? = some (G.2.2.2.1 (3 + t), .object C)) (hd : decode Y.2.1 pc = .ok (.arraylength, 1)) (hk : en_S G Y d w w' K k (pc + 1)) : en_S G Y d w w' K (o_alenq w t k) pc := by
  intro ls st hi hl hr uc us h
  unfold o_alenq at h
  split at h
  next a r =>
    intro p e R s m args below meth c Q xc xs hC H locs cells slots rl h1 h2 h3 h4 h5 h6
    obtain ⟨⟨hs, ha⟩, h⟩ := h
    rw [List.map_cons, en_ref h2 ha]
    have hh := hk _ _ _ _ _ _ _ h p e R s m args below meth c Q xc xs hC H locs cells slots rl h1 h2 h3 h4 h5 h6
    rw [List.map_cons, en_tr_int] at hh
    exact va_alen hC.1.1 hC.1.2.1 h2.2.1 h2.1 a (en_t0 t) (en_at_q ha hs) ht (iI_nat _).symm hd hh
  next => exact h.elim
end
def Bq_X8_nearest_13 (G : en_G) (d : Nat) (K : en_K) : en_Kont := (o_iload 5 (o_iload 3 (o_icge (o_vret K) (o_iload 5 (o_aload 2 (o_alenq wN 8 (o_icge (o_vret K) (o_aload 0 (o_getR wN 8 5 1 (o_aload 1 (o_inv G d 0 0 Y_X6_copy 1 6 wN wN (o_aload 0 (o_getR wN 8 5 0 (o_aload 0 (o_getR wN 8 5 1 (o_aload 2 (o_iload 5 (o_aaload wN 8 (o_aload 4 (o_inv G d 0 0 Y_X4_rollYear 3 4 wN wN (o_pop (o_aload 0 (o_aload 1 (o_inv G d 0 0 Y_X8_apartFrom 1 8 wN wN (o_istore 6 (o_aload 0 (o_getI wN 8 5 3 (o_iconst (-1) (o_iceq (o_aload 0 (o_iload 5 (o_putI wN 8 5 3 (o_aload 0 (o_iload 6 (o_putI wN 8 5 4 (o_iinc 5 1 (kv G Y_X8_nearest (d + 1) wN wN K 13)))))))) (o_iload 6 (o_aload 0 (o_getI wN 8 5 4 (o_icge (o_iinc 5 1 (kv G Y_X8_nearest (d + 1) wN wN K 13)) (o_aload 0 (o_iload 5 (o_putI wN 8 5 3 (o_aload 0 (o_iload 6 (o_putI wN 8 5 4 (o_iinc 5 1 (kv G Y_X8_nearest (d + 1) wN wN K 13))))))))))))))))) x_no)))) x_no))))))))) x_no)))))))))))
theorem sq_X8_nearest_13 {G : en_G} {d : Nat} {K : en_K} : en_S G Y_X8_nearest (d + 1) wN wN K (Bq_X8_nearest_13 G d K) 13 := (sn_iload  dX8_nearest_13 (sn_iload_n rfl dX8_nearest_15 (sn_icge dX8_nearest_16 rfl (sn_vret rfl dX8_nearest_94) (sn_iload  dX8_nearest_19 (sn_aload_n rfl dX8_nearest_21 (sn_alenq rfl  dX8_nearest_22 (sn_icge dX8_nearest_23 rfl (sn_vret rfl dX8_nearest_94) (sn_aload_n rfl dX8_nearest_26 (sn_getR cl_X8 (Nat.le_of_ble_eq_true rfl) rfl tw_395 dX8_nearest_27 (sn_aload_n rfl dX8_nearest_30 (sn_inv cal_X6_copy calV_X6_copy rfl tw_1352 (fun h => nomatch h) dX8_nearest_31 (sn_aload_n rfl dX8_nearest_34 (sn_getR cl_X8 (Nat.le_of_ble_eq_true rfl) rfl tw_394 dX8_nearest_35 (sn_aload_n rfl dX8_nearest_38 (sn_getR cl_X8 (Nat.le_of_ble_eq_true rfl) rfl tw_395 dX8_nearest_39 (sn_aload_n rfl dX8_nearest_42 (sn_iload  dX8_nearest_43 (sn_aaload rfl dX8_nearest_45 (sn_aload  dX8_nearest_46 (sn_inv cal_X4_rollYear calV_X4_rollYear rfl tw_1353 (fun h => nomatch h) dX8_nearest_48 (sn_pop  dX8_nearest_51 (sn_aload_n rfl dX8_nearest_52 (sn_aload_n rfl dX8_nearest_53 (sn_inv cal_X8_apartFrom calV_X8_apartFrom rfl tw_1373 (fun h => nomatch h) dX8_nearest_54 (sn_istore (Nat.le_of_ble_eq_true rfl) dX8_nearest_57 (sn_aload_n rfl dX8_nearest_59 (sn_getI cl_X8 (Nat.le_of_ble_eq_true rfl) rfl tw_397 dX8_nearest_60 (sn_iconst  dX8_nearest_63 (sn_iceq dX8_nearest_64 rfl (sn_aload_n rfl dX8_nearest_76 (sn_iload  dX8_nearest_77 (sn_putI cl_X8 (Nat.le_of_ble_eq_true rfl) rfl rfl tw_397 dX8_nearest_79 (sn_aload_n rfl dX8_nearest_82 (sn_iload  dX8_nearest_83 (sn_putI cl_X8 (Nat.le_of_ble_eq_true rfl) rfl rfl tw_399 dX8_nearest_85 (sn_iinc (Nat.le_of_ble_eq_true rfl) dX8_nearest_88 (sn_goto dX8_nearest_91 rfl sn_kv)))))))) (sn_iload  dX8_nearest_67 (sn_aload_n rfl dX8_nearest_69 (sn_getI cl_X8 (Nat.le_of_ble_eq_true rfl) rfl tw_399 dX8_nearest_70 (sn_icge dX8_nearest_73 rfl (sn_iinc (Nat.le_of_ble_eq_true rfl) dX8_nearest_88 (sn_goto dX8_nearest_91 rfl sn_kv)) (sn_aload_n rfl dX8_nearest_76 (sn_iload  dX8_nearest_77 (sn_putI cl_X8 (Nat.le_of_ble_eq_true rfl) rfl rfl tw_397 dX8_nearest_79 (sn_aload_n rfl dX8_nearest_82 (sn_iload  dX8_nearest_83 (sn_putI cl_X8 (Nat.le_of_ble_eq_true rfl) rfl rfl tw_399 dX8_nearest_85 (sn_iinc (Nat.le_of_ble_eq_true rfl) dX8_nearest_88 (sn_goto dX8_nearest_91 rfl sn_kv))))))))))))))))) sn_no)))) sn_no))))))))) sn_no)))))))))))
section
variable {G : en_G} {d : Nat} {K : en_K} {a : Nat} {E : hEnv} {q : hSt} {hi : en_I} {hl : en_L} {hr : en_F} {xc xs : Nat} {f : Nat → Nat → Nat → Int} {nc nz : Nat}
def apI (f : Nat → Nat → Nat → Int) (m : Nat → Nat → Int) (c z : Nat) : Int := if m c z = -1 then 0 else if m c z - aP f c z < 0 then -(m c z - aP f c z) else m c z - aP f c z
def apP (f : Nat → Nat → Nat → Int) (m : Nat → Nat → Int) (nc nz : Nat) : Int := sumTo nc (fun c => sumTo nz (apI f m c))
theorem apI_r {m : Nat → Nat → Int} (hB : fB nc nz f) (hnz : nz ≤ 6) {c z : Nat} (hc : c < 12) (hm : -1 ≤ m c z ∧ m c z ≤ 999999) : 0 ≤ apI f m c z ∧ apI f m c z ≤ 11000000 := by
  have a0 := aP_nn hB c z
  have a1 := Int.le_trans (aP_le hB hnz hc z) (wP_le hB hnz hc)
  unfold apI
  split
  · omega
  · split <;> omega
theorem sumTo_bd {n : Nat} {g : Nat → Int} {b : Int} (h : ∀ i, i < n → 0 ≤ g i ∧ g i ≤ b) : 0 ≤ sumTo n g ∧ sumTo n g ≤ n * b := by
  induction n with
  | zero => exact ⟨Int.le_refl _, by rw [sumTo_z]; omega⟩
  | succ n ih =>
    obtain ⟨i1, i2⟩ := ih (fun i hi => h i (by omega))
    have := h n (by omega)
    rw [sumTo_s]
    have e : ((n + 1 : Nat) : Int) * b = n * b + b := by rw [Int.natCast_add, Int.add_mul]; show _ + 1 * b = _; omega
    omega
theorem t_apartFrom {m : Nat → Nat → Int} (hT : trR hr) (hh : shH 39 nc nz f hi) (hB : fB nc nz f) (hM : shM 16 m hi) (h0 : hi 16 0 = iI nc) (h1 : hi 16 1 = iI nz)
    (H : K (.inl (some (.int (iI (apP f m nc nz))))) hi hl hr) : en_Call G (d + 3) xc xs Y_X8_apartFrom wN wN [.ref 38, .ref 16] hi hl hr K := by
  obtain ⟨t0, t1, t2, t3, t4⟩ := id hT
  have ha : isSh 39 := Or.inr (Or.inl rfl)
  have hb : isSh 16 := Or.inl rfl
  obtain ⟨z0, z1, z2, z3, z4, z5, z6, -⟩ := hb.sh
  obtain ⟨y1, y2, y3, y4, y5, -⟩ := id t4
  have nc12 := hh.2.2.1
  have nz6 := hh.2.2.2.1
  have rI : ∀ c, c < 12 → ∀ z, z < 6 → 0 ≤ apI f m c z ∧ apI f m c z ≤ 11000000 := fun c hc z hz => apI_r hB nz6 hc (hM c z hc hz).2
  have rz : ∀ c, c < 12 → ∀ n, n ≤ 6 → 0 ≤ sumTo n (apI f m c) ∧ sumTo n (apI f m c) ≤ 66000000 := fun c hc n hn => by
    have := sumTo_bd (n := n) (g := apI f m c) (b := 11000000) (fun z hz => rI c hc z (by omega))
    omega
  have rc : ∀ c, c ≤ nc → 0 ≤ sumTo c (fun c => sumTo nz (apI f m c)) ∧ sumTo c (fun c => sumTo nz (apI f m c)) ≤ 800000000 := fun c hc => by
    have := sumTo_bd (n := c) (g := fun c => sumTo nz (apI f m c)) (b := 66000000) (fun c' hc' => rz c' (by omega) nz nz6)
    omega
  apply en_X8_apartFrom
  simp (disch := omega) only [B_X8_apartFrom_0, en_ops, en_opc, iI_add, iI_mul, iI_sub, jL_add, jL_mul, iI_le, iI_lt, iI_eq, iI_eq0, iI_lt0, iI_0le, iI_le0, iI_0lt, jL_iI, iI_jL, lc_eq, lc_lt, lc_le, lc_ge, lc_gt, Nat.sub_zero, Nat.zero_le, true_and, and_true, Nat.reduceAdd, Nat.reduceLeDiff]
  suffices L : ∀ c : Nat, c ≤ nc → ∀ x4 x5 : Value, en_V G Y_X8_apartFrom (d + 3) wN wN K 4 [.ref 38, .ref 16, .int (iI (sumTo c (fun c => sumTo nz (apI f m c)))), .int (iI c), x4, x5] [] hi hl hr xc xs from L 0 (by omega) _ _
  refine lp nc (fun x4 x5 => ?_) (fun c hc ih x4 x5 => ?_)
  · apply s_X8_apartFrom_4
    simp (disch := omega) only [B_X8_apartFrom_4, z0, z1, h0, en_ops, en_opc, iI_add, iI_mul, iI_sub, jL_add, jL_mul, iI_le, iI_lt, iI_eq, iI_eq0, iI_lt0, iI_0le, iI_le0, iI_0lt, jL_iI, iI_jL, lc_eq, lc_lt, lc_le, lc_ge, lc_gt, Nat.sub_zero, Nat.zero_le, true_and, and_true, Nat.reduceAdd, Nat.reduceLeDiff]
    exact ⟨fun _ => H, fun e => absurd (Int.le_refl _) e⟩
  · rw [sumTo_s] at ih
    apply s_X8_apartFrom_4
    simp (disch := omega) only [B_X8_apartFrom_4, z0, z1, h0, en_ops, en_opc, iI_add, iI_mul, iI_sub, jL_add, jL_mul, iI_le, iI_lt, iI_eq, iI_eq0, iI_lt0, iI_0le, iI_le0, iI_0lt, jL_iI, iI_jL, lc_eq, lc_lt, lc_le, lc_ge, lc_gt, Nat.sub_zero, Nat.zero_le, true_and, and_true, Nat.reduceAdd, Nat.reduceLeDiff]
    refine ⟨fun e => by omega, fun _ => ?_⟩
    suffices L2 : ∀ z : Nat, z ≤ nz → ∀ x5 : Value, en_V G Y_X8_apartFrom (d + 3) wN wN K 15 [.ref 38, .ref 16, .int (iI (sumTo c (fun c => sumTo nz (apI f m c)) + sumTo z (apI f m c))), .int (iI c), .int (iI z), x5] [] hi hl hr xc xs by
      have := L2 0 (by omega) x5
      rw [sumTo_z, Int.add_zero] at this
      exact this
    refine lp nz (fun x5 => ?_) (fun z hz ih2 x5 => ?_)
    · apply s_X8_apartFrom_15
      simp (disch := omega) only [B_X8_apartFrom_15, z0, z1, h1, en_ops, en_opc, iI_add, iI_mul, iI_sub, jL_add, jL_mul, iI_le, iI_lt, iI_eq, iI_eq0, iI_lt0, iI_0le, iI_le0, iI_0lt, jL_iI, iI_jL, lc_eq, lc_lt, lc_le, lc_ge, lc_gt, Nat.sub_zero, Nat.zero_le, true_and, and_true, Nat.reduceAdd, Nat.reduceLeDiff]
      exact ⟨fun _ => ih _ _, fun e => absurd (Int.le_refl _) e⟩
    · obtain ⟨m1, m2, m3⟩ := hM c z (by omega) (by omega)
      have a0 := aP_nn hB c z
      have a1 := Int.le_trans (aP_le hB nz6 (show c < 12 by omega) z) (wP_le hB nz6 (by omega))
      have g1 := rc c (by omega)
      have g2 := rz c (by omega) z (by omega)
      rw [sumTo_s] at ih2
      apply s_X8_apartFrom_15
      simp (disch := omega) only [B_X8_apartFrom_15, z0, z1, sh21, lt21, h1, y5, en_ops, en_opc, iI_add, iI_mul, iI_sub, jL_add, jL_mul, iI_le, iI_lt, iI_eq, iI_eq0, iI_lt0, iI_0le, iI_le0, iI_0lt, jL_iI, iI_jL, lc_eq, lc_lt, lc_le, lc_ge, lc_gt, Nat.sub_zero, Nat.zero_le, true_and, and_true, Nat.reduceAdd, Nat.reduceLeDiff]
      refine ⟨fun e => by omega, fun _ => ⟨c * 6 + z, iI_eq_of (by omega), by omega, ?_⟩⟩
      rw [m1]
      simp (disch := omega) only [t1, sh38, lt38, en_ops, en_opc, iI_add, iI_mul, iI_sub, jL_add, jL_mul, iI_le, iI_lt, iI_eq, iI_eq0, iI_lt0, iI_0le, iI_le0, iI_0lt, jL_iI, iI_jL, lc_eq, lc_lt, lc_le, lc_ge, lc_gt, Nat.sub_zero, Nat.zero_le, true_and, and_true, Nat.reduceAdd, Nat.reduceLeDiff]
      refine ⟨fun e => ?_, fun e => ⟨⟨by decide, by decide⟩, ?_⟩⟩
      · have ez : apI f m c z = 0 := if_pos e
        rw [ez, Int.add_zero] at ih2
        exact ih2 _
      · refine t_inCell (d := d) ha t3 hh (by omega) (by omega) (by omega) ?_
        rw [inP_a hz]
        simp (disch := omega) only [en_ops, en_opc, iI_add, iI_mul, iI_sub, jL_add, jL_mul, iI_le, iI_lt, iI_eq, iI_eq0, iI_lt0, iI_0le, iI_le0, iI_0lt, jL_iI, iI_jL, lc_eq, lc_lt, lc_le, lc_ge, lc_gt, Nat.sub_zero, Nat.zero_le, true_and, and_true, Nat.reduceAdd, Nat.reduceLeDiff]
        refine t_abs (by omega) (by omega) ?_
        have ez : apI f m c z = if m c z - aP f c z < 0 then -(m c z - aP f c z) else m c z - aP f c z := if_neg e
        rw [ez] at ih2
        simp (disch := omega) only [en_ops, en_opc, iI_add, iI_mul, iI_sub, jL_add, jL_mul, iI_le, iI_lt, iI_eq, iI_eq0, iI_lt0, iI_0le, iI_le0, iI_0lt, jL_iI, iI_jL, lc_eq, lc_lt, lc_le, lc_ge, lc_gt, Nat.sub_zero, Nat.zero_le, true_and, and_true, Nat.reduceAdd, Nat.reduceLeDiff]
        rw [← Int.add_assoc] at ih2
        exact ih2 _
/-- the first least of those that count -/
def lsF (P : Nat → Bool) (g : Nat → Int) (s0 : Int) : Nat → Int × Int
  | 0 => (-1, s0)
  | i + 1 => if P i = true ∧ ((lsF P g s0 i).1 = -1 ∨ g i < (lsF P g s0 i).2) then ((i : Int), g i) else lsF P g s0 i
theorem lsF_r {P : Nat → Bool} {g : Nat → Int} {s0 lo h : Int} (h0 : lo ≤ s0 ∧ s0 ≤ h) : ∀ n, (∀ i, i < n → P i = true → lo ≤ g i ∧ g i ≤ h) → (-1 ≤ (lsF P g s0 n).1 ∧ (lsF P g s0 n).1 < n) ∧ lo ≤ (lsF P g s0 n).2 ∧ (lsF P g s0 n).2 ≤ h := by
  intro n
  induction n with
  | zero => exact fun _ => ⟨⟨Int.le_refl _, by show (-1 : Int) < 0; omega⟩, h0⟩
  | succ n ih =>
    intro hg
    obtain ⟨⟨i1, i2⟩, i3⟩ := ih (fun i hi => hg i (by omega))
    have st : lsF P g s0 (n + 1) = if P n = true ∧ ((lsF P g s0 n).1 = -1 ∨ g n < (lsF P g s0 n).2) then ((n : Int), g n) else lsF P g s0 n := rfl
    rw [st]
    split
    next c => exact ⟨⟨by show (-1 : Int) ≤ n; omega, by show (n : Int) < _; omega⟩, hg n (by omega) c.1⟩
    next => exact ⟨⟨i1, by omega⟩, i3⟩
/-- the laws as they stand: which say what -/
def lwA (G : en_G) (nl : Nat) (Vs : Nat → Nat → (Nat → Int) → Int) (hi : en_I) : Prop := ∀ i, i < nl → lwV G (50 + 4 * i) (Vs i) hi
def lwB (nl : Nat) (Vs : Nat → Nat → (Nat → Int) → Int) : Prop := ∀ i, i < nl → ∀ w nm, -2147483648 ≤ Vs i w nm ∧ Vs i w nm < 2147483648
def lwX (hr : en_F) : Prop := ∀ i, i < 4 → lwR (50 + 4 * i) hr ∧ hr 14 i = .ref (50 + 4 * i)
theorem isLw4 {i : Nat} (h : i < 4) : isLw (50 + 4 * i) := by unfold isLw; omega
theorem lwA.mono {nl : Nat} {Vs : Nat → Nat → (Nat → Int) → Int} {P : Nat → Prop} {hi' : en_I} (h : lwA G nl Vs hi) (hn : nl ≤ 4) (F : Fr P hi hi') (hP : ∀ x, P x → x < 50 ∨ 66 ≤ x) : lwA G nl Vs hi' := fun i hi9 => (h i hi9).mono (isLw4 (by omega)) F hP
/-- what the Sea needs but the law -/
def sxH (pl : Nat) (E : hEnv) (hi : en_I) : Prop := spH pl E.2.2.2.2.2.1 E.2.2.2.2.1 hi ∧ loH pl E.2.2.2.2.2.2.2 E.2.1 E.2.2.2.2.2.2.1 hi ∧ arrH (fun _ _ _ => 0) hi
def sxS (pl : Nat) (hr : en_F) : Prop := seR hr ∧ hr 34 5 = .ref pl ∧ isPl pl ∧ plR pl hr
def vE (V : Nat → (Nat → Int) → Int) (E : hEnv) : hEnv := (V, E.2)
theorem sxH.se {pl L : Nat} {V : Nat → (Nat → Int) → Int} (h : sxH pl E hi) (hV : lwV G L V hi) : seH G pl L (vE V E) hi := ⟨h.1, h.2.1, hV, h.2.2⟩
theorem seH.sx {pl L : Nat} {V : Nat → (Nat → Int) → Int} (h : seH G pl L (vE V E) hi) : sxH pl E hi := ⟨h.1, h.2.1, h.2.2.2⟩
theorem sxS.se {pl i : Nat} (h : sxS pl hr) (hX : lwX hr) (hi4 : i < 4) : seS pl (50 + 4 * i) hr := ⟨h.1, h.2.1, h.2.2.1, h.2.2.2, isLw4 hi4, (hX i hi4).1⟩
/-- the plan's and the walls' bounds -/
def exOK (E : hEnv) : Prop := (∀ c, c < 12 → 0 ≤ E.2.2.2.1 c ∧ E.2.2.2.1 c ≤ 16) ∧ spOK E.2.1 E.2.2.1 E.2.2.2.2.2.1 E.2.2.2.2.1
theorem exOK.e {nl i : Nat} {Vs : Nat → Nat → (Nat → Int) → Int} (h : exOK E) (hB : lwB nl Vs) (hi9 : i < nl) : eOK (vE (Vs i) E) := ⟨hB i hi9, h.1, h.2⟩
theorem shM.fr {m : Nat → Nat → Int} {P : Nat → Prop} {hi' : en_I} (h : shM a m hi) (F : Fr P hi hi') (hP : ¬ P (a + 5)) : shM a m hi' := fun c z hc hz => by rw [F _ hP]; exact h c z hc hz
theorem sh14 : en_SH 14 = (111, 4) := by decide
theorem lt14 : 14 < 134 := by decide
def nrG (E : hEnv) (Vs : Nat → Nat → (Nat → Int) → Int) (Y : hYr) (n : Nat) (m : Nat → Nat → Int) (q : hSt) (i : Nat) : Int := apP (yrP (vE (Vs i) E) Y n q).1 m E.2.1 E.2.2.1
theorem t_nearest {pl y n nl : Nat} {Y : hYr} {Vs : Nat → Nat → (Nat → Int) → Int} {m : Nat → Nat → Int} (hT : trR hr) (hS : sxS pl hr) (hX : lwX hr) (hE : exOK E) (hVB : lwB nl Vs) (hVA : lwA G nl Vs hi) (hnl : nl ≤ 4) (hsx : sxH pl E hi) (hq : hsH 16 E q hi) (hO : hOK E q) (hM : shM 16 m hi) (hy : isYe y) (hyR : yeR y hr) (hY : yeH y n Y hi)
    (H : ∀ hi', Fr Ptr hi hi' → sxH pl E hi' → hi' 38 3 = iI (lsF (fun _ => true) (nrG E Vs Y n m q) (-1) nl).1 → hi' 38 4 = iI (lsF (fun _ => true) (nrG E Vs Y n m q) (-1) nl).2 → K (.inl none) hi' hl hr) :
    en_Call G (d + 7) xc xs Y_X8_nearest wN wN [.ref 38, .ref 16, .ref 14, .int (iI (nl : Int)), .ref y] hi hl hr K := by
  obtain ⟨t0, t1, t2, t3, t4⟩ := id hT
  have ha : isSh 39 := Or.inr (Or.inl rfl)
  have hb : isSh 16 := Or.inl rfl
  have p38 : Ptr 38 := by unfold Ptr; omega
  have nz6 := hq.1.2.2.2.1
  have nc12 := hq.1.2.2.1
  apply en_X8_nearest
  simp (disch := omega) only [B_X8_nearest_0, sh38, lt38, en_ops, en_opc, iI_add, iI_mul, iI_sub, jL_add, jL_mul, iI_le, iI_lt, iI_eq, iI_eq0, iI_lt0, iI_0le, iI_le0, iI_0lt, jL_iI, iI_jL, lc_eq, lc_lt, lc_le, lc_ge, lc_gt, Nat.sub_zero, Nat.zero_le, true_and, and_true, Nat.reduceAdd, Nat.reduceLeDiff]
  suffices L : ∀ i : Nat, i ≤ nl → ∀ h9 x6, Fr Ptr hi h9 → sxH pl E h9 → (∀ j, j < i → 0 ≤ nrG E Vs Y n m q j ∧ nrG E Vs Y n m q j ≤ 800000000) → h9 38 3 = iI (lsF (fun _ => true) (nrG E Vs Y n m q) (-1) i).1 → h9 38 4 = iI (lsF (fun _ => true) (nrG E Vs Y n m q) (-1) i).2 → en_V G Y_X8_nearest (d + 7) wN wN K 13 [.ref 38, .ref 16, .ref 14, .int (iI (nl : Int)), .ref y, .int (iI i), x6] [] h9 hl hr xc xs by
    have F0 : Fr (· = 38) hi (en_up (en_up hi 38 3 (iI (-1))) 38 4 (iI (-1))) := Fr.up (Fr.up Fr.rf (by rfl)) (by rfl)
    have e : ∀ x, x ≠ 38 → en_up (en_up hi 38 3 (iI (-1))) 38 4 (iI (-1)) x = hi x := fun x hx => F0 x hx
    refine L 0 (by omega) _ _ (F0.mono (fun x e => by unfold Ptr; omega)) ?_ (fun j hj => by omega) (by rw [up_ne (Or.inr (by omega)), up_at]; rfl) (by rw [up_at]; rfl)
    have p14 := hS.2.2.1.sh.2.2.2.2.2.2.1
    obtain ⟨⟨z0, z1, z2⟩, ⟨v0, v1, v2⟩, x3⟩ := hsx
    exact ⟨⟨by rw [e pl (by omega)]; exact z0, z1, fun i hi9 => by rw [e (pl + 4) (by omega)]; exact z2 i hi9⟩, ⟨by rw [e pl (by omega)]; exact v0, v1, fun i hi9 => by rw [e (pl + 5) (by omega)]; exact v2 i hi9⟩, fun c z k hc hz hk => by rw [e 37 (by omega)]; exact x3 c z k hc hz hk⟩
  refine lp nl (fun h9 x6 F9 S9 R9 B9 C9 => ?_) (fun i hi9 ih h9 x6 F9 S9 R9 B9 C9 => ?_)
  · apply sq_X8_nearest_13
    simp (disch := omega) only [Bq_X8_nearest_13, oe_alenq, sh14, lt14, en_ops, en_opc, iI_add, iI_mul, iI_sub, jL_add, jL_mul, iI_le, iI_lt, iI_eq, iI_eq0, iI_lt0, iI_0le, iI_le0, iI_0lt, jL_iI, iI_jL, lc_eq, lc_lt, lc_le, lc_ge, lc_gt, Nat.sub_zero, Nat.zero_le, true_and, and_true, Nat.reduceAdd, Nat.reduceLeDiff]
    exact ⟨fun _ => H h9 F9 S9 B9 C9, fun e => absurd (Int.le_refl _) e⟩
  · have i4 : i < 4 := by omega
    obtain ⟨lr, l14⟩ := hX i i4
    have nP : ∀ x, 16 ≤ x → x ≤ 23 → ¬ Ptr x := fun x g1 g2 g => by unfold Ptr at g; omega
    have Q9 := hq.frP F9 (fun x g1 g2 => nP x g1 (by omega))
    have V9 := hVA.mono hnl F9 (fun x g => by unfold Ptr at g; omega)
    obtain ⟨⟨ls1, ls2⟩, ls3, ls4⟩ := lsF_r (P := fun _ => true) (g := nrG E Vs Y n m q) (s0 := -1) (lo := -1) (h := 800000000) (by omega) i (fun j hj _ => by have := R9 j hj; omega)
    apply sq_X8_nearest_13
    simp (disch := omega) only [Bq_X8_nearest_13, oe_alenq, sh14, lt14, t0, t1, sh38, lt38, en_ops, en_opc, iI_add, iI_mul, iI_sub, jL_add, jL_mul, iI_le, iI_lt, iI_eq, iI_eq0, iI_lt0, iI_0le, iI_le0, iI_0lt, jL_iI, iI_jL, lc_eq, lc_lt, lc_le, lc_ge, lc_gt, Nat.sub_zero, Nat.zero_le, true_and, and_true, Nat.reduceAdd, Nat.reduceLeDiff]
    refine ⟨fun e => by omega, fun _ => ⟨fun e => by omega, fun _ => ⟨⟨by decide, by decide⟩, ?_⟩⟩⟩
    refine t_copy ha hb (by decide) t3 t4 (fun h8 C8 => ?_)
    have F8 : Fr Ptr hi h8 := F9.tr (C8.1.mono (fun x g => Psh39 g))
    have S8 := (sxH.se (L := 50 + 4 * i) (V := Vs i) S9 (V9 i hi9)).tr39 (hS.se hX i4) C8.1 (fun x g => by unfold Psh at g; omega)
    simp (disch := omega) only [t0, t1, sh38, lt38, sh14, lt14, en_ops, en_opc, iI_add, iI_mul, iI_sub, jL_add, jL_mul, iI_le, iI_lt, iI_eq, iI_eq0, iI_lt0, iI_0le, iI_le0, iI_0lt, jL_iI, iI_jL, lc_eq, lc_lt, lc_le, lc_ge, lc_gt, Nat.sub_zero, Nat.zero_le, true_and, and_true, Nat.reduceAdd, Nat.reduceLeDiff]
    refine ⟨i, rfl, by omega, 50 + 4 * i, l14, by omega, ?_⟩
    refine ⟨⟨by decide, by decide⟩, ?_⟩
    refine t_tryYear (E' := vE (Vs i) E) (q' := q) (hi0 := hi) hT (hS.se hX i4) (hE.e hVB hi9) S8 (C8.hs ha Q9) hO hy hyR hY F8 (fun h7 F7 Q7 O7 S7 E7 _ => ?_)
    simp (disch := omega) only [sh38, lt38, en_ops, en_opc, iI_add, iI_mul, iI_sub, jL_add, jL_mul, iI_le, iI_lt, iI_eq, iI_eq0, iI_lt0, iI_0le, iI_le0, iI_0lt, jL_iI, iI_jL, lc_eq, lc_lt, lc_le, lc_ge, lc_gt, Nat.sub_zero, Nat.zero_le, true_and, and_true, Nat.reduceAdd, Nat.reduceLeDiff]
    refine t_apartFrom (d := d + 3) hT Q7.1 O7.1 (hM.fr F7 (nP _ (by omega) (by omega))) (by rw [F7 16 (nP _ (by omega) (by omega))]; exact hq.1.1) (by rw [F7 16 (nP _ (by omega) (by omega))]; exact hq.1.2.1) ?_
    have gr : 0 ≤ nrG E Vs Y n m q i ∧ nrG E Vs Y n m q i ≤ 800000000 := by
      have := sumTo_bd (n := E.2.1) (g := fun c => sumTo E.2.2.1 (apI (yrP (vE (Vs i) E) Y n q).1 m c)) (b := 66000000) (fun c hc => by
        have := sumTo_bd (n := E.2.2.1) (g := apI (yrP (vE (Vs i) E) Y n q).1 m c) (b := 11000000) (fun z hz => apI_r O7.1 nz6 (by omega) (hM c z (by omega) (by omega)).2)
        omega)
      show 0 ≤ apP _ _ _ _ ∧ apP _ _ _ _ ≤ _
      unfold apP
      show 0 ≤ sumTo E.2.1 _ ∧ sumTo E.2.1 _ ≤ _
      omega
    have eg : apP (yrP (vE (Vs i) E) Y n q).1 m (vE (Vs i) E).2.1 (vE (Vs i) E).2.2.1 = nrG E Vs Y n m q i := rfl
    rw [eg]
    have R7 : ∀ j, j < i + 1 → 0 ≤ nrG E Vs Y n m q j ∧ nrG E Vs Y n m q j ≤ 800000000 := fun j hj => by
      by_cases e : j = i
      · subst e; exact gr
      · exact R9 j (by omega)
    have b7 : h7 38 3 = iI (lsF (fun _ => true) (nrG E Vs Y n m q) (-1) i).1 := by rw [E7, C8.1 38 (by unfold Psh; omega)]; exact B9
    have c7 : h7 38 4 = iI (lsF (fun _ => true) (nrG E Vs Y n m q) (-1) i).2 := by rw [E7, C8.1 38 (by unfold Psh; omega)]; exact C9
    have X7 : sxH pl E h7 := S7.sx
    have upd : ∀ u v : Int, sxH pl E (en_up (en_up h7 38 3 (iI u)) 38 4 (iI v)) := fun u v => by
      have F0 : Fr (· = 38) h7 (en_up (en_up h7 38 3 (iI u)) 38 4 (iI v)) := Fr.up (Fr.up Fr.rf (by rfl)) (by rfl)
      have e : ∀ x, x ≠ 38 → en_up (en_up h7 38 3 (iI u)) 38 4 (iI v) x = h7 x := fun x hx => F0 x hx
      have p14 := hS.2.2.1.sh.2.2.2.2.2.2.1
      obtain ⟨⟨z0, z1, z2⟩, ⟨v0, v1, v2⟩, x3⟩ := X7
      exact ⟨⟨by rw [e pl (by omega)]; exact z0, z1, fun i hi9 => by rw [e (pl + 4) (by omega)]; exact z2 i hi9⟩, ⟨by rw [e pl (by omega)]; exact v0, v1, fun i hi9 => by rw [e (pl + 5) (by omega)]; exact v2 i hi9⟩, fun c z k hc hz hk => by rw [e 37 (by omega)]; exact x3 c z k hc hz hk⟩
    have yes : ((lsF (fun _ => true) (nrG E Vs Y n m q) (-1) i).1 = -1 ∨ nrG E Vs Y n m q i < (lsF (fun _ => true) (nrG E Vs Y n m q) (-1) i).2) → en_V G Y_X8_nearest (d + 7) wN wN K 13 [.ref 38, .ref 16, .ref 14, .int (iI (nl : Int)), .ref y, .int (iI ((i : Int) + 1)), .int (iI (nrG E Vs Y n m q i))] [] (en_up (en_up h7 38 3 (iI (i : Int))) 38 4 (iI (nrG E Vs Y n m q i))) hl hr xc xs := fun g => by
      have st : lsF (fun _ => true) (nrG E Vs Y n m q) (-1) (i + 1) = ((i : Int), nrG E Vs Y n m q i) := if_pos ⟨rfl, g⟩
      rw [st] at ih
      exact ih _ _ (Fr.up (Fr.up F7 p38) p38) (upd _ _) R7 (by rw [up_ne (Or.inr (by omega)), up_at]) (by rw [up_at])
    simp (disch := omega) only [sh38, lt38, en_ops, en_opc, iI_add, iI_mul, iI_sub, jL_add, jL_mul, iI_le, iI_lt, iI_eq, iI_eq0, iI_lt0, iI_0le, iI_le0, iI_0lt, jL_iI, iI_jL, lc_eq, lc_lt, lc_le, lc_ge, lc_gt, Nat.sub_zero, Nat.zero_le, true_and, and_true, Nat.reduceAdd, Nat.reduceLeDiff]
    rw [b7, c7]
    simp (disch := omega) only [sh38, lt38, en_ops, en_opc, iI_add, iI_mul, iI_sub, jL_add, jL_mul, iI_le, iI_lt, iI_eq, iI_eq0, iI_lt0, iI_0le, iI_le0, iI_0lt, jL_iI, iI_jL, lc_eq, lc_lt, lc_le, lc_ge, lc_gt, Nat.sub_zero, Nat.zero_le, true_and, and_true, Nat.reduceAdd, Nat.reduceLeDiff]
    refine ⟨fun e => yes (Or.inl e), fun e => ⟨fun e2 => ?_, fun e2 => yes (Or.inr (by omega))⟩⟩
    have st : lsF (fun _ => true) (nrG E Vs Y n m q) (-1) (i + 1) = lsF (fun _ => true) (nrG E Vs Y n m q) (-1) i := if_neg (fun g => by rcases g.2 with g | g <;> omega)
    rw [st] at ih
    exact ih h7 _ F7 X7 R7 b7 c7
end
-- DRAFT 59
section
variable {G : en_G} {d : Nat} {K : en_K} {a : Nat} {E : hEnv} {q : hSt} {hi : en_I} {hl : en_L} {hr : en_F} {xc xs : Nat} {f : Nat → Nat → Nat → Int} {nc nz : Nat} {V : Nat → (Nat → Int) → Int} {Y : hYr}
/-- how often a year goes over one crest -/
def oyN (V : Nat → (Nat → Int) → Int) (Y : hYr) (n : Nat) (h : Int) (c : Nat) (top : Int) : Int := (oyP V c Y n (0, top, h)).1
theorem oc_bd {c : Nat} {w : Int × Int × Int} {s : Int × Int × Int} {h : Int} (hs : 0 ≤ s.1 ∧ s.1 + h ≤ s.2.2) (h6 : s.2.2 ≤ 600) : ∀ k, (0 ≤ (ocP V c w k s).1 ∧ (ocP V c w k s).1 + h ≤ (ocP V c w k s).2.2) ∧ (ocP V c w k s).2.2 ≤ 600 := by
  intro k
  induction k with
  | zero => exact ⟨hs, h6⟩
  | succ k ih =>
    obtain ⟨⟨i1, i2⟩, i3⟩ := ih
    have st : ocP V c w (k + 1) s = if (ocP V c w k s).2.2 < 600 then o1P V c w (ocP V c w k s) else ocP V c w k s := rfl
    rw [st]
    split
    next g =>
      unfold o1P
      split
      · exact ⟨⟨by show 0 ≤ (ocP V c w k s).1 + 1; omega, by show (ocP V c w k s).1 + 1 + h ≤ (ocP V c w k s).2.2 + 1; omega⟩, by show (ocP V c w k s).2.2 + 1 ≤ 600; omega⟩
      · exact ⟨⟨i1, by show (ocP V c w k s).1 + h ≤ (ocP V c w k s).2.2 + 1; omega⟩, by show (ocP V c w k s).2.2 + 1 ≤ 600; omega⟩
    next => exact ⟨⟨i1, i2⟩, i3⟩
theorem oy_bd {c : Nat} {top h : Int} (h6 : h ≤ 600) : ∀ n, (0 ≤ (oyP V c Y n (0, top, h)).1 ∧ (oyP V c Y n (0, top, h)).1 + h ≤ (oyP V c Y n (0, top, h)).2.2) ∧ (oyP V c Y n (0, top, h)).2.2 ≤ 600 := by
  intro n
  induction n with
  | zero => exact ⟨⟨Int.le_refl _, by show (0 : Int) + h ≤ h; omega⟩, h6⟩
  | succ n ih => exact oc_bd ih.1 ih.2 _
theorem oyN_r {c n : Nat} {top h : Int} (h0 : 0 ≤ h) (h6 : h ≤ 600) : 0 ≤ oyN V Y n h c top ∧ oyN V Y n h c top ≤ 600 := by
  have := oy_bd (V := V) (Y := Y) (c := c) (top := top) h6 n
  unfold oyN
  omega
def fwP (V : Nat → (Nat → Int) → Int) (Y : hYr) (n : Nat) (h : Int) (cr : Nat → Int) (m : Int) (c : Nat) : Int := oyN V Y n h c (cr c) - oyN V Y n h c (cr c + m)
def plP (V : Nat → (Nat → Int) → Int) (Y : hYr) (n : Nat) (h : Int) (cr : Nat → Int) (nc : Nat) : Int := sumTo nc (fun c => oyN V Y n h c (cr c))
def fbP (fw : Nat → Int) (b : Nat) : Int := sumTo 12 (fun c => if b.testBit c = true then fw c else 0)
theorem sh47 : en_SH 47 = (100, 12) := by decide
theorem lt47 : 47 < 134 := by decide
theorem t_fewerBy {b : Nat} {fw : Nat → Int} (hT : trR hr) (hb : b < 4096) (hf : ∀ c, c < 12 → b.testBit c = true → hi 47 c = iI (fw c)) (H : K (.inl (some (.int (iI (fbP fw b))))) hi hl hr) : en_Call G (d + 1) xc xs Y_X8_fewerBy wN wN [.ref 38, .int (iI (b : Int))] hi hl hr K := by
  obtain ⟨t0, t1, t2, t3, t4⟩ := id hT
  apply en_X8_fewerBy
  simp (disch := omega) only [B_X8_fewerBy_0, en_ops, en_opc, iI_add, iI_mul, iI_sub, jL_add, jL_mul, iI_le, iI_lt, iI_eq, iI_eq0, iI_lt0, iI_0le, iI_le0, iI_0lt, jL_iI, iI_jL, lc_eq, lc_lt, lc_le, lc_ge, lc_gt, Nat.sub_zero, Nat.zero_le, true_and, and_true, Nat.reduceAdd, Nat.reduceLeDiff]
  suffices L : ∀ c : Nat, c ≤ 12 → en_V G Y_X8_fewerBy (d + 1) wN wN K 4 [.ref 38, .int (iI (b : Int)), .int (iI (sumTo c (fun c => if b.testBit c = true then fw c else 0))), .int (iI c)] [] hi hl hr xc xs from L 0 (by omega)
  refine lp 12 ?_ (fun c hc ih => ?_)
  · apply s_X8_fewerBy_4
    simp (disch := omega) only [B_X8_fewerBy_4, en_ops, en_opc, iI_add, iI_mul, iI_sub, jL_add, jL_mul, iI_le, iI_lt, iI_eq, iI_eq0, iI_lt0, iI_0le, iI_le0, iI_0lt, jL_iI, iI_jL, lc_eq, lc_lt, lc_le, lc_ge, lc_gt, Nat.sub_zero, Nat.zero_le, true_and, and_true, Nat.reduceAdd, Nat.reduceLeDiff]
    exact ⟨fun _ => H, fun e => absurd (show (12 : Int) ≤ ((12 : Nat) : Int) by omega) e⟩
  · rw [sumTo_s] at ih
    apply s_X8_fewerBy_4
    cases hbit : b.testBit c
    · rw [hbit, if_neg (by decide)] at ih
      simp (disch := omega) only [B_X8_fewerBy_4, sh_0 (show c < 32 by omega) hbit, en_ops, en_opc, iI_add, iI_mul, iI_sub, jL_add, jL_mul, iI_le, iI_lt, iI_eq, iI_eq0, iI_lt0, iI_0le, iI_le0, iI_0lt, jL_iI, iI_jL, lc_eq, lc_lt, lc_le, lc_ge, lc_gt, Nat.sub_zero, Nat.zero_le, true_and, and_true, Nat.reduceAdd, Nat.reduceLeDiff]
      exact ⟨fun e => by omega, fun _ => ⟨fun _ => ih, fun e => absurd (show ¬ (0 : Int) = 1 by decide) e⟩⟩
    · rw [hbit, if_pos rfl] at ih
      simp (disch := omega) only [B_X8_fewerBy_4, sh_1 (show c < 32 by omega) hbit, t2, sh38, lt38, sh47, lt47, en_ops, en_opc, iI_add, iI_mul, iI_sub, jL_add, jL_mul, iI_le, iI_lt, iI_eq, iI_eq0, iI_lt0, iI_0le, iI_le0, iI_0lt, jL_iI, iI_jL, lc_eq, lc_lt, lc_le, lc_ge, lc_gt, Nat.sub_zero, Nat.zero_le, true_and, and_true, Nat.reduceAdd, Nat.reduceLeDiff]
      refine ⟨fun e => by omega, fun _ => ⟨fun e => absurd rfl e, fun _ => ⟨c, rfl, by omega, ?_⟩⟩⟩
      rw [hf c hc hbit, iI_add]
      exact ih
def rsP (V : Nat → (Nat → Int) → Int) (Y : hYr) (n : Nat) (h : Int) (cr : Nat → Int) (m : Int) (nc b : Nat) : Int := plP V Y n h cr nc - fbP (fwP V Y n h cr m) b
def pkB (k : Nat) (b : Nat) : Bool := decide (1 ≤ b) && decide (bcN b = k)
theorem rsP_r {n b : Nat} {h m : Int} {cr : Nat → Int} (h0 : 0 ≤ h) (h6 : h ≤ 600) (hnc : nc ≤ 12) : -20000 ≤ rsP V Y n h cr m nc b ∧ rsP V Y n h cr m nc b ≤ 20000 := by
  have p := sumTo_bd (n := nc) (g := fun c => oyN V Y n h c (cr c)) (b := 600) (fun c _ => oyN_r h0 h6)
  have f1 := sumTo_le (n := 12) (f := fun c => if b.testBit c = true then fwP V Y n h cr m c else 0) (g := fun _ => 600) (fun c _ => by
    have a1 := oyN_r (V := V) (Y := Y) (n := n) (c := c) (top := cr c) h0 h6
    have a2 := oyN_r (V := V) (Y := Y) (n := n) (c := c) (top := cr c + m) h0 h6
    show (if b.testBit c = true then fwP V Y n h cr m c else 0) ≤ 600
    unfold fwP
    split <;> omega)
  have f2 := sumTo_le (n := 12) (f := fun _ => -600) (g := fun c => if b.testBit c = true then fwP V Y n h cr m c else 0) (fun c _ => by
    have a1 := oyN_r (V := V) (Y := Y) (n := n) (c := c) (top := cr c) h0 h6
    have a2 := oyN_r (V := V) (Y := Y) (n := n) (c := c) (top := cr c + m) h0 h6
    show -600 ≤ (if b.testBit c = true then fwP V Y n h cr m c else 0)
    unfold fwP
    split <;> omega)
  have e1 : sumTo 12 (fun _ => (600 : Int)) = 7200 := rfl
  have e2 : sumTo 12 (fun _ => (-600 : Int)) = -7200 := rfl
  unfold rsP plP fbP
  omega
theorem bit_lt {b n c : Nat} (hb : b < 2 ^ n) (h : b.testBit c = true) : c < n := by
  rcases Nat.lt_or_ge c n with g | g
  · exact g
  · have : b.testBit c = false := Nat.testBit_lt_two_pow (Nat.lt_of_lt_of_le hb (Nat.pow_le_pow_right (by decide) g))
    rw [this] at h; cases h
theorem pow12 {n : Nat} (h : n ≤ 12) : 2 ^ n ≤ 4096 := Nat.pow_le_pow_right (by decide) h
def P367 (x : Nat) : Prop := x = 35 ∨ x = 36 ∨ x = 38 ∨ x = 47
theorem t_raise {L y n k : Nat} {m : Int} (hT : trR hr) (hS : seR hr) (hL : isLw L) (hLR : lwR L hr) (hV : lwV G L V hi) (hVr : ∀ w nm, -2147483648 ≤ V w nm ∧ V w nm < 2147483648) (hq : hsH 16 E q hi) (hO : hOK E q) (hcr : ∀ c, c < 12 → q.2.1 c ≤ 900) (hy : isYe y) (hyR : yeR y hr) (hY : yeH y n Y hi) (hk : k ≤ 12) (hm : 1 ≤ m ∧ m ≤ 20)
    (H : ∀ hi', Fr P367 hi hi' → hi' 38 3 = iI (lsF (pkB k) (rsP V Y n q.2.2.2.2.2 q.2.1 m E.2.1) 0 (2 ^ E.2.1)).1 → ((lsF (pkB k) (rsP V Y n q.2.2.2.2.2 q.2.1 m E.2.1) 0 (2 ^ E.2.1)).1 ≠ -1 → hi' 38 4 = iI (lsF (pkB k) (rsP V Y n q.2.2.2.2.2 q.2.1 m E.2.1) 0 (2 ^ E.2.1)).2) → K (.inl none) hi' hl hr) :
    en_Call G (d + 5) xc xs Y_X8_raise wN wN [.ref 38, .ref 16, .ref L, .ref y, .int (iI (k : Int)), .int (iI m)] hi hl hr K := by
  obtain ⟨t0, t1, t2, t3, t4⟩ := id hT
  have hb : isSh 16 := Or.inl rfl
  obtain ⟨z0, z1, z2, z3, -⟩ := hb.sh
  obtain ⟨y1, y2, -⟩ := id t4
  obtain ⟨-, -, o3, o4, o5⟩ := id hO
  have nc12 := hq.1.2.2.1
  have nP : ∀ x, (x < 34 ∨ (36 < x ∧ x ≠ 38 ∧ x ≠ 47)) → ¬ P367 x := fun x g1 g => by unfold P367 at g; omega
  have e0 : ∀ h9, Fr P367 hi h9 → h9 16 0 = iI (E.2.1 : Int) := fun h9 F => by rw [F 16 (nP _ (by omega))]; exact hq.1.1
  have e11 : ∀ h9, Fr P367 hi h9 → h9 16 11 = iI q.2.2.2.2.2 := fun h9 F => by rw [F 16 (nP _ (by omega))]; exact hq.2.2.2.2.2.2
  have ec : ∀ h9, Fr P367 hi h9 → ∀ c, c < 12 → h9 18 c = iI (q.2.1 c) := fun h9 F c hc => by rw [F 18 (nP _ (by omega))]; exact hq.2.1 c hc
  have V9 : ∀ h9, Fr P367 hi h9 → lwV G L V h9 := fun h9 F => hV.mono hL F (fun x g => by unfold P367 at g; omega)
  have Y9 : ∀ h9, Fr P367 hi h9 → yeH y n Y h9 := fun h9 F => hY.fr hy F (fun x g1 g2 => nP x (by omega))
  have F56 : ∀ {h1 h2 : en_I}, Fr P56 h1 h2 → Fr P367 h1 h2 := fun F => F.mono (fun x g => by unfold P56 at g; unfold P367; omega)
  have r1 := fun c top => oyN_r (V := V) (Y := Y) (n := n) (c := c) (top := top) o4 o5
  have L89 : ∀ i : Nat, i ≤ 2 ^ E.2.1 ∨ i ≤ 1 → 1 ≤ i → ∀ h9 x8, Fr P367 hi h9 → (∀ c, c < E.2.1 → h9 47 c = iI (fwP V Y n q.2.2.2.2.2 q.2.1 m c)) → h9 38 3 = iI (lsF (pkB k) (rsP V Y n q.2.2.2.2.2 q.2.1 m E.2.1) 0 i).1 → ((lsF (pkB k) (rsP V Y n q.2.2.2.2.2 q.2.1 m E.2.1) 0 i).1 ≠ -1 → h9 38 4 = iI (lsF (pkB k) (rsP V Y n q.2.2.2.2.2 q.2.1 m E.2.1) 0 i).2) → en_V G Y_X8_raise (d + 5) wN wN K 89 [.ref 38, .ref 16, .ref L, .ref y, .int (iI (k : Int)), .int (iI m), .int (iI (plP V Y n q.2.2.2.2.2 q.2.1 E.2.1)), .int (iI i), x8] [] h9 hl hr xc xs := by
    have pw := pow12 nc12
    have pw1 : 1 ≤ 2 ^ E.2.1 := Nat.one_le_two_pow
    intro i hi1 hi2
    have hi3 : i ≤ 2 ^ E.2.1 := by omega
    clear hi1
    revert hi2
    refine lp (P := fun i => 1 ≤ i → ∀ h9 x8, Fr P367 hi h9 → (∀ c, c < E.2.1 → h9 47 c = iI (fwP V Y n q.2.2.2.2.2 q.2.1 m c)) → h9 38 3 = iI (lsF (pkB k) (rsP V Y n q.2.2.2.2.2 q.2.1 m E.2.1) 0 i).1 → ((lsF (pkB k) (rsP V Y n q.2.2.2.2.2 q.2.1 m E.2.1) 0 i).1 ≠ -1 → h9 38 4 = iI (lsF (pkB k) (rsP V Y n q.2.2.2.2.2 q.2.1 m E.2.1) 0 i).2) → en_V G Y_X8_raise (d + 5) wN wN K 89 [.ref 38, .ref 16, .ref L, .ref y, .int (iI (k : Int)), .int (iI m), .int (iI (plP V Y n q.2.2.2.2.2 q.2.1 E.2.1)), .int (iI i), x8] [] h9 hl hr xc xs) (2 ^ E.2.1) (fun _ h9 x8 F9 W9 B9 C9 => ?_) (fun i hi9 ih h1 h9 x8 F9 W9 B9 C9 => ?_) i hi3
    · apply s_X8_raise_89
      simp (disch := omega) only [B_X8_raise_89, z0, z1, e0 h9 F9, shl_1 E.2.1 (show E.2.1 < 31 by omega), en_ops, en_opc, iI_add, iI_mul, iI_sub, jL_add, jL_mul, iI_le, iI_lt, iI_eq, iI_eq0, iI_lt0, iI_0le, iI_le0, iI_0lt, jL_iI, iI_jL, lc_eq, lc_lt, lc_le, lc_ge, lc_gt, Nat.sub_zero, Nat.zero_le, true_and, and_true, Nat.reduceAdd, Nat.reduceLeDiff]
      exact ⟨fun _ => H h9 F9 B9 C9, fun e => absurd (Int.le_refl _) e⟩
    · obtain ⟨⟨ls1, ls2⟩, ls3, ls4⟩ := lsF_r (P := pkB k) (g := rsP V Y n q.2.2.2.2.2 q.2.1 m E.2.1) (s0 := 0) (lo := -20000) (h := 20000) (by omega) i (fun j _ _ => rsP_r o4 o5 nc12)
      have rr := rsP_r (V := V) (Y := Y) (n := n) (b := i) (m := m) (cr := q.2.1) o4 o5 nc12
      have bl := bc_le (b := i)
      apply s_X8_raise_89
      simp (disch := omega) only [B_X8_raise_89, z0, z1, e0 h9 F9, shl_1 E.2.1 (show E.2.1 < 31 by omega), en_ops, en_opc, iI_add, iI_mul, iI_sub, jL_add, jL_mul, iI_le, iI_lt, iI_eq, iI_eq0, iI_lt0, iI_0le, iI_le0, iI_0lt, jL_iI, iI_jL, lc_eq, lc_lt, lc_le, lc_ge, lc_gt, Nat.sub_zero, Nat.zero_le, true_and, and_true, Nat.reduceAdd, Nat.reduceLeDiff]
      refine ⟨fun e => by omega, fun _ => t_bitCount (d := d + 3) (by omega) ?_⟩
      simp (disch := omega) only [en_ops, en_opc, iI_add, iI_mul, iI_sub, jL_add, jL_mul, iI_le, iI_lt, iI_eq, iI_eq0, iI_lt0, iI_0le, iI_le0, iI_0lt, jL_iI, iI_jL, lc_eq, lc_lt, lc_le, lc_ge, lc_gt, Nat.sub_zero, Nat.zero_le, true_and, and_true, Nat.reduceAdd, Nat.reduceLeDiff]
      refine ⟨fun e => ?_, fun e => ⟨⟨by decide, by decide⟩, t_fewerBy (d := d + 3) (fw := fwP V Y n q.2.2.2.2.2 q.2.1 m) hT (by omega) (fun c hc hbit => W9 c (bit_lt hi9 hbit)) ?_⟩⟩
      · have st : lsF (pkB k) (rsP V Y n q.2.2.2.2.2 q.2.1 m E.2.1) 0 (i + 1) = lsF (pkB k) (rsP V Y n q.2.2.2.2.2 q.2.1 m E.2.1) 0 i := if_neg (fun g => by
          have := g.1
          unfold pkB at this
          simp at this
          omega)
        rw [st] at ih
        exact ih (by omega) h9 x8 F9 W9 B9 C9
      · have pk : pkB k i = true := by unfold pkB; simp; omega
        have er : plP V Y n q.2.2.2.2.2 q.2.1 E.2.1 - fbP (fwP V Y n q.2.2.2.2.2 q.2.1 m) i = rsP V Y n q.2.2.2.2.2 q.2.1 m E.2.1 i := rfl
        have F38 : ∀ u v : Int, Fr P367 hi (en_up (en_up h9 38 3 (iI u)) 38 4 (iI v)) := fun u v => Fr.up (Fr.up F9 (by unfold P367; omega)) (by unfold P367; omega)
        have yes : ((lsF (pkB k) (rsP V Y n q.2.2.2.2.2 q.2.1 m E.2.1) 0 i).1 = -1 ∨ rsP V Y n q.2.2.2.2.2 q.2.1 m E.2.1 i < (lsF (pkB k) (rsP V Y n q.2.2.2.2.2 q.2.1 m E.2.1) 0 i).2) → en_V G Y_X8_raise (d + 5) wN wN K 89 [.ref 38, .ref 16, .ref L, .ref y, .int (iI (k : Int)), .int (iI m), .int (iI (plP V Y n q.2.2.2.2.2 q.2.1 E.2.1)), .int (iI ((i : Int) + 1)), .int (iI (rsP V Y n q.2.2.2.2.2 q.2.1 m E.2.1 i))] [] (en_up (en_up h9 38 3 (iI (i : Int))) 38 4 (iI (rsP V Y n q.2.2.2.2.2 q.2.1 m E.2.1 i))) hl hr xc xs := fun g => by
          have st : lsF (pkB k) (rsP V Y n q.2.2.2.2.2 q.2.1 m E.2.1) 0 (i + 1) = ((i : Int), rsP V Y n q.2.2.2.2.2 q.2.1 m E.2.1 i) := if_pos ⟨pk, g⟩
          rw [st] at ih
          exact ih (by omega) _ _ (F38 _ _) (fun c hc => by rw [up_row (by omega), up_row (by omega)]; exact W9 c hc) (by rw [up_ne (Or.inr (by omega)), up_at]) (fun _ => by rw [up_at])
        simp (disch := omega) only [er, sh38, lt38, en_ops, en_opc, iI_add, iI_mul, iI_sub, jL_add, jL_mul, iI_le, iI_lt, iI_eq, iI_eq0, iI_lt0, iI_0le, iI_le0, iI_0lt, jL_iI, iI_jL, lc_eq, lc_lt, lc_le, lc_ge, lc_gt, Nat.sub_zero, Nat.zero_le, true_and, and_true, Nat.reduceAdd, Nat.reduceLeDiff]
        rw [B9]
        simp (disch := omega) only [sh38, lt38, en_ops, en_opc, iI_add, iI_mul, iI_sub, jL_add, jL_mul, iI_le, iI_lt, iI_eq, iI_eq0, iI_lt0, iI_0le, iI_le0, iI_0lt, jL_iI, iI_jL, lc_eq, lc_lt, lc_le, lc_ge, lc_gt, Nat.sub_zero, Nat.zero_le, true_and, and_true, Nat.reduceAdd, Nat.reduceLeDiff]
        refine ⟨fun e2 => yes (Or.inl e2), fun e2 => ?_⟩
        rw [C9 e2]
        simp (disch := omega) only [sh38, lt38, en_ops, en_opc, iI_add, iI_mul, iI_sub, jL_add, jL_mul, iI_le, iI_lt, iI_eq, iI_eq0, iI_lt0, iI_0le, iI_le0, iI_0lt, jL_iI, iI_jL, lc_eq, lc_lt, lc_le, lc_ge, lc_gt, Nat.sub_zero, Nat.zero_le, true_and, and_true, Nat.reduceAdd, Nat.reduceLeDiff]
        refine ⟨fun e3 => ?_, fun e3 => yes (Or.inr (by omega))⟩
        have st : lsF (pkB k) (rsP V Y n q.2.2.2.2.2 q.2.1 m E.2.1) 0 (i + 1) = lsF (pkB k) (rsP V Y n q.2.2.2.2.2 q.2.1 m E.2.1) 0 i := if_neg (fun g => by rcases g.2 with g | g <;> omega)
        rw [st] at ih
        exact ih (by omega) h9 _ F9 W9 B9 C9
  apply en_X8_raise
  simp (disch := omega) only [B_X8_raise_0, en_ops, en_opc, iI_add, iI_mul, iI_sub, jL_add, jL_mul, iI_le, iI_lt, iI_eq, iI_eq0, iI_lt0, iI_0le, iI_le0, iI_0lt, jL_iI, iI_jL, lc_eq, lc_lt, lc_le, lc_ge, lc_gt, Nat.sub_zero, Nat.zero_le, true_and, and_true, Nat.reduceAdd, Nat.reduceLeDiff]
  suffices L6 : ∀ c : Nat, c ≤ E.2.1 → ∀ h9 x8, Fr P367 hi h9 → (∀ j, j < c → h9 47 j = iI (fwP V Y n q.2.2.2.2.2 q.2.1 m j)) → en_V G Y_X8_raise (d + 5) wN wN K 6 [.ref 38, .ref 16, .ref L, .ref y, .int (iI (k : Int)), .int (iI m), .int (iI (plP V Y n q.2.2.2.2.2 q.2.1 c)), .int (iI c), x8] [] h9 hl hr xc xs from L6 0 (by omega) hi _ Fr.rf (fun j hj => by omega)
  refine lp E.2.1 (fun h9 x8 F9 W9 => ?_) (fun c hc ih h9 x8 F9 W9 => ?_)
  · apply s_X8_raise_6
    simp (disch := omega) only [B_X8_raise_6, z0, z1, e0 h9 F9, sh38, lt38, en_ops, en_opc, iI_add, iI_mul, iI_sub, jL_add, jL_mul, iI_le, iI_lt, iI_eq, iI_eq0, iI_lt0, iI_0le, iI_le0, iI_0lt, jL_iI, iI_jL, lc_eq, lc_lt, lc_le, lc_ge, lc_gt, Nat.sub_zero, Nat.zero_le, true_and, and_true, Nat.reduceAdd, Nat.reduceLeDiff]
    refine ⟨fun _ => ?_, fun e => absurd (Int.le_refl _) e⟩
    exact L89 1 (Or.inr (by omega)) (by omega) _ _ (Fr.up F9 (by unfold P367; omega)) (fun j hj => by rw [up_row (by omega)]; exact W9 j hj) (by rw [up_at]; rfl) (fun e => absurd rfl e)
  · have cc := o3 c (by omega)
    have cc9 := hcr c (by omega)
    apply s_X8_raise_6
    simp (disch := omega) only [B_X8_raise_6, z0, z1, sh18, lt18, y2, e0 h9 F9, t0, sh38, lt38, en_ops, en_opc, iI_add, iI_mul, iI_sub, jL_add, jL_mul, iI_le, iI_lt, iI_eq, iI_eq0, iI_lt0, iI_0le, iI_le0, iI_0lt, jL_iI, iI_jL, lc_eq, lc_lt, lc_le, lc_ge, lc_gt, Nat.sub_zero, Nat.zero_le, true_and, and_true, Nat.reduceAdd, Nat.reduceLeDiff]
    refine ⟨fun e => by omega, fun _ => ⟨c, rfl, by omega, ?_⟩⟩
    rw [ec h9 F9 c (by omega)]
    refine ⟨⟨by decide, by decide⟩, ?_⟩
    refine t_oversIn (V := V) (Y := Y) (d := d) hS hL hLR (V9 h9 F9) hVr hb hy hyR (Y9 h9 F9) (e11 h9 F9) ⟨⟨cc.1, cc.2⟩, o4, o5⟩ (fun h8 F8 => ?_)
    have F98 := F9.tr (F56 F8)
    simp (disch := omega) only [z0, z1, sh18, lt18, y2, t0, t2, sh38, lt38, en_ops, en_opc, iI_add, iI_mul, iI_sub, jL_add, jL_mul, iI_le, iI_lt, iI_eq, iI_eq0, iI_lt0, iI_0le, iI_le0, iI_0lt, jL_iI, iI_jL, lc_eq, lc_lt, lc_le, lc_ge, lc_gt, Nat.sub_zero, Nat.zero_le, true_and, and_true, Nat.reduceAdd, Nat.reduceLeDiff]
    refine ⟨c, rfl, by omega, ?_⟩
    rw [ec h8 F98 c (by omega)]
    simp (disch := omega) only [en_ops, en_opc, iI_add, iI_mul, iI_sub, jL_add, jL_mul, iI_le, iI_lt, iI_eq, iI_eq0, iI_lt0, iI_0le, iI_le0, iI_0lt, jL_iI, iI_jL, lc_eq, lc_lt, lc_le, lc_ge, lc_gt, Nat.sub_zero, Nat.zero_le, true_and, and_true, Nat.reduceAdd, Nat.reduceLeDiff]
    refine ⟨⟨by decide, by decide⟩, ?_⟩
    refine t_oversIn (V := V) (Y := Y) (d := d) hS hL hLR (V9 h8 F98) hVr hb hy hyR (Y9 h8 F98) (e11 h8 F98) ⟨⟨by show 1 ≤ q.2.1 c + m; omega, by show q.2.1 c + m ≤ 1000; omega⟩, o4, o5⟩ (fun h7 F7 => ?_)
    have F97 := F98.tr (F56 F7)
    simp (disch := omega) only [sh47, lt47, en_ops, en_opc, iI_add, iI_mul, iI_sub, jL_add, jL_mul, iI_le, iI_lt, iI_eq, iI_eq0, iI_lt0, iI_0le, iI_le0, iI_0lt, jL_iI, iI_jL, lc_eq, lc_lt, lc_le, lc_ge, lc_gt, Nat.sub_zero, Nat.zero_le, true_and, and_true, Nat.reduceAdd, Nat.reduceLeDiff]
    refine ⟨c, rfl, by omega, ?_⟩
    have ep : plP V Y n q.2.2.2.2.2 q.2.1 (c + 1) = plP V Y n q.2.2.2.2.2 q.2.1 c + (oyP V c Y n (0, q.2.1 c, q.2.2.2.2.2)).1 := by unfold plP; rw [sumTo_s]; rfl
    rw [ep] at ih
    refine ih _ _ (Fr.up F97 (by unfold P367; omega)) (fun j hj => ?_)
    by_cases e : j = c
    · subst e; rw [up_at]; rfl
    · rw [up_ne (Or.inr e), F7 47 (P56.n _ (by omega)), F8 47 (P56.n _ (by omega))]; exact W9 j (by omega)
end
-- DRAFT 60
section
variable {G : en_G} {d : Nat} {K : en_K} {a : Nat} {E : hEnv} {q : hSt} {hi : en_I} {hl : en_L} {hr : en_F} {xc xs : Nat} {Y : hYr}
def gtF (P : Nat → Bool) (g : Nat → Int) (s0 : Int) : Nat → Int × Int
  | 0 => (-1, s0)
  | i + 1 => if P i = true ∧ ((gtF P g s0 i).1 = -1 ∨ (gtF P g s0 i).2 < g i) then ((i : Int), g i) else gtF P g s0 i
theorem gtF_r {P : Nat → Bool} {g : Nat → Int} {s0 lo h : Int} (h0 : lo ≤ s0 ∧ s0 ≤ h) : ∀ n, (∀ i, i < n → P i = true → lo ≤ g i ∧ g i ≤ h) → (-1 ≤ (gtF P g s0 n).1 ∧ (gtF P g s0 n).1 < n) ∧ lo ≤ (gtF P g s0 n).2 ∧ (gtF P g s0 n).2 ≤ h := by
  intro n
  induction n with
  | zero => exact fun _ => ⟨⟨Int.le_refl _, by show (-1 : Int) < 0; omega⟩, h0⟩
  | succ n ih =>
    intro hg
    obtain ⟨⟨i1, i2⟩, i3⟩ := ih (fun i hi => hg i (by omega))
    have st : gtF P g s0 (n + 1) = if P n = true ∧ ((gtF P g s0 n).1 = -1 ∨ (gtF P g s0 n).2 < g n) then ((n : Int), g n) else gtF P g s0 n := rfl
    rw [st]
    split
    next c => exact ⟨⟨by show (-1 : Int) ≤ n; omega, by show (n : Int) < _; omega⟩, hg n (by omega) c.1⟩
    next => exact ⟨⟨i1, by omega⟩, i3⟩
/-- the stones of a cell behind a year with walls -/
def wbG (E : hEnv) (Y : hYr) (n : Nat) (p : Int) (c : Nat) (q : hSt) (b : Nat) : Int := wP (yrP (wlE E (bwP E.2.1 b p E.2.2.2.1)) Y n q).1 E.2.2.1 c
theorem t_wall {pl L y n k c : Nat} {p : Int} (hT : trR hr) (hS : seS pl L hr) (hE : eOK E) (hse : seH G pl L E hi) (hq : hsH 16 E q hi) (hO : hOK E q) (hy : isYe y) (hyR : yeR y hr) (hY : yeH y n Y hi) (hk : k ≤ 12) (hp : 0 ≤ p ∧ p ≤ 16) (hc : c < 12) (hnc : 1 ≤ E.2.1)
    (H : ∀ hi', Fr Ptr hi hi' → seH G pl L E hi' → hi' 38 3 = iI (gtF (pkB k) (wbG E Y n p c q) 0 (2 ^ (E.2.1 - 1))).1 → ((gtF (pkB k) (wbG E Y n p c q) 0 (2 ^ (E.2.1 - 1))).1 ≠ -1 → hi' 38 4 = iI (gtF (pkB k) (wbG E Y n p c q) 0 (2 ^ (E.2.1 - 1))).2) → K (.inl none) hi' hl hr) :
    en_Call G (d + 7) xc xs Y_X8_wall wN wN [.ref 38, .ref 16, .ref L, .ref y, .int (iI (k : Int)), .int (iI p), .int (iI (c : Int))] hi hl hr K := by
  obtain ⟨t0, t1, t2, t3, t4⟩ := id hT
  have ha : isSh 39 := Or.inr (Or.inl rfl)
  have hb : isSh 16 := Or.inl rfl
  obtain ⟨z0, z1, -⟩ := hb.sh
  obtain ⟨s0, s1, -⟩ := ha.sh
  have nc12 := hq.1.2.2.1
  have nz6 := hq.1.2.2.2.1
  have p38 : Ptr 38 := by unfold Ptr; omega
  have nP : ∀ x, 16 ≤ x → x ≤ 23 → ¬ Ptr x := fun x g1 g2 g => by unfold Ptr at g; omega
  have e0 : ∀ h9, Fr Ptr hi h9 → h9 16 0 = iI (E.2.1 : Int) := fun h9 F => by rw [F 16 (nP _ (by omega) (by omega))]; exact hq.1.1
  have ecc : ((E.2.1 : Int) - 1) = ((E.2.1 - 1 : Nat) : Int) := by omega
  have pw := pow12 (n := E.2.1 - 1) (by omega)
  have pw1 : 1 ≤ 2 ^ (E.2.1 - 1) := Nat.one_le_two_pow
  have upd : ∀ (h7 : en_I) (u v : Int), seH G pl L E h7 → seH G pl L E (en_up (en_up h7 38 3 (iI u)) 38 4 (iI v)) := fun h7 u v X7 => by
    have F0 : Fr (· = 38) h7 (en_up (en_up h7 38 3 (iI u)) 38 4 (iI v)) := Fr.up (Fr.up Fr.rf (by rfl)) (by rfl)
    have e : ∀ x, x ≠ 38 → en_up (en_up h7 38 3 (iI u)) 38 4 (iI v) x = h7 x := fun x hx => F0 x hx
    have p14 := hS.2.2.1.sh.2.2.2.2.2.2.1
    obtain ⟨⟨z0, z1, z2⟩, ⟨v0, v1, v2⟩, x3, x4⟩ := X7
    exact ⟨⟨by rw [e pl (by omega)]; exact z0, z1, fun i hi9 => by rw [e (pl + 4) (by omega)]; exact z2 i hi9⟩, ⟨by rw [e pl (by omega)]; exact v0, v1, fun i hi9 => by rw [e (pl + 5) (by omega)]; exact v2 i hi9⟩, x3.mono hS.2.2.2.2.1 F0 (fun x g => by omega), fun c z k hc hz hk => by rw [e 37 (by omega)]; exact x4 c z k hc hz hk⟩
  have upd3 : ∀ (h7 : en_I) (u : Int), seH G pl L E h7 → seH G pl L E (en_up h7 38 3 (iI u)) := fun h7 u X7 => by
    have F0 : Fr (· = 38) h7 (en_up h7 38 3 (iI u)) := Fr.up Fr.rf (by rfl)
    have e : ∀ x, x ≠ 38 → en_up h7 38 3 (iI u) x = h7 x := fun x hx => F0 x hx
    have p14 := hS.2.2.1.sh.2.2.2.2.2.2.1
    obtain ⟨⟨z0, z1, z2⟩, ⟨v0, v1, v2⟩, x3, x4⟩ := X7
    exact ⟨⟨by rw [e pl (by omega)]; exact z0, z1, fun i hi9 => by rw [e (pl + 4) (by omega)]; exact z2 i hi9⟩, ⟨by rw [e pl (by omega)]; exact v0, v1, fun i hi9 => by rw [e (pl + 5) (by omega)]; exact v2 i hi9⟩, x3.mono hS.2.2.2.2.1 F0 (fun x g => by omega), fun c z k hc hz hk => by rw [e 37 (by omega)]; exact x4 c z k hc hz hk⟩
  apply en_X8_wall
  simp (disch := omega) only [B_X8_wall_0, sh38, lt38, en_ops, en_opc, iI_add, iI_mul, iI_sub, jL_add, jL_mul, iI_le, iI_lt, iI_eq, iI_eq0, iI_lt0, iI_0le, iI_le0, iI_0lt, jL_iI, iI_jL, lc_eq, lc_lt, lc_le, lc_ge, lc_gt, Nat.sub_zero, Nat.zero_le, true_and, and_true, Nat.reduceAdd, Nat.reduceLeDiff]
  suffices L8 : ∀ i : Nat, i ≤ 2 ^ (E.2.1 - 1) → 1 ≤ i → ∀ h9 x8, Fr Ptr hi h9 → seH G pl L E h9 → (∀ j, j < i → 0 ≤ wbG E Y n p c q j ∨ pkB k j = false) → (∀ j, j < i → wbG E Y n p c q j ≤ 10000000 ∨ pkB k j = false) → h9 38 3 = iI (gtF (pkB k) (wbG E Y n p c q) 0 i).1 → ((gtF (pkB k) (wbG E Y n p c q) 0 i).1 ≠ -1 → h9 38 4 = iI (gtF (pkB k) (wbG E Y n p c q) 0 i).2) → en_V G Y_X8_wall (d + 7) wN wN K 8 [.ref 38, .ref 16, .ref L, .ref y, .int (iI (k : Int)), .int (iI p), .int (iI (c : Int)), .int (iI i), x8] [] h9 hl hr xc xs by
    have pk0 : pkB k 0 = false := rfl
    exact L8 1 (by omega) (by omega) _ _ (Fr.up Fr.rf p38) (upd3 hi (-1) hse) (fun j hj => Or.inr (by rw [show j = 0 by omega]; exact pk0)) (fun j hj => Or.inr (by rw [show j = 0 by omega]; exact pk0)) (by rw [up_at]; rfl) (fun e => absurd rfl e)
  refine lp (2 ^ (E.2.1 - 1)) (fun _ h9 x8 F9 S9 R9 T9 B9 C9 => ?_) (fun i hi9 ih h1 h9 x8 F9 S9 R9 T9 B9 C9 => ?_)
  · apply s_X8_wall_8
    simp (disch := omega) only [B_X8_wall_8, z0, z1, e0 h9 F9, ecc, shl_1 (E.2.1 - 1) (show E.2.1 - 1 < 31 by omega), en_ops, en_opc, iI_add, iI_mul, iI_sub, jL_add, jL_mul, iI_le, iI_lt, iI_eq, iI_eq0, iI_lt0, iI_0le, iI_le0, iI_0lt, jL_iI, iI_jL, lc_eq, lc_lt, lc_le, lc_ge, lc_gt, Nat.sub_zero, Nat.zero_le, true_and, and_true, Nat.reduceAdd, Nat.reduceLeDiff]
    exact ⟨fun _ => H h9 F9 S9 B9 C9, fun e => absurd (Int.le_refl _) e⟩
  · have bl := bc_le (b := i)
    obtain ⟨⟨ls1, ls2⟩, ls3, ls4⟩ := gtF_r (P := pkB k) (g := wbG E Y n p c q) (s0 := 0) (lo := 0) (h := 10000000) (by omega) i (fun j hj pj => by
      rcases R9 j hj with g1 | g1
      · rcases T9 j hj with g2 | g2
        · exact ⟨g1, g2⟩
        · rw [g2] at pj; cases pj
      · rw [g1] at pj; cases pj)
    have Q9 := hq.frP F9 (fun x g1 g2 => nP x g1 (by omega))
    apply s_X8_wall_8
    simp (disch := omega) only [B_X8_wall_8, z0, z1, e0 h9 F9, ecc, shl_1 (E.2.1 - 1) (show E.2.1 - 1 < 31 by omega), en_ops, en_opc, iI_add, iI_mul, iI_sub, jL_add, jL_mul, iI_le, iI_lt, iI_eq, iI_eq0, iI_lt0, iI_0le, iI_le0, iI_0lt, jL_iI, iI_jL, lc_eq, lc_lt, lc_le, lc_ge, lc_gt, Nat.sub_zero, Nat.zero_le, true_and, and_true, Nat.reduceAdd, Nat.reduceLeDiff]
    refine ⟨fun e => by omega, fun _ => t_bitCount (d := d + 5) (by omega) ?_⟩
    simp (disch := omega) only [t0, t1, sh38, lt38, en_ops, en_opc, iI_add, iI_mul, iI_sub, jL_add, jL_mul, iI_le, iI_lt, iI_eq, iI_eq0, iI_lt0, iI_0le, iI_le0, iI_0lt, jL_iI, iI_jL, lc_eq, lc_lt, lc_le, lc_ge, lc_gt, Nat.sub_zero, Nat.zero_le, true_and, and_true, Nat.reduceAdd, Nat.reduceLeDiff]
    refine ⟨fun e => ?_, fun e => ⟨⟨by decide, by decide⟩, t_copy ha hb (by decide) t3 t4 (fun h8 C8 => ?_)⟩⟩
    · have pk : pkB k i = false := by unfold pkB; simp; omega
      have st : gtF (pkB k) (wbG E Y n p c q) 0 (i + 1) = gtF (pkB k) (wbG E Y n p c q) 0 i := if_neg (fun g => by rw [pk] at g; exact absurd g.1 (by decide))
      rw [st] at ih
      refine ih (by omega) h9 x8 F9 S9 (fun j hj => ?_) (fun j hj => ?_) B9 C9
      · by_cases g : j = i
        · subst g; exact Or.inr pk
        · exact R9 j (by omega)
      · by_cases g : j = i
        · subst g; exact Or.inr pk
        · exact T9 j (by omega)
    · have pk : pkB k i = true := by unfold pkB; simp; omega
      have F8 : Fr Ptr hi h8 := F9.tr (C8.1.mono (fun x g => Psh39 g))
      simp (disch := omega) only [t0, t1, sh38, lt38, en_ops, en_opc, iI_add, iI_mul, iI_sub, jL_add, jL_mul, iI_le, iI_lt, iI_eq, iI_eq0, iI_lt0, iI_0le, iI_le0, iI_0lt, jL_iI, iI_jL, lc_eq, lc_lt, lc_le, lc_ge, lc_gt, Nat.sub_zero, Nat.zero_le, true_and, and_true, Nat.reduceAdd, Nat.reduceLeDiff]
      refine t_buildWalls (d := d + 5) hT (C8.hs ha Q9) (by omega) (fun h7 F7 Q7 => ?_)
      have F97 : Fr Ptr hi h7 := F8.tr (F7.mono (fun x e => by unfold Ptr; omega))
      have S7 : seH G pl L E h7 := (S9.tr39 hS C8.1 (fun x g => by unfold Psh at g; omega)).tr39 hS F7 (fun x g => by omega)
      simp (disch := omega) only [t0, t1, sh38, lt38, en_ops, en_opc, iI_add, iI_mul, iI_sub, jL_add, jL_mul, iI_le, iI_lt, iI_eq, iI_eq0, iI_lt0, iI_0le, iI_le0, iI_0lt, jL_iI, iI_jL, lc_eq, lc_lt, lc_le, lc_ge, lc_gt, Nat.sub_zero, Nat.zero_le, true_and, and_true, Nat.reduceAdd, Nat.reduceLeDiff]
      refine ⟨⟨by decide, by decide⟩, ?_⟩
      refine t_tryYear (E' := wlE E (bwP E.2.1 i p E.2.2.2.1)) (hi0 := hi) hT hS (hE.wl (bwP_r hp hE.2.1)) S7 Q7 hO hy hyR hY F97 (fun h6 F6 Q6 O6 S6 E6 _ => ?_)
      simp (disch := omega) only [t1, sh38, lt38, s0, s1, en_ops, en_opc, iI_add, iI_mul, iI_sub, jL_add, jL_mul, iI_le, iI_lt, iI_eq, iI_eq0, iI_lt0, iI_0le, iI_le0, iI_0lt, jL_iI, iI_jL, lc_eq, lc_lt, lc_le, lc_ge, lc_gt, Nat.sub_zero, Nat.zero_le, true_and, and_true, Nat.reduceAdd, Nat.reduceLeDiff]
      have B6 := O6.1
      refine t_allIn (d := d + 5) ha t3 Q6.1 B6 hc ?_
      have g0 := wP_nn (m := E.2.2.1) B6 c
      have g1 := wP_le B6 nz6 hc
      have eg : wP (yrP (wlE E (bwP E.2.1 i p E.2.2.2.1)) Y n q).1 (wlE E (bwP E.2.1 i p E.2.2.2.1)).2.2.1 c = wbG E Y n p c q i := rfl
      rw [eg]
      have eg2 : wP (yrP (wlE E (bwP E.2.1 i p E.2.2.2.1)) Y n q).1 E.2.2.1 c = wbG E Y n p c q i := rfl
      rw [eg2] at g0 g1
      have R6 : ∀ j, j < i + 1 → 0 ≤ wbG E Y n p c q j ∨ pkB k j = false := fun j hj => by
        by_cases g : j = i
        · subst g; exact Or.inl g0
        · exact R9 j (by omega)
      have T6 : ∀ j, j < i + 1 → wbG E Y n p c q j ≤ 10000000 ∨ pkB k j = false := fun j hj => by
        by_cases g : j = i
        · subst g; exact Or.inl g1
        · exact T9 j (by omega)
      have E69 : ∀ j, h6 38 j = h9 38 j := fun j => by rw [E6, F7 38 (by decide), C8.1 38 (by unfold Psh; omega)]
      have S6' : seH G pl L E h6 := S6
      have yes : ((gtF (pkB k) (wbG E Y n p c q) 0 i).1 = -1 ∨ (gtF (pkB k) (wbG E Y n p c q) 0 i).2 < wbG E Y n p c q i) → en_V G Y_X8_wall (d + 7) wN wN K 8 [.ref 38, .ref 16, .ref L, .ref y, .int (iI (k : Int)), .int (iI p), .int (iI (c : Int)), .int (iI ((i : Int) + 1)), .int (iI (wbG E Y n p c q i))] [] (en_up (en_up h6 38 3 (iI (i : Int))) 38 4 (iI (wbG E Y n p c q i))) hl hr xc xs := fun g => by
        have st : gtF (pkB k) (wbG E Y n p c q) 0 (i + 1) = ((i : Int), wbG E Y n p c q i) := if_pos ⟨pk, g⟩
        rw [st] at ih
        exact ih (by omega) _ _ (Fr.up (Fr.up F6 p38) p38) (upd _ _ _ S6') R6 T6 (by rw [up_ne (Or.inr (by omega)), up_at]) (fun _ => by rw [up_at])
      simp (disch := omega) only [sh38, lt38, en_ops, en_opc, iI_add, iI_mul, iI_sub, jL_add, jL_mul, iI_le, iI_lt, iI_eq, iI_eq0, iI_lt0, iI_0le, iI_le0, iI_0lt, jL_iI, iI_jL, lc_eq, lc_lt, lc_le, lc_ge, lc_gt, Nat.sub_zero, Nat.zero_le, true_and, and_true, Nat.reduceAdd, Nat.reduceLeDiff]
      rw [E69 3, B9]
      simp (disch := omega) only [sh38, lt38, en_ops, en_opc, iI_add, iI_mul, iI_sub, jL_add, jL_mul, iI_le, iI_lt, iI_eq, iI_eq0, iI_lt0, iI_0le, iI_le0, iI_0lt, jL_iI, iI_jL, lc_eq, lc_lt, lc_le, lc_ge, lc_gt, Nat.sub_zero, Nat.zero_le, true_and, and_true, Nat.reduceAdd, Nat.reduceLeDiff]
      refine ⟨fun e2 => yes (Or.inl e2), fun e2 => ?_⟩
      rw [E69 4, C9 e2]
      simp (disch := omega) only [sh38, lt38, en_ops, en_opc, iI_add, iI_mul, iI_sub, jL_add, jL_mul, iI_le, iI_lt, iI_eq, iI_eq0, iI_lt0, iI_0le, iI_le0, iI_0lt, jL_iI, iI_jL, lc_eq, lc_lt, lc_le, lc_ge, lc_gt, Nat.sub_zero, Nat.zero_le, true_and, and_true, Nat.reduceAdd, Nat.reduceLeDiff]
      refine ⟨fun e3 => ?_, fun e3 => yes (Or.inr (by omega))⟩
      have st : gtF (pkB k) (wbG E Y n p c q) 0 (i + 1) = gtF (pkB k) (wbG E Y n p c q) 0 i := if_neg (fun g => by rcases g.2 with g | g <;> omega)
      rw [st] at ih
      exact ih (by omega) h6 _ F6 S6' R6 T6 (by rw [E69]; exact B9) (fun e => by rw [E69]; exact C9 e)
end
-- DRAFT 61
section
variable {G : en_G} {d : Nat} {K : en_K} {a : Nat} {E : hEnv} {q : hSt} {hi : en_I} {hl : en_L} {hr : en_F} {xc xs : Nat} {Y : hYr} {V : Nat → (Nat → Int) → Int}
/-- behind how many years a cell has fewer -/
def laP (E : hEnv) (Y : hYr) (n c : Nat) (m : Int) : Nat → Nat → hSt → Int
  | 0, _, _ => -1
  | k + 1, g, q => if wP q.1 E.2.2.1 c < m then (g : Int) else if 600 ≤ q.2.2.2.2.2 then -1 else laP E Y n c m k (g + 1) (yrP E Y n q)
theorem t_years {pl L y n c : Nat} {m : Int} (hT : trR hr) (hS : seS pl L hr) (hE : eOK E) (hse : seH G pl L E hi) (hq : hsH 16 E q hi) (hO : hOK E q) (hy : isYe y) (hyR : yeR y hr) (hY : yeH y n Y hi) (hc : c < 12) (hm : 1 ≤ m ∧ m ≤ 999999)
    (H : ∀ hi', Fr Ptr hi hi' → seH G pl L E hi' → K (.inl (some (.int (iI (laP E Y n c m 21 0 q))))) hi' hl hr) :
    en_Call G (d + 7) xc xs Y_X8_yearsTillFewer wN wN [.ref 38, .ref 16, .ref L, .ref y, .int (iI (c : Int)), .int (iI m)] hi hl hr K := by
  obtain ⟨t0, t1, t2, t3, t4⟩ := id hT
  have ha : isSh 39 := Or.inr (Or.inl rfl)
  have hb : isSh 16 := Or.inl rfl
  obtain ⟨s0, s1, -⟩ := ha.sh
  have nz6 := hq.1.2.2.2.1
  apply en_X8_yearsTillFewer
  simp (disch := omega) only [B_X8_yearsTillFewer_0, t0, t1, sh38, lt38, en_ops, en_opc, iI_add, iI_mul, iI_sub, jL_add, jL_mul, iI_le, iI_lt, iI_eq, iI_eq0, iI_lt0, iI_0le, iI_le0, iI_0lt, jL_iI, iI_jL, lc_eq, lc_lt, lc_le, lc_ge, lc_gt, Nat.sub_zero, Nat.zero_le, true_and, and_true, Nat.reduceAdd, Nat.reduceLeDiff]
  refine ⟨⟨by decide, by decide⟩, t_copy ha hb (by decide) t3 t4 (fun h8 C8 => ?_)⟩
  simp (disch := omega) only [en_ops, en_opc, iI_add, iI_mul, iI_sub, jL_add, jL_mul, iI_le, iI_lt, iI_eq, iI_eq0, iI_lt0, iI_0le, iI_le0, iI_0lt, jL_iI, iI_jL, lc_eq, lc_lt, lc_le, lc_ge, lc_gt, Nat.sub_zero, Nat.zero_le, true_and, and_true, Nat.reduceAdd, Nat.reduceLeDiff]
  have F8 : Fr Ptr hi h8 := C8.1.mono (fun x g => Psh39 g)
  suffices L : ∀ k g : Nat, k + g = 21 → ∀ (q' : hSt) h9, Fr Ptr hi h9 → seH G pl L E h9 → hsH 39 E q' h9 → hOK E q' → laP E Y n c m k g q' = laP E Y n c m 21 0 q → en_V G Y_X8_yearsTillFewer (d + 7) wN wN K 11 [.ref 38, .ref 16, .ref L, .ref y, .int (iI (c : Int)), .int (iI m), .int (iI (g : Int))] [] h9 hl hr xc xs from L 21 0 rfl q h8 F8 (hse.tr39 hS C8.1 (fun x g => by unfold Psh at g; omega)) (C8.hs ha hq) hO rfl
  intro k
  induction k with
  | zero =>
    intro g hg q' h9 F9 S9 Q9 O9 e9
    have g21 : g = 21 := by omega
    subst g21
    rw [← e9] at H
    apply s_X8_yearsTillFewer_11
    simp (disch := omega) only [B_X8_yearsTillFewer_11, en_ops, en_opc, iI_add, iI_mul, iI_sub, jL_add, jL_mul, iI_le, iI_lt, iI_eq, iI_eq0, iI_lt0, iI_0le, iI_le0, iI_0lt, jL_iI, iI_jL, lc_eq, lc_lt, lc_le, lc_ge, lc_gt, Nat.sub_zero, Nat.zero_le, true_and, and_true, Nat.reduceAdd, Nat.reduceLeDiff]
    exact ⟨fun _ => H h9 F9 S9, fun e => absurd (show (20 : Int) < ((21 : Nat) : Int) by omega) e⟩
  | succ k ih =>
    intro g hg q' h9 F9 S9 Q9 O9 e9
    have w0 := wP_nn (m := E.2.2.1) O9.1 c
    have w1 := wP_le O9.1 nz6 hc
    have e11 := Q9.2.2.2.2.2.2
    obtain ⟨-, -, -, o4, o5⟩ := id O9
    have st : laP E Y n c m (k + 1) g q' = if wP q'.1 E.2.2.1 c < m then (g : Int) else if 600 ≤ q'.2.2.2.2.2 then -1 else laP E Y n c m k (g + 1) (yrP E Y n q') := rfl
    rw [st] at e9
    apply s_X8_yearsTillFewer_11
    simp (disch := omega) only [B_X8_yearsTillFewer_11, t0, t1, sh38, lt38, en_ops, en_opc, iI_add, iI_mul, iI_sub, jL_add, jL_mul, iI_le, iI_lt, iI_eq, iI_eq0, iI_lt0, iI_0le, iI_le0, iI_0lt, jL_iI, iI_jL, lc_eq, lc_lt, lc_le, lc_ge, lc_gt, Nat.sub_zero, Nat.zero_le, true_and, and_true, Nat.reduceAdd, Nat.reduceLeDiff]
    refine ⟨fun e => by omega, fun _ => ⟨⟨by decide, by decide⟩, t_allIn (d := d + 5) ha t3 Q9.1 O9.1 hc ?_⟩⟩
    simp (disch := omega) only [t0, t1, sh38, lt38, s0, s1, e11, en_ops, en_opc, iI_add, iI_mul, iI_sub, jL_add, jL_mul, iI_le, iI_lt, iI_eq, iI_eq0, iI_lt0, iI_0le, iI_le0, iI_0lt, jL_iI, iI_jL, lc_eq, lc_lt, lc_le, lc_ge, lc_gt, Nat.sub_zero, Nat.zero_le, true_and, and_true, Nat.reduceAdd, Nat.reduceLeDiff]
    refine ⟨fun e => ⟨fun e2 => ?_, fun e2 => ?_⟩, fun e => ?_⟩
    · rw [if_neg (by omega), if_neg (by omega)] at e9
      refine ⟨⟨by decide, by decide⟩, ?_⟩
      refine t_tryYear (hi0 := hi) hT hS hE S9 Q9 O9 hy hyR hY F9 (fun h7 F7 Q7 O7 S7 _ _ => ?_)
      simp (disch := omega) only [en_ops, en_opc, iI_add, iI_mul, iI_sub, jL_add, jL_mul, iI_le, iI_lt, iI_eq, iI_eq0, iI_lt0, iI_0le, iI_le0, iI_0lt, jL_iI, iI_jL, lc_eq, lc_lt, lc_le, lc_ge, lc_gt, Nat.sub_zero, Nat.zero_le, true_and, and_true, Nat.reduceAdd, Nat.reduceLeDiff]
      exact ih (g + 1) (by omega) _ h7 F7 S7 Q7 O7 e9
    · rw [if_neg (by omega), if_pos (by omega)] at e9
      rw [← e9] at H
      exact H h9 F9 S9
    · rw [if_pos (by omega)] at e9
      rw [← e9] at H
      exact H h9 F9 S9
/-- is no crest gone over, all m higher -/
def drB (V : Nat → (Nat → Int) → Int) (Y : hYr) (n : Nat) (h : Int) (cr : Nat → Int) (m : Int) : Nat → Bool
  | 0 => true
  | c + 1 => drB V Y n h cr m c && decide (oyN V Y n h c (cr c + m) = 0)
def fdP (P : Nat → Bool) : Nat → Nat → Int
  | 0, _ => -1
  | k + 1, m => if P m = true then (m : Int) else fdP P k (m + 1)
theorem drB_mono {n m' : Nat} {h m : Int} {cr : Nat → Int} (hf : drB V Y n h cr m m' = false) : ∀ k, m' ≤ k → drB V Y n h cr m k = false := by
  intro k hk
  induction k with
  | zero => rw [show m' = 0 by omega] at hf; exact hf
  | succ k ih =>
    by_cases e : m' = k + 1
    · rw [← e]; exact hf
    · show (drB V Y n h cr m k && _) = false
      rw [ih (by omega)]; rfl
theorem t_dry {L y n : Nat} (hT : trR hr) (hS : seR hr) (hL : isLw L) (hLR : lwR L hr) (hV : lwV G L V hi) (hVr : ∀ w nm, -2147483648 ≤ V w nm ∧ V w nm < 2147483648) (hq : hsH 16 E q hi) (hO : hOK E q) (hcr : ∀ c, c < 12 → q.2.1 c ≤ 900) (hy : isYe y) (hyR : yeR y hr) (hY : yeH y n Y hi)
    (H : ∀ hi', Fr P56 hi hi' → K (.inl (some (.int (iI (fdP (fun m => drB V Y n q.2.2.2.2.2 q.2.1 m E.2.1) 101 0))))) hi' hl hr) :
    en_Call G (d + 5) xc xs Y_X8_leastDry wN wN [.ref 38, .ref 16, .ref L, .ref y] hi hl hr K := by
  obtain ⟨t0, t1, t2, t3, t4⟩ := id hT
  have hb : isSh 16 := Or.inl rfl
  obtain ⟨z0, z1, z2, z3, -⟩ := hb.sh
  obtain ⟨y1, y2, -⟩ := id t4
  obtain ⟨-, -, o3, o4, o5⟩ := id hO
  have nc12 := hq.1.2.2.1
  have e0 : ∀ h9, Fr P56 hi h9 → h9 16 0 = iI (E.2.1 : Int) := fun h9 F => by rw [F 16 (P56.n _ (by omega))]; exact hq.1.1
  have e11 : ∀ h9, Fr P56 hi h9 → h9 16 11 = iI q.2.2.2.2.2 := fun h9 F => by rw [F 16 (P56.n _ (by omega))]; exact hq.2.2.2.2.2.2
  have ec : ∀ h9, Fr P56 hi h9 → ∀ c, c < 12 → h9 18 c = iI (q.2.1 c) := fun h9 F c hc => by rw [F 18 (P56.n _ (by omega))]; exact hq.2.1 c hc
  have V9 : ∀ h9, Fr P56 hi h9 → lwV G L V h9 := fun h9 F => hV.mono hL F (fun x g => by unfold P56 at g; omega)
  have Y9 : ∀ h9, Fr P56 hi h9 → yeH y n Y h9 := fun h9 F => hY.fr hy F (fun x g1 g2 => P56.n x (by omega))
  apply en_X8_leastDry
  simp (disch := omega) only [B_X8_leastDry_0, en_ops, en_opc, iI_add, iI_mul, iI_sub, jL_add, jL_mul, iI_le, iI_lt, iI_eq, iI_eq0, iI_lt0, iI_0le, iI_le0, iI_0lt, jL_iI, iI_jL, lc_eq, lc_lt, lc_le, lc_ge, lc_gt, Nat.sub_zero, Nat.zero_le, true_and, and_true, Nat.reduceAdd, Nat.reduceLeDiff]
  suffices L : ∀ k m : Nat, k + m = 101 → ∀ h9 x5 x6, Fr P56 hi h9 → fdP (fun m => drB V Y n q.2.2.2.2.2 q.2.1 m E.2.1) k m = fdP (fun m => drB V Y n q.2.2.2.2.2 q.2.1 m E.2.1) 101 0 → en_V G Y_X8_leastDry (d + 5) wN wN K 3 [.ref 38, .ref 16, .ref L, .ref y, .int (iI (m : Int)), x5, x6] [] h9 hl hr xc xs from L 101 0 rfl hi _ _ Fr.rf rfl
  intro k
  induction k with
  | zero =>
    intro m hm h9 x5 x6 F9 e9
    have g21 : m = 101 := by omega
    subst g21
    rw [← e9] at H
    apply s_X8_leastDry_3
    simp (disch := omega) only [B_X8_leastDry_3, en_ops, en_opc, iI_add, iI_mul, iI_sub, jL_add, jL_mul, iI_le, iI_lt, iI_eq, iI_eq0, iI_lt0, iI_0le, iI_le0, iI_0lt, jL_iI, iI_jL, lc_eq, lc_lt, lc_le, lc_ge, lc_gt, Nat.sub_zero, Nat.zero_le, true_and, and_true, Nat.reduceAdd, Nat.reduceLeDiff]
    exact ⟨fun _ => H h9 F9, fun e => absurd (show (100 : Int) < ((101 : Nat) : Int) by omega) e⟩
  | succ k ih =>
    intro m hm h9 x5 x6 F9 e9
    have st : fdP (fun m => drB V Y n q.2.2.2.2.2 q.2.1 m E.2.1) (k + 1) m = if drB V Y n q.2.2.2.2.2 q.2.1 m E.2.1 = true then (m : Int) else fdP (fun m => drB V Y n q.2.2.2.2.2 q.2.1 m E.2.1) k (m + 1) := rfl
    rw [st] at e9
    apply s_X8_leastDry_3
    simp (disch := omega) only [B_X8_leastDry_3, en_ops, en_opc, iI_add, iI_mul, iI_sub, jL_add, jL_mul, iI_le, iI_lt, iI_eq, iI_eq0, iI_lt0, iI_0le, iI_le0, iI_0lt, jL_iI, iI_jL, lc_eq, lc_lt, lc_le, lc_ge, lc_gt, Nat.sub_zero, Nat.zero_le, true_and, and_true, Nat.reduceAdd, Nat.reduceLeDiff]
    refine ⟨fun e => by omega, fun _ => ?_⟩
    have no : ∀ c : Nat, c ≤ E.2.1 → ∀ h8, Fr P56 hi h8 → drB V Y n q.2.2.2.2.2 q.2.1 m c = false → en_V G Y_X8_leastDry (d + 5) wN wN K 16 [.ref 38, .ref 16, .ref L, .ref y, .int (iI (m : Int)), .int (iI 0), .int (iI (c : Int))] [] h8 hl hr xc xs := fun c hc h8 F8 hf => by
      have hF := drB_mono hf E.2.1 hc
      rw [hF, if_neg (by decide)] at e9
      apply s_X8_leastDry_16
      simp (disch := omega) only [B_X8_leastDry_16, z0, z1, e0 h8 F8, en_ops, en_opc, iI_add, iI_mul, iI_sub, jL_add, jL_mul, iI_le, iI_lt, iI_eq, iI_eq0, iI_lt0, iI_0le, iI_le0, iI_0lt, jL_iI, iI_jL, lc_eq, lc_lt, lc_le, lc_ge, lc_gt, Nat.sub_zero, Nat.zero_le, true_and, and_true, Nat.reduceAdd, Nat.reduceLeDiff]
      refine ⟨fun _ => ⟨fun _ => ih (m + 1) (by omega) h8 _ _ F8 e9, fun e => absurd rfl e⟩, fun _ => ⟨fun _ => ⟨fun _ => ih (m + 1) (by omega) h8 _ _ F8 e9, fun e => absurd rfl e⟩, fun e => absurd rfl e⟩⟩
    suffices L2 : ∀ c : Nat, c ≤ E.2.1 → ∀ h8, Fr P56 hi h8 → drB V Y n q.2.2.2.2.2 q.2.1 m c = true → en_V G Y_X8_leastDry (d + 5) wN wN K 16 [.ref 38, .ref 16, .ref L, .ref y, .int (iI (m : Int)), .int (iI 1), .int (iI (c : Int))] [] h8 hl hr xc xs from L2 0 (by omega) h9 F9 rfl
    refine lp E.2.1 (fun h8 F8 hf => ?_) (fun c hc ih2 h8 F8 hf => ?_)
    · rw [hf, if_pos rfl] at e9
      rw [← e9] at H
      apply s_X8_leastDry_16
      simp (disch := omega) only [B_X8_leastDry_16, z0, z1, e0 h8 F8, en_ops, en_opc, iI_add, iI_mul, iI_sub, jL_add, jL_mul, iI_le, iI_lt, iI_eq, iI_eq0, iI_lt0, iI_0le, iI_le0, iI_0lt, jL_iI, iI_jL, lc_eq, lc_lt, lc_le, lc_ge, lc_gt, Nat.sub_zero, Nat.zero_le, true_and, and_true, Nat.reduceAdd, Nat.reduceLeDiff]
      exact ⟨fun _ => ⟨fun e => absurd e (by decide), fun _ => H h8 F8⟩, fun e => absurd (Int.le_refl _) e⟩
    · have cc := o3 c (by omega)
      have cc9 := hcr c (by omega)
      apply s_X8_leastDry_16
      simp (disch := omega) only [B_X8_leastDry_16, z0, z1, sh18, lt18, y2, t0, sh38, lt38, e0 h8 F8, en_ops, en_opc, iI_add, iI_mul, iI_sub, jL_add, jL_mul, iI_le, iI_lt, iI_eq, iI_eq0, iI_lt0, iI_0le, iI_le0, iI_0lt, jL_iI, iI_jL, lc_eq, lc_lt, lc_le, lc_ge, lc_gt, Nat.sub_zero, Nat.zero_le, true_and, and_true, Nat.reduceAdd, Nat.reduceLeDiff]
      refine ⟨fun e => by omega, fun _ => ⟨fun e => absurd e (by decide), fun _ => ⟨c, rfl, by omega, ?_⟩⟩⟩
      rw [ec h8 F8 c (by omega)]
      simp (disch := omega) only [en_ops, en_opc, iI_add, iI_mul, iI_sub, jL_add, jL_mul, iI_le, iI_lt, iI_eq, iI_eq0, iI_lt0, iI_0le, iI_le0, iI_0lt, jL_iI, iI_jL, lc_eq, lc_lt, lc_le, lc_ge, lc_gt, Nat.sub_zero, Nat.zero_le, true_and, and_true, Nat.reduceAdd, Nat.reduceLeDiff]
      refine ⟨⟨by decide, by decide⟩, ?_⟩
      refine t_oversIn (V := V) (Y := Y) (d := d) hS hL hLR (V9 h8 F8) hVr hb hy hyR (Y9 h8 F8) (e11 h8 F8) ⟨⟨by show 1 ≤ q.2.1 c + m; omega, by show q.2.1 c + m ≤ 1000; omega⟩, o4, o5⟩ (fun h7 F7 => ?_)
      have rr := oyN_r (V := V) (Y := Y) (n := n) (c := c) (top := q.2.1 c + m) o4 o5
      have er : (oyP V c Y n (0, q.2.1 c + m, q.2.2.2.2.2)).1 = oyN V Y n q.2.2.2.2.2 c (q.2.1 c + m) := rfl
      rw [er]
      simp (disch := omega) only [en_ops, en_opc, iI_add, iI_mul, iI_sub, jL_add, jL_mul, iI_le, iI_lt, iI_eq, iI_eq0, iI_lt0, iI_0le, iI_le0, iI_0lt, jL_iI, iI_jL, lc_eq, lc_lt, lc_le, lc_ge, lc_gt, Nat.sub_zero, Nat.zero_le, true_and, and_true, Nat.reduceAdd, Nat.reduceLeDiff]
      have sd : drB V Y n q.2.2.2.2.2 q.2.1 m (c + 1) = (drB V Y n q.2.2.2.2.2 q.2.1 m c && decide (oyN V Y n q.2.2.2.2.2 c (q.2.1 c + m) = 0)) := rfl
      rw [hf] at sd
      refine ⟨fun e => no (c + 1) (by omega) h7 (F8.tr F7) (by rw [sd]; simp [e]), fun e => ih2 h7 (F8.tr F7) (by rw [sd]; simp; omega)⟩
theorem t_behind2 {pl L y n : Nat} (hT : trR hr) (hS : seS pl L hr) (hE : eOK E) (hse : seH G pl L E hi) (hq : hsH 16 E q hi) (hO : hOK E q) (hy : isYe y) (hyR : yeR y hr) (hY : yeH y n Y hi)
    (H : ∀ hi', Fr Ptr hi hi' → hsH 39 E (yrP E Y n q) hi' → hOK E (yrP E Y n q) → seH G pl L E hi' → (∀ j, hi' 38 j = hi 38 j) → K (.inl (some (.ref 39))) hi' hl hr) :
    en_Call G (d + 7) xc xs Y_X8_behind wN wN [.ref 38, .ref 16, .ref L, .ref y] hi hl hr K := by
  obtain ⟨t0, t1, t2, t3, t4⟩ := id hT
  have ha : isSh 39 := Or.inr (Or.inl rfl)
  have hb : isSh 16 := Or.inl rfl
  apply en_X8_behind
  simp (disch := omega) only [B_X8_behind_0, t0, t1, en_ops, en_opc, iI_add, iI_mul, iI_sub, jL_add, jL_mul, iI_le, iI_lt, iI_eq, iI_eq0, iI_lt0, iI_0le, iI_le0, iI_0lt, jL_iI, iI_jL, lc_eq, lc_lt, lc_le, lc_ge, lc_gt, Nat.sub_zero, Nat.zero_le, true_and, and_true, Nat.reduceAdd, Nat.reduceLeDiff]
  refine ⟨⟨by decide, by decide⟩, ⟨by decide, by decide⟩, t_copy ha hb (by decide) t3 t4 (fun h9 C9 => ?_)⟩
  simp (disch := omega) only [t0, t1, en_ops, en_opc, iI_add, iI_mul, iI_sub, jL_add, jL_mul, iI_le, iI_lt, iI_eq, iI_eq0, iI_lt0, iI_0le, iI_le0, iI_0lt, jL_iI, iI_jL, lc_eq, lc_lt, lc_le, lc_ge, lc_gt, Nat.sub_zero, Nat.zero_le, true_and, and_true, Nat.reduceAdd, Nat.reduceLeDiff]
  have F9 : Fr Ptr hi h9 := C9.1.mono (fun x g => Psh39 g)
  refine ⟨⟨by decide, by decide⟩, ⟨by decide, by decide⟩, ⟨by decide, by decide⟩, ?_⟩
  refine t_tryYear (hi0 := hi) hT hS hE (hse.tr39 hS C9.1 (fun x g => by unfold Psh at g; omega)) (C9.hs ha hq) hO hy hyR hY F9 (fun h8 F8 Q8 O8 S8 E8 _ => ?_)
  simp (disch := omega) only [t1, en_ops, en_opc, iI_add, iI_mul, iI_sub, jL_add, jL_mul, iI_le, iI_lt, iI_eq, iI_eq0, iI_lt0, iI_0le, iI_le0, iI_0lt, jL_iI, iI_jL, lc_eq, lc_lt, lc_le, lc_ge, lc_gt, Nat.sub_zero, Nat.zero_le, true_and, and_true, Nat.reduceAdd, Nat.reduceLeDiff]
  exact ⟨⟨by decide, by decide⟩, H h8 F8 Q8 O8 S8 (fun j => by rw [E8, C9.1 38 (by unfold Psh; omega)])⟩
/-- which bringing is the best -/
def bgI (g : Nat → Nat → Int) (c : Nat) : Nat → Int × Int → Int × Int
  | 0, s => s
  | e + 1, s => if c ≠ e ∧ (bgI g c e s).2 < g c e then (100 * (c : Int) + e, g c e) else bgI g c e s
def bgO (g : Nat → Nat → Int) (nc : Nat) : Nat → Int × Int → Int × Int
  | 0, s => s
  | c + 1, s => bgI g c nc (bgO g nc c s)
def bgM (E : hEnv) (Y : hYr) (n : Nat) (m : Int) (q : hSt) (c e : Nat) : Int := prP (yrP E Y n ((haP E.2.1 E.2.2.1 c e m q.1 (E.2.2.1 * 3)).1, q.2.1, q.2.2.1, (fun i => q.2.2.2.1 i + if i = 4 then (haP E.2.1 E.2.2.1 c e m q.1 (E.2.2.1 * 3)).2.2 else 0), q.2.2.2.2)).1 E.2.1 E.2.2.1 1
theorem prP_r {f : Nat → Nat → Nat → Int} {nc nz : Nat} {o : Int} (h : nc ≤ 12) : 0 ≤ prP f nc nz o ∧ prP f nc nz o ≤ 144 := by
  have c1 : ∀ c a, 0 ≤ prC f nz o c a ∧ prC f nz o c a ≤ 1 := fun c a => by unfold prC; split <;> omega
  have := sumTo_bd (n := nc) (g := fun c => sumTo c (prC f nz o c)) (b := 12) (fun c hc => by
    have := sumTo_bd (n := c) (g := prC f nz o c) (b := 1) (fun i _ => c1 c i)
    omega)
  unfold prP
  omega
theorem bgI_r {g : Nat → Nat → Int} {lo h : Int} (hg : ∀ c e, lo ≤ g c e ∧ g c e ≤ h) {c : Nat} {s : Int × Int} (hs : lo ≤ s.2 ∧ s.2 ≤ h) : ∀ e, lo ≤ (bgI g c e s).2 ∧ (bgI g c e s).2 ≤ h := by
  intro e
  induction e with
  | zero => exact hs
  | succ e ih =>
    show lo ≤ (if c ≠ e ∧ (bgI g c e s).2 < g c e then (100 * (c : Int) + e, g c e) else bgI g c e s).2 ∧ (if c ≠ e ∧ (bgI g c e s).2 < g c e then (100 * (c : Int) + e, g c e) else bgI g c e s).2 ≤ h
    split
    · exact hg c e
    · exact ih
theorem t_bring {pl L y n : Nat} {m : Int} (hT : trR hr) (hS : seS pl L hr) (hE : eOK E) (hse : seH G pl L E hi) (hq : hsH 16 E q hi) (hO : hOK E q) (hy : isYe y) (hyR : yeR y hr) (hY : yeH y n Y hi) (hm : 1 ≤ m ∧ m ≤ 999)
    (H : ∀ hi', Fr Ptr hi hi' → seH G pl L E hi' → hi' 38 3 = iI (bgO (bgM E Y n m q) E.2.1 E.2.1 (-1, prP (yrP E Y n q).1 E.2.1 E.2.2.1 1)).1 → hi' 38 4 = iI (bgO (bgM E Y n m q) E.2.1 E.2.1 (-1, prP (yrP E Y n q).1 E.2.1 E.2.2.1 1)).2 → K (.inl none) hi' hl hr) :
    en_Call G (d + 8) xc xs Y_X8_bring wN wN [.ref 38, .ref 16, .ref L, .ref y, .int (iI m)] hi hl hr K := by
  obtain ⟨t0, t1, t2, t3, t4⟩ := id hT
  have ha : isSh 39 := Or.inr (Or.inl rfl)
  have hb : isSh 16 := Or.inl rfl
  obtain ⟨z0, z1, -⟩ := hb.sh
  obtain ⟨s0, s1, -⟩ := ha.sh
  have nc12 := hq.1.2.2.1
  have nz6 := hq.1.2.2.2.1
  have p38 : Ptr 38 := by unfold Ptr; omega
  have nP : ∀ x, 16 ≤ x → x ≤ 23 → ¬ Ptr x := fun x g1 g2 g => by unfold Ptr at g; omega
  have e0 : ∀ h9, Fr Ptr hi h9 → h9 16 0 = iI (E.2.1 : Int) := fun h9 F => by rw [F 16 (nP _ (by omega) (by omega))]; exact hq.1.1
  have upd1 : ∀ (h7 : en_I) (j : Nat) (u : Int), seH G pl L E h7 → seH G pl L E (en_up h7 38 j (iI u)) := fun h7 j u X7 => by
    have F0 : Fr (· = 38) h7 (en_up h7 38 j (iI u)) := Fr.up Fr.rf (by rfl)
    have e : ∀ x, x ≠ 38 → en_up h7 38 j (iI u) x = h7 x := fun x hx => F0 x hx
    have p14 := hS.2.2.1.sh.2.2.2.2.2.2.1
    obtain ⟨⟨z0, z1, z2⟩, ⟨v0, v1, v2⟩, x3, x4⟩ := X7
    exact ⟨⟨by rw [e pl (by omega)]; exact z0, z1, fun i hi9 => by rw [e (pl + 4) (by omega)]; exact z2 i hi9⟩, ⟨by rw [e pl (by omega)]; exact v0, v1, fun i hi9 => by rw [e (pl + 5) (by omega)]; exact v2 i hi9⟩, x3.mono hS.2.2.2.2.1 F0 (fun x g => by omega), fun c z k hc hz hk => by rw [e 37 (by omega)]; exact x4 c z k hc hz hk⟩
  generalize hs0 : ((-1 : Int), prP (yrP E Y n q).1 E.2.1 E.2.2.1 1) = st0 at H
  have r0 : 0 ≤ st0.2 ∧ st0.2 ≤ 144 := by rw [← hs0]; exact prP_r nc12
  have rg : ∀ c e, 0 ≤ bgM E Y n m q c e ∧ bgM E Y n m q c e ≤ 144 := fun c e => prP_r nc12
  have rO : ∀ c, 0 ≤ (bgO (bgM E Y n m q) E.2.1 c st0).2 ∧ (bgO (bgM E Y n m q) E.2.1 c st0).2 ≤ 144 := fun c => by
    induction c with
    | zero => exact r0
    | succ c ih => exact bgI_r rg ih E.2.1
  have L23 : ∀ c : Nat, c ≤ E.2.1 → ∀ h9 x6 x7, Fr Ptr hi h9 → seH G pl L E h9 → h9 38 3 = iI (bgO (bgM E Y n m q) E.2.1 c st0).1 → h9 38 4 = iI (bgO (bgM E Y n m q) E.2.1 c st0).2 → en_V G Y_X8_bring (d + 8) wN wN K 23 [.ref 38, .ref 16, .ref L, .ref y, .int (iI m), .int (iI (c : Int)), x6, x7] [] h9 hl hr xc xs := by
    refine lp E.2.1 (fun h9 x6 x7 F9 S9 B9 C9 => ?_) (fun c hc ih h9 x6 x7 F9 S9 B9 C9 => ?_)
    · apply s_X8_bring_23
      simp (disch := omega) only [B_X8_bring_23, z0, z1, e0 h9 F9, en_ops, en_opc, iI_add, iI_mul, iI_sub, jL_add, jL_mul, iI_le, iI_lt, iI_eq, iI_eq0, iI_lt0, iI_0le, iI_le0, iI_0lt, jL_iI, iI_jL, lc_eq, lc_lt, lc_le, lc_ge, lc_gt, Nat.sub_zero, Nat.zero_le, true_and, and_true, Nat.reduceAdd, Nat.reduceLeDiff]
      exact ⟨fun _ => H h9 F9 S9 B9 C9, fun e => absurd (Int.le_refl _) e⟩
    · apply s_X8_bring_23
      simp (disch := omega) only [B_X8_bring_23, z0, z1, e0 h9 F9, en_ops, en_opc, iI_add, iI_mul, iI_sub, jL_add, jL_mul, iI_le, iI_lt, iI_eq, iI_eq0, iI_lt0, iI_0le, iI_le0, iI_0lt, jL_iI, iI_jL, lc_eq, lc_lt, lc_le, lc_ge, lc_gt, Nat.sub_zero, Nat.zero_le, true_and, and_true, Nat.reduceAdd, Nat.reduceLeDiff]
      refine ⟨fun e => by omega, fun _ => ?_⟩
      have rc := rO c
      have st1 : bgO (bgM E Y n m q) E.2.1 (c + 1) st0 = bgI (bgM E Y n m q) c E.2.1 (bgO (bgM E Y n m q) E.2.1 c st0) := rfl
      rw [st1] at ih
      generalize bgO (bgM E Y n m q) E.2.1 c st0 = s at *
      suffices L35 : ∀ e : Nat, e ≤ E.2.1 → ∀ h9 x7, Fr Ptr hi h9 → seH G pl L E h9 → h9 38 3 = iI (bgI (bgM E Y n m q) c e s).1 → h9 38 4 = iI (bgI (bgM E Y n m q) c e s).2 → en_V G Y_X8_bring (d + 8) wN wN K 35 [.ref 38, .ref 16, .ref L, .ref y, .int (iI m), .int (iI (c : Int)), .int (iI (e : Int)), x7] [] h9 hl hr xc xs from L35 0 (by omega) h9 _ F9 S9 B9 C9
      refine lp E.2.1 (fun h9 x7 F9 S9 B9 C9 => ?_) (fun e he ih2 h9 x7 F9 S9 B9 C9 => ?_)
      · apply s_X8_bring_35
        simp (disch := omega) only [B_X8_bring_35, z0, z1, e0 h9 F9, en_ops, en_opc, iI_add, iI_mul, iI_sub, jL_add, jL_mul, iI_le, iI_lt, iI_eq, iI_eq0, iI_lt0, iI_0le, iI_le0, iI_0lt, jL_iI, iI_jL, lc_eq, lc_lt, lc_le, lc_ge, lc_gt, Nat.sub_zero, Nat.zero_le, true_and, and_true, Nat.reduceAdd, Nat.reduceLeDiff]
        exact ⟨fun _ => ih h9 _ _ F9 S9 B9 C9, fun e => absurd (Int.le_refl _) e⟩
      · have ri := bgI_r (c := c) rg rc e
        have Q9 := hq.frP F9 (fun x g1 g2 => nP x g1 (by omega))
        have st2 : bgI (bgM E Y n m q) c (e + 1) s = if c ≠ e ∧ (bgI (bgM E Y n m q) c e s).2 < bgM E Y n m q c e then (100 * (c : Int) + e, bgM E Y n m q c e) else bgI (bgM E Y n m q) c e s := rfl
        rw [st2] at ih2
        apply s_X8_bring_35
        simp (disch := omega) only [B_X8_bring_35, z0, z1, e0 h9 F9, t0, t1, sh38, lt38, en_ops, en_opc, iI_add, iI_mul, iI_sub, jL_add, jL_mul, iI_le, iI_lt, iI_eq, iI_eq0, iI_lt0, iI_0le, iI_le0, iI_0lt, jL_iI, iI_jL, lc_eq, lc_lt, lc_le, lc_ge, lc_gt, Nat.sub_zero, Nat.zero_le, true_and, and_true, Nat.reduceAdd, Nat.reduceLeDiff]
        refine ⟨fun g => by omega, fun _ => ⟨fun g => ?_, fun g => ⟨⟨by decide, by decide⟩, t_copy ha hb (by decide) t3 t4 (fun h8 C8 => ?_)⟩⟩⟩
        · rw [if_neg (fun g2 => g2.1 (by omega))] at ih2
          exact ih2 h9 _ F9 S9 B9 C9
        · have F8 : Fr Ptr hi h8 := F9.tr (C8.1.mono (fun x g => Psh39 g))
          have S8 := S9.tr39 hS C8.1 (fun x g => by unfold Psh at g; omega)
          have Q8 := C8.hs ha Q9
          obtain ⟨zB1, zB2, zB3, zB4⟩ := haP_B (n := m) (by omega) (show c ≠ e by omega) hc (Nat.le_of_lt he) nc12 nz6 hO.1 (E.2.2.1 * 3) (Nat.le_refl _)
          simp (disch := omega) only [t0, t1, sh38, lt38, en_ops, en_opc, iI_add, iI_mul, iI_sub, jL_add, jL_mul, iI_le, iI_lt, iI_eq, iI_eq0, iI_lt0, iI_0le, iI_le0, iI_0lt, jL_iI, iI_jL, lc_eq, lc_lt, lc_le, lc_ge, lc_gt, Nat.sub_zero, Nat.zero_le, true_and, and_true, Nat.reduceAdd, Nat.reduceLeDiff]
          refine ⟨⟨by decide, by decide⟩, t_haul (d := d + 5) ha t3 Q8.1 hO.1 Q8.2.2.2.2.1 (by omega) (by omega) (by omega) (by omega) hm.2 (fun h7 F7 S7 M7 => ?_)⟩
          have E7 : ∀ x, x ≠ 40 → x ≠ 46 → h7 x = h8 x := fun x g1 g2 => F7 x (fun g => by rcases g with g | g <;> omega)
          have F97 : Fr Ptr hi h7 := F8.tr (F7.mono (fun x g => by unfold Ptr; rcases g with g | g <;> omega))
          have X7 : seH G pl L E h7 := S8.tr39 hS F7 (fun x g => by rcases g with g | g <;> omega)
          have Q7 : hsH 39 E ((haP E.2.1 E.2.2.1 c e m q.1 (E.2.2.1 * 3)).1, q.2.1, q.2.2.1, (fun i => q.2.2.2.1 i + if i = 4 then (haP E.2.1 E.2.2.1 c e m q.1 (E.2.2.1 * 3)).2.2 else 0), q.2.2.2.2) h7 := by
            obtain ⟨-, y2, y3, y4, y5, y6, y7⟩ := Q8
            exact ⟨S7, fun c hc => by rw [E7 _ (by omega) (by omega)]; exact y2 c hc, fun c hc => by rw [E7 _ (by omega) (by omega)]; exact y3 c hc, fun c hc => by rw [E7 _ (by omega) (by omega)]; exact y4 c hc, M7, by rw [E7 _ (by omega) (by omega)]; exact y6, by rw [E7 _ (by omega) (by omega)]; exact y7⟩
          have O7 : hOK E ((haP E.2.1 E.2.2.1 c e m q.1 (E.2.2.1 * 3)).1, q.2.1, q.2.2.1, (fun i => q.2.2.2.1 i + if i = 4 then (haP E.2.1 E.2.2.1 c e m q.1 (E.2.2.1 * 3)).2.2 else 0), q.2.2.2.2) := ⟨zB1, Int.le_trans zB2 hO.2.1, hO.2.2⟩
          simp (disch := omega) only [t0, t1, sh38, lt38, en_ops, en_opc, iI_add, iI_mul, iI_sub, jL_add, jL_mul, iI_le, iI_lt, iI_eq, iI_eq0, iI_lt0, iI_0le, iI_le0, iI_0lt, jL_iI, iI_jL, lc_eq, lc_lt, lc_le, lc_ge, lc_gt, Nat.sub_zero, Nat.zero_le, true_and, and_true, Nat.reduceAdd, Nat.reduceLeDiff]
          refine ⟨⟨by decide, by decide⟩, ?_⟩
          refine t_tryYear (d := d + 1) (hi0 := hi) hT hS hE X7 Q7 O7 hy hyR hY F97 (fun h6 F6 Q6 O6 S6 E6 _ => ?_)
          simp (disch := omega) only [t1, sh38, lt38, s0, s1, en_ops, en_opc, iI_add, iI_mul, iI_sub, jL_add, jL_mul, iI_le, iI_lt, iI_eq, iI_eq0, iI_lt0, iI_0le, iI_le0, iI_0lt, jL_iI, iI_jL, lc_eq, lc_lt, lc_le, lc_ge, lc_gt, Nat.sub_zero, Nat.zero_le, true_and, and_true, Nat.reduceAdd, Nat.reduceLeDiff]
          refine t_pairs (d := d + 3) (Or.inr rfl) ha t3 Q6.1 O6.1 ?_
          have E69 : ∀ j, h6 38 j = h9 38 j := fun j => by rw [E6, E7 38 (by omega) (by omega), C8.1 38 (by unfold Psh; omega)]
          have eg : prP (yrP E Y n ((haP E.2.1 E.2.2.1 c e m q.1 (E.2.2.1 * 3)).1, q.2.1, q.2.2.1, (fun i => q.2.2.2.1 i + if i = 4 then (haP E.2.1 E.2.2.1 c e m q.1 (E.2.2.1 * 3)).2.2 else 0), q.2.2.2.2)).1 E.2.1 E.2.2.1 1 = bgM E Y n m q c e := rfl
          rw [eg]
          have gr := rg c e
          simp (disch := omega) only [sh38, lt38, en_ops, en_opc, iI_add, iI_mul, iI_sub, jL_add, jL_mul, iI_le, iI_lt, iI_eq, iI_eq0, iI_lt0, iI_0le, iI_le0, iI_0lt, jL_iI, iI_jL, lc_eq, lc_lt, lc_le, lc_ge, lc_gt, Nat.sub_zero, Nat.zero_le, true_and, and_true, Nat.reduceAdd, Nat.reduceLeDiff]
          rw [E69 4, C9]
          simp (disch := omega) only [sh38, lt38, en_ops, en_opc, iI_add, iI_mul, iI_sub, jL_add, jL_mul, iI_le, iI_lt, iI_eq, iI_eq0, iI_lt0, iI_0le, iI_le0, iI_0lt, jL_iI, iI_jL, lc_eq, lc_lt, lc_le, lc_ge, lc_gt, Nat.sub_zero, Nat.zero_le, true_and, and_true, Nat.reduceAdd, Nat.reduceLeDiff]
          refine ⟨fun g2 => ?_, fun g2 => ?_⟩
          · rw [if_neg (fun g3 => by omega)] at ih2
            exact ih2 h6 _ F6 S6 (by rw [E69]; exact B9) (by rw [E69]; exact C9)
          · rw [if_pos ⟨by omega, by omega⟩] at ih2
            refine ih2 _ _ (Fr.up (Fr.up F6 p38) p38) (upd1 _ _ _ (upd1 _ _ _ S6)) (by rw [up_ne (Or.inr (by omega)), up_at]) (by rw [up_at])
  apply en_X8_bring
  simp (disch := omega) only [B_X8_bring_0, sh38, lt38, en_ops, en_opc, iI_add, iI_mul, iI_sub, jL_add, jL_mul, iI_le, iI_lt, iI_eq, iI_eq0, iI_lt0, iI_0le, iI_le0, iI_0lt, jL_iI, iI_jL, lc_eq, lc_lt, lc_le, lc_ge, lc_gt, Nat.sub_zero, Nat.zero_le, true_and, and_true, Nat.reduceAdd, Nat.reduceLeDiff]
  refine t_behind2 (d := d) hT hS hE (upd1 hi 3 (-1) hse) (hq.frP (Fr.up Fr.rf (P := (· = 38)) (by rfl)) (fun x g1 g2 => by omega)) hO hy hyR (hY.fr hy (Fr.up Fr.rf (P := (· = 38)) (by rfl)) (fun x g1 g2 => by omega)) (fun h8 F8 Q8 O8 S8 E8 => ?_)
  have F08 : Fr Ptr hi h8 := (Fr.up Fr.rf p38 : Fr Ptr hi (en_up hi 38 3 (iI (-1)))).tr F8
  simp (disch := omega) only [s0, s1, en_ops, en_opc, iI_add, iI_mul, iI_sub, jL_add, jL_mul, iI_le, iI_lt, iI_eq, iI_eq0, iI_lt0, iI_0le, iI_le0, iI_0lt, jL_iI, iI_jL, lc_eq, lc_lt, lc_le, lc_ge, lc_gt, Nat.sub_zero, Nat.zero_le, true_and, and_true, Nat.reduceAdd, Nat.reduceLeDiff]
  refine t_pairs (d := d + 3) (Or.inr rfl) ha t3 Q8.1 O8.1 ?_
  simp (disch := omega) only [sh38, lt38, en_ops, en_opc, iI_add, iI_mul, iI_sub, jL_add, jL_mul, iI_le, iI_lt, iI_eq, iI_eq0, iI_lt0, iI_0le, iI_le0, iI_0lt, jL_iI, iI_jL, lc_eq, lc_lt, lc_le, lc_ge, lc_gt, Nat.sub_zero, Nat.zero_le, true_and, and_true, Nat.reduceAdd, Nat.reduceLeDiff]
  refine L23 0 (by omega) _ _ _ (Fr.up F08 p38) (upd1 _ _ _ S8) ?_ ?_
  · rw [up_ne (Or.inr (by omega)), E8, up_at, ← hs0]; rfl
  · rw [up_at, ← hs0]; rfl
end
-- DRAFT 62
section
variable {G : en_G} {d : Nat} {K : en_K} {a nc nz : Nat} {f : Nat → Nat → Nat → Int} {hi : en_I} {hl : en_L} {hr : en_F} {xc xs : Nat} {g : Nat → Int}
/-! what a hand in the dark makes of its stones -/
def FrL (P : Nat → Prop) (hl hl' : en_L) : Prop := ∀ x, ¬ P x → hl' x = hl x
theorem sh48 : en_SH 48 = (5, 3) := by decide
theorem lt48 : 48 < 134 := by decide
theorem sh49 : en_SH 49 = (102, 12) := by decide
theorem lt49 : 49 < 134 := by decide
def P48 (x : Nat) : Prop := x = 48 ∨ x = 49
def snH (nc : Nat) (g : Nat → Int) (hi : en_I) (hl : en_L) : Prop := hi 48 1 = iI nc ∧ hl 48 2 = jL (sumTo nc g) ∧ ∀ c, c < nc → hl 49 c = jL (g c)
def gB (nc : Nat) (g : Nat → Int) : Prop := nc ≤ 12 ∧ ∀ c, c < nc → 0 ≤ g c ∧ g c ≤ 1000000000000
theorem gB.s (h : gB nc g) {n : Nat} (hn : n ≤ nc) : 0 ≤ sumTo n g ∧ sumTo n g ≤ 12000000000000 := by
  have := sumTo_bd (n := n) (g := g) (b := 1000000000000) (fun c hc => h.2 c (by omega))
  have := h.1
  omega
theorem prod_r {h : Nat → Int} : ∀ n, n ≤ 4 → (∀ i, i < n → 0 ≤ h i ∧ h i ≤ 1000) → 0 ≤ prodTo n h ∧ prodTo n h ≤ 1000000000000 := by
  have e : ∀ n, (∀ i, i < n → 0 ≤ h i ∧ h i ≤ 1000) → 0 ≤ prodTo n h ∧ prodTo n h ≤ 1000 ^ n := by
    intro n
    induction n with
    | zero => exact fun _ => ⟨show (0 : Int) ≤ 1 by decide, show (1 : Int) ≤ 1000 ^ 0 by decide⟩
    | succ n ih =>
      intro hh
      obtain ⟨i1, i2⟩ := ih (fun i hi => hh i (by omega))
      obtain ⟨a1, a2⟩ := hh n (by omega)
      refine ⟨Int.mul_nonneg i1 a1, ?_⟩
      show prodTo n h * h n ≤ 1000 ^ (n + 1)
      rw [Int.pow_succ]
      exact Int.mul_le_mul i2 a2 a1 (by omega)
  intro n hn hh
  obtain ⟨e1, e2⟩ := e n hh
  refine ⟨e1, Int.le_trans e2 ?_⟩
  rcases (show n = 0 ∨ n = 1 ∨ n = 2 ∨ n = 3 ∨ n = 4 by omega) with rfl | rfl | rfl | rfl | rfl <;> decide
theorem wdP_B {nh : Nat} {gs : Nat → Nat} (hB : fB nc nz f) (b0 : nc ≤ 12) (b1 : nz ≤ 6) (hn : nh ≤ 4) (hg : ∀ i, i < nh → gs i < 18) : gB nc (wdP f nz nh gs) := ⟨b0, fun c _ => prod_r nh hn (fun i hi9 => shP_r hB b1 (hg i hi9))⟩
theorem shP_B {i : Nat} (hB : fB nc nz f) (b0 : nc ≤ 12) (b1 : nz ≤ 6) (hi18 : i < 18) : gB nc (fun c => shP f nz c i) := ⟨b0, fun c _ => by have := shP_r (c := c) hB b1 hi18; show 0 ≤ shP f nz c i ∧ shP f nz c i ≤ _; omega⟩
theorem t_keep {c : Nat} {v t : Int} (h49 : hr 48 0 = .ref 49) (ht : hl 48 2 = jL t) (hc : c < 12) (H : K (.inl none) hi (en_up (en_up hl 49 c (jL v)) 48 2 (jL (t + v))) hr) : en_Call G (d + 1) xc xs Y_X5_keep wN wN [.ref 48, .int (iI (c : Int)), .long (jL v)] hi hl hr K := by
  apply en_X5_keep
  simp (disch := omega) only [B_X5_keep_0, h49, sh48, lt48, sh49, lt49, en_ops, en_opc, iI_add, iI_mul, iI_sub, jL_add, jL_mul, iI_le, iI_lt, iI_eq, iI_eq0, iI_lt0, iI_0le, iI_le0, iI_0lt, jL_iI, iI_jL, lc_eq, lc_lt, lc_le, lc_ge, lc_gt, Nat.sub_zero, Nat.zero_le, true_and, and_true, Nat.reduceAdd, Nat.reduceLeDiff]
  refine ⟨c, rfl, by omega, ?_⟩
  rw [up_ne (Or.inl (by omega)), ht]
  simp (disch := omega) only [en_ops, en_opc, iI_add, iI_mul, iI_sub, jL_add, jL_mul, iI_le, iI_lt, iI_eq, iI_eq0, iI_lt0, iI_0le, iI_le0, iI_0lt, jL_iI, iI_jL, lc_eq, lc_lt, lc_le, lc_ge, lc_gt, Nat.sub_zero, Nat.zero_le, true_and, and_true, Nat.reduceAdd, Nat.reduceLeDiff]
  exact H
theorem t_begin5 {n : Int} (H : K (.inl none) (en_up hi 48 1 (iI n)) (en_up hl 48 2 (jL 0)) hr) : en_Call G (d + 1) xc xs Y_X5_begin wN wN [.ref 48, .int (iI n)] hi hl hr K := by
  apply en_X5_begin
  simp (disch := omega) only [B_X5_begin_0, sh48, lt48, en_ops, en_opc, iI_add, iI_mul, iI_sub, jL_add, jL_mul, iI_le, iI_lt, iI_eq, iI_eq0, iI_lt0, iI_0le, iI_le0, iI_0lt, jL_iI, iI_jL, lc_eq, lc_lt, lc_le, lc_ge, lc_gt, Nat.sub_zero, Nat.zero_le, true_and, and_true, Nat.reduceAdd, Nat.reduceLeDiff]
  exact H
theorem t_feelHand {nh : Nat} {gs : Nat → Nat} (ha : isSh a) (h48 : a + 7 < 48 ∨ 48 < a) (h49 : hr 48 0 = .ref 49) (hR : shR a hr) (hh : shH a nc nz f hi) (hB : fB nc nz f) (hT : shT a nh gs hi)
    (H : ∀ hi' hl', Fr (· = 48) hi hi' → FrL P48 hl hl' → snH nc (wdP f nz nh gs) hi' hl' → K (.inl none) hi' hl' hr) : en_Call G (d + 4) xc xs Y_X5_feelHand wN wN [.ref 48, .ref a] hi hl hr K := by
  obtain ⟨s0, s1, s2, s3, s4, s5, s6, s7, s8, s9, s10, s11⟩ := ha.sh
  obtain ⟨r1, r2, r3, r4, r5, r6, r7⟩ := id hR
  obtain ⟨h0, h1, b0, b1, h2⟩ := id hh
  have q1 : a + 1 < 134 := by omega
  have q2 : a + 2 < 134 := by omega
  have q3 : a + 3 < 134 := by omega
  have q4 : a + 4 < 134 := by omega
  have q5 : a + 5 < 134 := by omega
  have q6 : a + 6 < 134 := by omega
  have q7 : a + 7 < 134 := by omega
  apply en_X5_feelHand
  simp (disch := omega) only [B_X5_feelHand_0, s0, s1, h0, sh48, lt48, en_ops, en_opc, iI_add, iI_mul, iI_sub, jL_add, jL_mul, iI_le, iI_lt, iI_eq, iI_eq0, iI_lt0, iI_0le, iI_le0, iI_0lt, jL_iI, iI_jL, lc_eq, lc_lt, lc_le, lc_ge, lc_gt, Nat.sub_zero, Nat.zero_le, true_and, and_true, Nat.reduceAdd, Nat.reduceLeDiff]
  refine t_begin5 ?_
  simp (disch := omega) only [en_ops, en_opc, iI_add, iI_mul, iI_sub, jL_add, jL_mul, iI_le, iI_lt, iI_eq, iI_eq0, iI_lt0, iI_0le, iI_le0, iI_0lt, jL_iI, iI_jL, lc_eq, lc_lt, lc_le, lc_ge, lc_gt, Nat.sub_zero, Nat.zero_le, true_and, and_true, Nat.reduceAdd, Nat.reduceLeDiff]
  have F0 : Fr (· = 48) hi (en_up hi 48 1 (iI nc)) := Fr.up Fr.rf (by rfl)
  suffices L : ∀ c : Nat, c ≤ nc → ∀ hl9, FrL P48 hl hl9 → hl9 48 2 = jL (sumTo c (wdP f nz nh gs)) → (∀ j, j < c → hl9 49 j = jL (wdP f nz nh gs j)) → en_V G Y_X5_feelHand (d + 4) wN wN K 10 [.ref 48, .ref a, .int (iI c)] [] (en_up hi 48 1 (iI nc)) hl9 hr xc xs by
    refine L 0 (by omega) _ (fun x hx => up_row (fun e => hx (Or.inl e))) (by rw [up_at]; rfl) (fun j hj => by omega)
  refine lp nc (fun hl9 F9 A9 W9 => ?_) (fun c hc ih hl9 F9 A9 W9 => ?_)
  · apply s_X5_feelHand_10
    simp (disch := omega) only [B_X5_feelHand_10, sh48, lt48, up_at, en_ops, en_opc, iI_add, iI_mul, iI_sub, jL_add, jL_mul, iI_le, iI_lt, iI_eq, iI_eq0, iI_lt0, iI_0le, iI_le0, iI_0lt, jL_iI, iI_jL, lc_eq, lc_lt, lc_le, lc_ge, lc_gt, Nat.sub_zero, Nat.zero_le, true_and, and_true, Nat.reduceAdd, Nat.reduceLeDiff]
    exact ⟨fun _ => H _ _ F0 F9 ⟨up_at, A9, W9⟩, fun e => absurd (Int.le_refl _) e⟩
  · apply s_X5_feelHand_10
    simp (disch := omega) only [B_X5_feelHand_10, sh48, lt48, s0, s1, up_at, en_ops, en_opc, iI_add, iI_mul, iI_sub, jL_add, jL_mul, iI_le, iI_lt, iI_eq, iI_eq0, iI_lt0, iI_0le, iI_le0, iI_0lt, jL_iI, iI_jL, lc_eq, lc_lt, lc_le, lc_ge, lc_gt, Nat.sub_zero, Nat.zero_le, true_and, and_true, Nat.reduceAdd, Nat.reduceLeDiff]
    refine ⟨fun e => by omega, fun _ => t_wordOf (d := d) (nh := nh) (g := gs) ha hR (shH.fr ha hh F0 (fun x g1 g2 => by omega)) hB ?_ (by omega) ?_⟩
    · obtain ⟨t1, t2, t3⟩ := hT
      exact ⟨by rw [F0 a (by omega)]; exact t1, t2, fun i hi9 => by rw [F0 (a + 6) (by omega)]; exact t3 i hi9⟩
    · simp (disch := omega) only [sh48, lt48, en_ops, en_opc, iI_add, iI_mul, iI_sub, jL_add, jL_mul, iI_le, iI_lt, iI_eq, iI_eq0, iI_lt0, iI_0le, iI_le0, iI_0lt, jL_iI, iI_jL, lc_eq, lc_lt, lc_le, lc_ge, lc_gt, Nat.sub_zero, Nat.zero_le, true_and, and_true, Nat.reduceAdd, Nat.reduceLeDiff]
      refine t_keep h49 A9 (by omega) ?_
      simp (disch := omega) only [en_ops, en_opc, iI_add, iI_mul, iI_sub, jL_add, jL_mul, iI_le, iI_lt, iI_eq, iI_eq0, iI_lt0, iI_0le, iI_le0, iI_0lt, jL_iI, iI_jL, lc_eq, lc_lt, lc_le, lc_ge, lc_gt, Nat.sub_zero, Nat.zero_le, true_and, and_true, Nat.reduceAdd, Nat.reduceLeDiff]
      refine ih _ (fun x hx => ?_) ?_ (fun j hj => ?_)
      · rw [up_row (fun e => hx (Or.inl e)), up_row (fun e => hx (Or.inr e))]; exact F9 x hx
      · rw [up_at, sumTo_s]
      · rw [up_ne (Or.inl (by omega))]
        by_cases e : j = c
        · subst e; rw [up_at]
        · rw [up_ne (Or.inr e)]; exact W9 j (by omega)
theorem t_feelStone {i : Nat} (ha : isSh a) (h48 : a + 7 < 48 ∨ 48 < a) (h49 : hr 48 0 = .ref 49) (hR : shR a hr) (hh : shH a nc nz f hi) (hB : fB nc nz f) (hi18 : i < 18)
    (H : ∀ hi' hl', Fr (· = 48) hi hi' → FrL P48 hl hl' → snH nc (fun c => shP f nz c i) hi' hl' → K (.inl none) hi' hl' hr) : en_Call G (d + 4) xc xs Y_X5_feelStone wN wN [.ref 48, .ref a, .int (iI (i : Int))] hi hl hr K := by
  obtain ⟨s0, s1, s2, s3, s4, s5, s6, s7, s8, s9, s10, s11⟩ := ha.sh
  obtain ⟨r1, r2, r3, r4, r5, r6, r7⟩ := id hR
  obtain ⟨h0, h1, b0, b1, h2⟩ := id hh
  have q1 : a + 1 < 134 := by omega
  have q2 : a + 2 < 134 := by omega
  have q3 : a + 3 < 134 := by omega
  have q4 : a + 4 < 134 := by omega
  have q5 : a + 5 < 134 := by omega
  have q6 : a + 6 < 134 := by omega
  have q7 : a + 7 < 134 := by omega
  apply en_X5_feelStone
  simp (disch := omega) only [B_X5_feelStone_0, s0, s1, h0, sh48, lt48, en_ops, en_opc, iI_add, iI_mul, iI_sub, jL_add, jL_mul, iI_le, iI_lt, iI_eq, iI_eq0, iI_lt0, iI_0le, iI_le0, iI_0lt, jL_iI, iI_jL, lc_eq, lc_lt, lc_le, lc_ge, lc_gt, Nat.sub_zero, Nat.zero_le, true_and, and_true, Nat.reduceAdd, Nat.reduceLeDiff]
  refine t_begin5 ?_
  simp (disch := omega) only [en_ops, en_opc, iI_add, iI_mul, iI_sub, jL_add, jL_mul, iI_le, iI_lt, iI_eq, iI_eq0, iI_lt0, iI_0le, iI_le0, iI_0lt, jL_iI, iI_jL, lc_eq, lc_lt, lc_le, lc_ge, lc_gt, Nat.sub_zero, Nat.zero_le, true_and, and_true, Nat.reduceAdd, Nat.reduceLeDiff]
  have F0 : Fr (· = 48) hi (en_up hi 48 1 (iI nc)) := Fr.up Fr.rf (by rfl)
  suffices L : ∀ c : Nat, c ≤ nc → ∀ hl9, FrL P48 hl hl9 → hl9 48 2 = jL (sumTo c (fun c => shP f nz c i)) → (∀ j, j < c → hl9 49 j = jL (shP f nz j i)) → en_V G Y_X5_feelStone (d + 4) wN wN K 10 [.ref 48, .ref a, .int (iI (i : Int)), .int (iI c)] [] (en_up hi 48 1 (iI nc)) hl9 hr xc xs by
    refine L 0 (by omega) _ (fun x hx => up_row (fun e => hx (Or.inl e))) (by rw [up_at]; rfl) (fun j hj => by omega)
  refine lp nc (fun hl9 F9 A9 W9 => ?_) (fun c hc ih hl9 F9 A9 W9 => ?_)
  · apply s_X5_feelStone_10
    simp (disch := omega) only [B_X5_feelStone_10, sh48, lt48, up_at, en_ops, en_opc, iI_add, iI_mul, iI_sub, jL_add, jL_mul, iI_le, iI_lt, iI_eq, iI_eq0, iI_lt0, iI_0le, iI_le0, iI_0lt, jL_iI, iI_jL, lc_eq, lc_lt, lc_le, lc_ge, lc_gt, Nat.sub_zero, Nat.zero_le, true_and, and_true, Nat.reduceAdd, Nat.reduceLeDiff]
    exact ⟨fun _ => H _ _ F0 F9 ⟨up_at, A9, W9⟩, fun e => absurd (Int.le_refl _) e⟩
  · apply s_X5_feelStone_10
    simp (disch := omega) only [B_X5_feelStone_10, sh48, lt48, s0, s1, up_at, en_ops, en_opc, iI_add, iI_mul, iI_sub, jL_add, jL_mul, iI_le, iI_lt, iI_eq, iI_eq0, iI_lt0, iI_0le, iI_le0, iI_0lt, jL_iI, iI_jL, lc_eq, lc_lt, lc_le, lc_ge, lc_gt, Nat.sub_zero, Nat.zero_le, true_and, and_true, Nat.reduceAdd, Nat.reduceLeDiff]
    refine ⟨fun e => by omega, fun _ => t_share (d := d + 1) ha hR (shH.fr ha hh F0 (fun x g1 g2 => by omega)) hB (by omega) hi18 ?_⟩
    have sr := shP_r (c := c) hB b1 hi18
    simp (disch := omega) only [sh48, lt48, en_ops, en_opc, iI_add, iI_mul, iI_sub, jL_add, jL_mul, iI_le, iI_lt, iI_eq, iI_eq0, iI_lt0, iI_0le, iI_le0, iI_0lt, jL_iI, iI_jL, lc_eq, lc_lt, lc_le, lc_ge, lc_gt, Nat.sub_zero, Nat.zero_le, true_and, and_true, Nat.reduceAdd, Nat.reduceLeDiff]
    refine t_keep h49 A9 (by omega) ?_
    simp (disch := omega) only [en_ops, en_opc, iI_add, iI_mul, iI_sub, jL_add, jL_mul, iI_le, iI_lt, iI_eq, iI_eq0, iI_lt0, iI_0le, iI_le0, iI_0lt, jL_iI, iI_jL, lc_eq, lc_lt, lc_le, lc_ge, lc_gt, Nat.sub_zero, Nat.zero_le, true_and, and_true, Nat.reduceAdd, Nat.reduceLeDiff]
    refine ih _ (fun x hx => ?_) ?_ (fun j hj => ?_)
    · rw [up_row (fun e => hx (Or.inl e)), up_row (fun e => hx (Or.inr e))]; exact F9 x hx
    · rw [up_at, sumTo_s]
    · rw [up_ne (Or.inl (by omega))]
      by_cases e : j = c
      · subst e; rw [up_at]
      · rw [up_ne (Or.inr e)]; exact W9 j (by omega)
def odP (nc : Nat) (g : Nat → Int) (c : Nat) : Int := if sumTo nc g = 0 then 0 else 1000 * g c / sumTo nc g
theorem t_oddsOf {c : Nat} (h49 : hr 48 0 = .ref 49) (hs : snH nc g hi hl) (hg : gB nc g) (hc : c < nc) (H : K (.inl (some (.int (iI (odP nc g c))))) hi hl hr) : en_Call G (d + 1) xc xs Y_X5_oddsOf wN wN [.ref 48, .int (iI (c : Int))] hi hl hr K := by
  obtain ⟨x1, x2, x3⟩ := hs
  have r1 := hg.s (n := nc) (Nat.le_refl _)
  have r2 := hg.2 c hc
  have nc12 := hg.1
  apply en_X5_oddsOf
  simp (disch := omega) only [B_X5_oddsOf_0, h49, sh48, lt48, sh49, lt49, x2, en_ops, en_opc, iI_add, iI_mul, iI_sub, jL_add, jL_mul, iI_le, iI_lt, iI_eq, iI_eq0, iI_lt0, iI_0le, iI_le0, iI_0lt, jL_iI, iI_jL, lc_eq, lc_lt, lc_le, lc_ge, lc_gt, Nat.sub_zero, Nat.zero_le, true_and, and_true, Nat.reduceAdd, Nat.reduceLeDiff]
  refine ⟨fun e => ⟨c, rfl, by omega, ?_⟩, fun e => ?_⟩
  · have hO : odP nc g c = 1000 * g c / sumTo nc g := if_neg (by omega)
    rw [hO] at H
    rw [x3 c hc]
    simp (disch := omega) only [en_ops, en_opc, iI_add, iI_mul, iI_sub, jL_add, jL_mul, iI_le, iI_lt, iI_eq, iI_eq0, iI_lt0, iI_0le, iI_le0, iI_0lt, jL_iI, iI_jL, lc_eq, lc_lt, lc_le, lc_ge, lc_gt, Nat.sub_zero, Nat.zero_le, true_and, and_true, Nat.reduceAdd, Nat.reduceLeDiff]
    refine ⟨by rw [jL_eq0 (by omega) (by omega)]; omega, ?_⟩
    rw [jL_div (by omega) (by omega) (by omega) (by omega)]
    simp (disch := omega) only [en_ops, en_opc, iI_add, iI_mul, iI_sub, jL_add, jL_mul, iI_le, iI_lt, iI_eq, iI_eq0, iI_lt0, iI_0le, iI_le0, iI_0lt, jL_iI, iI_jL, lc_eq, lc_lt, lc_le, lc_ge, lc_gt, Nat.sub_zero, Nat.zero_le, true_and, and_true, Nat.reduceAdd, Nat.reduceLeDiff]
    exact H
  · have hO : odP nc g c = 0 := if_pos (by omega)
    rw [hO] at H
    exact H
/-- the first of the greatest, of the least -/
def guF (g : Nat → Int) : Nat → Int
  | 0 => -1
  | c + 1 => if guF g c = -1 ∨ g (guF g c).toNat < g c then (c : Int) else guF g c
def neF (g : Nat → Int) : Nat → Int
  | 0 => -1
  | c + 1 => if neF g c = -1 ∨ g c < g (neF g c).toNat then (c : Int) else neF g c
theorem guF_r (n : Nat) : -1 ≤ guF g n ∧ guF g n < n ∧ (n ≠ 0 → 0 ≤ guF g n) := by
  induction n with
  | zero => exact ⟨Int.le_refl _, by show (-1 : Int) < 0; omega, fun e => absurd rfl e⟩
  | succ n ih =>
    show -1 ≤ (if guF g n = -1 ∨ g (guF g n).toNat < g n then (n : Int) else guF g n) ∧ (if guF g n = -1 ∨ g (guF g n).toNat < g n then (n : Int) else guF g n) < ((n + 1 : Nat) : Int) ∧ (n + 1 ≠ 0 → 0 ≤ (if guF g n = -1 ∨ g (guF g n).toNat < g n then (n : Int) else guF g n))
    split <;> omega
theorem neF_r (n : Nat) : -1 ≤ neF g n ∧ neF g n < n ∧ (n ≠ 0 → 0 ≤ neF g n) := by
  induction n with
  | zero => exact ⟨Int.le_refl _, by show (-1 : Int) < 0; omega, fun e => absurd rfl e⟩
  | succ n ih =>
    show -1 ≤ (if neF g n = -1 ∨ g n < g (neF g n).toNat then (n : Int) else neF g n) ∧ (if neF g n = -1 ∨ g n < g (neF g n).toNat then (n : Int) else neF g n) < ((n + 1 : Nat) : Int) ∧ (n + 1 ≠ 0 → 0 ≤ (if neF g n = -1 ∨ g n < g (neF g n).toNat then (n : Int) else neF g n))
    split <;> omega
theorem t_guess (h49 : hr 48 0 = .ref 49) (hs : snH nc g hi hl) (hg : gB nc g) (H : K (.inl (some (.int (iI (if sumTo nc g = 0 then -1 else guF g nc))))) hi hl hr) : en_Call G (d + 1) xc xs Y_X5_guess wN wN [.ref 48] hi hl hr K := by
  obtain ⟨x1, x2, x3⟩ := hs
  have r1 := hg.s (n := nc) (Nat.le_refl _)
  have nc12 := hg.1
  apply en_X5_guess
  simp (disch := omega) only [B_X5_guess_0, en_ops, en_opc, iI_add, iI_mul, iI_sub, jL_add, jL_mul, iI_le, iI_lt, iI_eq, iI_eq0, iI_lt0, iI_0le, iI_le0, iI_0lt, jL_iI, iI_jL, lc_eq, lc_lt, lc_le, lc_ge, lc_gt, Nat.sub_zero, Nat.zero_le, true_and, and_true, Nat.reduceAdd, Nat.reduceLeDiff]
  by_cases e : sumTo nc g = 0
  · rw [if_pos e] at H
    apply s_X5_guess_4
    simp (disch := omega) only [B_X5_guess_4, sh48, lt48, x1, x2, en_ops, en_opc, iI_add, iI_mul, iI_sub, jL_add, jL_mul, iI_le, iI_lt, iI_eq, iI_eq0, iI_lt0, iI_0le, iI_le0, iI_0lt, jL_iI, iI_jL, lc_eq, lc_lt, lc_le, lc_ge, lc_gt, Nat.sub_zero, Nat.zero_le, true_and, and_true, Nat.reduceAdd, Nat.reduceLeDiff]
    exact ⟨fun _ => H, fun _ => ⟨fun _ => H, fun e2 => by omega⟩⟩
  · rw [if_neg e] at H
    suffices L : ∀ c : Nat, c ≤ nc → en_V G Y_X5_guess (d + 1) wN wN K 4 [.ref 48, .int (iI (guF g c)), .int (iI c)] [] hi hl hr xc xs from L 0 (by omega)
    refine lp nc ?_ (fun c hc ih => ?_)
    · apply s_X5_guess_4
      simp (disch := omega) only [B_X5_guess_4, sh48, lt48, x1, x2, en_ops, en_opc, iI_add, iI_mul, iI_sub, jL_add, jL_mul, iI_le, iI_lt, iI_eq, iI_eq0, iI_lt0, iI_0le, iI_le0, iI_0lt, jL_iI, iI_jL, lc_eq, lc_lt, lc_le, lc_ge, lc_gt, Nat.sub_zero, Nat.zero_le, true_and, and_true, Nat.reduceAdd, Nat.reduceLeDiff]
      exact ⟨fun _ => H, fun e => absurd (Int.le_refl _) e⟩
    · obtain ⟨b0, b1, b2⟩ := guF_r (g := g) c
      have gc := hg.2 c hc
      have st : guF g (c + 1) = if guF g c = -1 ∨ g (guF g c).toNat < g c then (c : Int) else guF g c := rfl
      rw [st] at ih
      apply s_X5_guess_4
      simp (disch := omega) only [B_X5_guess_4, h49, sh48, lt48, sh49, lt49, x1, x2, en_ops, en_opc, iI_add, iI_mul, iI_sub, jL_add, jL_mul, iI_le, iI_lt, iI_eq, iI_eq0, iI_lt0, iI_0le, iI_le0, iI_0lt, jL_iI, iI_jL, lc_eq, lc_lt, lc_le, lc_ge, lc_gt, Nat.sub_zero, Nat.zero_le, true_and, and_true, Nat.reduceAdd, Nat.reduceLeDiff]
      refine ⟨fun e2 => by omega, fun _ => ⟨fun e2 => by omega, fun _ => ⟨fun e2 => ?_, fun e2 => ⟨c, rfl, by omega, (guF g c).toNat, iI_eq_of (by omega), by omega, ?_⟩⟩⟩⟩
      · rw [if_pos (Or.inl e2)] at ih; exact ih
      · have gb := hg.2 (guF g c).toNat (by omega)
        rw [x3 c hc, x3 _ (by omega)]
        simp (disch := omega) only [en_ops, en_opc, iI_add, iI_mul, iI_sub, jL_add, jL_mul, iI_le, iI_lt, iI_eq, iI_eq0, iI_lt0, iI_0le, iI_le0, iI_0lt, jL_iI, iI_jL, lc_eq, lc_lt, lc_le, lc_ge, lc_gt, Nat.sub_zero, Nat.zero_le, true_and, and_true, Nat.reduceAdd, Nat.reduceLeDiff]
        refine ⟨fun e3 => ?_, fun e3 => ?_⟩
        · rw [if_neg (by omega)] at ih; exact ih
        · rw [if_pos (by omega)] at ih; exact ih
def faI (g : Nat → Int) (c o : Nat) : Int := (if (o : Int) - c < 0 then -((o : Int) - c) else (o : Int) - c) * g o
def faP (nc : Nat) (g : Nat → Int) (c : Nat) : Int := sumTo nc (faI g c)
theorem faI_r (hg : gB nc g) {c o : Nat} (hc : c < nc) (ho : o < nc) : 0 ≤ faI g c o ∧ faI g c o ≤ 12 * g o := by
  have := hg.1
  obtain ⟨g0, g1⟩ := hg.2 o ho
  unfold faI
  split
  · exact ⟨Int.mul_nonneg (by omega) g0, Int.mul_le_mul_of_nonneg_right (by omega) g0⟩
  · exact ⟨Int.mul_nonneg (by omega) g0, Int.mul_le_mul_of_nonneg_right (by omega) g0⟩
theorem faP_r (hg : gB nc g) {c : Nat} (hc : c < nc) {n : Nat} (hn : n ≤ nc) : 0 ≤ sumTo n (faI g c) ∧ sumTo n (faI g c) ≤ 12 * sumTo nc g := by
  refine ⟨sumTo_nn (fun o ho => (faI_r hg hc (by omega)).1), ?_⟩
  rw [← sumTo_mul]
  refine Int.le_trans (sumTo_le (g := fun o => 12 * g o) (fun o ho => (faI_r hg hc (by omega)).2)) ?_
  exact sumTo_mono hn (fun o ho => by have := hg.2 o ho; show 0 ≤ 12 * g o; omega)
theorem t_farFrom {c : Nat} (h49 : hr 48 0 = .ref 49) (hs : snH nc g hi hl) (hg : gB nc g) (hc : c < nc) (H : K (.inl (some (.long (jL (faP nc g c))))) hi hl hr) : en_Call G (d + 2) xc xs Y_X5_farFrom wN wN [.ref 48, .int (iI (c : Int))] hi hl hr K := by
  obtain ⟨x1, x2, x3⟩ := hs
  have nc12 := hg.1
  have r1 := hg.s (n := nc) (Nat.le_refl _)
  apply en_X5_farFrom
  simp (disch := omega) only [B_X5_farFrom_0, en_ops, en_opc, iI_add, iI_mul, iI_sub, jL_add, jL_mul, iI_le, iI_lt, iI_eq, iI_eq0, iI_lt0, iI_0le, iI_le0, iI_0lt, jL_iI, iI_jL, lc_eq, lc_lt, lc_le, lc_ge, lc_gt, Nat.sub_zero, Nat.zero_le, true_and, and_true, Nat.reduceAdd, Nat.reduceLeDiff]
  suffices L : ∀ o : Nat, o ≤ nc → en_V G Y_X5_farFrom (d + 2) wN wN K 5 [.ref 48, .int (iI (c : Int)), .long (jL (sumTo o (faI g c))), jk, .int (iI o)] [] hi hl hr xc xs from L 0 (by omega)
  refine lp nc ?_ (fun o ho ih => ?_)
  · apply s_X5_farFrom_5
    simp (disch := omega) only [B_X5_farFrom_5, sh48, lt48, x1, en_ops, en_opc, iI_add, iI_mul, iI_sub, jL_add, jL_mul, iI_le, iI_lt, iI_eq, iI_eq0, iI_lt0, iI_0le, iI_le0, iI_0lt, jL_iI, iI_jL, lc_eq, lc_lt, lc_le, lc_ge, lc_gt, Nat.sub_zero, Nat.zero_le, true_and, and_true, Nat.reduceAdd, Nat.reduceLeDiff]
    exact ⟨fun _ => H, fun e => absurd (Int.le_refl _) e⟩
  · rw [sumTo_s] at ih
    have fr := faP_r hg hc (n := o) (by omega)
    have fi := faI_r hg hc ho
    obtain ⟨g0, g1⟩ := hg.2 o ho
    have fd : faI g c o = (if (o : Int) - c < 0 then -((o : Int) - c) else (o : Int) - c) * g o := rfl
    apply s_X5_farFrom_5
    simp (disch := omega) only [B_X5_farFrom_5, sh48, lt48, x1, en_ops, en_opc, iI_add, iI_mul, iI_sub, jL_add, jL_mul, iI_le, iI_lt, iI_eq, iI_eq0, iI_lt0, iI_0le, iI_le0, iI_0lt, jL_iI, iI_jL, lc_eq, lc_lt, lc_le, lc_ge, lc_gt, Nat.sub_zero, Nat.zero_le, true_and, and_true, Nat.reduceAdd, Nat.reduceLeDiff]
    refine ⟨fun e => by omega, fun _ => t_abs (by omega) (by omega) ?_⟩
    generalize hab : (if (o : Int) - c < 0 then -((o : Int) - c) else (o : Int) - c) = ab at fd ⊢
    have rab : 0 ≤ ab ∧ ab ≤ 12 := by rw [← hab]; split <;> omega
    simp (disch := omega) only [h49, sh48, lt48, sh49, lt49, en_ops, en_opc, iI_add, iI_mul, iI_sub, jL_add, jL_mul, iI_le, iI_lt, iI_eq, iI_eq0, iI_lt0, iI_0le, iI_le0, iI_0lt, jL_iI, iI_jL, lc_eq, lc_lt, lc_le, lc_ge, lc_gt, Nat.sub_zero, Nat.zero_le, true_and, and_true, Nat.reduceAdd, Nat.reduceLeDiff]
    refine ⟨o, rfl, by omega, ?_⟩
    rw [x3 o ho]
    simp (disch := omega) only [en_ops, en_opc, iI_add, iI_mul, iI_sub, jL_add, jL_mul, iI_le, iI_lt, iI_eq, iI_eq0, iI_lt0, iI_0le, iI_le0, iI_0lt, jL_iI, iI_jL, lc_eq, lc_lt, lc_le, lc_ge, lc_gt, Nat.sub_zero, Nat.zero_le, true_and, and_true, Nat.reduceAdd, Nat.reduceLeDiff]
    rw [← fd]
    exact ih
theorem t_near (h49 : hr 48 0 = .ref 49) (hs : snH nc g hi hl) (hg : gB nc g) (H : K (.inl (some (.int (iI (if sumTo nc g = 0 then -1 else neF (faP nc g) nc))))) hi hl hr) : en_Call G (d + 3) xc xs Y_X5_near wN wN [.ref 48] hi hl hr K := by
  have hs' := hs
  obtain ⟨x1, x2, x3⟩ := hs
  have r1 := hg.s (n := nc) (Nat.le_refl _)
  have nc12 := hg.1
  apply en_X5_near
  simp (disch := omega) only [B_X5_near_0, en_ops, en_opc, iI_add, iI_mul, iI_sub, jL_add, jL_mul, iI_le, iI_lt, iI_eq, iI_eq0, iI_lt0, iI_0le, iI_le0, iI_0lt, jL_iI, iI_jL, lc_eq, lc_lt, lc_le, lc_ge, lc_gt, Nat.sub_zero, Nat.zero_le, true_and, and_true, Nat.reduceAdd, Nat.reduceLeDiff]
  by_cases e : sumTo nc g = 0
  · rw [if_pos e] at H
    apply s_X5_near_4
    simp (disch := omega) only [B_X5_near_4, sh48, lt48, x1, x2, en_ops, en_opc, iI_add, iI_mul, iI_sub, jL_add, jL_mul, iI_le, iI_lt, iI_eq, iI_eq0, iI_lt0, iI_0le, iI_le0, iI_0lt, jL_iI, iI_jL, lc_eq, lc_lt, lc_le, lc_ge, lc_gt, Nat.sub_zero, Nat.zero_le, true_and, and_true, Nat.reduceAdd, Nat.reduceLeDiff]
    exact ⟨fun _ => H, fun _ => ⟨fun _ => H, fun e2 => by omega⟩⟩
  · rw [if_neg e] at H
    suffices L : ∀ c : Nat, c ≤ nc → en_V G Y_X5_near (d + 3) wN wN K 4 [.ref 48, .int (iI (neF (faP nc g) c)), .int (iI c)] [] hi hl hr xc xs from L 0 (by omega)
    refine lp nc ?_ (fun c hc ih => ?_)
    · apply s_X5_near_4
      simp (disch := omega) only [B_X5_near_4, sh48, lt48, x1, x2, en_ops, en_opc, iI_add, iI_mul, iI_sub, jL_add, jL_mul, iI_le, iI_lt, iI_eq, iI_eq0, iI_lt0, iI_0le, iI_le0, iI_0lt, jL_iI, iI_jL, lc_eq, lc_lt, lc_le, lc_ge, lc_gt, Nat.sub_zero, Nat.zero_le, true_and, and_true, Nat.reduceAdd, Nat.reduceLeDiff]
      exact ⟨fun _ => H, fun e => absurd (Int.le_refl _) e⟩
    · obtain ⟨b0, b1, b2⟩ := neF_r (g := faP nc g) c
      have gc : 0 ≤ faP nc g c ∧ faP nc g c ≤ 12 * sumTo nc g := faP_r hg hc (Nat.le_refl _)
      have st : neF (faP nc g) (c + 1) = if neF (faP nc g) c = -1 ∨ faP nc g c < faP nc g (neF (faP nc g) c).toNat then (c : Int) else neF (faP nc g) c := rfl
      rw [st] at ih
      apply s_X5_near_4
      simp (disch := omega) only [B_X5_near_4, sh48, lt48, x1, x2, en_ops, en_opc, iI_add, iI_mul, iI_sub, jL_add, jL_mul, iI_le, iI_lt, iI_eq, iI_eq0, iI_lt0, iI_0le, iI_le0, iI_0lt, jL_iI, iI_jL, lc_eq, lc_lt, lc_le, lc_ge, lc_gt, Nat.sub_zero, Nat.zero_le, true_and, and_true, Nat.reduceAdd, Nat.reduceLeDiff]
      refine ⟨fun e2 => by omega, fun _ => ⟨fun e2 => by omega, fun _ => ⟨fun e2 => ?_, fun e2 => ?_⟩⟩⟩
      · rw [if_pos (Or.inl e2)] at ih; exact ih
      · refine t_farFrom h49 hs' hg hc ?_
        simp (disch := omega) only [sh48, lt48, en_ops, en_opc, iI_add, iI_mul, iI_sub, jL_add, jL_mul, iI_le, iI_lt, iI_eq, iI_eq0, iI_lt0, iI_0le, iI_le0, iI_0lt, jL_iI, iI_jL, lc_eq, lc_lt, lc_le, lc_ge, lc_gt, Nat.sub_zero, Nat.zero_le, true_and, and_true, Nat.reduceAdd, Nat.reduceLeDiff]
        have gb : 0 ≤ faP nc g (neF (faP nc g) c).toNat ∧ faP nc g (neF (faP nc g) c).toNat ≤ 12 * sumTo nc g := faP_r hg (by omega) (Nat.le_refl _)
        have en : neF (faP nc g) c = ((neF (faP nc g) c).toNat : Int) := by omega
        rw [en]
        refine t_farFrom h49 hs' hg (by omega) ?_
        rw [← en]
        simp (disch := omega) only [en_ops, en_opc, iI_add, iI_mul, iI_sub, jL_add, jL_mul, iI_le, iI_lt, iI_eq, iI_eq0, iI_lt0, iI_0le, iI_le0, iI_0lt, jL_iI, iI_jL, lc_eq, lc_lt, lc_le, lc_ge, lc_gt, Nat.sub_zero, Nat.zero_le, true_and, and_true, Nat.reduceAdd, Nat.reduceLeDiff]
        refine ⟨fun e3 => ?_, fun e3 => ?_⟩
        · rw [if_neg (by omega)] at ih; exact ih
        · rw [if_pos (by omega)] at ih; exact ih
def hfP (nc : Nat) (g : Nat → Int) : Int := if sumTo nc g = 0 then -1 else 1000 * faP nc g (neF (faP nc g) nc).toNat / sumTo nc g
theorem t_howFar (h49 : hr 48 0 = .ref 49) (hs : snH nc g hi hl) (hg : gB nc g) (H : K (.inl (some (.int (iI (hfP nc g))))) hi hl hr) : en_Call G (d + 4) xc xs Y_X5_howFar wN wN [.ref 48] hi hl hr K := by
  have hs' := hs
  obtain ⟨x1, x2, x3⟩ := hs
  have r1 := hg.s (n := nc) (Nat.le_refl _)
  have nc12 := hg.1
  apply en_X5_howFar
  simp (disch := omega) only [B_X5_howFar_0, sh48, lt48, x2, en_ops, en_opc, iI_add, iI_mul, iI_sub, jL_add, jL_mul, iI_le, iI_lt, iI_eq, iI_eq0, iI_lt0, iI_0le, iI_le0, iI_0lt, jL_iI, iI_jL, lc_eq, lc_lt, lc_le, lc_ge, lc_gt, Nat.sub_zero, Nat.zero_le, true_and, and_true, Nat.reduceAdd, Nat.reduceLeDiff]
  refine ⟨fun e => ?_, fun e => ?_⟩
  · have hO : hfP nc g = 1000 * faP nc g (neF (faP nc g) nc).toNat / sumTo nc g := if_neg (by omega)
    rw [hO] at H
    have nc0 : nc ≠ 0 := fun e0 => by subst e0; exact absurd (show sumTo 0 g = 0 from rfl) (by omega)
    obtain ⟨b0, b1, b2⟩ := neF_r (g := faP nc g) nc
    have b3 := b2 nc0
    have gb : 0 ≤ faP nc g (neF (faP nc g) nc).toNat ∧ faP nc g (neF (faP nc g) nc).toNat ≤ 12 * sumTo nc g := faP_r hg (by omega) (Nat.le_refl _)
    refine t_near h49 hs' hg ?_
    rw [if_neg (by omega)]
    have en : neF (faP nc g) nc = ((neF (faP nc g) nc).toNat : Int) := by omega
    simp (disch := omega) only [sh48, lt48, en_ops, en_opc, iI_add, iI_mul, iI_sub, jL_add, jL_mul, iI_le, iI_lt, iI_eq, iI_eq0, iI_lt0, iI_0le, iI_le0, iI_0lt, jL_iI, iI_jL, lc_eq, lc_lt, lc_le, lc_ge, lc_gt, Nat.sub_zero, Nat.zero_le, true_and, and_true, Nat.reduceAdd, Nat.reduceLeDiff]
    rw [en]
    refine t_farFrom h49 hs' hg (by omega) ?_
    simp (disch := omega) only [sh48, lt48, x2, en_ops, en_opc, iI_add, iI_mul, iI_sub, jL_add, jL_mul, iI_le, iI_lt, iI_eq, iI_eq0, iI_lt0, iI_0le, iI_le0, iI_0lt, jL_iI, iI_jL, lc_eq, lc_lt, lc_le, lc_ge, lc_gt, Nat.sub_zero, Nat.zero_le, true_and, and_true, Nat.reduceAdd, Nat.reduceLeDiff]
    refine ⟨by rw [jL_eq0 (by omega) (by omega)]; omega, ?_⟩
    rw [jL_div (by omega) (by omega) (by omega) (by omega)]
    simp (disch := omega) only [en_ops, en_opc, iI_add, iI_mul, iI_sub, jL_add, jL_mul, iI_le, iI_lt, iI_eq, iI_eq0, iI_lt0, iI_0le, iI_le0, iI_0lt, jL_iI, iI_jL, lc_eq, lc_lt, lc_le, lc_ge, lc_gt, Nat.sub_zero, Nat.zero_le, true_and, and_true, Nat.reduceAdd, Nat.reduceLeDiff]
    exact H
  · have hO : hfP nc g = -1 := if_pos (by omega)
    rw [hO] at H
    exact H
end
-- DRAFT 63
section
variable {G : en_G} {d : Nat} {K : en_K} {a nc nz : Nat} {f : Nat → Nat → Nat → Int} {hi : en_I} {hl : en_L} {hr : en_F} {xc xs : Nat} {g : Nat → Int}
/-! looking: the richest cells -/
def riB (g : Nat → Int) (bits : Nat) : Nat → Int
  | 0 => -1
  | c + 1 => if bits.testBit c = false ∧ (riB g bits c = -1 ∨ g (riB g bits c).toNat < g c) then (c : Int) else riB g bits c
theorem riB_r {bits : Nat} (n : Nat) : -1 ≤ riB g bits n ∧ riB g bits n < n ∧ (riB g bits n ≠ -1 → bits.testBit (riB g bits n).toNat = false) ∧ ((∃ c, c < n ∧ bits.testBit c = false) → riB g bits n ≠ -1) := by
  induction n with
  | zero => exact ⟨Int.le_refl _, by show (-1 : Int) < 0; omega, fun e => absurd rfl e, fun ⟨c, hc, _⟩ => by omega⟩
  | succ n ih =>
    obtain ⟨i1, i2, i3, i4⟩ := ih
    show -1 ≤ (if bits.testBit n = false ∧ (riB g bits n = -1 ∨ g (riB g bits n).toNat < g n) then (n : Int) else riB g bits n) ∧ (if bits.testBit n = false ∧ (riB g bits n = -1 ∨ g (riB g bits n).toNat < g n) then (n : Int) else riB g bits n) < ((n + 1 : Nat) : Int) ∧ ((if bits.testBit n = false ∧ (riB g bits n = -1 ∨ g (riB g bits n).toNat < g n) then (n : Int) else riB g bits n) ≠ -1 → bits.testBit (if bits.testBit n = false ∧ (riB g bits n = -1 ∨ g (riB g bits n).toNat < g n) then (n : Int) else riB g bits n).toNat = false) ∧ (_ → (if bits.testBit n = false ∧ (riB g bits n = -1 ∨ g (riB g bits n).toNat < g n) then (n : Int) else riB g bits n) ≠ -1)
    split
    next q => exact ⟨by omega, by omega, fun _ => by rw [show ((n : Int)).toNat = n by omega]; exact q.1, fun _ => by omega⟩
    next q =>
      refine ⟨i1, by omega, i3, fun ⟨c, hc, hb⟩ => ?_⟩
      by_cases e : c = n
      · subst e
        intro e2
        exact q ⟨hb, Or.inl e2⟩
      · exact i4 ⟨c, by omega, hb⟩
def riP (g : Nat → Int) (nc : Nat) : Nat → Nat
  | 0 => 0
  | k + 1 => if riB g (riP g nc k) nc = -1 then riP g nc k else riP g nc k ||| 2 ^ (riB g (riP g nc k) nc).toNat
theorem tb_or (b j i : Nat) : (b ||| 2 ^ j).testBit i = (b.testBit i || decide (j = i)) := by rw [Nat.testBit_or, Nat.testBit_two_pow]
def bsP (bits nc : Nat) (g : Nat → Int) : Int := sumTo nc (fun c => if bits.testBit c = true then g c else 0)
theorem bs_or {bits j : Nat} (hj : j < nc) (hb : bits.testBit j = false) : bsP (bits ||| 2 ^ j) nc g = bsP bits nc g + g j := by
  have e : bsP (bits ||| 2 ^ j) nc g = sumTo nc (fun c => (if bits.testBit c = true then g c else 0) + (if c = j then g j else 0)) := sumTo_congr (fun c _ => by
    rw [tb_or]
    by_cases e : c = j
    · subst e; rw [hb]; simp
    · rw [if_neg e]
      have : decide (j = c) = false := by simp; omega
      rw [this]; simp)
  rw [e, sumTo_add]
  have : sumTo nc (fun c => if c = j then g j else 0) = g j := by rw [sumTo_one hj (fun i _ h2 => if_neg h2), if_pos rfl]
  rw [this]; rfl
theorem riP_c (k : Nat) (hk : k ≤ nc) : riP g nc k < 2 ^ nc ∧ bsP (riP g nc k) nc (fun _ => 1) = k := by
  induction k with
  | zero => exact ⟨Nat.two_pow_pos nc, sumTo_zero (fun c _ => by show (if (0 : Nat).testBit c = true then (1 : Int) else 0) = 0; rw [Nat.zero_testBit]; rfl)⟩
  | succ k ih =>
    obtain ⟨i1, i2⟩ := ih (by omega)
    obtain ⟨b1, b2, b3, b4⟩ := riB_r (g := g) (bits := riP g nc k) nc
    have ex : ∃ c, c < nc ∧ (riP g nc k).testBit c = false := by
      rcases Classical.em (∃ c, c < nc ∧ (riP g nc k).testBit c = false) with q | q
      · exact q
      · have : bsP (riP g nc k) nc (fun _ => 1) = sumTo nc (fun _ => (1 : Int)) := sumTo_congr (fun c hc => by
          have : (riP g nc k).testBit c = true := by
            cases h : (riP g nc k).testBit c
            · exact absurd ⟨c, hc, h⟩ q
            · rfl
          rw [if_pos this])
        have e1 : ∀ m : Nat, sumTo m (fun _ => (1 : Int)) = m := fun m => by
          induction m with
          | zero => rfl
          | succ m ih => rw [sumTo_s, ih]; omega
        rw [e1] at this
        omega
    have ne := b4 ex
    have st : riP g nc (k + 1) = riP g nc k ||| 2 ^ (riB g (riP g nc k) nc).toNat := if_neg ne
    rw [st]
    refine ⟨Nat.or_lt_two_pow i1 (Nat.pow_lt_pow_right (by decide) (by omega)), ?_⟩
    rw [bs_or (g := fun _ => 1) (by omega) (b3 ne), i2]
    omega
theorem riB_ne {k : Nat} (hk : k < nc) : riB g (riP g nc k) nc ≠ -1 := by
  obtain ⟨b1, b2, b3, b4⟩ := riB_r (g := g) (bits := riP g nc k) nc
  obtain ⟨i1, i2⟩ := riP_c (g := g) (nc := nc) k (by omega)
  refine b4 ?_
  rcases Classical.em (∃ c, c < nc ∧ (riP g nc k).testBit c = false) with q | q
  · exact q
  · have : bsP (riP g nc k) nc (fun _ => 1) = sumTo nc (fun _ => (1 : Int)) := sumTo_congr (fun c hc => by
      have : (riP g nc k).testBit c = true := by
        cases h : (riP g nc k).testBit c
        · exact absurd ⟨c, hc, h⟩ q
        · rfl
      rw [if_pos this])
    have e1 : ∀ m : Nat, sumTo m (fun _ => (1 : Int)) = m := fun m => by
      induction m with
      | zero => rfl
      | succ m ih => rw [sumTo_s, ih]; omega
    rw [e1] at this
    omega
theorem riP_s {k : Nat} (hk : k < nc) : riP g nc (k + 1) = riP g nc k ||| 2 ^ (riB g (riP g nc k) nc).toNat ∧ bsP (riP g nc (k + 1)) nc g = bsP (riP g nc k) nc g + g (riB g (riP g nc k) nc).toNat := by
  obtain ⟨b1, b2, b3, b4⟩ := riB_r (g := g) (bits := riP g nc k) nc
  have ne := riB_ne (g := g) hk
  have st : riP g nc (k + 1) = riP g nc k ||| 2 ^ (riB g (riP g nc k) nc).toNat := if_neg ne
  exact ⟨st, by rw [st, bs_or (by omega) (b3 ne)]⟩
theorem t_richest {z n : Nat} (ha : isSh a) (hR : shR a hr) (hh : shH a nc nz f hi) (hB : fB nc nz f) (hz : z < nz) (hn : n ≤ nc)
    (H : K (.inl (some (.int (iI (riP (fun c => aP f c z) nc n : Int))))) hi hl hr) : en_Call G (d + 3) xc xs Y_X6_richest wN wN [.ref a, .int (iI (z : Int)), .int (iI (n : Int))] hi hl hr K := by
  obtain ⟨s0, s1, s2, s3, s4, s5, s6, s7, s8, s9, s10, s11⟩ := ha.sh
  obtain ⟨r1, r2, r3, r4, r5, r6, r7⟩ := id hR
  obtain ⟨h0, h1, b0, b1, h2⟩ := id hh
  have q1 : a + 1 < 134 := by omega
  have q2 : a + 2 < 134 := by omega
  have q3 : a + 3 < 134 := by omega
  have q4 : a + 4 < 134 := by omega
  have q5 : a + 5 < 134 := by omega
  have q6 : a + 6 < 134 := by omega
  have q7 : a + 7 < 134 := by omega
  have ar : ∀ c, c < 12 → 0 ≤ aP f c z ∧ aP f c z ≤ 10000000 := fun c hc => ⟨aP_nn hB c z, Int.le_trans (aP_le hB b1 hc z) (wP_le hB b1 hc)⟩
  apply en_X6_richest
  simp (disch := omega) only [B_X6_richest_0, en_ops, en_opc, iI_add, iI_mul, iI_sub, jL_add, jL_mul, iI_le, iI_lt, iI_eq, iI_eq0, iI_lt0, iI_0le, iI_le0, iI_0lt, jL_iI, iI_jL, lc_eq, lc_lt, lc_le, lc_ge, lc_gt, Nat.sub_zero, Nat.zero_le, true_and, and_true, Nat.reduceAdd, Nat.reduceLeDiff]
  suffices L : ∀ k : Nat, k ≤ n → ∀ x5 x6 x7, en_V G Y_X6_richest (d + 3) wN wN K 5 [.ref a, .int (iI (z : Int)), .int (iI (n : Int)), .int (iI (riP (fun c => aP f c z) nc k : Int)), .int (iI (k : Int)), x5, x6, x7] [] hi hl hr xc xs from L 0 (by omega) _ _ _
  refine lp n (fun x5 x6 x7 => ?_) (fun k hk ih x5 x6 x7 => ?_)
  · apply s_X6_richest_5
    simp (disch := omega) only [B_X6_richest_5, en_ops, en_opc, iI_add, iI_mul, iI_sub, jL_add, jL_mul, iI_le, iI_lt, iI_eq, iI_eq0, iI_lt0, iI_0le, iI_le0, iI_0lt, jL_iI, iI_jL, lc_eq, lc_lt, lc_le, lc_ge, lc_gt, Nat.sub_zero, Nat.zero_le, true_and, and_true, Nat.reduceAdd, Nat.reduceLeDiff]
    exact ⟨fun _ => H, fun e => absurd (Int.le_refl _) e⟩
  · obtain ⟨p1, -⟩ := riP_c (g := fun c => aP f c z) (nc := nc) k (by omega)
    obtain ⟨st, -⟩ := riP_s (g := fun c => aP f c z) (nc := nc) (k := k) (by omega)
    have ne := riB_ne (g := fun c => aP f c z) (nc := nc) (k := k) (by omega)
    rw [st] at ih
    generalize hbits : riP (fun c => aP f c z) nc k = bits at *
    apply s_X6_richest_5
    simp (disch := omega) only [B_X6_richest_5, en_ops, en_opc, iI_add, iI_mul, iI_sub, jL_add, jL_mul, iI_le, iI_lt, iI_eq, iI_eq0, iI_lt0, iI_0le, iI_le0, iI_0lt, jL_iI, iI_jL, lc_eq, lc_lt, lc_le, lc_ge, lc_gt, Nat.sub_zero, Nat.zero_le, true_and, and_true, Nat.reduceAdd, Nat.reduceLeDiff]
    refine ⟨fun e => by omega, fun _ => ?_⟩
    suffices L2 : ∀ c : Nat, c ≤ nc → ∀ x7, en_V G Y_X6_richest (d + 3) wN wN K 17 [.ref a, .int (iI (z : Int)), .int (iI (n : Int)), .int (iI (bits : Int)), .int (iI (k : Int)), .int (iI (riB (fun c => aP f c z) bits c)), .int (iI (c : Int)), x7] [] hi hl hr xc xs from L2 0 (by omega) _
    refine lp nc (fun x7 => ?_) (fun c hc ih2 x7 => ?_)
    · obtain ⟨r0, r9, -⟩ := riB_r (g := fun c => aP f c z) (bits := bits) nc
      apply s_X6_richest_17
      simp (disch := omega) only [B_X6_richest_17, s0, s1, h0, en_ops, en_opc, iI_add, iI_mul, iI_sub, jL_add, jL_mul, iI_le, iI_lt, iI_eq, iI_eq0, iI_lt0, iI_0le, iI_le0, iI_0lt, jL_iI, iI_jL, lc_eq, lc_lt, lc_le, lc_ge, lc_gt, Nat.sub_zero, Nat.zero_le, true_and, and_true, Nat.reduceAdd, Nat.reduceLeDiff]
      have en : riB (fun c => aP f c z) bits nc = ((riB (fun c => aP f c z) bits nc).toNat : Int) := by omega
      refine ⟨fun _ => ⟨fun e => absurd e ne, fun _ => ?_⟩, fun e => absurd (Int.le_refl _) e⟩
      rw [en, shl_1 _ (by omega), or_at, ← en]
      exact ih _ _ _
    · obtain ⟨r0, r9, -⟩ := riB_r (g := fun c => aP f c z) (bits := bits) c
      have st2 : riB (fun c => aP f c z) bits (c + 1) = if bits.testBit c = false ∧ (riB (fun c => aP f c z) bits c = -1 ∨ aP f (riB (fun c => aP f c z) bits c).toNat z < aP f c z) then (c : Int) else riB (fun c => aP f c z) bits c := rfl
      rw [st2] at ih2
      apply s_X6_richest_17
      cases hbit : bits.testBit c
      · simp (disch := omega) only [B_X6_richest_17, s0, s1, h0, sh_0 (show c < 32 by omega) hbit, en_ops, en_opc, iI_add, iI_mul, iI_sub, jL_add, jL_mul, iI_le, iI_lt, iI_eq, iI_eq0, iI_lt0, iI_0le, iI_le0, iI_0lt, jL_iI, iI_jL, lc_eq, lc_lt, lc_le, lc_ge, lc_gt, Nat.sub_zero, Nat.zero_le, true_and, and_true, Nat.reduceAdd, Nat.reduceLeDiff]
        refine ⟨fun e => by omega, fun _ => ⟨fun e => absurd rfl e, fun _ => ?_⟩⟩
        apply s_X6_richest_40
        simp (disch := omega) only [B_X6_richest_40, s0, s1, en_ops, en_opc, iI_add, iI_mul, iI_sub, jL_add, jL_mul, iI_le, iI_lt, iI_eq, iI_eq0, iI_lt0, iI_0le, iI_le0, iI_0lt, jL_iI, iI_jL, lc_eq, lc_lt, lc_le, lc_ge, lc_gt, Nat.sub_zero, Nat.zero_le, true_and, and_true, Nat.reduceAdd, Nat.reduceLeDiff]
        refine ⟨fun e => absurd e (by decide), fun _ => ⟨fun e => ?_, fun e => ?_⟩⟩
        · rw [if_pos ⟨hbit, Or.inl e⟩] at ih2; exact ih2 _
        · refine t_inCell (d := d) ha hR hh (by omega) (by omega) (by omega) ?_
          rw [inP_a hz]
          have en : riB (fun c => aP f c z) bits c = ((riB (fun c => aP f c z) bits c).toNat : Int) := by omega
          simp (disch := omega) only [s0, s1, en_ops, en_opc, iI_add, iI_mul, iI_sub, jL_add, jL_mul, iI_le, iI_lt, iI_eq, iI_eq0, iI_lt0, iI_0le, iI_le0, iI_0lt, jL_iI, iI_jL, lc_eq, lc_lt, lc_le, lc_ge, lc_gt, Nat.sub_zero, Nat.zero_le, true_and, and_true, Nat.reduceAdd, Nat.reduceLeDiff]
          rw [en]
          refine t_inCell (d := d) ha hR hh (by omega) (by omega) (by omega) ?_
          rw [inP_a hz, ← en]
          have a1 := ar c (by omega)
          have a2 := ar (riB (fun c => aP f c z) bits c).toNat (by omega)
          simp (disch := omega) only [en_ops, en_opc, iI_add, iI_mul, iI_sub, jL_add, jL_mul, iI_le, iI_lt, iI_eq, iI_eq0, iI_lt0, iI_0le, iI_le0, iI_0lt, jL_iI, iI_jL, lc_eq, lc_lt, lc_le, lc_ge, lc_gt, Nat.sub_zero, Nat.zero_le, true_and, and_true, Nat.reduceAdd, Nat.reduceLeDiff]
          refine ⟨fun e2 => ?_, fun e2 => ?_⟩
          · rw [if_neg (fun g9 => by rcases g9.2 with g9 | g9 <;> omega)] at ih2; exact ih2 _
          · rw [if_pos ⟨hbit, Or.inr (by omega)⟩] at ih2; exact ih2 _
      · simp (disch := omega) only [B_X6_richest_17, s0, s1, h0, sh_1 (show c < 32 by omega) hbit, en_ops, en_opc, iI_add, iI_mul, iI_sub, jL_add, jL_mul, iI_le, iI_lt, iI_eq, iI_eq0, iI_lt0, iI_0le, iI_le0, iI_0lt, jL_iI, iI_jL, lc_eq, lc_lt, lc_le, lc_ge, lc_gt, Nat.sub_zero, Nat.zero_le, true_and, and_true, Nat.reduceAdd, Nat.reduceLeDiff]
        refine ⟨fun e => by omega, fun _ => ⟨fun _ => ?_, fun e => absurd e (by decide)⟩⟩
        apply s_X6_richest_40
        simp (disch := omega) only [B_X6_richest_40, en_ops, en_opc, iI_add, iI_mul, iI_sub, jL_add, jL_mul, iI_le, iI_lt, iI_eq, iI_eq0, iI_lt0, iI_0le, iI_le0, iI_0lt, jL_iI, iI_jL, lc_eq, lc_lt, lc_le, lc_ge, lc_gt, Nat.sub_zero, Nat.zero_le, true_and, and_true, Nat.reduceAdd, Nat.reduceLeDiff]
        rw [if_neg (fun g9 => by rw [hbit] at g9; exact absurd g9.1 (by decide))] at ih2
        exact ⟨fun _ => ih2 _, fun e => absurd rfl e⟩
def loKP (nc : Nat) (g : Nat → Int) (bits : Nat) : Int := if sumTo nc g = 0 then 0 else 1000 * bsP bits nc g / sumTo nc g
theorem t_partIn {z bits : Nat} (ha : isSh a) (hR : shR a hr) (hh : shH a nc nz f hi) (hB : fB nc nz f) (hz : z < nz)
    (H : K (.inl (some (.int (iI (loKP nc (fun c => aP f c z) bits))))) hi hl hr) : en_Call G (d + 3) xc xs Y_X6_partIn wN wN [.ref a, .int (iI (bits : Int)), .int (iI (z : Int))] hi hl hr K := by
  obtain ⟨s0, s1, s2, s3, s4, s5, s6, s7, s8, s9, s10, s11⟩ := ha.sh
  obtain ⟨r1, r2, r3, r4, r5, r6, r7⟩ := id hR
  obtain ⟨h0, h1, b0, b1, h2⟩ := id hh
  have q1 : a + 1 < 134 := by omega
  have q2 : a + 2 < 134 := by omega
  have q3 : a + 3 < 134 := by omega
  have q4 : a + 4 < 134 := by omega
  have q5 : a + 5 < 134 := by omega
  have q6 : a + 6 < 134 := by omega
  have q7 : a + 7 < 134 := by omega
  have ar : ∀ c, c < 12 → 0 ≤ aP f c z ∧ aP f c z ≤ 10000000 := fun c hc => ⟨aP_nn hB c z, Int.le_trans (aP_le hB b1 hc z) (wP_le hB b1 hc)⟩
  have sr : ∀ c, c ≤ nc → 0 ≤ sumTo c (fun c => aP f c z) ∧ sumTo c (fun c => aP f c z) ≤ 120000000 := fun c hc => by
    have := sumTo_bd (n := c) (g := fun c => aP f c z) (b := 10000000) (fun i hi9 => ar i (by omega))
    omega
  have br : ∀ c, c ≤ nc → 0 ≤ bsP bits c (fun c => aP f c z) ∧ bsP bits c (fun c => aP f c z) ≤ 120000000 := fun c hc => by
    have := sumTo_bd (n := c) (g := fun c => if bits.testBit c = true then aP f c z else 0) (b := 10000000) (fun i hi9 => by have := ar i (by omega); show 0 ≤ (if bits.testBit i = true then aP f i z else 0) ∧ (if bits.testBit i = true then aP f i z else 0) ≤ 10000000; split <;> omega)
    show 0 ≤ sumTo c (fun c => if bits.testBit c = true then aP f c z else 0) ∧ sumTo c (fun c => if bits.testBit c = true then aP f c z else 0) ≤ 120000000
    omega
  apply en_X6_partIn
  simp (disch := omega) only [B_X6_partIn_0, en_ops, en_opc, iI_add, iI_mul, iI_sub, jL_add, jL_mul, iI_le, iI_lt, iI_eq, iI_eq0, iI_lt0, iI_0le, iI_le0, iI_0lt, jL_iI, iI_jL, lc_eq, lc_lt, lc_le, lc_ge, lc_gt, Nat.sub_zero, Nat.zero_le, true_and, and_true, Nat.reduceAdd, Nat.reduceLeDiff]
  suffices L : ∀ c : Nat, c ≤ nc → ∀ x8, en_V G Y_X6_partIn (d + 3) wN wN K 8 [.ref a, .int (iI (bits : Int)), .int (iI (z : Int)), .long (jL (bsP bits c (fun c => aP f c z))), jk, .long (jL (sumTo c (fun c => aP f c z))), jk, .int (iI (c : Int)), x8] [] hi hl hr xc xs from L 0 (by omega) _
  refine lp nc (fun x8 => ?_) (fun c hc ih x8 => ?_)
  · have s9 := sr nc (Nat.le_refl _)
    have b9 := br nc (Nat.le_refl _)
    apply s_X6_partIn_8
    simp (disch := omega) only [B_X6_partIn_8, s0, s1, h0, en_ops, en_opc, iI_add, iI_mul, iI_sub, jL_add, jL_mul, iI_le, iI_lt, iI_eq, iI_eq0, iI_lt0, iI_0le, iI_le0, iI_0lt, jL_iI, iI_jL, lc_eq, lc_lt, lc_le, lc_ge, lc_gt, Nat.sub_zero, Nat.zero_le, true_and, and_true, Nat.reduceAdd, Nat.reduceLeDiff]
    refine ⟨fun _ => ⟨fun e => ?_, fun e => ?_⟩, fun e => absurd (Int.le_refl _) e⟩
    · have hO : loKP nc (fun c => aP f c z) bits = 1000 * bsP bits nc (fun c => aP f c z) / sumTo nc (fun c => aP f c z) := if_neg (by omega)
      rw [hO] at H
      refine ⟨by rw [jL_eq0 (by omega) (by omega)]; omega, ?_⟩
      rw [jL_div (by omega) (by omega) (by omega) (by omega)]
      simp (disch := omega) only [en_ops, en_opc, iI_add, iI_mul, iI_sub, jL_add, jL_mul, iI_le, iI_lt, iI_eq, iI_eq0, iI_lt0, iI_0le, iI_le0, iI_0lt, jL_iI, iI_jL, lc_eq, lc_lt, lc_le, lc_ge, lc_gt, Nat.sub_zero, Nat.zero_le, true_and, and_true, Nat.reduceAdd, Nat.reduceLeDiff]
      exact H
    · have hO : loKP nc (fun c => aP f c z) bits = 0 := if_pos (by omega)
      rw [hO] at H
      exact H
  · have eb : bsP bits (c + 1) (fun c => aP f c z) = bsP bits c (fun c => aP f c z) + (if bits.testBit c = true then aP f c z else 0) := by unfold bsP; rw [sumTo_s]
    rw [sumTo_s, eb] at ih
    have a1 := ar c (by omega)
    apply s_X6_partIn_8
    cases hbit : bits.testBit c
    · rw [hbit, if_neg (by decide)] at ih
      simp (disch := omega) only [B_X6_partIn_8, s0, s1, h0, en_ops, en_opc, iI_add, iI_mul, iI_sub, jL_add, jL_mul, iI_le, iI_lt, iI_eq, iI_eq0, iI_lt0, iI_0le, iI_le0, iI_0lt, jL_iI, iI_jL, lc_eq, lc_lt, lc_le, lc_ge, lc_gt, Nat.sub_zero, Nat.zero_le, true_and, and_true, Nat.reduceAdd, Nat.reduceLeDiff]
      refine ⟨fun e => by omega, fun _ => t_inCell (d := d) ha hR hh (by omega) (by omega) (by omega) ?_⟩
      rw [inP_a hz]
      simp (disch := omega) only [sh_0 (show c < 32 by omega) hbit, en_ops, en_opc, iI_add, iI_mul, iI_sub, jL_add, jL_mul, iI_le, iI_lt, iI_eq, iI_eq0, iI_lt0, iI_0le, iI_le0, iI_0lt, jL_iI, iI_jL, lc_eq, lc_lt, lc_le, lc_ge, lc_gt, Nat.sub_zero, Nat.zero_le, true_and, and_true, Nat.reduceAdd, Nat.reduceLeDiff]
      exact ⟨fun _ => ih _, fun e => absurd (show ¬ (0 : Int) = 1 by decide) e⟩
    · rw [hbit, if_pos rfl] at ih
      simp (disch := omega) only [B_X6_partIn_8, s0, s1, h0, en_ops, en_opc, iI_add, iI_mul, iI_sub, jL_add, jL_mul, iI_le, iI_lt, iI_eq, iI_eq0, iI_lt0, iI_0le, iI_le0, iI_0lt, jL_iI, iI_jL, lc_eq, lc_lt, lc_le, lc_ge, lc_gt, Nat.sub_zero, Nat.zero_le, true_and, and_true, Nat.reduceAdd, Nat.reduceLeDiff]
      refine ⟨fun e => by omega, fun _ => t_inCell (d := d) ha hR hh (by omega) (by omega) (by omega) ?_⟩
      rw [inP_a hz]
      simp (disch := omega) only [sh_1 (show c < 32 by omega) hbit, en_ops, en_opc, iI_add, iI_mul, iI_sub, jL_add, jL_mul, iI_le, iI_lt, iI_eq, iI_eq0, iI_lt0, iI_0le, iI_le0, iI_0lt, jL_iI, iI_jL, lc_eq, lc_lt, lc_le, lc_ge, lc_gt, Nat.sub_zero, Nat.zero_le, true_and, and_true, Nat.reduceAdd, Nat.reduceLeDiff]
      exact ⟨fun e => absurd rfl e, fun _ => ih _⟩
theorem t_yadd {y n : Nat} {Y : hYr} {w : Int × Int × Int} {t : Nat} (hy : isYe y) (hyR : yeR y hr) (hY : yeH y n Y hi) (hn : n < 20) (hw : wOK w) (ht : 1 ≤ t ∧ t ≤ 9)
    (H : ∀ hi', Fr (fun x => y ≤ x ∧ x ≤ y + 4) hi hi' → yeH y (n + 1) (fun i => if i = n then (w, t) else Y i) hi' → K (.inl none) hi' hl hr) : en_Call G (d + 1) xc xs Y_X9_add wN wN [.ref y, .int (iI w.1), .int (iI w.2.1), .int (iI w.2.2), .int (iI (t : Int))] hi hl hr K := by
  obtain ⟨l0, l1, l2, l3, l4, l5, l6⟩ := hy.sh
  obtain ⟨k0, k1, k2, k3⟩ := hyR
  obtain ⟨h0, h1, h2⟩ := hY
  have q0 : y < 134 := by omega
  have q1 : y + 1 < 134 := by omega
  have q2 : y + 2 < 134 := by omega
  have q3 : y + 3 < 134 := by omega
  have q4 : y + 4 < 134 := by omega
  apply en_X9_add
  simp (disch := omega) only [B_X9_add_0, k0, k1, k2, k3, l0, l1, l2, l3, l4, q0, q1, q2, q3, q4, h0, up_row, en_ops, en_opc, iI_add, iI_mul, iI_sub, jL_add, jL_mul, iI_le, iI_lt, iI_eq, iI_eq0, iI_lt0, iI_0le, iI_le0, iI_0lt, jL_iI, iI_jL, lc_eq, lc_lt, lc_le, lc_ge, lc_gt, Nat.sub_zero, Nat.zero_le, true_and, and_true, Nat.reduceAdd, Nat.reduceLeDiff]
  refine ⟨fun e => by omega, fun _ => ⟨n, rfl, by omega, n, rfl, by omega, n, rfl, by omega, n, rfl, by omega, ?_⟩⟩
  refine H _ (Fr.up (Fr.up (Fr.up (Fr.up (Fr.up Fr.rf ⟨by omega, by omega⟩) ⟨by omega, by omega⟩) ⟨by omega, by omega⟩) ⟨by omega, by omega⟩) ⟨by omega, by omega⟩) ⟨?_, by omega, fun i hi9 => ?_⟩
  · rw [up_at]; exact iI_eq_of (by omega)
  · by_cases e : i = n
    · subst e
      simp (disch := omega) only [up_ne, up_row, up_at]
      simp only [if_true]
      exact ⟨trivial, trivial, trivial, trivial, hw, ht⟩
    · have := h2 i (by omega)
      simp (disch := omega) only [up_ne, up_row, if_neg e]
      exact this
end
-- DRAFT 64
/-! the whole state, as the calls see it -/
abbrev zSh : Type := hSt × Nat × (Nat → Nat × Nat) × (Nat → Nat → Int)
abbrev zW : Type := hEnv × (Nat × (Nat → Nat → (Nat → Int) → Int)) × (Nat × (Nat → Nat × hYr)) × zSh × (Nat × (Nat → zSh)) × (Nat × (Nat → Nat)) × Int × (Nat → Int)
abbrev zE (W : zW) : hEnv := W.1
abbrev zNl (W : zW) : Nat := W.2.1.1
abbrev zVs (W : zW) : Nat → Nat → (Nat → Int) → Int := W.2.1.2
abbrev zNy (W : zW) : Nat := W.2.2.1.1
abbrev zYs (W : zW) : Nat → Nat × hYr := W.2.2.1.2
abbrev zS (W : zW) : zSh := W.2.2.2.1
abbrev zNi (W : zW) : Nat := W.2.2.2.2.1.1
abbrev zIm (W : zW) : Nat → zSh := W.2.2.2.2.1.2
abbrev zNt (W : zW) : Nat := W.2.2.2.2.2.1.1
abbrev zTp (W : zW) : Nat → Nat := W.2.2.2.2.2.1.2
abbrev zFa (W : zW) : Int := W.2.2.2.2.2.2.1
abbrev zRf (W : zW) : Nat → Int := W.2.2.2.2.2.2.2
/-- a refusal counted -/
def zRef (W : zW) (k : Nat) : zW := (W.1, W.2.1, W.2.2.1, W.2.2.2.1, W.2.2.2.2.1, W.2.2.2.2.2.1, W.2.2.2.2.2.2.1, fun j => if j = k then zRf W j + 1 else zRf W j)
/-- another shore -/
def zPut (W : zW) (s : zSh) : zW := (W.1, W.2.1, W.2.2.1, s, W.2.2.2.2)
/-- what holds of a shore after n calls -/
def xOK (n : Nat) (E : hEnv) (s : zSh) : Prop :=
  fB E.2.1 E.2.2.1 s.1.1 ∧ tot s.1.1 ≤ 600000 + 999 * n + 7992 * s.1.2.2.2.2.2 ∧ (E.2.1 ≠ 0 → ∀ c, c < 12 → 1 ≤ s.1.2.1 c ∧ s.1.2.1 c ≤ 60) ∧ (0 ≤ s.1.2.2.2.2.2 ∧ s.1.2.2.2.2.2 ≤ 600) ∧
  (s.2.1 ≤ 4 ∧ ∀ i, i < s.2.1 → (s.2.2.1 i).1 < 6 ∧ (s.2.2.1 i).2 < 3) ∧ (∀ c z, c < 12 → z < 6 → -1 ≤ s.2.2.2 c z ∧ s.2.2.2 c z ≤ 999999) ∧ (E.2.1 ≠ 0 → ∀ c z, c < 24 → z < 8 → E.2.1 ≤ c ∨ E.2.2.1 ≤ z → s.2.2.2 c z = -1)
def zOK (n : Nat) (W : zW) : Prop :=
  (zNt W ≤ 600 ∧ ∀ j, j < zNt W → zTp W j < 256) ∧ zNl W ≤ 4 ∧ zNy W ≤ 4 ∧ zNi W ≤ 3 ∧ lwB (zNl W) (zVs W) ∧ (∀ y, y < zNy W → 1 ≤ (zYs W y).1) ∧ exOK (zE W) ∧ loOK (zE W).2.1 (zE W).2.2.2.2.2.2.2 (zE W).2.2.2.2.2.2.1 ∧ ((zE W).2.1 ≤ 12 ∧ (zE W).2.2.1 ≤ 6) ∧ xOK n (zE W) (zS W) ∧ ∀ i, i < zNi W → xOK n (zE W) (zIm W i)
theorem xOK.mono {n m : Nat} {E : hEnv} {s : zSh} (h : xOK n E s) (hnm : n ≤ m) : xOK m E s := by
  obtain ⟨h1, h2, h3⟩ := h
  exact ⟨h1, by omega, h3⟩
theorem zOK.mono {n m : Nat} {W : zW} (h : zOK n W) (hnm : n ≤ m) : zOK m W := by
  obtain ⟨h1, h2, h3, h4, h5, h6, h7, h8, h9, h10, h11⟩ := h
  exact ⟨h1, h2, h3, h4, h5, h6, h7, h8, h9, h10.mono hnm, fun i hi => (h11 i hi).mono hnm⟩
theorem zOK.ref {n k : Nat} {W : zW} (h : zOK n W) : zOK (n + 1) (zRef W k) := h.mono (Nat.le_succ n)
theorem zOK.put {n : Nat} {W : zW} {s : zSh} (h : zOK n W) (hs : xOK (n + 1) (zE W) s) : zOK (n + 1) (zPut W s) := by
  obtain ⟨h1, h2, h3, h4, h5, h6, h7, h8, h9, h10, h11⟩ := h.mono (Nat.le_succ n)
  exact ⟨h1, h2, h3, h4, h5, h6, h7, h8, h9, hs, h11⟩
theorem xOK.h {n : Nat} {E : hEnv} {s : zSh} (h : xOK n E s) (hn : n ≤ 512) (h0 : E.2.1 ≠ 0) : hOK E s.1 := by
  obtain ⟨h1, h2, h3, h4, -⟩ := h
  exact ⟨h1, by omega, fun c hc => ⟨(h3 h0 c hc).1, by have := (h3 h0 c hc).2; omega⟩, h4.1, h4.2⟩
/-- a shore of the class -/
def xcH (a : Nat) (E : hEnv) (s : zSh) (hi : en_I) : Prop := hsH a E s.1 hi ∧ hi a 8 = iI (s.2.1 : Int) ∧ (∀ i, i < s.2.1 → hi (a + 6) i = iI ((3 * (s.2.2.1 i).1 + (s.2.2.1 i).2 : Nat) : Int)) ∧ ∀ c z, c < 12 → z < 6 → hi (a + 5) (c * 6 + z) = iI (s.2.2.2 c z)
/-- a row of the reference -/
def xrH (s : zSh) (F : Nat → Int32) : Prop := rsH s.1 (fun _ => F) ∧ F 630 = iI (s.2.1 : Int) ∧ (∀ i, i < s.2.1 → F (631 + 2 * i) = iI ((s.2.2.1 i).1 : Int) ∧ F (632 + 2 * i) = iI ((s.2.2.1 i).2 : Int)) ∧ ∀ c z, c < 24 → z < 8 → F (641 + 8 * c + z) = iI (s.2.2.2 c z)
def sbB (t : Nat) : Int := if t < 128 then t else (t : Int) - 256
/-- the class's references -/
def cR (pl : Nat) (hr : en_F) : Prop :=
  (hr 0 0 = .ref 1 ∧ hr 0 3 = .ref pl ∧ hr 0 4 = .ref (10 - pl) ∧ hr 0 5 = .ref 14 ∧ hr 0 7 = .ref 15 ∧ hr 0 9 = .ref 16 ∧ hr 0 10 = .ref 24 ∧ hr 0 12 = .ref 25 ∧ hr 0 13 = .ref 26 ∧ hr 0 14 = .ref 28 ∧ hr 0 15 = .ref 29 ∧ hr 0 16 = .ref 34 ∧ hr 0 17 = .ref 38 ∧ hr 0 18 = .ref 48) ∧
  sxS pl hr ∧ plR 2 hr ∧ plR 8 hr ∧ trR hr ∧ (∀ i, i < 3 → shR (86 + 8 * i) hr ∧ hr 24 i = .ref (86 + 8 * i)) ∧ lwX hr ∧ (∀ i, i < 4 → yeR (66 + 5 * i) hr ∧ hr 15 i = .ref (66 + 5 * i)) ∧ hr 28 0 = .ref 26 ∧ hr 29 0 = .ref 26 ∧ hr 48 0 = .ref 49
/-- the class's numbers -/
def cIn (G : en_G) (W : zW) (pl : Nat) (hi : en_I) : Prop :=
  (hi 0 1 = iI (zNt W : Int) ∧ ∀ j, j < zNt W → hi 1 j = iI (sbB (zTp W j))) ∧ hi 0 2 = iI (zFa W) ∧ hi 0 6 = iI (zNl W : Int) ∧ hi 0 8 = iI (zNy W : Int) ∧ hi 0 11 = iI (zNi W : Int) ∧ (∀ k, k < 4 → hi 25 k = iI (zRf W k)) ∧ lwA G (zNl W) (zVs W) hi ∧ (∀ y, y < zNy W → yeH (66 + 5 * y) (zYs W y).1 (zYs W y).2 hi) ∧ sxH pl (zE W) hi ∧ xcH 16 (zE W) (zS W) hi ∧ ∀ i, i < zNi W → xcH (86 + 8 * i) (zE W) (zIm W i) hi
def InvC (G : en_G) (W : zW) (hi : en_I) (hr : en_F) : Prop := ∃ pl, cR pl hr ∧ cIn G W pl hi
/-- the reference's numbers -/
def rIn (G : en_G) (W : zW) (hi : en_I) : Prop :=
  (hi 110 2 = iI (zNt W : Int) ∧ ∀ j, j < zNt W → hi 112 j = iI (zTp W j : Int)) ∧ hi 110 8 = iI (zFa W) ∧ hi 110 17 = iI (zNl W : Int) ∧ hi 110 18 = iI (zNy W : Int) ∧ hi 110 16 = iI (zNi W : Int) ∧ (∀ k, k < 4 → hi 111 k = iI (zRf W k)) ∧ (∀ l, l < zNl W → rwV G l (zVs W l) hi) ∧ (∀ y, y < zNy W → ryH y (zYs W y).1 (zYs W y).2 hi) ∧ (∃ b, rfB b hi ∧ rbE (zE W) b) ∧ xrH (zS W) (hi 115) ∧ ∀ i, i < zNi W → xrH (zIm W i) (fun j => hi 118 (834 * i + j))
def InvR (G : en_G) (W : zW) (hi : en_I) (hr : en_F) : Prop := rfR hr ∧ rIn G W hi
def Fc {α : Type} (h h' : Nat → Nat → α) : Prop := ∀ x, 110 ≤ x → h' x = h x
def Fm {α : Type} (h h' : Nat → Nat → α) : Prop := ∀ x, (x < 110 ∨ 133 ≤ x) → h' x = h x
theorem Fc.rf {α : Type} {h : Nat → Nat → α} : Fc h h := fun _ _ => rfl
theorem Fm.rf {α : Type} {h : Nat → Nat → α} : Fm h h := fun _ _ => rfl
theorem Fc.of {P : Nat → Prop} {hi hi' : en_I} (F : Fr P hi hi') (hP : ∀ x, P x → x < 110) : Fc hi hi' := fun x hx => F x (fun g => by have := hP x g; omega)
theorem Fm.of {P : Nat → Prop} {hi hi' : en_I} (F : Fr P hi hi') (hP : ∀ x, P x → 110 ≤ x ∧ x < 133) : Fm hi hi' := fun x hx => F x (fun g => by have := hP x g; omega)
theorem Fc.tr {α : Type} {a b c : Nat → Nat → α} (x : Fc a b) (y : Fc b c) : Fc a c := fun i hi => (y i hi).trans (x i hi)
theorem Fm.tr {α : Type} {a b c : Nat → Nat → α} (x : Fm a b) (y : Fm b c) : Fm a c := fun i hi => (y i hi).trans (x i hi)
def exN : Nat → String
  | 0 => "java/lang/IndexOutOfBoundsException"
  | 1 => "java/util/NoSuchElementException"
  | 2 => "java/lang/IllegalArgumentException"
  | _ => "java/lang/IllegalStateException"
/-- the end of a call of the class: r = 0: it answers v and the state is W'; else the refusal of kind r - 1 -/
def cEnd (G : en_G) (W W' : zW) (r : Nat) (v : Value) (K : en_K) (hi : en_I) (hl : en_L) (hr : en_F) : Prop :=
  (r = 0 → ∀ hi' hl' hr', InvC G W' hi' hr' → Fc hi hi' → Fc hl hl' → Fc hr hr' → K (.inl (some v)) hi' hl' hr') ∧
  ∀ k, k < 4 → r = k + 1 → ∀ hi' hl' hr', InvC G (zRef W k) hi' hr' → Fc hi hi' → Fc hl hl' → Fc hr hr' → K (.inr (exN k)) hi' hl' hr'
/-- the end of a call of the reference: code is what it then holds as thrown -/
def rEnd (G : en_G) (W W' : zW) (r code : Nat) (v0 v : Value) (K : en_K) (hi : en_I) (hl : en_L) (hr : en_F) : Prop :=
  (r = 0 → ∀ hi', InvR G W' hi' hr → Fm hi hi' → hi' 110 0 = iI 0 → K (.inl (some v)) hi' hl hr) ∧
  ∀ k, k < 4 → r = k + 1 → ∀ hi', InvR G (zRef W k) hi' hr → Fm hi hi' → hi' 110 0 = iI (code : Int) → K (.inl (some v0)) hi' hl hr
section
variable {G : en_G} {d : Nat} {K : en_K} {W : zW} {n : Nat} {hi : en_I} {hl : en_L} {hr : en_F} {xc xs : Nat}
theorem xcH.frP {a : Nat} {E : hEnv} {s : zSh} {P : Nat → Prop} {hi' : en_I} (h : xcH a E s hi) (F : Fr P hi hi') (hP : ∀ x, a ≤ x → x ≤ a + 7 → ¬ P x) : xcH a E s hi' := by
  obtain ⟨h1, h2, h3, h4⟩ := h
  have ee : ∀ x, a ≤ x → x ≤ a + 7 → hi' x = hi x := fun x g1 g2 => F x (hP x g1 g2)
  exact ⟨h1.frP F hP, by rw [ee a (by omega) (by omega)]; exact h2, fun i hi9 => by rw [ee (a + 6) (by omega) (by omega)]; exact h3 i hi9, fun c z hc hz => by rw [ee (a + 5) (by omega) (by omega)]; exact h4 c z hc hz⟩
theorem sxH.frP {pl : Nat} {E : hEnv} {P : Nat → Prop} {hi' : en_I} (h : sxH pl E hi) (hpl : isPl pl) (F : Fr P hi hi') (hP : ∀ x, P x → 14 ≤ x ∧ x ≠ 37) : sxH pl E hi' := by
  have p14 := hpl.sh.2.2.2.2.2.2.1
  have ee : ∀ x, x < 14 ∨ x = 37 → hi' x = hi x := fun x hx => F x (fun g => by have := hP x g; omega)
  obtain ⟨⟨z0, z1, z2⟩, ⟨v0, v1, v2⟩, x3⟩ := h
  exact ⟨⟨by rw [ee pl (by omega)]; exact z0, z1, fun i hi9 => by rw [ee (pl + 4) (by omega)]; exact z2 i hi9⟩, ⟨by rw [ee pl (by omega)]; exact v0, v1, fun i hi9 => by rw [ee (pl + 5) (by omega)]; exact v2 i hi9⟩, fun c z k hc hz hk => by rw [ee 37 (by omega)]; exact x3 c z k hc hz hk⟩
/-- what a question of the class may touch -/
def Pq (x : Nat) : Prop := 34 ≤ x ∧ x ≤ 49
theorem cIn.q {pl : Nat} {P : Nat → Prop} {hi' : en_I} (h : cIn G W pl hi) (hz : zOK n W) (hpl : isPl pl) (F : Fr P hi hi') (hP : ∀ x, P x → 34 ≤ x ∧ x ≤ 49) (hsx : sxH pl (zE W) hi') : cIn G W pl hi' := by
  obtain ⟨⟨a1, a2⟩, a3, a4, a5, a6, a7, a8, a9, a10, a11, a12⟩ := h
  obtain ⟨-, z2, z3, z4, -⟩ := hz
  have ee : ∀ x, x < 34 ∨ 49 < x → hi' x = hi x := fun x hx => F x (fun g => by have := hP x g; omega)
  exact ⟨⟨by rw [ee 0 (by omega)]; exact a1, fun j hj => by rw [ee 1 (by omega)]; exact a2 j hj⟩, by rw [ee 0 (by omega)]; exact a3, by rw [ee 0 (by omega)]; exact a4, by rw [ee 0 (by omega)]; exact a5, by rw [ee 0 (by omega)]; exact a6, fun k hk => by rw [ee 25 (by omega)]; exact a7 k hk, a8.mono z2 F (fun x g => by have := hP x g; omega), fun y hy => (a9 y hy).fr (by unfold isYe; omega) F (fun x g1 g2 g => by have := hP x g; omega), hsx, a11.frP F (fun x g1 g2 g => by have := hP x g; omega), fun i hi9 => (a12 i hi9).frP F (fun x g1 g2 g => by have := hP x g; omega)⟩
theorem cIn.rfu {pl k : Nat} (h : cIn G W pl hi) (hz : zOK n W) (hpl : isPl pl) (hk : k < 4) : cIn G (zRef W k) pl (en_up hi 25 k (iI (zRf W k + 1))) := by
  have F : Fr (· = 25) hi (en_up hi 25 k (iI (zRf W k + 1))) := Fr.up Fr.rf (by rfl)
  obtain ⟨⟨a1, a2⟩, a3, a4, a5, a6, a7, a8, a9, a10, a11, a12⟩ := h
  obtain ⟨-, z2, z3, z4, -⟩ := hz
  have ee : ∀ x, x ≠ 25 → en_up hi 25 k (iI (zRf W k + 1)) x = hi x := fun x hx => F x hx
  refine ⟨⟨by rw [ee 0 (by omega)]; exact a1, fun j hj => by rw [ee 1 (by omega)]; exact a2 j hj⟩, by rw [ee 0 (by omega)]; exact a3, by rw [ee 0 (by omega)]; exact a4, by rw [ee 0 (by omega)]; exact a5, by rw [ee 0 (by omega)]; exact a6, fun j hj => ?_, a8.mono z2 F (fun x g => by omega), fun y hy => (a9 y hy).fr (by have h9 : y < zNy W := hy; unfold isYe; omega) F (fun x g1 g2 g => by omega), a10.frP hpl F (fun x g => by omega), a11.frP F (fun x g1 g2 g => by omega), fun i hi9 => (a12 i hi9).frP F (fun x g1 g2 g => by omega)⟩
  show _ = iI (if j = k then zRf W j + 1 else zRf W j)
  by_cases e : j = k
  · subst e; rw [up_at, if_pos rfl]
  · rw [up_ne (Or.inr e), if_neg e]; exact a7 j hj
theorem InvC.rfu {k : Nat} (h : InvC G W hi hr) (hz : zOK n W) (hk : k < 4) : InvC G (zRef W k) (en_up hi 25 k (iI (zRf W k + 1))) hr := by
  obtain ⟨pl, h1, h2⟩ := h
  exact ⟨pl, h1, h2.rfu hz h1.2.1.2.2.1 hk⟩
theorem sh0 : en_SH 0 = (10, 19) := by decide
theorem lt0 : 0 < 134 := by decide
theorem sh25 : en_SH 25 = (100, 4) := by decide
theorem lt25 : 25 < 134 := by decide
theorem sh16 : en_SH 16 = (6, 12) := by decide
theorem lt16 : 16 < 134 := by decide
theorem c_needRight {b : Int} (hI : InvC G W hi hr) (hz : zOK n W) (h1 : 1 ≤ xc) (h6 : 6 ≤ xs) (hb : b = 0 ∨ b = 1) (H1 : b = 1 → K (.inl none) hi hl hr) (H0 : b = 0 → ∀ hi', InvC G (zRef W 2) hi' hr → Fc hi hi' → K (.inr "java/lang/IllegalArgumentException") hi' hl hr) : en_Call G (d + 1) xc xs Y_X10_needRight wN wN [.ref 0, .int (iI b)] hi hl hr K := by
  obtain ⟨pl, hR, hN⟩ := id hI
  have r12 := hR.1.2.2.2.2.2.2.2.1
  have a7 := hN.2.2.2.2.2.1 2 (by omega)
  apply en_X10_needRight
  simp (disch := omega) only [B_X10_needRight_0, r12, sh0, lt0, sh25, lt25, en_ops, en_opc, iI_add, iI_mul, iI_sub, jL_add, jL_mul, iI_le, iI_lt, iI_eq, iI_eq0, iI_lt0, iI_0le, iI_le0, iI_0lt, jL_iI, iI_jL, lc_eq, lc_lt, lc_le, lc_ge, lc_gt, Nat.sub_zero, Nat.zero_le, true_and, and_true, Nat.reduceAdd, Nat.reduceLeDiff]
  refine ⟨fun e => H1 (by omega), fun e => ⟨2, rfl, by decide, 2, rfl, by decide, ?_⟩⟩
  rw [a7]
  simp (disch := omega) only [en_ops, en_opc, iI_add, iI_mul, iI_sub, jL_add, jL_mul, iI_le, iI_lt, iI_eq, iI_eq0, iI_lt0, iI_0le, iI_le0, iI_0lt, jL_iI, iI_jL, lc_eq, lc_lt, lc_le, lc_ge, lc_gt, Nat.sub_zero, Nat.zero_le, true_and, and_true, Nat.reduceAdd, Nat.reduceLeDiff]
  exact And.intro ⟨h1, h6⟩ (H0 (by omega) _ (hI.rfu hz (by omega)) (Fc.of (Fr.up Fr.rf (P := (· = 25)) (by rfl)) (fun x g => by omega)))
theorem c_needPlace {b : Int} (hI : InvC G W hi hr) (hz : zOK n W) (h1 : 1 ≤ xc) (h6 : 6 ≤ xs) (hb : b = 0 ∨ b = 1) (H1 : b = 1 → K (.inl none) hi hl hr) (H0 : b = 0 → ∀ hi', InvC G (zRef W 0) hi' hr → Fc hi hi' → K (.inr "java/lang/IndexOutOfBoundsException") hi' hl hr) : en_Call G (d + 1) xc xs Y_X10_needPlace wN wN [.ref 0, .int (iI b)] hi hl hr K := by
  obtain ⟨pl, hR, hN⟩ := id hI
  have r12 := hR.1.2.2.2.2.2.2.2.1
  have a7 := hN.2.2.2.2.2.1 0 (by omega)
  apply en_X10_needPlace
  simp (disch := omega) only [B_X10_needPlace_0, r12, sh0, lt0, sh25, lt25, en_ops, en_opc, iI_add, iI_mul, iI_sub, jL_add, jL_mul, iI_le, iI_lt, iI_eq, iI_eq0, iI_lt0, iI_0le, iI_le0, iI_0lt, jL_iI, iI_jL, lc_eq, lc_lt, lc_le, lc_ge, lc_gt, Nat.sub_zero, Nat.zero_le, true_and, and_true, Nat.reduceAdd, Nat.reduceLeDiff]
  refine ⟨fun e => H1 (by omega), fun e => ⟨0, rfl, by decide, 0, rfl, by decide, ?_⟩⟩
  rw [a7]
  simp (disch := omega) only [en_ops, en_opc, iI_add, iI_mul, iI_sub, jL_add, jL_mul, iI_le, iI_lt, iI_eq, iI_eq0, iI_lt0, iI_0le, iI_le0, iI_0lt, jL_iI, iI_jL, lc_eq, lc_lt, lc_le, lc_ge, lc_gt, Nat.sub_zero, Nat.zero_le, true_and, and_true, Nat.reduceAdd, Nat.reduceLeDiff]
  exact And.intro ⟨h1, h6⟩ (H0 (by omega) _ (hI.rfu hz (by omega)) (Fc.of (Fr.up Fr.rf (P := (· = 25)) (by rfl)) (fun x g => by omega)))
theorem c_needHours (hI : InvC G W hi hr) (hz : zOK n W) (h1 : 1 ≤ xc) (h6 : 6 ≤ xs) (H1 : ((zE W).2.1 ≠ 0 ∧ (zS W).1.2.2.2.2.2 < 600) → K (.inl none) hi hl hr) (H0 : ¬ ((zE W).2.1 ≠ 0 ∧ (zS W).1.2.2.2.2.2 < 600) → ∀ hi', InvC G (zRef W 3) hi' hr → Fc hi hi' → K (.inr "java/lang/IllegalStateException") hi' hl hr) : en_Call G (d + 1) xc xs Y_X10_needHours wN wN [.ref 0] hi hl hr K := by
  obtain ⟨pl, hR, hN⟩ := id hI
  have r12 := hR.1.2.2.2.2.2.2.2.1
  have r9 := hR.1.2.2.2.2.2.1
  have a7 := hN.2.2.2.2.2.1 3 (by omega)
  have x16 := hN.2.2.2.2.2.2.2.2.2.1
  have e0 : hi 16 0 = iI ((zE W).2.1 : Int) := x16.1.1.1
  have e11 : hi 16 11 = iI (zS W).1.2.2.2.2.2 := x16.1.2.2.2.2.2.2
  have nc12 := hz.2.2.2.2.2.2.2.2.1.1
  have hh := hz.2.2.2.2.2.2.2.2.2.1.2.2.2.1
  have no : ¬ ((zE W).2.1 ≠ 0 ∧ (zS W).1.2.2.2.2.2 < 600) → K (.inr "java/lang/IllegalStateException") (en_up hi 25 3 (iI (zRf W 3 + 1))) hl hr := fun e => H0 e _ (hI.rfu hz (by omega)) (Fc.of (Fr.up Fr.rf (P := (· = 25)) (by rfl)) (fun x g => by omega))
  apply en_X10_needHours
  simp (disch := omega) only [B_X10_needHours_0, r12, r9, sh0, lt0, sh25, lt25, sh16, lt16, e0, e11, en_ops, en_opc, iI_add, iI_mul, iI_sub, jL_add, jL_mul, iI_le, iI_lt, iI_eq, iI_eq0, iI_lt0, iI_0le, iI_le0, iI_0lt, jL_iI, iI_jL, lc_eq, lc_lt, lc_le, lc_ge, lc_gt, Nat.sub_zero, Nat.zero_le, true_and, and_true, Nat.reduceAdd, Nat.reduceLeDiff]
  refine ⟨fun e => ⟨3, rfl, by decide, 3, rfl, by decide, ?_⟩, fun e => ⟨fun e2 => H1 (by omega), fun e2 => ⟨3, rfl, by decide, 3, rfl, by decide, ?_⟩⟩⟩
  · rw [a7]
    simp (disch := omega) only [en_ops, en_opc, iI_add, iI_mul, iI_sub, jL_add, jL_mul, iI_le, iI_lt, iI_eq, iI_eq0, iI_lt0, iI_0le, iI_le0, iI_0lt, jL_iI, iI_jL, lc_eq, lc_lt, lc_le, lc_ge, lc_gt, Nat.sub_zero, Nat.zero_le, true_and, and_true, Nat.reduceAdd, Nat.reduceLeDiff]
    exact And.intro ⟨h1, h6⟩ (no (by omega))
  · rw [a7]
    simp (disch := omega) only [en_ops, en_opc, iI_add, iI_mul, iI_sub, jL_add, jL_mul, iI_le, iI_lt, iI_eq, iI_eq0, iI_lt0, iI_0le, iI_le0, iI_0lt, jL_iI, iI_jL, lc_eq, lc_lt, lc_le, lc_ge, lc_gt, Nat.sub_zero, Nat.zero_le, true_and, and_true, Nat.reduceAdd, Nat.reduceLeDiff]
    exact And.intro ⟨h1, h6⟩ (no (by omega))
theorem c_needLaw {z : Int} (hI : InvC G W hi hr) (hz : zOK n W) (h1 : 1 ≤ xc) (h6 : 6 ≤ xs) (hr1 : iRg z) (H1 : (0 ≤ z ∧ z < zNl W) → K (.inl none) hi hl hr) (H0 : ¬ (0 ≤ z ∧ z < zNl W) → ∀ hi', InvC G (zRef W 1) hi' hr → Fc hi hi' → K (.inr "java/util/NoSuchElementException") hi' hl hr) : en_Call G (d + 1) xc xs Y_X10_needLaw wN wN [.ref 0, .int (iI z)] hi hl hr K := by
  obtain ⟨pl, hR, hN⟩ := id hI
  have r12 := hR.1.2.2.2.2.2.2.2.1
  have a4 := hN.2.2.1
  have a7 := hN.2.2.2.2.2.1 1 (by omega)
  have n4 := hz.2.1
  obtain ⟨q1, q2⟩ := hr1
  have no : ¬ (0 ≤ z ∧ z < zNl W) → K (.inr "java/util/NoSuchElementException") (en_up hi 25 1 (iI (zRf W 1 + 1))) hl hr := fun e => H0 e _ (hI.rfu hz (by omega)) (Fc.of (Fr.up Fr.rf (P := (· = 25)) (by rfl)) (fun x g => by omega))
  apply en_X10_needLaw
  simp (disch := omega) only [B_X10_needLaw_0, r12, sh0, lt0, sh25, lt25, a4, en_ops, en_opc, iI_add, iI_mul, iI_sub, jL_add, jL_mul, iI_le, iI_lt, iI_eq, iI_eq0, iI_lt0, iI_0le, iI_le0, iI_0lt, jL_iI, iI_jL, lc_eq, lc_lt, lc_le, lc_ge, lc_gt, Nat.sub_zero, Nat.zero_le, true_and, and_true, Nat.reduceAdd, Nat.reduceLeDiff]
  refine ⟨fun e => ⟨1, rfl, by decide, 1, rfl, by decide, ?_⟩, fun e => ⟨fun e2 => H1 (by omega), fun e2 => ⟨1, rfl, by decide, 1, rfl, by decide, ?_⟩⟩⟩
  · rw [a7]
    simp (disch := omega) only [en_ops, en_opc, iI_add, iI_mul, iI_sub, jL_add, jL_mul, iI_le, iI_lt, iI_eq, iI_eq0, iI_lt0, iI_0le, iI_le0, iI_0lt, jL_iI, iI_jL, lc_eq, lc_lt, lc_le, lc_ge, lc_gt, Nat.sub_zero, Nat.zero_le, true_and, and_true, Nat.reduceAdd, Nat.reduceLeDiff]
    exact And.intro ⟨h1, h6⟩ (no (by omega))
  · rw [a7]
    simp (disch := omega) only [en_ops, en_opc, iI_add, iI_mul, iI_sub, jL_add, jL_mul, iI_le, iI_lt, iI_eq, iI_eq0, iI_lt0, iI_0le, iI_le0, iI_0lt, jL_iI, iI_jL, lc_eq, lc_lt, lc_le, lc_ge, lc_gt, Nat.sub_zero, Nat.zero_le, true_and, and_true, Nat.reduceAdd, Nat.reduceLeDiff]
    exact And.intro ⟨h1, h6⟩ (no (by omega))
theorem c_needYear {z : Int} (hI : InvC G W hi hr) (hz : zOK n W) (h1 : 1 ≤ xc) (h6 : 6 ≤ xs) (hr1 : iRg z) (H1 : (0 ≤ z ∧ z < zNy W) → K (.inl none) hi hl hr) (H0 : ¬ (0 ≤ z ∧ z < zNy W) → ∀ hi', InvC G (zRef W 1) hi' hr → Fc hi hi' → K (.inr "java/util/NoSuchElementException") hi' hl hr) : en_Call G (d + 1) xc xs Y_X10_needYear wN wN [.ref 0, .int (iI z)] hi hl hr K := by
  obtain ⟨pl, hR, hN⟩ := id hI
  have r12 := hR.1.2.2.2.2.2.2.2.1
  have a4 := hN.2.2.2.1
  have a7 := hN.2.2.2.2.2.1 1 (by omega)
  have n4 := hz.2.2.1
  obtain ⟨q1, q2⟩ := hr1
  have no : ¬ (0 ≤ z ∧ z < zNy W) → K (.inr "java/util/NoSuchElementException") (en_up hi 25 1 (iI (zRf W 1 + 1))) hl hr := fun e => H0 e _ (hI.rfu hz (by omega)) (Fc.of (Fr.up Fr.rf (P := (· = 25)) (by rfl)) (fun x g => by omega))
  apply en_X10_needYear
  simp (disch := omega) only [B_X10_needYear_0, r12, sh0, lt0, sh25, lt25, a4, en_ops, en_opc, iI_add, iI_mul, iI_sub, jL_add, jL_mul, iI_le, iI_lt, iI_eq, iI_eq0, iI_lt0, iI_0le, iI_le0, iI_0lt, jL_iI, iI_jL, lc_eq, lc_lt, lc_le, lc_ge, lc_gt, Nat.sub_zero, Nat.zero_le, true_and, and_true, Nat.reduceAdd, Nat.reduceLeDiff]
  refine ⟨fun e => ⟨1, rfl, by decide, 1, rfl, by decide, ?_⟩, fun e => ⟨fun e2 => H1 (by omega), fun e2 => ⟨1, rfl, by decide, 1, rfl, by decide, ?_⟩⟩⟩
  · rw [a7]
    simp (disch := omega) only [en_ops, en_opc, iI_add, iI_mul, iI_sub, jL_add, jL_mul, iI_le, iI_lt, iI_eq, iI_eq0, iI_lt0, iI_0le, iI_le0, iI_0lt, jL_iI, iI_jL, lc_eq, lc_lt, lc_le, lc_ge, lc_gt, Nat.sub_zero, Nat.zero_le, true_and, and_true, Nat.reduceAdd, Nat.reduceLeDiff]
    exact And.intro ⟨h1, h6⟩ (no (by omega))
  · rw [a7]
    simp (disch := omega) only [en_ops, en_opc, iI_add, iI_mul, iI_sub, jL_add, jL_mul, iI_le, iI_lt, iI_eq, iI_eq0, iI_lt0, iI_0le, iI_le0, iI_0lt, jL_iI, iI_jL, lc_eq, lc_lt, lc_le, lc_ge, lc_gt, Nat.sub_zero, Nat.zero_le, true_and, and_true, Nat.reduceAdd, Nat.reduceLeDiff]
    exact And.intro ⟨h1, h6⟩ (no (by omega))
theorem c_isWithin {v lo h : Int} (a1 : iRg v) (a2 : iRg lo) (a3 : iRg h) (H : K (.inl (some (.int (iI (if lo ≤ v ∧ v ≤ h then 1 else 0))))) hi hl hr) : en_Call G (d + 1) xc xs Y_X10_isWithin wN wN [.int (iI v), .int (iI lo), .int (iI h)] hi hl hr K := by
  obtain ⟨a11, a12⟩ := a1
  obtain ⟨a21, a22⟩ := a2
  obtain ⟨a31, a32⟩ := a3
  apply en_X10_isWithin
  simp (disch := omega) only [B_X10_isWithin_0, en_ops, en_opc, iI_add, iI_mul, iI_sub, jL_add, jL_mul, iI_le, iI_lt, iI_eq, iI_eq0, iI_lt0, iI_0le, iI_le0, iI_0lt, jL_iI, iI_jL, lc_eq, lc_lt, lc_le, lc_ge, lc_gt, Nat.sub_zero, Nat.zero_le, true_and, and_true, Nat.reduceAdd, Nat.reduceLeDiff]
  refine ⟨fun e => ⟨rfl, ?_⟩, fun e => ⟨fun e2 => ⟨rfl, ?_⟩, fun e2 => ⟨rfl, ?_⟩⟩⟩
  · rw [if_neg (by omega)] at H; exact H
  · rw [if_neg (by omega)] at H; exact H
  · rw [if_pos (by omega)] at H; exact H
theorem c_isCell {c : Int} (hI : InvC G W hi hr) (hz : zOK n W) (hc : iRg c) (H : K (.inl (some (.int (iI (if 0 ≤ c ∧ c < (zE W).2.1 then 1 else 0))))) hi hl hr) : en_Call G (d + 1) xc xs Y_X10_isCell wN wN [.ref 0, .int (iI c)] hi hl hr K := by
  obtain ⟨pl, hR, hN⟩ := id hI
  have r9 := hR.1.2.2.2.2.2.1
  have x16 := hN.2.2.2.2.2.2.2.2.2.1
  have e0 : hi 16 0 = iI ((zE W).2.1 : Int) := x16.1.1.1
  have nc12 := hz.2.2.2.2.2.2.2.2.1.1
  obtain ⟨c1, c2⟩ := hc
  apply en_X10_isCell
  simp (disch := omega) only [B_X10_isCell_0, r9, sh0, lt0, sh16, lt16, e0, en_ops, en_opc, iI_add, iI_mul, iI_sub, jL_add, jL_mul, iI_le, iI_lt, iI_eq, iI_eq0, iI_lt0, iI_0le, iI_le0, iI_0lt, jL_iI, iI_jL, lc_eq, lc_lt, lc_le, lc_ge, lc_gt, Nat.sub_zero, Nat.zero_le, true_and, and_true, Nat.reduceAdd, Nat.reduceLeDiff]
  refine ⟨fun e => ⟨rfl, ?_⟩, fun e => ⟨fun e2 => ⟨rfl, ?_⟩, fun e2 => ⟨rfl, ?_⟩⟩⟩
  · rw [if_neg (by omega)] at H; exact H
  · rw [if_neg (by omega)] at H; exact H
  · rw [if_pos (by omega)] at H; exact H
theorem c_isSize {c : Int} (hI : InvC G W hi hr) (hz : zOK n W) (hc : iRg c) (H : K (.inl (some (.int (iI (if 0 ≤ c ∧ c < (zE W).2.2.1 then 1 else 0))))) hi hl hr) : en_Call G (d + 1) xc xs Y_X10_isSize wN wN [.ref 0, .int (iI c)] hi hl hr K := by
  obtain ⟨pl, hR, hN⟩ := id hI
  have r9 := hR.1.2.2.2.2.2.1
  have x16 := hN.2.2.2.2.2.2.2.2.2.1
  have e0 : hi 16 1 = iI ((zE W).2.2.1 : Int) := x16.1.1.2.1
  have nz6 := hz.2.2.2.2.2.2.2.2.1.2
  obtain ⟨c1, c2⟩ := hc
  apply en_X10_isSize
  simp (disch := omega) only [B_X10_isSize_0, r9, sh0, lt0, sh16, lt16, e0, en_ops, en_opc, iI_add, iI_mul, iI_sub, jL_add, jL_mul, iI_le, iI_lt, iI_eq, iI_eq0, iI_lt0, iI_0le, iI_le0, iI_0lt, jL_iI, iI_jL, lc_eq, lc_lt, lc_le, lc_ge, lc_gt, Nat.sub_zero, Nat.zero_le, true_and, and_true, Nat.reduceAdd, Nat.reduceLeDiff]
  refine ⟨fun e => ⟨rfl, ?_⟩, fun e => ⟨fun e2 => ⟨rfl, ?_⟩, fun e2 => ⟨rfl, ?_⟩⟩⟩
  · rw [if_neg (by omega)] at H; exact H
  · rw [if_neg (by omega)] at H; exact H
  · rw [if_pos (by omega)] at H; exact H
theorem c_isStuff {c : Int} (hc : iRg c) (H : K (.inl (some (.int (iI (if 0 ≤ c ∧ c < 3 then 1 else 0))))) hi hl hr) : en_Call G (d + 1) xc xs Y_X10_isStuff wN wN [.int (iI c)] hi hl hr K := by
  obtain ⟨c1, c2⟩ := hc
  apply en_X10_isStuff
  simp (disch := omega) only [B_X10_isStuff_0, en_ops, en_opc, iI_add, iI_mul, iI_sub, jL_add, jL_mul, iI_le, iI_lt, iI_eq, iI_eq0, iI_lt0, iI_0le, iI_le0, iI_0lt, jL_iI, iI_jL, lc_eq, lc_lt, lc_le, lc_ge, lc_gt, Nat.sub_zero, Nat.zero_le, true_and, and_true, Nat.reduceAdd, Nat.reduceLeDiff]
  refine ⟨fun e => ⟨rfl, ?_⟩, fun e => ⟨fun e2 => ⟨rfl, ?_⟩, fun e2 => ⟨rfl, ?_⟩⟩⟩
  · rw [if_neg (by omega)] at H; exact H
  · rw [if_neg (by omega)] at H; exact H
  · rw [if_pos (by omega)] at H; exact H
def wvB (h b f : Int) : Prop := (1 ≤ h ∧ h ≤ 30) ∧ (1 ≤ b ∧ b ≤ 20) ∧ 0 ≤ f ∧ f ≤ 1
theorem c_isWave {x y z : Int} (hx : iRg x) (hy : iRg y) (hz : iRg z) (H : ∀ r : Int, (r = 1 ∧ wvB x y z ∨ r = 0 ∧ ¬ wvB x y z) → K (.inl (some (.int (iI r)))) hi hl hr) : en_Call G (d + 2) xc xs Y_X10_isWave wN wN [.int (iI x), .int (iI y), .int (iI z)] hi hl hr K := by
  unfold wvB at H
  apply en_X10_isWave
  simp (disch := omega) only [B_X10_isWave_0, en_ops, en_opc, iI_add, iI_mul, iI_sub, jL_add, jL_mul, iI_le, iI_lt, iI_eq, iI_eq0, iI_lt0, iI_0le, iI_le0, iI_0lt, jL_iI, iI_jL, lc_eq, lc_lt, lc_le, lc_ge, lc_gt, Nat.sub_zero, Nat.zero_le, true_and, and_true, Nat.reduceAdd, Nat.reduceLeDiff]
  refine c_isWithin hx (by unfold iRg; omega) (by unfold iRg; omega) ?_
  by_cases e1 : (1 : Int) ≤ x ∧ x ≤ 30
  · rw [if_pos e1]
    simp (disch := omega) only [en_ops, en_opc, iI_add, iI_mul, iI_sub, jL_add, jL_mul, iI_le, iI_lt, iI_eq, iI_eq0, iI_lt0, iI_0le, iI_le0, iI_0lt, jL_iI, iI_jL, lc_eq, lc_lt, lc_le, lc_ge, lc_gt, Nat.sub_zero, Nat.zero_le, true_and, and_true, Nat.reduceAdd, Nat.reduceLeDiff]
    refine ⟨fun e => absurd e (by decide), fun _ => c_isWithin hy (by unfold iRg; omega) (by unfold iRg; omega) ?_⟩
    by_cases e2 : (1 : Int) ≤ y ∧ y ≤ 20
    · rw [if_pos e2]
      simp (disch := omega) only [en_ops, en_opc, iI_add, iI_mul, iI_sub, jL_add, jL_mul, iI_le, iI_lt, iI_eq, iI_eq0, iI_lt0, iI_0le, iI_le0, iI_0lt, jL_iI, iI_jL, lc_eq, lc_lt, lc_le, lc_ge, lc_gt, Nat.sub_zero, Nat.zero_le, true_and, and_true, Nat.reduceAdd, Nat.reduceLeDiff]
      refine ⟨fun e => absurd e (by decide), fun _ => c_isWithin hz (by unfold iRg; omega) (by unfold iRg; omega) ?_⟩
      by_cases e3 : (0 : Int) ≤ z ∧ z ≤ 1
      · rw [if_pos e3]
        simp (disch := omega) only [en_ops, en_opc, iI_add, iI_mul, iI_sub, jL_add, jL_mul, iI_le, iI_lt, iI_eq, iI_eq0, iI_lt0, iI_0le, iI_le0, iI_0lt, jL_iI, iI_jL, lc_eq, lc_lt, lc_le, lc_ge, lc_gt, Nat.sub_zero, Nat.zero_le, true_and, and_true, Nat.reduceAdd, Nat.reduceLeDiff]
        exact ⟨fun e => absurd e (by decide), fun _ => ⟨rfl, H 1 (Or.inl ⟨rfl, e1, e2, e3⟩)⟩⟩
      · rw [if_neg e3]
        simp (disch := omega) only [en_ops, en_opc, iI_add, iI_mul, iI_sub, jL_add, jL_mul, iI_le, iI_lt, iI_eq, iI_eq0, iI_lt0, iI_0le, iI_le0, iI_0lt, jL_iI, iI_jL, lc_eq, lc_lt, lc_le, lc_ge, lc_gt, Nat.sub_zero, Nat.zero_le, true_and, and_true, Nat.reduceAdd, Nat.reduceLeDiff]
        exact ⟨fun _ => ⟨rfl, H 0 (Or.inr ⟨rfl, fun g => e3 g.2.2⟩)⟩, fun e => (e (by first | trivial | rfl)).elim⟩
    · rw [if_neg e2]
      simp (disch := omega) only [en_ops, en_opc, iI_add, iI_mul, iI_sub, jL_add, jL_mul, iI_le, iI_lt, iI_eq, iI_eq0, iI_lt0, iI_0le, iI_le0, iI_0lt, jL_iI, iI_jL, lc_eq, lc_lt, lc_le, lc_ge, lc_gt, Nat.sub_zero, Nat.zero_le, true_and, and_true, Nat.reduceAdd, Nat.reduceLeDiff]
      exact ⟨fun _ => ⟨rfl, H 0 (Or.inr ⟨rfl, fun g => e2 g.2.1⟩)⟩, fun e => (e (by first | trivial | rfl)).elim⟩
  · rw [if_neg e1]
    simp (disch := omega) only [en_ops, en_opc, iI_add, iI_mul, iI_sub, jL_add, jL_mul, iI_le, iI_lt, iI_eq, iI_eq0, iI_lt0, iI_0le, iI_le0, iI_0lt, jL_iI, iI_jL, lc_eq, lc_lt, lc_le, lc_ge, lc_gt, Nat.sub_zero, Nat.zero_le, true_and, and_true, Nat.reduceAdd, Nat.reduceLeDiff]
    exact ⟨fun _ => ⟨rfl, H 0 (Or.inr ⟨rfl, fun g => e1 g.1⟩)⟩, fun e => (e (by first | trivial | rfl)).elim⟩
end
-- DRAFT 65
section
variable {G : en_G} {d : Nat} {K : en_K} {W : zW} {n : Nat} {hi : en_I} {hl : en_L} {hr : en_F} {xc xs : Nat}
/-- the rows of the reference that its state is made of -/
def Prs (x : Nat) : Prop := x = 111 ∨ x = 112 ∨ x = 113 ∨ x = 115 ∨ (118 ≤ x ∧ x ≤ 122) ∨ (125 ≤ x ∧ x ≤ 129)
theorem rwE.of {l : Nat} {hi' : en_I} (h : ∀ x, 119 ≤ x → x ≤ 122 → hi' x = hi x) : rwE l hi hi' := ⟨fun j _ _ => by rw [h 119 (by omega) (by omega), h 120 (by omega) (by omega)]; exact ⟨rfl, rfl⟩, fun w _ => by rw [h 121 (by omega) (by omega), h 122 (by omega) (by omega)]; exact ⟨rfl, rfl⟩⟩
theorem rIn.q {hi' : en_I} (h : rIn G W hi) (F : ∀ x, Prs x → hi' x = hi x) (F0 : ∀ j, j = 2 ∨ 8 ≤ j → hi' 110 j = hi 110 j) : rIn G W hi' := by
  obtain ⟨⟨a1, a2⟩, a3, a4, a5, a6, a7, a8, a9, ⟨b, a10, a11⟩, a12, a13⟩ := h
  have e : ∀ x, Prs x → hi' x = hi x := F
  refine ⟨⟨by rw [F0 2 (by omega)]; exact a1, fun j hj => by rw [e 112 (by unfold Prs; omega)]; exact a2 j hj⟩, by rw [F0 8 (by omega)]; exact a3, by rw [F0 17 (by omega)]; exact a4, by rw [F0 18 (by omega)]; exact a5, by rw [F0 16 (by omega)]; exact a6, fun k hk => by rw [e 111 (by unfold Prs; omega)]; exact a7 k hk, fun l hl => (a8 l hl).mono (rwE.of (fun x g1 g2 => e x (by unfold Prs; omega))), fun y hy => ?_, ⟨b, fun j hj => by rw [e 113 (by unfold Prs; omega)]; exact a10 j hj, a11⟩, by rw [e 115 (by unfold Prs; omega)]; exact a12, fun i hi9 => by rw [e 118 (by unfold Prs; omega)]; exact a13 i hi9⟩
  obtain ⟨y1, y2, y3⟩ := a9 y hy
  refine ⟨by rw [e 125 (by unfold Prs; omega)]; exact y1, y2, fun i hi9 => ?_⟩
  rw [e 126 (by unfold Prs; omega), e 127 (by unfold Prs; omega), e 128 (by unfold Prs; omega), e 129 (by unfold Prs; omega)]
  exact y3 i hi9
theorem lt111 : 111 < 134 := by decide
theorem InvR.t0 {v : Int32} (h : InvR G W hi hr) : InvR G W (en_up hi 110 0 v) hr := ⟨h.1, h.2.q (fun x g => up_row (fun e => by subst e; unfold Prs at g; omega)) (fun j g => up_ne (Or.inr (by omega)))⟩
theorem InvR.rfu {k : Nat} {v : Int32} (h : InvR G W hi hr) (hk : k < 4) : InvR G (zRef W k) (en_up (en_up hi 110 0 v) 111 k (iI (zRf W k + 1))) hr := by
  obtain ⟨hR, ⟨a1, a2⟩, a3, a4, a5, a6, a7, a8, a9, ⟨b, a10, a11⟩, a12, a13⟩ := h
  have F : Fr (fun x => x = 110 ∨ x = 111) hi (en_up (en_up hi 110 0 v) 111 k (iI (zRf W k + 1))) := Fr.up (Fr.up Fr.rf (Or.inl rfl)) (Or.inr rfl)
  have e : ∀ x, x ≠ 110 → x ≠ 111 → en_up (en_up hi 110 0 v) 111 k (iI (zRf W k + 1)) x = hi x := fun x g1 g2 => F x (fun g => by rcases g with g | g <;> omega)
  have e0 : ∀ j, j ≠ 0 → en_up (en_up hi 110 0 v) 111 k (iI (zRf W k + 1)) 110 j = hi 110 j := fun j hj => by rw [up_ne (Or.inl (by omega)), up_ne (Or.inr hj)]
  refine ⟨hR, ⟨by rw [e0 2 (by omega)]; exact a1, fun j hj => by rw [e 112 (by omega) (by omega)]; exact a2 j hj⟩, by rw [e0 8 (by omega)]; exact a3, by rw [e0 17 (by omega)]; exact a4, by rw [e0 18 (by omega)]; exact a5, by rw [e0 16 (by omega)]; exact a6, fun j hj => ?_, fun l hl => (a8 l hl).mono (rwE.of (fun x g1 g2 => e x (by omega) (by omega))), fun y hy => (a9 y hy).fr F (fun x g1 g2 g => by rcases g with g | g <;> omega), ⟨b, a10.fr F (fun g => by rcases g with g | g <;> omega), a11⟩, by rw [e 115 (by omega) (by omega)]; exact a12, fun i hi9 => by rw [e 118 (by omega) (by omega)]; exact a13 i hi9⟩
  show _ = iI (if j = k then zRf W j + 1 else zRf W j)
  by_cases g : j = k
  · subst g; rw [up_at, if_pos rfl]
  · rw [up_ne (Or.inr g), up_ne (Or.inl (by omega)), if_neg g]; exact a7 j hj
theorem m_may {b : Int} {code k : Nat} (hI : InvR G W hi hr) (h0 : hi 110 0 = iI 0) (hb : b = 0 ∨ b = 1) (hc : 1 ≤ code ∧ code ≤ 4) (hk : k < 4) (H1 : b = 1 → K (.inl (some (.int (iI 1)))) hi hl hr) (H0 : b = 0 → ∀ hi', InvR G (zRef W k) hi' hr → Fm hi hi' → hi' 110 0 = iI (code : Int) → K (.inl (some (.int (iI 0)))) hi' hl hr) : en_Call G (d + 1) xc xs Y_X11_may wN wN [.ref 110, .int (iI b), .int (iI (code : Int)), .int (iI (k : Int))] hi hl hr K := by
  obtain ⟨hR, hN⟩ := id hI
  obtain ⟨⟨r1, -⟩, -⟩ := id hR
  have a7 := hN.2.2.2.2.2.1 k hk
  have r4 : (en_SH 111).1 = 100 := by decide
  have n1 : ¬ (iI (code : Int) = 0) := by rw [iI_eq0 (by omega) (by omega)]; omega
  apply en_X11_may
  simp (disch := omega) only [B_X11_may_0, r1, sh110, lt110, h0, sh111, lt111, en_ops, en_opc, iI_add, iI_mul, iI_sub, jL_add, jL_mul, iI_le, iI_lt, iI_eq, iI_eq0, iI_lt0, iI_0le, iI_le0, iI_0lt, jL_iI, iI_jL, lc_eq, lc_lt, lc_le, lc_ge, lc_gt, Nat.sub_zero, Nat.zero_le, true_and, and_true, Nat.reduceAdd, Nat.reduceLeDiff]
  refine ⟨fun e => ⟨fun e2 => absurd e2 (by decide), fun _ => ⟨rfl, H1 (by omega)⟩⟩, fun e => ⟨fun e2 => absurd e2 (by decide), fun _ => ?_⟩⟩
  refine ⟨k, rfl, hk, k, rfl, hk, ?_⟩
  rw [up_ne (Or.inl (by omega)), a7]
  simp (disch := omega) only [sh110, lt110, en_ops, en_opc, iI_add, iI_mul, iI_sub, jL_add, jL_mul, iI_le, iI_lt, iI_eq, iI_eq0, iI_lt0, iI_0le, iI_le0, iI_0lt, jL_iI, iI_jL, lc_eq, lc_lt, lc_le, lc_ge, lc_gt, Nat.sub_zero, Nat.zero_le, true_and, and_true, Nat.reduceAdd, Nat.reduceLeDiff]
  rw [up_ne (Or.inl (by omega)), up_at]
  refine ⟨fun _ => ⟨rfl, ?_⟩, fun e2 => absurd e2 n1⟩
  exact H0 (by omega) _ (hI.rfu hk) (fun x hx => by rw [up_row (by omega), up_row (by omega)]) (by rw [up_ne (Or.inl (by omega)), up_at])
theorem InvR.e (h : InvR G W hi hr) : ∃ b, rfB b hi ∧ rbE (zE W) b := h.2.2.2.2.2.2.2.2.2.1
theorem InvR.xr (h : InvR G W hi hr) : xrH (zS W) (hi 115) := h.2.2.2.2.2.2.2.2.2.2.1
theorem m_isCell {c : Int} {code : Nat} (hI : InvR G W hi hr) (hz : zOK n W) (h0 : hi 110 0 = iI 0) (hc : iRg c) (hcd : 1 ≤ code ∧ code ≤ 4) (H1 : (0 ≤ c ∧ c < (zE W).2.1) → K (.inl (some (.int (iI 1)))) hi hl hr) (H0 : ¬ (0 ≤ c ∧ c < (zE W).2.1) → ∀ hi', InvR G (zRef W 0) hi' hr → Fm hi hi' → hi' 110 0 = iI (code : Int) → K (.inl (some (.int (iI 0)))) hi' hl hr) : en_Call G (d + 2) xc xs Y_X11_isCell wN wN [.ref 110, .int (iI c), .int (iI (code : Int))] hi hl hr K := by
  obtain ⟨b, b1, b2, -⟩ := hI.e
  obtain ⟨hR, hN⟩ := id hI
  obtain ⟨⟨-, -, r10, -⟩, -⟩ := id hR
  have e0 : hi 113 0 = iI ((zE W).2.1 : Int) := by rw [b1 0 (by omega), b2.1]
  have nc12 := b2.2.2.1
  apply en_X11_isCell
  simp (disch := omega) only [B_X11_isCell_0, r10, sh110, lt110, sh113, lt113, en_ops, en_opc, iI_add, iI_mul, iI_sub, jL_add, jL_mul, iI_le, iI_lt, iI_eq, iI_eq0, iI_lt0, iI_0le, iI_le0, iI_0lt, jL_iI, iI_jL, lc_eq, lc_lt, lc_le, lc_ge, lc_gt, Nat.sub_zero, Nat.zero_le, true_and, and_true, Nat.reduceAdd, Nat.reduceLeDiff]
  refine ⟨0, rfl, by decide, ?_⟩
  rw [e0]
  simp (disch := omega) only [en_ops, en_opc, iI_add, iI_mul, iI_sub, jL_add, jL_mul, iI_le, iI_lt, iI_eq, iI_eq0, iI_lt0, iI_0le, iI_le0, iI_0lt, jL_iI, iI_jL, lc_eq, lc_lt, lc_le, lc_ge, lc_gt, Nat.sub_zero, Nat.zero_le, true_and, and_true, Nat.reduceAdd, Nat.reduceLeDiff]
  refine m_within hc.1 hc.2 (by decide) (by decide) (by omega) (by omega) ?_
  simp (disch := omega) only [sh110, lt110, en_ops, en_opc, iI_add, iI_mul, iI_sub, jL_add, jL_mul, iI_le, iI_lt, iI_eq, iI_eq0, iI_lt0, iI_0le, iI_le0, iI_0lt, jL_iI, iI_jL, lc_eq, lc_lt, lc_le, lc_ge, lc_gt, Nat.sub_zero, Nat.zero_le, true_and, and_true, Nat.reduceAdd, Nat.reduceLeDiff]
  by_cases e : 0 ≤ c ∧ c < (zE W).2.1
  · rw [if_pos (by omega)]
    refine m_may (d := d) (k := 0) hI h0 (Or.inr rfl) hcd (by omega) (fun _ => ?_) (fun e => absurd e (by decide))
    simp (disch := omega) only [en_ops, en_opc, iI_add, iI_mul, iI_sub, jL_add, jL_mul, iI_le, iI_lt, iI_eq, iI_eq0, iI_lt0, iI_0le, iI_le0, iI_0lt, jL_iI, iI_jL, lc_eq, lc_lt, lc_le, lc_ge, lc_gt, Nat.sub_zero, Nat.zero_le, true_and, and_true, Nat.reduceAdd, Nat.reduceLeDiff]
    exact ⟨rfl, H1 e⟩
  · rw [if_neg (by omega)]
    refine m_may (d := d) (k := 0) hI h0 (Or.inl rfl) hcd (by omega) (fun e => absurd e (by decide)) (fun _ hi' I' F' T' => ?_)
    simp (disch := omega) only [en_ops, en_opc, iI_add, iI_mul, iI_sub, jL_add, jL_mul, iI_le, iI_lt, iI_eq, iI_eq0, iI_lt0, iI_0le, iI_le0, iI_0lt, jL_iI, iI_jL, lc_eq, lc_lt, lc_le, lc_ge, lc_gt, Nat.sub_zero, Nat.zero_le, true_and, and_true, Nat.reduceAdd, Nat.reduceLeDiff]
    exact ⟨rfl, H0 e hi' I' F' T'⟩
theorem m_isLaw {c : Int} {code : Nat} (hI : InvR G W hi hr) (hz : zOK n W) (h0 : hi 110 0 = iI 0) (hc : iRg c) (hcd : 1 ≤ code ∧ code ≤ 4) (H1 : (0 ≤ c ∧ c < zNl W) → K (.inl (some (.int (iI 1)))) hi hl hr) (H0 : ¬ (0 ≤ c ∧ c < zNl W) → ∀ hi', InvR G (zRef W 1) hi' hr → Fm hi hi' → hi' 110 0 = iI (code : Int) → K (.inl (some (.int (iI 0)))) hi' hl hr) : en_Call G (d + 2) xc xs Y_X11_isLaw wN wN [.ref 110, .int (iI c), .int (iI (code : Int))] hi hl hr K := by
  have a4 := hI.2.2.2.1
  have n4 := hz.2.1
  apply en_X11_isLaw
  simp (disch := omega) only [B_X11_isLaw_0, sh110, lt110, a4, en_ops, en_opc, iI_add, iI_mul, iI_sub, jL_add, jL_mul, iI_le, iI_lt, iI_eq, iI_eq0, iI_lt0, iI_0le, iI_le0, iI_0lt, jL_iI, iI_jL, lc_eq, lc_lt, lc_le, lc_ge, lc_gt, Nat.sub_zero, Nat.zero_le, true_and, and_true, Nat.reduceAdd, Nat.reduceLeDiff]
  refine m_within hc.1 hc.2 (by decide) (by decide) (by omega) (by omega) ?_
  simp (disch := omega) only [sh110, lt110, en_ops, en_opc, iI_add, iI_mul, iI_sub, jL_add, jL_mul, iI_le, iI_lt, iI_eq, iI_eq0, iI_lt0, iI_0le, iI_le0, iI_0lt, jL_iI, iI_jL, lc_eq, lc_lt, lc_le, lc_ge, lc_gt, Nat.sub_zero, Nat.zero_le, true_and, and_true, Nat.reduceAdd, Nat.reduceLeDiff]
  by_cases e : 0 ≤ c ∧ c < zNl W
  · rw [if_pos (by omega)]
    refine m_may (d := d) (k := 1) hI h0 (Or.inr rfl) hcd (by omega) (fun _ => ?_) (fun e => absurd e (by decide))
    simp (disch := omega) only [en_ops, en_opc, iI_add, iI_mul, iI_sub, jL_add, jL_mul, iI_le, iI_lt, iI_eq, iI_eq0, iI_lt0, iI_0le, iI_le0, iI_0lt, jL_iI, iI_jL, lc_eq, lc_lt, lc_le, lc_ge, lc_gt, Nat.sub_zero, Nat.zero_le, true_and, and_true, Nat.reduceAdd, Nat.reduceLeDiff]
    exact ⟨rfl, H1 e⟩
  · rw [if_neg (by omega)]
    refine m_may (d := d) (k := 1) hI h0 (Or.inl rfl) hcd (by omega) (fun e => absurd e (by decide)) (fun _ hi' I' F' T' => ?_)
    simp (disch := omega) only [en_ops, en_opc, iI_add, iI_mul, iI_sub, jL_add, jL_mul, iI_le, iI_lt, iI_eq, iI_eq0, iI_lt0, iI_0le, iI_le0, iI_0lt, jL_iI, iI_jL, lc_eq, lc_lt, lc_le, lc_ge, lc_gt, Nat.sub_zero, Nat.zero_le, true_and, and_true, Nat.reduceAdd, Nat.reduceLeDiff]
    exact ⟨rfl, H0 e hi' I' F' T'⟩
theorem m_isYear {c : Int} {code : Nat} (hI : InvR G W hi hr) (hz : zOK n W) (h0 : hi 110 0 = iI 0) (hc : iRg c) (hcd : 1 ≤ code ∧ code ≤ 4) (H1 : (0 ≤ c ∧ c < zNy W) → K (.inl (some (.int (iI 1)))) hi hl hr) (H0 : ¬ (0 ≤ c ∧ c < zNy W) → ∀ hi', InvR G (zRef W 1) hi' hr → Fm hi hi' → hi' 110 0 = iI (code : Int) → K (.inl (some (.int (iI 0)))) hi' hl hr) : en_Call G (d + 2) xc xs Y_X11_isYear wN wN [.ref 110, .int (iI c), .int (iI (code : Int))] hi hl hr K := by
  have a4 := hI.2.2.2.2.1
  have n4 := hz.2.2.1
  apply en_X11_isYear
  simp (disch := omega) only [B_X11_isYear_0, sh110, lt110, a4, en_ops, en_opc, iI_add, iI_mul, iI_sub, jL_add, jL_mul, iI_le, iI_lt, iI_eq, iI_eq0, iI_lt0, iI_0le, iI_le0, iI_0lt, jL_iI, iI_jL, lc_eq, lc_lt, lc_le, lc_ge, lc_gt, Nat.sub_zero, Nat.zero_le, true_and, and_true, Nat.reduceAdd, Nat.reduceLeDiff]
  refine m_within hc.1 hc.2 (by decide) (by decide) (by omega) (by omega) ?_
  simp (disch := omega) only [sh110, lt110, en_ops, en_opc, iI_add, iI_mul, iI_sub, jL_add, jL_mul, iI_le, iI_lt, iI_eq, iI_eq0, iI_lt0, iI_0le, iI_le0, iI_0lt, jL_iI, iI_jL, lc_eq, lc_lt, lc_le, lc_ge, lc_gt, Nat.sub_zero, Nat.zero_le, true_and, and_true, Nat.reduceAdd, Nat.reduceLeDiff]
  by_cases e : 0 ≤ c ∧ c < zNy W
  · rw [if_pos (by omega)]
    refine m_may (d := d) (k := 1) hI h0 (Or.inr rfl) hcd (by omega) (fun _ => ?_) (fun e => absurd e (by decide))
    simp (disch := omega) only [en_ops, en_opc, iI_add, iI_mul, iI_sub, jL_add, jL_mul, iI_le, iI_lt, iI_eq, iI_eq0, iI_lt0, iI_0le, iI_le0, iI_0lt, jL_iI, iI_jL, lc_eq, lc_lt, lc_le, lc_ge, lc_gt, Nat.sub_zero, Nat.zero_le, true_and, and_true, Nat.reduceAdd, Nat.reduceLeDiff]
    exact ⟨rfl, H1 e⟩
  · rw [if_neg (by omega)]
    refine m_may (d := d) (k := 1) hI h0 (Or.inl rfl) hcd (by omega) (fun e => absurd e (by decide)) (fun _ hi' I' F' T' => ?_)
    simp (disch := omega) only [en_ops, en_opc, iI_add, iI_mul, iI_sub, jL_add, jL_mul, iI_le, iI_lt, iI_eq, iI_eq0, iI_lt0, iI_0le, iI_le0, iI_0lt, jL_iI, iI_jL, lc_eq, lc_lt, lc_le, lc_ge, lc_gt, Nat.sub_zero, Nat.zero_le, true_and, and_true, Nat.reduceAdd, Nat.reduceLeDiff]
    exact ⟨rfl, H0 e hi' I' F' T'⟩
theorem m_isSize {c : Int} (hI : InvR G W hi hr) (hc : iRg c) (H : K (.inl (some (.int (iI (if 0 ≤ c ∧ c < (zE W).2.2.1 then 1 else 0))))) hi hl hr) : en_Call G (d + 2) xc xs Y_X11_isSize wN wN [.ref 110, .int (iI c)] hi hl hr K := by
  obtain ⟨b, b1, b2, -⟩ := hI.e
  obtain ⟨⟨-, -, r10, -⟩, -⟩ := id hI.1
  have e0 : hi 113 1 = iI ((zE W).2.2.1 : Int) := by rw [b1 1 (by omega), b2.2.1]
  have nz6 := b2.2.2.2
  apply en_X11_isSize
  simp (disch := omega) only [B_X11_isSize_0, r10, sh110, lt110, sh113, lt113, en_ops, en_opc, iI_add, iI_mul, iI_sub, jL_add, jL_mul, iI_le, iI_lt, iI_eq, iI_eq0, iI_lt0, iI_0le, iI_le0, iI_0lt, jL_iI, iI_jL, lc_eq, lc_lt, lc_le, lc_ge, lc_gt, Nat.sub_zero, Nat.zero_le, true_and, and_true, Nat.reduceAdd, Nat.reduceLeDiff]
  refine ⟨1, rfl, by decide, ?_⟩
  rw [e0]
  simp (disch := omega) only [en_ops, en_opc, iI_add, iI_mul, iI_sub, jL_add, jL_mul, iI_le, iI_lt, iI_eq, iI_eq0, iI_lt0, iI_0le, iI_le0, iI_0lt, jL_iI, iI_jL, lc_eq, lc_lt, lc_le, lc_ge, lc_gt, Nat.sub_zero, Nat.zero_le, true_and, and_true, Nat.reduceAdd, Nat.reduceLeDiff]
  refine m_within hc.1 hc.2 (by decide) (by decide) (by omega) (by omega) ?_
  simp (disch := omega) only [en_ops, en_opc, iI_add, iI_mul, iI_sub, jL_add, jL_mul, iI_le, iI_lt, iI_eq, iI_eq0, iI_lt0, iI_0le, iI_le0, iI_0lt, jL_iI, iI_jL, lc_eq, lc_lt, lc_le, lc_ge, lc_gt, Nat.sub_zero, Nat.zero_le, true_and, and_true, Nat.reduceAdd, Nat.reduceLeDiff]
  by_cases e : 0 ≤ c ∧ c < (zE W).2.2.1
  · rw [if_pos e] at H
    rw [if_pos (by omega)]
    exact ⟨rfl, H⟩
  · rw [if_neg e] at H
    rw [if_neg (by omega)]
    exact ⟨rfl, H⟩
theorem m_isWave {x y z : Int} (hx : iRg x) (hy : iRg y) (hz : iRg z) (H : ∀ r : Int, (r = 1 ∧ wvB x y z ∨ r = 0 ∧ ¬ wvB x y z) → K (.inl (some (.int (iI r)))) hi hl hr) : en_Call G (d + 2) xc xs Y_X11_isWave wN wN [.int (iI x), .int (iI y), .int (iI z)] hi hl hr K := by
  unfold wvB at H
  apply en_X11_isWave
  simp (disch := omega) only [B_X11_isWave_0, en_ops, en_opc, iI_add, iI_mul, iI_sub, jL_add, jL_mul, iI_le, iI_lt, iI_eq, iI_eq0, iI_lt0, iI_0le, iI_le0, iI_0lt, jL_iI, iI_jL, lc_eq, lc_lt, lc_le, lc_ge, lc_gt, Nat.sub_zero, Nat.zero_le, true_and, and_true, Nat.reduceAdd, Nat.reduceLeDiff]
  refine m_within hx.1 hx.2 (by decide) (by decide) (by decide) (by decide) ?_
  by_cases e1 : (1 : Int) ≤ x ∧ x ≤ 30
  · rw [if_pos e1]
    simp (disch := omega) only [en_ops, en_opc, iI_add, iI_mul, iI_sub, jL_add, jL_mul, iI_le, iI_lt, iI_eq, iI_eq0, iI_lt0, iI_0le, iI_le0, iI_0lt, jL_iI, iI_jL, lc_eq, lc_lt, lc_le, lc_ge, lc_gt, Nat.sub_zero, Nat.zero_le, true_and, and_true, Nat.reduceAdd, Nat.reduceLeDiff]
    refine ⟨fun e => absurd e (by decide), fun _ => m_within hy.1 hy.2 (by decide) (by decide) (by decide) (by decide) ?_⟩
    by_cases e2 : (1 : Int) ≤ y ∧ y ≤ 20
    · rw [if_pos e2]
      simp (disch := omega) only [en_ops, en_opc, iI_add, iI_mul, iI_sub, jL_add, jL_mul, iI_le, iI_lt, iI_eq, iI_eq0, iI_lt0, iI_0le, iI_le0, iI_0lt, jL_iI, iI_jL, lc_eq, lc_lt, lc_le, lc_ge, lc_gt, Nat.sub_zero, Nat.zero_le, true_and, and_true, Nat.reduceAdd, Nat.reduceLeDiff]
      refine ⟨fun e => absurd e (by decide), fun _ => m_within hz.1 hz.2 (by decide) (by decide) (by decide) (by decide) ?_⟩
      by_cases e3 : (0 : Int) ≤ z ∧ z ≤ 1
      · rw [if_pos e3]
        simp (disch := omega) only [en_ops, en_opc, iI_add, iI_mul, iI_sub, jL_add, jL_mul, iI_le, iI_lt, iI_eq, iI_eq0, iI_lt0, iI_0le, iI_le0, iI_0lt, jL_iI, iI_jL, lc_eq, lc_lt, lc_le, lc_ge, lc_gt, Nat.sub_zero, Nat.zero_le, true_and, and_true, Nat.reduceAdd, Nat.reduceLeDiff]
        exact ⟨fun e => absurd e (by decide), fun _ => ⟨rfl, H 1 (Or.inl ⟨rfl, e1, e2, e3⟩)⟩⟩
      · rw [if_neg e3]
        simp (disch := omega) only [en_ops, en_opc, iI_add, iI_mul, iI_sub, jL_add, jL_mul, iI_le, iI_lt, iI_eq, iI_eq0, iI_lt0, iI_0le, iI_le0, iI_0lt, jL_iI, iI_jL, lc_eq, lc_lt, lc_le, lc_ge, lc_gt, Nat.sub_zero, Nat.zero_le, true_and, and_true, Nat.reduceAdd, Nat.reduceLeDiff]
        exact ⟨fun _ => ⟨rfl, H 0 (Or.inr ⟨rfl, fun g => e3 g.2.2⟩)⟩, fun e => (e (by first | trivial | rfl)).elim⟩
    · rw [if_neg e2]
      simp (disch := omega) only [en_ops, en_opc, iI_add, iI_mul, iI_sub, jL_add, jL_mul, iI_le, iI_lt, iI_eq, iI_eq0, iI_lt0, iI_0le, iI_le0, iI_0lt, jL_iI, iI_jL, lc_eq, lc_lt, lc_le, lc_ge, lc_gt, Nat.sub_zero, Nat.zero_le, true_and, and_true, Nat.reduceAdd, Nat.reduceLeDiff]
      exact ⟨fun _ => ⟨rfl, H 0 (Or.inr ⟨rfl, fun g => e2 g.2.1⟩)⟩, fun e => (e (by first | trivial | rfl)).elim⟩
  · rw [if_neg e1]
    simp (disch := omega) only [en_ops, en_opc, iI_add, iI_mul, iI_sub, jL_add, jL_mul, iI_le, iI_lt, iI_eq, iI_eq0, iI_lt0, iI_0le, iI_le0, iI_0lt, jL_iI, iI_jL, lc_eq, lc_lt, lc_le, lc_ge, lc_gt, Nat.sub_zero, Nat.zero_le, true_and, and_true, Nat.reduceAdd, Nat.reduceLeDiff]
    exact ⟨fun _ => ⟨rfl, H 0 (Or.inr ⟨rfl, fun g => e1 g.1⟩)⟩, fun e => (e (by first | trivial | rfl)).elim⟩
theorem m_isNow {code : Nat} (hI : InvR G W hi hr) (hz : zOK n W) (h0 : hi 110 0 = iI 0) (hcd : 1 ≤ code ∧ code ≤ 4) (H1 : ((zE W).2.1 ≠ 0 ∧ (zS W).1.2.2.2.2.2 < 600) → K (.inl (some (.int (iI 1)))) hi hl hr) (H0 : ¬ ((zE W).2.1 ≠ 0 ∧ (zS W).1.2.2.2.2.2 < 600) → ∀ hi', InvR G (zRef W 3) hi' hr → Fm hi hi' → hi' 110 0 = iI (code : Int) → K (.inl (some (.int (iI 0)))) hi' hl hr) : en_Call G (d + 2) xc xs Y_X11_isNow wN wN [.ref 110, .int (iI (code : Int))] hi hl hr K := by
  obtain ⟨b, b1, b2, -⟩ := hI.e
  obtain ⟨⟨-, -, r10, -, r12, -⟩, -⟩ := id hI.1
  have e0 : hi 113 0 = iI ((zE W).2.1 : Int) := by rw [b1 0 (by omega), b2.1]
  have nc12 := b2.2.2.1
  have e4 : hi 115 624 = iI (zS W).1.2.2.2.2.2 := hI.xr.1.2.2.2.2.2.1
  have hh := hz.2.2.2.2.2.2.2.2.2.1.2.2.2.1
  have no : ¬ ((zE W).2.1 ≠ 0 ∧ (zS W).1.2.2.2.2.2 < 600) → ∀ {k ls r uc us}, (∀ hi', InvR G (zRef W 3) hi' hr → Fm hi hi' → hi' 110 0 = iI (code : Int) → k ls (.int (iI 0) :: r) hi' hl hr uc us) → en_Call G (d + 1) 0 0 Y_X11_may wN wN [.ref 110, .int (iI 0), .int (iI (code : Int)), .int (iI 3)] hi hl hr (en_kk k x_no ls r uc us) := fun e {k ls r uc us} h => m_may (d := d) (k := 3) hI h0 (Or.inl rfl) hcd (by omega) (fun e => absurd e (by decide)) (fun _ hi' I' F' T' => h hi' I' F' T')
  apply en_X11_isNow
  simp (disch := omega) only [B_X11_isNow_0, r10, r12, sh110, lt110, sh113, lt113, sh115, lt115, en_ops, en_opc, iI_add, iI_mul, iI_sub, jL_add, jL_mul, iI_le, iI_lt, iI_eq, iI_eq0, iI_lt0, iI_0le, iI_le0, iI_0lt, jL_iI, iI_jL, lc_eq, lc_lt, lc_le, lc_ge, lc_gt, Nat.sub_zero, Nat.zero_le, true_and, and_true, Nat.reduceAdd, Nat.reduceLeDiff]
  refine ⟨0, rfl, by decide, ?_⟩
  rw [e0]
  simp (disch := omega) only [sh110, lt110, en_ops, en_opc, iI_add, iI_mul, iI_sub, jL_add, jL_mul, iI_le, iI_lt, iI_eq, iI_eq0, iI_lt0, iI_0le, iI_le0, iI_0lt, jL_iI, iI_jL, lc_eq, lc_lt, lc_le, lc_ge, lc_gt, Nat.sub_zero, Nat.zero_le, true_and, and_true, Nat.reduceAdd, Nat.reduceLeDiff]
  refine ⟨fun e => no (by omega) (fun hi' I' F' T' => ?_), fun e => ⟨624, rfl, by decide, ?_⟩⟩
  · simp (disch := omega) only [en_ops, en_opc, iI_add, iI_mul, iI_sub, jL_add, jL_mul, iI_le, iI_lt, iI_eq, iI_eq0, iI_lt0, iI_0le, iI_le0, iI_0lt, jL_iI, iI_jL, lc_eq, lc_lt, lc_le, lc_ge, lc_gt, Nat.sub_zero, Nat.zero_le, true_and, and_true, Nat.reduceAdd, Nat.reduceLeDiff]
    exact ⟨rfl, H0 (by omega) hi' I' F' T'⟩
  · rw [e4]
    simp (disch := omega) only [sh110, lt110, en_ops, en_opc, iI_add, iI_mul, iI_sub, jL_add, jL_mul, iI_le, iI_lt, iI_eq, iI_eq0, iI_lt0, iI_0le, iI_le0, iI_0lt, jL_iI, iI_jL, lc_eq, lc_lt, lc_le, lc_ge, lc_gt, Nat.sub_zero, Nat.zero_le, true_and, and_true, Nat.reduceAdd, Nat.reduceLeDiff]
    refine ⟨fun e2 => no (by omega) (fun hi' I' F' T' => ?_), fun e2 => m_may (d := d) (k := 3) hI h0 (Or.inr rfl) hcd (by omega) (fun _ => ?_) (fun e => absurd e (by decide))⟩
    · simp (disch := omega) only [en_ops, en_opc, iI_add, iI_mul, iI_sub, jL_add, jL_mul, iI_le, iI_lt, iI_eq, iI_eq0, iI_lt0, iI_0le, iI_le0, iI_0lt, jL_iI, iI_jL, lc_eq, lc_lt, lc_le, lc_ge, lc_gt, Nat.sub_zero, Nat.zero_le, true_and, and_true, Nat.reduceAdd, Nat.reduceLeDiff]
      exact ⟨rfl, H0 (by omega) hi' I' F' T'⟩
    · simp (disch := omega) only [en_ops, en_opc, iI_add, iI_mul, iI_sub, jL_add, jL_mul, iI_le, iI_lt, iI_eq, iI_eq0, iI_lt0, iI_0le, iI_le0, iI_0lt, jL_iI, iI_jL, lc_eq, lc_lt, lc_le, lc_ge, lc_gt, Nat.sub_zero, Nat.zero_le, true_and, and_true, Nat.reduceAdd, Nat.reduceLeDiff]
      exact ⟨rfl, H1 (by omega)⟩
end
-- DRAFT 66
section
variable {G : en_G} {d : Nat} {K : en_K} {nc nz : Nat} {b : Nat → Int} {f : Nat → Nat → Nat → Int} {hi : en_I} {hl : en_L} {hr : en_F} {xc xs : Nat}
theorem sh131 : en_SH 131 = (100, 24) := by decide
theorem lt131 : 131 < 134 := by decide
theorem sh117 : en_SH 117 = (100, 834) := by decide
theorem lt117 : 117 < 134 := by decide
theorem m_pairs {o : Int} (ho : o = 0 ∨ o = 1) (hR : rfR hr) (hs : rfH f hi) (hb : rfB b hi) (hn : rfN nc nz b) (hB : fB nc nz f)
    (H : ∀ hi', Fr (· = 131) hi hi' → K (.inl (some (.int (iI (prP f nc nz o))))) hi' hl hr) : en_Call G (d + 5) xc xs Y_X11_pairs wN wN [.ref 110, .int (iI o)] hi hl hr K := by
  obtain ⟨n0, n1, n12, n6⟩ := id hn
  obtain ⟨⟨-, -, r10, -, r12, -⟩, -, -, -, -, -, -, -, r32, -⟩ := id hR
  have hm := fun c => mnP_r (c := c) hB n6
  apply en_X11_pairs
  simp (disch := omega) only [B_X11_pairs_0, en_ops, en_opc, iI_add, iI_mul, iI_sub, jL_add, jL_mul, iI_le, iI_lt, iI_eq, iI_eq0, iI_lt0, iI_0le, iI_le0, iI_0lt, jL_iI, iI_jL, lc_eq, lc_lt, lc_le, lc_ge, lc_gt, Nat.sub_zero, Nat.zero_le, true_and, and_true, Nat.reduceAdd, Nat.reduceLeDiff]
  suffices L : ∀ c : Nat, c ≤ nc → ∀ h9 x4, Fr (· = 131) hi h9 → (∀ j, j < c → h9 131 j = iI (mnP f nz j)) → en_V G Y_X11_pairs (d + 5) wN wN K 4 [.ref 110, .int (iI o), .int (iI (sumTo c (fun c => sumTo c (prC f nz o c)))), .int (iI c), x4] [] h9 hl hr xc xs from L 0 (by omega) hi _ Fr.rf (fun j hj => by omega)
  refine lp nc (fun h9 x4 F9 M9 => ?_) (fun c hc ih h9 x4 F9 M9 => ?_)
  · have e0 : h9 113 0 = iI nc := by rw [F9 113 (by decide), hb 0 (by omega), n0]
    apply s_X11_pairs_4
    simp (disch := omega) only [B_X11_pairs_4, r10, sh110, lt110, sh113, lt113, en_ops, en_opc, iI_add, iI_mul, iI_sub, jL_add, jL_mul, iI_le, iI_lt, iI_eq, iI_eq0, iI_lt0, iI_0le, iI_le0, iI_0lt, jL_iI, iI_jL, lc_eq, lc_lt, lc_le, lc_ge, lc_gt, Nat.sub_zero, Nat.zero_le, true_and, and_true, Nat.reduceAdd, Nat.reduceLeDiff]
    refine ⟨0, rfl, by decide, ?_⟩
    rw [e0]
    simp (disch := omega) only [en_ops, en_opc, iI_add, iI_mul, iI_sub, jL_add, jL_mul, iI_le, iI_lt, iI_eq, iI_eq0, iI_lt0, iI_0le, iI_le0, iI_0lt, jL_iI, iI_jL, lc_eq, lc_lt, lc_le, lc_ge, lc_gt, Nat.sub_zero, Nat.zero_le, true_and, and_true, Nat.reduceAdd, Nat.reduceLeDiff]
    exact ⟨fun _ => H h9 F9, fun e => absurd (Int.le_refl _) e⟩
  · have e0 : h9 113 0 = iI nc := by rw [F9 113 (by decide), hb 0 (by omega), n0]
    rw [sumTo_s] at ih
    apply s_X11_pairs_4
    simp (disch := omega) only [B_X11_pairs_4, r10, r32, sh110, lt110, sh113, lt113, en_ops, en_opc, iI_add, iI_mul, iI_sub, jL_add, jL_mul, iI_le, iI_lt, iI_eq, iI_eq0, iI_lt0, iI_0le, iI_le0, iI_0lt, jL_iI, iI_jL, lc_eq, lc_lt, lc_le, lc_ge, lc_gt, Nat.sub_zero, Nat.zero_le, true_and, and_true, Nat.reduceAdd, Nat.reduceLeDiff]
    refine ⟨0, rfl, by decide, ?_⟩
    rw [e0]
    simp (disch := omega) only [en_ops, en_opc, iI_add, iI_mul, iI_sub, jL_add, jL_mul, iI_le, iI_lt, iI_eq, iI_eq0, iI_lt0, iI_0le, iI_le0, iI_0lt, jL_iI, iI_jL, lc_eq, lc_lt, lc_le, lc_ge, lc_gt, Nat.sub_zero, Nat.zero_le, true_and, and_true, Nat.reduceAdd, Nat.reduceLeDiff]
    refine ⟨fun e => by omega, fun _ => m_meanOf (d := d) (b := b) hR (fun c z k hc hz hk => by rw [F9 115 (by decide)]; exact hs c z k hc hz hk) (hb.fr F9 (by decide)) hn hB (by omega) ?_⟩
    simp (disch := omega) only [sh131, lt131, en_ops, en_opc, iI_add, iI_mul, iI_sub, jL_add, jL_mul, iI_le, iI_lt, iI_eq, iI_eq0, iI_lt0, iI_0le, iI_le0, iI_0lt, jL_iI, iI_jL, lc_eq, lc_lt, lc_le, lc_ge, lc_gt, Nat.sub_zero, Nat.zero_le, true_and, and_true, Nat.reduceAdd, Nat.reduceLeDiff]
    refine ⟨c, rfl, by omega, ?_⟩
    have F8 : Fr (· = 131) hi (en_up h9 131 c (iI (mnP f nz c))) := Fr.up F9 (by rfl)
    have M8 : ∀ j, j < c + 1 → en_up h9 131 c (iI (mnP f nz c)) 131 j = iI (mnP f nz j) := fun j hj => by
      by_cases e : j = c
      · subst e; rw [up_at]
      · rw [up_ne (Or.inr e)]; exact M9 j (by omega)
    generalize en_up h9 131 c (iI (mnP f nz c)) = h8 at F8 M8 ⊢
    suffices L2 : ∀ i : Nat, i ≤ c → en_V G Y_X11_pairs (d + 5) wN wN K 28 [.ref 110, .int (iI o), .int (iI (sumTo c (fun c => sumTo c (prC f nz o c)) + sumTo i (prC f nz o c))), .int (iI c), .int (iI i)] [] h8 hl hr xc xs by
      have := L2 0 (by omega)
      rw [sumTo_z, Int.add_zero] at this
      exact this
    obtain ⟨mc0, mc1⟩ := hm c
    refine lp c ?_ (fun i hi' ih2 => ?_)
    · apply s_X11_pairs_28
      simp (disch := omega) only [B_X11_pairs_28, en_ops, en_opc, iI_add, iI_mul, iI_sub, jL_add, jL_mul, iI_le, iI_lt, iI_eq, iI_eq0, iI_lt0, iI_0le, iI_le0, iI_0lt, jL_iI, iI_jL, lc_eq, lc_lt, lc_le, lc_ge, lc_gt, Nat.sub_zero, Nat.zero_le, true_and, and_true, Nat.reduceAdd, Nat.reduceLeDiff]
      exact ⟨fun _ => ih h8 _ F8 M8, fun e => absurd (Int.le_refl _) e⟩
    · rw [sumTo_s, ← Int.add_assoc] at ih2
      obtain ⟨mi0, mi1⟩ := hm i
      have yes : prC f nz o c i = 1 → en_V G Y_X11_pairs (d + 5) wN wN K 28 [.ref 110, .int (iI o), .int (iI (sumTo c (fun c => sumTo c (prC f nz o c)) + sumTo i (prC f nz o c) + 1)), .int (iI c), .int (iI ((i : Int) + 1))] [] h8 hl hr xc xs := fun z => by rw [z] at ih2; exact ih2
      have no : prC f nz o c i = 0 → en_V G Y_X11_pairs (d + 5) wN wN K 28 [.ref 110, .int (iI o), .int (iI (sumTo c (fun c => sumTo c (prC f nz o c)) + sumTo i (prC f nz o c) + 0)), .int (iI c), .int (iI ((i : Int) + 1))] [] h8 hl hr xc xs := fun z => by rw [z] at ih2; exact ih2
      apply s_X11_pairs_28
      simp (disch := omega) only [B_X11_pairs_28, r32, sh110, lt110, sh131, lt131, en_ops, en_opc, iI_add, iI_mul, iI_sub, jL_add, jL_mul, iI_le, iI_lt, iI_eq, iI_eq0, iI_lt0, iI_0le, iI_le0, iI_0lt, jL_iI, iI_jL, lc_eq, lc_lt, lc_le, lc_ge, lc_gt, Nat.sub_zero, Nat.zero_le, true_and, and_true, Nat.reduceAdd, Nat.reduceLeDiff]
      refine ⟨fun e => by omega, fun _ => ⟨i, rfl, by omega, ?_⟩⟩
      rw [M8 i (by omega)]
      simp (disch := omega) only [r32, sh110, lt110, sh131, lt131, en_ops, en_opc, iI_add, iI_mul, iI_sub, jL_add, jL_mul, iI_le, iI_lt, iI_eq, iI_eq0, iI_lt0, iI_0le, iI_le0, iI_0lt, jL_iI, iI_jL, lc_eq, lc_lt, lc_le, lc_ge, lc_gt, Nat.sub_zero, Nat.zero_le, true_and, and_true, Nat.reduceAdd, Nat.reduceLeDiff]
      refine ⟨fun e => no (if_neg (fun g => g.1 e)), fun e => ⟨c, rfl, by omega, ?_⟩⟩
      rw [M8 c (by omega)]
      simp (disch := omega) only [r32, sh110, lt110, sh131, lt131, en_ops, en_opc, iI_add, iI_mul, iI_sub, jL_add, jL_mul, iI_le, iI_lt, iI_eq, iI_eq0, iI_lt0, iI_0le, iI_le0, iI_0lt, jL_iI, iI_jL, lc_eq, lc_lt, lc_le, lc_ge, lc_gt, Nat.sub_zero, Nat.zero_le, true_and, and_true, Nat.reduceAdd, Nat.reduceLeDiff]
      refine ⟨fun e2 => no (if_neg (fun g => g.2.1 e2)), fun e2 => ⟨fun e3 => yes (if_pos ⟨e, e2, Or.inl e3⟩), fun e3 => ⟨c, rfl, by omega, i, rfl, by omega, ?_⟩⟩⟩
      rw [M8 c (by omega), M8 i (by omega)]
      simp (disch := omega) only [en_ops, en_opc, iI_add, iI_mul, iI_sub, jL_add, jL_mul, iI_le, iI_lt, iI_eq, iI_eq0, iI_lt0, iI_0le, iI_le0, iI_0lt, jL_iI, iI_jL, lc_eq, lc_lt, lc_le, lc_ge, lc_gt, Nat.sub_zero, Nat.zero_le, true_and, and_true, Nat.reduceAdd, Nat.reduceLeDiff]
      exact ⟨fun e4 => no (if_neg (fun g => by omega)), fun e4 => yes (if_pos ⟨e, e2, Or.inr (by omega)⟩)⟩
theorem m_isKnown {c : Nat} (hR : rfR hr) (hs : rfH f hi) (hb : rfB b hi) (hn : rfN nc nz b) (hB : fB nc nz f) (hc : c < nc)
    (H : K (.inl (some (.int (iI (knI f nc nz c))))) hi hl hr) : en_Call G (d + 6) xc xs Y_X11_isKnown wN wN [.ref 110, .int (iI (c : Int))] hi hl hr K := by
  obtain ⟨n0, n1, n12, n6⟩ := id hn
  obtain ⟨⟨-, -, r10, -, r12, -⟩, -⟩ := id hR
  have e0 : hi 113 0 = iI nc := by rw [hb 0 (by omega), n0]
  have sr := fun c => sdP_r (c := c) hB n6
  obtain ⟨sc0, sc1⟩ := sr c
  have hk : knI f nc nz c = if sdP f nz c ≠ -1 ∧ sumTo nc (eqS f nz c) = 1 then 1 else 0 := rfl
  have eqr : ∀ o, 0 ≤ eqS f nz c o := fun o => by unfold eqS; split <;> omega
  have eqc : eqS f nz c c = 1 := if_pos rfl
  apply en_X11_isKnown
  simp (disch := omega) only [B_X11_isKnown_0, sh110, lt110, en_ops, en_opc, iI_add, iI_mul, iI_sub, jL_add, jL_mul, iI_le, iI_lt, iI_eq, iI_eq0, iI_lt0, iI_0le, iI_le0, iI_0lt, jL_iI, iI_jL, lc_eq, lc_lt, lc_le, lc_ge, lc_gt, Nat.sub_zero, Nat.zero_le, true_and, and_true, Nat.reduceAdd, Nat.reduceLeDiff]
  refine m_soundOf (d := d) hR hs hb hn hB (by omega) ?_
  simp (disch := omega) only [en_ops, en_opc, iI_add, iI_mul, iI_sub, jL_add, jL_mul, iI_le, iI_lt, iI_eq, iI_eq0, iI_lt0, iI_0le, iI_le0, iI_0lt, jL_iI, iI_jL, lc_eq, lc_lt, lc_le, lc_ge, lc_gt, Nat.sub_zero, Nat.zero_le, true_and, and_true, Nat.reduceAdd, Nat.reduceLeDiff]
  refine ⟨fun e => ?_, fun e => ⟨rfl, ?_⟩⟩
  · suffices L : ∀ o : Nat, o ≤ nc → (∀ j, j < o → j ≠ c → sdP f nz j ≠ sdP f nz c) → en_V G Y_X11_isKnown (d + 6) wN wN K 13 [.ref 110, .int (iI (c : Int)), .int (iI o)] [] hi hl hr xc xs from L 0 (by omega) (fun j hj => by omega)
    refine lp nc (fun hne => ?_) (fun o ho ih hne => ?_)
    · have : sumTo nc (eqS f nz c) = 1 := by rw [sumTo_one hc (fun i h1 h2 => if_neg (hne i h1 h2)), eqc]
      rw [hk, if_pos ⟨e, this⟩] at H
      apply s_X11_isKnown_13
      simp (disch := omega) only [B_X11_isKnown_13, r10, sh110, lt110, sh113, lt113, en_ops, en_opc, iI_add, iI_mul, iI_sub, jL_add, jL_mul, iI_le, iI_lt, iI_eq, iI_eq0, iI_lt0, iI_0le, iI_le0, iI_0lt, jL_iI, iI_jL, lc_eq, lc_lt, lc_le, lc_ge, lc_gt, Nat.sub_zero, Nat.zero_le, true_and, and_true, Nat.reduceAdd, Nat.reduceLeDiff]
      refine ⟨0, rfl, by decide, ?_⟩
      rw [e0]
      simp (disch := omega) only [en_ops, en_opc, iI_add, iI_mul, iI_sub, jL_add, jL_mul, iI_le, iI_lt, iI_eq, iI_eq0, iI_lt0, iI_0le, iI_le0, iI_0lt, jL_iI, iI_jL, lc_eq, lc_lt, lc_le, lc_ge, lc_gt, Nat.sub_zero, Nat.zero_le, true_and, and_true, Nat.reduceAdd, Nat.reduceLeDiff]
      exact ⟨fun _ => ⟨rfl, H⟩, fun e => absurd (Int.le_refl _) e⟩
    · obtain ⟨so0, so1⟩ := sr o
      apply s_X11_isKnown_13
      simp (disch := omega) only [B_X11_isKnown_13, r10, sh110, lt110, sh113, lt113, en_ops, en_opc, iI_add, iI_mul, iI_sub, jL_add, jL_mul, iI_le, iI_lt, iI_eq, iI_eq0, iI_lt0, iI_0le, iI_le0, iI_0lt, jL_iI, iI_jL, lc_eq, lc_lt, lc_le, lc_ge, lc_gt, Nat.sub_zero, Nat.zero_le, true_and, and_true, Nat.reduceAdd, Nat.reduceLeDiff]
      refine ⟨0, rfl, by decide, ?_⟩
      rw [e0]
      simp (disch := omega) only [en_ops, en_opc, iI_add, iI_mul, iI_sub, jL_add, jL_mul, iI_le, iI_lt, iI_eq, iI_eq0, iI_lt0, iI_0le, iI_le0, iI_0lt, jL_iI, iI_jL, lc_eq, lc_lt, lc_le, lc_ge, lc_gt, Nat.sub_zero, Nat.zero_le, true_and, and_true, Nat.reduceAdd, Nat.reduceLeDiff]
      refine ⟨fun e => by omega, fun _ => ⟨fun e2 => ih (fun j hj hjc => hne j (by omega) hjc), fun e2 => m_soundOf (d := d) hR hs hb hn hB (by omega) ?_⟩⟩
      simp (disch := omega) only [sh110, lt110, en_ops, en_opc, iI_add, iI_mul, iI_sub, jL_add, jL_mul, iI_le, iI_lt, iI_eq, iI_eq0, iI_lt0, iI_0le, iI_le0, iI_0lt, jL_iI, iI_jL, lc_eq, lc_lt, lc_le, lc_ge, lc_gt, Nat.sub_zero, Nat.zero_le, true_and, and_true, Nat.reduceAdd, Nat.reduceLeDiff]
      refine m_soundOf (d := d) hR hs hb hn hB (by omega) ?_
      simp (disch := omega) only [en_ops, en_opc, iI_add, iI_mul, iI_sub, jL_add, jL_mul, iI_le, iI_lt, iI_eq, iI_eq0, iI_lt0, iI_0le, iI_le0, iI_0lt, jL_iI, iI_jL, lc_eq, lc_lt, lc_le, lc_ge, lc_gt, Nat.sub_zero, Nat.zero_le, true_and, and_true, Nat.reduceAdd, Nat.reduceLeDiff]
      refine ⟨fun e3 => ih (fun j hj hjc => ?_), fun e3 => ⟨rfl, ?_⟩⟩
      · by_cases g : j = o
        · subst g; exact e3
        · exact hne j (by omega) hjc
      · have e4 : eqS f nz c o = 1 := if_pos (by omega)
        have : sumTo nc (eqS f nz c) ≠ 1 := fun g => by
          have a1 := sumTo_le (n := nc) (f := fun j => (if j = c then 1 else 0) + (if j = o then 1 else 0)) (g := eqS f nz c) (fun j _ => by
            show (if j = c then (1 : Int) else 0) + (if j = o then 1 else 0) ≤ eqS f nz c j
            by_cases j1 : j = c
            · subst j1; rw [eqc, if_pos rfl, if_neg (by omega)]; decide
            · rw [if_neg j1]
              by_cases j2 : j = o
              · subst j2; rw [e4, if_pos rfl]; decide
              · rw [if_neg j2]; exact eqr j)
          rw [sumTo_add, sumTo_one hc (fun i _ h2 => if_neg h2), sumTo_one ho (fun i _ h2 => if_neg h2), if_pos rfl, if_pos rfl] at a1
          omega
        rw [hk, if_neg (fun g => this g.2)] at H
        exact H
  · rw [hk, if_neg (fun g => g.1 (by omega))] at H
    exact H
theorem m_keeps (hR : rfR hr) (H : ∀ hi', Fr (· = 117) hi hi' → (∀ j, j < 834 → hi' 117 j = hi 115 j) → K (.inl none) hi' hl hr) : en_Call G (d + 1) xc xs Y_X11_keeps wN wN [.ref 110] hi hl hr K := by
  obtain ⟨⟨-, -, -, -, r12, -, r14, -⟩, -⟩ := id hR
  apply en_X11_keeps
  simp (disch := omega) only [B_X11_keeps_0, en_ops, en_opc, iI_add, iI_mul, iI_sub, jL_add, jL_mul, iI_le, iI_lt, iI_eq, iI_eq0, iI_lt0, iI_0le, iI_le0, iI_0lt, jL_iI, iI_jL, lc_eq, lc_lt, lc_le, lc_ge, lc_gt, Nat.sub_zero, Nat.zero_le, true_and, and_true, Nat.reduceAdd, Nat.reduceLeDiff]
  suffices L : ∀ i : Nat, i ≤ 834 → ∀ h9, Fr (· = 117) hi h9 → (∀ j, j < i → h9 117 j = hi 115 j) → en_V G Y_X11_keeps (d + 1) wN wN K 2 [.ref 110, .int (iI i)] [] h9 hl hr xc xs from L 0 (by omega) hi Fr.rf (fun j hj => by omega)
  refine lp 834 (fun h9 F9 A9 => ?_) (fun i hi9 ih h9 F9 A9 => ?_)
  · apply s_X11_keeps_2
    simp (disch := omega) only [B_X11_keeps_2, en_ops, en_opc, iI_add, iI_mul, iI_sub, jL_add, jL_mul, iI_le, iI_lt, iI_eq, iI_eq0, iI_lt0, iI_0le, iI_le0, iI_0lt, jL_iI, iI_jL, lc_eq, lc_lt, lc_le, lc_ge, lc_gt, Nat.sub_zero, Nat.zero_le, true_and, and_true, Nat.reduceAdd, Nat.reduceLeDiff]
    exact ⟨fun _ => H h9 F9 A9, fun e => absurd (show (834 : Int) ≤ ((834 : Nat) : Int) by omega) e⟩
  · apply s_X11_keeps_2
    simp (disch := omega) only [B_X11_keeps_2, r12, r14, sh110, lt110, sh115, lt115, sh117, lt117, en_ops, en_opc, iI_add, iI_mul, iI_sub, jL_add, jL_mul, iI_le, iI_lt, iI_eq, iI_eq0, iI_lt0, iI_0le, iI_le0, iI_0lt, jL_iI, iI_jL, lc_eq, lc_lt, lc_le, lc_ge, lc_gt, Nat.sub_zero, Nat.zero_le, true_and, and_true, Nat.reduceAdd, Nat.reduceLeDiff]
    refine ⟨fun e => by omega, fun _ => ⟨i, rfl, by omega, i, rfl, by omega, ih _ (Fr.up F9 (by rfl)) (fun j hj => ?_)⟩⟩
    by_cases e : j = i
    · subst e; rw [up_at, F9 115 (by decide)]
    · rw [up_ne (Or.inr e)]; exact A9 j (by omega)
theorem m_comesBack (hR : rfR hr) (H : ∀ hi', Fr (· = 115) hi hi' → (∀ j, j < 834 → hi' 115 j = hi 117 j) → K (.inl none) hi' hl hr) : en_Call G (d + 1) xc xs Y_X11_comesBack wN wN [.ref 110] hi hl hr K := by
  obtain ⟨⟨-, -, -, -, r12, -, r14, -⟩, -⟩ := id hR
  apply en_X11_comesBack
  simp (disch := omega) only [B_X11_comesBack_0, en_ops, en_opc, iI_add, iI_mul, iI_sub, jL_add, jL_mul, iI_le, iI_lt, iI_eq, iI_eq0, iI_lt0, iI_0le, iI_le0, iI_0lt, jL_iI, iI_jL, lc_eq, lc_lt, lc_le, lc_ge, lc_gt, Nat.sub_zero, Nat.zero_le, true_and, and_true, Nat.reduceAdd, Nat.reduceLeDiff]
  suffices L : ∀ i : Nat, i ≤ 834 → ∀ h9, Fr (· = 115) hi h9 → (∀ j, j < i → h9 115 j = hi 117 j) → en_V G Y_X11_comesBack (d + 1) wN wN K 2 [.ref 110, .int (iI i)] [] h9 hl hr xc xs from L 0 (by omega) hi Fr.rf (fun j hj => by omega)
  refine lp 834 (fun h9 F9 A9 => ?_) (fun i hi9 ih h9 F9 A9 => ?_)
  · apply s_X11_comesBack_2
    simp (disch := omega) only [B_X11_comesBack_2, en_ops, en_opc, iI_add, iI_mul, iI_sub, jL_add, jL_mul, iI_le, iI_lt, iI_eq, iI_eq0, iI_lt0, iI_0le, iI_le0, iI_0lt, jL_iI, iI_jL, lc_eq, lc_lt, lc_le, lc_ge, lc_gt, Nat.sub_zero, Nat.zero_le, true_and, and_true, Nat.reduceAdd, Nat.reduceLeDiff]
    exact ⟨fun _ => H h9 F9 A9, fun e => absurd (show (834 : Int) ≤ ((834 : Nat) : Int) by omega) e⟩
  · apply s_X11_comesBack_2
    simp (disch := omega) only [B_X11_comesBack_2, r12, r14, sh110, lt110, sh115, lt115, sh117, lt117, en_ops, en_opc, iI_add, iI_mul, iI_sub, jL_add, jL_mul, iI_le, iI_lt, iI_eq, iI_eq0, iI_lt0, iI_0le, iI_le0, iI_0lt, jL_iI, iI_jL, lc_eq, lc_lt, lc_le, lc_ge, lc_gt, Nat.sub_zero, Nat.zero_le, true_and, and_true, Nat.reduceAdd, Nat.reduceLeDiff]
    refine ⟨fun e => by omega, fun _ => ⟨i, rfl, by omega, i, rfl, by omega, ih _ (Fr.up F9 (by rfl)) (fun j hj => ?_)⟩⟩
    by_cases e : j = i
    · subst e; rw [up_at, F9 117 (by decide)]
    · rw [up_ne (Or.inr e)]; exact A9 j (by omega)
theorem m_oversNow {ov : Nat → Int} (hR : rfR hr) (hb : rfB b hi) (hn : rfN nc nz b) (ho : ∀ c, c < 12 → hi 115 (600 + c) = iI (ov c)) (H : K (.inl (some (.int (iI (sumTo nc ov))))) hi hl hr) : en_Call G (d + 1) xc xs Y_X11_oversNow wN wN [.ref 110] hi hl hr K := by
  obtain ⟨n0, n1, n12, n6⟩ := id hn
  obtain ⟨⟨-, -, r10, -, r12, -⟩, -⟩ := id hR
  have e0 : hi 113 0 = iI nc := by rw [hb 0 (by omega), n0]
  apply en_X11_oversNow
  simp (disch := omega) only [B_X11_oversNow_0, en_ops, en_opc, iI_add, iI_mul, iI_sub, jL_add, jL_mul, iI_le, iI_lt, iI_eq, iI_eq0, iI_lt0, iI_0le, iI_le0, iI_0lt, jL_iI, iI_jL, lc_eq, lc_lt, lc_le, lc_ge, lc_gt, Nat.sub_zero, Nat.zero_le, true_and, and_true, Nat.reduceAdd, Nat.reduceLeDiff]
  suffices L : ∀ c : Nat, c ≤ nc → en_V G Y_X11_oversNow (d + 1) wN wN K 4 [.ref 110, .int (iI (sumTo c ov)), .int (iI c)] [] hi hl hr xc xs from L 0 (by omega)
  refine lp nc ?_ (fun c hc ih => ?_)
  · apply s_X11_oversNow_4
    simp (disch := omega) only [B_X11_oversNow_4, r10, sh110, lt110, sh113, lt113, en_ops, en_opc, iI_add, iI_mul, iI_sub, jL_add, jL_mul, iI_le, iI_lt, iI_eq, iI_eq0, iI_lt0, iI_0le, iI_le0, iI_0lt, jL_iI, iI_jL, lc_eq, lc_lt, lc_le, lc_ge, lc_gt, Nat.sub_zero, Nat.zero_le, true_and, and_true, Nat.reduceAdd, Nat.reduceLeDiff]
    refine ⟨0, rfl, by decide, ?_⟩
    rw [e0]
    simp (disch := omega) only [en_ops, en_opc, iI_add, iI_mul, iI_sub, jL_add, jL_mul, iI_le, iI_lt, iI_eq, iI_eq0, iI_lt0, iI_0le, iI_le0, iI_0lt, jL_iI, iI_jL, lc_eq, lc_lt, lc_le, lc_ge, lc_gt, Nat.sub_zero, Nat.zero_le, true_and, and_true, Nat.reduceAdd, Nat.reduceLeDiff]
    exact ⟨fun _ => H, fun e => absurd (Int.le_refl _) e⟩
  · rw [sumTo_s] at ih
    apply s_X11_oversNow_4
    simp (disch := omega) only [B_X11_oversNow_4, r10, r12, sh110, lt110, sh113, lt113, sh115, lt115, en_ops, en_opc, iI_add, iI_mul, iI_sub, jL_add, jL_mul, iI_le, iI_lt, iI_eq, iI_eq0, iI_lt0, iI_0le, iI_le0, iI_0lt, jL_iI, iI_jL, lc_eq, lc_lt, lc_le, lc_ge, lc_gt, Nat.sub_zero, Nat.zero_le, true_and, and_true, Nat.reduceAdd, Nat.reduceLeDiff]
    refine ⟨0, rfl, by decide, ?_⟩
    rw [e0]
    simp (disch := omega) only [en_ops, en_opc, iI_add, iI_mul, iI_sub, jL_add, jL_mul, iI_le, iI_lt, iI_eq, iI_eq0, iI_lt0, iI_0le, iI_le0, iI_0lt, jL_iI, iI_jL, lc_eq, lc_lt, lc_le, lc_ge, lc_gt, Nat.sub_zero, Nat.zero_le, true_and, and_true, Nat.reduceAdd, Nat.reduceLeDiff]
    refine ⟨fun e => by omega, fun _ => ⟨600 + c, iI_eq_of (by omega), by omega, ?_⟩⟩
    rw [ho c (by omega), iI_add]
    exact ih
theorem m_farOf {m : Nat → Nat → Int} (hR : rfR hr) (hs : rfH f hi) (hb : rfB b hi) (hn : rfN nc nz b) (hB : fB nc nz f) (hm : ∀ c z, c < 12 → z < 6 → hi 115 (641 + 8 * c + z) = iI (m c z) ∧ -1 ≤ m c z ∧ m c z ≤ 999999)
    (H : K (.inl (some (.long (jL (apP f m nc nz))))) hi hl hr) : en_Call G (d + 3) xc xs Y_X11_farOf wN wN [.ref 110] hi hl hr K := by
  obtain ⟨n0, n1, n12, n6⟩ := id hn
  obtain ⟨⟨-, -, r10, -, r12, -⟩, -⟩ := id hR
  have e0 : hi 113 0 = iI nc := by rw [hb 0 (by omega), n0]
  have e1 : hi 113 1 = iI nz := by rw [hb 1 (by omega), n1]
  have rI : ∀ c, c < 12 → ∀ z, z < 6 → 0 ≤ apI f m c z ∧ apI f m c z ≤ 11000000 := fun c hc z hz => apI_r hB n6 hc (hm c z hc hz).2
  have rz : ∀ c, c < 12 → ∀ k, k ≤ 6 → 0 ≤ sumTo k (apI f m c) ∧ sumTo k (apI f m c) ≤ 66000000 := fun c hc k hk => by
    have := sumTo_bd (n := k) (g := apI f m c) (b := 11000000) (fun z hz => rI c hc z (by omega))
    omega
  have rc : ∀ c, c ≤ nc → 0 ≤ sumTo c (fun c => sumTo nz (apI f m c)) ∧ sumTo c (fun c => sumTo nz (apI f m c)) ≤ 800000000 := fun c hc => by
    have := sumTo_bd (n := c) (g := fun c => sumTo nz (apI f m c)) (b := 66000000) (fun c' hc' => rz c' (by omega) nz n6)
    omega
  apply en_X11_farOf
  simp (disch := omega) only [B_X11_farOf_0, en_ops, en_opc, iI_add, iI_mul, iI_sub, jL_add, jL_mul, iI_le, iI_lt, iI_eq, iI_eq0, iI_lt0, iI_0le, iI_le0, iI_0lt, jL_iI, iI_jL, lc_eq, lc_lt, lc_le, lc_ge, lc_gt, Nat.sub_zero, Nat.zero_le, true_and, and_true, Nat.reduceAdd, Nat.reduceLeDiff]
  suffices L : ∀ c : Nat, c ≤ nc → ∀ x4 x5 x6 : Value, en_V G Y_X11_farOf (d + 3) wN wN K 4 [.ref 110, .long (jL (sumTo c (fun c => sumTo nz (apI f m c)))), jk, .int (iI c), x4, x5, x6] [] hi hl hr xc xs from L 0 (by omega) _ _ _
  refine lp nc (fun x4 x5 x6 => ?_) (fun c hc ih x4 x5 x6 => ?_)
  · apply s_X11_farOf_4
    simp (disch := omega) only [B_X11_farOf_4, r10, sh110, lt110, sh113, lt113, en_ops, en_opc, iI_add, iI_mul, iI_sub, jL_add, jL_mul, iI_le, iI_lt, iI_eq, iI_eq0, iI_lt0, iI_0le, iI_le0, iI_0lt, jL_iI, iI_jL, lc_eq, lc_lt, lc_le, lc_ge, lc_gt, Nat.sub_zero, Nat.zero_le, true_and, and_true, Nat.reduceAdd, Nat.reduceLeDiff]
    refine ⟨0, rfl, by decide, ?_⟩
    rw [e0]
    simp (disch := omega) only [en_ops, en_opc, iI_add, iI_mul, iI_sub, jL_add, jL_mul, iI_le, iI_lt, iI_eq, iI_eq0, iI_lt0, iI_0le, iI_le0, iI_0lt, jL_iI, iI_jL, lc_eq, lc_lt, lc_le, lc_ge, lc_gt, Nat.sub_zero, Nat.zero_le, true_and, and_true, Nat.reduceAdd, Nat.reduceLeDiff]
    exact ⟨fun _ => H, fun e => absurd (Int.le_refl _) e⟩
  · rw [sumTo_s] at ih
    apply s_X11_farOf_4
    simp (disch := omega) only [B_X11_farOf_4, r10, sh110, lt110, sh113, lt113, en_ops, en_opc, iI_add, iI_mul, iI_sub, jL_add, jL_mul, iI_le, iI_lt, iI_eq, iI_eq0, iI_lt0, iI_0le, iI_le0, iI_0lt, jL_iI, iI_jL, lc_eq, lc_lt, lc_le, lc_ge, lc_gt, Nat.sub_zero, Nat.zero_le, true_and, and_true, Nat.reduceAdd, Nat.reduceLeDiff]
    refine ⟨0, rfl, by decide, ?_⟩
    rw [e0]
    simp (disch := omega) only [en_ops, en_opc, iI_add, iI_mul, iI_sub, jL_add, jL_mul, iI_le, iI_lt, iI_eq, iI_eq0, iI_lt0, iI_0le, iI_le0, iI_0lt, jL_iI, iI_jL, lc_eq, lc_lt, lc_le, lc_ge, lc_gt, Nat.sub_zero, Nat.zero_le, true_and, and_true, Nat.reduceAdd, Nat.reduceLeDiff]
    refine ⟨fun e => by omega, fun _ => ?_⟩
    suffices L2 : ∀ z : Nat, z ≤ nz → ∀ x5 x6 : Value, en_V G Y_X11_farOf (d + 3) wN wN K 17 [.ref 110, .long (jL (sumTo c (fun c => sumTo nz (apI f m c)) + sumTo z (apI f m c))), jk, .int (iI c), .int (iI z), x5, x6] [] hi hl hr xc xs by
      have := L2 0 (by omega) x5 x6
      rw [sumTo_z, Int.add_zero] at this
      exact this
    refine lp nz (fun x5 x6 => ?_) (fun z hz ih2 x5 x6 => ?_)
    · apply s_X11_farOf_17
      simp (disch := omega) only [B_X11_farOf_17, r10, sh110, lt110, sh113, lt113, en_ops, en_opc, iI_add, iI_mul, iI_sub, jL_add, jL_mul, iI_le, iI_lt, iI_eq, iI_eq0, iI_lt0, iI_0le, iI_le0, iI_0lt, jL_iI, iI_jL, lc_eq, lc_lt, lc_le, lc_ge, lc_gt, Nat.sub_zero, Nat.zero_le, true_and, and_true, Nat.reduceAdd, Nat.reduceLeDiff]
      refine ⟨1, rfl, by decide, ?_⟩
      rw [e1]
      simp (disch := omega) only [en_ops, en_opc, iI_add, iI_mul, iI_sub, jL_add, jL_mul, iI_le, iI_lt, iI_eq, iI_eq0, iI_lt0, iI_0le, iI_le0, iI_0lt, jL_iI, iI_jL, lc_eq, lc_lt, lc_le, lc_ge, lc_gt, Nat.sub_zero, Nat.zero_le, true_and, and_true, Nat.reduceAdd, Nat.reduceLeDiff]
      exact ⟨fun _ => ih _ _ _, fun e => absurd (Int.le_refl _) e⟩
    · obtain ⟨m1, m2, m3⟩ := hm c z (by omega) (by omega)
      have a0 := aP_nn hB c z
      have a1 := Int.le_trans (aP_le hB n6 (show c < 12 by omega) z) (wP_le hB n6 (by omega))
      have g1 := rc c (by omega)
      have g2 := rz c (by omega) z (by omega)
      rw [sumTo_s, ← Int.add_assoc] at ih2
      apply s_X11_farOf_17
      simp (disch := omega) only [B_X11_farOf_17, r10, r12, sh110, lt110, sh113, lt113, sh115, lt115, en_ops, en_opc, iI_add, iI_mul, iI_sub, jL_add, jL_mul, iI_le, iI_lt, iI_eq, iI_eq0, iI_lt0, iI_0le, iI_le0, iI_0lt, jL_iI, iI_jL, lc_eq, lc_lt, lc_le, lc_ge, lc_gt, Nat.sub_zero, Nat.zero_le, true_and, and_true, Nat.reduceAdd, Nat.reduceLeDiff]
      refine ⟨1, rfl, by decide, ?_⟩
      rw [e1]
      simp (disch := omega) only [en_ops, en_opc, iI_add, iI_mul, iI_sub, jL_add, jL_mul, iI_le, iI_lt, iI_eq, iI_eq0, iI_lt0, iI_0le, iI_le0, iI_0lt, jL_iI, iI_jL, lc_eq, lc_lt, lc_le, lc_ge, lc_gt, Nat.sub_zero, Nat.zero_le, true_and, and_true, Nat.reduceAdd, Nat.reduceLeDiff]
      refine ⟨fun e => by omega, fun _ => ⟨641 + 8 * c + z, iI_eq_of (by omega), by omega, ?_⟩⟩
      rw [m1]
      simp (disch := omega) only [sh110, lt110, en_ops, en_opc, iI_add, iI_mul, iI_sub, jL_add, jL_mul, iI_le, iI_lt, iI_eq, iI_eq0, iI_lt0, iI_0le, iI_le0, iI_0lt, jL_iI, iI_jL, lc_eq, lc_lt, lc_le, lc_ge, lc_gt, Nat.sub_zero, Nat.zero_le, true_and, and_true, Nat.reduceAdd, Nat.reduceLeDiff]
      refine ⟨fun e => m_all (d := d) hR hs (by omega) (by omega) ?_, fun e => ?_⟩
      · have ez : apI f m c z = if m c z - aP f c z < 0 then -(m c z - aP f c z) else m c z - aP f c z := if_neg e
        rw [ez] at ih2
        simp (disch := omega) only [en_ops, en_opc, iI_add, iI_mul, iI_sub, jL_add, jL_mul, iI_le, iI_lt, iI_eq, iI_eq0, iI_lt0, iI_0le, iI_le0, iI_0lt, jL_iI, iI_jL, lc_eq, lc_lt, lc_le, lc_ge, lc_gt, Nat.sub_zero, Nat.zero_le, true_and, and_true, Nat.reduceAdd, Nat.reduceLeDiff]
        refine ⟨fun e2 => ?_, fun e2 => ?_⟩
        · by_cases e3 : m c z - aP f c z < 0
          · rw [if_pos e3, show -(m c z - aP f c z) = aP f c z - m c z by omega] at ih2
            exact ih2 _ _
          · rw [if_neg e3, show m c z - aP f c z = aP f c z - m c z by omega] at ih2
            exact ih2 _ _
        · rw [if_neg (by omega), show m c z - aP f c z = -(aP f c z - m c z) by omega] at ih2
          rw [iI_neg]
          simp (disch := omega) only [en_ops, en_opc, iI_add, iI_mul, iI_sub, jL_add, jL_mul, iI_le, iI_lt, iI_eq, iI_eq0, iI_lt0, iI_0le, iI_le0, iI_0lt, jL_iI, iI_jL, lc_eq, lc_lt, lc_le, lc_ge, lc_gt, Nat.sub_zero, Nat.zero_le, true_and, and_true, Nat.reduceAdd, Nat.reduceLeDiff]
          exact ih2 _ _
      · have ez : apI f m c z = 0 := if_pos (by omega)
        rw [ez, Int.add_zero] at ih2
        exact ih2 _ _
end
-- DRAFT 67
section
variable {G : en_G} {d : Nat} {K : en_K} {nc nz nh : Nat} {b : Nat → Int} {f : Nat → Nat → Nat → Int} {hi : en_I} {hl : en_L} {hr : en_F} {xc xs : Nat} {hd : Nat → Nat × Nat} {g : Nat → Int}
/-- the reference's hand -/
def rhH (nh : Nat) (hd : Nat → Nat × Nat) (hi : en_I) : Prop := hi 115 630 = iI nh ∧ nh ≤ 4 ∧ ∀ i, i < nh → hi 115 (631 + 2 * i) = iI ((hd i).1 : Int) ∧ hi 115 (632 + 2 * i) = iI ((hd i).2 : Int) ∧ (hd i).1 < 6 ∧ (hd i).2 < 3
def hdG (hd : Nat → Nat × Nat) (i : Nat) : Nat := 3 * (hd i).1 + (hd i).2
theorem m_wordOf {c : Nat} (hR : rfR hr) (hs : rfH f hi) (hb : rfB b hi) (hn : rfN nc nz b) (hB : fB nc nz f) (hH : rhH nh hd hi) (hc : c < 12)
    (H : K (.inl (some (.long (jL (wdP f nz nh (hdG hd) c))))) hi hl hr) : en_Call G (d + 4) xc xs Y_X11_wordOf wN wN [.ref 110, .int (iI (c : Int))] hi hl hr K := by
  obtain ⟨n0, n1, n12, n6⟩ := id hn
  obtain ⟨⟨-, -, r10, -, r12, -⟩, -⟩ := id hR
  obtain ⟨t0, t1, t2⟩ := hH
  have w0 := wP_nn (m := nz) hB c
  have w1 := wP_le hB n6 hc
  apply en_X11_wordOf
  simp (disch := omega) only [B_X11_wordOf_0, sh110, lt110, en_ops, en_opc, iI_add, iI_mul, iI_sub, jL_add, jL_mul, iI_le, iI_lt, iI_eq, iI_eq0, iI_lt0, iI_0le, iI_le0, iI_0lt, jL_iI, iI_jL, lc_eq, lc_lt, lc_le, lc_ge, lc_gt, Nat.sub_zero, Nat.zero_le, true_and, and_true, Nat.reduceAdd, Nat.reduceLeDiff]
  refine m_wholeOf (d := d) hR hs hb hn hc ?_
  simp (disch := omega) only [en_ops, en_opc, iI_add, iI_mul, iI_sub, jL_add, jL_mul, iI_le, iI_lt, iI_eq, iI_eq0, iI_lt0, iI_0le, iI_le0, iI_0lt, jL_iI, iI_jL, lc_eq, lc_lt, lc_le, lc_ge, lc_gt, Nat.sub_zero, Nat.zero_le, true_and, and_true, Nat.reduceAdd, Nat.reduceLeDiff]
  suffices L : ∀ i : Nat, i ≤ nh → en_V G Y_X11_wordOf (d + 4) wN wN K 12 [.ref 110, .int (iI (c : Int)), .long (jL (prodTo i (fun i => shP f nz c (hdG hd i)))), jk, .int (iI (wP f nz c)), .int (iI i)] [] hi hl hr xc xs from L 0 (by omega)
  refine lp nh ?_ (fun i hi' ih => ?_)
  · apply s_X11_wordOf_12
    simp (disch := omega) only [B_X11_wordOf_12, r12, sh110, lt110, sh115, lt115, en_ops, en_opc, iI_add, iI_mul, iI_sub, jL_add, jL_mul, iI_le, iI_lt, iI_eq, iI_eq0, iI_lt0, iI_0le, iI_le0, iI_0lt, jL_iI, iI_jL, lc_eq, lc_lt, lc_le, lc_ge, lc_gt, Nat.sub_zero, Nat.zero_le, true_and, and_true, Nat.reduceAdd, Nat.reduceLeDiff]
    refine ⟨630, rfl, by decide, ?_⟩
    rw [t0]
    simp (disch := omega) only [en_ops, en_opc, iI_add, iI_mul, iI_sub, jL_add, jL_mul, iI_le, iI_lt, iI_eq, iI_eq0, iI_lt0, iI_0le, iI_le0, iI_0lt, jL_iI, iI_jL, lc_eq, lc_lt, lc_le, lc_ge, lc_gt, Nat.sub_zero, Nat.zero_le, true_and, and_true, Nat.reduceAdd, Nat.reduceLeDiff]
    exact ⟨fun _ => H, fun e => absurd (Int.le_refl _) e⟩
  · obtain ⟨t3, t4, t5, t6⟩ := t2 i hi'
    have e3 : hdG hd i / 3 = (hd i).1 ∧ hdG hd i % 3 = (hd i).2 := by unfold hdG; omega
    have es : shP f nz c (hdG hd i) = if wP f nz c = 0 then 0 else 1000 * f c (hd i).1 (hd i).2 / wP f nz c := by unfold shP; rw [e3.1, e3.2]
    have st : prodTo (i + 1) (fun i => shP f nz c (hdG hd i)) = prodTo i (fun i => shP f nz c (hdG hd i)) * shP f nz c (hdG hd i) := rfl
    rw [st, es] at ih
    have f0 := hB.1 c (hd i).1 (hd i).2
    have f1 : f c (hd i).1 (hd i).2 ≤ 10000000 := Int.le_trans (f_le hB c _ t6) (Int.le_trans (aP_le hB n6 hc _) w1)
    apply s_X11_wordOf_12
    simp (disch := omega) only [B_X11_wordOf_12, r12, sh110, lt110, sh115, lt115, en_ops, en_opc, iI_add, iI_mul, iI_sub, jL_add, jL_mul, iI_le, iI_lt, iI_eq, iI_eq0, iI_lt0, iI_0le, iI_le0, iI_0lt, jL_iI, iI_jL, lc_eq, lc_lt, lc_le, lc_ge, lc_gt, Nat.sub_zero, Nat.zero_le, true_and, and_true, Nat.reduceAdd, Nat.reduceLeDiff]
    refine ⟨630, rfl, by decide, ?_⟩
    rw [t0]
    simp (disch := omega) only [r12, sh110, lt110, sh115, lt115, en_ops, en_opc, iI_add, iI_mul, iI_sub, jL_add, jL_mul, iI_le, iI_lt, iI_eq, iI_eq0, iI_lt0, iI_0le, iI_le0, iI_0lt, jL_iI, iI_jL, lc_eq, lc_lt, lc_le, lc_ge, lc_gt, Nat.sub_zero, Nat.zero_le, true_and, and_true, Nat.reduceAdd, Nat.reduceLeDiff]
    refine ⟨fun e => by omega, fun _ => ⟨fun e => ⟨631 + 2 * i, iI_eq_of (by omega), by omega, ?_⟩, fun e => ?_⟩⟩
    · rw [t3]
      refine ⟨632 + 2 * i, iI_eq_of (by omega), by omega, ?_⟩
      rw [t4]
      refine m_stone ?_
      simp (disch := omega) only [sh115, lt115, en_ops, en_opc, iI_add, iI_mul, iI_sub, jL_add, jL_mul, iI_le, iI_lt, iI_eq, iI_eq0, iI_lt0, iI_0le, iI_le0, iI_0lt, jL_iI, iI_jL, lc_eq, lc_lt, lc_le, lc_ge, lc_gt, Nat.sub_zero, Nat.zero_le, true_and, and_true, Nat.reduceAdd, Nat.reduceLeDiff]
      refine ⟨24 * c + 3 * (hd i).1 + (hd i).2, iI_eq_of (by omega), by omega, ?_⟩
      rw [hs c _ _ hc t5 t6]
      simp (disch := omega) only [en_ops, en_opc, iI_add, iI_mul, iI_sub, jL_add, jL_mul, iI_le, iI_lt, iI_eq, iI_eq0, iI_lt0, iI_0le, iI_le0, iI_0lt, jL_iI, iI_jL, lc_eq, lc_lt, lc_le, lc_ge, lc_gt, Nat.sub_zero, Nat.zero_le, true_and, and_true, Nat.reduceAdd, Nat.reduceLeDiff]
      refine ⟨by rw [jL_eq0 (by omega) (by omega)]; omega, ?_⟩
      rw [jL_div (by omega) (by omega) (by omega) (by omega), jL_mul]
      rw [if_neg e] at ih
      exact ih
    · rw [if_pos (by omega)] at ih
      exact ih
theorem m_allWords (hR : rfR hr) (hs : rfH f hi) (hb : rfB b hi) (hn : rfN nc nz b) (hB : fB nc nz f) (hH : rhH nh hd hi)
    (H : K (.inl (some (.long (jL (sumTo nc (wdP f nz nh (hdG hd))))))) hi hl hr) : en_Call G (d + 5) xc xs Y_X11_allWords wN wN [.ref 110] hi hl hr K := by
  obtain ⟨n0, n1, n12, n6⟩ := id hn
  obtain ⟨⟨-, -, r10, -, r12, -⟩, -⟩ := id hR
  have e0 : hi 113 0 = iI nc := by rw [hb 0 (by omega), n0]
  apply en_X11_allWords
  simp (disch := omega) only [B_X11_allWords_0, en_ops, en_opc, iI_add, iI_mul, iI_sub, jL_add, jL_mul, iI_le, iI_lt, iI_eq, iI_eq0, iI_lt0, iI_0le, iI_le0, iI_0lt, jL_iI, iI_jL, lc_eq, lc_lt, lc_le, lc_ge, lc_gt, Nat.sub_zero, Nat.zero_le, true_and, and_true, Nat.reduceAdd, Nat.reduceLeDiff]
  suffices L : ∀ c : Nat, c ≤ nc → en_V G Y_X11_allWords (d + 5) wN wN K 4 [.ref 110, .long (jL (sumTo c (wdP f nz nh (hdG hd)))), jk, .int (iI c)] [] hi hl hr xc xs from L 0 (by omega)
  refine lp nc ?_ (fun c hc ih => ?_)
  · apply s_X11_allWords_4
    simp (disch := omega) only [B_X11_allWords_4, r10, sh110, lt110, sh113, lt113, en_ops, en_opc, iI_add, iI_mul, iI_sub, jL_add, jL_mul, iI_le, iI_lt, iI_eq, iI_eq0, iI_lt0, iI_0le, iI_le0, iI_0lt, jL_iI, iI_jL, lc_eq, lc_lt, lc_le, lc_ge, lc_gt, Nat.sub_zero, Nat.zero_le, true_and, and_true, Nat.reduceAdd, Nat.reduceLeDiff]
    refine ⟨0, rfl, by decide, ?_⟩
    rw [e0]
    simp (disch := omega) only [en_ops, en_opc, iI_add, iI_mul, iI_sub, jL_add, jL_mul, iI_le, iI_lt, iI_eq, iI_eq0, iI_lt0, iI_0le, iI_le0, iI_0lt, jL_iI, iI_jL, lc_eq, lc_lt, lc_le, lc_ge, lc_gt, Nat.sub_zero, Nat.zero_le, true_and, and_true, Nat.reduceAdd, Nat.reduceLeDiff]
    exact ⟨fun _ => H, fun e => absurd (Int.le_refl _) e⟩
  · rw [sumTo_s] at ih
    apply s_X11_allWords_4
    simp (disch := omega) only [B_X11_allWords_4, r10, sh110, lt110, sh113, lt113, en_ops, en_opc, iI_add, iI_mul, iI_sub, jL_add, jL_mul, iI_le, iI_lt, iI_eq, iI_eq0, iI_lt0, iI_0le, iI_le0, iI_0lt, jL_iI, iI_jL, lc_eq, lc_lt, lc_le, lc_ge, lc_gt, Nat.sub_zero, Nat.zero_le, true_and, and_true, Nat.reduceAdd, Nat.reduceLeDiff]
    refine ⟨0, rfl, by decide, ?_⟩
    rw [e0]
    simp (disch := omega) only [en_ops, en_opc, iI_add, iI_mul, iI_sub, jL_add, jL_mul, iI_le, iI_lt, iI_eq, iI_eq0, iI_lt0, iI_0le, iI_le0, iI_0lt, jL_iI, iI_jL, lc_eq, lc_lt, lc_le, lc_ge, lc_gt, Nat.sub_zero, Nat.zero_le, true_and, and_true, Nat.reduceAdd, Nat.reduceLeDiff]
    refine ⟨fun e => by omega, fun _ => m_wordOf (d := d) hR hs hb hn hB hH (by omega) ?_⟩
    simp (disch := omega) only [en_ops, en_opc, iI_add, iI_mul, iI_sub, jL_add, jL_mul, iI_le, iI_lt, iI_eq, iI_eq0, iI_lt0, iI_0le, iI_le0, iI_0lt, jL_iI, iI_jL, lc_eq, lc_lt, lc_le, lc_ge, lc_gt, Nat.sub_zero, Nat.zero_le, true_and, and_true, Nat.reduceAdd, Nat.reduceLeDiff]
    exact ih
/-- long division by tens -/
theorem byA {v a : Int} (hv : 0 ≤ v) (ha : 0 < a) (k : Int) (hk : 0 ≤ k) : 10 * (v * k / a) + (v * k % a * 10) / a = v * (k * 10) / a ∧ (v * k % a * 10) % a = v * (k * 10) % a := by
  have e : v * (k * 10) = v * k % a * 10 + a * (10 * (v * k / a)) := by
    have h1 := Int.emod_add_mul_ediv (v * k) a
    have h2 : a * (10 * (v * k / a)) = 10 * (a * (v * k / a)) := by rw [← Int.mul_assoc, Int.mul_comm a 10, Int.mul_assoc]
    rw [h2, ← Int.mul_assoc]
    generalize v * k % a = r at *
    generalize a * (v * k / a) = m at *
    omega
  rw [e, Int.add_mul_ediv_left _ _ (by omega), Int.add_mul_emod_self_left]
  exact ⟨by omega, rfl⟩
theorem m_byAll {v a : Int} (hv : 0 ≤ v) (hv2 : v ≤ 200 * a) (ha : 0 < a) (ha2 : a ≤ 100000000000000) (H : K (.inl (some (.int (iI (1000 * v / a))))) hi hl hr) : en_Call G (d + 1) xc xs Y_X11_byAll wN wN [.long (jL v), .long (jL a)] hi hl hr K := by
  have q0 : 0 ≤ v / a := Int.ediv_nonneg hv (by omega)
  have er : v - v / a * a = v % a := by rw [Int.emod_def, Int.mul_comm]
  have rg : ∀ x : Int, 0 ≤ x % a ∧ x % a < a := fun x => ⟨Int.emod_nonneg x (by omega), Int.emod_lt_of_pos x ha⟩
  have qg : ∀ k : Int, 0 ≤ k → k ≤ 1000 → 0 ≤ v * k / a ∧ v * k / a ≤ 200000 := fun k k0 k1 => by
    refine ⟨Int.ediv_nonneg (Int.mul_nonneg hv k0) (by omega), ?_⟩
    refine Int.ediv_le_of_le_mul ha ?_
    have := Int.mul_le_mul hv2 k1 k0 (by omega)
    omega
  apply en_X11_byAll
  simp (disch := omega) only [B_X11_byAll_0, en_ops, en_opc, iI_add, iI_mul, iI_sub, jL_add, jL_mul, iI_le, iI_lt, iI_eq, iI_eq0, iI_lt0, iI_0le, iI_le0, iI_0lt, jL_iI, iI_jL, lc_eq, lc_lt, lc_le, lc_ge, lc_gt, Nat.sub_zero, Nat.zero_le, true_and, and_true, Nat.reduceAdd, Nat.reduceLeDiff]
  refine ⟨by rw [jL_eq0 (by omega) (by omega)]; omega, by rw [jL_eq0 (by omega) (by omega)]; omega, ?_⟩
  rw [jL_div hv (by omega) ha (by omega), jL_mul, jL_sub, er]
  suffices L : ∀ i : Nat, i ≤ 3 → en_V G Y_X11_byAll (d + 1) wN wN K 13 [.long (jL v), jk, .long (jL a), jk, .long (jL (v * 10 ^ i / a)), jk, .long (jL (v * 10 ^ i % a)), jk, .int (iI (i : Int))] [] hi hl hr xc xs by
    have := L 0 (by omega)
    rw [show v * (10 : Int) ^ 0 = v by rw [Int.pow_zero, Int.mul_one]] at this
    exact this
  refine lp 3 ?_ (fun i hi9 ih => ?_)
  · apply s_X11_byAll_13
    simp (disch := omega) only [B_X11_byAll_13, en_ops, en_opc, iI_add, iI_mul, iI_sub, jL_add, jL_mul, iI_le, iI_lt, iI_eq, iI_eq0, iI_lt0, iI_0le, iI_le0, iI_0lt, jL_iI, iI_jL, lc_eq, lc_lt, lc_le, lc_ge, lc_gt, Nat.sub_zero, Nat.zero_le, true_and, and_true, Nat.reduceAdd, Nat.reduceLeDiff]
    refine ⟨fun _ => ?_, fun e => absurd (show (3 : Int) ≤ ((3 : Nat) : Int) by omega) e⟩
    rw [show v * (10 : Int) ^ 3 = 1000 * v by rw [Int.mul_comm]; rfl]
    exact H
  · have kr : (0 : Int) ≤ 10 ^ i ∧ (10 : Int) ^ i ≤ 100 := by rcases (show i = 0 ∨ i = 1 ∨ i = 2 by omega) with rfl | rfl | rfl <;> decide
    obtain ⟨b1, b2⟩ := byA hv ha (10 ^ i) kr.1
    have r1 := rg (v * 10 ^ i)
    have q1 := qg (10 ^ i) kr.1 (by omega)
    rw [Int.pow_succ, ← b1, ← b2] at ih
    generalize hq : v * 10 ^ i / a = q at *
    generalize hrr : v * 10 ^ i % a = r at *
    have d0 : 0 ≤ r * 10 / a := Int.ediv_nonneg (by omega) (by omega)
    have em : r * 10 - r * 10 / a * a = r * 10 % a := by rw [Int.emod_def, Int.mul_comm]
    apply s_X11_byAll_13
    simp (disch := omega) only [B_X11_byAll_13, en_ops, en_opc, iI_add, iI_mul, iI_sub, jL_add, jL_mul, iI_le, iI_lt, iI_eq, iI_eq0, iI_lt0, iI_0le, iI_le0, iI_0lt, jL_iI, iI_jL, lc_eq, lc_lt, lc_le, lc_ge, lc_gt, Nat.sub_zero, Nat.zero_le, true_and, and_true, Nat.reduceAdd, Nat.reduceLeDiff]
    refine ⟨fun e => by omega, fun _ => ⟨by rw [jL_eq0 (by omega) (by omega)]; omega, ?_⟩⟩
    rw [jL_div (by omega) (by omega) (by omega) (by omega)]
    simp (disch := omega) only [en_ops, en_opc, iI_add, iI_mul, iI_sub, jL_add, jL_mul, iI_le, iI_lt, iI_eq, iI_eq0, iI_lt0, iI_0le, iI_le0, iI_0lt, jL_iI, iI_jL, lc_eq, lc_lt, lc_le, lc_ge, lc_gt, Nat.sub_zero, Nat.zero_le, true_and, and_true, Nat.reduceAdd, Nat.reduceLeDiff]
    refine ⟨by rw [jL_eq0 (by omega) (by omega)]; omega, ?_⟩
    rw [jL_mul, jL_sub, em]
    exact ih
theorem gw_B (hB : fB nc nz f) (b0 : nc ≤ 12) (b1 : nz ≤ 6) (hH : rhH nh hd hi) : gB nc (wdP f nz nh (hdG hd)) := wdP_B hB b0 b1 hH.2.1 (fun i hi9 => by obtain ⟨-, -, t5, t6⟩ := hH.2.2 i hi9; unfold hdG; omega)
theorem m_farNear (hR : rfR hr) (hs : rfH f hi) (hb : rfB b hi) (hn : rfN nc nz b) (hB : fB nc nz f) (hH : rhH nh hd hi)
    (H : K (.inl (some (.int (iI (hfP nc (wdP f nz nh (hdG hd))))))) hi hl hr) : en_Call G (d + 6) xc xs Y_X11_farNear wN wN [.ref 110] hi hl hr K := by
  obtain ⟨n0, n1, n12, n6⟩ := id hn
  obtain ⟨⟨-, -, r10, -, r12, -⟩, -⟩ := id hR
  have e0 : hi 113 0 = iI nc := by rw [hb 0 (by omega), n0]
  have hg := gw_B hB n12 n6 hH
  have r1 := hg.s (n := nc) (Nat.le_refl _)
  have wd : ∀ {K' : en_K} {c : Nat}, c < nc → K' (.inl (some (.long (jL (wdP f nz nh (hdG hd) c))))) hi hl hr → en_Call G (d + 5) 0 0 Y_X11_wordOf wN wN [.ref 110, .int (iI (c : Int))] hi hl hr K' := fun hc h => m_wordOf (d := d + 1) hR hs hb hn hB hH (by omega) h
  have hall : ∀ {K' : en_K}, K' (.inl (some (.long (jL (sumTo nc (wdP f nz nh (hdG hd))))))) hi hl hr → en_Call G (d + 5) 0 0 Y_X11_allWords wN wN [.ref 110] hi hl hr K' := fun h => m_allWords (d := d) hR hs hb hn hB hH h
  generalize wdP f nz nh (hdG hd) = g at *
  apply en_X11_farNear
  simp (disch := omega) only [B_X11_farNear_0, sh110, lt110, en_ops, en_opc, iI_add, iI_mul, iI_sub, jL_add, jL_mul, iI_le, iI_lt, iI_eq, iI_eq0, iI_lt0, iI_0le, iI_le0, iI_0lt, jL_iI, iI_jL, lc_eq, lc_lt, lc_le, lc_ge, lc_gt, Nat.sub_zero, Nat.zero_le, true_and, and_true, Nat.reduceAdd, Nat.reduceLeDiff]
  refine hall ?_
  simp (disch := omega) only [en_ops, en_opc, iI_add, iI_mul, iI_sub, jL_add, jL_mul, iI_le, iI_lt, iI_eq, iI_eq0, iI_lt0, iI_0le, iI_le0, iI_0lt, jL_iI, iI_jL, lc_eq, lc_lt, lc_le, lc_ge, lc_gt, Nat.sub_zero, Nat.zero_le, true_and, and_true, Nat.reduceAdd, Nat.reduceLeDiff]
  refine ⟨fun e => ?_, fun e => ?_⟩
  · have hO : hfP nc g = 1000 * faP nc g (neF (faP nc g) nc).toNat / sumTo nc g := if_neg (by omega)
    rw [hO] at H
    have fr : ∀ c, c < nc → 0 ≤ faP nc g c ∧ faP nc g c ≤ 12 * sumTo nc g := fun c hc => faP_r hg hc (Nat.le_refl _)
    have lv : ∀ c : Nat, 1 ≤ c → c ≤ nc → 0 ≤ neF (faP nc g) c ∧ neF (faP nc g) c < c := fun c h1 h2 => by have := neF_r (g := faP nc g) c; have := this.2.2 (by omega); omega
    have nc0 : nc ≠ 0 := fun e0 => by subst e0; exact absurd (show sumTo 0 g = 0 from rfl) (by omega)
    suffices L : ∀ c : Nat, c ≤ nc → ∀ (x6 x8 : Value) (l : Int), (c ≠ 0 → l = faP nc g (neF (faP nc g) c).toNat) → (c = 0 → l = 0) → en_V G Y_X11_farNear (d + 6) wN wN K 18 [.ref 110, .long (jL (sumTo nc g)), jk, .long (jL l), jk, .int (iI (c : Int)), x6, jk, x8] [] hi hl hr xc xs from L 0 (by omega) _ _ 0 (fun e => absurd rfl e) (fun _ => rfl)
    refine lp nc (fun x6 x8 l hl1 hl0 => ?_) (fun c hc ih x6 x8 l hl1 hl0 => ?_)
    · have l9 := hl1 nc0
      obtain ⟨b0, b1⟩ := lv nc (by omega) (Nat.le_refl _)
      have f9 := fr (neF (faP nc g) nc).toNat (by omega)
      rw [← l9] at H f9
      apply s_X11_farNear_18
      simp (disch := omega) only [B_X11_farNear_18, r10, sh110, lt110, sh113, lt113, en_ops, en_opc, iI_add, iI_mul, iI_sub, jL_add, jL_mul, iI_le, iI_lt, iI_eq, iI_eq0, iI_lt0, iI_0le, iI_le0, iI_0lt, jL_iI, iI_jL, lc_eq, lc_lt, lc_le, lc_ge, lc_gt, Nat.sub_zero, Nat.zero_le, true_and, and_true, Nat.reduceAdd, Nat.reduceLeDiff]
      refine ⟨0, rfl, by decide, ?_⟩
      rw [e0]
      simp (disch := omega) only [en_ops, en_opc, iI_add, iI_mul, iI_sub, jL_add, jL_mul, iI_le, iI_lt, iI_eq, iI_eq0, iI_lt0, iI_0le, iI_le0, iI_0lt, jL_iI, iI_jL, lc_eq, lc_lt, lc_le, lc_ge, lc_gt, Nat.sub_zero, Nat.zero_le, true_and, and_true, Nat.reduceAdd, Nat.reduceLeDiff]
      refine ⟨fun _ => m_byAll (by omega) (by omega) (by omega) (by omega) ?_, fun e => absurd (Int.le_refl _) e⟩
      simp (disch := omega) only [en_ops, en_opc, iI_add, iI_mul, iI_sub, jL_add, jL_mul, iI_le, iI_lt, iI_eq, iI_eq0, iI_lt0, iI_0le, iI_le0, iI_0lt, jL_iI, iI_jL, lc_eq, lc_lt, lc_le, lc_ge, lc_gt, Nat.sub_zero, Nat.zero_le, true_and, and_true, Nat.reduceAdd, Nat.reduceLeDiff]
      exact H
    · apply s_X11_farNear_18
      simp (disch := omega) only [B_X11_farNear_18, r10, sh110, lt110, sh113, lt113, en_ops, en_opc, iI_add, iI_mul, iI_sub, jL_add, jL_mul, iI_le, iI_lt, iI_eq, iI_eq0, iI_lt0, iI_0le, iI_le0, iI_0lt, jL_iI, iI_jL, lc_eq, lc_lt, lc_le, lc_ge, lc_gt, Nat.sub_zero, Nat.zero_le, true_and, and_true, Nat.reduceAdd, Nat.reduceLeDiff]
      refine ⟨0, rfl, by decide, ?_⟩
      rw [e0]
      simp (disch := omega) only [en_ops, en_opc, iI_add, iI_mul, iI_sub, jL_add, jL_mul, iI_le, iI_lt, iI_eq, iI_eq0, iI_lt0, iI_0le, iI_le0, iI_0lt, jL_iI, iI_jL, lc_eq, lc_lt, lc_le, lc_ge, lc_gt, Nat.sub_zero, Nat.zero_le, true_and, and_true, Nat.reduceAdd, Nat.reduceLeDiff]
      refine ⟨fun e => by omega, fun _ => ?_⟩
      suffices L2 : ∀ o : Nat, o ≤ nc → en_V G Y_X11_farNear (d + 6) wN wN K 35 [.ref 110, .long (jL (sumTo nc g)), jk, .long (jL l), jk, .int (iI (c : Int)), .long (jL (sumTo o (faI g c))), jk, .int (iI (o : Int))] [] hi hl hr xc xs from L2 0 (by omega)
      have fc := fr c hc
      refine lp nc ?_ (fun o ho ih2 => ?_)
      · have ef : sumTo nc (faI g c) = faP nc g c := rfl
        rw [ef]
        have nx : ∀ l' : Int, l' = faP nc g (neF (faP nc g) (c + 1)).toNat → en_V G Y_X11_farNear (d + 6) wN wN K 18 [.ref 110, .long (jL (sumTo nc g)), jk, .long (jL l'), jk, .int (iI ((c : Int) + 1)), .long (jL (faP nc g c)), jk, .int (iI (nc : Int))] [] hi hl hr xc xs := fun l' h9 => ih _ _ l' (fun _ => h9) (fun e => by omega)
        have st : neF (faP nc g) (c + 1) = if neF (faP nc g) c = -1 ∨ faP nc g c < faP nc g (neF (faP nc g) c).toNat then (c : Int) else neF (faP nc g) c := rfl
        apply s_X11_farNear_35
        simp (disch := omega) only [B_X11_farNear_35, r10, sh110, lt110, sh113, lt113, en_ops, en_opc, iI_add, iI_mul, iI_sub, jL_add, jL_mul, iI_le, iI_lt, iI_eq, iI_eq0, iI_lt0, iI_0le, iI_le0, iI_0lt, jL_iI, iI_jL, lc_eq, lc_lt, lc_le, lc_ge, lc_gt, Nat.sub_zero, Nat.zero_le, true_and, and_true, Nat.reduceAdd, Nat.reduceLeDiff]
        refine ⟨0, rfl, by decide, ?_⟩
        rw [e0]
        by_cases c0 : c = 0
        · subst c0
          have z1 : neF (faP nc g) 1 = 0 := if_pos (Or.inl rfl)
          simp (disch := omega) only [en_ops, en_opc, iI_add, iI_mul, iI_sub, jL_add, jL_mul, iI_le, iI_lt, iI_eq, iI_eq0, iI_lt0, iI_0le, iI_le0, iI_0lt, jL_iI, iI_jL, lc_eq, lc_lt, lc_le, lc_ge, lc_gt, Nat.sub_zero, Nat.zero_le, true_and, and_true, Nat.reduceAdd, Nat.reduceLeDiff]
          refine ⟨fun _ => ⟨fun e => absurd rfl e, fun _ => ?_⟩, fun e => absurd (Int.le_refl _) e⟩
          exact nx _ (by rw [z1]; rfl)
        · obtain ⟨b0, b1⟩ := lv c (by omega) (by omega)
          have l9 := hl1 c0
          have fl := fr (neF (faP nc g) c).toNat (by omega)
          rw [← l9] at fl
          simp (disch := omega) only [en_ops, en_opc, iI_add, iI_mul, iI_sub, jL_add, jL_mul, iI_le, iI_lt, iI_eq, iI_eq0, iI_lt0, iI_0le, iI_le0, iI_0lt, jL_iI, iI_jL, lc_eq, lc_lt, lc_le, lc_ge, lc_gt, Nat.sub_zero, Nat.zero_le, true_and, and_true, Nat.reduceAdd, Nat.reduceLeDiff]
          refine ⟨fun _ => ⟨fun e => ⟨fun e2 => nx _ ?_, fun e2 => nx _ ?_⟩, fun e => by omega⟩, fun e => absurd (Int.le_refl _) e⟩
          · rw [st, if_neg (by rw [← l9]; omega)]; exact l9
          · rw [st, if_pos (by rw [← l9]; omega), show ((c : Int)).toNat = c by omega]
      · rw [sumTo_s] at ih2
        have f1 := faP_r hg hc (n := o) (by omega)
        have fi := faI_r hg hc ho
        obtain ⟨g0, g1⟩ := hg.2 o ho
        have fd : faI g c o = (if (o : Int) - c < 0 then -((o : Int) - c) else (o : Int) - c) * g o := rfl
        apply s_X11_farNear_35
        simp (disch := omega) only [B_X11_farNear_35, r10, sh110, lt110, sh113, lt113, en_ops, en_opc, iI_add, iI_mul, iI_sub, jL_add, jL_mul, iI_le, iI_lt, iI_eq, iI_eq0, iI_lt0, iI_0le, iI_le0, iI_0lt, jL_iI, iI_jL, lc_eq, lc_lt, lc_le, lc_ge, lc_gt, Nat.sub_zero, Nat.zero_le, true_and, and_true, Nat.reduceAdd, Nat.reduceLeDiff]
        refine ⟨0, rfl, by decide, ?_⟩
        rw [e0]
        simp (disch := omega) only [en_ops, en_opc, iI_add, iI_mul, iI_sub, jL_add, jL_mul, iI_le, iI_lt, iI_eq, iI_eq0, iI_lt0, iI_0le, iI_le0, iI_0lt, jL_iI, iI_jL, lc_eq, lc_lt, lc_le, lc_ge, lc_gt, Nat.sub_zero, Nat.zero_le, true_and, and_true, Nat.reduceAdd, Nat.reduceLeDiff]
        refine ⟨fun e => by omega, fun _ => wd ho ?_⟩
        simp (disch := omega) only [en_ops, en_opc, iI_add, iI_mul, iI_sub, jL_add, jL_mul, iI_le, iI_lt, iI_eq, iI_eq0, iI_lt0, iI_0le, iI_le0, iI_0lt, jL_iI, iI_jL, lc_eq, lc_lt, lc_le, lc_ge, lc_gt, Nat.sub_zero, Nat.zero_le, true_and, and_true, Nat.reduceAdd, Nat.reduceLeDiff]
        refine ⟨fun e => ?_, fun e => ?_⟩
        · rw [fd, if_neg (by omega), Int.mul_comm] at ih2; exact ih2
        · rw [fd, if_pos (by omega), Int.mul_comm, show -((o : Int) - c) = c - o by omega] at ih2; exact ih2
  · have hO : hfP nc g = -1 := if_pos (by omega)
    rw [hO] at H
    exact H
end
-- DRAFT 68
/-! links: what the reference does at length, the class does shorter -/
section
variable {E : hEnv} {q q0 : hSt} {Y : hYr} {c : Nat} {w : Int × Int × Int} {s : Int × Int × Int}
def lkR (c : Nat) (q0 q : hSt) (s : Int × Int × Int) : Prop := s.2.1 = q.2.1 c ∧ s.2.2 = q.2.2.2.2.2 ∧ s.1 = q.2.2.1 c - q0.2.2.1 c
theorem lkR.h (h : lkR c q0 q s) (hc : c < E.2.1) : lkR c q0 (hrP E w q) (o1P E.1 c w s) := by
  obtain ⟨h1, h2, h3⟩ := h
  have ec : (hrP E w q).2.1 c = cr2 E.1 w.1 w.2.1 w.2.2 q.2.1 E.2.1 c := rfl
  have eo : (hrP E w q).2.2.1 c = ov2 E.1 w.1 w.2.1 w.2.2 q.2.1 q.2.2.1 E.2.1 c := rfl
  have eh : (hrP E w q).2.2.2.2.2 = q.2.2.2.2.2 + 1 := rfl
  unfold lkR
  rw [ec, eo, eh]
  unfold o1P cr2 ov2
  rw [h1]
  by_cases g : q.2.1 c < E.1 2 (nmL 0 0 0 0 w.1 w.2.1 w.2.2 (q.2.1 c) c)
  · rw [if_pos g, if_pos ⟨hc, g⟩, if_pos ⟨hc, g⟩]
    refine ⟨rfl, ?_, ?_⟩
    · show s.2.2 + 1 = _; omega
    · show s.1 + 1 = _; omega
  · rw [if_neg g, if_neg (fun g2 => g g2.2), if_neg (fun g2 => g g2.2)]
    refine ⟨rfl, ?_, ?_⟩
    · show s.2.2 + 1 = _; omega
    · exact h3
theorem lkR.r (h : lkR c q0 q s) (hc : c < E.2.1) : ∀ k, lkR c q0 (rpP E w k q) (ocP E.1 c w k s) := by
  intro k
  induction k with
  | zero => exact h
  | succ k ih =>
    show lkR c q0 (if (rpP E w k q).2.2.2.2.2 < 600 then hrP E w (rpP E w k q) else rpP E w k q) (if (ocP E.1 c w k s).2.2 < 600 then o1P E.1 c w (ocP E.1 c w k s) else ocP E.1 c w k s)
    have e := ih.2.1
    by_cases g : (rpP E w k q).2.2.2.2.2 < 600
    · rw [if_pos g, if_pos (by omega)]; exact ih.h hc
    · rw [if_neg g, if_neg (by omega)]; exact ih
theorem lk_year (hc : c < E.2.1) : ∀ n, lkR c q (yrP E Y n q) (oyP E.1 c Y n (0, q.2.1 c, q.2.2.2.2.2)) := by
  intro n
  induction n with
  | zero => exact ⟨rfl, rfl, by show (0 : Int) = q.2.2.1 c - q.2.2.1 c; omega⟩
  | succ n ih => exact ih.r hc _
theorem lk_ov {n : Nat} (hc : c < E.2.1) : (yrP E Y n q).2.2.1 c = q.2.2.1 c + oyN E.1 Y n q.2.2.2.2.2 c (q.2.1 c) := by
  have := (lk_year (q := q) (Y := Y) hc n).2.2
  unfold oyN
  omega
/-- crests raised -/
def rzC (cr : Nat → Int) (b : Nat) (m : Int) (nc c : Nat) : Int := if c < nc ∧ b.testBit c = true then cr c + m else cr c
theorem rs_link {V : Nat → (Nat → Int) → Int} {n nc b : Nat} {h m : Int} {cr : Nat → Int} (hnc : nc ≤ 12) (hb : b < 2 ^ nc) : sumTo nc (fun c => oyN V Y n h c (rzC cr b m nc c)) = rsP V Y n h cr m nc b := by
  have e1 : fbP (fwP V Y n h cr m) b = sumTo nc (fun c => if b.testBit c = true then fwP V Y n h cr m c else 0) := sumTo_part hnc (fun i h1 h2 => if_neg (fun g => by have := bit_lt hb g; omega))
  have e2 : sumTo nc (fun c => oyN V Y n h c (rzC cr b m nc c) + (if b.testBit c = true then fwP V Y n h cr m c else 0)) = plP V Y n h cr nc := sumTo_congr (fun c hc => by
    unfold rzC fwP
    by_cases g : b.testBit c = true
    · rw [if_pos ⟨hc, g⟩, if_pos g]; omega
    · rw [if_neg (fun g2 => g g2.2), if_neg g]; omega)
  rw [sumTo_add, ← e1] at e2
  unfold rsP
  omega
theorem bw_one {nc w' : Nat} {p : Int} {wl : Nat → Int} (hw : w' < nc) (c : Nat) : bwP nc (2 ^ w') p wl c = if c = w' then p else wl c := by
  unfold bwP
  rw [Nat.testBit_two_pow]
  by_cases e : c = w'
  · subst e; rw [if_pos rfl, if_pos ⟨hw, by simp⟩]
  · rw [if_neg e, if_neg (fun g => e (by have := g.2; simp at this; omega))]
theorem lsF_ne {P : Nat → Bool} {g : Nat → Int} {s0 : Int} : ∀ n, (∃ i, i < n ∧ P i = true) → (lsF P g s0 n).1 ≠ -1 := by
  intro n
  induction n with
  | zero => exact fun ⟨i, hi, _⟩ => by omega
  | succ n ih =>
    intro ⟨i, hi, hp⟩
    show (if P n = true ∧ ((lsF P g s0 n).1 = -1 ∨ g n < (lsF P g s0 n).2) then ((n : Int), g n) else lsF P g s0 n).1 ≠ -1
    split
    · show (n : Int) ≠ -1; omega
    next q9 =>
      by_cases e : i = n
      · subst e; exact fun z => q9 ⟨hp, Or.inl z⟩
      · exact ih ⟨i, by omega, hp⟩
theorem gtF_ne {P : Nat → Bool} {g : Nat → Int} {s0 : Int} : ∀ n, (∃ i, i < n ∧ P i = true) → (gtF P g s0 n).1 ≠ -1 := by
  intro n
  induction n with
  | zero => exact fun ⟨i, hi, _⟩ => by omega
  | succ n ih =>
    intro ⟨i, hi, hp⟩
    show (if P n = true ∧ ((gtF P g s0 n).1 = -1 ∨ (gtF P g s0 n).2 < g n) then ((n : Int), g n) else gtF P g s0 n).1 ≠ -1
    split
    · show (n : Int) ≠ -1; omega
    next q9 =>
      by_cases e : i = n
      · subst e; exact fun z => q9 ⟨hp, Or.inl z⟩
      · exact ih ⟨i, by omega, hp⟩
theorem lsF_s0 {P : Nat → Bool} {g : Nat → Int} {s0 s1 : Int} : ∀ n, (lsF P g s0 n).1 = (lsF P g s1 n).1 ∧ ((lsF P g s0 n).1 ≠ -1 → (lsF P g s0 n).2 = (lsF P g s1 n).2) := by
  intro n
  induction n with
  | zero => exact ⟨rfl, fun e => absurd rfl e⟩
  | succ n ih =>
    obtain ⟨i1, i2⟩ := ih
    show (if P n = true ∧ ((lsF P g s0 n).1 = -1 ∨ g n < (lsF P g s0 n).2) then ((n : Int), g n) else lsF P g s0 n).1 = (if P n = true ∧ ((lsF P g s1 n).1 = -1 ∨ g n < (lsF P g s1 n).2) then ((n : Int), g n) else lsF P g s1 n).1 ∧ ((if P n = true ∧ ((lsF P g s0 n).1 = -1 ∨ g n < (lsF P g s0 n).2) then ((n : Int), g n) else lsF P g s0 n).1 ≠ -1 → (if P n = true ∧ ((lsF P g s0 n).1 = -1 ∨ g n < (lsF P g s0 n).2) then ((n : Int), g n) else lsF P g s0 n).2 = (if P n = true ∧ ((lsF P g s1 n).1 = -1 ∨ g n < (lsF P g s1 n).2) then ((n : Int), g n) else lsF P g s1 n).2)
    have same : (P n = true ∧ ((lsF P g s0 n).1 = -1 ∨ g n < (lsF P g s0 n).2)) ↔ (P n = true ∧ ((lsF P g s1 n).1 = -1 ∨ g n < (lsF P g s1 n).2)) := by
      by_cases e : (lsF P g s0 n).1 = -1
      · constructor
        · exact fun h => ⟨h.1, Or.inl (by rw [← i1]; exact e)⟩
        · exact fun h => ⟨h.1, Or.inl e⟩
      · rw [i2 e, i1]
    by_cases h : P n = true ∧ ((lsF P g s0 n).1 = -1 ∨ g n < (lsF P g s0 n).2)
    · rw [if_pos h, if_pos (same.mp h)]; exact ⟨rfl, fun _ => rfl⟩
    · rw [if_neg h, if_neg (fun z => h (same.mpr z))]; exact ⟨i1, i2⟩
theorem pk_ex {k n : Nat} (h1 : 1 ≤ k) (h3 : k ≤ 3) (hk : k ≤ n) : ∃ i, i < 2 ^ n ∧ pkB k i = true := by
  refine ⟨2 ^ k - 1, ?_, ?_⟩
  · have := Nat.pow_le_pow_right (n := 2) (by decide) hk
    have := Nat.one_le_two_pow (n := k)
    omega
  · rcases (show k = 1 ∨ k = 2 ∨ k = 3 by omega) with rfl | rfl | rfl <;> decide
theorem dr_link {V : Nat → (Nat → Int) → Int} {n : Nat} {h m : Int} {cr : Nat → Int} (h0 : 0 ≤ h) (h6 : h ≤ 600) : ∀ nc, (drB V Y n h cr m nc = true ↔ sumTo nc (fun c => oyN V Y n h c (cr c + m)) = 0) := by
  intro nc
  induction nc with
  | zero => exact ⟨fun _ => rfl, fun _ => rfl⟩
  | succ nc ih =>
    have r1 := sumTo_nn (n := nc) (f := fun c => oyN V Y n h c (cr c + m)) (fun c _ => (oyN_r h0 h6).1)
    have r2 := oyN_r (V := V) (Y := Y) (n := n) (c := nc) (top := cr nc + m) h0 h6
    have sd : drB V Y n h cr m (nc + 1) = (drB V Y n h cr m nc && decide (oyN V Y n h nc (cr nc + m) = 0)) := rfl
    rw [sd, sumTo_s, Bool.and_eq_true, ih, decide_eq_true_iff]
    constructor
    · exact fun ⟨a, b⟩ => by omega
    · exact fun a => ⟨by omega, by omega⟩
end
-- DRAFT 69
section
variable {G : en_G} {d : Nat} {K : en_K} {W : zW} {n : Nat} {hi : en_I} {hl : en_L} {hr : en_F} {xc xs : Nat}
theorem InvC.o (h : InvC G W hi hr) : hr 0 9 = .ref 16 ∧ shR 16 hr ∧ xcH 16 (zE W) (zS W) hi := by
  obtain ⟨pl, h1, h2⟩ := h
  exact ⟨h1.1.2.2.2.2.2.1, h1.2.2.2.2.1.2.2.2.2, h2.2.2.2.2.2.2.2.2.2.1⟩
theorem zOK.f (h : zOK n W) : fB (zE W).2.1 (zE W).2.2.1 (zS W).1.1 := h.2.2.2.2.2.2.2.2.2.1.1
theorem zOK.c (h : zOK n W) : (zE W).2.1 ≤ 12 ∧ (zE W).2.2.1 ≤ 6 := h.2.2.2.2.2.2.2.2.1
theorem is16 : isSh 16 := Or.inl rfl
theorem iRg_n {k : Nat} (h : k < 2147483648) : iRg (k : Int) := by unfold iRg; omega
theorem iRg_i {k : Int} (h : -1000000 ≤ k) (h2 : k ≤ 1000000) : iRg k := by unfold iRg; omega
abbrev inC (W : zW) (c : Int) : Prop := 0 ≤ c ∧ c < (zE W).2.1
abbrev inZ (W : zW) (z : Int) : Prop := 0 ≤ z ∧ z < (zE W).2.2.1
theorem c_mean {c : Int} (hI : InvC G W hi hr) (hz : zOK n W) (h1 : 1 ≤ xc) (h6 : 6 ≤ xs) (hc : iRg c) (H : cEnd G W W (if inC W c then 0 else 1) (.int (iI (mnP (zS W).1.1 (zE W).2.2.1 c.toNat))) K hi hl hr) : en_Call G (d + 4) xc xs Y_X10_mean wN wN [.ref 0, .int (iI c)] hi hl hr K := by
  obtain ⟨r9, hS, hX⟩ := hI.o
  have nc12 := hz.c.1
  apply en_X10_mean
  simp (disch := omega) only [B_X10_mean_0, sh0, lt0, en_ops, en_opc, iI_add, iI_mul, iI_sub, jL_add, jL_mul, iI_le, iI_lt, iI_eq, iI_eq0, iI_lt0, iI_0le, iI_le0, iI_0lt, jL_iI, iI_jL, lc_eq, lc_lt, lc_le, lc_ge, lc_gt, Nat.sub_zero, Nat.zero_le, true_and, and_true, Nat.reduceAdd, Nat.reduceLeDiff]
  refine c_isCell hI hz hc ?_
  by_cases e : inC W c
  · rw [if_pos e]
    rw [if_pos e] at H
    simp (disch := omega) only [sh0, lt0, en_ops, en_opc, iI_add, iI_mul, iI_sub, jL_add, jL_mul, iI_le, iI_lt, iI_eq, iI_eq0, iI_lt0, iI_0le, iI_le0, iI_0lt, jL_iI, iI_jL, lc_eq, lc_lt, lc_le, lc_ge, lc_gt, Nat.sub_zero, Nat.zero_le, true_and, and_true, Nat.reduceAdd, Nat.reduceLeDiff]
    refine ⟨h1, h6, c_needPlace hI hz (Nat.le_refl _) (Nat.le_refl _) (Or.inr rfl) (fun _ => ?_) (fun e => absurd e (by decide))⟩
    simp (disch := omega) only [r9, sh0, lt0, sh16, lt16, en_ops, en_opc, iI_add, iI_mul, iI_sub, jL_add, jL_mul, iI_le, iI_lt, iI_eq, iI_eq0, iI_lt0, iI_0le, iI_le0, iI_0lt, jL_iI, iI_jL, lc_eq, lc_lt, lc_le, lc_ge, lc_gt, Nat.sub_zero, Nat.zero_le, true_and, and_true, Nat.reduceAdd, Nat.reduceLeDiff]
    rw [show c = ((c.toNat : Nat) : Int) by omega]
    refine t_meanOf (d := d) is16 hS hX.1.1 hz.f (by omega) ?_
    simp (disch := omega) only [en_ops, en_opc, iI_add, iI_mul, iI_sub, jL_add, jL_mul, iI_le, iI_lt, iI_eq, iI_eq0, iI_lt0, iI_0le, iI_le0, iI_0lt, jL_iI, iI_jL, lc_eq, lc_lt, lc_le, lc_ge, lc_gt, Nat.sub_zero, Nat.zero_le, true_and, and_true, Nat.reduceAdd, Nat.reduceLeDiff]
    exact H.1 rfl hi hl hr hI Fc.rf Fc.rf Fc.rf
  · rw [if_neg e]
    rw [if_neg e] at H
    simp (disch := omega) only [sh0, lt0, en_ops, en_opc, iI_add, iI_mul, iI_sub, jL_add, jL_mul, iI_le, iI_lt, iI_eq, iI_eq0, iI_lt0, iI_0le, iI_le0, iI_0lt, jL_iI, iI_jL, lc_eq, lc_lt, lc_le, lc_ge, lc_gt, Nat.sub_zero, Nat.zero_le, true_and, and_true, Nat.reduceAdd, Nat.reduceLeDiff]
    exact ⟨h1, h6, c_needPlace hI hz (Nat.le_refl _) (Nat.le_refl _) (Or.inl rfl) (fun e => absurd e (by decide)) (fun _ hi' I' F' => H.2 0 (by omega) rfl hi' hl hr I' F' Fc.rf Fc.rf)⟩
theorem c_sound {c : Int} (hI : InvC G W hi hr) (hz : zOK n W) (h1 : 1 ≤ xc) (h6 : 6 ≤ xs) (hc : iRg c) (H : cEnd G W W (if inC W c then 0 else 1) (.int (iI (sdP (zS W).1.1 (zE W).2.2.1 c.toNat))) K hi hl hr) : en_Call G (d + 5) xc xs Y_X10_sound wN wN [.ref 0, .int (iI c)] hi hl hr K := by
  obtain ⟨r9, hS, hX⟩ := hI.o
  have nc12 := hz.c.1
  apply en_X10_sound
  simp (disch := omega) only [B_X10_sound_0, sh0, lt0, en_ops, en_opc, iI_add, iI_mul, iI_sub, jL_add, jL_mul, iI_le, iI_lt, iI_eq, iI_eq0, iI_lt0, iI_0le, iI_le0, iI_0lt, jL_iI, iI_jL, lc_eq, lc_lt, lc_le, lc_ge, lc_gt, Nat.sub_zero, Nat.zero_le, true_and, and_true, Nat.reduceAdd, Nat.reduceLeDiff]
  refine c_isCell hI hz hc ?_
  by_cases e : inC W c
  · rw [if_pos e]
    rw [if_pos e] at H
    simp (disch := omega) only [sh0, lt0, en_ops, en_opc, iI_add, iI_mul, iI_sub, jL_add, jL_mul, iI_le, iI_lt, iI_eq, iI_eq0, iI_lt0, iI_0le, iI_le0, iI_0lt, jL_iI, iI_jL, lc_eq, lc_lt, lc_le, lc_ge, lc_gt, Nat.sub_zero, Nat.zero_le, true_and, and_true, Nat.reduceAdd, Nat.reduceLeDiff]
    refine ⟨h1, h6, c_needPlace hI hz (Nat.le_refl _) (Nat.le_refl _) (Or.inr rfl) (fun _ => ?_) (fun e => absurd e (by decide))⟩
    simp (disch := omega) only [r9, sh0, lt0, sh16, lt16, en_ops, en_opc, iI_add, iI_mul, iI_sub, jL_add, jL_mul, iI_le, iI_lt, iI_eq, iI_eq0, iI_lt0, iI_0le, iI_le0, iI_0lt, jL_iI, iI_jL, lc_eq, lc_lt, lc_le, lc_ge, lc_gt, Nat.sub_zero, Nat.zero_le, true_and, and_true, Nat.reduceAdd, Nat.reduceLeDiff]
    rw [show c = ((c.toNat : Nat) : Int) by omega]
    refine t_soundOf (d := d) is16 hS hX.1.1 hz.f (by omega) ?_
    simp (disch := omega) only [en_ops, en_opc, iI_add, iI_mul, iI_sub, jL_add, jL_mul, iI_le, iI_lt, iI_eq, iI_eq0, iI_lt0, iI_0le, iI_le0, iI_0lt, jL_iI, iI_jL, lc_eq, lc_lt, lc_le, lc_ge, lc_gt, Nat.sub_zero, Nat.zero_le, true_and, and_true, Nat.reduceAdd, Nat.reduceLeDiff]
    exact H.1 rfl hi hl hr hI Fc.rf Fc.rf Fc.rf
  · rw [if_neg e]
    rw [if_neg e] at H
    simp (disch := omega) only [sh0, lt0, en_ops, en_opc, iI_add, iI_mul, iI_sub, jL_add, jL_mul, iI_le, iI_lt, iI_eq, iI_eq0, iI_lt0, iI_0le, iI_le0, iI_0lt, jL_iI, iI_jL, lc_eq, lc_lt, lc_le, lc_ge, lc_gt, Nat.sub_zero, Nat.zero_le, true_and, and_true, Nat.reduceAdd, Nat.reduceLeDiff]
    exact ⟨h1, h6, c_needPlace hI hz (Nat.le_refl _) (Nat.le_refl _) (Or.inl rfl) (fun e => absurd e (by decide)) (fun _ hi' I' F' => H.2 0 (by omega) rfl hi' hl hr I' F' Fc.rf Fc.rf)⟩
theorem xcH.T {E : hEnv} {s : zSh} {a : Nat} (h : xcH a E s hi) (ho : xOK n E s) : shT a s.2.1 (hdG s.2.2.1) hi := ⟨h.2.1, ho.2.2.2.2.1.1, fun i hi9 => ⟨h.2.2.1 i hi9, by have := ho.2.2.2.2.1.2 i hi9; unfold hdG; omega⟩⟩
theorem zOK.x (h : zOK n W) : xOK n (zE W) (zS W) := h.2.2.2.2.2.2.2.2.2.1
theorem c_word {c : Int} (hI : InvC G W hi hr) (hz : zOK n W) (h1 : 1 ≤ xc) (h6 : 6 ≤ xs) (hc : iRg c) (H : cEnd G W W (if inC W c then 0 else 1) (.long (jL (wdP (zS W).1.1 (zE W).2.2.1 (zS W).2.1 (hdG (zS W).2.2.1) c.toNat))) K hi hl hr) : en_Call G (d + 4) xc xs Y_X10_word wN wN [.ref 0, .int (iI c)] hi hl hr K := by
  obtain ⟨r9, hS, hX⟩ := hI.o
  have nc12 := hz.c.1
  apply en_X10_word
  simp (disch := omega) only [B_X10_word_0, sh0, lt0, en_ops, en_opc, iI_add, iI_mul, iI_sub, jL_add, jL_mul, iI_le, iI_lt, iI_eq, iI_eq0, iI_lt0, iI_0le, iI_le0, iI_0lt, jL_iI, iI_jL, lc_eq, lc_lt, lc_le, lc_ge, lc_gt, Nat.sub_zero, Nat.zero_le, true_and, and_true, Nat.reduceAdd, Nat.reduceLeDiff]
  refine c_isCell hI hz hc ?_
  by_cases e : inC W c
  · rw [if_pos e]
    rw [if_pos e] at H
    simp (disch := omega) only [sh0, lt0, en_ops, en_opc, iI_add, iI_mul, iI_sub, jL_add, jL_mul, iI_le, iI_lt, iI_eq, iI_eq0, iI_lt0, iI_0le, iI_le0, iI_0lt, jL_iI, iI_jL, lc_eq, lc_lt, lc_le, lc_ge, lc_gt, Nat.sub_zero, Nat.zero_le, true_and, and_true, Nat.reduceAdd, Nat.reduceLeDiff]
    refine ⟨h1, h6, c_needPlace hI hz (Nat.le_refl _) (Nat.le_refl _) (Or.inr rfl) (fun _ => ?_) (fun e => absurd e (by decide))⟩
    simp (disch := omega) only [r9, sh0, lt0, sh16, lt16, en_ops, en_opc, iI_add, iI_mul, iI_sub, jL_add, jL_mul, iI_le, iI_lt, iI_eq, iI_eq0, iI_lt0, iI_0le, iI_le0, iI_0lt, jL_iI, iI_jL, lc_eq, lc_lt, lc_le, lc_ge, lc_gt, Nat.sub_zero, Nat.zero_le, true_and, and_true, Nat.reduceAdd, Nat.reduceLeDiff]
    rw [show c = ((c.toNat : Nat) : Int) by omega]
    refine t_wordOf (d := d) is16 hS hX.1.1 hz.f (hX.T hz.x) (by omega) ?_
    simp (disch := omega) only [en_ops, en_opc, iI_add, iI_mul, iI_sub, jL_add, jL_mul, iI_le, iI_lt, iI_eq, iI_eq0, iI_lt0, iI_0le, iI_le0, iI_0lt, jL_iI, iI_jL, lc_eq, lc_lt, lc_le, lc_ge, lc_gt, Nat.sub_zero, Nat.zero_le, true_and, and_true, Nat.reduceAdd, Nat.reduceLeDiff]
    exact H.1 rfl hi hl hr hI Fc.rf Fc.rf Fc.rf
  · rw [if_neg e]
    rw [if_neg e] at H
    simp (disch := omega) only [sh0, lt0, en_ops, en_opc, iI_add, iI_mul, iI_sub, jL_add, jL_mul, iI_le, iI_lt, iI_eq, iI_eq0, iI_lt0, iI_0le, iI_le0, iI_0lt, jL_iI, iI_jL, lc_eq, lc_lt, lc_le, lc_ge, lc_gt, Nat.sub_zero, Nat.zero_le, true_and, and_true, Nat.reduceAdd, Nat.reduceLeDiff]
    exact ⟨h1, h6, c_needPlace hI hz (Nat.le_refl _) (Nat.le_refl _) (Or.inl rfl) (fun e => absurd e (by decide)) (fun _ hi' I' F' => H.2 0 (by omega) rfl hi' hl hr I' F' Fc.rf Fc.rf)⟩
/-- a crest, a wall, overs -/
def clP (W : zW) (c : Nat) (w : Int) : Int := if w = 0 then (zS W).1.2.1 c else if w = 1 then (zE W).2.2.2.1 c else (zS W).1.2.2.1 c
theorem c_cell {c w : Int} (hI : InvC G W hi hr) (hz : zOK n W) (h1 : 2 ≤ xc) (h6 : 12 ≤ xs) (hc : iRg c) (hw : iRg w) (H : cEnd G W W (if inC W c then if 0 ≤ w ∧ w ≤ 2 then 0 else 3 else 1) (.int (iI (clP W c.toNat w))) K hi hl hr) : en_Call G (d + 2) xc xs Y_X10_cell wN wN [.ref 0, .int (iI c), .int (iI w)] hi hl hr K := by
  obtain ⟨r9, hS, hX⟩ := hI.o
  have nc12 := hz.c.1
  obtain ⟨z0, z1, z2, z3, z4, z5, z6, z7, z8, -⟩ := is16.sh
  obtain ⟨y1, y2, y3, y4, y5, y6, y7⟩ := id hS
  apply en_X10_cell
  simp (disch := omega) only [B_X10_cell_0, sh0, lt0, en_ops, en_opc, iI_add, iI_mul, iI_sub, jL_add, jL_mul, iI_le, iI_lt, iI_eq, iI_eq0, iI_lt0, iI_0le, iI_le0, iI_0lt, jL_iI, iI_jL, lc_eq, lc_lt, lc_le, lc_ge, lc_gt, Nat.sub_zero, Nat.zero_le, true_and, and_true, Nat.reduceAdd, Nat.reduceLeDiff]
  refine c_isCell hI hz hc ?_
  by_cases e : inC W c
  · rw [if_pos e]
    rw [if_pos e] at H
    simp (disch := omega) only [sh0, lt0, en_ops, en_opc, iI_add, iI_mul, iI_sub, jL_add, jL_mul, iI_le, iI_lt, iI_eq, iI_eq0, iI_lt0, iI_0le, iI_le0, iI_0lt, jL_iI, iI_jL, lc_eq, lc_lt, lc_le, lc_ge, lc_gt, Nat.sub_zero, Nat.zero_le, true_and, and_true, Nat.reduceAdd, Nat.reduceLeDiff]
    refine ⟨by omega, by omega, c_needPlace hI hz (Nat.le_refl _) (Nat.le_refl _) (Or.inr rfl) (fun _ => ?_) (fun e => absurd e (by decide))⟩
    simp (disch := omega) only [sh0, lt0, en_ops, en_opc, iI_add, iI_mul, iI_sub, jL_add, jL_mul, iI_le, iI_lt, iI_eq, iI_eq0, iI_lt0, iI_0le, iI_le0, iI_0lt, jL_iI, iI_jL, lc_eq, lc_lt, lc_le, lc_ge, lc_gt, Nat.sub_zero, Nat.zero_le, true_and, and_true, Nat.reduceAdd, Nat.reduceLeDiff]
    refine c_isWithin hw (iRg_i (by decide) (by decide)) (iRg_i (by decide) (by decide)) ?_
    by_cases e2 : 0 ≤ w ∧ w ≤ 2
    · rw [if_pos e2]
      rw [if_pos e2] at H
      simp (disch := omega) only [sh0, lt0, en_ops, en_opc, iI_add, iI_mul, iI_sub, jL_add, jL_mul, iI_le, iI_lt, iI_eq, iI_eq0, iI_lt0, iI_0le, iI_le0, iI_0lt, jL_iI, iI_jL, lc_eq, lc_lt, lc_le, lc_ge, lc_gt, Nat.sub_zero, Nat.zero_le, true_and, and_true, Nat.reduceAdd, Nat.reduceLeDiff]
      refine ⟨by omega, by omega, c_needRight hI hz (Nat.le_refl _) (Nat.le_refl _) (Or.inr rfl) (fun _ => ?_) (fun e => absurd e (by decide))⟩
      have Hx := H.1 rfl hi hl hr hI Fc.rf Fc.rf Fc.rf
      unfold clP at Hx
      have ic : iI c = iI ((c.toNat : Nat) : Int) := iI_eq_of (by omega)
      simp (disch := omega) only [r9, sh0, lt0, z0, z1, y2, y3, y4, sh18, lt18, sh19, lt19, sh20, lt20, en_ops, en_opc, iI_add, iI_mul, iI_sub, jL_add, jL_mul, iI_le, iI_lt, iI_eq, iI_eq0, iI_lt0, iI_0le, iI_le0, iI_0lt, jL_iI, iI_jL, lc_eq, lc_lt, lc_le, lc_ge, lc_gt, Nat.sub_zero, Nat.zero_le, true_and, and_true, Nat.reduceAdd, Nat.reduceLeDiff]
      refine ⟨fun e3 => ⟨fun e4 => ⟨c.toNat, ic, by omega, ?_⟩, fun e4 => ⟨c.toNat, ic, by omega, ?_⟩⟩, fun e3 => ⟨c.toNat, ic, by omega, ?_⟩⟩
      · rw [if_neg e3, if_neg (by omega)] at Hx
        rw [hX.1.2.2.2.1 _ (by omega)]
        exact Hx
      · rw [if_neg e3, if_pos (by omega)] at Hx
        rw [hX.1.2.2.1 _ (by omega)]
        exact Hx
      · rw [if_pos (by omega)] at Hx
        rw [hX.1.2.1 _ (by omega)]
        exact Hx
    · rw [if_neg e2]
      rw [if_neg e2] at H
      simp (disch := omega) only [sh0, lt0, en_ops, en_opc, iI_add, iI_mul, iI_sub, jL_add, jL_mul, iI_le, iI_lt, iI_eq, iI_eq0, iI_lt0, iI_0le, iI_le0, iI_0lt, jL_iI, iI_jL, lc_eq, lc_lt, lc_le, lc_ge, lc_gt, Nat.sub_zero, Nat.zero_le, true_and, and_true, Nat.reduceAdd, Nat.reduceLeDiff]
      exact ⟨by omega, by omega, c_needRight hI hz (Nat.le_refl _) (Nat.le_refl _) (Or.inl rfl) (fun e => absurd e (by decide)) (fun _ hi' I' F' => H.2 2 (by omega) rfl hi' hl hr I' F' Fc.rf Fc.rf)⟩
  · rw [if_neg e]
    rw [if_neg e] at H
    simp (disch := omega) only [sh0, lt0, en_ops, en_opc, iI_add, iI_mul, iI_sub, jL_add, jL_mul, iI_le, iI_lt, iI_eq, iI_eq0, iI_lt0, iI_0le, iI_le0, iI_0lt, jL_iI, iI_jL, lc_eq, lc_lt, lc_le, lc_ge, lc_gt, Nat.sub_zero, Nat.zero_le, true_and, and_true, Nat.reduceAdd, Nat.reduceLeDiff]
    exact ⟨by omega, by omega, c_needPlace hI hz (Nat.le_refl _) (Nat.le_refl _) (Or.inl rfl) (fun e => absurd e (by decide)) (fun _ hi' I' F' => H.2 0 (by omega) rfl hi' hl hr I' F' Fc.rf Fc.rf)⟩
theorem c_sums {w : Int} (hI : InvC G W hi hr) (hz : zOK n W) (h1 : 1 ≤ xc) (h6 : 6 ≤ xs) (hw : iRg w) (H : cEnd G W W (if 0 ≤ w ∧ w ≤ 4 then 0 else 3) (.int (iI ((zS W).1.2.2.2.1 w.toNat))) K hi hl hr) : en_Call G (d + 2) xc xs Y_X10_sums wN wN [.ref 0, .int (iI w)] hi hl hr K := by
  obtain ⟨r9, hS, hX⟩ := hI.o
  obtain ⟨z0, z1, z2, z3, z4, z5, z6, z7, z8, -⟩ := is16.sh
  obtain ⟨y1, y2, y3, y4, y5, y6, y7⟩ := id hS
  apply en_X10_sums
  simp (disch := omega) only [B_X10_sums_0, sh0, lt0, en_ops, en_opc, iI_add, iI_mul, iI_sub, jL_add, jL_mul, iI_le, iI_lt, iI_eq, iI_eq0, iI_lt0, iI_0le, iI_le0, iI_0lt, jL_iI, iI_jL, lc_eq, lc_lt, lc_le, lc_ge, lc_gt, Nat.sub_zero, Nat.zero_le, true_and, and_true, Nat.reduceAdd, Nat.reduceLeDiff]
  refine c_isWithin hw (iRg_i (by decide) (by decide)) (iRg_i (by decide) (by decide)) ?_
  by_cases e2 : 0 ≤ w ∧ w ≤ 4
  · rw [if_pos e2]
    rw [if_pos e2] at H
    simp (disch := omega) only [sh0, lt0, en_ops, en_opc, iI_add, iI_mul, iI_sub, jL_add, jL_mul, iI_le, iI_lt, iI_eq, iI_eq0, iI_lt0, iI_0le, iI_le0, iI_0lt, jL_iI, iI_jL, lc_eq, lc_lt, lc_le, lc_ge, lc_gt, Nat.sub_zero, Nat.zero_le, true_and, and_true, Nat.reduceAdd, Nat.reduceLeDiff]
    refine ⟨h1, h6, c_needRight hI hz (Nat.le_refl _) (Nat.le_refl _) (Or.inr rfl) (fun _ => ?_) (fun e => absurd e (by decide))⟩
    simp (disch := omega) only [r9, sh0, lt0, z0, z1, y7, sh23, lt23, en_ops, en_opc, iI_add, iI_mul, iI_sub, jL_add, jL_mul, iI_le, iI_lt, iI_eq, iI_eq0, iI_lt0, iI_0le, iI_le0, iI_0lt, jL_iI, iI_jL, lc_eq, lc_lt, lc_le, lc_ge, lc_gt, Nat.sub_zero, Nat.zero_le, true_and, and_true, Nat.reduceAdd, Nat.reduceLeDiff]
    refine ⟨w.toNat, iI_eq_of (by omega), by omega, ?_⟩
    rw [hX.1.2.2.2.2.1 _ (by omega)]
    exact H.1 rfl hi hl hr hI Fc.rf Fc.rf Fc.rf
  · rw [if_neg e2]
    rw [if_neg e2] at H
    simp (disch := omega) only [sh0, lt0, en_ops, en_opc, iI_add, iI_mul, iI_sub, jL_add, jL_mul, iI_le, iI_lt, iI_eq, iI_eq0, iI_lt0, iI_0le, iI_le0, iI_0lt, jL_iI, iI_jL, lc_eq, lc_lt, lc_le, lc_ge, lc_gt, Nat.sub_zero, Nat.zero_le, true_and, and_true, Nat.reduceAdd, Nat.reduceLeDiff]
    exact ⟨h1, h6, c_needRight hI hz (Nat.le_refl _) (Nat.le_refl _) (Or.inl rfl) (fun e => absurd e (by decide)) (fun _ hi' I' F' => H.2 2 (by omega) rfl hi' hl hr I' F' Fc.rf Fc.rf)⟩
theorem c_fault (hI : InvC G W hi hr) (H : cEnd G W W 0 (.int (iI (zFa W))) K hi hl hr) : en_Call G (d + 1) xc xs Y_X10_fault wN wN [.ref 0] hi hl hr K := by
  obtain ⟨pl, h1, h2⟩ := id hI
  have f2 := h2.2.1
  apply en_X10_fault
  simp (disch := omega) only [B_X10_fault_0, sh0, lt0, f2, en_ops, en_opc, iI_add, iI_mul, iI_sub, jL_add, jL_mul, iI_le, iI_lt, iI_eq, iI_eq0, iI_lt0, iI_0le, iI_le0, iI_0lt, jL_iI, iI_jL, lc_eq, lc_lt, lc_le, lc_ge, lc_gt, Nat.sub_zero, Nat.zero_le, true_and, and_true, Nat.reduceAdd, Nat.reduceLeDiff]
  exact H.1 rfl hi hl hr hI Fc.rf Fc.rf Fc.rf
theorem c_status {w : Int} (hI : InvC G W hi hr) (hw : iRg w) (H : cEnd G W W 0 (.int (iI (if 0 ≤ w ∧ w ≤ 3 then zRf W w.toNat else -1))) K hi hl hr) : en_Call G (d + 1) xc xs Y_X10_status wN wN [.ref 0, .int (iI w)] hi hl hr K := by
  obtain ⟨pl, h1, h2⟩ := id hI
  have r12 := h1.1.2.2.2.2.2.2.2.1
  obtain ⟨w1, w2⟩ := hw
  have Hx := H.1 rfl hi hl hr hI Fc.rf Fc.rf Fc.rf
  apply en_X10_status
  simp (disch := omega) only [B_X10_status_0, r12, sh0, lt0, sh25, lt25, en_ops, en_opc, iI_add, iI_mul, iI_sub, jL_add, jL_mul, iI_le, iI_lt, iI_eq, iI_eq0, iI_lt0, iI_0le, iI_le0, iI_0lt, jL_iI, iI_jL, lc_eq, lc_lt, lc_le, lc_ge, lc_gt, Nat.sub_zero, Nat.zero_le, true_and, and_true, Nat.reduceAdd, Nat.reduceLeDiff]
  refine ⟨fun e => ?_, fun e => ⟨fun e2 => ?_, fun e2 => ⟨w.toNat, iI_eq_of (by omega), by omega, ?_⟩⟩⟩
  · rw [if_neg (by omega)] at Hx; exact Hx
  · rw [if_neg (by omega)] at Hx; exact Hx
  · rw [if_pos (by omega)] at Hx
    rw [h2.2.2.2.2.2.1 _ (by omega)]
    exact Hx
theorem c_seen {k w : Int} (hI : InvC G W hi hr) (hz : zOK n W) (h1 : 1 ≤ xc) (h6 : 6 ≤ xs) (hk : iRg k) (hw : iRg w) (H : cEnd G W W (if (1 ≤ k ∧ k ≤ 999) ∧ 1 ≤ w ∧ w ≤ 16 then 0 else 3) (.int (iI ((16 * k + w - 1) / w))) K hi hl hr) : en_Call G (d + 2) xc xs Y_X10_seen wN wN [.ref 0, .int (iI k), .int (iI w)] hi hl hr K := by
  have no : ¬ ((1 ≤ k ∧ k ≤ 999) ∧ 1 ≤ w ∧ w ≤ 16) → en_V G Y_X10_seen (d + 2) wN wN K 27 [.ref 0, .int (iI k), .int (iI w)] [.int (iI 0), .ref 0] hi hl hr xc xs := fun e => by
    rw [if_neg e] at H
    apply s_X10_seen_27
    simp (disch := omega) only [B_X10_seen_27, sh0, lt0, en_ops, en_opc, iI_add, iI_mul, iI_sub, jL_add, jL_mul, iI_le, iI_lt, iI_eq, iI_eq0, iI_lt0, iI_0le, iI_le0, iI_0lt, jL_iI, iI_jL, lc_eq, lc_lt, lc_le, lc_ge, lc_gt, Nat.sub_zero, Nat.zero_le, true_and, and_true, Nat.reduceAdd, Nat.reduceLeDiff]
    exact ⟨h1, h6, c_needRight hI hz (Nat.le_refl _) (Nat.le_refl _) (Or.inl rfl) (fun e => absurd e (by decide)) (fun _ hi' I' F' => H.2 2 (by omega) rfl hi' hl hr I' F' Fc.rf Fc.rf)⟩
  apply en_X10_seen
  simp (disch := omega) only [B_X10_seen_0, sh0, lt0, en_ops, en_opc, iI_add, iI_mul, iI_sub, jL_add, jL_mul, iI_le, iI_lt, iI_eq, iI_eq0, iI_lt0, iI_0le, iI_le0, iI_0lt, jL_iI, iI_jL, lc_eq, lc_lt, lc_le, lc_ge, lc_gt, Nat.sub_zero, Nat.zero_le, true_and, and_true, Nat.reduceAdd, Nat.reduceLeDiff]
  refine c_isWithin hk (iRg_i (by decide) (by decide)) (iRg_i (by decide) (by decide)) ?_
  by_cases e1 : 1 ≤ k ∧ k ≤ 999
  · rw [if_pos e1]
    simp (disch := omega) only [en_ops, en_opc, iI_add, iI_mul, iI_sub, jL_add, jL_mul, iI_le, iI_lt, iI_eq, iI_eq0, iI_lt0, iI_0le, iI_le0, iI_0lt, jL_iI, iI_jL, lc_eq, lc_lt, lc_le, lc_ge, lc_gt, Nat.sub_zero, Nat.zero_le, true_and, and_true, Nat.reduceAdd, Nat.reduceLeDiff]
    refine ⟨fun e => absurd e (by decide), fun _ => c_isWithin hw (iRg_i (by decide) (by decide)) (iRg_i (by decide) (by decide)) ?_⟩
    by_cases e2 : 1 ≤ w ∧ w ≤ 16
    · rw [if_pos e2]
      rw [if_pos ⟨e1, e2⟩] at H
      simp (disch := omega) only [en_ops, en_opc, iI_add, iI_mul, iI_sub, jL_add, jL_mul, iI_le, iI_lt, iI_eq, iI_eq0, iI_lt0, iI_0le, iI_le0, iI_0lt, jL_iI, iI_jL, lc_eq, lc_lt, lc_le, lc_ge, lc_gt, Nat.sub_zero, Nat.zero_le, true_and, and_true, Nat.reduceAdd, Nat.reduceLeDiff]
      refine ⟨fun e => absurd e (by decide), fun _ => ?_⟩
      apply s_X10_seen_27
      simp (disch := omega) only [B_X10_seen_27, sh0, lt0, en_ops, en_opc, iI_add, iI_mul, iI_sub, jL_add, jL_mul, iI_le, iI_lt, iI_eq, iI_eq0, iI_lt0, iI_0le, iI_le0, iI_0lt, jL_iI, iI_jL, lc_eq, lc_lt, lc_le, lc_ge, lc_gt, Nat.sub_zero, Nat.zero_le, true_and, and_true, Nat.reduceAdd, Nat.reduceLeDiff]
      refine ⟨h1, h6, c_needRight hI hz (Nat.le_refl _) (Nat.le_refl _) (Or.inr rfl) (fun _ => ?_) (fun e => absurd e (by decide))⟩
      simp (disch := omega) only [en_ops, en_opc, iI_add, iI_mul, iI_sub, jL_add, jL_mul, iI_le, iI_lt, iI_eq, iI_eq0, iI_lt0, iI_0le, iI_le0, iI_0lt, jL_iI, iI_jL, lc_eq, lc_lt, lc_le, lc_ge, lc_gt, Nat.sub_zero, Nat.zero_le, true_and, and_true, Nat.reduceAdd, Nat.reduceLeDiff]
      refine ⟨fun e => by omega, fun _ => ⟨by omega, ?_⟩⟩
      rw [iI_div (by omega) (by omega) (by omega) (by omega)]
      exact H.1 rfl hi hl hr hI Fc.rf Fc.rf Fc.rf
    · rw [if_neg e2]
      simp (disch := omega) only [en_ops, en_opc, iI_add, iI_mul, iI_sub, jL_add, jL_mul, iI_le, iI_lt, iI_eq, iI_eq0, iI_lt0, iI_0le, iI_le0, iI_0lt, jL_iI, iI_jL, lc_eq, lc_lt, lc_le, lc_ge, lc_gt, Nat.sub_zero, Nat.zero_le, true_and, and_true, Nat.reduceAdd, Nat.reduceLeDiff]
      exact ⟨fun _ => no (fun g => e2 g.2), fun e => (e (by first | trivial | rfl)).elim⟩
  · rw [if_neg e1]
    simp (disch := omega) only [en_ops, en_opc, iI_add, iI_mul, iI_sub, jL_add, jL_mul, iI_le, iI_lt, iI_eq, iI_eq0, iI_lt0, iI_0le, iI_le0, iI_0lt, jL_iI, iI_jL, lc_eq, lc_lt, lc_le, lc_ge, lc_gt, Nat.sub_zero, Nat.zero_le, true_and, and_true, Nat.reduceAdd, Nat.reduceLeDiff]
    exact ⟨fun _ => no (fun g => e1 g.1), fun e => (e (by first | trivial | rfl)).elim⟩
end
-- DRAFT 70
section
variable {G : en_G} {d : Nat} {K : en_K} {W : zW} {n : Nat} {hi : en_I} {hl : en_L} {hr : en_F} {xc xs : Nat}
/-- painted stones of a cell: of a size; of all -/
def pnP (f : Nat → Nat → Nat → Int) (nz c : Nat) : Int := sumTo nz (fun z => f c z 2)
theorem f_bd {f : Nat → Nat → Nat → Int} {nc nz : Nat} (hB : fB nc nz f) (b1 : nz ≤ 6) {c z k : Nat} (hc : c < 12) (hk : k < 3) : 0 ≤ f c z k ∧ f c z k ≤ 10000000 := ⟨hB.1 c z k, Int.le_trans (f_le hB c z hk) (Int.le_trans (aP_le hB b1 hc z) (wP_le hB b1 hc))⟩
theorem c_lost (hI : InvC G W hi hr) (hz : zOK n W) (H : cEnd G W W 0 (.int (iI ((zS W).1.2.2.2.2.1 - sumTo (zE W).2.1 (pnP (zS W).1.1 (zE W).2.2.1)))) K hi hl hr) : en_Call G (d + 3) xc xs Y_X10_lost wN wN [.ref 0] hi hl hr K := by
  obtain ⟨r9, hS, hX⟩ := hI.o
  have nc12 := hz.c.1
  obtain ⟨z0, z1, -⟩ := is16.sh
  have e0 : hi 16 0 = iI ((zE W).2.1 : Int) := hX.1.1.1
  have e10 : hi 16 10 = iI (zS W).1.2.2.2.2.1 := hX.1.2.2.2.2.2.1
  apply en_X10_lost
  simp (disch := omega) only [B_X10_lost_0, en_ops, en_opc, iI_add, iI_mul, iI_sub, jL_add, jL_mul, iI_le, iI_lt, iI_eq, iI_eq0, iI_lt0, iI_0le, iI_le0, iI_0lt, jL_iI, iI_jL, lc_eq, lc_lt, lc_le, lc_ge, lc_gt, Nat.sub_zero, Nat.zero_le, true_and, and_true, Nat.reduceAdd, Nat.reduceLeDiff]
  suffices L : ∀ c : Nat, c ≤ (zE W).2.1 → en_V G Y_X10_lost (d + 3) wN wN K 4 [.ref 0, .int (iI (sumTo c (pnP (zS W).1.1 (zE W).2.2.1))), .int (iI c)] [] hi hl hr xc xs from L 0 (by omega)
  refine lp (zE W).2.1 ?_ (fun c hc ih => ?_)
  · apply s_X10_lost_4
    simp (disch := omega) only [B_X10_lost_4, r9, sh0, lt0, z0, z1, e0, e10, en_ops, en_opc, iI_add, iI_mul, iI_sub, jL_add, jL_mul, iI_le, iI_lt, iI_eq, iI_eq0, iI_lt0, iI_0le, iI_le0, iI_0lt, jL_iI, iI_jL, lc_eq, lc_lt, lc_le, lc_ge, lc_gt, Nat.sub_zero, Nat.zero_le, true_and, and_true, Nat.reduceAdd, Nat.reduceLeDiff]
    refine ⟨fun _ => H.1 rfl hi hl hr hI Fc.rf Fc.rf Fc.rf, fun e => absurd (Int.le_refl _) e⟩
  · rw [sumTo_s] at ih
    apply s_X10_lost_4
    simp (disch := omega) only [B_X10_lost_4, r9, sh0, lt0, z0, z1, e0, en_ops, en_opc, iI_add, iI_mul, iI_sub, jL_add, jL_mul, iI_le, iI_lt, iI_eq, iI_eq0, iI_lt0, iI_0le, iI_le0, iI_0lt, jL_iI, iI_jL, lc_eq, lc_lt, lc_le, lc_ge, lc_gt, Nat.sub_zero, Nat.zero_le, true_and, and_true, Nat.reduceAdd, Nat.reduceLeDiff]
    refine ⟨fun e => by omega, fun _ => t_inCell (d := d) is16 hS hX.1.1 (by omega) (by omega) (show -1 ≤ (2 : Int) ∧ (2 : Int) < 3 by omega) ?_⟩
    have ek : inP (zS W).1.1 (zE W).2.2.1 c (-1) 2 = pnP (zS W).1.1 (zE W).2.2.1 c := inP_k (k := 2) (by omega)
    rw [ek]
    simp (disch := omega) only [en_ops, en_opc, iI_add, iI_mul, iI_sub, jL_add, jL_mul, iI_le, iI_lt, iI_eq, iI_eq0, iI_lt0, iI_0le, iI_le0, iI_0lt, jL_iI, iI_jL, lc_eq, lc_lt, lc_le, lc_ge, lc_gt, Nat.sub_zero, Nat.zero_le, true_and, and_true, Nat.reduceAdd, Nat.reduceLeDiff]
    exact ih
def foP (f : Nat → Nat → Nat → Int) (nc z : Nat) (s : Int) : Int := sumTo nc (fun c => f c z 2 * s / 16)
theorem c_found {z s : Int} (hI : InvC G W hi hr) (hz : zOK n W) (h1 : 1 ≤ xc) (h6 : 6 ≤ xs) (hzr : iRg z) (hs : iRg s) (H : cEnd G W W (if inZ W z ∧ 1 ≤ s ∧ s ≤ 16 then 0 else 3) (.int (iI (foP (zS W).1.1 (zE W).2.1 z.toNat s))) K hi hl hr) : en_Call G (d + 3) xc xs Y_X10_found wN wN [.ref 0, .int (iI z), .int (iI s)] hi hl hr K := by
  obtain ⟨r9, hS, hX⟩ := hI.o
  obtain ⟨nc12, nz6⟩ := hz.c
  obtain ⟨z0, z1, -⟩ := is16.sh
  have e0 : hi 16 0 = iI ((zE W).2.1 : Int) := hX.1.1.1
  have no : ¬ (inZ W z ∧ 1 ≤ s ∧ s ≤ 16) → ∀ k ls, en_Call G (d + 2) 1 6 Y_X10_needRight wN wN [.ref 0, .int (iI 0)] hi hl hr (en_kk k (x_out K) ls [] (xc - 1) (xs - 6)) := fun e k ls => by
    rw [if_neg e] at H
    exact c_needRight (d := d + 1) hI hz (Nat.le_refl _) (Nat.le_refl _) (Or.inl rfl) (fun e => absurd e (by decide)) (fun _ hi' I' F' => H.2 2 (by omega) rfl hi' hl hr I' F' Fc.rf Fc.rf)
  apply en_X10_found
  simp (disch := omega) only [B_X10_found_0, sh0, lt0, en_ops, en_opc, iI_add, iI_mul, iI_sub, jL_add, jL_mul, iI_le, iI_lt, iI_eq, iI_eq0, iI_lt0, iI_0le, iI_le0, iI_0lt, jL_iI, iI_jL, lc_eq, lc_lt, lc_le, lc_ge, lc_gt, Nat.sub_zero, Nat.zero_le, true_and, and_true, Nat.reduceAdd, Nat.reduceLeDiff]
  refine c_isSize hI hz hzr ?_
  by_cases e1 : inZ W z
  · rw [if_pos e1]
    simp (disch := omega) only [sh0, lt0, en_ops, en_opc, iI_add, iI_mul, iI_sub, jL_add, jL_mul, iI_le, iI_lt, iI_eq, iI_eq0, iI_lt0, iI_0le, iI_le0, iI_0lt, jL_iI, iI_jL, lc_eq, lc_lt, lc_le, lc_ge, lc_gt, Nat.sub_zero, Nat.zero_le, true_and, and_true, Nat.reduceAdd, Nat.reduceLeDiff]
    refine ⟨fun e => absurd e (by decide), fun _ => c_isWithin hs (iRg_i (by decide) (by decide)) (iRg_i (by decide) (by decide)) ?_⟩
    by_cases e2 : 1 ≤ s ∧ s ≤ 16
    · rw [if_pos e2]
      rw [if_pos ⟨e1, e2⟩] at H
      simp (disch := omega) only [sh0, lt0, en_ops, en_opc, iI_add, iI_mul, iI_sub, jL_add, jL_mul, iI_le, iI_lt, iI_eq, iI_eq0, iI_lt0, iI_0le, iI_le0, iI_0lt, jL_iI, iI_jL, lc_eq, lc_lt, lc_le, lc_ge, lc_gt, Nat.sub_zero, Nat.zero_le, true_and, and_true, Nat.reduceAdd, Nat.reduceLeDiff]
      refine ⟨fun e => absurd e (by decide), fun _ => ⟨h1, h6, c_needRight hI hz (Nat.le_refl _) (Nat.le_refl _) (Or.inr rfl) (fun _ => ?_) (fun e => absurd e (by decide))⟩⟩
      simp (disch := omega) only [en_ops, en_opc, iI_add, iI_mul, iI_sub, jL_add, jL_mul, iI_le, iI_lt, iI_eq, iI_eq0, iI_lt0, iI_0le, iI_le0, iI_0lt, jL_iI, iI_jL, lc_eq, lc_lt, lc_le, lc_ge, lc_gt, Nat.sub_zero, Nat.zero_le, true_and, and_true, Nat.reduceAdd, Nat.reduceLeDiff]
      suffices L : ∀ c : Nat, c ≤ (zE W).2.1 → en_V G Y_X10_found (d + 3) wN wN K 32 [.ref 0, .int (iI z), .int (iI s), .int (iI (sumTo c (fun c => (zS W).1.1 c z.toNat 2 * s / 16))), .int (iI c)] [] hi hl hr (xc - 1) (xs - 6) from L 0 (by omega)
      refine lp (zE W).2.1 ?_ (fun c hc ih => ?_)
      · apply s_X10_found_32
        simp (disch := omega) only [B_X10_found_32, r9, sh0, lt0, z0, z1, e0, en_ops, en_opc, iI_add, iI_mul, iI_sub, jL_add, jL_mul, iI_le, iI_lt, iI_eq, iI_eq0, iI_lt0, iI_0le, iI_le0, iI_0lt, jL_iI, iI_jL, lc_eq, lc_lt, lc_le, lc_ge, lc_gt, Nat.sub_zero, Nat.zero_le, true_and, and_true, Nat.reduceAdd, Nat.reduceLeDiff]
        exact ⟨fun _ => H.1 rfl hi hl hr hI Fc.rf Fc.rf Fc.rf, fun e => absurd (Int.le_refl _) e⟩
      · rw [sumTo_s] at ih
        have fb := f_bd hz.f nz6 (c := c) (z := z.toNat) (k := 2) (by omega) (by omega)
        have p0 := Int.mul_nonneg fb.1 (show 0 ≤ s by omega)
        have p1 := Int.mul_le_mul_of_nonneg_left e2.2 fb.1
        apply s_X10_found_32
        simp (disch := omega) only [B_X10_found_32, r9, sh0, lt0, z0, z1, e0, en_ops, en_opc, iI_add, iI_mul, iI_sub, jL_add, jL_mul, iI_le, iI_lt, iI_eq, iI_eq0, iI_lt0, iI_0le, iI_le0, iI_0lt, jL_iI, iI_jL, lc_eq, lc_lt, lc_le, lc_ge, lc_gt, Nat.sub_zero, Nat.zero_le, true_and, and_true, Nat.reduceAdd, Nat.reduceLeDiff]
        refine ⟨fun e => by omega, fun _ => ?_⟩
        rw [show z = ((z.toNat : Nat) : Int) by omega]
        refine t_inCell (d := d) is16 hS hX.1.1 (by omega) (by omega) (show -1 ≤ (2 : Int) ∧ (2 : Int) < 3 by omega) ?_
        have ek : inP (zS W).1.1 (zE W).2.2.1 c (z.toNat : Int) 2 = (zS W).1.1 c z.toNat 2 := inP_1 (k := 2) (by omega) (by omega)
        rw [ek]
        simp (disch := omega) only [en_ops, en_opc, iI_add, iI_mul, iI_sub, jL_add, jL_mul, iI_le, iI_lt, iI_eq, iI_eq0, iI_lt0, iI_0le, iI_le0, iI_0lt, jL_iI, iI_jL, lc_eq, lc_lt, lc_le, lc_ge, lc_gt, Nat.sub_zero, Nat.zero_le, true_and, and_true, Nat.reduceAdd, Nat.reduceLeDiff]
        refine ⟨by decide, ?_⟩
        rw [iI_div p0 (by omega) (by decide) (by decide), iI_add]
        rw [show ((z.toNat : Nat) : Int) = z by omega]
        exact ih
    · rw [if_neg e2]
      simp (disch := omega) only [sh0, lt0, en_ops, en_opc, iI_add, iI_mul, iI_sub, jL_add, jL_mul, iI_le, iI_lt, iI_eq, iI_eq0, iI_lt0, iI_0le, iI_le0, iI_0lt, jL_iI, iI_jL, lc_eq, lc_lt, lc_le, lc_ge, lc_gt, Nat.sub_zero, Nat.zero_le, true_and, and_true, Nat.reduceAdd, Nat.reduceLeDiff]
      exact ⟨fun _ => ⟨h1, h6, no (fun g => e2 g.2) _ _⟩, fun e => (e (by first | trivial | rfl)).elim⟩
  · rw [if_neg e1]
    simp (disch := omega) only [sh0, lt0, en_ops, en_opc, iI_add, iI_mul, iI_sub, jL_add, jL_mul, iI_le, iI_lt, iI_eq, iI_eq0, iI_lt0, iI_0le, iI_le0, iI_0lt, jL_iI, iI_jL, lc_eq, lc_lt, lc_le, lc_ge, lc_gt, Nat.sub_zero, Nat.zero_le, true_and, and_true, Nat.reduceAdd, Nat.reduceLeDiff]
    exact ⟨fun _ => ⟨h1, h6, no (fun g => e1 g.1) _ _⟩, fun e => (e (by first | trivial | rfl)).elim⟩
def miP (f : Nat → Nat → Nat → Int) (nc z : Nat) : Int := if sumTo nc (fun c => f c z 2) = 0 then -1 else 1000 * sumTo nc (fun c => c * f c z 2) / sumTo nc (fun c => f c z 2)
theorem mi_bd {f : Nat → Nat → Nat → Int} {nc nz z : Nat} (hB : fB nc nz f) (b0 : nc ≤ 12) (b1 : nz ≤ 6) {c : Nat} (hc : c ≤ nc) : (0 ≤ sumTo c (fun c => f c z 2) ∧ sumTo c (fun c => f c z 2) ≤ 120000000) ∧ 0 ≤ sumTo c (fun c => (c : Int) * f c z 2) ∧ sumTo c (fun c => (c : Int) * f c z 2) ≤ 1440000000 ∧ sumTo c (fun c => (c : Int) * f c z 2) ≤ 12 * sumTo c (fun c => f c z 2) := by
  have a1 := sumTo_bd (n := c) (g := fun c => f c z 2) (b := 10000000) (fun i hi9 => f_bd hB b1 (by omega) (by omega))
  have a2 : sumTo c (fun c => (c : Int) * f c z 2) ≤ sumTo c (fun c => 12 * f c z 2) := sumTo_le (fun i hi9 => Int.mul_le_mul_of_nonneg_right (by omega) (hB.1 i z 2))
  rw [sumTo_mul] at a2
  have a3 := sumTo_nn (n := c) (f := fun c => (c : Int) * f c z 2) (fun i _ => Int.mul_nonneg (by omega) (hB.1 i z 2))
  omega
theorem c_miles {z : Int} (hI : InvC G W hi hr) (hz : zOK n W) (h1 : 1 ≤ xc) (h6 : 6 ≤ xs) (hzr : iRg z) (H : cEnd G W W (if inZ W z then 0 else 3) (.int (iI (miP (zS W).1.1 (zE W).2.1 z.toNat))) K hi hl hr) : en_Call G (d + 3) xc xs Y_X10_miles wN wN [.ref 0, .int (iI z)] hi hl hr K := by
  obtain ⟨r9, hS, hX⟩ := hI.o
  obtain ⟨nc12, nz6⟩ := hz.c
  obtain ⟨z0, z1, -⟩ := is16.sh
  have e0 : hi 16 0 = iI ((zE W).2.1 : Int) := hX.1.1.1
  apply en_X10_miles
  simp (disch := omega) only [B_X10_miles_0, sh0, lt0, en_ops, en_opc, iI_add, iI_mul, iI_sub, jL_add, jL_mul, iI_le, iI_lt, iI_eq, iI_eq0, iI_lt0, iI_0le, iI_le0, iI_0lt, jL_iI, iI_jL, lc_eq, lc_lt, lc_le, lc_ge, lc_gt, Nat.sub_zero, Nat.zero_le, true_and, and_true, Nat.reduceAdd, Nat.reduceLeDiff]
  refine c_isSize hI hz hzr ?_
  by_cases e1 : inZ W z
  · rw [if_pos e1]
    rw [if_pos e1] at H
    simp (disch := omega) only [sh0, lt0, en_ops, en_opc, iI_add, iI_mul, iI_sub, jL_add, jL_mul, iI_le, iI_lt, iI_eq, iI_eq0, iI_lt0, iI_0le, iI_le0, iI_0lt, jL_iI, iI_jL, lc_eq, lc_lt, lc_le, lc_ge, lc_gt, Nat.sub_zero, Nat.zero_le, true_and, and_true, Nat.reduceAdd, Nat.reduceLeDiff]
    refine ⟨h1, h6, c_needRight hI hz (Nat.le_refl _) (Nat.le_refl _) (Or.inr rfl) (fun _ => ?_) (fun e => absurd e (by decide))⟩
    simp (disch := omega) only [en_ops, en_opc, iI_add, iI_mul, iI_sub, jL_add, jL_mul, iI_le, iI_lt, iI_eq, iI_eq0, iI_lt0, iI_0le, iI_le0, iI_0lt, jL_iI, iI_jL, lc_eq, lc_lt, lc_le, lc_ge, lc_gt, Nat.sub_zero, Nat.zero_le, true_and, and_true, Nat.reduceAdd, Nat.reduceLeDiff]
    suffices L : ∀ c : Nat, c ≤ (zE W).2.1 → ∀ x7 : Value, en_V G Y_X10_miles (d + 3) wN wN K 17 [.ref 0, .int (iI z), .long (jL (sumTo c (fun c => (zS W).1.1 c z.toNat 2))), jk, .long (jL (sumTo c (fun c => (c : Int) * (zS W).1.1 c z.toNat 2))), jk, .int (iI c), x7] [] hi hl hr (xc - 1) (xs - 6) from L 0 (by omega) _
    refine lp (zE W).2.1 (fun x7 => ?_) (fun c hc ih x7 => ?_)
    · have bd := mi_bd (z := z.toNat) hz.f nc12 nz6 (Nat.le_refl _)
      have Hx := H.1 rfl hi hl hr hI Fc.rf Fc.rf Fc.rf
      unfold miP at Hx
      apply s_X10_miles_17
      simp (disch := omega) only [B_X10_miles_17, r9, sh0, lt0, z0, z1, e0, en_ops, en_opc, iI_add, iI_mul, iI_sub, jL_add, jL_mul, iI_le, iI_lt, iI_eq, iI_eq0, iI_lt0, iI_0le, iI_le0, iI_0lt, jL_iI, iI_jL, lc_eq, lc_lt, lc_le, lc_ge, lc_gt, Nat.sub_zero, Nat.zero_le, true_and, and_true, Nat.reduceAdd, Nat.reduceLeDiff]
      refine ⟨fun _ => ⟨fun e => ⟨by rw [jL_eq0 (by omega) (by omega)]; omega, ?_⟩, fun e => ?_⟩, fun e => absurd (Int.le_refl _) e⟩
      · rw [jL_div (by omega) (by omega) (by omega) (by omega)]
        rw [if_neg (by omega)] at Hx
        simp (disch := omega) only [en_ops, en_opc, iI_add, iI_mul, iI_sub, jL_add, jL_mul, iI_le, iI_lt, iI_eq, iI_eq0, iI_lt0, iI_0le, iI_le0, iI_0lt, jL_iI, iI_jL, lc_eq, lc_lt, lc_le, lc_ge, lc_gt, Nat.sub_zero, Nat.zero_le, true_and, and_true, Nat.reduceAdd, Nat.reduceLeDiff]
        exact Hx
      · rw [if_pos (by omega)] at Hx; exact Hx
    · rw [sumTo_s, sumTo_s] at ih
      have fb := f_bd hz.f nz6 (c := c) (z := z.toNat) (k := 2) (by omega) (by omega)
      apply s_X10_miles_17
      simp (disch := omega) only [B_X10_miles_17, r9, sh0, lt0, z0, z1, e0, en_ops, en_opc, iI_add, iI_mul, iI_sub, jL_add, jL_mul, iI_le, iI_lt, iI_eq, iI_eq0, iI_lt0, iI_0le, iI_le0, iI_0lt, jL_iI, iI_jL, lc_eq, lc_lt, lc_le, lc_ge, lc_gt, Nat.sub_zero, Nat.zero_le, true_and, and_true, Nat.reduceAdd, Nat.reduceLeDiff]
      refine ⟨fun e => by omega, fun _ => ?_⟩
      rw [show z = ((z.toNat : Nat) : Int) by omega]
      refine t_inCell (d := d) is16 hS hX.1.1 (by omega) (by omega) (show -1 ≤ (2 : Int) ∧ (2 : Int) < 3 by omega) ?_
      have ek : inP (zS W).1.1 (zE W).2.2.1 c (z.toNat : Int) 2 = (zS W).1.1 c z.toNat 2 := inP_1 (k := 2) (by omega) (by omega)
      rw [ek]
      simp (disch := omega) only [en_ops, en_opc, iI_add, iI_mul, iI_sub, jL_add, jL_mul, iI_le, iI_lt, iI_eq, iI_eq0, iI_lt0, iI_0le, iI_le0, iI_0lt, jL_iI, iI_jL, lc_eq, lc_lt, lc_le, lc_ge, lc_gt, Nat.sub_zero, Nat.zero_le, true_and, and_true, Nat.reduceAdd, Nat.reduceLeDiff]
      rw [show ((z.toNat : Nat) : Int) = z by omega]
      exact ih _
  · rw [if_neg e1]
    rw [if_neg e1] at H
    simp (disch := omega) only [sh0, lt0, en_ops, en_opc, iI_add, iI_mul, iI_sub, jL_add, jL_mul, iI_le, iI_lt, iI_eq, iI_eq0, iI_lt0, iI_0le, iI_le0, iI_0lt, jL_iI, iI_jL, lc_eq, lc_lt, lc_le, lc_ge, lc_gt, Nat.sub_zero, Nat.zero_le, true_and, and_true, Nat.reduceAdd, Nat.reduceLeDiff]
    exact ⟨h1, h6, c_needRight hI hz (Nat.le_refl _) (Nat.le_refl _) (Or.inl rfl) (fun e => absurd e (by decide)) (fun _ hi' I' F' => H.2 2 (by omega) rfl hi' hl hr I' F' Fc.rf Fc.rf)⟩
theorem tsw_toInt {w : Int} (h : iRg w) : (iI w).toInt = w := iI_toInt h.1 h.2
def tdP (W : zW) (w : Int) : Int := if w = 0 then (zE W).2.1 else if w = 1 then (zE W).2.2.1 else if w = 2 then (zE W).2.2.2.2.2.1 else if w = 3 then (zE W).2.2.2.2.2.2.2 else if w = 4 then zNl W else if w = 5 then zNy W else (zS W).1.2.2.2.2.2
theorem c_told {w : Int} (hI : InvC G W hi hr) (hz : zOK n W) (h1 : 1 ≤ xc) (h6 : 6 ≤ xs) (hw : iRg w) (H : cEnd G W W (if 0 ≤ w ∧ w ≤ 6 then 0 else 3) (.int (iI (tdP W w))) K hi hl hr) : en_Call G (d + 2) xc xs Y_X10_told wN wN [.ref 0, .int (iI w)] hi hl hr K := by
  obtain ⟨pl, hR, hN⟩ := id hI
  obtain ⟨r9, hS, hX⟩ := hI.o
  have r3 := hR.1.2.1
  have hpl := hR.2.1.2.2.1
  obtain ⟨l0, -⟩ := hpl.sh
  have lq : pl < 134 := by have := hpl.sh.2.2.2.2.2.2.1; omega
  obtain ⟨z0, z1, -⟩ := is16.sh
  have e0 : hi 16 0 = iI ((zE W).2.1 : Int) := hX.1.1.1
  have e1 : hi 16 1 = iI ((zE W).2.2.1 : Int) := hX.1.1.2.1
  have e11 : hi 16 11 = iI (zS W).1.2.2.2.2.2 := hX.1.2.2.2.2.2.2
  have s6 : hi pl 6 = iI ((zE W).2.2.2.2.2.1 : Int) := hN.2.2.2.2.2.2.2.2.1.1.1
  have s8 : hi pl 8 = iI ((zE W).2.2.2.2.2.2.2 : Int) := hN.2.2.2.2.2.2.2.2.1.2.1.1
  have n6 := hN.2.2.1
  have n8 := hN.2.2.2.1
  have hwi := tsw_toInt hw
  apply en_X10_told
  simp (disch := omega) only [B_X10_told_0, sh0, lt0, en_ops, en_opc, iI_add, iI_mul, iI_sub, jL_add, jL_mul, iI_le, iI_lt, iI_eq, iI_eq0, iI_lt0, iI_0le, iI_le0, iI_0lt, jL_iI, iI_jL, lc_eq, lc_lt, lc_le, lc_ge, lc_gt, Nat.sub_zero, Nat.zero_le, true_and, and_true, Nat.reduceAdd, Nat.reduceLeDiff]
  refine c_isWithin hw (iRg_i (by decide) (by decide)) (iRg_i (by decide) (by decide)) ?_
  by_cases e2 : 0 ≤ w ∧ w ≤ 6
  · rw [if_pos e2]
    rw [if_pos e2] at H
    simp (disch := omega) only [sh0, lt0, en_ops, en_opc, iI_add, iI_mul, iI_sub, jL_add, jL_mul, iI_le, iI_lt, iI_eq, iI_eq0, iI_lt0, iI_0le, iI_le0, iI_0lt, jL_iI, iI_jL, lc_eq, lc_lt, lc_le, lc_ge, lc_gt, Nat.sub_zero, Nat.zero_le, true_and, and_true, Nat.reduceAdd, Nat.reduceLeDiff]
    refine ⟨h1, h6, c_needRight hI hz (Nat.le_refl _) (Nat.le_refl _) (Or.inr rfl) (fun _ => ?_) (fun e => absurd e (by decide))⟩
    have Hx := H.1 rfl hi hl hr hI Fc.rf Fc.rf Fc.rf
    unfold tdP at Hx
    simp (disch := omega) only [hwi, en_ops, en_opc, iI_add, iI_mul, iI_sub, jL_add, jL_mul, iI_le, iI_lt, iI_eq, iI_eq0, iI_lt0, iI_0le, iI_le0, iI_0lt, jL_iI, iI_jL, lc_eq, lc_lt, lc_le, lc_ge, lc_gt, Nat.sub_zero, Nat.zero_le, true_and, and_true, Nat.reduceAdd, Nat.reduceLeDiff]
    refine ⟨fun e => ?_, fun j k hj e => ?_⟩
    · have w6 : w = 6 := by rcases e with e | e; omega; simp at e; omega
      subst w6
      apply s_X10_told_94
      simp (disch := omega) only [B_X10_told_94, r9, sh0, lt0, z0, z1, e11, en_ops, en_opc, iI_add, iI_mul, iI_sub, jL_add, jL_mul, iI_le, iI_lt, iI_eq, iI_eq0, iI_lt0, iI_0le, iI_le0, iI_0lt, jL_iI, iI_jL, lc_eq, lc_lt, lc_le, lc_ge, lc_gt, Nat.sub_zero, Nat.zero_le, true_and, and_true, Nat.reduceAdd, Nat.reduceLeDiff]
      exact Hx
    · rcases j with _ | _ | _ | _ | _ | _ | j
      · obtain rfl := Option.some.inj hj
        have w0 : w = 0 := by omega
        subst w0
        apply s_X10_told_52
        simp (disch := omega) only [B_X10_told_52, r9, sh0, lt0, z0, z1, e0, en_ops, en_opc, iI_add, iI_mul, iI_sub, jL_add, jL_mul, iI_le, iI_lt, iI_eq, iI_eq0, iI_lt0, iI_0le, iI_le0, iI_0lt, jL_iI, iI_jL, lc_eq, lc_lt, lc_le, lc_ge, lc_gt, Nat.sub_zero, Nat.zero_le, true_and, and_true, Nat.reduceAdd, Nat.reduceLeDiff]
        exact Hx
      · obtain rfl := Option.some.inj hj
        have w0 : w = 1 := by omega
        subst w0
        apply s_X10_told_60
        simp (disch := omega) only [B_X10_told_60, r9, sh0, lt0, z0, z1, e1, en_ops, en_opc, iI_add, iI_mul, iI_sub, jL_add, jL_mul, iI_le, iI_lt, iI_eq, iI_eq0, iI_lt0, iI_0le, iI_le0, iI_0lt, jL_iI, iI_jL, lc_eq, lc_lt, lc_le, lc_ge, lc_gt, Nat.sub_zero, Nat.zero_le, true_and, and_true, Nat.reduceAdd, Nat.reduceLeDiff]
        exact Hx
      · obtain rfl := Option.some.inj hj
        have w0 : w = 2 := by omega
        subst w0
        apply s_X10_told_68
        simp (disch := omega) only [B_X10_told_68, r3, sh0, lt0, l0, lq, s6, en_ops, en_opc, iI_add, iI_mul, iI_sub, jL_add, jL_mul, iI_le, iI_lt, iI_eq, iI_eq0, iI_lt0, iI_0le, iI_le0, iI_0lt, jL_iI, iI_jL, lc_eq, lc_lt, lc_le, lc_ge, lc_gt, Nat.sub_zero, Nat.zero_le, true_and, and_true, Nat.reduceAdd, Nat.reduceLeDiff]
        exact Hx
      · obtain rfl := Option.some.inj hj
        have w0 : w = 3 := by omega
        subst w0
        apply s_X10_told_76
        simp (disch := omega) only [B_X10_told_76, r3, sh0, lt0, l0, lq, s8, en_ops, en_opc, iI_add, iI_mul, iI_sub, jL_add, jL_mul, iI_le, iI_lt, iI_eq, iI_eq0, iI_lt0, iI_0le, iI_le0, iI_0lt, jL_iI, iI_jL, lc_eq, lc_lt, lc_le, lc_ge, lc_gt, Nat.sub_zero, Nat.zero_le, true_and, and_true, Nat.reduceAdd, Nat.reduceLeDiff]
        exact Hx
      · obtain rfl := Option.some.inj hj
        have w0 : w = 4 := by omega
        subst w0
        apply s_X10_told_84
        simp (disch := omega) only [B_X10_told_84, sh0, lt0, n6, en_ops, en_opc, iI_add, iI_mul, iI_sub, jL_add, jL_mul, iI_le, iI_lt, iI_eq, iI_eq0, iI_lt0, iI_0le, iI_le0, iI_0lt, jL_iI, iI_jL, lc_eq, lc_lt, lc_le, lc_ge, lc_gt, Nat.sub_zero, Nat.zero_le, true_and, and_true, Nat.reduceAdd, Nat.reduceLeDiff]
        exact Hx
      · obtain rfl := Option.some.inj hj
        have w0 : w = 5 := by omega
        subst w0
        apply s_X10_told_89
        simp (disch := omega) only [B_X10_told_89, sh0, lt0, n8, en_ops, en_opc, iI_add, iI_mul, iI_sub, jL_add, jL_mul, iI_le, iI_lt, iI_eq, iI_eq0, iI_lt0, iI_0le, iI_le0, iI_0lt, jL_iI, iI_jL, lc_eq, lc_lt, lc_le, lc_ge, lc_gt, Nat.sub_zero, Nat.zero_le, true_and, and_true, Nat.reduceAdd, Nat.reduceLeDiff]
        exact Hx
      · cases hj
  · rw [if_neg e2]
    rw [if_neg e2] at H
    simp (disch := omega) only [sh0, lt0, en_ops, en_opc, iI_add, iI_mul, iI_sub, jL_add, jL_mul, iI_le, iI_lt, iI_eq, iI_eq0, iI_lt0, iI_0le, iI_le0, iI_0lt, jL_iI, iI_jL, lc_eq, lc_lt, lc_le, lc_ge, lc_gt, Nat.sub_zero, Nat.zero_le, true_and, and_true, Nat.reduceAdd, Nat.reduceLeDiff]
    exact ⟨h1, h6, c_needRight hI hz (Nat.le_refl _) (Nat.le_refl _) (Or.inl rfl) (fun e => absurd e (by decide)) (fun _ hi' I' F' => H.2 2 (by omega) rfl hi' hl hr I' F' Fc.rf Fc.rf)⟩
end
-- DRAFT 71
section
variable {G : en_G} {d : Nat} {K : en_K} {W : zW} {n : Nat} {hi : en_I} {hl : en_L} {hr : en_F} {xc xs : Nat}
/-- the i-th horn: from the cell c on, behind m of them -/
def hoP (f : Nat → Nat → Nat → Int) (nc nz : Nat) (i : Int) : Nat → Nat → Int → Int
  | 0, _, _ => -1
  | k + 1, c, m => if hnI f nc nz c = 1 then if i = m then (c : Int) else hoP f nc nz i k (c + 1) (m + 1) else hoP f nc nz i k (c + 1) m
theorem hn01 {f : Nat → Nat → Nat → Int} {nc nz c : Nat} : hnI f nc nz c = 0 ∨ hnI f nc nz c = 1 := by unfold hnI; split <;> omega
theorem iI_z {a : Int} (h1 : -4294967296 < a) (h2 : a < 4294967296) : (iI a = 0) = (a = 0) := by
  refine propext ⟨fun h => ?_, fun h => by rw [h]; rfl⟩
  have : (iI a).toInt = 0 := by rw [h]; rfl
  unfold iI at this
  rw [Int32.toInt_ofInt] at this
  have e : ((2 : Nat) ^ 32 : Nat) = 4294967296 := rfl
  have := Int.emod_add_mul_ediv a 4294967296
  have b := @Int.bmod_emod a (2 ^ 32)
  rename_i t1 t2
  rw [show Int.bmod a (2 ^ 32) = 0 from t1] at b
  have : a % 4294967296 = 0 := by rw [← show ((2 ^ 32 : Nat) : Int) = 4294967296 by decide, ← b]; rfl
  omega
theorem c_horn {i : Int} (hI : InvC G W hi hr) (hz : zOK n W) (hi9 : iRg i) (H : cEnd G W W 0 (.int (iI (hoP (zS W).1.1 (zE W).2.1 (zE W).2.2.1 i (zE W).2.1 0 0))) K hi hl hr) : en_Call G (d + 3) xc xs Y_X10_horn wN wN [.ref 0, .int (iI i)] hi hl hr K := by
  obtain ⟨r9, hS, hX⟩ := hI.o
  obtain ⟨nc12, nz6⟩ := hz.c
  obtain ⟨z0, z1, -⟩ := is16.sh
  have e0 : hi 16 0 = iI ((zE W).2.1 : Int) := hX.1.1.1
  obtain ⟨i1, i2⟩ := hi9
  have Hx := H.1 rfl hi hl hr hI Fc.rf Fc.rf Fc.rf
  apply en_X10_horn
  simp (disch := omega) only [B_X10_horn_0, en_ops, en_opc, iI_add, iI_mul, iI_sub, jL_add, jL_mul, iI_le, iI_lt, iI_eq, iI_eq0, iI_lt0, iI_0le, iI_le0, iI_0lt, jL_iI, iI_jL, lc_eq, lc_lt, lc_le, lc_ge, lc_gt, Nat.sub_zero, Nat.zero_le, true_and, and_true, Nat.reduceAdd, Nat.reduceLeDiff]
  suffices L : ∀ k c : Nat, k + c = (zE W).2.1 → ∀ m : Int, 0 ≤ m ∧ m ≤ c → hoP (zS W).1.1 (zE W).2.1 (zE W).2.2.1 i k c m = hoP (zS W).1.1 (zE W).2.1 (zE W).2.2.1 i (zE W).2.1 0 0 → en_V G Y_X10_horn (d + 3) wN wN K 4 [.ref 0, .int (iI i), .int (iI (i - m)), .int (iI (c : Int))] [] hi hl hr xc xs by
    have := L (zE W).2.1 0 (Nat.add_zero _) 0 (by omega) rfl
    rw [Int.sub_zero] at this
    exact this
  intro k
  induction k with
  | zero =>
    intro c hc m hm e9
    rw [← e9] at Hx
    have ec : c = (zE W).2.1 := by omega
    apply s_X10_horn_4
    simp (disch := omega) only [B_X10_horn_4, r9, sh0, lt0, z0, z1, e0, en_ops, en_opc, iI_add, iI_mul, iI_sub, jL_add, jL_mul, iI_le, iI_lt, iI_eq, iI_eq0, iI_lt0, iI_0le, iI_le0, iI_0lt, jL_iI, iI_jL, lc_eq, lc_lt, lc_le, lc_ge, lc_gt, Nat.sub_zero, Nat.zero_le, true_and, and_true, Nat.reduceAdd, Nat.reduceLeDiff]
    exact ⟨fun _ => Hx, fun e => by omega⟩
  | succ k ih =>
    intro c hc m hm e9
    have st : hoP (zS W).1.1 (zE W).2.1 (zE W).2.2.1 i (k + 1) c m = if hnI (zS W).1.1 (zE W).2.1 (zE W).2.2.1 c = 1 then if i = m then (c : Int) else hoP (zS W).1.1 (zE W).2.1 (zE W).2.2.1 i k (c + 1) (m + 1) else hoP (zS W).1.1 (zE W).2.1 (zE W).2.2.1 i k (c + 1) m := rfl
    rw [st] at e9
    have h01 := hn01 (f := (zS W).1.1) (nc := (zE W).2.1) (nz := (zE W).2.2.1) (c := c)
    apply s_X10_horn_4
    simp (disch := omega) only [B_X10_horn_4, r9, sh0, lt0, z0, z1, e0, en_ops, en_opc, iI_add, iI_mul, iI_sub, jL_add, jL_mul, iI_le, iI_lt, iI_eq, iI_eq0, iI_lt0, iI_0le, iI_le0, iI_0lt, jL_iI, iI_jL, lc_eq, lc_lt, lc_le, lc_ge, lc_gt, Nat.sub_zero, Nat.zero_le, true_and, and_true, Nat.reduceAdd, Nat.reduceLeDiff]
    refine ⟨fun e => by omega, fun _ => t_isHorn (d := d) is16 hS hX.1.1 hz.f (by omega) ?_⟩
    simp (disch := omega) only [en_ops, en_opc, iI_add, iI_mul, iI_sub, jL_add, jL_mul, iI_le, iI_lt, iI_eq, iI_eq0, iI_lt0, iI_0le, iI_le0, iI_0lt, jL_iI, iI_jL, lc_eq, lc_lt, lc_le, lc_ge, lc_gt, Nat.sub_zero, Nat.zero_le, true_and, and_true, Nat.reduceAdd, Nat.reduceLeDiff]
    have iz : (iI (i - m) = 0) = (i - m = 0) := iI_z (by omega) (by omega)
    refine ⟨fun e => ?_, fun e => ?_⟩
    · rw [if_neg (by omega)] at e9
      exact ih (c + 1) (by omega) m (by omega) e9
    · rw [if_pos (by omega)] at e9
      simp only [iz]
      refine ⟨fun e2 => ?_, fun e2 => ?_⟩
      · rw [if_neg (by omega)] at e9
        have := ih (c + 1) (by omega) (m + 1) (by omega) e9
        rw [show i - (m + 1) = i - m + -1 by omega] at this
        exact this
      · rw [if_pos (by omega)] at e9
        rw [← e9] at Hx
        exact Hx
def orP (W : zW) (w : Int) : Int := if w = 0 then prP (zS W).1.1 (zE W).2.1 (zE W).2.2.1 1 else if w = 1 then prP (zS W).1.1 (zE W).2.1 (zE W).2.2.1 0 else if w = 2 then sumTo (zE W).2.1 (hnI (zS W).1.1 (zE W).2.1 (zE W).2.2.1) else sumTo (zE W).2.1 (knI (zS W).1.1 (zE W).2.1 (zE W).2.2.1)
theorem c_order {w : Int} (hI : InvC G W hi hr) (hz : zOK n W) (h1 : 1 ≤ xc) (h6 : 6 ≤ xs) (hw : iRg w) (H : cEnd G W W (if 0 ≤ w ∧ w ≤ 3 then 0 else 3) (.int (iI (orP W w))) K hi hl hr) : en_Call G (d + 6) xc xs Y_X10_order wN wN [.ref 0, .int (iI w)] hi hl hr K := by
  obtain ⟨r9, hS, hX⟩ := hI.o
  obtain ⟨z0, z1, -⟩ := is16.sh
  have hwi := tsw_toInt hw
  apply en_X10_order
  simp (disch := omega) only [B_X10_order_0, sh0, lt0, en_ops, en_opc, iI_add, iI_mul, iI_sub, jL_add, jL_mul, iI_le, iI_lt, iI_eq, iI_eq0, iI_lt0, iI_0le, iI_le0, iI_0lt, jL_iI, iI_jL, lc_eq, lc_lt, lc_le, lc_ge, lc_gt, Nat.sub_zero, Nat.zero_le, true_and, and_true, Nat.reduceAdd, Nat.reduceLeDiff]
  refine c_isWithin hw (iRg_i (by decide) (by decide)) (iRg_i (by decide) (by decide)) ?_
  by_cases e2 : 0 ≤ w ∧ w ≤ 3
  · rw [if_pos e2]
    rw [if_pos e2] at H
    simp (disch := omega) only [sh0, lt0, en_ops, en_opc, iI_add, iI_mul, iI_sub, jL_add, jL_mul, iI_le, iI_lt, iI_eq, iI_eq0, iI_lt0, iI_0le, iI_le0, iI_0lt, jL_iI, iI_jL, lc_eq, lc_lt, lc_le, lc_ge, lc_gt, Nat.sub_zero, Nat.zero_le, true_and, and_true, Nat.reduceAdd, Nat.reduceLeDiff]
    refine ⟨h1, h6, c_needRight hI hz (Nat.le_refl _) (Nat.le_refl _) (Or.inr rfl) (fun _ => ?_) (fun e => absurd e (by decide))⟩
    have Hx := H.1 rfl hi hl hr hI Fc.rf Fc.rf Fc.rf
    unfold orP at Hx
    simp (disch := omega) only [hwi, en_ops, en_opc, iI_add, iI_mul, iI_sub, jL_add, jL_mul, iI_le, iI_lt, iI_eq, iI_eq0, iI_lt0, iI_0le, iI_le0, iI_0lt, jL_iI, iI_jL, lc_eq, lc_lt, lc_le, lc_ge, lc_gt, Nat.sub_zero, Nat.zero_le, true_and, and_true, Nat.reduceAdd, Nat.reduceLeDiff]
    refine ⟨fun e => ?_, fun j k hj e => ?_⟩
    · have w6 : w = 3 := by rcases e with e | e; omega; simp at e; omega
      subst w6
      apply s_X10_order_62
      simp (disch := omega) only [B_X10_order_62, r9, sh0, lt0, z0, z1, en_ops, en_opc, iI_add, iI_mul, iI_sub, jL_add, jL_mul, iI_le, iI_lt, iI_eq, iI_eq0, iI_lt0, iI_0le, iI_le0, iI_0lt, jL_iI, iI_jL, lc_eq, lc_lt, lc_le, lc_ge, lc_gt, Nat.sub_zero, Nat.zero_le, true_and, and_true, Nat.reduceAdd, Nat.reduceLeDiff]
      refine tS_known (d := d) is16 hS hX.1.1 hz.f ?_
      simp (disch := omega) only [en_ops, en_opc, iI_add, iI_mul, iI_sub, jL_add, jL_mul, iI_le, iI_lt, iI_eq, iI_eq0, iI_lt0, iI_0le, iI_le0, iI_0lt, jL_iI, iI_jL, lc_eq, lc_lt, lc_le, lc_ge, lc_gt, Nat.sub_zero, Nat.zero_le, true_and, and_true, Nat.reduceAdd, Nat.reduceLeDiff]
      exact Hx
    · rcases j with _ | _ | _ | j
      · obtain rfl := Option.some.inj hj
        have w0 : w = 0 := by omega
        subst w0
        apply s_X10_order_36
        simp (disch := omega) only [B_X10_order_36, r9, sh0, lt0, z0, z1, en_ops, en_opc, iI_add, iI_mul, iI_sub, jL_add, jL_mul, iI_le, iI_lt, iI_eq, iI_eq0, iI_lt0, iI_0le, iI_le0, iI_0lt, jL_iI, iI_jL, lc_eq, lc_lt, lc_le, lc_ge, lc_gt, Nat.sub_zero, Nat.zero_le, true_and, and_true, Nat.reduceAdd, Nat.reduceLeDiff]
        refine t_pairs (d := d + 1) (Or.inr rfl) is16 hS hX.1.1 hz.f ?_
        simp (disch := omega) only [en_ops, en_opc, iI_add, iI_mul, iI_sub, jL_add, jL_mul, iI_le, iI_lt, iI_eq, iI_eq0, iI_lt0, iI_0le, iI_le0, iI_0lt, jL_iI, iI_jL, lc_eq, lc_lt, lc_le, lc_ge, lc_gt, Nat.sub_zero, Nat.zero_le, true_and, and_true, Nat.reduceAdd, Nat.reduceLeDiff]
        exact Hx
      · obtain rfl := Option.some.inj hj
        have w0 : w = 1 := by omega
        subst w0
        apply s_X10_order_45
        simp (disch := omega) only [B_X10_order_45, r9, sh0, lt0, z0, z1, en_ops, en_opc, iI_add, iI_mul, iI_sub, jL_add, jL_mul, iI_le, iI_lt, iI_eq, iI_eq0, iI_lt0, iI_0le, iI_le0, iI_0lt, jL_iI, iI_jL, lc_eq, lc_lt, lc_le, lc_ge, lc_gt, Nat.sub_zero, Nat.zero_le, true_and, and_true, Nat.reduceAdd, Nat.reduceLeDiff]
        refine t_pairs (d := d + 1) (Or.inl rfl) is16 hS hX.1.1 hz.f ?_
        simp (disch := omega) only [en_ops, en_opc, iI_add, iI_mul, iI_sub, jL_add, jL_mul, iI_le, iI_lt, iI_eq, iI_eq0, iI_lt0, iI_0le, iI_le0, iI_0lt, jL_iI, iI_jL, lc_eq, lc_lt, lc_le, lc_ge, lc_gt, Nat.sub_zero, Nat.zero_le, true_and, and_true, Nat.reduceAdd, Nat.reduceLeDiff]
        exact Hx
      · obtain rfl := Option.some.inj hj
        have w0 : w = 2 := by omega
        subst w0
        apply s_X10_order_54
        simp (disch := omega) only [B_X10_order_54, r9, sh0, lt0, z0, z1, en_ops, en_opc, iI_add, iI_mul, iI_sub, jL_add, jL_mul, iI_le, iI_lt, iI_eq, iI_eq0, iI_lt0, iI_0le, iI_le0, iI_0lt, jL_iI, iI_jL, lc_eq, lc_lt, lc_le, lc_ge, lc_gt, Nat.sub_zero, Nat.zero_le, true_and, and_true, Nat.reduceAdd, Nat.reduceLeDiff]
        refine t_horns (d := d + 2) is16 hS hX.1.1 hz.f ?_
        simp (disch := omega) only [en_ops, en_opc, iI_add, iI_mul, iI_sub, jL_add, jL_mul, iI_le, iI_lt, iI_eq, iI_eq0, iI_lt0, iI_0le, iI_le0, iI_0lt, jL_iI, iI_jL, lc_eq, lc_lt, lc_le, lc_ge, lc_gt, Nat.sub_zero, Nat.zero_le, true_and, and_true, Nat.reduceAdd, Nat.reduceLeDiff]
        exact Hx
      · cases hj
  · rw [if_neg e2]
    rw [if_neg e2] at H
    simp (disch := omega) only [sh0, lt0, en_ops, en_opc, iI_add, iI_mul, iI_sub, jL_add, jL_mul, iI_le, iI_lt, iI_eq, iI_eq0, iI_lt0, iI_0le, iI_le0, iI_0lt, jL_iI, iI_jL, lc_eq, lc_lt, lc_le, lc_ge, lc_gt, Nat.sub_zero, Nat.zero_le, true_and, and_true, Nat.reduceAdd, Nat.reduceLeDiff]
    exact ⟨h1, h6, c_needRight hI hz (Nat.le_refl _) (Nat.le_refl _) (Or.inl rfl) (fun e => absurd e (by decide)) (fun _ hi' I' F' => H.2 2 (by omega) rfl hi' hl hr I' F' Fc.rf Fc.rf)⟩
def lkP2 (f : Nat → Nat → Nat → Int) (nc z k : Nat) (w : Int) : Int := if w = 0 then (riP (fun c => aP f c z) nc k : Int) else loKP nc (fun c => aP f c z) (riP (fun c => aP f c z) nc k)
theorem c_look {z k w : Int} (hI : InvC G W hi hr) (hz : zOK n W) (h1 : 1 ≤ xc) (h6 : 6 ≤ xs) (hzr : iRg z) (hk : iRg k) (hw : iRg w) (H : cEnd G W W (if inZ W z ∧ (1 ≤ k ∧ k ≤ (zE W).2.1) ∧ 0 ≤ w ∧ w ≤ 1 then 0 else 3) (.int (iI (lkP2 (zS W).1.1 (zE W).2.1 z.toNat k.toNat w))) K hi hl hr) : en_Call G (d + 4) xc xs Y_X10_look wN wN [.ref 0, .int (iI z), .int (iI k), .int (iI w)] hi hl hr K := by
  obtain ⟨r9, hS, hX⟩ := hI.o
  obtain ⟨nc12, nz6⟩ := hz.c
  obtain ⟨z0, z1, -⟩ := is16.sh
  have e0 : hi 16 0 = iI ((zE W).2.1 : Int) := hX.1.1.1
  have no : ¬ (inZ W z ∧ (1 ≤ k ∧ k ≤ (zE W).2.1) ∧ 0 ≤ w ∧ w ≤ 1) → en_V G Y_X10_look (d + 4) wN wN K 38 [.ref 0, .int (iI z), .int (iI k), .int (iI w), jk] [.int (iI 0), .ref 0] hi hl hr xc xs := fun e => by
    rw [if_neg e] at H
    apply s_X10_look_38
    simp (disch := omega) only [B_X10_look_38, sh0, lt0, en_ops, en_opc, iI_add, iI_mul, iI_sub, jL_add, jL_mul, iI_le, iI_lt, iI_eq, iI_eq0, iI_lt0, iI_0le, iI_le0, iI_0lt, jL_iI, iI_jL, lc_eq, lc_lt, lc_le, lc_ge, lc_gt, Nat.sub_zero, Nat.zero_le, true_and, and_true, Nat.reduceAdd, Nat.reduceLeDiff]
    exact ⟨h1, h6, c_needRight hI hz (Nat.le_refl _) (Nat.le_refl _) (Or.inl rfl) (fun e => absurd e (by decide)) (fun _ hi' I' F' => H.2 2 (by omega) rfl hi' hl hr I' F' Fc.rf Fc.rf)⟩
  apply en_X10_look
  simp (disch := omega) only [B_X10_look_0, sh0, lt0, en_ops, en_opc, iI_add, iI_mul, iI_sub, jL_add, jL_mul, iI_le, iI_lt, iI_eq, iI_eq0, iI_lt0, iI_0le, iI_le0, iI_0lt, jL_iI, iI_jL, lc_eq, lc_lt, lc_le, lc_ge, lc_gt, Nat.sub_zero, Nat.zero_le, true_and, and_true, Nat.reduceAdd, Nat.reduceLeDiff]
  refine c_isSize hI hz hzr ?_
  by_cases e1 : inZ W z
  · rw [if_pos e1]
    simp (disch := omega) only [r9, sh0, lt0, z0, z1, e0, en_ops, en_opc, iI_add, iI_mul, iI_sub, jL_add, jL_mul, iI_le, iI_lt, iI_eq, iI_eq0, iI_lt0, iI_0le, iI_le0, iI_0lt, jL_iI, iI_jL, lc_eq, lc_lt, lc_le, lc_ge, lc_gt, Nat.sub_zero, Nat.zero_le, true_and, and_true, Nat.reduceAdd, Nat.reduceLeDiff]
    refine ⟨fun e => absurd e (by decide), fun _ => c_isWithin hk (iRg_i (by decide) (by decide)) (iRg_n (by omega)) ?_⟩
    by_cases e2 : 1 ≤ k ∧ k ≤ (zE W).2.1
    · rw [if_pos e2]
      simp (disch := omega) only [en_ops, en_opc, iI_add, iI_mul, iI_sub, jL_add, jL_mul, iI_le, iI_lt, iI_eq, iI_eq0, iI_lt0, iI_0le, iI_le0, iI_0lt, jL_iI, iI_jL, lc_eq, lc_lt, lc_le, lc_ge, lc_gt, Nat.sub_zero, Nat.zero_le, true_and, and_true, Nat.reduceAdd, Nat.reduceLeDiff]
      refine ⟨fun e => absurd e (by decide), fun _ => c_isWithin hw (iRg_i (by decide) (by decide)) (iRg_i (by decide) (by decide)) ?_⟩
      by_cases e3 : 0 ≤ w ∧ w ≤ 1
      · rw [if_pos e3]
        rw [if_pos ⟨e1, e2, e3⟩] at H
        simp (disch := omega) only [en_ops, en_opc, iI_add, iI_mul, iI_sub, jL_add, jL_mul, iI_le, iI_lt, iI_eq, iI_eq0, iI_lt0, iI_0le, iI_le0, iI_0lt, jL_iI, iI_jL, lc_eq, lc_lt, lc_le, lc_ge, lc_gt, Nat.sub_zero, Nat.zero_le, true_and, and_true, Nat.reduceAdd, Nat.reduceLeDiff]
        refine ⟨fun e => absurd e (by decide), fun _ => ?_⟩
        have Hx := H.1 rfl hi hl hr hI Fc.rf Fc.rf Fc.rf
        unfold lkP2 at Hx
        apply s_X10_look_38
        simp (disch := omega) only [B_X10_look_38, sh0, lt0, en_ops, en_opc, iI_add, iI_mul, iI_sub, jL_add, jL_mul, iI_le, iI_lt, iI_eq, iI_eq0, iI_lt0, iI_0le, iI_le0, iI_0lt, jL_iI, iI_jL, lc_eq, lc_lt, lc_le, lc_ge, lc_gt, Nat.sub_zero, Nat.zero_le, true_and, and_true, Nat.reduceAdd, Nat.reduceLeDiff]
        refine ⟨h1, h6, c_needRight hI hz (Nat.le_refl _) (Nat.le_refl _) (Or.inr rfl) (fun _ => ?_) (fun e => absurd e (by decide))⟩
        simp (disch := omega) only [r9, sh0, lt0, z0, z1, en_ops, en_opc, iI_add, iI_mul, iI_sub, jL_add, jL_mul, iI_le, iI_lt, iI_eq, iI_eq0, iI_lt0, iI_0le, iI_le0, iI_0lt, jL_iI, iI_jL, lc_eq, lc_lt, lc_le, lc_ge, lc_gt, Nat.sub_zero, Nat.zero_le, true_and, and_true, Nat.reduceAdd, Nat.reduceLeDiff]
              rw [show z = ((z.toNat : Nat) : Int) by omega, show k = ((k.toNat : Nat) : Int) by omega]
        refine t_richest (d := d) is16 hS hX.1.1 hz.f (by omega) (by omega) ?_
        simp (disch := omega) only [r9, sh0, lt0, z0, z1, en_ops, en_opc, iI_add, iI_mul, iI_sub, jL_add, jL_mul, iI_le, iI_lt, iI_eq, iI_eq0, iI_lt0, iI_0le, iI_le0, iI_0lt, jL_iI, iI_jL, lc_eq, lc_lt, lc_le, lc_ge, lc_gt, Nat.sub_zero, Nat.zero_le, true_and, and_true, Nat.reduceAdd, Nat.reduceLeDiff]
        refine ⟨fun e => t_partIn (d := d) is16 hS hX.1.1 hz.f (by omega) ?_, fun e => ?_⟩
        · rw [if_neg e] at Hx
          simp (disch := omega) only [en_ops, en_opc, iI_add, iI_mul, iI_sub, jL_add, jL_mul, iI_le, iI_lt, iI_eq, iI_eq0, iI_lt0, iI_0le, iI_le0, iI_0lt, jL_iI, iI_jL, lc_eq, lc_lt, lc_le, lc_ge, lc_gt, Nat.sub_zero, Nat.zero_le, true_and, and_true, Nat.reduceAdd, Nat.reduceLeDiff]
          exact Hx
        · rw [if_pos (by omega)] at Hx
          exact Hx
      · rw [if_neg e3]
        simp (disch := omega) only [en_ops, en_opc, iI_add, iI_mul, iI_sub, jL_add, jL_mul, iI_le, iI_lt, iI_eq, iI_eq0, iI_lt0, iI_0le, iI_le0, iI_0lt, jL_iI, iI_jL, lc_eq, lc_lt, lc_le, lc_ge, lc_gt, Nat.sub_zero, Nat.zero_le, true_and, and_true, Nat.reduceAdd, Nat.reduceLeDiff]
        exact ⟨fun _ => no (fun g => e3 g.2.2), fun e => (e (by first | trivial | rfl)).elim⟩
    · rw [if_neg e2]
      simp (disch := omega) only [en_ops, en_opc, iI_add, iI_mul, iI_sub, jL_add, jL_mul, iI_le, iI_lt, iI_eq, iI_eq0, iI_lt0, iI_0le, iI_le0, iI_0lt, jL_iI, iI_jL, lc_eq, lc_lt, lc_le, lc_ge, lc_gt, Nat.sub_zero, Nat.zero_le, true_and, and_true, Nat.reduceAdd, Nat.reduceLeDiff]
      exact ⟨fun _ => no (fun g => e2 g.2.1), fun e => (e (by first | trivial | rfl)).elim⟩
  · rw [if_neg e1]
    simp (disch := omega) only [sh0, lt0, en_ops, en_opc, iI_add, iI_mul, iI_sub, jL_add, jL_mul, iI_le, iI_lt, iI_eq, iI_eq0, iI_lt0, iI_0le, iI_le0, iI_0lt, jL_iI, iI_jL, lc_eq, lc_lt, lc_le, lc_ge, lc_gt, Nat.sub_zero, Nat.zero_le, true_and, and_true, Nat.reduceAdd, Nat.reduceLeDiff]
    exact ⟨fun _ => no (fun g => e1 g.1), fun e => (e (by first | trivial | rfl)).elim⟩
/-- how far shares are apart -/
def liI (f : Nat → Nat → Nat → Int) (nz c e i : Nat) : Int := if shP f nz c i - shP f nz e i < 0 then -(shP f nz c i - shP f nz e i) else shP f nz c i - shP f nz e i
theorem c_like {c e : Int} (hI : InvC G W hi hr) (hz : zOK n W) (h1 : 1 ≤ xc) (h6 : 6 ≤ xs) (hc : iRg c) (he : iRg e) (H : cEnd G W W (if inC W c ∧ inC W e then 0 else 1) (.int (iI (sumTo 18 (liI (zS W).1.1 (zE W).2.2.1 c.toNat e.toNat)))) K hi hl hr) : en_Call G (d + 3) xc xs Y_X10_like wN wN [.ref 0, .int (iI c), .int (iI e)] hi hl hr K := by
  obtain ⟨r9, hS, hX⟩ := hI.o
  obtain ⟨nc12, nz6⟩ := hz.c
  obtain ⟨z0, z1, -⟩ := is16.sh
  have no : ¬ (inC W c ∧ inC W e) → ∀ k ls, en_Call G (d + 2) 1 6 Y_X10_needPlace wN wN [.ref 0, .int (iI 0)] hi hl hr (en_kk k (x_out K) ls [] (xc - 1) (xs - 6)) := fun e k ls => by
    rw [if_neg e] at H
    exact c_needPlace (d := d + 1) hI hz (Nat.le_refl _) (Nat.le_refl _) (Or.inl rfl) (fun e => absurd e (by decide)) (fun _ hi' I' F' => H.2 0 (by omega) rfl hi' hl hr I' F' Fc.rf Fc.rf)
  apply en_X10_like
  simp (disch := omega) only [B_X10_like_0, sh0, lt0, en_ops, en_opc, iI_add, iI_mul, iI_sub, jL_add, jL_mul, iI_le, iI_lt, iI_eq, iI_eq0, iI_lt0, iI_0le, iI_le0, iI_0lt, jL_iI, iI_jL, lc_eq, lc_lt, lc_le, lc_ge, lc_gt, Nat.sub_zero, Nat.zero_le, true_and, and_true, Nat.reduceAdd, Nat.reduceLeDiff]
  refine c_isCell hI hz hc ?_
  by_cases e1 : inC W c
  · rw [if_pos e1]
    simp (disch := omega) only [sh0, lt0, en_ops, en_opc, iI_add, iI_mul, iI_sub, jL_add, jL_mul, iI_le, iI_lt, iI_eq, iI_eq0, iI_lt0, iI_0le, iI_le0, iI_0lt, jL_iI, iI_jL, lc_eq, lc_lt, lc_le, lc_ge, lc_gt, Nat.sub_zero, Nat.zero_le, true_and, and_true, Nat.reduceAdd, Nat.reduceLeDiff]
    refine ⟨fun e => absurd e (by decide), fun _ => c_isCell hI hz he ?_⟩
    by_cases e2 : inC W e
    · rw [if_pos e2]
      rw [if_pos ⟨e1, e2⟩] at H
      simp (disch := omega) only [sh0, lt0, en_ops, en_opc, iI_add, iI_mul, iI_sub, jL_add, jL_mul, iI_le, iI_lt, iI_eq, iI_eq0, iI_lt0, iI_0le, iI_le0, iI_0lt, jL_iI, iI_jL, lc_eq, lc_lt, lc_le, lc_ge, lc_gt, Nat.sub_zero, Nat.zero_le, true_and, and_true, Nat.reduceAdd, Nat.reduceLeDiff]
      refine ⟨fun e => absurd e (by decide), fun _ => ⟨h1, h6, c_needPlace hI hz (Nat.le_refl _) (Nat.le_refl _) (Or.inr rfl) (fun _ => ?_) (fun e => absurd e (by decide))⟩⟩
      simp (disch := omega) only [en_ops, en_opc, iI_add, iI_mul, iI_sub, jL_add, jL_mul, iI_le, iI_lt, iI_eq, iI_eq0, iI_lt0, iI_0le, iI_le0, iI_0lt, jL_iI, iI_jL, lc_eq, lc_lt, lc_le, lc_ge, lc_gt, Nat.sub_zero, Nat.zero_le, true_and, and_true, Nat.reduceAdd, Nat.reduceLeDiff]
      suffices L : ∀ i : Nat, i ≤ 18 → en_V G Y_X10_like (d + 3) wN wN K 30 [.ref 0, .int (iI c), .int (iI e), .int (iI (sumTo i (liI (zS W).1.1 (zE W).2.2.1 c.toNat e.toNat))), .int (iI (i : Int))] [] hi hl hr (xc - 1) (xs - 6) from L 0 (by omega)
      refine lp 18 ?_ (fun i hi9 ih => ?_)
      · apply s_X10_like_30
        simp (disch := omega) only [B_X10_like_30, en_ops, en_opc, iI_add, iI_mul, iI_sub, jL_add, jL_mul, iI_le, iI_lt, iI_eq, iI_eq0, iI_lt0, iI_0le, iI_le0, iI_0lt, jL_iI, iI_jL, lc_eq, lc_lt, lc_le, lc_ge, lc_gt, Nat.sub_zero, Nat.zero_le, true_and, and_true, Nat.reduceAdd, Nat.reduceLeDiff]
        exact ⟨fun _ => H.1 rfl hi hl hr hI Fc.rf Fc.rf Fc.rf, fun e => absurd (show (18 : Int) ≤ ((18 : Nat) : Int) by omega) e⟩
      · rw [sumTo_s] at ih
        have s1 := shP_r (c := c.toNat) hz.f nz6 hi9
        have s2 := shP_r (c := e.toNat) hz.f nz6 hi9
        apply s_X10_like_30
        simp (disch := omega) only [B_X10_like_30, r9, sh0, lt0, z0, z1, en_ops, en_opc, iI_add, iI_mul, iI_sub, jL_add, jL_mul, iI_le, iI_lt, iI_eq, iI_eq0, iI_lt0, iI_0le, iI_le0, iI_0lt, jL_iI, iI_jL, lc_eq, lc_lt, lc_le, lc_ge, lc_gt, Nat.sub_zero, Nat.zero_le, true_and, and_true, Nat.reduceAdd, Nat.reduceLeDiff]
        refine ⟨fun e => by omega, fun _ => ?_⟩
        rw [show iI c = iI ((c.toNat : Nat) : Int) from iI_eq_of (by omega), show iI e = iI ((e.toNat : Nat) : Int) from iI_eq_of (by omega)]
        rw [show iI c = iI ((c.toNat : Nat) : Int) from iI_eq_of (by omega), show iI e = iI ((e.toNat : Nat) : Int) from iI_eq_of (by omega)] at ih
        refine t_share (d := d) is16 hS hX.1.1 hz.f (by omega) hi9 ?_
        simp (disch := omega) only [r9, sh0, lt0, z0, z1, en_ops, en_opc, iI_add, iI_mul, iI_sub, jL_add, jL_mul, iI_le, iI_lt, iI_eq, iI_eq0, iI_lt0, iI_0le, iI_le0, iI_0lt, jL_iI, iI_jL, lc_eq, lc_lt, lc_le, lc_ge, lc_gt, Nat.sub_zero, Nat.zero_le, true_and, and_true, Nat.reduceAdd, Nat.reduceLeDiff]
        refine t_share (d := d) is16 hS hX.1.1 hz.f (by omega) hi9 ?_
        simp (disch := omega) only [en_ops, en_opc, iI_add, iI_mul, iI_sub, jL_add, jL_mul, iI_le, iI_lt, iI_eq, iI_eq0, iI_lt0, iI_0le, iI_le0, iI_0lt, jL_iI, iI_jL, lc_eq, lc_lt, lc_le, lc_ge, lc_gt, Nat.sub_zero, Nat.zero_le, true_and, and_true, Nat.reduceAdd, Nat.reduceLeDiff]
        refine t_abs (by omega) (by omega) ?_
        simp (disch := omega) only [en_ops, en_opc, iI_add, iI_mul, iI_sub, jL_add, jL_mul, iI_le, iI_lt, iI_eq, iI_eq0, iI_lt0, iI_0le, iI_le0, iI_0lt, jL_iI, iI_jL, lc_eq, lc_lt, lc_le, lc_ge, lc_gt, Nat.sub_zero, Nat.zero_le, true_and, and_true, Nat.reduceAdd, Nat.reduceLeDiff]
        exact ih
    · rw [if_neg e2]
      simp (disch := omega) only [sh0, lt0, en_ops, en_opc, iI_add, iI_mul, iI_sub, jL_add, jL_mul, iI_le, iI_lt, iI_eq, iI_eq0, iI_lt0, iI_0le, iI_le0, iI_0lt, jL_iI, iI_jL, lc_eq, lc_lt, lc_le, lc_ge, lc_gt, Nat.sub_zero, Nat.zero_le, true_and, and_true, Nat.reduceAdd, Nat.reduceLeDiff]
      exact ⟨fun _ => ⟨h1, h6, no (fun g => e2 g.2) _ _⟩, fun e => (e (by first | trivial | rfl)).elim⟩
  · rw [if_neg e1]
    simp (disch := omega) only [sh0, lt0, en_ops, en_opc, iI_add, iI_mul, iI_sub, jL_add, jL_mul, iI_le, iI_lt, iI_eq, iI_eq0, iI_lt0, iI_0le, iI_le0, iI_0lt, jL_iI, iI_jL, lc_eq, lc_lt, lc_le, lc_ge, lc_gt, Nat.sub_zero, Nat.zero_le, true_and, and_true, Nat.reduceAdd, Nat.reduceLeDiff]
    exact ⟨fun _ => ⟨h1, h6, no (fun g => e1 g.1) _ _⟩, fun e => (e (by first | trivial | rfl)).elim⟩
/-- the image, the hand, the tape, the samples that are told -/
def smpP (W : zW) : Int := sumTo (zE W).2.1 (fun c => sumTo (zE W).2.2.1 (smI (zS W).2.2.2 c))
def cnP (W : zW) (w : Int) : Int := if w = 0 then (zS W).2.1 else if w = 1 then zNi W else if w = 2 then zNt W else if w = 3 then smpP W else -1
theorem c_count {w : Int} (hI : InvC G W hi hr) (hz : zOK n W) (hw : iRg w) (H : cEnd G W W 0 (.int (iI (cnP W w))) K hi hl hr) : en_Call G (d + 2) xc xs Y_X10_count wN wN [.ref 0, .int (iI w)] hi hl hr K := by
  obtain ⟨pl, hR, hN⟩ := id hI
  obtain ⟨r9, hS, hX⟩ := hI.o
  obtain ⟨z0, z1, -⟩ := is16.sh
  have e8 : hi 16 8 = iI ((zS W).2.1 : Int) := hX.2.1
  have e1 := hN.1.1
  have e11 := hN.2.2.2.2.1
  have hwi := tsw_toInt hw
  have Hx := H.1 rfl hi hl hr hI Fc.rf Fc.rf Fc.rf
  unfold cnP at Hx
  apply en_X10_count
  simp (disch := omega) only [B_X10_count_0, hwi, en_ops, en_opc, iI_add, iI_mul, iI_sub, jL_add, jL_mul, iI_le, iI_lt, iI_eq, iI_eq0, iI_lt0, iI_0le, iI_le0, iI_0lt, jL_iI, iI_jL, lc_eq, lc_lt, lc_le, lc_ge, lc_gt, Nat.sub_zero, Nat.zero_le, true_and, and_true, Nat.reduceAdd, Nat.reduceLeDiff]
  refine ⟨fun e => ?_, fun j k hj e => ?_⟩
  · have e' : w < 0 ∨ 4 ≤ w := by simp at e; omega
    rw [if_neg (by omega), if_neg (by omega), if_neg (by omega), if_neg (by omega)] at Hx
    apply s_X10_count_58
    simp (disch := omega) only [B_X10_count_58, en_ops, en_opc, iI_add, iI_mul, iI_sub, jL_add, jL_mul, iI_le, iI_lt, iI_eq, iI_eq0, iI_lt0, iI_0le, iI_le0, iI_0lt, jL_iI, iI_jL, lc_eq, lc_lt, lc_le, lc_ge, lc_gt, Nat.sub_zero, Nat.zero_le, true_and, and_true, Nat.reduceAdd, Nat.reduceLeDiff]
    exact Hx
  · rcases j with _ | _ | _ | _ | j
    · obtain rfl := Option.some.inj hj
      have w0 : w = 0 := by omega
      subst w0
      apply s_X10_count_32
      simp (disch := omega) only [B_X10_count_32, r9, sh0, lt0, z0, z1, e8, en_ops, en_opc, iI_add, iI_mul, iI_sub, jL_add, jL_mul, iI_le, iI_lt, iI_eq, iI_eq0, iI_lt0, iI_0le, iI_le0, iI_0lt, jL_iI, iI_jL, lc_eq, lc_lt, lc_le, lc_ge, lc_gt, Nat.sub_zero, Nat.zero_le, true_and, and_true, Nat.reduceAdd, Nat.reduceLeDiff]
      exact Hx
    · obtain rfl := Option.some.inj hj
      have w0 : w = 1 := by omega
      subst w0
      apply s_X10_count_40
      simp (disch := omega) only [B_X10_count_40, sh0, lt0, e11, en_ops, en_opc, iI_add, iI_mul, iI_sub, jL_add, jL_mul, iI_le, iI_lt, iI_eq, iI_eq0, iI_lt0, iI_0le, iI_le0, iI_0lt, jL_iI, iI_jL, lc_eq, lc_lt, lc_le, lc_ge, lc_gt, Nat.sub_zero, Nat.zero_le, true_and, and_true, Nat.reduceAdd, Nat.reduceLeDiff]
      exact Hx
    · obtain rfl := Option.some.inj hj
      have w0 : w = 2 := by omega
      subst w0
      apply s_X10_count_45
      simp (disch := omega) only [B_X10_count_45, sh0, lt0, e1, en_ops, en_opc, iI_add, iI_mul, iI_sub, jL_add, jL_mul, iI_le, iI_lt, iI_eq, iI_eq0, iI_lt0, iI_0le, iI_le0, iI_0lt, jL_iI, iI_jL, lc_eq, lc_lt, lc_le, lc_ge, lc_gt, Nat.sub_zero, Nat.zero_le, true_and, and_true, Nat.reduceAdd, Nat.reduceLeDiff]
      exact Hx
    · obtain rfl := Option.some.inj hj
      have w0 : w = 3 := by omega
      subst w0
      apply s_X10_count_50
      simp (disch := omega) only [B_X10_count_50, r9, sh0, lt0, z0, z1, en_ops, en_opc, iI_add, iI_mul, iI_sub, jL_add, jL_mul, iI_le, iI_lt, iI_eq, iI_eq0, iI_lt0, iI_0le, iI_le0, iI_0lt, jL_iI, iI_jL, lc_eq, lc_lt, lc_le, lc_ge, lc_gt, Nat.sub_zero, Nat.zero_le, true_and, and_true, Nat.reduceAdd, Nat.reduceLeDiff]
      refine t_sampled (d := d) (m := (zS W).2.2.2) is16 hS hX.1.1 (fun c z hc hz9 => ⟨hX.2.2.2 c z hc hz9, hz.x.2.2.2.2.2.1 c z hc hz9⟩) ?_
      simp (disch := omega) only [en_ops, en_opc, iI_add, iI_mul, iI_sub, jL_add, jL_mul, iI_le, iI_lt, iI_eq, iI_eq0, iI_lt0, iI_0le, iI_le0, iI_0lt, jL_iI, iI_jL, lc_eq, lc_lt, lc_le, lc_ge, lc_gt, Nat.sub_zero, Nat.zero_le, true_and, and_true, Nat.reduceAdd, Nat.reduceLeDiff]
      exact Hx
    · cases hj
end
-- DRAFT 72
section
variable {G : en_G} {d : Nat} {K : en_K} {W : zW} {n : Nat} {hi : en_I} {hl : en_L} {hr : en_F} {xc xs : Nat}
theorem InvR.t1 (hI : InvR G W hi hr) : InvR G W (en_up hi 110 0 (iI 0)) hr ∧ Fm hi (en_up hi 110 0 (iI 0)) ∧ en_up hi 110 0 (iI 0) 110 0 = iI 0 := ⟨hI.t0, fun x hx => up_row (by omega), up_at⟩
theorem rEnd.no {W' : zW} {r code k : Nat} {v0 v : Value} {h1 hi' : en_I} (H : rEnd G W W' r code v0 v K hi hl hr) (F1 : Fm hi h1) (hk : k < 4) (hrk : r = k + 1) (I' : InvR G (zRef W k) hi' hr) (F' : Fm h1 hi') (T' : hi' 110 0 = iI (code : Int)) : K (.inl (some v0)) hi' hl hr := H.2 k hk hrk hi' I' (F1.tr F') T'
theorem m_cmean {c : Int} (hI : InvR G W hi hr) (hz : zOK n W) (hc : iRg c) (H : rEnd G W W (if inC W c then 0 else 1) 1 (.int (iI 0)) (.int (iI (mnP (zS W).1.1 (zE W).2.2.1 c.toNat))) K hi hl hr) : en_Call G (d + 5) xc xs Y_X11_mean wN wN [.ref 110, .int (iI c)] hi hl hr K := by
  have nc12 := hz.c.1
  obtain ⟨I1, F1, T1⟩ := hI.t1
  apply en_X11_mean
  simp (disch := omega) only [B_X11_mean_0, sh110, lt110, en_ops, en_opc, iI_add, iI_mul, iI_sub, jL_add, jL_mul, iI_le, iI_lt, iI_eq, iI_eq0, iI_lt0, iI_0le, iI_le0, iI_0lt, jL_iI, iI_jL, lc_eq, lc_lt, lc_le, lc_ge, lc_gt, Nat.sub_zero, Nat.zero_le, true_and, and_true, Nat.reduceAdd, Nat.reduceLeDiff]
  generalize en_up hi 110 0 (iI 0) = h1 at *
  refine m_isCell (d := d + 2) (code := 1) I1 hz T1 hc (by omega) (fun e => ?_) (fun e hi' I' F' T' => ?_)
  · rw [if_pos e] at H
    obtain ⟨b, b1, b2, -⟩ := I1.e
    simp (disch := omega) only [sh110, lt110, en_ops, en_opc, iI_add, iI_mul, iI_sub, jL_add, jL_mul, iI_le, iI_lt, iI_eq, iI_eq0, iI_lt0, iI_0le, iI_le0, iI_0lt, jL_iI, iI_jL, lc_eq, lc_lt, lc_le, lc_ge, lc_gt, Nat.sub_zero, Nat.zero_le, true_and, and_true, Nat.reduceAdd, Nat.reduceLeDiff]
    refine ⟨fun _ => ?_, fun e => absurd e (by decide)⟩
    rw [show c = ((c.toNat : Nat) : Int) by omega]
    refine m_meanOf (d := d) (b := b) I1.1 I1.xr.1.1 b1 b2 hz.f (by omega) ?_
    simp (disch := omega) only [en_ops, en_opc, iI_add, iI_mul, iI_sub, jL_add, jL_mul, iI_le, iI_lt, iI_eq, iI_eq0, iI_lt0, iI_0le, iI_le0, iI_0lt, jL_iI, iI_jL, lc_eq, lc_lt, lc_le, lc_ge, lc_gt, Nat.sub_zero, Nat.zero_le, true_and, and_true, Nat.reduceAdd, Nat.reduceLeDiff]
    exact H.1 rfl h1 I1 F1 T1
  · rw [if_neg e] at H
    simp (disch := omega) only [en_ops, en_opc, iI_add, iI_mul, iI_sub, jL_add, jL_mul, iI_le, iI_lt, iI_eq, iI_eq0, iI_lt0, iI_0le, iI_le0, iI_0lt, jL_iI, iI_jL, lc_eq, lc_lt, lc_le, lc_ge, lc_gt, Nat.sub_zero, Nat.zero_le, true_and, and_true, Nat.reduceAdd, Nat.reduceLeDiff]
    exact ⟨fun e => (e (by first | trivial | rfl)).elim, fun _ => H.no F1 (by omega) rfl I' F' T'⟩
theorem m_csound {c : Int} (hI : InvR G W hi hr) (hz : zOK n W) (hc : iRg c) (H : rEnd G W W (if inC W c then 0 else 1) 1 (.int (iI 0)) (.int (iI (sdP (zS W).1.1 (zE W).2.2.1 c.toNat))) K hi hl hr) : en_Call G (d + 6) xc xs Y_X11_sound wN wN [.ref 110, .int (iI c)] hi hl hr K := by
  have nc12 := hz.c.1
  obtain ⟨I1, F1, T1⟩ := hI.t1
  apply en_X11_sound
  simp (disch := omega) only [B_X11_sound_0, sh110, lt110, en_ops, en_opc, iI_add, iI_mul, iI_sub, jL_add, jL_mul, iI_le, iI_lt, iI_eq, iI_eq0, iI_lt0, iI_0le, iI_le0, iI_0lt, jL_iI, iI_jL, lc_eq, lc_lt, lc_le, lc_ge, lc_gt, Nat.sub_zero, Nat.zero_le, true_and, and_true, Nat.reduceAdd, Nat.reduceLeDiff]
  generalize en_up hi 110 0 (iI 0) = h1 at *
  refine m_isCell (d := d + 3) (code := 1) I1 hz T1 hc (by omega) (fun e => ?_) (fun e hi' I' F' T' => ?_)
  · rw [if_pos e] at H
    obtain ⟨b, b1, b2, -⟩ := I1.e
    simp (disch := omega) only [sh110, lt110, en_ops, en_opc, iI_add, iI_mul, iI_sub, jL_add, jL_mul, iI_le, iI_lt, iI_eq, iI_eq0, iI_lt0, iI_0le, iI_le0, iI_0lt, jL_iI, iI_jL, lc_eq, lc_lt, lc_le, lc_ge, lc_gt, Nat.sub_zero, Nat.zero_le, true_and, and_true, Nat.reduceAdd, Nat.reduceLeDiff]
    refine ⟨fun _ => ?_, fun e => absurd e (by decide)⟩
    rw [show c = ((c.toNat : Nat) : Int) by omega]
    refine m_soundOf (d := d) (b := b) I1.1 I1.xr.1.1 b1 b2 hz.f (by omega) ?_
    simp (disch := omega) only [en_ops, en_opc, iI_add, iI_mul, iI_sub, jL_add, jL_mul, iI_le, iI_lt, iI_eq, iI_eq0, iI_lt0, iI_0le, iI_le0, iI_0lt, jL_iI, iI_jL, lc_eq, lc_lt, lc_le, lc_ge, lc_gt, Nat.sub_zero, Nat.zero_le, true_and, and_true, Nat.reduceAdd, Nat.reduceLeDiff]
    exact H.1 rfl h1 I1 F1 T1
  · rw [if_neg e] at H
    simp (disch := omega) only [en_ops, en_opc, iI_add, iI_mul, iI_sub, jL_add, jL_mul, iI_le, iI_lt, iI_eq, iI_eq0, iI_lt0, iI_0le, iI_le0, iI_0lt, jL_iI, iI_jL, lc_eq, lc_lt, lc_le, lc_ge, lc_gt, Nat.sub_zero, Nat.zero_le, true_and, and_true, Nat.reduceAdd, Nat.reduceLeDiff]
    exact ⟨fun e => (e (by first | trivial | rfl)).elim, fun _ => H.no F1 (by omega) rfl I' F' T'⟩
theorem InvR.H (hI : InvR G W hi hr) (hz : zOK n W) : rhH (zS W).2.1 (zS W).2.2.1 hi := by
  obtain ⟨-, x1, x2, -⟩ := hI.xr
  obtain ⟨o1, o2⟩ := hz.x.2.2.2.2.1
  exact ⟨x1, o1, fun i hi9 => ⟨(x2 i hi9).1, (x2 i hi9).2, o2 i hi9⟩⟩
theorem m_cword {c : Int} (hI : InvR G W hi hr) (hz : zOK n W) (hc : iRg c) (H : rEnd G W W (if inC W c then 0 else 1) 1 (.long (jL 0)) (.long (jL (wdP (zS W).1.1 (zE W).2.2.1 (zS W).2.1 (hdG (zS W).2.2.1) c.toNat))) K hi hl hr) : en_Call G (d + 5) xc xs Y_X11_word_ wN wN [.ref 110, .int (iI c)] hi hl hr K := by
  have nc12 := hz.c.1
  obtain ⟨I1, F1, T1⟩ := hI.t1
  apply en_X11_word_
  simp (disch := omega) only [B_X11_word__0, sh110, lt110, en_ops, en_opc, iI_add, iI_mul, iI_sub, jL_add, jL_mul, iI_le, iI_lt, iI_eq, iI_eq0, iI_lt0, iI_0le, iI_le0, iI_0lt, jL_iI, iI_jL, lc_eq, lc_lt, lc_le, lc_ge, lc_gt, Nat.sub_zero, Nat.zero_le, true_and, and_true, Nat.reduceAdd, Nat.reduceLeDiff]
  generalize en_up hi 110 0 (iI 0) = h1 at *
  refine m_isCell (d := d + 2) (code := 1) I1 hz T1 hc (by omega) (fun e => ?_) (fun e hi' I' F' T' => ?_)
  · rw [if_pos e] at H
    obtain ⟨b, b1, b2, -⟩ := I1.e
    simp (disch := omega) only [sh110, lt110, en_ops, en_opc, iI_add, iI_mul, iI_sub, jL_add, jL_mul, iI_le, iI_lt, iI_eq, iI_eq0, iI_lt0, iI_0le, iI_le0, iI_0lt, jL_iI, iI_jL, lc_eq, lc_lt, lc_le, lc_ge, lc_gt, Nat.sub_zero, Nat.zero_le, true_and, and_true, Nat.reduceAdd, Nat.reduceLeDiff]
    refine ⟨fun _ => ?_, fun e => absurd e (by decide)⟩
    rw [show c = ((c.toNat : Nat) : Int) by omega]
    refine m_wordOf (d := d) (b := b) I1.1 I1.xr.1.1 b1 b2 hz.f (I1.H hz) (by omega) ?_
    simp (disch := omega) only [en_ops, en_opc, iI_add, iI_mul, iI_sub, jL_add, jL_mul, iI_le, iI_lt, iI_eq, iI_eq0, iI_lt0, iI_0le, iI_le0, iI_0lt, jL_iI, iI_jL, lc_eq, lc_lt, lc_le, lc_ge, lc_gt, Nat.sub_zero, Nat.zero_le, true_and, and_true, Nat.reduceAdd, Nat.reduceLeDiff]
    exact H.1 rfl h1 I1 F1 T1
  · rw [if_neg e] at H
    simp (disch := omega) only [en_ops, en_opc, iI_add, iI_mul, iI_sub, jL_add, jL_mul, iI_le, iI_lt, iI_eq, iI_eq0, iI_lt0, iI_0le, iI_le0, iI_0lt, jL_iI, iI_jL, lc_eq, lc_lt, lc_le, lc_ge, lc_gt, Nat.sub_zero, Nat.zero_le, true_and, and_true, Nat.reduceAdd, Nat.reduceLeDiff]
    exact ⟨fun e => (e (by first | trivial | rfl)).elim, fun _ => H.no F1 (by omega) rfl I' F' T'⟩
theorem m_ccell {c w : Int} (hI : InvR G W hi hr) (hz : zOK n W) (hc : iRg c) (hw : iRg w) (H : rEnd G W W (if inC W c then if 0 ≤ w ∧ w ≤ 2 then 0 else 3 else 1) (if inC W c then 2 else 1) (.int (iI 0)) (.int (iI (clP W c.toNat w))) K hi hl hr) : en_Call G (d + 3) xc xs Y_X11_cell wN wN [.ref 110, .int (iI c), .int (iI w)] hi hl hr K := by
  have nc12 := hz.c.1
  obtain ⟨I1, F1, T1⟩ := hI.t1
  apply en_X11_cell
  simp (disch := omega) only [B_X11_cell_0, sh110, lt110, en_ops, en_opc, iI_add, iI_mul, iI_sub, jL_add, jL_mul, iI_le, iI_lt, iI_eq, iI_eq0, iI_lt0, iI_0le, iI_le0, iI_0lt, jL_iI, iI_jL, lc_eq, lc_lt, lc_le, lc_ge, lc_gt, Nat.sub_zero, Nat.zero_le, true_and, and_true, Nat.reduceAdd, Nat.reduceLeDiff]
  generalize en_up hi 110 0 (iI 0) = h1 at *
  refine m_isCell (d := d) (code := 1) I1 hz T1 hc (by omega) (fun e => ?_) (fun e hi' I' F' T' => ?_)
  · rw [if_pos e, if_pos e] at H
    obtain ⟨b, b1, b2, b3, -⟩ := I1.e
    obtain ⟨⟨-, -, r10, -, r12, -⟩, -⟩ := id I1.1
    simp (disch := omega) only [sh110, lt110, en_ops, en_opc, iI_add, iI_mul, iI_sub, jL_add, jL_mul, iI_le, iI_lt, iI_eq, iI_eq0, iI_lt0, iI_0le, iI_le0, iI_0lt, jL_iI, iI_jL, lc_eq, lc_lt, lc_le, lc_ge, lc_gt, Nat.sub_zero, Nat.zero_le, true_and, and_true, Nat.reduceAdd, Nat.reduceLeDiff]
    refine ⟨fun e => absurd e (by decide), fun _ => m_within hw.1 hw.2 (by decide) (by decide) (by decide) (by decide) ?_⟩
    by_cases e2 : 0 ≤ w ∧ w ≤ 2
    · rw [if_pos e2]
      rw [if_pos e2] at H
      simp (disch := omega) only [sh110, lt110, en_ops, en_opc, iI_add, iI_mul, iI_sub, jL_add, jL_mul, iI_le, iI_lt, iI_eq, iI_eq0, iI_lt0, iI_0le, iI_le0, iI_0lt, jL_iI, iI_jL, lc_eq, lc_lt, lc_le, lc_ge, lc_gt, Nat.sub_zero, Nat.zero_le, true_and, and_true, Nat.reduceAdd, Nat.reduceLeDiff]
      refine m_may (d := d + 1) (code := 2) (k := 2) I1 T1 (Or.inr rfl) (by omega) (by omega) (fun _ => ?_) (fun e => absurd e (by decide))
      have Hx := H.1 rfl h1 I1 F1 T1
      unfold clP at Hx
      obtain ⟨-, x2, x3, -⟩ := I1.xr.1
      simp (disch := omega) only [r10, r12, sh110, lt110, sh113, lt113, sh115, lt115, en_ops, en_opc, iI_add, iI_mul, iI_sub, jL_add, jL_mul, iI_le, iI_lt, iI_eq, iI_eq0, iI_lt0, iI_0le, iI_le0, iI_0lt, jL_iI, iI_jL, lc_eq, lc_lt, lc_le, lc_ge, lc_gt, Nat.sub_zero, Nat.zero_le, true_and, and_true, Nat.reduceAdd, Nat.reduceLeDiff]
      refine ⟨fun _ => ⟨fun e3 => ⟨fun e4 => ⟨600 + c.toNat, iI_eq_of (by omega), by omega, ?_⟩, fun e4 => ⟨52 + c.toNat, iI_eq_of (by omega), by omega, ?_⟩⟩, fun e3 => ⟨576 + c.toNat, iI_eq_of (by omega), by omega, ?_⟩⟩, fun e => absurd e (by decide)⟩
      · rw [if_neg e3, if_neg (by omega)] at Hx
        rw [show h1 115 (600 + c.toNat) = iI ((zS W).1.2.2.1 c.toNat) from x3 _ (by omega)]
        exact Hx
      · rw [if_neg e3, if_pos (by omega)] at Hx
        rw [b1 _ (by omega), b3 _ (by omega)]
        exact Hx
      · rw [if_pos (by omega)] at Hx
        rw [show h1 115 (576 + c.toNat) = iI ((zS W).1.2.1 c.toNat) from x2 _ (by omega)]
        exact Hx
    · rw [if_neg e2]
      rw [if_neg e2] at H
      simp (disch := omega) only [sh110, lt110, en_ops, en_opc, iI_add, iI_mul, iI_sub, jL_add, jL_mul, iI_le, iI_lt, iI_eq, iI_eq0, iI_lt0, iI_0le, iI_le0, iI_0lt, jL_iI, iI_jL, lc_eq, lc_lt, lc_le, lc_ge, lc_gt, Nat.sub_zero, Nat.zero_le, true_and, and_true, Nat.reduceAdd, Nat.reduceLeDiff]
      refine m_may (d := d + 1) (code := 2) (k := 2) I1 T1 (Or.inl rfl) (by omega) (by omega) (fun e => absurd e (by decide)) (fun _ hi' I' F' T' => ?_)
      simp (disch := omega) only [en_ops, en_opc, iI_add, iI_mul, iI_sub, jL_add, jL_mul, iI_le, iI_lt, iI_eq, iI_eq0, iI_lt0, iI_0le, iI_le0, iI_0lt, jL_iI, iI_jL, lc_eq, lc_lt, lc_le, lc_ge, lc_gt, Nat.sub_zero, Nat.zero_le, true_and, and_true, Nat.reduceAdd, Nat.reduceLeDiff]
      exact ⟨fun e => (e (by first | trivial | rfl)).elim, fun _ => H.no F1 (by omega) rfl I' F' T'⟩
  · rw [if_neg e, if_neg e] at H
    simp (disch := omega) only [en_ops, en_opc, iI_add, iI_mul, iI_sub, jL_add, jL_mul, iI_le, iI_lt, iI_eq, iI_eq0, iI_lt0, iI_0le, iI_le0, iI_0lt, jL_iI, iI_jL, lc_eq, lc_lt, lc_le, lc_ge, lc_gt, Nat.sub_zero, Nat.zero_le, true_and, and_true, Nat.reduceAdd, Nat.reduceLeDiff]
    exact ⟨fun _ => H.no F1 (by omega) rfl I' F' T', fun e => (e (by first | trivial | rfl)).elim⟩
theorem m_csums {w : Int} (hI : InvR G W hi hr) (hz : zOK n W) (hw : iRg w) (H : rEnd G W W (if 0 ≤ w ∧ w ≤ 4 then 0 else 3) 1 (.int (iI 0)) (.int (iI ((zS W).1.2.2.2.1 w.toNat))) K hi hl hr) : en_Call G (d + 2) xc xs Y_X11_sums wN wN [.ref 110, .int (iI w)] hi hl hr K := by
  obtain ⟨I1, F1, T1⟩ := hI.t1
  obtain ⟨⟨-, -, r10, -, r12, -⟩, -⟩ := id I1.1
  apply en_X11_sums
  simp (disch := omega) only [B_X11_sums_0, sh110, lt110, en_ops, en_opc, iI_add, iI_mul, iI_sub, jL_add, jL_mul, iI_le, iI_lt, iI_eq, iI_eq0, iI_lt0, iI_0le, iI_le0, iI_0lt, jL_iI, iI_jL, lc_eq, lc_lt, lc_le, lc_ge, lc_gt, Nat.sub_zero, Nat.zero_le, true_and, and_true, Nat.reduceAdd, Nat.reduceLeDiff]
  generalize en_up hi 110 0 (iI 0) = h1 at *
  refine m_within hw.1 hw.2 (by decide) (by decide) (by decide) (by decide) ?_
  by_cases e2 : 0 ≤ w ∧ w ≤ 4
  · rw [if_pos e2]
    rw [if_pos e2] at H
    simp (disch := omega) only [sh110, lt110, en_ops, en_opc, iI_add, iI_mul, iI_sub, jL_add, jL_mul, iI_le, iI_lt, iI_eq, iI_eq0, iI_lt0, iI_0le, iI_le0, iI_0lt, jL_iI, iI_jL, lc_eq, lc_lt, lc_le, lc_ge, lc_gt, Nat.sub_zero, Nat.zero_le, true_and, and_true, Nat.reduceAdd, Nat.reduceLeDiff]
    refine m_may (d := d) (code := 1) (k := 2) I1 T1 (Or.inr rfl) (by omega) (by omega) (fun _ => ?_) (fun e => absurd e (by decide))
    simp (disch := omega) only [r12, sh110, lt110, sh115, lt115, en_ops, en_opc, iI_add, iI_mul, iI_sub, jL_add, jL_mul, iI_le, iI_lt, iI_eq, iI_eq0, iI_lt0, iI_0le, iI_le0, iI_0lt, jL_iI, iI_jL, lc_eq, lc_lt, lc_le, lc_ge, lc_gt, Nat.sub_zero, Nat.zero_le, true_and, and_true, Nat.reduceAdd, Nat.reduceLeDiff]
    refine ⟨fun _ => ⟨625 + w.toNat, iI_eq_of (by omega), by omega, ?_⟩, fun e => absurd e (by decide)⟩
    rw [show h1 115 (625 + w.toNat) = iI ((zS W).1.2.2.2.1 w.toNat) from I1.xr.1.2.2.2.1 _ (by omega)]
    exact H.1 rfl h1 I1 F1 T1
  · rw [if_neg e2]
    rw [if_neg e2] at H
    simp (disch := omega) only [sh110, lt110, en_ops, en_opc, iI_add, iI_mul, iI_sub, jL_add, jL_mul, iI_le, iI_lt, iI_eq, iI_eq0, iI_lt0, iI_0le, iI_le0, iI_0lt, jL_iI, iI_jL, lc_eq, lc_lt, lc_le, lc_ge, lc_gt, Nat.sub_zero, Nat.zero_le, true_and, and_true, Nat.reduceAdd, Nat.reduceLeDiff]
    refine m_may (d := d) (code := 1) (k := 2) I1 T1 (Or.inl rfl) (by omega) (by omega) (fun e => absurd e (by decide)) (fun _ hi' I' F' T' => ?_)
    simp (disch := omega) only [en_ops, en_opc, iI_add, iI_mul, iI_sub, jL_add, jL_mul, iI_le, iI_lt, iI_eq, iI_eq0, iI_lt0, iI_0le, iI_le0, iI_0lt, jL_iI, iI_jL, lc_eq, lc_lt, lc_le, lc_ge, lc_gt, Nat.sub_zero, Nat.zero_le, true_and, and_true, Nat.reduceAdd, Nat.reduceLeDiff]
    exact ⟨fun e => (e (by first | trivial | rfl)).elim, fun _ => H.no F1 (by omega) rfl I' F' T'⟩
theorem m_cfault (hI : InvR G W hi hr) (H : rEnd G W W 0 0 (.int (iI 0)) (.int (iI (zFa W))) K hi hl hr) : en_Call G (d + 1) xc xs Y_X11_fault wN wN [.ref 110] hi hl hr K := by
  obtain ⟨I1, F1, T1⟩ := hI.t1
  have f8 := I1.2.2.1
  apply en_X11_fault
  simp (disch := omega) only [B_X11_fault_0, sh110, lt110, en_ops, en_opc, iI_add, iI_mul, iI_sub, jL_add, jL_mul, iI_le, iI_lt, iI_eq, iI_eq0, iI_lt0, iI_0le, iI_le0, iI_0lt, jL_iI, iI_jL, lc_eq, lc_lt, lc_le, lc_ge, lc_gt, Nat.sub_zero, Nat.zero_le, true_and, and_true, Nat.reduceAdd, Nat.reduceLeDiff]
  generalize en_up hi 110 0 (iI 0) = h1 at *
  rw [f8]
  exact H.1 rfl h1 I1 F1 T1
theorem m_cstatus {w : Int} (hI : InvR G W hi hr) (hw : iRg w) (H : rEnd G W W 0 0 (.int (iI 0)) (.int (iI (if 0 ≤ w ∧ w ≤ 3 then zRf W w.toNat else -1))) K hi hl hr) : en_Call G (d + 2) xc xs Y_X11_status wN wN [.ref 110, .int (iI w)] hi hl hr K := by
  obtain ⟨I1, F1, T1⟩ := hI.t1
  obtain ⟨⟨r1, -⟩, -⟩ := id I1.1
  apply en_X11_status
  simp (disch := omega) only [B_X11_status_0, sh110, lt110, en_ops, en_opc, iI_add, iI_mul, iI_sub, jL_add, jL_mul, iI_le, iI_lt, iI_eq, iI_eq0, iI_lt0, iI_0le, iI_le0, iI_0lt, jL_iI, iI_jL, lc_eq, lc_lt, lc_le, lc_ge, lc_gt, Nat.sub_zero, Nat.zero_le, true_and, and_true, Nat.reduceAdd, Nat.reduceLeDiff]
  generalize en_up hi 110 0 (iI 0) = h1 at *
  have Hx := H.1 rfl h1 I1 F1 T1
  refine m_within hw.1 hw.2 (by decide) (by decide) (by decide) (by decide) ?_
  by_cases e2 : 0 ≤ w ∧ w ≤ 3
  · rw [if_pos e2]
    rw [if_pos e2] at Hx
    simp (disch := omega) only [r1, sh110, lt110, sh111, lt111, en_ops, en_opc, iI_add, iI_mul, iI_sub, jL_add, jL_mul, iI_le, iI_lt, iI_eq, iI_eq0, iI_lt0, iI_0le, iI_le0, iI_0lt, jL_iI, iI_jL, lc_eq, lc_lt, lc_le, lc_ge, lc_gt, Nat.sub_zero, Nat.zero_le, true_and, and_true, Nat.reduceAdd, Nat.reduceLeDiff]
    refine ⟨fun e => absurd e (by decide), fun _ => ⟨w.toNat, iI_eq_of (by omega), by omega, ?_⟩⟩
    rw [I1.2.2.2.2.2.2.1 _ (by omega)]
    exact Hx
  · rw [if_neg e2]
    rw [if_neg e2] at Hx
    simp (disch := omega) only [en_ops, en_opc, iI_add, iI_mul, iI_sub, jL_add, jL_mul, iI_le, iI_lt, iI_eq, iI_eq0, iI_lt0, iI_0le, iI_le0, iI_0lt, jL_iI, iI_jL, lc_eq, lc_lt, lc_le, lc_ge, lc_gt, Nat.sub_zero, Nat.zero_le, true_and, and_true, Nat.reduceAdd, Nat.reduceLeDiff]
    exact ⟨fun _ => Hx, fun e => (e (by first | trivial | rfl)).elim⟩
theorem m_cseen {k w : Int} (hI : InvR G W hi hr) (hk : iRg k) (hw : iRg w) (H : rEnd G W W (if (1 ≤ k ∧ k ≤ 999) ∧ 1 ≤ w ∧ w ≤ 16 then 0 else 3) 1 (.int (iI 0)) (.int (iI ((16 * k + w - 1) / w))) K hi hl hr) : en_Call G (d + 2) xc xs Y_X11_seen wN wN [.ref 110, .int (iI k), .int (iI w)] hi hl hr K := by
  obtain ⟨I1, F1, T1⟩ := hI.t1
  apply en_X11_seen
  simp (disch := omega) only [B_X11_seen_0, sh110, lt110, en_ops, en_opc, iI_add, iI_mul, iI_sub, jL_add, jL_mul, iI_le, iI_lt, iI_eq, iI_eq0, iI_lt0, iI_0le, iI_le0, iI_0lt, jL_iI, iI_jL, lc_eq, lc_lt, lc_le, lc_ge, lc_gt, Nat.sub_zero, Nat.zero_le, true_and, and_true, Nat.reduceAdd, Nat.reduceLeDiff]
  generalize en_up hi 110 0 (iI 0) = h1 at *
  have no : ¬ ((1 ≤ k ∧ k ≤ 999) ∧ 1 ≤ w ∧ w ≤ 16) → en_V G Y_X11_seen (d + 2) wN wN K 32 [.ref 110, .int (iI k), .int (iI w)] [.int (iI 0), .ref 110] h1 hl hr xc xs := fun e => by
    rw [if_neg e] at H
    apply s_X11_seen_32
    simp (disch := omega) only [B_X11_seen_32, sh110, lt110, en_ops, en_opc, iI_add, iI_mul, iI_sub, jL_add, jL_mul, iI_le, iI_lt, iI_eq, iI_eq0, iI_lt0, iI_0le, iI_le0, iI_0lt, jL_iI, iI_jL, lc_eq, lc_lt, lc_le, lc_ge, lc_gt, Nat.sub_zero, Nat.zero_le, true_and, and_true, Nat.reduceAdd, Nat.reduceLeDiff]
    refine m_may (d := d) (code := 1) (k := 2) I1 T1 (Or.inl rfl) (by omega) (by omega) (fun e => absurd e (by decide)) (fun _ hi' I' F' T' => ?_)
    simp (disch := omega) only [en_ops, en_opc, iI_add, iI_mul, iI_sub, jL_add, jL_mul, iI_le, iI_lt, iI_eq, iI_eq0, iI_lt0, iI_0le, iI_le0, iI_0lt, jL_iI, iI_jL, lc_eq, lc_lt, lc_le, lc_ge, lc_gt, Nat.sub_zero, Nat.zero_le, true_and, and_true, Nat.reduceAdd, Nat.reduceLeDiff]
    exact ⟨fun e => (e (by first | trivial | rfl)).elim, fun _ => H.no F1 (by omega) rfl I' F' T'⟩
  refine m_within hk.1 hk.2 (by decide) (by decide) (by decide) (by decide) ?_
  by_cases e1 : 1 ≤ k ∧ k ≤ 999
  · rw [if_pos e1]
    simp (disch := omega) only [en_ops, en_opc, iI_add, iI_mul, iI_sub, jL_add, jL_mul, iI_le, iI_lt, iI_eq, iI_eq0, iI_lt0, iI_0le, iI_le0, iI_0lt, jL_iI, iI_jL, lc_eq, lc_lt, lc_le, lc_ge, lc_gt, Nat.sub_zero, Nat.zero_le, true_and, and_true, Nat.reduceAdd, Nat.reduceLeDiff]
    refine ⟨fun e => absurd e (by decide), fun _ => m_within hw.1 hw.2 (by decide) (by decide) (by decide) (by decide) ?_⟩
    by_cases e2 : 1 ≤ w ∧ w ≤ 16
    · rw [if_pos e2]
      rw [if_pos ⟨e1, e2⟩] at H
      simp (disch := omega) only [en_ops, en_opc, iI_add, iI_mul, iI_sub, jL_add, jL_mul, iI_le, iI_lt, iI_eq, iI_eq0, iI_lt0, iI_0le, iI_le0, iI_0lt, jL_iI, iI_jL, lc_eq, lc_lt, lc_le, lc_ge, lc_gt, Nat.sub_zero, Nat.zero_le, true_and, and_true, Nat.reduceAdd, Nat.reduceLeDiff]
      refine ⟨fun e => absurd e (by decide), fun _ => ?_⟩
      apply s_X11_seen_32
      simp (disch := omega) only [B_X11_seen_32, sh110, lt110, en_ops, en_opc, iI_add, iI_mul, iI_sub, jL_add, jL_mul, iI_le, iI_lt, iI_eq, iI_eq0, iI_lt0, iI_0le, iI_le0, iI_0lt, jL_iI, iI_jL, lc_eq, lc_lt, lc_le, lc_ge, lc_gt, Nat.sub_zero, Nat.zero_le, true_and, and_true, Nat.reduceAdd, Nat.reduceLeDiff]
      refine m_may (d := d) (code := 1) (k := 2) I1 T1 (Or.inr rfl) (by omega) (by omega) (fun _ => ?_) (fun e => absurd e (by decide))
      simp (disch := omega) only [en_ops, en_opc, iI_add, iI_mul, iI_sub, jL_add, jL_mul, iI_le, iI_lt, iI_eq, iI_eq0, iI_lt0, iI_0le, iI_le0, iI_0lt, jL_iI, iI_jL, lc_eq, lc_lt, lc_le, lc_ge, lc_gt, Nat.sub_zero, Nat.zero_le, true_and, and_true, Nat.reduceAdd, Nat.reduceLeDiff]
      refine ⟨fun _ => ⟨by omega, ?_⟩, fun e => absurd e (by decide)⟩
      rw [iI_div (by omega) (by omega) (by omega) (by omega)]
      exact H.1 rfl h1 I1 F1 T1
    · rw [if_neg e2]
      simp (disch := omega) only [en_ops, en_opc, iI_add, iI_mul, iI_sub, jL_add, jL_mul, iI_le, iI_lt, iI_eq, iI_eq0, iI_lt0, iI_0le, iI_le0, iI_0lt, jL_iI, iI_jL, lc_eq, lc_lt, lc_le, lc_ge, lc_gt, Nat.sub_zero, Nat.zero_le, true_and, and_true, Nat.reduceAdd, Nat.reduceLeDiff]
      exact ⟨fun _ => no (fun g => e2 g.2), fun e => (e (by first | trivial | rfl)).elim⟩
  · rw [if_neg e1]
    simp (disch := omega) only [en_ops, en_opc, iI_add, iI_mul, iI_sub, jL_add, jL_mul, iI_le, iI_lt, iI_eq, iI_eq0, iI_lt0, iI_0le, iI_le0, iI_0lt, jL_iI, iI_jL, lc_eq, lc_lt, lc_le, lc_ge, lc_gt, Nat.sub_zero, Nat.zero_le, true_and, and_true, Nat.reduceAdd, Nat.reduceLeDiff]
    exact ⟨fun _ => no (fun g => e1 g.1), fun e => (e (by first | trivial | rfl)).elim⟩
end
