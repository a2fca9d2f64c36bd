/-! the reference's hour -/
def rsH (q : hSt) (hi : en_I) : Prop :=
  rfH q.1 hi ∧ (∀ c, c < 12 → hi 115 (576 + c) = iI (q.2.1 c)) ∧ (∀ c, c < 12 → hi 115 (600 + c) = iI (q.2.2.1 c)) ∧ (∀ i, i < 5 → hi 115 (625 + i) = iI (q.2.2.2.1 i)) ∧ hi 115 833 = iI q.2.2.2.2.1 ∧ hi 115 624 = iI q.2.2.2.2.2 ∧ rfJ hi
/-- the reference's plan -/
def rbE (E : hEnv) (b : Nat → Int) : Prop := rfN E.2.1 E.2.2.1 b ∧ (∀ c, c < 12 → b (52 + c) = E.2.2.2.1 c) ∧
  (b 2 = E.2.2.2.2.2.1 ∧ ∀ i, i < E.2.2.2.2.2.1 → b (4 + 4 * i) = (E.2.2.2.2.1 i).1 ∧ b (4 + 4 * i + 1) = (E.2.2.2.2.1 i).2.1 ∧ b (4 + 4 * i + 2) = (E.2.2.2.2.1 i).2.2.1 ∧ b (4 + 4 * i + 3) = (E.2.2.2.2.1 i).2.2.2) ∧
  (b 3 = E.2.2.2.2.2.2.2 ∧ ∀ i, i < E.2.2.2.2.2.2.2 → b (36 + 4 * i) = (E.2.2.2.2.2.2.1 i).1 ∧ b (36 + 4 * i + 1) = (E.2.2.2.2.2.2.1 i).2.1 ∧ b (36 + 4 * i + 2) = (E.2.2.2.2.2.2.1 i).2.2.1 ∧ b (36 + 4 * i + 3) = (E.2.2.2.2.2.2.1 i).2.2.2) ∧ loOK E.2.1 E.2.2.2.2.2.2.2 E.2.2.2.2.2.2.1
section
variable {G : en_G} {d : Nat} {K : en_K} {nc nz : Nat} {b : Nat → Int} {f : Nat → Nat → Nat → Int} {hi : en_I} {hl : en_L} {hr : en_F} {xc xs : Nat} {E : hEnv} {q : hSt} {w : Int × Int × Int}
theorem m_hour23 {l : Nat} {x1 x2 x3 x4 x5 p v : Int} {h5 : en_I} {ns : Nat} {sp : Nat → Nat × Nat × Nat × Int} {hh : Int} (hR : rfR hr) (hb : rfB b h5) (hso : spOK nc nz ns sp) (hnc : nc ≤ 12) (hnz : nz ≤ 6) (h2 : b 2 = ns) (hsp : ∀ i, i < ns → b (4 + 4 * i) = (sp i).1 ∧ b (4 + 4 * i + 1) = (sp i).2.1 ∧ b (4 + 4 * i + 2) = (sp i).2.2.1 ∧ b (4 + 4 * i + 3) = (sp i).2.2.2)
    (hs : rfH f h5) (hJ : rfJ h5) (hv : h5 115 626 = iI v) (hp : h5 115 833 = iI p) (ht : h5 115 624 = iI hh)
    (H : ∀ h9 x7, Fr (· = 115) h5 h9 → rfH (spF f sp ns) h9 → rfJ h9 → h9 115 626 = iI (v + spN sp ns) → h9 115 833 = iI (p + spP sp ns) → h9 115 624 = iI (hh + 1) → (∀ j, 576 ≤ j → j ≠ 626 → j ≠ 833 → j ≠ 624 → h9 115 j = h5 115 j) → en_V G Y_X11_hour (d + 6) wN wN K 165 [.ref 110, .int (iI x1), .int (iI x2), .int (iI x3), .int (iI x4), .int (iI x5), .int (iI 0), x7] [] h9 hl hr xc xs) :
    ∀ i : Nat, i ≤ ns → ∀ h9 x7, Fr (· = 115) h5 h9 → rfH (spF f sp i) h9 → rfJ h9 → h9 115 626 = iI (v + spN sp i) → h9 115 833 = iI (p + spP sp i) → (∀ j, 576 ≤ j → j ≠ 626 → j ≠ 833 → h9 115 j = h5 115 j) → en_V G Y_X11_hour (d + 6) wN wN K 23 [.ref 110, .int (iI x1), .int (iI x2), .int (iI x3), .int (iI x4), .int (iI x5), .int (iI i), x7] [] h9 hl hr xc xs := by
  obtain ⟨⟨-, -, r10, -, r12, -⟩, -⟩ := id hR
  have n8 := hso.1
  have bb : ∀ h9, Fr (· = 115) h5 h9 → ∀ j, j < 76 → h9 113 j = iI (b j) := fun h9 F j hj => by rw [F 113 (by decide)]; exact hb j hj
  refine lp ns (fun h9 x7 F9 S9 J9 V9 P9 E9 => ?_) (fun i hi9 ih h9 x7 F9 S9 J9 V9 P9 E9 => ?_)
  · have b2 : h9 113 2 = iI ns := by rw [bb h9 F9 2 (by omega), h2]
    apply s_X11_hour_23
    simp (disch := omega) only [B_X11_hour_23, r10, r12, sh110, lt110, sh113, lt113, sh115, lt115, en_ops, en_opc, iI_add, iI_mul, iI_sub, jL_add, jL_mul, iI_le, iI_lt, iI_eq, iI_eq0, iI_lt0, iI_0le, iI_le0, iI_0lt, jL_iI, iI_jL, lc_eq, lc_lt, lc_le, lc_ge, lc_gt, Nat.sub_zero, Nat.zero_le, true_and, and_true, Nat.reduceAdd, Nat.reduceLeDiff]
    refine ⟨2, rfl, by decide, ?_⟩
    rw [b2]
    simp (disch := omega) only [en_ops, en_opc, iI_add, iI_mul, iI_sub, jL_add, jL_mul, iI_le, iI_lt, iI_eq, iI_eq0, iI_lt0, iI_0le, iI_le0, iI_0lt, jL_iI, iI_jL, lc_eq, lc_lt, lc_le, lc_ge, lc_gt, Nat.sub_zero, Nat.zero_le, true_and, and_true, Nat.reduceAdd, Nat.reduceLeDiff]
    refine ⟨fun _ => ⟨624, rfl, by decide, 624, rfl, by decide, ?_⟩, fun e => absurd (Int.le_refl _) e⟩
    rw [E9 624 (by omega) (by omega) (by omega), ht]
    simp (disch := omega) only [en_ops, en_opc, iI_add, iI_mul, iI_sub, jL_add, jL_mul, iI_le, iI_lt, iI_eq, iI_eq0, iI_lt0, iI_0le, iI_le0, iI_0lt, jL_iI, iI_jL, lc_eq, lc_lt, lc_le, lc_ge, lc_gt, Nat.sub_zero, Nat.zero_le, true_and, and_true, Nat.reduceAdd, Nat.reduceLeDiff]
    refine H _ _ (Fr.up F9 (by rfl)) (fun c z k hc hz hk => by rw [up_ne (Or.inr (by omega))]; exact S9 c z k hc hz hk) (fun j j1 j2 => by rw [up_ne (Or.inr (by omega))]; exact J9 j j1 j2) (by rw [up_ne (Or.inr (by omega))]; exact V9) (by rw [up_ne (Or.inr (by omega))]; exact P9) (by rw [up_at]) (fun j j1 j2 j3 j4 => by rw [up_ne (Or.inr j4)]; exact E9 j j1 j2 j3)
  · have b2 : h9 113 2 = iI ns := by rw [bb h9 F9 2 (by omega), h2]
    obtain ⟨g1, g2, g3, g4, g5⟩ := hso.2 i hi9
    obtain ⟨t1, t2, t3, t4⟩ := hsp i hi9
    have c1 : h9 113 (4 + 4 * i) = iI ((sp i).1 : Int) := by rw [bb h9 F9 _ (by omega), t1]
    have c2 : h9 113 (4 + 4 * i + 1) = iI ((sp i).2.1 : Int) := by rw [bb h9 F9 _ (by omega), t2]
    have c3 : h9 113 (4 + 4 * i + 2) = iI ((sp i).2.2.1 : Int) := by rw [bb h9 F9 _ (by omega), t3]
    have c4 : h9 113 (4 + 4 * i + 3) = iI (sp i).2.2.2 := by rw [bb h9 F9 _ (by omega), t4]
    have ix : (24 * ((sp i).1 : Int) + 3 * ((sp i).2.1 : Int) + ((sp i).2.2.1 : Int)) = ((24 * (sp i).1 + 3 * (sp i).2.1 + (sp i).2.2.1 : Nat) : Int) := by omega
    have hv9 := S9 (sp i).1 (sp i).2.1 (sp i).2.2.1 (by omega) (by omega) g3
    have i0 : ((4 : Int) + 4 * (i : Int)) = ((4 + 4 * i : Nat) : Int) := by omega
    apply s_X11_hour_23
    simp (disch := omega) only [B_X11_hour_23, r10, r12, sh110, lt110, sh113, lt113, sh115, lt115, en_ops, en_opc, iI_add, iI_mul, iI_sub, jL_add, jL_mul, iI_le, iI_lt, iI_eq, iI_eq0, iI_lt0, iI_0le, iI_le0, iI_0lt, jL_iI, iI_jL, lc_eq, lc_lt, lc_le, lc_ge, lc_gt, Nat.sub_zero, Nat.zero_le, true_and, and_true, Nat.reduceAdd, Nat.reduceLeDiff]
    refine ⟨2, rfl, by decide, ?_⟩
    rw [b2]
    simp (disch := omega) only [en_ops, en_opc, iI_add, iI_mul, iI_sub, jL_add, jL_mul, iI_le, iI_lt, iI_eq, iI_eq0, iI_lt0, iI_0le, iI_le0, iI_0lt, jL_iI, iI_jL, lc_eq, lc_lt, lc_le, lc_ge, lc_gt, Nat.sub_zero, Nat.zero_le, true_and, and_true, Nat.reduceAdd, Nat.reduceLeDiff]
    refine ⟨fun e => by omega, fun _ => ⟨4 + 4 * i, iI_eq_of i0, by omega, ?_⟩⟩
    rw [c1]
    refine ⟨4 + 4 * i + 1, iI_eq_of (by omega), by omega, ?_⟩
    rw [c2]
    refine ⟨4 + 4 * i + 2, iI_eq_of (by omega), by omega, ?_⟩
    rw [c3]
    refine m_stone ?_
    simp (disch := omega) only [r10, r12, sh110, lt110, sh113, lt113, sh115, lt115, en_ops, en_opc, iI_add, iI_mul, iI_sub, jL_add, jL_mul, iI_le, iI_lt, iI_eq, iI_eq0, iI_lt0, iI_0le, iI_le0, iI_0lt, jL_iI, iI_jL, lc_eq, lc_lt, lc_le, lc_ge, lc_gt, Nat.sub_zero, Nat.zero_le, true_and, and_true, Nat.reduceAdd, Nat.reduceLeDiff]
    refine ⟨24 * (sp i).1 + 3 * (sp i).2.1 + (sp i).2.2.1, iI_eq_of ix, by omega, 4 + 4 * i + 3, iI_eq_of (by omega), by omega, 24 * (sp i).1 + 3 * (sp i).2.1 + (sp i).2.2.1, iI_eq_of ix, by omega, ?_⟩
    rw [hv9, c4, iI_add]
    generalize hg : en_up h9 115 (24 * (sp i).1 + 3 * (sp i).2.1 + (sp i).2.2.1) (iI (spF f sp i (sp i).1 (sp i).2.1 (sp i).2.2.1 + (sp i).2.2.2)) = h8
    have F8 : Fr (· = 115) h5 h8 := by subst hg; exact Fr.up F9 (by rfl)
    have A8 : ∀ j, j ≠ 24 * (sp i).1 + 3 * (sp i).2.1 + (sp i).2.2.1 → h8 115 j = h9 115 j := fun j hj => by subst hg; exact up_ne (Or.inr hj)
    have S8 : rfH (spF f sp (i + 1)) h8 := fun c z k hc hz hk => by
      unfold spF
      rw [sumTo_s]
      by_cases j : 24 * c + 3 * z + k = 24 * (sp i).1 + 3 * (sp i).2.1 + (sp i).2.2.1
      · obtain ⟨q1, q2, q3⟩ := (rx_inj (by omega) g3 hz hk).mp j
        rw [j, ← hg, up_at, if_pos ⟨q1, q2, q3⟩, q1, q2, q3]
        refine iI_eq_of ?_
        unfold spF; omega
      · rw [A8 _ j, if_neg (fun g => j (by rw [g.1, g.2.1, g.2.2])), S9 c z k hc hz hk]
        refine iI_eq_of ?_
        unfold spF; omega
    have J8 : rfJ h8 := fun j j1 j2 => by rw [A8 j (by omega)]; exact J9 j j1 j2
    have c8 : ∀ j, j < 76 → h8 113 j = h9 113 j := fun j _ => by rw [F8 113 (by decide), F9 113 (by decide)]
    refine ⟨626, rfl, by decide, 4 + 4 * i + 3, iI_eq_of (by omega), by omega, 626, rfl, by decide, ?_⟩
    rw [A8 626 (by omega), V9, c8 _ (by omega), c4, iI_add]
    refine ⟨833, rfl, by decide, 4 + 4 * i + 2, iI_eq_of (by omega), by omega, ?_⟩
    rw [up_ne (Or.inr (show 4 + 4 * i + 2 ≠ 626 by omega)), c8 _ (by omega), c3, up_ne (Or.inr (show (833 : Nat) ≠ 626 by decide)), A8 833 (by omega), P9]
    simp (disch := omega) only [en_ops, en_opc, iI_add, iI_mul, iI_sub, jL_add, jL_mul, iI_le, iI_lt, iI_eq, iI_eq0, iI_lt0, iI_0le, iI_le0, iI_0lt, jL_iI, iI_jL, lc_eq, lc_lt, lc_le, lc_ge, lc_gt, Nat.sub_zero, Nat.zero_le, true_and, and_true, Nat.reduceAdd, Nat.reduceLeDiff]
    have eN : spN sp (i + 1) = spN sp i + (sp i).2.2.2 := by unfold spN; rw [sumTo_s]
    have eP : spP sp (i + 1) = spP sp i + if (sp i).2.2.1 = 2 then (sp i).2.2.2 else 0 := by unfold spP; rw [sumTo_s]
    rw [eN, eP] at ih
    have fin : ∀ y : Int, y = (if (sp i).2.2.1 = 2 then (sp i).2.2.2 else 0) → en_V G Y_X11_hour (d + 6) wN wN K 23 [.ref 110, .int (iI x1), .int (iI x2), .int (iI x3), .int (iI x4), .int (iI x5), .int (iI ((i : Int) + 1)), .int (iI ((4 : Int) + 4 * (i : Int)))] [] (en_up (en_up h8 115 626 (iI (v + spN sp i + (sp i).2.2.2))) 115 833 (iI (p + spP sp i + y))) hl hr xc xs := by
      intro y hy
      have i9 := ih _ (.int (iI ((4 : Int) + 4 * (i : Int)))) (Fr.up (Fr.up F8 (i := 626) (v := iI (v + spN sp i + (sp i).2.2.2)) (by rfl)) (i := 833) (v := iI (p + spP sp i + y)) (by rfl)) (fun c z k hc hz hk => by rw [up_ne (Or.inr (by omega)), up_ne (Or.inr (by omega))]; exact S8 c z k hc hz hk) (fun j j1 j2 => by rw [up_ne (Or.inr (by omega)), up_ne (Or.inr (by omega))]; exact J8 j j1 j2) (by rw [up_ne (Or.inr (by omega)), up_at]; exact iI_eq_of (by omega)) (by rw [up_at, hy]; exact iI_eq_of (by omega)) (fun j j1 j2 j3 => by rw [up_ne (Or.inr j3), up_ne (Or.inr j2), A8 j (by omega)]; exact E9 j j1 j2 j3)
      exact i9
    refine ⟨fun e => ⟨833, rfl, by decide, fin 0 (by rw [if_neg (by omega)])⟩, fun e => ⟨4 + 4 * i + 3, iI_eq_of (by omega), by omega, 833, rfl, by decide, ?_⟩⟩
    rw [up_row (by omega), c8 _ (by omega), c4]
    simp (disch := omega) only [en_ops, en_opc, iI_add, iI_mul, iI_sub, jL_add, jL_mul, iI_le, iI_lt, iI_eq, iI_eq0, iI_lt0, iI_0le, iI_le0, iI_0lt, jL_iI, iI_jL, lc_eq, lc_lt, lc_le, lc_ge, lc_gt, Nat.sub_zero, Nat.zero_le, true_and, and_true, Nat.reduceAdd, Nat.reduceLeDiff]
    exact fin _ (by rw [if_pos (by omega)])
theorem m_hour {l : Nat} (hR : rfR hr) (hE : eOK E) (hb : rfB b hi) (hbE : rbE E b) (hV : rwV G l E.1 hi) (hq : rsH q hi) (hO : hOK E q) (hlt : q.2.2.2.2.2 < 600) (hwo : wOK w)
    (H : ∀ hi', Fr Pmo hi hi' → rsH (hrP E w q) hi' → hOK E (hrP E w q) → (∀ j, 630 ≤ j → j ≠ 833 → hi' 115 j = hi 115 j) → K (.inl (some (.int (iI (hmP E w q))))) hi' hl hr) :
    en_Call G (d + 6) xc xs Y_X11_hour wN wN [.ref 110, .int (iI l), .int (iI w.1), .int (iI w.2.1), .int (iI w.2.2)] hi hl hr K := by
  obtain ⟨⟨-, -, r10, -, r12, -⟩, -⟩ := id hR
  obtain ⟨hn, hwl, ⟨hns, hsp⟩, ⟨hnl, hlo⟩, hloo⟩ := id hbE
  obtain ⟨n0, n1, n12, n6⟩ := id hn
  obtain ⟨e1, e2, e3⟩ := id hE
  obtain ⟨y1, y2, y3, y4, y5, y6, y7⟩ := id hq
  obtain ⟨o1, o2, o3, o4, o5⟩ := id hO
  have O9 := hOK_hr (w := w) hE hloo n12 n6 hO hlt
  have B1 := f1_B (V := E.1) (he := w.1) (bt := w.2.1) (fr := w.2.2) (cr := q.2.1) o1 e2 n12
  have T1 := f1_tot (V := E.1) (he := w.1) (bt := w.2.1) (fr := w.2.2) (cr := q.2.1) o1 e2 n12 (E.2.1 * 18) (Nat.le_refl _)
  have B2 := f2_B (V := E.1) (he := w.1) (bt := w.2.1) (fr := w.2.2) (cr := q.2.1) B1 E.2.1
  have T2 : tot (f2P E.1 w.1 w.2.1 w.2.2 q.2.1 (f1P E.1 q.1 E.2.1 E.2.2.1 E.2.2.2.1 w.1 w.2.1 w.2.2 q.2.1 (E.2.1 * 18)) E.2.1) ≤ tot q.1 := Int.le_trans (tot_le (fun c z k _ _ _ => (f2_le B1 _ c z k).2)) T1
  have B3 := spF_B n12 n6 e3 B2 (by omega)
  apply en_X11_hour
  simp (disch := omega) only [B_X11_hour_0, sh110, lt110, en_ops, en_opc, iI_add, iI_mul, iI_sub, jL_add, jL_mul, iI_le, iI_lt, iI_eq, iI_eq0, iI_lt0, iI_0le, iI_le0, iI_0lt, jL_iI, iI_jL, lc_eq, lc_lt, lc_le, lc_ge, lc_gt, Nat.sub_zero, Nat.zero_le, true_and, and_true, Nat.reduceAdd, Nat.reduceLeDiff]
  refine m_moves (b := b) (nc := E.2.1) (nz := E.2.2.1) (f := q.1) (wl := E.2.2.2.1) (V := E.1) (cr := q.2.1) (sm := q.2.2.2.1) hR y1 y7 hb hn o1 (fun c hc => ⟨hwl c hc, e2 c hc⟩) y2 hV e1 (y4 2 (by omega)) hwo.2.2 (fun h8 F8 R8 S8 J8 V8 => ?_)
  simp (disch := omega) only [sh110, lt110, en_ops, en_opc, iI_add, iI_mul, iI_sub, jL_add, jL_mul, iI_le, iI_lt, iI_eq, iI_eq0, iI_lt0, iI_0le, iI_le0, iI_0lt, jL_iI, iI_jL, lc_eq, lc_lt, lc_le, lc_ge, lc_gt, Nat.sub_zero, Nat.zero_le, true_and, and_true, Nat.reduceAdd, Nat.reduceLeDiff]
  have b8 : rfB b h8 := fun j hj => by rw [F8 113 (by unfold Pmo; omega)]; exact hb j hj
  refine m_overs (b := b) (nc := E.2.1) (nz := E.2.2.1) (V := E.1) (cr := q.2.1) (ov := q.2.2.1) (v := q.2.2.2.1 3) hR S8 J8 b8 hn B1 (fun c hc => by rw [R8 _ (by omega) (by omega)]; exact y2 c hc) o3 (fun c hc => by rw [R8 _ (by omega) (by omega)]; exact y3 c hc) (hV.mono (rwE.frm rwE.rf F8 Pmo.n)) e1 (by rw [R8 _ (by omega) (by omega)]; exact y4 3 (by omega)) (fun h7 I7 => ?_)
  obtain ⟨i1, i2, i3, i4, i5, i6, i7⟩ := I7
  have F7 : Fr Pmo hi h7 := F8.tr (i1.mono (fun x g => by unfold Pos at g; unfold Pmo; omega))
  have b7 : rfB b h7 := fun j hj => by rw [F7 113 (by unfold Pmo; omega)]; exact hb j hj
  simp (disch := omega) only [en_ops, en_opc, iI_add, iI_mul, iI_sub, jL_add, jL_mul, iI_le, iI_lt, iI_eq, iI_eq0, iI_lt0, iI_0le, iI_le0, iI_0lt, jL_iI, iI_jL, lc_eq, lc_lt, lc_le, lc_ge, lc_gt, Nat.sub_zero, Nat.zero_le, true_and, and_true, Nat.reduceAdd, Nat.reduceLeDiff]
  have R7 : ∀ j, 624 ≤ j → j ≠ 627 → j ≠ 628 → h7 115 j = hi 115 j := fun j j1 j2 j3 => by rw [i7 j j1 j3, R8 j (by omega) j2]
  refine m_hour23 (d := d) (nc := E.2.1) (nz := E.2.2.1) (v := q.2.2.2.1 1) (p := q.2.2.2.2.1) (hh := q.2.2.2.2.2) (ns := E.2.2.2.2.2.1) (sp := E.2.2.2.2.1) (l := l) hR b7 e3 n12 n6 hns hsp i2 i3 (by rw [R7 _ (by omega) (by omega) (by omega)]; exact y4 1 (by omega)) (by rw [R7 _ (by omega) (by omega) (by omega)]; exact y5) (by rw [R7 _ (by omega) (by omega) (by omega)]; exact y6) (fun h6 x7 F6 S6 J6 V6 P6 T6 R6 => ?_) 0 (by omega) h7 _ Fr.rf (fun c z k hc hz hk => by rw [i2 c z k hc hz hk]; unfold spF; rw [sumTo_z, Int.add_zero]) i3 (by rw [R7 _ (by omega) (by omega) (by omega), y4 1 (by omega)]; unfold spN; rw [sumTo_z, Int.add_zero]) (by rw [R7 _ (by omega) (by omega) (by omega), y5]; unfold spP; rw [sumTo_z, Int.add_zero]) (fun _ _ _ _ => rfl)
  have F06 : Fr Pmo hi h6 := F7.tr (F6.mono (fun x e => Or.inl e))
  have b6 : ∀ h9, Fr (· = 115) h6 h9 → ∀ j, j < 76 → h9 113 j = iI (b j) := fun h9 F j hj => by rw [F 113 (by decide), F06 113 (by unfold Pmo; omega)]; exact hb j hj
  have nl4 := hloo.1
  suffices L : ∀ i : Nat, i ≤ E.2.2.2.2.2.2.2 → ∀ h9 x7, Fr (· = 115) h6 h9 → rfH (drP E.2.1 E.2.2.1 E.2.2.2.2.2.2.1 (q.2.2.2.2.2 + 1) (h3P E.1 E.2.1 E.2.2.1 E.2.2.2.1 w.1 w.2.1 w.2.2 E.2.2.2.2.1 E.2.2.2.2.2.1 q.2.1 q.1) i).1 h9 → rfJ h9 → h9 115 629 = iI (q.2.2.2.1 4 + (drP E.2.1 E.2.2.1 E.2.2.2.2.2.2.1 (q.2.2.2.2.2 + 1) (h3P E.1 E.2.1 E.2.2.1 E.2.2.2.1 w.1 w.2.1 w.2.2 E.2.2.2.2.1 E.2.2.2.2.2.1 q.2.1 q.1) i).2) → (∀ j, 576 ≤ j → j ≠ 629 → h9 115 j = h6 115 j) → en_V G Y_X11_hour (d + 6) wN wN K 165 [.ref 110, .int (iI l), .int (iI w.1), .int (iI w.2.1), .int (iI w.2.2), .int (iI (hmP E w q)), .int (iI i), x7] [] h9 hl hr xc xs by
    refine L 0 (by omega) h6 x7 Fr.rf S6 J6 ?_ (fun _ _ _ => rfl)
    rw [R6 629 (by omega) (by omega) (by omega) (by omega), R7 629 (by omega) (by omega) (by omega), y4 4 (by omega)]
    exact iI_eq_of (by show _ = _ + (0 : Int); omega)
  refine lp _ (fun h9 x7 F9 S9 J9 V9 E9 => ?_) (fun i hi9 ih h9 x7 F9 S9 J9 V9 E9 => ?_)
  · have b3 : h9 113 3 = iI (E.2.2.2.2.2.2.2 : Int) := by rw [b6 h9 F9 3 (by omega), hnl]
    apply s_X11_hour_165
    simp (disch := omega) only [B_X11_hour_165, r10, sh110, lt110, sh113, lt113, en_ops, en_opc, iI_add, iI_mul, iI_sub, jL_add, jL_mul, iI_le, iI_lt, iI_eq, iI_eq0, iI_lt0, iI_0le, iI_le0, iI_0lt, jL_iI, iI_jL, lc_eq, lc_lt, lc_le, lc_ge, lc_gt, Nat.sub_zero, Nat.zero_le, true_and, and_true, Nat.reduceAdd, Nat.reduceLeDiff]
    refine ⟨3, rfl, by decide, ?_⟩
    rw [b3]
    simp (disch := omega) only [en_ops, en_opc, iI_add, iI_mul, iI_sub, jL_add, jL_mul, iI_le, iI_lt, iI_eq, iI_eq0, iI_lt0, iI_0le, iI_le0, iI_0lt, jL_iI, iI_jL, lc_eq, lc_lt, lc_le, lc_ge, lc_gt, Nat.sub_zero, Nat.zero_le, true_and, and_true, Nat.reduceAdd, Nat.reduceLeDiff]
    refine ⟨fun _ => H h9 (F06.tr (F9.mono (fun x e => Or.inl e))) ⟨S9, fun c hc => ?_, fun c hc => ?_, fun i hi9 => ?_, ?_, ?_, J9⟩ O9 (fun j j1 j2 => ?_), fun e => absurd (Int.le_refl _) e⟩
    · rw [E9 _ (by omega) (by omega), R6 _ (by omega) (by omega) (by omega) (by omega)]; exact i5 c hc
    · rw [E9 _ (by omega) (by omega), R6 _ (by omega) (by omega) (by omega) (by omega)]; exact i6 c hc
    · show h9 115 (625 + i) = iI (smP _ _ _ _ _ _ _ _ _ _ _ _ _ _ _ i)
      unfold smP
      rcases (show i = 0 ∨ i = 1 ∨ i = 2 ∨ i = 3 ∨ i = 4 by omega) with rfl | rfl | rfl | rfl | rfl
      · rw [E9 _ (by omega) (by omega), R6 _ (by omega) (by omega) (by omega) (by omega), R7 _ (by omega) (by omega) (by omega), y4 0 (by omega)]
        refine iI_eq_of ?_
        unfold smN; simp
      · rw [E9 _ (by omega) (by omega), show 625 + 1 = 626 by rfl, V6]
        refine iI_eq_of ?_
        unfold smN; simp
      · rw [E9 _ (by omega) (by omega), R6 _ (by omega) (by omega) (by omega) (by omega), show 625 + 2 = 627 by rfl, i7 _ (by omega) (by omega), V8]
        refine iI_eq_of ?_
        simp
      · rw [E9 _ (by omega) (by omega), R6 _ (by omega) (by omega) (by omega) (by omega), show 625 + 3 = 628 by rfl, i4]
        refine iI_eq_of ?_
        unfold smN; simp
      · rw [show 625 + 4 = 629 by rfl, V9]
        refine iI_eq_of ?_
        unfold smN h4P; simp
    · rw [E9 _ (by omega) (by omega)]; exact P6
    · rw [E9 _ (by omega) (by omega)]; exact T6
    · rw [E9 _ (by omega) (by omega), R6 _ (by omega) (by omega) j2 (by omega), R7 _ (by omega) (by omega) (by omega)]
  · have b3 : h9 113 3 = iI (E.2.2.2.2.2.2.2 : Int) := by rw [b6 h9 F9 3 (by omega), hnl]
    obtain ⟨g1, g2, g3, ⟨g4, g5⟩, g6, g7⟩ := hloo.2 i hi9
    obtain ⟨t1, t2, t3, t4⟩ := hlo i hi9
    have c1 : h9 113 (36 + 4 * i) = iI ((E.2.2.2.2.2.2.1 i).1 : Int) := by rw [b6 h9 F9 _ (by omega), t1]
    have c2 : h9 113 (36 + 4 * i + 1) = iI ((E.2.2.2.2.2.2.1 i).2.1 : Int) := by rw [b6 h9 F9 _ (by omega), t2]
    have c3 : h9 113 (36 + 4 * i + 2) = iI (E.2.2.2.2.2.2.1 i).2.2.1 := by rw [b6 h9 F9 _ (by omega), t3]
    have c4 : h9 113 (36 + 4 * i + 3) = iI (E.2.2.2.2.2.2.1 i).2.2.2 := by rw [b6 h9 F9 _ (by omega), t4]
    have T9 : h9 115 624 = iI (q.2.2.2.2.2 + 1) := by rw [E9 _ (by omega) (by omega)]; exact T6
    apply s_X11_hour_165
    simp (disch := omega) only [B_X11_hour_165, r10, r12, sh110, lt110, sh113, lt113, sh115, lt115, en_ops, en_opc, iI_add, iI_mul, iI_sub, jL_add, jL_mul, iI_le, iI_lt, iI_eq, iI_eq0, iI_lt0, iI_0le, iI_le0, iI_0lt, jL_iI, iI_jL, lc_eq, lc_lt, lc_le, lc_ge, lc_gt, Nat.sub_zero, Nat.zero_le, true_and, and_true, Nat.reduceAdd, Nat.reduceLeDiff]
    refine ⟨3, rfl, by decide, ?_⟩
    rw [b3]
    simp (disch := omega) only [en_ops, en_opc, iI_add, iI_mul, iI_sub, jL_add, jL_mul, iI_le, iI_lt, iI_eq, iI_eq0, iI_lt0, iI_0le, iI_le0, iI_0lt, jL_iI, iI_jL, lc_eq, lc_lt, lc_le, lc_ge, lc_gt, Nat.sub_zero, Nat.zero_le, true_and, and_true, Nat.reduceAdd, Nat.reduceLeDiff]
    refine ⟨fun e => by omega, fun _ => ⟨624, rfl, by decide, 36 + 4 * i + 3, iI_eq_of (by omega), by omega, ?_⟩⟩
    rw [T9, c4]
    have em := Int.emod_nonneg (q.2.2.2.2.2 + 1) (show (E.2.2.2.2.2.2.1 i).2.2.2 ≠ 0 by omega)
    have em2 := Int.emod_lt_of_pos (q.2.2.2.2.2 + 1) (show 0 < (E.2.2.2.2.2.2.1 i).2.2.2 by omega)
    have ed : (q.2.2.2.2.2 + 1) - (q.2.2.2.2.2 + 1) / (E.2.2.2.2.2.2.1 i).2.2.2 * (E.2.2.2.2.2.2.1 i).2.2.2 = (q.2.2.2.2.2 + 1) % (E.2.2.2.2.2.2.1 i).2.2.2 := by rw [Int.emod_def, Int.mul_comm]
    rw [iI_div (by omega) (by omega) (by omega) (by omega), iI_mul, iI_sub, ed]
    simp (disch := omega) only [en_ops, en_opc, iI_add, iI_mul, iI_sub, jL_add, jL_mul, iI_le, iI_lt, iI_eq, iI_eq0, iI_lt0, iI_0le, iI_le0, iI_0lt, jL_iI, iI_jL, lc_eq, lc_lt, lc_le, lc_ge, lc_gt, Nat.sub_zero, Nat.zero_le, true_and, and_true, Nat.reduceAdd, Nat.reduceLeDiff]
    rw [drP_s] at ih
    refine ⟨by omega, fun e => ?_, fun e => ?_⟩
    · rw [if_neg e] at ih
      exact ih h9 _ F9 S9 J9 V9 E9
    · rw [if_pos e] at ih
      refine ⟨36 + 4 * i, iI_eq_of (by omega), by omega, ?_⟩
      rw [c1]
      refine ⟨36 + 4 * i + 1, iI_eq_of (by omega), by omega, ?_⟩
      rw [c2]
      refine ⟨36 + 4 * i + 2, iI_eq_of (by omega), by omega, ?_⟩
      rw [c3]
      refine m_brings (b := b) (nc := E.2.1) (nz := E.2.2.1) hR S9 (b6 h9 F9) hn (drP_B hloo n12 n6 B3 i (by omega)).1 V9 (by omega) g2 g3 (by omega) g5 (fun h8 F8 S8 V8 => ?_)
      simp (disch := omega) only [en_ops, en_opc, iI_add, iI_mul, iI_sub, jL_add, jL_mul, iI_le, iI_lt, iI_eq, iI_eq0, iI_lt0, iI_0le, iI_le0, iI_0lt, jL_iI, iI_jL, lc_eq, lc_lt, lc_le, lc_ge, lc_gt, Nat.sub_zero, Nat.zero_le, true_and, and_true, Nat.reduceAdd, Nat.reduceLeDiff]
      refine ih h8 _ (F9.tr F8.1) S8 (fun j j1 j2 => by rw [F8.2 j (Or.inr j2) (by omega)]; exact J9 j j1 j2) (by rw [V8]; exact iI_eq_of (by omega)) (fun j j1 j2 => by rw [F8.2 j (Or.inl j1) j2]; exact E9 j j1 j2)
end
