section
variable {G : en_G} {d : Nat} {K : en_K} {W : zW} {n : Nat} {hi : en_I} {hl : en_L} {hr : en_F} {xc xs : Nat}
theorem m_csays {l w c z k h b f : Int} (hI : InvR G W hi hr) (hz : zOK n W) (hlr : iRg l) (hw : iRg w) (hc : iRg c) (hzr : iRg z) (hk : iRg k) (hh : iRg h) (hb : iRg b) (hf : iRg f) {r cd : Nat} (hr0 : inC W c → inL W l → sayB W w z k h b f → r = 0) (hr1 : ¬ inC W c → r = 1 ∧ cd = 1) (hr2 : inC W c → ¬ inL W l → r = 2 ∧ cd = 2) (hr3 : inC W c → inL W l → ¬ sayB W w z k h b f → r = 3 ∧ cd = 3)
    (H : rEnd G W W r cd (.int (iI 0)) (.int (iI (syP W l.toNat w.toNat c.toNat z.toNat k.toNat h b f))) K hi hl hr) : en_Call G (d + 5) xc xs Y_X11_says wN wN [.ref 110, .int (iI l), .int (iI w), .int (iI c), .int (iI z), .int (iI k), .int (iI h), .int (iI b), .int (iI f)] hi hl hr K := by
  obtain ⟨I1, F1, T1⟩ := hI.t1
  obtain ⟨nc12, nz6⟩ := hz.c
  have nl4 := hz.2.1
  apply en_X11_says
  simp (disch := omega) only [B_X11_says_0, sh110, lt110, en_ops, en_opc, iI_add, iI_mul, iI_sub, jL_add, jL_mul, iI_le, iI_lt, iI_eq, iI_eq0, iI_lt0, iI_0le, iI_le0, iI_0lt, jL_iI, iI_jL, lc_eq, lc_lt, lc_le, lc_ge, lc_gt, Nat.sub_zero, Nat.zero_le, true_and, and_true, Nat.reduceAdd, Nat.reduceLeDiff]
  generalize en_up hi 110 0 (iI 0) = h1 at *
  refine m_isCell (d := d + 2) (code := 1) I1 hz T1 hc (by omega) (fun e1 => ?_) (fun e hi' I' F' T' => ?_)
  rotate_left
  · obtain ⟨q1, q2⟩ := hr1 e
    rw [q1, q2] at H
    simp (disch := omega) only [sh110, lt110, en_ops, en_opc, iI_add, iI_mul, iI_sub, jL_add, jL_mul, iI_le, iI_lt, iI_eq, iI_eq0, iI_lt0, iI_0le, iI_le0, iI_0lt, jL_iI, iI_jL, lc_eq, lc_lt, lc_le, lc_ge, lc_gt, Nat.sub_zero, Nat.zero_le, true_and, and_true, Nat.reduceAdd, Nat.reduceLeDiff]
    exact ⟨fun _ => H.no F1 (by omega) rfl I' F' T', fun g => (g (by first | trivial | rfl)).elim⟩
  simp (disch := omega) only [sh110, lt110, en_ops, en_opc, iI_add, iI_mul, iI_sub, jL_add, jL_mul, iI_le, iI_lt, iI_eq, iI_eq0, iI_lt0, iI_0le, iI_le0, iI_0lt, jL_iI, iI_jL, lc_eq, lc_lt, lc_le, lc_ge, lc_gt, Nat.sub_zero, Nat.zero_le, true_and, and_true, Nat.reduceAdd, Nat.reduceLeDiff]
  refine ⟨fun e => absurd e (by decide), fun _ => m_isLaw (d := d + 2) (code := 2) I1 hz T1 hlr (by omega) (fun e2 => ?_) (fun e hi' I' F' T' => ?_)⟩
  rotate_left
  · obtain ⟨q1, q2⟩ := hr2 e1 e
    rw [q1, q2] at H
    simp (disch := omega) only [sh110, lt110, en_ops, en_opc, iI_add, iI_mul, iI_sub, jL_add, jL_mul, iI_le, iI_lt, iI_eq, iI_eq0, iI_lt0, iI_0le, iI_le0, iI_0lt, jL_iI, iI_jL, lc_eq, lc_lt, lc_le, lc_ge, lc_gt, Nat.sub_zero, Nat.zero_le, true_and, and_true, Nat.reduceAdd, Nat.reduceLeDiff]
    exact ⟨fun _ => H.no F1 (by omega) rfl I' F' T', fun g => (g (by first | trivial | rfl)).elim⟩
  have no : ¬ sayB W w z k h b f → en_V G Y_X11_says (d + 5) wN wN K 69 [.ref 110, .int (iI l), .int (iI w), .int (iI c), .int (iI z), .int (iI k), .int (iI h), .int (iI b), .int (iI f)] [.int (iI 0), .ref 110] h1 hl hr xc xs := fun e => by
    obtain ⟨q1, q2⟩ := hr3 e1 e2 e
    rw [q1, q2] at H
    apply s_X11_says_69
    simp (disch := omega) only [B_X11_says_69, sh110, lt110, en_ops, en_opc, iI_add, iI_mul, iI_sub, jL_add, jL_mul, iI_le, iI_lt, iI_eq, iI_eq0, iI_lt0, iI_0le, iI_le0, iI_0lt, jL_iI, iI_jL, lc_eq, lc_lt, lc_le, lc_ge, lc_gt, Nat.sub_zero, Nat.zero_le, true_and, and_true, Nat.reduceAdd, Nat.reduceLeDiff]
    refine m_may (d := d + 3) (code := 3) (k := 2) I1 T1 (Or.inl rfl) (by omega) (by omega) (fun e => absurd e (by decide)) (fun _ hi' I' F' T' => ?_)
    simp (disch := omega) only [en_ops, en_opc, iI_add, iI_mul, iI_sub, jL_add, jL_mul, iI_le, iI_lt, iI_eq, iI_eq0, iI_lt0, iI_0le, iI_le0, iI_0lt, jL_iI, iI_jL, lc_eq, lc_lt, lc_le, lc_ge, lc_gt, Nat.sub_zero, Nat.zero_le, true_and, and_true, Nat.reduceAdd, Nat.reduceLeDiff]
    exact ⟨fun e => (e (by first | trivial | rfl)).elim, fun _ => H.no F1 (by omega) rfl I' F' T'⟩
  simp (disch := omega) only [sh110, lt110, en_ops, en_opc, iI_add, iI_mul, iI_sub, jL_add, jL_mul, iI_le, iI_lt, iI_eq, iI_eq0, iI_lt0, iI_0le, iI_le0, iI_0lt, jL_iI, iI_jL, lc_eq, lc_lt, lc_le, lc_ge, lc_gt, Nat.sub_zero, Nat.zero_le, true_and, and_true, Nat.reduceAdd, Nat.reduceLeDiff]
  refine ⟨fun e => absurd e (by decide), fun _ => m_within (d := d + 3) hw.1 hw.2 (by decide) (by decide) (by decide) (by decide) ?_⟩
  by_cases t1 : 0 ≤ w ∧ w ≤ 2
  rotate_left
  · rw [if_neg t1]
    simp (disch := omega) only [en_ops, en_opc, iI_add, iI_mul, iI_sub, jL_add, jL_mul, iI_le, iI_lt, iI_eq, iI_eq0, iI_lt0, iI_0le, iI_le0, iI_0lt, jL_iI, iI_jL, lc_eq, lc_lt, lc_le, lc_ge, lc_gt, Nat.sub_zero, Nat.zero_le, true_and, and_true, Nat.reduceAdd, Nat.reduceLeDiff]
    exact ⟨fun _ => no (fun g => t1 g.1), fun g => (g (by first | trivial | rfl)).elim⟩
  rw [if_pos t1]
  simp (disch := omega) only [sh110, lt110, en_ops, en_opc, iI_add, iI_mul, iI_sub, jL_add, jL_mul, iI_le, iI_lt, iI_eq, iI_eq0, iI_lt0, iI_0le, iI_le0, iI_0lt, jL_iI, iI_jL, lc_eq, lc_lt, lc_le, lc_ge, lc_gt, Nat.sub_zero, Nat.zero_le, true_and, and_true, Nat.reduceAdd, Nat.reduceLeDiff]
  refine ⟨fun e => absurd e (by decide), fun _ => m_isSize (d := d + 2) I1 hzr ?_⟩
  by_cases t2 : inZ W z
  rotate_left
  · rw [if_neg t2]
    simp (disch := omega) only [en_ops, en_opc, iI_add, iI_mul, iI_sub, jL_add, jL_mul, iI_le, iI_lt, iI_eq, iI_eq0, iI_lt0, iI_0le, iI_le0, iI_0lt, jL_iI, iI_jL, lc_eq, lc_lt, lc_le, lc_ge, lc_gt, Nat.sub_zero, Nat.zero_le, true_and, and_true, Nat.reduceAdd, Nat.reduceLeDiff]
    exact ⟨fun _ => no (fun g => t2 g.2.1), fun g => (g (by first | trivial | rfl)).elim⟩
  rw [if_pos t2]
  simp (disch := omega) only [sh110, lt110, en_ops, en_opc, iI_add, iI_mul, iI_sub, jL_add, jL_mul, iI_le, iI_lt, iI_eq, iI_eq0, iI_lt0, iI_0le, iI_le0, iI_0lt, jL_iI, iI_jL, lc_eq, lc_lt, lc_le, lc_ge, lc_gt, Nat.sub_zero, Nat.zero_le, true_and, and_true, Nat.reduceAdd, Nat.reduceLeDiff]
  refine ⟨fun e => absurd e (by decide), fun _ => m_within (d := d + 3) hk.1 hk.2 (by decide) (by decide) (by decide) (by decide) ?_⟩
  by_cases t3 : 0 ≤ k ∧ k ≤ 2
  rotate_left
  · rw [if_neg t3]
    simp (disch := omega) only [en_ops, en_opc, iI_add, iI_mul, iI_sub, jL_add, jL_mul, iI_le, iI_lt, iI_eq, iI_eq0, iI_lt0, iI_0le, iI_le0, iI_0lt, jL_iI, iI_jL, lc_eq, lc_lt, lc_le, lc_ge, lc_gt, Nat.sub_zero, Nat.zero_le, true_and, and_true, Nat.reduceAdd, Nat.reduceLeDiff]
    exact ⟨fun _ => no (fun g => t3 (by have := g.2.2.1; omega)), fun g => (g (by first | trivial | rfl)).elim⟩
  rw [if_pos t3]
  simp (disch := omega) only [sh110, lt110, en_ops, en_opc, iI_add, iI_mul, iI_sub, jL_add, jL_mul, iI_le, iI_lt, iI_eq, iI_eq0, iI_lt0, iI_0le, iI_le0, iI_0lt, jL_iI, iI_jL, lc_eq, lc_lt, lc_le, lc_ge, lc_gt, Nat.sub_zero, Nat.zero_le, true_and, and_true, Nat.reduceAdd, Nat.reduceLeDiff]
  refine ⟨fun e => absurd e (by decide), fun _ => m_isWave (d := d + 2) hh hb hf (fun q hq => ?_)⟩
  simp (disch := omega) only [en_ops, en_opc, iI_add, iI_mul, iI_sub, jL_add, jL_mul, iI_le, iI_lt, iI_eq, iI_eq0, iI_lt0, iI_0le, iI_le0, iI_0lt, jL_iI, iI_jL, lc_eq, lc_lt, lc_le, lc_ge, lc_gt, Nat.sub_zero, Nat.zero_le, true_and, and_true, Nat.reduceAdd, Nat.reduceLeDiff]
  rcases hq with ⟨rfl, t4⟩ | ⟨rfl, t4⟩
  rotate_left
  · exact ⟨fun _ => no (fun g => t4 g.2.2.2), fun g => (g (by first | trivial | rfl)).elim⟩
  refine ⟨fun e => absurd e (by decide), fun _ => ?_⟩
  have q0 := hr0 e1 e2 ⟨t1, t2, by omega, t4⟩
  rw [q0] at H
  have Hx := H.1 rfl
  obtain ⟨bb, b1, b2, -⟩ := I1.e
  have x15 := I1.xr
  have hV := I1.2.2.2.2.2.2.2.1
  obtain ⟨cN, hcN⟩ : ∃ cN : Nat, c = cN := ⟨c.toNat, by omega⟩
  obtain ⟨lN, hlN⟩ : ∃ lN : Nat, l = lN := ⟨l.toNat, by omega⟩
  obtain ⟨wN', hwN⟩ : ∃ wN' : Nat, w = wN' := ⟨w.toNat, by omega⟩
  obtain ⟨zN, hzN⟩ : ∃ zN : Nat, z = zN := ⟨z.toNat, by omega⟩
  obtain ⟨kN, hkN⟩ : ∃ kN : Nat, k = kN := ⟨k.toNat, by omega⟩
  subst hcN hlN hwN hzN hkN
  rw [show ((cN : Int)).toNat = cN by omega, show ((lN : Int)).toNat = lN by omega, show ((wN' : Int)).toNat = wN' by omega, show ((zN : Int)).toNat = zN by omega, show ((kN : Int)).toNat = kN by omega] at Hx
  apply s_X11_says_69
  simp (disch := omega) only [B_X11_says_69, sh110, lt110, en_ops, en_opc, iI_add, iI_mul, iI_sub, jL_add, jL_mul, iI_le, iI_lt, iI_eq, iI_eq0, iI_lt0, iI_0le, iI_le0, iI_0lt, jL_iI, iI_jL, lc_eq, lc_lt, lc_le, lc_ge, lc_gt, Nat.sub_zero, Nat.zero_le, true_and, and_true, Nat.reduceAdd, Nat.reduceLeDiff]
  refine m_may (d := d + 3) (code := 3) (k := 2) I1 T1 (Or.inr rfl) (by omega) (by omega) (fun _ => ?_) (fun e => absurd e (by decide))
  simp (disch := omega) only [sh110, lt110, en_ops, en_opc, iI_add, iI_mul, iI_sub, jL_add, jL_mul, iI_le, iI_lt, iI_eq, iI_eq0, iI_lt0, iI_0le, iI_le0, iI_0lt, jL_iI, iI_jL, lc_eq, lc_lt, lc_le, lc_ge, lc_gt, Nat.sub_zero, Nat.zero_le, true_and, and_true, Nat.reduceAdd, Nat.reduceLeDiff]
  refine ⟨fun _ => ?_, fun g => absurd g (by decide)⟩
  refine m_name (d := d + 3) (c := cN) I1.1 (x15.1.2.1 cN (by omega)) (by omega) (fun h2 F2 N2 => ?_)
  have V2 : ∀ P : Nat → Prop, ∀ g : en_I, Fr P h1 g → (∀ x, P x → x = 123 ∨ x = 124) → rwV G lN (zVs W lN) g := fun P g F hP => (hV lN (by omega)).mono (rwE.of (fun x g1 g2 => F x (fun w => by have := hP x w; omega)))
  have fin : ∀ g : en_I, Fr (fun x => x = 123 ∨ x = 124) h1 g → ∀ v : Int, v = syP W lN wN' cN zN kN h b f → K (.inl (some (.int (iI v)))) g hl hr := fun g F v hv => by
    rw [hv]
    exact Hx g (I1.sc F (fun x w => by unfold Psr; omega)) (F1.tr (Fm.of F (fun x w => by omega))) (by rw [F 110 (by decide)]; exact T1)
  simp (disch := omega) only [sh110, lt110, en_ops, en_opc, iI_add, iI_mul, iI_sub, jL_add, jL_mul, iI_le, iI_lt, iI_eq, iI_eq0, iI_lt0, iI_0le, iI_le0, iI_0lt, jL_iI, iI_jL, lc_eq, lc_lt, lc_le, lc_ge, lc_gt, Nat.sub_zero, Nat.zero_le, true_and, and_true, Nat.reduceAdd, Nat.reduceLeDiff]
  refine ⟨fun g => ?_, fun g => ?_⟩
  · have w2 : wN' = 2 := by omega
    subst w2
    refine V2 _ h2 F2 (fun x w => Or.inr w) h2 hl hr _ (d + 3) 0 0 2 _ _ rwE.rf (by decide) (by omega) N2 I1.1 (fun h3 F3 => ?_)
    simp (disch := omega) only [en_ops, en_opc, iI_add, iI_mul, iI_sub, jL_add, jL_mul, iI_le, iI_lt, iI_eq, iI_eq0, iI_lt0, iI_0le, iI_le0, iI_0lt, jL_iI, iI_jL, lc_eq, lc_lt, lc_le, lc_ge, lc_gt, Nat.sub_zero, Nat.zero_le, true_and, and_true, Nat.reduceAdd, Nat.reduceLeDiff]
    exact fin h3 ((F2.mono (fun x w => Or.inr w)).tr (F3.mono (fun x w => Or.inl w))) _ (by unfold syP; rw [if_pos rfl])
  · refine m_nameSize (d := d) (c := cN) (z := zN) (k := kN) (nc := (zE W).2.1) (nz := (zE W).2.2.1) (f := (zS W).1.1) (b := bb) I1.1 (fun c z k hc hz hk => by rw [F2 115 (by decide)]; exact x15.1.1 c z k hc hz hk) (fun j hj => by rw [F2 113 (by decide)]; exact b1 j hj) b2 hz.f (by omega) (by omega) N2 (fun h3 F3 N3 => ?_)
    simp (disch := omega) only [sh110, lt110, en_ops, en_opc, iI_add, iI_mul, iI_sub, jL_add, jL_mul, iI_le, iI_lt, iI_eq, iI_eq0, iI_lt0, iI_0le, iI_le0, iI_0lt, jL_iI, iI_jL, lc_eq, lc_lt, lc_le, lc_ge, lc_gt, Nat.sub_zero, Nat.zero_le, true_and, and_true, Nat.reduceAdd, Nat.reduceLeDiff]
    have F23 : Fr (fun x => x = 124) h1 h3 := F2.tr F3
    refine V2 _ h3 F23 (fun x w => Or.inr w) h3 hl hr _ (d + 3) 0 0 wN' _ _ rwE.rf (by omega) (by omega) N3 I1.1 (fun h4 F4 => ?_)
    simp (disch := omega) only [en_ops, en_opc, iI_add, iI_mul, iI_sub, jL_add, jL_mul, iI_le, iI_lt, iI_eq, iI_eq0, iI_lt0, iI_0le, iI_le0, iI_0lt, jL_iI, iI_jL, lc_eq, lc_lt, lc_le, lc_ge, lc_gt, Nat.sub_zero, Nat.zero_le, true_and, and_true, Nat.reduceAdd, Nat.reduceLeDiff]
    exact fin h4 ((F23.mono (fun x w => Or.inr w)).tr (F4.mono (fun x w => Or.inl w))) _ (by unfold syP; rw [if_neg (by omega)]; rfl)
end
