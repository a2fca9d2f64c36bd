section
variable {G : en_G} {X : tTx} {L : Nat}
theorem c_m0 {f : Nat} (h2 : lgM G X L Y_X2_readTerm f 2 2) (hv : lgV G X L Y_X2_readValue 23 1 f 1 3) (h0 : lgM G X L Y_X2_readValue f 0 3) (h5 : lgM G X L Y_X2_readCondition f 5 6) : lgM G X L Y_X2_readValue (f + 1) 0 3 := by
  intro o a q d len xc xs hi hl hr K hR h ho hd hne hK
  obtain ⟨d, rfl⟩ : ∃ e, d = e + 11 := ⟨d - 11, by omega⟩
  have e : pgF X (f + 1) 0 o a q = (if wdE X q = 294 then (if 6 ≤ o then .inl (3, q) else bnd (pgF X f 5 (o + 1) a (nxE X q)) (fun c q1 => if wdE X q1 = 663726 then bnd (pgF X f 0 (o + 1) a (nxE X q1)) (fun x q2 => if wdE X q2 = 176741 then bnd (pgF X f 0 (o + 1) a (nxE X q2)) (fun y q3 => .inr (fun nm => if c nm = 1 then x nm else y nm, q3)) else .inl (1, q2)) else .inl (1, q1))) else bnd (pgF X f 2 o a q) (fun s q1 => pgF X f 1 o s q1)) := rfl
  rw [e] at hne hK
  have r0 := hR.1
  have r1 := hR.2.1
  have hL := hR.2.2.2.2.s6
  have q0 : L < 134 := by omega
  have l6 := h.1.1.1
  have hq := h.2.1.1
  have hs := h.2.1.2.1
  have len0 := h.2.2.2.2
  apply en_X2_readValue
  simp (disch := omega) only [B_X2_readValue_0, sh29, lt29, sh26, lt26, r0, en_ops, en_opc, iI_add, iI_mul, iI_sub, jL_add, jL_mul, iI_le, iI_lt, iI_eq, iI_eq0, iI_lt0, iI_0le, iI_le0, iI_0lt, jL_iI, iI_jL, lc_eq, lc_lt, lc_le, lc_ge, lc_gt, Nat.sub_zero, Nat.zero_le, true_and, and_true, Nat.reduceAdd, Nat.reduceLeDiff]
  refine w_isWord (d := d + 5) (j := 11) iw11 hR h (fun b hb => ?_)
  rw [pk11] at hb
  simp (disch := omega) only [sh29, lt29, sh26, lt26, r0, en_ops, en_opc, iI_add, iI_mul, iI_sub, jL_add, jL_mul, iI_le, iI_lt, iI_eq, iI_eq0, iI_lt0, iI_0le, iI_le0, iI_0lt, jL_iI, iI_jL, lc_eq, lc_lt, lc_le, lc_ge, lc_gt, Nat.sub_zero, Nat.zero_le, true_and, and_true, Nat.reduceAdd, Nat.reduceLeDiff]
  rcases hb with ⟨rfl, w⟩ | ⟨rfl, w⟩
  · have hl9 := lt_wd w (by decide)
    rw [if_pos w] at hne hK
    refine ⟨fun g => absurd g (by decide), fun _ => ?_⟩
    apply en_X2_readChoice
    simp (disch := omega) only [B_X2_readChoice_0, sh29, lt29, sh26, lt26, en_ops, en_opc, iI_add, iI_mul, iI_sub, jL_add, jL_mul, iI_le, iI_lt, iI_eq, iI_eq0, iI_lt0, iI_0le, iI_le0, iI_0lt, jL_iI, iI_jL, lc_eq, lc_lt, lc_le, lc_ge, lc_gt, Nat.sub_zero, Nat.zero_le, true_and, and_true, Nat.reduceAdd, Nat.reduceLeDiff]
    refine w_enters (d := d + 6) hR h ho hl9 (fun n6 g1 S1 F1 => ?_) (fun y6 g1 b1 F1 => ?_)
    · rw [if_neg n6] at hne hK
      obtain ⟨o1, o2⟩ := bnd_o hne
      have n1 := nx_gt hl9
      simp (disch := omega) only [sh29, lt29, sh26, lt26, en_ops, en_opc, iI_add, iI_mul, iI_sub, jL_add, jL_mul, iI_le, iI_lt, iI_eq, iI_eq0, iI_lt0, iI_0le, iI_le0, iI_0lt, jL_iI, iI_jL, lc_eq, lc_lt, lc_le, lc_ge, lc_gt, Nat.sub_zero, Nat.zero_le, true_and, and_true, Nat.reduceAdd, Nat.reduceLeDiff]
      refine ⟨fun _ => ?_, fun g => absurd g (by decide)⟩
      refine h5 (o + 1) a (nxE X q) (d + 9) len _ _ g1 hl hr _ hR S1 (by omega) (by omega) o1 ⟨fun c q1 er g2 len1 S2 F2 l1 l2 sg => ?_, fun e er g2 b2 F2 => ?_⟩
      · have ne2 := o2 c q1 er
        have c01 := pg_01 _ _ _ _ _ _ _ (by decide) (fun g => by omega) er
        rw [er, bnd_r] at hK
        have pp := pg_pos _ _ _ _ _ _ _ n1.2.1 n1.2.2 er
        have FB2 := F1.tr F2
        simp (disch := omega) only [sh29, lt29, sh26, lt26, r0, en_ops, en_opc, iI_add, iI_mul, iI_sub, jL_add, jL_mul, iI_le, iI_lt, iI_eq, iI_eq0, iI_lt0, iI_0le, iI_le0, iI_0lt, jL_iI, iI_jL, lc_eq, lc_lt, lc_le, lc_ge, lc_gt, Nat.sub_zero, Nat.zero_le, true_and, and_true, Nat.reduceAdd, Nat.reduceLeDiff]
        refine w_needWord (d := d + 3) (j := 15) iw15 hR S2 (fun g g3 S3 F3 => ?_) (fun g g3 B3 F3 => ?_)
        · rw [pk15] at g
          rw [if_pos g] at hK ne2
          have hl1 := lt_wd g (by decide)
          have n2 := nx_gt hl1
          have n2w := nx_wd (X := X) (q := q1) iw15 (by rw [pk15]; exact g)
          have t15 : (en_tb 15).length = 4 := by decide +kernel
          have l1q := S2.2.2.2.2
          obtain ⟨p1, p2⟩ := bnd_o ne2
          have FB3 := FB2.tr (F3.p26 (L := L) (len := len))
          simp (disch := omega) only [sh29, lt29, sh26, lt26, r1, hL.1, q0, en_ops, en_opc, iI_add, iI_mul, iI_sub, jL_add, jL_mul, iI_le, iI_lt, iI_eq, iI_eq0, iI_lt0, iI_0le, iI_le0, iI_0lt, jL_iI, iI_jL, lc_eq, lc_lt, lc_le, lc_ge, lc_gt, Nat.sub_zero, Nat.zero_le, true_and, and_true, Nat.reduceAdd, Nat.reduceLeDiff]
          refine w_jump (d := d + 7) hR S3 (by omega) (fun g4 S4 F4 e4 => ?_)
          have FB4 := FB3.tr (F4.lg l1)
          simp (disch := omega) only [sh29, lt29, sh26, lt26, en_ops, en_opc, iI_add, iI_mul, iI_sub, jL_add, jL_mul, iI_le, iI_lt, iI_eq, iI_eq0, iI_lt0, iI_0le, iI_le0, iI_0lt, jL_iI, iI_jL, lc_eq, lc_lt, lc_le, lc_ge, lc_gt, Nat.sub_zero, Nat.zero_le, true_and, and_true, Nat.reduceAdd, Nat.reduceLeDiff]
          refine h0 (o + 1) a (nxE X q1) (d + 9) (len1 + 2) _ _ g4 hl hr _ hR S4 (by omega) (by omega) p1 ⟨fun x q2 er2 g5 len2 S5 F5 l3 l4 sg2 => ?_, fun e er2 g5 b5 F5 => ?_⟩
          · have ne3 := p2 x q2 er2
            rw [er2, bnd_r] at hK
            have pp2 := pg_pos _ _ _ _ _ _ _ n2.2.1 n2.2.2 er2
            have FB5 := FB4.tr (F5.lg (by omega))
            simp (disch := omega) only [sh29, lt29, sh26, lt26, r0, en_ops, en_opc, iI_add, iI_mul, iI_sub, jL_add, jL_mul, iI_le, iI_lt, iI_eq, iI_eq0, iI_lt0, iI_0le, iI_le0, iI_0lt, jL_iI, iI_jL, lc_eq, lc_lt, lc_le, lc_ge, lc_gt, Nat.sub_zero, Nat.zero_le, true_and, and_true, Nat.reduceAdd, Nat.reduceLeDiff]
            refine w_needWord (d := d + 3) (j := 16) iw16 hR S5 (fun g g6 S6 F6 => ?_) (fun g g6 B6 F6 => ?_)
            · rw [pk16] at g
              rw [if_pos g] at hK ne3
              have hl2 := lt_wd g (by decide)
              have n3 := nx_gt hl2
              have n3w := nx_wd (X := X) (q := q2) iw16 (by rw [pk16]; exact g)
              have t16 : (en_tb 16).length = 4 := by decide +kernel
              have l2q := S5.2.2.2.2
              obtain ⟨p3, p4⟩ := bnd_o ne3
              have FB6 := FB5.tr (F6.p26 (L := L) (len := len))
              simp (disch := omega) only [sh29, lt29, sh26, lt26, r1, hL.1, q0, en_ops, en_opc, iI_add, iI_mul, iI_sub, jL_add, jL_mul, iI_le, iI_lt, iI_eq, iI_eq0, iI_lt0, iI_0le, iI_le0, iI_0lt, jL_iI, iI_jL, lc_eq, lc_lt, lc_le, lc_ge, lc_gt, Nat.sub_zero, Nat.zero_le, true_and, and_true, Nat.reduceAdd, Nat.reduceLeDiff]
              refine w_jump (d := d + 7) hR S6 (by omega) (fun g7 S7 F7 e7 => ?_)
              have FB7 := FB6.tr (F7.lg (by omega))
              simp (disch := omega) only [sh29, lt29, sh26, lt26, r1, hL.1, q0, en_ops, en_opc, iI_add, iI_mul, iI_sub, jL_add, jL_mul, iI_le, iI_lt, iI_eq, iI_eq0, iI_lt0, iI_0le, iI_le0, iI_0lt, jL_iI, iI_jL, lc_eq, lc_lt, lc_le, lc_ge, lc_gt, Nat.sub_zero, Nat.zero_le, true_and, and_true, Nat.reduceAdd, Nat.reduceLeDiff]
              have S7l := S7.2.2.2.2
              have S7n := S7.2.1.1
              refine w_aim (d := d + 8) (j := len1 + 1) (by omega) hR S7 (fun g8 S8 F8 e8 => ?_)
              have FB8 := FB7.tr (F8.mono (fun a j g => Or.inr (Or.inr (Or.inr ⟨g.1, by omega⟩))) : Fx (lgP L len) g7 g8)
              simp (disch := omega) only [sh29, lt29, sh26, lt26, en_ops, en_opc, iI_add, iI_mul, iI_sub, jL_add, jL_mul, iI_le, iI_lt, iI_eq, iI_eq0, iI_lt0, iI_0le, iI_le0, iI_0lt, jL_iI, iI_jL, lc_eq, lc_lt, lc_le, lc_ge, lc_gt, Nat.sub_zero, Nat.zero_le, true_and, and_true, Nat.reduceAdd, Nat.reduceLeDiff]
              refine h0 (o + 1) a (nxE X q2) (d + 9) (len2 + 2) _ _ g8 hl hr _ hR S8 (by omega) (by omega) p3 ⟨fun y q3 er3 g9 len3 S9 F9 l5 l6 sg3 => ?_, fun e er3 g9 b9 F9 => ?_⟩
              · rw [er3, bnd_r] at hK
                have pp3 := pg_pos _ _ _ _ _ _ _ n3.2.1 n3.2.2 er3
                have FB9 := FB8.tr (F9.lg (by omega))
                simp (disch := omega) only [sh29, lt29, sh26, lt26, r1, hL.1, q0, en_ops, en_opc, iI_add, iI_mul, iI_sub, jL_add, jL_mul, iI_le, iI_lt, iI_eq, iI_eq0, iI_lt0, iI_0le, iI_le0, iI_0lt, jL_iI, iI_jL, lc_eq, lc_lt, lc_le, lc_ge, lc_gt, Nat.sub_zero, Nat.zero_le, true_and, and_true, Nat.reduceAdd, Nat.reduceLeDiff]
                have S9l := S9.2.2.2.2
                have S9n := S9.2.1.1
                refine w_aim (d := d + 8) (j := len2 + 1) (by omega) hR S9 (fun ga Sa Fa ea => ?_)
                have FBa := FB9.tr (Fa.mono (fun a j g => Or.inr (Or.inr (Or.inr ⟨g.1, by omega⟩))) : Fx (lgP L len) g9 ga)
                obtain ⟨Sb, Fb⟩ := w_close Sa hR.2.2.2.2
                simp (disch := omega) only [sh29, lt29, sh26, lt26, en_ops, en_opc, iI_add, iI_mul, iI_sub, jL_add, jL_mul, iI_le, iI_lt, iI_eq, iI_eq0, iI_lt0, iI_0le, iI_le0, iI_0lt, jL_iI, iI_jL, lc_eq, lc_lt, lc_le, lc_ge, lc_gt, Nat.sub_zero, Nat.zero_le, true_and, and_true, Nat.reduceAdd, Nat.reduceLeDiff]
                refine hK.s rfl Sb (FBa.tr (Fb.lg (by omega))) (by omega) (by omega) (fun F hF => ?_)
                have fz : ∀ j, len ≤ j → j < len3 → F j = ga (L + 1) j := fun j j1 j2 => by rw [hF j j1 j2, up_ne (Or.inl (by omega))]
                have f9 : ∀ j, len ≤ j → j < len3 → j ≠ len2 + 1 → F j = g9 (L + 1) j := fun j j1 j2 j3 => by rw [fz j j1 j2, Fa (L + 1) j (fun g => j3 g.2)]
                have f8 : ∀ j, len ≤ j → j < len2 + 2 → j ≠ len2 + 1 → F j = g8 (L + 1) j := fun j j1 j2 j3 => by rw [f9 j j1 (by omega) j3, F9 (L + 1) j (fun g => by unfold lgP at g; omega)]
                have f7 : ∀ j, len ≤ j → j < len2 + 2 → j ≠ len2 + 1 → j ≠ len1 + 1 → F j = g7 (L + 1) j := fun j j1 j2 j3 j4 => by rw [f8 j j1 j2 j3, F8 (L + 1) j (fun g => j4 g.2)]
                have f6 : ∀ j, len ≤ j → j < len2 → j ≠ len1 + 1 → F j = g6 (L + 1) j := fun j j1 j2 j4 => by rw [f7 j j1 (by omega) (by omega) j4, F7 (L + 1) j (fun g => by unfold lgP at g; omega)]
                have f5 : ∀ j, len ≤ j → j < len2 → j ≠ len1 + 1 → F j = g5 (L + 1) j := fun j j1 j2 j4 => by rw [f6 j j1 j2 j4, F6 (L + 1) j (fun g => by have := g.1; omega)]
                have f4 : ∀ j, len ≤ j → j < len1 + 2 → j ≠ len1 + 1 → F j = g4 (L + 1) j := fun j j1 j2 j4 => by rw [f5 j j1 (by omega) j4, F5 (L + 1) j (fun g => by unfold lgP at g; omega)]
                have f2 : ∀ j, len ≤ j → j < len1 → F j = g2 (L + 1) j := fun j j1 j2 => by rw [f4 j j1 (by omega) (by omega), F4 (L + 1) j (fun g => by unfold lgP at g; omega), F3 (L + 1) j (fun g => by have := g.1; omega)]
                refine cs_if (N1 := 6 * (6 - (o + 1)) + 6) (N2 := 6 * (6 - (o + 1)) + 3) (N3 := 6 * (6 - (o + 1)) + 3) (b := len1) (c := len2) (sg F f2) (sg2 F (fun j j1 j2 => f5 j (by omega) j2 (by omega))) (sg3 F (fun j j1 j2 => f9 j (by omega) j2 (by omega))) ?_ ?_ ?_ ?_ (by omega) (by omega) (by omega) (by omega) (by omega) (by omega) c01 (by omega)
                · rw [f4 len1 (by omega) (by omega) (by omega), e4]
                · rw [f8 (len1 + 1) (by omega) (by omega) (by omega), e8]
                · rw [f7 len2 (by omega) (by omega) (by omega) (by omega), e7]
                · rw [fz (len2 + 1) (by omega) (by omega), ea]
              · rw [er3, bnd_l] at hK
                have FA9 := (FB8.lg (Nat.zero_le _)).tr F9
                simp (disch := omega) only [sh29, lt29, sh26, lt26, r1, hL.1, q0, en_ops, en_opc, iI_add, iI_mul, iI_sub, jL_add, jL_mul, iI_le, iI_lt, iI_eq, iI_eq0, iI_lt0, iI_0le, iI_le0, iI_0lt, jL_iI, iI_jL, lc_eq, lc_lt, lc_le, lc_ge, lc_gt, Nat.sub_zero, Nat.zero_le, true_and, and_true, Nat.reduceAdd, Nat.reduceLeDiff]
                refine f_aim (d := d + 8) (v := ((len2 + 1 : Nat) : Int)) ⟨by omega, by omega⟩ hR b9 (fun g1 B1 F1 => ?_)
                have FA1 := FA9.tr F1
                obtain ⟨S2, F2⟩ := f_close B1 hR.2.2.2.2
                simp (disch := omega) only [sh29, lt29, sh26, lt26, en_ops, en_opc, iI_add, iI_mul, iI_sub, jL_add, jL_mul, iI_le, iI_lt, iI_eq, iI_eq0, iI_lt0, iI_0le, iI_le0, iI_0lt, jL_iI, iI_jL, lc_eq, lc_lt, lc_le, lc_ge, lc_gt, Nat.sub_zero, Nat.zero_le, true_and, and_true, Nat.reduceAdd, Nat.reduceLeDiff]
                exact hK.b rfl S2 (FA1.tr F2)
            · rw [pk16] at g
              rw [if_neg g] at hK
              have FA6 := (FB5.tr (F6.p26 (L := L) (len := len))).lg (Nat.zero_le _)
              simp (disch := omega) only [sh29, lt29, sh26, lt26, r1, hL.1, q0, en_ops, en_opc, iI_add, iI_mul, iI_sub, jL_add, jL_mul, iI_le, iI_lt, iI_eq, iI_eq0, iI_lt0, iI_0le, iI_le0, iI_0lt, jL_iI, iI_jL, lc_eq, lc_lt, lc_le, lc_ge, lc_gt, Nat.sub_zero, Nat.zero_le, true_and, and_true, Nat.reduceAdd, Nat.reduceLeDiff]
              refine f_jump (d := d + 7) hR B6 (fun g3 v3 va3 vb3 B3 F3 => ?_)
              have FA3 := FA6.tr F3
              simp (disch := omega) only [sh29, lt29, sh26, lt26, r1, hL.1, q0, en_ops, en_opc, iI_add, iI_mul, iI_sub, jL_add, jL_mul, iI_le, iI_lt, iI_eq, iI_eq0, iI_lt0, iI_0le, iI_le0, iI_0lt, jL_iI, iI_jL, lc_eq, lc_lt, lc_le, lc_ge, lc_gt, Nat.sub_zero, Nat.zero_le, true_and, and_true, Nat.reduceAdd, Nat.reduceLeDiff]
              refine f_aim (d := d + 8) (v := ((len1 + 1 : Nat) : Int)) ⟨by omega, by omega⟩ hR B3 (fun g4 B4 F4 => ?_)
              have FA4 := FA3.tr F4
              simp (disch := omega) only [sh29, lt29, sh26, lt26, en_ops, en_opc, iI_add, iI_mul, iI_sub, jL_add, jL_mul, iI_le, iI_lt, iI_eq, iI_eq0, iI_lt0, iI_0le, iI_le0, iI_0lt, jL_iI, iI_jL, lc_eq, lc_lt, lc_le, lc_ge, lc_gt, Nat.sub_zero, Nat.zero_le, true_and, and_true, Nat.reduceAdd, Nat.reduceLeDiff]
              refine f_val (d := d) hR B4 (fun g5 B5 F5 => ?_)
              have FA5 := FA4.tr F5
              simp (disch := omega) only [sh29, lt29, sh26, lt26, r1, hL.1, q0, en_ops, en_opc, iI_add, iI_mul, iI_sub, jL_add, jL_mul, iI_le, iI_lt, iI_eq, iI_eq0, iI_lt0, iI_0le, iI_le0, iI_0lt, jL_iI, iI_jL, lc_eq, lc_lt, lc_le, lc_ge, lc_gt, Nat.sub_zero, Nat.zero_le, true_and, and_true, Nat.reduceAdd, Nat.reduceLeDiff]
              refine f_aim (d := d + 8) (v := v3) ⟨va3, vb3⟩ hR B5 (fun g6 B6 F6 => ?_)
              have FA6 := FA5.tr F6
              obtain ⟨S7, F7⟩ := f_close B6 hR.2.2.2.2
              simp (disch := omega) only [sh29, lt29, sh26, lt26, en_ops, en_opc, iI_add, iI_mul, iI_sub, jL_add, jL_mul, iI_le, iI_lt, iI_eq, iI_eq0, iI_lt0, iI_0le, iI_le0, iI_0lt, jL_iI, iI_jL, lc_eq, lc_lt, lc_le, lc_ge, lc_gt, Nat.sub_zero, Nat.zero_le, true_and, and_true, Nat.reduceAdd, Nat.reduceLeDiff]
              exact hK.b rfl S7 (FA6.tr F7)
          · rw [er2, bnd_l] at hK
            have FA5 := (FB4.lg (Nat.zero_le _)).tr F5
            simp (disch := omega) only [sh29, lt29, sh26, lt26, r0, en_ops, en_opc, iI_add, iI_mul, iI_sub, jL_add, jL_mul, iI_le, iI_lt, iI_eq, iI_eq0, iI_lt0, iI_0le, iI_le0, iI_0lt, jL_iI, iI_jL, lc_eq, lc_lt, lc_le, lc_ge, lc_gt, Nat.sub_zero, Nat.zero_le, true_and, and_true, Nat.reduceAdd, Nat.reduceLeDiff]
            refine f_needWord (d := d + 3) (j := 16) iw16 hR b5 (fun g8 B8 F8 => ?_)
            have FA8 := FA5.tr (F8.p26 (L := L) (len := 0))
            simp (disch := omega) only [sh29, lt29, sh26, lt26, r1, hL.1, q0, en_ops, en_opc, iI_add, iI_mul, iI_sub, jL_add, jL_mul, iI_le, iI_lt, iI_eq, iI_eq0, iI_lt0, iI_0le, iI_le0, iI_0lt, jL_iI, iI_jL, lc_eq, lc_lt, lc_le, lc_ge, lc_gt, Nat.sub_zero, Nat.zero_le, true_and, and_true, Nat.reduceAdd, Nat.reduceLeDiff]
            refine f_jump (d := d + 7) hR B8 (fun g9 v9 va9 vb9 B9 F9 => ?_)
            have FA9 := FA8.tr F9
            simp (disch := omega) only [sh29, lt29, sh26, lt26, r1, hL.1, q0, en_ops, en_opc, iI_add, iI_mul, iI_sub, jL_add, jL_mul, iI_le, iI_lt, iI_eq, iI_eq0, iI_lt0, iI_0le, iI_le0, iI_0lt, jL_iI, iI_jL, lc_eq, lc_lt, lc_le, lc_ge, lc_gt, Nat.sub_zero, Nat.zero_le, true_and, and_true, Nat.reduceAdd, Nat.reduceLeDiff]
            refine f_aim (d := d + 8) (v := ((len1 + 1 : Nat) : Int)) ⟨by omega, by omega⟩ hR B9 (fun g10 B10 F10 => ?_)
            have FA10 := FA9.tr F10
            simp (disch := omega) only [sh29, lt29, sh26, lt26, en_ops, en_opc, iI_add, iI_mul, iI_sub, jL_add, jL_mul, iI_le, iI_lt, iI_eq, iI_eq0, iI_lt0, iI_0le, iI_le0, iI_0lt, jL_iI, iI_jL, lc_eq, lc_lt, lc_le, lc_ge, lc_gt, Nat.sub_zero, Nat.zero_le, true_and, and_true, Nat.reduceAdd, Nat.reduceLeDiff]
            refine f_val (d := d) hR B10 (fun g11 B11 F11 => ?_)
            have FA11 := FA10.tr F11
            simp (disch := omega) only [sh29, lt29, sh26, lt26, r1, hL.1, q0, en_ops, en_opc, iI_add, iI_mul, iI_sub, jL_add, jL_mul, iI_le, iI_lt, iI_eq, iI_eq0, iI_lt0, iI_0le, iI_le0, iI_0lt, jL_iI, iI_jL, lc_eq, lc_lt, lc_le, lc_ge, lc_gt, Nat.sub_zero, Nat.zero_le, true_and, and_true, Nat.reduceAdd, Nat.reduceLeDiff]
            refine f_aim (d := d + 8) (v := v9) ⟨va9, vb9⟩ hR B11 (fun g12 B12 F12 => ?_)
            have FA12 := FA11.tr F12
            obtain ⟨S13, F13⟩ := f_close B12 hR.2.2.2.2
            simp (disch := omega) only [sh29, lt29, sh26, lt26, en_ops, en_opc, iI_add, iI_mul, iI_sub, jL_add, jL_mul, iI_le, iI_lt, iI_eq, iI_eq0, iI_lt0, iI_0le, iI_le0, iI_0lt, jL_iI, iI_jL, lc_eq, lc_lt, lc_le, lc_ge, lc_gt, Nat.sub_zero, Nat.zero_le, true_and, and_true, Nat.reduceAdd, Nat.reduceLeDiff]
            exact hK.b rfl S13 (FA12.tr F13)
        · rw [pk15] at g
          rw [if_neg g] at hK
          have FA3 := (FB2.tr (F3.p26 (L := L) (len := len))).lg (Nat.zero_le _)
          simp (disch := omega) only [sh29, lt29, sh26, lt26, r1, hL.1, q0, en_ops, en_opc, iI_add, iI_mul, iI_sub, jL_add, jL_mul, iI_le, iI_lt, iI_eq, iI_eq0, iI_lt0, iI_0le, iI_le0, iI_0lt, jL_iI, iI_jL, lc_eq, lc_lt, lc_le, lc_ge, lc_gt, Nat.sub_zero, Nat.zero_le, true_and, and_true, Nat.reduceAdd, Nat.reduceLeDiff]
          refine f_jump (d := d + 7) hR B3 (fun g14 v14 va14 vb14 B14 F14 => ?_)
          have FA14 := FA3.tr F14
          simp (disch := omega) only [sh29, lt29, sh26, lt26, en_ops, en_opc, iI_add, iI_mul, iI_sub, jL_add, jL_mul, iI_le, iI_lt, iI_eq, iI_eq0, iI_lt0, iI_0le, iI_le0, iI_0lt, jL_iI, iI_jL, lc_eq, lc_lt, lc_le, lc_ge, lc_gt, Nat.sub_zero, Nat.zero_le, true_and, and_true, Nat.reduceAdd, Nat.reduceLeDiff]
          refine f_val (d := d) hR B14 (fun g15 B15 F15 => ?_)
          have FA15 := FA14.tr F15
          simp (disch := omega) only [sh29, lt29, sh26, lt26, r0, en_ops, en_opc, iI_add, iI_mul, iI_sub, jL_add, jL_mul, iI_le, iI_lt, iI_eq, iI_eq0, iI_lt0, iI_0le, iI_le0, iI_0lt, jL_iI, iI_jL, lc_eq, lc_lt, lc_le, lc_ge, lc_gt, Nat.sub_zero, Nat.zero_le, true_and, and_true, Nat.reduceAdd, Nat.reduceLeDiff]
          refine f_needWord (d := d + 3) (j := 16) iw16 hR B15 (fun g16 B16 F16 => ?_)
          have FA16 := FA15.tr (F16.p26 (L := L) (len := 0))
          simp (disch := omega) only [sh29, lt29, sh26, lt26, r1, hL.1, q0, en_ops, en_opc, iI_add, iI_mul, iI_sub, jL_add, jL_mul, iI_le, iI_lt, iI_eq, iI_eq0, iI_lt0, iI_0le, iI_le0, iI_0lt, jL_iI, iI_jL, lc_eq, lc_lt, lc_le, lc_ge, lc_gt, Nat.sub_zero, Nat.zero_le, true_and, and_true, Nat.reduceAdd, Nat.reduceLeDiff]
          refine f_jump (d := d + 7) hR B16 (fun g17 v17 va17 vb17 B17 F17 => ?_)
          have FA17 := FA16.tr F17
          simp (disch := omega) only [sh29, lt29, sh26, lt26, r1, hL.1, q0, en_ops, en_opc, iI_add, iI_mul, iI_sub, jL_add, jL_mul, iI_le, iI_lt, iI_eq, iI_eq0, iI_lt0, iI_0le, iI_le0, iI_0lt, jL_iI, iI_jL, lc_eq, lc_lt, lc_le, lc_ge, lc_gt, Nat.sub_zero, Nat.zero_le, true_and, and_true, Nat.reduceAdd, Nat.reduceLeDiff]
          refine f_aim (d := d + 8) (v := v14) ⟨va14, vb14⟩ hR B17 (fun g18 B18 F18 => ?_)
          have FA18 := FA17.tr F18
          simp (disch := omega) only [sh29, lt29, sh26, lt26, en_ops, en_opc, iI_add, iI_mul, iI_sub, jL_add, jL_mul, iI_le, iI_lt, iI_eq, iI_eq0, iI_lt0, iI_0le, iI_le0, iI_0lt, jL_iI, iI_jL, lc_eq, lc_lt, lc_le, lc_ge, lc_gt, Nat.sub_zero, Nat.zero_le, true_and, and_true, Nat.reduceAdd, Nat.reduceLeDiff]
          refine f_val (d := d) hR B18 (fun g19 B19 F19 => ?_)
          have FA19 := FA18.tr F19
          simp (disch := omega) only [sh29, lt29, sh26, lt26, r1, hL.1, q0, en_ops, en_opc, iI_add, iI_mul, iI_sub, jL_add, jL_mul, iI_le, iI_lt, iI_eq, iI_eq0, iI_lt0, iI_0le, iI_le0, iI_0lt, jL_iI, iI_jL, lc_eq, lc_lt, lc_le, lc_ge, lc_gt, Nat.sub_zero, Nat.zero_le, true_and, and_true, Nat.reduceAdd, Nat.reduceLeDiff]
          refine f_aim (d := d + 8) (v := v17) ⟨va17, vb17⟩ hR B19 (fun g20 B20 F20 => ?_)
          have FA20 := FA19.tr F20
          obtain ⟨S21, F21⟩ := f_close B20 hR.2.2.2.2
          simp (disch := omega) only [sh29, lt29, sh26, lt26, en_ops, en_opc, iI_add, iI_mul, iI_sub, jL_add, jL_mul, iI_le, iI_lt, iI_eq, iI_eq0, iI_lt0, iI_0le, iI_le0, iI_0lt, jL_iI, iI_jL, lc_eq, lc_lt, lc_le, lc_ge, lc_gt, Nat.sub_zero, Nat.zero_le, true_and, and_true, Nat.reduceAdd, Nat.reduceLeDiff]
          exact hK.b rfl S21 (FA20.tr F21)
      · rw [er, bnd_l] at hK
        have FA2 := (F1.lg (Nat.zero_le _)).tr F2
        simp (disch := omega) only [sh29, lt29, sh26, lt26, r0, en_ops, en_opc, iI_add, iI_mul, iI_sub, jL_add, jL_mul, iI_le, iI_lt, iI_eq, iI_eq0, iI_lt0, iI_0le, iI_le0, iI_0lt, jL_iI, iI_jL, lc_eq, lc_lt, lc_le, lc_ge, lc_gt, Nat.sub_zero, Nat.zero_le, true_and, and_true, Nat.reduceAdd, Nat.reduceLeDiff]
        refine f_needWord (d := d + 3) (j := 15) iw15 hR b2 (fun g22 B22 F22 => ?_)
        have FA22 := FA2.tr (F22.p26 (L := L) (len := 0))
        simp (disch := omega) only [sh29, lt29, sh26, lt26, r1, hL.1, q0, en_ops, en_opc, iI_add, iI_mul, iI_sub, jL_add, jL_mul, iI_le, iI_lt, iI_eq, iI_eq0, iI_lt0, iI_0le, iI_le0, iI_0lt, jL_iI, iI_jL, lc_eq, lc_lt, lc_le, lc_ge, lc_gt, Nat.sub_zero, Nat.zero_le, true_and, and_true, Nat.reduceAdd, Nat.reduceLeDiff]
        refine f_jump (d := d + 7) hR B22 (fun g23 v23 va23 vb23 B23 F23 => ?_)
        have FA23 := FA22.tr F23
        simp (disch := omega) only [sh29, lt29, sh26, lt26, en_ops, en_opc, iI_add, iI_mul, iI_sub, jL_add, jL_mul, iI_le, iI_lt, iI_eq, iI_eq0, iI_lt0, iI_0le, iI_le0, iI_0lt, jL_iI, iI_jL, lc_eq, lc_lt, lc_le, lc_ge, lc_gt, Nat.sub_zero, Nat.zero_le, true_and, and_true, Nat.reduceAdd, Nat.reduceLeDiff]
        refine f_val (d := d) hR B23 (fun g24 B24 F24 => ?_)
        have FA24 := FA23.tr F24
        simp (disch := omega) only [sh29, lt29, sh26, lt26, r0, en_ops, en_opc, iI_add, iI_mul, iI_sub, jL_add, jL_mul, iI_le, iI_lt, iI_eq, iI_eq0, iI_lt0, iI_0le, iI_le0, iI_0lt, jL_iI, iI_jL, lc_eq, lc_lt, lc_le, lc_ge, lc_gt, Nat.sub_zero, Nat.zero_le, true_and, and_true, Nat.reduceAdd, Nat.reduceLeDiff]
        refine f_needWord (d := d + 3) (j := 16) iw16 hR B24 (fun g25 B25 F25 => ?_)
        have FA25 := FA24.tr (F25.p26 (L := L) (len := 0))
        simp (disch := omega) only [sh29, lt29, sh26, lt26, r1, hL.1, q0, en_ops, en_opc, iI_add, iI_mul, iI_sub, jL_add, jL_mul, iI_le, iI_lt, iI_eq, iI_eq0, iI_lt0, iI_0le, iI_le0, iI_0lt, jL_iI, iI_jL, lc_eq, lc_lt, lc_le, lc_ge, lc_gt, Nat.sub_zero, Nat.zero_le, true_and, and_true, Nat.reduceAdd, Nat.reduceLeDiff]
        refine f_jump (d := d + 7) hR B25 (fun g26 v26 va26 vb26 B26 F26 => ?_)
        have FA26 := FA25.tr F26
        simp (disch := omega) only [sh29, lt29, sh26, lt26, r1, hL.1, q0, en_ops, en_opc, iI_add, iI_mul, iI_sub, jL_add, jL_mul, iI_le, iI_lt, iI_eq, iI_eq0, iI_lt0, iI_0le, iI_le0, iI_0lt, jL_iI, iI_jL, lc_eq, lc_lt, lc_le, lc_ge, lc_gt, Nat.sub_zero, Nat.zero_le, true_and, and_true, Nat.reduceAdd, Nat.reduceLeDiff]
        refine f_aim (d := d + 8) (v := v23) ⟨va23, vb23⟩ hR B26 (fun g27 B27 F27 => ?_)
        have FA27 := FA26.tr F27
        simp (disch := omega) only [sh29, lt29, sh26, lt26, en_ops, en_opc, iI_add, iI_mul, iI_sub, jL_add, jL_mul, iI_le, iI_lt, iI_eq, iI_eq0, iI_lt0, iI_0le, iI_le0, iI_0lt, jL_iI, iI_jL, lc_eq, lc_lt, lc_le, lc_ge, lc_gt, Nat.sub_zero, Nat.zero_le, true_and, and_true, Nat.reduceAdd, Nat.reduceLeDiff]
        refine f_val (d := d) hR B27 (fun g28 B28 F28 => ?_)
        have FA28 := FA27.tr F28
        simp (disch := omega) only [sh29, lt29, sh26, lt26, r1, hL.1, q0, en_ops, en_opc, iI_add, iI_mul, iI_sub, jL_add, jL_mul, iI_le, iI_lt, iI_eq, iI_eq0, iI_lt0, iI_0le, iI_le0, iI_0lt, jL_iI, iI_jL, lc_eq, lc_lt, lc_le, lc_ge, lc_gt, Nat.sub_zero, Nat.zero_le, true_and, and_true, Nat.reduceAdd, Nat.reduceLeDiff]
        refine f_aim (d := d + 8) (v := v26) ⟨va26, vb26⟩ hR B28 (fun g29 B29 F29 => ?_)
        have FA29 := FA28.tr F29
        obtain ⟨S30, F30⟩ := f_close B29 hR.2.2.2.2
        simp (disch := omega) only [sh29, lt29, sh26, lt26, en_ops, en_opc, iI_add, iI_mul, iI_sub, jL_add, jL_mul, iI_le, iI_lt, iI_eq, iI_eq0, iI_lt0, iI_0le, iI_le0, iI_0lt, jL_iI, iI_jL, lc_eq, lc_lt, lc_le, lc_ge, lc_gt, Nat.sub_zero, Nat.zero_le, true_and, and_true, Nat.reduceAdd, Nat.reduceLeDiff]
        exact hK.b rfl S30 (FA29.tr F30)
    · rw [if_pos y6] at hK
      simp (disch := omega) only [en_ops, en_opc, iI_add, iI_mul, iI_sub, jL_add, jL_mul, iI_le, iI_lt, iI_eq, iI_eq0, iI_lt0, iI_0le, iI_le0, iI_0lt, jL_iI, iI_jL, lc_eq, lc_lt, lc_le, lc_ge, lc_gt, Nat.sub_zero, Nat.zero_le, true_and, and_true, Nat.reduceAdd, Nat.reduceLeDiff]
      refine ⟨fun g => (g (by first | trivial | rfl)).elim, fun _ => ?_⟩
      exact hK.b rfl b1 F1.p26
  · rw [if_neg w] at hne hK
    obtain ⟨o1, o2⟩ := bnd_o hne
    refine ⟨fun _ => ?_, fun g => (g (by first | trivial | rfl)).elim⟩
    refine h2 o a q (d + 10) len _ _ hi hl hr _ hR h ho (by omega) o1 ⟨fun s q1 er g1 len1 S1 F1 l1 l2 sg => ?_, fun e er g1 b1 F1 => ?_⟩
    · have ne2 := o2 s q1 er
      rw [er, bnd_r] at hK
      simp (disch := omega) only [en_ops, en_opc, iI_add, iI_mul, iI_sub, jL_add, jL_mul, iI_le, iI_lt, iI_eq, iI_eq0, iI_lt0, iI_0le, iI_le0, iI_0lt, jL_iI, iI_jL, lc_eq, lc_lt, lc_le, lc_ge, lc_gt, Nat.sub_zero, Nat.zero_le, true_and, and_true, Nat.reduceAdd, Nat.reduceLeDiff]
      refine hv o s q1 (d + 11) len len1 0 _ _ _ g1 hl hr K rfl hR S1 ho (by omega) (by omega) l1 (fun F hF => (sg F hF).w (by omega)) ne2 ⟨fun s2 q2 er2 g2 len2 S2 F2 l3 l4 sg2 => hK.s er2 S2 (F1.tr (F2.lg l1)) (by omega) (by omega) sg2, fun e er2 g2 b2 F2 => hK.b er2 b2 ((F1.lg (by omega)).tr F2)⟩
    · rw [er, bnd_l] at hK
      simp (disch := omega) only [en_ops, en_opc, iI_add, iI_mul, iI_sub, jL_add, jL_mul, iI_le, iI_lt, iI_eq, iI_eq0, iI_lt0, iI_0le, iI_le0, iI_0lt, jL_iI, iI_jL, lc_eq, lc_lt, lc_le, lc_ge, lc_gt, Nat.sub_zero, Nat.zero_le, true_and, and_true, Nat.reduceAdd, Nat.reduceLeDiff]
      exact f_readValue_loop (d := d + 4) (i := 0) (by omega) rfl hR b1 (hK.b rfl b1 F1)
/-- all readings -/
theorem c_all (G : en_G) (X : tTx) (L : Nat) : ∀ f : Nat, lgM G X L Y_X2_readValue f 0 3 ∧ lgV G X L Y_X2_readValue 23 1 f 1 3 ∧ lgM G X L Y_X2_readTerm f 2 2 ∧ lgV G X L Y_X2_readTerm 6 1 f 3 2 ∧ lgM G X L Y_X2_readFactor f 4 1 ∧ lgM G X L Y_X2_readCondition f 5 6 ∧ lgV G X L Y_X2_readCondition 6 0 f 6 6 ∧ lgM G X L Y_X2_readBoth f 7 5 ∧ lgV G X L Y_X2_readBoth 6 0 f 8 5 ∧ lgM G X L Y_X2_readTest f 9 4 := by
  intro f
  induction f with
  | zero =>
    have z : ∀ m Y c, lgM G X L Y 0 m c := fun m Y c o a q d len xc xs hi hl hr K _ _ _ _ hne _ => absurd rfl hne
    have z2 : ∀ m Y pc k c, lgV G X L Y pc k 0 m c := fun m Y pc k c o a q d s0 len i xc xs ls hi hl hr K _ _ _ _ _ _ _ _ hne _ => absurd rfl hne
    exact ⟨z _ _ _, z2 _ _ _ _ _, z _ _ _, z2 _ _ _ _ _, z _ _ _, z _ _ _, z2 _ _ _ _ _, z _ _ _, z2 _ _ _ _ _, z _ _ _⟩
  | succ f ih =>
    obtain ⟨i0, i1, i2, i3, i4, i5, i6, i7, i8, i9⟩ := ih
    exact ⟨c_m0 i2 i1 i0 i5, c_m1 i2 i1, c_m2 i4 i3, c_m3 i4 i3, c_m4 i0, c_m5 i7 i6, c_m6 i7 i6, c_m7 i9 i8, c_m8 i9 i8, c_m9 i0 i5 i9⟩
end
