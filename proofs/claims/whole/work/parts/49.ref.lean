section
variable {G : en_G} {d : Nat} {K : en_K} {nc nz : Nat} {b : Nat → Int} {f : Nat → Nat → Nat → Int} {hi : en_I} {hl : en_L} {hr : en_F} {xc xs : Nat}
theorem rx_inj {c z k c' z' k' : Nat} (hz : z < 6) (hk : k < 3) (hz' : z' < 6) (hk' : k' < 3) : 24 * c' + 3 * z' + k' = 24 * c + 3 * z + k ↔ c' = c ∧ z' = z ∧ k' = k := by omega
/-- what else the reference's row holds, but the i-th -/
def rfE (i : Nat) (hi hi' : en_I) : Prop := Fr (· = 115) hi hi' ∧ ∀ j, (576 ≤ j ∨ 12 ≤ j / 24 ∨ 6 ≤ j / 3 % 8) → j ≠ i → hi' 115 j = hi 115 j
theorem m_brings {c e : Nat} {n v : Int} (hR : rfR hr) (hs : rfH f hi) (hb : rfB b hi) (hn9 : rfN nc nz b) (hB : fB nc nz f) (hv9 : hi 115 629 = iI v) (hc : c < 12) (he12 : e ≤ nc) (hce : c ≠ e) (hn : 0 ≤ n) (hn2 : n ≤ 999)
    (H : ∀ hi', rfE 629 hi hi' → rfH (haP nc nz c e n f (nz * 3)).1 hi' → hi' 115 629 = iI (v + (haP nc nz c e n f (nz * 3)).2.2) → K (.inl none) hi' hl hr) :
    en_Call G (d + 2) xc xs Y_X11_brings wN wN [.ref 110, .int (iI c), .int (iI e), .int (iI n)] hi hl hr K := by
  obtain ⟨n0, n1, n2, n3⟩ := hn9
  obtain ⟨⟨-, -, r10, -, r12, -⟩, -⟩ := hR
  have b1 : hi 113 1 = iI nz := by rw [hb 1 (by omega), n1]
  have e0 : hi 113 0 = iI nc := by rw [hb 0 (by omega), n0]
  have hI : ∀ m, _ := haP_r (nc := nc) (nz := nz) hn hce hB.1
  apply en_X11_brings
  simp (disch := omega) only [B_X11_brings_0, r10, sh110, lt110, sh113, lt113, en_ops, en_opc, iI_add, iI_mul, iI_sub, jL_add, jL_mul, iI_le, iI_lt, iI_eq, iI_eq0, iI_lt0, iI_0le, iI_le0, iI_0lt, jL_iI, iI_jL, lc_eq, lc_lt, lc_le, lc_ge, lc_gt, Nat.sub_zero, Nat.zero_le, true_and, and_true, Nat.reduceAdd, Nat.reduceLeDiff]
  refine ⟨1, rfl, by decide, ?_⟩
  simp (disch := omega) only [b1, en_ops, en_opc, iI_add, iI_mul, iI_sub, jL_add, jL_mul, iI_le, iI_lt, iI_eq, iI_eq0, iI_lt0, iI_0le, iI_le0, iI_0lt, jL_iI, iI_jL, lc_eq, lc_lt, lc_le, lc_ge, lc_gt, Nat.sub_zero, Nat.zero_le, true_and, and_true, Nat.reduceAdd, Nat.reduceLeDiff]
  suffices L : ∀ i : Nat, i ≤ nz → ∀ (h9 : en_I) (x6 x7 x8 : Value), rfE 629 hi h9 → rfH (haP nc nz c e n f (3 * i)).1 h9 → h9 115 629 = iI (v + (haP nc nz c e n f (3 * i)).2.2) → en_V G Y_X11_brings (d + 2) wN wN K 13 [.ref 110, .int (iI c), .int (iI e), .int (iI n), .int (iI (haP nc nz c e n f (3 * i)).2.1), .int (iI (nz - 1 - i)), x6, x7, x8] [] h9 hl hr xc xs by
    have := L 0 (by omega) hi jk jk jk ⟨Fr.rf, fun _ _ _ => rfl⟩ hs (by rw [hv9]; refine iI_eq_of ?_; show v = v + 0; omega)
    rw [show (nz : Int) - 1 - (0 : Nat) = nz - 1 by omega] at this
    exact this
  refine lp nz (fun h9 x6 x7 x8 F9 S9 M9 => ?_) (fun i hi9 ih h9 x6 x7 x8 F9 S9 M9 => ?_)
  · apply s_X11_brings_13
    simp (disch := omega) only [B_X11_brings_13, en_ops, en_opc, iI_add, iI_mul, iI_sub, jL_add, jL_mul, iI_le, iI_lt, iI_eq, iI_eq0, iI_lt0, iI_0le, iI_le0, iI_0lt, jL_iI, iI_jL, lc_eq, lc_lt, lc_le, lc_ge, lc_gt, Nat.sub_zero, Nat.zero_le, true_and, and_true, Nat.reduceAdd, Nat.reduceLeDiff]
    rw [show 3 * nz = nz * 3 by omega] at S9 M9
    exact ⟨fun _ => H h9 F9 S9 M9, fun q => by omega⟩
  · apply s_X11_brings_13
    simp (disch := omega) only [B_X11_brings_13, en_ops, en_opc, iI_add, iI_mul, iI_sub, jL_add, jL_mul, iI_le, iI_lt, iI_eq, iI_eq0, iI_lt0, iI_0le, iI_le0, iI_0lt, jL_iI, iI_jL, lc_eq, lc_lt, lc_le, lc_ge, lc_gt, Nat.sub_zero, Nat.zero_le, true_and, and_true, Nat.reduceAdd, Nat.reduceLeDiff]
    refine ⟨fun q => by omega, fun _ => ?_⟩
    rw [show ((nz : Int) - 1 - i) = ((nz - 1 - i : Nat) : Int) by omega]
    suffices L2 : ∀ k : Nat, k ≤ 3 → ∀ (h8 : en_I) (x7 x8 : Value), rfE 629 hi h8 → rfH (haP nc nz c e n f (3 * i + k)).1 h8 → h8 115 629 = iI (v + (haP nc nz c e n f (3 * i + k)).2.2) → en_V G Y_X11_brings (d + 2) wN wN K 21 [.ref 110, .int (iI c), .int (iI e), .int (iI n), .int (iI (haP nc nz c e n f (3 * i + k)).2.1), .int (iI ((nz - 1 - i : Nat) : Int)), .int (iI k), x7, x8] [] h8 hl hr xc xs from L2 0 (by omega) h9 x7 x8 F9 S9 M9
    refine lp 3 (fun h8 x7 x8 F8 S8 M8 => ?_) (fun k hk ih2 h8 x7 x8 F8 S8 M8 => ?_)
    · have := ih h8 (.int (iI ((3 : Nat) : Int))) x7 x8 F8 S8 M8
      rw [show (nz : Int) - 1 - (i + 1 : Nat) = ((nz - 1 - i : Nat) : Int) - 1 by omega] at this
      apply s_X11_brings_21
      simp (disch := omega) only [B_X11_brings_21, en_ops, en_opc, iI_add, iI_mul, iI_sub, jL_add, jL_mul, iI_le, iI_lt, iI_eq, iI_eq0, iI_lt0, iI_0le, iI_le0, iI_0lt, jL_iI, iI_jL, lc_eq, lc_lt, lc_le, lc_ge, lc_gt, Nat.sub_zero, Nat.zero_le, true_and, and_true, Nat.reduceAdd, Nat.reduceLeDiff]
      refine ⟨fun _ => this, fun q => absurd (show (3 : Int) ≤ ((3 : Nat) : Int) by omega) q⟩
    · obtain ⟨z, hz⟩ : ∃ z, z = nz - 1 - i := ⟨_, rfl⟩
      rw [← hz] at ih2 ⊢
      obtain ⟨⟨m0, m1⟩, m2⟩ := hI (3 * i + k)
      obtain ⟨m3, m4⟩ := m2 z k
      have f1 : f c z k ≤ 10000000 := Int.le_trans (f_le hB c _ hk) (Int.le_trans (aP_le hB n3 hc _) (wP_le hB n3 hc))
      have st : haP nc nz c e n f (3 * i + (k + 1)) = (haF (haP nc nz c e n f (3 * i + k)).1 nc c e z k (haT (haP nc nz c e n f (3 * i + k)) c z k), (haP nc nz c e n f (3 * i + k)).2.1 - haT (haP nc nz c e n f (3 * i + k)) c z k, if e < nc then (haP nc nz c e n f (3 * i + k)).2.2 else (haP nc nz c e n f (3 * i + k)).2.2 + haT (haP nc nz c e n f (3 * i + k)) c z k) := by
        rw [show 3 * i + (k + 1) = 3 * i + k + 1 by omega, haP_s, show nz - 1 - (3 * i + k) / 3 = z by omega, show (3 * i + k) % 3 = k by omega]
      rw [st] at ih2
      generalize haP nc nz c e n f (3 * i + k) = q at *
      have hv : h8 115 (24 * c + 3 * z + k) = iI (q.1 c z k) := S8 c z k hc (by omega) hk
      have e0' : h8 113 0 = iI nc := by rw [F8.1 113 (by decide)]; exact e0
      obtain ⟨t, ht⟩ : ∃ t, t = haT q c z k := ⟨_, rfl⟩
      rw [← ht] at ih2
      have htr : 0 ≤ t ∧ t ≤ 999 := by rw [ht]; unfold haT; split <;> omega
      have ix : (24 * (c : Int) + 3 * z + k) = ((24 * c + 3 * z + k : Nat) : Int) := by omega
      have at61 : ∀ x8 : Value, en_V G Y_X11_brings (d + 2) wN wN K 61 [.ref 110, .int (iI c), .int (iI e), .int (iI n), .int (iI q.2.1), .int (iI z), .int (iI k), .int (iI (24 * (c : Int) + 3 * z + k)), x8] [.int (iI t)] h8 hl hr xc xs := by
        intro x8
        apply s_X11_brings_61
        simp (disch := omega) only [B_X11_brings_61, r10, r12, sh110, lt110, sh113, lt113, sh115, lt115, en_ops, en_opc, iI_add, iI_mul, iI_sub, jL_add, jL_mul, iI_le, iI_lt, iI_eq, iI_eq0, iI_lt0, iI_0le, iI_le0, iI_0lt, jL_iI, iI_jL, lc_eq, lc_lt, lc_le, lc_ge, lc_gt, Nat.sub_zero, Nat.zero_le, true_and, and_true, Nat.reduceAdd, Nat.reduceLeDiff]
        refine ⟨24 * c + 3 * z + k, iI_eq_of ix, by omega, 24 * c + 3 * z + k, iI_eq_of ix, by omega, 0, rfl, by decide, ?_⟩
        rw [hv, iI_sub, show en_up h8 115 (24 * c + 3 * z + k) (iI (q.1 c z k - t)) 113 0 = iI nc by rw [up_row (by omega)]; exact e0']
        simp (disch := omega) only [en_ops, en_opc, iI_add, iI_mul, iI_sub, jL_add, jL_mul, iI_le, iI_lt, iI_eq, iI_eq0, iI_lt0, iI_0le, iI_le0, iI_0lt, jL_iI, iI_jL, lc_eq, lc_lt, lc_le, lc_ge, lc_gt, Nat.sub_zero, Nat.zero_le, true_and, and_true, Nat.reduceAdd, Nat.reduceLeDiff]
        refine ⟨fun g => ?_, fun g => m_stone ?_⟩
        · have ge : ¬ e < nc := by omega
          refine ⟨629, rfl, by decide, 629, rfl, by decide, ?_⟩
          rw [up_ne (Or.inr (by omega)), M8, iI_add]
          refine ih2 _ _ _ ⟨Fr.up (Fr.up F8.1 (by rfl)) (by rfl), fun j j1 j2 => ?_⟩ (fun c' z' k' hc' hz' hk' => ?_) ?_
          · rw [up_ne (Or.inr j2), up_ne (Or.inr (by omega))]; exact F8.2 j j1 j2
          · rw [up_ne (Or.inr (by omega))]
            show _ = iI (haF q.1 nc c e z k t c' z' k')
            unfold haF
            rw [if_neg (show ¬ (e < nc ∧ c' = e ∧ z' = z ∧ k' = k) from fun g => ge g.1)]
            by_cases j : 24 * c' + 3 * z' + k' = 24 * c + 3 * z + k
            · have j2 := (rx_inj (c := c) (c' := c') (z := z) (k := k) (by omega) hk hz' hk').mp j
              rw [j, up_at, if_pos j2]; exact iI_eq_of (by omega)
            · rw [up_ne (Or.inr j), if_neg (fun g => j (by rw [g.1, g.2.1, g.2.2])), S8 c' z' k' hc' hz' hk']; exact iI_eq_of (by omega)
          · rw [up_at]
            refine iI_eq_of ?_
            show v + q.2.2 + t = v + (if e < nc then q.2.2 else q.2.2 + t)
            rw [if_neg ge]; omega
        · have ge : e < nc := by omega
          have iy : (24 * (e : Int) + 3 * z + k) = ((24 * e + 3 * z + k : Nat) : Int) := by omega
          simp (disch := omega) only [sh115, lt115, en_ops, en_opc, iI_add, iI_mul, iI_sub, jL_add, jL_mul, iI_le, iI_lt, iI_eq, iI_eq0, iI_lt0, iI_0le, iI_le0, iI_0lt, jL_iI, iI_jL, lc_eq, lc_lt, lc_le, lc_ge, lc_gt, Nat.sub_zero, Nat.zero_le, true_and, and_true, Nat.reduceAdd, Nat.reduceLeDiff]
          refine ⟨24 * e + 3 * z + k, iI_eq_of iy, by omega, 24 * e + 3 * z + k, iI_eq_of iy, by omega, ?_⟩
          have hne : 24 * e + 3 * z + k ≠ 24 * c + 3 * z + k := by omega
          rw [up_ne (Or.inr hne), S8 e z k (by omega) (by omega) hk, iI_add]
          refine ih2 _ _ _ ⟨Fr.up (Fr.up F8.1 (by rfl)) (by rfl), fun j j1 j2 => ?_⟩ (fun c' z' k' hc' hz' hk' => ?_) ?_
          · rw [up_ne (Or.inr (by omega)), up_ne (Or.inr (by omega))]; exact F8.2 j j1 j2
          · show _ = iI (haF q.1 nc c e z k t c' z' k')
            unfold haF
            by_cases j0 : 24 * c' + 3 * z' + k' = 24 * e + 3 * z + k
            · have j2 := (rx_inj (c := e) (c' := c') (z := z) (k := k) (by omega) hk hz' hk').mp j0
              rw [j0, up_at, if_neg (show ¬ (c' = c ∧ z' = z ∧ k' = k) from fun g => hce (g.1.symm.trans j2.1)), if_pos ⟨ge, j2⟩]
              obtain ⟨g1, g2, g3⟩ := j2
              subst g1 g2 g3
              rfl
            · rw [up_ne (Or.inr j0), if_neg (show ¬ (e < nc ∧ c' = e ∧ z' = z ∧ k' = k) from fun g => j0 (by rw [g.2.1, g.2.2.1, g.2.2.2]))]
              by_cases j : 24 * c' + 3 * z' + k' = 24 * c + 3 * z + k
              · have j2 := (rx_inj (c := c) (c' := c') (z := z) (k := k) (by omega) hk hz' hk').mp j
                rw [j, up_at, if_pos j2]; exact iI_eq_of (by omega)
              · rw [up_ne (Or.inr j), if_neg (fun g => j (by rw [g.1, g.2.1, g.2.2])), S8 c' z' k' hc' hz' hk']; exact iI_eq_of (by omega)
          · rw [up_ne (Or.inr (by omega)), up_ne (Or.inr (by omega)), M8]
            refine iI_eq_of ?_
            show v + q.2.2 = v + (if e < nc then q.2.2 else q.2.2 + t)
            rw [if_pos ge]
      apply s_X11_brings_21
      simp (disch := omega) only [B_X11_brings_21, en_ops, en_opc, iI_add, iI_mul, iI_sub, jL_add, jL_mul, iI_le, iI_lt, iI_eq, iI_eq0, iI_lt0, iI_0le, iI_le0, iI_0lt, jL_iI, iI_jL, lc_eq, lc_lt, lc_le, lc_ge, lc_gt, Nat.sub_zero, Nat.zero_le, true_and, and_true, Nat.reduceAdd, Nat.reduceLeDiff]
      refine ⟨fun g => by omega, fun _ => m_stone ?_⟩
      simp (disch := omega) only [r12, sh110, lt110, sh115, lt115, en_ops, en_opc, iI_add, iI_mul, iI_sub, jL_add, jL_mul, iI_le, iI_lt, iI_eq, iI_eq0, iI_lt0, iI_0le, iI_le0, iI_0lt, jL_iI, iI_jL, lc_eq, lc_lt, lc_le, lc_ge, lc_gt, Nat.sub_zero, Nat.zero_le, true_and, and_true, Nat.reduceAdd, Nat.reduceLeDiff]
      refine ⟨24 * c + 3 * z + k, iI_eq_of ix, by omega, ?_⟩
      rw [hv]
      simp (disch := omega) only [en_ops, en_opc, iI_add, iI_mul, iI_sub, jL_add, jL_mul, iI_le, iI_lt, iI_eq, iI_eq0, iI_lt0, iI_0le, iI_le0, iI_0lt, jL_iI, iI_jL, lc_eq, lc_lt, lc_le, lc_ge, lc_gt, Nat.sub_zero, Nat.zero_le, true_and, and_true, Nat.reduceAdd, Nat.reduceLeDiff]
      refine ⟨fun g => ?_, fun g => ⟨24 * c + 3 * z + k, iI_eq_of ix, by omega, ?_⟩⟩
      · have e9 : q.2.1 = t := by rw [ht]; unfold haT; rw [if_pos g]
        have t9 := at61 x8
        rw [← e9] at t9
        exact t9
      · rw [hv]
        have e9 : q.1 c z k = t := by rw [ht]; unfold haT; rw [if_neg g]
        rw [e9]
        exact at61 x8
end
