section
variable {G : en_G} {d : Nat} {K : en_K} {nc nz : Nat} {b wl : Nat → Int} {f ch : Nat → Nat → Nat → Int} {hi : en_I} {hl : en_L} {hr : en_F} {xc xs : Nat}
def Pgs (x : Nat) : Prop := x = 130 ∨ x = 115
/-- what else the row of changes holds -/
def chJ (hi hi' : en_I) : Prop := ∀ j, (576 ≤ j ∨ 12 ≤ j / 24 ∨ 6 ≤ j / 3 % 8) → hi' 130 j = hi 130 j
theorem chJ.up {h1 h2 : en_I} {c z k : Nat} {v : Int32} (h : chJ h1 h2) (hc : c < 12) (hz : z < 6) (hk : k < 3) : chJ h1 (en_up h2 130 (24 * c + 3 * z + k) v) := fun j hj => by rw [up_ne (Or.inr (by omega))]; exact h j hj
theorem m_goes {c z k sz : Nat} {n v fr worn : Int} (hR : rfR hr) (hb : rfB b hi) (hb0 : b 0 = nc) (hwl : ∀ c, c < 12 → b (52 + c) = wl c ∧ 0 ≤ wl c ∧ wl c ≤ 16) (hC : chH ch hi) (hv : hi 115 627 = iI v) (hfr : fr = 0 ∨ fr = 1) (hn0 : 0 ≤ n) (hn1 : n ≤ 10000000) (hc : c < nc) (hnc : nc ≤ 12) (hz : z < 6) (hk : k < 3)
    (hwn : (worn = 0 ∧ sz = z) ∨ (worn = 1 ∧ z = 0) ∨ (worn = 1 ∧ sz + 1 = z))
    (H : ∀ hi', Fr Pgs hi hi' → chJ hi hi' → (∀ j, j ≠ 627 → hi' 115 j = hi 115 j) → hi' 115 627 = iI (v + if worn = 1 ∧ z = 0 then n else 0) → chH (fun c' z' k' => (ch c' z' k' - if c' = c ∧ z' = z ∧ k' = k then n else 0) + (if worn = 1 ∧ z = 0 then 0 else goP nc wl fr c sz k n c' z' k')) hi' → K (.inl none) hi' hl hr) :
    en_Call G (d + 2) xc xs Y_X11_goes wN wN [.ref 110, .int (iI c), .int (iI z), .int (iI k), .int (iI n), .int (iI fr), .int (iI worn)] hi hl hr K := by
  obtain ⟨⟨-, -, r10, -, r12, -⟩, -, -, -, -, -, -, r31, -⟩ := hR
  have e0 : hi 113 0 = iI nc := by rw [hb 0 (by omega), hb0]
  obtain ⟨to, hto⟩ : ∃ to : Int, to = if fr = 0 then (c : Int) + 1 else c - 1 := ⟨_, rfl⟩
  have htr : -1 ≤ to ∧ to ≤ 12 := by split at hto <;> omega
  have hins : (0 ≤ to ∧ to ≤ (nc : Int) - 1) ↔ insP nc fr c := by
    rcases hfr with e | e
    · rw [if_pos e] at hto; constructor
      · intro g; exact Or.inl ⟨e, by omega⟩
      · intro g; rcases g with g | g <;> omega
    · rw [if_neg (by omega)] at hto; constructor
      · intro g; exact Or.inr ⟨by omega, by omega⟩
      · intro g; rcases g with g | g <;> omega
  have ix : (24 * (c : Int) + 3 * z + k) = ((24 * c + 3 * z + k : Nat) : Int) := by omega
  have at14 : en_V G Y_X11_goes (d + 2) wN wN K 14 [.ref 110, .int (iI c), .int (iI z), .int (iI k), .int (iI n), .int (iI fr), .int (iI worn), jk, jk, jk] [.int (iI to)] hi hl hr xc xs := by
    apply s_X11_goes_14
    simp (disch := omega) only [B_X11_goes_14, r31, sh110, lt110, en_ops, en_opc, iI_add, iI_mul, iI_sub, jL_add, jL_mul, iI_le, iI_lt, iI_eq, iI_eq0, iI_lt0, iI_0le, iI_le0, iI_0lt, jL_iI, iI_jL, lc_eq, lc_lt, lc_le, lc_ge, lc_gt, Nat.sub_zero, Nat.zero_le, true_and, and_true, Nat.reduceAdd, Nat.reduceLeDiff]
    refine m_stone ?_
    simp (disch := omega) only [sh130, lt130, en_ops, en_opc, iI_add, iI_mul, iI_sub, jL_add, jL_mul, iI_le, iI_lt, iI_eq, iI_eq0, iI_lt0, iI_0le, iI_le0, iI_0lt, jL_iI, iI_jL, lc_eq, lc_lt, lc_le, lc_ge, lc_gt, Nat.sub_zero, Nat.zero_le, true_and, and_true, Nat.reduceAdd, Nat.reduceLeDiff]
    refine ⟨24 * c + 3 * z + k, iI_eq_of ix, by omega, 24 * c + 3 * z + k, iI_eq_of ix, by omega, ?_⟩
    rw [hC c z k (by omega) hz hk, iI_sub]
    have C5 := hC.up (v := ch c z k - n) (c := c) hz hk
    generalize hg : en_up hi 130 (24 * c + 3 * z + k) (iI (ch c z k - n)) = h5 at C5 ⊢
    have F5 : Fr (· = 130) hi h5 := by subst hg; exact Fr.up Fr.rf (by rfl)
    have J5 : chJ hi h5 := by subst hg; exact chJ.up (fun _ _ => rfl) (by omega) hz hk
    have e5 : h5 113 0 = iI nc := by rw [F5 113 (by decide)]; exact e0
    have b5 : ∀ j, j < 76 → h5 113 j = iI (b j) := fun j hj => by rw [F5 113 (by decide)]; exact hb j hj
    have at44 : ∀ s9 : Int, (s9 = -1 ∧ worn = 1 ∧ z = 0 ∨ s9 = sz ∧ ¬ (worn = 1 ∧ z = 0) ∧ sz < 6) → en_V G Y_X11_goes (d + 2) wN wN K 44 [.ref 110, .int (iI c), .int (iI z), .int (iI k), .int (iI n), .int (iI fr), .int (iI worn), .int (iI to), jk, jk] [.int (iI s9)] h5 hl hr xc xs := by
      intro s9 hs9
      apply s_X11_goes_44
      simp (disch := omega) only [B_X11_goes_44, r10, r12, r31, sh110, lt110, sh113, lt113, sh115, lt115, en_ops, en_opc, iI_add, iI_mul, iI_sub, jL_add, jL_mul, iI_le, iI_lt, iI_eq, iI_eq0, iI_lt0, iI_0le, iI_le0, iI_0lt, jL_iI, iI_jL, lc_eq, lc_lt, lc_le, lc_ge, lc_gt, Nat.sub_zero, Nat.zero_le, true_and, and_true, Nat.reduceAdd, Nat.reduceLeDiff]
      refine ⟨fun g => ?_, fun g => ?_⟩
      · have hs : s9 = sz ∧ ¬ (worn = 1 ∧ z = 0) ∧ sz < 6 := by omega
        refine ⟨0, rfl, by decide, ?_⟩
        simp (disch := omega) only [e5, en_ops, en_opc, iI_add, iI_mul, iI_sub, jL_add, jL_mul, iI_le, iI_lt, iI_eq, iI_eq0, iI_lt0, iI_0le, iI_le0, iI_0lt, jL_iI, iI_jL, lc_eq, lc_lt, lc_le, lc_ge, lc_gt, Nat.sub_zero, Nat.zero_le, true_and, and_true, Nat.reduceAdd, Nat.reduceLeDiff]
        refine m_within (by omega) (by omega) (by omega) (by omega) (by omega) (by omega) ?_
        obtain ⟨hs1, hs2, hs3⟩ := hs
        subst hs1
        have fin : ∀ h9, Fr Pgs hi h9 → chJ hi h9 → h9 115 = hi 115 → chH (fun c' z' k' => updF ch c z k (ch c z k - n) c' z' k' + goP nc wl fr c sz k n c' z' k') h9 → K (.inl none) h9 hl hr := fun h9 F9 J9 E9 C9 => by
          refine H h9 F9 J9 (fun j _ => by rw [E9]) (by rw [E9, hv, if_neg hs2]; exact iI_eq_of (by omega)) (fun c' z' k' hc' hz' hk' => ?_)
          rw [C9 c' z' k' hc' hz' hk']
          refine iI_eq_of ?_
          show updF ch c z k (ch c z k - n) c' z' k' + goP nc wl fr c sz k n c' z' k' = (ch c' z' k' - if c' = c ∧ z' = z ∧ k' = k then n else 0) + (if worn = 1 ∧ z = 0 then 0 else goP nc wl fr c sz k n c' z' k')
          rw [if_neg hs2]
          unfold updF
          split
          next q => obtain ⟨g1, g2, g3⟩ := q; subst g1 g2 g3; omega
          next => omega
        have iz : (24 * (c : Int) + 3 * sz + k) = ((24 * c + 3 * sz + k : Nat) : Int) := by omega
        by_cases q : insP nc fr c
        · rw [if_pos (hins.mpr q)]
          have at105 : ∀ x : Nat, x = (if fr = 0 then c else c - 1) → en_V G Y_X11_goes (d + 2) wN wN K 105 [.ref 110, .int (iI c), .int (iI z), .int (iI k), .int (iI n), .int (iI fr), .int (iI worn), .int (iI to), .int (iI sz), .int (iI n)] [.int (iI x), .int (iI 52), .ref 113, .int (iI n)] h5 hl hr xc xs := by
            intro x hx
            have hx12 : x < 12 := by split at hx <;> omega
            obtain ⟨w1, w2, w3⟩ := hwl x hx12
            have p0 := Int.mul_nonneg hn0 w2
            have p1 : n * wl x ≤ n * 16 := Int.mul_le_mul_of_nonneg_left w3 hn0
            have hst : stP nc wl fr c n = n * wl x / 16 := by unfold stP cgP; rw [if_pos q, hx]
            have tl := toP_lt hc q
            have tto : to = (toP fr c : Nat) := by unfold toP; rcases q with ⟨q1, q2⟩ | ⟨q1, q2⟩ <;> simp [q1] at hto ⊢ <;> omega
            have tne : toP fr c ≠ c := by unfold toP; rcases q with ⟨q1, q2⟩ | ⟨q1, q2⟩ <;> simp [q1] <;> omega
            have it : (24 * to + 3 * sz + k) = ((24 * toP fr c + 3 * sz + k : Nat) : Int) := by omega
            apply s_X11_goes_105
            simp (disch := omega) only [B_X11_goes_105, sh113, lt113, r31, sh110, lt110, en_ops, en_opc, iI_add, iI_mul, iI_sub, jL_add, jL_mul, iI_le, iI_lt, iI_eq, iI_eq0, iI_lt0, iI_0le, iI_le0, iI_0lt, jL_iI, iI_jL, lc_eq, lc_lt, lc_le, lc_ge, lc_gt, Nat.sub_zero, Nat.zero_le, true_and, and_true, Nat.reduceAdd, Nat.reduceLeDiff]
            refine ⟨52 + x, iI_eq_of (by omega), by omega, ?_⟩
            rw [b5 _ (by omega), w1]
            simp (disch := omega) only [en_ops, en_opc, iI_add, iI_mul, iI_sub, jL_add, jL_mul, iI_le, iI_lt, iI_eq, iI_eq0, iI_lt0, iI_0le, iI_le0, iI_0lt, jL_iI, iI_jL, lc_eq, lc_lt, lc_le, lc_ge, lc_gt, Nat.sub_zero, Nat.zero_le, true_and, and_true, Nat.reduceAdd, Nat.reduceLeDiff]
            refine ⟨by decide, ?_⟩
            rw [iI_div (by omega) (by omega) (by decide) (by decide)]
            refine m_stone ?_
            simp (disch := omega) only [sh130, lt130, r31, sh110, lt110, en_ops, en_opc, iI_add, iI_mul, iI_sub, jL_add, jL_mul, iI_le, iI_lt, iI_eq, iI_eq0, iI_lt0, iI_0le, iI_le0, iI_0lt, jL_iI, iI_jL, lc_eq, lc_lt, lc_le, lc_ge, lc_gt, Nat.sub_zero, Nat.zero_le, true_and, and_true, Nat.reduceAdd, Nat.reduceLeDiff]
            refine ⟨24 * toP fr c + 3 * sz + k, iI_eq_of it, by omega, 24 * toP fr c + 3 * sz + k, iI_eq_of it, by omega, ?_⟩
            rw [C5 _ _ _ (by omega) hs3 hk, iI_add]
            have C6 := C5.up (v := updF ch c z k (ch c z k - n) (toP fr c) sz k + (n - n * wl x / 16)) (c := toP fr c) hs3 hk
            generalize hg6 : en_up h5 130 (24 * toP fr c + 3 * sz + k) (iI (updF ch c z k (ch c z k - n) (toP fr c) sz k + (n - n * wl x / 16))) = h6 at C6 ⊢
            have F6 : Fr (· = 130) hi h6 := by subst hg6; exact Fr.up F5 (by rfl)
            have J6 : chJ hi h6 := by subst hg6; exact J5.up (by omega) hs3 hk
            refine m_stone ?_
            simp (disch := omega) only [sh130, lt130, en_ops, en_opc, iI_add, iI_mul, iI_sub, jL_add, jL_mul, iI_le, iI_lt, iI_eq, iI_eq0, iI_lt0, iI_0le, iI_le0, iI_0lt, jL_iI, iI_jL, lc_eq, lc_lt, lc_le, lc_ge, lc_gt, Nat.sub_zero, Nat.zero_le, true_and, and_true, Nat.reduceAdd, Nat.reduceLeDiff]
            refine ⟨24 * c + 3 * sz + k, iI_eq_of iz, by omega, 24 * c + 3 * sz + k, iI_eq_of iz, by omega, ?_⟩
            rw [C6 _ _ _ (by omega) hs3 hk, iI_add]
            have C7 := C6.up (v := updF (updF ch c z k (ch c z k - n)) (toP fr c) sz k (updF ch c z k (ch c z k - n) (toP fr c) sz k + (n - n * wl x / 16)) c sz k + n * wl x / 16) (c := c) hs3 hk
            refine fin _ (Fr.up (F6.mono (fun x e => Or.inl e)) (Or.inl rfl)) (J6.up (by omega) hs3 hk) (by rw [up_row (by omega), F6 115 (by decide)]) (fun c' z' k' hc' hz' hk' => ?_)
            rw [C7 c' z' k' hc' hz' hk']
            refine iI_eq_of ?_
            show _ = updF ch c z k (ch c z k - n) c' z' k' + goP nc wl fr c sz k n c' z' k'
            unfold goP
            rw [hst]
            generalize updF ch c z k (ch c z k - n) = g at *
            unfold updF
            by_cases j1 : c' = c ∧ z' = sz ∧ k' = k
            · obtain ⟨g1, g2, g3⟩ := j1
              subst g1 g2 g3
              rw [if_pos ⟨rfl, rfl, rfl⟩, if_neg (fun g => tne g.1.symm), if_pos ⟨rfl, rfl, rfl⟩, if_neg (fun g => tne g.2.1.symm)]
              omega
            · rw [if_neg j1, if_neg j1]
              by_cases j2 : c' = toP fr c ∧ z' = sz ∧ k' = k
              · rw [if_pos j2, if_pos ⟨q, j2⟩, j2.1, j2.2.1, j2.2.2]; omega
              · rw [if_neg j2, if_neg (fun g => j2 g.2)]; omega
          simp (disch := omega) only [r10, sh110, lt110, en_ops, en_opc, iI_add, iI_mul, iI_sub, jL_add, jL_mul, iI_le, iI_lt, iI_eq, iI_eq0, iI_lt0, iI_0le, iI_le0, iI_0lt, jL_iI, iI_jL, lc_eq, lc_lt, lc_le, lc_ge, lc_gt, Nat.sub_zero, Nat.zero_le, true_and, and_true, Nat.reduceAdd, Nat.reduceLeDiff]
          refine ⟨fun e => by omega, fun _ => ⟨fun e => ?_, fun e => at105 c (by rw [if_pos e])⟩⟩
          have t9 := at105 (c - 1) (by rw [if_neg e])
          rw [show to = ((c - 1 : Nat) : Int) by rw [if_neg e] at hto; rcases q with ⟨q1, q2⟩ | ⟨q1, q2⟩ <;> omega] at t9 ⊢
          exact t9
        · rw [if_neg (fun g => q (hins.mp g))]
          simp (disch := omega) only [r31, sh110, lt110, en_ops, en_opc, iI_add, iI_mul, iI_sub, jL_add, jL_mul, iI_le, iI_lt, iI_eq, iI_eq0, iI_lt0, iI_0le, iI_le0, iI_0lt, jL_iI, iI_jL, lc_eq, lc_lt, lc_le, lc_ge, lc_gt, Nat.sub_zero, Nat.zero_le, true_and, and_true, Nat.reduceAdd, Nat.reduceLeDiff]
          refine ⟨fun _ => m_stone ?_, fun e => absurd trivial e⟩
          simp (disch := omega) only [sh130, lt130, en_ops, en_opc, iI_add, iI_mul, iI_sub, jL_add, jL_mul, iI_le, iI_lt, iI_eq, iI_eq0, iI_lt0, iI_0le, iI_le0, iI_0lt, jL_iI, iI_jL, lc_eq, lc_lt, lc_le, lc_ge, lc_gt, Nat.sub_zero, Nat.zero_le, true_and, and_true, Nat.reduceAdd, Nat.reduceLeDiff]
          refine ⟨24 * c + 3 * sz + k, iI_eq_of iz, by omega, 24 * c + 3 * sz + k, iI_eq_of iz, by omega, ?_⟩
          rw [C5 _ _ _ (by omega) hs3 hk, iI_add]
          have C6 := C5.up (v := updF ch c z k (ch c z k - n) c sz k + n) (c := c) hs3 hk
          refine fin _ (Fr.up (F5.mono (fun x e => Or.inl e)) (Or.inl rfl)) (J5.up (by omega) hs3 hk) (by rw [up_row (by omega), F5 115 (by decide)]) (fun c' z' k' hc' hz' hk' => ?_)
          rw [C6 c' z' k' hc' hz' hk']
          refine iI_eq_of ?_
          show _ = updF ch c z k (ch c z k - n) c' z' k' + goP nc wl fr c sz k n c' z' k'
          unfold goP stP
          rw [if_neg q, if_neg (show ¬ (insP nc fr c ∧ c' = toP fr c ∧ z' = sz ∧ k' = k) from fun g => q g.1)]
          generalize updF ch c z k (ch c z k - n) = g at *
          unfold updF
          by_cases j1 : c' = c ∧ z' = sz ∧ k' = k
          · rw [if_pos j1, if_pos j1, j1.1, j1.2.1, j1.2.2]; omega
          · rw [if_neg j1, if_neg j1]; omega
      · have hs : worn = 1 ∧ z = 0 := by omega
        refine ⟨627, rfl, by decide, 627, rfl, by decide, ?_⟩
        rw [F5 115 (by decide), hv, iI_add]
        refine H _ (Fr.up (F5.mono (fun x e => Or.inl e)) (Or.inr rfl)) (fun j hj => by rw [up_row (by omega)]; exact J5 j hj) (fun j hj => by rw [up_ne (Or.inr hj), F5 115 (by decide)]) (by rw [up_at, if_pos hs]) (fun c' z' k' hc' hz' hk' => ?_)
        rw [up_row (by omega), C5 c' z' k' hc' hz' hk']
        refine iI_eq_of ?_
        show updF ch c z k (ch c z k - n) c' z' k' = (ch c' z' k' - if c' = c ∧ z' = z ∧ k' = k then n else 0) + (if worn = 1 ∧ z = 0 then 0 else goP nc wl fr c sz k n c' z' k')
        rw [if_pos hs]
        unfold updF
        split
        next q => obtain ⟨g1, g2, g3⟩ := q; subst g1 g2 g3; omega
        next => omega
    refine ⟨fun g => at44 z (by omega), fun g => ?_⟩
    exact at44 ((z : Int) - 1) (by omega)
  apply en_X11_goes
  simp (disch := omega) only [B_X11_goes_0, en_ops, en_opc, iI_add, iI_mul, iI_sub, jL_add, jL_mul, iI_le, iI_lt, iI_eq, iI_eq0, iI_lt0, iI_0le, iI_le0, iI_0lt, jL_iI, iI_jL, lc_eq, lc_lt, lc_le, lc_ge, lc_gt, Nat.sub_zero, Nat.zero_le, true_and, and_true, Nat.reduceAdd, Nat.reduceLeDiff]
  refine ⟨fun g => ?_, fun g => ?_⟩
  · rw [if_neg g] at hto
    rw [hto] at at14
    exact at14
  · rw [if_pos g] at hto
    rw [hto] at at14
    exact at14
end
