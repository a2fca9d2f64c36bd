section
variable {G : en_G} {d : Nat} {K : en_K} {a nc nz : Nat} {f g : Nat → Nat → Nat → Int} {hi : en_I} {hl : en_L} {hr : en_F} {xc xs : Nat} {sm : Nat → Int}
/-- what a lorry leaves behind its m-th heap: the heaps, its room, what it sold -/
def haT (q : (Nat → Nat → Nat → Int) × Int × Int) (c z k : Nat) : Int := if q.2.1 ≤ q.1 c z k then q.2.1 else q.1 c z k
def haF (g : Nat → Nat → Nat → Int) (nc c e z k : Nat) (t : Int) (c' z' k' : Nat) : Int := (if c' = c ∧ z' = z ∧ k' = k then g c z k - t else g c' z' k') + (if e < nc ∧ c' = e ∧ z' = z ∧ k' = k then t else 0)
def haP (nc nz c e : Nat) (n : Int) (f : Nat → Nat → Nat → Int) : Nat → (Nat → Nat → Nat → Int) × Int × Int
  | 0 => (f, n, 0)
  | m + 1 => let q := haP nc nz c e n f m
    let t := haT q c (nz - 1 - m / 3) (m % 3)
    (haF q.1 nc c e (nz - 1 - m / 3) (m % 3) t, q.2.1 - t, if e < nc then q.2.2 else q.2.2 + t)
theorem haP_s {c e m : Nat} {n : Int} : haP nc nz c e n f (m + 1) = (haF (haP nc nz c e n f m).1 nc c e (nz - 1 - m / 3) (m % 3) (haT (haP nc nz c e n f m) c (nz - 1 - m / 3) (m % 3)), (haP nc nz c e n f m).2.1 - haT (haP nc nz c e n f m) c (nz - 1 - m / 3) (m % 3), if e < nc then (haP nc nz c e n f m).2.2 else (haP nc nz c e n f m).2.2 + haT (haP nc nz c e n f m) c (nz - 1 - m / 3) (m % 3)) := rfl
theorem haP_r {c e : Nat} {n : Int} (hn : 0 ≤ n) (hce : c ≠ e) (h0 : ∀ c z k, 0 ≤ f c z k) (m : Nat) : (0 ≤ (haP nc nz c e n f m).2.1 ∧ (haP nc nz c e n f m).2.1 ≤ n) ∧ (∀ z k, 0 ≤ (haP nc nz c e n f m).1 c z k ∧ (haP nc nz c e n f m).1 c z k ≤ f c z k) := by
  induction m with
  | zero => exact ⟨⟨hn, Int.le_refl _⟩, fun z k => ⟨h0 c z k, Int.le_refl _⟩⟩
  | succ m ih =>
    obtain ⟨⟨i1, i2⟩, i3⟩ := ih
    rw [haP_s]
    have t0 := i3 (nz - 1 - m / 3) (m % 3)
    have t1 : 0 ≤ haT (haP nc nz c e n f m) c (nz - 1 - m / 3) (m % 3) ∧ haT (haP nc nz c e n f m) c (nz - 1 - m / 3) (m % 3) ≤ (haP nc nz c e n f m).2.1 ∧ haT (haP nc nz c e n f m) c (nz - 1 - m / 3) (m % 3) ≤ (haP nc nz c e n f m).1 c (nz - 1 - m / 3) (m % 3) := by
      unfold haT; split <;> omega
    refine ⟨⟨by show 0 ≤ _ - _; omega, by show _ - _ ≤ n; omega⟩, fun z k => ?_⟩
    have t2 := i3 z k
    show 0 ≤ haF _ _ _ _ _ _ _ _ _ _ ∧ haF _ _ _ _ _ _ _ _ _ _ ≤ _
    unfold haF
    rw [if_neg (show ¬ (e < nc ∧ c = e ∧ z = nz - 1 - m / 3 ∧ k = m % 3) from fun q => hce q.2.1)]
    split
    next q => obtain ⟨-, g2, g3⟩ := q; subst g2 g3; omega
    next => omega
def Pha (a x : Nat) : Prop := x = a + 1 ∨ x = a + 7
theorem t_haul {c e : Nat} {n : Int} (ha : isSh a) (hR : shR a hr) (hh : shH a nc nz f hi) (hB : fB nc nz f) (hM : smH a sm hi) (hc : c < 12) (he12 : e ≤ nc) (hce : c ≠ e) (hn : 0 ≤ n) (hn2 : n ≤ 999)
    (H : ∀ hi', Fr (Pha a) hi hi' → shH a nc nz (haP nc nz c e n f (nz * 3)).1 hi' → smH a (fun i => sm i + if i = 4 then (haP nc nz c e n f (nz * 3)).2.2 else 0) hi' → K (.inl none) hi' hl hr) :
    en_Call G (d + 2) xc xs Y_X6_haul wN wN [.ref a, .int (iI c), .int (iI e), .int (iI n)] hi hl hr K := by
  obtain ⟨s0, s1, s2, s3, s4, s5, s6, s7, s8, s9, s10, s11⟩ := ha.sh
  obtain ⟨r1, r2, r3, r4, r5, r6, r7⟩ := id hR
  obtain ⟨y0, y1, y2, y3, y4⟩ := id hh
  have q1 : a + 1 < 134 := by omega
  have q7 : a + 7 < 134 := by omega
  have hI : ∀ m, _ := haP_r (nc := nc) (nz := nz) hn hce hB.1
  apply en_X6_haul
  simp (disch := omega) only [B_X6_haul_0, s0, s1, y1, en_ops, en_opc, iI_add, iI_mul, iI_sub, jL_add, jL_mul, iI_le, iI_lt, iI_eq, iI_eq0, iI_lt0, iI_0le, iI_le0, iI_0lt, jL_iI, iI_jL, lc_eq, lc_lt, lc_le, lc_ge, lc_gt, Nat.sub_zero, Nat.zero_le, true_and, and_true, Nat.reduceAdd, Nat.reduceLeDiff]
  suffices L : ∀ i : Nat, i ≤ nz → ∀ (h9 : en_I) (x6 x7 : Value), Fr (Pha a) hi h9 → shH a nc nz (haP nc nz c e n f (3 * i)).1 h9 → smH a (fun j => sm j + if j = 4 then (haP nc nz c e n f (3 * i)).2.2 else 0) h9 → en_V G Y_X6_haul (d + 2) wN wN K 11 [.ref a, .int (iI c), .int (iI e), .int (iI n), .int (iI (haP nc nz c e n f (3 * i)).2.1), .int (iI (nz - 1 - i)), x6, x7] [] h9 hl hr xc xs by
    have := L 0 (by omega) hi jk jk Fr.rf hh (fun j hj => by rw [hM j hj]; refine iI_eq_of ?_; show sm j = sm j + (if j = 4 then 0 else 0); split <;> omega)
    rw [show (nz : Int) - 1 - (0 : Nat) = nz - 1 by omega] at this
    exact this
  refine lp nz (fun h9 x6 x7 F9 S9 M9 => ?_) (fun i hi9 ih h9 x6 x7 F9 S9 M9 => ?_)
  · apply s_X6_haul_11
    simp (disch := omega) only [B_X6_haul_11, en_ops, en_opc, iI_add, iI_mul, iI_sub, jL_add, jL_mul, iI_le, iI_lt, iI_eq, iI_eq0, iI_lt0, iI_0le, iI_le0, iI_0lt, jL_iI, iI_jL, lc_eq, lc_lt, lc_le, lc_ge, lc_gt, Nat.sub_zero, Nat.zero_le, true_and, and_true, Nat.reduceAdd, Nat.reduceLeDiff]
    rw [show 3 * nz = nz * 3 by omega] at S9 M9
    exact ⟨fun _ => H h9 F9 S9 M9, fun q => by omega⟩
  · apply s_X6_haul_11
    simp (disch := omega) only [B_X6_haul_11, en_ops, en_opc, iI_add, iI_mul, iI_sub, jL_add, jL_mul, iI_le, iI_lt, iI_eq, iI_eq0, iI_lt0, iI_0le, iI_le0, iI_0lt, jL_iI, iI_jL, lc_eq, lc_lt, lc_le, lc_ge, lc_gt, Nat.sub_zero, Nat.zero_le, true_and, and_true, Nat.reduceAdd, Nat.reduceLeDiff]
    refine ⟨fun q => by omega, fun _ => ?_⟩
    rw [show ((nz : Int) - 1 - i) = ((nz - 1 - i : Nat) : Int) by omega]
    suffices L2 : ∀ k : Nat, k ≤ 3 → ∀ (h8 : en_I) (x7 : Value), Fr (Pha a) hi h8 → shH a nc nz (haP nc nz c e n f (3 * i + k)).1 h8 → smH a (fun j => sm j + if j = 4 then (haP nc nz c e n f (3 * i + k)).2.2 else 0) h8 → en_V G Y_X6_haul (d + 2) wN wN K 19 [.ref a, .int (iI c), .int (iI e), .int (iI n), .int (iI (haP nc nz c e n f (3 * i + k)).2.1), .int (iI ((nz - 1 - i : Nat) : Int)), .int (iI k), x7] [] h8 hl hr xc xs from L2 0 (by omega) h9 x7 F9 S9 M9
    refine lp 3 (fun h8 x7 F8 S8 M8 => ?_) (fun k hk ih2 h8 x7 F8 S8 M8 => ?_)
    · have := ih h8 (.int (iI ((3 : Nat) : Int))) x7 F8 S8 M8
      rw [show (nz : Int) - 1 - (i + 1 : Nat) = ((nz - 1 - i : Nat) : Int) - 1 by omega] at this
      apply s_X6_haul_19
      simp (disch := omega) only [B_X6_haul_19, en_ops, en_opc, iI_add, iI_mul, iI_sub, jL_add, jL_mul, iI_le, iI_lt, iI_eq, iI_eq0, iI_lt0, iI_0le, iI_le0, iI_0lt, jL_iI, iI_jL, lc_eq, lc_lt, lc_le, lc_ge, lc_gt, Nat.sub_zero, Nat.zero_le, true_and, and_true, Nat.reduceAdd, Nat.reduceLeDiff]
      refine ⟨fun _ => this, fun q => absurd (show (3 : Int) ≤ ((3 : Nat) : Int) by omega) q⟩
    · obtain ⟨z, hz⟩ : ∃ z, z = nz - 1 - i := ⟨_, rfl⟩
      rw [← hz] at ih2 ⊢
      obtain ⟨⟨m0, m1⟩, m2⟩ := hI (3 * i + k)
      obtain ⟨m3, m4⟩ := m2 z k
      have f1 : f c z k ≤ 10000000 := Int.le_trans (f_le hB c _ hk) (Int.le_trans (aP_le hB y3 hc _) (wP_le hB y3 hc))
      have st : haP nc nz c e n f (3 * i + (k + 1)) = (haF (haP nc nz c e n f (3 * i + k)).1 nc c e z k (haT (haP nc nz c e n f (3 * i + k)) c z k), (haP nc nz c e n f (3 * i + k)).2.1 - haT (haP nc nz c e n f (3 * i + k)) c z k, if e < nc then (haP nc nz c e n f (3 * i + k)).2.2 else (haP nc nz c e n f (3 * i + k)).2.2 + haT (haP nc nz c e n f (3 * i + k)) c z k) := by
        rw [show 3 * i + (k + 1) = 3 * i + k + 1 by omega, haP_s, show nz - 1 - (3 * i + k) / 3 = z by omega, show (3 * i + k) % 3 = k by omega]
      rw [st] at ih2
      generalize haP nc nz c e n f (3 * i + k) = q at *
      have hv : h8 (a + 1) ((c * 6 + z) * 3 + k) = iI (q.1 c z k) := S8.2.2.2.2 c z k hc (by omega) hk
      have n0 : h8 a 0 = iI nc := S8.1
      obtain ⟨t, ht⟩ : ∃ t, t = haT q c z k := ⟨_, rfl⟩
      rw [← ht] at ih2
      have htr : 0 ≤ t ∧ t ≤ 999 := by rw [ht]; unfold haT; split <;> omega
      apply s_X6_haul_19
      simp (disch := omega) only [B_X6_haul_19, r1, s0, s1, en_ops, en_opc, iI_add, iI_mul, iI_sub, jL_add, jL_mul, iI_le, iI_lt, iI_eq, iI_eq0, iI_lt0, iI_0le, iI_le0, iI_0lt, jL_iI, iI_jL, lc_eq, lc_lt, lc_le, lc_ge, lc_gt, Nat.sub_zero, Nat.zero_le, true_and, and_true, Nat.reduceAdd, Nat.reduceLeDiff]
      refine ⟨fun g => by omega, fun _ => t_heapAt ?_⟩
      simp (disch := omega) only [s2, q1, en_ops, en_opc, iI_add, iI_mul, iI_sub, jL_add, jL_mul, iI_le, iI_lt, iI_eq, iI_eq0, iI_lt0, iI_0le, iI_le0, iI_0lt, jL_iI, iI_jL, lc_eq, lc_lt, lc_le, lc_ge, lc_gt, Nat.sub_zero, Nat.zero_le, true_and, and_true, Nat.reduceAdd, Nat.reduceLeDiff]
      refine ⟨(c * 6 + z) * 3 + k, iI_eq_of (by omega), by omega, ?_⟩
      rw [hv]
      refine t_min (by omega) (by omega) (by omega) (by omega) ?_
      show en_kk _ _ _ _ _ _ (.inl (some (.int (iI (haT q c z k))))) _ _ _
      rw [← ht]
      simp (disch := omega) only [r1, s0, s1, en_ops, en_opc, iI_add, iI_mul, iI_sub, jL_add, jL_mul, iI_le, iI_lt, iI_eq, iI_eq0, iI_lt0, iI_0le, iI_le0, iI_0lt, jL_iI, iI_jL, lc_eq, lc_lt, lc_le, lc_ge, lc_gt, Nat.sub_zero, Nat.zero_le, true_and, and_true, Nat.reduceAdd, Nat.reduceLeDiff]
      refine t_heapAt ?_
      simp (disch := omega) only [r1, s0, s1, s2, q1, en_ops, en_opc, iI_add, iI_mul, iI_sub, jL_add, jL_mul, iI_le, iI_lt, iI_eq, iI_eq0, iI_lt0, iI_0le, iI_le0, iI_0lt, jL_iI, iI_jL, lc_eq, lc_lt, lc_le, lc_ge, lc_gt, Nat.sub_zero, Nat.zero_le, true_and, and_true, Nat.reduceAdd, Nat.reduceLeDiff]
      refine ⟨(c * 6 + z) * 3 + k, iI_eq_of (by omega), by omega, (c * 6 + z) * 3 + k, iI_eq_of (by omega), by omega, ?_⟩
      rw [hv, iI_sub]
      have ne0 : en_up h8 (a + 1) ((c * 6 + z) * 3 + k) (iI (q.1 c z k - t)) a 0 = iI nc := by rw [up_row (by omega)]; exact n0
      simp (disch := omega) only [ne0, en_ops, en_opc, iI_add, iI_mul, iI_sub, jL_add, jL_mul, iI_le, iI_lt, iI_eq, iI_eq0, iI_lt0, iI_0le, iI_le0, iI_0lt, jL_iI, iI_jL, lc_eq, lc_lt, lc_le, lc_ge, lc_gt, Nat.sub_zero, Nat.zero_le, true_and, and_true, Nat.reduceAdd, Nat.reduceLeDiff]
      refine ⟨fun g => ?_, fun g => ?_⟩
      · have ge : ¬ e < nc := by omega
        simp (disch := omega) only [r7, s0, s1, s8, q7, en_ops, en_opc, iI_add, iI_mul, iI_sub, jL_add, jL_mul, iI_le, iI_lt, iI_eq, iI_eq0, iI_lt0, iI_0le, iI_le0, iI_0lt, jL_iI, iI_jL, lc_eq, lc_lt, lc_le, lc_ge, lc_gt, Nat.sub_zero, Nat.zero_le, true_and, and_true, Nat.reduceAdd, Nat.reduceLeDiff]
        refine ⟨4, rfl, by decide, 4, rfl, by decide, ?_⟩
        rw [up_row (by omega), M8 4 (by omega), iI_add]
        refine ih2 _ _ (Fr.up (Fr.up F8 (Or.inl rfl)) (Or.inr rfl)) ?_ (fun j hj => ?_)
        · refine ⟨by rw [up_row (by omega), up_row (by omega)]; exact S8.1, by rw [up_row (by omega), up_row (by omega)]; exact S8.2.1, y2, y3, fun c' z' k' hc' hz' hk' => ?_⟩
          rw [up_row (by omega)]
          show _ = iI (haF q.1 nc c e z k t c' z' k')
          unfold haF
          rw [if_neg (show ¬ (e < nc ∧ c' = e ∧ z' = z ∧ k' = k) from fun g => ge g.1)]
          by_cases j : (c' * 6 + z') * 3 + k' = (c * 6 + z) * 3 + k
          · have j2 := (ix_inj (c := c) (c' := c') (z := z) (k := k) (by omega) hk hz' hk').mp j
            rw [j, up_at, if_pos j2]; exact iI_eq_of (by omega)
          · rw [up_ne (Or.inr j), if_neg (fun g => j (by rw [g.1, g.2.1, g.2.2])), S8.2.2.2.2 c' z' k' hc' hz' hk']; exact iI_eq_of (by omega)
        · show _ = iI (sm j + if j = 4 then (if e < nc then q.2.2 else q.2.2 + t) else 0)
          by_cases j4 : j = 4
          · subst j4
            rw [up_at, if_pos rfl, if_neg ge]
            refine iI_eq_of ?_
            show sm 4 + (if 4 = 4 then q.2.2 else 0) + t = _
            rw [if_pos rfl]; omega
          · rw [up_ne (Or.inr j4), up_row (by omega), M8 j hj, if_neg j4]
            refine iI_eq_of ?_
            show sm j + (if j = 4 then q.2.2 else 0) = _
            rw [if_neg j4]
      · have ge : e < nc := by omega
        refine t_heapAt ?_
        simp (disch := omega) only [s2, q1, en_ops, en_opc, iI_add, iI_mul, iI_sub, jL_add, jL_mul, iI_le, iI_lt, iI_eq, iI_eq0, iI_lt0, iI_0le, iI_le0, iI_0lt, jL_iI, iI_jL, lc_eq, lc_lt, lc_le, lc_ge, lc_gt, Nat.sub_zero, Nat.zero_le, true_and, and_true, Nat.reduceAdd, Nat.reduceLeDiff]
        refine ⟨(e * 6 + z) * 3 + k, iI_eq_of (by omega), by omega, (e * 6 + z) * 3 + k, iI_eq_of (by omega), by omega, ?_⟩
        have hne : (e * 6 + z) * 3 + k ≠ (c * 6 + z) * 3 + k := by omega
        rw [up_ne (Or.inr hne), S8.2.2.2.2 e z k (by omega) (by omega) hk, iI_add]
        refine ih2 _ _ (Fr.up (Fr.up F8 (Or.inl rfl)) (Or.inl rfl)) ?_ (fun j hj => ?_)
        · refine ⟨by rw [up_row (by omega), up_row (by omega)]; exact S8.1, by rw [up_row (by omega), up_row (by omega)]; exact S8.2.1, y2, y3, fun c' z' k' hc' hz' hk' => ?_⟩
          show _ = iI (haF q.1 nc c e z k t c' z' k')
          unfold haF
          by_cases j0 : (c' * 6 + z') * 3 + k' = (e * 6 + z) * 3 + k
          · have j2 := (ix_inj (c := e) (c' := c') (z := z) (k := k) (by omega) hk hz' hk').mp j0
            rw [j0, up_at, if_neg (show ¬ (c' = c ∧ z' = z ∧ k' = k) from fun g => hce (g.1.symm.trans j2.1)), if_pos ⟨ge, j2⟩]
            obtain ⟨g1, g2, g3⟩ := j2
            subst g1 g2 g3
            rfl
          · rw [up_ne (Or.inr j0), if_neg (show ¬ (e < nc ∧ c' = e ∧ z' = z ∧ k' = k) from fun g => j0 (by rw [g.2.1, g.2.2.1, g.2.2.2]))]
            by_cases j : (c' * 6 + z') * 3 + k' = (c * 6 + z) * 3 + k
            · have j2 := (ix_inj (c := c) (c' := c') (z := z) (k := k) (by omega) hk hz' hk').mp j
              rw [j, up_at, if_pos j2]; exact iI_eq_of (by omega)
            · rw [up_ne (Or.inr j), if_neg (fun g => j (by rw [g.1, g.2.1, g.2.2])), S8.2.2.2.2 c' z' k' hc' hz' hk']; exact iI_eq_of (by omega)
        · show _ = iI (sm j + if j = 4 then (if e < nc then q.2.2 else q.2.2 + t) else 0)
          rw [if_pos ge, up_row (by omega), up_row (by omega), M8 j hj]
end
