def heP (x : Int) : Int := if x < 0 then 0 else if 16 < x then 16 else x
theorem heP_r (x : Int) : 0 ≤ heP x ∧ heP x ≤ 16 := by
  unfold heP
  split
  · omega
  · split <;> omega
abbrev insP (nc : Nat) (fr : Int) (c : Nat) : Prop := (fr = 0 ∧ c + 1 < nc) ∨ (¬ fr = 0 ∧ 0 < c)
def toP (fr : Int) (c : Nat) : Nat := if fr = 0 then c + 1 else c - 1
def cgP (wl : Nat → Int) (fr : Int) (c : Nat) : Int := wl (if fr = 0 then c else c - 1)
def stP (nc : Nat) (wl : Nat → Int) (fr : Int) (c : Nat) (n : Int) : Int := if insP nc fr c then n * cgP wl fr c / 16 else n
def goP (nc : Nat) (wl : Nat → Int) (fr : Int) (c z k : Nat) (n : Int) (c' z' k' : Nat) : Int := (if c' = c ∧ z' = z ∧ k' = k then stP nc wl fr c n else 0) + (if insP nc fr c ∧ c' = toP fr c ∧ z' = z ∧ k' = k then n - stP nc wl fr c n else 0)
def ctP (nc : Nat) (wl : Nat → Int) (fr : Int) (c z k : Nat) (m w : Int) (c' z' k' : Nat) : Int := goP nc wl fr c z k (m - w) c' z' k' + (if z = 0 then 0 else goP nc wl fr c (z - 1) k w c' z' k')
theorem goP_0 {nc : Nat} {wl : Nat → Int} {fr : Int} {c z k c' z' k' : Nat} : goP nc wl fr c z k 0 c' z' k' = 0 := by
  unfold goP stP
  simp
theorem ctP_0 {nc : Nat} {wl : Nat → Int} {fr : Int} {c z k c' z' k' : Nat} : ctP nc wl fr c z k 0 0 c' z' k' = 0 := by
  unfold ctP
  simp [goP_0]
section
variable {G : en_G} {d : Nat} {K : en_K} {a nc nz : Nat} {wl s : Nat → Int} {f ar : Nat → Nat → Nat → Int} {hi : en_I} {hl : en_L} {hr : en_F} {xc xs : Nat}
def aimH (nc : Nat) (wl : Nat → Int) (fr : Int) (c : Nat) (hi : en_I) : Prop := hi 34 3 = iI (if insP nc fr c then (if fr = 0 then 18 else -18) else 0) ∧ hi 34 4 = iI (if insP nc fr c then cgP wl fr c else 0)
def arrH (ar : Nat → Nat → Nat → Int) (hi : en_I) : Prop := ∀ c z k, c < 12 → z < 6 → k < 3 → hi 37 ((c * 6 + z) * 3 + k) = iI (ar c z k)
theorem t_aimFrom {c : Nat} {he bt fr : Int} (hS : seR hr) (hw : wvH he bt fr hi) (hfr : fr = 0 ∨ fr = 1) (ha : isSh a) (hR : shR a hr) (hnc : hi a 0 = iI nc) (hn12 : nc ≤ 12) (hwl : ∀ c, c < 12 → hi (a + 3) c = iI (wl c)) (hc : c < nc)
    (H : ∀ hi', Fr (· = 34) hi hi' → aimH nc wl fr c hi' → K (.inl none) hi' hl hr) : en_Call G (d + 1) xc xs Y_X4_aimFrom wN wN [.ref 34, .ref a, .int (iI c)] hi hl hr K := by
  obtain ⟨s0, s1, s2, s3, s4, s5, s6, s7, s8, s9, s10, s11⟩ := ha.sh
  obtain ⟨r1, r2, r3, r4, r5, r6, r7⟩ := id hR
  obtain ⟨e0, e1, e2⟩ := hS
  obtain ⟨w4, w5, w6⟩ := hw
  have h35 := ha.n35
  have a34 : a ≠ 34 := by rcases ha with rfl | rfl | rfl | rfl | rfl <;> omega
  have a3x : a + 3 ≠ 34 := by rcases ha with rfl | rfl | rfl | rfl | rfl <;> omega
  have q3 : a + 3 < 134 := by omega
  have go : ∀ b : Int, (b = 1 ∧ fr = 0 ∨ b = 0 ∧ fr = 1) → en_V G Y_X4_aimFrom (d + 1) wN wN K 15 [.ref 34, .ref a, .int (iI c), jk] [.int (iI b)] hi hl hr xc xs := by
    intro b hb
    apply s_X4_aimFrom_15
    simp (disch := omega) only [B_X4_aimFrom_15, r3, s0, s1, en_ops, en_opc, iI_add, iI_mul, iI_sub, jL_add, jL_mul, iI_le, iI_lt, iI_eq, iI_eq0, iI_lt0, iI_0le, iI_le0, iI_0lt, jL_iI, iI_jL, lc_eq, lc_lt, lc_le, lc_ge, lc_gt, Nat.sub_zero, Nat.zero_le, true_and, and_true, Nat.reduceAdd, Nat.reduceLeDiff]
    refine ⟨⟨by decide, by decide⟩, ⟨by decide, by decide⟩, ?_⟩
    generalize hg : en_up (en_up hi 34 3 (iI 0)) 34 4 (iI 0) = h2
    have F : Fr (· = 34) hi h2 := by subst hg; exact Fr.up (Fr.up Fr.rf (by rfl)) (by rfl)
    have n2 : h2 a 0 = iI nc := by rw [F a a34]; exact hnc
    have out : ¬ insP nc fr c → K (.inl none) h2 hl hr := fun q => by
      refine H h2 F ?_
      unfold aimH
      rw [if_neg q, if_neg q]
      subst hg
      exact ⟨by rw [up_ne (Or.inr (by omega))]; exact up_at, up_at⟩
    have at59 : (b = 0 ∨ nc ≤ c + 1) → en_V G Y_X4_aimFrom (d + 1) wN wN K 59 [.ref 34, .ref a, .int (iI c), .int (iI b)] [] h2 hl hr xc xs := by
      intro hb2
      apply s_X4_aimFrom_59
      simp (disch := omega) only [B_X4_aimFrom_59, r3, s0, s1, s4, q3, en_ops, en_opc, iI_add, iI_mul, iI_sub, jL_add, jL_mul, iI_le, iI_lt, iI_eq, iI_eq0, iI_lt0, iI_0le, iI_le0, iI_0lt, jL_iI, iI_jL, lc_eq, lc_lt, lc_le, lc_ge, lc_gt, Nat.sub_zero, Nat.zero_le, true_and, and_true, Nat.reduceAdd, Nat.reduceLeDiff]
      refine ⟨fun e => out (fun q => by rcases q with q | q <;> omega), fun e => ⟨fun e2 => out (fun q => by rcases q with q | q <;> omega), fun e2 => ⟨⟨by decide, by decide⟩, c - 1, iI_eq_of (by omega), by omega, ?_⟩⟩⟩
      rw [show en_up h2 34 3 (iI (-18)) (a + 3) (c - 1) = iI (wl (c - 1)) by rw [up_row a3x, F _ a3x]; exact hwl _ (by omega)]
      refine ⟨⟨by decide, by decide⟩, ?_⟩
      refine H _ (Fr.up (Fr.up F (by rfl)) (by rfl)) ?_
      have f1 : ¬ fr = 0 := by omega
      have q : insP nc fr c := Or.inr ⟨f1, by omega⟩
      unfold aimH cgP
      rw [if_pos q, if_pos q, if_neg f1, if_neg f1]
      exact ⟨by rw [up_ne (Or.inr (by omega))]; exact up_at, up_at⟩
    refine ⟨fun e => at59 (Or.inl e), fun e => ?_⟩
    simp (disch := omega) only [n2, en_ops, en_opc, iI_add, iI_mul, iI_sub, jL_add, jL_mul, iI_le, iI_lt, iI_eq, iI_eq0, iI_lt0, iI_0le, iI_le0, iI_0lt, jL_iI, iI_jL, lc_eq, lc_lt, lc_le, lc_ge, lc_gt, Nat.sub_zero, Nat.zero_le, true_and, and_true, Nat.reduceAdd, Nat.reduceLeDiff]
    refine ⟨fun e2 => at59 (Or.inr (by omega)), fun e2 => ⟨⟨by decide, by decide⟩, ?_⟩⟩
    simp (disch := omega) only [s4, q3, en_ops, en_opc, iI_add, iI_mul, iI_sub, jL_add, jL_mul, iI_le, iI_lt, iI_eq, iI_eq0, iI_lt0, iI_0le, iI_le0, iI_0lt, jL_iI, iI_jL, lc_eq, lc_lt, lc_le, lc_ge, lc_gt, Nat.sub_zero, Nat.zero_le, true_and, and_true, Nat.reduceAdd, Nat.reduceLeDiff]
    refine ⟨c, rfl, by omega, ?_⟩
    rw [show en_up h2 34 3 (iI 18) (a + 3) c = iI (wl c) by rw [up_row a3x, F _ a3x]; exact hwl _ (by omega)]
    refine ⟨⟨by decide, by decide⟩, ?_⟩
    refine H _ (Fr.up (Fr.up F (by rfl)) (by rfl)) ?_
    have f1 : fr = 0 := by omega
    have q : insP nc fr c := Or.inl ⟨f1, by omega⟩
    unfold aimH cgP
    rw [if_pos q, if_pos q, if_pos f1, if_pos f1]
    exact ⟨by rw [up_ne (Or.inr (by omega))]; exact up_at, up_at⟩
  apply en_X4_aimFrom
  simp (disch := omega) only [B_X4_aimFrom_0, e0, en_ops, en_opc, iI_add, iI_mul, iI_sub, jL_add, jL_mul, iI_le, iI_lt, iI_eq, iI_eq0, iI_lt0, iI_0le, iI_le0, iI_0lt, jL_iI, iI_jL, lc_eq, lc_lt, lc_le, lc_ge, lc_gt, Nat.sub_zero, Nat.zero_le, true_and, and_true, Nat.reduceAdd, Nat.reduceLeDiff]
  refine ⟨⟨by decide, by decide⟩, 6, rfl, by decide, ⟨by decide, by decide⟩, ?_⟩
  rw [w6]
  simp (disch := omega) only [en_ops, en_opc, iI_add, iI_mul, iI_sub, jL_add, jL_mul, iI_le, iI_lt, iI_eq, iI_eq0, iI_lt0, iI_0le, iI_le0, iI_0lt, jL_iI, iI_jL, lc_eq, lc_lt, lc_le, lc_ge, lc_gt, Nat.sub_zero, Nat.zero_le, true_and, and_true, Nat.reduceAdd, Nat.reduceLeDiff]
  exact ⟨fun e => go 0 (by omega), fun e => go 1 (by omega)⟩
theorem ix_inj {c z k c' z' k' : Nat} (hz : z < 6) (hk : k < 3) (hz' : z' < 6) (hk' : k' < 3) : (c' * 6 + z') * 3 + k' = (c * 6 + z) * 3 + k ↔ c' = c ∧ z' = z ∧ k' = k := by omega
theorem t_arrive {c z k : Nat} {n fr : Int} (hS : seR hr) (haim : aimH nc wl fr c hi) (hA : arrH ar hi) (hn : 0 ≤ n) (hn2 : n ≤ 10000000) (hwl : 0 ≤ cgP wl fr c ∧ cgP wl fr c ≤ 16) (hc : c < nc) (hn12 : nc ≤ 12) (hz : z < 6) (hk : k < 3)
    (H : ∀ hi', Fr (· = 37) hi hi' → arrH (fun c' z' k' => ar c' z' k' + goP nc wl fr c z k n c' z' k') hi' → K (.inl none) hi' hl hr) : en_Call G (d + 1) xc xs Y_X4_arrive wN wN [.ref 34, .int (iI (((c * 6 + z) * 3 + k : Nat) : Int)), .int (iI n)] hi hl hr K := by
  obtain ⟨e0, e1, e2⟩ := hS
  obtain ⟨m0, m1⟩ := haim
  generalize hi0 : (c * 6 + z) * 3 + k = i0
  have b0' : i0 < 216 := by omega
  by_cases q : insP nc fr c
  · rw [if_pos q] at m0 m1
    obtain ⟨t, ht⟩ : ∃ t : Nat, t = (toP fr c * 6 + z) * 3 + k := ⟨_, rfl⟩
    have t1 : t < 216 ∧ (t : Int) = i0 + (if fr = 0 then 18 else -18) := by
      unfold toP at ht
      rcases q with ⟨q1, q2⟩ | ⟨q1, q2⟩
      · rw [if_pos q1] at ht ⊢; omega
      · rw [if_neg q1] at ht ⊢; omega
    have hb := Int.mul_nonneg hn hwl.1
    have hb2 : n * cgP wl fr c ≤ 10000000 * 16 := Int.mul_le_mul hn2 hwl.2 hwl.1 (by omega)
    apply en_X4_arrive
    simp (disch := omega) only [B_X4_arrive_0, m0, m1, e2, en_ops, en_opc, iI_add, iI_mul, iI_sub, jL_add, jL_mul, iI_le, iI_lt, iI_eq, iI_eq0, iI_lt0, iI_0le, iI_le0, iI_0lt, jL_iI, iI_jL, lc_eq, lc_lt, lc_le, lc_ge, lc_gt, Nat.sub_zero, Nat.zero_le, true_and, and_true, Nat.reduceAdd, Nat.reduceLeDiff]
    rw [← t1.2]
    refine ⟨⟨by decide, by decide⟩, fun e => by omega, fun _ => ⟨fun e => by omega, fun _ => ⟨fun e => by omega, fun _ => ⟨fun e => by omega, fun _ => ⟨⟨by decide, by decide⟩, by decide, ?_⟩⟩⟩⟩⟩
    rw [iI_div (by omega) (by omega) (by decide) (by decide)]
    refine ⟨⟨by decide, by decide⟩, i0, rfl, b0', ⟨by decide, by decide⟩, i0, rfl, b0', ⟨by decide, by decide⟩, ⟨by decide, by decide⟩, t, rfl, t1.1, ⟨by decide, by decide⟩, t, rfl, t1.1, ⟨by decide, by decide⟩, ?_⟩
    refine H _ (Fr.up (Fr.up Fr.rf (by rfl)) (by rfl)) (fun c' z' k' hc' hz' hk' => ?_)
    have ne : t ≠ i0 := by split at t1 <;> omega
    have hs : stP nc wl fr c n = n * cgP wl fr c / 16 := if_pos q
    have A1 := hA c z k (by omega) hz hk
    have tl : toP fr c < 12 := by unfold toP; split <;> omega
    have A2 := hA (toP fr c) z k tl hz hk
    have A3 := hA c' z' k' hc' hz' hk'
    rw [hi0] at A1
    rw [← ht] at A2
    show _ = iI (ar c' z' k' + goP nc wl fr c z k n c' z' k')
    unfold goP
    rw [hs]
    by_cases j1 : (c' * 6 + z') * 3 + k' = t
    · have j2 := (ix_inj (c := toP fr c) (c' := c') hz hk hz' hk').mp (by omega)
      rw [j1, up_at, up_ne (Or.inr ne), A2, iI_sub, iI_add, if_neg (show ¬ (c' = c ∧ z' = z ∧ k' = k) from fun g => ne (by rw [← j1, ← hi0, g.1, g.2.1, g.2.2])), if_pos ⟨q, j2⟩]
      obtain ⟨g1, g2, g3⟩ := j2
      subst g1 g2 g3
      exact iI_eq_of (by omega)
    · rw [up_ne (Or.inr j1), if_neg (show ¬ (insP nc fr c ∧ c' = toP fr c ∧ z' = z ∧ k' = k) from fun g => j1 (by obtain ⟨-, g1, g2, g3⟩ := g; rw [g1, g2, g3, ht]))]
      by_cases j3 : (c' * 6 + z') * 3 + k' = i0
      · have j2 := (ix_inj (c := c) (c' := c') hz hk hz' hk').mp (by omega)
        rw [j3, up_at, A1, iI_add, if_pos j2]
        obtain ⟨g1, g2, g3⟩ := j2
        subst g1 g2 g3
        exact iI_eq_of (by omega)
      · rw [up_ne (Or.inr j3), if_neg (fun g => j3 (by obtain ⟨g1, g2, g3⟩ := g; rw [g1, g2, g3, hi0])), A3]
        exact iI_eq_of (by omega)
  · rw [if_neg q] at m0 m1
    apply en_X4_arrive
    simp (disch := omega) only [B_X4_arrive_0, m0, m1, e2, en_ops, en_opc, iI_add, iI_mul, iI_sub, jL_add, jL_mul, iI_le, iI_lt, iI_eq, iI_eq0, iI_lt0, iI_0le, iI_le0, iI_0lt, jL_iI, iI_jL, lc_eq, lc_lt, lc_le, lc_ge, lc_gt, Nat.sub_zero, Nat.zero_le, true_and, and_true, Nat.reduceAdd, Nat.reduceLeDiff]
    refine ⟨⟨by decide, by decide⟩, fun e => by omega, fun _ => ⟨fun e => by omega, fun _ => ⟨fun e => by omega, fun _ => ⟨fun e => by omega, fun _ => ⟨⟨by decide, by decide⟩, by decide, ?_⟩⟩⟩⟩⟩
    rw [iI_div (by omega) (by omega) (by decide) (by decide), show n * 0 / 16 = 0 by omega]
    refine ⟨⟨by decide, by decide⟩, i0, rfl, b0', ⟨by decide, by decide⟩, i0, rfl, b0', ⟨by decide, by decide⟩, ⟨by decide, by decide⟩, i0, iI_eq_of (by omega), b0', ⟨by decide, by decide⟩, i0, iI_eq_of (by omega), b0', ⟨by decide, by decide⟩, ?_⟩
    refine H _ (Fr.up (Fr.up Fr.rf (by rfl)) (by rfl)) (fun c' z' k' hc' hz' hk' => ?_)
    have hs : stP nc wl fr c n = n := if_neg q
    have A1 := hA c z k (by omega) hz hk
    have A3 := hA c' z' k' hc' hz' hk'
    rw [hi0] at A1
    show _ = iI (ar c' z' k' + goP nc wl fr c z k n c' z' k')
    unfold goP
    rw [hs, if_neg (show ¬ (insP nc fr c ∧ c' = toP fr c ∧ z' = z ∧ k' = k) from fun g => q g.1)]
    by_cases j3 : (c' * 6 + z') * 3 + k' = i0
    · have j2 := (ix_inj (c := c) (c' := c') hz hk hz' hk').mp (by omega)
      rw [j3, up_at, up_at, A1, iI_add, iI_sub, iI_add, if_pos j2]
      obtain ⟨g1, g2, g3⟩ := j2
      subst g1 g2 g3
      exact iI_eq_of (by omega)
    · rw [up_ne (Or.inr j3), up_ne (Or.inr j3), if_neg (fun g => j3 (by obtain ⟨g1, g2, g3⟩ := g; rw [g1, g2, g3, hi0])), A3]
      exact iI_eq_of (by omega)
end
