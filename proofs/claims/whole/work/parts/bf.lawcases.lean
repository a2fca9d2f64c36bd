section
variable {G : en_G} {K : en_K} {W : zW} {n i : Nat} {hi : en_I} {hl : en_L} {hr : en_F} {uc us u5 u6 : Nat}
theorem lw_feed (hI : InvC G W hi hr) (hJ : InvR G W hi hr) (hz : zOK n W) (hn : n < 512) (hL : i + 9 ≤ G.2.2.2.2.2.1) (hM : G.2.2.2.2.2.1 ≤ 4608) (g5 : u5 + 5 ≤ uc) (g6 : u6 + 30 ≤ us) (Hx : lHx G K n i u5 u6) : B_L_law__228 G 100 K [.ref 4000000, .ref 0, .ref 110, .ref 133, .int (iI (i : Int)), jk, jk, jk] [] hi hl hr uc us := by
  obtain ⟨v1, w1, y1, ev1⟩ := iI_of (G.2.2.2.2.2.2 (i + 1))
  have gv1 : iRg v1 := ⟨w1, y1⟩
  obtain ⟨v2, w2, y2, ev2⟩ := iI_of (G.2.2.2.2.2.2 (i + 2))
  have gv2 : iRg v2 := ⟨w2, y2⟩
  obtain ⟨v3, w3, y3, ev3⟩ := iI_of (G.2.2.2.2.2.2 (i + 3))
  have gv3 : iRg v3 := ⟨w3, y3⟩
  obtain ⟨v4, w4, y4, ev4⟩ := iI_of (G.2.2.2.2.2.2 (i + 4))
  have gv4 : iRg v4 := ⟨w4, y4⟩
  obtain ⟨v5, w5, y5, ev5⟩ := iI_of (G.2.2.2.2.2.2 (i + 5))
  have gv5 : iRg v5 := ⟨w5, y5⟩
  simp (disch := omega) only [B_L_law__228, sh0, lt0, sh110, lt110, sc_1, sc_2, sc_3, sc_4, sc_5, ev1, ev2, ev3, ev4, ev5, en_ops, en_opl, iI_add, Nat.sub_zero, Nat.zero_le, true_and, and_true, Nat.reduceAdd, Nat.reduceLeDiff]
  refine c_feed (d := 98) hI hz (lc_c0 hJ (fun hi1 hl1 hr1 J1 C1 => ?_))
  simp (disch := omega) only [sh110, lt110, sc_1, sc_2, sc_3, sc_4, sc_5, ev1, ev2, ev3, ev4, ev5, en_ops, en_opl, iI_add, Nat.sub_zero, Nat.zero_le, true_and, and_true, Nat.reduceAdd, Nat.reduceLeDiff]
  refine m_cfeed (d := 99) J1 hz (lc_m0 (by unfold fdW; split <;> first | exact hz.fed (by assumption) | exact hz.mono (Nat.le_succ n)) C1 (fun hi2 C2 J2 => ?_))
  simp (disch := omega) only [en_ops, en_opl, iI_add, Nat.sub_zero, Nat.zero_le, true_and, and_true, Nat.reduceAdd, Nat.reduceLeDiff]
  exact ⟨fun _ => V_5 (Hx _ _ _ _ C2 J2 (by unfold fdW; split <;> first | exact hz.fed (by assumption) | exact hz.mono (Nat.le_succ n))) (by omega) (by omega), fun e9 => (e9 (by first | trivial | rfl)).elim⟩
theorem lw_beach (hI : InvC G W hi hr) (hJ : InvR G W hi hr) (hz : zOK n W) (hn : n < 512) (hL : i + 9 ≤ G.2.2.2.2.2.1) (hM : G.2.2.2.2.2.1 ≤ 4608) (g5 : u5 + 5 ≤ uc) (g6 : u6 + 30 ≤ us) (Hx : lHx G K n i u5 u6) : B_L_law__301 G 100 K [.ref 4000000, .ref 0, .ref 110, .ref 133, .int (iI (i : Int)), jk, jk, jk] [] hi hl hr uc us := by
  obtain ⟨v1, w1, y1, ev1⟩ := iI_of (G.2.2.2.2.2.2 (i + 1))
  have gv1 : iRg v1 := ⟨w1, y1⟩
  simp (disch := omega) only [B_L_law__301, sh0, lt0, sh110, lt110, sc_1, ev1, en_ops, en_opl, iI_add, Nat.sub_zero, Nat.zero_le, true_and, and_true, Nat.reduceAdd, Nat.reduceLeDiff]
  have hcd : ∀ k9, k9 < 4 → (if 0 ≤ v1 ∧ v1 ≤ zNt W then 0 else 3) = k9 + 1 → (fun k => if k = 2 then 1 else 0) k9 = 1 ∧ 1 ≠ 0 ∧ 1 < 5 := by
    intro k9 hk er
    by_cases c1 : 0 ≤ v1 ∧ v1 ≤ zNt W
    · rw [if_pos c1] at er
      try rw [if_pos c1]
      exact absurd er (by omega)
    · rw [if_neg c1] at er
      try rw [if_neg c1]
      obtain rfl : k9 = 2 := by omega
      exact ⟨rfl, by decide, by decide⟩
  refine ⟨by omega, by omega, l_beach (d := 89) hI hz (by decide) (by decide) gv1 (lc_l 1 hJ hcd (fun hi1 hl1 hr1 k5 J1 D1 => ?_))⟩
  simp (disch := omega) only [sh110, lt110, sc_1, ev1, en_ops, en_opl, iI_add, Nat.sub_zero, Nat.zero_le, true_and, and_true, Nat.reduceAdd, Nat.reduceLeDiff]
  refine m_cbeach (d := 92) J1 hz gv1 (lc_m hz (fun _ => hz.beach) D1 (fun hi2 W2 b C2 J2 z2 t2 l5 q2 => ?_))
  rcases q2 with ⟨q1, q2, q3⟩ | ⟨q1, q2⟩
  · subst q2
    exact lT_ok l5 t2 (fun _ => q3) (Hx W2 _ _ _ C2 J2 z2) (by omega) (by omega)
  · subst q2
    exact lT_ok l5 t2 (fun q0 => absurd q0 q1) (Hx W2 _ _ _ C2 J2 z2) (by omega) (by omega)
theorem lw_law (hI : InvC G W hi hr) (hJ : InvR G W hi hr) (hz : zOK n W) (hn : n < 512) (hL : i + 9 ≤ G.2.2.2.2.2.1) (hM : G.2.2.2.2.2.1 ≤ 4608) (g5 : u5 + 5 ≤ uc) (g6 : u6 + 30 ≤ us) (Hx : lHx G K n i u5 u6) : B_L_law__357 G 100 K [.ref 4000000, .ref 0, .ref 110, .ref 133, .int (iI (i : Int)), jk, jk, jk] [] hi hl hr uc us := by
  obtain ⟨v1, w1, y1, ev1⟩ := iI_of (G.2.2.2.2.2.2 (i + 1))
  have gv1 : iRg v1 := ⟨w1, y1⟩
  simp (disch := omega) only [B_L_law__357, sh0, lt0, sh110, lt110, sc_1, ev1, en_ops, en_opl, iI_add, Nat.sub_zero, Nat.zero_le, true_and, and_true, Nat.reduceAdd, Nat.reduceLeDiff]
  have hcd : ∀ k9, k9 < 4 → (if 0 ≤ v1 ∧ v1 ≤ zNt W then 0 else 3) = k9 + 1 → (fun k => if k = 2 then 1 else 0) k9 = 1 ∧ 1 ≠ 0 ∧ 1 < 5 := by
    intro k9 hk er
    by_cases c1 : 0 ≤ v1 ∧ v1 ≤ zNt W
    · rw [if_pos c1] at er
      try rw [if_pos c1]
      exact absurd er (by omega)
    · rw [if_neg c1] at er
      try rw [if_neg c1]
      obtain rfl : k9 = 2 := by omega
      exact ⟨rfl, by decide, by decide⟩
  refine ⟨by omega, by omega, l_law (d := 35) hI hz (by decide) (by decide) gv1 (lc_l 1 hJ hcd (fun hi1 hl1 hr1 k5 J1 D1 => ?_))⟩
  simp (disch := omega) only [sh110, lt110, sc_1, ev1, en_ops, en_opl, iI_add, Nat.sub_zero, Nat.zero_le, true_and, and_true, Nat.reduceAdd, Nat.reduceLeDiff]
  refine m_claw (d := 39) J1 hz gv1 (lc_m hz (fun _ => hz.law) D1 (fun hi2 W2 b C2 J2 z2 t2 l5 q2 => ?_))
  rcases q2 with ⟨q1, q2, q3⟩ | ⟨q1, q2⟩
  · subst q2
    exact lT_ok l5 t2 (fun _ => q3) (Hx W2 _ _ _ C2 J2 z2) (by omega) (by omega)
  · subst q2
    exact lT_ok l5 t2 (fun q0 => absurd q0 q1) (Hx W2 _ _ _ C2 J2 z2) (by omega) (by omega)
theorem lw_year (hI : InvC G W hi hr) (hJ : InvR G W hi hr) (hz : zOK n W) (hn : n < 512) (hL : i + 9 ≤ G.2.2.2.2.2.1) (hM : G.2.2.2.2.2.1 ≤ 4608) (g5 : u5 + 5 ≤ uc) (g6 : u6 + 30 ≤ us) (Hx : lHx G K n i u5 u6) : B_L_law__413 G 100 K [.ref 4000000, .ref 0, .ref 110, .ref 133, .int (iI (i : Int)), jk, jk, jk] [] hi hl hr uc us := by
  obtain ⟨v1, w1, y1, ev1⟩ := iI_of (G.2.2.2.2.2.2 (i + 1))
  have gv1 : iRg v1 := ⟨w1, y1⟩
  simp (disch := omega) only [B_L_law__413, sh0, lt0, sh110, lt110, sc_1, ev1, en_ops, en_opl, iI_add, Nat.sub_zero, Nat.zero_le, true_and, and_true, Nat.reduceAdd, Nat.reduceLeDiff]
  have hcd : ∀ k9, k9 < 4 → (if 0 ≤ v1 ∧ v1 ≤ zNt W then 0 else 3) = k9 + 1 → (fun k => if k = 2 then 1 else 0) k9 = 1 ∧ 1 ≠ 0 ∧ 1 < 5 := by
    intro k9 hk er
    by_cases c1 : 0 ≤ v1 ∧ v1 ≤ zNt W
    · rw [if_pos c1] at er
      try rw [if_pos c1]
      exact absurd er (by omega)
    · rw [if_neg c1] at er
      try rw [if_neg c1]
      obtain rfl : k9 = 2 := by omega
      exact ⟨rfl, by decide, by decide⟩
  refine ⟨by omega, by omega, l_year (d := 89) hI hz (by decide) (by decide) gv1 (lc_l 1 hJ hcd (fun hi1 hl1 hr1 k5 J1 D1 => ?_))⟩
  simp (disch := omega) only [sh110, lt110, sc_1, ev1, en_ops, en_opl, iI_add, Nat.sub_zero, Nat.zero_le, true_and, and_true, Nat.reduceAdd, Nat.reduceLeDiff]
  refine m_cyear (d := 91) J1 hz gv1 (lc_m hz (fun _ => hz.year) D1 (fun hi2 W2 b C2 J2 z2 t2 l5 q2 => ?_))
  rcases q2 with ⟨q1, q2, q3⟩ | ⟨q1, q2⟩
  · subst q2
    exact lT_ok l5 t2 (fun _ => q3) (Hx W2 _ _ _ C2 J2 z2) (by omega) (by omega)
  · subst q2
    exact lT_ok l5 t2 (fun q0 => absurd q0 q1) (Hx W2 _ _ _ C2 J2 z2) (by omega) (by omega)
theorem lw_fault (hI : InvC G W hi hr) (hJ : InvR G W hi hr) (hz : zOK n W) (hn : n < 512) (hL : i + 9 ≤ G.2.2.2.2.2.1) (hM : G.2.2.2.2.2.1 ≤ 4608) (g5 : u5 + 5 ≤ uc) (g6 : u6 + 30 ≤ us) (Hx : lHx G K n i u5 u6) : B_L_law__469 G 100 K [.ref 4000000, .ref 0, .ref 110, .ref 133, .int (iI (i : Int)), jk, jk, jk] [] hi hl hr uc us := by
  simp (disch := omega) only [B_L_law__469, sh0, lt0, sh110, lt110, en_ops, en_opl, iI_add, Nat.sub_zero, Nat.zero_le, true_and, and_true, Nat.reduceAdd, Nat.reduceLeDiff]
  refine c_fault (d := 99) hI (lc_c0 hJ (fun hi1 hl1 hr1 J1 C1 => ?_))
  simp (disch := omega) only [sh110, lt110, en_ops, en_opl, iI_add, Nat.sub_zero, Nat.zero_le, true_and, and_true, Nat.reduceAdd, Nat.reduceLeDiff]
  refine m_cfault (d := 99) J1 (lc_m0 (hz.mono (Nat.le_succ n)) C1 (fun hi2 C2 J2 => ?_))
  simp (disch := omega) only [en_ops, en_opl, iI_add, Nat.sub_zero, Nat.zero_le, true_and, and_true, Nat.reduceAdd, Nat.reduceLeDiff]
  exact ⟨fun _ => V_5 (Hx _ _ _ _ C2 J2 (hz.mono (Nat.le_succ n))) (by omega) (by omega), fun e9 => (e9 (by first | trivial | rfl)).elim⟩
theorem lw_told (hI : InvC G W hi hr) (hJ : InvR G W hi hr) (hz : zOK n W) (hn : n < 512) (hL : i + 9 ≤ G.2.2.2.2.2.1) (hM : G.2.2.2.2.2.1 ≤ 4608) (g5 : u5 + 5 ≤ uc) (g6 : u6 + 30 ≤ us) (Hx : lHx G K n i u5 u6) : B_L_law__482 G 100 K [.ref 4000000, .ref 0, .ref 110, .ref 133, .int (iI (i : Int)), jk, jk, jk] [] hi hl hr uc us := by
  obtain ⟨v1, w1, y1, ev1⟩ := iI_of (G.2.2.2.2.2.2 (i + 1))
  have gv1 : iRg v1 := ⟨w1, y1⟩
  simp (disch := omega) only [B_L_law__482, sh0, lt0, sh110, lt110, sc_1, ev1, en_ops, en_opl, iI_add, Nat.sub_zero, Nat.zero_le, true_and, and_true, Nat.reduceAdd, Nat.reduceLeDiff]
  have hcd : ∀ k9, k9 < 4 → (if 0 ≤ v1 ∧ v1 ≤ 6 then 0 else 3) = k9 + 1 → (fun k => if k = 2 then 1 else 0) k9 = 1 ∧ 1 ≠ 0 ∧ 1 < 5 := by
    intro k9 hk er
    by_cases c1 : 0 ≤ v1 ∧ v1 ≤ 6
    · rw [if_pos c1] at er
      try rw [if_pos c1]
      exact absurd er (by omega)
    · rw [if_neg c1] at er
      try rw [if_neg c1]
      obtain rfl : k9 = 2 := by omega
      exact ⟨rfl, by decide, by decide⟩
  refine ⟨by omega, by omega, l_told (d := 97) hI hz (by decide) (by decide) gv1 (lc_l 1 hJ hcd (fun hi1 hl1 hr1 k5 J1 D1 => ?_))⟩
  simp (disch := omega) only [sh110, lt110, sc_1, ev1, en_ops, en_opl, iI_add, Nat.sub_zero, Nat.zero_le, true_and, and_true, Nat.reduceAdd, Nat.reduceLeDiff]
  refine m_ctold (d := 98) J1 hz gv1 (lc_m hz (fun _ => hz.mono (Nat.le_succ n)) D1 (fun hi2 W2 b C2 J2 z2 t2 l5 q2 => ?_))
  rcases q2 with ⟨q1, q2, q3⟩ | ⟨q1, q2⟩
  · subst q2
    exact lT_ok l5 t2 (fun _ => q3) (Hx W2 _ _ _ C2 J2 z2) (by omega) (by omega)
  · subst q2
    exact lT_ok l5 t2 (fun q0 => absurd q0 q1) (Hx W2 _ _ _ C2 J2 z2) (by omega) (by omega)
theorem lw_stones (hI : InvC G W hi hr) (hJ : InvR G W hi hr) (hz : zOK n W) (hn : n < 512) (hL : i + 9 ≤ G.2.2.2.2.2.1) (hM : G.2.2.2.2.2.1 ≤ 4608) (g5 : u5 + 5 ≤ uc) (g6 : u6 + 30 ≤ us) (Hx : lHx G K n i u5 u6) : B_L_law__538 G 100 K [.ref 4000000, .ref 0, .ref 110, .ref 133, .int (iI (i : Int)), jk, jk, jk] [] hi hl hr uc us := by
  obtain ⟨v1, w1, y1, ev1⟩ := iI_of (G.2.2.2.2.2.2 (i + 1))
  have gv1 : iRg v1 := ⟨w1, y1⟩
  obtain ⟨v2, w2, y2, ev2⟩ := iI_of (G.2.2.2.2.2.2 (i + 2))
  have gv2 : iRg v2 := ⟨w2, y2⟩
  obtain ⟨v3, w3, y3, ev3⟩ := iI_of (G.2.2.2.2.2.2 (i + 3))
  have gv3 : iRg v3 := ⟨w3, y3⟩
  simp (disch := omega) only [B_L_law__538, sh0, lt0, sh110, lt110, sc_1, sc_2, sc_3, ev1, ev2, ev3, en_ops, en_opl, iI_add, Nat.sub_zero, Nat.zero_le, true_and, and_true, Nat.reduceAdd, Nat.reduceLeDiff]
  have hcd : ∀ k9, k9 < 4 → (if v1 = -1 ∨ inC W v1 then if stB W v2 v3 then 0 else 3 else 1) = k9 + 1 → (fun k => if k = 0 then 1 else if k = 2 then 2 else 0) k9 = (if v1 = -1 ∨ inC W v1 then 2 else 1) ∧ (if v1 = -1 ∨ inC W v1 then 2 else 1) ≠ 0 ∧ (if v1 = -1 ∨ inC W v1 then 2 else 1) < 5 := by
    intro k9 hk er
    by_cases c1 : v1 = -1 ∨ inC W v1
    · rw [if_pos c1] at er
      try rw [if_pos c1]
      by_cases c2 : stB W v2 v3
      · rw [if_pos c2] at er
        try rw [if_pos c2]
        exact absurd er (by omega)
      · rw [if_neg c2] at er
        try rw [if_neg c2]
        obtain rfl : k9 = 2 := by omega
        exact ⟨rfl, by decide, by decide⟩
    · rw [if_neg c1] at er
      try rw [if_neg c1]
      obtain rfl : k9 = 0 := by omega
      exact ⟨rfl, by decide, by decide⟩
  refine ⟨by omega, by omega, l_stones (d := 96) hI hz (by decide) (by decide) gv1 gv2 gv3 (lc_l (if v1 = -1 ∨ inC W v1 then 2 else 1) hJ hcd (fun hi1 hl1 hr1 k5 J1 D1 => ?_))⟩
  simp (disch := omega) only [sh110, lt110, sc_1, sc_2, sc_3, ev1, ev2, ev3, en_ops, en_opl, iI_add, Nat.sub_zero, Nat.zero_le, true_and, and_true, Nat.reduceAdd, Nat.reduceLeDiff]
  refine m_cstones (d := 97) J1 hz gv1 gv2 gv3 (lc_m hz (fun _ => hz.mono (Nat.le_succ n)) D1 (fun hi2 W2 b C2 J2 z2 t2 l5 q2 => ?_))
  rcases q2 with ⟨q1, q2, q3⟩ | ⟨q1, q2⟩
  · subst q2
    exact lT_ok l5 t2 (fun _ => q3) (Hx W2 _ _ _ C2 J2 z2) (by omega) (by omega)
  · subst q2
    exact lT_ok l5 t2 (fun q0 => absurd q0 q1) (Hx W2 _ _ _ C2 J2 z2) (by omega) (by omega)
theorem lw_cell (hI : InvC G W hi hr) (hJ : InvR G W hi hr) (hz : zOK n W) (hn : n < 512) (hL : i + 9 ≤ G.2.2.2.2.2.1) (hM : G.2.2.2.2.2.1 ≤ 4608) (g5 : u5 + 5 ≤ uc) (g6 : u6 + 30 ≤ us) (Hx : lHx G K n i u5 u6) : B_L_law__618 G 100 K [.ref 4000000, .ref 0, .ref 110, .ref 133, .int (iI (i : Int)), jk, jk, jk] [] hi hl hr uc us := by
  obtain ⟨v1, w1, y1, ev1⟩ := iI_of (G.2.2.2.2.2.2 (i + 1))
  have gv1 : iRg v1 := ⟨w1, y1⟩
  obtain ⟨v2, w2, y2, ev2⟩ := iI_of (G.2.2.2.2.2.2 (i + 2))
  have gv2 : iRg v2 := ⟨w2, y2⟩
  simp (disch := omega) only [B_L_law__618, sh0, lt0, sh110, lt110, sc_1, sc_2, ev1, ev2, en_ops, en_opl, iI_add, Nat.sub_zero, Nat.zero_le, true_and, and_true, Nat.reduceAdd, Nat.reduceLeDiff]
  have hcd : ∀ k9, k9 < 4 → (if inC W v1 then if 0 ≤ v2 ∧ v2 ≤ 2 then 0 else 3 else 1) = k9 + 1 → (fun k => if k = 0 then 1 else if k = 2 then 2 else 0) k9 = (if inC W v1 then 2 else 1) ∧ (if inC W v1 then 2 else 1) ≠ 0 ∧ (if inC W v1 then 2 else 1) < 5 := by
    intro k9 hk er
    by_cases c1 : inC W v1
    · rw [if_pos c1] at er
      try rw [if_pos c1]
      by_cases c2 : 0 ≤ v2 ∧ v2 ≤ 2
      · rw [if_pos c2] at er
        try rw [if_pos c2]
        exact absurd er (by omega)
      · rw [if_neg c2] at er
        try rw [if_neg c2]
        obtain rfl : k9 = 2 := by omega
        exact ⟨rfl, by decide, by decide⟩
    · rw [if_neg c1] at er
      try rw [if_neg c1]
      obtain rfl : k9 = 0 := by omega
      exact ⟨rfl, by decide, by decide⟩
  refine ⟨by omega, by omega, l_cell (d := 97) hI hz (by decide) (by decide) gv1 gv2 (lc_l (if inC W v1 then 2 else 1) hJ hcd (fun hi1 hl1 hr1 k5 J1 D1 => ?_))⟩
  simp (disch := omega) only [sh110, lt110, sc_1, sc_2, ev1, ev2, en_ops, en_opl, iI_add, Nat.sub_zero, Nat.zero_le, true_and, and_true, Nat.reduceAdd, Nat.reduceLeDiff]
  refine m_ccell (d := 97) J1 hz gv1 gv2 (lc_m hz (fun _ => hz.mono (Nat.le_succ n)) D1 (fun hi2 W2 b C2 J2 z2 t2 l5 q2 => ?_))
  rcases q2 with ⟨q1, q2, q3⟩ | ⟨q1, q2⟩
  · subst q2
    exact lT_ok l5 t2 (fun _ => q3) (Hx W2 _ _ _ C2 J2 z2) (by omega) (by omega)
  · subst q2
    exact lT_ok l5 t2 (fun q0 => absurd q0 q1) (Hx W2 _ _ _ C2 J2 z2) (by omega) (by omega)
theorem lw_put (hI : InvC G W hi hr) (hJ : InvR G W hi hr) (hz : zOK n W) (hn : n < 512) (hL : i + 9 ≤ G.2.2.2.2.2.1) (hM : G.2.2.2.2.2.1 ≤ 4608) (g5 : u5 + 5 ≤ uc) (g6 : u6 + 30 ≤ us) (Hx : lHx G K n i u5 u6) : B_L_law__686 G 100 K [.ref 4000000, .ref 0, .ref 110, .ref 133, .int (iI (i : Int)), jk, jk, jk] [] hi hl hr uc us := by
  obtain ⟨v1, w1, y1, ev1⟩ := iI_of (G.2.2.2.2.2.2 (i + 1))
  have gv1 : iRg v1 := ⟨w1, y1⟩
  obtain ⟨v2, w2, y2, ev2⟩ := iI_of (G.2.2.2.2.2.2 (i + 2))
  have gv2 : iRg v2 := ⟨w2, y2⟩
  obtain ⟨v3, w3, y3, ev3⟩ := iI_of (G.2.2.2.2.2.2 (i + 3))
  have gv3 : iRg v3 := ⟨w3, y3⟩
  obtain ⟨v4, w4, y4, ev4⟩ := iI_of (G.2.2.2.2.2.2 (i + 4))
  have gv4 : iRg v4 := ⟨w4, y4⟩
  simp (disch := omega) only [B_L_law__686, sh0, lt0, sh110, lt110, sc_1, sc_2, sc_3, sc_4, ev1, ev2, ev3, ev4, en_ops, en_opl, iI_add, Nat.sub_zero, Nat.zero_le, true_and, and_true, Nat.reduceAdd, Nat.reduceLeDiff]
  have hcd : ∀ k9, k9 < 4 → (if inC W v1 then if inZ W v2 ∧ (0 ≤ v3 ∧ v3 < 3) ∧ 1 ≤ v4 ∧ v4 ≤ 999 then 0 else 3 else 1) = k9 + 1 → (fun k => if k = 0 then 1 else if k = 2 then 2 else 0) k9 = (if inC W v1 then 2 else 1) ∧ (if inC W v1 then 2 else 1) ≠ 0 ∧ (if inC W v1 then 2 else 1) < 5 := by
    intro k9 hk er
    by_cases c1 : inC W v1
    · rw [if_pos c1] at er
      try rw [if_pos c1]
      by_cases c2 : inZ W v2 ∧ (0 ≤ v3 ∧ v3 < 3) ∧ 1 ≤ v4 ∧ v4 ≤ 999
      · rw [if_pos c2] at er
        try rw [if_pos c2]
        exact absurd er (by omega)
      · rw [if_neg c2] at er
        try rw [if_neg c2]
        obtain rfl : k9 = 2 := by omega
        exact ⟨rfl, by decide, by decide⟩
    · rw [if_neg c1] at er
      try rw [if_neg c1]
      obtain rfl : k9 = 0 := by omega
      exact ⟨rfl, by decide, by decide⟩
  have hz9 : (if inC W v1 then if inZ W v2 ∧ (0 ≤ v3 ∧ v3 < 3) ∧ 1 ≤ v4 ∧ v4 ≤ 999 then 0 else 3 else 1) = 0 → zOK (n + 1) (zPut W (ptQ (zS W).1 v1.toNat v2.toNat v3.toNat v4, (zS W).2)) := by
    intro er
    by_cases c1 : inC W v1
    · rw [if_pos c1] at er
      try rw [if_pos c1]
      by_cases c2 : inZ W v2 ∧ (0 ≤ v3 ∧ v3 < 3) ∧ 1 ≤ v4 ∧ v4 ≤ 999
      · rw [if_pos c2] at er
        try rw [if_pos c2]
        exact hz.pt (by omega) (by omega) (by omega) (by omega) (by omega)
      · rw [if_neg c2] at er
        try rw [if_neg c2]
        exact absurd er (by decide)
    · rw [if_neg c1] at er
      try rw [if_neg c1]
      exact absurd er (by decide)
  refine ⟨by omega, by omega, l_put (d := 97) hI hz (by decide) (by decide) gv1 gv2 gv3 gv4 (lc_l (if inC W v1 then 2 else 1) hJ hcd (fun hi1 hl1 hr1 k5 J1 D1 => ?_))⟩
  simp (disch := omega) only [sh110, lt110, sc_1, sc_2, sc_3, sc_4, ev1, ev2, ev3, ev4, en_ops, en_opl, iI_add, Nat.sub_zero, Nat.zero_le, true_and, and_true, Nat.reduceAdd, Nat.reduceLeDiff]
  refine m_cput (d := 97) J1 hz gv1 gv2 gv3 gv4 (lc_m hz (hz9) D1 (fun hi2 W2 b C2 J2 z2 t2 l5 q2 => ?_))
  rcases q2 with ⟨q1, q2, q3⟩ | ⟨q1, q2⟩
  · subst q2
    exact lT_ok l5 t2 (fun _ => q3) (Hx W2 _ _ _ C2 J2 z2) (by omega) (by omega)
  · subst q2
    exact lT_ok l5 t2 (fun q0 => absurd q0 q1) (Hx W2 _ _ _ C2 J2 z2) (by omega) (by omega)
theorem lw_says (hI : InvC G W hi hr) (hJ : InvR G W hi hr) (hz : zOK n W) (hn : n < 512) (hL : i + 9 ≤ G.2.2.2.2.2.1) (hM : G.2.2.2.2.2.1 ≤ 4608) (g5 : u5 + 5 ≤ uc) (g6 : u6 + 30 ≤ us) (Hx : lHx G K n i u5 u6) : B_L_law__778 G 100 K [.ref 4000000, .ref 0, .ref 110, .ref 133, .int (iI (i : Int)), jk, jk, jk] [] hi hl hr uc us := by
  obtain ⟨v1, w1, y1, ev1⟩ := iI_of (G.2.2.2.2.2.2 (i + 1))
  have gv1 : iRg v1 := ⟨w1, y1⟩
  obtain ⟨v2, w2, y2, ev2⟩ := iI_of (G.2.2.2.2.2.2 (i + 2))
  have gv2 : iRg v2 := ⟨w2, y2⟩
  obtain ⟨v3, w3, y3, ev3⟩ := iI_of (G.2.2.2.2.2.2 (i + 3))
  have gv3 : iRg v3 := ⟨w3, y3⟩
  obtain ⟨v4, w4, y4, ev4⟩ := iI_of (G.2.2.2.2.2.2 (i + 4))
  have gv4 : iRg v4 := ⟨w4, y4⟩
  obtain ⟨v5, w5, y5, ev5⟩ := iI_of (G.2.2.2.2.2.2 (i + 5))
  have gv5 : iRg v5 := ⟨w5, y5⟩
  obtain ⟨v6, w6, y6, ev6⟩ := iI_of (G.2.2.2.2.2.2 (i + 6))
  have gv6 : iRg v6 := ⟨w6, y6⟩
  obtain ⟨v7, w7, y7, ev7⟩ := iI_of (G.2.2.2.2.2.2 (i + 7))
  have gv7 : iRg v7 := ⟨w7, y7⟩
  obtain ⟨v8, w8, y8, ev8⟩ := iI_of (G.2.2.2.2.2.2 (i + 8))
  have gv8 : iRg v8 := ⟨w8, y8⟩
  simp (disch := omega) only [B_L_law__778, sh0, lt0, sh110, lt110, sc_1, sc_2, sc_3, sc_4, sc_5, sc_6, sc_7, sc_8, ev1, ev2, ev3, ev4, ev5, ev6, ev7, ev8, en_ops, en_opl, iI_add, Nat.sub_zero, Nat.zero_le, true_and, and_true, Nat.reduceAdd, Nat.reduceLeDiff]
  by_cases c1 : inC W v3
  · by_cases c2 : inL W v1
    · by_cases c3 : sayB W v2 v4 v5 v6 v7 v8
      · skip
        have hcd : ∀ k9, k9 < 4 → 0 = k9 + 1 → (fun k => k + 1) k9 = 1 ∧ 1 ≠ 0 ∧ 1 < 5 := by
          intro k9 hk er
          exact absurd er (by omega)
        refine ⟨by omega, by omega, l_says (d := 94) hI hz (by decide) (by decide) gv1 gv2 gv3 gv4 gv5 gv6 gv7 gv8 (r := 0) (by intros; first | rfl | contradiction) (by intros; first | rfl | contradiction) (by intros; first | rfl | contradiction) (by intros; first | rfl | contradiction) (by decide) (lc_l 1 hJ hcd (fun hi1 hl1 hr1 k5 J1 D1 => ?_))⟩
        simp (disch := omega) only [sh110, lt110, sc_1, sc_2, sc_3, sc_4, sc_5, sc_6, sc_7, sc_8, ev1, ev2, ev3, ev4, ev5, ev6, ev7, ev8, en_ops, en_opl, iI_add, Nat.sub_zero, Nat.zero_le, true_and, and_true, Nat.reduceAdd, Nat.reduceLeDiff]
        refine m_csays (d := 95) J1 hz gv1 gv2 gv3 gv4 gv5 gv6 gv7 gv8 (r := 0) (cd := 1) (by intros; first | rfl | exact ⟨rfl, rfl⟩ | contradiction) (by intros; first | rfl | exact ⟨rfl, rfl⟩ | contradiction) (by intros; first | rfl | exact ⟨rfl, rfl⟩ | contradiction) (by intros; first | rfl | exact ⟨rfl, rfl⟩ | contradiction) (lc_m hz (fun _ => hz.mono (Nat.le_succ n)) D1 (fun hi2 W2 b C2 J2 z2 t2 l5 q2 => ?_))
        rcases q2 with ⟨q1, q2, q3⟩ | ⟨q1, q2⟩
        · subst q2
          exact lT_ok l5 t2 (fun _ => q3) (Hx W2 _ _ _ C2 J2 z2) (by omega) (by omega)
        · subst q2
          exact lT_ok l5 t2 (fun q0 => absurd q0 q1) (Hx W2 _ _ _ C2 J2 z2) (by omega) (by omega)
      · skip
        have hcd : ∀ k9, k9 < 4 → 3 = k9 + 1 → (fun k => k + 1) k9 = 3 ∧ 3 ≠ 0 ∧ 3 < 5 := by
          intro k9 hk er
          obtain rfl : k9 = 2 := by omega
          exact ⟨rfl, by decide, by decide⟩
        refine ⟨by omega, by omega, l_says (d := 94) hI hz (by decide) (by decide) gv1 gv2 gv3 gv4 gv5 gv6 gv7 gv8 (r := 3) (by intros; first | rfl | contradiction) (by intros; first | rfl | contradiction) (by intros; first | rfl | contradiction) (by intros; first | rfl | contradiction) (by decide) (lc_l 3 hJ hcd (fun hi1 hl1 hr1 k5 J1 D1 => ?_))⟩
        simp (disch := omega) only [sh110, lt110, sc_1, sc_2, sc_3, sc_4, sc_5, sc_6, sc_7, sc_8, ev1, ev2, ev3, ev4, ev5, ev6, ev7, ev8, en_ops, en_opl, iI_add, Nat.sub_zero, Nat.zero_le, true_and, and_true, Nat.reduceAdd, Nat.reduceLeDiff]
        refine m_csays (d := 95) J1 hz gv1 gv2 gv3 gv4 gv5 gv6 gv7 gv8 (r := 3) (cd := 3) (by intros; first | rfl | exact ⟨rfl, rfl⟩ | contradiction) (by intros; first | rfl | exact ⟨rfl, rfl⟩ | contradiction) (by intros; first | rfl | exact ⟨rfl, rfl⟩ | contradiction) (by intros; first | rfl | exact ⟨rfl, rfl⟩ | contradiction) (lc_m hz (fun _ => hz.mono (Nat.le_succ n)) D1 (fun hi2 W2 b C2 J2 z2 t2 l5 q2 => ?_))
        rcases q2 with ⟨q1, q2, q3⟩ | ⟨q1, q2⟩
        · subst q2
          exact lT_ok l5 t2 (fun _ => q3) (Hx W2 _ _ _ C2 J2 z2) (by omega) (by omega)
        · subst q2
          exact lT_ok l5 t2 (fun q0 => absurd q0 q1) (Hx W2 _ _ _ C2 J2 z2) (by omega) (by omega)
    · skip
      have hcd : ∀ k9, k9 < 4 → 2 = k9 + 1 → (fun k => k + 1) k9 = 2 ∧ 2 ≠ 0 ∧ 2 < 5 := by
        intro k9 hk er
        obtain rfl : k9 = 1 := by omega
        exact ⟨rfl, by decide, by decide⟩
      refine ⟨by omega, by omega, l_says (d := 94) hI hz (by decide) (by decide) gv1 gv2 gv3 gv4 gv5 gv6 gv7 gv8 (r := 2) (by intros; first | rfl | contradiction) (by intros; first | rfl | contradiction) (by intros; first | rfl | contradiction) (by intros; first | rfl | contradiction) (by decide) (lc_l 2 hJ hcd (fun hi1 hl1 hr1 k5 J1 D1 => ?_))⟩
      simp (disch := omega) only [sh110, lt110, sc_1, sc_2, sc_3, sc_4, sc_5, sc_6, sc_7, sc_8, ev1, ev2, ev3, ev4, ev5, ev6, ev7, ev8, en_ops, en_opl, iI_add, Nat.sub_zero, Nat.zero_le, true_and, and_true, Nat.reduceAdd, Nat.reduceLeDiff]
      refine m_csays (d := 95) J1 hz gv1 gv2 gv3 gv4 gv5 gv6 gv7 gv8 (r := 2) (cd := 2) (by intros; first | rfl | exact ⟨rfl, rfl⟩ | contradiction) (by intros; first | rfl | exact ⟨rfl, rfl⟩ | contradiction) (by intros; first | rfl | exact ⟨rfl, rfl⟩ | contradiction) (by intros; first | rfl | exact ⟨rfl, rfl⟩ | contradiction) (lc_m hz (fun _ => hz.mono (Nat.le_succ n)) D1 (fun hi2 W2 b C2 J2 z2 t2 l5 q2 => ?_))
      rcases q2 with ⟨q1, q2, q3⟩ | ⟨q1, q2⟩
      · subst q2
        exact lT_ok l5 t2 (fun _ => q3) (Hx W2 _ _ _ C2 J2 z2) (by omega) (by omega)
      · subst q2
        exact lT_ok l5 t2 (fun q0 => absurd q0 q1) (Hx W2 _ _ _ C2 J2 z2) (by omega) (by omega)
  · skip
    have hcd : ∀ k9, k9 < 4 → 1 = k9 + 1 → (fun k => k + 1) k9 = 1 ∧ 1 ≠ 0 ∧ 1 < 5 := by
      intro k9 hk er
      obtain rfl : k9 = 0 := by omega
      exact ⟨rfl, by decide, by decide⟩
    refine ⟨by omega, by omega, l_says (d := 94) hI hz (by decide) (by decide) gv1 gv2 gv3 gv4 gv5 gv6 gv7 gv8 (r := 1) (by intros; first | rfl | contradiction) (by intros; first | rfl | contradiction) (by intros; first | rfl | contradiction) (by intros; first | rfl | contradiction) (by decide) (lc_l 1 hJ hcd (fun hi1 hl1 hr1 k5 J1 D1 => ?_))⟩
    simp (disch := omega) only [sh110, lt110, sc_1, sc_2, sc_3, sc_4, sc_5, sc_6, sc_7, sc_8, ev1, ev2, ev3, ev4, ev5, ev6, ev7, ev8, en_ops, en_opl, iI_add, Nat.sub_zero, Nat.zero_le, true_and, and_true, Nat.reduceAdd, Nat.reduceLeDiff]
    refine m_csays (d := 95) J1 hz gv1 gv2 gv3 gv4 gv5 gv6 gv7 gv8 (r := 1) (cd := 1) (by intros; first | rfl | exact ⟨rfl, rfl⟩ | contradiction) (by intros; first | rfl | exact ⟨rfl, rfl⟩ | contradiction) (by intros; first | rfl | exact ⟨rfl, rfl⟩ | contradiction) (by intros; first | rfl | exact ⟨rfl, rfl⟩ | contradiction) (lc_m hz (fun _ => hz.mono (Nat.le_succ n)) D1 (fun hi2 W2 b C2 J2 z2 t2 l5 q2 => ?_))
    rcases q2 with ⟨q1, q2, q3⟩ | ⟨q1, q2⟩
    · subst q2
      exact lT_ok l5 t2 (fun _ => q3) (Hx W2 _ _ _ C2 J2 z2) (by omega) (by omega)
    · subst q2
      exact lT_ok l5 t2 (fun q0 => absurd q0 q1) (Hx W2 _ _ _ C2 J2 z2) (by omega) (by omega)
theorem lw_wave (hI : InvC G W hi hr) (hJ : InvR G W hi hr) (hz : zOK n W) (hn : n < 512) (hL : i + 9 ≤ G.2.2.2.2.2.1) (hM : G.2.2.2.2.2.1 ≤ 4608) (g5 : u5 + 5 ≤ uc) (g6 : u6 + 30 ≤ us) (Hx : lHx G K n i u5 u6) : B_L_law__924 G 100 K [.ref 4000000, .ref 0, .ref 110, .ref 133, .int (iI (i : Int)), jk, jk, jk] [] hi hl hr uc us := by
  obtain ⟨v1, w1, y1, ev1⟩ := iI_of (G.2.2.2.2.2.2 (i + 1))
  have gv1 : iRg v1 := ⟨w1, y1⟩
  obtain ⟨v2, w2, y2, ev2⟩ := iI_of (G.2.2.2.2.2.2 (i + 2))
  have gv2 : iRg v2 := ⟨w2, y2⟩
  obtain ⟨v3, w3, y3, ev3⟩ := iI_of (G.2.2.2.2.2.2 (i + 3))
  have gv3 : iRg v3 := ⟨w3, y3⟩
  obtain ⟨v4, w4, y4, ev4⟩ := iI_of (G.2.2.2.2.2.2 (i + 4))
  have gv4 : iRg v4 := ⟨w4, y4⟩
  simp (disch := omega) only [B_L_law__924, sh0, lt0, sh110, lt110, sc_1, sc_2, sc_3, sc_4, ev1, ev2, ev3, ev4, en_ops, en_opl, iI_add, Nat.sub_zero, Nat.zero_le, true_and, and_true, Nat.reduceAdd, Nat.reduceLeDiff]
  by_cases c1 : inL W v1
  · by_cases c2 : wvB v2 v3 v4
    · by_cases c3 : isNow W
      · skip
        have hcd : ∀ k9, k9 < 4 → 0 = k9 + 1 → (fun k => k) k9 = 1 ∧ 1 ≠ 0 ∧ 1 < 5 := by
          intro k9 hk er
          exact absurd er (by omega)
        refine ⟨by omega, by omega, l_wave (d := 92) hI hz (by omega) (by decide) (by decide) gv1 gv2 gv3 gv4 (r := 0) (by intros; first | rfl | contradiction) (by intros; first | rfl | contradiction) (by intros; first | rfl | contradiction) (by intros; first | rfl | contradiction) (by decide) (lc_l 1 hJ hcd (fun hi1 hl1 hr1 k5 J1 D1 => ?_))⟩
        simp (disch := omega) only [sh110, lt110, sc_1, sc_2, sc_3, sc_4, ev1, ev2, ev3, ev4, en_ops, en_opl, iI_add, Nat.sub_zero, Nat.zero_le, true_and, and_true, Nat.reduceAdd, Nat.reduceLeDiff]
        refine m_cwave (d := 93) J1 hz (by omega) gv1 gv2 gv3 gv4 (r := 0) (code := 1) (by intros; first | rfl | exact ⟨rfl, rfl⟩ | contradiction) (by intros; first | rfl | exact ⟨rfl, rfl⟩ | contradiction) (by intros; first | rfl | exact ⟨rfl, rfl⟩ | contradiction) (by intros; first | rfl | exact ⟨rfl, rfl⟩ | contradiction) (lc_m hz (fun _ => hz.hw (by omega) (by omega) c3 (exOK.e hz.2.2.2.2.2.2.1 hz.2.2.2.2.1 (by omega))) D1 (fun hi2 W2 b C2 J2 z2 t2 l5 q2 => ?_))
        rcases q2 with ⟨q1, q2, q3⟩ | ⟨q1, q2⟩
        · subst q2
          exact lT_ok l5 t2 (fun _ => q3) (Hx W2 _ _ _ C2 J2 z2) (by omega) (by omega)
        · subst q2
          exact lT_ok l5 t2 (fun q0 => absurd q0 q1) (Hx W2 _ _ _ C2 J2 z2) (by omega) (by omega)
      · skip
        have hcd : ∀ k9, k9 < 4 → 4 = k9 + 1 → (fun k => k) k9 = 3 ∧ 3 ≠ 0 ∧ 3 < 5 := by
          intro k9 hk er
          obtain rfl : k9 = 3 := by omega
          exact ⟨rfl, by decide, by decide⟩
        refine ⟨by omega, by omega, l_wave (d := 92) hI hz (by omega) (by decide) (by decide) gv1 gv2 gv3 gv4 (r := 4) (by intros; first | rfl | contradiction) (by intros; first | rfl | contradiction) (by intros; first | rfl | contradiction) (by intros; first | rfl | contradiction) (by decide) (lc_l 3 hJ hcd (fun hi1 hl1 hr1 k5 J1 D1 => ?_))⟩
        simp (disch := omega) only [sh110, lt110, sc_1, sc_2, sc_3, sc_4, ev1, ev2, ev3, ev4, en_ops, en_opl, iI_add, Nat.sub_zero, Nat.zero_le, true_and, and_true, Nat.reduceAdd, Nat.reduceLeDiff]
        refine m_cwave (d := 93) J1 hz (by omega) gv1 gv2 gv3 gv4 (r := 4) (code := 3) (by intros; first | rfl | exact ⟨rfl, rfl⟩ | contradiction) (by intros; first | rfl | exact ⟨rfl, rfl⟩ | contradiction) (by intros; first | rfl | exact ⟨rfl, rfl⟩ | contradiction) (by intros; first | rfl | exact ⟨rfl, rfl⟩ | contradiction) (lc_m hz (fun e9 => absurd e9 (by decide)) D1 (fun hi2 W2 b C2 J2 z2 t2 l5 q2 => ?_))
        rcases q2 with ⟨q1, q2, q3⟩ | ⟨q1, q2⟩
        · subst q2
          exact lT_ok l5 t2 (fun _ => q3) (Hx W2 _ _ _ C2 J2 z2) (by omega) (by omega)
        · subst q2
          exact lT_ok l5 t2 (fun q0 => absurd q0 q1) (Hx W2 _ _ _ C2 J2 z2) (by omega) (by omega)
    · skip
      have hcd : ∀ k9, k9 < 4 → 3 = k9 + 1 → (fun k => k) k9 = 2 ∧ 2 ≠ 0 ∧ 2 < 5 := by
        intro k9 hk er
        obtain rfl : k9 = 2 := by omega
        exact ⟨rfl, by decide, by decide⟩
      refine ⟨by omega, by omega, l_wave (d := 92) hI hz (by omega) (by decide) (by decide) gv1 gv2 gv3 gv4 (r := 3) (by intros; first | rfl | contradiction) (by intros; first | rfl | contradiction) (by intros; first | rfl | contradiction) (by intros; first | rfl | contradiction) (by decide) (lc_l 2 hJ hcd (fun hi1 hl1 hr1 k5 J1 D1 => ?_))⟩
      simp (disch := omega) only [sh110, lt110, sc_1, sc_2, sc_3, sc_4, ev1, ev2, ev3, ev4, en_ops, en_opl, iI_add, Nat.sub_zero, Nat.zero_le, true_and, and_true, Nat.reduceAdd, Nat.reduceLeDiff]
      refine m_cwave (d := 93) J1 hz (by omega) gv1 gv2 gv3 gv4 (r := 3) (code := 2) (by intros; first | rfl | exact ⟨rfl, rfl⟩ | contradiction) (by intros; first | rfl | exact ⟨rfl, rfl⟩ | contradiction) (by intros; first | rfl | exact ⟨rfl, rfl⟩ | contradiction) (by intros; first | rfl | exact ⟨rfl, rfl⟩ | contradiction) (lc_m hz (fun e9 => absurd e9 (by decide)) D1 (fun hi2 W2 b C2 J2 z2 t2 l5 q2 => ?_))
      rcases q2 with ⟨q1, q2, q3⟩ | ⟨q1, q2⟩
      · subst q2
        exact lT_ok l5 t2 (fun _ => q3) (Hx W2 _ _ _ C2 J2 z2) (by omega) (by omega)
      · subst q2
        exact lT_ok l5 t2 (fun q0 => absurd q0 q1) (Hx W2 _ _ _ C2 J2 z2) (by omega) (by omega)
  · skip
    have hcd : ∀ k9, k9 < 4 → 2 = k9 + 1 → (fun k => k) k9 = 1 ∧ 1 ≠ 0 ∧ 1 < 5 := by
      intro k9 hk er
      obtain rfl : k9 = 1 := by omega
      exact ⟨rfl, by decide, by decide⟩
    refine ⟨by omega, by omega, l_wave (d := 92) hI hz (by omega) (by decide) (by decide) gv1 gv2 gv3 gv4 (r := 2) (by intros; first | rfl | contradiction) (by intros; first | rfl | contradiction) (by intros; first | rfl | contradiction) (by intros; first | rfl | contradiction) (by decide) (lc_l 1 hJ hcd (fun hi1 hl1 hr1 k5 J1 D1 => ?_))⟩
    simp (disch := omega) only [sh110, lt110, sc_1, sc_2, sc_3, sc_4, ev1, ev2, ev3, ev4, en_ops, en_opl, iI_add, Nat.sub_zero, Nat.zero_le, true_and, and_true, Nat.reduceAdd, Nat.reduceLeDiff]
    refine m_cwave (d := 93) J1 hz (by omega) gv1 gv2 gv3 gv4 (r := 2) (code := 1) (by intros; first | rfl | exact ⟨rfl, rfl⟩ | contradiction) (by intros; first | rfl | exact ⟨rfl, rfl⟩ | contradiction) (by intros; first | rfl | exact ⟨rfl, rfl⟩ | contradiction) (by intros; first | rfl | exact ⟨rfl, rfl⟩ | contradiction) (lc_m hz (fun e9 => absurd e9 (by decide)) D1 (fun hi2 W2 b C2 J2 z2 t2 l5 q2 => ?_))
    rcases q2 with ⟨q1, q2, q3⟩ | ⟨q1, q2⟩
    · subst q2
      exact lT_ok l5 t2 (fun _ => q3) (Hx W2 _ _ _ C2 J2 z2) (by omega) (by omega)
    · subst q2
      exact lT_ok l5 t2 (fun q0 => absurd q0 q1) (Hx W2 _ _ _ C2 J2 z2) (by omega) (by omega)
theorem lw_run (hI : InvC G W hi hr) (hJ : InvR G W hi hr) (hz : zOK n W) (hn : n < 512) (hL : i + 9 ≤ G.2.2.2.2.2.1) (hM : G.2.2.2.2.2.1 ≤ 4608) (g5 : u5 + 5 ≤ uc) (g6 : u6 + 30 ≤ us) (Hx : lHx G K n i u5 u6) : B_L_law__1016 G 100 K [.ref 4000000, .ref 0, .ref 110, .ref 133, .int (iI (i : Int)), jk, jk, jk] [] hi hl hr uc us := by
  obtain ⟨v1, w1, y1, ev1⟩ := iI_of (G.2.2.2.2.2.2 (i + 1))
  have gv1 : iRg v1 := ⟨w1, y1⟩
  obtain ⟨v2, w2, y2, ev2⟩ := iI_of (G.2.2.2.2.2.2 (i + 2))
  have gv2 : iRg v2 := ⟨w2, y2⟩
  simp (disch := omega) only [B_L_law__1016, sh0, lt0, sh110, lt110, sc_1, sc_2, ev1, ev2, en_ops, en_opl, iI_add, Nat.sub_zero, Nat.zero_le, true_and, and_true, Nat.reduceAdd, Nat.reduceLeDiff]
  have hcd : ∀ k9, k9 < 4 → (if inL W v1 then if inY W v2 then if isNow W then 0 else 4 else 2 else 2) = k9 + 1 → (fun k => if k = 1 then 1 else if k = 3 then 2 else 0) k9 = (if inL W v1 then if inY W v2 then 2 else 1 else 1) ∧ (if inL W v1 then if inY W v2 then 2 else 1 else 1) ≠ 0 ∧ (if inL W v1 then if inY W v2 then 2 else 1 else 1) < 5 := by
    intro k9 hk er
    by_cases c1 : inL W v1
    · rw [if_pos c1] at er
      try rw [if_pos c1]
      by_cases c2 : inY W v2
      · rw [if_pos c2] at er
        try rw [if_pos c2]
        by_cases c3 : isNow W
        · rw [if_pos c3] at er
          try rw [if_pos c3]
          exact absurd er (by omega)
        · rw [if_neg c3] at er
          try rw [if_neg c3]
          obtain rfl : k9 = 3 := by omega
          exact ⟨rfl, by decide, by decide⟩
      · rw [if_neg c2] at er
        try rw [if_neg c2]
        obtain rfl : k9 = 1 := by omega
        exact ⟨rfl, by decide, by decide⟩
    · rw [if_neg c1] at er
      try rw [if_neg c1]
      obtain rfl : k9 = 1 := by omega
      exact ⟨rfl, by decide, by decide⟩
  have hz9 : (if inL W v1 then if inY W v2 then if isNow W then 0 else 4 else 2 else 2) = 0 → zOK (n + 1) (zPut W (yrP (eL W v1.toNat) (zYs W v2.toNat).2 (zYs W v2.toNat).1 (zS W).1, (zS W).2)) := by
    intro er
    by_cases c1 : inL W v1
    · rw [if_pos c1] at er
      try rw [if_pos c1]
      by_cases c2 : inY W v2
      · rw [if_pos c2] at er
        try rw [if_pos c2]
        by_cases c3 : isNow W
        · rw [if_pos c3] at er
          try rw [if_pos c3]
          exact hz.yr (by omega) c3 (exOK.e hz.2.2.2.2.2.2.1 hz.2.2.2.2.1 (by omega))
        · rw [if_neg c3] at er
          try rw [if_neg c3]
          exact absurd er (by decide)
      · rw [if_neg c2] at er
        try rw [if_neg c2]
        exact absurd er (by decide)
    · rw [if_neg c1] at er
      try rw [if_neg c1]
      exact absurd er (by decide)
  refine ⟨by omega, by omega, l_run (d := 90) hI hz (by omega) (by decide) (by decide) gv1 gv2 (lc_l (if inL W v1 then if inY W v2 then 2 else 1 else 1) hJ hcd (fun hi1 hl1 hr1 k5 J1 D1 => ?_))⟩
  simp (disch := omega) only [sh110, lt110, sc_1, sc_2, ev1, ev2, en_ops, en_opl, iI_add, Nat.sub_zero, Nat.zero_le, true_and, and_true, Nat.reduceAdd, Nat.reduceLeDiff]
  refine m_crun (d := 92) J1 hz (by omega) gv1 gv2 (lc_m hz (hz9) D1 (fun hi2 W2 b C2 J2 z2 t2 l5 q2 => ?_))
  rcases q2 with ⟨q1, q2, q3⟩ | ⟨q1, q2⟩
  · subst q2
    exact lT_ok l5 t2 (fun _ => q3) (Hx W2 _ _ _ C2 J2 z2) (by omega) (by omega)
  · subst q2
    exact lT_ok l5 t2 (fun q0 => absurd q0 q1) (Hx W2 _ _ _ C2 J2 z2) (by omega) (by omega)
theorem lw_lots (hI : InvC G W hi hr) (hJ : InvR G W hi hr) (hz : zOK n W) (hn : n < 512) (hL : i + 9 ≤ G.2.2.2.2.2.1) (hM : G.2.2.2.2.2.1 ≤ 4608) (g5 : u5 + 5 ≤ uc) (g6 : u6 + 30 ≤ us) (Hx : lHx G K n i u5 u6) : B_L_law__1084 G 100 K [.ref 4000000, .ref 0, .ref 110, .ref 133, .int (iI (i : Int)), jk, jk, jk] [] hi hl hr uc us := by
  obtain ⟨v1, w1, y1, ev1⟩ := iI_of (G.2.2.2.2.2.2 (i + 1))
  have gv1 : iRg v1 := ⟨w1, y1⟩
  obtain ⟨v2, w2, y2, ev2⟩ := iI_of (G.2.2.2.2.2.2 (i + 2))
  have gv2 : iRg v2 := ⟨w2, y2⟩
  obtain ⟨v3, w3, y3, ev3⟩ := iI_of (G.2.2.2.2.2.2 (i + 3))
  have gv3 : iRg v3 := ⟨w3, y3⟩
  obtain ⟨v4, w4, y4, ev4⟩ := iI_of (G.2.2.2.2.2.2 (i + 4))
  have gv4 : iRg v4 := ⟨w4, y4⟩
  simp (disch := omega) only [B_L_law__1084, sh0, lt0, sh110, lt110, sc_1, sc_2, sc_3, sc_4, ev1, ev2, ev3, ev4, en_ops, en_opl, iI_add, Nat.sub_zero, Nat.zero_le, true_and, and_true, Nat.reduceAdd, Nat.reduceLeDiff]
  have hcd : ∀ k9, k9 < 4 → (if inL W v1 then if inY W v2 then if 1 ≤ v3 ∧ v3 ≤ 200 then if isNow W then 0 else 4 else 3 else 2 else 2) = k9 + 1 → (fun k => if k = 1 then 1 else if k = 2 then 2 else if k = 3 then 3 else 0) k9 = (if inL W v1 then if inY W v2 then if 1 ≤ v3 ∧ v3 ≤ 200 then 3 else 2 else 1 else 1) ∧ (if inL W v1 then if inY W v2 then if 1 ≤ v3 ∧ v3 ≤ 200 then 3 else 2 else 1 else 1) ≠ 0 ∧ (if inL W v1 then if inY W v2 then if 1 ≤ v3 ∧ v3 ≤ 200 then 3 else 2 else 1 else 1) < 5 := by
    intro k9 hk er
    by_cases c1 : inL W v1
    · rw [if_pos c1] at er
      try rw [if_pos c1]
      by_cases c2 : inY W v2
      · rw [if_pos c2] at er
        try rw [if_pos c2]
        by_cases c3 : 1 ≤ v3 ∧ v3 ≤ 200
        · rw [if_pos c3] at er
          try rw [if_pos c3]
          by_cases c4 : isNow W
          · rw [if_pos c4] at er
            try rw [if_pos c4]
            exact absurd er (by omega)
          · rw [if_neg c4] at er
            try rw [if_neg c4]
            obtain rfl : k9 = 3 := by omega
            exact ⟨rfl, by decide, by decide⟩
        · rw [if_neg c3] at er
          try rw [if_neg c3]
          obtain rfl : k9 = 2 := by omega
          exact ⟨rfl, by decide, by decide⟩
      · rw [if_neg c2] at er
        try rw [if_neg c2]
        obtain rfl : k9 = 1 := by omega
        exact ⟨rfl, by decide, by decide⟩
    · rw [if_neg c1] at er
      try rw [if_neg c1]
      obtain rfl : k9 = 1 := by omega
      exact ⟨rfl, by decide, by decide⟩
  have hz9 : (if inL W v1 then if inY W v2 then if 1 ≤ v3 ∧ v3 ≤ 200 then if isNow W then 0 else 4 else 3 else 2 else 2) = 0 → zOK (n + 1) (zPut W ((lzP (eL W v1.toNat) (zYs W v2.toNat).2 (zYs W v2.toNat).1 v3.toNat (iI v4, (zS W).1)).2, (zS W).2)) := by
    intro er
    by_cases c1 : inL W v1
    · rw [if_pos c1] at er
      try rw [if_pos c1]
      by_cases c2 : inY W v2
      · rw [if_pos c2] at er
        try rw [if_pos c2]
        by_cases c3 : 1 ≤ v3 ∧ v3 ≤ 200
        · rw [if_pos c3] at er
          try rw [if_pos c3]
          by_cases c4 : isNow W
          · rw [if_pos c4] at er
            try rw [if_pos c4]
            exact hz.lz (by omega) c4 (exOK.e hz.2.2.2.2.2.2.1 hz.2.2.2.2.1 (by omega))
          · rw [if_neg c4] at er
            try rw [if_neg c4]
            exact absurd er (by decide)
        · rw [if_neg c3] at er
          try rw [if_neg c3]
          exact absurd er (by decide)
      · rw [if_neg c2] at er
        try rw [if_neg c2]
        exact absurd er (by decide)
    · rw [if_neg c1] at er
      try rw [if_neg c1]
      exact absurd er (by decide)
  refine ⟨by omega, by omega, l_lots (d := 90) hI hz (by omega) (by decide) (by decide) gv1 gv2 gv3 (lc_l (if inL W v1 then if inY W v2 then if 1 ≤ v3 ∧ v3 ≤ 200 then 3 else 2 else 1 else 1) hJ hcd (fun hi1 hl1 hr1 k5 J1 D1 => ?_))⟩
  simp (disch := omega) only [sh110, lt110, sc_1, sc_2, sc_3, sc_4, ev1, ev2, ev3, ev4, en_ops, en_opl, iI_add, Nat.sub_zero, Nat.zero_le, true_and, and_true, Nat.reduceAdd, Nat.reduceLeDiff]
  refine m_clots (d := 91) J1 hz (by omega) gv1 gv2 gv3 (lc_m hz (hz9) D1 (fun hi2 W2 b C2 J2 z2 t2 l5 q2 => ?_))
  rcases q2 with ⟨q1, q2, q3⟩ | ⟨q1, q2⟩
  · subst q2
    exact lT_ok l5 t2 (fun _ => q3) (Hx W2 _ _ _ C2 J2 z2) (by omega) (by omega)
  · subst q2
    exact lT_ok l5 t2 (fun q0 => absurd q0 q1) (Hx W2 _ _ _ C2 J2 z2) (by omega) (by omega)
theorem lw_mean (hI : InvC G W hi hr) (hJ : InvR G W hi hr) (hz : zOK n W) (hn : n < 512) (hL : i + 9 ≤ G.2.2.2.2.2.1) (hM : G.2.2.2.2.2.1 ≤ 4608) (g5 : u5 + 5 ≤ uc) (g6 : u6 + 30 ≤ us) (Hx : lHx G K n i u5 u6) : B_L_law__1176 G 100 K [.ref 4000000, .ref 0, .ref 110, .ref 133, .int (iI (i : Int)), jk, jk, jk] [] hi hl hr uc us := by
  obtain ⟨v1, w1, y1, ev1⟩ := iI_of (G.2.2.2.2.2.2 (i + 1))
  have gv1 : iRg v1 := ⟨w1, y1⟩
  simp (disch := omega) only [B_L_law__1176, sh0, lt0, sh110, lt110, sc_1, ev1, en_ops, en_opl, iI_add, Nat.sub_zero, Nat.zero_le, true_and, and_true, Nat.reduceAdd, Nat.reduceLeDiff]
  have hcd : ∀ k9, k9 < 4 → (if inC W v1 then 0 else 1) = k9 + 1 → (fun k => if k = 0 then 1 else 0) k9 = 1 ∧ 1 ≠ 0 ∧ 1 < 5 := by
    intro k9 hk er
    by_cases c1 : inC W v1
    · rw [if_pos c1] at er
      try rw [if_pos c1]
      exact absurd er (by omega)
    · rw [if_neg c1] at er
      try rw [if_neg c1]
      obtain rfl : k9 = 0 := by omega
      exact ⟨rfl, by decide, by decide⟩
  refine ⟨by omega, by omega, l_mean (d := 95) hI hz (by decide) (by decide) gv1 (lc_l 1 hJ hcd (fun hi1 hl1 hr1 k5 J1 D1 => ?_))⟩
  simp (disch := omega) only [sh110, lt110, sc_1, ev1, en_ops, en_opl, iI_add, Nat.sub_zero, Nat.zero_le, true_and, and_true, Nat.reduceAdd, Nat.reduceLeDiff]
  refine m_cmean (d := 95) J1 hz gv1 (lc_m hz (fun _ => hz.mono (Nat.le_succ n)) D1 (fun hi2 W2 b C2 J2 z2 t2 l5 q2 => ?_))
  rcases q2 with ⟨q1, q2, q3⟩ | ⟨q1, q2⟩
  · subst q2
    exact lT_ok l5 t2 (fun _ => q3) (Hx W2 _ _ _ C2 J2 z2) (by omega) (by omega)
  · subst q2
    exact lT_ok l5 t2 (fun q0 => absurd q0 q1) (Hx W2 _ _ _ C2 J2 z2) (by omega) (by omega)
theorem lw_order (hI : InvC G W hi hr) (hJ : InvR G W hi hr) (hz : zOK n W) (hn : n < 512) (hL : i + 9 ≤ G.2.2.2.2.2.1) (hM : G.2.2.2.2.2.1 ≤ 4608) (g5 : u5 + 5 ≤ uc) (g6 : u6 + 30 ≤ us) (Hx : lHx G K n i u5 u6) : B_L_law__1232 G 100 K [.ref 4000000, .ref 0, .ref 110, .ref 133, .int (iI (i : Int)), jk, jk, jk] [] hi hl hr uc us := by
  obtain ⟨v1, w1, y1, ev1⟩ := iI_of (G.2.2.2.2.2.2 (i + 1))
  have gv1 : iRg v1 := ⟨w1, y1⟩
  simp (disch := omega) only [B_L_law__1232, sh0, lt0, sh110, lt110, sc_1, ev1, en_ops, en_opl, iI_add, Nat.sub_zero, Nat.zero_le, true_and, and_true, Nat.reduceAdd, Nat.reduceLeDiff]
  have hcd : ∀ k9, k9 < 4 → (if 0 ≤ v1 ∧ v1 ≤ 3 then 0 else 3) = k9 + 1 → (fun k => if k = 2 then 1 else 0) k9 = 1 ∧ 1 ≠ 0 ∧ 1 < 5 := by
    intro k9 hk er
    by_cases c1 : 0 ≤ v1 ∧ v1 ≤ 3
    · rw [if_pos c1] at er
      try rw [if_pos c1]
      exact absurd er (by omega)
    · rw [if_neg c1] at er
      try rw [if_neg c1]
      obtain rfl : k9 = 2 := by omega
      exact ⟨rfl, by decide, by decide⟩
  refine ⟨by omega, by omega, l_order (d := 93) hI hz (by decide) (by decide) gv1 (lc_l 1 hJ hcd (fun hi1 hl1 hr1 k5 J1 D1 => ?_))⟩
  simp (disch := omega) only [sh110, lt110, sc_1, ev1, en_ops, en_opl, iI_add, Nat.sub_zero, Nat.zero_le, true_and, and_true, Nat.reduceAdd, Nat.reduceLeDiff]
  refine m_corder (d := 93) J1 hz gv1 (lc_m hz (fun _ => hz.mono (Nat.le_succ n)) D1 (fun hi2 W2 b C2 J2 z2 t2 l5 q2 => ?_))
  rcases q2 with ⟨q1, q2, q3⟩ | ⟨q1, q2⟩
  · subst q2
    exact lT_ok l5 t2 (fun _ => q3) (Hx W2 _ _ _ C2 J2 z2) (by omega) (by omega)
  · subst q2
    exact lT_ok l5 t2 (fun q0 => absurd q0 q1) (Hx W2 _ _ _ C2 J2 z2) (by omega) (by omega)
theorem lw_horn (hI : InvC G W hi hr) (hJ : InvR G W hi hr) (hz : zOK n W) (hn : n < 512) (hL : i + 9 ≤ G.2.2.2.2.2.1) (hM : G.2.2.2.2.2.1 ≤ 4608) (g5 : u5 + 5 ≤ uc) (g6 : u6 + 30 ≤ us) (Hx : lHx G K n i u5 u6) : B_L_law__1288 G 100 K [.ref 4000000, .ref 0, .ref 110, .ref 133, .int (iI (i : Int)), jk, jk, jk] [] hi hl hr uc us := by
  obtain ⟨v1, w1, y1, ev1⟩ := iI_of (G.2.2.2.2.2.2 (i + 1))
  have gv1 : iRg v1 := ⟨w1, y1⟩
  simp (disch := omega) only [B_L_law__1288, sh0, lt0, sh110, lt110, sc_1, ev1, en_ops, en_opl, iI_add, Nat.sub_zero, Nat.zero_le, true_and, and_true, Nat.reduceAdd, Nat.reduceLeDiff]
  refine c_horn (d := 97) hI hz gv1 (lc_c0 hJ (fun hi1 hl1 hr1 J1 C1 => ?_))
  simp (disch := omega) only [sh110, lt110, sc_1, ev1, en_ops, en_opl, iI_add, Nat.sub_zero, Nat.zero_le, true_and, and_true, Nat.reduceAdd, Nat.reduceLeDiff]
  refine m_chorn (d := 95) J1 hz gv1 (lc_m0 (hz.mono (Nat.le_succ n)) C1 (fun hi2 C2 J2 => ?_))
  simp (disch := omega) only [en_ops, en_opl, iI_add, Nat.sub_zero, Nat.zero_le, true_and, and_true, Nat.reduceAdd, Nat.reduceLeDiff]
  exact ⟨fun _ => V_5 (Hx _ _ _ _ C2 J2 (hz.mono (Nat.le_succ n))) (by omega) (by omega), fun e9 => (e9 (by first | trivial | rfl)).elim⟩
theorem lw_sound (hI : InvC G W hi hr) (hJ : InvR G W hi hr) (hz : zOK n W) (hn : n < 512) (hL : i + 9 ≤ G.2.2.2.2.2.1) (hM : G.2.2.2.2.2.1 ≤ 4608) (g5 : u5 + 5 ≤ uc) (g6 : u6 + 30 ≤ us) (Hx : lHx G K n i u5 u6) : B_L_law__1313 G 100 K [.ref 4000000, .ref 0, .ref 110, .ref 133, .int (iI (i : Int)), jk, jk, jk] [] hi hl hr uc us := by
  obtain ⟨v1, w1, y1, ev1⟩ := iI_of (G.2.2.2.2.2.2 (i + 1))
  have gv1 : iRg v1 := ⟨w1, y1⟩
  simp (disch := omega) only [B_L_law__1313, sh0, lt0, sh110, lt110, sc_1, ev1, en_ops, en_opl, iI_add, Nat.sub_zero, Nat.zero_le, true_and, and_true, Nat.reduceAdd, Nat.reduceLeDiff]
  have hcd : ∀ k9, k9 < 4 → (if inC W v1 then 0 else 1) = k9 + 1 → (fun k => if k = 0 then 1 else 0) k9 = 1 ∧ 1 ≠ 0 ∧ 1 < 5 := by
    intro k9 hk er
    by_cases c1 : inC W v1
    · rw [if_pos c1] at er
      try rw [if_pos c1]
      exact absurd er (by omega)
    · rw [if_neg c1] at er
      try rw [if_neg c1]
      obtain rfl : k9 = 0 := by omega
      exact ⟨rfl, by decide, by decide⟩
  refine ⟨by omega, by omega, l_sound (d := 94) hI hz (by decide) (by decide) gv1 (lc_l 1 hJ hcd (fun hi1 hl1 hr1 k5 J1 D1 => ?_))⟩
  simp (disch := omega) only [sh110, lt110, sc_1, ev1, en_ops, en_opl, iI_add, Nat.sub_zero, Nat.zero_le, true_and, and_true, Nat.reduceAdd, Nat.reduceLeDiff]
  refine m_csound (d := 94) J1 hz gv1 (lc_m hz (fun _ => hz.mono (Nat.le_succ n)) D1 (fun hi2 W2 b C2 J2 z2 t2 l5 q2 => ?_))
  rcases q2 with ⟨q1, q2, q3⟩ | ⟨q1, q2⟩
  · subst q2
    exact lT_ok l5 t2 (fun _ => q3) (Hx W2 _ _ _ C2 J2 z2) (by omega) (by omega)
  · subst q2
    exact lT_ok l5 t2 (fun q0 => absurd q0 q1) (Hx W2 _ _ _ C2 J2 z2) (by omega) (by omega)
theorem lw_take (hI : InvC G W hi hr) (hJ : InvR G W hi hr) (hz : zOK n W) (hn : n < 512) (hL : i + 9 ≤ G.2.2.2.2.2.1) (hM : G.2.2.2.2.2.1 ≤ 4608) (g5 : u5 + 5 ≤ uc) (g6 : u6 + 30 ≤ us) (Hx : lHx G K n i u5 u6) : B_L_law__1369 G 100 K [.ref 4000000, .ref 0, .ref 110, .ref 133, .int (iI (i : Int)), jk, jk, jk] [] hi hl hr uc us := by
  obtain ⟨v1, w1, y1, ev1⟩ := iI_of (G.2.2.2.2.2.2 (i + 1))
  have gv1 : iRg v1 := ⟨w1, y1⟩
  obtain ⟨v2, w2, y2, ev2⟩ := iI_of (G.2.2.2.2.2.2 (i + 2))
  have gv2 : iRg v2 := ⟨w2, y2⟩
  simp (disch := omega) only [B_L_law__1369, sh0, lt0, sh110, lt110, sc_1, sc_2, ev1, ev2, en_ops, en_opl, iI_add, Nat.sub_zero, Nat.zero_le, true_and, and_true, Nat.reduceAdd, Nat.reduceLeDiff]
  have hcd : ∀ k9, k9 < 4 → (if inZ W v1 ∧ 0 ≤ v2 ∧ v2 < 3 then 0 else 3) = k9 + 1 → (fun k => if k = 2 then 1 else 0) k9 = 1 ∧ 1 ≠ 0 ∧ 1 < 5 := by
    intro k9 hk er
    by_cases c1 : inZ W v1 ∧ 0 ≤ v2 ∧ v2 < 3
    · rw [if_pos c1] at er
      try rw [if_pos c1]
      exact absurd er (by omega)
    · rw [if_neg c1] at er
      try rw [if_neg c1]
      obtain rfl : k9 = 2 := by omega
      exact ⟨rfl, by decide, by decide⟩
  have hz9 : (if inZ W v1 ∧ 0 ≤ v2 ∧ v2 < 3 then 0 else 3) = 0 → zOK (n + 1) (tkW W v1.toNat v2.toNat) := by
    intro er
    by_cases c1 : inZ W v1 ∧ 0 ≤ v2 ∧ v2 < 3
    · rw [if_pos c1] at er
      try rw [if_pos c1]
      exact hz.tk (by omega) (by omega)
    · rw [if_neg c1] at er
      try rw [if_neg c1]
      exact absurd er (by decide)
  refine ⟨by omega, by omega, l_take (d := 97) hI hz (by decide) (by decide) gv1 gv2 (lc_l 1 hJ hcd (fun hi1 hl1 hr1 k5 J1 D1 => ?_))⟩
  simp (disch := omega) only [sh110, lt110, sc_1, sc_2, ev1, ev2, en_ops, en_opl, iI_add, Nat.sub_zero, Nat.zero_le, true_and, and_true, Nat.reduceAdd, Nat.reduceLeDiff]
  refine m_ctake (d := 97) J1 hz gv1 gv2 (lc_m hz (hz9) D1 (fun hi2 W2 b C2 J2 z2 t2 l5 q2 => ?_))
  rcases q2 with ⟨q1, q2, q3⟩ | ⟨q1, q2⟩
  · subst q2
    exact lT_ok l5 t2 (fun _ => q3) (Hx W2 _ _ _ C2 J2 z2) (by omega) (by omega)
  · subst q2
    exact lT_ok l5 t2 (fun q0 => absurd q0 q1) (Hx W2 _ _ _ C2 J2 z2) (by omega) (by omega)
theorem lw_drop (hI : InvC G W hi hr) (hJ : InvR G W hi hr) (hz : zOK n W) (hn : n < 512) (hL : i + 9 ≤ G.2.2.2.2.2.1) (hM : G.2.2.2.2.2.1 ≤ 4608) (g5 : u5 + 5 ≤ uc) (g6 : u6 + 30 ≤ us) (Hx : lHx G K n i u5 u6) : B_L_law__1437 G 100 K [.ref 4000000, .ref 0, .ref 110, .ref 133, .int (iI (i : Int)), jk, jk, jk] [] hi hl hr uc us := by
  simp (disch := omega) only [B_L_law__1437, sh0, lt0, sh110, lt110, en_ops, en_opl, iI_add, Nat.sub_zero, Nat.zero_le, true_and, and_true, Nat.reduceAdd, Nat.reduceLeDiff]
  refine c_drop (d := 99) hI hz (lc_c0 hJ (fun hi1 hl1 hr1 J1 C1 => ?_))
  simp (disch := omega) only [sh110, lt110, en_ops, en_opl, iI_add, Nat.sub_zero, Nat.zero_le, true_and, and_true, Nat.reduceAdd, Nat.reduceLeDiff]
  refine m_cdrop (d := 99) J1 hz (lc_m0 hz.dr C1 (fun hi2 C2 J2 => ?_))
  simp (disch := omega) only [en_ops, en_opl, iI_add, Nat.sub_zero, Nat.zero_le, true_and, and_true, Nat.reduceAdd, Nat.reduceLeDiff]
  exact ⟨fun _ => V_5 (Hx _ _ _ _ C2 J2 hz.dr) (by omega) (by omega), fun e9 => (e9 (by first | trivial | rfl)).elim⟩
theorem lw_word (hI : InvC G W hi hr) (hJ : InvR G W hi hr) (hz : zOK n W) (hn : n < 512) (hL : i + 9 ≤ G.2.2.2.2.2.1) (hM : G.2.2.2.2.2.1 ≤ 4608) (g5 : u5 + 5 ≤ uc) (g6 : u6 + 30 ≤ us) (Hx : lHx G K n i u5 u6) : B_L_law__1450 G 100 K [.ref 4000000, .ref 0, .ref 110, .ref 133, .int (iI (i : Int)), jk, jk, jk] [] hi hl hr uc us := by
  obtain ⟨v1, w1, y1, ev1⟩ := iI_of (G.2.2.2.2.2.2 (i + 1))
  have gv1 : iRg v1 := ⟨w1, y1⟩
  simp (disch := omega) only [B_L_law__1450, sh0, lt0, sh110, lt110, sc_1, ev1, en_ops, en_opl, iI_add, Nat.sub_zero, Nat.zero_le, true_and, and_true, Nat.reduceAdd, Nat.reduceLeDiff]
  have hcd : ∀ k9, k9 < 4 → (if inC W v1 then 0 else 1) = k9 + 1 → (fun k => if k = 0 then 1 else 0) k9 = 1 ∧ 1 ≠ 0 ∧ 1 < 5 := by
    intro k9 hk er
    by_cases c1 : inC W v1
    · rw [if_pos c1] at er
      try rw [if_pos c1]
      exact absurd er (by omega)
    · rw [if_neg c1] at er
      try rw [if_neg c1]
      obtain rfl : k9 = 0 := by omega
      exact ⟨rfl, by decide, by decide⟩
  refine ⟨by omega, by omega, l_word (d := 95) hI hz (by decide) (by decide) gv1 (lc_l 1 hJ hcd (fun hi1 hl1 hr1 k5 J1 D1 => ?_))⟩
  simp (disch := omega) only [sh110, lt110, sc_1, ev1, en_ops, en_opl, iI_add, Nat.sub_zero, Nat.zero_le, true_and, and_true, Nat.reduceAdd, Nat.reduceLeDiff]
  refine m_cword (d := 95) J1 hz gv1 (lc_m hz (fun _ => hz.mono (Nat.le_succ n)) D1 (fun hi2 W2 b C2 J2 z2 t2 l5 q2 => ?_))
  rcases q2 with ⟨q1, q2, q3⟩ | ⟨q1, q2⟩
  · subst q2
    exact lTL_ok l5 t2 (fun _ => q3) (Hx W2 _ _ _ C2 J2 z2) (by omega) (by omega)
  · subst q2
    exact lTL_ok l5 t2 (fun q0 => absurd q0 q1) (Hx W2 _ _ _ C2 J2 z2) (by omega) (by omega)
theorem lw_odds (hI : InvC G W hi hr) (hJ : InvR G W hi hr) (hz : zOK n W) (hn : n < 512) (hL : i + 9 ≤ G.2.2.2.2.2.1) (hM : G.2.2.2.2.2.1 ≤ 4608) (g5 : u5 + 5 ≤ uc) (g6 : u6 + 30 ≤ us) (Hx : lHx G K n i u5 u6) : B_L_law__1505 G 100 K [.ref 4000000, .ref 0, .ref 110, .ref 133, .int (iI (i : Int)), jk, jk, jk] [] hi hl hr uc us := by
  obtain ⟨v1, w1, y1, ev1⟩ := iI_of (G.2.2.2.2.2.2 (i + 1))
  have gv1 : iRg v1 := ⟨w1, y1⟩
  simp (disch := omega) only [B_L_law__1505, sh0, lt0, sh110, lt110, sc_1, ev1, en_ops, en_opl, iI_add, Nat.sub_zero, Nat.zero_le, true_and, and_true, Nat.reduceAdd, Nat.reduceLeDiff]
  have hcd : ∀ k9, k9 < 4 → (if inC W v1 then 0 else 1) = k9 + 1 → (fun k => if k = 0 then 1 else 0) k9 = 1 ∧ 1 ≠ 0 ∧ 1 < 5 := by
    intro k9 hk er
    by_cases c1 : inC W v1
    · rw [if_pos c1] at er
      try rw [if_pos c1]
      exact absurd er (by omega)
    · rw [if_neg c1] at er
      try rw [if_neg c1]
      obtain rfl : k9 = 0 := by omega
      exact ⟨rfl, by decide, by decide⟩
  refine ⟨by omega, by omega, l_odds (d := 93) hI hz (by decide) (by decide) gv1 (lc_l 1 hJ hcd (fun hi1 hl1 hr1 k5 J1 D1 => ?_))⟩
  simp (disch := omega) only [sh110, lt110, sc_1, ev1, en_ops, en_opl, iI_add, Nat.sub_zero, Nat.zero_le, true_and, and_true, Nat.reduceAdd, Nat.reduceLeDiff]
  refine m_codds (d := 94) J1 hz gv1 (lc_m hz (fun _ => hz.mono (Nat.le_succ n)) D1 (fun hi2 W2 b C2 J2 z2 t2 l5 q2 => ?_))
  rcases q2 with ⟨q1, q2, q3⟩ | ⟨q1, q2⟩
  · subst q2
    exact lT_ok l5 t2 (fun _ => q3) (Hx W2 _ _ _ C2 J2 z2) (by omega) (by omega)
  · subst q2
    exact lT_ok l5 t2 (fun q0 => absurd q0 q1) (Hx W2 _ _ _ C2 J2 z2) (by omega) (by omega)
theorem lw_where (hI : InvC G W hi hr) (hJ : InvR G W hi hr) (hz : zOK n W) (hn : n < 512) (hL : i + 9 ≤ G.2.2.2.2.2.1) (hM : G.2.2.2.2.2.1 ≤ 4608) (g5 : u5 + 5 ≤ uc) (g6 : u6 + 30 ≤ us) (Hx : lHx G K n i u5 u6) : B_L_law__1561 G 100 K [.ref 4000000, .ref 0, .ref 110, .ref 133, .int (iI (i : Int)), jk, jk, jk] [] hi hl hr uc us := by
  obtain ⟨v1, w1, y1, ev1⟩ := iI_of (G.2.2.2.2.2.2 (i + 1))
  have gv1 : iRg v1 := ⟨w1, y1⟩
  simp (disch := omega) only [B_L_law__1561, sh0, lt0, sh110, lt110, sc_1, ev1, en_ops, en_opl, iI_add, Nat.sub_zero, Nat.zero_le, true_and, and_true, Nat.reduceAdd, Nat.reduceLeDiff]
  have hcd : ∀ k9, k9 < 4 → (if 0 ≤ v1 ∧ v1 ≤ 2 then 0 else 3) = k9 + 1 → (fun k => if k = 2 then 1 else 0) k9 = 1 ∧ 1 ≠ 0 ∧ 1 < 5 := by
    intro k9 hk er
    by_cases c1 : 0 ≤ v1 ∧ v1 ≤ 2
    · rw [if_pos c1] at er
      try rw [if_pos c1]
      exact absurd er (by omega)
    · rw [if_neg c1] at er
      try rw [if_neg c1]
      obtain rfl : k9 = 2 := by omega
      exact ⟨rfl, by decide, by decide⟩
  refine ⟨by omega, by omega, l_where (d := 93) hI hz (by decide) (by decide) gv1 (lc_l 1 hJ hcd (fun hi1 hl1 hr1 k5 J1 D1 => ?_))⟩
  simp (disch := omega) only [sh110, lt110, sc_1, ev1, en_ops, en_opl, iI_add, Nat.sub_zero, Nat.zero_le, true_and, and_true, Nat.reduceAdd, Nat.reduceLeDiff]
  refine m_cwhere (d := 94) J1 hz gv1 (lc_m hz (fun _ => hz.mono (Nat.le_succ n)) D1 (fun hi2 W2 b C2 J2 z2 t2 l5 q2 => ?_))
  rcases q2 with ⟨q1, q2, q3⟩ | ⟨q1, q2⟩
  · subst q2
    exact lT_ok l5 t2 (fun _ => q3) (Hx W2 _ _ _ C2 J2 z2) (by omega) (by omega)
  · subst q2
    exact lT_ok l5 t2 (fun q0 => absurd q0 q1) (Hx W2 _ _ _ C2 J2 z2) (by omega) (by omega)
theorem lw_found (hI : InvC G W hi hr) (hJ : InvR G W hi hr) (hz : zOK n W) (hn : n < 512) (hL : i + 9 ≤ G.2.2.2.2.2.1) (hM : G.2.2.2.2.2.1 ≤ 4608) (g5 : u5 + 5 ≤ uc) (g6 : u6 + 30 ≤ us) (Hx : lHx G K n i u5 u6) : B_L_law__1617 G 100 K [.ref 4000000, .ref 0, .ref 110, .ref 133, .int (iI (i : Int)), jk, jk, jk] [] hi hl hr uc us := by
  obtain ⟨v1, w1, y1, ev1⟩ := iI_of (G.2.2.2.2.2.2 (i + 1))
  have gv1 : iRg v1 := ⟨w1, y1⟩
  obtain ⟨v2, w2, y2, ev2⟩ := iI_of (G.2.2.2.2.2.2 (i + 2))
  have gv2 : iRg v2 := ⟨w2, y2⟩
  simp (disch := omega) only [B_L_law__1617, sh0, lt0, sh110, lt110, sc_1, sc_2, ev1, ev2, en_ops, en_opl, iI_add, Nat.sub_zero, Nat.zero_le, true_and, and_true, Nat.reduceAdd, Nat.reduceLeDiff]
  have hcd : ∀ k9, k9 < 4 → (if inZ W v1 ∧ 1 ≤ v2 ∧ v2 ≤ 16 then 0 else 3) = k9 + 1 → (fun k => if k = 2 then 1 else 0) k9 = 1 ∧ 1 ≠ 0 ∧ 1 < 5 := by
    intro k9 hk er
    by_cases c1 : inZ W v1 ∧ 1 ≤ v2 ∧ v2 ≤ 16
    · rw [if_pos c1] at er
      try rw [if_pos c1]
      exact absurd er (by omega)
    · rw [if_neg c1] at er
      try rw [if_neg c1]
      obtain rfl : k9 = 2 := by omega
      exact ⟨rfl, by decide, by decide⟩
  refine ⟨by omega, by omega, l_found (d := 96) hI hz (by decide) (by decide) gv1 gv2 (lc_l 1 hJ hcd (fun hi1 hl1 hr1 k5 J1 D1 => ?_))⟩
  simp (disch := omega) only [sh110, lt110, sc_1, sc_2, ev1, ev2, en_ops, en_opl, iI_add, Nat.sub_zero, Nat.zero_le, true_and, and_true, Nat.reduceAdd, Nat.reduceLeDiff]
  refine m_cfound (d := 97) J1 hz gv1 gv2 (lc_m hz (fun _ => hz.mono (Nat.le_succ n)) D1 (fun hi2 W2 b C2 J2 z2 t2 l5 q2 => ?_))
  rcases q2 with ⟨q1, q2, q3⟩ | ⟨q1, q2⟩
  · subst q2
    exact lT_ok l5 t2 (fun _ => q3) (Hx W2 _ _ _ C2 J2 z2) (by omega) (by omega)
  · subst q2
    exact lT_ok l5 t2 (fun q0 => absurd q0 q1) (Hx W2 _ _ _ C2 J2 z2) (by omega) (by omega)
theorem lw_miles (hI : InvC G W hi hr) (hJ : InvR G W hi hr) (hz : zOK n W) (hn : n < 512) (hL : i + 9 ≤ G.2.2.2.2.2.1) (hM : G.2.2.2.2.2.1 ≤ 4608) (g5 : u5 + 5 ≤ uc) (g6 : u6 + 30 ≤ us) (Hx : lHx G K n i u5 u6) : B_L_law__1685 G 100 K [.ref 4000000, .ref 0, .ref 110, .ref 133, .int (iI (i : Int)), jk, jk, jk] [] hi hl hr uc us := by
  obtain ⟨v1, w1, y1, ev1⟩ := iI_of (G.2.2.2.2.2.2 (i + 1))
  have gv1 : iRg v1 := ⟨w1, y1⟩
  simp (disch := omega) only [B_L_law__1685, sh0, lt0, sh110, lt110, sc_1, ev1, en_ops, en_opl, iI_add, Nat.sub_zero, Nat.zero_le, true_and, and_true, Nat.reduceAdd, Nat.reduceLeDiff]
  have hcd : ∀ k9, k9 < 4 → (if inZ W v1 then 0 else 3) = k9 + 1 → (fun k => if k = 2 then 1 else 0) k9 = 1 ∧ 1 ≠ 0 ∧ 1 < 5 := by
    intro k9 hk er
    by_cases c1 : inZ W v1
    · rw [if_pos c1] at er
      try rw [if_pos c1]
      exact absurd er (by omega)
    · rw [if_neg c1] at er
      try rw [if_neg c1]
      obtain rfl : k9 = 2 := by omega
      exact ⟨rfl, by decide, by decide⟩
  refine ⟨by omega, by omega, l_miles (d := 96) hI hz (by decide) (by decide) gv1 (lc_l 1 hJ hcd (fun hi1 hl1 hr1 k5 J1 D1 => ?_))⟩
  simp (disch := omega) only [sh110, lt110, sc_1, ev1, en_ops, en_opl, iI_add, Nat.sub_zero, Nat.zero_le, true_and, and_true, Nat.reduceAdd, Nat.reduceLeDiff]
  refine m_cmiles (d := 97) J1 hz gv1 (lc_m hz (fun _ => hz.mono (Nat.le_succ n)) D1 (fun hi2 W2 b C2 J2 z2 t2 l5 q2 => ?_))
  rcases q2 with ⟨q1, q2, q3⟩ | ⟨q1, q2⟩
  · subst q2
    exact lT_ok l5 t2 (fun _ => q3) (Hx W2 _ _ _ C2 J2 z2) (by omega) (by omega)
  · subst q2
    exact lT_ok l5 t2 (fun q0 => absurd q0 q1) (Hx W2 _ _ _ C2 J2 z2) (by omega) (by omega)
theorem lw_lost (hI : InvC G W hi hr) (hJ : InvR G W hi hr) (hz : zOK n W) (hn : n < 512) (hL : i + 9 ≤ G.2.2.2.2.2.1) (hM : G.2.2.2.2.2.1 ≤ 4608) (g5 : u5 + 5 ≤ uc) (g6 : u6 + 30 ≤ us) (Hx : lHx G K n i u5 u6) : B_L_law__1741 G 100 K [.ref 4000000, .ref 0, .ref 110, .ref 133, .int (iI (i : Int)), jk, jk, jk] [] hi hl hr uc us := by
  simp (disch := omega) only [B_L_law__1741, sh0, lt0, sh110, lt110, en_ops, en_opl, iI_add, Nat.sub_zero, Nat.zero_le, true_and, and_true, Nat.reduceAdd, Nat.reduceLeDiff]
  refine c_lost (d := 97) hI hz (lc_c0 hJ (fun hi1 hl1 hr1 J1 C1 => ?_))
  simp (disch := omega) only [sh110, lt110, en_ops, en_opl, iI_add, Nat.sub_zero, Nat.zero_le, true_and, and_true, Nat.reduceAdd, Nat.reduceLeDiff]
  refine m_clost (d := 97) J1 hz (lc_m0 (hz.mono (Nat.le_succ n)) C1 (fun hi2 C2 J2 => ?_))
  simp (disch := omega) only [en_ops, en_opl, iI_add, Nat.sub_zero, Nat.zero_le, true_and, and_true, Nat.reduceAdd, Nat.reduceLeDiff]
  exact ⟨fun _ => V_5 (Hx _ _ _ _ C2 J2 (hz.mono (Nat.le_succ n))) (by omega) (by omega), fun e9 => (e9 (by first | trivial | rfl)).elim⟩
theorem lw_look (hI : InvC G W hi hr) (hJ : InvR G W hi hr) (hz : zOK n W) (hn : n < 512) (hL : i + 9 ≤ G.2.2.2.2.2.1) (hM : G.2.2.2.2.2.1 ≤ 4608) (g5 : u5 + 5 ≤ uc) (g6 : u6 + 30 ≤ us) (Hx : lHx G K n i u5 u6) : B_L_law__1754 G 100 K [.ref 4000000, .ref 0, .ref 110, .ref 133, .int (iI (i : Int)), jk, jk, jk] [] hi hl hr uc us := by
  obtain ⟨v1, w1, y1, ev1⟩ := iI_of (G.2.2.2.2.2.2 (i + 1))
  have gv1 : iRg v1 := ⟨w1, y1⟩
  obtain ⟨v2, w2, y2, ev2⟩ := iI_of (G.2.2.2.2.2.2 (i + 2))
  have gv2 : iRg v2 := ⟨w2, y2⟩
  obtain ⟨v3, w3, y3, ev3⟩ := iI_of (G.2.2.2.2.2.2 (i + 3))
  have gv3 : iRg v3 := ⟨w3, y3⟩
  simp (disch := omega) only [B_L_law__1754, sh0, lt0, sh110, lt110, sc_1, sc_2, sc_3, ev1, ev2, ev3, en_ops, en_opl, iI_add, Nat.sub_zero, Nat.zero_le, true_and, and_true, Nat.reduceAdd, Nat.reduceLeDiff]
  have hcd : ∀ k9, k9 < 4 → (if inZ W v1 ∧ (1 ≤ v2 ∧ v2 ≤ (zE W).2.1) ∧ 0 ≤ v3 ∧ v3 ≤ 1 then 0 else 3) = k9 + 1 → (fun k => if k = 2 then 1 else 0) k9 = 1 ∧ 1 ≠ 0 ∧ 1 < 5 := by
    intro k9 hk er
    by_cases c1 : inZ W v1 ∧ (1 ≤ v2 ∧ v2 ≤ (zE W).2.1) ∧ 0 ≤ v3 ∧ v3 ≤ 1
    · rw [if_pos c1] at er
      try rw [if_pos c1]
      exact absurd er (by omega)
    · rw [if_neg c1] at er
      try rw [if_neg c1]
      obtain rfl : k9 = 2 := by omega
      exact ⟨rfl, by decide, by decide⟩
  refine ⟨by omega, by omega, l_look (d := 95) hI hz (by decide) (by decide) gv1 gv2 gv3 (lc_l 1 hJ hcd (fun hi1 hl1 hr1 k5 J1 D1 => ?_))⟩
  simp (disch := omega) only [sh110, lt110, sc_1, sc_2, sc_3, ev1, ev2, ev3, en_ops, en_opl, iI_add, Nat.sub_zero, Nat.zero_le, true_and, and_true, Nat.reduceAdd, Nat.reduceLeDiff]
  refine m_clook (d := 96) J1 hz gv1 gv2 gv3 (lc_m hz (fun _ => hz.mono (Nat.le_succ n)) D1 (fun hi2 W2 b C2 J2 z2 t2 l5 q2 => ?_))
  rcases q2 with ⟨q1, q2, q3⟩ | ⟨q1, q2⟩
  · subst q2
    exact lT_ok l5 t2 (fun _ => q3) (Hx W2 _ _ _ C2 J2 z2) (by omega) (by omega)
  · subst q2
    exact lT_ok l5 t2 (fun q0 => absurd q0 q1) (Hx W2 _ _ _ C2 J2 z2) (by omega) (by omega)
theorem lw_left (hI : InvC G W hi hr) (hJ : InvR G W hi hr) (hz : zOK n W) (hn : n < 512) (hL : i + 9 ≤ G.2.2.2.2.2.1) (hM : G.2.2.2.2.2.1 ≤ 4608) (g5 : u5 + 5 ≤ uc) (g6 : u6 + 30 ≤ us) (Hx : lHx G K n i u5 u6) : B_L_law__1834 G 100 K [.ref 4000000, .ref 0, .ref 110, .ref 133, .int (iI (i : Int)), jk, jk, jk] [] hi hl hr uc us := by
  obtain ⟨v1, w1, y1, ev1⟩ := iI_of (G.2.2.2.2.2.2 (i + 1))
  have gv1 : iRg v1 := ⟨w1, y1⟩
  obtain ⟨v2, w2, y2, ev2⟩ := iI_of (G.2.2.2.2.2.2 (i + 2))
  have gv2 : iRg v2 := ⟨w2, y2⟩
  obtain ⟨v3, w3, y3, ev3⟩ := iI_of (G.2.2.2.2.2.2 (i + 3))
  have gv3 : iRg v3 := ⟨w3, y3⟩
  obtain ⟨v4, w4, y4, ev4⟩ := iI_of (G.2.2.2.2.2.2 (i + 4))
  have gv4 : iRg v4 := ⟨w4, y4⟩
  simp (disch := omega) only [B_L_law__1834, sh0, lt0, sh110, lt110, sc_1, sc_2, sc_3, sc_4, ev1, ev2, ev3, ev4, en_ops, en_opl, iI_add, Nat.sub_zero, Nat.zero_le, true_and, and_true, Nat.reduceAdd, Nat.reduceLeDiff]
  have hcd : ∀ k9, k9 < 4 → (if inC W v3 then if inL W v1 then if inY W v2 then if inZ W v4 then if isNow W then 0 else 4 else 3 else 2 else 2 else 1) = k9 + 1 → (fun k => if k = 0 then 1 else if k = 1 then 2 else if k = 2 then 3 else if k = 3 then 4 else 0) k9 = (if inC W v3 then if inL W v1 then if inY W v2 then if inZ W v4 then 4 else 3 else 2 else 2 else 1) ∧ (if inC W v3 then if inL W v1 then if inY W v2 then if inZ W v4 then 4 else 3 else 2 else 2 else 1) ≠ 0 ∧ (if inC W v3 then if inL W v1 then if inY W v2 then if inZ W v4 then 4 else 3 else 2 else 2 else 1) < 5 := by
    intro k9 hk er
    by_cases c1 : inC W v3
    · rw [if_pos c1] at er
      try rw [if_pos c1]
      by_cases c2 : inL W v1
      · rw [if_pos c2] at er
        try rw [if_pos c2]
        by_cases c3 : inY W v2
        · rw [if_pos c3] at er
          try rw [if_pos c3]
          by_cases c4 : inZ W v4
          · rw [if_pos c4] at er
            try rw [if_pos c4]
            by_cases c5 : isNow W
            · rw [if_pos c5] at er
              try rw [if_pos c5]
              exact absurd er (by omega)
            · rw [if_neg c5] at er
              try rw [if_neg c5]
              obtain rfl : k9 = 3 := by omega
              exact ⟨rfl, by decide, by decide⟩
          · rw [if_neg c4] at er
            try rw [if_neg c4]
            obtain rfl : k9 = 2 := by omega
            exact ⟨rfl, by decide, by decide⟩
        · rw [if_neg c3] at er
          try rw [if_neg c3]
          obtain rfl : k9 = 1 := by omega
          exact ⟨rfl, by decide, by decide⟩
      · rw [if_neg c2] at er
        try rw [if_neg c2]
        obtain rfl : k9 = 1 := by omega
        exact ⟨rfl, by decide, by decide⟩
    · rw [if_neg c1] at er
      try rw [if_neg c1]
      obtain rfl : k9 = 0 := by omega
      exact ⟨rfl, by decide, by decide⟩
  refine ⟨by omega, by omega, l_left (d := 90) hI hz (by omega) (by decide) (by decide) gv1 gv2 gv3 gv4 (lc_l (if inC W v3 then if inL W v1 then if inY W v2 then if inZ W v4 then 4 else 3 else 2 else 2 else 1) hJ hcd (fun hi1 hl1 hr1 k5 J1 D1 => ?_))⟩
  simp (disch := omega) only [sh110, lt110, sc_1, sc_2, sc_3, sc_4, ev1, ev2, ev3, ev4, en_ops, en_opl, iI_add, Nat.sub_zero, Nat.zero_le, true_and, and_true, Nat.reduceAdd, Nat.reduceLeDiff]
  refine m_cleft (d := 91) J1 hz (by omega) gv1 gv2 gv3 gv4 (lc_m hz (fun _ => hz.mono (Nat.le_succ n)) D1 (fun hi2 W2 b C2 J2 z2 t2 l5 q2 => ?_))
  rcases q2 with ⟨q1, q2, q3⟩ | ⟨q1, q2⟩
  · subst q2
    exact lT_ok l5 t2 (fun _ => q3) (Hx W2 _ _ _ C2 J2 z2) (by omega) (by omega)
  · subst q2
    exact lT_ok l5 t2 (fun q0 => absurd q0 q1) (Hx W2 _ _ _ C2 J2 z2) (by omega) (by omega)
theorem lw_sample (hI : InvC G W hi hr) (hJ : InvR G W hi hr) (hz : zOK n W) (hn : n < 512) (hL : i + 9 ≤ G.2.2.2.2.2.1) (hM : G.2.2.2.2.2.1 ≤ 4608) (g5 : u5 + 5 ≤ uc) (g6 : u6 + 30 ≤ us) (Hx : lHx G K n i u5 u6) : B_L_law__1926 G 100 K [.ref 4000000, .ref 0, .ref 110, .ref 133, .int (iI (i : Int)), jk, jk, jk] [] hi hl hr uc us := by
  obtain ⟨v1, w1, y1, ev1⟩ := iI_of (G.2.2.2.2.2.2 (i + 1))
  have gv1 : iRg v1 := ⟨w1, y1⟩
  obtain ⟨v2, w2, y2, ev2⟩ := iI_of (G.2.2.2.2.2.2 (i + 2))
  have gv2 : iRg v2 := ⟨w2, y2⟩
  obtain ⟨v3, w3, y3, ev3⟩ := iI_of (G.2.2.2.2.2.2 (i + 3))
  have gv3 : iRg v3 := ⟨w3, y3⟩
  simp (disch := omega) only [B_L_law__1926, sh0, lt0, sh110, lt110, sc_1, sc_2, sc_3, ev1, ev2, ev3, en_ops, en_opl, iI_add, Nat.sub_zero, Nat.zero_le, true_and, and_true, Nat.reduceAdd, Nat.reduceLeDiff]
  have hcd : ∀ k9, k9 < 4 → (if inC W v1 then if inZ W v2 ∧ -1 ≤ v3 ∧ v3 ≤ 999999 then 0 else 3 else 1) = k9 + 1 → (fun k => if k = 0 then 1 else if k = 2 then 2 else 0) k9 = (if inC W v1 then 2 else 1) ∧ (if inC W v1 then 2 else 1) ≠ 0 ∧ (if inC W v1 then 2 else 1) < 5 := by
    intro k9 hk er
    by_cases c1 : inC W v1
    · rw [if_pos c1] at er
      try rw [if_pos c1]
      by_cases c2 : inZ W v2 ∧ -1 ≤ v3 ∧ v3 ≤ 999999
      · rw [if_pos c2] at er
        try rw [if_pos c2]
        exact absurd er (by omega)
      · rw [if_neg c2] at er
        try rw [if_neg c2]
        obtain rfl : k9 = 2 := by omega
        exact ⟨rfl, by decide, by decide⟩
    · rw [if_neg c1] at er
      try rw [if_neg c1]
      obtain rfl : k9 = 0 := by omega
      exact ⟨rfl, by decide, by decide⟩
  have hz9 : (if inC W v1 then if inZ W v2 ∧ -1 ≤ v3 ∧ v3 ≤ 999999 then 0 else 3 else 1) = 0 → zOK (n + 1) (zPut W (spS (zS W) v1.toNat v2.toNat v3)) := by
    intro er
    by_cases c1 : inC W v1
    · rw [if_pos c1] at er
      try rw [if_pos c1]
      by_cases c2 : inZ W v2 ∧ -1 ≤ v3 ∧ v3 ≤ 999999
      · rw [if_pos c2] at er
        try rw [if_pos c2]
        exact hz.sp (by omega) (by omega) (by omega)
      · rw [if_neg c2] at er
        try rw [if_neg c2]
        exact absurd er (by decide)
    · rw [if_neg c1] at er
      try rw [if_neg c1]
      exact absurd er (by decide)
  refine ⟨by omega, by omega, l_sample (d := 97) hI hz (by decide) (by decide) gv1 gv2 gv3 (lc_l (if inC W v1 then 2 else 1) hJ hcd (fun hi1 hl1 hr1 k5 J1 D1 => ?_))⟩
  simp (disch := omega) only [sh110, lt110, sc_1, sc_2, sc_3, ev1, ev2, ev3, en_ops, en_opl, iI_add, Nat.sub_zero, Nat.zero_le, true_and, and_true, Nat.reduceAdd, Nat.reduceLeDiff]
  refine m_csample (d := 97) J1 hz gv1 gv2 gv3 (lc_m hz (hz9) D1 (fun hi2 W2 b C2 J2 z2 t2 l5 q2 => ?_))
  rcases q2 with ⟨q1, q2, q3⟩ | ⟨q1, q2⟩
  · subst q2
    exact lT_ok l5 t2 (fun _ => q3) (Hx W2 _ _ _ C2 J2 z2) (by omega) (by omega)
  · subst q2
    exact lT_ok l5 t2 (fun q0 => absurd q0 q1) (Hx W2 _ _ _ C2 J2 z2) (by omega) (by omega)
theorem lw_which (hI : InvC G W hi hr) (hJ : InvR G W hi hr) (hz : zOK n W) (hn : n < 512) (hL : i + 9 ≤ G.2.2.2.2.2.1) (hM : G.2.2.2.2.2.1 ≤ 4608) (g5 : u5 + 5 ≤ uc) (g6 : u6 + 30 ≤ us) (Hx : lHx G K n i u5 u6) : B_L_law__2006 G 100 K [.ref 4000000, .ref 0, .ref 110, .ref 133, .int (iI (i : Int)), jk, jk, jk] [] hi hl hr uc us := by
  obtain ⟨v1, w1, y1, ev1⟩ := iI_of (G.2.2.2.2.2.2 (i + 1))
  have gv1 : iRg v1 := ⟨w1, y1⟩
  obtain ⟨v2, w2, y2, ev2⟩ := iI_of (G.2.2.2.2.2.2 (i + 2))
  have gv2 : iRg v2 := ⟨w2, y2⟩
  simp (disch := omega) only [B_L_law__2006, sh0, lt0, sh110, lt110, sc_1, sc_2, ev1, ev2, en_ops, en_opl, iI_add, Nat.sub_zero, Nat.zero_le, true_and, and_true, Nat.reduceAdd, Nat.reduceLeDiff]
  have hcd : ∀ k9, k9 < 4 → (if inY W v1 then if 0 ≤ v2 ∧ v2 ≤ 1 then if isNow W then 0 else 4 else 3 else 2) = k9 + 1 → (fun k => if k = 1 then 1 else if k = 2 then 2 else if k = 3 then 3 else 0) k9 = (if inY W v1 then if 0 ≤ v2 ∧ v2 ≤ 1 then 3 else 2 else 1) ∧ (if inY W v1 then if 0 ≤ v2 ∧ v2 ≤ 1 then 3 else 2 else 1) ≠ 0 ∧ (if inY W v1 then if 0 ≤ v2 ∧ v2 ≤ 1 then 3 else 2 else 1) < 5 := by
    intro k9 hk er
    by_cases c1 : inY W v1
    · rw [if_pos c1] at er
      try rw [if_pos c1]
      by_cases c2 : 0 ≤ v2 ∧ v2 ≤ 1
      · rw [if_pos c2] at er
        try rw [if_pos c2]
        by_cases c3 : isNow W
        · rw [if_pos c3] at er
          try rw [if_pos c3]
          exact absurd er (by omega)
        · rw [if_neg c3] at er
          try rw [if_neg c3]
          obtain rfl : k9 = 3 := by omega
          exact ⟨rfl, by decide, by decide⟩
      · rw [if_neg c2] at er
        try rw [if_neg c2]
        obtain rfl : k9 = 2 := by omega
        exact ⟨rfl, by decide, by decide⟩
    · rw [if_neg c1] at er
      try rw [if_neg c1]
      obtain rfl : k9 = 1 := by omega
      exact ⟨rfl, by decide, by decide⟩
  refine ⟨by omega, by omega, l_which (d := 90) hI hz (by omega) (by decide) (by decide) gv1 gv2 (lc_l (if inY W v1 then if 0 ≤ v2 ∧ v2 ≤ 1 then 3 else 2 else 1) hJ hcd (fun hi1 hl1 hr1 k5 J1 D1 => ?_))⟩
  simp (disch := omega) only [sh110, lt110, sc_1, sc_2, ev1, ev2, en_ops, en_opl, iI_add, Nat.sub_zero, Nat.zero_le, true_and, and_true, Nat.reduceAdd, Nat.reduceLeDiff]
  refine m_cwhich (d := 91) J1 hz (by omega) gv1 gv2 (lc_m hz (fun _ => hz.mono (Nat.le_succ n)) D1 (fun hi2 W2 b C2 J2 z2 t2 l5 q2 => ?_))
  rcases q2 with ⟨q1, q2, q3⟩ | ⟨q1, q2⟩
  · subst q2
    exact lT_ok l5 t2 (fun _ => q3) (Hx W2 _ _ _ C2 J2 z2) (by omega) (by omega)
  · subst q2
    exact lT_ok l5 t2 (fun q0 => absurd q0 q1) (Hx W2 _ _ _ C2 J2 z2) (by omega) (by omega)
theorem lw_cost (hI : InvC G W hi hr) (hJ : InvR G W hi hr) (hz : zOK n W) (hn : n < 512) (hL : i + 9 ≤ G.2.2.2.2.2.1) (hM : G.2.2.2.2.2.1 ≤ 4608) (g5 : u5 + 5 ≤ uc) (g6 : u6 + 30 ≤ us) (Hx : lHx G K n i u5 u6) : B_L_law__2074 G 100 K [.ref 4000000, .ref 0, .ref 110, .ref 133, .int (iI (i : Int)), jk, jk, jk] [] hi hl hr uc us := by
  obtain ⟨v1, w1, y1, ev1⟩ := iI_of (G.2.2.2.2.2.2 (i + 1))
  have gv1 : iRg v1 := ⟨w1, y1⟩
  obtain ⟨v2, w2, y2, ev2⟩ := iI_of (G.2.2.2.2.2.2 (i + 2))
  have gv2 : iRg v2 := ⟨w2, y2⟩
  obtain ⟨v3, w3, y3, ev3⟩ := iI_of (G.2.2.2.2.2.2 (i + 3))
  have gv3 : iRg v3 := ⟨w3, y3⟩
  obtain ⟨v4, w4, y4, ev4⟩ := iI_of (G.2.2.2.2.2.2 (i + 4))
  have gv4 : iRg v4 := ⟨w4, y4⟩
  obtain ⟨v5, w5, y5, ev5⟩ := iI_of (G.2.2.2.2.2.2 (i + 5))
  have gv5 : iRg v5 := ⟨w5, y5⟩
  simp (disch := omega) only [B_L_law__2074, sh0, lt0, sh110, lt110, sc_1, sc_2, sc_3, sc_4, sc_5, ev1, ev2, ev3, ev4, ev5, en_ops, en_opl, iI_add, Nat.sub_zero, Nat.zero_le, true_and, and_true, Nat.reduceAdd, Nat.reduceLeDiff]
  have hcd : ∀ k9, k9 < 4 → (if (inC W v5) ∧ (inC W v3) ∧ (v3 ≠ (zE W).2.1 - 1) then if inL W v1 then if inY W v2 then if 0 ≤ v4 ∧ v4 ≤ 16 then if isNow W then 0 else 4 else 3 else 2 else 2 else 1) = k9 + 1 → (fun k => if k = 0 then 1 else if k = 1 then 2 else if k = 2 then 3 else if k = 3 then 4 else 0) k9 = (if (inC W v5) ∧ (inC W v3) ∧ (v3 ≠ (zE W).2.1 - 1) then if inL W v1 then if inY W v2 then if 0 ≤ v4 ∧ v4 ≤ 16 then 4 else 3 else 2 else 2 else 1) ∧ (if (inC W v5) ∧ (inC W v3) ∧ (v3 ≠ (zE W).2.1 - 1) then if inL W v1 then if inY W v2 then if 0 ≤ v4 ∧ v4 ≤ 16 then 4 else 3 else 2 else 2 else 1) ≠ 0 ∧ (if (inC W v5) ∧ (inC W v3) ∧ (v3 ≠ (zE W).2.1 - 1) then if inL W v1 then if inY W v2 then if 0 ≤ v4 ∧ v4 ≤ 16 then 4 else 3 else 2 else 2 else 1) < 5 := by
    intro k9 hk er
    by_cases c1 : (inC W v5) ∧ (inC W v3) ∧ (v3 ≠ (zE W).2.1 - 1)
    · rw [if_pos c1] at er
      try rw [if_pos c1]
      by_cases c2 : inL W v1
      · rw [if_pos c2] at er
        try rw [if_pos c2]
        by_cases c3 : inY W v2
        · rw [if_pos c3] at er
          try rw [if_pos c3]
          by_cases c4 : 0 ≤ v4 ∧ v4 ≤ 16
          · rw [if_pos c4] at er
            try rw [if_pos c4]
            by_cases c5 : isNow W
            · rw [if_pos c5] at er
              try rw [if_pos c5]
              exact absurd er (by omega)
            · rw [if_neg c5] at er
              try rw [if_neg c5]
              obtain rfl : k9 = 3 := by omega
              exact ⟨rfl, by decide, by decide⟩
          · rw [if_neg c4] at er
            try rw [if_neg c4]
            obtain rfl : k9 = 2 := by omega
            exact ⟨rfl, by decide, by decide⟩
        · rw [if_neg c3] at er
          try rw [if_neg c3]
          obtain rfl : k9 = 1 := by omega
          exact ⟨rfl, by decide, by decide⟩
      · rw [if_neg c2] at er
        try rw [if_neg c2]
        obtain rfl : k9 = 1 := by omega
        exact ⟨rfl, by decide, by decide⟩
    · rw [if_neg c1] at er
      try rw [if_neg c1]
      obtain rfl : k9 = 0 := by omega
      exact ⟨rfl, by decide, by decide⟩
  refine ⟨by omega, by omega, l_cost (d := 90) hI hz (by omega) (by decide) (by decide) gv1 gv2 gv3 gv4 gv5 (lc_l (if (inC W v5) ∧ (inC W v3) ∧ (v3 ≠ (zE W).2.1 - 1) then if inL W v1 then if inY W v2 then if 0 ≤ v4 ∧ v4 ≤ 16 then 4 else 3 else 2 else 2 else 1) hJ hcd (fun hi1 hl1 hr1 k5 J1 D1 => ?_))⟩
  simp (disch := omega) only [sh110, lt110, sc_1, sc_2, sc_3, sc_4, sc_5, ev1, ev2, ev3, ev4, ev5, en_ops, en_opl, iI_add, Nat.sub_zero, Nat.zero_le, true_and, and_true, Nat.reduceAdd, Nat.reduceLeDiff]
  refine m_ccost (d := 91) J1 hz (by omega) gv1 gv2 gv3 gv4 gv5 (lc_m hz (fun _ => hz.mono (Nat.le_succ n)) D1 (fun hi2 W2 b C2 J2 z2 t2 l5 q2 => ?_))
  rcases q2 with ⟨q1, q2, q3⟩ | ⟨q1, q2⟩
  · subst q2
    exact lT_ok l5 t2 (fun _ => q3) (Hx W2 _ _ _ C2 J2 z2) (by omega) (by omega)
  · subst q2
    exact lT_ok l5 t2 (fun q0 => absurd q0 q1) (Hx W2 _ _ _ C2 J2 z2) (by omega) (by omega)
theorem lw_raised (hI : InvC G W hi hr) (hJ : InvR G W hi hr) (hz : zOK n W) (hn : n < 512) (hL : i + 9 ≤ G.2.2.2.2.2.1) (hM : G.2.2.2.2.2.1 ≤ 4608) (g5 : u5 + 5 ≤ uc) (g6 : u6 + 30 ≤ us) (Hx : lHx G K n i u5 u6) : B_L_law__2178 G 100 K [.ref 4000000, .ref 0, .ref 110, .ref 133, .int (iI (i : Int)), jk, jk, jk] [] hi hl hr uc us := by
  obtain ⟨v1, w1, y1, ev1⟩ := iI_of (G.2.2.2.2.2.2 (i + 1))
  have gv1 : iRg v1 := ⟨w1, y1⟩
  obtain ⟨v2, w2, y2, ev2⟩ := iI_of (G.2.2.2.2.2.2 (i + 2))
  have gv2 : iRg v2 := ⟨w2, y2⟩
  obtain ⟨v3, w3, y3, ev3⟩ := iI_of (G.2.2.2.2.2.2 (i + 3))
  have gv3 : iRg v3 := ⟨w3, y3⟩
  obtain ⟨v4, w4, y4, ev4⟩ := iI_of (G.2.2.2.2.2.2 (i + 4))
  have gv4 : iRg v4 := ⟨w4, y4⟩
  obtain ⟨v5, w5, y5, ev5⟩ := iI_of (G.2.2.2.2.2.2 (i + 5))
  have gv5 : iRg v5 := ⟨w5, y5⟩
  simp (disch := omega) only [B_L_law__2178, sh0, lt0, sh110, lt110, sc_1, sc_2, sc_3, sc_4, sc_5, ev1, ev2, ev3, ev4, ev5, en_ops, en_opl, iI_add, Nat.sub_zero, Nat.zero_le, true_and, and_true, Nat.reduceAdd, Nat.reduceLeDiff]
  have hcd : ∀ k9, k9 < 4 → (if inL W v1 then if inY W v2 then if (1 ≤ v3 ∧ v3 ≤ 3) ∧ (v3 ≤ (zE W).2.1) ∧ (1 ≤ v4 ∧ v4 ≤ 20) ∧ (0 ≤ v5 ∧ v5 ≤ 1) then if isNow W then 0 else 4 else 3 else 2 else 2) = k9 + 1 → (fun k => if k = 1 then 1 else if k = 2 then 2 else if k = 3 then 3 else 0) k9 = (if inL W v1 then if inY W v2 then if (1 ≤ v3 ∧ v3 ≤ 3) ∧ (v3 ≤ (zE W).2.1) ∧ (1 ≤ v4 ∧ v4 ≤ 20) ∧ (0 ≤ v5 ∧ v5 ≤ 1) then 3 else 2 else 1 else 1) ∧ (if inL W v1 then if inY W v2 then if (1 ≤ v3 ∧ v3 ≤ 3) ∧ (v3 ≤ (zE W).2.1) ∧ (1 ≤ v4 ∧ v4 ≤ 20) ∧ (0 ≤ v5 ∧ v5 ≤ 1) then 3 else 2 else 1 else 1) ≠ 0 ∧ (if inL W v1 then if inY W v2 then if (1 ≤ v3 ∧ v3 ≤ 3) ∧ (v3 ≤ (zE W).2.1) ∧ (1 ≤ v4 ∧ v4 ≤ 20) ∧ (0 ≤ v5 ∧ v5 ≤ 1) then 3 else 2 else 1 else 1) < 5 := by
    intro k9 hk er
    by_cases c1 : inL W v1
    · rw [if_pos c1] at er
      try rw [if_pos c1]
      by_cases c2 : inY W v2
      · rw [if_pos c2] at er
        try rw [if_pos c2]
        by_cases c3 : (1 ≤ v3 ∧ v3 ≤ 3) ∧ (v3 ≤ (zE W).2.1) ∧ (1 ≤ v4 ∧ v4 ≤ 20) ∧ (0 ≤ v5 ∧ v5 ≤ 1)
        · rw [if_pos c3] at er
          try rw [if_pos c3]
          by_cases c4 : isNow W
          · rw [if_pos c4] at er
            try rw [if_pos c4]
            exact absurd er (by omega)
          · rw [if_neg c4] at er
            try rw [if_neg c4]
            obtain rfl : k9 = 3 := by omega
            exact ⟨rfl, by decide, by decide⟩
        · rw [if_neg c3] at er
          try rw [if_neg c3]
          obtain rfl : k9 = 2 := by omega
          exact ⟨rfl, by decide, by decide⟩
      · rw [if_neg c2] at er
        try rw [if_neg c2]
        obtain rfl : k9 = 1 := by omega
        exact ⟨rfl, by decide, by decide⟩
    · rw [if_neg c1] at er
      try rw [if_neg c1]
      obtain rfl : k9 = 1 := by omega
      exact ⟨rfl, by decide, by decide⟩
  refine ⟨by omega, by omega, l_raised (d := 90) hI hz (by omega) (by decide) (by decide) gv1 gv2 gv3 gv4 gv5 (lc_l (if inL W v1 then if inY W v2 then if (1 ≤ v3 ∧ v3 ≤ 3) ∧ (v3 ≤ (zE W).2.1) ∧ (1 ≤ v4 ∧ v4 ≤ 20) ∧ (0 ≤ v5 ∧ v5 ≤ 1) then 3 else 2 else 1 else 1) hJ hcd (fun hi1 hl1 hr1 k5 J1 D1 => ?_))⟩
  simp (disch := omega) only [sh110, lt110, sc_1, sc_2, sc_3, sc_4, sc_5, ev1, ev2, ev3, ev4, ev5, en_ops, en_opl, iI_add, Nat.sub_zero, Nat.zero_le, true_and, and_true, Nat.reduceAdd, Nat.reduceLeDiff]
  refine m_craised (d := 91) J1 hz (by omega) gv1 gv2 gv3 gv4 gv5 (lc_m hz (fun _ => hz.mono (Nat.le_succ n)) D1 (fun hi2 W2 b C2 J2 z2 t2 l5 q2 => ?_))
  rcases q2 with ⟨q1, q2, q3⟩ | ⟨q1, q2⟩
  · subst q2
    exact lT_ok l5 t2 (fun _ => q3) (Hx W2 _ _ _ C2 J2 z2) (by omega) (by omega)
  · subst q2
    exact lT_ok l5 t2 (fun q0 => absurd q0 q1) (Hx W2 _ _ _ C2 J2 z2) (by omega) (by omega)
theorem lw_brought (hI : InvC G W hi hr) (hJ : InvR G W hi hr) (hz : zOK n W) (hn : n < 512) (hL : i + 9 ≤ G.2.2.2.2.2.1) (hM : G.2.2.2.2.2.1 ≤ 4608) (g5 : u5 + 5 ≤ uc) (g6 : u6 + 30 ≤ us) (Hx : lHx G K n i u5 u6) : B_L_law__2282 G 100 K [.ref 4000000, .ref 0, .ref 110, .ref 133, .int (iI (i : Int)), jk, jk, jk] [] hi hl hr uc us := by
  obtain ⟨v1, w1, y1, ev1⟩ := iI_of (G.2.2.2.2.2.2 (i + 1))
  have gv1 : iRg v1 := ⟨w1, y1⟩
  obtain ⟨v2, w2, y2, ev2⟩ := iI_of (G.2.2.2.2.2.2 (i + 2))
  have gv2 : iRg v2 := ⟨w2, y2⟩
  obtain ⟨v3, w3, y3, ev3⟩ := iI_of (G.2.2.2.2.2.2 (i + 3))
  have gv3 : iRg v3 := ⟨w3, y3⟩
  obtain ⟨v4, w4, y4, ev4⟩ := iI_of (G.2.2.2.2.2.2 (i + 4))
  have gv4 : iRg v4 := ⟨w4, y4⟩
  simp (disch := omega) only [B_L_law__2282, sh0, lt0, sh110, lt110, sc_1, sc_2, sc_3, sc_4, ev1, ev2, ev3, ev4, en_ops, en_opl, iI_add, Nat.sub_zero, Nat.zero_le, true_and, and_true, Nat.reduceAdd, Nat.reduceLeDiff]
  have hcd : ∀ k9, k9 < 4 → (if inL W v1 then if inY W v2 then if (1 ≤ v3 ∧ v3 ≤ 999) ∧ (0 ≤ v4 ∧ v4 ≤ 1) then if isNow W then 0 else 4 else 3 else 2 else 2) = k9 + 1 → (fun k => if k = 1 then 1 else if k = 2 then 2 else if k = 3 then 3 else 0) k9 = (if inL W v1 then if inY W v2 then if (1 ≤ v3 ∧ v3 ≤ 999) ∧ (0 ≤ v4 ∧ v4 ≤ 1) then 3 else 2 else 1 else 1) ∧ (if inL W v1 then if inY W v2 then if (1 ≤ v3 ∧ v3 ≤ 999) ∧ (0 ≤ v4 ∧ v4 ≤ 1) then 3 else 2 else 1 else 1) ≠ 0 ∧ (if inL W v1 then if inY W v2 then if (1 ≤ v3 ∧ v3 ≤ 999) ∧ (0 ≤ v4 ∧ v4 ≤ 1) then 3 else 2 else 1 else 1) < 5 := by
    intro k9 hk er
    by_cases c1 : inL W v1
    · rw [if_pos c1] at er
      try rw [if_pos c1]
      by_cases c2 : inY W v2
      · rw [if_pos c2] at er
        try rw [if_pos c2]
        by_cases c3 : (1 ≤ v3 ∧ v3 ≤ 999) ∧ (0 ≤ v4 ∧ v4 ≤ 1)
        · rw [if_pos c3] at er
          try rw [if_pos c3]
          by_cases c4 : isNow W
          · rw [if_pos c4] at er
            try rw [if_pos c4]
            exact absurd er (by omega)
          · rw [if_neg c4] at er
            try rw [if_neg c4]
            obtain rfl : k9 = 3 := by omega
            exact ⟨rfl, by decide, by decide⟩
        · rw [if_neg c3] at er
          try rw [if_neg c3]
          obtain rfl : k9 = 2 := by omega
          exact ⟨rfl, by decide, by decide⟩
      · rw [if_neg c2] at er
        try rw [if_neg c2]
        obtain rfl : k9 = 1 := by omega
        exact ⟨rfl, by decide, by decide⟩
    · rw [if_neg c1] at er
      try rw [if_neg c1]
      obtain rfl : k9 = 1 := by omega
      exact ⟨rfl, by decide, by decide⟩
  refine ⟨by omega, by omega, l_brought (d := 90) hI hz (by omega) (by decide) (by decide) gv1 gv2 gv3 gv4 (lc_l (if inL W v1 then if inY W v2 then if (1 ≤ v3 ∧ v3 ≤ 999) ∧ (0 ≤ v4 ∧ v4 ≤ 1) then 3 else 2 else 1 else 1) hJ hcd (fun hi1 hl1 hr1 k5 J1 D1 => ?_))⟩
  simp (disch := omega) only [sh110, lt110, sc_1, sc_2, sc_3, sc_4, ev1, ev2, ev3, ev4, en_ops, en_opl, iI_add, Nat.sub_zero, Nat.zero_le, true_and, and_true, Nat.reduceAdd, Nat.reduceLeDiff]
  refine m_cbrought (d := 91) J1 hz (by omega) gv1 gv2 gv3 gv4 (lc_m hz (fun _ => hz.mono (Nat.le_succ n)) D1 (fun hi2 W2 b C2 J2 z2 t2 l5 q2 => ?_))
  rcases q2 with ⟨q1, q2, q3⟩ | ⟨q1, q2⟩
  · subst q2
    exact lT_ok l5 t2 (fun _ => q3) (Hx W2 _ _ _ C2 J2 z2) (by omega) (by omega)
  · subst q2
    exact lT_ok l5 t2 (fun q0 => absurd q0 q1) (Hx W2 _ _ _ C2 J2 z2) (by omega) (by omega)
theorem lw_sums (hI : InvC G W hi hr) (hJ : InvR G W hi hr) (hz : zOK n W) (hn : n < 512) (hL : i + 9 ≤ G.2.2.2.2.2.1) (hM : G.2.2.2.2.2.1 ≤ 4608) (g5 : u5 + 5 ≤ uc) (g6 : u6 + 30 ≤ us) (Hx : lHx G K n i u5 u6) : B_L_law__2374 G 100 K [.ref 4000000, .ref 0, .ref 110, .ref 133, .int (iI (i : Int)), jk, jk, jk] [] hi hl hr uc us := by
  obtain ⟨v1, w1, y1, ev1⟩ := iI_of (G.2.2.2.2.2.2 (i + 1))
  have gv1 : iRg v1 := ⟨w1, y1⟩
  simp (disch := omega) only [B_L_law__2374, sh0, lt0, sh110, lt110, sc_1, ev1, en_ops, en_opl, iI_add, Nat.sub_zero, Nat.zero_le, true_and, and_true, Nat.reduceAdd, Nat.reduceLeDiff]
  have hcd : ∀ k9, k9 < 4 → (if 0 ≤ v1 ∧ v1 ≤ 4 then 0 else 3) = k9 + 1 → (fun k => if k = 2 then 1 else 0) k9 = 1 ∧ 1 ≠ 0 ∧ 1 < 5 := by
    intro k9 hk er
    by_cases c1 : 0 ≤ v1 ∧ v1 ≤ 4
    · rw [if_pos c1] at er
      try rw [if_pos c1]
      exact absurd er (by omega)
    · rw [if_neg c1] at er
      try rw [if_neg c1]
      obtain rfl : k9 = 2 := by omega
      exact ⟨rfl, by decide, by decide⟩
  refine ⟨by omega, by omega, l_sums (d := 97) hI hz (by decide) (by decide) gv1 (lc_l 1 hJ hcd (fun hi1 hl1 hr1 k5 J1 D1 => ?_))⟩
  simp (disch := omega) only [sh110, lt110, sc_1, ev1, en_ops, en_opl, iI_add, Nat.sub_zero, Nat.zero_le, true_and, and_true, Nat.reduceAdd, Nat.reduceLeDiff]
  refine m_csums (d := 98) J1 hz gv1 (lc_m hz (fun _ => hz.mono (Nat.le_succ n)) D1 (fun hi2 W2 b C2 J2 z2 t2 l5 q2 => ?_))
  rcases q2 with ⟨q1, q2, q3⟩ | ⟨q1, q2⟩
  · subst q2
    exact lT_ok l5 t2 (fun _ => q3) (Hx W2 _ _ _ C2 J2 z2) (by omega) (by omega)
  · subst q2
    exact lT_ok l5 t2 (fun q0 => absurd q0 q1) (Hx W2 _ _ _ C2 J2 z2) (by omega) (by omega)
theorem lw_last (hI : InvC G W hi hr) (hJ : InvR G W hi hr) (hz : zOK n W) (hn : n < 512) (hL : i + 9 ≤ G.2.2.2.2.2.1) (hM : G.2.2.2.2.2.1 ≤ 4608) (g5 : u5 + 5 ≤ uc) (g6 : u6 + 30 ≤ us) (Hx : lHx G K n i u5 u6) : B_L_law__2430 G 100 K [.ref 4000000, .ref 0, .ref 110, .ref 133, .int (iI (i : Int)), jk, jk, jk] [] hi hl hr uc us := by
  obtain ⟨v1, w1, y1, ev1⟩ := iI_of (G.2.2.2.2.2.2 (i + 1))
  have gv1 : iRg v1 := ⟨w1, y1⟩
  obtain ⟨v2, w2, y2, ev2⟩ := iI_of (G.2.2.2.2.2.2 (i + 2))
  have gv2 : iRg v2 := ⟨w2, y2⟩
  obtain ⟨v3, w3, y3, ev3⟩ := iI_of (G.2.2.2.2.2.2 (i + 3))
  have gv3 : iRg v3 := ⟨w3, y3⟩
  obtain ⟨v4, w4, y4, ev4⟩ := iI_of (G.2.2.2.2.2.2 (i + 4))
  have gv4 : iRg v4 := ⟨w4, y4⟩
  simp (disch := omega) only [B_L_law__2430, sh0, lt0, sh110, lt110, sc_1, sc_2, sc_3, sc_4, ev1, ev2, ev3, ev4, en_ops, en_opl, iI_add, Nat.sub_zero, Nat.zero_le, true_and, and_true, Nat.reduceAdd, Nat.reduceLeDiff]
  have hcd : ∀ k9, k9 < 4 → (if inC W v3 then if inL W v1 then if inY W v2 then if 1 ≤ v4 ∧ v4 ≤ 999999 then if isNow W then 0 else 4 else 3 else 2 else 2 else 1) = k9 + 1 → (fun k => if k = 0 then 1 else if k = 1 then 2 else if k = 2 then 3 else if k = 3 then 4 else 0) k9 = (if inC W v3 then if inL W v1 then if inY W v2 then if 1 ≤ v4 ∧ v4 ≤ 999999 then 4 else 3 else 2 else 2 else 1) ∧ (if inC W v3 then if inL W v1 then if inY W v2 then if 1 ≤ v4 ∧ v4 ≤ 999999 then 4 else 3 else 2 else 2 else 1) ≠ 0 ∧ (if inC W v3 then if inL W v1 then if inY W v2 then if 1 ≤ v4 ∧ v4 ≤ 999999 then 4 else 3 else 2 else 2 else 1) < 5 := by
    intro k9 hk er
    by_cases c1 : inC W v3
    · rw [if_pos c1] at er
      try rw [if_pos c1]
      by_cases c2 : inL W v1
      · rw [if_pos c2] at er
        try rw [if_pos c2]
        by_cases c3 : inY W v2
        · rw [if_pos c3] at er
          try rw [if_pos c3]
          by_cases c4 : 1 ≤ v4 ∧ v4 ≤ 999999
          · rw [if_pos c4] at er
            try rw [if_pos c4]
            by_cases c5 : isNow W
            · rw [if_pos c5] at er
              try rw [if_pos c5]
              exact absurd er (by omega)
            · rw [if_neg c5] at er
              try rw [if_neg c5]
              obtain rfl : k9 = 3 := by omega
              exact ⟨rfl, by decide, by decide⟩
          · rw [if_neg c4] at er
            try rw [if_neg c4]
            obtain rfl : k9 = 2 := by omega
            exact ⟨rfl, by decide, by decide⟩
        · rw [if_neg c3] at er
          try rw [if_neg c3]
          obtain rfl : k9 = 1 := by omega
          exact ⟨rfl, by decide, by decide⟩
      · rw [if_neg c2] at er
        try rw [if_neg c2]
        obtain rfl : k9 = 1 := by omega
        exact ⟨rfl, by decide, by decide⟩
    · rw [if_neg c1] at er
      try rw [if_neg c1]
      obtain rfl : k9 = 0 := by omega
      exact ⟨rfl, by decide, by decide⟩
  refine ⟨by omega, by omega, l_last (d := 90) hI hz (by omega) (by decide) (by decide) gv1 gv2 gv3 gv4 (lc_l (if inC W v3 then if inL W v1 then if inY W v2 then if 1 ≤ v4 ∧ v4 ≤ 999999 then 4 else 3 else 2 else 2 else 1) hJ hcd (fun hi1 hl1 hr1 k5 J1 D1 => ?_))⟩
  simp (disch := omega) only [sh110, lt110, sc_1, sc_2, sc_3, sc_4, ev1, ev2, ev3, ev4, en_ops, en_opl, iI_add, Nat.sub_zero, Nat.zero_le, true_and, and_true, Nat.reduceAdd, Nat.reduceLeDiff]
  refine m_clast (d := 91) J1 hz (by omega) gv1 gv2 gv3 gv4 (lc_m hz (fun _ => hz.mono (Nat.le_succ n)) D1 (fun hi2 W2 b C2 J2 z2 t2 l5 q2 => ?_))
  rcases q2 with ⟨q1, q2, q3⟩ | ⟨q1, q2⟩
  · subst q2
    exact lT_ok l5 t2 (fun _ => q3) (Hx W2 _ _ _ C2 J2 z2) (by omega) (by omega)
  · subst q2
    exact lT_ok l5 t2 (fun q0 => absurd q0 q1) (Hx W2 _ _ _ C2 J2 z2) (by omega) (by omega)
theorem lw_like (hI : InvC G W hi hr) (hJ : InvR G W hi hr) (hz : zOK n W) (hn : n < 512) (hL : i + 9 ≤ G.2.2.2.2.2.1) (hM : G.2.2.2.2.2.1 ≤ 4608) (g5 : u5 + 5 ≤ uc) (g6 : u6 + 30 ≤ us) (Hx : lHx G K n i u5 u6) : B_L_law__2522 G 100 K [.ref 4000000, .ref 0, .ref 110, .ref 133, .int (iI (i : Int)), jk, jk, jk] [] hi hl hr uc us := by
  obtain ⟨v1, w1, y1, ev1⟩ := iI_of (G.2.2.2.2.2.2 (i + 1))
  have gv1 : iRg v1 := ⟨w1, y1⟩
  obtain ⟨v2, w2, y2, ev2⟩ := iI_of (G.2.2.2.2.2.2 (i + 2))
  have gv2 : iRg v2 := ⟨w2, y2⟩
  simp (disch := omega) only [B_L_law__2522, sh0, lt0, sh110, lt110, sc_1, sc_2, ev1, ev2, en_ops, en_opl, iI_add, Nat.sub_zero, Nat.zero_le, true_and, and_true, Nat.reduceAdd, Nat.reduceLeDiff]
  have hcd : ∀ k9, k9 < 4 → (if inC W v1 ∧ inC W v2 then 0 else 1) = k9 + 1 → (fun k => if k = 0 then 1 else 0) k9 = 1 ∧ 1 ≠ 0 ∧ 1 < 5 := by
    intro k9 hk er
    by_cases c1 : inC W v1 ∧ inC W v2
    · rw [if_pos c1] at er
      try rw [if_pos c1]
      exact absurd er (by omega)
    · rw [if_neg c1] at er
      try rw [if_neg c1]
      obtain rfl : k9 = 0 := by omega
      exact ⟨rfl, by decide, by decide⟩
  refine ⟨by omega, by omega, l_like (d := 96) hI hz (by decide) (by decide) gv1 gv2 (lc_l 1 hJ hcd (fun hi1 hl1 hr1 k5 J1 D1 => ?_))⟩
  simp (disch := omega) only [sh110, lt110, sc_1, sc_2, ev1, ev2, en_ops, en_opl, iI_add, Nat.sub_zero, Nat.zero_le, true_and, and_true, Nat.reduceAdd, Nat.reduceLeDiff]
  refine m_clike (d := 95) J1 hz gv1 gv2 (lc_m hz (fun _ => hz.mono (Nat.le_succ n)) D1 (fun hi2 W2 b C2 J2 z2 t2 l5 q2 => ?_))
  rcases q2 with ⟨q1, q2, q3⟩ | ⟨q1, q2⟩
  · subst q2
    exact lT_ok l5 t2 (fun _ => q3) (Hx W2 _ _ _ C2 J2 z2) (by omega) (by omega)
  · subst q2
    exact lT_ok l5 t2 (fun q0 => absurd q0 q1) (Hx W2 _ _ _ C2 J2 z2) (by omega) (by omega)
theorem lw_walls (hI : InvC G W hi hr) (hJ : InvR G W hi hr) (hz : zOK n W) (hn : n < 512) (hL : i + 9 ≤ G.2.2.2.2.2.1) (hM : G.2.2.2.2.2.1 ≤ 4608) (g5 : u5 + 5 ≤ uc) (g6 : u6 + 30 ≤ us) (Hx : lHx G K n i u5 u6) : B_L_law__2590 G 100 K [.ref 4000000, .ref 0, .ref 110, .ref 133, .int (iI (i : Int)), jk, jk, jk] [] hi hl hr uc us := by
  obtain ⟨v1, w1, y1, ev1⟩ := iI_of (G.2.2.2.2.2.2 (i + 1))
  have gv1 : iRg v1 := ⟨w1, y1⟩
  obtain ⟨v2, w2, y2, ev2⟩ := iI_of (G.2.2.2.2.2.2 (i + 2))
  have gv2 : iRg v2 := ⟨w2, y2⟩
  obtain ⟨v3, w3, y3, ev3⟩ := iI_of (G.2.2.2.2.2.2 (i + 3))
  have gv3 : iRg v3 := ⟨w3, y3⟩
  obtain ⟨v4, w4, y4, ev4⟩ := iI_of (G.2.2.2.2.2.2 (i + 4))
  have gv4 : iRg v4 := ⟨w4, y4⟩
  obtain ⟨v5, w5, y5, ev5⟩ := iI_of (G.2.2.2.2.2.2 (i + 5))
  have gv5 : iRg v5 := ⟨w5, y5⟩
  obtain ⟨v6, w6, y6, ev6⟩ := iI_of (G.2.2.2.2.2.2 (i + 6))
  have gv6 : iRg v6 := ⟨w6, y6⟩
  simp (disch := omega) only [B_L_law__2590, sh0, lt0, sh110, lt110, sc_1, sc_2, sc_3, sc_4, sc_5, sc_6, ev1, ev2, ev3, ev4, ev5, ev6, en_ops, en_opl, iI_add, Nat.sub_zero, Nat.zero_le, true_and, and_true, Nat.reduceAdd, Nat.reduceLeDiff]
  have hcd : ∀ k9, k9 < 4 → (if inC W v5 then if inL W v1 then if inY W v2 then if (1 ≤ v3 ∧ v3 ≤ 3) ∧ (v3 ≤ (zE W).2.1 - 1) ∧ (1 ≤ v4 ∧ v4 ≤ 16) ∧ (0 ≤ v6 ∧ v6 ≤ 1) then if isNow W then 0 else 4 else 3 else 2 else 2 else 1) = k9 + 1 → (fun k => if k = 0 then 1 else if k = 1 then 2 else if k = 2 then 3 else if k = 3 then 4 else 0) k9 = (if inC W v5 then if inL W v1 then if inY W v2 then if (1 ≤ v3 ∧ v3 ≤ 3) ∧ (v3 ≤ (zE W).2.1 - 1) ∧ (1 ≤ v4 ∧ v4 ≤ 16) ∧ (0 ≤ v6 ∧ v6 ≤ 1) then 4 else 3 else 2 else 2 else 1) ∧ (if inC W v5 then if inL W v1 then if inY W v2 then if (1 ≤ v3 ∧ v3 ≤ 3) ∧ (v3 ≤ (zE W).2.1 - 1) ∧ (1 ≤ v4 ∧ v4 ≤ 16) ∧ (0 ≤ v6 ∧ v6 ≤ 1) then 4 else 3 else 2 else 2 else 1) ≠ 0 ∧ (if inC W v5 then if inL W v1 then if inY W v2 then if (1 ≤ v3 ∧ v3 ≤ 3) ∧ (v3 ≤ (zE W).2.1 - 1) ∧ (1 ≤ v4 ∧ v4 ≤ 16) ∧ (0 ≤ v6 ∧ v6 ≤ 1) then 4 else 3 else 2 else 2 else 1) < 5 := by
    intro k9 hk er
    by_cases c1 : inC W v5
    · rw [if_pos c1] at er
      try rw [if_pos c1]
      by_cases c2 : inL W v1
      · rw [if_pos c2] at er
        try rw [if_pos c2]
        by_cases c3 : inY W v2
        · rw [if_pos c3] at er
          try rw [if_pos c3]
          by_cases c4 : (1 ≤ v3 ∧ v3 ≤ 3) ∧ (v3 ≤ (zE W).2.1 - 1) ∧ (1 ≤ v4 ∧ v4 ≤ 16) ∧ (0 ≤ v6 ∧ v6 ≤ 1)
          · rw [if_pos c4] at er
            try rw [if_pos c4]
            by_cases c5 : isNow W
            · rw [if_pos c5] at er
              try rw [if_pos c5]
              exact absurd er (by omega)
            · rw [if_neg c5] at er
              try rw [if_neg c5]
              obtain rfl : k9 = 3 := by omega
              exact ⟨rfl, by decide, by decide⟩
          · rw [if_neg c4] at er
            try rw [if_neg c4]
            obtain rfl : k9 = 2 := by omega
            exact ⟨rfl, by decide, by decide⟩
        · rw [if_neg c3] at er
          try rw [if_neg c3]
          obtain rfl : k9 = 1 := by omega
          exact ⟨rfl, by decide, by decide⟩
      · rw [if_neg c2] at er
        try rw [if_neg c2]
        obtain rfl : k9 = 1 := by omega
        exact ⟨rfl, by decide, by decide⟩
    · rw [if_neg c1] at er
      try rw [if_neg c1]
      obtain rfl : k9 = 0 := by omega
      exact ⟨rfl, by decide, by decide⟩
  refine ⟨by omega, by omega, l_walls (d := 90) hI hz (by omega) (by decide) (by decide) gv1 gv2 gv3 gv4 gv5 gv6 (lc_l (if inC W v5 then if inL W v1 then if inY W v2 then if (1 ≤ v3 ∧ v3 ≤ 3) ∧ (v3 ≤ (zE W).2.1 - 1) ∧ (1 ≤ v4 ∧ v4 ≤ 16) ∧ (0 ≤ v6 ∧ v6 ≤ 1) then 4 else 3 else 2 else 2 else 1) hJ hcd (fun hi1 hl1 hr1 k5 J1 D1 => ?_))⟩
  simp (disch := omega) only [sh110, lt110, sc_1, sc_2, sc_3, sc_4, sc_5, sc_6, ev1, ev2, ev3, ev4, ev5, ev6, en_ops, en_opl, iI_add, Nat.sub_zero, Nat.zero_le, true_and, and_true, Nat.reduceAdd, Nat.reduceLeDiff]
  refine m_cwalls (d := 91) J1 hz (by omega) gv1 gv2 gv3 gv4 gv5 gv6 (lc_m hz (fun _ => hz.mono (Nat.le_succ n)) D1 (fun hi2 W2 b C2 J2 z2 t2 l5 q2 => ?_))
  rcases q2 with ⟨q1, q2, q3⟩ | ⟨q1, q2⟩
  · subst q2
    exact lT_ok l5 t2 (fun _ => q3) (Hx W2 _ _ _ C2 J2 z2) (by omega) (by omega)
  · subst q2
    exact lT_ok l5 t2 (fun q0 => absurd q0 q1) (Hx W2 _ _ _ C2 J2 z2) (by omega) (by omega)
theorem lw_high (hI : InvC G W hi hr) (hJ : InvR G W hi hr) (hz : zOK n W) (hn : n < 512) (hL : i + 9 ≤ G.2.2.2.2.2.1) (hM : G.2.2.2.2.2.1 ≤ 4608) (g5 : u5 + 5 ≤ uc) (g6 : u6 + 30 ≤ us) (Hx : lHx G K n i u5 u6) : B_L_law__2708 G 100 K [.ref 4000000, .ref 0, .ref 110, .ref 133, .int (iI (i : Int)), jk, jk, jk] [] hi hl hr uc us := by
  obtain ⟨v1, w1, y1, ev1⟩ := iI_of (G.2.2.2.2.2.2 (i + 1))
  have gv1 : iRg v1 := ⟨w1, y1⟩
  obtain ⟨v2, w2, y2, ev2⟩ := iI_of (G.2.2.2.2.2.2 (i + 2))
  have gv2 : iRg v2 := ⟨w2, y2⟩
  simp (disch := omega) only [B_L_law__2708, sh0, lt0, sh110, lt110, sc_1, sc_2, ev1, ev2, en_ops, en_opl, iI_add, Nat.sub_zero, Nat.zero_le, true_and, and_true, Nat.reduceAdd, Nat.reduceLeDiff]
  have hcd : ∀ k9, k9 < 4 → (if inL W v1 then if inY W v2 then if isNow W then 0 else 4 else 2 else 2) = k9 + 1 → (fun k => if k = 1 then 1 else if k = 3 then 2 else 0) k9 = (if inL W v1 then if inY W v2 then 2 else 1 else 1) ∧ (if inL W v1 then if inY W v2 then 2 else 1 else 1) ≠ 0 ∧ (if inL W v1 then if inY W v2 then 2 else 1 else 1) < 5 := by
    intro k9 hk er
    by_cases c1 : inL W v1
    · rw [if_pos c1] at er
      try rw [if_pos c1]
      by_cases c2 : inY W v2
      · rw [if_pos c2] at er
        try rw [if_pos c2]
        by_cases c3 : isNow W
        · rw [if_pos c3] at er
          try rw [if_pos c3]
          exact absurd er (by omega)
        · rw [if_neg c3] at er
          try rw [if_neg c3]
          obtain rfl : k9 = 3 := by omega
          exact ⟨rfl, by decide, by decide⟩
      · rw [if_neg c2] at er
        try rw [if_neg c2]
        obtain rfl : k9 = 1 := by omega
        exact ⟨rfl, by decide, by decide⟩
    · rw [if_neg c1] at er
      try rw [if_neg c1]
      obtain rfl : k9 = 1 := by omega
      exact ⟨rfl, by decide, by decide⟩
  refine ⟨by omega, by omega, l_high (d := 90) hI hz (by omega) (by decide) (by decide) gv1 gv2 (lc_l (if inL W v1 then if inY W v2 then 2 else 1 else 1) hJ hcd (fun hi1 hl1 hr1 k5 J1 D1 => ?_))⟩
  simp (disch := omega) only [sh110, lt110, sc_1, sc_2, ev1, ev2, en_ops, en_opl, iI_add, Nat.sub_zero, Nat.zero_le, true_and, and_true, Nat.reduceAdd, Nat.reduceLeDiff]
  refine m_chigh (d := 91) J1 hz (by omega) gv1 gv2 (lc_m hz (fun _ => hz.mono (Nat.le_succ n)) D1 (fun hi2 W2 b C2 J2 z2 t2 l5 q2 => ?_))
  rcases q2 with ⟨q1, q2, q3⟩ | ⟨q1, q2⟩
  · subst q2
    exact lT_ok l5 t2 (fun _ => q3) (Hx W2 _ _ _ C2 J2 z2) (by omega) (by omega)
  · subst q2
    exact lT_ok l5 t2 (fun q0 => absurd q0 q1) (Hx W2 _ _ _ C2 J2 z2) (by omega) (by omega)
theorem lw_one (hI : InvC G W hi hr) (hJ : InvR G W hi hr) (hz : zOK n W) (hn : n < 512) (hL : i + 9 ≤ G.2.2.2.2.2.1) (hM : G.2.2.2.2.2.1 ≤ 4608) (g5 : u5 + 5 ≤ uc) (g6 : u6 + 30 ≤ us) (Hx : lHx G K n i u5 u6) : B_L_law__2776 G 100 K [.ref 4000000, .ref 0, .ref 110, .ref 133, .int (iI (i : Int)), jk, jk, jk] [] hi hl hr uc us := by
  obtain ⟨v1, w1, y1, ev1⟩ := iI_of (G.2.2.2.2.2.2 (i + 1))
  have gv1 : iRg v1 := ⟨w1, y1⟩
  simp (disch := omega) only [B_L_law__2776, sh0, lt0, sh110, lt110, sc_1, ev1, en_ops, en_opl, iI_add, Nat.sub_zero, Nat.zero_le, true_and, and_true, Nat.reduceAdd, Nat.reduceLeDiff]
  have hcd : ∀ k9, k9 < 4 → (if 0 ≤ v1 ∧ v1 ≤ 1 then 0 else 3) = k9 + 1 → (fun k => if k = 2 then 1 else 0) k9 = 1 ∧ 1 ≠ 0 ∧ 1 < 5 := by
    intro k9 hk er
    by_cases c1 : 0 ≤ v1 ∧ v1 ≤ 1
    · rw [if_pos c1] at er
      try rw [if_pos c1]
      exact absurd er (by omega)
    · rw [if_neg c1] at er
      try rw [if_neg c1]
      obtain rfl : k9 = 2 := by omega
      exact ⟨rfl, by decide, by decide⟩
  refine ⟨by omega, by omega, l_one (d := 93) hI hz (by decide) (by decide) gv1 (lc_l 1 hJ hcd (fun hi1 hl1 hr1 k5 J1 D1 => ?_))⟩
  simp (disch := omega) only [sh110, lt110, sc_1, ev1, en_ops, en_opl, iI_add, Nat.sub_zero, Nat.zero_le, true_and, and_true, Nat.reduceAdd, Nat.reduceLeDiff]
  refine m_cone (d := 93) J1 hz gv1 (lc_m hz (fun _ => hz.mono (Nat.le_succ n)) D1 (fun hi2 W2 b C2 J2 z2 t2 l5 q2 => ?_))
  rcases q2 with ⟨q1, q2, q3⟩ | ⟨q1, q2⟩
  · subst q2
    exact lT_ok l5 t2 (fun _ => q3) (Hx W2 _ _ _ C2 J2 z2) (by omega) (by omega)
  · subst q2
    exact lT_ok l5 t2 (fun q0 => absurd q0 q1) (Hx W2 _ _ _ C2 J2 z2) (by omega) (by omega)
theorem lw_seen (hI : InvC G W hi hr) (hJ : InvR G W hi hr) (hz : zOK n W) (hn : n < 512) (hL : i + 9 ≤ G.2.2.2.2.2.1) (hM : G.2.2.2.2.2.1 ≤ 4608) (g5 : u5 + 5 ≤ uc) (g6 : u6 + 30 ≤ us) (Hx : lHx G K n i u5 u6) : B_L_law__2832 G 100 K [.ref 4000000, .ref 0, .ref 110, .ref 133, .int (iI (i : Int)), jk, jk, jk] [] hi hl hr uc us := by
  obtain ⟨v1, w1, y1, ev1⟩ := iI_of (G.2.2.2.2.2.2 (i + 1))
  have gv1 : iRg v1 := ⟨w1, y1⟩
  obtain ⟨v2, w2, y2, ev2⟩ := iI_of (G.2.2.2.2.2.2 (i + 2))
  have gv2 : iRg v2 := ⟨w2, y2⟩
  simp (disch := omega) only [B_L_law__2832, sh0, lt0, sh110, lt110, sc_1, sc_2, ev1, ev2, en_ops, en_opl, iI_add, Nat.sub_zero, Nat.zero_le, true_and, and_true, Nat.reduceAdd, Nat.reduceLeDiff]
  have hcd : ∀ k9, k9 < 4 → (if (1 ≤ v1 ∧ v1 ≤ 999) ∧ 1 ≤ v2 ∧ v2 ≤ 16 then 0 else 3) = k9 + 1 → (fun k => if k = 2 then 1 else 0) k9 = 1 ∧ 1 ≠ 0 ∧ 1 < 5 := by
    intro k9 hk er
    by_cases c1 : (1 ≤ v1 ∧ v1 ≤ 999) ∧ 1 ≤ v2 ∧ v2 ≤ 16
    · rw [if_pos c1] at er
      try rw [if_pos c1]
      exact absurd er (by omega)
    · rw [if_neg c1] at er
      try rw [if_neg c1]
      obtain rfl : k9 = 2 := by omega
      exact ⟨rfl, by decide, by decide⟩
  refine ⟨by omega, by omega, l_seen (d := 97) hI hz (by decide) (by decide) gv1 gv2 (lc_l 1 hJ hcd (fun hi1 hl1 hr1 k5 J1 D1 => ?_))⟩
  simp (disch := omega) only [sh110, lt110, sc_1, sc_2, ev1, ev2, en_ops, en_opl, iI_add, Nat.sub_zero, Nat.zero_le, true_and, and_true, Nat.reduceAdd, Nat.reduceLeDiff]
  refine m_cseen (d := 98) J1 gv1 gv2 (lc_m hz (fun _ => hz.mono (Nat.le_succ n)) D1 (fun hi2 W2 b C2 J2 z2 t2 l5 q2 => ?_))
  rcases q2 with ⟨q1, q2, q3⟩ | ⟨q1, q2⟩
  · subst q2
    exact lT_ok l5 t2 (fun _ => q3) (Hx W2 _ _ _ C2 J2 z2) (by omega) (by omega)
  · subst q2
    exact lT_ok l5 t2 (fun q0 => absurd q0 q1) (Hx W2 _ _ _ C2 J2 z2) (by omega) (by omega)
theorem lw_image (hI : InvC G W hi hr) (hJ : InvR G W hi hr) (hz : zOK n W) (hn : n < 512) (hL : i + 9 ≤ G.2.2.2.2.2.1) (hM : G.2.2.2.2.2.1 ≤ 4608) (g5 : u5 + 5 ≤ uc) (g6 : u6 + 30 ≤ us) (Hx : lHx G K n i u5 u6) : B_L_law__2900 G 100 K [.ref 4000000, .ref 0, .ref 110, .ref 133, .int (iI (i : Int)), jk, jk, jk] [] hi hl hr uc us := by
  simp (disch := omega) only [B_L_law__2900, sh0, lt0, sh110, lt110, en_ops, en_opl, iI_add, Nat.sub_zero, Nat.zero_le, true_and, and_true, Nat.reduceAdd, Nat.reduceLeDiff]
  refine c_image (d := 98) hI hz (lc_c0 hJ (fun hi1 hl1 hr1 J1 C1 => ?_))
  simp (disch := omega) only [sh110, lt110, en_ops, en_opl, iI_add, Nat.sub_zero, Nat.zero_le, true_and, and_true, Nat.reduceAdd, Nat.reduceLeDiff]
  refine m_cimage (d := 99) J1 hz (lc_m0 (by split <;> first | exact hz.img (by assumption) | exact hz.mono (Nat.le_succ n)) C1 (fun hi2 C2 J2 => ?_))
  simp (disch := omega) only [en_ops, en_opl, iI_add, Nat.sub_zero, Nat.zero_le, true_and, and_true, Nat.reduceAdd, Nat.reduceLeDiff]
  exact ⟨fun _ => V_5 (Hx _ _ _ _ C2 J2 (by split <;> first | exact hz.img (by assumption) | exact hz.mono (Nat.le_succ n))) (by omega) (by omega), fun e9 => (e9 (by first | trivial | rfl)).elim⟩
theorem lw_restore (hI : InvC G W hi hr) (hJ : InvR G W hi hr) (hz : zOK n W) (hn : n < 512) (hL : i + 9 ≤ G.2.2.2.2.2.1) (hM : G.2.2.2.2.2.1 ≤ 4608) (g5 : u5 + 5 ≤ uc) (g6 : u6 + 30 ≤ us) (Hx : lHx G K n i u5 u6) : B_L_law__2913 G 100 K [.ref 4000000, .ref 0, .ref 110, .ref 133, .int (iI (i : Int)), jk, jk, jk] [] hi hl hr uc us := by
  simp (disch := omega) only [B_L_law__2913, sh0, lt0, sh110, lt110, en_ops, en_opl, iI_add, Nat.sub_zero, Nat.zero_le, true_and, and_true, Nat.reduceAdd, Nat.reduceLeDiff]
  refine c_restore (d := 98) hI hz (lc_c0 hJ (fun hi1 hl1 hr1 J1 C1 => ?_))
  simp (disch := omega) only [sh110, lt110, en_ops, en_opl, iI_add, Nat.sub_zero, Nat.zero_le, true_and, and_true, Nat.reduceAdd, Nat.reduceLeDiff]
  refine m_crestore (d := 99) J1 hz (lc_m0 (by split <;> first | exact hz.mono (Nat.le_succ n) | exact hz.res (by assumption)) C1 (fun hi2 C2 J2 => ?_))
  simp (disch := omega) only [en_ops, en_opl, iI_add, Nat.sub_zero, Nat.zero_le, true_and, and_true, Nat.reduceAdd, Nat.reduceLeDiff]
  exact ⟨fun _ => V_5 (Hx _ _ _ _ C2 J2 (by split <;> first | exact hz.mono (Nat.le_succ n) | exact hz.res (by assumption))) (by omega) (by omega), fun e9 => (e9 (by first | trivial | rfl)).elim⟩
theorem lw_status (hI : InvC G W hi hr) (hJ : InvR G W hi hr) (hz : zOK n W) (hn : n < 512) (hL : i + 9 ≤ G.2.2.2.2.2.1) (hM : G.2.2.2.2.2.1 ≤ 4608) (g5 : u5 + 5 ≤ uc) (g6 : u6 + 30 ≤ us) (Hx : lHx G K n i u5 u6) : B_L_law__2926 G 100 K [.ref 4000000, .ref 0, .ref 110, .ref 133, .int (iI (i : Int)), jk, jk, jk] [] hi hl hr uc us := by
  obtain ⟨v1, w1, y1, ev1⟩ := iI_of (G.2.2.2.2.2.2 (i + 1))
  have gv1 : iRg v1 := ⟨w1, y1⟩
  simp (disch := omega) only [B_L_law__2926, sh0, lt0, sh110, lt110, sc_1, ev1, en_ops, en_opl, iI_add, Nat.sub_zero, Nat.zero_le, true_and, and_true, Nat.reduceAdd, Nat.reduceLeDiff]
  refine c_status (d := 99) hI gv1 (lc_c0 hJ (fun hi1 hl1 hr1 J1 C1 => ?_))
  simp (disch := omega) only [sh110, lt110, sc_1, ev1, en_ops, en_opl, iI_add, Nat.sub_zero, Nat.zero_le, true_and, and_true, Nat.reduceAdd, Nat.reduceLeDiff]
  refine m_cstatus (d := 98) J1 gv1 (lc_m0 (hz.mono (Nat.le_succ n)) C1 (fun hi2 C2 J2 => ?_))
  simp (disch := omega) only [en_ops, en_opl, iI_add, Nat.sub_zero, Nat.zero_le, true_and, and_true, Nat.reduceAdd, Nat.reduceLeDiff]
  exact ⟨fun _ => V_5 (Hx _ _ _ _ C2 J2 (hz.mono (Nat.le_succ n))) (by omega) (by omega), fun e9 => (e9 (by first | trivial | rfl)).elim⟩
theorem lw_count (hI : InvC G W hi hr) (hJ : InvR G W hi hr) (hz : zOK n W) (hn : n < 512) (hL : i + 9 ≤ G.2.2.2.2.2.1) (hM : G.2.2.2.2.2.1 ≤ 4608) (g5 : u5 + 5 ≤ uc) (g6 : u6 + 30 ≤ us) (Hx : lHx G K n i u5 u6) : B_L_law__2951 G 100 K [.ref 4000000, .ref 0, .ref 110, .ref 133, .int (iI (i : Int)), jk, jk, jk] [] hi hl hr uc us := by
  obtain ⟨v1, w1, y1, ev1⟩ := iI_of (G.2.2.2.2.2.2 (i + 1))
  have gv1 : iRg v1 := ⟨w1, y1⟩
  simp (disch := omega) only [B_L_law__2951, sh0, lt0, sh110, lt110, sc_1, ev1, en_ops, en_opl, iI_add, Nat.sub_zero, Nat.zero_le, true_and, and_true, Nat.reduceAdd, Nat.reduceLeDiff]
  refine c_count (d := 98) hI hz gv1 (lc_c0 hJ (fun hi1 hl1 hr1 J1 C1 => ?_))
  simp (disch := omega) only [sh110, lt110, sc_1, ev1, en_ops, en_opl, iI_add, Nat.sub_zero, Nat.zero_le, true_and, and_true, Nat.reduceAdd, Nat.reduceLeDiff]
  refine m_ccount (d := 99) J1 hz gv1 (lc_m0 (hz.mono (Nat.le_succ n)) C1 (fun hi2 C2 J2 => ?_))
  simp (disch := omega) only [en_ops, en_opl, iI_add, Nat.sub_zero, Nat.zero_le, true_and, and_true, Nat.reduceAdd, Nat.reduceLeDiff]
  exact ⟨fun _ => V_5 (Hx _ _ _ _ C2 J2 (hz.mono (Nat.le_succ n))) (by omega) (by omega), fun e9 => (e9 (by first | trivial | rfl)).elim⟩
end
