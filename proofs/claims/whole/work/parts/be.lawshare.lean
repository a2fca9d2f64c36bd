/-! what the law's cases share -/
section
variable {G : en_G} {Y Yc : en_Y} {d xc xs : Nat} {w w1 : en_Wd} {K : en_K} {k : en_Kont} {kx : en_KX} {ls r : List Value} {hi : en_I} {hl : en_L} {hr : en_F} {uc us : Nat}
theorem oc_ins10 {a0 a1 a2 a3 a4 a5 a6 a7 a8 a9 : Value} : o_ins G d xc xs Yc 10 w w1 k kx ls (a0 :: a1 :: a2 :: a3 :: a4 :: a5 :: a6 :: a7 :: a8 :: a9 :: r) hi hl hr uc us = (en_cs r ≤ 8 ∧ xc ≤ uc ∧ xs ≤ us ∧ en_Call G d xc xs Yc w w1 [a9, a8, a7, a6, a5, a4, a3, a2, a1, a0] hi hl hr (en_kk k kx ls r (uc - xc) (us - xs))) := propext ⟨fun h => h.2, fun h => ⟨by simp, h⟩⟩
end
/-- less may be known of the locals, more may be left -/
theorem V_wk {G : en_G} {Y : en_Y} {d n : Nat} {b : Bool} {w' : en_Wd} {K : en_K} {pc : Nat} {ls ls' st : List Value} {hi : en_I} {hl : en_L} {hr : en_F} {uc us uc' us' : Nat} (h : en_V G Y d (n, false) w' K pc ls' st hi hl hr uc us) (hlen : ls'.length = ls.length) (hle : ∀ (i : Nat) (v : Value), ls'[i]? = some v → (∀ z, v ≠ .float z) → ls[i]? = some v) (h1 : uc ≤ uc') (h2 : us ≤ us') : en_V G Y d (n, b) w' K pc ls st hi hl hr uc' us' := by
  intro p e R s m args below meth c Q xc xs hC H locs cells slots rl g1 g2 g3 g4 g5 g6
  exact h p e R s m args below meth c Q xc xs hC H locs cells slots rl ⟨g1.1, by rw [hlen]; exact g1.2.1, g1.2.2.1, fun i v a b => g1.2.2.2 i v (hle i v a b) b⟩ g2 g3 (by omega) (by omega) (fun e9 => by cases e9)
theorem wk_5 {a b c e f x5 x6 x7 : Value} : ∀ (i : Nat) (v : Value), [a, b, c, e, f, jk, jk, jk][i]? = some v → (∀ z, v ≠ .float z) → [a, b, c, e, f, x5, x6, x7][i]? = some v := by
  intro i v h hz
  match i, h with
  | 0, h => exact h
  | 1, h => exact h
  | 2, h => exact h
  | 3, h => exact h
  | 4, h => exact h
  | 5, h => exact absurd (Option.some.inj h).symm (hz 0)
  | 6, h => exact absurd (Option.some.inj h).symm (hz 0)
  | 7, h => exact absurd (Option.some.inj h).symm (hz 0)
  | i + 8, h => cases h
theorem V_5 {G : en_G} {Y : en_Y} {d : Nat} {w' : en_Wd} {K : en_K} {pc : Nat} {a b c e f x5 x6 x7 : Value} {st : List Value} {hi : en_I} {hl : en_L} {hr : en_F} {uc us uc' us' : Nat} (h : en_V G Y d wN w' K pc [a, b, c, e, f, jk, jk, jk] st hi hl hr uc us) (h1 : uc ≤ uc') (h2 : us ≤ us') : en_V G Y d wN w' K pc [a, b, c, e, f, x5, x6, x7] st hi hl hr uc' us' := V_wk (n := 134) (b := false) h rfl wk_5 h1 h2
section
variable {G : en_G} {K : en_K} {W W' : zW} {n i : Nat} {hi : en_I} {hl : en_L} {hr : en_F}
/-- the class's wrapper has ended: what then stands -/
theorem lc_l {r : Nat} {cd : Nat → Nat} (code : Nat) {v : Int64} {kt : en_Kont} {ls rs : List Value} {uc us : Nat} (hJ : InvR G W hi hr) (hcd : ∀ k9, k9 < 4 → r = k9 + 1 → cd k9 = code ∧ code ≠ 0 ∧ code < 5)
    (H : ∀ (hi1 : en_I) (hl1 : en_L) (hr1 : en_F) (k5 : Nat), InvR G W hi1 hr1 → ((k5 = 0 ∧ r = 0 ∧ hl1 133 0 = v ∧ InvC G W' hi1 hr1) ∨ (k5 = code ∧ code ≠ 0 ∧ code < 5 ∧ ∃ k9, k9 < 4 ∧ r = k9 + 1 ∧ InvC G (zRef W k9) hi1 hr1)) → kt ls (.int (iI (k5 : Int)) :: rs) hi1 hl1 hr1 uc us) : lEnd G W W' r cd v (en_kk kt x_no ls rs uc us) hi hl hr := by
  refine ⟨fun e hi' hl' hr' I f1 f2 f3 => ?_, fun k9 hk e hi' hl' hr' I f1 f2 f3 => ?_⟩
  · exact H hi' (en_up hl' 133 0 v) hr' 0 (hJ.fc f1 f3) (Or.inl ⟨rfl, e, up_at, I⟩)
  · obtain ⟨c1, c2, c3⟩ := hcd k9 hk e
    rw [c1]
    exact H hi' hl' hr' code (hJ.fc f1 f3) (Or.inr ⟨rfl, c2, c3, k9, hk, e, I⟩)
/-- and then the reference's call -/
theorem lc_m {r code k5 : Nat} {v0 v : Value} {vl : Int64} {kt : en_Kont} {ls rs : List Value} {uc us : Nat} (hz : zOK n W) (hz' : r = 0 → zOK (n + 1) W') (D : (k5 = 0 ∧ r = 0 ∧ hl 133 0 = vl ∧ InvC G W' hi hr) ∨ (k5 = code ∧ code ≠ 0 ∧ code < 5 ∧ ∃ k9, k9 < 4 ∧ r = k9 + 1 ∧ InvC G (zRef W k9) hi hr))
    (H : ∀ (hi2 : en_I) (W2 : zW) (b : Value), InvC G W2 hi2 hr → InvR G W2 hi2 hr → zOK (n + 1) W2 → hi2 110 0 = iI (k5 : Int) → k5 < 5 → ((k5 = 0 ∧ b = v ∧ hl 133 0 = vl) ∨ (k5 ≠ 0 ∧ b = v0)) → kt ls (b :: rs) hi2 hl hr uc us) : rEnd G W W' r code v0 v (en_kk kt x_no ls rs uc us) hi hl hr := by
  refine ⟨fun e hi' I f h0 => ?_, fun k9 hk e hi' I f h0 => ?_⟩
  · rcases D with ⟨d1, d2, d3, d4⟩ | ⟨d1, d2, d3, k8, d4, d5, d6⟩
    · subst d1
      exact H hi' W' v (d4.fm (hz' e) f) I (hz' e) h0 (by omega) (Or.inl ⟨rfl, rfl, d3⟩)
    · omega
  · rcases D with ⟨d1, d2, d3, d4⟩ | ⟨d1, d2, d3, k8, d4, d5, d6⟩
    · omega
    · obtain rfl : k8 = k9 := by omega
      subst d1
      exact H hi' (zRef W k8) v0 (d6.fm hz.ref f) I hz.ref h0 d3 (Or.inr ⟨d2, rfl⟩)
/-- a call without a refusal -/
theorem lc_c0 {v : Value} {kt : en_Kont} {ls rs : List Value} {uc us : Nat} (hJ : InvR G W hi hr) (H : ∀ (hi1 : en_I) (hl1 : en_L) (hr1 : en_F), InvR G W hi1 hr1 → InvC G W' hi1 hr1 → kt ls (v :: rs) hi1 hl1 hr1 uc us) : cEnd G W W' 0 v (en_kk kt x_no ls rs uc us) hi hl hr := by
  refine ⟨fun e hi' hl' hr' I f1 f2 f3 => ?_, fun k9 hk e => by omega⟩
  exact H hi' hl' hr' (hJ.fc f1 f3) I
theorem lc_m0 {v0 v : Value} {kt : en_Kont} {ls rs : List Value} {uc us : Nat} (hz' : zOK (n + 1) W') (hC : InvC G W' hi hr) (H : ∀ (hi2 : en_I), InvC G W' hi2 hr → InvR G W' hi2 hr → kt ls (v :: rs) hi2 hl hr uc us) : rEnd G W W' 0 0 v0 v (en_kk kt x_no ls rs uc us) hi hl hr := by
  refine ⟨fun e hi' I f h0 => ?_, fun k9 hk e => by omega⟩
  exact H hi' (hC.fm hz' f) I
/-- what the loop wants behind a call -/
def lHx (G : en_G) (K : en_K) (n i uc us : Nat) : Prop := ∀ (W : zW) (hi : en_I) (hl : en_L) (hr : en_F), InvC G W hi hr → InvR G W hi hr → zOK (n + 1) W → en_V G Y_L_law_ (100 + 1) wN wN K 2976 [.ref 4000000, .ref 0, .ref 110, .ref 133, .int (iI (i : Int)), jk, jk, jk] [] hi hl hr uc us
theorem m_thrown {d xc xs : Nat} (H : K (.inl (some (.int (hi 110 0)))) hi hl hr) : en_Call G (d + 1) xc xs Y_X11_thrown wN wN [.ref 110] hi hl hr K := by
  apply en_X11_thrown
  simp (disch := omega) only [B_X11_thrown_0, sh110, lt110, en_ops, en_opc, iI_add, iI_mul, iI_sub, jL_add, jL_mul, iI_le, iI_lt, iI_eq, iI_eq0, iI_lt0, iI_0le, iI_le0, iI_0lt, jL_iI, iI_jL, lc_eq, lc_lt, lc_le, lc_ge, lc_gt, Nat.sub_zero, Nat.zero_le, true_and, and_true, Nat.reduceAdd, Nat.reduceLeDiff]
  exact H
theorem cmp_self (X : Int64) : lg_cmp X X = 0 := by
  obtain ⟨a, h1, h2, e⟩ : ∃ a : Int, -9223372036854775808 ≤ a ∧ a < 9223372036854775808 ∧ X = jL a := ⟨X.toInt, Int64.le_toInt X, Int64.toInt_lt X, (Int64.ofInt_toInt X).symm⟩
  rw [e, lc_eq h1 h2 h1 h2]

def lT (G : en_G) (d : Nat) (K : en_K) : en_Kont := (o_istore 6 (o_aload 2 (o_inv G d 0 0 Y_X11_thrown 0 11 wN wN (o_iload 5 (o_iceq (o_iload 5 (o_ifne (kv G Y_L_law_ (d + 1) wN wN K 2976) (o_aload 3 (o_iconst 0 (o_laload wN (o_iload 6 (o_i2l (o_lcmp (o_ifeq (kv G Y_L_law_ (d + 1) wN wN K 2976) (o_iconst 0 (o_nret .boolean K))))))))))) (o_iconst 0 (o_nret .boolean K)))) x_no)))
def lTL (G : en_G) (d : Nat) (K : en_K) : en_Kont := (o_lstore 6 (o_aload 2 (o_inv G d 0 0 Y_X11_thrown 0 11 wN wN (o_iload 5 (o_iceq (o_iload 5 (o_ifne (kv G Y_L_law_ (d + 1) wN wN K 2976) (o_aload 3 (o_iconst 0 (o_laload wN (o_lload 6 (o_lcmp (o_ifeq (kv G Y_L_law_ (d + 1) wN wN K 2976) (o_iconst 0 (o_nret .boolean K)))))))))) (o_iconst 0 (o_nret .boolean K)))) x_no)))
theorem lT_ok {k5 : Nat} {b : Int32} {uc us u5 u6 : Nat} (h5 : k5 < 5) (ht : hi 110 0 = iI (k5 : Int)) (hv : k5 = 0 → hl 133 0 = b.toInt64) (H : en_V G Y_L_law_ (100 + 1) wN wN K 2976 [.ref 4000000, .ref 0, .ref 110, .ref 133, .int (iI (i : Int)), jk, jk, jk] [] hi hl hr u5 u6) (g5 : u5 ≤ uc) (g6 : u6 ≤ us) : lT G 100 K [.ref 4000000, .ref 0, .ref 110, .ref 133, .int (iI (i : Int)), .int (iI (k5 : Int)), jk, jk] [.int b] hi hl hr uc us := by
  unfold lT
  simp (disch := omega) only [sh110, lt110, en_ops, en_opc, iI_add, iI_mul, iI_sub, jL_add, jL_mul, iI_le, iI_lt, iI_eq, iI_eq0, iI_lt0, iI_0le, iI_le0, iI_0lt, jL_iI, iI_jL, lc_eq, lc_lt, lc_le, lc_ge, lc_gt, Nat.sub_zero, Nat.zero_le, true_and, and_true, Nat.reduceAdd, Nat.reduceLeDiff]
  refine m_thrown (d := 99) ?_
  simp (disch := omega) only [ht, lt133, en_ops, en_opc, iI_add, iI_mul, iI_sub, jL_add, jL_mul, iI_le, iI_lt, iI_eq, iI_eq0, iI_lt0, iI_0le, iI_le0, iI_0lt, jL_iI, iI_jL, lc_eq, lc_lt, lc_le, lc_ge, lc_gt, Nat.sub_zero, Nat.zero_le, true_and, and_true, Nat.reduceAdd, Nat.reduceLeDiff]
  refine ⟨fun _ => ⟨fun _ => V_5 H g5 g6, fun e => ?_⟩, fun e => (e (by first | trivial | rfl)).elim⟩
  refine ⟨0, rfl, by rw [sh133]; decide, by decide, ?_⟩
  rw [hv (by omega)]
  simp (disch := omega) only [cmp_self, en_ops, en_opc, iI_add, iI_mul, iI_sub, jL_add, jL_mul, iI_le, iI_lt, iI_eq, iI_eq0, iI_lt0, iI_0le, iI_le0, iI_0lt, jL_iI, iI_jL, lc_eq, lc_lt, lc_le, lc_ge, lc_gt, Nat.sub_zero, Nat.zero_le, true_and, and_true, Nat.reduceAdd, Nat.reduceLeDiff]
  exact ⟨fun _ => V_5 H g5 g6, fun e9 => (e9 (by first | trivial | rfl)).elim⟩

theorem lTL_ok {k5 : Nat} {b : Int64} {uc us u5 u6 : Nat} (h5 : k5 < 5) (ht : hi 110 0 = iI (k5 : Int)) (hv : k5 = 0 → hl 133 0 = b) (H : en_V G Y_L_law_ (100 + 1) wN wN K 2976 [.ref 4000000, .ref 0, .ref 110, .ref 133, .int (iI (i : Int)), jk, jk, jk] [] hi hl hr u5 u6) (g5 : u5 ≤ uc) (g6 : u6 ≤ us) : lTL G 100 K [.ref 4000000, .ref 0, .ref 110, .ref 133, .int (iI (i : Int)), .int (iI (k5 : Int)), jk, jk] [.long b] hi hl hr uc us := by
  unfold lTL
  simp (disch := omega) only [sh110, lt110, en_ops, en_opc, iI_add, iI_mul, iI_sub, jL_add, jL_mul, iI_le, iI_lt, iI_eq, iI_eq0, iI_lt0, iI_0le, iI_le0, iI_0lt, jL_iI, iI_jL, lc_eq, lc_lt, lc_le, lc_ge, lc_gt, Nat.sub_zero, Nat.zero_le, true_and, and_true, Nat.reduceAdd, Nat.reduceLeDiff]
  refine m_thrown (d := 99) ?_
  simp (disch := omega) only [ht, lt133, en_ops, en_opc, iI_add, iI_mul, iI_sub, jL_add, jL_mul, iI_le, iI_lt, iI_eq, iI_eq0, iI_lt0, iI_0le, iI_le0, iI_0lt, jL_iI, iI_jL, lc_eq, lc_lt, lc_le, lc_ge, lc_gt, Nat.sub_zero, Nat.zero_le, true_and, and_true, Nat.reduceAdd, Nat.reduceLeDiff]
  refine ⟨fun _ => ⟨fun _ => V_5 H g5 g6, fun e => ?_⟩, fun e => (e (by first | trivial | rfl)).elim⟩
  refine ⟨0, rfl, by rw [sh133]; decide, by decide, ?_⟩
  rw [hv (by omega)]
  simp (disch := omega) only [cmp_self, en_ops, en_opc, iI_add, iI_mul, iI_sub, jL_add, jL_mul, iI_le, iI_lt, iI_eq, iI_eq0, iI_lt0, iI_0le, iI_le0, iI_0lt, jL_iI, iI_jL, lc_eq, lc_lt, lc_le, lc_ge, lc_gt, Nat.sub_zero, Nat.zero_le, true_and, and_true, Nat.reduceAdd, Nat.reduceLeDiff]
  exact ⟨fun _ => V_5 H g5 g6, fun e9 => (e9 (by first | trivial | rfl)).elim⟩

end
section
variable {G : en_G} {k : en_Kont} {ls r : List Value} {hi : en_I} {hl : en_L} {hr : en_F} {uc us i : Nat}
theorem sc_0 (h : i + 0 < G.2.2.2.2.2.1) (h2 : G.2.2.2.2.2.1 ≤ 4608) : o_scr G k ls (.int (iI (i : Int)) :: .ref 4000000 :: r) hi hl hr uc us = k ls (.int (G.2.2.2.2.2.2 (i)) :: r) hi hl hr uc us := by
  rw [oe_scr]
  apply propext
  constructor
  · rintro ⟨i9, e, -, g1, g2, g3⟩
    rw [iI_eq (by omega) (by omega) (by omega) (by omega)] at e
    obtain rfl : i9 = i := by omega
    exact g3
  · intro g
    exact ⟨i, iI_eq_of (by omega), rfl, by omega, by omega, g⟩
theorem sc_1 (h : i + 1 < G.2.2.2.2.2.1) (h2 : G.2.2.2.2.2.1 ≤ 4608) : o_scr G k ls (.int (iI ((i : Int) + 1)) :: .ref 4000000 :: r) hi hl hr uc us = k ls (.int (G.2.2.2.2.2.2 (i + 1)) :: r) hi hl hr uc us := by
  rw [oe_scr]
  apply propext
  constructor
  · rintro ⟨i9, e, -, g1, g2, g3⟩
    rw [iI_eq (by omega) (by omega) (by omega) (by omega)] at e
    obtain rfl : i9 = i + 1 := by omega
    exact g3
  · intro g
    exact ⟨i + 1, iI_eq_of (by omega), rfl, by omega, by omega, g⟩
theorem sc_2 (h : i + 2 < G.2.2.2.2.2.1) (h2 : G.2.2.2.2.2.1 ≤ 4608) : o_scr G k ls (.int (iI ((i : Int) + 2)) :: .ref 4000000 :: r) hi hl hr uc us = k ls (.int (G.2.2.2.2.2.2 (i + 2)) :: r) hi hl hr uc us := by
  rw [oe_scr]
  apply propext
  constructor
  · rintro ⟨i9, e, -, g1, g2, g3⟩
    rw [iI_eq (by omega) (by omega) (by omega) (by omega)] at e
    obtain rfl : i9 = i + 2 := by omega
    exact g3
  · intro g
    exact ⟨i + 2, iI_eq_of (by omega), rfl, by omega, by omega, g⟩
theorem sc_3 (h : i + 3 < G.2.2.2.2.2.1) (h2 : G.2.2.2.2.2.1 ≤ 4608) : o_scr G k ls (.int (iI ((i : Int) + 3)) :: .ref 4000000 :: r) hi hl hr uc us = k ls (.int (G.2.2.2.2.2.2 (i + 3)) :: r) hi hl hr uc us := by
  rw [oe_scr]
  apply propext
  constructor
  · rintro ⟨i9, e, -, g1, g2, g3⟩
    rw [iI_eq (by omega) (by omega) (by omega) (by omega)] at e
    obtain rfl : i9 = i + 3 := by omega
    exact g3
  · intro g
    exact ⟨i + 3, iI_eq_of (by omega), rfl, by omega, by omega, g⟩
theorem sc_4 (h : i + 4 < G.2.2.2.2.2.1) (h2 : G.2.2.2.2.2.1 ≤ 4608) : o_scr G k ls (.int (iI ((i : Int) + 4)) :: .ref 4000000 :: r) hi hl hr uc us = k ls (.int (G.2.2.2.2.2.2 (i + 4)) :: r) hi hl hr uc us := by
  rw [oe_scr]
  apply propext
  constructor
  · rintro ⟨i9, e, -, g1, g2, g3⟩
    rw [iI_eq (by omega) (by omega) (by omega) (by omega)] at e
    obtain rfl : i9 = i + 4 := by omega
    exact g3
  · intro g
    exact ⟨i + 4, iI_eq_of (by omega), rfl, by omega, by omega, g⟩
theorem sc_5 (h : i + 5 < G.2.2.2.2.2.1) (h2 : G.2.2.2.2.2.1 ≤ 4608) : o_scr G k ls (.int (iI ((i : Int) + 5)) :: .ref 4000000 :: r) hi hl hr uc us = k ls (.int (G.2.2.2.2.2.2 (i + 5)) :: r) hi hl hr uc us := by
  rw [oe_scr]
  apply propext
  constructor
  · rintro ⟨i9, e, -, g1, g2, g3⟩
    rw [iI_eq (by omega) (by omega) (by omega) (by omega)] at e
    obtain rfl : i9 = i + 5 := by omega
    exact g3
  · intro g
    exact ⟨i + 5, iI_eq_of (by omega), rfl, by omega, by omega, g⟩
theorem sc_6 (h : i + 6 < G.2.2.2.2.2.1) (h2 : G.2.2.2.2.2.1 ≤ 4608) : o_scr G k ls (.int (iI ((i : Int) + 6)) :: .ref 4000000 :: r) hi hl hr uc us = k ls (.int (G.2.2.2.2.2.2 (i + 6)) :: r) hi hl hr uc us := by
  rw [oe_scr]
  apply propext
  constructor
  · rintro ⟨i9, e, -, g1, g2, g3⟩
    rw [iI_eq (by omega) (by omega) (by omega) (by omega)] at e
    obtain rfl : i9 = i + 6 := by omega
    exact g3
  · intro g
    exact ⟨i + 6, iI_eq_of (by omega), rfl, by omega, by omega, g⟩
theorem sc_7 (h : i + 7 < G.2.2.2.2.2.1) (h2 : G.2.2.2.2.2.1 ≤ 4608) : o_scr G k ls (.int (iI ((i : Int) + 7)) :: .ref 4000000 :: r) hi hl hr uc us = k ls (.int (G.2.2.2.2.2.2 (i + 7)) :: r) hi hl hr uc us := by
  rw [oe_scr]
  apply propext
  constructor
  · rintro ⟨i9, e, -, g1, g2, g3⟩
    rw [iI_eq (by omega) (by omega) (by omega) (by omega)] at e
    obtain rfl : i9 = i + 7 := by omega
    exact g3
  · intro g
    exact ⟨i + 7, iI_eq_of (by omega), rfl, by omega, by omega, g⟩
theorem sc_8 (h : i + 8 < G.2.2.2.2.2.1) (h2 : G.2.2.2.2.2.1 ≤ 4608) : o_scr G k ls (.int (iI ((i : Int) + 8)) :: .ref 4000000 :: r) hi hl hr uc us = k ls (.int (G.2.2.2.2.2.2 (i + 8)) :: r) hi hl hr uc us := by
  rw [oe_scr]
  apply propext
  constructor
  · rintro ⟨i9, e, -, g1, g2, g3⟩
    rw [iI_eq (by omega) (by omega) (by omega) (by omega)] at e
    obtain rfl : i9 = i + 8 := by omega
    exact g3
  · intro g
    exact ⟨i + 8, iI_eq_of (by omega), rfl, by omega, by omega, g⟩
end
def en_opl := And.intro @cs_nil ( And.intro @cs_i ( And.intro @cs_r ( And.intro @cs_l ( And.intro @oc_ins2 ( And.intro @oc_ins3 ( And.intro @oc_ins4 ( And.intro @oc_ins5 ( And.intro @oc_ins6 ( And.intro @oc_ins7 ( And.intro @oc_ins8 ( And.intro @oc_ins9 ( And.intro @oc_ins10 ( And.intro @oc_inv0 ( And.intro @oc_inv1 ( And.intro @oc_inv2 ( And.intro @oc_inv3 ( And.intro @oc_inv4 ( And.intro @oc_inv5 ( And.intro @oc_inv6 ( And.intro @oc_inv7 ( And.intro @oc_inv8 (@sv_some))))))))))))))))))))))
