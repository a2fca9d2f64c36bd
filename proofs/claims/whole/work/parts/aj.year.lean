def zFk (z : tZ) : Nat := match z with
  | .inl e => e.1
  | .inr _ => 0
def zFp (z : tZ) : Int := match z with
  | .inl e => e.2
  | .inr _ => -1
section
variable {G : en_G} {d : Nat} {K : en_K} {W : zW} {n : Nat} {X : tTx} {z : tZ} {hi : en_I} {hl : en_L} {hr : en_F} {xc xs : Nat}
theorem tkX.f7 (h : tkX X z hi) : hi 26 7 = iI (zFk z : Int) ∧ hi 26 8 = iI (zFp z) ∧ zFk z ≤ 4 ∧ (zFk z = 0 ↔ ∃ q, z = .inr q) := by
  rcases z with e | q
  · have b := h.1
    exact ⟨h.2.1, h.2.2.1, by show e.1 ≤ 4; omega, fun g => absurd (show e.1 = 0 from g) (by omega), fun g => by obtain ⟨q, hq⟩ := g; cases hq⟩
  · exact ⟨h.2.2.1, h.2.2.2.1, Nat.zero_le _, fun _ => ⟨q, rfl⟩, fun _ => rfl⟩
def yeE (X : tTx) (y : Nat) (r : tZ × Nat × hYr) (hi : en_I) (hl : en_L) (hr : en_F) (K : en_K) : Prop := ∀ hi', tkX X r.1 hi' → Fx (Pyr y) hi hi' → (∀ q, r.1 = .inr q → hi' y 4 = iI (r.2.1 : Int) ∧ yeI y r.2.1 r.2.2 hi') → K (.inl (some (.int (iI (zFk r.1 : Int))))) hi' hl hr
theorem v_year35 {y b1 : Nat} {n9 : Int32} (hy : isYe y) (hyR : yeR y hr) (hR : hr 26 0 = .ref 1) (hR2 : hr 28 0 = .ref 26) : ∀ (f i : Nat) (z : tZ) (Y : hYr) (h9 : en_I) (m : Nat), i + f = 22 → i ≤ 21 → (i = 21 → ¬ (zKd X z ≠ 0 ∧ zKd X z ≠ 4)) → tqS X h9 → tkX X z h9 → h9 y 4 = iI (m : Int) → m ≤ 20 → (∀ q, z = .inr q → m = i ∧ yeI y i Y h9) → yeE X y (yrZ X f i z Y) h9 hl hr K → en_V G Y_X0_readYear (d + 8) wN wN K 35 [.ref 28, .ref b1, .int n9, .ref y, .int (iI (i : Int))] [] h9 hl hr xc xs := by
  intro f
  induction f with
  | zero => intro i z Y h9 m h1 h2; omega
  | succ f ih =>
    intro i z Y h9 m h1 h2 h3 hX hz hm m20 hY hK
    have bs := hy.sh
    have sy : (en_SH y).1 = 9 ∧ y < 134 := ⟨by rw [bs.1], by omega⟩
    have e : yrZ X (f + 1) i z Y = if zKd X z ≠ 0 ∧ zKd X z ≠ 4 then yrZ X f (i + 1) (y7Z X i z) (fun j => if j = i then ywZ X i z else Y j) else (z, i, Y) := rfl
    obtain ⟨f7, f8, f4, f0⟩ := hz.f7
    have stop : ¬ (zKd X z ≠ 0 ∧ zKd X z ≠ 4) → K (.inl (some (.int (iI (zFk z : Int))))) h9 hl hr := fun g => by
      rw [if_neg g] at e
      rw [e] at hK
      exact hK h9 hz Fx.rf (fun q hq => by obtain ⟨a, b⟩ := hY q hq; exact ⟨by rw [hm, a], b⟩)
    apply s_X0_readYear_35
    simp (disch := omega) only [B_X0_readYear_35, sh28, lt28, sh26, lt26, hR2, f7, en_ops, en_opc, iI_add, iI_mul, iI_sub, jL_add, jL_mul, iI_le, iI_lt, iI_eq, iI_eq0, iI_lt0, iI_0le, iI_le0, iI_0lt, jL_iI, iI_jL, lc_eq, lc_lt, lc_le, lc_ge, lc_gt, Nat.sub_zero, Nat.zero_le, true_and, and_true, Nat.reduceAdd, Nat.reduceLeDiff]
    refine ⟨fun g => stop (h3 (by omega)), fun g => ?_⟩
    refine t_hasMore (X := X) (d := d + 6) hz (fun b hb => ?_)
    simp (disch := omega) only [sh28, lt28, sh26, lt26, hR2, f7, en_ops, en_opc, iI_add, iI_mul, iI_sub, jL_add, jL_mul, iI_le, iI_lt, iI_eq, iI_eq0, iI_lt0, iI_0le, iI_le0, iI_0lt, jL_iI, iI_jL, lc_eq, lc_lt, lc_le, lc_ge, lc_gt, Nat.sub_zero, Nat.zero_le, true_and, and_true, Nat.reduceAdd, Nat.reduceLeDiff]
    rcases hb with ⟨rfl, more⟩ | ⟨rfl, more⟩
    rotate_left
    · exact ⟨fun _ => stop more, fun g => (g (by first | trivial | rfl)).elim⟩
    refine ⟨fun g => absurd g (by decide), fun _ => ?_⟩
    rw [if_pos more] at e
    rw [e] at hK
    obtain ⟨q0, hq0⟩ : ∃ q, z = .inr q := by
      rcases z with e1 | q
      · exact absurd rfl more.2
      · exact ⟨q, rfl⟩
    obtain ⟨mi, yi⟩ := hY q0 hq0
    have go : en_Call G (d + 7) 0 0 Y_X0_readWave wN wN [.ref 28, .ref y, .int (iI (if i = 20 then 1 else 0))] h9 hl hr (en_kk (o_aload 0 (o_getR wN 0 4 0 (o_bipush 59 (o_inv G (d + 7) 0 0 Y_X7_needSign 1 7 wN wN (o_iinc 4 1 (kv G Y_X0_readYear (d + 7 + 1) wN wN K 35)) x_no)))) x_no [.ref 28, .ref b1, .int n9, .ref y, .int (iI (i : Int))] [] (xc - 0) (xs - 0)) := by
      refine t_readWave (d := d) (m := m) hy hyR hR hR2 hX hz hm m20 (by omega) (fun g1 m' F1 X1 H1 e1 m1 r1 => ?_)
      simp (disch := omega) only [sh28, lt28, sh26, lt26, hR2, en_ops, en_opc, iI_add, iI_mul, iI_sub, jL_add, jL_mul, iI_le, iI_lt, iI_eq, iI_eq0, iI_lt0, iI_0le, iI_le0, iI_0lt, jL_iI, iI_jL, lc_eq, lc_lt, lc_le, lc_ge, lc_gt, Nat.sub_zero, Nat.zero_le, true_and, and_true, Nat.reduceAdd, Nat.reduceLeDiff]
      refine t_needSign (d := d + 4) (c := 59) ⟨by decide, by decide⟩ (by decide) hR X1 H1 (fun g2 F2 X2 H2 => ?_)
      simp (disch := omega) only [en_ops, en_opc, iI_add, iI_mul, iI_sub, jL_add, jL_mul, iI_le, iI_lt, iI_eq, iI_eq0, iI_lt0, iI_0le, iI_le0, iI_0lt, jL_iI, iI_jL, lc_eq, lc_lt, lc_le, lc_ge, lc_gt, Nat.sub_zero, Nat.zero_le, true_and, and_true, Nat.reduceAdd, Nat.reduceLeDiff]
      have F12 : Fx (Pyr y) h9 g2 := F1.tr (F2.mono (fun a j w => Or.inl w))
      have fy : ∀ x, y ≤ x → ∀ j, g2 x j = g1 x j := fun x gx j => F2 x j (fun w => by have := w.1; omega)
      refine ih (i + 1) (y7Z X i z) _ g2 m' (by omega) (by omega) (fun g => ?_) X2 H2 (by rw [fy y (by omega) 4]; exact e1) m1 (fun q hq => ?_) (fun h' H' F' R' => hK h' H' (F12.tr F') R')
      · have i20 : i = 20 := by omega
        subst i20
        obtain ⟨e2, he2⟩ := y7_20 (X := X) (z := z)
        rw [he2]
        exact fun w => w.2 rfl
      · obtain ⟨p, hp⟩ := y7_i hq
        have ok := yw_ok hp
        obtain ⟨c1, c2, c3, c4, c5⟩ := r1 p hp (by omega)
        refine ⟨by omega, fun j hj => ?_⟩
        rw [fy (y + 1) (by omega), fy (y + 2) (by omega), fy (y + 3) (by omega), fy (y + 4) (by omega), c2, c3, c4, c5]
        show _ ∧ _ ∧ _ ∧ _
        by_cases ej : j = i
        · rw [if_pos (show j = m by omega), if_pos (show j = m by omega), if_pos (show j = m by omega), if_pos (show j = m by omega)]
          show _ = iI (if j = i then ywZ X i z else Y j).1.1 ∧ _ = iI (if j = i then ywZ X i z else Y j).1.2.1 ∧ _ = iI (if j = i then ywZ X i z else Y j).1.2.2 ∧ _ = iI ((if j = i then ywZ X i z else Y j).2 : Int)
          rw [if_pos ej]
          exact ⟨rfl, rfl, rfl, rfl⟩
        · rw [if_neg (show ¬ j = m by omega), if_neg (show ¬ j = m by omega), if_neg (show ¬ j = m by omega), if_neg (show ¬ j = m by omega)]
          show _ = iI (if j = i then ywZ X i z else Y j).1.1 ∧ _ = iI (if j = i then ywZ X i z else Y j).1.2.1 ∧ _ = iI (if j = i then ywZ X i z else Y j).1.2.2 ∧ _ = iI ((if j = i then ywZ X i z else Y j).2 : Int)
          rw [if_neg ej]
          exact yi j (by omega)
    by_cases i20 : i = 20
    · rw [if_pos i20] at go
      exact ⟨fun g => absurd (show (i : Int) = 20 by omega) g, fun _ => go⟩
    · rw [if_neg i20] at go
      exact ⟨fun _ => go, fun g => absurd g (by omega)⟩
theorem t_readYear {y m : Nat} {Tb : Nat → Nat} (hy : isYe y) (hyR : yeR y hr) (hR2 : hr 28 0 = .ref 26) (hT : m ≤ 600 ∧ ∀ j, j < m → Tb j < 256 ∧ hi 1 j = iI (sbB (Tb j)))
    (H : ∀ hi', tkX (Tb, m) (yrZ (Tb, m) 22 0 (y0Z (Tb, m)) (fun _ => ((0, 0, 0), 0))).1 hi' → Fx (fun a j => a = 26 ∨ (y ≤ a ∧ a ≤ y + 4)) hi hi' → (∀ q, (yrZ (Tb, m) 22 0 (y0Z (Tb, m)) (fun _ => ((0, 0, 0), 0))).1 = .inr q → hi' y 4 = iI ((yrZ (Tb, m) 22 0 (y0Z (Tb, m)) (fun _ => ((0, 0, 0), 0))).2.1 : Int) ∧ yeI y (yrZ (Tb, m) 22 0 (y0Z (Tb, m)) (fun _ => ((0, 0, 0), 0))).2.1 (yrZ (Tb, m) 22 0 (y0Z (Tb, m)) (fun _ => ((0, 0, 0), 0))).2.2 hi') → K (.inl (some (.int (iI (zFk (yrZ (Tb, m) 22 0 (y0Z (Tb, m)) (fun _ => ((0, 0, 0), 0))).1 : Int))))) hi' hl (en_up hr 26 0 (.ref 1))) :
    en_Call G (d + 8) xc xs Y_X0_readYear wN wN [.ref 28, .ref 1, .int (iI (m : Int)), .ref y] hi hl hr K := by
  have bs := hy.sh
  have sy : (en_SH y) = (9, 5) := bs.1
  have q0 : y < 134 := by omega
  apply en_X0_readYear
  simp (disch := omega) only [B_X0_readYear_0, sh28, lt28, sh26, lt26, hR2, sy, q0, en_ops, en_opc, iI_add, iI_mul, iI_sub, jL_add, jL_mul, iI_le, iI_lt, iI_eq, iI_eq0, iI_lt0, iI_0le, iI_le0, iI_0lt, jL_iI, iI_jL, lc_eq, lc_lt, lc_le, lc_ge, lc_gt, Nat.sub_zero, Nat.zero_le, true_and, and_true, Nat.reduceAdd, Nat.reduceLeDiff]
  have F0 : Fx (fun a j => a = y) hi (en_up hi y 4 (iI 0)) := Fx.up Fx.rf rfl
  refine t_open (d := d + 4) (Tb := Tb) (n := m) ⟨hT.1, fun j hj => ⟨(hT.2 j hj).1, by rw [F0 1 j (by omega)]; exact (hT.2 j hj).2⟩⟩ (fun h1 F1 X1 T1 => ?_)
  have r26 : en_up hr 26 0 (.ref 1) 26 0 = .ref 1 := up_at
  have r28 : en_up hr 26 0 (.ref 1) 28 0 = .ref 26 := by rw [up_ne (Or.inl (by decide))]; exact hR2
  have ry : yeR y (en_up hr 26 0 (.ref 1)) := by
    obtain ⟨k0, k1, k2, k3⟩ := hyR
    exact ⟨by rw [up_ne (Or.inl (by omega))]; exact k0, by rw [up_ne (Or.inl (by omega))]; exact k1, by rw [up_ne (Or.inl (by omega))]; exact k2, by rw [up_ne (Or.inl (by omega))]; exact k3⟩
  simp (disch := omega) only [sh28, lt28, sh26, lt26, r28, en_ops, en_opc, iI_add, iI_mul, iI_sub, jL_add, jL_mul, iI_le, iI_lt, iI_eq, iI_eq0, iI_lt0, iI_0le, iI_le0, iI_0lt, jL_iI, iI_jL, lc_eq, lc_lt, lc_le, lc_ge, lc_gt, Nat.sub_zero, Nat.zero_le, true_and, and_true, Nat.reduceAdd, Nat.reduceLeDiff]
  have e4 : h1 y 4 = iI ((0 : Nat) : Int) := by rw [F1 y 4 (by omega), up_at]; rfl
  have FF : Fx (fun a j => a = 26 ∨ (y ≤ a ∧ a ≤ y + 4)) hi h1 := (F0.mono (fun a j w => Or.inr ⟨by omega, by omega⟩)).tr (F1.mono (fun a j w => Or.inl w))
  have fin : ∀ (z : tZ) (h2 : en_I), z = y0Z (Tb, m) → Fx P26 h1 h2 → tqS (Tb, m) h2 → tkX (Tb, m) z h2 → en_V G Y_X0_readYear (d + 8) wN wN K 35 [.ref 28, .ref 1, .int (iI (m : Int)), .ref y, .int (iI 0)] [] h2 hl (en_up hr 26 0 (.ref 1)) xc xs := by
    intro z h2 hz F2 X2 H2
    subst hz
    have FB : Fx (fun a j => a = 26 ∨ (y ≤ a ∧ a ≤ y + 4)) hi h2 := FF.tr (F2.mono (fun a j w => Or.inl w.1))
    refine v_year35 (d := d) hy ry r26 r28 22 0 (y0Z (Tb, m)) (fun _ => ((0, 0, 0), 0)) h2 0 rfl (by decide) (fun g => absurd g (by decide)) X2 H2 (by rw [F2 y 4 (fun w => by have := w.1; omega)]; exact e4) (by decide) (fun q hq => ⟨rfl, fun i hi => absurd hi (Nat.not_lt_zero _)⟩) (fun h' H' F' R' => ?_)
    exact H h' H' (FB.tr (F'.mono (fun a j w => by rcases w with w | w; exact Or.inl w.1; exact Or.inr w))) R'
  have k3 := kd_le (Tb, m) (skE (Tb, m) 0)
  refine t_hasMore (X := (Tb, m)) (d := d + 6) (z := .inr (skE (Tb, m) 0)) T1 (fun b hb => ?_)
  simp (disch := omega) only [sh28, lt28, sh26, lt26, r28, en_ops, en_opc, iI_add, iI_mul, iI_sub, jL_add, jL_mul, iI_le, iI_lt, iI_eq, iI_eq0, iI_lt0, iI_0le, iI_le0, iI_0lt, jL_iI, iI_jL, lc_eq, lc_lt, lc_le, lc_ge, lc_gt, Nat.sub_zero, Nat.zero_le, true_and, and_true, Nat.reduceAdd, Nat.reduceLeDiff]
  rcases hb with ⟨rfl, g⟩ | ⟨rfl, g⟩
  · refine ⟨fun _ => fin (.inr (skE (Tb, m) 0)) h1 ?_ Fx.rf X1 T1, fun g => absurd g (by decide)⟩
    have : skE (Tb, m) 0 < m := by
      have : kdE (Tb, m) (skE (Tb, m) 0) ≠ 0 := g.1
      rw [Ne, kd_0] at this
      have h2 : ¬ m ≤ skE (Tb, m) 0 := this
      omega
    exact (if_pos this).symm
  · refine ⟨fun g => (g (by first | trivial | rfl)).elim, fun _ => ?_⟩
    refine t_fail (X := (Tb, m)) (d := d + 6) (k := 1) (z := .inr (skE (Tb, m) 0)) (by decide) X1 T1 (fun h2 F2 X2 H2 => ?_)
    simp (disch := omega) only [en_ops, en_opc, iI_add, iI_mul, iI_sub, jL_add, jL_mul, iI_le, iI_lt, iI_eq, iI_eq0, iI_lt0, iI_0le, iI_le0, iI_0lt, jL_iI, iI_jL, lc_eq, lc_lt, lc_le, lc_ge, lc_gt, Nat.sub_zero, Nat.zero_le, true_and, and_true, Nat.reduceAdd, Nat.reduceLeDiff]
    refine fin (.inl (1, skE (Tb, m) 0)) h2 ?_ F2 X2 H2
    have : ¬ skE (Tb, m) 0 < m := by
      intro w
      have z0 : ¬ kdE (Tb, m) (skE (Tb, m) 0) = 0 := by
        rw [kd_0]
        show ¬ m ≤ skE (Tb, m) 0
        omega
      exact g ⟨z0, show kdE (Tb, m) (skE (Tb, m) 0) ≠ 4 by omega⟩
    exact (if_neg this).symm
end
