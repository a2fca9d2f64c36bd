section
variable {G : en_G} {Y : en_Y} {d : Nat} {w w' : en_Wd} {K : en_K} {k : en_Kont} {pc : Nat}
/-- the length of a row of references -/
def o_alenq (w : en_Wd) (t : Nat) (k : en_Kont) : en_Kont := fun ls st hi hl hr uc us => match st with
  | .ref a :: r => ((en_SH a).1 = 103 + t ∧ a < w.1) ∧ k ls (.int (iI ((en_SH a).2 : Nat)) :: r) hi hl hr uc us
  | _ => False
theorem oe_alenq {t a : Nat} {ls r : List Value} {hi : en_I} {hl : en_L} {hr : en_F} {uc us : Nat} : o_alenq w t k ls (.ref a :: r) hi hl hr uc us = (((en_SH a).1 = 103 + t ∧ a < w.1) ∧ k ls (.int (iI ((en_SH a).2 : Nat)) :: r) hi hl hr uc us) := rfl
theorem sn_alenq {t : Nat} {C : String} (ht : (en_tys G)[en_t0 t]? = some (G.2.2.2.1 (3 + t), .object C)) (hd : decode Y.2.1 pc = .ok (.arraylength, 1)) (hk : en_S G Y d w w' K k (pc + 1)) : en_S G Y d w w' K (o_alenq w t k) pc := by
  intro ls st hi hl hr uc us h
  unfold o_alenq at h
  split at h
  next a r =>
    intro p e R s m args below meth c Q xc xs hC H locs cells slots rl h1 h2 h3 h4 h5 h6
    obtain ⟨⟨hs, ha⟩, h⟩ := h
    rw [List.map_cons, en_ref h2 ha]
    have hh := hk _ _ _ _ _ _ _ h p e R s m args below meth c Q xc xs hC H locs cells slots rl h1 h2 h3 h4 h5 h6
    rw [List.map_cons, en_tr_int] at hh
    exact va_alen hC.1.1 hC.1.2.1 h2.2.1 h2.1 a (en_t0 t) (en_at_q ha hs) ht (iI_nat _).symm hd hh
  next => exact h.elim
end
def Bq_X8_nearest_13 (G : en_G) (d : Nat) (K : en_K) : en_Kont := (o_iload 5 (o_iload 3 (o_icge (o_vret K) (o_iload 5 (o_aload 2 (o_alenq wN 8 (o_icge (o_vret K) (o_aload 0 (o_getR wN 8 5 1 (o_aload 1 (o_inv G d 0 0 Y_X6_copy 1 6 wN wN (o_aload 0 (o_getR wN 8 5 0 (o_aload 0 (o_getR wN 8 5 1 (o_aload 2 (o_iload 5 (o_aaload wN 8 (o_aload 4 (o_inv G d 0 0 Y_X4_rollYear 3 4 wN wN (o_pop (o_aload 0 (o_aload 1 (o_inv G d 0 0 Y_X8_apartFrom 1 8 wN wN (o_istore 6 (o_aload 0 (o_getI wN 8 5 3 (o_iconst (-1) (o_iceq (o_aload 0 (o_iload 5 (o_putI wN 8 5 3 (o_aload 0 (o_iload 6 (o_putI wN 8 5 4 (o_iinc 5 1 (kv G Y_X8_nearest (d + 1) wN wN K 13)))))))) (o_iload 6 (o_aload 0 (o_getI wN 8 5 4 (o_icge (o_iinc 5 1 (kv G Y_X8_nearest (d + 1) wN wN K 13)) (o_aload 0 (o_iload 5 (o_putI wN 8 5 3 (o_aload 0 (o_iload 6 (o_putI wN 8 5 4 (o_iinc 5 1 (kv G Y_X8_nearest (d + 1) wN wN K 13))))))))))))))))) x_no)))) x_no))))))))) x_no)))))))))))
theorem sq_X8_nearest_13 {G : en_G} {d : Nat} {K : en_K} : en_S G Y_X8_nearest (d + 1) wN wN K (Bq_X8_nearest_13 G d K) 13 := (sn_iload  dX8_nearest_13 (sn_iload_n rfl dX8_nearest_15 (sn_icge dX8_nearest_16 rfl (sn_vret rfl dX8_nearest_94) (sn_iload  dX8_nearest_19 (sn_aload_n rfl dX8_nearest_21 (sn_alenq rfl  dX8_nearest_22 (sn_icge dX8_nearest_23 rfl (sn_vret rfl dX8_nearest_94) (sn_aload_n rfl dX8_nearest_26 (sn_getR cl_X8 (Nat.le_of_ble_eq_true rfl) rfl tw_395 dX8_nearest_27 (sn_aload_n rfl dX8_nearest_30 (sn_inv cal_X6_copy calV_X6_copy rfl tw_1352 (fun h => nomatch h) dX8_nearest_31 (sn_aload_n rfl dX8_nearest_34 (sn_getR cl_X8 (Nat.le_of_ble_eq_true rfl) rfl tw_394 dX8_nearest_35 (sn_aload_n rfl dX8_nearest_38 (sn_getR cl_X8 (Nat.le_of_ble_eq_true rfl) rfl tw_395 dX8_nearest_39 (sn_aload_n rfl dX8_nearest_42 (sn_iload  dX8_nearest_43 (sn_aaload rfl dX8_nearest_45 (sn_aload  dX8_nearest_46 (sn_inv cal_X4_rollYear calV_X4_rollYear rfl tw_1353 (fun h => nomatch h) dX8_nearest_48 (sn_pop  dX8_nearest_51 (sn_aload_n rfl dX8_nearest_52 (sn_aload_n rfl dX8_nearest_53 (sn_inv cal_X8_apartFrom calV_X8_apartFrom rfl tw_1373 (fun h => nomatch h) dX8_nearest_54 (sn_istore (Nat.le_of_ble_eq_true rfl) dX8_nearest_57 (sn_aload_n rfl dX8_nearest_59 (sn_getI cl_X8 (Nat.le_of_ble_eq_true rfl) rfl tw_397 dX8_nearest_60 (sn_iconst  dX8_nearest_63 (sn_iceq dX8_nearest_64 rfl (sn_aload_n rfl dX8_nearest_76 (sn_iload  dX8_nearest_77 (sn_putI cl_X8 (Nat.le_of_ble_eq_true rfl) rfl rfl tw_397 dX8_nearest_79 (sn_aload_n rfl dX8_nearest_82 (sn_iload  dX8_nearest_83 (sn_putI cl_X8 (Nat.le_of_ble_eq_true rfl) rfl rfl tw_399 dX8_nearest_85 (sn_iinc (Nat.le_of_ble_eq_true rfl) dX8_nearest_88 (sn_goto dX8_nearest_91 rfl sn_kv)))))))) (sn_iload  dX8_nearest_67 (sn_aload_n rfl dX8_nearest_69 (sn_getI cl_X8 (Nat.le_of_ble_eq_true rfl) rfl tw_399 dX8_nearest_70 (sn_icge dX8_nearest_73 rfl (sn_iinc (Nat.le_of_ble_eq_true rfl) dX8_nearest_88 (sn_goto dX8_nearest_91 rfl sn_kv)) (sn_aload_n rfl dX8_nearest_76 (sn_iload  dX8_nearest_77 (sn_putI cl_X8 (Nat.le_of_ble_eq_true rfl) rfl rfl tw_397 dX8_nearest_79 (sn_aload_n rfl dX8_nearest_82 (sn_iload  dX8_nearest_83 (sn_putI cl_X8 (Nat.le_of_ble_eq_true rfl) rfl rfl tw_399 dX8_nearest_85 (sn_iinc (Nat.le_of_ble_eq_true rfl) dX8_nearest_88 (sn_goto dX8_nearest_91 rfl sn_kv))))))))))))))))) sn_no)))) sn_no))))))))) sn_no)))))))))))
section
variable {G : en_G} {d : Nat} {K : en_K} {a : Nat} {E : hEnv} {q : hSt} {hi : en_I} {hl : en_L} {hr : en_F} {xc xs : Nat} {f : Nat → Nat → Nat → Int} {nc nz : Nat}
def apI (f : Nat → Nat → Nat → Int) (m : Nat → Nat → Int) (c z : Nat) : Int := if m c z = -1 then 0 else if m c z - aP f c z < 0 then -(m c z - aP f c z) else m c z - aP f c z
def apP (f : Nat → Nat → Nat → Int) (m : Nat → Nat → Int) (nc nz : Nat) : Int := sumTo nc (fun c => sumTo nz (apI f m c))
theorem apI_r {m : Nat → Nat → Int} (hB : fB nc nz f) (hnz : nz ≤ 6) {c z : Nat} (hc : c < 12) (hm : -1 ≤ m c z ∧ m c z ≤ 999999) : 0 ≤ apI f m c z ∧ apI f m c z ≤ 11000000 := by
  have a0 := aP_nn hB c z
  have a1 := Int.le_trans (aP_le hB hnz hc z) (wP_le hB hnz hc)
  unfold apI
  split
  · omega
  · split <;> omega
theorem sumTo_bd {n : Nat} {g : Nat → Int} {b : Int} (h : ∀ i, i < n → 0 ≤ g i ∧ g i ≤ b) : 0 ≤ sumTo n g ∧ sumTo n g ≤ n * b := by
  induction n with
  | zero => exact ⟨Int.le_refl _, by rw [sumTo_z]; omega⟩
  | succ n ih =>
    obtain ⟨i1, i2⟩ := ih (fun i hi => h i (by omega))
    have := h n (by omega)
    rw [sumTo_s]
    have e : ((n + 1 : Nat) : Int) * b = n * b + b := by rw [Int.natCast_add, Int.add_mul]; show _ + 1 * b = _; omega
    omega
theorem t_apartFrom {m : Nat → Nat → Int} (hT : trR hr) (hh : shH 39 nc nz f hi) (hB : fB nc nz f) (hM : shM 16 m hi) (h0 : hi 16 0 = iI nc) (h1 : hi 16 1 = iI nz)
    (H : K (.inl (some (.int (iI (apP f m nc nz))))) hi hl hr) : en_Call G (d + 3) xc xs Y_X8_apartFrom wN wN [.ref 38, .ref 16] hi hl hr K := by
  obtain ⟨t0, t1, t2, t3, t4⟩ := id hT
  have ha : isSh 39 := Or.inr (Or.inl rfl)
  have hb : isSh 16 := Or.inl rfl
  obtain ⟨z0, z1, z2, z3, z4, z5, z6, -⟩ := hb.sh
  obtain ⟨y1, y2, y3, y4, y5, -⟩ := id t4
  have nc12 := hh.2.2.1
  have nz6 := hh.2.2.2.1
  have rI : ∀ c, c < 12 → ∀ z, z < 6 → 0 ≤ apI f m c z ∧ apI f m c z ≤ 11000000 := fun c hc z hz => apI_r hB nz6 hc (hM c z hc hz).2
  have rz : ∀ c, c < 12 → ∀ n, n ≤ 6 → 0 ≤ sumTo n (apI f m c) ∧ sumTo n (apI f m c) ≤ 66000000 := fun c hc n hn => by
    have := sumTo_bd (n := n) (g := apI f m c) (b := 11000000) (fun z hz => rI c hc z (by omega))
    omega
  have rc : ∀ c, c ≤ nc → 0 ≤ sumTo c (fun c => sumTo nz (apI f m c)) ∧ sumTo c (fun c => sumTo nz (apI f m c)) ≤ 800000000 := fun c hc => by
    have := sumTo_bd (n := c) (g := fun c => sumTo nz (apI f m c)) (b := 66000000) (fun c' hc' => rz c' (by omega) nz nz6)
    omega
  apply en_X8_apartFrom
  simp (disch := omega) only [B_X8_apartFrom_0, en_ops, en_opc, iI_add, iI_mul, iI_sub, jL_add, jL_mul, iI_le, iI_lt, iI_eq, iI_eq0, iI_lt0, iI_0le, iI_le0, iI_0lt, jL_iI, iI_jL, lc_eq, lc_lt, lc_le, lc_ge, lc_gt, Nat.sub_zero, Nat.zero_le, true_and, and_true, Nat.reduceAdd, Nat.reduceLeDiff]
  suffices L : ∀ c : Nat, c ≤ nc → ∀ x4 x5 : Value, en_V G Y_X8_apartFrom (d + 3) wN wN K 4 [.ref 38, .ref 16, .int (iI (sumTo c (fun c => sumTo nz (apI f m c)))), .int (iI c), x4, x5] [] hi hl hr xc xs from L 0 (by omega) _ _
  refine lp nc (fun x4 x5 => ?_) (fun c hc ih x4 x5 => ?_)
  · apply s_X8_apartFrom_4
    simp (disch := omega) only [B_X8_apartFrom_4, z0, z1, h0, en_ops, en_opc, iI_add, iI_mul, iI_sub, jL_add, jL_mul, iI_le, iI_lt, iI_eq, iI_eq0, iI_lt0, iI_0le, iI_le0, iI_0lt, jL_iI, iI_jL, lc_eq, lc_lt, lc_le, lc_ge, lc_gt, Nat.sub_zero, Nat.zero_le, true_and, and_true, Nat.reduceAdd, Nat.reduceLeDiff]
    exact ⟨fun _ => H, fun e => absurd (Int.le_refl _) e⟩
  · rw [sumTo_s] at ih
    apply s_X8_apartFrom_4
    simp (disch := omega) only [B_X8_apartFrom_4, z0, z1, h0, en_ops, en_opc, iI_add, iI_mul, iI_sub, jL_add, jL_mul, iI_le, iI_lt, iI_eq, iI_eq0, iI_lt0, iI_0le, iI_le0, iI_0lt, jL_iI, iI_jL, lc_eq, lc_lt, lc_le, lc_ge, lc_gt, Nat.sub_zero, Nat.zero_le, true_and, and_true, Nat.reduceAdd, Nat.reduceLeDiff]
    refine ⟨fun e => by omega, fun _ => ?_⟩
    suffices L2 : ∀ z : Nat, z ≤ nz → ∀ x5 : Value, en_V G Y_X8_apartFrom (d + 3) wN wN K 15 [.ref 38, .ref 16, .int (iI (sumTo c (fun c => sumTo nz (apI f m c)) + sumTo z (apI f m c))), .int (iI c), .int (iI z), x5] [] hi hl hr xc xs by
      have := L2 0 (by omega) x5
      rw [sumTo_z, Int.add_zero] at this
      exact this
    refine lp nz (fun x5 => ?_) (fun z hz ih2 x5 => ?_)
    · apply s_X8_apartFrom_15
      simp (disch := omega) only [B_X8_apartFrom_15, z0, z1, h1, en_ops, en_opc, iI_add, iI_mul, iI_sub, jL_add, jL_mul, iI_le, iI_lt, iI_eq, iI_eq0, iI_lt0, iI_0le, iI_le0, iI_0lt, jL_iI, iI_jL, lc_eq, lc_lt, lc_le, lc_ge, lc_gt, Nat.sub_zero, Nat.zero_le, true_and, and_true, Nat.reduceAdd, Nat.reduceLeDiff]
      exact ⟨fun _ => ih _ _, fun e => absurd (Int.le_refl _) e⟩
    · obtain ⟨m1, m2, m3⟩ := hM c z (by omega) (by omega)
      have a0 := aP_nn hB c z
      have a1 := Int.le_trans (aP_le hB nz6 (show c < 12 by omega) z) (wP_le hB nz6 (by omega))
      have g1 := rc c (by omega)
      have g2 := rz c (by omega) z (by omega)
      rw [sumTo_s] at ih2
      apply s_X8_apartFrom_15
      simp (disch := omega) only [B_X8_apartFrom_15, z0, z1, sh21, lt21, h1, y5, en_ops, en_opc, iI_add, iI_mul, iI_sub, jL_add, jL_mul, iI_le, iI_lt, iI_eq, iI_eq0, iI_lt0, iI_0le, iI_le0, iI_0lt, jL_iI, iI_jL, lc_eq, lc_lt, lc_le, lc_ge, lc_gt, Nat.sub_zero, Nat.zero_le, true_and, and_true, Nat.reduceAdd, Nat.reduceLeDiff]
      refine ⟨fun e => by omega, fun _ => ⟨c * 6 + z, iI_eq_of (by omega), by omega, ?_⟩⟩
      rw [m1]
      simp (disch := omega) only [t1, sh38, lt38, en_ops, en_opc, iI_add, iI_mul, iI_sub, jL_add, jL_mul, iI_le, iI_lt, iI_eq, iI_eq0, iI_lt0, iI_0le, iI_le0, iI_0lt, jL_iI, iI_jL, lc_eq, lc_lt, lc_le, lc_ge, lc_gt, Nat.sub_zero, Nat.zero_le, true_and, and_true, Nat.reduceAdd, Nat.reduceLeDiff]
      refine ⟨fun e => ?_, fun e => ⟨⟨by decide, by decide⟩, ?_⟩⟩
      · have ez : apI f m c z = 0 := if_pos e
        rw [ez, Int.add_zero] at ih2
        exact ih2 _
      · refine t_inCell (d := d) ha t3 hh (by omega) (by omega) (by omega) ?_
        rw [inP_a hz]
        simp (disch := omega) only [en_ops, en_opc, iI_add, iI_mul, iI_sub, jL_add, jL_mul, iI_le, iI_lt, iI_eq, iI_eq0, iI_lt0, iI_0le, iI_le0, iI_0lt, jL_iI, iI_jL, lc_eq, lc_lt, lc_le, lc_ge, lc_gt, Nat.sub_zero, Nat.zero_le, true_and, and_true, Nat.reduceAdd, Nat.reduceLeDiff]
        refine t_abs (by omega) (by omega) ?_
        have ez : apI f m c z = if m c z - aP f c z < 0 then -(m c z - aP f c z) else m c z - aP f c z := if_neg e
        rw [ez] at ih2
        simp (disch := omega) only [en_ops, en_opc, iI_add, iI_mul, iI_sub, jL_add, jL_mul, iI_le, iI_lt, iI_eq, iI_eq0, iI_lt0, iI_0le, iI_le0, iI_0lt, jL_iI, iI_jL, lc_eq, lc_lt, lc_le, lc_ge, lc_gt, Nat.sub_zero, Nat.zero_le, true_and, and_true, Nat.reduceAdd, Nat.reduceLeDiff]
        rw [← Int.add_assoc] at ih2
        exact ih2 _
/-- the first least of those that count -/
def lsF (P : Nat → Bool) (g : Nat → Int) (s0 : Int) : Nat → Int × Int
  | 0 => (-1, s0)
  | i + 1 => if P i = true ∧ ((lsF P g s0 i).1 = -1 ∨ g i < (lsF P g s0 i).2) then ((i : Int), g i) else lsF P g s0 i
theorem lsF_r {P : Nat → Bool} {g : Nat → Int} {s0 lo h : Int} (h0 : lo ≤ s0 ∧ s0 ≤ h) : ∀ n, (∀ i, i < n → P i = true → lo ≤ g i ∧ g i ≤ h) → (-1 ≤ (lsF P g s0 n).1 ∧ (lsF P g s0 n).1 < n) ∧ lo ≤ (lsF P g s0 n).2 ∧ (lsF P g s0 n).2 ≤ h := by
  intro n
  induction n with
  | zero => exact fun _ => ⟨⟨Int.le_refl _, by show (-1 : Int) < 0; omega⟩, h0⟩
  | succ n ih =>
    intro hg
    obtain ⟨⟨i1, i2⟩, i3⟩ := ih (fun i hi => hg i (by omega))
    have st : lsF P g s0 (n + 1) = if P n = true ∧ ((lsF P g s0 n).1 = -1 ∨ g n < (lsF P g s0 n).2) then ((n : Int), g n) else lsF P g s0 n := rfl
    rw [st]
    split
    next c => exact ⟨⟨by show (-1 : Int) ≤ n; omega, by show (n : Int) < _; omega⟩, hg n (by omega) c.1⟩
    next => exact ⟨⟨i1, by omega⟩, i3⟩
/-- the laws as they stand: which say what -/
def lwA (G : en_G) (nl : Nat) (Vs : Nat → Nat → (Nat → Int) → Int) (hi : en_I) : Prop := ∀ i, i < nl → lwV G (50 + 4 * i) (Vs i) hi
def lwB (nl : Nat) (Vs : Nat → Nat → (Nat → Int) → Int) : Prop := ∀ i, i < nl → ∀ w nm, -2147483648 ≤ Vs i w nm ∧ Vs i w nm < 2147483648
def lwX (hr : en_F) : Prop := ∀ i, i < 4 → lwR (50 + 4 * i) hr ∧ hr 14 i = .ref (50 + 4 * i)
theorem isLw4 {i : Nat} (h : i < 4) : isLw (50 + 4 * i) := by unfold isLw; omega
theorem lwA.mono {nl : Nat} {Vs : Nat → Nat → (Nat → Int) → Int} {P : Nat → Prop} {hi' : en_I} (h : lwA G nl Vs hi) (hn : nl ≤ 4) (F : Fr P hi hi') (hP : ∀ x, P x → x < 50 ∨ 66 ≤ x) : lwA G nl Vs hi' := fun i hi9 => (h i hi9).mono (isLw4 (by omega)) F hP
/-- what the Sea needs but the law -/
def sxH (pl : Nat) (E : hEnv) (hi : en_I) : Prop := spH pl E.2.2.2.2.2.1 E.2.2.2.2.1 hi ∧ loH pl E.2.2.2.2.2.2.2 E.2.1 E.2.2.2.2.2.2.1 hi ∧ arrH (fun _ _ _ => 0) hi
def sxS (pl : Nat) (hr : en_F) : Prop := seR hr ∧ hr 34 5 = .ref pl ∧ isPl pl ∧ plR pl hr
def vE (V : Nat → (Nat → Int) → Int) (E : hEnv) : hEnv := (V, E.2)
theorem sxH.se {pl L : Nat} {V : Nat → (Nat → Int) → Int} (h : sxH pl E hi) (hV : lwV G L V hi) : seH G pl L (vE V E) hi := ⟨h.1, h.2.1, hV, h.2.2⟩
theorem seH.sx {pl L : Nat} {V : Nat → (Nat → Int) → Int} (h : seH G pl L (vE V E) hi) : sxH pl E hi := ⟨h.1, h.2.1, h.2.2.2⟩
theorem sxS.se {pl i : Nat} (h : sxS pl hr) (hX : lwX hr) (hi4 : i < 4) : seS pl (50 + 4 * i) hr := ⟨h.1, h.2.1, h.2.2.1, h.2.2.2, isLw4 hi4, (hX i hi4).1⟩
/-- the plan's and the walls' bounds -/
def exOK (E : hEnv) : Prop := (∀ c, c < 12 → 0 ≤ E.2.2.2.1 c ∧ E.2.2.2.1 c ≤ 16) ∧ spOK E.2.1 E.2.2.1 E.2.2.2.2.2.1 E.2.2.2.2.1
theorem exOK.e {nl i : Nat} {Vs : Nat → Nat → (Nat → Int) → Int} (h : exOK E) (hB : lwB nl Vs) (hi9 : i < nl) : eOK (vE (Vs i) E) := ⟨hB i hi9, h.1, h.2⟩
theorem shM.fr {m : Nat → Nat → Int} {P : Nat → Prop} {hi' : en_I} (h : shM a m hi) (F : Fr P hi hi') (hP : ¬ P (a + 5)) : shM a m hi' := fun c z hc hz => by rw [F _ hP]; exact h c z hc hz
theorem sh14 : en_SH 14 = (111, 4) := by decide
theorem lt14 : 14 < 134 := by decide
def nrG (E : hEnv) (Vs : Nat → Nat → (Nat → Int) → Int) (Y : hYr) (n : Nat) (m : Nat → Nat → Int) (q : hSt) (i : Nat) : Int := apP (yrP (vE (Vs i) E) Y n q).1 m E.2.1 E.2.2.1
theorem t_nearest {pl y n nl : Nat} {Y : hYr} {Vs : Nat → Nat → (Nat → Int) → Int} {m : Nat → Nat → Int} (hT : trR hr) (hS : sxS pl hr) (hX : lwX hr) (hE : exOK E) (hVB : lwB nl Vs) (hVA : lwA G nl Vs hi) (hnl : nl ≤ 4) (hsx : sxH pl E hi) (hq : hsH 16 E q hi) (hO : hOK E q) (hM : shM 16 m hi) (hy : isYe y) (hyR : yeR y hr) (hY : yeH y n Y hi)
    (H : ∀ hi', Fr Ptr hi hi' → sxH pl E hi' → hi' 38 3 = iI (lsF (fun _ => true) (nrG E Vs Y n m q) (-1) nl).1 → hi' 38 4 = iI (lsF (fun _ => true) (nrG E Vs Y n m q) (-1) nl).2 → K (.inl none) hi' hl hr) :
    en_Call G (d + 7) xc xs Y_X8_nearest wN wN [.ref 38, .ref 16, .ref 14, .int (iI (nl : Int)), .ref y] hi hl hr K := by
  obtain ⟨t0, t1, t2, t3, t4⟩ := id hT
  have ha : isSh 39 := Or.inr (Or.inl rfl)
  have hb : isSh 16 := Or.inl rfl
  have p38 : Ptr 38 := by unfold Ptr; omega
  have nz6 := hq.1.2.2.2.1
  have nc12 := hq.1.2.2.1
  apply en_X8_nearest
  simp (disch := omega) only [B_X8_nearest_0, sh38, lt38, en_ops, en_opc, iI_add, iI_mul, iI_sub, jL_add, jL_mul, iI_le, iI_lt, iI_eq, iI_eq0, iI_lt0, iI_0le, iI_le0, iI_0lt, jL_iI, iI_jL, lc_eq, lc_lt, lc_le, lc_ge, lc_gt, Nat.sub_zero, Nat.zero_le, true_and, and_true, Nat.reduceAdd, Nat.reduceLeDiff]
  suffices L : ∀ i : Nat, i ≤ nl → ∀ h9 x6, Fr Ptr hi h9 → sxH pl E h9 → (∀ j, j < i → 0 ≤ nrG E Vs Y n m q j ∧ nrG E Vs Y n m q j ≤ 800000000) → h9 38 3 = iI (lsF (fun _ => true) (nrG E Vs Y n m q) (-1) i).1 → h9 38 4 = iI (lsF (fun _ => true) (nrG E Vs Y n m q) (-1) i).2 → en_V G Y_X8_nearest (d + 7) wN wN K 13 [.ref 38, .ref 16, .ref 14, .int (iI (nl : Int)), .ref y, .int (iI i), x6] [] h9 hl hr xc xs by
    have F0 : Fr (· = 38) hi (en_up (en_up hi 38 3 (iI (-1))) 38 4 (iI (-1))) := Fr.up (Fr.up Fr.rf (by rfl)) (by rfl)
    have e : ∀ x, x ≠ 38 → en_up (en_up hi 38 3 (iI (-1))) 38 4 (iI (-1)) x = hi x := fun x hx => F0 x hx
    refine L 0 (by omega) _ _ (F0.mono (fun x e => by unfold Ptr; omega)) ?_ (fun j hj => by omega) (by rw [up_ne (Or.inr (by omega)), up_at]; rfl) (by rw [up_at]; rfl)
    have p14 := hS.2.2.1.sh.2.2.2.2.2.2.1
    obtain ⟨⟨z0, z1, z2⟩, ⟨v0, v1, v2⟩, x3⟩ := hsx
    exact ⟨⟨by rw [e pl (by omega)]; exact z0, z1, fun i hi9 => by rw [e (pl + 4) (by omega)]; exact z2 i hi9⟩, ⟨by rw [e pl (by omega)]; exact v0, v1, fun i hi9 => by rw [e (pl + 5) (by omega)]; exact v2 i hi9⟩, fun c z k hc hz hk => by rw [e 37 (by omega)]; exact x3 c z k hc hz hk⟩
  refine lp nl (fun h9 x6 F9 S9 R9 B9 C9 => ?_) (fun i hi9 ih h9 x6 F9 S9 R9 B9 C9 => ?_)
  · apply sq_X8_nearest_13
    simp (disch := omega) only [Bq_X8_nearest_13, oe_alenq, sh14, lt14, en_ops, en_opc, iI_add, iI_mul, iI_sub, jL_add, jL_mul, iI_le, iI_lt, iI_eq, iI_eq0, iI_lt0, iI_0le, iI_le0, iI_0lt, jL_iI, iI_jL, lc_eq, lc_lt, lc_le, lc_ge, lc_gt, Nat.sub_zero, Nat.zero_le, true_and, and_true, Nat.reduceAdd, Nat.reduceLeDiff]
    exact ⟨fun _ => H h9 F9 S9 B9 C9, fun e => absurd (Int.le_refl _) e⟩
  · have i4 : i < 4 := by omega
    obtain ⟨lr, l14⟩ := hX i i4
    have nP : ∀ x, 16 ≤ x → x ≤ 23 → ¬ Ptr x := fun x g1 g2 g => by unfold Ptr at g; omega
    have Q9 := hq.frP F9 (fun x g1 g2 => nP x g1 (by omega))
    have V9 := hVA.mono hnl F9 (fun x g => by unfold Ptr at g; omega)
    obtain ⟨⟨ls1, ls2⟩, ls3, ls4⟩ := lsF_r (P := fun _ => true) (g := nrG E Vs Y n m q) (s0 := -1) (lo := -1) (h := 800000000) (by omega) i (fun j hj _ => by have := R9 j hj; omega)
    apply sq_X8_nearest_13
    simp (disch := omega) only [Bq_X8_nearest_13, oe_alenq, sh14, lt14, t0, t1, sh38, lt38, en_ops, en_opc, iI_add, iI_mul, iI_sub, jL_add, jL_mul, iI_le, iI_lt, iI_eq, iI_eq0, iI_lt0, iI_0le, iI_le0, iI_0lt, jL_iI, iI_jL, lc_eq, lc_lt, lc_le, lc_ge, lc_gt, Nat.sub_zero, Nat.zero_le, true_and, and_true, Nat.reduceAdd, Nat.reduceLeDiff]
    refine ⟨fun e => by omega, fun _ => ⟨fun e => by omega, fun _ => ⟨⟨by decide, by decide⟩, ?_⟩⟩⟩
    refine t_copy ha hb (by decide) t3 t4 (fun h8 C8 => ?_)
    have F8 : Fr Ptr hi h8 := F9.tr (C8.1.mono (fun x g => Psh39 g))
    have S8 := (sxH.se (L := 50 + 4 * i) (V := Vs i) S9 (V9 i hi9)).tr39 (hS.se hX i4) C8.1 (fun x g => by unfold Psh at g; omega)
    simp (disch := omega) only [t0, t1, sh38, lt38, sh14, lt14, en_ops, en_opc, iI_add, iI_mul, iI_sub, jL_add, jL_mul, iI_le, iI_lt, iI_eq, iI_eq0, iI_lt0, iI_0le, iI_le0, iI_0lt, jL_iI, iI_jL, lc_eq, lc_lt, lc_le, lc_ge, lc_gt, Nat.sub_zero, Nat.zero_le, true_and, and_true, Nat.reduceAdd, Nat.reduceLeDiff]
    refine ⟨i, rfl, by omega, 50 + 4 * i, l14, by omega, ?_⟩
    refine ⟨⟨by decide, by decide⟩, ?_⟩
    refine t_tryYear (E' := vE (Vs i) E) (q' := q) (hi0 := hi) hT (hS.se hX i4) (hE.e hVB hi9) S8 (C8.hs ha Q9) hO hy hyR hY F8 (fun h7 F7 Q7 O7 S7 E7 _ => ?_)
    simp (disch := omega) only [sh38, lt38, en_ops, en_opc, iI_add, iI_mul, iI_sub, jL_add, jL_mul, iI_le, iI_lt, iI_eq, iI_eq0, iI_lt0, iI_0le, iI_le0, iI_0lt, jL_iI, iI_jL, lc_eq, lc_lt, lc_le, lc_ge, lc_gt, Nat.sub_zero, Nat.zero_le, true_and, and_true, Nat.reduceAdd, Nat.reduceLeDiff]
    refine t_apartFrom (d := d + 3) hT Q7.1 O7.1 (hM.fr F7 (nP _ (by omega) (by omega))) (by rw [F7 16 (nP _ (by omega) (by omega))]; exact hq.1.1) (by rw [F7 16 (nP _ (by omega) (by omega))]; exact hq.1.2.1) ?_
    have gr : 0 ≤ nrG E Vs Y n m q i ∧ nrG E Vs Y n m q i ≤ 800000000 := by
      have := sumTo_bd (n := E.2.1) (g := fun c => sumTo E.2.2.1 (apI (yrP (vE (Vs i) E) Y n q).1 m c)) (b := 66000000) (fun c hc => by
        have := sumTo_bd (n := E.2.2.1) (g := apI (yrP (vE (Vs i) E) Y n q).1 m c) (b := 11000000) (fun z hz => apI_r O7.1 nz6 (by omega) (hM c z (by omega) (by omega)).2)
        omega)
      show 0 ≤ apP _ _ _ _ ∧ apP _ _ _ _ ≤ _
      unfold apP
      show 0 ≤ sumTo E.2.1 _ ∧ sumTo E.2.1 _ ≤ _
      omega
    have eg : apP (yrP (vE (Vs i) E) Y n q).1 m (vE (Vs i) E).2.1 (vE (Vs i) E).2.2.1 = nrG E Vs Y n m q i := rfl
    rw [eg]
    have R7 : ∀ j, j < i + 1 → 0 ≤ nrG E Vs Y n m q j ∧ nrG E Vs Y n m q j ≤ 800000000 := fun j hj => by
      by_cases e : j = i
      · subst e; exact gr
      · exact R9 j (by omega)
    have b7 : h7 38 3 = iI (lsF (fun _ => true) (nrG E Vs Y n m q) (-1) i).1 := by rw [E7, C8.1 38 (by unfold Psh; omega)]; exact B9
    have c7 : h7 38 4 = iI (lsF (fun _ => true) (nrG E Vs Y n m q) (-1) i).2 := by rw [E7, C8.1 38 (by unfold Psh; omega)]; exact C9
    have X7 : sxH pl E h7 := S7.sx
    have upd : ∀ u v : Int, sxH pl E (en_up (en_up h7 38 3 (iI u)) 38 4 (iI v)) := fun u v => by
      have F0 : Fr (· = 38) h7 (en_up (en_up h7 38 3 (iI u)) 38 4 (iI v)) := Fr.up (Fr.up Fr.rf (by rfl)) (by rfl)
      have e : ∀ x, x ≠ 38 → en_up (en_up h7 38 3 (iI u)) 38 4 (iI v) x = h7 x := fun x hx => F0 x hx
      have p14 := hS.2.2.1.sh.2.2.2.2.2.2.1
      obtain ⟨⟨z0, z1, z2⟩, ⟨v0, v1, v2⟩, x3⟩ := X7
      exact ⟨⟨by rw [e pl (by omega)]; exact z0, z1, fun i hi9 => by rw [e (pl + 4) (by omega)]; exact z2 i hi9⟩, ⟨by rw [e pl (by omega)]; exact v0, v1, fun i hi9 => by rw [e (pl + 5) (by omega)]; exact v2 i hi9⟩, fun c z k hc hz hk => by rw [e 37 (by omega)]; exact x3 c z k hc hz hk⟩
    have yes : ((lsF (fun _ => true) (nrG E Vs Y n m q) (-1) i).1 = -1 ∨ nrG E Vs Y n m q i < (lsF (fun _ => true) (nrG E Vs Y n m q) (-1) i).2) → en_V G Y_X8_nearest (d + 7) wN wN K 13 [.ref 38, .ref 16, .ref 14, .int (iI (nl : Int)), .ref y, .int (iI ((i : Int) + 1)), .int (iI (nrG E Vs Y n m q i))] [] (en_up (en_up h7 38 3 (iI (i : Int))) 38 4 (iI (nrG E Vs Y n m q i))) hl hr xc xs := fun g => by
      have st : lsF (fun _ => true) (nrG E Vs Y n m q) (-1) (i + 1) = ((i : Int), nrG E Vs Y n m q i) := if_pos ⟨rfl, g⟩
      rw [st] at ih
      exact ih _ _ (Fr.up (Fr.up F7 p38) p38) (upd _ _) R7 (by rw [up_ne (Or.inr (by omega)), up_at]) (by rw [up_at])
    simp (disch := omega) only [sh38, lt38, en_ops, en_opc, iI_add, iI_mul, iI_sub, jL_add, jL_mul, iI_le, iI_lt, iI_eq, iI_eq0, iI_lt0, iI_0le, iI_le0, iI_0lt, jL_iI, iI_jL, lc_eq, lc_lt, lc_le, lc_ge, lc_gt, Nat.sub_zero, Nat.zero_le, true_and, and_true, Nat.reduceAdd, Nat.reduceLeDiff]
    rw [b7, c7]
    simp (disch := omega) only [sh38, lt38, en_ops, en_opc, iI_add, iI_mul, iI_sub, jL_add, jL_mul, iI_le, iI_lt, iI_eq, iI_eq0, iI_lt0, iI_0le, iI_le0, iI_0lt, jL_iI, iI_jL, lc_eq, lc_lt, lc_le, lc_ge, lc_gt, Nat.sub_zero, Nat.zero_le, true_and, and_true, Nat.reduceAdd, Nat.reduceLeDiff]
    refine ⟨fun e => yes (Or.inl e), fun e => ⟨fun e2 => ?_, fun e2 => yes (Or.inr (by omega))⟩⟩
    have st : lsF (fun _ => true) (nrG E Vs Y n m q) (-1) (i + 1) = lsF (fun _ => true) (nrG E Vs Y n m q) (-1) i := if_neg (fun g => by rcases g.2 with g | g <;> omega)
    rw [st] at ih
    exact ih h7 _ F7 X7 R7 b7 c7
end
