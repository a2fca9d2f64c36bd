section
variable {G : en_G} {d : Nat} {K : en_K} {a : Nat} {E : hEnv} {q : hSt} {hi : en_I} {hl : en_L} {hr : en_F} {xc xs : Nat} {f : Nat → Nat → Nat → Int} {nc nz : Nat} {V : Nat → (Nat → Int) → Int} {Y : hYr}
/-- how often a year goes over one crest -/
def oyN (V : Nat → (Nat → Int) → Int) (Y : hYr) (n : Nat) (h : Int) (c : Nat) (top : Int) : Int := (oyP V c Y n (0, top, h)).1
theorem oc_bd {c : Nat} {w : Int × Int × Int} {s : Int × Int × Int} {h : Int} (hs : 0 ≤ s.1 ∧ s.1 + h ≤ s.2.2) (h6 : s.2.2 ≤ 600) : ∀ k, (0 ≤ (ocP V c w k s).1 ∧ (ocP V c w k s).1 + h ≤ (ocP V c w k s).2.2) ∧ (ocP V c w k s).2.2 ≤ 600 := by
  intro k
  induction k with
  | zero => exact ⟨hs, h6⟩
  | succ k ih =>
    obtain ⟨⟨i1, i2⟩, i3⟩ := ih
    have st : ocP V c w (k + 1) s = if (ocP V c w k s).2.2 < 600 then o1P V c w (ocP V c w k s) else ocP V c w k s := rfl
    rw [st]
    split
    next g =>
      unfold o1P
      split
      · exact ⟨⟨by show 0 ≤ (ocP V c w k s).1 + 1; omega, by show (ocP V c w k s).1 + 1 + h ≤ (ocP V c w k s).2.2 + 1; omega⟩, by show (ocP V c w k s).2.2 + 1 ≤ 600; omega⟩
      · exact ⟨⟨i1, by show (ocP V c w k s).1 + h ≤ (ocP V c w k s).2.2 + 1; omega⟩, by show (ocP V c w k s).2.2 + 1 ≤ 600; omega⟩
    next => exact ⟨⟨i1, i2⟩, i3⟩
theorem oy_bd {c : Nat} {top h : Int} (h6 : h ≤ 600) : ∀ n, (0 ≤ (oyP V c Y n (0, top, h)).1 ∧ (oyP V c Y n (0, top, h)).1 + h ≤ (oyP V c Y n (0, top, h)).2.2) ∧ (oyP V c Y n (0, top, h)).2.2 ≤ 600 := by
  intro n
  induction n with
  | zero => exact ⟨⟨Int.le_refl _, by show (0 : Int) + h ≤ h; omega⟩, h6⟩
  | succ n ih => exact oc_bd ih.1 ih.2 _
theorem oyN_r {c n : Nat} {top h : Int} (h0 : 0 ≤ h) (h6 : h ≤ 600) : 0 ≤ oyN V Y n h c top ∧ oyN V Y n h c top ≤ 600 := by
  have := oy_bd (V := V) (Y := Y) (c := c) (top := top) h6 n
  unfold oyN
  omega
def fwP (V : Nat → (Nat → Int) → Int) (Y : hYr) (n : Nat) (h : Int) (cr : Nat → Int) (m : Int) (c : Nat) : Int := oyN V Y n h c (cr c) - oyN V Y n h c (cr c + m)
def plP (V : Nat → (Nat → Int) → Int) (Y : hYr) (n : Nat) (h : Int) (cr : Nat → Int) (nc : Nat) : Int := sumTo nc (fun c => oyN V Y n h c (cr c))
def fbP (fw : Nat → Int) (b : Nat) : Int := sumTo 12 (fun c => if b.testBit c = true then fw c else 0)
theorem sh47 : en_SH 47 = (100, 12) := by decide
theorem lt47 : 47 < 134 := by decide
theorem t_fewerBy {b : Nat} {fw : Nat → Int} (hT : trR hr) (hb : b < 4096) (hf : ∀ c, c < 12 → b.testBit c = true → hi 47 c = iI (fw c)) (H : K (.inl (some (.int (iI (fbP fw b))))) hi hl hr) : en_Call G (d + 1) xc xs Y_X8_fewerBy wN wN [.ref 38, .int (iI (b : Int))] hi hl hr K := by
  obtain ⟨t0, t1, t2, t3, t4⟩ := id hT
  apply en_X8_fewerBy
  simp (disch := omega) only [B_X8_fewerBy_0, en_ops, en_opc, iI_add, iI_mul, iI_sub, jL_add, jL_mul, iI_le, iI_lt, iI_eq, iI_eq0, iI_lt0, iI_0le, iI_le0, iI_0lt, jL_iI, iI_jL, lc_eq, lc_lt, lc_le, lc_ge, lc_gt, Nat.sub_zero, Nat.zero_le, true_and, and_true, Nat.reduceAdd, Nat.reduceLeDiff]
  suffices L : ∀ c : Nat, c ≤ 12 → en_V G Y_X8_fewerBy (d + 1) wN wN K 4 [.ref 38, .int (iI (b : Int)), .int (iI (sumTo c (fun c => if b.testBit c = true then fw c else 0))), .int (iI c)] [] hi hl hr xc xs from L 0 (by omega)
  refine lp 12 ?_ (fun c hc ih => ?_)
  · apply s_X8_fewerBy_4
    simp (disch := omega) only [B_X8_fewerBy_4, en_ops, en_opc, iI_add, iI_mul, iI_sub, jL_add, jL_mul, iI_le, iI_lt, iI_eq, iI_eq0, iI_lt0, iI_0le, iI_le0, iI_0lt, jL_iI, iI_jL, lc_eq, lc_lt, lc_le, lc_ge, lc_gt, Nat.sub_zero, Nat.zero_le, true_and, and_true, Nat.reduceAdd, Nat.reduceLeDiff]
    exact ⟨fun _ => H, fun e => absurd (show (12 : Int) ≤ ((12 : Nat) : Int) by omega) e⟩
  · rw [sumTo_s] at ih
    apply s_X8_fewerBy_4
    cases hbit : b.testBit c
    · rw [hbit, if_neg (by decide)] at ih
      simp (disch := omega) only [B_X8_fewerBy_4, sh_0 (show c < 32 by omega) hbit, en_ops, en_opc, iI_add, iI_mul, iI_sub, jL_add, jL_mul, iI_le, iI_lt, iI_eq, iI_eq0, iI_lt0, iI_0le, iI_le0, iI_0lt, jL_iI, iI_jL, lc_eq, lc_lt, lc_le, lc_ge, lc_gt, Nat.sub_zero, Nat.zero_le, true_and, and_true, Nat.reduceAdd, Nat.reduceLeDiff]
      exact ⟨fun e => by omega, fun _ => ⟨fun _ => ih, fun e => absurd e (by decide)⟩⟩
    · rw [hbit, if_pos rfl] at ih
      simp (disch := omega) only [B_X8_fewerBy_4, sh_1 (show c < 32 by omega) hbit, t2, sh38, lt38, sh47, lt47, en_ops, en_opc, iI_add, iI_mul, iI_sub, jL_add, jL_mul, iI_le, iI_lt, iI_eq, iI_eq0, iI_lt0, iI_0le, iI_le0, iI_0lt, jL_iI, iI_jL, lc_eq, lc_lt, lc_le, lc_ge, lc_gt, Nat.sub_zero, Nat.zero_le, true_and, and_true, Nat.reduceAdd, Nat.reduceLeDiff]
      refine ⟨fun e => by omega, fun _ => ⟨fun e => (e (by first | trivial | rfl)).elim, fun _ => ⟨c, rfl, by omega, ?_⟩⟩⟩
      rw [hf c hc hbit, iI_add]
      exact ih
def rsP (V : Nat → (Nat → Int) → Int) (Y : hYr) (n : Nat) (h : Int) (cr : Nat → Int) (m : Int) (nc b : Nat) : Int := plP V Y n h cr nc - fbP (fwP V Y n h cr m) b
def pkB (k : Nat) (b : Nat) : Bool := decide (1 ≤ b) && decide (bcN b = k)
theorem rsP_r {n b : Nat} {h m : Int} {cr : Nat → Int} (h0 : 0 ≤ h) (h6 : h ≤ 600) (hnc : nc ≤ 12) : -20000 ≤ rsP V Y n h cr m nc b ∧ rsP V Y n h cr m nc b ≤ 20000 := by
  have p := sumTo_bd (n := nc) (g := fun c => oyN V Y n h c (cr c)) (b := 600) (fun c _ => oyN_r h0 h6)
  have f1 := sumTo_le (n := 12) (f := fun c => if b.testBit c = true then fwP V Y n h cr m c else 0) (g := fun _ => 600) (fun c _ => by
    have a1 := oyN_r (V := V) (Y := Y) (n := n) (c := c) (top := cr c) h0 h6
    have a2 := oyN_r (V := V) (Y := Y) (n := n) (c := c) (top := cr c + m) h0 h6
    show (if b.testBit c = true then fwP V Y n h cr m c else 0) ≤ 600
    unfold fwP
    split <;> omega)
  have f2 := sumTo_le (n := 12) (f := fun _ => -600) (g := fun c => if b.testBit c = true then fwP V Y n h cr m c else 0) (fun c _ => by
    have a1 := oyN_r (V := V) (Y := Y) (n := n) (c := c) (top := cr c) h0 h6
    have a2 := oyN_r (V := V) (Y := Y) (n := n) (c := c) (top := cr c + m) h0 h6
    show -600 ≤ (if b.testBit c = true then fwP V Y n h cr m c else 0)
    unfold fwP
    split <;> omega)
  have e1 : sumTo 12 (fun _ => (600 : Int)) = 7200 := rfl
  have e2 : sumTo 12 (fun _ => (-600 : Int)) = -7200 := rfl
  unfold rsP plP fbP
  omega
theorem bit_lt {b n c : Nat} (hb : b < 2 ^ n) (h : b.testBit c = true) : c < n := by
  rcases Nat.lt_or_ge c n with g | g
  · exact g
  · have : b.testBit c = false := Nat.testBit_lt_two_pow (Nat.lt_of_lt_of_le hb (Nat.pow_le_pow_right (by decide) g))
    rw [this] at h; cases h
theorem pow12 {n : Nat} (h : n ≤ 12) : 2 ^ n ≤ 4096 := Nat.pow_le_pow_right (by decide) h
def P367 (x : Nat) : Prop := x = 35 ∨ x = 36 ∨ x = 38 ∨ x = 47
theorem t_raise {L y n k : Nat} {m : Int} (hT : trR hr) (hS : seR hr) (hL : isLw L) (hLR : lwR L hr) (hV : lwV G L V hi) (hVr : ∀ w nm, -2147483648 ≤ V w nm ∧ V w nm < 2147483648) (hq : hsH 16 E q hi) (hO : hOK E q) (hcr : ∀ c, c < 12 → q.2.1 c ≤ 900) (hy : isYe y) (hyR : yeR y hr) (hY : yeH y n Y hi) (hk : k ≤ 12) (hm : 1 ≤ m ∧ m ≤ 20)
    (H : ∀ hi', Fr P367 hi hi' → hi' 38 3 = iI (lsF (pkB k) (rsP V Y n q.2.2.2.2.2 q.2.1 m E.2.1) 0 (2 ^ E.2.1)).1 → ((lsF (pkB k) (rsP V Y n q.2.2.2.2.2 q.2.1 m E.2.1) 0 (2 ^ E.2.1)).1 ≠ -1 → hi' 38 4 = iI (lsF (pkB k) (rsP V Y n q.2.2.2.2.2 q.2.1 m E.2.1) 0 (2 ^ E.2.1)).2) → K (.inl none) hi' hl hr) :
    en_Call G (d + 5) xc xs Y_X8_raise wN wN [.ref 38, .ref 16, .ref L, .ref y, .int (iI (k : Int)), .int (iI m)] hi hl hr K := by
  obtain ⟨t0, t1, t2, t3, t4⟩ := id hT
  have hb : isSh 16 := Or.inl rfl
  obtain ⟨z0, z1, z2, z3, -⟩ := hb.sh
  obtain ⟨y1, y2, -⟩ := id t4
  obtain ⟨-, -, o3, o4, o5⟩ := id hO
  have nc12 := hq.1.2.2.1
  have nP : ∀ x, (x < 34 ∨ (36 < x ∧ x ≠ 38 ∧ x ≠ 47)) → ¬ P367 x := fun x g1 g => by unfold P367 at g; omega
  have e0 : ∀ h9, Fr P367 hi h9 → h9 16 0 = iI (E.2.1 : Int) := fun h9 F => by rw [F 16 (nP _ (by omega))]; exact hq.1.1
  have e11 : ∀ h9, Fr P367 hi h9 → h9 16 11 = iI q.2.2.2.2.2 := fun h9 F => by rw [F 16 (nP _ (by omega))]; exact hq.2.2.2.2.2.2
  have ec : ∀ h9, Fr P367 hi h9 → ∀ c, c < 12 → h9 18 c = iI (q.2.1 c) := fun h9 F c hc => by rw [F 18 (nP _ (by omega))]; exact hq.2.1 c hc
  have V9 : ∀ h9, Fr P367 hi h9 → lwV G L V h9 := fun h9 F => hV.mono hL F (fun x g => by unfold P367 at g; omega)
  have Y9 : ∀ h9, Fr P367 hi h9 → yeH y n Y h9 := fun h9 F => hY.fr hy F (fun x g1 g2 => nP x (by omega))
  have F56 : ∀ {h1 h2 : en_I}, Fr P56 h1 h2 → Fr P367 h1 h2 := fun F => F.mono (fun x g => by unfold P56 at g; unfold P367; omega)
  have r1 := fun c top => oyN_r (V := V) (Y := Y) (n := n) (c := c) (top := top) o4 o5
  have L89 : ∀ i : Nat, i ≤ 2 ^ E.2.1 ∨ i ≤ 1 → 1 ≤ i → ∀ h9 x8, Fr P367 hi h9 → (∀ c, c < E.2.1 → h9 47 c = iI (fwP V Y n q.2.2.2.2.2 q.2.1 m c)) → h9 38 3 = iI (lsF (pkB k) (rsP V Y n q.2.2.2.2.2 q.2.1 m E.2.1) 0 i).1 → ((lsF (pkB k) (rsP V Y n q.2.2.2.2.2 q.2.1 m E.2.1) 0 i).1 ≠ -1 → h9 38 4 = iI (lsF (pkB k) (rsP V Y n q.2.2.2.2.2 q.2.1 m E.2.1) 0 i).2) → en_V G Y_X8_raise (d + 5) wN wN K 89 [.ref 38, .ref 16, .ref L, .ref y, .int (iI (k : Int)), .int (iI m), .int (iI (plP V Y n q.2.2.2.2.2 q.2.1 E.2.1)), .int (iI i), x8] [] h9 hl hr xc xs := by
    have pw := pow12 nc12
    have pw1 : 1 ≤ 2 ^ E.2.1 := Nat.one_le_two_pow
    intro i hi1 hi2
    have hi3 : i ≤ 2 ^ E.2.1 := by omega
    clear hi1
    revert hi2
    refine lp (P := fun i => 1 ≤ i → ∀ h9 x8, Fr P367 hi h9 → (∀ c, c < E.2.1 → h9 47 c = iI (fwP V Y n q.2.2.2.2.2 q.2.1 m c)) → h9 38 3 = iI (lsF (pkB k) (rsP V Y n q.2.2.2.2.2 q.2.1 m E.2.1) 0 i).1 → ((lsF (pkB k) (rsP V Y n q.2.2.2.2.2 q.2.1 m E.2.1) 0 i).1 ≠ -1 → h9 38 4 = iI (lsF (pkB k) (rsP V Y n q.2.2.2.2.2 q.2.1 m E.2.1) 0 i).2) → en_V G Y_X8_raise (d + 5) wN wN K 89 [.ref 38, .ref 16, .ref L, .ref y, .int (iI (k : Int)), .int (iI m), .int (iI (plP V Y n q.2.2.2.2.2 q.2.1 E.2.1)), .int (iI i), x8] [] h9 hl hr xc xs) (2 ^ E.2.1) (fun _ h9 x8 F9 W9 B9 C9 => ?_) (fun i hi9 ih h1 h9 x8 F9 W9 B9 C9 => ?_) i hi3
    · apply s_X8_raise_89
      simp (disch := omega) only [B_X8_raise_89, z0, z1, e0 h9 F9, shl_1 E.2.1 (show E.2.1 < 31 by omega), en_ops, en_opc, iI_add, iI_mul, iI_sub, jL_add, jL_mul, iI_le, iI_lt, iI_eq, iI_eq0, iI_lt0, iI_0le, iI_le0, iI_0lt, jL_iI, iI_jL, lc_eq, lc_lt, lc_le, lc_ge, lc_gt, Nat.sub_zero, Nat.zero_le, true_and, and_true, Nat.reduceAdd, Nat.reduceLeDiff]
      exact ⟨fun _ => H h9 F9 B9 C9, fun e => absurd (Int.le_refl _) e⟩
    · obtain ⟨⟨ls1, ls2⟩, ls3, ls4⟩ := lsF_r (P := pkB k) (g := rsP V Y n q.2.2.2.2.2 q.2.1 m E.2.1) (s0 := 0) (lo := -20000) (h := 20000) (by omega) i (fun j _ _ => rsP_r o4 o5 nc12)
      have rr := rsP_r (V := V) (Y := Y) (n := n) (b := i) (m := m) (cr := q.2.1) o4 o5 nc12
      have bl := bc_le (b := i)
      apply s_X8_raise_89
      simp (disch := omega) only [B_X8_raise_89, z0, z1, e0 h9 F9, shl_1 E.2.1 (show E.2.1 < 31 by omega), en_ops, en_opc, iI_add, iI_mul, iI_sub, jL_add, jL_mul, iI_le, iI_lt, iI_eq, iI_eq0, iI_lt0, iI_0le, iI_le0, iI_0lt, jL_iI, iI_jL, lc_eq, lc_lt, lc_le, lc_ge, lc_gt, Nat.sub_zero, Nat.zero_le, true_and, and_true, Nat.reduceAdd, Nat.reduceLeDiff]
      refine ⟨fun e => by omega, fun _ => t_bitCount (d := d + 3) (by omega) ?_⟩
      simp (disch := omega) only [en_ops, en_opc, iI_add, iI_mul, iI_sub, jL_add, jL_mul, iI_le, iI_lt, iI_eq, iI_eq0, iI_lt0, iI_0le, iI_le0, iI_0lt, jL_iI, iI_jL, lc_eq, lc_lt, lc_le, lc_ge, lc_gt, Nat.sub_zero, Nat.zero_le, true_and, and_true, Nat.reduceAdd, Nat.reduceLeDiff]
      refine ⟨fun e => ?_, fun e => ⟨⟨by decide, by decide⟩, t_fewerBy (d := d + 3) (fw := fwP V Y n q.2.2.2.2.2 q.2.1 m) hT (by omega) (fun c hc hbit => W9 c (bit_lt hi9 hbit)) ?_⟩⟩
      · have st : lsF (pkB k) (rsP V Y n q.2.2.2.2.2 q.2.1 m E.2.1) 0 (i + 1) = lsF (pkB k) (rsP V Y n q.2.2.2.2.2 q.2.1 m E.2.1) 0 i := if_neg (fun g => by
          have := g.1
          unfold pkB at this
          simp at this
          omega)
        rw [st] at ih
        exact ih (by omega) h9 x8 F9 W9 B9 C9
      · have pk : pkB k i = true := by unfold pkB; simp; omega
        have er : plP V Y n q.2.2.2.2.2 q.2.1 E.2.1 - fbP (fwP V Y n q.2.2.2.2.2 q.2.1 m) i = rsP V Y n q.2.2.2.2.2 q.2.1 m E.2.1 i := rfl
        have F38 : ∀ u v : Int, Fr P367 hi (en_up (en_up h9 38 3 (iI u)) 38 4 (iI v)) := fun u v => Fr.up (Fr.up F9 (by unfold P367; omega)) (by unfold P367; omega)
        have yes : ((lsF (pkB k) (rsP V Y n q.2.2.2.2.2 q.2.1 m E.2.1) 0 i).1 = -1 ∨ rsP V Y n q.2.2.2.2.2 q.2.1 m E.2.1 i < (lsF (pkB k) (rsP V Y n q.2.2.2.2.2 q.2.1 m E.2.1) 0 i).2) → en_V G Y_X8_raise (d + 5) wN wN K 89 [.ref 38, .ref 16, .ref L, .ref y, .int (iI (k : Int)), .int (iI m), .int (iI (plP V Y n q.2.2.2.2.2 q.2.1 E.2.1)), .int (iI ((i : Int) + 1)), .int (iI (rsP V Y n q.2.2.2.2.2 q.2.1 m E.2.1 i))] [] (en_up (en_up h9 38 3 (iI (i : Int))) 38 4 (iI (rsP V Y n q.2.2.2.2.2 q.2.1 m E.2.1 i))) hl hr xc xs := fun g => by
          have st : lsF (pkB k) (rsP V Y n q.2.2.2.2.2 q.2.1 m E.2.1) 0 (i + 1) = ((i : Int), rsP V Y n q.2.2.2.2.2 q.2.1 m E.2.1 i) := if_pos ⟨pk, g⟩
          rw [st] at ih
          exact ih (by omega) _ _ (F38 _ _) (fun c hc => by rw [up_row (by omega), up_row (by omega)]; exact W9 c hc) (by rw [up_ne (Or.inr (by omega)), up_at]) (fun _ => by rw [up_at])
        simp (disch := omega) only [er, sh38, lt38, en_ops, en_opc, iI_add, iI_mul, iI_sub, jL_add, jL_mul, iI_le, iI_lt, iI_eq, iI_eq0, iI_lt0, iI_0le, iI_le0, iI_0lt, jL_iI, iI_jL, lc_eq, lc_lt, lc_le, lc_ge, lc_gt, Nat.sub_zero, Nat.zero_le, true_and, and_true, Nat.reduceAdd, Nat.reduceLeDiff]
        rw [B9]
        simp (disch := omega) only [sh38, lt38, en_ops, en_opc, iI_add, iI_mul, iI_sub, jL_add, jL_mul, iI_le, iI_lt, iI_eq, iI_eq0, iI_lt0, iI_0le, iI_le0, iI_0lt, jL_iI, iI_jL, lc_eq, lc_lt, lc_le, lc_ge, lc_gt, Nat.sub_zero, Nat.zero_le, true_and, and_true, Nat.reduceAdd, Nat.reduceLeDiff]
        refine ⟨fun e2 => yes (Or.inl e2), fun e2 => ?_⟩
        rw [C9 e2]
        simp (disch := omega) only [sh38, lt38, en_ops, en_opc, iI_add, iI_mul, iI_sub, jL_add, jL_mul, iI_le, iI_lt, iI_eq, iI_eq0, iI_lt0, iI_0le, iI_le0, iI_0lt, jL_iI, iI_jL, lc_eq, lc_lt, lc_le, lc_ge, lc_gt, Nat.sub_zero, Nat.zero_le, true_and, and_true, Nat.reduceAdd, Nat.reduceLeDiff]
        refine ⟨fun e3 => ?_, fun e3 => yes (Or.inr (by omega))⟩
        have st : lsF (pkB k) (rsP V Y n q.2.2.2.2.2 q.2.1 m E.2.1) 0 (i + 1) = lsF (pkB k) (rsP V Y n q.2.2.2.2.2 q.2.1 m E.2.1) 0 i := if_neg (fun g => by rcases g.2 with g | g <;> omega)
        rw [st] at ih
        exact ih (by omega) h9 _ F9 W9 B9 C9
  apply en_X8_raise
  simp (disch := omega) only [B_X8_raise_0, en_ops, en_opc, iI_add, iI_mul, iI_sub, jL_add, jL_mul, iI_le, iI_lt, iI_eq, iI_eq0, iI_lt0, iI_0le, iI_le0, iI_0lt, jL_iI, iI_jL, lc_eq, lc_lt, lc_le, lc_ge, lc_gt, Nat.sub_zero, Nat.zero_le, true_and, and_true, Nat.reduceAdd, Nat.reduceLeDiff]
  suffices L6 : ∀ c : Nat, c ≤ E.2.1 → ∀ h9 x8, Fr P367 hi h9 → (∀ j, j < c → h9 47 j = iI (fwP V Y n q.2.2.2.2.2 q.2.1 m j)) → en_V G Y_X8_raise (d + 5) wN wN K 6 [.ref 38, .ref 16, .ref L, .ref y, .int (iI (k : Int)), .int (iI m), .int (iI (plP V Y n q.2.2.2.2.2 q.2.1 c)), .int (iI c), x8] [] h9 hl hr xc xs from L6 0 (by omega) hi _ Fr.rf (fun j hj => by omega)
  refine lp E.2.1 (fun h9 x8 F9 W9 => ?_) (fun c hc ih h9 x8 F9 W9 => ?_)
  · apply s_X8_raise_6
    simp (disch := omega) only [B_X8_raise_6, z0, z1, e0 h9 F9, sh38, lt38, en_ops, en_opc, iI_add, iI_mul, iI_sub, jL_add, jL_mul, iI_le, iI_lt, iI_eq, iI_eq0, iI_lt0, iI_0le, iI_le0, iI_0lt, jL_iI, iI_jL, lc_eq, lc_lt, lc_le, lc_ge, lc_gt, Nat.sub_zero, Nat.zero_le, true_and, and_true, Nat.reduceAdd, Nat.reduceLeDiff]
    refine ⟨fun _ => ?_, fun e => absurd (Int.le_refl _) e⟩
    exact L89 1 (Or.inr (by omega)) (by omega) _ _ (Fr.up F9 (by unfold P367; omega)) (fun j hj => by rw [up_row (by omega)]; exact W9 j hj) (by rw [up_at]; rfl) (fun e => (e (by first | trivial | rfl)).elim)
  · have cc := o3 c (by omega)
    have cc9 := hcr c (by omega)
    apply s_X8_raise_6
    simp (disch := omega) only [B_X8_raise_6, z0, z1, sh18, lt18, y2, e0 h9 F9, t0, sh38, lt38, en_ops, en_opc, iI_add, iI_mul, iI_sub, jL_add, jL_mul, iI_le, iI_lt, iI_eq, iI_eq0, iI_lt0, iI_0le, iI_le0, iI_0lt, jL_iI, iI_jL, lc_eq, lc_lt, lc_le, lc_ge, lc_gt, Nat.sub_zero, Nat.zero_le, true_and, and_true, Nat.reduceAdd, Nat.reduceLeDiff]
    refine ⟨fun e => by omega, fun _ => ⟨c, rfl, by omega, ?_⟩⟩
    rw [ec h9 F9 c (by omega)]
    refine ⟨⟨by decide, by decide⟩, ?_⟩
    refine t_oversIn (V := V) (Y := Y) (d := d) hS hL hLR (V9 h9 F9) hVr hb hy hyR (Y9 h9 F9) (e11 h9 F9) ⟨⟨cc.1, cc.2⟩, o4, o5⟩ (fun h8 F8 => ?_)
    have F98 := F9.tr (F56 F8)
    simp (disch := omega) only [z0, z1, sh18, lt18, y2, t0, t2, sh38, lt38, en_ops, en_opc, iI_add, iI_mul, iI_sub, jL_add, jL_mul, iI_le, iI_lt, iI_eq, iI_eq0, iI_lt0, iI_0le, iI_le0, iI_0lt, jL_iI, iI_jL, lc_eq, lc_lt, lc_le, lc_ge, lc_gt, Nat.sub_zero, Nat.zero_le, true_and, and_true, Nat.reduceAdd, Nat.reduceLeDiff]
    refine ⟨c, rfl, by omega, ?_⟩
    rw [ec h8 F98 c (by omega)]
    simp (disch := omega) only [en_ops, en_opc, iI_add, iI_mul, iI_sub, jL_add, jL_mul, iI_le, iI_lt, iI_eq, iI_eq0, iI_lt0, iI_0le, iI_le0, iI_0lt, jL_iI, iI_jL, lc_eq, lc_lt, lc_le, lc_ge, lc_gt, Nat.sub_zero, Nat.zero_le, true_and, and_true, Nat.reduceAdd, Nat.reduceLeDiff]
    refine ⟨⟨by decide, by decide⟩, ?_⟩
    refine t_oversIn (V := V) (Y := Y) (d := d) hS hL hLR (V9 h8 F98) hVr hb hy hyR (Y9 h8 F98) (e11 h8 F98) ⟨⟨by show 1 ≤ q.2.1 c + m; omega, by show q.2.1 c + m ≤ 1000; omega⟩, o4, o5⟩ (fun h7 F7 => ?_)
    have F97 := F98.tr (F56 F7)
    simp (disch := omega) only [sh47, lt47, en_ops, en_opc, iI_add, iI_mul, iI_sub, jL_add, jL_mul, iI_le, iI_lt, iI_eq, iI_eq0, iI_lt0, iI_0le, iI_le0, iI_0lt, jL_iI, iI_jL, lc_eq, lc_lt, lc_le, lc_ge, lc_gt, Nat.sub_zero, Nat.zero_le, true_and, and_true, Nat.reduceAdd, Nat.reduceLeDiff]
    refine ⟨c, rfl, by omega, ?_⟩
    have ep : plP V Y n q.2.2.2.2.2 q.2.1 (c + 1) = plP V Y n q.2.2.2.2.2 q.2.1 c + (oyP V c Y n (0, q.2.1 c, q.2.2.2.2.2)).1 := by unfold plP; rw [sumTo_s]; rfl
    rw [ep] at ih
    refine ih _ _ (Fr.up F97 (by unfold P367; omega)) (fun j hj => ?_)
    by_cases e : j = c
    · subst e; rw [up_at]; rfl
    · rw [up_ne (Or.inr e), F7 47 (P56.n _ (by omega)), F8 47 (P56.n _ (by omega))]; exact W9 j (by omega)
end
