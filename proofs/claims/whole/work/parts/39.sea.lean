section
variable {G : en_G} {d : Nat} {K : en_K} {a nc nz : Nat} {f g : Nat → Nat → Nat → Int} {hi : en_I} {hl : en_L} {hr : en_F} {xc xs : Nat}
variable {V : Nat → (Nat → Int) → Int} {he bt fr : Int} {cr ov wl sm : Nat → Int}
def spOK (nc nz ns : Nat) (sp : Nat → Nat × Nat × Nat × Int) : Prop := ns ≤ 8 ∧ ∀ i, i < ns → (sp i).1 < nc ∧ (sp i).2.1 < nz ∧ (sp i).2.2.1 < 3 ∧ 1 ≤ (sp i).2.2.2 ∧ (sp i).2.2.2 ≤ 999
theorem spN_r {ns : Nat} {sp : Nat → Nat × Nat × Nat × Int} (h : spOK nc nz ns sp) : ∀ n, n ≤ ns → 0 ≤ spN sp n ∧ spN sp n ≤ 999 * n := by
  intro n
  induction n with
  | zero => exact fun _ => ⟨Int.le_refl _, Int.le_refl _⟩
  | succ n ih =>
    intro hn
    obtain ⟨i1, i2⟩ := ih (by omega)
    obtain ⟨-, -, -, h3, h4⟩ := h.2 n (by omega)
    unfold spN at i1 i2 ⊢
    rw [sumTo_s]
    omega
theorem spF_tot {ns : Nat} {sp : Nat → Nat × Nat × Nat × Int} (hnc : nc ≤ 12) (hnz : nz ≤ 6) (h : spOK nc nz ns sp) : tot (spF f sp ns) = tot f + spN sp ns := by
  have e : tot (spF f sp ns) = tot (fun c z k => f c z k + sumTo ns (fun i => if c = (sp i).1 ∧ z = (sp i).2.1 ∧ k = (sp i).2.2.1 then (sp i).2.2.2 else 0)) := rfl
  rw [e, tot_add, tot_sum]
  congr 1
  refine sumTo_congr (fun i hi => ?_)
  obtain ⟨h1, h2, h3, -, -⟩ := h.2 i hi
  exact tot_one (by omega) (by omega) h3
theorem spF_B {ns : Nat} {sp : Nat → Nat × Nat × Nat × Int} (hnc : nc ≤ 12) (hnz : nz ≤ 6) (h : spOK nc nz ns sp) (hB : fB nc nz f) (ht : tot f ≤ 9990000) : fB nc nz (spF f sp ns) := by
  have t := spF_tot (f := f) hnc hnz h
  have n := spN_r h ns (Nat.le_refl _)
  have n8 := h.1
  refine ⟨fun c z k => ?_, fun c z k hz => ?_, fun c z k hc => ?_, by show tot _ ≤ _; omega⟩
  · have := hB.1 c z k
    have : 0 ≤ sumTo ns (fun i => if c = (sp i).1 ∧ z = (sp i).2.1 ∧ k = (sp i).2.2.1 then (sp i).2.2.2 else 0) := sumTo_nn (fun i hi => by
      obtain ⟨-, -, -, h4, -⟩ := h.2 i hi
      split <;> omega)
    unfold spF; omega
  · unfold spF
    rw [hB.2.1 c z k hz, sumTo_zero (fun i hi => if_neg (fun q => by have := h.2 i hi; omega))]; rfl
  · unfold spF
    rw [hB.2.2.1 c z k hc, sumTo_zero (fun i hi => if_neg (fun q => by have := h.2 i hi; omega))]; rfl
/-- an hour's heaps, and its sums -/
def h3P (V : Nat → (Nat → Int) → Int) (nc nz : Nat) (wl : Nat → Int) (he bt fr : Int) (sp : Nat → Nat × Nat × Nat × Int) (ns : Nat) (cr : Nat → Int) (f : Nat → Nat → Nat → Int) : Nat → Nat → Nat → Int := spF (f2P V he bt fr cr (f1P V f nc nz wl he bt fr cr (nc * 18)) nc) sp ns
def h4P (V : Nat → (Nat → Int) → Int) (nc nz : Nat) (wl : Nat → Int) (he bt fr : Int) (sp : Nat → Nat × Nat × Nat × Int) (ns : Nat) (lo : Nat → Nat × Nat × Int × Int) (nl : Nat) (cr : Nat → Int) (f : Nat → Nat → Nat → Int) (h : Int) : (Nat → Nat → Nat → Int) × Int := drP nc nz lo (h + 1) (h3P V nc nz wl he bt fr sp ns cr f) nl
def smP (V : Nat → (Nat → Int) → Int) (nc nz : Nat) (wl : Nat → Int) (he bt fr : Int) (sp : Nat → Nat × Nat × Nat × Int) (ns : Nat) (lo : Nat → Nat × Nat × Int × Int) (nl : Nat) (cr sm : Nat → Int) (f : Nat → Nat → Nat → Int) (h : Int) (i : Nat) : Int :=
  smN V f nz he bt fr cr sm (nc * 18) i + (if i = 3 then bhP V he bt fr cr (f1P V f nc nz wl he bt fr cr (nc * 18)) nc else 0) + (if i = 1 then spN sp ns else 0) + (if i = 4 then (h4P V nc nz wl he bt fr sp ns lo nl cr f h).2 else 0)
def Prl (a x : Nat) : Prop := x = 34 ∨ x = 35 ∨ x = 36 ∨ x = 37 ∨ x = a ∨ x = a + 1 ∨ x = a + 2 ∨ x = a + 4 ∨ x = a + 7
theorem t_roll {L pl ns nl : Nat} {sp : Nat → Nat × Nat × Nat × Int} {lo : Nat → Nat × Nat × Int × Int} {p h : Int} (hS : seR hr) (h34 : hr 34 5 = .ref pl) (hpl : isPl pl) (hPR : plR pl hr) (hsp : spH pl ns sp hi) (hso : spOK nc nz ns sp) (hlo : loH pl nl nc lo hi)
    (hL : isLw L) (hLR : lwR L hr) (hV : lwV G L V hi) (hVr : ∀ w nm, -2147483648 ≤ V w nm ∧ V w nm < 2147483648) (ha : isSh a) (hR : shR a hr) (hh : shH a nc nz f hi) (hB : fB nc nz f) (ht : tot f ≤ 9990000) (hw : wvH he bt fr hi) (hfr : fr = 0 ∨ fr = 1)
    (hwl : ∀ c, c < 12 → hi (a + 3) c = iI (wl c)) (hwl0 : ∀ c, c < 12 → 0 ≤ wl c ∧ wl c ≤ 16) (hcr : ∀ c, c < 12 → hi (a + 2) c = iI (cr c)) (hcr0 : ∀ c, c < 12 → 1 ≤ cr c ∧ cr c ≤ 1000) (hov : ∀ c, c < 12 → hi (a + 4) c = iI (ov c))
    (hM : smH a sm hi) (hA : arrH (fun _ _ _ => 0) hi) (hp : hi a 10 = iI p) (hh0 : hi a 11 = iI h) (hr0 : 0 ≤ h) (hr1 : h ≤ 900)
    (H : ∀ hi', Fr (Prl a) hi hi' → (∀ j, j ≠ 10 → j ≠ 11 → hi' a j = hi a j) → hi' a 10 = iI (p + spP sp ns) → hi' a 11 = iI (h + 1) → shH a nc nz (h4P V nc nz wl he bt fr sp ns lo nl cr f h).1 hi' → fB nc nz (h4P V nc nz wl he bt fr sp ns lo nl cr f h).1 → tot (h4P V nc nz wl he bt fr sp ns lo nl cr f h).1 ≤ tot f + 7992 → arrH (fun _ _ _ => 0) hi' → smH a (smP V nc nz wl he bt fr sp ns lo nl cr sm f h) hi' → wvH he bt fr hi' → (∀ c, c < 12 → hi' (a + 2) c = iI (cr2 V he bt fr cr nc c)) → (∀ c, c < 12 → hi' (a + 4) c = iI (ov2 V he bt fr cr ov nc c)) → K (.inl (some (.int (iI (sumTo (nc * 18) (mvN V f nz he bt fr cr)))))) hi' hl hr) :
    en_Call G (d + 5) xc xs Y_X4_roll wN wN [.ref 34, .ref a, .ref L] hi hl hr K := by
  obtain ⟨s0, s1, s2, s3, s4, s5, s6, s7, s8, s9, s10, s11⟩ := ha.sh
  have b0 := hh.2.2.1
  have b1 := hh.2.2.2.1
  have n34 := ha.n34
  have m0 := n34 a (by omega) (by omega)
  have m1 := n34 (a + 1) (by omega) (by omega)
  have m2 := n34 (a + 2) (by omega) (by omega)
  have m3 := n34 (a + 3) (by omega) (by omega)
  have m4 := n34 (a + 4) (by omega) (by omega)
  have m7 := n34 (a + 7) (by omega) (by omega)
  obtain ⟨l0, l1, l2, l3, l4, l5, l6, l7⟩ := hpl.sh
  have B1 := f1_B (V := V) (he := he) (bt := bt) (fr := fr) (cr := cr) hB hwl0 b0
  have T1 := f1_tot (V := V) (he := he) (bt := bt) (fr := fr) (cr := cr) hB hwl0 b0 (nc * 18) (Nat.le_refl _)
  have B2 := f2_B (V := V) (he := he) (bt := bt) (fr := fr) (cr := cr) B1 nc
  have T2 : tot (f2P V he bt fr cr (f1P V f nc nz wl he bt fr cr (nc * 18)) nc) ≤ tot f := Int.le_trans (tot_le (fun c z k _ _ _ => (f2_le B1 nc c z k).2)) T1
  have B3 := spF_B b0 b1 hso B2 (by omega)
  have T3 := spF_tot (f := f2P V he bt fr cr (f1P V f nc nz wl he bt fr cr (nc * 18)) nc) b0 b1 hso
  have N3 := spN_r hso ns (Nat.le_refl _)
  have N8 := hso.1
  apply en_X4_roll
  simp (disch := omega) only [B_X4_roll_0, en_ops, en_opc, iI_add, iI_mul, iI_sub, jL_add, jL_mul, iI_le, iI_lt, iI_eq, iI_eq0, iI_lt0, iI_0le, iI_le0, iI_0lt, jL_iI, iI_jL, lc_eq, lc_lt, lc_le, lc_ge, lc_gt, Nat.sub_zero, Nat.zero_le, true_and, and_true, Nat.reduceAdd, Nat.reduceLeDiff]
  have st1 : r1I V f a nc nz wl he bt fr cr sm hi (0 * 18) hi := by
    refine ⟨Fr.rf, hh.cg (fun c z k _ _ _ => by unfold fN; rw [if_neg (by omega)]), hA, fun i hi9 => ?_, hw⟩
    rw [hM i hi9]
    refine iI_eq_of ?_
    unfold smN
    rw [Nat.zero_mul, sumTo_z]
    split <;> omega
  refine t_roll5 (V := V) (f := f) (wl := wl) (sm := sm) (cr := cr) hS hL hLR hV hVr ha hR hB hfr hwl0 b0 b1 hwl hcr (fun h9 I9 => ?_) 0 (by omega) hi st1
  obtain ⟨i1, i2, i3, i4, i5⟩ := I9
  refine t_roll34 (V := V) (f := f) (wl := wl) (sm := sm) (cr := cr) (he := he) (bt := bt) (fr := fr) (hi0 := hi) hS ha hR hB b0 (fun h8 I8 => ?_) 0 (by omega) h9 ⟨i1, i2, i3, i4, i5⟩
  obtain ⟨j1, j2, j3, j4, j5⟩ := I8
  have E8 : ∀ x, ¬ Pcc a x → h8 x = hi x := fun x hx => j1 x hx
  have pc2 : ¬ Pcc a (a + 2) := fun q => by rcases q with q | q | q | q | q | q <;> omega
  have pc4 : ¬ Pcc a (a + 4) := fun q => by rcases q with q | q | q | q | q | q <;> omega
  have pca : ¬ Pcc a a := fun q => by rcases q with q | q | q | q | q | q <;> omega
  have S8 : shH a nc nz (f1P V f nc nz wl he bt fr cr (nc * 18)) h8 := j2.cg (fun c z k hc hz hk => by
    by_cases q : (c * 6 + z) * 3 + k < nc * 18
    · rw [if_pos q]
    · rw [if_neg q]
      have : arN V f nc nz wl he bt fr cr (nc * 18) c z k = 0 := sumTo_zero (fun n hn => ctN_z hB hn (Or.inr (by omega)))
      unfold f1P
      rw [this, Int.add_zero])
  have A8 : arrH (fun _ _ _ => 0) h8 := fun c z k hc hz hk => by
    rw [j3 c z k hc hz hk]
    refine iI_eq_of ?_
    show (if (c * 6 + z) * 3 + k < nc * 18 then 0 else arN V f nc nz wl he bt fr cr (nc * 18) c z k) = 0
    by_cases q : (c * 6 + z) * 3 + k < nc * 18
    · rw [if_pos q]
    · rw [if_neg q]; exact sumTo_zero (fun n hn => ctN_z hB hn (Or.inr (by omega)))
  have st3 : r3I V (f1P V f nc nz wl he bt fr cr (nc * 18)) a nc nz he bt fr cr ov (smN V f nz he bt fr cr sm (nc * 18)) h8 0 h8 := by
    refine ⟨Fr.rf, S8.cg (fun c z k _ _ _ => by unfold f2P; rw [if_neg (by omega)]), fun i hi9 => ?_, j5, fun c hc => ?_, fun c hc => ?_⟩
    · rw [j4 i hi9]
      refine iI_eq_of ?_
      show _ = _ + (if i = 3 then bhP V he bt fr cr _ 0 else 0)
      unfold bhP
      rw [sumTo_z]
      split <;> omega
    · rw [E8 _ pc2, hcr c hc]; unfold cr2; rw [if_neg (by omega)]
    · rw [E8 _ pc4, hov c hc]; unfold ov2; rw [if_neg (by omega)]
  refine t_roll80 (V := V) (he := he) (bt := bt) (fr := fr) (cr := cr) (ov := ov) hS hL hLR (hV.mono hL j1 (fun x q => Pcc.b ha q)) hVr ha hR B1 b0 hcr0 (fun h7 I7 => ?_) 0 (by omega) h8 st3
  obtain ⟨g1, g2, g3, g4, g5, g6⟩ := I7
  have n0 : h7 a 0 = iI nc := g2.1
  have pva : ¬ Pov a a := fun q => by rcases q with q | q | q | q | q | q <;> omega
  have E7a : h7 a = hi a := by rw [g1 a pva, E8 a pca]
  have h11 : h7 a 11 = iI h := by rw [E7a]; exact hh0
  simp (disch := omega) only [B_X4_roll_80, s0, s1, n0, h11, en_ops, en_opc, iI_add, iI_mul, iI_sub, jL_add, jL_mul, iI_le, iI_lt, iI_eq, iI_eq0, iI_lt0, iI_0le, iI_le0, iI_0lt, jL_iI, iI_jL, lc_eq, lc_lt, lc_le, lc_ge, lc_gt, Nat.sub_zero, Nat.zero_le, true_and, and_true, Nat.reduceAdd, Nat.reduceLeDiff]
  refine ⟨fun _ => ⟨⟨by decide, by decide⟩, ?_⟩, fun e => absurd (Int.le_refl _) e⟩
  generalize hg : en_up h7 a 11 (iI (h + 1)) = h6
  have F6 : Fr (· = a) h7 h6 := by subst hg; exact Fr.up Fr.rf (by rfl)
  have E6 : ∀ x, x ≠ a → h6 x = h7 x := fun x hx => F6 x hx
  have Epl : ∀ x, 2 ≤ x → x < 14 → h6 x = hi x := fun x h1 h2 => by
    rw [E6 x (by omega), g1 x (fun q => by rcases q with q | q | q | q | q | q <;> omega), E8 x (fun q => by rcases q with q | q | q | q | q | q <;> omega)]
  have S6 : shH a nc nz (f2P V he bt fr cr (f1P V f nc nz wl he bt fr cr (nc * 18)) nc) h6 := by
    obtain ⟨x0, x1, x2, x3, x4⟩ := g2
    refine ⟨?_, ?_, x2, x3, fun c z k hc hz hk => by rw [E6 (a + 1) (by omega)]; exact x4 c z k hc hz hk⟩ <;> subst hg <;> rw [up_ne (Or.inr (by omega))] <;> assumption
  have M6 : smH a (fun i => smN V f nz he bt fr cr sm (nc * 18) i + if i = 3 then bhP V he bt fr cr (f1P V f nc nz wl he bt fr cr (nc * 18)) nc else 0) h6 := fun i hi9 => by rw [E6 (a + 7) (by omega)]; exact g3 i hi9
  have p6 : h6 a 10 = iI p := by subst hg; rw [up_ne (Or.inr (by omega)), E7a]; exact hp
  have q6 : h6 a 11 = iI (h + 1) := by subst hg; exact up_at
  have sp6 : spH pl ns sp h6 := by
    obtain ⟨y0, y1, y2⟩ := hsp
    refine ⟨by rw [Epl pl (by omega) (by omega)]; exact y0, y1, fun i hi9 => by rw [Epl (pl + 4) (by omega) (by omega)]; exact y2 i hi9⟩
  refine t_flow (d := d + 2) h34 hpl hPR sp6 ha hR S6 M6 p6 (fun h5 F5 A5 P5 S5 M5 => ?_)
  simp (disch := omega) only [en_ops, en_opc, iI_add, iI_mul, iI_sub, jL_add, jL_mul, iI_le, iI_lt, iI_eq, iI_eq0, iI_lt0, iI_0le, iI_le0, iI_0lt, jL_iI, iI_jL, lc_eq, lc_lt, lc_le, lc_ge, lc_gt, Nat.sub_zero, Nat.zero_le, true_and, and_true, Nat.reduceAdd, Nat.reduceLeDiff]
  have q5 : h5 a 11 = iI (h + 1) := by rw [A5 11 (by omega)]; exact q6
  have lo5 : loH pl nl nc lo h5 := by
    obtain ⟨y0, y1, y2⟩ := hlo
    have ee : ∀ x, 2 ≤ x → x < 14 → h5 x = hi x := fun x h1 h2 => by rw [F5 x (fun q => by rcases q with q | q | q <;> omega), Epl x h1 h2]
    refine ⟨by rw [ee pl (by omega) (by omega)]; exact y0, y1, fun i hi9 => by rw [ee (pl + 5) (by omega) (by omega)]; exact y2 i hi9⟩
  refine ⟨⟨by decide, by decide⟩, t_drive (d := d + 1) h34 hpl hPR lo5 ha hR S5 B3 M5 q5 (by omega) (by omega) (fun h4 F4 S4 B4 T4 M4 => ?_)⟩
  simp (disch := omega) only [en_ops, en_opc, iI_add, iI_mul, iI_sub, jL_add, jL_mul, iI_le, iI_lt, iI_eq, iI_eq0, iI_lt0, iI_0le, iI_le0, iI_0lt, jL_iI, iI_jL, lc_eq, lc_lt, lc_le, lc_ge, lc_gt, Nat.sub_zero, Nat.zero_le, true_and, and_true, Nat.reduceAdd, Nat.reduceLeDiff]
  have E4 : ∀ x, x ≠ a + 1 → x ≠ a + 7 → h4 x = h5 x := fun x h1 h2 => F4 x (fun q => by rcases q with q | q <;> omega)
  have E5 : ∀ x, x ≠ a → x ≠ a + 1 → x ≠ a + 7 → h5 x = h6 x := fun x h0 h1 h2 => F5 x (fun q => by rcases q with q | q | q <;> omega)
  have E46 : ∀ x, x ≠ a → x ≠ a + 1 → x ≠ a + 7 → h4 x = h7 x := fun x h0 h1 h2 => by rw [E4 x h1 h2, E5 x h0 h1 h2, E6 x h0]
  refine H h4 (fun x hx => ?_) (fun j e1 e2 => ?_) ?_ ?_ S4 B4 (by unfold h4P; unfold h3P; omega) (fun c z k hc hz hk => ?_) (fun i hi9 => ?_) ?_ (fun c hc => ?_) (fun c hc => ?_)
  · have x1 : x ≠ 34 ∧ x ≠ 35 ∧ x ≠ 36 ∧ x ≠ 37 ∧ x ≠ a ∧ x ≠ a + 1 ∧ x ≠ a + 2 ∧ x ≠ a + 4 ∧ x ≠ a + 7 := by unfold Prl at hx; omega
    rw [E46 x (by omega) (by omega) (by omega), g1 x (fun q => by rcases q with q | q | q | q | q | q <;> omega), E8 x (fun q => by rcases q with q | q | q | q | q | q <;> omega)]
  · rw [E4 a (by omega) (by omega), A5 j e1, ← hg, up_ne (Or.inr e2), E7a]
  · rw [E4 a (by omega) (by omega)]; exact P5
  · rw [E4 a (by omega) (by omega)]; exact q5
  · rw [E46 37 (by omega) (by omega) (by omega), g1 37 (fun q => by rcases q with q | q | q | q | q | q <;> omega)]; exact A8 c z k hc hz hk
  · exact M4 i hi9
  · unfold wvH
    rw [E46 35 (by omega) (by omega) (by omega)]
    exact g4
  · rw [E46 (a + 2) (by omega) (by omega) (by omega)]; exact g5 c hc
  · rw [E46 (a + 4) (by omega) (by omega) (by omega)]; exact g6 c hc
end
