section
variable {G : en_G} {d : Nat} {K : en_K} {W : zW} {n : Nat} {hi : en_I} {hl : en_L} {hr : en_F} {xc xs : Nat}
theorem shC.sx {a b : Nat} {E : hEnv} {s : zSh} {hi' : en_I} (ha : isSh a) (h : shC a b hi hi') (hs : s.2.1 ≤ 4) (hx : xcH b E s hi) : xcH a E s hi' := by
  obtain ⟨s0, s1, s2, s3, s4, s5, s6, s7, s8, s9, s10, s11⟩ := ha.sh
  obtain ⟨x1, x2, x3, x4⟩ := hx
  have h1 := h.hs ha x1
  obtain ⟨-, ⟨c0, c1, c8, c10, c11⟩, hk⟩ := h
  exact ⟨h1, by rw [c8]; exact x2, fun i hi9 => by rw [hk 6 (by omega) (by omega) _ (by rw [s7]; show _ < 4; omega)]; exact x3 i hi9, fun c z hc hz => by rw [hk 5 (by omega) (by omega) _ (by rw [s6]; show _ < 72; omega)]; exact x4 c z hc hz⟩
/-- an image made -/
def zImg (W : zW) : zW := (W.1, W.2.1, W.2.2.1, W.2.2.2.1, (zNi W + 1, fun j => if j = zNi W then zS W else zIm W j), W.2.2.2.2.2)
/-- an image taken back -/
def zRes (W : zW) : zW := (W.1, W.2.1, W.2.2.1, zIm W (zNi W - 1), (zNi W - 1, zIm W), W.2.2.2.2.2)
theorem zOK.img (h : zOK n W) (hn : zNi W < 3) : zOK (n + 1) (zImg W) := by
  obtain ⟨h1, h2, h3, h4, h5, h6, h7, h8, h9, h10, h11⟩ := h.mono (Nat.le_succ n)
  refine ⟨h1, h2, h3, hn, h5, h6, h7, h8, h9, h10, fun i hi9 => ?_⟩
  show xOK (n + 1) (zE W) (if i = zNi W then zS W else zIm W i)
  by_cases e : i = zNi W
  · rw [if_pos e]; exact h10
  · rw [if_neg e]; exact h11 i (by have h9 : i < zNi W + 1 := hi9; omega)
theorem zOK.res (h : zOK n W) (hn : zNi W ≠ 0) : zOK (n + 1) (zRes W) := by
  obtain ⟨h1, h2, h3, h4, h5, h6, h7, h8, h9, h10, h11⟩ := h.mono (Nat.le_succ n)
  exact ⟨h1, h2, h3, Nat.le_trans (Nat.sub_le _ _) h4, h5, h6, h7, h8, h9, h11 (zNi W - 1) (by omega), fun i hi9 => h11 i (by have h9 : i < zNi W - 1 := hi9; omega)⟩
theorem InvC.ch {hi' : en_I} {s : zSh} {im : Nat × (Nat → zSh)} {tp : Nat × (Nat → Nat)} (hI : InvC G W hi hr) (hz : zOK n W) (F : ∀ x, x ≠ 0 → x ≠ 1 → (x < 16 ∨ 23 < x) → (x < 86 ∨ 109 < x) → hi' x = hi x) (F0 : ∀ j, j ≠ 1 → j ≠ 11 → hi' 0 j = hi 0 j) (T : hi' 0 1 = iI (tp.1 : Int) ∧ ∀ j, j < tp.1 → hi' 1 j = iI (sbB (tp.2 j))) (N : hi' 0 11 = iI (im.1 : Int)) (X : xcH 16 (zE W) s hi') (Xi : ∀ i, i < im.1 → xcH (86 + 8 * i) (zE W) (im.2 i) hi') : InvC G (W.1, W.2.1, W.2.2.1, s, im, tp, W.2.2.2.2.2.2) hi' hr := by
  obtain ⟨pl, hR, ⟨⟨a1, a2⟩, a3, a4, a5, a6, a7, a8, a9, a10, a11, a12⟩⟩ := hI
  obtain ⟨-, z2, z3, z4, -⟩ := hz
  have FP : Fr (fun x => x = 0 ∨ x = 1 ∨ (16 ≤ x ∧ x ≤ 23) ∨ (86 ≤ x ∧ x ≤ 109)) hi hi' := fun x hx => F x (fun g => hx (Or.inl g)) (fun g => hx (Or.inr (Or.inl g))) (by
    by_cases g : x < 16 ∨ 23 < x
    · exact g
    · exact absurd (Or.inr (Or.inr (Or.inl (by omega)))) hx) (by
    by_cases g : x < 86 ∨ 109 < x
    · exact g
    · exact absurd (Or.inr (Or.inr (Or.inr (by omega)))) hx)
  have e2 : ∀ x, 2 ≤ x → (x < 16 ∨ 23 < x) → (x < 86 ∨ 109 < x) → hi' x = hi x := fun x g1 g2 g3 => F x (by omega) (by omega) g2 g3
  have hpl := hR.2.1.2.2.1
  have p14 := hpl.sh.2.2.2.2.2.2
  obtain ⟨⟨z0, q1, q2⟩, ⟨v0, v1, v2⟩, x3⟩ := a10
  refine ⟨pl, hR, T, by rw [F0 2 (by omega) (by omega)]; exact a3, by rw [F0 6 (by omega) (by omega)]; exact a4, by rw [F0 8 (by omega) (by omega)]; exact a5, N, fun k hk => by rw [e2 25 (by omega) (by omega) (by omega)]; exact a7 k hk, a8.mono z2 FP (fun x g => by omega), fun y hy => (a9 y hy).fr (by have h9 : y < zNy W := hy; unfold isYe; omega) FP (fun x g1 g2 g => by omega), ⟨⟨by rw [e2 pl (by omega) (by omega) (by omega)]; exact z0, q1, fun i hi9 => by rw [e2 (pl + 4) (by omega) (by omega) (by omega)]; exact q2 i hi9⟩, ⟨by rw [e2 pl (by omega) (by omega) (by omega)]; exact v0, v1, fun i hi9 => by rw [e2 (pl + 5) (by omega) (by omega) (by omega)]; exact v2 i hi9⟩, fun c z k hc hz hk => by rw [e2 37 (by omega) (by omega) (by omega)]; exact x3 c z k hc hz hk⟩, X, Xi⟩
theorem c_image (hI : InvC G W hi hr) (hz : zOK n W) (H : cEnd G W (if zNi W < 3 then zImg W else W) 0 (.int (iI (if zNi W < 3 then (zNi W + 1 : Nat) else -1))) K hi hl hr) : en_Call G (d + 2) xc xs Y_X10_image wN wN [.ref 0] hi hl hr K := by
  obtain ⟨r9, hS, hX⟩ := hI.o
  obtain ⟨pl, hR, hN⟩ := id hI
  have r10 : hr 0 10 = .ref 24 := hR.1.2.2.2.2.2.2.1
  have hIm := hR.2.2.2.2.2.1
  have e11 : hi 0 11 = iI (zNi W : Int) := hN.2.2.2.2.1
  have n3 := hz.2.2.2.1
  have Hx := H.1 rfl
  have sh24 : (en_SH 24).2 = 3 := by decide
  have lt24 : 24 < 134 := by decide
  apply en_X10_image
  simp (disch := omega) only [B_X10_image_0, r9, r10, sh0, lt0, e11, en_ops, en_opc, iI_add, iI_mul, iI_sub, jL_add, jL_mul, iI_le, iI_lt, iI_eq, iI_eq0, iI_lt0, iI_0le, iI_le0, iI_0lt, jL_iI, iI_jL, lc_eq, lc_lt, lc_le, lc_ge, lc_gt, Nat.sub_zero, Nat.zero_le, true_and, and_true, Nat.reduceAdd, Nat.reduceLeDiff]
  refine ⟨fun e => ?_, fun e => ?_⟩
  · rw [if_pos (by omega), if_pos (by omega)] at Hx
    refine ⟨zNi W, rfl, by rw [sh24]; show zNi W < 3; omega, by first | trivial | decide | exact ⟨by decide, by decide⟩, ?_⟩
    obtain ⟨q1, q2⟩ := hIm (zNi W) (by omega)
    rw [q2]
    have ia : isSh (86 + 8 * zNi W) := by unfold isSh; omega
    refine ⟨_, rfl, by omega, ⟨ia.sh.1.symm ▸ rfl, by omega⟩, ?_⟩
    refine t_copy (d := d) ia is16 (by omega) q1 hS (fun h8 S8 => ?_)
    have F8 := S8.1
    have e8 : h8 0 = hi 0 := F8 0 (by unfold Psh; omega)
    simp (disch := omega) only [sh0, lt0, e8, e11, en_ops, en_opc, iI_add, iI_mul, iI_sub, jL_add, jL_mul, iI_le, iI_lt, iI_eq, iI_eq0, iI_lt0, iI_0le, iI_le0, iI_0lt, jL_iI, iI_jL, lc_eq, lc_lt, lc_le, lc_ge, lc_gt, Nat.sub_zero, Nat.zero_le, true_and, and_true, Nat.reduceAdd, Nat.reduceLeDiff]
    have Hy := Hx (en_up h8 0 11 (iI ((zNi W : Int) + 1))) hl hr (hI.ch hz (fun x g0 g1 g2 g3 => by rw [up_row g0]; exact F8 x (fun g => by unfold Psh at g; omega)) (fun j g1 g2 => by rw [up_ne (Or.inr g2), e8]) ⟨by rw [up_ne (Or.inr (by omega)), e8]; exact hN.1.1, fun j hj => by rw [up_ne (Or.inl (by omega)), F8 1 (by unfold Psh; omega)]; exact hN.1.2 j hj⟩ up_at ((hX.frP F8 (fun x g1 g2 g => by unfold Psh at g; omega)).frP (Fr.up Fr.rf (P := (· = 0)) rfl) (fun x g1 g2 g => by omega)) (fun i hi9 => ?_)) (Fc.of ((F8.mono (Q := fun x => x < 110) (fun x g => by unfold Psh at g; omega)).up (by omega)) (fun x g => g)) Fc.rf Fc.rf
    · exact Hy
    · refine xcH.frP ?_ (Fr.up Fr.rf (P := (· = 0)) rfl) (fun x g1 g2 g => by omega)
      show xcH (86 + 8 * i) (zE W) (if i = zNi W then zS W else zIm W i) h8
      by_cases e9 : i = zNi W
      · rw [if_pos e9]
        subst e9
        exact S8.sx ia hz.x.2.2.2.2.1.1 hX
      · rw [if_neg e9]
        exact (hN.2.2.2.2.2.2.2.2.2.2 i (by have h9 : i < zNi W + 1 := hi9; omega)).frP F8 (fun x g1 g2 g => by unfold Psh at g; have h9 : i < zNi W + 1 := hi9; omega)
  · rw [if_neg (by omega), if_neg (by omega)] at Hx
    exact Hx hi hl hr hI Fc.rf Fc.rf Fc.rf
theorem c_restore (hI : InvC G W hi hr) (hz : zOK n W) (H : cEnd G W (if zNi W = 0 then W else zRes W) 0 (.int (iI (if zNi W = 0 then -1 else (zNi W - 1 : Nat)))) K hi hl hr) : en_Call G (d + 2) xc xs Y_X10_restore wN wN [.ref 0] hi hl hr K := by
  obtain ⟨r9, hS, hX⟩ := hI.o
  obtain ⟨pl, hR, hN⟩ := id hI
  have r10 : hr 0 10 = .ref 24 := hR.1.2.2.2.2.2.2.1
  have hIm := hR.2.2.2.2.2.1
  have e11 : hi 0 11 = iI (zNi W : Int) := hN.2.2.2.2.1
  have n3 := hz.2.2.2.1
  have Hx := H.1 rfl
  have sh24 : (en_SH 24).2 = 3 := by decide
  have lt24 : 24 < 134 := by decide
  apply en_X10_restore
  simp (disch := omega) only [B_X10_restore_0, r9, r10, sh0, lt0, e11, en_ops, en_opc, iI_add, iI_mul, iI_sub, jL_add, jL_mul, iI_le, iI_lt, iI_eq, iI_eq0, iI_lt0, iI_0le, iI_le0, iI_0lt, jL_iI, iI_jL, lc_eq, lc_lt, lc_le, lc_ge, lc_gt, Nat.sub_zero, Nat.zero_le, true_and, and_true, Nat.reduceAdd, Nat.reduceLeDiff]
  refine ⟨fun e => ?_, fun e => ?_⟩
  · rw [if_neg (by omega), if_neg (by omega)] at Hx
    rw [up_at]
    refine ⟨zNi W - 1, by rw [show (zNi W : Int) - 1 = ((zNi W - 1 : Nat) : Int) by omega], by rw [sh24]; omega, by first | trivial | decide | exact ⟨by decide, by decide⟩, ?_⟩
    obtain ⟨q1, q2⟩ := hIm (zNi W - 1) (by omega)
    rw [q2]
    have ia : isSh (86 + 8 * (zNi W - 1)) := by unfold isSh; omega
    refine ⟨_, rfl, by omega, ⟨by decide, by decide⟩, ?_⟩
    refine t_copy (d := d) is16 ia (by omega) hS q1 (fun h8 S8 => ?_)
    have F8 := S8.1
    have e8 : h8 0 = en_up hi 0 11 (iI ((zNi W : Int) - 1)) 0 := F8 0 (by unfold Psh; omega)
    simp (disch := omega) only [sh0, lt0, e8, up_at, en_ops, en_opc, iI_add, iI_mul, iI_sub, jL_add, jL_mul, iI_le, iI_lt, iI_eq, iI_eq0, iI_lt0, iI_0le, iI_le0, iI_0lt, jL_iI, iI_jL, lc_eq, lc_lt, lc_le, lc_ge, lc_gt, Nat.sub_zero, Nat.zero_le, true_and, and_true, Nat.reduceAdd, Nat.reduceLeDiff]
    have Hy := Hx h8 hl hr (hI.ch hz (fun x g0 g1 g2 g3 => by rw [F8 x (fun g => by unfold Psh at g; omega), up_row g0]) (fun j g1 g2 => by rw [e8, up_ne (Or.inr g2)]) ⟨by rw [e8, up_ne (Or.inr (by omega))]; exact hN.1.1, fun j hj => by rw [F8 1 (by unfold Psh; omega), up_row (by omega)]; exact hN.1.2 j hj⟩ (by rw [e8, up_at]; show _ = iI ((zNi W - 1 : Nat) : Int); rw [show (zNi W : Int) - 1 = ((zNi W - 1 : Nat) : Int) by omega]) (S8.sx is16 (hz.2.2.2.2.2.2.2.2.2.2 (zNi W - 1) (by omega)).2.2.2.2.1.1 ((hN.2.2.2.2.2.2.2.2.2.2 (zNi W - 1) (by omega)).frP (Fr.up Fr.rf (P := (· = 0)) rfl) (fun x g1 g2 g => by omega))) (fun i hi9 => ?_)) (Fc.of ((Fr.up Fr.rf (P := fun x => x < 110) (by omega)).tr (F8.mono (Q := fun x => x < 110) (fun x g => by unfold Psh at g; omega))) (fun x g => g)) Fc.rf Fc.rf
    · rw [show (zNi W : Int) - 1 = ((zNi W - 1 : Nat) : Int) by omega]
      exact Hy
    · exact ((hN.2.2.2.2.2.2.2.2.2.2 i (by have h9 : i < zNi W - 1 := hi9; omega)).frP (Fr.up Fr.rf (P := (· = 0)) rfl) (fun x g1 g2 g => by omega)).frP F8 (fun x g1 g2 g => by unfold Psh at g; omega)
  · rw [if_pos (by omega), if_pos (by omega)] at Hx
    exact Hx hi hl hr hI Fc.rf Fc.rf Fc.rf
/-- the byte of a number that lies s bits up -/
def byt (x : Int) (s : Nat) : Nat := (iI x).toBitVec.toNat / 2 ^ s % 256
theorem byt_bt (x : Int) (s : Nat) {i : Nat} (hi : i < 32) : bt (iI (byt x s : Int)) i = (bt (iI x) (s + i) && decide (i < 8)) := by
  rw [bt_i _ hi]
  unfold byt bt
  rw [show (256 : Nat) = 2 ^ 8 by rfl, Nat.testBit_mod_two_pow, ← Nat.shiftRight_eq_div_pow, Nat.testBit_shiftRight, BitVec.testBit_toNat, Bool.and_comm]
theorem byt_lt (x : Int) (s : Nat) : byt x s < 256 := Nat.mod_lt _ (by decide)
theorem bt_255 : ∀ i, i < 32 → bt (iI 255) i = decide (i < 8) := by decide +kernel
theorem by_s {s : Nat} (hs : s ≤ 24) (x : Int) : iI x >>> (iI (s : Int) &&& 31) &&& iI 255 = iI (byt x s : Int) := by
  apply b_ext
  intro i hi
  rw [byt_bt x s hi, b_and, bt_255 i hi, iI_nat s, b_sshr s (by omega) _ hi]
  by_cases e : i < 8
  · rw [if_pos (by omega)]
  · simp [e]
theorem i8_ext {x y : Int32} (h : ∀ i, i < 8 → bt x i = bt y i) : x.toInt8 = y.toInt8 := by
  apply Int8.toBitVec_inj.mp
  apply BitVec.eq_of_getLsbD_eq
  intro i hi
  rw [Int32.toBitVec_toInt8, Int32.toBitVec_toInt8, BitVec.signExtend_eq_setWidth_of_le _ (by decide), BitVec.signExtend_eq_setWidth_of_le _ (by decide), BitVec.getLsbD_setWidth, BitVec.getLsbD_setWidth]
  have := h i hi
  unfold bt at this
  rw [this]
theorem sb_8 : ∀ b : Nat, b < 256 → (iI (b : Int)).toInt8.toInt32 = iI (sbB b) := by decide +kernel
theorem by_u {s : Nat} (hs : s ≤ 24) (x : Int) : ((iI x).toUInt32 >>> ((iI (s : Int)).toUInt32 &&& Int32.toUInt32 31)).toInt32.toInt8.toInt32.toInt8.toInt32 = iI (sbB (byt x s)) := by
  rw [Int8.toInt8_toInt32, ← sb_8 _ (byt_lt x s)]
  congr 1
  apply i8_ext
  intro i hi
  rw [byt_bt x s (by omega), iI_nat s, b_ushr s (by omega)]
  simp [hi]
/-- the tape's cells after one number -/
def tpN (hi hi' : en_I) (p : Nat) (x : Int) : Prop := Fr (fun y => y = 0 ∨ y = 1) hi hi' ∧ (∀ j, j ≠ 1 → hi' 0 j = hi 0 j) ∧ hi' 0 1 = iI ((p + 4 : Nat) : Int) ∧ ∀ j, hi' 1 j = if p ≤ j ∧ j < p + 4 then iI (sbB (byt x (24 - 8 * (j - p)))) else hi 1 j
theorem c_tapeS {p : Nat} {x : Int} {s : Nat} (hs : s = 24 ∨ s = 16 ∨ s = 8 ∨ s = 0) (r0 : hr 0 0 = .ref 1) (h0 : hi 0 1 = iI (p : Int)) (hp : p < 600) (H : en_V G Y_X10_tapeNumber (d + 1) wN wN K 3 [.ref 0, .int (iI x), .int (iI ((s : Int) - 8))] [] (en_up (en_up hi 1 p (iI (sbB (byt x s)))) 0 1 (iI ((p : Int) + 1))) hl hr xc xs) : en_V G Y_X10_tapeNumber (d + 1) wN wN K 3 [.ref 0, .int (iI x), .int (iI (s : Int))] [] hi hl hr xc xs := by
  have sh1 : (en_SH 1).1 = 101 ∧ (en_SH 1).2 = 600 := by decide
  have lt1 : 1 < 134 := by decide
  have b := by_u (s := s) (by omega) x
  apply s_X10_tapeNumber_3
  simp (disch := omega) only [B_X10_tapeNumber_3, r0, sh0, lt0, h0, en_ops, en_opc, iI_add, iI_mul, iI_sub, jL_add, jL_mul, iI_le, iI_lt, iI_eq, iI_eq0, iI_lt0, iI_0le, iI_le0, iI_0lt, jL_iI, iI_jL, lc_eq, lc_lt, lc_le, lc_ge, lc_gt, Nat.sub_zero, Nat.zero_le, true_and, and_true, Nat.reduceAdd, Nat.reduceLeDiff]
  refine ⟨fun e => by omega, fun _ => ⟨fun e => by omega, fun _ => ?_⟩⟩
  refine ⟨p, rfl, by rw [sh1.2]; exact hp, ⟨sh1.1, by decide⟩, ?_⟩
  rw [b, up_ne (Or.inl (by omega)), h0]
  simp (disch := omega) only [sh0, lt0, en_ops, en_opc, iI_add, iI_mul, iI_sub, jL_add, jL_mul, iI_le, iI_lt, iI_eq, iI_eq0, iI_lt0, iI_0le, iI_le0, iI_0lt, jL_iI, iI_jL, lc_eq, lc_lt, lc_le, lc_ge, lc_gt, Nat.sub_zero, Nat.zero_le, true_and, and_true, Nat.reduceAdd, Nat.reduceLeDiff]
  exact H
theorem c_tapeNumber {p : Nat} {x : Int} (r0 : hr 0 0 = .ref 1) (h0 : hi 0 1 = iI (p : Int)) (hp : p + 4 ≤ 600) (H : ∀ hi', tpN hi hi' p x → K (.inl none) hi' hl hr) : en_Call G (d + 1) xc xs Y_X10_tapeNumber wN wN [.ref 0, .int (iI x)] hi hl hr K := by
  apply en_X10_tapeNumber
  simp (disch := omega) only [B_X10_tapeNumber_0, en_ops, en_opc, iI_add, iI_mul, iI_sub, jL_add, jL_mul, iI_le, iI_lt, iI_eq, iI_eq0, iI_lt0, iI_0le, iI_le0, iI_0lt, jL_iI, iI_jL, lc_eq, lc_lt, lc_le, lc_ge, lc_gt, Nat.sub_zero, Nat.zero_le, true_and, and_true, Nat.reduceAdd, Nat.reduceLeDiff]
  refine c_tapeS (d := d) (s := 24) (p := p) (by omega) r0 h0 (by omega) ?_
  refine c_tapeS (d := d) (s := 16) (p := p + 1) (by omega) r0 (by rw [up_at]; rfl) (by omega) ?_
  refine c_tapeS (d := d) (s := 8) (p := p + 2) (by omega) r0 (by rw [up_at, show ((p + 1 : Nat) : Int) + 1 = ((p + 2 : Nat) : Int) by omega]) (by omega) ?_
  refine c_tapeS (d := d) (s := 0) (p := p + 3) (by omega) r0 (by rw [up_at, show ((p + 2 : Nat) : Int) + 1 = ((p + 3 : Nat) : Int) by omega]) (by omega) ?_
  apply s_X10_tapeNumber_3
  simp (disch := omega) only [B_X10_tapeNumber_3, en_ops, en_opc, iI_add, iI_mul, iI_sub, jL_add, jL_mul, iI_le, iI_lt, iI_eq, iI_eq0, iI_lt0, iI_0le, iI_le0, iI_0lt, jL_iI, iI_jL, lc_eq, lc_lt, lc_le, lc_ge, lc_gt, Nat.sub_zero, Nat.zero_le, true_and, and_true, Nat.reduceAdd, Nat.reduceLeDiff]
  refine ⟨fun _ => H _ ⟨?_, ?_, ?_, ?_⟩, fun e => by omega⟩
  · exact Fr.up (Fr.up (Fr.up (Fr.up (Fr.up (Fr.up (Fr.up (Fr.up Fr.rf (Or.inr rfl)) (Or.inl rfl)) (Or.inr rfl)) (Or.inl rfl)) (Or.inr rfl)) (Or.inl rfl)) (Or.inr rfl)) (Or.inl rfl)
  · intro j hj
    rw [up_ne (Or.inr hj), up_ne (Or.inl (by omega)), up_ne (Or.inr hj), up_ne (Or.inl (by omega)), up_ne (Or.inr hj), up_ne (Or.inl (by omega)), up_ne (Or.inr hj), up_ne (Or.inl (by omega))]
  · rw [up_at]; exact congrArg iI (by omega)
  · intro j
    rw [up_ne (Or.inl (by omega))]
    by_cases e3 : j = p + 3
    · subst e3
      rw [up_at, if_pos (by omega), show p + 3 - p = 3 by omega]
    · rw [up_ne (Or.inr e3), up_ne (Or.inl (by omega))]
      by_cases e2 : j = p + 2
      · subst e2
        rw [up_at, if_pos (by omega), show p + 2 - p = 2 by omega]
      · rw [up_ne (Or.inr e2), up_ne (Or.inl (by omega))]
        by_cases e1 : j = p + 1
        · subst e1
          rw [up_at, if_pos (by omega), show p + 1 - p = 1 by omega]
        · rw [up_ne (Or.inr e1), up_ne (Or.inl (by omega))]
          by_cases e0 : j = p
          · subst e0
            rw [up_at, if_pos (by omega), show j - j = 0 by omega]
          · rw [up_ne (Or.inr e0), if_neg (by omega)]
/-- a tape fed -/
def fdN (x : Nat → Int) (j : Nat) : Nat := byt (x (j / 4)) (24 - 8 * (j % 4))
def zFed (W : zW) (x : Nat → Int) : zW := (W.1, W.2.1, W.2.2.1, W.2.2.2.1, W.2.2.2.2.1, (zNt W + 20, fun j => if j < zNt W then zTp W j else fdN x (j - zNt W)), W.2.2.2.2.2.2)
def fdW (W : zW) (x : Nat → Int) : zW := if zNt W + 20 ≤ 600 then zFed W x else W
def fdA (W : zW) : Int := if zNt W + 20 ≤ 600 then (zNt W + 20 : Nat) else -1
theorem zOK.fed {x : Nat → Int} (h : zOK n W) (hn : zNt W + 20 ≤ 600) : zOK (n + 1) (zFed W x) := by
  obtain ⟨⟨h0, h1⟩, h2⟩ := h.mono (Nat.le_succ n)
  refine ⟨⟨hn, fun j hj => ?_⟩, h2⟩
  show (if j < zNt W then zTp W j else fdN x (j - zNt W)) < 256
  by_cases e : j < zNt W
  · rw [if_pos e]; exact h1 j e
  · rw [if_neg e]; exact byt_lt _ _
def x5 (a b c d e : Int) (i : Nat) : Int := if i = 0 then a else if i = 1 then b else if i = 2 then c else if i = 3 then d else e
theorem c_feed {y1 y2 y3 y4 y5 : Int} (hI : InvC G W hi hr) (hz : zOK n W) (H : cEnd G W (fdW W (x5 y1 y2 y3 y4 y5)) 0 (.int (iI (fdA W))) K hi hl hr) : en_Call G (d + 2) xc xs Y_X10_feed wN wN [.ref 0, .int (iI y1), .int (iI y2), .int (iI y3), .int (iI y4), .int (iI y5)] hi hl hr K := by
  obtain ⟨r9, hS, hX⟩ := hI.o
  obtain ⟨pl, hR, hN⟩ := id hI
  have r0 : hr 0 0 = .ref 1 := hR.1.1
  have e1 : hi 0 1 = iI (zNt W : Int) := hN.1.1
  have t6 := hz.1.1
  have Hx := H.1 rfl
  unfold fdW fdA at Hx
  apply en_X10_feed
  simp (disch := omega) only [B_X10_feed_0, sh0, lt0, e1, en_ops, en_opc, iI_add, iI_mul, iI_sub, jL_add, jL_mul, iI_le, iI_lt, iI_eq, iI_eq0, iI_lt0, iI_0le, iI_le0, iI_0lt, jL_iI, iI_jL, lc_eq, lc_lt, lc_le, lc_ge, lc_gt, Nat.sub_zero, Nat.zero_le, true_and, and_true, Nat.reduceAdd, Nat.reduceLeDiff]
  refine ⟨fun e => ?_, fun e => ?_⟩
  · rw [if_pos (by omega), if_pos (by omega)] at Hx
    refine c_tapeNumber (d := d) (p := zNt W) r0 e1 (by omega) (fun h1 T1 => ?_)
    simp (disch := omega) only [sh0, lt0, en_ops, en_opc, iI_add, iI_mul, iI_sub, jL_add, jL_mul, iI_le, iI_lt, iI_eq, iI_eq0, iI_lt0, iI_0le, iI_le0, iI_0lt, jL_iI, iI_jL, lc_eq, lc_lt, lc_le, lc_ge, lc_gt, Nat.sub_zero, Nat.zero_le, true_and, and_true, Nat.reduceAdd, Nat.reduceLeDiff]
    refine c_tapeNumber (d := d) (p := zNt W + 4) r0 T1.2.2.1 (by omega) (fun h2 T2 => ?_)
    simp (disch := omega) only [sh0, lt0, en_ops, en_opc, iI_add, iI_mul, iI_sub, jL_add, jL_mul, iI_le, iI_lt, iI_eq, iI_eq0, iI_lt0, iI_0le, iI_le0, iI_0lt, jL_iI, iI_jL, lc_eq, lc_lt, lc_le, lc_ge, lc_gt, Nat.sub_zero, Nat.zero_le, true_and, and_true, Nat.reduceAdd, Nat.reduceLeDiff]
    refine c_tapeNumber (d := d) (p := zNt W + 4 + 4) r0 T2.2.2.1 (by omega) (fun h3 T3 => ?_)
    simp (disch := omega) only [sh0, lt0, en_ops, en_opc, iI_add, iI_mul, iI_sub, jL_add, jL_mul, iI_le, iI_lt, iI_eq, iI_eq0, iI_lt0, iI_0le, iI_le0, iI_0lt, jL_iI, iI_jL, lc_eq, lc_lt, lc_le, lc_ge, lc_gt, Nat.sub_zero, Nat.zero_le, true_and, and_true, Nat.reduceAdd, Nat.reduceLeDiff]
    refine c_tapeNumber (d := d) (p := zNt W + 4 + 4 + 4) r0 T3.2.2.1 (by omega) (fun h4 T4 => ?_)
    simp (disch := omega) only [sh0, lt0, en_ops, en_opc, iI_add, iI_mul, iI_sub, jL_add, jL_mul, iI_le, iI_lt, iI_eq, iI_eq0, iI_lt0, iI_0le, iI_le0, iI_0lt, jL_iI, iI_jL, lc_eq, lc_lt, lc_le, lc_ge, lc_gt, Nat.sub_zero, Nat.zero_le, true_and, and_true, Nat.reduceAdd, Nat.reduceLeDiff]
    refine c_tapeNumber (d := d) (p := zNt W + 4 + 4 + 4 + 4) r0 T4.2.2.1 (by omega) (fun h5 T5 => ?_)
    have F5 := (((T1.1.tr T2.1).tr T3.1).tr T4.1).tr T5.1
    have E0 : ∀ j, j ≠ 1 → h5 0 j = hi 0 j := fun j hj => by rw [T5.2.1 j hj, T4.2.1 j hj, T3.2.1 j hj, T2.2.1 j hj, T1.2.1 j hj]
    have E1 := T5.2.2.1
    simp (disch := omega) only [sh0, lt0, E1, en_ops, en_opc, iI_add, iI_mul, iI_sub, jL_add, jL_mul, iI_le, iI_lt, iI_eq, iI_eq0, iI_lt0, iI_0le, iI_le0, iI_0lt, jL_iI, iI_jL, lc_eq, lc_lt, lc_le, lc_ge, lc_gt, Nat.sub_zero, Nat.zero_le, true_and, and_true, Nat.reduceAdd, Nat.reduceLeDiff]
    refine Hx h5 hl hr (hI.ch hz (fun x g0 g1 g2 g3 => F5 x (fun g => by omega)) (fun j g1 g2 => E0 j g1) ⟨E1, fun j hj => ?_⟩ (by rw [E0 11 (by omega)]; exact hN.2.2.2.2.1) (hX.frP F5 (fun x g1 g2 g => by omega)) (fun i hi9 => (hN.2.2.2.2.2.2.2.2.2.2 i hi9).frP F5 (fun x g1 g2 g => by omega))) (Fc.of F5 (fun x g => by omega)) Fc.rf Fc.rf
    show h5 1 j = iI (sbB (if j < zNt W then zTp W j else fdN (x5 y1 y2 y3 y4 y5) (j - zNt W)))
    have hj20 : j < zNt W + 20 := hj
    rw [T5.2.2.2 j, T4.2.2.2 j, T3.2.2.2 j, T2.2.2.2 j, T1.2.2.2 j]
    by_cases c0 : j < zNt W
    · rw [if_pos c0, if_neg (by omega), if_neg (by omega), if_neg (by omega), if_neg (by omega), if_neg (by omega)]
      exact hN.1.2 j c0
    · rw [if_neg c0]
      unfold fdN
      by_cases c1 : j < zNt W + 4
      · rw [if_neg (by omega), if_neg (by omega), if_neg (by omega), if_neg (by omega), if_pos (by omega), show (j - zNt W) / 4 = 0 by omega, show (j - zNt W) % 4 = j - zNt W by omega]; rfl
      · by_cases c2 : j < zNt W + 8
        · rw [if_neg (by omega), if_neg (by omega), if_neg (by omega), if_pos (by omega), show (j - zNt W) / 4 = 1 by omega, show (j - zNt W) % 4 = j - (zNt W + 4) by omega]; rfl
        · by_cases c3 : j < zNt W + 12
          · rw [if_neg (by omega), if_neg (by omega), if_pos (by omega), show (j - zNt W) / 4 = 2 by omega, show (j - zNt W) % 4 = j - (zNt W + 4 + 4) by omega]; rfl
          · by_cases c4 : j < zNt W + 16
            · rw [if_neg (by omega), if_pos (by omega), show (j - zNt W) / 4 = 3 by omega, show (j - zNt W) % 4 = j - (zNt W + 4 + 4 + 4) by omega]; rfl
            · rw [if_pos (by omega), show (j - zNt W) / 4 = 4 by omega, show (j - zNt W) % 4 = j - (zNt W + 4 + 4 + 4 + 4) by omega]; rfl
  · rw [if_neg (by omega), if_neg (by omega)] at Hx
    exact Hx hi hl hr hI Fc.rf Fc.rf Fc.rf
end
