section
variable {G : en_G} {d : Nat} {K : en_K} {X : tTx} {z : tZ} {hi : en_I} {hl : en_L} {hr : en_F} {xc xs : Nat}
def isWd (j : Nat) : Prop := j < 58 ∧ ((1 ≤ j ∧ j ≤ 27) ∨ 32 ≤ j)
def cJ (j i : Nat) : Nat := ((en_tb j).getD i 0).toInt.toNat
theorem tb_ok : ∀ j, j < 58 → ((1 ≤ j ∧ j ≤ 27) ∨ 32 ≤ j) → (2 ≤ (en_tb j).length ∧ (en_tb j).length ≤ 6) ∧ ∀ i, i < 6 → i < (en_tb j).length → 97 ≤ ((en_tb j).getD i 0).toInt ∧ ((en_tb j).getD i 0).toInt ≤ 122 := by decide +kernel
theorem tb_n {j : Nat} (h : isWd j) : 2 ≤ (en_tb j).length ∧ (en_tb j).length ≤ 6 := (tb_ok j h.1 h.2).1
theorem tb_c {j i : Nat} (h : isWd j) (hi9 : i < (en_tb j).length) : 97 ≤ cJ j i ∧ cJ j i ≤ 122 ∧ (en_tb j).getD i 0 = iI (cJ j i : Int) := by
  have n6 := tb_n h
  obtain ⟨a1, a2⟩ := (tb_ok j h.1 h.2).2 i (by omega) hi9
  refine ⟨by unfold cJ; omega, by unfold cJ; omega, ?_⟩
  have e : ((cJ j i : Nat) : Int) = ((en_tb j).getD i 0).toInt := by unfold cJ; omega
  rw [e]
  unfold iI
  exact (Int32.ofInt_toInt _).symm
theorem pk_pos {j : Nat} (h : isWd j) : pkJ j ≠ 0 := by
  intro e
  have := wl_inj (en_tb j).length 0 (cJ j) (fun _ => 0) (fun i hi => ⟨(tb_c h hi).1, (tb_c h hi).2.1⟩) (fun i hi => absurd hi (by omega)) (by rw [show wlF (cJ j) (en_tb j).length = 0 from e]; rfl)
  have := tb_n h
  omega
/-- a word is the table's -/
theorem wd_is {q j : Nat} (h : isWd j) : wdE X q = pkJ j ↔ kdE X q = 2 ∧ atE X q - q = (en_tb j).length ∧ ∀ i, i < (en_tb j).length → X.1 (q + i) = cJ j i := by
  constructor
  · intro e
    obtain ⟨k2, _, _, _, e4⟩ := wd_let (X := X) (q := q) (by rw [e]; exact pk_pos h)
    rw [e4] at e
    obtain ⟨n1, n2⟩ := wl_inj _ _ _ _ (wd_in k2) (fun i hi => ⟨(tb_c h hi).1, (tb_c h hi).2.1⟩) (show wlF (fun i => X.1 (q + i)) (atE X q - q) = wlF (cJ j) (en_tb j).length from e)
    exact ⟨k2, n1, fun i hi => n2 i (by omega)⟩
  · rintro ⟨k2, e1, e2⟩
    have n6 := tb_n h
    unfold wdE
    rw [if_pos ⟨k2, by omega⟩, e1]
    exact wl_congr _ e2
theorem sl58 : en_strs.length = 58 := by decide
theorem shr0 (x : Int32) : x >>> (iI 0 &&& 31) = x := by
  refine b_ext (fun i hi => ?_)
  have := b_sshr 0 (by decide) x hi
  rw [show nI 0 = iI 0 from rfl] at this
  rw [this, if_pos (by omega), Nat.zero_add]
theorem s_coder {j : Nat} (hj : j < 58) (H : K (.inl (some (.int (iI 0)))) hi hl hr) : en_Call G (d + 1) xc xs Y_J0_coder_7d493 wN wN [.ref (1000000 + j)] hi hl hr K := by
  apply en_J0_coder_7d493
  simp (disch := omega) only [B_J0_coder_7d493_0, en_ops, en_opc, iI_add, iI_mul, iI_sub, jL_add, jL_mul, iI_le, iI_lt, iI_eq, iI_eq0, iI_lt0, iI_0le, iI_le0, iI_0lt, jL_iI, iI_jL, lc_eq, lc_lt, lc_le, lc_ge, lc_gt, Nat.sub_zero, Nat.zero_le, true_and, and_true, Nat.reduceAdd, Nat.reduceLeDiff]
  exact ⟨fun g => absurd g (by decide), fun _ => ⟨⟨j, rfl, by rw [sl58]; exact hj⟩, rfl, H⟩⟩
theorem s_len {j : Nat} (hj : j < 58) (H : K (.inl (some (.int (iI ((en_tb j).length : Int))))) hi hl hr) : en_Call G (d + 2) xc xs Y_J0_length_8abf5 wN wN [.ref (1000000 + j)] hi hl hr K := by
  apply en_J0_length_8abf5
  simp (disch := omega) only [B_J0_length_8abf5_0, en_ops, en_opc, iI_add, iI_mul, iI_sub, jL_add, jL_mul, iI_le, iI_lt, iI_eq, iI_eq0, iI_lt0, iI_0le, iI_le0, iI_0lt, jL_iI, iI_jL, lc_eq, lc_lt, lc_le, lc_ge, lc_gt, Nat.sub_zero, Nat.zero_le, true_and, and_true, Nat.reduceAdd, Nat.reduceLeDiff]
  refine ⟨⟨j, rfl, by rw [sl58]; exact hj⟩, j, by omega, by rw [sl58]; exact hj, ⟨j, rfl, by rw [sl58]; exact hj⟩, s_coder hj ?_⟩
  simp (disch := omega) only [en_ops, en_opc, iI_add, iI_mul, iI_sub, jL_add, jL_mul, iI_le, iI_lt, iI_eq, iI_eq0, iI_lt0, iI_0le, iI_le0, iI_0lt, jL_iI, iI_jL, lc_eq, lc_lt, lc_le, lc_ge, lc_gt, Nat.sub_zero, Nat.zero_le, true_and, and_true, Nat.reduceAdd, Nat.reduceLeDiff]
  rw [shr0]
  exact H
theorem s_latin {j : Nat} (hj : j < 58) (H : K (.inl (some (.int (iI 1)))) hi hl hr) : en_Call G (d + 1) xc xs Y_J0_isLatin1_aae02 wN wN [.ref (1000000 + j)] hi hl hr K := by
  apply en_J0_isLatin1_aae02
  simp (disch := omega) only [B_J0_isLatin1_aae02_0, en_ops, en_opc, iI_add, iI_mul, iI_sub, jL_add, jL_mul, iI_le, iI_lt, iI_eq, iI_eq0, iI_lt0, iI_0le, iI_le0, iI_0lt, jL_iI, iI_jL, lc_eq, lc_lt, lc_le, lc_ge, lc_gt, Nat.sub_zero, Nat.zero_le, true_and, and_true, Nat.reduceAdd, Nat.reduceLeDiff]
  exact ⟨fun g => absurd g (by decide), fun _ => ⟨⟨j, rfl, by rw [sl58]; exact hj⟩, fun g => absurd trivial g, fun _ => ⟨rfl, H⟩⟩⟩
theorem ch_ok : ∀ c : Nat, c < 128 → narrow .char (.int (iI (c : Int))) = .int (iI (c : Int)) ∧ ((iI (c : Int) &&& iI 255).toUInt32 % 65536).toInt32 = iI (c : Int) := by decide +kernel
theorem s_charAt {j i : Nat} (hj : isWd j) (hi9 : i < (en_tb j).length) (H : K (.inl (some (.int (iI (cJ j i : Int))))) hi hl hr) : en_Call G (d + 4) xc xs Y_J0_charAt_5068e wN wN [.ref (1000000 + j), .int (iI (i : Int))] hi hl hr K := by
  have j58 := hj.1
  have n6 := tb_n hj
  obtain ⟨c1, c2, c3⟩ := tb_c hj hi9
  apply en_J0_charAt_5068e
  simp (disch := omega) only [B_J0_charAt_5068e_0, en_ops, en_opc, iI_add, iI_mul, iI_sub, jL_add, jL_mul, iI_le, iI_lt, iI_eq, iI_eq0, iI_lt0, iI_0le, iI_le0, iI_0lt, jL_iI, iI_jL, lc_eq, lc_lt, lc_le, lc_ge, lc_gt, Nat.sub_zero, Nat.zero_le, true_and, and_true, Nat.reduceAdd, Nat.reduceLeDiff]
  refine ⟨⟨j, rfl, by rw [sl58]; exact j58⟩, s_latin (d := d + 2) j58 ?_⟩
  simp (disch := omega) only [en_ops, en_opc, iI_add, iI_mul, iI_sub, jL_add, jL_mul, iI_le, iI_lt, iI_eq, iI_eq0, iI_lt0, iI_0le, iI_le0, iI_0lt, jL_iI, iI_jL, lc_eq, lc_lt, lc_le, lc_ge, lc_gt, Nat.sub_zero, Nat.zero_le, true_and, and_true, Nat.reduceAdd, Nat.reduceLeDiff]
  refine ⟨fun g => absurd g (by decide), fun _ => ⟨⟨j, rfl, by rw [sl58]; exact j58⟩, ?_⟩⟩
  apply en_J1_charAt_3b067
  simp (disch := omega) only [B_J1_charAt_3b067_0, en_ops, en_opc, iI_add, iI_mul, iI_sub, jL_add, jL_mul, iI_le, iI_lt, iI_eq, iI_eq0, iI_lt0, iI_0le, iI_le0, iI_0lt, jL_iI, iI_jL, lc_eq, lc_lt, lc_le, lc_ge, lc_gt, Nat.sub_zero, Nat.zero_le, true_and, and_true, Nat.reduceAdd, Nat.reduceLeDiff]
  refine ⟨j, by omega, by rw [sl58]; exact j58, ?_⟩
  apply en_J0_checkIndex_df160
  simp (disch := omega) only [B_J0_checkIndex_df160_0, en_ops, en_opc, iI_add, iI_mul, iI_sub, jL_add, jL_mul, iI_le, iI_lt, iI_eq, iI_eq0, iI_lt0, iI_0le, iI_le0, iI_0lt, jL_iI, iI_jL, lc_eq, lc_lt, lc_le, lc_ge, lc_gt, Nat.sub_zero, Nat.zero_le, true_and, and_true, Nat.reduceAdd, Nat.reduceLeDiff]
  apply en_J3_checkIndex_8e157
  simp (disch := omega) only [B_J3_checkIndex_8e157_0, en_ops, en_opc, iI_add, iI_mul, iI_sub, jL_add, jL_mul, iI_le, iI_lt, iI_eq, iI_eq0, iI_lt0, iI_0le, iI_le0, iI_0lt, jL_iI, iI_jL, lc_eq, lc_lt, lc_le, lc_ge, lc_gt, Nat.sub_zero, Nat.zero_le, true_and, and_true, Nat.reduceAdd, Nat.reduceLeDiff]
  refine ⟨fun g => absurd g (by omega), fun _ => ⟨fun _ => ?_, fun g => absurd g (by omega)⟩⟩
  refine ⟨j, i, by omega, by rw [sl58]; exact j58, rfl, hi9, ?_⟩
  obtain ⟨k1, k2⟩ := ch_ok (cJ j i) (by omega)
  rw [c3, k2]
  exact ⟨k1, k1, H⟩
end
