theorem t_heapAt {G : en_G} {d : Nat} {K : en_K} {c z k : Int} {hi : en_I} {hl : en_L} {hr : en_F} (h : K (.inl (some (.int (iI ((c * 6 + z) * 3 + k))))) hi hl hr) : en_Call G (d + 1) 0 0 Y_X6_heapAt wN wN [.int (iI c), .int (iI z), .int (iI k)] hi hl hr K := by
  apply en_X6_heapAt
  simp only [B_X6_heapAt_0, en_ops, iI_add, iI_mul]
  exact h
theorem t_allIn {G : en_G} {d : Nat} {K : en_K} {a c : Nat} {hi : en_I} {hl : en_L} {hr : en_F} (hs : en_SH a = (6, 12)) (h : K (.inl (some (.int (iI c)))) hi hl hr) : en_Call G (d + 1) 0 0 Y_X6_allIn wN wN [.ref a, .int (iI c)] hi hl hr K := by
  apply en_X6_allIn
  simp only [B_X6_allIn_0, en_ops, iI_add, iI_mul]
  apply s_X6_allIn_10
  simp only [B_X6_allIn_10, en_ops, iI_add, iI_mul]
  sorry
theorem t_inCell {G : en_G} {d : Nat} {K : en_K} {a : Nat} {c z k : Int} {hi : en_I} {hl : en_L} {hr : en_F} (hs : en_SH a = (6, 12)) (h : K (.inl (some (.int (iI c)))) hi hl hr) : en_Call G (d + 1) 0 0 Y_X6_inCell wN wN [.ref a, .int (iI c), .int (iI z), .int (iI k)] hi hl hr K := by
  apply en_X6_inCell
  simp only [B_X6_inCell_0, en_ops, iI_add, iI_mul]
  apply s_X6_inCell_6
  simp only [B_X6_inCell_6, en_ops, iI_add, iI_mul]
  refine ⟨⟨hs, ?_⟩, fun h1 => ?_, fun h1 => ?_⟩
  · sorry
  · sorry
  apply s_X6_inCell_18
  simp only [B_X6_inCell_18, en_ops, iI_add, iI_mul]
  refine ⟨fun h1 => ?_, fun h1 => ?_⟩
  · sorry
  refine ⟨fun h1 => ?_, fun h1 => ?_⟩
  · apply s_X6_inCell_35
    simp only [B_X6_inCell_35, en_ops, iI_add, iI_mul]
    done
