section
variable {G : en_G} {d : Nat} {K : en_K} {nc nz : Nat} {b wl : Nat → Int} {f ch : Nat → Nat → Nat → Int} {hi : en_I} {hl : en_L} {hr : en_F} {xc xs : Nat}
theorem sh130 : en_SH 130 = (100, 576) := by decide
theorem lt130 : 130 < 134 := by decide
theorem m_within {v lo h : Int} (a1 : -2147483648 ≤ v) (a2 : v < 2147483648) (a3 : -2147483648 ≤ lo) (a4 : lo < 2147483648) (a5 : -2147483648 ≤ h) (a6 : h < 2147483648) (H : K (.inl (some (.int (iI (if lo ≤ v ∧ v ≤ h then 1 else 0))))) hi hl hr) : en_Call G (d + 1) xc xs Y_X11_within wN wN [.int (iI v), .int (iI lo), .int (iI h)] hi hl hr K := by
  apply en_X11_within
  simp (disch := omega) only [B_X11_within_0, en_ops, en_opc, iI_add, iI_mul, iI_sub, jL_add, jL_mul, iI_le, iI_lt, iI_eq, iI_eq0, iI_lt0, iI_0le, iI_le0, iI_0lt, jL_iI, iI_jL, lc_eq, lc_lt, lc_le, lc_ge, lc_gt, Nat.sub_zero, Nat.zero_le, true_and, and_true, Nat.reduceAdd, Nat.reduceLeDiff]
  refine ⟨fun e => ⟨rfl, ?_⟩, fun e => ⟨fun e2 => ⟨rfl, ?_⟩, fun e2 => ⟨rfl, ?_⟩⟩⟩
  · rw [if_neg (by omega)] at H; exact H
  · rw [if_neg (by omega)] at H; exact H
  · rw [if_pos (by omega)] at H; exact H
/-- the reference's row of changes -/
def chH (ch : Nat → Nat → Nat → Int) (hi : en_I) : Prop := ∀ c z k, c < 12 → z < 6 → k < 3 → hi 130 (24 * c + 3 * z + k) = iI (ch c z k)
theorem chH.up {c z k : Nat} {v : Int} (h : chH ch hi) (hz : z < 6) (hk : k < 3) : chH (updF ch c z k v) (en_up hi 130 (24 * c + 3 * z + k) (iI v)) := fun c' z' k' hc' hz' hk' => by
  unfold updF
  by_cases j : 24 * c' + 3 * z' + k' = 24 * c + 3 * z + k
  · rw [j, up_at, if_pos ((rx_inj hz hk hz' hk').mp j)]
  · rw [up_ne (Or.inr j), if_neg (fun g => j (by rw [g.1, g.2.1, g.2.2])), h c' z' k' hc' hz' hk']
end
