/-! one side's calls leave the other side's state -/
section
variable {G : en_G} {W : zW} {n : Nat} {hi hi' : en_I} {hr hr' : en_F}
theorem InvC.fm (h : InvC G W hi hr) (hz : zOK n W) (F : Fm hi hi') : InvC G W hi' hr := by
  obtain ⟨pl, hR, hN⟩ := h
  have hpl := hR.2.1.2.2.1
  have FR : Fr (fun x => 110 ≤ x ∧ x < 133) hi hi' := fun x hx => F x (by omega)
  obtain ⟨⟨a1, a2⟩, a3, a4, a5, a6, a7, a8, a9, a10, a11, a12⟩ := hN
  obtain ⟨-, z2, z3, z4, -⟩ := hz
  have ee : ∀ x, x < 110 → hi' x = hi x := fun x hx => F x (Or.inl hx)
  exact ⟨pl, hR, ⟨by rw [ee 0 (by omega)]; exact a1, fun j hj => by rw [ee 1 (by omega)]; exact a2 j hj⟩, by rw [ee 0 (by omega)]; exact a3, by rw [ee 0 (by omega)]; exact a4, by rw [ee 0 (by omega)]; exact a5, by rw [ee 0 (by omega)]; exact a6, fun k hk => by rw [ee 25 (by omega)]; exact a7 k hk, a8.mono z2 FR (fun x g => by omega), fun y hy => (a9 y hy).fr (by unfold isYe; omega) FR (fun x g1 g2 g => by omega), a10.frP hpl FR (fun x g => by omega), a11.frP FR (fun x g1 g2 g => by omega), fun i hi9 => (a12 i hi9).frP FR (fun x g1 g2 g => by omega)⟩
theorem InvR.fc (h : InvR G W hi hr) (F : Fc hi hi') (F2 : Fc hr hr') : InvR G W hi' hr' := by
  obtain ⟨hR, ⟨a1, a2⟩, a3, a4, a5, a6, a7, a8, a9, ⟨b, a10, a11⟩, a12, a13⟩ := h
  have e : hr' 110 = hr 110 := F2 110 (Nat.le_refl _)
  refine ⟨?_, ⟨by rw [F 110 (by omega)]; exact a1, fun j hj => by rw [F 112 (by omega)]; exact a2 j hj⟩, by rw [F 110 (by omega)]; exact a3, by rw [F 110 (by omega)]; exact a4, by rw [F 110 (by omega)]; exact a5, by rw [F 110 (by omega)]; exact a6, fun k hk => by rw [F 111 (by omega)]; exact a7 k hk, fun l hl => (a8 l hl).same (fun j j1 j2 => ⟨by rw [F 119 (by omega)], by rw [F 120 (by omega)]⟩) (fun w hw => ⟨by rw [F 121 (by omega)], by rw [F 122 (by omega)]⟩), fun y hy => ?_, ⟨b, fun j hj => by rw [F 113 (by omega)]; exact a10 j hj, a11⟩, by rw [F 115 (by omega)]; exact a12, fun i hi9 => by rw [F 118 (by omega)]; exact a13 i hi9⟩
  · unfold rfR at hR ⊢
    rw [e]
    exact hR
  · obtain ⟨b1, b2, b3⟩ := a9 y hy
    refine ⟨by rw [F 125 (by omega)]; exact b1, b2, fun i hi9 => ?_⟩
    rw [F 126 (by omega), F 127 (by omega), F 128 (by omega), F 129 (by omega)]
    exact b3 i hi9
end
