section
variable {n : Nat} {E : hEnv} {s : zSh} {W : zW}
theorem xOK.tk {z k : Nat} (h : xOK n E s) (h4 : s.2.1 < 4) (hz : z < 6) (hk : k < 3) : xOK (n + 1) E (tkS s z k) := by
  obtain ⟨h1, h2, h3, h5, ⟨h6, h7⟩, h8, h9⟩ := h
  refine ⟨h1, ?_, h3, h5, ⟨h4, fun i hi9 => ?_⟩, h8, h9⟩
  · show tot s.1.1 ≤ 600000 + 999 * ((n + 1 : Nat) : Int) + 7992 * s.1.2.2.2.2.2
    omega
  · have hi5 : i < s.2.1 + 1 := hi9
    show (if i = s.2.1 then (z, k) else s.2.2.1 i).1 < 6 ∧ (if i = s.2.1 then (z, k) else s.2.2.1 i).2 < 3
    by_cases q : i = s.2.1
    · rw [if_pos q]; exact ⟨hz, hk⟩
    · rw [if_neg q]; exact h7 i (by omega)
theorem xOK.dr (h : xOK n E s) : xOK (n + 1) E (drS s) := by
  obtain ⟨h1, h2, h3, h5, ⟨h6, h7⟩, h8, h9⟩ := h
  refine ⟨h1, ?_, h3, h5, ⟨Nat.zero_le _, fun i hi9 => absurd hi9 (Nat.not_lt_zero _)⟩, h8, h9⟩
  show tot s.1.1 ≤ 600000 + 999 * ((n + 1 : Nat) : Int) + 7992 * s.1.2.2.2.2.2
  omega
theorem xOK.sp {c z : Nat} {v : Int} (h : xOK n E s) (hc : c < E.2.1) (hz : z < E.2.2.1) (hv : -1 ≤ v ∧ v ≤ 999999) : xOK (n + 1) E (spS s c z v) := by
  obtain ⟨h1, h2, h3, h5, h6, h8, h9⟩ := h
  refine ⟨h1, ?_, h3, h5, h6, fun c' z' hc' hz' => ?_, fun e c' z' hc' hz' g => ?_⟩
  · show tot s.1.1 ≤ 600000 + 999 * ((n + 1 : Nat) : Int) + 7992 * s.1.2.2.2.2.2
    omega
  · show -1 ≤ (if c' = c ∧ z' = z then v else s.2.2.2 c' z') ∧ (if c' = c ∧ z' = z then v else s.2.2.2 c' z') ≤ 999999
    by_cases q : c' = c ∧ z' = z
    · rw [if_pos q]; exact hv
    · rw [if_neg q]; exact h8 c' z' hc' hz'
  · show (if c' = c ∧ z' = z then v else s.2.2.2 c' z') = -1
    rw [if_neg (fun q => by omega)]
    exact h9 e c' z' hc' hz' g
theorem zOK.tk {z k : Nat} (h : zOK n W) (hz : z < (zE W).2.2.1) (hk : k < 3) : zOK (n + 1) (tkW W z k) := by
  unfold tkW
  by_cases q : (zS W).2.1 < 4
  · rw [if_pos q]; exact h.put (h.x.tk q (by have := h.c.2; omega) hk)
  · rw [if_neg q]; exact h.mono (Nat.le_succ n)
theorem zOK.dr (h : zOK n W) : zOK (n + 1) (zPut W (drS (zS W))) := h.put h.x.dr
theorem zOK.sp {c z : Nat} {v : Int} (h : zOK n W) (hc : c < (zE W).2.1) (hz : z < (zE W).2.2.1) (hv : -1 ≤ v ∧ v ≤ 999999) : zOK (n + 1) (zPut W (spS (zS W) c z v)) := h.put (h.x.sp hc hz hv)
theorem tot_upd {f : Nat → Nat → Nat → Int} {c z k : Nat} {v : Int} (hc : c < 12) (hz : z < 6) (hk : k < 3) : tot (updF f c z k (f c z k + v)) = tot f + v := by
  have e : tot (updF f c z k (f c z k + v)) = tot (fun c' z' k' => f c' z' k' + (if c' = c ∧ z' = z ∧ k' = k then v else 0)) := tot_cg (fun c' z' k' _ _ _ => by
    unfold updF
    by_cases q : c' = c ∧ z' = z ∧ k' = k
    · rw [if_pos q, if_pos q, q.1, q.2.1, q.2.2]
    · rw [if_neg q, if_neg q, Int.add_zero])
  rw [e, tot_add, tot_one hc hz hk]
theorem xOK.pt {c z k : Nat} {v : Int} (h : xOK n E s) (hn : n ≤ 512) (hc : c < E.2.1) (hz : z < E.2.2.1) (h12 : E.2.1 ≤ 12) (hz6 : E.2.2.1 ≤ 6) (hk : k < 3) (hv : 1 ≤ v ∧ v ≤ 999) : xOK (n + 1) E (ptQ s.1 c z k v, s.2) := by
  obtain ⟨⟨f1, f2, f3, f4⟩, h2, h3, h5, h6, h8, h9⟩ := h
  have tu : tot (updF s.1.1 c z k (s.1.1 c z k + v)) = tot s.1.1 + v := tot_upd (by omega) (by omega) hk
  have ne : ∀ c' z' k', ¬ (c' = c ∧ z' = z ∧ k' = k) → updF s.1.1 c z k (s.1.1 c z k + v) c' z' k' = s.1.1 c' z' k' := fun c' z' k' q => if_neg q
  refine ⟨⟨fun c' z' k' => ?_, fun c' z' k' g => ?_, fun c' z' k' g => ?_, ?_⟩, ?_, h3, h5, h6, h8, h9⟩
  · show 0 ≤ updF s.1.1 c z k (s.1.1 c z k + v) c' z' k'
    unfold updF
    have := f1 c z k
    have := f1 c' z' k'
    split <;> omega
  · exact (ne c' z' k' (fun q => by omega)).trans (f2 c' z' k' g)
  · exact (ne c' z' k' (fun q => by omega)).trans (f3 c' z' k' g)
  · show tot (updF s.1.1 c z k (s.1.1 c z k + v)) ≤ 10000000
    rw [tu]; omega
  · show tot (updF s.1.1 c z k (s.1.1 c z k + v)) ≤ 600000 + 999 * ((n + 1 : Nat) : Int) + 7992 * s.1.2.2.2.2.2
    rw [tu]; omega
theorem zOK.pt {c z k : Nat} {v : Int} (h : zOK n W) (hn : n ≤ 512) (hc : c < (zE W).2.1) (hz : z < (zE W).2.2.1) (hk : k < 3) (hv : 1 ≤ v ∧ v ≤ 999) : zOK (n + 1) (zPut W (ptQ (zS W).1 c z k v, (zS W).2)) := h.put (h.x.pt hn hc hz h.c.1 h.c.2 hk hv)
/-- what the waves leave -/
theorem zOK.hw {l : Nat} {w : Int × Int × Int} (h : zOK n W) (hn : n ≤ 512) (hl : l < zNl W) (hw : isNow W) (hE : eOK (eL W l)) : zOK (n + 1) (zPut W (hrP (eL W l) w (zS W).1, (zS W).2)) := by
  have b := h.b hw.1
  have lo := h.2.2.2.2.2.2.2.1
  exact h.s hw.1 (sOKB.r (E := eL W l) hE lo h.c.1 h.c.2 (by omega) b hw.2)
theorem zOK.yr {l y : Nat} (h : zOK n W) (hn : n ≤ 512) (hw : isNow W) (hE : eOK (eL W l)) : zOK (n + 1) (zPut W (yrP (eL W l) (zYs W y).2 (zYs W y).1 (zS W).1, (zS W).2)) := by
  have b := h.b hw.1
  have lo := h.2.2.2.2.2.2.2.1
  exact h.s hw.1 (sOKB.y (E := eL W l) hE lo h.c.1 h.c.2 (by omega) b _)
theorem zOK.lz {l y k : Nat} {x : Int32} (h : zOK n W) (hn : n ≤ 512) (hw : isNow W) (hE : eOK (eL W l)) : zOK (n + 1) (zPut W ((lzP (eL W l) (zYs W y).2 (zYs W y).1 k (x, (zS W).1)).2, (zS W).2)) := by
  have b := h.b hw.1
  have lo := h.2.2.2.2.2.2.2.1
  exact h.s hw.1 (sOKB.z (E := eL W l) hE lo h.c.1 h.c.2 (by omega) b _)
end
