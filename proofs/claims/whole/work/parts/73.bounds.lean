/-! bounds that waves keep -/
section
variable {E : hEnv} {q : hSt} {w : Int × Int × Int} {Y : hYr} {B : Int}
def sOKB (B : Int) (E : hEnv) (q : hSt) : Prop := fB E.2.1 E.2.2.1 q.1 ∧ tot q.1 ≤ B + 7992 * q.2.2.2.2.2 ∧ (∀ c, c < 12 → 1 ≤ q.2.1 c ∧ q.2.1 c ≤ 60) ∧ 0 ≤ q.2.2.2.2.2 ∧ q.2.2.2.2.2 ≤ 600
theorem sOKB.h (h : sOKB B E q) (hB : B ≤ 5190000) : hOK E q := by
  obtain ⟨h1, h2, h3, h4⟩ := h
  exact ⟨h1, by omega, fun c hc => ⟨(h3 c hc).1, by have := (h3 c hc).2; omega⟩, h4⟩
theorem sOKB.r (hE : eOK E) (hlo : loOK E.2.1 E.2.2.2.2.2.2.2 E.2.2.2.2.2.2.1) (hnc : E.2.1 ≤ 12) (hnz : E.2.2.1 ≤ 6) (hB : B ≤ 5190000) (h : sOKB B E q) (hlt : q.2.2.2.2.2 < 600) : sOKB B E (hrP E w q) := by
  have O9 := hOK_hr (w := w) hE hlo hnc hnz (h.h hB) hlt
  obtain ⟨e1, e2, e3⟩ := hE
  obtain ⟨o1, o2, o3, o4, o5⟩ := h
  have B1 := f1_B (V := E.1) (he := w.1) (bt := w.2.1) (fr := w.2.2) (cr := q.2.1) o1 e2 hnc
  have T1 := f1_tot (V := E.1) (he := w.1) (bt := w.2.1) (fr := w.2.2) (cr := q.2.1) o1 e2 hnc (E.2.1 * 18) (Nat.le_refl _)
  have B2 := f2_B (V := E.1) (he := w.1) (bt := w.2.1) (fr := w.2.2) (cr := q.2.1) B1 E.2.1
  have T2 : tot (f2P E.1 w.1 w.2.1 w.2.2 q.2.1 (f1P E.1 q.1 E.2.1 E.2.2.1 E.2.2.2.1 w.1 w.2.1 w.2.2 q.2.1 (E.2.1 * 18)) E.2.1) ≤ tot q.1 := Int.le_trans (tot_le (fun c z k _ _ _ => (f2_le B1 _ c z k).2)) T1
  have B3 := spF_B hnc hnz e3 B2 (by omega)
  have T3 := spF_tot (f := f2P E.1 w.1 w.2.1 w.2.2 q.2.1 (f1P E.1 q.1 E.2.1 E.2.2.1 E.2.2.2.1 w.1 w.2.1 w.2.2 q.2.1 (E.2.1 * 18)) E.2.1) hnc hnz e3
  have N3 := spN_r e3 _ (Nat.le_refl _)
  have N8 := e3.1
  obtain ⟨D1, D2⟩ := drP_B (h := q.2.2.2.2.2 + 1) hlo hnc hnz B3 _ (Nat.le_refl _)
  refine ⟨O9.1, ?_, fun c hc => ?_, O9.2.2.2.1, O9.2.2.2.2⟩
  · show tot _ ≤ B + 7992 * (q.2.2.2.2.2 + 1)
    refine Int.le_trans D2 ?_
    omega
  · have c9 := o3 c hc
    show 1 ≤ cr2 _ _ _ _ _ _ _ ∧ cr2 _ _ _ _ _ _ _ ≤ 60
    unfold cr2 loP
    split
    · split <;> omega
    · exact c9
theorem sOKB.rp (hE : eOK E) (hlo : loOK E.2.1 E.2.2.2.2.2.2.2 E.2.2.2.2.2.2.1) (hnc : E.2.1 ≤ 12) (hnz : E.2.2.1 ≤ 6) (hB : B ≤ 5190000) (h : sOKB B E q) : ∀ k, sOKB B E (rpP E w k q) := by
  intro k
  induction k with
  | zero => exact h
  | succ k ih =>
    show sOKB B E (if (rpP E w k q).2.2.2.2.2 < 600 then hrP E w (rpP E w k q) else rpP E w k q)
    split
    next g => exact ih.r hE hlo hnc hnz hB g
    next => exact ih
theorem sOKB.y (hE : eOK E) (hlo : loOK E.2.1 E.2.2.2.2.2.2.2 E.2.2.2.2.2.2.1) (hnc : E.2.1 ≤ 12) (hnz : E.2.2.1 ≤ 6) (hB : B ≤ 5190000) (h : sOKB B E q) : ∀ n, sOKB B E (yrP E Y n q) := by
  intro n
  induction n with
  | zero => exact h
  | succ n ih => exact ih.rp hE hlo hnc hnz hB _
theorem sOKB.z {n : Nat} {x : Int32} (hE : eOK E) (hlo : loOK E.2.1 E.2.2.2.2.2.2.2 E.2.2.2.2.2.2.1) (hnc : E.2.1 ≤ 12) (hnz : E.2.2.1 ≤ 6) (hB : B ≤ 5190000) (h : sOKB B E q) : ∀ k, sOKB B E (lzP E Y n k (x, q)).2 := by
  intro k
  induction k with
  | zero => exact h
  | succ k ih =>
    show sOKB B E (if (lzP E Y n k (x, q)).2.2.2.2.2.2 < 600 then (ldP (lzP E Y n k (x, q)).1, hrP E (Y (lkP (ldP (lzP E Y n k (x, q)).1) % n)).1 (lzP E Y n k (x, q)).2) else lzP E Y n k (x, q)).2
    split
    next g => exact ih.r hE hlo hnc hnz hB g
    next => exact ih
end
section
variable {G : en_G} {d : Nat} {K : en_K} {W : zW} {n : Nat} {hi : en_I} {hl : en_L} {hr : en_F} {xc xs : Nat}
theorem zOK.b (hz : zOK n W) (h0 : (zE W).2.1 ≠ 0) : sOKB (600000 + 999 * n) (zE W) (zS W).1 := by
  obtain ⟨h1, h2, h3, h4, -⟩ := hz.x
  exact ⟨h1, h2, h3 h0, h4⟩
theorem zOK.s (hz : zOK n W) (h0 : (zE W).2.1 ≠ 0) {q : hSt} (hq : sOKB (600000 + 999 * n) (zE W) q) : zOK (n + 1) (zPut W (q, (zS W).2)) := by
  refine hz.put ?_
  obtain ⟨h1, h2, h3, h4⟩ := hq
  obtain ⟨-, -, -, -, g5, g6, g7⟩ := hz.x
  exact ⟨h1, by show tot q.1 ≤ 600000 + 999 * ((n + 1 : Nat) : Int) + 7992 * q.2.2.2.2.2; omega, fun _ => h3, h4, g5, g6, g7⟩
abbrev inL (W : zW) (l : Int) : Prop := 0 ≤ l ∧ l < zNl W
abbrev inY (W : zW) (y : Int) : Prop := 0 ≤ y ∧ y < zNy W
abbrev isNow (W : zW) : Prop := (zE W).2.1 ≠ 0 ∧ (zS W).1.2.2.2.2.2 < 600
/-- the world of a law -/
abbrev eL (W : zW) (l : Nat) : hEnv := vE (zVs W l) (zE W)
theorem sh15 : en_SH 15 = (119, 4) := by decide
theorem lt15 : 15 < 134 := by decide
theorem sh34 : en_SH 34 = (4, 6) := by decide
theorem lt34 : 34 < 134 := by decide
theorem sh39 : en_SH 39 = (6, 12) := by decide
theorem lt39 : 39 < 134 := by decide
theorem InvC.go {l y : Nat} (hI : InvC G W hi hr) (hz : zOK n W) (hn : n ≤ 512) (hl9 : l < zNl W) (hy9 : y < zNy W) (h0 : (zE W).2.1 ≠ 0) : ∃ pl, (cR pl hr ∧ cIn G W pl hi) ∧ trR hr ∧ seS pl (50 + 4 * l) hr ∧ eOK (eL W l) ∧ seH G pl (50 + 4 * l) (eL W l) hi ∧ hsH 16 (eL W l) (zS W).1 hi ∧ hOK (eL W l) (zS W).1 ∧ isYe (66 + 5 * y) ∧ yeR (66 + 5 * y) hr ∧ yeH (66 + 5 * y) (zYs W y).1 (zYs W y).2 hi ∧ hr 14 l = .ref (50 + 4 * l) ∧ hr 15 y = .ref (66 + 5 * y) ∧ hr 0 5 = .ref 14 ∧ hr 0 7 = .ref 15 ∧ hr 0 16 = .ref 34 ∧ hr 0 17 = .ref 38 := by
  obtain ⟨pl, hR, hN⟩ := hI
  obtain ⟨z1, z2, z3, z4, z5, z6, z7, z8, z9, z10, z11⟩ := id hz
  obtain ⟨c1, c2, c3, c4, c5, c6, c7, c8, -⟩ := id hR
  obtain ⟨a1, a3, a4, a5, a6, a7, a8, a9, a10, a11, a12⟩ := id hN
  exact ⟨pl, ⟨hR, hN⟩, c5, c2.se c7 (by omega), z7.e z5 hl9, sxH.se a10 (a8 l hl9), a11.1, z10.h hn h0, by unfold isYe; omega, (c8 y (by omega)).1, a9 y hy9, (c7 l (by omega)).2, (c8 y (by omega)).2, c1.2.2.2.1, c1.2.2.2.2.1, c1.2.2.2.2.2.2.2.2.2.2.2.1, c1.2.2.2.2.2.2.2.2.2.2.2.2.1⟩
theorem InvC.back {pl l : Nat} {hi' : en_I} {P : Nat → Prop} (hR : cR pl hr) (hN : cIn G W pl hi) (hz : zOK n W) (F : Fr P hi hi') (hP : ∀ x, P x → 34 ≤ x ∧ x ≤ 49) (hs : seH G pl (50 + 4 * l) (eL W l) hi') : InvC G W hi' hr := ⟨pl, hR, hN.q hz hR.2.1.2.2.1 F hP hs.sx⟩
theorem Ptr.c {x : Nat} (h : Ptr x) : 34 ≤ x ∧ x ≤ 49 := by unfold Ptr at h; omega
theorem Ptr.f {x : Nat} (h : Ptr x) : x < 110 := by unfold Ptr at h; omega
/-- behind waves on the shore itself -/
theorem InvC.waves {pl l : Nat} {hi' : en_I} {q' : hSt} (hR : cR pl hr) (hN : cIn G W pl hi) (hz : zOK n W) (F : Fa 16 hi hi') (hq : hsH 16 (eL W l) q' hi') (hs : seH G pl (50 + 4 * l) (eL W l) hi') : InvC G (zPut W (q', (zS W).2)) hi' hr := by
  obtain ⟨⟨a1, a2⟩, a3, a4, a5, a6, a7, a8, a9, a10, ⟨b1, b2, b3, b4⟩, a12⟩ := hN
  obtain ⟨-, z2, z3, z4, -⟩ := hz
  obtain ⟨F1, F2⟩ := F
  have nP : ∀ x, (x < 16 ∨ x = 21 ∨ x = 22 ∨ (24 ≤ x ∧ x < 34) ∨ 38 ≤ x) → hi' x = hi x := fun x hx => F1 x (fun g => by unfold Prl at g; omega)
  refine ⟨pl, hR, ⟨by rw [nP 0 (by omega)]; exact a1, fun j hj => by rw [nP 1 (by omega)]; exact a2 j hj⟩, by rw [nP 0 (by omega)]; exact a3, by rw [nP 0 (by omega)]; exact a4, by rw [nP 0 (by omega)]; exact a5, by rw [nP 0 (by omega)]; exact a6, fun k hk => by rw [nP 25 (by omega)]; exact a7 k hk, a8.mono z2 F1 (fun x g => by unfold Prl at g; omega), fun y hy => (a9 y hy).fr (by have h9 : y < zNy W := hy; unfold isYe; omega) F1 (fun x g1 g2 g => by unfold Prl at g; omega), hs.sx, ⟨hq, by rw [F2 8 (by omega) (by omega)]; exact b2, fun i hi9 => by rw [nP 22 (by omega)]; exact b3 i hi9, fun c z hc hz9 => by rw [nP 21 (by omega)]; exact b4 c z hc hz9⟩, fun i hi9 => (a12 i hi9).frP F1 (fun x g1 g2 g => by unfold Prl at g; omega)⟩
theorem Fa.c {hi' : en_I} (F : Fa 16 hi hi') : Fc hi hi' := Fc.of F.1 (fun x g => by unfold Prl at g; omega)
end
