/-! the first state -/
def zE0 : hEnv := (fun _ _ => 0, 0, 0, fun _ => 0, fun _ => (0, 0, 0, 0), 0, fun _ => (0, 0, 0, 0), 0)
def zS0 : zSh := ((fun _ _ _ => 0, fun _ => 0, fun _ => 0, fun _ => 0, 0, 0), 0, fun _ => (0, 0), fun _ _ => 0)
def zW0 : zW := (zE0, (0, fun _ _ _ => 0), (0, fun _ => (0, fun _ => ((0, 0, 0), 0))), zS0, (0, fun _ => zS0), (0, fun _ => 0), -1, fun _ => 0)
theorem zOK0 : zOK 0 zW0 := by
  have x0 : xOK 0 zE0 zS0 := ⟨⟨fun _ _ _ => Int.le_refl 0, fun _ _ _ _ => rfl, fun _ _ _ _ => rfl, by decide⟩, by decide, fun h => absurd rfl h, ⟨by decide, by decide⟩, ⟨by decide, fun i h => (Nat.not_lt_zero i h).elim⟩, fun c z _ _ => by show (-1 : Int) ≤ 0 ∧ (0 : Int) ≤ 999999; decide, fun h => absurd rfl h⟩
  exact ⟨⟨by decide, fun j h => (Nat.not_lt_zero j h).elim⟩, by decide, by decide, by decide, fun i h => (Nat.not_lt_zero i h).elim, fun y h => (Nat.not_lt_zero y h).elim, ⟨fun c _ => by show (0 : Int) ≤ 0 ∧ (0 : Int) ≤ 16; decide, ⟨by decide, fun i h => (Nat.not_lt_zero i h).elim⟩⟩, ⟨by decide, fun i h => (Nat.not_lt_zero i h).elim⟩, ⟨by decide, by decide⟩, x0, fun i h => (Nat.not_lt_zero i h).elim⟩
section
variable {G : en_G} {K : en_K} {hi : en_I} {hl : en_L} {hr : en_F}
theorem c0_inv (hR : cR 2 hr) (hc : Zc hi) (hq : Zq 110 hi) : InvC G zW0 hi hr := by
  have z : ∀ x j, 0 < x → x < 110 → x ≠ 26 → x ≠ 38 → hi x j = iI 0 := fun x j a b c d => (hq x j a b c d).trans iI_z
  have z0 : ∀ j, j ≠ 2 → hi 0 j = iI 0 := fun j h => (hc.2 j h).trans iI_z
  have sx : sxH 2 zE0 hi := ⟨⟨z 2 6 (by decide) (by decide) (by decide) (by decide), by decide, fun i h => (Nat.not_lt_zero i h).elim⟩, ⟨z 2 8 (by decide) (by decide) (by decide) (by decide), by decide, fun i h => (Nat.not_lt_zero i h).elim⟩, fun c z9 k _ _ _ => z 37 _ (by decide) (by decide) (by decide) (by decide)⟩
  have hs : hsH 16 zE0 zS0.1 hi := ⟨⟨z 16 0 (by decide) (by decide) (by decide) (by decide), z 16 1 (by decide) (by decide) (by decide) (by decide), by decide, by decide, fun c z9 k _ _ _ => z 17 _ (by decide) (by decide) (by decide) (by decide)⟩, fun c _ => z 18 c (by decide) (by decide) (by decide) (by decide), fun c _ => z 19 c (by decide) (by decide) (by decide) (by decide), fun c _ => z 20 c (by decide) (by decide) (by decide) (by decide), fun i _ => z 23 i (by decide) (by decide) (by decide) (by decide), z 16 10 (by decide) (by decide) (by decide) (by decide), z 16 11 (by decide) (by decide) (by decide) (by decide)⟩
  have xc : xcH 16 zE0 zS0 hi := ⟨hs, z 16 8 (by decide) (by decide) (by decide) (by decide), fun i h => (Nat.not_lt_zero i h).elim, fun c z9 _ _ => z 21 _ (by decide) (by decide) (by decide) (by decide)⟩
  exact ⟨2, hR, ⟨z0 1 (by decide), fun j h => (Nat.not_lt_zero j h).elim⟩, hc.1, z0 6 (by decide), z0 8 (by decide), z0 11 (by decide), fun k _ => z 25 k (by decide) (by decide) (by decide) (by decide), fun i h => (Nat.not_lt_zero i h).elim, fun y h => (Nat.not_lt_zero y h).elim, sx, xc, fun i h => (Nat.not_lt_zero i h).elim⟩
theorem r0_inv (hR : rfR hr) (h8 : hi 110 8 = iI (-1)) (h0 : ∀ j, j ≠ 8 → hi 110 j = 0) (hz : Zf 111 133 hi) : InvR G zW0 hi hr := by
  have w : ∀ x j, 111 ≤ x → x < 133 → hi x j = iI 0 := fun x j a b => (hz x j a b).trans iI_z
  have o : ∀ j, j ≠ 8 → hi 110 j = iI 0 := fun j h => (h0 j h).trans iI_z
  have w5 : ∀ j, hi 115 j = iI 0 := fun j => w 115 j (by decide) (by decide)
  have rs : rsH zS0.1 (fun _ => hi 115) := ⟨fun c z k _ _ _ => w5 _, fun c _ => w5 _, fun c _ => w5 _, fun i _ => w5 _, w5 _, w5 _, fun j _ _ => w5 j⟩
  have xr : xrH zS0 (hi 115) := ⟨rs, w5 _, fun i h => (Nat.not_lt_zero i h).elim, fun c z _ _ => w5 _⟩
  have rb : rbE zE0 (fun _ => 0) := ⟨⟨rfl, rfl, by decide, by decide⟩, fun c _ => rfl, ⟨rfl, fun i h => (Nat.not_lt_zero i h).elim⟩, ⟨rfl, fun i h => (Nat.not_lt_zero i h).elim⟩, ⟨by decide, fun i h => (Nat.not_lt_zero i h).elim⟩⟩
  exact ⟨hR, ⟨o 2 (by decide), fun j h => (Nat.not_lt_zero j h).elim⟩, h8, o 17 (by decide), o 18 (by decide), o 16 (by decide), fun k _ => w 111 k (by decide) (by decide), fun l h => (Nat.not_lt_zero l h).elim, fun y h => (Nat.not_lt_zero y h).elim, ⟨fun _ => 0, fun j _ => w 113 j (by decide) (by decide), rb⟩, xr, fun i h => (Nat.not_lt_zero i h).elim⟩
theorem tsw_all {P : en_Kont → Prop} {l : List en_Kont} (h : ∀ k ∈ l, P k) (j : Nat) (k : en_Kont) (e : l[j]? = some k) : P k := h k (List.mem_of_getElem? e)
/-- the law's loop: k calls are still to come at most -/
theorem lw_loop (hM : G.2.2.2.2.2.1 ≤ 4608) (hK : ∀ hi hl hr, K (.inl (some (.int (iI 1)))) hi hl hr) : ∀ (k n : Nat), n + k = 512 → ∀ (W : zW) (hi : en_I) (hl : en_L) (hr : en_F) (uc us : Nat), InvC G W hi hr → InvR G W hi hr → zOK n W → 5 * k ≤ uc → 30 * k ≤ us → en_V G Y_L_law_ (100 + 1) wN wN K 23 [.ref 4000000, .ref 0, .ref 110, .ref 133, .int (iI ((9 * n : Nat) : Int)), jk, jk, jk] [] hi hl hr uc us := by
  intro k
  induction k with
  | zero =>
    intro n hnk W hi hl hr uc us hI hJ hz h5 h6
    refine s_L_law__23 _ _ _ _ _ _ _ ?_
    simp (disch := omega) only [B_L_law__23, oe_scl, en_ops, en_opl, iI_sub, iI_lt, true_and, and_true]
    exact ⟨fun _ => ⟨b1, hK _ _ _⟩, fun e => absurd (by omega) e⟩
  | succ k ih =>
    intro n hnk W hi hl hr uc us hI hJ hz h5 h6
    refine s_L_law__23 _ _ _ _ _ _ _ ?_
    simp (disch := omega) only [B_L_law__23, oe_scl, en_ops, en_opl, iI_sub, iI_lt, true_and, and_true]
    refine ⟨fun _ => ⟨b1, hK _ _ _⟩, fun e => ?_⟩
    have hL : 9 * n + 9 ≤ G.2.2.2.2.2.1 := by omega
    simp (disch := omega) only [sc_0, en_ops, en_opl]
    have Hx : lHx G K n (9 * n) (5 * k) (30 * k) := by
      intro W' hi' hl' hr' C J z
      refine s_L_law__2976 _ _ _ _ _ _ _ ?_
      simp only [B_L_law__2976, en_ops, iI_add, oe_kv]
      have q := ih (n + 1) (by omega) W' hi' hl' hr' (5 * k) (30 * k) C J z (Nat.le_refl _) (Nat.le_refl _)
      rw [show ((9 * (n + 1) : Nat) : Int) = ((9 * n : Nat) : Int) + 9 by omega] at q
      exact q
    refine ⟨fun _ => V_5 (Hx W hi hl hr hI hJ (hz.mono (Nat.le_succ n))) (by omega) (by omega), fun j k9 hj _ => ?_⟩
    refine tsw_all (P := fun k9 => k9 [.ref 4000000, .ref 0, .ref 110, .ref 133, .int (iI ((9 * n : Nat) : Int)), jk, jk, jk] [] hi hl hr uc us) ?_ j k9 hj

    exact List.forall_mem_cons.mpr ⟨s_L_law__228 _ _ _ _ _ _ _ (lw_feed hI hJ hz (by omega) hL hM (by omega) (by omega) Hx), List.forall_mem_cons.mpr ⟨s_L_law__301 _ _ _ _ _ _ _ (lw_beach hI hJ hz (by omega) hL hM (by omega) (by omega) Hx), List.forall_mem_cons.mpr ⟨s_L_law__357 _ _ _ _ _ _ _ (lw_law hI hJ hz (by omega) hL hM (by omega) (by omega) Hx), List.forall_mem_cons.mpr ⟨s_L_law__413 _ _ _ _ _ _ _ (lw_year hI hJ hz (by omega) hL hM (by omega) (by omega) Hx), List.forall_mem_cons.mpr ⟨s_L_law__469 _ _ _ _ _ _ _ (lw_fault hI hJ hz (by omega) hL hM (by omega) (by omega) Hx), List.forall_mem_cons.mpr ⟨s_L_law__482 _ _ _ _ _ _ _ (lw_told hI hJ hz (by omega) hL hM (by omega) (by omega) Hx), List.forall_mem_cons.mpr ⟨s_L_law__538 _ _ _ _ _ _ _ (lw_stones hI hJ hz (by omega) hL hM (by omega) (by omega) Hx), List.forall_mem_cons.mpr ⟨s_L_law__618 _ _ _ _ _ _ _ (lw_cell hI hJ hz (by omega) hL hM (by omega) (by omega) Hx), List.forall_mem_cons.mpr ⟨s_L_law__686 _ _ _ _ _ _ _ (lw_put hI hJ hz (by omega) hL hM (by omega) (by omega) Hx), List.forall_mem_cons.mpr ⟨s_L_law__778 _ _ _ _ _ _ _ (lw_says hI hJ hz (by omega) hL hM (by omega) (by omega) Hx), List.forall_mem_cons.mpr ⟨s_L_law__924 _ _ _ _ _ _ _ (lw_wave hI hJ hz (by omega) hL hM (by omega) (by omega) Hx), List.forall_mem_cons.mpr ⟨s_L_law__1016 _ _ _ _ _ _ _ (lw_run hI hJ hz (by omega) hL hM (by omega) (by omega) Hx), List.forall_mem_cons.mpr ⟨s_L_law__1084 _ _ _ _ _ _ _ (lw_lots hI hJ hz (by omega) hL hM (by omega) (by omega) Hx), List.forall_mem_cons.mpr ⟨s_L_law__1176 _ _ _ _ _ _ _ (lw_mean hI hJ hz (by omega) hL hM (by omega) (by omega) Hx), List.forall_mem_cons.mpr ⟨s_L_law__1232 _ _ _ _ _ _ _ (lw_order hI hJ hz (by omega) hL hM (by omega) (by omega) Hx), List.forall_mem_cons.mpr ⟨s_L_law__1288 _ _ _ _ _ _ _ (lw_horn hI hJ hz (by omega) hL hM (by omega) (by omega) Hx), List.forall_mem_cons.mpr ⟨s_L_law__1313 _ _ _ _ _ _ _ (lw_sound hI hJ hz (by omega) hL hM (by omega) (by omega) Hx), List.forall_mem_cons.mpr ⟨s_L_law__1369 _ _ _ _ _ _ _ (lw_take hI hJ hz (by omega) hL hM (by omega) (by omega) Hx), List.forall_mem_cons.mpr ⟨s_L_law__1437 _ _ _ _ _ _ _ (lw_drop hI hJ hz (by omega) hL hM (by omega) (by omega) Hx), List.forall_mem_cons.mpr ⟨s_L_law__1450 _ _ _ _ _ _ _ (lw_word hI hJ hz (by omega) hL hM (by omega) (by omega) Hx), List.forall_mem_cons.mpr ⟨s_L_law__1505 _ _ _ _ _ _ _ (lw_odds hI hJ hz (by omega) hL hM (by omega) (by omega) Hx), List.forall_mem_cons.mpr ⟨s_L_law__1561 _ _ _ _ _ _ _ (lw_where hI hJ hz (by omega) hL hM (by omega) (by omega) Hx), List.forall_mem_cons.mpr ⟨s_L_law__1617 _ _ _ _ _ _ _ (lw_found hI hJ hz (by omega) hL hM (by omega) (by omega) Hx), List.forall_mem_cons.mpr ⟨s_L_law__1685 _ _ _ _ _ _ _ (lw_miles hI hJ hz (by omega) hL hM (by omega) (by omega) Hx), List.forall_mem_cons.mpr ⟨s_L_law__1741 _ _ _ _ _ _ _ (lw_lost hI hJ hz (by omega) hL hM (by omega) (by omega) Hx), List.forall_mem_cons.mpr ⟨s_L_law__1754 _ _ _ _ _ _ _ (lw_look hI hJ hz (by omega) hL hM (by omega) (by omega) Hx), List.forall_mem_cons.mpr ⟨s_L_law__1834 _ _ _ _ _ _ _ (lw_left hI hJ hz (by omega) hL hM (by omega) (by omega) Hx), List.forall_mem_cons.mpr ⟨s_L_law__1926 _ _ _ _ _ _ _ (lw_sample hI hJ hz (by omega) hL hM (by omega) (by omega) Hx), List.forall_mem_cons.mpr ⟨s_L_law__2006 _ _ _ _ _ _ _ (lw_which hI hJ hz (by omega) hL hM (by omega) (by omega) Hx), List.forall_mem_cons.mpr ⟨s_L_law__2074 _ _ _ _ _ _ _ (lw_cost hI hJ hz (by omega) hL hM (by omega) (by omega) Hx), List.forall_mem_cons.mpr ⟨s_L_law__2178 _ _ _ _ _ _ _ (lw_raised hI hJ hz (by omega) hL hM (by omega) (by omega) Hx), List.forall_mem_cons.mpr ⟨s_L_law__2282 _ _ _ _ _ _ _ (lw_brought hI hJ hz (by omega) hL hM (by omega) (by omega) Hx), List.forall_mem_cons.mpr ⟨s_L_law__2374 _ _ _ _ _ _ _ (lw_sums hI hJ hz (by omega) hL hM (by omega) (by omega) Hx), List.forall_mem_cons.mpr ⟨s_L_law__2430 _ _ _ _ _ _ _ (lw_last hI hJ hz (by omega) hL hM (by omega) (by omega) Hx), List.forall_mem_cons.mpr ⟨s_L_law__2522 _ _ _ _ _ _ _ (lw_like hI hJ hz (by omega) hL hM (by omega) (by omega) Hx), List.forall_mem_cons.mpr ⟨s_L_law__2590 _ _ _ _ _ _ _ (lw_walls hI hJ hz (by omega) hL hM (by omega) (by omega) Hx), List.forall_mem_cons.mpr ⟨s_L_law__2708 _ _ _ _ _ _ _ (lw_high hI hJ hz (by omega) hL hM (by omega) (by omega) Hx), List.forall_mem_cons.mpr ⟨s_L_law__2776 _ _ _ _ _ _ _ (lw_one hI hJ hz (by omega) hL hM (by omega) (by omega) Hx), List.forall_mem_cons.mpr ⟨s_L_law__2832 _ _ _ _ _ _ _ (lw_seen hI hJ hz (by omega) hL hM (by omega) (by omega) Hx), List.forall_mem_cons.mpr ⟨s_L_law__2900 _ _ _ _ _ _ _ (lw_image hI hJ hz (by omega) hL hM (by omega) (by omega) Hx), List.forall_mem_cons.mpr ⟨s_L_law__2913 _ _ _ _ _ _ _ (lw_restore hI hJ hz (by omega) hL hM (by omega) (by omega) Hx), List.forall_mem_cons.mpr ⟨s_L_law__2926 _ _ _ _ _ _ _ (lw_status hI hJ hz (by omega) hL hM (by omega) (by omega) Hx), List.forall_mem_cons.mpr ⟨s_L_law__2951 _ _ _ _ _ _ _ (lw_count hI hJ hz (by omega) hL hM (by omega) (by omega) Hx), fun _ h => absurd h List.not_mem_nil⟩⟩⟩⟩⟩⟩⟩⟩⟩⟩⟩⟩⟩⟩⟩⟩⟩⟩⟩⟩⟩⟩⟩⟩⟩⟩⟩⟩⟩⟩⟩⟩⟩⟩⟩⟩⟩⟩⟩⟩⟩⟩⟩
theorem lw_start (hM : G.2.2.2.2.2.1 ≤ 4608) (hK : ∀ hi hl hr, K (.inl (some (.int (iI 1)))) hi hl hr) : en_V G Y_L_law_ (100 + 1) (0, true) wN K 0 [.ref 4000000, jk, jk, jk, jk, jk, jk, jk] [] hi hl hr 601024 7293034 := by
  refine s_L_law__0 0 (by decide) (by decide) (by decide) _ _ _ _ _ _ _ ?_
  simp only [B_L_law__0, en_ops, en_opi, Nat.reduceAdd, Nat.zero_add, true_and, and_true]
  refine ⟨⟨by omega, by omega⟩, by decide, by decide, by omega, by omega, i_X10 (by decide) (by decide) Zo.new (fun hi1 hl1 hr1 c1 zc zq => ?_)⟩
  simp only [en_ops, en_opi, Nat.reduceAdd, Nat.zero_add, true_and, and_true]
  refine ⟨⟨by omega, by omega⟩, by decide, by decide, by omega, by omega, i_X11 (d := 99) (by decide) (by decide) Zo.new (fun hi2 hl2 hr2 q2 r2 z2 h8 h0 f2 => ?_)⟩
  simp only [en_ops, en_opi, Nat.reduceAdd, Nat.zero_add, true_and, and_true]
  refine ⟨1, rfl, by decide, ⟨by omega, by omega⟩, ?_⟩
  have I1 : InvC G zW0 (en_row hi2 133 (fun _ => 0)) (en_row hr2 133 (fun _ => .null)) := by
    refine c0_inv (c1 _ (fun x hx => ?_)) ?_ ?_
    · rw [row_ne (by omega), r2 x hx, row_ne (by omega)]
    · exact Zc.row (by decide) (Zc.sub (by decide : 0 < 110) (Zc.row (by decide) zc) q2)
    · exact Zq.rowge (by decide) (Zq.sub (Zq.rowge (by decide) zq) q2 Zf.nil)
  have I2 : InvR G zW0 (en_row hi2 133 (fun _ => 0)) (en_row hr2 133 (fun _ => .null)) := by
    refine r0_inv ?_ ?_ (fun j hj => ?_) (fun x j a b => ?_)
    · have e : en_row hr2 133 (fun _ => .null) 110 = hr2 110 := row_ne (by decide)
      unfold rfR at f2 ⊢
      rw [e]
      exact f2
    · rw [row_ne (by decide)]; exact h8
    · rw [row_ne (by decide)]; exact h0 j hj
    · rw [row_ne (by omega)]; exact z2 x j a b
  exact V_wk (n := 134) (b := true) (lw_loop hM hK 512 0 rfl zW0 _ (en_row hl2 133 (fun _ => 0)) _ 2560 15360 I1 I2 zOK0 (by decide) (by decide)) rfl (fun i v a _ => a) (by omega) (by omega)
end
