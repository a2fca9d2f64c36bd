/-! what written steps say: a place, a stack's top, the stack -/
abbrev cSt : Type := Nat × Nat × (Nat → Int32)
def upN (S : Nat → Int32) (t : Nat) (v : Int32) : Nat → Int32 := fun j => if j = t then v else S j
theorem upN_at {S : Nat → Int32} {t : Nat} {v : Int32} : upN S t v t = v := if_pos rfl
theorem upN_ne {S : Nat → Int32} {t j : Nat} {v : Int32} (h : j ≠ t) : upN S t v j = S j := if_neg h
def grun (st : cSt → cSt) (ok : cSt → Prop) : Nat → cSt → cSt → Prop
  | 0, x, y => x = y
  | k + 1, x, y => ok x ∧ grun st ok k (st x) y
theorem gn_add {st : cSt → cSt} {ok : cSt → Prop} : ∀ (k m : Nat) (x y z : cSt), grun st ok k x y → grun st ok m y z → grun st ok (k + m) x z := by
  intro k
  induction k with
  | zero => intro m x y z h1 h2; cases h1; rw [Nat.zero_add]; exact h2
  | succ k ih =>
    intro m x y z h1 h2
    rw [show k + 1 + m = (k + m) + 1 by omega]
    exact ⟨h1.1, ih m _ _ _ h1.2 h2⟩
theorem gr_1 {st : cSt → cSt} {ok : cSt → Prop} {x y : cSt} (h : ok x) (e : st x = y) : grun st ok 1 x y := ⟨h, e⟩
/-- the class's steps -/
def ckS (F nm : Nat → Int32) (x : cSt) : cSt :=
  if 0 ≤ (F x.1).toInt then (x.1 + 1, x.2.1 + 1, upN x.2.2 x.2.1 (F x.1))
  else if -9 ≤ (F x.1).toInt then (x.1 + 1, x.2.1 + 1, upN x.2.2 x.2.1 (nm (-1 - (F x.1).toInt).toNat))
  else if (F x.1).toInt = -21 then ((F (x.1 + 1)).toInt.toNat, x.2.1, x.2.2)
  else if (F x.1).toInt = -20 then (if x.2.2 (x.2.1 - 1) = 0 then (F (x.1 + 1)).toInt.toNat else x.1 + 2, x.2.1 - 1, x.2.2)
  else if (F x.1).toInt = -19 then (x.1 + 1, x.2.1, upN x.2.2 (x.2.1 - 1) (1 - x.2.2 (x.2.1 - 1)))
  else (x.1 + 1, x.2.1 - 1, upN x.2.2 (x.2.1 - 2) (opE (if -16 ≤ (F x.1).toInt then (-8 - (F x.1).toInt).toNat else (-7 - (F x.1).toInt).toNat) (x.2.2 (x.2.1 - 2)) (x.2.2 (x.2.1 - 1))))
def ckO (F : Nat → Int32) (E : Nat) (x : cSt) : Prop := x.1 < E ∧ x.2.1 ≤ 64 ∧
  ((-9 ≤ (F x.1).toInt ∧ x.2.1 < 64) ∨ ((F x.1).toInt = -21 ∧ x.1 + 1 < E ∧ (x.1 : Int) + 1 < (F (x.1 + 1)).toInt) ∨ ((F x.1).toInt = -20 ∧ 1 ≤ x.2.1 ∧ x.1 + 1 < E ∧ (x.1 : Int) + 1 < (F (x.1 + 1)).toInt) ∨ ((F x.1).toInt = -19 ∧ 1 ≤ x.2.1) ∨ ((-18 ≤ (F x.1).toInt ∧ (F x.1).toInt ≤ -10) ∧ 2 ≤ x.2.1))
/-- the steps from a to b put s on the stack -/
def cseg (F : Nat → Int32) (a b N : Nat) (s : lSem) : Prop := ∀ (nm : Nat → Int32) (t : Nat) (S : Nat → Int32) (E : Nat), t + N ≤ 64 → b ≤ E → ∃ k S', grun (ckS F nm) (ckO F E) k (a, t, S) (b, t + 1, S') ∧ S' t = s nm ∧ ∀ j, j < t → S' j = S j
theorem cs_num {F : Nat → Int32} {a N v : Nat} (h : F a = iI (v : Int)) (hv : v ≤ 9999) (hN : 1 ≤ N) : cseg F a (a + 1) N (fun _ => iI (v : Int)) := by
  intro nm t S E h1 h2
  have e : (F a).toInt = v := by rw [h, iI_toInt (by omega) (by omega)]
  refine ⟨1, upN S t (F a), gr_1 ⟨h2, by show t ≤ 64; omega, Or.inl ⟨by rw [e]; omega, by show t < 64; omega⟩⟩ ?_, by rw [upN_at, h], fun j hj => upN_ne (by omega)⟩
  exact if_pos (by rw [e]; omega)
theorem cs_nam {F : Nat → Int32} {a N j : Nat} (h : F a = iI (-1 - (j : Int))) (hj : j < 9) (hN : 1 ≤ N) : cseg F a (a + 1) N (fun nm => nm j) := by
  intro nm t S E h1 h2
  have e : (F a).toInt = -1 - (j : Int) := by rw [h, iI_toInt (by omega) (by omega)]
  refine ⟨1, upN S t (nm j), gr_1 ⟨h2, by show t ≤ 64; omega, Or.inl ⟨by rw [e]; omega, by show t < 64; omega⟩⟩ ?_, upN_at, fun j hj => upN_ne (by omega)⟩
  unfold ckS
  rw [if_neg (by rw [e]; omega), if_pos (by rw [e]; omega), e, show (-1 - (-1 - (j : Int))).toNat = j by omega]
theorem cs_bin {F : Nat → Int32} {a b c N N1 N2 o : Nat} {s1 s2 : lSem} (h1 : cseg F a b N1 s1) (h2 : cseg F b c N2 s2) (h : F c = iI (if o ≤ 8 then -8 - (o : Int) else -7 - (o : Int))) (ho : 2 ≤ o ∧ o ≤ 11 ∧ o ≠ 9) (hb : b ≤ c) (n1 : N1 ≤ N) (n2 : N2 + 1 ≤ N) (n3 : 2 ≤ N) : cseg F a (c + 1) N (fun nm => opE o (s1 nm) (s2 nm)) := by
  intro nm t S E g1 g2
  have e : (F c).toInt = if o ≤ 8 then -8 - (o : Int) else -7 - (o : Int) := by
    rw [h, iI_toInt]
    · split <;> omega
    · split <;> omega
  obtain ⟨k1, S1, r1, r2, r3⟩ := h1 nm t S E (by omega) (by omega)
  obtain ⟨k2, S2, q1, q2, q3⟩ := h2 nm (t + 1) S1 E (by omega) (by omega)
  refine ⟨k1 + (k2 + 1), upN S2 t (opE o (s1 nm) (s2 nm)), gn_add _ _ _ _ _ r1 (gn_add _ _ _ _ _ q1 (gr_1 ⟨g2, by show t + 1 + 1 ≤ 64; omega, Or.inr (Or.inr (Or.inr (Or.inr ⟨?_, by show 2 ≤ t + 1 + 1; omega⟩)))⟩ ?_)), upN_at, fun j hj => ?_⟩
  · show -18 ≤ (F c).toInt ∧ (F c).toInt ≤ -10
    rw [e]
    split <;> omega
  · unfold ckS
    show (if 0 ≤ (F c).toInt then _ else _) = _
    have x1 : ¬ 0 ≤ (F c).toInt := by rw [e]; split <;> omega
    have x2 : ¬ -9 ≤ (F c).toInt := by rw [e]; split <;> omega
    have x3 : ¬ (F c).toInt = -21 := by rw [e]; split <;> omega
    have x4 : ¬ (F c).toInt = -20 := by rw [e]; split <;> omega
    have x5 : ¬ (F c).toInt = -19 := by rw [e]; split <;> omega
    rw [if_neg x1, if_neg x2, if_neg x3, if_neg x4, if_neg x5]
    show (c + 1, t + 1 + 1 - 1, upN S2 (t + 1 + 1 - 2) (opE (if -16 ≤ (F c).toInt then (-8 - (F c).toInt).toNat else (-7 - (F c).toInt).toNat) (S2 (t + 1 + 1 - 2)) (S2 (t + 1 + 1 - 1)))) = (c + 1, t + 1, upN S2 t (opE o (s1 nm) (s2 nm)))
    have eo : (if -16 ≤ (F c).toInt then (-8 - (F c).toInt).toNat else (-7 - (F c).toInt).toNat) = o := by
      rw [e]
      by_cases o8 : o ≤ 8
      · rw [if_pos o8, if_pos (by omega)]; omega
      · rw [if_neg o8, if_neg (by omega)]; omega
    rw [eo, show t + 1 + 1 - 2 = t by omega, show t + 1 + 1 - 1 = t + 1 by omega, q2, q3 t (by omega), r2]
  · rw [upN_ne (by omega), q3 j (by omega), r3 j hj]
theorem cs_not {F : Nat → Int32} {a b N N1 : Nat} {s1 : lSem} (h1 : cseg F a b N1 s1) (h : F b = iI (-19)) (n1 : N1 ≤ N) (n0 : 1 ≤ N) : cseg F a (b + 1) N (fun nm => 1 - s1 nm) := by
  intro nm t S E g1 g2
  have e : (F b).toInt = -19 := by rw [h, iI_toInt (by omega) (by omega)]
  obtain ⟨k1, S1, r1, r2, r3⟩ := h1 nm t S E (by omega) (by omega)
  refine ⟨k1 + 1, upN S1 t (1 - s1 nm), gn_add _ _ _ _ _ r1 (gr_1 ⟨g2, by show t + 1 ≤ 64; omega, Or.inr (Or.inr (Or.inr (Or.inl ⟨e, by show 1 ≤ t + 1; omega⟩)))⟩ ?_), upN_at, fun j hj => by rw [upN_ne (by omega), r3 j hj]⟩
  unfold ckS
  show (if 0 ≤ (F b).toInt then _ else _) = _
  rw [if_neg (by rw [e]; omega), if_neg (by rw [e]; omega), if_neg (by rw [e]; omega), if_neg (by rw [e]; omega), if_pos e]
  show (b + 1, t + 1, upN S1 (t + 1 - 1) (1 - S1 (t + 1 - 1))) = _
  rw [show t + 1 - 1 = t by omega, r2]
theorem cs_if {F : Nat → Int32} {a b c c2 N N1 N2 N3 : Nat} {s1 s2 s3 : lSem} (h1 : cseg F a b N1 s1) (h2 : cseg F (b + 2) c N2 s2) (h3 : cseg F (c + 2) c2 N3 s3) (e1 : F b = iI (-20)) (e2 : F (b + 1) = iI ((c + 2 : Nat) : Int)) (e3 : F c = iI (-21)) (e4 : F (c + 1) = iI (c2 : Int)) (hb : b + 2 ≤ c) (hc : c + 2 ≤ c2) (h600 : c2 ≤ 600) (n1 : N1 ≤ N) (n2 : N2 ≤ N) (n3 : N3 ≤ N) (h01 : is01 s1) (n0 : 1 ≤ N) : cseg F a c2 N (fun nm => if s1 nm = 1 then s2 nm else s3 nm) := by
  intro nm t S E g1 g2
  have f1 : (F b).toInt = -20 := by rw [e1, iI_toInt (by omega) (by omega)]
  have f2 : (F (b + 1)).toInt = ((c + 2 : Nat) : Int) := by rw [e2, iI_toInt (by omega) (by omega)]
  have f3 : (F c).toInt = -21 := by rw [e3, iI_toInt (by omega) (by omega)]
  have f4 : (F (c + 1)).toInt = (c2 : Int) := by rw [e4, iI_toInt (by omega) (by omega)]
  obtain ⟨k1, S1, r1, r2, r3⟩ := h1 nm t S E (by omega) (by omega)
  have ok1 : ckO F E (b, t + 1, S1) := ⟨by show b < E; omega, by show t + 1 ≤ 64; omega, Or.inr (Or.inr (Or.inl ⟨f1, by show 1 ≤ t + 1; omega, by show b + 1 < E; omega, by show (b : Int) + 1 < (F (b + 1)).toInt; rw [f2]; omega⟩))⟩
  have st1 : ckS F nm (b, t + 1, S1) = (if S1 (t + 1 - 1) = 0 then (F (b + 1)).toInt.toNat else b + 2, t + 1 - 1, S1) := by
    unfold ckS
    show (if 0 ≤ (F b).toInt then _ else _) = _
    rw [if_neg (by rw [f1]; omega), if_neg (by rw [f1]; omega), if_neg (by rw [f1]; omega), if_pos f1]
  rw [show t + 1 - 1 = t by omega, r2, f2, show (((c + 2 : Nat) : Int)).toNat = c + 2 by omega] at st1
  rcases h01 nm with z | z
  · rw [if_pos z] at st1
    obtain ⟨k3, S3, p1, p2, p3⟩ := h3 nm t S1 E (by omega) (by omega)
    refine ⟨k1 + (1 + k3), S3, gn_add _ _ _ _ _ r1 (gn_add _ _ _ _ _ (gr_1 ok1 st1) p1), ?_, fun j hj => by rw [p3 j hj, r3 j hj]⟩
    show S3 t = if s1 nm = 1 then s2 nm else s3 nm
    rw [p2, z, if_neg (by decide)]
  · rw [if_neg (by rw [z]; decide)] at st1
    obtain ⟨k2, S2, q1, q2, q3⟩ := h2 nm t S1 E (by omega) (by omega)
    have ok2 : ckO F E (c, t + 1, S2) := ⟨by show c < E; omega, by show t + 1 ≤ 64; omega, Or.inr (Or.inl ⟨f3, by show c + 1 < E; omega, by show (c : Int) + 1 < (F (c + 1)).toInt; rw [f4]; omega⟩)⟩
    have st2 : ckS F nm (c, t + 1, S2) = ((F (c + 1)).toInt.toNat, t + 1, S2) := by
      unfold ckS
      show (if 0 ≤ (F c).toInt then _ else _) = _
      rw [if_neg (by rw [f3]; omega), if_neg (by rw [f3]; omega), if_pos f3]
    rw [f4, show ((c2 : Int)).toNat = c2 by omega] at st2
    refine ⟨k1 + (1 + (k2 + 1)), S2, gn_add _ _ _ _ _ r1 (gn_add _ _ _ _ _ (gr_1 ok1 st1) (gn_add _ _ _ _ _ q1 (gr_1 ok2 st2))), ?_, fun j hj => by rw [q3 j hj, r3 j hj]⟩
    show S2 t = if s1 nm = 1 then s2 nm else s3 nm
    rw [q2, z, if_pos rfl]
/-- the reference's steps -/
def rkS (F V nm : Nat → Int32) (x : cSt) : cSt :=
  if (F x.1).toInt = 0 then (x.1 + 1, x.2.1 + 1, upN x.2.2 x.2.1 (V x.1))
  else if (F x.1).toInt = 1 then (x.1 + 1, x.2.1 + 1, upN x.2.2 x.2.1 (nm (V x.1).toInt.toNat))
  else if (F x.1).toInt = 9 then (x.1 + 1, x.2.1, upN x.2.2 (x.2.1 - 1) (1 - x.2.2 (x.2.1 - 1)))
  else if (F x.1).toInt = 12 then (x.1 + 1, x.2.1 - 2, upN x.2.2 (x.2.1 - 3) (if x.2.2 (x.2.1 - 3) = 1 then x.2.2 (x.2.1 - 2) else x.2.2 (x.2.1 - 1)))
  else (x.1 + 1, x.2.1 - 1, upN x.2.2 (x.2.1 - 2) (opE (F x.1).toInt.toNat (x.2.2 (x.2.1 - 2)) (x.2.2 (x.2.1 - 1))))
def rkO (F V : Nat → Int32) (E : Nat) (x : cSt) : Prop := x.1 < E ∧ x.2.1 ≤ 64 ∧
  (((F x.1).toInt = 0 ∧ x.2.1 < 64) ∨ ((F x.1).toInt = 1 ∧ x.2.1 < 64 ∧ 0 ≤ (V x.1).toInt ∧ (V x.1).toInt < 9) ∨ ((F x.1).toInt = 9 ∧ 1 ≤ x.2.1) ∨ ((F x.1).toInt = 12 ∧ 3 ≤ x.2.1) ∨ ((2 ≤ (F x.1).toInt ∧ (F x.1).toInt ≤ 11 ∧ (F x.1).toInt ≠ 9) ∧ 2 ≤ x.2.1))
def rseg (F V : Nat → Int32) (a b N : Nat) (s : lSem) : Prop := ∀ (nm : Nat → Int32) (t : Nat) (S : Nat → Int32) (E : Nat), t + N ≤ 64 → b ≤ E → ∃ k S', grun (rkS F V nm) (rkO F V E) k (a, t, S) (b, t + 1, S') ∧ S' t = s nm ∧ ∀ j, j < t → S' j = S j
theorem rs_num {F V : Nat → Int32} {a N : Nat} {v : Int32} (h : F a = iI 0) (hv : V a = v) (hN : 1 ≤ N) : rseg F V a (a + 1) N (fun _ => v) := by
  intro nm t S E h1 h2
  have e : (F a).toInt = 0 := by rw [h, iI_toInt (by omega) (by omega)]
  refine ⟨1, upN S t (V a), gr_1 ⟨h2, by show t ≤ 64; omega, Or.inl ⟨e, by show t < 64; omega⟩⟩ (if_pos e), by rw [upN_at, hv], fun j hj => upN_ne (by omega)⟩
theorem rs_nam {F V : Nat → Int32} {a N j : Nat} (h : F a = iI 1) (hv : V a = iI (j : Int)) (hj : j < 9) (hN : 1 ≤ N) : rseg F V a (a + 1) N (fun nm => nm j) := by
  intro nm t S E h1 h2
  have e : (F a).toInt = 1 := by rw [h, iI_toInt (by omega) (by omega)]
  have e2 : (V a).toInt = j := by rw [hv, iI_toInt (by omega) (by omega)]
  refine ⟨1, upN S t (nm j), gr_1 ⟨h2, by show t ≤ 64; omega, Or.inr (Or.inl ⟨e, by show t < 64; omega, by show 0 ≤ (V a).toInt; omega, by show (V a).toInt < 9; omega⟩)⟩ ?_, upN_at, fun j hj => upN_ne (by omega)⟩
  unfold rkS
  rw [if_neg (by rw [e]; omega), if_pos e, e2, show ((j : Int)).toNat = j by omega]
theorem rs_bin {F V : Nat → Int32} {a b c N N1 N2 o : Nat} {s1 s2 : lSem} (h1 : rseg F V a b N1 s1) (h2 : rseg F V b c N2 s2) (h : F c = iI (o : Int)) (ho : 2 ≤ o ∧ o ≤ 11 ∧ o ≠ 9) (hb : b ≤ c) (n1 : N1 ≤ N) (n2 : N2 + 1 ≤ N) (n3 : 2 ≤ N) : rseg F V a (c + 1) N (fun nm => opE o (s1 nm) (s2 nm)) := by
  intro nm t S E g1 g2
  have e : (F c).toInt = (o : Int) := by rw [h, iI_toInt (by omega) (by omega)]
  obtain ⟨k1, S1, r1, r2, r3⟩ := h1 nm t S E (by omega) (by omega)
  obtain ⟨k2, S2, q1, q2, q3⟩ := h2 nm (t + 1) S1 E (by omega) (by omega)
  refine ⟨k1 + (k2 + 1), upN S2 t (opE o (s1 nm) (s2 nm)), gn_add _ _ _ _ _ r1 (gn_add _ _ _ _ _ q1 (gr_1 ⟨g2, by show t + 1 + 1 ≤ 64; omega, Or.inr (Or.inr (Or.inr (Or.inr ⟨?_, by show 2 ≤ t + 1 + 1; omega⟩)))⟩ ?_)), upN_at, fun j hj => ?_⟩
  · show 2 ≤ (F c).toInt ∧ (F c).toInt ≤ 11 ∧ (F c).toInt ≠ 9
    rw [e]; omega
  · unfold rkS
    show (if (F c).toInt = 0 then _ else _) = _
    rw [if_neg (by rw [e]; omega), if_neg (by rw [e]; omega), if_neg (by rw [e]; omega), if_neg (by rw [e]; omega)]
    show (c + 1, t + 1 + 1 - 1, upN S2 (t + 1 + 1 - 2) (opE (F c).toInt.toNat (S2 (t + 1 + 1 - 2)) (S2 (t + 1 + 1 - 1)))) = (c + 1, t + 1, upN S2 t (opE o (s1 nm) (s2 nm)))
    rw [e, show ((o : Int)).toNat = o by omega, show t + 1 + 1 - 2 = t by omega, show t + 1 + 1 - 1 = t + 1 by omega, q2, q3 t (by omega), r2]
  · rw [upN_ne (by omega), q3 j (by omega), r3 j hj]
theorem rs_not {F V : Nat → Int32} {a b N N1 : Nat} {s1 : lSem} (h1 : rseg F V a b N1 s1) (h : F b = iI 9) (n1 : N1 ≤ N) (n0 : 1 ≤ N) : rseg F V a (b + 1) N (fun nm => 1 - s1 nm) := by
  intro nm t S E g1 g2
  have e : (F b).toInt = 9 := by rw [h, iI_toInt (by omega) (by omega)]
  obtain ⟨k1, S1, r1, r2, r3⟩ := h1 nm t S E (by omega) (by omega)
  refine ⟨k1 + 1, upN S1 t (1 - s1 nm), gn_add _ _ _ _ _ r1 (gr_1 ⟨g2, by show t + 1 ≤ 64; omega, Or.inr (Or.inr (Or.inl ⟨e, by show 1 ≤ t + 1; omega⟩))⟩ ?_), upN_at, fun j hj => by rw [upN_ne (by omega), r3 j hj]⟩
  unfold rkS
  show (if (F b).toInt = 0 then _ else _) = _
  rw [if_neg (by rw [e]; omega), if_neg (by rw [e]; omega), if_pos e]
  show (b + 1, t + 1, upN S1 (t + 1 - 1) (1 - S1 (t + 1 - 1))) = _
  rw [show t + 1 - 1 = t by omega, r2]
theorem rs_cho {F V : Nat → Int32} {a b c c2 N N1 N2 N3 : Nat} {s1 s2 s3 : lSem} (h1 : rseg F V a b N1 s1) (h2 : rseg F V b c N2 s2) (h3 : rseg F V c c2 N3 s3) (e1 : F c2 = iI 12) (hb : b ≤ c) (hc : c ≤ c2) (n1 : N1 ≤ N) (n2 : N2 + 1 ≤ N) (n3 : N3 + 2 ≤ N) (n0 : 3 ≤ N) : rseg F V a (c2 + 1) N (fun nm => if s1 nm = 1 then s2 nm else s3 nm) := by
  intro nm t S E g1 g2
  have e : (F c2).toInt = 12 := by rw [e1, iI_toInt (by omega) (by omega)]
  obtain ⟨k1, S1, r1, r2, r3⟩ := h1 nm t S E (by omega) (by omega)
  obtain ⟨k2, S2, q1, q2, q3⟩ := h2 nm (t + 1) S1 E (by omega) (by omega)
  obtain ⟨k3, S3, p1, p2, p3⟩ := h3 nm (t + 1 + 1) S2 E (by omega) (by omega)
  refine ⟨k1 + (k2 + (k3 + 1)), upN S3 t (if s1 nm = 1 then s2 nm else s3 nm), gn_add _ _ _ _ _ r1 (gn_add _ _ _ _ _ q1 (gn_add _ _ _ _ _ p1 (gr_1 ⟨g2, by show t + 1 + 1 + 1 ≤ 64; omega, Or.inr (Or.inr (Or.inr (Or.inl ⟨e, by show 3 ≤ t + 1 + 1 + 1; omega⟩)))⟩ ?_))), upN_at, fun j hj => ?_⟩
  · unfold rkS
    show (if (F c2).toInt = 0 then _ else _) = _
    rw [if_neg (by rw [e]; omega), if_neg (by rw [e]; omega), if_neg (by rw [e]; omega), if_pos e]
    show (c2 + 1, t + 1 + 1 + 1 - 2, upN S3 (t + 1 + 1 + 1 - 3) (if S3 (t + 1 + 1 + 1 - 3) = 1 then S3 (t + 1 + 1 + 1 - 2) else S3 (t + 1 + 1 + 1 - 1))) = _
    rw [show t + 1 + 1 + 1 - 2 = t + 1 by omega, show t + 1 + 1 + 1 - 3 = t by omega, show t + 1 + 1 + 1 - 1 = t + 1 + 1 by omega, p2, p3 (t + 1) (by omega), p3 t (by omega), q2, q3 t (by omega), r2]
  · rw [upN_ne (by omega), p3 j (by omega), q3 j (by omega), r3 j hj]
