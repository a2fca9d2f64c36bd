/-! an hour as a step of a beach's numbers -/
abbrev hEnv : Type := (Nat → (Nat → Int) → Int) × Nat × Nat × (Nat → Int) × (Nat → Nat × Nat × Nat × Int) × Nat × (Nat → Nat × Nat × Int × Int) × Nat
abbrev hSt : Type := (Nat → Nat → Nat → Int) × (Nat → Int) × (Nat → Int) × (Nat → Int) × Int × Int
def hrP (E : hEnv) (w : Int × Int × Int) (q : hSt) : hSt :=
  ((h4P E.1 E.2.1 E.2.2.1 E.2.2.2.1 w.1 w.2.1 w.2.2 E.2.2.2.2.1 E.2.2.2.2.2.1 E.2.2.2.2.2.2.1 E.2.2.2.2.2.2.2 q.2.1 q.1 q.2.2.2.2.2).1, cr2 E.1 w.1 w.2.1 w.2.2 q.2.1 E.2.1, ov2 E.1 w.1 w.2.1 w.2.2 q.2.1 q.2.2.1 E.2.1,
   smP E.1 E.2.1 E.2.2.1 E.2.2.2.1 w.1 w.2.1 w.2.2 E.2.2.2.2.1 E.2.2.2.2.2.1 E.2.2.2.2.2.2.1 E.2.2.2.2.2.2.2 q.2.1 q.2.2.2.1 q.1 q.2.2.2.2.2, q.2.2.2.2.1 + spP E.2.2.2.2.1 E.2.2.2.2.2.1, q.2.2.2.2.2 + 1)
def hmP (E : hEnv) (w : Int × Int × Int) (q : hSt) : Int := sumTo (E.2.1 * 18) (mvN E.1 q.1 E.2.2.1 w.1 w.2.1 w.2.2 q.2.1)
/-- the shore at a holds q -/
def hsH (a : Nat) (E : hEnv) (q : hSt) (hi : en_I) : Prop :=
  shH a E.2.1 E.2.2.1 q.1 hi ∧ (∀ c, c < 12 → hi (a + 2) c = iI (q.2.1 c)) ∧ (∀ c, c < 12 → hi (a + 3) c = iI (E.2.2.2.1 c)) ∧ (∀ c, c < 12 → hi (a + 4) c = iI (q.2.2.1 c)) ∧ smH a q.2.2.2.1 hi ∧ hi a 10 = iI q.2.2.2.2.1 ∧ hi a 11 = iI q.2.2.2.2.2
def hOK (E : hEnv) (q : hSt) : Prop := fB E.2.1 E.2.2.1 q.1 ∧ tot q.1 ≤ 5190000 + 7992 * q.2.2.2.2.2 ∧ (∀ c, c < 12 → 1 ≤ q.2.1 c ∧ q.2.1 c ≤ 1000) ∧ 0 ≤ q.2.2.2.2.2 ∧ q.2.2.2.2.2 ≤ 600
def eOK (E : hEnv) : Prop := (∀ w nm, -2147483648 ≤ E.1 w nm ∧ E.1 w nm < 2147483648) ∧ (∀ c, c < 12 → 0 ≤ E.2.2.2.1 c ∧ E.2.2.2.1 c ≤ 16) ∧ spOK E.2.1 E.2.2.1 E.2.2.2.2.2.1 E.2.2.2.2.1
def wOK (w : Int × Int × Int) : Prop := (1 ≤ w.1 ∧ w.1 ≤ 30) ∧ (1 ≤ w.2.1 ∧ w.2.1 ≤ 20) ∧ (w.2.2 = 0 ∨ w.2.2 = 1)
section
variable {G : en_G} {d : Nat} {K : en_K} {a : Nat} {E : hEnv} {q : hSt} {w : Int × Int × Int} {hi : en_I} {hl : en_L} {hr : en_F} {xc xs : Nat}
/-- what the Sea needs beside the shore: its plan, the law, nothing arriving -/
def seH (G : en_G) (pl L : Nat) (E : hEnv) (hi : en_I) : Prop := spH pl E.2.2.2.2.2.1 E.2.2.2.2.1 hi ∧ loH pl E.2.2.2.2.2.2.2 E.2.1 E.2.2.2.2.2.2.1 hi ∧ lwV G L E.1 hi ∧ arrH (fun _ _ _ => 0) hi
def seS (pl L : Nat) (hr : en_F) : Prop := seR hr ∧ hr 34 5 = .ref pl ∧ isPl pl ∧ plR pl hr ∧ isLw L ∧ lwR L hr
theorem t_hour {pl L : Nat} (hS : seS pl L hr) (hE : eOK E) (hse : seH G pl L E hi) (ha : isSh a) (hR : shR a hr) (hq : hsH a E q hi) (hO : hOK E q) (hlt : q.2.2.2.2.2 < 600) (hw : wvH w.1 w.2.1 w.2.2 hi) (hwo : wOK w)
    (H : ∀ hi', Fr (Prl a) hi hi' → (∀ j, j ≠ 10 → j ≠ 11 → hi' a j = hi a j) → hsH a E (hrP E w q) hi' → hOK E (hrP E w q) → seH G pl L E hi' → wvH w.1 w.2.1 w.2.2 hi' → K (.inl (some (.int (iI (hmP E w q))))) hi' hl hr) :
    en_Call G (d + 5) xc xs Y_X4_roll wN wN [.ref 34, .ref a, .ref L] hi hl hr K := by
  obtain ⟨S1, S2, S3, S4, S5, S6⟩ := hS
  obtain ⟨e1, e2, e3⟩ := hE
  obtain ⟨x1, x2, x3, x4⟩ := hse
  obtain ⟨y1, y2, y3, y4, y5, y6, y7⟩ := hq
  obtain ⟨o1, o2, o3, o4, o5⟩ := hO
  obtain ⟨w1, w2, w3⟩ := hwo
  have n34 := ha.n34
  have m0 := n34 a (by omega) (by omega)
  have m1 := n34 (a + 1) (by omega) (by omega)
  have m2 := n34 (a + 2) (by omega) (by omega)
  have m3 := n34 (a + 3) (by omega) (by omega)
  have m4 := n34 (a + 4) (by omega) (by omega)
  have m7 := n34 (a + 7) (by omega) (by omega)
  have a16 := ha.sh.2.2.2.2.2.2.2.2.2.2.1
  have p14 := S3.sh.2.2.2.2.2.2.1
  refine t_roll (d := d) S1 S2 S3 S4 x1 e3 x2 S5 S6 x3 e1 ha hR y1 o1 (by omega) hw w3 y3 e2 y2 o3 y4 y5 x4 y6 y7 o4 (by omega) (fun hi' F A P Q SH B T AR SM W C O => ?_)
  refine H hi' F A ⟨SH, C, fun c hc => ?_, O, SM, P, Q⟩ ⟨B, ?_, fun c hc => ?_, ?_, ?_⟩ ⟨?_, ?_, x3.mono S5 F (fun x g => ?_), AR⟩ W
  · rw [F (a + 3) (fun g => by unfold Prl at g; omega)]; exact y3 c hc
  · show tot _ ≤ 5190000 + 7992 * (q.2.2.2.2.2 + 1)
    refine Int.le_trans T ?_
    omega
  · have c9 := o3 c hc
    show 1 ≤ cr2 _ _ _ _ _ _ _ ∧ cr2 _ _ _ _ _ _ _ ≤ 1000
    unfold cr2 loP
    split
    · split <;> omega
    · exact c9
  · show 0 ≤ q.2.2.2.2.2 + 1; omega
  · show q.2.2.2.2.2 + 1 ≤ 600; omega
  · obtain ⟨z0, z1, z2⟩ := x1
    have ee : ∀ x, x < 14 → hi' x = hi x := fun x hx => F x (fun g => by unfold Prl at g; omega)
    exact ⟨by rw [ee pl (by omega)]; exact z0, z1, fun i hi9 => by rw [ee (pl + 4) (by omega)]; exact z2 i hi9⟩
  · obtain ⟨z0, z1, z2⟩ := x2
    have ee : ∀ x, x < 14 → hi' x = hi x := fun x hx => F x (fun g => by unfold Prl at g; omega)
    exact ⟨by rw [ee pl (by omega)]; exact z0, z1, fun i hi9 => by rw [ee (pl + 5) (by omega)]; exact z2 i hi9⟩
  · unfold Prl at g
    omega
end
