section
variable {nc nz : Nat} {f g : Nat → Nat → Nat → Int}
/-- all the stones -/
def tot (f : Nat → Nat → Nat → Int) : Int := sumTo 12 (wP f 6)
theorem tot_le (h : ∀ c z k, c < 12 → z < 6 → k < 3 → g c z k ≤ f c z k) : tot g ≤ tot f := sumTo_le (fun c hc => sumTo_le (fun z hz => sumTo_le (fun k hk => h c z k hc hz hk)))
theorem tot_cg (h : ∀ c z k, c < 12 → z < 6 → k < 3 → g c z k = f c z k) : tot g = tot f := sumTo_congr (fun c hc => sumTo_congr (fun z hz => sumTo_congr (fun k hk => h c z k hc hz hk)))
theorem tot_add : tot (fun c z k => f c z k + g c z k) = tot f + tot g := by
  unfold tot
  rw [← sumTo_add]
  refine sumTo_congr (fun c _ => ?_)
  unfold wP
  rw [← sumTo_add]
  exact sumTo_congr (fun z _ => sumTo_add)
theorem tot_one {c z k : Nat} {v : Int} (hc : c < 12) (hz : z < 6) (hk : k < 3) : tot (fun c' z' k' => if c' = c ∧ z' = z ∧ k' = k then v else 0) = v := by
  show sumTo 12 (fun c1 => sumTo 6 (fun z1 => sumTo 3 (fun k1 => if c1 = c ∧ z1 = z ∧ k1 = k then v else 0))) = v
  rw [sumTo_one hc (fun i _ hi => sumTo_zero (fun z' _ => sumTo_zero (fun k' _ => if_neg (fun q => hi q.1)))), sumTo_one hz (fun i _ hi => sumTo_zero (fun k' _ => if_neg (fun q => hi q.2.1))), sumTo_one hk (fun i _ hi => if_neg (fun q => hi q.2.2)), if_pos ⟨rfl, rfl, rfl⟩]
theorem tot_z : tot (fun _ _ _ => 0) = 0 := by
  unfold tot wP aP
  exact sumTo_zero (fun c _ => sumTo_zero (fun z _ => sumTo_zero (fun k _ => rfl)))
theorem tot_sum {n : Nat} {h : Nat → Nat → Nat → Nat → Int} : tot (fun c z k => sumTo n (fun i => h i c z k)) = sumTo n (fun i => tot (h i)) := by
  induction n with
  | zero => exact tot_z
  | succ n ih =>
    rw [sumTo_s, ← ih, ← tot_add]
    rfl
theorem tot_ite {P : Prop} [Decidable P] {c z k : Nat} {v : Int} (hc : P → c < 12) (hz : z < 6) (hk : k < 3) : tot (fun c' z' k' => if P ∧ c' = c ∧ z' = z ∧ k' = k then v else 0) = if P then v else 0 := by
  by_cases p : P
  · have e : (fun c' z' k' : Nat => if P ∧ c' = c ∧ z' = z ∧ k' = k then v else 0) = (fun c' z' k' => if c' = c ∧ z' = z ∧ k' = k then v else 0) := by
      funext c' z' k'
      simp [p]
    rw [if_pos p, e, tot_one (hc p) hz hk]
  · have e : (fun c' z' k' : Nat => if P ∧ c' = c ∧ z' = z ∧ k' = k then v else 0) = (fun _ _ _ => 0) := by
      funext c' z' k'
      simp [p]
    rw [if_neg p, e, tot_z]
theorem tot_haF {c e z k : Nat} {t : Int} (hc : c < 12) (hnc : nc ≤ 12) (hz : z < 6) (hk : k < 3) (ht : 0 ≤ t) : tot (haF g nc c e z k t) ≤ tot g := by
  have e1 : tot (haF g nc c e z k t) = tot (fun c' z' k' => (g c' z' k' + (if c' = c ∧ z' = z ∧ k' = k then -t else 0)) + (if e < nc ∧ c' = e ∧ z' = z ∧ k' = k then t else 0)) := by
    refine tot_cg (fun c' z' k' _ _ _ => ?_)
    unfold haF
    by_cases j : c' = c ∧ z' = z ∧ k' = k
    · obtain ⟨g1, g2, g3⟩ := j
      subst g1 g2 g3
      simp
      omega
    · rw [if_neg j, if_neg j]; omega
  rw [e1, tot_add, tot_add, tot_one hc hz hk, tot_ite (fun q => by omega) hz hk]
  split <;> omega
theorem haP_B {c e : Nat} {n : Int} (hn : 0 ≤ n) (hce : c ≠ e) (hc : c < nc) (he : e ≤ nc) (hnc : nc ≤ 12) (hnz : nz ≤ 6) (hB : fB nc nz f) : ∀ m, m ≤ nz * 3 → fB nc nz (haP nc nz c e n f m).1 ∧ tot (haP nc nz c e n f m).1 ≤ tot f ∧ 0 ≤ (haP nc nz c e n f m).2.2 ∧ (haP nc nz c e n f m).2.2 ≤ n - (haP nc nz c e n f m).2.1 := by
  intro m
  induction m with
  | zero => exact fun _ => ⟨hB, Int.le_refl _, Int.le_refl _, by show (0 : Int) ≤ n - n; omega⟩
  | succ m ih =>
    intro hm
    obtain ⟨i1, i2, i3, i4⟩ := ih (by omega)
    obtain ⟨⟨m0, m1⟩, m2⟩ := haP_r (nc := nc) (nz := nz) hn hce hB.1 m
    rw [haP_s]
    generalize haP nc nz c e n f m = q at *
    obtain ⟨z, hz⟩ : ∃ z, z = nz - 1 - m / 3 := ⟨_, rfl⟩
    obtain ⟨k, hk⟩ : ∃ k, k = m % 3 := ⟨_, rfl⟩
    rw [← hz, ← hk]
    have t1 : 0 ≤ haT q c z k ∧ haT q c z k ≤ q.2.1 ∧ haT q c z k ≤ q.1 c z k := by
      have := m2 z k
      unfold haT; split <;> omega
    generalize haT q c z k = t at *
    have tt := tot_haF (g := q.1) (nc := nc) (c := c) (e := e) (z := z) (k := k) (t := t) (by omega) hnc (by omega) (by omega) t1.1
    refine ⟨⟨fun c' z' k' => ?_, fun c' z' k' h => ?_, fun c' z' k' h => ?_, Int.le_trans tt i1.2.2.2⟩, Int.le_trans tt i2, ?_, ?_⟩
    · have := i1.1 c' z' k'
      show 0 ≤ haF q.1 nc c e z k t c' z' k'
      unfold haF
      split <;> split <;> omega
    · show haF q.1 nc c e z k t c' z' k' = 0
      unfold haF
      rw [if_neg (fun q => by omega), if_neg (fun q => by omega), i1.2.1 c' z' k' h]; rfl
    · show haF q.1 nc c e z k t c' z' k' = 0
      unfold haF
      rw [if_neg (fun q => by omega), if_neg (fun q => by omega), i1.2.2.1 c' z' k' h]; rfl
    · show 0 ≤ if e < nc then q.2.2 else q.2.2 + t
      split <;> omega
    · show (if e < nc then q.2.2 else q.2.2 + t) ≤ n - (q.2.1 - t)
      split <;> omega
/-- a plan's lorries: whence, whither, how many, every so many hours -/
def loH (pl nl nc : Nat) (lo : Nat → Nat × Nat × Int × Int) (hi : en_I) : Prop := hi pl 8 = iI nl ∧ nl ≤ 4 ∧ ∀ i, i < nl → hi (pl + 5) (4 * i) = iI (lo i).1 ∧ hi (pl + 5) (4 * i + 1) = iI (lo i).2.1 ∧ hi (pl + 5) (4 * i + 2) = iI (lo i).2.2.1 ∧ hi (pl + 5) (4 * i + 3) = iI (lo i).2.2.2 ∧ (lo i).1 < nc ∧ (lo i).2.1 ≤ nc ∧ (lo i).1 ≠ (lo i).2.1 ∧ (1 ≤ (lo i).2.2.1 ∧ (lo i).2.2.1 ≤ 999) ∧ 1 ≤ (lo i).2.2.2 ∧ (lo i).2.2.2 ≤ 99
def drP (nc nz : Nat) (lo : Nat → Nat × Nat × Int × Int) (h : Int) (f : Nat → Nat → Nat → Int) : Nat → (Nat → Nat → Nat → Int) × Int
  | 0 => (f, 0)
  | i + 1 => let q := drP nc nz lo h f i
    if h % (lo i).2.2.2 = 0 then ((haP nc nz (lo i).1 (lo i).2.1 (lo i).2.2.1 q.1 (nz * 3)).1, q.2 + (haP nc nz (lo i).1 (lo i).2.1 (lo i).2.2.1 q.1 (nz * 3)).2.2) else q
end
