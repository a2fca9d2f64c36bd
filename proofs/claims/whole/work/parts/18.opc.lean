section
variable {G : en_G} {Y Yc : en_Y} {d xc xs ci : Nat} {w w1 : en_Wd} {K : en_K} {k kt kf : en_Kont} {kx : en_KX} {ls r : List Value} {hi : en_I} {hl : en_L} {hr : en_F} {uc us : Nat}
def en_cs (r : List Value) : Nat := (r.map fun v => v.category).sum
theorem cs_nil : en_cs [] = 0 := rfl
theorem cs_i {x : Int32} : en_cs (.int x :: r) = 1 + en_cs r := by simp [en_cs, Value.category]
theorem cs_r {x : Nat} : en_cs (.ref x :: r) = 1 + en_cs r := by simp [en_cs, Value.category]
theorem cs_l {x : Int64} : en_cs (.long x :: r) = 2 + en_cs r := by simp [en_cs, Value.category]
theorem oc_ins0 : o_ins G d xc xs Yc 0 w w1 k kx ls (r) hi hl hr uc us = (en_cs r ≤ 8 ∧ xc ≤ uc ∧ xs ≤ us ∧ en_Call G d xc xs Yc w w1 [] hi hl hr (en_kk k kx ls r (uc - xc) (us - xs))) := propext ⟨fun h => h.2, fun h => ⟨by simp, h⟩⟩
theorem oc_inv0 {a : Nat} : o_inv G d xc xs Yc 0 ci w w1 k kx ls (.ref a :: r) hi hl hr uc us = (((en_SH a).1 = ci ∧ a < w.1) ∧ en_cs r ≤ 8 ∧ xc ≤ uc ∧ xs ≤ us ∧ en_Call G d xc xs Yc w w1 [.ref a] hi hl hr (en_kk k kx ls r (uc - xc) (us - xs))) := rfl
theorem oc_invS0 {a : Nat} : o_invS G d Yc 0 w k ls (.ref a :: r) hi hl hr uc us = ((∃ j : Nat, a = 1000000 + j ∧ j < en_strs.length) ∧ en_cs r ≤ 8 ∧ en_Call G d 0 0 Yc w w [.ref a] hi hl hr (en_kk k x_no ls r uc us)) := rfl
theorem oc_ini0 {a : Nat} : o_ini G d xc xs Yc 0 w w1 k ls (.ref a :: r) hi hl hr uc us = (a < 1000000 ∧ en_cs r ≤ 8 ∧ xc ≤ uc ∧ xs ≤ us ∧ en_Call G d xc xs Yc w w1 [.ref a] hi hl hr (en_kk k x_no ls r (uc - xc) (us - xs))) := rfl
theorem oc_ins1 {a0 : Value} : o_ins G d xc xs Yc 1 w w1 k kx ls (a0 :: r) hi hl hr uc us = (en_cs r ≤ 8 ∧ xc ≤ uc ∧ xs ≤ us ∧ en_Call G d xc xs Yc w w1 [a0] hi hl hr (en_kk k kx ls r (uc - xc) (us - xs))) := propext ⟨fun h => h.2, fun h => ⟨by simp, h⟩⟩
theorem oc_inv1 {a : Nat} {a0 : Value} : o_inv G d xc xs Yc 1 ci w w1 k kx ls (a0 :: .ref a :: r) hi hl hr uc us = (((en_SH a).1 = ci ∧ a < w.1) ∧ en_cs r ≤ 8 ∧ xc ≤ uc ∧ xs ≤ us ∧ en_Call G d xc xs Yc w w1 [.ref a, a0] hi hl hr (en_kk k kx ls r (uc - xc) (us - xs))) := rfl
theorem oc_invS1 {a : Nat} {a0 : Value} : o_invS G d Yc 1 w k ls (a0 :: .ref a :: r) hi hl hr uc us = ((∃ j : Nat, a = 1000000 + j ∧ j < en_strs.length) ∧ en_cs r ≤ 8 ∧ en_Call G d 0 0 Yc w w [.ref a, a0] hi hl hr (en_kk k x_no ls r uc us)) := rfl
theorem oc_ini1 {a : Nat} {a0 : Value} : o_ini G d xc xs Yc 1 w w1 k ls (a0 :: .ref a :: r) hi hl hr uc us = (a < 1000000 ∧ en_cs r ≤ 8 ∧ xc ≤ uc ∧ xs ≤ us ∧ en_Call G d xc xs Yc w w1 [.ref a, a0] hi hl hr (en_kk k x_no ls r (uc - xc) (us - xs))) := rfl
theorem oc_ins2 {a0 a1 : Value} : o_ins G d xc xs Yc 2 w w1 k kx ls (a0 :: a1 :: r) hi hl hr uc us = (en_cs r ≤ 8 ∧ xc ≤ uc ∧ xs ≤ us ∧ en_Call G d xc xs Yc w w1 [a1, a0] hi hl hr (en_kk k kx ls r (uc - xc) (us - xs))) := propext ⟨fun h => h.2, fun h => ⟨by simp, h⟩⟩
theorem oc_inv2 {a : Nat} {a0 a1 : Value} : o_inv G d xc xs Yc 2 ci w w1 k kx ls (a0 :: a1 :: .ref a :: r) hi hl hr uc us = (((en_SH a).1 = ci ∧ a < w.1) ∧ en_cs r ≤ 8 ∧ xc ≤ uc ∧ xs ≤ us ∧ en_Call G d xc xs Yc w w1 [.ref a, a1, a0] hi hl hr (en_kk k kx ls r (uc - xc) (us - xs))) := rfl
theorem oc_ini2 {a : Nat} {a0 a1 : Value} : o_ini G d xc xs Yc 2 w w1 k ls (a0 :: a1 :: .ref a :: r) hi hl hr uc us = (a < 1000000 ∧ en_cs r ≤ 8 ∧ xc ≤ uc ∧ xs ≤ us ∧ en_Call G d xc xs Yc w w1 [.ref a, a1, a0] hi hl hr (en_kk k x_no ls r (uc - xc) (us - xs))) := rfl
theorem oc_ins3 {a0 a1 a2 : Value} : o_ins G d xc xs Yc 3 w w1 k kx ls (a0 :: a1 :: a2 :: r) hi hl hr uc us = (en_cs r ≤ 8 ∧ xc ≤ uc ∧ xs ≤ us ∧ en_Call G d xc xs Yc w w1 [a2, a1, a0] hi hl hr (en_kk k kx ls r (uc - xc) (us - xs))) := propext ⟨fun h => h.2, fun h => ⟨by simp, h⟩⟩
theorem oc_inv3 {a : Nat} {a0 a1 a2 : Value} : o_inv G d xc xs Yc 3 ci w w1 k kx ls (a0 :: a1 :: a2 :: .ref a :: r) hi hl hr uc us = (((en_SH a).1 = ci ∧ a < w.1) ∧ en_cs r ≤ 8 ∧ xc ≤ uc ∧ xs ≤ us ∧ en_Call G d xc xs Yc w w1 [.ref a, a2, a1, a0] hi hl hr (en_kk k kx ls r (uc - xc) (us - xs))) := rfl
theorem oc_ini3 {a : Nat} {a0 a1 a2 : Value} : o_ini G d xc xs Yc 3 w w1 k ls (a0 :: a1 :: a2 :: .ref a :: r) hi hl hr uc us = (a < 1000000 ∧ en_cs r ≤ 8 ∧ xc ≤ uc ∧ xs ≤ us ∧ en_Call G d xc xs Yc w w1 [.ref a, a2, a1, a0] hi hl hr (en_kk k x_no ls r (uc - xc) (us - xs))) := rfl
theorem oc_ins4 {a0 a1 a2 a3 : Value} : o_ins G d xc xs Yc 4 w w1 k kx ls (a0 :: a1 :: a2 :: a3 :: r) hi hl hr uc us = (en_cs r ≤ 8 ∧ xc ≤ uc ∧ xs ≤ us ∧ en_Call G d xc xs Yc w w1 [a3, a2, a1, a0] hi hl hr (en_kk k kx ls r (uc - xc) (us - xs))) := propext ⟨fun h => h.2, fun h => ⟨by simp, h⟩⟩
theorem oc_inv4 {a : Nat} {a0 a1 a2 a3 : Value} : o_inv G d xc xs Yc 4 ci w w1 k kx ls (a0 :: a1 :: a2 :: a3 :: .ref a :: r) hi hl hr uc us = (((en_SH a).1 = ci ∧ a < w.1) ∧ en_cs r ≤ 8 ∧ xc ≤ uc ∧ xs ≤ us ∧ en_Call G d xc xs Yc w w1 [.ref a, a3, a2, a1, a0] hi hl hr (en_kk k kx ls r (uc - xc) (us - xs))) := rfl
theorem oc_ins5 {a0 a1 a2 a3 a4 : Value} : o_ins G d xc xs Yc 5 w w1 k kx ls (a0 :: a1 :: a2 :: a3 :: a4 :: r) hi hl hr uc us = (en_cs r ≤ 8 ∧ xc ≤ uc ∧ xs ≤ us ∧ en_Call G d xc xs Yc w w1 [a4, a3, a2, a1, a0] hi hl hr (en_kk k kx ls r (uc - xc) (us - xs))) := propext ⟨fun h => h.2, fun h => ⟨by simp, h⟩⟩
theorem oc_inv5 {a : Nat} {a0 a1 a2 a3 a4 : Value} : o_inv G d xc xs Yc 5 ci w w1 k kx ls (a0 :: a1 :: a2 :: a3 :: a4 :: .ref a :: r) hi hl hr uc us = (((en_SH a).1 = ci ∧ a < w.1) ∧ en_cs r ≤ 8 ∧ xc ≤ uc ∧ xs ≤ us ∧ en_Call G d xc xs Yc w w1 [.ref a, a4, a3, a2, a1, a0] hi hl hr (en_kk k kx ls r (uc - xc) (us - xs))) := rfl
theorem oc_ins6 {a0 a1 a2 a3 a4 a5 : Value} : o_ins G d xc xs Yc 6 w w1 k kx ls (a0 :: a1 :: a2 :: a3 :: a4 :: a5 :: r) hi hl hr uc us = (en_cs r ≤ 8 ∧ xc ≤ uc ∧ xs ≤ us ∧ en_Call G d xc xs Yc w w1 [a5, a4, a3, a2, a1, a0] hi hl hr (en_kk k kx ls r (uc - xc) (us - xs))) := propext ⟨fun h => h.2, fun h => ⟨by simp, h⟩⟩
theorem oc_inv6 {a : Nat} {a0 a1 a2 a3 a4 a5 : Value} : o_inv G d xc xs Yc 6 ci w w1 k kx ls (a0 :: a1 :: a2 :: a3 :: a4 :: a5 :: .ref a :: r) hi hl hr uc us = (((en_SH a).1 = ci ∧ a < w.1) ∧ en_cs r ≤ 8 ∧ xc ≤ uc ∧ xs ≤ us ∧ en_Call G d xc xs Yc w w1 [.ref a, a5, a4, a3, a2, a1, a0] hi hl hr (en_kk k kx ls r (uc - xc) (us - xs))) := rfl
theorem oc_ins7 {a0 a1 a2 a3 a4 a5 a6 : Value} : o_ins G d xc xs Yc 7 w w1 k kx ls (a0 :: a1 :: a2 :: a3 :: a4 :: a5 :: a6 :: r) hi hl hr uc us = (en_cs r ≤ 8 ∧ xc ≤ uc ∧ xs ≤ us ∧ en_Call G d xc xs Yc w w1 [a6, a5, a4, a3, a2, a1, a0] hi hl hr (en_kk k kx ls r (uc - xc) (us - xs))) := propext ⟨fun h => h.2, fun h => ⟨by simp, h⟩⟩
theorem oc_inv7 {a : Nat} {a0 a1 a2 a3 a4 a5 a6 : Value} : o_inv G d xc xs Yc 7 ci w w1 k kx ls (a0 :: a1 :: a2 :: a3 :: a4 :: a5 :: a6 :: .ref a :: r) hi hl hr uc us = (((en_SH a).1 = ci ∧ a < w.1) ∧ en_cs r ≤ 8 ∧ xc ≤ uc ∧ xs ≤ us ∧ en_Call G d xc xs Yc w w1 [.ref a, a6, a5, a4, a3, a2, a1, a0] hi hl hr (en_kk k kx ls r (uc - xc) (us - xs))) := rfl
theorem oc_ins8 {a0 a1 a2 a3 a4 a5 a6 a7 : Value} : o_ins G d xc xs Yc 8 w w1 k kx ls (a0 :: a1 :: a2 :: a3 :: a4 :: a5 :: a6 :: a7 :: r) hi hl hr uc us = (en_cs r ≤ 8 ∧ xc ≤ uc ∧ xs ≤ us ∧ en_Call G d xc xs Yc w w1 [a7, a6, a5, a4, a3, a2, a1, a0] hi hl hr (en_kk k kx ls r (uc - xc) (us - xs))) := propext ⟨fun h => h.2, fun h => ⟨by simp, h⟩⟩
theorem oc_inv8 {a : Nat} {a0 a1 a2 a3 a4 a5 a6 a7 : Value} : o_inv G d xc xs Yc 8 ci w w1 k kx ls (a0 :: a1 :: a2 :: a3 :: a4 :: a5 :: a6 :: a7 :: .ref a :: r) hi hl hr uc us = (((en_SH a).1 = ci ∧ a < w.1) ∧ en_cs r ≤ 8 ∧ xc ≤ uc ∧ xs ≤ us ∧ en_Call G d xc xs Yc w w1 [.ref a, a7, a6, a5, a4, a3, a2, a1, a0] hi hl hr (en_kk k kx ls r (uc - xc) (us - xs))) := rfl
theorem oc_ins9 {a0 a1 a2 a3 a4 a5 a6 a7 a8 : Value} : o_ins G d xc xs Yc 9 w w1 k kx ls (a0 :: a1 :: a2 :: a3 :: a4 :: a5 :: a6 :: a7 :: a8 :: r) hi hl hr uc us = (en_cs r ≤ 8 ∧ xc ≤ uc ∧ xs ≤ us ∧ en_Call G d xc xs Yc w w1 [a8, a7, a6, a5, a4, a3, a2, a1, a0] hi hl hr (en_kk k kx ls r (uc - xc) (us - xs))) := propext ⟨fun h => h.2, fun h => ⟨by simp, h⟩⟩
theorem oc_inv9 {a : Nat} {a0 a1 a2 a3 a4 a5 a6 a7 a8 : Value} : o_inv G d xc xs Yc 9 ci w w1 k kx ls (a0 :: a1 :: a2 :: a3 :: a4 :: a5 :: a6 :: a7 :: a8 :: .ref a :: r) hi hl hr uc us = (((en_SH a).1 = ci ∧ a < w.1) ∧ en_cs r ≤ 8 ∧ xc ≤ uc ∧ xs ≤ us ∧ en_Call G d xc xs Yc w w1 [.ref a, a8, a7, a6, a5, a4, a3, a2, a1, a0] hi hl hr (en_kk k kx ls r (uc - xc) (us - xs))) := rfl
theorem oe_kv {pc : Nat} {st : List Value} : kv G Y d w w1 K pc ls st hi hl hr uc us = en_V G Y d w w1 K pc ls st hi hl hr uc us := rfl
theorem sv_some {v : Value} : (some v).toList ++ r = v :: r := rfl
theorem sv_none : (none : Option Value).toList ++ r = r := rfl
theorem sv_eq {P : Prop} : (P ∧ True) = P := by simp
end
def en_opc := And.intro @cs_nil (And.intro @cs_i (And.intro @cs_r (And.intro @cs_l (And.intro @oc_ins0 (And.intro @oc_inv0 (And.intro @oc_invS0 (And.intro @oc_ini0 (And.intro @oc_ins1 (And.intro @oc_inv1 (And.intro @oc_invS1 (And.intro @oc_ini1 (And.intro @oc_ins2 (And.intro @oc_inv2 (And.intro @oc_ini2 (And.intro @oc_ins3 (And.intro @oc_inv3 (And.intro @oc_ini3 (And.intro @oc_ins4 (And.intro @oc_inv4 (And.intro @oc_ins5 (And.intro @oc_inv5 (And.intro @oc_ins6 (And.intro @oc_inv6 (And.intro @oc_ins7 (And.intro @oc_inv7 (And.intro @oc_ins8 (And.intro @oc_inv8 (And.intro @oc_ins9 (And.intro @oc_inv9 (And.intro @oe_kv (And.intro @oe_copy (And.intro @oe_ldcS (And.intro @oe_throw (And.intro @oe_getSV (And.intro @oe_getSC (And.intro @oe_alenS (And.intro @oe_baldS (And.intro @oe_stC (And.intro @oe_stF (And.intro @oe_scl (And.intro @oe_scr (And.intro @oe_new (And.intro @oe_newa (And.intro @oe_aastore (And.intro @oe_obj (And.intro @sv_some (@sv_none)))))))))))))))))))))))))))))))))))))))))))))))
/-- a loop: backwards from its end -/
theorem lp {P : Nat → Prop} (N : Nat) (h0 : P N) (hs : ∀ i, i < N → P (i + 1) → P i) : ∀ i, i ≤ N → P i := by
  intro i hi
  obtain ⟨m, hm⟩ : ∃ m, N = i + m := ⟨N - i, by omega⟩
  induction m generalizing i with
  | zero => rw [show i = N by omega]; exact h0
  | succ m ih => exact hs i (by omega) (ih (i + 1) (by omega) (by omega))
theorem iI_eq_of {a b : Int} (h : a = b) : iI a = iI b := by rw [h]
theorem b01 {x : Int32} (h : x = iI 0 ∨ x = iI 1) : narrow .boolean (.int x) = .int x := by
  rcases h with rfl | rfl <;> rfl
theorem b0 : narrow .boolean (.int (iI 0)) = .int (iI 0) := rfl
theorem b1 : narrow .boolean (.int (iI 1)) = .int (iI 1) := rfl
theorem iI_bt (b : Prop) [Decidable b] : (if b then iI 1 else iI 0) = iI (if b then 1 else 0) := by by_cases h : b <;> simp [h]
/-- sums -/
def sumTo : Nat → (Nat → Int) → Int
  | 0, _ => 0
  | n + 1, f => sumTo n f + f n
theorem sumTo_z {f : Nat → Int} : sumTo 0 f = 0 := rfl
theorem sumTo_s {n : Nat} {f : Nat → Int} : sumTo (n + 1) f = sumTo n f + f n := rfl
theorem sumTo_congr {n : Nat} {f g : Nat → Int} (h : ∀ i, i < n → f i = g i) : sumTo n f = sumTo n g := by
  induction n with
  | zero => rfl
  | succ n ih => rw [sumTo_s, sumTo_s, ih (fun i hi => h i (by omega)), h n (by omega)]
theorem sumTo_le {n : Nat} {f g : Nat → Int} (h : ∀ i, i < n → f i ≤ g i) : sumTo n f ≤ sumTo n g := by
  induction n with
  | zero => exact Int.le_refl _
  | succ n ih =>
    rw [sumTo_s, sumTo_s]
    have := ih (fun i hi => h i (by omega))
    have := h n (by omega)
    omega
theorem sumTo_zero {n : Nat} {f : Nat → Int} (h : ∀ i, i < n → f i = 0) : sumTo n f = 0 := by
  induction n with
  | zero => rfl
  | succ n ih => rw [sumTo_s, ih (fun i hi => h i (by omega)), h n (by omega)]; rfl
theorem sumTo_nn {n : Nat} {f : Nat → Int} (h : ∀ i, i < n → 0 ≤ f i) : 0 ≤ sumTo n f := by
  have := sumTo_le (f := fun _ => 0) h
  rw [sumTo_zero (fun _ _ => rfl)] at this
  exact this
theorem sumTo_mono {n m : Nat} {f : Nat → Int} (hnm : n ≤ m) (h : ∀ i, i < m → 0 ≤ f i) : sumTo n f ≤ sumTo m f := by
  induction m with
  | zero => rw [show n = 0 by omega]; exact Int.le_refl _
  | succ m ih =>
    by_cases e : n = m + 1
    · subst e; exact Int.le_refl _
    · rw [sumTo_s]
      have := ih (by omega) (fun i hi => h i (by omega))
      have := h m (by omega)
      omega
theorem sumTo_part {n m : Nat} {f : Nat → Int} (hnm : n ≤ m) (h : ∀ i, n ≤ i → i < m → f i = 0) : sumTo m f = sumTo n f := by
  induction m with
  | zero => rw [show n = 0 by omega]
  | succ m ih =>
    by_cases e : n = m + 1
    · subst e; rfl
    · rw [sumTo_s, ih (by omega) (fun i h1 h2 => h i h1 (by omega)), h m (by omega) (by omega)]
      omega
theorem sumTo_add {n : Nat} {f g : Nat → Int} : sumTo n (fun i => f i + g i) = sumTo n f + sumTo n g := by
  induction n with
  | zero => rfl
  | succ n ih => rw [sumTo_s, sumTo_s, sumTo_s, ih]; omega
theorem sumTo_blk {n m : Nat} {f : Nat → Int} : sumTo (n * m) f = sumTo n (fun i => sumTo m (fun j => f (m * i + j))) := by
  induction n with
  | zero => rw [Nat.zero_mul]; rfl
  | succ n ih =>
    rw [sumTo_s, ← ih, show (n + 1) * m = n * m + m by rw [Nat.succ_mul], Nat.mul_comm m n]
    generalize n * m = q
    have : ∀ k, sumTo (q + k) f = sumTo q f + sumTo k (fun j => f (q + j)) := by
      intro k
      induction k with
      | zero => exact (Int.add_zero _).symm
      | succ k ih => rw [show q + (k + 1) = (q + k) + 1 by omega, sumTo_s, ih, sumTo_s]; omega
    exact this m
theorem sumTo_one {n a : Nat} {f : Nat → Int} (ha : a < n) (h : ∀ i, i < n → i ≠ a → f i = 0) : sumTo n f = f a := by
  induction n with
  | zero => omega
  | succ n ih =>
    rw [sumTo_s]
    by_cases e : a = n
    · subst e
      rw [sumTo_zero (fun i hi => h i (by omega) (by omega))]
      omega
    · rw [ih (by omega) (fun i h1 h2 => h i (by omega) h2), h n (by omega) (by omega)]
      omega
theorem sumTo_mul {n : Nat} {f : Nat → Int} {c : Int} : sumTo n (fun i => c * f i) = c * sumTo n f := by
  induction n with
  | zero => exact (Int.mul_zero c).symm
  | succ n ih => rw [sumTo_s, sumTo_s, ih, Int.mul_add]
theorem sumTo_at {n a : Nat} {f : Nat → Int} (ha : a < n) (h : ∀ i, i < n → 0 ≤ f i) : f a ≤ sumTo n f := by
  induction n with
  | zero => omega
  | succ n ih =>
    rw [sumTo_s]
    have h0 := sumTo_nn (n := n) (fun i hi => h i (by omega))
    by_cases e : a = n
    · subst e; omega
    · have := ih (by omega) (fun i hi => h i (by omega))
      have := h n (by omega)
      omega
