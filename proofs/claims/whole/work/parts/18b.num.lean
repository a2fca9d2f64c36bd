/-! numbers: what the machine's ints and longs make of the whole numbers behind them -/
theorem jL_iI {a : Int} (h1 : -2147483648 ≤ a) (h2 : a < 2147483648) : (iI a).toInt64 = jL a := by
  apply Int64.toInt.inj
  rw [Int32.toInt_toInt64, iI_toInt h1 h2, jL_toInt (by omega) (by omega)]
theorem iI_jL {a : Int} : (jL a).toInt32 = iI a := by
  unfold jL iI
  exact Int64.toInt32_ofInt ..
theorem iI_div {a b : Int} (h1 : 0 ≤ a) (h2 : a < 2147483648) (h3 : 0 < b) (h4 : b < 2147483648) : iI a / iI b = iI (a / b) := by
  apply Int32.toInt.inj
  have hq : 0 ≤ a / b := Int.ediv_nonneg h1 (by omega)
  have hq2 : a / b ≤ a := Int.ediv_le_self _ h1
  rw [Int32.toInt_div_of_ne_right, iI_toInt (by omega) h2, iI_toInt (by omega) h4, iI_toInt (by omega) (by omega), Int.tdiv_eq_ediv_of_nonneg h1]
  intro e
  have := congrArg Int32.toInt e
  rw [iI_toInt (by omega) h4] at this
  rw [this] at h3
  exact absurd h3 (by decide)
theorem jL_div {a b : Int} (h1 : 0 ≤ a) (h2 : a < 9223372036854775808) (h3 : 0 < b) (h4 : b < 9223372036854775808) : jL a / jL b = jL (a / b) := by
  apply Int64.toInt.inj
  have hq : 0 ≤ a / b := Int.ediv_nonneg h1 (by omega)
  have hq2 : a / b ≤ a := Int.ediv_le_self _ h1
  rw [Int64.toInt_div_of_ne_right, jL_toInt (by omega) h2, jL_toInt (by omega) h4, jL_toInt (by omega) (by omega), Int.tdiv_eq_ediv_of_nonneg h1]
  intro e
  have := congrArg Int64.toInt e
  rw [jL_toInt (by omega) h4] at this
  rw [this] at h3
  exact absurd h3 (by decide)
theorem jL_lt {a b : Int} (h1 : -9223372036854775808 ≤ a) (h2 : a < 9223372036854775808) (h3 : -9223372036854775808 ≤ b) (h4 : b < 9223372036854775808) : (jL a < jL b) = (a < b) := by
  rw [Int64.lt_iff_toInt_lt, jL_toInt h1 h2, jL_toInt h3 h4]
theorem jL_eq {a b : Int} (h1 : -9223372036854775808 ≤ a) (h2 : a < 9223372036854775808) (h3 : -9223372036854775808 ≤ b) (h4 : b < 9223372036854775808) : (jL a = jL b) = (a = b) := by
  refine propext ⟨fun h => ?_, fun h => by rw [h]⟩
  have := congrArg Int64.toInt h
  rwa [jL_toInt h1 h2, jL_toInt h3 h4] at this
theorem jL_eq0 {a : Int} (h1 : -9223372036854775808 ≤ a) (h2 : a < 9223372036854775808) : (jL a = 0) = (a = 0) := jL_eq (b := 0) h1 h2 (by decide) (by decide)
theorem iI_eq0 {a : Int} (h1 : -2147483648 ≤ a) (h2 : a < 2147483648) : (iI a = 0) = (a = 0) := iI_eq (b := 0) h1 h2 (by decide) (by decide)
theorem iI_lt0 {a : Int} (h1 : -2147483648 ≤ a) (h2 : a < 2147483648) : (iI a < 0) = (a < 0) := iI_lt (b := 0) h1 h2 (by decide) (by decide)
theorem iI_0le {a : Int} (h1 : -2147483648 ≤ a) (h2 : a < 2147483648) : (0 ≤ iI a) = (0 ≤ a) := iI_le (a := 0) (by decide) (by decide) h1 h2
theorem iI_le0 {a : Int} (h1 : -2147483648 ≤ a) (h2 : a < 2147483648) : (iI a ≤ 0) = (a ≤ 0) := iI_le (b := 0) h1 h2 (by decide) (by decide)
theorem iI_0lt {a : Int} (h1 : -2147483648 ≤ a) (h2 : a < 2147483648) : (0 < iI a) = (0 < a) := iI_lt (a := 0) (by decide) (by decide) h1 h2
def iRg (a : Int) : Prop := -2147483648 ≤ a ∧ a < 2147483648
def jRg (a : Int) : Prop := -9223372036854775808 ≤ a ∧ a < 9223372036854775808
theorem lc_cmp {a b : Int} (h1 : -9223372036854775808 ≤ a) (h2 : a < 9223372036854775808) (h3 : -9223372036854775808 ≤ b) (h4 : b < 9223372036854775808) : lg_cmp (jL a) (jL b) = if b < a then 1 else if a = b then 0 else -1 := by
  unfold lg_cmp
  simp only [jL_lt h3 h4 h1 h2, jL_eq h1 h2 h3 h4]
theorem lc_eq {a b : Int} (h1 : -9223372036854775808 ≤ a) (h2 : a < 9223372036854775808) (h3 : -9223372036854775808 ≤ b) (h4 : b < 9223372036854775808) : (lg_cmp (jL a) (jL b) = 0) = (a = b) := by
  rw [lc_cmp h1 h2 h3 h4]
  refine propext ?_
  by_cases e : b < a
  · rw [if_pos e]; exact ⟨fun h => absurd h (by decide), fun h => by omega⟩
  · rw [if_neg e]
    by_cases e2 : a = b
    · rw [if_pos e2]; exact ⟨fun _ => e2, fun _ => rfl⟩
    · rw [if_neg e2]; exact ⟨fun h => absurd h (by decide), fun h => absurd h e2⟩
theorem lc_lt {a b : Int} (h1 : -9223372036854775808 ≤ a) (h2 : a < 9223372036854775808) (h3 : -9223372036854775808 ≤ b) (h4 : b < 9223372036854775808) : (lg_cmp (jL a) (jL b) < 0) = (a < b) := by
  rw [lc_cmp h1 h2 h3 h4]
  refine propext ?_
  by_cases e : b < a
  · rw [if_pos e]; exact ⟨fun h => absurd h (by decide), fun h => by omega⟩
  · rw [if_neg e]
    by_cases e2 : a = b
    · rw [if_pos e2]; exact ⟨fun h => absurd h (by decide), fun h => by omega⟩
    · rw [if_neg e2]; exact ⟨fun _ => by omega, fun _ => by decide⟩
theorem lc_le {a b : Int} (h1 : -9223372036854775808 ≤ a) (h2 : a < 9223372036854775808) (h3 : -9223372036854775808 ≤ b) (h4 : b < 9223372036854775808) : (lg_cmp (jL a) (jL b) ≤ 0) = (a ≤ b) := by
  have q := lc_lt h1 h2 h3 h4
  have q2 := lc_eq h1 h2 h3 h4
  refine propext ⟨fun h => ?_, fun h => ?_⟩
  · rcases Int32.lt_or_eq_of_le h with g | g
    · rw [q] at g; omega
    · rw [q2] at g; omega
  · rcases Int.lt_or_eq_of_le h with g | g
    · exact Int32.le_of_lt (by rw [q]; exact g)
    · rw [← q2] at g; rw [g]; decide
theorem lc_ge {a b : Int} (h1 : -9223372036854775808 ≤ a) (h2 : a < 9223372036854775808) (h3 : -9223372036854775808 ≤ b) (h4 : b < 9223372036854775808) : (0 ≤ lg_cmp (jL a) (jL b)) = (b ≤ a) := by
  have q := lc_lt h1 h2 h3 h4
  rw [← Int32.not_lt, q]
  exact propext ⟨fun h => by omega, fun h => by omega⟩
theorem lc_gt {a b : Int} (h1 : -9223372036854775808 ≤ a) (h2 : a < 9223372036854775808) (h3 : -9223372036854775808 ≤ b) (h4 : b < 9223372036854775808) : (0 < lg_cmp (jL a) (jL b)) = (b < a) := by
  have q := lc_le h1 h2 h3 h4
  rw [← Int32.not_le, q]
  exact propext ⟨fun h => by omega, fun h => by omega⟩
