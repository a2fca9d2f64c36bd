def bt (x : Int32) (i : Nat) : Bool := x.toBitVec.getLsbD i
theorem b_ext {x y : Int32} (h : ∀ i, i < 32 → bt x i = bt y i) : x = y := Int32.toBitVec_inj.mp (BitVec.eq_of_getLsbD_eq (fun i hi => h i hi))
theorem b_or (x y : Int32) (i : Nat) : bt (x ||| y) i = (bt x i || bt y i) := by unfold bt; rw [Int32.toBitVec_or, BitVec.getLsbD_or]
theorem b_and (x y : Int32) (i : Nat) : bt (x &&& y) i = (bt x i && bt y i) := by unfold bt; rw [Int32.toBitVec_and, BitVec.getLsbD_and]
theorem b_xor (x y : Int32) (i : Nat) : bt (x ^^^ y) i = (bt x i ^^ bt y i) := by unfold bt; rw [Int32.toBitVec_xor, BitVec.getLsbD_xor]
theorem b_big {x : Int32} {i : Nat} (h : 32 ≤ i) : bt x i = false := BitVec.getLsbD_of_ge _ _ h
theorem b_0 (i : Nat) : bt 0 i = false := BitVec.getLsbD_zero
theorem s_l : ∀ n, n < 32 → ((nI n &&& 31).toBitVec.smod 32).toNat = n := by decide +kernel
theorem s_u : ∀ n, n < 32 → (((nI n).toUInt32 &&& Int32.toUInt32 31).toBitVec % 32).toNat = n := by decide +kernel
theorem b_shl (n : Nat) (hn : n < 32) (x : Int32) {i : Nat} (hi : i < 32) : bt (x <<< (nI n &&& 31)) i = (decide (n ≤ i) && bt x (i - n)) := by
  unfold bt
  rw [Int32.toBitVec_shiftLeft]
  show (x.toBitVec <<< ((nI n &&& 31).toBitVec.smod 32).toNat).getLsbD i = _
  rw [s_l n hn, BitVec.getLsbD_shiftLeft]
  rcases Nat.lt_or_ge i n with h | h
  · simp [h, Nat.not_le.mpr h]
  · simp [hi, h, Nat.not_lt.mpr h]
theorem b_ushr (n : Nat) (hn : n < 32) (x : Int32) (i : Nat) : bt ((x.toUInt32 >>> ((nI n).toUInt32 &&& Int32.toUInt32 31)).toInt32) i = bt x (n + i) := by
  show (x.toUInt32 >>> ((nI n).toUInt32 &&& Int32.toUInt32 31)).toBitVec.getLsbD i = x.toUInt32.toBitVec.getLsbD (n + i)
  rw [UInt32.toBitVec_shiftRight]
  show (x.toUInt32.toBitVec >>> (((nI n).toUInt32 &&& Int32.toUInt32 31).toBitVec % 32).toNat).getLsbD i = _
  rw [s_u n hn, BitVec.getLsbD_ushiftRight]
theorem b_sshr (n : Nat) (hn : n < 32) (x : Int32) {i : Nat} (hi : i < 32) : bt (x >>> (nI n &&& 31)) i = if n + i < 32 then bt x (n + i) else bt x 31 := by
  unfold bt
  rw [Int32.toBitVec_shiftRight]
  show (x.toBitVec.sshiftRight ((nI n &&& 31).toBitVec.smod 32).toNat).getLsbD i = _
  rw [s_l n hn, BitVec.getLsbD_sshiftRight, BitVec.msb_eq_getLsbD_last]
  simp [hi]
theorem bt_i (b : Nat) {i : Nat} (hi : i < 32) : bt (iI (b : Int)) i = b.testBit i := by
  rw [iI_nat]
  show (BitVec.ofNat 32 b).getLsbD i = _
  rw [BitVec.getLsbD_ofNat]
  simp [hi]
theorem bt_0 : ∀ i, i < 32 → bt (iI 0) i = false := by decide +kernel
theorem bt_1 : ∀ i, i < 32 → bt (iI 1) i = decide (i = 0) := by decide +kernel
theorem bt_15 : ∀ i, i < 32 → bt (iI 32767) i = decide (i < 15) := by decide +kernel
theorem sh_bt {x : Int32} {c : Nat} (hc : c < 32) : x >>> (iI (c : Int) &&& 31) &&& iI 1 = if bt x c then iI 1 else iI 0 := by
  apply b_ext
  intro i hi
  rw [b_and, iI_nat c, b_sshr c hc _ hi, bt_1 i hi]
  by_cases e : i = 0
  · subst e
    rw [if_pos (by omega), Nat.add_zero]
    cases h : bt x c
    · simp [bt_0]
    · simp [bt_1]
  · have : bt (if bt x c then iI 1 else iI 0) i = false := by
      cases h : bt x c
      · simp [bt_0 i hi]
      · simp [bt_1 i hi, e]
    rw [this]; simp [e]
theorem sh_1 {b c : Nat} (hc : c < 32) (h : b.testBit c = true) : iI (b : Int) >>> (iI (c : Int) &&& 31) &&& iI 1 = iI 1 := by
  rw [sh_bt hc, bt_i b hc, h]; rfl
theorem sh_0 {b c : Nat} (hc : c < 32) (h : b.testBit c = false) : iI (b : Int) >>> (iI (c : Int) &&& 31) &&& iI 1 = iI 0 := by
  rw [sh_bt hc, bt_i b hc, h]; rfl
theorem shl_1 : ∀ c : Nat, c < 31 → iI 1 <<< (iI (c : Int) &&& 31) = iI ((2 ^ c : Nat) : Int) := by decide +kernel
theorem or_at (a b : Nat) : iI (a : Int) ||| iI (b : Int) = iI ((a ||| b : Nat) : Int) := by
  apply b_ext
  intro i hi
  rw [b_or, bt_i a hi, bt_i b hi, bt_i _ hi, Nat.testBit_or]
/-- a draw -/
def ldP (s : Int32) : Int32 := s * iI 1103515245 + iI 12345
def lkP (s : Int32) : Nat := s.toBitVec.toNat / 65536 % 32768
theorem lk_bt (s : Int32) {i : Nat} (hi : i < 32) : bt (iI (lkP s : Int)) i = (bt s (16 + i) && decide (i < 15)) := by
  rw [bt_i _ hi]
  unfold lkP bt
  rw [show (32768 : Nat) = 2 ^ 15 by rfl, Nat.testBit_mod_two_pow, show (65536 : Nat) = 2 ^ 16 by rfl, ← Nat.shiftRight_eq_div_pow, Nat.testBit_shiftRight, BitVec.testBit_toNat, Bool.and_comm]
theorem lk_u (s : Int32) : (s.toUInt32 >>> ((iI 16).toUInt32 &&& Int32.toUInt32 31)).toInt32 &&& iI 32767 = iI (lkP s : Int) := by
  apply b_ext
  intro i hi
  rw [lk_bt s hi, b_and, bt_15 i hi, show iI 16 = nI 16 from iI_nat 16, b_ushr 16 (by omega)]
theorem lk_s (s : Int32) : s >>> (iI 16 &&& 31) &&& iI 32767 = iI (lkP s : Int) := by
  apply b_ext
  intro i hi
  rw [lk_bt s hi, b_and, bt_15 i hi, show iI 16 = nI 16 from iI_nat 16, b_sshr 16 (by omega) _ hi]
  by_cases e : i < 15
  · rw [if_pos (by omega)]
  · simp [e]
theorem lk_lt (s : Int32) : lkP s < 32768 := Nat.mod_lt _ (by decide)
/-! how many bits are set -/
def onF : Nat → Nat → Nat
  | 0, _ => 0
  | n + 1, k => if k = 0 then 0 else onF n (k &&& (k - 1)) + 1
def onE : Nat → Nat → Bool
  | 0, k => k == 0
  | n + 1, k => if k = 0 then true else onE n (k &&& (k - 1))
def bcF (x0 : Int32) : Int32 :=
  let x1 := x0 - ((x0.toUInt32 >>> ((iI 1).toUInt32 &&& Int32.toUInt32 31)).toInt32 &&& iI 1431655765)
  let x2 := (x1 &&& iI 858993459) + ((x1.toUInt32 >>> ((iI 2).toUInt32 &&& Int32.toUInt32 31)).toInt32 &&& iI 858993459)
  let x3 := (x2 + (x2.toUInt32 >>> ((iI 4).toUInt32 &&& Int32.toUInt32 31)).toInt32) &&& iI 252645135
  let x4 := x3 + (x3.toUInt32 >>> ((iI 8).toUInt32 &&& Int32.toUInt32 31)).toInt32
  let x5 := x4 + (x4.toUInt32 >>> ((iI 16).toUInt32 &&& Int32.toUInt32 31)).toInt32
  x5 &&& iI 63
theorem on_e : ∀ a, a < 64 → ∀ b, b < 64 → onE 12 (64 * a + b) = true := by decide +kernel
theorem bc_e : ∀ a, a < 64 → ∀ b, b < 64 → bcF (iI ((64 * a + b : Nat) : Int)) = iI (onF 12 (64 * a + b) : Int) := by decide +kernel
def bcN (b : Nat) : Nat := onF 12 b
theorem on_all {b : Nat} (h : b < 4096) : onE 12 b = true := by
  have := on_e (b / 64) (by omega) (b % 64) (by omega)
  rwa [show 64 * (b / 64) + b % 64 = b by omega] at this
theorem bc_all {b : Nat} (h : b < 4096) : bcF (iI (b : Int)) = iI (bcN b : Int) := by
  have := bc_e (b / 64) (by omega) (b % 64) (by omega)
  rwa [show 64 * (b / 64) + b % 64 = b by omega] at this
theorem bc_le {b : Nat} : bcN b ≤ 12 := by
  have : ∀ n k, onF n k ≤ n := by
    intro n
    induction n with
    | zero => intro k; exact Nat.le_refl _
    | succ n ih =>
      intro k
      show (if k = 0 then 0 else onF n (k &&& (k - 1)) + 1) ≤ n + 1
      split
      · omega
      · have := ih (k &&& (k - 1)); omega
  exact this 12 b
section
variable {G : en_G} {d : Nat} {K : en_K} {hi : en_I} {hl : en_L} {hr : en_F} {xc xs : Nat}
theorem t_bitCount {b : Nat} (hb : b < 4096) (H : K (.inl (some (.int (iI (bcN b : Int))))) hi hl hr) : en_Call G (d + 1) xc xs Y_J6_bitCount_0f7a4 wN wN [.int (iI (b : Int))] hi hl hr K := by
  apply en_J6_bitCount_0f7a4
  simp only [B_J6_bitCount_0f7a4_0, en_ops, en_opc]
  rw [← bc_all hb] at H
  exact H
theorem and_at (a b : Nat) : iI (a : Int) &&& iI (b : Int) = iI ((a &&& b : Nat) : Int) := by
  apply b_ext
  intro i hi
  rw [b_and, bt_i a hi, bt_i b hi, bt_i _ hi, Nat.testBit_and]
theorem m_ones {b : Nat} (hb : b < 4096) (H : K (.inl (some (.int (iI (bcN b : Int))))) hi hl hr) : en_Call G (d + 1) xc xs Y_X11_ones wN wN [.int (iI (b : Int))] hi hl hr K := by
  apply en_X11_ones
  simp (disch := omega) only [B_X11_ones_0, en_ops, en_opc, iI_add, iI_mul, iI_sub, jL_add, jL_mul, iI_le, iI_lt, iI_eq, iI_eq0, iI_lt0, iI_0le, iI_le0, iI_0lt, jL_iI, iI_jL, lc_eq, lc_lt, lc_le, lc_ge, lc_gt, Nat.sub_zero, Nat.zero_le, true_and, and_true, Nat.reduceAdd, Nat.reduceLeDiff]
  suffices L : ∀ n k m : Nat, onE n k = true → k < 4096 → m + onF n k = bcN b → en_V G Y_X11_ones (d + 1) wN wN K 4 [.int (iI (b : Int)), .int (iI (m : Int)), .int (iI (k : Int))] [] hi hl hr xc xs from L 12 b 0 (on_all hb) hb (Nat.zero_add _)
  intro n
  induction n with
  | zero =>
    intro k m hk hk2 hm
    have k0 : k = 0 := by have : (k == 0) = true := hk; simpa using this
    subst k0
    have m0 : m = bcN b := hm
    apply s_X11_ones_4
    simp (disch := omega) only [B_X11_ones_4, en_ops, en_opc, iI_add, iI_mul, iI_sub, jL_add, jL_mul, iI_le, iI_lt, iI_eq, iI_eq0, iI_lt0, iI_0le, iI_le0, iI_0lt, jL_iI, iI_jL, lc_eq, lc_lt, lc_le, lc_ge, lc_gt, Nat.sub_zero, Nat.zero_le, true_and, and_true, Nat.reduceAdd, Nat.reduceLeDiff]
    refine ⟨fun _ => by rw [m0]; exact H, fun e => absurd rfl e⟩
  | succ n ih =>
    intro k m hk hk2 hm
    apply s_X11_ones_4
    simp (disch := omega) only [B_X11_ones_4, en_ops, en_opc, iI_add, iI_mul, iI_sub, jL_add, jL_mul, iI_le, iI_lt, iI_eq, iI_eq0, iI_lt0, iI_0le, iI_le0, iI_0lt, jL_iI, iI_jL, lc_eq, lc_lt, lc_le, lc_ge, lc_gt, Nat.sub_zero, Nat.zero_le, true_and, and_true, Nat.reduceAdd, Nat.reduceLeDiff]
    by_cases k0 : k = 0
    · subst k0
      have m0 : m = bcN b := hm
      refine ⟨fun _ => by rw [m0]; exact H, fun e => absurd rfl e⟩
    · have hk' : onE n (k &&& (k - 1)) = true := by
        have : (if k = 0 then true else onE n (k &&& (k - 1))) = true := hk
        rwa [if_neg k0] at this
      have hm' : m + (if k = 0 then 0 else onF n (k &&& (k - 1)) + 1) = bcN b := hm
      rw [if_neg k0] at hm'
      refine ⟨fun e => by omega, fun _ => ?_⟩
      rw [show (k : Int) - 1 = ((k - 1 : Nat) : Int) by omega, and_at]
      have lt : k &&& (k - 1) ≤ k := Nat.and_le_left
      exact ih _ (m + 1) hk' (by omega) (by omega)
end
