-- numbers
theorem inb_nI {k n : Nat} (h : k < 2 ^ 31) : inb (nI k) n = decide (k < n) := by
  unfold inb
  rw [nI_clamp h]
  refine decide_eq_decide.mpr ⟨fun c => ?_, fun c d => ?_⟩
  · exact Nat.not_le.mp fun q => c (Or.inr q)
  · rcases d with d | d
    · exact nI_pos h d
    · omega
theorem inb_lt {k n : Nat} (hk : k < n) (hn : n < 2 ^ 31) : inb (nI k) n = true := by
  rw [inb_nI (by omega)]
  exact decide_eq_true hk
def un (x : Int32) : Nat := x.toBitVec.toNat
theorem un_lt (x : Int32) : un x < 2 ^ 32 := x.toBitVec.isLt
theorem un_inj {x y : Int32} (h : un x = un y) : x = y := Int32.toBitVec_inj.mp (BitVec.eq_of_toNat_eq h)
theorem mk32 (x : Int32) : x.toInt64 &&& 4294967295 = lN (un x) := by
  apply Int64.toBitVec_inj.mp
  apply BitVec.eq_of_getLsbD_eq
  intro i hi
  have e : (4294967295 : Int64).toBitVec = BitVec.ofNat 64 (2 ^ 32 - 1) := by decide +kernel
  have e2 : (lN (un x)).toBitVec = BitVec.ofNat 64 (un x) := rfl
  rw [Int64.toBitVec_and, BitVec.getLsbD_and, e, e2, Int32.toBitVec_toInt64, BitVec.getLsbD_signExtend, BitVec.getLsbD_ofNat, BitVec.getLsbD_ofNat]
  by_cases c : i < 32
  · have h1 : (2 ^ 32 - 1 : Nat).testBit i = true := by rw [Nat.testBit_two_pow_sub_one]; exact decide_eq_true c
    simp [hi, c, h1, un, BitVec.getLsbD]
  · have h1 : (2 ^ 32 - 1 : Nat).testBit i = false := by rw [Nat.testBit_two_pow_sub_one]; exact decide_eq_false c
    have h2 : (un x).testBit i = false := Nat.testBit_lt_two_pow (Nat.lt_of_lt_of_le (un_lt x) (Nat.pow_le_pow_right (by decide) (by omega)))
    simp [hi, h1, h2]
theorem lN_toInt' {n : Nat} (h : n < 2 ^ 63) : (lN n).toInt = (n : Int) := pk_lT h
theorem ulong (x y : Int32) : (0 ≤ lg_cmp (x.toInt64 &&& 4294967295) (y.toInt64 &&& 4294967295)) ↔ ¬ un x < un y := by
  rw [lg_cmp_ge, mk32, mk32]
  have hx := un_lt x
  have hy := un_lt y
  rw [pk_lLE (by omega) (by omega)]
  omega
theorem min32 (x : Int32) : (x + (-2147483648)).toInt = (un x : Int) - 2 ^ 31 := by
  have e : (-2147483648 : Int32).toInt = -2147483648 := by decide +kernel
  have hx : x.toInt = if 2 * un x < 2 ^ 32 then (un x : Int) else (un x : Int) - 2 ^ 32 := by
    show x.toBitVec.toInt = _
    rw [BitVec.toInt_eq_toNat_cond]
    rfl
  have hl := un_lt x
  rw [Int32.toInt_add, hx, e]
  split
  · rw [Int.bmod_def]; omega
  · rw [Int.bmod_def]; omega
theorem below (x y : Int32) : (y + (-2147483648 : Int32)) ≤ (x + (-2147483648 : Int32)) ↔ ¬ un x < un y := by
  rw [Int32.le_iff_toInt_le, min32, min32]
  omega
theorem mk32_ne {y : Int32} (h : ¬ y = 0) : ¬ (y.toInt64 &&& 4294967295) = 0 := by
  rw [mk32]
  intro e
  have e2 : lN (un y) = lN 0 := e
  rw [pk_lEQ (by have := un_lt y; omega) (by decide)] at e2
  exact h (un_inj (e2.trans (by decide +kernel)))
theorem divm1 (x : Int32) : -x = x / (-1) := by
  apply Int32.toBitVec_inj.mp
  show -x.toBitVec = x.toBitVec.sdiv (-1 : Int32).toBitVec
  have e : (-1 : Int32).toBitVec = -1#32 := by decide +kernel
  rw [e]
  apply BitVec.eq_of_toInt_eq
  rw [BitVec.toInt_sdiv, BitVec.toInt_neg]
  have : (-1#32 : BitVec 32).toInt = -1 := by decide +kernel
  rw [this]
  congr 1
  rw [Int.tdiv_neg, Int.tdiv_one]
theorem and31 (y : Int32) : (y &&& (31 : Int32)) &&& 31 = y &&& 31 := by
  rw [Int32.and_assoc, Int32.and_self]
theorem and31u (y : Int32) : (y &&& (31 : Int32)).toUInt32 &&& Int32.toUInt32 31 = y.toUInt32 &&& Int32.toUInt32 31 := by
  rw [← Int32.toUInt32_and, and31, Int32.toUInt32_and]
