-- the value of an input in a word
theorem toInt_un (x : Int32) : x.toInt = if 2 * un x < 2 ^ 32 then (un x : Int) else (un x : Int) - 2 ^ 32 := by
  show x.toBitVec.toInt = _
  rw [BitVec.toInt_eq_toNat_cond]
  rfl
theorem un_nI {n : Nat} (h : n < 2 ^ 32) : un (nI n) = n := pk_tn h
def inpS (v wd : Nat) : Int32 := if 2 ^ (wd - 1) ≤ v % 2 ^ wd then nI (v % 2 ^ wd) - nI (2 ^ wd) else nI (v % 2 ^ wd)
theorem cin_1 {v : Nat} (hv : v < 4096) : ((nI v <<< (((32 : Int32) - nI 1) &&& 31)).toUInt32 >>> (((32 : Int32) - nI 1).toUInt32 &&& Int32.toUInt32 31)).toInt32 = nI (v % 2 ^ 1) ∧ ((nI v <<< (((32 : Int32) - nI 1) &&& 31)) >>> (((32 : Int32) - nI 1) &&& 31)) = inpS v 1 := by
  have e1 : un (nI v <<< (((32 : Int32) - nI 1) &&& 31)) = v * 2147483648 % 4294967296 := by
    have := pk_shl (nI v) (((32 : Int32) - nI 1) &&& 31) 31 (by decide +kernel)
    rw [show (nI v).toBitVec.toNat = v from un_nI (by omega)] at this
    exact this
  generalize nI v <<< (((32 : Int32) - nI 1) &&& 31) = a at e1 ⊢
  constructor
  · apply un_inj
    have h2 := pk_ushr a ((32 : Int32) - nI 1) 31 (by decide +kernel)
    rw [un_nI (by omega)]
    refine Eq.trans h2 ?_
    show un a / 2 ^ 31 = _
    rw [e1]
    omega
  · apply Int32.toInt_inj.mp
    rw [pk_shr a (((32 : Int32) - nI 1) &&& 31) 31 (by decide +kernel), toInt_un a, Int.shiftRight_eq_div_pow]
    unfold inpS
    by_cases c : 2 ^ (1 - 1) ≤ v % 2 ^ 1
    · rw [if_pos c, pk_sub_toInt (by omega) (by decide)]
      split <;> omega
    · rw [if_neg c, nI_toInt (by omega)]
      split <;> omega
theorem minp_1 {v : Nat} (hv : v < 4096) : (nI v &&& (((1 : Int32) <<< (nI 1 &&& 31)) - (1 : Int32))) = nI (v % 2 ^ 1) ∧ (if (nI (v % 2 ^ 1) >>> ((nI 1 - (1 : Int32)) &&& 31)) = (1 : Int32) then nI (v % 2 ^ 1) - ((1 : Int32) <<< (nI 1 &&& 31)) else nI (v % 2 ^ 1)) = inpS v 1 := by
  constructor
  · exact pk_andN (by omega) 1 (by decide +kernel)
  · rw [pk_shrN (by omega) _ 0 (by decide +kernel), show (1 : Int32) <<< (nI 1 &&& 31) = nI (2 ^ 1) by decide +kernel]
    unfold inpS
    by_cases c : 2 ^ (1 - 1) ≤ v % 2 ^ 1
    · rw [if_pos c, if_pos]
      show nI _ = nI 1
      congr 1
      omega
    · rw [if_neg c, if_neg]
      intro q
      have q2 : nI (v % 2 ^ 1 / 2 ^ 0) = nI 1 := q
      rw [nI_eq (by omega) (by decide)] at q2
      omega
theorem cin_2 {v : Nat} (hv : v < 4096) : ((nI v <<< (((32 : Int32) - nI 2) &&& 31)).toUInt32 >>> (((32 : Int32) - nI 2).toUInt32 &&& Int32.toUInt32 31)).toInt32 = nI (v % 2 ^ 2) ∧ ((nI v <<< (((32 : Int32) - nI 2) &&& 31)) >>> (((32 : Int32) - nI 2) &&& 31)) = inpS v 2 := by
  have e1 : un (nI v <<< (((32 : Int32) - nI 2) &&& 31)) = v * 1073741824 % 4294967296 := by
    have := pk_shl (nI v) (((32 : Int32) - nI 2) &&& 31) 30 (by decide +kernel)
    rw [show (nI v).toBitVec.toNat = v from un_nI (by omega)] at this
    exact this
  generalize nI v <<< (((32 : Int32) - nI 2) &&& 31) = a at e1 ⊢
  constructor
  · apply un_inj
    have h2 := pk_ushr a ((32 : Int32) - nI 2) 30 (by decide +kernel)
    rw [un_nI (by omega)]
    refine Eq.trans h2 ?_
    show un a / 2 ^ 30 = _
    rw [e1]
    omega
  · apply Int32.toInt_inj.mp
    rw [pk_shr a (((32 : Int32) - nI 2) &&& 31) 30 (by decide +kernel), toInt_un a, Int.shiftRight_eq_div_pow]
    unfold inpS
    by_cases c : 2 ^ (2 - 1) ≤ v % 2 ^ 2
    · rw [if_pos c, pk_sub_toInt (by omega) (by decide)]
      split <;> omega
    · rw [if_neg c, nI_toInt (by omega)]
      split <;> omega
theorem minp_2 {v : Nat} (hv : v < 4096) : (nI v &&& (((1 : Int32) <<< (nI 2 &&& 31)) - (1 : Int32))) = nI (v % 2 ^ 2) ∧ (if (nI (v % 2 ^ 2) >>> ((nI 2 - (1 : Int32)) &&& 31)) = (1 : Int32) then nI (v % 2 ^ 2) - ((1 : Int32) <<< (nI 2 &&& 31)) else nI (v % 2 ^ 2)) = inpS v 2 := by
  constructor
  · exact pk_andN (by omega) 2 (by decide +kernel)
  · rw [pk_shrN (by omega) _ 1 (by decide +kernel), show (1 : Int32) <<< (nI 2 &&& 31) = nI (2 ^ 2) by decide +kernel]
    unfold inpS
    by_cases c : 2 ^ (2 - 1) ≤ v % 2 ^ 2
    · rw [if_pos c, if_pos]
      show nI _ = nI 1
      congr 1
      omega
    · rw [if_neg c, if_neg]
      intro q
      have q2 : nI (v % 2 ^ 2 / 2 ^ 1) = nI 1 := q
      rw [nI_eq (by omega) (by decide)] at q2
      omega
theorem cin_3 {v : Nat} (hv : v < 4096) : ((nI v <<< (((32 : Int32) - nI 3) &&& 31)).toUInt32 >>> (((32 : Int32) - nI 3).toUInt32 &&& Int32.toUInt32 31)).toInt32 = nI (v % 2 ^ 3) ∧ ((nI v <<< (((32 : Int32) - nI 3) &&& 31)) >>> (((32 : Int32) - nI 3) &&& 31)) = inpS v 3 := by
  have e1 : un (nI v <<< (((32 : Int32) - nI 3) &&& 31)) = v * 536870912 % 4294967296 := by
    have := pk_shl (nI v) (((32 : Int32) - nI 3) &&& 31) 29 (by decide +kernel)
    rw [show (nI v).toBitVec.toNat = v from un_nI (by omega)] at this
    exact this
  generalize nI v <<< (((32 : Int32) - nI 3) &&& 31) = a at e1 ⊢
  constructor
  · apply un_inj
    have h2 := pk_ushr a ((32 : Int32) - nI 3) 29 (by decide +kernel)
    rw [un_nI (by omega)]
    refine Eq.trans h2 ?_
    show un a / 2 ^ 29 = _
    rw [e1]
    omega
  · apply Int32.toInt_inj.mp
    rw [pk_shr a (((32 : Int32) - nI 3) &&& 31) 29 (by decide +kernel), toInt_un a, Int.shiftRight_eq_div_pow]
    unfold inpS
    by_cases c : 2 ^ (3 - 1) ≤ v % 2 ^ 3
    · rw [if_pos c, pk_sub_toInt (by omega) (by decide)]
      split <;> omega
    · rw [if_neg c, nI_toInt (by omega)]
      split <;> omega
theorem minp_3 {v : Nat} (hv : v < 4096) : (nI v &&& (((1 : Int32) <<< (nI 3 &&& 31)) - (1 : Int32))) = nI (v % 2 ^ 3) ∧ (if (nI (v % 2 ^ 3) >>> ((nI 3 - (1 : Int32)) &&& 31)) = (1 : Int32) then nI (v % 2 ^ 3) - ((1 : Int32) <<< (nI 3 &&& 31)) else nI (v % 2 ^ 3)) = inpS v 3 := by
  constructor
  · exact pk_andN (by omega) 3 (by decide +kernel)
  · rw [pk_shrN (by omega) _ 2 (by decide +kernel), show (1 : Int32) <<< (nI 3 &&& 31) = nI (2 ^ 3) by decide +kernel]
    unfold inpS
    by_cases c : 2 ^ (3 - 1) ≤ v % 2 ^ 3
    · rw [if_pos c, if_pos]
      show nI _ = nI 1
      congr 1
      omega
    · rw [if_neg c, if_neg]
      intro q
      have q2 : nI (v % 2 ^ 3 / 2 ^ 2) = nI 1 := q
      rw [nI_eq (by omega) (by decide)] at q2
      omega
theorem cin_4 {v : Nat} (hv : v < 4096) : ((nI v <<< (((32 : Int32) - nI 4) &&& 31)).toUInt32 >>> (((32 : Int32) - nI 4).toUInt32 &&& Int32.toUInt32 31)).toInt32 = nI (v % 2 ^ 4) ∧ ((nI v <<< (((32 : Int32) - nI 4) &&& 31)) >>> (((32 : Int32) - nI 4) &&& 31)) = inpS v 4 := by
  have e1 : un (nI v <<< (((32 : Int32) - nI 4) &&& 31)) = v * 268435456 % 4294967296 := by
    have := pk_shl (nI v) (((32 : Int32) - nI 4) &&& 31) 28 (by decide +kernel)
    rw [show (nI v).toBitVec.toNat = v from un_nI (by omega)] at this
    exact this
  generalize nI v <<< (((32 : Int32) - nI 4) &&& 31) = a at e1 ⊢
  constructor
  · apply un_inj
    have h2 := pk_ushr a ((32 : Int32) - nI 4) 28 (by decide +kernel)
    rw [un_nI (by omega)]
    refine Eq.trans h2 ?_
    show un a / 2 ^ 28 = _
    rw [e1]
    omega
  · apply Int32.toInt_inj.mp
    rw [pk_shr a (((32 : Int32) - nI 4) &&& 31) 28 (by decide +kernel), toInt_un a, Int.shiftRight_eq_div_pow]
    unfold inpS
    by_cases c : 2 ^ (4 - 1) ≤ v % 2 ^ 4
    · rw [if_pos c, pk_sub_toInt (by omega) (by decide)]
      split <;> omega
    · rw [if_neg c, nI_toInt (by omega)]
      split <;> omega
theorem minp_4 {v : Nat} (hv : v < 4096) : (nI v &&& (((1 : Int32) <<< (nI 4 &&& 31)) - (1 : Int32))) = nI (v % 2 ^ 4) ∧ (if (nI (v % 2 ^ 4) >>> ((nI 4 - (1 : Int32)) &&& 31)) = (1 : Int32) then nI (v % 2 ^ 4) - ((1 : Int32) <<< (nI 4 &&& 31)) else nI (v % 2 ^ 4)) = inpS v 4 := by
  constructor
  · exact pk_andN (by omega) 4 (by decide +kernel)
  · rw [pk_shrN (by omega) _ 3 (by decide +kernel), show (1 : Int32) <<< (nI 4 &&& 31) = nI (2 ^ 4) by decide +kernel]
    unfold inpS
    by_cases c : 2 ^ (4 - 1) ≤ v % 2 ^ 4
    · rw [if_pos c, if_pos]
      show nI _ = nI 1
      congr 1
      omega
    · rw [if_neg c, if_neg]
      intro q
      have q2 : nI (v % 2 ^ 4 / 2 ^ 3) = nI 1 := q
      rw [nI_eq (by omega) (by decide)] at q2
      omega
theorem cin_5 {v : Nat} (hv : v < 4096) : ((nI v <<< (((32 : Int32) - nI 5) &&& 31)).toUInt32 >>> (((32 : Int32) - nI 5).toUInt32 &&& Int32.toUInt32 31)).toInt32 = nI (v % 2 ^ 5) ∧ ((nI v <<< (((32 : Int32) - nI 5) &&& 31)) >>> (((32 : Int32) - nI 5) &&& 31)) = inpS v 5 := by
  have e1 : un (nI v <<< (((32 : Int32) - nI 5) &&& 31)) = v * 134217728 % 4294967296 := by
    have := pk_shl (nI v) (((32 : Int32) - nI 5) &&& 31) 27 (by decide +kernel)
    rw [show (nI v).toBitVec.toNat = v from un_nI (by omega)] at this
    exact this
  generalize nI v <<< (((32 : Int32) - nI 5) &&& 31) = a at e1 ⊢
  constructor
  · apply un_inj
    have h2 := pk_ushr a ((32 : Int32) - nI 5) 27 (by decide +kernel)
    rw [un_nI (by omega)]
    refine Eq.trans h2 ?_
    show un a / 2 ^ 27 = _
    rw [e1]
    omega
  · apply Int32.toInt_inj.mp
    rw [pk_shr a (((32 : Int32) - nI 5) &&& 31) 27 (by decide +kernel), toInt_un a, Int.shiftRight_eq_div_pow]
    unfold inpS
    by_cases c : 2 ^ (5 - 1) ≤ v % 2 ^ 5
    · rw [if_pos c, pk_sub_toInt (by omega) (by decide)]
      split <;> omega
    · rw [if_neg c, nI_toInt (by omega)]
      split <;> omega
theorem minp_5 {v : Nat} (hv : v < 4096) : (nI v &&& (((1 : Int32) <<< (nI 5 &&& 31)) - (1 : Int32))) = nI (v % 2 ^ 5) ∧ (if (nI (v % 2 ^ 5) >>> ((nI 5 - (1 : Int32)) &&& 31)) = (1 : Int32) then nI (v % 2 ^ 5) - ((1 : Int32) <<< (nI 5 &&& 31)) else nI (v % 2 ^ 5)) = inpS v 5 := by
  constructor
  · exact pk_andN (by omega) 5 (by decide +kernel)
  · rw [pk_shrN (by omega) _ 4 (by decide +kernel), show (1 : Int32) <<< (nI 5 &&& 31) = nI (2 ^ 5) by decide +kernel]
    unfold inpS
    by_cases c : 2 ^ (5 - 1) ≤ v % 2 ^ 5
    · rw [if_pos c, if_pos]
      show nI _ = nI 1
      congr 1
      omega
    · rw [if_neg c, if_neg]
      intro q
      have q2 : nI (v % 2 ^ 5 / 2 ^ 4) = nI 1 := q
      rw [nI_eq (by omega) (by decide)] at q2
      omega
theorem cin_6 {v : Nat} (hv : v < 4096) : ((nI v <<< (((32 : Int32) - nI 6) &&& 31)).toUInt32 >>> (((32 : Int32) - nI 6).toUInt32 &&& Int32.toUInt32 31)).toInt32 = nI (v % 2 ^ 6) ∧ ((nI v <<< (((32 : Int32) - nI 6) &&& 31)) >>> (((32 : Int32) - nI 6) &&& 31)) = inpS v 6 := by
  have e1 : un (nI v <<< (((32 : Int32) - nI 6) &&& 31)) = v * 67108864 % 4294967296 := by
    have := pk_shl (nI v) (((32 : Int32) - nI 6) &&& 31) 26 (by decide +kernel)
    rw [show (nI v).toBitVec.toNat = v from un_nI (by omega)] at this
    exact this
  generalize nI v <<< (((32 : Int32) - nI 6) &&& 31) = a at e1 ⊢
  constructor
  · apply un_inj
    have h2 := pk_ushr a ((32 : Int32) - nI 6) 26 (by decide +kernel)
    rw [un_nI (by omega)]
    refine Eq.trans h2 ?_
    show un a / 2 ^ 26 = _
    rw [e1]
    omega
  · apply Int32.toInt_inj.mp
    rw [pk_shr a (((32 : Int32) - nI 6) &&& 31) 26 (by decide +kernel), toInt_un a, Int.shiftRight_eq_div_pow]
    unfold inpS
    by_cases c : 2 ^ (6 - 1) ≤ v % 2 ^ 6
    · rw [if_pos c, pk_sub_toInt (by omega) (by decide)]
      split <;> omega
    · rw [if_neg c, nI_toInt (by omega)]
      split <;> omega
theorem minp_6 {v : Nat} (hv : v < 4096) : (nI v &&& (((1 : Int32) <<< (nI 6 &&& 31)) - (1 : Int32))) = nI (v % 2 ^ 6) ∧ (if (nI (v % 2 ^ 6) >>> ((nI 6 - (1 : Int32)) &&& 31)) = (1 : Int32) then nI (v % 2 ^ 6) - ((1 : Int32) <<< (nI 6 &&& 31)) else nI (v % 2 ^ 6)) = inpS v 6 := by
  constructor
  · exact pk_andN (by omega) 6 (by decide +kernel)
  · rw [pk_shrN (by omega) _ 5 (by decide +kernel), show (1 : Int32) <<< (nI 6 &&& 31) = nI (2 ^ 6) by decide +kernel]
    unfold inpS
    by_cases c : 2 ^ (6 - 1) ≤ v % 2 ^ 6
    · rw [if_pos c, if_pos]
      show nI _ = nI 1
      congr 1
      omega
    · rw [if_neg c, if_neg]
      intro q
      have q2 : nI (v % 2 ^ 6 / 2 ^ 5) = nI 1 := q
      rw [nI_eq (by omega) (by decide)] at q2
      omega
theorem cin_7 {v : Nat} (hv : v < 4096) : ((nI v <<< (((32 : Int32) - nI 7) &&& 31)).toUInt32 >>> (((32 : Int32) - nI 7).toUInt32 &&& Int32.toUInt32 31)).toInt32 = nI (v % 2 ^ 7) ∧ ((nI v <<< (((32 : Int32) - nI 7) &&& 31)) >>> (((32 : Int32) - nI 7) &&& 31)) = inpS v 7 := by
  have e1 : un (nI v <<< (((32 : Int32) - nI 7) &&& 31)) = v * 33554432 % 4294967296 := by
    have := pk_shl (nI v) (((32 : Int32) - nI 7) &&& 31) 25 (by decide +kernel)
    rw [show (nI v).toBitVec.toNat = v from un_nI (by omega)] at this
    exact this
  generalize nI v <<< (((32 : Int32) - nI 7) &&& 31) = a at e1 ⊢
  constructor
  · apply un_inj
    have h2 := pk_ushr a ((32 : Int32) - nI 7) 25 (by decide +kernel)
    rw [un_nI (by omega)]
    refine Eq.trans h2 ?_
    show un a / 2 ^ 25 = _
    rw [e1]
    omega
  · apply Int32.toInt_inj.mp
    rw [pk_shr a (((32 : Int32) - nI 7) &&& 31) 25 (by decide +kernel), toInt_un a, Int.shiftRight_eq_div_pow]
    unfold inpS
    by_cases c : 2 ^ (7 - 1) ≤ v % 2 ^ 7
    · rw [if_pos c, pk_sub_toInt (by omega) (by decide)]
      split <;> omega
    · rw [if_neg c, nI_toInt (by omega)]
      split <;> omega
theorem minp_7 {v : Nat} (hv : v < 4096) : (nI v &&& (((1 : Int32) <<< (nI 7 &&& 31)) - (1 : Int32))) = nI (v % 2 ^ 7) ∧ (if (nI (v % 2 ^ 7) >>> ((nI 7 - (1 : Int32)) &&& 31)) = (1 : Int32) then nI (v % 2 ^ 7) - ((1 : Int32) <<< (nI 7 &&& 31)) else nI (v % 2 ^ 7)) = inpS v 7 := by
  constructor
  · exact pk_andN (by omega) 7 (by decide +kernel)
  · rw [pk_shrN (by omega) _ 6 (by decide +kernel), show (1 : Int32) <<< (nI 7 &&& 31) = nI (2 ^ 7) by decide +kernel]
    unfold inpS
    by_cases c : 2 ^ (7 - 1) ≤ v % 2 ^ 7
    · rw [if_pos c, if_pos]
      show nI _ = nI 1
      congr 1
      omega
    · rw [if_neg c, if_neg]
      intro q
      have q2 : nI (v % 2 ^ 7 / 2 ^ 6) = nI 1 := q
      rw [nI_eq (by omega) (by decide)] at q2
      omega
theorem cin_8 {v : Nat} (hv : v < 4096) : ((nI v <<< (((32 : Int32) - nI 8) &&& 31)).toUInt32 >>> (((32 : Int32) - nI 8).toUInt32 &&& Int32.toUInt32 31)).toInt32 = nI (v % 2 ^ 8) ∧ ((nI v <<< (((32 : Int32) - nI 8) &&& 31)) >>> (((32 : Int32) - nI 8) &&& 31)) = inpS v 8 := by
  have e1 : un (nI v <<< (((32 : Int32) - nI 8) &&& 31)) = v * 16777216 % 4294967296 := by
    have := pk_shl (nI v) (((32 : Int32) - nI 8) &&& 31) 24 (by decide +kernel)
    rw [show (nI v).toBitVec.toNat = v from un_nI (by omega)] at this
    exact this
  generalize nI v <<< (((32 : Int32) - nI 8) &&& 31) = a at e1 ⊢
  constructor
  · apply un_inj
    have h2 := pk_ushr a ((32 : Int32) - nI 8) 24 (by decide +kernel)
    rw [un_nI (by omega)]
    refine Eq.trans h2 ?_
    show un a / 2 ^ 24 = _
    rw [e1]
    omega
  · apply Int32.toInt_inj.mp
    rw [pk_shr a (((32 : Int32) - nI 8) &&& 31) 24 (by decide +kernel), toInt_un a, Int.shiftRight_eq_div_pow]
    unfold inpS
    by_cases c : 2 ^ (8 - 1) ≤ v % 2 ^ 8
    · rw [if_pos c, pk_sub_toInt (by omega) (by decide)]
      split <;> omega
    · rw [if_neg c, nI_toInt (by omega)]
      split <;> omega
theorem minp_8 {v : Nat} (hv : v < 4096) : (nI v &&& (((1 : Int32) <<< (nI 8 &&& 31)) - (1 : Int32))) = nI (v % 2 ^ 8) ∧ (if (nI (v % 2 ^ 8) >>> ((nI 8 - (1 : Int32)) &&& 31)) = (1 : Int32) then nI (v % 2 ^ 8) - ((1 : Int32) <<< (nI 8 &&& 31)) else nI (v % 2 ^ 8)) = inpS v 8 := by
  constructor
  · exact pk_andN (by omega) 8 (by decide +kernel)
  · rw [pk_shrN (by omega) _ 7 (by decide +kernel), show (1 : Int32) <<< (nI 8 &&& 31) = nI (2 ^ 8) by decide +kernel]
    unfold inpS
    by_cases c : 2 ^ (8 - 1) ≤ v % 2 ^ 8
    · rw [if_pos c, if_pos]
      show nI _ = nI 1
      congr 1
      omega
    · rw [if_neg c, if_neg]
      intro q
      have q2 : nI (v % 2 ^ 8 / 2 ^ 7) = nI 1 := q
      rw [nI_eq (by omega) (by decide)] at q2
      omega
theorem cin_9 {v : Nat} (hv : v < 4096) : ((nI v <<< (((32 : Int32) - nI 9) &&& 31)).toUInt32 >>> (((32 : Int32) - nI 9).toUInt32 &&& Int32.toUInt32 31)).toInt32 = nI (v % 2 ^ 9) ∧ ((nI v <<< (((32 : Int32) - nI 9) &&& 31)) >>> (((32 : Int32) - nI 9) &&& 31)) = inpS v 9 := by
  have e1 : un (nI v <<< (((32 : Int32) - nI 9) &&& 31)) = v * 8388608 % 4294967296 := by
    have := pk_shl (nI v) (((32 : Int32) - nI 9) &&& 31) 23 (by decide +kernel)
    rw [show (nI v).toBitVec.toNat = v from un_nI (by omega)] at this
    exact this
  generalize nI v <<< (((32 : Int32) - nI 9) &&& 31) = a at e1 ⊢
  constructor
  · apply un_inj
    have h2 := pk_ushr a ((32 : Int32) - nI 9) 23 (by decide +kernel)
    rw [un_nI (by omega)]
    refine Eq.trans h2 ?_
    show un a / 2 ^ 23 = _
    rw [e1]
    omega
  · apply Int32.toInt_inj.mp
    rw [pk_shr a (((32 : Int32) - nI 9) &&& 31) 23 (by decide +kernel), toInt_un a, Int.shiftRight_eq_div_pow]
    unfold inpS
    by_cases c : 2 ^ (9 - 1) ≤ v % 2 ^ 9
    · rw [if_pos c, pk_sub_toInt (by omega) (by decide)]
      split <;> omega
    · rw [if_neg c, nI_toInt (by omega)]
      split <;> omega
theorem minp_9 {v : Nat} (hv : v < 4096) : (nI v &&& (((1 : Int32) <<< (nI 9 &&& 31)) - (1 : Int32))) = nI (v % 2 ^ 9) ∧ (if (nI (v % 2 ^ 9) >>> ((nI 9 - (1 : Int32)) &&& 31)) = (1 : Int32) then nI (v % 2 ^ 9) - ((1 : Int32) <<< (nI 9 &&& 31)) else nI (v % 2 ^ 9)) = inpS v 9 := by
  constructor
  · exact pk_andN (by omega) 9 (by decide +kernel)
  · rw [pk_shrN (by omega) _ 8 (by decide +kernel), show (1 : Int32) <<< (nI 9 &&& 31) = nI (2 ^ 9) by decide +kernel]
    unfold inpS
    by_cases c : 2 ^ (9 - 1) ≤ v % 2 ^ 9
    · rw [if_pos c, if_pos]
      show nI _ = nI 1
      congr 1
      omega
    · rw [if_neg c, if_neg]
      intro q
      have q2 : nI (v % 2 ^ 9 / 2 ^ 8) = nI 1 := q
      rw [nI_eq (by omega) (by decide)] at q2
      omega
theorem cin_10 {v : Nat} (hv : v < 4096) : ((nI v <<< (((32 : Int32) - nI 10) &&& 31)).toUInt32 >>> (((32 : Int32) - nI 10).toUInt32 &&& Int32.toUInt32 31)).toInt32 = nI (v % 2 ^ 10) ∧ ((nI v <<< (((32 : Int32) - nI 10) &&& 31)) >>> (((32 : Int32) - nI 10) &&& 31)) = inpS v 10 := by
  have e1 : un (nI v <<< (((32 : Int32) - nI 10) &&& 31)) = v * 4194304 % 4294967296 := by
    have := pk_shl (nI v) (((32 : Int32) - nI 10) &&& 31) 22 (by decide +kernel)
    rw [show (nI v).toBitVec.toNat = v from un_nI (by omega)] at this
    exact this
  generalize nI v <<< (((32 : Int32) - nI 10) &&& 31) = a at e1 ⊢
  constructor
  · apply un_inj
    have h2 := pk_ushr a ((32 : Int32) - nI 10) 22 (by decide +kernel)
    rw [un_nI (by omega)]
    refine Eq.trans h2 ?_
    show un a / 2 ^ 22 = _
    rw [e1]
    omega
  · apply Int32.toInt_inj.mp
    rw [pk_shr a (((32 : Int32) - nI 10) &&& 31) 22 (by decide +kernel), toInt_un a, Int.shiftRight_eq_div_pow]
    unfold inpS
    by_cases c : 2 ^ (10 - 1) ≤ v % 2 ^ 10
    · rw [if_pos c, pk_sub_toInt (by omega) (by decide)]
      split <;> omega
    · rw [if_neg c, nI_toInt (by omega)]
      split <;> omega
theorem minp_10 {v : Nat} (hv : v < 4096) : (nI v &&& (((1 : Int32) <<< (nI 10 &&& 31)) - (1 : Int32))) = nI (v % 2 ^ 10) ∧ (if (nI (v % 2 ^ 10) >>> ((nI 10 - (1 : Int32)) &&& 31)) = (1 : Int32) then nI (v % 2 ^ 10) - ((1 : Int32) <<< (nI 10 &&& 31)) else nI (v % 2 ^ 10)) = inpS v 10 := by
  constructor
  · exact pk_andN (by omega) 10 (by decide +kernel)
  · rw [pk_shrN (by omega) _ 9 (by decide +kernel), show (1 : Int32) <<< (nI 10 &&& 31) = nI (2 ^ 10) by decide +kernel]
    unfold inpS
    by_cases c : 2 ^ (10 - 1) ≤ v % 2 ^ 10
    · rw [if_pos c, if_pos]
      show nI _ = nI 1
      congr 1
      omega
    · rw [if_neg c, if_neg]
      intro q
      have q2 : nI (v % 2 ^ 10 / 2 ^ 9) = nI 1 := q
      rw [nI_eq (by omega) (by decide)] at q2
      omega
theorem cin_11 {v : Nat} (hv : v < 4096) : ((nI v <<< (((32 : Int32) - nI 11) &&& 31)).toUInt32 >>> (((32 : Int32) - nI 11).toUInt32 &&& Int32.toUInt32 31)).toInt32 = nI (v % 2 ^ 11) ∧ ((nI v <<< (((32 : Int32) - nI 11) &&& 31)) >>> (((32 : Int32) - nI 11) &&& 31)) = inpS v 11 := by
  have e1 : un (nI v <<< (((32 : Int32) - nI 11) &&& 31)) = v * 2097152 % 4294967296 := by
    have := pk_shl (nI v) (((32 : Int32) - nI 11) &&& 31) 21 (by decide +kernel)
    rw [show (nI v).toBitVec.toNat = v from un_nI (by omega)] at this
    exact this
  generalize nI v <<< (((32 : Int32) - nI 11) &&& 31) = a at e1 ⊢
  constructor
  · apply un_inj
    have h2 := pk_ushr a ((32 : Int32) - nI 11) 21 (by decide +kernel)
    rw [un_nI (by omega)]
    refine Eq.trans h2 ?_
    show un a / 2 ^ 21 = _
    rw [e1]
    omega
  · apply Int32.toInt_inj.mp
    rw [pk_shr a (((32 : Int32) - nI 11) &&& 31) 21 (by decide +kernel), toInt_un a, Int.shiftRight_eq_div_pow]
    unfold inpS
    by_cases c : 2 ^ (11 - 1) ≤ v % 2 ^ 11
    · rw [if_pos c, pk_sub_toInt (by omega) (by decide)]
      split <;> omega
    · rw [if_neg c, nI_toInt (by omega)]
      split <;> omega
theorem minp_11 {v : Nat} (hv : v < 4096) : (nI v &&& (((1 : Int32) <<< (nI 11 &&& 31)) - (1 : Int32))) = nI (v % 2 ^ 11) ∧ (if (nI (v % 2 ^ 11) >>> ((nI 11 - (1 : Int32)) &&& 31)) = (1 : Int32) then nI (v % 2 ^ 11) - ((1 : Int32) <<< (nI 11 &&& 31)) else nI (v % 2 ^ 11)) = inpS v 11 := by
  constructor
  · exact pk_andN (by omega) 11 (by decide +kernel)
  · rw [pk_shrN (by omega) _ 10 (by decide +kernel), show (1 : Int32) <<< (nI 11 &&& 31) = nI (2 ^ 11) by decide +kernel]
    unfold inpS
    by_cases c : 2 ^ (11 - 1) ≤ v % 2 ^ 11
    · rw [if_pos c, if_pos]
      show nI _ = nI 1
      congr 1
      omega
    · rw [if_neg c, if_neg]
      intro q
      have q2 : nI (v % 2 ^ 11 / 2 ^ 10) = nI 1 := q
      rw [nI_eq (by omega) (by decide)] at q2
      omega
theorem cin_12 {v : Nat} (hv : v < 4096) : ((nI v <<< (((32 : Int32) - nI 12) &&& 31)).toUInt32 >>> (((32 : Int32) - nI 12).toUInt32 &&& Int32.toUInt32 31)).toInt32 = nI (v % 2 ^ 12) ∧ ((nI v <<< (((32 : Int32) - nI 12) &&& 31)) >>> (((32 : Int32) - nI 12) &&& 31)) = inpS v 12 := by
  have e1 : un (nI v <<< (((32 : Int32) - nI 12) &&& 31)) = v * 1048576 % 4294967296 := by
    have := pk_shl (nI v) (((32 : Int32) - nI 12) &&& 31) 20 (by decide +kernel)
    rw [show (nI v).toBitVec.toNat = v from un_nI (by omega)] at this
    exact this
  generalize nI v <<< (((32 : Int32) - nI 12) &&& 31) = a at e1 ⊢
  constructor
  · apply un_inj
    have h2 := pk_ushr a ((32 : Int32) - nI 12) 20 (by decide +kernel)
    rw [un_nI (by omega)]
    refine Eq.trans h2 ?_
    show un a / 2 ^ 20 = _
    rw [e1]
    omega
  · apply Int32.toInt_inj.mp
    rw [pk_shr a (((32 : Int32) - nI 12) &&& 31) 20 (by decide +kernel), toInt_un a, Int.shiftRight_eq_div_pow]
    unfold inpS
    by_cases c : 2 ^ (12 - 1) ≤ v % 2 ^ 12
    · rw [if_pos c, pk_sub_toInt (by omega) (by decide)]
      split <;> omega
    · rw [if_neg c, nI_toInt (by omega)]
      split <;> omega
theorem minp_12 {v : Nat} (hv : v < 4096) : (nI v &&& (((1 : Int32) <<< (nI 12 &&& 31)) - (1 : Int32))) = nI (v % 2 ^ 12) ∧ (if (nI (v % 2 ^ 12) >>> ((nI 12 - (1 : Int32)) &&& 31)) = (1 : Int32) then nI (v % 2 ^ 12) - ((1 : Int32) <<< (nI 12 &&& 31)) else nI (v % 2 ^ 12)) = inpS v 12 := by
  constructor
  · exact pk_andN (by omega) 12 (by decide +kernel)
  · rw [pk_shrN (by omega) _ 11 (by decide +kernel), show (1 : Int32) <<< (nI 12 &&& 31) = nI (2 ^ 12) by decide +kernel]
    unfold inpS
    by_cases c : 2 ^ (12 - 1) ≤ v % 2 ^ 12
    · rw [if_pos c, if_pos]
      show nI _ = nI 1
      congr 1
      omega
    · rw [if_neg c, if_neg]
      intro q
      have q2 : nI (v % 2 ^ 12 / 2 ^ 11) = nI 1 := q
      rw [nI_eq (by omega) (by decide)] at q2
      omega
theorem cin {v wd : Nat} (hv : v < 4096) (h1 : 1 ≤ wd) (h2 : wd ≤ 12) : ((nI v <<< (((32 : Int32) - nI wd) &&& 31)).toUInt32 >>> (((32 : Int32) - nI wd).toUInt32 &&& Int32.toUInt32 31)).toInt32 = nI (v % 2 ^ wd) ∧ ((nI v <<< (((32 : Int32) - nI wd) &&& 31)) >>> (((32 : Int32) - nI wd) &&& 31)) = inpS v wd := by
  rcases (show wd = 1 ∨ wd = 2 ∨ wd = 3 ∨ wd = 4 ∨ wd = 5 ∨ wd = 6 ∨ wd = 7 ∨ wd = 8 ∨ wd = 9 ∨ wd = 10 ∨ wd = 11 ∨ wd = 12 by omega) with rfl | rfl | rfl | rfl | rfl | rfl | rfl | rfl | rfl | rfl | rfl | rfl
  · exact cin_1 hv
  · exact cin_2 hv
  · exact cin_3 hv
  · exact cin_4 hv
  · exact cin_5 hv
  · exact cin_6 hv
  · exact cin_7 hv
  · exact cin_8 hv
  · exact cin_9 hv
  · exact cin_10 hv
  · exact cin_11 hv
  · exact cin_12 hv
theorem minp {v wd : Nat} (hv : v < 4096) (h1 : 1 ≤ wd) (h2 : wd ≤ 12) : (nI v &&& (((1 : Int32) <<< (nI wd &&& 31)) - (1 : Int32))) = nI (v % 2 ^ wd) ∧ (if (nI (v % 2 ^ wd) >>> ((nI wd - (1 : Int32)) &&& 31)) = (1 : Int32) then nI (v % 2 ^ wd) - ((1 : Int32) <<< (nI wd &&& 31)) else nI (v % 2 ^ wd)) = inpS v wd := by
  rcases (show wd = 1 ∨ wd = 2 ∨ wd = 3 ∨ wd = 4 ∨ wd = 5 ∨ wd = 6 ∨ wd = 7 ∨ wd = 8 ∨ wd = 9 ∨ wd = 10 ∨ wd = 11 ∨ wd = 12 by omega) with rfl | rfl | rfl | rfl | rfl | rfl | rfl | rfl | rfl | rfl | rfl | rfl
  · exact minp_1 hv
  · exact minp_2 hv
  · exact minp_3 hv
  · exact minp_4 hv
  · exact minp_5 hv
  · exact minp_6 hv
  · exact minp_7 hv
  · exact minp_8 hv
  · exact minp_9 hv
  · exact minp_10 hv
  · exact minp_11 hv
  · exact minp_12 hv
