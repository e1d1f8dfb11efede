-- counting bits
def ct (p : Nat → Bool) : Nat → Nat
  | 0 => 0
  | n + 1 => ct p n + (if p n then 1 else 0)
theorem ct_cong {p q : Nat → Bool} : ∀ {n : Nat}, (∀ k, k < n → p k = q k) → ct p n = ct q n
  | 0, _ => rfl
  | n + 1, h => by
    show ct p n + _ = ct q n + _
    rw [ct_cong (fun k hk => h k (by omega)), h n (by omega)]
theorem ct_le (p : Nat → Bool) : ∀ n, ct p n ≤ n
  | 0 => Nat.le_refl 0
  | n + 1 => by
    have := ct_le p n
    show ct p n + _ ≤ n + 1
    split <;> omega
theorem ct_split (p : Nat → Bool) (m : Nat) : ∀ n, ct p (m + n) = ct p m + ct (fun k => p (m + k)) n
  | 0 => rfl
  | n + 1 => by
    show ct p (m + n) + _ = ct p m + (ct (fun k => p (m + k)) n + _)
    rw [ct_split p m n, Nat.add_assoc]
    rfl
theorem ct_succ' (p : Nat → Bool) (n : Nat) : ct p (n + 1) = (if p 0 then 1 else 0) + ct (fun k => p (k + 1)) n := by
  rw [show n + 1 = 1 + n by omega, ct_split p 1 n]
  have : ct p 1 = (if p 0 then 1 else 0) := by show 0 + _ = _; rw [Nat.zero_add]
  rw [this]
  congr 1
  exact ct_cong (fun k _ => by rw [Nat.add_comm])
theorem ct_rev (p : Nat → Bool) : ∀ n, ct (fun i => p (n - 1 - i)) n = ct p n
  | 0 => rfl
  | n + 1 => by
    rw [ct_succ']
    have : ct (fun k => p (n + 1 - 1 - (k + 1))) n = ct (fun i => p (n - 1 - i)) n := ct_cong (fun k hk => by congr 1; omega)
    rw [this, ct_rev p n]
    show (if p (n + 1 - 1 - 0) then 1 else 0) + ct p n = ct p n + (if p n then 1 else 0)
    rw [show n + 1 - 1 - 0 = n by omega, Nat.add_comm]
theorem ct_false {p : Nat → Bool} : ∀ {n : Nat}, (∀ k, k < n → p k = false) → ct p n = 0
  | 0, _ => rfl
  | n + 1, h => by
    show ct p n + _ = 0
    rw [ct_false (fun k hk => h k (by omega)), h n (by omega)]
    rfl
-- the steps of bitCount, a byte at a time
def M5 : Nat → Nat
  | 0 => 0
  | k + 1 => 256 * M5 k + 85
def M3 : Nat → Nat
  | 0 => 0
  | k + 1 => 256 * M3 k + 51
def MF : Nat → Nat
  | 0 => 0
  | k + 1 => 256 * MF k + 15
theorem and_split (h l H L : Nat) (hl : l < 256) (hL : L < 256) : (256 * h + l) &&& (256 * H + L) = 256 * (h &&& H) + (l &&& L) := by
  have e1 : ((256 * h + l) &&& (256 * H + L)) / 2 ^ 8 = h &&& H := by
    rw [Nat.and_div_two_pow]
    congr 1 <;> omega
  have e2 : ((256 * h + l) &&& (256 * H + L)) % 2 ^ 8 = l &&& L := by
    rw [Nat.and_mod_two_pow]
    congr 1 <;> omega
  have := Nat.div_add_mod ((256 * h + l) &&& (256 * H + L)) (2 ^ 8)
  rw [e1, e2] at this
  exact this.symm
def bs1 (k n : Nat) : Nat := n - ((n / 2) &&& M5 k)
def bs2 (k n : Nat) : Nat := (n &&& M3 k) + ((n / 4) &&& M3 k)
def bs3 (k n : Nat) : Nat := (n + n / 16) &&& MF k
theorem bt1 : ∀ b, b < 2 → ∀ l, l < 256 → (128 * b + l / 2) &&& 85 = (l / 2) &&& 85 := by decide +kernel
theorem bt2 : ∀ b, b < 4 → ∀ l, l < 256 → (64 * b + l / 4) &&& 51 = (l / 4) &&& 51 := by decide +kernel
theorem bt2b : ∀ l, l < 256 → (l &&& 51) + ((l / 4) &&& 51) ≤ 102 ∧ ((l &&& 51) + ((l / 4) &&& 51)) % 16 ≤ 6 := by decide +kernel
theorem bs1_split (k h l : Nat) (hl : l < 256) : bs1 (k + 1) (256 * h + l) = 256 * bs1 k h + bs1 1 l := by
  unfold bs1
  have e : (256 * h + l) / 2 = 256 * (h / 2) + (128 * (h % 2) + l / 2) := by omega
  rw [e, show M5 (k + 1) = 256 * M5 k + 85 from rfl, and_split _ _ _ _ (by omega) (by decide), bt1 _ (by omega) _ hl, show M5 1 = 85 from rfl]
  have h1 : (h / 2) &&& M5 k ≤ h / 2 := Nat.and_le_left
  have h2 : (l / 2) &&& 85 ≤ l / 2 := Nat.and_le_left
  omega
theorem bs2_split (k h l : Nat) (hl : l < 256) : bs2 (k + 1) (256 * h + l) = 256 * bs2 k h + bs2 1 l := by
  unfold bs2
  have e : (256 * h + l) / 4 = 256 * (h / 4) + (64 * (h % 4) + l / 4) := by omega
  rw [e, show M3 (k + 1) = 256 * M3 k + 51 from rfl, and_split _ _ _ _ (by omega) (by decide), and_split _ _ _ _ (by omega) (by decide), bt2 _ (by omega) _ hl, show M3 1 = 51 from rfl]
  omega
theorem bs3_split (k h l : Nat) (hl : l ≤ 102) (hh : h % 16 ≤ 6) : bs3 (k + 1) (256 * h + l) = 256 * bs3 k h + bs3 1 l := by
  unfold bs3
  have e : 256 * h + l + (256 * h + l) / 16 = 256 * (h + h / 16) + (l + 16 * (h % 16) + l / 16) := by omega
  have e2 : (l + 16 * (h % 16) + l / 16) &&& 15 = (l + l / 16) &&& 15 := by
    rw [show (15 : Nat) = 2 ^ 4 - 1 from rfl, Nat.and_two_pow_sub_one_eq_mod, Nat.and_two_pow_sub_one_eq_mod]
    omega
  rw [e, show MF (k + 1) = 256 * MF k + 15 from rfl, and_split _ _ _ _ (by omega) (by decide), e2, show MF 1 = 15 from rfl]
theorem bs2_low (k n : Nat) : bs2 k n % 16 ≤ 6 := by
  cases k with
  | zero => simp [bs2, M3]
  | succ k =>
    have e : n = 256 * (n / 256) + n % 256 := by omega
    rw [e, bs2_split _ _ _ (by omega)]
    have := (bt2b (n % 256) (by omega)).2
    have e2 : bs2 1 (n % 256) = (n % 256 &&& 51) + ((n % 256) / 4 &&& 51) := rfl
    rw [e2]
    omega
def pc8 (l : Nat) : Nat := bs3 1 (bs2 1 (bs1 1 l))
def pcB : Nat → Nat → Nat
  | 0, _ => 0
  | k + 1, n => 256 * pcB k (n / 256) + pc8 (n % 256)
theorem bs1_lt : ∀ l, l < 256 → bs1 1 l < 256 := by decide +kernel
theorem pcB_eq : ∀ (k n : Nat), n < 256 ^ k → bs3 k (bs2 k (bs1 k n)) = pcB k n
  | 0, n, h => by
    have : n = 0 := by simpa using h
    subst this
    rfl
  | k + 1, n, h => by
    have e : n = 256 * (n / 256) + n % 256 := by omega
    have hl : n % 256 < 256 := by omega
    have hq : n / 256 < 256 ^ k := by
      rw [Nat.div_lt_iff_lt_mul (by decide)]
      rw [Nat.pow_succ] at h
      exact h
    have h1 : bs1 (k + 1) n = 256 * bs1 k (n / 256) + bs1 1 (n % 256) := by
      conv => lhs; rw [e]
      exact bs1_split _ _ _ hl
    rw [h1, bs2_split _ _ _ (bs1_lt _ hl), bs3_split _ _ _ (show bs2 1 (bs1 1 (n % 256)) ≤ 102 from (bt2b _ (bs1_lt _ hl)).1) (bs2_low _ _), pcB_eq k _ hq]
    rfl
theorem pc8_le : ∀ l, l < 256 → pc8 l ≤ 8 := by decide +kernel
theorem pc8_ct : ∀ l, l < 256 → pc8 l = ct (fun i => l.testBit i) 8 := by decide +kernel
def pcS : Nat → Nat → Nat
  | 0, _ => 0
  | k + 1, n => pc8 (n % 256) + pcS k (n / 256)
theorem pcS_ct : ∀ (k n : Nat), pcS k n = ct (fun i => n.testBit i) (8 * k)
  | 0, _ => rfl
  | k + 1, n => by
    show pc8 (n % 256) + pcS k (n / 256) = _
    rw [show 8 * (k + 1) = 8 + 8 * k by omega, ct_split, pc8_ct _ (by omega), pcS_ct k]
    congr 1
    · exact ct_cong (fun i hi => by rw [show (256 : Nat) = 2 ^ 8 from rfl, Nat.testBit_mod_two_pow]; simp [hi])
    · exact ct_cong (fun i _ => by rw [show (256 : Nat) = 2 ^ 8 from rfl, Nat.testBit_div_two_pow, Nat.add_comm])
def um (x : Int64) : Nat := x.toBitVec.toNat
theorem um_lt (x : Int64) : um x < 2 ^ 64 := x.toBitVec.isLt
theorem um_lN {n : Nat} (h : n < 2 ^ 64) : um (lN n) = n := by
  show (BitVec.ofNat 64 n).toNat = n
  rw [BitVec.toNat_ofNat]
  exact Nat.mod_eq_of_lt h
theorem um_inj {x y : Int64} (h : um x = um y) : x = y := Int64.toBitVec_inj.mp (BitVec.eq_of_toNat_eq h)
theorem lN_um (x : Int64) : lN (um x) = x := um_inj (um_lN (um_lt x))
theorem lN_and (a b : Nat) : lN a &&& lN b = lN (a &&& b) := by
  apply Int64.toBitVec_inj.mp
  show BitVec.ofNat 64 a &&& BitVec.ofNat 64 b = BitVec.ofNat 64 (a &&& b)
  apply BitVec.eq_of_getLsbD_eq
  intro i hi
  simp [BitVec.getLsbD_ofNat, hi, Nat.testBit_and]
theorem lN_ushr {n k : Nat} (hn : n < 2 ^ 64) (c : Int32) (hc : (c.toInt64.toUInt64 &&& Int64.toUInt64 63).toNat % 64 = k) : ((lN n).toUInt64 >>> (c.toInt64.toUInt64 &&& Int64.toUInt64 63)).toInt64 = lN (n / 2 ^ k) := by
  apply um_inj
  show ((lN n).toUInt64 >>> (c.toInt64.toUInt64 &&& Int64.toUInt64 63)).toNat = _
  rw [UInt64.toNat_shiftRight, hc, Nat.shiftRight_eq_div_pow]
  have e : (lN n).toUInt64.toNat = n := um_lN hn
  rw [e, um_lN (Nat.lt_of_le_of_lt (Nat.div_le_self _ _) hn)]
theorem bc_1 {a r c : Nat} (m : Nat) (hm : 0 < m) (hc : c < m) (h : a = c + m * r) : a / m = r := by
  rw [h, Nat.add_mul_div_left _ _ hm, Nat.div_eq_of_lt hc, Nat.zero_add]
theorem bc_l1 {d0 d1 d2 d3 d4 d5 d6 d7 : Nat} : d0 + 256 * d1 + 65536 * d2 + 16777216 * d3 + 4294967296 * d4 + 1099511627776 * d5 + 281474976710656 * d6 + 72057594037927936 * d7 = d0 + 256 * (d1 + 256 * d2 + 65536 * d3 + 16777216 * d4 + 4294967296 * d5 + 1099511627776 * d6 + 281474976710656 * d7) := by omega
theorem bc_l2 {d0 d1 d2 d3 d4 d5 d6 d7 : Nat} : d0 + 256 * d1 + 65536 * d2 + 16777216 * d3 + 4294967296 * d4 + 1099511627776 * d5 + 281474976710656 * d6 + 72057594037927936 * d7 + (d1 + 256 * d2 + 65536 * d3 + 16777216 * d4 + 4294967296 * d5 + 1099511627776 * d6 + 281474976710656 * d7) = ((d0 + d1) + 256 * (d1 + d2)) + 65536 * ((d2 + d3) + 256 * (d3 + d4) + 65536 * (d4 + d5) + 16777216 * (d5 + d6) + 4294967296 * (d6 + d7) + 1099511627776 * d7) := by omega
theorem bc_l3 {d0 d1 d2 d3 d4 d5 d6 d7 : Nat} : d0 + 256 * d1 + 65536 * d2 + 16777216 * d3 + 4294967296 * d4 + 1099511627776 * d5 + 281474976710656 * d6 + 72057594037927936 * d7 + (d1 + 256 * d2 + 65536 * d3 + 16777216 * d4 + 4294967296 * d5 + 1099511627776 * d6 + 281474976710656 * d7) + ((d2 + d3) + 256 * (d3 + d4) + 65536 * (d4 + d5) + 16777216 * (d5 + d6) + 4294967296 * (d6 + d7) + 1099511627776 * d7) = ((d0 + d1 + d2 + d3) + 256 * (d1 + d2 + d3 + d4) + 65536 * (d2 + d3 + d4 + d5) + 16777216 * (d3 + d4 + d5 + d6)) + 4294967296 * ((d4 + d5 + d6 + d7) + 256 * (d5 + d6 + d7) + 65536 * (d6 + d7) + 16777216 * d7) := by omega
theorem bc_l4 {d0 d1 d2 d3 d4 d5 d6 d7 : Nat} : d0 + 256 * d1 + 65536 * d2 + 16777216 * d3 + 4294967296 * d4 + 1099511627776 * d5 + 281474976710656 * d6 + 72057594037927936 * d7 + (d1 + 256 * d2 + 65536 * d3 + 16777216 * d4 + 4294967296 * d5 + 1099511627776 * d6 + 281474976710656 * d7) + ((d2 + d3) + 256 * (d3 + d4) + 65536 * (d4 + d5) + 16777216 * (d5 + d6) + 4294967296 * (d6 + d7) + 1099511627776 * d7) + ((d4 + d5 + d6 + d7) + 256 * (d5 + d6 + d7) + 65536 * (d6 + d7) + 16777216 * d7) = (d0 + d1 + d2 + d3 + d4 + d5 + d6 + d7) + 128 * (2 * ((d1 + d2 + d3 + d4) + (d5 + d6 + d7)) + 512 * ((d2 + d3 + d4 + d5) + (d6 + d7)) + 131072 * ((d3 + d4 + d5 + d6) + d7) + 33554432 * (d4 + d5 + d6 + d7) + 8589934592 * (d5 + d6 + d7) + 2199023255552 * (d6 + d7) + 562949953421312 * d7) := by omega
theorem bc_l5 {d0 d1 d2 d3 d4 d5 d6 d7 : Nat} : d0 + 256 * (d1 + 256 * (d2 + 256 * (d3 + 256 * (d4 + 256 * (d5 + 256 * (d6 + 256 * d7)))))) = d0 + 256 * d1 + 65536 * d2 + 16777216 * d3 + 4294967296 * d4 + 1099511627776 * d5 + 281474976710656 * d6 + 72057594037927936 * d7 := by omega
theorem bc_b0 {d0 d1 d2 d3 d4 d5 d6 d7 : Nat} (c0 : d0 ≤ 8) (c1 : d1 ≤ 8) (c2 : d2 ≤ 8) (c3 : d3 ≤ 8) (c4 : d4 ≤ 8) (c5 : d5 ≤ 8) (c6 : d6 ≤ 8) (c7 : d7 ≤ 8) : d0 < 256 := by omega
theorem bc_b2 {d0 d1 d2 d3 d4 d5 d6 d7 : Nat} (c0 : d0 ≤ 8) (c1 : d1 ≤ 8) (c2 : d2 ≤ 8) (c3 : d3 ≤ 8) (c4 : d4 ≤ 8) (c5 : d5 ≤ 8) (c6 : d6 ≤ 8) (c7 : d7 ≤ 8) : (d0 + d1) + 256 * (d1 + d2) < 65536 := by omega
theorem bc_b3 {d0 d1 d2 d3 d4 d5 d6 d7 : Nat} (c0 : d0 ≤ 8) (c1 : d1 ≤ 8) (c2 : d2 ≤ 8) (c3 : d3 ≤ 8) (c4 : d4 ≤ 8) (c5 : d5 ≤ 8) (c6 : d6 ≤ 8) (c7 : d7 ≤ 8) : (d0 + d1 + d2 + d3) + 256 * (d1 + d2 + d3 + d4) + 65536 * (d2 + d3 + d4 + d5) + 16777216 * (d3 + d4 + d5 + d6) < 4294967296 := by omega
theorem bc_b4 {d0 d1 d2 d3 d4 d5 d6 d7 : Nat} (c0 : d0 ≤ 8) (c1 : d1 ≤ 8) (c2 : d2 ≤ 8) (c3 : d3 ≤ 8) (c4 : d4 ≤ 8) (c5 : d5 ≤ 8) (c6 : d6 ≤ 8) (c7 : d7 ≤ 8) : d0 + d1 + d2 + d3 + d4 + d5 + d6 + d7 < 128 := by omega
theorem bc_sum {d0 d1 d2 d3 d4 d5 d6 d7 i : Nat} (c0 : d0 ≤ 8) (c1 : d1 ≤ 8) (c2 : d2 ≤ 8) (c3 : d3 ≤ 8) (c4 : d4 ≤ 8) (c5 : d5 ≤ 8) (c6 : d6 ≤ 8) (c7 : d7 ≤ 8) (f0 : i = d0 + 256 * d1 + 65536 * d2 + 16777216 * d3 + 4294967296 * d4 + 1099511627776 * d5 + 281474976710656 * d6 + 72057594037927936 * d7) : (i + i / 2 ^ 8 + (i + i / 2 ^ 8) / 2 ^ 16 + (i + i / 2 ^ 8 + (i + i / 2 ^ 8) / 2 ^ 16) / 2 ^ 32) % 128 = d0 + d1 + d2 + d3 + d4 + d5 + d6 + d7 := by
  have f1 : i / 2 ^ 8 = d1 + 256 * d2 + 65536 * d3 + 16777216 * d4 + 4294967296 * d5 + 1099511627776 * d6 + 281474976710656 * d7 := bc_1 256 (by decide) (c := d0) (bc_b0 c0 c1 c2 c3 c4 c5 c6 c7) (f0.trans bc_l1)
  have f2 : (i + i / 2 ^ 8) / 2 ^ 16 = (d2 + d3) + 256 * (d3 + d4) + 65536 * (d4 + d5) + 16777216 * (d5 + d6) + 4294967296 * (d6 + d7) + 1099511627776 * d7 := bc_1 65536 (by decide) (c := (d0 + d1) + 256 * (d1 + d2)) (bc_b2 c0 c1 c2 c3 c4 c5 c6 c7) (by rw [f1, f0]; exact bc_l2)
  have f3 : (i + i / 2 ^ 8 + (i + i / 2 ^ 8) / 2 ^ 16) / 2 ^ 32 = (d4 + d5 + d6 + d7) + 256 * (d5 + d6 + d7) + 65536 * (d6 + d7) + 16777216 * d7 := bc_1 4294967296 (by decide) (c := (d0 + d1 + d2 + d3) + 256 * (d1 + d2 + d3 + d4) + 65536 * (d2 + d3 + d4 + d5) + 16777216 * (d3 + d4 + d5 + d6)) (bc_b3 c0 c1 c2 c3 c4 c5 c6 c7) (by rw [f2, f1, f0]; exact bc_l3)
  rw [f3, f2, f1, f0, bc_l4, Nat.add_mul_mod_self_left]
  exact Nat.mod_eq_of_lt (bc_b4 c0 c1 c2 c3 c4 c5 c6 c7)
theorem bc_i {d0 d1 d2 d3 d4 d5 d6 d7 i : Nat} (c0 : d0 ≤ 8) (c1 : d1 ≤ 8) (c2 : d2 ≤ 8) (c3 : d3 ≤ 8) (c4 : d4 ≤ 8) (c5 : d5 ≤ 8) (c6 : d6 ≤ 8) (c7 : d7 ≤ 8) (f0 : i = d0 + 256 * d1 + 65536 * d2 + 16777216 * d3 + 4294967296 * d4 + 1099511627776 * d5 + 281474976710656 * d6 + 72057594037927936 * d7) : i < 2 ^ 60 := by omega
theorem bc_h {a k b : Nat} (h : a < 2 ^ b) (hk : 0 < k) : a + a / 2 ^ k < 2 ^ (b + 1) := by
  have h1 : a / 2 ^ k ≤ a := Nat.div_le_self _ _
  rw [Nat.pow_succ]
  omega
theorem bitCount_eq (x : Int64) : f_J13_bitCount_95d88 x = some (nI (pcS 8 (um x)), ()) := by
  obtain ⟨n, hn, rfl⟩ : ∃ n, n < 2 ^ 64 ∧ x = lN n := ⟨um x, um_lt x, (lN_um x).symm⟩
  rw [um_lN hn]
  unfold f_J13_bitCount_95d88
  simp only [Option.bind_some]
  have k5 : (6148914691236517205 : Int64) = lN (M5 8) := by decide +kernel
  have k3 : (3689348814741910323 : Int64) = lN (M3 8) := by decide +kernel
  have kF : (1085102592571150095 : Int64) = lN (MF 8) := by decide +kernel
  have h5 : (n / 2) &&& M5 8 ≤ n / 2 := Nat.and_le_left
  have a1 : lN n - (((lN n).toUInt64 >>> ((1 : Int32).toInt64.toUInt64 &&& Int64.toUInt64 63)).toInt64 &&& (6148914691236517205 : Int64)) = lN (bs1 8 n) := by
    rw [lN_ushr (k := 1) hn 1 (by decide +kernel), k5, lN_and, show n / 2 ^ 1 = n / 2 from rfl, lN_sub (by omega)]
    rfl
  have b1 : bs1 8 n < 2 ^ 64 := by unfold bs1; omega
  rw [a1]
  have m3 : M3 8 < 2 ^ 62 := by decide +kernel
  have h3 : bs1 8 n &&& M3 8 ≤ M3 8 := Nat.and_le_right
  have h3' : (bs1 8 n / 4) &&& M3 8 ≤ M3 8 := Nat.and_le_right
  have a2 : (lN (bs1 8 n) &&& (3689348814741910323 : Int64)) + (((lN (bs1 8 n)).toUInt64 >>> ((2 : Int32).toInt64.toUInt64 &&& Int64.toUInt64 63)).toInt64 &&& (3689348814741910323 : Int64)) = lN (bs2 8 (bs1 8 n)) := by
    rw [lN_ushr (k := 2) b1 2 (by decide +kernel), k3, lN_and, lN_and, lN_add]
    rfl
  have b2 : bs2 8 (bs1 8 n) < 2 ^ 63 := by unfold bs2; omega
  rw [a2]
  have mF : MF 8 < 2 ^ 60 := by decide +kernel
  have a3 : (lN (bs2 8 (bs1 8 n)) + ((lN (bs2 8 (bs1 8 n))).toUInt64 >>> ((4 : Int32).toInt64.toUInt64 &&& Int64.toUInt64 63)).toInt64) &&& (1085102592571150095 : Int64) = lN (pcB 8 n) := by
    rw [lN_ushr (k := 4) (by omega) 4 (by decide +kernel), kF, lN_add, lN_and, ← pcB_eq 8 n (by simpa using hn)]
    rfl
  rw [a3]
  have e8 : pcB 8 n = pc8 (n % 256) + 256 * (pc8 (n / 256 % 256) + 256 * (pc8 (n / 256 / 256 % 256) + 256 * (pc8 (n / 256 / 256 / 256 % 256) + 256 * (pc8 (n / 256 / 256 / 256 / 256 % 256) + 256 * (pc8 (n / 256 / 256 / 256 / 256 / 256 % 256) + 256 * (pc8 (n / 256 / 256 / 256 / 256 / 256 / 256 % 256) + 256 * pc8 (n / 256 / 256 / 256 / 256 / 256 / 256 / 256 % 256))))))) := by
    simp only [pcB]
    omega
  have s8 : pcS 8 n = pc8 (n % 256) + pc8 (n / 256 % 256) + pc8 (n / 256 / 256 % 256) + pc8 (n / 256 / 256 / 256 % 256) + pc8 (n / 256 / 256 / 256 / 256 % 256) + pc8 (n / 256 / 256 / 256 / 256 / 256 % 256) + pc8 (n / 256 / 256 / 256 / 256 / 256 / 256 % 256) + pc8 (n / 256 / 256 / 256 / 256 / 256 / 256 / 256 % 256) := by
    simp only [pcS]
    omega
  have c0 := pc8_le (n % 256) (by omega)
  have c1 := pc8_le (n / 256 % 256) (by omega)
  have c2 := pc8_le (n / 256 / 256 % 256) (by omega)
  have c3 := pc8_le (n / 256 / 256 / 256 % 256) (by omega)
  have c4 := pc8_le (n / 256 / 256 / 256 / 256 % 256) (by omega)
  have c5 := pc8_le (n / 256 / 256 / 256 / 256 / 256 % 256) (by omega)
  have c6 := pc8_le (n / 256 / 256 / 256 / 256 / 256 / 256 % 256) (by omega)
  have c7 := pc8_le (n / 256 / 256 / 256 / 256 / 256 / 256 / 256 % 256) (by omega)
  rw [s8]
  generalize pcB 8 n = i at e8 ⊢
  generalize pc8 (n % 256) = d0 at *
  generalize pc8 (n / 256 % 256) = d1 at *
  generalize pc8 (n / 256 / 256 % 256) = d2 at *
  generalize pc8 (n / 256 / 256 / 256 % 256) = d3 at *
  generalize pc8 (n / 256 / 256 / 256 / 256 % 256) = d4 at *
  generalize pc8 (n / 256 / 256 / 256 / 256 / 256 % 256) = d5 at *
  generalize pc8 (n / 256 / 256 / 256 / 256 / 256 / 256 % 256) = d6 at *
  generalize pc8 (n / 256 / 256 / 256 / 256 / 256 / 256 / 256 % 256) = d7 at *
  have i1 : i < 2 ^ 60 := bc_i c0 c1 c2 c3 c4 c5 c6 c7 (e8.trans bc_l5)
  rw [lN_ushr (k := 8) (Nat.lt_trans i1 (by decide)) 8 (by decide +kernel), lN_add]
  have i2 : i + i / 2 ^ 8 < 2 ^ 61 := bc_h i1 (by decide)
  rw [lN_ushr (k := 16) (Nat.lt_trans i2 (by decide)) 16 (by decide +kernel), lN_add]
  have i3 : i + i / 2 ^ 8 + (i + i / 2 ^ 8) / 2 ^ 16 < 2 ^ 62 := bc_h i2 (by decide)
  rw [lN_ushr (k := 32) (Nat.lt_trans i3 (by decide)) 32 (by decide +kernel), lN_add, lN_i]
  have e : ∀ a, nI a &&& (127 : Int32) = nI (a % 128) := fun a => by
    apply Int32.toBitVec_inj.mp
    show BitVec.ofNat 32 a &&& BitVec.ofNat 32 127 = BitVec.ofNat 32 (a % 128)
    apply BitVec.eq_of_getLsbD_eq
    intro j hj
    rw [BitVec.getLsbD_and, BitVec.getLsbD_ofNat, BitVec.getLsbD_ofNat, BitVec.getLsbD_ofNat, show (127 : Nat) = 2 ^ 7 - 1 from rfl, show (128 : Nat) = 2 ^ 7 from rfl, Nat.testBit_two_pow_sub_one, Nat.testBit_mod_two_pow]
    simp [hj, Bool.and_comm]
  rw [e]
  have f0 : i = d0 + 256 * d1 + 65536 * d2 + 16777216 * d3 + 4294967296 * d4 + 1099511627776 * d5 + 281474976710656 * d6 + 72057594037927936 * d7 := e8.trans bc_l5
  have f4 := bc_sum c0 c1 c2 c3 c4 c5 c6 c7 f0
  rw [f4]
