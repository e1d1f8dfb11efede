-- sets of places as longs
theorem lt_tb {x y : Nat} (i : Nat) (hx : x.testBit i = false) (hy : y.testBit i = true) (h : ∀ j, i < j → x.testBit j = y.testBit j) : x < y := by
  have e1 : x / 2 ^ (i + 1) = y / 2 ^ (i + 1) := by
    apply Nat.eq_of_testBit_eq
    intro j
    rw [Nat.testBit_div_two_pow, Nat.testBit_div_two_pow]
    exact h _ (by omega)
  have h1 : x % 2 ^ (i + 1) < 2 ^ i := by
    apply Nat.lt_pow_two_of_testBit
    intro j hj
    rw [Nat.testBit_mod_two_pow]
    by_cases c : j = i
    · subst c; rw [hx]; simp
    · have : ¬ j < i + 1 := by omega
      simp [this]
  have h2 : 2 ^ i ≤ y % 2 ^ (i + 1) := by
    rcases Nat.lt_or_ge (y % 2 ^ (i + 1)) (2 ^ i) with c | c
    · have := Nat.testBit_lt_two_pow c
      rw [Nat.testBit_mod_two_pow, hy] at this
      simp at this
    · exact c
  have a := Nat.div_add_mod x (2 ^ (i + 1))
  have b := Nat.div_add_mod y (2 ^ (i + 1))
  rw [e1] at a
  omega
def bitp (p : Nat) : Int64 := lN (2 ^ (59 - p))
theorem mark_eq {p : Nat} (hp : p < 60) : f_X4_mark (nI p) = some (bitp p, ()) := by
  unfold f_X4_mark bitp
  have : ∀ p, p < 60 → (1 : Int64) <<< (((59 : Int32) - nI p).toInt64 &&& 63) = lN (2 ^ (59 - p)) := by decide +kernel
  rw [this p hp]
def enc (m : Int64) (S : Nat → Bool) : Prop := ∀ i, i < 64 → (um m).testBit i = (decide (i < 60) && S (59 - i))
theorem enc_cong {m : Int64} {S S' : Nat → Bool} (h : enc m S) (e : ∀ p, p < 60 → S p = S' p) : enc m S' := fun i hi => by
  rw [h i hi]
  by_cases c : i < 60
  · rw [e (59 - i) (by omega)]
  · simp [c]
theorem enc_zero : enc 0 (fun _ => false) := fun i hi => by
  have : um 0 = 0 := by decide +kernel
  simp [this]
theorem bitp_tb {p : Nat} (hp : p < 60) (i : Nat) : (um (bitp p)).testBit i = decide (59 - p = i) := by
  unfold bitp
  rw [um_lN (Nat.pow_lt_pow_right (by decide) (by omega)), Nat.testBit_two_pow]
theorem um_or (a b : Int64) : um (a ||| b) = um a ||| um b := by
  show (a ||| b).toBitVec.toNat = _
  rw [Int64.toBitVec_or, BitVec.toNat_or]
  rfl
theorem um_and (a b : Int64) : um (a &&& b) = um a &&& um b := by
  show (a &&& b).toBitVec.toNat = _
  rw [Int64.toBitVec_and, BitVec.toNat_and]
  rfl
theorem enc_or {m m' : Int64} {S S' : Nat → Bool} (h : enc m S) (h' : enc m' S') : enc (m ||| m') (fun q => S q || S' q) := fun i hi => by
  rw [um_or, Nat.testBit_or, h i hi, h' i hi]
  cases decide (i < 60) <;> simp
theorem enc_bitp {p : Nat} (hp : p < 60) : enc (bitp p) (fun q => decide (q = p)) := fun i hi => by
  rw [bitp_tb hp]
  by_cases c : 59 - p = i
  · have h1 : i < 60 := by omega
    have h2 : 59 - i = p := by omega
    simp [c, h1, h2]
  · by_cases d : i < 60
    · have h2 : ¬ 59 - i = p := by omega
      simp [c, d, h2]
    · simp [c, d]
theorem enc_add {m : Int64} {S : Nat → Bool} {p : Nat} (h : enc m S) (hp : p < 60) : enc (m ||| bitp p) (fun q => S q || decide (q = p)) := enc_or h (enc_bitp hp)
theorem enc_tb {m : Int64} {S : Nat → Bool} {p : Nat} (h : enc m S) (hp : p < 60) : (um m).testBit (59 - p) = S p := by
  rw [h _ (by omega), show 59 - (59 - p) = p by omega]
  simp [show 59 - p < 60 by omega]
theorem enc_bits {m : Int64} {S : Nat → Bool} (h : enc m S) (i : Nat) (hi : ¬ i < 60) : (um m).testBit i = false := by
  by_cases c : i < 64
  · rw [h i c]; simp [hi]
  · exact Nat.testBit_lt_two_pow (Nat.lt_of_lt_of_le (um_lt m) (Nat.pow_le_pow_right (by decide) (by omega)))
theorem and_bitp {m : Int64} {S : Nat → Bool} {p : Nat} (h : enc m S) (hp : p < 60) : (m &&& bitp p) = 0 ↔ S p = false := by
  constructor
  · intro e
    have h1 : (um (m &&& bitp p)).testBit (59 - p) = false := by rw [e]; simp [show um 0 = 0 by decide +kernel]
    rw [um_and, Nat.testBit_and, enc_tb h hp, bitp_tb hp] at h1
    simpa using h1
  · intro e
    apply um_inj
    apply Nat.eq_of_testBit_eq
    intro i
    rw [um_and, Nat.testBit_and, bitp_tb hp, show um 0 = 0 by decide +kernel, Nat.zero_testBit]
    by_cases c : 59 - p = i
    · subst c
      rw [enc_tb h hp, e]
      rfl
    · simp [c]
theorem lg_cmp0 (x y : Int64) : (lg_cmp x y = 0) ↔ x = y := by
  unfold lg_cmp
  by_cases c : x > y
  · rw [if_pos c]
    refine ⟨fun h => absurd h (by decide), fun h => ?_⟩
    subst h
    exact absurd c (Int64.lt_irrefl)
  · rw [if_neg c]
    by_cases d : x = y
    · simp [d]
    · rw [if_neg d]
      exact ⟨fun h => absurd h (by decide), fun h => absurd h d⟩
theorem isMarked_eq {m : Int64} {S : Nat → Bool} {p : Nat} (h : enc m S) (hp : p < 60) : f_X4_isMarked m (nI p) = some ((if S p then 1 else 0), ()) := by
  unfold f_X4_isMarked
  rw [mark_eq hp]
  simp only [Option.bind_some]
  by_cases c : S p = true
  · rw [if_neg (fun q => ?_), c]
    · rfl
    · rw [lg_cmp0, and_bitp h hp, c] at q
      cases q
  · have c' : S p = false := by simpa using c
    rw [if_pos ((lg_cmp0 _ _).mpr ((and_bitp h hp).mpr c')), c']
    rfl
theorem bitCount_enc {m : Int64} {S : Nat → Bool} (h : enc m S) : f_J13_bitCount_95d88 m = some (nI (ct S 60), ()) := by
  rw [bitCount_eq, pcS_ct]
  have e : ct (fun i => (um m).testBit i) (8 * 8) = ct S 60 := by
    rw [show 8 * 8 = 60 + 4 from rfl, ct_split, ct_false (p := fun k => (um m).testBit (60 + k)) (fun k _ => enc_bits h _ (by omega)), Nat.add_zero, ← ct_rev S 60]
    exact ct_cong (fun i hi => by rw [h i (by omega)]; simp [hi])
  rw [e]
theorem enc_inj {m m' : Int64} {S S' : Nat → Bool} (h : enc m S) (h' : enc m' S') : m = m' ↔ ∀ p, p < 60 → S p = S' p := by
  constructor
  · intro e p hp
    subst e
    rw [← enc_tb h hp, ← enc_tb h' hp]
  · intro e
    apply um_inj
    apply Nat.eq_of_testBit_eq
    intro i
    by_cases c : i < 60
    · rw [h i (by omega), h' i (by omega), e (59 - i) (by omega)]
    · rw [enc_bits h i c, enc_bits h' i c]
theorem enc_um {m : Int64} {S : Nat → Bool} (h : enc m S) : um m < 2 ^ 60 := by
  apply Nat.lt_pow_two_of_testBit
  intro i hi
  exact enc_bits h i (by omega)
theorem enc_int {m : Int64} {S : Nat → Bool} (h : enc m S) : m.toInt = (um m : Int) := by
  have := enc_um h
  have e : m.toInt = (lN (um m)).toInt := by rw [lN_um]
  rw [e, pk_lT (by omega)]
/-- the order of rows of decisions -/
theorem enc_lt {m m' : Int64} {S S' : Nat → Bool} (h : enc m S) (h' : enc m' S') {p : Nat} (hp : p < 60) (he : ∀ q, q < p → S q = S' q) (h1 : S p = true) (h0 : S' p = false) : m' < m := by
  rw [Int64.lt_iff_toInt_lt, enc_int h, enc_int h']
  have : um m' < um m := by
    apply lt_tb (59 - p)
    · rw [enc_tb h' hp]; exact h0
    · rw [enc_tb h hp]; exact h1
    · intro j hj
      by_cases c : j < 60
      · rw [h' j (by omega), h j (by omega), he (59 - j) (by omega)]
      · rw [enc_bits h' j c, enc_bits h j c]
  omega
theorem ct_lt {S : Nat → Bool} {a b : Nat} (h : a < b) (ha : S a = true) : ct S a < ct S b := by
  obtain ⟨d, rfl⟩ : ∃ d, b = (a + 1) + d := ⟨b - (a + 1), by omega⟩
  rw [ct_split]
  have : ct S (a + 1) = ct S a + 1 := by show ct S a + _ = _; rw [if_pos ha]
  omega
theorem ct_mono (S : Nat → Bool) {a b : Nat} (h : a ≤ b) : ct S a ≤ ct S b := by
  obtain ⟨d, rfl⟩ : ∃ d, b = a + d := ⟨b - a, by omega⟩
  rw [ct_split]
  omega
theorem placeOfMark_yes {n : Nat} {m : Int64} {S : Nat → Bool} (hn : 60 < n) (h : enc m S) {q : Nat} (hq : q < 60) (hS : S q = true) : f_X4_placeOfMark n m (nI (ct S q)) = some (nI q, ()) := by
  unfold f_X4_placeOfMark
  refine lp_run (I := fun v => ∃ p, p ≤ q ∧ v = (nI (ct S p), nI p)) (F := fun _ => some (nI q, ())) (μ := fun v => 60 - v.2.toNatClampNeg) ?_ n _ ⟨0, by omega, rfl⟩ ?_
  · rintro rec v ⟨p, hp, rfl⟩ ih
    unfold f_X4_placeOfMark_l5
    have e60 : ¬ (60 : Int32) ≤ nI p := nI_ge (a := p) (b := 60) (by omega) (by decide)
    have hc := ct_le S p
    have hc2 := ct_le S q
    dsimp only
    rw [if_neg e60, isMarked_eq h (by omega)]
    simp only [Option.bind_some]
    have c1 : (nI p).toNatClampNeg = p := nI_clamp (by omega)
    have c2 : (nI (p + 1)).toNatClampNeg = p + 1 := nI_clamp (by omega)
    by_cases c : S p = true
    · rw [c]
      simp only [if_true]
      rw [if_neg (by decide)]
      by_cases d : p = q
      · subst d
        rw [if_pos rfl]
      · have hlt := ct_lt (S := S) (show p < q by omega) c
        rw [if_neg (by rw [nI_eq (by omega) (by omega)]; omega)]
        unfold f_X4_placeOfMark_b32
        have e1 : ct S (p + 1) = ct S p + 1 := by show ct S p + _ = _; rw [if_pos c]
        rw [nI_1, nI_1, ← e1]
        exact ih _ ⟨p + 1, by omega, rfl⟩ (by dsimp only; rw [c1, c2]; omega)
    · have c' : S p = false := by simpa using c
      rw [c']
      simp only [Bool.false_eq_true, if_false, if_true]
      unfold f_X4_placeOfMark_b32
      have e1 : ct S (p + 1) = ct S p := by show ct S p + _ = _; rw [c']; rfl
      have hne : p ≠ q := fun e => by rw [e] at c'; rw [hS] at c'; cases c'
      rw [nI_1, ← e1]
      exact ih _ ⟨p + 1, by omega, rfl⟩ (by dsimp only; rw [c1, c2]; omega)
  · show 60 - (nI 0).toNatClampNeg < n
    omega
theorem placeOfMark_no {n : Nat} {m : Int64} {S : Nat → Bool} (hn : 60 < n) (h : enc m S) {j : Int32} (hj : ∀ q, q < 60 → S q = true → j ≠ nI (ct S q)) : f_X4_placeOfMark n m j = some (-1, ()) := by
  unfold f_X4_placeOfMark
  refine lp_run (I := fun v => ∃ p, p ≤ 60 ∧ v = (nI (ct S p), nI p)) (F := fun _ => some (-1, ())) (μ := fun v => 60 - v.2.toNatClampNeg) ?_ n _ ⟨0, by omega, rfl⟩ ?_
  · rintro rec v ⟨p, hp, rfl⟩ ih
    unfold f_X4_placeOfMark_l5
    have hc := ct_le S p
    have c1 : (nI p).toNatClampNeg = p := nI_clamp (by omega)
    have c2 : (nI (p + 1)).toNatClampNeg = p + 1 := nI_clamp (by omega)
    dsimp only
    by_cases d : p = 60
    · subst d
      rw [if_pos (show (60 : Int32) ≤ nI 60 by decide)]
    rw [if_neg (show ¬ (60 : Int32) ≤ nI p from nI_ge (a := p) (b := 60) (by omega) (by decide)), isMarked_eq h (by omega)]
    simp only [Option.bind_some]
    by_cases c : S p = true
    · rw [c]
      simp only [if_true]
      rw [if_neg (by decide), if_neg (fun e => hj p (by omega) c e.symm)]
      unfold f_X4_placeOfMark_b32
      have e1 : ct S (p + 1) = ct S p + 1 := by show ct S p + _ = _; rw [if_pos c]
      rw [nI_1, nI_1, ← e1]
      exact ih _ ⟨p + 1, by omega, rfl⟩ (by dsimp only; rw [c1, c2]; omega)
    · have c' : S p = false := by simpa using c
      rw [c']
      simp only [Bool.false_eq_true, if_false, if_true]
      unfold f_X4_placeOfMark_b32
      have e1 : ct S (p + 1) = ct S p := by show ct S p + _ = _; rw [c']; rfl
      rw [nI_1, ← e1]
      exact ih _ ⟨p + 1, by omega, rfl⟩ (by dsimp only; rw [c1, c2]; omega)
  · show 60 - (nI 0).toNatClampNeg < n
    omega
