-- input, tell, clear
theorem n32 {u : Int32} (h : ¬ u < 0) (h2 : u ≤ 31) : u = 0 ∨ u = 1 ∨ u = 2 ∨ u = 3 ∨ u = 4 ∨ u = 5 ∨ u = 6 ∨ u = 7 ∨ u = 8 ∨ u = 9 ∨ u = 10 ∨ u = 11 ∨ u = 12 ∨ u = 13 ∨ u = 14 ∨ u = 15 ∨ u = 16 ∨ u = 17 ∨ u = 18 ∨ u = 19 ∨ u = 20 ∨ u = 21 ∨ u = 22 ∨ u = 23 ∨ u = 24 ∨ u = 25 ∨ u = 26 ∨ u = 27 ∨ u = 28 ∨ u = 29 ∨ u = 30 ∨ u = 31 := by
  obtain ⟨j, hj, rfl⟩ := nI_of2 (n := 31) (by decide) h h2
  have : j = 0 ∨ j = 1 ∨ j = 2 ∨ j = 3 ∨ j = 4 ∨ j = 5 ∨ j = 6 ∨ j = 7 ∨ j = 8 ∨ j = 9 ∨ j = 10 ∨ j = 11 ∨ j = 12 ∨ j = 13 ∨ j = 14 ∨ j = 15 ∨ j = 16 ∨ j = 17 ∨ j = 18 ∨ j = 19 ∨ j = 20 ∨ j = 21 ∨ j = 22 ∨ j = 23 ∨ j = 24 ∨ j = 25 ∨ j = 26 ∨ j = 27 ∨ j = 28 ∨ j = 29 ∨ j = 30 ∨ j = 31 := by omega
  rcases this with rfl | rfl | rfl | rfl | rfl | rfl | rfl | rfl | rfl | rfl | rfl | rfl | rfl | rfl | rfl | rfl | rfl | rfl | rfl | rfl | rfl | rfl | rfl | rfl | rfl | rfl | rfl | rfl | rfl | rfl | rfl | rfl
  · exact Or.inl rfl
  · exact Or.inr (Or.inl rfl)
  · exact Or.inr (Or.inr (Or.inl rfl))
  · exact Or.inr (Or.inr (Or.inr (Or.inl rfl)))
  · exact Or.inr (Or.inr (Or.inr (Or.inr (Or.inl rfl))))
  · exact Or.inr (Or.inr (Or.inr (Or.inr (Or.inr (Or.inl rfl)))))
  · exact Or.inr (Or.inr (Or.inr (Or.inr (Or.inr (Or.inr (Or.inl rfl))))))
  · exact Or.inr (Or.inr (Or.inr (Or.inr (Or.inr (Or.inr (Or.inr (Or.inl rfl)))))))
  · exact Or.inr (Or.inr (Or.inr (Or.inr (Or.inr (Or.inr (Or.inr (Or.inr (Or.inl rfl))))))))
  · exact Or.inr (Or.inr (Or.inr (Or.inr (Or.inr (Or.inr (Or.inr (Or.inr (Or.inr (Or.inl rfl)))))))))
  · exact Or.inr (Or.inr (Or.inr (Or.inr (Or.inr (Or.inr (Or.inr (Or.inr (Or.inr (Or.inr (Or.inl rfl))))))))))
  · exact Or.inr (Or.inr (Or.inr (Or.inr (Or.inr (Or.inr (Or.inr (Or.inr (Or.inr (Or.inr (Or.inr (Or.inl rfl)))))))))))
  · exact Or.inr (Or.inr (Or.inr (Or.inr (Or.inr (Or.inr (Or.inr (Or.inr (Or.inr (Or.inr (Or.inr (Or.inr (Or.inl rfl))))))))))))
  · exact Or.inr (Or.inr (Or.inr (Or.inr (Or.inr (Or.inr (Or.inr (Or.inr (Or.inr (Or.inr (Or.inr (Or.inr (Or.inr (Or.inl rfl)))))))))))))
  · exact Or.inr (Or.inr (Or.inr (Or.inr (Or.inr (Or.inr (Or.inr (Or.inr (Or.inr (Or.inr (Or.inr (Or.inr (Or.inr (Or.inr (Or.inl rfl))))))))))))))
  · exact Or.inr (Or.inr (Or.inr (Or.inr (Or.inr (Or.inr (Or.inr (Or.inr (Or.inr (Or.inr (Or.inr (Or.inr (Or.inr (Or.inr (Or.inr (Or.inl rfl)))))))))))))))
  · exact Or.inr (Or.inr (Or.inr (Or.inr (Or.inr (Or.inr (Or.inr (Or.inr (Or.inr (Or.inr (Or.inr (Or.inr (Or.inr (Or.inr (Or.inr (Or.inr (Or.inl rfl))))))))))))))))
  · exact Or.inr (Or.inr (Or.inr (Or.inr (Or.inr (Or.inr (Or.inr (Or.inr (Or.inr (Or.inr (Or.inr (Or.inr (Or.inr (Or.inr (Or.inr (Or.inr (Or.inr (Or.inl rfl)))))))))))))))))
  · exact Or.inr (Or.inr (Or.inr (Or.inr (Or.inr (Or.inr (Or.inr (Or.inr (Or.inr (Or.inr (Or.inr (Or.inr (Or.inr (Or.inr (Or.inr (Or.inr (Or.inr (Or.inr (Or.inl rfl))))))))))))))))))
  · exact Or.inr (Or.inr (Or.inr (Or.inr (Or.inr (Or.inr (Or.inr (Or.inr (Or.inr (Or.inr (Or.inr (Or.inr (Or.inr (Or.inr (Or.inr (Or.inr (Or.inr (Or.inr (Or.inr (Or.inl rfl)))))))))))))))))))
  · exact Or.inr (Or.inr (Or.inr (Or.inr (Or.inr (Or.inr (Or.inr (Or.inr (Or.inr (Or.inr (Or.inr (Or.inr (Or.inr (Or.inr (Or.inr (Or.inr (Or.inr (Or.inr (Or.inr (Or.inr (Or.inl rfl))))))))))))))))))))
  · exact Or.inr (Or.inr (Or.inr (Or.inr (Or.inr (Or.inr (Or.inr (Or.inr (Or.inr (Or.inr (Or.inr (Or.inr (Or.inr (Or.inr (Or.inr (Or.inr (Or.inr (Or.inr (Or.inr (Or.inr (Or.inr (Or.inl rfl)))))))))))))))))))))
  · exact Or.inr (Or.inr (Or.inr (Or.inr (Or.inr (Or.inr (Or.inr (Or.inr (Or.inr (Or.inr (Or.inr (Or.inr (Or.inr (Or.inr (Or.inr (Or.inr (Or.inr (Or.inr (Or.inr (Or.inr (Or.inr (Or.inr (Or.inl rfl))))))))))))))))))))))
  · exact Or.inr (Or.inr (Or.inr (Or.inr (Or.inr (Or.inr (Or.inr (Or.inr (Or.inr (Or.inr (Or.inr (Or.inr (Or.inr (Or.inr (Or.inr (Or.inr (Or.inr (Or.inr (Or.inr (Or.inr (Or.inr (Or.inr (Or.inr (Or.inl rfl)))))))))))))))))))))))
  · exact Or.inr (Or.inr (Or.inr (Or.inr (Or.inr (Or.inr (Or.inr (Or.inr (Or.inr (Or.inr (Or.inr (Or.inr (Or.inr (Or.inr (Or.inr (Or.inr (Or.inr (Or.inr (Or.inr (Or.inr (Or.inr (Or.inr (Or.inr (Or.inr (Or.inl rfl))))))))))))))))))))))))
  · exact Or.inr (Or.inr (Or.inr (Or.inr (Or.inr (Or.inr (Or.inr (Or.inr (Or.inr (Or.inr (Or.inr (Or.inr (Or.inr (Or.inr (Or.inr (Or.inr (Or.inr (Or.inr (Or.inr (Or.inr (Or.inr (Or.inr (Or.inr (Or.inr (Or.inr (Or.inl rfl)))))))))))))))))))))))))
  · exact Or.inr (Or.inr (Or.inr (Or.inr (Or.inr (Or.inr (Or.inr (Or.inr (Or.inr (Or.inr (Or.inr (Or.inr (Or.inr (Or.inr (Or.inr (Or.inr (Or.inr (Or.inr (Or.inr (Or.inr (Or.inr (Or.inr (Or.inr (Or.inr (Or.inr (Or.inr (Or.inl rfl))))))))))))))))))))))))))
  · exact Or.inr (Or.inr (Or.inr (Or.inr (Or.inr (Or.inr (Or.inr (Or.inr (Or.inr (Or.inr (Or.inr (Or.inr (Or.inr (Or.inr (Or.inr (Or.inr (Or.inr (Or.inr (Or.inr (Or.inr (Or.inr (Or.inr (Or.inr (Or.inr (Or.inr (Or.inr (Or.inr (Or.inl rfl)))))))))))))))))))))))))))
  · exact Or.inr (Or.inr (Or.inr (Or.inr (Or.inr (Or.inr (Or.inr (Or.inr (Or.inr (Or.inr (Or.inr (Or.inr (Or.inr (Or.inr (Or.inr (Or.inr (Or.inr (Or.inr (Or.inr (Or.inr (Or.inr (Or.inr (Or.inr (Or.inr (Or.inr (Or.inr (Or.inr (Or.inr (Or.inl rfl))))))))))))))))))))))))))))
  · exact Or.inr (Or.inr (Or.inr (Or.inr (Or.inr (Or.inr (Or.inr (Or.inr (Or.inr (Or.inr (Or.inr (Or.inr (Or.inr (Or.inr (Or.inr (Or.inr (Or.inr (Or.inr (Or.inr (Or.inr (Or.inr (Or.inr (Or.inr (Or.inr (Or.inr (Or.inr (Or.inr (Or.inr (Or.inr (Or.inl rfl)))))))))))))))))))))))))))))
  · exact Or.inr (Or.inr (Or.inr (Or.inr (Or.inr (Or.inr (Or.inr (Or.inr (Or.inr (Or.inr (Or.inr (Or.inr (Or.inr (Or.inr (Or.inr (Or.inr (Or.inr (Or.inr (Or.inr (Or.inr (Or.inr (Or.inr (Or.inr (Or.inr (Or.inr (Or.inr (Or.inr (Or.inr (Or.inr (Or.inr (Or.inl rfl))))))))))))))))))))))))))))))
  · exact Or.inr (Or.inr (Or.inr (Or.inr (Or.inr (Or.inr (Or.inr (Or.inr (Or.inr (Or.inr (Or.inr (Or.inr (Or.inr (Or.inr (Or.inr (Or.inr (Or.inr (Or.inr (Or.inr (Or.inr (Or.inr (Or.inr (Or.inr (Or.inr (Or.inr (Or.inr (Or.inr (Or.inr (Or.inr (Or.inr (Or.inr (rfl)))))))))))))))))))))))))))))))
def rgb (v : Int32) : Bool := decide (¬ v < 0 ∧ ¬ (16 : Int32) ≤ v)
def tgb (z : Nat) (v : Int32) : Bool := decide (¬ v ≤ nI z ∧ ¬ (60 : Int32) < v)
theorem isReg4 (v : Int32) : f_X4_isRegister v = some ((if rgb v then 1 else 0), ()) := by
  unfold f_X4_isRegister rgb
  by_cases c : v < 0
  · simp [c]
  · by_cases d : (16 : Int32) ≤ v
    · simp [c, d]
    · simp [c, d]
theorem isReg5 (v : Int32) : f_X5_isRegister v = some ((if rgb v then 1 else 0), ()) := isReg4 v
theorem isTgt3 {z : Nat} {pI : Nat → Int32} (h : pI 2 = nI z) (v : Int32) : f_X3_isTarget v pI = some ((if tgb z v then 1 else 0), ()) := by
  unfold f_X3_isTarget tgb
  rw [h]
  by_cases c : v ≤ nI z
  · simp [c]
  · by_cases d : (60 : Int32) < v
    · simp [c, d]
    · simp [c, d]
theorem isTgt5 {z : Nat} {rI : Nat → Int32} (h : rI 3 = nI z) (K : List Nat) (v : Int32) : f_X5_isTarget K v rI = some ((if tgb z v then 1 else 0), ()) := by
  unfold f_X5_isTarget tgb
  rw [h]
  by_cases c : v ≤ nI z
  · simp [c]
  · by_cases d : (60 : Int32) < v
    · simp [c, d]
    · simp [c, d]
theorem rgb_rg {v : Int32} (h : rgb v = true) : rg v := by
  have h1 : ¬ v < 0 ∧ ¬ (16 : Int32) ≤ v := of_decide_eq_true h
  obtain ⟨j, hj, rfl⟩ := nI_of h1.1
  exact ⟨j, Decidable.byContradiction fun q => h1.2 (nI_le (a := 16) (b := j) (by omega) hj), rfl⟩
theorem tgb_t {z : Nat} {v : Int32} (hz : z ≤ 60) (h : tgb z v = true) : ∃ t, z < t ∧ t ≤ 60 ∧ v = nI t := by
  have h1 : ¬ v ≤ nI z ∧ ¬ (60 : Int32) < v := of_decide_eq_true h
  have h0 : ¬ v < 0 := fun q => h1.1 (Int32.le_of_lt (Int32.lt_of_lt_of_le q (nI_pos' (by omega))))
  obtain ⟨t, ht, rfl⟩ := nI_of h0
  refine ⟨t, Decidable.byContradiction fun q => h1.1 (nI_le (by omega) (by omega)), Decidable.byContradiction fun q => h1.2 ?_, rfl⟩
  exact Int32.not_le.mp (nI_ge (a := 60) (b := t) (by omega) ht)
def inB (k : Nat) (v : Int32) : Bool := decide (¬ v < 0 ∧ ¬ nI k ≤ v)
def flB (v : Int32) : Bool := decide (¬ v < 0 ∧ ¬ (255 : Int32) < v)
def goodB (k z : Nat) (u1 u2 u3 u4 : Int32) : Bool :=
  if u1 = 0 ∨ u1 = 29 ∨ u1 = 31 then rgb u2
  else if u1 = 1 then rgb u2 && inB k u3
  else if u1 = 2 ∨ u1 = 22 ∨ u1 = 23 ∨ u1 = 25 ∨ u1 = 26 then rgb u2 && rgb u3
  else if u1 = 27 then rgb u2 && tgb z u3
  else if u1 = 28 then tgb z u2
  else if u1 = 30 then flB u2
  else if u1 = 24 ∨ (¬ u1 < 3 ∧ u1 ≤ 21) then rgb u2 && rgb u3 && rgb u4
  else false
theorem fits_eq {k z : Nat} {pI : Nat → Int32} (h0 : pI 0 = nI k) (h2 : pI 2 = nI z) (u1 u2 u3 u4 : Int32) : f_X3_fits u1 u2 u3 u4 pI = some ((if goodB k z u1 u2 u3 u4 then 1 else 0), ()) := by
  have e144 : f_X3_fits_b144 u2 pI = some ((if rgb u2 then 1 else 0), ()) := by
    unfold f_X3_fits_b144
    rw [isReg4]
    cases rgb u2 <;> rfl
  have e174 : f_X3_fits_b174 u2 u3 pI = some ((if rgb u2 && rgb u3 then 1 else 0), ()) := by
    unfold f_X3_fits_b174
    rw [isReg4, isReg4]
    cases rgb u2 <;> cases rgb u3 <;> rfl
  have e27 : ((f_X4_isRegister u2).bind fun p => if p.1 = 0 then some ((0 : Int32), ()) else (f_X3_isTarget u3 pI).bind fun q => if q.1 = 0 then some ((0 : Int32), ()) else some ((1 : Int32), ())) = some ((if rgb u2 && tgb z u3 then 1 else 0), ()) := by
    rw [isReg4, isTgt3 h2]
    cases rgb u2 <;> cases tgb z u3 <;> rfl
  have e28 : ((f_X3_isTarget u2 pI).bind fun q => if q.1 = 0 ∨ q.1 = 1 then some (q.1, ()) else none) = some ((if tgb z u2 then 1 else 0), ()) := by
    rw [isTgt3 h2]
    cases tgb z u2 <;> rfl
  have e1 : ((f_X4_isRegister u2).bind fun p => if p.1 = 0 then some ((0 : Int32), ()) else if u3 < 0 then some ((0 : Int32), ()) else if pI 0 ≤ u3 then some ((0 : Int32), ()) else some ((1 : Int32), ())) = some ((if rgb u2 && inB k u3 then 1 else 0), ()) := by
    rw [isReg4, h0]
    unfold inB
    by_cases c : u3 < 0
    · cases rgb u2 <;> simp [c]
    · by_cases d : nI k ≤ u3
      · cases rgb u2 <;> simp [c, d]
      · cases rgb u2 <;> simp [c, d]
  have e30 : (if u2 < 0 then some ((0 : Int32), ()) else if (255 : Int32) < u2 then some ((0 : Int32), ()) else some ((1 : Int32), ())) = some ((if flB u2 then 1 else 0), ()) := by
    unfold flB
    by_cases c : u2 < 0
    · simp [c]
    · by_cases d : (255 : Int32) < u2 <;> simp [c, d]
  have e3 : f_X3_takesThreeRegisters u1 = some (1, ()) → f_X3_fits_b238 u1 u2 u3 u4 pI = some ((if rgb u2 && rgb u3 && rgb u4 then 1 else 0), ()) := fun hx => by
    unfold f_X3_fits_b238
    rw [hx, isReg4, isReg4, isReg4]
    cases rgb u2 <;> cases rgb u3 <;> cases rgb u4 <;> rfl
  have out : (∀ v : Int32, ¬ v < 0 → v ≤ 31 → ¬ u1 = v) → (u1 < 3 ∨ ¬ u1 ≤ 21) → f_X3_fits u1 u2 u3 u4 pI = some ((if goodB k z u1 u2 u3 u4 then 1 else 0), ()) := fun ne rng => by
    have t0 : f_X3_takesThreeRegisters u1 = some (0, ()) := by
      unfold f_X3_takesThreeRegisters f_X3_takesThreeRegisters_b11
      rw [if_neg (ne 24 (by decide) (by decide))]
      rcases rng with c | c
      · rw [if_pos c]
      · rw [if_neg c]
        split <;> rfl
    have g0 : goodB k z u1 u2 u3 u4 = false := by
      unfold goodB
      rw [if_neg (fun q => by rcases q with q | q | q <;> exact ne _ (by decide) (by decide) q), if_neg (ne _ (by decide) (by decide)), if_neg (fun q => by rcases q with q | q | q | q | q <;> exact ne _ (by decide) (by decide) q), if_neg (ne _ (by decide) (by decide)), if_neg (ne _ (by decide) (by decide)), if_neg (ne _ (by decide) (by decide)), if_neg]
      rintro (q | q)
      · exact ne _ (by decide) (by decide) q
      · rcases rng with c | c
        · exact q.1 c
        · exact c q.2
    unfold f_X3_fits f_X3_fits_b238
    rw [t0, g0, if_neg (ne _ (by decide) (by decide)), if_neg (ne _ (by decide) (by decide)), if_neg (ne _ (by decide) (by decide)), if_neg (ne _ (by decide) (by decide)), if_neg (ne _ (by decide) (by decide)), if_neg (ne _ (by decide) (by decide)), if_neg (ne _ (by decide) (by decide)), if_neg (ne _ (by decide) (by decide)), if_neg (ne _ (by decide) (by decide)), if_neg (ne _ (by decide) (by decide)), if_neg (ne _ (by decide) (by decide)), if_neg (ne _ (by decide) (by decide))]
    rfl
  by_cases neg : u1 < 0
  · exact out (fun v hv _ q => hv (by rw [← q]; exact neg)) (Or.inl (Int32.lt_trans neg (by decide)))
  by_cases big : u1 ≤ 31
  · rcases n32 neg big with rfl | rfl | rfl | rfl | rfl | rfl | rfl | rfl | rfl | rfl | rfl | rfl | rfl | rfl | rfl | rfl | rfl | rfl | rfl | rfl | rfl | rfl | rfl | rfl | rfl | rfl | rfl | rfl | rfl | rfl | rfl | rfl
    · exact e144
    · exact e1
    · exact e174
    · exact e3 rfl
    · exact e3 rfl
    · exact e3 rfl
    · exact e3 rfl
    · exact e3 rfl
    · exact e3 rfl
    · exact e3 rfl
    · exact e3 rfl
    · exact e3 rfl
    · exact e3 rfl
    · exact e3 rfl
    · exact e3 rfl
    · exact e3 rfl
    · exact e3 rfl
    · exact e3 rfl
    · exact e3 rfl
    · exact e3 rfl
    · exact e3 rfl
    · exact e3 rfl
    · exact e174
    · exact e174
    · exact e3 rfl
    · exact e174
    · exact e174
    · exact e27
    · exact e28
    · exact e144
    · exact e30
    · exact e144
  · exact out (fun v _ hv q => big (by rw [q]; exact hv)) (Or.inr (fun q => big (Int32.le_trans q (by decide))))
theorem isGood_eq {k z : Nat} {rI : Nat → Int32} (h0 : rI 1 = nI k) (h2 : rI 3 = nI z) (K : List Nat) (u1 u2 u3 u4 : Int32) : f_X5_isGood K u1 u2 u3 u4 rI = some ((if goodB k z u1 u2 u3 u4 then 1 else 0), ()) := by
  have e68 : f_X5_isGood_b68 K u2 u3 u4 rI = some ((if rgb u2 && rgb u3 && rgb u4 then 1 else 0), ()) := by
    unfold f_X5_isGood_b68
    rw [isReg5, isReg5, isReg5]
    cases rgb u2 <;> cases rgb u3 <;> cases rgb u4 <;> rfl
  have e174 : ((f_X5_isRegister u2).bind fun p => if p.1 = 0 then some ((0 : Int32), ()) else (f_X5_isRegister u3).bind fun q => if q.1 = 0 then some ((0 : Int32), ()) else some ((1 : Int32), ())) = some ((if rgb u2 && rgb u3 then 1 else 0), ()) := by
    rw [isReg5, isReg5]
    cases rgb u2 <;> cases rgb u3 <;> rfl
  have e144 : ((f_X5_isRegister u2).bind fun p => if p.1 = 0 ∨ p.1 = 1 then some (p.1, ()) else none) = some ((if rgb u2 then 1 else 0), ()) := by
    rw [isReg5]
    cases rgb u2 <;> rfl
  have e27 : ((f_X5_isRegister u2).bind fun p => if p.1 = 0 then some ((0 : Int32), ()) else (f_X5_isTarget K u3 rI).bind fun q => if q.1 = 0 then some ((0 : Int32), ()) else some ((1 : Int32), ())) = some ((if rgb u2 && tgb z u3 then 1 else 0), ()) := by
    rw [isReg5, isTgt5 h2]
    cases rgb u2 <;> cases tgb z u3 <;> rfl
  have e28 : ((f_X5_isTarget K u2 rI).bind fun q => if q.1 = 0 ∨ q.1 = 1 then some (q.1, ()) else none) = some ((if tgb z u2 then 1 else 0), ()) := by
    rw [isTgt5 h2]
    cases tgb z u2 <;> rfl
  have e1 : ((f_X5_isRegister u2).bind fun p => if p.1 = 0 then some ((0 : Int32), ()) else if u3 < 0 then some ((0 : Int32), ()) else if rI 1 ≤ u3 then some ((0 : Int32), ()) else some ((1 : Int32), ())) = some ((if rgb u2 && inB k u3 then 1 else 0), ()) := by
    rw [isReg5, h0]
    unfold inB
    by_cases c : u3 < 0
    · cases rgb u2 <;> simp [c]
    · by_cases d : nI k ≤ u3
      · cases rgb u2 <;> simp [c, d]
      · cases rgb u2 <;> simp [c, d]
  have e30 : (if u2 < 0 then some ((0 : Int32), ()) else if (255 : Int32) < u2 then some ((0 : Int32), ()) else some ((1 : Int32), ())) = some ((if flB u2 then 1 else 0), ()) := by
    unfold flB
    by_cases c : u2 < 0
    · simp [c]
    · by_cases d : (255 : Int32) < u2 <;> simp [c, d]
  unfold f_X5_isGood
  by_cases neg : u1 < 0
  · rw [if_pos neg]
    have : goodB k z u1 u2 u3 u4 = false := by
      have ne : ∀ v : Int32, ¬ v < 0 → ¬ u1 = v := fun v hv q => hv (by rw [← q]; exact neg)
      unfold goodB
      rw [if_neg (fun q => by rcases q with q | q | q <;> exact ne _ (by decide) q), if_neg (ne _ (by decide)), if_neg (fun q => by rcases q with q | q | q | q | q <;> exact ne _ (by decide) q), if_neg (ne _ (by decide)), if_neg (ne _ (by decide)), if_neg (ne _ (by decide)), if_neg]
      rintro (q | q)
      · exact ne _ (by decide) q
      · exact q.1 (Int32.lt_trans neg (by decide))
    rw [this]
    rfl
  rw [if_neg neg]
  by_cases big : u1 ≤ 31
  · rw [if_pos big, e68]
    have hb62 : ∀ v, u1 = v → f_X5_isGood_b62 K u1 u2 u3 u4 rI = f_X5_isGood_b62 K v u2 u3 u4 rI := fun v e => by rw [e]
    unfold f_X5_isGood_b62
    rw [e68]
    rcases n32 neg big with rfl | rfl | rfl | rfl | rfl | rfl | rfl | rfl | rfl | rfl | rfl | rfl | rfl | rfl | rfl | rfl | rfl | rfl | rfl | rfl | rfl | rfl | rfl | rfl | rfl | rfl | rfl | rfl | rfl | rfl | rfl | rfl
    · exact e144
    · exact e1
    · exact e174
    · rfl
    · rfl
    · rfl
    · rfl
    · rfl
    · rfl
    · rfl
    · rfl
    · rfl
    · rfl
    · rfl
    · rfl
    · rfl
    · rfl
    · rfl
    · rfl
    · rfl
    · rfl
    · rfl
    · exact e174
    · exact e174
    · rfl
    · exact e174
    · exact e174
    · exact e27
    · exact e28
    · exact e144
    · exact e30
    · exact e144
  · rw [if_neg big]
    have : goodB k z u1 u2 u3 u4 = false := by
      have ne : ∀ v : Int32, v ≤ 31 → ¬ u1 = v := fun v hv q => big (by rw [q]; exact hv)
      unfold goodB
      rw [if_neg (fun q => by rcases q with q | q | q <;> exact ne _ (by decide) q), if_neg (ne _ (by decide)), if_neg (fun q => by rcases q with q | q | q | q | q <;> exact ne _ (by decide) q), if_neg (ne _ (by decide)), if_neg (ne _ (by decide)), if_neg (ne _ (by decide)), if_neg]
      rintro (q | q)
      · exact ne _ (by decide) q
      · exact big (Int32.le_trans q.2 (by decide))
    rw [this]
    rfl
theorem good_wf {k z : Nat} (hz : z ≤ 60) {u1 u2 u3 u4 : Int32} (h : goodB k z u1 u2 u3 u4 = true) : wfI z u1 u2 u3 u4 k := by
  unfold goodB at h
  unfold wfI
  split at h
  · rename_i c
    exact Or.inl ⟨c, rgb_rg h⟩
  split at h
  · rename_i c
    rw [Bool.and_eq_true] at h
    refine Or.inr (Or.inl ⟨c, rgb_rg h.1, ?_⟩)
    have h1 : ¬ u3 < 0 ∧ ¬ nI k ≤ u3 := of_decide_eq_true h.2
    obtain ⟨j, hj, rfl⟩ := nI_of h1.1
    exact ⟨j, Decidable.byContradiction fun q => h1.2 (nI_le (by omega) hj), rfl⟩
  split at h
  · rename_i c
    rw [Bool.and_eq_true] at h
    exact Or.inr (Or.inr (Or.inl ⟨c, rgb_rg h.1, rgb_rg h.2⟩))
  split at h
  · rename_i c
    rw [Bool.and_eq_true] at h
    exact Or.inr (Or.inr (Or.inr (Or.inl ⟨c, rgb_rg h.1, tgb_t hz h.2⟩)))
  split at h
  · rename_i c
    exact Or.inr (Or.inr (Or.inr (Or.inr (Or.inl ⟨c, tgb_t hz h⟩))))
  split at h
  · rename_i c
    refine Or.inr (Or.inr (Or.inr (Or.inr (Or.inr (Or.inl ⟨c, ?_⟩)))))
    have h1 : ¬ u2 < 0 ∧ ¬ (255 : Int32) < u2 := of_decide_eq_true h
    obtain ⟨j, hj, rfl⟩ := nI_of h1.1
    exact ⟨j, Decidable.byContradiction fun q => h1.2 (Int32.not_le.mp (nI_ge (a := 255) (b := j) (by omega) hj)), rfl⟩
  split at h
  · rename_i c
    rw [Bool.and_eq_true, Bool.and_eq_true] at h
    refine Or.inr (Or.inr (Or.inr (Or.inr (Or.inr (Or.inr ⟨?_, rgb_rg h.1.1, rgb_rg h.1.2, rgb_rg h.2⟩)))))
    rcases c with c | ⟨c1, c2⟩
    · exact Or.inl c
    · refine Or.inr ?_
      have n0 : ¬ u1 < 0 := fun q => c1 (Int32.lt_trans q (by decide))
      rcases n32 n0 (Int32.le_trans c2 (by decide)) with rfl | rfl | rfl | rfl | rfl | rfl | rfl | rfl | rfl | rfl | rfl | rfl | rfl | rfl | rfl | rfl | rfl | rfl | rfl | rfl | rfl | rfl | rfl | rfl | rfl | rfl | rfl | rfl | rfl | rfl | rfl | rfl
      · exact absurd (by decide) c1
      · exact absurd (by decide) c1
      · exact absurd (by decide) c1
      · exact Or.inr (by decide)
      · exact Or.inr (by decide)
      · exact Or.inr (by decide)
      · exact Or.inr (by decide)
      · exact Or.inr (by decide)
      · exact Or.inr (by decide)
      · exact Or.inr (by decide)
      · exact Or.inr (by decide)
      · exact Or.inr (by decide)
      · exact Or.inl (by decide)
      · exact Or.inl (by decide)
      · exact Or.inl (by decide)
      · exact Or.inl (by decide)
      · exact Or.inr (by decide)
      · exact Or.inr (by decide)
      · exact Or.inr (by decide)
      · exact Or.inr (by decide)
      · exact Or.inr (by decide)
      · exact Or.inr (by decide)
      · exact absurd c2 (by decide)
      · exact absurd c2 (by decide)
      · exact absurd c2 (by decide)
      · exact absurd c2 (by decide)
      · exact absurd c2 (by decide)
      · exact absurd c2 (by decide)
      · exact absurd c2 (by decide)
      · exact absurd c2 (by decide)
      · exact absurd c2 (by decide)
      · exact absurd c2 (by decide)
  · cases h
