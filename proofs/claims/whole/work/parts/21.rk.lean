-- what an instruction of two operands gives
def rk (k x y : Int32) : Int32 :=
  if k = 3 then x + y else if k = 4 then x - y else if k = 5 then x * y else if k = 6 then x &&& y else if k = 7 then x ||| y else if k = 8 then x ^^^ y else if k = 9 then x <<< (y &&& 31) else if k = 10 then (x.toUInt32 >>> (y.toUInt32 &&& Int32.toUInt32 31)).toInt32 else if k = 11 then x >>> (y &&& 31) else
  if k = 12 then (if y = 0 then -1 else ((x.toInt64 &&& 4294967295) / (y.toInt64 &&& 4294967295)).toInt32) else
  if k = 13 then (if y = 0 then x else ((x.toInt64 &&& 4294967295) - (x.toInt64 &&& 4294967295) / (y.toInt64 &&& 4294967295) * (y.toInt64 &&& 4294967295)).toInt32) else
  if k = 14 then (if y = 0 then -1 else x / y) else
  if k = 15 then (if y = 0 then x else x - x / y * y) else
  if k = 16 then (if x = y then 1 else 0) else if k = 17 then (if x = y then 0 else 1) else
  if k = 18 then (if un x < un y then 1 else 0) else if k = 19 then (if un y < un x then 0 else 1) else
  if k = 20 then (if x < y then 1 else 0) else (if x ≤ y then 1 else 0)
theorem ite_some {c : Prop} {i : Decidable c} {a b : Int32} {A B : Option (Int32 × Unit)} (hA : c → A = some (a, ())) (hB : ¬ c → B = some (b, ())) : (@ite _ c i A B) = some (@ite _ c i a b, ()) := by
  by_cases h : c
  · rw [if_pos h, if_pos h]; exact hA h
  · rw [if_neg h, if_neg h]; exact hB h
theorem tr_1 : f_X5_truth 1 = some (1, ()) := by decide +kernel
theorem tr_0 : f_X5_truth 0 = some (0, ()) := by decide +kernel
theorem isBelow_eq (x y : Int32) : f_X5_isBelow x y = some ((if un x < un y then 1 else 0), ()) := by
  unfold f_X5_isBelow
  by_cases h : un x < un y
  · rw [if_neg (fun q => (below x y).mp q h), if_pos h]
  · rw [if_pos ((below x y).mpr h), if_neg h]
theorem isBelowU_eq (x y : Int32) : f_X4_isBelowUnsigned x y = some ((if un x < un y then 1 else 0), ()) := by
  unfold f_X4_isBelowUnsigned
  by_cases h : un x < un y
  · rw [if_neg (fun q => (ulong x y).mp q h), if_pos h]
  · rw [if_pos ((ulong x y).mpr h), if_neg h]
theorem remm1 (x : Int32) : (0 : Int32) = x - x / (-1) * (-1) := by
  rw [← divm1, Int32.neg_mul, Int32.mul_neg, Int32.mul_one, Int32.neg_neg, Int32.sub_self]
theorem rk_model (k x y : Int32) : f_X5_reckoned k x y = some (rk k x y, ()) := by
  unfold f_X5_reckoned rk
  refine ite_some (fun _ => rfl) (fun _ => ?_)
  refine ite_some (fun _ => rfl) (fun _ => ?_)
  refine ite_some (fun _ => rfl) (fun _ => ?_)
  refine ite_some (fun _ => rfl) (fun _ => ?_)
  refine ite_some (fun _ => rfl) (fun _ => ?_)
  refine ite_some (fun _ => rfl) (fun _ => ?_)
  refine ite_some (fun _ => by rw [and31]) (fun _ => ?_)
  refine ite_some (fun _ => by rw [and31u]) (fun _ => ?_)
  refine ite_some (fun _ => by rw [and31]) (fun _ => ?_)
  refine ite_some (fun _ => ite_some (fun _ => rfl) (fun h => ?_)) (fun _ => ?_)
  · simp only [f_X5_plain, Option.bind_some]
    rw [if_pos (mk32_ne h)]
  refine ite_some (fun _ => ite_some (fun _ => rfl) (fun h => ?_)) (fun _ => ?_)
  · simp only [f_X5_plain, Option.bind_some]
    rw [if_pos (mk32_ne h)]
  refine ite_some (fun _ => ite_some (fun _ => rfl) (fun h => ?_)) (fun _ => ?_)
  · by_cases c : y = -1
    · rw [if_pos c, c, divm1]
    · rw [if_neg c, if_pos h]
  refine ite_some (fun _ => ite_some (fun _ => rfl) (fun h => ?_)) (fun _ => ?_)
  · by_cases c : y = -1
    · rw [if_pos c, c, ← remm1]
    · rw [if_neg c, if_pos h]
  refine ite_some (fun _ => ite_some (fun _ => by decide +kernel) (fun h => by decide +kernel)) (fun _ => ?_)
  refine ite_some (fun _ => ite_some (fun _ => by decide +kernel) (fun h => by decide +kernel)) (fun _ => ?_)
  refine ite_some (fun _ => ?_) (fun _ => ?_)
  · rw [isBelow_eq]
    by_cases h : un x < un y <;> simp [h, tr_0, tr_1]
  refine ite_some (fun _ => ?_) (fun _ => ?_)
  · rw [isBelow_eq]
    by_cases h : un y < un x <;> simp [h, f_X5_reckoned_b264, tr_0, tr_1]
  refine ite_some (fun _ => ?_) (fun _ => ?_)
  · by_cases h : y ≤ x
    · have h2 : ¬ x < y := Int32.not_lt.mpr h
      simp [h, h2, f_X5_reckoned_b278, tr_0, tr_1]
    · have h2 : x < y := Int32.not_le.mp h
      simp [h, h2, f_X5_reckoned_b278, tr_0, tr_1]
  · by_cases h : y < x
    · have h2 : ¬ x ≤ y := Int32.not_le.mpr h
      simp [h, h2, f_X5_reckoned_b292, tr_0, tr_1]
    · have h2 : x ≤ y := Int32.not_lt.mp h
      simp [h, h2, f_X5_reckoned_b292, tr_0, tr_1]
-- the class's two
theorem divide_eq {k : Int32} (x y : Int32) (h : k = 12 ∨ k = 13 ∨ k = 14 ∨ k = 15) : f_X4_divide k x y = some (rk k x y, ()) := by
  by_cases hy : y = 0
  · subst hy
    rcases h with rfl | rfl | rfl | rfl <;> simp [f_X4_divide, f_X4_divide_b12, f_X4_divide_b17, rk]
  · rcases h with rfl | rfl | rfl | rfl <;> simp [f_X4_divide, f_X4_divide_b12, f_X4_divide_b17, f_X4_divide_b44, f_X4_divide_b91, rk, hy, mk32_ne hy]
theorem combine_eq {k : Int32} (x y : Int32) (h : 3 ≤ k.toInt ∧ k.toInt ≤ 21) (hd : ¬ (12 ≤ k.toInt ∧ k.toInt ≤ 15)) : f_X4_combine k x y = some (rk k x y, ()) := by
  have hk : k = 3 ∨ k = 4 ∨ k = 5 ∨ k = 6 ∨ k = 7 ∨ k = 8 ∨ k = 9 ∨ k = 10 ∨ k = 11 ∨ k = 16 ∨ k = 17 ∨ k = 18 ∨ k = 19 ∨ k = 20 ∨ k = 21 := by
    have e : ∀ z : Int, k.toInt = z → k = Int32.ofInt z := fun z e => by rw [← e, Int32.ofInt_toInt]
    have : k.toInt = 3 ∨ k.toInt = 4 ∨ k.toInt = 5 ∨ k.toInt = 6 ∨ k.toInt = 7 ∨ k.toInt = 8 ∨ k.toInt = 9 ∨ k.toInt = 10 ∨ k.toInt = 11 ∨ k.toInt = 16 ∨ k.toInt = 17 ∨ k.toInt = 18 ∨ k.toInt = 19 ∨ k.toInt = 20 ∨ k.toInt = 21 := by omega
    rcases this with c | c | c | c | c | c | c | c | c | c | c | c | c | c | c
    · exact Or.inl (e _ c)
    · exact Or.inr (Or.inl (e _ c))
    · exact Or.inr (Or.inr (Or.inl (e _ c)))
    all_goals (have q := e _ c; subst q; decide)
  rcases hk with rfl | rfl | rfl | rfl | rfl | rfl | rfl | rfl | rfl | rfl | rfl | rfl | rfl | rfl | rfl
  case inr.inr.inr.inr.inr.inr.inr.inr.inr.inr.inr.inl => simp [f_X4_combine, rk, isBelowU_eq]; split <;> simp <;> omega
  case inr.inr.inr.inr.inr.inr.inr.inr.inr.inr.inr.inr.inl => simp [f_X4_combine, rk, isBelowU_eq]; split <;> simp <;> omega
  case inr.inr.inr.inr.inr.inr.inr.inr.inr.inr.inr.inr.inr.inl =>
    by_cases c : y ≤ x
    · have h2 : ¬ x < y := Int32.not_lt.mpr c
      simp [f_X4_combine, rk, c, h2]
    · have h2 : x < y := Int32.not_le.mp c
      simp [f_X4_combine, rk, c, h2]
  case inr.inr.inr.inr.inr.inr.inr.inr.inr.inr.inr.inr.inr.inr =>
    by_cases c : y < x
    · have h2 : ¬ x ≤ y := Int32.not_le.mpr c
      simp [f_X4_combine, rk, c, h2]
    · have h2 : x ≤ y := Int32.not_lt.mp c
      simp [f_X4_combine, rk, c, h2]
  all_goals (simp [f_X4_combine, rk]; try split <;> simp)
