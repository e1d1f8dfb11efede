-- the class's step
def stI (mI : Nat → Int32) (o : Option (Int32 × Int32)) : Nat → Int32 := match o with
  | none => mI
  | some (e, r) => upd (upd (upd mI 2 1) 3 e) 4 r
def stOk (nxt : Int32) (mA mA' : Nat → Nat → Int32) (o : Option (Int32 × Int32)) (np : Nat) (R C : Nat → Int32) : Prop := match o with
  | none => nxt = nI np ∧ mA' 0 = R ∧ mA' 1 = C
  | some _ => mA' 0 = mA 0 ∧ mA' 1 = mA 1
theorem up2_same (E : Nat → Nat → Int32) (k i : Nat) (x : Int32) : up2 E k i x k = upd (E k) i x := by simp [up2, va_up]
theorem up2_ne (E : Nat → Nat → Int32) {k j : Nat} (i : Nat) (x : Int32) (h : j ≠ k) : up2 E k i x j = E j := by simp [up2, va_up, h]
theorem stop_eq (e r : Int32) (mI : Nat → Int32) : f_X1_stop e r mI = some (upd (upd (upd mI 2 1) 3 e) 4 r) := rfl
theorem stopU_eq (v : Int32) (mI : Nat → Int32) (mJ : Nat → Int64) : f_X1_stopUnlessTrue v mI mJ = some (stI mI (if gd mI mJ (decide (¬ v = 0)) then none else some (3, 0)), dJ mJ (gd mI mJ (decide (¬ v = 0)))) := by
  have h1 : f_X1_stopUnlessTrue v mI mJ = f_X1_stopUnlessTrue_b10 (if decide (¬ v = 0) then 1 else 0) mI mJ := by
    unfold f_X1_stopUnlessTrue
    by_cases c : v = 0 <;> simp [c]
  rw [h1]
  unfold f_X1_stopUnlessTrue_b10
  rw [decide_eq]
  simp only [Option.bind_some]
  cases gd mI mJ (decide (¬ v = 0)) <;> simp [stop_eq, stI]
theorem load_eq {x : Int32} (hx : rg x) (v : Int32) (mI : Nat → Int32) (mJ : Nat → Int64) (mA : Nat → Nat → Int32) : f_X1_load x v mI mJ mA = some (stI mI (if gd mI mJ (in8 v) then none else some (2, 0)), dJ mJ (gd mI mJ (in8 v)), if gd mI mJ (in8 v) then up2 mA 0 (ix x) (if in8 v then mA 1 (ix v) else 0) else mA) := by
  unfold f_X1_load
  rw [isCell_eq]
  simp only [Option.bind_some]
  rw [decide_eq]
  simp only [Option.bind_some]
  cases gd mI mJ (in8 v)
  · simp [stop_eq, stI]
  · by_cases c : in8 v = true
    · simp [c, stI, f_X1_load_b33, rg_in hx, in8_in c]
    · have c' : in8 v = false := by simpa using c
      simp [c', stI, f_X1_load_b33, rg_in hx]
theorem store_eq (v w : Int32) (mI : Nat → Int32) (mJ : Nat → Int64) (mA : Nat → Nat → Int32) : f_X1_store v w mI mJ mA = some (stI mI (if gd mI mJ (in8 v) then none else some (2, 0)), dJ mJ (gd mI mJ (in8 v)), if gd mI mJ (in8 v) = true ∧ in8 v = true then up2 mA 1 (ix v) w else mA) := by
  unfold f_X1_store
  rw [isCell_eq]
  simp only [Option.bind_some]
  rw [decide_eq]
  simp only [Option.bind_some]
  cases gd mI mJ (in8 v)
  · simp [stop_eq, stI]
  · by_cases c : in8 v = true
    · simp [c, stI, in8_in c]
    · have c' : in8 v = false := by simpa using c
      simp [c', stI]
theorem calc_eq {k x : Int32} (hx : rg x) (hk : k = 24 ∨ isDv k = true ∨ ((k = 3 ∨ k = 4 ∨ k = 5 ∨ k = 6 ∨ k = 7 ∨ k = 8 ∨ k = 9 ∨ k = 10 ∨ k = 11 ∨ k = 16 ∨ k = 17 ∨ k = 18 ∨ k = 19 ∨ k = 20 ∨ k = 21))) (v w : Int32) (mI : Nat → Int32) (mJ : Nat → Int64) (mA : Nat → Nat → Int32) : f_X1_calculate k x v w mI mJ mA = some (if isDv k then (stI mI (if gd mI mJ (decide (¬ w = 0)) then none else some (1, 0)), dJ mJ (gd mI mJ (decide (¬ w = 0))), if gd mI mJ (decide (¬ w = 0)) then up2 mA 0 (ix x) (rk k v w) else mA) else (mI, mJ, if k = 24 then (if v = 0 then mA else up2 mA 0 (ix x) w) else up2 mA 0 (ix x) (rk k v w))) := by
  unfold f_X1_calculate
  rw [isDivX4_eq]
  simp only [Option.bind_some]
  by_cases c : isDv k = true
  · have hd : k = 12 ∨ k = 13 ∨ k = 14 ∨ k = 15 := of_decide_eq_true c
    have h1 : (if w = 0 then f_X1_calculate_b18 k x v w 0 mI mJ mA else f_X1_calculate_b18 k x v w 1 mI mJ mA) = f_X1_calculate_b18 k x v w (if decide (¬ w = 0) then 1 else 0) mI mJ mA := by
      by_cases e : w = 0 <;> simp [e]
    simp only [c, if_true]
    rw [if_neg (by decide), h1]
    unfold f_X1_calculate_b18
    rw [decide_eq]
    simp only [Option.bind_some]
    cases gd mI mJ (decide (¬ w = 0))
    · simp [stop_eq, stI]
    · simp [divide_eq v w hd, rg_in hx, stI]
  · have c' : isDv k = false := by simpa using c
    simp only [c', Bool.false_eq_true, if_false, if_true]
    by_cases e : k = 24
    · rw [if_pos e, if_pos e]
      by_cases f : v = 0
      · simp [f]
      · simp [f, rg_in hx]
    · rw [if_neg e, if_neg e]
      have hk3 : k = 3 ∨ k = 4 ∨ k = 5 ∨ k = 6 ∨ k = 7 ∨ k = 8 ∨ k = 9 ∨ k = 10 ∨ k = 11 ∨ k = 16 ∨ k = 17 ∨ k = 18 ∨ k = 19 ∨ k = 20 ∨ k = 21 := by
        rcases hk with h | h | h
        · exact absurd h e
        · exact absurd h c
        · exact h
      have hcb : f_X4_combine k v w = some (rk k v w, ()) := by
        rcases hk3 with rfl | rfl | rfl | rfl | rfl | rfl | rfl | rfl | rfl | rfl | rfl | rfl | rfl | rfl | rfl <;> exact combine_eq v w (by decide) (by decide)
      rw [hcb]
      simp [rg_in hx]
