-- one instruction: k its number, x y z what stands behind it, R the registers, C the cells, iv the input's value
abbrev ix (i : Int32) : Nat := i.toNatClampNeg
def in8 (v : Int32) : Bool := decide (¬ v < 0 ∧ ¬ (8 : Int32) ≤ v)
def isDv (k : Int32) : Bool := decide (k = 12 ∨ k = 13 ∨ k = 14 ∨ k = 15)
def asks (k : Int32) : Bool := isDv k || decide (k = 25) || decide (k = 26) || decide (k = 27) || decide (k = 29)
def nd (k x y z : Int32) (R : Nat → Int32) : Bool := if isDv k then decide (¬ R (ix z) = 0) else if k = 25 then in8 (R (ix y)) else if k = 26 then in8 (R (ix x)) else decide (¬ R (ix x) = 0)
def sR (k x y z : Int32) (R C : Nat → Int32) (iv : Int32) : Nat → Int32 :=
  if k = 0 then upd R (ix x) y
  else if k = 1 then upd R (ix x) iv
  else if k = 2 then upd R (ix x) (R (ix y))
  else if k = 22 then upd R (ix x) (R (ix y) ^^^ (-1))
  else if k = 23 then upd R (ix x) (-(R (ix y)))
  else if k = 24 then (if R (ix y) = 0 then R else upd R (ix x) (R (ix z)))
  else if k = 25 then upd R (ix x) (if in8 (R (ix y)) then C (ix (R (ix y))) else 0)
  else if k = 26 ∨ k = 27 ∨ k = 28 ∨ k = 29 ∨ k = 30 ∨ k = 31 then R
  else upd R (ix x) (rk k (R (ix y)) (R (ix z)))
def sC (k x y : Int32) (R C : Nat → Int32) : Nat → Int32 := if k = 26 ∧ in8 (R (ix x)) = true then upd C (ix (R (ix x))) (R (ix y)) else C
def stp (k x : Int32) (R : Nat → Int32) (d : Bool) : Option (Int32 × Int32) :=
  if isDv k = true then (if d then none else some (1, 0))
  else if k = 25 ∨ k = 26 then (if d then none else some (2, 0))
  else if k = 29 then (if d then none else some (3, 0))
  else if k = 30 then some (4, x)
  else if k = 31 then some (0, R (ix x))
  else none
def nx (k x y : Int32) (d : Bool) (pc : Nat) : Nat := if k = 27 ∧ d = true then ix y else if k = 28 then ix x else pc + 1
-- a good instruction at a place
def rg (v : Int32) : Prop := ∃ j : Nat, j < 16 ∧ v = nI j
def wfI (pc : Nat) (k x y z : Int32) (ins : Nat) : Prop :=
  ((k = 0 ∨ k = 29 ∨ k = 31) ∧ rg x) ∨ (k = 1 ∧ rg x ∧ ∃ j : Nat, j < ins ∧ y = nI j) ∨ ((k = 2 ∨ k = 22 ∨ k = 23 ∨ k = 25 ∨ k = 26) ∧ rg x ∧ rg y) ∨
  (k = 27 ∧ rg x ∧ ∃ t : Nat, pc < t ∧ t ≤ 60 ∧ y = nI t) ∨ (k = 28 ∧ ∃ t : Nat, pc < t ∧ t ≤ 60 ∧ x = nI t) ∨ (k = 30 ∧ ∃ j : Nat, j ≤ 255 ∧ x = nI j) ∨
  ((k = 24 ∨ isDv k = true ∨ ((k = 3 ∨ k = 4 ∨ k = 5 ∨ k = 6 ∨ k = 7 ∨ k = 8 ∨ k = 9 ∨ k = 10 ∨ k = 11 ∨ k = 16 ∨ k = 17 ∨ k = 18 ∨ k = 19 ∨ k = 20 ∨ k = 21))) ∧ rg x ∧ rg y ∧ rg z)
theorem rg_in {v : Int32} (h : rg v) : inb v 16 = true := by
  obtain ⟨j, hj, rfl⟩ := h
  exact inb_lt hj (by decide)
theorem in8_in {v : Int32} (h : in8 v = true) : inb v 8 = true := by
  have h1 : ¬ v < 0 ∧ ¬ (8 : Int32) ≤ v := of_decide_eq_true h
  unfold inb
  refine decide_eq_true fun q => ?_
  rcases q with q | q
  · exact h1.1 q
  · obtain ⟨j, hj, rfl⟩ := nI_of h1.1
    rw [nI_clamp hj] at q
    exact h1.2 (nI_le (a := 8) (b := j) q hj)
theorem isCell_eq (v : Int32) : f_X4_isCell v = some ((if in8 v then 1 else 0), ()) := by
  unfold f_X4_isCell in8
  by_cases c : v < 0
  · simp [c]
  · by_cases d : (8 : Int32) ≤ v
    · simp [c, d]
    · simp [c, d]
theorem isDivX4_eq (k : Int32) : f_X4_isDivision k = some ((if isDv k then 1 else 0), ()) := by
  unfold f_X4_isDivision isDv
  by_cases c : k = 12 ∨ k = 13 ∨ k = 14 ∨ k = 15
  · rcases c with rfl | rfl | rfl | rfl <;> decide +kernel
  · rw [decide_eq_false c]
    by_cases h1 : k < 12
    · rw [if_pos h1]; rfl
    · rw [if_neg h1]
      by_cases h2 : (15 : Int32) < k
      · rw [if_pos h2]; rfl
      · refine absurd ?_ c
        rw [Int32.lt_iff_toInt_lt] at h1 h2
        have e12 : (12 : Int32).toInt = 12 := by decide
        have e15 : (15 : Int32).toInt = 15 := by decide
        rw [e12] at h1
        rw [e15] at h2
        have e : ∀ z : Int, k.toInt = z → k = Int32.ofInt z := fun z e => by rw [← e, Int32.ofInt_toInt]
        have : k.toInt = 12 ∨ k.toInt = 13 ∨ k.toInt = 14 ∨ k.toInt = 15 := by omega
        rcases this with q | q | q | q
        · exact Or.inl (e _ q)
        · exact Or.inr (Or.inl (e _ q))
        · exact Or.inr (Or.inr (Or.inl (e _ q)))
        · exact Or.inr (Or.inr (Or.inr (e _ q)))
theorem isDivX5_eq (k : Int32) : f_X5_isDivision k = some ((if isDv k then 1 else 0), ()) := by
  rw [← isDivX4_eq]
  rfl
-- the class's decision: with a guide or without
def gd (mI : Nat → Int32) (mJ : Nat → Int64) (b : Bool) : Bool := if mI 0 = 0 then b else decide (¬ (mJ 0 &&& mJ 1) = 0)
def dJ (mJ : Nat → Int64) (d : Bool) : Nat → Int64 := if d then vp_updL (vp_updL mJ 3 (mJ 3 ||| mJ 1)) 4 (mJ 4 ||| mJ 1) else vp_updL mJ 3 (mJ 3 ||| mJ 1)
theorem decide_eq (mI : Nat → Int32) (mJ : Nat → Int64) (b : Bool) : f_X1_decide (if b then 1 else 0) mI mJ = some ((if gd mI mJ b then 1 else 0), dJ mJ (gd mI mJ b)) := by
  unfold f_X1_decide gd
  by_cases c : mI 0 = 0
  · rw [if_pos c, if_pos c]
    cases b <;> simp [f_X1_decide_b30, dJ, vp_updL]
  · rw [if_neg c, if_neg c]
    by_cases e : (mJ 0 &&& mJ 1) = 0
    · rw [if_pos ((lg_cmp0 _ _).mpr e)]
      simp [f_X1_decide_b30, dJ, e]
    · rw [if_neg (fun q => e ((lg_cmp0 _ _).mp q))]
      simp [f_X1_decide_b30, dJ, e, vp_updL]
