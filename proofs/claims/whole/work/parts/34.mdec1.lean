-- the model's step, up to the decision (go1)
theorem h2981 {n : Nat} {K : List Nat} {rc : (Int32 × (Nat → Int32) × (Nat → Nat → Int32)) → Option ((Nat → Int32) × (Nat → Nat → Int32))} {x1 x3 x4 x5 x6 x7 x8 x9 : Int32} {x2 : Nat} {rI : Nat → Int32} {rA : Nat → Nat → Int32} {rR : Nat → Nat → Int32} (h : inb (rI 11) 60 = true) (d : Bool) : f_X5_go1_b298 n K rc x1 x2 x3 x4 x5 x6 x7 x8 x9 (if d then 1 else 0) rI rA rR = f_X5_go1_b327 n K rc x1 x2 x3 x4 x5 x6 x7 x8 x9 (if d then 1 else 0) (upd rI 11 ((rI 11) + 1)) (up2 rA 16 (ix (rI 11)) (((2 : Int32) * x4) + (if d then 1 else 0))) rR := by
  unfold f_X5_go1_b298
  cases d <;> simp [tr_0, tr_1, h]
def rowD (v : Int32) : Bool := decide (v - v / 2 * 2 = 1)
theorem h2731 {n : Nat} {K : List Nat} {rc : (Int32 × (Nat → Int32) × (Nat → Nat → Int32)) → Option ((Nat → Int32) × (Nat → Nat → Int32))} {x1 x3 x4 x5 x6 x7 x8 x9 y0 : Int32} {x2 : Nat} {rI : Nat → Int32} {rA : Nat → Nat → Int32} {rR : Nat → Nat → Int32} (hK : x2 ∈ K) (h : inb (rI 11) 60 = true) : f_X5_go1_b273 n K rc x1 x2 x3 x4 x5 x6 x7 x8 x9 y0 rI rA rR = f_X5_go1_b298 n K rc x1 x2 x3 x4 x5 x6 x7 x8 x9 (if rowD (rR x2 (ix (rI 11))) then 1 else 0) rI rA rR := by
  unfold f_X5_go1_b273 f_X5_go1_b296 rowD
  rw [if_pos hK, if_pos h, if_pos (by decide)]
  by_cases c : (rR x2 (rI 11).toNatClampNeg) - (rR x2 (rI 11).toNatClampNeg) / (2 : Int32) * (2 : Int32) = 1 <;> simp [c]
theorem h2271 {n : Nat} {K : List Nat} {rc : (Int32 × (Nat → Int32) × (Nat → Nat → Int32)) → Option ((Nat → Int32) × (Nat → Nat → Int32))} {x1 x3 x4 x5 x6 x7 x8 x9 v : Int32} {x2 : Nat} {rI : Nat → Int32} {rA : Nat → Nat → Int32} {rR : Nat → Nat → Int32} (hK : x2 ∈ K) (h : inb (rI 11) 60 = true) : f_X5_go1_b227 n K rc x1 x2 x3 x4 x5 x6 x7 x8 x9 v rI rA rR = f_X5_go1_b298 n K rc x1 x2 x3 x4 x5 x6 x7 x8 x9 (if rowD (rR x2 (ix (rI 11))) then 1 else 0) rI rA rR := by
  unfold f_X5_go1_b227
  by_cases c1 : x5 = 25
  · subst c1
    simp only [if_true, true_or]
    unfold f_X5_go1_b243 f_X5_go1_b259
    by_cases a : v < 0
    · simp [a, in8, h2731 hK h]
    · by_cases b : (8 : Int32) ≤ v
      · simp [a, b, in8, h2731 hK h]
      · simp [a, b, in8, h2731 hK h]
  · by_cases c2 : x5 = 26
    · subst c2
      simp only [show ¬ (26 : Int32) = 25 by decide, if_false, if_true, or_true]
      unfold f_X5_go1_b243 f_X5_go1_b259
      by_cases a : v < 0
      · simp [a, in8, h2731 hK h]
      · by_cases b : (8 : Int32) ≤ v
        · simp [a, b, in8, h2731 hK h]
        · simp [a, b, in8, h2731 hK h]
    · by_cases b : v = 0 <;> simp [c1, c2, b, h2731 hK h]
set_option maxHeartbeats 8000000 in
theorem m821 {n : Nat} {K : List Nat} {rc : (Int32 × (Nat → Int32) × (Nat → Nat → Int32)) → Option ((Nat → Int32) × (Nat → Nat → Int32))} {x1 x3 : Int32} {x2 : Nat} {pc ins : Nat} {k x y z : Int32} {rI : Nat → Int32} {rA : Nat → Nat → Int32} {rR : Nat → Nat → Int32} (hK : x2 ∈ K) (hpc : pc < 60) (hk : rA 2 pc = k) (hx : rA 3 pc = x) (hy : rA 4 pc = y) (hz : rA 5 pc = z) (hw : wfI pc k x y z ins) (hm : inb (rI 11) 60 = true) :
    f_X5_go1_b82 n K rc x1 x2 x3 (nI pc) rI rA rR = if asks k then f_X5_go1_b327 n K rc x1 x2 x3 (nI pc) k x y z (nI (pc + 1)) (if rowD (rR x2 (ix (rI 11))) then 1 else 0) (upd (upd rI 10 ((rI 10) + 1)) 11 ((rI 11) + 1)) (up2 rA 16 (ix (rI 11)) (((2 : Int32) * nI pc) + (if rowD (rR x2 (ix (rI 11))) then 1 else 0))) rR else f_X5_go1_b327 n K rc x1 x2 x3 (nI pc) k x y z (nI (pc + 1)) 0 (upd rI 10 ((rI 10) + 1)) rA rR := by
  have c1 : (nI pc).toNatClampNeg = pc := nI_clamp (by omega)
  have c2 : inb (nI pc) 60 = true := inb_lt hpc (by decide)
  have hm1 : inb ((upd rI 10 ((rI 10) + 1)) 11) 60 = true := by rw [show (upd rI 10 ((rI 10) + 1)) 11 = rI 11 by simp [upd]]; exact hm
  have e11 : (upd rI 10 ((rI 10) + 1)) 11 = rI 11 := by simp [upd]
  unfold f_X5_go1_b82
  simp only [c1, c2, hk, hx, hy, hz, if_true, isDivX5_eq, Option.bind_some, nI_1]
  by_cases a : asks k = true
  · have key : (if (if isDv k = true then (1 : Int32) else 0) = 0 then if k = 25 then f_X5_go1_b170 n K rc x1 x2 x3 (nI pc) k x y z (nI (pc + 1)) (upd rI 10 ((rI 10) + 1)) rA rR else if k = 26 then f_X5_go1_b170 n K rc x1 x2 x3 (nI pc) k x y z (nI (pc + 1)) (upd rI 10 ((rI 10) + 1)) rA rR else if k = 27 then f_X5_go1_b170 n K rc x1 x2 x3 (nI pc) k x y z (nI (pc + 1)) (upd rI 10 ((rI 10) + 1)) rA rR else if k = 29 then f_X5_go1_b170 n K rc x1 x2 x3 (nI pc) k x y z (nI (pc + 1)) (upd rI 10 ((rI 10) + 1)) rA rR else f_X5_go1_b175 n K rc x1 x2 x3 (nI pc) k x y z (nI (pc + 1)) 0 (upd rI 10 ((rI 10) + 1)) rA rR else f_X5_go1_b170 n K rc x1 x2 x3 (nI pc) k x y z (nI (pc + 1)) (upd rI 10 ((rI 10) + 1)) rA rR) = f_X5_go1_b170 n K rc x1 x2 x3 (nI pc) k x y z (nI (pc + 1)) (upd rI 10 ((rI 10) + 1)) rA rR := by
      by_cases b : isDv k = true
      · rw [b]; rfl
      · have b' : isDv k = false := by simpa using b
        have : k = 25 ∨ k = 26 ∨ k = 27 ∨ k = 29 := by
          unfold asks at a
          simp only [b', Bool.false_or, Bool.or_eq_true, decide_eq_true_eq] at a
          rcases a with ((a | a) | a) | a
          · exact Or.inl a
          · exact Or.inr (Or.inl a)
          · exact Or.inr (Or.inr (Or.inl a))
          · exact Or.inr (Or.inr (Or.inr a))
        rcases this with rfl | rfl | rfl | rfl <;> simp [isDv]
    rw [key, if_pos a]
    unfold f_X5_go1_b170 f_X5_go1_b175
    rw [if_neg (by decide)]
    simp only [isDivX5_eq, Option.bind_some]
    rcases hw with ⟨h1, gx⟩ | ⟨rfl, gx, -⟩ | ⟨h1, gx, gy⟩ | ⟨rfl, gx, -⟩ | ⟨rfl, -⟩ | ⟨rfl, -⟩ | ⟨h1, gx, gy, gz⟩
    · rcases h1 with rfl | rfl | rfl
      · exact absurd a (by decide)
      · simp only [show isDv 29 = false from rfl, Bool.false_eq_true, if_false, if_true, show ¬ (29 : Int32) = 25 by decide, rg_in gx]
        rw [h2271 hK hm1, h2981 hm1, e11]
        try simp [nd, isDv]
      · exact absurd a (by decide)
    · exact absurd a (by decide)
    · rcases h1 with rfl | rfl | rfl | rfl | rfl
      · exact absurd a (by decide)
      · exact absurd a (by decide)
      · exact absurd a (by decide)
      · simp only [isDv, rg_in gx, rg_in gy]
        simp [h2271 hK hm1, h2981 hm1, e11, nd, isDv]
      · simp only [isDv, rg_in gx, rg_in gy]
        simp [h2271 hK hm1, h2981 hm1, e11, nd, isDv]
    · simp only [show isDv 27 = false from rfl, Bool.false_eq_true, if_false, if_true, show ¬ (27 : Int32) = 25 by decide, rg_in gx]
      rw [h2271 hK hm1, h2981 hm1, e11]
      try simp [nd, isDv]
    · exact absurd a (by decide)
    · exact absurd a (by decide)
    · have hdv : isDv k = true := by
        rcases h1 with rfl | h | h
        · exact absurd a (by decide)
        · exact h
        · rcases h with rfl | rfl | rfl | rfl | rfl | rfl | rfl | rfl | rfl | rfl | rfl | rfl | rfl | rfl | rfl <;> exact absurd a (by decide)
      have n25 : ¬ k = 25 := fun e => by subst e; exact absurd hdv (by decide)
      have n26 : ¬ k = 26 := fun e => by subst e; exact absurd hdv (by decide)
      simp only [hdv, if_true, rg_in gz]
      rw [if_neg (by decide), h2271 hK hm1, h2981 hm1, e11]
      try simp [nd, hdv, n25, n26]
  · have a' : asks k = false := by simpa using a
    obtain ⟨b1, b2, b3, b4, b5⟩ := asks_no a'
    rw [if_neg a]
    simp [b1, b2, b3, b4, b5, f_X5_go1_b175]
