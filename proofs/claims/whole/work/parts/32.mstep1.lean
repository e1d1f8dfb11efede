-- the model's step, behind the decision (go1)
def mOk1 (o : Option (Int32 × Int32)) (res : Option ((Nat → Int32) × (Nat → Nat → Int32))) (rc : (Int32 × (Nat → Int32) × (Nat → Nat → Int32)) → Option ((Nat → Int32) × (Nat → Nat → Int32))) (pc np : Nat) (rI : Nat → Int32) (rA : Nat → Nat → Int32) (R C : Nat → Int32) : Prop := match o with
  | some (e, r) => res = some (upd (upd (upd rI 7 e) 8 (nI pc)) 9 r, rA)
  | none => ∃ rA', res = rc (nI np, rI, rA') ∧ rA' 14 = R ∧ rA' 15 = C ∧ ∀ j, j ≠ 14 → j ≠ 15 → rA' j = rA j
set_option maxHeartbeats 8000000 in
theorem m3271 {n : Nat} {K : List Nat} {x1 x3 : Int32} {x2 : Nat} {rc : (Int32 × (Nat → Int32) × (Nat → Nat → Int32)) → Option ((Nat → Int32) × (Nat → Nat → Int32))} {pc ins : Nat} {k x y z : Int32} (hw : wfI pc k x y z ins) (hpc : pc < 60) (d : Bool) (rI : Nat → Int32) (rA : Nat → Nat → Int32) (rR : Nat → Nat → Int32) {iv : Int32} (hi : k = 1 → f_X5_inputOf n K x1 y rI rA = some (iv, ())) :
    mOk1 (stp k x (rA 14) d) (f_X5_go1_b327 n K rc x1 x2 x3 (nI pc) k x y z (nI (pc + 1)) (if d then 1 else 0) rI rA rR) rc pc (nx k x y d pc) rI rA (sR k x y z (rA 14) (rA 15) iv) (sC k x y (rA 14) (rA 15)) := by
  unfold f_X5_go1_b327
  rcases hw with ⟨hk3, gx⟩ | ⟨rfl, gx, -⟩ | ⟨hk5, gx, gy⟩ | ⟨rfl, gx, t, ht1, ht2, rfl⟩ | ⟨rfl, t, ht1, ht2, rfl⟩ | ⟨rfl, j, hj, rfl⟩ | ⟨hkk, gx, gy, gz⟩
  · rcases hk3 with rfl | rfl | rfl
    · simp only [stp, isDv, mOk1]
      refine ⟨up2 rA 14 (ix x) y, ?_, ?_, ?_, ?_⟩
      · simp [rg_in gx, f_X5_go1_b761, nx]
      · simp [sR, up2_same]
      · simp [sC, up2_ne]
      · intro j h1 h2; simp [up2_ne, h1]
    · simp only [isDivX5_eq, Option.bind_some]
      cases d
      · simp [stp, isDv, mOk1, f_X5_go1_b412, f_X5_go1_b714, f_X5_ends]
      · simp [stp, isDv, mOk1, f_X5_go1_b412, f_X5_go1_b761, nx]
        exact ⟨rA, rfl, by simp [sR], by simp [sC], fun _ _ _ => rfl⟩
    · simp only [isDivX5_eq, Option.bind_some]
      simp [stp, isDv, mOk1, f_X5_go1_b412, f_X5_go1_b723, f_X5_go1_b736, f_X5_go1_b757, f_X5_ends, rg_in gx]
  · simp only [stp, isDv, mOk1, hi rfl, Option.bind_some]
    refine ⟨up2 rA 14 (ix x) iv, ?_, ?_, ?_, ?_⟩
    · simp [rg_in gx, f_X5_go1_b761, nx]
    · simp [sR, up2_same]
    · simp [sC, up2_ne]
    · intro j h1 h2; simp [up2_ne, h1]
  · rcases hk5 with rfl | rfl | rfl | rfl | rfl
    · simp only [stp, isDv, mOk1]
      refine ⟨up2 rA 14 (ix x) (rA 14 (ix y)), ?_, ?_, ?_, ?_⟩
      · simp [rg_in gx, rg_in gy, f_X5_go1_b761, nx]
      · simp [sR, up2_same]
      · simp [sC, up2_ne]
      · intro j h1 h2; simp [up2_ne, h1]
    · simp only [isDivX5_eq, Option.bind_some]
      simp only [stp, isDv, mOk1]
      refine ⟨up2 rA 14 (ix x) (rA 14 (ix y) ^^^ (-1)), ?_, ?_, ?_, ?_⟩
      · simp [f_X5_go1_b412, rg_in gx, rg_in gy, f_X5_go1_b761, nx]
      · simp [sR, up2_same]
      · simp [sC, up2_ne]
      · intro j h1 h2; simp [up2_ne, h1]
    · simp only [isDivX5_eq, Option.bind_some]
      simp only [stp, isDv, mOk1]
      refine ⟨up2 rA 14 (ix x) (-(rA 14 (ix y))), ?_, ?_, ?_, ?_⟩
      · simp [f_X5_go1_b412, rg_in gx, rg_in gy, f_X5_go1_b761, nx]
      · simp [sR, up2_same]
      · simp [sC, up2_ne]
      · intro j h1 h2; simp [up2_ne, h1]
    · simp only [isDivX5_eq, Option.bind_some]
      cases d
      · simp [stp, isDv, mOk1, f_X5_go1_b412, f_X5_go1_b555, f_X5_ends]
      · simp only [stp, isDv, mOk1]
        refine ⟨up2 rA 14 (ix x) (if in8 (rA 14 (ix y)) then rA 15 (ix (rA 14 (ix y))) else 0), ?_, ?_, ?_, ?_⟩
        · have e : f_X5_go1_b412 n K rc x1 x2 x3 (nI pc) 25 x y z (nI (pc + 1)) 1 rI rA rR = f_X5_go1_b588 n K rc x1 x2 x3 25 x y (nI (pc + 1)) (rA 14 (ix y)) rI rA rR := by simp [f_X5_go1_b412, rg_in gy]
          simp only [show ¬ (25 : Int32) = 0 by decide, show ¬ (25 : Int32) = 1 by decide, show ¬ (25 : Int32) = 2 by decide, if_false, if_true]
          simp [e, f_X5_go1_b588, f_X5_go1_b606, f_X5_go1_b607, f_X5_go1_b638, f_X5_go1_b661, f_X5_go1_b761, rg_in gx, nx]
          by_cases c : in8 (rA 14 (ix y)) = true
          · have h9 : ¬ rA 14 (ix y) < 0 ∧ ¬ (8 : Int32) ≤ rA 14 (ix y) := of_decide_eq_true c
            simp [c, h9.1, h9.2, in8_in c]
          · have h9 : ¬ (¬ rA 14 (ix y) < 0 ∧ ¬ (8 : Int32) ≤ rA 14 (ix y)) := fun q => c (decide_eq_true q)
            by_cases c2 : rA 14 (ix y) < 0
            · simp [c, c2]
            · have c3 : (8 : Int32) ≤ rA 14 (ix y) := Decidable.byContradiction (fun q => h9 ⟨c2, q⟩)
              simp [c, c2, c3]
        · simp [sR, up2_same]
        · simp [sC, up2_ne]
        · intro j h1 h2; simp [up2_ne, h1]
    · simp only [isDivX5_eq, Option.bind_some]
      cases d
      · simp [stp, isDv, mOk1, f_X5_go1_b412, f_X5_go1_b555, f_X5_ends]
      · simp only [stp, isDv, mOk1]
        refine ⟨if in8 (rA 14 (ix x)) = true then up2 rA 15 (ix (rA 14 (ix x))) (rA 14 (ix y)) else rA, ?_, ?_, ?_, ?_⟩
        · have e : f_X5_go1_b412 n K rc x1 x2 x3 (nI pc) 26 x y z (nI (pc + 1)) 1 rI rA rR = f_X5_go1_b588 n K rc x1 x2 x3 26 x y (nI (pc + 1)) (rA 14 (ix x)) rI rA rR := by simp [f_X5_go1_b412, rg_in gx]
          simp only [show ¬ (26 : Int32) = 0 by decide, show ¬ (26 : Int32) = 1 by decide, show ¬ (26 : Int32) = 2 by decide, if_false, if_true]
          simp [e, f_X5_go1_b588, f_X5_go1_b606, f_X5_go1_b607, f_X5_go1_b661, f_X5_go1_b761, rg_in gy, nx]
          by_cases c : in8 (rA 14 (ix x)) = true
          · have h9 : ¬ rA 14 (ix x) < 0 ∧ ¬ (8 : Int32) ≤ rA 14 (ix x) := of_decide_eq_true c
            simp [c, h9.1, h9.2, in8_in c]
          · have h9 : ¬ (¬ rA 14 (ix x) < 0 ∧ ¬ (8 : Int32) ≤ rA 14 (ix x)) := fun q => c (decide_eq_true q)
            by_cases c2 : rA 14 (ix x) < 0
            · simp [c, c2]
            · have c3 : (8 : Int32) ≤ rA 14 (ix x) := Decidable.byContradiction (fun q => h9 ⟨c2, q⟩)
              simp [c, c2, c3]
        · by_cases c : in8 (rA 14 (ix x)) = true <;> simp [c, sR, up2_ne]
        · by_cases c : in8 (rA 14 (ix x)) = true <;> simp [c, sC, up2_same]
        · intro j h1 h2
          by_cases c : in8 (rA 14 (ix x)) = true <;> simp [c, up2_ne, h2]
  · have c3 : (nI t).toNatClampNeg = t := nI_clamp (by omega)
    simp only [isDivX5_eq, Option.bind_some]
    simp only [stp, isDv, mOk1]
    refine ⟨rA, ?_, by simp [sR], by simp [sC], fun _ _ _ => rfl⟩
    cases d <;> simp [f_X5_go1_b412, f_X5_go1_b683, f_X5_go1_b761, nx, c3]
  · have c3 : (nI t).toNatClampNeg = t := nI_clamp (by omega)
    simp only [isDivX5_eq, Option.bind_some]
    simp only [stp, isDv, mOk1]
    refine ⟨rA, ?_, by simp [sR], by simp [sC], fun _ _ _ => rfl⟩
    simp [f_X5_go1_b412, f_X5_go1_b761, nx, c3]
  · simp only [isDivX5_eq, Option.bind_some]
    simp [stp, isDv, mOk1, f_X5_go1_b412, f_X5_go1_b723, f_X5_go1_b736, f_X5_go1_b757, f_X5_ends]
  · have key : k = 24 ∨ (¬ k = 0 ∧ ¬ k = 1 ∧ ¬ k = 2 ∧ ¬ (21 : Int32) < k ∧ ¬ k = 22 ∧ ¬ k = 23 ∧ ¬ k = 24 ∧ ¬ k = 25 ∧ ¬ k = 26 ∧ ¬ k = 27 ∧ ¬ k = 28 ∧ ¬ k = 29 ∧ ¬ k = 30 ∧ ¬ k = 31) := by
      rcases hkk with h | h | h
      · exact Or.inl h
      · have hd : k = 12 ∨ k = 13 ∨ k = 14 ∨ k = 15 := of_decide_eq_true h
        rcases hd with rfl | rfl | rfl | rfl <;> decide
      · rcases h with rfl | rfl | rfl | rfl | rfl | rfl | rfl | rfl | rfl | rfl | rfl | rfl | rfl | rfl | rfl <;> decide
    rcases key with rfl | ⟨n0, n1, n2, n21, n22, n23, n24, n25, n26, n27, n28, n29, n30, n31⟩
    · simp only [isDivX5_eq, Option.bind_some]
      simp only [stp, isDv, mOk1]
      refine ⟨up2 rA 14 (ix x) (if rA 14 (ix y) = 0 then rA 14 (ix x) else rA 14 (ix z)), ?_, ?_, ?_, ?_⟩
      · by_cases c : rA 14 (ix y) = 0 <;> simp [f_X5_go1_b412, f_X5_go1_b539, f_X5_go1_b761, rg_in gx, rg_in gy, rg_in gz, nx, c]
      · rw [up2_same]
        by_cases c : rA 14 (ix y) = 0
        · simp only [sR, c, if_true]
          funext j
          unfold upd
          split
          · subst_vars; rfl
          · rfl
        · simp [sR, c]
      · simp [sC, up2_ne]
      · intro j h1 h2; simp [up2_ne, h1]
    · have e4 : f_X5_go1_b412 n K rc x1 x2 x3 (nI pc) k x y z (nI (pc + 1)) (if d then 1 else 0) rI rA rR = rc (nI (pc + 1), rI, up2 rA 14 (ix x) (rk k (rA 14 (ix y)) (rA 14 (ix z)))) := by
        unfold f_X5_go1_b412
        rw [if_neg n21, if_pos (rg_in gy), if_pos (rg_in gz), rk_model]
        simp only [Option.bind_some]
        rw [if_pos (rg_in gx)]
        rfl
      rw [if_neg n0, if_neg n1, if_neg n2, isDivX5_eq]
      simp only [Option.bind_some]
      have eR : sR k x y z (rA 14) (rA 15) iv = upd (rA 14) (ix x) (rk k (rA 14 (ix y)) (rA 14 (ix z))) := by simp [sR, n0, n1, n2, n22, n23, n24, n25, n26, n27, n28, n29, n30, n31]
      have eC : sC k x y (rA 14) (rA 15) = rA 15 := by simp [sC, n26]
      have eN : nx k x y d pc = pc + 1 := by simp [nx, n27, n28]
      by_cases c : isDv k = true
      · rw [c]
        simp only [if_true]
        rw [if_neg (by decide)]
        cases d
        · simp [stp, c, mOk1, f_X5_go1_b403, f_X5_ends]
        · simp only [stp, c, if_true, mOk1]
          simp only [if_true] at e4
          rw [if_neg (by decide), e4, eN]
          exact ⟨_, rfl, by rw [up2_same, eR], by rw [up2_ne _ _ _ (by decide), eC], fun j h1 h2 => up2_ne _ _ _ h1⟩
      · have c' : isDv k = false := by simpa using c
        rw [c']
        simp only [Bool.false_eq_true, if_false, if_true]
        rw [e4, eN]
        have es : stp k x (rA 14) d = none := by simp [stp, c', n25, n26, n29, n30, n31]
        rw [es]
        exact ⟨_, rfl, by rw [up2_same, eR], by rw [up2_ne _ _ _ (by decide), eC], fun j h1 h2 => up2_ne _ _ _ h1⟩
