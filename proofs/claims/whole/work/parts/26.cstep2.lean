theorem stI_1 (mI : Nat → Int32) (o : Option (Int32 × Int32)) : stI mI o 1 = mI 1 := by
  rcases o with _ | ⟨e, r⟩ <;> simp [stI, upd]
set_option maxHeartbeats 4000000 in
theorem step_class {u2 : Int32} {pI mI : Nat → Int32} {mJ : Nat → Int64} {mA pA : Nat → Nat → Int32} {pc ins : Nat} (hpc : pc < 60) (hm : mI 1 = nI pc) {k x y z : Int32} (hk : pA 3 pc = k) (hx : pA 4 pc = x) (hy : pA 5 pc = y) (hz : pA 6 pc = z) (hw : wfI pc k x y z ins) {iv : Int32} (hi : k = 1 → f_X3_inputIn u2 y pI pA = some (iv, ())) :
    ∃ nxt mA', f_X1_step u2 pI pA mI mJ mA = some (nxt, stI mI (stp k x (mA 0) (gd mI mJ (nd k x y z (mA 0)))), (if asks k then dJ mJ (gd mI mJ (nd k x y z (mA 0))) else mJ), mA') ∧ stOk nxt mA mA' (stp k x (mA 0) (gd mI mJ (nd k x y z (mA 0)))) (nx k x y (gd mI mJ (nd k x y z (mA 0))) pc) (sR k x y z (mA 0) (mA 1) iv) (sC k x y (mA 0) (mA 1)) := by
  have c1 : (nI pc).toNatClampNeg = pc := nI_clamp (by omega)
  have c2 : inb (nI pc) 60 = true := inb_lt hpc (by decide)
  unfold f_X1_step f_X1_step_b372
  rw [hm]
  simp only [c1, c2, hk, hx, hy, hz, if_true]
  rcases hw with ⟨hk3, gx⟩ | ⟨rfl, gx, -⟩ | ⟨hk5, gx, gy⟩ | ⟨rfl, gx, t, ht1, ht2, rfl⟩ | ⟨rfl, t, ht1, ht2, rfl⟩ | ⟨rfl, j, hj, rfl⟩ | ⟨hkk, gx, gy, gz⟩
  · rcases hk3 with rfl | rfl | rfl
    · refine ⟨nI pc + 1, up2 mA 0 (ix x) y, ?_, ?_⟩
      · simp [f_X1_step_b400, hm, stp, isDv, asks, stI, rg_in gx]
      · simp [stOk, stp, isDv, nx, nI_1, sR, sC, up2_same, up2_ne]
    · refine ⟨nI pc + 1, mA, ?_, ?_⟩
      · simp only [rg_in gx, stopU_eq, Option.bind_some]
        simp [f_X1_step_b400, stI_1, hm, stp, isDv, asks, nd]
      · simp only [stp, isDv]
        simp [nx, nI_1, sR, sC]
        split <;> simp [stOk]
    · refine ⟨nI pc + 1, mA, ?_, ?_⟩
      · simp only [rg_in gx, stop_eq, Option.bind_some]
        simp [f_X1_step_b400, hm, stp, isDv, asks, stI, upd]
      · simp [stOk, stp, isDv]
  · refine ⟨nI pc + 1, up2 mA 0 (ix x) iv, ?_, ?_⟩
    · simp only [hi rfl, Option.bind_some]
      simp [f_X1_step_b400, hm, stp, isDv, asks, stI, rg_in gx]
    · simp [stOk, stp, isDv, nx, nI_1, sR, sC, up2_same, up2_ne]
  · rcases hk5 with rfl | rfl | rfl | rfl | rfl
    · refine ⟨nI pc + 1, up2 mA 0 (ix x) (mA 0 (ix y)), ?_, ?_⟩
      · simp [f_X1_step_b400, hm, stp, isDv, asks, stI, rg_in gx, rg_in gy]
      · simp [stOk, stp, isDv, nx, nI_1, sR, sC, up2_same, up2_ne]
    · refine ⟨nI pc + 1, up2 mA 0 (ix x) (mA 0 (ix y) ^^^ (-1)), ?_, ?_⟩
      · simp [f_X1_step_b400, hm, stp, isDv, asks, stI, rg_in gx, rg_in gy]
      · simp [stOk, stp, isDv, nx, nI_1, sR, sC, up2_same, up2_ne]
    · refine ⟨nI pc + 1, up2 mA 0 (ix x) (-(mA 0 (ix y))), ?_, ?_⟩
      · simp [f_X1_step_b400, hm, stp, isDv, asks, stI, rg_in gx, rg_in gy]
      · simp [stOk, stp, isDv, nx, nI_1, sR, sC, up2_same, up2_ne]
    · have e2 : nd 25 x y z (mA 0) = in8 (mA 0 (ix y)) := by simp [nd, isDv]
      rw [e2]
      refine ⟨nI pc + 1, if gd mI mJ (in8 (mA 0 (ix y))) then up2 mA 0 (ix x) (if in8 (mA 0 (ix y)) then mA 1 (ix (mA 0 (ix y))) else 0) else mA, ?_, ?_⟩
      · simp only [rg_in gx, rg_in gy, load_eq gx, Option.bind_some, f_X1_step_b400, stI_1, hm]
        simp [stp, isDv, asks]
      · cases gd mI mJ (in8 (mA 0 (ix y))) <;> simp [stOk, stp, isDv, nx, nI_1, sR, sC, up2_same, up2_ne]
    · have e2 : nd 26 x y z (mA 0) = in8 (mA 0 (ix x)) := by simp [nd, isDv]
      rw [e2]
      refine ⟨nI pc + 1, if gd mI mJ (in8 (mA 0 (ix x))) = true ∧ in8 (mA 0 (ix x)) = true then up2 mA 1 (ix (mA 0 (ix x))) (mA 0 (ix y)) else mA, ?_, ?_⟩
      · simp only [rg_in gx, rg_in gy, store_eq, Option.bind_some, f_X1_step_b400, stI_1, hm]
        simp [stp, isDv, asks]
      · cases gd mI mJ (in8 (mA 0 (ix x)))
        · simp [stOk, stp, isDv]
        · by_cases c : in8 (mA 0 (ix x)) = true <;> simp [stOk, stp, isDv, nx, nI_1, sR, sC, c, up2_same, up2_ne]
  · have e1 : (if mA 0 (ix x) = 0 then f_X1_step_b312 (nI t) 0 pI pA mI mJ mA else f_X1_step_b312 (nI t) 1 pI pA mI mJ mA) = f_X1_step_b312 (nI t) (if decide (¬ mA 0 (ix x) = 0) then 1 else 0) pI pA mI mJ mA := by
      by_cases c : mA 0 (ix x) = 0 <;> simp [c]
    have c3 : (nI t).toNatClampNeg = t := nI_clamp (by omega)
    refine ⟨nI (nx 27 x (nI t) (gd mI mJ (nd 27 x (nI t) z (mA 0))) pc), mA, ?_, ?_⟩
    · simp only [rg_in gx, if_true, show ¬ (27 : Int32) = 0 by decide, show ¬ (27 : Int32) = 1 by decide, show ¬ (27 : Int32) = 2 by decide, show ¬ (27 : Int32) = 22 by decide, show ¬ (27 : Int32) = 23 by decide, show ¬ (27 : Int32) = 25 by decide, show ¬ (27 : Int32) = 26 by decide, if_false]
      rw [e1]
      unfold f_X1_step_b312
      rw [decide_eq]
      simp only [Option.bind_some]
      have e2 : nd 27 x (nI t) z (mA 0) = decide (¬ mA 0 (ix x) = 0) := by simp [nd, isDv]
      rw [e2]
      cases gd mI mJ (decide (¬ mA 0 (ix x) = 0)) <;> simp [hm, stp, isDv, asks, stI, nx, nI_1, c3]
    · simp [stOk, stp, isDv, sR, sC]
  · have c3 : (nI t).toNatClampNeg = t := nI_clamp (by omega)
    refine ⟨nI t, mA, ?_, ?_⟩
    · simp [stp, isDv, asks, stI]
    · simp [stOk, stp, isDv, nx, sR, sC, c3]
  · refine ⟨nI pc + 1, mA, ?_, ?_⟩
    · simp only [stop_eq, Option.bind_some]
      simp [f_X1_step_b400, hm, stp, isDv, asks, stI, upd]
    · simp [stOk, stp, isDv]
  · have hne : ∀ q : Int32, (q = 0 ∨ q = 1 ∨ q = 2 ∨ q = 22 ∨ q = 23 ∨ q = 25 ∨ q = 26 ∨ q = 27 ∨ q = 28 ∨ q = 29 ∨ q = 30 ∨ q = 31) → ¬ k = q := by
      intro q hq e
      subst e
      rcases hkk with h | h | h
      · subst h; revert hq; decide
      · have hd : k = 12 ∨ k = 13 ∨ k = 14 ∨ k = 15 := of_decide_eq_true h
        rcases hd with rfl | rfl | rfl | rfl <;> (revert hq; decide)
      · rcases h with rfl | rfl | rfl | rfl | rfl | rfl | rfl | rfl | rfl | rfl | rfl | rfl | rfl | rfl | rfl <;> (revert hq; decide)
    have n0 := hne 0 (by decide)
    have n1 := hne 1 (by decide)
    have n2 := hne 2 (by decide)
    have n22 := hne 22 (by decide)
    have n23 := hne 23 (by decide)
    have n25 := hne 25 (by decide)
    have n26 := hne 26 (by decide)
    have n27 := hne 27 (by decide)
    have n28 := hne 28 (by decide)
    have n29 := hne 29 (by decide)
    have n30 := hne 30 (by decide)
    have n31 := hne 31 (by decide)
    simp only [n0, n1, n2, n22, n23, n25, n26, n27, n28, n29, n30, n31, if_false, rg_in gx, rg_in gy, rg_in gz, if_true, calc_eq gx hkk, Option.bind_some]
    by_cases c : isDv k = true
    · have n24 : ¬ k = 24 := by
        have hd : k = 12 ∨ k = 13 ∨ k = 14 ∨ k = 15 := of_decide_eq_true c
        rcases hd with rfl | rfl | rfl | rfl <;> decide
      have e2 : nd k x y z (mA 0) = decide (¬ mA 0 (ix z) = 0) := by simp [nd, c]
      rw [e2]
      refine ⟨nI pc + 1, if gd mI mJ (decide (¬ mA 0 (ix z) = 0)) then up2 mA 0 (ix x) (rk k (mA 0 (ix y)) (mA 0 (ix z))) else mA, ?_, ?_⟩
      · simp only [c, if_true, f_X1_step_b400, stI_1, hm]
        simp [stp, c, asks]
      · cases gd mI mJ (decide (¬ mA 0 (ix z) = 0)) <;> simp [stOk, stp, c, nx, nI_1, sR, sC, up2_same, up2_ne, n0, n1, n2, n22, n23, n24, n25, n26, n27, n28, n29, n30, n31]
    · have c' : isDv k = false := by simpa using c
      refine ⟨nI pc + 1, if k = 24 then (if mA 0 (ix y) = 0 then mA else up2 mA 0 (ix x) (mA 0 (ix z))) else up2 mA 0 (ix x) (rk k (mA 0 (ix y)) (mA 0 (ix z))), ?_, ?_⟩
      · simp only [c', Bool.false_eq_true, if_false, f_X1_step_b400, hm]
        simp [stp, c', asks, stI, n25, n26, n27, n29, n30, n31]
      · simp only [stp, c', Bool.false_eq_true, if_false, n25, n26, n29, n30, n31, false_or, or_false]
        by_cases e : k = 24
        · subst e
          by_cases f : mA 0 (ix y) = 0 <;> simp [stOk, nx, nI_1, sR, sC, up2_same, up2_ne, f]
        · simp [stOk, nx, nI_1, sR, sC, up2_same, up2_ne, n0, n1, n2, n22, n23, e, n25, n26, n27, n28, n29, n30, n31]
