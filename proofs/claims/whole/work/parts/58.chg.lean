-- calls that change the program
theorem InvT_lay {k : Nat} {wd : Nat → Nat} {sg : Nat → Int32} {P : Nat → Nat → Int32} {z : Nat} {L : List Nat} {ga : Nat → Nat} {tI : Nat → Int32} {tJ : Nat → Int64} {tP : Nat → Option Nat} {tO : Nat → Int64} {tR : Nat → Int32} {qI : Nat → Nat → Int32} {qJ : Nat → Nat → Int64} {rI : Nat → Int32} {rA rR : Nat → Nat → Int32} (h : InvT k wd sg P z L ga tI tJ tP tO tR qI qJ rI rA rR) : ∃ ad, Lay L ad tP := by
  rcases h with ⟨-, -, h⟩ | ⟨κ, c, lw, ad, -, -, hC, -, -⟩
  · exact h
  · exact ⟨ad, hC.2.2.2.1⟩
/-- the latest run, once the program has changed -/
theorem InvR_stale {k k' : Nat} {wd wd' : Nat → Nat} {sg sg' : Nat → Int32} {P P' : Nat → Nat → Int32} {z z' : Nat} {bI vI : Nat → Int32} {vJ : Nat → Int64} {vA : Nat → Nat → Int32} {rI rI' : Nat → Int32} {rA rA' : Nat → Nat → Int32} (h : InvR k wd sg P z bI vI vJ vA rI rA) (hI : ∀ j, 11 < j → j < 19 → rI' j = rI j) (h19 : rI' 19 = 0) (hA : ∀ t, 16 < t → rA' t = rA t) : InvR k' wd' sg' P' z' (upd bI 1 1) vI vJ vA rI' rA' := by
  have e0 : (upd bI 1 (1 : Int32)) 0 = bI 0 := by simp [upd]
  have e1 : (upd bI 1 (1 : Int32)) 1 = 1 := by simp [upd]
  unfold InvR at h ⊢
  rw [e0, e1, hI 12 (by decide) (by decide), hI 14 (by decide) (by decide), hI 15 (by decide) (by decide), hI 16 (by decide) (by decide), hI 17 (by decide) (by decide), hI 18 (by decide) (by decide), hA 17 (by decide), hA 18 (by decide)]
  rcases h with h | ⟨h1, h2, t, ht, hm, a1, a2, a3, a4, a5, a6, a7, -⟩
  · exact Or.inl h
  · exact Or.inr ⟨h1, h2, t, ht, hm, a1, a2, a3, a4, a5, a6, a7, Or.inl ⟨rfl, h19⟩⟩
theorem a_clear {L K : List Nat} {rG : Nat → Option Nat} {bI pI : Nat → Int32} {pA : Nat → Nat → Int32} {tI : Nat → Int32} {tJ : Nat → Int64} {tP : Nat → Option Nat} {tO : Nat → Int64} {tR vI : Nat → Int32} {vJ : Nat → Int64} {vA qI : Nat → Nat → Int32} {qJ : Nat → Nat → Int64} {rI : Nat → Int32} {rA rR : Nat → Nat → Int32} (h : Inv L K rG bI pI pA tI tJ tP tO tR vI vJ vA qI qJ rI rA rR) : ∃ r bI' pI' tI' tJ' rI', f_X4_clear L bI pI tI tJ = some (r, (bI', pI', tI', tJ')) ∧ f_X5_clear K rI = some (r, rI') ∧ Inv L K rG bI' pI' pA tI' tJ' tP tO tR vI vJ vA qI qJ rI' rA rR := by
  obtain ⟨k, wd, sg, P, z, ga, hg, hP, hR, hT⟩ := h
  obtain ⟨-, -, -, hz, p2, r3, -⟩ := hP
  refine ⟨nI z, _, _, _, _, _, by unfold f_X4_clear; rw [p2]; rfl, by unfold f_X5_clear; rw [r3]; rfl, 0, wd, sg, P, 0, ga, hg, ?_, ?_, ?_⟩
  · refine ⟨⟨by omega, by show 0 ≤ 12; omega, by simp [upd]; rfl, by simp [upd]; rfl, fun j hj => absurd hj (Nat.not_lt_zero j)⟩, ⟨by omega, by show 0 ≤ 12; omega, by simp [upd]; rfl, fun j hj => absurd hj (Nat.not_lt_zero j)⟩, by simp [upd]; rfl, by omega, by simp [upd]; rfl, by simp [upd]; rfl, fun pc hpc => absurd hpc (Nat.not_lt_zero pc), fun pc hpc => absurd hpc (Nat.not_lt_zero pc), fun pc hpc => absurd hpc (Nat.not_lt_zero pc), 0, 0, by omega, by omega, by simp [upd]; rfl, by simp [upd]; rfl, by simp [upd]; rfl, by simp [upd]; rfl⟩
  · exact Or.inl ⟨by simp [upd], by simp [upd]⟩
  · exact Or.inl ⟨by simp [upd], by simp [upd], InvT_lay hT⟩
theorem sm_cong {wd wd' : Nat → Nat} : ∀ {k : Nat}, (∀ j, j < k → wd' j = wd j) → sm wd' k = sm wd k
  | 0, _ => rfl
  | k + 1, h => by
    show sm wd' k + wd' k = sm wd k + wd k
    rw [sm_cong (fun j hj => h j (by omega)), h k (by omega)]
theorem wf_more {P : Nat → Nat → Int32} {z k : Nat} (h : wfP P z k) : wfP P z (k + 1) := fun pc hpc => by
  rcases h pc hpc with h1 | ⟨h1, h2, j, hj, e⟩ | h1
  · exact Or.inl h1
  · exact Or.inr (Or.inl ⟨h1, h2, j, by omega, e⟩)
  · exact Or.inr (Or.inr h1)
theorem a_input {L K : List Nat} {rG : Nat → Option Nat} {bI pI : Nat → Int32} {pA : Nat → Nat → Int32} {tI : Nat → Int32} {tJ : Nat → Int64} {tP : Nat → Option Nat} {tO : Nat → Int64} {tR vI : Nat → Int32} {vJ : Nat → Int64} {vA qI : Nat → Nat → Int32} {qJ : Nat → Nat → Int64} {rI : Nat → Int32} {rA rR : Nat → Nat → Int32} (h : Inv L K rG bI pI pA tI tJ tP tO tR vI vJ vA qI qJ rI rA rR) (u1 u2 : Int32) : ∃ r bI' pI' pA' tI' tJ' rI' rA', f_X4_input L u1 u2 bI pI pA tI tJ = some (r, (bI', pI', pA', tI', tJ')) ∧ f_X5_input K u1 u2 rI rA = some (r, (rI', rA')) ∧ Inv L K rG bI' pI' pA' tI' tJ' tP tO tR vI vJ vA qI qJ rI' rA' rR := by
  have hI := h
  obtain ⟨k, wd, sg, P, z, ga, hg, hP, hR, hT⟩ := h
  obtain ⟨⟨hk, hb, p0, p1, c5⟩, ⟨-, -, r1, m5⟩, r2, hz, p2, r3, hpA, hrA, hw, m, d, hm, hd, p3, r4, p4, r5⟩ := hP
  unfold f_X4_input f_X3_addInput f_X5_input
  have same : ∃ r bI' pI' pA' tI' tJ' rI' rA', ((some ((-1 : Int32), (pI, pA))).bind fun (x : Int32 × (Nat → Int32) × (Nat → Nat → Int32)) => if x.1 = (-1 : Int32) then some (x.1, (bI, x.2.1, x.2.2, tI, tJ)) else (f_X4_forgetFindings L bI tI tJ).bind fun (y : (Nat → Int32) × (Nat → Int32) × (Nat → Int64)) => some (x.1, (y.1, x.2.1, x.2.2, y.2.1, y.2.2))) = some (r, (bI', pI', pA', tI', tJ')) ∧ some ((-1 : Int32), (rI, rA)) = some (r, (rI', rA')) ∧ Inv L K rG bI' pI' pA' tI' tJ' tP tO tR vI vJ vA qI qJ rI' rA' rR := ⟨-1, bI, pI, pA, tI, tJ, rI, rA, rfl, rfl, hI⟩
  rw [p0, p1, r1, r2]
  by_cases k4 : k = 4
  · subst k4
    rw [if_pos (by decide), if_pos (by decide)]
    exact same
  rw [if_neg (show ¬ (4 : Int32) ≤ nI k from nI_ge (a := k) (b := 4) (by omega) (by decide)), if_neg (show ¬ nI k = 4 from fun q => k4 ((nI_eq (a := k) (b := 4) (by omega) (by decide)).mp q))]
  by_cases u0 : u1 < 1
  · rw [if_pos u0, if_pos u0]
    exact same
  rw [if_neg u0, if_neg u0]
  have n0 : ¬ u1 < 0 := fun q => u0 (Int32.lt_trans q (by decide))
  obtain ⟨j, hj, rfl⟩ := nI_of n0
  have j1 : 1 ≤ j := by
    rcases Nat.eq_zero_or_pos j with q | q
    · subst q; exact absurd (by decide) u0
    · exact q
  have e12 : (12 : Int32) - nI (sm wd k) = nI (12 - sm wd k) := pk_sub (a := 12) (b := sm wd k) hb
  rw [e12]
  by_cases fit : j ≤ 12 - sm wd k
  · have ea : nI (sm wd k) + nI j = nI (sm wd k + j) := nI_add _ _
    rw [if_pos (nI_le fit (by omega)), if_neg (show ¬ (12 : Int32) < nI j from Int32.not_lt.mpr (nI_le (a := j) (b := 12) (by omega) (by decide))), ea, if_pos (show nI (sm wd k + j) ≤ (12 : Int32) from nI_le (a := sm wd k + j) (b := 12) (by omega) (by decide))]
    have eu : (upd pI 1 (nI (sm wd k + j))) 0 = nI k := by simp [upd, p0]
    have eu1 : (upd pI 1 (nI (sm wd k + j))) 1 = nI (sm wd k + j) := by simp [upd]
    rw [eu, eu1]
    have ib : inb (nI k) 4 = true := inb_lt (by omega) (by decide)
    have ck : (nI k).toNatClampNeg = k := nI_clamp (by omega)
    simp only [if_pos ib, Option.bind_some, ck]
    have e0 : (upd (upd pI 1 (nI (sm wd k + j))) 0 (nI k + 1)) 0 - 1 = nI k := by
      have : (upd (upd pI 1 (nI (sm wd k + j))) 0 (nI k + 1)) 0 = nI k + 1 := by simp [upd]
      rw [this, nI_1, nI_pred]
    rw [e0, if_neg (nI_ne1 (by omega))]
    unfold f_X4_forgetFindings f_X5_changed
    rw [forget_eq]
    simp only [Option.bind_some]
    have e2 : (upd rI 1 (nI k + 1)) 2 = nI (sm wd k) := by simp [upd, r2]
    rw [e2, ea]
    have e3 : (upd (upd (upd (upd rI 1 (nI k + 1)) 2 (nI (sm wd k + j))) 6 (-1 : Int32)) 19 (0 : Int32)) 1 - 1 = nI k := by
      have : (upd (upd (upd (upd rI 1 (nI k + 1)) 2 (nI (sm wd k + j))) 6 (-1 : Int32)) 19 (0 : Int32)) 1 = nI k + 1 := by simp [upd]
      rw [this, nI_1, nI_pred]
    rw [e3]
    have hsm : sm (fun i => if i = k then j else wd i) (k + 1) = sm wd k + j := by
      show sm _ k + (if k = k then j else wd k) = _
      rw [sm_cong (wd := wd) (fun i hi => if_neg (by omega)), if_pos rfl]
    have hsmi : ∀ i, i < k → sm (fun i => if i = k then j else wd i) (i + 1) = sm wd (i + 1) := fun i hi => sm_cong (fun a ha => if_neg (by omega))
    refine ⟨_, _, _, _, _, _, _, _, rfl, rfl, k + 1, fun i => if i = k then j else wd i, fun i => if i = k then vp_nar .boolean u2 else sg i, P, z, ga, hg, ⟨⟨by omega, by rw [hsm]; omega, by simp [upd]; rw [nI_1], by rw [hsm]; simp [upd], fun i hi => ?_⟩, ⟨by omega, by rw [hsm]; omega, by simp [upd]; rw [nI_1], fun i hi => ?_⟩, by rw [hsm]; simp [upd], hz, by simp [upd, p2], by simp [upd, r3], fun pc hpc => ?_, fun pc hpc => ?_, wf_more hw, m, d, hm, hd, by simp [upd, p3], by simp [upd, r4], by simp [upd, p4], by simp [upd, r5]⟩, InvR_stale hR (fun i h1 h2 => by unfold upd; rw [if_neg (by omega), if_neg (by omega), if_neg (by omega), if_neg (by omega)]) (by simp [upd]) (fun t ht => by rw [up2_ne _ _ _ (by omega), up2_ne _ _ _ (by omega)]), Or.inl ⟨by simp [upd], by simp [upd], InvT_lay hT⟩⟩
    · by_cases c : i = k
      · subst c
        dsimp only
        rw [if_pos rfl, if_pos rfl, hsm]
        refine ⟨j1, by omega, ?_, ?_, ?_⟩
        · rw [up2_ne _ _ _ (by decide), up2_ne _ _ _ (by decide), up2_same]; simp [upd]
        · rw [up2_ne _ _ _ (by decide), up2_same]; simp [upd]
        · rw [up2_same]; simp [upd]
      · obtain ⟨a1, a2, a3, a4, a5⟩ := c5 i (by omega)
        dsimp only
        rw [if_neg c, if_neg c, hsmi i (by omega)]
        refine ⟨a1, a2, ?_, ?_, ?_⟩
        · rw [up2_ne _ _ _ (by decide), up2_ne _ _ _ (by decide), up2_same]; simp [upd, c, a3]
        · rw [up2_ne _ _ _ (by decide), up2_same]; simp only [upd, if_neg c]; rw [up2_ne _ _ _ (by decide)]; exact a4
        · rw [up2_same]; simp only [upd, if_neg c]; rw [up2_ne _ _ _ (by decide), up2_ne _ _ _ (by decide)]; exact a5
    · by_cases c : i = k
      · subst c
        dsimp only
        rw [if_pos rfl, if_pos rfl]
        refine ⟨j1, by omega, ?_, ?_⟩
        · rw [up2_ne _ _ _ (by decide), up2_same]; simp [upd]
        · rw [up2_same]; simp [upd]
      · obtain ⟨a1, a2, a3, a4⟩ := m5 i (by omega)
        dsimp only
        rw [if_neg c, if_neg c]
        refine ⟨a1, a2, ?_, ?_⟩
        · rw [up2_ne _ _ _ (by decide), up2_same]; simp [upd, c, a3]
        · rw [up2_same]; simp only [upd, if_neg c]; rw [up2_ne _ _ _ (by decide)]; exact a4
    · rw [up2_ne _ _ _ (by decide), up2_ne _ _ _ (by decide), up2_ne _ _ _ (by decide), up2_ne _ _ _ (by decide), up2_ne _ _ _ (by decide), up2_ne _ _ _ (by decide), up2_ne _ _ _ (by decide), up2_ne _ _ _ (by decide), up2_ne _ _ _ (by decide), up2_ne _ _ _ (by decide), up2_ne _ _ _ (by decide), up2_ne _ _ _ (by decide)]
      exact hpA pc hpc
    · rw [up2_ne _ _ _ (by decide), up2_ne _ _ _ (by decide), up2_ne _ _ _ (by decide), up2_ne _ _ _ (by decide), up2_ne _ _ _ (by decide), up2_ne _ _ _ (by decide), up2_ne _ _ _ (by decide), up2_ne _ _ _ (by decide)]
      exact hrA pc hpc
  · rw [if_neg (show ¬ nI j ≤ nI (12 - sm wd k) from nI_ge (by omega) hj)]
    by_cases big : (12 : Int32) < nI j
    · rw [if_pos big]
      exact same
    · have j12 : j ≤ 12 := Decidable.byContradiction fun q => big (Int32.not_le.mp (nI_ge (a := 12) (b := j) (by omega) hj))
      have ea : nI (sm wd k) + nI j = nI (sm wd k + j) := nI_add _ _
      rw [if_neg big, ea, if_neg (show ¬ nI (sm wd k + j) ≤ (12 : Int32) from nI_ge (a := 12) (b := sm wd k + j) (by omega) (by omega))]
      exact same
