theorem nar0 : vp_nar .boolean (0 : Int32) = 0 := by decide +kernel
abbrev RC5 : Type := (Int32 × Int32 × (Nat → Int32) × (Nat → Nat → Int32) × (Nat → Nat → Int32)) → Option (Int32 × (Nat → Int32) × (Nat → Nat → Int32) × (Nat → Nat → Int32))
theorem b160_eq {n : Nat} {K : List Nat} {rc : RC5} {x1 : Int32} {w i u : Nat} (hw : w < 4096) (hi : i < 40) (hu : u < 4096) {rI : Nat → Int32} {rA rR : Nat → Nat → Int32} {rG : Nat → Option Nat} (h9 : rA 9 i = nI u) : f_X5_explore_b160 n K rc x1 (nI w) (nI i) rI rA rG rR = rc (x1, nI (w + 1), rI, up2 (up2 (up2 rA 11 w (nI i)) 12 w (rI 9)) 10 i (if ¬ rA 10 i = 0 ∧ rI 9 = (if u = w then rI 9 else rA 12 u) then 1 else 0), rR) := by
  have cw : (nI w).toNatClampNeg = w := nI_clamp (by omega)
  have ci : (nI i).toNatClampNeg = i := nI_clamp (by omega)
  have cu : (nI u).toNatClampNeg = u := nI_clamp (by omega)
  unfold f_X5_explore_b160
  simp only [inb_lt hw (show 4096 < 2 ^ 31 by decide), inb_lt hi (show 40 < 2 ^ 31 by decide), if_true, Option.bind_some, cw, ci]
  have e10 : (up2 (up2 rA 11 w (nI i)) 12 w (rI 9)) 10 i = rA 10 i := by rw [up2_ne _ _ _ (by decide), up2_ne _ _ _ (by decide)]
  have e9 : (up2 (up2 rA 11 w (nI i)) 12 w (rI 9)) 9 i = nI u := by rw [up2_ne _ _ _ (by decide), up2_ne _ _ _ (by decide), h9]
  have e12 : (up2 (up2 rA 11 w (nI i)) 12 w (rI 9)) 12 u = if u = w then rI 9 else rA 12 u := by
    rw [up2_same, up2_ne _ _ _ (by decide)]
    rfl
  rw [e10, e9, cu, e12, if_pos (inb_lt hu (by decide))]
  unfold f_X5_explore_b213 f_X5_explore_b214
  simp only [inb_lt hi (show 40 < 2 ^ 31 by decide), if_true, ci, nI_1, nar0, nar1]
  by_cases c : rA 10 i = 0
  · simp [c]
  · by_cases d : rI 9 = (if u = w then rI 9 else rA 12 u)
    · rw [if_neg c, if_pos d, if_pos ⟨c, d⟩]
    · rw [if_neg c, if_neg d, if_neg (fun q => d q.2)]
theorem b126_eq {n : Nat} {K : List Nat} {rc : RC5} {x1 x2 : Int32} {i : Nat} (hi : i < 40) {rI : Nat → Int32} {rA rR : Nat → Nat → Int32} {rG : Nat → Option Nat} : f_X5_explore_b126 n K rc x1 x2 (nI i) rI rA rG rR = f_X5_explore_b160 n K rc x1 x2 (nI i) rI (up2 (up2 (up2 (up2 rA 6 i (rI 7)) 7 i (rI 8)) 9 i x2) 10 i 1) rG rR := by
  have ci : (nI i).toNatClampNeg = i := nI_clamp (by omega)
  unfold f_X5_explore_b126
  simp only [inb_lt hi (show 40 < 2 ^ 31 by decide), if_true, Option.bind_some, ci, nar1]
set_option maxHeartbeats 4000000 in
/-- a word more in the model's table -/
theorem mword {n : Nat} (hn : 100 < n) {K : List Nat} {ga : Nat → Nat} {rG : Nat → Option Nat} (hg : Gay K ga rG) {T : Nat → TR} {κ : Nat → Int64} (hk : keyOk T κ) (hs : ∀ w, srt (T w).1) {w c : Nat} (hw : w < 4096) {lw : Nat → Nat} {rI rI' : Nat → Int32} {rA rA' rR : Nat → Nat → Int32} (hm : mTab T κ w c lw ga rA rR) (hy : yRan (T w) 1 rI rI' rA rA') (rc : RC5) :
    (∃ c' lw' rA2 rR2, lp (f_X5_explore_l47 n K rc (nI c) (nI w) rI' rA' rG rR) n (0 : Int32) = rc (nI c', nI (w + 1), rI', rA2, rR2) ∧ mTab T κ (w + 1) c' lw' ga rA2 rR2 ∧ ∀ j, j < 6 ∨ 16 < j → rA2 j = rA j) ∨
    (c = 40 ∧ (∀ i, i < c → κ w ≠ κ (lw i)) ∧ lp (f_X5_explore_l47 n K rc (nI c) (nI w) rI' rA' rG rR) n (0 : Int32) = some (-1, (rI', rA', rR))) := by
  obtain ⟨hT, hc, hrow, hwd, hmet⟩ := hm
  obtain ⟨y7, y8, y9, y10, y11, y16, -, -, -, yA, y13⟩ := hy
  have er : rI' 9 = resT (T w) := y9
  have ee : rI' 7 = enT (T w) := y7
  have ep : rI' 8 = nI (plT (T w)) := y8
  have keep : ∀ j, j ≠ 13 → j ≠ 14 → j ≠ 15 → j ≠ 16 → rA' j = rA j := yA
  obtain ⟨i, hi, f1, f2, f3⟩ := exp47 hn hg hk hs hc (lw := lw) (rI := rI') (rA := rA') (rR := rR) y11 y16 (fun i hi => ⟨by rw [keep 8 (by decide) (by decide) (by decide) (by decide)]; exact (hrow i hi).2.2.1, (hrow i hi).2.2.2.2.2⟩) rc (nI w)
  rw [f1]
  unfold f_X5_explore_b66
  have met' : ∀ p, p < 60 → rA' 13 p = if visB T (w + 1) p then 1 else 0 := fun p hp => by
    rw [y13 p, hmet p hp]
    unfold visB
    rw [anyW_succ]
    by_cases a : p ∈ (T w).2.1
    · have : inV (T w).2.1 p = true := decide_eq_true a
      simp [a, this]
    · have : inV (T w).2.1 p = false := decide_eq_false a
      simp [a, this]
  have k6 := keep 6 (by decide) (by decide) (by decide) (by decide)
  have k7 := keep 7 (by decide) (by decide) (by decide) (by decide)
  have k8 := keep 8 (by decide) (by decide) (by decide) (by decide)
  have k9 := keep 9 (by decide) (by decide) (by decide) (by decide)
  have k10 := keep 10 (by decide) (by decide) (by decide) (by decide)
  have k11 := keep 11 (by decide) (by decide) (by decide) (by decide)
  have k12 := keep 12 (by decide) (by decide) (by decide) (by decide)
  by_cases d : i = c
  · subst d
    have hne : ∀ j, j < i → κ w ≠ κ (lw j) := f2
    by_cases d4 : i = 40
    · subst d4
      rw [if_pos (by decide)]
      exact Or.inr ⟨rfl, hne, rfl⟩
    · have hi4 : i < 40 := by omega
      have ci : (nI i).toNatClampNeg = i := nI_clamp (by omega)
      rw [if_neg (show ¬ nI i = (40 : Int32) from fun q => by have q2 : nI i = nI 40 := q; rw [nI_eq (by omega) (by decide)] at q2; omega), if_pos rfl, if_pos (inb_lt hi4 (by decide)), ci, nI_1]
      obtain ⟨rR2, g1, g2, g3⟩ := exp95 hn hg (hs w) hi4 (rI := rI') (rA := up2 rA' 8 i (rI' 11)) y11 (by rw [up2_ne _ _ _ (by decide)]; exact y16) rc (nI (i + 1)) (nI w) rR
      rw [g1, b126_eq hi4, b160_eq hw hi4 hw (by rw [up2_ne _ _ _ (by decide), up2_same]; simp [upd])]
      refine Or.inl ⟨i + 1, fun j => if j = i then w else lw j, _, rR2, rfl, ⟨TabU_new hT hne (fun j hj => by rw [if_neg (by omega)]) (by rw [if_pos rfl]), by omega, ?_, ?_, ?_⟩, ?_⟩
      · intro j hj
        have fresh : ∀ v, v < w → κ v ≠ κ w := fun v hv q => by
          obtain ⟨k0, hk0, q2⟩ := hT.2.1 v hv
          exact hne k0 hk0 (q.symm.trans q2)
        by_cases a : j = i
        · subst a
          dsimp only
          rw [if_pos rfl]
          refine ⟨?_, ?_, ?_, ?_, ?_, g2⟩
          · simp [up2, va_up, upd, ee]
          · simp [up2, va_up, upd, ep]
          · simp [up2, va_up, upd, y11]
          · simp [up2, va_up, upd]
          · simp [up2, va_up, upd, sameB_new fresh]
        · dsimp only
          rw [if_neg a]
          have hj2 : j < i := by omega
          obtain ⟨r1, r2, r3, r4, r5, r6⟩ := hrow j hj2
          have hga : ga j ≠ ga i := fun q => a (hg.2 j i (by omega) hi4 q)
          refine ⟨?_, ?_, ?_, ?_, ?_, by rw [g3 _ hga]; exact r6⟩
          · simp [up2, va_up, upd, a, k6, r1]
          · simp [up2, va_up, upd, a, k7, r2]
          · simp [up2, va_up, upd, a, k8, r3]
          · simp [up2, va_up, upd, a, k9, r4]
          · rw [sameB_ne (hne j hj2)]
            simp [up2, va_up, upd, a, k10, r5]
      · intro v hv
        by_cases a : v = w
        · subst a
          refine ⟨by simp [up2, va_up, upd, er], i, by omega, by simp [up2, va_up, upd], by dsimp only; rw [if_pos rfl]⟩
        · obtain ⟨q1, k0, hk0, q2, q3⟩ := hwd v (by omega)
          refine ⟨by simp [up2, va_up, upd, a, k12, q1], k0, by omega, by simp [up2, va_up, upd, a, k11, q2], by dsimp only; rw [if_neg (by omega)]; exact q3⟩
      · intro p hp
        have : (up2 (up2 (up2 (up2 (up2 (up2 (up2 (up2 rA' 8 i (rI' 11)) 6 i (rI' 7)) 7 i (rI' 8)) 9 i (nI w)) 10 i 1) 11 w (nI i)) 12 w (rI' 9)) 10 i (if ¬ (up2 (up2 (up2 (up2 (up2 rA' 8 i (rI' 11)) 6 i (rI' 7)) 7 i (rI' 8)) 9 i (nI w)) 10 i 1) 10 i = 0 ∧ rI' 9 = (if w = w then rI' 9 else (up2 (up2 (up2 (up2 (up2 rA' 8 i (rI' 11)) 6 i (rI' 7)) 7 i (rI' 8)) 9 i (nI w)) 10 i 1) 12 w) then 1 else 0)) 13 = rA' 13 := by simp [up2, va_up]
        rw [this]
        exact met' p hp
      · intro j hj
        rw [up2_ne _ _ _ (by omega), up2_ne _ _ _ (by omega), up2_ne _ _ _ (by omega), up2_ne _ _ _ (by omega), up2_ne _ _ _ (by omega), up2_ne _ _ _ (by omega), up2_ne _ _ _ (by omega), up2_ne _ _ _ (by omega)]
        exact keep j (by omega) (by omega) (by omega) (by omega)
  · have hic : i < c := by omega
    have e := f3 hic
    have hi4 : i < 40 := by omega
    have hu := (hT.1 i hic).1
    rw [if_neg (show ¬ nI i = (40 : Int32) from fun q => by have q2 : nI i = nI 40 := q; rw [nI_eq (by omega) (by decide)] at q2; omega), if_neg (show ¬ nI i = nI c from fun q => by rw [nI_eq (by omega) (by omega)] at q; omega)]
    obtain ⟨r1, r2, r3, r4, r5, r6⟩ := hrow i hic
    rw [b160_eq hw hi4 (u := lw i) (by omega) (by rw [k9]; exact r4)]
    refine Or.inl ⟨c, lw, _, rR, rfl, ⟨TabU_old hT hic e, hc, ?_, ?_, ?_⟩, ?_⟩
    · intro j hj
      obtain ⟨s1, s2, s3, s4, s5, s6⟩ := hrow j hj
      refine ⟨?_, ?_, ?_, ?_, ?_, s6⟩
      · simp [up2, va_up, k6, s1]
      · simp [up2, va_up, k7, s2]
      · simp [up2, va_up, k8, s3]
      · simp [up2, va_up, k9, s4]
      · by_cases a : j = i
        · subst a
          rw [up2_same]
          simp only [upd, if_true]
          rw [sameB_eq e, if_neg (show ¬ lw j = w by omega), k10, s5, k12, (hwd (lw j) hu).1, er]
          cases sameB T κ w (lw j) <;> simp
        · have hnk : κ w ≠ κ (lw j) := fun q => a (hT.2.2 j i hj hic (q.symm.trans e))
          rw [sameB_ne hnk, up2_same]
          simp [upd, a, up2, va_up, k10, s5]
    · intro v hv
      by_cases a : v = w
      · subst a
        refine ⟨by simp [up2, va_up, upd, er], i, hic, by simp [up2, va_up, upd], e⟩
      · obtain ⟨q1, k0, hk0, q2, q3⟩ := hwd v (by omega)
        refine ⟨by simp [up2, va_up, upd, a, k12, q1], k0, hk0, by simp [up2, va_up, upd, a, k11, q2], q3⟩
    · intro p hp
      rw [up2_ne _ _ _ (by decide), up2_ne _ _ _ (by decide), up2_ne _ _ _ (by decide)]
      exact met' p hp
    · intro j hj
      rw [up2_ne _ _ _ (by omega), up2_ne _ _ _ (by omega), up2_ne _ _ _ (by omega)]
      exact keep j (by omega) (by omega) (by omega) (by omega)
