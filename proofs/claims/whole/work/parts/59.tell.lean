theorem tooMany3 {m d : Nat} (hm : m ≤ 6) (hd : d ≤ 6) {pI : Nat → Int32} (p3 : pI 3 = nI m) (p4 : pI 4 = nI d) (u1 : Int32) : f_X3_wouldBeTooMany u1 pI = some ((if (u1 = 5 ∧ m = 6) ∨ (isDv u1 = true ∧ d = 6) then 1 else 0), ()) := by
  have b14 : f_X3_wouldBeTooMany_b14 u1 pI = some ((if isDv u1 = true ∧ d = 6 then 1 else 0), ()) := by
    unfold f_X3_wouldBeTooMany_b14
    rw [isDivX4_eq, p4]
    simp only [Option.bind_some]
    cases hv : isDv u1 with
    | false => simp
    | true =>
      by_cases c : d = 6
      · subst c
        rw [if_neg (by decide), if_neg (by decide), if_pos ⟨rfl, rfl⟩]
      · rw [if_neg (by decide), if_pos (show nI d < (6 : Int32) from Int32.not_le.mp (nI_ge (a := d) (b := 6) (by omega) (by decide))), if_neg (fun q => c q.2)]
  unfold f_X3_wouldBeTooMany
  rw [b14, p3]
  by_cases c : u1 = 5
  · rw [if_pos c]
    by_cases e : m = 6
    · subst e
      rw [if_pos (by decide), if_pos (Or.inl ⟨c, rfl⟩)]
    · rw [if_neg (show ¬ (6 : Int32) ≤ nI m from nI_ge (a := m) (b := 6) (by omega) (by decide))]
      by_cases f : isDv u1 = true ∧ d = 6
      · rw [if_pos f, if_pos (Or.inr f)]
      · rw [if_neg f, if_neg (fun q => by rcases q with q | q; exact e q.2; exact f q)]
  · rw [if_neg c]
    by_cases f : isDv u1 = true ∧ d = 6
    · rw [if_pos f, if_pos (Or.inr f)]
    · rw [if_neg f, if_neg (fun q => by rcases q with q | q; exact c q.1; exact f q)]
def PN (P : Nat → Nat → Int32) (z : Nat) (u1 u2 u3 u4 : Int32) : Nat → Nat → Int32 := fun t pc => if pc = z then (if t = 0 then u1 else if t = 1 then u2 else if t = 2 then u3 else u4) else P t pc
theorem PN_ne {P : Nat → Nat → Int32} {z : Nat} {u1 u2 u3 u4 : Int32} {pc : Nat} (h : pc < z) (t : Nat) : PN P z u1 u2 u3 u4 t pc = P t pc := by unfold PN; rw [if_neg (by omega)]
theorem PN_wf {P : Nat → Nat → Int32} {z k : Nat} {u1 u2 u3 u4 : Int32} (h : wfP P z k) (h2 : wfI z u1 u2 u3 u4 k) : wfP (PN P z u1 u2 u3 u4) (z + 1) k := fun pc hpc => by
  by_cases c : pc = z
  · subst c
    unfold PN
    simp only [if_true]
    exact h2
  · rw [PN_ne (by omega), PN_ne (by omega), PN_ne (by omega), PN_ne (by omega)]
    exact h pc (by omega)
theorem addI_eq {z m d : Nat} (hz : z < 60) (u1 u2 u3 u4 : Int32) {k : Nat} {pI : Nat → Int32} {pA : Nat → Nat → Int32} (p0 : pI 0 = nI k) (p2 : pI 2 = nI z) (p3 : pI 3 = nI m) (p4 : pI 4 = nI d) (hm : m ≤ 6) (hd : d ≤ 6) : f_X3_addInstruction u1 u2 u3 u4 pI pA = if goodB k z u1 u2 u3 u4 = true ∧ ¬ ((u1 = 5 ∧ m = 6) ∨ (isDv u1 = true ∧ d = 6)) then some (nI z, (upd (upd (upd pI 3 (nI (m + if u1 = 5 then 1 else 0))) 4 (nI (d + if isDv u1 = true then 1 else 0))) 2 (nI (z + 1)), up2 (up2 (up2 (up2 pA 3 z u1) 4 z u2) 5 z u3) 6 z u4)) else some (-1, (pI, pA)) := by
  unfold f_X3_addInstruction
  rw [p2, if_neg (show ¬ (60 : Int32) ≤ nI z from nI_ge (a := z) (b := 60) hz (by decide)), fits_eq p0 p2, tooMany3 hm hd p3 p4]
  simp only [Option.bind_some]
  have cz : (nI z).toNatClampNeg = z := nI_clamp (by omega)
  have iz : inb (nI z) 60 = true := inb_lt hz (by decide)
  cases hg : goodB k z u1 u2 u3 u4 with
  | false => simp
  | true =>
    simp only [if_true, if_neg ne10, true_and]
    by_cases tm : (u1 = 5 ∧ m = 6) ∨ (isDv u1 = true ∧ d = 6)
    · rw [if_pos tm, if_neg ne10, if_neg (fun q => q tm)]
    · rw [if_neg tm, if_pos rfl, if_pos tm, if_pos iz, if_pos iz, if_pos iz, if_pos iz, cz]
      unfold f_X3_addInstruction_b87 f_X3_addInstruction_b108
      rw [isDivX4_eq, p3]
      simp only [Option.bind_some]
      have f2 : ∀ (x y : Int32), (upd (upd (upd pI 3 x) 4 y) 2 ((upd (upd pI 3 x) 4 y) 2 + 1)) 2 - 1 = nI z := fun x y => by
        have e : (upd (upd (upd pI 3 x) 4 y) 2 ((upd (upd pI 3 x) 4 y) 2 + 1)) 2 = nI z + 1 := by simp [upd, p2]
        rw [e, nI_1, nI_pred]
      have f3 : ∀ (x y : Int32), (upd (upd pI 3 x) 4 y) 2 + 1 = nI (z + 1) := fun x y => by
        have e : (upd (upd pI 3 x) 4 y) 2 = nI z := by simp [upd, p2]
        rw [e, nI_1]
      have f4 : ∀ x : Int32, (upd pI 3 x) 4 = nI d := fun x => by simp [upd, p4]
      rw [f4, f4]
      cases hv : isDv u1 with
      | false =>
        by_cases c5 : u1 = 5
        · rw [if_pos c5, if_pos (show (if false = true then (1 : Int32) else 0) = 0 from rfl), f2, f3]
          simp only [if_pos c5, Bool.false_eq_true, if_false, Nat.add_zero, Int32.add_zero, nI_1]
        · rw [if_neg c5, if_pos (show (if false = true then (1 : Int32) else 0) = 0 from rfl), f2, f3]
          simp only [if_neg c5, Bool.false_eq_true, if_false, Nat.add_zero, Int32.add_zero]
      | true =>
        by_cases c5 : u1 = 5
        · rw [if_pos c5, if_neg (show ¬ (if true = true then (1 : Int32) else 0) = 0 by decide), f2, f3]
          simp only [if_pos c5, if_true, nI_1]
        · rw [if_neg c5, if_neg (show ¬ (if true = true then (1 : Int32) else 0) = 0 by decide), f2, f3]
          simp only [if_neg c5, if_true, Nat.add_zero, Int32.add_zero, nI_1]
theorem tell5_eq {z m d : Nat} (hz : z < 60) (u1 u2 u3 u4 : Int32) {k : Nat} (K : List Nat) {rI : Nat → Int32} {rA : Nat → Nat → Int32} (r1 : rI 1 = nI k) (r3 : rI 3 = nI z) (r4 : rI 4 = nI m) (r5 : rI 5 = nI d) (hm : m ≤ 6) (hd : d ≤ 6) : f_X5_tell K u1 u2 u3 u4 rI rA = if goodB k z u1 u2 u3 u4 = true ∧ ¬ ((u1 = 5 ∧ m = 6) ∨ (isDv u1 = true ∧ d = 6)) then some (nI z, (upd (upd (upd (upd (upd rI 4 (nI (m + if u1 = 5 then 1 else 0))) 5 (nI (d + if isDv u1 = true then 1 else 0))) 3 (nI (z + 1))) 6 (-1)) 19 0, up2 (up2 (up2 (up2 rA 2 z u1) 3 z u2) 4 z u3) 5 z u4)) else some (-1, (rI, rA)) := by
  unfold f_X5_tell
  rw [isGood_eq r1 r3]
  simp only [Option.bind_some]
  have cz : (nI z).toNatClampNeg = z := nI_clamp (by omega)
  have iz : inb (nI z) 60 = true := inb_lt hz (by decide)
  cases hg : goodB k z u1 u2 u3 u4 with
  | false => simp
  | true =>
    simp only [if_true, if_neg ne10, true_and]
    rw [r3, if_neg (show ¬ nI z = 60 from fun q => by have := (nI_eq (a := z) (b := 60) (by omega) (by decide)).mp q; omega), r4]
    have b53 : f_X5_tell_b53 K u1 u2 u3 u4 rI rA = some (nI z, (upd (upd (upd (upd (upd rI 4 (nI (m + if u1 = 5 then 1 else 0))) 5 (nI (d + if isDv u1 = true then 1 else 0))) 3 (nI (z + 1))) 6 (-1)) 19 0, up2 (up2 (up2 (up2 rA 2 z u1) 3 z u2) 4 z u3) 5 z u4)) := by
      unfold f_X5_tell_b53
      rw [r3]
      simp only [Option.bind_some, if_pos iz, cz]
      unfold f_X5_tell_b109 f_X5_tell_b130 f_X5_changed
      rw [isDivX5_eq, r4]
      simp only [Option.bind_some]
      have f2 : ∀ (x y : Int32), (upd (upd (upd (upd (upd rI 4 x) 5 y) 3 ((upd (upd rI 4 x) 5 y) 3 + 1)) 6 (-1)) 19 0) 3 - 1 = nI z := fun x y => by
        have e : (upd (upd (upd (upd (upd rI 4 x) 5 y) 3 ((upd (upd rI 4 x) 5 y) 3 + 1)) 6 (-1)) 19 0) 3 = nI z + 1 := by simp [upd, r3]
        rw [e, nI_1, nI_pred]
      have f3 : ∀ (x y : Int32), (upd (upd rI 4 x) 5 y) 3 + 1 = nI (z + 1) := fun x y => by
        have e : (upd (upd rI 4 x) 5 y) 3 = nI z := by simp [upd, r3]
        rw [e, nI_1]
      have f4 : ∀ x : Int32, (upd rI 4 x) 5 = nI d := fun x => by simp [upd, r5]
      rw [f4, f4]
      cases hv : isDv u1 with
      | false =>
        by_cases c5 : u1 = 5
        · rw [if_pos c5, if_pos (show (if false = true then (1 : Int32) else 0) = 0 from rfl), f2, f3]
          simp only [if_pos c5, Bool.false_eq_true, if_false, Nat.add_zero, Int32.add_zero, nI_1]
        · rw [if_neg c5, if_pos (show (if false = true then (1 : Int32) else 0) = 0 from rfl), f2, f3]
          simp only [if_neg c5, Bool.false_eq_true, if_false, Nat.add_zero, Int32.add_zero]
      | true =>
        by_cases c5 : u1 = 5
        · rw [if_pos c5, if_neg (show ¬ (if true = true then (1 : Int32) else 0) = 0 by decide), f2, f3]
          simp only [if_pos c5, if_true, nI_1]
        · rw [if_neg c5, if_neg (show ¬ (if true = true then (1 : Int32) else 0) = 0 by decide), f2, f3]
          simp only [if_neg c5, if_true, Nat.add_zero, Int32.add_zero, nI_1]
    have n6 : ∀ a : Nat, a ≤ 6 → (nI a = (6 : Int32) ↔ a = 6) := fun a ha => nI_eq (a := a) (b := 6) (by omega) (by decide)
    have b35 : f_X5_tell_b35 K u1 u2 u3 u4 rI rA = if isDv u1 = true ∧ d = 6 then some (-1, (rI, rA)) else f_X5_tell_b53 K u1 u2 u3 u4 rI rA := by
      unfold f_X5_tell_b35
      rw [isDivX5_eq, r5]
      simp only [Option.bind_some]
      cases hv : isDv u1 with
      | false => simp
      | true =>
        by_cases c : d = 6
        · rw [if_neg (by decide), if_pos ((n6 d hd).mpr c), if_pos ⟨rfl, c⟩]
        · rw [if_neg (by decide), if_neg (fun q => c ((n6 d hd).mp q)), if_neg (fun q => c q.2)]
    rw [b35]
    by_cases c : u1 = 5 ∧ m = 6
    · rw [if_pos c.1, if_pos ((n6 m hm).mpr c.2), if_neg (fun q => q (Or.inl c))]
    · have : (if u1 = 5 then if nI m = (6 : Int32) then some ((-1 : Int32), (rI, rA)) else (if isDv u1 = true ∧ d = 6 then some ((-1 : Int32), (rI, rA)) else f_X5_tell_b53 K u1 u2 u3 u4 rI rA) else (if isDv u1 = true ∧ d = 6 then some ((-1 : Int32), (rI, rA)) else f_X5_tell_b53 K u1 u2 u3 u4 rI rA)) = (if isDv u1 = true ∧ d = 6 then some ((-1 : Int32), (rI, rA)) else f_X5_tell_b53 K u1 u2 u3 u4 rI rA) := by
        by_cases c5 : u1 = 5
        · rw [if_pos c5, if_neg (fun q => c ⟨c5, (n6 m hm).mp q⟩)]
        · rw [if_neg c5]
      rw [this]
      by_cases f : isDv u1 = true ∧ d = 6
      · rw [if_pos f, if_neg (fun q => q (Or.inr f))]
      · rw [if_neg f, if_pos (show ¬ ((u1 = 5 ∧ m = 6) ∨ (isDv u1 = true ∧ d = 6)) from fun q => by rcases q with q | q; exact c q; exact f q), b53]
theorem a_tell {L K : List Nat} {rG : Nat → Option Nat} {bI pI : Nat → Int32} {pA : Nat → Nat → Int32} {tI : Nat → Int32} {tJ : Nat → Int64} {tP : Nat → Option Nat} {tO : Nat → Int64} {tR vI : Nat → Int32} {vJ : Nat → Int64} {vA qI : Nat → Nat → Int32} {qJ : Nat → Nat → Int64} {rI : Nat → Int32} {rA rR : Nat → Nat → Int32} (h : Inv L K rG bI pI pA tI tJ tP tO tR vI vJ vA qI qJ rI rA rR) (u1 u2 u3 u4 : Int32) : ∃ r bI' pI' pA' tI' tJ' rI' rA', f_X4_tell L u1 u2 u3 u4 bI pI pA tI tJ = some (r, (bI', pI', pA', tI', tJ')) ∧ f_X5_tell K u1 u2 u3 u4 rI rA = some (r, (rI', rA')) ∧ Inv L K rG bI' pI' pA' tI' tJ' tP tO tR vI vJ vA qI qJ rI' rA' rR := by
  have hI := h
  obtain ⟨k, wd, sg, P, z, ga, hg, hP, hR, hT⟩ := h
  obtain ⟨⟨hk, hb, p0, p1, c5⟩, ⟨-, -, r1, m5⟩, r2, hz, p2, r3, hpA, hrA, hw, m, d, hm, hd, p3, r4, p4, r5⟩ := hP
  unfold f_X4_tell
  by_cases z60 : z = 60
  · subst z60
    have e1 : f_X3_addInstruction u1 u2 u3 u4 pI pA = some (-1, (pI, pA)) := by
      unfold f_X3_addInstruction
      rw [p2, if_pos (by decide)]
    have e2 : f_X5_tell K u1 u2 u3 u4 rI rA = some (-1, (rI, rA)) := by
      unfold f_X5_tell
      rw [isGood_eq r1 r3]
      simp only [Option.bind_some]
      rw [r3, if_pos (show nI 60 = (60 : Int32) from rfl)]
      split <;> rfl
    rw [e1, e2]
    exact ⟨-1, bI, pI, pA, tI, tJ, rI, rA, rfl, rfl, hI⟩
  have hz2 : z < 60 := by omega
  rw [addI_eq hz2 u1 u2 u3 u4 p0 p2 p3 p4 hm hd, tell5_eq hz2 u1 u2 u3 u4 K r1 r3 r4 r5 hm hd]
  by_cases ok : goodB k z u1 u2 u3 u4 = true ∧ ¬ ((u1 = 5 ∧ m = 6) ∨ (isDv u1 = true ∧ d = 6))
  · rw [if_pos ok, if_pos ok]
    simp only [Option.bind_some]
    rw [if_neg (nI_ne1 (by omega))]
    unfold f_X4_forgetFindings
    rw [forget_eq]
    simp only [Option.bind_some]
    have hm2 : (m + if u1 = 5 then 1 else 0) ≤ 6 := by
      split
      · rename_i c
        have : m ≠ 6 := fun q => ok.2 (Or.inl ⟨c, q⟩)
        omega
      · omega
    have hd2 : (d + if isDv u1 = true then 1 else 0) ≤ 6 := by
      split
      · rename_i c
        have : d ≠ 6 := fun q => ok.2 (Or.inr ⟨c, q⟩)
        omega
      · omega
    refine ⟨_, _, _, _, _, _, _, _, rfl, rfl, k, wd, sg, PN P z u1 u2 u3 u4, z + 1, ga, hg, ⟨⟨hk, hb, by simp [upd, p0], by simp [upd, p1], fun i hi => ?_⟩, ⟨hk, hb, by simp [upd, r1], fun i hi => ?_⟩, by simp [upd, r2], by omega, by simp [upd], by simp [upd], fun pc hpc => ?_, fun pc hpc => ?_, PN_wf hw (good_wf hz ok.1), _, _, hm2, hd2, by simp [upd], by simp [upd], by simp [upd], by simp [upd]⟩, InvR_stale hR (fun i h1 h2 => by unfold upd; rw [if_neg (by omega), if_neg (by omega), if_neg (by omega), if_neg (by omega), if_neg (by omega)]) (by simp [upd]) (fun t ht => by rw [up2_ne _ _ _ (by omega), up2_ne _ _ _ (by omega), up2_ne _ _ _ (by omega), up2_ne _ _ _ (by omega)]), Or.inl ⟨by simp [upd], by simp [upd], InvT_lay hT⟩⟩
    · obtain ⟨a1, a2, a3, a4, a5⟩ := c5 i hi
      refine ⟨a1, a2, ?_, ?_, ?_⟩
      · rw [up2_ne _ _ _ (by decide), up2_ne _ _ _ (by decide), up2_ne _ _ _ (by decide), up2_ne _ _ _ (by decide)]; exact a3
      · rw [up2_ne _ _ _ (by decide), up2_ne _ _ _ (by decide), up2_ne _ _ _ (by decide), up2_ne _ _ _ (by decide)]; exact a4
      · rw [up2_ne _ _ _ (by decide), up2_ne _ _ _ (by decide), up2_ne _ _ _ (by decide), up2_ne _ _ _ (by decide)]; exact a5
    · obtain ⟨a1, a2, a3, a4⟩ := m5 i hi
      refine ⟨a1, a2, ?_, ?_⟩
      · rw [up2_ne _ _ _ (by decide), up2_ne _ _ _ (by decide), up2_ne _ _ _ (by decide), up2_ne _ _ _ (by decide)]; exact a3
      · rw [up2_ne _ _ _ (by decide), up2_ne _ _ _ (by decide), up2_ne _ _ _ (by decide), up2_ne _ _ _ (by decide)]; exact a4
    · by_cases c : pc = z
      · subst c
        unfold PN
        refine ⟨?_, ?_, ?_, ?_⟩
        · rw [up2_ne _ _ _ (by decide), up2_ne _ _ _ (by decide), up2_ne _ _ _ (by decide), up2_same]; simp [upd]
        · rw [up2_ne _ _ _ (by decide), up2_ne _ _ _ (by decide), up2_same]; simp [upd]
        · rw [up2_ne _ _ _ (by decide), up2_same]; simp [upd]
        · rw [up2_same]; simp [upd]
      · obtain ⟨a1, a2, a3, a4⟩ := hpA pc (by omega)
        rw [PN_ne (by omega), PN_ne (by omega), PN_ne (by omega), PN_ne (by omega)]
        refine ⟨?_, ?_, ?_, ?_⟩
        · rw [up2_ne _ _ _ (by decide), up2_ne _ _ _ (by decide), up2_ne _ _ _ (by decide), up2_same]; simp [upd, c, a1]
        · rw [up2_ne _ _ _ (by decide), up2_ne _ _ _ (by decide), up2_same]; simp only [upd, if_neg c]; rw [up2_ne _ _ _ (by decide)]; exact a2
        · rw [up2_ne _ _ _ (by decide), up2_same]; simp only [upd, if_neg c]; rw [up2_ne _ _ _ (by decide), up2_ne _ _ _ (by decide)]; exact a3
        · rw [up2_same]; simp only [upd, if_neg c]; rw [up2_ne _ _ _ (by decide), up2_ne _ _ _ (by decide), up2_ne _ _ _ (by decide)]; exact a4
    · by_cases c : pc = z
      · subst c
        unfold PN
        refine ⟨?_, ?_, ?_, ?_⟩
        · rw [up2_ne _ _ _ (by decide), up2_ne _ _ _ (by decide), up2_ne _ _ _ (by decide), up2_same]; simp [upd]
        · rw [up2_ne _ _ _ (by decide), up2_ne _ _ _ (by decide), up2_same]; simp [upd]
        · rw [up2_ne _ _ _ (by decide), up2_same]; simp [upd]
        · rw [up2_same]; simp [upd]
      · obtain ⟨a1, a2, a3, a4⟩ := hrA pc (by omega)
        rw [PN_ne (by omega), PN_ne (by omega), PN_ne (by omega), PN_ne (by omega)]
        refine ⟨?_, ?_, ?_, ?_⟩
        · rw [up2_ne _ _ _ (by decide), up2_ne _ _ _ (by decide), up2_ne _ _ _ (by decide), up2_same]; simp [upd, c, a1]
        · rw [up2_ne _ _ _ (by decide), up2_ne _ _ _ (by decide), up2_same]; simp only [upd, if_neg c]; rw [up2_ne _ _ _ (by decide)]; exact a2
        · rw [up2_ne _ _ _ (by decide), up2_same]; simp only [upd, if_neg c]; rw [up2_ne _ _ _ (by decide), up2_ne _ _ _ (by decide)]; exact a3
        · rw [up2_same]; simp only [upd, if_neg c]; rw [up2_ne _ _ _ (by decide), up2_ne _ _ _ (by decide), up2_ne _ _ _ (by decide)]; exact a4
  · rw [if_neg ok, if_neg ok]
    exact ⟨-1, bI, pI, pA, tI, tJ, rI, rA, rfl, rfl, hI⟩
