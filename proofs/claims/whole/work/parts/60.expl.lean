-- explore
theorem mTab_cong {T : Nat → TR} {κ : Nat → Int64} {w c : Nat} {lw lw' ga : Nat → Nat} {rA rR : Nat → Nat → Int32} (h : mTab T κ w c lw ga rA rR) (e : ∀ i, i < c → lw' i = lw i) : mTab T κ w c lw' ga rA rR := by
  obtain ⟨h1, h2, h3, h4, h5⟩ := h
  refine ⟨⟨fun i hi => ?_, fun v hv => ?_, fun i j hi hj q => ?_⟩, h2, fun i hi => ?_, fun v hv => ?_, h5⟩
  · rw [e i hi]; exact h1.1 i hi
  · obtain ⟨i, hi, q⟩ := h1.2.1 v hv
    exact ⟨i, hi, by rw [e i hi]; exact q⟩
  · rw [e i hi, e j hj] at q
    exact h1.2.2 i j hi hj q
  · rw [e i hi]; exact h3 i hi
  · obtain ⟨q1, i, hi, q2, q3⟩ := h4 v hv
    exact ⟨q1, i, hi, q2, by rw [e i hi]; exact q3⟩
theorem tab_pos {κ : Nat → Int64} {b c : Nat} {lw : Nat → Nat} (h : TabU κ (2 ^ b) c lw) : 0 < c := by
  obtain ⟨i, hi, -⟩ := h.2.1 0 (Nat.two_pow_pos b)
  omega
theorem a_explore {n : Nat} (hn : 5000 < n) {L K : List Nat} {rG : Nat → Option Nat} {bI pI : Nat → Int32} {pA : Nat → Nat → Int32} {tI : Nat → Int32} {tJ : Nat → Int64} {tP : Nat → Option Nat} {tO : Nat → Int64} {tR vI : Nat → Int32} {vJ : Nat → Int64} {vA qI : Nat → Nat → Int32} {qJ : Nat → Nat → Int64} {rI : Nat → Int32} {rA rR : Nat → Nat → Int32} (h : Inv L K rG bI pI pA tI tJ tP tO tR vI vJ vA qI qJ rI rA rR) (mI : Nat → Int32) (mJ : Nat → Int64) (mA : Nat → Nat → Int32) : ∃ r tI' tJ' tP' tO' tR' mI' mJ' mA' qI' qJ' rI' rA' rR', f_X4_explore n L pI pA tI tJ tP tO tR mI mJ mA qI qJ = some (r, (tI', tJ', tP', tO', tR', mI', mJ', mA', qI', qJ')) ∧ f_X5_explore n K rI rA rG rR = some (r, (rI', rA', rR')) ∧ Inv L K rG bI pI pA tI' tJ' tP' tO' tR' vI vJ vA qI' qJ' rI' rA' rR' := by
  obtain ⟨k, wd, sg, P, z, ga, hg, hP, hR, hT⟩ := h
  have hP0 := hP
  obtain ⟨⟨-, hb, -, p1, -⟩, -, r2, hz, -, -, -, -, hw, -⟩ := hP0
  have model : ∀ κ, keyOk (TT k wd sg P z) κ → ∃ r rI' rA' rR', f_X5_explore n K rI rA rG rR = some (r, (rI', rA', rR')) ∧ rI' 6 = r ∧ mDone (TT k wd sg P z) κ (2 ^ sm wd k) ga r rA' rR' ∧ (∀ j, j < 6 ∨ 11 < j → rI' j = rI j) ∧ ∀ t, t < 6 ∨ 16 < t → rA' t = rA t := fun κ hk =>
    explore5_ok (n := n) (K := K) (rR := rR) hn hg hz hw (inp := inpF k wd sg) hk hb (fun w hw2 => hin_of (by omega) hP hw2) (mP_of hP) r2
  unfold f_X4_explore f_X4_explore_b25
  rcases hT with ⟨h1, h2, ad, hl⟩ | ⟨κ, c, lw, ad, hc0, hk, hC, hM, h6⟩
  · obtain ⟨κ, hk⟩ := key_ex hz hw (inpF k wd sg)
    obtain ⟨r, rI', rA', rR', e1, e2, e3, e4, e5⟩ := model κ hk
    obtain ⟨tI', tJ', tP', tO', tR', mI', mJ', mA', qI', qJ', s1, s2⟩ := survey_ok hn hb p1 (fun w hw2 => pOk_of hP hw2) hk (tI := tI) (tJ := tJ) (tO := tO) (tR := tR) (mI := mI) (mJ := mJ) (mA := mA) (qI := qI) (qJ := qJ) hl
    rw [known_no h1, e1]
    simp only [Option.bind_some, if_true]
    rw [s1]
    simp only [Option.bind_some]
    have hP' := InvP_keep hP (rI' := rI') (rA' := rA') (fun j hj => e4 j (Or.inl hj)) (fun t ht => e5 t (Or.inl ht))
    have hR' := InvR_keep hR (rI' := rI') (rA' := rA') (fun j hj => e4 j (Or.inr hj)) (fun t ht => e5 t (Or.inr ht))
    rcases s2 with ⟨c, lw, ad', hC⟩ | ⟨tm, t0, hl'⟩
    · rcases e3 with ⟨c', lw', hT', hM', er⟩ | ⟨tm, -⟩
      · obtain ⟨rfl, el⟩ := Tab_uniq hC.1 hT'
        have hc0 := tab_pos hC.1.1
        rw [kon_yes hC.2.2.1 hc0 hC.2.1]
        simp only [Option.bind_some]
        refine ⟨_, _, _, _, _, _, _, _, _, _, _, _, _, _, by rw [hC.2.2.1, ← er], rfl, k, wd, sg, P, z, ga, hg, hP', hR', Or.inr ⟨κ, c, lw, ad', hc0, hk, hC, mTab_cong hM' el, by rw [e2, er]⟩⟩
      · exact (no_both hC.1.1 hC.2.1 tm).elim
    · rcases e3 with ⟨c', lw', hT', hM', er⟩ | ⟨-, er⟩
      · exact (no_both hT'.1 hM'.2.1 tm).elim
      · rw [kon_no t0]
        simp only [Option.bind_some]
        exact ⟨_, _, _, _, _, _, _, _, _, _, _, _, _, _, by rw [← er], rfl, k, wd, sg, P, z, ga, hg, hP', hR', Or.inl ⟨t0, by rw [e2, er], hl'⟩⟩
  · obtain ⟨r, rI', rA', rR', e1, e2, e3, e4, e5⟩ := model κ hk
    have hP' := InvP_keep hP (rI' := rI') (rA' := rA') (fun j hj => e4 j (Or.inl hj)) (fun t ht => e5 t (Or.inl ht))
    have hR' := InvR_keep hR (rI' := rI') (rA' := rA') (fun j hj => e4 j (Or.inr hj)) (fun t ht => e5 t (Or.inr ht))
    rw [known_yes hC.2.2.1 hc0 hC.2.1, e1, kon_yes hC.2.2.1 hc0 hC.2.1]
    simp only [Option.bind_some]
    rw [if_neg ne10]
    rcases e3 with ⟨c', lw', hT', hM', er⟩ | ⟨tm, -⟩
    · obtain ⟨rfl, el⟩ := Tab_uniq hC.1 hT'
      exact ⟨_, _, _, _, _, _, _, _, _, _, _, _, _, _, by rw [hC.2.2.1, ← er], rfl, k, wd, sg, P, z, ga, hg, hP', hR', Or.inr ⟨κ, c, lw, ad, hc0, hk, hC, mTab_cong hM' el, by rw [e2, er]⟩⟩
    · exact (no_both hC.1.1 hC.2.1 tm).elim
