-- answers that change nothing
theorem ne10 : ¬ (1 : Int32) = 0 := by decide
theorem srtTT {k : Nat} {wd : Nat → Nat} {sg : Nat → Int32} {P : Nat → Nat → Int32} {z : Nat} (hz : z ≤ 60) (hw : wfP P z k) (w : Nat) : srt (TT k wd sg P z w).1 := run_srt hz hw _ _
theorem a_register {L K : List Nat} {rG : Nat → Option Nat} {bI pI : Nat → Int32} {pA : Nat → Nat → Int32} {tI : Nat → Int32} {tJ : Nat → Int64} {tP : Nat → Option Nat} {tO : Nat → Int64} {tR vI : Nat → Int32} {vJ : Nat → Int64} {vA qI : Nat → Nat → Int32} {qJ : Nat → Nat → Int64} {rI : Nat → Int32} {rA rR : Nat → Nat → Int32} (h : Inv L K rG bI pI pA tI tJ tP tO tR vI vJ vA qI qJ rI rA rR) (u1 : Int32) : ∃ r, f_X4_register L u1 bI vA = some (r, ()) ∧ f_X5_register K u1 rI rA = some (r, ()) := by
  obtain ⟨k, wd, sg, P, z, ga, hg, hP, hR, hT⟩ := h
  unfold f_X4_register f_X5_register f_X4_isRegister
  rcases hR with ⟨h1, h2⟩ | ⟨h1, h2, t, -, hm, -, -, -, -, -, e1, -, -⟩
  · rw [h1, h2, if_pos rfl, if_pos rfl]
    exact ⟨_, rfl, rfl⟩
  · rw [h1, h2, if_neg ne10, if_neg ne10]
    by_cases neg : u1 < 0
    · rw [if_pos neg, if_pos neg]
      exact ⟨_, rfl, rfl⟩
    · obtain ⟨j, hj, rfl⟩ := nI_of neg
      rw [if_neg neg, if_neg neg]
      by_cases c : (16 : Int32) ≤ nI j
      · rw [if_pos c, if_pos c]
        exact ⟨_, rfl, rfl⟩
      · have hj2 : j < 16 := Decidable.byContradiction fun q => c (nI_le (a := 16) (b := j) (by omega) hj)
        have cj : (nI j).toNatClampNeg = j := nI_clamp hj
        rw [if_neg c, if_neg c]
        simp only [Option.bind_some]
        rw [if_neg ne10, if_pos (inb_lt hj2 (by decide)), if_pos (inb_lt hj2 (by decide)), cj]
        exact ⟨_, rfl, by rw [e1 j hj2, hm.2.2.2.2.2.2.1 j hj2]⟩
theorem a_cell {L K : List Nat} {rG : Nat → Option Nat} {bI pI : Nat → Int32} {pA : Nat → Nat → Int32} {tI : Nat → Int32} {tJ : Nat → Int64} {tP : Nat → Option Nat} {tO : Nat → Int64} {tR vI : Nat → Int32} {vJ : Nat → Int64} {vA qI : Nat → Nat → Int32} {qJ : Nat → Nat → Int64} {rI : Nat → Int32} {rA rR : Nat → Nat → Int32} (h : Inv L K rG bI pI pA tI tJ tP tO tR vI vJ vA qI qJ rI rA rR) (u1 : Int32) : ∃ r, f_X4_cell L u1 bI vA = some (r, ()) ∧ f_X5_cell K u1 rI rA = some (r, ()) := by
  obtain ⟨k, wd, sg, P, z, ga, hg, hP, hR, hT⟩ := h
  unfold f_X4_cell f_X5_cell f_X4_isCell
  rcases hR with ⟨h1, h2⟩ | ⟨h1, h2, t, -, hm, -, -, -, -, -, -, e1, -⟩
  · rw [h1, h2, if_pos rfl, if_pos rfl]
    exact ⟨_, rfl, rfl⟩
  · rw [h1, h2, if_neg ne10, if_neg ne10]
    by_cases neg : u1 < 0
    · rw [if_pos neg, if_pos neg]
      exact ⟨_, rfl, rfl⟩
    · obtain ⟨j, hj, rfl⟩ := nI_of neg
      rw [if_neg neg, if_neg neg]
      by_cases c : (8 : Int32) ≤ nI j
      · rw [if_pos c, if_pos c]
        exact ⟨_, rfl, rfl⟩
      · have hj2 : j < 8 := Decidable.byContradiction fun q => c (nI_le (a := 8) (b := j) (by omega) hj)
        have cj : (nI j).toNatClampNeg = j := nI_clamp hj
        rw [if_neg c, if_neg c]
        simp only [Option.bind_some]
        rw [if_neg ne10, if_pos (inb_lt hj2 (by decide)), if_pos (inb_lt hj2 (by decide)), cj]
        exact ⟨_, rfl, by rw [e1 j hj2, hm.2.2.2.2.2.2.2 j hj2]⟩
theorem known_no {tI : Nat → Int32} (h : tI 0 = 0) : f_X0_isKnown tI = some (0, ()) := by
  unfold f_X0_isKnown
  rw [h, if_pos (by decide)]
theorem known_yes {tI : Nat → Int32} {c : Nat} (h : tI 0 = nI c) (h0 : 0 < c) (hc : c ≤ 40) : f_X0_isKnown tI = some (1, ()) := by
  unfold f_X0_isKnown
  rw [h, if_neg (show ¬ nI c ≤ 0 from nI_ge (a := 0) (b := c) h0 (by omega))]
theorem kon_no {tI : Nat → Int32} (h : tI 0 = 0) (u : Int32) : f_X0_knownOrNone u tI = some (-1, ()) := by
  unfold f_X0_knownOrNone
  rw [known_no h]
  simp only [Option.bind_some]
  rw [if_pos trivial]
theorem kon_yes {tI : Nat → Int32} {c : Nat} (h : tI 0 = nI c) (h0 : 0 < c) (hc : c ≤ 40) (u : Int32) : f_X0_knownOrNone u tI = some (u, ()) := by
  unfold f_X0_knownOrNone
  rw [known_yes h h0 hc]
  simp only [Option.bind_some]
  rw [if_neg ne10]
theorem a_covered {L K : List Nat} {rG : Nat → Option Nat} {bI pI : Nat → Int32} {pA : Nat → Nat → Int32} {tI : Nat → Int32} {tJ : Nat → Int64} {tP : Nat → Option Nat} {tO : Nat → Int64} {tR vI : Nat → Int32} {vJ : Nat → Int64} {vA qI : Nat → Nat → Int32} {qJ : Nat → Nat → Int64} {rI : Nat → Int32} {rA rR : Nat → Nat → Int32} (h : Inv L K rG bI pI pA tI tJ tP tO tR vI vJ vA qI qJ rI rA rR) (u1 : Int32) : ∃ r, f_X4_covered L u1 pI tI tJ = some (r, ()) ∧ f_X5_covered K u1 rI rA = some (r, ()) := by
  obtain ⟨k, wd, sg, P, z, ga, hg, hP, hR, hT⟩ := h
  obtain ⟨-, -, -, hz, p2, r3, -⟩ := hP
  unfold f_X4_covered f_X5_covered
  rw [p2, r3]
  rcases hT with ⟨h1, h2, -⟩ | ⟨κ, c, lw, ad, hc0, hk, hC, hM, h6⟩
  · rw [h2, if_pos (show (-1 : Int32) < 0 by decide), known_no h1]
    simp only [Option.bind_some, if_true]
    refine ⟨-1, ?_, rfl⟩
    split
    · rfl
    · split <;> rfl
  · obtain ⟨-, hc, h0, -, -, -, hv, -⟩ := hC
    obtain ⟨-, -, -, -, hmet⟩ := hM
    rw [h6, if_neg (show ¬ nI c < 0 from Int32.not_lt.mpr (nI_le (a := 0) (b := c) (by omega) (by omega))), known_yes h0 hc0 hc]
    simp only [Option.bind_some]
    by_cases neg : u1 < 0
    · rw [if_pos neg, if_pos neg]
      exact ⟨_, rfl, rfl⟩
    · obtain ⟨j, hj, rfl⟩ := nI_of neg
      rw [if_neg neg, if_neg neg]
      by_cases d : z ≤ j
      · rw [if_pos (nI_le d hj), if_neg (Int32.not_lt.mpr (nI_le d hj))]
        exact ⟨_, rfl, rfl⟩
      · have cj : (nI j).toNatClampNeg = j := nI_clamp hj
        have g := nI_ge (a := j) (b := z) (by omega) (by omega)
        rw [if_neg g, if_pos (Int32.not_le.mp g), if_neg ne10, if_pos (inb_lt (show j < 60 by omega) (by decide)), isMarked_eq hv (by omega), cj, hmet j (by omega)]
        simp only [Option.bind_some]
        cases visB (TT k wd sg P z) (2 ^ sm wd k) j
        · exact ⟨0, rfl, rfl⟩
        · exact ⟨1, rfl, rfl⟩
set_option maxHeartbeats 1000000 in
theorem a_path {L K : List Nat} {rG : Nat → Option Nat} {bI pI : Nat → Int32} {pA : Nat → Nat → Int32} {tI : Nat → Int32} {tJ : Nat → Int64} {tP : Nat → Option Nat} {tO : Nat → Int64} {tR vI : Nat → Int32} {vJ : Nat → Int64} {vA qI : Nat → Nat → Int32} {qJ : Nat → Nat → Int64} {rI : Nat → Int32} {rA rR : Nat → Nat → Int32} (h : Inv L K rG bI pI pA tI tJ tP tO tR vI vJ vA qI qJ rI rA rR) (u1 u2 : Int32) : ∃ r, f_X4_path L u1 u2 tI tP qI qJ = some (r, ()) ∧ f_X5_path K u1 u2 rI rA = some (r, ()) := by
  obtain ⟨k, wd, sg, P, z, ga, hg, hP, hR, hT⟩ := h
  obtain ⟨⟨-, hb, -⟩, -, -, hz, -, -, -, -, hw, -⟩ := hP
  unfold f_X4_path f_X5_path
  rcases at_or (K := K) hT u1 with ⟨e1, e2⟩ | ⟨κ, c, lw, ad, i, hi, hc, rfl, hk, hC, hM, e1, hL, e2⟩
  · rw [e1, e2]
    simp only [Option.bind_some, if_true]
    exact ⟨_, rfl, rfl⟩
  · rw [e1, e2]
    simp only [Option.bind_some]
    rw [if_neg ne10]
    have ci : (nI i).toNatClampNeg = i := nI_clamp (by omega)
    have ib : inb (nI i) 40 = true := inb_lt (by omega) (by decide)
    obtain ⟨q0, q1, q2, q3, q4, q5, q6⟩ := hC.2.2.2.2.1 i hi
    obtain ⟨s0, s1, s2, s3, s4, s5⟩ := hM.2.2.1 i hi
    have hlw := (hC.1.1.1 i hi).1
    have h12 := pw12 hb
    have cl : (nI (lw i)).toNatClampNeg = lw i := nI_clamp (by omega)
    have il : inb (nI (lw i)) 4096 = true := inb_lt (by omega) (by decide)
    simp only [if_pos ib, if_pos hL, ci, s3, cl, if_pos il, bitCount_enc q5, Option.bind_some, ct_inD (srtTT hz hw (lw i)), q0, q1, q2, q3, q4, s0, s1, s2, s4, (hM.2.2.2.1 (lw i) hlw).1]
    by_cases d0 : u2 = 0
    · rw [if_pos d0, if_pos d0]; exact ⟨_, rfl, rfl⟩
    rw [if_neg d0, if_neg d0]
    by_cases d1 : u2 = 1
    · rw [if_pos d1, if_pos d1]; exact ⟨_, rfl, rfl⟩
    rw [if_neg d1, if_neg d1]
    by_cases d2 : u2 = 2
    · rw [if_pos d2, if_pos d2]; exact ⟨_, rfl, rfl⟩
    rw [if_neg d2, if_neg d2]
    by_cases d3 : u2 = 3
    · rw [if_pos d3, if_pos d3]; exact ⟨_, rfl, rfl⟩
    rw [if_neg d3, if_neg d3]
    by_cases d4 : u2 = 4
    · rw [if_pos d4, if_pos d4]; exact ⟨_, rfl, rfl⟩
    rw [if_neg d4, if_neg d4]
    by_cases d5 : u2 = 5
    · rw [if_pos d5, if_pos d5]
      cases sameB (TT k wd sg P z) κ (2 ^ sm wd k) (lw i)
      · exact ⟨0, rfl, rfl⟩
      · exact ⟨1, rfl, rfl⟩
    rw [if_neg d5, if_neg d5]
    exact ⟨_, rfl, rfl⟩
theorem a_decision {n : Nat} (hn : 100 < n) {L K : List Nat} {rG : Nat → Option Nat} {bI pI : Nat → Int32} {pA : Nat → Nat → Int32} {tI : Nat → Int32} {tJ : Nat → Int64} {tP : Nat → Option Nat} {tO : Nat → Int64} {tR vI : Nat → Int32} {vJ : Nat → Int64} {vA qI : Nat → Nat → Int32} {qJ : Nat → Nat → Int64} {rI : Nat → Int32} {rA rR : Nat → Nat → Int32} (h : Inv L K rG bI pI pA tI tJ tP tO tR vI vJ vA qI qJ rI rA rR) (u1 u2 : Int32) : ∃ r, f_X4_decision n L u1 u2 tI tP qJ = some (r, ()) ∧ f_X5_decision K u1 u2 rI rA rG rR = some (r, ()) := by
  obtain ⟨k, wd, sg, P, z, ga, hg, hP, hR, hT⟩ := h
  obtain ⟨⟨-, hb, -⟩, -, -, hz, -, -, -, -, hw, -⟩ := hP
  unfold f_X4_decision f_X5_decision
  rcases at_or (K := K) hT u1 with ⟨e1, e2⟩ | ⟨κ, c, lw, ad, i, hi, hc, rfl, hk, hC, hM, e1, hL, e2⟩
  · rw [e1, e2]
    simp only [Option.bind_some, if_true]
    exact ⟨_, rfl, rfl⟩
  · rw [e1, e2]
    simp only [Option.bind_some]
    rw [if_neg ne10, if_pos hL]
    have ci : (nI i).toNatClampNeg = i := nI_clamp (by omega)
    have ib : inb (nI i) 40 = true := inb_lt (by omega) (by decide)
    obtain ⟨q0, q1, q2, q3, q4, q5, q6⟩ := hC.2.2.2.2.1 i hi
    obtain ⟨s0, s1, s2, s3, s4, s5⟩ := hM.2.2.1 i hi
    obtain ⟨g1, g2⟩ := hg.1 i (by omega)
    have hs : srt (TT k wd sg P z (lw i)).1 := srtTT hz hw (lw i)
    have hlen := srt_len hs
    rw [if_pos ib, if_pos ib, ci, g1, s2]
    simp only [Option.bind_some]
    rw [if_pos g2]
    have no : (∀ j, j < (TT k wd sg P z (lw i)).1.length → u2 ≠ nI j) → f_X4_placeOfMark n (qJ (ad i) 0) u2 = some (-1, ()) := fun hh => placeOfMark_no (by omega) q5 (fun q hq hS e => by
      have hS' : q ∈ (TT k wd sg P z (lw i)).1.map Prod.fst := by rw [inD_map] at hS; exact of_decide_eq_true hS
      obtain ⟨x, hx, rfl⟩ := List.mem_map.mp hS'
      obtain ⟨j, hj⟩ := List.getElem?_of_mem hx
      rw [ct_inD_at hs hj] at e
      exact hh j (List.getElem?_eq_some_iff.mp hj).1 e)
    by_cases neg : u2 < 0
    · rw [if_pos neg, no (fun j hj e => by rw [e] at neg; exact Int32.not_lt.mpr (nI_le (a := 0) (b := j) (by omega) (by omega)) neg)]
      simp only [Option.bind_some, if_true]
      exact ⟨_, rfl, rfl⟩
    · obtain ⟨j, hj, rfl⟩ := nI_of neg
      rw [if_neg neg]
      by_cases d : (TT k wd sg P z (lw i)).1.length ≤ j
      · rw [if_pos (nI_le d hj), no (fun j' hj' e => by rw [nI_eq hj (by omega)] at e; omega)]
        simp only [Option.bind_some, if_true]
        exact ⟨_, rfl, rfl⟩
      · have hjl : j < (TT k wd sg P z (lw i)).1.length := by omega
        obtain ⟨x, hx⟩ : ∃ x, (TT k wd sg P z (lw i)).1[j]? = some x := ⟨_, List.getElem?_eq_getElem hjl⟩
        have cj : (nI j).toNatClampNeg = j := nI_clamp hj
        have hmem := List.mem_of_getElem? hx
        have hx60 := hs.2 x hmem
        have hS : inD (TT k wd sg P z (lw i)).1 x.1 = true := by rw [inD_map]; exact decide_eq_true (List.mem_map.mpr ⟨x, hmem, rfl⟩)
        have pm := placeOfMark_yes (n := n) (by omega) q5 hx60 hS
        rw [ct_inD_at hs hx] at pm
        rw [if_neg (nI_ge (by omega) (by omega)), if_pos (inb_lt (show j < 60 by omega) (by decide)), cj, s5 j x hx, pm]
        simp only [Option.bind_some]
        rw [if_neg (show ¬ nI x.1 = (-1 : Int32) from fun q => by
          have h1 := congrArg Int32.toInt q
          rw [nI_toInt (by omega)] at h1
          have : (-1 : Int32).toInt = -1 := by decide
          omega), q6, isMarked_eq (hk.1 (lw i)) hx60, inO_mem hs.1 hmem]
        simp only [Option.bind_some]
        unfold code2
        cases x.2
        · exact ⟨_, rfl, rfl⟩
        · exact ⟨_, rfl, rfl⟩
theorem of_iff {T : Nat → TR} {κ : Nat → Int64} {W c : Nat} {lw ga : Nat → Nat} {rA rR : Nat → Nat → Int32} (hM : mTab T κ W c lw ga rA rR) {i v : Nat} (hi : i < c) (hv : v < W) : rA 11 v = nI i ↔ κ v = κ (lw i) := by
  obtain ⟨hT, hc, -, hwd, -⟩ := hM
  obtain ⟨-, j, hj, e1, e2⟩ := hwd v hv
  rw [e1, nI_eq (by omega) (by omega)]
  refine ⟨fun q => by rw [← q]; exact e2, fun q => hT.2.2 j i hj hi (e2.symm.trans q)⟩
theorem a_holds {L K : List Nat} {rG : Nat → Option Nat} {bI pI : Nat → Int32} {pA : Nat → Nat → Int32} {tI : Nat → Int32} {tJ : Nat → Int64} {tP : Nat → Option Nat} {tO : Nat → Int64} {tR vI : Nat → Int32} {vJ : Nat → Int64} {vA qI : Nat → Nat → Int32} {qJ : Nat → Nat → Int64} {rI : Nat → Int32} {rA rR : Nat → Nat → Int32} (h : Inv L K rG bI pI pA tI tJ tP tO tR vI vJ vA qI qJ rI rA rR) (u1 u2 : Int32) : ∃ r, f_X4_holds L u1 u2 pI tI tP tO qJ = some (r, ()) ∧ f_X5_holds K u1 u2 rI rA = some (r, ()) := by
  obtain ⟨k, wd, sg, P, z, ga, hg, hP, hR, hT⟩ := h
  obtain ⟨⟨-, hb, -, p1, -⟩, -, r2, hz, -, -, -, -, hw, -⟩ := hP
  unfold f_X4_holds f_X5_holds
  rcases at_or (K := K) hT u1 with ⟨e1, e2⟩ | ⟨κ, c, lw, ad, i, hi, hc, rfl, hk, hC, hM, e1, hL, e2⟩
  · rw [e1, e2]
    simp only [Option.bind_some, if_true]
    exact ⟨_, rfl, rfl⟩
  · rw [e1, e2]
    simp only [Option.bind_some]
    rw [if_neg ne10, hasWord_eq p1 hb, isWord_eq r2 hb]
    simp only [Option.bind_some]
    rcases word_or u2 hb with ⟨w, hw2, rfl⟩ | no
    · have h12 := pw12 hb
      have cw : (nI w).toNatClampNeg = w := nI_clamp (by omega)
      have iw : inb (nI w) 4096 = true := inb_lt (by omega) (by decide)
      have yes : ¬ nI w < 0 ∧ ¬ nI (2 ^ sm wd k) ≤ nI w := ⟨Int32.not_lt.mpr (nI_le (a := 0) (b := w) (by omega) (by omega)), nI_ge hw2 (by omega)⟩
      rw [if_pos yes, if_neg ne10, if_neg ne10, if_pos iw, cw]
      unfold f_X0_goes f_X5_holds_b31
      rw [if_pos iw, if_pos hL, cw, (hC.2.2.2.2.2.1 w hw2).1, (hC.2.2.2.2.1 i hi).2.2.2.2.2.2]
      by_cases e : κ w = κ (lw i)
      · rw [if_pos ((lg_cmp0 _ _).mpr e), if_pos ((of_iff hM hi hw2).mpr e), tr_1]
        exact ⟨1, rfl, rfl⟩
      · rw [if_neg (fun q => e ((lg_cmp0 _ _).mp q)), if_neg (fun q => e ((of_iff hM hi hw2).mp q)), tr_0]
        exact ⟨0, rfl, rfl⟩
    · rw [if_neg no, if_pos rfl, if_pos rfl]
      exact ⟨_, rfl, rfl⟩
