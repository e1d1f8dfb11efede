-- run and ran
theorem tr_pl {P : Nat → Nat → Int32} {z ins : Nat} (hz : z ≤ 60) (hw : wfP P z ins) {inp : Int32 → Int32} {ov : Option (Nat → Bool)} : ∀ (f pc : Nat) (R C : Nat → Int32), pc ≤ 60 → (tr P z inp ov f pc R C).2.2.1.2.1 ≤ 60
  | 0, pc, R, C, h => h
  | f + 1, pc, R, C, h => by
    by_cases c : z ≤ pc
    · rw [tr_end c]; exact hz
    · have hlt : pc < z := by omega
      obtain ⟨d, hd⟩ : ∃ d, dec ov (nd (P 0 pc) (P 1 pc) (P 2 pc) (P 3 pc) R) pc = d := ⟨_, rfl⟩
      cases hs : stp (P 0 pc) (P 1 pc) R d with
      | some er =>
        obtain ⟨e, r⟩ := er
        rw [tr_stop hlt hd hs]
        exact h
      | none =>
        rw [tr_go hlt hd hs rfl]
        exact tr_pl hz hw f _ _ _ (nx_bd (hw pc hlt) (by omega) d).2
theorem tOk_of {k : Nat} {wd : Nat → Nat} {sg : Nat → Int32} {P : Nat → Nat → Int32} {z : Nat} (hz : z ≤ 60) (hw : wfP P z k) (w : Nat) : tOk (TT k wd sg P z w) := by
  have h := tr_places hz hw (inp := inpF k wd sg w) (ov := none) 61 0 (fun _ => 0) (fun _ => 0)
  exact ⟨srtTT hz hw w, h.2.2.1, fun p hp => by have := (h.1 p hp).2; omega, tr_pl hz hw 61 0 _ _ (by omega)⟩
theorem cpl {α : Type} (E : (Nat → Nat → Int32) → Option α) (s s2 M : Nat) (hne : s2 ≠ s) (hM : M < 2 ^ 30) (body : ((Int32 × (Nat → Nat → Int32)) → Option α) → (Int32 × (Nat → Nat → Int32)) → Option α) (hb : ∀ rc x4 rA, body rc (x4, rA) = if nI M ≤ x4 then E rA else if inb x4 M = true then (if inb x4 M = true then rc (x4 + 1, up2 rA s x4.toNatClampNeg (rA s2 x4.toNatClampNeg)) else none) else none) :
    ∀ (N i : Nat) (rA : Nat → Nat → Int32), i ≤ M → M - i < N → (∀ j, j < i → rA s j = rA s2 j) → ∃ rA', lp body N (nI i, rA) = E rA' ∧ (∀ j, j < M → rA' s j = rA s2 j) ∧ ∀ k, k ≠ s → rA' k = rA k := by
  intro N
  induction N with
  | zero => intro i rA h1 h2; omega
  | succ N ih =>
    intro i rA h1 h2 h3
    rw [lp_succ, hb]
    by_cases c : i = M
    · subst c
      rw [if_pos (Int32.le_refl _)]
      exact ⟨rA, rfl, h3, fun _ _ => rfl⟩
    · rw [if_neg (nI_ge (a := i) (b := M) (by omega) (by omega)), if_pos (inb_lt (by omega) (by omega)), if_pos (inb_lt (by omega) (by omega)), nI_clamp (show i < 2 ^ 31 by omega), nI_1]
      obtain ⟨rA', r1, r2, r3⟩ := ih (i + 1) (up2 rA s i (rA s2 i)) (by omega) (by omega) (fun j hj => by
        rw [up2_same, up2_ne _ _ _ hne]
        unfold upd
        split
        · rename_i e
          rw [e]
        · exact h3 j (by omega))
      rw [up2_ne _ _ _ hne] at r2
      exact ⟨rA', r1, r2, fun k hk => by rw [r3 k hk, up2_ne _ _ _ hk]⟩
theorem a_run {n : Nat} (hn : 5000 < n) {L K : List Nat} {rG : Nat → Option Nat} {bI pI : Nat → Int32} {pA : Nat → Nat → Int32} {tI : Nat → Int32} {tJ : Nat → Int64} {tP : Nat → Option Nat} {tO : Nat → Int64} {tR vI : Nat → Int32} {vJ : Nat → Int64} {vA qI : Nat → Nat → Int32} {qJ : Nat → Nat → Int64} {rI : Nat → Int32} {rA rR : Nat → Nat → Int32} (h : Inv L K rG bI pI pA tI tJ tP tO tR vI vJ vA qI qJ rI rA rR) (u1 : Int32) : ∃ r bI' vI' vJ' vA' rI' rA', f_X4_run n L u1 bI pI pA vI vJ vA = some (r, (bI', vI', vJ', vA')) ∧ f_X5_run n K u1 rI rA = some (r, (rI', rA')) ∧ Inv L K rG bI' pI pA tI tJ tP tO tR vI' vJ' vA' qI qJ rI' rA' rR := by
  obtain ⟨k, wd, sg, P, z, ga, hg, hP, hR, hT⟩ := h
  have hP0 := hP
  obtain ⟨⟨-, hb, -, p1, -⟩, -, r2, hz, -, -, -, -, hw, -⟩ := hP0
  unfold f_X4_run f_X5_run
  rw [hasWord_eq p1 hb, isWord_eq r2 hb]
  simp only [Option.bind_some]
  rcases word_or u1 hb with ⟨w, hw2, rfl⟩ | no
  · have h12 := pw12 hb
    have yes : ¬ nI w < 0 ∧ ¬ nI (2 ^ sm wd k) ≤ nI w := ⟨Int32.not_lt.mpr (nI_le (a := 0) (b := w) (by omega) (by omega)), nI_ge hw2 (by omega)⟩
    rw [if_pos yes, if_neg ne10, if_neg ne10]
    obtain ⟨vI', vJ', vA', x1, x2⟩ := exec0 (pOk_of hP hw2) (show 100 < n by omega) vI vJ vA
    obtain ⟨rI', rA', y1, y2⟩ := go0_ok (n := n) (K := K) (u1 := nI w) (u3 := 0) hz hw (hin_of (by omega) hP hw2) (by omega) (mP_of hP)
    rw [x1, y1]
    simp only [Option.bind_some]
    obtain ⟨k1, k2, k3⟩ := yR_keep y2
    obtain ⟨z7, z8, z9, z10, z11, -, z14, z15, -⟩ := y2
    generalize hJ : (upd (upd (upd (upd (upd (upd (upd (upd rI' 12 (1 : Int32)) 19 (1 : Int32)) 13 (nI w)) 14 _) 15 _) 16 _) 17 _) 18 _) = rJ
    have c7 : rJ 7 = rI' 7 := by rw [← hJ]; simp [upd]
    have c12 : rJ 12 = 1 := by rw [← hJ]; simp [upd]
    have c13 : rJ 13 = nI w := by rw [← hJ]; simp [upd]
    have c14 : rJ 14 = rI' 7 := by rw [← hJ]; simp [upd]
    have c15 : rJ 15 = rI' 8 := by rw [← hJ]; simp [upd]
    have c16 : rJ 16 = rI' 9 := by rw [← hJ]; simp [upd]
    have c17 : rJ 17 = rI' 10 := by rw [← hJ]; simp [upd]
    have c18 : rJ 18 = rI' 11 := by rw [← hJ]; simp [upd]
    have c19 : rJ 19 = 1 := by rw [← hJ]; simp [upd]
    have clo : ∀ j, j < 7 → rJ j = rI j := fun j hj => by
      rw [← k1 j (Or.inl hj), ← hJ]
      have : j = 0 ∨ j = 1 ∨ j = 2 ∨ j = 3 ∨ j = 4 ∨ j = 5 ∨ j = 6 := by omega
      rcases this with rfl | rfl | rfl | rfl | rfl | rfl | rfl <;> simp [upd]
    clear hJ
    obtain ⟨rB, b1, b2, b3⟩ := cpl (fun rA => f_X5_run_b98 n K rJ rA) 17 14 16 (by decide) (by decide) (f_X5_run_l74 n K rJ) (fun _ _ _ => rfl) n 0 rA' (by omega) (by omega) (fun j hj => absurd hj (Nat.not_lt_zero j))
    have b1' : lp (f_X5_run_l74 n K rJ) n ((0 : Int32), rA') = f_X5_run_b98 n K rJ rB := b1
    obtain ⟨rC, d1, d2, d3⟩ := cpl (fun rA => f_X5_run_b124 n K rJ rA) 18 15 8 (by decide) (by decide) (f_X5_run_l100 n K rJ) (fun _ _ _ => rfl) n 0 rB (by omega) (by omega) (fun j hj => absurd hj (Nat.not_lt_zero j))
    have d1' : lp (f_X5_run_l100 n K rJ) n ((0 : Int32), rB) = f_X5_run_b124 n K rJ rC := d1
    rw [b1']
    unfold f_X5_run_b98
    rw [d1']
    unfold f_X5_run_b124
    have hA : ∀ t, t < 13 → rC t = rA t := fun t ht => by rw [d3 t (by omega), b3 t (by omega), k2 t (by omega)]
    refine ⟨_, _, _, _, _, _, _, rfl, by rw [x2.2.1, c7, z7], k, wd, sg, P, z, ga, hg, InvP_keep hP (fun j hj => clo j (by omega)) (fun t ht => hA t (by omega)), ?_, InvT_keep hT (clo 6 (by omega)) (fun t ht => hA t ht) (fun p _ => by rw [d3 13 (by omega), b3 13 (by omega), k3 p])⟩
    refine Or.inr ⟨by simp [upd], c12, TT k wd sg P z w, tOk_of hz hw w, x2, by rw [c14, z7]; rfl, by rw [c15, z8]; rfl, by rw [c16, z9]; rfl, by rw [c17, z10]; rfl, by rw [c18, z11]; rfl, ?_, ?_, Or.inr ⟨by simp [upd], c19, w, hw2, c13, rfl⟩⟩
    · intro j hj
      rw [d3 17 (by omega), b2 j hj]
      exact z14 j hj
    · intro j hj
      rw [d2 j hj, b3 15 (by omega)]
      exact z15 j hj
  · rw [if_neg no, if_pos rfl, if_pos rfl]
    exact ⟨_, _, _, _, _, _, _, rfl, rfl, k, wd, sg, P, z, ga, hg, hP, hR, hT⟩
theorem number_no {n : Nat} (hn : 100 < n) {L : List Nat} {ad : Nat → Nat} {tI : Nat → Int32} {tP : Nat → Option Nat} {qJ : Nat → Nat → Int64} (hl : Lay L ad tP) (h0 : tI 0 = 0) (x : Int64) : f_X0_numberOf n L x tI tP qJ = some (-1, ()) := by
  unfold f_X0_numberOf
  obtain ⟨i, h1, h2, -, -⟩ := fnao hn hl (c := 0) (by omega) h0 (qJ := qJ) x
  have : i = 0 := by omega
  subst this
  rw [h2]
  simp only [Option.bind_some]
  rw [if_pos (by rw [h0]; exact Int32.le_refl _)]
theorem number_yes {n : Nat} (hn : 100 < n) {T : Nat → TR} {κ : Nat → Int64} {W c : Nat} {lw ad : Nat → Nat} {L : List Nat} {tI : Nat → Int32} {tJ : Nat → Int64} {tP : Nat → Option Nat} {tO : Nat → Int64} {tR : Nat → Int32} {qI : Nat → Nat → Int32} {qJ : Nat → Nat → Int64} (h : cTab T κ W c lw ad L tI tJ tP tO tR qI qJ) {m : Nat} (hm : m < c) {x : Int64} (hx : x = κ (lw m)) : f_X0_numberOf n L x tI tP qJ = some (nI m, ()) := by
  obtain ⟨hT, hc, h0, hl, hr, -⟩ := h
  unfold f_X0_numberOf
  obtain ⟨i, h1, h2, h3, h4⟩ := fnao hn hl hc h0 (qJ := qJ) x
  have key : ∀ j, j < c → qJ (ad j) 1 = κ (lw j) := fun j hj => (hr j hj).2.2.2.2.2.2
  have e : i = m := by
    rcases Nat.lt_trichotomy i m with q | q | q
    · exfalso
      refine h4 (by omega) ?_
      rw [key i (by omega), hx]
      exact hT.2 i m q hm
    · exact q
    · exfalso
      have := h3 m q
      rw [key m hm, hx] at this
      exact i64_irr this
  subst e
  obtain ⟨l1, l2⟩ := hl.1 i (by omega)
  rw [h2]
  simp only [Option.bind_some]
  rw [h0, if_neg (nI_ge hm (by omega)), if_pos (inb_lt (show i < 40 by omega) (by decide)), nI_clamp (show i < 2 ^ 31 by omega), l1]
  simp only [Option.bind_some]
  rw [if_pos l2, if_pos ((lg_cmp0 _ _).mpr (by rw [key i hm, hx]))]
theorem a_ran {n : Nat} (hn : 5000 < n) {L K : List Nat} {rG : Nat → Option Nat} {bI pI : Nat → Int32} {pA : Nat → Nat → Int32} {tI : Nat → Int32} {tJ : Nat → Int64} {tP : Nat → Option Nat} {tO : Nat → Int64} {tR vI : Nat → Int32} {vJ : Nat → Int64} {vA qI : Nat → Nat → Int32} {qJ : Nat → Nat → Int64} {rI : Nat → Int32} {rA rR : Nat → Nat → Int32} (h : Inv L K rG bI pI pA tI tJ tP tO tR vI vJ vA qI qJ rI rA rR) (u1 : Int32) : ∃ r, f_X4_ran n L u1 bI tI tP vI vJ qJ = some (r, ()) ∧ f_X5_ran K u1 rI rA = some (r, ()) := by
  obtain ⟨k, wd, sg, P, z, ga, hg, hP, hR, hT⟩ := h
  obtain ⟨⟨-, hb, -, p1, -⟩, -, r2, hz, -, -, -, -, hw, -⟩ := hP
  have h12 := pw12 hb
  unfold f_X4_ran f_X5_ran
  rcases hR with ⟨h1, h2⟩ | ⟨h1, h2, t, ht, hm, e14, e15, e16, e17, e18, -, -, hs⟩
  · rw [h1, h2, if_pos rfl, if_pos rfl]
    exact ⟨_, rfl, rfl⟩
  rw [h1, h2, if_neg ne10, if_neg ne10]
  obtain ⟨m1, m3, m4, v2, v3, v4, -⟩ := hm
  obtain ⟨t1, t2, t3, -⟩ := ht
  by_cases d0 : u1 = 0
  · rw [if_pos d0, if_pos d0, m3, e14]; exact ⟨_, rfl, rfl⟩
  rw [if_neg d0, if_neg d0]
  by_cases d1 : u1 = 1
  · rw [if_pos d1, if_pos d1, m1, e15]; exact ⟨_, rfl, rfl⟩
  rw [if_neg d1, if_neg d1]
  by_cases d2 : u1 = 2
  · rw [if_pos d2, if_pos d2, m4, e16]; exact ⟨_, rfl, rfl⟩
  rw [if_neg d2, if_neg d2]
  by_cases d3 : u1 = 3
  · rw [if_pos d3, if_pos d3, bitCount_enc v2, e17, inV_fun, ct_mem_all t2 t3]
    exact ⟨_, rfl, rfl⟩
  rw [if_neg d3, if_neg d3]
  by_cases d4 : u1 = 4
  · rw [if_pos d4, if_pos d4, bitCount_enc v3, e18, ct_inD t1]
    exact ⟨_, rfl, rfl⟩
  rw [if_neg d4, if_neg d4]
  by_cases d5 : u1 = 5
  · rw [if_pos d5, if_pos d5]
    rcases hs with ⟨b1, s1⟩ | ⟨b1, s1, w, hw2, e13, et⟩
    · rw [b1, if_neg ne10, s1, if_pos rfl]
      refine ⟨_, rfl, ?_⟩
      split <;> rfl
    · rw [b1, if_pos rfl, s1, if_neg ne10, e13, if_pos (inb_lt (show w < 4096 by omega) (by decide)), nI_clamp (show w < 2 ^ 31 by omega)]
      rcases hT with ⟨k1, k2, ad, k3⟩ | ⟨κ, c, lw, ad, hc0, hk, hC, hM, h6⟩
      · rw [number_no (by omega) k3 k1, k2, if_pos (by decide)]
        exact ⟨_, rfl, rfl⟩
      · obtain ⟨-, j, hj, e11, ek⟩ := hM.2.2.2.1 w hw2
        have hc := hM.2.1
        have hx : vJ 4 = κ (lw j) := by
          rw [← ek]
          rw [et] at v4
          exact (enc_inj v4 (hk.1 w)).mpr (fun _ _ => rfl)
        rw [number_yes (by omega) hC hj hx, h6, if_neg (show ¬ nI c < 0 from Int32.not_lt.mpr (nI_le (a := 0) (b := c) (by omega) (by omega))), e11]
        exact ⟨_, rfl, rfl⟩
  rw [if_neg d5, if_neg d5]
  exact ⟨_, rfl, rfl⟩
