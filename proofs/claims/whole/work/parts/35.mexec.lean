-- the model's run against the trace
def code2 (q : Nat × Bool) : Int32 := ((2 : Int32) * nI q.1) + (if q.2 then 1 else 0)
theorem rowD_code (p : Nat) (hp : p < 60) (b : Bool) : rowD (code2 (p, b)) = b := by
  have : ∀ p, p < 60 → rowD (code2 (p, true)) = true ∧ rowD (code2 (p, false)) = false := by decide +kernel
  cases b
  · exact (this p hp).2
  · exact (this p hp).1
def mP (P : Nat → Nat → Int32) (z : Nat) (i1 : Int32) (w0 s0 : Nat → Int32) (rI : Nat → Int32) (rA : Nat → Nat → Int32) : Prop :=
  rI 3 = nI z ∧ rI 1 = i1 ∧ rA 0 = w0 ∧ rA 1 = s0 ∧ ∀ pc, pc < z → rA 2 pc = P 0 pc ∧ rA 3 pc = P 1 pc ∧ rA 4 pc = P 2 pc ∧ rA 5 pc = P 3 pc
theorem mP_keep {P : Nat → Nat → Int32} {z : Nat} {i1 : Int32} {w0 s0 : Nat → Int32} {rI rI' : Nat → Int32} {rA rA' : Nat → Nat → Int32} (h : mP P z i1 w0 s0 rI rA) (hI : ∀ j, j < 7 → rI' j = rI j) (hA : ∀ j, j < 13 → rA' j = rA j) : mP P z i1 w0 s0 rI' rA' := by
  obtain ⟨h1, h2, h3, h4, h5⟩ := h
  refine ⟨by rw [hI 3 (by decide), h1], by rw [hI 1 (by decide), h2], by rw [hA 0 (by decide), h3], by rw [hA 1 (by decide), h4], fun pc hpc => ?_⟩
  rw [hA 2 (by decide), hA 3 (by decide), hA 4 (by decide), hA 5 (by decide)]
  exact h5 pc hpc
/-- what the model's run leaves, from a state with md made and dn done -/
def yOk (t : TR) (md : List (Nat × Bool)) (dn : Nat) (x3 : Int32) (rI rI' : Nat → Int32) (rA rA' : Nat → Nat → Int32) : Prop :=
  rI' 7 = t.2.2.1.1 ∧ rI' 8 = nI t.2.2.1.2.1 ∧ rI' 9 = t.2.2.1.2.2 ∧ rI' 10 = nI (dn + t.2.1.length) ∧ rI' 11 = nI (md.length + t.1.length) ∧ (∀ (j : Nat) (q : Nat × Bool), (md ++ t.1)[j]? = some q → rA' 16 j = code2 q) ∧ rA' 14 = t.2.2.2.1 ∧ rA' 15 = t.2.2.2.2 ∧ (∀ j, j < 7 ∨ 11 < j → rI' j = rI j) ∧ (∀ j, j ≠ 13 → j ≠ 14 → j ≠ 15 → j ≠ 16 → rA' j = rA j) ∧ (∀ p, rA' 13 p = if ¬ x3 = 0 ∧ p ∈ t.2.1 then 1 else rA 13 p)
theorem nar1 : vp_nar .boolean (1 : Int32) = 1 := by decide +kernel
theorem ends_eq (K : List Nat) (a b c : Int32) (rI : Nat → Int32) : f_X5_ends K a b c rI = some (upd (upd (upd rI 7 a) 8 b) 9 c) := rfl

theorem mxl0 {n : Nat} {K : List Nat} {x1 x3 : Int32} (rc : (Int32 × (Nat → Int32) × (Nat → Nat → Int32)) → Option ((Nat → Int32) × (Nat → Nat → Int32))) (x4 : Int32) (rI : Nat → Int32) (rA : Nat → Nat → Int32) : f_X5_go0_l61 n K x1 x3 rc (x4, rI, rA) = (if (rI 3) ≤ x4 then f_X5_go0_b768 n K rI rA else if x3 = 0 then f_X5_go0_b82 n K rc x1 x3 x4 rI rA else if inb x4 60 = true then f_X5_go0_b82 n K rc x1 x3 x4 rI (up2 rA 13 x4.toNatClampNeg (vp_nar .boolean (1 : Int32))) else none) := rfl

set_option maxHeartbeats 8000000 in
theorem mexec0 {n : Nat} {K : List Nat} {x1 x3 : Int32} {P : Nat → Nat → Int32} {z ins : Nat} (hz : z ≤ 60) (hw : wfP P z ins) {inp : Int32 → Int32} {i1 : Int32} {w0 s0 : Nat → Int32} (hin : ∀ (rI : Nat → Int32) (rA : Nat → Nat → Int32), mP P z i1 w0 s0 rI rA → ∀ pc, pc < z → P 0 pc = 1 → f_X5_inputOf n K x1 (P 2 pc) rI rA = some (inp (P 2 pc), ())) :
    ∀ (f pc N dn : Nat) (md : List (Nat × Bool)) (rI : Nat → Int32) (rA : Nat → Nat → Int32), z - pc < f → z - pc < N → md.length ≤ pc → pc ≤ 60 → mP P z i1 w0 s0 rI rA → rI 10 = nI dn → rI 11 = nI md.length → (∀ (j : Nat) (q : Nat × Bool), md[j]? = some q → rA 16 j = code2 q) → 
    ∃ rI' rA', lp (f_X5_go0_l61 n K x1 x3) N (nI pc, rI, rA) = some (rI', rA') ∧ yOk (tr P z inp none f pc (rA 14) (rA 15)) md dn x3 rI rI' rA rA' := by
  intro f
  induction f with
  | zero => intro pc N dn md rI rA h1; omega
  | succ f ih =>
    intro pc N dn md rI rA h1 h2 h3 h4 hm h10 h11 hmd
    obtain ⟨N', rfl⟩ : ∃ N', N = N' + 1 := ⟨N - 1, by omega⟩
    rw [lp_succ, mxl0]
    obtain ⟨m3, m1, mw, ms, mp⟩ := hm
    have hm : mP P z i1 w0 s0 rI rA := ⟨m3, m1, mw, ms, mp⟩
    rw [m3]
    by_cases c : z ≤ pc
    · rw [tr_end c, if_pos (nI_le c (by omega))]
      unfold f_X5_go0_b768
      rw [ends_eq]
      refine ⟨_, _, rfl, ?_⟩
      refine ⟨by simp [upd], by simp [upd, m3], by simp [upd], by simp [upd, h10], by simp [upd, h11], ?_, rfl, rfl, ?_, fun _ _ _ _ _ => rfl, fun p => by simp⟩
      · intro j q hq
        simp only [List.append_nil] at hq
        exact hmd j q hq
      · intro j hj
        simp only [upd]
        split
        · omega
        · split
          · omega
          · split
            · omega
            · rfl
    · have hlt : pc < z := by omega
      have hpc : pc < 60 := by omega
      have w := hw pc hlt
      obtain ⟨p2, p3, p4, p5⟩ := mp pc hlt
      rw [if_neg (nI_ge (a := pc) (b := z) hlt (by omega))]
      have c1 : (nI pc).toNatClampNeg = pc := nI_clamp (by omega)
      obtain ⟨rA1, hrA1⟩ : ∃ q, q = if x3 = 0 then rA else up2 rA 13 pc 1 := ⟨_, rfl⟩
      have e0 : (if x3 = 0 then f_X5_go0_b82 n K (lp (f_X5_go0_l61 n K x1 x3) N') x1 x3 (nI pc) rI rA else if inb (nI pc) 60 = true then f_X5_go0_b82 n K (lp (f_X5_go0_l61 n K x1 x3) N') x1 x3 (nI pc) rI (up2 rA 13 (nI pc).toNatClampNeg (vp_nar .boolean (1 : Int32))) else none) = f_X5_go0_b82 n K (lp (f_X5_go0_l61 n K x1 x3) N') x1 x3 (nI pc) rI rA1 := by
        rw [hrA1, if_pos (inb_lt hpc (by decide)), nar1, c1]
        by_cases c3 : x3 = 0 <;> simp [c3]
      rw [e0]
      have a13 : ∀ j, j ≠ 13 → rA1 j = rA j := fun j hj => by
        rw [hrA1]
        split
        · rfl
        · exact up2_ne _ _ _ hj
      have m13 : ∀ p, rA1 13 p = if ¬ x3 = 0 ∧ p = pc then 1 else rA 13 p := fun p => by
        rw [hrA1]
        by_cases c3 : x3 = 0
        · simp [c3]
        · rw [if_neg c3, up2_same]
          simp [upd, c3]
      have hm1 : mP P z i1 w0 s0 rI rA1 := mP_keep hm (fun _ _ => rfl) (fun j hj => a13 j (by omega))
      have e14 := a13 14 (by decide)
      have e15 := a13 15 (by decide)
      have e16 := a13 16 (by decide)
      have hmi : inb (rI 11) 60 = true := by rw [h11]; exact inb_lt (by omega) (by decide)
      have hix : ix (rI 11) = md.length := by rw [h11]; exact nI_clamp (by omega)
      rw [m820 (rA := rA1) hpc (by rw [a13 2 (by decide)]; exact p2) (by rw [a13 3 (by decide)]; exact p3) (by rw [a13 4 (by decide)]; exact p4) (by rw [a13 5 (by decide)]; exact p5) w hmi]
      obtain ⟨d, hd⟩ : ∃ d, dec none (nd (P 0 pc) (P 1 pc) (P 2 pc) (P 3 pc) (rA 14)) pc = d := ⟨_, rfl⟩
      -- the state behind the decision
      obtain ⟨d1, rI2, rA2, hb, hdd, f10, f11, g14, g15, gk, gA, g13, gm⟩ : ∃ (d1 : Bool) (rI2 : Nat → Int32) (rA2 : Nat → Nat → Int32), (if asks (P 0 pc) = true then f_X5_go0_b327 n K (lp (f_X5_go0_l61 n K x1 x3) N') x1 x3 (nI pc) (P 0 pc) (P 1 pc) (P 2 pc) (P 3 pc) (nI (pc + 1)) (if nd (P 0 pc) (P 1 pc) (P 2 pc) (P 3 pc) (rA1 14) then 1 else 0) (upd (upd rI 10 ((rI 10) + 1)) 11 ((rI 11) + 1)) (up2 rA1 16 (ix (rI 11)) (((2 : Int32) * nI pc) + (if nd (P 0 pc) (P 1 pc) (P 2 pc) (P 3 pc) (rA1 14) then 1 else 0))) else f_X5_go0_b327 n K (lp (f_X5_go0_l61 n K x1 x3) N') x1 x3 (nI pc) (P 0 pc) (P 1 pc) (P 2 pc) (P 3 pc) (nI (pc + 1)) 0 (upd rI 10 ((rI 10) + 1)) rA1) = f_X5_go0_b327 n K (lp (f_X5_go0_l61 n K x1 x3) N') x1 x3 (nI pc) (P 0 pc) (P 1 pc) (P 2 pc) (P 3 pc) (nI (pc + 1)) (if d1 then 1 else 0) rI2 rA2 ∧ (asks (P 0 pc) = true → d1 = d) ∧ rI2 10 = nI (dn + 1) ∧ rI2 11 = nI (md ++ (if asks (P 0 pc) then [(pc, d)] else [])).length ∧ rA2 14 = rA 14 ∧ rA2 15 = rA 15 ∧ (∀ j, j < 7 ∨ 11 < j → rI2 j = rI j) ∧ (∀ j, j ≠ 13 → j ≠ 16 → rA2 j = rA j) ∧ (∀ p, rA2 13 p = if ¬ x3 = 0 ∧ p = pc then 1 else rA 13 p) ∧ (∀ (j : Nat) (q : Nat × Bool), (md ++ (if asks (P 0 pc) then [(pc, d)] else []))[j]? = some q → rA2 16 j = code2 q) := by
        by_cases a : asks (P 0 pc) = true
        · have hnd : (nd (P 0 pc) (P 1 pc) (P 2 pc) (P 3 pc) (rA1 14)) = d := by rw [e14, ← hd]; rfl
          rw [if_pos a, hnd, hix, if_pos a]
          refine ⟨d, _, _, rfl, fun _ => rfl, by simp [upd, h10, nI_1], ?_, ?_, ?_, ?_, ?_, ?_, ?_⟩
          · rw [List.length_append]
            simp [upd, h11, nI_1]
          · rw [up2_ne _ _ _ (by decide), e14]
          · rw [up2_ne _ _ _ (by decide), e15]
          · intro j hj
            simp only [upd]
            split
            · omega
            · split
              · omega
              · rfl
          · intro j h1 h2
            rw [up2_ne _ _ _ h2, a13 j h1]
          · intro p
            rw [up2_ne _ _ _ (by decide), m13]
          · intro j q hq
            rw [up2_same, e16]
            unfold upd
            by_cases cj : j = md.length
            · rw [if_pos cj]
              subst cj
              rw [List.getElem?_append_right (Nat.le_refl _), Nat.sub_self] at hq
              have : (pc, d) = q := Option.some.inj hq
              rw [← this]
              rfl
            · rw [if_neg cj]
              rcases Nat.lt_or_ge j md.length with hj | hj
              · rw [List.getElem?_append_left hj] at hq
                exact hmd j q hq
              · rw [List.getElem?_append_right hj] at hq
                have := (List.getElem?_eq_some_iff.mp hq).1
                simp at this
                omega
        · rw [if_neg a, if_neg a]
          refine ⟨false, _, _, rfl, fun q => absurd q a, by simp [upd, h10, nI_1], by simp [upd, h11], e14, e15, ?_, fun j h1 _ => a13 j h1, m13, ?_⟩
          · intro j hj
            simp only [upd]
            split
            · omega
            · rfl
          · intro j q hq
            simp only [List.append_nil] at hq
            rw [e16]
            exact hmd j q hq
      rw [hb]
      have hm2 : mP P z i1 w0 s0 rI2 rA2 := mP_keep hm (fun j hj => gk j (Or.inl hj)) (fun j hj => gA j (by omega) (by omega))
      have h327 := m3270 (n := n) (K := K) (x1 := x1) (x3 := x3) (rc := lp (f_X5_go0_l61 n K x1 x3) N') w hpc d1 rI2 rA2  (iv := inp (P 2 pc)) (fun e => hin rI2 rA2 hm2 pc hlt e)
      rw [g14, g15] at h327
      have hst : stp (P 0 pc) (P 1 pc) (rA 14) d1 = stp (P 0 pc) (P 1 pc) (rA 14) d ∧ nx (P 0 pc) (P 1 pc) (P 2 pc) d1 pc = nx (P 0 pc) (P 1 pc) (P 2 pc) d pc := by
        by_cases a : asks (P 0 pc) = true
        · rw [hdd a]; exact ⟨rfl, rfl⟩
        · have a' : asks (P 0 pc) = false := by simpa using a
          exact ⟨stp_no a' _ _, nx_no a' _ _ _⟩
      rw [hst.1, hst.2] at h327
      cases hs : stp (P 0 pc) (P 1 pc) (rA 14) d with
      | some er =>
        obtain ⟨e, r⟩ := er
        rw [hs] at h327
        have h327' : f_X5_go0_b327 n K (lp (f_X5_go0_l61 n K x1 x3) N') x1 x3 (nI pc) (P 0 pc) (P 1 pc) (P 2 pc) (P 3 pc) (nI (pc + 1)) (if d1 then 1 else 0) rI2 rA2 = some (upd (upd (upd rI2 7 e) 8 (nI pc)) 9 r, rA2) := h327
        rw [h327', tr_stop hlt hd hs]
        refine ⟨_, _, rfl, ?_⟩
        refine ⟨by simp [upd], by simp [upd], by simp [upd], by simp [upd, f10], ?_, gm, g14, g15, ?_, fun j q1 q2 q3 q4 => gA j q1 q4, ?_⟩
        · simp only [upd]
          rw [if_neg (by decide), if_neg (by decide), if_neg (by decide), f11, List.length_append]
        · intro j hj
          simp only [upd]
          split
          · omega
          · split
            · omega
            · split
              · omega
              · exact gk j hj
        · intro p
          rw [g13 p]
          simp
      | none =>
        rw [hs] at h327
        obtain ⟨rA3, r0, r14, r15, rk3⟩ := h327
        rw [r0]
        have hb2 := nx_bd w hpc d
        have htr := tr_go (f := f) (inp := inp) (C := rA 15) hlt hd hs rfl
        rw [htr]
        have hl : (md ++ (if asks (P 0 pc) then [(pc, d)] else [])).length ≤ pc + 1 := by
          rw [List.length_append]
          split <;> simp <;> omega
        obtain ⟨rI', rA', s1, s2⟩ := ih (nx (P 0 pc) (P 1 pc) (P 2 pc) d pc) N' (dn + 1) (md ++ (if asks (P 0 pc) then [(pc, d)] else [])) rI2 rA3 (by omega) (by omega) (by omega) hb2.2 (mP_keep hm2 (fun _ _ => rfl) (fun j hj => rk3 j (by omega) (by omega))) f10 f11 (fun j q hq => by rw [rk3 16 (by decide) (by decide)]; exact gm j q hq)
        rw [r14, r15] at s2
        obtain ⟨t1, t2, t3, t4, t5, t6, t7, t8, t9, t10, t11⟩ := s2
        refine ⟨rI', rA', s1, ?_⟩
        refine ⟨t1, t2, t3, ?_, ?_, ?_, t7, t8, ?_, ?_, ?_⟩
        · rw [t4]
          congr 1
          simp only [List.length_cons]
          omega
        · rw [t5]
          congr 1
          simp only [List.length_append]
          omega
        · intro j q hq
          exact t6 j q (by rw [List.append_assoc]; exact hq)
        · intro j hj
          rw [t9 j hj, gk j hj]
        · intro j q1 q2 q3 q4
          rw [t10 j q1 q2 q3 q4, rk3 j q2 q3, gA j q1 q4]
        · intro p
          rw [t11, rk3 13 (by decide) (by decide), g13 p]
          by_cases c3 : x3 = 0
          · simp [c3]
          · by_cases cp : p = pc
            · simp [c3, cp]
            · simp [c3, cp]
