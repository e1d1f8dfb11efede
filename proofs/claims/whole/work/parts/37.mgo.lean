-- a loop that clears an array
theorem zl {α : Type} (E : (Nat → Nat → Int32) → Option α) (s M : Nat) (hM : M < 2 ^ 30) (body : ((Int32 × (Nat → Nat → Int32)) → Option α) → (Int32 × (Nat → Nat → Int32)) → Option α) (hb : ∀ rc x4 rA, body rc (x4, rA) = if nI M ≤ x4 then E rA else if inb x4 M = true then rc (x4 + 1, up2 rA s x4.toNatClampNeg 0) else none) :
    ∀ (N i : Nat) (rA : Nat → Nat → Int32), i ≤ M → M - i < N → (∀ j, j < i → rA s j = 0) → ∃ rA', lp body N (nI i, rA) = E rA' ∧ (∀ j, j < M → rA' s j = 0) ∧ ∀ k, k ≠ s → rA' k = rA k := by
  intro N
  induction N with
  | zero => intro i rA h1 h2; omega
  | succ N ih =>
    intro i rA h1 h2 h3
    rw [lp_succ, hb]
    by_cases c : i = M
    · subst c
      rw [if_pos (Int32.le_refl _)]
      exact ⟨rA, rfl, h3, fun _ _ => rfl⟩
    · rw [if_neg (nI_ge (a := i) (b := M) (by omega) (by omega)), if_pos (inb_lt (by omega) (by omega)), nI_clamp (show i < 2 ^ 31 by omega), nI_1]
      obtain ⟨rA', r1, r2, r3⟩ := ih (i + 1) (up2 rA s i 0) (by omega) (by omega) (fun j hj => by
        rw [up2_same]
        unfold upd
        split
        · rfl
        · exact h3 j (by omega))
      exact ⟨rA', r1, r2, fun k hk => by rw [r3 k hk, up2_ne _ _ _ hk]⟩
/-- what the model's run leaves -/
def yRan (t : TR) (x3 : Int32) (rI rI' : Nat → Int32) (rA rA' : Nat → Nat → Int32) : Prop :=
  rI' 7 = t.2.2.1.1 ∧ rI' 8 = nI t.2.2.1.2.1 ∧ rI' 9 = t.2.2.1.2.2 ∧ rI' 10 = nI t.2.1.length ∧ rI' 11 = nI t.1.length ∧ (∀ (j : Nat) (q : Nat × Bool), t.1[j]? = some q → rA' 16 j = code2 q) ∧ eqv 16 (rA' 14) t.2.2.2.1 ∧ eqv 8 (rA' 15) t.2.2.2.2 ∧ (∀ j, j < 7 ∨ 11 < j → rI' j = rI j) ∧ (∀ j, j ≠ 13 → j ≠ 14 → j ≠ 15 → j ≠ 16 → rA' j = rA j) ∧ (∀ p, rA' 13 p = if ¬ x3 = 0 ∧ p ∈ t.2.1 then 1 else rA 13 p)
-- from any point of the spec: what is guided goes the same way
theorem stp_fst (k x : Int32) (R R' : Nat → Int32) (d : Bool) : (stp k x R d).map Prod.fst = (stp k x R' d).map Prod.fst := by
  unfold stp
  by_cases c1 : isDv k = true
  · simp [c1]
  · by_cases c2 : k = 25 ∨ k = 26
    · simp [c1, c2]
    · by_cases c3 : k = 29
      · simp [c3, isDv]
      · by_cases c4 : k = 30
        · simp [c4, isDv]
        · by_cases c5 : k = 31
          · simp [c5, isDv]
          · simp [c1, c2, c3, c4, c5]
theorem tr_guided {P : Nat → Nat → Int32} {z : Nat} {inp inp' : Int32 → Int32} {g : Nat → Bool} : ∀ (f pc : Nat) (R R' C C' : Nat → Int32), (∀ q ∈ (tr P z inp none f pc R C).1, g q.1 = q.2) → (tr P z inp' (some g) f pc R' C').1 = (tr P z inp none f pc R C).1 ∧ (tr P z inp' (some g) f pc R' C').2.1 = (tr P z inp none f pc R C).2.1 ∧ (tr P z inp' (some g) f pc R' C').2.2.1.1 = (tr P z inp none f pc R C).2.2.1.1 ∧ (tr P z inp' (some g) f pc R' C').2.2.1.2.1 = (tr P z inp none f pc R C).2.2.1.2.1
  | 0, pc, R, R', C, C', _ => ⟨rfl, rfl, rfl, rfl⟩
  | f + 1, pc, R, R', C, C', h => by
    by_cases c : z ≤ pc
    · rw [tr_end c, tr_end c]
      exact ⟨rfl, rfl, rfl, rfl⟩
    · have hlt : pc < z := by omega
      obtain ⟨d, hd⟩ : ∃ d, dec none (nd (P 0 pc) (P 1 pc) (P 2 pc) (P 3 pc) R) pc = d := ⟨_, rfl⟩
      have hd' : dec (some g) (nd (P 0 pc) (P 1 pc) (P 2 pc) (P 3 pc) R') pc = g pc := rfl
      have key : (asks (P 0 pc) = true → g pc = d) → (stp (P 0 pc) (P 1 pc) R' (g pc)).map Prod.fst = (stp (P 0 pc) (P 1 pc) R d).map Prod.fst ∧ nx (P 0 pc) (P 1 pc) (P 2 pc) (g pc) pc = nx (P 0 pc) (P 1 pc) (P 2 pc) d pc ∧ (if asks (P 0 pc) then [(pc, g pc)] else []) = (if asks (P 0 pc) then [(pc, d)] else []) := by
        intro hg
        by_cases a : asks (P 0 pc) = true
        · rw [hg a]
          exact ⟨stp_fst _ _ _ _ _, rfl, rfl⟩
        · have a' : asks (P 0 pc) = false := by simpa using a
          refine ⟨by rw [stp_no a' (g pc) d]; exact stp_fst _ _ _ _ _, nx_no a' _ _ _, by rw [if_neg a, if_neg a]⟩
      cases hs : stp (P 0 pc) (P 1 pc) R d with
      | some er =>
        obtain ⟨e, r⟩ := er
        rw [tr_stop hlt hd hs] at h ⊢
        have hg : asks (P 0 pc) = true → g pc = d := fun a => h (pc, d) (by rw [if_pos a]; exact List.mem_singleton.mpr rfl)
        obtain ⟨k1, k2, k3⟩ := key hg
        rw [hs] at k1
        cases hs' : stp (P 0 pc) (P 1 pc) R' (g pc) with
        | none => rw [hs'] at k1; cases k1
        | some er' =>
          obtain ⟨e', r'⟩ := er'
          rw [hs'] at k1
          have : e' = e := Option.some.inj k1
          rw [tr_stop hlt hd' hs']
          exact ⟨k3, rfl, this, rfl⟩
      | none =>
        rw [tr_go hlt hd hs rfl] at h ⊢
        have hg : asks (P 0 pc) = true → g pc = d := fun a => h (pc, d) (by dsimp only; rw [if_pos a]; exact List.mem_append_left _ (List.mem_singleton.mpr rfl))
        obtain ⟨k1, k2, k3⟩ := key hg
        rw [hs] at k1
        cases hs' : stp (P 0 pc) (P 1 pc) R' (g pc) with
        | some er' => rw [hs'] at k1; cases k1
        | none =>
          rw [tr_go hlt hd' hs' rfl, k2]
          obtain ⟨i1, i2, i3, i4⟩ := tr_guided (inp := inp) (inp' := inp') (g := g) f (nx (P 0 pc) (P 1 pc) (P 2 pc) d pc) (sR (P 0 pc) (P 1 pc) (P 2 pc) (P 3 pc) R C (inp (P 2 pc))) (sR (P 0 pc) (P 1 pc) (P 2 pc) (P 3 pc) R' C' (inp' (P 2 pc))) (sC (P 0 pc) (P 1 pc) (P 2 pc) R C) (sC (P 0 pc) (P 1 pc) (P 2 pc) R' C') (fun q hq => h q (List.mem_append_right _ hq))
          refine ⟨?_, ?_, i3, i4⟩
          · dsimp only
            rw [k3, i1]
          · dsimp only
            rw [i2]
theorem inO_mem {ds : List (Nat × Bool)} (h : ds.Pairwise (fun p q => p.1 < q.1)) {q : Nat × Bool} (hq : q ∈ ds) : inO ds q.1 = q.2 := by
  unfold inO
  cases hb : q.2
  · rw [List.any_eq_false]
    intro r hr hc
    simp only [Bool.and_eq_true, beq_iff_eq] at hc
    have : r = q := by
      obtain ⟨i, hi⟩ := List.getElem?_of_mem hq
      obtain ⟨j, hj⟩ := List.getElem?_of_mem hr
      obtain ⟨hi1, hi2⟩ := List.getElem?_eq_some_iff.mp hi
      obtain ⟨hj1, hj2⟩ := List.getElem?_eq_some_iff.mp hj
      rw [List.pairwise_iff_getElem] at h
      rcases Nat.lt_trichotomy i j with c | c | c
      · have := h i j hi1 hj1 c
        rw [hi2, hj2, hc.1] at this
        omega
      · subst c
        rw [hi] at hj
        exact (Option.some.inj hj).symm
      · have := h j i hj1 hi1 c
        rw [hi2, hj2, hc.1] at this
        omega
    rw [this, hb] at hc
    exact absurd hc.2 (by decide)
  · rw [List.any_eq_true]
    exact ⟨q, hq, by simp [hb]⟩
theorem run_guided {P : Nat → Nat → Int32} {z ins : Nat} (hz : z ≤ 60) (hw : wfP P z ins) (inp inp' : Int32 → Int32) : (runT P z inp' (some (inO (runT P z inp none).1))).1 = (runT P z inp none).1 ∧ (runT P z inp' (some (inO (runT P z inp none).1))).2.1 = (runT P z inp none).2.1 ∧ (runT P z inp' (some (inO (runT P z inp none).1))).2.2.1.1 = (runT P z inp none).2.2.1.1 ∧ (runT P z inp' (some (inO (runT P z inp none).1))).2.2.1.2.1 = (runT P z inp none).2.2.1.2.1 :=
  tr_guided 61 0 _ _ _ _ (fun q hq => inO_mem (tr_places hz hw 61 0 _ _).2.2.2 hq)

theorem go0_ok {n : Nat} {K : List Nat} {u1 u3 : Int32} {P : Nat → Nat → Int32} {z ins : Nat} (hz : z ≤ 60) (hw : wfP P z ins) {inp : Int32 → Int32} {i1 : Int32} {w0 s0 : Nat → Int32} (hin : ∀ (rI : Nat → Int32) (rA : Nat → Nat → Int32), mP P z i1 w0 s0 rI rA → ∀ pc, pc < z → P 0 pc = 1 → f_X5_inputOf n K u1 (P 2 pc) rI rA = some (inp (P 2 pc), ())) (hn : 100 < n) {rI : Nat → Int32} {rA : Nat → Nat → Int32} (hm : mP P z i1 w0 s0 rI rA) :
    ∃ rI' rA', f_X5_go0 n K u1 u3 rI rA = some (rI', rA') ∧ yRan (runT P z inp none) u3 rI rI' rA rA' := by
  unfold f_X5_go0
  obtain ⟨rA1, a1, a2, a3⟩ := zl (fun rA => f_X5_go0_b24 n K u1 u3 rI rA) 14 16 (by decide) (f_X5_go0_l3 n K u1 u3 rI) (fun _ _ _ => rfl) n 0 rA (by omega) (by omega) (fun j hj => absurd hj (Nat.not_lt_zero j))
  have a1' : lp (f_X5_go0_l3 n K u1 u3 rI) n ((0 : Int32), rA) = f_X5_go0_b24 n K u1 u3 rI rA1 := a1
  rw [a1']
  unfold f_X5_go0_b24
  obtain ⟨rA2, b1, b2, b3⟩ := zl (fun rA => f_X5_go0_b48 n K u1 u3 rI rA) 15 8 (by decide) (f_X5_go0_l27 n K u1 u3 rI) (fun _ _ _ => rfl) n 0 rA1 (by omega) (by omega) (fun j hj => absurd hj (Nat.not_lt_zero j))
  have b1' : lp (f_X5_go0_l27 n K u1 u3 rI) n ((0 : Int32), rA1) = f_X5_go0_b48 n K u1 u3 rI rA2 := b1
  rw [b1']
  unfold f_X5_go0_b48
  have e14 : eqv 16 (rA2 14) (fun _ => 0) := fun j hj => by rw [b3 14 (by decide)]; exact a2 j hj
  have e15 : eqv 8 (rA2 15) (fun _ => 0) := fun j hj => b2 j hj
  obtain ⟨k1, k2, k3, k4, k5⟩ := tr_cong hw (inp := inp) (ov := none) 61 0 (rA2 14) (fun _ => 0) (rA2 15) (fun _ => 0) e14 e15
  have hm2 : mP P z i1 w0 s0 (upd (upd rI 10 0) 11 0) rA2 := mP_keep hm (fun j hj => by simp only [upd]; rw [if_neg (by omega), if_neg (by omega)]) (fun j hj => by rw [b3 j (by omega), a3 j (by omega)])
  obtain ⟨rI', rA', r1, t1, t2, t3, t4, t5, t6, t7, t8, t9, t10, t11⟩ := mexec0 (n := n) (K := K) (x1 := u1) (x3 := u3) hz hw hin 61 0 n 0 [] (upd (upd rI 10 0) 11 0) rA2 (by omega) (by omega) (Nat.zero_le _) (by omega) hm2 (by simp [upd]; rfl) (by simp [upd]; rfl) (fun j q hq => by simp at hq)
  refine ⟨rI', rA', r1, ?_⟩
  rw [k3] at t1 t2 t3
  rw [k2] at t4 t11
  rw [k1] at t5 t6
  refine ⟨t1, t2, t3, by rw [t4, Nat.zero_add]; rfl, by rw [t5]; simp only [List.length_nil, Nat.zero_add]; rfl, fun j q hq => t6 j q hq, by rw [t7]; exact k4, by rw [t8]; exact k5, ?_, ?_, ?_⟩
  · intro j hj
    rw [t9 j hj]
    simp only [upd]
    rw [if_neg (by omega), if_neg (by omega)]
  · intro j q1 q2 q3 q4
    rw [t10 j q1 q2 q3 q4, b3 j q3, a3 j q2]
  · intro p
    rw [t11 p, b3 13 (by decide), a3 13 (by decide)]
    rfl

theorem go1_ok {n : Nat} {K : List Nat} {u1 u3 : Int32} {u2 : Nat} {rR : Nat → Nat → Int32} {P : Nat → Nat → Int32} {z ins : Nat} (hz : z ≤ 60) (hw : wfP P z ins) {inp : Int32 → Int32} {i1 : Int32} {w0 s0 : Nat → Int32} (hin : ∀ (rI : Nat → Int32) (rA : Nat → Nat → Int32), mP P z i1 w0 s0 rI rA → ∀ pc, pc < z → P 0 pc = 1 → f_X5_inputOf n K u1 (P 2 pc) rI rA = some (inp (P 2 pc), ())) (hn : 100 < n) (hK2 : u2 ∈ K) {g : Nat → Bool} {ds0 : List (Nat × Bool)} (hrow : ∀ (j : Nat) (q : Nat × Bool), ds0[j]? = some q → rR u2 j = code2 q) (hds : (runT P z inp (some g)).1 = ds0) {rI : Nat → Int32} {rA : Nat → Nat → Int32} (hm : mP P z i1 w0 s0 rI rA) :
    ∃ rI' rA', f_X5_go1 n K u1 u2 u3 rI rA rR = some (rI', rA') ∧ yRan (runT P z inp (some g)) u3 rI rI' rA rA' := by
  unfold f_X5_go1
  obtain ⟨rA1, a1, a2, a3⟩ := zl (fun rA => f_X5_go1_b24 n K u1 u2 u3 rI rA rR) 14 16 (by decide) (f_X5_go1_l3 n K u1 u2 u3 rI rR) (fun _ _ _ => rfl) n 0 rA (by omega) (by omega) (fun j hj => absurd hj (Nat.not_lt_zero j))
  have a1' : lp (f_X5_go1_l3 n K u1 u2 u3 rI rR) n ((0 : Int32), rA) = f_X5_go1_b24 n K u1 u2 u3 rI rA1 rR := a1
  rw [a1']
  unfold f_X5_go1_b24
  obtain ⟨rA2, b1, b2, b3⟩ := zl (fun rA => f_X5_go1_b48 n K u1 u2 u3 rI rA rR) 15 8 (by decide) (f_X5_go1_l27 n K u1 u2 u3 rI rR) (fun _ _ _ => rfl) n 0 rA1 (by omega) (by omega) (fun j hj => absurd hj (Nat.not_lt_zero j))
  have b1' : lp (f_X5_go1_l27 n K u1 u2 u3 rI rR) n ((0 : Int32), rA1) = f_X5_go1_b48 n K u1 u2 u3 rI rA2 rR := b1
  rw [b1']
  unfold f_X5_go1_b48
  have e14 : eqv 16 (rA2 14) (fun _ => 0) := fun j hj => by rw [b3 14 (by decide)]; exact a2 j hj
  have e15 : eqv 8 (rA2 15) (fun _ => 0) := fun j hj => b2 j hj
  obtain ⟨k1, k2, k3, k4, k5⟩ := tr_cong hw (inp := inp) (ov := (some g)) 61 0 (rA2 14) (fun _ => 0) (rA2 15) (fun _ => 0) e14 e15
  have hm2 : mP P z i1 w0 s0 (upd (upd rI 10 0) 11 0) rA2 := mP_keep hm (fun j hj => by simp only [upd]; rw [if_neg (by omega), if_neg (by omega)]) (fun j hj => by rw [b3 j (by omega), a3 j (by omega)])
  obtain ⟨rI', rA', r1, t1, t2, t3, t4, t5, t6, t7, t8, t9, t10, t11⟩ := mexec1 (n := n) (K := K) (x1 := u1) (x3 := u3) hz hw hin hK2 hrow 61 0 n 0 [] (upd (upd rI 10 0) 11 0) rA2 (by omega) (by omega) (Nat.zero_le _) (by omega) hm2 (by simp [upd]; rfl) (by simp [upd]; rfl) (fun j q hq => by simp at hq) (by rw [k1]; exact hds)
  refine ⟨rI', rA', r1, ?_⟩
  rw [k3] at t1 t2 t3
  rw [k2] at t4 t11
  rw [k1] at t5 t6
  refine ⟨t1, t2, t3, by rw [t4, Nat.zero_add]; rfl, by rw [t5]; simp only [List.length_nil, Nat.zero_add]; rfl, fun j q hq => t6 j q hq, by rw [t7]; exact k4, by rw [t8]; exact k5, ?_, ?_, ?_⟩
  · intro j hj
    rw [t9 j hj]
    simp only [upd]
    rw [if_neg (by omega), if_neg (by omega)]
  · intro j q1 q2 q3 q4
    rw [t10 j q1 q2 q3 q4, b3 j q3, a3 j q2]
  · intro p
    rw [t11 p, b3 13 (by decide), a3 13 (by decide)]
    rfl
