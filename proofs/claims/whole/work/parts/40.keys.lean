-- the order of rows of decisions
def gtD (a b : List (Nat × Bool)) : Prop := ∃ (pre : List (Nat × Bool)) (p : Nat) (ra rb : List (Nat × Bool)), a = pre ++ (p, true) :: ra ∧ b = pre ++ (p, false) :: rb
theorem tr_cmp {P : Nat → Nat → Int32} {z : Nat} {inp inp' : Int32 → Int32} : ∀ (f pc : Nat) (R R' C C' : Nat → Int32), (tr P z inp none f pc R C).1 = (tr P z inp' none f pc R' C').1 ∨ gtD (tr P z inp none f pc R C).1 (tr P z inp' none f pc R' C').1 ∨ gtD (tr P z inp' none f pc R' C').1 (tr P z inp none f pc R C).1
  | 0, pc, R, R', C, C' => Or.inl rfl
  | f + 1, pc, R, R', C, C' => by
    by_cases c : z ≤ pc
    · rw [tr_end c, tr_end c]
      exact Or.inl rfl
    · have hlt : pc < z := by omega
      obtain ⟨d, hd⟩ : ∃ d, dec none (nd (P 0 pc) (P 1 pc) (P 2 pc) (P 3 pc) R) pc = d := ⟨_, rfl⟩
      obtain ⟨d', hd'⟩ : ∃ d', dec none (nd (P 0 pc) (P 1 pc) (P 2 pc) (P 3 pc) R') pc = d' := ⟨_, rfl⟩
      obtain ⟨u, hu⟩ : ∃ u, (tr P z inp none (f + 1) pc R C).1 = (if asks (P 0 pc) then [(pc, d)] else []) ++ u := by
        cases hs : stp (P 0 pc) (P 1 pc) R d with
        | some er => obtain ⟨e, r⟩ := er; rw [tr_stop hlt hd hs]; exact ⟨[], (List.append_nil _).symm⟩
        | none => rw [tr_go hlt hd hs rfl]; exact ⟨_, rfl⟩
      obtain ⟨u', hu'⟩ : ∃ u', (tr P z inp' none (f + 1) pc R' C').1 = (if asks (P 0 pc) then [(pc, d')] else []) ++ u' := by
        cases hs : stp (P 0 pc) (P 1 pc) R' d' with
        | some er => obtain ⟨e, r⟩ := er; rw [tr_stop hlt hd' hs]; exact ⟨[], (List.append_nil _).symm⟩
        | none => rw [tr_go hlt hd' hs rfl]; exact ⟨_, rfl⟩
      by_cases e : asks (P 0 pc) = true ∧ d ≠ d'
      · rw [hu, hu', if_pos e.1, if_pos e.1]
        cases d <;> cases d'
        · exact absurd rfl e.2
        · exact Or.inr (Or.inr ⟨[], pc, u', u, rfl, rfl⟩)
        · exact Or.inr (Or.inl ⟨[], pc, u, u', rfl, rfl⟩)
        · exact absurd rfl e.2
      · -- the same decision, or none
        have key : (stp (P 0 pc) (P 1 pc) R d).map Prod.fst = (stp (P 0 pc) (P 1 pc) R' d').map Prod.fst ∧ nx (P 0 pc) (P 1 pc) (P 2 pc) d pc = nx (P 0 pc) (P 1 pc) (P 2 pc) d' pc ∧ (if asks (P 0 pc) then [(pc, d)] else []) = (if asks (P 0 pc) then [(pc, d')] else []) := by
          by_cases a : asks (P 0 pc) = true
          · have : d = d' := Decidable.byContradiction fun q => e ⟨a, q⟩
            subst this
            exact ⟨stp_fst _ _ _ _ _, rfl, rfl⟩
          · have a' : asks (P 0 pc) = false := by simpa using a
            exact ⟨by rw [stp_no a' d d']; exact stp_fst _ _ _ _ _, nx_no a' _ _ _, by rw [if_neg a, if_neg a]⟩
        obtain ⟨k1, k2, k3⟩ := key
        cases hs : stp (P 0 pc) (P 1 pc) R d with
        | some er =>
          obtain ⟨e1, r1⟩ := er
          rw [hs] at k1
          cases hs' : stp (P 0 pc) (P 1 pc) R' d' with
          | none => rw [hs'] at k1; cases k1
          | some er' =>
            obtain ⟨e2, r2⟩ := er'
            rw [tr_stop hlt hd hs, tr_stop hlt hd' hs']
            exact Or.inl k3
        | none =>
          rw [hs] at k1
          cases hs' : stp (P 0 pc) (P 1 pc) R' d' with
          | some er' => rw [hs'] at k1; cases k1
          | none =>
            rw [tr_go hlt hd hs rfl, tr_go hlt hd' hs' rfl, ← k2, ← k3]
            dsimp only
            rcases tr_cmp (inp := inp) (inp' := inp') f (nx (P 0 pc) (P 1 pc) (P 2 pc) d pc) (sR (P 0 pc) (P 1 pc) (P 2 pc) (P 3 pc) R C (inp (P 2 pc))) (sR (P 0 pc) (P 1 pc) (P 2 pc) (P 3 pc) R' C' (inp' (P 2 pc))) (sC (P 0 pc) (P 1 pc) (P 2 pc) R C) (sC (P 0 pc) (P 1 pc) (P 2 pc) R' C') with h | ⟨pre, p, ra, rb, h1, h2⟩ | ⟨pre, p, ra, rb, h1, h2⟩
            · exact Or.inl (by rw [h])
            · exact Or.inr (Or.inl ⟨_ ++ pre, p, ra, rb, by rw [h1, List.append_assoc], by rw [h2, List.append_assoc]⟩)
            · exact Or.inr (Or.inr ⟨_ ++ pre, p, ra, rb, by rw [h1, List.append_assoc], by rw [h2, List.append_assoc]⟩)
theorem run_cmp {P : Nat → Nat → Int32} {z : Nat} (inp inp' : Int32 → Int32) : (runT P z inp none).1 = (runT P z inp' none).1 ∨ gtD (runT P z inp none).1 (runT P z inp' none).1 ∨ gtD (runT P z inp' none).1 (runT P z inp none).1 := tr_cmp 61 0 _ _ _ _
def srt (ds : List (Nat × Bool)) : Prop := ds.Pairwise (fun p q => p.1 < q.1) ∧ ∀ q ∈ ds, q.1 < 60
theorem run_srt {P : Nat → Nat → Int32} {z ins : Nat} (hz : z ≤ 60) (hw : wfP P z ins) (inp : Int32 → Int32) (ov : Option (Nat → Bool)) : srt (runT P z inp ov).1 := ⟨(tr_places hz hw 61 0 _ _).2.2.2, fun q hq => by have := ((tr_places hz hw 61 0 _ _).2.1 q hq).2; omega⟩
/-- the greater row has the greater long -/
theorem gtD_lt {a b : List (Nat × Bool)} (h : gtD a b) (ha : srt a) (hb : srt b) {m m' : Int64} (e : enc m (inO a)) (e' : enc m' (inO b)) : m' < m := by
  obtain ⟨pre, p, ra, rb, rfl, rfl⟩ := h
  have hp : p < 60 := ha.2 (p, true) (List.mem_append_right _ List.mem_cons_self)
  refine enc_lt e e' hp (fun q hq => ?_) ?_ ?_
  · rw [inO_app, inO_app]
    congr 1
    have h1 := (List.pairwise_append.mp ha.1).2.1
    have h2 := (List.pairwise_append.mp hb.1).2.1
    have z1 : inO ((p, true) :: ra) q = false := by
      unfold inO
      rw [List.any_eq_false]
      intro r hr hc
      simp only [Bool.and_eq_true, beq_iff_eq] at hc
      rcases List.mem_cons.mp hr with c | c
      · subst c; have := hc.1; dsimp only at this; omega
      · have := (List.pairwise_cons.mp h1).1 r c
        dsimp only at this
        omega
    have z2 : inO ((p, false) :: rb) q = false := by
      unfold inO
      rw [List.any_eq_false]
      intro r hr hc
      simp only [Bool.and_eq_true, beq_iff_eq] at hc
      rcases List.mem_cons.mp hr with c | c
      · subst c; have := hc.1; dsimp only at this; omega
      · have := (List.pairwise_cons.mp h2).1 r c
        dsimp only at this
        omega
    rw [z1, z2]
  · exact inO_mem ha.1 (q := (p, true)) (List.mem_append_right _ List.mem_cons_self)
  · exact inO_mem hb.1 (q := (p, false)) (List.mem_append_right _ List.mem_cons_self)
theorem i64_irr {m : Int64} (h : m < m) : False := by
  rw [Int64.lt_iff_toInt_lt] at h
  omega
theorem gtD_irr {a : List (Nat × Bool)} (h : gtD a a) : False := by
  obtain ⟨pre, p, ra, rb, h1, h2⟩ := h
  rw [h1] at h2
  have := List.append_cancel_left h2
  cases this
-- masks exist
theorem enc_of : ∀ (k : Nat), k ≤ 60 → ∀ S : Nat → Bool, ∃ m, enc m (fun p => decide (p < k) && S p)
  | 0, _, S => ⟨0, enc_cong enc_zero (fun p _ => by simp)⟩
  | k + 1, hk, S => by
    obtain ⟨m, hm⟩ := enc_of k (by omega) S
    by_cases c : S k = true
    · refine ⟨m ||| bitp k, enc_cong (enc_add hm (by omega)) (fun p hp => ?_)⟩
      by_cases e : p = k
      · subst e; simp [c]
      · by_cases e2 : p < k
        · have : p < k + 1 := by omega
          simp [e, e2, this]
        · have : ¬ p < k + 1 := by omega
          simp [e, e2, this]
    · have c' : S k = false := by simpa using c
      refine ⟨m, enc_cong hm (fun p hp => ?_)⟩
      by_cases e : p = k
      · subst e; simp [c']
      · by_cases e2 : p < k
        · have : p < k + 1 := by omega
          simp [e2, this]
        · have : ¬ p < k + 1 := by omega
          simp [e2, this]
theorem enc_ex (S : Nat → Bool) : ∃ m, enc m S := by
  obtain ⟨m, hm⟩ := enc_of 60 (Nat.le_refl _) S
  exact ⟨m, enc_cong hm (fun p hp => by simp [hp])⟩
theorem gtD_trans {a b c : List (Nat × Bool)} (ha : srt a) (hb : srt b) (hc : srt c) (cmp : a = c ∨ gtD a c ∨ gtD c a) (h1 : gtD a b) (h2 : gtD b c) : gtD a c := by
  obtain ⟨ma, ea⟩ := enc_ex (inO a)
  obtain ⟨mb, eb⟩ := enc_ex (inO b)
  obtain ⟨mc, ec⟩ := enc_ex (inO c)
  have l1 := gtD_lt h1 ha hb ea eb
  have l2 := gtD_lt h2 hb hc eb ec
  rw [Int64.lt_iff_toInt_lt] at l1 l2
  rcases cmp with h | h | h
  · subst h
    have : ma = mc := (enc_inj ea ec).mpr (fun _ _ => rfl)
    rw [this] at l1
    omega
  · exact h
  · have l3 := gtD_lt h hc ha ec ea
    rw [Int64.lt_iff_toInt_lt] at l3
    omega
-- equal longs, equal rows
theorem run_key {P : Nat → Nat → Int32} {z ins : Nat} (hz : z ≤ 60) (hw : wfP P z ins) {inp inp' : Int32 → Int32} {m m' : Int64} (e : enc m (inO (runT P z inp none).1)) (e' : enc m' (inO (runT P z inp' none).1)) : (m = m' ↔ (runT P z inp none).1 = (runT P z inp' none).1) ∧ (m' < m ↔ gtD (runT P z inp none).1 (runT P z inp' none).1) := by
  have s1 := run_srt hz hw inp none
  have s2 := run_srt hz hw inp' none
  rcases run_cmp (P := P) (z := z) inp inp' with h | h | h
  · have hm : m = m' := (enc_inj e e').mpr (fun p _ => by rw [h])
    refine ⟨⟨fun _ => h, fun _ => hm⟩, ⟨fun q => ?_, fun q => ?_⟩⟩
    · rw [hm] at q; exact (i64_irr q).elim
    · rw [h] at q; exact (gtD_irr q).elim
  · have l := gtD_lt h s1 s2 e e'
    refine ⟨⟨fun q => ?_, fun q => ?_⟩, ⟨fun _ => h, fun _ => l⟩⟩
    · rw [q] at l; exact (i64_irr l).elim
    · rw [q] at h; exact (gtD_irr h).elim
  · have l := gtD_lt h s2 s1 e' e
    refine ⟨⟨fun q => ?_, fun q => ?_⟩, ⟨fun q => ?_, fun q => ?_⟩⟩
    · rw [q] at l; exact (i64_irr l).elim
    · rw [q] at h; exact (gtD_irr h).elim
    · rw [Int64.lt_iff_toInt_lt] at l q; omega
    · have l2 := gtD_lt q s1 s2 e e'
      rw [Int64.lt_iff_toInt_lt] at l l2; omega
