-- a whole run: the decisions, the places come to, the end, the registers, the cells
abbrev TR : Type := List (Nat × Bool) × List Nat × (Int32 × Nat × Int32) × (Nat → Int32) × (Nat → Int32)
def dec (ov : Option (Nat → Bool)) (b : Bool) (pc : Nat) : Bool := match ov with
  | none => b
  | some g => g pc
def tr (P : Nat → Nat → Int32) (z : Nat) (inp : Int32 → Int32) (ov : Option (Nat → Bool)) : Nat → Nat → (Nat → Int32) → (Nat → Int32) → TR
  | 0, pc, R, C => ([], [], (0, pc, 0), R, C)
  | f + 1, pc, R, C =>
    if z ≤ pc then ([], [], (0, z, 0), R, C)
    else match stp (P 0 pc) (P 1 pc) R (dec ov (nd (P 0 pc) (P 1 pc) (P 2 pc) (P 3 pc) R) pc) with
      | some (e, r) => ((if asks (P 0 pc) then [(pc, dec ov (nd (P 0 pc) (P 1 pc) (P 2 pc) (P 3 pc) R) pc)] else []), [pc], (e, pc, r), R, C)
      | none => ((if asks (P 0 pc) then [(pc, dec ov (nd (P 0 pc) (P 1 pc) (P 2 pc) (P 3 pc) R) pc)] else []) ++ (tr P z inp ov f (nx (P 0 pc) (P 1 pc) (P 2 pc) (dec ov (nd (P 0 pc) (P 1 pc) (P 2 pc) (P 3 pc) R) pc) pc) (sR (P 0 pc) (P 1 pc) (P 2 pc) (P 3 pc) R C (inp (P 2 pc))) (sC (P 0 pc) (P 1 pc) (P 2 pc) R C)).1,
          pc :: (tr P z inp ov f (nx (P 0 pc) (P 1 pc) (P 2 pc) (dec ov (nd (P 0 pc) (P 1 pc) (P 2 pc) (P 3 pc) R) pc) pc) (sR (P 0 pc) (P 1 pc) (P 2 pc) (P 3 pc) R C (inp (P 2 pc))) (sC (P 0 pc) (P 1 pc) (P 2 pc) R C)).2.1,
          (tr P z inp ov f (nx (P 0 pc) (P 1 pc) (P 2 pc) (dec ov (nd (P 0 pc) (P 1 pc) (P 2 pc) (P 3 pc) R) pc) pc) (sR (P 0 pc) (P 1 pc) (P 2 pc) (P 3 pc) R C (inp (P 2 pc))) (sC (P 0 pc) (P 1 pc) (P 2 pc) R C)).2.2)
def wfP (P : Nat → Nat → Int32) (z ins : Nat) : Prop := ∀ pc, pc < z → wfI pc (P 0 pc) (P 1 pc) (P 2 pc) (P 3 pc) ins
theorem tr_end {P : Nat → Nat → Int32} {z : Nat} {inp : Int32 → Int32} {ov : Option (Nat → Bool)} {f pc : Nat} {R C : Nat → Int32} (h : z ≤ pc) : tr P z inp ov (f + 1) pc R C = ([], [], (0, z, 0), R, C) := by
  show (if z ≤ pc then _ else _) = _
  rw [if_pos h]
theorem tr_stop {P : Nat → Nat → Int32} {z : Nat} {inp : Int32 → Int32} {ov : Option (Nat → Bool)} {f pc : Nat} {R C : Nat → Int32} {d : Bool} {e r : Int32} (h : pc < z) (hd : dec ov (nd (P 0 pc) (P 1 pc) (P 2 pc) (P 3 pc) R) pc = d) (hs : stp (P 0 pc) (P 1 pc) R d = some (e, r)) : tr P z inp ov (f + 1) pc R C = ((if asks (P 0 pc) then [(pc, d)] else []), [pc], (e, pc, r), R, C) := by
  show (if z ≤ pc then _ else _) = _
  rw [if_neg (by omega), hd, hs]
theorem tr_go {P : Nat → Nat → Int32} {z : Nat} {inp : Int32 → Int32} {ov : Option (Nat → Bool)} {f pc : Nat} {R C : Nat → Int32} {d : Bool} (h : pc < z) (hd : dec ov (nd (P 0 pc) (P 1 pc) (P 2 pc) (P 3 pc) R) pc = d) (hs : stp (P 0 pc) (P 1 pc) R d = none) {t : TR} (ht : tr P z inp ov f (nx (P 0 pc) (P 1 pc) (P 2 pc) d pc) (sR (P 0 pc) (P 1 pc) (P 2 pc) (P 3 pc) R C (inp (P 2 pc))) (sC (P 0 pc) (P 1 pc) (P 2 pc) R C) = t) : tr P z inp ov (f + 1) pc R C = ((if asks (P 0 pc) then [(pc, d)] else []) ++ t.1, pc :: t.2.1, t.2.2) := by
  show (if z ≤ pc then _ else _) = _
  rw [if_neg (by omega), hd, hs, ht]
theorem nx_bd {pc ins : Nat} {k x y z : Int32} (hw : wfI pc k x y z ins) (hpc : pc < 60) (d : Bool) : pc < nx k x y d pc ∧ nx k x y d pc ≤ 60 := by
  unfold nx
  split
  · rename_i h
    rcases hw with ⟨h1, -⟩ | ⟨h1, -⟩ | ⟨h1, -⟩ | ⟨-, -, t, h2, h3, rfl⟩ | ⟨h1, -⟩ | ⟨h1, -⟩ | ⟨h1, -⟩
    · rw [h.1] at h1; exact absurd h1 (by decide)
    · rw [h.1] at h1; exact absurd h1 (by decide)
    · rw [h.1] at h1; exact absurd h1 (by decide)
    · rw [show ix (nI t) = t from nI_clamp (by omega)]; exact ⟨h2, h3⟩
    · rw [h.1] at h1; exact absurd h1 (by decide)
    · rw [h.1] at h1; exact absurd h1 (by decide)
    · rw [h.1] at h1; exact absurd h1 (by decide)
  · split
    · rename_i h0 h
      rcases hw with ⟨h1, -⟩ | ⟨h1, -⟩ | ⟨h1, -⟩ | ⟨h1, -⟩ | ⟨-, t, h2, h3, rfl⟩ | ⟨h1, -⟩ | ⟨h1, -⟩
      · rw [h] at h1; exact absurd h1 (by decide)
      · rw [h] at h1; exact absurd h1 (by decide)
      · rw [h] at h1; exact absurd h1 (by decide)
      · rw [h] at h1; exact absurd h1 (by decide)
      · rw [show ix (nI t) = t from nI_clamp (by omega)]; exact ⟨h2, h3⟩
      · rw [h] at h1; exact absurd h1 (by decide)
      · rw [h] at h1; exact absurd h1 (by decide)
    · omega
/-- where the places of a run lie -/
theorem tr_places {P : Nat → Nat → Int32} {z ins : Nat} (hz : z ≤ 60) (hw : wfP P z ins) {inp : Int32 → Int32} {ov : Option (Nat → Bool)} : ∀ (f pc : Nat) (R C : Nat → Int32), (∀ p ∈ (tr P z inp ov f pc R C).2.1, pc ≤ p ∧ p < z) ∧ (∀ q ∈ (tr P z inp ov f pc R C).1, pc ≤ q.1 ∧ q.1 < z) ∧ (tr P z inp ov f pc R C).2.1.Pairwise (· < ·) ∧ (tr P z inp ov f pc R C).1.Pairwise (fun p q => p.1 < q.1)
  | 0, pc, R, C => ⟨fun p h => absurd h List.not_mem_nil, fun p h => absurd h List.not_mem_nil, List.Pairwise.nil, List.Pairwise.nil⟩
  | f + 1, pc, R, C => by
    by_cases c : z ≤ pc
    · rw [tr_end c]
      exact ⟨fun p h => absurd h List.not_mem_nil, fun p h => absurd h List.not_mem_nil, List.Pairwise.nil, List.Pairwise.nil⟩
    · have hlt : pc < z := by omega
      obtain ⟨d, hd⟩ : ∃ d, dec ov (nd (P 0 pc) (P 1 pc) (P 2 pc) (P 3 pc) R) pc = d := ⟨_, rfl⟩
      cases hs : stp (P 0 pc) (P 1 pc) R d with
      | some er =>
        obtain ⟨e, r⟩ := er
        rw [tr_stop hlt hd hs]
        refine ⟨fun p h => ?_, fun q h => ?_, List.pairwise_singleton _ _, ?_⟩
        · rw [List.mem_singleton] at h; subst h; omega
        · dsimp only at h
          split at h
          · rw [List.mem_singleton] at h; subst h; exact ⟨Nat.le_refl _, hlt⟩
          · exact absurd h List.not_mem_nil
        · dsimp only
          split
          · exact List.pairwise_singleton _ _
          · exact List.Pairwise.nil
      | none =>
        rw [tr_go hlt hd hs rfl]
        have hb := nx_bd (hw pc hlt) (by omega) d
        obtain ⟨i1, i2, i3, i4⟩ := tr_places hz hw (inp := inp) (ov := ov) f (nx (P 0 pc) (P 1 pc) (P 2 pc) d pc) (sR (P 0 pc) (P 1 pc) (P 2 pc) (P 3 pc) R C (inp (P 2 pc))) (sC (P 0 pc) (P 1 pc) (P 2 pc) R C)
        refine ⟨fun p h => ?_, fun q h => ?_, ?_, ?_⟩
        · rcases List.mem_cons.mp h with h | h
          · subst h; omega
          · have := i1 p h; omega
        · rcases List.mem_append.mp h with h | h
          · split at h
            · rw [List.mem_singleton] at h; subst h; exact ⟨Nat.le_refl _, hlt⟩
            · exact absurd h List.not_mem_nil
          · have := i2 q h; omega
        · exact List.Pairwise.cons (fun p h => by have := i1 p h; omega) i3
        · dsimp only
          rw [List.pairwise_append]
          refine ⟨?_, i4, fun p hp q hq => ?_⟩
          · split
            · exact List.pairwise_singleton _ _
            · exact List.Pairwise.nil
          · split at hp
            · rw [List.mem_singleton] at hp; subst hp
              have := i2 q hq
              show pc < q.1
              omega
            · exact absurd hp List.not_mem_nil
