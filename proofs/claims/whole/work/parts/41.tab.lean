-- the table of paths: lw i is the least word of path i
def TabU (κ : Nat → Int64) (w c : Nat) (lw : Nat → Nat) : Prop :=
  (∀ i, i < c → lw i < w ∧ ∀ v, v < lw i → κ v ≠ κ (lw i)) ∧ (∀ v, v < w → ∃ i, i < c ∧ κ v = κ (lw i)) ∧ ∀ i j, i < c → j < c → κ (lw i) = κ (lw j) → i = j
def Tab (κ : Nat → Int64) (w c : Nat) (lw : Nat → Nat) : Prop := TabU κ w c lw ∧ ∀ i j, i < j → j < c → κ (lw j) < κ (lw i)
theorem lt64 {a b : Int64} : a < b ↔ a.toInt < b.toInt := Int64.lt_iff_toInt_lt
theorem le64 {a b : Int64} : a ≤ b ↔ a.toInt ≤ b.toInt := Int64.le_iff_toInt_le
theorem eq64 {a b : Int64} : a = b ↔ a.toInt = b.toInt := Int64.toInt_inj.symm
theorem TabU_zero (κ : Nat → Int64) (lw : Nat → Nat) : TabU κ 0 0 lw := ⟨fun i h => absurd h (Nat.not_lt_zero i), fun v h => absurd h (Nat.not_lt_zero v), fun i j h => absurd h (Nat.not_lt_zero i)⟩
theorem Tab_zero (κ : Nat → Int64) (lw : Nat → Nat) : Tab κ 0 0 lw := ⟨TabU_zero κ lw, fun i j _ h => absurd h (Nat.not_lt_zero j)⟩
theorem TabU_old {κ : Nat → Int64} {w c : Nat} {lw : Nat → Nat} (h : TabU κ w c lw) {i : Nat} (hi : i < c) (e : κ w = κ (lw i)) : TabU κ (w + 1) c lw := by
  obtain ⟨h1, h2, h3⟩ := h
  refine ⟨fun j hj => ⟨by have := (h1 j hj).1; omega, (h1 j hj).2⟩, fun v hv => ?_, h3⟩
  by_cases d : v = w
  · subst d; exact ⟨i, hi, e⟩
  · exact h2 v (by omega)
theorem Tab_old {κ : Nat → Int64} {w c : Nat} {lw : Nat → Nat} (h : Tab κ w c lw) {i : Nat} (hi : i < c) (e : κ w = κ (lw i)) : Tab κ (w + 1) c lw := ⟨TabU_old h.1 hi e, h.2⟩
theorem TabU_new {κ : Nat → Int64} {w c : Nat} {lw lw' : Nat → Nat} (h : TabU κ w c lw) (hn : ∀ i, i < c → κ w ≠ κ (lw i)) (e : ∀ i, i < c → lw' i = lw i) (ec : lw' c = w) : TabU κ (w + 1) (c + 1) lw' := by
  obtain ⟨h1, h2, h3⟩ := h
  refine ⟨fun j hj => ?_, fun v hv => ?_, fun i j hi hj q => ?_⟩
  · by_cases d : j = c
    · subst d
      rw [ec]
      refine ⟨by omega, fun v hv q => ?_⟩
      obtain ⟨i, hi, q2⟩ := h2 v hv
      exact hn i hi (q.symm.trans q2)
    · rw [e j (by omega)]
      exact ⟨by have := (h1 j (by omega)).1; omega, (h1 j (by omega)).2⟩
  · by_cases d : v = w
    · subst d; exact ⟨c, by omega, by rw [ec]⟩
    · obtain ⟨i, hi, q⟩ := h2 v (by omega)
      exact ⟨i, by omega, by rw [e i hi]; exact q⟩
  · by_cases d1 : i = c <;> by_cases d2 : j = c
    · omega
    · subst d1
      rw [ec, e j (by omega)] at q
      exact absurd q (hn j (by omega))
    · subst d2
      rw [ec, e i (by omega)] at q
      exact absurd q.symm (hn i (by omega))
    · rw [e i (by omega), e j (by omega)] at q
      exact h3 i j (by omega) (by omega) q
def ins1 (lw : Nat → Nat) (i w : Nat) : Nat → Nat := fun j => if j < i then lw j else if j = i then w else lw (j - 1)
theorem Tab_ins {κ : Nat → Int64} {w c : Nat} {lw : Nat → Nat} (h : Tab κ w c lw) {i : Nat} (hi : i ≤ c) (hb : ∀ j, j < i → κ w < κ (lw j)) (ha : ∀ j, i ≤ j → j < c → κ (lw j) < κ w) : Tab κ (w + 1) (c + 1) (ins1 lw i w) := by
  obtain ⟨⟨h1, h2, h3⟩, h4⟩ := h
  have hn : ∀ j, j < c → κ w ≠ κ (lw j) := fun j hj q => by
    rcases Nat.lt_or_ge j i with d | d
    · have := hb j d; rw [q] at this; exact i64_irr this
    · have := ha j d hj; rw [q] at this; exact i64_irr this
  have srtd : ∀ a b, a < b → b < c + 1 → κ (ins1 lw i w b) < κ (ins1 lw i w a) := by
    intro a b hab hbc
    unfold ins1
    by_cases d1 : b < i
    · rw [if_pos d1, if_pos (by omega)]
      exact h4 a b hab (by omega)
    · rw [if_neg d1]
      by_cases d2 : b = i
      · rw [if_pos d2, if_pos (by omega)]
        exact hb a (by omega)
      · rw [if_neg d2]
        by_cases d3 : a < i
        · rw [if_pos d3]
          exact h4 a (b - 1) (by omega) (by omega)
        · rw [if_neg d3]
          by_cases d4 : a = i
          · rw [if_pos d4]
            exact ha (b - 1) (by omega) (by omega)
          · rw [if_neg d4]
            exact h4 (a - 1) (b - 1) (by omega) (by omega)
  refine ⟨⟨fun j hj => ?_, fun v hv => ?_, fun a b ha' hb' q => ?_⟩, srtd⟩
  · unfold ins1
    split
    · exact ⟨by have := (h1 j (by omega)).1; omega, (h1 j (by omega)).2⟩
    · split
      · refine ⟨by omega, fun v hv q => ?_⟩
        obtain ⟨k, hk, q2⟩ := h2 v hv
        exact hn k hk (q.symm.trans q2)
      · exact ⟨by have := (h1 (j - 1) (by omega)).1; omega, (h1 (j - 1) (by omega)).2⟩
  · by_cases d : v = w
    · subst d
      refine ⟨i, by omega, ?_⟩
      unfold ins1
      rw [if_neg (Nat.lt_irrefl _), if_pos rfl]
    · obtain ⟨k, hk, q⟩ := h2 v (by omega)
      rcases Nat.lt_or_ge k i with d1 | d1
      · refine ⟨k, by omega, ?_⟩
        unfold ins1
        rw [if_pos d1]; exact q
      · refine ⟨k + 1, by omega, ?_⟩
        unfold ins1
        rw [if_neg (by omega), if_neg (by omega), Nat.add_sub_cancel]; exact q
  · rcases Nat.lt_trichotomy a b with d | d | d
    · have := srtd a b d hb'; rw [q] at this; exact (i64_irr this).elim
    · exact d
    · have := srtd b a d ha'; rw [q] at this; exact (i64_irr this).elim
theorem Tab_le {κ : Nat → Int64} {w c c' : Nat} {lw lw' : Nat → Nat} (h : Tab κ w c lw) (h' : Tab κ w c' lw') : ∀ i, i < c → i < c' ∧ κ (lw i) = κ (lw' i) := by
  intro i
  induction i using Nat.strongRecOn with
  | _ i ih =>
    intro hi
    obtain ⟨⟨h1, h2, h3⟩, h4⟩ := h
    obtain ⟨⟨g1, g2, g3⟩, g4⟩ := h'
    obtain ⟨i', hi', e'⟩ := g2 (lw i) (h1 i hi).1
    have hge : i ≤ i' := by
      rcases Nat.lt_or_ge i' i with d | d
      · have := (ih i' d (by omega)).2
        rw [← this] at e'
        have := h3 i i' hi (by omega) e'
        omega
      · exact d
    have hc' : i < c' := by omega
    refine ⟨hc', ?_⟩
    rcases Nat.lt_or_eq_of_le hge with d | d
    · obtain ⟨i2, hi2, e2⟩ := h2 (lw' i) (g1 i hc').1
      have hge2 : i ≤ i2 := by
        rcases Nat.lt_or_ge i2 i with d2 | d2
        · have := (ih i2 d2 (by omega)).2
          rw [this] at e2
          have := g3 i i2 hc' (by omega) e2
          omega
        · exact d2
      have l1 := g4 i i' d hi'
      rw [← e', e2] at l1
      rcases Nat.lt_or_eq_of_le hge2 with d2 | d2
      · have l2 := h4 i i2 d2 hi2
        rw [lt64] at l1 l2
        omega
      · subst d2
        exact (i64_irr l1).elim
    · rw [d]; rw [d] at e'; exact e'
theorem Tab_uniq {κ : Nat → Int64} {w c c' : Nat} {lw lw' : Nat → Nat} (h : Tab κ w c lw) (h' : Tab κ w c' lw') : c = c' ∧ ∀ i, i < c → lw i = lw' i := by
  have a := Tab_le h h'
  have b := Tab_le h' h
  have hc : c = c' := by
    rcases Nat.lt_trichotomy c c' with d | d | d
    · have := (b c d).1; omega
    · exact d
    · have := (a c' d).1; omega
  refine ⟨hc, fun i hi => ?_⟩
  have e := (a i hi).2
  obtain ⟨⟨h1, -, -⟩, -⟩ := h
  obtain ⟨⟨g1, -, -⟩, -⟩ := h'
  rcases Nat.lt_trichotomy (lw i) (lw' i) with d | d | d
  · exact absurd e ((g1 i (by omega)).2 _ d)
  · exact d
  · exact absurd e.symm ((h1 i hi).2 _ d)
-- the exchange sort
def swp {α : Type} (f : Nat → α) (i j : Nat) : Nat → α := fun k => if k = i then f j else if k = j then f i else f k
theorem TabU_swp {κ : Nat → Int64} {w c : Nat} {lw : Nat → Nat} (h : TabU κ w c lw) {i j : Nat} (hi : i < c) (hj : j < c) : TabU κ w c (swp lw i j) := by
  obtain ⟨h1, h2, h3⟩ := h
  have im : ∀ k, k < c → ∃ k', k' < c ∧ swp lw i j k = lw k' ∧ (k' = if k = i then j else if k = j then i else k) := fun k hk => by
    unfold swp
    by_cases a : k = i
    · exact ⟨j, hj, by rw [if_pos a], by rw [if_pos a]⟩
    · by_cases b : k = j
      · exact ⟨i, hi, by rw [if_neg a, if_pos b], by rw [if_neg a, if_pos b]⟩
      · exact ⟨k, hk, by rw [if_neg a, if_neg b], by rw [if_neg a, if_neg b]⟩
  refine ⟨fun k hk => ?_, fun v hv => ?_, fun a b ha hb q => ?_⟩
  · obtain ⟨k', hk', e, -⟩ := im k hk
    rw [e]; exact h1 k' hk'
  · obtain ⟨k, hk, q⟩ := h2 v hv
    by_cases a : k = i
    · refine ⟨j, hj, ?_⟩
      unfold swp
      by_cases b : j = i
      · rw [if_pos b, b, ← a]; exact q
      · rw [if_neg b, if_pos rfl, ← a]; exact q
    · by_cases b : k = j
      · refine ⟨i, hi, ?_⟩
        unfold swp
        rw [if_pos rfl, ← b]; exact q
      · refine ⟨k, hk, ?_⟩
        unfold swp
        rw [if_neg a, if_neg b]; exact q
  · obtain ⟨a', ha', ea, fa⟩ := im a ha
    obtain ⟨b', hb', eb, fb⟩ := im b hb
    rw [ea, eb] at q
    have := h3 a' b' ha' hb' q
    rw [fa, fb] at this
    split at this <;> split at this <;> (try split at this) <;> (try split at this) <;> omega
def outI (κ : Nat → Int64) (c : Nat) (lw : Nat → Nat) (i : Nat) : Prop := ∀ a b, a < i → a < b → b < c → κ (lw b) < κ (lw a)
def inI (κ : Nat → Int64) (lw : Nat → Nat) (i j : Nat) : Prop := ∀ b, i < b → b < j → κ (lw b) < κ (lw i)
theorem outI_swp {κ : Nat → Int64} {c : Nat} {lw : Nat → Nat} {i j : Nat} (h : outI κ c lw i) (hij : i < j) (hj : j < c) : outI κ c (swp lw i j) i := by
  intro a b ha hab hb
  unfold swp
  rw [if_neg (show ¬ a = i by omega), if_neg (show ¬ a = j by omega)]
  split
  · exact h a j ha (by omega) hj
  · split
    · exact h a i ha (by omega) (by omega)
    · exact h a b ha hab hb
theorem inI_swp {κ : Nat → Int64} {lw : Nat → Nat} {i j : Nat} (h : inI κ lw i j) (hij : i < j) (hg : κ (lw i) < κ (lw j)) : inI κ (swp lw i j) i (j + 1) := by
  intro b h1 h2
  unfold swp
  rw [if_neg (show ¬ b = i by omega), if_pos rfl]
  split
  · exact hg
  · have := h b h1 (by omega)
    rw [lt64] at this hg ⊢
    omega
theorem inI_next {κ : Nat → Int64} {lw : Nat → Nat} {i j : Nat} (h : inI κ lw i j) (hg : κ (lw j) < κ (lw i)) : inI κ lw i (j + 1) := by
  intro b h1 h2
  by_cases d : b = j
  · subst d; exact hg
  · exact h b h1 (by omega)
theorem outI_next {κ : Nat → Int64} {c : Nat} {lw : Nat → Nat} {i : Nat} (h : outI κ c lw i) (h2 : inI κ lw i c) : outI κ c lw (i + 1) := by
  intro a b ha hab hb
  by_cases d : a = i
  · subst d; exact h2 b hab hb
  · exact h a b (by omega) hab hb
