-- the class's row of paths
def Lay (L : List Nat) (ad : Nat → Nat) (tP : Nat → Option Nat) : Prop := (∀ i, i < 40 → tP i = some (ad i) ∧ ad i ∈ L) ∧ ∀ i j, i < 40 → j < 40 → ad i = ad j → i = j
theorem lg_pos (x y : Int64) : 0 < lg_cmp x y ↔ y < x := by
  unfold lg_cmp
  by_cases c : x > y
  · rw [if_pos c]
    exact ⟨fun _ => c, fun _ => by decide⟩
  · rw [if_neg c]
    refine ⟨fun h => ?_, fun h => absurd h c⟩
    split at h <;> exact absurd h (by decide)
theorem fnao {n : Nat} (hn : 100 < n) {L : List Nat} {ad : Nat → Nat} {tI : Nat → Int32} {tP : Nat → Option Nat} {qJ : Nat → Nat → Int64} (hl : Lay L ad tP) {c : Nat} (hc : c ≤ 40) (h0 : tI 0 = nI c) (x : Int64) : ∃ i, i ≤ c ∧ f_X0_firstNotAheadOf n L x tI tP qJ = some (nI i, ()) ∧ (∀ j, j < i → x < qJ (ad j) 1) ∧ (i < c → ¬ x < qJ (ad i) 1) := by
  unfold f_X0_firstNotAheadOf
  obtain ⟨r, h1, i, h2, h3, h4, h5⟩ := lp_post (body := f_X0_firstNotAheadOf_l2 n L x tI tP qJ) (I := fun (v : Int32) => ∃ k, k ≤ c ∧ v = nI k ∧ ∀ j, j < k → x < qJ (ad j) 1) (Q := fun _ (r : Int32 × Unit) => ∃ i, i ≤ c ∧ r = (nI i, ()) ∧ (∀ j, j < i → x < qJ (ad j) 1) ∧ (i < c → ¬ x < qJ (ad i) 1)) (μ := fun (v : Int32) => 50 - v.toNatClampNeg) (by
    rintro rec v ⟨k, hk, rfl, hk2⟩ ih
    unfold f_X0_firstNotAheadOf_l2 f_X0_firstNotAheadOf_b32
    try dsimp only
    rw [h0]
    by_cases d : k = c
    · subst d
      rw [if_pos (Int32.le_refl _)]
      exact ⟨_, rfl, k, Nat.le_refl _, rfl, hk2, fun q => absurd q (Nat.lt_irrefl _)⟩
    · have ck : (nI k).toNatClampNeg = k := nI_clamp (by omega)
      have ck2 : (nI (k + 1)).toNatClampNeg = k + 1 := nI_clamp (by omega)
      obtain ⟨e1, e2⟩ := hl.1 k (by omega)
      rw [if_neg (nI_ge (a := k) (b := c) (by omega) (by omega)), if_pos (inb_lt (show k < 40 by omega) (by decide)), ck, e1]
      simp only [Option.bind_some]
      rw [if_pos e2]
      by_cases f : x < qJ (ad k) 1
      · rw [if_pos ((lg_pos _ _).mpr f), nI_1]
        exact ih _ ⟨k + 1, by omega, rfl, fun j hj => by
          by_cases g : j = k
          · subst g; exact f
          · exact hk2 j (by omega)⟩ (by rw [ck, ck2]; omega)
      · rw [if_neg (fun q => f ((lg_pos _ _).mp q))]
        exact ⟨_, rfl, k, hk, rfl, hk2, fun _ => f⟩) n 0 ⟨0, Nat.zero_le _, rfl, fun j hj => absurd hj (Nat.not_lt_zero j)⟩ (by show 50 - _ < n; omega)
  exact ⟨i, h2, by rw [← h3]; exact h1, h4, h5⟩
def insA (ad : Nat → Nat) (i c : Nat) : Nat → Nat := fun j => if j = i then ad c else if i < j ∧ j ≤ c then ad (j - 1) else ad j
theorem insA_inj {ad : Nat → Nat} {i c : Nat} (hi : i ≤ c) (hc : c < 40) (h : ∀ i j, i < 40 → j < 40 → ad i = ad j → i = j) : ∀ a b, a < 40 → b < 40 → insA ad i c a = insA ad i c b → a = b := by
  intro a b ha hb e
  have idx : ∀ a, a < 40 → ∃ a', a' < 40 ∧ insA ad i c a = ad a' ∧ (a' = if a = i then c else if i < a ∧ a ≤ c then a - 1 else a) := fun a ha => by
    unfold insA
    split
    · exact ⟨c, hc, rfl, rfl⟩
    · split
      · exact ⟨a - 1, by omega, rfl, rfl⟩
      · exact ⟨a, ha, rfl, rfl⟩
  obtain ⟨a', h1, h2, h3⟩ := idx a ha
  obtain ⟨b', g1, g2, g3⟩ := idx b hb
  have := h a' b' h1 g1 (by rw [← h2, ← g2]; exact e)
  rw [h3, g3] at this
  split at this <;> split at this <;> (try split at this) <;> (try split at this) <;> omega
theorem insertAt_eq {n : Nat} (hn : 100 < n) {L : List Nat} {ad : Nat → Nat} {tI : Nat → Int32} {tP : Nat → Option Nat} (hl : Lay L ad tP) {c i : Nat} (hc : c < 40) (hi : i ≤ c) (h0 : tI 0 = nI c) : ∃ tP', f_X0_insertAt n L (nI i) tI tP = some (some (ad c), (upd tI 0 (nI (c + 1)), tP')) ∧ Lay L (insA ad i c) tP' := by
  unfold f_X0_insertAt
  have cc : (nI c).toNatClampNeg = c := nI_clamp (by omega)
  obtain ⟨e1, e2⟩ := hl.1 c hc
  rw [h0, if_pos (inb_lt hc (by decide)), cc, e1]
  simp only [Option.bind_some]
  rw [if_pos e2]
  have loop : ∀ (N k : Nat) (tQ : Nat → Option Nat), i ≤ k → k ≤ c → k - i < N → (∀ j, j < 40 → tQ j = if k < j ∧ j ≤ c then some (ad (j - 1)) else some (ad j)) → ∃ tP', lp (f_X0_insertAt_l15 n L (nI i) (ad c) tI) N (nI k, tQ) = some (some (ad c), (upd tI 0 (nI (c + 1)), tP')) ∧ Lay L (insA ad i c) tP' := by
    intro N
    induction N with
    | zero => intro k tQ h1 h2 h3; omega
    | succ N ih =>
      intro k tQ h1 h2 h3 h4
      rw [lp_succ]
      unfold f_X0_insertAt_l15
      dsimp only
      have ci : (nI i).toNatClampNeg = i := nI_clamp (by omega)
      by_cases d : k = i
      · subst d
        rw [if_pos (Int32.le_refl _)]
        unfold f_X0_insertAt_b40
        rw [if_pos (inb_lt (show k < 40 by omega) (by decide)), if_pos e2, h0, nI_1, ci]
        refine ⟨_, rfl, fun j hj => ?_, insA_inj hi hc hl.2⟩
        unfold va_up insA
        by_cases a : j = k
        · rw [if_pos a, if_pos a]; exact ⟨rfl, e2⟩
        · rw [if_neg a, if_neg a, h4 j hj]
          by_cases b : k < j ∧ j ≤ c
          · rw [if_pos b, if_pos b]; exact ⟨rfl, (hl.1 (j - 1) (by omega)).2⟩
          · rw [if_neg b, if_neg b]; exact ⟨rfl, (hl.1 j hj).2⟩
      · rw [if_neg (nI_ge (a := i) (b := k) (by omega) (by omega))]
        obtain ⟨k', rfl⟩ : ∃ k', k = k' + 1 := ⟨k - 1, by omega⟩
        have ck : (nI (k' + 1)).toNatClampNeg = k' + 1 := nI_clamp (by omega)
        have ck' : (nI k').toNatClampNeg = k' := nI_clamp (by omega)
        rw [nI_pred, if_pos (inb_lt (show k' < 40 by omega) (by decide)), ck', h4 k' (by omega), if_neg (by omega)]
        simp only [Option.bind_some]
        rw [if_pos (hl.1 k' (by omega)).2, if_pos (inb_lt (show k' + 1 < 40 by omega) (by decide)), pk_m1, ck]
        refine ih k' _ (by omega) (by omega) (by omega) (fun j hj => ?_)
        unfold va_up
        by_cases a : j = k' + 1
        · rw [if_pos a, if_pos (by omega)]
          congr 2
          omega
        · rw [if_neg a, h4 j hj]
          by_cases b : k' + 1 < j ∧ j ≤ c
          · rw [if_pos b, if_pos (by omega)]
          · rw [if_neg b, if_neg (by omega)]
  exact loop n c tP hi (Nat.le_refl _) (by omega) (fun j hj => by rw [if_neg (by omega)]; exact (hl.1 j hj).1)
