-- the inputs of a program
def sm (wd : Nat → Nat) : Nat → Nat
  | 0 => 0
  | n + 1 => sm wd n + wd n
theorem sm_mono (wd : Nat → Nat) {a b : Nat} (h : a ≤ b) : sm wd a ≤ sm wd b := by
  induction b with
  | zero => have : a = 0 := by omega
            subst this; exact Nat.le_refl _
  | succ b ih =>
    by_cases c : a = b + 1
    · subst c; exact Nat.le_refl _
    · have := ih (by omega)
      show _ ≤ sm wd b + wd b
      omega
theorem shk : ∀ l, l < 32 → ((nI l &&& 31).toBitVec.smod 32).toNat = l := by decide +kernel
def inpF (k : Nat) (wd : Nat → Nat) (sg : Nat → Int32) (w : Nat) (y : Int32) : Int32 :=
  if sg (ix y) = 0 then nI (w / 2 ^ (sm wd k - sm wd (ix y + 1)) % 2 ^ wd (ix y)) else inpS (w / 2 ^ (sm wd k - sm wd (ix y + 1))) (wd (ix y))
/-- the inputs as the class holds them -/
def cIn (k : Nat) (wd : Nat → Nat) (sg : Nat → Int32) (pI : Nat → Int32) (pA : Nat → Nat → Int32) : Prop :=
  k ≤ 4 ∧ sm wd k ≤ 12 ∧ pI 0 = nI k ∧ pI 1 = nI (sm wd k) ∧ ∀ j, j < k → 1 ≤ wd j ∧ wd j ≤ 12 ∧ pA 0 j = nI (wd j) ∧ pA 1 j = nI (sm wd (j + 1)) ∧ pA 2 j = sg j
/-- the inputs as the model holds them -/
def mIn (k : Nat) (wd : Nat → Nat) (sg : Nat → Int32) (i1 : Int32) (w0 s0 : Nat → Int32) : Prop :=
  k ≤ 4 ∧ sm wd k ≤ 12 ∧ i1 = nI k ∧ ∀ j, j < k → 1 ≤ wd j ∧ wd j ≤ 12 ∧ w0 j = nI (wd j) ∧ s0 j = sg j
theorem w_lt {w b : Nat} (h : w < 2 ^ b) (hb : b ≤ 12) : w < 4096 := Nat.lt_of_lt_of_le h (Nat.pow_le_pow_right (n := 2) (by decide) hb)
theorem inputIn_eq {k : Nat} {wd : Nat → Nat} {sg : Nat → Int32} {pI : Nat → Int32} {pA : Nat → Nat → Int32} (h : cIn k wd sg pI pA) {w j : Nat} (hw : w < 2 ^ sm wd k) (hj : j < k) : f_X3_inputIn (nI w) (nI j) pI pA = some (inpF k wd sg w (nI j), ()) := by
  obtain ⟨h1, h2, h3, h4, h5⟩ := h
  obtain ⟨a1, a2, a3, a4, a5⟩ := h5 j hj
  have hm := sm_mono wd (show j + 1 ≤ k by omega)
  have cj : (nI j).toNatClampNeg = j := nI_clamp (by omega)
  have hw2 := w_lt hw h2
  unfold f_X3_inputIn
  rw [if_pos (inb_lt (show j < 4 by omega) (by decide)), if_pos (inb_lt (show j < 4 by omega) (by decide))]
  simp only [Option.bind_some, cj, a3, a4, a5, h4]
  rw [if_pos (inb_lt (show j < 4 by omega) (by decide)), pk_sub hm, pk_shrN (by omega) _ _ (shk _ (by omega))]
  have hv : w / 2 ^ (sm wd k - sm wd (j + 1)) < 4096 := Nat.lt_of_le_of_lt (Nat.div_le_self _ _) hw2
  obtain ⟨c1, c2⟩ := cin (v := w / 2 ^ (sm wd k - sm wd (j + 1))) hv a1 a2
  rw [c1, c2]
  unfold inpF
  rw [show ix (nI j) = j from cj]
  split <;> rfl
theorem inputOf_eq {k : Nat} {wd : Nat → Nat} {sg : Nat → Int32} {rI : Nat → Int32} {rA : Nat → Nat → Int32} (h : mIn k wd sg (rI 1) (rA 0) (rA 1)) {n : Nat} (hn : 100 < n) {K : List Nat} {w j : Nat} (hw : w < 2 ^ sm wd k) (hj : j < k) : f_X5_inputOf n K (nI w) (nI j) rI rA = some (inpF k wd sg w (nI j), ()) := by
  obtain ⟨h1, h2, h3, h5⟩ := h
  have hm := sm_mono wd (show j + 1 ≤ k by omega)
  have cj : (nI j).toNatClampNeg = j := nI_clamp (by omega)
  have hw2 := w_lt hw h2
  have last : f_X5_inputOf_b32 n K (nI w) (nI j) (nI (sm wd k - sm wd (j + 1))) rI rA = some (inpF k wd sg w (nI j), ()) := by
    obtain ⟨a1, a2, a3, a5⟩ := h5 j hj
    unfold f_X5_inputOf_b32
    simp only [inb_lt (show j < 4 by omega) (show 4 < 2 ^ 31 by decide), if_true, Option.bind_some, cj, a3, a5]
    rw [pk_shrN (by omega) _ _ (shk _ (by omega))]
    have hv : w / 2 ^ (sm wd k - sm wd (j + 1)) < 4096 := Nat.lt_of_le_of_lt (Nat.div_le_self _ _) hw2
    obtain ⟨c1, c2⟩ := minp (v := w / 2 ^ (sm wd k - sm wd (j + 1))) hv a1 a2
    rw [c1]
    unfold inpF
    rw [show ix (nI j) = j from cj]
    by_cases c : sg j = 0
    · rw [if_pos c, if_pos c]
    · rw [if_neg c, if_neg c, ← c2]
      split <;> rfl
  unfold f_X5_inputOf
  rw [nI_1]
  refine lp_run (I := fun (v : Int32 × Int32) => ∃ i, j + 1 ≤ i ∧ i ≤ k ∧ v = (nI (sm wd i - sm wd (j + 1)), nI i)) (F := fun _ => some (inpF k wd sg w (nI j), ())) (μ := fun (v : Int32 × Int32) => 10 - v.2.toNatClampNeg) ?_ n _ ⟨j + 1, Nat.le_refl _, by omega, by rw [Nat.sub_self]; rfl⟩ ?_
  · rintro rec v ⟨i, hi1, hi2, rfl⟩ ih
    unfold f_X5_inputOf_l7
    dsimp only
    rw [h3]
    by_cases c : i = k
    · subst c
      rw [if_pos (Int32.le_refl _)]
      exact last
    · have ci : (nI i).toNatClampNeg = i := nI_clamp (by omega)
      have ci2 : (nI (i + 1)).toNatClampNeg = i + 1 := nI_clamp (by omega)
      have hmi := sm_mono wd hi1
      rw [if_neg (nI_ge (a := i) (b := k) (by omega) (by omega)), if_pos (inb_lt (show i < 4 by omega) (by decide)), ci, (h5 i (by omega)).2.2.1, nI_add, nI_1]
      have e : sm wd i - sm wd (j + 1) + wd i = sm wd (i + 1) - sm wd (j + 1) := by
        show _ = sm wd i + wd i - sm wd (j + 1)
        omega
      rw [e]
      exact ih _ ⟨i + 1, by omega, by omega, rfl⟩ (by dsimp only; rw [ci, ci2]; omega)
  · show 10 - _ < n
    omega
-- the words
theorem pw_lt : ∀ b, b ≤ 12 → (1 : Int32) <<< (nI b &&& 31) = nI (2 ^ b) := by decide +kernel
theorem words3 {pI : Nat → Int32} {b : Nat} (h : pI 1 = nI b) (hb : b ≤ 12) : f_X3_words pI = some (nI (2 ^ b), ()) := by
  unfold f_X3_words
  rw [h, pw_lt b hb]
theorem words5 {rI : Nat → Int32} {b : Nat} (h : rI 2 = nI b) (hb : b ≤ 12) (K : List Nat) : f_X5_words K rI = some (nI (2 ^ b), ()) := by
  unfold f_X5_words
  rw [h, pw_lt b hb]
theorem pw12 {b : Nat} (hb : b ≤ 12) : 2 ^ b ≤ 4096 := Nat.pow_le_pow_right (n := 2) (by decide) hb
theorem word_or (x : Int32) {b : Nat} (hb : b ≤ 12) : (∃ w, w < 2 ^ b ∧ x = nI w) ∨ (¬ (¬ x < 0 ∧ ¬ nI (2 ^ b) ≤ x)) := by
  by_cases c : x < 0
  · exact Or.inr (fun q => q.1 c)
  · obtain ⟨j, hj, rfl⟩ := nI_of c
    have := pw12 hb
    by_cases d : j < 2 ^ b
    · exact Or.inl ⟨j, d, rfl⟩
    · exact Or.inr (fun q => q.2 (nI_le (by omega) hj))
theorem hasWord_eq {pI : Nat → Int32} {b : Nat} (h : pI 1 = nI b) (hb : b ≤ 12) (x : Int32) : f_X3_hasWord x pI = some ((if ¬ x < 0 ∧ ¬ nI (2 ^ b) ≤ x then 1 else 0), ()) := by
  unfold f_X3_hasWord
  rw [words3 h hb]
  by_cases c : x < 0
  · simp [c]
  · by_cases d : nI (2 ^ b) ≤ x <;> simp [c, d]
theorem isWord_eq {rI : Nat → Int32} {b : Nat} (h : rI 2 = nI b) (hb : b ≤ 12) (K : List Nat) (x : Int32) : f_X5_isWord K x rI = some ((if ¬ x < 0 ∧ ¬ nI (2 ^ b) ≤ x then 1 else 0), ()) := by
  unfold f_X5_isWord
  rw [words5 h hb]
  by_cases c : x < 0
  · simp [c]
  · by_cases d : nI (2 ^ b) ≤ x <;> simp [c, d]
