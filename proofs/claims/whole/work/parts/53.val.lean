-- what stays while a run goes; value
theorem wf1 {pc ins : Nat} {k x y z : Int32} (h : wfI pc k x y z ins) (e : k = 1) : ∃ j, j < ins ∧ y = nI j := by
  subst e
  rcases h with ⟨h1, -⟩ | ⟨-, -, h2⟩ | ⟨h1, -⟩ | ⟨h1, -⟩ | ⟨h1, -⟩ | ⟨h1, -⟩ | ⟨h1, -⟩
  · exact absurd h1 (by decide)
  · exact h2
  · exact absurd h1 (by decide)
  · exact absurd h1 (by decide)
  · exact absurd h1 (by decide)
  · exact absurd h1 (by decide)
  · exact absurd h1 (by decide)
theorem pOk_of {k : Nat} {wd : Nat → Nat} {sg : Nat → Int32} {P : Nat → Nat → Int32} {z : Nat} {pI : Nat → Int32} {pA : Nat → Nat → Int32} {rI : Nat → Int32} {rA : Nat → Nat → Int32} (h : InvP k wd sg P z pI pA rI rA) {w : Nat} (hw : w < 2 ^ sm wd k) : pOk P z k (inpF k wd sg w) (nI w) pI pA := by
  obtain ⟨h1, h2, h3, h4, h5, h6, h7, h8, h9, -⟩ := h
  refine ⟨h4, h5, h7, h9, fun pc hpc e => ?_⟩
  obtain ⟨j, hj, ey⟩ := wf1 (h9 pc hpc) e
  rw [ey]
  exact inputIn_eq h1 hw hj
theorem mP_of {k : Nat} {wd : Nat → Nat} {sg : Nat → Int32} {P : Nat → Nat → Int32} {z : Nat} {pI : Nat → Int32} {pA : Nat → Nat → Int32} {rI : Nat → Int32} {rA : Nat → Nat → Int32} (h : InvP k wd sg P z pI pA rI rA) : mP P z (rI 1) (rA 0) (rA 1) rI rA := by
  obtain ⟨h1, h2, h3, h4, h5, h6, h7, h8, h9, -⟩ := h
  exact ⟨h6, rfl, rfl, rfl, h8⟩
theorem hin_of {n : Nat} (hn : 100 < n) {K : List Nat} {k : Nat} {wd : Nat → Nat} {sg : Nat → Int32} {P : Nat → Nat → Int32} {z : Nat} {pI : Nat → Int32} {pA : Nat → Nat → Int32} {rI : Nat → Int32} {rA : Nat → Nat → Int32} (h : InvP k wd sg P z pI pA rI rA) {w : Nat} (hw : w < 2 ^ sm wd k) : ∀ (rJ : Nat → Int32) (rB : Nat → Nat → Int32), mP P z (rI 1) (rA 0) (rA 1) rJ rB → ∀ pc, pc < z → P 0 pc = 1 → f_X5_inputOf n K (nI w) (P 2 pc) rJ rB = some (inpF k wd sg w (P 2 pc), ()) := by
  obtain ⟨h1, h2, h3, h4, h5, h6, h7, h8, h9, -⟩ := h
  intro rJ rB ⟨m1, m2, m3, m4, m5⟩ pc hpc e
  obtain ⟨j, hj, ey⟩ := wf1 (h9 pc hpc) e
  rw [ey]
  exact inputOf_eq (by rw [m2, m3, m4]; exact h2) hn hw hj
theorem InvP_keep {k : Nat} {wd : Nat → Nat} {sg : Nat → Int32} {P : Nat → Nat → Int32} {z : Nat} {pI : Nat → Int32} {pA : Nat → Nat → Int32} {rI rI' : Nat → Int32} {rA rA' : Nat → Nat → Int32} (h : InvP k wd sg P z pI pA rI rA) (hI : ∀ j, j < 6 → rI' j = rI j) (hA : ∀ t, t < 6 → rA' t = rA t) : InvP k wd sg P z pI pA rI' rA' := by
  obtain ⟨h1, h2, h3, h4, h5, h6, h7, h8, h9, h10⟩ := h
  unfold InvP
  rw [hI 1 (by decide), hI 2 (by decide), hI 3 (by decide), hI 4 (by decide), hI 5 (by decide), hA 0 (by decide), hA 1 (by decide), hA 2 (by decide), hA 3 (by decide), hA 4 (by decide), hA 5 (by decide)]
  exact ⟨h1, h2, h3, h4, h5, h6, h7, h8, h9, h10⟩
theorem InvR_keep {k : Nat} {wd : Nat → Nat} {sg : Nat → Int32} {P : Nat → Nat → Int32} {z : Nat} {bI vI : Nat → Int32} {vJ : Nat → Int64} {vA : Nat → Nat → Int32} {rI rI' : Nat → Int32} {rA rA' : Nat → Nat → Int32} (h : InvR k wd sg P z bI vI vJ vA rI rA) (hI : ∀ j, 11 < j → rI' j = rI j) (hA : ∀ t, 16 < t → rA' t = rA t) : InvR k wd sg P z bI vI vJ vA rI' rA' := by
  unfold InvR at h ⊢
  rw [hI 12 (by decide), hI 13 (by decide), hI 14 (by decide), hI 15 (by decide), hI 16 (by decide), hI 17 (by decide), hI 18 (by decide), hI 19 (by decide), hA 17 (by decide), hA 18 (by decide)]
  exact h
theorem mTab_keep {T : Nat → TR} {κ : Nat → Int64} {w c : Nat} {lw ga : Nat → Nat} {rA rA' rR : Nat → Nat → Int32} (h : mTab T κ w c lw ga rA rR) (hA : ∀ t, t < 13 → rA' t = rA t) (h13 : ∀ p, p < 60 → rA' 13 p = rA 13 p) : mTab T κ w c lw ga rA' rR := by
  obtain ⟨h1, h2, h3, h4, h5⟩ := h
  refine ⟨h1, h2, fun i hi => ?_, ?_, fun p hp => by rw [h13 p hp]; exact h5 p hp⟩
  · unfold mRow
    rw [hA 6 (by decide), hA 7 (by decide), hA 8 (by decide), hA 9 (by decide), hA 10 (by decide)]
    exact h3 i hi
  · rw [hA 11 (by decide), hA 12 (by decide)]
    exact h4
theorem InvT_keep {k : Nat} {wd : Nat → Nat} {sg : Nat → Int32} {P : Nat → Nat → Int32} {z : Nat} {L : List Nat} {ga : Nat → Nat} {tI : Nat → Int32} {tJ : Nat → Int64} {tP : Nat → Option Nat} {tO : Nat → Int64} {tR : Nat → Int32} {qI : Nat → Nat → Int32} {qJ : Nat → Nat → Int64} {rI rI' : Nat → Int32} {rA rA' rR : Nat → Nat → Int32} (h : InvT k wd sg P z L ga tI tJ tP tO tR qI qJ rI rA rR) (hI : rI' 6 = rI 6) (hA : ∀ t, t < 13 → rA' t = rA t) (h13 : ∀ p, p < 60 → rA' 13 p = rA 13 p) : InvT k wd sg P z L ga tI tJ tP tO tR qI qJ rI' rA' rR := by
  rcases h with ⟨h1, h2, h3⟩ | ⟨κ, c, lw, ad, hc0, hk, hC, hM, h6⟩
  · exact Or.inl ⟨h1, by rw [hI]; exact h2, h3⟩
  · exact Or.inr ⟨κ, c, lw, ad, hc0, hk, hC, mTab_keep hM hA h13, by rw [hI]; exact h6⟩
/-- what a run of the model that marks nothing leaves -/
theorem yR_keep {t : TR} {rI rI' : Nat → Int32} {rA rA' : Nat → Nat → Int32} (h : yRan t 0 rI rI' rA rA') : (∀ j, j < 7 ∨ 11 < j → rI' j = rI j) ∧ (∀ j, j < 13 ∨ 16 < j → rA' j = rA j) ∧ ∀ p, rA' 13 p = rA 13 p := by
  obtain ⟨-, -, -, -, -, -, -, -, h9, h10, h11⟩ := h
  exact ⟨h9, fun j hj => h10 j (by omega) (by omega) (by omega) (by omega), fun p => by rw [h11 p, if_neg (fun q => q.1 rfl)]⟩
theorem a_value {n : Nat} (hn : 5000 < n) {L K : List Nat} {rG : Nat → Option Nat} {bI pI : Nat → Int32} {pA : Nat → Nat → Int32} {tI : Nat → Int32} {tJ : Nat → Int64} {tP : Nat → Option Nat} {tO : Nat → Int64} {tR vI : Nat → Int32} {vJ : Nat → Int64} {vA qI : Nat → Nat → Int32} {qJ : Nat → Nat → Int64} {rI : Nat → Int32} {rA rR : Nat → Nat → Int32} (h : Inv L K rG bI pI pA tI tJ tP tO tR vI vJ vA qI qJ rI rA rR) (u1 u2 : Int32) (mI : Nat → Int32) (mJ : Nat → Int64) (mA : Nat → Nat → Int32) : ∃ r mI' mJ' mA' rI' rA', f_X4_value n L u1 u2 pI pA tI tP mI mJ mA qJ = some (r, (mI', mJ', mA')) ∧ f_X5_value n K u1 u2 rI rA rG rR = some (r, (rI', rA')) ∧ Inv L K rG bI pI pA tI tJ tP tO tR vI vJ vA qI qJ rI' rA' rR := by
  obtain ⟨k, wd, sg, P, z, ga, hg, hP, hR, hT⟩ := h
  have hP0 := hP
  obtain ⟨⟨-, hb, -, p1, -⟩, -, r2, hz, -, -, -, -, hw, -⟩ := hP0
  unfold f_X4_value f_X5_value
  rcases at_or (K := K) hT u1 with ⟨e1, e2⟩ | ⟨κ, c, lw, ad, i, hi, hc, rfl, hk, hC, hM, e1, hL, e2⟩
  · rw [e1, e2]
    simp only [Option.bind_some, if_true]
    exact ⟨_, _, _, _, _, _, rfl, rfl, k, wd, sg, P, z, ga, hg, hP, hR, hT⟩
  · rw [e1, e2]
    simp only [Option.bind_some]
    rw [if_neg ne10, hasWord_eq p1 hb, isWord_eq r2 hb]
    simp only [Option.bind_some]
    rcases word_or u2 hb with ⟨w, hw2, rfl⟩ | no
    · have h12 := pw12 hb
      have yes : ¬ nI w < 0 ∧ ¬ nI (2 ^ sm wd k) ≤ nI w := ⟨Int32.not_lt.mpr (nI_le (a := 0) (b := w) (by omega) (by omega)), nI_ge hw2 (by omega)⟩
      have ci : (nI i).toNatClampNeg = i := nI_clamp (by omega)
      obtain ⟨g1, g2⟩ := hg.1 i (by omega)
      rw [if_pos yes, if_neg ne10, if_neg ne10, if_pos (inb_lt (show i < 40 by omega) (by decide)), ci, g1]
      simp only [Option.bind_some]
      rw [if_pos g2]
      have hgd : enc (qJ (ad i) 1) (inO (TT k wd sg P z (lw i)).1) := by
        rw [(hC.2.2.2.2.1 i hi).2.2.2.2.2.2]
        exact hk.1 (lw i)
      obtain ⟨mI', mJ', mA', x1, x2⟩ := exec1 (pOk_of hP hw2) (show 100 < n by omega) hL hgd mI mJ mA
      have hrun := (run_guided hz hw (inpF k wd sg (lw i)) (inpF k wd sg w)).1
      obtain ⟨rI', rA', y1, y2⟩ := go1_ok (n := n) (K := K) (u1 := nI w) (u3 := 0) (rR := rR) hz hw (hin_of (by omega) hP hw2) (by omega) g2 (hM.2.2.1 i hi).2.2.2.2.2 hrun (mP_of hP)
      rw [x1, y1]
      simp only [Option.bind_some]
      obtain ⟨k1, k2, k3⟩ := yR_keep y2
      refine ⟨_, _, _, _, _, _, rfl, by rw [x2.2.2.1, y2.2.2.1]; rfl, k, wd, sg, P, z, ga, hg, InvP_keep hP (fun j hj => k1 j (by omega)) (fun t ht => k2 t (by omega)), InvR_keep hR (fun j hj => k1 j (by omega)) (fun t ht => k2 t (by omega)), InvT_keep hT (k1 6 (by omega)) (fun t ht => k2 t (by omega)) (fun p _ => k3 p)⟩
    · rw [if_neg no, if_pos rfl, if_pos rfl]
      exact ⟨_, _, _, _, _, _, rfl, rfl, k, wd, sg, P, z, ga, hg, hP, hR, hT⟩
-- find
def wants (r u2 u3 : Int32) : Bool := if u2 = 0 then decide (r = u3) else if u2 = 1 then decide (¬ r = u3) else if u2 = 2 then decide (un r < un u3) else if u2 = 3 then decide (r < u3) else false
theorem isWanted_eq (r u2 u3 : Int32) : f_X0_isWanted r u2 u3 = some ((if wants r u2 u3 then 1 else 0), ()) := by
  unfold f_X0_isWanted wants
  by_cases c0 : u2 = 0
  · simp only [if_pos c0]
    by_cases d : r = u3 <;> simp [d]
  simp only [if_neg c0]
  by_cases c1 : u2 = 1
  · simp only [if_pos c1]
    by_cases d : r = u3 <;> simp [d]
  simp only [if_neg c1]
  by_cases c2 : u2 = 2
  · simp only [if_pos c2]
    rw [isBelowU_eq]
    by_cases d : un r < un u3 <;> simp [d]
  simp only [if_neg c2]
  by_cases c3 : u2 = 3
  · simp only [if_pos c3]
    by_cases d : u3 ≤ r
    · have : ¬ r < u3 := Int32.not_lt.mpr d
      simp [d, this]
    · have : r < u3 := Int32.not_le.mp d
      simp [d, this]
  simp only [if_neg c3]
  rfl
theorem b64_eq {n : Nat} {K : List Nat} {rc : Int32 → Option (Int32 × Unit)} {x1 x2 x3 x4 x5 : Int32} {rI : Nat → Int32} {rA : Nat → Nat → Int32} (h0 : ¬ (x2 = 0 ∧ x5 = x3)) (hx : x2 = 0 ∨ x2 = 1 ∨ x2 = 2 ∨ x2 = 3) : f_X5_find_b64 n K rc x1 x2 x3 x4 x5 rI rA = if wants x5 x2 x3 then some (x4, ()) else rc (x4 + 1) := by
  unfold f_X5_find_b64 f_X5_find_b75 f_X5_find_b89 f_X5_find_b103 wants
  rw [isBelow_eq]
  rcases hx with rfl | rfl | rfl | rfl
  · have : ¬ x5 = x3 := fun q => h0 ⟨rfl, q⟩
    simp [this]
  · by_cases d : x5 = x3 <;> simp [d]
  · by_cases d : un x5 < un x3 <;> simp [d]
  · by_cases d : x3 ≤ x5
    · have : ¬ x5 < x3 := Int32.not_lt.mpr d
      simp [d, this]
    · have : x5 < x3 := Int32.not_le.mp d
      simp [d, this]
/-- the least word with a property, searched from a word on -/
def lst (f : Nat → Bool) (W : Nat) : Nat → Nat → Int32
  | 0, _ => -1
  | N + 1, w => if W ≤ w then -1 else if f w then nI w else lst f W N (w + 1)
theorem lst_more {f : Nat → Bool} {W : Nat} : ∀ (N N' w : Nat), W - w < N → W - w < N' → lst f W N w = lst f W N' w
  | 0, _, w, h, _ => absurd h (Nat.not_lt_zero _)
  | _, 0, w, _, h => absurd h (Nat.not_lt_zero _)
  | N + 1, N' + 1, w, h, h' => by
    unfold lst
    by_cases c : W ≤ w
    · rw [if_pos c, if_pos c]
    · rw [if_neg c, if_neg c, lst_more N N' (w + 1) (by omega) (by omega)]
theorem lst_skip {f : Nat → Bool} {W : Nat} (N : Nat) : ∀ (d w : Nat), w + d ≤ W → W - w < N → (∀ v, w ≤ v → v < w + d → f v = false) → lst f W N w = lst f W N (w + d)
  | 0, w, _, _, _ => rfl
  | d + 1, w, h1, h2, h3 => by
    obtain ⟨M, rfl⟩ : ∃ M, N = M + 1 := ⟨N - 1, by omega⟩
    have e : lst f W (M + 1) w = lst f W M (w + 1) := by
      show (if W ≤ w then -1 else if f w then nI w else lst f W M (w + 1)) = _
      rw [if_neg (by omega), h3 w (Nat.le_refl _) (by omega)]
      rfl
    rw [e, lst_more M (M + 1) (w + 1) (by omega) (by omega), lst_skip (M + 1) d (w + 1) (by omega) (by omega) (fun v h4 h5 => h3 v (by omega) (by omega)), show w + 1 + d = w + (d + 1) by omega]
theorem a_find {n : Nat} (hn : 5000 < n) {L K : List Nat} {rG : Nat → Option Nat} {bI pI : Nat → Int32} {pA : Nat → Nat → Int32} {tI : Nat → Int32} {tJ : Nat → Int64} {tP : Nat → Option Nat} {tO : Nat → Int64} {tR vI : Nat → Int32} {vJ : Nat → Int64} {vA qI : Nat → Nat → Int32} {qJ : Nat → Nat → Int64} {rI : Nat → Int32} {rA rR : Nat → Nat → Int32} (h : Inv L K rG bI pI pA tI tJ tP tO tR vI vJ vA qI qJ rI rA rR) (u1 u2 u3 : Int32) : ∃ r, f_X4_find n L u1 u2 u3 pI tI tP tO tR qI qJ = some (r, ()) ∧ f_X5_find n K u1 u2 u3 rI rA = some (r, ()) := by
  obtain ⟨k, wd, sg, P, z, ga, hg, hP, hR, hT⟩ := h
  obtain ⟨⟨-, hb, -, p1, -⟩, -, r2, hz, -, -, -, -, hw, -⟩ := hP
  have h12 := pw12 hb
  unfold f_X4_find f_X5_find
  rcases at_or (K := K) hT u1 with ⟨e1, e2⟩ | ⟨κ, c, lw, ad, i, hi, hc, rfl, hk, hC, hM, e1, hL, e2⟩
  · rw [e1, e2]
    simp only [Option.bind_some, if_true]
    exact ⟨_, rfl, rfl⟩
  · rw [e1, e2]
    simp only [Option.bind_some]
    rw [if_neg ne10, words3 p1 hb]
    simp only [Option.bind_some]
    have hlw := (hC.1.1.1 i hi).1
    have hle := (hC.1.1.1 i hi).2
    have q2 := (hC.2.2.2.2.1 i hi).2.2.1
    have hC6 := hC.2.2.2.2.2.1
    have k6 := (hC.2.2.2.2.1 i hi).2.2.2.2.2.2
    obtain ⟨f, hf⟩ : ∃ f : Nat → Bool, f = fun w => decide (κ w = κ (lw i)) && wants (resT (TT k wd sg P z w)) u2 u3 := ⟨_, rfl⟩
    have A : ∀ (N w : Nat), w ≤ 2 ^ sm wd k → 2 ^ sm wd k - w < N → lp (f_X0_leastWordWith_l6 n L (ad i) u2 u3 (nI (2 ^ sm wd k)) tO tR qI qJ) N (nI w) = some (lst f (2 ^ sm wd k) N w, ()) := by
      intro N
      induction N with
      | zero => intro w _ h; omega
      | succ N ih =>
        intro w h1 h2
        rw [lp_succ]
        generalize lp (f_X0_leastWordWith_l6 n L (ad i) u2 u3 (nI (2 ^ sm wd k)) tO tR qI qJ) N = rcv at ih ⊢
        unfold f_X0_leastWordWith_l6 lst
        by_cases d : 2 ^ sm wd k ≤ w
        · rw [if_pos (nI_le d (by omega)), if_pos d]
        · have cw : (nI w).toNatClampNeg = w := nI_clamp (by omega)
          have iw : inb (nI w) 4096 = true := inb_lt (by omega) (by decide)
          rw [if_neg (nI_ge (by omega) (by omega)), if_neg d]
          unfold f_X0_goes f_X0_leastWordWith_b41
          rw [if_pos iw, if_pos hL, cw, (hC6 w (by omega)).1, (hC6 w (by omega)).2, k6, isWanted_eq, nI_1]
          by_cases e : κ w = κ (lw i)
          · rw [if_pos ((lg_cmp0 _ _).mpr e)]
            simp only [Option.bind_some]
            rw [if_neg ne10, if_pos iw]
            by_cases g : wants (resT (TT k wd sg P z w)) u2 u3 = true
            · have : f w = true := by rw [hf]; simp [e, g]
              rw [g, this]
              simp
            · have g' : wants (resT (TT k wd sg P z w)) u2 u3 = false := by simpa using g
              have : f w = false := by rw [hf]; simp [g']
              rw [g', this]
              simp only [Bool.false_eq_true, if_false, if_true]
              exact ih (w + 1) (by omega) (by omega)
          · have : f w = false := by rw [hf]; simp [e]
            rw [if_neg (fun q => e ((lg_cmp0 _ _).mp q)), this]
            simp only [Option.bind_some, if_true, Bool.false_eq_true, if_false]
            exact ih (w + 1) (by omega) (by omega)
    unfold f_X0_leastWordWith
    rw [if_pos hL, q2, A n (lw i) (by omega) (by omega)]
    simp only [Option.bind_some]
    have zero : ¬ (u2 = 0 ∨ u2 = 1 ∨ u2 = 2 ∨ u2 = 3) → lst f (2 ^ sm wd k) n (lw i) = -1 := fun no => by
      have hff : ∀ v, f v = false := fun v => by
        rw [hf]
        unfold wants
        dsimp only
        rw [if_neg (fun q => no (Or.inl q)), if_neg (fun q => no (Or.inr (Or.inl q))), if_neg (fun q => no (Or.inr (Or.inr (Or.inl q)))), if_neg (fun q => no (Or.inr (Or.inr (Or.inr q))))]
        simp
      rw [lst_skip n (2 ^ sm wd k - lw i) (lw i) (by omega) (by omega) (fun v _ _ => hff v)]
      obtain ⟨M, rfl⟩ : ∃ M, n = M + 1 := ⟨n - 1, by omega⟩
      unfold lst
      rw [if_pos (by omega)]
    by_cases neg : u2 < 0
    · rw [if_pos neg, zero (fun q => by rcases q with rfl | rfl | rfl | rfl <;> exact absurd neg (by decide))]
      exact ⟨_, rfl, rfl⟩
    rw [if_neg neg]
    by_cases big : u2 ≤ (3 : Int32)
    · rw [if_pos big]
      have hx : u2 = 0 ∨ u2 = 1 ∨ u2 = 2 ∨ u2 = 3 := by
        obtain ⟨j, hj, rfl⟩ := nI_of2 (n := 3) (by decide) neg big
        have : j = 0 ∨ j = 1 ∨ j = 2 ∨ j = 3 := by omega
        rcases this with rfl | rfl | rfl | rfl
        · exact Or.inl rfl
        · exact Or.inr (Or.inl rfl)
        · exact Or.inr (Or.inr (Or.inl rfl))
        · exact Or.inr (Or.inr (Or.inr rfl))
      have B : ∀ (N w : Nat), w ≤ 2 ^ sm wd k → 2 ^ sm wd k - w < N → lp (f_X5_find_l22 n K (nI i) u2 u3 rI rA) N (nI w) = some (lst f (2 ^ sm wd k) N w, ()) := by
        intro N
        induction N with
        | zero => intro w _ h; omega
        | succ N ih =>
          intro w h1 h2
          rw [lp_succ]
          generalize lp (f_X5_find_l22 n K (nI i) u2 u3 rI rA) N = rcv at ih ⊢
          unfold f_X5_find_l22 lst
          rw [words5 r2 hb]
          simp only [Option.bind_some]
          by_cases d : 2 ^ sm wd k ≤ w
          · rw [if_pos (nI_le d (by omega)), if_pos d]
          · have cw : (nI w).toNatClampNeg = w := nI_clamp (by omega)
            have iw : inb (nI w) 4096 = true := inb_lt (by omega) (by decide)
            have hwl : w < 2 ^ sm wd k := by omega
            rw [if_neg (nI_ge (by omega) (by omega)), if_neg d, if_pos iw, if_pos iw, cw, (hM.2.2.2.1 w hwl).1]
            by_cases e : κ w = κ (lw i)
            · rw [if_pos ((of_iff hM hi hwl).mpr e)]
              have hfw : f w = wants (resT (TT k wd sg P z w)) u2 u3 := by rw [hf]; simp [e]
              by_cases g0 : u2 = 0 ∧ resT (TT k wd sg P z w) = u3
              · rw [if_pos g0.1, if_pos g0.2, hfw]
                have : wants (resT (TT k wd sg P z w)) u2 u3 = true := by unfold wants; simp [g0.1, g0.2]
                rw [this]
                rfl
              · have e64 := b64_eq (n := n) (K := K) (rc := rcv) (x1 := nI i) (x4 := nI w) (rI := rI) (rA := rA) g0 hx
                have : (if u2 = 0 then if resT (TT k wd sg P z w) = u3 then some (nI w, ()) else f_X5_find_b64 n K rcv (nI i) u2 u3 (nI w) (resT (TT k wd sg P z w)) rI rA else f_X5_find_b64 n K rcv (nI i) u2 u3 (nI w) (resT (TT k wd sg P z w)) rI rA) = f_X5_find_b64 n K rcv (nI i) u2 u3 (nI w) (resT (TT k wd sg P z w)) rI rA := by
                  by_cases g1 : u2 = 0
                  · rw [if_pos g1, if_neg (fun q => g0 ⟨g1, q⟩)]
                  · rw [if_neg g1]
                rw [this, e64, hfw, nI_1]
                by_cases g : wants (resT (TT k wd sg P z w)) u2 u3 = true
                · rw [g]
                  rfl
                · have g' : wants (resT (TT k wd sg P z w)) u2 u3 = false := by simpa using g
                  rw [g']
                  simp only [Bool.false_eq_true, if_false]
                  exact ih (w + 1) (by omega) (by omega)
            · have : f w = false := by rw [hf]; simp [e]
              rw [if_neg (fun q => e ((of_iff hM hi hwl).mp q)), this]
              unfold f_X5_find_b103
              rw [nI_1]
              simp only [Bool.false_eq_true, if_false]
              exact ih (w + 1) (by omega) (by omega)
      have B0 : lp (f_X5_find_l22 n K (nI i) u2 u3 rI rA) n (0 : Int32) = some (lst f (2 ^ sm wd k) n 0, ()) := B n 0 (by omega) (by omega)
      rw [B0, lst_skip n (lw i) 0 (by omega) (by omega) (fun v _ hv => by
        rw [hf]
        simp [hle v (by omega)])]
      refine ⟨_, rfl, by rw [Nat.zero_add]⟩
    · rw [if_neg big, zero (fun q => by rcases q with rfl | rfl | rfl | rfl <;> exact absurd (by decide) big)]
      exact ⟨_, rfl, rfl⟩
