-- the model's exchange of two paths
theorem turn7_eq {K : List Nat} {i j : Nat} (hi : i < 40) (hj : j < 40) (rA : Nat → Nat → Int32) : f_X5_turn7 K (nI i) (nI j) rA = some (up2 (up2 rA 6 i (rA 6 j)) 6 j (rA 6 i)) := by
  have ci : (nI i).toNatClampNeg = i := nI_clamp (by omega)
  have cj : (nI j).toNatClampNeg = j := nI_clamp (by omega)
  unfold f_X5_turn7
  simp only [inb_lt hi (show 40 < 2 ^ 31 by decide), inb_lt hj (show 40 < 2 ^ 31 by decide), if_true, ci, cj, Option.bind_some]
theorem turn8_eq {K : List Nat} {i j : Nat} (hi : i < 40) (hj : j < 40) (rA : Nat → Nat → Int32) : f_X5_turn8 K (nI i) (nI j) rA = some (up2 (up2 rA 7 i (rA 7 j)) 7 j (rA 7 i)) := by
  have ci : (nI i).toNatClampNeg = i := nI_clamp (by omega)
  have cj : (nI j).toNatClampNeg = j := nI_clamp (by omega)
  unfold f_X5_turn8
  simp only [inb_lt hi (show 40 < 2 ^ 31 by decide), inb_lt hj (show 40 < 2 ^ 31 by decide), if_true, ci, cj, Option.bind_some]
theorem turn9_eq {K : List Nat} {i j : Nat} (hi : i < 40) (hj : j < 40) (rA : Nat → Nat → Int32) : f_X5_turn9 K (nI i) (nI j) rA = some (up2 (up2 rA 8 i (rA 8 j)) 8 j (rA 8 i)) := by
  have ci : (nI i).toNatClampNeg = i := nI_clamp (by omega)
  have cj : (nI j).toNatClampNeg = j := nI_clamp (by omega)
  unfold f_X5_turn9
  simp only [inb_lt hi (show 40 < 2 ^ 31 by decide), inb_lt hj (show 40 < 2 ^ 31 by decide), if_true, ci, cj, Option.bind_some]
theorem turn10_eq {K : List Nat} {i j : Nat} (hi : i < 40) (hj : j < 40) (rA : Nat → Nat → Int32) : f_X5_turn10 K (nI i) (nI j) rA = some (up2 (up2 rA 9 i (rA 9 j)) 9 j (rA 9 i)) := by
  have ci : (nI i).toNatClampNeg = i := nI_clamp (by omega)
  have cj : (nI j).toNatClampNeg = j := nI_clamp (by omega)
  unfold f_X5_turn10
  simp only [inb_lt hi (show 40 < 2 ^ 31 by decide), inb_lt hj (show 40 < 2 ^ 31 by decide), if_true, ci, cj, Option.bind_some]
theorem sw2 (rA : Nat → Nat → Int32) (s i j : Nat) : (up2 (up2 rA s i (rA s j)) s j (rA s i)) s = swp (rA s) i j := by
  funext k
  rw [up2_same, up2_same]
  unfold upd swp
  by_cases a : k = j
  · subst a
    by_cases b : k = i
    · subst b; simp
    · simp [b]
  · simp [a]
theorem sw2_ne (rA : Nat → Nat → Int32) (s i j : Nat) {t : Nat} (h : t ≠ s) : (up2 (up2 rA s i (rA s j)) s j (rA s i)) t = rA t := by rw [up2_ne _ _ _ h, up2_ne _ _ _ h]
/-- the loop that renames: of[w] is j for i, i for j -/
theorem exch121 {n : Nat} (hn : 5000 < n) {K : List Nat} {i j b : Nat} (hb : b ≤ 12) {rI : Nat → Int32} (h2 : rI 2 = nI b) (rG : Nat → Option Nat) (rR rA : Nat → Nat → Int32) : ∃ rA', lp (f_X5_exchange_l121 n K (nI i) (nI j) rI rG rR) n ((0 : Int32), rA) = some (rA', rR) ∧ (∀ v, v < 2 ^ b → rA' 11 v = if rA 11 v = nI i then nI j else if rA 11 v = nI j then nI i else rA 11 v) ∧ ∀ t, t ≠ 11 → rA' t = rA t := by
  have h12 := pw12 hb
  have loop : ∀ (N k : Nat) (rQ : Nat → Nat → Int32), k ≤ 2 ^ b → 2 ^ b - k < N → (∀ v, v < 2 ^ b → rQ 11 v = if v < k then (if rA 11 v = nI i then nI j else if rA 11 v = nI j then nI i else rA 11 v) else rA 11 v) → (∀ t, t ≠ 11 → rQ t = rA t) → ∃ rA', lp (f_X5_exchange_l121 n K (nI i) (nI j) rI rG rR) N (nI k, rQ) = some (rA', rR) ∧ (∀ v, v < 2 ^ b → rA' 11 v = if rA 11 v = nI i then nI j else if rA 11 v = nI j then nI i else rA 11 v) ∧ ∀ t, t ≠ 11 → rA' t = rA t := by
    intro N
    induction N with
    | zero => intro k rQ h1 h2; omega
    | succ N ih =>
      intro k rQ q1 q2 q3 q4
      rw [lp_succ]
      have e : ∀ rc, f_X5_exchange_l121 n K (nI i) (nI j) rI rG rR rc (nI k, rQ) = ((f_X5_words K rI).bind fun p => if p.1 ≤ nI k then some (rQ, rR) else if inb (nI k) 4096 = true then if (rQ 11 (nI k).toNatClampNeg) = nI i then f_X5_exchange_b173 n K rc (nI i) (nI j) (nI k) (nI k) (nI j) rI rQ rG rR else if inb (nI k) 4096 = true then if (rQ 11 (nI k).toNatClampNeg) = nI j then f_X5_exchange_b173 n K rc (nI i) (nI j) (nI k) (nI k) (nI i) rI rQ rG rR else if inb (nI k) 4096 = true then f_X5_exchange_b173 n K rc (nI i) (nI j) (nI k) (nI k) (rQ 11 (nI k).toNatClampNeg) rI rQ rG rR else none else none else none) := fun _ => rfl
      rw [e, words5 h2 hb]
      simp only [Option.bind_some]
      by_cases d : k = 2 ^ b
      · rw [d, if_pos (Int32.le_refl _)]
        refine ⟨rQ, rfl, fun v hv => ?_, q4⟩
        rw [q3 v hv, if_pos (show v < k by omega)]
      · have hk : k < 4096 := by omega
        have ck : (nI k).toNatClampNeg = k := nI_clamp (by omega)
        rw [if_neg (nI_ge (a := k) (b := 2 ^ b) (by omega) (by omega))]
        have ek : rQ 11 k = rA 11 k := by rw [q3 k (by omega), if_neg (Nat.lt_irrefl _)]
        unfold f_X5_exchange_b173
        simp only [inb_lt hk (show 4096 < 2 ^ 31 by decide), if_true, ck, ek, nI_1]
        have fin : ∀ x, x = (if rA 11 k = nI i then nI j else if rA 11 k = nI j then nI i else rA 11 k) → ∃ rA', lp (f_X5_exchange_l121 n K (nI i) (nI j) rI rG rR) N (nI (k + 1), up2 rQ 11 k x) = some (rA', rR) ∧ (∀ v, v < 2 ^ b → rA' 11 v = if rA 11 v = nI i then nI j else if rA 11 v = nI j then nI i else rA 11 v) ∧ ∀ t, t ≠ 11 → rA' t = rA t := by
          intro x hx
          refine ih (k + 1) _ (by omega) (by omega) (fun v hv => ?_) (fun t ht => by rw [up2_ne _ _ _ ht]; exact q4 t ht)
          rw [up2_same]
          unfold upd
          by_cases a : v = k
          · rw [if_pos a, if_pos (show v < k + 1 by omega), hx, a]
          · rw [if_neg a, q3 v hv]
            by_cases c : v < k
            · rw [if_pos c, if_pos (show v < k + 1 by omega)]
            · rw [if_neg c, if_neg (show ¬ v < k + 1 by omega)]
        by_cases a : rA 11 k = nI i
        · rw [if_pos a]; exact fin _ (by rw [if_pos a])
        · by_cases c : rA 11 k = nI j
          · rw [if_neg a, if_pos c]; exact fin _ (by rw [if_neg a, if_pos c])
          · rw [if_neg a, if_neg c]; exact fin _ (by rw [if_neg a, if_neg c])
  exact loop n 0 rA (Nat.zero_le _) (by omega) (fun v hv => by rw [if_neg (Nat.not_lt_zero v)]) (fun _ _ => rfl)
/-- the loop that exchanges two rows -/
theorem exch65 {n : Nat} (hn : 100 < n) {K : List Nat} {ga : Nat → Nat} {rG : Nat → Option Nat} (hg : Gay K ga rG) {i j : Nat} (hi : i < 40) (hj : j < 40) (hij : i ≠ j) (rI : Nat → Int32) (rA rR : Nat → Nat → Int32) : ∃ rR', lp (f_X5_exchange_l65 n K (nI i) (nI j) rI rA rG) n ((0 : Int32), rR) = f_X5_exchange_b118 n K (nI i) (nI j) rI rA rG rR' ∧ (∀ t, t < 60 → rR' (ga i) t = rR (ga j) t ∧ rR' (ga j) t = rR (ga i) t) ∧ ∀ r, r ≠ ga i → r ≠ ga j → rR' r = rR r := by
  have ci : (nI i).toNatClampNeg = i := nI_clamp (by omega)
  have cj : (nI j).toNatClampNeg = j := nI_clamp (by omega)
  obtain ⟨g1, g2⟩ := hg.1 i hi
  obtain ⟨g3, g4⟩ := hg.1 j hj
  have hne : ga i ≠ ga j := fun q => hij (hg.2 i j hi hj q)
  have loop : ∀ (N k : Nat) (rQ : Nat → Nat → Int32), k ≤ 60 → 60 - k < N → (∀ t, t < 60 → rQ (ga i) t = (if t < k then rR (ga j) t else rR (ga i) t) ∧ rQ (ga j) t = (if t < k then rR (ga i) t else rR (ga j) t)) → (∀ r, r ≠ ga i → r ≠ ga j → rQ r = rR r) → ∃ rR', lp (f_X5_exchange_l65 n K (nI i) (nI j) rI rA rG) N (nI k, rQ) = f_X5_exchange_b118 n K (nI i) (nI j) rI rA rG rR' ∧ (∀ t, t < 60 → rR' (ga i) t = rR (ga j) t ∧ rR' (ga j) t = rR (ga i) t) ∧ ∀ r, r ≠ ga i → r ≠ ga j → rR' r = rR r := by
    intro N
    induction N with
    | zero => intro k rQ h1 h2; omega
    | succ N ih =>
      intro k rQ q1 q2 q3 q4
      rw [lp_succ]
      have e : ∀ rc, f_X5_exchange_l65 n K (nI i) (nI j) rI rA rG rc (nI k, rQ) = (if (60 : Int32) ≤ nI k then f_X5_exchange_b118 n K (nI i) (nI j) rI rA rG rQ else if inb (nI i) 40 = true then (rG (nI i).toNatClampNeg).bind fun a11 => if a11 ∈ K then if inb (nI k) 60 = true then if inb (nI i) 40 = true then (rG (nI i).toNatClampNeg).bind fun a17 => if a17 ∈ K then if inb (nI j) 40 = true then (rG (nI j).toNatClampNeg).bind fun a21 => if a21 ∈ K then if inb (nI k) 60 = true then if inb (nI k) 60 = true then if inb (nI j) 40 = true then (rG (nI j).toNatClampNeg).bind fun a29 => if a29 ∈ K then (some (up2 rQ a17 (nI k).toNatClampNeg (rQ a21 (nI k).toNatClampNeg))).bind fun rR_33 => if inb (nI k) 60 = true then rc ((nI k + 1), (up2 rR_33 a29 (nI k).toNatClampNeg (rQ a11 (nI k).toNatClampNeg))) else none else none else none else none else none else none else none else none else none else none else none else none) := fun _ => rfl
      rw [e]
      by_cases d : k = 60
      · subst d
        rw [if_pos (show (60 : Int32) ≤ nI 60 by decide)]
        refine ⟨rQ, rfl, fun t ht => ?_, q4⟩
        have := q3 t ht
        rw [if_pos ht, if_pos ht] at this
        exact this
      · have hk : k < 60 := by omega
        have ck : (nI k).toNatClampNeg = k := nI_clamp (by omega)
        rw [if_neg (show ¬ (60 : Int32) ≤ nI k from nI_ge (a := k) (b := 60) hk (by decide))]
        simp only [inb_lt hi (show 40 < 2 ^ 31 by decide), inb_lt hj (show 40 < 2 ^ 31 by decide), inb_lt hk (show 60 < 2 ^ 31 by decide), if_true, ci, cj, ck, g1, g3, Option.bind_some, g2, g4, nI_1]
        have b1 := q3 k hk
        rw [if_neg (Nat.lt_irrefl k), if_neg (Nat.lt_irrefl k)] at b1
        refine ih (k + 1) _ (by omega) (by omega) (fun t ht => ?_) (fun r h1 h2 => by rw [up2_ne _ _ _ h2, up2_ne _ _ _ h1]; exact q4 r h1 h2)
        have b2 := q3 t ht
        rw [up2_ne _ _ _ hne, up2_same, up2_same, up2_ne _ _ _ (Ne.symm hne), b1.1, b1.2]
        unfold upd
        by_cases a : t = k
        · subst a
          rw [if_pos rfl, if_pos rfl, if_pos (Nat.lt_succ_self t), if_pos (Nat.lt_succ_self t)]
          exact ⟨rfl, rfl⟩
        · rw [if_neg a, if_neg a, b2.1, b2.2]
          by_cases c : t < k
          · have c1 : t < k + 1 := by omega
            simp [c, c1]
          · have c1 : ¬ t < k + 1 := by omega
            simp [c, c1]
  exact loop n 0 rR (Nat.zero_le _) (by omega) (fun t ht => by simp) (fun _ _ _ => rfl)
theorem mRow_01 {T : Nat → TR} {κ : Nat → Int64} {w u i : Nat} {rA : Nat → Nat → Int32} {row : Nat → Int32} (h : mRow T κ w u i rA row) : vp_nar .boolean (rA 10 i) = rA 10 i := by
  rw [h.2.2.2.2.1]
  split
  · exact nar1
  · exact nar0
set_option maxHeartbeats 4000000 in
/-- the exchange of two paths in the table -/
theorem exchange_ok {n : Nat} (hn : 5000 < n) {K : List Nat} {ga : Nat → Nat} {rG : Nat → Option Nat} (hg : Gay K ga rG) {T : Nat → TR} {κ : Nat → Int64} (hs : ∀ w, srt (T w).1) {b c : Nat} (hb : b ≤ 12) {lw : Nat → Nat} {rI : Nat → Int32} (h2 : rI 2 = nI b) {rA rR : Nat → Nat → Int32} (hm : mTab T κ (2 ^ b) c lw ga rA rR) {i j : Nat} (hi : i < c) (hj : j < c) (hij : i ≠ j) :
    ∃ rA' rR', f_X5_exchange n K (nI i) (nI j) rI rA rG rR = some (rA', rR') ∧ mTab T κ (2 ^ b) c (swp lw i j) ga rA' rR' ∧ ∀ t, t < 6 ∨ 16 < t → rA' t = rA t := by
  obtain ⟨hT, hc, hrow, hwd, hmet⟩ := hm
  have hi4 : i < 40 := by omega
  have hj4 : j < 40 := by omega
  have ci : (nI i).toNatClampNeg = i := nI_clamp (by omega)
  have cj : (nI j).toNatClampNeg = j := nI_clamp (by omega)
  have ei : inb (nI i) 40 = true := inb_lt hi4 (by decide)
  have ej : inb (nI j) 40 = true := inb_lt hj4 (by decide)
  unfold f_X5_exchange
  rw [turn7_eq hi4 hj4]
  simp only [Option.bind_some]
  obtain ⟨rA1, e1⟩ : ∃ x, x = up2 (up2 rA 6 i (rA 6 j)) 6 j (rA 6 i) := ⟨_, rfl⟩
  rw [← e1, turn8_eq hi4 hj4]
  simp only [Option.bind_some]
  obtain ⟨rA2, e2⟩ : ∃ x, x = up2 (up2 rA1 7 i (rA1 7 j)) 7 j (rA1 7 i) := ⟨_, rfl⟩
  rw [← e2, turn9_eq hi4 hj4]
  simp only [Option.bind_some]
  obtain ⟨rA3, e3⟩ : ∃ x, x = up2 (up2 rA2 8 i (rA2 8 j)) 8 j (rA2 8 i) := ⟨_, rfl⟩
  rw [← e3, turn10_eq hi4 hj4]
  simp only [Option.bind_some]
  obtain ⟨rA4, e4⟩ : ∃ x, x = up2 (up2 rA3 9 i (rA3 9 j)) 9 j (rA3 9 i) := ⟨_, rfl⟩
  rw [← e4, if_pos ei, if_pos ej, if_pos ei, if_pos ej, ci, cj]
  have k10 : rA4 10 = rA 10 := by rw [e4, sw2_ne _ _ _ _ (by decide), e3, sw2_ne _ _ _ _ (by decide), e2, sw2_ne _ _ _ _ (by decide), e1, sw2_ne _ _ _ _ (by decide)]
  have n1 : vp_nar .boolean (rA4 10 j) = rA4 10 j := by rw [k10]; exact mRow_01 (hrow j hj)
  have n2 : vp_nar .boolean (rA4 10 i) = rA4 10 i := by rw [k10]; exact mRow_01 (hrow i hi)
  rw [n1, n2]
  obtain ⟨rA5, e5⟩ : ∃ x, x = up2 (up2 rA4 10 i (rA4 10 j)) 10 j (rA4 10 i) := ⟨_, rfl⟩
  rw [← e5]
  obtain ⟨rR', f1, f2, f3⟩ := exch65 (n := n) (by omega) hg hi4 hj4 hij rI rA5 rR
  rw [f1]
  unfold f_X5_exchange_b118
  obtain ⟨rA', g1, g2, g3⟩ := exch121 hn hb h2 rG rR' rA5 (K := K) (i := i) (j := j)
  rw [g1]
  have s6 : rA' 6 = swp (rA 6) i j := by rw [g3 6 (by decide), e5, sw2_ne _ _ _ _ (by decide), e4, sw2_ne _ _ _ _ (by decide), e3, sw2_ne _ _ _ _ (by decide), e2, sw2_ne _ _ _ _ (by decide), e1, sw2]
  have s7 : rA' 7 = swp (rA 7) i j := by rw [g3 7 (by decide), e5, sw2_ne _ _ _ _ (by decide), e4, sw2_ne _ _ _ _ (by decide), e3, sw2_ne _ _ _ _ (by decide), e2, sw2, e1, sw2_ne _ _ _ _ (by decide)]
  have s8 : rA' 8 = swp (rA 8) i j := by rw [g3 8 (by decide), e5, sw2_ne _ _ _ _ (by decide), e4, sw2_ne _ _ _ _ (by decide), e3, sw2, e2, sw2_ne _ _ _ _ (by decide), e1, sw2_ne _ _ _ _ (by decide)]
  have s9 : rA' 9 = swp (rA 9) i j := by rw [g3 9 (by decide), e5, sw2_ne _ _ _ _ (by decide), e4, sw2, e3, sw2_ne _ _ _ _ (by decide), e2, sw2_ne _ _ _ _ (by decide), e1, sw2_ne _ _ _ _ (by decide)]
  have s10 : rA' 10 = swp (rA 10) i j := by rw [g3 10 (by decide), e5, sw2, k10]
  have o : ∀ t, t < 6 ∨ t > 11 → rA' t = rA t := fun t ht => by rw [g3 t (by omega), e5, sw2_ne _ _ _ _ (by omega), e4, sw2_ne _ _ _ _ (by omega), e3, sw2_ne _ _ _ _ (by omega), e2, sw2_ne _ _ _ _ (by omega), e1, sw2_ne _ _ _ _ (by omega)]
  have k11 : rA5 11 = rA 11 := by rw [e5, sw2_ne _ _ _ _ (by decide), e4, sw2_ne _ _ _ _ (by decide), e3, sw2_ne _ _ _ _ (by decide), e2, sw2_ne _ _ _ _ (by decide), e1, sw2_ne _ _ _ _ (by decide)]
  have rowsw : ∀ k, k < c → ∃ k', k' < c ∧ swp lw i j k = lw k' ∧ (∀ s, (swp (rA s) i j) k = rA s k') ∧ ∀ t, t < 60 → rR' (ga k) t = rR (ga k') t := by
    intro k hk
    unfold swp
    by_cases a : k = i
    · refine ⟨j, hj, by rw [if_pos a], fun s => by rw [if_pos a], fun t ht => ?_⟩
      rw [a]; exact (f2 t ht).1
    · by_cases d : k = j
      · refine ⟨i, hi, by rw [if_neg a, if_pos d], fun s => by rw [if_neg a, if_pos d], fun t ht => ?_⟩
        rw [d]; exact (f2 t ht).2
      · refine ⟨k, hk, by rw [if_neg a, if_neg d], fun s => by rw [if_neg a, if_neg d], fun t ht => ?_⟩
        rw [f3 (ga k) (fun q => a (hg.2 k i (by omega) hi4 q)) (fun q => d (hg.2 k j (by omega) hj4 q))]
  refine ⟨rA', rR', rfl, ⟨TabU_swp hT hi hj, hc, fun k hk => ?_, fun v hv => ?_, fun p hp => by rw [o 13 (Or.inr (by decide))]; exact hmet p hp⟩, fun t ht => o t (by omega)⟩
  · obtain ⟨k', hk', x1, x2, x3⟩ := rowsw k hk
    obtain ⟨r1, r2, r3, r4, r5, r6⟩ := hrow k' hk'
    rw [x1]
    refine ⟨by rw [s6, x2]; exact r1, by rw [s7, x2]; exact r2, by rw [s8, x2]; exact r3, by rw [s9, x2]; exact r4, by rw [s10, x2]; exact r5, fun t q hq => ?_⟩
    have := srt_len (hs (lw k'))
    have ht : t < (T (lw k')).1.length := (List.getElem?_eq_some_iff.mp hq).1
    rw [x3 t (by omega)]
    exact r6 t q hq
  · obtain ⟨q1, k, hk, q2, q3⟩ := hwd v hv
    refine ⟨by rw [o 12 (Or.inr (by decide))]; exact q1, ?_⟩
    rw [g2 v hv, k11, q2]
    by_cases a : k = i
    · refine ⟨j, hj, by rw [if_pos (by rw [a])], ?_⟩
      unfold swp
      rw [if_neg (Ne.symm hij), if_pos rfl, ← a]; exact q3
    · rw [if_neg (fun q => a ((nI_eq (by omega) (by omega)).mp q))]
      by_cases d : k = j
      · refine ⟨i, hi, by rw [if_pos (by rw [d])], ?_⟩
        unfold swp
        rw [if_pos rfl, ← d]; exact q3
      · refine ⟨k, hk, by rw [if_neg (fun q => d ((nI_eq (by omega) (by omega)).mp q))], ?_⟩
        unfold swp
        rw [if_neg a, if_neg d]; exact q3
