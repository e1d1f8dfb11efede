-- the model's order of paths
def cmpOk (T : Nat → TR) : Prop := ∀ v w, (T v).1 = (T w).1 ∨ gtD (T v).1 (T w).1 ∨ gtD (T w).1 (T v).1
theorem ord14 {n : Nat} (hn : 5000 < n) {K : List Nat} {ga : Nat → Nat} {rG : Nat → Option Nat} (hg : Gay K ga rG) {T : Nat → TR} {κ : Nat → Int64} (hk : keyOk T κ) (hs : ∀ w, srt (T w).1) (hcmp : cmpOk T) {b c : Nat} (hb : b ≤ 12) {rI : Nat → Int32} (h2 : rI 2 = nI b) (h6 : rI 6 = nI c) (rc : (Int32 × (Nat → Nat → Int32) × (Nat → Nat → Int32)) → Option ((Nat → Nat → Int32) × (Nat → Nat → Int32))) {i : Nat} (hi : i < c) :
    ∀ (N j : Nat) (lw : Nat → Nat) (rA rR : Nat → Nat → Int32), i < j → j ≤ c → c - j < N → mTab T κ (2 ^ b) c lw ga rA rR → outI κ c lw i → inI κ lw i j → ∃ lw' rA' rR', lp (f_X5_order_l14 n K rc (nI i) rI rG) N (nI j, rA, rR) = rc (nI (i + 1), rA', rR') ∧ mTab T κ (2 ^ b) c lw' ga rA' rR' ∧ outI κ c lw' (i + 1) ∧ ∀ t, t < 6 ∨ 16 < t → rA' t = rA t := by
  intro N
  induction N with
  | zero => intro j lw rA rR h1 h2 h3; omega
  | succ N ih =>
    intro j lw rA rR q1 q2 q3 hm ho hii
    have hc := hm.2.1
    rw [lp_succ]
    have e : ∀ rc14, f_X5_order_l14 n K rc (nI i) rI rG rc14 (nI j, rA, rR) = (if (rI 6) ≤ nI j then rc (nI i + 1, rA, rR) else (f_X5_isAhead n K (nI j) (nI i) rA rG rR).bind fun p => if p.1 = 0 then rc14 (nI j + 1, rA, rR) else (f_X5_exchange n K (nI i) (nI j) rI rA rG rR).bind fun q => rc14 (nI j + 1, q.1, q.2)) := fun _ => rfl
    rw [e, h6, nI_1, nI_1]
    by_cases d : j = c
    · subst d
      rw [if_pos (Int32.le_refl _)]
      exact ⟨lw, rA, rR, rfl, hm, outI_next ho hii, fun _ _ => rfl⟩
    · rw [if_neg (nI_ge (a := j) (b := c) (by omega) (by omega))]
      have hj : j < c := by omega
      obtain ⟨hT, -, hrow, -, -⟩ := id hm
      have hne : κ (lw j) ≠ κ (lw i) := fun q => by
        have := hT.2.2 j i hj hi q
        omega
      have hab : gtD (T (lw j)).1 (T (lw i)).1 ∨ gtD (T (lw i)).1 (T (lw j)).1 := by
        rcases hcmp (lw j) (lw i) with h | h | h
        · exact absurd ((key_ds hk _ _).mpr h) hne
        · exact Or.inl h
        · exact Or.inr h
      obtain ⟨r, f1, f2⟩ := ahead_eq (n := n) (by omega) hg (show j < 40 by omega) (show i < 40 by omega) (hs (lw j)) (hs (lw i)) (hrow j hj).2.2.1 (hrow i hi).2.2.1 (hrow j hj).2.2.2.2.2 (hrow i hi).2.2.2.2.2 hab
      rw [f1]
      simp only [Option.bind_some]
      rcases f2 with ⟨rfl, f2⟩ | ⟨rfl, f2⟩
      · have l := gtD_lt f2 (hs _) (hs _) (hk.1 (lw j)) (hk.1 (lw i))
        rw [if_neg (by decide)]
        obtain ⟨rA', rR', g1, g2, g3⟩ := exchange_ok hn hg hs hb h2 hm hi hj (by omega)
        rw [g1]
        simp only [Option.bind_some]
        obtain ⟨lw2, rA2, rR2, k1, k2, k3, k4⟩ := ih (j + 1) (swp lw i j) rA' rR' (by omega) (by omega) (by omega) g2 (outI_swp ho q1 hj) (inI_swp hii q1 l)
        exact ⟨lw2, rA2, rR2, k1, k2, k3, fun t ht => by rw [k4 t ht, g3 t ht]⟩
      · have l := gtD_lt f2 (hs _) (hs _) (hk.1 (lw i)) (hk.1 (lw j))
        rw [if_pos rfl]
        exact ih (j + 1) lw rA rR (by omega) (by omega) (by omega) hm ho (inI_next hii l)
theorem order_ok {n : Nat} (hn : 5000 < n) {K : List Nat} {ga : Nat → Nat} {rG : Nat → Option Nat} (hg : Gay K ga rG) {T : Nat → TR} {κ : Nat → Int64} (hk : keyOk T κ) (hs : ∀ w, srt (T w).1) (hcmp : cmpOk T) {b c : Nat} (hb : b ≤ 12) {rI : Nat → Int32} (h2 : rI 2 = nI b) (h6 : rI 6 = nI c) {lw : Nat → Nat} {rA rR : Nat → Nat → Int32} (hm : mTab T κ (2 ^ b) c lw ga rA rR) :
    ∃ lw' rA' rR', f_X5_order n K rI rA rG rR = some (rA', rR') ∧ mTab T κ (2 ^ b) c lw' ga rA' rR' ∧ Tab κ (2 ^ b) c lw' ∧ ∀ t, t < 6 ∨ 16 < t → rA' t = rA t := by
  have loop : ∀ (N i : Nat) (lw : Nat → Nat) (rA rR : Nat → Nat → Int32), i ≤ c → c - i < N → mTab T κ (2 ^ b) c lw ga rA rR → outI κ c lw i → ∃ lw' rA' rR', lp (f_X5_order_l2 n K rI rG) N (nI i, rA, rR) = some (rA', rR') ∧ mTab T κ (2 ^ b) c lw' ga rA' rR' ∧ Tab κ (2 ^ b) c lw' ∧ ∀ t, t < 6 ∨ 16 < t → rA' t = rA t := by
    intro N
    induction N with
    | zero => intro i lw rA rR h1 h2; omega
    | succ N ih =>
      intro i lw rA rR q1 q2 hm ho
      have hc := hm.2.1
      rw [lp_succ]
      have e : ∀ rc, f_X5_order_l2 n K rI rG rc (nI i, rA, rR) = (if (rI 6) ≤ nI i then some (rA, rR) else lp (f_X5_order_l14 n K rc (nI i) rI rG) n (nI i + 1, rA, rR)) := fun _ => rfl
      rw [e, h6, nI_1]
      by_cases d : i = c
      · subst d
        rw [if_pos (Int32.le_refl _)]
        exact ⟨lw, rA, rR, rfl, hm, ⟨hm.1, fun a b hab hb => ho a b (by omega) hab hb⟩, fun _ _ => rfl⟩
      · rw [if_neg (nI_ge (a := i) (b := c) (by omega) (by omega))]
        obtain ⟨lw2, rA2, rR2, k1, k2, k3, k4⟩ := ord14 hn hg hk hs hcmp hb h2 h6 (lp (f_X5_order_l2 n K rI rG) N) (show i < c by omega) n (i + 1) lw rA rR (by omega) (by omega) (by omega) hm ho (fun b h1 h2 => by omega)
        rw [k1]
        obtain ⟨lw3, rA3, rR3, j1, j2, j3, j4⟩ := ih (i + 1) lw2 rA2 rR2 (by omega) (by omega) k2 k3
        exact ⟨lw3, rA3, rR3, j1, j2, j3, fun t ht => by rw [j4 t ht, k4 t ht]⟩
  have hc := hm.2.1
  exact loop n 0 lw rA rR (Nat.zero_le _) (by omega) hm (fun a b h => absurd h (Nat.not_lt_zero a))
theorem mP_keep6 {P : Nat → Nat → Int32} {z : Nat} {i1 : Int32} {w0 s0 : Nat → Int32} {rI rI' : Nat → Int32} {rA rA' : Nat → Nat → Int32} (h : mP P z i1 w0 s0 rI rA) (hI : ∀ j, j < 6 → rI' j = rI j) (hA : ∀ j, j < 6 → rA' j = rA j) : mP P z i1 w0 s0 rI' rA' := by
  obtain ⟨h1, h2, h3, h4, h5⟩ := h
  refine ⟨by rw [hI 3 (by decide), h1], by rw [hI 1 (by decide), h2], by rw [hA 0 (by decide), h3], by rw [hA 1 (by decide), h4], fun pc hpc => ?_⟩
  rw [hA 2 (by decide), hA 3 (by decide), hA 4 (by decide), hA 5 (by decide)]
  exact h5 pc hpc
/-- what the model's search leaves -/
def mDone (T : Nat → TR) (κ : Nat → Int64) (W : Nat) (ga : Nat → Nat) (rI6 : Int32) (rA rR : Nat → Nat → Int32) : Prop :=
  (∃ c lw, Tab κ W c lw ∧ mTab T κ W c lw ga rA rR ∧ rI6 = nI c) ∨ (tooMany κ W ∧ rI6 = -1)
set_option maxHeartbeats 1000000 in
theorem explore5_ok {n : Nat} (hn : 5000 < n) {K : List Nat} {ga : Nat → Nat} {rG : Nat → Option Nat} (hg : Gay K ga rG) {P : Nat → Nat → Int32} {z ins : Nat} (hz : z ≤ 60) (hw : wfP P z ins) {inp : Nat → Int32 → Int32} {κ : Nat → Int64} (hk : keyOk (fun w => runT P z (inp w) none) κ) {i1 : Int32} {w0 s0 : Nat → Int32} {b : Nat} (hb : b ≤ 12) (hin : ∀ w, w < 2 ^ b → ∀ (rI : Nat → Int32) (rA : Nat → Nat → Int32), mP P z i1 w0 s0 rI rA → ∀ pc, pc < z → P 0 pc = 1 → f_X5_inputOf n K (nI w) (P 2 pc) rI rA = some (inp w (P 2 pc), ())) {rI : Nat → Int32} {rA rR : Nat → Nat → Int32} (hm : mP P z i1 w0 s0 rI rA) (h2 : rI 2 = nI b) :
    ∃ r rI' rA' rR', f_X5_explore n K rI rA rG rR = some (r, (rI', rA', rR')) ∧ rI' 6 = r ∧ mDone (fun w => runT P z (inp w) none) κ (2 ^ b) ga r rA' rR' ∧ (∀ j, j < 6 ∨ 11 < j → rI' j = rI j) ∧ ∀ t, t < 6 ∨ 16 < t → rA' t = rA t := by
  have h12 := pw12 hb
  have hs : ∀ w, srt ((fun w => runT P z (inp w) none) w).1 := fun w => run_srt hz hw (inp w) none
  have hcmp : cmpOk (fun w => runT P z (inp w) none) := fun v w => run_cmp (inp v) (inp w)
  have loop : ∀ (N w c : Nat) (lw : Nat → Nat) (rJ : Nat → Int32) (rB rR : Nat → Nat → Int32), w ≤ 2 ^ b → 2 ^ b - w < N → mTab (fun w => runT P z (inp w) none) κ w c lw ga rB rR → (∀ j, j < 6 ∨ 11 < j → rJ j = rI j) → rJ 6 = -1 → (∀ t, t < 6 ∨ 16 < t → rB t = rA t) → ∃ r rI' rA' rR', lp (f_X5_explore_l30 n K rG) N (nI c, nI w, rJ, rB, rR) = some (r, (rI', rA', rR')) ∧ rI' 6 = r ∧ mDone (fun w => runT P z (inp w) none) κ (2 ^ b) ga r rA' rR' ∧ (∀ j, j < 6 ∨ 11 < j → rI' j = rI j) ∧ ∀ t, t < 6 ∨ 16 < t → rA' t = rA t := by
    intro N
    induction N with
    | zero => intro w c lw rJ rB rR h1 h2; omega
    | succ N ih =>
      intro w c lw rJ rB rR q1 q2 q3 q4 q5 q6
      rw [lp_succ]
      have e : ∀ rc, f_X5_explore_l30 n K rG rc (nI c, nI w, rJ, rB, rR) = ((f_X5_words K rJ).bind fun p => if p.1 ≤ nI w then f_X5_explore_b221 n K (nI c) rJ rB rG rR else (f_X5_go0 n K (nI w) (1 : Int32) rJ rB).bind fun q => lp (f_X5_explore_l47 n K rc (nI c) (nI w) q.1 q.2 rG rR) n (0 : Int32)) := fun _ => rfl
      have j2 : rJ 2 = nI b := by rw [q4 2 (Or.inl (by decide))]; exact h2
      rw [e, words5 j2 hb]
      simp only [Option.bind_some]
      by_cases d : w = 2 ^ b
      · rw [d] at q3 ⊢
        rw [if_pos (Int32.le_refl _)]
        unfold f_X5_explore_b221
        obtain ⟨lw', rA', rR', k1, k2, k3, k4⟩ := order_ok hn hg hk hs hcmp hb (rI := upd rJ 6 (nI c)) (by simp [upd, j2]) (by simp [upd]) q3
        rw [k1]
        simp only [Option.bind_some]
        refine ⟨_, _, _, _, rfl, by simp [upd], Or.inl ⟨c, lw', k3, k2, rfl⟩, fun j hj => ?_, fun t ht => by rw [k4 t ht]; exact q6 t ht⟩
        unfold upd
        rw [if_neg (by omega)]
        exact q4 j hj
      · rw [if_neg (nI_ge (a := w) (b := 2 ^ b) (by omega) (by omega))]
        have hmj : mP P z i1 w0 s0 rJ rB := mP_keep6 hm (fun j hj => q4 j (Or.inl hj)) (fun t ht => q6 t (Or.inl ht))
        obtain ⟨rI', rA', f1, f2⟩ := go0_ok (n := n) (K := K) (u1 := nI w) (u3 := 1) hz hw (hin w (by omega)) (by omega) hmj
        rw [f1]
        simp only [Option.bind_some]
        have y9 := f2.2.2.2.2.2.2.2.2.1
        have y10 := f2.2.2.2.2.2.2.2.2.2.1
        rcases mword (n := n) (by omega) hg hk hs (show w < 4096 by omega) q3 f2 (lp (f_X5_explore_l30 n K rG) N) with ⟨c', lw', rA2, rR2, g1, g2, g3⟩ | ⟨g1, g2, g3⟩
        · rw [g1]
          exact ih (w + 1) c' lw' rI' rA2 rR2 (by omega) (by omega) g2 (fun j hj => by rw [y9 j (by omega)]; exact q4 j hj) (by rw [y9 6 (by decide)]; exact q5) (fun t ht => by rw [g3 t ht]; exact q6 t ht)
        · rw [g3]
          refine ⟨_, _, _, _, rfl, by rw [y9 6 (by decide)]; exact q5, Or.inr ⟨⟨w, by omega, fun i => if i = c then w else lw i, ?_⟩, rfl⟩, fun j hj => by rw [y9 j (by omega)]; exact q4 j hj, fun t ht => by rw [y10 t (by omega) (by omega) (by omega) (by omega)]; exact q6 t ht⟩
          subst g1
          exact TabU_new q3.1 g2 (fun i hi => by rw [if_neg (by omega)]) (by rw [if_pos rfl])
  unfold f_X5_explore
  obtain ⟨rB, a1, a2, a3⟩ := zl (fun rA => f_X5_explore_b28 n K 0 (upd rI 6 (-1)) rA rG rR) 13 60 (by decide) (f_X5_explore_l9 n K (0 : Int32) (upd rI 6 (-1 : Int32)) rG rR) (fun rc x4 rA => by
    have e : f_X5_explore_l9 n K (0 : Int32) (upd rI 6 (-1 : Int32)) rG rR rc (x4, rA) = (if (60 : Int32) ≤ x4 then f_X5_explore_b28 n K 0 (upd rI 6 (-1)) rA rG rR else if inb x4 60 = true then rc (x4 + 1, up2 rA 13 x4.toNatClampNeg (vp_nar .boolean (0 : Int32))) else none) := rfl
    rw [e, nar0]
    rfl) n 0 rA (by omega) (by omega) (fun j hj => absurd hj (Nat.not_lt_zero j))
  have a1' : lp (f_X5_explore_l9 n K (0 : Int32) (upd rI 6 (-1 : Int32)) rG rR) n ((0 : Int32), rA) = f_X5_explore_b28 n K 0 (upd rI 6 (-1)) rB rG rR := a1
  rw [a1']
  unfold f_X5_explore_b28
  refine loop n 0 0 (fun i => i) (upd rI 6 (-1)) rB rR (Nat.zero_le _) (by omega) ⟨TabU_zero κ _, by omega, fun i hi => absurd hi (Nat.not_lt_zero i), fun v hv => absurd hv (Nat.not_lt_zero v), fun p hp => ?_⟩ (fun j hj => ?_) (by simp [upd]) (fun t ht => a3 t (by omega))
  · rw [a2 p hp]
    simp [visB, anyW]
  · unfold upd
    rw [if_neg (by omega)]
