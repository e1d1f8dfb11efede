-- the model's table
def mRow (T : Nat → TR) (κ : Nat → Int64) (w u i : Nat) (rA : Nat → Nat → Int32) (row : Nat → Int32) : Prop :=
  rA 6 i = enT (T u) ∧ rA 7 i = nI (plT (T u)) ∧ rA 8 i = nI (T u).1.length ∧ rA 9 i = nI u ∧ rA 10 i = (if sameB T κ w u then 1 else 0) ∧ rowIs (T u).1 row
def mTab (T : Nat → TR) (κ : Nat → Int64) (w c : Nat) (lw ga : Nat → Nat) (rA rR : Nat → Nat → Int32) : Prop :=
  TabU κ w c lw ∧ c ≤ 40 ∧ (∀ i, i < c → mRow T κ w (lw i) i rA (rR (ga i))) ∧ (∀ v, v < w → rA 12 v = resT (T v) ∧ ∃ i, i < c ∧ rA 11 v = nI i ∧ κ v = κ (lw i)) ∧ (∀ p, p < 60 → rA 13 p = if visB T w p then 1 else 0)
theorem key_ds {T : Nat → TR} {κ : Nat → Int64} (hk : keyOk T κ) (v w : Nat) : κ v = κ w ↔ (T v).1 = (T w).1 :=
  ⟨fun e => (hk.2.1 v w e).1, fun e => (enc_inj (hk.1 v) (hk.1 w)).mpr (fun p _ => by rw [e])⟩
theorem exp47 {n : Nat} (hn : 100 < n) {K : List Nat} {ga : Nat → Nat} {rG : Nat → Option Nat} (hg : Gay K ga rG) {T : Nat → TR} {κ : Nat → Int64} (hk : keyOk T κ) (hs : ∀ w, srt (T w).1) {w c : Nat} {lw : Nat → Nat} (hc : c ≤ 40) {rI : Nat → Int32} {rA rR : Nat → Nat → Int32} (h11 : rI 11 = nI (T w).1.length) (h16 : rowIs (T w).1 (rA 16)) (hrow : ∀ i, i < c → rA 8 i = nI (T (lw i)).1.length ∧ rowIs (T (lw i)).1 (rR (ga i))) (rc : (Int32 × Int32 × (Nat → Int32) × (Nat → Nat → Int32) × (Nat → Nat → Int32)) → Option (Int32 × (Nat → Int32) × (Nat → Nat → Int32) × (Nat → Nat → Int32))) (x2 : Int32) :
    ∃ i, i ≤ c ∧ lp (f_X5_explore_l47 n K rc (nI c) x2 rI rA rG rR) n (0 : Int32) = f_X5_explore_b66 n K rc (nI c) x2 (nI i) rI rA rG rR ∧ (∀ j, j < i → κ w ≠ κ (lw j)) ∧ (i < c → κ w = κ (lw i)) := by
  have loop : ∀ (N k : Nat), k ≤ c → c - k < N → (∀ j, j < k → κ w ≠ κ (lw j)) → ∃ i, i ≤ c ∧ lp (f_X5_explore_l47 n K rc (nI c) x2 rI rA rG rR) N (nI k) = f_X5_explore_b66 n K rc (nI c) x2 (nI i) rI rA rG rR ∧ (∀ j, j < i → κ w ≠ κ (lw j)) ∧ (i < c → κ w = κ (lw i)) := by
    intro N
    induction N with
    | zero => intro k h1 h2; omega
    | succ N ih =>
      intro k h1 h2 h3
      rw [lp_succ]
      have e : ∀ rc47, f_X5_explore_l47 n K rc (nI c) x2 rI rA rG rR rc47 (nI k) = (if nI c ≤ nI k then f_X5_explore_b66 n K rc (nI c) x2 (nI k) rI rA rG rR else (f_X5_isPath n K (nI k) rI rA rG rR).bind fun p => if p.1 = 0 then rc47 (nI k + 1) else f_X5_explore_b66 n K rc (nI c) x2 (nI k) rI rA rG rR) := fun _ => rfl
      rw [e]
      by_cases d : k = c
      · subst d
        rw [if_pos (Int32.le_refl _)]
        exact ⟨k, Nat.le_refl _, rfl, h3, fun q => absurd q (Nat.lt_irrefl _)⟩
      · have hkc : k < c := by omega
        rw [if_neg (nI_ge (a := k) (b := c) hkc (by omega)), isPath_eq hn hg (by omega) (hs (lw k)) (hs w) (hrow k hkc).1 h11 (hrow k hkc).2 h16]
        simp only [Option.bind_some]
        by_cases y : (T (lw k)).1 = (T w).1
        · rw [if_pos y, if_neg (by decide)]
          exact ⟨k, h1, rfl, h3, fun _ => ((key_ds hk (lw k) w).mpr y).symm⟩
        · rw [if_neg y, if_pos rfl, nI_1]
          refine ih (k + 1) (by omega) (by omega) (fun j hj => ?_)
          by_cases z : j = k
          · subst z
            exact fun q => y ((key_ds hk (lw j) w).mp q.symm)
          · exact h3 j (by omega)
  exact loop n 0 (Nat.zero_le _) (by omega) (fun j hj => absurd hj (Nat.not_lt_zero j))
theorem exp95 {n : Nat} (hn : 100 < n) {K : List Nat} {ga : Nat → Nat} {rG : Nat → Option Nat} (hg : Gay K ga rG) {a : List (Nat × Bool)} (ha : srt a) {c : Nat} (hc : c < 40) {rI : Nat → Int32} {rA : Nat → Nat → Int32} (h11 : rI 11 = nI a.length) (h16 : rowIs a (rA 16)) (rc : (Int32 × Int32 × (Nat → Int32) × (Nat → Nat → Int32) × (Nat → Nat → Int32)) → Option (Int32 × (Nat → Int32) × (Nat → Nat → Int32) × (Nat → Nat → Int32))) (x1 x2 : Int32) (rR : Nat → Nat → Int32) :
    ∃ rR', lp (f_X5_explore_l95 n K rc x1 x2 (nI c) rI rA rG) n ((0 : Int32), rR) = f_X5_explore_b126 n K rc x1 x2 (nI c) rI rA rG rR' ∧ rowIs a (rR' (ga c)) ∧ ∀ r, r ≠ ga c → rR' r = rR r := by
  have la := srt_len ha
  obtain ⟨g1, g2⟩ := hg.1 c hc
  have cc : (nI c).toNatClampNeg = c := nI_clamp (by omega)
  have loop : ∀ (N k : Nat) (rQ : Nat → Nat → Int32), k ≤ a.length → a.length - k < N → (∀ (j : Nat) (q : Nat × Bool), j < k → a[j]? = some q → rQ (ga c) j = code2 q) → (∀ r, r ≠ ga c → rQ r = rR r) → ∃ rR', lp (f_X5_explore_l95 n K rc x1 x2 (nI c) rI rA rG) N (nI k, rQ) = f_X5_explore_b126 n K rc x1 x2 (nI c) rI rA rG rR' ∧ rowIs a (rR' (ga c)) ∧ ∀ r, r ≠ ga c → rR' r = rR r := by
    intro N
    induction N with
    | zero => intro k rQ h1 h2; omega
    | succ N ih =>
      intro k rQ h1 h2 h3 h4
      rw [lp_succ]
      have e : ∀ rc95, f_X5_explore_l95 n K rc x1 x2 (nI c) rI rA rG rc95 (nI k, rQ) = (if (rI 11) ≤ nI k then f_X5_explore_b126 n K rc x1 x2 (nI c) rI rA rG rQ else if inb (nI c) 40 = true then (rG (nI c).toNatClampNeg).bind fun a24 => if a24 ∈ K then if inb (nI k) 60 = true then if inb (nI k) 60 = true then rc95 ((nI k + 1), (up2 rQ a24 (nI k).toNatClampNeg (rA 16 (nI k).toNatClampNeg))) else none else none else none else none) := fun _ => rfl
      rw [e, h11]
      by_cases d : k = a.length
      · subst d
        rw [if_pos (Int32.le_refl _)]
        exact ⟨rQ, rfl, fun j q hq => h3 j q (List.getElem?_eq_some_iff.mp hq).1 hq, h4⟩
      · have ck : (nI k).toNatClampNeg = k := nI_clamp (by omega)
        rw [if_neg (nI_ge (a := k) (b := a.length) (by omega) (by omega)), if_pos (inb_lt hc (by decide)), cc, g1]
        simp only [Option.bind_some]
        rw [if_pos g2, if_pos (inb_lt (show k < 60 by omega) (by decide)), if_pos (inb_lt (show k < 60 by omega) (by decide)), ck, nI_1]
        refine ih (k + 1) _ (by omega) (by omega) (fun j q hj hq => ?_) (fun r hr => by rw [up2_ne _ _ _ hr]; exact h4 r hr)
        rw [up2_same]
        unfold upd
        by_cases z : j = k
        · rw [if_pos z]
          subst z
          exact h16 j q hq
        · rw [if_neg z]
          exact h3 j q (by omega) hq
  exact loop n 0 rR (Nat.zero_le _) (by omega) (fun j q hj _ => absurd hj (Nat.not_lt_zero j)) (fun _ _ => rfl)
