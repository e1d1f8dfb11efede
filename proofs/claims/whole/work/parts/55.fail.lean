-- failures: at a place there is one kind of them
def ek (k : Int32) : Nat := if isDv k = true then 1 else if k = 25 ∨ k = 26 then 2 else if k = 29 then 3 else if k = 30 then 4 else 0
theorem ek_le (k : Int32) : ek k ≤ 4 := by
  unfold ek
  repeat' split
  all_goals omega
theorem stp_ek {k x e r : Int32} {R : Nat → Int32} {d : Bool} (h : stp k x R d = some (e, r)) (he : ¬ e = 0) : e = nI (ek k) := by
  unfold stp at h
  unfold ek
  split at h
  · rename_i c
    rw [if_pos c]
    cases d
    · simp at h; rw [← h.1]; rfl
    · simp at h
  · rename_i c
    rw [if_neg c]
    split at h
    · rename_i c2
      rw [if_pos c2]
      cases d
      · simp at h; rw [← h.1]; rfl
      · simp at h
    · rename_i c2
      rw [if_neg c2]
      split at h
      · rename_i c3
        rw [if_pos c3]
        cases d
        · simp at h; rw [← h.1]; rfl
        · simp at h
      · rename_i c3
        rw [if_neg c3]
        split at h
        · rename_i c4
          rw [if_pos c4]
          simp at h; rw [← h.1]; rfl
        · split at h
          · simp at h
            exact absurd h.1.symm he
          · cases h
theorem tr_fail {P : Nat → Nat → Int32} {z : Nat} {inp : Int32 → Int32} {ov : Option (Nat → Bool)} : ∀ (f pc : Nat) (R C : Nat → Int32), ¬ enT (tr P z inp ov f pc R C) = 0 → plT (tr P z inp ov f pc R C) < z ∧ enT (tr P z inp ov f pc R C) = nI (ek (P 0 (plT (tr P z inp ov f pc R C))))
  | 0, pc, R, C, h => absurd rfl h
  | f + 1, pc, R, C, h => by
    by_cases c : z ≤ pc
    · rw [tr_end c] at h; exact absurd rfl h
    · have hlt : pc < z := by omega
      obtain ⟨d, hd⟩ : ∃ d, dec ov (nd (P 0 pc) (P 1 pc) (P 2 pc) (P 3 pc) R) pc = d := ⟨_, rfl⟩
      cases hs : stp (P 0 pc) (P 1 pc) R d with
      | some er =>
        obtain ⟨e, r⟩ := er
        rw [tr_stop hlt hd hs] at h ⊢
        exact ⟨hlt, stp_ek hs h⟩
      | none =>
        rw [tr_go hlt hd hs rfl] at h ⊢
        exact tr_fail f _ _ _ h
theorem TT_fail {k : Nat} {wd : Nat → Nat} {sg : Nat → Int32} {P : Nat → Nat → Int32} {z : Nat} {w : Nat} (h : ¬ enT (TT k wd sg P z w) = 0) : plT (TT k wd sg P z w) < z ∧ enT (TT k wd sg P z w) = nI (ek (P 0 (plT (TT k wd sg P z w)))) := tr_fail 61 0 _ _ h
/-- the one of the least word among those with a property -/
def bst (F : Nat → Bool) (lw : Nat → Nat) : Nat → Option Nat
  | 0 => none
  | m + 1 => match bst F lw m with
    | none => if F m then some m else none
    | some j => if F m && decide (lw m < lw j) then some m else some j
theorem bst_some {F : Nat → Bool} {lw : Nat → Nat} : ∀ {m j : Nat}, bst F lw m = some j → j < m ∧ F j = true
  | 0, j, h => by cases h
  | m + 1, j, h => by
    have e : bst F lw (m + 1) = match bst F lw m with
      | none => if F m then some m else none
      | some j => if F m && decide (lw m < lw j) then some m else some j := rfl
    rw [e] at h
    cases hb : bst F lw m with
    | none =>
      rw [hb] at h
      cases hF : F m with
      | true => simp [hF] at h; subst h; exact ⟨Nat.lt_succ_self _, hF⟩
      | false => simp [hF] at h
    | some i =>
      rw [hb] at h
      have ih := bst_some hb
      by_cases c : (F m && decide (lw m < lw i)) = true
      · simp only [c, if_true, Option.some.injEq] at h
        subst h
        simp at c
        exact ⟨Nat.lt_succ_self _, c.1⟩
      · simp only [c, Bool.false_eq_true, if_false, Option.some.injEq] at h
        subst h
        exact ⟨Nat.lt_succ_of_lt ih.1, ih.2⟩
theorem bst_none {F : Nat → Bool} {lw : Nat → Nat} : ∀ {m : Nat}, bst F lw m = none ↔ ∀ i, i < m → F i = false
  | 0 => ⟨fun _ i h => absurd h (Nat.not_lt_zero i), fun _ => rfl⟩
  | m + 1 => by
    have e : bst F lw (m + 1) = match bst F lw m with
      | none => if F m then some m else none
      | some j => if F m && decide (lw m < lw j) then some m else some j := rfl
    rw [e]
    constructor
    · intro h i hi
      cases hb : bst F lw m with
      | none =>
        rw [hb] at h
        have ih := bst_none.mp hb
        by_cases c : i = m
        · subst c
          cases hF : F i with
          | true => simp [hF] at h
          | false => rfl
        · exact ih i (by omega)
      | some j =>
        rw [hb] at h
        dsimp only at h
        split at h <;> cases h
    · intro h
      have ih := bst_none (F := F) (lw := lw) (m := m) |>.mpr (fun i hi => h i (by omega))
      rw [ih]
      simp [h m (by omega)]
theorem bst_cong {F F' : Nat → Bool} {lw : Nat → Nat} : ∀ {m : Nat}, (∀ i, i < m → F i = F' i) → bst F lw m = bst F' lw m
  | 0, _ => rfl
  | m + 1, h => by
    show (match bst F lw m with | none => _ | some j => _) = (match bst F' lw m with | none => _ | some j => _)
    rw [bst_cong (fun i hi => h i (by omega)), h m (by omega)]
theorem ff_loop {n : Nat} {L : List Nat} {ad lw : Nat → Nat} {c : Nat} {r : Int32} {tI : Nat → Int32} {tJ : Nat → Int64} {tP : Nat → Option Nat} {qI : Nat → Nat → Int32} (hl : Lay L ad tP) (hc : c ≤ 40) (h0 : tI 0 = nI c) {F : Nat → Bool} (hF : ∀ i, i < c → F i = (decide (¬ qI (ad i) 0 = 0) && decide (qI (ad i) 1 = r))) (h2 : ∀ i, i < c → qI (ad i) 2 = nI (lw i) ∧ lw i < 4096) :
    ∀ (N m : Nat), m ≤ c → c - m < N → lp (f_X0_firstFailing_l14 n L r tI tJ tP qI) N ((bst F lw m).map ad, nI m) = some ((bst F lw c).map ad, ()) := by
  intro N
  induction N with
  | zero => intro m h1 h; omega
  | succ N ih =>
    intro m h1 h3
    rw [lp_succ]
    generalize lp (f_X0_firstFailing_l14 n L r tI tJ tP qI) N = rcv at ih ⊢
    by_cases d : m = c
    · subst d
      unfold f_X0_firstFailing_l14
      cases bst F lw m with
      | none => simp only [Option.map_none]; rw [h0, if_pos (Int32.le_refl _)]
      | some j => simp only [Option.map_some]; rw [h0, if_pos (Int32.le_refl _)]
    · have hm : m < c := by omega
      obtain ⟨l1, l2⟩ := hl.1 m (by omega)
      have g := nI_ge (a := m) (b := c) hm (by omega)
      have ib : inb (nI m) 40 = true := inb_lt (by omega) (by decide)
      have cm : (nI m).toNatClampNeg = m := nI_clamp (by omega)
      have nxt := ih (m + 1) (by omega) (by omega)
      have e : bst F lw (m + 1) = match bst F lw m with
        | none => if F m then some m else none
        | some j => if F m && decide (lw m < lw j) then some m else some j := rfl
      rw [e] at nxt
      have hFm := hF m hm
      cases hb : bst F lw m with
      | none =>
        rw [hb] at nxt
        simp only [Option.map_none]
        unfold f_X0_firstFailing_l14 f_X0_firstFailing_b53 f_X0_firstFailing_b54 f_X0_firstFailing_b77 f_X0_firstFailing_b80
        simp only [h0, if_neg g, if_pos ib, cm, l1, Option.bind_some, if_pos l2, nI_1, if_true, if_neg ne10]
        by_cases q0 : qI (ad m) 0 = 0
        · have : F m = false := by rw [hFm]; simp [q0]
          rw [this] at nxt
          rw [if_pos q0]
          exact nxt
        · rw [if_neg q0]
          by_cases q1 : qI (ad m) 1 = r
          · have : F m = true := by rw [hFm]; simp [q0, q1]
            rw [this] at nxt
            rw [if_pos q1]
            exact nxt
          · have : F m = false := by rw [hFm]; simp [q1]
            rw [this] at nxt
            rw [if_neg q1]
            exact nxt
      | some j =>
        rw [hb] at nxt
        obtain ⟨hj, -⟩ := bst_some hb
        obtain ⟨k1, k2⟩ := hl.1 j (by omega)
        obtain ⟨w1, w2⟩ := h2 m hm
        obtain ⟨w3, w4⟩ := h2 j (by omega)
        simp only [Option.map_some]
        unfold f_X0_firstFailing_l14 f_X0_firstFailing_b53 f_X0_firstFailing_b54 f_X0_firstFailing_b77 f_X0_firstFailing_b80
        simp only [h0, if_neg g, if_pos ib, cm, l1, Option.bind_some, if_pos l2, nI_1, if_true, if_neg ne10, if_pos k2, w1, w3]
        by_cases q0 : qI (ad m) 0 = 0
        · have : F m = false := by rw [hFm]; simp [q0]
          rw [this] at nxt
          rw [if_pos q0]
          exact nxt
        · rw [if_neg q0]
          by_cases q1 : qI (ad m) 1 = r
          · have : F m = true := by rw [hFm]; simp [q0, q1]
            rw [this] at nxt
            rw [if_pos q1]
            by_cases lt : lw m < lw j
            · rw [if_neg (nI_ge lt (by omega))]
              simp only [lt, decide_true, Bool.and_self, if_true] at nxt
              exact nxt
            · rw [if_pos (nI_le (by omega) (by omega))]
              simp only [lt, decide_false, Bool.and_false, Bool.false_eq_true, if_false] at nxt
              exact nxt
          · have : F m = false := by rw [hFm]; simp [q1]
            rw [this] at nxt
            rw [if_neg q1]
            exact nxt
def vv (lw : Nat → Nat) : Option Nat → Int32
  | none => -1
  | some j => nI (lw j)
theorem nI_ne1 {j : Nat} (h : j < 2 ^ 31) : ¬ nI j = (-1 : Int32) := fun q => by
  have h1 := congrArg Int32.toInt q
  rw [nI_toInt h] at h1
  have : (-1 : Int32).toInt = -1 := by decide
  omega
theorem fg_loop {n : Nat} {K : List Nat} {lw : Nat → Nat} {c : Nat} {x1 x2 : Int32} {rI : Nat → Int32} {rA : Nat → Nat → Int32} (hc : c ≤ 40) (h6 : rI 6 = nI c) {F : Nat → Bool} (hF : ∀ i, i < c → F i = (decide (rA 6 i = x1) && decide (rA 7 i = x2))) (h2 : ∀ i, i < c → rA 9 i = nI (lw i) ∧ lw i < 4096) :
    ∀ (N m : Nat), m ≤ c → c - m < N → lp (f_X5_failing_l5 n K x1 x2 rI rA) N (vv lw (bst F lw m), nI m) = some (vv lw (bst F lw c), ()) := by
  intro N
  induction N with
  | zero => intro m h1 h; omega
  | succ N ih =>
    intro m h1 h3
    rw [lp_succ]
    generalize lp (f_X5_failing_l5 n K x1 x2 rI rA) N = rcv at ih ⊢
    unfold f_X5_failing_l5
    dsimp only
    by_cases d : m = c
    · subst d
      rw [h6, if_pos (Int32.le_refl _)]
    · have hm : m < c := by omega
      have g := nI_ge (a := m) (b := c) hm (by omega)
      have ib : inb (nI m) 40 = true := inb_lt (by omega) (by decide)
      have cm : (nI m).toNatClampNeg = m := nI_clamp (by omega)
      have nxt := ih (m + 1) (by omega) (by omega)
      have e : bst F lw (m + 1) = match bst F lw m with
        | none => if F m then some m else none
        | some j => if F m && decide (lw m < lw j) then some m else some j := rfl
      rw [e] at nxt
      have hFm := hF m hm
      obtain ⟨w1, w2⟩ := h2 m hm
      unfold f_X5_failing_b60 f_X5_failing_b52 f_X5_failing_b60
      simp only [h6, if_neg g, if_pos ib, cm, nI_1, w1]
      by_cases q0 : rA 6 m = x1
      · by_cases q1 : rA 7 m = x2
        · have : F m = true := by rw [hFm]; simp [q0, q1]
          rw [this] at nxt
          rw [if_pos q0, if_pos q1]
          cases hb : bst F lw m with
          | none =>
            rw [hb] at nxt
            rw [if_pos (show vv lw none = (-1 : Int32) from rfl)]
            exact nxt
          | some j =>
            rw [hb] at nxt
            obtain ⟨hj, -⟩ := bst_some hb
            obtain ⟨w3, w4⟩ := h2 j (by omega)
            have ev : vv lw (some j) = nI (lw j) := rfl
            rw [ev, if_neg (nI_ne1 (by omega))]
            by_cases lt : lw m < lw j
            · rw [if_neg (nI_ge lt (by omega))]
              simp only [lt, decide_true, Bool.and_self, if_true] at nxt
              exact nxt
            · rw [if_pos (nI_le (by omega) (by omega))]
              simp only [lt, decide_false, Bool.and_false, Bool.false_eq_true, if_false] at nxt
              exact nxt
        · have : F m = false := by rw [hFm]; simp [q1]
          rw [this] at nxt
          rw [if_pos q0, if_neg q1]
          cases hb : bst F lw m with
          | none => rw [hb] at nxt; exact nxt
          | some j => rw [hb] at nxt; exact nxt
      · have : F m = false := by rw [hFm]; simp [q0]
        rw [this] at nxt
        rw [if_neg q0]
        cases hb : bst F lw m with
        | none => rw [hb] at nxt; exact nxt
        | some j => rw [hb] at nxt; exact nxt
/-- what the model's search for a failure finds -/
def fgOk (n : Nat) (K : List Nat) (z : Nat) (S : Nat → Bool) (en : Nat → Nat) (val : Nat → Int32) (rI : Nat → Int32) (rA : Nat → Nat → Int32) : Prop :=
  (∀ p, p < z → ∀ h, 1 ≤ h → h ≤ 4 → f_X5_failing n K (nI h) (nI p) rI rA = some ((if S p = true ∧ h = en p then val p else -1), ())) ∧ ∀ p, p < z → S p = true → 1 ≤ en p ∧ en p ≤ 4 ∧ ¬ val p = -1
theorem fails_in {n : Nat} {K : List Nat} {z : Nat} {S : Nat → Bool} {en : Nat → Nat} {val : Nat → Int32} {rI : Nat → Int32} {rA : Nat → Nat → Int32} (h : fgOk n K z S en val rI rA) {p : Nat} (hp : p < z) (rc : (Int32 × Int32) → Option (Int32 × Unit)) (a : Nat) :
    ∀ (N h : Nat), 1 ≤ h → h ≤ 5 → 5 - h < N → lp (f_X5_failures_l14 n K rc (nI p) rI rA) N (nI (a + if S p = true ∧ en p < h then 1 else 0), nI h) = rc (nI (a + if S p = true then 1 else 0), nI (p + 1)) := by
  intro N
  induction N with
  | zero => intro h _ _ q; omega
  | succ N ih =>
    intro hh h1 h2 h3
    rw [lp_succ]
    generalize lp (f_X5_failures_l14 n K rc (nI p) rI rA) N = rcv at ih ⊢
    unfold f_X5_failures_l14
    dsimp only
    by_cases d : hh = 5
    · subst d
      rw [if_pos (show (5 : Int32) ≤ nI 5 by decide)]
      unfold f_X5_failures_b43
      rw [nI_1]
      by_cases s : S p = true
      · have := (h.2 p hp s).2.1
        rw [if_pos ⟨s, by omega⟩, if_pos s]
      · rw [if_neg (fun q => s q.1), if_neg s]
    · rw [if_neg (show ¬ (5 : Int32) ≤ nI hh from nI_ge (a := hh) (b := 5) (by omega) (by decide)), h.1 p hp hh h1 (by omega)]
      simp only [Option.bind_some]
      unfold f_X5_failures_b35
      have nxt := ih (hh + 1) (by omega) (by omega) (by omega)
      by_cases s : S p = true ∧ hh = en p
      · rw [if_pos s, if_neg (h.2 p hp s.1).2.2, if_neg (show ¬ (S p = true ∧ en p < hh) from fun q => by have := q.2; omega), Nat.add_zero, nI_1, nI_1]
        rw [if_pos (show S p = true ∧ en p < hh + 1 from ⟨s.1, by omega⟩)] at nxt
        exact nxt
      · rw [if_neg s, if_pos rfl, nI_1]
        have e : (if S p = true ∧ en p < hh + 1 then 1 else 0) = (if S p = true ∧ en p < hh then 1 else 0 : Nat) := by
          by_cases s1 : S p = true
          · have : hh ≠ en p := fun q => s ⟨s1, q⟩
            by_cases s2 : en p < hh
            · rw [if_pos ⟨s1, by omega⟩, if_pos ⟨s1, s2⟩]
            · rw [if_neg (fun q => by have := q.2; omega), if_neg (fun q => s2 q.2)]
          · rw [if_neg (fun q => s1 q.1), if_neg (fun q => s1 q.1)]
        rw [e] at nxt
        rw [Int32.add_zero]
        exact nxt
theorem failures_eq {n : Nat} (hn : 5000 < n) {K : List Nat} {z : Nat} (hz : z ≤ 60) {S : Nat → Bool} {en : Nat → Nat} {val : Nat → Int32} {rI : Nat → Int32} {rA : Nat → Nat → Int32} (h : fgOk n K z S en val rI rA) (h3 : rI 3 = nI z) : f_X5_failures n K rI rA = some (nI (ct S z), ()) := by
  have loop : ∀ (N p : Nat), p ≤ z → z - p < N → lp (f_X5_failures_l4 n K rI rA) N (nI (ct S p), nI p) = some (nI (ct S z), ()) := by
    intro N
    induction N with
    | zero => intro p _ q; omega
    | succ N ih =>
      intro p h1 h2
      rw [lp_succ]
      generalize lp (f_X5_failures_l4 n K rI rA) N = rcv at ih ⊢
      unfold f_X5_failures_l4
      dsimp only
      by_cases d : p = z
      · subst d
        rw [h3, if_pos (Int32.le_refl _)]
      · rw [h3, if_neg (nI_ge (a := p) (b := z) (by omega) (by omega))]
        have e := fails_in h (show p < z by omega) rcv (ct S p) n 1 (by omega) (by omega) (by omega)
        have e0 : (if S p = true ∧ en p < 1 then 1 else 0 : Nat) = 0 := if_neg (fun q => by have := (h.2 p (by omega) q.1).1; have := q.2; omega)
        rw [e0, Nat.add_zero] at e
        have e' : lp (f_X5_failures_l14 n K rcv (nI p) rI rA) n (nI (ct S p), (1 : Int32)) = _ := e
        rw [e']
        exact ih (p + 1) (by omega) (by omega)
  exact loop n 0 (by omega) (by omega)
theorem fail_in {n : Nat} {K : List Nat} {z : Nat} {S : Nat → Bool} {en : Nat → Nat} {val : Nat → Int32} {rI : Nat → Int32} {rA : Nat → Nat → Int32} (h : fgOk n K z S en val rI rA) {p : Nat} (hp : p < z) (rc : (Int32 × Int32) → Option (Int32 × Unit)) (x2 : Int32) :
    ∀ (N h r : Nat), r < 2 ^ 31 → 1 ≤ h → h ≤ 5 → 5 - h < N → lp (f_X5_failure_l23 n K rc x2 (nI p) rI rA) N (nI r, nI h) = if S p = true ∧ h ≤ en p then (if r = 0 then f_X5_failure_b52 n K x2 (nI p) (nI (en p)) (val p) rI rA else rc (nI (r - 1), nI (p + 1))) else rc (nI r, nI (p + 1)) := by
  intro N
  induction N with
  | zero => intro h _ _ _ _ q; omega
  | succ N ih =>
    intro hh r hr h1 h2 h3
    rw [lp_succ]
    generalize lp (f_X5_failure_l23 n K rc x2 (nI p) rI rA) N = rcv at ih ⊢
    unfold f_X5_failure_l23
    dsimp only
    by_cases d : hh = 5
    · subst d
      rw [if_pos (show (5 : Int32) ≤ nI 5 by decide)]
      unfold f_X5_failure_b92
      rw [nI_1, if_neg (fun q => by have := (h.2 p hp q.1).2.1; have := q.2; omega)]
    · rw [if_neg (show ¬ (5 : Int32) ≤ nI hh from nI_ge (a := hh) (b := 5) (by omega) (by decide)), h.1 p hp hh h1 (by omega)]
      simp only [Option.bind_some]
      unfold f_X5_failure_b86
      by_cases s : S p = true ∧ hh = en p
      · rw [if_pos s, if_neg (h.2 p hp s.1).2.2, if_pos (show S p = true ∧ hh ≤ en p from ⟨s.1, by omega⟩)]
        by_cases r0 : r = 0
        · subst r0
          rw [if_pos (show nI 0 = 0 from rfl), if_pos rfl, ← s.2]
        · rw [if_neg (show ¬ nI r = 0 from fun q => r0 ((nI_eq (a := r) (b := 0) hr (by decide)).mp q)), if_neg r0, sb_m1 (by omega), nI_1, ih (hh + 1) (r - 1) (by omega) (by omega) (by omega) (by omega), if_neg (fun q => by have := q.2; omega)]
      · rw [if_neg s, if_pos rfl, nI_1, ih (hh + 1) r hr (by omega) (by omega) (by omega)]
        by_cases s1 : S p = true
        · have : hh ≠ en p := fun q => s ⟨s1, q⟩
          by_cases s2 : hh ≤ en p
          · rw [if_pos (show S p = true ∧ hh + 1 ≤ en p from ⟨s1, by omega⟩), if_pos (show S p = true ∧ hh ≤ en p from ⟨s1, s2⟩)]
          · rw [if_neg (show ¬ (S p = true ∧ hh + 1 ≤ en p) from fun q => by have := q.2; omega), if_neg (show ¬ (S p = true ∧ hh ≤ en p) from fun q => s2 q.2)]
        · rw [if_neg (show ¬ (S p = true ∧ hh + 1 ≤ en p) from fun q => s1 q.1), if_neg (show ¬ (S p = true ∧ hh ≤ en p) from fun q => s1 q.1)]
theorem ct_step (S : Nat → Bool) (p : Nat) : ct S (p + 1) = ct S p + if S p = true then 1 else 0 := rfl
theorem failure_yes {n : Nat} (hn : 5000 < n) {K : List Nat} {z : Nat} (hz : z ≤ 60) {S : Nat → Bool} {en : Nat → Nat} {val : Nat → Int32} {rI : Nat → Int32} {rA : Nat → Nat → Int32} (h : fgOk n K z S en val rI rA) (h3 : rI 3 = nI z) (x2 : Int32) {q : Nat} (hq : q < z) (hS : S q = true) : f_X5_failure n K (nI (ct S q)) x2 rI rA = f_X5_failure_b52 n K x2 (nI q) (nI (en q)) (val q) rI rA := by
  have hcq := ct_le S q
  have loop : ∀ (N p : Nat), p ≤ q → z - p < N → lp (f_X5_failure_l11 n K x2 rI rA) N (nI (ct S q - ct S p), nI p) = f_X5_failure_b52 n K x2 (nI q) (nI (en q)) (val q) rI rA := by
    intro N
    induction N with
    | zero => intro p _ h; omega
    | succ N ih =>
      intro p h1 h2
      rw [lp_succ]
      generalize lp (f_X5_failure_l11 n K x2 rI rA) N = rcv at ih ⊢
      unfold f_X5_failure_l11
      dsimp only
      have hp : p < z := by omega
      rw [h3, if_neg (nI_ge (a := p) (b := z) (by omega) (by omega))]
      have e := fail_in h hp rcv x2 n 1 (ct S q - ct S p) (by omega) (by omega) (by omega) (by omega)
      have e' : lp (f_X5_failure_l23 n K rcv x2 (nI p) rI rA) n (nI (ct S q - ct S p), (1 : Int32)) = _ := e
      rw [e']
      by_cases d : p = q
      · subst d
        rw [if_pos ⟨hS, (h.2 p hq hS).1⟩, if_pos (by omega)]
      · by_cases s : S p = true
        · have hlt := ct_lt (S := S) (show p < q by omega) s
          rw [if_pos ⟨s, (h.2 p hp s).1⟩, if_neg (by omega)]
          have := ih (p + 1) (by omega) (by omega)
          rw [ct_step, if_pos s] at this
          rw [show ct S q - ct S p - 1 = ct S q - (ct S p + 1) by omega]
          exact this
        · rw [if_neg (fun c => s c.1)]
          have := ih (p + 1) (by omega) (by omega)
          rw [ct_step, if_neg s, Nat.add_zero] at this
          exact this
  unfold f_X5_failure
  rw [if_pos (nI_pos' (by omega))]
  exact loop n 0 (by omega) (by omega)
theorem failure_no {n : Nat} (hn : 5000 < n) {K : List Nat} {z : Nat} (hz : z ≤ 60) {S : Nat → Bool} {en : Nat → Nat} {val : Nat → Int32} {rI : Nat → Int32} {rA : Nat → Nat → Int32} (h : fgOk n K z S en val rI rA) (h3 : rI 3 = nI z) (x2 u1 : Int32) (no : ∀ q, q < z → S q = true → u1 ≠ nI (ct S q)) : f_X5_failure n K u1 x2 rI rA = some (-1, ()) := by
  unfold f_X5_failure
  by_cases neg : u1 < 0
  · rw [if_neg (Int32.not_le.mpr neg)]
  · obtain ⟨kk, hk, rfl⟩ := nI_of neg
    rw [if_pos (Int32.not_lt.mp neg)]
    have loop : ∀ (N p : Nat), p ≤ z → z - p < N → ct S p ≤ kk → lp (f_X5_failure_l11 n K x2 rI rA) N (nI (kk - ct S p), nI p) = some (-1, ()) := by
      intro N
      induction N with
      | zero => intro p _ h; omega
      | succ N ih =>
        intro p h1 h2 hck
        rw [lp_succ]
        generalize lp (f_X5_failure_l11 n K x2 rI rA) N = rcv at ih ⊢
        unfold f_X5_failure_l11
        dsimp only
        by_cases d : p = z
        · subst d
          rw [h3, if_pos (Int32.le_refl _)]
        · have hp : p < z := by omega
          rw [h3, if_neg (nI_ge (a := p) (b := z) (by omega) (by omega))]
          have e := fail_in h hp rcv x2 n 1 (kk - ct S p) (by omega) (by omega) (by omega) (by omega)
          have e' : lp (f_X5_failure_l23 n K rcv x2 (nI p) rI rA) n (nI (kk - ct S p), (1 : Int32)) = _ := e
          rw [e']
          by_cases s : S p = true
          · have hne : kk ≠ ct S p := fun q => no p hp s (by rw [q])
            rw [if_pos ⟨s, (h.2 p hp s).1⟩, if_neg (by omega)]
            have := ih (p + 1) (by omega) (by omega) (by rw [ct_step, if_pos s]; omega)
            rw [ct_step, if_pos s] at this
            rw [show kk - ct S p - 1 = kk - (ct S p + 1) by omega]
            exact this
          · rw [if_neg (fun c => s c.1)]
            have := ih (p + 1) (by omega) (by omega) (by rw [ct_step, if_neg s]; omega)
            rw [ct_step, if_neg s, Nat.add_zero] at this
            exact this
    exact loop n 0 (by omega) (by omega) (Nat.zero_le _)
