-- what holds between the class's state and the model's
def TT (k : Nat) (wd : Nat → Nat) (sg : Nat → Int32) (P : Nat → Nat → Int32) (z : Nat) : Nat → TR := fun w => runT P z (inpF k wd sg w) none
def InvP (k : Nat) (wd : Nat → Nat) (sg : Nat → Int32) (P : Nat → Nat → Int32) (z : Nat) (pI : Nat → Int32) (pA : Nat → Nat → Int32) (rI : Nat → Int32) (rA : Nat → Nat → Int32) : Prop :=
  cIn k wd sg pI pA ∧ mIn k wd sg (rI 1) (rA 0) (rA 1) ∧ rI 2 = nI (sm wd k) ∧ z ≤ 60 ∧ pI 2 = nI z ∧ rI 3 = nI z ∧ (∀ pc, pc < z → pA 3 pc = P 0 pc ∧ pA 4 pc = P 1 pc ∧ pA 5 pc = P 2 pc ∧ pA 6 pc = P 3 pc) ∧ (∀ pc, pc < z → rA 2 pc = P 0 pc ∧ rA 3 pc = P 1 pc ∧ rA 4 pc = P 2 pc ∧ rA 5 pc = P 3 pc) ∧ wfP P z k ∧ ∃ m d, m ≤ 6 ∧ d ≤ 6 ∧ pI 3 = nI m ∧ rI 4 = nI m ∧ pI 4 = nI d ∧ rI 5 = nI d
def tOk (t : TR) : Prop := srt t.1 ∧ t.2.1.Pairwise (· < ·) ∧ (∀ p ∈ t.2.1, p < 60) ∧ t.2.2.1.2.1 ≤ 60
def InvR (k : Nat) (wd : Nat → Nat) (sg : Nat → Int32) (P : Nat → Nat → Int32) (z : Nat) (bI vI : Nat → Int32) (vJ : Nat → Int64) (vA : Nat → Nat → Int32) (rI : Nat → Int32) (rA : Nat → Nat → Int32) : Prop :=
  (bI 0 = 0 ∧ rI 12 = 0) ∨ (bI 0 = 1 ∧ rI 12 = 1 ∧ ∃ t : TR, tOk t ∧ mRan t vI vJ vA ∧ rI 14 = t.2.2.1.1 ∧ rI 15 = nI t.2.2.1.2.1 ∧ rI 16 = t.2.2.1.2.2 ∧ rI 17 = nI t.2.1.length ∧ rI 18 = nI t.1.length ∧ eqv 16 (rA 17) t.2.2.2.1 ∧ eqv 8 (rA 18) t.2.2.2.2 ∧ ((bI 1 = 1 ∧ rI 19 = 0) ∨ (bI 1 = 0 ∧ rI 19 = 1 ∧ ∃ w, w < 2 ^ sm wd k ∧ rI 13 = nI w ∧ t = TT k wd sg P z w)))
def InvT (k : Nat) (wd : Nat → Nat) (sg : Nat → Int32) (P : Nat → Nat → Int32) (z : Nat) (L : List Nat) (ga : Nat → Nat) (tI : Nat → Int32) (tJ : Nat → Int64) (tP : Nat → Option Nat) (tO : Nat → Int64) (tR : Nat → Int32) (qI : Nat → Nat → Int32) (qJ : Nat → Nat → Int64) (rI : Nat → Int32) (rA rR : Nat → Nat → Int32) : Prop :=
  (tI 0 = 0 ∧ rI 6 = -1 ∧ ∃ ad, Lay L ad tP) ∨ ∃ κ c lw ad, 0 < c ∧ keyOk (TT k wd sg P z) κ ∧ cTab (TT k wd sg P z) κ (2 ^ sm wd k) c lw ad L tI tJ tP tO tR qI qJ ∧ mTab (TT k wd sg P z) κ (2 ^ sm wd k) c lw ga rA rR ∧ rI 6 = nI c
def Inv (L K : List Nat) (rG : Nat → Option Nat) (bI pI : Nat → Int32) (pA : Nat → Nat → Int32) (tI : Nat → Int32) (tJ : Nat → Int64) (tP : Nat → Option Nat) (tO : Nat → Int64) (tR vI : Nat → Int32) (vJ : Nat → Int64) (vA qI : Nat → Nat → Int32) (qJ : Nat → Nat → Int64) (rI : Nat → Int32) (rA rR : Nat → Nat → Int32) : Prop :=
  ∃ k wd sg P z ga, Gay K ga rG ∧ InvP k wd sg P z pI pA rI rA ∧ InvR k wd sg P z bI vI vJ vA rI rA ∧ InvT k wd sg P z L ga tI tJ tP tO tR qI qJ rI rA rR
-- counting
theorem ct_or {p q : Nat → Bool} : ∀ {m : Nat}, (∀ k, k < m → ¬ (p k = true ∧ q k = true)) → ct (fun k => p k || q k) m = ct p m + ct q m
  | 0, _ => rfl
  | m + 1, h => by
    show ct (fun k => p k || q k) m + _ = (ct p m + _) + (ct q m + _)
    rw [ct_or (fun k hk => h k (by omega))]
    have := h m (by omega)
    cases hp : p m <;> cases hq : q m <;> simp [hp, hq] at this ⊢ <;> omega
theorem ct_one (a : Nat) : ∀ m, ct (fun k => decide (k = a)) m = if a < m then 1 else 0
  | 0 => rfl
  | m + 1 => by
    show ct (fun k => decide (k = a)) m + (if decide (m = a) = true then 1 else 0) = _
    rw [ct_one a m]
    simp only [decide_eq_true_eq]
    split <;> split <;> split <;> omega
theorem ct_mem : ∀ (l : List Nat), l.Pairwise (· < ·) → ∀ m, ct (fun p => decide (p ∈ l)) m = (l.filter (fun x => decide (x < m))).length
  | [], _, m => by
    have : (fun p : Nat => decide (p ∈ ([] : List Nat))) = fun _ => false := by funext p; simp
    rw [this, ct_false (fun _ _ => rfl)]
    rfl
  | a :: l, h, m => by
    obtain ⟨h1, h2⟩ := List.pairwise_cons.mp h
    have e : (fun p : Nat => decide (p ∈ a :: l)) = fun p => decide (p = a) || decide (p ∈ l) := by funext p; simp
    rw [e, ct_or (fun k _ => fun ⟨c1, c2⟩ => by
      have c1' : k = a := of_decide_eq_true c1
      have c2' : k ∈ l := of_decide_eq_true c2
      have := h1 k c2'
      omega), ct_one, ct_mem l h2 m]
    by_cases c : a < m
    · rw [if_pos c, List.filter_cons_of_pos (by simpa using c)]
      simp only [List.length_cons]
      omega
    · rw [if_neg c, List.filter_cons_of_neg (by simpa using c), Nat.zero_add]
theorem ct_mem_all {l : List Nat} (h : l.Pairwise (· < ·)) {m : Nat} (hm : ∀ p ∈ l, p < m) : ct (fun p => decide (p ∈ l)) m = l.length := by
  rw [ct_mem l h m, List.filter_eq_self.mpr (fun a ha => decide_eq_true (hm a ha))]
theorem inD_map (ds : List (Nat × Bool)) : inD ds = fun p => decide (p ∈ ds.map Prod.fst) := by
  funext p
  unfold inD
  rw [Bool.eq_iff_iff, List.any_eq_true, decide_eq_true_iff, List.mem_map]
  exact ⟨fun ⟨x, h1, h2⟩ => ⟨x, h1, by simpa using h2⟩, fun ⟨x, h1, h2⟩ => ⟨x, h1, by simpa using h2⟩⟩
theorem srt_map {ds : List (Nat × Bool)} (h : srt ds) : (ds.map Prod.fst).Pairwise (· < ·) := List.pairwise_map.mpr h.1
theorem ct_inD {ds : List (Nat × Bool)} (h : srt ds) : ct (inD ds) 60 = ds.length := by
  rw [inD_map, ct_mem_all (srt_map h) (fun p hp => by obtain ⟨x, h1, rfl⟩ := List.mem_map.mp hp; exact h.2 x h1), List.length_map]
theorem ct_inD_at {ds : List (Nat × Bool)} (h : srt ds) {j : Nat} {q : Nat × Bool} (hq : ds[j]? = some q) : ct (inD ds) q.1 = j := by
  obtain ⟨hj, e⟩ := List.getElem?_eq_some_iff.mp hq
  rw [inD_map, ct_mem _ (srt_map h)]
  have hs : ds = ds.take j ++ q :: ds.drop (j + 1) := by
    rw [← e]
    conv => lhs; rw [← List.take_append_drop j ds]
    rw [List.drop_eq_getElem_cons hj]
  have hp := h.1
  rw [hs] at hp
  obtain ⟨p1, p2, p3⟩ := List.pairwise_append.mp hp
  have p4 := (List.pairwise_cons.mp p2).1
  rw [hs, List.map_append, List.filter_append, List.length_append]
  have f1 : (List.map Prod.fst (ds.take j)).filter (fun x => decide (x < q.1)) = List.map Prod.fst (ds.take j) := List.filter_eq_self.mpr (fun a ha => by
    obtain ⟨x, h1, rfl⟩ := List.mem_map.mp ha
    exact decide_eq_true (p3 x h1 q List.mem_cons_self))
  have f2 : (List.map Prod.fst (q :: ds.drop (j + 1))).filter (fun x => decide (x < q.1)) = [] := List.filter_eq_nil_iff.mpr (fun a ha => by
    obtain ⟨x, h1, rfl⟩ := List.mem_map.mp ha
    intro hc
    have hc' : x.1 < q.1 := of_decide_eq_true hc
    rcases List.mem_cons.mp h1 with c | c
    · rw [c] at hc'; omega
    · have := p4 x c; omega)
  rw [f1, f2, List.length_map, List.length_take]
  simp only [List.length_nil]
  omega
theorem inV_fun (l : List Nat) : inV l = fun p => decide (p ∈ l) := rfl
theorem pom_total {n : Nat} (hn : 100 < n) (m : Int64) (j : Int32) : ∃ r, f_X4_placeOfMark n m j = some (r, ()) := by
  unfold f_X4_placeOfMark
  obtain ⟨r, h1, -⟩ := lp_post (body := f_X4_placeOfMark_l5 n m j) (I := fun (v : Int32 × Int32) => ∃ p, p ≤ 60 ∧ v.2 = nI p) (Q := fun _ _ => True) (μ := fun (v : Int32 × Int32) => 60 - v.2.toNatClampNeg) (by
    rintro rec ⟨v1, v2⟩ ⟨p, hp, e⟩ ih
    dsimp only at e
    subst e
    unfold f_X4_placeOfMark_l5 f_X4_placeOfMark_b32 f_X4_isMarked f_X4_mark
    dsimp only
    by_cases c : (60 : Int32) ≤ nI p
    · rw [if_pos c]
      exact ⟨_, rfl, trivial⟩
    · rw [if_neg c]
      have hp2 : p < 60 := Decidable.byContradiction fun q => c (by
        have : p = 60 := by omega
        subst this; decide)
      have c1 : (nI p).toNatClampNeg = p := nI_clamp (by omega)
      have c2 : (nI (p + 1)).toNatClampNeg = p + 1 := nI_clamp (by omega)
      simp only [Option.bind_some, nI_1]
      split
      · simp only [Option.bind_some, if_true]
        exact ih _ ⟨p + 1, by omega, rfl⟩ (by dsimp only; rw [c1, c2]; omega)
      · simp only [Option.bind_some]
        rw [if_neg (by decide)]
        split
        · exact ⟨_, rfl, trivial⟩
        · exact ih _ ⟨p + 1, by omega, rfl⟩ (by dsimp only; rw [c1, c2]; omega)) n ((0 : Int32), (0 : Int32)) ⟨0, by omega, rfl⟩ (by show 60 - _ < n; omega)
  exact ⟨r.1, by rw [h1]⟩
theorem m1_le {x : Int32} (h : ¬ x < 0) : (-1 : Int32) ≤ x := by
  obtain ⟨j, hj, rfl⟩ := nI_of h
  rw [Int32.le_iff_toInt_le]
  have : (nI j).toInt = j := nI_toInt hj
  rw [this]
  have : (-1 : Int32).toInt = -1 := by decide
  omega
/-- whether there is a path of that number: both sides see it -/
theorem at_or {k : Nat} {wd : Nat → Nat} {sg : Nat → Int32} {P : Nat → Nat → Int32} {z : Nat} {L K : List Nat} {ga : Nat → Nat} {tI : Nat → Int32} {tJ : Nat → Int64} {tP : Nat → Option Nat} {tO : Nat → Int64} {tR : Nat → Int32} {qI : Nat → Nat → Int32} {qJ : Nat → Nat → Int64} {rI : Nat → Int32} {rA rR : Nat → Nat → Int32} (h : InvT k wd sg P z L ga tI tJ tP tO tR qI qJ rI rA rR) (u1 : Int32) :
    (f_X0_pathAt L u1 tI tP = some (none, ()) ∧ f_X5_has K u1 rI = some (0, ())) ∨ ∃ κ c lw ad i, i < c ∧ c ≤ 40 ∧ u1 = nI i ∧ keyOk (TT k wd sg P z) κ ∧ cTab (TT k wd sg P z) κ (2 ^ sm wd k) c lw ad L tI tJ tP tO tR qI qJ ∧ mTab (TT k wd sg P z) κ (2 ^ sm wd k) c lw ga rA rR ∧ f_X0_pathAt L u1 tI tP = some (some (ad i), ()) ∧ ad i ∈ L ∧ f_X5_has K u1 rI = some (1, ()) := by
  unfold f_X0_pathAt f_X5_has
  by_cases neg : u1 < 0
  · rw [if_pos neg, if_pos neg]
    exact Or.inl ⟨rfl, rfl⟩
  · rw [if_neg neg, if_neg neg]
    rcases h with ⟨h1, h2, -⟩ | ⟨κ, c, lw, ad, hc0, hk, hC, hM, h6⟩
    · rw [h1, h2, if_pos (Int32.not_lt.mp neg), if_pos (m1_le neg)]
      exact Or.inl ⟨rfl, rfl⟩
    · obtain ⟨j, hj, rfl⟩ := nI_of neg
      obtain ⟨-, hc, h0, hl, -⟩ := id hC
      rw [h0, h6]
      by_cases d : c ≤ j
      · rw [if_pos (nI_le d hj), if_pos (nI_le d hj)]
        exact Or.inl ⟨rfl, rfl⟩
      · obtain ⟨l1, l2⟩ := hl.1 j (by omega)
        have cj : (nI j).toNatClampNeg = j := nI_clamp hj
        rw [if_neg (nI_ge (by omega) (by omega)), if_neg (nI_ge (by omega) (by omega)), if_pos (inb_lt (show j < 40 by omega) (by decide)), cj, l1]
        simp only [Option.bind_some]
        rw [if_pos l2]
        exact Or.inr ⟨κ, c, lw, ad, j, by omega, hc, rfl, hk, hC, hM, rfl, l2, trivial⟩
