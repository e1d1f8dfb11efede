-- which row is ahead
theorem ahead_A {n : Nat} (hn : 100 < n) {K : List Nat} {ga : Nat → Nat} {rG : Nat → Option Nat} (hg : Gay K ga rG) {rA rR : Nat → Nat → Int32} {i j : Nat} (hi : i < 40) (hj : j < 40) {a b : List (Nat × Bool)} (ha : srt a) (hb : srt b) (h8 : rA 8 i = nI a.length) (h8' : rA 8 j = nI b.length) (ra : rowIs a (rR (ga i))) (rb : rowIs b (rR (ga j))) {pre : List (Nat × Bool)} {p : Nat} {d : Bool} {ua ub : List (Nat × Bool)} (ea : a = pre ++ (p, d) :: ua) (eb : b = pre ++ (p, !d) :: ub) : f_X5_isAhead n K (nI i) (nI j) rA rG rR = some ((if d then 1 else 0), ()) := by
  have la := srt_len ha
  have lb := srt_len hb
  have ci : (nI i).toNatClampNeg = i := nI_clamp (by omega)
  have cj : (nI j).toNatClampNeg = j := nI_clamp (by omega)
  obtain ⟨g1, g2⟩ := hg.1 i hi
  obtain ⟨g3, g4⟩ := hg.1 j hj
  have lpa : pre.length < a.length := by rw [ea]; simp
  have lpb : pre.length < b.length := by rw [eb]; simp
  have qa : a[pre.length]? = some (p, d) := by rw [ea]; simp
  have qb : b[pre.length]? = some (p, !d) := by rw [eb]; simp
  have hp : p < 60 := ha.2 (p, d) (List.mem_of_getElem? qa)
  unfold f_X5_isAhead
  refine lp_run (I := fun (v : Int32) => ∃ k, k ≤ pre.length ∧ v = nI k) (F := fun _ => some ((if d then 1 else 0), ())) (μ := fun (v : Int32) => 70 - v.toNatClampNeg) ?_ n _ ⟨0, Nat.zero_le _, rfl⟩ (by show 70 - _ < n; omega)
  rintro rec v ⟨k, hk, rfl⟩ ih
  have ck : (nI k).toNatClampNeg = k := nI_clamp (by omega)
  have ck2 : (nI (k + 1)).toNatClampNeg = k + 1 := nI_clamp (by omega)
  unfold f_X5_isAhead_l2
  try dsimp only
  simp only [inb_lt hi (show 40 < 2 ^ 31 by decide), inb_lt hj (show 40 < 2 ^ 31 by decide), inb_lt (show k < 60 by omega) (show 60 < 2 ^ 31 by decide), if_true, ci, cj, ck, h8, h8', g1, g3, Option.bind_some, g2, g4]
  rw [if_neg (nI_ge (a := k) (b := a.length) (by omega) (by omega)), if_neg (nI_ge (a := k) (b := b.length) (by omega) (by omega))]
  by_cases c : k = pre.length
  · subst c
    rw [ra _ _ qa, rb _ _ qb]
    have hne : ¬ code2 (p, d) = code2 (p, !d) := fun q => by
      have := (code2_inj (q := (p, d)) (r := (p, !d)) hp hp).mp q
      cases d <;> cases this
    rw [if_neg hne]
    unfold f_X5_isAhead_b47
    simp only [inb_lt hi (show 40 < 2 ^ 31 by decide), inb_lt hj (show 40 < 2 ^ 31 by decide), inb_lt (show pre.length < 60 by omega) (show 60 < 2 ^ 31 by decide), if_true, ci, cj, ck, h8, h8', g1, g3, Option.bind_some, g2, g4]
    rw [if_neg (nI_ge (a := pre.length) (b := a.length) (by omega) (by omega)), if_neg (nI_ge (a := pre.length) (b := b.length) (by omega) (by omega)), ra _ _ qa, rb _ _ qb, code2_n _ hp, code2_n _ hp]
    cases d
    · rw [if_pos (nI_le (by simp) (by simp; omega))]; rfl
    · rw [if_neg (nI_ge (by simp) (by simp; omega))]; rfl
  · have hlt : k < pre.length := by omega
    have q1 : a[k]? = some pre[k] := by rw [ea, List.getElem?_append_left hlt]; exact List.getElem?_eq_getElem hlt
    have q2 : b[k]? = some pre[k] := by rw [eb, List.getElem?_append_left hlt]; exact List.getElem?_eq_getElem hlt
    rw [ra _ _ q1, rb _ _ q2, if_pos rfl, nI_1]
    exact ih _ ⟨k + 1, by omega, rfl⟩ (by rw [ck, ck2]; omega)
theorem ahead_eq {n : Nat} (hn : 100 < n) {K : List Nat} {ga : Nat → Nat} {rG : Nat → Option Nat} (hg : Gay K ga rG) {rA rR : Nat → Nat → Int32} {i j : Nat} (hi : i < 40) (hj : j < 40) {a b : List (Nat × Bool)} (ha : srt a) (hb : srt b) (h8 : rA 8 i = nI a.length) (h8' : rA 8 j = nI b.length) (ra : rowIs a (rR (ga i))) (rb : rowIs b (rR (ga j))) (hab : gtD a b ∨ gtD b a) : ∃ r, f_X5_isAhead n K (nI i) (nI j) rA rG rR = some (r, ()) ∧ ((r = 1 ∧ gtD a b) ∨ (r = 0 ∧ gtD b a)) := by
  rcases hab with h | h
  · obtain ⟨pre, p, ua, ub, e1, e2⟩ := h
    exact ⟨1, ahead_A hn hg hi hj ha hb h8 h8' ra rb (d := true) e1 e2, Or.inl ⟨rfl, pre, p, ua, ub, e1, e2⟩⟩
  · obtain ⟨pre, p, ua, ub, e1, e2⟩ := h
    exact ⟨0, ahead_A hn hg hi hj ha hb h8 h8' ra rb (d := false) e2 e1, Or.inr ⟨rfl, pre, p, ua, ub, e1, e2⟩⟩
