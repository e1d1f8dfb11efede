-- the model's rows
def Gay (K : List Nat) (ga : Nat → Nat) (rG : Nat → Option Nat) : Prop := (∀ i, i < 40 → rG i = some (ga i) ∧ ga i ∈ K) ∧ ∀ i j, i < 40 → j < 40 → ga i = ga j → i = j
theorem code2_n (q : Nat × Bool) (h : q.1 < 60) : code2 q = nI (2 * q.1 + (if q.2 then 1 else 0)) := by
  have : ∀ p, p < 60 → code2 (p, true) = nI (2 * p + 1) ∧ code2 (p, false) = nI (2 * p) := by decide +kernel
  obtain ⟨p, b⟩ := q
  cases b
  · exact (this p h).2
  · exact (this p h).1
theorem code2_inj {q r : Nat × Bool} (hq : q.1 < 60) (hr : r.1 < 60) : code2 q = code2 r ↔ q = r := by
  refine ⟨fun h => ?_, fun h => by rw [h]⟩
  rw [code2_n q hq, code2_n r hr, nI_eq (by split <;> omega) (by split <;> omega)] at h
  obtain ⟨p, b⟩ := q
  obtain ⟨p', b'⟩ := r
  cases b <;> cases b' <;> simp at h ⊢ <;> omega
def rowIs (a : List (Nat × Bool)) (r : Nat → Int32) : Prop := ∀ (j : Nat) (q : Nat × Bool), a[j]? = some q → r j = code2 q
theorem srt_len {a : List (Nat × Bool)} (h : srt a) : a.length ≤ 60 := by
  have key : ∀ (l : List (Nat × Bool)) (m : Nat), l.Pairwise (fun p q => p.1 < q.1) → (∀ q ∈ l, m ≤ q.1 ∧ q.1 < 60) → m ≤ 60 → l.length + m ≤ 60 := by
    intro l
    induction l with
    | nil => intro m _ _ h; simpa using h
    | cons x l ih =>
      intro m hp hb hm
      obtain ⟨h1, h2⟩ := List.pairwise_cons.mp hp
      have hx := hb x List.mem_cons_self
      have := ih (x.1 + 1) h2 (fun q hq => ⟨by have := h1 q hq; omega, (hb q (List.mem_cons_of_mem _ hq)).2⟩) (by omega)
      simp only [List.length_cons]
      omega
  have := key a 0 h.1 (fun q hq => ⟨Nat.zero_le _, h.2 q hq⟩) (by omega)
  omega
theorem isPath_eq {n : Nat} (hn : 100 < n) {K : List Nat} {ga : Nat → Nat} {rG : Nat → Option Nat} (hg : Gay K ga rG) {rI : Nat → Int32} {rA rR : Nat → Nat → Int32} {i : Nat} (hi : i < 40) {a b : List (Nat × Bool)} (ha : srt a) (hb : srt b) (h8 : rA 8 i = nI a.length) (h11 : rI 11 = nI b.length) (ra : rowIs a (rR (ga i))) (rb : rowIs b (rA 16)) : f_X5_isPath n K (nI i) rI rA rG rR = some ((if a = b then 1 else 0), ()) := by
  have la := srt_len ha
  have lb := srt_len hb
  have ci : (nI i).toNatClampNeg = i := nI_clamp (by omega)
  obtain ⟨g1, g2⟩ := hg.1 i hi
  have loop : ∀ y0 : Int32, ((y0 = 1 ∧ a.length = b.length) ∨ (y0 = 0 ∧ a ≠ b)) → f_X5_isPath_b18 n K (nI i) y0 rI rA rG rR = some ((if a = b then 1 else 0), ()) := by
    intro y0 hy
    unfold f_X5_isPath_b18
    refine lp_run (I := fun (v : Int32 × Int32) => ∃ j, j ≤ b.length ∧ v.2 = nI j ∧ ((v.1 = 1 ∧ a.length = b.length ∧ ∀ k, k < j → a[k]? = b[k]?) ∨ (v.1 = 0 ∧ a ≠ b))) (F := fun _ => some ((if a = b then 1 else 0), ())) (μ := fun (v : Int32 × Int32) => 70 - v.2.toNatClampNeg) ?_ n _ ⟨0, Nat.zero_le _, rfl, ?_⟩ (by show 70 - _ < n; omega)
    · rintro rec ⟨v1, v2⟩ ⟨j, hj, e2, hv⟩ ih
      dsimp only at e2 hv
      subst e2
      unfold f_X5_isPath_l21 f_X5_isPath_b55
      dsimp only
      rw [h11]
      have cj : (nI j).toNatClampNeg = j := nI_clamp (by omega)
      rcases hv with ⟨rfl, hl, hk⟩ | ⟨rfl, hne⟩
      · by_cases d : j = b.length
        · subst d
          have hab : a = b := List.ext_getElem? (fun k => by
            by_cases c : k < b.length
            · exact hk k c
            · rw [List.getElem?_eq_none (by omega), List.getElem?_eq_none (by omega)])
          rw [if_pos (Int32.le_refl _), if_pos (Or.inr rfl), if_pos hab]
        · have cj2 : (nI (j + 1)).toNatClampNeg = j + 1 := nI_clamp (by omega)
          have hja : j < a.length := by omega
          have hjb : j < b.length := by omega
          have qa := List.getElem?_eq_getElem hja
          have qb := List.getElem?_eq_getElem hjb
          rw [if_neg (nI_ge (a := j) (b := b.length) (by omega) (by omega)), if_neg (by decide), if_pos (inb_lt hi (by decide)), ci, g1]
          simp only [Option.bind_some]
          rw [if_pos g2, if_pos (inb_lt (show j < 60 by omega) (by decide)), if_pos (inb_lt (show j < 60 by omega) (by decide)), cj, ra j _ qa, rb j _ qb]
          by_cases e : a[j] = b[j]
          · rw [if_pos (by rw [e]), nI_1]
            refine ih _ ⟨j + 1, by omega, rfl, Or.inl ⟨rfl, hl, fun k hk2 => ?_⟩⟩ (by dsimp only; rw [cj, cj2]; omega)
            by_cases c : k = j
            · subst c; rw [qa, qb, e]
            · exact hk k (by omega)
          · rw [if_neg (fun q => e ((code2_inj (ha.2 _ (List.getElem_mem hja)) (hb.2 _ (List.getElem_mem hjb))).mp q)), nI_1]
            refine ih _ ⟨j + 1, by omega, rfl, Or.inr ⟨rfl, fun q => e ?_⟩⟩ (by dsimp only; rw [cj, cj2]; omega)
            subst q
            rfl
      · rw [if_neg hne]
        split
        · rw [if_pos (Or.inl rfl)]
        · rw [if_pos rfl, if_pos (Or.inl rfl)]
    · rcases hy with ⟨h1, h2⟩ | ⟨h1, h2⟩
      · exact Or.inl ⟨h1, h2, fun k hk => absurd hk (Nat.not_lt_zero k)⟩
      · exact Or.inr ⟨h1, h2⟩
  unfold f_X5_isPath
  rw [if_pos (inb_lt hi (by decide)), ci, h8, h11]
  by_cases d : a.length = b.length
  · rw [if_pos (by rw [d])]
    exact loop 1 (Or.inl ⟨rfl, d⟩)
  · rw [if_neg (by rw [nI_eq (by omega) (by omega)]; exact d)]
    exact loop 0 (Or.inr ⟨rfl, fun q => d (by rw [q])⟩)
