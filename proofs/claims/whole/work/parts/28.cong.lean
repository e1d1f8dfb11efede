-- registers beyond 16 and cells beyond 8 are of no matter
def eqv (n : Nat) (R R' : Nat → Int32) : Prop := ∀ j, j < n → R j = R' j
theorem eqv_rf {n : Nat} {R : Nat → Int32} : eqv n R R := fun _ _ => rfl
theorem eqv_tr {n : Nat} {R R' R'' : Nat → Int32} (h : eqv n R R') (h' : eqv n R' R'') : eqv n R R'' := fun j hj => (h j hj).trans (h' j hj)
theorem eqv_sy {n : Nat} {R R' : Nat → Int32} (h : eqv n R R') : eqv n R' R := fun j hj => (h j hj).symm
theorem eqv_upd {n : Nat} {R R' : Nat → Int32} (h : eqv n R R') (i : Nat) {v v' : Int32} (e : v = v') : eqv n (upd R i v) (upd R' i v') := fun j hj => by
  subst e
  unfold upd
  split
  · rfl
  · exact h j hj
theorem rg_lt {v : Int32} (h : rg v) : ix v < 16 := by
  obtain ⟨j, hj, rfl⟩ := h
  show (nI j).toNatClampNeg < 16
  rw [nI_clamp (by omega)]
  exact hj
theorem in8_lt {v : Int32} (h : in8 v = true) : ix v < 8 := by
  have h1 := in8_in h
  unfold inb at h1
  have h2 : ¬ (v < 0 ∨ 8 ≤ v.toNatClampNeg) := of_decide_eq_true h1
  exact Nat.not_le.mp fun q => h2 (Or.inr q)
theorem asks_no {k : Int32} (h : asks k = false) : isDv k = false ∧ ¬ k = 25 ∧ ¬ k = 26 ∧ ¬ k = 27 ∧ ¬ k = 29 := by
  unfold asks at h
  simp only [Bool.or_eq_false_iff, decide_eq_false_iff_not] at h
  exact ⟨h.1.1.1.1, h.1.1.1.2, h.1.1.2, h.1.2, h.2⟩
theorem stp_no {k x : Int32} {R : Nat → Int32} (h : asks k = false) (d d' : Bool) : stp k x R d = stp k x R d' := by
  obtain ⟨h1, h2, h3, h4, h5⟩ := asks_no h
  unfold stp
  simp only [h1, Bool.false_eq_true, if_false, h2, h3, h5, or_self]
theorem nx_no {k x y : Int32} (h : asks k = false) (d d' : Bool) (pc : Nat) : nx k x y d pc = nx k x y d' pc := by
  obtain ⟨h1, h2, h3, h4, h5⟩ := asks_no h
  unfold nx
  simp only [h4, false_and, if_false]
theorem nd_cong {pc ins : Nat} {k x y z : Int32} (hw : wfI pc k x y z ins) {R R' : Nat → Int32} (h : eqv 16 R R') (ha : asks k = true) : nd k x y z R = nd k x y z R' := by
  rcases hw with ⟨h1, gx⟩ | ⟨rfl, gx, -⟩ | ⟨h1, gx, gy⟩ | ⟨rfl, gx, -⟩ | ⟨rfl, -⟩ | ⟨rfl, -⟩ | ⟨h1, gx, gy, gz⟩
  · have e := h _ (rg_lt gx)
    rcases h1 with rfl | rfl | rfl <;> simp [nd, isDv, e]
  · exact absurd ha (by decide)
  · have ex := h _ (rg_lt gx)
    have ey := h _ (rg_lt gy)
    rcases h1 with rfl | rfl | rfl | rfl | rfl <;> simp [nd, isDv, ex, ey]
  · have e := h _ (rg_lt gx)
    simp [nd, isDv, e]
  · exact absurd ha (by decide)
  · exact absurd ha (by decide)
  · have ex := h _ (rg_lt gx)
    have ey := h _ (rg_lt gy)
    have ez := h _ (rg_lt gz)
    unfold nd
    rw [ex, ey, ez]
theorem stp_cong {pc ins : Nat} {k x y z : Int32} (hw : wfI pc k x y z ins) {R R' : Nat → Int32} (h : eqv 16 R R') (d : Bool) : stp k x R d = stp k x R' d := by
  by_cases c : k = 31
  · subst c
    rcases hw with ⟨h1, gx⟩ | ⟨h1, -⟩ | ⟨h1, -⟩ | ⟨h1, -⟩ | ⟨h1, -⟩ | ⟨h1, -⟩ | ⟨h1, -⟩
    · simp [stp, isDv, h _ (rg_lt gx)]
    · exact absurd h1 (by decide)
    · exact absurd h1 (by decide)
    · exact absurd h1 (by decide)
    · exact absurd h1 (by decide)
    · exact absurd h1 (by decide)
    · exact absurd h1 (by decide)
  · simp [stp, c]
theorem sR_cong {pc ins : Nat} {k x y z : Int32} (hw : wfI pc k x y z ins) {R R' C C' : Nat → Int32} (h : eqv 16 R R') (hC : eqv 8 C C') (iv : Int32) : eqv 16 (sR k x y z R C iv) (sR k x y z R' C' iv) := by
  rcases hw with ⟨h1, gx⟩ | ⟨rfl, gx, -⟩ | ⟨h1, gx, gy⟩ | ⟨rfl, gx, -⟩ | ⟨rfl, -⟩ | ⟨rfl, -⟩ | ⟨h1, gx, gy, gz⟩
  · rcases h1 with rfl | rfl | rfl
    · simp only [sR]; exact eqv_upd h _ rfl
    · simp only [sR]; exact h
    · simp only [sR]; exact h
  · simp only [sR]; exact eqv_upd h _ rfl
  · have ey := h _ (rg_lt gy)
    rcases h1 with rfl | rfl | rfl | rfl | rfl
    · simp only [sR]; exact eqv_upd h _ ey
    · simp only [sR]; exact eqv_upd h _ (by rw [ey])
    · simp only [sR]; exact eqv_upd h _ (by rw [ey])
    · simp only [sR]
      refine eqv_upd h _ ?_
      rw [ey]
      by_cases c : in8 (R' (ix y)) = true
      · rw [if_pos c, if_pos c]; exact hC _ (in8_lt c)
      · rw [if_neg c, if_neg c]
    · simp only [sR]; exact h
  · simp only [sR]; exact h
  · simp only [sR]; exact h
  · simp only [sR]; exact h
  · have ey := h _ (rg_lt gy)
    have ez := h _ (rg_lt gz)
    unfold sR
    rw [ey, ez]
    repeat' split
    all_goals first | exact h | exact eqv_upd h _ rfl | (refine eqv_upd h _ ?_; exact hC _ (in8_lt (by assumption))) | skip
    all_goals (rename_i c1 c2; exact absurd h1 (by subst c1; decide))
theorem sC_cong {pc ins : Nat} {k x y z : Int32} (hw : wfI pc k x y z ins) {R R' C C' : Nat → Int32} (h : eqv 16 R R') (hC : eqv 8 C C') : eqv 8 (sC k x y R C) (sC k x y R' C') := by
  by_cases c : k = 26
  · subst c
    rcases hw with ⟨h1, -⟩ | ⟨h1, -⟩ | ⟨h1, gx, gy⟩ | ⟨h1, -⟩ | ⟨h1, -⟩ | ⟨h1, -⟩ | ⟨h1, -⟩
    · exact absurd h1 (by decide)
    · exact absurd h1 (by decide)
    · have ex := h _ (rg_lt gx)
      have ey := h _ (rg_lt gy)
      unfold sC
      rw [ex, ey]
      split
      · exact eqv_upd hC _ rfl
      · exact hC
    · exact absurd h1 (by decide)
    · exact absurd h1 (by decide)
    · exact absurd h1 (by decide)
    · exact absurd h1 (by decide)
  · unfold sC
    rw [if_neg (fun q => c q.1), if_neg (fun q => c q.1)]
    exact hC
theorem dec_cong {pc ins : Nat} {k x y z : Int32} (hw : wfI pc k x y z ins) {R R' : Nat → Int32} (h : eqv 16 R R') (ov : Option (Nat → Bool)) (ha : asks k = true) : dec ov (nd k x y z R) pc = dec ov (nd k x y z R') pc := by rw [nd_cong hw h ha]
theorem tr_cong {P : Nat → Nat → Int32} {z ins : Nat} (hw : wfP P z ins) {inp : Int32 → Int32} {ov : Option (Nat → Bool)} : ∀ (f pc : Nat) (R R' C C' : Nat → Int32), eqv 16 R R' → eqv 8 C C' → (tr P z inp ov f pc R C).1 = (tr P z inp ov f pc R' C').1 ∧ (tr P z inp ov f pc R C).2.1 = (tr P z inp ov f pc R' C').2.1 ∧ (tr P z inp ov f pc R C).2.2.1 = (tr P z inp ov f pc R' C').2.2.1 ∧ eqv 16 (tr P z inp ov f pc R C).2.2.2.1 (tr P z inp ov f pc R' C').2.2.2.1 ∧ eqv 8 (tr P z inp ov f pc R C).2.2.2.2 (tr P z inp ov f pc R' C').2.2.2.2
  | 0, pc, R, R', C, C', h, hC => ⟨rfl, rfl, rfl, h, hC⟩
  | f + 1, pc, R, R', C, C', h, hC => by
    by_cases c : z ≤ pc
    · rw [tr_end c, tr_end c]
      exact ⟨rfl, rfl, rfl, h, hC⟩
    · have hlt : pc < z := by omega
      have w := hw pc hlt
      obtain ⟨d, hd⟩ : ∃ d, dec ov (nd (P 0 pc) (P 1 pc) (P 2 pc) (P 3 pc) R) pc = d := ⟨_, rfl⟩
      obtain ⟨d', hd'⟩ : ∃ d', dec ov (nd (P 0 pc) (P 1 pc) (P 2 pc) (P 3 pc) R') pc = d' := ⟨_, rfl⟩
      have key : stp (P 0 pc) (P 1 pc) R d = stp (P 0 pc) (P 1 pc) R' d' ∧ nx (P 0 pc) (P 1 pc) (P 2 pc) d pc = nx (P 0 pc) (P 1 pc) (P 2 pc) d' pc ∧ (if asks (P 0 pc) then [(pc, d)] else []) = (if asks (P 0 pc) then [(pc, d')] else []) := by
        by_cases a : asks (P 0 pc) = true
        · have e : d = d' := by rw [← hd, ← hd']; exact dec_cong w h ov a
          subst e
          exact ⟨stp_cong w h d, rfl, rfl⟩
        · have a' : asks (P 0 pc) = false := by simpa using a
          refine ⟨(stp_cong w h d).trans (stp_no a' d d'), nx_no a' d d' pc, ?_⟩
          rw [if_neg a, if_neg a]
      obtain ⟨k1, k2, k3⟩ := key
      cases hs : stp (P 0 pc) (P 1 pc) R d with
      | some er =>
        obtain ⟨e, r⟩ := er
        rw [tr_stop hlt hd hs, tr_stop hlt hd' (k1.symm.trans hs)]
        exact ⟨k3, rfl, rfl, h, hC⟩
      | none =>
        rw [tr_go hlt hd hs rfl, tr_go hlt hd' (k1.symm.trans hs) rfl, ← k2]
        obtain ⟨i1, i2, i3, i4, i5⟩ := tr_cong hw (inp := inp) (ov := ov) f (nx (P 0 pc) (P 1 pc) (P 2 pc) d pc) _ _ _ _ (sR_cong w h hC (inp (P 2 pc))) (sC_cong w h hC)
        refine ⟨?_, ?_, i3, i4, i5⟩
        · dsimp only
          rw [k3, i1]
        · dsimp only
          rw [i2]
