-- fill, begin, execute
theorem fill_eq {n nX : Nat} (hn : nX < n) (hX : nX < 2 ^ 31) (v : Int32) (xA : Nat → Int32) : ∃ y, f_J7_fill_53178 n nX v xA = some y ∧ ∀ j, j < nX → y j = v := by
  unfold f_J7_fill_53178
  refine lp_post (I := fun (w : Int32 × (Nat → Int32)) => ∃ i, i ≤ nX ∧ w.1 = nI i ∧ ∀ j, j < i → w.2 j = v) (Q := fun _ (y : Nat → Int32) => ∀ j, j < nX → y j = v) (μ := fun (w : Int32 × (Nat → Int32)) => nX - w.1.toNatClampNeg) ?_ n _ ⟨0, Nat.zero_le _, rfl, fun j h => absurd h (Nat.not_lt_zero j)⟩ ?_
  · rintro rec ⟨w1, w2⟩ ⟨i, hi, e1, h2⟩ ih
    dsimp only at e1 h2
    subst e1
    unfold f_J7_fill_53178_l5
    dsimp only
    have c1 : (nI i).toNatClampNeg = i := nI_clamp (by omega)
    by_cases c : i = nX
    · subst c
      rw [if_pos (show Int32.ofNat i ≤ nI i from Int32.le_refl _)]
      exact ⟨w2, rfl, h2⟩
    · rw [if_neg (show ¬ Int32.ofNat nX ≤ nI i from nI_ge (a := i) (b := nX) (by omega) hX), if_pos (inb_lt (by omega) hX), nI_1, c1]
      refine ih _ ⟨i + 1, by omega, rfl, fun j hj => ?_⟩ ?_
      · show upd w2 i v j = v
        unfold upd
        split
        · rfl
        · exact h2 j (by omega)
      · dsimp only
        rw [c1, show (nI (i + 1)).toNatClampNeg = i + 1 from nI_clamp (by omega)]
        omega
  · show nX - (nI 0).toNatClampNeg < n
    omega
def runT (P : Nat → Nat → Int32) (z : Nat) (inp : Int32 → Int32) (ov : Option (Nat → Bool)) : TR := tr P z inp ov 61 0 (fun _ => 0) (fun _ => 0)
/-- a machine holds what a run left -/
def mRan (t : TR) (mI : Nat → Int32) (mJ : Nat → Int64) (mA : Nat → Nat → Int32) : Prop :=
  mI 1 = nI t.2.2.1.2.1 ∧ mI 3 = t.2.2.1.1 ∧ mI 4 = t.2.2.1.2.2 ∧ enc (mJ 2) (inV t.2.1) ∧ enc (mJ 3) (inD t.1) ∧ enc (mJ 4) (inO t.1) ∧ eqv 16 (mA 0) t.2.2.2.1 ∧ eqv 8 (mA 1) t.2.2.2.2
/-- what the class's program holds -/
def pOk (P : Nat → Nat → Int32) (z ins : Nat) (inp : Int32 → Int32) (u2 : Int32) (pI : Nat → Int32) (pA : Nat → Nat → Int32) : Prop :=
  z ≤ 60 ∧ pI 2 = nI z ∧ (∀ pc, pc < z → pA 3 pc = P 0 pc ∧ pA 4 pc = P 1 pc ∧ pA 5 pc = P 2 pc ∧ pA 6 pc = P 3 pc) ∧ wfP P z ins ∧ ∀ pc, pc < z → P 0 pc = 1 → f_X3_inputIn u2 (P 2 pc) pI pA = some (inp (P 2 pc), ())
theorem exec_from {n : Nat} {u2 : Int32} {pI : Nat → Int32} {pA P : Nat → Nat → Int32} {z ins : Nat} {inp : Int32 → Int32} (hp : pOk P z ins inp u2 pI pA) (hn : 100 < n) {ov : Option (Nat → Bool)} {mI : Nat → Int32} {mJ : Nat → Int64} {mA : Nat → Nat → Int32} (h2 : mI 2 = 0) (hov : ovOk ov (mI 0) (mJ 0)) (j2 : mJ 2 = 0) (j3 : mJ 3 = 0) (j4 : mJ 4 = 0) (hR : eqv 16 (mA 0) (fun _ => 0)) (hC : eqv 8 (mA 1) (fun _ => 0)) :
    ∃ mI' mJ' mA', lp (f_X1_execute0_l11 n u2 pI pA) n ((0 : Int32), (0 : Int32), mI, mJ, mA) = some (mI', mJ', mA') ∧ mRan (runT P z inp ov) mI' mJ' mA' := by
  obtain ⟨hz, hpz, hP, hw, hin⟩ := hp
  obtain ⟨mI', mJ', mA', r1, r2, r3, r4, r5, r6, r7, r8, r9, r10, r11⟩ := exec_class (n := n) (u2 := u2) hz hpz hP hw hin (ov := ov) 61 0 0 n mI mJ mA (fun _ => false) (fun _ => false) (fun _ => false) (by omega) (by omega) (by omega) (by omega) h2 hov (by rw [j2]; exact enc_zero) (by rw [j3]; exact enc_zero) (by rw [j4]; exact enc_zero)
  obtain ⟨k1, k2, k3, k4, k5⟩ := tr_cong hw (inp := inp) (ov := ov) 61 0 (mA 0) (fun _ => 0) (mA 1) (fun _ => 0) hR hC
  refine ⟨mI', mJ', mA', r1, ?_⟩
  rw [k3] at r3 r4 r5
  rw [k2] at r7
  rw [k1] at r8 r9
  refine ⟨r3, r4, r5, enc_cong r7 (fun p _ => by simp only [Bool.false_or]; rfl), enc_cong r8 (fun p _ => by simp only [Bool.false_or]; rfl), enc_cong r9 (fun p _ => by simp only [Bool.false_or]; rfl), by rw [r10]; exact k4, by rw [r11]; exact k5⟩
theorem exec0 {n : Nat} {u2 : Int32} {pI : Nat → Int32} {pA P : Nat → Nat → Int32} {z ins : Nat} {inp : Int32 → Int32} (hp : pOk P z ins inp u2 pI pA) (hn : 100 < n) (mI : Nat → Int32) (mJ : Nat → Int64) (mA : Nat → Nat → Int32) :
    ∃ mI' mJ' mA', f_X1_execute0 n u2 pI pA mI mJ mA = some (mI', mJ', mA') ∧ mRan (runT P z inp none) mI' mJ' mA' := by
  unfold f_X1_execute0 f_X1_begin0
  obtain ⟨y1, e1, h1⟩ := fill_eq (n := n) (nX := 16) (by omega) (by decide) 0 (mA 0)
  obtain ⟨y2, e2, h2⟩ := fill_eq (n := n) (nX := 8) (by omega) (by decide) 0 ((va_up mA 0 y1) 1)
  rw [e1]
  simp only [Option.bind_some]
  rw [e2]
  simp only [Option.bind_some]
  unfold f_X1_begin0_b26 f_X1_begin0_b42
  rw [if_pos (Or.inl rfl)]
  simp only [Option.bind_some]
  refine exec_from hp hn ?_ ?_ ?_ ?_ ?_ ?_ ?_
  · simp [upd]
  · exact Or.inl ⟨by simp [upd], rfl⟩
  · simp [vp_updL]
  · simp [vp_updL]
  · simp [vp_updL]
  · intro j hj
    simp only [va_up]
    exact h1 j hj
  · intro j hj
    simp only [va_up]
    exact h2 j hj
theorem ex1_l11 (n : Nat) (L : List Nat) (u2 : Int32) (pI : Nat → Int32) (pA : Nat → Nat → Int32) (qJ : Nat → Nat → Int64) : f_X1_execute1_l11 n L u2 pI pA qJ = f_X1_execute0_l11 n u2 pI pA := rfl
theorem exec1 {n : Nat} {u2 : Int32} {pI : Nat → Int32} {pA P : Nat → Nat → Int32} {z ins : Nat} {inp : Int32 → Int32} (hp : pOk P z ins inp u2 pI pA) (hn : 100 < n) {L : List Nat} {a : Nat} (ha : a ∈ L) {qJ : Nat → Nat → Int64} {g : Nat → Bool} (hg : enc (qJ a 1) g) (mI : Nat → Int32) (mJ : Nat → Int64) (mA : Nat → Nat → Int32) :
    ∃ mI' mJ' mA', f_X1_execute1 n L u2 a pI pA mI mJ mA qJ = some (mI', mJ', mA') ∧ mRan (runT P z inp (some g)) mI' mJ' mA' := by
  unfold f_X1_execute1 f_X1_begin1
  obtain ⟨y1, e1, h1⟩ := fill_eq (n := n) (nX := 16) (by omega) (by decide) 0 (mA 0)
  obtain ⟨y2, e2, h2⟩ := fill_eq (n := n) (nX := 8) (by omega) (by decide) 0 ((va_up mA 0 y1) 1)
  rw [e1]
  simp only [Option.bind_some]
  rw [e2]
  simp only [Option.bind_some]
  unfold f_X1_begin1_b26 f_X1_begin1_b42
  rw [if_pos (Or.inr rfl), if_pos ha]
  simp only [Option.bind_some]
  rw [ex1_l11]
  refine exec_from hp hn ?_ ?_ ?_ ?_ ?_ ?_ ?_
  · simp [upd]
  · exact Or.inr ⟨by simp [upd], g, rfl, by simp only [vp_updL]; exact hg⟩
  · simp [vp_updL]
  · simp [vp_updL]
  · simp [vp_updL]
  · intro j hj
    simp only [va_up]
    exact h1 j hj
  · intro j hj
    simp only [va_up]
    exact h2 j hj
