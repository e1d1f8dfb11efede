-- too many paths
def tooMany (κ : Nat → Int64) (W : Nat) : Prop := ∃ w, w < W ∧ ∃ lw, TabU κ (w + 1) 41 lw
theorem holes : ∀ (m n : Nat) (f : Nat → Nat), (∀ i, i < n → f i < m) → (∀ i j, i < j → j < n → f i ≠ f j) → n ≤ m
  | 0, n, f, h, _ => by
    rcases Nat.eq_zero_or_pos n with c | c
    · omega
    · exact absurd (h 0 c) (Nat.not_lt_zero _)
  | m + 1, n, f, h, hi => by
    cases n with
    | zero => omega
    | succ n =>
      have : n ≤ m := by
        refine holes m n (fun i => if f i = m then f n else f i) (fun i hin => ?_) (fun i j hij hj => ?_)
        · try dsimp only
          by_cases c : f i = m
          · rw [if_pos c]
            have h1 := h n (by omega)
            have h2 := hi i n hin (by omega)
            omega
          · rw [if_neg c]
            have := h i (by omega)
            omega
        · try dsimp only
          have e1 := hi i j hij (by omega)
          have e2 := hi i n (by omega) (by omega)
          have e3 := hi j n hj (by omega)
          by_cases c : f i = m <;> by_cases d : f j = m
          · omega
          · rw [if_pos c, if_neg d]; exact fun q => e3 q.symm
          · rw [if_neg c, if_pos d]; exact e2
          · rw [if_neg c, if_neg d]; exact e1
      omega
theorem TabU_le {κ : Nat → Int64} {w w' c c' : Nat} {lw lw' : Nat → Nat} (h : TabU κ w c lw) (h' : TabU κ w' c' lw') (hw : w ≤ w') : c ≤ c' := by
  have ex : ∀ i, i < c → ∃ i', i' < c' ∧ κ (lw i) = κ (lw' i') := fun i hi => h'.2.1 (lw i) (by have := (h.1 i hi).1; omega)
  have ex2 : ∃ f : Nat → Nat, ∀ i, i < c → f i < c' ∧ κ (lw i) = κ (lw' (f i)) := by
    refine ⟨fun i => if hi : i < c then Classical.choose (ex i hi) else 0, fun i hi => ?_⟩
    dsimp only
    rw [dif_pos hi]
    exact Classical.choose_spec (ex i hi)
  obtain ⟨f, hf⟩ := ex2
  refine holes c' c f (fun i hi => (hf i hi).1) (fun i j hij hj q => ?_)
  have e1 := (hf i (by omega)).2
  have e2 := (hf j hj).2
  rw [q] at e1
  have := h.2.2 i j (by omega) hj (e1.trans e2.symm)
  omega
theorem no_both {κ : Nat → Int64} {W c : Nat} {lw : Nat → Nat} (h : TabU κ W c lw) (hc : c ≤ 40) (t : tooMany κ W) : False := by
  obtain ⟨w, hw, lw', h'⟩ := t
  have := TabU_le h' h (by omega)
  omega
-- the keys of a program's words
theorem key_ex {P : Nat → Nat → Int32} {z ins : Nat} (hz : z ≤ 60) (hw : wfP P z ins) (inp : Nat → Int32 → Int32) : ∃ κ, keyOk (fun w => runT P z (inp w) none) κ := by
  refine ⟨fun w => Classical.choose (enc_ex (inO (runT P z (inp w) none).1)), fun w => Classical.choose_spec (enc_ex (inO (runT P z (inp w) none).1)), fun v w e => ?_, fun w e => ?_⟩
  · have h1 := ((run_key hz hw (Classical.choose_spec (enc_ex (inO (runT P z (inp v) none).1))) (Classical.choose_spec (enc_ex (inO (runT P z (inp w) none).1)))).1).mp e
    have a := run_guided hz hw (inp w) (inp v)
    have b := run_guided hz hw (inp v) (inp v)
    dsimp only at h1 ⊢
    rw [h1] at b
    refine ⟨h1, ?_, ?_, ?_⟩
    · exact b.2.1.symm.trans a.2.1
    · exact b.2.2.1.symm.trans a.2.2.1
    · exact b.2.2.2.symm.trans a.2.2.2
  · dsimp only at e ⊢
    have pl : ∀ (f pc : Nat) (R C : Nat → Int32), ¬ enT (tr P z (inp w) none f pc R C) = 0 → plT (tr P z (inp w) none f pc R C) < 60 := by
      intro f
      induction f with
      | zero => intro pc R C h; exact absurd rfl h
      | succ f ih =>
        intro pc R C h
        by_cases c : z ≤ pc
        · rw [tr_end c] at h; exact absurd rfl h
        · have hlt : pc < z := by omega
          obtain ⟨d, hd⟩ : ∃ d, dec none (nd (P 0 pc) (P 1 pc) (P 2 pc) (P 3 pc) R) pc = d := ⟨_, rfl⟩
          cases hs : stp (P 0 pc) (P 1 pc) R d with
          | some er =>
            obtain ⟨e1, r1⟩ := er
            rw [tr_stop hlt hd hs]
            show pc < 60
            omega
          | none =>
            rw [tr_go hlt hd hs rfl] at h ⊢
            exact ih _ _ _ h
    exact pl 61 0 _ _ e
theorem forget_eq (tI : Nat → Int32) (tJ : Nat → Int64) : f_X0_forget tI tJ = some (upd tI 0 0, vp_updL (vp_updL tJ 0 0) 1 0) := rfl
theorem sxl {n : Nat} {L : List Nat} {x3 : Int32} {pI : Nat → Int32} {pA : Nat → Nat → Int32} (rc : (Int32 × (Nat → Int32) × (Nat → Int64) × (Nat → Option Nat) × (Nat → Int64) × (Nat → Int32) × (Nat → Int32) × (Nat → Int64) × (Nat → Nat → Int32) × (Nat → Nat → Int32) × (Nat → Nat → Int64)) → Option ((Nat → Int32) × (Nat → Int64) × (Nat → Option Nat) × (Nat → Int64) × (Nat → Int32) × (Nat → Int32) × (Nat → Int64) × (Nat → Nat → Int32) × (Nat → Nat → Int32) × (Nat → Nat → Int64))) (x4 : Int32) (tI : Nat → Int32) (tJ : Nat → Int64) (tP : Nat → Option Nat) (tO : Nat → Int64) (tR mI : Nat → Int32) (mJ : Nat → Int64) (mA qI : Nat → Nat → Int32) (qJ : Nat → Nat → Int64) : f_X0_survey_l12 n L x3 pI pA rc (x4, tI, tJ, tP, tO, tR, mI, mJ, mA, qI, qJ) = (if x3 ≤ x4 then some (tI, tJ, tP, tO, tR, mI, mJ, mA, qI, qJ) else (f_X1_execute0 n x4 pI pA mI mJ mA).bind fun p3 => (f_X0_enter n L x4 tI tJ tP tO tR p3.1 p3.2.1 qI qJ).bind fun p4 => if p4.1 = 0 then f_X0_survey_b36 n L pI pA p4.2.1 p4.2.2.1 p4.2.2.2.1 p4.2.2.2.2.1 p4.2.2.2.2.2.1 p3.1 p3.2.1 p3.2.2 p4.2.2.2.2.2.2.1 p4.2.2.2.2.2.2.2 else rc ((x4 + 1), p4.2.1, p4.2.2.1, p4.2.2.2.1, p4.2.2.2.2.1, p4.2.2.2.2.2.1, p3.1, p3.2.1, p3.2.2, p4.2.2.2.2.2.2.1, p4.2.2.2.2.2.2.2)) := rfl
def cDone (T : Nat → TR) (κ : Nat → Int64) (W : Nat) (L : List Nat) (tI : Nat → Int32) (tJ : Nat → Int64) (tP : Nat → Option Nat) (tO : Nat → Int64) (tR : Nat → Int32) (qI : Nat → Nat → Int32) (qJ : Nat → Nat → Int64) : Prop :=
  (∃ c lw ad, cTab T κ W c lw ad L tI tJ tP tO tR qI qJ) ∨ (tooMany κ W ∧ tI 0 = 0 ∧ ∃ ad, Lay L ad tP)
set_option maxHeartbeats 4000000 in
theorem survey_ok {n : Nat} (hn : 5000 < n) {P : Nat → Nat → Int32} {z ins b : Nat} (hb : b ≤ 12) {pI : Nat → Int32} {pA : Nat → Nat → Int32} (h1 : pI 1 = nI b) {inp : Nat → Int32 → Int32} (hex : ∀ w, w < 2 ^ b → pOk P z ins (inp w) (nI w) pI pA) {κ : Nat → Int64} (hk : keyOk (fun w => runT P z (inp w) none) κ) {L : List Nat} {ad : Nat → Nat} {tI : Nat → Int32} {tJ : Nat → Int64} {tP : Nat → Option Nat} {tO : Nat → Int64} {tR mI : Nat → Int32} {mJ : Nat → Int64} {mA qI : Nat → Nat → Int32} {qJ : Nat → Nat → Int64} (hl : Lay L ad tP) :
    ∃ tI' tJ' tP' tO' tR' mI' mJ' mA' qI' qJ', f_X0_survey n L pI pA tI tJ tP tO tR mI mJ mA qI qJ = some (tI', tJ', tP', tO', tR', mI', mJ', mA', qI', qJ') ∧ cDone (fun w => runT P z (inp w) none) κ (2 ^ b) L tI' tJ' tP' tO' tR' qI' qJ' := by
  have h12 := pw12 hb
  have loop : ∀ (N w c : Nat) (lw ad : Nat → Nat) (tI : Nat → Int32) (tJ : Nat → Int64) (tP : Nat → Option Nat) (tO : Nat → Int64) (tR mI : Nat → Int32) (mJ : Nat → Int64) (mA qI : Nat → Nat → Int32) (qJ : Nat → Nat → Int64), w ≤ 2 ^ b → 2 ^ b - w < N → cTab (fun w => runT P z (inp w) none) κ w c lw ad L tI tJ tP tO tR qI qJ → ∃ tI' tJ' tP' tO' tR' mI' mJ' mA' qI' qJ', lp (f_X0_survey_l12 n L (nI (2 ^ b)) pI pA) N (nI w, tI, tJ, tP, tO, tR, mI, mJ, mA, qI, qJ) = some (tI', tJ', tP', tO', tR', mI', mJ', mA', qI', qJ') ∧ cDone (fun w => runT P z (inp w) none) κ (2 ^ b) L tI' tJ' tP' tO' tR' qI' qJ' := by
    intro N
    induction N with
    | zero => intro w c lw ad tI tJ tP tO tR mI mJ mA qI qJ q1 q2; omega
    | succ N ih =>
      intro w c lw ad tI tJ tP tO tR mI mJ mA qI qJ q1 q2 q3
      rw [lp_succ, sxl]
      by_cases d : w = 2 ^ b
      · rw [d, if_pos (Int32.le_refl _)]
        rw [d] at q3
        exact ⟨_, _, _, _, _, _, _, _, _, _, rfl, Or.inl ⟨c, lw, ad, q3⟩⟩
      · rw [if_neg (nI_ge (a := w) (b := 2 ^ b) (by omega) (by omega))]
        obtain ⟨mI', mJ', mA', e1, e2⟩ := exec0 (hex w (by omega)) (by omega) mI mJ mA (n := n)
        rw [e1]
        simp only [Option.bind_some]
        rcases enter_ok (by omega) hk (by omega) q3 e2 (n := n) with ⟨c', lw', ad', tI', tJ', tP', tO', tR', qI', qJ', f1, f2⟩ | ⟨f1, f2, f3⟩
        · rw [f1]
          simp only [Option.bind_some]
          rw [if_neg (by decide), nI_1]
          exact ih (w + 1) c' lw' ad' _ _ _ _ _ _ _ _ _ _ (by omega) (by omega) f2
        · rw [f3]
          simp only [Option.bind_some]
          rw [if_pos trivial]
          unfold f_X0_survey_b36
          rw [forget_eq]
          simp only [Option.bind_some]
          refine ⟨_, _, _, _, _, _, _, _, _, _, rfl, Or.inr ⟨⟨w, by omega, fun i => if i = c then w else lw i, ?_⟩, by simp [upd], ad, q3.2.2.2.1⟩⟩
          subst f1
          exact TabU_new q3.1.1 f2 (fun i hi => by rw [if_neg (by omega)]) (by rw [if_pos rfl])
  unfold f_X0_survey
  rw [forget_eq]
  simp only [Option.bind_some]
  rw [words3 h1 hb]
  simp only [Option.bind_some]
  refine loop n 0 0 (fun i => i) ad _ _ _ _ _ _ _ _ _ _ (Nat.zero_le _) (by omega) ⟨Tab_zero κ _, by omega, by simp [upd]; rfl, hl, fun i hi => absurd hi (Nat.not_lt_zero i), fun v hv => absurd hv (Nat.not_lt_zero v), ?_, ?_⟩
  · have : (vp_updL (vp_updL tJ 0 0) 1 0) 0 = 0 := by simp [vp_updL]
    rw [this]
    exact enc_cong enc_zero (fun p _ => by simp [visB, anyW])
  · have : (vp_updL (vp_updL tJ 0 0) 1 0) 1 = 0 := by simp [vp_updL]
    rw [this]
    exact enc_cong enc_zero (fun p _ => by simp [faiB, anyW])
