-- the class's run against the trace
def inV (l : List Nat) (p : Nat) : Bool := decide (p ∈ l)
def inD (ds : List (Nat × Bool)) (p : Nat) : Bool := ds.any (fun q => q.1 == p)
def inO (ds : List (Nat × Bool)) (p : Nat) : Bool := ds.any (fun q => q.1 == p && q.2)
theorem inV_cons (a : Nat) (l : List Nat) (p : Nat) : inV (a :: l) p = (decide (p = a) || inV l p) := by simp [inV]
theorem inD_app (a b : List (Nat × Bool)) (p : Nat) : inD (a ++ b) p = (inD a p || inD b p) := by simp [inD]
theorem inO_app (a b : List (Nat × Bool)) (p : Nat) : inO (a ++ b) p = (inO a p || inO b p) := by simp [inO]
theorem inD_one (a : Nat) (d : Bool) (p : Nat) : inD [(a, d)] p = decide (p = a) := by
  by_cases e : p = a
  · subst e; simp [inD]
  · simp [inD, e, Ne.symm e]
theorem inO_one (a : Nat) (p : Nat) : inO [(a, true)] p = decide (p = a) := by
  by_cases e : p = a
  · subst e; simp [inO]
  · simp [inO, e, Ne.symm e]
theorem exl {n : Nat} {u2 : Int32} {pI : Nat → Int32} {pA : Nat → Nat → Int32} (rc : (Int32 × Int32 × (Nat → Int32) × (Nat → Int64) × (Nat → Nat → Int32)) → Option ((Nat → Int32) × (Nat → Int64) × (Nat → Nat → Int32))) (x4 x5 : Int32) (mI : Nat → Int32) (mJ : Nat → Int64) (mA : Nat → Nat → Int32) : f_X1_execute0_l11 n u2 pI pA rc (x4, x5, mI, mJ, mA) = (if (60 : Int32) ≤ x5 then f_X1_execute0_b78 n pI pA mI mJ mA else if (pI 2) ≤ x4 then f_X1_execute0_b78 n pI pA mI mJ mA else if (mI 2) = 0 then ((f_X4_mark ((upd mI 1 x4) 1)).bind fun p6 => (f_X1_step u2 pI pA (upd mI 1 x4) (vp_updL (vp_updL mJ 1 p6.1) 2 (((vp_updL mJ 1 p6.1) 2) ||| ((vp_updL mJ 1 p6.1) 1))) mA).bind fun p7 => rc (p7.1, (x5 + 1), p7.2.1, p7.2.2.1, p7.2.2.2)) else f_X1_execute0_b78 n pI pA mI mJ mA) := rfl
def ovOk (ov : Option (Nat → Bool)) (a : Int32) (g0 : Int64) : Prop := (a = 0 ∧ ov = none) ∨ (¬ a = 0 ∧ ∃ g, ov = some g ∧ enc g0 g)
theorem gd_dec {ov : Option (Nat → Bool)} {mI : Nat → Int32} {mJ : Nat → Int64} {pc : Nat} (hpc : pc < 60) (h : ovOk ov (mI 0) (mJ 0)) (h1 : mJ 1 = bitp pc) (b : Bool) : gd mI mJ b = dec ov b pc := by
  unfold gd
  rcases h with ⟨h2, rfl⟩ | ⟨h2, g, rfl, h3⟩
  · rw [if_pos h2]; rfl
  · rw [if_neg h2, h1]
    show _ = g pc
    by_cases c : g pc = false
    · rw [(and_bitp h3 hpc).mpr c, c]; rfl
    · have e9 : decide (¬ (mJ 0 &&& bitp pc) = 0) = true := decide_eq_true (fun q => c ((and_bitp h3 hpc).mp q))
      rw [e9]
      cases hg : g pc
      · exact absurd hg c
      · rfl
theorem b78_eq {n : Nat} {pI mI : Nat → Int32} {pA mA : Nat → Nat → Int32} {mJ : Nat → Int64} : f_X1_execute0_b78 n pI pA mI mJ mA = some ((if mI 2 = 0 then upd (upd (upd (upd mI 1 (pI 2)) 2 1) 3 0) 4 0 else mI), mJ, mA) := by
  unfold f_X1_execute0_b78
  by_cases c : mI 2 = 0
  · rw [if_pos c, if_pos c]; rfl
  · rw [if_neg c, if_neg c]
def xOk (t : TR) (V Dd O : Nat → Bool) (mI mI' : Nat → Int32) (mJ mJ' : Nat → Int64) (mA' : Nat → Nat → Int32) : Prop :=
  mI' 0 = mI 0 ∧ mI' 1 = nI t.2.2.1.2.1 ∧ mI' 3 = t.2.2.1.1 ∧ mI' 4 = t.2.2.1.2.2 ∧ mJ' 0 = mJ 0 ∧ enc (mJ' 2) (fun p => V p || inV t.2.1 p) ∧ enc (mJ' 3) (fun p => Dd p || inD t.1 p) ∧ enc (mJ' 4) (fun p => O p || inO t.1 p) ∧ mA' 0 = t.2.2.2.1 ∧ mA' 1 = t.2.2.2.2
theorem dJ_0 (mJ : Nat → Int64) (d : Bool) : dJ mJ d 0 = mJ 0 := by cases d <;> simp [dJ, vp_updL]
theorem dJ_1 (mJ : Nat → Int64) (d : Bool) : dJ mJ d 1 = mJ 1 := by cases d <;> simp [dJ, vp_updL]
theorem dJ_2 (mJ : Nat → Int64) (d : Bool) : dJ mJ d 2 = mJ 2 := by cases d <;> simp [dJ, vp_updL]
theorem dJ_3 (mJ : Nat → Int64) (d : Bool) : dJ mJ d 3 = mJ 3 ||| mJ 1 := by cases d <;> simp [dJ, vp_updL]
theorem dJ_4 (mJ : Nat → Int64) (d : Bool) : dJ mJ d 4 = if d then mJ 4 ||| mJ 1 else mJ 4 := by cases d <;> simp [dJ, vp_updL]
set_option maxHeartbeats 4000000 in
theorem exec_class {n : Nat} {u2 : Int32} {pI : Nat → Int32} {pA P : Nat → Nat → Int32} {z ins : Nat} (hz : z ≤ 60) (hpz : pI 2 = nI z) (hP : ∀ pc, pc < z → pA 3 pc = P 0 pc ∧ pA 4 pc = P 1 pc ∧ pA 5 pc = P 2 pc ∧ pA 6 pc = P 3 pc) (hw : wfP P z ins) {inp : Int32 → Int32} (hin : ∀ pc, pc < z → P 0 pc = 1 → f_X3_inputIn u2 (P 2 pc) pI pA = some (inp (P 2 pc), ())) {ov : Option (Nat → Bool)} :
    ∀ (f pc cnt N : Nat) (mI : Nat → Int32) (mJ : Nat → Int64) (mA : Nat → Nat → Int32) (V Dd O : Nat → Bool), z - pc < f → z - pc + 1 < N → cnt ≤ pc → pc ≤ 60 → mI 2 = 0 → ovOk ov (mI 0) (mJ 0) → enc (mJ 2) V → enc (mJ 3) Dd → enc (mJ 4) O →
    ∃ mI' mJ' mA', lp (f_X1_execute0_l11 n u2 pI pA) N (nI pc, nI cnt, mI, mJ, mA) = some (mI', mJ', mA') ∧ xOk (tr P z inp ov f pc (mA 0) (mA 1)) V Dd O mI mI' mJ mJ' mA' := by
  intro f
  induction f with
  | zero => intro pc cnt N mI mJ mA V Dd O h1; omega
  | succ f ih =>
    intro pc cnt N mI mJ mA V Dd O h1 h2 h3 h4 h5 hov hV hD hO
    obtain ⟨N', rfl⟩ : ∃ N', N = N' + 1 := ⟨N - 1, by omega⟩
    rw [lp_succ, exl, hpz]
    by_cases c : z ≤ pc
    · rw [tr_end c]
      refine ⟨upd (upd (upd (upd mI 1 (pI 2)) 2 1) 3 0) 4 0, mJ, mA, ?_, ?_⟩
      · rw [if_pos (nI_le c (by omega)), b78_eq, if_pos h5]
        split <;> rfl
      · refine ⟨by simp [upd], by simp [upd, hpz], by simp [upd], by simp [upd], rfl, ?_, ?_, ?_, rfl, rfl⟩
        · exact enc_cong hV (fun p _ => by simp [inV])
        · exact enc_cong hD (fun p _ => by simp [inD])
        · exact enc_cong hO (fun p _ => by simp [inO])
    · have hlt : pc < z := by omega
      have hpc : pc < 60 := by omega
      have w := hw pc hlt
      obtain ⟨p3, p4, p5, p6⟩ := hP pc hlt
      rw [if_neg (show ¬ (60 : Int32) ≤ nI cnt from nI_ge (a := cnt) (b := 60) (by omega) (by decide)), if_neg (nI_ge (a := pc) (b := z) hlt (by omega)), if_pos h5]
      have e1 : (upd mI 1 (nI pc)) 1 = nI pc := by simp [upd]
      rw [e1, mark_eq hpc]
      simp only [Option.bind_some]
      obtain ⟨mJ1, hmJ1⟩ : ∃ q, q = vp_updL (vp_updL mJ 1 (bitp pc)) 2 (((vp_updL mJ 1 (bitp pc)) 2) ||| ((vp_updL mJ 1 (bitp pc)) 1)) := ⟨_, rfl⟩
      rw [← hmJ1]
      have j0 : mJ1 0 = mJ 0 := by rw [hmJ1]; simp [vp_updL]
      have j1 : mJ1 1 = bitp pc := by rw [hmJ1]; simp [vp_updL]
      have j2 : mJ1 2 = mJ 2 ||| bitp pc := by rw [hmJ1]; simp [vp_updL]
      have j3 : mJ1 3 = mJ 3 := by rw [hmJ1]; simp [vp_updL]
      have j4 : mJ1 4 = mJ 4 := by rw [hmJ1]; simp [vp_updL]
      have i0 : (upd mI 1 (nI pc)) 0 = mI 0 := by simp [upd]
      have i2 : (upd mI 1 (nI pc)) 2 = mI 2 := by simp [upd]
      obtain ⟨nxt, mA', hs, hok⟩ := step_class (u2 := u2) (pI := pI) (mI := upd mI 1 (nI pc)) (mJ := mJ1) (mA := mA) (pA := pA) hpc e1 p3 p4 p5 p6 w (iv := inp (P 2 pc)) (hin pc hlt)
      have hgd := gd_dec (mI := upd mI 1 (nI pc)) (mJ := mJ1) hpc (by rw [i0, j0]; exact hov) j1 (nd (P 0 pc) (P 1 pc) (P 2 pc) (P 3 pc) (mA 0))
      rw [hgd] at hs hok
      obtain ⟨d, hd⟩ : ∃ d, dec ov (nd (P 0 pc) (P 1 pc) (P 2 pc) (P 3 pc) (mA 0)) pc = d := ⟨_, rfl⟩
      rw [hd] at hs hok
      rw [hs]
      simp only [Option.bind_some]
      rw [nI_1]
      obtain ⟨mJ2, hmJ2⟩ : ∃ q, q = (if asks (P 0 pc) = true then dJ mJ1 d else mJ1) := ⟨_, rfl⟩
      rw [← hmJ2]
      have q0 : mJ2 0 = mJ 0 := by rw [hmJ2]; split <;> simp [dJ_0, j0]
      have q2 : enc (mJ2 2) (fun p => V p || decide (p = pc)) := by
        have : mJ2 2 = mJ 2 ||| bitp pc := by rw [hmJ2]; split <;> simp [dJ_2, j2]
        rw [this]
        exact enc_add hV hpc
      have q3 : enc (mJ2 3) (fun p => Dd p || inD (if asks (P 0 pc) then [(pc, d)] else []) p) := by
        rw [hmJ2]
        split
        · rw [dJ_3, j3, j1]
          exact enc_cong (enc_add hD hpc) (fun p _ => by rw [inD_one])
        · rw [j3]
          exact enc_cong hD (fun p _ => by simp [inD])
      have q4 : enc (mJ2 4) (fun p => O p || inO (if asks (P 0 pc) then [(pc, d)] else []) p) := by
        rw [hmJ2]
        split
        · rw [dJ_4, j4, j1]
          cases d
          · exact enc_cong hO (fun p _ => by simp [inO])
          · exact enc_cong (enc_add hO hpc) (fun p _ => by rw [inO_one])
        · rw [j4]
          exact enc_cong hO (fun p _ => by simp [inO])
      cases hst : stp (P 0 pc) (P 1 pc) (mA 0) d with
      | some er =>
        obtain ⟨e, r⟩ := er
        rw [hst] at hok
        rw [tr_stop hlt hd hst]
        obtain ⟨N'', rfl⟩ : ∃ N'', N' = N'' + 1 := ⟨N' - 1, by omega⟩
        rw [lp_succ, exl]
        have s2 : ¬ (stI (upd mI 1 (nI pc)) (some (e, r))) 2 = 0 := by simp [stI, upd]
        refine ⟨stI (upd mI 1 (nI pc)) (some (e, r)), mJ2, mA', ?_, ?_⟩
        · rw [b78_eq, if_neg s2, if_neg s2]
          split
          · rfl
          · split <;> rfl
        · refine ⟨by simp [stI, upd], by simp [stI, upd], by simp [stI, upd], by simp [stI, upd], q0, ?_, q3, q4, hok.1, hok.2⟩
          exact enc_cong q2 (fun p _ => by simp [inV])
      | none =>
        rw [hst] at hok
        obtain ⟨k1, k2, k3⟩ := hok
        subst k1
        have hb := nx_bd w hpc d
        rw [tr_go hlt hd hst rfl]
        obtain ⟨mI', mJ', mA'', r1, hx⟩ := ih (nx (P 0 pc) (P 1 pc) (P 2 pc) d pc) (cnt + 1) N' (upd mI 1 (nI pc)) mJ2 mA' _ _ _ (by omega) (by omega) (by omega) hb.2 (by rw [i2]; exact h5) (by rw [i0, q0]; exact hov) q2 q3 q4
        rw [k2, k3] at hx
        obtain ⟨r2, r3, r4, r5, r6, r7, r8, r9, r10, r11⟩ := hx
        refine ⟨mI', mJ', mA'', r1, ?_⟩
        refine ⟨r2.trans i0, r3, r4, r5, r6.trans q0, ?_, ?_, ?_, r10, r11⟩
        · exact enc_cong r7 (fun p _ => by simp only [inV_cons, Bool.or_assoc])
        · exact enc_cong r8 (fun p _ => by simp only [inD_app, Bool.or_assoc])
        · exact enc_cong r9 (fun p _ => by simp only [inO_app, Bool.or_assoc])
