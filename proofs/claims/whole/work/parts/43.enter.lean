-- what is known of the words below w
def anyW (f : Nat → Bool) (w : Nat) : Bool := (List.range w).any f
def allW (f : Nat → Bool) (w : Nat) : Bool := (List.range w).all f
theorem anyW_succ (f : Nat → Bool) (w : Nat) : anyW f (w + 1) = (anyW f w || f w) := by simp [anyW, List.range_succ]
theorem allW_succ (f : Nat → Bool) (w : Nat) : allW f (w + 1) = (allW f w && f w) := by simp [allW, List.range_succ]
theorem anyW_of {f : Nat → Bool} {w v : Nat} (hv : v < w) (h : f v = true) : anyW f w = true := List.any_eq_true.mpr ⟨v, List.mem_range.mpr hv, h⟩
theorem anyW_iff {f : Nat → Bool} {w : Nat} : anyW f w = true ↔ ∃ v, v < w ∧ f v = true := by
  unfold anyW
  rw [List.any_eq_true]
  exact ⟨fun ⟨v, h1, h2⟩ => ⟨v, List.mem_range.mp h1, h2⟩, fun ⟨v, h1, h2⟩ => ⟨v, List.mem_range.mpr h1, h2⟩⟩
theorem allW_iff {f : Nat → Bool} {w : Nat} : allW f w = true ↔ ∀ v, v < w → f v = true := by
  unfold allW
  rw [List.all_eq_true]
  exact ⟨fun h v hv => h v (List.mem_range.mpr hv), fun h v hv => h v (List.mem_range.mp hv)⟩
def resT (t : TR) : Int32 := t.2.2.1.2.2
def enT (t : TR) : Int32 := t.2.2.1.1
def plT (t : TR) : Nat := t.2.2.1.2.1
def sameB (T : Nat → TR) (κ : Nat → Int64) (w u : Nat) : Bool := allW (fun v => !(decide (κ v = κ u)) || decide (resT (T v) = resT (T u))) w
def pRow (T : Nat → TR) (κ : Nat → Int64) (w u : Nat) (q : Nat → Int32) (j : Nat → Int64) : Prop :=
  q 0 = enT (T u) ∧ q 1 = nI (plT (T u)) ∧ q 2 = nI u ∧ q 3 = resT (T u) ∧ q 4 = (if sameB T κ w u then 1 else 0) ∧ enc (j 0) (inD (T u).1) ∧ j 1 = κ u
def visB (T : Nat → TR) (w p : Nat) : Bool := anyW (fun v => inV (T v).2.1 p) w
def faiB (T : Nat → TR) (w p : Nat) : Bool := anyW (fun v => decide (¬ enT (T v) = 0) && decide (plT (T v) = p)) w
def cTab (T : Nat → TR) (κ : Nat → Int64) (w c : Nat) (lw ad : Nat → Nat) (L : List Nat) (tI : Nat → Int32) (tJ : Nat → Int64) (tP : Nat → Option Nat) (tO : Nat → Int64) (tR : Nat → Int32) (qI : Nat → Nat → Int32) (qJ : Nat → Nat → Int64) : Prop :=
  Tab κ w c lw ∧ c ≤ 40 ∧ tI 0 = nI c ∧ Lay L ad tP ∧ (∀ i, i < c → pRow T κ w (lw i) (qI (ad i)) (qJ (ad i))) ∧ (∀ v, v < w → tO v = κ v ∧ tR v = resT (T v)) ∧ enc (tJ 0) (visB T w) ∧ enc (tJ 1) (faiB T w)
/-- what belongs to the keys -/
def keyOk (T : Nat → TR) (κ : Nat → Int64) : Prop := (∀ w, enc (κ w) (inO (T w).1)) ∧ (∀ v w, κ v = κ w → (T v).1 = (T w).1 ∧ (T v).2.1 = (T w).2.1 ∧ enT (T v) = enT (T w) ∧ plT (T v) = plT (T w)) ∧ ∀ w, ¬ enT (T w) = 0 → plT (T w) < 60
theorem sameB_ne {T : Nat → TR} {κ : Nat → Int64} {w u : Nat} (h : κ w ≠ κ u) : sameB T κ (w + 1) u = sameB T κ w u := by
  unfold sameB
  rw [allW_succ]
  simp [h]
theorem sameB_eq {T : Nat → TR} {κ : Nat → Int64} {w u : Nat} (h : κ w = κ u) : sameB T κ (w + 1) u = (sameB T κ w u && decide (resT (T w) = resT (T u))) := by
  unfold sameB
  rw [allW_succ]
  simp [h]
theorem sameB_new {T : Nat → TR} {κ : Nat → Int64} {w : Nat} (h : ∀ v, v < w → κ v ≠ κ w) : sameB T κ (w + 1) w = true := by
  unfold sameB
  rw [allW_iff]
  intro v hv
  by_cases c : v = w
  · subst c; simp
  · simp [h v (by omega)]
theorem vis_old {T : Nat → TR} {κ : Nat → Int64} (hk : keyOk T κ) {w u : Nat} (hu : u < w) (e : κ w = κ u) (p : Nat) : visB T (w + 1) p = visB T w p := by
  unfold visB
  rw [anyW_succ, (hk.2.1 w u e).2.1]
  cases h : inV (T u).2.1 p
  · simp
  · rw [anyW_of hu h]; rfl
theorem fai_old {T : Nat → TR} {κ : Nat → Int64} (hk : keyOk T κ) {w u : Nat} (hu : u < w) (e : κ w = κ u) (p : Nat) : faiB T (w + 1) p = faiB T w p := by
  unfold faiB
  rw [anyW_succ, (hk.2.1 w u e).2.2.1, (hk.2.1 w u e).2.2.2]
  cases h : (decide (¬ enT (T u) = 0) && decide (plT (T u) = p))
  · simp
  · rw [anyW_of hu h]; rfl
theorem words_step {T : Nat → TR} {κ : Nat → Int64} {w : Nat} {tO : Nat → Int64} {tR : Nat → Int32} (h : ∀ v, v < w → tO v = κ v ∧ tR v = resT (T v)) : ∀ v, v < w + 1 → (vp_updL tO w (κ w)) v = κ v ∧ (upd tR w (resT (T w))) v = resT (T v) := by
  intro v hv
  unfold vp_updL upd
  by_cases c : v = w
  · subst c; simp
  · rw [if_neg c, if_neg c]; exact h v (by omega)
theorem b136_eq {n : Nat} {L : List Nat} {w : Nat} (hw : w < 4096) {tI : Nat → Int32} {tJ : Nat → Int64} {tP : Nat → Option Nat} {tO : Nat → Int64} {tR mI : Nat → Int32} {mJ : Nat → Int64} {qI : Nat → Nat → Int32} {qJ : Nat → Nat → Int64} : f_X0_enter_b136 n L (nI w) tI tJ tP tO tR mI mJ qI qJ = some (1, (tI, tJ, tP, vp_updL tO w (mJ 4), upd tR w (mI 4), qI, qJ)) := by
  unfold f_X0_enter_b136
  rw [if_pos (inb_lt hw (by decide)), if_pos (inb_lt hw (by decide)), nI_clamp (by omega)]
set_option maxHeartbeats 4000000 in
theorem enter_ok {n : Nat} (hn : 100 < n) {T : Nat → TR} {κ : Nat → Int64} (hk : keyOk T κ) {w c : Nat} (hw : w < 4096) {lw ad : Nat → Nat} {L : List Nat} {tI : Nat → Int32} {tJ : Nat → Int64} {tP : Nat → Option Nat} {tO : Nat → Int64} {tR : Nat → Int32} {qI : Nat → Nat → Int32} {qJ : Nat → Nat → Int64} (h : cTab T κ w c lw ad L tI tJ tP tO tR qI qJ) {mI : Nat → Int32} {mJ : Nat → Int64} {mA : Nat → Nat → Int32} (hm : mRan (T w) mI mJ mA) :
    (∃ c' lw' ad' tI' tJ' tP' tO' tR' qI' qJ', f_X0_enter n L (nI w) tI tJ tP tO tR mI mJ qI qJ = some (1, (tI', tJ', tP', tO', tR', qI', qJ')) ∧ cTab T κ (w + 1) c' lw' ad' L tI' tJ' tP' tO' tR' qI' qJ') ∨
    (c = 40 ∧ (∀ i, i < c → κ w ≠ κ (lw i)) ∧ f_X0_enter n L (nI w) tI tJ tP tO tR mI mJ qI qJ = some (0, (tI, tJ, tP, tO, tR, qI, qJ))) := by
  obtain ⟨hT, hc, h0, hl, hrow, hwd, hv, hf⟩ := h
  obtain ⟨m1, m3, m4, mv, md, mo, -, -⟩ := hm
  have ek : mJ 4 = κ w := (enc_inj mo (hk.1 w)).mpr (fun _ _ => rfl)
  have er : mI 4 = resT (T w) := m4
  have ee : mI 3 = enT (T w) := m3
  have ep : mI 1 = nI (plT (T w)) := m1
  obtain ⟨i, hi, f1, f2, f3⟩ := fnao hn hl (qJ := qJ) hc h0 (mJ 4)
  rw [ek] at f1 f2 f3
  have kj : ∀ j, j < c → qJ (ad j) 1 = κ (lw j) := fun j hj => (hrow j hj).2.2.2.2.2.2
  have b72 : (∀ j, j < i → κ w < κ (lw j)) → (∀ j, i ≤ j → j < c → κ (lw j) < κ w) → ((∃ c' lw' ad' tI' tJ' tP' tO' tR' qI' qJ', f_X0_enter_b72 n L (nI w) (nI i) tI tJ tP tO tR mI mJ qI qJ = some (1, (tI', tJ', tP', tO', tR', qI', qJ')) ∧ cTab T κ (w + 1) c' lw' ad' L tI' tJ' tP' tO' tR' qI' qJ') ∨ (c = 40 ∧ (∀ i, i < c → κ w ≠ κ (lw i)) ∧ f_X0_enter_b72 n L (nI w) (nI i) tI tJ tP tO tR mI mJ qI qJ = some (0, (tI, tJ, tP, tO, tR, qI, qJ)))) := by
    intro hb ha
    have hne : ∀ j, j < c → κ w ≠ κ (lw j) := fun j hj q => by
      rcases Nat.lt_or_ge j i with d | d
      · have := hb j d; rw [q] at this; exact i64_irr this
      · have := ha j d hj; rw [q] at this; exact i64_irr this
    unfold f_X0_enter_b72
    rw [h0]
    by_cases d : c = 40
    · subst d
      rw [if_pos (show (40 : Int32) ≤ nI 40 by decide)]
      exact Or.inr ⟨rfl, hne, rfl⟩
    · have hc4 : c < 40 := by omega
      rw [if_neg (show ¬ (40 : Int32) ≤ nI c from nI_ge (a := c) (b := 40) hc4 (by decide))]
      obtain ⟨tP', g1, g2⟩ := insertAt_eq hn hl hc4 hi h0
      rw [g1]
      simp only [Option.bind_some]
      have hac := (hl.1 c hc4).2
      rw [if_pos hac]
      unfold f_X2_take
      rw [if_pos hac]
      simp only [Option.bind_some]
      have eq9 : (if (mI 3) = 0 then f_X0_enter_b127 n L (nI w) ((vp_updL tJ 0 ((tJ 0) ||| (mJ 2))) 1) (0 : Int64) (upd tI 0 (nI (c + 1))) (vp_updL tJ 0 ((tJ 0) ||| (mJ 2))) tP' tO tR mI mJ (up2 (up2 (up2 (up2 (up2 qI (ad c) 0 (mI 3)) (ad c) 1 (mI 1)) (ad c) 2 (nI w)) (ad c) 3 (mI 4)) (ad c) 4 (1 : Int32)) (up2J (up2J qJ (ad c) 0 (mJ 3)) (ad c) 1 (mJ 4)) else (f_X4_mark (mI 1)).bind fun x => f_X0_enter_b127 n L (nI w) ((vp_updL tJ 0 ((tJ 0) ||| (mJ 2))) 1) x.1 (upd tI 0 (nI (c + 1))) (vp_updL tJ 0 ((tJ 0) ||| (mJ 2))) tP' tO tR mI mJ (up2 (up2 (up2 (up2 (up2 qI (ad c) 0 (mI 3)) (ad c) 1 (mI 1)) (ad c) 2 (nI w)) (ad c) 3 (mI 4)) (ad c) 4 (1 : Int32)) (up2J (up2J qJ (ad c) 0 (mJ 3)) (ad c) 1 (mJ 4))) = some (1, (upd tI 0 (nI (c + 1)), vp_updL (vp_updL tJ 0 ((tJ 0) ||| (mJ 2))) 1 (tJ 1 ||| (if enT (T w) = 0 then 0 else bitp (plT (T w)))), tP', vp_updL tO w (mJ 4), upd tR w (mI 4), (up2 (up2 (up2 (up2 (up2 qI (ad c) 0 (mI 3)) (ad c) 1 (mI 1)) (ad c) 2 (nI w)) (ad c) 3 (mI 4)) (ad c) 4 (1 : Int32)), (up2J (up2J qJ (ad c) 0 (mJ 3)) (ad c) 1 (mJ 4)))) := by
        have e1 : (vp_updL tJ 0 ((tJ 0) ||| (mJ 2))) 1 = tJ 1 := by simp [vp_updL]
        by_cases z : mI 3 = 0
        · have z' : enT (T w) = 0 := by rw [← ee]; exact z
          rw [if_pos z, if_pos z']
          unfold f_X0_enter_b127
          rw [b136_eq hw, e1]
        · have z' : ¬ enT (T w) = 0 := by rw [← ee]; exact z
          rw [if_neg z, if_neg z', ep, mark_eq (hk.2.2 w z')]
          simp only [Option.bind_some]
          unfold f_X0_enter_b127
          rw [b136_eq hw, e1]
      refine Or.inl ⟨c + 1, ins1 lw i w, insA ad i c, _, _, _, _, _, _, _, eq9, ?_⟩
      have tnew := Tab_ins hT hi hb ha
      refine ⟨tnew, by omega, by simp [upd], g2, ?_, ?_, ?_, ?_⟩
      · intro j hj
        have fresh : ∀ v, v < w → κ v ≠ κ w := fun v hv q => by
          obtain ⟨k9, hk9, q2⟩ := hT.1.2.1 v hv
          exact hne k9 hk9 (q.symm.trans q2)
        by_cases a : j = i
        · subst a
          have e1 : ins1 lw j w j = w := by unfold ins1; rw [if_neg (Nat.lt_irrefl _), if_pos rfl]
          have e2 : insA ad j c j = ad c := by unfold insA; rw [if_pos rfl]
          rw [e1, e2]
          refine ⟨by simp [up2, va_up, upd, ee], by simp [up2, va_up, upd, ep], by simp [up2, va_up, upd], by simp [up2, va_up, upd, er], by simp [up2, va_up, upd, sameB_new fresh], ?_, by simp [up2J, va_up, vp_updL, ek]⟩
          have : up2J (up2J qJ (ad c) 0 (mJ 3)) (ad c) 1 (mJ 4) (ad c) 0 = mJ 3 := by simp [up2J, va_up, vp_updL]
          rw [this]
          exact md
        · have idx : ∃ k9, k9 < c ∧ ins1 lw i w j = lw k9 ∧ insA ad i c j = ad k9 := by
            unfold ins1 insA
            rcases Nat.lt_or_ge j i with b | b
            · exact ⟨j, by omega, by rw [if_pos b], by rw [if_neg a, if_neg (by omega)]⟩
            · exact ⟨j - 1, by omega, by rw [if_neg (by omega), if_neg a], by rw [if_neg a, if_pos (by omega)]⟩
          obtain ⟨k9, hk9, e1, e2⟩ := idx
          have hna : ad k9 ≠ ad c := fun q => by have := hl.2 k9 c (by omega) hc4 q; omega
          rw [e1, e2]
          have o1 : up2 (up2 (up2 (up2 (up2 qI (ad c) 0 (mI 3)) (ad c) 1 (mI 1)) (ad c) 2 (nI w)) (ad c) 3 (mI 4)) (ad c) 4 (1 : Int32) (ad k9) = qI (ad k9) := by simp [up2, va_up, hna]
          have o2 : up2J (up2J qJ (ad c) 0 (mJ 3)) (ad c) 1 (mJ 4) (ad k9) = qJ (ad k9) := by simp [up2J, va_up, hna]
          rw [o1, o2]
          obtain ⟨r1, r2, r3, r4, r5, r6, r7⟩ := hrow k9 hk9
          exact ⟨r1, r2, r3, r4, by rw [sameB_ne (hne k9 hk9)]; exact r5, r6, r7⟩
      · rw [ek, er]
        exact words_step hwd
      · have : (vp_updL (vp_updL tJ 0 ((tJ 0) ||| (mJ 2))) 1 (tJ 1 ||| (if enT (T w) = 0 then 0 else bitp (plT (T w))))) 0 = tJ 0 ||| mJ 2 := by simp [vp_updL]
        rw [this]
        exact enc_cong (enc_or hv mv) (fun p _ => by unfold visB; rw [anyW_succ])
      · have : (vp_updL (vp_updL tJ 0 ((tJ 0) ||| (mJ 2))) 1 (tJ 1 ||| (if enT (T w) = 0 then 0 else bitp (plT (T w))))) 1 = tJ 1 ||| (if enT (T w) = 0 then 0 else bitp (plT (T w))) := by simp [vp_updL]
        rw [this]
        by_cases z : enT (T w) = 0
        · rw [if_pos z]
          exact enc_cong (enc_or hf enc_zero) (fun p _ => by unfold faiB; rw [anyW_succ]; simp [z])
        · rw [if_neg z]
          exact enc_cong (enc_or hf (enc_bitp (hk.2.2 w z))) (fun p _ => by
            unfold faiB
            rw [anyW_succ]
            by_cases y : p = plT (T w)
            · subst y; simp [z]
            · simp [z, y, Ne.symm y])
  unfold f_X0_enter
  rw [ek, f1]
  simp only [Option.bind_some]
  rw [h0]
  by_cases d : i = c
  · subst d
    rw [if_pos (Int32.le_refl _)]
    exact b72 (fun j hj => by rw [← kj j hj]; exact f2 j hj) (fun j h1 h2 => by omega)
  · have hic : i < c := by omega
    have ci : (nI i).toNatClampNeg = i := nI_clamp (by omega)
    obtain ⟨p1, p2⟩ := hl.1 i (by omega)
    rw [if_neg (nI_ge (a := i) (b := c) hic (by omega)), if_pos (inb_lt (show i < 40 by omega) (by decide)), ci, p1]
    simp only [Option.bind_some]
    rw [if_pos p2, kj i hic]
    have f3' := f3 hic
    rw [kj i hic] at f3'
    by_cases e : κ (lw i) = κ w
    · rw [if_pos ((lg_cmp0 _ _).mpr e), if_pos (inb_lt (show i < 40 by omega) (by decide))]
      obtain ⟨r1, r2, r3, r4, r5, r6, r7⟩ := hrow i hic
      rw [r4, r5, er]
      have hb65 : (if resT (T (lw i)) = resT (T w) then f_X0_enter_b65 n L (nI w) (ad i) (if sameB T κ w (lw i) then 1 else 0) 1 tI tJ tP tO tR mI mJ qI qJ else f_X0_enter_b65 n L (nI w) (ad i) (if sameB T κ w (lw i) then 1 else 0) 0 tI tJ tP tO tR mI mJ qI qJ) = some (1, (tI, tJ, tP, vp_updL tO w (mJ 4), upd tR w (mI 4), up2 qI (ad i) 4 (if sameB T κ (w + 1) (lw i) then 1 else 0), qJ)) := by
        rw [sameB_eq e.symm]
        unfold f_X0_enter_b65
        by_cases y : resT (T (lw i)) = resT (T w)
        · rw [if_pos y]
          cases sameB T κ w (lw i) <;> simp [p2, b136_eq hw, y]
        · rw [if_neg y]
          have y' : ¬ resT (T w) = resT (T (lw i)) := fun q => y q.symm
          cases sameB T κ w (lw i) <;> simp [p2, b136_eq hw, y']
      rw [if_pos p2, if_pos (inb_lt (show i < 40 by omega) (by decide)), if_pos p2]
      refine Or.inl ⟨c, lw, ad, _, _, _, _, _, _, _, hb65, ?_⟩
      have hu := (hT.1.1 i hic).1
      refine ⟨Tab_old hT hic e.symm, hc, h0, hl, ?_, by rw [ek, er]; exact words_step hwd, enc_cong hv (fun p _ => (vis_old hk hu e.symm p).symm), enc_cong hf (fun p _ => (fai_old hk hu e.symm p).symm)⟩
      intro j hj
      by_cases a : j = i
      · subst a
        exact ⟨by simp [up2, va_up, upd, r1], by simp [up2, va_up, upd, r2], by simp [up2, va_up, upd, r3], by simp [up2, va_up, upd, r4], by simp [up2, va_up, upd], r6, r7⟩
      · have hna : ad j ≠ ad i := fun q => a (hl.2 j i (by omega) (by omega) q)
        have hnk : κ w ≠ κ (lw j) := fun q => a (hT.1.2.2 j i hj hic (q.symm.trans e.symm))
        have o1 : up2 qI (ad i) 4 (if sameB T κ (w + 1) (lw i) then 1 else 0) (ad j) = qI (ad j) := by simp [up2, va_up, hna]
        rw [o1]
        obtain ⟨s1, s2, s3, s4, s5, s6, s7⟩ := hrow j hj
        exact ⟨s1, s2, s3, s4, by rw [sameB_ne hnk]; exact s5, s6, s7⟩
    · rw [if_neg (fun q => e ((lg_cmp0 _ _).mp q))]
      refine b72 (fun j hj => by rw [← kj j (by omega)]; exact f2 j hj) (fun j h1 h2 => ?_)
      have l1 : κ (lw i) < κ w := by
        rw [lt64]
        rw [lt64] at f3'
        have : (κ (lw i)).toInt ≠ (κ w).toInt := fun q => e (eq64.mpr q)
        omega
      by_cases a : j = i
      · subst a; exact l1
      · have l2 := hT.2 i j (by omega) h2
        rw [lt64] at l1 l2 ⊢
        omega
