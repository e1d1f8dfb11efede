-- failure and count
def Fp (T : Nat → TR) (lw : Nat → Nat) (p i : Nat) : Bool := decide (¬ enT (T (lw i)) = 0) && decide (plT (T (lw i)) = p)
theorem fai_iff {T : Nat → TR} {κ : Nat → Int64} (hk : keyOk T κ) {W c : Nat} {lw : Nat → Nat} (hT : TabU κ W c lw) (p : Nat) : faiB T W p = true ↔ ∃ i, i < c ∧ Fp T lw p i = true := by
  unfold faiB Fp
  rw [anyW_iff]
  constructor
  · rintro ⟨v, hv, e⟩
    obtain ⟨i, hi, ei⟩ := hT.2.1 v hv
    obtain ⟨-, -, k1, k2⟩ := hk.2.1 v (lw i) ei
    exact ⟨i, hi, by rw [← k1, ← k2]; exact e⟩
  · rintro ⟨i, hi, e⟩
    exact ⟨lw i, (hT.1 i hi).1, e⟩
theorem fai_bst {T : Nat → TR} {κ : Nat → Int64} (hk : keyOk T κ) {W c : Nat} {lw : Nat → Nat} (hT : TabU κ W c lw) (p : Nat) : (faiB T W p = true ∧ ∃ j, j < c ∧ Fp T lw p j = true ∧ bst (Fp T lw p) lw c = some j) ∨ (faiB T W p = false ∧ bst (Fp T lw p) lw c = none) := by
  cases hb : bst (Fp T lw p) lw c with
  | none =>
    refine Or.inr ⟨?_, rfl⟩
    have h := bst_none.mp hb
    cases hf : faiB T W p with
    | false => rfl
    | true =>
      obtain ⟨i, hi, e⟩ := (fai_iff hk hT p).mp hf
      rw [h i hi] at e
      cases e
  | some j =>
    obtain ⟨h1, h2⟩ := bst_some hb
    exact Or.inl ⟨(fai_iff hk hT p).mpr ⟨j, h1, h2⟩, j, h1, h2, rfl⟩
theorem fg_of {n : Nat} (hn : 5000 < n) {K : List Nat} {k : Nat} {wd : Nat → Nat} {sg : Nat → Int32} {P : Nat → Nat → Int32} {z : Nat} (hz : z ≤ 60) (hw : wfP P z k) (hb : sm wd k ≤ 12) {κ : Nat → Int64} {c : Nat} {lw ga : Nat → Nat} {rI : Nat → Int32} {rA rR : Nat → Nat → Int32} (hk : keyOk (TT k wd sg P z) κ) (hM : mTab (TT k wd sg P z) κ (2 ^ sm wd k) c lw ga rA rR) (h6 : rI 6 = nI c) : fgOk n K z (faiB (TT k wd sg P z) (2 ^ sm wd k)) (fun p => ek (P 0 p)) (fun p => vv lw (bst (Fp (TT k wd sg P z) lw p) lw c)) rI rA := by
  obtain ⟨hT, hc, hr, -⟩ := hM
  have h12 := pw12 hb
  have hlw : ∀ i, i < c → lw i < 4096 := fun i hi => by have := (hT.1 i hi).1; omega
  refine ⟨fun p hp h h1 h2 => ?_, fun p hp hS => ?_⟩
  · unfold f_X5_failing
    have e := fg_loop (n := n) (K := K) (lw := lw) (c := c) (x1 := nI h) (x2 := nI p) (rI := rI) (rA := rA) hc h6 (F := fun i => decide (rA 6 i = nI h) && decide (rA 7 i = nI p)) (fun i _ => rfl) (fun i hi => ⟨(hr i hi).2.2.2.1, hlw i hi⟩) n 0 (by omega) (by omega)
    have e' : lp (f_X5_failing_l5 n K (nI h) (nI p) rI rA) n ((-1 : Int32), (0 : Int32)) = _ := e
    rw [e']
    by_cases c1 : h = ek (P 0 p)
    · have ec : bst (fun i => decide (rA 6 i = nI h) && decide (rA 7 i = nI p)) lw c = bst (Fp (TT k wd sg P z) lw p) lw c := bst_cong (fun i hi => by
        obtain ⟨s0, s1, -⟩ := hr i hi
        have hpl : plT (TT k wd sg P z (lw i)) ≤ 60 := tr_pl hz hw 61 0 _ _ (by omega)
        unfold Fp
        rw [s0, s1, Bool.eq_iff_iff, Bool.and_eq_true, Bool.and_eq_true, decide_eq_true_iff, decide_eq_true_iff, decide_eq_true_iff, decide_eq_true_iff, nI_eq (by omega) (by omega)]
        constructor
        · rintro ⟨q1, q2⟩
          refine ⟨fun q => ?_, q2⟩
          rw [q1] at q
          have := (nI_eq (a := h) (b := 0) (by omega) (by decide)).mp q
          omega
        · rintro ⟨q1, q2⟩
          have := (TT_fail q1).2
          rw [q2, ← c1] at this
          exact ⟨this, q2⟩)
      rw [ec]
      rcases fai_bst hk hT p with ⟨f1, -⟩ | ⟨f1, f2⟩
      · rw [if_pos ⟨f1, c1⟩]
      · rw [if_neg (fun q => by rw [f1] at q; exact absurd q.1 (by decide)), f2]
        rfl
    · have ec : bst (fun i => decide (rA 6 i = nI h) && decide (rA 7 i = nI p)) lw c = none := bst_none.mpr (fun i hi => by
        obtain ⟨s0, s1, -⟩ := hr i hi
        have hpl : plT (TT k wd sg P z (lw i)) ≤ 60 := tr_pl hz hw 61 0 _ _ (by omega)
        have hek := ek_le (P 0 p)
        rw [s0, s1, Bool.eq_false_iff]
        intro q
        rw [Bool.and_eq_true, decide_eq_true_iff, decide_eq_true_iff, nI_eq (by omega) (by omega)] at q
        have ne : ¬ enT (TT k wd sg P z (lw i)) = 0 := fun q2 => by
          rw [q.1] at q2
          have := (nI_eq (a := h) (b := 0) (by omega) (by decide)).mp q2
          omega
        have := (TT_fail ne).2
        rw [q.2, q.1, nI_eq (by omega) (by omega)] at this
        exact c1 this)
      rw [ec, if_neg (fun q => c1 q.2)]
      rfl
  · dsimp only
    rcases fai_bst hk hT p with ⟨f1, j, j1, j2, j3⟩ | ⟨f1, -⟩
    · rw [j3]
      unfold Fp at j2
      rw [Bool.and_eq_true, decide_eq_true_iff, decide_eq_true_iff] at j2
      have h1 := (TT_fail j2.1).2
      rw [j2.2] at h1
      refine ⟨?_, ek_le _, nI_ne1 (by have := hlw j j1; omega)⟩
      rcases Nat.eq_zero_or_pos (ek (P 0 p)) with q | q
      · rw [q] at h1
        exact absurd h1 j2.1
      · exact q
    · rw [hS] at f1; cases f1
theorem fg_no {n : Nat} (hn : 5000 < n) {K : List Nat} {z : Nat} {rI : Nat → Int32} {rA : Nat → Nat → Int32} (h6 : rI 6 = -1) : fgOk n K z (fun _ => false) (fun _ => 0) (fun _ => 0) rI rA := by
  refine ⟨fun p hp h h1 h2 => ?_, fun p hp hS => by cases hS⟩
  unfold f_X5_failing
  obtain ⟨M, rfl⟩ : ∃ M, n = M + 1 := ⟨n - 1, by omega⟩
  rw [lp_succ]
  unfold f_X5_failing_l5
  dsimp only
  rw [h6, if_pos (by decide)]
  rfl
theorem fai_z {k : Nat} {wd : Nat → Nat} {sg : Nat → Int32} {P : Nat → Nat → Int32} {z W p : Nat} (h : faiB (TT k wd sg P z) W p = true) : p < z := by
  unfold faiB at h
  obtain ⟨v, -, e⟩ := anyW_iff.mp h
  rw [Bool.and_eq_true, decide_eq_true_iff, decide_eq_true_iff] at e
  have := (TT_fail e.1).1
  omega
theorem vis_z {k : Nat} {wd : Nat → Nat} {sg : Nat → Int32} {P : Nat → Nat → Int32} {z : Nat} (hz : z ≤ 60) (hw : wfP P z k) {W p : Nat} (h : visB (TT k wd sg P z) W p = true) : p < z := by
  unfold visB at h
  obtain ⟨v, -, e⟩ := anyW_iff.mp h
  exact ((tr_places hz hw (inp := inpF k wd sg v) (ov := none) 61 0 (fun _ => 0) (fun _ => 0)).1 p (of_decide_eq_true e)).2
theorem ct_z {S : Nat → Bool} {z : Nat} (hz : z ≤ 60) (h : ∀ p, S p = true → p < z) : ct S 60 = ct S z := by
  obtain ⟨d, hd⟩ : ∃ d, 60 = z + d := ⟨60 - z, by omega⟩
  rw [hd, ct_split, ct_false (p := fun k => S (z + k)) (fun k _ => by
    cases hs : S (z + k) with
    | false => rfl
    | true => have := h _ hs; omega), Nat.add_zero]
theorem a_failure {n : Nat} (hn : 5000 < n) {L K : List Nat} {rG : Nat → Option Nat} {bI pI : Nat → Int32} {pA : Nat → Nat → Int32} {tI : Nat → Int32} {tJ : Nat → Int64} {tP : Nat → Option Nat} {tO : Nat → Int64} {tR vI : Nat → Int32} {vJ : Nat → Int64} {vA qI : Nat → Nat → Int32} {qJ : Nat → Nat → Int64} {rI : Nat → Int32} {rA rR : Nat → Nat → Int32} (h : Inv L K rG bI pI pA tI tJ tP tO tR vI vJ vA qI qJ rI rA rR) (u1 u2 : Int32) : ∃ r, f_X4_failure n L u1 u2 tI tJ tP qI = some (r, ()) ∧ f_X5_failure n K u1 u2 rI rA = some (r, ()) := by
  obtain ⟨k, wd, sg, P, z, ga, hg, hP, hR, hT⟩ := h
  obtain ⟨⟨-, hb, -, p1, -⟩, -, r2, hz, -, r3, -, -, hw, -⟩ := hP
  have h12 := pw12 hb
  unfold f_X4_failure f_X0_firstFailing
  rcases hT with ⟨h1, h2, -⟩ | ⟨κ, c, lw, ad, hc0, hk, hC, hM, h6⟩
  · obtain ⟨r, er⟩ := pom_total (show 100 < n by omega) (tJ 1) u1
    rw [er]
    simp only [Option.bind_some]
    have e : lp (f_X0_firstFailing_l14 n L r tI tJ tP qI) n (none, (0 : Int32)) = some (none, ()) := by
      obtain ⟨M, rfl⟩ : ∃ M, n = M + 1 := ⟨n - 1, by omega⟩
      rw [lp_succ]
      unfold f_X0_firstFailing_l14
      dsimp only
      rw [h1, if_pos (Int32.le_refl _)]
    rw [e]
    simp only [Option.bind_some]
    exact ⟨_, rfl, failure_no hn hz (fg_no hn h2) r3 u2 u1 (fun q _ hS => by cases hS)⟩
  · have hfg := fg_of (K := K) hn hz hw hb hk hM h6
    obtain ⟨hTb, hc, h0, hl, hr, -, -, hf⟩ := hC
    have hq2 : ∀ i, i < c → qI (ad i) 2 = nI (lw i) ∧ lw i < 4096 := fun i hi => ⟨(hr i hi).2.2.1, by have := (hTb.1.1 i hi).1; omega⟩
    have hpl : ∀ i, plT (TT k wd sg P z (lw i)) ≤ 60 := fun i => tr_pl hz hw 61 0 _ _ (by omega)
    by_cases ex : ∃ q, q < 60 ∧ faiB (TT k wd sg P z) (2 ^ sm wd k) q = true ∧ u1 = nI (ct (faiB (TT k wd sg P z) (2 ^ sm wd k)) q)
    · obtain ⟨q, hq, hS, rfl⟩ := ex
      rw [placeOfMark_yes (by omega) hf hq hS, failure_yes hn hz hfg r3 u2 (fai_z hS) hS]
      simp only [Option.bind_some]
      have e := ff_loop (n := n) (L := L) (r := nI q) (tJ := tJ) (lw := lw) hl hc h0 (F := Fp (TT k wd sg P z) lw q) (fun i hi => by
        obtain ⟨s0, s1, -⟩ := hr i hi
        have := hpl i
        unfold Fp
        rw [s0, s1, Bool.eq_iff_iff, Bool.and_eq_true, Bool.and_eq_true, decide_eq_true_iff, decide_eq_true_iff, decide_eq_true_iff, nI_eq (by omega) (by omega)]) hq2 n 0 (by omega) (by omega)
      have e' : lp (f_X0_firstFailing_l14 n L (nI q) tI tJ tP qI) n (none, (0 : Int32)) = _ := e
      rw [e']
      rcases fai_bst hk hTb.1 q with ⟨f1, j, j1, j2, j3⟩ | ⟨f1, -⟩
      · rw [j3]
        simp only [Option.map_some, Option.bind_some]
        unfold Fp at j2
        rw [Bool.and_eq_true, decide_eq_true_iff, decide_eq_true_iff] at j2
        have hen := (TT_fail j2.1).2
        rw [j2.2] at hen
        obtain ⟨s0, s1, s2, -⟩ := hr j j1
        have l2 := (hl.1 j (by omega)).2
        unfold f_X5_failure_b52
        rw [if_pos l2, if_pos l2, if_pos l2, s0, s1, s2, hen, j2.2]
        by_cases d0 : u2 = 0
        · rw [if_pos d0, if_pos d0]; exact ⟨_, rfl, rfl⟩
        rw [if_neg d0, if_neg d0]
        by_cases d1 : u2 = 1
        · rw [if_pos d1, if_pos d1]; exact ⟨_, rfl, rfl⟩
        rw [if_neg d1, if_neg d1]
        by_cases d2 : u2 = 2
        · rw [if_pos d2, if_pos d2]; exact ⟨_, rfl, rfl⟩
        rw [if_neg d2, if_neg d2]
        exact ⟨_, rfl, rfl⟩
      · rw [hS] at f1; cases f1
    · rw [placeOfMark_no (by omega) hf (fun q hq hS e => ex ⟨q, hq, hS, e⟩), failure_no hn hz hfg r3 u2 u1 (fun q hq hS e => ex ⟨q, by omega, hS, e⟩)]
      simp only [Option.bind_some]
      have e := ff_loop (n := n) (L := L) (r := -1) (tJ := tJ) (lw := lw) hl hc h0 (F := fun _ => false) (fun i hi => by
        obtain ⟨s0, s1, -⟩ := hr i hi
        have := hpl i
        rw [s1, decide_eq_false (nI_ne1 (show plT (TT k wd sg P z (lw i)) < 2 ^ 31 by omega)), Bool.and_false]) hq2 n 0 (by omega) (by omega)
      have e' : lp (f_X0_firstFailing_l14 n L (-1) tI tJ tP qI) n (none, (0 : Int32)) = _ := e
      rw [e', bst_none.mpr (fun _ _ => rfl)]
      simp only [Option.map_none, Option.bind_some]
      exact ⟨_, rfl, rfl⟩
theorem count78 {n : Nat} {K : List Nat} {z : Nat} (hz : z ≤ 60) {rI : Nat → Int32} {rA : Nat → Nat → Int32} (h3 : rI 3 = nI z) : ∀ (N p : Nat), p ≤ z → z - p < N → lp (f_X5_count_l78 n K rI rA) N (nI (ct (fun q => decide (¬ rA 13 q = 0)) p), nI p) = f_X5_count_b109 n K (nI (ct (fun q => decide (¬ rA 13 q = 0)) z)) rI rA := by
  intro N
  induction N with
  | zero => intro p _ h; omega
  | succ N ih =>
    intro p h1 h2
    rw [lp_succ]
    generalize lp (f_X5_count_l78 n K rI rA) N = rcv at ih ⊢
    unfold f_X5_count_l78
    dsimp only
    by_cases d : p = z
    · subst d
      rw [h3, if_pos (Int32.le_refl _)]
    · have nxt := ih (p + 1) (by omega) (by omega)
      rw [ct_step] at nxt
      unfold f_X5_count_b101
      rw [h3, if_neg (nI_ge (a := p) (b := z) (by omega) (by omega)), if_pos (inb_lt (show p < 60 by omega) (by decide)), nI_clamp (show p < 2 ^ 31 by omega), nI_1, nI_1, Int32.add_zero]
      by_cases e : rA 13 p = 0
      · rw [if_pos e]
        rw [if_neg (by simp [e]), Nat.add_zero] at nxt
        exact nxt
      · rw [if_neg e]
        rw [if_pos (by simp [e])] at nxt
        exact nxt
theorem bc_total (m : Int64) : ∃ r, f_J13_bitCount_95d88 m = some (r, ()) := ⟨_, rfl⟩
theorem a_count {n : Nat} (hn : 5000 < n) {L K : List Nat} {rG : Nat → Option Nat} {bI pI : Nat → Int32} {pA : Nat → Nat → Int32} {tI : Nat → Int32} {tJ : Nat → Int64} {tP : Nat → Option Nat} {tO : Nat → Int64} {tR vI : Nat → Int32} {vJ : Nat → Int64} {vA qI : Nat → Nat → Int32} {qJ : Nat → Nat → Int64} {rI : Nat → Int32} {rA rR : Nat → Nat → Int32} (h : Inv L K rG bI pI pA tI tJ tP tO tR vI vJ vA qI qJ rI rA rR) (u1 : Int32) : ∃ r, f_X4_count L u1 pI tI tJ = some (r, ()) ∧ f_X5_count n K u1 rI rA = some (r, ()) := by
  obtain ⟨k, wd, sg, P, z, ga, hg, hP, hR, hT⟩ := h
  obtain ⟨⟨-, hb, p0, p1, -⟩, ⟨-, -, r1, -⟩, r2, hz, p2, r3, -, -, hw, -⟩ := hP
  unfold f_X4_count f_X5_count
  by_cases d0 : u1 = 0
  · rw [if_pos d0, if_pos d0, p0, r1]; exact ⟨_, rfl, rfl⟩
  rw [if_neg d0, if_neg d0]
  by_cases d1 : u1 = 1
  · rw [if_pos d1, if_pos d1, p1, r2]; exact ⟨_, rfl, rfl⟩
  rw [if_neg d1, if_neg d1]
  by_cases d2 : u1 = 2
  · rw [if_pos d2, if_pos d2, p2, r3]; exact ⟨_, rfl, rfl⟩
  rw [if_neg d2, if_neg d2]
  have c78 : lp (f_X5_count_l78 n K rI rA) n ((0 : Int32), (0 : Int32)) = _ := count78 (n := n) (K := K) hz r3 (rA := rA) n 0 (by omega) (by omega)
  rw [c78]
  unfold f_X5_count_b109
  rcases hT with ⟨h1, h2, -⟩ | ⟨κ, c, lw, ad, hc0, hk, hC, hM, h6⟩
  · obtain ⟨x1, e1⟩ := bc_total (tJ 1)
    obtain ⟨x0, e0⟩ := bc_total (tJ 0)
    have n0 : ¬ (0 : Int32) ≤ -1 := by decide
    rw [e1, e0, h2, if_neg n0, if_neg n0]
    simp only [Option.bind_some, kon_no h1]
    refine ⟨-1, ?_, ?_⟩
    · repeat' split
      all_goals rfl
    · repeat' split
      all_goals rfl
  · have hfg := fg_of (K := K) hn hz hw hb hk hM h6
    obtain ⟨-, hc, h0, -, -, -, hv, hf⟩ := hC
    have hmet := hM.2.2.2.2
    have n0 : (0 : Int32) ≤ nI c := nI_pos' (by omega)
    have hct : ct (fun q => decide (¬ rA 13 q = 0)) z = ct (visB (TT k wd sg P z) (2 ^ sm wd k)) z := ct_cong (fun p hp => by
      rw [hmet p (by omega)]
      cases visB (TT k wd sg P z) (2 ^ sm wd k) p <;> decide)
    rw [bitCount_enc hf, bitCount_enc hv, h6, if_pos n0, if_pos n0, failures_eq hn hz hfg r3, ct_z hz (fun p hp => fai_z hp), ct_z hz (fun p hp => vis_z hz hw hp), hct]
    simp only [Option.bind_some, kon_yes h0 hc0 hc]
    rw [h0]
    by_cases d3 : u1 = 3
    · rw [if_pos d3]; exact ⟨_, rfl, rfl⟩
    rw [if_neg d3]
    by_cases d4 : u1 = 4
    · rw [if_pos d4]; exact ⟨_, rfl, rfl⟩
    rw [if_neg d4]
    by_cases d5 : u1 = 5
    · rw [if_pos d5]; exact ⟨_, rfl, rfl⟩
    rw [if_neg d5]
    exact ⟨_, rfl, rfl⟩
