set_option maxRecDepth 20000 in
theorem nw_in : ∀ w ∈ nwL, w ∈ lw_tbl := fun w hw => by
  have hp : nwL = ([57, 59, 61, 63, 65, 67, 69, 70, 114, 116, 117, 118, 120, 121, 123, 124, 126, 127, 129, 130, 132, 133, 154, 156, 158, 179, 181, 184, 186, 187, 190, 191, 192, 194, 195, 197, 198, 200, 202, 203, 204, 206, 207, 49, 109, 174, 280, 294, 333, 348, 371, 372, 376, 398, 460, 491] : List Nat).filterMap (fun i => lw_tbl[i]?) := by decide +kernel
  rw [hp] at hw
  obtain ⟨i, -, hi⟩ := List.mem_filterMap.mp hw
  exact List.mem_of_getElem? hi
theorem nw_on : nwL.all (fun w => w.onTables) = true := by decide +kernel
theorem ao_in : Cond.arrayOver (.object "SymbolBench$Path") ∈ lw_tbl := List.mem_of_getElem? (i := 107) (by decide +kernel)
theorem aoa_in : Cond.arrayOver (.array .int) ∈ lw_tbl := List.mem_of_getElem? (i := 507) (by decide +kernel)
theorem ac_of {ty : FieldType} {args : Array Value} {s : State} (h : (Cond.arrayClass ty).before args s = true) : ∃ c, ArrOfT s c ty ∧ s.vm.findClass (FieldType.array ty).toString = some c := by
  obtain ⟨comp, kC, cc, h1, h2, h3⟩ := Cond.arrayClass_spec h
  exact ⟨comp, fun n z => ⟨(fun k h => by cases h), kC, h2, cc, h3⟩, h1⟩
/-- what the tables give at the law's entry -/
theorem know {s : State} {b : Nat} (hts : ∀ w ∈ lw_tbl, w.before #[Value.ref b] s = true) : ∃ (D : va_G) (cA : Nat → ClassId), CO D cA s := by
  have hT : ∀ w ∈ wsL_law, w.before #[Value.ref b] s = true := fun w h => hts w (wsL_law_in w h)
  obtain ⟨c0, i0, k0⟩ := u_known (C := RX0) (T := TX0) (N := 6) (n := 6) hT inlX0 (hT _ is_RX0)
  obtain ⟨c1, i1, k1⟩ := u_known (C := RX1) (T := TX1) (N := 12) (n := 12) hT inlX1 (hT _ is_RX1)
  obtain ⟨c2, i2, k2⟩ := u_known (C := RX2) (T := TX2) (N := 7) (n := 7) hT inlX2 (hT _ is_RX2)
  obtain ⟨c3, i3, k3⟩ := u_known (C := RX3) (T := TX3) (N := 12) (n := 12) hT inlX3 (hT _ is_RX3)
  obtain ⟨c4, i4, k4⟩ := u_known (C := RX4) (T := TX4) (N := 6) (n := 6) hT inlX4 (hT _ is_RX4)
  obtain ⟨c5, i5, k5⟩ := u_known (C := RX5) (T := TX5) (N := 40) (n := 40) hT inlX5 (hT _ is_RX5)
  obtain ⟨a0, x0, y0⟩ := ac_of (hT _ ac_i)
  obtain ⟨a1, x1, y1⟩ := ac_of (hT _ ac_b)
  obtain ⟨a2, x2, y2⟩ := ac_of (hT _ ac_j)
  have hao : va_AO "SymbolBench$Path" s := va_AO.of (hts _ ao_in)
  have haoa : va_AOA .int s := hts _ aoa_in
  obtain ⟨q3, a3, z3, f1, f2, f3, f4, f5⟩ := Cond.arrayOver_spec hao
  obtain ⟨q4, a4, z4, g1, g2, g3, g4, g5⟩ := arrayOverA_spec haoa
  refine ⟨(fun k => ([c0, c1, c2, c3, c4, c5] : List ClassId).getD k 0, fun k => ([i0, i1, i2, i3, i4, i5] : List (Nat → Nat)).getD k (fun _ => 0)), fun k => ([a0, a1, a2, a3, a4] : List ClassId).getD k 0, ⟨⟨fun k q hq => ?_, fun k q hq => ?_⟩, fun w hw => va_Nw.of (List.all_eq_true.mp nw_on w hw) (hts w (nw_in w hw))⟩, hao, haoa⟩
  · match k, hq with
    | 0, hq => cases hq; exact k0
    | 1, hq => cases hq; exact k1
    | 2, hq => cases hq; exact k2
    | 3, hq => cases hq; exact k3
    | 4, hq => cases hq; exact k4
    | 5, hq => cases hq; exact k5
    | k + 6, hq => simp [vwCl] at hq
  · match k, hq with
    | 0, hq => cases hq; exact ⟨x0, y0⟩
    | 1, hq => cases hq; exact ⟨x1, y1⟩
    | 2, hq => cases hq; exact ⟨x2, y2⟩
    | 3, hq => cases hq; exact ⟨fun n z => ⟨(fun k h => by cases h), z3, f3, q3, f4⟩, z3, q3, f3, f4, f1, f5⟩
    | 4, hq => cases hq; exact ⟨fun n z => ⟨(fun k h => by cases h), z4, g3, q4, g4⟩, g5⟩
    | k + 5, hq => simp [tyL] at hq
/-- the start: both sides agree -/
theorem Inv_start {L K : List Nat} {rG tP : Nat → Option Nat} (h1 : ∃ ad, Lay L ad tP) (h2 : ∃ ga, Gay K ga rG) : Inv L K rG (fun _ => 0) (fun _ => 0) (fun _ _ => 0) (fun _ => 0) (fun _ => 0) tP (fun _ => 0) (fun _ => 0) (fun _ => 0) (fun _ => 0) (fun _ _ => 0) (fun _ _ => 0) (fun _ _ => 0) rI0 (fun _ _ => 0) (fun _ _ => 0) := by
  obtain ⟨ga, hg⟩ := h2
  refine ⟨0, fun _ => 0, fun _ => 0, fun _ _ => 0, 0, ga, hg, ?_, Or.inl ⟨rfl, rfl⟩, Or.inl ⟨rfl, rfl, h1⟩⟩
  exact ⟨⟨by omega, by show 0 ≤ 12; omega, rfl, rfl, fun j hj => absurd hj (Nat.not_lt_zero j)⟩, ⟨by omega, by show 0 ≤ 12; omega, rfl, fun j hj => absurd hj (Nat.not_lt_zero j)⟩, rfl, by omega, rfl, rfl, fun pc hpc => absurd hpc (Nat.not_lt_zero pc), fun pc hpc => absurd hpc (Nat.not_lt_zero pc), fun pc hpc => absurd hpc (Nat.not_lt_zero pc), 0, 0, by omega, by omega, rfl, rfl, rfl, rfl⟩

set_option maxRecDepth 100000 in
set_option maxHeartbeats 8000000 in
theorem law_loop {p : Program} {l : Launch} {e : Env} {s : State} {m : MethodId} {below : List Frame} {meth : Method} {c : Code} {b Ln : Nat} {xs : Nat → Int32} (hLn : Ln ≤ 2560) (C0 : lw_At p s m meth c b Ln xs) {D : va_G} {cA : Nat → ClassId} (hK : CK D cA s) {aB aP aT aM aN aR : Nat → Nat} {L K : List Nat} {rG : Nat → Option Nat} : ∀ (nn i : Nat), i ≤ Ln → Ln < i + 5 * nn → AtP p l e s m below meth c b D cA aB aP aT aM aN aR L K rG 18 i := by
  intro nn
  induction nn with
  | zero => intro i h1 h2; omega
  | succ nn ih =>
    intro i h1 h2 bI pI pA tI tJ tP tO tR mI mJ mA vI vJ vA qI qJ rI rA rR H locs ls hI hP hD hS hl
    obtain ⟨hx, hb, hr, hml, hown, hts, hX, hbl, hlocks, hgv⟩ := id C0
    have hA : ∀ q : Nat, s.heap.size ≤ q → (fun q : Nat => s.heap.size ≤ q) q := fun _ h => h
    have hbA : ¬ (fun q : Nat => s.heap.size ≤ q) b := Nat.not_le.mpr hbl
    refine lv_iload_n hx hb dL_law_18 rfl (lv_at hl 3 rfl) ?_
    refine lv_aload_n hx hb dL_law_19 rfl (lv_at hl 0 rfl) ?_
    refine va_slen hx hb hX hbl hbA hS dL_law_20 ?_
    refine lv_iconst (v := (5 : Int32)) hx hb dL_law_21 (by decide) ?_
    refine lv_isub hx hb dL_law_22 ?_
    have es : (Int32.ofNat Ln - (5 : Int32)).toInt = (Ln : Int) - 5 := pk_sub_toInt (a := Ln) (b := 5) (by omega) (by decide)
    have ei : (nI i).toInt = (i : Int) := nI_toInt (by omega)
    refine lv_icmp_gt (tgt := 592) hx hb dL_law_23 (by decide) (fun c1 => ?_) (fun c1 => ?_)
    · refine lv_iconst (v := (1 : Int32)) hx hb dL_law_592 (by decide) ?_
      refine va_forget (fun q hq => hS.2.2 q hq) ?_
      refine W.widen (k := 600000) (n := 7302250) (Nat.le_of_ble_eq_true rfl) (Nat.le_of_ble_eq_true rfl) ?_
      exact lw_ret hx hb hr hlocks dL_law_593
    · have hi : i + 5 ≤ Ln := by
        rw [Int32.lt_iff_toInt_lt, es, ei] at c1
        omega
      refine lv_aload_n hx hb dL_law_26 rfl (lv_at hl 0 rfl) ?_
      refine lv_iload_n hx hb dL_law_27 rfl (lv_at hl 3 rfl) ?_
      refine va_sld hx hb hX hbl hbA hS (vp_in_nI (show i < Ln by omega) (by omega)) dL_law_28 ?_
      refine lv_bipush (v := (15 : Int32)) hx hb dL_law_29 (by decide) ?_
      refine lv_iand hx hb dL_law_31 ?_
      have k586 : AtP p l e s m below meth c b D cA aB aP aT aM aN aR L K rG 586 i := by
        intro bI pI pA tI tJ tP tO tR mI mJ mA vI vJ vA qI qJ rI rA rR H locs ls hI hP hD hS hl
        refine lv_iinc (v := nI (i + 5)) (lv' := [(3, .int (nI (i + 5))), (0, .ref b), (1, .ref (aB 0)), (2, .ref (aR 0))]) hx hb dL_law_586 hl (k := 3) rfl (nI_add i 5) (by decide) rfl (fun ls hl => ?_)
        refine lv_goto (tgt := 18) hx hb dL_law_589 (by decide) ?_
        exact ih (i + 5) (by omega) (by omega) bI pI pA tI tJ tP tO tR mI mJ mA vI vJ vA qI qJ rI rA rR H locs ls hI hP hD hS (lv_sub hl [1, 2, 3, 0] rfl)
      obtain ⟨j, hj, ej⟩ := and15 (xs (nI i).toNatClampNeg)
      have hj16 : j = 0 ∨ j = 1 ∨ j = 2 ∨ j = 3 ∨ j = 4 ∨ j = 5 ∨ j = 6 ∨ j = 7 ∨ j = 8 ∨ j = 9 ∨ j = 10 ∨ j = 11 ∨ j = 12 ∨ j = 13 ∨ j = 14 ∨ j = 15 := by omega
      rcases hj16 with rfl | rfl | rfl | rfl | rfl | rfl | rfl | rfl | rfl | rfl | rfl | rfl | rfl | rfl | rfl | rfl
      · refine gs_in (off := 80) (tgt := 112) (0 : Int32) ej hx hb dL_law_32 (by decide +kernel) (by decide) ?_
        exact lw_input hLn C0 hK hi k586 bI pI pA tI tJ tP tO tR mI mJ mA vI vJ vA qI qJ rI rA rR H locs ls hI hP hD hS hl
      · refine gs_in (off := 129) (tgt := 161) (1 : Int32) ej hx hb dL_law_32 (by decide +kernel) (by decide) ?_
        exact lw_tell hLn C0 hK hi k586 bI pI pA tI tJ tP tO tR mI mJ mA vI vJ vA qI qJ rI rA rR H locs ls hI hP hD hS hl
      · refine gs_in (off := 182) (tgt := 214) (2 : Int32) ej hx hb dL_law_32 (by decide +kernel) (by decide) ?_
        exact lw_clear hLn C0 hK hi k586 bI pI pA tI tJ tP tO tR mI mJ mA vI vJ vA qI qJ rI rA rR H locs ls hI hP hD hS hl
      · refine gs_in (off := 195) (tgt := 227) (3 : Int32) ej hx hb dL_law_32 (by decide +kernel) (by decide) ?_
        exact lw_explore hLn C0 hK hi k586 bI pI pA tI tJ tP tO tR mI mJ mA vI vJ vA qI qJ rI rA rR H locs ls hI hP hD hS hl
      · refine gs_in (off := 208) (tgt := 240) (4 : Int32) ej hx hb dL_law_32 (by decide +kernel) (by decide) ?_
        exact lw_path hLn C0 hK hi k586 bI pI pA tI tJ tP tO tR mI mJ mA vI vJ vA qI qJ rI rA rR H locs ls hI hP hD hS hl
      · refine gs_in (off := 241) (tgt := 273) (5 : Int32) ej hx hb dL_law_32 (by decide +kernel) (by decide) ?_
        exact lw_decision hLn C0 hK hi k586 bI pI pA tI tJ tP tO tR mI mJ mA vI vJ vA qI qJ rI rA rR H locs ls hI hP hD hS hl
      · refine gs_in (off := 274) (tgt := 306) (6 : Int32) ej hx hb dL_law_32 (by decide +kernel) (by decide) ?_
        exact lw_holds hLn C0 hK hi k586 bI pI pA tI tJ tP tO tR mI mJ mA vI vJ vA qI qJ rI rA rR H locs ls hI hP hD hS hl
      · refine gs_in (off := 307) (tgt := 339) (7 : Int32) ej hx hb dL_law_32 (by decide +kernel) (by decide) ?_
        exact lw_value hLn C0 hK hi k586 bI pI pA tI tJ tP tO tR mI mJ mA vI vJ vA qI qJ rI rA rR H locs ls hI hP hD hS hl
      · refine gs_in (off := 340) (tgt := 372) (8 : Int32) ej hx hb dL_law_32 (by decide +kernel) (by decide) ?_
        exact lw_find hLn C0 hK hi k586 bI pI pA tI tJ tP tO tR mI mJ mA vI vJ vA qI qJ rI rA rR H locs ls hI hP hD hS hl
      · refine gs_in (off := 383) (tgt := 415) (9 : Int32) ej hx hb dL_law_32 (by decide +kernel) (by decide) ?_
        exact lw_run hLn C0 hK hi k586 bI pI pA tI tJ tP tO tR mI mJ mA vI vJ vA qI qJ rI rA rR H locs ls hI hP hD hS hl
      · refine gs_in (off := 406) (tgt := 438) (10 : Int32) ej hx hb dL_law_32 (by decide +kernel) (by decide) ?_
        exact lw_ran hLn C0 hK hi k586 bI pI pA tI tJ tP tO tR mI mJ mA vI vJ vA qI qJ rI rA rR H locs ls hI hP hD hS hl
      · refine gs_in (off := 429) (tgt := 461) (11 : Int32) ej hx hb dL_law_32 (by decide +kernel) (by decide) ?_
        exact lw_register hLn C0 hK hi k586 bI pI pA tI tJ tP tO tR mI mJ mA vI vJ vA qI qJ rI rA rR H locs ls hI hP hD hS hl
      · refine gs_in (off := 452) (tgt := 484) (12 : Int32) ej hx hb dL_law_32 (by decide +kernel) (by decide) ?_
        exact lw_cell hLn C0 hK hi k586 bI pI pA tI tJ tP tO tR mI mJ mA vI vJ vA qI qJ rI rA rR H locs ls hI hP hD hS hl
      · refine gs_in (off := 475) (tgt := 507) (13 : Int32) ej hx hb dL_law_32 (by decide +kernel) (by decide) ?_
        exact lw_failure hLn C0 hK hi k586 bI pI pA tI tJ tP tO tR mI mJ mA vI vJ vA qI qJ rI rA rR H locs ls hI hP hD hS hl
      · refine gs_in (off := 508) (tgt := 540) (14 : Int32) ej hx hb dL_law_32 (by decide +kernel) (by decide) ?_
        exact lw_covered hLn C0 hK hi k586 bI pI pA tI tJ tP tO tR mI mJ mA vI vJ vA qI qJ rI rA rR H locs ls hI hP hD hS hl
      · refine gs_in (off := 531) (tgt := 563) (15 : Int32) ej hx hb dL_law_32 (by decide +kernel) (by decide) ?_
        exact lw_count hLn C0 hK hi k586 bI pI pA tI tJ tP tO tR mI mJ mA vI vJ vA qI qJ rI rA rR H locs ls hI hP hD hS hl

