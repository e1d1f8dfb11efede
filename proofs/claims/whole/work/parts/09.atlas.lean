set_option maxRecDepth 100000 in
set_option maxHeartbeats 8000000 in
theorem k_X0_forget (l : Launch) (D : va_G) (cA : Nat → ClassId) (aT : Nat → Nat) (sz : Nat) (tI : Nat → Int32) (tJ : Nat → Int64) (tP : Nat → Option Nat) (tO : Nat → Int64) (tR : Nat → Int32) (R : (Nat → Int32) × (Nat → Int64)) (h : f_X0_forget tI tJ = some R) : Met l yX0_forget (wsU yX0_forget cX0_forget 1 none) ({ frames := 0, cells := 0, slots := 0, locals := 0 }) (PcW D cA (wl [gT cA aT tI tJ tP tO tR]) sz [.ref (aT 0)]) (QV D (fun u : (Nat → Int32) × (Nat → Int64) => (wl [gT cA aT u.1 u.2 tP tO tR])) R (va_A (wl [gT cA aT tI tJ tP tO tR]) sz)) 0 0 (va_A (wl [gT cA aT tI tJ tP tO tR]) sz) := by
  refine Met.ofW (cc := cX0_forget) (maxL := 1) (ret := none) (by decide) rfl ?_
  intro p e s m args below meth c s₁ B hml hv
  obtain ⟨rfl, hsz, hP, hK, hD0⟩ := hv
  have hx := B.exec
  have hb := B.bytes
  have hr := B.returns
  have hts := atoms_spec (ws := (wsU yX0_forget cX0_forget 1 none)) B.pre
  have hT : ∀ w ∈ wsL_law, w.before ([.ref (aT 0)] : List Value).toArray s = true := fun w h => hts w (List.mem_cons_of_mem _ h)
  have hown : s.vm.findClass RX0 = some m.cls := findClass_of_methodNamed B.named
  have hlocks := B.notSynchronized
  have hN := hK.2
  subst hsz
  have hD := hD0.self (sz := s.heap.size)
  generalize hAe : va_A (wl [gT cA aT tI tJ tP tO tR]) s.heap.size = A at hD ⊢
  have hA : ∀ q : Nat, s.heap.size ≤ q → A q := fun q h => by rw [← hAe]; exact Or.inr h
  have hS : va_S A s.heap s.heap [] := va_S.rf
  have hl := lv_entry ([.ref (aT 0)]) (n := 1) (Nat.le_of_ble_eq_true rfl)
  rw [lg_entry_eq]
  generalize (lg_sl ([.ref (aT 0)]) ++ List.replicate (1 - (lg_sl ([.ref (aT 0)])).length) Slot.unset).toArray = ls at hl ⊢
  have hl : lv_has ls 1 [(0, .ref (aT 0))] := hl
  unfold f_X0_forget at h
  refine lv_aload_n hx hb dX0_forget_0 rfl (lv_at hl 0 rfl) ?_
  refine lv_iconst (v := (0 : Int32)) hx hb dX0_forget_1 (by decide) ?_
  refine va_put (D := D) (v := .int (0 : Int32)) (ty := .int) (C := RX0) (T := TX0) (N := 6) hx hb hT inlX0 tyX0 tyX0_ok nmX0 hown hK.1 hP hD hS 0 rfl rfl 3 (by decide) (hT _ fl_RX0_26) (fun _ h9 => h9) rfl (by decide +kernel) rfl rfl (Nat.le_of_ble_eq_true rfl) dX0_forget_2 (fun H locs hP hD hS => ?_)
  have hP : va_P D vwCl (wl [gT cA aT (upd tI 0 (0 : Int32)) tJ tP tO tR]) H := hP
  have hD : va_D A (wl [gT cA aT (upd tI 0 (0 : Int32)) tJ tP tO tR]) := hD
  refine lv_aload_n hx hb dX0_forget_5 rfl (lv_at hl 0 rfl) ?_
  refine lv_lconst (v := (0 : Int64)) hx hb dX0_forget_6 (by decide) ?_
  refine va_put (D := D) (v := .long (0 : Int64)) (ty := .long) (C := RX0) (T := TX0) (N := 6) hx hb hT inlX0 tyX0 tyX0_ok nmX0 hown hK.1 hP hD hS 0 rfl rfl 4 (by decide) (hT _ fl_RX0_30) (fun _ h9 => h9) rfl (by decide +kernel) rfl rfl (Nat.le_of_ble_eq_true rfl) dX0_forget_7 (fun H locs hP hD hS => ?_)
  have hP : va_P D vwCl (wl [gT cA aT (upd tI 0 (0 : Int32)) (vp_updL tJ 0 (0 : Int64)) tP tO tR]) H := hP
  have hD : va_D A (wl [gT cA aT (upd tI 0 (0 : Int32)) (vp_updL tJ 0 (0 : Int64)) tP tO tR]) := hD
  refine lv_aload_n hx hb dX0_forget_10 rfl (lv_at hl 0 rfl) ?_
  refine lv_lconst (v := (0 : Int64)) hx hb dX0_forget_11 (by decide) ?_
  refine va_put (D := D) (v := .long (0 : Int64)) (ty := .long) (C := RX0) (T := TX0) (N := 6) hx hb hT inlX0 tyX0 tyX0_ok nmX0 hown hK.1 hP hD hS 0 rfl rfl 5 (by decide) (hT _ fl_RX0_34) (fun _ h9 => h9) rfl (by decide +kernel) rfl rfl (Nat.le_of_ble_eq_true rfl) dX0_forget_12 (fun H locs hP hD hS => ?_)
  have hP : va_P D vwCl (wl [gT cA aT (upd tI 0 (0 : Int32)) (vp_updL (vp_updL tJ 0 (0 : Int64)) 1 (0 : Int64)) tP tO tR]) H := hP
  have hD : va_D A (wl [gT cA aT (upd tI 0 (0 : Int32)) (vp_updL (vp_updL tJ 0 (0 : Int64)) 1 (0 : Int64)) tP tO tR]) := hD
  exact W.vret hx hb hr (fun t ht hW => ⟨⟨((upd tI 0 (0 : Int32)), (vp_updL (vp_updL tJ 0 (0 : Int64)) 1 (0 : Int64))), rfl, (og_inj h).symm, (by rw [ht]; exact hP), hD⟩, hS.F ht⟩) hS.2.2 dX0_forget_15
set_option maxRecDepth 100000 in
set_option maxHeartbeats 8000000 in
theorem k_X0_isKnown (l : Launch) (D : va_G) (cA : Nat → ClassId) (aT : Nat → Nat) (sz : Nat) (tI : Nat → Int32) (tJ : Nat → Int64) (tP : Nat → Option Nat) (tO : Nat → Int64) (tR : Nat → Int32) (R : Int32 × Unit) (h : f_X0_isKnown tI = some R) : Met l yX0_isKnown (wsU yX0_isKnown cX0_isKnown 1 (some .boolean)) ({ frames := 0, cells := 0, slots := 0, locals := 0 }) (PcW D cA (wl [gT cA aT tI tJ tP tO tR]) sz [.ref (aT 0)]) (QI D (fun _ : Unit => (wl [gT cA aT tI tJ tP tO tR])) R (va_A (wl [gT cA aT tI tJ tP tO tR]) sz)) 0 0 (va_A (wl [gT cA aT tI tJ tP tO tR]) sz) := by
  refine Met.ofW (cc := cX0_isKnown) (maxL := 1) (ret := (some .boolean)) (by decide) rfl ?_
  intro p e s m args below meth c s₁ B hml hv
  obtain ⟨rfl, hsz, hP, hK, hD0⟩ := hv
  have hx := B.exec
  have hb := B.bytes
  have hr := B.returns
  have hts := atoms_spec (ws := (wsU yX0_isKnown cX0_isKnown 1 (some .boolean))) B.pre
  have hT : ∀ w ∈ wsL_law, w.before ([.ref (aT 0)] : List Value).toArray s = true := fun w h => hts w (List.mem_cons_of_mem _ h)
  have hown : s.vm.findClass RX0 = some m.cls := findClass_of_methodNamed B.named
  have hlocks := B.notSynchronized
  have hN := hK.2
  subst hsz
  have hD := hD0.self (sz := s.heap.size)
  generalize hAe : va_A (wl [gT cA aT tI tJ tP tO tR]) s.heap.size = A at hD ⊢
  have hA : ∀ q : Nat, s.heap.size ≤ q → A q := fun q h => by rw [← hAe]; exact Or.inr h
  have hS : va_S A s.heap s.heap [] := va_S.rf
  have hl := lv_entry ([.ref (aT 0)]) (n := 1) (Nat.le_of_ble_eq_true rfl)
  rw [lg_entry_eq]
  generalize (lg_sl ([.ref (aT 0)]) ++ List.replicate (1 - (lg_sl ([.ref (aT 0)])).length) Slot.unset).toArray = ls at hl ⊢
  have hl : lv_has ls 1 [(0, .ref (aT 0))] := hl
  unfold f_X0_isKnown at h
  refine lv_aload_n hx hb dX0_isKnown_0 rfl (lv_at hl 0 rfl) ?_
  refine va_get (D := D) (C := RX0) (T := TX0) (N := 6) hx hb hT inlX0 hown hK.1 hP 0 rfl rfl 3 (by decide) (hT _ fl_RX0_26) (fun _ h9 => h9) rfl dX0_isKnown_1 ?_
  refine lv_if_le (tgt := 11) hx hb dX0_isKnown_4 (by decide) (fun c1 => ?_) (fun c1 => ?_)
  · replace h := og_pos c1 h
    refine lv_iconst (v := (0 : Int32)) hx hb dX0_isKnown_11 (by decide) ?_
    exact W.zret (v := (0 : Int32)) hx hb hr (by decide +kernel) (fun t ht hW => ⟨⟨(0 : Int32), (), rfl, ⟨(congrArg Prod.fst (og_inj h)).symm, (congrArg Prod.snd (og_inj h)).symm⟩, (by rw [ht]; exact hP), hD⟩, hS.F ht⟩) hS.2.2 dX0_isKnown_12
  · replace h := og_neg c1 h
    refine lv_iconst (v := (1 : Int32)) hx hb dX0_isKnown_7 (by decide) ?_
    refine lv_goto (tgt := 12) hx hb dX0_isKnown_8 (by decide) ?_
    exact W.zret (v := (1 : Int32)) hx hb hr (by decide +kernel) (fun t ht hW => ⟨⟨(1 : Int32), (), rfl, ⟨(congrArg Prod.fst (og_inj h)).symm, (congrArg Prod.snd (og_inj h)).symm⟩, (by rw [ht]; exact hP), hD⟩, hS.F ht⟩) hS.2.2 dX0_isKnown_12
set_option maxRecDepth 100000 in
set_option maxHeartbeats 8000000 in
theorem k_X0_knownOrNone (l : Launch) (D : va_G) (cA : Nat → ClassId) (aT : Nat → Nat) (sz : Nat) (u1 : Int32) (tI : Nat → Int32) (tJ : Nat → Int64) (tP : Nat → Option Nat) (tO : Nat → Int64) (tR : Nat → Int32) (R : Int32 × Unit) (h : f_X0_knownOrNone u1 tI = some R) : Met l yX0_knownOrNone (wsU yX0_knownOrNone cX0_knownOrNone 2 (some .int)) ({ frames := 1, cells := 0, slots := 0, locals := 20 }) (PcW D cA (wl [gT cA aT tI tJ tP tO tR]) sz [.ref (aT 0), .int u1]) (QI D (fun _ : Unit => (wl [gT cA aT tI tJ tP tO tR])) R (va_A (wl [gT cA aT tI tJ tP tO tR]) sz)) 0 0 (va_A (wl [gT cA aT tI tJ tP tO tR]) sz) := by
  refine Met.ofW (cc := cX0_knownOrNone) (maxL := 2) (ret := (some .int)) (by decide) rfl ?_
  intro p e s m args below meth c s₁ B hml hv
  obtain ⟨rfl, hsz, hP, hK, hD0⟩ := hv
  have hx := B.exec
  have hb := B.bytes
  have hr := B.returns
  have hts := atoms_spec (ws := (wsU yX0_knownOrNone cX0_knownOrNone 2 (some .int))) B.pre
  have hT : ∀ w ∈ wsL_law, w.before ([.ref (aT 0), .int u1] : List Value).toArray s = true := fun w h => hts w (List.mem_cons_of_mem _ h)
  have hown : s.vm.findClass RX0 = some m.cls := findClass_of_methodNamed B.named
  have hlocks := B.notSynchronized
  have hN := hK.2
  subst hsz
  have hD := hD0.self (sz := s.heap.size)
  generalize hAe : va_A (wl [gT cA aT tI tJ tP tO tR]) s.heap.size = A at hD ⊢
  have hA : ∀ q : Nat, s.heap.size ≤ q → A q := fun q h => by rw [← hAe]; exact Or.inr h
  have hS : va_S A s.heap s.heap [] := va_S.rf
  have hl := lv_entry ([.ref (aT 0), .int u1]) (n := 2) (Nat.le_of_ble_eq_true rfl)
  rw [lg_entry_eq]
  generalize (lg_sl ([.ref (aT 0), .int u1]) ++ List.replicate (2 - (lg_sl ([.ref (aT 0), .int u1])).length) Slot.unset).toArray = ls at hl ⊢
  have hl : lv_has ls 2 [(0, .ref (aT 0)), (1, .int u1)] := hl
  unfold f_X0_knownOrNone at h
  refine lv_aload_n hx hb dX0_knownOrNone_0 rfl (lv_at hl 0 rfl) ?_
  obtain ⟨⟨r1, _u1⟩, e1, h⟩ := og_bind h
  try dsimp only at h
  refine gc_i (ws := (wl [gT cA aT tI tJ tP tO tR])) (wc := (wl [gT cA aT tI tJ tP tO tR])) (wr := (wl ([] : List va_W))) (ws' := (wl [gT cA aT tI tJ tP tO tR])) (va_runV (As := []) (rest := []) ⟨hx, hb, hml, hown, hT⟩ (k_X0_isKnown l D cA aT s.heap.size  tI tJ tP tO tR _ e1) (cwV 0 hT gv_RX0_37 rfl rfl rfl (by decide +kernel) ⟨Nat.le_of_ble_eq_true rfl, Nat.le_of_ble_eq_true rfl⟩) (pre_V (ci := 0) (q0 := 0) (wr := (wl ([] : List va_W))) (pm (f := fun i => ([gT cA aT tI tJ tP tO tR] : List va_W).getD i []) [0] [0] [] (by decide)) hK hP hD rfl rfl) rfl rfl hl.1 rfl (lv_room (Nat.le_of_ble_eq_true rfl)) dX0_knownOrNone_1 ⟨Nat.le_refl _, Nat.le_refl _⟩) (pm (f := fun i => ([gT cA aT tI tJ tP tO tR] : List va_W).getD i []) [0] [0] [] (by decide)) hP hD hS hA (pm (f := fun i => ([gT cA aT tI tJ tP tO tR] : List va_W).getD i []) [0] [0] [] (by decide)) (fun H locs hP hD hS => ?_)
  refine lv_if_eq (tgt := 11) hx hb dX0_knownOrNone_4 (by decide) (fun c2 => ?_) (fun c2 => ?_)
  · replace h := og_pos c2 h
    refine lv_iconst (v := (-1 : Int32)) hx hb dX0_knownOrNone_11 (by decide) ?_
    exact W.iret (v := (-1 : Int32)) hx hb hr (fun t ht hW => ⟨⟨(-1 : Int32), (), rfl, ⟨(congrArg Prod.fst (og_inj h)).symm, (congrArg Prod.snd (og_inj h)).symm⟩, (by rw [ht]; exact hP), hD⟩, hS.F ht⟩) hS.2.2 dX0_knownOrNone_12
  · replace h := og_neg c2 h
    refine lv_iload_n hx hb dX0_knownOrNone_7 rfl (lv_at hl 1 rfl) ?_
    refine lv_goto (tgt := 12) hx hb dX0_knownOrNone_8 (by decide) ?_
    exact W.iret (v := u1) hx hb hr (fun t ht hW => ⟨⟨u1, (), rfl, ⟨(congrArg Prod.fst (og_inj h)).symm, (congrArg Prod.snd (og_inj h)).symm⟩, (by rw [ht]; exact hP), hD⟩, hS.F ht⟩) hS.2.2 dX0_knownOrNone_12
set_option maxRecDepth 100000 in
set_option maxHeartbeats 8000000 in
theorem k_X0_isWanted (l : Launch) (D : va_G) (cA : Nat → ClassId)  (sz : Nat) (u0 : Int32) (u1 : Int32) (u2 : Int32) (R : Int32 × Unit) (h : f_X0_isWanted u0 u1 u2 = some R) : Met l yX0_isWanted (wsU yX0_isWanted cX0_isWanted 3 (some .boolean)) ({ frames := 1, cells := 0, slots := 0, locals := 21 }) (PcW D cA (wl ([] : List va_W)) sz [.int u0, .int u1, .int u2]) (QI D (fun _ : Unit => (wl ([] : List va_W))) R (va_A (wl ([] : List va_W)) sz)) 0 0 (va_A (wl ([] : List va_W)) sz) := by
  refine Met.ofW (cc := cX0_isWanted) (maxL := 3) (ret := (some .boolean)) (by decide) rfl ?_
  intro p e s m args below meth c s₁ B hml hv
  obtain ⟨rfl, hsz, hP, hK, hD0⟩ := hv
  have hx := B.exec
  have hb := B.bytes
  have hr := B.returns
  have hts := atoms_spec (ws := (wsU yX0_isWanted cX0_isWanted 3 (some .boolean))) B.pre
  have hT : ∀ w ∈ wsL_law, w.before ([.int u0, .int u1, .int u2] : List Value).toArray s = true := fun w h => hts w (List.mem_cons_of_mem _ h)
  have hown : s.vm.findClass RX0 = some m.cls := findClass_of_methodNamed B.named
  have hlocks := B.notSynchronized
  have hN := hK.2
  subst hsz
  have hD := hD0.self (sz := s.heap.size)
  generalize hAe : va_A (wl ([] : List va_W)) s.heap.size = A at hD ⊢
  have hA : ∀ q : Nat, s.heap.size ≤ q → A q := fun q h => by rw [← hAe]; exact Or.inr h
  have hS : va_S A s.heap s.heap [] := va_S.rf
  have hl := lv_entry ([.int u0, .int u1, .int u2]) (n := 3) (Nat.le_of_ble_eq_true rfl)
  rw [lg_entry_eq]
  generalize (lg_sl ([.int u0, .int u1, .int u2]) ++ List.replicate (3 - (lg_sl ([.int u0, .int u1, .int u2])).length) Slot.unset).toArray = ls at hl ⊢
  have hl : lv_has ls 3 [(0, .int u0), (1, .int u1), (2, .int u2)] := hl
  unfold f_X0_isWanted at h
  refine lv_iload_n hx hb dX0_isWanted_0 rfl (lv_at hl 1 rfl) ?_
  by_cases c5 : u1 = (0 : Int32)
  · replace h := og_pos c5 h
    refine gs_in (off := 31) (tgt := 32) 0 c5 hx hb dX0_isWanted_1 (by decide +kernel) (by decide) ?_
    refine lv_iload_n hx hb dX0_isWanted_32 rfl (lv_at hl 0 rfl) ?_
    refine lv_iload_n hx hb dX0_isWanted_33 rfl (lv_at hl 2 rfl) ?_
    refine lv_icmp_ne (tgt := 41) hx hb dX0_isWanted_34 (by decide) (fun c1 => ?_) (fun c1 => ?_)
    · replace h := og_neg c1 h
      refine lv_iconst (v := (0 : Int32)) hx hb dX0_isWanted_41 (by decide) ?_
      exact W.zret (v := (0 : Int32)) hx hb hr (by decide +kernel) (fun t ht hW => ⟨⟨(0 : Int32), (), rfl, ⟨(congrArg Prod.fst (og_inj h)).symm, (congrArg Prod.snd (og_inj h)).symm⟩, (by rw [ht]; exact hP), hD⟩, hS.F ht⟩) hS.2.2 dX0_isWanted_42
    · replace h := og_pos c1 h
      refine lv_iconst (v := (1 : Int32)) hx hb dX0_isWanted_37 (by decide) ?_
      refine lv_goto (tgt := 42) hx hb dX0_isWanted_38 (by decide) ?_
      exact W.zret (v := (1 : Int32)) hx hb hr (by decide +kernel) (fun t ht hW => ⟨⟨(1 : Int32), (), rfl, ⟨(congrArg Prod.fst (og_inj h)).symm, (congrArg Prod.snd (og_inj h)).symm⟩, (by rw [ht]; exact hP), hD⟩, hS.F ht⟩) hS.2.2 dX0_isWanted_42
  replace h := og_neg c5 h
  by_cases c6 : u1 = (1 : Int32)
  · replace h := og_pos c6 h
    refine gs_in (off := 42) (tgt := 43) 1 c6 hx hb dX0_isWanted_1 (by decide +kernel) (by decide) ?_
    refine lv_iload_n hx hb dX0_isWanted_43 rfl (lv_at hl 0 rfl) ?_
    refine lv_iload_n hx hb dX0_isWanted_44 rfl (lv_at hl 2 rfl) ?_
    refine lv_icmp_eq (tgt := 52) hx hb dX0_isWanted_45 (by decide) (fun c2 => ?_) (fun c2 => ?_)
    · replace h := og_pos c2 h
      refine lv_iconst (v := (0 : Int32)) hx hb dX0_isWanted_52 (by decide) ?_
      exact W.zret (v := (0 : Int32)) hx hb hr (by decide +kernel) (fun t ht hW => ⟨⟨(0 : Int32), (), rfl, ⟨(congrArg Prod.fst (og_inj h)).symm, (congrArg Prod.snd (og_inj h)).symm⟩, (by rw [ht]; exact hP), hD⟩, hS.F ht⟩) hS.2.2 dX0_isWanted_53
    · replace h := og_neg c2 h
      refine lv_iconst (v := (1 : Int32)) hx hb dX0_isWanted_48 (by decide) ?_
      refine lv_goto (tgt := 53) hx hb dX0_isWanted_49 (by decide) ?_
      exact W.zret (v := (1 : Int32)) hx hb hr (by decide +kernel) (fun t ht hW => ⟨⟨(1 : Int32), (), rfl, ⟨(congrArg Prod.fst (og_inj h)).symm, (congrArg Prod.snd (og_inj h)).symm⟩, (by rw [ht]; exact hP), hD⟩, hS.F ht⟩) hS.2.2 dX0_isWanted_53
  replace h := og_neg c6 h
  by_cases c7 : u1 = (2 : Int32)
  · replace h := og_pos c7 h
    refine gs_in (off := 53) (tgt := 54) 2 c7 hx hb dX0_isWanted_1 (by decide +kernel) (by decide) ?_
    refine lv_iload_n hx hb dX0_isWanted_54 rfl (lv_at hl 0 rfl) ?_
    refine lv_iload_n hx hb dX0_isWanted_55 rfl (lv_at hl 2 rfl) ?_
    obtain ⟨⟨r3, _u3⟩, e3, h⟩ := og_bind h
    try dsimp only at h
    refine gc_i (ws := (wl ([] : List va_W))) (wc := (wl ([] : List va_W))) (wr := (wl ([] : List va_W))) (ws' := (wl ([] : List va_W))) (va_runSN (host := RX4) (As := [.int u0, .int u2]) (rest := []) ⟨hx, hb, hml, hown, hT⟩ (k_X4_isBelowUnsigned l D cA  s.heap.size u0 u2  _ e3) ⟨va_cnB 2 hT (gw cd_yX4_isBelowUnsigned_cX4_isBelowUnsigned) rfl rfl rfl (hN _ nl_RX0_106) (hT _ ini_RX4) (by decide +kernel) ⟨Nat.le_of_ble_eq_true rfl, Nat.le_of_ble_eq_true rfl⟩, hT _ sc_yX4_isBelowUnsigned, trivial⟩ (pre_S (wr := (wl ([] : List va_W))) (pm (f := fun i => ([] : List va_W).getD i []) [] [] [] (by decide)) hK hP hD) rfl rfl hl.1 rfl (lv_room (Nat.le_of_ble_eq_true rfl)) dX0_isWanted_56 ⟨Nat.le_refl _, Nat.le_refl _⟩) (pm (f := fun i => ([] : List va_W).getD i []) [] [] [] (by decide)) hP hD hS hA (pm (f := fun i => ([] : List va_W).getD i []) [] [] [] (by decide)) (fun H locs hP hD hS => ?_)
    obtain ⟨gz, h⟩ := og_guard h
    exact W.zret (v := r3) hx hb hr (bo_nar gz) (fun t ht hW => ⟨⟨r3, (), rfl, ⟨(congrArg Prod.fst (og_inj h)).symm, (congrArg Prod.snd (og_inj h)).symm⟩, (by rw [ht]; exact hP), hD⟩, hS.F ht⟩) hS.2.2 dX0_isWanted_59
  replace h := og_neg c7 h
  by_cases c8 : u1 = (3 : Int32)
  · replace h := og_pos c8 h
    refine gs_in (off := 59) (tgt := 60) 3 c8 hx hb dX0_isWanted_1 (by decide +kernel) (by decide) ?_
    refine lv_iload_n hx hb dX0_isWanted_60 rfl (lv_at hl 0 rfl) ?_
    refine lv_iload_n hx hb dX0_isWanted_61 rfl (lv_at hl 2 rfl) ?_
    refine lv_icmp_ge (tgt := 69) hx hb dX0_isWanted_62 (by decide) (fun c4 => ?_) (fun c4 => ?_)
    · replace h := og_pos c4 h
      refine lv_iconst (v := (0 : Int32)) hx hb dX0_isWanted_69 (by decide) ?_
      exact W.zret (v := (0 : Int32)) hx hb hr (by decide +kernel) (fun t ht hW => ⟨⟨(0 : Int32), (), rfl, ⟨(congrArg Prod.fst (og_inj h)).symm, (congrArg Prod.snd (og_inj h)).symm⟩, (by rw [ht]; exact hP), hD⟩, hS.F ht⟩) hS.2.2 dX0_isWanted_70
    · replace h := og_neg c4 h
      refine lv_iconst (v := (1 : Int32)) hx hb dX0_isWanted_65 (by decide) ?_
      refine lv_goto (tgt := 70) hx hb dX0_isWanted_66 (by decide) ?_
      exact W.zret (v := (1 : Int32)) hx hb hr (by decide +kernel) (fun t ht hW => ⟨⟨(1 : Int32), (), rfl, ⟨(congrArg Prod.fst (og_inj h)).symm, (congrArg Prod.snd (og_inj h)).symm⟩, (by rw [ht]; exact hP), hD⟩, hS.F ht⟩) hS.2.2 dX0_isWanted_70
  replace h := og_neg c8 h
  refine lv_tableOut (tgt := 71) hx hb dX0_isWanted_1 (gs_out 4 (by decide) (fun k9 hk9 => ?_)) (by decide) ?_
  · rcases (show k9 = 0 ∨ k9 = 1 ∨ k9 = 2 ∨ k9 = 3 by omega) with rfl | rfl | rfl | rfl
    · exact gs_ne c5 (by decide +kernel)
    · exact gs_ne c6 (by decide +kernel)
    · exact gs_ne c7 (by decide +kernel)
    · exact gs_ne c8 (by decide +kernel)
  refine lv_iconst (v := (0 : Int32)) hx hb dX0_isWanted_71 (by decide) ?_
  exact W.zret (v := (0 : Int32)) hx hb hr (by decide +kernel) (fun t ht hW => ⟨⟨(0 : Int32), (), rfl, ⟨(congrArg Prod.fst (og_inj h)).symm, (congrArg Prod.snd (og_inj h)).symm⟩, (by rw [ht]; exact hP), hD⟩, hS.F ht⟩) hS.2.2 dX0_isWanted_72
set_option maxRecDepth 100000 in
set_option maxHeartbeats 8000000 in
theorem k_X0_pathAt (l : Launch) (D : va_G) (cA : Nat → ClassId) (aT : Nat → Nat) (L : List Nat) (sz : Nat) (u1 : Int32) (tI : Nat → Int32) (tJ : Nat → Int64) (tP : Nat → Option Nat) (tO : Nat → Int64) (tR : Nat → Int32) (qI : Nat → Nat → Int32) (qJ : Nat → Nat → Int64) (R : Option Nat × Unit) (h : f_X0_pathAt L u1 tI tP = some R) : Met l yX0_pathAt (wsU yX0_pathAt cX0_pathAt 2 (some (.object "SymbolBench$Path"))) ({ frames := 0, cells := 0, slots := 0, locals := 0 }) (PcW D cA (wl [gT cA aT tI tJ tP tO tR] ++ gQ L qI qJ) sz [.ref (aT 0), .int u1]) (QQ D (fun _ : Unit => (wl [gT cA aT tI tJ tP tO tR] ++ gQ L qI qJ)) R (va_A (wl [gT cA aT tI tJ tP tO tR] ++ gQ L qI qJ) sz)) 0 0 (va_A (wl [gT cA aT tI tJ tP tO tR] ++ gQ L qI qJ) sz) := by
  refine Met.ofW (cc := cX0_pathAt) (maxL := 2) (ret := (some (.object "SymbolBench$Path"))) (by decide) rfl ?_
  intro p e s m args below meth c s₁ B hml hv
  obtain ⟨rfl, hsz, hP, hK, hD0⟩ := hv
  have hx := B.exec
  have hb := B.bytes
  have hr := B.returns
  have hts := atoms_spec (ws := (wsU yX0_pathAt cX0_pathAt 2 (some (.object "SymbolBench$Path")))) B.pre
  have hT : ∀ w ∈ wsL_law, w.before ([.ref (aT 0), .int u1] : List Value).toArray s = true := fun w h => hts w (List.mem_cons_of_mem _ h)
  have hown : s.vm.findClass RX0 = some m.cls := findClass_of_methodNamed B.named
  have hlocks := B.notSynchronized
  have hN := hK.2
  subst hsz
  have hD := hD0.self (sz := s.heap.size)
  generalize hAe : va_A (wl [gT cA aT tI tJ tP tO tR] ++ gQ L qI qJ) s.heap.size = A at hD ⊢
  have hA : ∀ q : Nat, s.heap.size ≤ q → A q := fun q h => by rw [← hAe]; exact Or.inr h
  have hS : va_S A s.heap s.heap [] := va_S.rf
  have hl := lv_entry ([.ref (aT 0), .int u1]) (n := 2) (Nat.le_of_ble_eq_true rfl)
  rw [lg_entry_eq]
  generalize (lg_sl ([.ref (aT 0), .int u1]) ++ List.replicate (2 - (lg_sl ([.ref (aT 0), .int u1])).length) Slot.unset).toArray = ls at hl ⊢
  have hl : lv_has ls 2 [(0, .ref (aT 0)), (1, .int u1)] := hl
  unfold f_X0_pathAt at h
  refine lv_iload_n hx hb dX0_pathAt_0 rfl (lv_at hl 1 rfl) ?_
  refine lv_if_lt (tgt := 21) hx hb dX0_pathAt_1 (by decide) (fun c1 => ?_) (fun c1 => ?_)
  · replace h := og_pos c1 h
    refine lv_null hx hb dX0_pathAt_21 ?_
    exact W.aret (v := .null) hx hb hr (Or.inl ⟨_, rfl⟩) (Or.inl rfl) (fun t ht hW => ⟨⟨none, (), rfl, ⟨(congrArg Prod.fst (og_inj h)).symm, (congrArg Prod.snd (og_inj h)).symm⟩, (by rw [ht]; exact hP), hD⟩, hS.F ht⟩) hS.2.2 dX0_pathAt_22
  · replace h := og_neg c1 h
    refine lv_iload_n hx hb dX0_pathAt_4 rfl (lv_at hl 1 rfl) ?_
    refine lv_aload_n hx hb dX0_pathAt_5 rfl (lv_at hl 0 rfl) ?_
    refine va_get (D := D) (C := RX0) (T := TX0) (N := 6) hx hb hT inlX0 hown hK.1 hP 0 rfl rfl 3 (by decide) (hT _ fl_RX0_26) (fun _ h9 => h9) rfl dX0_pathAt_6 ?_
    refine lv_icmp_ge (tgt := 21) hx hb dX0_pathAt_9 (by decide) (fun c2 => ?_) (fun c2 => ?_)
    · replace h := og_pos c2 h
      refine lv_null hx hb dX0_pathAt_21 ?_
      exact W.aret (v := .null) hx hb hr (Or.inl ⟨_, rfl⟩) (Or.inl rfl) (fun t ht hW => ⟨⟨none, (), rfl, ⟨(congrArg Prod.fst (og_inj h)).symm, (congrArg Prod.snd (og_inj h)).symm⟩, (by rw [ht]; exact hP), hD⟩, hS.F ht⟩) hS.2.2 dX0_pathAt_22
    · replace h := og_neg c2 h
      refine lv_aload_n hx hb dX0_pathAt_12 rfl (lv_at hl 0 rfl) ?_
      refine va_get (D := D) (C := RX0) (T := TX0) (N := 6) hx hb hT inlX0 hown hK.1 hP 0 rfl rfl 0 (by decide) (hT _ fl_RX0_11) (fun _ h9 => h9) rfl dX0_pathAt_13 ?_
      refine lv_iload_n hx hb dX0_pathAt_16 rfl (lv_at hl 1 rfl) ?_
      obtain ⟨g3, h⟩ := og_guard h
      refine va_aldq hx hb hK.1 hP 1 3 rfl rfl (inb_vp g3) dX0_pathAt_17 ?_
      obtain ⟨a4, e5, h⟩ := og_bind h
      obtain ⟨m6, h⟩ := og_guard h
      refine gr_some e5 ?_
      refine lv_goto (tgt := 22) hx hb dX0_pathAt_18 (by decide) ?_
      exact W.aret (v := .ref a4) hx hb hr (Or.inl ⟨_, rfl⟩) (Or.inr ⟨_, rfl⟩) (fun t ht hW => ⟨⟨(some a4), (), rfl, ⟨(congrArg Prod.fst (og_inj h)).symm, (congrArg Prod.snd (og_inj h)).symm⟩, (by rw [ht]; exact hP), hD⟩, hS.F ht⟩) hS.2.2 dX0_pathAt_22
set_option maxRecDepth 100000 in
set_option maxHeartbeats 8000000 in
theorem k_X0_firstNotAheadOf (l : Launch) (D : va_G) (cA : Nat → ClassId) (aT : Nat → Nat) (L : List Nat) (sz : Nat) (n : Nat) (u1 : Int64) (tI : Nat → Int32) (tJ : Nat → Int64) (tP : Nat → Option Nat) (tO : Nat → Int64) (tR : Nat → Int32) (qI : Nat → Nat → Int32) (qJ : Nat → Nat → Int64) (R : Int32 × Unit) (h : f_X0_firstNotAheadOf n L u1 tI tP qJ = some R) : Met l yX0_firstNotAheadOf (wsU yX0_firstNotAheadOf cX0_firstNotAheadOf 4 (some .int)) ({ frames := 0, cells := 0, slots := 0, locals := 0 }) (PcW D cA (wl [gT cA aT tI tJ tP tO tR] ++ gQ L qI qJ) sz [.ref (aT 0), .long u1]) (QI D (fun _ : Unit => (wl [gT cA aT tI tJ tP tO tR] ++ gQ L qI qJ)) R (va_A (wl [gT cA aT tI tJ tP tO tR] ++ gQ L qI qJ) sz)) 0 0 (va_A (wl [gT cA aT tI tJ tP tO tR] ++ gQ L qI qJ) sz) := by
  refine Met.ofW (cc := cX0_firstNotAheadOf) (maxL := 4) (ret := (some .int)) (by decide) rfl ?_
  intro p e s m args below meth c s₁ B hml hv
  obtain ⟨rfl, hsz, hP, hK, hD0⟩ := hv
  have hx := B.exec
  have hb := B.bytes
  have hr := B.returns
  have hts := atoms_spec (ws := (wsU yX0_firstNotAheadOf cX0_firstNotAheadOf 4 (some .int))) B.pre
  have hT : ∀ w ∈ wsL_law, w.before ([.ref (aT 0), .long u1] : List Value).toArray s = true := fun w h => hts w (List.mem_cons_of_mem _ h)
  have hown : s.vm.findClass RX0 = some m.cls := findClass_of_methodNamed B.named
  have hlocks := B.notSynchronized
  have hN := hK.2
  subst hsz
  have hD := hD0.self (sz := s.heap.size)
  generalize hAe : va_A (wl [gT cA aT tI tJ tP tO tR] ++ gQ L qI qJ) s.heap.size = A at hD ⊢
  have hA : ∀ q : Nat, s.heap.size ≤ q → A q := fun q h => by rw [← hAe]; exact Or.inr h
  have hS : va_S A s.heap s.heap [] := va_S.rf
  have hl := lv_entry ([.ref (aT 0), .long u1]) (n := 4) (Nat.le_of_ble_eq_true rfl)
  rw [lg_entry_eq]
  generalize (lg_sl ([.ref (aT 0), .long u1]) ++ List.replicate (4 - (lg_sl ([.ref (aT 0), .long u1])).length) Slot.unset).toArray = ls at hl ⊢
  have hl : lv_has ls 4 [(0, .ref (aT 0)), (1, .long u1)] := hl
  have b32 : ∀ (H : Heap) (locs : List Loc) (ls : Array Slot), f_X0_firstNotAheadOf_b32 n L tI tP qJ = some R → va_P D vwCl (wl [gT cA aT tI tJ tP tO tR] ++ gQ L qI qJ) H → va_D A (wl [gT cA aT tI tJ tP tO tR] ++ gQ L qI qJ) → va_S A s.heap H locs → lv_has ls 4 [(0, .ref (aT 0))] → W p l e (headSpec (wsU yX0_firstNotAheadOf cX0_firstNotAheadOf 4 (some .int)) ({ frames := 0, cells := 0, slots := 0, locals := 0 })).room s m ([.ref (aT 0), .long u1] : List Value).toArray below meth c H locs 0 0 (MQ below (QI D (fun _ : Unit => (wl [gT cA aT tI tJ tP tO tR] ++ gQ L qI qJ)) R A) ([.ref (aT 0), .long u1] : List Value).toArray s 0 0 A) (F0 m 32 ls []) := by
    intro H locs ls h hP hD hS hl
    unfold f_X0_firstNotAheadOf_b32 at h
    refine lv_aload_n hx hb dX0_firstNotAheadOf_32 rfl (lv_at hl 0 rfl) ?_
    refine va_get (D := D) (C := RX0) (T := TX0) (N := 6) hx hb hT inlX0 hown hK.1 hP 0 rfl rfl 3 (by decide) (hT _ fl_RX0_26) (fun _ h9 => h9) rfl dX0_firstNotAheadOf_33 ?_
    exact W.iret (v := (tI 0)) hx hb hr (fun t ht hW => ⟨⟨(tI 0), (), rfl, ⟨(congrArg Prod.fst (og_inj h)).symm, (congrArg Prod.snd (og_inj h)).symm⟩, (by rw [ht]; exact hP), hD⟩, hS.F ht⟩) hS.2.2 dX0_firstNotAheadOf_36
  have b2 : ∀ (x1 : Int64) (nn : Nat), ∀ (x3 : Int32) (H : Heap) (locs : List Loc) (ls : Array Slot), lp (f_X0_firstNotAheadOf_l2 n L x1 tI tP qJ) nn (x3) = some R → va_P D vwCl (wl [gT cA aT tI tJ tP tO tR] ++ gQ L qI qJ) H → va_D A (wl [gT cA aT tI tJ tP tO tR] ++ gQ L qI qJ) → va_S A s.heap H locs → lv_has ls 4 [(0, .ref (aT 0)), (1, .long x1), (3, .int x3)] → W p l e (headSpec (wsU yX0_firstNotAheadOf cX0_firstNotAheadOf 4 (some .int)) ({ frames := 0, cells := 0, slots := 0, locals := 0 })).room s m ([.ref (aT 0), .long u1] : List Value).toArray below meth c H locs 0 0 (MQ below (QI D (fun _ : Unit => (wl [gT cA aT tI tJ tP tO tR] ++ gQ L qI qJ)) R A) ([.ref (aT 0), .long u1] : List Value).toArray s 0 0 A) (F0 m 2 ls []) := by
    intro x1 nn
    induction nn with
    | zero =>
      intro x3 H locs ls h hP hD hS hl
      exact (lp_zero h).elim
    | succ nn hr2 =>
      intro x3 H locs ls h hP hD hS hl
      rw [lp_succ] at h
      unfold f_X0_firstNotAheadOf_l2 at h
      try dsimp only at h
      refine lv_iload_n hx hb dX0_firstNotAheadOf_2 rfl (lv_at hl 2 rfl) ?_
      refine lv_aload_n hx hb dX0_firstNotAheadOf_3 rfl (lv_at hl 0 rfl) ?_
      refine va_get (D := D) (C := RX0) (T := TX0) (N := 6) hx hb hT inlX0 hown hK.1 hP 0 rfl rfl 3 (by decide) (hT _ fl_RX0_26) (fun _ h9 => h9) rfl dX0_firstNotAheadOf_4 ?_
      refine lv_icmp_ge (tgt := 32) hx hb dX0_firstNotAheadOf_7 (by decide) (fun c1 => ?_) (fun c1 => ?_)
      · replace h := og_pos c1 h
        exact b32  _ _ _ h hP hD hS (lv_sub hl [0] rfl)
      · replace h := og_neg c1 h
        refine lv_aload_n hx hb dX0_firstNotAheadOf_10 rfl (lv_at hl 0 rfl) ?_
        refine va_get (D := D) (C := RX0) (T := TX0) (N := 6) hx hb hT inlX0 hown hK.1 hP 0 rfl rfl 0 (by decide) (hT _ fl_RX0_11) (fun _ h9 => h9) rfl dX0_firstNotAheadOf_11 ?_
        refine lv_iload_n hx hb dX0_firstNotAheadOf_14 rfl (lv_at hl 2 rfl) ?_
        obtain ⟨g2, h⟩ := og_guard h
        refine va_aldq hx hb hK.1 hP 1 3 rfl rfl (inb_vp g2) dX0_firstNotAheadOf_15 ?_
        obtain ⟨a3, e4, h⟩ := og_bind h
        obtain ⟨m5, h⟩ := og_guard h
        refine gr_some e4 ?_
        obtain ⟨kq6, hkq6⟩ := va_pl_get (X := (wl [gT cA aT tI tJ tP tO tR])) (f := fQ qI qJ) m5
        refine va_getN (D := D) (C := RX2) (T := TX2) (N := 7) hx hb hT inlX2 hown hK.1 hP kq6 hkq6 rfl 1 (by decide) (va_Nw.use rfl (hN _ nl_RX0_67)) (fun _ h9 => h9) rfl dX0_firstNotAheadOf_16 ?_
        refine lv_lload_n hx hb dX0_firstNotAheadOf_19 rfl (lv_at hl 1 rfl) ?_
        refine W.lcmp hx hb dX0_firstNotAheadOf_20 ?_
        refine lv_if_gt (tgt := 26) hx hb dX0_firstNotAheadOf_21 (by decide) (fun c7 => ?_) (fun c7 => ?_)
        · replace h := og_pos c7 h
          refine lv_iinc (v := (x3 + 1)) (lv' := [(3, .int (x3 + 1)), (0, .ref (aT 0)), (1, .long x1)]) hx hb dX0_firstNotAheadOf_26 hl (k := 2) rfl rfl (by decide) rfl (fun ls hl => ?_)
          refine lv_goto (tgt := 2) hx hb dX0_firstNotAheadOf_29 (by decide) ?_
          exact hr2 _ _ _ _ h hP hD hS (lv_sub hl [1, 2, 0] rfl)
        · replace h := og_neg c7 h
          refine lv_iload_n hx hb dX0_firstNotAheadOf_24 rfl (lv_at hl 2 rfl) ?_
          exact W.iret (v := x3) hx hb hr (fun t ht hW => ⟨⟨x3, (), rfl, ⟨(congrArg Prod.fst (og_inj h)).symm, (congrArg Prod.snd (og_inj h)).symm⟩, (by rw [ht]; exact hP), hD⟩, hS.F ht⟩) hS.2.2 dX0_firstNotAheadOf_25
  unfold f_X0_firstNotAheadOf at h
  refine lv_iconst (v := (0 : Int32)) hx hb dX0_firstNotAheadOf_0 (by decide) ?_
  refine lv_istore_n (lv' := [(3, .int (0 : Int32)), (0, .ref (aT 0)), (1, .long u1)]) hx hb dX0_firstNotAheadOf_1 rfl hl (by decide) rfl (fun ls hl => ?_)
  exact b2  _ n _ _ _ _ h hP hD hS (lv_sub hl [1, 2, 0] rfl)
set_option maxRecDepth 100000 in
set_option maxHeartbeats 8000000 in
theorem k_X0_insertAt (l : Launch) (D : va_G) (cA : Nat → ClassId) (aT : Nat → Nat) (L : List Nat) (sz : Nat) (n : Nat) (u1 : Int32) (tI : Nat → Int32) (tJ : Nat → Int64) (tP : Nat → Option Nat) (tO : Nat → Int64) (tR : Nat → Int32) (qI : Nat → Nat → Int32) (qJ : Nat → Nat → Int64) (R : Option Nat × (Nat → Int32) × (Nat → Option Nat)) (h : f_X0_insertAt n L u1 tI tP = some R) : Met l yX0_insertAt (wsU yX0_insertAt cX0_insertAt 4 (some (.object "SymbolBench$Path"))) ({ frames := 0, cells := 0, slots := 0, locals := 0 }) (PcW D cA (wl [gT cA aT tI tJ tP tO tR] ++ gQ L qI qJ) sz [.ref (aT 0), .int u1]) (QQ D (fun u : (Nat → Int32) × (Nat → Option Nat) => (wl [gT cA aT u.1 tJ u.2 tO tR] ++ gQ L qI qJ)) R (va_A (wl [gT cA aT tI tJ tP tO tR] ++ gQ L qI qJ) sz)) 0 0 (va_A (wl [gT cA aT tI tJ tP tO tR] ++ gQ L qI qJ) sz) := by
  refine Met.ofW (cc := cX0_insertAt) (maxL := 4) (ret := (some (.object "SymbolBench$Path"))) (by decide) rfl ?_
  intro p e s m args below meth c s₁ B hml hv
  obtain ⟨rfl, hsz, hP, hK, hD0⟩ := hv
  have hx := B.exec
  have hb := B.bytes
  have hr := B.returns
  have hts := atoms_spec (ws := (wsU yX0_insertAt cX0_insertAt 4 (some (.object "SymbolBench$Path")))) B.pre
  have hT : ∀ w ∈ wsL_law, w.before ([.ref (aT 0), .int u1] : List Value).toArray s = true := fun w h => hts w (List.mem_cons_of_mem _ h)
  have hown : s.vm.findClass RX0 = some m.cls := findClass_of_methodNamed B.named
  have hlocks := B.notSynchronized
  have hN := hK.2
  subst hsz
  have hD := hD0.self (sz := s.heap.size)
  generalize hAe : va_A (wl [gT cA aT tI tJ tP tO tR] ++ gQ L qI qJ) s.heap.size = A at hD ⊢
  have hA : ∀ q : Nat, s.heap.size ≤ q → A q := fun q h => by rw [← hAe]; exact Or.inr h
  have hS : va_S A s.heap s.heap [] := va_S.rf
  have hl := lv_entry ([.ref (aT 0), .int u1]) (n := 4) (Nat.le_of_ble_eq_true rfl)
  rw [lg_entry_eq]
  generalize (lg_sl ([.ref (aT 0), .int u1]) ++ List.replicate (4 - (lg_sl ([.ref (aT 0), .int u1])).length) Slot.unset).toArray = ls at hl ⊢
  have hl : lv_has ls 4 [(0, .ref (aT 0)), (1, .int u1)] := hl
  have b40 : ∀ (x1 : Int32) (x2 : Nat) (tI : Nat → Int32) (tP : Nat → Option Nat) (H : Heap) (locs : List Loc) (ls : Array Slot), f_X0_insertAt_b40 n L x1 x2 tI tP = some R → va_P D vwCl (wl [gT cA aT tI tJ tP tO tR] ++ gQ L qI qJ) H → va_D A (wl [gT cA aT tI tJ tP tO tR] ++ gQ L qI qJ) → va_S A s.heap H locs → lv_has ls 4 [(0, .ref (aT 0)), (1, .int x1), (2, .ref x2)] → W p l e (headSpec (wsU yX0_insertAt cX0_insertAt 4 (some (.object "SymbolBench$Path"))) ({ frames := 0, cells := 0, slots := 0, locals := 0 })).room s m ([.ref (aT 0), .int u1] : List Value).toArray below meth c H locs 0 0 (MQ below (QQ D (fun u : (Nat → Int32) × (Nat → Option Nat) => (wl [gT cA aT u.1 tJ u.2 tO tR] ++ gQ L qI qJ)) R A) ([.ref (aT 0), .int u1] : List Value).toArray s 0 0 A) (F0 m 40 ls []) := by
    intro x1 x2 tI tP H locs ls h hP hD hS hl
    unfold f_X0_insertAt_b40 at h
    refine lv_aload_n hx hb dX0_insertAt_40 rfl (lv_at hl 0 rfl) ?_
    refine va_get (D := D) (C := RX0) (T := TX0) (N := 6) hx hb hT inlX0 hown hK.1 hP 0 rfl rfl 0 (by decide) (hT _ fl_RX0_11) (fun _ h9 => h9) rfl dX0_insertAt_41 ?_
    refine lv_iload_n hx hb dX0_insertAt_44 rfl (lv_at hl 1 rfl) ?_
    refine lv_aload_n hx hb dX0_insertAt_45 rfl (lv_at hl 2 rfl) ?_
    obtain ⟨g1, h⟩ := og_guard h
    obtain ⟨m2, h⟩ := og_guard h
    obtain ⟨kq3, hkq3⟩ := va_pl_get (X := (wl [gT cA aT tI tJ tP tO tR])) (f := fQ qI qJ) m2
    refine va_astq (r := (RX2, TX2, 7)) hx hb hK.1 hP hD hS 1 3 kq3 2 rfl rfl hkq3 rfl (inb_vp g1) dX0_insertAt_46 (fun H locs hP hD hS => ?_)
    have hP : va_P D vwCl (wl [gT cA aT tI tJ (va_up tP x1.toNatClampNeg (some x2)) tO tR] ++ gQ L qI qJ) H := hP
    have hD : va_D A (wl [gT cA aT tI tJ (va_up tP x1.toNatClampNeg (some x2)) tO tR] ++ gQ L qI qJ) := hD
    refine lv_aload_n hx hb dX0_insertAt_47 rfl (lv_at hl 0 rfl) ?_
    refine lv_dup hx hb dX0_insertAt_48 rfl ?_
    refine va_get (D := D) (C := RX0) (T := TX0) (N := 6) hx hb hT inlX0 hown hK.1 hP 0 rfl rfl 3 (by decide) (hT _ fl_RX0_26) (fun _ h9 => h9) rfl dX0_insertAt_49 ?_
    refine lv_iconst (v := (1 : Int32)) hx hb dX0_insertAt_52 (by decide) ?_
    refine lv_iadd hx hb dX0_insertAt_53 ?_
    refine va_put (D := D) (v := .int ((tI 0) + (1 : Int32))) (ty := .int) (C := RX0) (T := TX0) (N := 6) hx hb hT inlX0 tyX0 tyX0_ok nmX0 hown hK.1 hP hD hS 0 rfl rfl 3 (by decide) (hT _ fl_RX0_26) (fun _ h9 => h9) rfl (by decide +kernel) rfl rfl (Nat.le_of_ble_eq_true rfl) dX0_insertAt_54 (fun H locs hP hD hS => ?_)
    have hP : va_P D vwCl (wl [gT cA aT (upd tI 0 ((tI 0) + (1 : Int32))) tJ (va_up tP x1.toNatClampNeg (some x2)) tO tR] ++ gQ L qI qJ) H := hP
    have hD : va_D A (wl [gT cA aT (upd tI 0 ((tI 0) + (1 : Int32))) tJ (va_up tP x1.toNatClampNeg (some x2)) tO tR] ++ gQ L qI qJ) := hD
    refine lv_aload_n hx hb dX0_insertAt_57 rfl (lv_at hl 2 rfl) ?_
    exact W.aret (v := .ref x2) hx hb hr (Or.inl ⟨_, rfl⟩) (Or.inr ⟨_, rfl⟩) (fun t ht hW => ⟨⟨(some x2), ((upd tI 0 ((tI 0) + (1 : Int32))), (va_up tP x1.toNatClampNeg (some x2))), rfl, ⟨(congrArg Prod.fst (og_inj h)).symm, (congrArg Prod.snd (og_inj h)).symm⟩, (by rw [ht]; exact hP), hD⟩, hS.F ht⟩) hS.2.2 dX0_insertAt_58
  have b15 : ∀ (x1 : Int32) (x2 : Nat) (tI : Nat → Int32) (nn : Nat), ∀ (x3 : Int32) (tP : Nat → Option Nat) (H : Heap) (locs : List Loc) (ls : Array Slot), lp (f_X0_insertAt_l15 n L x1 x2 tI) nn (x3, tP) = some R → va_P D vwCl (wl [gT cA aT tI tJ tP tO tR] ++ gQ L qI qJ) H → va_D A (wl [gT cA aT tI tJ tP tO tR] ++ gQ L qI qJ) → va_S A s.heap H locs → lv_has ls 4 [(0, .ref (aT 0)), (1, .int x1), (2, .ref x2), (3, .int x3)] → W p l e (headSpec (wsU yX0_insertAt cX0_insertAt 4 (some (.object "SymbolBench$Path"))) ({ frames := 0, cells := 0, slots := 0, locals := 0 })).room s m ([.ref (aT 0), .int u1] : List Value).toArray below meth c H locs 0 0 (MQ below (QQ D (fun u : (Nat → Int32) × (Nat → Option Nat) => (wl [gT cA aT u.1 tJ u.2 tO tR] ++ gQ L qI qJ)) R A) ([.ref (aT 0), .int u1] : List Value).toArray s 0 0 A) (F0 m 15 ls []) := by
    intro x1 x2 tI nn
    induction nn with
    | zero =>
      intro x3 tP H locs ls h hP hD hS hl
      exact (lp_zero h).elim
    | succ nn hr15 =>
      intro x3 tP H locs ls h hP hD hS hl
      rw [lp_succ] at h
      unfold f_X0_insertAt_l15 at h
      try dsimp only at h
      refine lv_iload_n hx hb dX0_insertAt_15 rfl (lv_at hl 3 rfl) ?_
      refine lv_iload_n hx hb dX0_insertAt_16 rfl (lv_at hl 1 rfl) ?_
      refine lv_icmp_le (tgt := 40) hx hb dX0_insertAt_17 (by decide) (fun c4 => ?_) (fun c4 => ?_)
      · replace h := og_pos c4 h
        exact b40  _ _ _ _ _ _ _ h hP hD hS (lv_sub hl [0, 1, 2] rfl)
      · replace h := og_neg c4 h
        refine lv_aload_n hx hb dX0_insertAt_20 rfl (lv_at hl 0 rfl) ?_
        refine va_get (D := D) (C := RX0) (T := TX0) (N := 6) hx hb hT inlX0 hown hK.1 hP 0 rfl rfl 0 (by decide) (hT _ fl_RX0_11) (fun _ h9 => h9) rfl dX0_insertAt_21 ?_
        refine lv_iload_n hx hb dX0_insertAt_24 rfl (lv_at hl 3 rfl) ?_
        refine lv_aload_n hx hb dX0_insertAt_25 rfl (lv_at hl 0 rfl) ?_
        refine va_get (D := D) (C := RX0) (T := TX0) (N := 6) hx hb hT inlX0 hown hK.1 hP 0 rfl rfl 0 (by decide) (hT _ fl_RX0_11) (fun _ h9 => h9) rfl dX0_insertAt_26 ?_
        refine lv_iload_n hx hb dX0_insertAt_29 rfl (lv_at hl 3 rfl) ?_
        refine lv_iconst (v := (1 : Int32)) hx hb dX0_insertAt_30 (by decide) ?_
        refine lv_isub hx hb dX0_insertAt_31 ?_
        obtain ⟨g5, h⟩ := og_guard h
        refine va_aldq hx hb hK.1 hP 1 3 rfl rfl (inb_vp g5) dX0_insertAt_32 ?_
        obtain ⟨a6, e7, h⟩ := og_bind h
        obtain ⟨m8, h⟩ := og_guard h
        refine gr_some e7 ?_
        obtain ⟨g9, h⟩ := og_guard h
        obtain ⟨kq10, hkq10⟩ := va_pl_get (X := (wl [gT cA aT tI tJ tP tO tR])) (f := fQ qI qJ) m8
        refine va_astq (r := (RX2, TX2, 7)) hx hb hK.1 hP hD hS 1 3 kq10 2 rfl rfl hkq10 rfl (inb_vp g9) dX0_insertAt_33 (fun H locs hP hD hS => ?_)
        have hP : va_P D vwCl (wl [gT cA aT tI tJ (va_up tP x3.toNatClampNeg (some a6)) tO tR] ++ gQ L qI qJ) H := hP
        have hD : va_D A (wl [gT cA aT tI tJ (va_up tP x3.toNatClampNeg (some a6)) tO tR] ++ gQ L qI qJ) := hD
        refine lv_iinc (v := (x3 + (-1))) (lv' := [(3, .int (x3 + (-1))), (0, .ref (aT 0)), (1, .int x1), (2, .ref x2)]) hx hb dX0_insertAt_34 hl (k := 3) rfl rfl (by decide) rfl (fun ls hl => ?_)
        refine lv_goto (tgt := 15) hx hb dX0_insertAt_37 (by decide) ?_
        exact hr15 _ _ _ _ _ h hP hD hS (lv_sub hl [1, 2, 3, 0] rfl)
  unfold f_X0_insertAt at h
  refine lv_aload_n hx hb dX0_insertAt_0 rfl (lv_at hl 0 rfl) ?_
  refine va_get (D := D) (C := RX0) (T := TX0) (N := 6) hx hb hT inlX0 hown hK.1 hP 0 rfl rfl 0 (by decide) (hT _ fl_RX0_11) (fun _ h9 => h9) rfl dX0_insertAt_1 ?_
  refine lv_aload_n hx hb dX0_insertAt_4 rfl (lv_at hl 0 rfl) ?_
  refine va_get (D := D) (C := RX0) (T := TX0) (N := 6) hx hb hT inlX0 hown hK.1 hP 0 rfl rfl 3 (by decide) (hT _ fl_RX0_26) (fun _ h9 => h9) rfl dX0_insertAt_5 ?_
  obtain ⟨g11, h⟩ := og_guard h
  refine va_aldq hx hb hK.1 hP 1 3 rfl rfl (inb_vp g11) dX0_insertAt_8 ?_
  obtain ⟨a12, e13, h⟩ := og_bind h
  obtain ⟨m14, h⟩ := og_guard h
  refine gr_some e13 ?_
  refine lv_astore_n (lv' := [(2, .ref a12), (0, .ref (aT 0)), (1, .int u1)]) hx hb dX0_insertAt_9 rfl hl (by decide) rfl (fun ls hl => ?_)
  refine lv_aload_n hx hb dX0_insertAt_10 rfl (lv_at hl 1 rfl) ?_
  refine va_get (D := D) (C := RX0) (T := TX0) (N := 6) hx hb hT inlX0 hown hK.1 hP 0 rfl rfl 3 (by decide) (hT _ fl_RX0_26) (fun _ h9 => h9) rfl dX0_insertAt_11 ?_
  refine lv_istore_n (lv' := [(3, .int (tI 0)), (2, .ref a12), (0, .ref (aT 0)), (1, .int u1)]) hx hb dX0_insertAt_14 rfl hl (by decide) rfl (fun ls hl => ?_)
  exact b15  _ _ _ n _ _ _ _ _ h hP hD hS (lv_sub hl [2, 3, 1, 0] rfl)
set_option maxRecDepth 100000 in
set_option maxHeartbeats 8000000 in
theorem k_X0_numberOf (l : Launch) (D : va_G) (cA : Nat → ClassId) (aT : Nat → Nat) (L : List Nat) (sz : Nat) (n : Nat) (u1 : Int64) (tI : Nat → Int32) (tJ : Nat → Int64) (tP : Nat → Option Nat) (tO : Nat → Int64) (tR : Nat → Int32) (qI : Nat → Nat → Int32) (qJ : Nat → Nat → Int64) (R : Int32 × Unit) (h : f_X0_numberOf n L u1 tI tP qJ = some R) : Met l yX0_numberOf (wsU yX0_numberOf cX0_numberOf 4 (some .int)) ({ frames := 1, cells := 0, slots := 0, locals := 23 }) (PcW D cA (wl [gT cA aT tI tJ tP tO tR] ++ gQ L qI qJ) sz [.ref (aT 0), .long u1]) (QI D (fun _ : Unit => (wl [gT cA aT tI tJ tP tO tR] ++ gQ L qI qJ)) R (va_A (wl [gT cA aT tI tJ tP tO tR] ++ gQ L qI qJ) sz)) 0 0 (va_A (wl [gT cA aT tI tJ tP tO tR] ++ gQ L qI qJ) sz) := by
  refine Met.ofW (cc := cX0_numberOf) (maxL := 4) (ret := (some .int)) (by decide) rfl ?_
  intro p e s m args below meth c s₁ B hml hv
  obtain ⟨rfl, hsz, hP, hK, hD0⟩ := hv
  have hx := B.exec
  have hb := B.bytes
  have hr := B.returns
  have hts := atoms_spec (ws := (wsU yX0_numberOf cX0_numberOf 4 (some .int))) B.pre
  have hT : ∀ w ∈ wsL_law, w.before ([.ref (aT 0), .long u1] : List Value).toArray s = true := fun w h => hts w (List.mem_cons_of_mem _ h)
  have hown : s.vm.findClass RX0 = some m.cls := findClass_of_methodNamed B.named
  have hlocks := B.notSynchronized
  have hN := hK.2
  subst hsz
  have hD := hD0.self (sz := s.heap.size)
  generalize hAe : va_A (wl [gT cA aT tI tJ tP tO tR] ++ gQ L qI qJ) s.heap.size = A at hD ⊢
  have hA : ∀ q : Nat, s.heap.size ≤ q → A q := fun q h => by rw [← hAe]; exact Or.inr h
  have hS : va_S A s.heap s.heap [] := va_S.rf
  have hl := lv_entry ([.ref (aT 0), .long u1]) (n := 4) (Nat.le_of_ble_eq_true rfl)
  rw [lg_entry_eq]
  generalize (lg_sl ([.ref (aT 0), .long u1]) ++ List.replicate (4 - (lg_sl ([.ref (aT 0), .long u1])).length) Slot.unset).toArray = ls at hl ⊢
  have hl : lv_has ls 4 [(0, .ref (aT 0)), (1, .long u1)] := hl
  unfold f_X0_numberOf at h
  refine lv_aload_n hx hb dX0_numberOf_0 rfl (lv_at hl 0 rfl) ?_
  refine lv_lload_n hx hb dX0_numberOf_1 rfl (lv_at hl 1 rfl) ?_
  obtain ⟨⟨r1, _u1⟩, e1, h⟩ := og_bind h
  try dsimp only at h
  refine gc_i (ws := (wl [gT cA aT tI tJ tP tO tR] ++ gQ L qI qJ)) (wc := (wl [gT cA aT tI tJ tP tO tR] ++ gQ L qI qJ)) (wr := (wl ([] : List va_W))) (ws' := (wl [gT cA aT tI tJ tP tO tR] ++ gQ L qI qJ)) (va_runV (As := [.long u1]) (rest := []) ⟨hx, hb, hml, hown, hT⟩ (k_X0_firstNotAheadOf l D cA aT L s.heap.size n u1 tI tJ tP tO tR qI qJ _ e1) (cwV 1 hT gv_RX0_63 rfl rfl rfl (by decide +kernel) ⟨Nat.le_of_ble_eq_true rfl, Nat.le_of_ble_eq_true rfl⟩) (pre_V (ci := 0) (q0 := 0) (wr := (wl ([] : List va_W))) (pmB (f := fun i => ([gT cA aT tI tJ tP tO tR] : List va_W).getD i []) [0] [0] [] (by decide)) hK hP hD rfl rfl) rfl rfl hl.1 rfl (lv_room (Nat.le_of_ble_eq_true rfl)) dX0_numberOf_2 ⟨Nat.le_refl _, Nat.le_refl _⟩) (pmB (f := fun i => ([gT cA aT tI tJ tP tO tR] : List va_W).getD i []) [0] [0] [] (by decide)) hP hD hS hA (pmB (f := fun i => ([gT cA aT tI tJ tP tO tR] : List va_W).getD i []) [0] [0] [] (by decide)) (fun H locs hP hD hS => ?_)
  refine lv_istore_n (lv' := [(3, .int r1), (0, .ref (aT 0)), (1, .long u1)]) hx hb dX0_numberOf_5 rfl hl (by decide) rfl (fun ls hl => ?_)
  refine lv_iload_n hx hb dX0_numberOf_6 rfl (lv_at hl 0 rfl) ?_
  refine lv_aload_n hx hb dX0_numberOf_7 rfl (lv_at hl 1 rfl) ?_
  refine va_get (D := D) (C := RX0) (T := TX0) (N := 6) hx hb hT inlX0 hown hK.1 hP 0 rfl rfl 3 (by decide) (hT _ fl_RX0_26) (fun _ h9 => h9) rfl dX0_numberOf_8 ?_
  refine lv_icmp_ge (tgt := 32) hx hb dX0_numberOf_11 (by decide) (fun c2 => ?_) (fun c2 => ?_)
  · replace h := og_pos c2 h
    refine lv_iconst (v := (-1 : Int32)) hx hb dX0_numberOf_32 (by decide) ?_
    exact W.iret (v := (-1 : Int32)) hx hb hr (fun t ht hW => ⟨⟨(-1 : Int32), (), rfl, ⟨(congrArg Prod.fst (og_inj h)).symm, (congrArg Prod.snd (og_inj h)).symm⟩, (by rw [ht]; exact hP), hD⟩, hS.F ht⟩) hS.2.2 dX0_numberOf_33
  · replace h := og_neg c2 h
    refine lv_aload_n hx hb dX0_numberOf_14 rfl (lv_at hl 1 rfl) ?_
    refine va_get (D := D) (C := RX0) (T := TX0) (N := 6) hx hb hT inlX0 hown hK.1 hP 0 rfl rfl 0 (by decide) (hT _ fl_RX0_11) (fun _ h9 => h9) rfl dX0_numberOf_15 ?_
    refine lv_iload_n hx hb dX0_numberOf_18 rfl (lv_at hl 0 rfl) ?_
    obtain ⟨g3, h⟩ := og_guard h
    refine va_aldq hx hb hK.1 hP 1 3 rfl rfl (inb_vp g3) dX0_numberOf_19 ?_
    obtain ⟨a4, e5, h⟩ := og_bind h
    obtain ⟨m6, h⟩ := og_guard h
    refine gr_some e5 ?_
    obtain ⟨kq7, hkq7⟩ := va_pl_get (X := (wl [gT cA aT tI tJ tP tO tR])) (f := fQ qI qJ) m6
    refine va_getN (D := D) (C := RX2) (T := TX2) (N := 7) hx hb hT inlX2 hown hK.1 hP kq7 hkq7 rfl 1 (by decide) (va_Nw.use rfl (hN _ nl_RX0_67)) (fun _ h9 => h9) rfl dX0_numberOf_20 ?_
    refine lv_lload_n hx hb dX0_numberOf_23 rfl (lv_at hl 2 rfl) ?_
    refine W.lcmp hx hb dX0_numberOf_24 ?_
    refine lv_if_ne (tgt := 32) hx hb dX0_numberOf_25 (by decide) (fun c8 => ?_) (fun c8 => ?_)
    · replace h := og_neg c8 h
      refine lv_iconst (v := (-1 : Int32)) hx hb dX0_numberOf_32 (by decide) ?_
      exact W.iret (v := (-1 : Int32)) hx hb hr (fun t ht hW => ⟨⟨(-1 : Int32), (), rfl, ⟨(congrArg Prod.fst (og_inj h)).symm, (congrArg Prod.snd (og_inj h)).symm⟩, (by rw [ht]; exact hP), hD⟩, hS.F ht⟩) hS.2.2 dX0_numberOf_33
    · replace h := og_pos c8 h
      refine lv_iload_n hx hb dX0_numberOf_28 rfl (lv_at hl 0 rfl) ?_
      refine lv_goto (tgt := 33) hx hb dX0_numberOf_29 (by decide) ?_
      exact W.iret (v := r1) hx hb hr (fun t ht hW => ⟨⟨r1, (), rfl, ⟨(congrArg Prod.fst (og_inj h)).symm, (congrArg Prod.snd (og_inj h)).symm⟩, (by rw [ht]; exact hP), hD⟩, hS.F ht⟩) hS.2.2 dX0_numberOf_33
set_option maxRecDepth 100000 in
set_option maxHeartbeats 8000000 in
theorem k_X0_goes (l : Launch) (D : va_G) (cA : Nat → ClassId) (aT : Nat → Nat) (L : List Nat) (sz : Nat) (u1 : Nat) (u2 : Int32) (tI : Nat → Int32) (tJ : Nat → Int64) (tP : Nat → Option Nat) (tO : Nat → Int64) (tR : Nat → Int32) (qI : Nat → Nat → Int32) (qJ : Nat → Nat → Int64) (R : Int32 × Unit) (h : f_X0_goes L u1 u2 tO qJ = some R) : Met l yX0_goes (wsU yX0_goes cX0_goes 3 (some .boolean)) ({ frames := 0, cells := 0, slots := 0, locals := 0 }) (PcW D cA (wl [gT cA aT tI tJ tP tO tR] ++ gQ L qI qJ) sz [.ref (aT 0), .ref u1, .int u2]) (QI D (fun _ : Unit => (wl [gT cA aT tI tJ tP tO tR] ++ gQ L qI qJ)) R (va_A (wl [gT cA aT tI tJ tP tO tR] ++ gQ L qI qJ) sz)) 0 0 (va_A (wl [gT cA aT tI tJ tP tO tR] ++ gQ L qI qJ) sz) := by
  refine Met.ofW (cc := cX0_goes) (maxL := 3) (ret := (some .boolean)) (by decide) rfl ?_
  intro p e s m args below meth c s₁ B hml hv
  obtain ⟨rfl, hsz, hP, hK, hD0⟩ := hv
  have hx := B.exec
  have hb := B.bytes
  have hr := B.returns
  have hts := atoms_spec (ws := (wsU yX0_goes cX0_goes 3 (some .boolean))) B.pre
  have hT : ∀ w ∈ wsL_law, w.before ([.ref (aT 0), .ref u1, .int u2] : List Value).toArray s = true := fun w h => hts w (List.mem_cons_of_mem _ h)
  have hown : s.vm.findClass RX0 = some m.cls := findClass_of_methodNamed B.named
  have hlocks := B.notSynchronized
  have hN := hK.2
  subst hsz
  have hD := hD0.self (sz := s.heap.size)
  generalize hAe : va_A (wl [gT cA aT tI tJ tP tO tR] ++ gQ L qI qJ) s.heap.size = A at hD ⊢
  have hA : ∀ q : Nat, s.heap.size ≤ q → A q := fun q h => by rw [← hAe]; exact Or.inr h
  have hS : va_S A s.heap s.heap [] := va_S.rf
  have hl := lv_entry ([.ref (aT 0), .ref u1, .int u2]) (n := 3) (Nat.le_of_ble_eq_true rfl)
  rw [lg_entry_eq]
  generalize (lg_sl ([.ref (aT 0), .ref u1, .int u2]) ++ List.replicate (3 - (lg_sl ([.ref (aT 0), .ref u1, .int u2])).length) Slot.unset).toArray = ls at hl ⊢
  have hl : lv_has ls 3 [(0, .ref (aT 0)), (1, .ref u1), (2, .int u2)] := hl
  unfold f_X0_goes at h
  refine lv_aload_n hx hb dX0_goes_0 rfl (lv_at hl 0 rfl) ?_
  refine va_get (D := D) (C := RX0) (T := TX0) (N := 6) hx hb hT inlX0 hown hK.1 hP 0 rfl rfl 1 (by decide) (hT _ fl_RX0_17) (fun _ h9 => h9) rfl dX0_goes_1 ?_
  refine lv_iload_n hx hb dX0_goes_4 rfl (lv_at hl 2 rfl) ?_
  obtain ⟨g1, h⟩ := og_guard h
  refine va_lald hx hb hK.1 hP 2 2 rfl rfl (inb_vp g1) dX0_goes_5 ?_
  refine lv_aload_n hx hb dX0_goes_6 rfl (lv_at hl 1 rfl) ?_
  obtain ⟨m2, h⟩ := og_guard h
  obtain ⟨kq3, hkq3⟩ := va_pl_get (X := (wl [gT cA aT tI tJ tP tO tR])) (f := fQ qI qJ) m2
  refine va_getN (D := D) (C := RX2) (T := TX2) (N := 7) hx hb hT inlX2 hown hK.1 hP kq3 hkq3 rfl 1 (by decide) (va_Nw.use rfl (hN _ nl_RX0_67)) (fun _ h9 => h9) rfl dX0_goes_7 ?_
  refine W.lcmp hx hb dX0_goes_10 ?_
  refine lv_if_ne (tgt := 18) hx hb dX0_goes_11 (by decide) (fun c4 => ?_) (fun c4 => ?_)
  · replace h := og_neg c4 h
    refine lv_iconst (v := (0 : Int32)) hx hb dX0_goes_18 (by decide) ?_
    exact W.zret (v := (0 : Int32)) hx hb hr (by decide +kernel) (fun t ht hW => ⟨⟨(0 : Int32), (), rfl, ⟨(congrArg Prod.fst (og_inj h)).symm, (congrArg Prod.snd (og_inj h)).symm⟩, (by rw [ht]; exact hP), hD⟩, hS.F ht⟩) hS.2.2 dX0_goes_19
  · replace h := og_pos c4 h
    refine lv_iconst (v := (1 : Int32)) hx hb dX0_goes_14 (by decide) ?_
    refine lv_goto (tgt := 19) hx hb dX0_goes_15 (by decide) ?_
    exact W.zret (v := (1 : Int32)) hx hb hr (by decide +kernel) (fun t ht hW => ⟨⟨(1 : Int32), (), rfl, ⟨(congrArg Prod.fst (og_inj h)).symm, (congrArg Prod.snd (og_inj h)).symm⟩, (by rw [ht]; exact hP), hD⟩, hS.F ht⟩) hS.2.2 dX0_goes_19
set_option maxRecDepth 100000 in
set_option maxHeartbeats 8000000 in
theorem k_X0_leastWordWith (l : Launch) (D : va_G) (cA : Nat → ClassId) (aT : Nat → Nat) (L : List Nat) (sz : Nat) (n : Nat) (u1 : Nat) (u2 : Int32) (u3 : Int32) (u4 : Int32) (tI : Nat → Int32) (tJ : Nat → Int64) (tP : Nat → Option Nat) (tO : Nat → Int64) (tR : Nat → Int32) (qI : Nat → Nat → Int32) (qJ : Nat → Nat → Int64) (R : Int32 × Unit) (h : f_X0_leastWordWith n L u1 u2 u3 u4 tO tR qI qJ = some R) : Met l yX0_leastWordWith (wsU yX0_leastWordWith cX0_leastWordWith 6 (some .int)) ({ frames := 2, cells := 0, slots := 0, locals := 43 }) (PcW D cA (wl [gT cA aT tI tJ tP tO tR] ++ gQ L qI qJ) sz [.ref (aT 0), .ref u1, .int u2, .int u3, .int u4]) (QI D (fun _ : Unit => (wl [gT cA aT tI tJ tP tO tR] ++ gQ L qI qJ)) R (va_A (wl [gT cA aT tI tJ tP tO tR] ++ gQ L qI qJ) sz)) 0 0 (va_A (wl [gT cA aT tI tJ tP tO tR] ++ gQ L qI qJ) sz) := by
  refine Met.ofW (cc := cX0_leastWordWith) (maxL := 6) (ret := (some .int)) (by decide) rfl ?_
  intro p e s m args below meth c s₁ B hml hv
  obtain ⟨rfl, hsz, hP, hK, hD0⟩ := hv
  have hx := B.exec
  have hb := B.bytes
  have hr := B.returns
  have hts := atoms_spec (ws := (wsU yX0_leastWordWith cX0_leastWordWith 6 (some .int))) B.pre
  have hT : ∀ w ∈ wsL_law, w.before ([.ref (aT 0), .ref u1, .int u2, .int u3, .int u4] : List Value).toArray s = true := fun w h => hts w (List.mem_cons_of_mem _ h)
  have hown : s.vm.findClass RX0 = some m.cls := findClass_of_methodNamed B.named
  have hlocks := B.notSynchronized
  have hN := hK.2
  subst hsz
  have hD := hD0.self (sz := s.heap.size)
  generalize hAe : va_A (wl [gT cA aT tI tJ tP tO tR] ++ gQ L qI qJ) s.heap.size = A at hD ⊢
  have hA : ∀ q : Nat, s.heap.size ≤ q → A q := fun q h => by rw [← hAe]; exact Or.inr h
  have hS : va_S A s.heap s.heap [] := va_S.rf
  have hl := lv_entry ([.ref (aT 0), .ref u1, .int u2, .int u3, .int u4]) (n := 6) (Nat.le_of_ble_eq_true rfl)
  rw [lg_entry_eq]
  generalize (lg_sl ([.ref (aT 0), .ref u1, .int u2, .int u3, .int u4]) ++ List.replicate (6 - (lg_sl ([.ref (aT 0), .ref u1, .int u2, .int u3, .int u4])).length) Slot.unset).toArray = ls at hl ⊢
  have hl : lv_has ls 6 [(0, .ref (aT 0)), (1, .ref u1), (2, .int u2), (3, .int u3), (4, .int u4)] := hl
  have b41 : ∀ (x1 : Nat) (x2 : Int32) (x3 : Int32) (x4 : Int32) (rc6 : (Int32) → Option (Int32 × Unit)) (hr6 : ∀ (x5 : Int32) (H : Heap) (locs : List Loc) (ls : Array Slot), rc6 (x5) = some R → va_P D vwCl (wl [gT cA aT tI tJ tP tO tR] ++ gQ L qI qJ) H → va_D A (wl [gT cA aT tI tJ tP tO tR] ++ gQ L qI qJ) → va_S A s.heap H locs → lv_has ls 6 [(0, .ref (aT 0)), (1, .ref x1), (2, .int x2), (3, .int x3), (4, .int x4), (5, .int x5)] → W p l e (headSpec (wsU yX0_leastWordWith cX0_leastWordWith 6 (some .int)) ({ frames := 2, cells := 0, slots := 0, locals := 43 })).room s m ([.ref (aT 0), .ref u1, .int u2, .int u3, .int u4] : List Value).toArray below meth c H locs 0 0 (MQ below (QI D (fun _ : Unit => (wl [gT cA aT tI tJ tP tO tR] ++ gQ L qI qJ)) R A) ([.ref (aT 0), .ref u1, .int u2, .int u3, .int u4] : List Value).toArray s 0 0 A) (F0 m 6 ls [])) (x5 : Int32) (H : Heap) (locs : List Loc) (ls : Array Slot), f_X0_leastWordWith_b41 n L rc6 x1 x2 x3 x4 x5 tO tR qI qJ = some R → va_P D vwCl (wl [gT cA aT tI tJ tP tO tR] ++ gQ L qI qJ) H → va_D A (wl [gT cA aT tI tJ tP tO tR] ++ gQ L qI qJ) → va_S A s.heap H locs → lv_has ls 6 [(0, .ref (aT 0)), (1, .ref x1), (2, .int x2), (3, .int x3), (4, .int x4), (5, .int x5)] → W p l e (headSpec (wsU yX0_leastWordWith cX0_leastWordWith 6 (some .int)) ({ frames := 2, cells := 0, slots := 0, locals := 43 })).room s m ([.ref (aT 0), .ref u1, .int u2, .int u3, .int u4] : List Value).toArray below meth c H locs 0 0 (MQ below (QI D (fun _ : Unit => (wl [gT cA aT tI tJ tP tO tR] ++ gQ L qI qJ)) R A) ([.ref (aT 0), .ref u1, .int u2, .int u3, .int u4] : List Value).toArray s 0 0 A) (F0 m 41 ls []) := by
    intro x1 x2 x3 x4 rc6 hr6 x5 H locs ls h hP hD hS hl
    unfold f_X0_leastWordWith_b41 at h
    refine lv_iinc (v := (x5 + 1)) (lv' := [(5, .int (x5 + 1)), (0, .ref (aT 0)), (1, .ref x1), (2, .int x2), (3, .int x3), (4, .int x4)]) hx hb dX0_leastWordWith_41 hl (k := 5) rfl rfl (by decide) rfl (fun ls hl => ?_)
    refine lv_goto (tgt := 6) hx hb dX0_leastWordWith_44 (by decide) ?_
    exact hr6 _ _ _ _ h hP hD hS (lv_sub hl [1, 2, 3, 4, 5, 0] rfl)
  have b6 : ∀ (x1 : Nat) (x2 : Int32) (x3 : Int32) (x4 : Int32) (nn : Nat), ∀ (x5 : Int32) (H : Heap) (locs : List Loc) (ls : Array Slot), lp (f_X0_leastWordWith_l6 n L x1 x2 x3 x4 tO tR qI qJ) nn (x5) = some R → va_P D vwCl (wl [gT cA aT tI tJ tP tO tR] ++ gQ L qI qJ) H → va_D A (wl [gT cA aT tI tJ tP tO tR] ++ gQ L qI qJ) → va_S A s.heap H locs → lv_has ls 6 [(0, .ref (aT 0)), (1, .ref x1), (2, .int x2), (3, .int x3), (4, .int x4), (5, .int x5)] → W p l e (headSpec (wsU yX0_leastWordWith cX0_leastWordWith 6 (some .int)) ({ frames := 2, cells := 0, slots := 0, locals := 43 })).room s m ([.ref (aT 0), .ref u1, .int u2, .int u3, .int u4] : List Value).toArray below meth c H locs 0 0 (MQ below (QI D (fun _ : Unit => (wl [gT cA aT tI tJ tP tO tR] ++ gQ L qI qJ)) R A) ([.ref (aT 0), .ref u1, .int u2, .int u3, .int u4] : List Value).toArray s 0 0 A) (F0 m 6 ls []) := by
    intro x1 x2 x3 x4 nn
    induction nn with
    | zero =>
      intro x5 H locs ls h hP hD hS hl
      exact (lp_zero h).elim
    | succ nn hr6 =>
      intro x5 H locs ls h hP hD hS hl
      rw [lp_succ] at h
      unfold f_X0_leastWordWith_l6 at h
      try dsimp only at h
      refine lv_iload hx hb dX0_leastWordWith_6 (lv_at hl 5 rfl) ?_
      refine lv_iload hx hb dX0_leastWordWith_8 (lv_at hl 4 rfl) ?_
      refine lv_icmp_ge (tgt := 47) hx hb dX0_leastWordWith_10 (by decide) (fun c1 => ?_) (fun c1 => ?_)
      · replace h := og_pos c1 h
        refine lv_iconst (v := (-1 : Int32)) hx hb dX0_leastWordWith_47 (by decide) ?_
        exact W.iret (v := (-1 : Int32)) hx hb hr (fun t ht hW => ⟨⟨(-1 : Int32), (), rfl, ⟨(congrArg Prod.fst (og_inj h)).symm, (congrArg Prod.snd (og_inj h)).symm⟩, (by rw [ht]; exact hP), hD⟩, hS.F ht⟩) hS.2.2 dX0_leastWordWith_48
      · replace h := og_neg c1 h
        refine lv_aload_n hx hb dX0_leastWordWith_13 rfl (lv_at hl 0 rfl) ?_
        refine lv_aload_n hx hb dX0_leastWordWith_14 rfl (lv_at hl 1 rfl) ?_
        refine lv_iload hx hb dX0_leastWordWith_15 (lv_at hl 5 rfl) ?_
        obtain ⟨⟨r2, _u2⟩, e2, h⟩ := og_bind h
        try dsimp only at h
        refine gc_i (ws := (wl [gT cA aT tI tJ tP tO tR] ++ gQ L qI qJ)) (wc := (wl [gT cA aT tI tJ tP tO tR] ++ gQ L qI qJ)) (wr := (wl ([] : List va_W))) (ws' := (wl [gT cA aT tI tJ tP tO tR] ++ gQ L qI qJ)) (va_runV (As := [.ref x1, .int x5]) (rest := []) ⟨hx, hb, hml, hown, hT⟩ (k_X0_goes l D cA aT L H.size x1 x5 tI tJ tP tO tR qI qJ _ e2) (cwV 2 hT gv_RX0_98 rfl rfl rfl (by decide +kernel) ⟨Nat.le_of_ble_eq_true rfl, Nat.le_of_ble_eq_true rfl⟩) (pre_V (ci := 0) (q0 := 0) (wr := (wl ([] : List va_W))) (pmB (f := fun i => ([gT cA aT tI tJ tP tO tR] : List va_W).getD i []) [0] [0] [] (by decide)) hK hP hD rfl rfl) rfl rfl hl.1 rfl (lv_room (Nat.le_of_ble_eq_true rfl)) dX0_leastWordWith_17 ⟨Nat.le_refl _, Nat.le_refl _⟩) (pmB (f := fun i => ([gT cA aT tI tJ tP tO tR] : List va_W).getD i []) [0] [0] [] (by decide)) hP hD hS hA (pmB (f := fun i => ([gT cA aT tI tJ tP tO tR] : List va_W).getD i []) [0] [0] [] (by decide)) (fun H locs hP hD hS => ?_)
        refine lv_if_eq (tgt := 41) hx hb dX0_leastWordWith_20 (by decide) (fun c3 => ?_) (fun c3 => ?_)
        · replace h := og_pos c3 h
          exact b41 _ _ _ _ _ hr6 _ _ _ _ h hP hD hS (lv_sub hl [0, 1, 2, 3, 4, 5] rfl)
        · replace h := og_neg c3 h
          refine lv_aload_n hx hb dX0_leastWordWith_23 rfl (lv_at hl 0 rfl) ?_
          refine va_get (D := D) (C := RX0) (T := TX0) (N := 6) hx hb hT inlX0 hown hK.1 hP 0 rfl rfl 2 (by decide) (hT _ fl_RX0_21) (fun _ h9 => h9) rfl dX0_leastWordWith_24 ?_
          refine lv_iload hx hb dX0_leastWordWith_27 (lv_at hl 5 rfl) ?_
          obtain ⟨g4, h⟩ := og_guard h
          refine va_iald hx hb hK.1 hP 3 0 rfl rfl (inb_vp g4) dX0_leastWordWith_29 ?_
          refine lv_iload_n hx hb dX0_leastWordWith_30 rfl (lv_at hl 2 rfl) ?_
          refine lv_iload_n hx hb dX0_leastWordWith_31 rfl (lv_at hl 3 rfl) ?_
          obtain ⟨⟨r5, _u5⟩, e5, h⟩ := og_bind h
          try dsimp only at h
          refine gc_i (ws := (wl [gT cA aT tI tJ tP tO tR] ++ gQ L qI qJ)) (wc := (wl ([] : List va_W))) (wr := (wl [gT cA aT tI tJ tP tO tR] ++ gQ L qI qJ)) (ws' := (wl [gT cA aT tI tJ tP tO tR] ++ gQ L qI qJ)) (va_runS (As := [.int (tR x5.toNatClampNeg), .int x2, .int x3]) (rest := []) ⟨hx, hb, hml, hown, hT⟩ (k_X0_isWanted l D cA  H.size (tR x5.toNatClampNeg) x2 x3  _ e5) (cwS 3 hT gs_RX0_102 rfl rfl rfl (by decide +kernel) ⟨Nat.le_of_ble_eq_true rfl, Nat.le_of_ble_eq_true rfl⟩) (pre_S (wr := (wl [gT cA aT tI tJ tP tO tR] ++ gQ L qI qJ)) (pmC (f := fun i => ([gT cA aT tI tJ tP tO tR] : List va_W).getD i []) [0] [] [0] (by decide)) hK hP hD) rfl rfl hl.1 rfl (lv_room (Nat.le_of_ble_eq_true rfl)) dX0_leastWordWith_32 ⟨Nat.le_refl _, Nat.le_refl _⟩) (pmC (f := fun i => ([gT cA aT tI tJ tP tO tR] : List va_W).getD i []) [0] [] [0] (by decide)) hP hD hS hA (pmC (f := fun i => ([gT cA aT tI tJ tP tO tR] : List va_W).getD i []) [0] [] [0] (by decide)) (fun H locs hP hD hS => ?_)
          refine lv_if_eq (tgt := 41) hx hb dX0_leastWordWith_35 (by decide) (fun c6 => ?_) (fun c6 => ?_)
          · replace h := og_pos c6 h
            exact b41 _ _ _ _ _ hr6 _ _ _ _ h hP hD hS (lv_sub hl [0, 1, 2, 3, 4, 5] rfl)
          · replace h := og_neg c6 h
            refine lv_iload hx hb dX0_leastWordWith_38 (lv_at hl 5 rfl) ?_
            exact W.iret (v := x5) hx hb hr (fun t ht hW => ⟨⟨x5, (), rfl, ⟨(congrArg Prod.fst (og_inj h)).symm, (congrArg Prod.snd (og_inj h)).symm⟩, (by rw [ht]; exact hP), hD⟩, hS.F ht⟩) hS.2.2 dX0_leastWordWith_40
  unfold f_X0_leastWordWith at h
  refine lv_aload_n hx hb dX0_leastWordWith_0 rfl (lv_at hl 1 rfl) ?_
  obtain ⟨m7, h⟩ := og_guard h
  obtain ⟨kq8, hkq8⟩ := va_pl_get (X := (wl [gT cA aT tI tJ tP tO tR])) (f := fQ qI qJ) m7
  refine va_getN (D := D) (C := RX2) (T := TX2) (N := 7) hx hb hT inlX2 hown hK.1 hP kq8 hkq8 rfl 4 (by decide) (va_Nw.use rfl (hN _ nl_RX0_95)) (fun _ h9 => h9) rfl dX0_leastWordWith_1 ?_
  refine lv_istore (lv' := [(5, .int (qI u1 2)), (0, .ref (aT 0)), (1, .ref u1), (2, .int u2), (3, .int u3), (4, .int u4)]) hx hb dX0_leastWordWith_4 hl (by decide) rfl (fun ls hl => ?_)
  exact b6  _ _ _ _ n _ _ _ _ h hP hD hS (lv_sub hl [1, 2, 3, 4, 5, 0] rfl)
set_option maxRecDepth 100000 in
set_option maxHeartbeats 8000000 in
theorem k_X0_firstFailing (l : Launch) (D : va_G) (cA : Nat → ClassId) (aT : Nat → Nat) (L : List Nat) (sz : Nat) (n : Nat) (u1 : Int32) (tI : Nat → Int32) (tJ : Nat → Int64) (tP : Nat → Option Nat) (tO : Nat → Int64) (tR : Nat → Int32) (qI : Nat → Nat → Int32) (qJ : Nat → Nat → Int64) (R : Option Nat × Unit) (h : f_X0_firstFailing n L u1 tI tJ tP qI = some R) : Met l yX0_firstFailing (wsU yX0_firstFailing cX0_firstFailing 7 (some (.object "SymbolBench$Path"))) ({ frames := 3, cells := 0, slots := 0, locals := 66 }) (PcW D cA (wl [gT cA aT tI tJ tP tO tR] ++ gQ L qI qJ) sz [.ref (aT 0), .int u1]) (QQ D (fun _ : Unit => (wl [gT cA aT tI tJ tP tO tR] ++ gQ L qI qJ)) R (va_A (wl [gT cA aT tI tJ tP tO tR] ++ gQ L qI qJ) sz)) 0 0 (va_A (wl [gT cA aT tI tJ tP tO tR] ++ gQ L qI qJ) sz) := by
  refine Met.ofW (cc := cX0_firstFailing) (maxL := 7) (ret := (some (.object "SymbolBench$Path"))) (by decide) rfl ?_
  intro p e s m args below meth c s₁ B hml hv
  obtain ⟨rfl, hsz, hP, hK, hD0⟩ := hv
  have hx := B.exec
  have hb := B.bytes
  have hr := B.returns
  have hts := atoms_spec (ws := (wsU yX0_firstFailing cX0_firstFailing 7 (some (.object "SymbolBench$Path")))) B.pre
  have hT : ∀ w ∈ wsL_law, w.before ([.ref (aT 0), .int u1] : List Value).toArray s = true := fun w h => hts w (List.mem_cons_of_mem _ h)
  have hown : s.vm.findClass RX0 = some m.cls := findClass_of_methodNamed B.named
  have hlocks := B.notSynchronized
  have hN := hK.2
  subst hsz
  have hD := hD0.self (sz := s.heap.size)
  generalize hAe : va_A (wl [gT cA aT tI tJ tP tO tR] ++ gQ L qI qJ) s.heap.size = A at hD ⊢
  have hA : ∀ q : Nat, s.heap.size ≤ q → A q := fun q h => by rw [← hAe]; exact Or.inr h
  have hS : va_S A s.heap s.heap [] := va_S.rf
  have hl := lv_entry ([.ref (aT 0), .int u1]) (n := 7) (Nat.le_of_ble_eq_true rfl)
  rw [lg_entry_eq]
  generalize (lg_sl ([.ref (aT 0), .int u1]) ++ List.replicate (7 - (lg_sl ([.ref (aT 0), .int u1])).length) Slot.unset).toArray = ls at hl ⊢
  have hl : lv_has ls 7 [(0, .ref (aT 0)), (1, .int u1)] := hl
  have b80 : ∀ (x2 : Int32) (rc14 : ((Option Nat) × Int32) → Option (Option Nat × Unit)) (hr14 : ∀ (x3 : Option Nat) (x4 : Int32) (H : Heap) (locs : List Loc) (ls : Array Slot), rc14 (x3, x4) = some R → va_P D vwCl (wl [gT cA aT tI tJ tP tO tR] ++ gQ L qI qJ) H → va_D A (wl [gT cA aT tI tJ tP tO tR] ++ gQ L qI qJ) → va_S A s.heap H locs → lv_has ls 7 [(0, .ref (aT 0)), (2, .int x2), (3, va_rf x3), (4, .int x4)] → W p l e (headSpec (wsU yX0_firstFailing cX0_firstFailing 7 (some (.object "SymbolBench$Path"))) ({ frames := 3, cells := 0, slots := 0, locals := 66 })).room s m ([.ref (aT 0), .int u1] : List Value).toArray below meth c H locs 0 0 (MQ below (QQ D (fun _ : Unit => (wl [gT cA aT tI tJ tP tO tR] ++ gQ L qI qJ)) R A) ([.ref (aT 0), .int u1] : List Value).toArray s 0 0 A) (F0 m 14 ls [])) (x3 : Option Nat) (x4 : Int32) (H : Heap) (locs : List Loc) (ls : Array Slot), f_X0_firstFailing_b80 n L rc14 x2 x3 x4 tI tJ tP qI = some R → va_P D vwCl (wl [gT cA aT tI tJ tP tO tR] ++ gQ L qI qJ) H → va_D A (wl [gT cA aT tI tJ tP tO tR] ++ gQ L qI qJ) → va_S A s.heap H locs → lv_has ls 7 [(0, .ref (aT 0)), (2, .int x2), (3, va_rf x3), (4, .int x4)] → W p l e (headSpec (wsU yX0_firstFailing cX0_firstFailing 7 (some (.object "SymbolBench$Path"))) ({ frames := 3, cells := 0, slots := 0, locals := 66 })).room s m ([.ref (aT 0), .int u1] : List Value).toArray below meth c H locs 0 0 (MQ below (QQ D (fun _ : Unit => (wl [gT cA aT tI tJ tP tO tR] ++ gQ L qI qJ)) R A) ([.ref (aT 0), .int u1] : List Value).toArray s 0 0 A) (F0 m 80 ls []) := by
    intro x2 rc14 hr14 x3 x4 H locs ls h hP hD hS hl
    unfold f_X0_firstFailing_b80 at h
    cases x3 with
    | none =>
      have hl : lv_has ls 7 [(0, .ref (aT 0)), (2, .int x2), (3, .null), (4, .int x4)] := hl
      refine lv_iinc (v := (x4 + 1)) (lv' := [(4, .int (x4 + 1)), (0, .ref (aT 0)), (2, .int x2), (3, .null)]) hx hb dX0_firstFailing_80 hl (k := 3) rfl rfl (by decide) rfl (fun ls hl => ?_)
      refine lv_goto (tgt := 14) hx hb dX0_firstFailing_83 (by decide) ?_
      exact hr14 _ _ _ _ _ h hP hD hS (lv_sub hl [1, 2, 3, 0] rfl)
    | some a3 =>
      have hl : lv_has ls 7 [(0, .ref (aT 0)), (2, .int x2), (3, .ref a3), (4, .int x4)] := hl
      refine lv_iinc (v := (x4 + 1)) (lv' := [(4, .int (x4 + 1)), (0, .ref (aT 0)), (2, .int x2), (3, .ref a3)]) hx hb dX0_firstFailing_80 hl (k := 3) rfl rfl (by decide) rfl (fun ls hl => ?_)
      refine lv_goto (tgt := 14) hx hb dX0_firstFailing_83 (by decide) ?_
      exact hr14 _ _ _ _ _ h hP hD hS (lv_sub hl [1, 2, 3, 0] rfl)
  have b77 : ∀ (x2 : Int32) (rc14 : ((Option Nat) × Int32) → Option (Option Nat × Unit)) (hr14 : ∀ (x3 : Option Nat) (x4 : Int32) (H : Heap) (locs : List Loc) (ls : Array Slot), rc14 (x3, x4) = some R → va_P D vwCl (wl [gT cA aT tI tJ tP tO tR] ++ gQ L qI qJ) H → va_D A (wl [gT cA aT tI tJ tP tO tR] ++ gQ L qI qJ) → va_S A s.heap H locs → lv_has ls 7 [(0, .ref (aT 0)), (2, .int x2), (3, va_rf x3), (4, .int x4)] → W p l e (headSpec (wsU yX0_firstFailing cX0_firstFailing 7 (some (.object "SymbolBench$Path"))) ({ frames := 3, cells := 0, slots := 0, locals := 66 })).room s m ([.ref (aT 0), .int u1] : List Value).toArray below meth c H locs 0 0 (MQ below (QQ D (fun _ : Unit => (wl [gT cA aT tI tJ tP tO tR] ++ gQ L qI qJ)) R A) ([.ref (aT 0), .int u1] : List Value).toArray s 0 0 A) (F0 m 14 ls [])) (x4 : Int32) (x5 : Nat) (H : Heap) (locs : List Loc) (ls : Array Slot), f_X0_firstFailing_b77 n L rc14 x2 x4 x5 tI tJ tP qI = some R → va_P D vwCl (wl [gT cA aT tI tJ tP tO tR] ++ gQ L qI qJ) H → va_D A (wl [gT cA aT tI tJ tP tO tR] ++ gQ L qI qJ) → va_S A s.heap H locs → lv_has ls 7 [(0, .ref (aT 0)), (2, .int x2), (4, .int x4), (5, .ref x5)] → W p l e (headSpec (wsU yX0_firstFailing cX0_firstFailing 7 (some (.object "SymbolBench$Path"))) ({ frames := 3, cells := 0, slots := 0, locals := 66 })).room s m ([.ref (aT 0), .int u1] : List Value).toArray below meth c H locs 0 0 (MQ below (QQ D (fun _ : Unit => (wl [gT cA aT tI tJ tP tO tR] ++ gQ L qI qJ)) R A) ([.ref (aT 0), .int u1] : List Value).toArray s 0 0 A) (F0 m 77 ls []) := by
    intro x2 rc14 hr14 x4 x5 H locs ls h hP hD hS hl
    unfold f_X0_firstFailing_b77 at h
    refine lv_aload hx hb dX0_firstFailing_77 (lv_at hl 3 rfl) ?_
    refine lv_astore_n (lv' := [(3, .ref x5), (0, .ref (aT 0)), (2, .int x2), (4, .int x4), (5, .ref x5)]) hx hb dX0_firstFailing_79 rfl hl (by decide) rfl (fun ls hl => ?_)
    exact b80 _ _ hr14 _ _ _ _ _ h hP hD hS (lv_sub hl [1, 2, 0, 3] rfl)
  have b54 : ∀ (x2 : Int32) (rc14 : ((Option Nat) × Int32) → Option (Option Nat × Unit)) (hr14 : ∀ (x3 : Option Nat) (x4 : Int32) (H : Heap) (locs : List Loc) (ls : Array Slot), rc14 (x3, x4) = some R → va_P D vwCl (wl [gT cA aT tI tJ tP tO tR] ++ gQ L qI qJ) H → va_D A (wl [gT cA aT tI tJ tP tO tR] ++ gQ L qI qJ) → va_S A s.heap H locs → lv_has ls 7 [(0, .ref (aT 0)), (2, .int x2), (3, va_rf x3), (4, .int x4)] → W p l e (headSpec (wsU yX0_firstFailing cX0_firstFailing 7 (some (.object "SymbolBench$Path"))) ({ frames := 3, cells := 0, slots := 0, locals := 66 })).room s m ([.ref (aT 0), .int u1] : List Value).toArray below meth c H locs 0 0 (MQ below (QQ D (fun _ : Unit => (wl [gT cA aT tI tJ tP tO tR] ++ gQ L qI qJ)) R A) ([.ref (aT 0), .int u1] : List Value).toArray s 0 0 A) (F0 m 14 ls [])) (x3 : Option Nat) (x4 : Int32) (x5 : Nat) (y0 : Int32) (H : Heap) (locs : List Loc) (ls : Array Slot), f_X0_firstFailing_b54 n L rc14 x2 x3 x4 x5 y0 tI tJ tP qI = some R → va_P D vwCl (wl [gT cA aT tI tJ tP tO tR] ++ gQ L qI qJ) H → va_D A (wl [gT cA aT tI tJ tP tO tR] ++ gQ L qI qJ) → va_S A s.heap H locs → lv_has ls 7 [(0, .ref (aT 0)), (2, .int x2), (3, va_rf x3), (4, .int x4), (5, .ref x5)] → W p l e (headSpec (wsU yX0_firstFailing cX0_firstFailing 7 (some (.object "SymbolBench$Path"))) ({ frames := 3, cells := 0, slots := 0, locals := 66 })).room s m ([.ref (aT 0), .int u1] : List Value).toArray below meth c H locs 0 0 (MQ below (QQ D (fun _ : Unit => (wl [gT cA aT tI tJ tP tO tR] ++ gQ L qI qJ)) R A) ([.ref (aT 0), .int u1] : List Value).toArray s 0 0 A) (F0 m 54 ls [.int y0]) := by
    intro x2 rc14 hr14 x3 x4 x5 y0 H locs ls h hP hD hS hl
    unfold f_X0_firstFailing_b54 at h
    cases x3 with
    | none =>
      have hl : lv_has ls 7 [(0, .ref (aT 0)), (2, .int x2), (3, .null), (4, .int x4), (5, .ref x5)] := hl
      refine lv_istore (lv' := [(6, .int y0), (0, .ref (aT 0)), (2, .int x2), (3, .null), (4, .int x4), (5, .ref x5)]) hx hb dX0_firstFailing_54 hl (by decide) rfl (fun ls hl => ?_)
      refine lv_iload hx hb dX0_firstFailing_56 (lv_at hl 0 rfl) ?_
      refine lv_if_eq (tgt := 80) hx hb dX0_firstFailing_58 (by decide) (fun c1 => ?_) (fun c1 => ?_)
      · replace h := og_pos c1 h
        exact b80 _ _ hr14 _ _ _ _ _ h hP hD hS (lv_sub hl [1, 2, 3, 4] rfl)
      · replace h := og_neg c1 h
        refine lv_aload_nN hx hb dX0_firstFailing_61 rfl (lv_at hl 3 rfl) ?_
        refine lv_ifnullN (tgt := 77) hx hb dX0_firstFailing_62 (by decide) ?_
        exact b77 _ _ hr14 _ _ _ _ _ h hP hD hS (lv_sub hl [1, 2, 4, 5] rfl)
    | some a3 =>
      have hl : lv_has ls 7 [(0, .ref (aT 0)), (2, .int x2), (3, .ref a3), (4, .int x4), (5, .ref x5)] := hl
      refine lv_istore (lv' := [(6, .int y0), (0, .ref (aT 0)), (2, .int x2), (3, .ref a3), (4, .int x4), (5, .ref x5)]) hx hb dX0_firstFailing_54 hl (by decide) rfl (fun ls hl => ?_)
      refine lv_iload hx hb dX0_firstFailing_56 (lv_at hl 0 rfl) ?_
      refine lv_if_eq (tgt := 80) hx hb dX0_firstFailing_58 (by decide) (fun c2 => ?_) (fun c2 => ?_)
      · replace h := og_pos c2 h
        exact b80 _ _ hr14 _ _ _ _ _ h hP hD hS (lv_sub hl [1, 2, 3, 4] rfl)
      · replace h := og_neg c2 h
        refine lv_aload_n hx hb dX0_firstFailing_61 rfl (lv_at hl 3 rfl) ?_
        refine lv_ifnull hx hb dX0_firstFailing_62 ?_
        refine lv_aload hx hb dX0_firstFailing_65 (lv_at hl 5 rfl) ?_
        obtain ⟨m3, h⟩ := og_guard h
        obtain ⟨kq4, hkq4⟩ := va_pl_get (X := (wl [gT cA aT tI tJ tP tO tR])) (f := fQ qI qJ) m3
        refine va_getN (D := D) (C := RX2) (T := TX2) (N := 7) hx hb hT inlX2 hown hK.1 hP kq4 hkq4 rfl 4 (by decide) (va_Nw.use rfl (hN _ nl_RX0_95)) (fun _ h9 => h9) rfl dX0_firstFailing_67 ?_
        refine lv_aload_n hx hb dX0_firstFailing_70 rfl (lv_at hl 3 rfl) ?_
        obtain ⟨m5, h⟩ := og_guard h
        obtain ⟨kq6, hkq6⟩ := va_pl_get (X := (wl [gT cA aT tI tJ tP tO tR])) (f := fQ qI qJ) m5
        refine va_getN (D := D) (C := RX2) (T := TX2) (N := 7) hx hb hT inlX2 hown hK.1 hP kq6 hkq6 rfl 4 (by decide) (va_Nw.use rfl (hN _ nl_RX0_95)) (fun _ h9 => h9) rfl dX0_firstFailing_71 ?_
        refine lv_icmp_ge (tgt := 80) hx hb dX0_firstFailing_74 (by decide) (fun c7 => ?_) (fun c7 => ?_)
        · replace h := og_pos c7 h
          exact b80 _ _ hr14 _ _ _ _ _ h hP hD hS (lv_sub hl [1, 2, 3, 4] rfl)
        · replace h := og_neg c7 h
          exact b77 _ _ hr14 _ _ _ _ _ h hP hD hS (lv_sub hl [1, 2, 4, 5] rfl)
  have b53 : ∀ (x2 : Int32) (rc14 : ((Option Nat) × Int32) → Option (Option Nat × Unit)) (hr14 : ∀ (x3 : Option Nat) (x4 : Int32) (H : Heap) (locs : List Loc) (ls : Array Slot), rc14 (x3, x4) = some R → va_P D vwCl (wl [gT cA aT tI tJ tP tO tR] ++ gQ L qI qJ) H → va_D A (wl [gT cA aT tI tJ tP tO tR] ++ gQ L qI qJ) → va_S A s.heap H locs → lv_has ls 7 [(0, .ref (aT 0)), (2, .int x2), (3, va_rf x3), (4, .int x4)] → W p l e (headSpec (wsU yX0_firstFailing cX0_firstFailing 7 (some (.object "SymbolBench$Path"))) ({ frames := 3, cells := 0, slots := 0, locals := 66 })).room s m ([.ref (aT 0), .int u1] : List Value).toArray below meth c H locs 0 0 (MQ below (QQ D (fun _ : Unit => (wl [gT cA aT tI tJ tP tO tR] ++ gQ L qI qJ)) R A) ([.ref (aT 0), .int u1] : List Value).toArray s 0 0 A) (F0 m 14 ls [])) (x3 : Option Nat) (x4 : Int32) (x5 : Nat) (H : Heap) (locs : List Loc) (ls : Array Slot), f_X0_firstFailing_b53 n L rc14 x2 x3 x4 x5 tI tJ tP qI = some R → va_P D vwCl (wl [gT cA aT tI tJ tP tO tR] ++ gQ L qI qJ) H → va_D A (wl [gT cA aT tI tJ tP tO tR] ++ gQ L qI qJ) → va_S A s.heap H locs → lv_has ls 7 [(0, .ref (aT 0)), (2, .int x2), (3, va_rf x3), (4, .int x4), (5, .ref x5)] → W p l e (headSpec (wsU yX0_firstFailing cX0_firstFailing 7 (some (.object "SymbolBench$Path"))) ({ frames := 3, cells := 0, slots := 0, locals := 66 })).room s m ([.ref (aT 0), .int u1] : List Value).toArray below meth c H locs 0 0 (MQ below (QQ D (fun _ : Unit => (wl [gT cA aT tI tJ tP tO tR] ++ gQ L qI qJ)) R A) ([.ref (aT 0), .int u1] : List Value).toArray s 0 0 A) (F0 m 53 ls []) := by
    intro x2 rc14 hr14 x3 x4 x5 H locs ls h hP hD hS hl
    unfold f_X0_firstFailing_b53 at h
    cases x3 with
    | none =>
      have hl : lv_has ls 7 [(0, .ref (aT 0)), (2, .int x2), (3, .null), (4, .int x4), (5, .ref x5)] := hl
      refine lv_iconst (v := (0 : Int32)) hx hb dX0_firstFailing_53 (by decide) ?_
      exact b54 _ _ hr14 _ _ _ _ _ _ _ h hP hD hS (lv_sub hl [0, 1, 2, 3, 4] rfl)
    | some a3 =>
      have hl : lv_has ls 7 [(0, .ref (aT 0)), (2, .int x2), (3, .ref a3), (4, .int x4), (5, .ref x5)] := hl
      refine lv_iconst (v := (0 : Int32)) hx hb dX0_firstFailing_53 (by decide) ?_
      exact b54 _ _ hr14 _ _ _ _ _ _ _ h hP hD hS (lv_sub hl [0, 1, 2, 3, 4] rfl)
  have b14 : ∀ (x2 : Int32) (nn : Nat), ∀ (x3 : Option Nat) (x4 : Int32) (H : Heap) (locs : List Loc) (ls : Array Slot), lp (f_X0_firstFailing_l14 n L x2 tI tJ tP qI) nn (x3, x4) = some R → va_P D vwCl (wl [gT cA aT tI tJ tP tO tR] ++ gQ L qI qJ) H → va_D A (wl [gT cA aT tI tJ tP tO tR] ++ gQ L qI qJ) → va_S A s.heap H locs → lv_has ls 7 [(0, .ref (aT 0)), (2, .int x2), (3, va_rf x3), (4, .int x4)] → W p l e (headSpec (wsU yX0_firstFailing cX0_firstFailing 7 (some (.object "SymbolBench$Path"))) ({ frames := 3, cells := 0, slots := 0, locals := 66 })).room s m ([.ref (aT 0), .int u1] : List Value).toArray below meth c H locs 0 0 (MQ below (QQ D (fun _ : Unit => (wl [gT cA aT tI tJ tP tO tR] ++ gQ L qI qJ)) R A) ([.ref (aT 0), .int u1] : List Value).toArray s 0 0 A) (F0 m 14 ls []) := by
    intro x2 nn
    induction nn with
    | zero =>
      intro x3 x4 H locs ls h hP hD hS hl
      exact (lp_zero h).elim
    | succ nn hr14 =>
      intro x3 x4 H locs ls h hP hD hS hl
      rw [lp_succ] at h
      unfold f_X0_firstFailing_l14 at h
      try dsimp only at h
      cases x3 with
      | none =>
        have hl : lv_has ls 7 [(0, .ref (aT 0)), (2, .int x2), (3, .null), (4, .int x4)] := hl
        refine lv_iload hx hb dX0_firstFailing_14 (lv_at hl 3 rfl) ?_
        refine lv_aload_n hx hb dX0_firstFailing_16 rfl (lv_at hl 0 rfl) ?_
        refine va_get (D := D) (C := RX0) (T := TX0) (N := 6) hx hb hT inlX0 hown hK.1 hP 0 rfl rfl 3 (by decide) (hT _ fl_RX0_26) (fun _ h9 => h9) rfl dX0_firstFailing_17 ?_
        refine lv_icmp_ge (tgt := 86) hx hb dX0_firstFailing_20 (by decide) (fun c8 => ?_) (fun c8 => ?_)
        · replace h := og_pos c8 h
          refine lv_aload_nN hx hb dX0_firstFailing_86 rfl (lv_at hl 2 rfl) ?_
          exact W.aret (v := .null) hx hb hr (Or.inl ⟨_, rfl⟩) (Or.inl rfl) (fun t ht hW => ⟨⟨none, (), rfl, ⟨(congrArg Prod.fst (og_inj h)).symm, (congrArg Prod.snd (og_inj h)).symm⟩, (by rw [ht]; exact hP), hD⟩, hS.F ht⟩) hS.2.2 dX0_firstFailing_87
        · replace h := og_neg c8 h
          refine lv_aload_n hx hb dX0_firstFailing_23 rfl (lv_at hl 0 rfl) ?_
          refine va_get (D := D) (C := RX0) (T := TX0) (N := 6) hx hb hT inlX0 hown hK.1 hP 0 rfl rfl 0 (by decide) (hT _ fl_RX0_11) (fun _ h9 => h9) rfl dX0_firstFailing_24 ?_
          refine lv_iload hx hb dX0_firstFailing_27 (lv_at hl 3 rfl) ?_
          obtain ⟨g9, h⟩ := og_guard h
          refine va_aldq hx hb hK.1 hP 1 3 rfl rfl (inb_vp g9) dX0_firstFailing_29 ?_
          obtain ⟨a10, e11, h⟩ := og_bind h
          obtain ⟨m12, h⟩ := og_guard h
          refine gr_some e11 ?_
          refine lv_astore (lv' := [(5, .ref a10), (0, .ref (aT 0)), (2, .int x2), (3, .null), (4, .int x4)]) hx hb dX0_firstFailing_30 hl (by decide) rfl (fun ls hl => ?_)
          refine lv_aload hx hb dX0_firstFailing_32 (lv_at hl 0 rfl) ?_
          obtain ⟨kq13, hkq13⟩ := va_pl_get (X := (wl [gT cA aT tI tJ tP tO tR])) (f := fQ qI qJ) m12
          refine va_getN (D := D) (C := RX2) (T := TX2) (N := 7) hx hb hT inlX2 hown hK.1 hP kq13 hkq13 rfl 2 (by decide) (va_Nw.use rfl (hN _ nl_RX0_114)) (fun _ h9 => h9) rfl dX0_firstFailing_34 ?_
          refine lv_if_eq (tgt := 53) hx hb dX0_firstFailing_37 (by decide) (fun c14 => ?_) (fun c14 => ?_)
          · replace h := og_pos c14 h
            exact b53 _ _ hr14 _ _ _ _ _ _ h hP hD hS (lv_sub hl [1, 2, 3, 4, 0] rfl)
          · replace h := og_neg c14 h
            refine lv_aload hx hb dX0_firstFailing_40 (lv_at hl 0 rfl) ?_
            obtain ⟨kq15, hkq15⟩ := va_pl_get (X := (wl [gT cA aT tI tJ tP tO tR])) (f := fQ qI qJ) m12
            refine va_getN (D := D) (C := RX2) (T := TX2) (N := 7) hx hb hT inlX2 hown hK.1 hP kq15 hkq15 rfl 3 (by decide) (va_Nw.use rfl (hN _ nl_RX0_115)) (fun _ h9 => h9) rfl dX0_firstFailing_42 ?_
            refine lv_iload_n hx hb dX0_firstFailing_45 rfl (lv_at hl 2 rfl) ?_
            refine lv_icmp_ne (tgt := 53) hx hb dX0_firstFailing_46 (by decide) (fun c16 => ?_) (fun c16 => ?_)
            · replace h := og_neg c16 h
              exact b53 _ _ hr14 _ _ _ _ _ _ h hP hD hS (lv_sub hl [1, 2, 3, 4, 0] rfl)
            · replace h := og_pos c16 h
              refine lv_iconst (v := (1 : Int32)) hx hb dX0_firstFailing_49 (by decide) ?_
              refine lv_goto (tgt := 54) hx hb dX0_firstFailing_50 (by decide) ?_
              exact b54 _ _ hr14 _ _ _ _ _ _ _ h hP hD hS (lv_sub hl [1, 2, 3, 4, 0] rfl)
      | some a3 =>
        have hl : lv_has ls 7 [(0, .ref (aT 0)), (2, .int x2), (3, .ref a3), (4, .int x4)] := hl
        refine lv_iload hx hb dX0_firstFailing_14 (lv_at hl 3 rfl) ?_
        refine lv_aload_n hx hb dX0_firstFailing_16 rfl (lv_at hl 0 rfl) ?_
        refine va_get (D := D) (C := RX0) (T := TX0) (N := 6) hx hb hT inlX0 hown hK.1 hP 0 rfl rfl 3 (by decide) (hT _ fl_RX0_26) (fun _ h9 => h9) rfl dX0_firstFailing_17 ?_
        refine lv_icmp_ge (tgt := 86) hx hb dX0_firstFailing_20 (by decide) (fun c17 => ?_) (fun c17 => ?_)
        · replace h := og_pos c17 h
          refine lv_aload_n hx hb dX0_firstFailing_86 rfl (lv_at hl 2 rfl) ?_
          exact W.aret (v := .ref a3) hx hb hr (Or.inl ⟨_, rfl⟩) (Or.inr ⟨_, rfl⟩) (fun t ht hW => ⟨⟨(some a3), (), rfl, ⟨(congrArg Prod.fst (og_inj h)).symm, (congrArg Prod.snd (og_inj h)).symm⟩, (by rw [ht]; exact hP), hD⟩, hS.F ht⟩) hS.2.2 dX0_firstFailing_87
        · replace h := og_neg c17 h
          refine lv_aload_n hx hb dX0_firstFailing_23 rfl (lv_at hl 0 rfl) ?_
          refine va_get (D := D) (C := RX0) (T := TX0) (N := 6) hx hb hT inlX0 hown hK.1 hP 0 rfl rfl 0 (by decide) (hT _ fl_RX0_11) (fun _ h9 => h9) rfl dX0_firstFailing_24 ?_
          refine lv_iload hx hb dX0_firstFailing_27 (lv_at hl 3 rfl) ?_
          obtain ⟨g18, h⟩ := og_guard h
          refine va_aldq hx hb hK.1 hP 1 3 rfl rfl (inb_vp g18) dX0_firstFailing_29 ?_
          obtain ⟨a19, e20, h⟩ := og_bind h
          obtain ⟨m21, h⟩ := og_guard h
          refine gr_some e20 ?_
          refine lv_astore (lv' := [(5, .ref a19), (0, .ref (aT 0)), (2, .int x2), (3, .ref a3), (4, .int x4)]) hx hb dX0_firstFailing_30 hl (by decide) rfl (fun ls hl => ?_)
          refine lv_aload hx hb dX0_firstFailing_32 (lv_at hl 0 rfl) ?_
          obtain ⟨kq22, hkq22⟩ := va_pl_get (X := (wl [gT cA aT tI tJ tP tO tR])) (f := fQ qI qJ) m21
          refine va_getN (D := D) (C := RX2) (T := TX2) (N := 7) hx hb hT inlX2 hown hK.1 hP kq22 hkq22 rfl 2 (by decide) (va_Nw.use rfl (hN _ nl_RX0_114)) (fun _ h9 => h9) rfl dX0_firstFailing_34 ?_
          refine lv_if_eq (tgt := 53) hx hb dX0_firstFailing_37 (by decide) (fun c23 => ?_) (fun c23 => ?_)
          · replace h := og_pos c23 h
            exact b53 _ _ hr14 _ _ _ _ _ _ h hP hD hS (lv_sub hl [1, 2, 3, 4, 0] rfl)
          · replace h := og_neg c23 h
            refine lv_aload hx hb dX0_firstFailing_40 (lv_at hl 0 rfl) ?_
            obtain ⟨kq24, hkq24⟩ := va_pl_get (X := (wl [gT cA aT tI tJ tP tO tR])) (f := fQ qI qJ) m21
            refine va_getN (D := D) (C := RX2) (T := TX2) (N := 7) hx hb hT inlX2 hown hK.1 hP kq24 hkq24 rfl 3 (by decide) (va_Nw.use rfl (hN _ nl_RX0_115)) (fun _ h9 => h9) rfl dX0_firstFailing_42 ?_
            refine lv_iload_n hx hb dX0_firstFailing_45 rfl (lv_at hl 2 rfl) ?_
            refine lv_icmp_ne (tgt := 53) hx hb dX0_firstFailing_46 (by decide) (fun c25 => ?_) (fun c25 => ?_)
            · replace h := og_neg c25 h
              exact b53 _ _ hr14 _ _ _ _ _ _ h hP hD hS (lv_sub hl [1, 2, 3, 4, 0] rfl)
            · replace h := og_pos c25 h
              refine lv_iconst (v := (1 : Int32)) hx hb dX0_firstFailing_49 (by decide) ?_
              refine lv_goto (tgt := 54) hx hb dX0_firstFailing_50 (by decide) ?_
              exact b54 _ _ hr14 _ _ _ _ _ _ _ h hP hD hS (lv_sub hl [1, 2, 3, 4, 0] rfl)
  unfold f_X0_firstFailing at h
  refine lv_aload_n hx hb dX0_firstFailing_0 rfl (lv_at hl 0 rfl) ?_
  refine va_get (D := D) (C := RX0) (T := TX0) (N := 6) hx hb hT inlX0 hown hK.1 hP 0 rfl rfl 5 (by decide) (hT _ fl_RX0_34) (fun _ h9 => h9) rfl dX0_firstFailing_1 ?_
  refine lv_iload_n hx hb dX0_firstFailing_4 rfl (lv_at hl 1 rfl) ?_
  obtain ⟨⟨r26, _u26⟩, e26, h⟩ := og_bind h
  try dsimp only at h
  refine gc_i (ws := (wl [gT cA aT tI tJ tP tO tR] ++ gQ L qI qJ)) (wc := (wl ([] : List va_W))) (wr := (wl [gT cA aT tI tJ tP tO tR] ++ gQ L qI qJ)) (ws' := (wl [gT cA aT tI tJ tP tO tR] ++ gQ L qI qJ)) (va_runSN (host := RX4) (As := [.long (tJ 1), .int u1]) (rest := []) ⟨hx, hb, hml, hown, hT⟩ (k_X4_placeOfMark l D cA  s.heap.size n (tJ 1) u1  _ e26) ⟨va_cnB 2 hT (gw cd_yX4_placeOfMark_cX4_placeOfMark) rfl rfl rfl (hN _ nl_RX0_110) (hT _ ini_RX4) (by decide +kernel) ⟨Nat.le_of_ble_eq_true rfl, Nat.le_of_ble_eq_true rfl⟩, hT _ sc_yX4_placeOfMark, trivial⟩ (pre_S (wr := (wl [gT cA aT tI tJ tP tO tR] ++ gQ L qI qJ)) (pmC (f := fun i => ([gT cA aT tI tJ tP tO tR] : List va_W).getD i []) [0] [] [0] (by decide)) hK hP hD) rfl rfl hl.1 rfl (lv_room (Nat.le_of_ble_eq_true rfl)) dX0_firstFailing_5 ⟨Nat.le_refl _, Nat.le_refl _⟩) (pmC (f := fun i => ([gT cA aT tI tJ tP tO tR] : List va_W).getD i []) [0] [] [0] (by decide)) hP hD hS hA (pmC (f := fun i => ([gT cA aT tI tJ tP tO tR] : List va_W).getD i []) [0] [] [0] (by decide)) (fun H locs hP hD hS => ?_)
  refine lv_istore_n (lv' := [(2, .int r26), (0, .ref (aT 0)), (1, .int u1)]) hx hb dX0_firstFailing_8 rfl hl (by decide) rfl (fun ls hl => ?_)
  refine lv_null hx hb dX0_firstFailing_9 ?_
  refine lv_astore_nN (lv' := [(3, .null), (2, .int r26), (0, .ref (aT 0)), (1, .int u1)]) hx hb dX0_firstFailing_10 rfl hl (by decide) rfl (fun ls hl => ?_)
  refine lv_iconst (v := (0 : Int32)) hx hb dX0_firstFailing_11 (by decide) ?_
  refine lv_istore (lv' := [(4, .int (0 : Int32)), (3, .null), (2, .int r26), (0, .ref (aT 0)), (1, .int u1)]) hx hb dX0_firstFailing_12 hl (by decide) rfl (fun ls hl => ?_)
  exact b14  _ n _ _ _ _ _ h hP hD hS (lv_sub hl [3, 2, 1, 0] rfl)
set_option maxRecDepth 100000 in
set_option maxHeartbeats 8000000 in
theorem k_X0_enter (l : Launch) (D : va_G) (cA : Nat → ClassId) (aT : Nat → Nat) (aM : Nat → Nat) (L : List Nat) (sz : Nat) (n : Nat) (u2 : Int32) (tI : Nat → Int32) (tJ : Nat → Int64) (tP : Nat → Option Nat) (tO : Nat → Int64) (tR : Nat → Int32) (mI : Nat → Int32) (mJ : Nat → Int64) (mA : Nat → Nat → Int32) (qI : Nat → Nat → Int32) (qJ : Nat → Nat → Int64) (R : Int32 × (Nat → Int32) × (Nat → Int64) × (Nat → Option Nat) × (Nat → Int64) × (Nat → Int32) × (Nat → Nat → Int32) × (Nat → Nat → Int64)) (h : f_X0_enter n L u2 tI tJ tP tO tR mI mJ qI qJ = some R) : Met l yX0_enter (wsU yX0_enter cX0_enter 4 (some .boolean)) ({ frames := 1, cells := 0, slots := 0, locals := 23 }) (PcW D cA (wl [gT cA aT tI tJ tP tO tR, gM cA aM mI mJ mA] ++ gQ L qI qJ) sz [.ref (aT 0), .ref (aM 0), .int u2]) (QI D (fun u : (Nat → Int32) × (Nat → Int64) × (Nat → Option Nat) × (Nat → Int64) × (Nat → Int32) × (Nat → Nat → Int32) × (Nat → Nat → Int64) => (wl [gT cA aT u.1 u.2.1 u.2.2.1 u.2.2.2.1 u.2.2.2.2.1, gM cA aM mI mJ mA] ++ gQ L u.2.2.2.2.2.1 u.2.2.2.2.2.2)) R (va_A (wl [gT cA aT tI tJ tP tO tR, gM cA aM mI mJ mA] ++ gQ L qI qJ) sz)) 0 0 (va_A (wl [gT cA aT tI tJ tP tO tR, gM cA aM mI mJ mA] ++ gQ L qI qJ) sz) := by
  refine Met.ofW (cc := cX0_enter) (maxL := 4) (ret := (some .boolean)) (by decide) rfl ?_
  intro p e s m args below meth c s₁ B hml hv
  obtain ⟨rfl, hsz, hP, hK, hD0⟩ := hv
  have hx := B.exec
  have hb := B.bytes
  have hr := B.returns
  have hts := atoms_spec (ws := (wsU yX0_enter cX0_enter 4 (some .boolean))) B.pre
  have hT : ∀ w ∈ wsL_law, w.before ([.ref (aT 0), .ref (aM 0), .int u2] : List Value).toArray s = true := fun w h => hts w (List.mem_cons_of_mem _ h)
  have hown : s.vm.findClass RX0 = some m.cls := findClass_of_methodNamed B.named
  have hlocks := B.notSynchronized
  have hN := hK.2
  subst hsz
  have hD := hD0.self (sz := s.heap.size)
  generalize hAe : va_A (wl [gT cA aT tI tJ tP tO tR, gM cA aM mI mJ mA] ++ gQ L qI qJ) s.heap.size = A at hD ⊢
  have hA : ∀ q : Nat, s.heap.size ≤ q → A q := fun q h => by rw [← hAe]; exact Or.inr h
  have hS : va_S A s.heap s.heap [] := va_S.rf
  have hl := lv_entry ([.ref (aT 0), .ref (aM 0), .int u2]) (n := 4) (Nat.le_of_ble_eq_true rfl)
  rw [lg_entry_eq]
  generalize (lg_sl ([.ref (aT 0), .ref (aM 0), .int u2]) ++ List.replicate (4 - (lg_sl ([.ref (aT 0), .ref (aM 0), .int u2])).length) Slot.unset).toArray = ls at hl ⊢
  have hl : lv_has ls 4 [(0, .ref (aT 0)), (1, .ref (aM 0)), (2, .int u2)] := hl
  have b136 : ∀ (x2 : Int32) (tI : Nat → Int32) (tJ : Nat → Int64) (tP : Nat → Option Nat) (tO : Nat → Int64) (tR : Nat → Int32) (qI : Nat → Nat → Int32) (qJ : Nat → Nat → Int64) (H : Heap) (locs : List Loc) (ls : Array Slot), f_X0_enter_b136 n L x2 tI tJ tP tO tR mI mJ qI qJ = some R → va_P D vwCl (wl [gT cA aT tI tJ tP tO tR, gM cA aM mI mJ mA] ++ gQ L qI qJ) H → va_D A (wl [gT cA aT tI tJ tP tO tR, gM cA aM mI mJ mA] ++ gQ L qI qJ) → va_S A s.heap H locs → lv_has ls 4 [(0, .ref (aT 0)), (1, .ref (aM 0)), (2, .int x2)] → W p l e (headSpec (wsU yX0_enter cX0_enter 4 (some .boolean)) ({ frames := 1, cells := 0, slots := 0, locals := 23 })).room s m ([.ref (aT 0), .ref (aM 0), .int u2] : List Value).toArray below meth c H locs 0 0 (MQ below (QI D (fun u : (Nat → Int32) × (Nat → Int64) × (Nat → Option Nat) × (Nat → Int64) × (Nat → Int32) × (Nat → Nat → Int32) × (Nat → Nat → Int64) => (wl [gT cA aT u.1 u.2.1 u.2.2.1 u.2.2.2.1 u.2.2.2.2.1, gM cA aM mI mJ mA] ++ gQ L u.2.2.2.2.2.1 u.2.2.2.2.2.2)) R A) ([.ref (aT 0), .ref (aM 0), .int u2] : List Value).toArray s 0 0 A) (F0 m 136 ls []) := by
    intro x2 tI tJ tP tO tR qI qJ H locs ls h hP hD hS hl
    unfold f_X0_enter_b136 at h
    refine lv_aload_n hx hb dX0_enter_136 rfl (lv_at hl 0 rfl) ?_
    refine va_get (D := D) (C := RX0) (T := TX0) (N := 6) hx hb hT inlX0 hown hK.1 hP 0 rfl rfl 1 (by decide) (hT _ fl_RX0_17) (fun _ h9 => h9) rfl dX0_enter_137 ?_
    refine lv_iload_n hx hb dX0_enter_140 rfl (lv_at hl 2 rfl) ?_
    refine lv_aload_n hx hb dX0_enter_141 rfl (lv_at hl 1 rfl) ?_
    refine va_getN (D := D) (C := RX1) (T := TX1) (N := 12) hx hb hT inlX1 hown hK.1 hP 4 rfl rfl 8 (by decide) (va_Nw.use rfl (hN _ nl_RX0_60)) (fun _ h9 => h9) rfl dX0_enter_142 ?_
    obtain ⟨g1, h⟩ := og_guard h
    refine va_last hx hb hK.1 hP hD hS 2 2 rfl rfl (inb_vp g1) dX0_enter_145 (fun H locs hP hD hS => ?_)
    have hP : va_P D vwCl (wl [gT cA aT tI tJ tP (vp_updL tO x2.toNatClampNeg (mJ 4)) tR, gM cA aM mI mJ mA] ++ gQ L qI qJ) H := hP
    have hD : va_D A (wl [gT cA aT tI tJ tP (vp_updL tO x2.toNatClampNeg (mJ 4)) tR, gM cA aM mI mJ mA] ++ gQ L qI qJ) := hD
    refine lv_aload_n hx hb dX0_enter_146 rfl (lv_at hl 0 rfl) ?_
    refine va_get (D := D) (C := RX0) (T := TX0) (N := 6) hx hb hT inlX0 hown hK.1 hP 0 rfl rfl 2 (by decide) (hT _ fl_RX0_21) (fun _ h9 => h9) rfl dX0_enter_147 ?_
    refine lv_iload_n hx hb dX0_enter_150 rfl (lv_at hl 2 rfl) ?_
    refine lv_aload_n hx hb dX0_enter_151 rfl (lv_at hl 1 rfl) ?_
    refine va_getN (D := D) (C := RX1) (T := TX1) (N := 12) hx hb hT inlX1 hown hK.1 hP 4 rfl rfl 11 (by decide) (va_Nw.use rfl (hN _ nl_RX0_75)) (fun _ h9 => h9) rfl dX0_enter_152 ?_
    obtain ⟨g2, h⟩ := og_guard h
    refine va_iast hx hb hK.1 hP hD hS 3 0 rfl rfl (inb_vp g2) dX0_enter_155 (fun H locs hP hD hS => ?_)
    have hP : va_P D vwCl (wl [gT cA aT tI tJ tP (vp_updL tO x2.toNatClampNeg (mJ 4)) (upd tR x2.toNatClampNeg (mI 4)), gM cA aM mI mJ mA] ++ gQ L qI qJ) H := hP
    have hD : va_D A (wl [gT cA aT tI tJ tP (vp_updL tO x2.toNatClampNeg (mJ 4)) (upd tR x2.toNatClampNeg (mI 4)), gM cA aM mI mJ mA] ++ gQ L qI qJ) := hD
    refine lv_iconst (v := (1 : Int32)) hx hb dX0_enter_156 (by decide) ?_
    exact W.zret (v := (1 : Int32)) hx hb hr (by decide +kernel) (fun t ht hW => ⟨⟨(1 : Int32), (tI, tJ, tP, (vp_updL tO x2.toNatClampNeg (mJ 4)), (upd tR x2.toNatClampNeg (mI 4)), qI, qJ), rfl, ⟨(congrArg Prod.fst (og_inj h)).symm, (congrArg Prod.snd (og_inj h)).symm⟩, (by rw [ht]; exact hP), hD⟩, hS.F ht⟩) hS.2.2 dX0_enter_157
  have b127 : ∀ (x2 : Int32) (y1 : Int64) (y2 : Int64) (tI : Nat → Int32) (tJ : Nat → Int64) (tP : Nat → Option Nat) (tO : Nat → Int64) (tR : Nat → Int32) (qI : Nat → Nat → Int32) (qJ : Nat → Nat → Int64) (H : Heap) (locs : List Loc) (ls : Array Slot), f_X0_enter_b127 n L x2 y1 y2 tI tJ tP tO tR mI mJ qI qJ = some R → va_P D vwCl (wl [gT cA aT tI tJ tP tO tR, gM cA aM mI mJ mA] ++ gQ L qI qJ) H → va_D A (wl [gT cA aT tI tJ tP tO tR, gM cA aM mI mJ mA] ++ gQ L qI qJ) → va_S A s.heap H locs → lv_has ls 4 [(0, .ref (aT 0)), (1, .ref (aM 0)), (2, .int x2)] → W p l e (headSpec (wsU yX0_enter cX0_enter 4 (some .boolean)) ({ frames := 1, cells := 0, slots := 0, locals := 23 })).room s m ([.ref (aT 0), .ref (aM 0), .int u2] : List Value).toArray below meth c H locs 0 0 (MQ below (QI D (fun u : (Nat → Int32) × (Nat → Int64) × (Nat → Option Nat) × (Nat → Int64) × (Nat → Int32) × (Nat → Nat → Int32) × (Nat → Nat → Int64) => (wl [gT cA aT u.1 u.2.1 u.2.2.1 u.2.2.2.1 u.2.2.2.2.1, gM cA aM mI mJ mA] ++ gQ L u.2.2.2.2.2.1 u.2.2.2.2.2.2)) R A) ([.ref (aT 0), .ref (aM 0), .int u2] : List Value).toArray s 0 0 A) (F0 m 127 ls [.long y2, .long y1, .ref (aT 0)]) := by
    intro x2 y1 y2 tI tJ tP tO tR qI qJ H locs ls h hP hD hS hl
    unfold f_X0_enter_b127 at h
    refine lv_lor hx hb dX0_enter_127 ?_
    refine va_put (D := D) (v := .long (y1 ||| y2)) (ty := .long) (C := RX0) (T := TX0) (N := 6) hx hb hT inlX0 tyX0 tyX0_ok nmX0 hown hK.1 hP hD hS 0 rfl rfl 5 (by decide) (hT _ fl_RX0_34) (fun _ h9 => h9) rfl (by decide +kernel) rfl rfl (Nat.le_of_ble_eq_true rfl) dX0_enter_128 (fun H locs hP hD hS => ?_)
    have hP : va_P D vwCl (wl [gT cA aT tI (vp_updL tJ 1 (y1 ||| y2)) tP tO tR, gM cA aM mI mJ mA] ++ gQ L qI qJ) H := hP
    have hD : va_D A (wl [gT cA aT tI (vp_updL tJ 1 (y1 ||| y2)) tP tO tR, gM cA aM mI mJ mA] ++ gQ L qI qJ) := hD
    refine lv_goto (tgt := 136) hx hb dX0_enter_131 (by decide) ?_
    exact b136  _ _ _ _ _ _ _ _ _ _ _ h hP hD hS (lv_sub hl [0, 1, 2] rfl)
  have b72 : ∀ (x2 : Int32) (x3 : Int32) (tI : Nat → Int32) (tJ : Nat → Int64) (tP : Nat → Option Nat) (tO : Nat → Int64) (tR : Nat → Int32) (qI : Nat → Nat → Int32) (qJ : Nat → Nat → Int64) (H : Heap) (locs : List Loc) (ls : Array Slot), f_X0_enter_b72 n L x2 x3 tI tJ tP tO tR mI mJ qI qJ = some R → va_P D vwCl (wl [gT cA aT tI tJ tP tO tR, gM cA aM mI mJ mA] ++ gQ L qI qJ) H → va_D A (wl [gT cA aT tI tJ tP tO tR, gM cA aM mI mJ mA] ++ gQ L qI qJ) → va_S A s.heap H locs → lv_has ls 4 [(0, .ref (aT 0)), (1, .ref (aM 0)), (2, .int x2), (3, .int x3)] → W p l e (headSpec (wsU yX0_enter cX0_enter 4 (some .boolean)) ({ frames := 1, cells := 0, slots := 0, locals := 23 })).room s m ([.ref (aT 0), .ref (aM 0), .int u2] : List Value).toArray below meth c H locs 0 0 (MQ below (QI D (fun u : (Nat → Int32) × (Nat → Int64) × (Nat → Option Nat) × (Nat → Int64) × (Nat → Int32) × (Nat → Nat → Int32) × (Nat → Nat → Int64) => (wl [gT cA aT u.1 u.2.1 u.2.2.1 u.2.2.2.1 u.2.2.2.2.1, gM cA aM mI mJ mA] ++ gQ L u.2.2.2.2.2.1 u.2.2.2.2.2.2)) R A) ([.ref (aT 0), .ref (aM 0), .int u2] : List Value).toArray s 0 0 A) (F0 m 72 ls []) := by
    intro x2 x3 tI tJ tP tO tR qI qJ H locs ls h hP hD hS hl
    unfold f_X0_enter_b72 at h
    refine lv_aload_n hx hb dX0_enter_72 rfl (lv_at hl 0 rfl) ?_
    refine va_get (D := D) (C := RX0) (T := TX0) (N := 6) hx hb hT inlX0 hown hK.1 hP 0 rfl rfl 3 (by decide) (hT _ fl_RX0_26) (fun _ h9 => h9) rfl dX0_enter_73 ?_
    refine lv_bipush (v := (40 : Int32)) hx hb dX0_enter_76 (by decide) ?_
    refine lv_icmp_ge (tgt := 134) hx hb dX0_enter_78 (by decide) (fun c3 => ?_) (fun c3 => ?_)
    · replace h := og_pos c3 h
      refine lv_iconst (v := (0 : Int32)) hx hb dX0_enter_134 (by decide) ?_
      exact W.zret (v := (0 : Int32)) hx hb hr (by decide +kernel) (fun t ht hW => ⟨⟨(0 : Int32), (tI, tJ, tP, tO, tR, qI, qJ), rfl, ⟨(congrArg Prod.fst (og_inj h)).symm, (congrArg Prod.snd (og_inj h)).symm⟩, (by rw [ht]; exact hP), hD⟩, hS.F ht⟩) hS.2.2 dX0_enter_135
    · replace h := og_neg c3 h
      refine lv_aload_n hx hb dX0_enter_81 rfl (lv_at hl 0 rfl) ?_
      refine lv_iload_n hx hb dX0_enter_82 rfl (lv_at hl 3 rfl) ?_
      obtain ⟨⟨r4, tI4, tP4⟩, e4, h⟩ := og_bind h
      try dsimp only at h
      refine gc_q (ws := (wl [gT cA aT tI tJ tP tO tR, gM cA aM mI mJ mA] ++ gQ L qI qJ)) (wc := (wl [gT cA aT tI tJ tP tO tR] ++ gQ L qI qJ)) (wr := (wl [gM cA aM mI mJ mA])) (ws' := (wl [gT cA aT tI4 tJ tP4 tO tR, gM cA aM mI mJ mA] ++ gQ L qI qJ)) (va_runV (As := [.int x3]) (rest := []) ⟨hx, hb, hml, hown, hT⟩ (k_X0_insertAt l D cA aT L H.size n x3 tI tJ tP tO tR qI qJ _ e4) (cwV 1 hT gv_RX0_76 rfl rfl rfl (by decide +kernel) ⟨Nat.le_of_ble_eq_true rfl, Nat.le_of_ble_eq_true rfl⟩) (pre_V (ci := 0) (q0 := 0) (wr := (wl [gM cA aM mI mJ mA])) (pmB (f := fun i => ([gT cA aT tI tJ tP tO tR, gM cA aM mI mJ mA] : List va_W).getD i []) [0, 1] [0] [1] (by decide)) hK hP hD rfl rfl) rfl rfl hl.1 rfl (lv_room (Nat.le_of_ble_eq_true rfl)) dX0_enter_83 ⟨Nat.le_refl _, Nat.le_refl _⟩) (pmB (f := fun i => ([gT cA aT tI tJ tP tO tR, gM cA aM mI mJ mA] : List va_W).getD i []) [0, 1] [0] [1] (by decide)) hP hD hS hA (pmB (f := fun i => ([gT cA aT tI4 tJ tP4 tO tR, gM cA aM mI mJ mA] : List va_W).getD i []) [0, 1] [0] [1] (by decide)) (fun H locs hP hD hS => ?_)
      cases r4 with
      | none =>
        show W p l e (headSpec (wsU yX0_enter cX0_enter 4 (some .boolean)) ({ frames := 1, cells := 0, slots := 0, locals := 23 })).room s m ([.ref (aT 0), .ref (aM 0), .int u2] : List Value).toArray below meth c H locs 0 0 (MQ below (QI D (fun u : (Nat → Int32) × (Nat → Int64) × (Nat → Option Nat) × (Nat → Int64) × (Nat → Int32) × (Nat → Nat → Int32) × (Nat → Nat → Int64) => (wl [gT cA aT u.1 u.2.1 u.2.2.1 u.2.2.2.1 u.2.2.2.2.1, gM cA aM mI mJ mA] ++ gQ L u.2.2.2.2.2.1 u.2.2.2.2.2.2)) R A) ([.ref (aT 0), .ref (aM 0), .int u2] : List Value).toArray s 0 0 A) (F0 m 86 ls [.null])
        refine lv_aload_n hx hb dX0_enter_86 rfl (lv_at hl 1 rfl) ?_
        refine lv_iload_n hx hb dX0_enter_87 rfl (lv_at hl 2 rfl) ?_
        cases h
      | some a5 =>
        show W p l e (headSpec (wsU yX0_enter cX0_enter 4 (some .boolean)) ({ frames := 1, cells := 0, slots := 0, locals := 23 })).room s m ([.ref (aT 0), .ref (aM 0), .int u2] : List Value).toArray below meth c H locs 0 0 (MQ below (QI D (fun u : (Nat → Int32) × (Nat → Int64) × (Nat → Option Nat) × (Nat → Int64) × (Nat → Int32) × (Nat → Nat → Int32) × (Nat → Nat → Int64) => (wl [gT cA aT u.1 u.2.1 u.2.2.1 u.2.2.2.1 u.2.2.2.2.1, gM cA aM mI mJ mA] ++ gQ L u.2.2.2.2.2.1 u.2.2.2.2.2.2)) R A) ([.ref (aT 0), .ref (aM 0), .int u2] : List Value).toArray s 0 0 A) (F0 m 86 ls [.ref a5])
        refine lv_aload_n hx hb dX0_enter_86 rfl (lv_at hl 1 rfl) ?_
        refine lv_iload_n hx hb dX0_enter_87 rfl (lv_at hl 2 rfl) ?_
        obtain ⟨m6, h⟩ := og_guard h
        obtain ⟨⟨qI7, qJ7⟩, e7, h⟩ := og_bind h
        try dsimp only at h
        obtain ⟨kq8, hkq8⟩ := va_pl_get (X := wl [gM cA aM mI mJ mA]) (f := fQ qI qJ) m6
        refine gc_v (ws := (wl [gT cA aT tI4 tJ tP4 tO tR, gM cA aM mI mJ mA] ++ gQ L qI qJ)) (wc := (wl [gM cA aM mI mJ mA] ++ gQ L qI qJ)) (wr := (wl [gT cA aT tI4 tJ tP4 tO tR])) (ws' := (wl [gT cA aT tI4 tJ tP4 tO tR, gM cA aM mI mJ mA] ++ gQ L qI7 qJ7)) (va_runV (As := [.ref (aM 0), .int x2]) (rest := []) ⟨hx, hb, hml, hown, hT⟩ (k_X2_take l D cA aM L H.size a5 x2 mI mJ mA qI qJ _ e7) (cwV 2 hT gv_RX0_80 rfl rfl rfl (by decide +kernel) ⟨Nat.le_of_ble_eq_true rfl, Nat.le_of_ble_eq_true rfl⟩) (pre_V (ci := 2) (q0 := kq8) (wr := (wl [gT cA aT tI4 tJ tP4 tO tR])) (pmB (f := fun i => ([gT cA aT tI4 tJ tP4 tO tR, gM cA aM mI mJ mA] : List va_W).getD i []) [0, 1] [1] [0] (by decide)) hK hP hD rfl hkq8) rfl rfl hl.1 rfl (lv_room (Nat.le_of_ble_eq_true rfl)) dX0_enter_88 ⟨Nat.le_refl _, Nat.le_refl _⟩) (pmB (f := fun i => ([gT cA aT tI4 tJ tP4 tO tR, gM cA aM mI mJ mA] : List va_W).getD i []) [0, 1] [1] [0] (by decide)) hP hD hS hA (pmB (f := fun i => ([gT cA aT tI4 tJ tP4 tO tR, gM cA aM mI mJ mA] : List va_W).getD i []) [0, 1] [1] [0] (by decide)) (fun H locs hP hD hS => ?_)
        refine lv_aload_n hx hb dX0_enter_91 rfl (lv_at hl 0 rfl) ?_
        refine lv_dup hx hb dX0_enter_92 rfl ?_
        refine va_get (D := D) (C := RX0) (T := TX0) (N := 6) hx hb hT inlX0 hown hK.1 hP 0 rfl rfl 4 (by decide) (hT _ fl_RX0_30) (fun _ h9 => h9) rfl dX0_enter_93 ?_
        refine lv_aload_n hx hb dX0_enter_96 rfl (lv_at hl 1 rfl) ?_
        refine va_getN (D := D) (C := RX1) (T := TX1) (N := 12) hx hb hT inlX1 hown hK.1 hP 4 rfl rfl 6 (by decide) (va_Nw.use rfl (hN _ nl_RX0_84)) (fun _ h9 => h9) rfl dX0_enter_97 ?_
        refine lv_lor hx hb dX0_enter_100 ?_
        refine va_put (D := D) (v := .long ((tJ 0) ||| (mJ 2))) (ty := .long) (C := RX0) (T := TX0) (N := 6) hx hb hT inlX0 tyX0 tyX0_ok nmX0 hown hK.1 hP hD hS 0 rfl rfl 4 (by decide) (hT _ fl_RX0_30) (fun _ h9 => h9) rfl (by decide +kernel) rfl rfl (Nat.le_of_ble_eq_true rfl) dX0_enter_101 (fun H locs hP hD hS => ?_)
        have hP : va_P D vwCl (wl [gT cA aT tI4 (vp_updL tJ 0 ((tJ 0) ||| (mJ 2))) tP4 tO tR, gM cA aM mI mJ mA] ++ gQ L qI7 qJ7) H := hP
        have hD : va_D A (wl [gT cA aT tI4 (vp_updL tJ 0 ((tJ 0) ||| (mJ 2))) tP4 tO tR, gM cA aM mI mJ mA] ++ gQ L qI7 qJ7) := hD
        refine lv_aload_n hx hb dX0_enter_104 rfl (lv_at hl 0 rfl) ?_
        refine lv_dup hx hb dX0_enter_105 rfl ?_
        refine va_get (D := D) (C := RX0) (T := TX0) (N := 6) hx hb hT inlX0 hown hK.1 hP 0 rfl rfl 5 (by decide) (hT _ fl_RX0_34) (fun _ h9 => h9) rfl dX0_enter_106 ?_
        refine lv_aload_n hx hb dX0_enter_109 rfl (lv_at hl 1 rfl) ?_
        refine va_getN (D := D) (C := RX1) (T := TX1) (N := 12) hx hb hT inlX1 hown hK.1 hP 4 rfl rfl 10 (by decide) (va_Nw.use rfl (hN _ nl_RX0_85)) (fun _ h9 => h9) rfl dX0_enter_110 ?_
        refine lv_if_ne (tgt := 120) hx hb dX0_enter_113 (by decide) (fun c9 => ?_) (fun c9 => ?_)
        · replace h := og_neg c9 h
          refine lv_aload_n hx hb dX0_enter_120 rfl (lv_at hl 1 rfl) ?_
          refine va_getN (D := D) (C := RX1) (T := TX1) (N := 12) hx hb hT inlX1 hown hK.1 hP 4 rfl rfl 4 (by decide) (va_Nw.use rfl (hN _ nl_RX0_88)) (fun _ h9 => h9) rfl dX0_enter_121 ?_
          obtain ⟨⟨r10, _u10⟩, e10, h⟩ := og_bind h
          try dsimp only at h
          refine gc_l (ws := (wl [gT cA aT tI4 (vp_updL tJ 0 ((tJ 0) ||| (mJ 2))) tP4 tO tR, gM cA aM mI mJ mA] ++ gQ L qI7 qJ7)) (wc := (wl ([] : List va_W))) (wr := (wl [gT cA aT tI4 (vp_updL tJ 0 ((tJ 0) ||| (mJ 2))) tP4 tO tR, gM cA aM mI mJ mA] ++ gQ L qI7 qJ7)) (ws' := (wl [gT cA aT tI4 (vp_updL tJ 0 ((tJ 0) ||| (mJ 2))) tP4 tO tR, gM cA aM mI mJ mA] ++ gQ L qI7 qJ7)) (va_runSN (host := RX4) (As := [.int (mI 1)]) (rest := [.long ((vp_updL tJ 0 ((tJ 0) ||| (mJ 2))) 1), .ref (aT 0)]) ⟨hx, hb, hml, hown, hT⟩ (k_X4_mark l D cA  H.size (mI 1)  _ e10) ⟨va_cnB 1 hT (gw cd_yX4_mark_cX4_mark) rfl rfl rfl (hN _ nl_RX0_91) (hT _ ini_RX4) (by decide +kernel) ⟨Nat.le_of_ble_eq_true rfl, Nat.le_of_ble_eq_true rfl⟩, hT _ sc_yX4_mark, trivial⟩ (pre_S (wr := (wl [gT cA aT tI4 (vp_updL tJ 0 ((tJ 0) ||| (mJ 2))) tP4 tO tR, gM cA aM mI mJ mA] ++ gQ L qI7 qJ7)) (pmC (f := fun i => ([gT cA aT tI4 (vp_updL tJ 0 ((tJ 0) ||| (mJ 2))) tP4 tO tR, gM cA aM mI mJ mA] : List va_W).getD i []) [0, 1] [] [0, 1] (by decide)) hK hP hD) rfl rfl hl.1 rfl (lv_room (Nat.le_of_ble_eq_true rfl)) dX0_enter_124 ⟨Nat.le_refl _, Nat.le_refl _⟩) (pmC (f := fun i => ([gT cA aT tI4 (vp_updL tJ 0 ((tJ 0) ||| (mJ 2))) tP4 tO tR, gM cA aM mI mJ mA] : List va_W).getD i []) [0, 1] [] [0, 1] (by decide)) hP hD hS hA (pmC (f := fun i => ([gT cA aT tI4 (vp_updL tJ 0 ((tJ 0) ||| (mJ 2))) tP4 tO tR, gM cA aM mI mJ mA] : List va_W).getD i []) [0, 1] [] [0, 1] (by decide)) (fun H locs hP hD hS => ?_)
          exact b127  _ _ _ _ _ _ _ _ _ _ _ _ _ h hP hD hS (lv_sub hl [0, 1, 2] rfl)
        · replace h := og_pos c9 h
          refine lv_lconst (v := (0 : Int64)) hx hb dX0_enter_116 (by decide) ?_
          refine lv_goto (tgt := 127) hx hb dX0_enter_117 (by decide) ?_
          exact b127  _ _ _ _ _ _ _ _ _ _ _ _ _ h hP hD hS (lv_sub hl [0, 1, 2] rfl)
  have b65 : ∀ (x2 : Int32) (y0 : Nat) (y1 : Int32) (y2 : Int32) (tI : Nat → Int32) (tJ : Nat → Int64) (tP : Nat → Option Nat) (tO : Nat → Int64) (tR : Nat → Int32) (qI : Nat → Nat → Int32) (qJ : Nat → Nat → Int64) (H : Heap) (locs : List Loc) (ls : Array Slot), f_X0_enter_b65 n L x2 y0 y1 y2 tI tJ tP tO tR mI mJ qI qJ = some R → va_P D vwCl (wl [gT cA aT tI tJ tP tO tR, gM cA aM mI mJ mA] ++ gQ L qI qJ) H → va_D A (wl [gT cA aT tI tJ tP tO tR, gM cA aM mI mJ mA] ++ gQ L qI qJ) → va_S A s.heap H locs → lv_has ls 4 [(0, .ref (aT 0)), (1, .ref (aM 0)), (2, .int x2)] → W p l e (headSpec (wsU yX0_enter cX0_enter 4 (some .boolean)) ({ frames := 1, cells := 0, slots := 0, locals := 23 })).room s m ([.ref (aT 0), .ref (aM 0), .int u2] : List Value).toArray below meth c H locs 0 0 (MQ below (QI D (fun u : (Nat → Int32) × (Nat → Int64) × (Nat → Option Nat) × (Nat → Int64) × (Nat → Int32) × (Nat → Nat → Int32) × (Nat → Nat → Int64) => (wl [gT cA aT u.1 u.2.1 u.2.2.1 u.2.2.2.1 u.2.2.2.2.1, gM cA aM mI mJ mA] ++ gQ L u.2.2.2.2.2.1 u.2.2.2.2.2.2)) R A) ([.ref (aT 0), .ref (aM 0), .int u2] : List Value).toArray s 0 0 A) (F0 m 65 ls [.int y2, .int y1, .ref y0]) := by
    intro x2 y0 y1 y2 tI tJ tP tO tR qI qJ H locs ls h hP hD hS hl
    unfold f_X0_enter_b65 at h
    refine lv_iand hx hb dX0_enter_65 ?_
    obtain ⟨g11, h⟩ := og_guard h
    obtain ⟨m12, h⟩ := og_guard h
    obtain ⟨kq13, hkq13⟩ := va_pl_get (X := (wl [gT cA aT tI tJ tP tO tR, gM cA aM mI mJ mA])) (f := fQ qI qJ) m12
    refine va_putN (D := D) (v := .int (y1 &&& y2)) (ty := .boolean) (C := RX2) (T := TX2) (N := 7) hx hb hT inlX2 tyX2 tyX2_ok nmX2 hown hK.1 hP hD hS kq13 hkq13 rfl 6 (by decide) (va_Nw.use rfl (hN _ nl_RX0_68)) (fun _ h9 => h9) rfl (by decide +kernel) (bo_nar g11) (bo_fit g11) (Nat.le_of_ble_eq_true rfl) dX0_enter_66 (fun H locs hP1 hD1 hS => ?_)
    have hP := pq_P (e := .inr (2, [.long (qJ y0 0), .long (qJ y0 1), .int (qI y0 0), .int (qI y0 1), .int (qI y0 2), .int (qI y0 3), .int (y1 &&& y2)])) hD m12 hkq13 fQ_up6 hP1
    have hD := pq_D (e := .inr (2, [.long (qJ y0 0), .long (qJ y0 1), .int (qI y0 0), .int (qI y0 1), .int (qI y0 2), .int (qI y0 3), .int (y1 &&& y2)])) hD m12 hkq13 fQ_up6 hD1
    have hP : va_P D vwCl (wl [gT cA aT tI tJ tP tO tR, gM cA aM mI mJ mA] ++ gQ L (up2 qI y0 4 (y1 &&& y2)) qJ) H := hP
    have hD : va_D A (wl [gT cA aT tI tJ tP tO tR, gM cA aM mI mJ mA] ++ gQ L (up2 qI y0 4 (y1 &&& y2)) qJ) := hD
    refine lv_goto (tgt := 136) hx hb dX0_enter_69 (by decide) ?_
    exact b136  _ _ _ _ _ _ _ _ _ _ _ h hP hD hS (lv_sub hl [0, 1, 2] rfl)
  unfold f_X0_enter at h
  refine lv_aload_n hx hb dX0_enter_0 rfl (lv_at hl 0 rfl) ?_
  refine lv_aload_n hx hb dX0_enter_1 rfl (lv_at hl 1 rfl) ?_
  refine va_getN (D := D) (C := RX1) (T := TX1) (N := 12) hx hb hT inlX1 hown hK.1 hP 4 rfl rfl 8 (by decide) (va_Nw.use rfl (hN _ nl_RX0_60)) (fun _ h9 => h9) rfl dX0_enter_2 ?_
  obtain ⟨⟨r14, _u14⟩, e14, h⟩ := og_bind h
  try dsimp only at h
  refine gc_i (ws := (wl [gT cA aT tI tJ tP tO tR, gM cA aM mI mJ mA] ++ gQ L qI qJ)) (wc := (wl [gT cA aT tI tJ tP tO tR] ++ gQ L qI qJ)) (wr := (wl [gM cA aM mI mJ mA])) (ws' := (wl [gT cA aT tI tJ tP tO tR, gM cA aM mI mJ mA] ++ gQ L qI qJ)) (va_runV (As := [.long (mJ 4)]) (rest := []) ⟨hx, hb, hml, hown, hT⟩ (k_X0_firstNotAheadOf l D cA aT L s.heap.size n (mJ 4) tI tJ tP tO tR qI qJ _ e14) (cwV 1 hT gv_RX0_63 rfl rfl rfl (by decide +kernel) ⟨Nat.le_of_ble_eq_true rfl, Nat.le_of_ble_eq_true rfl⟩) (pre_V (ci := 0) (q0 := 0) (wr := (wl [gM cA aM mI mJ mA])) (pmB (f := fun i => ([gT cA aT tI tJ tP tO tR, gM cA aM mI mJ mA] : List va_W).getD i []) [0, 1] [0] [1] (by decide)) hK hP hD rfl rfl) rfl rfl hl.1 rfl (lv_room (Nat.le_of_ble_eq_true rfl)) dX0_enter_5 ⟨Nat.le_refl _, Nat.le_refl _⟩) (pmB (f := fun i => ([gT cA aT tI tJ tP tO tR, gM cA aM mI mJ mA] : List va_W).getD i []) [0, 1] [0] [1] (by decide)) hP hD hS hA (pmB (f := fun i => ([gT cA aT tI tJ tP tO tR, gM cA aM mI mJ mA] : List va_W).getD i []) [0, 1] [0] [1] (by decide)) (fun H locs hP hD hS => ?_)
  refine lv_istore_n (lv' := [(3, .int r14), (0, .ref (aT 0)), (1, .ref (aM 0)), (2, .int u2)]) hx hb dX0_enter_8 rfl hl (by decide) rfl (fun ls hl => ?_)
  refine lv_iload_n hx hb dX0_enter_9 rfl (lv_at hl 0 rfl) ?_
  refine lv_aload_n hx hb dX0_enter_10 rfl (lv_at hl 1 rfl) ?_
  refine va_get (D := D) (C := RX0) (T := TX0) (N := 6) hx hb hT inlX0 hown hK.1 hP 0 rfl rfl 3 (by decide) (hT _ fl_RX0_26) (fun _ h9 => h9) rfl dX0_enter_11 ?_
  refine lv_icmp_ge (tgt := 72) hx hb dX0_enter_14 (by decide) (fun c15 => ?_) (fun c15 => ?_)
  · replace h := og_pos c15 h
    exact b72  _ _ _ _ _ _ _ _ _ _ _ _ h hP hD hS (lv_sub hl [1, 2, 3, 0] rfl)
  · replace h := og_neg c15 h
    refine lv_aload_n hx hb dX0_enter_17 rfl (lv_at hl 1 rfl) ?_
    refine va_get (D := D) (C := RX0) (T := TX0) (N := 6) hx hb hT inlX0 hown hK.1 hP 0 rfl rfl 0 (by decide) (hT _ fl_RX0_11) (fun _ h9 => h9) rfl dX0_enter_18 ?_
    refine lv_iload_n hx hb dX0_enter_21 rfl (lv_at hl 0 rfl) ?_
    obtain ⟨g16, h⟩ := og_guard h
    refine va_aldq hx hb hK.1 hP 1 3 rfl rfl (inb_vp g16) dX0_enter_22 ?_
    obtain ⟨a17, e18, h⟩ := og_bind h
    obtain ⟨m19, h⟩ := og_guard h
    refine gr_some e18 ?_
    obtain ⟨kq20, hkq20⟩ := va_pl_get (X := (wl [gT cA aT tI tJ tP tO tR, gM cA aM mI mJ mA])) (f := fQ qI qJ) m19
    refine va_getN (D := D) (C := RX2) (T := TX2) (N := 7) hx hb hT inlX2 hown hK.1 hP kq20 hkq20 rfl 1 (by decide) (va_Nw.use rfl (hN _ nl_RX0_67)) (fun _ h9 => h9) rfl dX0_enter_23 ?_
    refine lv_aload_n hx hb dX0_enter_26 rfl (lv_at hl 2 rfl) ?_
    refine va_getN (D := D) (C := RX1) (T := TX1) (N := 12) hx hb hT inlX1 hown hK.1 hP 4 rfl rfl 8 (by decide) (va_Nw.use rfl (hN _ nl_RX0_60)) (fun _ h9 => h9) rfl dX0_enter_27 ?_
    refine W.lcmp hx hb dX0_enter_30 ?_
    refine lv_if_ne (tgt := 72) hx hb dX0_enter_31 (by decide) (fun c21 => ?_) (fun c21 => ?_)
    · replace h := og_neg c21 h
      exact b72  _ _ _ _ _ _ _ _ _ _ _ _ h hP hD hS (lv_sub hl [1, 2, 3, 0] rfl)
    · replace h := og_pos c21 h
      refine lv_aload_n hx hb dX0_enter_34 rfl (lv_at hl 1 rfl) ?_
      refine va_get (D := D) (C := RX0) (T := TX0) (N := 6) hx hb hT inlX0 hown hK.1 hP 0 rfl rfl 0 (by decide) (hT _ fl_RX0_11) (fun _ h9 => h9) rfl dX0_enter_35 ?_
      refine lv_iload_n hx hb dX0_enter_38 rfl (lv_at hl 0 rfl) ?_
      obtain ⟨g22, h⟩ := og_guard h
      refine va_aldq hx hb hK.1 hP 1 3 rfl rfl (inb_vp g22) dX0_enter_39 ?_
      obtain ⟨a23, e24, h⟩ := og_bind h
      obtain ⟨m25, h⟩ := og_guard h
      refine gr_some e24 ?_
      refine lv_dup hx hb dX0_enter_40 rfl ?_
      obtain ⟨kq26, hkq26⟩ := va_pl_get (X := (wl [gT cA aT tI tJ tP tO tR, gM cA aM mI mJ mA])) (f := fQ qI qJ) m25
      refine va_getN (D := D) (C := RX2) (T := TX2) (N := 7) hx hb hT inlX2 hown hK.1 hP kq26 hkq26 rfl 6 (by decide) (va_Nw.use rfl (hN _ nl_RX0_68)) (fun _ h9 => h9) rfl dX0_enter_41 ?_
      refine lv_aload_n hx hb dX0_enter_44 rfl (lv_at hl 1 rfl) ?_
      refine va_get (D := D) (C := RX0) (T := TX0) (N := 6) hx hb hT inlX0 hown hK.1 hP 0 rfl rfl 0 (by decide) (hT _ fl_RX0_11) (fun _ h9 => h9) rfl dX0_enter_45 ?_
      refine lv_iload_n hx hb dX0_enter_48 rfl (lv_at hl 0 rfl) ?_
      obtain ⟨g27, h⟩ := og_guard h
      refine va_aldq hx hb hK.1 hP 1 3 rfl rfl (inb_vp g27) dX0_enter_49 ?_
      obtain ⟨a28, e29, h⟩ := og_bind h
      obtain ⟨m30, h⟩ := og_guard h
      refine gr_some e29 ?_
      obtain ⟨kq31, hkq31⟩ := va_pl_get (X := (wl [gT cA aT tI tJ tP tO tR, gM cA aM mI mJ mA])) (f := fQ qI qJ) m30
      refine va_getN (D := D) (C := RX2) (T := TX2) (N := 7) hx hb hT inlX2 hown hK.1 hP kq31 hkq31 rfl 5 (by decide) (va_Nw.use rfl (hN _ nl_RX0_72)) (fun _ h9 => h9) rfl dX0_enter_50 ?_
      refine lv_aload_n hx hb dX0_enter_53 rfl (lv_at hl 2 rfl) ?_
      refine va_getN (D := D) (C := RX1) (T := TX1) (N := 12) hx hb hT inlX1 hown hK.1 hP 4 rfl rfl 11 (by decide) (va_Nw.use rfl (hN _ nl_RX0_75)) (fun _ h9 => h9) rfl dX0_enter_54 ?_
      refine lv_icmp_ne (tgt := 64) hx hb dX0_enter_57 (by decide) (fun c32 => ?_) (fun c32 => ?_)
      · replace h := og_neg c32 h
        refine lv_iconst (v := (0 : Int32)) hx hb dX0_enter_64 (by decide) ?_
        exact b65  _ _ _ _ _ _ _ _ _ _ _ _ _ _ h hP hD hS (lv_sub hl [1, 2, 3] rfl)
      · replace h := og_pos c32 h
        refine lv_iconst (v := (1 : Int32)) hx hb dX0_enter_60 (by decide) ?_
        refine lv_goto (tgt := 65) hx hb dX0_enter_61 (by decide) ?_
        exact b65  _ _ _ _ _ _ _ _ _ _ _ _ _ _ h hP hD hS (lv_sub hl [1, 2, 3] rfl)
set_option maxRecDepth 100000 in
set_option maxHeartbeats 8000000 in
theorem k_X0_survey (l : Launch) (D : va_G) (cA : Nat → ClassId) (aP : Nat → Nat) (aT : Nat → Nat) (aM : Nat → Nat) (L : List Nat) (sz : Nat) (n : Nat) (pI : Nat → Int32) (pA : Nat → Nat → Int32) (tI : Nat → Int32) (tJ : Nat → Int64) (tP : Nat → Option Nat) (tO : Nat → Int64) (tR : Nat → Int32) (mI : Nat → Int32) (mJ : Nat → Int64) (mA : Nat → Nat → Int32) (qI : Nat → Nat → Int32) (qJ : Nat → Nat → Int64) (R : (Nat → Int32) × (Nat → Int64) × (Nat → Option Nat) × (Nat → Int64) × (Nat → Int32) × (Nat → Int32) × (Nat → Int64) × (Nat → Nat → Int32) × (Nat → Nat → Int32) × (Nat → Nat → Int64)) (h : f_X0_survey n L pI pA tI tJ tP tO tR mI mJ mA qI qJ = some R) : Met l yX0_survey (wsU yX0_survey cX0_survey 5 none) ({ frames := 5, cells := 0, slots := 0, locals := 117 }) (PcW D cA (wl [gP cA aP pI pA, gT cA aT tI tJ tP tO tR, gM cA aM mI mJ mA] ++ gQ L qI qJ) sz [.ref (aT 0), .ref (aP 0), .ref (aM 0)]) (QV D (fun u : (Nat → Int32) × (Nat → Int64) × (Nat → Option Nat) × (Nat → Int64) × (Nat → Int32) × (Nat → Int32) × (Nat → Int64) × (Nat → Nat → Int32) × (Nat → Nat → Int32) × (Nat → Nat → Int64) => (wl [gP cA aP pI pA, gT cA aT u.1 u.2.1 u.2.2.1 u.2.2.2.1 u.2.2.2.2.1, gM cA aM u.2.2.2.2.2.1 u.2.2.2.2.2.2.1 u.2.2.2.2.2.2.2.1] ++ gQ L u.2.2.2.2.2.2.2.2.1 u.2.2.2.2.2.2.2.2.2)) R (va_A (wl [gP cA aP pI pA, gT cA aT tI tJ tP tO tR, gM cA aM mI mJ mA] ++ gQ L qI qJ) sz)) 0 0 (va_A (wl [gP cA aP pI pA, gT cA aT tI tJ tP tO tR, gM cA aM mI mJ mA] ++ gQ L qI qJ) sz) := by
  refine Met.ofW (cc := cX0_survey) (maxL := 5) (ret := none) (by decide) rfl ?_
  intro p e s m args below meth c s₁ B hml hv
  obtain ⟨rfl, hsz, hP, hK, hD0⟩ := hv
  have hx := B.exec
  have hb := B.bytes
  have hr := B.returns
  have hts := atoms_spec (ws := (wsU yX0_survey cX0_survey 5 none)) B.pre
  have hT : ∀ w ∈ wsL_law, w.before ([.ref (aT 0), .ref (aP 0), .ref (aM 0)] : List Value).toArray s = true := fun w h => hts w (List.mem_cons_of_mem _ h)
  have hown : s.vm.findClass RX0 = some m.cls := findClass_of_methodNamed B.named
  have hlocks := B.notSynchronized
  have hN := hK.2
  subst hsz
  have hD := hD0.self (sz := s.heap.size)
  generalize hAe : va_A (wl [gP cA aP pI pA, gT cA aT tI tJ tP tO tR, gM cA aM mI mJ mA] ++ gQ L qI qJ) s.heap.size = A at hD ⊢
  have hA : ∀ q : Nat, s.heap.size ≤ q → A q := fun q h => by rw [← hAe]; exact Or.inr h
  have hS : va_S A s.heap s.heap [] := va_S.rf
  have hl := lv_entry ([.ref (aT 0), .ref (aP 0), .ref (aM 0)]) (n := 5) (Nat.le_of_ble_eq_true rfl)
  rw [lg_entry_eq]
  generalize (lg_sl ([.ref (aT 0), .ref (aP 0), .ref (aM 0)]) ++ List.replicate (5 - (lg_sl ([.ref (aT 0), .ref (aP 0), .ref (aM 0)])).length) Slot.unset).toArray = ls at hl ⊢
  have hl : lv_has ls 5 [(0, .ref (aT 0)), (1, .ref (aP 0)), (2, .ref (aM 0))] := hl
  have b36 : ∀ (tI : Nat → Int32) (tJ : Nat → Int64) (tP : Nat → Option Nat) (tO : Nat → Int64) (tR : Nat → Int32) (mI : Nat → Int32) (mJ : Nat → Int64) (mA : Nat → Nat → Int32) (qI : Nat → Nat → Int32) (qJ : Nat → Nat → Int64) (H : Heap) (locs : List Loc) (ls : Array Slot), f_X0_survey_b36 n L pI pA tI tJ tP tO tR mI mJ mA qI qJ = some R → va_P D vwCl (wl [gP cA aP pI pA, gT cA aT tI tJ tP tO tR, gM cA aM mI mJ mA] ++ gQ L qI qJ) H → va_D A (wl [gP cA aP pI pA, gT cA aT tI tJ tP tO tR, gM cA aM mI mJ mA] ++ gQ L qI qJ) → va_S A s.heap H locs → lv_has ls 5 [(0, .ref (aT 0))] → W p l e (headSpec (wsU yX0_survey cX0_survey 5 none) ({ frames := 5, cells := 0, slots := 0, locals := 117 })).room s m ([.ref (aT 0), .ref (aP 0), .ref (aM 0)] : List Value).toArray below meth c H locs 0 0 (MQ below (QV D (fun u : (Nat → Int32) × (Nat → Int64) × (Nat → Option Nat) × (Nat → Int64) × (Nat → Int32) × (Nat → Int32) × (Nat → Int64) × (Nat → Nat → Int32) × (Nat → Nat → Int32) × (Nat → Nat → Int64) => (wl [gP cA aP pI pA, gT cA aT u.1 u.2.1 u.2.2.1 u.2.2.2.1 u.2.2.2.2.1, gM cA aM u.2.2.2.2.2.1 u.2.2.2.2.2.2.1 u.2.2.2.2.2.2.2.1] ++ gQ L u.2.2.2.2.2.2.2.2.1 u.2.2.2.2.2.2.2.2.2)) R A) ([.ref (aT 0), .ref (aP 0), .ref (aM 0)] : List Value).toArray s 0 0 A) (F0 m 36 ls []) := by
    intro tI tJ tP tO tR mI mJ mA qI qJ H locs ls h hP hD hS hl
    unfold f_X0_survey_b36 at h
    refine lv_aload_n hx hb dX0_survey_36 rfl (lv_at hl 0 rfl) ?_
    obtain ⟨⟨tI1, tJ1⟩, e1, h⟩ := og_bind h
    try dsimp only at h
    refine gc_v (ws := (wl [gP cA aP pI pA, gT cA aT tI tJ tP tO tR, gM cA aM mI mJ mA] ++ gQ L qI qJ)) (wc := (wl [gT cA aT tI tJ tP tO tR])) (wr := (wl [gP cA aP pI pA, gM cA aM mI mJ mA] ++ gQ L qI qJ)) (ws' := (wl [gP cA aP pI pA, gT cA aT tI1 tJ1 tP tO tR, gM cA aM mI mJ mA] ++ gQ L qI qJ)) (va_runV (As := []) (rest := []) ⟨hx, hb, hml, hown, hT⟩ (k_X0_forget l D cA aT H.size  tI tJ tP tO tR _ e1) (cwV 0 hT gv_RX0_41 rfl rfl rfl (by decide +kernel) ⟨Nat.le_of_ble_eq_true rfl, Nat.le_of_ble_eq_true rfl⟩) (pre_V (ci := 0) (q0 := 0) (wr := (wl [gP cA aP pI pA, gM cA aM mI mJ mA] ++ gQ L qI qJ)) (pmC (f := fun i => ([gP cA aP pI pA, gT cA aT tI tJ tP tO tR, gM cA aM mI mJ mA] : List va_W).getD i []) [0, 1, 2] [1] [0, 2] (by decide)) hK hP hD rfl rfl) rfl rfl hl.1 rfl (lv_room (Nat.le_of_ble_eq_true rfl)) dX0_survey_37 ⟨Nat.le_refl _, Nat.le_refl _⟩) (pmC (f := fun i => ([gP cA aP pI pA, gT cA aT tI tJ tP tO tR, gM cA aM mI mJ mA] : List va_W).getD i []) [0, 1, 2] [1] [0, 2] (by decide)) hP hD hS hA (pmC (f := fun i => ([gP cA aP pI pA, gT cA aT tI1 tJ1 tP tO tR, gM cA aM mI mJ mA] : List va_W).getD i []) [0, 1, 2] [1] [0, 2] (by decide)) (fun H locs hP hD hS => ?_)
    exact W.vret hx hb hr (fun t ht hW => ⟨⟨(tI1, tJ1, tP, tO, tR, mI, mJ, mA, qI, qJ), rfl, (og_inj h).symm, (by rw [ht]; exact hP), hD⟩, hS.F ht⟩) hS.2.2 dX0_survey_40
  have b12 : ∀ (x3 : Int32) (nn : Nat), ∀ (x4 : Int32) (tI : Nat → Int32) (tJ : Nat → Int64) (tP : Nat → Option Nat) (tO : Nat → Int64) (tR : Nat → Int32) (mI : Nat → Int32) (mJ : Nat → Int64) (mA : Nat → Nat → Int32) (qI : Nat → Nat → Int32) (qJ : Nat → Nat → Int64) (H : Heap) (locs : List Loc) (ls : Array Slot), lp (f_X0_survey_l12 n L x3 pI pA) nn (x4, tI, tJ, tP, tO, tR, mI, mJ, mA, qI, qJ) = some R → va_P D vwCl (wl [gP cA aP pI pA, gT cA aT tI tJ tP tO tR, gM cA aM mI mJ mA] ++ gQ L qI qJ) H → va_D A (wl [gP cA aP pI pA, gT cA aT tI tJ tP tO tR, gM cA aM mI mJ mA] ++ gQ L qI qJ) → va_S A s.heap H locs → lv_has ls 5 [(0, .ref (aT 0)), (1, .ref (aP 0)), (2, .ref (aM 0)), (3, .int x3), (4, .int x4)] → W p l e (headSpec (wsU yX0_survey cX0_survey 5 none) ({ frames := 5, cells := 0, slots := 0, locals := 117 })).room s m ([.ref (aT 0), .ref (aP 0), .ref (aM 0)] : List Value).toArray below meth c H locs 0 0 (MQ below (QV D (fun u : (Nat → Int32) × (Nat → Int64) × (Nat → Option Nat) × (Nat → Int64) × (Nat → Int32) × (Nat → Int32) × (Nat → Int64) × (Nat → Nat → Int32) × (Nat → Nat → Int32) × (Nat → Nat → Int64) => (wl [gP cA aP pI pA, gT cA aT u.1 u.2.1 u.2.2.1 u.2.2.2.1 u.2.2.2.2.1, gM cA aM u.2.2.2.2.2.1 u.2.2.2.2.2.2.1 u.2.2.2.2.2.2.2.1] ++ gQ L u.2.2.2.2.2.2.2.2.1 u.2.2.2.2.2.2.2.2.2)) R A) ([.ref (aT 0), .ref (aP 0), .ref (aM 0)] : List Value).toArray s 0 0 A) (F0 m 12 ls []) := by
    intro x3 nn
    induction nn with
    | zero =>
      intro x4 tI tJ tP tO tR mI mJ mA qI qJ H locs ls h hP hD hS hl
      exact (lp_zero h).elim
    | succ nn hr12 =>
      intro x4 tI tJ tP tO tR mI mJ mA qI qJ H locs ls h hP hD hS hl
      rw [lp_succ] at h
      unfold f_X0_survey_l12 at h
      try dsimp only at h
      refine lv_iload hx hb dX0_survey_12 (lv_at hl 4 rfl) ?_
      refine lv_iload_n hx hb dX0_survey_14 rfl (lv_at hl 3 rfl) ?_
      refine lv_icmp_ge (tgt := 47) hx hb dX0_survey_15 (by decide) (fun c2 => ?_) (fun c2 => ?_)
      · replace h := og_pos c2 h
        exact W.vret hx hb hr (fun t ht hW => ⟨⟨(tI, tJ, tP, tO, tR, mI, mJ, mA, qI, qJ), rfl, (og_inj h).symm, (by rw [ht]; exact hP), hD⟩, hS.F ht⟩) hS.2.2 dX0_survey_47
      · replace h := og_neg c2 h
        refine lv_aload_n hx hb dX0_survey_18 rfl (lv_at hl 2 rfl) ?_
        refine lv_aload_n hx hb dX0_survey_19 rfl (lv_at hl 1 rfl) ?_
        refine lv_iload hx hb dX0_survey_20 (lv_at hl 4 rfl) ?_
        refine lv_null hx hb dX0_survey_22 ?_
        obtain ⟨⟨mI3, mJ3, mA3⟩, e3, h⟩ := og_bind h
        try dsimp only at h
        refine gc_v (ws := (wl [gP cA aP pI pA, gT cA aT tI tJ tP tO tR, gM cA aM mI mJ mA] ++ gQ L qI qJ)) (wc := (wl [gP cA aP pI pA, gM cA aM mI mJ mA])) (wr := (wl [gT cA aT tI tJ tP tO tR] ++ gQ L qI qJ)) (ws' := (wl [gP cA aP pI pA, gT cA aT tI tJ tP tO tR, gM cA aM mI3 mJ3 mA3] ++ gQ L qI qJ)) (va_runV (As := [.ref (aP 0), .int x4, .null]) (rest := []) ⟨hx, hb, hml, hown, hT⟩ (k_X1_execute0 l D cA aP aM H.size n x4 pI pA mI mJ mA _ e3) (cwV 3 hT gv_RX0_50 rfl rfl rfl (by decide +kernel) ⟨Nat.le_of_ble_eq_true rfl, Nat.le_of_ble_eq_true rfl⟩) (pre_V (ci := 1) (q0 := 8) (wr := (wl [gT cA aT tI tJ tP tO tR] ++ gQ L qI qJ)) (pmC (f := fun i => ([gP cA aP pI pA, gT cA aT tI tJ tP tO tR, gM cA aM mI mJ mA] : List va_W).getD i []) [0, 1, 2] [0, 2] [1] (by decide)) hK hP hD rfl rfl) rfl rfl hl.1 rfl (lv_room (Nat.le_of_ble_eq_true rfl)) dX0_survey_23 ⟨Nat.le_refl _, Nat.le_refl _⟩) (pmC (f := fun i => ([gP cA aP pI pA, gT cA aT tI tJ tP tO tR, gM cA aM mI mJ mA] : List va_W).getD i []) [0, 1, 2] [0, 2] [1] (by decide)) hP hD hS hA (pmC (f := fun i => ([gP cA aP pI pA, gT cA aT tI tJ tP tO tR, gM cA aM mI3 mJ3 mA3] : List va_W).getD i []) [0, 1, 2] [0, 2] [1] (by decide)) (fun H locs hP hD hS => ?_)
        refine lv_aload_n hx hb dX0_survey_26 rfl (lv_at hl 0 rfl) ?_
        refine lv_aload_n hx hb dX0_survey_27 rfl (lv_at hl 2 rfl) ?_
        refine lv_iload hx hb dX0_survey_28 (lv_at hl 4 rfl) ?_
        obtain ⟨⟨r4, tI4, tJ4, tP4, tO4, tR4, qI4, qJ4⟩, e4, h⟩ := og_bind h
        try dsimp only at h
        refine gc_i (ws := (wl [gP cA aP pI pA, gT cA aT tI tJ tP tO tR, gM cA aM mI3 mJ3 mA3] ++ gQ L qI qJ)) (wc := (wl [gT cA aT tI tJ tP tO tR, gM cA aM mI3 mJ3 mA3] ++ gQ L qI qJ)) (wr := (wl [gP cA aP pI pA])) (ws' := (wl [gP cA aP pI pA, gT cA aT tI4 tJ4 tP4 tO4 tR4, gM cA aM mI3 mJ3 mA3] ++ gQ L qI4 qJ4)) (va_runV (As := [.ref (aM 0), .int x4]) (rest := []) ⟨hx, hb, hml, hown, hT⟩ (k_X0_enter l D cA aT aM L H.size n x4 tI tJ tP tO tR mI3 mJ3 mA3 qI qJ _ e4) (cwV 2 hT gv_RX0_56 rfl rfl rfl (by decide +kernel) ⟨Nat.le_of_ble_eq_true rfl, Nat.le_of_ble_eq_true rfl⟩) (pre_V (ci := 0) (q0 := 0) (wr := (wl [gP cA aP pI pA])) (pmB (f := fun i => ([gP cA aP pI pA, gT cA aT tI tJ tP tO tR, gM cA aM mI3 mJ3 mA3] : List va_W).getD i []) [0, 1, 2] [1, 2] [0] (by decide)) hK hP hD rfl rfl) rfl rfl hl.1 rfl (lv_room (Nat.le_of_ble_eq_true rfl)) dX0_survey_30 ⟨Nat.le_refl _, Nat.le_refl _⟩) (pmB (f := fun i => ([gP cA aP pI pA, gT cA aT tI tJ tP tO tR, gM cA aM mI3 mJ3 mA3] : List va_W).getD i []) [0, 1, 2] [1, 2] [0] (by decide)) hP hD hS hA (pmB (f := fun i => ([gP cA aP pI pA, gT cA aT tI4 tJ4 tP4 tO4 tR4, gM cA aM mI3 mJ3 mA3] : List va_W).getD i []) [0, 1, 2] [1, 2] [0] (by decide)) (fun H locs hP hD hS => ?_)
        refine lv_if_ne (tgt := 41) hx hb dX0_survey_33 (by decide) (fun c5 => ?_) (fun c5 => ?_)
        · replace h := og_neg c5 h
          refine lv_iinc (v := (x4 + 1)) (lv' := [(4, .int (x4 + 1)), (0, .ref (aT 0)), (1, .ref (aP 0)), (2, .ref (aM 0)), (3, .int x3)]) hx hb dX0_survey_41 hl (k := 4) rfl rfl (by decide) rfl (fun ls hl => ?_)
          refine lv_goto (tgt := 12) hx hb dX0_survey_44 (by decide) ?_
          exact hr12 _ _ _ _ _ _ _ _ _ _ _ _ _ _ h hP hD hS (lv_sub hl [1, 2, 3, 4, 0] rfl)
        · replace h := og_pos c5 h
          exact b36  _ _ _ _ _ _ _ _ _ _ _ _ _ h hP hD hS (lv_sub hl [0] rfl)
  unfold f_X0_survey at h
  refine lv_aload_n hx hb dX0_survey_0 rfl (lv_at hl 0 rfl) ?_
  obtain ⟨⟨tI6, tJ6⟩, e6, h⟩ := og_bind h
  try dsimp only at h
  refine gc_v (ws := (wl [gP cA aP pI pA, gT cA aT tI tJ tP tO tR, gM cA aM mI mJ mA] ++ gQ L qI qJ)) (wc := (wl [gT cA aT tI tJ tP tO tR])) (wr := (wl [gP cA aP pI pA, gM cA aM mI mJ mA] ++ gQ L qI qJ)) (ws' := (wl [gP cA aP pI pA, gT cA aT tI6 tJ6 tP tO tR, gM cA aM mI mJ mA] ++ gQ L qI qJ)) (va_runV (As := []) (rest := []) ⟨hx, hb, hml, hown, hT⟩ (k_X0_forget l D cA aT s.heap.size  tI tJ tP tO tR _ e6) (cwV 0 hT gv_RX0_41 rfl rfl rfl (by decide +kernel) ⟨Nat.le_of_ble_eq_true rfl, Nat.le_of_ble_eq_true rfl⟩) (pre_V (ci := 0) (q0 := 0) (wr := (wl [gP cA aP pI pA, gM cA aM mI mJ mA] ++ gQ L qI qJ)) (pmC (f := fun i => ([gP cA aP pI pA, gT cA aT tI tJ tP tO tR, gM cA aM mI mJ mA] : List va_W).getD i []) [0, 1, 2] [1] [0, 2] (by decide)) hK hP hD rfl rfl) rfl rfl hl.1 rfl (lv_room (Nat.le_of_ble_eq_true rfl)) dX0_survey_1 ⟨Nat.le_refl _, Nat.le_refl _⟩) (pmC (f := fun i => ([gP cA aP pI pA, gT cA aT tI tJ tP tO tR, gM cA aM mI mJ mA] : List va_W).getD i []) [0, 1, 2] [1] [0, 2] (by decide)) hP hD hS hA (pmC (f := fun i => ([gP cA aP pI pA, gT cA aT tI6 tJ6 tP tO tR, gM cA aM mI mJ mA] : List va_W).getD i []) [0, 1, 2] [1] [0, 2] (by decide)) (fun H locs hP hD hS => ?_)
  refine lv_aload_n hx hb dX0_survey_4 rfl (lv_at hl 1 rfl) ?_
  obtain ⟨⟨r7, _u7⟩, e7, h⟩ := og_bind h
  try dsimp only at h
  refine gc_i (ws := (wl [gP cA aP pI pA, gT cA aT tI6 tJ6 tP tO tR, gM cA aM mI mJ mA] ++ gQ L qI qJ)) (wc := (wl [gP cA aP pI pA])) (wr := (wl [gT cA aT tI6 tJ6 tP tO tR, gM cA aM mI mJ mA] ++ gQ L qI qJ)) (ws' := (wl [gP cA aP pI pA, gT cA aT tI6 tJ6 tP tO tR, gM cA aM mI mJ mA] ++ gQ L qI qJ)) (va_runV (As := []) (rest := []) ⟨hx, hb, hml, hown, hT⟩ (k_X3_words l D cA aP H.size  pI pA _ e7) (cwV 0 hT gv_RX0_44 rfl rfl rfl (by decide +kernel) ⟨Nat.le_of_ble_eq_true rfl, Nat.le_of_ble_eq_true rfl⟩) (pre_V (ci := 3) (q0 := 0) (wr := (wl [gT cA aT tI6 tJ6 tP tO tR, gM cA aM mI mJ mA] ++ gQ L qI qJ)) (pmC (f := fun i => ([gP cA aP pI pA, gT cA aT tI6 tJ6 tP tO tR, gM cA aM mI mJ mA] : List va_W).getD i []) [0, 1, 2] [0] [1, 2] (by decide)) hK hP hD rfl rfl) rfl rfl hl.1 rfl (lv_room (Nat.le_of_ble_eq_true rfl)) dX0_survey_5 ⟨Nat.le_refl _, Nat.le_refl _⟩) (pmC (f := fun i => ([gP cA aP pI pA, gT cA aT tI6 tJ6 tP tO tR, gM cA aM mI mJ mA] : List va_W).getD i []) [0, 1, 2] [0] [1, 2] (by decide)) hP hD hS hA (pmC (f := fun i => ([gP cA aP pI pA, gT cA aT tI6 tJ6 tP tO tR, gM cA aM mI mJ mA] : List va_W).getD i []) [0, 1, 2] [0] [1, 2] (by decide)) (fun H locs hP hD hS => ?_)
  refine lv_istore_n (lv' := [(3, .int r7), (0, .ref (aT 0)), (1, .ref (aP 0)), (2, .ref (aM 0))]) hx hb dX0_survey_8 rfl hl (by decide) rfl (fun ls hl => ?_)
  refine lv_iconst (v := (0 : Int32)) hx hb dX0_survey_9 (by decide) ?_
  refine lv_istore (lv' := [(4, .int (0 : Int32)), (3, .int r7), (0, .ref (aT 0)), (1, .ref (aP 0)), (2, .ref (aM 0))]) hx hb dX0_survey_10 hl (by decide) rfl (fun ls hl => ?_)
  exact b12  _ n _ _ _ _ _ _ _ _ _ _ _ _ _ _ h hP hD hS (lv_sub hl [2, 3, 4, 1, 0] rfl)
