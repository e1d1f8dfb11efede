set_option maxRecDepth 100000 in
set_option maxHeartbeats 8000000 in
theorem k_X1_stop (l : Launch) (D : va_G) (cA : Nat → ClassId) (aM : Nat → Nat) (sz : Nat) (u1 : Int32) (u2 : Int32) (mI : Nat → Int32) (mJ : Nat → Int64) (mA : Nat → Nat → Int32) (R : (Nat → Int32)) (h : f_X1_stop u1 u2 mI = some R) : Met l yX1_stop (wsU yX1_stop cX1_stop 3 none) ({ frames := 0, cells := 0, slots := 0, locals := 0 }) (PcW D cA (wl [gM cA aM mI mJ mA]) sz [.ref (aM 0), .int u1, .int u2]) (QV D (fun u : (Nat → Int32) => (wl [gM cA aM u mJ mA])) R (va_A (wl [gM cA aM mI mJ mA]) sz)) 0 0 (va_A (wl [gM cA aM mI mJ mA]) sz) := by
  refine Met.ofW (cc := cX1_stop) (maxL := 3) (ret := none) (by decide) rfl ?_
  intro p e s m args below meth c s₁ B hml hv
  obtain ⟨rfl, hsz, hP, hK, hD0⟩ := hv
  have hx := B.exec
  have hb := B.bytes
  have hr := B.returns
  have hts := atoms_spec (ws := (wsU yX1_stop cX1_stop 3 none)) B.pre
  have hT : ∀ w ∈ wsL_law, w.before ([.ref (aM 0), .int u1, .int u2] : List Value).toArray s = true := fun w h => hts w (List.mem_cons_of_mem _ h)
  have hown : s.vm.findClass RX1 = some m.cls := findClass_of_methodNamed B.named
  have hlocks := B.notSynchronized
  have hN := hK.2
  subst hsz
  have hD := hD0.self (sz := s.heap.size)
  generalize hAe : va_A (wl [gM cA aM mI mJ mA]) s.heap.size = A at hD ⊢
  have hA : ∀ q : Nat, s.heap.size ≤ q → A q := fun q h => by rw [← hAe]; exact Or.inr h
  have hS : va_S A s.heap s.heap [] := va_S.rf
  have hl := lv_entry ([.ref (aM 0), .int u1, .int u2]) (n := 3) (Nat.le_of_ble_eq_true rfl)
  rw [lg_entry_eq]
  generalize (lg_sl ([.ref (aM 0), .int u1, .int u2]) ++ List.replicate (3 - (lg_sl ([.ref (aM 0), .int u1, .int u2])).length) Slot.unset).toArray = ls at hl ⊢
  have hl : lv_has ls 3 [(0, .ref (aM 0)), (1, .int u1), (2, .int u2)] := hl
  unfold f_X1_stop at h
  refine lv_aload_n hx hb dX1_stop_0 rfl (lv_at hl 0 rfl) ?_
  refine lv_iconst (v := (1 : Int32)) hx hb dX1_stop_1 (by decide) ?_
  refine va_put (D := D) (v := .int (1 : Int32)) (ty := .boolean) (C := RX1) (T := TX1) (N := 12) hx hb hT inlX1 tyX1 tyX1_ok nmX1 hown hK.1 hP hD hS 0 rfl rfl 9 (by decide) (hT _ fl_RX1_28) (fun _ h9 => h9) rfl (by decide +kernel) (by decide +kernel) (by decide +kernel) (Nat.le_of_ble_eq_true rfl) dX1_stop_2 (fun H locs hP hD hS => ?_)
  have hP : va_P D vwCl (wl [gM cA aM (upd mI 2 (1 : Int32)) mJ mA]) H := hP
  have hD : va_D A (wl [gM cA aM (upd mI 2 (1 : Int32)) mJ mA]) := hD
  refine lv_aload_n hx hb dX1_stop_5 rfl (lv_at hl 0 rfl) ?_
  refine lv_iload_n hx hb dX1_stop_6 rfl (lv_at hl 1 rfl) ?_
  refine va_put (D := D) (v := .int u1) (ty := .int) (C := RX1) (T := TX1) (N := 12) hx hb hT inlX1 tyX1 tyX1_ok nmX1 hown hK.1 hP hD hS 0 rfl rfl 10 (by decide) (hT _ fl_RX1_75) (fun _ h9 => h9) rfl (by decide +kernel) rfl rfl (Nat.le_of_ble_eq_true rfl) dX1_stop_7 (fun H locs hP hD hS => ?_)
  have hP : va_P D vwCl (wl [gM cA aM (upd (upd mI 2 (1 : Int32)) 3 u1) mJ mA]) H := hP
  have hD : va_D A (wl [gM cA aM (upd (upd mI 2 (1 : Int32)) 3 u1) mJ mA]) := hD
  refine lv_aload_n hx hb dX1_stop_10 rfl (lv_at hl 0 rfl) ?_
  refine lv_iload_n hx hb dX1_stop_11 rfl (lv_at hl 2 rfl) ?_
  refine va_put (D := D) (v := .int u2) (ty := .int) (C := RX1) (T := TX1) (N := 12) hx hb hT inlX1 tyX1 tyX1_ok nmX1 hown hK.1 hP hD hS 0 rfl rfl 11 (by decide) (hT _ fl_RX1_78) (fun _ h9 => h9) rfl (by decide +kernel) rfl rfl (Nat.le_of_ble_eq_true rfl) dX1_stop_12 (fun H locs hP hD hS => ?_)
  have hP : va_P D vwCl (wl [gM cA aM (upd (upd (upd mI 2 (1 : Int32)) 3 u1) 4 u2) mJ mA]) H := hP
  have hD : va_D A (wl [gM cA aM (upd (upd (upd mI 2 (1 : Int32)) 3 u1) 4 u2) mJ mA]) := hD
  exact W.vret hx hb hr (fun t ht hW => ⟨⟨((upd (upd (upd mI 2 (1 : Int32)) 3 u1) 4 u2)), rfl, (og_inj h).symm, (by rw [ht]; exact hP), hD⟩, hS.F ht⟩) hS.2.2 dX1_stop_15
set_option maxRecDepth 100000 in
set_option maxHeartbeats 8000000 in
theorem k_X1_decide (l : Launch) (D : va_G) (cA : Nat → ClassId) (aM : Nat → Nat) (sz : Nat) (u1 : Int32) (mI : Nat → Int32) (mJ : Nat → Int64) (mA : Nat → Nat → Int32) (R : Int32 × (Nat → Int64)) (h : f_X1_decide u1 mI mJ = some R) : Met l yX1_decide (wsU yX1_decide cX1_decide 3 (some .boolean)) ({ frames := 0, cells := 0, slots := 0, locals := 0 }) (PcW D cA (wl [gM cA aM mI mJ mA]) sz [.ref (aM 0), .int u1]) (QI D (fun u : (Nat → Int64) => (wl [gM cA aM mI u mA])) R (va_A (wl [gM cA aM mI mJ mA]) sz)) 0 0 (va_A (wl [gM cA aM mI mJ mA]) sz) := by
  refine Met.ofW (cc := cX1_decide) (maxL := 3) (ret := (some .boolean)) (by decide) rfl ?_
  intro p e s m args below meth c s₁ B hml hv
  obtain ⟨rfl, hsz, hP, hK, hD0⟩ := hv
  have hx := B.exec
  have hb := B.bytes
  have hr := B.returns
  have hts := atoms_spec (ws := (wsU yX1_decide cX1_decide 3 (some .boolean))) B.pre
  have hT : ∀ w ∈ wsL_law, w.before ([.ref (aM 0), .int u1] : List Value).toArray s = true := fun w h => hts w (List.mem_cons_of_mem _ h)
  have hown : s.vm.findClass RX1 = some m.cls := findClass_of_methodNamed B.named
  have hlocks := B.notSynchronized
  have hN := hK.2
  subst hsz
  have hD := hD0.self (sz := s.heap.size)
  generalize hAe : va_A (wl [gM cA aM mI mJ mA]) s.heap.size = A at hD ⊢
  have hA : ∀ q : Nat, s.heap.size ≤ q → A q := fun q h => by rw [← hAe]; exact Or.inr h
  have hS : va_S A s.heap s.heap [] := va_S.rf
  have hl := lv_entry ([.ref (aM 0), .int u1]) (n := 3) (Nat.le_of_ble_eq_true rfl)
  rw [lg_entry_eq]
  generalize (lg_sl ([.ref (aM 0), .int u1]) ++ List.replicate (3 - (lg_sl ([.ref (aM 0), .int u1])).length) Slot.unset).toArray = ls at hl ⊢
  have hl : lv_has ls 3 [(0, .ref (aM 0)), (1, .int u1)] := hl
  have b30 : ∀ (y0 : Int32) (mJ : Nat → Int64) (H : Heap) (locs : List Loc) (ls : Array Slot), f_X1_decide_b30 y0 mI mJ = some R → va_P D vwCl (wl [gM cA aM mI mJ mA]) H → va_D A (wl [gM cA aM mI mJ mA]) → va_S A s.heap H locs → lv_has ls 3 [(0, .ref (aM 0))] → W p l e (headSpec (wsU yX1_decide cX1_decide 3 (some .boolean)) ({ frames := 0, cells := 0, slots := 0, locals := 0 })).room s m ([.ref (aM 0), .int u1] : List Value).toArray below meth c H locs 0 0 (MQ below (QI D (fun u : (Nat → Int64) => (wl [gM cA aM mI u mA])) R A) ([.ref (aM 0), .int u1] : List Value).toArray s 0 0 A) (F0 m 30 ls [.int y0]) := by
    intro y0 mJ H locs ls h hP hD hS hl
    unfold f_X1_decide_b30 at h
    refine lv_istore_n (lv' := [(2, .int y0), (0, .ref (aM 0))]) hx hb dX1_decide_30 rfl hl (by decide) rfl (fun ls hl => ?_)
    refine lv_aload_n hx hb dX1_decide_31 rfl (lv_at hl 1 rfl) ?_
    refine lv_dup hx hb dX1_decide_32 rfl ?_
    refine va_get (D := D) (C := RX1) (T := TX1) (N := 12) hx hb hT inlX1 hown hK.1 hP 0 rfl rfl 7 (by decide) (hT _ fl_RX1_71) (fun _ h9 => h9) rfl dX1_decide_33 ?_
    refine lv_aload_n hx hb dX1_decide_36 rfl (lv_at hl 1 rfl) ?_
    refine va_get (D := D) (C := RX1) (T := TX1) (N := 12) hx hb hT inlX1 hown hK.1 hP 0 rfl rfl 5 (by decide) (hT _ fl_RX1_39) (fun _ h9 => h9) rfl dX1_decide_37 ?_
    refine lv_lor hx hb dX1_decide_40 ?_
    refine va_put (D := D) (v := .long ((mJ 3) ||| (mJ 1))) (ty := .long) (C := RX1) (T := TX1) (N := 12) hx hb hT inlX1 tyX1 tyX1_ok nmX1 hown hK.1 hP hD hS 0 rfl rfl 7 (by decide) (hT _ fl_RX1_71) (fun _ h9 => h9) rfl (by decide +kernel) rfl rfl (Nat.le_of_ble_eq_true rfl) dX1_decide_41 (fun H locs hP hD hS => ?_)
    have hP : va_P D vwCl (wl [gM cA aM mI (vp_updL mJ 3 ((mJ 3) ||| (mJ 1))) mA]) H := hP
    have hD : va_D A (wl [gM cA aM mI (vp_updL mJ 3 ((mJ 3) ||| (mJ 1))) mA]) := hD
    refine lv_iload_n hx hb dX1_decide_44 rfl (lv_at hl 0 rfl) ?_
    refine lv_if_eq (tgt := 61) hx hb dX1_decide_45 (by decide) (fun c1 => ?_) (fun c1 => ?_)
    · replace h := og_pos c1 h
      refine lv_iload_n hx hb dX1_decide_61 rfl (lv_at hl 0 rfl) ?_
      obtain ⟨gz, h⟩ := og_guard h
      exact W.zret (v := y0) hx hb hr (bo_nar gz) (fun t ht hW => ⟨⟨y0, ((vp_updL mJ 3 ((mJ 3) ||| (mJ 1)))), rfl, ⟨(congrArg Prod.fst (og_inj h)).symm, (congrArg Prod.snd (og_inj h)).symm⟩, (by rw [ht]; exact hP), hD⟩, hS.F ht⟩) hS.2.2 dX1_decide_62
    · replace h := og_neg c1 h
      refine lv_aload_n hx hb dX1_decide_48 rfl (lv_at hl 1 rfl) ?_
      refine lv_dup hx hb dX1_decide_49 rfl ?_
      refine va_get (D := D) (C := RX1) (T := TX1) (N := 12) hx hb hT inlX1 hown hK.1 hP 0 rfl rfl 8 (by decide) (hT _ fl_RX1_74) (fun _ h9 => h9) rfl dX1_decide_50 ?_
      refine lv_aload_n hx hb dX1_decide_53 rfl (lv_at hl 1 rfl) ?_
      refine va_get (D := D) (C := RX1) (T := TX1) (N := 12) hx hb hT inlX1 hown hK.1 hP 0 rfl rfl 5 (by decide) (hT _ fl_RX1_39) (fun _ h9 => h9) rfl dX1_decide_54 ?_
      refine lv_lor hx hb dX1_decide_57 ?_
      refine va_put (D := D) (v := .long (((vp_updL mJ 3 ((mJ 3) ||| (mJ 1))) 4) ||| ((vp_updL mJ 3 ((mJ 3) ||| (mJ 1))) 1))) (ty := .long) (C := RX1) (T := TX1) (N := 12) hx hb hT inlX1 tyX1 tyX1_ok nmX1 hown hK.1 hP hD hS 0 rfl rfl 8 (by decide) (hT _ fl_RX1_74) (fun _ h9 => h9) rfl (by decide +kernel) rfl rfl (Nat.le_of_ble_eq_true rfl) dX1_decide_58 (fun H locs hP hD hS => ?_)
      have hP : va_P D vwCl (wl [gM cA aM mI (vp_updL (vp_updL mJ 3 ((mJ 3) ||| (mJ 1))) 4 (((vp_updL mJ 3 ((mJ 3) ||| (mJ 1))) 4) ||| ((vp_updL mJ 3 ((mJ 3) ||| (mJ 1))) 1))) mA]) H := hP
      have hD : va_D A (wl [gM cA aM mI (vp_updL (vp_updL mJ 3 ((mJ 3) ||| (mJ 1))) 4 (((vp_updL mJ 3 ((mJ 3) ||| (mJ 1))) 4) ||| ((vp_updL mJ 3 ((mJ 3) ||| (mJ 1))) 1))) mA]) := hD
      refine lv_iload_n hx hb dX1_decide_61 rfl (lv_at hl 0 rfl) ?_
      obtain ⟨gz, h⟩ := og_guard h
      exact W.zret (v := y0) hx hb hr (bo_nar gz) (fun t ht hW => ⟨⟨y0, ((vp_updL (vp_updL mJ 3 ((mJ 3) ||| (mJ 1))) 4 (((vp_updL mJ 3 ((mJ 3) ||| (mJ 1))) 4) ||| ((vp_updL mJ 3 ((mJ 3) ||| (mJ 1))) 1)))), rfl, ⟨(congrArg Prod.fst (og_inj h)).symm, (congrArg Prod.snd (og_inj h)).symm⟩, (by rw [ht]; exact hP), hD⟩, hS.F ht⟩) hS.2.2 dX1_decide_62
  unfold f_X1_decide at h
  refine lv_aload_n hx hb dX1_decide_0 rfl (lv_at hl 0 rfl) ?_
  refine va_get (D := D) (C := RX1) (T := TX1) (N := 12) hx hb hT inlX1 hown hK.1 hP 0 rfl rfl 2 (by decide) (hT _ fl_RX1_60) (fun _ h9 => h9) rfl dX1_decide_1 ?_
  refine lv_if_eq (tgt := 29) hx hb dX1_decide_4 (by decide) (fun c2 => ?_) (fun c2 => ?_)
  · replace h := og_pos c2 h
    refine lv_iload_n hx hb dX1_decide_29 rfl (lv_at hl 1 rfl) ?_
    exact b30  _ _ _ _ _ h hP hD hS (lv_sub hl [0] rfl)
  · replace h := og_neg c2 h
    refine lv_aload_n hx hb dX1_decide_7 rfl (lv_at hl 0 rfl) ?_
    refine va_get (D := D) (C := RX1) (T := TX1) (N := 12) hx hb hT inlX1 hown hK.1 hP 0 rfl rfl 3 (by decide) (hT _ fl_RX1_68) (fun _ h9 => h9) rfl dX1_decide_8 ?_
    refine lv_aload_n hx hb dX1_decide_11 rfl (lv_at hl 0 rfl) ?_
    refine va_get (D := D) (C := RX1) (T := TX1) (N := 12) hx hb hT inlX1 hown hK.1 hP 0 rfl rfl 5 (by decide) (hT _ fl_RX1_39) (fun _ h9 => h9) rfl dX1_decide_12 ?_
    refine lv_land hx hb dX1_decide_15 ?_
    refine lv_lconst (v := (0 : Int64)) hx hb dX1_decide_16 (by decide) ?_
    refine W.lcmp hx hb dX1_decide_17 ?_
    refine lv_if_eq (tgt := 25) hx hb dX1_decide_18 (by decide) (fun c3 => ?_) (fun c3 => ?_)
    · replace h := og_pos c3 h
      refine lv_iconst (v := (0 : Int32)) hx hb dX1_decide_25 (by decide) ?_
      refine lv_goto (tgt := 30) hx hb dX1_decide_26 (by decide) ?_
      exact b30  _ _ _ _ _ h hP hD hS (lv_sub hl [0] rfl)
    · replace h := og_neg c3 h
      refine lv_iconst (v := (1 : Int32)) hx hb dX1_decide_21 (by decide) ?_
      refine lv_goto (tgt := 30) hx hb dX1_decide_22 (by decide) ?_
      exact b30  _ _ _ _ _ h hP hD hS (lv_sub hl [0] rfl)
set_option maxRecDepth 100000 in
set_option maxHeartbeats 8000000 in
theorem k_X1_load (l : Launch) (D : va_G) (cA : Nat → ClassId) (aM : Nat → Nat) (sz : Nat) (u1 : Int32) (u2 : Int32) (mI : Nat → Int32) (mJ : Nat → Int64) (mA : Nat → Nat → Int32) (R : (Nat → Int32) × (Nat → Int64) × (Nat → Nat → Int32)) (h : f_X1_load u1 u2 mI mJ mA = some R) : Met l yX1_load (wsU yX1_load cX1_load 3 none) ({ frames := 1, cells := 0, slots := 0, locals := 22 }) (PcW D cA (wl [gM cA aM mI mJ mA]) sz [.ref (aM 0), .int u1, .int u2]) (QV D (fun u : (Nat → Int32) × (Nat → Int64) × (Nat → Nat → Int32) => (wl [gM cA aM u.1 u.2.1 u.2.2])) R (va_A (wl [gM cA aM mI mJ mA]) sz)) 0 0 (va_A (wl [gM cA aM mI mJ mA]) sz) := by
  refine Met.ofW (cc := cX1_load) (maxL := 3) (ret := none) (by decide) rfl ?_
  intro p e s m args below meth c s₁ B hml hv
  obtain ⟨rfl, hsz, hP, hK, hD0⟩ := hv
  have hx := B.exec
  have hb := B.bytes
  have hr := B.returns
  have hts := atoms_spec (ws := (wsU yX1_load cX1_load 3 none)) B.pre
  have hT : ∀ w ∈ wsL_law, w.before ([.ref (aM 0), .int u1, .int u2] : List Value).toArray s = true := fun w h => hts w (List.mem_cons_of_mem _ h)
  have hown : s.vm.findClass RX1 = some m.cls := findClass_of_methodNamed B.named
  have hlocks := B.notSynchronized
  have hN := hK.2
  subst hsz
  have hD := hD0.self (sz := s.heap.size)
  generalize hAe : va_A (wl [gM cA aM mI mJ mA]) s.heap.size = A at hD ⊢
  have hA : ∀ q : Nat, s.heap.size ≤ q → A q := fun q h => by rw [← hAe]; exact Or.inr h
  have hS : va_S A s.heap s.heap [] := va_S.rf
  have hl := lv_entry ([.ref (aM 0), .int u1, .int u2]) (n := 3) (Nat.le_of_ble_eq_true rfl)
  rw [lg_entry_eq]
  generalize (lg_sl ([.ref (aM 0), .int u1, .int u2]) ++ List.replicate (3 - (lg_sl ([.ref (aM 0), .int u1, .int u2])).length) Slot.unset).toArray = ls at hl ⊢
  have hl : lv_has ls 3 [(0, .ref (aM 0)), (1, .int u1), (2, .int u2)] := hl
  have b33 : ∀ (y1 : Int32) (y2 : Int32) (mI : Nat → Int32) (mJ : Nat → Int64) (mA : Nat → Nat → Int32) (H : Heap) (locs : List Loc) (ls : Array Slot), f_X1_load_b33 y1 y2 mI mJ mA = some R → va_P D vwCl (wl [gM cA aM mI mJ mA]) H → va_D A (wl [gM cA aM mI mJ mA]) → va_S A s.heap H locs → lv_has ls 3 [] → W p l e (headSpec (wsU yX1_load cX1_load 3 none) ({ frames := 1, cells := 0, slots := 0, locals := 22 })).room s m ([.ref (aM 0), .int u1, .int u2] : List Value).toArray below meth c H locs 0 0 (MQ below (QV D (fun u : (Nat → Int32) × (Nat → Int64) × (Nat → Nat → Int32) => (wl [gM cA aM u.1 u.2.1 u.2.2])) R A) ([.ref (aM 0), .int u1, .int u2] : List Value).toArray s 0 0 A) (F0 m 33 ls [.int y2, .int y1, .ref (aM 1)]) := by
    intro y1 y2 mI mJ mA H locs ls h hP hD hS hl
    unfold f_X1_load_b33 at h
    obtain ⟨g1, h⟩ := og_guard h
    refine va_iast hx hb hK.1 hP hD hS 1 0 rfl rfl (inb_vp g1) dX1_load_33 (fun H locs hP hD hS => ?_)
    have hP : va_P D vwCl (wl [gM cA aM mI mJ (up2 mA 0 y1.toNatClampNeg y2)]) H := hP
    have hD : va_D A (wl [gM cA aM mI mJ (up2 mA 0 y1.toNatClampNeg y2)]) := hD
    refine lv_goto (tgt := 43) hx hb dX1_load_34 (by decide) ?_
    exact W.vret hx hb hr (fun t ht hW => ⟨⟨(mI, mJ, (up2 mA 0 y1.toNatClampNeg y2)), rfl, (og_inj h).symm, (by rw [ht]; exact hP), hD⟩, hS.F ht⟩) hS.2.2 dX1_load_43
  unfold f_X1_load at h
  refine lv_aload_n hx hb dX1_load_0 rfl (lv_at hl 0 rfl) ?_
  refine lv_iload_n hx hb dX1_load_1 rfl (lv_at hl 2 rfl) ?_
  obtain ⟨⟨r2, _u2⟩, e2, h⟩ := og_bind h
  try dsimp only at h
  refine gc_i (ws := (wl [gM cA aM mI mJ mA])) (wc := (wl ([] : List va_W))) (wr := (wl [gM cA aM mI mJ mA])) (ws' := (wl [gM cA aM mI mJ mA])) (va_runSN (host := RX4) (As := [.int u2]) (rest := [.ref (aM 0)]) ⟨hx, hb, hml, hown, hT⟩ (k_X4_isCell l D cA  s.heap.size u2  _ e2) ⟨va_cnB 1 hT (gw cd_yX4_isCell_cX4_isCell) rfl rfl rfl (hN _ nl_RX1_126) (hT _ ini_RX4) (by decide +kernel) ⟨Nat.le_of_ble_eq_true rfl, Nat.le_of_ble_eq_true rfl⟩, hT _ sc_yX4_isCell, trivial⟩ (pre_S (wr := (wl [gM cA aM mI mJ mA])) (pm (f := fun i => ([gM cA aM mI mJ mA] : List va_W).getD i []) [0] [] [0] (by decide)) hK hP hD) rfl rfl hl.1 rfl (lv_room (Nat.le_of_ble_eq_true rfl)) dX1_load_2 ⟨Nat.le_refl _, Nat.le_refl _⟩) (pm (f := fun i => ([gM cA aM mI mJ mA] : List va_W).getD i []) [0] [] [0] (by decide)) hP hD hS hA (pm (f := fun i => ([gM cA aM mI mJ mA] : List va_W).getD i []) [0] [] [0] (by decide)) (fun H locs hP hD hS => ?_)
  obtain ⟨⟨r3, mJ3⟩, e3, h⟩ := og_bind h
  try dsimp only at h
  refine gc_i (ws := (wl [gM cA aM mI mJ mA])) (wc := (wl [gM cA aM mI mJ mA])) (wr := (wl ([] : List va_W))) (ws' := (wl [gM cA aM mI mJ3 mA])) (va_runV (As := [.int r2]) (rest := []) ⟨hx, hb, hml, hown, hT⟩ (k_X1_decide l D cA aM H.size r2 mI mJ mA _ e3) (cwV 1 hT gv_RX1_100 rfl rfl rfl (by decide +kernel) ⟨Nat.le_of_ble_eq_true rfl, Nat.le_of_ble_eq_true rfl⟩) (pre_V (ci := 1) (q0 := 0) (wr := (wl ([] : List va_W))) (pm (f := fun i => ([gM cA aM mI mJ mA] : List va_W).getD i []) [0] [0] [] (by decide)) hK hP hD rfl rfl) rfl rfl hl.1 rfl (lv_room (Nat.le_of_ble_eq_true rfl)) dX1_load_5 ⟨Nat.le_refl _, Nat.le_refl _⟩) (pm (f := fun i => ([gM cA aM mI mJ mA] : List va_W).getD i []) [0] [0] [] (by decide)) hP hD hS hA (pm (f := fun i => ([gM cA aM mI mJ3 mA] : List va_W).getD i []) [0] [0] [] (by decide)) (fun H locs hP hD hS => ?_)
  refine lv_if_eq (tgt := 37) hx hb dX1_load_8 (by decide) (fun c4 => ?_) (fun c4 => ?_)
  · replace h := og_pos c4 h
    refine lv_aload_n hx hb dX1_load_37 rfl (lv_at hl 0 rfl) ?_
    refine lv_iconst (v := (2 : Int32)) hx hb dX1_load_38 (by decide) ?_
    refine lv_iconst (v := (0 : Int32)) hx hb dX1_load_39 (by decide) ?_
    obtain ⟨mI5, e5, h⟩ := og_bind h
    refine gc_v (ws := (wl [gM cA aM mI mJ3 mA])) (wc := (wl [gM cA aM mI mJ3 mA])) (wr := (wl ([] : List va_W))) (ws' := (wl [gM cA aM mI5 mJ3 mA])) (va_runV (As := [.int (2 : Int32), .int (0 : Int32)]) (rest := []) ⟨hx, hb, hml, hown, hT⟩ (k_X1_stop l D cA aM H.size (2 : Int32) (0 : Int32) mI mJ3 mA _ e5) (cwV 2 hT gv_RX1_50 rfl rfl rfl (by decide +kernel) ⟨Nat.le_of_ble_eq_true rfl, Nat.le_of_ble_eq_true rfl⟩) (pre_V (ci := 1) (q0 := 0) (wr := (wl ([] : List va_W))) (pm (f := fun i => ([gM cA aM mI mJ3 mA] : List va_W).getD i []) [0] [0] [] (by decide)) hK hP hD rfl rfl) rfl rfl hl.1 rfl (lv_room (Nat.le_of_ble_eq_true rfl)) dX1_load_40 ⟨Nat.le_refl _, Nat.le_refl _⟩) (pm (f := fun i => ([gM cA aM mI mJ3 mA] : List va_W).getD i []) [0] [0] [] (by decide)) hP hD hS hA (pm (f := fun i => ([gM cA aM mI5 mJ3 mA] : List va_W).getD i []) [0] [0] [] (by decide)) (fun H locs hP hD hS => ?_)
    exact W.vret hx hb hr (fun t ht hW => ⟨⟨(mI5, mJ3, mA), rfl, (og_inj h).symm, (by rw [ht]; exact hP), hD⟩, hS.F ht⟩) hS.2.2 dX1_load_43
  · replace h := og_neg c4 h
    refine lv_aload_n hx hb dX1_load_11 rfl (lv_at hl 0 rfl) ?_
    refine va_get (D := D) (C := RX1) (T := TX1) (N := 12) hx hb hT inlX1 hown hK.1 hP 0 rfl rfl 0 (by decide) (hT _ fl_RX1_9) (fun _ h9 => h9) rfl dX1_load_12 ?_
    refine lv_iload_n hx hb dX1_load_15 rfl (lv_at hl 1 rfl) ?_
    refine lv_iload_n hx hb dX1_load_16 rfl (lv_at hl 2 rfl) ?_
    obtain ⟨⟨r6, _u6⟩, e6, h⟩ := og_bind h
    try dsimp only at h
    refine gc_i (ws := (wl [gM cA aM mI mJ3 mA])) (wc := (wl ([] : List va_W))) (wr := (wl [gM cA aM mI mJ3 mA])) (ws' := (wl [gM cA aM mI mJ3 mA])) (va_runSN (host := RX4) (As := [.int u2]) (rest := [.int u1, .ref (aM 1)]) ⟨hx, hb, hml, hown, hT⟩ (k_X4_isCell l D cA  H.size u2  _ e6) ⟨va_cnB 1 hT (gw cd_yX4_isCell_cX4_isCell) rfl rfl rfl (hN _ nl_RX1_126) (hT _ ini_RX4) (by decide +kernel) ⟨Nat.le_of_ble_eq_true rfl, Nat.le_of_ble_eq_true rfl⟩, hT _ sc_yX4_isCell, trivial⟩ (pre_S (wr := (wl [gM cA aM mI mJ3 mA])) (pm (f := fun i => ([gM cA aM mI mJ3 mA] : List va_W).getD i []) [0] [] [0] (by decide)) hK hP hD) rfl rfl hl.1 rfl (lv_room (Nat.le_of_ble_eq_true rfl)) dX1_load_17 ⟨Nat.le_refl _, Nat.le_refl _⟩) (pm (f := fun i => ([gM cA aM mI mJ3 mA] : List va_W).getD i []) [0] [] [0] (by decide)) hP hD hS hA (pm (f := fun i => ([gM cA aM mI mJ3 mA] : List va_W).getD i []) [0] [] [0] (by decide)) (fun H locs hP hD hS => ?_)
    refine lv_if_eq (tgt := 32) hx hb dX1_load_20 (by decide) (fun c7 => ?_) (fun c7 => ?_)
    · replace h := og_pos c7 h
      refine lv_iconst (v := (0 : Int32)) hx hb dX1_load_32 (by decide) ?_
      exact b33  _ _ _ _ _ _ _ _ h hP hD hS (lv_sub hl [] rfl)
    · replace h := og_neg c7 h
      refine lv_aload_n hx hb dX1_load_23 rfl (lv_at hl 0 rfl) ?_
      refine va_get (D := D) (C := RX1) (T := TX1) (N := 12) hx hb hT inlX1 hown hK.1 hP 0 rfl rfl 1 (by decide) (hT _ fl_RX1_15) (fun _ h9 => h9) rfl dX1_load_24 ?_
      refine lv_iload_n hx hb dX1_load_27 rfl (lv_at hl 2 rfl) ?_
      obtain ⟨g8, h⟩ := og_guard h
      refine va_iald hx hb hK.1 hP 2 0 rfl rfl (inb_vp g8) dX1_load_28 ?_
      refine lv_goto (tgt := 33) hx hb dX1_load_29 (by decide) ?_
      exact b33  _ _ _ _ _ _ _ _ h hP hD hS (lv_sub hl [] rfl)
set_option maxRecDepth 100000 in
set_option maxHeartbeats 8000000 in
theorem k_X1_store (l : Launch) (D : va_G) (cA : Nat → ClassId) (aM : Nat → Nat) (sz : Nat) (u1 : Int32) (u2 : Int32) (mI : Nat → Int32) (mJ : Nat → Int64) (mA : Nat → Nat → Int32) (R : (Nat → Int32) × (Nat → Int64) × (Nat → Nat → Int32)) (h : f_X1_store u1 u2 mI mJ mA = some R) : Met l yX1_store (wsU yX1_store cX1_store 3 none) ({ frames := 1, cells := 0, slots := 0, locals := 22 }) (PcW D cA (wl [gM cA aM mI mJ mA]) sz [.ref (aM 0), .int u1, .int u2]) (QV D (fun u : (Nat → Int32) × (Nat → Int64) × (Nat → Nat → Int32) => (wl [gM cA aM u.1 u.2.1 u.2.2])) R (va_A (wl [gM cA aM mI mJ mA]) sz)) 0 0 (va_A (wl [gM cA aM mI mJ mA]) sz) := by
  refine Met.ofW (cc := cX1_store) (maxL := 3) (ret := none) (by decide) rfl ?_
  intro p e s m args below meth c s₁ B hml hv
  obtain ⟨rfl, hsz, hP, hK, hD0⟩ := hv
  have hx := B.exec
  have hb := B.bytes
  have hr := B.returns
  have hts := atoms_spec (ws := (wsU yX1_store cX1_store 3 none)) B.pre
  have hT : ∀ w ∈ wsL_law, w.before ([.ref (aM 0), .int u1, .int u2] : List Value).toArray s = true := fun w h => hts w (List.mem_cons_of_mem _ h)
  have hown : s.vm.findClass RX1 = some m.cls := findClass_of_methodNamed B.named
  have hlocks := B.notSynchronized
  have hN := hK.2
  subst hsz
  have hD := hD0.self (sz := s.heap.size)
  generalize hAe : va_A (wl [gM cA aM mI mJ mA]) s.heap.size = A at hD ⊢
  have hA : ∀ q : Nat, s.heap.size ≤ q → A q := fun q h => by rw [← hAe]; exact Or.inr h
  have hS : va_S A s.heap s.heap [] := va_S.rf
  have hl := lv_entry ([.ref (aM 0), .int u1, .int u2]) (n := 3) (Nat.le_of_ble_eq_true rfl)
  rw [lg_entry_eq]
  generalize (lg_sl ([.ref (aM 0), .int u1, .int u2]) ++ List.replicate (3 - (lg_sl ([.ref (aM 0), .int u1, .int u2])).length) Slot.unset).toArray = ls at hl ⊢
  have hl : lv_has ls 3 [(0, .ref (aM 0)), (1, .int u1), (2, .int u2)] := hl
  unfold f_X1_store at h
  refine lv_aload_n hx hb dX1_store_0 rfl (lv_at hl 0 rfl) ?_
  refine lv_iload_n hx hb dX1_store_1 rfl (lv_at hl 1 rfl) ?_
  obtain ⟨⟨r1, _u1⟩, e1, h⟩ := og_bind h
  try dsimp only at h
  refine gc_i (ws := (wl [gM cA aM mI mJ mA])) (wc := (wl ([] : List va_W))) (wr := (wl [gM cA aM mI mJ mA])) (ws' := (wl [gM cA aM mI mJ mA])) (va_runSN (host := RX4) (As := [.int u1]) (rest := [.ref (aM 0)]) ⟨hx, hb, hml, hown, hT⟩ (k_X4_isCell l D cA  s.heap.size u1  _ e1) ⟨va_cnB 1 hT (gw cd_yX4_isCell_cX4_isCell) rfl rfl rfl (hN _ nl_RX1_126) (hT _ ini_RX4) (by decide +kernel) ⟨Nat.le_of_ble_eq_true rfl, Nat.le_of_ble_eq_true rfl⟩, hT _ sc_yX4_isCell, trivial⟩ (pre_S (wr := (wl [gM cA aM mI mJ mA])) (pm (f := fun i => ([gM cA aM mI mJ mA] : List va_W).getD i []) [0] [] [0] (by decide)) hK hP hD) rfl rfl hl.1 rfl (lv_room (Nat.le_of_ble_eq_true rfl)) dX1_store_2 ⟨Nat.le_refl _, Nat.le_refl _⟩) (pm (f := fun i => ([gM cA aM mI mJ mA] : List va_W).getD i []) [0] [] [0] (by decide)) hP hD hS hA (pm (f := fun i => ([gM cA aM mI mJ mA] : List va_W).getD i []) [0] [] [0] (by decide)) (fun H locs hP hD hS => ?_)
  obtain ⟨⟨r2, mJ2⟩, e2, h⟩ := og_bind h
  try dsimp only at h
  refine gc_i (ws := (wl [gM cA aM mI mJ mA])) (wc := (wl [gM cA aM mI mJ mA])) (wr := (wl ([] : List va_W))) (ws' := (wl [gM cA aM mI mJ2 mA])) (va_runV (As := [.int r1]) (rest := []) ⟨hx, hb, hml, hown, hT⟩ (k_X1_decide l D cA aM H.size r1 mI mJ mA _ e2) (cwV 1 hT gv_RX1_100 rfl rfl rfl (by decide +kernel) ⟨Nat.le_of_ble_eq_true rfl, Nat.le_of_ble_eq_true rfl⟩) (pre_V (ci := 1) (q0 := 0) (wr := (wl ([] : List va_W))) (pm (f := fun i => ([gM cA aM mI mJ mA] : List va_W).getD i []) [0] [0] [] (by decide)) hK hP hD rfl rfl) rfl rfl hl.1 rfl (lv_room (Nat.le_of_ble_eq_true rfl)) dX1_store_5 ⟨Nat.le_refl _, Nat.le_refl _⟩) (pm (f := fun i => ([gM cA aM mI mJ mA] : List va_W).getD i []) [0] [0] [] (by decide)) hP hD hS hA (pm (f := fun i => ([gM cA aM mI mJ2 mA] : List va_W).getD i []) [0] [0] [] (by decide)) (fun H locs hP hD hS => ?_)
  refine lv_if_ne (tgt := 20) hx hb dX1_store_8 (by decide) (fun c3 => ?_) (fun c3 => ?_)
  · replace h := og_neg c3 h
    refine lv_iload_n hx hb dX1_store_20 rfl (lv_at hl 1 rfl) ?_
    obtain ⟨⟨r4, _u4⟩, e4, h⟩ := og_bind h
    try dsimp only at h
    refine gc_i (ws := (wl [gM cA aM mI mJ2 mA])) (wc := (wl ([] : List va_W))) (wr := (wl [gM cA aM mI mJ2 mA])) (ws' := (wl [gM cA aM mI mJ2 mA])) (va_runSN (host := RX4) (As := [.int u1]) (rest := []) ⟨hx, hb, hml, hown, hT⟩ (k_X4_isCell l D cA  H.size u1  _ e4) ⟨va_cnB 1 hT (gw cd_yX4_isCell_cX4_isCell) rfl rfl rfl (hN _ nl_RX1_126) (hT _ ini_RX4) (by decide +kernel) ⟨Nat.le_of_ble_eq_true rfl, Nat.le_of_ble_eq_true rfl⟩, hT _ sc_yX4_isCell, trivial⟩ (pre_S (wr := (wl [gM cA aM mI mJ2 mA])) (pm (f := fun i => ([gM cA aM mI mJ2 mA] : List va_W).getD i []) [0] [] [0] (by decide)) hK hP hD) rfl rfl hl.1 rfl (lv_room (Nat.le_of_ble_eq_true rfl)) dX1_store_21 ⟨Nat.le_refl _, Nat.le_refl _⟩) (pm (f := fun i => ([gM cA aM mI mJ2 mA] : List va_W).getD i []) [0] [] [0] (by decide)) hP hD hS hA (pm (f := fun i => ([gM cA aM mI mJ2 mA] : List va_W).getD i []) [0] [] [0] (by decide)) (fun H locs hP hD hS => ?_)
    refine lv_if_eq (tgt := 34) hx hb dX1_store_24 (by decide) (fun c5 => ?_) (fun c5 => ?_)
    · replace h := og_pos c5 h
      exact W.vret hx hb hr (fun t ht hW => ⟨⟨(mI, mJ2, mA), rfl, (og_inj h).symm, (by rw [ht]; exact hP), hD⟩, hS.F ht⟩) hS.2.2 dX1_store_34
    · replace h := og_neg c5 h
      refine lv_aload_n hx hb dX1_store_27 rfl (lv_at hl 0 rfl) ?_
      refine va_get (D := D) (C := RX1) (T := TX1) (N := 12) hx hb hT inlX1 hown hK.1 hP 0 rfl rfl 1 (by decide) (hT _ fl_RX1_15) (fun _ h9 => h9) rfl dX1_store_28 ?_
      refine lv_iload_n hx hb dX1_store_31 rfl (lv_at hl 1 rfl) ?_
      refine lv_iload_n hx hb dX1_store_32 rfl (lv_at hl 2 rfl) ?_
      obtain ⟨g6, h⟩ := og_guard h
      refine va_iast hx hb hK.1 hP hD hS 2 0 rfl rfl (inb_vp g6) dX1_store_33 (fun H locs hP hD hS => ?_)
      have hP : va_P D vwCl (wl [gM cA aM mI mJ2 (up2 mA 1 u1.toNatClampNeg u2)]) H := hP
      have hD : va_D A (wl [gM cA aM mI mJ2 (up2 mA 1 u1.toNatClampNeg u2)]) := hD
      exact W.vret hx hb hr (fun t ht hW => ⟨⟨(mI, mJ2, (up2 mA 1 u1.toNatClampNeg u2)), rfl, (og_inj h).symm, (by rw [ht]; exact hP), hD⟩, hS.F ht⟩) hS.2.2 dX1_store_34
  · replace h := og_pos c3 h
    refine lv_aload_n hx hb dX1_store_11 rfl (lv_at hl 0 rfl) ?_
    refine lv_iconst (v := (2 : Int32)) hx hb dX1_store_12 (by decide) ?_
    refine lv_iconst (v := (0 : Int32)) hx hb dX1_store_13 (by decide) ?_
    obtain ⟨mI7, e7, h⟩ := og_bind h
    refine gc_v (ws := (wl [gM cA aM mI mJ2 mA])) (wc := (wl [gM cA aM mI mJ2 mA])) (wr := (wl ([] : List va_W))) (ws' := (wl [gM cA aM mI7 mJ2 mA])) (va_runV (As := [.int (2 : Int32), .int (0 : Int32)]) (rest := []) ⟨hx, hb, hml, hown, hT⟩ (k_X1_stop l D cA aM H.size (2 : Int32) (0 : Int32) mI mJ2 mA _ e7) (cwV 2 hT gv_RX1_50 rfl rfl rfl (by decide +kernel) ⟨Nat.le_of_ble_eq_true rfl, Nat.le_of_ble_eq_true rfl⟩) (pre_V (ci := 1) (q0 := 0) (wr := (wl ([] : List va_W))) (pm (f := fun i => ([gM cA aM mI mJ2 mA] : List va_W).getD i []) [0] [0] [] (by decide)) hK hP hD rfl rfl) rfl rfl hl.1 rfl (lv_room (Nat.le_of_ble_eq_true rfl)) dX1_store_14 ⟨Nat.le_refl _, Nat.le_refl _⟩) (pm (f := fun i => ([gM cA aM mI mJ2 mA] : List va_W).getD i []) [0] [0] [] (by decide)) hP hD hS hA (pm (f := fun i => ([gM cA aM mI7 mJ2 mA] : List va_W).getD i []) [0] [0] [] (by decide)) (fun H locs hP hD hS => ?_)
    refine lv_goto (tgt := 34) hx hb dX1_store_17 (by decide) ?_
    exact W.vret hx hb hr (fun t ht hW => ⟨⟨(mI7, mJ2, mA), rfl, (og_inj h).symm, (by rw [ht]; exact hP), hD⟩, hS.F ht⟩) hS.2.2 dX1_store_34
set_option maxRecDepth 100000 in
set_option maxHeartbeats 8000000 in
theorem k_X1_stopUnlessTrue (l : Launch) (D : va_G) (cA : Nat → ClassId) (aM : Nat → Nat) (sz : Nat) (u1 : Int32) (mI : Nat → Int32) (mJ : Nat → Int64) (mA : Nat → Nat → Int32) (R : (Nat → Int32) × (Nat → Int64)) (h : f_X1_stopUnlessTrue u1 mI mJ = some R) : Met l yX1_stopUnlessTrue (wsU yX1_stopUnlessTrue cX1_stopUnlessTrue 2 none) ({ frames := 1, cells := 0, slots := 0, locals := 22 }) (PcW D cA (wl [gM cA aM mI mJ mA]) sz [.ref (aM 0), .int u1]) (QV D (fun u : (Nat → Int32) × (Nat → Int64) => (wl [gM cA aM u.1 u.2 mA])) R (va_A (wl [gM cA aM mI mJ mA]) sz)) 0 0 (va_A (wl [gM cA aM mI mJ mA]) sz) := by
  refine Met.ofW (cc := cX1_stopUnlessTrue) (maxL := 2) (ret := none) (by decide) rfl ?_
  intro p e s m args below meth c s₁ B hml hv
  obtain ⟨rfl, hsz, hP, hK, hD0⟩ := hv
  have hx := B.exec
  have hb := B.bytes
  have hr := B.returns
  have hts := atoms_spec (ws := (wsU yX1_stopUnlessTrue cX1_stopUnlessTrue 2 none)) B.pre
  have hT : ∀ w ∈ wsL_law, w.before ([.ref (aM 0), .int u1] : List Value).toArray s = true := fun w h => hts w (List.mem_cons_of_mem _ h)
  have hown : s.vm.findClass RX1 = some m.cls := findClass_of_methodNamed B.named
  have hlocks := B.notSynchronized
  have hN := hK.2
  subst hsz
  have hD := hD0.self (sz := s.heap.size)
  generalize hAe : va_A (wl [gM cA aM mI mJ mA]) s.heap.size = A at hD ⊢
  have hA : ∀ q : Nat, s.heap.size ≤ q → A q := fun q h => by rw [← hAe]; exact Or.inr h
  have hS : va_S A s.heap s.heap [] := va_S.rf
  have hl := lv_entry ([.ref (aM 0), .int u1]) (n := 2) (Nat.le_of_ble_eq_true rfl)
  rw [lg_entry_eq]
  generalize (lg_sl ([.ref (aM 0), .int u1]) ++ List.replicate (2 - (lg_sl ([.ref (aM 0), .int u1])).length) Slot.unset).toArray = ls at hl ⊢
  have hl : lv_has ls 2 [(0, .ref (aM 0)), (1, .int u1)] := hl
  have b10 : ∀ (y1 : Int32) (mI : Nat → Int32) (mJ : Nat → Int64) (H : Heap) (locs : List Loc) (ls : Array Slot), f_X1_stopUnlessTrue_b10 y1 mI mJ = some R → va_P D vwCl (wl [gM cA aM mI mJ mA]) H → va_D A (wl [gM cA aM mI mJ mA]) → va_S A s.heap H locs → lv_has ls 2 [(0, .ref (aM 0))] → W p l e (headSpec (wsU yX1_stopUnlessTrue cX1_stopUnlessTrue 2 none) ({ frames := 1, cells := 0, slots := 0, locals := 22 })).room s m ([.ref (aM 0), .int u1] : List Value).toArray below meth c H locs 0 0 (MQ below (QV D (fun u : (Nat → Int32) × (Nat → Int64) => (wl [gM cA aM u.1 u.2 mA])) R A) ([.ref (aM 0), .int u1] : List Value).toArray s 0 0 A) (F0 m 10 ls [.int y1, .ref (aM 0)]) := by
    intro y1 mI mJ H locs ls h hP hD hS hl
    unfold f_X1_stopUnlessTrue_b10 at h
    obtain ⟨⟨r1, mJ1⟩, e1, h⟩ := og_bind h
    try dsimp only at h
    refine gc_i (ws := (wl [gM cA aM mI mJ mA])) (wc := (wl [gM cA aM mI mJ mA])) (wr := (wl ([] : List va_W))) (ws' := (wl [gM cA aM mI mJ1 mA])) (va_runV (As := [.int y1]) (rest := []) ⟨hx, hb, hml, hown, hT⟩ (k_X1_decide l D cA aM H.size y1 mI mJ mA _ e1) (cwV 1 hT gv_RX1_100 rfl rfl rfl (by decide +kernel) ⟨Nat.le_of_ble_eq_true rfl, Nat.le_of_ble_eq_true rfl⟩) (pre_V (ci := 1) (q0 := 0) (wr := (wl ([] : List va_W))) (pm (f := fun i => ([gM cA aM mI mJ mA] : List va_W).getD i []) [0] [0] [] (by decide)) hK hP hD rfl rfl) rfl rfl hl.1 rfl (lv_room (Nat.le_of_ble_eq_true rfl)) dX1_stopUnlessTrue_10 ⟨Nat.le_refl _, Nat.le_refl _⟩) (pm (f := fun i => ([gM cA aM mI mJ mA] : List va_W).getD i []) [0] [0] [] (by decide)) hP hD hS hA (pm (f := fun i => ([gM cA aM mI mJ1 mA] : List va_W).getD i []) [0] [0] [] (by decide)) (fun H locs hP hD hS => ?_)
    refine lv_if_ne (tgt := 22) hx hb dX1_stopUnlessTrue_13 (by decide) (fun c2 => ?_) (fun c2 => ?_)
    · replace h := og_neg c2 h
      exact W.vret hx hb hr (fun t ht hW => ⟨⟨(mI, mJ1), rfl, (og_inj h).symm, (by rw [ht]; exact hP), hD⟩, hS.F ht⟩) hS.2.2 dX1_stopUnlessTrue_22
    · replace h := og_pos c2 h
      refine lv_aload_n hx hb dX1_stopUnlessTrue_16 rfl (lv_at hl 0 rfl) ?_
      refine lv_iconst (v := (3 : Int32)) hx hb dX1_stopUnlessTrue_17 (by decide) ?_
      refine lv_iconst (v := (0 : Int32)) hx hb dX1_stopUnlessTrue_18 (by decide) ?_
      obtain ⟨mI3, e3, h⟩ := og_bind h
      refine gc_v (ws := (wl [gM cA aM mI mJ1 mA])) (wc := (wl [gM cA aM mI mJ1 mA])) (wr := (wl ([] : List va_W))) (ws' := (wl [gM cA aM mI3 mJ1 mA])) (va_runV (As := [.int (3 : Int32), .int (0 : Int32)]) (rest := []) ⟨hx, hb, hml, hown, hT⟩ (k_X1_stop l D cA aM H.size (3 : Int32) (0 : Int32) mI mJ1 mA _ e3) (cwV 2 hT gv_RX1_50 rfl rfl rfl (by decide +kernel) ⟨Nat.le_of_ble_eq_true rfl, Nat.le_of_ble_eq_true rfl⟩) (pre_V (ci := 1) (q0 := 0) (wr := (wl ([] : List va_W))) (pm (f := fun i => ([gM cA aM mI mJ1 mA] : List va_W).getD i []) [0] [0] [] (by decide)) hK hP hD rfl rfl) rfl rfl hl.1 rfl (lv_room (Nat.le_of_ble_eq_true rfl)) dX1_stopUnlessTrue_19 ⟨Nat.le_refl _, Nat.le_refl _⟩) (pm (f := fun i => ([gM cA aM mI mJ1 mA] : List va_W).getD i []) [0] [0] [] (by decide)) hP hD hS hA (pm (f := fun i => ([gM cA aM mI3 mJ1 mA] : List va_W).getD i []) [0] [0] [] (by decide)) (fun H locs hP hD hS => ?_)
      exact W.vret hx hb hr (fun t ht hW => ⟨⟨(mI3, mJ1), rfl, (og_inj h).symm, (by rw [ht]; exact hP), hD⟩, hS.F ht⟩) hS.2.2 dX1_stopUnlessTrue_22
  unfold f_X1_stopUnlessTrue at h
  refine lv_aload_n hx hb dX1_stopUnlessTrue_0 rfl (lv_at hl 0 rfl) ?_
  refine lv_iload_n hx hb dX1_stopUnlessTrue_1 rfl (lv_at hl 1 rfl) ?_
  refine lv_if_eq (tgt := 9) hx hb dX1_stopUnlessTrue_2 (by decide) (fun c4 => ?_) (fun c4 => ?_)
  · replace h := og_pos c4 h
    refine lv_iconst (v := (0 : Int32)) hx hb dX1_stopUnlessTrue_9 (by decide) ?_
    exact b10  _ _ _ _ _ _ h hP hD hS (lv_sub hl [0] rfl)
  · replace h := og_neg c4 h
    refine lv_iconst (v := (1 : Int32)) hx hb dX1_stopUnlessTrue_5 (by decide) ?_
    refine lv_goto (tgt := 10) hx hb dX1_stopUnlessTrue_6 (by decide) ?_
    exact b10  _ _ _ _ _ _ h hP hD hS (lv_sub hl [0] rfl)
set_option maxRecDepth 100000 in
set_option maxHeartbeats 8000000 in
theorem k_X1_calculate (l : Launch) (D : va_G) (cA : Nat → ClassId) (aM : Nat → Nat) (sz : Nat) (u1 : Int32) (u2 : Int32) (u3 : Int32) (u4 : Int32) (mI : Nat → Int32) (mJ : Nat → Int64) (mA : Nat → Nat → Int32) (R : (Nat → Int32) × (Nat → Int64) × (Nat → Nat → Int32)) (h : f_X1_calculate u1 u2 u3 u4 mI mJ mA = some R) : Met l yX1_calculate (wsU yX1_calculate cX1_calculate 5 none) ({ frames := 2, cells := 0, slots := 0, locals := 43 }) (PcW D cA (wl [gM cA aM mI mJ mA]) sz [.ref (aM 0), .int u1, .int u2, .int u3, .int u4]) (QV D (fun u : (Nat → Int32) × (Nat → Int64) × (Nat → Nat → Int32) => (wl [gM cA aM u.1 u.2.1 u.2.2])) R (va_A (wl [gM cA aM mI mJ mA]) sz)) 0 0 (va_A (wl [gM cA aM mI mJ mA]) sz) := by
  refine Met.ofW (cc := cX1_calculate) (maxL := 5) (ret := none) (by decide) rfl ?_
  intro p e s m args below meth c s₁ B hml hv
  obtain ⟨rfl, hsz, hP, hK, hD0⟩ := hv
  have hx := B.exec
  have hb := B.bytes
  have hr := B.returns
  have hts := atoms_spec (ws := (wsU yX1_calculate cX1_calculate 5 none)) B.pre
  have hT : ∀ w ∈ wsL_law, w.before ([.ref (aM 0), .int u1, .int u2, .int u3, .int u4] : List Value).toArray s = true := fun w h => hts w (List.mem_cons_of_mem _ h)
  have hown : s.vm.findClass RX1 = some m.cls := findClass_of_methodNamed B.named
  have hlocks := B.notSynchronized
  have hN := hK.2
  subst hsz
  have hD := hD0.self (sz := s.heap.size)
  generalize hAe : va_A (wl [gM cA aM mI mJ mA]) s.heap.size = A at hD ⊢
  have hA : ∀ q : Nat, s.heap.size ≤ q → A q := fun q h => by rw [← hAe]; exact Or.inr h
  have hS : va_S A s.heap s.heap [] := va_S.rf
  have hl := lv_entry ([.ref (aM 0), .int u1, .int u2, .int u3, .int u4]) (n := 5) (Nat.le_of_ble_eq_true rfl)
  rw [lg_entry_eq]
  generalize (lg_sl ([.ref (aM 0), .int u1, .int u2, .int u3, .int u4]) ++ List.replicate (5 - (lg_sl ([.ref (aM 0), .int u1, .int u2, .int u3, .int u4])).length) Slot.unset).toArray = ls at hl ⊢
  have hl : lv_has ls 5 [(0, .ref (aM 0)), (1, .int u1), (2, .int u2), (3, .int u3), (4, .int u4)] := hl
  have b18 : ∀ (x1 : Int32) (x2 : Int32) (x3 : Int32) (x4 : Int32) (y1 : Int32) (mI : Nat → Int32) (mJ : Nat → Int64) (mA : Nat → Nat → Int32) (H : Heap) (locs : List Loc) (ls : Array Slot), f_X1_calculate_b18 x1 x2 x3 x4 y1 mI mJ mA = some R → va_P D vwCl (wl [gM cA aM mI mJ mA]) H → va_D A (wl [gM cA aM mI mJ mA]) → va_S A s.heap H locs → lv_has ls 5 [(0, .ref (aM 0)), (1, .int x1), (2, .int x2), (3, .int x3), (4, .int x4)] → W p l e (headSpec (wsU yX1_calculate cX1_calculate 5 none) ({ frames := 2, cells := 0, slots := 0, locals := 43 })).room s m ([.ref (aM 0), .int u1, .int u2, .int u3, .int u4] : List Value).toArray below meth c H locs 0 0 (MQ below (QV D (fun u : (Nat → Int32) × (Nat → Int64) × (Nat → Nat → Int32) => (wl [gM cA aM u.1 u.2.1 u.2.2])) R A) ([.ref (aM 0), .int u1, .int u2, .int u3, .int u4] : List Value).toArray s 0 0 A) (F0 m 18 ls [.int y1, .ref (aM 0)]) := by
    intro x1 x2 x3 x4 y1 mI mJ mA H locs ls h hP hD hS hl
    unfold f_X1_calculate_b18 at h
    obtain ⟨⟨r1, mJ1⟩, e1, h⟩ := og_bind h
    try dsimp only at h
    refine gc_i (ws := (wl [gM cA aM mI mJ mA])) (wc := (wl [gM cA aM mI mJ mA])) (wr := (wl ([] : List va_W))) (ws' := (wl [gM cA aM mI mJ1 mA])) (va_runV (As := [.int y1]) (rest := []) ⟨hx, hb, hml, hown, hT⟩ (k_X1_decide l D cA aM H.size y1 mI mJ mA _ e1) (cwV 1 hT gv_RX1_100 rfl rfl rfl (by decide +kernel) ⟨Nat.le_of_ble_eq_true rfl, Nat.le_of_ble_eq_true rfl⟩) (pre_V (ci := 1) (q0 := 0) (wr := (wl ([] : List va_W))) (pm (f := fun i => ([gM cA aM mI mJ mA] : List va_W).getD i []) [0] [0] [] (by decide)) hK hP hD rfl rfl) rfl rfl hl.1 rfl (lv_room (Nat.le_of_ble_eq_true rfl)) dX1_calculate_18 ⟨Nat.le_refl _, Nat.le_refl _⟩) (pm (f := fun i => ([gM cA aM mI mJ mA] : List va_W).getD i []) [0] [0] [] (by decide)) hP hD hS hA (pm (f := fun i => ([gM cA aM mI mJ1 mA] : List va_W).getD i []) [0] [0] [] (by decide)) (fun H locs hP hD hS => ?_)
    refine lv_if_eq (tgt := 40) hx hb dX1_calculate_21 (by decide) (fun c2 => ?_) (fun c2 => ?_)
    · replace h := og_pos c2 h
      refine lv_aload_n hx hb dX1_calculate_40 rfl (lv_at hl 0 rfl) ?_
      refine lv_iconst (v := (1 : Int32)) hx hb dX1_calculate_41 (by decide) ?_
      refine lv_iconst (v := (0 : Int32)) hx hb dX1_calculate_42 (by decide) ?_
      obtain ⟨mI3, e3, h⟩ := og_bind h
      refine gc_v (ws := (wl [gM cA aM mI mJ1 mA])) (wc := (wl [gM cA aM mI mJ1 mA])) (wr := (wl ([] : List va_W))) (ws' := (wl [gM cA aM mI3 mJ1 mA])) (va_runV (As := [.int (1 : Int32), .int (0 : Int32)]) (rest := []) ⟨hx, hb, hml, hown, hT⟩ (k_X1_stop l D cA aM H.size (1 : Int32) (0 : Int32) mI mJ1 mA _ e3) (cwV 2 hT gv_RX1_50 rfl rfl rfl (by decide +kernel) ⟨Nat.le_of_ble_eq_true rfl, Nat.le_of_ble_eq_true rfl⟩) (pre_V (ci := 1) (q0 := 0) (wr := (wl ([] : List va_W))) (pm (f := fun i => ([gM cA aM mI mJ1 mA] : List va_W).getD i []) [0] [0] [] (by decide)) hK hP hD rfl rfl) rfl rfl hl.1 rfl (lv_room (Nat.le_of_ble_eq_true rfl)) dX1_calculate_43 ⟨Nat.le_refl _, Nat.le_refl _⟩) (pm (f := fun i => ([gM cA aM mI mJ1 mA] : List va_W).getD i []) [0] [0] [] (by decide)) hP hD hS hA (pm (f := fun i => ([gM cA aM mI3 mJ1 mA] : List va_W).getD i []) [0] [0] [] (by decide)) (fun H locs hP hD hS => ?_)
      refine lv_goto (tgt := 83) hx hb dX1_calculate_46 (by decide) ?_
      exact W.vret hx hb hr (fun t ht hW => ⟨⟨(mI3, mJ1, mA), rfl, (og_inj h).symm, (by rw [ht]; exact hP), hD⟩, hS.F ht⟩) hS.2.2 dX1_calculate_83
    · replace h := og_neg c2 h
      refine lv_aload_n hx hb dX1_calculate_24 rfl (lv_at hl 0 rfl) ?_
      refine va_get (D := D) (C := RX1) (T := TX1) (N := 12) hx hb hT inlX1 hown hK.1 hP 0 rfl rfl 0 (by decide) (hT _ fl_RX1_9) (fun _ h9 => h9) rfl dX1_calculate_25 ?_
      refine lv_iload_n hx hb dX1_calculate_28 rfl (lv_at hl 2 rfl) ?_
      refine lv_iload_n hx hb dX1_calculate_29 rfl (lv_at hl 1 rfl) ?_
      refine lv_iload_n hx hb dX1_calculate_30 rfl (lv_at hl 3 rfl) ?_
      refine lv_iload hx hb dX1_calculate_31 (lv_at hl 4 rfl) ?_
      obtain ⟨⟨r4, _u4⟩, e4, h⟩ := og_bind h
      try dsimp only at h
      refine gc_i (ws := (wl [gM cA aM mI mJ1 mA])) (wc := (wl ([] : List va_W))) (wr := (wl [gM cA aM mI mJ1 mA])) (ws' := (wl [gM cA aM mI mJ1 mA])) (va_runSN (host := RX4) (As := [.int x1, .int x3, .int x4]) (rest := [.int x2, .ref (aM 1)]) ⟨hx, hb, hml, hown, hT⟩ (k_X4_divide l D cA  H.size x1 x3 x4  _ e4) ⟨va_cnB 3 hT (gw cd_yX4_divide_cX4_divide) rfl rfl rfl (hN _ nl_RX1_119) (hT _ ini_RX4) (by decide +kernel) ⟨Nat.le_of_ble_eq_true rfl, Nat.le_of_ble_eq_true rfl⟩, hT _ sc_yX4_divide, trivial⟩ (pre_S (wr := (wl [gM cA aM mI mJ1 mA])) (pm (f := fun i => ([gM cA aM mI mJ1 mA] : List va_W).getD i []) [0] [] [0] (by decide)) hK hP hD) rfl rfl hl.1 rfl (lv_room (Nat.le_of_ble_eq_true rfl)) dX1_calculate_33 ⟨Nat.le_refl _, Nat.le_refl _⟩) (pm (f := fun i => ([gM cA aM mI mJ1 mA] : List va_W).getD i []) [0] [] [0] (by decide)) hP hD hS hA (pm (f := fun i => ([gM cA aM mI mJ1 mA] : List va_W).getD i []) [0] [] [0] (by decide)) (fun H locs hP hD hS => ?_)
      obtain ⟨g5, h⟩ := og_guard h
      refine va_iast hx hb hK.1 hP hD hS 1 0 rfl rfl (inb_vp g5) dX1_calculate_36 (fun H locs hP hD hS => ?_)
      have hP : va_P D vwCl (wl [gM cA aM mI mJ1 (up2 mA 0 x2.toNatClampNeg r4)]) H := hP
      have hD : va_D A (wl [gM cA aM mI mJ1 (up2 mA 0 x2.toNatClampNeg r4)]) := hD
      refine lv_goto (tgt := 83) hx hb dX1_calculate_37 (by decide) ?_
      exact W.vret hx hb hr (fun t ht hW => ⟨⟨(mI, mJ1, (up2 mA 0 x2.toNatClampNeg r4)), rfl, (og_inj h).symm, (by rw [ht]; exact hP), hD⟩, hS.F ht⟩) hS.2.2 dX1_calculate_83
  unfold f_X1_calculate at h
  refine lv_iload_n hx hb dX1_calculate_0 rfl (lv_at hl 1 rfl) ?_
  obtain ⟨⟨r6, _u6⟩, e6, h⟩ := og_bind h
  try dsimp only at h
  refine gc_i (ws := (wl [gM cA aM mI mJ mA])) (wc := (wl ([] : List va_W))) (wr := (wl [gM cA aM mI mJ mA])) (ws' := (wl [gM cA aM mI mJ mA])) (va_runSN (host := RX4) (As := [.int u1]) (rest := []) ⟨hx, hb, hml, hown, hT⟩ (k_X4_isDivision l D cA  s.heap.size u1  _ e6) ⟨va_cnB 1 hT (gw cd_yX4_isDivision_cX4_isDivision) rfl rfl rfl (hN _ nl_RX1_115) (hT _ ini_RX4) (by decide +kernel) ⟨Nat.le_of_ble_eq_true rfl, Nat.le_of_ble_eq_true rfl⟩, hT _ sc_yX4_isDivision, trivial⟩ (pre_S (wr := (wl [gM cA aM mI mJ mA])) (pm (f := fun i => ([gM cA aM mI mJ mA] : List va_W).getD i []) [0] [] [0] (by decide)) hK hP hD) rfl rfl hl.1 rfl (lv_room (Nat.le_of_ble_eq_true rfl)) dX1_calculate_1 ⟨Nat.le_refl _, Nat.le_refl _⟩) (pm (f := fun i => ([gM cA aM mI mJ mA] : List va_W).getD i []) [0] [] [0] (by decide)) hP hD hS hA (pm (f := fun i => ([gM cA aM mI mJ mA] : List va_W).getD i []) [0] [] [0] (by decide)) (fun H locs hP hD hS => ?_)
  refine lv_if_eq (tgt := 49) hx hb dX1_calculate_4 (by decide) (fun c7 => ?_) (fun c7 => ?_)
  · replace h := og_pos c7 h
    refine lv_iload_n hx hb dX1_calculate_49 rfl (lv_at hl 1 rfl) ?_
    refine lv_bipush (v := (24 : Int32)) hx hb dX1_calculate_50 (by decide) ?_
    refine lv_icmp_eq (tgt := 71) hx hb dX1_calculate_52 (by decide) (fun c8 => ?_) (fun c8 => ?_)
    · replace h := og_pos c8 h
      refine lv_iload_n hx hb dX1_calculate_71 rfl (lv_at hl 3 rfl) ?_
      refine lv_if_eq (tgt := 83) hx hb dX1_calculate_72 (by decide) (fun c9 => ?_) (fun c9 => ?_)
      · replace h := og_pos c9 h
        exact W.vret hx hb hr (fun t ht hW => ⟨⟨(mI, mJ, mA), rfl, (og_inj h).symm, (by rw [ht]; exact hP), hD⟩, hS.F ht⟩) hS.2.2 dX1_calculate_83
      · replace h := og_neg c9 h
        refine lv_aload_n hx hb dX1_calculate_75 rfl (lv_at hl 0 rfl) ?_
        refine va_get (D := D) (C := RX1) (T := TX1) (N := 12) hx hb hT inlX1 hown hK.1 hP 0 rfl rfl 0 (by decide) (hT _ fl_RX1_9) (fun _ h9 => h9) rfl dX1_calculate_76 ?_
        refine lv_iload_n hx hb dX1_calculate_79 rfl (lv_at hl 2 rfl) ?_
        refine lv_iload hx hb dX1_calculate_80 (lv_at hl 4 rfl) ?_
        obtain ⟨g10, h⟩ := og_guard h
        refine va_iast hx hb hK.1 hP hD hS 1 0 rfl rfl (inb_vp g10) dX1_calculate_82 (fun H locs hP hD hS => ?_)
        have hP : va_P D vwCl (wl [gM cA aM mI mJ (up2 mA 0 u2.toNatClampNeg u4)]) H := hP
        have hD : va_D A (wl [gM cA aM mI mJ (up2 mA 0 u2.toNatClampNeg u4)]) := hD
        exact W.vret hx hb hr (fun t ht hW => ⟨⟨(mI, mJ, (up2 mA 0 u2.toNatClampNeg u4)), rfl, (og_inj h).symm, (by rw [ht]; exact hP), hD⟩, hS.F ht⟩) hS.2.2 dX1_calculate_83
    · replace h := og_neg c8 h
      refine lv_aload_n hx hb dX1_calculate_55 rfl (lv_at hl 0 rfl) ?_
      refine va_get (D := D) (C := RX1) (T := TX1) (N := 12) hx hb hT inlX1 hown hK.1 hP 0 rfl rfl 0 (by decide) (hT _ fl_RX1_9) (fun _ h9 => h9) rfl dX1_calculate_56 ?_
      refine lv_iload_n hx hb dX1_calculate_59 rfl (lv_at hl 2 rfl) ?_
      refine lv_iload_n hx hb dX1_calculate_60 rfl (lv_at hl 1 rfl) ?_
      refine lv_iload_n hx hb dX1_calculate_61 rfl (lv_at hl 3 rfl) ?_
      refine lv_iload hx hb dX1_calculate_62 (lv_at hl 4 rfl) ?_
      obtain ⟨⟨r11, _u11⟩, e11, h⟩ := og_bind h
      try dsimp only at h
      refine gc_i (ws := (wl [gM cA aM mI mJ mA])) (wc := (wl ([] : List va_W))) (wr := (wl [gM cA aM mI mJ mA])) (ws' := (wl [gM cA aM mI mJ mA])) (va_runSN (host := RX4) (As := [.int u1, .int u3, .int u4]) (rest := [.int u2, .ref (aM 1)]) ⟨hx, hb, hml, hown, hT⟩ (k_X4_combine l D cA  H.size u1 u3 u4  _ e11) ⟨va_cnB 3 hT (gw cd_yX4_combine_cX4_combine) rfl rfl rfl (hN _ nl_RX1_123) (hT _ ini_RX4) (by decide +kernel) ⟨Nat.le_of_ble_eq_true rfl, Nat.le_of_ble_eq_true rfl⟩, hT _ sc_yX4_combine, trivial⟩ (pre_S (wr := (wl [gM cA aM mI mJ mA])) (pm (f := fun i => ([gM cA aM mI mJ mA] : List va_W).getD i []) [0] [] [0] (by decide)) hK hP hD) rfl rfl hl.1 rfl (lv_room (Nat.le_of_ble_eq_true rfl)) dX1_calculate_64 ⟨Nat.le_refl _, Nat.le_refl _⟩) (pm (f := fun i => ([gM cA aM mI mJ mA] : List va_W).getD i []) [0] [] [0] (by decide)) hP hD hS hA (pm (f := fun i => ([gM cA aM mI mJ mA] : List va_W).getD i []) [0] [] [0] (by decide)) (fun H locs hP hD hS => ?_)
      obtain ⟨g12, h⟩ := og_guard h
      refine va_iast hx hb hK.1 hP hD hS 1 0 rfl rfl (inb_vp g12) dX1_calculate_67 (fun H locs hP hD hS => ?_)
      have hP : va_P D vwCl (wl [gM cA aM mI mJ (up2 mA 0 u2.toNatClampNeg r11)]) H := hP
      have hD : va_D A (wl [gM cA aM mI mJ (up2 mA 0 u2.toNatClampNeg r11)]) := hD
      refine lv_goto (tgt := 83) hx hb dX1_calculate_68 (by decide) ?_
      exact W.vret hx hb hr (fun t ht hW => ⟨⟨(mI, mJ, (up2 mA 0 u2.toNatClampNeg r11)), rfl, (og_inj h).symm, (by rw [ht]; exact hP), hD⟩, hS.F ht⟩) hS.2.2 dX1_calculate_83
  · replace h := og_neg c7 h
    refine lv_aload_n hx hb dX1_calculate_7 rfl (lv_at hl 0 rfl) ?_
    refine lv_iload hx hb dX1_calculate_8 (lv_at hl 4 rfl) ?_
    refine lv_if_eq (tgt := 17) hx hb dX1_calculate_10 (by decide) (fun c13 => ?_) (fun c13 => ?_)
    · replace h := og_pos c13 h
      refine lv_iconst (v := (0 : Int32)) hx hb dX1_calculate_17 (by decide) ?_
      exact b18  _ _ _ _ _ _ _ _ _ _ _ h hP hD hS (lv_sub hl [0, 1, 2, 3, 4] rfl)
    · replace h := og_neg c13 h
      refine lv_iconst (v := (1 : Int32)) hx hb dX1_calculate_13 (by decide) ?_
      refine lv_goto (tgt := 18) hx hb dX1_calculate_14 (by decide) ?_
      exact b18  _ _ _ _ _ _ _ _ _ _ _ h hP hD hS (lv_sub hl [0, 1, 2, 3, 4] rfl)
set_option maxRecDepth 100000 in
set_option maxHeartbeats 8000000 in
theorem k_X1_step (l : Launch) (D : va_G) (cA : Nat → ClassId) (aP : Nat → Nat) (aM : Nat → Nat) (sz : Nat) (u2 : Int32) (pI : Nat → Int32) (pA : Nat → Nat → Int32) (mI : Nat → Int32) (mJ : Nat → Int64) (mA : Nat → Nat → Int32) (R : Int32 × (Nat → Int32) × (Nat → Int64) × (Nat → Nat → Int32)) (h : f_X1_step u2 pI pA mI mJ mA = some R) : Met l yX1_step (wsU yX1_step cX1_step 6 (some .int)) ({ frames := 3, cells := 0, slots := 0, locals := 67 }) (PcW D cA (wl [gP cA aP pI pA, gM cA aM mI mJ mA]) sz [.ref (aM 0), .ref (aP 0), .int u2]) (QI D (fun u : (Nat → Int32) × (Nat → Int64) × (Nat → Nat → Int32) => (wl [gP cA aP pI pA, gM cA aM u.1 u.2.1 u.2.2])) R (va_A (wl [gP cA aP pI pA, gM cA aM mI mJ mA]) sz)) 0 0 (va_A (wl [gP cA aP pI pA, gM cA aM mI mJ mA]) sz) := by
  refine Met.ofW (cc := cX1_step) (maxL := 6) (ret := (some .int)) (by decide) rfl ?_
  intro p e s m args below meth c s₁ B hml hv
  obtain ⟨rfl, hsz, hP, hK, hD0⟩ := hv
  have hx := B.exec
  have hb := B.bytes
  have hr := B.returns
  have hts := atoms_spec (ws := (wsU yX1_step cX1_step 6 (some .int))) B.pre
  have hT : ∀ w ∈ wsL_law, w.before ([.ref (aM 0), .ref (aP 0), .int u2] : List Value).toArray s = true := fun w h => hts w (List.mem_cons_of_mem _ h)
  have hown : s.vm.findClass RX1 = some m.cls := findClass_of_methodNamed B.named
  have hlocks := B.notSynchronized
  have hN := hK.2
  subst hsz
  have hD := hD0.self (sz := s.heap.size)
  generalize hAe : va_A (wl [gP cA aP pI pA, gM cA aM mI mJ mA]) s.heap.size = A at hD ⊢
  have hA : ∀ q : Nat, s.heap.size ≤ q → A q := fun q h => by rw [← hAe]; exact Or.inr h
  have hS : va_S A s.heap s.heap [] := va_S.rf
  have hl := lv_entry ([.ref (aM 0), .ref (aP 0), .int u2]) (n := 6) (Nat.le_of_ble_eq_true rfl)
  rw [lg_entry_eq]
  generalize (lg_sl ([.ref (aM 0), .ref (aP 0), .int u2]) ++ List.replicate (6 - (lg_sl ([.ref (aM 0), .ref (aP 0), .int u2])).length) Slot.unset).toArray = ls at hl ⊢
  have hl : lv_has ls 6 [(0, .ref (aM 0)), (1, .ref (aP 0)), (2, .int u2)] := hl
  have b400 : ∀ (mI : Nat → Int32) (mJ : Nat → Int64) (mA : Nat → Nat → Int32) (H : Heap) (locs : List Loc) (ls : Array Slot), f_X1_step_b400 pI pA mI mJ mA = some R → va_P D vwCl (wl [gP cA aP pI pA, gM cA aM mI mJ mA]) H → va_D A (wl [gP cA aP pI pA, gM cA aM mI mJ mA]) → va_S A s.heap H locs → lv_has ls 6 [(0, .ref (aM 0))] → W p l e (headSpec (wsU yX1_step cX1_step 6 (some .int)) ({ frames := 3, cells := 0, slots := 0, locals := 67 })).room s m ([.ref (aM 0), .ref (aP 0), .int u2] : List Value).toArray below meth c H locs 0 0 (MQ below (QI D (fun u : (Nat → Int32) × (Nat → Int64) × (Nat → Nat → Int32) => (wl [gP cA aP pI pA, gM cA aM u.1 u.2.1 u.2.2])) R A) ([.ref (aM 0), .ref (aP 0), .int u2] : List Value).toArray s 0 0 A) (F0 m 400 ls []) := by
    intro mI mJ mA H locs ls h hP hD hS hl
    unfold f_X1_step_b400 at h
    refine lv_aload_n hx hb dX1_step_400 rfl (lv_at hl 0 rfl) ?_
    refine va_get (D := D) (C := RX1) (T := TX1) (N := 12) hx hb hT inlX1 hown hK.1 hP 8 rfl rfl 4 (by decide) (hT _ fl_RX1_32) (fun _ h9 => h9) rfl dX1_step_401 ?_
    refine lv_iconst (v := (1 : Int32)) hx hb dX1_step_404 (by decide) ?_
    refine lv_iadd hx hb dX1_step_405 ?_
    exact W.iret (v := ((mI 1) + (1 : Int32))) hx hb hr (fun t ht hW => ⟨⟨((mI 1) + (1 : Int32)), (mI, mJ, mA), rfl, ⟨(congrArg Prod.fst (og_inj h)).symm, (congrArg Prod.snd (og_inj h)).symm⟩, (by rw [ht]; exact hP), hD⟩, hS.F ht⟩) hS.2.2 dX1_step_406
  have b372 : ∀ (x3 : Int32) (x4 : Int32) (x5 : Int32) (mI : Nat → Int32) (mJ : Nat → Int64) (mA : Nat → Nat → Int32) (H : Heap) (locs : List Loc) (ls : Array Slot), f_X1_step_b372 x3 x4 x5 pI pA mI mJ mA = some R → va_P D vwCl (wl [gP cA aP pI pA, gM cA aM mI mJ mA]) H → va_D A (wl [gP cA aP pI pA, gM cA aM mI mJ mA]) → va_S A s.heap H locs → lv_has ls 6 [(0, .ref (aM 0)), (1, .ref (aP 0)), (3, .int x3), (4, .int x4), (5, .int x5)] → W p l e (headSpec (wsU yX1_step cX1_step 6 (some .int)) ({ frames := 3, cells := 0, slots := 0, locals := 67 })).room s m ([.ref (aM 0), .ref (aP 0), .int u2] : List Value).toArray below meth c H locs 0 0 (MQ below (QI D (fun u : (Nat → Int32) × (Nat → Int64) × (Nat → Nat → Int32) => (wl [gP cA aP pI pA, gM cA aM u.1 u.2.1 u.2.2])) R A) ([.ref (aM 0), .ref (aP 0), .int u2] : List Value).toArray s 0 0 A) (F0 m 372 ls []) := by
    intro x3 x4 x5 mI mJ mA H locs ls h hP hD hS hl
    unfold f_X1_step_b372 at h
    refine lv_aload_n hx hb dX1_step_372 rfl (lv_at hl 0 rfl) ?_
    refine lv_iload_n hx hb dX1_step_373 rfl (lv_at hl 2 rfl) ?_
    refine lv_iload hx hb dX1_step_374 (lv_at hl 3 rfl) ?_
    refine lv_aload_n hx hb dX1_step_376 rfl (lv_at hl 0 rfl) ?_
    refine va_get (D := D) (C := RX1) (T := TX1) (N := 12) hx hb hT inlX1 hown hK.1 hP 8 rfl rfl 0 (by decide) (hT _ fl_RX1_9) (fun _ h9 => h9) rfl dX1_step_377 ?_
    refine lv_iload hx hb dX1_step_380 (lv_at hl 4 rfl) ?_
    obtain ⟨g1, h⟩ := og_guard h
    refine va_iald hx hb hK.1 hP 9 0 rfl rfl (inb_vp g1) dX1_step_382 ?_
    refine lv_aload_n hx hb dX1_step_383 rfl (lv_at hl 0 rfl) ?_
    refine va_get (D := D) (C := RX1) (T := TX1) (N := 12) hx hb hT inlX1 hown hK.1 hP 8 rfl rfl 0 (by decide) (hT _ fl_RX1_9) (fun _ h9 => h9) rfl dX1_step_384 ?_
    refine lv_aload_n hx hb dX1_step_387 rfl (lv_at hl 1 rfl) ?_
    refine va_getN (D := D) (C := RX3) (T := TX3) (N := 12) hx hb hT inlX3 hown hK.1 hP 0 rfl rfl 8 (by decide) (va_Nw.use rfl (hN _ nl_RX1_108)) (fun _ h9 => h9) rfl dX1_step_388 ?_
    refine lv_aload_n hx hb dX1_step_391 rfl (lv_at hl 0 rfl) ?_
    refine va_get (D := D) (C := RX1) (T := TX1) (N := 12) hx hb hT inlX1 hown hK.1 hP 8 rfl rfl 4 (by decide) (hT _ fl_RX1_32) (fun _ h9 => h9) rfl dX1_step_392 ?_
    obtain ⟨g2, h⟩ := og_guard h
    refine va_iald hx hb hK.1 hP 7 0 rfl rfl (inb_vp g2) dX1_step_395 ?_
    obtain ⟨g3, h⟩ := og_guard h
    refine va_iald hx hb hK.1 hP 9 0 rfl rfl (inb_vp g3) dX1_step_396 ?_
    obtain ⟨⟨mI4, mJ4, mA4⟩, e4, h⟩ := og_bind h
    try dsimp only at h
    refine gc_v (ws := (wl [gP cA aP pI pA, gM cA aM mI mJ mA])) (wc := (wl [gM cA aM mI mJ mA])) (wr := (wl [gP cA aP pI pA])) (ws' := (wl [gP cA aP pI pA, gM cA aM mI4 mJ4 mA4])) (va_runV (As := [.int x3, .int x4, .int (mA 0 x5.toNatClampNeg), .int (mA 0 (pA 6 (mI 1).toNatClampNeg).toNatClampNeg)]) (rest := []) ⟨hx, hb, hml, hown, hT⟩ (k_X1_calculate l D cA aM H.size x3 x4 (mA 0 x5.toNatClampNeg) (mA 0 (pA 6 (mI 1).toNatClampNeg).toNatClampNeg) mI mJ mA _ e4) (cwV 4 hT gv_RX1_111 rfl rfl rfl (by decide +kernel) ⟨Nat.le_of_ble_eq_true rfl, Nat.le_of_ble_eq_true rfl⟩) (pre_V (ci := 1) (q0 := 0) (wr := (wl [gP cA aP pI pA])) (pm (f := fun i => ([gP cA aP pI pA, gM cA aM mI mJ mA] : List va_W).getD i []) [0, 1] [1] [0] (by decide)) hK hP hD rfl rfl) rfl rfl hl.1 rfl (lv_room (Nat.le_of_ble_eq_true rfl)) dX1_step_397 ⟨Nat.le_refl _, Nat.le_refl _⟩) (pm (f := fun i => ([gP cA aP pI pA, gM cA aM mI mJ mA] : List va_W).getD i []) [0, 1] [1] [0] (by decide)) hP hD hS hA (pm (f := fun i => ([gP cA aP pI pA, gM cA aM mI4 mJ4 mA4] : List va_W).getD i []) [0, 1] [1] [0] (by decide)) (fun H locs hP hD hS => ?_)
    exact b400  _ _ _ _ _ _ h hP hD hS (lv_sub hl [0] rfl)
  have b312 : ∀ (x5 : Int32) (y1 : Int32) (mI : Nat → Int32) (mJ : Nat → Int64) (mA : Nat → Nat → Int32) (H : Heap) (locs : List Loc) (ls : Array Slot), f_X1_step_b312 x5 y1 pI pA mI mJ mA = some R → va_P D vwCl (wl [gP cA aP pI pA, gM cA aM mI mJ mA]) H → va_D A (wl [gP cA aP pI pA, gM cA aM mI mJ mA]) → va_S A s.heap H locs → lv_has ls 6 [(0, .ref (aM 0)), (5, .int x5)] → W p l e (headSpec (wsU yX1_step cX1_step 6 (some .int)) ({ frames := 3, cells := 0, slots := 0, locals := 67 })).room s m ([.ref (aM 0), .ref (aP 0), .int u2] : List Value).toArray below meth c H locs 0 0 (MQ below (QI D (fun u : (Nat → Int32) × (Nat → Int64) × (Nat → Nat → Int32) => (wl [gP cA aP pI pA, gM cA aM u.1 u.2.1 u.2.2])) R A) ([.ref (aM 0), .ref (aP 0), .int u2] : List Value).toArray s 0 0 A) (F0 m 312 ls [.int y1, .ref (aM 0)]) := by
    intro x5 y1 mI mJ mA H locs ls h hP hD hS hl
    unfold f_X1_step_b312 at h
    obtain ⟨⟨r5, mJ5⟩, e5, h⟩ := og_bind h
    try dsimp only at h
    refine gc_i (ws := (wl [gP cA aP pI pA, gM cA aM mI mJ mA])) (wc := (wl [gM cA aM mI mJ mA])) (wr := (wl [gP cA aP pI pA])) (ws' := (wl [gP cA aP pI pA, gM cA aM mI mJ5 mA])) (va_runV (As := [.int y1]) (rest := []) ⟨hx, hb, hml, hown, hT⟩ (k_X1_decide l D cA aM H.size y1 mI mJ mA _ e5) (cwV 1 hT gv_RX1_100 rfl rfl rfl (by decide +kernel) ⟨Nat.le_of_ble_eq_true rfl, Nat.le_of_ble_eq_true rfl⟩) (pre_V (ci := 1) (q0 := 0) (wr := (wl [gP cA aP pI pA])) (pm (f := fun i => ([gP cA aP pI pA, gM cA aM mI mJ mA] : List va_W).getD i []) [0, 1] [1] [0] (by decide)) hK hP hD rfl rfl) rfl rfl hl.1 rfl (lv_room (Nat.le_of_ble_eq_true rfl)) dX1_step_312 ⟨Nat.le_refl _, Nat.le_refl _⟩) (pm (f := fun i => ([gP cA aP pI pA, gM cA aM mI mJ mA] : List va_W).getD i []) [0, 1] [1] [0] (by decide)) hP hD hS hA (pm (f := fun i => ([gP cA aP pI pA, gM cA aM mI mJ5 mA] : List va_W).getD i []) [0, 1] [1] [0] (by decide)) (fun H locs hP hD hS => ?_)
    refine lv_if_eq (tgt := 323) hx hb dX1_step_315 (by decide) (fun c6 => ?_) (fun c6 => ?_)
    · replace h := og_pos c6 h
      refine lv_aload_n hx hb dX1_step_323 rfl (lv_at hl 0 rfl) ?_
      refine va_get (D := D) (C := RX1) (T := TX1) (N := 12) hx hb hT inlX1 hown hK.1 hP 8 rfl rfl 4 (by decide) (hT _ fl_RX1_32) (fun _ h9 => h9) rfl dX1_step_324 ?_
      refine lv_iconst (v := (1 : Int32)) hx hb dX1_step_327 (by decide) ?_
      refine lv_iadd hx hb dX1_step_328 ?_
      exact W.iret (v := ((mI 1) + (1 : Int32))) hx hb hr (fun t ht hW => ⟨⟨((mI 1) + (1 : Int32)), (mI, mJ5, mA), rfl, ⟨(congrArg Prod.fst (og_inj h)).symm, (congrArg Prod.snd (og_inj h)).symm⟩, (by rw [ht]; exact hP), hD⟩, hS.F ht⟩) hS.2.2 dX1_step_329
    · replace h := og_neg c6 h
      refine lv_iload hx hb dX1_step_318 (lv_at hl 1 rfl) ?_
      refine lv_goto (tgt := 329) hx hb dX1_step_320 (by decide) ?_
      exact W.iret (v := x5) hx hb hr (fun t ht hW => ⟨⟨x5, (mI, mJ5, mA), rfl, ⟨(congrArg Prod.fst (og_inj h)).symm, (congrArg Prod.snd (og_inj h)).symm⟩, (by rw [ht]; exact hP), hD⟩, hS.F ht⟩) hS.2.2 dX1_step_329
  unfold f_X1_step at h
  refine lv_aload_n hx hb dX1_step_0 rfl (lv_at hl 1 rfl) ?_
  refine va_getN (D := D) (C := RX3) (T := TX3) (N := 12) hx hb hT inlX3 hown hK.1 hP 0 rfl rfl 5 (by decide) (va_Nw.use rfl (hN _ nl_RX1_81)) (fun _ h9 => h9) rfl dX1_step_1 ?_
  refine lv_aload_n hx hb dX1_step_4 rfl (lv_at hl 0 rfl) ?_
  refine va_get (D := D) (C := RX1) (T := TX1) (N := 12) hx hb hT inlX1 hown hK.1 hP 8 rfl rfl 4 (by decide) (hT _ fl_RX1_32) (fun _ h9 => h9) rfl dX1_step_5 ?_
  obtain ⟨g7, h⟩ := og_guard h
  refine va_iald hx hb hK.1 hP 4 0 rfl rfl (inb_vp g7) dX1_step_8 ?_
  refine lv_istore_n (lv' := [(3, .int (pA 3 (mI 1).toNatClampNeg)), (0, .ref (aM 0)), (1, .ref (aP 0)), (2, .int u2)]) hx hb dX1_step_9 rfl hl (by decide) rfl (fun ls hl => ?_)
  refine lv_aload_n hx hb dX1_step_10 rfl (lv_at hl 2 rfl) ?_
  refine va_getN (D := D) (C := RX3) (T := TX3) (N := 12) hx hb hT inlX3 hown hK.1 hP 0 rfl rfl 6 (by decide) (va_Nw.use rfl (hN _ nl_RX1_84)) (fun _ h9 => h9) rfl dX1_step_11 ?_
  refine lv_aload_n hx hb dX1_step_14 rfl (lv_at hl 1 rfl) ?_
  refine va_get (D := D) (C := RX1) (T := TX1) (N := 12) hx hb hT inlX1 hown hK.1 hP 8 rfl rfl 4 (by decide) (hT _ fl_RX1_32) (fun _ h9 => h9) rfl dX1_step_15 ?_
  obtain ⟨g8, h⟩ := og_guard h
  refine va_iald hx hb hK.1 hP 5 0 rfl rfl (inb_vp g8) dX1_step_18 ?_
  refine lv_istore (lv' := [(4, .int (pA 4 (mI 1).toNatClampNeg)), (3, .int (pA 3 (mI 1).toNatClampNeg)), (0, .ref (aM 0)), (1, .ref (aP 0)), (2, .int u2)]) hx hb dX1_step_19 hl (by decide) rfl (fun ls hl => ?_)
  refine lv_aload_n hx hb dX1_step_21 rfl (lv_at hl 3 rfl) ?_
  refine va_getN (D := D) (C := RX3) (T := TX3) (N := 12) hx hb hT inlX3 hown hK.1 hP 0 rfl rfl 7 (by decide) (va_Nw.use rfl (hN _ nl_RX1_87)) (fun _ h9 => h9) rfl dX1_step_22 ?_
  refine lv_aload_n hx hb dX1_step_25 rfl (lv_at hl 2 rfl) ?_
  refine va_get (D := D) (C := RX1) (T := TX1) (N := 12) hx hb hT inlX1 hown hK.1 hP 8 rfl rfl 4 (by decide) (hT _ fl_RX1_32) (fun _ h9 => h9) rfl dX1_step_26 ?_
  obtain ⟨g9, h⟩ := og_guard h
  refine va_iald hx hb hK.1 hP 6 0 rfl rfl (inb_vp g9) dX1_step_29 ?_
  refine lv_istore (lv' := [(5, .int (pA 5 (mI 1).toNatClampNeg)), (4, .int (pA 4 (mI 1).toNatClampNeg)), (3, .int (pA 3 (mI 1).toNatClampNeg)), (0, .ref (aM 0)), (1, .ref (aP 0)), (2, .int u2)]) hx hb dX1_step_30 hl (by decide) rfl (fun ls hl => ?_)
  refine lv_iload_n hx hb dX1_step_32 rfl (lv_at hl 2 rfl) ?_
  by_cases c31 : (pA 3 (mI 1).toNatClampNeg) = (0 : Int32)
  · replace h := og_pos c31 h
    refine gs_in (off := 143) (tgt := 176) 0 c31 hx hb dX1_step_33 (by decide +kernel) (by decide) ?_
    refine lv_aload_n hx hb dX1_step_176 rfl (lv_at hl 3 rfl) ?_
    refine va_get (D := D) (C := RX1) (T := TX1) (N := 12) hx hb hT inlX1 hown hK.1 hP 8 rfl rfl 0 (by decide) (hT _ fl_RX1_9) (fun _ h9 => h9) rfl dX1_step_177 ?_
    refine lv_iload hx hb dX1_step_180 (lv_at hl 1 rfl) ?_
    refine lv_iload hx hb dX1_step_182 (lv_at hl 0 rfl) ?_
    obtain ⟨g10, h⟩ := og_guard h
    refine va_iast hx hb hK.1 hP hD hS 9 0 rfl rfl (inb_vp g10) dX1_step_184 (fun H locs hP hD hS => ?_)
    have hP : va_P D vwCl (wl [gP cA aP pI pA, gM cA aM mI mJ (up2 mA 0 (pA 4 (mI 1).toNatClampNeg).toNatClampNeg (pA 5 (mI 1).toNatClampNeg))]) H := hP
    have hD : va_D A (wl [gP cA aP pI pA, gM cA aM mI mJ (up2 mA 0 (pA 4 (mI 1).toNatClampNeg).toNatClampNeg (pA 5 (mI 1).toNatClampNeg))]) := hD
    refine lv_goto (tgt := 400) hx hb dX1_step_185 (by decide) ?_
    exact b400  _ _ _ _ _ _ h hP hD hS (lv_sub hl [3] rfl)
  replace h := og_neg c31 h
  by_cases c32 : (pA 3 (mI 1).toNatClampNeg) = (1 : Int32)
  · replace h := og_pos c32 h
    refine gs_in (off := 155) (tgt := 188) 1 c32 hx hb dX1_step_33 (by decide +kernel) (by decide) ?_
    refine lv_aload_n hx hb dX1_step_188 rfl (lv_at hl 3 rfl) ?_
    refine va_get (D := D) (C := RX1) (T := TX1) (N := 12) hx hb hT inlX1 hown hK.1 hP 8 rfl rfl 0 (by decide) (hT _ fl_RX1_9) (fun _ h9 => h9) rfl dX1_step_189 ?_
    refine lv_iload hx hb dX1_step_192 (lv_at hl 1 rfl) ?_
    refine lv_aload_n hx hb dX1_step_194 rfl (lv_at hl 4 rfl) ?_
    refine lv_iload_n hx hb dX1_step_195 rfl (lv_at hl 5 rfl) ?_
    refine lv_iload hx hb dX1_step_196 (lv_at hl 0 rfl) ?_
    obtain ⟨⟨r11, _u11⟩, e11, h⟩ := og_bind h
    try dsimp only at h
    refine gc_i (ws := (wl [gP cA aP pI pA, gM cA aM mI mJ mA])) (wc := (wl [gP cA aP pI pA])) (wr := (wl [gM cA aM mI mJ mA])) (ws' := (wl [gP cA aP pI pA, gM cA aM mI mJ mA])) (va_runV (As := [.int u2, .int (pA 5 (mI 1).toNatClampNeg)]) (rest := [.int (pA 4 (mI 1).toNatClampNeg), .ref (aM 1)]) ⟨hx, hb, hml, hown, hT⟩ (k_X3_inputIn l D cA aP s.heap.size u2 (pA 5 (mI 1).toNatClampNeg) pI pA _ e11) (cwV 2 hT gv_RX1_90 rfl rfl rfl (by decide +kernel) ⟨Nat.le_of_ble_eq_true rfl, Nat.le_of_ble_eq_true rfl⟩) (pre_V (ci := 3) (q0 := 0) (wr := (wl [gM cA aM mI mJ mA])) (pm (f := fun i => ([gP cA aP pI pA, gM cA aM mI mJ mA] : List va_W).getD i []) [0, 1] [0] [1] (by decide)) hK hP hD rfl rfl) rfl rfl hl.1 rfl (lv_room (Nat.le_of_ble_eq_true rfl)) dX1_step_198 ⟨Nat.le_refl _, Nat.le_refl _⟩) (pm (f := fun i => ([gP cA aP pI pA, gM cA aM mI mJ mA] : List va_W).getD i []) [0, 1] [0] [1] (by decide)) hP hD hS hA (pm (f := fun i => ([gP cA aP pI pA, gM cA aM mI mJ mA] : List va_W).getD i []) [0, 1] [0] [1] (by decide)) (fun H locs hP hD hS => ?_)
    obtain ⟨g12, h⟩ := og_guard h
    refine va_iast hx hb hK.1 hP hD hS 9 0 rfl rfl (inb_vp g12) dX1_step_201 (fun H locs hP hD hS => ?_)
    have hP : va_P D vwCl (wl [gP cA aP pI pA, gM cA aM mI mJ (up2 mA 0 (pA 4 (mI 1).toNatClampNeg).toNatClampNeg r11)]) H := hP
    have hD : va_D A (wl [gP cA aP pI pA, gM cA aM mI mJ (up2 mA 0 (pA 4 (mI 1).toNatClampNeg).toNatClampNeg r11)]) := hD
    refine lv_goto (tgt := 400) hx hb dX1_step_202 (by decide) ?_
    exact b400  _ _ _ _ _ _ h hP hD hS (lv_sub hl [3] rfl)
  replace h := og_neg c32 h
  by_cases c33 : (pA 3 (mI 1).toNatClampNeg) = (2 : Int32)
  · replace h := og_pos c33 h
    refine gs_in (off := 172) (tgt := 205) 2 c33 hx hb dX1_step_33 (by decide +kernel) (by decide) ?_
    refine lv_aload_n hx hb dX1_step_205 rfl (lv_at hl 3 rfl) ?_
    refine va_get (D := D) (C := RX1) (T := TX1) (N := 12) hx hb hT inlX1 hown hK.1 hP 8 rfl rfl 0 (by decide) (hT _ fl_RX1_9) (fun _ h9 => h9) rfl dX1_step_206 ?_
    refine lv_iload hx hb dX1_step_209 (lv_at hl 1 rfl) ?_
    refine lv_aload_n hx hb dX1_step_211 rfl (lv_at hl 3 rfl) ?_
    refine va_get (D := D) (C := RX1) (T := TX1) (N := 12) hx hb hT inlX1 hown hK.1 hP 8 rfl rfl 0 (by decide) (hT _ fl_RX1_9) (fun _ h9 => h9) rfl dX1_step_212 ?_
    refine lv_iload hx hb dX1_step_215 (lv_at hl 0 rfl) ?_
    obtain ⟨g13, h⟩ := og_guard h
    refine va_iald hx hb hK.1 hP 9 0 rfl rfl (inb_vp g13) dX1_step_217 ?_
    obtain ⟨g14, h⟩ := og_guard h
    refine va_iast hx hb hK.1 hP hD hS 9 0 rfl rfl (inb_vp g14) dX1_step_218 (fun H locs hP hD hS => ?_)
    have hP : va_P D vwCl (wl [gP cA aP pI pA, gM cA aM mI mJ (up2 mA 0 (pA 4 (mI 1).toNatClampNeg).toNatClampNeg (mA 0 (pA 5 (mI 1).toNatClampNeg).toNatClampNeg))]) H := hP
    have hD : va_D A (wl [gP cA aP pI pA, gM cA aM mI mJ (up2 mA 0 (pA 4 (mI 1).toNatClampNeg).toNatClampNeg (mA 0 (pA 5 (mI 1).toNatClampNeg).toNatClampNeg))]) := hD
    refine lv_goto (tgt := 400) hx hb dX1_step_219 (by decide) ?_
    exact b400  _ _ _ _ _ _ h hP hD hS (lv_sub hl [3] rfl)
  replace h := og_neg c33 h
  by_cases c34 : (pA 3 (mI 1).toNatClampNeg) = (22 : Int32)
  · replace h := og_pos c34 h
    refine gs_in (off := 189) (tgt := 222) 22 c34 hx hb dX1_step_33 (by decide +kernel) (by decide) ?_
    refine lv_aload_n hx hb dX1_step_222 rfl (lv_at hl 3 rfl) ?_
    refine va_get (D := D) (C := RX1) (T := TX1) (N := 12) hx hb hT inlX1 hown hK.1 hP 8 rfl rfl 0 (by decide) (hT _ fl_RX1_9) (fun _ h9 => h9) rfl dX1_step_223 ?_
    refine lv_iload hx hb dX1_step_226 (lv_at hl 1 rfl) ?_
    refine lv_aload_n hx hb dX1_step_228 rfl (lv_at hl 3 rfl) ?_
    refine va_get (D := D) (C := RX1) (T := TX1) (N := 12) hx hb hT inlX1 hown hK.1 hP 8 rfl rfl 0 (by decide) (hT _ fl_RX1_9) (fun _ h9 => h9) rfl dX1_step_229 ?_
    refine lv_iload hx hb dX1_step_232 (lv_at hl 0 rfl) ?_
    obtain ⟨g15, h⟩ := og_guard h
    refine va_iald hx hb hK.1 hP 9 0 rfl rfl (inb_vp g15) dX1_step_234 ?_
    refine lv_iconst (v := (-1 : Int32)) hx hb dX1_step_235 (by decide) ?_
    refine lv_ixor hx hb dX1_step_236 ?_
    obtain ⟨g16, h⟩ := og_guard h
    refine va_iast hx hb hK.1 hP hD hS 9 0 rfl rfl (inb_vp g16) dX1_step_237 (fun H locs hP hD hS => ?_)
    have hP : va_P D vwCl (wl [gP cA aP pI pA, gM cA aM mI mJ (up2 mA 0 (pA 4 (mI 1).toNatClampNeg).toNatClampNeg ((mA 0 (pA 5 (mI 1).toNatClampNeg).toNatClampNeg) ^^^ (-1 : Int32)))]) H := hP
    have hD : va_D A (wl [gP cA aP pI pA, gM cA aM mI mJ (up2 mA 0 (pA 4 (mI 1).toNatClampNeg).toNatClampNeg ((mA 0 (pA 5 (mI 1).toNatClampNeg).toNatClampNeg) ^^^ (-1 : Int32)))]) := hD
    refine lv_goto (tgt := 400) hx hb dX1_step_238 (by decide) ?_
    exact b400  _ _ _ _ _ _ h hP hD hS (lv_sub hl [3] rfl)
  replace h := og_neg c34 h
  by_cases c35 : (pA 3 (mI 1).toNatClampNeg) = (23 : Int32)
  · replace h := og_pos c35 h
    refine gs_in (off := 208) (tgt := 241) 23 c35 hx hb dX1_step_33 (by decide +kernel) (by decide) ?_
    refine lv_aload_n hx hb dX1_step_241 rfl (lv_at hl 3 rfl) ?_
    refine va_get (D := D) (C := RX1) (T := TX1) (N := 12) hx hb hT inlX1 hown hK.1 hP 8 rfl rfl 0 (by decide) (hT _ fl_RX1_9) (fun _ h9 => h9) rfl dX1_step_242 ?_
    refine lv_iload hx hb dX1_step_245 (lv_at hl 1 rfl) ?_
    refine lv_aload_n hx hb dX1_step_247 rfl (lv_at hl 3 rfl) ?_
    refine va_get (D := D) (C := RX1) (T := TX1) (N := 12) hx hb hT inlX1 hown hK.1 hP 8 rfl rfl 0 (by decide) (hT _ fl_RX1_9) (fun _ h9 => h9) rfl dX1_step_248 ?_
    refine lv_iload hx hb dX1_step_251 (lv_at hl 0 rfl) ?_
    obtain ⟨g17, h⟩ := og_guard h
    refine va_iald hx hb hK.1 hP 9 0 rfl rfl (inb_vp g17) dX1_step_253 ?_
    refine lv_ineg hx hb dX1_step_254 ?_
    obtain ⟨g18, h⟩ := og_guard h
    refine va_iast hx hb hK.1 hP hD hS 9 0 rfl rfl (inb_vp g18) dX1_step_255 (fun H locs hP hD hS => ?_)
    have hP : va_P D vwCl (wl [gP cA aP pI pA, gM cA aM mI mJ (up2 mA 0 (pA 4 (mI 1).toNatClampNeg).toNatClampNeg (-(mA 0 (pA 5 (mI 1).toNatClampNeg).toNatClampNeg)))]) H := hP
    have hD : va_D A (wl [gP cA aP pI pA, gM cA aM mI mJ (up2 mA 0 (pA 4 (mI 1).toNatClampNeg).toNatClampNeg (-(mA 0 (pA 5 (mI 1).toNatClampNeg).toNatClampNeg)))]) := hD
    refine lv_goto (tgt := 400) hx hb dX1_step_256 (by decide) ?_
    exact b400  _ _ _ _ _ _ h hP hD hS (lv_sub hl [3] rfl)
  replace h := og_neg c35 h
  by_cases c36 : (pA 3 (mI 1).toNatClampNeg) = (25 : Int32)
  · replace h := og_pos c36 h
    refine gs_in (off := 226) (tgt := 259) 25 c36 hx hb dX1_step_33 (by decide +kernel) (by decide) ?_
    refine lv_aload_n hx hb dX1_step_259 rfl (lv_at hl 3 rfl) ?_
    refine lv_iload hx hb dX1_step_260 (lv_at hl 1 rfl) ?_
    refine lv_aload_n hx hb dX1_step_262 rfl (lv_at hl 3 rfl) ?_
    refine va_get (D := D) (C := RX1) (T := TX1) (N := 12) hx hb hT inlX1 hown hK.1 hP 8 rfl rfl 0 (by decide) (hT _ fl_RX1_9) (fun _ h9 => h9) rfl dX1_step_263 ?_
    refine lv_iload hx hb dX1_step_266 (lv_at hl 0 rfl) ?_
    obtain ⟨g19, h⟩ := og_guard h
    refine va_iald hx hb hK.1 hP 9 0 rfl rfl (inb_vp g19) dX1_step_268 ?_
    obtain ⟨⟨mI20, mJ20, mA20⟩, e20, h⟩ := og_bind h
    try dsimp only at h
    refine gc_v (ws := (wl [gP cA aP pI pA, gM cA aM mI mJ mA])) (wc := (wl [gM cA aM mI mJ mA])) (wr := (wl [gP cA aP pI pA])) (ws' := (wl [gP cA aP pI pA, gM cA aM mI20 mJ20 mA20])) (va_runV (As := [.int (pA 4 (mI 1).toNatClampNeg), .int (mA 0 (pA 5 (mI 1).toNatClampNeg).toNatClampNeg)]) (rest := []) ⟨hx, hb, hml, hown, hT⟩ (k_X1_load l D cA aM s.heap.size (pA 4 (mI 1).toNatClampNeg) (mA 0 (pA 5 (mI 1).toNatClampNeg).toNatClampNeg) mI mJ mA _ e20) (cwV 2 hT gv_RX1_94 rfl rfl rfl (by decide +kernel) ⟨Nat.le_of_ble_eq_true rfl, Nat.le_of_ble_eq_true rfl⟩) (pre_V (ci := 1) (q0 := 0) (wr := (wl [gP cA aP pI pA])) (pm (f := fun i => ([gP cA aP pI pA, gM cA aM mI mJ mA] : List va_W).getD i []) [0, 1] [1] [0] (by decide)) hK hP hD rfl rfl) rfl rfl hl.1 rfl (lv_room (Nat.le_of_ble_eq_true rfl)) dX1_step_269 ⟨Nat.le_refl _, Nat.le_refl _⟩) (pm (f := fun i => ([gP cA aP pI pA, gM cA aM mI mJ mA] : List va_W).getD i []) [0, 1] [1] [0] (by decide)) hP hD hS hA (pm (f := fun i => ([gP cA aP pI pA, gM cA aM mI20 mJ20 mA20] : List va_W).getD i []) [0, 1] [1] [0] (by decide)) (fun H locs hP hD hS => ?_)
    refine lv_goto (tgt := 400) hx hb dX1_step_272 (by decide) ?_
    exact b400  _ _ _ _ _ _ h hP hD hS (lv_sub hl [3] rfl)
  replace h := og_neg c36 h
  by_cases c37 : (pA 3 (mI 1).toNatClampNeg) = (26 : Int32)
  · replace h := og_pos c37 h
    refine gs_in (off := 242) (tgt := 275) 26 c37 hx hb dX1_step_33 (by decide +kernel) (by decide) ?_
    refine lv_aload_n hx hb dX1_step_275 rfl (lv_at hl 3 rfl) ?_
    refine lv_aload_n hx hb dX1_step_276 rfl (lv_at hl 3 rfl) ?_
    refine va_get (D := D) (C := RX1) (T := TX1) (N := 12) hx hb hT inlX1 hown hK.1 hP 8 rfl rfl 0 (by decide) (hT _ fl_RX1_9) (fun _ h9 => h9) rfl dX1_step_277 ?_
    refine lv_iload hx hb dX1_step_280 (lv_at hl 1 rfl) ?_
    obtain ⟨g21, h⟩ := og_guard h
    refine va_iald hx hb hK.1 hP 9 0 rfl rfl (inb_vp g21) dX1_step_282 ?_
    refine lv_aload_n hx hb dX1_step_283 rfl (lv_at hl 3 rfl) ?_
    refine va_get (D := D) (C := RX1) (T := TX1) (N := 12) hx hb hT inlX1 hown hK.1 hP 8 rfl rfl 0 (by decide) (hT _ fl_RX1_9) (fun _ h9 => h9) rfl dX1_step_284 ?_
    refine lv_iload hx hb dX1_step_287 (lv_at hl 0 rfl) ?_
    obtain ⟨g22, h⟩ := og_guard h
    refine va_iald hx hb hK.1 hP 9 0 rfl rfl (inb_vp g22) dX1_step_289 ?_
    obtain ⟨⟨mI23, mJ23, mA23⟩, e23, h⟩ := og_bind h
    try dsimp only at h
    refine gc_v (ws := (wl [gP cA aP pI pA, gM cA aM mI mJ mA])) (wc := (wl [gM cA aM mI mJ mA])) (wr := (wl [gP cA aP pI pA])) (ws' := (wl [gP cA aP pI pA, gM cA aM mI23 mJ23 mA23])) (va_runV (As := [.int (mA 0 (pA 4 (mI 1).toNatClampNeg).toNatClampNeg), .int (mA 0 (pA 5 (mI 1).toNatClampNeg).toNatClampNeg)]) (rest := []) ⟨hx, hb, hml, hown, hT⟩ (k_X1_store l D cA aM s.heap.size (mA 0 (pA 4 (mI 1).toNatClampNeg).toNatClampNeg) (mA 0 (pA 5 (mI 1).toNatClampNeg).toNatClampNeg) mI mJ mA _ e23) (cwV 2 hT gv_RX1_97 rfl rfl rfl (by decide +kernel) ⟨Nat.le_of_ble_eq_true rfl, Nat.le_of_ble_eq_true rfl⟩) (pre_V (ci := 1) (q0 := 0) (wr := (wl [gP cA aP pI pA])) (pm (f := fun i => ([gP cA aP pI pA, gM cA aM mI mJ mA] : List va_W).getD i []) [0, 1] [1] [0] (by decide)) hK hP hD rfl rfl) rfl rfl hl.1 rfl (lv_room (Nat.le_of_ble_eq_true rfl)) dX1_step_290 ⟨Nat.le_refl _, Nat.le_refl _⟩) (pm (f := fun i => ([gP cA aP pI pA, gM cA aM mI mJ mA] : List va_W).getD i []) [0, 1] [1] [0] (by decide)) hP hD hS hA (pm (f := fun i => ([gP cA aP pI pA, gM cA aM mI23 mJ23 mA23] : List va_W).getD i []) [0, 1] [1] [0] (by decide)) (fun H locs hP hD hS => ?_)
    refine lv_goto (tgt := 400) hx hb dX1_step_293 (by decide) ?_
    exact b400  _ _ _ _ _ _ h hP hD hS (lv_sub hl [3] rfl)
  replace h := og_neg c37 h
  by_cases c38 : (pA 3 (mI 1).toNatClampNeg) = (27 : Int32)
  · replace h := og_pos c38 h
    refine gs_in (off := 263) (tgt := 296) 27 c38 hx hb dX1_step_33 (by decide +kernel) (by decide) ?_
    refine lv_aload_n hx hb dX1_step_296 rfl (lv_at hl 3 rfl) ?_
    refine lv_aload_n hx hb dX1_step_297 rfl (lv_at hl 3 rfl) ?_
    refine va_get (D := D) (C := RX1) (T := TX1) (N := 12) hx hb hT inlX1 hown hK.1 hP 8 rfl rfl 0 (by decide) (hT _ fl_RX1_9) (fun _ h9 => h9) rfl dX1_step_298 ?_
    refine lv_iload hx hb dX1_step_301 (lv_at hl 1 rfl) ?_
    obtain ⟨g24, h⟩ := og_guard h
    refine va_iald hx hb hK.1 hP 9 0 rfl rfl (inb_vp g24) dX1_step_303 ?_
    refine lv_if_eq (tgt := 311) hx hb dX1_step_304 (by decide) (fun c25 => ?_) (fun c25 => ?_)
    · replace h := og_pos c25 h
      refine lv_iconst (v := (0 : Int32)) hx hb dX1_step_311 (by decide) ?_
      exact b312  _ _ _ _ _ _ _ _ h hP hD hS (lv_sub hl [3, 0] rfl)
    · replace h := og_neg c25 h
      refine lv_iconst (v := (1 : Int32)) hx hb dX1_step_307 (by decide) ?_
      refine lv_goto (tgt := 312) hx hb dX1_step_308 (by decide) ?_
      exact b312  _ _ _ _ _ _ _ _ h hP hD hS (lv_sub hl [3, 0] rfl)
  replace h := og_neg c38 h
  by_cases c39 : (pA 3 (mI 1).toNatClampNeg) = (28 : Int32)
  · replace h := og_pos c39 h
    refine gs_in (off := 297) (tgt := 330) 28 c39 hx hb dX1_step_33 (by decide +kernel) (by decide) ?_
    refine lv_iload hx hb dX1_step_330 (lv_at hl 1 rfl) ?_
    exact W.iret (v := (pA 4 (mI 1).toNatClampNeg)) hx hb hr (fun t ht hW => ⟨⟨(pA 4 (mI 1).toNatClampNeg), (mI, mJ, mA), rfl, ⟨(congrArg Prod.fst (og_inj h)).symm, (congrArg Prod.snd (og_inj h)).symm⟩, (by rw [ht]; exact hP), hD⟩, hS.F ht⟩) hS.2.2 dX1_step_332
  replace h := og_neg c39 h
  by_cases c40 : (pA 3 (mI 1).toNatClampNeg) = (29 : Int32)
  · replace h := og_pos c40 h
    refine gs_in (off := 300) (tgt := 333) 29 c40 hx hb dX1_step_33 (by decide +kernel) (by decide) ?_
    refine lv_aload_n hx hb dX1_step_333 rfl (lv_at hl 3 rfl) ?_
    refine lv_aload_n hx hb dX1_step_334 rfl (lv_at hl 3 rfl) ?_
    refine va_get (D := D) (C := RX1) (T := TX1) (N := 12) hx hb hT inlX1 hown hK.1 hP 8 rfl rfl 0 (by decide) (hT _ fl_RX1_9) (fun _ h9 => h9) rfl dX1_step_335 ?_
    refine lv_iload hx hb dX1_step_338 (lv_at hl 1 rfl) ?_
    obtain ⟨g26, h⟩ := og_guard h
    refine va_iald hx hb hK.1 hP 9 0 rfl rfl (inb_vp g26) dX1_step_340 ?_
    obtain ⟨⟨mI27, mJ27⟩, e27, h⟩ := og_bind h
    try dsimp only at h
    refine gc_v (ws := (wl [gP cA aP pI pA, gM cA aM mI mJ mA])) (wc := (wl [gM cA aM mI mJ mA])) (wr := (wl [gP cA aP pI pA])) (ws' := (wl [gP cA aP pI pA, gM cA aM mI27 mJ27 mA])) (va_runV (As := [.int (mA 0 (pA 4 (mI 1).toNatClampNeg).toNatClampNeg)]) (rest := []) ⟨hx, hb, hml, hown, hT⟩ (k_X1_stopUnlessTrue l D cA aM s.heap.size (mA 0 (pA 4 (mI 1).toNatClampNeg).toNatClampNeg) mI mJ mA _ e27) (cwV 1 hT gv_RX1_104 rfl rfl rfl (by decide +kernel) ⟨Nat.le_of_ble_eq_true rfl, Nat.le_of_ble_eq_true rfl⟩) (pre_V (ci := 1) (q0 := 0) (wr := (wl [gP cA aP pI pA])) (pm (f := fun i => ([gP cA aP pI pA, gM cA aM mI mJ mA] : List va_W).getD i []) [0, 1] [1] [0] (by decide)) hK hP hD rfl rfl) rfl rfl hl.1 rfl (lv_room (Nat.le_of_ble_eq_true rfl)) dX1_step_341 ⟨Nat.le_refl _, Nat.le_refl _⟩) (pm (f := fun i => ([gP cA aP pI pA, gM cA aM mI mJ mA] : List va_W).getD i []) [0, 1] [1] [0] (by decide)) hP hD hS hA (pm (f := fun i => ([gP cA aP pI pA, gM cA aM mI27 mJ27 mA] : List va_W).getD i []) [0, 1] [1] [0] (by decide)) (fun H locs hP hD hS => ?_)
    refine lv_goto (tgt := 400) hx hb dX1_step_344 (by decide) ?_
    exact b400  _ _ _ _ _ _ h hP hD hS (lv_sub hl [3] rfl)
  replace h := og_neg c40 h
  by_cases c41 : (pA 3 (mI 1).toNatClampNeg) = (30 : Int32)
  · replace h := og_pos c41 h
    refine gs_in (off := 314) (tgt := 347) 30 c41 hx hb dX1_step_33 (by decide +kernel) (by decide) ?_
    refine lv_aload_n hx hb dX1_step_347 rfl (lv_at hl 3 rfl) ?_
    refine lv_iconst (v := (4 : Int32)) hx hb dX1_step_348 (by decide) ?_
    refine lv_iload hx hb dX1_step_349 (lv_at hl 1 rfl) ?_
    obtain ⟨mI28, e28, h⟩ := og_bind h
    refine gc_v (ws := (wl [gP cA aP pI pA, gM cA aM mI mJ mA])) (wc := (wl [gM cA aM mI mJ mA])) (wr := (wl [gP cA aP pI pA])) (ws' := (wl [gP cA aP pI pA, gM cA aM mI28 mJ mA])) (va_runV (As := [.int (4 : Int32), .int (pA 4 (mI 1).toNatClampNeg)]) (rest := []) ⟨hx, hb, hml, hown, hT⟩ (k_X1_stop l D cA aM s.heap.size (4 : Int32) (pA 4 (mI 1).toNatClampNeg) mI mJ mA _ e28) (cwV 2 hT gv_RX1_50 rfl rfl rfl (by decide +kernel) ⟨Nat.le_of_ble_eq_true rfl, Nat.le_of_ble_eq_true rfl⟩) (pre_V (ci := 1) (q0 := 0) (wr := (wl [gP cA aP pI pA])) (pm (f := fun i => ([gP cA aP pI pA, gM cA aM mI mJ mA] : List va_W).getD i []) [0, 1] [1] [0] (by decide)) hK hP hD rfl rfl) rfl rfl hl.1 rfl (lv_room (Nat.le_of_ble_eq_true rfl)) dX1_step_351 ⟨Nat.le_refl _, Nat.le_refl _⟩) (pm (f := fun i => ([gP cA aP pI pA, gM cA aM mI mJ mA] : List va_W).getD i []) [0, 1] [1] [0] (by decide)) hP hD hS hA (pm (f := fun i => ([gP cA aP pI pA, gM cA aM mI28 mJ mA] : List va_W).getD i []) [0, 1] [1] [0] (by decide)) (fun H locs hP hD hS => ?_)
    refine lv_goto (tgt := 400) hx hb dX1_step_354 (by decide) ?_
    exact b400  _ _ _ _ _ _ h hP hD hS (lv_sub hl [3] rfl)
  replace h := og_neg c41 h
  by_cases c42 : (pA 3 (mI 1).toNatClampNeg) = (31 : Int32)
  · replace h := og_pos c42 h
    refine gs_in (off := 324) (tgt := 357) 31 c42 hx hb dX1_step_33 (by decide +kernel) (by decide) ?_
    refine lv_aload_n hx hb dX1_step_357 rfl (lv_at hl 3 rfl) ?_
    refine lv_iconst (v := (0 : Int32)) hx hb dX1_step_358 (by decide) ?_
    refine lv_aload_n hx hb dX1_step_359 rfl (lv_at hl 3 rfl) ?_
    refine va_get (D := D) (C := RX1) (T := TX1) (N := 12) hx hb hT inlX1 hown hK.1 hP 8 rfl rfl 0 (by decide) (hT _ fl_RX1_9) (fun _ h9 => h9) rfl dX1_step_360 ?_
    refine lv_iload hx hb dX1_step_363 (lv_at hl 1 rfl) ?_
    obtain ⟨g29, h⟩ := og_guard h
    refine va_iald hx hb hK.1 hP 9 0 rfl rfl (inb_vp g29) dX1_step_365 ?_
    obtain ⟨mI30, e30, h⟩ := og_bind h
    refine gc_v (ws := (wl [gP cA aP pI pA, gM cA aM mI mJ mA])) (wc := (wl [gM cA aM mI mJ mA])) (wr := (wl [gP cA aP pI pA])) (ws' := (wl [gP cA aP pI pA, gM cA aM mI30 mJ mA])) (va_runV (As := [.int (0 : Int32), .int (mA 0 (pA 4 (mI 1).toNatClampNeg).toNatClampNeg)]) (rest := []) ⟨hx, hb, hml, hown, hT⟩ (k_X1_stop l D cA aM s.heap.size (0 : Int32) (mA 0 (pA 4 (mI 1).toNatClampNeg).toNatClampNeg) mI mJ mA _ e30) (cwV 2 hT gv_RX1_50 rfl rfl rfl (by decide +kernel) ⟨Nat.le_of_ble_eq_true rfl, Nat.le_of_ble_eq_true rfl⟩) (pre_V (ci := 1) (q0 := 0) (wr := (wl [gP cA aP pI pA])) (pm (f := fun i => ([gP cA aP pI pA, gM cA aM mI mJ mA] : List va_W).getD i []) [0, 1] [1] [0] (by decide)) hK hP hD rfl rfl) rfl rfl hl.1 rfl (lv_room (Nat.le_of_ble_eq_true rfl)) dX1_step_366 ⟨Nat.le_refl _, Nat.le_refl _⟩) (pm (f := fun i => ([gP cA aP pI pA, gM cA aM mI mJ mA] : List va_W).getD i []) [0, 1] [1] [0] (by decide)) hP hD hS hA (pm (f := fun i => ([gP cA aP pI pA, gM cA aM mI30 mJ mA] : List va_W).getD i []) [0, 1] [1] [0] (by decide)) (fun H locs hP hD hS => ?_)
    refine lv_goto (tgt := 400) hx hb dX1_step_369 (by decide) ?_
    exact b400  _ _ _ _ _ _ h hP hD hS (lv_sub hl [3] rfl)
  replace h := og_neg c42 h
  have hdf : W p l e (headSpec (wsU yX1_step cX1_step 6 (some .int)) ({ frames := 3, cells := 0, slots := 0, locals := 67 })).room s m ([.ref (aM 0), .ref (aP 0), .int u2] : List Value).toArray below meth c s.heap [] 0 0 (MQ below (QI D (fun u : (Nat → Int32) × (Nat → Int64) × (Nat → Nat → Int32) => (wl [gP cA aP pI pA, gM cA aM u.1 u.2.1 u.2.2])) R A) ([.ref (aM 0), .ref (aP 0), .int u2] : List Value).toArray s 0 0 A) (F0 m 372 ls []) := by
    exact b372  _ _ _ _ _ _ _ _ _ h hP hD hS (lv_sub hl [3, 4, 2, 1, 0] rfl)
  by_cases c43 : (pA 3 (mI 1).toNatClampNeg) = (3 : Int32)
  · exact gs_in (off := 339) (tgt := 372) 3 c43 hx hb dX1_step_33 (by decide +kernel) (by decide) hdf
  by_cases c44 : (pA 3 (mI 1).toNatClampNeg) = (4 : Int32)
  · exact gs_in (off := 339) (tgt := 372) 4 c44 hx hb dX1_step_33 (by decide +kernel) (by decide) hdf
  by_cases c45 : (pA 3 (mI 1).toNatClampNeg) = (5 : Int32)
  · exact gs_in (off := 339) (tgt := 372) 5 c45 hx hb dX1_step_33 (by decide +kernel) (by decide) hdf
  by_cases c46 : (pA 3 (mI 1).toNatClampNeg) = (6 : Int32)
  · exact gs_in (off := 339) (tgt := 372) 6 c46 hx hb dX1_step_33 (by decide +kernel) (by decide) hdf
  by_cases c47 : (pA 3 (mI 1).toNatClampNeg) = (7 : Int32)
  · exact gs_in (off := 339) (tgt := 372) 7 c47 hx hb dX1_step_33 (by decide +kernel) (by decide) hdf
  by_cases c48 : (pA 3 (mI 1).toNatClampNeg) = (8 : Int32)
  · exact gs_in (off := 339) (tgt := 372) 8 c48 hx hb dX1_step_33 (by decide +kernel) (by decide) hdf
  by_cases c49 : (pA 3 (mI 1).toNatClampNeg) = (9 : Int32)
  · exact gs_in (off := 339) (tgt := 372) 9 c49 hx hb dX1_step_33 (by decide +kernel) (by decide) hdf
  by_cases c50 : (pA 3 (mI 1).toNatClampNeg) = (10 : Int32)
  · exact gs_in (off := 339) (tgt := 372) 10 c50 hx hb dX1_step_33 (by decide +kernel) (by decide) hdf
  by_cases c51 : (pA 3 (mI 1).toNatClampNeg) = (11 : Int32)
  · exact gs_in (off := 339) (tgt := 372) 11 c51 hx hb dX1_step_33 (by decide +kernel) (by decide) hdf
  by_cases c52 : (pA 3 (mI 1).toNatClampNeg) = (12 : Int32)
  · exact gs_in (off := 339) (tgt := 372) 12 c52 hx hb dX1_step_33 (by decide +kernel) (by decide) hdf
  by_cases c53 : (pA 3 (mI 1).toNatClampNeg) = (13 : Int32)
  · exact gs_in (off := 339) (tgt := 372) 13 c53 hx hb dX1_step_33 (by decide +kernel) (by decide) hdf
  by_cases c54 : (pA 3 (mI 1).toNatClampNeg) = (14 : Int32)
  · exact gs_in (off := 339) (tgt := 372) 14 c54 hx hb dX1_step_33 (by decide +kernel) (by decide) hdf
  by_cases c55 : (pA 3 (mI 1).toNatClampNeg) = (15 : Int32)
  · exact gs_in (off := 339) (tgt := 372) 15 c55 hx hb dX1_step_33 (by decide +kernel) (by decide) hdf
  by_cases c56 : (pA 3 (mI 1).toNatClampNeg) = (16 : Int32)
  · exact gs_in (off := 339) (tgt := 372) 16 c56 hx hb dX1_step_33 (by decide +kernel) (by decide) hdf
  by_cases c57 : (pA 3 (mI 1).toNatClampNeg) = (17 : Int32)
  · exact gs_in (off := 339) (tgt := 372) 17 c57 hx hb dX1_step_33 (by decide +kernel) (by decide) hdf
  by_cases c58 : (pA 3 (mI 1).toNatClampNeg) = (18 : Int32)
  · exact gs_in (off := 339) (tgt := 372) 18 c58 hx hb dX1_step_33 (by decide +kernel) (by decide) hdf
  by_cases c59 : (pA 3 (mI 1).toNatClampNeg) = (19 : Int32)
  · exact gs_in (off := 339) (tgt := 372) 19 c59 hx hb dX1_step_33 (by decide +kernel) (by decide) hdf
  by_cases c60 : (pA 3 (mI 1).toNatClampNeg) = (20 : Int32)
  · exact gs_in (off := 339) (tgt := 372) 20 c60 hx hb dX1_step_33 (by decide +kernel) (by decide) hdf
  by_cases c61 : (pA 3 (mI 1).toNatClampNeg) = (21 : Int32)
  · exact gs_in (off := 339) (tgt := 372) 21 c61 hx hb dX1_step_33 (by decide +kernel) (by decide) hdf
  by_cases c62 : (pA 3 (mI 1).toNatClampNeg) = (24 : Int32)
  · exact gs_in (off := 339) (tgt := 372) 24 c62 hx hb dX1_step_33 (by decide +kernel) (by decide) hdf
  refine lv_tableOut (tgt := 372) hx hb dX1_step_33 (gs_out 32 (by decide) (fun k9 hk9 => ?_)) (by decide) ?_
  · rcases (show k9 = 0 ∨ k9 = 1 ∨ k9 = 2 ∨ k9 = 3 ∨ k9 = 4 ∨ k9 = 5 ∨ k9 = 6 ∨ k9 = 7 ∨ k9 = 8 ∨ k9 = 9 ∨ k9 = 10 ∨ k9 = 11 ∨ k9 = 12 ∨ k9 = 13 ∨ k9 = 14 ∨ k9 = 15 ∨ k9 = 16 ∨ k9 = 17 ∨ k9 = 18 ∨ k9 = 19 ∨ k9 = 20 ∨ k9 = 21 ∨ k9 = 22 ∨ k9 = 23 ∨ k9 = 24 ∨ k9 = 25 ∨ k9 = 26 ∨ k9 = 27 ∨ k9 = 28 ∨ k9 = 29 ∨ k9 = 30 ∨ k9 = 31 by omega) with rfl | rfl | rfl | rfl | rfl | rfl | rfl | rfl | rfl | rfl | rfl | rfl | rfl | rfl | rfl | rfl | rfl | rfl | rfl | rfl | rfl | rfl | rfl | rfl | rfl | rfl | rfl | rfl | rfl | rfl | rfl | rfl
    · exact gs_ne c31 (by decide +kernel)
    · exact gs_ne c32 (by decide +kernel)
    · exact gs_ne c33 (by decide +kernel)
    · exact gs_ne c43 (by decide +kernel)
    · exact gs_ne c44 (by decide +kernel)
    · exact gs_ne c45 (by decide +kernel)
    · exact gs_ne c46 (by decide +kernel)
    · exact gs_ne c47 (by decide +kernel)
    · exact gs_ne c48 (by decide +kernel)
    · exact gs_ne c49 (by decide +kernel)
    · exact gs_ne c50 (by decide +kernel)
    · exact gs_ne c51 (by decide +kernel)
    · exact gs_ne c52 (by decide +kernel)
    · exact gs_ne c53 (by decide +kernel)
    · exact gs_ne c54 (by decide +kernel)
    · exact gs_ne c55 (by decide +kernel)
    · exact gs_ne c56 (by decide +kernel)
    · exact gs_ne c57 (by decide +kernel)
    · exact gs_ne c58 (by decide +kernel)
    · exact gs_ne c59 (by decide +kernel)
    · exact gs_ne c60 (by decide +kernel)
    · exact gs_ne c61 (by decide +kernel)
    · exact gs_ne c34 (by decide +kernel)
    · exact gs_ne c35 (by decide +kernel)
    · exact gs_ne c62 (by decide +kernel)
    · exact gs_ne c36 (by decide +kernel)
    · exact gs_ne c37 (by decide +kernel)
    · exact gs_ne c38 (by decide +kernel)
    · exact gs_ne c39 (by decide +kernel)
    · exact gs_ne c40 (by decide +kernel)
    · exact gs_ne c41 (by decide +kernel)
    · exact gs_ne c42 (by decide +kernel)
  exact hdf
set_option maxRecDepth 100000 in
set_option maxHeartbeats 8000000 in
theorem k_X1_begin0 (l : Launch) (D : va_G) (cA : Nat → ClassId) (aM : Nat → Nat) (sz : Nat) (n : Nat) (mI : Nat → Int32) (mJ : Nat → Int64) (mA : Nat → Nat → Int32) (R : (Nat → Int32) × (Nat → Int64) × (Nat → Nat → Int32)) (h : f_X1_begin0 n mI mJ mA = some R) : Met l yX1_begin (wsU yX1_begin cX1_begin 2 none) ({ frames := 1, cells := 0, slots := 0, locals := 23 }) (PcW D cA (wl [gM cA aM mI mJ mA]) sz [.ref (aM 0), .null]) (QV D (fun u : (Nat → Int32) × (Nat → Int64) × (Nat → Nat → Int32) => (wl [gM cA aM u.1 u.2.1 u.2.2])) R (va_A (wl [gM cA aM mI mJ mA]) sz)) 0 0 (va_A (wl [gM cA aM mI mJ mA]) sz) := by
  refine Met.ofW (cc := cX1_begin) (maxL := 2) (ret := none) (by decide) rfl ?_
  intro p e s m args below meth c s₁ B hml hv
  obtain ⟨rfl, hsz, hP, hK, hD0⟩ := hv
  have hx := B.exec
  have hb := B.bytes
  have hr := B.returns
  have hts := atoms_spec (ws := (wsU yX1_begin cX1_begin 2 none)) B.pre
  have hT : ∀ w ∈ wsL_law, w.before ([.ref (aM 0), .null] : List Value).toArray s = true := fun w h => hts w (List.mem_cons_of_mem _ h)
  have hown : s.vm.findClass RX1 = some m.cls := findClass_of_methodNamed B.named
  have hlocks := B.notSynchronized
  have hN := hK.2
  subst hsz
  have hD := hD0.self (sz := s.heap.size)
  generalize hAe : va_A (wl [gM cA aM mI mJ mA]) s.heap.size = A at hD ⊢
  have hA : ∀ q : Nat, s.heap.size ≤ q → A q := fun q h => by rw [← hAe]; exact Or.inr h
  have hS : va_S A s.heap s.heap [] := va_S.rf
  have hl := lv_entry ([.ref (aM 0), .null]) (n := 2) (Nat.le_of_ble_eq_true rfl)
  rw [lg_entry_eq]
  generalize (lg_sl ([.ref (aM 0), .null]) ++ List.replicate (2 - (lg_sl ([.ref (aM 0), .null])).length) Slot.unset).toArray = ls at hl ⊢
  have hl : lv_has ls 2 [(0, .ref (aM 0)), (1, .null)] := hl
  have b42 : ∀ (y1 : Int64) (mI : Nat → Int32) (mJ : Nat → Int64) (mA : Nat → Nat → Int32) (H : Heap) (locs : List Loc) (ls : Array Slot), f_X1_begin0_b42 n y1 mI mJ mA = some R → va_P D vwCl (wl [gM cA aM mI mJ mA]) H → va_D A (wl [gM cA aM mI mJ mA]) → va_S A s.heap H locs → lv_has ls 2 [(0, .ref (aM 0))] → W p l e (headSpec (wsU yX1_begin cX1_begin 2 none) ({ frames := 1, cells := 0, slots := 0, locals := 23 })).room s m ([.ref (aM 0), .null] : List Value).toArray below meth c H locs 0 0 (MQ below (QV D (fun u : (Nat → Int32) × (Nat → Int64) × (Nat → Nat → Int32) => (wl [gM cA aM u.1 u.2.1 u.2.2])) R A) ([.ref (aM 0), .null] : List Value).toArray s 0 0 A) (F0 m 42 ls [.long y1, .ref (aM 0)]) := by
    intro y1 mI mJ mA H locs ls h hP hD hS hl
    unfold f_X1_begin0_b42 at h
    refine va_put (D := D) (v := .long y1) (ty := .long) (C := RX1) (T := TX1) (N := 12) hx hb hT inlX1 tyX1 tyX1_ok nmX1 hown hK.1 hP hD hS 0 rfl rfl 3 (by decide) (hT _ fl_RX1_68) (fun _ h9 => h9) rfl (by decide +kernel) rfl rfl (Nat.le_of_ble_eq_true rfl) dX1_begin_42 (fun H locs hP hD hS => ?_)
    have hP : va_P D vwCl (wl [gM cA aM mI (vp_updL mJ 0 y1) mA]) H := hP
    have hD : va_D A (wl [gM cA aM mI (vp_updL mJ 0 y1) mA]) := hD
    refine lv_aload_n hx hb dX1_begin_45 rfl (lv_at hl 0 rfl) ?_
    refine lv_lconst (v := (0 : Int64)) hx hb dX1_begin_46 (by decide) ?_
    refine va_put (D := D) (v := .long (0 : Int64)) (ty := .long) (C := RX1) (T := TX1) (N := 12) hx hb hT inlX1 tyX1 tyX1_ok nmX1 hown hK.1 hP hD hS 0 rfl rfl 6 (by decide) (hT _ fl_RX1_43) (fun _ h9 => h9) rfl (by decide +kernel) rfl rfl (Nat.le_of_ble_eq_true rfl) dX1_begin_47 (fun H locs hP hD hS => ?_)
    have hP : va_P D vwCl (wl [gM cA aM mI (vp_updL (vp_updL mJ 0 y1) 2 (0 : Int64)) mA]) H := hP
    have hD : va_D A (wl [gM cA aM mI (vp_updL (vp_updL mJ 0 y1) 2 (0 : Int64)) mA]) := hD
    refine lv_aload_n hx hb dX1_begin_50 rfl (lv_at hl 0 rfl) ?_
    refine lv_lconst (v := (0 : Int64)) hx hb dX1_begin_51 (by decide) ?_
    refine va_put (D := D) (v := .long (0 : Int64)) (ty := .long) (C := RX1) (T := TX1) (N := 12) hx hb hT inlX1 tyX1 tyX1_ok nmX1 hown hK.1 hP hD hS 0 rfl rfl 7 (by decide) (hT _ fl_RX1_71) (fun _ h9 => h9) rfl (by decide +kernel) rfl rfl (Nat.le_of_ble_eq_true rfl) dX1_begin_52 (fun H locs hP hD hS => ?_)
    have hP : va_P D vwCl (wl [gM cA aM mI (vp_updL (vp_updL (vp_updL mJ 0 y1) 2 (0 : Int64)) 3 (0 : Int64)) mA]) H := hP
    have hD : va_D A (wl [gM cA aM mI (vp_updL (vp_updL (vp_updL mJ 0 y1) 2 (0 : Int64)) 3 (0 : Int64)) mA]) := hD
    refine lv_aload_n hx hb dX1_begin_55 rfl (lv_at hl 0 rfl) ?_
    refine lv_lconst (v := (0 : Int64)) hx hb dX1_begin_56 (by decide) ?_
    refine va_put (D := D) (v := .long (0 : Int64)) (ty := .long) (C := RX1) (T := TX1) (N := 12) hx hb hT inlX1 tyX1 tyX1_ok nmX1 hown hK.1 hP hD hS 0 rfl rfl 8 (by decide) (hT _ fl_RX1_74) (fun _ h9 => h9) rfl (by decide +kernel) rfl rfl (Nat.le_of_ble_eq_true rfl) dX1_begin_57 (fun H locs hP hD hS => ?_)
    have hP : va_P D vwCl (wl [gM cA aM mI (vp_updL (vp_updL (vp_updL (vp_updL mJ 0 y1) 2 (0 : Int64)) 3 (0 : Int64)) 4 (0 : Int64)) mA]) H := hP
    have hD : va_D A (wl [gM cA aM mI (vp_updL (vp_updL (vp_updL (vp_updL mJ 0 y1) 2 (0 : Int64)) 3 (0 : Int64)) 4 (0 : Int64)) mA]) := hD
    refine lv_aload_n hx hb dX1_begin_60 rfl (lv_at hl 0 rfl) ?_
    refine lv_iconst (v := (0 : Int32)) hx hb dX1_begin_61 (by decide) ?_
    refine va_put (D := D) (v := .int (0 : Int32)) (ty := .boolean) (C := RX1) (T := TX1) (N := 12) hx hb hT inlX1 tyX1 tyX1_ok nmX1 hown hK.1 hP hD hS 0 rfl rfl 9 (by decide) (hT _ fl_RX1_28) (fun _ h9 => h9) rfl (by decide +kernel) (by decide +kernel) (by decide +kernel) (Nat.le_of_ble_eq_true rfl) dX1_begin_62 (fun H locs hP hD hS => ?_)
    have hP : va_P D vwCl (wl [gM cA aM (upd mI 2 (0 : Int32)) (vp_updL (vp_updL (vp_updL (vp_updL mJ 0 y1) 2 (0 : Int64)) 3 (0 : Int64)) 4 (0 : Int64)) mA]) H := hP
    have hD : va_D A (wl [gM cA aM (upd mI 2 (0 : Int32)) (vp_updL (vp_updL (vp_updL (vp_updL mJ 0 y1) 2 (0 : Int64)) 3 (0 : Int64)) 4 (0 : Int64)) mA]) := hD
    exact W.vret hx hb hr (fun t ht hW => ⟨⟨((upd mI 2 (0 : Int32)), (vp_updL (vp_updL (vp_updL (vp_updL mJ 0 y1) 2 (0 : Int64)) 3 (0 : Int64)) 4 (0 : Int64)), mA), rfl, (og_inj h).symm, (by rw [ht]; exact hP), hD⟩, hS.F ht⟩) hS.2.2 dX1_begin_65
  have b26 : ∀ (y1 : Int32) (mI : Nat → Int32) (mJ : Nat → Int64) (mA : Nat → Nat → Int32) (H : Heap) (locs : List Loc) (ls : Array Slot), f_X1_begin0_b26 n y1 mI mJ mA = some R → va_P D vwCl (wl [gM cA aM mI mJ mA]) H → va_D A (wl [gM cA aM mI mJ mA]) → va_S A s.heap H locs → lv_has ls 2 [(0, .ref (aM 0)), (1, .null)] → W p l e (headSpec (wsU yX1_begin cX1_begin 2 none) ({ frames := 1, cells := 0, slots := 0, locals := 23 })).room s m ([.ref (aM 0), .null] : List Value).toArray below meth c H locs 0 0 (MQ below (QV D (fun u : (Nat → Int32) × (Nat → Int64) × (Nat → Nat → Int32) => (wl [gM cA aM u.1 u.2.1 u.2.2])) R A) ([.ref (aM 0), .null] : List Value).toArray s 0 0 A) (F0 m 26 ls [.int y1, .ref (aM 0)]) := by
    intro y1 mI mJ mA H locs ls h hP hD hS hl
    unfold f_X1_begin0_b26 at h
    obtain ⟨g1, h⟩ := og_guard h
    refine va_put (D := D) (v := .int y1) (ty := .boolean) (C := RX1) (T := TX1) (N := 12) hx hb hT inlX1 tyX1 tyX1_ok nmX1 hown hK.1 hP hD hS 0 rfl rfl 2 (by decide) (hT _ fl_RX1_60) (fun _ h9 => h9) rfl (by decide +kernel) (bo_nar g1) (bo_fit g1) (Nat.le_of_ble_eq_true rfl) dX1_begin_26 (fun H locs hP hD hS => ?_)
    have hP : va_P D vwCl (wl [gM cA aM (upd mI 0 y1) mJ mA]) H := hP
    have hD : va_D A (wl [gM cA aM (upd mI 0 y1) mJ mA]) := hD
    refine lv_aload_n hx hb dX1_begin_29 rfl (lv_at hl 0 rfl) ?_
    refine lv_aload_nN hx hb dX1_begin_30 rfl (lv_at hl 1 rfl) ?_
    refine lv_ifnullN (tgt := 41) hx hb dX1_begin_31 (by decide) ?_
    refine lv_lconst (v := (0 : Int64)) hx hb dX1_begin_41 (by decide) ?_
    exact b42  _ _ _ _ _ _ _ h hP hD hS (lv_sub hl [0] rfl)
  unfold f_X1_begin0 at h
  refine lv_aload_n hx hb dX1_begin_0 rfl (lv_at hl 0 rfl) ?_
  refine va_get (D := D) (C := RX1) (T := TX1) (N := 12) hx hb hT inlX1 hown hK.1 hP 0 rfl rfl 0 (by decide) (hT _ fl_RX1_9) (fun _ h9 => h9) rfl dX1_begin_1 ?_
  refine lv_iconst (v := (0 : Int32)) hx hb dX1_begin_4 (by decide) ?_
  obtain ⟨xA2, e2, h⟩ := og_bind h
  refine gc_v (ws := (wl [gM cA aM mI mJ mA])) (wc := (wl [gX cA (aM 1) 16 (mA 0)])) (wr := ((wl [gM cA aM mI mJ mA]).eraseIdx 1)) (ws' := (wl [gM cA aM mI mJ (va_up mA 0 xA2)])) (va_runS (As := [.ref (aM 1), .int (0 : Int32)]) (rest := []) ⟨hx, hb, hml, hown, hT⟩ (k_J7_fill_53178 l D cA (aM 1) 16 s.heap.size n (0 : Int32) (mA 0) _ e2) (va_cwS 2 hT gs_RX1_54 rfl rfl rfl (by decide +kernel) ⟨Nat.le_of_ble_eq_true rfl, Nat.le_of_ble_eq_true rfl⟩) (pre_S (wr := ((wl [gM cA aM mI mJ mA]).eraseIdx 1)) (px 1 rfl) hK hP hD) rfl rfl hl.1 rfl (lv_room (Nat.le_of_ble_eq_true rfl)) dX1_begin_5 ⟨Nat.le_refl _, Nat.le_refl _⟩) (px 1 rfl) hP hD hS hA (px' 1 rfl rfl) (fun H locs hP hD hS => ?_)
  refine lv_aload_n hx hb dX1_begin_8 rfl (lv_at hl 0 rfl) ?_
  refine va_get (D := D) (C := RX1) (T := TX1) (N := 12) hx hb hT inlX1 hown hK.1 hP 0 rfl rfl 1 (by decide) (hT _ fl_RX1_15) (fun _ h9 => h9) rfl dX1_begin_9 ?_
  refine lv_iconst (v := (0 : Int32)) hx hb dX1_begin_12 (by decide) ?_
  obtain ⟨xA3, e3, h⟩ := og_bind h
  refine gc_v (ws := (wl [gM cA aM mI mJ (va_up mA 0 xA2)])) (wc := (wl [gX cA (aM 2) 8 ((va_up mA 0 xA2) 1)])) (wr := ((wl [gM cA aM mI mJ (va_up mA 0 xA2)]).eraseIdx 2)) (ws' := (wl [gM cA aM mI mJ (va_up (va_up mA 0 xA2) 1 xA3)])) (va_runS (As := [.ref (aM 2), .int (0 : Int32)]) (rest := []) ⟨hx, hb, hml, hown, hT⟩ (k_J7_fill_53178 l D cA (aM 2) 8 H.size n (0 : Int32) ((va_up mA 0 xA2) 1) _ e3) (va_cwS 2 hT gs_RX1_54 rfl rfl rfl (by decide +kernel) ⟨Nat.le_of_ble_eq_true rfl, Nat.le_of_ble_eq_true rfl⟩) (pre_S (wr := ((wl [gM cA aM mI mJ (va_up mA 0 xA2)]).eraseIdx 2)) (px 2 rfl) hK hP hD) rfl rfl hl.1 rfl (lv_room (Nat.le_of_ble_eq_true rfl)) dX1_begin_13 ⟨Nat.le_refl _, Nat.le_refl _⟩) (px 2 rfl) hP hD hS hA (px' 2 rfl rfl) (fun H locs hP hD hS => ?_)
  refine lv_aload_n hx hb dX1_begin_16 rfl (lv_at hl 0 rfl) ?_
  refine lv_aload_nN hx hb dX1_begin_17 rfl (lv_at hl 1 rfl) ?_
  refine lv_ifnullN (tgt := 25) hx hb dX1_begin_18 (by decide) ?_
  refine lv_iconst (v := (0 : Int32)) hx hb dX1_begin_25 (by decide) ?_
  exact b26  _ _ _ _ _ _ _ h hP hD hS (lv_sub hl [0, 1] rfl)
set_option maxRecDepth 100000 in
set_option maxHeartbeats 8000000 in
theorem k_X1_begin1 (l : Launch) (D : va_G) (cA : Nat → ClassId) (aM : Nat → Nat) (L : List Nat) (sz : Nat) (n : Nat) (u1 : Nat) (mI : Nat → Int32) (mJ : Nat → Int64) (mA : Nat → Nat → Int32) (qI : Nat → Nat → Int32) (qJ : Nat → Nat → Int64) (R : (Nat → Int32) × (Nat → Int64) × (Nat → Nat → Int32)) (h : f_X1_begin1 n L u1 mI mJ mA qJ = some R) : Met l yX1_begin (wsU yX1_begin cX1_begin 2 none) ({ frames := 1, cells := 0, slots := 0, locals := 23 }) (PcW D cA (wl [gM cA aM mI mJ mA] ++ gQ L qI qJ) sz [.ref (aM 0), .ref u1]) (QV D (fun u : (Nat → Int32) × (Nat → Int64) × (Nat → Nat → Int32) => (wl [gM cA aM u.1 u.2.1 u.2.2] ++ gQ L qI qJ)) R (va_A (wl [gM cA aM mI mJ mA] ++ gQ L qI qJ) sz)) 0 0 (va_A (wl [gM cA aM mI mJ mA] ++ gQ L qI qJ) sz) := by
  refine Met.ofW (cc := cX1_begin) (maxL := 2) (ret := none) (by decide) rfl ?_
  intro p e s m args below meth c s₁ B hml hv
  obtain ⟨rfl, hsz, hP, hK, hD0⟩ := hv
  have hx := B.exec
  have hb := B.bytes
  have hr := B.returns
  have hts := atoms_spec (ws := (wsU yX1_begin cX1_begin 2 none)) B.pre
  have hT : ∀ w ∈ wsL_law, w.before ([.ref (aM 0), .ref u1] : List Value).toArray s = true := fun w h => hts w (List.mem_cons_of_mem _ h)
  have hown : s.vm.findClass RX1 = some m.cls := findClass_of_methodNamed B.named
  have hlocks := B.notSynchronized
  have hN := hK.2
  subst hsz
  have hD := hD0.self (sz := s.heap.size)
  generalize hAe : va_A (wl [gM cA aM mI mJ mA] ++ gQ L qI qJ) s.heap.size = A at hD ⊢
  have hA : ∀ q : Nat, s.heap.size ≤ q → A q := fun q h => by rw [← hAe]; exact Or.inr h
  have hS : va_S A s.heap s.heap [] := va_S.rf
  have hl := lv_entry ([.ref (aM 0), .ref u1]) (n := 2) (Nat.le_of_ble_eq_true rfl)
  rw [lg_entry_eq]
  generalize (lg_sl ([.ref (aM 0), .ref u1]) ++ List.replicate (2 - (lg_sl ([.ref (aM 0), .ref u1])).length) Slot.unset).toArray = ls at hl ⊢
  have hl : lv_has ls 2 [(0, .ref (aM 0)), (1, .ref u1)] := hl
  have b42 : ∀ (y1 : Int64) (mI : Nat → Int32) (mJ : Nat → Int64) (mA : Nat → Nat → Int32) (H : Heap) (locs : List Loc) (ls : Array Slot), f_X1_begin1_b42 n L y1 mI mJ mA qJ = some R → va_P D vwCl (wl [gM cA aM mI mJ mA] ++ gQ L qI qJ) H → va_D A (wl [gM cA aM mI mJ mA] ++ gQ L qI qJ) → va_S A s.heap H locs → lv_has ls 2 [(0, .ref (aM 0))] → W p l e (headSpec (wsU yX1_begin cX1_begin 2 none) ({ frames := 1, cells := 0, slots := 0, locals := 23 })).room s m ([.ref (aM 0), .ref u1] : List Value).toArray below meth c H locs 0 0 (MQ below (QV D (fun u : (Nat → Int32) × (Nat → Int64) × (Nat → Nat → Int32) => (wl [gM cA aM u.1 u.2.1 u.2.2] ++ gQ L qI qJ)) R A) ([.ref (aM 0), .ref u1] : List Value).toArray s 0 0 A) (F0 m 42 ls [.long y1, .ref (aM 0)]) := by
    intro y1 mI mJ mA H locs ls h hP hD hS hl
    unfold f_X1_begin1_b42 at h
    refine va_put (D := D) (v := .long y1) (ty := .long) (C := RX1) (T := TX1) (N := 12) hx hb hT inlX1 tyX1 tyX1_ok nmX1 hown hK.1 hP hD hS 0 rfl rfl 3 (by decide) (hT _ fl_RX1_68) (fun _ h9 => h9) rfl (by decide +kernel) rfl rfl (Nat.le_of_ble_eq_true rfl) dX1_begin_42 (fun H locs hP hD hS => ?_)
    have hP : va_P D vwCl (wl [gM cA aM mI (vp_updL mJ 0 y1) mA] ++ gQ L qI qJ) H := hP
    have hD : va_D A (wl [gM cA aM mI (vp_updL mJ 0 y1) mA] ++ gQ L qI qJ) := hD
    refine lv_aload_n hx hb dX1_begin_45 rfl (lv_at hl 0 rfl) ?_
    refine lv_lconst (v := (0 : Int64)) hx hb dX1_begin_46 (by decide) ?_
    refine va_put (D := D) (v := .long (0 : Int64)) (ty := .long) (C := RX1) (T := TX1) (N := 12) hx hb hT inlX1 tyX1 tyX1_ok nmX1 hown hK.1 hP hD hS 0 rfl rfl 6 (by decide) (hT _ fl_RX1_43) (fun _ h9 => h9) rfl (by decide +kernel) rfl rfl (Nat.le_of_ble_eq_true rfl) dX1_begin_47 (fun H locs hP hD hS => ?_)
    have hP : va_P D vwCl (wl [gM cA aM mI (vp_updL (vp_updL mJ 0 y1) 2 (0 : Int64)) mA] ++ gQ L qI qJ) H := hP
    have hD : va_D A (wl [gM cA aM mI (vp_updL (vp_updL mJ 0 y1) 2 (0 : Int64)) mA] ++ gQ L qI qJ) := hD
    refine lv_aload_n hx hb dX1_begin_50 rfl (lv_at hl 0 rfl) ?_
    refine lv_lconst (v := (0 : Int64)) hx hb dX1_begin_51 (by decide) ?_
    refine va_put (D := D) (v := .long (0 : Int64)) (ty := .long) (C := RX1) (T := TX1) (N := 12) hx hb hT inlX1 tyX1 tyX1_ok nmX1 hown hK.1 hP hD hS 0 rfl rfl 7 (by decide) (hT _ fl_RX1_71) (fun _ h9 => h9) rfl (by decide +kernel) rfl rfl (Nat.le_of_ble_eq_true rfl) dX1_begin_52 (fun H locs hP hD hS => ?_)
    have hP : va_P D vwCl (wl [gM cA aM mI (vp_updL (vp_updL (vp_updL mJ 0 y1) 2 (0 : Int64)) 3 (0 : Int64)) mA] ++ gQ L qI qJ) H := hP
    have hD : va_D A (wl [gM cA aM mI (vp_updL (vp_updL (vp_updL mJ 0 y1) 2 (0 : Int64)) 3 (0 : Int64)) mA] ++ gQ L qI qJ) := hD
    refine lv_aload_n hx hb dX1_begin_55 rfl (lv_at hl 0 rfl) ?_
    refine lv_lconst (v := (0 : Int64)) hx hb dX1_begin_56 (by decide) ?_
    refine va_put (D := D) (v := .long (0 : Int64)) (ty := .long) (C := RX1) (T := TX1) (N := 12) hx hb hT inlX1 tyX1 tyX1_ok nmX1 hown hK.1 hP hD hS 0 rfl rfl 8 (by decide) (hT _ fl_RX1_74) (fun _ h9 => h9) rfl (by decide +kernel) rfl rfl (Nat.le_of_ble_eq_true rfl) dX1_begin_57 (fun H locs hP hD hS => ?_)
    have hP : va_P D vwCl (wl [gM cA aM mI (vp_updL (vp_updL (vp_updL (vp_updL mJ 0 y1) 2 (0 : Int64)) 3 (0 : Int64)) 4 (0 : Int64)) mA] ++ gQ L qI qJ) H := hP
    have hD : va_D A (wl [gM cA aM mI (vp_updL (vp_updL (vp_updL (vp_updL mJ 0 y1) 2 (0 : Int64)) 3 (0 : Int64)) 4 (0 : Int64)) mA] ++ gQ L qI qJ) := hD
    refine lv_aload_n hx hb dX1_begin_60 rfl (lv_at hl 0 rfl) ?_
    refine lv_iconst (v := (0 : Int32)) hx hb dX1_begin_61 (by decide) ?_
    refine va_put (D := D) (v := .int (0 : Int32)) (ty := .boolean) (C := RX1) (T := TX1) (N := 12) hx hb hT inlX1 tyX1 tyX1_ok nmX1 hown hK.1 hP hD hS 0 rfl rfl 9 (by decide) (hT _ fl_RX1_28) (fun _ h9 => h9) rfl (by decide +kernel) (by decide +kernel) (by decide +kernel) (Nat.le_of_ble_eq_true rfl) dX1_begin_62 (fun H locs hP hD hS => ?_)
    have hP : va_P D vwCl (wl [gM cA aM (upd mI 2 (0 : Int32)) (vp_updL (vp_updL (vp_updL (vp_updL mJ 0 y1) 2 (0 : Int64)) 3 (0 : Int64)) 4 (0 : Int64)) mA] ++ gQ L qI qJ) H := hP
    have hD : va_D A (wl [gM cA aM (upd mI 2 (0 : Int32)) (vp_updL (vp_updL (vp_updL (vp_updL mJ 0 y1) 2 (0 : Int64)) 3 (0 : Int64)) 4 (0 : Int64)) mA] ++ gQ L qI qJ) := hD
    exact W.vret hx hb hr (fun t ht hW => ⟨⟨((upd mI 2 (0 : Int32)), (vp_updL (vp_updL (vp_updL (vp_updL mJ 0 y1) 2 (0 : Int64)) 3 (0 : Int64)) 4 (0 : Int64)), mA), rfl, (og_inj h).symm, (by rw [ht]; exact hP), hD⟩, hS.F ht⟩) hS.2.2 dX1_begin_65
  have b26 : ∀ (x1 : Nat) (y1 : Int32) (mI : Nat → Int32) (mJ : Nat → Int64) (mA : Nat → Nat → Int32) (H : Heap) (locs : List Loc) (ls : Array Slot), f_X1_begin1_b26 n L x1 y1 mI mJ mA qJ = some R → va_P D vwCl (wl [gM cA aM mI mJ mA] ++ gQ L qI qJ) H → va_D A (wl [gM cA aM mI mJ mA] ++ gQ L qI qJ) → va_S A s.heap H locs → lv_has ls 2 [(0, .ref (aM 0)), (1, .ref x1)] → W p l e (headSpec (wsU yX1_begin cX1_begin 2 none) ({ frames := 1, cells := 0, slots := 0, locals := 23 })).room s m ([.ref (aM 0), .ref u1] : List Value).toArray below meth c H locs 0 0 (MQ below (QV D (fun u : (Nat → Int32) × (Nat → Int64) × (Nat → Nat → Int32) => (wl [gM cA aM u.1 u.2.1 u.2.2] ++ gQ L qI qJ)) R A) ([.ref (aM 0), .ref u1] : List Value).toArray s 0 0 A) (F0 m 26 ls [.int y1, .ref (aM 0)]) := by
    intro x1 y1 mI mJ mA H locs ls h hP hD hS hl
    unfold f_X1_begin1_b26 at h
    obtain ⟨g1, h⟩ := og_guard h
    refine va_put (D := D) (v := .int y1) (ty := .boolean) (C := RX1) (T := TX1) (N := 12) hx hb hT inlX1 tyX1 tyX1_ok nmX1 hown hK.1 hP hD hS 0 rfl rfl 2 (by decide) (hT _ fl_RX1_60) (fun _ h9 => h9) rfl (by decide +kernel) (bo_nar g1) (bo_fit g1) (Nat.le_of_ble_eq_true rfl) dX1_begin_26 (fun H locs hP hD hS => ?_)
    have hP : va_P D vwCl (wl [gM cA aM (upd mI 0 y1) mJ mA] ++ gQ L qI qJ) H := hP
    have hD : va_D A (wl [gM cA aM (upd mI 0 y1) mJ mA] ++ gQ L qI qJ) := hD
    refine lv_aload_n hx hb dX1_begin_29 rfl (lv_at hl 0 rfl) ?_
    refine lv_aload_n hx hb dX1_begin_30 rfl (lv_at hl 1 rfl) ?_
    refine lv_ifnull hx hb dX1_begin_31 ?_
    refine lv_aload_n hx hb dX1_begin_34 rfl (lv_at hl 1 rfl) ?_
    obtain ⟨m2, h⟩ := og_guard h
    obtain ⟨kq3, hkq3⟩ := va_pl_get (X := (wl [gM cA aM (upd mI 0 y1) mJ mA])) (f := fQ qI qJ) m2
    refine va_getN (D := D) (C := RX2) (T := TX2) (N := 7) hx hb hT inlX2 hown hK.1 hP kq3 hkq3 rfl 1 (by decide) (va_Nw.use rfl (hN _ nl_RX1_63)) (fun _ h9 => h9) rfl dX1_begin_35 ?_
    refine lv_goto (tgt := 42) hx hb dX1_begin_38 (by decide) ?_
    exact b42  _ _ _ _ _ _ _ h hP hD hS (lv_sub hl [0] rfl)
  unfold f_X1_begin1 at h
  refine lv_aload_n hx hb dX1_begin_0 rfl (lv_at hl 0 rfl) ?_
  refine va_get (D := D) (C := RX1) (T := TX1) (N := 12) hx hb hT inlX1 hown hK.1 hP 0 rfl rfl 0 (by decide) (hT _ fl_RX1_9) (fun _ h9 => h9) rfl dX1_begin_1 ?_
  refine lv_iconst (v := (0 : Int32)) hx hb dX1_begin_4 (by decide) ?_
  obtain ⟨xA4, e4, h⟩ := og_bind h
  refine gc_v (ws := (wl [gM cA aM mI mJ mA] ++ gQ L qI qJ)) (wc := (wl [gX cA (aM 1) 16 (mA 0)])) (wr := ((wl [gM cA aM mI mJ mA] ++ gQ L qI qJ).eraseIdx 1)) (ws' := (wl [gM cA aM mI mJ (va_up mA 0 xA4)] ++ gQ L qI qJ)) (va_runS (As := [.ref (aM 1), .int (0 : Int32)]) (rest := []) ⟨hx, hb, hml, hown, hT⟩ (k_J7_fill_53178 l D cA (aM 1) 16 s.heap.size n (0 : Int32) (mA 0) _ e4) (va_cwS 2 hT gs_RX1_54 rfl rfl rfl (by decide +kernel) ⟨Nat.le_of_ble_eq_true rfl, Nat.le_of_ble_eq_true rfl⟩) (pre_S (wr := ((wl [gM cA aM mI mJ mA] ++ gQ L qI qJ).eraseIdx 1)) (px 1 rfl) hK hP hD) rfl rfl hl.1 rfl (lv_room (Nat.le_of_ble_eq_true rfl)) dX1_begin_5 ⟨Nat.le_refl _, Nat.le_refl _⟩) (px 1 rfl) hP hD hS hA (px' 1 rfl rfl) (fun H locs hP hD hS => ?_)
  refine lv_aload_n hx hb dX1_begin_8 rfl (lv_at hl 0 rfl) ?_
  refine va_get (D := D) (C := RX1) (T := TX1) (N := 12) hx hb hT inlX1 hown hK.1 hP 0 rfl rfl 1 (by decide) (hT _ fl_RX1_15) (fun _ h9 => h9) rfl dX1_begin_9 ?_
  refine lv_iconst (v := (0 : Int32)) hx hb dX1_begin_12 (by decide) ?_
  obtain ⟨xA5, e5, h⟩ := og_bind h
  refine gc_v (ws := (wl [gM cA aM mI mJ (va_up mA 0 xA4)] ++ gQ L qI qJ)) (wc := (wl [gX cA (aM 2) 8 ((va_up mA 0 xA4) 1)])) (wr := ((wl [gM cA aM mI mJ (va_up mA 0 xA4)] ++ gQ L qI qJ).eraseIdx 2)) (ws' := (wl [gM cA aM mI mJ (va_up (va_up mA 0 xA4) 1 xA5)] ++ gQ L qI qJ)) (va_runS (As := [.ref (aM 2), .int (0 : Int32)]) (rest := []) ⟨hx, hb, hml, hown, hT⟩ (k_J7_fill_53178 l D cA (aM 2) 8 H.size n (0 : Int32) ((va_up mA 0 xA4) 1) _ e5) (va_cwS 2 hT gs_RX1_54 rfl rfl rfl (by decide +kernel) ⟨Nat.le_of_ble_eq_true rfl, Nat.le_of_ble_eq_true rfl⟩) (pre_S (wr := ((wl [gM cA aM mI mJ (va_up mA 0 xA4)] ++ gQ L qI qJ).eraseIdx 2)) (px 2 rfl) hK hP hD) rfl rfl hl.1 rfl (lv_room (Nat.le_of_ble_eq_true rfl)) dX1_begin_13 ⟨Nat.le_refl _, Nat.le_refl _⟩) (px 2 rfl) hP hD hS hA (px' 2 rfl rfl) (fun H locs hP hD hS => ?_)
  refine lv_aload_n hx hb dX1_begin_16 rfl (lv_at hl 0 rfl) ?_
  refine lv_aload_n hx hb dX1_begin_17 rfl (lv_at hl 1 rfl) ?_
  refine lv_ifnull hx hb dX1_begin_18 ?_
  refine lv_iconst (v := (1 : Int32)) hx hb dX1_begin_21 (by decide) ?_
  refine lv_goto (tgt := 26) hx hb dX1_begin_22 (by decide) ?_
  exact b26  _ _ _ _ _ _ _ _ h hP hD hS (lv_sub hl [0, 1] rfl)
set_option maxRecDepth 100000 in
set_option maxHeartbeats 8000000 in
theorem k_X1_execute0 (l : Launch) (D : va_G) (cA : Nat → ClassId) (aP : Nat → Nat) (aM : Nat → Nat) (sz : Nat) (n : Nat) (u2 : Int32) (pI : Nat → Int32) (pA : Nat → Nat → Int32) (mI : Nat → Int32) (mJ : Nat → Int64) (mA : Nat → Nat → Int32) (R : (Nat → Int32) × (Nat → Int64) × (Nat → Nat → Int32)) (h : f_X1_execute0 n u2 pI pA mI mJ mA = some R) : Met l yX1_execute (wsU yX1_execute cX1_execute 6 none) ({ frames := 4, cells := 0, slots := 0, locals := 92 }) (PcW D cA (wl [gP cA aP pI pA, gM cA aM mI mJ mA]) sz [.ref (aM 0), .ref (aP 0), .int u2, .null]) (QV D (fun u : (Nat → Int32) × (Nat → Int64) × (Nat → Nat → Int32) => (wl [gP cA aP pI pA, gM cA aM u.1 u.2.1 u.2.2])) R (va_A (wl [gP cA aP pI pA, gM cA aM mI mJ mA]) sz)) 0 0 (va_A (wl [gP cA aP pI pA, gM cA aM mI mJ mA]) sz) := by
  refine Met.ofW (cc := cX1_execute) (maxL := 6) (ret := none) (by decide) rfl ?_
  intro p e s m args below meth c s₁ B hml hv
  obtain ⟨rfl, hsz, hP, hK, hD0⟩ := hv
  have hx := B.exec
  have hb := B.bytes
  have hr := B.returns
  have hts := atoms_spec (ws := (wsU yX1_execute cX1_execute 6 none)) B.pre
  have hT : ∀ w ∈ wsL_law, w.before ([.ref (aM 0), .ref (aP 0), .int u2, .null] : List Value).toArray s = true := fun w h => hts w (List.mem_cons_of_mem _ h)
  have hown : s.vm.findClass RX1 = some m.cls := findClass_of_methodNamed B.named
  have hlocks := B.notSynchronized
  have hN := hK.2
  subst hsz
  have hD := hD0.self (sz := s.heap.size)
  generalize hAe : va_A (wl [gP cA aP pI pA, gM cA aM mI mJ mA]) s.heap.size = A at hD ⊢
  have hA : ∀ q : Nat, s.heap.size ≤ q → A q := fun q h => by rw [← hAe]; exact Or.inr h
  have hS : va_S A s.heap s.heap [] := va_S.rf
  have hl := lv_entry ([.ref (aM 0), .ref (aP 0), .int u2, .null]) (n := 6) (Nat.le_of_ble_eq_true rfl)
  rw [lg_entry_eq]
  generalize (lg_sl ([.ref (aM 0), .ref (aP 0), .int u2, .null]) ++ List.replicate (6 - (lg_sl ([.ref (aM 0), .ref (aP 0), .int u2, .null])).length) Slot.unset).toArray = ls at hl ⊢
  have hl : lv_has ls 6 [(0, .ref (aM 0)), (1, .ref (aP 0)), (2, .int u2), (3, .null)] := hl
  have b78 : ∀ (mI : Nat → Int32) (mJ : Nat → Int64) (mA : Nat → Nat → Int32) (H : Heap) (locs : List Loc) (ls : Array Slot), f_X1_execute0_b78 n pI pA mI mJ mA = some R → va_P D vwCl (wl [gP cA aP pI pA, gM cA aM mI mJ mA]) H → va_D A (wl [gP cA aP pI pA, gM cA aM mI mJ mA]) → va_S A s.heap H locs → lv_has ls 6 [(0, .ref (aM 0)), (1, .ref (aP 0))] → W p l e (headSpec (wsU yX1_execute cX1_execute 6 none) ({ frames := 4, cells := 0, slots := 0, locals := 92 })).room s m ([.ref (aM 0), .ref (aP 0), .int u2, .null] : List Value).toArray below meth c H locs 0 0 (MQ below (QV D (fun u : (Nat → Int32) × (Nat → Int64) × (Nat → Nat → Int32) => (wl [gP cA aP pI pA, gM cA aM u.1 u.2.1 u.2.2])) R A) ([.ref (aM 0), .ref (aP 0), .int u2, .null] : List Value).toArray s 0 0 A) (F0 m 78 ls []) := by
    intro mI mJ mA H locs ls h hP hD hS hl
    unfold f_X1_execute0_b78 at h
    refine lv_aload_n hx hb dX1_execute_78 rfl (lv_at hl 0 rfl) ?_
    refine va_get (D := D) (C := RX1) (T := TX1) (N := 12) hx hb hT inlX1 hown hK.1 hP 8 rfl rfl 9 (by decide) (hT _ fl_RX1_28) (fun _ h9 => h9) rfl dX1_execute_79 ?_
    refine lv_if_ne (tgt := 99) hx hb dX1_execute_82 (by decide) (fun c1 => ?_) (fun c1 => ?_)
    · replace h := og_neg c1 h
      exact W.vret hx hb hr (fun t ht hW => ⟨⟨(mI, mJ, mA), rfl, (og_inj h).symm, (by rw [ht]; exact hP), hD⟩, hS.F ht⟩) hS.2.2 dX1_execute_99
    · replace h := og_pos c1 h
      refine lv_aload_n hx hb dX1_execute_85 rfl (lv_at hl 0 rfl) ?_
      refine lv_aload_n hx hb dX1_execute_86 rfl (lv_at hl 1 rfl) ?_
      refine va_getN (D := D) (C := RX3) (T := TX3) (N := 12) hx hb hT inlX3 hown hK.1 hP 0 rfl rfl 9 (by decide) (va_Nw.use rfl (hN _ nl_RX1_22)) (fun _ h9 => h9) rfl dX1_execute_87 ?_
      refine va_put (D := D) (v := .int (pI 2)) (ty := .int) (C := RX1) (T := TX1) (N := 12) hx hb hT inlX1 tyX1 tyX1_ok nmX1 hown hK.1 hP hD hS 8 rfl rfl 4 (by decide) (hT _ fl_RX1_32) (fun _ h9 => h9) rfl (by decide +kernel) rfl rfl (Nat.le_of_ble_eq_true rfl) dX1_execute_90 (fun H locs hP hD hS => ?_)
      have hP : va_P D vwCl (wl [gP cA aP pI pA, gM cA aM (upd mI 1 (pI 2)) mJ mA]) H := hP
      have hD : va_D A (wl [gP cA aP pI pA, gM cA aM (upd mI 1 (pI 2)) mJ mA]) := hD
      refine lv_aload_n hx hb dX1_execute_93 rfl (lv_at hl 0 rfl) ?_
      refine lv_iconst (v := (0 : Int32)) hx hb dX1_execute_94 (by decide) ?_
      refine lv_iconst (v := (0 : Int32)) hx hb dX1_execute_95 (by decide) ?_
      obtain ⟨mI2, e2, h⟩ := og_bind h
      refine gc_v (ws := (wl [gP cA aP pI pA, gM cA aM (upd mI 1 (pI 2)) mJ mA])) (wc := (wl [gM cA aM (upd mI 1 (pI 2)) mJ mA])) (wr := (wl [gP cA aP pI pA])) (ws' := (wl [gP cA aP pI pA, gM cA aM mI2 mJ mA])) (va_runV (As := [.int (0 : Int32), .int (0 : Int32)]) (rest := []) ⟨hx, hb, hml, hown, hT⟩ (k_X1_stop l D cA aM H.size (0 : Int32) (0 : Int32) (upd mI 1 (pI 2)) mJ mA _ e2) (cwV 2 hT gv_RX1_50 rfl rfl rfl (by decide +kernel) ⟨Nat.le_of_ble_eq_true rfl, Nat.le_of_ble_eq_true rfl⟩) (pre_V (ci := 1) (q0 := 0) (wr := (wl [gP cA aP pI pA])) (pm (f := fun i => ([gP cA aP pI pA, gM cA aM (upd mI 1 (pI 2)) mJ mA] : List va_W).getD i []) [0, 1] [1] [0] (by decide)) hK hP hD rfl rfl) rfl rfl hl.1 rfl (lv_room (Nat.le_of_ble_eq_true rfl)) dX1_execute_96 ⟨Nat.le_refl _, Nat.le_refl _⟩) (pm (f := fun i => ([gP cA aP pI pA, gM cA aM (upd mI 1 (pI 2)) mJ mA] : List va_W).getD i []) [0, 1] [1] [0] (by decide)) hP hD hS hA (pm (f := fun i => ([gP cA aP pI pA, gM cA aM mI2 mJ mA] : List va_W).getD i []) [0, 1] [1] [0] (by decide)) (fun H locs hP hD hS => ?_)
      exact W.vret hx hb hr (fun t ht hW => ⟨⟨(mI2, mJ, mA), rfl, (og_inj h).symm, (by rw [ht]; exact hP), hD⟩, hS.F ht⟩) hS.2.2 dX1_execute_99
  have b11 : ∀ (x2 : Int32) (nn : Nat), ∀ (x4 : Int32) (x5 : Int32) (mI : Nat → Int32) (mJ : Nat → Int64) (mA : Nat → Nat → Int32) (H : Heap) (locs : List Loc) (ls : Array Slot), lp (f_X1_execute0_l11 n x2 pI pA) nn (x4, x5, mI, mJ, mA) = some R → va_P D vwCl (wl [gP cA aP pI pA, gM cA aM mI mJ mA]) H → va_D A (wl [gP cA aP pI pA, gM cA aM mI mJ mA]) → va_S A s.heap H locs → lv_has ls 6 [(0, .ref (aM 0)), (1, .ref (aP 0)), (2, .int x2), (4, .int x4), (5, .int x5)] → W p l e (headSpec (wsU yX1_execute cX1_execute 6 none) ({ frames := 4, cells := 0, slots := 0, locals := 92 })).room s m ([.ref (aM 0), .ref (aP 0), .int u2, .null] : List Value).toArray below meth c H locs 0 0 (MQ below (QV D (fun u : (Nat → Int32) × (Nat → Int64) × (Nat → Nat → Int32) => (wl [gP cA aP pI pA, gM cA aM u.1 u.2.1 u.2.2])) R A) ([.ref (aM 0), .ref (aP 0), .int u2, .null] : List Value).toArray s 0 0 A) (F0 m 11 ls []) := by
    intro x2 nn
    induction nn with
    | zero =>
      intro x4 x5 mI mJ mA H locs ls h hP hD hS hl
      exact (lp_zero h).elim
    | succ nn hr11 =>
      intro x4 x5 mI mJ mA H locs ls h hP hD hS hl
      rw [lp_succ] at h
      unfold f_X1_execute0_l11 at h
      try dsimp only at h
      refine lv_iload hx hb dX1_execute_11 (lv_at hl 4 rfl) ?_
      refine lv_bipush (v := (60 : Int32)) hx hb dX1_execute_13 (by decide) ?_
      refine lv_icmp_ge (tgt := 78) hx hb dX1_execute_15 (by decide) (fun c3 => ?_) (fun c3 => ?_)
      · replace h := og_pos c3 h
        exact b78  _ _ _ _ _ _ h hP hD hS (lv_sub hl [0, 1] rfl)
      · replace h := og_neg c3 h
        refine lv_iload hx hb dX1_execute_18 (lv_at hl 3 rfl) ?_
        refine lv_aload_n hx hb dX1_execute_20 rfl (lv_at hl 1 rfl) ?_
        refine va_getN (D := D) (C := RX3) (T := TX3) (N := 12) hx hb hT inlX3 hown hK.1 hP 0 rfl rfl 9 (by decide) (va_Nw.use rfl (hN _ nl_RX1_22)) (fun _ h9 => h9) rfl dX1_execute_21 ?_
        refine lv_icmp_ge (tgt := 78) hx hb dX1_execute_24 (by decide) (fun c4 => ?_) (fun c4 => ?_)
        · replace h := og_pos c4 h
          exact b78  _ _ _ _ _ _ h hP hD hS (lv_sub hl [0, 1] rfl)
        · replace h := og_neg c4 h
          refine lv_aload_n hx hb dX1_execute_27 rfl (lv_at hl 0 rfl) ?_
          refine va_get (D := D) (C := RX1) (T := TX1) (N := 12) hx hb hT inlX1 hown hK.1 hP 8 rfl rfl 9 (by decide) (hT _ fl_RX1_28) (fun _ h9 => h9) rfl dX1_execute_28 ?_
          refine lv_if_ne (tgt := 78) hx hb dX1_execute_31 (by decide) (fun c5 => ?_) (fun c5 => ?_)
          · replace h := og_neg c5 h
            exact b78  _ _ _ _ _ _ h hP hD hS (lv_sub hl [0, 1] rfl)
          · replace h := og_pos c5 h
            refine lv_aload_n hx hb dX1_execute_34 rfl (lv_at hl 0 rfl) ?_
            refine lv_iload hx hb dX1_execute_35 (lv_at hl 3 rfl) ?_
            refine va_put (D := D) (v := .int x4) (ty := .int) (C := RX1) (T := TX1) (N := 12) hx hb hT inlX1 tyX1 tyX1_ok nmX1 hown hK.1 hP hD hS 8 rfl rfl 4 (by decide) (hT _ fl_RX1_32) (fun _ h9 => h9) rfl (by decide +kernel) rfl rfl (Nat.le_of_ble_eq_true rfl) dX1_execute_37 (fun H locs hP hD hS => ?_)
            have hP : va_P D vwCl (wl [gP cA aP pI pA, gM cA aM (upd mI 1 x4) mJ mA]) H := hP
            have hD : va_D A (wl [gP cA aP pI pA, gM cA aM (upd mI 1 x4) mJ mA]) := hD
            refine lv_aload_n hx hb dX1_execute_40 rfl (lv_at hl 0 rfl) ?_
            refine lv_aload_n hx hb dX1_execute_41 rfl (lv_at hl 0 rfl) ?_
            refine va_get (D := D) (C := RX1) (T := TX1) (N := 12) hx hb hT inlX1 hown hK.1 hP 8 rfl rfl 4 (by decide) (hT _ fl_RX1_32) (fun _ h9 => h9) rfl dX1_execute_42 ?_
            obtain ⟨⟨r6, _u6⟩, e6, h⟩ := og_bind h
            try dsimp only at h
            refine gc_l (ws := (wl [gP cA aP pI pA, gM cA aM (upd mI 1 x4) mJ mA])) (wc := (wl ([] : List va_W))) (wr := (wl [gP cA aP pI pA, gM cA aM (upd mI 1 x4) mJ mA])) (ws' := (wl [gP cA aP pI pA, gM cA aM (upd mI 1 x4) mJ mA])) (va_runSN (host := RX4) (As := [.int ((upd mI 1 x4) 1)]) (rest := [.ref (aM 0)]) ⟨hx, hb, hml, hown, hT⟩ (k_X4_mark l D cA  H.size ((upd mI 1 x4) 1)  _ e6) ⟨va_cnB 1 hT (gw cd_yX4_mark_cX4_mark) rfl rfl rfl (hN _ nl_RX1_35) (hT _ ini_RX4) (by decide +kernel) ⟨Nat.le_of_ble_eq_true rfl, Nat.le_of_ble_eq_true rfl⟩, hT _ sc_yX4_mark, trivial⟩ (pre_S (wr := (wl [gP cA aP pI pA, gM cA aM (upd mI 1 x4) mJ mA])) (pm (f := fun i => ([gP cA aP pI pA, gM cA aM (upd mI 1 x4) mJ mA] : List va_W).getD i []) [0, 1] [] [0, 1] (by decide)) hK hP hD) rfl rfl hl.1 rfl (lv_room (Nat.le_of_ble_eq_true rfl)) dX1_execute_45 ⟨Nat.le_refl _, Nat.le_refl _⟩) (pm (f := fun i => ([gP cA aP pI pA, gM cA aM (upd mI 1 x4) mJ mA] : List va_W).getD i []) [0, 1] [] [0, 1] (by decide)) hP hD hS hA (pm (f := fun i => ([gP cA aP pI pA, gM cA aM (upd mI 1 x4) mJ mA] : List va_W).getD i []) [0, 1] [] [0, 1] (by decide)) (fun H locs hP hD hS => ?_)
            refine va_put (D := D) (v := .long r6) (ty := .long) (C := RX1) (T := TX1) (N := 12) hx hb hT inlX1 tyX1 tyX1_ok nmX1 hown hK.1 hP hD hS 8 rfl rfl 5 (by decide) (hT _ fl_RX1_39) (fun _ h9 => h9) rfl (by decide +kernel) rfl rfl (Nat.le_of_ble_eq_true rfl) dX1_execute_48 (fun H locs hP hD hS => ?_)
            have hP : va_P D vwCl (wl [gP cA aP pI pA, gM cA aM (upd mI 1 x4) (vp_updL mJ 1 r6) mA]) H := hP
            have hD : va_D A (wl [gP cA aP pI pA, gM cA aM (upd mI 1 x4) (vp_updL mJ 1 r6) mA]) := hD
            refine lv_aload_n hx hb dX1_execute_51 rfl (lv_at hl 0 rfl) ?_
            refine lv_dup hx hb dX1_execute_52 rfl ?_
            refine va_get (D := D) (C := RX1) (T := TX1) (N := 12) hx hb hT inlX1 hown hK.1 hP 8 rfl rfl 6 (by decide) (hT _ fl_RX1_43) (fun _ h9 => h9) rfl dX1_execute_53 ?_
            refine lv_aload_n hx hb dX1_execute_56 rfl (lv_at hl 0 rfl) ?_
            refine va_get (D := D) (C := RX1) (T := TX1) (N := 12) hx hb hT inlX1 hown hK.1 hP 8 rfl rfl 5 (by decide) (hT _ fl_RX1_39) (fun _ h9 => h9) rfl dX1_execute_57 ?_
            refine lv_lor hx hb dX1_execute_60 ?_
            refine va_put (D := D) (v := .long (((vp_updL mJ 1 r6) 2) ||| ((vp_updL mJ 1 r6) 1))) (ty := .long) (C := RX1) (T := TX1) (N := 12) hx hb hT inlX1 tyX1 tyX1_ok nmX1 hown hK.1 hP hD hS 8 rfl rfl 6 (by decide) (hT _ fl_RX1_43) (fun _ h9 => h9) rfl (by decide +kernel) rfl rfl (Nat.le_of_ble_eq_true rfl) dX1_execute_61 (fun H locs hP hD hS => ?_)
            have hP : va_P D vwCl (wl [gP cA aP pI pA, gM cA aM (upd mI 1 x4) (vp_updL (vp_updL mJ 1 r6) 2 (((vp_updL mJ 1 r6) 2) ||| ((vp_updL mJ 1 r6) 1))) mA]) H := hP
            have hD : va_D A (wl [gP cA aP pI pA, gM cA aM (upd mI 1 x4) (vp_updL (vp_updL mJ 1 r6) 2 (((vp_updL mJ 1 r6) 2) ||| ((vp_updL mJ 1 r6) 1))) mA]) := hD
            refine lv_aload_n hx hb dX1_execute_64 rfl (lv_at hl 0 rfl) ?_
            refine lv_aload_n hx hb dX1_execute_65 rfl (lv_at hl 1 rfl) ?_
            refine lv_iload_n hx hb dX1_execute_66 rfl (lv_at hl 2 rfl) ?_
            obtain ⟨⟨r7, mI7, mJ7, mA7⟩, e7, h⟩ := og_bind h
            try dsimp only at h
            refine gc_i (ws := (wl [gP cA aP pI pA, gM cA aM (upd mI 1 x4) (vp_updL (vp_updL mJ 1 r6) 2 (((vp_updL mJ 1 r6) 2) ||| ((vp_updL mJ 1 r6) 1))) mA])) (wc := (wl [gP cA aP pI pA, gM cA aM (upd mI 1 x4) (vp_updL (vp_updL mJ 1 r6) 2 (((vp_updL mJ 1 r6) 2) ||| ((vp_updL mJ 1 r6) 1))) mA])) (wr := (wl ([] : List va_W))) (ws' := (wl [gP cA aP pI pA, gM cA aM mI7 mJ7 mA7])) (va_runV (As := [.ref (aP 0), .int x2]) (rest := []) ⟨hx, hb, hml, hown, hT⟩ (k_X1_step l D cA aP aM H.size x2 pI pA (upd mI 1 x4) (vp_updL (vp_updL mJ 1 r6) 2 (((vp_updL mJ 1 r6) 2) ||| ((vp_updL mJ 1 r6) 1))) mA _ e7) (cwV 2 hT gv_RX1_46 rfl rfl rfl (by decide +kernel) ⟨Nat.le_of_ble_eq_true rfl, Nat.le_of_ble_eq_true rfl⟩) (pre_V (ci := 1) (q0 := 8) (wr := (wl ([] : List va_W))) (pm (f := fun i => ([gP cA aP pI pA, gM cA aM (upd mI 1 x4) (vp_updL (vp_updL mJ 1 r6) 2 (((vp_updL mJ 1 r6) 2) ||| ((vp_updL mJ 1 r6) 1))) mA] : List va_W).getD i []) [0, 1] [0, 1] [] (by decide)) hK hP hD rfl rfl) rfl rfl hl.1 rfl (lv_room (Nat.le_of_ble_eq_true rfl)) dX1_execute_67 ⟨Nat.le_refl _, Nat.le_refl _⟩) (pm (f := fun i => ([gP cA aP pI pA, gM cA aM (upd mI 1 x4) (vp_updL (vp_updL mJ 1 r6) 2 (((vp_updL mJ 1 r6) 2) ||| ((vp_updL mJ 1 r6) 1))) mA] : List va_W).getD i []) [0, 1] [0, 1] [] (by decide)) hP hD hS hA (pm (f := fun i => ([gP cA aP pI pA, gM cA aM mI7 mJ7 mA7] : List va_W).getD i []) [0, 1] [0, 1] [] (by decide)) (fun H locs hP hD hS => ?_)
            refine lv_istore (lv' := [(4, .int r7), (0, .ref (aM 0)), (1, .ref (aP 0)), (2, .int x2), (5, .int x5)]) hx hb dX1_execute_70 hl (by decide) rfl (fun ls hl => ?_)
            refine lv_iinc (v := (x5 + 1)) (lv' := [(5, .int (x5 + 1)), (4, .int r7), (0, .ref (aM 0)), (1, .ref (aP 0)), (2, .int x2)]) hx hb dX1_execute_72 hl (k := 4) rfl rfl (by decide) rfl (fun ls hl => ?_)
            refine lv_goto (tgt := 11) hx hb dX1_execute_75 (by decide) ?_
            exact hr11 _ _ _ _ _ _ _ _ h hP hD hS (lv_sub hl [2, 3, 4, 1, 0] rfl)
  unfold f_X1_execute0 at h
  refine lv_aload_n hx hb dX1_execute_0 rfl (lv_at hl 0 rfl) ?_
  refine lv_aload_nN hx hb dX1_execute_1 rfl (lv_at hl 3 rfl) ?_
  obtain ⟨⟨mI8, mJ8, mA8⟩, e8, h⟩ := og_bind h
  try dsimp only at h
  refine gc_v (ws := (wl [gP cA aP pI pA, gM cA aM mI mJ mA])) (wc := (wl [gM cA aM mI mJ mA])) (wr := (wl [gP cA aP pI pA])) (ws' := (wl [gP cA aP pI pA, gM cA aM mI8 mJ8 mA8])) (va_runV (As := [.null]) (rest := []) ⟨hx, hb, hml, hown, hT⟩ (k_X1_begin0 l D cA aM s.heap.size n  mI mJ mA _ e8) (cwV 1 hT gv_RX1_18 rfl rfl rfl (by decide +kernel) ⟨Nat.le_of_ble_eq_true rfl, Nat.le_of_ble_eq_true rfl⟩) (pre_V (ci := 1) (q0 := 0) (wr := (wl [gP cA aP pI pA])) (pm (f := fun i => ([gP cA aP pI pA, gM cA aM mI mJ mA] : List va_W).getD i []) [0, 1] [1] [0] (by decide)) hK hP hD rfl rfl) rfl rfl hl.1 rfl (lv_room (Nat.le_of_ble_eq_true rfl)) dX1_execute_2 ⟨Nat.le_refl _, Nat.le_refl _⟩) (pm (f := fun i => ([gP cA aP pI pA, gM cA aM mI mJ mA] : List va_W).getD i []) [0, 1] [1] [0] (by decide)) hP hD hS hA (pm (f := fun i => ([gP cA aP pI pA, gM cA aM mI8 mJ8 mA8] : List va_W).getD i []) [0, 1] [1] [0] (by decide)) (fun H locs hP hD hS => ?_)
  refine lv_iconst (v := (0 : Int32)) hx hb dX1_execute_5 (by decide) ?_
  refine lv_istore (lv' := [(4, .int (0 : Int32)), (0, .ref (aM 0)), (1, .ref (aP 0)), (2, .int u2), (3, .null)]) hx hb dX1_execute_6 hl (by decide) rfl (fun ls hl => ?_)
  refine lv_iconst (v := (0 : Int32)) hx hb dX1_execute_8 (by decide) ?_
  refine lv_istore (lv' := [(5, .int (0 : Int32)), (4, .int (0 : Int32)), (0, .ref (aM 0)), (1, .ref (aP 0)), (2, .int u2), (3, .null)]) hx hb dX1_execute_9 hl (by decide) rfl (fun ls hl => ?_)
  exact b11  _ n _ _ _ _ _ _ _ _ h hP hD hS (lv_sub hl [2, 3, 4, 1, 0] rfl)
set_option maxRecDepth 100000 in
set_option maxHeartbeats 8000000 in
theorem k_X1_execute1 (l : Launch) (D : va_G) (cA : Nat → ClassId) (aP : Nat → Nat) (aM : Nat → Nat) (L : List Nat) (sz : Nat) (n : Nat) (u2 : Int32) (u3 : Nat) (pI : Nat → Int32) (pA : Nat → Nat → Int32) (mI : Nat → Int32) (mJ : Nat → Int64) (mA : Nat → Nat → Int32) (qI : Nat → Nat → Int32) (qJ : Nat → Nat → Int64) (R : (Nat → Int32) × (Nat → Int64) × (Nat → Nat → Int32)) (h : f_X1_execute1 n L u2 u3 pI pA mI mJ mA qJ = some R) : Met l yX1_execute (wsU yX1_execute cX1_execute 6 none) ({ frames := 4, cells := 0, slots := 0, locals := 92 }) (PcW D cA (wl [gP cA aP pI pA, gM cA aM mI mJ mA] ++ gQ L qI qJ) sz [.ref (aM 0), .ref (aP 0), .int u2, .ref u3]) (QV D (fun u : (Nat → Int32) × (Nat → Int64) × (Nat → Nat → Int32) => (wl [gP cA aP pI pA, gM cA aM u.1 u.2.1 u.2.2] ++ gQ L qI qJ)) R (va_A (wl [gP cA aP pI pA, gM cA aM mI mJ mA] ++ gQ L qI qJ) sz)) 0 0 (va_A (wl [gP cA aP pI pA, gM cA aM mI mJ mA] ++ gQ L qI qJ) sz) := by
  refine Met.ofW (cc := cX1_execute) (maxL := 6) (ret := none) (by decide) rfl ?_
  intro p e s m args below meth c s₁ B hml hv
  obtain ⟨rfl, hsz, hP, hK, hD0⟩ := hv
  have hx := B.exec
  have hb := B.bytes
  have hr := B.returns
  have hts := atoms_spec (ws := (wsU yX1_execute cX1_execute 6 none)) B.pre
  have hT : ∀ w ∈ wsL_law, w.before ([.ref (aM 0), .ref (aP 0), .int u2, .ref u3] : List Value).toArray s = true := fun w h => hts w (List.mem_cons_of_mem _ h)
  have hown : s.vm.findClass RX1 = some m.cls := findClass_of_methodNamed B.named
  have hlocks := B.notSynchronized
  have hN := hK.2
  subst hsz
  have hD := hD0.self (sz := s.heap.size)
  generalize hAe : va_A (wl [gP cA aP pI pA, gM cA aM mI mJ mA] ++ gQ L qI qJ) s.heap.size = A at hD ⊢
  have hA : ∀ q : Nat, s.heap.size ≤ q → A q := fun q h => by rw [← hAe]; exact Or.inr h
  have hS : va_S A s.heap s.heap [] := va_S.rf
  have hl := lv_entry ([.ref (aM 0), .ref (aP 0), .int u2, .ref u3]) (n := 6) (Nat.le_of_ble_eq_true rfl)
  rw [lg_entry_eq]
  generalize (lg_sl ([.ref (aM 0), .ref (aP 0), .int u2, .ref u3]) ++ List.replicate (6 - (lg_sl ([.ref (aM 0), .ref (aP 0), .int u2, .ref u3])).length) Slot.unset).toArray = ls at hl ⊢
  have hl : lv_has ls 6 [(0, .ref (aM 0)), (1, .ref (aP 0)), (2, .int u2), (3, .ref u3)] := hl
  have b78 : ∀ (mI : Nat → Int32) (mJ : Nat → Int64) (mA : Nat → Nat → Int32) (H : Heap) (locs : List Loc) (ls : Array Slot), f_X1_execute1_b78 n L pI pA mI mJ mA qJ = some R → va_P D vwCl (wl [gP cA aP pI pA, gM cA aM mI mJ mA] ++ gQ L qI qJ) H → va_D A (wl [gP cA aP pI pA, gM cA aM mI mJ mA] ++ gQ L qI qJ) → va_S A s.heap H locs → lv_has ls 6 [(0, .ref (aM 0)), (1, .ref (aP 0))] → W p l e (headSpec (wsU yX1_execute cX1_execute 6 none) ({ frames := 4, cells := 0, slots := 0, locals := 92 })).room s m ([.ref (aM 0), .ref (aP 0), .int u2, .ref u3] : List Value).toArray below meth c H locs 0 0 (MQ below (QV D (fun u : (Nat → Int32) × (Nat → Int64) × (Nat → Nat → Int32) => (wl [gP cA aP pI pA, gM cA aM u.1 u.2.1 u.2.2] ++ gQ L qI qJ)) R A) ([.ref (aM 0), .ref (aP 0), .int u2, .ref u3] : List Value).toArray s 0 0 A) (F0 m 78 ls []) := by
    intro mI mJ mA H locs ls h hP hD hS hl
    unfold f_X1_execute1_b78 at h
    refine lv_aload_n hx hb dX1_execute_78 rfl (lv_at hl 0 rfl) ?_
    refine va_get (D := D) (C := RX1) (T := TX1) (N := 12) hx hb hT inlX1 hown hK.1 hP 8 rfl rfl 9 (by decide) (hT _ fl_RX1_28) (fun _ h9 => h9) rfl dX1_execute_79 ?_
    refine lv_if_ne (tgt := 99) hx hb dX1_execute_82 (by decide) (fun c1 => ?_) (fun c1 => ?_)
    · replace h := og_neg c1 h
      exact W.vret hx hb hr (fun t ht hW => ⟨⟨(mI, mJ, mA), rfl, (og_inj h).symm, (by rw [ht]; exact hP), hD⟩, hS.F ht⟩) hS.2.2 dX1_execute_99
    · replace h := og_pos c1 h
      refine lv_aload_n hx hb dX1_execute_85 rfl (lv_at hl 0 rfl) ?_
      refine lv_aload_n hx hb dX1_execute_86 rfl (lv_at hl 1 rfl) ?_
      refine va_getN (D := D) (C := RX3) (T := TX3) (N := 12) hx hb hT inlX3 hown hK.1 hP 0 rfl rfl 9 (by decide) (va_Nw.use rfl (hN _ nl_RX1_22)) (fun _ h9 => h9) rfl dX1_execute_87 ?_
      refine va_put (D := D) (v := .int (pI 2)) (ty := .int) (C := RX1) (T := TX1) (N := 12) hx hb hT inlX1 tyX1 tyX1_ok nmX1 hown hK.1 hP hD hS 8 rfl rfl 4 (by decide) (hT _ fl_RX1_32) (fun _ h9 => h9) rfl (by decide +kernel) rfl rfl (Nat.le_of_ble_eq_true rfl) dX1_execute_90 (fun H locs hP hD hS => ?_)
      have hP : va_P D vwCl (wl [gP cA aP pI pA, gM cA aM (upd mI 1 (pI 2)) mJ mA] ++ gQ L qI qJ) H := hP
      have hD : va_D A (wl [gP cA aP pI pA, gM cA aM (upd mI 1 (pI 2)) mJ mA] ++ gQ L qI qJ) := hD
      refine lv_aload_n hx hb dX1_execute_93 rfl (lv_at hl 0 rfl) ?_
      refine lv_iconst (v := (0 : Int32)) hx hb dX1_execute_94 (by decide) ?_
      refine lv_iconst (v := (0 : Int32)) hx hb dX1_execute_95 (by decide) ?_
      obtain ⟨mI2, e2, h⟩ := og_bind h
      refine gc_v (ws := (wl [gP cA aP pI pA, gM cA aM (upd mI 1 (pI 2)) mJ mA] ++ gQ L qI qJ)) (wc := (wl [gM cA aM (upd mI 1 (pI 2)) mJ mA])) (wr := (wl [gP cA aP pI pA] ++ gQ L qI qJ)) (ws' := (wl [gP cA aP pI pA, gM cA aM mI2 mJ mA] ++ gQ L qI qJ)) (va_runV (As := [.int (0 : Int32), .int (0 : Int32)]) (rest := []) ⟨hx, hb, hml, hown, hT⟩ (k_X1_stop l D cA aM H.size (0 : Int32) (0 : Int32) (upd mI 1 (pI 2)) mJ mA _ e2) (cwV 2 hT gv_RX1_50 rfl rfl rfl (by decide +kernel) ⟨Nat.le_of_ble_eq_true rfl, Nat.le_of_ble_eq_true rfl⟩) (pre_V (ci := 1) (q0 := 0) (wr := (wl [gP cA aP pI pA] ++ gQ L qI qJ)) (pmC (f := fun i => ([gP cA aP pI pA, gM cA aM (upd mI 1 (pI 2)) mJ mA] : List va_W).getD i []) [0, 1] [1] [0] (by decide)) hK hP hD rfl rfl) rfl rfl hl.1 rfl (lv_room (Nat.le_of_ble_eq_true rfl)) dX1_execute_96 ⟨Nat.le_refl _, Nat.le_refl _⟩) (pmC (f := fun i => ([gP cA aP pI pA, gM cA aM (upd mI 1 (pI 2)) mJ mA] : List va_W).getD i []) [0, 1] [1] [0] (by decide)) hP hD hS hA (pmC (f := fun i => ([gP cA aP pI pA, gM cA aM mI2 mJ mA] : List va_W).getD i []) [0, 1] [1] [0] (by decide)) (fun H locs hP hD hS => ?_)
      exact W.vret hx hb hr (fun t ht hW => ⟨⟨(mI2, mJ, mA), rfl, (og_inj h).symm, (by rw [ht]; exact hP), hD⟩, hS.F ht⟩) hS.2.2 dX1_execute_99
  have b11 : ∀ (x2 : Int32) (nn : Nat), ∀ (x4 : Int32) (x5 : Int32) (mI : Nat → Int32) (mJ : Nat → Int64) (mA : Nat → Nat → Int32) (H : Heap) (locs : List Loc) (ls : Array Slot), lp (f_X1_execute1_l11 n L x2 pI pA qJ) nn (x4, x5, mI, mJ, mA) = some R → va_P D vwCl (wl [gP cA aP pI pA, gM cA aM mI mJ mA] ++ gQ L qI qJ) H → va_D A (wl [gP cA aP pI pA, gM cA aM mI mJ mA] ++ gQ L qI qJ) → va_S A s.heap H locs → lv_has ls 6 [(0, .ref (aM 0)), (1, .ref (aP 0)), (2, .int x2), (4, .int x4), (5, .int x5)] → W p l e (headSpec (wsU yX1_execute cX1_execute 6 none) ({ frames := 4, cells := 0, slots := 0, locals := 92 })).room s m ([.ref (aM 0), .ref (aP 0), .int u2, .ref u3] : List Value).toArray below meth c H locs 0 0 (MQ below (QV D (fun u : (Nat → Int32) × (Nat → Int64) × (Nat → Nat → Int32) => (wl [gP cA aP pI pA, gM cA aM u.1 u.2.1 u.2.2] ++ gQ L qI qJ)) R A) ([.ref (aM 0), .ref (aP 0), .int u2, .ref u3] : List Value).toArray s 0 0 A) (F0 m 11 ls []) := by
    intro x2 nn
    induction nn with
    | zero =>
      intro x4 x5 mI mJ mA H locs ls h hP hD hS hl
      exact (lp_zero h).elim
    | succ nn hr11 =>
      intro x4 x5 mI mJ mA H locs ls h hP hD hS hl
      rw [lp_succ] at h
      unfold f_X1_execute1_l11 at h
      try dsimp only at h
      refine lv_iload hx hb dX1_execute_11 (lv_at hl 4 rfl) ?_
      refine lv_bipush (v := (60 : Int32)) hx hb dX1_execute_13 (by decide) ?_
      refine lv_icmp_ge (tgt := 78) hx hb dX1_execute_15 (by decide) (fun c3 => ?_) (fun c3 => ?_)
      · replace h := og_pos c3 h
        exact b78  _ _ _ _ _ _ h hP hD hS (lv_sub hl [0, 1] rfl)
      · replace h := og_neg c3 h
        refine lv_iload hx hb dX1_execute_18 (lv_at hl 3 rfl) ?_
        refine lv_aload_n hx hb dX1_execute_20 rfl (lv_at hl 1 rfl) ?_
        refine va_getN (D := D) (C := RX3) (T := TX3) (N := 12) hx hb hT inlX3 hown hK.1 hP 0 rfl rfl 9 (by decide) (va_Nw.use rfl (hN _ nl_RX1_22)) (fun _ h9 => h9) rfl dX1_execute_21 ?_
        refine lv_icmp_ge (tgt := 78) hx hb dX1_execute_24 (by decide) (fun c4 => ?_) (fun c4 => ?_)
        · replace h := og_pos c4 h
          exact b78  _ _ _ _ _ _ h hP hD hS (lv_sub hl [0, 1] rfl)
        · replace h := og_neg c4 h
          refine lv_aload_n hx hb dX1_execute_27 rfl (lv_at hl 0 rfl) ?_
          refine va_get (D := D) (C := RX1) (T := TX1) (N := 12) hx hb hT inlX1 hown hK.1 hP 8 rfl rfl 9 (by decide) (hT _ fl_RX1_28) (fun _ h9 => h9) rfl dX1_execute_28 ?_
          refine lv_if_ne (tgt := 78) hx hb dX1_execute_31 (by decide) (fun c5 => ?_) (fun c5 => ?_)
          · replace h := og_neg c5 h
            exact b78  _ _ _ _ _ _ h hP hD hS (lv_sub hl [0, 1] rfl)
          · replace h := og_pos c5 h
            refine lv_aload_n hx hb dX1_execute_34 rfl (lv_at hl 0 rfl) ?_
            refine lv_iload hx hb dX1_execute_35 (lv_at hl 3 rfl) ?_
            refine va_put (D := D) (v := .int x4) (ty := .int) (C := RX1) (T := TX1) (N := 12) hx hb hT inlX1 tyX1 tyX1_ok nmX1 hown hK.1 hP hD hS 8 rfl rfl 4 (by decide) (hT _ fl_RX1_32) (fun _ h9 => h9) rfl (by decide +kernel) rfl rfl (Nat.le_of_ble_eq_true rfl) dX1_execute_37 (fun H locs hP hD hS => ?_)
            have hP : va_P D vwCl (wl [gP cA aP pI pA, gM cA aM (upd mI 1 x4) mJ mA] ++ gQ L qI qJ) H := hP
            have hD : va_D A (wl [gP cA aP pI pA, gM cA aM (upd mI 1 x4) mJ mA] ++ gQ L qI qJ) := hD
            refine lv_aload_n hx hb dX1_execute_40 rfl (lv_at hl 0 rfl) ?_
            refine lv_aload_n hx hb dX1_execute_41 rfl (lv_at hl 0 rfl) ?_
            refine va_get (D := D) (C := RX1) (T := TX1) (N := 12) hx hb hT inlX1 hown hK.1 hP 8 rfl rfl 4 (by decide) (hT _ fl_RX1_32) (fun _ h9 => h9) rfl dX1_execute_42 ?_
            obtain ⟨⟨r6, _u6⟩, e6, h⟩ := og_bind h
            try dsimp only at h
            refine gc_l (ws := (wl [gP cA aP pI pA, gM cA aM (upd mI 1 x4) mJ mA] ++ gQ L qI qJ)) (wc := (wl ([] : List va_W))) (wr := (wl [gP cA aP pI pA, gM cA aM (upd mI 1 x4) mJ mA] ++ gQ L qI qJ)) (ws' := (wl [gP cA aP pI pA, gM cA aM (upd mI 1 x4) mJ mA] ++ gQ L qI qJ)) (va_runSN (host := RX4) (As := [.int ((upd mI 1 x4) 1)]) (rest := [.ref (aM 0)]) ⟨hx, hb, hml, hown, hT⟩ (k_X4_mark l D cA  H.size ((upd mI 1 x4) 1)  _ e6) ⟨va_cnB 1 hT (gw cd_yX4_mark_cX4_mark) rfl rfl rfl (hN _ nl_RX1_35) (hT _ ini_RX4) (by decide +kernel) ⟨Nat.le_of_ble_eq_true rfl, Nat.le_of_ble_eq_true rfl⟩, hT _ sc_yX4_mark, trivial⟩ (pre_S (wr := (wl [gP cA aP pI pA, gM cA aM (upd mI 1 x4) mJ mA] ++ gQ L qI qJ)) (pmC (f := fun i => ([gP cA aP pI pA, gM cA aM (upd mI 1 x4) mJ mA] : List va_W).getD i []) [0, 1] [] [0, 1] (by decide)) hK hP hD) rfl rfl hl.1 rfl (lv_room (Nat.le_of_ble_eq_true rfl)) dX1_execute_45 ⟨Nat.le_refl _, Nat.le_refl _⟩) (pmC (f := fun i => ([gP cA aP pI pA, gM cA aM (upd mI 1 x4) mJ mA] : List va_W).getD i []) [0, 1] [] [0, 1] (by decide)) hP hD hS hA (pmC (f := fun i => ([gP cA aP pI pA, gM cA aM (upd mI 1 x4) mJ mA] : List va_W).getD i []) [0, 1] [] [0, 1] (by decide)) (fun H locs hP hD hS => ?_)
            refine va_put (D := D) (v := .long r6) (ty := .long) (C := RX1) (T := TX1) (N := 12) hx hb hT inlX1 tyX1 tyX1_ok nmX1 hown hK.1 hP hD hS 8 rfl rfl 5 (by decide) (hT _ fl_RX1_39) (fun _ h9 => h9) rfl (by decide +kernel) rfl rfl (Nat.le_of_ble_eq_true rfl) dX1_execute_48 (fun H locs hP hD hS => ?_)
            have hP : va_P D vwCl (wl [gP cA aP pI pA, gM cA aM (upd mI 1 x4) (vp_updL mJ 1 r6) mA] ++ gQ L qI qJ) H := hP
            have hD : va_D A (wl [gP cA aP pI pA, gM cA aM (upd mI 1 x4) (vp_updL mJ 1 r6) mA] ++ gQ L qI qJ) := hD
            refine lv_aload_n hx hb dX1_execute_51 rfl (lv_at hl 0 rfl) ?_
            refine lv_dup hx hb dX1_execute_52 rfl ?_
            refine va_get (D := D) (C := RX1) (T := TX1) (N := 12) hx hb hT inlX1 hown hK.1 hP 8 rfl rfl 6 (by decide) (hT _ fl_RX1_43) (fun _ h9 => h9) rfl dX1_execute_53 ?_
            refine lv_aload_n hx hb dX1_execute_56 rfl (lv_at hl 0 rfl) ?_
            refine va_get (D := D) (C := RX1) (T := TX1) (N := 12) hx hb hT inlX1 hown hK.1 hP 8 rfl rfl 5 (by decide) (hT _ fl_RX1_39) (fun _ h9 => h9) rfl dX1_execute_57 ?_
            refine lv_lor hx hb dX1_execute_60 ?_
            refine va_put (D := D) (v := .long (((vp_updL mJ 1 r6) 2) ||| ((vp_updL mJ 1 r6) 1))) (ty := .long) (C := RX1) (T := TX1) (N := 12) hx hb hT inlX1 tyX1 tyX1_ok nmX1 hown hK.1 hP hD hS 8 rfl rfl 6 (by decide) (hT _ fl_RX1_43) (fun _ h9 => h9) rfl (by decide +kernel) rfl rfl (Nat.le_of_ble_eq_true rfl) dX1_execute_61 (fun H locs hP hD hS => ?_)
            have hP : va_P D vwCl (wl [gP cA aP pI pA, gM cA aM (upd mI 1 x4) (vp_updL (vp_updL mJ 1 r6) 2 (((vp_updL mJ 1 r6) 2) ||| ((vp_updL mJ 1 r6) 1))) mA] ++ gQ L qI qJ) H := hP
            have hD : va_D A (wl [gP cA aP pI pA, gM cA aM (upd mI 1 x4) (vp_updL (vp_updL mJ 1 r6) 2 (((vp_updL mJ 1 r6) 2) ||| ((vp_updL mJ 1 r6) 1))) mA] ++ gQ L qI qJ) := hD
            refine lv_aload_n hx hb dX1_execute_64 rfl (lv_at hl 0 rfl) ?_
            refine lv_aload_n hx hb dX1_execute_65 rfl (lv_at hl 1 rfl) ?_
            refine lv_iload_n hx hb dX1_execute_66 rfl (lv_at hl 2 rfl) ?_
            obtain ⟨⟨r7, mI7, mJ7, mA7⟩, e7, h⟩ := og_bind h
            try dsimp only at h
            refine gc_i (ws := (wl [gP cA aP pI pA, gM cA aM (upd mI 1 x4) (vp_updL (vp_updL mJ 1 r6) 2 (((vp_updL mJ 1 r6) 2) ||| ((vp_updL mJ 1 r6) 1))) mA] ++ gQ L qI qJ)) (wc := (wl [gP cA aP pI pA, gM cA aM (upd mI 1 x4) (vp_updL (vp_updL mJ 1 r6) 2 (((vp_updL mJ 1 r6) 2) ||| ((vp_updL mJ 1 r6) 1))) mA])) (wr := (wl ([] : List va_W) ++ gQ L qI qJ)) (ws' := (wl [gP cA aP pI pA, gM cA aM mI7 mJ7 mA7] ++ gQ L qI qJ)) (va_runV (As := [.ref (aP 0), .int x2]) (rest := []) ⟨hx, hb, hml, hown, hT⟩ (k_X1_step l D cA aP aM H.size x2 pI pA (upd mI 1 x4) (vp_updL (vp_updL mJ 1 r6) 2 (((vp_updL mJ 1 r6) 2) ||| ((vp_updL mJ 1 r6) 1))) mA _ e7) (cwV 2 hT gv_RX1_46 rfl rfl rfl (by decide +kernel) ⟨Nat.le_of_ble_eq_true rfl, Nat.le_of_ble_eq_true rfl⟩) (pre_V (ci := 1) (q0 := 8) (wr := (wl ([] : List va_W) ++ gQ L qI qJ)) (pmC (f := fun i => ([gP cA aP pI pA, gM cA aM (upd mI 1 x4) (vp_updL (vp_updL mJ 1 r6) 2 (((vp_updL mJ 1 r6) 2) ||| ((vp_updL mJ 1 r6) 1))) mA] : List va_W).getD i []) [0, 1] [0, 1] [] (by decide)) hK hP hD rfl rfl) rfl rfl hl.1 rfl (lv_room (Nat.le_of_ble_eq_true rfl)) dX1_execute_67 ⟨Nat.le_refl _, Nat.le_refl _⟩) (pmC (f := fun i => ([gP cA aP pI pA, gM cA aM (upd mI 1 x4) (vp_updL (vp_updL mJ 1 r6) 2 (((vp_updL mJ 1 r6) 2) ||| ((vp_updL mJ 1 r6) 1))) mA] : List va_W).getD i []) [0, 1] [0, 1] [] (by decide)) hP hD hS hA (pmC (f := fun i => ([gP cA aP pI pA, gM cA aM mI7 mJ7 mA7] : List va_W).getD i []) [0, 1] [0, 1] [] (by decide)) (fun H locs hP hD hS => ?_)
            refine lv_istore (lv' := [(4, .int r7), (0, .ref (aM 0)), (1, .ref (aP 0)), (2, .int x2), (5, .int x5)]) hx hb dX1_execute_70 hl (by decide) rfl (fun ls hl => ?_)
            refine lv_iinc (v := (x5 + 1)) (lv' := [(5, .int (x5 + 1)), (4, .int r7), (0, .ref (aM 0)), (1, .ref (aP 0)), (2, .int x2)]) hx hb dX1_execute_72 hl (k := 4) rfl rfl (by decide) rfl (fun ls hl => ?_)
            refine lv_goto (tgt := 11) hx hb dX1_execute_75 (by decide) ?_
            exact hr11 _ _ _ _ _ _ _ _ h hP hD hS (lv_sub hl [2, 3, 4, 1, 0] rfl)
  unfold f_X1_execute1 at h
  refine lv_aload_n hx hb dX1_execute_0 rfl (lv_at hl 0 rfl) ?_
  refine lv_aload_n hx hb dX1_execute_1 rfl (lv_at hl 3 rfl) ?_
  obtain ⟨⟨mI8, mJ8, mA8⟩, e8, h⟩ := og_bind h
  try dsimp only at h
  refine gc_v (ws := (wl [gP cA aP pI pA, gM cA aM mI mJ mA] ++ gQ L qI qJ)) (wc := (wl [gM cA aM mI mJ mA] ++ gQ L qI qJ)) (wr := (wl [gP cA aP pI pA])) (ws' := (wl [gP cA aP pI pA, gM cA aM mI8 mJ8 mA8] ++ gQ L qI qJ)) (va_runV (As := [.ref u3]) (rest := []) ⟨hx, hb, hml, hown, hT⟩ (k_X1_begin1 l D cA aM L s.heap.size n u3 mI mJ mA qI qJ _ e8) (cwV 1 hT gv_RX1_18 rfl rfl rfl (by decide +kernel) ⟨Nat.le_of_ble_eq_true rfl, Nat.le_of_ble_eq_true rfl⟩) (pre_V (ci := 1) (q0 := 0) (wr := (wl [gP cA aP pI pA])) (pmB (f := fun i => ([gP cA aP pI pA, gM cA aM mI mJ mA] : List va_W).getD i []) [0, 1] [1] [0] (by decide)) hK hP hD rfl rfl) rfl rfl hl.1 rfl (lv_room (Nat.le_of_ble_eq_true rfl)) dX1_execute_2 ⟨Nat.le_refl _, Nat.le_refl _⟩) (pmB (f := fun i => ([gP cA aP pI pA, gM cA aM mI mJ mA] : List va_W).getD i []) [0, 1] [1] [0] (by decide)) hP hD hS hA (pmB (f := fun i => ([gP cA aP pI pA, gM cA aM mI8 mJ8 mA8] : List va_W).getD i []) [0, 1] [1] [0] (by decide)) (fun H locs hP hD hS => ?_)
  refine lv_iconst (v := (0 : Int32)) hx hb dX1_execute_5 (by decide) ?_
  refine lv_istore (lv' := [(4, .int (0 : Int32)), (0, .ref (aM 0)), (1, .ref (aP 0)), (2, .int u2), (3, .ref u3)]) hx hb dX1_execute_6 hl (by decide) rfl (fun ls hl => ?_)
  refine lv_iconst (v := (0 : Int32)) hx hb dX1_execute_8 (by decide) ?_
  refine lv_istore (lv' := [(5, .int (0 : Int32)), (4, .int (0 : Int32)), (0, .ref (aM 0)), (1, .ref (aP 0)), (2, .int u2), (3, .ref u3)]) hx hb dX1_execute_9 hl (by decide) rfl (fun ls hl => ?_)
  exact b11  _ n _ _ _ _ _ _ _ _ h hP hD hS (lv_sub hl [2, 3, 4, 1, 0] rfl)
set_option maxRecDepth 100000 in
set_option maxHeartbeats 8000000 in
theorem k_X2_take (l : Launch) (D : va_G) (cA : Nat → ClassId) (aM : Nat → Nat) (L : List Nat) (sz : Nat) (u0 : Nat) (u2 : Int32) (mI : Nat → Int32) (mJ : Nat → Int64) (mA : Nat → Nat → Int32) (qI : Nat → Nat → Int32) (qJ : Nat → Nat → Int64) (R : (Nat → Nat → Int32) × (Nat → Nat → Int64)) (h : f_X2_take L u0 u2 mI mJ qI qJ = some R) : Met l yX2_take (wsU yX2_take cX2_take 3 none) ({ frames := 0, cells := 0, slots := 0, locals := 0 }) (PcW D cA (wl [gM cA aM mI mJ mA] ++ gQ L qI qJ) sz [.ref u0, .ref (aM 0), .int u2]) (QV D (fun u : (Nat → Nat → Int32) × (Nat → Nat → Int64) => (wl [gM cA aM mI mJ mA] ++ gQ L u.1 u.2)) R (va_A (wl [gM cA aM mI mJ mA] ++ gQ L qI qJ) sz)) 0 0 (va_A (wl [gM cA aM mI mJ mA] ++ gQ L qI qJ) sz) := by
  refine Met.ofW (cc := cX2_take) (maxL := 3) (ret := none) (by decide) rfl ?_
  intro p e s m args below meth c s₁ B hml hv
  obtain ⟨rfl, hsz, hP, hK, hD0⟩ := hv
  have hx := B.exec
  have hb := B.bytes
  have hr := B.returns
  have hts := atoms_spec (ws := (wsU yX2_take cX2_take 3 none)) B.pre
  have hT : ∀ w ∈ wsL_law, w.before ([.ref u0, .ref (aM 0), .int u2] : List Value).toArray s = true := fun w h => hts w (List.mem_cons_of_mem _ h)
  have hown : s.vm.findClass RX2 = some m.cls := findClass_of_methodNamed B.named
  have hlocks := B.notSynchronized
  have hN := hK.2
  subst hsz
  have hD := hD0.self (sz := s.heap.size)
  generalize hAe : va_A (wl [gM cA aM mI mJ mA] ++ gQ L qI qJ) s.heap.size = A at hD ⊢
  have hA : ∀ q : Nat, s.heap.size ≤ q → A q := fun q h => by rw [← hAe]; exact Or.inr h
  have hS : va_S A s.heap s.heap [] := va_S.rf
  have hl := lv_entry ([.ref u0, .ref (aM 0), .int u2]) (n := 3) (Nat.le_of_ble_eq_true rfl)
  rw [lg_entry_eq]
  generalize (lg_sl ([.ref u0, .ref (aM 0), .int u2]) ++ List.replicate (3 - (lg_sl ([.ref u0, .ref (aM 0), .int u2])).length) Slot.unset).toArray = ls at hl ⊢
  have hl : lv_has ls 3 [(0, .ref u0), (1, .ref (aM 0)), (2, .int u2)] := hl
  unfold f_X2_take at h
  refine lv_aload_n hx hb dX2_take_0 rfl (lv_at hl 0 rfl) ?_
  refine lv_aload_n hx hb dX2_take_1 rfl (lv_at hl 1 rfl) ?_
  refine va_getN (D := D) (C := RX1) (T := TX1) (N := 12) hx hb hT inlX1 hown hK.1 hP 0 rfl rfl 7 (by decide) (va_Nw.use rfl (hN _ nl_RX2_7)) (fun _ h9 => h9) rfl dX2_take_2 ?_
  obtain ⟨m1, h⟩ := og_guard h
  obtain ⟨kq2, hkq2⟩ := va_pl_get (X := (wl [gM cA aM mI mJ mA])) (f := fQ qI qJ) m1
  refine va_put (D := D) (v := .long (mJ 3)) (ty := .long) (C := RX2) (T := TX2) (N := 7) hx hb hT inlX2 tyX2 tyX2_ok nmX2 hown hK.1 hP hD hS kq2 hkq2 rfl 0 (by decide) (hT _ fl_RX2_13) (fun _ h9 => h9) rfl (by decide +kernel) rfl rfl (Nat.le_of_ble_eq_true rfl) dX2_take_5 (fun H locs hP1 hD1 hS => ?_)
  have hP := pq_P (e := .inr (2, [.long (mJ 3), .long (qJ u0 1), .int (qI u0 0), .int (qI u0 1), .int (qI u0 2), .int (qI u0 3), .int (qI u0 4)])) hD m1 hkq2 fQ_up0 hP1
  have hD := pq_D (e := .inr (2, [.long (mJ 3), .long (qJ u0 1), .int (qI u0 0), .int (qI u0 1), .int (qI u0 2), .int (qI u0 3), .int (qI u0 4)])) hD m1 hkq2 fQ_up0 hD1
  have hP : va_P D vwCl (wl [gM cA aM mI mJ mA] ++ gQ L qI (up2J qJ u0 0 (mJ 3))) H := hP
  have hD : va_D A (wl [gM cA aM mI mJ mA] ++ gQ L qI (up2J qJ u0 0 (mJ 3))) := hD
  refine lv_aload_n hx hb dX2_take_8 rfl (lv_at hl 0 rfl) ?_
  refine lv_aload_n hx hb dX2_take_9 rfl (lv_at hl 1 rfl) ?_
  refine va_getN (D := D) (C := RX1) (T := TX1) (N := 12) hx hb hT inlX1 hown hK.1 hP 0 rfl rfl 8 (by decide) (va_Nw.use rfl (hN _ nl_RX2_16)) (fun _ h9 => h9) rfl dX2_take_10 ?_
  obtain ⟨kq3, hkq3⟩ := va_pl_get (X := (wl [gM cA aM mI mJ mA])) (f := fQ qI (up2J qJ u0 0 (mJ 3))) m1
  refine va_put (D := D) (v := .long (mJ 4)) (ty := .long) (C := RX2) (T := TX2) (N := 7) hx hb hT inlX2 tyX2 tyX2_ok nmX2 hown hK.1 hP hD hS kq3 hkq3 rfl 1 (by decide) (hT _ fl_RX2_19) (fun _ h9 => h9) rfl (by decide +kernel) rfl rfl (Nat.le_of_ble_eq_true rfl) dX2_take_13 (fun H locs hP1 hD1 hS => ?_)
  have hP := pq_P (e := .inr (2, [.long ((up2J qJ u0 0 (mJ 3)) u0 0), .long (mJ 4), .int (qI u0 0), .int (qI u0 1), .int (qI u0 2), .int (qI u0 3), .int (qI u0 4)])) hD m1 hkq3 fQ_up1 hP1
  have hD := pq_D (e := .inr (2, [.long ((up2J qJ u0 0 (mJ 3)) u0 0), .long (mJ 4), .int (qI u0 0), .int (qI u0 1), .int (qI u0 2), .int (qI u0 3), .int (qI u0 4)])) hD m1 hkq3 fQ_up1 hD1
  have hP : va_P D vwCl (wl [gM cA aM mI mJ mA] ++ gQ L qI (up2J (up2J qJ u0 0 (mJ 3)) u0 1 (mJ 4))) H := hP
  have hD : va_D A (wl [gM cA aM mI mJ mA] ++ gQ L qI (up2J (up2J qJ u0 0 (mJ 3)) u0 1 (mJ 4))) := hD
  refine lv_aload_n hx hb dX2_take_16 rfl (lv_at hl 0 rfl) ?_
  refine lv_aload_n hx hb dX2_take_17 rfl (lv_at hl 1 rfl) ?_
  refine va_getN (D := D) (C := RX1) (T := TX1) (N := 12) hx hb hT inlX1 hown hK.1 hP 0 rfl rfl 10 (by decide) (va_Nw.use rfl (hN _ nl_RX2_20)) (fun _ h9 => h9) rfl dX2_take_18 ?_
  obtain ⟨kq4, hkq4⟩ := va_pl_get (X := (wl [gM cA aM mI mJ mA])) (f := fQ qI (up2J (up2J qJ u0 0 (mJ 3)) u0 1 (mJ 4))) m1
  refine va_put (D := D) (v := .int (mI 3)) (ty := .int) (C := RX2) (T := TX2) (N := 7) hx hb hT inlX2 tyX2 tyX2_ok nmX2 hown hK.1 hP hD hS kq4 hkq4 rfl 2 (by decide) (hT _ fl_RX2_24) (fun _ h9 => h9) rfl (by decide +kernel) rfl rfl (Nat.le_of_ble_eq_true rfl) dX2_take_21 (fun H locs hP1 hD1 hS => ?_)
  have hP := pq_P (e := .inr (2, [.long ((up2J (up2J qJ u0 0 (mJ 3)) u0 1 (mJ 4)) u0 0), .long ((up2J (up2J qJ u0 0 (mJ 3)) u0 1 (mJ 4)) u0 1), .int (mI 3), .int (qI u0 1), .int (qI u0 2), .int (qI u0 3), .int (qI u0 4)])) hD m1 hkq4 fQ_up2 hP1
  have hD := pq_D (e := .inr (2, [.long ((up2J (up2J qJ u0 0 (mJ 3)) u0 1 (mJ 4)) u0 0), .long ((up2J (up2J qJ u0 0 (mJ 3)) u0 1 (mJ 4)) u0 1), .int (mI 3), .int (qI u0 1), .int (qI u0 2), .int (qI u0 3), .int (qI u0 4)])) hD m1 hkq4 fQ_up2 hD1
  have hP : va_P D vwCl (wl [gM cA aM mI mJ mA] ++ gQ L (up2 qI u0 0 (mI 3)) (up2J (up2J qJ u0 0 (mJ 3)) u0 1 (mJ 4))) H := hP
  have hD : va_D A (wl [gM cA aM mI mJ mA] ++ gQ L (up2 qI u0 0 (mI 3)) (up2J (up2J qJ u0 0 (mJ 3)) u0 1 (mJ 4))) := hD
  refine lv_aload_n hx hb dX2_take_24 rfl (lv_at hl 0 rfl) ?_
  refine lv_aload_n hx hb dX2_take_25 rfl (lv_at hl 1 rfl) ?_
  refine va_getN (D := D) (C := RX1) (T := TX1) (N := 12) hx hb hT inlX1 hown hK.1 hP 0 rfl rfl 4 (by decide) (va_Nw.use rfl (hN _ nl_RX2_25)) (fun _ h9 => h9) rfl dX2_take_26 ?_
  obtain ⟨kq5, hkq5⟩ := va_pl_get (X := (wl [gM cA aM mI mJ mA])) (f := fQ (up2 qI u0 0 (mI 3)) (up2J (up2J qJ u0 0 (mJ 3)) u0 1 (mJ 4))) m1
  refine va_put (D := D) (v := .int (mI 1)) (ty := .int) (C := RX2) (T := TX2) (N := 7) hx hb hT inlX2 tyX2 tyX2_ok nmX2 hown hK.1 hP hD hS kq5 hkq5 rfl 3 (by decide) (hT _ fl_RX2_28) (fun _ h9 => h9) rfl (by decide +kernel) rfl rfl (Nat.le_of_ble_eq_true rfl) dX2_take_29 (fun H locs hP1 hD1 hS => ?_)
  have hP := pq_P (e := .inr (2, [.long ((up2J (up2J qJ u0 0 (mJ 3)) u0 1 (mJ 4)) u0 0), .long ((up2J (up2J qJ u0 0 (mJ 3)) u0 1 (mJ 4)) u0 1), .int ((up2 qI u0 0 (mI 3)) u0 0), .int (mI 1), .int ((up2 qI u0 0 (mI 3)) u0 2), .int ((up2 qI u0 0 (mI 3)) u0 3), .int ((up2 qI u0 0 (mI 3)) u0 4)])) hD m1 hkq5 fQ_up3 hP1
  have hD := pq_D (e := .inr (2, [.long ((up2J (up2J qJ u0 0 (mJ 3)) u0 1 (mJ 4)) u0 0), .long ((up2J (up2J qJ u0 0 (mJ 3)) u0 1 (mJ 4)) u0 1), .int ((up2 qI u0 0 (mI 3)) u0 0), .int (mI 1), .int ((up2 qI u0 0 (mI 3)) u0 2), .int ((up2 qI u0 0 (mI 3)) u0 3), .int ((up2 qI u0 0 (mI 3)) u0 4)])) hD m1 hkq5 fQ_up3 hD1
  have hP : va_P D vwCl (wl [gM cA aM mI mJ mA] ++ gQ L (up2 (up2 qI u0 0 (mI 3)) u0 1 (mI 1)) (up2J (up2J qJ u0 0 (mJ 3)) u0 1 (mJ 4))) H := hP
  have hD : va_D A (wl [gM cA aM mI mJ mA] ++ gQ L (up2 (up2 qI u0 0 (mI 3)) u0 1 (mI 1)) (up2J (up2J qJ u0 0 (mJ 3)) u0 1 (mJ 4))) := hD
  refine lv_aload_n hx hb dX2_take_32 rfl (lv_at hl 0 rfl) ?_
  refine lv_iload_n hx hb dX2_take_33 rfl (lv_at hl 2 rfl) ?_
  obtain ⟨kq6, hkq6⟩ := va_pl_get (X := (wl [gM cA aM mI mJ mA])) (f := fQ (up2 (up2 qI u0 0 (mI 3)) u0 1 (mI 1)) (up2J (up2J qJ u0 0 (mJ 3)) u0 1 (mJ 4))) m1
  refine va_put (D := D) (v := .int u2) (ty := .int) (C := RX2) (T := TX2) (N := 7) hx hb hT inlX2 tyX2 tyX2_ok nmX2 hown hK.1 hP hD hS kq6 hkq6 rfl 4 (by decide) (hT _ fl_RX2_31) (fun _ h9 => h9) rfl (by decide +kernel) rfl rfl (Nat.le_of_ble_eq_true rfl) dX2_take_34 (fun H locs hP1 hD1 hS => ?_)
  have hP := pq_P (e := .inr (2, [.long ((up2J (up2J qJ u0 0 (mJ 3)) u0 1 (mJ 4)) u0 0), .long ((up2J (up2J qJ u0 0 (mJ 3)) u0 1 (mJ 4)) u0 1), .int ((up2 (up2 qI u0 0 (mI 3)) u0 1 (mI 1)) u0 0), .int ((up2 (up2 qI u0 0 (mI 3)) u0 1 (mI 1)) u0 1), .int u2, .int ((up2 (up2 qI u0 0 (mI 3)) u0 1 (mI 1)) u0 3), .int ((up2 (up2 qI u0 0 (mI 3)) u0 1 (mI 1)) u0 4)])) hD m1 hkq6 fQ_up4 hP1
  have hD := pq_D (e := .inr (2, [.long ((up2J (up2J qJ u0 0 (mJ 3)) u0 1 (mJ 4)) u0 0), .long ((up2J (up2J qJ u0 0 (mJ 3)) u0 1 (mJ 4)) u0 1), .int ((up2 (up2 qI u0 0 (mI 3)) u0 1 (mI 1)) u0 0), .int ((up2 (up2 qI u0 0 (mI 3)) u0 1 (mI 1)) u0 1), .int u2, .int ((up2 (up2 qI u0 0 (mI 3)) u0 1 (mI 1)) u0 3), .int ((up2 (up2 qI u0 0 (mI 3)) u0 1 (mI 1)) u0 4)])) hD m1 hkq6 fQ_up4 hD1
  have hP : va_P D vwCl (wl [gM cA aM mI mJ mA] ++ gQ L (up2 (up2 (up2 qI u0 0 (mI 3)) u0 1 (mI 1)) u0 2 u2) (up2J (up2J qJ u0 0 (mJ 3)) u0 1 (mJ 4))) H := hP
  have hD : va_D A (wl [gM cA aM mI mJ mA] ++ gQ L (up2 (up2 (up2 qI u0 0 (mI 3)) u0 1 (mI 1)) u0 2 u2) (up2J (up2J qJ u0 0 (mJ 3)) u0 1 (mJ 4))) := hD
  refine lv_aload_n hx hb dX2_take_37 rfl (lv_at hl 0 rfl) ?_
  refine lv_aload_n hx hb dX2_take_38 rfl (lv_at hl 1 rfl) ?_
  refine va_getN (D := D) (C := RX1) (T := TX1) (N := 12) hx hb hT inlX1 hown hK.1 hP 0 rfl rfl 11 (by decide) (va_Nw.use rfl (hN _ nl_RX2_34)) (fun _ h9 => h9) rfl dX2_take_39 ?_
  obtain ⟨kq7, hkq7⟩ := va_pl_get (X := (wl [gM cA aM mI mJ mA])) (f := fQ (up2 (up2 (up2 qI u0 0 (mI 3)) u0 1 (mI 1)) u0 2 u2) (up2J (up2J qJ u0 0 (mJ 3)) u0 1 (mJ 4))) m1
  refine va_put (D := D) (v := .int (mI 4)) (ty := .int) (C := RX2) (T := TX2) (N := 7) hx hb hT inlX2 tyX2 tyX2_ok nmX2 hown hK.1 hP hD hS kq7 hkq7 rfl 5 (by decide) (hT _ fl_RX2_37) (fun _ h9 => h9) rfl (by decide +kernel) rfl rfl (Nat.le_of_ble_eq_true rfl) dX2_take_42 (fun H locs hP1 hD1 hS => ?_)
  have hP := pq_P (e := .inr (2, [.long ((up2J (up2J qJ u0 0 (mJ 3)) u0 1 (mJ 4)) u0 0), .long ((up2J (up2J qJ u0 0 (mJ 3)) u0 1 (mJ 4)) u0 1), .int ((up2 (up2 (up2 qI u0 0 (mI 3)) u0 1 (mI 1)) u0 2 u2) u0 0), .int ((up2 (up2 (up2 qI u0 0 (mI 3)) u0 1 (mI 1)) u0 2 u2) u0 1), .int ((up2 (up2 (up2 qI u0 0 (mI 3)) u0 1 (mI 1)) u0 2 u2) u0 2), .int (mI 4), .int ((up2 (up2 (up2 qI u0 0 (mI 3)) u0 1 (mI 1)) u0 2 u2) u0 4)])) hD m1 hkq7 fQ_up5 hP1
  have hD := pq_D (e := .inr (2, [.long ((up2J (up2J qJ u0 0 (mJ 3)) u0 1 (mJ 4)) u0 0), .long ((up2J (up2J qJ u0 0 (mJ 3)) u0 1 (mJ 4)) u0 1), .int ((up2 (up2 (up2 qI u0 0 (mI 3)) u0 1 (mI 1)) u0 2 u2) u0 0), .int ((up2 (up2 (up2 qI u0 0 (mI 3)) u0 1 (mI 1)) u0 2 u2) u0 1), .int ((up2 (up2 (up2 qI u0 0 (mI 3)) u0 1 (mI 1)) u0 2 u2) u0 2), .int (mI 4), .int ((up2 (up2 (up2 qI u0 0 (mI 3)) u0 1 (mI 1)) u0 2 u2) u0 4)])) hD m1 hkq7 fQ_up5 hD1
  have hP : va_P D vwCl (wl [gM cA aM mI mJ mA] ++ gQ L (up2 (up2 (up2 (up2 qI u0 0 (mI 3)) u0 1 (mI 1)) u0 2 u2) u0 3 (mI 4)) (up2J (up2J qJ u0 0 (mJ 3)) u0 1 (mJ 4))) H := hP
  have hD : va_D A (wl [gM cA aM mI mJ mA] ++ gQ L (up2 (up2 (up2 (up2 qI u0 0 (mI 3)) u0 1 (mI 1)) u0 2 u2) u0 3 (mI 4)) (up2J (up2J qJ u0 0 (mJ 3)) u0 1 (mJ 4))) := hD
  refine lv_aload_n hx hb dX2_take_45 rfl (lv_at hl 0 rfl) ?_
  refine lv_iconst (v := (1 : Int32)) hx hb dX2_take_46 (by decide) ?_
  obtain ⟨kq8, hkq8⟩ := va_pl_get (X := (wl [gM cA aM mI mJ mA])) (f := fQ (up2 (up2 (up2 (up2 qI u0 0 (mI 3)) u0 1 (mI 1)) u0 2 u2) u0 3 (mI 4)) (up2J (up2J qJ u0 0 (mJ 3)) u0 1 (mJ 4))) m1
  refine va_put (D := D) (v := .int (1 : Int32)) (ty := .boolean) (C := RX2) (T := TX2) (N := 7) hx hb hT inlX2 tyX2 tyX2_ok nmX2 hown hK.1 hP hD hS kq8 hkq8 rfl 6 (by decide) (hT _ fl_RX2_38) (fun _ h9 => h9) rfl (by decide +kernel) (by decide +kernel) (by decide +kernel) (Nat.le_of_ble_eq_true rfl) dX2_take_47 (fun H locs hP1 hD1 hS => ?_)
  have hP := pq_P (e := .inr (2, [.long ((up2J (up2J qJ u0 0 (mJ 3)) u0 1 (mJ 4)) u0 0), .long ((up2J (up2J qJ u0 0 (mJ 3)) u0 1 (mJ 4)) u0 1), .int ((up2 (up2 (up2 (up2 qI u0 0 (mI 3)) u0 1 (mI 1)) u0 2 u2) u0 3 (mI 4)) u0 0), .int ((up2 (up2 (up2 (up2 qI u0 0 (mI 3)) u0 1 (mI 1)) u0 2 u2) u0 3 (mI 4)) u0 1), .int ((up2 (up2 (up2 (up2 qI u0 0 (mI 3)) u0 1 (mI 1)) u0 2 u2) u0 3 (mI 4)) u0 2), .int ((up2 (up2 (up2 (up2 qI u0 0 (mI 3)) u0 1 (mI 1)) u0 2 u2) u0 3 (mI 4)) u0 3), .int (1 : Int32)])) hD m1 hkq8 fQ_up6 hP1
  have hD := pq_D (e := .inr (2, [.long ((up2J (up2J qJ u0 0 (mJ 3)) u0 1 (mJ 4)) u0 0), .long ((up2J (up2J qJ u0 0 (mJ 3)) u0 1 (mJ 4)) u0 1), .int ((up2 (up2 (up2 (up2 qI u0 0 (mI 3)) u0 1 (mI 1)) u0 2 u2) u0 3 (mI 4)) u0 0), .int ((up2 (up2 (up2 (up2 qI u0 0 (mI 3)) u0 1 (mI 1)) u0 2 u2) u0 3 (mI 4)) u0 1), .int ((up2 (up2 (up2 (up2 qI u0 0 (mI 3)) u0 1 (mI 1)) u0 2 u2) u0 3 (mI 4)) u0 2), .int ((up2 (up2 (up2 (up2 qI u0 0 (mI 3)) u0 1 (mI 1)) u0 2 u2) u0 3 (mI 4)) u0 3), .int (1 : Int32)])) hD m1 hkq8 fQ_up6 hD1
  have hP : va_P D vwCl (wl [gM cA aM mI mJ mA] ++ gQ L (up2 (up2 (up2 (up2 (up2 qI u0 0 (mI 3)) u0 1 (mI 1)) u0 2 u2) u0 3 (mI 4)) u0 4 (1 : Int32)) (up2J (up2J qJ u0 0 (mJ 3)) u0 1 (mJ 4))) H := hP
  have hD : va_D A (wl [gM cA aM mI mJ mA] ++ gQ L (up2 (up2 (up2 (up2 (up2 qI u0 0 (mI 3)) u0 1 (mI 1)) u0 2 u2) u0 3 (mI 4)) u0 4 (1 : Int32)) (up2J (up2J qJ u0 0 (mJ 3)) u0 1 (mJ 4))) := hD
  exact W.vret hx hb hr (fun t ht hW => ⟨⟨((up2 (up2 (up2 (up2 (up2 qI u0 0 (mI 3)) u0 1 (mI 1)) u0 2 u2) u0 3 (mI 4)) u0 4 (1 : Int32)), (up2J (up2J qJ u0 0 (mJ 3)) u0 1 (mJ 4))), rfl, (og_inj h).symm, (by rw [ht]; exact hP), hD⟩, hS.F ht⟩) hS.2.2 dX2_take_50
