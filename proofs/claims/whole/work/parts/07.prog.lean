set_option maxRecDepth 100000 in
set_option maxHeartbeats 8000000 in
theorem k_X3_takesThreeRegisters (l : Launch) (D : va_G) (cA : Nat → ClassId)  (sz : Nat) (u0 : Int32) (R : Int32 × Unit) (h : f_X3_takesThreeRegisters u0 = some R) : Met l yX3_takesThreeRegisters (wsU yX3_takesThreeRegisters cX3_takesThreeRegisters 1 (some .boolean)) ({ frames := 0, cells := 0, slots := 0, locals := 0 }) (PcW D cA (wl ([] : List va_W)) sz [.int u0]) (QI D (fun _ : Unit => (wl ([] : List va_W))) R (va_A (wl ([] : List va_W)) sz)) 0 0 (va_A (wl ([] : List va_W)) sz) := by
  refine Met.ofW (cc := cX3_takesThreeRegisters) (maxL := 1) (ret := (some .boolean)) (by decide) rfl ?_
  intro p e s m args below meth c s₁ B hml hv
  obtain ⟨rfl, hsz, hP, hK, hD0⟩ := hv
  have hx := B.exec
  have hb := B.bytes
  have hr := B.returns
  have hts := atoms_spec (ws := (wsU yX3_takesThreeRegisters cX3_takesThreeRegisters 1 (some .boolean))) B.pre
  have hT : ∀ w ∈ wsL_law, w.before ([.int u0] : List Value).toArray s = true := fun w h => hts w (List.mem_cons_of_mem _ h)
  have hown : s.vm.findClass RX3 = some m.cls := findClass_of_methodNamed B.named
  have hlocks := B.notSynchronized
  have hN := hK.2
  subst hsz
  have hD := hD0.self (sz := s.heap.size)
  generalize hAe : va_A (wl ([] : List va_W)) s.heap.size = A at hD ⊢
  have hA : ∀ q : Nat, s.heap.size ≤ q → A q := fun q h => by rw [← hAe]; exact Or.inr h
  have hS : va_S A s.heap s.heap [] := va_S.rf
  have hl := lv_entry ([.int u0]) (n := 1) (Nat.le_of_ble_eq_true rfl)
  rw [lg_entry_eq]
  generalize (lg_sl ([.int u0]) ++ List.replicate (1 - (lg_sl ([.int u0])).length) Slot.unset).toArray = ls at hl ⊢
  have hl : lv_has ls 1 [(0, .int u0)] := hl
  have b11 : ∀ (x0 : Int32) (H : Heap) (locs : List Loc) (ls : Array Slot), f_X3_takesThreeRegisters_b11 x0 = some R → va_P D vwCl (wl ([] : List va_W)) H → va_D A (wl ([] : List va_W)) → va_S A s.heap H locs → lv_has ls 1 [(0, .int x0)] → W p l e (headSpec (wsU yX3_takesThreeRegisters cX3_takesThreeRegisters 1 (some .boolean)) ({ frames := 0, cells := 0, slots := 0, locals := 0 })).room s m ([.int u0] : List Value).toArray below meth c H locs 0 0 (MQ below (QI D (fun _ : Unit => (wl ([] : List va_W))) R A) ([.int u0] : List Value).toArray s 0 0 A) (F0 m 11 ls []) := by
    intro x0 H locs ls h hP hD hS hl
    unfold f_X3_takesThreeRegisters_b11 at h
    refine lv_iload_n hx hb dX3_takesThreeRegisters_11 rfl (lv_at hl 0 rfl) ?_
    refine lv_bipush (v := (24 : Int32)) hx hb dX3_takesThreeRegisters_12 (by decide) ?_
    refine lv_icmp_ne (tgt := 21) hx hb dX3_takesThreeRegisters_14 (by decide) (fun c1 => ?_) (fun c1 => ?_)
    · replace h := og_neg c1 h
      refine lv_iconst (v := (0 : Int32)) hx hb dX3_takesThreeRegisters_21 (by decide) ?_
      exact W.zret (v := (0 : Int32)) hx hb hr (by decide +kernel) (fun t ht hW => ⟨⟨(0 : Int32), (), rfl, ⟨(congrArg Prod.fst (og_inj h)).symm, (congrArg Prod.snd (og_inj h)).symm⟩, (by rw [ht]; exact hP), hD⟩, hS.F ht⟩) hS.2.2 dX3_takesThreeRegisters_22
    · replace h := og_pos c1 h
      refine lv_iconst (v := (1 : Int32)) hx hb dX3_takesThreeRegisters_17 (by decide) ?_
      refine lv_goto (tgt := 22) hx hb dX3_takesThreeRegisters_18 (by decide) ?_
      exact W.zret (v := (1 : Int32)) hx hb hr (by decide +kernel) (fun t ht hW => ⟨⟨(1 : Int32), (), rfl, ⟨(congrArg Prod.fst (og_inj h)).symm, (congrArg Prod.snd (og_inj h)).symm⟩, (by rw [ht]; exact hP), hD⟩, hS.F ht⟩) hS.2.2 dX3_takesThreeRegisters_22
  unfold f_X3_takesThreeRegisters at h
  refine lv_iload_n hx hb dX3_takesThreeRegisters_0 rfl (lv_at hl 0 rfl) ?_
  refine lv_iconst (v := (3 : Int32)) hx hb dX3_takesThreeRegisters_1 (by decide) ?_
  refine lv_icmp_lt (tgt := 11) hx hb dX3_takesThreeRegisters_2 (by decide) (fun c2 => ?_) (fun c2 => ?_)
  · replace h := og_pos c2 h
    exact b11  _ _ _ _ h hP hD hS (lv_sub hl [0] rfl)
  · replace h := og_neg c2 h
    refine lv_iload_n hx hb dX3_takesThreeRegisters_5 rfl (lv_at hl 0 rfl) ?_
    refine lv_bipush (v := (21 : Int32)) hx hb dX3_takesThreeRegisters_6 (by decide) ?_
    refine lv_icmp_le (tgt := 17) hx hb dX3_takesThreeRegisters_8 (by decide) (fun c3 => ?_) (fun c3 => ?_)
    · replace h := og_pos c3 h
      refine lv_iconst (v := (1 : Int32)) hx hb dX3_takesThreeRegisters_17 (by decide) ?_
      refine lv_goto (tgt := 22) hx hb dX3_takesThreeRegisters_18 (by decide) ?_
      exact W.zret (v := (1 : Int32)) hx hb hr (by decide +kernel) (fun t ht hW => ⟨⟨(1 : Int32), (), rfl, ⟨(congrArg Prod.fst (og_inj h)).symm, (congrArg Prod.snd (og_inj h)).symm⟩, (by rw [ht]; exact hP), hD⟩, hS.F ht⟩) hS.2.2 dX3_takesThreeRegisters_22
    · replace h := og_neg c3 h
      exact b11  _ _ _ _ h hP hD hS (lv_sub hl [0] rfl)
set_option maxRecDepth 100000 in
set_option maxHeartbeats 8000000 in
theorem k_X3_empty (l : Launch) (D : va_G) (cA : Nat → ClassId) (aP : Nat → Nat) (sz : Nat) (pI : Nat → Int32) (pA : Nat → Nat → Int32) (R : (Nat → Int32)) (h : f_X3_empty pI = some R) : Met l yX3_empty (wsU yX3_empty cX3_empty 1 none) ({ frames := 0, cells := 0, slots := 0, locals := 0 }) (PcW D cA (wl [gP cA aP pI pA]) sz [.ref (aP 0)]) (QV D (fun u : (Nat → Int32) => (wl [gP cA aP u pA])) R (va_A (wl [gP cA aP pI pA]) sz)) 0 0 (va_A (wl [gP cA aP pI pA]) sz) := by
  refine Met.ofW (cc := cX3_empty) (maxL := 1) (ret := none) (by decide) rfl ?_
  intro p e s m args below meth c s₁ B hml hv
  obtain ⟨rfl, hsz, hP, hK, hD0⟩ := hv
  have hx := B.exec
  have hb := B.bytes
  have hr := B.returns
  have hts := atoms_spec (ws := (wsU yX3_empty cX3_empty 1 none)) B.pre
  have hT : ∀ w ∈ wsL_law, w.before ([.ref (aP 0)] : List Value).toArray s = true := fun w h => hts w (List.mem_cons_of_mem _ h)
  have hown : s.vm.findClass RX3 = some m.cls := findClass_of_methodNamed B.named
  have hlocks := B.notSynchronized
  have hN := hK.2
  subst hsz
  have hD := hD0.self (sz := s.heap.size)
  generalize hAe : va_A (wl [gP cA aP pI pA]) s.heap.size = A at hD ⊢
  have hA : ∀ q : Nat, s.heap.size ≤ q → A q := fun q h => by rw [← hAe]; exact Or.inr h
  have hS : va_S A s.heap s.heap [] := va_S.rf
  have hl := lv_entry ([.ref (aP 0)]) (n := 1) (Nat.le_of_ble_eq_true rfl)
  rw [lg_entry_eq]
  generalize (lg_sl ([.ref (aP 0)]) ++ List.replicate (1 - (lg_sl ([.ref (aP 0)])).length) Slot.unset).toArray = ls at hl ⊢
  have hl : lv_has ls 1 [(0, .ref (aP 0))] := hl
  unfold f_X3_empty at h
  refine lv_aload_n hx hb dX3_empty_0 rfl (lv_at hl 0 rfl) ?_
  refine lv_iconst (v := (0 : Int32)) hx hb dX3_empty_1 (by decide) ?_
  refine va_put (D := D) (v := .int (0 : Int32)) (ty := .int) (C := RX3) (T := TX3) (N := 12) hx hb hT inlX3 tyX3 tyX3_ok nmX3 hown hK.1 hP hD hS 0 rfl rfl 3 (by decide) (hT _ fl_RX3_34) (fun _ h9 => h9) rfl (by decide +kernel) rfl rfl (Nat.le_of_ble_eq_true rfl) dX3_empty_2 (fun H locs hP hD hS => ?_)
  have hP : va_P D vwCl (wl [gP cA aP (upd pI 0 (0 : Int32)) pA]) H := hP
  have hD : va_D A (wl [gP cA aP (upd pI 0 (0 : Int32)) pA]) := hD
  refine lv_aload_n hx hb dX3_empty_5 rfl (lv_at hl 0 rfl) ?_
  refine lv_iconst (v := (0 : Int32)) hx hb dX3_empty_6 (by decide) ?_
  refine va_put (D := D) (v := .int (0 : Int32)) (ty := .int) (C := RX3) (T := TX3) (N := 12) hx hb hT inlX3 tyX3 tyX3_ok nmX3 hown hK.1 hP hD hS 0 rfl rfl 4 (by decide) (hT _ fl_RX3_38) (fun _ h9 => h9) rfl (by decide +kernel) rfl rfl (Nat.le_of_ble_eq_true rfl) dX3_empty_7 (fun H locs hP hD hS => ?_)
  have hP : va_P D vwCl (wl [gP cA aP (upd (upd pI 0 (0 : Int32)) 1 (0 : Int32)) pA]) H := hP
  have hD : va_D A (wl [gP cA aP (upd (upd pI 0 (0 : Int32)) 1 (0 : Int32)) pA]) := hD
  refine lv_aload_n hx hb dX3_empty_10 rfl (lv_at hl 0 rfl) ?_
  refine lv_iconst (v := (0 : Int32)) hx hb dX3_empty_11 (by decide) ?_
  refine va_put (D := D) (v := .int (0 : Int32)) (ty := .int) (C := RX3) (T := TX3) (N := 12) hx hb hT inlX3 tyX3 tyX3_ok nmX3 hown hK.1 hP hD hS 0 rfl rfl 9 (by decide) (hT _ fl_RX3_41) (fun _ h9 => h9) rfl (by decide +kernel) rfl rfl (Nat.le_of_ble_eq_true rfl) dX3_empty_12 (fun H locs hP hD hS => ?_)
  have hP : va_P D vwCl (wl [gP cA aP (upd (upd (upd pI 0 (0 : Int32)) 1 (0 : Int32)) 2 (0 : Int32)) pA]) H := hP
  have hD : va_D A (wl [gP cA aP (upd (upd (upd pI 0 (0 : Int32)) 1 (0 : Int32)) 2 (0 : Int32)) pA]) := hD
  refine lv_aload_n hx hb dX3_empty_15 rfl (lv_at hl 0 rfl) ?_
  refine lv_iconst (v := (0 : Int32)) hx hb dX3_empty_16 (by decide) ?_
  refine va_put (D := D) (v := .int (0 : Int32)) (ty := .int) (C := RX3) (T := TX3) (N := 12) hx hb hT inlX3 tyX3 tyX3_ok nmX3 hown hK.1 hP hD hS 0 rfl rfl 10 (by decide) (hT _ fl_RX3_44) (fun _ h9 => h9) rfl (by decide +kernel) rfl rfl (Nat.le_of_ble_eq_true rfl) dX3_empty_17 (fun H locs hP hD hS => ?_)
  have hP : va_P D vwCl (wl [gP cA aP (upd (upd (upd (upd pI 0 (0 : Int32)) 1 (0 : Int32)) 2 (0 : Int32)) 3 (0 : Int32)) pA]) H := hP
  have hD : va_D A (wl [gP cA aP (upd (upd (upd (upd pI 0 (0 : Int32)) 1 (0 : Int32)) 2 (0 : Int32)) 3 (0 : Int32)) pA]) := hD
  refine lv_aload_n hx hb dX3_empty_20 rfl (lv_at hl 0 rfl) ?_
  refine lv_iconst (v := (0 : Int32)) hx hb dX3_empty_21 (by decide) ?_
  refine va_put (D := D) (v := .int (0 : Int32)) (ty := .int) (C := RX3) (T := TX3) (N := 12) hx hb hT inlX3 tyX3 tyX3_ok nmX3 hown hK.1 hP hD hS 0 rfl rfl 11 (by decide) (hT _ fl_RX3_47) (fun _ h9 => h9) rfl (by decide +kernel) rfl rfl (Nat.le_of_ble_eq_true rfl) dX3_empty_22 (fun H locs hP hD hS => ?_)
  have hP : va_P D vwCl (wl [gP cA aP (upd (upd (upd (upd (upd pI 0 (0 : Int32)) 1 (0 : Int32)) 2 (0 : Int32)) 3 (0 : Int32)) 4 (0 : Int32)) pA]) H := hP
  have hD : va_D A (wl [gP cA aP (upd (upd (upd (upd (upd pI 0 (0 : Int32)) 1 (0 : Int32)) 2 (0 : Int32)) 3 (0 : Int32)) 4 (0 : Int32)) pA]) := hD
  exact W.vret hx hb hr (fun t ht hW => ⟨⟨((upd (upd (upd (upd (upd pI 0 (0 : Int32)) 1 (0 : Int32)) 2 (0 : Int32)) 3 (0 : Int32)) 4 (0 : Int32))), rfl, (og_inj h).symm, (by rw [ht]; exact hP), hD⟩, hS.F ht⟩) hS.2.2 dX3_empty_25
set_option maxRecDepth 100000 in
set_option maxHeartbeats 8000000 in
theorem k_X3_isTarget (l : Launch) (D : va_G) (cA : Nat → ClassId) (aP : Nat → Nat) (sz : Nat) (u1 : Int32) (pI : Nat → Int32) (pA : Nat → Nat → Int32) (R : Int32 × Unit) (h : f_X3_isTarget u1 pI = some R) : Met l yX3_isTarget (wsU yX3_isTarget cX3_isTarget 2 (some .boolean)) ({ frames := 0, cells := 0, slots := 0, locals := 0 }) (PcW D cA (wl [gP cA aP pI pA]) sz [.ref (aP 0), .int u1]) (QI D (fun _ : Unit => (wl [gP cA aP pI pA])) R (va_A (wl [gP cA aP pI pA]) sz)) 0 0 (va_A (wl [gP cA aP pI pA]) sz) := by
  refine Met.ofW (cc := cX3_isTarget) (maxL := 2) (ret := (some .boolean)) (by decide) rfl ?_
  intro p e s m args below meth c s₁ B hml hv
  obtain ⟨rfl, hsz, hP, hK, hD0⟩ := hv
  have hx := B.exec
  have hb := B.bytes
  have hr := B.returns
  have hts := atoms_spec (ws := (wsU yX3_isTarget cX3_isTarget 2 (some .boolean))) B.pre
  have hT : ∀ w ∈ wsL_law, w.before ([.ref (aP 0), .int u1] : List Value).toArray s = true := fun w h => hts w (List.mem_cons_of_mem _ h)
  have hown : s.vm.findClass RX3 = some m.cls := findClass_of_methodNamed B.named
  have hlocks := B.notSynchronized
  have hN := hK.2
  subst hsz
  have hD := hD0.self (sz := s.heap.size)
  generalize hAe : va_A (wl [gP cA aP pI pA]) s.heap.size = A at hD ⊢
  have hA : ∀ q : Nat, s.heap.size ≤ q → A q := fun q h => by rw [← hAe]; exact Or.inr h
  have hS : va_S A s.heap s.heap [] := va_S.rf
  have hl := lv_entry ([.ref (aP 0), .int u1]) (n := 2) (Nat.le_of_ble_eq_true rfl)
  rw [lg_entry_eq]
  generalize (lg_sl ([.ref (aP 0), .int u1]) ++ List.replicate (2 - (lg_sl ([.ref (aP 0), .int u1])).length) Slot.unset).toArray = ls at hl ⊢
  have hl : lv_has ls 2 [(0, .ref (aP 0)), (1, .int u1)] := hl
  unfold f_X3_isTarget at h
  refine lv_iload_n hx hb dX3_isTarget_0 rfl (lv_at hl 1 rfl) ?_
  refine lv_aload_n hx hb dX3_isTarget_1 rfl (lv_at hl 0 rfl) ?_
  refine va_get (D := D) (C := RX3) (T := TX3) (N := 12) hx hb hT inlX3 hown hK.1 hP 0 rfl rfl 9 (by decide) (hT _ fl_RX3_41) (fun _ h9 => h9) rfl dX3_isTarget_2 ?_
  refine lv_icmp_le (tgt := 18) hx hb dX3_isTarget_5 (by decide) (fun c1 => ?_) (fun c1 => ?_)
  · replace h := og_pos c1 h
    refine lv_iconst (v := (0 : Int32)) hx hb dX3_isTarget_18 (by decide) ?_
    exact W.zret (v := (0 : Int32)) hx hb hr (by decide +kernel) (fun t ht hW => ⟨⟨(0 : Int32), (), rfl, ⟨(congrArg Prod.fst (og_inj h)).symm, (congrArg Prod.snd (og_inj h)).symm⟩, (by rw [ht]; exact hP), hD⟩, hS.F ht⟩) hS.2.2 dX3_isTarget_19
  · replace h := og_neg c1 h
    refine lv_iload_n hx hb dX3_isTarget_8 rfl (lv_at hl 1 rfl) ?_
    refine lv_bipush (v := (60 : Int32)) hx hb dX3_isTarget_9 (by decide) ?_
    refine lv_icmp_gt (tgt := 18) hx hb dX3_isTarget_11 (by decide) (fun c2 => ?_) (fun c2 => ?_)
    · replace h := og_pos c2 h
      refine lv_iconst (v := (0 : Int32)) hx hb dX3_isTarget_18 (by decide) ?_
      exact W.zret (v := (0 : Int32)) hx hb hr (by decide +kernel) (fun t ht hW => ⟨⟨(0 : Int32), (), rfl, ⟨(congrArg Prod.fst (og_inj h)).symm, (congrArg Prod.snd (og_inj h)).symm⟩, (by rw [ht]; exact hP), hD⟩, hS.F ht⟩) hS.2.2 dX3_isTarget_19
    · replace h := og_neg c2 h
      refine lv_iconst (v := (1 : Int32)) hx hb dX3_isTarget_14 (by decide) ?_
      refine lv_goto (tgt := 19) hx hb dX3_isTarget_15 (by decide) ?_
      exact W.zret (v := (1 : Int32)) hx hb hr (by decide +kernel) (fun t ht hW => ⟨⟨(1 : Int32), (), rfl, ⟨(congrArg Prod.fst (og_inj h)).symm, (congrArg Prod.snd (og_inj h)).symm⟩, (by rw [ht]; exact hP), hD⟩, hS.F ht⟩) hS.2.2 dX3_isTarget_19
set_option maxRecDepth 100000 in
set_option maxHeartbeats 8000000 in
theorem k_X3_wouldBeTooMany (l : Launch) (D : va_G) (cA : Nat → ClassId) (aP : Nat → Nat) (sz : Nat) (u1 : Int32) (pI : Nat → Int32) (pA : Nat → Nat → Int32) (R : Int32 × Unit) (h : f_X3_wouldBeTooMany u1 pI = some R) : Met l yX3_wouldBeTooMany (wsU yX3_wouldBeTooMany cX3_wouldBeTooMany 2 (some .boolean)) ({ frames := 1, cells := 0, slots := 0, locals := 20 }) (PcW D cA (wl [gP cA aP pI pA]) sz [.ref (aP 0), .int u1]) (QI D (fun _ : Unit => (wl [gP cA aP pI pA])) R (va_A (wl [gP cA aP pI pA]) sz)) 0 0 (va_A (wl [gP cA aP pI pA]) sz) := by
  refine Met.ofW (cc := cX3_wouldBeTooMany) (maxL := 2) (ret := (some .boolean)) (by decide) rfl ?_
  intro p e s m args below meth c s₁ B hml hv
  obtain ⟨rfl, hsz, hP, hK, hD0⟩ := hv
  have hx := B.exec
  have hb := B.bytes
  have hr := B.returns
  have hts := atoms_spec (ws := (wsU yX3_wouldBeTooMany cX3_wouldBeTooMany 2 (some .boolean))) B.pre
  have hT : ∀ w ∈ wsL_law, w.before ([.ref (aP 0), .int u1] : List Value).toArray s = true := fun w h => hts w (List.mem_cons_of_mem _ h)
  have hown : s.vm.findClass RX3 = some m.cls := findClass_of_methodNamed B.named
  have hlocks := B.notSynchronized
  have hN := hK.2
  subst hsz
  have hD := hD0.self (sz := s.heap.size)
  generalize hAe : va_A (wl [gP cA aP pI pA]) s.heap.size = A at hD ⊢
  have hA : ∀ q : Nat, s.heap.size ≤ q → A q := fun q h => by rw [← hAe]; exact Or.inr h
  have hS : va_S A s.heap s.heap [] := va_S.rf
  have hl := lv_entry ([.ref (aP 0), .int u1]) (n := 2) (Nat.le_of_ble_eq_true rfl)
  rw [lg_entry_eq]
  generalize (lg_sl ([.ref (aP 0), .int u1]) ++ List.replicate (2 - (lg_sl ([.ref (aP 0), .int u1])).length) Slot.unset).toArray = ls at hl ⊢
  have hl : lv_has ls 2 [(0, .ref (aP 0)), (1, .int u1)] := hl
  have b14 : ∀ (x1 : Int32) (H : Heap) (locs : List Loc) (ls : Array Slot), f_X3_wouldBeTooMany_b14 x1 pI = some R → va_P D vwCl (wl [gP cA aP pI pA]) H → va_D A (wl [gP cA aP pI pA]) → va_S A s.heap H locs → lv_has ls 2 [(0, .ref (aP 0)), (1, .int x1)] → W p l e (headSpec (wsU yX3_wouldBeTooMany cX3_wouldBeTooMany 2 (some .boolean)) ({ frames := 1, cells := 0, slots := 0, locals := 20 })).room s m ([.ref (aP 0), .int u1] : List Value).toArray below meth c H locs 0 0 (MQ below (QI D (fun _ : Unit => (wl [gP cA aP pI pA])) R A) ([.ref (aP 0), .int u1] : List Value).toArray s 0 0 A) (F0 m 14 ls []) := by
    intro x1 H locs ls h hP hD hS hl
    unfold f_X3_wouldBeTooMany_b14 at h
    refine lv_iload_n hx hb dX3_wouldBeTooMany_14 rfl (lv_at hl 1 rfl) ?_
    obtain ⟨⟨r1, _u1⟩, e1, h⟩ := og_bind h
    try dsimp only at h
    refine gc_i (ws := (wl [gP cA aP pI pA])) (wc := (wl ([] : List va_W))) (wr := (wl [gP cA aP pI pA])) (ws' := (wl [gP cA aP pI pA])) (va_runSN (host := RX4) (As := [.int x1]) (rest := []) ⟨hx, hb, hml, hown, hT⟩ (k_X4_isDivision l D cA  H.size x1  _ e1) ⟨va_cnB 1 hT (gw cd_yX4_isDivision_cX4_isDivision) rfl rfl rfl (hN _ nl_RX3_58) (hT _ ini_RX4) (by decide +kernel) ⟨Nat.le_of_ble_eq_true rfl, Nat.le_of_ble_eq_true rfl⟩, hT _ sc_yX4_isDivision, trivial⟩ (pre_S (wr := (wl [gP cA aP pI pA])) (pm (f := fun i => ([gP cA aP pI pA] : List va_W).getD i []) [0] [] [0] (by decide)) hK hP hD) rfl rfl hl.1 rfl (lv_room (Nat.le_of_ble_eq_true rfl)) dX3_wouldBeTooMany_15 ⟨Nat.le_refl _, Nat.le_refl _⟩) (pm (f := fun i => ([gP cA aP pI pA] : List va_W).getD i []) [0] [] [0] (by decide)) hP hD hS hA (pm (f := fun i => ([gP cA aP pI pA] : List va_W).getD i []) [0] [] [0] (by decide)) (fun H locs hP hD hS => ?_)
    refine lv_if_eq (tgt := 34) hx hb dX3_wouldBeTooMany_18 (by decide) (fun c2 => ?_) (fun c2 => ?_)
    · replace h := og_pos c2 h
      refine lv_iconst (v := (0 : Int32)) hx hb dX3_wouldBeTooMany_34 (by decide) ?_
      exact W.zret (v := (0 : Int32)) hx hb hr (by decide +kernel) (fun t ht hW => ⟨⟨(0 : Int32), (), rfl, ⟨(congrArg Prod.fst (og_inj h)).symm, (congrArg Prod.snd (og_inj h)).symm⟩, (by rw [ht]; exact hP), hD⟩, hS.F ht⟩) hS.2.2 dX3_wouldBeTooMany_35
    · replace h := og_neg c2 h
      refine lv_aload_n hx hb dX3_wouldBeTooMany_21 rfl (lv_at hl 0 rfl) ?_
      refine va_get (D := D) (C := RX3) (T := TX3) (N := 12) hx hb hT inlX3 hown hK.1 hP 0 rfl rfl 11 (by decide) (hT _ fl_RX3_47) (fun _ h9 => h9) rfl dX3_wouldBeTooMany_22 ?_
      refine lv_bipush (v := (6 : Int32)) hx hb dX3_wouldBeTooMany_25 (by decide) ?_
      refine lv_icmp_lt (tgt := 34) hx hb dX3_wouldBeTooMany_27 (by decide) (fun c3 => ?_) (fun c3 => ?_)
      · replace h := og_pos c3 h
        refine lv_iconst (v := (0 : Int32)) hx hb dX3_wouldBeTooMany_34 (by decide) ?_
        exact W.zret (v := (0 : Int32)) hx hb hr (by decide +kernel) (fun t ht hW => ⟨⟨(0 : Int32), (), rfl, ⟨(congrArg Prod.fst (og_inj h)).symm, (congrArg Prod.snd (og_inj h)).symm⟩, (by rw [ht]; exact hP), hD⟩, hS.F ht⟩) hS.2.2 dX3_wouldBeTooMany_35
      · replace h := og_neg c3 h
        refine lv_iconst (v := (1 : Int32)) hx hb dX3_wouldBeTooMany_30 (by decide) ?_
        refine lv_goto (tgt := 35) hx hb dX3_wouldBeTooMany_31 (by decide) ?_
        exact W.zret (v := (1 : Int32)) hx hb hr (by decide +kernel) (fun t ht hW => ⟨⟨(1 : Int32), (), rfl, ⟨(congrArg Prod.fst (og_inj h)).symm, (congrArg Prod.snd (og_inj h)).symm⟩, (by rw [ht]; exact hP), hD⟩, hS.F ht⟩) hS.2.2 dX3_wouldBeTooMany_35
  unfold f_X3_wouldBeTooMany at h
  refine lv_iload_n hx hb dX3_wouldBeTooMany_0 rfl (lv_at hl 1 rfl) ?_
  refine lv_iconst (v := (5 : Int32)) hx hb dX3_wouldBeTooMany_1 (by decide) ?_
  refine lv_icmp_ne (tgt := 14) hx hb dX3_wouldBeTooMany_2 (by decide) (fun c4 => ?_) (fun c4 => ?_)
  · replace h := og_neg c4 h
    exact b14  _ _ _ _ h hP hD hS (lv_sub hl [0, 1] rfl)
  · replace h := og_pos c4 h
    refine lv_aload_n hx hb dX3_wouldBeTooMany_5 rfl (lv_at hl 0 rfl) ?_
    refine va_get (D := D) (C := RX3) (T := TX3) (N := 12) hx hb hT inlX3 hown hK.1 hP 0 rfl rfl 10 (by decide) (hT _ fl_RX3_44) (fun _ h9 => h9) rfl dX3_wouldBeTooMany_6 ?_
    refine lv_bipush (v := (6 : Int32)) hx hb dX3_wouldBeTooMany_9 (by decide) ?_
    refine lv_icmp_ge (tgt := 30) hx hb dX3_wouldBeTooMany_11 (by decide) (fun c5 => ?_) (fun c5 => ?_)
    · replace h := og_pos c5 h
      refine lv_iconst (v := (1 : Int32)) hx hb dX3_wouldBeTooMany_30 (by decide) ?_
      refine lv_goto (tgt := 35) hx hb dX3_wouldBeTooMany_31 (by decide) ?_
      exact W.zret (v := (1 : Int32)) hx hb hr (by decide +kernel) (fun t ht hW => ⟨⟨(1 : Int32), (), rfl, ⟨(congrArg Prod.fst (og_inj h)).symm, (congrArg Prod.snd (og_inj h)).symm⟩, (by rw [ht]; exact hP), hD⟩, hS.F ht⟩) hS.2.2 dX3_wouldBeTooMany_35
    · replace h := og_neg c5 h
      exact b14  _ _ _ _ h hP hD hS (lv_sub hl [0, 1] rfl)
set_option maxRecDepth 100000 in
set_option maxHeartbeats 8000000 in
theorem k_X3_fits (l : Launch) (D : va_G) (cA : Nat → ClassId) (aP : Nat → Nat) (sz : Nat) (u1 : Int32) (u2 : Int32) (u3 : Int32) (u4 : Int32) (pI : Nat → Int32) (pA : Nat → Nat → Int32) (R : Int32 × Unit) (h : f_X3_fits u1 u2 u3 u4 pI = some R) : Met l yX3_fits (wsU yX3_fits cX3_fits 5 (some .boolean)) ({ frames := 1, cells := 0, slots := 0, locals := 21 }) (PcW D cA (wl [gP cA aP pI pA]) sz [.ref (aP 0), .int u1, .int u2, .int u3, .int u4]) (QI D (fun _ : Unit => (wl [gP cA aP pI pA])) R (va_A (wl [gP cA aP pI pA]) sz)) 0 0 (va_A (wl [gP cA aP pI pA]) sz) := by
  refine Met.ofW (cc := cX3_fits) (maxL := 5) (ret := (some .boolean)) (by decide) rfl ?_
  intro p e s m args below meth c s₁ B hml hv
  obtain ⟨rfl, hsz, hP, hK, hD0⟩ := hv
  have hx := B.exec
  have hb := B.bytes
  have hr := B.returns
  have hts := atoms_spec (ws := (wsU yX3_fits cX3_fits 5 (some .boolean))) B.pre
  have hT : ∀ w ∈ wsL_law, w.before ([.ref (aP 0), .int u1, .int u2, .int u3, .int u4] : List Value).toArray s = true := fun w h => hts w (List.mem_cons_of_mem _ h)
  have hown : s.vm.findClass RX3 = some m.cls := findClass_of_methodNamed B.named
  have hlocks := B.notSynchronized
  have hN := hK.2
  subst hsz
  have hD := hD0.self (sz := s.heap.size)
  generalize hAe : va_A (wl [gP cA aP pI pA]) s.heap.size = A at hD ⊢
  have hA : ∀ q : Nat, s.heap.size ≤ q → A q := fun q h => by rw [← hAe]; exact Or.inr h
  have hS : va_S A s.heap s.heap [] := va_S.rf
  have hl := lv_entry ([.ref (aP 0), .int u1, .int u2, .int u3, .int u4]) (n := 5) (Nat.le_of_ble_eq_true rfl)
  rw [lg_entry_eq]
  generalize (lg_sl ([.ref (aP 0), .int u1, .int u2, .int u3, .int u4]) ++ List.replicate (5 - (lg_sl ([.ref (aP 0), .int u1, .int u2, .int u3, .int u4])).length) Slot.unset).toArray = ls at hl ⊢
  have hl : lv_has ls 5 [(0, .ref (aP 0)), (1, .int u1), (2, .int u2), (3, .int u3), (4, .int u4)] := hl
  have b238 : ∀ (x1 : Int32) (x2 : Int32) (x3 : Int32) (x4 : Int32) (H : Heap) (locs : List Loc) (ls : Array Slot), f_X3_fits_b238 x1 x2 x3 x4 pI = some R → va_P D vwCl (wl [gP cA aP pI pA]) H → va_D A (wl [gP cA aP pI pA]) → va_S A s.heap H locs → lv_has ls 5 [(1, .int x1), (2, .int x2), (3, .int x3), (4, .int x4)] → W p l e (headSpec (wsU yX3_fits cX3_fits 5 (some .boolean)) ({ frames := 1, cells := 0, slots := 0, locals := 21 })).room s m ([.ref (aP 0), .int u1, .int u2, .int u3, .int u4] : List Value).toArray below meth c H locs 0 0 (MQ below (QI D (fun _ : Unit => (wl [gP cA aP pI pA])) R A) ([.ref (aP 0), .int u1, .int u2, .int u3, .int u4] : List Value).toArray s 0 0 A) (F0 m 238 ls []) := by
    intro x1 x2 x3 x4 H locs ls h hP hD hS hl
    unfold f_X3_fits_b238 at h
    refine lv_iload_n hx hb dX3_fits_238 rfl (lv_at hl 0 rfl) ?_
    obtain ⟨⟨r1, _u1⟩, e1, h⟩ := og_bind h
    try dsimp only at h
    refine gc_i (ws := (wl [gP cA aP pI pA])) (wc := (wl ([] : List va_W))) (wr := (wl [gP cA aP pI pA])) (ws' := (wl [gP cA aP pI pA])) (va_runS (As := [.int x1]) (rest := []) ⟨hx, hb, hml, hown, hT⟩ (k_X3_takesThreeRegisters l D cA  H.size x1  _ e1) (cwS 1 hT gs_RX3_67 rfl rfl rfl (by decide +kernel) ⟨Nat.le_of_ble_eq_true rfl, Nat.le_of_ble_eq_true rfl⟩) (pre_S (wr := (wl [gP cA aP pI pA])) (pm (f := fun i => ([gP cA aP pI pA] : List va_W).getD i []) [0] [] [0] (by decide)) hK hP hD) rfl rfl hl.1 rfl (lv_room (Nat.le_of_ble_eq_true rfl)) dX3_fits_239 ⟨Nat.le_refl _, Nat.le_refl _⟩) (pm (f := fun i => ([gP cA aP pI pA] : List va_W).getD i []) [0] [] [0] (by decide)) hP hD hS hA (pm (f := fun i => ([gP cA aP pI pA] : List va_W).getD i []) [0] [] [0] (by decide)) (fun H locs hP hD hS => ?_)
    refine lv_if_eq (tgt := 271) hx hb dX3_fits_242 (by decide) (fun c2 => ?_) (fun c2 => ?_)
    · replace h := og_pos c2 h
      refine lv_iconst (v := (0 : Int32)) hx hb dX3_fits_271 (by decide) ?_
      exact W.zret (v := (0 : Int32)) hx hb hr (by decide +kernel) (fun t ht hW => ⟨⟨(0 : Int32), (), rfl, ⟨(congrArg Prod.fst (og_inj h)).symm, (congrArg Prod.snd (og_inj h)).symm⟩, (by rw [ht]; exact hP), hD⟩, hS.F ht⟩) hS.2.2 dX3_fits_272
    · replace h := og_neg c2 h
      refine lv_iload_n hx hb dX3_fits_245 rfl (lv_at hl 1 rfl) ?_
      obtain ⟨⟨r3, _u3⟩, e3, h⟩ := og_bind h
      try dsimp only at h
      refine gc_i (ws := (wl [gP cA aP pI pA])) (wc := (wl ([] : List va_W))) (wr := (wl [gP cA aP pI pA])) (ws' := (wl [gP cA aP pI pA])) (va_runSN (host := RX4) (As := [.int x2]) (rest := []) ⟨hx, hb, hml, hown, hT⟩ (k_X4_isRegister l D cA  H.size x2  _ e3) ⟨va_cnB 1 hT (gw cd_yX4_isRegister_cX4_isRegister) rfl rfl rfl (hN _ nl_RX3_61) (hT _ ini_RX4) (by decide +kernel) ⟨Nat.le_of_ble_eq_true rfl, Nat.le_of_ble_eq_true rfl⟩, hT _ sc_yX4_isRegister, trivial⟩ (pre_S (wr := (wl [gP cA aP pI pA])) (pm (f := fun i => ([gP cA aP pI pA] : List va_W).getD i []) [0] [] [0] (by decide)) hK hP hD) rfl rfl hl.1 rfl (lv_room (Nat.le_of_ble_eq_true rfl)) dX3_fits_246 ⟨Nat.le_refl _, Nat.le_refl _⟩) (pm (f := fun i => ([gP cA aP pI pA] : List va_W).getD i []) [0] [] [0] (by decide)) hP hD hS hA (pm (f := fun i => ([gP cA aP pI pA] : List va_W).getD i []) [0] [] [0] (by decide)) (fun H locs hP hD hS => ?_)
      refine lv_if_eq (tgt := 271) hx hb dX3_fits_249 (by decide) (fun c4 => ?_) (fun c4 => ?_)
      · replace h := og_pos c4 h
        refine lv_iconst (v := (0 : Int32)) hx hb dX3_fits_271 (by decide) ?_
        exact W.zret (v := (0 : Int32)) hx hb hr (by decide +kernel) (fun t ht hW => ⟨⟨(0 : Int32), (), rfl, ⟨(congrArg Prod.fst (og_inj h)).symm, (congrArg Prod.snd (og_inj h)).symm⟩, (by rw [ht]; exact hP), hD⟩, hS.F ht⟩) hS.2.2 dX3_fits_272
      · replace h := og_neg c4 h
        refine lv_iload_n hx hb dX3_fits_252 rfl (lv_at hl 2 rfl) ?_
        obtain ⟨⟨r5, _u5⟩, e5, h⟩ := og_bind h
        try dsimp only at h
        refine gc_i (ws := (wl [gP cA aP pI pA])) (wc := (wl ([] : List va_W))) (wr := (wl [gP cA aP pI pA])) (ws' := (wl [gP cA aP pI pA])) (va_runSN (host := RX4) (As := [.int x3]) (rest := []) ⟨hx, hb, hml, hown, hT⟩ (k_X4_isRegister l D cA  H.size x3  _ e5) ⟨va_cnB 1 hT (gw cd_yX4_isRegister_cX4_isRegister) rfl rfl rfl (hN _ nl_RX3_61) (hT _ ini_RX4) (by decide +kernel) ⟨Nat.le_of_ble_eq_true rfl, Nat.le_of_ble_eq_true rfl⟩, hT _ sc_yX4_isRegister, trivial⟩ (pre_S (wr := (wl [gP cA aP pI pA])) (pm (f := fun i => ([gP cA aP pI pA] : List va_W).getD i []) [0] [] [0] (by decide)) hK hP hD) rfl rfl hl.1 rfl (lv_room (Nat.le_of_ble_eq_true rfl)) dX3_fits_253 ⟨Nat.le_refl _, Nat.le_refl _⟩) (pm (f := fun i => ([gP cA aP pI pA] : List va_W).getD i []) [0] [] [0] (by decide)) hP hD hS hA (pm (f := fun i => ([gP cA aP pI pA] : List va_W).getD i []) [0] [] [0] (by decide)) (fun H locs hP hD hS => ?_)
        refine lv_if_eq (tgt := 271) hx hb dX3_fits_256 (by decide) (fun c6 => ?_) (fun c6 => ?_)
        · replace h := og_pos c6 h
          refine lv_iconst (v := (0 : Int32)) hx hb dX3_fits_271 (by decide) ?_
          exact W.zret (v := (0 : Int32)) hx hb hr (by decide +kernel) (fun t ht hW => ⟨⟨(0 : Int32), (), rfl, ⟨(congrArg Prod.fst (og_inj h)).symm, (congrArg Prod.snd (og_inj h)).symm⟩, (by rw [ht]; exact hP), hD⟩, hS.F ht⟩) hS.2.2 dX3_fits_272
        · replace h := og_neg c6 h
          refine lv_iload hx hb dX3_fits_259 (lv_at hl 3 rfl) ?_
          obtain ⟨⟨r7, _u7⟩, e7, h⟩ := og_bind h
          try dsimp only at h
          refine gc_i (ws := (wl [gP cA aP pI pA])) (wc := (wl ([] : List va_W))) (wr := (wl [gP cA aP pI pA])) (ws' := (wl [gP cA aP pI pA])) (va_runSN (host := RX4) (As := [.int x4]) (rest := []) ⟨hx, hb, hml, hown, hT⟩ (k_X4_isRegister l D cA  H.size x4  _ e7) ⟨va_cnB 1 hT (gw cd_yX4_isRegister_cX4_isRegister) rfl rfl rfl (hN _ nl_RX3_61) (hT _ ini_RX4) (by decide +kernel) ⟨Nat.le_of_ble_eq_true rfl, Nat.le_of_ble_eq_true rfl⟩, hT _ sc_yX4_isRegister, trivial⟩ (pre_S (wr := (wl [gP cA aP pI pA])) (pm (f := fun i => ([gP cA aP pI pA] : List va_W).getD i []) [0] [] [0] (by decide)) hK hP hD) rfl rfl hl.1 rfl (lv_room (Nat.le_of_ble_eq_true rfl)) dX3_fits_261 ⟨Nat.le_refl _, Nat.le_refl _⟩) (pm (f := fun i => ([gP cA aP pI pA] : List va_W).getD i []) [0] [] [0] (by decide)) hP hD hS hA (pm (f := fun i => ([gP cA aP pI pA] : List va_W).getD i []) [0] [] [0] (by decide)) (fun H locs hP hD hS => ?_)
          refine lv_if_eq (tgt := 271) hx hb dX3_fits_264 (by decide) (fun c8 => ?_) (fun c8 => ?_)
          · replace h := og_pos c8 h
            refine lv_iconst (v := (0 : Int32)) hx hb dX3_fits_271 (by decide) ?_
            exact W.zret (v := (0 : Int32)) hx hb hr (by decide +kernel) (fun t ht hW => ⟨⟨(0 : Int32), (), rfl, ⟨(congrArg Prod.fst (og_inj h)).symm, (congrArg Prod.snd (og_inj h)).symm⟩, (by rw [ht]; exact hP), hD⟩, hS.F ht⟩) hS.2.2 dX3_fits_272
          · replace h := og_neg c8 h
            refine lv_iconst (v := (1 : Int32)) hx hb dX3_fits_267 (by decide) ?_
            refine lv_goto (tgt := 272) hx hb dX3_fits_268 (by decide) ?_
            exact W.zret (v := (1 : Int32)) hx hb hr (by decide +kernel) (fun t ht hW => ⟨⟨(1 : Int32), (), rfl, ⟨(congrArg Prod.fst (og_inj h)).symm, (congrArg Prod.snd (og_inj h)).symm⟩, (by rw [ht]; exact hP), hD⟩, hS.F ht⟩) hS.2.2 dX3_fits_272
  have b174 : ∀ (x2 : Int32) (x3 : Int32) (H : Heap) (locs : List Loc) (ls : Array Slot), f_X3_fits_b174 x2 x3 pI = some R → va_P D vwCl (wl [gP cA aP pI pA]) H → va_D A (wl [gP cA aP pI pA]) → va_S A s.heap H locs → lv_has ls 5 [(2, .int x2), (3, .int x3)] → W p l e (headSpec (wsU yX3_fits cX3_fits 5 (some .boolean)) ({ frames := 1, cells := 0, slots := 0, locals := 21 })).room s m ([.ref (aP 0), .int u1, .int u2, .int u3, .int u4] : List Value).toArray below meth c H locs 0 0 (MQ below (QI D (fun _ : Unit => (wl [gP cA aP pI pA])) R A) ([.ref (aP 0), .int u1, .int u2, .int u3, .int u4] : List Value).toArray s 0 0 A) (F0 m 174 ls []) := by
    intro x2 x3 H locs ls h hP hD hS hl
    unfold f_X3_fits_b174 at h
    refine lv_iload_n hx hb dX3_fits_174 rfl (lv_at hl 0 rfl) ?_
    obtain ⟨⟨r9, _u9⟩, e9, h⟩ := og_bind h
    try dsimp only at h
    refine gc_i (ws := (wl [gP cA aP pI pA])) (wc := (wl ([] : List va_W))) (wr := (wl [gP cA aP pI pA])) (ws' := (wl [gP cA aP pI pA])) (va_runSN (host := RX4) (As := [.int x2]) (rest := []) ⟨hx, hb, hml, hown, hT⟩ (k_X4_isRegister l D cA  H.size x2  _ e9) ⟨va_cnB 1 hT (gw cd_yX4_isRegister_cX4_isRegister) rfl rfl rfl (hN _ nl_RX3_61) (hT _ ini_RX4) (by decide +kernel) ⟨Nat.le_of_ble_eq_true rfl, Nat.le_of_ble_eq_true rfl⟩, hT _ sc_yX4_isRegister, trivial⟩ (pre_S (wr := (wl [gP cA aP pI pA])) (pm (f := fun i => ([gP cA aP pI pA] : List va_W).getD i []) [0] [] [0] (by decide)) hK hP hD) rfl rfl hl.1 rfl (lv_room (Nat.le_of_ble_eq_true rfl)) dX3_fits_175 ⟨Nat.le_refl _, Nat.le_refl _⟩) (pm (f := fun i => ([gP cA aP pI pA] : List va_W).getD i []) [0] [] [0] (by decide)) hP hD hS hA (pm (f := fun i => ([gP cA aP pI pA] : List va_W).getD i []) [0] [] [0] (by decide)) (fun H locs hP hD hS => ?_)
    refine lv_if_eq (tgt := 192) hx hb dX3_fits_178 (by decide) (fun c10 => ?_) (fun c10 => ?_)
    · replace h := og_pos c10 h
      refine lv_iconst (v := (0 : Int32)) hx hb dX3_fits_192 (by decide) ?_
      exact W.zret (v := (0 : Int32)) hx hb hr (by decide +kernel) (fun t ht hW => ⟨⟨(0 : Int32), (), rfl, ⟨(congrArg Prod.fst (og_inj h)).symm, (congrArg Prod.snd (og_inj h)).symm⟩, (by rw [ht]; exact hP), hD⟩, hS.F ht⟩) hS.2.2 dX3_fits_193
    · replace h := og_neg c10 h
      refine lv_iload_n hx hb dX3_fits_181 rfl (lv_at hl 1 rfl) ?_
      obtain ⟨⟨r11, _u11⟩, e11, h⟩ := og_bind h
      try dsimp only at h
      refine gc_i (ws := (wl [gP cA aP pI pA])) (wc := (wl ([] : List va_W))) (wr := (wl [gP cA aP pI pA])) (ws' := (wl [gP cA aP pI pA])) (va_runSN (host := RX4) (As := [.int x3]) (rest := []) ⟨hx, hb, hml, hown, hT⟩ (k_X4_isRegister l D cA  H.size x3  _ e11) ⟨va_cnB 1 hT (gw cd_yX4_isRegister_cX4_isRegister) rfl rfl rfl (hN _ nl_RX3_61) (hT _ ini_RX4) (by decide +kernel) ⟨Nat.le_of_ble_eq_true rfl, Nat.le_of_ble_eq_true rfl⟩, hT _ sc_yX4_isRegister, trivial⟩ (pre_S (wr := (wl [gP cA aP pI pA])) (pm (f := fun i => ([gP cA aP pI pA] : List va_W).getD i []) [0] [] [0] (by decide)) hK hP hD) rfl rfl hl.1 rfl (lv_room (Nat.le_of_ble_eq_true rfl)) dX3_fits_182 ⟨Nat.le_refl _, Nat.le_refl _⟩) (pm (f := fun i => ([gP cA aP pI pA] : List va_W).getD i []) [0] [] [0] (by decide)) hP hD hS hA (pm (f := fun i => ([gP cA aP pI pA] : List va_W).getD i []) [0] [] [0] (by decide)) (fun H locs hP hD hS => ?_)
      refine lv_if_eq (tgt := 192) hx hb dX3_fits_185 (by decide) (fun c12 => ?_) (fun c12 => ?_)
      · replace h := og_pos c12 h
        refine lv_iconst (v := (0 : Int32)) hx hb dX3_fits_192 (by decide) ?_
        exact W.zret (v := (0 : Int32)) hx hb hr (by decide +kernel) (fun t ht hW => ⟨⟨(0 : Int32), (), rfl, ⟨(congrArg Prod.fst (og_inj h)).symm, (congrArg Prod.snd (og_inj h)).symm⟩, (by rw [ht]; exact hP), hD⟩, hS.F ht⟩) hS.2.2 dX3_fits_193
      · replace h := og_neg c12 h
        refine lv_iconst (v := (1 : Int32)) hx hb dX3_fits_188 (by decide) ?_
        refine lv_goto (tgt := 193) hx hb dX3_fits_189 (by decide) ?_
        exact W.zret (v := (1 : Int32)) hx hb hr (by decide +kernel) (fun t ht hW => ⟨⟨(1 : Int32), (), rfl, ⟨(congrArg Prod.fst (og_inj h)).symm, (congrArg Prod.snd (og_inj h)).symm⟩, (by rw [ht]; exact hP), hD⟩, hS.F ht⟩) hS.2.2 dX3_fits_193
  have b144 : ∀ (x2 : Int32) (H : Heap) (locs : List Loc) (ls : Array Slot), f_X3_fits_b144 x2 pI = some R → va_P D vwCl (wl [gP cA aP pI pA]) H → va_D A (wl [gP cA aP pI pA]) → va_S A s.heap H locs → lv_has ls 5 [(2, .int x2)] → W p l e (headSpec (wsU yX3_fits cX3_fits 5 (some .boolean)) ({ frames := 1, cells := 0, slots := 0, locals := 21 })).room s m ([.ref (aP 0), .int u1, .int u2, .int u3, .int u4] : List Value).toArray below meth c H locs 0 0 (MQ below (QI D (fun _ : Unit => (wl [gP cA aP pI pA])) R A) ([.ref (aP 0), .int u1, .int u2, .int u3, .int u4] : List Value).toArray s 0 0 A) (F0 m 144 ls []) := by
    intro x2 H locs ls h hP hD hS hl
    unfold f_X3_fits_b144 at h
    refine lv_iload_n hx hb dX3_fits_144 rfl (lv_at hl 0 rfl) ?_
    obtain ⟨⟨r13, _u13⟩, e13, h⟩ := og_bind h
    try dsimp only at h
    refine gc_i (ws := (wl [gP cA aP pI pA])) (wc := (wl ([] : List va_W))) (wr := (wl [gP cA aP pI pA])) (ws' := (wl [gP cA aP pI pA])) (va_runSN (host := RX4) (As := [.int x2]) (rest := []) ⟨hx, hb, hml, hown, hT⟩ (k_X4_isRegister l D cA  H.size x2  _ e13) ⟨va_cnB 1 hT (gw cd_yX4_isRegister_cX4_isRegister) rfl rfl rfl (hN _ nl_RX3_61) (hT _ ini_RX4) (by decide +kernel) ⟨Nat.le_of_ble_eq_true rfl, Nat.le_of_ble_eq_true rfl⟩, hT _ sc_yX4_isRegister, trivial⟩ (pre_S (wr := (wl [gP cA aP pI pA])) (pm (f := fun i => ([gP cA aP pI pA] : List va_W).getD i []) [0] [] [0] (by decide)) hK hP hD) rfl rfl hl.1 rfl (lv_room (Nat.le_of_ble_eq_true rfl)) dX3_fits_145 ⟨Nat.le_refl _, Nat.le_refl _⟩) (pm (f := fun i => ([gP cA aP pI pA] : List va_W).getD i []) [0] [] [0] (by decide)) hP hD hS hA (pm (f := fun i => ([gP cA aP pI pA] : List va_W).getD i []) [0] [] [0] (by decide)) (fun H locs hP hD hS => ?_)
    obtain ⟨gz, h⟩ := og_guard h
    exact W.zret (v := r13) hx hb hr (bo_nar gz) (fun t ht hW => ⟨⟨r13, (), rfl, ⟨(congrArg Prod.fst (og_inj h)).symm, (congrArg Prod.snd (og_inj h)).symm⟩, (by rw [ht]; exact hP), hD⟩, hS.F ht⟩) hS.2.2 dX3_fits_148
  unfold f_X3_fits at h
  refine lv_iload_n hx hb dX3_fits_0 rfl (lv_at hl 1 rfl) ?_
  by_cases c25 : u1 = (0 : Int32)
  · replace h := og_pos c25 h
    refine gs_in (off := 143) (tgt := 144) 0 c25 hx hb dX3_fits_1 (by decide +kernel) (by decide) ?_
    exact b144  _ _ _ _ h hP hD hS (lv_sub hl [2] rfl)
  replace h := og_neg c25 h
  by_cases c26 : u1 = (1 : Int32)
  · replace h := og_pos c26 h
    refine gs_in (off := 148) (tgt := 149) 1 c26 hx hb dX3_fits_1 (by decide +kernel) (by decide) ?_
    refine lv_iload_n hx hb dX3_fits_149 rfl (lv_at hl 2 rfl) ?_
    obtain ⟨⟨r14, _u14⟩, e14, h⟩ := og_bind h
    try dsimp only at h
    refine gc_i (ws := (wl [gP cA aP pI pA])) (wc := (wl ([] : List va_W))) (wr := (wl [gP cA aP pI pA])) (ws' := (wl [gP cA aP pI pA])) (va_runSN (host := RX4) (As := [.int u2]) (rest := []) ⟨hx, hb, hml, hown, hT⟩ (k_X4_isRegister l D cA  s.heap.size u2  _ e14) ⟨va_cnB 1 hT (gw cd_yX4_isRegister_cX4_isRegister) rfl rfl rfl (hN _ nl_RX3_61) (hT _ ini_RX4) (by decide +kernel) ⟨Nat.le_of_ble_eq_true rfl, Nat.le_of_ble_eq_true rfl⟩, hT _ sc_yX4_isRegister, trivial⟩ (pre_S (wr := (wl [gP cA aP pI pA])) (pm (f := fun i => ([gP cA aP pI pA] : List va_W).getD i []) [0] [] [0] (by decide)) hK hP hD) rfl rfl hl.1 rfl (lv_room (Nat.le_of_ble_eq_true rfl)) dX3_fits_150 ⟨Nat.le_refl _, Nat.le_refl _⟩) (pm (f := fun i => ([gP cA aP pI pA] : List va_W).getD i []) [0] [] [0] (by decide)) hP hD hS hA (pm (f := fun i => ([gP cA aP pI pA] : List va_W).getD i []) [0] [] [0] (by decide)) (fun H locs hP hD hS => ?_)
    refine lv_if_eq (tgt := 172) hx hb dX3_fits_153 (by decide) (fun c15 => ?_) (fun c15 => ?_)
    · replace h := og_pos c15 h
      refine lv_iconst (v := (0 : Int32)) hx hb dX3_fits_172 (by decide) ?_
      exact W.zret (v := (0 : Int32)) hx hb hr (by decide +kernel) (fun t ht hW => ⟨⟨(0 : Int32), (), rfl, ⟨(congrArg Prod.fst (og_inj h)).symm, (congrArg Prod.snd (og_inj h)).symm⟩, (by rw [ht]; exact hP), hD⟩, hS.F ht⟩) hS.2.2 dX3_fits_173
    · replace h := og_neg c15 h
      refine lv_iload_n hx hb dX3_fits_156 rfl (lv_at hl 3 rfl) ?_
      refine lv_if_lt (tgt := 172) hx hb dX3_fits_157 (by decide) (fun c16 => ?_) (fun c16 => ?_)
      · replace h := og_pos c16 h
        refine lv_iconst (v := (0 : Int32)) hx hb dX3_fits_172 (by decide) ?_
        exact W.zret (v := (0 : Int32)) hx hb hr (by decide +kernel) (fun t ht hW => ⟨⟨(0 : Int32), (), rfl, ⟨(congrArg Prod.fst (og_inj h)).symm, (congrArg Prod.snd (og_inj h)).symm⟩, (by rw [ht]; exact hP), hD⟩, hS.F ht⟩) hS.2.2 dX3_fits_173
      · replace h := og_neg c16 h
        refine lv_iload_n hx hb dX3_fits_160 rfl (lv_at hl 3 rfl) ?_
        refine lv_aload_n hx hb dX3_fits_161 rfl (lv_at hl 0 rfl) ?_
        refine va_get (D := D) (C := RX3) (T := TX3) (N := 12) hx hb hT inlX3 hown hK.1 hP 0 rfl rfl 3 (by decide) (hT _ fl_RX3_34) (fun _ h9 => h9) rfl dX3_fits_162 ?_
        refine lv_icmp_ge (tgt := 172) hx hb dX3_fits_165 (by decide) (fun c17 => ?_) (fun c17 => ?_)
        · replace h := og_pos c17 h
          refine lv_iconst (v := (0 : Int32)) hx hb dX3_fits_172 (by decide) ?_
          exact W.zret (v := (0 : Int32)) hx hb hr (by decide +kernel) (fun t ht hW => ⟨⟨(0 : Int32), (), rfl, ⟨(congrArg Prod.fst (og_inj h)).symm, (congrArg Prod.snd (og_inj h)).symm⟩, (by rw [ht]; exact hP), hD⟩, hS.F ht⟩) hS.2.2 dX3_fits_173
        · replace h := og_neg c17 h
          refine lv_iconst (v := (1 : Int32)) hx hb dX3_fits_168 (by decide) ?_
          refine lv_goto (tgt := 173) hx hb dX3_fits_169 (by decide) ?_
          exact W.zret (v := (1 : Int32)) hx hb hr (by decide +kernel) (fun t ht hW => ⟨⟨(1 : Int32), (), rfl, ⟨(congrArg Prod.fst (og_inj h)).symm, (congrArg Prod.snd (og_inj h)).symm⟩, (by rw [ht]; exact hP), hD⟩, hS.F ht⟩) hS.2.2 dX3_fits_173
  replace h := og_neg c26 h
  by_cases c27 : u1 = (2 : Int32)
  · replace h := og_pos c27 h
    refine gs_in (off := 173) (tgt := 174) 2 c27 hx hb dX3_fits_1 (by decide +kernel) (by decide) ?_
    exact b174  _ _ _ _ _ h hP hD hS (lv_sub hl [2, 3] rfl)
  replace h := og_neg c27 h
  by_cases c28 : u1 = (22 : Int32)
  · replace h := og_pos c28 h
    refine gs_in (off := 173) (tgt := 174) 22 c28 hx hb dX3_fits_1 (by decide +kernel) (by decide) ?_
    exact b174  _ _ _ _ _ h hP hD hS (lv_sub hl [2, 3] rfl)
  replace h := og_neg c28 h
  by_cases c29 : u1 = (23 : Int32)
  · replace h := og_pos c29 h
    refine gs_in (off := 173) (tgt := 174) 23 c29 hx hb dX3_fits_1 (by decide +kernel) (by decide) ?_
    exact b174  _ _ _ _ _ h hP hD hS (lv_sub hl [2, 3] rfl)
  replace h := og_neg c29 h
  by_cases c30 : u1 = (25 : Int32)
  · replace h := og_pos c30 h
    refine gs_in (off := 173) (tgt := 174) 25 c30 hx hb dX3_fits_1 (by decide +kernel) (by decide) ?_
    exact b174  _ _ _ _ _ h hP hD hS (lv_sub hl [2, 3] rfl)
  replace h := og_neg c30 h
  by_cases c31 : u1 = (26 : Int32)
  · replace h := og_pos c31 h
    refine gs_in (off := 173) (tgt := 174) 26 c31 hx hb dX3_fits_1 (by decide +kernel) (by decide) ?_
    exact b174  _ _ _ _ _ h hP hD hS (lv_sub hl [2, 3] rfl)
  replace h := og_neg c31 h
  by_cases c32 : u1 = (27 : Int32)
  · replace h := og_pos c32 h
    refine gs_in (off := 193) (tgt := 194) 27 c32 hx hb dX3_fits_1 (by decide +kernel) (by decide) ?_
    refine lv_iload_n hx hb dX3_fits_194 rfl (lv_at hl 2 rfl) ?_
    obtain ⟨⟨r18, _u18⟩, e18, h⟩ := og_bind h
    try dsimp only at h
    refine gc_i (ws := (wl [gP cA aP pI pA])) (wc := (wl ([] : List va_W))) (wr := (wl [gP cA aP pI pA])) (ws' := (wl [gP cA aP pI pA])) (va_runSN (host := RX4) (As := [.int u2]) (rest := []) ⟨hx, hb, hml, hown, hT⟩ (k_X4_isRegister l D cA  s.heap.size u2  _ e18) ⟨va_cnB 1 hT (gw cd_yX4_isRegister_cX4_isRegister) rfl rfl rfl (hN _ nl_RX3_61) (hT _ ini_RX4) (by decide +kernel) ⟨Nat.le_of_ble_eq_true rfl, Nat.le_of_ble_eq_true rfl⟩, hT _ sc_yX4_isRegister, trivial⟩ (pre_S (wr := (wl [gP cA aP pI pA])) (pm (f := fun i => ([gP cA aP pI pA] : List va_W).getD i []) [0] [] [0] (by decide)) hK hP hD) rfl rfl hl.1 rfl (lv_room (Nat.le_of_ble_eq_true rfl)) dX3_fits_195 ⟨Nat.le_refl _, Nat.le_refl _⟩) (pm (f := fun i => ([gP cA aP pI pA] : List va_W).getD i []) [0] [] [0] (by decide)) hP hD hS hA (pm (f := fun i => ([gP cA aP pI pA] : List va_W).getD i []) [0] [] [0] (by decide)) (fun H locs hP hD hS => ?_)
    refine lv_if_eq (tgt := 213) hx hb dX3_fits_198 (by decide) (fun c19 => ?_) (fun c19 => ?_)
    · replace h := og_pos c19 h
      refine lv_iconst (v := (0 : Int32)) hx hb dX3_fits_213 (by decide) ?_
      exact W.zret (v := (0 : Int32)) hx hb hr (by decide +kernel) (fun t ht hW => ⟨⟨(0 : Int32), (), rfl, ⟨(congrArg Prod.fst (og_inj h)).symm, (congrArg Prod.snd (og_inj h)).symm⟩, (by rw [ht]; exact hP), hD⟩, hS.F ht⟩) hS.2.2 dX3_fits_214
    · replace h := og_neg c19 h
      refine lv_aload_n hx hb dX3_fits_201 rfl (lv_at hl 0 rfl) ?_
      refine lv_iload_n hx hb dX3_fits_202 rfl (lv_at hl 3 rfl) ?_
      obtain ⟨⟨r20, _u20⟩, e20, h⟩ := og_bind h
      try dsimp only at h
      refine gc_i (ws := (wl [gP cA aP pI pA])) (wc := (wl [gP cA aP pI pA])) (wr := (wl ([] : List va_W))) (ws' := (wl [gP cA aP pI pA])) (va_runV (As := [.int u3]) (rest := []) ⟨hx, hb, hml, hown, hT⟩ (k_X3_isTarget l D cA aP H.size u3 pI pA _ e20) (cwV 1 hT gv_RX3_64 rfl rfl rfl (by decide +kernel) ⟨Nat.le_of_ble_eq_true rfl, Nat.le_of_ble_eq_true rfl⟩) (pre_V (ci := 3) (q0 := 0) (wr := (wl ([] : List va_W))) (pm (f := fun i => ([gP cA aP pI pA] : List va_W).getD i []) [0] [0] [] (by decide)) hK hP hD rfl rfl) rfl rfl hl.1 rfl (lv_room (Nat.le_of_ble_eq_true rfl)) dX3_fits_203 ⟨Nat.le_refl _, Nat.le_refl _⟩) (pm (f := fun i => ([gP cA aP pI pA] : List va_W).getD i []) [0] [0] [] (by decide)) hP hD hS hA (pm (f := fun i => ([gP cA aP pI pA] : List va_W).getD i []) [0] [0] [] (by decide)) (fun H locs hP hD hS => ?_)
      refine lv_if_eq (tgt := 213) hx hb dX3_fits_206 (by decide) (fun c21 => ?_) (fun c21 => ?_)
      · replace h := og_pos c21 h
        refine lv_iconst (v := (0 : Int32)) hx hb dX3_fits_213 (by decide) ?_
        exact W.zret (v := (0 : Int32)) hx hb hr (by decide +kernel) (fun t ht hW => ⟨⟨(0 : Int32), (), rfl, ⟨(congrArg Prod.fst (og_inj h)).symm, (congrArg Prod.snd (og_inj h)).symm⟩, (by rw [ht]; exact hP), hD⟩, hS.F ht⟩) hS.2.2 dX3_fits_214
      · replace h := og_neg c21 h
        refine lv_iconst (v := (1 : Int32)) hx hb dX3_fits_209 (by decide) ?_
        refine lv_goto (tgt := 214) hx hb dX3_fits_210 (by decide) ?_
        exact W.zret (v := (1 : Int32)) hx hb hr (by decide +kernel) (fun t ht hW => ⟨⟨(1 : Int32), (), rfl, ⟨(congrArg Prod.fst (og_inj h)).symm, (congrArg Prod.snd (og_inj h)).symm⟩, (by rw [ht]; exact hP), hD⟩, hS.F ht⟩) hS.2.2 dX3_fits_214
  replace h := og_neg c32 h
  by_cases c33 : u1 = (28 : Int32)
  · replace h := og_pos c33 h
    refine gs_in (off := 214) (tgt := 215) 28 c33 hx hb dX3_fits_1 (by decide +kernel) (by decide) ?_
    refine lv_aload_n hx hb dX3_fits_215 rfl (lv_at hl 0 rfl) ?_
    refine lv_iload_n hx hb dX3_fits_216 rfl (lv_at hl 2 rfl) ?_
    obtain ⟨⟨r22, _u22⟩, e22, h⟩ := og_bind h
    try dsimp only at h
    refine gc_i (ws := (wl [gP cA aP pI pA])) (wc := (wl [gP cA aP pI pA])) (wr := (wl ([] : List va_W))) (ws' := (wl [gP cA aP pI pA])) (va_runV (As := [.int u2]) (rest := []) ⟨hx, hb, hml, hown, hT⟩ (k_X3_isTarget l D cA aP s.heap.size u2 pI pA _ e22) (cwV 1 hT gv_RX3_64 rfl rfl rfl (by decide +kernel) ⟨Nat.le_of_ble_eq_true rfl, Nat.le_of_ble_eq_true rfl⟩) (pre_V (ci := 3) (q0 := 0) (wr := (wl ([] : List va_W))) (pm (f := fun i => ([gP cA aP pI pA] : List va_W).getD i []) [0] [0] [] (by decide)) hK hP hD rfl rfl) rfl rfl hl.1 rfl (lv_room (Nat.le_of_ble_eq_true rfl)) dX3_fits_217 ⟨Nat.le_refl _, Nat.le_refl _⟩) (pm (f := fun i => ([gP cA aP pI pA] : List va_W).getD i []) [0] [0] [] (by decide)) hP hD hS hA (pm (f := fun i => ([gP cA aP pI pA] : List va_W).getD i []) [0] [0] [] (by decide)) (fun H locs hP hD hS => ?_)
    obtain ⟨gz, h⟩ := og_guard h
    exact W.zret (v := r22) hx hb hr (bo_nar gz) (fun t ht hW => ⟨⟨r22, (), rfl, ⟨(congrArg Prod.fst (og_inj h)).symm, (congrArg Prod.snd (og_inj h)).symm⟩, (by rw [ht]; exact hP), hD⟩, hS.F ht⟩) hS.2.2 dX3_fits_220
  replace h := og_neg c33 h
  by_cases c34 : u1 = (29 : Int32)
  · replace h := og_pos c34 h
    refine gs_in (off := 143) (tgt := 144) 29 c34 hx hb dX3_fits_1 (by decide +kernel) (by decide) ?_
    exact b144  _ _ _ _ h hP hD hS (lv_sub hl [2] rfl)
  replace h := og_neg c34 h
  by_cases c35 : u1 = (30 : Int32)
  · replace h := og_pos c35 h
    refine gs_in (off := 220) (tgt := 221) 30 c35 hx hb dX3_fits_1 (by decide +kernel) (by decide) ?_
    refine lv_iload_n hx hb dX3_fits_221 rfl (lv_at hl 2 rfl) ?_
    refine lv_if_lt (tgt := 236) hx hb dX3_fits_222 (by decide) (fun c23 => ?_) (fun c23 => ?_)
    · replace h := og_pos c23 h
      refine lv_iconst (v := (0 : Int32)) hx hb dX3_fits_236 (by decide) ?_
      exact W.zret (v := (0 : Int32)) hx hb hr (by decide +kernel) (fun t ht hW => ⟨⟨(0 : Int32), (), rfl, ⟨(congrArg Prod.fst (og_inj h)).symm, (congrArg Prod.snd (og_inj h)).symm⟩, (by rw [ht]; exact hP), hD⟩, hS.F ht⟩) hS.2.2 dX3_fits_237
    · replace h := og_neg c23 h
      refine lv_iload_n hx hb dX3_fits_225 rfl (lv_at hl 2 rfl) ?_
      refine lv_sipush (v := (255 : Int32)) hx hb dX3_fits_226 (by decide) ?_
      refine lv_icmp_gt (tgt := 236) hx hb dX3_fits_229 (by decide) (fun c24 => ?_) (fun c24 => ?_)
      · replace h := og_pos c24 h
        refine lv_iconst (v := (0 : Int32)) hx hb dX3_fits_236 (by decide) ?_
        exact W.zret (v := (0 : Int32)) hx hb hr (by decide +kernel) (fun t ht hW => ⟨⟨(0 : Int32), (), rfl, ⟨(congrArg Prod.fst (og_inj h)).symm, (congrArg Prod.snd (og_inj h)).symm⟩, (by rw [ht]; exact hP), hD⟩, hS.F ht⟩) hS.2.2 dX3_fits_237
      · replace h := og_neg c24 h
        refine lv_iconst (v := (1 : Int32)) hx hb dX3_fits_232 (by decide) ?_
        refine lv_goto (tgt := 237) hx hb dX3_fits_233 (by decide) ?_
        exact W.zret (v := (1 : Int32)) hx hb hr (by decide +kernel) (fun t ht hW => ⟨⟨(1 : Int32), (), rfl, ⟨(congrArg Prod.fst (og_inj h)).symm, (congrArg Prod.snd (og_inj h)).symm⟩, (by rw [ht]; exact hP), hD⟩, hS.F ht⟩) hS.2.2 dX3_fits_237
  replace h := og_neg c35 h
  by_cases c36 : u1 = (31 : Int32)
  · replace h := og_pos c36 h
    refine gs_in (off := 143) (tgt := 144) 31 c36 hx hb dX3_fits_1 (by decide +kernel) (by decide) ?_
    exact b144  _ _ _ _ h hP hD hS (lv_sub hl [2] rfl)
  replace h := og_neg c36 h
  have hdf : W p l e (headSpec (wsU yX3_fits cX3_fits 5 (some .boolean)) ({ frames := 1, cells := 0, slots := 0, locals := 21 })).room s m ([.ref (aP 0), .int u1, .int u2, .int u3, .int u4] : List Value).toArray below meth c s.heap [] 0 0 (MQ below (QI D (fun _ : Unit => (wl [gP cA aP pI pA])) R A) ([.ref (aP 0), .int u1, .int u2, .int u3, .int u4] : List Value).toArray s 0 0 A) (F0 m 238 ls []) := by
    exact b238  _ _ _ _ _ _ _ h hP hD hS (lv_sub hl [1, 2, 3, 4] rfl)
  by_cases c37 : u1 = (3 : Int32)
  · exact gs_in (off := 237) (tgt := 238) 3 c37 hx hb dX3_fits_1 (by decide +kernel) (by decide) hdf
  by_cases c38 : u1 = (4 : Int32)
  · exact gs_in (off := 237) (tgt := 238) 4 c38 hx hb dX3_fits_1 (by decide +kernel) (by decide) hdf
  by_cases c39 : u1 = (5 : Int32)
  · exact gs_in (off := 237) (tgt := 238) 5 c39 hx hb dX3_fits_1 (by decide +kernel) (by decide) hdf
  by_cases c40 : u1 = (6 : Int32)
  · exact gs_in (off := 237) (tgt := 238) 6 c40 hx hb dX3_fits_1 (by decide +kernel) (by decide) hdf
  by_cases c41 : u1 = (7 : Int32)
  · exact gs_in (off := 237) (tgt := 238) 7 c41 hx hb dX3_fits_1 (by decide +kernel) (by decide) hdf
  by_cases c42 : u1 = (8 : Int32)
  · exact gs_in (off := 237) (tgt := 238) 8 c42 hx hb dX3_fits_1 (by decide +kernel) (by decide) hdf
  by_cases c43 : u1 = (9 : Int32)
  · exact gs_in (off := 237) (tgt := 238) 9 c43 hx hb dX3_fits_1 (by decide +kernel) (by decide) hdf
  by_cases c44 : u1 = (10 : Int32)
  · exact gs_in (off := 237) (tgt := 238) 10 c44 hx hb dX3_fits_1 (by decide +kernel) (by decide) hdf
  by_cases c45 : u1 = (11 : Int32)
  · exact gs_in (off := 237) (tgt := 238) 11 c45 hx hb dX3_fits_1 (by decide +kernel) (by decide) hdf
  by_cases c46 : u1 = (12 : Int32)
  · exact gs_in (off := 237) (tgt := 238) 12 c46 hx hb dX3_fits_1 (by decide +kernel) (by decide) hdf
  by_cases c47 : u1 = (13 : Int32)
  · exact gs_in (off := 237) (tgt := 238) 13 c47 hx hb dX3_fits_1 (by decide +kernel) (by decide) hdf
  by_cases c48 : u1 = (14 : Int32)
  · exact gs_in (off := 237) (tgt := 238) 14 c48 hx hb dX3_fits_1 (by decide +kernel) (by decide) hdf
  by_cases c49 : u1 = (15 : Int32)
  · exact gs_in (off := 237) (tgt := 238) 15 c49 hx hb dX3_fits_1 (by decide +kernel) (by decide) hdf
  by_cases c50 : u1 = (16 : Int32)
  · exact gs_in (off := 237) (tgt := 238) 16 c50 hx hb dX3_fits_1 (by decide +kernel) (by decide) hdf
  by_cases c51 : u1 = (17 : Int32)
  · exact gs_in (off := 237) (tgt := 238) 17 c51 hx hb dX3_fits_1 (by decide +kernel) (by decide) hdf
  by_cases c52 : u1 = (18 : Int32)
  · exact gs_in (off := 237) (tgt := 238) 18 c52 hx hb dX3_fits_1 (by decide +kernel) (by decide) hdf
  by_cases c53 : u1 = (19 : Int32)
  · exact gs_in (off := 237) (tgt := 238) 19 c53 hx hb dX3_fits_1 (by decide +kernel) (by decide) hdf
  by_cases c54 : u1 = (20 : Int32)
  · exact gs_in (off := 237) (tgt := 238) 20 c54 hx hb dX3_fits_1 (by decide +kernel) (by decide) hdf
  by_cases c55 : u1 = (21 : Int32)
  · exact gs_in (off := 237) (tgt := 238) 21 c55 hx hb dX3_fits_1 (by decide +kernel) (by decide) hdf
  by_cases c56 : u1 = (24 : Int32)
  · exact gs_in (off := 237) (tgt := 238) 24 c56 hx hb dX3_fits_1 (by decide +kernel) (by decide) hdf
  refine lv_tableOut (tgt := 238) hx hb dX3_fits_1 (gs_out 32 (by decide) (fun k9 hk9 => ?_)) (by decide) ?_
  · rcases (show k9 = 0 ∨ k9 = 1 ∨ k9 = 2 ∨ k9 = 3 ∨ k9 = 4 ∨ k9 = 5 ∨ k9 = 6 ∨ k9 = 7 ∨ k9 = 8 ∨ k9 = 9 ∨ k9 = 10 ∨ k9 = 11 ∨ k9 = 12 ∨ k9 = 13 ∨ k9 = 14 ∨ k9 = 15 ∨ k9 = 16 ∨ k9 = 17 ∨ k9 = 18 ∨ k9 = 19 ∨ k9 = 20 ∨ k9 = 21 ∨ k9 = 22 ∨ k9 = 23 ∨ k9 = 24 ∨ k9 = 25 ∨ k9 = 26 ∨ k9 = 27 ∨ k9 = 28 ∨ k9 = 29 ∨ k9 = 30 ∨ k9 = 31 by omega) with rfl | rfl | rfl | rfl | rfl | rfl | rfl | rfl | rfl | rfl | rfl | rfl | rfl | rfl | rfl | rfl | rfl | rfl | rfl | rfl | rfl | rfl | rfl | rfl | rfl | rfl | rfl | rfl | rfl | rfl | rfl | rfl
    · exact gs_ne c25 (by decide +kernel)
    · exact gs_ne c26 (by decide +kernel)
    · exact gs_ne c27 (by decide +kernel)
    · exact gs_ne c37 (by decide +kernel)
    · exact gs_ne c38 (by decide +kernel)
    · exact gs_ne c39 (by decide +kernel)
    · exact gs_ne c40 (by decide +kernel)
    · exact gs_ne c41 (by decide +kernel)
    · exact gs_ne c42 (by decide +kernel)
    · exact gs_ne c43 (by decide +kernel)
    · exact gs_ne c44 (by decide +kernel)
    · exact gs_ne c45 (by decide +kernel)
    · exact gs_ne c46 (by decide +kernel)
    · exact gs_ne c47 (by decide +kernel)
    · exact gs_ne c48 (by decide +kernel)
    · exact gs_ne c49 (by decide +kernel)
    · exact gs_ne c50 (by decide +kernel)
    · exact gs_ne c51 (by decide +kernel)
    · exact gs_ne c52 (by decide +kernel)
    · exact gs_ne c53 (by decide +kernel)
    · exact gs_ne c54 (by decide +kernel)
    · exact gs_ne c55 (by decide +kernel)
    · exact gs_ne c28 (by decide +kernel)
    · exact gs_ne c29 (by decide +kernel)
    · exact gs_ne c56 (by decide +kernel)
    · exact gs_ne c30 (by decide +kernel)
    · exact gs_ne c31 (by decide +kernel)
    · exact gs_ne c32 (by decide +kernel)
    · exact gs_ne c33 (by decide +kernel)
    · exact gs_ne c34 (by decide +kernel)
    · exact gs_ne c35 (by decide +kernel)
    · exact gs_ne c36 (by decide +kernel)
  exact hdf
set_option maxRecDepth 100000 in
set_option maxHeartbeats 8000000 in
theorem k_X3_addInput (l : Launch) (D : va_G) (cA : Nat → ClassId) (aP : Nat → Nat) (sz : Nat) (u1 : Int32) (u2 : Int32) (pI : Nat → Int32) (pA : Nat → Nat → Int32) (R : Int32 × (Nat → Int32) × (Nat → Nat → Int32)) (h : f_X3_addInput u1 u2 pI pA = some R) : Met l yX3_addInput (wsU yX3_addInput cX3_addInput 3 (some .int)) ({ frames := 0, cells := 0, slots := 0, locals := 0 }) (PcW D cA (wl [gP cA aP pI pA]) sz [.ref (aP 0), .int u1, .int u2]) (QI D (fun u : (Nat → Int32) × (Nat → Nat → Int32) => (wl [gP cA aP u.1 u.2])) R (va_A (wl [gP cA aP pI pA]) sz)) 0 0 (va_A (wl [gP cA aP pI pA]) sz) := by
  refine Met.ofW (cc := cX3_addInput) (maxL := 3) (ret := (some .int)) (by decide) rfl ?_
  intro p e s m args below meth c s₁ B hml hv
  obtain ⟨rfl, hsz, hP, hK, hD0⟩ := hv
  have hx := B.exec
  have hb := B.bytes
  have hr := B.returns
  have hts := atoms_spec (ws := (wsU yX3_addInput cX3_addInput 3 (some .int))) B.pre
  have hT : ∀ w ∈ wsL_law, w.before ([.ref (aP 0), .int u1, .int u2] : List Value).toArray s = true := fun w h => hts w (List.mem_cons_of_mem _ h)
  have hown : s.vm.findClass RX3 = some m.cls := findClass_of_methodNamed B.named
  have hlocks := B.notSynchronized
  have hN := hK.2
  subst hsz
  have hD := hD0.self (sz := s.heap.size)
  generalize hAe : va_A (wl [gP cA aP pI pA]) s.heap.size = A at hD ⊢
  have hA : ∀ q : Nat, s.heap.size ≤ q → A q := fun q h => by rw [← hAe]; exact Or.inr h
  have hS : va_S A s.heap s.heap [] := va_S.rf
  have hl := lv_entry ([.ref (aP 0), .int u1, .int u2]) (n := 3) (Nat.le_of_ble_eq_true rfl)
  rw [lg_entry_eq]
  generalize (lg_sl ([.ref (aP 0), .int u1, .int u2]) ++ List.replicate (3 - (lg_sl ([.ref (aP 0), .int u1, .int u2])).length) Slot.unset).toArray = ls at hl ⊢
  have hl : lv_has ls 3 [(0, .ref (aP 0)), (1, .int u1), (2, .int u2)] := hl
  unfold f_X3_addInput at h
  refine lv_aload_n hx hb dX3_addInput_0 rfl (lv_at hl 0 rfl) ?_
  refine va_get (D := D) (C := RX3) (T := TX3) (N := 12) hx hb hT inlX3 hown hK.1 hP 0 rfl rfl 3 (by decide) (hT _ fl_RX3_34) (fun _ h9 => h9) rfl dX3_addInput_1 ?_
  refine lv_iconst (v := (4 : Int32)) hx hb dX3_addInput_4 (by decide) ?_
  refine lv_icmp_ge (tgt := 24) hx hb dX3_addInput_5 (by decide) (fun c1 => ?_) (fun c1 => ?_)
  · replace h := og_pos c1 h
    refine lv_iconst (v := (-1 : Int32)) hx hb dX3_addInput_24 (by decide) ?_
    exact W.iret (v := (-1 : Int32)) hx hb hr (fun t ht hW => ⟨⟨(-1 : Int32), (pI, pA), rfl, ⟨(congrArg Prod.fst (og_inj h)).symm, (congrArg Prod.snd (og_inj h)).symm⟩, (by rw [ht]; exact hP), hD⟩, hS.F ht⟩) hS.2.2 dX3_addInput_25
  · replace h := og_neg c1 h
    refine lv_iload_n hx hb dX3_addInput_8 rfl (lv_at hl 1 rfl) ?_
    refine lv_iconst (v := (1 : Int32)) hx hb dX3_addInput_9 (by decide) ?_
    refine lv_icmp_lt (tgt := 24) hx hb dX3_addInput_10 (by decide) (fun c2 => ?_) (fun c2 => ?_)
    · replace h := og_pos c2 h
      refine lv_iconst (v := (-1 : Int32)) hx hb dX3_addInput_24 (by decide) ?_
      exact W.iret (v := (-1 : Int32)) hx hb hr (fun t ht hW => ⟨⟨(-1 : Int32), (pI, pA), rfl, ⟨(congrArg Prod.fst (og_inj h)).symm, (congrArg Prod.snd (og_inj h)).symm⟩, (by rw [ht]; exact hP), hD⟩, hS.F ht⟩) hS.2.2 dX3_addInput_25
    · replace h := og_neg c2 h
      refine lv_iload_n hx hb dX3_addInput_13 rfl (lv_at hl 1 rfl) ?_
      refine lv_bipush (v := (12 : Int32)) hx hb dX3_addInput_14 (by decide) ?_
      refine lv_aload_n hx hb dX3_addInput_16 rfl (lv_at hl 0 rfl) ?_
      refine va_get (D := D) (C := RX3) (T := TX3) (N := 12) hx hb hT inlX3 hown hK.1 hP 0 rfl rfl 4 (by decide) (hT _ fl_RX3_38) (fun _ h9 => h9) rfl dX3_addInput_17 ?_
      refine lv_isub hx hb dX3_addInput_20 ?_
      refine lv_icmp_le (tgt := 26) hx hb dX3_addInput_21 (by decide) (fun c3 => ?_) (fun c3 => ?_)
      · replace h := og_pos c3 h
        refine lv_aload_n hx hb dX3_addInput_26 rfl (lv_at hl 0 rfl) ?_
        refine lv_dup hx hb dX3_addInput_27 rfl ?_
        refine va_get (D := D) (C := RX3) (T := TX3) (N := 12) hx hb hT inlX3 hown hK.1 hP 0 rfl rfl 4 (by decide) (hT _ fl_RX3_38) (fun _ h9 => h9) rfl dX3_addInput_28 ?_
        refine lv_iload_n hx hb dX3_addInput_31 rfl (lv_at hl 1 rfl) ?_
        refine lv_iadd hx hb dX3_addInput_32 ?_
        refine va_put (D := D) (v := .int ((pI 1) + u1)) (ty := .int) (C := RX3) (T := TX3) (N := 12) hx hb hT inlX3 tyX3 tyX3_ok nmX3 hown hK.1 hP hD hS 0 rfl rfl 4 (by decide) (hT _ fl_RX3_38) (fun _ h9 => h9) rfl (by decide +kernel) rfl rfl (Nat.le_of_ble_eq_true rfl) dX3_addInput_33 (fun H locs hP hD hS => ?_)
        have hP : va_P D vwCl (wl [gP cA aP (upd pI 1 ((pI 1) + u1)) pA]) H := hP
        have hD : va_D A (wl [gP cA aP (upd pI 1 ((pI 1) + u1)) pA]) := hD
        refine lv_aload_n hx hb dX3_addInput_36 rfl (lv_at hl 0 rfl) ?_
        refine va_get (D := D) (C := RX3) (T := TX3) (N := 12) hx hb hT inlX3 hown hK.1 hP 0 rfl rfl 0 (by decide) (hT _ fl_RX3_9) (fun _ h9 => h9) rfl dX3_addInput_37 ?_
        refine lv_aload_n hx hb dX3_addInput_40 rfl (lv_at hl 0 rfl) ?_
        refine va_get (D := D) (C := RX3) (T := TX3) (N := 12) hx hb hT inlX3 hown hK.1 hP 0 rfl rfl 3 (by decide) (hT _ fl_RX3_34) (fun _ h9 => h9) rfl dX3_addInput_41 ?_
        refine lv_iload_n hx hb dX3_addInput_44 rfl (lv_at hl 1 rfl) ?_
        obtain ⟨g4, h⟩ := og_guard h
        refine va_iast hx hb hK.1 hP hD hS 1 0 rfl rfl (inb_vp g4) dX3_addInput_45 (fun H locs hP hD hS => ?_)
        have hP : va_P D vwCl (wl [gP cA aP (upd pI 1 ((pI 1) + u1)) (up2 pA 0 ((upd pI 1 ((pI 1) + u1)) 0).toNatClampNeg u1)]) H := hP
        have hD : va_D A (wl [gP cA aP (upd pI 1 ((pI 1) + u1)) (up2 pA 0 ((upd pI 1 ((pI 1) + u1)) 0).toNatClampNeg u1)]) := hD
        refine lv_aload_n hx hb dX3_addInput_46 rfl (lv_at hl 0 rfl) ?_
        refine va_get (D := D) (C := RX3) (T := TX3) (N := 12) hx hb hT inlX3 hown hK.1 hP 0 rfl rfl 1 (by decide) (hT _ fl_RX3_15) (fun _ h9 => h9) rfl dX3_addInput_47 ?_
        refine lv_aload_n hx hb dX3_addInput_50 rfl (lv_at hl 0 rfl) ?_
        refine va_get (D := D) (C := RX3) (T := TX3) (N := 12) hx hb hT inlX3 hown hK.1 hP 0 rfl rfl 3 (by decide) (hT _ fl_RX3_34) (fun _ h9 => h9) rfl dX3_addInput_51 ?_
        refine lv_aload_n hx hb dX3_addInput_54 rfl (lv_at hl 0 rfl) ?_
        refine va_get (D := D) (C := RX3) (T := TX3) (N := 12) hx hb hT inlX3 hown hK.1 hP 0 rfl rfl 4 (by decide) (hT _ fl_RX3_38) (fun _ h9 => h9) rfl dX3_addInput_55 ?_
        obtain ⟨pA_6, e7, h⟩ := og_bind h
        rw [← og_inj e7] at hP hD
        obtain ⟨g5, h⟩ := og_guard h
        refine va_iast hx hb hK.1 hP hD hS 2 0 rfl rfl (inb_vp g5) dX3_addInput_58 (fun H locs hP hD hS => ?_)
        have hP : va_P D vwCl (wl [gP cA aP (upd pI 1 ((pI 1) + u1)) (up2 pA_6 1 ((upd pI 1 ((pI 1) + u1)) 0).toNatClampNeg ((upd pI 1 ((pI 1) + u1)) 1))]) H := hP
        have hD : va_D A (wl [gP cA aP (upd pI 1 ((pI 1) + u1)) (up2 pA_6 1 ((upd pI 1 ((pI 1) + u1)) 0).toNatClampNeg ((upd pI 1 ((pI 1) + u1)) 1))]) := hD
        refine lv_aload_n hx hb dX3_addInput_59 rfl (lv_at hl 0 rfl) ?_
        refine va_get (D := D) (C := RX3) (T := TX3) (N := 12) hx hb hT inlX3 hown hK.1 hP 0 rfl rfl 2 (by decide) (hT _ fl_RX3_18) (fun _ h9 => h9) rfl dX3_addInput_60 ?_
        refine lv_aload_n hx hb dX3_addInput_63 rfl (lv_at hl 0 rfl) ?_
        refine va_get (D := D) (C := RX3) (T := TX3) (N := 12) hx hb hT inlX3 hown hK.1 hP 0 rfl rfl 3 (by decide) (hT _ fl_RX3_34) (fun _ h9 => h9) rfl dX3_addInput_64 ?_
        refine lv_iload_n hx hb dX3_addInput_67 rfl (lv_at hl 2 rfl) ?_
        obtain ⟨pA_9, e10, h⟩ := og_bind h
        rw [← og_inj e10] at hP hD
        obtain ⟨g8, h⟩ := og_guard h
        refine va_zast hx hb hK.1 hP hD hS 3 1 rfl rfl (inb_vp g8) dX3_addInput_68 (fun H locs hP hD hS => ?_)
        have hP : va_P D vwCl (wl [gP cA aP (upd pI 1 ((pI 1) + u1)) (up2 pA_9 2 ((upd pI 1 ((pI 1) + u1)) 0).toNatClampNeg (vp_nar .boolean u2))]) H := hP
        have hD : va_D A (wl [gP cA aP (upd pI 1 ((pI 1) + u1)) (up2 pA_9 2 ((upd pI 1 ((pI 1) + u1)) 0).toNatClampNeg (vp_nar .boolean u2))]) := hD
        refine lv_aload_n hx hb dX3_addInput_69 rfl (lv_at hl 0 rfl) ?_
        refine lv_dup hx hb dX3_addInput_70 rfl ?_
        refine va_get (D := D) (C := RX3) (T := TX3) (N := 12) hx hb hT inlX3 hown hK.1 hP 0 rfl rfl 3 (by decide) (hT _ fl_RX3_34) (fun _ h9 => h9) rfl dX3_addInput_71 ?_
        refine lv_iconst (v := (1 : Int32)) hx hb dX3_addInput_74 (by decide) ?_
        refine lv_iadd hx hb dX3_addInput_75 ?_
        refine va_put (D := D) (v := .int (((upd pI 1 ((pI 1) + u1)) 0) + (1 : Int32))) (ty := .int) (C := RX3) (T := TX3) (N := 12) hx hb hT inlX3 tyX3 tyX3_ok nmX3 hown hK.1 hP hD hS 0 rfl rfl 3 (by decide) (hT _ fl_RX3_34) (fun _ h9 => h9) rfl (by decide +kernel) rfl rfl (Nat.le_of_ble_eq_true rfl) dX3_addInput_76 (fun H locs hP hD hS => ?_)
        have hP : va_P D vwCl (wl [gP cA aP (upd (upd pI 1 ((pI 1) + u1)) 0 (((upd pI 1 ((pI 1) + u1)) 0) + (1 : Int32))) (up2 pA_9 2 ((upd pI 1 ((pI 1) + u1)) 0).toNatClampNeg (vp_nar .boolean u2))]) H := hP
        have hD : va_D A (wl [gP cA aP (upd (upd pI 1 ((pI 1) + u1)) 0 (((upd pI 1 ((pI 1) + u1)) 0) + (1 : Int32))) (up2 pA_9 2 ((upd pI 1 ((pI 1) + u1)) 0).toNatClampNeg (vp_nar .boolean u2))]) := hD
        refine lv_aload_n hx hb dX3_addInput_79 rfl (lv_at hl 0 rfl) ?_
        refine va_get (D := D) (C := RX3) (T := TX3) (N := 12) hx hb hT inlX3 hown hK.1 hP 0 rfl rfl 3 (by decide) (hT _ fl_RX3_34) (fun _ h9 => h9) rfl dX3_addInput_80 ?_
        refine lv_iconst (v := (1 : Int32)) hx hb dX3_addInput_83 (by decide) ?_
        refine lv_isub hx hb dX3_addInput_84 ?_
        exact W.iret (v := (((upd (upd pI 1 ((pI 1) + u1)) 0 (((upd pI 1 ((pI 1) + u1)) 0) + (1 : Int32))) 0) - (1 : Int32))) hx hb hr (fun t ht hW => ⟨⟨(((upd (upd pI 1 ((pI 1) + u1)) 0 (((upd pI 1 ((pI 1) + u1)) 0) + (1 : Int32))) 0) - (1 : Int32)), ((upd (upd pI 1 ((pI 1) + u1)) 0 (((upd pI 1 ((pI 1) + u1)) 0) + (1 : Int32))), (up2 pA_9 2 ((upd pI 1 ((pI 1) + u1)) 0).toNatClampNeg (vp_nar .boolean u2))), rfl, ⟨(congrArg Prod.fst (og_inj h)).symm, (congrArg Prod.snd (og_inj h)).symm⟩, (by rw [ht]; exact hP), hD⟩, hS.F ht⟩) hS.2.2 dX3_addInput_85
      · replace h := og_neg c3 h
        refine lv_iconst (v := (-1 : Int32)) hx hb dX3_addInput_24 (by decide) ?_
        exact W.iret (v := (-1 : Int32)) hx hb hr (fun t ht hW => ⟨⟨(-1 : Int32), (pI, pA), rfl, ⟨(congrArg Prod.fst (og_inj h)).symm, (congrArg Prod.snd (og_inj h)).symm⟩, (by rw [ht]; exact hP), hD⟩, hS.F ht⟩) hS.2.2 dX3_addInput_25
set_option maxRecDepth 100000 in
set_option maxHeartbeats 8000000 in
theorem k_X3_addInstruction (l : Launch) (D : va_G) (cA : Nat → ClassId) (aP : Nat → Nat) (sz : Nat) (u1 : Int32) (u2 : Int32) (u3 : Int32) (u4 : Int32) (pI : Nat → Int32) (pA : Nat → Nat → Int32) (R : Int32 × (Nat → Int32) × (Nat → Nat → Int32)) (h : f_X3_addInstruction u1 u2 u3 u4 pI pA = some R) : Met l yX3_addInstruction (wsU yX3_addInstruction cX3_addInstruction 5 (some .int)) ({ frames := 2, cells := 0, slots := 0, locals := 45 }) (PcW D cA (wl [gP cA aP pI pA]) sz [.ref (aP 0), .int u1, .int u2, .int u3, .int u4]) (QI D (fun u : (Nat → Int32) × (Nat → Nat → Int32) => (wl [gP cA aP u.1 u.2])) R (va_A (wl [gP cA aP pI pA]) sz)) 0 0 (va_A (wl [gP cA aP pI pA]) sz) := by
  refine Met.ofW (cc := cX3_addInstruction) (maxL := 5) (ret := (some .int)) (by decide) rfl ?_
  intro p e s m args below meth c s₁ B hml hv
  obtain ⟨rfl, hsz, hP, hK, hD0⟩ := hv
  have hx := B.exec
  have hb := B.bytes
  have hr := B.returns
  have hts := atoms_spec (ws := (wsU yX3_addInstruction cX3_addInstruction 5 (some .int))) B.pre
  have hT : ∀ w ∈ wsL_law, w.before ([.ref (aP 0), .int u1, .int u2, .int u3, .int u4] : List Value).toArray s = true := fun w h => hts w (List.mem_cons_of_mem _ h)
  have hown : s.vm.findClass RX3 = some m.cls := findClass_of_methodNamed B.named
  have hlocks := B.notSynchronized
  have hN := hK.2
  subst hsz
  have hD := hD0.self (sz := s.heap.size)
  generalize hAe : va_A (wl [gP cA aP pI pA]) s.heap.size = A at hD ⊢
  have hA : ∀ q : Nat, s.heap.size ≤ q → A q := fun q h => by rw [← hAe]; exact Or.inr h
  have hS : va_S A s.heap s.heap [] := va_S.rf
  have hl := lv_entry ([.ref (aP 0), .int u1, .int u2, .int u3, .int u4]) (n := 5) (Nat.le_of_ble_eq_true rfl)
  rw [lg_entry_eq]
  generalize (lg_sl ([.ref (aP 0), .int u1, .int u2, .int u3, .int u4]) ++ List.replicate (5 - (lg_sl ([.ref (aP 0), .int u1, .int u2, .int u3, .int u4])).length) Slot.unset).toArray = ls at hl ⊢
  have hl : lv_has ls 5 [(0, .ref (aP 0)), (1, .int u1), (2, .int u2), (3, .int u3), (4, .int u4)] := hl
  have b108 : ∀ (y1 : Int32) (y2 : Int32) (pI : Nat → Int32) (pA : Nat → Nat → Int32) (H : Heap) (locs : List Loc) (ls : Array Slot), f_X3_addInstruction_b108 y1 y2 pI pA = some R → va_P D vwCl (wl [gP cA aP pI pA]) H → va_D A (wl [gP cA aP pI pA]) → va_S A s.heap H locs → lv_has ls 5 [(0, .ref (aP 0))] → W p l e (headSpec (wsU yX3_addInstruction cX3_addInstruction 5 (some .int)) ({ frames := 2, cells := 0, slots := 0, locals := 45 })).room s m ([.ref (aP 0), .int u1, .int u2, .int u3, .int u4] : List Value).toArray below meth c H locs 0 0 (MQ below (QI D (fun u : (Nat → Int32) × (Nat → Nat → Int32) => (wl [gP cA aP u.1 u.2])) R A) ([.ref (aP 0), .int u1, .int u2, .int u3, .int u4] : List Value).toArray s 0 0 A) (F0 m 108 ls [.int y2, .int y1, .ref (aP 0)]) := by
    intro y1 y2 pI pA H locs ls h hP hD hS hl
    unfold f_X3_addInstruction_b108 at h
    refine lv_iadd hx hb dX3_addInstruction_108 ?_
    refine va_put (D := D) (v := .int (y1 + y2)) (ty := .int) (C := RX3) (T := TX3) (N := 12) hx hb hT inlX3 tyX3 tyX3_ok nmX3 hown hK.1 hP hD hS 0 rfl rfl 11 (by decide) (hT _ fl_RX3_47) (fun _ h9 => h9) rfl (by decide +kernel) rfl rfl (Nat.le_of_ble_eq_true rfl) dX3_addInstruction_109 (fun H locs hP hD hS => ?_)
    have hP : va_P D vwCl (wl [gP cA aP (upd pI 4 (y1 + y2)) pA]) H := hP
    have hD : va_D A (wl [gP cA aP (upd pI 4 (y1 + y2)) pA]) := hD
    refine lv_aload_n hx hb dX3_addInstruction_112 rfl (lv_at hl 0 rfl) ?_
    refine lv_dup hx hb dX3_addInstruction_113 rfl ?_
    refine va_get (D := D) (C := RX3) (T := TX3) (N := 12) hx hb hT inlX3 hown hK.1 hP 0 rfl rfl 9 (by decide) (hT _ fl_RX3_41) (fun _ h9 => h9) rfl dX3_addInstruction_114 ?_
    refine lv_iconst (v := (1 : Int32)) hx hb dX3_addInstruction_117 (by decide) ?_
    refine lv_iadd hx hb dX3_addInstruction_118 ?_
    refine va_put (D := D) (v := .int (((upd pI 4 (y1 + y2)) 2) + (1 : Int32))) (ty := .int) (C := RX3) (T := TX3) (N := 12) hx hb hT inlX3 tyX3 tyX3_ok nmX3 hown hK.1 hP hD hS 0 rfl rfl 9 (by decide) (hT _ fl_RX3_41) (fun _ h9 => h9) rfl (by decide +kernel) rfl rfl (Nat.le_of_ble_eq_true rfl) dX3_addInstruction_119 (fun H locs hP hD hS => ?_)
    have hP : va_P D vwCl (wl [gP cA aP (upd (upd pI 4 (y1 + y2)) 2 (((upd pI 4 (y1 + y2)) 2) + (1 : Int32))) pA]) H := hP
    have hD : va_D A (wl [gP cA aP (upd (upd pI 4 (y1 + y2)) 2 (((upd pI 4 (y1 + y2)) 2) + (1 : Int32))) pA]) := hD
    refine lv_aload_n hx hb dX3_addInstruction_122 rfl (lv_at hl 0 rfl) ?_
    refine va_get (D := D) (C := RX3) (T := TX3) (N := 12) hx hb hT inlX3 hown hK.1 hP 0 rfl rfl 9 (by decide) (hT _ fl_RX3_41) (fun _ h9 => h9) rfl dX3_addInstruction_123 ?_
    refine lv_iconst (v := (1 : Int32)) hx hb dX3_addInstruction_126 (by decide) ?_
    refine lv_isub hx hb dX3_addInstruction_127 ?_
    exact W.iret (v := (((upd (upd pI 4 (y1 + y2)) 2 (((upd pI 4 (y1 + y2)) 2) + (1 : Int32))) 2) - (1 : Int32))) hx hb hr (fun t ht hW => ⟨⟨(((upd (upd pI 4 (y1 + y2)) 2 (((upd pI 4 (y1 + y2)) 2) + (1 : Int32))) 2) - (1 : Int32)), ((upd (upd pI 4 (y1 + y2)) 2 (((upd pI 4 (y1 + y2)) 2) + (1 : Int32))), pA), rfl, ⟨(congrArg Prod.fst (og_inj h)).symm, (congrArg Prod.snd (og_inj h)).symm⟩, (by rw [ht]; exact hP), hD⟩, hS.F ht⟩) hS.2.2 dX3_addInstruction_128
  have b87 : ∀ (x1 : Int32) (y1 : Int32) (y2 : Int32) (pI : Nat → Int32) (pA : Nat → Nat → Int32) (H : Heap) (locs : List Loc) (ls : Array Slot), f_X3_addInstruction_b87 x1 y1 y2 pI pA = some R → va_P D vwCl (wl [gP cA aP pI pA]) H → va_D A (wl [gP cA aP pI pA]) → va_S A s.heap H locs → lv_has ls 5 [(0, .ref (aP 0)), (1, .int x1)] → W p l e (headSpec (wsU yX3_addInstruction cX3_addInstruction 5 (some .int)) ({ frames := 2, cells := 0, slots := 0, locals := 45 })).room s m ([.ref (aP 0), .int u1, .int u2, .int u3, .int u4] : List Value).toArray below meth c H locs 0 0 (MQ below (QI D (fun u : (Nat → Int32) × (Nat → Nat → Int32) => (wl [gP cA aP u.1 u.2])) R A) ([.ref (aP 0), .int u1, .int u2, .int u3, .int u4] : List Value).toArray s 0 0 A) (F0 m 87 ls [.int y2, .int y1, .ref (aP 0)]) := by
    intro x1 y1 y2 pI pA H locs ls h hP hD hS hl
    unfold f_X3_addInstruction_b87 at h
    refine lv_iadd hx hb dX3_addInstruction_87 ?_
    refine va_put (D := D) (v := .int (y1 + y2)) (ty := .int) (C := RX3) (T := TX3) (N := 12) hx hb hT inlX3 tyX3 tyX3_ok nmX3 hown hK.1 hP hD hS 0 rfl rfl 10 (by decide) (hT _ fl_RX3_44) (fun _ h9 => h9) rfl (by decide +kernel) rfl rfl (Nat.le_of_ble_eq_true rfl) dX3_addInstruction_88 (fun H locs hP hD hS => ?_)
    have hP : va_P D vwCl (wl [gP cA aP (upd pI 3 (y1 + y2)) pA]) H := hP
    have hD : va_D A (wl [gP cA aP (upd pI 3 (y1 + y2)) pA]) := hD
    refine lv_aload_n hx hb dX3_addInstruction_91 rfl (lv_at hl 0 rfl) ?_
    refine lv_dup hx hb dX3_addInstruction_92 rfl ?_
    refine va_get (D := D) (C := RX3) (T := TX3) (N := 12) hx hb hT inlX3 hown hK.1 hP 0 rfl rfl 11 (by decide) (hT _ fl_RX3_47) (fun _ h9 => h9) rfl dX3_addInstruction_93 ?_
    refine lv_iload_n hx hb dX3_addInstruction_96 rfl (lv_at hl 1 rfl) ?_
    obtain ⟨⟨r1, _u1⟩, e1, h⟩ := og_bind h
    try dsimp only at h
    refine gc_i (ws := (wl [gP cA aP (upd pI 3 (y1 + y2)) pA])) (wc := (wl ([] : List va_W))) (wr := (wl [gP cA aP (upd pI 3 (y1 + y2)) pA])) (ws' := (wl [gP cA aP (upd pI 3 (y1 + y2)) pA])) (va_runSN (host := RX4) (As := [.int x1]) (rest := [.int ((upd pI 3 (y1 + y2)) 4), .ref (aP 0)]) ⟨hx, hb, hml, hown, hT⟩ (k_X4_isDivision l D cA  H.size x1  _ e1) ⟨va_cnB 1 hT (gw cd_yX4_isDivision_cX4_isDivision) rfl rfl rfl (hN _ nl_RX3_58) (hT _ ini_RX4) (by decide +kernel) ⟨Nat.le_of_ble_eq_true rfl, Nat.le_of_ble_eq_true rfl⟩, hT _ sc_yX4_isDivision, trivial⟩ (pre_S (wr := (wl [gP cA aP (upd pI 3 (y1 + y2)) pA])) (pm (f := fun i => ([gP cA aP (upd pI 3 (y1 + y2)) pA] : List va_W).getD i []) [0] [] [0] (by decide)) hK hP hD) rfl rfl hl.1 rfl (lv_room (Nat.le_of_ble_eq_true rfl)) dX3_addInstruction_97 ⟨Nat.le_refl _, Nat.le_refl _⟩) (pm (f := fun i => ([gP cA aP (upd pI 3 (y1 + y2)) pA] : List va_W).getD i []) [0] [] [0] (by decide)) hP hD hS hA (pm (f := fun i => ([gP cA aP (upd pI 3 (y1 + y2)) pA] : List va_W).getD i []) [0] [] [0] (by decide)) (fun H locs hP hD hS => ?_)
    refine lv_if_eq (tgt := 107) hx hb dX3_addInstruction_100 (by decide) (fun c2 => ?_) (fun c2 => ?_)
    · replace h := og_pos c2 h
      refine lv_iconst (v := (0 : Int32)) hx hb dX3_addInstruction_107 (by decide) ?_
      exact b108  _ _ _ _ _ _ _ h hP hD hS (lv_sub hl [0] rfl)
    · replace h := og_neg c2 h
      refine lv_iconst (v := (1 : Int32)) hx hb dX3_addInstruction_103 (by decide) ?_
      refine lv_goto (tgt := 108) hx hb dX3_addInstruction_104 (by decide) ?_
      exact b108  _ _ _ _ _ _ _ h hP hD hS (lv_sub hl [0] rfl)
  unfold f_X3_addInstruction at h
  refine lv_aload_n hx hb dX3_addInstruction_0 rfl (lv_at hl 0 rfl) ?_
  refine va_get (D := D) (C := RX3) (T := TX3) (N := 12) hx hb hT inlX3 hown hK.1 hP 0 rfl rfl 9 (by decide) (hT _ fl_RX3_41) (fun _ h9 => h9) rfl dX3_addInstruction_1 ?_
  refine lv_bipush (v := (60 : Int32)) hx hb dX3_addInstruction_4 (by decide) ?_
  refine lv_icmp_ge (tgt := 29) hx hb dX3_addInstruction_6 (by decide) (fun c3 => ?_) (fun c3 => ?_)
  · replace h := og_pos c3 h
    refine lv_iconst (v := (-1 : Int32)) hx hb dX3_addInstruction_29 (by decide) ?_
    exact W.iret (v := (-1 : Int32)) hx hb hr (fun t ht hW => ⟨⟨(-1 : Int32), (pI, pA), rfl, ⟨(congrArg Prod.fst (og_inj h)).symm, (congrArg Prod.snd (og_inj h)).symm⟩, (by rw [ht]; exact hP), hD⟩, hS.F ht⟩) hS.2.2 dX3_addInstruction_30
  · replace h := og_neg c3 h
    refine lv_aload_n hx hb dX3_addInstruction_9 rfl (lv_at hl 0 rfl) ?_
    refine lv_iload_n hx hb dX3_addInstruction_10 rfl (lv_at hl 1 rfl) ?_
    refine lv_iload_n hx hb dX3_addInstruction_11 rfl (lv_at hl 2 rfl) ?_
    refine lv_iload_n hx hb dX3_addInstruction_12 rfl (lv_at hl 3 rfl) ?_
    refine lv_iload hx hb dX3_addInstruction_13 (lv_at hl 4 rfl) ?_
    obtain ⟨⟨r4, _u4⟩, e4, h⟩ := og_bind h
    try dsimp only at h
    refine gc_i (ws := (wl [gP cA aP pI pA])) (wc := (wl [gP cA aP pI pA])) (wr := (wl ([] : List va_W))) (ws' := (wl [gP cA aP pI pA])) (va_runV (As := [.int u1, .int u2, .int u3, .int u4]) (rest := []) ⟨hx, hb, hml, hown, hT⟩ (k_X3_fits l D cA aP s.heap.size u1 u2 u3 u4 pI pA _ e4) (cwV 4 hT gv_RX3_50 rfl rfl rfl (by decide +kernel) ⟨Nat.le_of_ble_eq_true rfl, Nat.le_of_ble_eq_true rfl⟩) (pre_V (ci := 3) (q0 := 0) (wr := (wl ([] : List va_W))) (pm (f := fun i => ([gP cA aP pI pA] : List va_W).getD i []) [0] [0] [] (by decide)) hK hP hD rfl rfl) rfl rfl hl.1 rfl (lv_room (Nat.le_of_ble_eq_true rfl)) dX3_addInstruction_15 ⟨Nat.le_refl _, Nat.le_refl _⟩) (pm (f := fun i => ([gP cA aP pI pA] : List va_W).getD i []) [0] [0] [] (by decide)) hP hD hS hA (pm (f := fun i => ([gP cA aP pI pA] : List va_W).getD i []) [0] [0] [] (by decide)) (fun H locs hP hD hS => ?_)
    refine lv_if_eq (tgt := 29) hx hb dX3_addInstruction_18 (by decide) (fun c5 => ?_) (fun c5 => ?_)
    · replace h := og_pos c5 h
      refine lv_iconst (v := (-1 : Int32)) hx hb dX3_addInstruction_29 (by decide) ?_
      exact W.iret (v := (-1 : Int32)) hx hb hr (fun t ht hW => ⟨⟨(-1 : Int32), (pI, pA), rfl, ⟨(congrArg Prod.fst (og_inj h)).symm, (congrArg Prod.snd (og_inj h)).symm⟩, (by rw [ht]; exact hP), hD⟩, hS.F ht⟩) hS.2.2 dX3_addInstruction_30
    · replace h := og_neg c5 h
      refine lv_aload_n hx hb dX3_addInstruction_21 rfl (lv_at hl 0 rfl) ?_
      refine lv_iload_n hx hb dX3_addInstruction_22 rfl (lv_at hl 1 rfl) ?_
      obtain ⟨⟨r6, _u6⟩, e6, h⟩ := og_bind h
      try dsimp only at h
      refine gc_i (ws := (wl [gP cA aP pI pA])) (wc := (wl [gP cA aP pI pA])) (wr := (wl ([] : List va_W))) (ws' := (wl [gP cA aP pI pA])) (va_runV (As := [.int u1]) (rest := []) ⟨hx, hb, hml, hown, hT⟩ (k_X3_wouldBeTooMany l D cA aP H.size u1 pI pA _ e6) (cwV 1 hT gv_RX3_54 rfl rfl rfl (by decide +kernel) ⟨Nat.le_of_ble_eq_true rfl, Nat.le_of_ble_eq_true rfl⟩) (pre_V (ci := 3) (q0 := 0) (wr := (wl ([] : List va_W))) (pm (f := fun i => ([gP cA aP pI pA] : List va_W).getD i []) [0] [0] [] (by decide)) hK hP hD rfl rfl) rfl rfl hl.1 rfl (lv_room (Nat.le_of_ble_eq_true rfl)) dX3_addInstruction_23 ⟨Nat.le_refl _, Nat.le_refl _⟩) (pm (f := fun i => ([gP cA aP pI pA] : List va_W).getD i []) [0] [0] [] (by decide)) hP hD hS hA (pm (f := fun i => ([gP cA aP pI pA] : List va_W).getD i []) [0] [0] [] (by decide)) (fun H locs hP hD hS => ?_)
      refine lv_if_eq (tgt := 31) hx hb dX3_addInstruction_26 (by decide) (fun c7 => ?_) (fun c7 => ?_)
      · replace h := og_pos c7 h
        refine lv_aload_n hx hb dX3_addInstruction_31 rfl (lv_at hl 0 rfl) ?_
        refine va_get (D := D) (C := RX3) (T := TX3) (N := 12) hx hb hT inlX3 hown hK.1 hP 0 rfl rfl 5 (by decide) (hT _ fl_RX3_22) (fun _ h9 => h9) rfl dX3_addInstruction_32 ?_
        refine lv_aload_n hx hb dX3_addInstruction_35 rfl (lv_at hl 0 rfl) ?_
        refine va_get (D := D) (C := RX3) (T := TX3) (N := 12) hx hb hT inlX3 hown hK.1 hP 0 rfl rfl 9 (by decide) (hT _ fl_RX3_41) (fun _ h9 => h9) rfl dX3_addInstruction_36 ?_
        refine lv_iload_n hx hb dX3_addInstruction_39 rfl (lv_at hl 1 rfl) ?_
        obtain ⟨g8, h⟩ := og_guard h
        refine va_iast hx hb hK.1 hP hD hS 4 0 rfl rfl (inb_vp g8) dX3_addInstruction_40 (fun H locs hP hD hS => ?_)
        have hP : va_P D vwCl (wl [gP cA aP pI (up2 pA 3 (pI 2).toNatClampNeg u1)]) H := hP
        have hD : va_D A (wl [gP cA aP pI (up2 pA 3 (pI 2).toNatClampNeg u1)]) := hD
        refine lv_aload_n hx hb dX3_addInstruction_41 rfl (lv_at hl 0 rfl) ?_
        refine va_get (D := D) (C := RX3) (T := TX3) (N := 12) hx hb hT inlX3 hown hK.1 hP 0 rfl rfl 6 (by decide) (hT _ fl_RX3_25) (fun _ h9 => h9) rfl dX3_addInstruction_42 ?_
        refine lv_aload_n hx hb dX3_addInstruction_45 rfl (lv_at hl 0 rfl) ?_
        refine va_get (D := D) (C := RX3) (T := TX3) (N := 12) hx hb hT inlX3 hown hK.1 hP 0 rfl rfl 9 (by decide) (hT _ fl_RX3_41) (fun _ h9 => h9) rfl dX3_addInstruction_46 ?_
        refine lv_iload_n hx hb dX3_addInstruction_49 rfl (lv_at hl 2 rfl) ?_
        obtain ⟨pA_10, e11, h⟩ := og_bind h
        rw [← og_inj e11] at hP hD
        obtain ⟨g9, h⟩ := og_guard h
        refine va_iast hx hb hK.1 hP hD hS 5 0 rfl rfl (inb_vp g9) dX3_addInstruction_50 (fun H locs hP hD hS => ?_)
        have hP : va_P D vwCl (wl [gP cA aP pI (up2 pA_10 4 (pI 2).toNatClampNeg u2)]) H := hP
        have hD : va_D A (wl [gP cA aP pI (up2 pA_10 4 (pI 2).toNatClampNeg u2)]) := hD
        refine lv_aload_n hx hb dX3_addInstruction_51 rfl (lv_at hl 0 rfl) ?_
        refine va_get (D := D) (C := RX3) (T := TX3) (N := 12) hx hb hT inlX3 hown hK.1 hP 0 rfl rfl 7 (by decide) (hT _ fl_RX3_28) (fun _ h9 => h9) rfl dX3_addInstruction_52 ?_
        refine lv_aload_n hx hb dX3_addInstruction_55 rfl (lv_at hl 0 rfl) ?_
        refine va_get (D := D) (C := RX3) (T := TX3) (N := 12) hx hb hT inlX3 hown hK.1 hP 0 rfl rfl 9 (by decide) (hT _ fl_RX3_41) (fun _ h9 => h9) rfl dX3_addInstruction_56 ?_
        refine lv_iload_n hx hb dX3_addInstruction_59 rfl (lv_at hl 3 rfl) ?_
        obtain ⟨pA_13, e14, h⟩ := og_bind h
        rw [← og_inj e14] at hP hD
        obtain ⟨g12, h⟩ := og_guard h
        refine va_iast hx hb hK.1 hP hD hS 6 0 rfl rfl (inb_vp g12) dX3_addInstruction_60 (fun H locs hP hD hS => ?_)
        have hP : va_P D vwCl (wl [gP cA aP pI (up2 pA_13 5 (pI 2).toNatClampNeg u3)]) H := hP
        have hD : va_D A (wl [gP cA aP pI (up2 pA_13 5 (pI 2).toNatClampNeg u3)]) := hD
        refine lv_aload_n hx hb dX3_addInstruction_61 rfl (lv_at hl 0 rfl) ?_
        refine va_get (D := D) (C := RX3) (T := TX3) (N := 12) hx hb hT inlX3 hown hK.1 hP 0 rfl rfl 8 (by decide) (hT _ fl_RX3_31) (fun _ h9 => h9) rfl dX3_addInstruction_62 ?_
        refine lv_aload_n hx hb dX3_addInstruction_65 rfl (lv_at hl 0 rfl) ?_
        refine va_get (D := D) (C := RX3) (T := TX3) (N := 12) hx hb hT inlX3 hown hK.1 hP 0 rfl rfl 9 (by decide) (hT _ fl_RX3_41) (fun _ h9 => h9) rfl dX3_addInstruction_66 ?_
        refine lv_iload hx hb dX3_addInstruction_69 (lv_at hl 4 rfl) ?_
        obtain ⟨pA_16, e17, h⟩ := og_bind h
        rw [← og_inj e17] at hP hD
        obtain ⟨g15, h⟩ := og_guard h
        refine va_iast hx hb hK.1 hP hD hS 7 0 rfl rfl (inb_vp g15) dX3_addInstruction_71 (fun H locs hP hD hS => ?_)
        have hP : va_P D vwCl (wl [gP cA aP pI (up2 pA_16 6 (pI 2).toNatClampNeg u4)]) H := hP
        have hD : va_D A (wl [gP cA aP pI (up2 pA_16 6 (pI 2).toNatClampNeg u4)]) := hD
        refine lv_aload_n hx hb dX3_addInstruction_72 rfl (lv_at hl 0 rfl) ?_
        refine lv_dup hx hb dX3_addInstruction_73 rfl ?_
        refine va_get (D := D) (C := RX3) (T := TX3) (N := 12) hx hb hT inlX3 hown hK.1 hP 0 rfl rfl 10 (by decide) (hT _ fl_RX3_44) (fun _ h9 => h9) rfl dX3_addInstruction_74 ?_
        refine lv_iload_n hx hb dX3_addInstruction_77 rfl (lv_at hl 1 rfl) ?_
        refine lv_iconst (v := (5 : Int32)) hx hb dX3_addInstruction_78 (by decide) ?_
        refine lv_icmp_ne (tgt := 86) hx hb dX3_addInstruction_79 (by decide) (fun c18 => ?_) (fun c18 => ?_)
        · replace h := og_neg c18 h
          refine lv_iconst (v := (0 : Int32)) hx hb dX3_addInstruction_86 (by decide) ?_
          exact b87  _ _ _ _ _ _ _ _ h hP hD hS (lv_sub hl [0, 1] rfl)
        · replace h := og_pos c18 h
          refine lv_iconst (v := (1 : Int32)) hx hb dX3_addInstruction_82 (by decide) ?_
          refine lv_goto (tgt := 87) hx hb dX3_addInstruction_83 (by decide) ?_
          exact b87  _ _ _ _ _ _ _ _ h hP hD hS (lv_sub hl [0, 1] rfl)
      · replace h := og_neg c7 h
        refine lv_iconst (v := (-1 : Int32)) hx hb dX3_addInstruction_29 (by decide) ?_
        exact W.iret (v := (-1 : Int32)) hx hb hr (fun t ht hW => ⟨⟨(-1 : Int32), (pI, pA), rfl, ⟨(congrArg Prod.fst (og_inj h)).symm, (congrArg Prod.snd (og_inj h)).symm⟩, (by rw [ht]; exact hP), hD⟩, hS.F ht⟩) hS.2.2 dX3_addInstruction_30
set_option maxRecDepth 100000 in
set_option maxHeartbeats 8000000 in
theorem k_X3_words (l : Launch) (D : va_G) (cA : Nat → ClassId) (aP : Nat → Nat) (sz : Nat) (pI : Nat → Int32) (pA : Nat → Nat → Int32) (R : Int32 × Unit) (h : f_X3_words pI = some R) : Met l yX3_words (wsU yX3_words cX3_words 1 (some .int)) ({ frames := 0, cells := 0, slots := 0, locals := 0 }) (PcW D cA (wl [gP cA aP pI pA]) sz [.ref (aP 0)]) (QI D (fun _ : Unit => (wl [gP cA aP pI pA])) R (va_A (wl [gP cA aP pI pA]) sz)) 0 0 (va_A (wl [gP cA aP pI pA]) sz) := by
  refine Met.ofW (cc := cX3_words) (maxL := 1) (ret := (some .int)) (by decide) rfl ?_
  intro p e s m args below meth c s₁ B hml hv
  obtain ⟨rfl, hsz, hP, hK, hD0⟩ := hv
  have hx := B.exec
  have hb := B.bytes
  have hr := B.returns
  have hts := atoms_spec (ws := (wsU yX3_words cX3_words 1 (some .int))) B.pre
  have hT : ∀ w ∈ wsL_law, w.before ([.ref (aP 0)] : List Value).toArray s = true := fun w h => hts w (List.mem_cons_of_mem _ h)
  have hown : s.vm.findClass RX3 = some m.cls := findClass_of_methodNamed B.named
  have hlocks := B.notSynchronized
  have hN := hK.2
  subst hsz
  have hD := hD0.self (sz := s.heap.size)
  generalize hAe : va_A (wl [gP cA aP pI pA]) s.heap.size = A at hD ⊢
  have hA : ∀ q : Nat, s.heap.size ≤ q → A q := fun q h => by rw [← hAe]; exact Or.inr h
  have hS : va_S A s.heap s.heap [] := va_S.rf
  have hl := lv_entry ([.ref (aP 0)]) (n := 1) (Nat.le_of_ble_eq_true rfl)
  rw [lg_entry_eq]
  generalize (lg_sl ([.ref (aP 0)]) ++ List.replicate (1 - (lg_sl ([.ref (aP 0)])).length) Slot.unset).toArray = ls at hl ⊢
  have hl : lv_has ls 1 [(0, .ref (aP 0))] := hl
  unfold f_X3_words at h
  refine lv_iconst (v := (1 : Int32)) hx hb dX3_words_0 (by decide) ?_
  refine lv_aload_n hx hb dX3_words_1 rfl (lv_at hl 0 rfl) ?_
  refine va_get (D := D) (C := RX3) (T := TX3) (N := 12) hx hb hT inlX3 hown hK.1 hP 0 rfl rfl 4 (by decide) (hT _ fl_RX3_38) (fun _ h9 => h9) rfl dX3_words_2 ?_
  refine lv_ishl hx hb dX3_words_5 ?_
  exact W.iret (v := ((1 : Int32) <<< ((pI 1) &&& 31))) hx hb hr (fun t ht hW => ⟨⟨((1 : Int32) <<< ((pI 1) &&& 31)), (), rfl, ⟨(congrArg Prod.fst (og_inj h)).symm, (congrArg Prod.snd (og_inj h)).symm⟩, (by rw [ht]; exact hP), hD⟩, hS.F ht⟩) hS.2.2 dX3_words_6
set_option maxRecDepth 100000 in
set_option maxHeartbeats 8000000 in
theorem k_X3_hasWord (l : Launch) (D : va_G) (cA : Nat → ClassId) (aP : Nat → Nat) (sz : Nat) (u1 : Int32) (pI : Nat → Int32) (pA : Nat → Nat → Int32) (R : Int32 × Unit) (h : f_X3_hasWord u1 pI = some R) : Met l yX3_hasWord (wsU yX3_hasWord cX3_hasWord 2 (some .boolean)) ({ frames := 1, cells := 0, slots := 0, locals := 20 }) (PcW D cA (wl [gP cA aP pI pA]) sz [.ref (aP 0), .int u1]) (QI D (fun _ : Unit => (wl [gP cA aP pI pA])) R (va_A (wl [gP cA aP pI pA]) sz)) 0 0 (va_A (wl [gP cA aP pI pA]) sz) := by
  refine Met.ofW (cc := cX3_hasWord) (maxL := 2) (ret := (some .boolean)) (by decide) rfl ?_
  intro p e s m args below meth c s₁ B hml hv
  obtain ⟨rfl, hsz, hP, hK, hD0⟩ := hv
  have hx := B.exec
  have hb := B.bytes
  have hr := B.returns
  have hts := atoms_spec (ws := (wsU yX3_hasWord cX3_hasWord 2 (some .boolean))) B.pre
  have hT : ∀ w ∈ wsL_law, w.before ([.ref (aP 0), .int u1] : List Value).toArray s = true := fun w h => hts w (List.mem_cons_of_mem _ h)
  have hown : s.vm.findClass RX3 = some m.cls := findClass_of_methodNamed B.named
  have hlocks := B.notSynchronized
  have hN := hK.2
  subst hsz
  have hD := hD0.self (sz := s.heap.size)
  generalize hAe : va_A (wl [gP cA aP pI pA]) s.heap.size = A at hD ⊢
  have hA : ∀ q : Nat, s.heap.size ≤ q → A q := fun q h => by rw [← hAe]; exact Or.inr h
  have hS : va_S A s.heap s.heap [] := va_S.rf
  have hl := lv_entry ([.ref (aP 0), .int u1]) (n := 2) (Nat.le_of_ble_eq_true rfl)
  rw [lg_entry_eq]
  generalize (lg_sl ([.ref (aP 0), .int u1]) ++ List.replicate (2 - (lg_sl ([.ref (aP 0), .int u1])).length) Slot.unset).toArray = ls at hl ⊢
  have hl : lv_has ls 2 [(0, .ref (aP 0)), (1, .int u1)] := hl
  unfold f_X3_hasWord at h
  refine lv_iload_n hx hb dX3_hasWord_0 rfl (lv_at hl 1 rfl) ?_
  refine lv_if_lt (tgt := 16) hx hb dX3_hasWord_1 (by decide) (fun c1 => ?_) (fun c1 => ?_)
  · replace h := og_pos c1 h
    refine lv_iconst (v := (0 : Int32)) hx hb dX3_hasWord_16 (by decide) ?_
    exact W.zret (v := (0 : Int32)) hx hb hr (by decide +kernel) (fun t ht hW => ⟨⟨(0 : Int32), (), rfl, ⟨(congrArg Prod.fst (og_inj h)).symm, (congrArg Prod.snd (og_inj h)).symm⟩, (by rw [ht]; exact hP), hD⟩, hS.F ht⟩) hS.2.2 dX3_hasWord_17
  · replace h := og_neg c1 h
    refine lv_iload_n hx hb dX3_hasWord_4 rfl (lv_at hl 1 rfl) ?_
    refine lv_aload_n hx hb dX3_hasWord_5 rfl (lv_at hl 0 rfl) ?_
    obtain ⟨⟨r2, _u2⟩, e2, h⟩ := og_bind h
    try dsimp only at h
    refine gc_i (ws := (wl [gP cA aP pI pA])) (wc := (wl [gP cA aP pI pA])) (wr := (wl ([] : List va_W))) (ws' := (wl [gP cA aP pI pA])) (va_runV (As := []) (rest := [.int u1]) ⟨hx, hb, hml, hown, hT⟩ (k_X3_words l D cA aP s.heap.size  pI pA _ e2) (cwV 0 hT gv_RX3_70 rfl rfl rfl (by decide +kernel) ⟨Nat.le_of_ble_eq_true rfl, Nat.le_of_ble_eq_true rfl⟩) (pre_V (ci := 3) (q0 := 0) (wr := (wl ([] : List va_W))) (pm (f := fun i => ([gP cA aP pI pA] : List va_W).getD i []) [0] [0] [] (by decide)) hK hP hD rfl rfl) rfl rfl hl.1 rfl (lv_room (Nat.le_of_ble_eq_true rfl)) dX3_hasWord_6 ⟨Nat.le_refl _, Nat.le_refl _⟩) (pm (f := fun i => ([gP cA aP pI pA] : List va_W).getD i []) [0] [0] [] (by decide)) hP hD hS hA (pm (f := fun i => ([gP cA aP pI pA] : List va_W).getD i []) [0] [0] [] (by decide)) (fun H locs hP hD hS => ?_)
    refine lv_icmp_ge (tgt := 16) hx hb dX3_hasWord_9 (by decide) (fun c3 => ?_) (fun c3 => ?_)
    · replace h := og_pos c3 h
      refine lv_iconst (v := (0 : Int32)) hx hb dX3_hasWord_16 (by decide) ?_
      exact W.zret (v := (0 : Int32)) hx hb hr (by decide +kernel) (fun t ht hW => ⟨⟨(0 : Int32), (), rfl, ⟨(congrArg Prod.fst (og_inj h)).symm, (congrArg Prod.snd (og_inj h)).symm⟩, (by rw [ht]; exact hP), hD⟩, hS.F ht⟩) hS.2.2 dX3_hasWord_17
    · replace h := og_neg c3 h
      refine lv_iconst (v := (1 : Int32)) hx hb dX3_hasWord_12 (by decide) ?_
      refine lv_goto (tgt := 17) hx hb dX3_hasWord_13 (by decide) ?_
      exact W.zret (v := (1 : Int32)) hx hb hr (by decide +kernel) (fun t ht hW => ⟨⟨(1 : Int32), (), rfl, ⟨(congrArg Prod.fst (og_inj h)).symm, (congrArg Prod.snd (og_inj h)).symm⟩, (by rw [ht]; exact hP), hD⟩, hS.F ht⟩) hS.2.2 dX3_hasWord_17
set_option maxRecDepth 100000 in
set_option maxHeartbeats 8000000 in
theorem k_X3_inputIn (l : Launch) (D : va_G) (cA : Nat → ClassId) (aP : Nat → Nat) (sz : Nat) (u1 : Int32) (u2 : Int32) (pI : Nat → Int32) (pA : Nat → Nat → Int32) (R : Int32 × Unit) (h : f_X3_inputIn u1 u2 pI pA = some R) : Met l yX3_inputIn (wsU yX3_inputIn cX3_inputIn 5 (some .int)) ({ frames := 0, cells := 0, slots := 0, locals := 0 }) (PcW D cA (wl [gP cA aP pI pA]) sz [.ref (aP 0), .int u1, .int u2]) (QI D (fun _ : Unit => (wl [gP cA aP pI pA])) R (va_A (wl [gP cA aP pI pA]) sz)) 0 0 (va_A (wl [gP cA aP pI pA]) sz) := by
  refine Met.ofW (cc := cX3_inputIn) (maxL := 5) (ret := (some .int)) (by decide) rfl ?_
  intro p e s m args below meth c s₁ B hml hv
  obtain ⟨rfl, hsz, hP, hK, hD0⟩ := hv
  have hx := B.exec
  have hb := B.bytes
  have hr := B.returns
  have hts := atoms_spec (ws := (wsU yX3_inputIn cX3_inputIn 5 (some .int))) B.pre
  have hT : ∀ w ∈ wsL_law, w.before ([.ref (aP 0), .int u1, .int u2] : List Value).toArray s = true := fun w h => hts w (List.mem_cons_of_mem _ h)
  have hown : s.vm.findClass RX3 = some m.cls := findClass_of_methodNamed B.named
  have hlocks := B.notSynchronized
  have hN := hK.2
  subst hsz
  have hD := hD0.self (sz := s.heap.size)
  generalize hAe : va_A (wl [gP cA aP pI pA]) s.heap.size = A at hD ⊢
  have hA : ∀ q : Nat, s.heap.size ≤ q → A q := fun q h => by rw [← hAe]; exact Or.inr h
  have hS : va_S A s.heap s.heap [] := va_S.rf
  have hl := lv_entry ([.ref (aP 0), .int u1, .int u2]) (n := 5) (Nat.le_of_ble_eq_true rfl)
  rw [lg_entry_eq]
  generalize (lg_sl ([.ref (aP 0), .int u1, .int u2]) ++ List.replicate (5 - (lg_sl ([.ref (aP 0), .int u1, .int u2])).length) Slot.unset).toArray = ls at hl ⊢
  have hl : lv_has ls 5 [(0, .ref (aP 0)), (1, .int u1), (2, .int u2)] := hl
  unfold f_X3_inputIn at h
  refine lv_bipush (v := (32 : Int32)) hx hb dX3_inputIn_0 (by decide) ?_
  refine lv_aload_n hx hb dX3_inputIn_2 rfl (lv_at hl 0 rfl) ?_
  refine va_get (D := D) (C := RX3) (T := TX3) (N := 12) hx hb hT inlX3 hown hK.1 hP 0 rfl rfl 0 (by decide) (hT _ fl_RX3_9) (fun _ h9 => h9) rfl dX3_inputIn_3 ?_
  refine lv_iload_n hx hb dX3_inputIn_6 rfl (lv_at hl 2 rfl) ?_
  obtain ⟨g1, h⟩ := og_guard h
  refine va_iald hx hb hK.1 hP 1 0 rfl rfl (inb_vp g1) dX3_inputIn_7 ?_
  refine lv_isub hx hb dX3_inputIn_8 ?_
  refine lv_istore_n (lv' := [(3, .int ((32 : Int32) - (pA 0 u2.toNatClampNeg))), (0, .ref (aP 0)), (1, .int u1), (2, .int u2)]) hx hb dX3_inputIn_9 rfl hl (by decide) rfl (fun ls hl => ?_)
  refine lv_iload_n hx hb dX3_inputIn_10 rfl (lv_at hl 2 rfl) ?_
  refine lv_aload_n hx hb dX3_inputIn_11 rfl (lv_at hl 1 rfl) ?_
  refine va_get (D := D) (C := RX3) (T := TX3) (N := 12) hx hb hT inlX3 hown hK.1 hP 0 rfl rfl 4 (by decide) (hT _ fl_RX3_38) (fun _ h9 => h9) rfl dX3_inputIn_12 ?_
  refine lv_aload_n hx hb dX3_inputIn_15 rfl (lv_at hl 1 rfl) ?_
  refine va_get (D := D) (C := RX3) (T := TX3) (N := 12) hx hb hT inlX3 hown hK.1 hP 0 rfl rfl 1 (by decide) (hT _ fl_RX3_15) (fun _ h9 => h9) rfl dX3_inputIn_16 ?_
  refine lv_iload_n hx hb dX3_inputIn_19 rfl (lv_at hl 3 rfl) ?_
  obtain ⟨g2, h⟩ := og_guard h
  refine va_iald hx hb hK.1 hP 2 0 rfl rfl (inb_vp g2) dX3_inputIn_20 ?_
  refine lv_isub hx hb dX3_inputIn_21 ?_
  refine lv_ishr hx hb dX3_inputIn_22 ?_
  refine lv_iload_n hx hb dX3_inputIn_23 rfl (lv_at hl 0 rfl) ?_
  refine lv_ishl hx hb dX3_inputIn_24 ?_
  obtain ⟨z3, e4, h⟩ := og_bind h
  refine gt_i (og_inj e4) ?_
  refine lv_istore (lv' := [(4, .int z3), (3, .int ((32 : Int32) - (pA 0 u2.toNatClampNeg))), (0, .ref (aP 0)), (1, .int u1), (2, .int u2)]) hx hb dX3_inputIn_25 hl (by decide) rfl (fun ls hl => ?_)
  refine lv_aload_n hx hb dX3_inputIn_27 rfl (lv_at hl 2 rfl) ?_
  refine va_get (D := D) (C := RX3) (T := TX3) (N := 12) hx hb hT inlX3 hown hK.1 hP 0 rfl rfl 2 (by decide) (hT _ fl_RX3_18) (fun _ h9 => h9) rfl dX3_inputIn_28 ?_
  refine lv_iload_n hx hb dX3_inputIn_31 rfl (lv_at hl 4 rfl) ?_
  obtain ⟨g5, h⟩ := og_guard h
  refine va_zald hx hb hK.1 hP 3 1 rfl rfl (inb_vp g5) dX3_inputIn_32 ?_
  refine lv_if_eq (tgt := 43) hx hb dX3_inputIn_33 (by decide) (fun c6 => ?_) (fun c6 => ?_)
  · replace h := og_pos c6 h
    refine lv_iload hx hb dX3_inputIn_43 (lv_at hl 0 rfl) ?_
    refine lv_iload_n hx hb dX3_inputIn_45 rfl (lv_at hl 1 rfl) ?_
    refine lv_iushr (v := (z3.toUInt32 >>> (((32 : Int32) - (pA 0 u2.toNatClampNeg)).toUInt32 &&& Int32.toUInt32 31)).toInt32) hx hb dX3_inputIn_46 rfl ?_
    exact W.iret (v := (z3.toUInt32 >>> (((32 : Int32) - (pA 0 u2.toNatClampNeg)).toUInt32 &&& Int32.toUInt32 31)).toInt32) hx hb hr (fun t ht hW => ⟨⟨(z3.toUInt32 >>> (((32 : Int32) - (pA 0 u2.toNatClampNeg)).toUInt32 &&& Int32.toUInt32 31)).toInt32, (), rfl, ⟨(congrArg Prod.fst (og_inj h)).symm, (congrArg Prod.snd (og_inj h)).symm⟩, (by rw [ht]; exact hP), hD⟩, hS.F ht⟩) hS.2.2 dX3_inputIn_47
  · replace h := og_neg c6 h
    refine lv_iload hx hb dX3_inputIn_36 (lv_at hl 0 rfl) ?_
    refine lv_iload_n hx hb dX3_inputIn_38 rfl (lv_at hl 1 rfl) ?_
    refine lv_ishr hx hb dX3_inputIn_39 ?_
    refine lv_goto (tgt := 47) hx hb dX3_inputIn_40 (by decide) ?_
    exact W.iret (v := (z3 >>> (((32 : Int32) - (pA 0 u2.toNatClampNeg)) &&& 31))) hx hb hr (fun t ht hW => ⟨⟨(z3 >>> (((32 : Int32) - (pA 0 u2.toNatClampNeg)) &&& 31)), (), rfl, ⟨(congrArg Prod.fst (og_inj h)).symm, (congrArg Prod.snd (og_inj h)).symm⟩, (by rw [ht]; exact hP), hD⟩, hS.F ht⟩) hS.2.2 dX3_inputIn_47
