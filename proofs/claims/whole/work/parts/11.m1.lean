set_option maxRecDepth 100000 in
set_option maxHeartbeats 8000000 in
theorem k_X5_isRegister (l : Launch) (D : va_G) (cA : Nat → ClassId)  (sz : Nat) (u0 : Int32) (R : Int32 × Unit) (h : f_X5_isRegister u0 = some R) : Met l yX5_isRegister (wsU yX5_isRegister cX5_isRegister 1 (some .boolean)) ({ frames := 0, cells := 0, slots := 0, locals := 0 }) (PcW D cA (wl ([] : List va_W)) sz [.int u0]) (QI D (fun _ : Unit => (wl ([] : List va_W))) R (va_A (wl ([] : List va_W)) sz)) 0 0 (va_A (wl ([] : List va_W)) sz) := by
  refine Met.ofW (cc := cX5_isRegister) (maxL := 1) (ret := (some .boolean)) (by decide) rfl ?_
  intro p e s m args below meth c s₁ B hml hv
  obtain ⟨rfl, hsz, hP, hK, hD0⟩ := hv
  have hx := B.exec
  have hb := B.bytes
  have hr := B.returns
  have hts := atoms_spec (ws := (wsU yX5_isRegister cX5_isRegister 1 (some .boolean))) B.pre
  have hT : ∀ w ∈ wsL_law, w.before ([.int u0] : List Value).toArray s = true := fun w h => hts w (List.mem_cons_of_mem _ h)
  have hown : s.vm.findClass RX5 = some m.cls := findClass_of_methodNamed B.named
  have hlocks := B.notSynchronized
  have hN := hK.2
  subst hsz
  have hD := hD0.self (sz := s.heap.size)
  generalize hAe : va_A (wl ([] : List va_W)) s.heap.size = A at hD ⊢
  have hA : ∀ q : Nat, s.heap.size ≤ q → A q := fun q h => by rw [← hAe]; exact Or.inr h
  have hS : va_S A s.heap s.heap [] := va_S.rf
  have hl := lv_entry ([.int u0]) (n := 1) (Nat.le_of_ble_eq_true rfl)
  rw [lg_entry_eq]
  generalize (lg_sl ([.int u0]) ++ List.replicate (1 - (lg_sl ([.int u0])).length) Slot.unset).toArray = ls at hl ⊢
  have hl : lv_has ls 1 [(0, .int u0)] := hl
  unfold f_X5_isRegister at h
  refine lv_iload_n hx hb dX5_isRegister_0 rfl (lv_at hl 0 rfl) ?_
  refine lv_if_lt (tgt := 14) hx hb dX5_isRegister_1 (by decide) (fun c1 => ?_) (fun c1 => ?_)
  · replace h := og_pos c1 h
    refine lv_iconst (v := (0 : Int32)) hx hb dX5_isRegister_14 (by decide) ?_
    exact W.zret (v := (0 : Int32)) hx hb hr (by decide +kernel) (fun t ht hW => ⟨⟨(0 : Int32), (), rfl, ⟨(congrArg Prod.fst (og_inj h)).symm, (congrArg Prod.snd (og_inj h)).symm⟩, (by rw [ht]; exact hP), hD⟩, hS.F ht⟩) hS.2.2 dX5_isRegister_15
  · replace h := og_neg c1 h
    refine lv_iload_n hx hb dX5_isRegister_4 rfl (lv_at hl 0 rfl) ?_
    refine lv_bipush (v := (16 : Int32)) hx hb dX5_isRegister_5 (by decide) ?_
    refine lv_icmp_ge (tgt := 14) hx hb dX5_isRegister_7 (by decide) (fun c2 => ?_) (fun c2 => ?_)
    · replace h := og_pos c2 h
      refine lv_iconst (v := (0 : Int32)) hx hb dX5_isRegister_14 (by decide) ?_
      exact W.zret (v := (0 : Int32)) hx hb hr (by decide +kernel) (fun t ht hW => ⟨⟨(0 : Int32), (), rfl, ⟨(congrArg Prod.fst (og_inj h)).symm, (congrArg Prod.snd (og_inj h)).symm⟩, (by rw [ht]; exact hP), hD⟩, hS.F ht⟩) hS.2.2 dX5_isRegister_15
    · replace h := og_neg c2 h
      refine lv_iconst (v := (1 : Int32)) hx hb dX5_isRegister_10 (by decide) ?_
      refine lv_goto (tgt := 15) hx hb dX5_isRegister_11 (by decide) ?_
      exact W.zret (v := (1 : Int32)) hx hb hr (by decide +kernel) (fun t ht hW => ⟨⟨(1 : Int32), (), rfl, ⟨(congrArg Prod.fst (og_inj h)).symm, (congrArg Prod.snd (og_inj h)).symm⟩, (by rw [ht]; exact hP), hD⟩, hS.F ht⟩) hS.2.2 dX5_isRegister_15
set_option maxRecDepth 100000 in
set_option maxHeartbeats 8000000 in
theorem k_X5_isDivision (l : Launch) (D : va_G) (cA : Nat → ClassId)  (sz : Nat) (u0 : Int32) (R : Int32 × Unit) (h : f_X5_isDivision u0 = some R) : Met l yX5_isDivision (wsU yX5_isDivision cX5_isDivision 1 (some .boolean)) ({ frames := 0, cells := 0, slots := 0, locals := 0 }) (PcW D cA (wl ([] : List va_W)) sz [.int u0]) (QI D (fun _ : Unit => (wl ([] : List va_W))) R (va_A (wl ([] : List va_W)) sz)) 0 0 (va_A (wl ([] : List va_W)) sz) := by
  refine Met.ofW (cc := cX5_isDivision) (maxL := 1) (ret := (some .boolean)) (by decide) rfl ?_
  intro p e s m args below meth c s₁ B hml hv
  obtain ⟨rfl, hsz, hP, hK, hD0⟩ := hv
  have hx := B.exec
  have hb := B.bytes
  have hr := B.returns
  have hts := atoms_spec (ws := (wsU yX5_isDivision cX5_isDivision 1 (some .boolean))) B.pre
  have hT : ∀ w ∈ wsL_law, w.before ([.int u0] : List Value).toArray s = true := fun w h => hts w (List.mem_cons_of_mem _ h)
  have hown : s.vm.findClass RX5 = some m.cls := findClass_of_methodNamed B.named
  have hlocks := B.notSynchronized
  have hN := hK.2
  subst hsz
  have hD := hD0.self (sz := s.heap.size)
  generalize hAe : va_A (wl ([] : List va_W)) s.heap.size = A at hD ⊢
  have hA : ∀ q : Nat, s.heap.size ≤ q → A q := fun q h => by rw [← hAe]; exact Or.inr h
  have hS : va_S A s.heap s.heap [] := va_S.rf
  have hl := lv_entry ([.int u0]) (n := 1) (Nat.le_of_ble_eq_true rfl)
  rw [lg_entry_eq]
  generalize (lg_sl ([.int u0]) ++ List.replicate (1 - (lg_sl ([.int u0])).length) Slot.unset).toArray = ls at hl ⊢
  have hl : lv_has ls 1 [(0, .int u0)] := hl
  unfold f_X5_isDivision at h
  refine lv_iload_n hx hb dX5_isDivision_0 rfl (lv_at hl 0 rfl) ?_
  refine lv_bipush (v := (12 : Int32)) hx hb dX5_isDivision_1 (by decide) ?_
  refine lv_icmp_lt (tgt := 16) hx hb dX5_isDivision_3 (by decide) (fun c1 => ?_) (fun c1 => ?_)
  · replace h := og_pos c1 h
    refine lv_iconst (v := (0 : Int32)) hx hb dX5_isDivision_16 (by decide) ?_
    exact W.zret (v := (0 : Int32)) hx hb hr (by decide +kernel) (fun t ht hW => ⟨⟨(0 : Int32), (), rfl, ⟨(congrArg Prod.fst (og_inj h)).symm, (congrArg Prod.snd (og_inj h)).symm⟩, (by rw [ht]; exact hP), hD⟩, hS.F ht⟩) hS.2.2 dX5_isDivision_17
  · replace h := og_neg c1 h
    refine lv_iload_n hx hb dX5_isDivision_6 rfl (lv_at hl 0 rfl) ?_
    refine lv_bipush (v := (15 : Int32)) hx hb dX5_isDivision_7 (by decide) ?_
    refine lv_icmp_gt (tgt := 16) hx hb dX5_isDivision_9 (by decide) (fun c2 => ?_) (fun c2 => ?_)
    · replace h := og_pos c2 h
      refine lv_iconst (v := (0 : Int32)) hx hb dX5_isDivision_16 (by decide) ?_
      exact W.zret (v := (0 : Int32)) hx hb hr (by decide +kernel) (fun t ht hW => ⟨⟨(0 : Int32), (), rfl, ⟨(congrArg Prod.fst (og_inj h)).symm, (congrArg Prod.snd (og_inj h)).symm⟩, (by rw [ht]; exact hP), hD⟩, hS.F ht⟩) hS.2.2 dX5_isDivision_17
    · replace h := og_neg c2 h
      refine lv_iconst (v := (1 : Int32)) hx hb dX5_isDivision_12 (by decide) ?_
      refine lv_goto (tgt := 17) hx hb dX5_isDivision_13 (by decide) ?_
      exact W.zret (v := (1 : Int32)) hx hb hr (by decide +kernel) (fun t ht hW => ⟨⟨(1 : Int32), (), rfl, ⟨(congrArg Prod.fst (og_inj h)).symm, (congrArg Prod.snd (og_inj h)).symm⟩, (by rw [ht]; exact hP), hD⟩, hS.F ht⟩) hS.2.2 dX5_isDivision_17
set_option maxRecDepth 100000 in
set_option maxHeartbeats 8000000 in
theorem k_X5_isBelow (l : Launch) (D : va_G) (cA : Nat → ClassId)  (sz : Nat) (u0 : Int32) (u1 : Int32) (R : Int32 × Unit) (h : f_X5_isBelow u0 u1 = some R) : Met l yX5_isBelow (wsU yX5_isBelow cX5_isBelow 2 (some .boolean)) ({ frames := 0, cells := 0, slots := 0, locals := 0 }) (PcW D cA (wl ([] : List va_W)) sz [.int u0, .int u1]) (QI D (fun _ : Unit => (wl ([] : List va_W))) R (va_A (wl ([] : List va_W)) sz)) 0 0 (va_A (wl ([] : List va_W)) sz) := by
  refine Met.ofW (cc := cX5_isBelow) (maxL := 2) (ret := (some .boolean)) (by decide) rfl ?_
  intro p e s m args below meth c s₁ B hml hv
  obtain ⟨rfl, hsz, hP, hK, hD0⟩ := hv
  have hx := B.exec
  have hb := B.bytes
  have hr := B.returns
  have hts := atoms_spec (ws := (wsU yX5_isBelow cX5_isBelow 2 (some .boolean))) B.pre
  have hT : ∀ w ∈ wsL_law, w.before ([.int u0, .int u1] : List Value).toArray s = true := fun w h => hts w (List.mem_cons_of_mem _ h)
  have hown : s.vm.findClass RX5 = some m.cls := findClass_of_methodNamed B.named
  have hlocks := B.notSynchronized
  have hN := hK.2
  subst hsz
  have hD := hD0.self (sz := s.heap.size)
  generalize hAe : va_A (wl ([] : List va_W)) s.heap.size = A at hD ⊢
  have hA : ∀ q : Nat, s.heap.size ≤ q → A q := fun q h => by rw [← hAe]; exact Or.inr h
  have hS : va_S A s.heap s.heap [] := va_S.rf
  have hl := lv_entry ([.int u0, .int u1]) (n := 2) (Nat.le_of_ble_eq_true rfl)
  rw [lg_entry_eq]
  generalize (lg_sl ([.int u0, .int u1]) ++ List.replicate (2 - (lg_sl ([.int u0, .int u1])).length) Slot.unset).toArray = ls at hl ⊢
  have hl : lv_has ls 2 [(0, .int u0), (1, .int u1)] := hl
  unfold f_X5_isBelow at h
  refine lv_iload_n hx hb dX5_isBelow_0 rfl (lv_at hl 0 rfl) ?_
  refine lv_ldc (v := (-2147483648 : Int32)) hx hb hown (hT _ ki_RX5_121) dX5_isBelow_1 ?_
  refine lv_iadd hx hb dX5_isBelow_3 ?_
  refine lv_iload_n hx hb dX5_isBelow_4 rfl (lv_at hl 1 rfl) ?_
  refine lv_ldc (v := (-2147483648 : Int32)) hx hb hown (hT _ ki_RX5_121) dX5_isBelow_5 ?_
  refine lv_iadd hx hb dX5_isBelow_7 ?_
  refine lv_icmp_ge (tgt := 15) hx hb dX5_isBelow_8 (by decide) (fun c1 => ?_) (fun c1 => ?_)
  · replace h := og_pos c1 h
    refine lv_iconst (v := (0 : Int32)) hx hb dX5_isBelow_15 (by decide) ?_
    exact W.zret (v := (0 : Int32)) hx hb hr (by decide +kernel) (fun t ht hW => ⟨⟨(0 : Int32), (), rfl, ⟨(congrArg Prod.fst (og_inj h)).symm, (congrArg Prod.snd (og_inj h)).symm⟩, (by rw [ht]; exact hP), hD⟩, hS.F ht⟩) hS.2.2 dX5_isBelow_16
  · replace h := og_neg c1 h
    refine lv_iconst (v := (1 : Int32)) hx hb dX5_isBelow_11 (by decide) ?_
    refine lv_goto (tgt := 16) hx hb dX5_isBelow_12 (by decide) ?_
    exact W.zret (v := (1 : Int32)) hx hb hr (by decide +kernel) (fun t ht hW => ⟨⟨(1 : Int32), (), rfl, ⟨(congrArg Prod.fst (og_inj h)).symm, (congrArg Prod.snd (og_inj h)).symm⟩, (by rw [ht]; exact hP), hD⟩, hS.F ht⟩) hS.2.2 dX5_isBelow_16
set_option maxRecDepth 100000 in
set_option maxHeartbeats 8000000 in
theorem k_X5_plain (l : Launch) (D : va_G) (cA : Nat → ClassId)  (sz : Nat) (u0 : Int32) (R : Int64 × Unit) (h : f_X5_plain u0 = some R) : Met l yX5_plain (wsU yX5_plain cX5_plain 1 (some .long)) ({ frames := 0, cells := 0, slots := 0, locals := 0 }) (PcW D cA (wl ([] : List va_W)) sz [.int u0]) (QL D (fun _ : Unit => (wl ([] : List va_W))) R (va_A (wl ([] : List va_W)) sz)) 0 0 (va_A (wl ([] : List va_W)) sz) := by
  refine Met.ofW (cc := cX5_plain) (maxL := 1) (ret := (some .long)) (by decide) rfl ?_
  intro p e s m args below meth c s₁ B hml hv
  obtain ⟨rfl, hsz, hP, hK, hD0⟩ := hv
  have hx := B.exec
  have hb := B.bytes
  have hr := B.returns
  have hts := atoms_spec (ws := (wsU yX5_plain cX5_plain 1 (some .long))) B.pre
  have hT : ∀ w ∈ wsL_law, w.before ([.int u0] : List Value).toArray s = true := fun w h => hts w (List.mem_cons_of_mem _ h)
  have hown : s.vm.findClass RX5 = some m.cls := findClass_of_methodNamed B.named
  have hlocks := B.notSynchronized
  have hN := hK.2
  subst hsz
  have hD := hD0.self (sz := s.heap.size)
  generalize hAe : va_A (wl ([] : List va_W)) s.heap.size = A at hD ⊢
  have hA : ∀ q : Nat, s.heap.size ≤ q → A q := fun q h => by rw [← hAe]; exact Or.inr h
  have hS : va_S A s.heap s.heap [] := va_S.rf
  have hl := lv_entry ([.int u0]) (n := 1) (Nat.le_of_ble_eq_true rfl)
  rw [lg_entry_eq]
  generalize (lg_sl ([.int u0]) ++ List.replicate (1 - (lg_sl ([.int u0])).length) Slot.unset).toArray = ls at hl ⊢
  have hl : lv_has ls 1 [(0, .int u0)] := hl
  unfold f_X5_plain at h
  refine lv_iload_n hx hb dX5_plain_0 rfl (lv_at hl 0 rfl) ?_
  refine lv_i2l (v := u0.toInt64) hx hb dX5_plain_1 rfl ?_
  refine lv_ldc2 (v := (4294967295 : Int64)) hx hb hown (hT _ kl_RX5_122) dX5_plain_2 ?_
  refine lv_land hx hb dX5_plain_5 ?_
  exact W.lret (v := (u0.toInt64 &&& (4294967295 : Int64))) hx hb hr (fun t ht hW => ⟨⟨(u0.toInt64 &&& (4294967295 : Int64)), (), rfl, ⟨(congrArg Prod.fst (og_inj h)).symm, (congrArg Prod.snd (og_inj h)).symm⟩, (by rw [ht]; exact hP), hD⟩, hS.F ht⟩) hS.2.2 dX5_plain_6
set_option maxRecDepth 100000 in
set_option maxHeartbeats 8000000 in
theorem k_X5_truth (l : Launch) (D : va_G) (cA : Nat → ClassId)  (sz : Nat) (u0 : Int32) (R : Int32 × Unit) (h : f_X5_truth u0 = some R) : Met l yX5_truth (wsU yX5_truth cX5_truth 1 (some .int)) ({ frames := 0, cells := 0, slots := 0, locals := 0 }) (PcW D cA (wl ([] : List va_W)) sz [.int u0]) (QI D (fun _ : Unit => (wl ([] : List va_W))) R (va_A (wl ([] : List va_W)) sz)) 0 0 (va_A (wl ([] : List va_W)) sz) := by
  refine Met.ofW (cc := cX5_truth) (maxL := 1) (ret := (some .int)) (by decide) rfl ?_
  intro p e s m args below meth c s₁ B hml hv
  obtain ⟨rfl, hsz, hP, hK, hD0⟩ := hv
  have hx := B.exec
  have hb := B.bytes
  have hr := B.returns
  have hts := atoms_spec (ws := (wsU yX5_truth cX5_truth 1 (some .int))) B.pre
  have hT : ∀ w ∈ wsL_law, w.before ([.int u0] : List Value).toArray s = true := fun w h => hts w (List.mem_cons_of_mem _ h)
  have hown : s.vm.findClass RX5 = some m.cls := findClass_of_methodNamed B.named
  have hlocks := B.notSynchronized
  have hN := hK.2
  subst hsz
  have hD := hD0.self (sz := s.heap.size)
  generalize hAe : va_A (wl ([] : List va_W)) s.heap.size = A at hD ⊢
  have hA : ∀ q : Nat, s.heap.size ≤ q → A q := fun q h => by rw [← hAe]; exact Or.inr h
  have hS : va_S A s.heap s.heap [] := va_S.rf
  have hl := lv_entry ([.int u0]) (n := 1) (Nat.le_of_ble_eq_true rfl)
  rw [lg_entry_eq]
  generalize (lg_sl ([.int u0]) ++ List.replicate (1 - (lg_sl ([.int u0])).length) Slot.unset).toArray = ls at hl ⊢
  have hl : lv_has ls 1 [(0, .int u0)] := hl
  unfold f_X5_truth at h
  refine lv_iload_n hx hb dX5_truth_0 rfl (lv_at hl 0 rfl) ?_
  refine lv_if_eq (tgt := 8) hx hb dX5_truth_1 (by decide) (fun c1 => ?_) (fun c1 => ?_)
  · replace h := og_pos c1 h
    refine lv_iconst (v := (0 : Int32)) hx hb dX5_truth_8 (by decide) ?_
    exact W.iret (v := (0 : Int32)) hx hb hr (fun t ht hW => ⟨⟨(0 : Int32), (), rfl, ⟨(congrArg Prod.fst (og_inj h)).symm, (congrArg Prod.snd (og_inj h)).symm⟩, (by rw [ht]; exact hP), hD⟩, hS.F ht⟩) hS.2.2 dX5_truth_9
  · replace h := og_neg c1 h
    refine lv_iconst (v := (1 : Int32)) hx hb dX5_truth_4 (by decide) ?_
    refine lv_goto (tgt := 9) hx hb dX5_truth_5 (by decide) ?_
    exact W.iret (v := (1 : Int32)) hx hb hr (fun t ht hW => ⟨⟨(1 : Int32), (), rfl, ⟨(congrArg Prod.fst (og_inj h)).symm, (congrArg Prod.snd (og_inj h)).symm⟩, (by rw [ht]; exact hP), hD⟩, hS.F ht⟩) hS.2.2 dX5_truth_9
set_option maxRecDepth 100000 in
set_option maxHeartbeats 8000000 in
theorem k_X5_reckoned (l : Launch) (D : va_G) (cA : Nat → ClassId)  (sz : Nat) (u0 : Int32) (u1 : Int32) (u2 : Int32) (R : Int32 × Unit) (h : f_X5_reckoned u0 u1 u2 = some R) : Met l yX5_reckoned (wsU yX5_reckoned cX5_reckoned 3 (some .int)) ({ frames := 1, cells := 0, slots := 0, locals := 21 }) (PcW D cA (wl ([] : List va_W)) sz [.int u0, .int u1, .int u2]) (QI D (fun _ : Unit => (wl ([] : List va_W))) R (va_A (wl ([] : List va_W)) sz)) 0 0 (va_A (wl ([] : List va_W)) sz) := by
  refine Met.ofW (cc := cX5_reckoned) (maxL := 3) (ret := (some .int)) (by decide) rfl ?_
  intro p e s m args below meth c s₁ B hml hv
  obtain ⟨rfl, hsz, hP, hK, hD0⟩ := hv
  have hx := B.exec
  have hb := B.bytes
  have hr := B.returns
  have hts := atoms_spec (ws := (wsU yX5_reckoned cX5_reckoned 3 (some .int))) B.pre
  have hT : ∀ w ∈ wsL_law, w.before ([.int u0, .int u1, .int u2] : List Value).toArray s = true := fun w h => hts w (List.mem_cons_of_mem _ h)
  have hown : s.vm.findClass RX5 = some m.cls := findClass_of_methodNamed B.named
  have hlocks := B.notSynchronized
  have hN := hK.2
  subst hsz
  have hD := hD0.self (sz := s.heap.size)
  generalize hAe : va_A (wl ([] : List va_W)) s.heap.size = A at hD ⊢
  have hA : ∀ q : Nat, s.heap.size ≤ q → A q := fun q h => by rw [← hAe]; exact Or.inr h
  have hS : va_S A s.heap s.heap [] := va_S.rf
  have hl := lv_entry ([.int u0, .int u1, .int u2]) (n := 3) (Nat.le_of_ble_eq_true rfl)
  rw [lg_entry_eq]
  generalize (lg_sl ([.int u0, .int u1, .int u2]) ++ List.replicate (3 - (lg_sl ([.int u0, .int u1, .int u2])).length) Slot.unset).toArray = ls at hl ⊢
  have hl : lv_has ls 3 [(0, .int u0), (1, .int u1), (2, .int u2)] := hl
  have b292 : ∀ (y0 : Int32) (H : Heap) (locs : List Loc) (ls : Array Slot), f_X5_reckoned_b292 y0 = some R → va_P D vwCl (wl ([] : List va_W)) H → va_D A (wl ([] : List va_W)) → va_S A s.heap H locs → lv_has ls 3 [] → W p l e (headSpec (wsU yX5_reckoned cX5_reckoned 3 (some .int)) ({ frames := 1, cells := 0, slots := 0, locals := 21 })).room s m ([.int u0, .int u1, .int u2] : List Value).toArray below meth c H locs 0 0 (MQ below (QI D (fun _ : Unit => (wl ([] : List va_W))) R A) ([.int u0, .int u1, .int u2] : List Value).toArray s 0 0 A) (F0 m 292 ls [.int y0]) := by
    intro y0 H locs ls h hP hD hS hl
    unfold f_X5_reckoned_b292 at h
    obtain ⟨⟨r1, _u1⟩, e1, h⟩ := og_bind h
    try dsimp only at h
    refine gc_i (ws := (wl ([] : List va_W))) (wc := (wl ([] : List va_W))) (wr := (wl ([] : List va_W))) (ws' := (wl ([] : List va_W))) (va_runS (As := [.int y0]) (rest := []) ⟨hx, hb, hml, hown, hT⟩ (k_X5_truth l D cA  H.size y0  _ e1) (cwS 1 hT gs_RX5_128 rfl rfl rfl (by decide +kernel) ⟨Nat.le_of_ble_eq_true rfl, Nat.le_of_ble_eq_true rfl⟩) (pre_S (wr := (wl ([] : List va_W))) (pm (f := fun i => ([] : List va_W).getD i []) [] [] [] (by decide)) hK hP hD) rfl rfl hl.1 rfl (lv_room (Nat.le_of_ble_eq_true rfl)) dX5_reckoned_292 ⟨Nat.le_refl _, Nat.le_refl _⟩) (pm (f := fun i => ([] : List va_W).getD i []) [] [] [] (by decide)) hP hD hS hA (pm (f := fun i => ([] : List va_W).getD i []) [] [] [] (by decide)) (fun H locs hP hD hS => ?_)
    exact W.iret (v := r1) hx hb hr (fun t ht hW => ⟨⟨r1, (), rfl, ⟨(congrArg Prod.fst (og_inj h)).symm, (congrArg Prod.snd (og_inj h)).symm⟩, (by rw [ht]; exact hP), hD⟩, hS.F ht⟩) hS.2.2 dX5_reckoned_295
  have b278 : ∀ (y0 : Int32) (H : Heap) (locs : List Loc) (ls : Array Slot), f_X5_reckoned_b278 y0 = some R → va_P D vwCl (wl ([] : List va_W)) H → va_D A (wl ([] : List va_W)) → va_S A s.heap H locs → lv_has ls 3 [] → W p l e (headSpec (wsU yX5_reckoned cX5_reckoned 3 (some .int)) ({ frames := 1, cells := 0, slots := 0, locals := 21 })).room s m ([.int u0, .int u1, .int u2] : List Value).toArray below meth c H locs 0 0 (MQ below (QI D (fun _ : Unit => (wl ([] : List va_W))) R A) ([.int u0, .int u1, .int u2] : List Value).toArray s 0 0 A) (F0 m 278 ls [.int y0]) := by
    intro y0 H locs ls h hP hD hS hl
    unfold f_X5_reckoned_b278 at h
    obtain ⟨⟨r2, _u2⟩, e2, h⟩ := og_bind h
    try dsimp only at h
    refine gc_i (ws := (wl ([] : List va_W))) (wc := (wl ([] : List va_W))) (wr := (wl ([] : List va_W))) (ws' := (wl ([] : List va_W))) (va_runS (As := [.int y0]) (rest := []) ⟨hx, hb, hml, hown, hT⟩ (k_X5_truth l D cA  H.size y0  _ e2) (cwS 1 hT gs_RX5_128 rfl rfl rfl (by decide +kernel) ⟨Nat.le_of_ble_eq_true rfl, Nat.le_of_ble_eq_true rfl⟩) (pre_S (wr := (wl ([] : List va_W))) (pm (f := fun i => ([] : List va_W).getD i []) [] [] [] (by decide)) hK hP hD) rfl rfl hl.1 rfl (lv_room (Nat.le_of_ble_eq_true rfl)) dX5_reckoned_278 ⟨Nat.le_refl _, Nat.le_refl _⟩) (pm (f := fun i => ([] : List va_W).getD i []) [] [] [] (by decide)) hP hD hS hA (pm (f := fun i => ([] : List va_W).getD i []) [] [] [] (by decide)) (fun H locs hP hD hS => ?_)
    exact W.iret (v := r2) hx hb hr (fun t ht hW => ⟨⟨r2, (), rfl, ⟨(congrArg Prod.fst (og_inj h)).symm, (congrArg Prod.snd (og_inj h)).symm⟩, (by rw [ht]; exact hP), hD⟩, hS.F ht⟩) hS.2.2 dX5_reckoned_281
  have b264 : ∀ (y0 : Int32) (H : Heap) (locs : List Loc) (ls : Array Slot), f_X5_reckoned_b264 y0 = some R → va_P D vwCl (wl ([] : List va_W)) H → va_D A (wl ([] : List va_W)) → va_S A s.heap H locs → lv_has ls 3 [] → W p l e (headSpec (wsU yX5_reckoned cX5_reckoned 3 (some .int)) ({ frames := 1, cells := 0, slots := 0, locals := 21 })).room s m ([.int u0, .int u1, .int u2] : List Value).toArray below meth c H locs 0 0 (MQ below (QI D (fun _ : Unit => (wl ([] : List va_W))) R A) ([.int u0, .int u1, .int u2] : List Value).toArray s 0 0 A) (F0 m 264 ls [.int y0]) := by
    intro y0 H locs ls h hP hD hS hl
    unfold f_X5_reckoned_b264 at h
    obtain ⟨⟨r3, _u3⟩, e3, h⟩ := og_bind h
    try dsimp only at h
    refine gc_i (ws := (wl ([] : List va_W))) (wc := (wl ([] : List va_W))) (wr := (wl ([] : List va_W))) (ws' := (wl ([] : List va_W))) (va_runS (As := [.int y0]) (rest := []) ⟨hx, hb, hml, hown, hT⟩ (k_X5_truth l D cA  H.size y0  _ e3) (cwS 1 hT gs_RX5_128 rfl rfl rfl (by decide +kernel) ⟨Nat.le_of_ble_eq_true rfl, Nat.le_of_ble_eq_true rfl⟩) (pre_S (wr := (wl ([] : List va_W))) (pm (f := fun i => ([] : List va_W).getD i []) [] [] [] (by decide)) hK hP hD) rfl rfl hl.1 rfl (lv_room (Nat.le_of_ble_eq_true rfl)) dX5_reckoned_264 ⟨Nat.le_refl _, Nat.le_refl _⟩) (pm (f := fun i => ([] : List va_W).getD i []) [] [] [] (by decide)) hP hD hS hA (pm (f := fun i => ([] : List va_W).getD i []) [] [] [] (by decide)) (fun H locs hP hD hS => ?_)
    exact W.iret (v := r3) hx hb hr (fun t ht hW => ⟨⟨r3, (), rfl, ⟨(congrArg Prod.fst (og_inj h)).symm, (congrArg Prod.snd (og_inj h)).symm⟩, (by rw [ht]; exact hP), hD⟩, hS.F ht⟩) hS.2.2 dX5_reckoned_267
  have b238 : ∀ (y0 : Int32) (H : Heap) (locs : List Loc) (ls : Array Slot), f_X5_reckoned_b238 y0 = some R → va_P D vwCl (wl ([] : List va_W)) H → va_D A (wl ([] : List va_W)) → va_S A s.heap H locs → lv_has ls 3 [] → W p l e (headSpec (wsU yX5_reckoned cX5_reckoned 3 (some .int)) ({ frames := 1, cells := 0, slots := 0, locals := 21 })).room s m ([.int u0, .int u1, .int u2] : List Value).toArray below meth c H locs 0 0 (MQ below (QI D (fun _ : Unit => (wl ([] : List va_W))) R A) ([.int u0, .int u1, .int u2] : List Value).toArray s 0 0 A) (F0 m 238 ls [.int y0]) := by
    intro y0 H locs ls h hP hD hS hl
    unfold f_X5_reckoned_b238 at h
    obtain ⟨⟨r4, _u4⟩, e4, h⟩ := og_bind h
    try dsimp only at h
    refine gc_i (ws := (wl ([] : List va_W))) (wc := (wl ([] : List va_W))) (wr := (wl ([] : List va_W))) (ws' := (wl ([] : List va_W))) (va_runS (As := [.int y0]) (rest := []) ⟨hx, hb, hml, hown, hT⟩ (k_X5_truth l D cA  H.size y0  _ e4) (cwS 1 hT gs_RX5_128 rfl rfl rfl (by decide +kernel) ⟨Nat.le_of_ble_eq_true rfl, Nat.le_of_ble_eq_true rfl⟩) (pre_S (wr := (wl ([] : List va_W))) (pm (f := fun i => ([] : List va_W).getD i []) [] [] [] (by decide)) hK hP hD) rfl rfl hl.1 rfl (lv_room (Nat.le_of_ble_eq_true rfl)) dX5_reckoned_238 ⟨Nat.le_refl _, Nat.le_refl _⟩) (pm (f := fun i => ([] : List va_W).getD i []) [] [] [] (by decide)) hP hD hS hA (pm (f := fun i => ([] : List va_W).getD i []) [] [] [] (by decide)) (fun H locs hP hD hS => ?_)
    exact W.iret (v := r4) hx hb hr (fun t ht hW => ⟨⟨r4, (), rfl, ⟨(congrArg Prod.fst (og_inj h)).symm, (congrArg Prod.snd (og_inj h)).symm⟩, (by rw [ht]; exact hP), hD⟩, hS.F ht⟩) hS.2.2 dX5_reckoned_241
  have b224 : ∀ (y0 : Int32) (H : Heap) (locs : List Loc) (ls : Array Slot), f_X5_reckoned_b224 y0 = some R → va_P D vwCl (wl ([] : List va_W)) H → va_D A (wl ([] : List va_W)) → va_S A s.heap H locs → lv_has ls 3 [] → W p l e (headSpec (wsU yX5_reckoned cX5_reckoned 3 (some .int)) ({ frames := 1, cells := 0, slots := 0, locals := 21 })).room s m ([.int u0, .int u1, .int u2] : List Value).toArray below meth c H locs 0 0 (MQ below (QI D (fun _ : Unit => (wl ([] : List va_W))) R A) ([.int u0, .int u1, .int u2] : List Value).toArray s 0 0 A) (F0 m 224 ls [.int y0]) := by
    intro y0 H locs ls h hP hD hS hl
    unfold f_X5_reckoned_b224 at h
    obtain ⟨⟨r5, _u5⟩, e5, h⟩ := og_bind h
    try dsimp only at h
    refine gc_i (ws := (wl ([] : List va_W))) (wc := (wl ([] : List va_W))) (wr := (wl ([] : List va_W))) (ws' := (wl ([] : List va_W))) (va_runS (As := [.int y0]) (rest := []) ⟨hx, hb, hml, hown, hT⟩ (k_X5_truth l D cA  H.size y0  _ e5) (cwS 1 hT gs_RX5_128 rfl rfl rfl (by decide +kernel) ⟨Nat.le_of_ble_eq_true rfl, Nat.le_of_ble_eq_true rfl⟩) (pre_S (wr := (wl ([] : List va_W))) (pm (f := fun i => ([] : List va_W).getD i []) [] [] [] (by decide)) hK hP hD) rfl rfl hl.1 rfl (lv_room (Nat.le_of_ble_eq_true rfl)) dX5_reckoned_224 ⟨Nat.le_refl _, Nat.le_refl _⟩) (pm (f := fun i => ([] : List va_W).getD i []) [] [] [] (by decide)) hP hD hS hA (pm (f := fun i => ([] : List va_W).getD i []) [] [] [] (by decide)) (fun H locs hP hD hS => ?_)
    exact W.iret (v := r5) hx hb hr (fun t ht hW => ⟨⟨r5, (), rfl, ⟨(congrArg Prod.fst (og_inj h)).symm, (congrArg Prod.snd (og_inj h)).symm⟩, (by rw [ht]; exact hP), hD⟩, hS.F ht⟩) hS.2.2 dX5_reckoned_227
  unfold f_X5_reckoned at h
  refine lv_iload_n hx hb dX5_reckoned_0 rfl (lv_at hl 0 rfl) ?_
  by_cases c28 : u0 = (3 : Int32)
  · replace h := og_pos c28 h
    refine gs_in (off := 87) (tgt := 88) 3 c28 hx hb dX5_reckoned_1 (by decide +kernel) (by decide) ?_
    refine lv_iload_n hx hb dX5_reckoned_88 rfl (lv_at hl 1 rfl) ?_
    refine lv_iload_n hx hb dX5_reckoned_89 rfl (lv_at hl 2 rfl) ?_
    refine lv_iadd hx hb dX5_reckoned_90 ?_
    exact W.iret (v := (u1 + u2)) hx hb hr (fun t ht hW => ⟨⟨(u1 + u2), (), rfl, ⟨(congrArg Prod.fst (og_inj h)).symm, (congrArg Prod.snd (og_inj h)).symm⟩, (by rw [ht]; exact hP), hD⟩, hS.F ht⟩) hS.2.2 dX5_reckoned_91
  replace h := og_neg c28 h
  by_cases c29 : u0 = (4 : Int32)
  · replace h := og_pos c29 h
    refine gs_in (off := 91) (tgt := 92) 4 c29 hx hb dX5_reckoned_1 (by decide +kernel) (by decide) ?_
    refine lv_iload_n hx hb dX5_reckoned_92 rfl (lv_at hl 1 rfl) ?_
    refine lv_iload_n hx hb dX5_reckoned_93 rfl (lv_at hl 2 rfl) ?_
    refine lv_isub hx hb dX5_reckoned_94 ?_
    exact W.iret (v := (u1 - u2)) hx hb hr (fun t ht hW => ⟨⟨(u1 - u2), (), rfl, ⟨(congrArg Prod.fst (og_inj h)).symm, (congrArg Prod.snd (og_inj h)).symm⟩, (by rw [ht]; exact hP), hD⟩, hS.F ht⟩) hS.2.2 dX5_reckoned_95
  replace h := og_neg c29 h
  by_cases c30 : u0 = (5 : Int32)
  · replace h := og_pos c30 h
    refine gs_in (off := 95) (tgt := 96) 5 c30 hx hb dX5_reckoned_1 (by decide +kernel) (by decide) ?_
    refine lv_iload_n hx hb dX5_reckoned_96 rfl (lv_at hl 1 rfl) ?_
    refine lv_iload_n hx hb dX5_reckoned_97 rfl (lv_at hl 2 rfl) ?_
    refine lv_imul hx hb dX5_reckoned_98 ?_
    exact W.iret (v := (u1 * u2)) hx hb hr (fun t ht hW => ⟨⟨(u1 * u2), (), rfl, ⟨(congrArg Prod.fst (og_inj h)).symm, (congrArg Prod.snd (og_inj h)).symm⟩, (by rw [ht]; exact hP), hD⟩, hS.F ht⟩) hS.2.2 dX5_reckoned_99
  replace h := og_neg c30 h
  by_cases c31 : u0 = (6 : Int32)
  · replace h := og_pos c31 h
    refine gs_in (off := 99) (tgt := 100) 6 c31 hx hb dX5_reckoned_1 (by decide +kernel) (by decide) ?_
    refine lv_iload_n hx hb dX5_reckoned_100 rfl (lv_at hl 1 rfl) ?_
    refine lv_iload_n hx hb dX5_reckoned_101 rfl (lv_at hl 2 rfl) ?_
    refine lv_iand hx hb dX5_reckoned_102 ?_
    exact W.iret (v := (u1 &&& u2)) hx hb hr (fun t ht hW => ⟨⟨(u1 &&& u2), (), rfl, ⟨(congrArg Prod.fst (og_inj h)).symm, (congrArg Prod.snd (og_inj h)).symm⟩, (by rw [ht]; exact hP), hD⟩, hS.F ht⟩) hS.2.2 dX5_reckoned_103
  replace h := og_neg c31 h
  by_cases c32 : u0 = (7 : Int32)
  · replace h := og_pos c32 h
    refine gs_in (off := 103) (tgt := 104) 7 c32 hx hb dX5_reckoned_1 (by decide +kernel) (by decide) ?_
    refine lv_iload_n hx hb dX5_reckoned_104 rfl (lv_at hl 1 rfl) ?_
    refine lv_iload_n hx hb dX5_reckoned_105 rfl (lv_at hl 2 rfl) ?_
    refine lv_ior hx hb dX5_reckoned_106 ?_
    exact W.iret (v := (u1 ||| u2)) hx hb hr (fun t ht hW => ⟨⟨(u1 ||| u2), (), rfl, ⟨(congrArg Prod.fst (og_inj h)).symm, (congrArg Prod.snd (og_inj h)).symm⟩, (by rw [ht]; exact hP), hD⟩, hS.F ht⟩) hS.2.2 dX5_reckoned_107
  replace h := og_neg c32 h
  by_cases c33 : u0 = (8 : Int32)
  · replace h := og_pos c33 h
    refine gs_in (off := 107) (tgt := 108) 8 c33 hx hb dX5_reckoned_1 (by decide +kernel) (by decide) ?_
    refine lv_iload_n hx hb dX5_reckoned_108 rfl (lv_at hl 1 rfl) ?_
    refine lv_iload_n hx hb dX5_reckoned_109 rfl (lv_at hl 2 rfl) ?_
    refine lv_ixor hx hb dX5_reckoned_110 ?_
    exact W.iret (v := (u1 ^^^ u2)) hx hb hr (fun t ht hW => ⟨⟨(u1 ^^^ u2), (), rfl, ⟨(congrArg Prod.fst (og_inj h)).symm, (congrArg Prod.snd (og_inj h)).symm⟩, (by rw [ht]; exact hP), hD⟩, hS.F ht⟩) hS.2.2 dX5_reckoned_111
  replace h := og_neg c33 h
  by_cases c34 : u0 = (9 : Int32)
  · replace h := og_pos c34 h
    refine gs_in (off := 111) (tgt := 112) 9 c34 hx hb dX5_reckoned_1 (by decide +kernel) (by decide) ?_
    refine lv_iload_n hx hb dX5_reckoned_112 rfl (lv_at hl 1 rfl) ?_
    refine lv_iload_n hx hb dX5_reckoned_113 rfl (lv_at hl 2 rfl) ?_
    refine lv_bipush (v := (31 : Int32)) hx hb dX5_reckoned_114 (by decide) ?_
    refine lv_iand hx hb dX5_reckoned_116 ?_
    refine lv_ishl hx hb dX5_reckoned_117 ?_
    exact W.iret (v := (u1 <<< ((u2 &&& (31 : Int32)) &&& 31))) hx hb hr (fun t ht hW => ⟨⟨(u1 <<< ((u2 &&& (31 : Int32)) &&& 31)), (), rfl, ⟨(congrArg Prod.fst (og_inj h)).symm, (congrArg Prod.snd (og_inj h)).symm⟩, (by rw [ht]; exact hP), hD⟩, hS.F ht⟩) hS.2.2 dX5_reckoned_118
  replace h := og_neg c34 h
  by_cases c35 : u0 = (10 : Int32)
  · replace h := og_pos c35 h
    refine gs_in (off := 118) (tgt := 119) 10 c35 hx hb dX5_reckoned_1 (by decide +kernel) (by decide) ?_
    refine lv_iload_n hx hb dX5_reckoned_119 rfl (lv_at hl 1 rfl) ?_
    refine lv_iload_n hx hb dX5_reckoned_120 rfl (lv_at hl 2 rfl) ?_
    refine lv_bipush (v := (31 : Int32)) hx hb dX5_reckoned_121 (by decide) ?_
    refine lv_iand hx hb dX5_reckoned_123 ?_
    refine lv_iushr (v := (u1.toUInt32 >>> ((u2 &&& (31 : Int32)).toUInt32 &&& Int32.toUInt32 31)).toInt32) hx hb dX5_reckoned_124 rfl ?_
    exact W.iret (v := (u1.toUInt32 >>> ((u2 &&& (31 : Int32)).toUInt32 &&& Int32.toUInt32 31)).toInt32) hx hb hr (fun t ht hW => ⟨⟨(u1.toUInt32 >>> ((u2 &&& (31 : Int32)).toUInt32 &&& Int32.toUInt32 31)).toInt32, (), rfl, ⟨(congrArg Prod.fst (og_inj h)).symm, (congrArg Prod.snd (og_inj h)).symm⟩, (by rw [ht]; exact hP), hD⟩, hS.F ht⟩) hS.2.2 dX5_reckoned_125
  replace h := og_neg c35 h
  by_cases c36 : u0 = (11 : Int32)
  · replace h := og_pos c36 h
    refine gs_in (off := 125) (tgt := 126) 11 c36 hx hb dX5_reckoned_1 (by decide +kernel) (by decide) ?_
    refine lv_iload_n hx hb dX5_reckoned_126 rfl (lv_at hl 1 rfl) ?_
    refine lv_iload_n hx hb dX5_reckoned_127 rfl (lv_at hl 2 rfl) ?_
    refine lv_bipush (v := (31 : Int32)) hx hb dX5_reckoned_128 (by decide) ?_
    refine lv_iand hx hb dX5_reckoned_130 ?_
    refine lv_ishr hx hb dX5_reckoned_131 ?_
    exact W.iret (v := (u1 >>> ((u2 &&& (31 : Int32)) &&& 31))) hx hb hr (fun t ht hW => ⟨⟨(u1 >>> ((u2 &&& (31 : Int32)) &&& 31)), (), rfl, ⟨(congrArg Prod.fst (og_inj h)).symm, (congrArg Prod.snd (og_inj h)).symm⟩, (by rw [ht]; exact hP), hD⟩, hS.F ht⟩) hS.2.2 dX5_reckoned_132
  replace h := og_neg c36 h
  by_cases c37 : u0 = (12 : Int32)
  · replace h := og_pos c37 h
    refine gs_in (off := 132) (tgt := 133) 12 c37 hx hb dX5_reckoned_1 (by decide +kernel) (by decide) ?_
    refine lv_iload_n hx hb dX5_reckoned_133 rfl (lv_at hl 2 rfl) ?_
    refine lv_if_ne (tgt := 141) hx hb dX5_reckoned_134 (by decide) (fun c6 => ?_) (fun c6 => ?_)
    · replace h := og_neg c6 h
      refine lv_iload_n hx hb dX5_reckoned_141 rfl (lv_at hl 1 rfl) ?_
      obtain ⟨⟨r7, _u7⟩, e7, h⟩ := og_bind h
      try dsimp only at h
      refine gc_l (ws := (wl ([] : List va_W))) (wc := (wl ([] : List va_W))) (wr := (wl ([] : List va_W))) (ws' := (wl ([] : List va_W))) (va_runS (As := [.int u1]) (rest := []) ⟨hx, hb, hml, hown, hT⟩ (k_X5_plain l D cA  s.heap.size u1  _ e7) (cwS 1 hT gs_RX5_124 rfl rfl rfl (by decide +kernel) ⟨Nat.le_of_ble_eq_true rfl, Nat.le_of_ble_eq_true rfl⟩) (pre_S (wr := (wl ([] : List va_W))) (pm (f := fun i => ([] : List va_W).getD i []) [] [] [] (by decide)) hK hP hD) rfl rfl hl.1 rfl (lv_room (Nat.le_of_ble_eq_true rfl)) dX5_reckoned_142 ⟨Nat.le_refl _, Nat.le_refl _⟩) (pm (f := fun i => ([] : List va_W).getD i []) [] [] [] (by decide)) hP hD hS hA (pm (f := fun i => ([] : List va_W).getD i []) [] [] [] (by decide)) (fun H locs hP hD hS => ?_)
      refine lv_iload_n hx hb dX5_reckoned_145 rfl (lv_at hl 2 rfl) ?_
      obtain ⟨⟨r8, _u8⟩, e8, h⟩ := og_bind h
      try dsimp only at h
      refine gc_l (ws := (wl ([] : List va_W))) (wc := (wl ([] : List va_W))) (wr := (wl ([] : List va_W))) (ws' := (wl ([] : List va_W))) (va_runS (As := [.int u2]) (rest := [.long r7]) ⟨hx, hb, hml, hown, hT⟩ (k_X5_plain l D cA  H.size u2  _ e8) (cwS 1 hT gs_RX5_124 rfl rfl rfl (by decide +kernel) ⟨Nat.le_of_ble_eq_true rfl, Nat.le_of_ble_eq_true rfl⟩) (pre_S (wr := (wl ([] : List va_W))) (pm (f := fun i => ([] : List va_W).getD i []) [] [] [] (by decide)) hK hP hD) rfl rfl hl.1 rfl (lv_room (Nat.le_of_ble_eq_true rfl)) dX5_reckoned_146 ⟨Nat.le_refl _, Nat.le_refl _⟩) (pm (f := fun i => ([] : List va_W).getD i []) [] [] [] (by decide)) hP hD hS hA (pm (f := fun i => ([] : List va_W).getD i []) [] [] [] (by decide)) (fun H locs hP hD hS => ?_)
      obtain ⟨g9, h⟩ := og_guard h
      refine lv_ldiv hx hb dX5_reckoned_149 g9 ?_
      refine lv_l2i (v := (r7 / r8).toInt32) hx hb dX5_reckoned_150 rfl ?_
      exact W.iret (v := (r7 / r8).toInt32) hx hb hr (fun t ht hW => ⟨⟨(r7 / r8).toInt32, (), rfl, ⟨(congrArg Prod.fst (og_inj h)).symm, (congrArg Prod.snd (og_inj h)).symm⟩, (by rw [ht]; exact hP), hD⟩, hS.F ht⟩) hS.2.2 dX5_reckoned_151
    · replace h := og_pos c6 h
      refine lv_iconst (v := (-1 : Int32)) hx hb dX5_reckoned_137 (by decide) ?_
      refine lv_goto (tgt := 151) hx hb dX5_reckoned_138 (by decide) ?_
      exact W.iret (v := (-1 : Int32)) hx hb hr (fun t ht hW => ⟨⟨(-1 : Int32), (), rfl, ⟨(congrArg Prod.fst (og_inj h)).symm, (congrArg Prod.snd (og_inj h)).symm⟩, (by rw [ht]; exact hP), hD⟩, hS.F ht⟩) hS.2.2 dX5_reckoned_151
  replace h := og_neg c37 h
  by_cases c38 : u0 = (13 : Int32)
  · replace h := og_pos c38 h
    refine gs_in (off := 151) (tgt := 152) 13 c38 hx hb dX5_reckoned_1 (by decide +kernel) (by decide) ?_
    refine lv_iload_n hx hb dX5_reckoned_152 rfl (lv_at hl 2 rfl) ?_
    refine lv_if_ne (tgt := 160) hx hb dX5_reckoned_153 (by decide) (fun c10 => ?_) (fun c10 => ?_)
    · replace h := og_neg c10 h
      refine lv_iload_n hx hb dX5_reckoned_160 rfl (lv_at hl 1 rfl) ?_
      obtain ⟨⟨r11, _u11⟩, e11, h⟩ := og_bind h
      try dsimp only at h
      refine gc_l (ws := (wl ([] : List va_W))) (wc := (wl ([] : List va_W))) (wr := (wl ([] : List va_W))) (ws' := (wl ([] : List va_W))) (va_runS (As := [.int u1]) (rest := []) ⟨hx, hb, hml, hown, hT⟩ (k_X5_plain l D cA  s.heap.size u1  _ e11) (cwS 1 hT gs_RX5_124 rfl rfl rfl (by decide +kernel) ⟨Nat.le_of_ble_eq_true rfl, Nat.le_of_ble_eq_true rfl⟩) (pre_S (wr := (wl ([] : List va_W))) (pm (f := fun i => ([] : List va_W).getD i []) [] [] [] (by decide)) hK hP hD) rfl rfl hl.1 rfl (lv_room (Nat.le_of_ble_eq_true rfl)) dX5_reckoned_161 ⟨Nat.le_refl _, Nat.le_refl _⟩) (pm (f := fun i => ([] : List va_W).getD i []) [] [] [] (by decide)) hP hD hS hA (pm (f := fun i => ([] : List va_W).getD i []) [] [] [] (by decide)) (fun H locs hP hD hS => ?_)
      refine lv_iload_n hx hb dX5_reckoned_164 rfl (lv_at hl 2 rfl) ?_
      obtain ⟨⟨r12, _u12⟩, e12, h⟩ := og_bind h
      try dsimp only at h
      refine gc_l (ws := (wl ([] : List va_W))) (wc := (wl ([] : List va_W))) (wr := (wl ([] : List va_W))) (ws' := (wl ([] : List va_W))) (va_runS (As := [.int u2]) (rest := [.long r11]) ⟨hx, hb, hml, hown, hT⟩ (k_X5_plain l D cA  H.size u2  _ e12) (cwS 1 hT gs_RX5_124 rfl rfl rfl (by decide +kernel) ⟨Nat.le_of_ble_eq_true rfl, Nat.le_of_ble_eq_true rfl⟩) (pre_S (wr := (wl ([] : List va_W))) (pm (f := fun i => ([] : List va_W).getD i []) [] [] [] (by decide)) hK hP hD) rfl rfl hl.1 rfl (lv_room (Nat.le_of_ble_eq_true rfl)) dX5_reckoned_165 ⟨Nat.le_refl _, Nat.le_refl _⟩) (pm (f := fun i => ([] : List va_W).getD i []) [] [] [] (by decide)) hP hD hS hA (pm (f := fun i => ([] : List va_W).getD i []) [] [] [] (by decide)) (fun H locs hP hD hS => ?_)
      obtain ⟨g13, h⟩ := og_guard h
      refine lv_lrem hx hb dX5_reckoned_168 g13 ?_
      refine lv_l2i (v := (r11 - r11 / r12 * r12).toInt32) hx hb dX5_reckoned_169 rfl ?_
      exact W.iret (v := (r11 - r11 / r12 * r12).toInt32) hx hb hr (fun t ht hW => ⟨⟨(r11 - r11 / r12 * r12).toInt32, (), rfl, ⟨(congrArg Prod.fst (og_inj h)).symm, (congrArg Prod.snd (og_inj h)).symm⟩, (by rw [ht]; exact hP), hD⟩, hS.F ht⟩) hS.2.2 dX5_reckoned_170
    · replace h := og_pos c10 h
      refine lv_iload_n hx hb dX5_reckoned_156 rfl (lv_at hl 1 rfl) ?_
      refine lv_goto (tgt := 170) hx hb dX5_reckoned_157 (by decide) ?_
      exact W.iret (v := u1) hx hb hr (fun t ht hW => ⟨⟨u1, (), rfl, ⟨(congrArg Prod.fst (og_inj h)).symm, (congrArg Prod.snd (og_inj h)).symm⟩, (by rw [ht]; exact hP), hD⟩, hS.F ht⟩) hS.2.2 dX5_reckoned_170
  replace h := og_neg c38 h
  by_cases c39 : u0 = (14 : Int32)
  · replace h := og_pos c39 h
    refine gs_in (off := 170) (tgt := 171) 14 c39 hx hb dX5_reckoned_1 (by decide +kernel) (by decide) ?_
    refine lv_iload_n hx hb dX5_reckoned_171 rfl (lv_at hl 2 rfl) ?_
    refine lv_if_ne (tgt := 179) hx hb dX5_reckoned_172 (by decide) (fun c14 => ?_) (fun c14 => ?_)
    · replace h := og_neg c14 h
      refine lv_iload_n hx hb dX5_reckoned_179 rfl (lv_at hl 2 rfl) ?_
      refine lv_iconst (v := (-1 : Int32)) hx hb dX5_reckoned_180 (by decide) ?_
      refine lv_icmp_ne (tgt := 189) hx hb dX5_reckoned_181 (by decide) (fun c15 => ?_) (fun c15 => ?_)
      · replace h := og_neg c15 h
        refine lv_iload_n hx hb dX5_reckoned_189 rfl (lv_at hl 1 rfl) ?_
        refine lv_iload_n hx hb dX5_reckoned_190 rfl (lv_at hl 2 rfl) ?_
        obtain ⟨g16, h⟩ := og_guard h
        refine lv_idiv hx hb dX5_reckoned_191 g16 ?_
        exact W.iret (v := (u1 / u2)) hx hb hr (fun t ht hW => ⟨⟨(u1 / u2), (), rfl, ⟨(congrArg Prod.fst (og_inj h)).symm, (congrArg Prod.snd (og_inj h)).symm⟩, (by rw [ht]; exact hP), hD⟩, hS.F ht⟩) hS.2.2 dX5_reckoned_192
      · replace h := og_pos c15 h
        refine lv_iload_n hx hb dX5_reckoned_184 rfl (lv_at hl 1 rfl) ?_
        refine lv_ineg hx hb dX5_reckoned_185 ?_
        refine lv_goto (tgt := 192) hx hb dX5_reckoned_186 (by decide) ?_
        exact W.iret (v := (-u1)) hx hb hr (fun t ht hW => ⟨⟨(-u1), (), rfl, ⟨(congrArg Prod.fst (og_inj h)).symm, (congrArg Prod.snd (og_inj h)).symm⟩, (by rw [ht]; exact hP), hD⟩, hS.F ht⟩) hS.2.2 dX5_reckoned_192
    · replace h := og_pos c14 h
      refine lv_iconst (v := (-1 : Int32)) hx hb dX5_reckoned_175 (by decide) ?_
      refine lv_goto (tgt := 192) hx hb dX5_reckoned_176 (by decide) ?_
      exact W.iret (v := (-1 : Int32)) hx hb hr (fun t ht hW => ⟨⟨(-1 : Int32), (), rfl, ⟨(congrArg Prod.fst (og_inj h)).symm, (congrArg Prod.snd (og_inj h)).symm⟩, (by rw [ht]; exact hP), hD⟩, hS.F ht⟩) hS.2.2 dX5_reckoned_192
  replace h := og_neg c39 h
  by_cases c40 : u0 = (15 : Int32)
  · replace h := og_pos c40 h
    refine gs_in (off := 192) (tgt := 193) 15 c40 hx hb dX5_reckoned_1 (by decide +kernel) (by decide) ?_
    refine lv_iload_n hx hb dX5_reckoned_193 rfl (lv_at hl 2 rfl) ?_
    refine lv_if_ne (tgt := 201) hx hb dX5_reckoned_194 (by decide) (fun c17 => ?_) (fun c17 => ?_)
    · replace h := og_neg c17 h
      refine lv_iload_n hx hb dX5_reckoned_201 rfl (lv_at hl 2 rfl) ?_
      refine lv_iconst (v := (-1 : Int32)) hx hb dX5_reckoned_202 (by decide) ?_
      refine lv_icmp_ne (tgt := 210) hx hb dX5_reckoned_203 (by decide) (fun c18 => ?_) (fun c18 => ?_)
      · replace h := og_neg c18 h
        refine lv_iload_n hx hb dX5_reckoned_210 rfl (lv_at hl 1 rfl) ?_
        refine lv_iload_n hx hb dX5_reckoned_211 rfl (lv_at hl 2 rfl) ?_
        obtain ⟨g19, h⟩ := og_guard h
        refine lv_irem hx hb dX5_reckoned_212 g19 ?_
        exact W.iret (v := (u1 - u1 / u2 * u2)) hx hb hr (fun t ht hW => ⟨⟨(u1 - u1 / u2 * u2), (), rfl, ⟨(congrArg Prod.fst (og_inj h)).symm, (congrArg Prod.snd (og_inj h)).symm⟩, (by rw [ht]; exact hP), hD⟩, hS.F ht⟩) hS.2.2 dX5_reckoned_213
      · replace h := og_pos c18 h
        refine lv_iconst (v := (0 : Int32)) hx hb dX5_reckoned_206 (by decide) ?_
        refine lv_goto (tgt := 213) hx hb dX5_reckoned_207 (by decide) ?_
        exact W.iret (v := (0 : Int32)) hx hb hr (fun t ht hW => ⟨⟨(0 : Int32), (), rfl, ⟨(congrArg Prod.fst (og_inj h)).symm, (congrArg Prod.snd (og_inj h)).symm⟩, (by rw [ht]; exact hP), hD⟩, hS.F ht⟩) hS.2.2 dX5_reckoned_213
    · replace h := og_pos c17 h
      refine lv_iload_n hx hb dX5_reckoned_197 rfl (lv_at hl 1 rfl) ?_
      refine lv_goto (tgt := 213) hx hb dX5_reckoned_198 (by decide) ?_
      exact W.iret (v := u1) hx hb hr (fun t ht hW => ⟨⟨u1, (), rfl, ⟨(congrArg Prod.fst (og_inj h)).symm, (congrArg Prod.snd (og_inj h)).symm⟩, (by rw [ht]; exact hP), hD⟩, hS.F ht⟩) hS.2.2 dX5_reckoned_213
  replace h := og_neg c40 h
  by_cases c41 : u0 = (16 : Int32)
  · replace h := og_pos c41 h
    refine gs_in (off := 213) (tgt := 214) 16 c41 hx hb dX5_reckoned_1 (by decide +kernel) (by decide) ?_
    refine lv_iload_n hx hb dX5_reckoned_214 rfl (lv_at hl 1 rfl) ?_
    refine lv_iload_n hx hb dX5_reckoned_215 rfl (lv_at hl 2 rfl) ?_
    refine lv_icmp_ne (tgt := 223) hx hb dX5_reckoned_216 (by decide) (fun c20 => ?_) (fun c20 => ?_)
    · replace h := og_neg c20 h
      refine lv_iconst (v := (0 : Int32)) hx hb dX5_reckoned_223 (by decide) ?_
      exact b224  _ _ _ _ h hP hD hS (lv_sub hl [] rfl)
    · replace h := og_pos c20 h
      refine lv_iconst (v := (1 : Int32)) hx hb dX5_reckoned_219 (by decide) ?_
      refine lv_goto (tgt := 224) hx hb dX5_reckoned_220 (by decide) ?_
      exact b224  _ _ _ _ h hP hD hS (lv_sub hl [] rfl)
  replace h := og_neg c41 h
  by_cases c42 : u0 = (17 : Int32)
  · replace h := og_pos c42 h
    refine gs_in (off := 227) (tgt := 228) 17 c42 hx hb dX5_reckoned_1 (by decide +kernel) (by decide) ?_
    refine lv_iload_n hx hb dX5_reckoned_228 rfl (lv_at hl 1 rfl) ?_
    refine lv_iload_n hx hb dX5_reckoned_229 rfl (lv_at hl 2 rfl) ?_
    refine lv_icmp_eq (tgt := 237) hx hb dX5_reckoned_230 (by decide) (fun c21 => ?_) (fun c21 => ?_)
    · replace h := og_pos c21 h
      refine lv_iconst (v := (0 : Int32)) hx hb dX5_reckoned_237 (by decide) ?_
      exact b238  _ _ _ _ h hP hD hS (lv_sub hl [] rfl)
    · replace h := og_neg c21 h
      refine lv_iconst (v := (1 : Int32)) hx hb dX5_reckoned_233 (by decide) ?_
      refine lv_goto (tgt := 238) hx hb dX5_reckoned_234 (by decide) ?_
      exact b238  _ _ _ _ h hP hD hS (lv_sub hl [] rfl)
  replace h := og_neg c42 h
  by_cases c43 : u0 = (18 : Int32)
  · replace h := og_pos c43 h
    refine gs_in (off := 241) (tgt := 242) 18 c43 hx hb dX5_reckoned_1 (by decide +kernel) (by decide) ?_
    refine lv_iload_n hx hb dX5_reckoned_242 rfl (lv_at hl 1 rfl) ?_
    refine lv_iload_n hx hb dX5_reckoned_243 rfl (lv_at hl 2 rfl) ?_
    obtain ⟨⟨r22, _u22⟩, e22, h⟩ := og_bind h
    try dsimp only at h
    refine gc_i (ws := (wl ([] : List va_W))) (wc := (wl ([] : List va_W))) (wr := (wl ([] : List va_W))) (ws' := (wl ([] : List va_W))) (va_runS (As := [.int u1, .int u2]) (rest := []) ⟨hx, hb, hml, hown, hT⟩ (k_X5_isBelow l D cA  s.heap.size u1 u2  _ e22) (cwS 2 hT gs_RX5_132 rfl rfl rfl (by decide +kernel) ⟨Nat.le_of_ble_eq_true rfl, Nat.le_of_ble_eq_true rfl⟩) (pre_S (wr := (wl ([] : List va_W))) (pm (f := fun i => ([] : List va_W).getD i []) [] [] [] (by decide)) hK hP hD) rfl rfl hl.1 rfl (lv_room (Nat.le_of_ble_eq_true rfl)) dX5_reckoned_244 ⟨Nat.le_refl _, Nat.le_refl _⟩) (pm (f := fun i => ([] : List va_W).getD i []) [] [] [] (by decide)) hP hD hS hA (pm (f := fun i => ([] : List va_W).getD i []) [] [] [] (by decide)) (fun H locs hP hD hS => ?_)
    obtain ⟨⟨r23, _u23⟩, e23, h⟩ := og_bind h
    try dsimp only at h
    refine gc_i (ws := (wl ([] : List va_W))) (wc := (wl ([] : List va_W))) (wr := (wl ([] : List va_W))) (ws' := (wl ([] : List va_W))) (va_runS (As := [.int r22]) (rest := []) ⟨hx, hb, hml, hown, hT⟩ (k_X5_truth l D cA  H.size r22  _ e23) (cwS 1 hT gs_RX5_128 rfl rfl rfl (by decide +kernel) ⟨Nat.le_of_ble_eq_true rfl, Nat.le_of_ble_eq_true rfl⟩) (pre_S (wr := (wl ([] : List va_W))) (pm (f := fun i => ([] : List va_W).getD i []) [] [] [] (by decide)) hK hP hD) rfl rfl hl.1 rfl (lv_room (Nat.le_of_ble_eq_true rfl)) dX5_reckoned_247 ⟨Nat.le_refl _, Nat.le_refl _⟩) (pm (f := fun i => ([] : List va_W).getD i []) [] [] [] (by decide)) hP hD hS hA (pm (f := fun i => ([] : List va_W).getD i []) [] [] [] (by decide)) (fun H locs hP hD hS => ?_)
    exact W.iret (v := r23) hx hb hr (fun t ht hW => ⟨⟨r23, (), rfl, ⟨(congrArg Prod.fst (og_inj h)).symm, (congrArg Prod.snd (og_inj h)).symm⟩, (by rw [ht]; exact hP), hD⟩, hS.F ht⟩) hS.2.2 dX5_reckoned_250
  replace h := og_neg c43 h
  by_cases c44 : u0 = (19 : Int32)
  · replace h := og_pos c44 h
    refine gs_in (off := 250) (tgt := 251) 19 c44 hx hb dX5_reckoned_1 (by decide +kernel) (by decide) ?_
    refine lv_iload_n hx hb dX5_reckoned_251 rfl (lv_at hl 2 rfl) ?_
    refine lv_iload_n hx hb dX5_reckoned_252 rfl (lv_at hl 1 rfl) ?_
    obtain ⟨⟨r24, _u24⟩, e24, h⟩ := og_bind h
    try dsimp only at h
    refine gc_i (ws := (wl ([] : List va_W))) (wc := (wl ([] : List va_W))) (wr := (wl ([] : List va_W))) (ws' := (wl ([] : List va_W))) (va_runS (As := [.int u2, .int u1]) (rest := []) ⟨hx, hb, hml, hown, hT⟩ (k_X5_isBelow l D cA  s.heap.size u2 u1  _ e24) (cwS 2 hT gs_RX5_132 rfl rfl rfl (by decide +kernel) ⟨Nat.le_of_ble_eq_true rfl, Nat.le_of_ble_eq_true rfl⟩) (pre_S (wr := (wl ([] : List va_W))) (pm (f := fun i => ([] : List va_W).getD i []) [] [] [] (by decide)) hK hP hD) rfl rfl hl.1 rfl (lv_room (Nat.le_of_ble_eq_true rfl)) dX5_reckoned_253 ⟨Nat.le_refl _, Nat.le_refl _⟩) (pm (f := fun i => ([] : List va_W).getD i []) [] [] [] (by decide)) hP hD hS hA (pm (f := fun i => ([] : List va_W).getD i []) [] [] [] (by decide)) (fun H locs hP hD hS => ?_)
    refine lv_if_ne (tgt := 263) hx hb dX5_reckoned_256 (by decide) (fun c25 => ?_) (fun c25 => ?_)
    · replace h := og_neg c25 h
      refine lv_iconst (v := (0 : Int32)) hx hb dX5_reckoned_263 (by decide) ?_
      exact b264  _ _ _ _ h hP hD hS (lv_sub hl [] rfl)
    · replace h := og_pos c25 h
      refine lv_iconst (v := (1 : Int32)) hx hb dX5_reckoned_259 (by decide) ?_
      refine lv_goto (tgt := 264) hx hb dX5_reckoned_260 (by decide) ?_
      exact b264  _ _ _ _ h hP hD hS (lv_sub hl [] rfl)
  replace h := og_neg c44 h
  by_cases c45 : u0 = (20 : Int32)
  · replace h := og_pos c45 h
    refine gs_in (off := 267) (tgt := 268) 20 c45 hx hb dX5_reckoned_1 (by decide +kernel) (by decide) ?_
    refine lv_iload_n hx hb dX5_reckoned_268 rfl (lv_at hl 1 rfl) ?_
    refine lv_iload_n hx hb dX5_reckoned_269 rfl (lv_at hl 2 rfl) ?_
    refine lv_icmp_ge (tgt := 277) hx hb dX5_reckoned_270 (by decide) (fun c26 => ?_) (fun c26 => ?_)
    · replace h := og_pos c26 h
      refine lv_iconst (v := (0 : Int32)) hx hb dX5_reckoned_277 (by decide) ?_
      exact b278  _ _ _ _ h hP hD hS (lv_sub hl [] rfl)
    · replace h := og_neg c26 h
      refine lv_iconst (v := (1 : Int32)) hx hb dX5_reckoned_273 (by decide) ?_
      refine lv_goto (tgt := 278) hx hb dX5_reckoned_274 (by decide) ?_
      exact b278  _ _ _ _ h hP hD hS (lv_sub hl [] rfl)
  replace h := og_neg c45 h
  refine lv_tableOut (tgt := 282) hx hb dX5_reckoned_1 (gs_out 18 (by decide) (fun k9 hk9 => ?_)) (by decide) ?_
  · rcases (show k9 = 0 ∨ k9 = 1 ∨ k9 = 2 ∨ k9 = 3 ∨ k9 = 4 ∨ k9 = 5 ∨ k9 = 6 ∨ k9 = 7 ∨ k9 = 8 ∨ k9 = 9 ∨ k9 = 10 ∨ k9 = 11 ∨ k9 = 12 ∨ k9 = 13 ∨ k9 = 14 ∨ k9 = 15 ∨ k9 = 16 ∨ k9 = 17 by omega) with rfl | rfl | rfl | rfl | rfl | rfl | rfl | rfl | rfl | rfl | rfl | rfl | rfl | rfl | rfl | rfl | rfl | rfl
    · exact gs_ne c28 (by decide +kernel)
    · exact gs_ne c29 (by decide +kernel)
    · exact gs_ne c30 (by decide +kernel)
    · exact gs_ne c31 (by decide +kernel)
    · exact gs_ne c32 (by decide +kernel)
    · exact gs_ne c33 (by decide +kernel)
    · exact gs_ne c34 (by decide +kernel)
    · exact gs_ne c35 (by decide +kernel)
    · exact gs_ne c36 (by decide +kernel)
    · exact gs_ne c37 (by decide +kernel)
    · exact gs_ne c38 (by decide +kernel)
    · exact gs_ne c39 (by decide +kernel)
    · exact gs_ne c40 (by decide +kernel)
    · exact gs_ne c41 (by decide +kernel)
    · exact gs_ne c42 (by decide +kernel)
    · exact gs_ne c43 (by decide +kernel)
    · exact gs_ne c44 (by decide +kernel)
    · exact gs_ne c45 (by decide +kernel)
  refine lv_iload_n hx hb dX5_reckoned_282 rfl (lv_at hl 1 rfl) ?_
  refine lv_iload_n hx hb dX5_reckoned_283 rfl (lv_at hl 2 rfl) ?_
  refine lv_icmp_gt (tgt := 291) hx hb dX5_reckoned_284 (by decide) (fun c27 => ?_) (fun c27 => ?_)
  · replace h := og_pos c27 h
    refine lv_iconst (v := (0 : Int32)) hx hb dX5_reckoned_291 (by decide) ?_
    exact b292  _ _ _ _ h hP hD hS (lv_sub hl [] rfl)
  · replace h := og_neg c27 h
    refine lv_iconst (v := (1 : Int32)) hx hb dX5_reckoned_287 (by decide) ?_
    refine lv_goto (tgt := 292) hx hb dX5_reckoned_288 (by decide) ?_
    exact b292  _ _ _ _ h hP hD hS (lv_sub hl [] rfl)
set_option maxRecDepth 100000 in
set_option maxHeartbeats 8000000 in
theorem k_X5_turn7 (l : Launch) (D : va_G) (cA : Nat → ClassId) (aR : Nat → Nat) (K : List Nat) (sz : Nat) (u1 : Int32) (u2 : Int32) (rI : Nat → Int32) (rA : Nat → Nat → Int32) (rG : Nat → Option Nat) (rR : Nat → Nat → Int32) (R : (Nat → Nat → Int32)) (h : f_X5_turn7 K u1 u2 rA = some R) : Met l yX5_turn (wsU yX5_turn cX5_turn 4 none) ({ frames := 0, cells := 0, slots := 0, locals := 0 }) (PcW D cA (wl [gR cA aR rI rA rG] ++ gG cA K rR) sz [.ref (aR 7), .int u1, .int u2]) (QV D (fun u : (Nat → Nat → Int32) => (wl [gR cA aR rI u rG] ++ gG cA K rR)) R (va_A (wl [gR cA aR rI rA rG] ++ gG cA K rR) sz)) 0 0 (va_A (wl [gR cA aR rI rA rG] ++ gG cA K rR) sz) := by
  refine Met.ofW (cc := cX5_turn) (maxL := 4) (ret := none) (by decide) rfl ?_
  intro p e s m args below meth c s₁ B hml hv
  obtain ⟨rfl, hsz, hP, hK, hD0⟩ := hv
  have hx := B.exec
  have hb := B.bytes
  have hr := B.returns
  have hts := atoms_spec (ws := (wsU yX5_turn cX5_turn 4 none)) B.pre
  have hT : ∀ w ∈ wsL_law, w.before ([.ref (aR 7), .int u1, .int u2] : List Value).toArray s = true := fun w h => hts w (List.mem_cons_of_mem _ h)
  have hown : s.vm.findClass RX5 = some m.cls := findClass_of_methodNamed B.named
  have hlocks := B.notSynchronized
  have hN := hK.2
  subst hsz
  have hD := hD0.self (sz := s.heap.size)
  generalize hAe : va_A (wl [gR cA aR rI rA rG] ++ gG cA K rR) s.heap.size = A at hD ⊢
  have hA : ∀ q : Nat, s.heap.size ≤ q → A q := fun q h => by rw [← hAe]; exact Or.inr h
  have hS : va_S A s.heap s.heap [] := va_S.rf
  have hl := lv_entry ([.ref (aR 7), .int u1, .int u2]) (n := 4) (Nat.le_of_ble_eq_true rfl)
  rw [lg_entry_eq]
  generalize (lg_sl ([.ref (aR 7), .int u1, .int u2]) ++ List.replicate (4 - (lg_sl ([.ref (aR 7), .int u1, .int u2])).length) Slot.unset).toArray = ls at hl ⊢
  have hl : lv_has ls 4 [(0, .ref (aR 7)), (1, .int u1), (2, .int u2)] := hl
  unfold f_X5_turn7 at h
  refine lv_aload_n hx hb dX5_turn_0 rfl (lv_at hl 0 rfl) ?_
  refine lv_iload_n hx hb dX5_turn_1 rfl (lv_at hl 1 rfl) ?_
  obtain ⟨g1, h⟩ := og_guard h
  refine va_iald hx hb hK.1 hP 7 0 rfl rfl (inb_vp g1) dX5_turn_2 ?_
  refine lv_istore_n (lv' := [(3, .int (rA 6 u1.toNatClampNeg)), (0, .ref (aR 7)), (1, .int u1), (2, .int u2)]) hx hb dX5_turn_3 rfl hl (by decide) rfl (fun ls hl => ?_)
  refine lv_aload_n hx hb dX5_turn_4 rfl (lv_at hl 1 rfl) ?_
  refine lv_iload_n hx hb dX5_turn_5 rfl (lv_at hl 2 rfl) ?_
  refine lv_aload_n hx hb dX5_turn_6 rfl (lv_at hl 1 rfl) ?_
  refine lv_iload_n hx hb dX5_turn_7 rfl (lv_at hl 3 rfl) ?_
  obtain ⟨g2, h⟩ := og_guard h
  refine va_iald hx hb hK.1 hP 7 0 rfl rfl (inb_vp g2) dX5_turn_8 ?_
  obtain ⟨g3, h⟩ := og_guard h
  refine va_iast hx hb hK.1 hP hD hS 7 0 rfl rfl (inb_vp g3) dX5_turn_9 (fun H locs hP hD hS => ?_)
  have hP : va_P D vwCl (wl [gR cA aR rI (up2 rA 6 u1.toNatClampNeg (rA 6 u2.toNatClampNeg)) rG] ++ gG cA K rR) H := hP
  have hD : va_D A (wl [gR cA aR rI (up2 rA 6 u1.toNatClampNeg (rA 6 u2.toNatClampNeg)) rG] ++ gG cA K rR) := hD
  refine lv_aload_n hx hb dX5_turn_10 rfl (lv_at hl 1 rfl) ?_
  refine lv_iload_n hx hb dX5_turn_11 rfl (lv_at hl 3 rfl) ?_
  refine lv_iload_n hx hb dX5_turn_12 rfl (lv_at hl 0 rfl) ?_
  obtain ⟨rA_5, e6, h⟩ := og_bind h
  rw [← og_inj e6] at hP hD
  obtain ⟨g4, h⟩ := og_guard h
  refine va_iast hx hb hK.1 hP hD hS 7 0 rfl rfl (inb_vp g4) dX5_turn_13 (fun H locs hP hD hS => ?_)
  have hP : va_P D vwCl (wl [gR cA aR rI (up2 rA_5 6 u2.toNatClampNeg (rA 6 u1.toNatClampNeg)) rG] ++ gG cA K rR) H := hP
  have hD : va_D A (wl [gR cA aR rI (up2 rA_5 6 u2.toNatClampNeg (rA 6 u1.toNatClampNeg)) rG] ++ gG cA K rR) := hD
  exact W.vret hx hb hr (fun t ht hW => ⟨⟨((up2 rA_5 6 u2.toNatClampNeg (rA 6 u1.toNatClampNeg))), rfl, (og_inj h).symm, (by rw [ht]; exact hP), hD⟩, hS.F ht⟩) hS.2.2 dX5_turn_14
set_option maxRecDepth 100000 in
set_option maxHeartbeats 8000000 in
theorem k_X5_turn8 (l : Launch) (D : va_G) (cA : Nat → ClassId) (aR : Nat → Nat) (K : List Nat) (sz : Nat) (u1 : Int32) (u2 : Int32) (rI : Nat → Int32) (rA : Nat → Nat → Int32) (rG : Nat → Option Nat) (rR : Nat → Nat → Int32) (R : (Nat → Nat → Int32)) (h : f_X5_turn8 K u1 u2 rA = some R) : Met l yX5_turn (wsU yX5_turn cX5_turn 4 none) ({ frames := 0, cells := 0, slots := 0, locals := 0 }) (PcW D cA (wl [gR cA aR rI rA rG] ++ gG cA K rR) sz [.ref (aR 8), .int u1, .int u2]) (QV D (fun u : (Nat → Nat → Int32) => (wl [gR cA aR rI u rG] ++ gG cA K rR)) R (va_A (wl [gR cA aR rI rA rG] ++ gG cA K rR) sz)) 0 0 (va_A (wl [gR cA aR rI rA rG] ++ gG cA K rR) sz) := by
  refine Met.ofW (cc := cX5_turn) (maxL := 4) (ret := none) (by decide) rfl ?_
  intro p e s m args below meth c s₁ B hml hv
  obtain ⟨rfl, hsz, hP, hK, hD0⟩ := hv
  have hx := B.exec
  have hb := B.bytes
  have hr := B.returns
  have hts := atoms_spec (ws := (wsU yX5_turn cX5_turn 4 none)) B.pre
  have hT : ∀ w ∈ wsL_law, w.before ([.ref (aR 8), .int u1, .int u2] : List Value).toArray s = true := fun w h => hts w (List.mem_cons_of_mem _ h)
  have hown : s.vm.findClass RX5 = some m.cls := findClass_of_methodNamed B.named
  have hlocks := B.notSynchronized
  have hN := hK.2
  subst hsz
  have hD := hD0.self (sz := s.heap.size)
  generalize hAe : va_A (wl [gR cA aR rI rA rG] ++ gG cA K rR) s.heap.size = A at hD ⊢
  have hA : ∀ q : Nat, s.heap.size ≤ q → A q := fun q h => by rw [← hAe]; exact Or.inr h
  have hS : va_S A s.heap s.heap [] := va_S.rf
  have hl := lv_entry ([.ref (aR 8), .int u1, .int u2]) (n := 4) (Nat.le_of_ble_eq_true rfl)
  rw [lg_entry_eq]
  generalize (lg_sl ([.ref (aR 8), .int u1, .int u2]) ++ List.replicate (4 - (lg_sl ([.ref (aR 8), .int u1, .int u2])).length) Slot.unset).toArray = ls at hl ⊢
  have hl : lv_has ls 4 [(0, .ref (aR 8)), (1, .int u1), (2, .int u2)] := hl
  unfold f_X5_turn8 at h
  refine lv_aload_n hx hb dX5_turn_0 rfl (lv_at hl 0 rfl) ?_
  refine lv_iload_n hx hb dX5_turn_1 rfl (lv_at hl 1 rfl) ?_
  obtain ⟨g1, h⟩ := og_guard h
  refine va_iald hx hb hK.1 hP 8 0 rfl rfl (inb_vp g1) dX5_turn_2 ?_
  refine lv_istore_n (lv' := [(3, .int (rA 7 u1.toNatClampNeg)), (0, .ref (aR 8)), (1, .int u1), (2, .int u2)]) hx hb dX5_turn_3 rfl hl (by decide) rfl (fun ls hl => ?_)
  refine lv_aload_n hx hb dX5_turn_4 rfl (lv_at hl 1 rfl) ?_
  refine lv_iload_n hx hb dX5_turn_5 rfl (lv_at hl 2 rfl) ?_
  refine lv_aload_n hx hb dX5_turn_6 rfl (lv_at hl 1 rfl) ?_
  refine lv_iload_n hx hb dX5_turn_7 rfl (lv_at hl 3 rfl) ?_
  obtain ⟨g2, h⟩ := og_guard h
  refine va_iald hx hb hK.1 hP 8 0 rfl rfl (inb_vp g2) dX5_turn_8 ?_
  obtain ⟨g3, h⟩ := og_guard h
  refine va_iast hx hb hK.1 hP hD hS 8 0 rfl rfl (inb_vp g3) dX5_turn_9 (fun H locs hP hD hS => ?_)
  have hP : va_P D vwCl (wl [gR cA aR rI (up2 rA 7 u1.toNatClampNeg (rA 7 u2.toNatClampNeg)) rG] ++ gG cA K rR) H := hP
  have hD : va_D A (wl [gR cA aR rI (up2 rA 7 u1.toNatClampNeg (rA 7 u2.toNatClampNeg)) rG] ++ gG cA K rR) := hD
  refine lv_aload_n hx hb dX5_turn_10 rfl (lv_at hl 1 rfl) ?_
  refine lv_iload_n hx hb dX5_turn_11 rfl (lv_at hl 3 rfl) ?_
  refine lv_iload_n hx hb dX5_turn_12 rfl (lv_at hl 0 rfl) ?_
  obtain ⟨rA_5, e6, h⟩ := og_bind h
  rw [← og_inj e6] at hP hD
  obtain ⟨g4, h⟩ := og_guard h
  refine va_iast hx hb hK.1 hP hD hS 8 0 rfl rfl (inb_vp g4) dX5_turn_13 (fun H locs hP hD hS => ?_)
  have hP : va_P D vwCl (wl [gR cA aR rI (up2 rA_5 7 u2.toNatClampNeg (rA 7 u1.toNatClampNeg)) rG] ++ gG cA K rR) H := hP
  have hD : va_D A (wl [gR cA aR rI (up2 rA_5 7 u2.toNatClampNeg (rA 7 u1.toNatClampNeg)) rG] ++ gG cA K rR) := hD
  exact W.vret hx hb hr (fun t ht hW => ⟨⟨((up2 rA_5 7 u2.toNatClampNeg (rA 7 u1.toNatClampNeg))), rfl, (og_inj h).symm, (by rw [ht]; exact hP), hD⟩, hS.F ht⟩) hS.2.2 dX5_turn_14
set_option maxRecDepth 100000 in
set_option maxHeartbeats 8000000 in
theorem k_X5_turn9 (l : Launch) (D : va_G) (cA : Nat → ClassId) (aR : Nat → Nat) (K : List Nat) (sz : Nat) (u1 : Int32) (u2 : Int32) (rI : Nat → Int32) (rA : Nat → Nat → Int32) (rG : Nat → Option Nat) (rR : Nat → Nat → Int32) (R : (Nat → Nat → Int32)) (h : f_X5_turn9 K u1 u2 rA = some R) : Met l yX5_turn (wsU yX5_turn cX5_turn 4 none) ({ frames := 0, cells := 0, slots := 0, locals := 0 }) (PcW D cA (wl [gR cA aR rI rA rG] ++ gG cA K rR) sz [.ref (aR 9), .int u1, .int u2]) (QV D (fun u : (Nat → Nat → Int32) => (wl [gR cA aR rI u rG] ++ gG cA K rR)) R (va_A (wl [gR cA aR rI rA rG] ++ gG cA K rR) sz)) 0 0 (va_A (wl [gR cA aR rI rA rG] ++ gG cA K rR) sz) := by
  refine Met.ofW (cc := cX5_turn) (maxL := 4) (ret := none) (by decide) rfl ?_
  intro p e s m args below meth c s₁ B hml hv
  obtain ⟨rfl, hsz, hP, hK, hD0⟩ := hv
  have hx := B.exec
  have hb := B.bytes
  have hr := B.returns
  have hts := atoms_spec (ws := (wsU yX5_turn cX5_turn 4 none)) B.pre
  have hT : ∀ w ∈ wsL_law, w.before ([.ref (aR 9), .int u1, .int u2] : List Value).toArray s = true := fun w h => hts w (List.mem_cons_of_mem _ h)
  have hown : s.vm.findClass RX5 = some m.cls := findClass_of_methodNamed B.named
  have hlocks := B.notSynchronized
  have hN := hK.2
  subst hsz
  have hD := hD0.self (sz := s.heap.size)
  generalize hAe : va_A (wl [gR cA aR rI rA rG] ++ gG cA K rR) s.heap.size = A at hD ⊢
  have hA : ∀ q : Nat, s.heap.size ≤ q → A q := fun q h => by rw [← hAe]; exact Or.inr h
  have hS : va_S A s.heap s.heap [] := va_S.rf
  have hl := lv_entry ([.ref (aR 9), .int u1, .int u2]) (n := 4) (Nat.le_of_ble_eq_true rfl)
  rw [lg_entry_eq]
  generalize (lg_sl ([.ref (aR 9), .int u1, .int u2]) ++ List.replicate (4 - (lg_sl ([.ref (aR 9), .int u1, .int u2])).length) Slot.unset).toArray = ls at hl ⊢
  have hl : lv_has ls 4 [(0, .ref (aR 9)), (1, .int u1), (2, .int u2)] := hl
  unfold f_X5_turn9 at h
  refine lv_aload_n hx hb dX5_turn_0 rfl (lv_at hl 0 rfl) ?_
  refine lv_iload_n hx hb dX5_turn_1 rfl (lv_at hl 1 rfl) ?_
  obtain ⟨g1, h⟩ := og_guard h
  refine va_iald hx hb hK.1 hP 9 0 rfl rfl (inb_vp g1) dX5_turn_2 ?_
  refine lv_istore_n (lv' := [(3, .int (rA 8 u1.toNatClampNeg)), (0, .ref (aR 9)), (1, .int u1), (2, .int u2)]) hx hb dX5_turn_3 rfl hl (by decide) rfl (fun ls hl => ?_)
  refine lv_aload_n hx hb dX5_turn_4 rfl (lv_at hl 1 rfl) ?_
  refine lv_iload_n hx hb dX5_turn_5 rfl (lv_at hl 2 rfl) ?_
  refine lv_aload_n hx hb dX5_turn_6 rfl (lv_at hl 1 rfl) ?_
  refine lv_iload_n hx hb dX5_turn_7 rfl (lv_at hl 3 rfl) ?_
  obtain ⟨g2, h⟩ := og_guard h
  refine va_iald hx hb hK.1 hP 9 0 rfl rfl (inb_vp g2) dX5_turn_8 ?_
  obtain ⟨g3, h⟩ := og_guard h
  refine va_iast hx hb hK.1 hP hD hS 9 0 rfl rfl (inb_vp g3) dX5_turn_9 (fun H locs hP hD hS => ?_)
  have hP : va_P D vwCl (wl [gR cA aR rI (up2 rA 8 u1.toNatClampNeg (rA 8 u2.toNatClampNeg)) rG] ++ gG cA K rR) H := hP
  have hD : va_D A (wl [gR cA aR rI (up2 rA 8 u1.toNatClampNeg (rA 8 u2.toNatClampNeg)) rG] ++ gG cA K rR) := hD
  refine lv_aload_n hx hb dX5_turn_10 rfl (lv_at hl 1 rfl) ?_
  refine lv_iload_n hx hb dX5_turn_11 rfl (lv_at hl 3 rfl) ?_
  refine lv_iload_n hx hb dX5_turn_12 rfl (lv_at hl 0 rfl) ?_
  obtain ⟨rA_5, e6, h⟩ := og_bind h
  rw [← og_inj e6] at hP hD
  obtain ⟨g4, h⟩ := og_guard h
  refine va_iast hx hb hK.1 hP hD hS 9 0 rfl rfl (inb_vp g4) dX5_turn_13 (fun H locs hP hD hS => ?_)
  have hP : va_P D vwCl (wl [gR cA aR rI (up2 rA_5 8 u2.toNatClampNeg (rA 8 u1.toNatClampNeg)) rG] ++ gG cA K rR) H := hP
  have hD : va_D A (wl [gR cA aR rI (up2 rA_5 8 u2.toNatClampNeg (rA 8 u1.toNatClampNeg)) rG] ++ gG cA K rR) := hD
  exact W.vret hx hb hr (fun t ht hW => ⟨⟨((up2 rA_5 8 u2.toNatClampNeg (rA 8 u1.toNatClampNeg))), rfl, (og_inj h).symm, (by rw [ht]; exact hP), hD⟩, hS.F ht⟩) hS.2.2 dX5_turn_14
set_option maxRecDepth 100000 in
set_option maxHeartbeats 8000000 in
theorem k_X5_turn10 (l : Launch) (D : va_G) (cA : Nat → ClassId) (aR : Nat → Nat) (K : List Nat) (sz : Nat) (u1 : Int32) (u2 : Int32) (rI : Nat → Int32) (rA : Nat → Nat → Int32) (rG : Nat → Option Nat) (rR : Nat → Nat → Int32) (R : (Nat → Nat → Int32)) (h : f_X5_turn10 K u1 u2 rA = some R) : Met l yX5_turn (wsU yX5_turn cX5_turn 4 none) ({ frames := 0, cells := 0, slots := 0, locals := 0 }) (PcW D cA (wl [gR cA aR rI rA rG] ++ gG cA K rR) sz [.ref (aR 10), .int u1, .int u2]) (QV D (fun u : (Nat → Nat → Int32) => (wl [gR cA aR rI u rG] ++ gG cA K rR)) R (va_A (wl [gR cA aR rI rA rG] ++ gG cA K rR) sz)) 0 0 (va_A (wl [gR cA aR rI rA rG] ++ gG cA K rR) sz) := by
  refine Met.ofW (cc := cX5_turn) (maxL := 4) (ret := none) (by decide) rfl ?_
  intro p e s m args below meth c s₁ B hml hv
  obtain ⟨rfl, hsz, hP, hK, hD0⟩ := hv
  have hx := B.exec
  have hb := B.bytes
  have hr := B.returns
  have hts := atoms_spec (ws := (wsU yX5_turn cX5_turn 4 none)) B.pre
  have hT : ∀ w ∈ wsL_law, w.before ([.ref (aR 10), .int u1, .int u2] : List Value).toArray s = true := fun w h => hts w (List.mem_cons_of_mem _ h)
  have hown : s.vm.findClass RX5 = some m.cls := findClass_of_methodNamed B.named
  have hlocks := B.notSynchronized
  have hN := hK.2
  subst hsz
  have hD := hD0.self (sz := s.heap.size)
  generalize hAe : va_A (wl [gR cA aR rI rA rG] ++ gG cA K rR) s.heap.size = A at hD ⊢
  have hA : ∀ q : Nat, s.heap.size ≤ q → A q := fun q h => by rw [← hAe]; exact Or.inr h
  have hS : va_S A s.heap s.heap [] := va_S.rf
  have hl := lv_entry ([.ref (aR 10), .int u1, .int u2]) (n := 4) (Nat.le_of_ble_eq_true rfl)
  rw [lg_entry_eq]
  generalize (lg_sl ([.ref (aR 10), .int u1, .int u2]) ++ List.replicate (4 - (lg_sl ([.ref (aR 10), .int u1, .int u2])).length) Slot.unset).toArray = ls at hl ⊢
  have hl : lv_has ls 4 [(0, .ref (aR 10)), (1, .int u1), (2, .int u2)] := hl
  unfold f_X5_turn10 at h
  refine lv_aload_n hx hb dX5_turn_0 rfl (lv_at hl 0 rfl) ?_
  refine lv_iload_n hx hb dX5_turn_1 rfl (lv_at hl 1 rfl) ?_
  obtain ⟨g1, h⟩ := og_guard h
  refine va_iald hx hb hK.1 hP 10 0 rfl rfl (inb_vp g1) dX5_turn_2 ?_
  refine lv_istore_n (lv' := [(3, .int (rA 9 u1.toNatClampNeg)), (0, .ref (aR 10)), (1, .int u1), (2, .int u2)]) hx hb dX5_turn_3 rfl hl (by decide) rfl (fun ls hl => ?_)
  refine lv_aload_n hx hb dX5_turn_4 rfl (lv_at hl 1 rfl) ?_
  refine lv_iload_n hx hb dX5_turn_5 rfl (lv_at hl 2 rfl) ?_
  refine lv_aload_n hx hb dX5_turn_6 rfl (lv_at hl 1 rfl) ?_
  refine lv_iload_n hx hb dX5_turn_7 rfl (lv_at hl 3 rfl) ?_
  obtain ⟨g2, h⟩ := og_guard h
  refine va_iald hx hb hK.1 hP 10 0 rfl rfl (inb_vp g2) dX5_turn_8 ?_
  obtain ⟨g3, h⟩ := og_guard h
  refine va_iast hx hb hK.1 hP hD hS 10 0 rfl rfl (inb_vp g3) dX5_turn_9 (fun H locs hP hD hS => ?_)
  have hP : va_P D vwCl (wl [gR cA aR rI (up2 rA 9 u1.toNatClampNeg (rA 9 u2.toNatClampNeg)) rG] ++ gG cA K rR) H := hP
  have hD : va_D A (wl [gR cA aR rI (up2 rA 9 u1.toNatClampNeg (rA 9 u2.toNatClampNeg)) rG] ++ gG cA K rR) := hD
  refine lv_aload_n hx hb dX5_turn_10 rfl (lv_at hl 1 rfl) ?_
  refine lv_iload_n hx hb dX5_turn_11 rfl (lv_at hl 3 rfl) ?_
  refine lv_iload_n hx hb dX5_turn_12 rfl (lv_at hl 0 rfl) ?_
  obtain ⟨rA_5, e6, h⟩ := og_bind h
  rw [← og_inj e6] at hP hD
  obtain ⟨g4, h⟩ := og_guard h
  refine va_iast hx hb hK.1 hP hD hS 10 0 rfl rfl (inb_vp g4) dX5_turn_13 (fun H locs hP hD hS => ?_)
  have hP : va_P D vwCl (wl [gR cA aR rI (up2 rA_5 9 u2.toNatClampNeg (rA 9 u1.toNatClampNeg)) rG] ++ gG cA K rR) H := hP
  have hD : va_D A (wl [gR cA aR rI (up2 rA_5 9 u2.toNatClampNeg (rA 9 u1.toNatClampNeg)) rG] ++ gG cA K rR) := hD
  exact W.vret hx hb hr (fun t ht hW => ⟨⟨((up2 rA_5 9 u2.toNatClampNeg (rA 9 u1.toNatClampNeg))), rfl, (og_inj h).symm, (by rw [ht]; exact hP), hD⟩, hS.F ht⟩) hS.2.2 dX5_turn_14
set_option maxRecDepth 100000 in
set_option maxHeartbeats 8000000 in
theorem k_X5_changed (l : Launch) (D : va_G) (cA : Nat → ClassId) (aR : Nat → Nat) (K : List Nat) (sz : Nat) (rI : Nat → Int32) (rA : Nat → Nat → Int32) (rG : Nat → Option Nat) (rR : Nat → Nat → Int32) (R : (Nat → Int32)) (h : f_X5_changed K rI = some R) : Met l yX5_changed (wsU yX5_changed cX5_changed 1 none) ({ frames := 0, cells := 0, slots := 0, locals := 0 }) (PcW D cA (wl [gR cA aR rI rA rG] ++ gG cA K rR) sz [.ref (aR 0)]) (QV D (fun u : (Nat → Int32) => (wl [gR cA aR u rA rG] ++ gG cA K rR)) R (va_A (wl [gR cA aR rI rA rG] ++ gG cA K rR) sz)) 0 0 (va_A (wl [gR cA aR rI rA rG] ++ gG cA K rR) sz) := by
  refine Met.ofW (cc := cX5_changed) (maxL := 1) (ret := none) (by decide) rfl ?_
  intro p e s m args below meth c s₁ B hml hv
  obtain ⟨rfl, hsz, hP, hK, hD0⟩ := hv
  have hx := B.exec
  have hb := B.bytes
  have hr := B.returns
  have hts := atoms_spec (ws := (wsU yX5_changed cX5_changed 1 none)) B.pre
  have hT : ∀ w ∈ wsL_law, w.before ([.ref (aR 0)] : List Value).toArray s = true := fun w h => hts w (List.mem_cons_of_mem _ h)
  have hown : s.vm.findClass RX5 = some m.cls := findClass_of_methodNamed B.named
  have hlocks := B.notSynchronized
  have hN := hK.2
  subst hsz
  have hD := hD0.self (sz := s.heap.size)
  generalize hAe : va_A (wl [gR cA aR rI rA rG] ++ gG cA K rR) s.heap.size = A at hD ⊢
  have hA : ∀ q : Nat, s.heap.size ≤ q → A q := fun q h => by rw [← hAe]; exact Or.inr h
  have hS : va_S A s.heap s.heap [] := va_S.rf
  have hl := lv_entry ([.ref (aR 0)]) (n := 1) (Nat.le_of_ble_eq_true rfl)
  rw [lg_entry_eq]
  generalize (lg_sl ([.ref (aR 0)]) ++ List.replicate (1 - (lg_sl ([.ref (aR 0)])).length) Slot.unset).toArray = ls at hl ⊢
  have hl : lv_has ls 1 [(0, .ref (aR 0))] := hl
  unfold f_X5_changed at h
  refine lv_aload_n hx hb dX5_changed_0 rfl (lv_at hl 0 rfl) ?_
  refine lv_iconst (v := (-1 : Int32)) hx hb dX5_changed_1 (by decide) ?_
  refine va_put (D := D) (v := .int (-1 : Int32)) (ty := .int) (C := RX5) (T := TX5) (N := 40) hx hb hT inlX5 tyX5 tyX5_ok nmX5 hown hK.1 hP hD hS 0 rfl rfl 12 (by decide) (hT _ fl_RX5_29) (fun _ h9 => h9) rfl (by decide +kernel) rfl rfl (Nat.le_of_ble_eq_true rfl) dX5_changed_2 (fun H locs hP hD hS => ?_)
  have hP : va_P D vwCl (wl [gR cA aR (upd rI 6 (-1 : Int32)) rA rG] ++ gG cA K rR) H := hP
  have hD : va_D A (wl [gR cA aR (upd rI 6 (-1 : Int32)) rA rG] ++ gG cA K rR) := hD
  refine lv_aload_n hx hb dX5_changed_5 rfl (lv_at hl 0 rfl) ?_
  refine lv_iconst (v := (0 : Int32)) hx hb dX5_changed_6 (by decide) ?_
  refine va_put (D := D) (v := .int (0 : Int32)) (ty := .boolean) (C := RX5) (T := TX5) (N := 40) hx hb hT inlX5 tyX5 tyX5_ok nmX5 hown hK.1 hP hD hS 0 rfl rfl 39 (by decide) (hT _ fl_RX5_80) (fun _ h9 => h9) rfl (by decide +kernel) (by decide +kernel) (by decide +kernel) (Nat.le_of_ble_eq_true rfl) dX5_changed_7 (fun H locs hP hD hS => ?_)
  have hP : va_P D vwCl (wl [gR cA aR (upd (upd rI 6 (-1 : Int32)) 19 (0 : Int32)) rA rG] ++ gG cA K rR) H := hP
  have hD : va_D A (wl [gR cA aR (upd (upd rI 6 (-1 : Int32)) 19 (0 : Int32)) rA rG] ++ gG cA K rR) := hD
  exact W.vret hx hb hr (fun t ht hW => ⟨⟨((upd (upd rI 6 (-1 : Int32)) 19 (0 : Int32))), rfl, (og_inj h).symm, (by rw [ht]; exact hP), hD⟩, hS.F ht⟩) hS.2.2 dX5_changed_10
set_option maxRecDepth 100000 in
set_option maxHeartbeats 8000000 in
theorem k_X5_isTarget (l : Launch) (D : va_G) (cA : Nat → ClassId) (aR : Nat → Nat) (K : List Nat) (sz : Nat) (u1 : Int32) (rI : Nat → Int32) (rA : Nat → Nat → Int32) (rG : Nat → Option Nat) (rR : Nat → Nat → Int32) (R : Int32 × Unit) (h : f_X5_isTarget K u1 rI = some R) : Met l yX5_isTarget (wsU yX5_isTarget cX5_isTarget 2 (some .boolean)) ({ frames := 0, cells := 0, slots := 0, locals := 0 }) (PcW D cA (wl [gR cA aR rI rA rG] ++ gG cA K rR) sz [.ref (aR 0), .int u1]) (QI D (fun _ : Unit => (wl [gR cA aR rI rA rG] ++ gG cA K rR)) R (va_A (wl [gR cA aR rI rA rG] ++ gG cA K rR) sz)) 0 0 (va_A (wl [gR cA aR rI rA rG] ++ gG cA K rR) sz) := by
  refine Met.ofW (cc := cX5_isTarget) (maxL := 2) (ret := (some .boolean)) (by decide) rfl ?_
  intro p e s m args below meth c s₁ B hml hv
  obtain ⟨rfl, hsz, hP, hK, hD0⟩ := hv
  have hx := B.exec
  have hb := B.bytes
  have hr := B.returns
  have hts := atoms_spec (ws := (wsU yX5_isTarget cX5_isTarget 2 (some .boolean))) B.pre
  have hT : ∀ w ∈ wsL_law, w.before ([.ref (aR 0), .int u1] : List Value).toArray s = true := fun w h => hts w (List.mem_cons_of_mem _ h)
  have hown : s.vm.findClass RX5 = some m.cls := findClass_of_methodNamed B.named
  have hlocks := B.notSynchronized
  have hN := hK.2
  subst hsz
  have hD := hD0.self (sz := s.heap.size)
  generalize hAe : va_A (wl [gR cA aR rI rA rG] ++ gG cA K rR) s.heap.size = A at hD ⊢
  have hA : ∀ q : Nat, s.heap.size ≤ q → A q := fun q h => by rw [← hAe]; exact Or.inr h
  have hS : va_S A s.heap s.heap [] := va_S.rf
  have hl := lv_entry ([.ref (aR 0), .int u1]) (n := 2) (Nat.le_of_ble_eq_true rfl)
  rw [lg_entry_eq]
  generalize (lg_sl ([.ref (aR 0), .int u1]) ++ List.replicate (2 - (lg_sl ([.ref (aR 0), .int u1])).length) Slot.unset).toArray = ls at hl ⊢
  have hl : lv_has ls 2 [(0, .ref (aR 0)), (1, .int u1)] := hl
  unfold f_X5_isTarget at h
  refine lv_iload_n hx hb dX5_isTarget_0 rfl (lv_at hl 1 rfl) ?_
  refine lv_aload_n hx hb dX5_isTarget_1 rfl (lv_at hl 0 rfl) ?_
  refine va_get (D := D) (C := RX5) (T := TX5) (N := 40) hx hb hT inlX5 hown hK.1 hP 0 rfl rfl 3 (by decide) (hT _ fl_RX5_93) (fun _ h9 => h9) rfl dX5_isTarget_2 ?_
  refine lv_icmp_le (tgt := 18) hx hb dX5_isTarget_5 (by decide) (fun c1 => ?_) (fun c1 => ?_)
  · replace h := og_pos c1 h
    refine lv_iconst (v := (0 : Int32)) hx hb dX5_isTarget_18 (by decide) ?_
    exact W.zret (v := (0 : Int32)) hx hb hr (by decide +kernel) (fun t ht hW => ⟨⟨(0 : Int32), (), rfl, ⟨(congrArg Prod.fst (og_inj h)).symm, (congrArg Prod.snd (og_inj h)).symm⟩, (by rw [ht]; exact hP), hD⟩, hS.F ht⟩) hS.2.2 dX5_isTarget_19
  · replace h := og_neg c1 h
    refine lv_iload_n hx hb dX5_isTarget_8 rfl (lv_at hl 1 rfl) ?_
    refine lv_bipush (v := (60 : Int32)) hx hb dX5_isTarget_9 (by decide) ?_
    refine lv_icmp_gt (tgt := 18) hx hb dX5_isTarget_11 (by decide) (fun c2 => ?_) (fun c2 => ?_)
    · replace h := og_pos c2 h
      refine lv_iconst (v := (0 : Int32)) hx hb dX5_isTarget_18 (by decide) ?_
      exact W.zret (v := (0 : Int32)) hx hb hr (by decide +kernel) (fun t ht hW => ⟨⟨(0 : Int32), (), rfl, ⟨(congrArg Prod.fst (og_inj h)).symm, (congrArg Prod.snd (og_inj h)).symm⟩, (by rw [ht]; exact hP), hD⟩, hS.F ht⟩) hS.2.2 dX5_isTarget_19
    · replace h := og_neg c2 h
      refine lv_iconst (v := (1 : Int32)) hx hb dX5_isTarget_14 (by decide) ?_
      refine lv_goto (tgt := 19) hx hb dX5_isTarget_15 (by decide) ?_
      exact W.zret (v := (1 : Int32)) hx hb hr (by decide +kernel) (fun t ht hW => ⟨⟨(1 : Int32), (), rfl, ⟨(congrArg Prod.fst (og_inj h)).symm, (congrArg Prod.snd (og_inj h)).symm⟩, (by rw [ht]; exact hP), hD⟩, hS.F ht⟩) hS.2.2 dX5_isTarget_19
set_option maxRecDepth 100000 in
set_option maxHeartbeats 8000000 in
theorem k_X5_isGood (l : Launch) (D : va_G) (cA : Nat → ClassId) (aR : Nat → Nat) (K : List Nat) (sz : Nat) (u1 : Int32) (u2 : Int32) (u3 : Int32) (u4 : Int32) (rI : Nat → Int32) (rA : Nat → Nat → Int32) (rG : Nat → Option Nat) (rR : Nat → Nat → Int32) (R : Int32 × Unit) (h : f_X5_isGood K u1 u2 u3 u4 rI = some R) : Met l yX5_isGood (wsU yX5_isGood cX5_isGood 5 (some .boolean)) ({ frames := 1, cells := 0, slots := 0, locals := 21 }) (PcW D cA (wl [gR cA aR rI rA rG] ++ gG cA K rR) sz [.ref (aR 0), .int u1, .int u2, .int u3, .int u4]) (QI D (fun _ : Unit => (wl [gR cA aR rI rA rG] ++ gG cA K rR)) R (va_A (wl [gR cA aR rI rA rG] ++ gG cA K rR) sz)) 0 0 (va_A (wl [gR cA aR rI rA rG] ++ gG cA K rR) sz) := by
  refine Met.ofW (cc := cX5_isGood) (maxL := 5) (ret := (some .boolean)) (by decide) rfl ?_
  intro p e s m args below meth c s₁ B hml hv
  obtain ⟨rfl, hsz, hP, hK, hD0⟩ := hv
  have hx := B.exec
  have hb := B.bytes
  have hr := B.returns
  have hts := atoms_spec (ws := (wsU yX5_isGood cX5_isGood 5 (some .boolean))) B.pre
  have hT : ∀ w ∈ wsL_law, w.before ([.ref (aR 0), .int u1, .int u2, .int u3, .int u4] : List Value).toArray s = true := fun w h => hts w (List.mem_cons_of_mem _ h)
  have hown : s.vm.findClass RX5 = some m.cls := findClass_of_methodNamed B.named
  have hlocks := B.notSynchronized
  have hN := hK.2
  subst hsz
  have hD := hD0.self (sz := s.heap.size)
  generalize hAe : va_A (wl [gR cA aR rI rA rG] ++ gG cA K rR) s.heap.size = A at hD ⊢
  have hA : ∀ q : Nat, s.heap.size ≤ q → A q := fun q h => by rw [← hAe]; exact Or.inr h
  have hS : va_S A s.heap s.heap [] := va_S.rf
  have hl := lv_entry ([.ref (aR 0), .int u1, .int u2, .int u3, .int u4]) (n := 5) (Nat.le_of_ble_eq_true rfl)
  rw [lg_entry_eq]
  generalize (lg_sl ([.ref (aR 0), .int u1, .int u2, .int u3, .int u4]) ++ List.replicate (5 - (lg_sl ([.ref (aR 0), .int u1, .int u2, .int u3, .int u4])).length) Slot.unset).toArray = ls at hl ⊢
  have hl : lv_has ls 5 [(0, .ref (aR 0)), (1, .int u1), (2, .int u2), (3, .int u3), (4, .int u4)] := hl
  have b68 : ∀ (x2 : Int32) (x3 : Int32) (x4 : Int32) (H : Heap) (locs : List Loc) (ls : Array Slot), f_X5_isGood_b68 K x2 x3 x4 rI = some R → va_P D vwCl (wl [gR cA aR rI rA rG] ++ gG cA K rR) H → va_D A (wl [gR cA aR rI rA rG] ++ gG cA K rR) → va_S A s.heap H locs → lv_has ls 5 [(2, .int x2), (3, .int x3), (4, .int x4)] → W p l e (headSpec (wsU yX5_isGood cX5_isGood 5 (some .boolean)) ({ frames := 1, cells := 0, slots := 0, locals := 21 })).room s m ([.ref (aR 0), .int u1, .int u2, .int u3, .int u4] : List Value).toArray below meth c H locs 0 0 (MQ below (QI D (fun _ : Unit => (wl [gR cA aR rI rA rG] ++ gG cA K rR)) R A) ([.ref (aR 0), .int u1, .int u2, .int u3, .int u4] : List Value).toArray s 0 0 A) (F0 m 68 ls []) := by
    intro x2 x3 x4 H locs ls h hP hD hS hl
    unfold f_X5_isGood_b68 at h
    refine lv_iload_n hx hb dX5_isGood_68 rfl (lv_at hl 0 rfl) ?_
    obtain ⟨⟨r1, _u1⟩, e1, h⟩ := og_bind h
    try dsimp only at h
    refine gc_i (ws := (wl [gR cA aR rI rA rG] ++ gG cA K rR)) (wc := (wl ([] : List va_W))) (wr := (wl [gR cA aR rI rA rG] ++ gG cA K rR)) (ws' := (wl [gR cA aR rI rA rG] ++ gG cA K rR)) (va_runS (As := [.int x2]) (rest := []) ⟨hx, hb, hml, hown, hT⟩ (k_X5_isRegister l D cA  H.size x2  _ e1) (cwS 1 hT gs_RX5_96 rfl rfl rfl (by decide +kernel) ⟨Nat.le_of_ble_eq_true rfl, Nat.le_of_ble_eq_true rfl⟩) (pre_S (wr := (wl [gR cA aR rI rA rG] ++ gG cA K rR)) (pmC (f := fun i => ([gR cA aR rI rA rG] : List va_W).getD i []) [0] [] [0] (by decide)) hK hP hD) rfl rfl hl.1 rfl (lv_room (Nat.le_of_ble_eq_true rfl)) dX5_isGood_69 ⟨Nat.le_refl _, Nat.le_refl _⟩) (pmC (f := fun i => ([gR cA aR rI rA rG] : List va_W).getD i []) [0] [] [0] (by decide)) hP hD hS hA (pmC (f := fun i => ([gR cA aR rI rA rG] : List va_W).getD i []) [0] [] [0] (by decide)) (fun H locs hP hD hS => ?_)
    refine lv_if_eq (tgt := 94) hx hb dX5_isGood_72 (by decide) (fun c2 => ?_) (fun c2 => ?_)
    · replace h := og_pos c2 h
      refine lv_iconst (v := (0 : Int32)) hx hb dX5_isGood_94 (by decide) ?_
      exact W.zret (v := (0 : Int32)) hx hb hr (by decide +kernel) (fun t ht hW => ⟨⟨(0 : Int32), (), rfl, ⟨(congrArg Prod.fst (og_inj h)).symm, (congrArg Prod.snd (og_inj h)).symm⟩, (by rw [ht]; exact hP), hD⟩, hS.F ht⟩) hS.2.2 dX5_isGood_95
    · replace h := og_neg c2 h
      refine lv_iload_n hx hb dX5_isGood_75 rfl (lv_at hl 1 rfl) ?_
      obtain ⟨⟨r3, _u3⟩, e3, h⟩ := og_bind h
      try dsimp only at h
      refine gc_i (ws := (wl [gR cA aR rI rA rG] ++ gG cA K rR)) (wc := (wl ([] : List va_W))) (wr := (wl [gR cA aR rI rA rG] ++ gG cA K rR)) (ws' := (wl [gR cA aR rI rA rG] ++ gG cA K rR)) (va_runS (As := [.int x3]) (rest := []) ⟨hx, hb, hml, hown, hT⟩ (k_X5_isRegister l D cA  H.size x3  _ e3) (cwS 1 hT gs_RX5_96 rfl rfl rfl (by decide +kernel) ⟨Nat.le_of_ble_eq_true rfl, Nat.le_of_ble_eq_true rfl⟩) (pre_S (wr := (wl [gR cA aR rI rA rG] ++ gG cA K rR)) (pmC (f := fun i => ([gR cA aR rI rA rG] : List va_W).getD i []) [0] [] [0] (by decide)) hK hP hD) rfl rfl hl.1 rfl (lv_room (Nat.le_of_ble_eq_true rfl)) dX5_isGood_76 ⟨Nat.le_refl _, Nat.le_refl _⟩) (pmC (f := fun i => ([gR cA aR rI rA rG] : List va_W).getD i []) [0] [] [0] (by decide)) hP hD hS hA (pmC (f := fun i => ([gR cA aR rI rA rG] : List va_W).getD i []) [0] [] [0] (by decide)) (fun H locs hP hD hS => ?_)
      refine lv_if_eq (tgt := 94) hx hb dX5_isGood_79 (by decide) (fun c4 => ?_) (fun c4 => ?_)
      · replace h := og_pos c4 h
        refine lv_iconst (v := (0 : Int32)) hx hb dX5_isGood_94 (by decide) ?_
        exact W.zret (v := (0 : Int32)) hx hb hr (by decide +kernel) (fun t ht hW => ⟨⟨(0 : Int32), (), rfl, ⟨(congrArg Prod.fst (og_inj h)).symm, (congrArg Prod.snd (og_inj h)).symm⟩, (by rw [ht]; exact hP), hD⟩, hS.F ht⟩) hS.2.2 dX5_isGood_95
      · replace h := og_neg c4 h
        refine lv_iload hx hb dX5_isGood_82 (lv_at hl 2 rfl) ?_
        obtain ⟨⟨r5, _u5⟩, e5, h⟩ := og_bind h
        try dsimp only at h
        refine gc_i (ws := (wl [gR cA aR rI rA rG] ++ gG cA K rR)) (wc := (wl ([] : List va_W))) (wr := (wl [gR cA aR rI rA rG] ++ gG cA K rR)) (ws' := (wl [gR cA aR rI rA rG] ++ gG cA K rR)) (va_runS (As := [.int x4]) (rest := []) ⟨hx, hb, hml, hown, hT⟩ (k_X5_isRegister l D cA  H.size x4  _ e5) (cwS 1 hT gs_RX5_96 rfl rfl rfl (by decide +kernel) ⟨Nat.le_of_ble_eq_true rfl, Nat.le_of_ble_eq_true rfl⟩) (pre_S (wr := (wl [gR cA aR rI rA rG] ++ gG cA K rR)) (pmC (f := fun i => ([gR cA aR rI rA rG] : List va_W).getD i []) [0] [] [0] (by decide)) hK hP hD) rfl rfl hl.1 rfl (lv_room (Nat.le_of_ble_eq_true rfl)) dX5_isGood_84 ⟨Nat.le_refl _, Nat.le_refl _⟩) (pmC (f := fun i => ([gR cA aR rI rA rG] : List va_W).getD i []) [0] [] [0] (by decide)) hP hD hS hA (pmC (f := fun i => ([gR cA aR rI rA rG] : List va_W).getD i []) [0] [] [0] (by decide)) (fun H locs hP hD hS => ?_)
        refine lv_if_eq (tgt := 94) hx hb dX5_isGood_87 (by decide) (fun c6 => ?_) (fun c6 => ?_)
        · replace h := og_pos c6 h
          refine lv_iconst (v := (0 : Int32)) hx hb dX5_isGood_94 (by decide) ?_
          exact W.zret (v := (0 : Int32)) hx hb hr (by decide +kernel) (fun t ht hW => ⟨⟨(0 : Int32), (), rfl, ⟨(congrArg Prod.fst (og_inj h)).symm, (congrArg Prod.snd (og_inj h)).symm⟩, (by rw [ht]; exact hP), hD⟩, hS.F ht⟩) hS.2.2 dX5_isGood_95
        · replace h := og_neg c6 h
          refine lv_iconst (v := (1 : Int32)) hx hb dX5_isGood_90 (by decide) ?_
          refine lv_goto (tgt := 95) hx hb dX5_isGood_91 (by decide) ?_
          exact W.zret (v := (1 : Int32)) hx hb hr (by decide +kernel) (fun t ht hW => ⟨⟨(1 : Int32), (), rfl, ⟨(congrArg Prod.fst (og_inj h)).symm, (congrArg Prod.snd (og_inj h)).symm⟩, (by rw [ht]; exact hP), hD⟩, hS.F ht⟩) hS.2.2 dX5_isGood_95
  have b62 : ∀ (x1 : Int32) (x2 : Int32) (x3 : Int32) (x4 : Int32) (H : Heap) (locs : List Loc) (ls : Array Slot), f_X5_isGood_b62 K x1 x2 x3 x4 rI = some R → va_P D vwCl (wl [gR cA aR rI rA rG] ++ gG cA K rR) H → va_D A (wl [gR cA aR rI rA rG] ++ gG cA K rR) → va_S A s.heap H locs → lv_has ls 5 [(0, .ref (aR 0)), (1, .int x1), (2, .int x2), (3, .int x3), (4, .int x4)] → W p l e (headSpec (wsU yX5_isGood cX5_isGood 5 (some .boolean)) ({ frames := 1, cells := 0, slots := 0, locals := 21 })).room s m ([.ref (aR 0), .int u1, .int u2, .int u3, .int u4] : List Value).toArray below meth c H locs 0 0 (MQ below (QI D (fun _ : Unit => (wl [gR cA aR rI rA rG] ++ gG cA K rR)) R A) ([.ref (aR 0), .int u1, .int u2, .int u3, .int u4] : List Value).toArray s 0 0 A) (F0 m 62 ls []) := by
    intro x1 x2 x3 x4 H locs ls h hP hD hS hl
    unfold f_X5_isGood_b62 at h
    refine lv_iload_n hx hb dX5_isGood_62 rfl (lv_at hl 1 rfl) ?_
    refine lv_bipush (v := (24 : Int32)) hx hb dX5_isGood_63 (by decide) ?_
    refine lv_icmp_ne (tgt := 96) hx hb dX5_isGood_65 (by decide) (fun c7 => ?_) (fun c7 => ?_)
    · replace h := og_neg c7 h
      refine lv_iload_n hx hb dX5_isGood_96 rfl (lv_at hl 1 rfl) ?_
      refine lv_bipush (v := (26 : Int32)) hx hb dX5_isGood_97 (by decide) ?_
      refine lv_icmp_gt (tgt := 122) hx hb dX5_isGood_99 (by decide) (fun c8 => ?_) (fun c8 => ?_)
      · replace h := og_pos c8 h
        refine lv_iload_n hx hb dX5_isGood_122 rfl (lv_at hl 1 rfl) ?_
        refine lv_bipush (v := (27 : Int32)) hx hb dX5_isGood_123 (by decide) ?_
        refine lv_icmp_ne (tgt := 149) hx hb dX5_isGood_125 (by decide) (fun c9 => ?_) (fun c9 => ?_)
        · replace h := og_neg c9 h
          refine lv_iload_n hx hb dX5_isGood_149 rfl (lv_at hl 1 rfl) ?_
          refine lv_bipush (v := (28 : Int32)) hx hb dX5_isGood_150 (by decide) ?_
          refine lv_icmp_ne (tgt := 161) hx hb dX5_isGood_152 (by decide) (fun c10 => ?_) (fun c10 => ?_)
          · replace h := og_neg c10 h
            refine lv_iload_n hx hb dX5_isGood_161 rfl (lv_at hl 1 rfl) ?_
            refine lv_bipush (v := (30 : Int32)) hx hb dX5_isGood_162 (by decide) ?_
            refine lv_icmp_ne (tgt := 186) hx hb dX5_isGood_164 (by decide) (fun c11 => ?_) (fun c11 => ?_)
            · replace h := og_neg c11 h
              refine lv_iload_n hx hb dX5_isGood_186 rfl (lv_at hl 2 rfl) ?_
              obtain ⟨⟨r12, _u12⟩, e12, h⟩ := og_bind h
              try dsimp only at h
              refine gc_i (ws := (wl [gR cA aR rI rA rG] ++ gG cA K rR)) (wc := (wl ([] : List va_W))) (wr := (wl [gR cA aR rI rA rG] ++ gG cA K rR)) (ws' := (wl [gR cA aR rI rA rG] ++ gG cA K rR)) (va_runS (As := [.int x2]) (rest := []) ⟨hx, hb, hml, hown, hT⟩ (k_X5_isRegister l D cA  H.size x2  _ e12) (cwS 1 hT gs_RX5_96 rfl rfl rfl (by decide +kernel) ⟨Nat.le_of_ble_eq_true rfl, Nat.le_of_ble_eq_true rfl⟩) (pre_S (wr := (wl [gR cA aR rI rA rG] ++ gG cA K rR)) (pmC (f := fun i => ([gR cA aR rI rA rG] : List va_W).getD i []) [0] [] [0] (by decide)) hK hP hD) rfl rfl hl.1 rfl (lv_room (Nat.le_of_ble_eq_true rfl)) dX5_isGood_187 ⟨Nat.le_refl _, Nat.le_refl _⟩) (pmC (f := fun i => ([gR cA aR rI rA rG] : List va_W).getD i []) [0] [] [0] (by decide)) hP hD hS hA (pmC (f := fun i => ([gR cA aR rI rA rG] : List va_W).getD i []) [0] [] [0] (by decide)) (fun H locs hP hD hS => ?_)
              obtain ⟨gz, h⟩ := og_guard h
              exact W.zret (v := r12) hx hb hr (bo_nar gz) (fun t ht hW => ⟨⟨r12, (), rfl, ⟨(congrArg Prod.fst (og_inj h)).symm, (congrArg Prod.snd (og_inj h)).symm⟩, (by rw [ht]; exact hP), hD⟩, hS.F ht⟩) hS.2.2 dX5_isGood_190
            · replace h := og_pos c11 h
              refine lv_iload_n hx hb dX5_isGood_167 rfl (lv_at hl 2 rfl) ?_
              refine lv_if_lt (tgt := 182) hx hb dX5_isGood_168 (by decide) (fun c13 => ?_) (fun c13 => ?_)
              · replace h := og_pos c13 h
                refine lv_iconst (v := (0 : Int32)) hx hb dX5_isGood_182 (by decide) ?_
                refine lv_goto (tgt := 190) hx hb dX5_isGood_183 (by decide) ?_
                exact W.zret (v := (0 : Int32)) hx hb hr (by decide +kernel) (fun t ht hW => ⟨⟨(0 : Int32), (), rfl, ⟨(congrArg Prod.fst (og_inj h)).symm, (congrArg Prod.snd (og_inj h)).symm⟩, (by rw [ht]; exact hP), hD⟩, hS.F ht⟩) hS.2.2 dX5_isGood_190
              · replace h := og_neg c13 h
                refine lv_iload_n hx hb dX5_isGood_171 rfl (lv_at hl 2 rfl) ?_
                refine lv_sipush (v := (255 : Int32)) hx hb dX5_isGood_172 (by decide) ?_
                refine lv_icmp_gt (tgt := 182) hx hb dX5_isGood_175 (by decide) (fun c14 => ?_) (fun c14 => ?_)
                · replace h := og_pos c14 h
                  refine lv_iconst (v := (0 : Int32)) hx hb dX5_isGood_182 (by decide) ?_
                  refine lv_goto (tgt := 190) hx hb dX5_isGood_183 (by decide) ?_
                  exact W.zret (v := (0 : Int32)) hx hb hr (by decide +kernel) (fun t ht hW => ⟨⟨(0 : Int32), (), rfl, ⟨(congrArg Prod.fst (og_inj h)).symm, (congrArg Prod.snd (og_inj h)).symm⟩, (by rw [ht]; exact hP), hD⟩, hS.F ht⟩) hS.2.2 dX5_isGood_190
                · replace h := og_neg c14 h
                  refine lv_iconst (v := (1 : Int32)) hx hb dX5_isGood_178 (by decide) ?_
                  refine lv_goto (tgt := 190) hx hb dX5_isGood_179 (by decide) ?_
                  exact W.zret (v := (1 : Int32)) hx hb hr (by decide +kernel) (fun t ht hW => ⟨⟨(1 : Int32), (), rfl, ⟨(congrArg Prod.fst (og_inj h)).symm, (congrArg Prod.snd (og_inj h)).symm⟩, (by rw [ht]; exact hP), hD⟩, hS.F ht⟩) hS.2.2 dX5_isGood_190
          · replace h := og_pos c10 h
            refine lv_aload_n hx hb dX5_isGood_155 rfl (lv_at hl 0 rfl) ?_
            refine lv_iload_n hx hb dX5_isGood_156 rfl (lv_at hl 2 rfl) ?_
            obtain ⟨⟨r15, _u15⟩, e15, h⟩ := og_bind h
            try dsimp only at h
            refine gc_i (ws := (wl [gR cA aR rI rA rG] ++ gG cA K rR)) (wc := (wl [gR cA aR rI rA rG] ++ gG cA K rR)) (wr := (wl ([] : List va_W))) (ws' := (wl [gR cA aR rI rA rG] ++ gG cA K rR)) (va_runV (As := [.int x2]) (rest := []) ⟨hx, hb, hml, hown, hT⟩ (k_X5_isTarget l D cA aR K H.size x2 rI rA rG rR _ e15) (cwV 1 hT gv_RX5_100 rfl rfl rfl (by decide +kernel) ⟨Nat.le_of_ble_eq_true rfl, Nat.le_of_ble_eq_true rfl⟩) (pre_V (ci := 5) (q0 := 0) (wr := (wl ([] : List va_W))) (pmB (f := fun i => ([gR cA aR rI rA rG] : List va_W).getD i []) [0] [0] [] (by decide)) hK hP hD rfl rfl) rfl rfl hl.1 rfl (lv_room (Nat.le_of_ble_eq_true rfl)) dX5_isGood_157 ⟨Nat.le_refl _, Nat.le_refl _⟩) (pmB (f := fun i => ([gR cA aR rI rA rG] : List va_W).getD i []) [0] [0] [] (by decide)) hP hD hS hA (pmB (f := fun i => ([gR cA aR rI rA rG] : List va_W).getD i []) [0] [0] [] (by decide)) (fun H locs hP hD hS => ?_)
            obtain ⟨gz, h⟩ := og_guard h
            exact W.zret (v := r15) hx hb hr (bo_nar gz) (fun t ht hW => ⟨⟨r15, (), rfl, ⟨(congrArg Prod.fst (og_inj h)).symm, (congrArg Prod.snd (og_inj h)).symm⟩, (by rw [ht]; exact hP), hD⟩, hS.F ht⟩) hS.2.2 dX5_isGood_160
        · replace h := og_pos c9 h
          refine lv_iload_n hx hb dX5_isGood_128 rfl (lv_at hl 2 rfl) ?_
          obtain ⟨⟨r16, _u16⟩, e16, h⟩ := og_bind h
          try dsimp only at h
          refine gc_i (ws := (wl [gR cA aR rI rA rG] ++ gG cA K rR)) (wc := (wl ([] : List va_W))) (wr := (wl [gR cA aR rI rA rG] ++ gG cA K rR)) (ws' := (wl [gR cA aR rI rA rG] ++ gG cA K rR)) (va_runS (As := [.int x2]) (rest := []) ⟨hx, hb, hml, hown, hT⟩ (k_X5_isRegister l D cA  H.size x2  _ e16) (cwS 1 hT gs_RX5_96 rfl rfl rfl (by decide +kernel) ⟨Nat.le_of_ble_eq_true rfl, Nat.le_of_ble_eq_true rfl⟩) (pre_S (wr := (wl [gR cA aR rI rA rG] ++ gG cA K rR)) (pmC (f := fun i => ([gR cA aR rI rA rG] : List va_W).getD i []) [0] [] [0] (by decide)) hK hP hD) rfl rfl hl.1 rfl (lv_room (Nat.le_of_ble_eq_true rfl)) dX5_isGood_129 ⟨Nat.le_refl _, Nat.le_refl _⟩) (pmC (f := fun i => ([gR cA aR rI rA rG] : List va_W).getD i []) [0] [] [0] (by decide)) hP hD hS hA (pmC (f := fun i => ([gR cA aR rI rA rG] : List va_W).getD i []) [0] [] [0] (by decide)) (fun H locs hP hD hS => ?_)
          refine lv_if_eq (tgt := 147) hx hb dX5_isGood_132 (by decide) (fun c17 => ?_) (fun c17 => ?_)
          · replace h := og_pos c17 h
            refine lv_iconst (v := (0 : Int32)) hx hb dX5_isGood_147 (by decide) ?_
            exact W.zret (v := (0 : Int32)) hx hb hr (by decide +kernel) (fun t ht hW => ⟨⟨(0 : Int32), (), rfl, ⟨(congrArg Prod.fst (og_inj h)).symm, (congrArg Prod.snd (og_inj h)).symm⟩, (by rw [ht]; exact hP), hD⟩, hS.F ht⟩) hS.2.2 dX5_isGood_148
          · replace h := og_neg c17 h
            refine lv_aload_n hx hb dX5_isGood_135 rfl (lv_at hl 0 rfl) ?_
            refine lv_iload_n hx hb dX5_isGood_136 rfl (lv_at hl 3 rfl) ?_
            obtain ⟨⟨r18, _u18⟩, e18, h⟩ := og_bind h
            try dsimp only at h
            refine gc_i (ws := (wl [gR cA aR rI rA rG] ++ gG cA K rR)) (wc := (wl [gR cA aR rI rA rG] ++ gG cA K rR)) (wr := (wl ([] : List va_W))) (ws' := (wl [gR cA aR rI rA rG] ++ gG cA K rR)) (va_runV (As := [.int x3]) (rest := []) ⟨hx, hb, hml, hown, hT⟩ (k_X5_isTarget l D cA aR K H.size x3 rI rA rG rR _ e18) (cwV 1 hT gv_RX5_100 rfl rfl rfl (by decide +kernel) ⟨Nat.le_of_ble_eq_true rfl, Nat.le_of_ble_eq_true rfl⟩) (pre_V (ci := 5) (q0 := 0) (wr := (wl ([] : List va_W))) (pmB (f := fun i => ([gR cA aR rI rA rG] : List va_W).getD i []) [0] [0] [] (by decide)) hK hP hD rfl rfl) rfl rfl hl.1 rfl (lv_room (Nat.le_of_ble_eq_true rfl)) dX5_isGood_137 ⟨Nat.le_refl _, Nat.le_refl _⟩) (pmB (f := fun i => ([gR cA aR rI rA rG] : List va_W).getD i []) [0] [0] [] (by decide)) hP hD hS hA (pmB (f := fun i => ([gR cA aR rI rA rG] : List va_W).getD i []) [0] [0] [] (by decide)) (fun H locs hP hD hS => ?_)
            refine lv_if_eq (tgt := 147) hx hb dX5_isGood_140 (by decide) (fun c19 => ?_) (fun c19 => ?_)
            · replace h := og_pos c19 h
              refine lv_iconst (v := (0 : Int32)) hx hb dX5_isGood_147 (by decide) ?_
              exact W.zret (v := (0 : Int32)) hx hb hr (by decide +kernel) (fun t ht hW => ⟨⟨(0 : Int32), (), rfl, ⟨(congrArg Prod.fst (og_inj h)).symm, (congrArg Prod.snd (og_inj h)).symm⟩, (by rw [ht]; exact hP), hD⟩, hS.F ht⟩) hS.2.2 dX5_isGood_148
            · replace h := og_neg c19 h
              refine lv_iconst (v := (1 : Int32)) hx hb dX5_isGood_143 (by decide) ?_
              refine lv_goto (tgt := 148) hx hb dX5_isGood_144 (by decide) ?_
              exact W.zret (v := (1 : Int32)) hx hb hr (by decide +kernel) (fun t ht hW => ⟨⟨(1 : Int32), (), rfl, ⟨(congrArg Prod.fst (og_inj h)).symm, (congrArg Prod.snd (og_inj h)).symm⟩, (by rw [ht]; exact hP), hD⟩, hS.F ht⟩) hS.2.2 dX5_isGood_148
      · replace h := og_neg c8 h
        refine lv_iload_n hx hb dX5_isGood_102 rfl (lv_at hl 2 rfl) ?_
        obtain ⟨⟨r20, _u20⟩, e20, h⟩ := og_bind h
        try dsimp only at h
        refine gc_i (ws := (wl [gR cA aR rI rA rG] ++ gG cA K rR)) (wc := (wl ([] : List va_W))) (wr := (wl [gR cA aR rI rA rG] ++ gG cA K rR)) (ws' := (wl [gR cA aR rI rA rG] ++ gG cA K rR)) (va_runS (As := [.int x2]) (rest := []) ⟨hx, hb, hml, hown, hT⟩ (k_X5_isRegister l D cA  H.size x2  _ e20) (cwS 1 hT gs_RX5_96 rfl rfl rfl (by decide +kernel) ⟨Nat.le_of_ble_eq_true rfl, Nat.le_of_ble_eq_true rfl⟩) (pre_S (wr := (wl [gR cA aR rI rA rG] ++ gG cA K rR)) (pmC (f := fun i => ([gR cA aR rI rA rG] : List va_W).getD i []) [0] [] [0] (by decide)) hK hP hD) rfl rfl hl.1 rfl (lv_room (Nat.le_of_ble_eq_true rfl)) dX5_isGood_103 ⟨Nat.le_refl _, Nat.le_refl _⟩) (pmC (f := fun i => ([gR cA aR rI rA rG] : List va_W).getD i []) [0] [] [0] (by decide)) hP hD hS hA (pmC (f := fun i => ([gR cA aR rI rA rG] : List va_W).getD i []) [0] [] [0] (by decide)) (fun H locs hP hD hS => ?_)
        refine lv_if_eq (tgt := 120) hx hb dX5_isGood_106 (by decide) (fun c21 => ?_) (fun c21 => ?_)
        · replace h := og_pos c21 h
          refine lv_iconst (v := (0 : Int32)) hx hb dX5_isGood_120 (by decide) ?_
          exact W.zret (v := (0 : Int32)) hx hb hr (by decide +kernel) (fun t ht hW => ⟨⟨(0 : Int32), (), rfl, ⟨(congrArg Prod.fst (og_inj h)).symm, (congrArg Prod.snd (og_inj h)).symm⟩, (by rw [ht]; exact hP), hD⟩, hS.F ht⟩) hS.2.2 dX5_isGood_121
        · replace h := og_neg c21 h
          refine lv_iload_n hx hb dX5_isGood_109 rfl (lv_at hl 3 rfl) ?_
          obtain ⟨⟨r22, _u22⟩, e22, h⟩ := og_bind h
          try dsimp only at h
          refine gc_i (ws := (wl [gR cA aR rI rA rG] ++ gG cA K rR)) (wc := (wl ([] : List va_W))) (wr := (wl [gR cA aR rI rA rG] ++ gG cA K rR)) (ws' := (wl [gR cA aR rI rA rG] ++ gG cA K rR)) (va_runS (As := [.int x3]) (rest := []) ⟨hx, hb, hml, hown, hT⟩ (k_X5_isRegister l D cA  H.size x3  _ e22) (cwS 1 hT gs_RX5_96 rfl rfl rfl (by decide +kernel) ⟨Nat.le_of_ble_eq_true rfl, Nat.le_of_ble_eq_true rfl⟩) (pre_S (wr := (wl [gR cA aR rI rA rG] ++ gG cA K rR)) (pmC (f := fun i => ([gR cA aR rI rA rG] : List va_W).getD i []) [0] [] [0] (by decide)) hK hP hD) rfl rfl hl.1 rfl (lv_room (Nat.le_of_ble_eq_true rfl)) dX5_isGood_110 ⟨Nat.le_refl _, Nat.le_refl _⟩) (pmC (f := fun i => ([gR cA aR rI rA rG] : List va_W).getD i []) [0] [] [0] (by decide)) hP hD hS hA (pmC (f := fun i => ([gR cA aR rI rA rG] : List va_W).getD i []) [0] [] [0] (by decide)) (fun H locs hP hD hS => ?_)
          refine lv_if_eq (tgt := 120) hx hb dX5_isGood_113 (by decide) (fun c23 => ?_) (fun c23 => ?_)
          · replace h := og_pos c23 h
            refine lv_iconst (v := (0 : Int32)) hx hb dX5_isGood_120 (by decide) ?_
            exact W.zret (v := (0 : Int32)) hx hb hr (by decide +kernel) (fun t ht hW => ⟨⟨(0 : Int32), (), rfl, ⟨(congrArg Prod.fst (og_inj h)).symm, (congrArg Prod.snd (og_inj h)).symm⟩, (by rw [ht]; exact hP), hD⟩, hS.F ht⟩) hS.2.2 dX5_isGood_121
          · replace h := og_neg c23 h
            refine lv_iconst (v := (1 : Int32)) hx hb dX5_isGood_116 (by decide) ?_
            refine lv_goto (tgt := 121) hx hb dX5_isGood_117 (by decide) ?_
            exact W.zret (v := (1 : Int32)) hx hb hr (by decide +kernel) (fun t ht hW => ⟨⟨(1 : Int32), (), rfl, ⟨(congrArg Prod.fst (og_inj h)).symm, (congrArg Prod.snd (og_inj h)).symm⟩, (by rw [ht]; exact hP), hD⟩, hS.F ht⟩) hS.2.2 dX5_isGood_121
    · replace h := og_pos c7 h
      exact b68  _ _ _ _ _ _ h hP hD hS (lv_sub hl [2, 3, 4] rfl)
  unfold f_X5_isGood at h
  refine lv_iload_n hx hb dX5_isGood_0 rfl (lv_at hl 1 rfl) ?_
  refine lv_if_lt (tgt := 10) hx hb dX5_isGood_1 (by decide) (fun c24 => ?_) (fun c24 => ?_)
  · replace h := og_pos c24 h
    refine lv_iconst (v := (0 : Int32)) hx hb dX5_isGood_10 (by decide) ?_
    exact W.zret (v := (0 : Int32)) hx hb hr (by decide +kernel) (fun t ht hW => ⟨⟨(0 : Int32), (), rfl, ⟨(congrArg Prod.fst (og_inj h)).symm, (congrArg Prod.snd (og_inj h)).symm⟩, (by rw [ht]; exact hP), hD⟩, hS.F ht⟩) hS.2.2 dX5_isGood_11
  · replace h := og_neg c24 h
    refine lv_iload_n hx hb dX5_isGood_4 rfl (lv_at hl 1 rfl) ?_
    refine lv_bipush (v := (31 : Int32)) hx hb dX5_isGood_5 (by decide) ?_
    refine lv_icmp_le (tgt := 12) hx hb dX5_isGood_7 (by decide) (fun c25 => ?_) (fun c25 => ?_)
    · replace h := og_pos c25 h
      refine lv_iload_n hx hb dX5_isGood_12 rfl (lv_at hl 1 rfl) ?_
      refine lv_if_ne (tgt := 21) hx hb dX5_isGood_13 (by decide) (fun c26 => ?_) (fun c26 => ?_)
      · replace h := og_neg c26 h
        refine lv_iload_n hx hb dX5_isGood_21 rfl (lv_at hl 1 rfl) ?_
        refine lv_iconst (v := (1 : Int32)) hx hb dX5_isGood_22 (by decide) ?_
        refine lv_icmp_ne (tgt := 51) hx hb dX5_isGood_23 (by decide) (fun c27 => ?_) (fun c27 => ?_)
        · replace h := og_neg c27 h
          refine lv_iload_n hx hb dX5_isGood_51 rfl (lv_at hl 1 rfl) ?_
          refine lv_iconst (v := (3 : Int32)) hx hb dX5_isGood_52 (by decide) ?_
          refine lv_icmp_lt (tgt := 62) hx hb dX5_isGood_53 (by decide) (fun c28 => ?_) (fun c28 => ?_)
          · replace h := og_pos c28 h
            exact b62  _ _ _ _ _ _ _ h hP hD hS (lv_sub hl [0, 1, 2, 3, 4] rfl)
          · replace h := og_neg c28 h
            refine lv_iload_n hx hb dX5_isGood_56 rfl (lv_at hl 1 rfl) ?_
            refine lv_bipush (v := (21 : Int32)) hx hb dX5_isGood_57 (by decide) ?_
            refine lv_icmp_le (tgt := 68) hx hb dX5_isGood_59 (by decide) (fun c29 => ?_) (fun c29 => ?_)
            · replace h := og_pos c29 h
              exact b68  _ _ _ _ _ _ h hP hD hS (lv_sub hl [2, 3, 4] rfl)
            · replace h := og_neg c29 h
              exact b62  _ _ _ _ _ _ _ h hP hD hS (lv_sub hl [0, 1, 2, 3, 4] rfl)
        · replace h := og_pos c27 h
          refine lv_iload_n hx hb dX5_isGood_26 rfl (lv_at hl 2 rfl) ?_
          obtain ⟨⟨r30, _u30⟩, e30, h⟩ := og_bind h
          try dsimp only at h
          refine gc_i (ws := (wl [gR cA aR rI rA rG] ++ gG cA K rR)) (wc := (wl ([] : List va_W))) (wr := (wl [gR cA aR rI rA rG] ++ gG cA K rR)) (ws' := (wl [gR cA aR rI rA rG] ++ gG cA K rR)) (va_runS (As := [.int u2]) (rest := []) ⟨hx, hb, hml, hown, hT⟩ (k_X5_isRegister l D cA  s.heap.size u2  _ e30) (cwS 1 hT gs_RX5_96 rfl rfl rfl (by decide +kernel) ⟨Nat.le_of_ble_eq_true rfl, Nat.le_of_ble_eq_true rfl⟩) (pre_S (wr := (wl [gR cA aR rI rA rG] ++ gG cA K rR)) (pmC (f := fun i => ([gR cA aR rI rA rG] : List va_W).getD i []) [0] [] [0] (by decide)) hK hP hD) rfl rfl hl.1 rfl (lv_room (Nat.le_of_ble_eq_true rfl)) dX5_isGood_27 ⟨Nat.le_refl _, Nat.le_refl _⟩) (pmC (f := fun i => ([gR cA aR rI rA rG] : List va_W).getD i []) [0] [] [0] (by decide)) hP hD hS hA (pmC (f := fun i => ([gR cA aR rI rA rG] : List va_W).getD i []) [0] [] [0] (by decide)) (fun H locs hP hD hS => ?_)
          refine lv_if_eq (tgt := 49) hx hb dX5_isGood_30 (by decide) (fun c31 => ?_) (fun c31 => ?_)
          · replace h := og_pos c31 h
            refine lv_iconst (v := (0 : Int32)) hx hb dX5_isGood_49 (by decide) ?_
            exact W.zret (v := (0 : Int32)) hx hb hr (by decide +kernel) (fun t ht hW => ⟨⟨(0 : Int32), (), rfl, ⟨(congrArg Prod.fst (og_inj h)).symm, (congrArg Prod.snd (og_inj h)).symm⟩, (by rw [ht]; exact hP), hD⟩, hS.F ht⟩) hS.2.2 dX5_isGood_50
          · replace h := og_neg c31 h
            refine lv_iload_n hx hb dX5_isGood_33 rfl (lv_at hl 3 rfl) ?_
            refine lv_if_lt (tgt := 49) hx hb dX5_isGood_34 (by decide) (fun c32 => ?_) (fun c32 => ?_)
            · replace h := og_pos c32 h
              refine lv_iconst (v := (0 : Int32)) hx hb dX5_isGood_49 (by decide) ?_
              exact W.zret (v := (0 : Int32)) hx hb hr (by decide +kernel) (fun t ht hW => ⟨⟨(0 : Int32), (), rfl, ⟨(congrArg Prod.fst (og_inj h)).symm, (congrArg Prod.snd (og_inj h)).symm⟩, (by rw [ht]; exact hP), hD⟩, hS.F ht⟩) hS.2.2 dX5_isGood_50
            · replace h := og_neg c32 h
              refine lv_iload_n hx hb dX5_isGood_37 rfl (lv_at hl 3 rfl) ?_
              refine lv_aload_n hx hb dX5_isGood_38 rfl (lv_at hl 0 rfl) ?_
              refine va_get (D := D) (C := RX5) (T := TX5) (N := 40) hx hb hT inlX5 hown hK.1 hP 0 rfl rfl 1 (by decide) (hT _ fl_RX5_84) (fun _ h9 => h9) rfl dX5_isGood_39 ?_
              refine lv_icmp_ge (tgt := 49) hx hb dX5_isGood_42 (by decide) (fun c33 => ?_) (fun c33 => ?_)
              · replace h := og_pos c33 h
                refine lv_iconst (v := (0 : Int32)) hx hb dX5_isGood_49 (by decide) ?_
                exact W.zret (v := (0 : Int32)) hx hb hr (by decide +kernel) (fun t ht hW => ⟨⟨(0 : Int32), (), rfl, ⟨(congrArg Prod.fst (og_inj h)).symm, (congrArg Prod.snd (og_inj h)).symm⟩, (by rw [ht]; exact hP), hD⟩, hS.F ht⟩) hS.2.2 dX5_isGood_50
              · replace h := og_neg c33 h
                refine lv_iconst (v := (1 : Int32)) hx hb dX5_isGood_45 (by decide) ?_
                refine lv_goto (tgt := 50) hx hb dX5_isGood_46 (by decide) ?_
                exact W.zret (v := (1 : Int32)) hx hb hr (by decide +kernel) (fun t ht hW => ⟨⟨(1 : Int32), (), rfl, ⟨(congrArg Prod.fst (og_inj h)).symm, (congrArg Prod.snd (og_inj h)).symm⟩, (by rw [ht]; exact hP), hD⟩, hS.F ht⟩) hS.2.2 dX5_isGood_50
      · replace h := og_pos c26 h
        refine lv_iload_n hx hb dX5_isGood_16 rfl (lv_at hl 2 rfl) ?_
        obtain ⟨⟨r34, _u34⟩, e34, h⟩ := og_bind h
        try dsimp only at h
        refine gc_i (ws := (wl [gR cA aR rI rA rG] ++ gG cA K rR)) (wc := (wl ([] : List va_W))) (wr := (wl [gR cA aR rI rA rG] ++ gG cA K rR)) (ws' := (wl [gR cA aR rI rA rG] ++ gG cA K rR)) (va_runS (As := [.int u2]) (rest := []) ⟨hx, hb, hml, hown, hT⟩ (k_X5_isRegister l D cA  s.heap.size u2  _ e34) (cwS 1 hT gs_RX5_96 rfl rfl rfl (by decide +kernel) ⟨Nat.le_of_ble_eq_true rfl, Nat.le_of_ble_eq_true rfl⟩) (pre_S (wr := (wl [gR cA aR rI rA rG] ++ gG cA K rR)) (pmC (f := fun i => ([gR cA aR rI rA rG] : List va_W).getD i []) [0] [] [0] (by decide)) hK hP hD) rfl rfl hl.1 rfl (lv_room (Nat.le_of_ble_eq_true rfl)) dX5_isGood_17 ⟨Nat.le_refl _, Nat.le_refl _⟩) (pmC (f := fun i => ([gR cA aR rI rA rG] : List va_W).getD i []) [0] [] [0] (by decide)) hP hD hS hA (pmC (f := fun i => ([gR cA aR rI rA rG] : List va_W).getD i []) [0] [] [0] (by decide)) (fun H locs hP hD hS => ?_)
        obtain ⟨gz, h⟩ := og_guard h
        exact W.zret (v := r34) hx hb hr (bo_nar gz) (fun t ht hW => ⟨⟨r34, (), rfl, ⟨(congrArg Prod.fst (og_inj h)).symm, (congrArg Prod.snd (og_inj h)).symm⟩, (by rw [ht]; exact hP), hD⟩, hS.F ht⟩) hS.2.2 dX5_isGood_20
    · replace h := og_neg c25 h
      refine lv_iconst (v := (0 : Int32)) hx hb dX5_isGood_10 (by decide) ?_
      exact W.zret (v := (0 : Int32)) hx hb hr (by decide +kernel) (fun t ht hW => ⟨⟨(0 : Int32), (), rfl, ⟨(congrArg Prod.fst (og_inj h)).symm, (congrArg Prod.snd (og_inj h)).symm⟩, (by rw [ht]; exact hP), hD⟩, hS.F ht⟩) hS.2.2 dX5_isGood_11
set_option maxRecDepth 100000 in
set_option maxHeartbeats 8000000 in
theorem k_X5_input (l : Launch) (D : va_G) (cA : Nat → ClassId) (aR : Nat → Nat) (K : List Nat) (sz : Nat) (u1 : Int32) (u2 : Int32) (rI : Nat → Int32) (rA : Nat → Nat → Int32) (rG : Nat → Option Nat) (rR : Nat → Nat → Int32) (R : Int32 × (Nat → Int32) × (Nat → Nat → Int32)) (h : f_X5_input K u1 u2 rI rA = some R) : Met l yX5_input (wsU yX5_input cX5_input 3 (some .int)) ({ frames := 1, cells := 0, slots := 0, locals := 20 }) (PcW D cA (wl [gR cA aR rI rA rG] ++ gG cA K rR) sz [.ref (aR 0), .int u1, .int u2]) (QI D (fun u : (Nat → Int32) × (Nat → Nat → Int32) => (wl [gR cA aR u.1 u.2 rG] ++ gG cA K rR)) R (va_A (wl [gR cA aR rI rA rG] ++ gG cA K rR) sz)) 0 0 (va_A (wl [gR cA aR rI rA rG] ++ gG cA K rR) sz) := by
  refine Met.ofW (cc := cX5_input) (maxL := 3) (ret := (some .int)) (by decide) rfl ?_
  intro p e s m args below meth c s₁ B hml hv
  obtain ⟨rfl, hsz, hP, hK, hD0⟩ := hv
  have hx := B.exec
  have hb := B.bytes
  have hr := B.returns
  have hts := atoms_spec (ws := (wsU yX5_input cX5_input 3 (some .int))) B.pre
  have hT : ∀ w ∈ wsL_law, w.before ([.ref (aR 0), .int u1, .int u2] : List Value).toArray s = true := fun w h => hts w (List.mem_cons_of_mem _ h)
  have hown : s.vm.findClass RX5 = some m.cls := findClass_of_methodNamed B.named
  have hlocks := B.notSynchronized
  have hN := hK.2
  subst hsz
  have hD := hD0.self (sz := s.heap.size)
  generalize hAe : va_A (wl [gR cA aR rI rA rG] ++ gG cA K rR) s.heap.size = A at hD ⊢
  have hA : ∀ q : Nat, s.heap.size ≤ q → A q := fun q h => by rw [← hAe]; exact Or.inr h
  have hS : va_S A s.heap s.heap [] := va_S.rf
  have hl := lv_entry ([.ref (aR 0), .int u1, .int u2]) (n := 3) (Nat.le_of_ble_eq_true rfl)
  rw [lg_entry_eq]
  generalize (lg_sl ([.ref (aR 0), .int u1, .int u2]) ++ List.replicate (3 - (lg_sl ([.ref (aR 0), .int u1, .int u2])).length) Slot.unset).toArray = ls at hl ⊢
  have hl : lv_has ls 3 [(0, .ref (aR 0)), (1, .int u1), (2, .int u2)] := hl
  unfold f_X5_input at h
  refine lv_aload_n hx hb dX5_input_0 rfl (lv_at hl 0 rfl) ?_
  refine va_get (D := D) (C := RX5) (T := TX5) (N := 40) hx hb hT inlX5 hown hK.1 hP 0 rfl rfl 1 (by decide) (hT _ fl_RX5_84) (fun _ h9 => h9) rfl dX5_input_1 ?_
  refine lv_iconst (v := (4 : Int32)) hx hb dX5_input_4 (by decide) ?_
  refine lv_icmp_eq (tgt := 30) hx hb dX5_input_5 (by decide) (fun c1 => ?_) (fun c1 => ?_)
  · replace h := og_pos c1 h
    refine lv_iconst (v := (-1 : Int32)) hx hb dX5_input_30 (by decide) ?_
    exact W.iret (v := (-1 : Int32)) hx hb hr (fun t ht hW => ⟨⟨(-1 : Int32), (rI, rA), rfl, ⟨(congrArg Prod.fst (og_inj h)).symm, (congrArg Prod.snd (og_inj h)).symm⟩, (by rw [ht]; exact hP), hD⟩, hS.F ht⟩) hS.2.2 dX5_input_31
  · replace h := og_neg c1 h
    refine lv_iload_n hx hb dX5_input_8 rfl (lv_at hl 1 rfl) ?_
    refine lv_iconst (v := (1 : Int32)) hx hb dX5_input_9 (by decide) ?_
    refine lv_icmp_lt (tgt := 30) hx hb dX5_input_10 (by decide) (fun c2 => ?_) (fun c2 => ?_)
    · replace h := og_pos c2 h
      refine lv_iconst (v := (-1 : Int32)) hx hb dX5_input_30 (by decide) ?_
      exact W.iret (v := (-1 : Int32)) hx hb hr (fun t ht hW => ⟨⟨(-1 : Int32), (rI, rA), rfl, ⟨(congrArg Prod.fst (og_inj h)).symm, (congrArg Prod.snd (og_inj h)).symm⟩, (by rw [ht]; exact hP), hD⟩, hS.F ht⟩) hS.2.2 dX5_input_31
    · replace h := og_neg c2 h
      refine lv_iload_n hx hb dX5_input_13 rfl (lv_at hl 1 rfl) ?_
      refine lv_bipush (v := (12 : Int32)) hx hb dX5_input_14 (by decide) ?_
      refine lv_icmp_gt (tgt := 30) hx hb dX5_input_16 (by decide) (fun c3 => ?_) (fun c3 => ?_)
      · replace h := og_pos c3 h
        refine lv_iconst (v := (-1 : Int32)) hx hb dX5_input_30 (by decide) ?_
        exact W.iret (v := (-1 : Int32)) hx hb hr (fun t ht hW => ⟨⟨(-1 : Int32), (rI, rA), rfl, ⟨(congrArg Prod.fst (og_inj h)).symm, (congrArg Prod.snd (og_inj h)).symm⟩, (by rw [ht]; exact hP), hD⟩, hS.F ht⟩) hS.2.2 dX5_input_31
      · replace h := og_neg c3 h
        refine lv_aload_n hx hb dX5_input_19 rfl (lv_at hl 0 rfl) ?_
        refine va_get (D := D) (C := RX5) (T := TX5) (N := 40) hx hb hT inlX5 hown hK.1 hP 0 rfl rfl 2 (by decide) (hT _ fl_RX5_87) (fun _ h9 => h9) rfl dX5_input_20 ?_
        refine lv_iload_n hx hb dX5_input_23 rfl (lv_at hl 1 rfl) ?_
        refine lv_iadd hx hb dX5_input_24 ?_
        refine lv_bipush (v := (12 : Int32)) hx hb dX5_input_25 (by decide) ?_
        refine lv_icmp_le (tgt := 32) hx hb dX5_input_27 (by decide) (fun c4 => ?_) (fun c4 => ?_)
        · replace h := og_pos c4 h
          refine lv_aload_n hx hb dX5_input_32 rfl (lv_at hl 0 rfl) ?_
          refine va_get (D := D) (C := RX5) (T := TX5) (N := 40) hx hb hT inlX5 hown hK.1 hP 0 rfl rfl 6 (by decide) (hT _ fl_RX5_7) (fun _ h9 => h9) rfl dX5_input_33 ?_
          refine lv_aload_n hx hb dX5_input_36 rfl (lv_at hl 0 rfl) ?_
          refine va_get (D := D) (C := RX5) (T := TX5) (N := 40) hx hb hT inlX5 hown hK.1 hP 0 rfl rfl 1 (by decide) (hT _ fl_RX5_84) (fun _ h9 => h9) rfl dX5_input_37 ?_
          refine lv_iload_n hx hb dX5_input_40 rfl (lv_at hl 1 rfl) ?_
          obtain ⟨g5, h⟩ := og_guard h
          refine va_iast hx hb hK.1 hP hD hS 1 0 rfl rfl (inb_vp g5) dX5_input_41 (fun H locs hP hD hS => ?_)
          have hP : va_P D vwCl (wl [gR cA aR rI (up2 rA 0 (rI 1).toNatClampNeg u1) rG] ++ gG cA K rR) H := hP
          have hD : va_D A (wl [gR cA aR rI (up2 rA 0 (rI 1).toNatClampNeg u1) rG] ++ gG cA K rR) := hD
          refine lv_aload_n hx hb dX5_input_42 rfl (lv_at hl 0 rfl) ?_
          refine va_get (D := D) (C := RX5) (T := TX5) (N := 40) hx hb hT inlX5 hown hK.1 hP 0 rfl rfl 7 (by decide) (hT _ fl_RX5_13) (fun _ h9 => h9) rfl dX5_input_43 ?_
          refine lv_aload_n hx hb dX5_input_46 rfl (lv_at hl 0 rfl) ?_
          refine va_get (D := D) (C := RX5) (T := TX5) (N := 40) hx hb hT inlX5 hown hK.1 hP 0 rfl rfl 1 (by decide) (hT _ fl_RX5_84) (fun _ h9 => h9) rfl dX5_input_47 ?_
          refine lv_iload_n hx hb dX5_input_50 rfl (lv_at hl 2 rfl) ?_
          obtain ⟨rA_7, e8, h⟩ := og_bind h
          rw [← og_inj e8] at hP hD
          obtain ⟨g6, h⟩ := og_guard h
          refine va_zast hx hb hK.1 hP hD hS 2 1 rfl rfl (inb_vp g6) dX5_input_51 (fun H locs hP hD hS => ?_)
          have hP : va_P D vwCl (wl [gR cA aR rI (up2 rA_7 1 (rI 1).toNatClampNeg (vp_nar .boolean u2)) rG] ++ gG cA K rR) H := hP
          have hD : va_D A (wl [gR cA aR rI (up2 rA_7 1 (rI 1).toNatClampNeg (vp_nar .boolean u2)) rG] ++ gG cA K rR) := hD
          refine lv_aload_n hx hb dX5_input_52 rfl (lv_at hl 0 rfl) ?_
          refine lv_dup hx hb dX5_input_53 rfl ?_
          refine va_get (D := D) (C := RX5) (T := TX5) (N := 40) hx hb hT inlX5 hown hK.1 hP 0 rfl rfl 1 (by decide) (hT _ fl_RX5_84) (fun _ h9 => h9) rfl dX5_input_54 ?_
          refine lv_iconst (v := (1 : Int32)) hx hb dX5_input_57 (by decide) ?_
          refine lv_iadd hx hb dX5_input_58 ?_
          refine va_put (D := D) (v := .int ((rI 1) + (1 : Int32))) (ty := .int) (C := RX5) (T := TX5) (N := 40) hx hb hT inlX5 tyX5 tyX5_ok nmX5 hown hK.1 hP hD hS 0 rfl rfl 1 (by decide) (hT _ fl_RX5_84) (fun _ h9 => h9) rfl (by decide +kernel) rfl rfl (Nat.le_of_ble_eq_true rfl) dX5_input_59 (fun H locs hP hD hS => ?_)
          have hP : va_P D vwCl (wl [gR cA aR (upd rI 1 ((rI 1) + (1 : Int32))) (up2 rA_7 1 (rI 1).toNatClampNeg (vp_nar .boolean u2)) rG] ++ gG cA K rR) H := hP
          have hD : va_D A (wl [gR cA aR (upd rI 1 ((rI 1) + (1 : Int32))) (up2 rA_7 1 (rI 1).toNatClampNeg (vp_nar .boolean u2)) rG] ++ gG cA K rR) := hD
          refine lv_aload_n hx hb dX5_input_62 rfl (lv_at hl 0 rfl) ?_
          refine lv_dup hx hb dX5_input_63 rfl ?_
          refine va_get (D := D) (C := RX5) (T := TX5) (N := 40) hx hb hT inlX5 hown hK.1 hP 0 rfl rfl 2 (by decide) (hT _ fl_RX5_87) (fun _ h9 => h9) rfl dX5_input_64 ?_
          refine lv_iload_n hx hb dX5_input_67 rfl (lv_at hl 1 rfl) ?_
          refine lv_iadd hx hb dX5_input_68 ?_
          refine va_put (D := D) (v := .int (((upd rI 1 ((rI 1) + (1 : Int32))) 2) + u1)) (ty := .int) (C := RX5) (T := TX5) (N := 40) hx hb hT inlX5 tyX5 tyX5_ok nmX5 hown hK.1 hP hD hS 0 rfl rfl 2 (by decide) (hT _ fl_RX5_87) (fun _ h9 => h9) rfl (by decide +kernel) rfl rfl (Nat.le_of_ble_eq_true rfl) dX5_input_69 (fun H locs hP hD hS => ?_)
          have hP : va_P D vwCl (wl [gR cA aR (upd (upd rI 1 ((rI 1) + (1 : Int32))) 2 (((upd rI 1 ((rI 1) + (1 : Int32))) 2) + u1)) (up2 rA_7 1 (rI 1).toNatClampNeg (vp_nar .boolean u2)) rG] ++ gG cA K rR) H := hP
          have hD : va_D A (wl [gR cA aR (upd (upd rI 1 ((rI 1) + (1 : Int32))) 2 (((upd rI 1 ((rI 1) + (1 : Int32))) 2) + u1)) (up2 rA_7 1 (rI 1).toNatClampNeg (vp_nar .boolean u2)) rG] ++ gG cA K rR) := hD
          refine lv_aload_n hx hb dX5_input_72 rfl (lv_at hl 0 rfl) ?_
          obtain ⟨rI9, e9, h⟩ := og_bind h
          refine gc_v (ws := (wl [gR cA aR (upd (upd rI 1 ((rI 1) + (1 : Int32))) 2 (((upd rI 1 ((rI 1) + (1 : Int32))) 2) + u1)) (up2 rA_7 1 (rI 1).toNatClampNeg (vp_nar .boolean u2)) rG] ++ gG cA K rR)) (wc := (wl [gR cA aR (upd (upd rI 1 ((rI 1) + (1 : Int32))) 2 (((upd rI 1 ((rI 1) + (1 : Int32))) 2) + u1)) (up2 rA_7 1 (rI 1).toNatClampNeg (vp_nar .boolean u2)) rG] ++ gG cA K rR)) (wr := (wl ([] : List va_W))) (ws' := (wl [gR cA aR rI9 (up2 rA_7 1 (rI 1).toNatClampNeg (vp_nar .boolean u2)) rG] ++ gG cA K rR)) (va_runV (As := []) (rest := []) ⟨hx, hb, hml, hown, hT⟩ (k_X5_changed l D cA aR K H.size  (upd (upd rI 1 ((rI 1) + (1 : Int32))) 2 (((upd rI 1 ((rI 1) + (1 : Int32))) 2) + u1)) (up2 rA_7 1 (rI 1).toNatClampNeg (vp_nar .boolean u2)) rG rR _ e9) (cwV 0 hT gv_RX5_90 rfl rfl rfl (by decide +kernel) ⟨Nat.le_of_ble_eq_true rfl, Nat.le_of_ble_eq_true rfl⟩) (pre_V (ci := 5) (q0 := 0) (wr := (wl ([] : List va_W))) (pmB (f := fun i => ([gR cA aR (upd (upd rI 1 ((rI 1) + (1 : Int32))) 2 (((upd rI 1 ((rI 1) + (1 : Int32))) 2) + u1)) (up2 rA_7 1 (rI 1).toNatClampNeg (vp_nar .boolean u2)) rG] : List va_W).getD i []) [0] [0] [] (by decide)) hK hP hD rfl rfl) rfl rfl hl.1 rfl (lv_room (Nat.le_of_ble_eq_true rfl)) dX5_input_73 ⟨Nat.le_refl _, Nat.le_refl _⟩) (pmB (f := fun i => ([gR cA aR (upd (upd rI 1 ((rI 1) + (1 : Int32))) 2 (((upd rI 1 ((rI 1) + (1 : Int32))) 2) + u1)) (up2 rA_7 1 (rI 1).toNatClampNeg (vp_nar .boolean u2)) rG] : List va_W).getD i []) [0] [0] [] (by decide)) hP hD hS hA (pmB (f := fun i => ([gR cA aR rI9 (up2 rA_7 1 (rI 1).toNatClampNeg (vp_nar .boolean u2)) rG] : List va_W).getD i []) [0] [0] [] (by decide)) (fun H locs hP hD hS => ?_)
          refine lv_aload_n hx hb dX5_input_76 rfl (lv_at hl 0 rfl) ?_
          refine va_get (D := D) (C := RX5) (T := TX5) (N := 40) hx hb hT inlX5 hown hK.1 hP 0 rfl rfl 1 (by decide) (hT _ fl_RX5_84) (fun _ h9 => h9) rfl dX5_input_77 ?_
          refine lv_iconst (v := (1 : Int32)) hx hb dX5_input_80 (by decide) ?_
          refine lv_isub hx hb dX5_input_81 ?_
          exact W.iret (v := ((rI9 1) - (1 : Int32))) hx hb hr (fun t ht hW => ⟨⟨((rI9 1) - (1 : Int32)), (rI9, (up2 rA_7 1 (rI 1).toNatClampNeg (vp_nar .boolean u2))), rfl, ⟨(congrArg Prod.fst (og_inj h)).symm, (congrArg Prod.snd (og_inj h)).symm⟩, (by rw [ht]; exact hP), hD⟩, hS.F ht⟩) hS.2.2 dX5_input_82
        · replace h := og_neg c4 h
          refine lv_iconst (v := (-1 : Int32)) hx hb dX5_input_30 (by decide) ?_
          exact W.iret (v := (-1 : Int32)) hx hb hr (fun t ht hW => ⟨⟨(-1 : Int32), (rI, rA), rfl, ⟨(congrArg Prod.fst (og_inj h)).symm, (congrArg Prod.snd (og_inj h)).symm⟩, (by rw [ht]; exact hP), hD⟩, hS.F ht⟩) hS.2.2 dX5_input_31
set_option maxRecDepth 100000 in
set_option maxHeartbeats 8000000 in
theorem k_X5_tell (l : Launch) (D : va_G) (cA : Nat → ClassId) (aR : Nat → Nat) (K : List Nat) (sz : Nat) (u1 : Int32) (u2 : Int32) (u3 : Int32) (u4 : Int32) (rI : Nat → Int32) (rA : Nat → Nat → Int32) (rG : Nat → Option Nat) (rR : Nat → Nat → Int32) (R : Int32 × (Nat → Int32) × (Nat → Nat → Int32)) (h : f_X5_tell K u1 u2 u3 u4 rI rA = some R) : Met l yX5_tell (wsU yX5_tell cX5_tell 5 (some .int)) ({ frames := 2, cells := 0, slots := 0, locals := 45 }) (PcW D cA (wl [gR cA aR rI rA rG] ++ gG cA K rR) sz [.ref (aR 0), .int u1, .int u2, .int u3, .int u4]) (QI D (fun u : (Nat → Int32) × (Nat → Nat → Int32) => (wl [gR cA aR u.1 u.2 rG] ++ gG cA K rR)) R (va_A (wl [gR cA aR rI rA rG] ++ gG cA K rR) sz)) 0 0 (va_A (wl [gR cA aR rI rA rG] ++ gG cA K rR) sz) := by
  refine Met.ofW (cc := cX5_tell) (maxL := 5) (ret := (some .int)) (by decide) rfl ?_
  intro p e s m args below meth c s₁ B hml hv
  obtain ⟨rfl, hsz, hP, hK, hD0⟩ := hv
  have hx := B.exec
  have hb := B.bytes
  have hr := B.returns
  have hts := atoms_spec (ws := (wsU yX5_tell cX5_tell 5 (some .int))) B.pre
  have hT : ∀ w ∈ wsL_law, w.before ([.ref (aR 0), .int u1, .int u2, .int u3, .int u4] : List Value).toArray s = true := fun w h => hts w (List.mem_cons_of_mem _ h)
  have hown : s.vm.findClass RX5 = some m.cls := findClass_of_methodNamed B.named
  have hlocks := B.notSynchronized
  have hN := hK.2
  subst hsz
  have hD := hD0.self (sz := s.heap.size)
  generalize hAe : va_A (wl [gR cA aR rI rA rG] ++ gG cA K rR) s.heap.size = A at hD ⊢
  have hA : ∀ q : Nat, s.heap.size ≤ q → A q := fun q h => by rw [← hAe]; exact Or.inr h
  have hS : va_S A s.heap s.heap [] := va_S.rf
  have hl := lv_entry ([.ref (aR 0), .int u1, .int u2, .int u3, .int u4]) (n := 5) (Nat.le_of_ble_eq_true rfl)
  rw [lg_entry_eq]
  generalize (lg_sl ([.ref (aR 0), .int u1, .int u2, .int u3, .int u4]) ++ List.replicate (5 - (lg_sl ([.ref (aR 0), .int u1, .int u2, .int u3, .int u4])).length) Slot.unset).toArray = ls at hl ⊢
  have hl : lv_has ls 5 [(0, .ref (aR 0)), (1, .int u1), (2, .int u2), (3, .int u3), (4, .int u4)] := hl
  have b130 : ∀ (y1 : Int32) (y2 : Int32) (rI : Nat → Int32) (rA : Nat → Nat → Int32) (H : Heap) (locs : List Loc) (ls : Array Slot), f_X5_tell_b130 K y1 y2 rI rA = some R → va_P D vwCl (wl [gR cA aR rI rA rG] ++ gG cA K rR) H → va_D A (wl [gR cA aR rI rA rG] ++ gG cA K rR) → va_S A s.heap H locs → lv_has ls 5 [(0, .ref (aR 0))] → W p l e (headSpec (wsU yX5_tell cX5_tell 5 (some .int)) ({ frames := 2, cells := 0, slots := 0, locals := 45 })).room s m ([.ref (aR 0), .int u1, .int u2, .int u3, .int u4] : List Value).toArray below meth c H locs 0 0 (MQ below (QI D (fun u : (Nat → Int32) × (Nat → Nat → Int32) => (wl [gR cA aR u.1 u.2 rG] ++ gG cA K rR)) R A) ([.ref (aR 0), .int u1, .int u2, .int u3, .int u4] : List Value).toArray s 0 0 A) (F0 m 130 ls [.int y2, .int y1, .ref (aR 0)]) := by
    intro y1 y2 rI rA H locs ls h hP hD hS hl
    unfold f_X5_tell_b130 at h
    refine lv_iadd hx hb dX5_tell_130 ?_
    refine va_put (D := D) (v := .int (y1 + y2)) (ty := .int) (C := RX5) (T := TX5) (N := 40) hx hb hT inlX5 tyX5 tyX5_ok nmX5 hown hK.1 hP hD hS 0 rfl rfl 5 (by decide) (hT _ fl_RX5_113) (fun _ h9 => h9) rfl (by decide +kernel) rfl rfl (Nat.le_of_ble_eq_true rfl) dX5_tell_131 (fun H locs hP hD hS => ?_)
    have hP : va_P D vwCl (wl [gR cA aR (upd rI 5 (y1 + y2)) rA rG] ++ gG cA K rR) H := hP
    have hD : va_D A (wl [gR cA aR (upd rI 5 (y1 + y2)) rA rG] ++ gG cA K rR) := hD
    refine lv_aload_n hx hb dX5_tell_134 rfl (lv_at hl 0 rfl) ?_
    refine lv_dup hx hb dX5_tell_135 rfl ?_
    refine va_get (D := D) (C := RX5) (T := TX5) (N := 40) hx hb hT inlX5 hown hK.1 hP 0 rfl rfl 3 (by decide) (hT _ fl_RX5_93) (fun _ h9 => h9) rfl dX5_tell_136 ?_
    refine lv_iconst (v := (1 : Int32)) hx hb dX5_tell_139 (by decide) ?_
    refine lv_iadd hx hb dX5_tell_140 ?_
    refine va_put (D := D) (v := .int (((upd rI 5 (y1 + y2)) 3) + (1 : Int32))) (ty := .int) (C := RX5) (T := TX5) (N := 40) hx hb hT inlX5 tyX5 tyX5_ok nmX5 hown hK.1 hP hD hS 0 rfl rfl 3 (by decide) (hT _ fl_RX5_93) (fun _ h9 => h9) rfl (by decide +kernel) rfl rfl (Nat.le_of_ble_eq_true rfl) dX5_tell_141 (fun H locs hP hD hS => ?_)
    have hP : va_P D vwCl (wl [gR cA aR (upd (upd rI 5 (y1 + y2)) 3 (((upd rI 5 (y1 + y2)) 3) + (1 : Int32))) rA rG] ++ gG cA K rR) H := hP
    have hD : va_D A (wl [gR cA aR (upd (upd rI 5 (y1 + y2)) 3 (((upd rI 5 (y1 + y2)) 3) + (1 : Int32))) rA rG] ++ gG cA K rR) := hD
    refine lv_aload_n hx hb dX5_tell_144 rfl (lv_at hl 0 rfl) ?_
    obtain ⟨rI1, e1, h⟩ := og_bind h
    refine gc_v (ws := (wl [gR cA aR (upd (upd rI 5 (y1 + y2)) 3 (((upd rI 5 (y1 + y2)) 3) + (1 : Int32))) rA rG] ++ gG cA K rR)) (wc := (wl [gR cA aR (upd (upd rI 5 (y1 + y2)) 3 (((upd rI 5 (y1 + y2)) 3) + (1 : Int32))) rA rG] ++ gG cA K rR)) (wr := (wl ([] : List va_W))) (ws' := (wl [gR cA aR rI1 rA rG] ++ gG cA K rR)) (va_runV (As := []) (rest := []) ⟨hx, hb, hml, hown, hT⟩ (k_X5_changed l D cA aR K H.size  (upd (upd rI 5 (y1 + y2)) 3 (((upd rI 5 (y1 + y2)) 3) + (1 : Int32))) rA rG rR _ e1) (cwV 0 hT gv_RX5_90 rfl rfl rfl (by decide +kernel) ⟨Nat.le_of_ble_eq_true rfl, Nat.le_of_ble_eq_true rfl⟩) (pre_V (ci := 5) (q0 := 0) (wr := (wl ([] : List va_W))) (pmB (f := fun i => ([gR cA aR (upd (upd rI 5 (y1 + y2)) 3 (((upd rI 5 (y1 + y2)) 3) + (1 : Int32))) rA rG] : List va_W).getD i []) [0] [0] [] (by decide)) hK hP hD rfl rfl) rfl rfl hl.1 rfl (lv_room (Nat.le_of_ble_eq_true rfl)) dX5_tell_145 ⟨Nat.le_refl _, Nat.le_refl _⟩) (pmB (f := fun i => ([gR cA aR (upd (upd rI 5 (y1 + y2)) 3 (((upd rI 5 (y1 + y2)) 3) + (1 : Int32))) rA rG] : List va_W).getD i []) [0] [0] [] (by decide)) hP hD hS hA (pmB (f := fun i => ([gR cA aR rI1 rA rG] : List va_W).getD i []) [0] [0] [] (by decide)) (fun H locs hP hD hS => ?_)
    refine lv_aload_n hx hb dX5_tell_148 rfl (lv_at hl 0 rfl) ?_
    refine va_get (D := D) (C := RX5) (T := TX5) (N := 40) hx hb hT inlX5 hown hK.1 hP 0 rfl rfl 3 (by decide) (hT _ fl_RX5_93) (fun _ h9 => h9) rfl dX5_tell_149 ?_
    refine lv_iconst (v := (1 : Int32)) hx hb dX5_tell_152 (by decide) ?_
    refine lv_isub hx hb dX5_tell_153 ?_
    exact W.iret (v := ((rI1 3) - (1 : Int32))) hx hb hr (fun t ht hW => ⟨⟨((rI1 3) - (1 : Int32)), (rI1, rA), rfl, ⟨(congrArg Prod.fst (og_inj h)).symm, (congrArg Prod.snd (og_inj h)).symm⟩, (by rw [ht]; exact hP), hD⟩, hS.F ht⟩) hS.2.2 dX5_tell_154
  have b109 : ∀ (x1 : Int32) (y1 : Int32) (y2 : Int32) (rI : Nat → Int32) (rA : Nat → Nat → Int32) (H : Heap) (locs : List Loc) (ls : Array Slot), f_X5_tell_b109 K x1 y1 y2 rI rA = some R → va_P D vwCl (wl [gR cA aR rI rA rG] ++ gG cA K rR) H → va_D A (wl [gR cA aR rI rA rG] ++ gG cA K rR) → va_S A s.heap H locs → lv_has ls 5 [(0, .ref (aR 0)), (1, .int x1)] → W p l e (headSpec (wsU yX5_tell cX5_tell 5 (some .int)) ({ frames := 2, cells := 0, slots := 0, locals := 45 })).room s m ([.ref (aR 0), .int u1, .int u2, .int u3, .int u4] : List Value).toArray below meth c H locs 0 0 (MQ below (QI D (fun u : (Nat → Int32) × (Nat → Nat → Int32) => (wl [gR cA aR u.1 u.2 rG] ++ gG cA K rR)) R A) ([.ref (aR 0), .int u1, .int u2, .int u3, .int u4] : List Value).toArray s 0 0 A) (F0 m 109 ls [.int y2, .int y1, .ref (aR 0)]) := by
    intro x1 y1 y2 rI rA H locs ls h hP hD hS hl
    unfold f_X5_tell_b109 at h
    refine lv_iadd hx hb dX5_tell_109 ?_
    refine va_put (D := D) (v := .int (y1 + y2)) (ty := .int) (C := RX5) (T := TX5) (N := 40) hx hb hT inlX5 tyX5 tyX5_ok nmX5 hown hK.1 hP hD hS 0 rfl rfl 4 (by decide) (hT _ fl_RX5_107) (fun _ h9 => h9) rfl (by decide +kernel) rfl rfl (Nat.le_of_ble_eq_true rfl) dX5_tell_110 (fun H locs hP hD hS => ?_)
    have hP : va_P D vwCl (wl [gR cA aR (upd rI 4 (y1 + y2)) rA rG] ++ gG cA K rR) H := hP
    have hD : va_D A (wl [gR cA aR (upd rI 4 (y1 + y2)) rA rG] ++ gG cA K rR) := hD
    refine lv_aload_n hx hb dX5_tell_113 rfl (lv_at hl 0 rfl) ?_
    refine lv_dup hx hb dX5_tell_114 rfl ?_
    refine va_get (D := D) (C := RX5) (T := TX5) (N := 40) hx hb hT inlX5 hown hK.1 hP 0 rfl rfl 5 (by decide) (hT _ fl_RX5_113) (fun _ h9 => h9) rfl dX5_tell_115 ?_
    refine lv_iload_n hx hb dX5_tell_118 rfl (lv_at hl 1 rfl) ?_
    obtain ⟨⟨r2, _u2⟩, e2, h⟩ := og_bind h
    try dsimp only at h
    refine gc_i (ws := (wl [gR cA aR (upd rI 4 (y1 + y2)) rA rG] ++ gG cA K rR)) (wc := (wl ([] : List va_W))) (wr := (wl [gR cA aR (upd rI 4 (y1 + y2)) rA rG] ++ gG cA K rR)) (ws' := (wl [gR cA aR (upd rI 4 (y1 + y2)) rA rG] ++ gG cA K rR)) (va_runS (As := [.int x1]) (rest := [.int ((upd rI 4 (y1 + y2)) 5), .ref (aR 0)]) ⟨hx, hb, hml, hown, hT⟩ (k_X5_isDivision l D cA  H.size x1  _ e2) (cwS 1 hT gs_RX5_110 rfl rfl rfl (by decide +kernel) ⟨Nat.le_of_ble_eq_true rfl, Nat.le_of_ble_eq_true rfl⟩) (pre_S (wr := (wl [gR cA aR (upd rI 4 (y1 + y2)) rA rG] ++ gG cA K rR)) (pmC (f := fun i => ([gR cA aR (upd rI 4 (y1 + y2)) rA rG] : List va_W).getD i []) [0] [] [0] (by decide)) hK hP hD) rfl rfl hl.1 rfl (lv_room (Nat.le_of_ble_eq_true rfl)) dX5_tell_119 ⟨Nat.le_refl _, Nat.le_refl _⟩) (pmC (f := fun i => ([gR cA aR (upd rI 4 (y1 + y2)) rA rG] : List va_W).getD i []) [0] [] [0] (by decide)) hP hD hS hA (pmC (f := fun i => ([gR cA aR (upd rI 4 (y1 + y2)) rA rG] : List va_W).getD i []) [0] [] [0] (by decide)) (fun H locs hP hD hS => ?_)
    refine lv_if_eq (tgt := 129) hx hb dX5_tell_122 (by decide) (fun c3 => ?_) (fun c3 => ?_)
    · replace h := og_pos c3 h
      refine lv_iconst (v := (0 : Int32)) hx hb dX5_tell_129 (by decide) ?_
      exact b130  _ _ _ _ _ _ _ h hP hD hS (lv_sub hl [0] rfl)
    · replace h := og_neg c3 h
      refine lv_iconst (v := (1 : Int32)) hx hb dX5_tell_125 (by decide) ?_
      refine lv_goto (tgt := 130) hx hb dX5_tell_126 (by decide) ?_
      exact b130  _ _ _ _ _ _ _ h hP hD hS (lv_sub hl [0] rfl)
  have b53 : ∀ (x1 : Int32) (x2 : Int32) (x3 : Int32) (x4 : Int32) (rI : Nat → Int32) (rA : Nat → Nat → Int32) (H : Heap) (locs : List Loc) (ls : Array Slot), f_X5_tell_b53 K x1 x2 x3 x4 rI rA = some R → va_P D vwCl (wl [gR cA aR rI rA rG] ++ gG cA K rR) H → va_D A (wl [gR cA aR rI rA rG] ++ gG cA K rR) → va_S A s.heap H locs → lv_has ls 5 [(0, .ref (aR 0)), (1, .int x1), (2, .int x2), (3, .int x3), (4, .int x4)] → W p l e (headSpec (wsU yX5_tell cX5_tell 5 (some .int)) ({ frames := 2, cells := 0, slots := 0, locals := 45 })).room s m ([.ref (aR 0), .int u1, .int u2, .int u3, .int u4] : List Value).toArray below meth c H locs 0 0 (MQ below (QI D (fun u : (Nat → Int32) × (Nat → Nat → Int32) => (wl [gR cA aR u.1 u.2 rG] ++ gG cA K rR)) R A) ([.ref (aR 0), .int u1, .int u2, .int u3, .int u4] : List Value).toArray s 0 0 A) (F0 m 53 ls []) := by
    intro x1 x2 x3 x4 rI rA H locs ls h hP hD hS hl
    unfold f_X5_tell_b53 at h
    refine lv_aload_n hx hb dX5_tell_53 rfl (lv_at hl 0 rfl) ?_
    refine va_get (D := D) (C := RX5) (T := TX5) (N := 40) hx hb hT inlX5 hown hK.1 hP 0 rfl rfl 8 (by decide) (hT _ fl_RX5_17) (fun _ h9 => h9) rfl dX5_tell_54 ?_
    refine lv_aload_n hx hb dX5_tell_57 rfl (lv_at hl 0 rfl) ?_
    refine va_get (D := D) (C := RX5) (T := TX5) (N := 40) hx hb hT inlX5 hown hK.1 hP 0 rfl rfl 3 (by decide) (hT _ fl_RX5_93) (fun _ h9 => h9) rfl dX5_tell_58 ?_
    refine lv_iload_n hx hb dX5_tell_61 rfl (lv_at hl 1 rfl) ?_
    obtain ⟨g4, h⟩ := og_guard h
    refine va_iast hx hb hK.1 hP hD hS 3 0 rfl rfl (inb_vp g4) dX5_tell_62 (fun H locs hP hD hS => ?_)
    have hP : va_P D vwCl (wl [gR cA aR rI (up2 rA 2 (rI 3).toNatClampNeg x1) rG] ++ gG cA K rR) H := hP
    have hD : va_D A (wl [gR cA aR rI (up2 rA 2 (rI 3).toNatClampNeg x1) rG] ++ gG cA K rR) := hD
    refine lv_aload_n hx hb dX5_tell_63 rfl (lv_at hl 0 rfl) ?_
    refine va_get (D := D) (C := RX5) (T := TX5) (N := 40) hx hb hT inlX5 hown hK.1 hP 0 rfl rfl 9 (by decide) (hT _ fl_RX5_20) (fun _ h9 => h9) rfl dX5_tell_64 ?_
    refine lv_aload_n hx hb dX5_tell_67 rfl (lv_at hl 0 rfl) ?_
    refine va_get (D := D) (C := RX5) (T := TX5) (N := 40) hx hb hT inlX5 hown hK.1 hP 0 rfl rfl 3 (by decide) (hT _ fl_RX5_93) (fun _ h9 => h9) rfl dX5_tell_68 ?_
    refine lv_iload_n hx hb dX5_tell_71 rfl (lv_at hl 2 rfl) ?_
    obtain ⟨rA_6, e7, h⟩ := og_bind h
    rw [← og_inj e7] at hP hD
    obtain ⟨g5, h⟩ := og_guard h
    refine va_iast hx hb hK.1 hP hD hS 4 0 rfl rfl (inb_vp g5) dX5_tell_72 (fun H locs hP hD hS => ?_)
    have hP : va_P D vwCl (wl [gR cA aR rI (up2 rA_6 3 (rI 3).toNatClampNeg x2) rG] ++ gG cA K rR) H := hP
    have hD : va_D A (wl [gR cA aR rI (up2 rA_6 3 (rI 3).toNatClampNeg x2) rG] ++ gG cA K rR) := hD
    refine lv_aload_n hx hb dX5_tell_73 rfl (lv_at hl 0 rfl) ?_
    refine va_get (D := D) (C := RX5) (T := TX5) (N := 40) hx hb hT inlX5 hown hK.1 hP 0 rfl rfl 10 (by decide) (hT _ fl_RX5_23) (fun _ h9 => h9) rfl dX5_tell_74 ?_
    refine lv_aload_n hx hb dX5_tell_77 rfl (lv_at hl 0 rfl) ?_
    refine va_get (D := D) (C := RX5) (T := TX5) (N := 40) hx hb hT inlX5 hown hK.1 hP 0 rfl rfl 3 (by decide) (hT _ fl_RX5_93) (fun _ h9 => h9) rfl dX5_tell_78 ?_
    refine lv_iload_n hx hb dX5_tell_81 rfl (lv_at hl 3 rfl) ?_
    obtain ⟨rA_9, e10, h⟩ := og_bind h
    rw [← og_inj e10] at hP hD
    obtain ⟨g8, h⟩ := og_guard h
    refine va_iast hx hb hK.1 hP hD hS 5 0 rfl rfl (inb_vp g8) dX5_tell_82 (fun H locs hP hD hS => ?_)
    have hP : va_P D vwCl (wl [gR cA aR rI (up2 rA_9 4 (rI 3).toNatClampNeg x3) rG] ++ gG cA K rR) H := hP
    have hD : va_D A (wl [gR cA aR rI (up2 rA_9 4 (rI 3).toNatClampNeg x3) rG] ++ gG cA K rR) := hD
    refine lv_aload_n hx hb dX5_tell_83 rfl (lv_at hl 0 rfl) ?_
    refine va_get (D := D) (C := RX5) (T := TX5) (N := 40) hx hb hT inlX5 hown hK.1 hP 0 rfl rfl 11 (by decide) (hT _ fl_RX5_26) (fun _ h9 => h9) rfl dX5_tell_84 ?_
    refine lv_aload_n hx hb dX5_tell_87 rfl (lv_at hl 0 rfl) ?_
    refine va_get (D := D) (C := RX5) (T := TX5) (N := 40) hx hb hT inlX5 hown hK.1 hP 0 rfl rfl 3 (by decide) (hT _ fl_RX5_93) (fun _ h9 => h9) rfl dX5_tell_88 ?_
    refine lv_iload hx hb dX5_tell_91 (lv_at hl 4 rfl) ?_
    obtain ⟨rA_12, e13, h⟩ := og_bind h
    rw [← og_inj e13] at hP hD
    obtain ⟨g11, h⟩ := og_guard h
    refine va_iast hx hb hK.1 hP hD hS 6 0 rfl rfl (inb_vp g11) dX5_tell_93 (fun H locs hP hD hS => ?_)
    have hP : va_P D vwCl (wl [gR cA aR rI (up2 rA_12 5 (rI 3).toNatClampNeg x4) rG] ++ gG cA K rR) H := hP
    have hD : va_D A (wl [gR cA aR rI (up2 rA_12 5 (rI 3).toNatClampNeg x4) rG] ++ gG cA K rR) := hD
    refine lv_aload_n hx hb dX5_tell_94 rfl (lv_at hl 0 rfl) ?_
    refine lv_dup hx hb dX5_tell_95 rfl ?_
    refine va_get (D := D) (C := RX5) (T := TX5) (N := 40) hx hb hT inlX5 hown hK.1 hP 0 rfl rfl 4 (by decide) (hT _ fl_RX5_107) (fun _ h9 => h9) rfl dX5_tell_96 ?_
    refine lv_iload_n hx hb dX5_tell_99 rfl (lv_at hl 1 rfl) ?_
    refine lv_iconst (v := (5 : Int32)) hx hb dX5_tell_100 (by decide) ?_
    refine lv_icmp_ne (tgt := 108) hx hb dX5_tell_101 (by decide) (fun c14 => ?_) (fun c14 => ?_)
    · replace h := og_neg c14 h
      refine lv_iconst (v := (0 : Int32)) hx hb dX5_tell_108 (by decide) ?_
      exact b109  _ _ _ _ _ _ _ _ h hP hD hS (lv_sub hl [0, 1] rfl)
    · replace h := og_pos c14 h
      refine lv_iconst (v := (1 : Int32)) hx hb dX5_tell_104 (by decide) ?_
      refine lv_goto (tgt := 109) hx hb dX5_tell_105 (by decide) ?_
      exact b109  _ _ _ _ _ _ _ _ h hP hD hS (lv_sub hl [0, 1] rfl)
  have b35 : ∀ (x1 : Int32) (x2 : Int32) (x3 : Int32) (x4 : Int32) (rI : Nat → Int32) (rA : Nat → Nat → Int32) (H : Heap) (locs : List Loc) (ls : Array Slot), f_X5_tell_b35 K x1 x2 x3 x4 rI rA = some R → va_P D vwCl (wl [gR cA aR rI rA rG] ++ gG cA K rR) H → va_D A (wl [gR cA aR rI rA rG] ++ gG cA K rR) → va_S A s.heap H locs → lv_has ls 5 [(0, .ref (aR 0)), (1, .int x1), (2, .int x2), (3, .int x3), (4, .int x4)] → W p l e (headSpec (wsU yX5_tell cX5_tell 5 (some .int)) ({ frames := 2, cells := 0, slots := 0, locals := 45 })).room s m ([.ref (aR 0), .int u1, .int u2, .int u3, .int u4] : List Value).toArray below meth c H locs 0 0 (MQ below (QI D (fun u : (Nat → Int32) × (Nat → Nat → Int32) => (wl [gR cA aR u.1 u.2 rG] ++ gG cA K rR)) R A) ([.ref (aR 0), .int u1, .int u2, .int u3, .int u4] : List Value).toArray s 0 0 A) (F0 m 35 ls []) := by
    intro x1 x2 x3 x4 rI rA H locs ls h hP hD hS hl
    unfold f_X5_tell_b35 at h
    refine lv_iload_n hx hb dX5_tell_35 rfl (lv_at hl 1 rfl) ?_
    obtain ⟨⟨r15, _u15⟩, e15, h⟩ := og_bind h
    try dsimp only at h
    refine gc_i (ws := (wl [gR cA aR rI rA rG] ++ gG cA K rR)) (wc := (wl ([] : List va_W))) (wr := (wl [gR cA aR rI rA rG] ++ gG cA K rR)) (ws' := (wl [gR cA aR rI rA rG] ++ gG cA K rR)) (va_runS (As := [.int x1]) (rest := []) ⟨hx, hb, hml, hown, hT⟩ (k_X5_isDivision l D cA  H.size x1  _ e15) (cwS 1 hT gs_RX5_110 rfl rfl rfl (by decide +kernel) ⟨Nat.le_of_ble_eq_true rfl, Nat.le_of_ble_eq_true rfl⟩) (pre_S (wr := (wl [gR cA aR rI rA rG] ++ gG cA K rR)) (pmC (f := fun i => ([gR cA aR rI rA rG] : List va_W).getD i []) [0] [] [0] (by decide)) hK hP hD) rfl rfl hl.1 rfl (lv_room (Nat.le_of_ble_eq_true rfl)) dX5_tell_36 ⟨Nat.le_refl _, Nat.le_refl _⟩) (pmC (f := fun i => ([gR cA aR rI rA rG] : List va_W).getD i []) [0] [] [0] (by decide)) hP hD hS hA (pmC (f := fun i => ([gR cA aR rI rA rG] : List va_W).getD i []) [0] [] [0] (by decide)) (fun H locs hP hD hS => ?_)
    refine lv_if_eq (tgt := 53) hx hb dX5_tell_39 (by decide) (fun c16 => ?_) (fun c16 => ?_)
    · replace h := og_pos c16 h
      exact b53  _ _ _ _ _ _ _ _ _ h hP hD hS (lv_sub hl [0, 1, 2, 3, 4] rfl)
    · replace h := og_neg c16 h
      refine lv_aload_n hx hb dX5_tell_42 rfl (lv_at hl 0 rfl) ?_
      refine va_get (D := D) (C := RX5) (T := TX5) (N := 40) hx hb hT inlX5 hown hK.1 hP 0 rfl rfl 5 (by decide) (hT _ fl_RX5_113) (fun _ h9 => h9) rfl dX5_tell_43 ?_
      refine lv_bipush (v := (6 : Int32)) hx hb dX5_tell_46 (by decide) ?_
      refine lv_icmp_ne (tgt := 53) hx hb dX5_tell_48 (by decide) (fun c17 => ?_) (fun c17 => ?_)
      · replace h := og_neg c17 h
        exact b53  _ _ _ _ _ _ _ _ _ h hP hD hS (lv_sub hl [0, 1, 2, 3, 4] rfl)
      · replace h := og_pos c17 h
        refine lv_iconst (v := (-1 : Int32)) hx hb dX5_tell_51 (by decide) ?_
        exact W.iret (v := (-1 : Int32)) hx hb hr (fun t ht hW => ⟨⟨(-1 : Int32), (rI, rA), rfl, ⟨(congrArg Prod.fst (og_inj h)).symm, (congrArg Prod.snd (og_inj h)).symm⟩, (by rw [ht]; exact hP), hD⟩, hS.F ht⟩) hS.2.2 dX5_tell_52
  unfold f_X5_tell at h
  refine lv_aload_n hx hb dX5_tell_0 rfl (lv_at hl 0 rfl) ?_
  refine lv_iload_n hx hb dX5_tell_1 rfl (lv_at hl 1 rfl) ?_
  refine lv_iload_n hx hb dX5_tell_2 rfl (lv_at hl 2 rfl) ?_
  refine lv_iload_n hx hb dX5_tell_3 rfl (lv_at hl 3 rfl) ?_
  refine lv_iload hx hb dX5_tell_4 (lv_at hl 4 rfl) ?_
  obtain ⟨⟨r18, _u18⟩, e18, h⟩ := og_bind h
  try dsimp only at h
  refine gc_i (ws := (wl [gR cA aR rI rA rG] ++ gG cA K rR)) (wc := (wl [gR cA aR rI rA rG] ++ gG cA K rR)) (wr := (wl ([] : List va_W))) (ws' := (wl [gR cA aR rI rA rG] ++ gG cA K rR)) (va_runV (As := [.int u1, .int u2, .int u3, .int u4]) (rest := []) ⟨hx, hb, hml, hown, hT⟩ (k_X5_isGood l D cA aR K s.heap.size u1 u2 u3 u4 rI rA rG rR _ e18) (cwV 4 hT gv_RX5_103 rfl rfl rfl (by decide +kernel) ⟨Nat.le_of_ble_eq_true rfl, Nat.le_of_ble_eq_true rfl⟩) (pre_V (ci := 5) (q0 := 0) (wr := (wl ([] : List va_W))) (pmB (f := fun i => ([gR cA aR rI rA rG] : List va_W).getD i []) [0] [0] [] (by decide)) hK hP hD rfl rfl) rfl rfl hl.1 rfl (lv_room (Nat.le_of_ble_eq_true rfl)) dX5_tell_6 ⟨Nat.le_refl _, Nat.le_refl _⟩) (pmB (f := fun i => ([gR cA aR rI rA rG] : List va_W).getD i []) [0] [0] [] (by decide)) hP hD hS hA (pmB (f := fun i => ([gR cA aR rI rA rG] : List va_W).getD i []) [0] [0] [] (by decide)) (fun H locs hP hD hS => ?_)
  refine lv_if_eq (tgt := 51) hx hb dX5_tell_9 (by decide) (fun c19 => ?_) (fun c19 => ?_)
  · replace h := og_pos c19 h
    refine lv_iconst (v := (-1 : Int32)) hx hb dX5_tell_51 (by decide) ?_
    exact W.iret (v := (-1 : Int32)) hx hb hr (fun t ht hW => ⟨⟨(-1 : Int32), (rI, rA), rfl, ⟨(congrArg Prod.fst (og_inj h)).symm, (congrArg Prod.snd (og_inj h)).symm⟩, (by rw [ht]; exact hP), hD⟩, hS.F ht⟩) hS.2.2 dX5_tell_52
  · replace h := og_neg c19 h
    refine lv_aload_n hx hb dX5_tell_12 rfl (lv_at hl 0 rfl) ?_
    refine va_get (D := D) (C := RX5) (T := TX5) (N := 40) hx hb hT inlX5 hown hK.1 hP 0 rfl rfl 3 (by decide) (hT _ fl_RX5_93) (fun _ h9 => h9) rfl dX5_tell_13 ?_
    refine lv_bipush (v := (60 : Int32)) hx hb dX5_tell_16 (by decide) ?_
    refine lv_icmp_eq (tgt := 51) hx hb dX5_tell_18 (by decide) (fun c20 => ?_) (fun c20 => ?_)
    · replace h := og_pos c20 h
      refine lv_iconst (v := (-1 : Int32)) hx hb dX5_tell_51 (by decide) ?_
      exact W.iret (v := (-1 : Int32)) hx hb hr (fun t ht hW => ⟨⟨(-1 : Int32), (rI, rA), rfl, ⟨(congrArg Prod.fst (og_inj h)).symm, (congrArg Prod.snd (og_inj h)).symm⟩, (by rw [ht]; exact hP), hD⟩, hS.F ht⟩) hS.2.2 dX5_tell_52
    · replace h := og_neg c20 h
      refine lv_iload_n hx hb dX5_tell_21 rfl (lv_at hl 1 rfl) ?_
      refine lv_iconst (v := (5 : Int32)) hx hb dX5_tell_22 (by decide) ?_
      refine lv_icmp_ne (tgt := 35) hx hb dX5_tell_23 (by decide) (fun c21 => ?_) (fun c21 => ?_)
      · replace h := og_neg c21 h
        exact b35  _ _ _ _ _ _ _ _ _ h hP hD hS (lv_sub hl [0, 1, 2, 3, 4] rfl)
      · replace h := og_pos c21 h
        refine lv_aload_n hx hb dX5_tell_26 rfl (lv_at hl 0 rfl) ?_
        refine va_get (D := D) (C := RX5) (T := TX5) (N := 40) hx hb hT inlX5 hown hK.1 hP 0 rfl rfl 4 (by decide) (hT _ fl_RX5_107) (fun _ h9 => h9) rfl dX5_tell_27 ?_
        refine lv_bipush (v := (6 : Int32)) hx hb dX5_tell_30 (by decide) ?_
        refine lv_icmp_eq (tgt := 51) hx hb dX5_tell_32 (by decide) (fun c22 => ?_) (fun c22 => ?_)
        · replace h := og_pos c22 h
          refine lv_iconst (v := (-1 : Int32)) hx hb dX5_tell_51 (by decide) ?_
          exact W.iret (v := (-1 : Int32)) hx hb hr (fun t ht hW => ⟨⟨(-1 : Int32), (rI, rA), rfl, ⟨(congrArg Prod.fst (og_inj h)).symm, (congrArg Prod.snd (og_inj h)).symm⟩, (by rw [ht]; exact hP), hD⟩, hS.F ht⟩) hS.2.2 dX5_tell_52
        · replace h := og_neg c22 h
          exact b35  _ _ _ _ _ _ _ _ _ h hP hD hS (lv_sub hl [0, 1, 2, 3, 4] rfl)
set_option maxRecDepth 100000 in
set_option maxHeartbeats 8000000 in
theorem k_X5_clear (l : Launch) (D : va_G) (cA : Nat → ClassId) (aR : Nat → Nat) (K : List Nat) (sz : Nat) (rI : Nat → Int32) (rA : Nat → Nat → Int32) (rG : Nat → Option Nat) (rR : Nat → Nat → Int32) (R : Int32 × (Nat → Int32)) (h : f_X5_clear K rI = some R) : Met l yX5_clear (wsU yX5_clear cX5_clear 2 (some .int)) ({ frames := 1, cells := 0, slots := 0, locals := 20 }) (PcW D cA (wl [gR cA aR rI rA rG] ++ gG cA K rR) sz [.ref (aR 0)]) (QI D (fun u : (Nat → Int32) => (wl [gR cA aR u rA rG] ++ gG cA K rR)) R (va_A (wl [gR cA aR rI rA rG] ++ gG cA K rR) sz)) 0 0 (va_A (wl [gR cA aR rI rA rG] ++ gG cA K rR) sz) := by
  refine Met.ofW (cc := cX5_clear) (maxL := 2) (ret := (some .int)) (by decide) rfl ?_
  intro p e s m args below meth c s₁ B hml hv
  obtain ⟨rfl, hsz, hP, hK, hD0⟩ := hv
  have hx := B.exec
  have hb := B.bytes
  have hr := B.returns
  have hts := atoms_spec (ws := (wsU yX5_clear cX5_clear 2 (some .int))) B.pre
  have hT : ∀ w ∈ wsL_law, w.before ([.ref (aR 0)] : List Value).toArray s = true := fun w h => hts w (List.mem_cons_of_mem _ h)
  have hown : s.vm.findClass RX5 = some m.cls := findClass_of_methodNamed B.named
  have hlocks := B.notSynchronized
  have hN := hK.2
  subst hsz
  have hD := hD0.self (sz := s.heap.size)
  generalize hAe : va_A (wl [gR cA aR rI rA rG] ++ gG cA K rR) s.heap.size = A at hD ⊢
  have hA : ∀ q : Nat, s.heap.size ≤ q → A q := fun q h => by rw [← hAe]; exact Or.inr h
  have hS : va_S A s.heap s.heap [] := va_S.rf
  have hl := lv_entry ([.ref (aR 0)]) (n := 2) (Nat.le_of_ble_eq_true rfl)
  rw [lg_entry_eq]
  generalize (lg_sl ([.ref (aR 0)]) ++ List.replicate (2 - (lg_sl ([.ref (aR 0)])).length) Slot.unset).toArray = ls at hl ⊢
  have hl : lv_has ls 2 [(0, .ref (aR 0))] := hl
  unfold f_X5_clear at h
  refine lv_aload_n hx hb dX5_clear_0 rfl (lv_at hl 0 rfl) ?_
  refine va_get (D := D) (C := RX5) (T := TX5) (N := 40) hx hb hT inlX5 hown hK.1 hP 0 rfl rfl 3 (by decide) (hT _ fl_RX5_93) (fun _ h9 => h9) rfl dX5_clear_1 ?_
  refine lv_istore_n (lv' := [(1, .int (rI 3)), (0, .ref (aR 0))]) hx hb dX5_clear_4 rfl hl (by decide) rfl (fun ls hl => ?_)
  refine lv_aload_n hx hb dX5_clear_5 rfl (lv_at hl 1 rfl) ?_
  refine lv_iconst (v := (0 : Int32)) hx hb dX5_clear_6 (by decide) ?_
  refine va_put (D := D) (v := .int (0 : Int32)) (ty := .int) (C := RX5) (T := TX5) (N := 40) hx hb hT inlX5 tyX5 tyX5_ok nmX5 hown hK.1 hP hD hS 0 rfl rfl 1 (by decide) (hT _ fl_RX5_84) (fun _ h9 => h9) rfl (by decide +kernel) rfl rfl (Nat.le_of_ble_eq_true rfl) dX5_clear_7 (fun H locs hP hD hS => ?_)
  have hP : va_P D vwCl (wl [gR cA aR (upd rI 1 (0 : Int32)) rA rG] ++ gG cA K rR) H := hP
  have hD : va_D A (wl [gR cA aR (upd rI 1 (0 : Int32)) rA rG] ++ gG cA K rR) := hD
  refine lv_aload_n hx hb dX5_clear_10 rfl (lv_at hl 1 rfl) ?_
  refine lv_iconst (v := (0 : Int32)) hx hb dX5_clear_11 (by decide) ?_
  refine va_put (D := D) (v := .int (0 : Int32)) (ty := .int) (C := RX5) (T := TX5) (N := 40) hx hb hT inlX5 tyX5 tyX5_ok nmX5 hown hK.1 hP hD hS 0 rfl rfl 2 (by decide) (hT _ fl_RX5_87) (fun _ h9 => h9) rfl (by decide +kernel) rfl rfl (Nat.le_of_ble_eq_true rfl) dX5_clear_12 (fun H locs hP hD hS => ?_)
  have hP : va_P D vwCl (wl [gR cA aR (upd (upd rI 1 (0 : Int32)) 2 (0 : Int32)) rA rG] ++ gG cA K rR) H := hP
  have hD : va_D A (wl [gR cA aR (upd (upd rI 1 (0 : Int32)) 2 (0 : Int32)) rA rG] ++ gG cA K rR) := hD
  refine lv_aload_n hx hb dX5_clear_15 rfl (lv_at hl 1 rfl) ?_
  refine lv_iconst (v := (0 : Int32)) hx hb dX5_clear_16 (by decide) ?_
  refine va_put (D := D) (v := .int (0 : Int32)) (ty := .int) (C := RX5) (T := TX5) (N := 40) hx hb hT inlX5 tyX5 tyX5_ok nmX5 hown hK.1 hP hD hS 0 rfl rfl 3 (by decide) (hT _ fl_RX5_93) (fun _ h9 => h9) rfl (by decide +kernel) rfl rfl (Nat.le_of_ble_eq_true rfl) dX5_clear_17 (fun H locs hP hD hS => ?_)
  have hP : va_P D vwCl (wl [gR cA aR (upd (upd (upd rI 1 (0 : Int32)) 2 (0 : Int32)) 3 (0 : Int32)) rA rG] ++ gG cA K rR) H := hP
  have hD : va_D A (wl [gR cA aR (upd (upd (upd rI 1 (0 : Int32)) 2 (0 : Int32)) 3 (0 : Int32)) rA rG] ++ gG cA K rR) := hD
  refine lv_aload_n hx hb dX5_clear_20 rfl (lv_at hl 1 rfl) ?_
  refine lv_iconst (v := (0 : Int32)) hx hb dX5_clear_21 (by decide) ?_
  refine va_put (D := D) (v := .int (0 : Int32)) (ty := .int) (C := RX5) (T := TX5) (N := 40) hx hb hT inlX5 tyX5 tyX5_ok nmX5 hown hK.1 hP hD hS 0 rfl rfl 4 (by decide) (hT _ fl_RX5_107) (fun _ h9 => h9) rfl (by decide +kernel) rfl rfl (Nat.le_of_ble_eq_true rfl) dX5_clear_22 (fun H locs hP hD hS => ?_)
  have hP : va_P D vwCl (wl [gR cA aR (upd (upd (upd (upd rI 1 (0 : Int32)) 2 (0 : Int32)) 3 (0 : Int32)) 4 (0 : Int32)) rA rG] ++ gG cA K rR) H := hP
  have hD : va_D A (wl [gR cA aR (upd (upd (upd (upd rI 1 (0 : Int32)) 2 (0 : Int32)) 3 (0 : Int32)) 4 (0 : Int32)) rA rG] ++ gG cA K rR) := hD
  refine lv_aload_n hx hb dX5_clear_25 rfl (lv_at hl 1 rfl) ?_
  refine lv_iconst (v := (0 : Int32)) hx hb dX5_clear_26 (by decide) ?_
  refine va_put (D := D) (v := .int (0 : Int32)) (ty := .int) (C := RX5) (T := TX5) (N := 40) hx hb hT inlX5 tyX5 tyX5_ok nmX5 hown hK.1 hP hD hS 0 rfl rfl 5 (by decide) (hT _ fl_RX5_113) (fun _ h9 => h9) rfl (by decide +kernel) rfl rfl (Nat.le_of_ble_eq_true rfl) dX5_clear_27 (fun H locs hP hD hS => ?_)
  have hP : va_P D vwCl (wl [gR cA aR (upd (upd (upd (upd (upd rI 1 (0 : Int32)) 2 (0 : Int32)) 3 (0 : Int32)) 4 (0 : Int32)) 5 (0 : Int32)) rA rG] ++ gG cA K rR) H := hP
  have hD : va_D A (wl [gR cA aR (upd (upd (upd (upd (upd rI 1 (0 : Int32)) 2 (0 : Int32)) 3 (0 : Int32)) 4 (0 : Int32)) 5 (0 : Int32)) rA rG] ++ gG cA K rR) := hD
  refine lv_aload_n hx hb dX5_clear_30 rfl (lv_at hl 1 rfl) ?_
  refine lv_iconst (v := (0 : Int32)) hx hb dX5_clear_31 (by decide) ?_
  refine va_put (D := D) (v := .int (0 : Int32)) (ty := .boolean) (C := RX5) (T := TX5) (N := 40) hx hb hT inlX5 tyX5 tyX5_ok nmX5 hown hK.1 hP hD hS 0 rfl rfl 30 (by decide) (hT _ fl_RX5_116) (fun _ h9 => h9) rfl (by decide +kernel) (by decide +kernel) (by decide +kernel) (Nat.le_of_ble_eq_true rfl) dX5_clear_32 (fun H locs hP hD hS => ?_)
  have hP : va_P D vwCl (wl [gR cA aR (upd (upd (upd (upd (upd (upd rI 1 (0 : Int32)) 2 (0 : Int32)) 3 (0 : Int32)) 4 (0 : Int32)) 5 (0 : Int32)) 12 (0 : Int32)) rA rG] ++ gG cA K rR) H := hP
  have hD : va_D A (wl [gR cA aR (upd (upd (upd (upd (upd (upd rI 1 (0 : Int32)) 2 (0 : Int32)) 3 (0 : Int32)) 4 (0 : Int32)) 5 (0 : Int32)) 12 (0 : Int32)) rA rG] ++ gG cA K rR) := hD
  refine lv_aload_n hx hb dX5_clear_35 rfl (lv_at hl 1 rfl) ?_
  obtain ⟨rI1, e1, h⟩ := og_bind h
  refine gc_v (ws := (wl [gR cA aR (upd (upd (upd (upd (upd (upd rI 1 (0 : Int32)) 2 (0 : Int32)) 3 (0 : Int32)) 4 (0 : Int32)) 5 (0 : Int32)) 12 (0 : Int32)) rA rG] ++ gG cA K rR)) (wc := (wl [gR cA aR (upd (upd (upd (upd (upd (upd rI 1 (0 : Int32)) 2 (0 : Int32)) 3 (0 : Int32)) 4 (0 : Int32)) 5 (0 : Int32)) 12 (0 : Int32)) rA rG] ++ gG cA K rR)) (wr := (wl ([] : List va_W))) (ws' := (wl [gR cA aR rI1 rA rG] ++ gG cA K rR)) (va_runV (As := []) (rest := []) ⟨hx, hb, hml, hown, hT⟩ (k_X5_changed l D cA aR K H.size  (upd (upd (upd (upd (upd (upd rI 1 (0 : Int32)) 2 (0 : Int32)) 3 (0 : Int32)) 4 (0 : Int32)) 5 (0 : Int32)) 12 (0 : Int32)) rA rG rR _ e1) (cwV 0 hT gv_RX5_90 rfl rfl rfl (by decide +kernel) ⟨Nat.le_of_ble_eq_true rfl, Nat.le_of_ble_eq_true rfl⟩) (pre_V (ci := 5) (q0 := 0) (wr := (wl ([] : List va_W))) (pmB (f := fun i => ([gR cA aR (upd (upd (upd (upd (upd (upd rI 1 (0 : Int32)) 2 (0 : Int32)) 3 (0 : Int32)) 4 (0 : Int32)) 5 (0 : Int32)) 12 (0 : Int32)) rA rG] : List va_W).getD i []) [0] [0] [] (by decide)) hK hP hD rfl rfl) rfl rfl hl.1 rfl (lv_room (Nat.le_of_ble_eq_true rfl)) dX5_clear_36 ⟨Nat.le_refl _, Nat.le_refl _⟩) (pmB (f := fun i => ([gR cA aR (upd (upd (upd (upd (upd (upd rI 1 (0 : Int32)) 2 (0 : Int32)) 3 (0 : Int32)) 4 (0 : Int32)) 5 (0 : Int32)) 12 (0 : Int32)) rA rG] : List va_W).getD i []) [0] [0] [] (by decide)) hP hD hS hA (pmB (f := fun i => ([gR cA aR rI1 rA rG] : List va_W).getD i []) [0] [0] [] (by decide)) (fun H locs hP hD hS => ?_)
  refine lv_iload_n hx hb dX5_clear_39 rfl (lv_at hl 0 rfl) ?_
  exact W.iret (v := (rI 3)) hx hb hr (fun t ht hW => ⟨⟨(rI 3), (rI1), rfl, ⟨(congrArg Prod.fst (og_inj h)).symm, (congrArg Prod.snd (og_inj h)).symm⟩, (by rw [ht]; exact hP), hD⟩, hS.F ht⟩) hS.2.2 dX5_clear_40
set_option maxRecDepth 100000 in
set_option maxHeartbeats 8000000 in
theorem k_X5_words (l : Launch) (D : va_G) (cA : Nat → ClassId) (aR : Nat → Nat) (K : List Nat) (sz : Nat) (rI : Nat → Int32) (rA : Nat → Nat → Int32) (rG : Nat → Option Nat) (rR : Nat → Nat → Int32) (R : Int32 × Unit) (h : f_X5_words K rI = some R) : Met l yX5_words (wsU yX5_words cX5_words 1 (some .int)) ({ frames := 0, cells := 0, slots := 0, locals := 0 }) (PcW D cA (wl [gR cA aR rI rA rG] ++ gG cA K rR) sz [.ref (aR 0)]) (QI D (fun _ : Unit => (wl [gR cA aR rI rA rG] ++ gG cA K rR)) R (va_A (wl [gR cA aR rI rA rG] ++ gG cA K rR) sz)) 0 0 (va_A (wl [gR cA aR rI rA rG] ++ gG cA K rR) sz) := by
  refine Met.ofW (cc := cX5_words) (maxL := 1) (ret := (some .int)) (by decide) rfl ?_
  intro p e s m args below meth c s₁ B hml hv
  obtain ⟨rfl, hsz, hP, hK, hD0⟩ := hv
  have hx := B.exec
  have hb := B.bytes
  have hr := B.returns
  have hts := atoms_spec (ws := (wsU yX5_words cX5_words 1 (some .int))) B.pre
  have hT : ∀ w ∈ wsL_law, w.before ([.ref (aR 0)] : List Value).toArray s = true := fun w h => hts w (List.mem_cons_of_mem _ h)
  have hown : s.vm.findClass RX5 = some m.cls := findClass_of_methodNamed B.named
  have hlocks := B.notSynchronized
  have hN := hK.2
  subst hsz
  have hD := hD0.self (sz := s.heap.size)
  generalize hAe : va_A (wl [gR cA aR rI rA rG] ++ gG cA K rR) s.heap.size = A at hD ⊢
  have hA : ∀ q : Nat, s.heap.size ≤ q → A q := fun q h => by rw [← hAe]; exact Or.inr h
  have hS : va_S A s.heap s.heap [] := va_S.rf
  have hl := lv_entry ([.ref (aR 0)]) (n := 1) (Nat.le_of_ble_eq_true rfl)
  rw [lg_entry_eq]
  generalize (lg_sl ([.ref (aR 0)]) ++ List.replicate (1 - (lg_sl ([.ref (aR 0)])).length) Slot.unset).toArray = ls at hl ⊢
  have hl : lv_has ls 1 [(0, .ref (aR 0))] := hl
  unfold f_X5_words at h
  refine lv_iconst (v := (1 : Int32)) hx hb dX5_words_0 (by decide) ?_
  refine lv_aload_n hx hb dX5_words_1 rfl (lv_at hl 0 rfl) ?_
  refine va_get (D := D) (C := RX5) (T := TX5) (N := 40) hx hb hT inlX5 hown hK.1 hP 0 rfl rfl 2 (by decide) (hT _ fl_RX5_87) (fun _ h9 => h9) rfl dX5_words_2 ?_
  refine lv_ishl hx hb dX5_words_5 ?_
  exact W.iret (v := ((1 : Int32) <<< ((rI 2) &&& 31))) hx hb hr (fun t ht hW => ⟨⟨((1 : Int32) <<< ((rI 2) &&& 31)), (), rfl, ⟨(congrArg Prod.fst (og_inj h)).symm, (congrArg Prod.snd (og_inj h)).symm⟩, (by rw [ht]; exact hP), hD⟩, hS.F ht⟩) hS.2.2 dX5_words_6
set_option maxRecDepth 100000 in
set_option maxHeartbeats 8000000 in
theorem k_X5_inputOf (l : Launch) (D : va_G) (cA : Nat → ClassId) (aR : Nat → Nat) (K : List Nat) (sz : Nat) (n : Nat) (u1 : Int32) (u2 : Int32) (rI : Nat → Int32) (rA : Nat → Nat → Int32) (rG : Nat → Option Nat) (rR : Nat → Nat → Int32) (R : Int32 × Unit) (h : f_X5_inputOf n K u1 u2 rI rA = some R) : Met l yX5_inputOf (wsU yX5_inputOf cX5_inputOf 5 (some .int)) ({ frames := 0, cells := 0, slots := 0, locals := 0 }) (PcW D cA (wl [gR cA aR rI rA rG] ++ gG cA K rR) sz [.ref (aR 0), .int u1, .int u2]) (QI D (fun _ : Unit => (wl [gR cA aR rI rA rG] ++ gG cA K rR)) R (va_A (wl [gR cA aR rI rA rG] ++ gG cA K rR) sz)) 0 0 (va_A (wl [gR cA aR rI rA rG] ++ gG cA K rR) sz) := by
  refine Met.ofW (cc := cX5_inputOf) (maxL := 5) (ret := (some .int)) (by decide) rfl ?_
  intro p e s m args below meth c s₁ B hml hv
  obtain ⟨rfl, hsz, hP, hK, hD0⟩ := hv
  have hx := B.exec
  have hb := B.bytes
  have hr := B.returns
  have hts := atoms_spec (ws := (wsU yX5_inputOf cX5_inputOf 5 (some .int))) B.pre
  have hT : ∀ w ∈ wsL_law, w.before ([.ref (aR 0), .int u1, .int u2] : List Value).toArray s = true := fun w h => hts w (List.mem_cons_of_mem _ h)
  have hown : s.vm.findClass RX5 = some m.cls := findClass_of_methodNamed B.named
  have hlocks := B.notSynchronized
  have hN := hK.2
  subst hsz
  have hD := hD0.self (sz := s.heap.size)
  generalize hAe : va_A (wl [gR cA aR rI rA rG] ++ gG cA K rR) s.heap.size = A at hD ⊢
  have hA : ∀ q : Nat, s.heap.size ≤ q → A q := fun q h => by rw [← hAe]; exact Or.inr h
  have hS : va_S A s.heap s.heap [] := va_S.rf
  have hl := lv_entry ([.ref (aR 0), .int u1, .int u2]) (n := 5) (Nat.le_of_ble_eq_true rfl)
  rw [lg_entry_eq]
  generalize (lg_sl ([.ref (aR 0), .int u1, .int u2]) ++ List.replicate (5 - (lg_sl ([.ref (aR 0), .int u1, .int u2])).length) Slot.unset).toArray = ls at hl ⊢
  have hl : lv_has ls 5 [(0, .ref (aR 0)), (1, .int u1), (2, .int u2)] := hl
  have b32 : ∀ (x1 : Int32) (x2 : Int32) (x3 : Int32) (H : Heap) (locs : List Loc) (ls : Array Slot), f_X5_inputOf_b32 n K x1 x2 x3 rI rA = some R → va_P D vwCl (wl [gR cA aR rI rA rG] ++ gG cA K rR) H → va_D A (wl [gR cA aR rI rA rG] ++ gG cA K rR) → va_S A s.heap H locs → lv_has ls 5 [(0, .ref (aR 0)), (1, .int x1), (2, .int x2), (3, .int x3)] → W p l e (headSpec (wsU yX5_inputOf cX5_inputOf 5 (some .int)) ({ frames := 0, cells := 0, slots := 0, locals := 0 })).room s m ([.ref (aR 0), .int u1, .int u2] : List Value).toArray below meth c H locs 0 0 (MQ below (QI D (fun _ : Unit => (wl [gR cA aR rI rA rG] ++ gG cA K rR)) R A) ([.ref (aR 0), .int u1, .int u2] : List Value).toArray s 0 0 A) (F0 m 32 ls []) := by
    intro x1 x2 x3 H locs ls h hP hD hS hl
    unfold f_X5_inputOf_b32 at h
    refine lv_iload_n hx hb dX5_inputOf_32 rfl (lv_at hl 1 rfl) ?_
    refine lv_iload_n hx hb dX5_inputOf_33 rfl (lv_at hl 3 rfl) ?_
    refine lv_ishr hx hb dX5_inputOf_34 ?_
    refine lv_iconst (v := (1 : Int32)) hx hb dX5_inputOf_35 (by decide) ?_
    refine lv_aload_n hx hb dX5_inputOf_36 rfl (lv_at hl 0 rfl) ?_
    refine va_get (D := D) (C := RX5) (T := TX5) (N := 40) hx hb hT inlX5 hown hK.1 hP 0 rfl rfl 6 (by decide) (hT _ fl_RX5_7) (fun _ h9 => h9) rfl dX5_inputOf_37 ?_
    refine lv_iload_n hx hb dX5_inputOf_40 rfl (lv_at hl 2 rfl) ?_
    obtain ⟨g1, h⟩ := og_guard h
    refine va_iald hx hb hK.1 hP 1 0 rfl rfl (inb_vp g1) dX5_inputOf_41 ?_
    refine lv_ishl hx hb dX5_inputOf_42 ?_
    refine lv_iconst (v := (1 : Int32)) hx hb dX5_inputOf_43 (by decide) ?_
    refine lv_isub hx hb dX5_inputOf_44 ?_
    refine lv_iand hx hb dX5_inputOf_45 ?_
    obtain ⟨z2, e3, h⟩ := og_bind h
    refine gt_i (og_inj e3) ?_
    refine lv_istore (lv' := [(4, .int z2), (0, .ref (aR 0)), (1, .int x1), (2, .int x2), (3, .int x3)]) hx hb dX5_inputOf_46 hl (by decide) rfl (fun ls hl => ?_)
    refine lv_aload_n hx hb dX5_inputOf_48 rfl (lv_at hl 1 rfl) ?_
    refine va_get (D := D) (C := RX5) (T := TX5) (N := 40) hx hb hT inlX5 hown hK.1 hP 0 rfl rfl 7 (by decide) (hT _ fl_RX5_13) (fun _ h9 => h9) rfl dX5_inputOf_49 ?_
    refine lv_iload_n hx hb dX5_inputOf_52 rfl (lv_at hl 3 rfl) ?_
    obtain ⟨g4, h⟩ := og_guard h
    refine va_zald hx hb hK.1 hP 2 1 rfl rfl (inb_vp g4) dX5_inputOf_53 ?_
    refine lv_if_eq (tgt := 86) hx hb dX5_inputOf_54 (by decide) (fun c5 => ?_) (fun c5 => ?_)
    · replace h := og_pos c5 h
      refine lv_iload hx hb dX5_inputOf_86 (lv_at hl 0 rfl) ?_
      exact W.iret (v := z2) hx hb hr (fun t ht hW => ⟨⟨z2, (), rfl, ⟨(congrArg Prod.fst (og_inj h)).symm, (congrArg Prod.snd (og_inj h)).symm⟩, (by rw [ht]; exact hP), hD⟩, hS.F ht⟩) hS.2.2 dX5_inputOf_88
    · replace h := og_neg c5 h
      refine lv_iload hx hb dX5_inputOf_57 (lv_at hl 0 rfl) ?_
      refine lv_aload_n hx hb dX5_inputOf_59 rfl (lv_at hl 1 rfl) ?_
      refine va_get (D := D) (C := RX5) (T := TX5) (N := 40) hx hb hT inlX5 hown hK.1 hP 0 rfl rfl 6 (by decide) (hT _ fl_RX5_7) (fun _ h9 => h9) rfl dX5_inputOf_60 ?_
      refine lv_iload_n hx hb dX5_inputOf_63 rfl (lv_at hl 3 rfl) ?_
      obtain ⟨g6, h⟩ := og_guard h
      refine va_iald hx hb hK.1 hP 1 0 rfl rfl (inb_vp g6) dX5_inputOf_64 ?_
      refine lv_iconst (v := (1 : Int32)) hx hb dX5_inputOf_65 (by decide) ?_
      refine lv_isub hx hb dX5_inputOf_66 ?_
      refine lv_ishr hx hb dX5_inputOf_67 ?_
      refine lv_iconst (v := (1 : Int32)) hx hb dX5_inputOf_68 (by decide) ?_
      refine lv_icmp_ne (tgt := 86) hx hb dX5_inputOf_69 (by decide) (fun c7 => ?_) (fun c7 => ?_)
      · replace h := og_neg c7 h
        refine lv_iload hx hb dX5_inputOf_86 (lv_at hl 0 rfl) ?_
        exact W.iret (v := z2) hx hb hr (fun t ht hW => ⟨⟨z2, (), rfl, ⟨(congrArg Prod.fst (og_inj h)).symm, (congrArg Prod.snd (og_inj h)).symm⟩, (by rw [ht]; exact hP), hD⟩, hS.F ht⟩) hS.2.2 dX5_inputOf_88
      · replace h := og_pos c7 h
        refine lv_iload hx hb dX5_inputOf_72 (lv_at hl 0 rfl) ?_
        refine lv_iconst (v := (1 : Int32)) hx hb dX5_inputOf_74 (by decide) ?_
        refine lv_aload_n hx hb dX5_inputOf_75 rfl (lv_at hl 1 rfl) ?_
        refine va_get (D := D) (C := RX5) (T := TX5) (N := 40) hx hb hT inlX5 hown hK.1 hP 0 rfl rfl 6 (by decide) (hT _ fl_RX5_7) (fun _ h9 => h9) rfl dX5_inputOf_76 ?_
        refine lv_iload_n hx hb dX5_inputOf_79 rfl (lv_at hl 3 rfl) ?_
        obtain ⟨g8, h⟩ := og_guard h
        refine va_iald hx hb hK.1 hP 1 0 rfl rfl (inb_vp g8) dX5_inputOf_80 ?_
        refine lv_ishl hx hb dX5_inputOf_81 ?_
        refine lv_isub hx hb dX5_inputOf_82 ?_
        refine lv_goto (tgt := 88) hx hb dX5_inputOf_83 (by decide) ?_
        exact W.iret (v := (z2 - ((1 : Int32) <<< ((rA 0 x2.toNatClampNeg) &&& 31)))) hx hb hr (fun t ht hW => ⟨⟨(z2 - ((1 : Int32) <<< ((rA 0 x2.toNatClampNeg) &&& 31))), (), rfl, ⟨(congrArg Prod.fst (og_inj h)).symm, (congrArg Prod.snd (og_inj h)).symm⟩, (by rw [ht]; exact hP), hD⟩, hS.F ht⟩) hS.2.2 dX5_inputOf_88
  have b7 : ∀ (x1 : Int32) (x2 : Int32) (nn : Nat), ∀ (x3 : Int32) (x4 : Int32) (H : Heap) (locs : List Loc) (ls : Array Slot), lp (f_X5_inputOf_l7 n K x1 x2 rI rA) nn (x3, x4) = some R → va_P D vwCl (wl [gR cA aR rI rA rG] ++ gG cA K rR) H → va_D A (wl [gR cA aR rI rA rG] ++ gG cA K rR) → va_S A s.heap H locs → lv_has ls 5 [(0, .ref (aR 0)), (1, .int x1), (2, .int x2), (3, .int x3), (4, .int x4)] → W p l e (headSpec (wsU yX5_inputOf cX5_inputOf 5 (some .int)) ({ frames := 0, cells := 0, slots := 0, locals := 0 })).room s m ([.ref (aR 0), .int u1, .int u2] : List Value).toArray below meth c H locs 0 0 (MQ below (QI D (fun _ : Unit => (wl [gR cA aR rI rA rG] ++ gG cA K rR)) R A) ([.ref (aR 0), .int u1, .int u2] : List Value).toArray s 0 0 A) (F0 m 7 ls []) := by
    intro x1 x2 nn
    induction nn with
    | zero =>
      intro x3 x4 H locs ls h hP hD hS hl
      exact (lp_zero h).elim
    | succ nn hr7 =>
      intro x3 x4 H locs ls h hP hD hS hl
      rw [lp_succ] at h
      unfold f_X5_inputOf_l7 at h
      try dsimp only at h
      refine lv_iload hx hb dX5_inputOf_7 (lv_at hl 4 rfl) ?_
      refine lv_aload_n hx hb dX5_inputOf_9 rfl (lv_at hl 0 rfl) ?_
      refine va_get (D := D) (C := RX5) (T := TX5) (N := 40) hx hb hT inlX5 hown hK.1 hP 0 rfl rfl 1 (by decide) (hT _ fl_RX5_84) (fun _ h9 => h9) rfl dX5_inputOf_10 ?_
      refine lv_icmp_ge (tgt := 32) hx hb dX5_inputOf_13 (by decide) (fun c9 => ?_) (fun c9 => ?_)
      · replace h := og_pos c9 h
        exact b32  _ _ _ _ _ _ h hP hD hS (lv_sub hl [0, 1, 2, 3] rfl)
      · replace h := og_neg c9 h
        refine lv_iload_n hx hb dX5_inputOf_16 rfl (lv_at hl 3 rfl) ?_
        refine lv_aload_n hx hb dX5_inputOf_17 rfl (lv_at hl 0 rfl) ?_
        refine va_get (D := D) (C := RX5) (T := TX5) (N := 40) hx hb hT inlX5 hown hK.1 hP 0 rfl rfl 6 (by decide) (hT _ fl_RX5_7) (fun _ h9 => h9) rfl dX5_inputOf_18 ?_
        refine lv_iload hx hb dX5_inputOf_21 (lv_at hl 4 rfl) ?_
        obtain ⟨g10, h⟩ := og_guard h
        refine va_iald hx hb hK.1 hP 1 0 rfl rfl (inb_vp g10) dX5_inputOf_23 ?_
        refine lv_iadd hx hb dX5_inputOf_24 ?_
        refine lv_istore_n (lv' := [(3, .int (x3 + (rA 0 x4.toNatClampNeg))), (0, .ref (aR 0)), (1, .int x1), (2, .int x2), (4, .int x4)]) hx hb dX5_inputOf_25 rfl hl (by decide) rfl (fun ls hl => ?_)
        refine lv_iinc (v := (x4 + 1)) (lv' := [(4, .int (x4 + 1)), (3, .int (x3 + (rA 0 x4.toNatClampNeg))), (0, .ref (aR 0)), (1, .int x1), (2, .int x2)]) hx hb dX5_inputOf_26 hl (k := 4) rfl rfl (by decide) rfl (fun ls hl => ?_)
        refine lv_goto (tgt := 7) hx hb dX5_inputOf_29 (by decide) ?_
        exact hr7 _ _ _ _ _ h hP hD hS (lv_sub hl [2, 3, 4, 1, 0] rfl)
  unfold f_X5_inputOf at h
  refine lv_iconst (v := (0 : Int32)) hx hb dX5_inputOf_0 (by decide) ?_
  refine lv_istore_n (lv' := [(3, .int (0 : Int32)), (0, .ref (aR 0)), (1, .int u1), (2, .int u2)]) hx hb dX5_inputOf_1 rfl hl (by decide) rfl (fun ls hl => ?_)
  refine lv_iload_n hx hb dX5_inputOf_2 rfl (lv_at hl 3 rfl) ?_
  refine lv_iconst (v := (1 : Int32)) hx hb dX5_inputOf_3 (by decide) ?_
  refine lv_iadd hx hb dX5_inputOf_4 ?_
  refine lv_istore (lv' := [(4, .int (u2 + (1 : Int32))), (3, .int (0 : Int32)), (0, .ref (aR 0)), (1, .int u1), (2, .int u2)]) hx hb dX5_inputOf_5 hl (by decide) rfl (fun ls hl => ?_)
  exact b7  _ _ n _ _ _ _ _ h hP hD hS (lv_sub hl [2, 3, 4, 1, 0] rfl)
set_option maxRecDepth 100000 in
set_option maxHeartbeats 8000000 in
theorem k_X5_ends (l : Launch) (D : va_G) (cA : Nat → ClassId) (aR : Nat → Nat) (K : List Nat) (sz : Nat) (u1 : Int32) (u2 : Int32) (u3 : Int32) (rI : Nat → Int32) (rA : Nat → Nat → Int32) (rG : Nat → Option Nat) (rR : Nat → Nat → Int32) (R : (Nat → Int32)) (h : f_X5_ends K u1 u2 u3 rI = some R) : Met l yX5_ends (wsU yX5_ends cX5_ends 4 none) ({ frames := 0, cells := 0, slots := 0, locals := 0 }) (PcW D cA (wl [gR cA aR rI rA rG] ++ gG cA K rR) sz [.ref (aR 0), .int u1, .int u2, .int u3]) (QV D (fun u : (Nat → Int32) => (wl [gR cA aR u rA rG] ++ gG cA K rR)) R (va_A (wl [gR cA aR rI rA rG] ++ gG cA K rR) sz)) 0 0 (va_A (wl [gR cA aR rI rA rG] ++ gG cA K rR) sz) := by
  refine Met.ofW (cc := cX5_ends) (maxL := 4) (ret := none) (by decide) rfl ?_
  intro p e s m args below meth c s₁ B hml hv
  obtain ⟨rfl, hsz, hP, hK, hD0⟩ := hv
  have hx := B.exec
  have hb := B.bytes
  have hr := B.returns
  have hts := atoms_spec (ws := (wsU yX5_ends cX5_ends 4 none)) B.pre
  have hT : ∀ w ∈ wsL_law, w.before ([.ref (aR 0), .int u1, .int u2, .int u3] : List Value).toArray s = true := fun w h => hts w (List.mem_cons_of_mem _ h)
  have hown : s.vm.findClass RX5 = some m.cls := findClass_of_methodNamed B.named
  have hlocks := B.notSynchronized
  have hN := hK.2
  subst hsz
  have hD := hD0.self (sz := s.heap.size)
  generalize hAe : va_A (wl [gR cA aR rI rA rG] ++ gG cA K rR) s.heap.size = A at hD ⊢
  have hA : ∀ q : Nat, s.heap.size ≤ q → A q := fun q h => by rw [← hAe]; exact Or.inr h
  have hS : va_S A s.heap s.heap [] := va_S.rf
  have hl := lv_entry ([.ref (aR 0), .int u1, .int u2, .int u3]) (n := 4) (Nat.le_of_ble_eq_true rfl)
  rw [lg_entry_eq]
  generalize (lg_sl ([.ref (aR 0), .int u1, .int u2, .int u3]) ++ List.replicate (4 - (lg_sl ([.ref (aR 0), .int u1, .int u2, .int u3])).length) Slot.unset).toArray = ls at hl ⊢
  have hl : lv_has ls 4 [(0, .ref (aR 0)), (1, .int u1), (2, .int u2), (3, .int u3)] := hl
  unfold f_X5_ends at h
  refine lv_aload_n hx hb dX5_ends_0 rfl (lv_at hl 0 rfl) ?_
  refine lv_iload_n hx hb dX5_ends_1 rfl (lv_at hl 1 rfl) ?_
  refine va_put (D := D) (v := .int u1) (ty := .int) (C := RX5) (T := TX5) (N := 40) hx hb hT inlX5 tyX5 tyX5_ok nmX5 hown hK.1 hP hD hS 0 rfl rfl 25 (by decide) (hT _ fl_RX5_136) (fun _ h9 => h9) rfl (by decide +kernel) rfl rfl (Nat.le_of_ble_eq_true rfl) dX5_ends_2 (fun H locs hP hD hS => ?_)
  have hP : va_P D vwCl (wl [gR cA aR (upd rI 7 u1) rA rG] ++ gG cA K rR) H := hP
  have hD : va_D A (wl [gR cA aR (upd rI 7 u1) rA rG] ++ gG cA K rR) := hD
  refine lv_aload_n hx hb dX5_ends_5 rfl (lv_at hl 0 rfl) ?_
  refine lv_iload_n hx hb dX5_ends_6 rfl (lv_at hl 2 rfl) ?_
  refine va_put (D := D) (v := .int u2) (ty := .int) (C := RX5) (T := TX5) (N := 40) hx hb hT inlX5 tyX5 tyX5_ok nmX5 hown hK.1 hP hD hS 0 rfl rfl 26 (by decide) (hT _ fl_RX5_139) (fun _ h9 => h9) rfl (by decide +kernel) rfl rfl (Nat.le_of_ble_eq_true rfl) dX5_ends_7 (fun H locs hP hD hS => ?_)
  have hP : va_P D vwCl (wl [gR cA aR (upd (upd rI 7 u1) 8 u2) rA rG] ++ gG cA K rR) H := hP
  have hD : va_D A (wl [gR cA aR (upd (upd rI 7 u1) 8 u2) rA rG] ++ gG cA K rR) := hD
  refine lv_aload_n hx hb dX5_ends_10 rfl (lv_at hl 0 rfl) ?_
  refine lv_iload_n hx hb dX5_ends_11 rfl (lv_at hl 3 rfl) ?_
  refine va_put (D := D) (v := .int u3) (ty := .int) (C := RX5) (T := TX5) (N := 40) hx hb hT inlX5 tyX5 tyX5_ok nmX5 hown hK.1 hP hD hS 0 rfl rfl 27 (by decide) (hT _ fl_RX5_142) (fun _ h9 => h9) rfl (by decide +kernel) rfl rfl (Nat.le_of_ble_eq_true rfl) dX5_ends_12 (fun H locs hP hD hS => ?_)
  have hP : va_P D vwCl (wl [gR cA aR (upd (upd (upd rI 7 u1) 8 u2) 9 u3) rA rG] ++ gG cA K rR) H := hP
  have hD : va_D A (wl [gR cA aR (upd (upd (upd rI 7 u1) 8 u2) 9 u3) rA rG] ++ gG cA K rR) := hD
  exact W.vret hx hb hr (fun t ht hW => ⟨⟨((upd (upd (upd rI 7 u1) 8 u2) 9 u3)), rfl, (og_inj h).symm, (by rw [ht]; exact hP), hD⟩, hS.F ht⟩) hS.2.2 dX5_ends_15
