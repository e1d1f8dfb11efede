set_option maxRecDepth 100000 in
set_option maxHeartbeats 8000000 in
theorem k_X2_init (l : Launch) (D : va_G) (cA : Nat → ClassId) (a sz : Nat) : Met l yX2_init (wsU yX2_init cX2_init 1 none) ({ frames := 1, cells := 0, slots := 0, locals := 12 }) (PcC D cA [(a, .inr (2, [.long 0, .long 0, .int 0, .int 0, .int 0, .int 0, .int 0]))] sz [.ref a]) (QC D (fun _ : Unit => [(a, .inr (2, [.long 0, .long 0, .int 0, .int 0, .int 0, .int 0, .int 0]))]) (fun _ : Unit => True) (va_A [(a, .inr (2, [.long 0, .long 0, .int 0, .int 0, .int 0, .int 0, .int 0]))] sz)) 0 0 (va_A [(a, .inr (2, [.long 0, .long 0, .int 0, .int 0, .int 0, .int 0, .int 0]))] sz) := by
  refine Met.ofW (cc := cX2_init) (maxL := 1) (ret := none) (by decide) rfl ?_
  intro p e s m args below meth c s₁ B hml hv
  obtain ⟨rfl, hsz, hP, hK, hD0⟩ := hv
  have hx := B.exec
  have hb := B.bytes
  have hr := B.returns
  have hts := atoms_spec (ws := (wsU yX2_init cX2_init 1 none)) B.pre
  have hT : ∀ w ∈ wsL_law, w.before ([.ref a] : List Value).toArray s = true := fun w h => hts w (List.mem_cons_of_mem _ h)
  have hown : s.vm.findClass RX2 = some m.cls := findClass_of_methodNamed B.named
  have hlocks := B.notSynchronized
  have hin : meth.name = "<init>" := (name_of_methodNamed B.named B.method).1
  have hN := hK.1.2
  subst hsz
  have hD := hD0.self (sz := s.heap.size)
  generalize hAe : va_A [(a, .inr (2, [.long 0, .long 0, .int 0, .int 0, .int 0, .int 0, .int 0]))] s.heap.size = A at hD ⊢
  have hA : ∀ q : Nat, s.heap.size ≤ q → A q := fun q h => by rw [← hAe]; exact Or.inr h
  have hS : va_S A s.heap s.heap [] := va_S.rf
  have hl := lv_entry ([.ref a]) (n := 1) (Nat.le_of_ble_eq_true rfl)
  rw [lg_entry_eq]
  generalize (lg_sl ([.ref a]) ++ List.replicate (1 - (lg_sl ([.ref a])).length) Slot.unset).toArray = ls at hl ⊢
  have hl : lv_has ls 1 [(0, .ref a)] := hl
  refine lv_aload_n hx hb dX2_init_0 rfl (lv_at hl 0 rfl) ?_
  refine W.objInit hx hb hown (hT _ oi_RX2) (hT _ oi_im) (hT _ oi_cd) rfl (by rw [hml]; exact hl.1) rfl dX2_init_1 (Nat.le_of_ble_eq_true rfl) (Nat.le_of_ble_eq_true rfl) ?_
  refine W.eq (g2 := F0 m 4 ls []) rfl ?_
  exact W.vret hx hb hr (fun t ht hW => ⟨⟨(), rfl, trivial, (by rw [ht]; exact hP), hD⟩, hS.F ht⟩) hS.2.2 dX2_init_4

set_option maxRecDepth 100000 in
set_option maxHeartbeats 8000000 in
theorem k_X1_init (l : Launch) (D : va_G) (cA : Nat → ClassId) (a sz : Nat) : Met l yX1_init (wsU yX1_init cX1_init 1 none) ({ frames := 1, cells := 2, slots := 24, locals := 12 }) (PcC D cA [(a, .inr (1, [.null, .null, .int 0, .long 0, .int 0, .long 0, .long 0, .long 0, .long 0, .int 0, .int 0, .int 0]))] sz [.ref a]) (QC D (fun aM : Nat → Nat => gM cA aM (fun _ => 0) (fun _ => 0) (fun _ _ => 0)) (fun aM : Nat → Nat => aM 0 = a) (va_A [(a, .inr (1, [.null, .null, .int 0, .long 0, .int 0, .long 0, .long 0, .long 0, .long 0, .int 0, .int 0, .int 0]))] sz)) 2 24 (va_A [(a, .inr (1, [.null, .null, .int 0, .long 0, .int 0, .long 0, .long 0, .long 0, .long 0, .int 0, .int 0, .int 0]))] sz) := by
  refine Met.ofW (cc := cX1_init) (maxL := 1) (ret := none) (by decide) rfl ?_
  intro p e s m args below meth c s₁ B hml hv
  obtain ⟨rfl, hsz, hP, hK, hD0⟩ := hv
  have hx := B.exec
  have hb := B.bytes
  have hr := B.returns
  have hts := atoms_spec (ws := (wsU yX1_init cX1_init 1 none)) B.pre
  have hT : ∀ w ∈ wsL_law, w.before ([.ref a] : List Value).toArray s = true := fun w h => hts w (List.mem_cons_of_mem _ h)
  have hown : s.vm.findClass RX1 = some m.cls := findClass_of_methodNamed B.named
  have hlocks := B.notSynchronized
  have hin : meth.name = "<init>" := (name_of_methodNamed B.named B.method).1
  have hN := hK.1.2
  subst hsz
  have hD := hD0.self (sz := s.heap.size)
  generalize hAe : va_A [(a, .inr (1, [.null, .null, .int 0, .long 0, .int 0, .long 0, .long 0, .long 0, .long 0, .int 0, .int 0, .int 0]))] s.heap.size = A at hD ⊢
  have hA : ∀ q : Nat, s.heap.size ≤ q → A q := fun q h => by rw [← hAe]; exact Or.inr h
  have hS : va_S A s.heap s.heap [] := va_S.rf
  have hl := lv_entry ([.ref a]) (n := 1) (Nat.le_of_ble_eq_true rfl)
  rw [lg_entry_eq]
  generalize (lg_sl ([.ref a]) ++ List.replicate (1 - (lg_sl ([.ref a])).length) Slot.unset).toArray = ls at hl ⊢
  have hl : lv_has ls 1 [(0, .ref a)] := hl
  refine lv_aload_n hx hb dX1_init_0 rfl (lv_at hl 0 rfl) ?_
  refine W.objInit hx hb hown (hT _ oi_RX1) (hT _ oi_im) (hT _ oi_cd) rfl (by rw [hml]; exact hl.1) rfl dX1_init_1 (Nat.le_of_ble_eq_true rfl) (Nat.le_of_ble_eq_true rfl) ?_
  refine W.eq (g2 := F0 m 4 ls []) rfl ?_
  refine lv_aload_n hx hb dX1_init_4 rfl (lv_at hl 0 rfl) ?_
  refine lv_bipush (v := (16 : Int32)) hx hb dX1_init_5 (by decide) ?_
  refine gn_a (atype := .int) (ty := .int) (a0 := (16, .inl (fun _ => 0))) (N' := 16) hx hb (hT _ ac_i) rfl hK 0 rfl (fun _ _ h1 h2 => ra_i h1 h2) hP hD hS hA (fun _ => rfl) (by decide) (by decide) (Nat.le_of_ble_eq_true rfl) (Nat.le_of_ble_eq_true rfl) (Nat.le_of_ble_eq_true rfl) dX1_init_7 (fun q1 H hP hD hS => ?_)
  refine W.widen (k := 1) (n := 16) (Nat.le_of_ble_eq_true rfl) (Nat.le_of_ble_eq_true rfl) ?_
  refine va_putF (D := D) (v := .ref q1) (ty := .array .int) (C := RX1) (T := TX1) (N := 12) hx hb hT inlX1 tyX1 tyX1_ok nmX1 hown hK.1.1 hP hD hS 0 rfl rfl 0 (by decide) (hT _ fl_RX1_9) (fun _ h9 => h9) rfl hin rfl (by decide +kernel) rfl rfl (Nat.le_of_ble_eq_true rfl) dX1_init_9 (fun H locs hP hD hS => ?_)
  have hP : va_P D vwCl ([(a, .inr (1, [.ref q1, .null, .int 0, .long 0, .int 0, .long 0, .long 0, .long 0, .long 0, .int 0, .int 0, .int 0])), (q1, .inl (cA 0, 16, .inl (fun _ => 0)))]) H := hP
  have hD : va_D A ([(a, .inr (1, [.ref q1, .null, .int 0, .long 0, .int 0, .long 0, .long 0, .long 0, .long 0, .int 0, .int 0, .int 0])), (q1, .inl (cA 0, 16, .inl (fun _ => 0)))]) := hD
  refine lv_aload_n hx hb dX1_init_12 rfl (lv_at hl 0 rfl) ?_
  refine lv_bipush (v := (8 : Int32)) hx hb dX1_init_13 (by decide) ?_
  refine gn_a (atype := .int) (ty := .int) (a0 := (8, .inl (fun _ => 0))) (N' := 8) hx hb (hT _ ac_i) rfl hK 0 rfl (fun _ _ h1 h2 => ra_i h1 h2) hP hD hS hA (fun _ => rfl) (by decide) (by decide) (Nat.le_of_ble_eq_true rfl) (Nat.le_of_ble_eq_true rfl) (Nat.le_of_ble_eq_true rfl) dX1_init_15 (fun q2 H hP hD hS => ?_)
  refine W.widen (k := 2) (n := 24) (Nat.le_of_ble_eq_true rfl) (Nat.le_of_ble_eq_true rfl) ?_
  refine va_putF (D := D) (v := .ref q2) (ty := .array .int) (C := RX1) (T := TX1) (N := 12) hx hb hT inlX1 tyX1 tyX1_ok nmX1 hown hK.1.1 hP hD hS 0 rfl rfl 1 (by decide) (hT _ fl_RX1_15) (fun _ h9 => h9) rfl hin rfl (by decide +kernel) rfl rfl (Nat.le_of_ble_eq_true rfl) dX1_init_17 (fun H locs hP hD hS => ?_)
  have hP : va_P D vwCl ([(a, .inr (1, [.ref q1, .ref q2, .int 0, .long 0, .int 0, .long 0, .long 0, .long 0, .long 0, .int 0, .int 0, .int 0])), (q1, .inl (cA 0, 16, .inl (fun _ => 0))), (q2, .inl (cA 0, 8, .inl (fun _ => 0)))]) H := hP
  have hD : va_D A ([(a, .inr (1, [.ref q1, .ref q2, .int 0, .long 0, .int 0, .long 0, .long 0, .long 0, .long 0, .int 0, .int 0, .int 0])), (q1, .inl (cA 0, 16, .inl (fun _ => 0))), (q2, .inl (cA 0, 8, .inl (fun _ => 0)))]) := hD
  exact W.vret hx hb hr (fun t ht hW => ⟨⟨(fun k => ([a, q1, q2] : List Nat).getD k 0), rfl, rfl, (by rw [ht]; exact hP), hD⟩, hS.F ht⟩) hS.2.2 dX1_init_20

set_option maxRecDepth 100000 in
set_option maxHeartbeats 8000000 in
theorem k_X3_init (l : Launch) (D : va_G) (cA : Nat → ClassId) (a sz : Nat) : Met l yX3_init (wsU yX3_init cX3_init 1 none) ({ frames := 1, cells := 7, slots := 252, locals := 12 }) (PcC D cA [(a, .inr (3, [.null, .null, .null, .int 0, .int 0, .null, .null, .null, .null, .int 0, .int 0, .int 0]))] sz [.ref a]) (QC D (fun aP : Nat → Nat => gP cA aP (fun _ => 0) (fun _ _ => 0)) (fun aP : Nat → Nat => aP 0 = a) (va_A [(a, .inr (3, [.null, .null, .null, .int 0, .int 0, .null, .null, .null, .null, .int 0, .int 0, .int 0]))] sz)) 7 252 (va_A [(a, .inr (3, [.null, .null, .null, .int 0, .int 0, .null, .null, .null, .null, .int 0, .int 0, .int 0]))] sz) := by
  refine Met.ofW (cc := cX3_init) (maxL := 1) (ret := none) (by decide) rfl ?_
  intro p e s m args below meth c s₁ B hml hv
  obtain ⟨rfl, hsz, hP, hK, hD0⟩ := hv
  have hx := B.exec
  have hb := B.bytes
  have hr := B.returns
  have hts := atoms_spec (ws := (wsU yX3_init cX3_init 1 none)) B.pre
  have hT : ∀ w ∈ wsL_law, w.before ([.ref a] : List Value).toArray s = true := fun w h => hts w (List.mem_cons_of_mem _ h)
  have hown : s.vm.findClass RX3 = some m.cls := findClass_of_methodNamed B.named
  have hlocks := B.notSynchronized
  have hin : meth.name = "<init>" := (name_of_methodNamed B.named B.method).1
  have hN := hK.1.2
  subst hsz
  have hD := hD0.self (sz := s.heap.size)
  generalize hAe : va_A [(a, .inr (3, [.null, .null, .null, .int 0, .int 0, .null, .null, .null, .null, .int 0, .int 0, .int 0]))] s.heap.size = A at hD ⊢
  have hA : ∀ q : Nat, s.heap.size ≤ q → A q := fun q h => by rw [← hAe]; exact Or.inr h
  have hS : va_S A s.heap s.heap [] := va_S.rf
  have hl := lv_entry ([.ref a]) (n := 1) (Nat.le_of_ble_eq_true rfl)
  rw [lg_entry_eq]
  generalize (lg_sl ([.ref a]) ++ List.replicate (1 - (lg_sl ([.ref a])).length) Slot.unset).toArray = ls at hl ⊢
  have hl : lv_has ls 1 [(0, .ref a)] := hl
  refine lv_aload_n hx hb dX3_init_0 rfl (lv_at hl 0 rfl) ?_
  refine W.objInit hx hb hown (hT _ oi_RX3) (hT _ oi_im) (hT _ oi_cd) rfl (by rw [hml]; exact hl.1) rfl dX3_init_1 (Nat.le_of_ble_eq_true rfl) (Nat.le_of_ble_eq_true rfl) ?_
  refine W.eq (g2 := F0 m 4 ls []) rfl ?_
  refine lv_aload_n hx hb dX3_init_4 rfl (lv_at hl 0 rfl) ?_
  refine lv_iconst (v := (4 : Int32)) hx hb dX3_init_5 (by decide) ?_
  refine gn_a (atype := .int) (ty := .int) (a0 := (4, .inl (fun _ => 0))) (N' := 4) hx hb (hT _ ac_i) rfl hK 0 rfl (fun _ _ h1 h2 => ra_i h1 h2) hP hD hS hA (fun _ => rfl) (by decide) (by decide) (Nat.le_of_ble_eq_true rfl) (Nat.le_of_ble_eq_true rfl) (Nat.le_of_ble_eq_true rfl) dX3_init_6 (fun q1 H hP hD hS => ?_)
  refine W.widen (k := 1) (n := 4) (Nat.le_of_ble_eq_true rfl) (Nat.le_of_ble_eq_true rfl) ?_
  refine va_putF (D := D) (v := .ref q1) (ty := .array .int) (C := RX3) (T := TX3) (N := 12) hx hb hT inlX3 tyX3 tyX3_ok nmX3 hown hK.1.1 hP hD hS 0 rfl rfl 0 (by decide) (hT _ fl_RX3_9) (fun _ h9 => h9) rfl hin rfl (by decide +kernel) rfl rfl (Nat.le_of_ble_eq_true rfl) dX3_init_8 (fun H locs hP hD hS => ?_)
  have hP : va_P D vwCl ([(a, .inr (3, [.ref q1, .null, .null, .int 0, .int 0, .null, .null, .null, .null, .int 0, .int 0, .int 0])), (q1, .inl (cA 0, 4, .inl (fun _ => 0)))]) H := hP
  have hD : va_D A ([(a, .inr (3, [.ref q1, .null, .null, .int 0, .int 0, .null, .null, .null, .null, .int 0, .int 0, .int 0])), (q1, .inl (cA 0, 4, .inl (fun _ => 0)))]) := hD
  refine lv_aload_n hx hb dX3_init_11 rfl (lv_at hl 0 rfl) ?_
  refine lv_iconst (v := (4 : Int32)) hx hb dX3_init_12 (by decide) ?_
  refine gn_a (atype := .int) (ty := .int) (a0 := (4, .inl (fun _ => 0))) (N' := 4) hx hb (hT _ ac_i) rfl hK 0 rfl (fun _ _ h1 h2 => ra_i h1 h2) hP hD hS hA (fun _ => rfl) (by decide) (by decide) (Nat.le_of_ble_eq_true rfl) (Nat.le_of_ble_eq_true rfl) (Nat.le_of_ble_eq_true rfl) dX3_init_13 (fun q2 H hP hD hS => ?_)
  refine W.widen (k := 2) (n := 8) (Nat.le_of_ble_eq_true rfl) (Nat.le_of_ble_eq_true rfl) ?_
  refine va_putF (D := D) (v := .ref q2) (ty := .array .int) (C := RX3) (T := TX3) (N := 12) hx hb hT inlX3 tyX3 tyX3_ok nmX3 hown hK.1.1 hP hD hS 0 rfl rfl 1 (by decide) (hT _ fl_RX3_15) (fun _ h9 => h9) rfl hin rfl (by decide +kernel) rfl rfl (Nat.le_of_ble_eq_true rfl) dX3_init_15 (fun H locs hP hD hS => ?_)
  have hP : va_P D vwCl ([(a, .inr (3, [.ref q1, .ref q2, .null, .int 0, .int 0, .null, .null, .null, .null, .int 0, .int 0, .int 0])), (q1, .inl (cA 0, 4, .inl (fun _ => 0))), (q2, .inl (cA 0, 4, .inl (fun _ => 0)))]) H := hP
  have hD : va_D A ([(a, .inr (3, [.ref q1, .ref q2, .null, .int 0, .int 0, .null, .null, .null, .null, .int 0, .int 0, .int 0])), (q1, .inl (cA 0, 4, .inl (fun _ => 0))), (q2, .inl (cA 0, 4, .inl (fun _ => 0)))]) := hD
  refine lv_aload_n hx hb dX3_init_18 rfl (lv_at hl 0 rfl) ?_
  refine lv_iconst (v := (4 : Int32)) hx hb dX3_init_19 (by decide) ?_
  refine gn_a (atype := .boolean) (ty := .boolean) (a0 := (4, .inl (fun _ => 0))) (N' := 4) hx hb (hT _ ac_b) rfl hK 1 rfl (fun _ _ h1 h2 => ra_b h1 h2) hP hD hS hA (fun _ => rfl) (by decide) (by decide) (Nat.le_of_ble_eq_true rfl) (Nat.le_of_ble_eq_true rfl) (Nat.le_of_ble_eq_true rfl) dX3_init_20 (fun q3 H hP hD hS => ?_)
  refine W.widen (k := 3) (n := 12) (Nat.le_of_ble_eq_true rfl) (Nat.le_of_ble_eq_true rfl) ?_
  refine va_putF (D := D) (v := .ref q3) (ty := .array .boolean) (C := RX3) (T := TX3) (N := 12) hx hb hT inlX3 tyX3 tyX3_ok nmX3 hown hK.1.1 hP hD hS 0 rfl rfl 2 (by decide) (hT _ fl_RX3_18) (fun _ h9 => h9) rfl hin rfl (by decide +kernel) rfl rfl (Nat.le_of_ble_eq_true rfl) dX3_init_22 (fun H locs hP hD hS => ?_)
  have hP : va_P D vwCl ([(a, .inr (3, [.ref q1, .ref q2, .ref q3, .int 0, .int 0, .null, .null, .null, .null, .int 0, .int 0, .int 0])), (q1, .inl (cA 0, 4, .inl (fun _ => 0))), (q2, .inl (cA 0, 4, .inl (fun _ => 0))), (q3, .inl (cA 1, 4, .inl (fun _ => 0)))]) H := hP
  have hD : va_D A ([(a, .inr (3, [.ref q1, .ref q2, .ref q3, .int 0, .int 0, .null, .null, .null, .null, .int 0, .int 0, .int 0])), (q1, .inl (cA 0, 4, .inl (fun _ => 0))), (q2, .inl (cA 0, 4, .inl (fun _ => 0))), (q3, .inl (cA 1, 4, .inl (fun _ => 0)))]) := hD
  refine lv_aload_n hx hb dX3_init_25 rfl (lv_at hl 0 rfl) ?_
  refine lv_bipush (v := (60 : Int32)) hx hb dX3_init_26 (by decide) ?_
  refine gn_a (atype := .int) (ty := .int) (a0 := (60, .inl (fun _ => 0))) (N' := 60) hx hb (hT _ ac_i) rfl hK 0 rfl (fun _ _ h1 h2 => ra_i h1 h2) hP hD hS hA (fun _ => rfl) (by decide) (by decide) (Nat.le_of_ble_eq_true rfl) (Nat.le_of_ble_eq_true rfl) (Nat.le_of_ble_eq_true rfl) dX3_init_28 (fun q4 H hP hD hS => ?_)
  refine W.widen (k := 4) (n := 72) (Nat.le_of_ble_eq_true rfl) (Nat.le_of_ble_eq_true rfl) ?_
  refine va_putF (D := D) (v := .ref q4) (ty := .array .int) (C := RX3) (T := TX3) (N := 12) hx hb hT inlX3 tyX3 tyX3_ok nmX3 hown hK.1.1 hP hD hS 0 rfl rfl 5 (by decide) (hT _ fl_RX3_22) (fun _ h9 => h9) rfl hin rfl (by decide +kernel) rfl rfl (Nat.le_of_ble_eq_true rfl) dX3_init_30 (fun H locs hP hD hS => ?_)
  have hP : va_P D vwCl ([(a, .inr (3, [.ref q1, .ref q2, .ref q3, .int 0, .int 0, .ref q4, .null, .null, .null, .int 0, .int 0, .int 0])), (q1, .inl (cA 0, 4, .inl (fun _ => 0))), (q2, .inl (cA 0, 4, .inl (fun _ => 0))), (q3, .inl (cA 1, 4, .inl (fun _ => 0))), (q4, .inl (cA 0, 60, .inl (fun _ => 0)))]) H := hP
  have hD : va_D A ([(a, .inr (3, [.ref q1, .ref q2, .ref q3, .int 0, .int 0, .ref q4, .null, .null, .null, .int 0, .int 0, .int 0])), (q1, .inl (cA 0, 4, .inl (fun _ => 0))), (q2, .inl (cA 0, 4, .inl (fun _ => 0))), (q3, .inl (cA 1, 4, .inl (fun _ => 0))), (q4, .inl (cA 0, 60, .inl (fun _ => 0)))]) := hD
  refine lv_aload_n hx hb dX3_init_33 rfl (lv_at hl 0 rfl) ?_
  refine lv_bipush (v := (60 : Int32)) hx hb dX3_init_34 (by decide) ?_
  refine gn_a (atype := .int) (ty := .int) (a0 := (60, .inl (fun _ => 0))) (N' := 60) hx hb (hT _ ac_i) rfl hK 0 rfl (fun _ _ h1 h2 => ra_i h1 h2) hP hD hS hA (fun _ => rfl) (by decide) (by decide) (Nat.le_of_ble_eq_true rfl) (Nat.le_of_ble_eq_true rfl) (Nat.le_of_ble_eq_true rfl) dX3_init_36 (fun q5 H hP hD hS => ?_)
  refine W.widen (k := 5) (n := 132) (Nat.le_of_ble_eq_true rfl) (Nat.le_of_ble_eq_true rfl) ?_
  refine va_putF (D := D) (v := .ref q5) (ty := .array .int) (C := RX3) (T := TX3) (N := 12) hx hb hT inlX3 tyX3 tyX3_ok nmX3 hown hK.1.1 hP hD hS 0 rfl rfl 6 (by decide) (hT _ fl_RX3_25) (fun _ h9 => h9) rfl hin rfl (by decide +kernel) rfl rfl (Nat.le_of_ble_eq_true rfl) dX3_init_38 (fun H locs hP hD hS => ?_)
  have hP : va_P D vwCl ([(a, .inr (3, [.ref q1, .ref q2, .ref q3, .int 0, .int 0, .ref q4, .ref q5, .null, .null, .int 0, .int 0, .int 0])), (q1, .inl (cA 0, 4, .inl (fun _ => 0))), (q2, .inl (cA 0, 4, .inl (fun _ => 0))), (q3, .inl (cA 1, 4, .inl (fun _ => 0))), (q4, .inl (cA 0, 60, .inl (fun _ => 0))), (q5, .inl (cA 0, 60, .inl (fun _ => 0)))]) H := hP
  have hD : va_D A ([(a, .inr (3, [.ref q1, .ref q2, .ref q3, .int 0, .int 0, .ref q4, .ref q5, .null, .null, .int 0, .int 0, .int 0])), (q1, .inl (cA 0, 4, .inl (fun _ => 0))), (q2, .inl (cA 0, 4, .inl (fun _ => 0))), (q3, .inl (cA 1, 4, .inl (fun _ => 0))), (q4, .inl (cA 0, 60, .inl (fun _ => 0))), (q5, .inl (cA 0, 60, .inl (fun _ => 0)))]) := hD
  refine lv_aload_n hx hb dX3_init_41 rfl (lv_at hl 0 rfl) ?_
  refine lv_bipush (v := (60 : Int32)) hx hb dX3_init_42 (by decide) ?_
  refine gn_a (atype := .int) (ty := .int) (a0 := (60, .inl (fun _ => 0))) (N' := 60) hx hb (hT _ ac_i) rfl hK 0 rfl (fun _ _ h1 h2 => ra_i h1 h2) hP hD hS hA (fun _ => rfl) (by decide) (by decide) (Nat.le_of_ble_eq_true rfl) (Nat.le_of_ble_eq_true rfl) (Nat.le_of_ble_eq_true rfl) dX3_init_44 (fun q6 H hP hD hS => ?_)
  refine W.widen (k := 6) (n := 192) (Nat.le_of_ble_eq_true rfl) (Nat.le_of_ble_eq_true rfl) ?_
  refine va_putF (D := D) (v := .ref q6) (ty := .array .int) (C := RX3) (T := TX3) (N := 12) hx hb hT inlX3 tyX3 tyX3_ok nmX3 hown hK.1.1 hP hD hS 0 rfl rfl 7 (by decide) (hT _ fl_RX3_28) (fun _ h9 => h9) rfl hin rfl (by decide +kernel) rfl rfl (Nat.le_of_ble_eq_true rfl) dX3_init_46 (fun H locs hP hD hS => ?_)
  have hP : va_P D vwCl ([(a, .inr (3, [.ref q1, .ref q2, .ref q3, .int 0, .int 0, .ref q4, .ref q5, .ref q6, .null, .int 0, .int 0, .int 0])), (q1, .inl (cA 0, 4, .inl (fun _ => 0))), (q2, .inl (cA 0, 4, .inl (fun _ => 0))), (q3, .inl (cA 1, 4, .inl (fun _ => 0))), (q4, .inl (cA 0, 60, .inl (fun _ => 0))), (q5, .inl (cA 0, 60, .inl (fun _ => 0))), (q6, .inl (cA 0, 60, .inl (fun _ => 0)))]) H := hP
  have hD : va_D A ([(a, .inr (3, [.ref q1, .ref q2, .ref q3, .int 0, .int 0, .ref q4, .ref q5, .ref q6, .null, .int 0, .int 0, .int 0])), (q1, .inl (cA 0, 4, .inl (fun _ => 0))), (q2, .inl (cA 0, 4, .inl (fun _ => 0))), (q3, .inl (cA 1, 4, .inl (fun _ => 0))), (q4, .inl (cA 0, 60, .inl (fun _ => 0))), (q5, .inl (cA 0, 60, .inl (fun _ => 0))), (q6, .inl (cA 0, 60, .inl (fun _ => 0)))]) := hD
  refine lv_aload_n hx hb dX3_init_49 rfl (lv_at hl 0 rfl) ?_
  refine lv_bipush (v := (60 : Int32)) hx hb dX3_init_50 (by decide) ?_
  refine gn_a (atype := .int) (ty := .int) (a0 := (60, .inl (fun _ => 0))) (N' := 60) hx hb (hT _ ac_i) rfl hK 0 rfl (fun _ _ h1 h2 => ra_i h1 h2) hP hD hS hA (fun _ => rfl) (by decide) (by decide) (Nat.le_of_ble_eq_true rfl) (Nat.le_of_ble_eq_true rfl) (Nat.le_of_ble_eq_true rfl) dX3_init_52 (fun q7 H hP hD hS => ?_)
  refine W.widen (k := 7) (n := 252) (Nat.le_of_ble_eq_true rfl) (Nat.le_of_ble_eq_true rfl) ?_
  refine va_putF (D := D) (v := .ref q7) (ty := .array .int) (C := RX3) (T := TX3) (N := 12) hx hb hT inlX3 tyX3 tyX3_ok nmX3 hown hK.1.1 hP hD hS 0 rfl rfl 8 (by decide) (hT _ fl_RX3_31) (fun _ h9 => h9) rfl hin rfl (by decide +kernel) rfl rfl (Nat.le_of_ble_eq_true rfl) dX3_init_54 (fun H locs hP hD hS => ?_)
  have hP : va_P D vwCl ([(a, .inr (3, [.ref q1, .ref q2, .ref q3, .int 0, .int 0, .ref q4, .ref q5, .ref q6, .ref q7, .int 0, .int 0, .int 0])), (q1, .inl (cA 0, 4, .inl (fun _ => 0))), (q2, .inl (cA 0, 4, .inl (fun _ => 0))), (q3, .inl (cA 1, 4, .inl (fun _ => 0))), (q4, .inl (cA 0, 60, .inl (fun _ => 0))), (q5, .inl (cA 0, 60, .inl (fun _ => 0))), (q6, .inl (cA 0, 60, .inl (fun _ => 0))), (q7, .inl (cA 0, 60, .inl (fun _ => 0)))]) H := hP
  have hD : va_D A ([(a, .inr (3, [.ref q1, .ref q2, .ref q3, .int 0, .int 0, .ref q4, .ref q5, .ref q6, .ref q7, .int 0, .int 0, .int 0])), (q1, .inl (cA 0, 4, .inl (fun _ => 0))), (q2, .inl (cA 0, 4, .inl (fun _ => 0))), (q3, .inl (cA 1, 4, .inl (fun _ => 0))), (q4, .inl (cA 0, 60, .inl (fun _ => 0))), (q5, .inl (cA 0, 60, .inl (fun _ => 0))), (q6, .inl (cA 0, 60, .inl (fun _ => 0))), (q7, .inl (cA 0, 60, .inl (fun _ => 0)))]) := hD
  exact W.vret hx hb hr (fun t ht hW => ⟨⟨(fun k => ([a, q1, q2, q3, q4, q5, q6, q7] : List Nat).getD k 0), rfl, rfl, (by rw [ht]; exact hP), hD⟩, hS.F ht⟩) hS.2.2 dX3_init_57
