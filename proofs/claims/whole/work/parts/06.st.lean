set_option maxRecDepth 100000 in
set_option maxHeartbeats 8000000 in
theorem k_J13_bitCount_95d88 (l : Launch) (D : va_G) (cA : Nat → ClassId)  (sz : Nat) (u0 : Int64) (R : Int32 × Unit) (h : f_J13_bitCount_95d88 u0 = some R) : Met l yJ13_bitCount_95d88 (wsU yJ13_bitCount_95d88 cJ13_bitCount_95d88 2 (some .int)) ({ frames := 0, cells := 0, slots := 0, locals := 0 }) (PcW D cA (wl ([] : List va_W)) sz [.long u0]) (QI D (fun _ : Unit => (wl ([] : List va_W))) R (va_A (wl ([] : List va_W)) sz)) 0 0 (va_A (wl ([] : List va_W)) sz) := by
  refine Met.ofW (cc := cJ13_bitCount_95d88) (maxL := 2) (ret := (some .int)) (by decide) rfl ?_
  intro p e s m args below meth c s₁ B hml hv
  obtain ⟨rfl, hsz, hP, hK, hD0⟩ := hv
  have hx := B.exec
  have hb := B.bytes
  have hr := B.returns
  have hts := atoms_spec (ws := (wsU yJ13_bitCount_95d88 cJ13_bitCount_95d88 2 (some .int))) B.pre
  have hT : ∀ w ∈ wsL_law, w.before ([.long u0] : List Value).toArray s = true := fun w h => hts w (List.mem_cons_of_mem _ h)
  have hown : s.vm.findClass RJ13 = some m.cls := findClass_of_methodNamed B.named
  have hlocks := B.notSynchronized
  have hN := hK.2
  subst hsz
  have hD := hD0.self (sz := s.heap.size)
  generalize hAe : va_A (wl ([] : List va_W)) s.heap.size = A at hD ⊢
  have hA : ∀ q : Nat, s.heap.size ≤ q → A q := fun q h => by rw [← hAe]; exact Or.inr h
  have hS : va_S A s.heap s.heap [] := va_S.rf
  have hl := lv_entry ([.long u0]) (n := 2) (Nat.le_of_ble_eq_true rfl)
  rw [lg_entry_eq]
  generalize (lg_sl ([.long u0]) ++ List.replicate (2 - (lg_sl ([.long u0])).length) Slot.unset).toArray = ls at hl ⊢
  have hl : lv_has ls 2 [(0, .long u0)] := hl
  unfold f_J13_bitCount_95d88 at h
  refine lv_lload_n hx hb dJ13_bitCount_95d88_0 rfl (lv_at hl 0 rfl) ?_
  refine lv_lload_n hx hb dJ13_bitCount_95d88_1 rfl (lv_at hl 0 rfl) ?_
  refine lv_iconst (v := (1 : Int32)) hx hb dJ13_bitCount_95d88_2 (by decide) ?_
  refine lv_lushr (v := (u0.toUInt64 >>> ((1 : Int32).toInt64.toUInt64 &&& Int64.toUInt64 63)).toInt64) hx hb dJ13_bitCount_95d88_3 rfl ?_
  refine lv_ldc2 (v := (6148914691236517205 : Int64)) hx hb hown (hT _ kl_RJ13_314) dJ13_bitCount_95d88_4 ?_
  refine lv_land hx hb dJ13_bitCount_95d88_7 ?_
  refine lv_lsub hx hb dJ13_bitCount_95d88_8 ?_
  obtain ⟨z1, e2, h⟩ := og_bind h
  refine gt_j (og_inj e2) ?_
  refine lv_lstore_n (lv' := [(0, .long z1)]) hx hb dJ13_bitCount_95d88_9 rfl hl (by decide) rfl (fun ls hl => ?_)
  refine lv_lload_n hx hb dJ13_bitCount_95d88_10 rfl (lv_at hl 0 rfl) ?_
  refine lv_ldc2 (v := (3689348814741910323 : Int64)) hx hb hown (hT _ kl_RJ13_316) dJ13_bitCount_95d88_11 ?_
  refine lv_land hx hb dJ13_bitCount_95d88_14 ?_
  refine lv_lload_n hx hb dJ13_bitCount_95d88_15 rfl (lv_at hl 0 rfl) ?_
  refine lv_iconst (v := (2 : Int32)) hx hb dJ13_bitCount_95d88_16 (by decide) ?_
  refine lv_lushr (v := (z1.toUInt64 >>> ((2 : Int32).toInt64.toUInt64 &&& Int64.toUInt64 63)).toInt64) hx hb dJ13_bitCount_95d88_17 rfl ?_
  refine lv_ldc2 (v := (3689348814741910323 : Int64)) hx hb hown (hT _ kl_RJ13_316) dJ13_bitCount_95d88_18 ?_
  refine lv_land hx hb dJ13_bitCount_95d88_21 ?_
  refine lv_ladd hx hb dJ13_bitCount_95d88_22 ?_
  obtain ⟨z3, e4, h⟩ := og_bind h
  refine gt_j (og_inj e4) ?_
  refine lv_lstore_n (lv' := [(0, .long z3)]) hx hb dJ13_bitCount_95d88_23 rfl hl (by decide) rfl (fun ls hl => ?_)
  refine lv_lload_n hx hb dJ13_bitCount_95d88_24 rfl (lv_at hl 0 rfl) ?_
  refine lv_lload_n hx hb dJ13_bitCount_95d88_25 rfl (lv_at hl 0 rfl) ?_
  refine lv_iconst (v := (4 : Int32)) hx hb dJ13_bitCount_95d88_26 (by decide) ?_
  refine lv_lushr (v := (z3.toUInt64 >>> ((4 : Int32).toInt64.toUInt64 &&& Int64.toUInt64 63)).toInt64) hx hb dJ13_bitCount_95d88_27 rfl ?_
  refine lv_ladd hx hb dJ13_bitCount_95d88_28 ?_
  refine lv_ldc2 (v := (1085102592571150095 : Int64)) hx hb hown (hT _ kl_RJ13_318) dJ13_bitCount_95d88_29 ?_
  refine lv_land hx hb dJ13_bitCount_95d88_32 ?_
  obtain ⟨z5, e6, h⟩ := og_bind h
  refine gt_j (og_inj e6) ?_
  refine lv_lstore_n (lv' := [(0, .long z5)]) hx hb dJ13_bitCount_95d88_33 rfl hl (by decide) rfl (fun ls hl => ?_)
  refine lv_lload_n hx hb dJ13_bitCount_95d88_34 rfl (lv_at hl 0 rfl) ?_
  refine lv_lload_n hx hb dJ13_bitCount_95d88_35 rfl (lv_at hl 0 rfl) ?_
  refine lv_bipush (v := (8 : Int32)) hx hb dJ13_bitCount_95d88_36 (by decide) ?_
  refine lv_lushr (v := (z5.toUInt64 >>> ((8 : Int32).toInt64.toUInt64 &&& Int64.toUInt64 63)).toInt64) hx hb dJ13_bitCount_95d88_38 rfl ?_
  refine lv_ladd hx hb dJ13_bitCount_95d88_39 ?_
  obtain ⟨z7, e8, h⟩ := og_bind h
  refine gt_j (og_inj e8) ?_
  refine lv_lstore_n (lv' := [(0, .long z7)]) hx hb dJ13_bitCount_95d88_40 rfl hl (by decide) rfl (fun ls hl => ?_)
  refine lv_lload_n hx hb dJ13_bitCount_95d88_41 rfl (lv_at hl 0 rfl) ?_
  refine lv_lload_n hx hb dJ13_bitCount_95d88_42 rfl (lv_at hl 0 rfl) ?_
  refine lv_bipush (v := (16 : Int32)) hx hb dJ13_bitCount_95d88_43 (by decide) ?_
  refine lv_lushr (v := (z7.toUInt64 >>> ((16 : Int32).toInt64.toUInt64 &&& Int64.toUInt64 63)).toInt64) hx hb dJ13_bitCount_95d88_45 rfl ?_
  refine lv_ladd hx hb dJ13_bitCount_95d88_46 ?_
  obtain ⟨z9, e10, h⟩ := og_bind h
  refine gt_j (og_inj e10) ?_
  refine lv_lstore_n (lv' := [(0, .long z9)]) hx hb dJ13_bitCount_95d88_47 rfl hl (by decide) rfl (fun ls hl => ?_)
  refine lv_lload_n hx hb dJ13_bitCount_95d88_48 rfl (lv_at hl 0 rfl) ?_
  refine lv_lload_n hx hb dJ13_bitCount_95d88_49 rfl (lv_at hl 0 rfl) ?_
  refine lv_bipush (v := (32 : Int32)) hx hb dJ13_bitCount_95d88_50 (by decide) ?_
  refine lv_lushr (v := (z9.toUInt64 >>> ((32 : Int32).toInt64.toUInt64 &&& Int64.toUInt64 63)).toInt64) hx hb dJ13_bitCount_95d88_52 rfl ?_
  refine lv_ladd hx hb dJ13_bitCount_95d88_53 ?_
  obtain ⟨z11, e12, h⟩ := og_bind h
  refine gt_j (og_inj e12) ?_
  refine lv_lstore_n (lv' := [(0, .long z11)]) hx hb dJ13_bitCount_95d88_54 rfl hl (by decide) rfl (fun ls hl => ?_)
  refine lv_lload_n hx hb dJ13_bitCount_95d88_55 rfl (lv_at hl 0 rfl) ?_
  refine lv_l2i (v := z11.toInt32) hx hb dJ13_bitCount_95d88_56 rfl ?_
  refine lv_bipush (v := (127 : Int32)) hx hb dJ13_bitCount_95d88_57 (by decide) ?_
  refine lv_iand hx hb dJ13_bitCount_95d88_59 ?_
  exact W.iret (v := (z11.toInt32 &&& (127 : Int32))) hx hb hr (fun t ht hW => ⟨⟨(z11.toInt32 &&& (127 : Int32)), (), rfl, ⟨(congrArg Prod.fst (og_inj h)).symm, (congrArg Prod.snd (og_inj h)).symm⟩, (by rw [ht]; exact hP), hD⟩, hS.F ht⟩) hS.2.2 dJ13_bitCount_95d88_60
set_option maxRecDepth 100000 in
set_option maxHeartbeats 8000000 in
theorem k_J7_fill_53178 (l : Launch) (D : va_G) (cA : Nat → ClassId) (aX : Nat) (nX : Nat) (sz : Nat) (n : Nat) (u1 : Int32) (xA : Nat → Int32) (R : (Nat → Int32)) (h : f_J7_fill_53178 n nX u1 xA = some R) : Met l yJ7_fill_53178 (wsU yJ7_fill_53178 cJ7_fill_53178 4 none) ({ frames := 0, cells := 0, slots := 0, locals := 0 }) (PcW D cA (wl [gX cA aX nX xA]) sz [.ref aX, .int u1]) (QV D (fun u : (Nat → Int32) => (wl [gX cA aX nX u])) R (va_A (wl [gX cA aX nX xA]) sz)) 0 0 (va_A (wl [gX cA aX nX xA]) sz) := by
  refine Met.ofW (cc := cJ7_fill_53178) (maxL := 4) (ret := none) (by decide) rfl ?_
  intro p e s m args below meth c s₁ B hml hv
  obtain ⟨rfl, hsz, hP, hK, hD0⟩ := hv
  have hx := B.exec
  have hb := B.bytes
  have hr := B.returns
  have hts := atoms_spec (ws := (wsU yJ7_fill_53178 cJ7_fill_53178 4 none)) B.pre
  have hT : ∀ w ∈ wsL_law, w.before ([.ref aX, .int u1] : List Value).toArray s = true := fun w h => hts w (List.mem_cons_of_mem _ h)
  have hown : s.vm.findClass RJ7 = some m.cls := findClass_of_methodNamed B.named
  have hlocks := B.notSynchronized
  have hN := hK.2
  subst hsz
  have hD := hD0.self (sz := s.heap.size)
  generalize hAe : va_A (wl [gX cA aX nX xA]) s.heap.size = A at hD ⊢
  have hA : ∀ q : Nat, s.heap.size ≤ q → A q := fun q h => by rw [← hAe]; exact Or.inr h
  have hS : va_S A s.heap s.heap [] := va_S.rf
  have hl := lv_entry ([.ref aX, .int u1]) (n := 4) (Nat.le_of_ble_eq_true rfl)
  rw [lg_entry_eq]
  generalize (lg_sl ([.ref aX, .int u1]) ++ List.replicate (4 - (lg_sl ([.ref aX, .int u1])).length) Slot.unset).toArray = ls at hl ⊢
  have hl : lv_has ls 4 [(0, .ref aX), (1, .int u1)] := hl
  have b5 : ∀ (x1 : Int32) (x3 : Int32) (nn : Nat), ∀ (x2 : Int32) (xA : Nat → Int32) (H : Heap) (locs : List Loc) (ls : Array Slot), lp (f_J7_fill_53178_l5 n nX x1 x3) nn (x2, xA) = some R → va_P D vwCl (wl [gX cA aX nX xA]) H → va_D A (wl [gX cA aX nX xA]) → va_S A s.heap H locs → lv_has ls 4 [(0, .ref aX), (1, .int x1), (2, .int x2), (3, .int x3)] → W p l e (headSpec (wsU yJ7_fill_53178 cJ7_fill_53178 4 none) ({ frames := 0, cells := 0, slots := 0, locals := 0 })).room s m ([.ref aX, .int u1] : List Value).toArray below meth c H locs 0 0 (MQ below (QV D (fun u : (Nat → Int32) => (wl [gX cA aX nX u])) R A) ([.ref aX, .int u1] : List Value).toArray s 0 0 A) (F0 m 5 ls []) := by
    intro x1 x3 nn
    induction nn with
    | zero =>
      intro x2 xA H locs ls h hP hD hS hl
      exact (lp_zero h).elim
    | succ nn hr5 =>
      intro x2 xA H locs ls h hP hD hS hl
      rw [lp_succ] at h
      unfold f_J7_fill_53178_l5 at h
      try dsimp only at h
      refine lv_iload_n hx hb dJ7_fill_53178_5 rfl (lv_at hl 2 rfl) ?_
      refine lv_iload_n hx hb dJ7_fill_53178_6 rfl (lv_at hl 3 rfl) ?_
      refine lv_icmp_ge (tgt := 20) hx hb dJ7_fill_53178_7 (by decide) (fun c1 => ?_) (fun c1 => ?_)
      · replace h := og_pos c1 h
        exact W.vret hx hb hr (fun t ht hW => ⟨⟨(xA), rfl, (og_inj h).symm, (by rw [ht]; exact hP), hD⟩, hS.F ht⟩) hS.2.2 dJ7_fill_53178_20
      · replace h := og_neg c1 h
        refine lv_aload_n hx hb dJ7_fill_53178_10 rfl (lv_at hl 0 rfl) ?_
        refine lv_iload_n hx hb dJ7_fill_53178_11 rfl (lv_at hl 2 rfl) ?_
        refine lv_iload_n hx hb dJ7_fill_53178_12 rfl (lv_at hl 1 rfl) ?_
        obtain ⟨g2, h⟩ := og_guard h
        refine va_iast hx hb hK.1 hP hD hS 0 0 rfl rfl (inb_vp g2) dJ7_fill_53178_13 (fun H locs hP hD hS => ?_)
        have hP : va_P D vwCl (wl [gX cA aX nX (upd xA x2.toNatClampNeg x1)]) H := hP
        have hD : va_D A (wl [gX cA aX nX (upd xA x2.toNatClampNeg x1)]) := hD
        refine lv_iinc (v := (x2 + 1)) (lv' := [(2, .int (x2 + 1)), (0, .ref aX), (1, .int x1), (3, .int x3)]) hx hb dJ7_fill_53178_14 hl (k := 2) rfl rfl (by decide) rfl (fun ls hl => ?_)
        refine lv_goto (tgt := 5) hx hb dJ7_fill_53178_17 (by decide) ?_
        exact hr5 _ _ _ _ _ h hP hD hS (lv_sub hl [1, 2, 0, 3] rfl)
  unfold f_J7_fill_53178 at h
  refine lv_iconst (v := (0 : Int32)) hx hb dJ7_fill_53178_0 (by decide) ?_
  refine lv_istore_n (lv' := [(2, .int (0 : Int32)), (0, .ref aX), (1, .int u1)]) hx hb dJ7_fill_53178_1 rfl hl (by decide) rfl (fun ls hl => ?_)
  refine lv_aload_n hx hb dJ7_fill_53178_2 rfl (lv_at hl 1 rfl) ?_
  refine va_alen (v := Int32.ofNat nX) hx hb hK.1 hP 0 0 rfl rfl rfl dJ7_fill_53178_3 ?_
  refine lv_istore_n (lv' := [(3, .int (Int32.ofNat nX)), (2, .int (0 : Int32)), (0, .ref aX), (1, .int u1)]) hx hb dJ7_fill_53178_4 rfl hl (by decide) rfl (fun ls hl => ?_)
  exact b5  _ _ n _ _ _ _ _ h hP hD hS (lv_sub hl [2, 3, 1, 0] rfl)
set_option maxRecDepth 100000 in
set_option maxHeartbeats 8000000 in
theorem k_X4_isRegister (l : Launch) (D : va_G) (cA : Nat → ClassId)  (sz : Nat) (u0 : Int32) (R : Int32 × Unit) (h : f_X4_isRegister u0 = some R) : Met l yX4_isRegister (wsU yX4_isRegister cX4_isRegister 1 (some .boolean)) ({ frames := 0, cells := 0, slots := 0, locals := 0 }) (PcW D cA (wl ([] : List va_W)) sz [.int u0]) (QI D (fun _ : Unit => (wl ([] : List va_W))) R (va_A (wl ([] : List va_W)) sz)) 0 0 (va_A (wl ([] : List va_W)) sz) := by
  refine Met.ofW (cc := cX4_isRegister) (maxL := 1) (ret := (some .boolean)) (by decide) rfl ?_
  intro p e s m args below meth c s₁ B hml hv
  obtain ⟨rfl, hsz, hP, hK, hD0⟩ := hv
  have hx := B.exec
  have hb := B.bytes
  have hr := B.returns
  have hts := atoms_spec (ws := (wsU yX4_isRegister cX4_isRegister 1 (some .boolean))) B.pre
  have hT : ∀ w ∈ wsL_law, w.before ([.int u0] : List Value).toArray s = true := fun w h => hts w (List.mem_cons_of_mem _ h)
  have hown : s.vm.findClass RX4 = some m.cls := findClass_of_methodNamed B.named
  have hlocks := B.notSynchronized
  have hN := hK.2
  subst hsz
  have hD := hD0.self (sz := s.heap.size)
  generalize hAe : va_A (wl ([] : List va_W)) s.heap.size = A at hD ⊢
  have hA : ∀ q : Nat, s.heap.size ≤ q → A q := fun q h => by rw [← hAe]; exact Or.inr h
  have hS : va_S A s.heap s.heap [] := va_S.rf
  have hl := lv_entry ([.int u0]) (n := 1) (Nat.le_of_ble_eq_true rfl)
  rw [lg_entry_eq]
  generalize (lg_sl ([.int u0]) ++ List.replicate (1 - (lg_sl ([.int u0])).length) Slot.unset).toArray = ls at hl ⊢
  have hl : lv_has ls 1 [(0, .int u0)] := hl
  unfold f_X4_isRegister at h
  refine lv_iload_n hx hb dX4_isRegister_0 rfl (lv_at hl 0 rfl) ?_
  refine lv_if_lt (tgt := 14) hx hb dX4_isRegister_1 (by decide) (fun c1 => ?_) (fun c1 => ?_)
  · replace h := og_pos c1 h
    refine lv_iconst (v := (0 : Int32)) hx hb dX4_isRegister_14 (by decide) ?_
    exact W.zret (v := (0 : Int32)) hx hb hr (by decide +kernel) (fun t ht hW => ⟨⟨(0 : Int32), (), rfl, ⟨(congrArg Prod.fst (og_inj h)).symm, (congrArg Prod.snd (og_inj h)).symm⟩, (by rw [ht]; exact hP), hD⟩, hS.F ht⟩) hS.2.2 dX4_isRegister_15
  · replace h := og_neg c1 h
    refine lv_iload_n hx hb dX4_isRegister_4 rfl (lv_at hl 0 rfl) ?_
    refine lv_bipush (v := (16 : Int32)) hx hb dX4_isRegister_5 (by decide) ?_
    refine lv_icmp_ge (tgt := 14) hx hb dX4_isRegister_7 (by decide) (fun c2 => ?_) (fun c2 => ?_)
    · replace h := og_pos c2 h
      refine lv_iconst (v := (0 : Int32)) hx hb dX4_isRegister_14 (by decide) ?_
      exact W.zret (v := (0 : Int32)) hx hb hr (by decide +kernel) (fun t ht hW => ⟨⟨(0 : Int32), (), rfl, ⟨(congrArg Prod.fst (og_inj h)).symm, (congrArg Prod.snd (og_inj h)).symm⟩, (by rw [ht]; exact hP), hD⟩, hS.F ht⟩) hS.2.2 dX4_isRegister_15
    · replace h := og_neg c2 h
      refine lv_iconst (v := (1 : Int32)) hx hb dX4_isRegister_10 (by decide) ?_
      refine lv_goto (tgt := 15) hx hb dX4_isRegister_11 (by decide) ?_
      exact W.zret (v := (1 : Int32)) hx hb hr (by decide +kernel) (fun t ht hW => ⟨⟨(1 : Int32), (), rfl, ⟨(congrArg Prod.fst (og_inj h)).symm, (congrArg Prod.snd (og_inj h)).symm⟩, (by rw [ht]; exact hP), hD⟩, hS.F ht⟩) hS.2.2 dX4_isRegister_15
set_option maxRecDepth 100000 in
set_option maxHeartbeats 8000000 in
theorem k_X4_isCell (l : Launch) (D : va_G) (cA : Nat → ClassId)  (sz : Nat) (u0 : Int32) (R : Int32 × Unit) (h : f_X4_isCell u0 = some R) : Met l yX4_isCell (wsU yX4_isCell cX4_isCell 1 (some .boolean)) ({ frames := 0, cells := 0, slots := 0, locals := 0 }) (PcW D cA (wl ([] : List va_W)) sz [.int u0]) (QI D (fun _ : Unit => (wl ([] : List va_W))) R (va_A (wl ([] : List va_W)) sz)) 0 0 (va_A (wl ([] : List va_W)) sz) := by
  refine Met.ofW (cc := cX4_isCell) (maxL := 1) (ret := (some .boolean)) (by decide) rfl ?_
  intro p e s m args below meth c s₁ B hml hv
  obtain ⟨rfl, hsz, hP, hK, hD0⟩ := hv
  have hx := B.exec
  have hb := B.bytes
  have hr := B.returns
  have hts := atoms_spec (ws := (wsU yX4_isCell cX4_isCell 1 (some .boolean))) B.pre
  have hT : ∀ w ∈ wsL_law, w.before ([.int u0] : List Value).toArray s = true := fun w h => hts w (List.mem_cons_of_mem _ h)
  have hown : s.vm.findClass RX4 = some m.cls := findClass_of_methodNamed B.named
  have hlocks := B.notSynchronized
  have hN := hK.2
  subst hsz
  have hD := hD0.self (sz := s.heap.size)
  generalize hAe : va_A (wl ([] : List va_W)) s.heap.size = A at hD ⊢
  have hA : ∀ q : Nat, s.heap.size ≤ q → A q := fun q h => by rw [← hAe]; exact Or.inr h
  have hS : va_S A s.heap s.heap [] := va_S.rf
  have hl := lv_entry ([.int u0]) (n := 1) (Nat.le_of_ble_eq_true rfl)
  rw [lg_entry_eq]
  generalize (lg_sl ([.int u0]) ++ List.replicate (1 - (lg_sl ([.int u0])).length) Slot.unset).toArray = ls at hl ⊢
  have hl : lv_has ls 1 [(0, .int u0)] := hl
  unfold f_X4_isCell at h
  refine lv_iload_n hx hb dX4_isCell_0 rfl (lv_at hl 0 rfl) ?_
  refine lv_if_lt (tgt := 14) hx hb dX4_isCell_1 (by decide) (fun c1 => ?_) (fun c1 => ?_)
  · replace h := og_pos c1 h
    refine lv_iconst (v := (0 : Int32)) hx hb dX4_isCell_14 (by decide) ?_
    exact W.zret (v := (0 : Int32)) hx hb hr (by decide +kernel) (fun t ht hW => ⟨⟨(0 : Int32), (), rfl, ⟨(congrArg Prod.fst (og_inj h)).symm, (congrArg Prod.snd (og_inj h)).symm⟩, (by rw [ht]; exact hP), hD⟩, hS.F ht⟩) hS.2.2 dX4_isCell_15
  · replace h := og_neg c1 h
    refine lv_iload_n hx hb dX4_isCell_4 rfl (lv_at hl 0 rfl) ?_
    refine lv_bipush (v := (8 : Int32)) hx hb dX4_isCell_5 (by decide) ?_
    refine lv_icmp_ge (tgt := 14) hx hb dX4_isCell_7 (by decide) (fun c2 => ?_) (fun c2 => ?_)
    · replace h := og_pos c2 h
      refine lv_iconst (v := (0 : Int32)) hx hb dX4_isCell_14 (by decide) ?_
      exact W.zret (v := (0 : Int32)) hx hb hr (by decide +kernel) (fun t ht hW => ⟨⟨(0 : Int32), (), rfl, ⟨(congrArg Prod.fst (og_inj h)).symm, (congrArg Prod.snd (og_inj h)).symm⟩, (by rw [ht]; exact hP), hD⟩, hS.F ht⟩) hS.2.2 dX4_isCell_15
    · replace h := og_neg c2 h
      refine lv_iconst (v := (1 : Int32)) hx hb dX4_isCell_10 (by decide) ?_
      refine lv_goto (tgt := 15) hx hb dX4_isCell_11 (by decide) ?_
      exact W.zret (v := (1 : Int32)) hx hb hr (by decide +kernel) (fun t ht hW => ⟨⟨(1 : Int32), (), rfl, ⟨(congrArg Prod.fst (og_inj h)).symm, (congrArg Prod.snd (og_inj h)).symm⟩, (by rw [ht]; exact hP), hD⟩, hS.F ht⟩) hS.2.2 dX4_isCell_15
set_option maxRecDepth 100000 in
set_option maxHeartbeats 8000000 in
theorem k_X4_isDivision (l : Launch) (D : va_G) (cA : Nat → ClassId)  (sz : Nat) (u0 : Int32) (R : Int32 × Unit) (h : f_X4_isDivision u0 = some R) : Met l yX4_isDivision (wsU yX4_isDivision cX4_isDivision 1 (some .boolean)) ({ frames := 0, cells := 0, slots := 0, locals := 0 }) (PcW D cA (wl ([] : List va_W)) sz [.int u0]) (QI D (fun _ : Unit => (wl ([] : List va_W))) R (va_A (wl ([] : List va_W)) sz)) 0 0 (va_A (wl ([] : List va_W)) sz) := by
  refine Met.ofW (cc := cX4_isDivision) (maxL := 1) (ret := (some .boolean)) (by decide) rfl ?_
  intro p e s m args below meth c s₁ B hml hv
  obtain ⟨rfl, hsz, hP, hK, hD0⟩ := hv
  have hx := B.exec
  have hb := B.bytes
  have hr := B.returns
  have hts := atoms_spec (ws := (wsU yX4_isDivision cX4_isDivision 1 (some .boolean))) B.pre
  have hT : ∀ w ∈ wsL_law, w.before ([.int u0] : List Value).toArray s = true := fun w h => hts w (List.mem_cons_of_mem _ h)
  have hown : s.vm.findClass RX4 = some m.cls := findClass_of_methodNamed B.named
  have hlocks := B.notSynchronized
  have hN := hK.2
  subst hsz
  have hD := hD0.self (sz := s.heap.size)
  generalize hAe : va_A (wl ([] : List va_W)) s.heap.size = A at hD ⊢
  have hA : ∀ q : Nat, s.heap.size ≤ q → A q := fun q h => by rw [← hAe]; exact Or.inr h
  have hS : va_S A s.heap s.heap [] := va_S.rf
  have hl := lv_entry ([.int u0]) (n := 1) (Nat.le_of_ble_eq_true rfl)
  rw [lg_entry_eq]
  generalize (lg_sl ([.int u0]) ++ List.replicate (1 - (lg_sl ([.int u0])).length) Slot.unset).toArray = ls at hl ⊢
  have hl : lv_has ls 1 [(0, .int u0)] := hl
  unfold f_X4_isDivision at h
  refine lv_iload_n hx hb dX4_isDivision_0 rfl (lv_at hl 0 rfl) ?_
  refine lv_bipush (v := (12 : Int32)) hx hb dX4_isDivision_1 (by decide) ?_
  refine lv_icmp_lt (tgt := 16) hx hb dX4_isDivision_3 (by decide) (fun c1 => ?_) (fun c1 => ?_)
  · replace h := og_pos c1 h
    refine lv_iconst (v := (0 : Int32)) hx hb dX4_isDivision_16 (by decide) ?_
    exact W.zret (v := (0 : Int32)) hx hb hr (by decide +kernel) (fun t ht hW => ⟨⟨(0 : Int32), (), rfl, ⟨(congrArg Prod.fst (og_inj h)).symm, (congrArg Prod.snd (og_inj h)).symm⟩, (by rw [ht]; exact hP), hD⟩, hS.F ht⟩) hS.2.2 dX4_isDivision_17
  · replace h := og_neg c1 h
    refine lv_iload_n hx hb dX4_isDivision_6 rfl (lv_at hl 0 rfl) ?_
    refine lv_bipush (v := (15 : Int32)) hx hb dX4_isDivision_7 (by decide) ?_
    refine lv_icmp_gt (tgt := 16) hx hb dX4_isDivision_9 (by decide) (fun c2 => ?_) (fun c2 => ?_)
    · replace h := og_pos c2 h
      refine lv_iconst (v := (0 : Int32)) hx hb dX4_isDivision_16 (by decide) ?_
      exact W.zret (v := (0 : Int32)) hx hb hr (by decide +kernel) (fun t ht hW => ⟨⟨(0 : Int32), (), rfl, ⟨(congrArg Prod.fst (og_inj h)).symm, (congrArg Prod.snd (og_inj h)).symm⟩, (by rw [ht]; exact hP), hD⟩, hS.F ht⟩) hS.2.2 dX4_isDivision_17
    · replace h := og_neg c2 h
      refine lv_iconst (v := (1 : Int32)) hx hb dX4_isDivision_12 (by decide) ?_
      refine lv_goto (tgt := 17) hx hb dX4_isDivision_13 (by decide) ?_
      exact W.zret (v := (1 : Int32)) hx hb hr (by decide +kernel) (fun t ht hW => ⟨⟨(1 : Int32), (), rfl, ⟨(congrArg Prod.fst (og_inj h)).symm, (congrArg Prod.snd (og_inj h)).symm⟩, (by rw [ht]; exact hP), hD⟩, hS.F ht⟩) hS.2.2 dX4_isDivision_17
set_option maxRecDepth 100000 in
set_option maxHeartbeats 8000000 in
theorem k_X4_mark (l : Launch) (D : va_G) (cA : Nat → ClassId)  (sz : Nat) (u0 : Int32) (R : Int64 × Unit) (h : f_X4_mark u0 = some R) : Met l yX4_mark (wsU yX4_mark cX4_mark 1 (some .long)) ({ frames := 0, cells := 0, slots := 0, locals := 0 }) (PcW D cA (wl ([] : List va_W)) sz [.int u0]) (QL D (fun _ : Unit => (wl ([] : List va_W))) R (va_A (wl ([] : List va_W)) sz)) 0 0 (va_A (wl ([] : List va_W)) sz) := by
  refine Met.ofW (cc := cX4_mark) (maxL := 1) (ret := (some .long)) (by decide) rfl ?_
  intro p e s m args below meth c s₁ B hml hv
  obtain ⟨rfl, hsz, hP, hK, hD0⟩ := hv
  have hx := B.exec
  have hb := B.bytes
  have hr := B.returns
  have hts := atoms_spec (ws := (wsU yX4_mark cX4_mark 1 (some .long))) B.pre
  have hT : ∀ w ∈ wsL_law, w.before ([.int u0] : List Value).toArray s = true := fun w h => hts w (List.mem_cons_of_mem _ h)
  have hown : s.vm.findClass RX4 = some m.cls := findClass_of_methodNamed B.named
  have hlocks := B.notSynchronized
  have hN := hK.2
  subst hsz
  have hD := hD0.self (sz := s.heap.size)
  generalize hAe : va_A (wl ([] : List va_W)) s.heap.size = A at hD ⊢
  have hA : ∀ q : Nat, s.heap.size ≤ q → A q := fun q h => by rw [← hAe]; exact Or.inr h
  have hS : va_S A s.heap s.heap [] := va_S.rf
  have hl := lv_entry ([.int u0]) (n := 1) (Nat.le_of_ble_eq_true rfl)
  rw [lg_entry_eq]
  generalize (lg_sl ([.int u0]) ++ List.replicate (1 - (lg_sl ([.int u0])).length) Slot.unset).toArray = ls at hl ⊢
  have hl : lv_has ls 1 [(0, .int u0)] := hl
  unfold f_X4_mark at h
  refine lv_lconst (v := (1 : Int64)) hx hb dX4_mark_0 (by decide) ?_
  refine lv_bipush (v := (59 : Int32)) hx hb dX4_mark_1 (by decide) ?_
  refine lv_iload_n hx hb dX4_mark_3 rfl (lv_at hl 0 rfl) ?_
  refine lv_isub hx hb dX4_mark_4 ?_
  refine lv_lshl (v := ((1 : Int64) <<< (((59 : Int32) - u0).toInt64 &&& 63))) hx hb dX4_mark_5 rfl ?_
  exact W.lret (v := ((1 : Int64) <<< (((59 : Int32) - u0).toInt64 &&& 63))) hx hb hr (fun t ht hW => ⟨⟨((1 : Int64) <<< (((59 : Int32) - u0).toInt64 &&& 63)), (), rfl, ⟨(congrArg Prod.fst (og_inj h)).symm, (congrArg Prod.snd (og_inj h)).symm⟩, (by rw [ht]; exact hP), hD⟩, hS.F ht⟩) hS.2.2 dX4_mark_6
set_option maxRecDepth 100000 in
set_option maxHeartbeats 8000000 in
theorem k_X4_isMarked (l : Launch) (D : va_G) (cA : Nat → ClassId)  (sz : Nat) (u0 : Int64) (u2 : Int32) (R : Int32 × Unit) (h : f_X4_isMarked u0 u2 = some R) : Met l yX4_isMarked (wsU yX4_isMarked cX4_isMarked 3 (some .boolean)) ({ frames := 1, cells := 0, slots := 0, locals := 20 }) (PcW D cA (wl ([] : List va_W)) sz [.long u0, .int u2]) (QI D (fun _ : Unit => (wl ([] : List va_W))) R (va_A (wl ([] : List va_W)) sz)) 0 0 (va_A (wl ([] : List va_W)) sz) := by
  refine Met.ofW (cc := cX4_isMarked) (maxL := 3) (ret := (some .boolean)) (by decide) rfl ?_
  intro p e s m args below meth c s₁ B hml hv
  obtain ⟨rfl, hsz, hP, hK, hD0⟩ := hv
  have hx := B.exec
  have hb := B.bytes
  have hr := B.returns
  have hts := atoms_spec (ws := (wsU yX4_isMarked cX4_isMarked 3 (some .boolean))) B.pre
  have hT : ∀ w ∈ wsL_law, w.before ([.long u0, .int u2] : List Value).toArray s = true := fun w h => hts w (List.mem_cons_of_mem _ h)
  have hown : s.vm.findClass RX4 = some m.cls := findClass_of_methodNamed B.named
  have hlocks := B.notSynchronized
  have hN := hK.2
  subst hsz
  have hD := hD0.self (sz := s.heap.size)
  generalize hAe : va_A (wl ([] : List va_W)) s.heap.size = A at hD ⊢
  have hA : ∀ q : Nat, s.heap.size ≤ q → A q := fun q h => by rw [← hAe]; exact Or.inr h
  have hS : va_S A s.heap s.heap [] := va_S.rf
  have hl := lv_entry ([.long u0, .int u2]) (n := 3) (Nat.le_of_ble_eq_true rfl)
  rw [lg_entry_eq]
  generalize (lg_sl ([.long u0, .int u2]) ++ List.replicate (3 - (lg_sl ([.long u0, .int u2])).length) Slot.unset).toArray = ls at hl ⊢
  have hl : lv_has ls 3 [(0, .long u0), (2, .int u2)] := hl
  unfold f_X4_isMarked at h
  refine lv_lload_n hx hb dX4_isMarked_0 rfl (lv_at hl 0 rfl) ?_
  refine lv_iload_n hx hb dX4_isMarked_1 rfl (lv_at hl 1 rfl) ?_
  obtain ⟨⟨r1, _u1⟩, e1, h⟩ := og_bind h
  try dsimp only at h
  refine gc_l (ws := (wl ([] : List va_W))) (wc := (wl ([] : List va_W))) (wr := (wl ([] : List va_W))) (ws' := (wl ([] : List va_W))) (va_runS (As := [.int u2]) (rest := [.long u0]) ⟨hx, hb, hml, hown, hT⟩ (k_X4_mark l D cA  s.heap.size u2  _ e1) (cwS 1 hT gs_RX4_175 rfl rfl rfl (by decide +kernel) ⟨Nat.le_of_ble_eq_true rfl, Nat.le_of_ble_eq_true rfl⟩) (pre_S (wr := (wl ([] : List va_W))) (pm (f := fun i => ([] : List va_W).getD i []) [] [] [] (by decide)) hK hP hD) rfl rfl hl.1 rfl (lv_room (Nat.le_of_ble_eq_true rfl)) dX4_isMarked_2 ⟨Nat.le_refl _, Nat.le_refl _⟩) (pm (f := fun i => ([] : List va_W).getD i []) [] [] [] (by decide)) hP hD hS hA (pm (f := fun i => ([] : List va_W).getD i []) [] [] [] (by decide)) (fun H locs hP hD hS => ?_)
  refine lv_land hx hb dX4_isMarked_5 ?_
  refine lv_lconst (v := (0 : Int64)) hx hb dX4_isMarked_6 (by decide) ?_
  refine W.lcmp hx hb dX4_isMarked_7 ?_
  refine lv_if_eq (tgt := 15) hx hb dX4_isMarked_8 (by decide) (fun c2 => ?_) (fun c2 => ?_)
  · replace h := og_pos c2 h
    refine lv_iconst (v := (0 : Int32)) hx hb dX4_isMarked_15 (by decide) ?_
    exact W.zret (v := (0 : Int32)) hx hb hr (by decide +kernel) (fun t ht hW => ⟨⟨(0 : Int32), (), rfl, ⟨(congrArg Prod.fst (og_inj h)).symm, (congrArg Prod.snd (og_inj h)).symm⟩, (by rw [ht]; exact hP), hD⟩, hS.F ht⟩) hS.2.2 dX4_isMarked_16
  · replace h := og_neg c2 h
    refine lv_iconst (v := (1 : Int32)) hx hb dX4_isMarked_11 (by decide) ?_
    refine lv_goto (tgt := 16) hx hb dX4_isMarked_12 (by decide) ?_
    exact W.zret (v := (1 : Int32)) hx hb hr (by decide +kernel) (fun t ht hW => ⟨⟨(1 : Int32), (), rfl, ⟨(congrArg Prod.fst (og_inj h)).symm, (congrArg Prod.snd (og_inj h)).symm⟩, (by rw [ht]; exact hP), hD⟩, hS.F ht⟩) hS.2.2 dX4_isMarked_16
set_option maxRecDepth 100000 in
set_option maxHeartbeats 8000000 in
theorem k_X4_placeOfMark (l : Launch) (D : va_G) (cA : Nat → ClassId)  (sz : Nat) (n : Nat) (u0 : Int64) (u2 : Int32) (R : Int32 × Unit) (h : f_X4_placeOfMark n u0 u2 = some R) : Met l yX4_placeOfMark (wsU yX4_placeOfMark cX4_placeOfMark 5 (some .int)) ({ frames := 2, cells := 0, slots := 0, locals := 42 }) (PcW D cA (wl ([] : List va_W)) sz [.long u0, .int u2]) (QI D (fun _ : Unit => (wl ([] : List va_W))) R (va_A (wl ([] : List va_W)) sz)) 0 0 (va_A (wl ([] : List va_W)) sz) := by
  refine Met.ofW (cc := cX4_placeOfMark) (maxL := 5) (ret := (some .int)) (by decide) rfl ?_
  intro p e s m args below meth c s₁ B hml hv
  obtain ⟨rfl, hsz, hP, hK, hD0⟩ := hv
  have hx := B.exec
  have hb := B.bytes
  have hr := B.returns
  have hts := atoms_spec (ws := (wsU yX4_placeOfMark cX4_placeOfMark 5 (some .int))) B.pre
  have hT : ∀ w ∈ wsL_law, w.before ([.long u0, .int u2] : List Value).toArray s = true := fun w h => hts w (List.mem_cons_of_mem _ h)
  have hown : s.vm.findClass RX4 = some m.cls := findClass_of_methodNamed B.named
  have hlocks := B.notSynchronized
  have hN := hK.2
  subst hsz
  have hD := hD0.self (sz := s.heap.size)
  generalize hAe : va_A (wl ([] : List va_W)) s.heap.size = A at hD ⊢
  have hA : ∀ q : Nat, s.heap.size ≤ q → A q := fun q h => by rw [← hAe]; exact Or.inr h
  have hS : va_S A s.heap s.heap [] := va_S.rf
  have hl := lv_entry ([.long u0, .int u2]) (n := 5) (Nat.le_of_ble_eq_true rfl)
  rw [lg_entry_eq]
  generalize (lg_sl ([.long u0, .int u2]) ++ List.replicate (5 - (lg_sl ([.long u0, .int u2])).length) Slot.unset).toArray = ls at hl ⊢
  have hl : lv_has ls 5 [(0, .long u0), (2, .int u2)] := hl
  have b32 : ∀ (x0 : Int64) (x2 : Int32) (rc5 : (Int32 × Int32) → Option (Int32 × Unit)) (hr5 : ∀ (x3 : Int32) (x4 : Int32) (H : Heap) (locs : List Loc) (ls : Array Slot), rc5 (x3, x4) = some R → va_P D vwCl (wl ([] : List va_W)) H → va_D A (wl ([] : List va_W)) → va_S A s.heap H locs → lv_has ls 5 [(0, .long x0), (2, .int x2), (3, .int x3), (4, .int x4)] → W p l e (headSpec (wsU yX4_placeOfMark cX4_placeOfMark 5 (some .int)) ({ frames := 2, cells := 0, slots := 0, locals := 42 })).room s m ([.long u0, .int u2] : List Value).toArray below meth c H locs 0 0 (MQ below (QI D (fun _ : Unit => (wl ([] : List va_W))) R A) ([.long u0, .int u2] : List Value).toArray s 0 0 A) (F0 m 5 ls [])) (x3 : Int32) (x4 : Int32) (H : Heap) (locs : List Loc) (ls : Array Slot), f_X4_placeOfMark_b32 n rc5 x0 x2 x3 x4 = some R → va_P D vwCl (wl ([] : List va_W)) H → va_D A (wl ([] : List va_W)) → va_S A s.heap H locs → lv_has ls 5 [(0, .long x0), (2, .int x2), (3, .int x3), (4, .int x4)] → W p l e (headSpec (wsU yX4_placeOfMark cX4_placeOfMark 5 (some .int)) ({ frames := 2, cells := 0, slots := 0, locals := 42 })).room s m ([.long u0, .int u2] : List Value).toArray below meth c H locs 0 0 (MQ below (QI D (fun _ : Unit => (wl ([] : List va_W))) R A) ([.long u0, .int u2] : List Value).toArray s 0 0 A) (F0 m 32 ls []) := by
    intro x0 x2 rc5 hr5 x3 x4 H locs ls h hP hD hS hl
    unfold f_X4_placeOfMark_b32 at h
    refine lv_iinc (v := (x4 + 1)) (lv' := [(4, .int (x4 + 1)), (0, .long x0), (2, .int x2), (3, .int x3)]) hx hb dX4_placeOfMark_32 hl (k := 3) rfl rfl (by decide) rfl (fun ls hl => ?_)
    refine lv_goto (tgt := 5) hx hb dX4_placeOfMark_35 (by decide) ?_
    exact hr5 _ _ _ _ _ h hP hD hS (lv_sub hl [1, 2, 3, 0] rfl)
  have b5 : ∀ (x0 : Int64) (x2 : Int32) (nn : Nat), ∀ (x3 : Int32) (x4 : Int32) (H : Heap) (locs : List Loc) (ls : Array Slot), lp (f_X4_placeOfMark_l5 n x0 x2) nn (x3, x4) = some R → va_P D vwCl (wl ([] : List va_W)) H → va_D A (wl ([] : List va_W)) → va_S A s.heap H locs → lv_has ls 5 [(0, .long x0), (2, .int x2), (3, .int x3), (4, .int x4)] → W p l e (headSpec (wsU yX4_placeOfMark cX4_placeOfMark 5 (some .int)) ({ frames := 2, cells := 0, slots := 0, locals := 42 })).room s m ([.long u0, .int u2] : List Value).toArray below meth c H locs 0 0 (MQ below (QI D (fun _ : Unit => (wl ([] : List va_W))) R A) ([.long u0, .int u2] : List Value).toArray s 0 0 A) (F0 m 5 ls []) := by
    intro x0 x2 nn
    induction nn with
    | zero =>
      intro x3 x4 H locs ls h hP hD hS hl
      exact (lp_zero h).elim
    | succ nn hr5 =>
      intro x3 x4 H locs ls h hP hD hS hl
      rw [lp_succ] at h
      unfold f_X4_placeOfMark_l5 at h
      try dsimp only at h
      refine lv_iload hx hb dX4_placeOfMark_5 (lv_at hl 3 rfl) ?_
      refine lv_bipush (v := (60 : Int32)) hx hb dX4_placeOfMark_7 (by decide) ?_
      refine lv_icmp_ge (tgt := 38) hx hb dX4_placeOfMark_9 (by decide) (fun c1 => ?_) (fun c1 => ?_)
      · replace h := og_pos c1 h
        refine lv_iconst (v := (-1 : Int32)) hx hb dX4_placeOfMark_38 (by decide) ?_
        exact W.iret (v := (-1 : Int32)) hx hb hr (fun t ht hW => ⟨⟨(-1 : Int32), (), rfl, ⟨(congrArg Prod.fst (og_inj h)).symm, (congrArg Prod.snd (og_inj h)).symm⟩, (by rw [ht]; exact hP), hD⟩, hS.F ht⟩) hS.2.2 dX4_placeOfMark_39
      · replace h := og_neg c1 h
        refine lv_lload_n hx hb dX4_placeOfMark_12 rfl (lv_at hl 0 rfl) ?_
        refine lv_iload hx hb dX4_placeOfMark_13 (lv_at hl 3 rfl) ?_
        obtain ⟨⟨r2, _u2⟩, e2, h⟩ := og_bind h
        try dsimp only at h
        refine gc_i (ws := (wl ([] : List va_W))) (wc := (wl ([] : List va_W))) (wr := (wl ([] : List va_W))) (ws' := (wl ([] : List va_W))) (va_runS (As := [.long x0, .int x4]) (rest := []) ⟨hx, hb, hml, hown, hT⟩ (k_X4_isMarked l D cA  H.size x0 x4  _ e2) (cwS 2 hT gs_RX4_106 rfl rfl rfl (by decide +kernel) ⟨Nat.le_of_ble_eq_true rfl, Nat.le_of_ble_eq_true rfl⟩) (pre_S (wr := (wl ([] : List va_W))) (pm (f := fun i => ([] : List va_W).getD i []) [] [] [] (by decide)) hK hP hD) rfl rfl hl.1 rfl (lv_room (Nat.le_of_ble_eq_true rfl)) dX4_placeOfMark_15 ⟨Nat.le_refl _, Nat.le_refl _⟩) (pm (f := fun i => ([] : List va_W).getD i []) [] [] [] (by decide)) hP hD hS hA (pm (f := fun i => ([] : List va_W).getD i []) [] [] [] (by decide)) (fun H locs hP hD hS => ?_)
        refine lv_if_eq (tgt := 32) hx hb dX4_placeOfMark_18 (by decide) (fun c3 => ?_) (fun c3 => ?_)
        · replace h := og_pos c3 h
          exact b32 _ _ _ hr5 _ _ _ _ _ h hP hD hS (lv_sub hl [0, 1, 2, 3] rfl)
        · replace h := og_neg c3 h
          refine lv_iload_n hx hb dX4_placeOfMark_21 rfl (lv_at hl 2 rfl) ?_
          refine lv_iload_n hx hb dX4_placeOfMark_22 rfl (lv_at hl 1 rfl) ?_
          refine lv_icmp_ne (tgt := 29) hx hb dX4_placeOfMark_23 (by decide) (fun c4 => ?_) (fun c4 => ?_)
          · replace h := og_neg c4 h
            refine lv_iinc (v := (x3 + 1)) (lv' := [(3, .int (x3 + 1)), (0, .long x0), (2, .int x2), (4, .int x4)]) hx hb dX4_placeOfMark_29 hl (k := 2) rfl rfl (by decide) rfl (fun ls hl => ?_)
            exact b32 _ _ _ hr5 _ _ _ _ _ h hP hD hS (lv_sub hl [1, 2, 0, 3] rfl)
          · replace h := og_pos c4 h
            refine lv_iload hx hb dX4_placeOfMark_26 (lv_at hl 3 rfl) ?_
            exact W.iret (v := x4) hx hb hr (fun t ht hW => ⟨⟨x4, (), rfl, ⟨(congrArg Prod.fst (og_inj h)).symm, (congrArg Prod.snd (og_inj h)).symm⟩, (by rw [ht]; exact hP), hD⟩, hS.F ht⟩) hS.2.2 dX4_placeOfMark_28
  unfold f_X4_placeOfMark at h
  refine lv_iconst (v := (0 : Int32)) hx hb dX4_placeOfMark_0 (by decide) ?_
  refine lv_istore_n (lv' := [(3, .int (0 : Int32)), (0, .long u0), (2, .int u2)]) hx hb dX4_placeOfMark_1 rfl hl (by decide) rfl (fun ls hl => ?_)
  refine lv_iconst (v := (0 : Int32)) hx hb dX4_placeOfMark_2 (by decide) ?_
  refine lv_istore (lv' := [(4, .int (0 : Int32)), (3, .int (0 : Int32)), (0, .long u0), (2, .int u2)]) hx hb dX4_placeOfMark_3 hl (by decide) rfl (fun ls hl => ?_)
  exact b5  _ _ n _ _ _ _ _ h hP hD hS (lv_sub hl [2, 3, 1, 0] rfl)
set_option maxRecDepth 100000 in
set_option maxHeartbeats 8000000 in
theorem k_X4_isBelowUnsigned (l : Launch) (D : va_G) (cA : Nat → ClassId)  (sz : Nat) (u0 : Int32) (u1 : Int32) (R : Int32 × Unit) (h : f_X4_isBelowUnsigned u0 u1 = some R) : Met l yX4_isBelowUnsigned (wsU yX4_isBelowUnsigned cX4_isBelowUnsigned 2 (some .boolean)) ({ frames := 0, cells := 0, slots := 0, locals := 0 }) (PcW D cA (wl ([] : List va_W)) sz [.int u0, .int u1]) (QI D (fun _ : Unit => (wl ([] : List va_W))) R (va_A (wl ([] : List va_W)) sz)) 0 0 (va_A (wl ([] : List va_W)) sz) := by
  refine Met.ofW (cc := cX4_isBelowUnsigned) (maxL := 2) (ret := (some .boolean)) (by decide) rfl ?_
  intro p e s m args below meth c s₁ B hml hv
  obtain ⟨rfl, hsz, hP, hK, hD0⟩ := hv
  have hx := B.exec
  have hb := B.bytes
  have hr := B.returns
  have hts := atoms_spec (ws := (wsU yX4_isBelowUnsigned cX4_isBelowUnsigned 2 (some .boolean))) B.pre
  have hT : ∀ w ∈ wsL_law, w.before ([.int u0, .int u1] : List Value).toArray s = true := fun w h => hts w (List.mem_cons_of_mem _ h)
  have hown : s.vm.findClass RX4 = some m.cls := findClass_of_methodNamed B.named
  have hlocks := B.notSynchronized
  have hN := hK.2
  subst hsz
  have hD := hD0.self (sz := s.heap.size)
  generalize hAe : va_A (wl ([] : List va_W)) s.heap.size = A at hD ⊢
  have hA : ∀ q : Nat, s.heap.size ≤ q → A q := fun q h => by rw [← hAe]; exact Or.inr h
  have hS : va_S A s.heap s.heap [] := va_S.rf
  have hl := lv_entry ([.int u0, .int u1]) (n := 2) (Nat.le_of_ble_eq_true rfl)
  rw [lg_entry_eq]
  generalize (lg_sl ([.int u0, .int u1]) ++ List.replicate (2 - (lg_sl ([.int u0, .int u1])).length) Slot.unset).toArray = ls at hl ⊢
  have hl : lv_has ls 2 [(0, .int u0), (1, .int u1)] := hl
  unfold f_X4_isBelowUnsigned at h
  refine lv_iload_n hx hb dX4_isBelowUnsigned_0 rfl (lv_at hl 0 rfl) ?_
  refine lv_i2l (v := u0.toInt64) hx hb dX4_isBelowUnsigned_1 rfl ?_
  refine lv_ldc2 (v := (4294967295 : Int64)) hx hb hown (hT _ kl_RX4_179) dX4_isBelowUnsigned_2 ?_
  refine lv_land hx hb dX4_isBelowUnsigned_5 ?_
  refine lv_iload_n hx hb dX4_isBelowUnsigned_6 rfl (lv_at hl 1 rfl) ?_
  refine lv_i2l (v := u1.toInt64) hx hb dX4_isBelowUnsigned_7 rfl ?_
  refine lv_ldc2 (v := (4294967295 : Int64)) hx hb hown (hT _ kl_RX4_179) dX4_isBelowUnsigned_8 ?_
  refine lv_land hx hb dX4_isBelowUnsigned_11 ?_
  refine W.lcmp hx hb dX4_isBelowUnsigned_12 ?_
  refine lv_if_ge (tgt := 20) hx hb dX4_isBelowUnsigned_13 (by decide) (fun c1 => ?_) (fun c1 => ?_)
  · replace h := og_pos c1 h
    refine lv_iconst (v := (0 : Int32)) hx hb dX4_isBelowUnsigned_20 (by decide) ?_
    exact W.zret (v := (0 : Int32)) hx hb hr (by decide +kernel) (fun t ht hW => ⟨⟨(0 : Int32), (), rfl, ⟨(congrArg Prod.fst (og_inj h)).symm, (congrArg Prod.snd (og_inj h)).symm⟩, (by rw [ht]; exact hP), hD⟩, hS.F ht⟩) hS.2.2 dX4_isBelowUnsigned_21
  · replace h := og_neg c1 h
    refine lv_iconst (v := (1 : Int32)) hx hb dX4_isBelowUnsigned_16 (by decide) ?_
    refine lv_goto (tgt := 21) hx hb dX4_isBelowUnsigned_17 (by decide) ?_
    exact W.zret (v := (1 : Int32)) hx hb hr (by decide +kernel) (fun t ht hW => ⟨⟨(1 : Int32), (), rfl, ⟨(congrArg Prod.fst (og_inj h)).symm, (congrArg Prod.snd (og_inj h)).symm⟩, (by rw [ht]; exact hP), hD⟩, hS.F ht⟩) hS.2.2 dX4_isBelowUnsigned_21
set_option maxRecDepth 100000 in
set_option maxHeartbeats 8000000 in
theorem k_X4_combine (l : Launch) (D : va_G) (cA : Nat → ClassId)  (sz : Nat) (u0 : Int32) (u1 : Int32) (u2 : Int32) (R : Int32 × Unit) (h : f_X4_combine u0 u1 u2 = some R) : Met l yX4_combine (wsU yX4_combine cX4_combine 3 (some .int)) ({ frames := 1, cells := 0, slots := 0, locals := 21 }) (PcW D cA (wl ([] : List va_W)) sz [.int u0, .int u1, .int u2]) (QI D (fun _ : Unit => (wl ([] : List va_W))) R (va_A (wl ([] : List va_W)) sz)) 0 0 (va_A (wl ([] : List va_W)) sz) := by
  refine Met.ofW (cc := cX4_combine) (maxL := 3) (ret := (some .int)) (by decide) rfl ?_
  intro p e s m args below meth c s₁ B hml hv
  obtain ⟨rfl, hsz, hP, hK, hD0⟩ := hv
  have hx := B.exec
  have hb := B.bytes
  have hr := B.returns
  have hts := atoms_spec (ws := (wsU yX4_combine cX4_combine 3 (some .int))) B.pre
  have hT : ∀ w ∈ wsL_law, w.before ([.int u0, .int u1, .int u2] : List Value).toArray s = true := fun w h => hts w (List.mem_cons_of_mem _ h)
  have hown : s.vm.findClass RX4 = some m.cls := findClass_of_methodNamed B.named
  have hlocks := B.notSynchronized
  have hN := hK.2
  subst hsz
  have hD := hD0.self (sz := s.heap.size)
  generalize hAe : va_A (wl ([] : List va_W)) s.heap.size = A at hD ⊢
  have hA : ∀ q : Nat, s.heap.size ≤ q → A q := fun q h => by rw [← hAe]; exact Or.inr h
  have hS : va_S A s.heap s.heap [] := va_S.rf
  have hl := lv_entry ([.int u0, .int u1, .int u2]) (n := 3) (Nat.le_of_ble_eq_true rfl)
  rw [lg_entry_eq]
  generalize (lg_sl ([.int u0, .int u1, .int u2]) ++ List.replicate (3 - (lg_sl ([.int u0, .int u1, .int u2])).length) Slot.unset).toArray = ls at hl ⊢
  have hl : lv_has ls 3 [(0, .int u0), (1, .int u1), (2, .int u2)] := hl
  unfold f_X4_combine at h
  refine lv_iload_n hx hb dX4_combine_0 rfl (lv_at hl 0 rfl) ?_
  by_cases c9 : u0 = (3 : Int32)
  · replace h := og_pos c9 h
    refine gs_in (off := 91) (tgt := 92) 3 c9 hx hb dX4_combine_1 (by decide +kernel) (by decide) ?_
    refine lv_iload_n hx hb dX4_combine_92 rfl (lv_at hl 1 rfl) ?_
    refine lv_iload_n hx hb dX4_combine_93 rfl (lv_at hl 2 rfl) ?_
    refine lv_iadd hx hb dX4_combine_94 ?_
    exact W.iret (v := (u1 + u2)) hx hb hr (fun t ht hW => ⟨⟨(u1 + u2), (), rfl, ⟨(congrArg Prod.fst (og_inj h)).symm, (congrArg Prod.snd (og_inj h)).symm⟩, (by rw [ht]; exact hP), hD⟩, hS.F ht⟩) hS.2.2 dX4_combine_95
  replace h := og_neg c9 h
  by_cases c10 : u0 = (4 : Int32)
  · replace h := og_pos c10 h
    refine gs_in (off := 95) (tgt := 96) 4 c10 hx hb dX4_combine_1 (by decide +kernel) (by decide) ?_
    refine lv_iload_n hx hb dX4_combine_96 rfl (lv_at hl 1 rfl) ?_
    refine lv_iload_n hx hb dX4_combine_97 rfl (lv_at hl 2 rfl) ?_
    refine lv_isub hx hb dX4_combine_98 ?_
    exact W.iret (v := (u1 - u2)) hx hb hr (fun t ht hW => ⟨⟨(u1 - u2), (), rfl, ⟨(congrArg Prod.fst (og_inj h)).symm, (congrArg Prod.snd (og_inj h)).symm⟩, (by rw [ht]; exact hP), hD⟩, hS.F ht⟩) hS.2.2 dX4_combine_99
  replace h := og_neg c10 h
  by_cases c11 : u0 = (5 : Int32)
  · replace h := og_pos c11 h
    refine gs_in (off := 99) (tgt := 100) 5 c11 hx hb dX4_combine_1 (by decide +kernel) (by decide) ?_
    refine lv_iload_n hx hb dX4_combine_100 rfl (lv_at hl 1 rfl) ?_
    refine lv_iload_n hx hb dX4_combine_101 rfl (lv_at hl 2 rfl) ?_
    refine lv_imul hx hb dX4_combine_102 ?_
    exact W.iret (v := (u1 * u2)) hx hb hr (fun t ht hW => ⟨⟨(u1 * u2), (), rfl, ⟨(congrArg Prod.fst (og_inj h)).symm, (congrArg Prod.snd (og_inj h)).symm⟩, (by rw [ht]; exact hP), hD⟩, hS.F ht⟩) hS.2.2 dX4_combine_103
  replace h := og_neg c11 h
  by_cases c12 : u0 = (6 : Int32)
  · replace h := og_pos c12 h
    refine gs_in (off := 103) (tgt := 104) 6 c12 hx hb dX4_combine_1 (by decide +kernel) (by decide) ?_
    refine lv_iload_n hx hb dX4_combine_104 rfl (lv_at hl 1 rfl) ?_
    refine lv_iload_n hx hb dX4_combine_105 rfl (lv_at hl 2 rfl) ?_
    refine lv_iand hx hb dX4_combine_106 ?_
    exact W.iret (v := (u1 &&& u2)) hx hb hr (fun t ht hW => ⟨⟨(u1 &&& u2), (), rfl, ⟨(congrArg Prod.fst (og_inj h)).symm, (congrArg Prod.snd (og_inj h)).symm⟩, (by rw [ht]; exact hP), hD⟩, hS.F ht⟩) hS.2.2 dX4_combine_107
  replace h := og_neg c12 h
  by_cases c13 : u0 = (7 : Int32)
  · replace h := og_pos c13 h
    refine gs_in (off := 107) (tgt := 108) 7 c13 hx hb dX4_combine_1 (by decide +kernel) (by decide) ?_
    refine lv_iload_n hx hb dX4_combine_108 rfl (lv_at hl 1 rfl) ?_
    refine lv_iload_n hx hb dX4_combine_109 rfl (lv_at hl 2 rfl) ?_
    refine lv_ior hx hb dX4_combine_110 ?_
    exact W.iret (v := (u1 ||| u2)) hx hb hr (fun t ht hW => ⟨⟨(u1 ||| u2), (), rfl, ⟨(congrArg Prod.fst (og_inj h)).symm, (congrArg Prod.snd (og_inj h)).symm⟩, (by rw [ht]; exact hP), hD⟩, hS.F ht⟩) hS.2.2 dX4_combine_111
  replace h := og_neg c13 h
  by_cases c14 : u0 = (8 : Int32)
  · replace h := og_pos c14 h
    refine gs_in (off := 111) (tgt := 112) 8 c14 hx hb dX4_combine_1 (by decide +kernel) (by decide) ?_
    refine lv_iload_n hx hb dX4_combine_112 rfl (lv_at hl 1 rfl) ?_
    refine lv_iload_n hx hb dX4_combine_113 rfl (lv_at hl 2 rfl) ?_
    refine lv_ixor hx hb dX4_combine_114 ?_
    exact W.iret (v := (u1 ^^^ u2)) hx hb hr (fun t ht hW => ⟨⟨(u1 ^^^ u2), (), rfl, ⟨(congrArg Prod.fst (og_inj h)).symm, (congrArg Prod.snd (og_inj h)).symm⟩, (by rw [ht]; exact hP), hD⟩, hS.F ht⟩) hS.2.2 dX4_combine_115
  replace h := og_neg c14 h
  by_cases c15 : u0 = (9 : Int32)
  · replace h := og_pos c15 h
    refine gs_in (off := 115) (tgt := 116) 9 c15 hx hb dX4_combine_1 (by decide +kernel) (by decide) ?_
    refine lv_iload_n hx hb dX4_combine_116 rfl (lv_at hl 1 rfl) ?_
    refine lv_iload_n hx hb dX4_combine_117 rfl (lv_at hl 2 rfl) ?_
    refine lv_ishl hx hb dX4_combine_118 ?_
    exact W.iret (v := (u1 <<< (u2 &&& 31))) hx hb hr (fun t ht hW => ⟨⟨(u1 <<< (u2 &&& 31)), (), rfl, ⟨(congrArg Prod.fst (og_inj h)).symm, (congrArg Prod.snd (og_inj h)).symm⟩, (by rw [ht]; exact hP), hD⟩, hS.F ht⟩) hS.2.2 dX4_combine_119
  replace h := og_neg c15 h
  by_cases c16 : u0 = (10 : Int32)
  · replace h := og_pos c16 h
    refine gs_in (off := 119) (tgt := 120) 10 c16 hx hb dX4_combine_1 (by decide +kernel) (by decide) ?_
    refine lv_iload_n hx hb dX4_combine_120 rfl (lv_at hl 1 rfl) ?_
    refine lv_iload_n hx hb dX4_combine_121 rfl (lv_at hl 2 rfl) ?_
    refine lv_iushr (v := (u1.toUInt32 >>> (u2.toUInt32 &&& Int32.toUInt32 31)).toInt32) hx hb dX4_combine_122 rfl ?_
    exact W.iret (v := (u1.toUInt32 >>> (u2.toUInt32 &&& Int32.toUInt32 31)).toInt32) hx hb hr (fun t ht hW => ⟨⟨(u1.toUInt32 >>> (u2.toUInt32 &&& Int32.toUInt32 31)).toInt32, (), rfl, ⟨(congrArg Prod.fst (og_inj h)).symm, (congrArg Prod.snd (og_inj h)).symm⟩, (by rw [ht]; exact hP), hD⟩, hS.F ht⟩) hS.2.2 dX4_combine_123
  replace h := og_neg c16 h
  by_cases c17 : u0 = (11 : Int32)
  · replace h := og_pos c17 h
    refine gs_in (off := 123) (tgt := 124) 11 c17 hx hb dX4_combine_1 (by decide +kernel) (by decide) ?_
    refine lv_iload_n hx hb dX4_combine_124 rfl (lv_at hl 1 rfl) ?_
    refine lv_iload_n hx hb dX4_combine_125 rfl (lv_at hl 2 rfl) ?_
    refine lv_ishr hx hb dX4_combine_126 ?_
    exact W.iret (v := (u1 >>> (u2 &&& 31))) hx hb hr (fun t ht hW => ⟨⟨(u1 >>> (u2 &&& 31)), (), rfl, ⟨(congrArg Prod.fst (og_inj h)).symm, (congrArg Prod.snd (og_inj h)).symm⟩, (by rw [ht]; exact hP), hD⟩, hS.F ht⟩) hS.2.2 dX4_combine_127
  replace h := og_neg c17 h
  by_cases c18 : u0 = (16 : Int32)
  · replace h := og_pos c18 h
    refine gs_in (off := 127) (tgt := 128) 16 c18 hx hb dX4_combine_1 (by decide +kernel) (by decide) ?_
    refine lv_iload_n hx hb dX4_combine_128 rfl (lv_at hl 1 rfl) ?_
    refine lv_iload_n hx hb dX4_combine_129 rfl (lv_at hl 2 rfl) ?_
    refine lv_icmp_ne (tgt := 137) hx hb dX4_combine_130 (by decide) (fun c1 => ?_) (fun c1 => ?_)
    · replace h := og_neg c1 h
      refine lv_iconst (v := (0 : Int32)) hx hb dX4_combine_137 (by decide) ?_
      exact W.iret (v := (0 : Int32)) hx hb hr (fun t ht hW => ⟨⟨(0 : Int32), (), rfl, ⟨(congrArg Prod.fst (og_inj h)).symm, (congrArg Prod.snd (og_inj h)).symm⟩, (by rw [ht]; exact hP), hD⟩, hS.F ht⟩) hS.2.2 dX4_combine_138
    · replace h := og_pos c1 h
      refine lv_iconst (v := (1 : Int32)) hx hb dX4_combine_133 (by decide) ?_
      refine lv_goto (tgt := 138) hx hb dX4_combine_134 (by decide) ?_
      exact W.iret (v := (1 : Int32)) hx hb hr (fun t ht hW => ⟨⟨(1 : Int32), (), rfl, ⟨(congrArg Prod.fst (og_inj h)).symm, (congrArg Prod.snd (og_inj h)).symm⟩, (by rw [ht]; exact hP), hD⟩, hS.F ht⟩) hS.2.2 dX4_combine_138
  replace h := og_neg c18 h
  by_cases c19 : u0 = (17 : Int32)
  · replace h := og_pos c19 h
    refine gs_in (off := 138) (tgt := 139) 17 c19 hx hb dX4_combine_1 (by decide +kernel) (by decide) ?_
    refine lv_iload_n hx hb dX4_combine_139 rfl (lv_at hl 1 rfl) ?_
    refine lv_iload_n hx hb dX4_combine_140 rfl (lv_at hl 2 rfl) ?_
    refine lv_icmp_eq (tgt := 148) hx hb dX4_combine_141 (by decide) (fun c2 => ?_) (fun c2 => ?_)
    · replace h := og_pos c2 h
      refine lv_iconst (v := (0 : Int32)) hx hb dX4_combine_148 (by decide) ?_
      exact W.iret (v := (0 : Int32)) hx hb hr (fun t ht hW => ⟨⟨(0 : Int32), (), rfl, ⟨(congrArg Prod.fst (og_inj h)).symm, (congrArg Prod.snd (og_inj h)).symm⟩, (by rw [ht]; exact hP), hD⟩, hS.F ht⟩) hS.2.2 dX4_combine_149
    · replace h := og_neg c2 h
      refine lv_iconst (v := (1 : Int32)) hx hb dX4_combine_144 (by decide) ?_
      refine lv_goto (tgt := 149) hx hb dX4_combine_145 (by decide) ?_
      exact W.iret (v := (1 : Int32)) hx hb hr (fun t ht hW => ⟨⟨(1 : Int32), (), rfl, ⟨(congrArg Prod.fst (og_inj h)).symm, (congrArg Prod.snd (og_inj h)).symm⟩, (by rw [ht]; exact hP), hD⟩, hS.F ht⟩) hS.2.2 dX4_combine_149
  replace h := og_neg c19 h
  by_cases c20 : u0 = (18 : Int32)
  · replace h := og_pos c20 h
    refine gs_in (off := 149) (tgt := 150) 18 c20 hx hb dX4_combine_1 (by decide +kernel) (by decide) ?_
    refine lv_iload_n hx hb dX4_combine_150 rfl (lv_at hl 1 rfl) ?_
    refine lv_iload_n hx hb dX4_combine_151 rfl (lv_at hl 2 rfl) ?_
    obtain ⟨⟨r3, _u3⟩, e3, h⟩ := og_bind h
    try dsimp only at h
    refine gc_i (ws := (wl ([] : List va_W))) (wc := (wl ([] : List va_W))) (wr := (wl ([] : List va_W))) (ws' := (wl ([] : List va_W))) (va_runS (As := [.int u1, .int u2]) (rest := []) ⟨hx, hb, hml, hown, hT⟩ (k_X4_isBelowUnsigned l D cA  s.heap.size u1 u2  _ e3) (cwS 2 hT gs_RX4_181 rfl rfl rfl (by decide +kernel) ⟨Nat.le_of_ble_eq_true rfl, Nat.le_of_ble_eq_true rfl⟩) (pre_S (wr := (wl ([] : List va_W))) (pm (f := fun i => ([] : List va_W).getD i []) [] [] [] (by decide)) hK hP hD) rfl rfl hl.1 rfl (lv_room (Nat.le_of_ble_eq_true rfl)) dX4_combine_152 ⟨Nat.le_refl _, Nat.le_refl _⟩) (pm (f := fun i => ([] : List va_W).getD i []) [] [] [] (by decide)) hP hD hS hA (pm (f := fun i => ([] : List va_W).getD i []) [] [] [] (by decide)) (fun H locs hP hD hS => ?_)
    refine lv_if_eq (tgt := 162) hx hb dX4_combine_155 (by decide) (fun c4 => ?_) (fun c4 => ?_)
    · replace h := og_pos c4 h
      refine lv_iconst (v := (0 : Int32)) hx hb dX4_combine_162 (by decide) ?_
      exact W.iret (v := (0 : Int32)) hx hb hr (fun t ht hW => ⟨⟨(0 : Int32), (), rfl, ⟨(congrArg Prod.fst (og_inj h)).symm, (congrArg Prod.snd (og_inj h)).symm⟩, (by rw [ht]; exact hP), hD⟩, hS.F ht⟩) hS.2.2 dX4_combine_163
    · replace h := og_neg c4 h
      refine lv_iconst (v := (1 : Int32)) hx hb dX4_combine_158 (by decide) ?_
      refine lv_goto (tgt := 163) hx hb dX4_combine_159 (by decide) ?_
      exact W.iret (v := (1 : Int32)) hx hb hr (fun t ht hW => ⟨⟨(1 : Int32), (), rfl, ⟨(congrArg Prod.fst (og_inj h)).symm, (congrArg Prod.snd (og_inj h)).symm⟩, (by rw [ht]; exact hP), hD⟩, hS.F ht⟩) hS.2.2 dX4_combine_163
  replace h := og_neg c20 h
  by_cases c21 : u0 = (19 : Int32)
  · replace h := og_pos c21 h
    refine gs_in (off := 163) (tgt := 164) 19 c21 hx hb dX4_combine_1 (by decide +kernel) (by decide) ?_
    refine lv_iload_n hx hb dX4_combine_164 rfl (lv_at hl 2 rfl) ?_
    refine lv_iload_n hx hb dX4_combine_165 rfl (lv_at hl 1 rfl) ?_
    obtain ⟨⟨r5, _u5⟩, e5, h⟩ := og_bind h
    try dsimp only at h
    refine gc_i (ws := (wl ([] : List va_W))) (wc := (wl ([] : List va_W))) (wr := (wl ([] : List va_W))) (ws' := (wl ([] : List va_W))) (va_runS (As := [.int u2, .int u1]) (rest := []) ⟨hx, hb, hml, hown, hT⟩ (k_X4_isBelowUnsigned l D cA  s.heap.size u2 u1  _ e5) (cwS 2 hT gs_RX4_181 rfl rfl rfl (by decide +kernel) ⟨Nat.le_of_ble_eq_true rfl, Nat.le_of_ble_eq_true rfl⟩) (pre_S (wr := (wl ([] : List va_W))) (pm (f := fun i => ([] : List va_W).getD i []) [] [] [] (by decide)) hK hP hD) rfl rfl hl.1 rfl (lv_room (Nat.le_of_ble_eq_true rfl)) dX4_combine_166 ⟨Nat.le_refl _, Nat.le_refl _⟩) (pm (f := fun i => ([] : List va_W).getD i []) [] [] [] (by decide)) hP hD hS hA (pm (f := fun i => ([] : List va_W).getD i []) [] [] [] (by decide)) (fun H locs hP hD hS => ?_)
    refine lv_if_eq (tgt := 176) hx hb dX4_combine_169 (by decide) (fun c6 => ?_) (fun c6 => ?_)
    · replace h := og_pos c6 h
      refine lv_iconst (v := (1 : Int32)) hx hb dX4_combine_176 (by decide) ?_
      exact W.iret (v := (1 : Int32)) hx hb hr (fun t ht hW => ⟨⟨(1 : Int32), (), rfl, ⟨(congrArg Prod.fst (og_inj h)).symm, (congrArg Prod.snd (og_inj h)).symm⟩, (by rw [ht]; exact hP), hD⟩, hS.F ht⟩) hS.2.2 dX4_combine_177
    · replace h := og_neg c6 h
      refine lv_iconst (v := (0 : Int32)) hx hb dX4_combine_172 (by decide) ?_
      refine lv_goto (tgt := 177) hx hb dX4_combine_173 (by decide) ?_
      exact W.iret (v := (0 : Int32)) hx hb hr (fun t ht hW => ⟨⟨(0 : Int32), (), rfl, ⟨(congrArg Prod.fst (og_inj h)).symm, (congrArg Prod.snd (og_inj h)).symm⟩, (by rw [ht]; exact hP), hD⟩, hS.F ht⟩) hS.2.2 dX4_combine_177
  replace h := og_neg c21 h
  by_cases c22 : u0 = (20 : Int32)
  · replace h := og_pos c22 h
    refine gs_in (off := 177) (tgt := 178) 20 c22 hx hb dX4_combine_1 (by decide +kernel) (by decide) ?_
    refine lv_iload_n hx hb dX4_combine_178 rfl (lv_at hl 1 rfl) ?_
    refine lv_iload_n hx hb dX4_combine_179 rfl (lv_at hl 2 rfl) ?_
    refine lv_icmp_ge (tgt := 187) hx hb dX4_combine_180 (by decide) (fun c7 => ?_) (fun c7 => ?_)
    · replace h := og_pos c7 h
      refine lv_iconst (v := (0 : Int32)) hx hb dX4_combine_187 (by decide) ?_
      exact W.iret (v := (0 : Int32)) hx hb hr (fun t ht hW => ⟨⟨(0 : Int32), (), rfl, ⟨(congrArg Prod.fst (og_inj h)).symm, (congrArg Prod.snd (og_inj h)).symm⟩, (by rw [ht]; exact hP), hD⟩, hS.F ht⟩) hS.2.2 dX4_combine_188
    · replace h := og_neg c7 h
      refine lv_iconst (v := (1 : Int32)) hx hb dX4_combine_183 (by decide) ?_
      refine lv_goto (tgt := 188) hx hb dX4_combine_184 (by decide) ?_
      exact W.iret (v := (1 : Int32)) hx hb hr (fun t ht hW => ⟨⟨(1 : Int32), (), rfl, ⟨(congrArg Prod.fst (og_inj h)).symm, (congrArg Prod.snd (og_inj h)).symm⟩, (by rw [ht]; exact hP), hD⟩, hS.F ht⟩) hS.2.2 dX4_combine_188
  replace h := og_neg c22 h
  by_cases c23 : u0 = (21 : Int32)
  · replace h := og_pos c23 h
    refine gs_in (off := 188) (tgt := 189) 21 c23 hx hb dX4_combine_1 (by decide +kernel) (by decide) ?_
    refine lv_iload_n hx hb dX4_combine_189 rfl (lv_at hl 1 rfl) ?_
    refine lv_iload_n hx hb dX4_combine_190 rfl (lv_at hl 2 rfl) ?_
    refine lv_icmp_gt (tgt := 198) hx hb dX4_combine_191 (by decide) (fun c8 => ?_) (fun c8 => ?_)
    · replace h := og_pos c8 h
      refine lv_iconst (v := (0 : Int32)) hx hb dX4_combine_198 (by decide) ?_
      exact W.iret (v := (0 : Int32)) hx hb hr (fun t ht hW => ⟨⟨(0 : Int32), (), rfl, ⟨(congrArg Prod.fst (og_inj h)).symm, (congrArg Prod.snd (og_inj h)).symm⟩, (by rw [ht]; exact hP), hD⟩, hS.F ht⟩) hS.2.2 dX4_combine_199
    · replace h := og_neg c8 h
      refine lv_iconst (v := (1 : Int32)) hx hb dX4_combine_194 (by decide) ?_
      refine lv_goto (tgt := 199) hx hb dX4_combine_195 (by decide) ?_
      exact W.iret (v := (1 : Int32)) hx hb hr (fun t ht hW => ⟨⟨(1 : Int32), (), rfl, ⟨(congrArg Prod.fst (og_inj h)).symm, (congrArg Prod.snd (og_inj h)).symm⟩, (by rw [ht]; exact hP), hD⟩, hS.F ht⟩) hS.2.2 dX4_combine_199
  replace h := og_neg c23 h
  have hdf : W p l e (headSpec (wsU yX4_combine cX4_combine 3 (some .int)) ({ frames := 1, cells := 0, slots := 0, locals := 21 })).room s m ([.int u0, .int u1, .int u2] : List Value).toArray below meth c s.heap [] 0 0 (MQ below (QI D (fun _ : Unit => (wl ([] : List va_W))) R A) ([.int u0, .int u1, .int u2] : List Value).toArray s 0 0 A) (F0 m 200 ls []) := by
    refine lv_iconst (v := (0 : Int32)) hx hb dX4_combine_200 (by decide) ?_
    exact W.iret (v := (0 : Int32)) hx hb hr (fun t ht hW => ⟨⟨(0 : Int32), (), rfl, ⟨(congrArg Prod.fst (og_inj h)).symm, (congrArg Prod.snd (og_inj h)).symm⟩, (by rw [ht]; exact hP), hD⟩, hS.F ht⟩) hS.2.2 dX4_combine_201
  by_cases c24 : u0 = (12 : Int32)
  · exact gs_in (off := 199) (tgt := 200) 12 c24 hx hb dX4_combine_1 (by decide +kernel) (by decide) hdf
  by_cases c25 : u0 = (13 : Int32)
  · exact gs_in (off := 199) (tgt := 200) 13 c25 hx hb dX4_combine_1 (by decide +kernel) (by decide) hdf
  by_cases c26 : u0 = (14 : Int32)
  · exact gs_in (off := 199) (tgt := 200) 14 c26 hx hb dX4_combine_1 (by decide +kernel) (by decide) hdf
  by_cases c27 : u0 = (15 : Int32)
  · exact gs_in (off := 199) (tgt := 200) 15 c27 hx hb dX4_combine_1 (by decide +kernel) (by decide) hdf
  refine lv_tableOut (tgt := 200) hx hb dX4_combine_1 (gs_out 19 (by decide) (fun k9 hk9 => ?_)) (by decide) ?_
  · rcases (show k9 = 0 ∨ k9 = 1 ∨ k9 = 2 ∨ k9 = 3 ∨ k9 = 4 ∨ k9 = 5 ∨ k9 = 6 ∨ k9 = 7 ∨ k9 = 8 ∨ k9 = 9 ∨ k9 = 10 ∨ k9 = 11 ∨ k9 = 12 ∨ k9 = 13 ∨ k9 = 14 ∨ k9 = 15 ∨ k9 = 16 ∨ k9 = 17 ∨ k9 = 18 by omega) with rfl | rfl | rfl | rfl | rfl | rfl | rfl | rfl | rfl | rfl | rfl | rfl | rfl | rfl | rfl | rfl | rfl | rfl | rfl
    · exact gs_ne c9 (by decide +kernel)
    · exact gs_ne c10 (by decide +kernel)
    · exact gs_ne c11 (by decide +kernel)
    · exact gs_ne c12 (by decide +kernel)
    · exact gs_ne c13 (by decide +kernel)
    · exact gs_ne c14 (by decide +kernel)
    · exact gs_ne c15 (by decide +kernel)
    · exact gs_ne c16 (by decide +kernel)
    · exact gs_ne c17 (by decide +kernel)
    · exact gs_ne c24 (by decide +kernel)
    · exact gs_ne c25 (by decide +kernel)
    · exact gs_ne c26 (by decide +kernel)
    · exact gs_ne c27 (by decide +kernel)
    · exact gs_ne c18 (by decide +kernel)
    · exact gs_ne c19 (by decide +kernel)
    · exact gs_ne c20 (by decide +kernel)
    · exact gs_ne c21 (by decide +kernel)
    · exact gs_ne c22 (by decide +kernel)
    · exact gs_ne c23 (by decide +kernel)
  exact hdf
set_option maxRecDepth 100000 in
set_option maxHeartbeats 8000000 in
theorem k_X4_divide (l : Launch) (D : va_G) (cA : Nat → ClassId)  (sz : Nat) (u0 : Int32) (u1 : Int32) (u2 : Int32) (R : Int32 × Unit) (h : f_X4_divide u0 u1 u2 = some R) : Met l yX4_divide (wsU yX4_divide cX4_divide 8 (some .int)) ({ frames := 0, cells := 0, slots := 0, locals := 0 }) (PcW D cA (wl ([] : List va_W)) sz [.int u0, .int u1, .int u2]) (QI D (fun _ : Unit => (wl ([] : List va_W))) R (va_A (wl ([] : List va_W)) sz)) 0 0 (va_A (wl ([] : List va_W)) sz) := by
  refine Met.ofW (cc := cX4_divide) (maxL := 8) (ret := (some .int)) (by decide) rfl ?_
  intro p e s m args below meth c s₁ B hml hv
  obtain ⟨rfl, hsz, hP, hK, hD0⟩ := hv
  have hx := B.exec
  have hb := B.bytes
  have hr := B.returns
  have hts := atoms_spec (ws := (wsU yX4_divide cX4_divide 8 (some .int))) B.pre
  have hT : ∀ w ∈ wsL_law, w.before ([.int u0, .int u1, .int u2] : List Value).toArray s = true := fun w h => hts w (List.mem_cons_of_mem _ h)
  have hown : s.vm.findClass RX4 = some m.cls := findClass_of_methodNamed B.named
  have hlocks := B.notSynchronized
  have hN := hK.2
  subst hsz
  have hD := hD0.self (sz := s.heap.size)
  generalize hAe : va_A (wl ([] : List va_W)) s.heap.size = A at hD ⊢
  have hA : ∀ q : Nat, s.heap.size ≤ q → A q := fun q h => by rw [← hAe]; exact Or.inr h
  have hS : va_S A s.heap s.heap [] := va_S.rf
  have hl := lv_entry ([.int u0, .int u1, .int u2]) (n := 8) (Nat.le_of_ble_eq_true rfl)
  rw [lg_entry_eq]
  generalize (lg_sl ([.int u0, .int u1, .int u2]) ++ List.replicate (8 - (lg_sl ([.int u0, .int u1, .int u2])).length) Slot.unset).toArray = ls at hl ⊢
  have hl : lv_has ls 8 [(0, .int u0), (1, .int u1), (2, .int u2)] := hl
  have b91 : ∀ (y0 : Int64) (H : Heap) (locs : List Loc) (ls : Array Slot), f_X4_divide_b91 y0 = some R → va_P D vwCl (wl ([] : List va_W)) H → va_D A (wl ([] : List va_W)) → va_S A s.heap H locs → lv_has ls 8 [] → W p l e (headSpec (wsU yX4_divide cX4_divide 8 (some .int)) ({ frames := 0, cells := 0, slots := 0, locals := 0 })).room s m ([.int u0, .int u1, .int u2] : List Value).toArray below meth c H locs 0 0 (MQ below (QI D (fun _ : Unit => (wl ([] : List va_W))) R A) ([.int u0, .int u1, .int u2] : List Value).toArray s 0 0 A) (F0 m 91 ls [.long y0]) := by
    intro y0 H locs ls h hP hD hS hl
    unfold f_X4_divide_b91 at h
    refine lv_l2i (v := y0.toInt32) hx hb dX4_divide_91 rfl ?_
    exact W.iret (v := y0.toInt32) hx hb hr (fun t ht hW => ⟨⟨y0.toInt32, (), rfl, ⟨(congrArg Prod.fst (og_inj h)).symm, (congrArg Prod.snd (og_inj h)).symm⟩, (by rw [ht]; exact hP), hD⟩, hS.F ht⟩) hS.2.2 dX4_divide_92
  have b44 : ∀ (x1 : Int32) (x2 : Int32) (x3 : Int32) (H : Heap) (locs : List Loc) (ls : Array Slot), f_X4_divide_b44 x1 x2 x3 = some R → va_P D vwCl (wl ([] : List va_W)) H → va_D A (wl ([] : List va_W)) → va_S A s.heap H locs → lv_has ls 8 [(1, .int x1), (2, .int x2), (3, .int x3)] → W p l e (headSpec (wsU yX4_divide cX4_divide 8 (some .int)) ({ frames := 0, cells := 0, slots := 0, locals := 0 })).room s m ([.int u0, .int u1, .int u2] : List Value).toArray below meth c H locs 0 0 (MQ below (QI D (fun _ : Unit => (wl ([] : List va_W))) R A) ([.int u0, .int u1, .int u2] : List Value).toArray s 0 0 A) (F0 m 44 ls []) := by
    intro x1 x2 x3 H locs ls h hP hD hS hl
    unfold f_X4_divide_b44 at h
    refine lv_iload_n hx hb dX4_divide_44 rfl (lv_at hl 2 rfl) ?_
    refine lv_if_eq (tgt := 54) hx hb dX4_divide_45 (by decide) (fun c1 => ?_) (fun c1 => ?_)
    · replace h := og_pos c1 h
      refine lv_iload_n hx hb dX4_divide_54 rfl (lv_at hl 0 rfl) ?_
      refine lv_iload_n hx hb dX4_divide_55 rfl (lv_at hl 1 rfl) ?_
      obtain ⟨g2, h⟩ := og_guard h
      refine lv_idiv hx hb dX4_divide_56 g2 ?_
      exact W.iret (v := (x1 / x2)) hx hb hr (fun t ht hW => ⟨⟨(x1 / x2), (), rfl, ⟨(congrArg Prod.fst (og_inj h)).symm, (congrArg Prod.snd (og_inj h)).symm⟩, (by rw [ht]; exact hP), hD⟩, hS.F ht⟩) hS.2.2 dX4_divide_57
    · replace h := og_neg c1 h
      refine lv_iload_n hx hb dX4_divide_48 rfl (lv_at hl 0 rfl) ?_
      refine lv_iload_n hx hb dX4_divide_49 rfl (lv_at hl 1 rfl) ?_
      obtain ⟨g3, h⟩ := og_guard h
      refine lv_irem hx hb dX4_divide_50 g3 ?_
      refine lv_goto (tgt := 57) hx hb dX4_divide_51 (by decide) ?_
      exact W.iret (v := (x1 - x1 / x2 * x2)) hx hb hr (fun t ht hW => ⟨⟨(x1 - x1 / x2 * x2), (), rfl, ⟨(congrArg Prod.fst (og_inj h)).symm, (congrArg Prod.snd (og_inj h)).symm⟩, (by rw [ht]; exact hP), hD⟩, hS.F ht⟩) hS.2.2 dX4_divide_57
  have b17 : ∀ (x0 : Int32) (x1 : Int32) (x2 : Int32) (y0 : Int32) (H : Heap) (locs : List Loc) (ls : Array Slot), f_X4_divide_b17 x0 x1 x2 y0 = some R → va_P D vwCl (wl ([] : List va_W)) H → va_D A (wl ([] : List va_W)) → va_S A s.heap H locs → lv_has ls 8 [(0, .int x0), (1, .int x1), (2, .int x2)] → W p l e (headSpec (wsU yX4_divide cX4_divide 8 (some .int)) ({ frames := 0, cells := 0, slots := 0, locals := 0 })).room s m ([.int u0, .int u1, .int u2] : List Value).toArray below meth c H locs 0 0 (MQ below (QI D (fun _ : Unit => (wl ([] : List va_W))) R A) ([.int u0, .int u1, .int u2] : List Value).toArray s 0 0 A) (F0 m 17 ls [.int y0]) := by
    intro x0 x1 x2 y0 H locs ls h hP hD hS hl
    unfold f_X4_divide_b17 at h
    refine lv_istore_n (lv' := [(3, .int y0), (0, .int x0), (1, .int x1), (2, .int x2)]) hx hb dX4_divide_17 rfl hl (by decide) rfl (fun ls hl => ?_)
    refine lv_iload_n hx hb dX4_divide_18 rfl (lv_at hl 3 rfl) ?_
    refine lv_if_ne (tgt := 32) hx hb dX4_divide_19 (by decide) (fun c4 => ?_) (fun c4 => ?_)
    · replace h := og_neg c4 h
      refine lv_iload_n hx hb dX4_divide_32 rfl (lv_at hl 1 rfl) ?_
      refine lv_bipush (v := (14 : Int32)) hx hb dX4_divide_33 (by decide) ?_
      refine lv_icmp_eq (tgt := 44) hx hb dX4_divide_35 (by decide) (fun c5 => ?_) (fun c5 => ?_)
      · replace h := og_pos c5 h
        exact b44  _ _ _ _ _ _ h hP hD hS (lv_sub hl [2, 3, 0] rfl)
      · replace h := og_neg c5 h
        refine lv_iload_n hx hb dX4_divide_38 rfl (lv_at hl 1 rfl) ?_
        refine lv_bipush (v := (15 : Int32)) hx hb dX4_divide_39 (by decide) ?_
        refine lv_icmp_ne (tgt := 58) hx hb dX4_divide_41 (by decide) (fun c6 => ?_) (fun c6 => ?_)
        · replace h := og_neg c6 h
          refine lv_iload_n hx hb dX4_divide_58 rfl (lv_at hl 2 rfl) ?_
          refine lv_i2l (v := x1.toInt64) hx hb dX4_divide_59 rfl ?_
          refine lv_ldc2 (v := (4294967295 : Int64)) hx hb hown (hT _ kl_RX4_179) dX4_divide_60 ?_
          refine lv_land hx hb dX4_divide_63 ?_
          refine lv_lstore (lv' := [(4, .long (x1.toInt64 &&& (4294967295 : Int64))), (3, .int y0), (0, .int x0), (1, .int x1), (2, .int x2)]) hx hb dX4_divide_64 hl (by decide) rfl (fun ls hl => ?_)
          refine lv_iload_n hx hb dX4_divide_66 rfl (lv_at hl 4 rfl) ?_
          refine lv_i2l (v := x2.toInt64) hx hb dX4_divide_67 rfl ?_
          refine lv_ldc2 (v := (4294967295 : Int64)) hx hb hown (hT _ kl_RX4_179) dX4_divide_68 ?_
          refine lv_land hx hb dX4_divide_71 ?_
          refine lv_lstore (lv' := [(6, .long (x2.toInt64 &&& (4294967295 : Int64))), (4, .long (x1.toInt64 &&& (4294967295 : Int64))), (3, .int y0), (0, .int x0), (1, .int x1), (2, .int x2)]) hx hb dX4_divide_72 hl (by decide) rfl (fun ls hl => ?_)
          refine lv_iload_n hx hb dX4_divide_74 rfl (lv_at hl 2 rfl) ?_
          refine lv_if_eq (tgt := 86) hx hb dX4_divide_75 (by decide) (fun c7 => ?_) (fun c7 => ?_)
          · replace h := og_pos c7 h
            refine lv_lload hx hb dX4_divide_86 (lv_at hl 1 rfl) ?_
            refine lv_lload hx hb dX4_divide_88 (lv_at hl 0 rfl) ?_
            obtain ⟨g8, h⟩ := og_guard h
            refine lv_ldiv hx hb dX4_divide_90 g8 ?_
            exact b91  _ _ _ _ h hP hD hS (lv_sub hl [] rfl)
          · replace h := og_neg c7 h
            refine lv_lload hx hb dX4_divide_78 (lv_at hl 1 rfl) ?_
            refine lv_lload hx hb dX4_divide_80 (lv_at hl 0 rfl) ?_
            obtain ⟨g9, h⟩ := og_guard h
            refine lv_lrem hx hb dX4_divide_82 g9 ?_
            refine lv_goto (tgt := 91) hx hb dX4_divide_83 (by decide) ?_
            exact b91  _ _ _ _ h hP hD hS (lv_sub hl [] rfl)
        · replace h := og_pos c6 h
          exact b44  _ _ _ _ _ _ h hP hD hS (lv_sub hl [2, 3, 0] rfl)
    · replace h := og_pos c4 h
      refine lv_iload_n hx hb dX4_divide_22 rfl (lv_at hl 0 rfl) ?_
      refine lv_if_eq (tgt := 30) hx hb dX4_divide_23 (by decide) (fun c10 => ?_) (fun c10 => ?_)
      · replace h := og_pos c10 h
        refine lv_iconst (v := (-1 : Int32)) hx hb dX4_divide_30 (by decide) ?_
        exact W.iret (v := (-1 : Int32)) hx hb hr (fun t ht hW => ⟨⟨(-1 : Int32), (), rfl, ⟨(congrArg Prod.fst (og_inj h)).symm, (congrArg Prod.snd (og_inj h)).symm⟩, (by rw [ht]; exact hP), hD⟩, hS.F ht⟩) hS.2.2 dX4_divide_31
      · replace h := og_neg c10 h
        refine lv_iload_n hx hb dX4_divide_26 rfl (lv_at hl 2 rfl) ?_
        refine lv_goto (tgt := 31) hx hb dX4_divide_27 (by decide) ?_
        exact W.iret (v := x1) hx hb hr (fun t ht hW => ⟨⟨x1, (), rfl, ⟨(congrArg Prod.fst (og_inj h)).symm, (congrArg Prod.snd (og_inj h)).symm⟩, (by rw [ht]; exact hP), hD⟩, hS.F ht⟩) hS.2.2 dX4_divide_31
  have b12 : ∀ (x0 : Int32) (x1 : Int32) (x2 : Int32) (H : Heap) (locs : List Loc) (ls : Array Slot), f_X4_divide_b12 x0 x1 x2 = some R → va_P D vwCl (wl ([] : List va_W)) H → va_D A (wl ([] : List va_W)) → va_S A s.heap H locs → lv_has ls 8 [(0, .int x0), (1, .int x1), (2, .int x2)] → W p l e (headSpec (wsU yX4_divide cX4_divide 8 (some .int)) ({ frames := 0, cells := 0, slots := 0, locals := 0 })).room s m ([.int u0, .int u1, .int u2] : List Value).toArray below meth c H locs 0 0 (MQ below (QI D (fun _ : Unit => (wl ([] : List va_W))) R A) ([.int u0, .int u1, .int u2] : List Value).toArray s 0 0 A) (F0 m 12 ls []) := by
    intro x0 x1 x2 H locs ls h hP hD hS hl
    unfold f_X4_divide_b12 at h
    refine lv_iconst (v := (1 : Int32)) hx hb dX4_divide_12 (by decide) ?_
    refine lv_goto (tgt := 17) hx hb dX4_divide_13 (by decide) ?_
    exact b17  _ _ _ _ _ _ _ h hP hD hS (lv_sub hl [0, 1, 2] rfl)
  unfold f_X4_divide at h
  refine lv_iload_n hx hb dX4_divide_0 rfl (lv_at hl 0 rfl) ?_
  refine lv_bipush (v := (13 : Int32)) hx hb dX4_divide_1 (by decide) ?_
  refine lv_icmp_eq (tgt := 12) hx hb dX4_divide_3 (by decide) (fun c11 => ?_) (fun c11 => ?_)
  · replace h := og_pos c11 h
    exact b12  _ _ _ _ _ _ h hP hD hS (lv_sub hl [0, 1, 2] rfl)
  · replace h := og_neg c11 h
    refine lv_iload_n hx hb dX4_divide_6 rfl (lv_at hl 0 rfl) ?_
    refine lv_bipush (v := (15 : Int32)) hx hb dX4_divide_7 (by decide) ?_
    refine lv_icmp_ne (tgt := 16) hx hb dX4_divide_9 (by decide) (fun c12 => ?_) (fun c12 => ?_)
    · replace h := og_neg c12 h
      refine lv_iconst (v := (0 : Int32)) hx hb dX4_divide_16 (by decide) ?_
      exact b17  _ _ _ _ _ _ _ h hP hD hS (lv_sub hl [0, 1, 2] rfl)
    · replace h := og_pos c12 h
      exact b12  _ _ _ _ _ _ h hP hD hS (lv_sub hl [0, 1, 2] rfl)
