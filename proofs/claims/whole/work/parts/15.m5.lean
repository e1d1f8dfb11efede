set_option maxRecDepth 100000 in
set_option maxHeartbeats 8000000 in
theorem k_X5_has (l : Launch) (D : va_G) (cA : Nat → ClassId) (aR : Nat → Nat) (K : List Nat) (sz : Nat) (u1 : Int32) (rI : Nat → Int32) (rA : Nat → Nat → Int32) (rG : Nat → Option Nat) (rR : Nat → Nat → Int32) (R : Int32 × Unit) (h : f_X5_has K u1 rI = some R) : Met l yX5_has (wsU yX5_has cX5_has 2 (some .boolean)) ({ frames := 0, cells := 0, slots := 0, locals := 0 }) (PcW D cA (wl [gR cA aR rI rA rG] ++ gG cA K rR) sz [.ref (aR 0), .int u1]) (QI D (fun _ : Unit => (wl [gR cA aR rI rA rG] ++ gG cA K rR)) R (va_A (wl [gR cA aR rI rA rG] ++ gG cA K rR) sz)) 0 0 (va_A (wl [gR cA aR rI rA rG] ++ gG cA K rR) sz) := by
  refine Met.ofW (cc := cX5_has) (maxL := 2) (ret := (some .boolean)) (by decide) rfl ?_
  intro p e s m args below meth c s₁ B hml hv
  obtain ⟨rfl, hsz, hP, hK, hD0⟩ := hv
  have hx := B.exec
  have hb := B.bytes
  have hr := B.returns
  have hts := atoms_spec (ws := (wsU yX5_has cX5_has 2 (some .boolean))) B.pre
  have hT : ∀ w ∈ wsL_law, w.before ([.ref (aR 0), .int u1] : List Value).toArray s = true := fun w h => hts w (List.mem_cons_of_mem _ h)
  have hown : s.vm.findClass RX5 = some m.cls := findClass_of_methodNamed B.named
  have hlocks := B.notSynchronized
  have hN := hK.2
  subst hsz
  have hD := hD0.self (sz := s.heap.size)
  generalize hAe : va_A (wl [gR cA aR rI rA rG] ++ gG cA K rR) s.heap.size = A at hD ⊢
  have hA : ∀ q : Nat, s.heap.size ≤ q → A q := fun q h => by rw [← hAe]; exact Or.inr h
  have hS : va_S A s.heap s.heap [] := va_S.rf
  have hl := lv_entry ([.ref (aR 0), .int u1]) (n := 2) (Nat.le_of_ble_eq_true rfl)
  rw [lg_entry_eq]
  generalize (lg_sl ([.ref (aR 0), .int u1]) ++ List.replicate (2 - (lg_sl ([.ref (aR 0), .int u1])).length) Slot.unset).toArray = ls at hl ⊢
  have hl : lv_has ls 2 [(0, .ref (aR 0)), (1, .int u1)] := hl
  unfold f_X5_has at h
  refine lv_iload_n hx hb dX5_has_0 rfl (lv_at hl 1 rfl) ?_
  refine lv_if_lt (tgt := 16) hx hb dX5_has_1 (by decide) (fun c1 => ?_) (fun c1 => ?_)
  · replace h := og_pos c1 h
    refine lv_iconst (v := (0 : Int32)) hx hb dX5_has_16 (by decide) ?_
    exact W.zret (v := (0 : Int32)) hx hb hr (by decide +kernel) (fun t ht hW => ⟨⟨(0 : Int32), (), rfl, ⟨(congrArg Prod.fst (og_inj h)).symm, (congrArg Prod.snd (og_inj h)).symm⟩, (by rw [ht]; exact hP), hD⟩, hS.F ht⟩) hS.2.2 dX5_has_17
  · replace h := og_neg c1 h
    refine lv_iload_n hx hb dX5_has_4 rfl (lv_at hl 1 rfl) ?_
    refine lv_aload_n hx hb dX5_has_5 rfl (lv_at hl 0 rfl) ?_
    refine va_get (D := D) (C := RX5) (T := TX5) (N := 40) hx hb hT inlX5 hown hK.1 hP 0 rfl rfl 12 (by decide) (hT _ fl_RX5_29) (fun _ h9 => h9) rfl dX5_has_6 ?_
    refine lv_icmp_ge (tgt := 16) hx hb dX5_has_9 (by decide) (fun c2 => ?_) (fun c2 => ?_)
    · replace h := og_pos c2 h
      refine lv_iconst (v := (0 : Int32)) hx hb dX5_has_16 (by decide) ?_
      exact W.zret (v := (0 : Int32)) hx hb hr (by decide +kernel) (fun t ht hW => ⟨⟨(0 : Int32), (), rfl, ⟨(congrArg Prod.fst (og_inj h)).symm, (congrArg Prod.snd (og_inj h)).symm⟩, (by rw [ht]; exact hP), hD⟩, hS.F ht⟩) hS.2.2 dX5_has_17
    · replace h := og_neg c2 h
      refine lv_iconst (v := (1 : Int32)) hx hb dX5_has_12 (by decide) ?_
      refine lv_goto (tgt := 17) hx hb dX5_has_13 (by decide) ?_
      exact W.zret (v := (1 : Int32)) hx hb hr (by decide +kernel) (fun t ht hW => ⟨⟨(1 : Int32), (), rfl, ⟨(congrArg Prod.fst (og_inj h)).symm, (congrArg Prod.snd (og_inj h)).symm⟩, (by rw [ht]; exact hP), hD⟩, hS.F ht⟩) hS.2.2 dX5_has_17
set_option maxRecDepth 100000 in
set_option maxHeartbeats 8000000 in
theorem k_X5_isWord (l : Launch) (D : va_G) (cA : Nat → ClassId) (aR : Nat → Nat) (K : List Nat) (sz : Nat) (u1 : Int32) (rI : Nat → Int32) (rA : Nat → Nat → Int32) (rG : Nat → Option Nat) (rR : Nat → Nat → Int32) (R : Int32 × Unit) (h : f_X5_isWord K u1 rI = some R) : Met l yX5_isWord (wsU yX5_isWord cX5_isWord 2 (some .boolean)) ({ frames := 1, cells := 0, slots := 0, locals := 20 }) (PcW D cA (wl [gR cA aR rI rA rG] ++ gG cA K rR) sz [.ref (aR 0), .int u1]) (QI D (fun _ : Unit => (wl [gR cA aR rI rA rG] ++ gG cA K rR)) R (va_A (wl [gR cA aR rI rA rG] ++ gG cA K rR) sz)) 0 0 (va_A (wl [gR cA aR rI rA rG] ++ gG cA K rR) sz) := by
  refine Met.ofW (cc := cX5_isWord) (maxL := 2) (ret := (some .boolean)) (by decide) rfl ?_
  intro p e s m args below meth c s₁ B hml hv
  obtain ⟨rfl, hsz, hP, hK, hD0⟩ := hv
  have hx := B.exec
  have hb := B.bytes
  have hr := B.returns
  have hts := atoms_spec (ws := (wsU yX5_isWord cX5_isWord 2 (some .boolean))) B.pre
  have hT : ∀ w ∈ wsL_law, w.before ([.ref (aR 0), .int u1] : List Value).toArray s = true := fun w h => hts w (List.mem_cons_of_mem _ h)
  have hown : s.vm.findClass RX5 = some m.cls := findClass_of_methodNamed B.named
  have hlocks := B.notSynchronized
  have hN := hK.2
  subst hsz
  have hD := hD0.self (sz := s.heap.size)
  generalize hAe : va_A (wl [gR cA aR rI rA rG] ++ gG cA K rR) s.heap.size = A at hD ⊢
  have hA : ∀ q : Nat, s.heap.size ≤ q → A q := fun q h => by rw [← hAe]; exact Or.inr h
  have hS : va_S A s.heap s.heap [] := va_S.rf
  have hl := lv_entry ([.ref (aR 0), .int u1]) (n := 2) (Nat.le_of_ble_eq_true rfl)
  rw [lg_entry_eq]
  generalize (lg_sl ([.ref (aR 0), .int u1]) ++ List.replicate (2 - (lg_sl ([.ref (aR 0), .int u1])).length) Slot.unset).toArray = ls at hl ⊢
  have hl : lv_has ls 2 [(0, .ref (aR 0)), (1, .int u1)] := hl
  unfold f_X5_isWord at h
  refine lv_iload_n hx hb dX5_isWord_0 rfl (lv_at hl 1 rfl) ?_
  refine lv_if_lt (tgt := 16) hx hb dX5_isWord_1 (by decide) (fun c1 => ?_) (fun c1 => ?_)
  · replace h := og_pos c1 h
    refine lv_iconst (v := (0 : Int32)) hx hb dX5_isWord_16 (by decide) ?_
    exact W.zret (v := (0 : Int32)) hx hb hr (by decide +kernel) (fun t ht hW => ⟨⟨(0 : Int32), (), rfl, ⟨(congrArg Prod.fst (og_inj h)).symm, (congrArg Prod.snd (og_inj h)).symm⟩, (by rw [ht]; exact hP), hD⟩, hS.F ht⟩) hS.2.2 dX5_isWord_17
  · replace h := og_neg c1 h
    refine lv_iload_n hx hb dX5_isWord_4 rfl (lv_at hl 1 rfl) ?_
    refine lv_aload_n hx hb dX5_isWord_5 rfl (lv_at hl 0 rfl) ?_
    obtain ⟨⟨r2, _u2⟩, e2, h⟩ := og_bind h
    try dsimp only at h
    refine gc_i (ws := (wl [gR cA aR rI rA rG] ++ gG cA K rR)) (wc := (wl [gR cA aR rI rA rG] ++ gG cA K rR)) (wr := (wl ([] : List va_W))) (ws' := (wl [gR cA aR rI rA rG] ++ gG cA K rR)) (va_runV (As := []) (rest := [.int u1]) ⟨hx, hb, hml, hown, hT⟩ (k_X5_words l D cA aR K s.heap.size  rI rA rG rR _ e2) (cwV 0 hT gv_RX5_163 rfl rfl rfl (by decide +kernel) ⟨Nat.le_of_ble_eq_true rfl, Nat.le_of_ble_eq_true rfl⟩) (pre_V (ci := 5) (q0 := 0) (wr := (wl ([] : List va_W))) (pmB (f := fun i => ([gR cA aR rI rA rG] : List va_W).getD i []) [0] [0] [] (by decide)) hK hP hD rfl rfl) rfl rfl hl.1 rfl (lv_room (Nat.le_of_ble_eq_true rfl)) dX5_isWord_6 ⟨Nat.le_refl _, Nat.le_refl _⟩) (pmB (f := fun i => ([gR cA aR rI rA rG] : List va_W).getD i []) [0] [0] [] (by decide)) hP hD hS hA (pmB (f := fun i => ([gR cA aR rI rA rG] : List va_W).getD i []) [0] [0] [] (by decide)) (fun H locs hP hD hS => ?_)
    refine lv_icmp_ge (tgt := 16) hx hb dX5_isWord_9 (by decide) (fun c3 => ?_) (fun c3 => ?_)
    · replace h := og_pos c3 h
      refine lv_iconst (v := (0 : Int32)) hx hb dX5_isWord_16 (by decide) ?_
      exact W.zret (v := (0 : Int32)) hx hb hr (by decide +kernel) (fun t ht hW => ⟨⟨(0 : Int32), (), rfl, ⟨(congrArg Prod.fst (og_inj h)).symm, (congrArg Prod.snd (og_inj h)).symm⟩, (by rw [ht]; exact hP), hD⟩, hS.F ht⟩) hS.2.2 dX5_isWord_17
    · replace h := og_neg c3 h
      refine lv_iconst (v := (1 : Int32)) hx hb dX5_isWord_12 (by decide) ?_
      refine lv_goto (tgt := 17) hx hb dX5_isWord_13 (by decide) ?_
      exact W.zret (v := (1 : Int32)) hx hb hr (by decide +kernel) (fun t ht hW => ⟨⟨(1 : Int32), (), rfl, ⟨(congrArg Prod.fst (og_inj h)).symm, (congrArg Prod.snd (og_inj h)).symm⟩, (by rw [ht]; exact hP), hD⟩, hS.F ht⟩) hS.2.2 dX5_isWord_17
set_option maxRecDepth 100000 in
set_option maxHeartbeats 8000000 in
theorem k_X5_path (l : Launch) (D : va_G) (cA : Nat → ClassId) (aR : Nat → Nat) (K : List Nat) (sz : Nat) (u1 : Int32) (u2 : Int32) (rI : Nat → Int32) (rA : Nat → Nat → Int32) (rG : Nat → Option Nat) (rR : Nat → Nat → Int32) (R : Int32 × Unit) (h : f_X5_path K u1 u2 rI rA = some R) : Met l yX5_path (wsU yX5_path cX5_path 3 (some .int)) ({ frames := 1, cells := 0, slots := 0, locals := 21 }) (PcW D cA (wl [gR cA aR rI rA rG] ++ gG cA K rR) sz [.ref (aR 0), .int u1, .int u2]) (QI D (fun _ : Unit => (wl [gR cA aR rI rA rG] ++ gG cA K rR)) R (va_A (wl [gR cA aR rI rA rG] ++ gG cA K rR) sz)) 0 0 (va_A (wl [gR cA aR rI rA rG] ++ gG cA K rR) sz) := by
  refine Met.ofW (cc := cX5_path) (maxL := 3) (ret := (some .int)) (by decide) rfl ?_
  intro p e s m args below meth c s₁ B hml hv
  obtain ⟨rfl, hsz, hP, hK, hD0⟩ := hv
  have hx := B.exec
  have hb := B.bytes
  have hr := B.returns
  have hts := atoms_spec (ws := (wsU yX5_path cX5_path 3 (some .int))) B.pre
  have hT : ∀ w ∈ wsL_law, w.before ([.ref (aR 0), .int u1, .int u2] : List Value).toArray s = true := fun w h => hts w (List.mem_cons_of_mem _ h)
  have hown : s.vm.findClass RX5 = some m.cls := findClass_of_methodNamed B.named
  have hlocks := B.notSynchronized
  have hN := hK.2
  subst hsz
  have hD := hD0.self (sz := s.heap.size)
  generalize hAe : va_A (wl [gR cA aR rI rA rG] ++ gG cA K rR) s.heap.size = A at hD ⊢
  have hA : ∀ q : Nat, s.heap.size ≤ q → A q := fun q h => by rw [← hAe]; exact Or.inr h
  have hS : va_S A s.heap s.heap [] := va_S.rf
  have hl := lv_entry ([.ref (aR 0), .int u1, .int u2]) (n := 3) (Nat.le_of_ble_eq_true rfl)
  rw [lg_entry_eq]
  generalize (lg_sl ([.ref (aR 0), .int u1, .int u2]) ++ List.replicate (3 - (lg_sl ([.ref (aR 0), .int u1, .int u2])).length) Slot.unset).toArray = ls at hl ⊢
  have hl : lv_has ls 3 [(0, .ref (aR 0)), (1, .int u1), (2, .int u2)] := hl
  unfold f_X5_path at h
  refine lv_aload_n hx hb dX5_path_0 rfl (lv_at hl 0 rfl) ?_
  refine lv_iload_n hx hb dX5_path_1 rfl (lv_at hl 1 rfl) ?_
  obtain ⟨⟨r1, _u1⟩, e1, h⟩ := og_bind h
  try dsimp only at h
  refine gc_i (ws := (wl [gR cA aR rI rA rG] ++ gG cA K rR)) (wc := (wl [gR cA aR rI rA rG] ++ gG cA K rR)) (wr := (wl ([] : List va_W))) (ws' := (wl [gR cA aR rI rA rG] ++ gG cA K rR)) (va_runV (As := [.int u1]) (rest := []) ⟨hx, hb, hml, hown, hT⟩ (k_X5_has l D cA aR K s.heap.size u1 rI rA rG rR _ e1) (cwV 1 hT gv_RX5_188 rfl rfl rfl (by decide +kernel) ⟨Nat.le_of_ble_eq_true rfl, Nat.le_of_ble_eq_true rfl⟩) (pre_V (ci := 5) (q0 := 0) (wr := (wl ([] : List va_W))) (pmB (f := fun i => ([gR cA aR rI rA rG] : List va_W).getD i []) [0] [0] [] (by decide)) hK hP hD rfl rfl) rfl rfl hl.1 rfl (lv_room (Nat.le_of_ble_eq_true rfl)) dX5_path_2 ⟨Nat.le_refl _, Nat.le_refl _⟩) (pmB (f := fun i => ([gR cA aR rI rA rG] : List va_W).getD i []) [0] [0] [] (by decide)) hP hD hS hA (pmB (f := fun i => ([gR cA aR rI rA rG] : List va_W).getD i []) [0] [0] [] (by decide)) (fun H locs hP hD hS => ?_)
  refine lv_if_ne (tgt := 10) hx hb dX5_path_5 (by decide) (fun c2 => ?_) (fun c2 => ?_)
  · replace h := og_neg c2 h
    refine lv_iload_n hx hb dX5_path_10 rfl (lv_at hl 2 rfl) ?_
    by_cases c11 : u2 = (0 : Int32)
    · replace h := og_pos c11 h
      refine gs_in (off := 37) (tgt := 48) 0 c11 hx hb dX5_path_11 (by decide +kernel) (by decide) ?_
      refine lv_aload_n hx hb dX5_path_48 rfl (lv_at hl 0 rfl) ?_
      refine va_get (D := D) (C := RX5) (T := TX5) (N := 40) hx hb hT inlX5 hown hK.1 hP 0 rfl rfl 13 (by decide) (hT _ fl_RX5_33) (fun _ h9 => h9) rfl dX5_path_49 ?_
      refine lv_iload_n hx hb dX5_path_52 rfl (lv_at hl 1 rfl) ?_
      obtain ⟨g3, h⟩ := og_guard h
      refine va_iald hx hb hK.1 hP 7 0 rfl rfl (inb_vp g3) dX5_path_53 ?_
      exact W.iret (v := (rA 6 u1.toNatClampNeg)) hx hb hr (fun t ht hW => ⟨⟨(rA 6 u1.toNatClampNeg), (), rfl, ⟨(congrArg Prod.fst (og_inj h)).symm, (congrArg Prod.snd (og_inj h)).symm⟩, (by rw [ht]; exact hP), hD⟩, hS.F ht⟩) hS.2.2 dX5_path_54
    replace h := og_neg c11 h
    by_cases c12 : u2 = (1 : Int32)
    · replace h := og_pos c12 h
      refine gs_in (off := 44) (tgt := 55) 1 c12 hx hb dX5_path_11 (by decide +kernel) (by decide) ?_
      refine lv_aload_n hx hb dX5_path_55 rfl (lv_at hl 0 rfl) ?_
      refine va_get (D := D) (C := RX5) (T := TX5) (N := 40) hx hb hT inlX5 hown hK.1 hP 0 rfl rfl 14 (by decide) (hT _ fl_RX5_36) (fun _ h9 => h9) rfl dX5_path_56 ?_
      refine lv_iload_n hx hb dX5_path_59 rfl (lv_at hl 1 rfl) ?_
      obtain ⟨g4, h⟩ := og_guard h
      refine va_iald hx hb hK.1 hP 8 0 rfl rfl (inb_vp g4) dX5_path_60 ?_
      exact W.iret (v := (rA 7 u1.toNatClampNeg)) hx hb hr (fun t ht hW => ⟨⟨(rA 7 u1.toNatClampNeg), (), rfl, ⟨(congrArg Prod.fst (og_inj h)).symm, (congrArg Prod.snd (og_inj h)).symm⟩, (by rw [ht]; exact hP), hD⟩, hS.F ht⟩) hS.2.2 dX5_path_61
    replace h := og_neg c12 h
    by_cases c13 : u2 = (2 : Int32)
    · replace h := og_pos c13 h
      refine gs_in (off := 51) (tgt := 62) 2 c13 hx hb dX5_path_11 (by decide +kernel) (by decide) ?_
      refine lv_aload_n hx hb dX5_path_62 rfl (lv_at hl 0 rfl) ?_
      refine va_get (D := D) (C := RX5) (T := TX5) (N := 40) hx hb hT inlX5 hown hK.1 hP 0 rfl rfl 15 (by decide) (hT _ fl_RX5_39) (fun _ h9 => h9) rfl dX5_path_63 ?_
      refine lv_iload_n hx hb dX5_path_66 rfl (lv_at hl 1 rfl) ?_
      obtain ⟨g5, h⟩ := og_guard h
      refine va_iald hx hb hK.1 hP 9 0 rfl rfl (inb_vp g5) dX5_path_67 ?_
      exact W.iret (v := (rA 8 u1.toNatClampNeg)) hx hb hr (fun t ht hW => ⟨⟨(rA 8 u1.toNatClampNeg), (), rfl, ⟨(congrArg Prod.fst (og_inj h)).symm, (congrArg Prod.snd (og_inj h)).symm⟩, (by rw [ht]; exact hP), hD⟩, hS.F ht⟩) hS.2.2 dX5_path_68
    replace h := og_neg c13 h
    by_cases c14 : u2 = (3 : Int32)
    · replace h := og_pos c14 h
      refine gs_in (off := 58) (tgt := 69) 3 c14 hx hb dX5_path_11 (by decide +kernel) (by decide) ?_
      refine lv_aload_n hx hb dX5_path_69 rfl (lv_at hl 0 rfl) ?_
      refine va_get (D := D) (C := RX5) (T := TX5) (N := 40) hx hb hT inlX5 hown hK.1 hP 0 rfl rfl 16 (by decide) (hT _ fl_RX5_42) (fun _ h9 => h9) rfl dX5_path_70 ?_
      refine lv_iload_n hx hb dX5_path_73 rfl (lv_at hl 1 rfl) ?_
      obtain ⟨g6, h⟩ := og_guard h
      refine va_iald hx hb hK.1 hP 10 0 rfl rfl (inb_vp g6) dX5_path_74 ?_
      exact W.iret (v := (rA 9 u1.toNatClampNeg)) hx hb hr (fun t ht hW => ⟨⟨(rA 9 u1.toNatClampNeg), (), rfl, ⟨(congrArg Prod.fst (og_inj h)).symm, (congrArg Prod.snd (og_inj h)).symm⟩, (by rw [ht]; exact hP), hD⟩, hS.F ht⟩) hS.2.2 dX5_path_75
    replace h := og_neg c14 h
    by_cases c15 : u2 = (4 : Int32)
    · replace h := og_pos c15 h
      refine gs_in (off := 65) (tgt := 76) 4 c15 hx hb dX5_path_11 (by decide +kernel) (by decide) ?_
      refine lv_aload_n hx hb dX5_path_76 rfl (lv_at hl 0 rfl) ?_
      refine va_get (D := D) (C := RX5) (T := TX5) (N := 40) hx hb hT inlX5 hown hK.1 hP 0 rfl rfl 20 (by decide) (hT _ fl_RX5_56) (fun _ h9 => h9) rfl dX5_path_77 ?_
      refine lv_aload_n hx hb dX5_path_80 rfl (lv_at hl 0 rfl) ?_
      refine va_get (D := D) (C := RX5) (T := TX5) (N := 40) hx hb hT inlX5 hown hK.1 hP 0 rfl rfl 16 (by decide) (hT _ fl_RX5_42) (fun _ h9 => h9) rfl dX5_path_81 ?_
      refine lv_iload_n hx hb dX5_path_84 rfl (lv_at hl 1 rfl) ?_
      obtain ⟨g7, h⟩ := og_guard h
      refine va_iald hx hb hK.1 hP 10 0 rfl rfl (inb_vp g7) dX5_path_85 ?_
      obtain ⟨g8, h⟩ := og_guard h
      refine va_iald hx hb hK.1 hP 14 0 rfl rfl (inb_vp g8) dX5_path_86 ?_
      exact W.iret (v := (rA 12 (rA 9 u1.toNatClampNeg).toNatClampNeg)) hx hb hr (fun t ht hW => ⟨⟨(rA 12 (rA 9 u1.toNatClampNeg).toNatClampNeg), (), rfl, ⟨(congrArg Prod.fst (og_inj h)).symm, (congrArg Prod.snd (og_inj h)).symm⟩, (by rw [ht]; exact hP), hD⟩, hS.F ht⟩) hS.2.2 dX5_path_87
    replace h := og_neg c15 h
    by_cases c16 : u2 = (5 : Int32)
    · replace h := og_pos c16 h
      refine gs_in (off := 77) (tgt := 88) 5 c16 hx hb dX5_path_11 (by decide +kernel) (by decide) ?_
      refine lv_aload_n hx hb dX5_path_88 rfl (lv_at hl 0 rfl) ?_
      refine va_get (D := D) (C := RX5) (T := TX5) (N := 40) hx hb hT inlX5 hown hK.1 hP 0 rfl rfl 17 (by decide) (hT _ fl_RX5_45) (fun _ h9 => h9) rfl dX5_path_89 ?_
      refine lv_iload_n hx hb dX5_path_92 rfl (lv_at hl 1 rfl) ?_
      obtain ⟨g9, h⟩ := og_guard h
      refine va_zald hx hb hK.1 hP 11 1 rfl rfl (inb_vp g9) dX5_path_93 ?_
      obtain ⟨⟨r10, _u10⟩, e10, h⟩ := og_bind h
      try dsimp only at h
      refine gc_i (ws := (wl [gR cA aR rI rA rG] ++ gG cA K rR)) (wc := (wl ([] : List va_W))) (wr := (wl [gR cA aR rI rA rG] ++ gG cA K rR)) (ws' := (wl [gR cA aR rI rA rG] ++ gG cA K rR)) (va_runS (As := [.int (rA 10 u1.toNatClampNeg)]) (rest := []) ⟨hx, hb, hml, hown, hT⟩ (k_X5_truth l D cA  H.size (rA 10 u1.toNatClampNeg)  _ e10) (cwS 1 hT gs_RX5_128 rfl rfl rfl (by decide +kernel) ⟨Nat.le_of_ble_eq_true rfl, Nat.le_of_ble_eq_true rfl⟩) (pre_S (wr := (wl [gR cA aR rI rA rG] ++ gG cA K rR)) (pmC (f := fun i => ([gR cA aR rI rA rG] : List va_W).getD i []) [0] [] [0] (by decide)) hK hP hD) rfl rfl hl.1 rfl (lv_room (Nat.le_of_ble_eq_true rfl)) dX5_path_94 ⟨Nat.le_refl _, Nat.le_refl _⟩) (pmC (f := fun i => ([gR cA aR rI rA rG] : List va_W).getD i []) [0] [] [0] (by decide)) hP hD hS hA (pmC (f := fun i => ([gR cA aR rI rA rG] : List va_W).getD i []) [0] [] [0] (by decide)) (fun H locs hP hD hS => ?_)
      exact W.iret (v := r10) hx hb hr (fun t ht hW => ⟨⟨r10, (), rfl, ⟨(congrArg Prod.fst (og_inj h)).symm, (congrArg Prod.snd (og_inj h)).symm⟩, (by rw [ht]; exact hP), hD⟩, hS.F ht⟩) hS.2.2 dX5_path_97
    replace h := og_neg c16 h
    refine lv_tableOut (tgt := 98) hx hb dX5_path_11 (gs_out 6 (by decide) (fun k9 hk9 => ?_)) (by decide) ?_
    · rcases (show k9 = 0 ∨ k9 = 1 ∨ k9 = 2 ∨ k9 = 3 ∨ k9 = 4 ∨ k9 = 5 by omega) with rfl | rfl | rfl | rfl | rfl | rfl
      · exact gs_ne c11 (by decide +kernel)
      · exact gs_ne c12 (by decide +kernel)
      · exact gs_ne c13 (by decide +kernel)
      · exact gs_ne c14 (by decide +kernel)
      · exact gs_ne c15 (by decide +kernel)
      · exact gs_ne c16 (by decide +kernel)
    refine lv_iconst (v := (0 : Int32)) hx hb dX5_path_98 (by decide) ?_
    exact W.iret (v := (0 : Int32)) hx hb hr (fun t ht hW => ⟨⟨(0 : Int32), (), rfl, ⟨(congrArg Prod.fst (og_inj h)).symm, (congrArg Prod.snd (og_inj h)).symm⟩, (by rw [ht]; exact hP), hD⟩, hS.F ht⟩) hS.2.2 dX5_path_99
  · replace h := og_pos c2 h
    refine lv_iconst (v := (-1 : Int32)) hx hb dX5_path_8 (by decide) ?_
    exact W.iret (v := (-1 : Int32)) hx hb hr (fun t ht hW => ⟨⟨(-1 : Int32), (), rfl, ⟨(congrArg Prod.fst (og_inj h)).symm, (congrArg Prod.snd (og_inj h)).symm⟩, (by rw [ht]; exact hP), hD⟩, hS.F ht⟩) hS.2.2 dX5_path_9
set_option maxRecDepth 100000 in
set_option maxHeartbeats 8000000 in
theorem k_X5_decision (l : Launch) (D : va_G) (cA : Nat → ClassId) (aR : Nat → Nat) (K : List Nat) (sz : Nat) (u1 : Int32) (u2 : Int32) (rI : Nat → Int32) (rA : Nat → Nat → Int32) (rG : Nat → Option Nat) (rR : Nat → Nat → Int32) (R : Int32 × Unit) (h : f_X5_decision K u1 u2 rI rA rG rR = some R) : Met l yX5_decision (wsU yX5_decision cX5_decision 3 (some .int)) ({ frames := 1, cells := 0, slots := 0, locals := 21 }) (PcW D cA (wl [gR cA aR rI rA rG] ++ gG cA K rR) sz [.ref (aR 0), .int u1, .int u2]) (QI D (fun _ : Unit => (wl [gR cA aR rI rA rG] ++ gG cA K rR)) R (va_A (wl [gR cA aR rI rA rG] ++ gG cA K rR) sz)) 0 0 (va_A (wl [gR cA aR rI rA rG] ++ gG cA K rR) sz) := by
  refine Met.ofW (cc := cX5_decision) (maxL := 3) (ret := (some .int)) (by decide) rfl ?_
  intro p e s m args below meth c s₁ B hml hv
  obtain ⟨rfl, hsz, hP, hK, hD0⟩ := hv
  have hx := B.exec
  have hb := B.bytes
  have hr := B.returns
  have hts := atoms_spec (ws := (wsU yX5_decision cX5_decision 3 (some .int))) B.pre
  have hT : ∀ w ∈ wsL_law, w.before ([.ref (aR 0), .int u1, .int u2] : List Value).toArray s = true := fun w h => hts w (List.mem_cons_of_mem _ h)
  have hown : s.vm.findClass RX5 = some m.cls := findClass_of_methodNamed B.named
  have hlocks := B.notSynchronized
  have hN := hK.2
  subst hsz
  have hD := hD0.self (sz := s.heap.size)
  generalize hAe : va_A (wl [gR cA aR rI rA rG] ++ gG cA K rR) s.heap.size = A at hD ⊢
  have hA : ∀ q : Nat, s.heap.size ≤ q → A q := fun q h => by rw [← hAe]; exact Or.inr h
  have hS : va_S A s.heap s.heap [] := va_S.rf
  have hl := lv_entry ([.ref (aR 0), .int u1, .int u2]) (n := 3) (Nat.le_of_ble_eq_true rfl)
  rw [lg_entry_eq]
  generalize (lg_sl ([.ref (aR 0), .int u1, .int u2]) ++ List.replicate (3 - (lg_sl ([.ref (aR 0), .int u1, .int u2])).length) Slot.unset).toArray = ls at hl ⊢
  have hl : lv_has ls 3 [(0, .ref (aR 0)), (1, .int u1), (2, .int u2)] := hl
  unfold f_X5_decision at h
  refine lv_aload_n hx hb dX5_decision_0 rfl (lv_at hl 0 rfl) ?_
  refine lv_iload_n hx hb dX5_decision_1 rfl (lv_at hl 1 rfl) ?_
  obtain ⟨⟨r1, _u1⟩, e1, h⟩ := og_bind h
  try dsimp only at h
  refine gc_i (ws := (wl [gR cA aR rI rA rG] ++ gG cA K rR)) (wc := (wl [gR cA aR rI rA rG] ++ gG cA K rR)) (wr := (wl ([] : List va_W))) (ws' := (wl [gR cA aR rI rA rG] ++ gG cA K rR)) (va_runV (As := [.int u1]) (rest := []) ⟨hx, hb, hml, hown, hT⟩ (k_X5_has l D cA aR K s.heap.size u1 rI rA rG rR _ e1) (cwV 1 hT gv_RX5_188 rfl rfl rfl (by decide +kernel) ⟨Nat.le_of_ble_eq_true rfl, Nat.le_of_ble_eq_true rfl⟩) (pre_V (ci := 5) (q0 := 0) (wr := (wl ([] : List va_W))) (pmB (f := fun i => ([gR cA aR rI rA rG] : List va_W).getD i []) [0] [0] [] (by decide)) hK hP hD rfl rfl) rfl rfl hl.1 rfl (lv_room (Nat.le_of_ble_eq_true rfl)) dX5_decision_2 ⟨Nat.le_refl _, Nat.le_refl _⟩) (pmB (f := fun i => ([gR cA aR rI rA rG] : List va_W).getD i []) [0] [0] [] (by decide)) hP hD hS hA (pmB (f := fun i => ([gR cA aR rI rA rG] : List va_W).getD i []) [0] [0] [] (by decide)) (fun H locs hP hD hS => ?_)
  refine lv_if_eq (tgt := 33) hx hb dX5_decision_5 (by decide) (fun c2 => ?_) (fun c2 => ?_)
  · replace h := og_pos c2 h
    refine lv_iconst (v := (-1 : Int32)) hx hb dX5_decision_33 (by decide) ?_
    exact W.iret (v := (-1 : Int32)) hx hb hr (fun t ht hW => ⟨⟨(-1 : Int32), (), rfl, ⟨(congrArg Prod.fst (og_inj h)).symm, (congrArg Prod.snd (og_inj h)).symm⟩, (by rw [ht]; exact hP), hD⟩, hS.F ht⟩) hS.2.2 dX5_decision_34
  · replace h := og_neg c2 h
    refine lv_iload_n hx hb dX5_decision_8 rfl (lv_at hl 2 rfl) ?_
    refine lv_if_lt (tgt := 33) hx hb dX5_decision_9 (by decide) (fun c3 => ?_) (fun c3 => ?_)
    · replace h := og_pos c3 h
      refine lv_iconst (v := (-1 : Int32)) hx hb dX5_decision_33 (by decide) ?_
      exact W.iret (v := (-1 : Int32)) hx hb hr (fun t ht hW => ⟨⟨(-1 : Int32), (), rfl, ⟨(congrArg Prod.fst (og_inj h)).symm, (congrArg Prod.snd (og_inj h)).symm⟩, (by rw [ht]; exact hP), hD⟩, hS.F ht⟩) hS.2.2 dX5_decision_34
    · replace h := og_neg c3 h
      refine lv_iload_n hx hb dX5_decision_12 rfl (lv_at hl 2 rfl) ?_
      refine lv_aload_n hx hb dX5_decision_13 rfl (lv_at hl 0 rfl) ?_
      refine va_get (D := D) (C := RX5) (T := TX5) (N := 40) hx hb hT inlX5 hown hK.1 hP 0 rfl rfl 15 (by decide) (hT _ fl_RX5_39) (fun _ h9 => h9) rfl dX5_decision_14 ?_
      refine lv_iload_n hx hb dX5_decision_17 rfl (lv_at hl 1 rfl) ?_
      obtain ⟨g4, h⟩ := og_guard h
      refine va_iald hx hb hK.1 hP 9 0 rfl rfl (inb_vp g4) dX5_decision_18 ?_
      refine lv_icmp_ge (tgt := 33) hx hb dX5_decision_19 (by decide) (fun c5 => ?_) (fun c5 => ?_)
      · replace h := og_pos c5 h
        refine lv_iconst (v := (-1 : Int32)) hx hb dX5_decision_33 (by decide) ?_
        exact W.iret (v := (-1 : Int32)) hx hb hr (fun t ht hW => ⟨⟨(-1 : Int32), (), rfl, ⟨(congrArg Prod.fst (og_inj h)).symm, (congrArg Prod.snd (og_inj h)).symm⟩, (by rw [ht]; exact hP), hD⟩, hS.F ht⟩) hS.2.2 dX5_decision_34
      · replace h := og_neg c5 h
        refine lv_aload_n hx hb dX5_decision_22 rfl (lv_at hl 0 rfl) ?_
        refine va_get (D := D) (C := RX5) (T := TX5) (N := 40) hx hb hT inlX5 hown hK.1 hP 0 rfl rfl 18 (by decide) (hT _ fl_RX5_50) (fun _ h9 => h9) rfl dX5_decision_23 ?_
        refine lv_iload_n hx hb dX5_decision_26 rfl (lv_at hl 1 rfl) ?_
        obtain ⟨g6, h⟩ := og_guard h
        refine va_alda hx hb hK.1 hP 12 4 rfl rfl (inb_vp g6) dX5_decision_27 ?_
        obtain ⟨a7, e8, h⟩ := og_bind h
        obtain ⟨m9, h⟩ := og_guard h
        refine gr_some e8 ?_
        refine lv_iload_n hx hb dX5_decision_28 rfl (lv_at hl 2 rfl) ?_
        obtain ⟨g11, h⟩ := og_guard h
        obtain ⟨kq10, hkq10⟩ := va_pl_get (X := (wl [gR cA aR rI rA rG])) (f := fR cA rR) m9
        refine va_iald hx hb hK.1 hP kq10 0 hkq10 rfl (inb_vp g11) dX5_decision_29 ?_
        refine lv_goto (tgt := 34) hx hb dX5_decision_30 (by decide) ?_
        exact W.iret (v := (rR a7 u2.toNatClampNeg)) hx hb hr (fun t ht hW => ⟨⟨(rR a7 u2.toNatClampNeg), (), rfl, ⟨(congrArg Prod.fst (og_inj h)).symm, (congrArg Prod.snd (og_inj h)).symm⟩, (by rw [ht]; exact hP), hD⟩, hS.F ht⟩) hS.2.2 dX5_decision_34
set_option maxRecDepth 100000 in
set_option maxHeartbeats 8000000 in
theorem k_X5_holds (l : Launch) (D : va_G) (cA : Nat → ClassId) (aR : Nat → Nat) (K : List Nat) (sz : Nat) (u1 : Int32) (u2 : Int32) (rI : Nat → Int32) (rA : Nat → Nat → Int32) (rG : Nat → Option Nat) (rR : Nat → Nat → Int32) (R : Int32 × Unit) (h : f_X5_holds K u1 u2 rI rA = some R) : Met l yX5_holds (wsU yX5_holds cX5_holds 3 (some .int)) ({ frames := 2, cells := 0, slots := 0, locals := 41 }) (PcW D cA (wl [gR cA aR rI rA rG] ++ gG cA K rR) sz [.ref (aR 0), .int u1, .int u2]) (QI D (fun _ : Unit => (wl [gR cA aR rI rA rG] ++ gG cA K rR)) R (va_A (wl [gR cA aR rI rA rG] ++ gG cA K rR) sz)) 0 0 (va_A (wl [gR cA aR rI rA rG] ++ gG cA K rR) sz) := by
  refine Met.ofW (cc := cX5_holds) (maxL := 3) (ret := (some .int)) (by decide) rfl ?_
  intro p e s m args below meth c s₁ B hml hv
  obtain ⟨rfl, hsz, hP, hK, hD0⟩ := hv
  have hx := B.exec
  have hb := B.bytes
  have hr := B.returns
  have hts := atoms_spec (ws := (wsU yX5_holds cX5_holds 3 (some .int))) B.pre
  have hT : ∀ w ∈ wsL_law, w.before ([.ref (aR 0), .int u1, .int u2] : List Value).toArray s = true := fun w h => hts w (List.mem_cons_of_mem _ h)
  have hown : s.vm.findClass RX5 = some m.cls := findClass_of_methodNamed B.named
  have hlocks := B.notSynchronized
  have hN := hK.2
  subst hsz
  have hD := hD0.self (sz := s.heap.size)
  generalize hAe : va_A (wl [gR cA aR rI rA rG] ++ gG cA K rR) s.heap.size = A at hD ⊢
  have hA : ∀ q : Nat, s.heap.size ≤ q → A q := fun q h => by rw [← hAe]; exact Or.inr h
  have hS : va_S A s.heap s.heap [] := va_S.rf
  have hl := lv_entry ([.ref (aR 0), .int u1, .int u2]) (n := 3) (Nat.le_of_ble_eq_true rfl)
  rw [lg_entry_eq]
  generalize (lg_sl ([.ref (aR 0), .int u1, .int u2]) ++ List.replicate (3 - (lg_sl ([.ref (aR 0), .int u1, .int u2])).length) Slot.unset).toArray = ls at hl ⊢
  have hl : lv_has ls 3 [(0, .ref (aR 0)), (1, .int u1), (2, .int u2)] := hl
  have b31 : ∀ (y0 : Int32) (H : Heap) (locs : List Loc) (ls : Array Slot), f_X5_holds_b31 K y0 rI rA = some R → va_P D vwCl (wl [gR cA aR rI rA rG] ++ gG cA K rR) H → va_D A (wl [gR cA aR rI rA rG] ++ gG cA K rR) → va_S A s.heap H locs → lv_has ls 3 [] → W p l e (headSpec (wsU yX5_holds cX5_holds 3 (some .int)) ({ frames := 2, cells := 0, slots := 0, locals := 41 })).room s m ([.ref (aR 0), .int u1, .int u2] : List Value).toArray below meth c H locs 0 0 (MQ below (QI D (fun _ : Unit => (wl [gR cA aR rI rA rG] ++ gG cA K rR)) R A) ([.ref (aR 0), .int u1, .int u2] : List Value).toArray s 0 0 A) (F0 m 31 ls [.int y0]) := by
    intro y0 H locs ls h hP hD hS hl
    unfold f_X5_holds_b31 at h
    obtain ⟨⟨r1, _u1⟩, e1, h⟩ := og_bind h
    try dsimp only at h
    refine gc_i (ws := (wl [gR cA aR rI rA rG] ++ gG cA K rR)) (wc := (wl ([] : List va_W))) (wr := (wl [gR cA aR rI rA rG] ++ gG cA K rR)) (ws' := (wl [gR cA aR rI rA rG] ++ gG cA K rR)) (va_runS (As := [.int y0]) (rest := []) ⟨hx, hb, hml, hown, hT⟩ (k_X5_truth l D cA  H.size y0  _ e1) (cwS 1 hT gs_RX5_128 rfl rfl rfl (by decide +kernel) ⟨Nat.le_of_ble_eq_true rfl, Nat.le_of_ble_eq_true rfl⟩) (pre_S (wr := (wl [gR cA aR rI rA rG] ++ gG cA K rR)) (pmC (f := fun i => ([gR cA aR rI rA rG] : List va_W).getD i []) [0] [] [0] (by decide)) hK hP hD) rfl rfl hl.1 rfl (lv_room (Nat.le_of_ble_eq_true rfl)) dX5_holds_31 ⟨Nat.le_refl _, Nat.le_refl _⟩) (pmC (f := fun i => ([gR cA aR rI rA rG] : List va_W).getD i []) [0] [] [0] (by decide)) hP hD hS hA (pmC (f := fun i => ([gR cA aR rI rA rG] : List va_W).getD i []) [0] [] [0] (by decide)) (fun H locs hP hD hS => ?_)
    refine lv_goto (tgt := 38) hx hb dX5_holds_34 (by decide) ?_
    exact W.iret (v := r1) hx hb hr (fun t ht hW => ⟨⟨r1, (), rfl, ⟨(congrArg Prod.fst (og_inj h)).symm, (congrArg Prod.snd (og_inj h)).symm⟩, (by rw [ht]; exact hP), hD⟩, hS.F ht⟩) hS.2.2 dX5_holds_38
  unfold f_X5_holds at h
  refine lv_aload_n hx hb dX5_holds_0 rfl (lv_at hl 0 rfl) ?_
  refine lv_iload_n hx hb dX5_holds_1 rfl (lv_at hl 1 rfl) ?_
  obtain ⟨⟨r2, _u2⟩, e2, h⟩ := og_bind h
  try dsimp only at h
  refine gc_i (ws := (wl [gR cA aR rI rA rG] ++ gG cA K rR)) (wc := (wl [gR cA aR rI rA rG] ++ gG cA K rR)) (wr := (wl ([] : List va_W))) (ws' := (wl [gR cA aR rI rA rG] ++ gG cA K rR)) (va_runV (As := [.int u1]) (rest := []) ⟨hx, hb, hml, hown, hT⟩ (k_X5_has l D cA aR K s.heap.size u1 rI rA rG rR _ e2) (cwV 1 hT gv_RX5_188 rfl rfl rfl (by decide +kernel) ⟨Nat.le_of_ble_eq_true rfl, Nat.le_of_ble_eq_true rfl⟩) (pre_V (ci := 5) (q0 := 0) (wr := (wl ([] : List va_W))) (pmB (f := fun i => ([gR cA aR rI rA rG] : List va_W).getD i []) [0] [0] [] (by decide)) hK hP hD rfl rfl) rfl rfl hl.1 rfl (lv_room (Nat.le_of_ble_eq_true rfl)) dX5_holds_2 ⟨Nat.le_refl _, Nat.le_refl _⟩) (pmB (f := fun i => ([gR cA aR rI rA rG] : List va_W).getD i []) [0] [0] [] (by decide)) hP hD hS hA (pmB (f := fun i => ([gR cA aR rI rA rG] : List va_W).getD i []) [0] [0] [] (by decide)) (fun H locs hP hD hS => ?_)
  refine lv_if_eq (tgt := 37) hx hb dX5_holds_5 (by decide) (fun c3 => ?_) (fun c3 => ?_)
  · replace h := og_pos c3 h
    refine lv_iconst (v := (-1 : Int32)) hx hb dX5_holds_37 (by decide) ?_
    exact W.iret (v := (-1 : Int32)) hx hb hr (fun t ht hW => ⟨⟨(-1 : Int32), (), rfl, ⟨(congrArg Prod.fst (og_inj h)).symm, (congrArg Prod.snd (og_inj h)).symm⟩, (by rw [ht]; exact hP), hD⟩, hS.F ht⟩) hS.2.2 dX5_holds_38
  · replace h := og_neg c3 h
    refine lv_aload_n hx hb dX5_holds_8 rfl (lv_at hl 0 rfl) ?_
    refine lv_iload_n hx hb dX5_holds_9 rfl (lv_at hl 2 rfl) ?_
    obtain ⟨⟨r4, _u4⟩, e4, h⟩ := og_bind h
    try dsimp only at h
    refine gc_i (ws := (wl [gR cA aR rI rA rG] ++ gG cA K rR)) (wc := (wl [gR cA aR rI rA rG] ++ gG cA K rR)) (wr := (wl ([] : List va_W))) (ws' := (wl [gR cA aR rI rA rG] ++ gG cA K rR)) (va_runV (As := [.int u2]) (rest := []) ⟨hx, hb, hml, hown, hT⟩ (k_X5_isWord l D cA aR K H.size u2 rI rA rG rR _ e4) (cwV 1 hT gv_RX5_191 rfl rfl rfl (by decide +kernel) ⟨Nat.le_of_ble_eq_true rfl, Nat.le_of_ble_eq_true rfl⟩) (pre_V (ci := 5) (q0 := 0) (wr := (wl ([] : List va_W))) (pmB (f := fun i => ([gR cA aR rI rA rG] : List va_W).getD i []) [0] [0] [] (by decide)) hK hP hD rfl rfl) rfl rfl hl.1 rfl (lv_room (Nat.le_of_ble_eq_true rfl)) dX5_holds_10 ⟨Nat.le_refl _, Nat.le_refl _⟩) (pmB (f := fun i => ([gR cA aR rI rA rG] : List va_W).getD i []) [0] [0] [] (by decide)) hP hD hS hA (pmB (f := fun i => ([gR cA aR rI rA rG] : List va_W).getD i []) [0] [0] [] (by decide)) (fun H locs hP hD hS => ?_)
    refine lv_if_eq (tgt := 37) hx hb dX5_holds_13 (by decide) (fun c5 => ?_) (fun c5 => ?_)
    · replace h := og_pos c5 h
      refine lv_iconst (v := (-1 : Int32)) hx hb dX5_holds_37 (by decide) ?_
      exact W.iret (v := (-1 : Int32)) hx hb hr (fun t ht hW => ⟨⟨(-1 : Int32), (), rfl, ⟨(congrArg Prod.fst (og_inj h)).symm, (congrArg Prod.snd (og_inj h)).symm⟩, (by rw [ht]; exact hP), hD⟩, hS.F ht⟩) hS.2.2 dX5_holds_38
    · replace h := og_neg c5 h
      refine lv_aload_n hx hb dX5_holds_16 rfl (lv_at hl 0 rfl) ?_
      refine va_get (D := D) (C := RX5) (T := TX5) (N := 40) hx hb hT inlX5 hown hK.1 hP 0 rfl rfl 19 (by decide) (hT _ fl_RX5_53) (fun _ h9 => h9) rfl dX5_holds_17 ?_
      refine lv_iload_n hx hb dX5_holds_20 rfl (lv_at hl 2 rfl) ?_
      obtain ⟨g6, h⟩ := og_guard h
      refine va_iald hx hb hK.1 hP 13 0 rfl rfl (inb_vp g6) dX5_holds_21 ?_
      refine lv_iload_n hx hb dX5_holds_22 rfl (lv_at hl 1 rfl) ?_
      refine lv_icmp_ne (tgt := 30) hx hb dX5_holds_23 (by decide) (fun c7 => ?_) (fun c7 => ?_)
      · replace h := og_neg c7 h
        refine lv_iconst (v := (0 : Int32)) hx hb dX5_holds_30 (by decide) ?_
        exact b31  _ _ _ _ h hP hD hS (lv_sub hl [] rfl)
      · replace h := og_pos c7 h
        refine lv_iconst (v := (1 : Int32)) hx hb dX5_holds_26 (by decide) ?_
        refine lv_goto (tgt := 31) hx hb dX5_holds_27 (by decide) ?_
        exact b31  _ _ _ _ h hP hD hS (lv_sub hl [] rfl)
set_option maxRecDepth 100000 in
set_option maxHeartbeats 8000000 in
theorem k_X5_value (l : Launch) (D : va_G) (cA : Nat → ClassId) (aR : Nat → Nat) (K : List Nat) (sz : Nat) (n : Nat) (u1 : Int32) (u2 : Int32) (rI : Nat → Int32) (rA : Nat → Nat → Int32) (rG : Nat → Option Nat) (rR : Nat → Nat → Int32) (R : Int32 × (Nat → Int32) × (Nat → Nat → Int32)) (h : f_X5_value n K u1 u2 rI rA rG rR = some R) : Met l yX5_value (wsU yX5_value cX5_value 3 (some .int)) ({ frames := 3, cells := 0, slots := 0, locals := 76 }) (PcW D cA (wl [gR cA aR rI rA rG] ++ gG cA K rR) sz [.ref (aR 0), .int u1, .int u2]) (QI D (fun u : (Nat → Int32) × (Nat → Nat → Int32) => (wl [gR cA aR u.1 u.2 rG] ++ gG cA K rR)) R (va_A (wl [gR cA aR rI rA rG] ++ gG cA K rR) sz)) 0 0 (va_A (wl [gR cA aR rI rA rG] ++ gG cA K rR) sz) := by
  refine Met.ofW (cc := cX5_value) (maxL := 3) (ret := (some .int)) (by decide) rfl ?_
  intro p e s m args below meth c s₁ B hml hv
  obtain ⟨rfl, hsz, hP, hK, hD0⟩ := hv
  have hx := B.exec
  have hb := B.bytes
  have hr := B.returns
  have hts := atoms_spec (ws := (wsU yX5_value cX5_value 3 (some .int))) B.pre
  have hT : ∀ w ∈ wsL_law, w.before ([.ref (aR 0), .int u1, .int u2] : List Value).toArray s = true := fun w h => hts w (List.mem_cons_of_mem _ h)
  have hown : s.vm.findClass RX5 = some m.cls := findClass_of_methodNamed B.named
  have hlocks := B.notSynchronized
  have hN := hK.2
  subst hsz
  have hD := hD0.self (sz := s.heap.size)
  generalize hAe : va_A (wl [gR cA aR rI rA rG] ++ gG cA K rR) s.heap.size = A at hD ⊢
  have hA : ∀ q : Nat, s.heap.size ≤ q → A q := fun q h => by rw [← hAe]; exact Or.inr h
  have hS : va_S A s.heap s.heap [] := va_S.rf
  have hl := lv_entry ([.ref (aR 0), .int u1, .int u2]) (n := 3) (Nat.le_of_ble_eq_true rfl)
  rw [lg_entry_eq]
  generalize (lg_sl ([.ref (aR 0), .int u1, .int u2]) ++ List.replicate (3 - (lg_sl ([.ref (aR 0), .int u1, .int u2])).length) Slot.unset).toArray = ls at hl ⊢
  have hl : lv_has ls 3 [(0, .ref (aR 0)), (1, .int u1), (2, .int u2)] := hl
  unfold f_X5_value at h
  refine lv_aload_n hx hb dX5_value_0 rfl (lv_at hl 0 rfl) ?_
  refine lv_iload_n hx hb dX5_value_1 rfl (lv_at hl 1 rfl) ?_
  obtain ⟨⟨r1, _u1⟩, e1, h⟩ := og_bind h
  try dsimp only at h
  refine gc_i (ws := (wl [gR cA aR rI rA rG] ++ gG cA K rR)) (wc := (wl [gR cA aR rI rA rG] ++ gG cA K rR)) (wr := (wl ([] : List va_W))) (ws' := (wl [gR cA aR rI rA rG] ++ gG cA K rR)) (va_runV (As := [.int u1]) (rest := []) ⟨hx, hb, hml, hown, hT⟩ (k_X5_has l D cA aR K s.heap.size u1 rI rA rG rR _ e1) (cwV 1 hT gv_RX5_188 rfl rfl rfl (by decide +kernel) ⟨Nat.le_of_ble_eq_true rfl, Nat.le_of_ble_eq_true rfl⟩) (pre_V (ci := 5) (q0 := 0) (wr := (wl ([] : List va_W))) (pmB (f := fun i => ([gR cA aR rI rA rG] : List va_W).getD i []) [0] [0] [] (by decide)) hK hP hD rfl rfl) rfl rfl hl.1 rfl (lv_room (Nat.le_of_ble_eq_true rfl)) dX5_value_2 ⟨Nat.le_refl _, Nat.le_refl _⟩) (pmB (f := fun i => ([gR cA aR rI rA rG] : List va_W).getD i []) [0] [0] [] (by decide)) hP hD hS hA (pmB (f := fun i => ([gR cA aR rI rA rG] : List va_W).getD i []) [0] [0] [] (by decide)) (fun H locs hP hD hS => ?_)
  refine lv_if_eq (tgt := 16) hx hb dX5_value_5 (by decide) (fun c2 => ?_) (fun c2 => ?_)
  · replace h := og_pos c2 h
    refine lv_iconst (v := (0 : Int32)) hx hb dX5_value_16 (by decide) ?_
    exact W.iret (v := (0 : Int32)) hx hb hr (fun t ht hW => ⟨⟨(0 : Int32), (rI, rA), rfl, ⟨(congrArg Prod.fst (og_inj h)).symm, (congrArg Prod.snd (og_inj h)).symm⟩, (by rw [ht]; exact hP), hD⟩, hS.F ht⟩) hS.2.2 dX5_value_17
  · replace h := og_neg c2 h
    refine lv_aload_n hx hb dX5_value_8 rfl (lv_at hl 0 rfl) ?_
    refine lv_iload_n hx hb dX5_value_9 rfl (lv_at hl 2 rfl) ?_
    obtain ⟨⟨r3, _u3⟩, e3, h⟩ := og_bind h
    try dsimp only at h
    refine gc_i (ws := (wl [gR cA aR rI rA rG] ++ gG cA K rR)) (wc := (wl [gR cA aR rI rA rG] ++ gG cA K rR)) (wr := (wl ([] : List va_W))) (ws' := (wl [gR cA aR rI rA rG] ++ gG cA K rR)) (va_runV (As := [.int u2]) (rest := []) ⟨hx, hb, hml, hown, hT⟩ (k_X5_isWord l D cA aR K H.size u2 rI rA rG rR _ e3) (cwV 1 hT gv_RX5_191 rfl rfl rfl (by decide +kernel) ⟨Nat.le_of_ble_eq_true rfl, Nat.le_of_ble_eq_true rfl⟩) (pre_V (ci := 5) (q0 := 0) (wr := (wl ([] : List va_W))) (pmB (f := fun i => ([gR cA aR rI rA rG] : List va_W).getD i []) [0] [0] [] (by decide)) hK hP hD rfl rfl) rfl rfl hl.1 rfl (lv_room (Nat.le_of_ble_eq_true rfl)) dX5_value_10 ⟨Nat.le_refl _, Nat.le_refl _⟩) (pmB (f := fun i => ([gR cA aR rI rA rG] : List va_W).getD i []) [0] [0] [] (by decide)) hP hD hS hA (pmB (f := fun i => ([gR cA aR rI rA rG] : List va_W).getD i []) [0] [0] [] (by decide)) (fun H locs hP hD hS => ?_)
    refine lv_if_ne (tgt := 18) hx hb dX5_value_13 (by decide) (fun c4 => ?_) (fun c4 => ?_)
    · replace h := og_neg c4 h
      refine lv_aload_n hx hb dX5_value_18 rfl (lv_at hl 0 rfl) ?_
      refine lv_iload_n hx hb dX5_value_19 rfl (lv_at hl 2 rfl) ?_
      refine lv_aload_n hx hb dX5_value_20 rfl (lv_at hl 0 rfl) ?_
      refine va_get (D := D) (C := RX5) (T := TX5) (N := 40) hx hb hT inlX5 hown hK.1 hP 0 rfl rfl 18 (by decide) (hT _ fl_RX5_50) (fun _ h9 => h9) rfl dX5_value_21 ?_
      refine lv_iload_n hx hb dX5_value_24 rfl (lv_at hl 1 rfl) ?_
      obtain ⟨g5, h⟩ := og_guard h
      refine va_alda hx hb hK.1 hP 12 4 rfl rfl (inb_vp g5) dX5_value_25 ?_
      obtain ⟨a6, e7, h⟩ := og_bind h
      obtain ⟨m8, h⟩ := og_guard h
      refine gr_some e7 ?_
      refine lv_iconst (v := (0 : Int32)) hx hb dX5_value_26 (by decide) ?_
      obtain ⟨⟨rI9, rA9⟩, e9, h⟩ := og_bind h
      try dsimp only at h
      refine gc_v (ws := (wl [gR cA aR rI rA rG] ++ gG cA K rR)) (wc := (wl [gR cA aR rI rA rG] ++ gG cA K rR)) (wr := (wl ([] : List va_W))) (ws' := (wl [gR cA aR rI9 rA9 rG] ++ gG cA K rR)) (va_runV (As := [.int u2, .ref a6, .int (0 : Int32)]) (rest := []) ⟨hx, hb, hml, hown, hT⟩ (k_X5_go1 l D cA aR K H.size n u2 a6 (0 : Int32) rI rA rG rR _ e9) (cwV 3 hT gv_RX5_167 rfl rfl rfl (by decide +kernel) ⟨Nat.le_of_ble_eq_true rfl, Nat.le_of_ble_eq_true rfl⟩) (pre_V (ci := 5) (q0 := 0) (wr := (wl ([] : List va_W))) (pmB (f := fun i => ([gR cA aR rI rA rG] : List va_W).getD i []) [0] [0] [] (by decide)) hK hP hD rfl rfl) rfl rfl hl.1 rfl (lv_room (Nat.le_of_ble_eq_true rfl)) dX5_value_27 ⟨Nat.le_refl _, Nat.le_refl _⟩) (pmB (f := fun i => ([gR cA aR rI rA rG] : List va_W).getD i []) [0] [0] [] (by decide)) hP hD hS hA (pmB (f := fun i => ([gR cA aR rI9 rA9 rG] : List va_W).getD i []) [0] [0] [] (by decide)) (fun H locs hP hD hS => ?_)
      refine lv_aload_n hx hb dX5_value_30 rfl (lv_at hl 0 rfl) ?_
      refine va_get (D := D) (C := RX5) (T := TX5) (N := 40) hx hb hT inlX5 hown hK.1 hP 0 rfl rfl 27 (by decide) (hT _ fl_RX5_142) (fun _ h9 => h9) rfl dX5_value_31 ?_
      exact W.iret (v := (rI9 9)) hx hb hr (fun t ht hW => ⟨⟨(rI9 9), (rI9, rA9), rfl, ⟨(congrArg Prod.fst (og_inj h)).symm, (congrArg Prod.snd (og_inj h)).symm⟩, (by rw [ht]; exact hP), hD⟩, hS.F ht⟩) hS.2.2 dX5_value_34
    · replace h := og_pos c4 h
      refine lv_iconst (v := (0 : Int32)) hx hb dX5_value_16 (by decide) ?_
      exact W.iret (v := (0 : Int32)) hx hb hr (fun t ht hW => ⟨⟨(0 : Int32), (rI, rA), rfl, ⟨(congrArg Prod.fst (og_inj h)).symm, (congrArg Prod.snd (og_inj h)).symm⟩, (by rw [ht]; exact hP), hD⟩, hS.F ht⟩) hS.2.2 dX5_value_17
set_option maxRecDepth 100000 in
set_option maxHeartbeats 8000000 in
theorem k_X5_find (l : Launch) (D : va_G) (cA : Nat → ClassId) (aR : Nat → Nat) (K : List Nat) (sz : Nat) (n : Nat) (u1 : Int32) (u2 : Int32) (u3 : Int32) (rI : Nat → Int32) (rA : Nat → Nat → Int32) (rG : Nat → Option Nat) (rR : Nat → Nat → Int32) (R : Int32 × Unit) (h : f_X5_find n K u1 u2 u3 rI rA = some R) : Met l yX5_find (wsU yX5_find cX5_find 6 (some .int)) ({ frames := 1, cells := 0, slots := 0, locals := 21 }) (PcW D cA (wl [gR cA aR rI rA rG] ++ gG cA K rR) sz [.ref (aR 0), .int u1, .int u2, .int u3]) (QI D (fun _ : Unit => (wl [gR cA aR rI rA rG] ++ gG cA K rR)) R (va_A (wl [gR cA aR rI rA rG] ++ gG cA K rR) sz)) 0 0 (va_A (wl [gR cA aR rI rA rG] ++ gG cA K rR) sz) := by
  refine Met.ofW (cc := cX5_find) (maxL := 6) (ret := (some .int)) (by decide) rfl ?_
  intro p e s m args below meth c s₁ B hml hv
  obtain ⟨rfl, hsz, hP, hK, hD0⟩ := hv
  have hx := B.exec
  have hb := B.bytes
  have hr := B.returns
  have hts := atoms_spec (ws := (wsU yX5_find cX5_find 6 (some .int))) B.pre
  have hT : ∀ w ∈ wsL_law, w.before ([.ref (aR 0), .int u1, .int u2, .int u3] : List Value).toArray s = true := fun w h => hts w (List.mem_cons_of_mem _ h)
  have hown : s.vm.findClass RX5 = some m.cls := findClass_of_methodNamed B.named
  have hlocks := B.notSynchronized
  have hN := hK.2
  subst hsz
  have hD := hD0.self (sz := s.heap.size)
  generalize hAe : va_A (wl [gR cA aR rI rA rG] ++ gG cA K rR) s.heap.size = A at hD ⊢
  have hA : ∀ q : Nat, s.heap.size ≤ q → A q := fun q h => by rw [← hAe]; exact Or.inr h
  have hS : va_S A s.heap s.heap [] := va_S.rf
  have hl := lv_entry ([.ref (aR 0), .int u1, .int u2, .int u3]) (n := 6) (Nat.le_of_ble_eq_true rfl)
  rw [lg_entry_eq]
  generalize (lg_sl ([.ref (aR 0), .int u1, .int u2, .int u3]) ++ List.replicate (6 - (lg_sl ([.ref (aR 0), .int u1, .int u2, .int u3])).length) Slot.unset).toArray = ls at hl ⊢
  have hl : lv_has ls 6 [(0, .ref (aR 0)), (1, .int u1), (2, .int u2), (3, .int u3)] := hl
  have b103 : ∀ (x1 : Int32) (x2 : Int32) (x3 : Int32) (rc22 : (Int32) → Option (Int32 × Unit)) (hr22 : ∀ (x4 : Int32) (H : Heap) (locs : List Loc) (ls : Array Slot), rc22 (x4) = some R → va_P D vwCl (wl [gR cA aR rI rA rG] ++ gG cA K rR) H → va_D A (wl [gR cA aR rI rA rG] ++ gG cA K rR) → va_S A s.heap H locs → lv_has ls 6 [(0, .ref (aR 0)), (1, .int x1), (2, .int x2), (3, .int x3), (4, .int x4)] → W p l e (headSpec (wsU yX5_find cX5_find 6 (some .int)) ({ frames := 1, cells := 0, slots := 0, locals := 21 })).room s m ([.ref (aR 0), .int u1, .int u2, .int u3] : List Value).toArray below meth c H locs 0 0 (MQ below (QI D (fun _ : Unit => (wl [gR cA aR rI rA rG] ++ gG cA K rR)) R A) ([.ref (aR 0), .int u1, .int u2, .int u3] : List Value).toArray s 0 0 A) (F0 m 22 ls [])) (x4 : Int32) (H : Heap) (locs : List Loc) (ls : Array Slot), f_X5_find_b103 n K rc22 x1 x2 x3 x4 rI rA = some R → va_P D vwCl (wl [gR cA aR rI rA rG] ++ gG cA K rR) H → va_D A (wl [gR cA aR rI rA rG] ++ gG cA K rR) → va_S A s.heap H locs → lv_has ls 6 [(0, .ref (aR 0)), (1, .int x1), (2, .int x2), (3, .int x3), (4, .int x4)] → W p l e (headSpec (wsU yX5_find cX5_find 6 (some .int)) ({ frames := 1, cells := 0, slots := 0, locals := 21 })).room s m ([.ref (aR 0), .int u1, .int u2, .int u3] : List Value).toArray below meth c H locs 0 0 (MQ below (QI D (fun _ : Unit => (wl [gR cA aR rI rA rG] ++ gG cA K rR)) R A) ([.ref (aR 0), .int u1, .int u2, .int u3] : List Value).toArray s 0 0 A) (F0 m 103 ls []) := by
    intro x1 x2 x3 rc22 hr22 x4 H locs ls h hP hD hS hl
    unfold f_X5_find_b103 at h
    refine lv_iinc (v := (x4 + 1)) (lv' := [(4, .int (x4 + 1)), (0, .ref (aR 0)), (1, .int x1), (2, .int x2), (3, .int x3)]) hx hb dX5_find_103 hl (k := 4) rfl rfl (by decide) rfl (fun ls hl => ?_)
    refine lv_goto (tgt := 22) hx hb dX5_find_106 (by decide) ?_
    exact hr22 _ _ _ _ h hP hD hS (lv_sub hl [1, 2, 3, 4, 0] rfl)
  have b89 : ∀ (x1 : Int32) (x2 : Int32) (x3 : Int32) (rc22 : (Int32) → Option (Int32 × Unit)) (hr22 : ∀ (x4 : Int32) (H : Heap) (locs : List Loc) (ls : Array Slot), rc22 (x4) = some R → va_P D vwCl (wl [gR cA aR rI rA rG] ++ gG cA K rR) H → va_D A (wl [gR cA aR rI rA rG] ++ gG cA K rR) → va_S A s.heap H locs → lv_has ls 6 [(0, .ref (aR 0)), (1, .int x1), (2, .int x2), (3, .int x3), (4, .int x4)] → W p l e (headSpec (wsU yX5_find cX5_find 6 (some .int)) ({ frames := 1, cells := 0, slots := 0, locals := 21 })).room s m ([.ref (aR 0), .int u1, .int u2, .int u3] : List Value).toArray below meth c H locs 0 0 (MQ below (QI D (fun _ : Unit => (wl [gR cA aR rI rA rG] ++ gG cA K rR)) R A) ([.ref (aR 0), .int u1, .int u2, .int u3] : List Value).toArray s 0 0 A) (F0 m 22 ls [])) (x4 : Int32) (x5 : Int32) (H : Heap) (locs : List Loc) (ls : Array Slot), f_X5_find_b89 n K rc22 x1 x2 x3 x4 x5 rI rA = some R → va_P D vwCl (wl [gR cA aR rI rA rG] ++ gG cA K rR) H → va_D A (wl [gR cA aR rI rA rG] ++ gG cA K rR) → va_S A s.heap H locs → lv_has ls 6 [(0, .ref (aR 0)), (1, .int x1), (2, .int x2), (3, .int x3), (4, .int x4), (5, .int x5)] → W p l e (headSpec (wsU yX5_find cX5_find 6 (some .int)) ({ frames := 1, cells := 0, slots := 0, locals := 21 })).room s m ([.ref (aR 0), .int u1, .int u2, .int u3] : List Value).toArray below meth c H locs 0 0 (MQ below (QI D (fun _ : Unit => (wl [gR cA aR rI rA rG] ++ gG cA K rR)) R A) ([.ref (aR 0), .int u1, .int u2, .int u3] : List Value).toArray s 0 0 A) (F0 m 89 ls []) := by
    intro x1 x2 x3 rc22 hr22 x4 x5 H locs ls h hP hD hS hl
    unfold f_X5_find_b89 at h
    refine lv_iload_n hx hb dX5_find_89 rfl (lv_at hl 2 rfl) ?_
    refine lv_iconst (v := (3 : Int32)) hx hb dX5_find_90 (by decide) ?_
    refine lv_icmp_ne (tgt := 103) hx hb dX5_find_91 (by decide) (fun c1 => ?_) (fun c1 => ?_)
    · replace h := og_neg c1 h
      exact b103 _ _ _ _ hr22 _ _ _ _ h hP hD hS (lv_sub hl [0, 1, 2, 3, 4] rfl)
    · replace h := og_pos c1 h
      refine lv_iload hx hb dX5_find_94 (lv_at hl 5 rfl) ?_
      refine lv_iload_n hx hb dX5_find_96 rfl (lv_at hl 3 rfl) ?_
      refine lv_icmp_ge (tgt := 103) hx hb dX5_find_97 (by decide) (fun c2 => ?_) (fun c2 => ?_)
      · replace h := og_pos c2 h
        exact b103 _ _ _ _ hr22 _ _ _ _ h hP hD hS (lv_sub hl [0, 1, 2, 3, 4] rfl)
      · replace h := og_neg c2 h
        refine lv_iload hx hb dX5_find_100 (lv_at hl 4 rfl) ?_
        exact W.iret (v := x4) hx hb hr (fun t ht hW => ⟨⟨x4, (), rfl, ⟨(congrArg Prod.fst (og_inj h)).symm, (congrArg Prod.snd (og_inj h)).symm⟩, (by rw [ht]; exact hP), hD⟩, hS.F ht⟩) hS.2.2 dX5_find_102
  have b75 : ∀ (x1 : Int32) (x2 : Int32) (x3 : Int32) (rc22 : (Int32) → Option (Int32 × Unit)) (hr22 : ∀ (x4 : Int32) (H : Heap) (locs : List Loc) (ls : Array Slot), rc22 (x4) = some R → va_P D vwCl (wl [gR cA aR rI rA rG] ++ gG cA K rR) H → va_D A (wl [gR cA aR rI rA rG] ++ gG cA K rR) → va_S A s.heap H locs → lv_has ls 6 [(0, .ref (aR 0)), (1, .int x1), (2, .int x2), (3, .int x3), (4, .int x4)] → W p l e (headSpec (wsU yX5_find cX5_find 6 (some .int)) ({ frames := 1, cells := 0, slots := 0, locals := 21 })).room s m ([.ref (aR 0), .int u1, .int u2, .int u3] : List Value).toArray below meth c H locs 0 0 (MQ below (QI D (fun _ : Unit => (wl [gR cA aR rI rA rG] ++ gG cA K rR)) R A) ([.ref (aR 0), .int u1, .int u2, .int u3] : List Value).toArray s 0 0 A) (F0 m 22 ls [])) (x4 : Int32) (x5 : Int32) (H : Heap) (locs : List Loc) (ls : Array Slot), f_X5_find_b75 n K rc22 x1 x2 x3 x4 x5 rI rA = some R → va_P D vwCl (wl [gR cA aR rI rA rG] ++ gG cA K rR) H → va_D A (wl [gR cA aR rI rA rG] ++ gG cA K rR) → va_S A s.heap H locs → lv_has ls 6 [(0, .ref (aR 0)), (1, .int x1), (2, .int x2), (3, .int x3), (4, .int x4), (5, .int x5)] → W p l e (headSpec (wsU yX5_find cX5_find 6 (some .int)) ({ frames := 1, cells := 0, slots := 0, locals := 21 })).room s m ([.ref (aR 0), .int u1, .int u2, .int u3] : List Value).toArray below meth c H locs 0 0 (MQ below (QI D (fun _ : Unit => (wl [gR cA aR rI rA rG] ++ gG cA K rR)) R A) ([.ref (aR 0), .int u1, .int u2, .int u3] : List Value).toArray s 0 0 A) (F0 m 75 ls []) := by
    intro x1 x2 x3 rc22 hr22 x4 x5 H locs ls h hP hD hS hl
    unfold f_X5_find_b75 at h
    refine lv_iload_n hx hb dX5_find_75 rfl (lv_at hl 2 rfl) ?_
    refine lv_iconst (v := (2 : Int32)) hx hb dX5_find_76 (by decide) ?_
    refine lv_icmp_ne (tgt := 89) hx hb dX5_find_77 (by decide) (fun c3 => ?_) (fun c3 => ?_)
    · replace h := og_neg c3 h
      exact b89 _ _ _ _ hr22 _ _ _ _ _ h hP hD hS (lv_sub hl [0, 1, 2, 3, 4, 5] rfl)
    · replace h := og_pos c3 h
      refine lv_iload hx hb dX5_find_80 (lv_at hl 5 rfl) ?_
      refine lv_iload_n hx hb dX5_find_82 rfl (lv_at hl 3 rfl) ?_
      obtain ⟨⟨r4, _u4⟩, e4, h⟩ := og_bind h
      try dsimp only at h
      refine gc_i (ws := (wl [gR cA aR rI rA rG] ++ gG cA K rR)) (wc := (wl ([] : List va_W))) (wr := (wl [gR cA aR rI rA rG] ++ gG cA K rR)) (ws' := (wl [gR cA aR rI rA rG] ++ gG cA K rR)) (va_runS (As := [.int x5, .int x3]) (rest := []) ⟨hx, hb, hml, hown, hT⟩ (k_X5_isBelow l D cA  H.size x5 x3  _ e4) (cwS 2 hT gs_RX5_132 rfl rfl rfl (by decide +kernel) ⟨Nat.le_of_ble_eq_true rfl, Nat.le_of_ble_eq_true rfl⟩) (pre_S (wr := (wl [gR cA aR rI rA rG] ++ gG cA K rR)) (pmC (f := fun i => ([gR cA aR rI rA rG] : List va_W).getD i []) [0] [] [0] (by decide)) hK hP hD) rfl rfl hl.1 rfl (lv_room (Nat.le_of_ble_eq_true rfl)) dX5_find_83 ⟨Nat.le_refl _, Nat.le_refl _⟩) (pmC (f := fun i => ([gR cA aR rI rA rG] : List va_W).getD i []) [0] [] [0] (by decide)) hP hD hS hA (pmC (f := fun i => ([gR cA aR rI rA rG] : List va_W).getD i []) [0] [] [0] (by decide)) (fun H locs hP hD hS => ?_)
      refine lv_if_ne (tgt := 100) hx hb dX5_find_86 (by decide) (fun c5 => ?_) (fun c5 => ?_)
      · replace h := og_neg c5 h
        refine lv_iload hx hb dX5_find_100 (lv_at hl 4 rfl) ?_
        exact W.iret (v := x4) hx hb hr (fun t ht hW => ⟨⟨x4, (), rfl, ⟨(congrArg Prod.fst (og_inj h)).symm, (congrArg Prod.snd (og_inj h)).symm⟩, (by rw [ht]; exact hP), hD⟩, hS.F ht⟩) hS.2.2 dX5_find_102
      · replace h := og_pos c5 h
        exact b89 _ _ _ _ hr22 _ _ _ _ _ h hP hD hS (lv_sub hl [0, 1, 2, 3, 4, 5] rfl)
  have b64 : ∀ (x1 : Int32) (x2 : Int32) (x3 : Int32) (rc22 : (Int32) → Option (Int32 × Unit)) (hr22 : ∀ (x4 : Int32) (H : Heap) (locs : List Loc) (ls : Array Slot), rc22 (x4) = some R → va_P D vwCl (wl [gR cA aR rI rA rG] ++ gG cA K rR) H → va_D A (wl [gR cA aR rI rA rG] ++ gG cA K rR) → va_S A s.heap H locs → lv_has ls 6 [(0, .ref (aR 0)), (1, .int x1), (2, .int x2), (3, .int x3), (4, .int x4)] → W p l e (headSpec (wsU yX5_find cX5_find 6 (some .int)) ({ frames := 1, cells := 0, slots := 0, locals := 21 })).room s m ([.ref (aR 0), .int u1, .int u2, .int u3] : List Value).toArray below meth c H locs 0 0 (MQ below (QI D (fun _ : Unit => (wl [gR cA aR rI rA rG] ++ gG cA K rR)) R A) ([.ref (aR 0), .int u1, .int u2, .int u3] : List Value).toArray s 0 0 A) (F0 m 22 ls [])) (x4 : Int32) (x5 : Int32) (H : Heap) (locs : List Loc) (ls : Array Slot), f_X5_find_b64 n K rc22 x1 x2 x3 x4 x5 rI rA = some R → va_P D vwCl (wl [gR cA aR rI rA rG] ++ gG cA K rR) H → va_D A (wl [gR cA aR rI rA rG] ++ gG cA K rR) → va_S A s.heap H locs → lv_has ls 6 [(0, .ref (aR 0)), (1, .int x1), (2, .int x2), (3, .int x3), (4, .int x4), (5, .int x5)] → W p l e (headSpec (wsU yX5_find cX5_find 6 (some .int)) ({ frames := 1, cells := 0, slots := 0, locals := 21 })).room s m ([.ref (aR 0), .int u1, .int u2, .int u3] : List Value).toArray below meth c H locs 0 0 (MQ below (QI D (fun _ : Unit => (wl [gR cA aR rI rA rG] ++ gG cA K rR)) R A) ([.ref (aR 0), .int u1, .int u2, .int u3] : List Value).toArray s 0 0 A) (F0 m 64 ls []) := by
    intro x1 x2 x3 rc22 hr22 x4 x5 H locs ls h hP hD hS hl
    unfold f_X5_find_b64 at h
    refine lv_iload_n hx hb dX5_find_64 rfl (lv_at hl 2 rfl) ?_
    refine lv_iconst (v := (1 : Int32)) hx hb dX5_find_65 (by decide) ?_
    refine lv_icmp_ne (tgt := 75) hx hb dX5_find_66 (by decide) (fun c6 => ?_) (fun c6 => ?_)
    · replace h := og_neg c6 h
      exact b75 _ _ _ _ hr22 _ _ _ _ _ h hP hD hS (lv_sub hl [0, 1, 2, 3, 4, 5] rfl)
    · replace h := og_pos c6 h
      refine lv_iload hx hb dX5_find_69 (lv_at hl 5 rfl) ?_
      refine lv_iload_n hx hb dX5_find_71 rfl (lv_at hl 3 rfl) ?_
      refine lv_icmp_ne (tgt := 100) hx hb dX5_find_72 (by decide) (fun c7 => ?_) (fun c7 => ?_)
      · replace h := og_neg c7 h
        refine lv_iload hx hb dX5_find_100 (lv_at hl 4 rfl) ?_
        exact W.iret (v := x4) hx hb hr (fun t ht hW => ⟨⟨x4, (), rfl, ⟨(congrArg Prod.fst (og_inj h)).symm, (congrArg Prod.snd (og_inj h)).symm⟩, (by rw [ht]; exact hP), hD⟩, hS.F ht⟩) hS.2.2 dX5_find_102
      · replace h := og_pos c7 h
        exact b75 _ _ _ _ hr22 _ _ _ _ _ h hP hD hS (lv_sub hl [0, 1, 2, 3, 4, 5] rfl)
  have b22 : ∀ (x1 : Int32) (x2 : Int32) (x3 : Int32) (nn : Nat), ∀ (x4 : Int32) (H : Heap) (locs : List Loc) (ls : Array Slot), lp (f_X5_find_l22 n K x1 x2 x3 rI rA) nn (x4) = some R → va_P D vwCl (wl [gR cA aR rI rA rG] ++ gG cA K rR) H → va_D A (wl [gR cA aR rI rA rG] ++ gG cA K rR) → va_S A s.heap H locs → lv_has ls 6 [(0, .ref (aR 0)), (1, .int x1), (2, .int x2), (3, .int x3), (4, .int x4)] → W p l e (headSpec (wsU yX5_find cX5_find 6 (some .int)) ({ frames := 1, cells := 0, slots := 0, locals := 21 })).room s m ([.ref (aR 0), .int u1, .int u2, .int u3] : List Value).toArray below meth c H locs 0 0 (MQ below (QI D (fun _ : Unit => (wl [gR cA aR rI rA rG] ++ gG cA K rR)) R A) ([.ref (aR 0), .int u1, .int u2, .int u3] : List Value).toArray s 0 0 A) (F0 m 22 ls []) := by
    intro x1 x2 x3 nn
    induction nn with
    | zero =>
      intro x4 H locs ls h hP hD hS hl
      exact (lp_zero h).elim
    | succ nn hr22 =>
      intro x4 H locs ls h hP hD hS hl
      rw [lp_succ] at h
      unfold f_X5_find_l22 at h
      try dsimp only at h
      refine lv_iload hx hb dX5_find_22 (lv_at hl 4 rfl) ?_
      refine lv_aload_n hx hb dX5_find_24 rfl (lv_at hl 0 rfl) ?_
      obtain ⟨⟨r8, _u8⟩, e8, h⟩ := og_bind h
      try dsimp only at h
      refine gc_i (ws := (wl [gR cA aR rI rA rG] ++ gG cA K rR)) (wc := (wl [gR cA aR rI rA rG] ++ gG cA K rR)) (wr := (wl ([] : List va_W))) (ws' := (wl [gR cA aR rI rA rG] ++ gG cA K rR)) (va_runV (As := []) (rest := [.int x4]) ⟨hx, hb, hml, hown, hT⟩ (k_X5_words l D cA aR K H.size  rI rA rG rR _ e8) (cwV 0 hT gv_RX5_163 rfl rfl rfl (by decide +kernel) ⟨Nat.le_of_ble_eq_true rfl, Nat.le_of_ble_eq_true rfl⟩) (pre_V (ci := 5) (q0 := 0) (wr := (wl ([] : List va_W))) (pmB (f := fun i => ([gR cA aR rI rA rG] : List va_W).getD i []) [0] [0] [] (by decide)) hK hP hD rfl rfl) rfl rfl hl.1 rfl (lv_room (Nat.le_of_ble_eq_true rfl)) dX5_find_25 ⟨Nat.le_refl _, Nat.le_refl _⟩) (pmB (f := fun i => ([gR cA aR rI rA rG] : List va_W).getD i []) [0] [0] [] (by decide)) hP hD hS hA (pmB (f := fun i => ([gR cA aR rI rA rG] : List va_W).getD i []) [0] [0] [] (by decide)) (fun H locs hP hD hS => ?_)
      refine lv_icmp_ge (tgt := 109) hx hb dX5_find_28 (by decide) (fun c9 => ?_) (fun c9 => ?_)
      · replace h := og_pos c9 h
        refine lv_iconst (v := (-1 : Int32)) hx hb dX5_find_109 (by decide) ?_
        exact W.iret (v := (-1 : Int32)) hx hb hr (fun t ht hW => ⟨⟨(-1 : Int32), (), rfl, ⟨(congrArg Prod.fst (og_inj h)).symm, (congrArg Prod.snd (og_inj h)).symm⟩, (by rw [ht]; exact hP), hD⟩, hS.F ht⟩) hS.2.2 dX5_find_110
      · replace h := og_neg c9 h
        refine lv_aload_n hx hb dX5_find_31 rfl (lv_at hl 0 rfl) ?_
        refine va_get (D := D) (C := RX5) (T := TX5) (N := 40) hx hb hT inlX5 hown hK.1 hP 0 rfl rfl 19 (by decide) (hT _ fl_RX5_53) (fun _ h9 => h9) rfl dX5_find_32 ?_
        refine lv_iload hx hb dX5_find_35 (lv_at hl 4 rfl) ?_
        obtain ⟨g10, h⟩ := og_guard h
        refine va_iald hx hb hK.1 hP 13 0 rfl rfl (inb_vp g10) dX5_find_37 ?_
        refine lv_iload_n hx hb dX5_find_38 rfl (lv_at hl 1 rfl) ?_
        refine lv_icmp_eq (tgt := 45) hx hb dX5_find_39 (by decide) (fun c11 => ?_) (fun c11 => ?_)
        · replace h := og_pos c11 h
          refine lv_aload_n hx hb dX5_find_45 rfl (lv_at hl 0 rfl) ?_
          refine va_get (D := D) (C := RX5) (T := TX5) (N := 40) hx hb hT inlX5 hown hK.1 hP 0 rfl rfl 20 (by decide) (hT _ fl_RX5_56) (fun _ h9 => h9) rfl dX5_find_46 ?_
          refine lv_iload hx hb dX5_find_49 (lv_at hl 4 rfl) ?_
          obtain ⟨g12, h⟩ := og_guard h
          refine va_iald hx hb hK.1 hP 14 0 rfl rfl (inb_vp g12) dX5_find_51 ?_
          refine lv_istore (lv' := [(5, .int (rA 12 x4.toNatClampNeg)), (0, .ref (aR 0)), (1, .int x1), (2, .int x2), (3, .int x3), (4, .int x4)]) hx hb dX5_find_52 hl (by decide) rfl (fun ls hl => ?_)
          refine lv_iload_n hx hb dX5_find_54 rfl (lv_at hl 3 rfl) ?_
          refine lv_if_ne (tgt := 64) hx hb dX5_find_55 (by decide) (fun c13 => ?_) (fun c13 => ?_)
          · replace h := og_neg c13 h
            exact b64 _ _ _ _ hr22 _ _ _ _ _ h hP hD hS (lv_sub hl [1, 2, 3, 4, 5, 0] rfl)
          · replace h := og_pos c13 h
            refine lv_iload hx hb dX5_find_58 (lv_at hl 0 rfl) ?_
            refine lv_iload_n hx hb dX5_find_60 rfl (lv_at hl 4 rfl) ?_
            refine lv_icmp_eq (tgt := 100) hx hb dX5_find_61 (by decide) (fun c14 => ?_) (fun c14 => ?_)
            · replace h := og_pos c14 h
              refine lv_iload hx hb dX5_find_100 (lv_at hl 5 rfl) ?_
              exact W.iret (v := x4) hx hb hr (fun t ht hW => ⟨⟨x4, (), rfl, ⟨(congrArg Prod.fst (og_inj h)).symm, (congrArg Prod.snd (og_inj h)).symm⟩, (by rw [ht]; exact hP), hD⟩, hS.F ht⟩) hS.2.2 dX5_find_102
            · replace h := og_neg c14 h
              exact b64 _ _ _ _ hr22 _ _ _ _ _ h hP hD hS (lv_sub hl [1, 2, 3, 4, 5, 0] rfl)
        · replace h := og_neg c11 h
          refine lv_goto (tgt := 103) hx hb dX5_find_42 (by decide) ?_
          exact b103 _ _ _ _ hr22 _ _ _ _ h hP hD hS (lv_sub hl [0, 1, 2, 3, 4] rfl)
  unfold f_X5_find at h
  refine lv_aload_n hx hb dX5_find_0 rfl (lv_at hl 0 rfl) ?_
  refine lv_iload_n hx hb dX5_find_1 rfl (lv_at hl 1 rfl) ?_
  obtain ⟨⟨r15, _u15⟩, e15, h⟩ := og_bind h
  try dsimp only at h
  refine gc_i (ws := (wl [gR cA aR rI rA rG] ++ gG cA K rR)) (wc := (wl [gR cA aR rI rA rG] ++ gG cA K rR)) (wr := (wl ([] : List va_W))) (ws' := (wl [gR cA aR rI rA rG] ++ gG cA K rR)) (va_runV (As := [.int u1]) (rest := []) ⟨hx, hb, hml, hown, hT⟩ (k_X5_has l D cA aR K s.heap.size u1 rI rA rG rR _ e15) (cwV 1 hT gv_RX5_188 rfl rfl rfl (by decide +kernel) ⟨Nat.le_of_ble_eq_true rfl, Nat.le_of_ble_eq_true rfl⟩) (pre_V (ci := 5) (q0 := 0) (wr := (wl ([] : List va_W))) (pmB (f := fun i => ([gR cA aR rI rA rG] : List va_W).getD i []) [0] [0] [] (by decide)) hK hP hD rfl rfl) rfl rfl hl.1 rfl (lv_room (Nat.le_of_ble_eq_true rfl)) dX5_find_2 ⟨Nat.le_refl _, Nat.le_refl _⟩) (pmB (f := fun i => ([gR cA aR rI rA rG] : List va_W).getD i []) [0] [0] [] (by decide)) hP hD hS hA (pmB (f := fun i => ([gR cA aR rI rA rG] : List va_W).getD i []) [0] [0] [] (by decide)) (fun H locs hP hD hS => ?_)
  refine lv_if_eq (tgt := 17) hx hb dX5_find_5 (by decide) (fun c16 => ?_) (fun c16 => ?_)
  · replace h := og_pos c16 h
    refine lv_iconst (v := (-1 : Int32)) hx hb dX5_find_17 (by decide) ?_
    exact W.iret (v := (-1 : Int32)) hx hb hr (fun t ht hW => ⟨⟨(-1 : Int32), (), rfl, ⟨(congrArg Prod.fst (og_inj h)).symm, (congrArg Prod.snd (og_inj h)).symm⟩, (by rw [ht]; exact hP), hD⟩, hS.F ht⟩) hS.2.2 dX5_find_18
  · replace h := og_neg c16 h
    refine lv_iload_n hx hb dX5_find_8 rfl (lv_at hl 2 rfl) ?_
    refine lv_if_lt (tgt := 17) hx hb dX5_find_9 (by decide) (fun c17 => ?_) (fun c17 => ?_)
    · replace h := og_pos c17 h
      refine lv_iconst (v := (-1 : Int32)) hx hb dX5_find_17 (by decide) ?_
      exact W.iret (v := (-1 : Int32)) hx hb hr (fun t ht hW => ⟨⟨(-1 : Int32), (), rfl, ⟨(congrArg Prod.fst (og_inj h)).symm, (congrArg Prod.snd (og_inj h)).symm⟩, (by rw [ht]; exact hP), hD⟩, hS.F ht⟩) hS.2.2 dX5_find_18
    · replace h := og_neg c17 h
      refine lv_iload_n hx hb dX5_find_12 rfl (lv_at hl 2 rfl) ?_
      refine lv_iconst (v := (3 : Int32)) hx hb dX5_find_13 (by decide) ?_
      refine lv_icmp_le (tgt := 19) hx hb dX5_find_14 (by decide) (fun c18 => ?_) (fun c18 => ?_)
      · replace h := og_pos c18 h
        refine lv_iconst (v := (0 : Int32)) hx hb dX5_find_19 (by decide) ?_
        refine lv_istore (lv' := [(4, .int (0 : Int32)), (0, .ref (aR 0)), (1, .int u1), (2, .int u2), (3, .int u3)]) hx hb dX5_find_20 hl (by decide) rfl (fun ls hl => ?_)
        exact b22  _ _ _ n _ _ _ _ h hP hD hS (lv_sub hl [1, 2, 3, 4, 0] rfl)
      · replace h := og_neg c18 h
        refine lv_iconst (v := (-1 : Int32)) hx hb dX5_find_17 (by decide) ?_
        exact W.iret (v := (-1 : Int32)) hx hb hr (fun t ht hW => ⟨⟨(-1 : Int32), (), rfl, ⟨(congrArg Prod.fst (og_inj h)).symm, (congrArg Prod.snd (og_inj h)).symm⟩, (by rw [ht]; exact hP), hD⟩, hS.F ht⟩) hS.2.2 dX5_find_18
set_option maxRecDepth 100000 in
set_option maxHeartbeats 8000000 in
theorem k_X5_run (l : Launch) (D : va_G) (cA : Nat → ClassId) (aR : Nat → Nat) (K : List Nat) (sz : Nat) (n : Nat) (u1 : Int32) (rI : Nat → Int32) (rA : Nat → Nat → Int32) (rG : Nat → Option Nat) (rR : Nat → Nat → Int32) (R : Int32 × (Nat → Int32) × (Nat → Nat → Int32)) (h : f_X5_run n K u1 rI rA = some R) : Met l yX5_run (wsU yX5_run cX5_run 3 (some .int)) ({ frames := 3, cells := 0, slots := 0, locals := 76 }) (PcW D cA (wl [gR cA aR rI rA rG] ++ gG cA K rR) sz [.ref (aR 0), .int u1]) (QI D (fun u : (Nat → Int32) × (Nat → Nat → Int32) => (wl [gR cA aR u.1 u.2 rG] ++ gG cA K rR)) R (va_A (wl [gR cA aR rI rA rG] ++ gG cA K rR) sz)) 0 0 (va_A (wl [gR cA aR rI rA rG] ++ gG cA K rR) sz) := by
  refine Met.ofW (cc := cX5_run) (maxL := 3) (ret := (some .int)) (by decide) rfl ?_
  intro p e s m args below meth c s₁ B hml hv
  obtain ⟨rfl, hsz, hP, hK, hD0⟩ := hv
  have hx := B.exec
  have hb := B.bytes
  have hr := B.returns
  have hts := atoms_spec (ws := (wsU yX5_run cX5_run 3 (some .int))) B.pre
  have hT : ∀ w ∈ wsL_law, w.before ([.ref (aR 0), .int u1] : List Value).toArray s = true := fun w h => hts w (List.mem_cons_of_mem _ h)
  have hown : s.vm.findClass RX5 = some m.cls := findClass_of_methodNamed B.named
  have hlocks := B.notSynchronized
  have hN := hK.2
  subst hsz
  have hD := hD0.self (sz := s.heap.size)
  generalize hAe : va_A (wl [gR cA aR rI rA rG] ++ gG cA K rR) s.heap.size = A at hD ⊢
  have hA : ∀ q : Nat, s.heap.size ≤ q → A q := fun q h => by rw [← hAe]; exact Or.inr h
  have hS : va_S A s.heap s.heap [] := va_S.rf
  have hl := lv_entry ([.ref (aR 0), .int u1]) (n := 3) (Nat.le_of_ble_eq_true rfl)
  rw [lg_entry_eq]
  generalize (lg_sl ([.ref (aR 0), .int u1]) ++ List.replicate (3 - (lg_sl ([.ref (aR 0), .int u1])).length) Slot.unset).toArray = ls at hl ⊢
  have hl : lv_has ls 3 [(0, .ref (aR 0)), (1, .int u1)] := hl
  have b124 : ∀ (rI : Nat → Int32) (rA : Nat → Nat → Int32) (H : Heap) (locs : List Loc) (ls : Array Slot), f_X5_run_b124 n K rI rA = some R → va_P D vwCl (wl [gR cA aR rI rA rG] ++ gG cA K rR) H → va_D A (wl [gR cA aR rI rA rG] ++ gG cA K rR) → va_S A s.heap H locs → lv_has ls 3 [(0, .ref (aR 0))] → W p l e (headSpec (wsU yX5_run cX5_run 3 (some .int)) ({ frames := 3, cells := 0, slots := 0, locals := 76 })).room s m ([.ref (aR 0), .int u1] : List Value).toArray below meth c H locs 0 0 (MQ below (QI D (fun u : (Nat → Int32) × (Nat → Nat → Int32) => (wl [gR cA aR u.1 u.2 rG] ++ gG cA K rR)) R A) ([.ref (aR 0), .int u1] : List Value).toArray s 0 0 A) (F0 m 124 ls []) := by
    intro rI rA H locs ls h hP hD hS hl
    unfold f_X5_run_b124 at h
    refine lv_aload_n hx hb dX5_run_124 rfl (lv_at hl 0 rfl) ?_
    refine va_get (D := D) (C := RX5) (T := TX5) (N := 40) hx hb hT inlX5 hown hK.1 hP 0 rfl rfl 25 (by decide) (hT _ fl_RX5_136) (fun _ h9 => h9) rfl dX5_run_125 ?_
    exact W.iret (v := (rI 7)) hx hb hr (fun t ht hW => ⟨⟨(rI 7), (rI, rA), rfl, ⟨(congrArg Prod.fst (og_inj h)).symm, (congrArg Prod.snd (og_inj h)).symm⟩, (by rw [ht]; exact hP), hD⟩, hS.F ht⟩) hS.2.2 dX5_run_128
  have b100 : ∀ (rI : Nat → Int32) (nn : Nat), ∀ (x2 : Int32) (rA : Nat → Nat → Int32) (H : Heap) (locs : List Loc) (ls : Array Slot), lp (f_X5_run_l100 n K rI) nn (x2, rA) = some R → va_P D vwCl (wl [gR cA aR rI rA rG] ++ gG cA K rR) H → va_D A (wl [gR cA aR rI rA rG] ++ gG cA K rR) → va_S A s.heap H locs → lv_has ls 3 [(0, .ref (aR 0)), (2, .int x2)] → W p l e (headSpec (wsU yX5_run cX5_run 3 (some .int)) ({ frames := 3, cells := 0, slots := 0, locals := 76 })).room s m ([.ref (aR 0), .int u1] : List Value).toArray below meth c H locs 0 0 (MQ below (QI D (fun u : (Nat → Int32) × (Nat → Nat → Int32) => (wl [gR cA aR u.1 u.2 rG] ++ gG cA K rR)) R A) ([.ref (aR 0), .int u1] : List Value).toArray s 0 0 A) (F0 m 100 ls []) := by
    intro rI nn
    induction nn with
    | zero =>
      intro x2 rA H locs ls h hP hD hS hl
      exact (lp_zero h).elim
    | succ nn hr100 =>
      intro x2 rA H locs ls h hP hD hS hl
      rw [lp_succ] at h
      unfold f_X5_run_l100 at h
      try dsimp only at h
      refine lv_iload_n hx hb dX5_run_100 rfl (lv_at hl 1 rfl) ?_
      refine lv_bipush (v := (8 : Int32)) hx hb dX5_run_101 (by decide) ?_
      refine lv_icmp_ge (tgt := 124) hx hb dX5_run_103 (by decide) (fun c1 => ?_) (fun c1 => ?_)
      · replace h := og_pos c1 h
        exact b124  _ _ _ _ _ h hP hD hS (lv_sub hl [0] rfl)
      · replace h := og_neg c1 h
        refine lv_aload_n hx hb dX5_run_106 rfl (lv_at hl 0 rfl) ?_
        refine va_get (D := D) (C := RX5) (T := TX5) (N := 40) hx hb hT inlX5 hown hK.1 hP 0 rfl rfl 38 (by decide) (hT _ fl_RX5_74) (fun _ h9 => h9) rfl dX5_run_107 ?_
        refine lv_iload_n hx hb dX5_run_110 rfl (lv_at hl 1 rfl) ?_
        refine lv_aload_n hx hb dX5_run_111 rfl (lv_at hl 0 rfl) ?_
        refine va_get (D := D) (C := RX5) (T := TX5) (N := 40) hx hb hT inlX5 hown hK.1 hP 0 rfl rfl 23 (by decide) (hT _ fl_RX5_65) (fun _ h9 => h9) rfl dX5_run_112 ?_
        refine lv_iload_n hx hb dX5_run_115 rfl (lv_at hl 1 rfl) ?_
        obtain ⟨g2, h⟩ := og_guard h
        refine va_iald hx hb hK.1 hP 17 0 rfl rfl (inb_vp g2) dX5_run_116 ?_
        obtain ⟨g3, h⟩ := og_guard h
        refine va_iast hx hb hK.1 hP hD hS 20 0 rfl rfl (inb_vp g3) dX5_run_117 (fun H locs hP hD hS => ?_)
        have hP : va_P D vwCl (wl [gR cA aR rI (up2 rA 18 x2.toNatClampNeg (rA 15 x2.toNatClampNeg)) rG] ++ gG cA K rR) H := hP
        have hD : va_D A (wl [gR cA aR rI (up2 rA 18 x2.toNatClampNeg (rA 15 x2.toNatClampNeg)) rG] ++ gG cA K rR) := hD
        refine lv_iinc (v := (x2 + 1)) (lv' := [(2, .int (x2 + 1)), (0, .ref (aR 0))]) hx hb dX5_run_118 hl (k := 1) rfl rfl (by decide) rfl (fun ls hl => ?_)
        refine lv_goto (tgt := 100) hx hb dX5_run_121 (by decide) ?_
        exact hr100 _ _ _ _ _ h hP hD hS (lv_sub hl [1, 0] rfl)
  have b98 : ∀ (rI : Nat → Int32) (rA : Nat → Nat → Int32) (H : Heap) (locs : List Loc) (ls : Array Slot), f_X5_run_b98 n K rI rA = some R → va_P D vwCl (wl [gR cA aR rI rA rG] ++ gG cA K rR) H → va_D A (wl [gR cA aR rI rA rG] ++ gG cA K rR) → va_S A s.heap H locs → lv_has ls 3 [(0, .ref (aR 0))] → W p l e (headSpec (wsU yX5_run cX5_run 3 (some .int)) ({ frames := 3, cells := 0, slots := 0, locals := 76 })).room s m ([.ref (aR 0), .int u1] : List Value).toArray below meth c H locs 0 0 (MQ below (QI D (fun u : (Nat → Int32) × (Nat → Nat → Int32) => (wl [gR cA aR u.1 u.2 rG] ++ gG cA K rR)) R A) ([.ref (aR 0), .int u1] : List Value).toArray s 0 0 A) (F0 m 98 ls []) := by
    intro rI rA H locs ls h hP hD hS hl
    unfold f_X5_run_b98 at h
    refine lv_iconst (v := (0 : Int32)) hx hb dX5_run_98 (by decide) ?_
    refine lv_istore_n (lv' := [(2, .int (0 : Int32)), (0, .ref (aR 0))]) hx hb dX5_run_99 rfl hl (by decide) rfl (fun ls hl => ?_)
    exact b100  _ n _ _ _ _ _ h hP hD hS (lv_sub hl [1, 0] rfl)
  have b74 : ∀ (rI : Nat → Int32) (nn : Nat), ∀ (x2 : Int32) (rA : Nat → Nat → Int32) (H : Heap) (locs : List Loc) (ls : Array Slot), lp (f_X5_run_l74 n K rI) nn (x2, rA) = some R → va_P D vwCl (wl [gR cA aR rI rA rG] ++ gG cA K rR) H → va_D A (wl [gR cA aR rI rA rG] ++ gG cA K rR) → va_S A s.heap H locs → lv_has ls 3 [(0, .ref (aR 0)), (2, .int x2)] → W p l e (headSpec (wsU yX5_run cX5_run 3 (some .int)) ({ frames := 3, cells := 0, slots := 0, locals := 76 })).room s m ([.ref (aR 0), .int u1] : List Value).toArray below meth c H locs 0 0 (MQ below (QI D (fun u : (Nat → Int32) × (Nat → Nat → Int32) => (wl [gR cA aR u.1 u.2 rG] ++ gG cA K rR)) R A) ([.ref (aR 0), .int u1] : List Value).toArray s 0 0 A) (F0 m 74 ls []) := by
    intro rI nn
    induction nn with
    | zero =>
      intro x2 rA H locs ls h hP hD hS hl
      exact (lp_zero h).elim
    | succ nn hr74 =>
      intro x2 rA H locs ls h hP hD hS hl
      rw [lp_succ] at h
      unfold f_X5_run_l74 at h
      try dsimp only at h
      refine lv_iload_n hx hb dX5_run_74 rfl (lv_at hl 1 rfl) ?_
      refine lv_bipush (v := (16 : Int32)) hx hb dX5_run_75 (by decide) ?_
      refine lv_icmp_ge (tgt := 98) hx hb dX5_run_77 (by decide) (fun c4 => ?_) (fun c4 => ?_)
      · replace h := og_pos c4 h
        exact b98  _ _ _ _ _ h hP hD hS (lv_sub hl [0] rfl)
      · replace h := og_neg c4 h
        refine lv_aload_n hx hb dX5_run_80 rfl (lv_at hl 0 rfl) ?_
        refine va_get (D := D) (C := RX5) (T := TX5) (N := 40) hx hb hT inlX5 hown hK.1 hP 0 rfl rfl 37 (by decide) (hT _ fl_RX5_71) (fun _ h9 => h9) rfl dX5_run_81 ?_
        refine lv_iload_n hx hb dX5_run_84 rfl (lv_at hl 1 rfl) ?_
        refine lv_aload_n hx hb dX5_run_85 rfl (lv_at hl 0 rfl) ?_
        refine va_get (D := D) (C := RX5) (T := TX5) (N := 40) hx hb hT inlX5 hown hK.1 hP 0 rfl rfl 22 (by decide) (hT _ fl_RX5_62) (fun _ h9 => h9) rfl dX5_run_86 ?_
        refine lv_iload_n hx hb dX5_run_89 rfl (lv_at hl 1 rfl) ?_
        obtain ⟨g5, h⟩ := og_guard h
        refine va_iald hx hb hK.1 hP 16 0 rfl rfl (inb_vp g5) dX5_run_90 ?_
        obtain ⟨g6, h⟩ := og_guard h
        refine va_iast hx hb hK.1 hP hD hS 19 0 rfl rfl (inb_vp g6) dX5_run_91 (fun H locs hP hD hS => ?_)
        have hP : va_P D vwCl (wl [gR cA aR rI (up2 rA 17 x2.toNatClampNeg (rA 14 x2.toNatClampNeg)) rG] ++ gG cA K rR) H := hP
        have hD : va_D A (wl [gR cA aR rI (up2 rA 17 x2.toNatClampNeg (rA 14 x2.toNatClampNeg)) rG] ++ gG cA K rR) := hD
        refine lv_iinc (v := (x2 + 1)) (lv' := [(2, .int (x2 + 1)), (0, .ref (aR 0))]) hx hb dX5_run_92 hl (k := 1) rfl rfl (by decide) rfl (fun ls hl => ?_)
        refine lv_goto (tgt := 74) hx hb dX5_run_95 (by decide) ?_
        exact hr74 _ _ _ _ _ h hP hD hS (lv_sub hl [1, 0] rfl)
  unfold f_X5_run at h
  refine lv_aload_n hx hb dX5_run_0 rfl (lv_at hl 0 rfl) ?_
  refine lv_iload_n hx hb dX5_run_1 rfl (lv_at hl 1 rfl) ?_
  obtain ⟨⟨r7, _u7⟩, e7, h⟩ := og_bind h
  try dsimp only at h
  refine gc_i (ws := (wl [gR cA aR rI rA rG] ++ gG cA K rR)) (wc := (wl [gR cA aR rI rA rG] ++ gG cA K rR)) (wr := (wl ([] : List va_W))) (ws' := (wl [gR cA aR rI rA rG] ++ gG cA K rR)) (va_runV (As := [.int u1]) (rest := []) ⟨hx, hb, hml, hown, hT⟩ (k_X5_isWord l D cA aR K s.heap.size u1 rI rA rG rR _ e7) (cwV 1 hT gv_RX5_191 rfl rfl rfl (by decide +kernel) ⟨Nat.le_of_ble_eq_true rfl, Nat.le_of_ble_eq_true rfl⟩) (pre_V (ci := 5) (q0 := 0) (wr := (wl ([] : List va_W))) (pmB (f := fun i => ([gR cA aR rI rA rG] : List va_W).getD i []) [0] [0] [] (by decide)) hK hP hD rfl rfl) rfl rfl hl.1 rfl (lv_room (Nat.le_of_ble_eq_true rfl)) dX5_run_2 ⟨Nat.le_refl _, Nat.le_refl _⟩) (pmB (f := fun i => ([gR cA aR rI rA rG] : List va_W).getD i []) [0] [0] [] (by decide)) hP hD hS hA (pmB (f := fun i => ([gR cA aR rI rA rG] : List va_W).getD i []) [0] [0] [] (by decide)) (fun H locs hP hD hS => ?_)
  refine lv_if_ne (tgt := 10) hx hb dX5_run_5 (by decide) (fun c8 => ?_) (fun c8 => ?_)
  · replace h := og_neg c8 h
    refine lv_aload_n hx hb dX5_run_10 rfl (lv_at hl 0 rfl) ?_
    refine lv_iload_n hx hb dX5_run_11 rfl (lv_at hl 1 rfl) ?_
    refine lv_null hx hb dX5_run_12 ?_
    refine lv_iconst (v := (0 : Int32)) hx hb dX5_run_13 (by decide) ?_
    obtain ⟨⟨rI9, rA9⟩, e9, h⟩ := og_bind h
    try dsimp only at h
    refine gc_v (ws := (wl [gR cA aR rI rA rG] ++ gG cA K rR)) (wc := (wl [gR cA aR rI rA rG] ++ gG cA K rR)) (wr := (wl ([] : List va_W))) (ws' := (wl [gR cA aR rI9 rA9 rG] ++ gG cA K rR)) (va_runV (As := [.int u1, .null, .int (0 : Int32)]) (rest := []) ⟨hx, hb, hml, hown, hT⟩ (k_X5_go0 l D cA aR K H.size n u1 (0 : Int32) rI rA rG rR _ e9) (cwV 3 hT gv_RX5_167 rfl rfl rfl (by decide +kernel) ⟨Nat.le_of_ble_eq_true rfl, Nat.le_of_ble_eq_true rfl⟩) (pre_V (ci := 5) (q0 := 0) (wr := (wl ([] : List va_W))) (pmB (f := fun i => ([gR cA aR rI rA rG] : List va_W).getD i []) [0] [0] [] (by decide)) hK hP hD rfl rfl) rfl rfl hl.1 rfl (lv_room (Nat.le_of_ble_eq_true rfl)) dX5_run_14 ⟨Nat.le_refl _, Nat.le_refl _⟩) (pmB (f := fun i => ([gR cA aR rI rA rG] : List va_W).getD i []) [0] [0] [] (by decide)) hP hD hS hA (pmB (f := fun i => ([gR cA aR rI9 rA9 rG] : List va_W).getD i []) [0] [0] [] (by decide)) (fun H locs hP hD hS => ?_)
    refine lv_aload_n hx hb dX5_run_17 rfl (lv_at hl 0 rfl) ?_
    refine lv_iconst (v := (1 : Int32)) hx hb dX5_run_18 (by decide) ?_
    refine va_put (D := D) (v := .int (1 : Int32)) (ty := .boolean) (C := RX5) (T := TX5) (N := 40) hx hb hT inlX5 tyX5 tyX5_ok nmX5 hown hK.1 hP hD hS 0 rfl rfl 30 (by decide) (hT _ fl_RX5_116) (fun _ h9 => h9) rfl (by decide +kernel) (by decide +kernel) (by decide +kernel) (Nat.le_of_ble_eq_true rfl) dX5_run_19 (fun H locs hP hD hS => ?_)
    have hP : va_P D vwCl (wl [gR cA aR (upd rI9 12 (1 : Int32)) rA9 rG] ++ gG cA K rR) H := hP
    have hD : va_D A (wl [gR cA aR (upd rI9 12 (1 : Int32)) rA9 rG] ++ gG cA K rR) := hD
    refine lv_aload_n hx hb dX5_run_22 rfl (lv_at hl 0 rfl) ?_
    refine lv_iconst (v := (1 : Int32)) hx hb dX5_run_23 (by decide) ?_
    refine va_put (D := D) (v := .int (1 : Int32)) (ty := .boolean) (C := RX5) (T := TX5) (N := 40) hx hb hT inlX5 tyX5 tyX5_ok nmX5 hown hK.1 hP hD hS 0 rfl rfl 39 (by decide) (hT _ fl_RX5_80) (fun _ h9 => h9) rfl (by decide +kernel) (by decide +kernel) (by decide +kernel) (Nat.le_of_ble_eq_true rfl) dX5_run_24 (fun H locs hP hD hS => ?_)
    have hP : va_P D vwCl (wl [gR cA aR (upd (upd rI9 12 (1 : Int32)) 19 (1 : Int32)) rA9 rG] ++ gG cA K rR) H := hP
    have hD : va_D A (wl [gR cA aR (upd (upd rI9 12 (1 : Int32)) 19 (1 : Int32)) rA9 rG] ++ gG cA K rR) := hD
    refine lv_aload_n hx hb dX5_run_27 rfl (lv_at hl 0 rfl) ?_
    refine lv_iload_n hx hb dX5_run_28 rfl (lv_at hl 1 rfl) ?_
    refine va_put (D := D) (v := .int u1) (ty := .int) (C := RX5) (T := TX5) (N := 40) hx hb hT inlX5 tyX5 tyX5_ok nmX5 hown hK.1 hP hD hS 0 rfl rfl 31 (by decide) (hT _ fl_RX5_194) (fun _ h9 => h9) rfl (by decide +kernel) rfl rfl (Nat.le_of_ble_eq_true rfl) dX5_run_29 (fun H locs hP hD hS => ?_)
    have hP : va_P D vwCl (wl [gR cA aR (upd (upd (upd rI9 12 (1 : Int32)) 19 (1 : Int32)) 13 u1) rA9 rG] ++ gG cA K rR) H := hP
    have hD : va_D A (wl [gR cA aR (upd (upd (upd rI9 12 (1 : Int32)) 19 (1 : Int32)) 13 u1) rA9 rG] ++ gG cA K rR) := hD
    refine lv_aload_n hx hb dX5_run_32 rfl (lv_at hl 0 rfl) ?_
    refine lv_aload_n hx hb dX5_run_33 rfl (lv_at hl 0 rfl) ?_
    refine va_get (D := D) (C := RX5) (T := TX5) (N := 40) hx hb hT inlX5 hown hK.1 hP 0 rfl rfl 25 (by decide) (hT _ fl_RX5_136) (fun _ h9 => h9) rfl dX5_run_34 ?_
    refine va_put (D := D) (v := .int ((upd (upd (upd rI9 12 (1 : Int32)) 19 (1 : Int32)) 13 u1) 7)) (ty := .int) (C := RX5) (T := TX5) (N := 40) hx hb hT inlX5 tyX5 tyX5_ok nmX5 hown hK.1 hP hD hS 0 rfl rfl 32 (by decide) (hT _ fl_RX5_197) (fun _ h9 => h9) rfl (by decide +kernel) rfl rfl (Nat.le_of_ble_eq_true rfl) dX5_run_37 (fun H locs hP hD hS => ?_)
    have hP : va_P D vwCl (wl [gR cA aR (upd (upd (upd (upd rI9 12 (1 : Int32)) 19 (1 : Int32)) 13 u1) 14 ((upd (upd (upd rI9 12 (1 : Int32)) 19 (1 : Int32)) 13 u1) 7)) rA9 rG] ++ gG cA K rR) H := hP
    have hD : va_D A (wl [gR cA aR (upd (upd (upd (upd rI9 12 (1 : Int32)) 19 (1 : Int32)) 13 u1) 14 ((upd (upd (upd rI9 12 (1 : Int32)) 19 (1 : Int32)) 13 u1) 7)) rA9 rG] ++ gG cA K rR) := hD
    refine lv_aload_n hx hb dX5_run_40 rfl (lv_at hl 0 rfl) ?_
    refine lv_aload_n hx hb dX5_run_41 rfl (lv_at hl 0 rfl) ?_
    refine va_get (D := D) (C := RX5) (T := TX5) (N := 40) hx hb hT inlX5 hown hK.1 hP 0 rfl rfl 26 (by decide) (hT _ fl_RX5_139) (fun _ h9 => h9) rfl dX5_run_42 ?_
    refine va_put (D := D) (v := .int ((upd (upd (upd (upd rI9 12 (1 : Int32)) 19 (1 : Int32)) 13 u1) 14 ((upd (upd (upd rI9 12 (1 : Int32)) 19 (1 : Int32)) 13 u1) 7)) 8)) (ty := .int) (C := RX5) (T := TX5) (N := 40) hx hb hT inlX5 tyX5 tyX5_ok nmX5 hown hK.1 hP hD hS 0 rfl rfl 33 (by decide) (hT _ fl_RX5_200) (fun _ h9 => h9) rfl (by decide +kernel) rfl rfl (Nat.le_of_ble_eq_true rfl) dX5_run_45 (fun H locs hP hD hS => ?_)
    have hP : va_P D vwCl (wl [gR cA aR (upd (upd (upd (upd (upd rI9 12 (1 : Int32)) 19 (1 : Int32)) 13 u1) 14 ((upd (upd (upd rI9 12 (1 : Int32)) 19 (1 : Int32)) 13 u1) 7)) 15 ((upd (upd (upd (upd rI9 12 (1 : Int32)) 19 (1 : Int32)) 13 u1) 14 ((upd (upd (upd rI9 12 (1 : Int32)) 19 (1 : Int32)) 13 u1) 7)) 8)) rA9 rG] ++ gG cA K rR) H := hP
    have hD : va_D A (wl [gR cA aR (upd (upd (upd (upd (upd rI9 12 (1 : Int32)) 19 (1 : Int32)) 13 u1) 14 ((upd (upd (upd rI9 12 (1 : Int32)) 19 (1 : Int32)) 13 u1) 7)) 15 ((upd (upd (upd (upd rI9 12 (1 : Int32)) 19 (1 : Int32)) 13 u1) 14 ((upd (upd (upd rI9 12 (1 : Int32)) 19 (1 : Int32)) 13 u1) 7)) 8)) rA9 rG] ++ gG cA K rR) := hD
    refine lv_aload_n hx hb dX5_run_48 rfl (lv_at hl 0 rfl) ?_
    refine lv_aload_n hx hb dX5_run_49 rfl (lv_at hl 0 rfl) ?_
    refine va_get (D := D) (C := RX5) (T := TX5) (N := 40) hx hb hT inlX5 hown hK.1 hP 0 rfl rfl 27 (by decide) (hT _ fl_RX5_142) (fun _ h9 => h9) rfl dX5_run_50 ?_
    refine va_put (D := D) (v := .int ((upd (upd (upd (upd (upd rI9 12 (1 : Int32)) 19 (1 : Int32)) 13 u1) 14 ((upd (upd (upd rI9 12 (1 : Int32)) 19 (1 : Int32)) 13 u1) 7)) 15 ((upd (upd (upd (upd rI9 12 (1 : Int32)) 19 (1 : Int32)) 13 u1) 14 ((upd (upd (upd rI9 12 (1 : Int32)) 19 (1 : Int32)) 13 u1) 7)) 8)) 9)) (ty := .int) (C := RX5) (T := TX5) (N := 40) hx hb hT inlX5 tyX5 tyX5_ok nmX5 hown hK.1 hP hD hS 0 rfl rfl 34 (by decide) (hT _ fl_RX5_203) (fun _ h9 => h9) rfl (by decide +kernel) rfl rfl (Nat.le_of_ble_eq_true rfl) dX5_run_53 (fun H locs hP hD hS => ?_)
    have hP : va_P D vwCl (wl [gR cA aR (upd (upd (upd (upd (upd (upd rI9 12 (1 : Int32)) 19 (1 : Int32)) 13 u1) 14 ((upd (upd (upd rI9 12 (1 : Int32)) 19 (1 : Int32)) 13 u1) 7)) 15 ((upd (upd (upd (upd rI9 12 (1 : Int32)) 19 (1 : Int32)) 13 u1) 14 ((upd (upd (upd rI9 12 (1 : Int32)) 19 (1 : Int32)) 13 u1) 7)) 8)) 16 ((upd (upd (upd (upd (upd rI9 12 (1 : Int32)) 19 (1 : Int32)) 13 u1) 14 ((upd (upd (upd rI9 12 (1 : Int32)) 19 (1 : Int32)) 13 u1) 7)) 15 ((upd (upd (upd (upd rI9 12 (1 : Int32)) 19 (1 : Int32)) 13 u1) 14 ((upd (upd (upd rI9 12 (1 : Int32)) 19 (1 : Int32)) 13 u1) 7)) 8)) 9)) rA9 rG] ++ gG cA K rR) H := hP
    have hD : va_D A (wl [gR cA aR (upd (upd (upd (upd (upd (upd rI9 12 (1 : Int32)) 19 (1 : Int32)) 13 u1) 14 ((upd (upd (upd rI9 12 (1 : Int32)) 19 (1 : Int32)) 13 u1) 7)) 15 ((upd (upd (upd (upd rI9 12 (1 : Int32)) 19 (1 : Int32)) 13 u1) 14 ((upd (upd (upd rI9 12 (1 : Int32)) 19 (1 : Int32)) 13 u1) 7)) 8)) 16 ((upd (upd (upd (upd (upd rI9 12 (1 : Int32)) 19 (1 : Int32)) 13 u1) 14 ((upd (upd (upd rI9 12 (1 : Int32)) 19 (1 : Int32)) 13 u1) 7)) 15 ((upd (upd (upd (upd rI9 12 (1 : Int32)) 19 (1 : Int32)) 13 u1) 14 ((upd (upd (upd rI9 12 (1 : Int32)) 19 (1 : Int32)) 13 u1) 7)) 8)) 9)) rA9 rG] ++ gG cA K rR) := hD
    refine lv_aload_n hx hb dX5_run_56 rfl (lv_at hl 0 rfl) ?_
    refine lv_aload_n hx hb dX5_run_57 rfl (lv_at hl 0 rfl) ?_
    refine va_get (D := D) (C := RX5) (T := TX5) (N := 40) hx hb hT inlX5 hown hK.1 hP 0 rfl rfl 28 (by decide) (hT _ fl_RX5_145) (fun _ h9 => h9) rfl dX5_run_58 ?_
    refine va_put (D := D) (v := .int ((upd (upd (upd (upd (upd (upd rI9 12 (1 : Int32)) 19 (1 : Int32)) 13 u1) 14 ((upd (upd (upd rI9 12 (1 : Int32)) 19 (1 : Int32)) 13 u1) 7)) 15 ((upd (upd (upd (upd rI9 12 (1 : Int32)) 19 (1 : Int32)) 13 u1) 14 ((upd (upd (upd rI9 12 (1 : Int32)) 19 (1 : Int32)) 13 u1) 7)) 8)) 16 ((upd (upd (upd (upd (upd rI9 12 (1 : Int32)) 19 (1 : Int32)) 13 u1) 14 ((upd (upd (upd rI9 12 (1 : Int32)) 19 (1 : Int32)) 13 u1) 7)) 15 ((upd (upd (upd (upd rI9 12 (1 : Int32)) 19 (1 : Int32)) 13 u1) 14 ((upd (upd (upd rI9 12 (1 : Int32)) 19 (1 : Int32)) 13 u1) 7)) 8)) 9)) 10)) (ty := .int) (C := RX5) (T := TX5) (N := 40) hx hb hT inlX5 tyX5 tyX5_ok nmX5 hown hK.1 hP hD hS 0 rfl rfl 35 (by decide) (hT _ fl_RX5_206) (fun _ h9 => h9) rfl (by decide +kernel) rfl rfl (Nat.le_of_ble_eq_true rfl) dX5_run_61 (fun H locs hP hD hS => ?_)
    have hP : va_P D vwCl (wl [gR cA aR (upd (upd (upd (upd (upd (upd (upd rI9 12 (1 : Int32)) 19 (1 : Int32)) 13 u1) 14 ((upd (upd (upd rI9 12 (1 : Int32)) 19 (1 : Int32)) 13 u1) 7)) 15 ((upd (upd (upd (upd rI9 12 (1 : Int32)) 19 (1 : Int32)) 13 u1) 14 ((upd (upd (upd rI9 12 (1 : Int32)) 19 (1 : Int32)) 13 u1) 7)) 8)) 16 ((upd (upd (upd (upd (upd rI9 12 (1 : Int32)) 19 (1 : Int32)) 13 u1) 14 ((upd (upd (upd rI9 12 (1 : Int32)) 19 (1 : Int32)) 13 u1) 7)) 15 ((upd (upd (upd (upd rI9 12 (1 : Int32)) 19 (1 : Int32)) 13 u1) 14 ((upd (upd (upd rI9 12 (1 : Int32)) 19 (1 : Int32)) 13 u1) 7)) 8)) 9)) 17 ((upd (upd (upd (upd (upd (upd rI9 12 (1 : Int32)) 19 (1 : Int32)) 13 u1) 14 ((upd (upd (upd rI9 12 (1 : Int32)) 19 (1 : Int32)) 13 u1) 7)) 15 ((upd (upd (upd (upd rI9 12 (1 : Int32)) 19 (1 : Int32)) 13 u1) 14 ((upd (upd (upd rI9 12 (1 : Int32)) 19 (1 : Int32)) 13 u1) 7)) 8)) 16 ((upd (upd (upd (upd (upd rI9 12 (1 : Int32)) 19 (1 : Int32)) 13 u1) 14 ((upd (upd (upd rI9 12 (1 : Int32)) 19 (1 : Int32)) 13 u1) 7)) 15 ((upd (upd (upd (upd rI9 12 (1 : Int32)) 19 (1 : Int32)) 13 u1) 14 ((upd (upd (upd rI9 12 (1 : Int32)) 19 (1 : Int32)) 13 u1) 7)) 8)) 9)) 10)) rA9 rG] ++ gG cA K rR) H := hP
    have hD : va_D A (wl [gR cA aR (upd (upd (upd (upd (upd (upd (upd rI9 12 (1 : Int32)) 19 (1 : Int32)) 13 u1) 14 ((upd (upd (upd rI9 12 (1 : Int32)) 19 (1 : Int32)) 13 u1) 7)) 15 ((upd (upd (upd (upd rI9 12 (1 : Int32)) 19 (1 : Int32)) 13 u1) 14 ((upd (upd (upd rI9 12 (1 : Int32)) 19 (1 : Int32)) 13 u1) 7)) 8)) 16 ((upd (upd (upd (upd (upd rI9 12 (1 : Int32)) 19 (1 : Int32)) 13 u1) 14 ((upd (upd (upd rI9 12 (1 : Int32)) 19 (1 : Int32)) 13 u1) 7)) 15 ((upd (upd (upd (upd rI9 12 (1 : Int32)) 19 (1 : Int32)) 13 u1) 14 ((upd (upd (upd rI9 12 (1 : Int32)) 19 (1 : Int32)) 13 u1) 7)) 8)) 9)) 17 ((upd (upd (upd (upd (upd (upd rI9 12 (1 : Int32)) 19 (1 : Int32)) 13 u1) 14 ((upd (upd (upd rI9 12 (1 : Int32)) 19 (1 : Int32)) 13 u1) 7)) 15 ((upd (upd (upd (upd rI9 12 (1 : Int32)) 19 (1 : Int32)) 13 u1) 14 ((upd (upd (upd rI9 12 (1 : Int32)) 19 (1 : Int32)) 13 u1) 7)) 8)) 16 ((upd (upd (upd (upd (upd rI9 12 (1 : Int32)) 19 (1 : Int32)) 13 u1) 14 ((upd (upd (upd rI9 12 (1 : Int32)) 19 (1 : Int32)) 13 u1) 7)) 15 ((upd (upd (upd (upd rI9 12 (1 : Int32)) 19 (1 : Int32)) 13 u1) 14 ((upd (upd (upd rI9 12 (1 : Int32)) 19 (1 : Int32)) 13 u1) 7)) 8)) 9)) 10)) rA9 rG] ++ gG cA K rR) := hD
    refine lv_aload_n hx hb dX5_run_64 rfl (lv_at hl 0 rfl) ?_
    refine lv_aload_n hx hb dX5_run_65 rfl (lv_at hl 0 rfl) ?_
    refine va_get (D := D) (C := RX5) (T := TX5) (N := 40) hx hb hT inlX5 hown hK.1 hP 0 rfl rfl 29 (by decide) (hT _ fl_RX5_148) (fun _ h9 => h9) rfl dX5_run_66 ?_
    refine va_put (D := D) (v := .int ((upd (upd (upd (upd (upd (upd (upd rI9 12 (1 : Int32)) 19 (1 : Int32)) 13 u1) 14 ((upd (upd (upd rI9 12 (1 : Int32)) 19 (1 : Int32)) 13 u1) 7)) 15 ((upd (upd (upd (upd rI9 12 (1 : Int32)) 19 (1 : Int32)) 13 u1) 14 ((upd (upd (upd rI9 12 (1 : Int32)) 19 (1 : Int32)) 13 u1) 7)) 8)) 16 ((upd (upd (upd (upd (upd rI9 12 (1 : Int32)) 19 (1 : Int32)) 13 u1) 14 ((upd (upd (upd rI9 12 (1 : Int32)) 19 (1 : Int32)) 13 u1) 7)) 15 ((upd (upd (upd (upd rI9 12 (1 : Int32)) 19 (1 : Int32)) 13 u1) 14 ((upd (upd (upd rI9 12 (1 : Int32)) 19 (1 : Int32)) 13 u1) 7)) 8)) 9)) 17 ((upd (upd (upd (upd (upd (upd rI9 12 (1 : Int32)) 19 (1 : Int32)) 13 u1) 14 ((upd (upd (upd rI9 12 (1 : Int32)) 19 (1 : Int32)) 13 u1) 7)) 15 ((upd (upd (upd (upd rI9 12 (1 : Int32)) 19 (1 : Int32)) 13 u1) 14 ((upd (upd (upd rI9 12 (1 : Int32)) 19 (1 : Int32)) 13 u1) 7)) 8)) 16 ((upd (upd (upd (upd (upd rI9 12 (1 : Int32)) 19 (1 : Int32)) 13 u1) 14 ((upd (upd (upd rI9 12 (1 : Int32)) 19 (1 : Int32)) 13 u1) 7)) 15 ((upd (upd (upd (upd rI9 12 (1 : Int32)) 19 (1 : Int32)) 13 u1) 14 ((upd (upd (upd rI9 12 (1 : Int32)) 19 (1 : Int32)) 13 u1) 7)) 8)) 9)) 10)) 11)) (ty := .int) (C := RX5) (T := TX5) (N := 40) hx hb hT inlX5 tyX5 tyX5_ok nmX5 hown hK.1 hP hD hS 0 rfl rfl 36 (by decide) (hT _ fl_RX5_209) (fun _ h9 => h9) rfl (by decide +kernel) rfl rfl (Nat.le_of_ble_eq_true rfl) dX5_run_69 (fun H locs hP hD hS => ?_)
    have hP : va_P D vwCl (wl [gR cA aR (upd (upd (upd (upd (upd (upd (upd (upd rI9 12 (1 : Int32)) 19 (1 : Int32)) 13 u1) 14 ((upd (upd (upd rI9 12 (1 : Int32)) 19 (1 : Int32)) 13 u1) 7)) 15 ((upd (upd (upd (upd rI9 12 (1 : Int32)) 19 (1 : Int32)) 13 u1) 14 ((upd (upd (upd rI9 12 (1 : Int32)) 19 (1 : Int32)) 13 u1) 7)) 8)) 16 ((upd (upd (upd (upd (upd rI9 12 (1 : Int32)) 19 (1 : Int32)) 13 u1) 14 ((upd (upd (upd rI9 12 (1 : Int32)) 19 (1 : Int32)) 13 u1) 7)) 15 ((upd (upd (upd (upd rI9 12 (1 : Int32)) 19 (1 : Int32)) 13 u1) 14 ((upd (upd (upd rI9 12 (1 : Int32)) 19 (1 : Int32)) 13 u1) 7)) 8)) 9)) 17 ((upd (upd (upd (upd (upd (upd rI9 12 (1 : Int32)) 19 (1 : Int32)) 13 u1) 14 ((upd (upd (upd rI9 12 (1 : Int32)) 19 (1 : Int32)) 13 u1) 7)) 15 ((upd (upd (upd (upd rI9 12 (1 : Int32)) 19 (1 : Int32)) 13 u1) 14 ((upd (upd (upd rI9 12 (1 : Int32)) 19 (1 : Int32)) 13 u1) 7)) 8)) 16 ((upd (upd (upd (upd (upd rI9 12 (1 : Int32)) 19 (1 : Int32)) 13 u1) 14 ((upd (upd (upd rI9 12 (1 : Int32)) 19 (1 : Int32)) 13 u1) 7)) 15 ((upd (upd (upd (upd rI9 12 (1 : Int32)) 19 (1 : Int32)) 13 u1) 14 ((upd (upd (upd rI9 12 (1 : Int32)) 19 (1 : Int32)) 13 u1) 7)) 8)) 9)) 10)) 18 ((upd (upd (upd (upd (upd (upd (upd rI9 12 (1 : Int32)) 19 (1 : Int32)) 13 u1) 14 ((upd (upd (upd rI9 12 (1 : Int32)) 19 (1 : Int32)) 13 u1) 7)) 15 ((upd (upd (upd (upd rI9 12 (1 : Int32)) 19 (1 : Int32)) 13 u1) 14 ((upd (upd (upd rI9 12 (1 : Int32)) 19 (1 : Int32)) 13 u1) 7)) 8)) 16 ((upd (upd (upd (upd (upd rI9 12 (1 : Int32)) 19 (1 : Int32)) 13 u1) 14 ((upd (upd (upd rI9 12 (1 : Int32)) 19 (1 : Int32)) 13 u1) 7)) 15 ((upd (upd (upd (upd rI9 12 (1 : Int32)) 19 (1 : Int32)) 13 u1) 14 ((upd (upd (upd rI9 12 (1 : Int32)) 19 (1 : Int32)) 13 u1) 7)) 8)) 9)) 17 ((upd (upd (upd (upd (upd (upd rI9 12 (1 : Int32)) 19 (1 : Int32)) 13 u1) 14 ((upd (upd (upd rI9 12 (1 : Int32)) 19 (1 : Int32)) 13 u1) 7)) 15 ((upd (upd (upd (upd rI9 12 (1 : Int32)) 19 (1 : Int32)) 13 u1) 14 ((upd (upd (upd rI9 12 (1 : Int32)) 19 (1 : Int32)) 13 u1) 7)) 8)) 16 ((upd (upd (upd (upd (upd rI9 12 (1 : Int32)) 19 (1 : Int32)) 13 u1) 14 ((upd (upd (upd rI9 12 (1 : Int32)) 19 (1 : Int32)) 13 u1) 7)) 15 ((upd (upd (upd (upd rI9 12 (1 : Int32)) 19 (1 : Int32)) 13 u1) 14 ((upd (upd (upd rI9 12 (1 : Int32)) 19 (1 : Int32)) 13 u1) 7)) 8)) 9)) 10)) 11)) rA9 rG] ++ gG cA K rR) H := hP
    have hD : va_D A (wl [gR cA aR (upd (upd (upd (upd (upd (upd (upd (upd rI9 12 (1 : Int32)) 19 (1 : Int32)) 13 u1) 14 ((upd (upd (upd rI9 12 (1 : Int32)) 19 (1 : Int32)) 13 u1) 7)) 15 ((upd (upd (upd (upd rI9 12 (1 : Int32)) 19 (1 : Int32)) 13 u1) 14 ((upd (upd (upd rI9 12 (1 : Int32)) 19 (1 : Int32)) 13 u1) 7)) 8)) 16 ((upd (upd (upd (upd (upd rI9 12 (1 : Int32)) 19 (1 : Int32)) 13 u1) 14 ((upd (upd (upd rI9 12 (1 : Int32)) 19 (1 : Int32)) 13 u1) 7)) 15 ((upd (upd (upd (upd rI9 12 (1 : Int32)) 19 (1 : Int32)) 13 u1) 14 ((upd (upd (upd rI9 12 (1 : Int32)) 19 (1 : Int32)) 13 u1) 7)) 8)) 9)) 17 ((upd (upd (upd (upd (upd (upd rI9 12 (1 : Int32)) 19 (1 : Int32)) 13 u1) 14 ((upd (upd (upd rI9 12 (1 : Int32)) 19 (1 : Int32)) 13 u1) 7)) 15 ((upd (upd (upd (upd rI9 12 (1 : Int32)) 19 (1 : Int32)) 13 u1) 14 ((upd (upd (upd rI9 12 (1 : Int32)) 19 (1 : Int32)) 13 u1) 7)) 8)) 16 ((upd (upd (upd (upd (upd rI9 12 (1 : Int32)) 19 (1 : Int32)) 13 u1) 14 ((upd (upd (upd rI9 12 (1 : Int32)) 19 (1 : Int32)) 13 u1) 7)) 15 ((upd (upd (upd (upd rI9 12 (1 : Int32)) 19 (1 : Int32)) 13 u1) 14 ((upd (upd (upd rI9 12 (1 : Int32)) 19 (1 : Int32)) 13 u1) 7)) 8)) 9)) 10)) 18 ((upd (upd (upd (upd (upd (upd (upd rI9 12 (1 : Int32)) 19 (1 : Int32)) 13 u1) 14 ((upd (upd (upd rI9 12 (1 : Int32)) 19 (1 : Int32)) 13 u1) 7)) 15 ((upd (upd (upd (upd rI9 12 (1 : Int32)) 19 (1 : Int32)) 13 u1) 14 ((upd (upd (upd rI9 12 (1 : Int32)) 19 (1 : Int32)) 13 u1) 7)) 8)) 16 ((upd (upd (upd (upd (upd rI9 12 (1 : Int32)) 19 (1 : Int32)) 13 u1) 14 ((upd (upd (upd rI9 12 (1 : Int32)) 19 (1 : Int32)) 13 u1) 7)) 15 ((upd (upd (upd (upd rI9 12 (1 : Int32)) 19 (1 : Int32)) 13 u1) 14 ((upd (upd (upd rI9 12 (1 : Int32)) 19 (1 : Int32)) 13 u1) 7)) 8)) 9)) 17 ((upd (upd (upd (upd (upd (upd rI9 12 (1 : Int32)) 19 (1 : Int32)) 13 u1) 14 ((upd (upd (upd rI9 12 (1 : Int32)) 19 (1 : Int32)) 13 u1) 7)) 15 ((upd (upd (upd (upd rI9 12 (1 : Int32)) 19 (1 : Int32)) 13 u1) 14 ((upd (upd (upd rI9 12 (1 : Int32)) 19 (1 : Int32)) 13 u1) 7)) 8)) 16 ((upd (upd (upd (upd (upd rI9 12 (1 : Int32)) 19 (1 : Int32)) 13 u1) 14 ((upd (upd (upd rI9 12 (1 : Int32)) 19 (1 : Int32)) 13 u1) 7)) 15 ((upd (upd (upd (upd rI9 12 (1 : Int32)) 19 (1 : Int32)) 13 u1) 14 ((upd (upd (upd rI9 12 (1 : Int32)) 19 (1 : Int32)) 13 u1) 7)) 8)) 9)) 10)) 11)) rA9 rG] ++ gG cA K rR) := hD
    refine lv_iconst (v := (0 : Int32)) hx hb dX5_run_72 (by decide) ?_
    refine lv_istore_n (lv' := [(2, .int (0 : Int32)), (0, .ref (aR 0)), (1, .int u1)]) hx hb dX5_run_73 rfl hl (by decide) rfl (fun ls hl => ?_)
    exact b74  _ n _ _ _ _ _ h hP hD hS (lv_sub hl [1, 0] rfl)
  · replace h := og_pos c8 h
    refine lv_iconst (v := (-1 : Int32)) hx hb dX5_run_8 (by decide) ?_
    exact W.iret (v := (-1 : Int32)) hx hb hr (fun t ht hW => ⟨⟨(-1 : Int32), (rI, rA), rfl, ⟨(congrArg Prod.fst (og_inj h)).symm, (congrArg Prod.snd (og_inj h)).symm⟩, (by rw [ht]; exact hP), hD⟩, hS.F ht⟩) hS.2.2 dX5_run_9
set_option maxRecDepth 100000 in
set_option maxHeartbeats 8000000 in
theorem k_X5_ran (l : Launch) (D : va_G) (cA : Nat → ClassId) (aR : Nat → Nat) (K : List Nat) (sz : Nat) (u1 : Int32) (rI : Nat → Int32) (rA : Nat → Nat → Int32) (rG : Nat → Option Nat) (rR : Nat → Nat → Int32) (R : Int32 × Unit) (h : f_X5_ran K u1 rI rA = some R) : Met l yX5_ran (wsU yX5_ran cX5_ran 2 (some .int)) ({ frames := 0, cells := 0, slots := 0, locals := 0 }) (PcW D cA (wl [gR cA aR rI rA rG] ++ gG cA K rR) sz [.ref (aR 0), .int u1]) (QI D (fun _ : Unit => (wl [gR cA aR rI rA rG] ++ gG cA K rR)) R (va_A (wl [gR cA aR rI rA rG] ++ gG cA K rR) sz)) 0 0 (va_A (wl [gR cA aR rI rA rG] ++ gG cA K rR) sz) := by
  refine Met.ofW (cc := cX5_ran) (maxL := 2) (ret := (some .int)) (by decide) rfl ?_
  intro p e s m args below meth c s₁ B hml hv
  obtain ⟨rfl, hsz, hP, hK, hD0⟩ := hv
  have hx := B.exec
  have hb := B.bytes
  have hr := B.returns
  have hts := atoms_spec (ws := (wsU yX5_ran cX5_ran 2 (some .int))) B.pre
  have hT : ∀ w ∈ wsL_law, w.before ([.ref (aR 0), .int u1] : List Value).toArray s = true := fun w h => hts w (List.mem_cons_of_mem _ h)
  have hown : s.vm.findClass RX5 = some m.cls := findClass_of_methodNamed B.named
  have hlocks := B.notSynchronized
  have hN := hK.2
  subst hsz
  have hD := hD0.self (sz := s.heap.size)
  generalize hAe : va_A (wl [gR cA aR rI rA rG] ++ gG cA K rR) s.heap.size = A at hD ⊢
  have hA : ∀ q : Nat, s.heap.size ≤ q → A q := fun q h => by rw [← hAe]; exact Or.inr h
  have hS : va_S A s.heap s.heap [] := va_S.rf
  have hl := lv_entry ([.ref (aR 0), .int u1]) (n := 2) (Nat.le_of_ble_eq_true rfl)
  rw [lg_entry_eq]
  generalize (lg_sl ([.ref (aR 0), .int u1]) ++ List.replicate (2 - (lg_sl ([.ref (aR 0), .int u1])).length) Slot.unset).toArray = ls at hl ⊢
  have hl : lv_has ls 2 [(0, .ref (aR 0)), (1, .int u1)] := hl
  unfold f_X5_ran at h
  refine lv_aload_n hx hb dX5_ran_0 rfl (lv_at hl 0 rfl) ?_
  refine va_get (D := D) (C := RX5) (T := TX5) (N := 40) hx hb hT inlX5 hown hK.1 hP 0 rfl rfl 30 (by decide) (hT _ fl_RX5_116) (fun _ h9 => h9) rfl dX5_ran_1 ?_
  refine lv_if_ne (tgt := 9) hx hb dX5_ran_4 (by decide) (fun c1 => ?_) (fun c1 => ?_)
  · replace h := og_neg c1 h
    refine lv_iload_n hx hb dX5_ran_9 rfl (lv_at hl 1 rfl) ?_
    by_cases c5 : u1 = (0 : Int32)
    · replace h := og_pos c5 h
      refine gs_in (off := 38) (tgt := 48) 0 c5 hx hb dX5_ran_10 (by decide +kernel) (by decide) ?_
      refine lv_aload_n hx hb dX5_ran_48 rfl (lv_at hl 0 rfl) ?_
      refine va_get (D := D) (C := RX5) (T := TX5) (N := 40) hx hb hT inlX5 hown hK.1 hP 0 rfl rfl 32 (by decide) (hT _ fl_RX5_197) (fun _ h9 => h9) rfl dX5_ran_49 ?_
      exact W.iret (v := (rI 14)) hx hb hr (fun t ht hW => ⟨⟨(rI 14), (), rfl, ⟨(congrArg Prod.fst (og_inj h)).symm, (congrArg Prod.snd (og_inj h)).symm⟩, (by rw [ht]; exact hP), hD⟩, hS.F ht⟩) hS.2.2 dX5_ran_52
    replace h := og_neg c5 h
    by_cases c6 : u1 = (1 : Int32)
    · replace h := og_pos c6 h
      refine gs_in (off := 43) (tgt := 53) 1 c6 hx hb dX5_ran_10 (by decide +kernel) (by decide) ?_
      refine lv_aload_n hx hb dX5_ran_53 rfl (lv_at hl 0 rfl) ?_
      refine va_get (D := D) (C := RX5) (T := TX5) (N := 40) hx hb hT inlX5 hown hK.1 hP 0 rfl rfl 33 (by decide) (hT _ fl_RX5_200) (fun _ h9 => h9) rfl dX5_ran_54 ?_
      exact W.iret (v := (rI 15)) hx hb hr (fun t ht hW => ⟨⟨(rI 15), (), rfl, ⟨(congrArg Prod.fst (og_inj h)).symm, (congrArg Prod.snd (og_inj h)).symm⟩, (by rw [ht]; exact hP), hD⟩, hS.F ht⟩) hS.2.2 dX5_ran_57
    replace h := og_neg c6 h
    by_cases c7 : u1 = (2 : Int32)
    · replace h := og_pos c7 h
      refine gs_in (off := 48) (tgt := 58) 2 c7 hx hb dX5_ran_10 (by decide +kernel) (by decide) ?_
      refine lv_aload_n hx hb dX5_ran_58 rfl (lv_at hl 0 rfl) ?_
      refine va_get (D := D) (C := RX5) (T := TX5) (N := 40) hx hb hT inlX5 hown hK.1 hP 0 rfl rfl 34 (by decide) (hT _ fl_RX5_203) (fun _ h9 => h9) rfl dX5_ran_59 ?_
      exact W.iret (v := (rI 16)) hx hb hr (fun t ht hW => ⟨⟨(rI 16), (), rfl, ⟨(congrArg Prod.fst (og_inj h)).symm, (congrArg Prod.snd (og_inj h)).symm⟩, (by rw [ht]; exact hP), hD⟩, hS.F ht⟩) hS.2.2 dX5_ran_62
    replace h := og_neg c7 h
    by_cases c8 : u1 = (3 : Int32)
    · replace h := og_pos c8 h
      refine gs_in (off := 53) (tgt := 63) 3 c8 hx hb dX5_ran_10 (by decide +kernel) (by decide) ?_
      refine lv_aload_n hx hb dX5_ran_63 rfl (lv_at hl 0 rfl) ?_
      refine va_get (D := D) (C := RX5) (T := TX5) (N := 40) hx hb hT inlX5 hown hK.1 hP 0 rfl rfl 35 (by decide) (hT _ fl_RX5_206) (fun _ h9 => h9) rfl dX5_ran_64 ?_
      exact W.iret (v := (rI 17)) hx hb hr (fun t ht hW => ⟨⟨(rI 17), (), rfl, ⟨(congrArg Prod.fst (og_inj h)).symm, (congrArg Prod.snd (og_inj h)).symm⟩, (by rw [ht]; exact hP), hD⟩, hS.F ht⟩) hS.2.2 dX5_ran_67
    replace h := og_neg c8 h
    by_cases c9 : u1 = (4 : Int32)
    · replace h := og_pos c9 h
      refine gs_in (off := 58) (tgt := 68) 4 c9 hx hb dX5_ran_10 (by decide +kernel) (by decide) ?_
      refine lv_aload_n hx hb dX5_ran_68 rfl (lv_at hl 0 rfl) ?_
      refine va_get (D := D) (C := RX5) (T := TX5) (N := 40) hx hb hT inlX5 hown hK.1 hP 0 rfl rfl 36 (by decide) (hT _ fl_RX5_209) (fun _ h9 => h9) rfl dX5_ran_69 ?_
      exact W.iret (v := (rI 18)) hx hb hr (fun t ht hW => ⟨⟨(rI 18), (), rfl, ⟨(congrArg Prod.fst (og_inj h)).symm, (congrArg Prod.snd (og_inj h)).symm⟩, (by rw [ht]; exact hP), hD⟩, hS.F ht⟩) hS.2.2 dX5_ran_72
    replace h := og_neg c9 h
    by_cases c10 : u1 = (5 : Int32)
    · replace h := og_pos c10 h
      refine gs_in (off := 63) (tgt := 73) 5 c10 hx hb dX5_ran_10 (by decide +kernel) (by decide) ?_
      refine lv_aload_n hx hb dX5_ran_73 rfl (lv_at hl 0 rfl) ?_
      refine va_get (D := D) (C := RX5) (T := TX5) (N := 40) hx hb hT inlX5 hown hK.1 hP 0 rfl rfl 12 (by decide) (hT _ fl_RX5_29) (fun _ h9 => h9) rfl dX5_ran_74 ?_
      refine lv_if_lt (tgt := 99) hx hb dX5_ran_77 (by decide) (fun c2 => ?_) (fun c2 => ?_)
      · replace h := og_pos c2 h
        refine lv_iconst (v := (-1 : Int32)) hx hb dX5_ran_99 (by decide) ?_
        exact W.iret (v := (-1 : Int32)) hx hb hr (fun t ht hW => ⟨⟨(-1 : Int32), (), rfl, ⟨(congrArg Prod.fst (og_inj h)).symm, (congrArg Prod.snd (og_inj h)).symm⟩, (by rw [ht]; exact hP), hD⟩, hS.F ht⟩) hS.2.2 dX5_ran_100
      · replace h := og_neg c2 h
        refine lv_aload_n hx hb dX5_ran_80 rfl (lv_at hl 0 rfl) ?_
        refine va_get (D := D) (C := RX5) (T := TX5) (N := 40) hx hb hT inlX5 hown hK.1 hP 0 rfl rfl 39 (by decide) (hT _ fl_RX5_80) (fun _ h9 => h9) rfl dX5_ran_81 ?_
        refine lv_if_eq (tgt := 99) hx hb dX5_ran_84 (by decide) (fun c3 => ?_) (fun c3 => ?_)
        · replace h := og_pos c3 h
          refine lv_iconst (v := (-1 : Int32)) hx hb dX5_ran_99 (by decide) ?_
          exact W.iret (v := (-1 : Int32)) hx hb hr (fun t ht hW => ⟨⟨(-1 : Int32), (), rfl, ⟨(congrArg Prod.fst (og_inj h)).symm, (congrArg Prod.snd (og_inj h)).symm⟩, (by rw [ht]; exact hP), hD⟩, hS.F ht⟩) hS.2.2 dX5_ran_100
        · replace h := og_neg c3 h
          refine lv_aload_n hx hb dX5_ran_87 rfl (lv_at hl 0 rfl) ?_
          refine va_get (D := D) (C := RX5) (T := TX5) (N := 40) hx hb hT inlX5 hown hK.1 hP 0 rfl rfl 19 (by decide) (hT _ fl_RX5_53) (fun _ h9 => h9) rfl dX5_ran_88 ?_
          refine lv_aload_n hx hb dX5_ran_91 rfl (lv_at hl 0 rfl) ?_
          refine va_get (D := D) (C := RX5) (T := TX5) (N := 40) hx hb hT inlX5 hown hK.1 hP 0 rfl rfl 31 (by decide) (hT _ fl_RX5_194) (fun _ h9 => h9) rfl dX5_ran_92 ?_
          obtain ⟨g4, h⟩ := og_guard h
          refine va_iald hx hb hK.1 hP 13 0 rfl rfl (inb_vp g4) dX5_ran_95 ?_
          refine lv_goto (tgt := 100) hx hb dX5_ran_96 (by decide) ?_
          exact W.iret (v := (rA 11 (rI 13).toNatClampNeg)) hx hb hr (fun t ht hW => ⟨⟨(rA 11 (rI 13).toNatClampNeg), (), rfl, ⟨(congrArg Prod.fst (og_inj h)).symm, (congrArg Prod.snd (og_inj h)).symm⟩, (by rw [ht]; exact hP), hD⟩, hS.F ht⟩) hS.2.2 dX5_ran_100
    replace h := og_neg c10 h
    refine lv_tableOut (tgt := 101) hx hb dX5_ran_10 (gs_out 6 (by decide) (fun k9 hk9 => ?_)) (by decide) ?_
    · rcases (show k9 = 0 ∨ k9 = 1 ∨ k9 = 2 ∨ k9 = 3 ∨ k9 = 4 ∨ k9 = 5 by omega) with rfl | rfl | rfl | rfl | rfl | rfl
      · exact gs_ne c5 (by decide +kernel)
      · exact gs_ne c6 (by decide +kernel)
      · exact gs_ne c7 (by decide +kernel)
      · exact gs_ne c8 (by decide +kernel)
      · exact gs_ne c9 (by decide +kernel)
      · exact gs_ne c10 (by decide +kernel)
    refine lv_iconst (v := (-1 : Int32)) hx hb dX5_ran_101 (by decide) ?_
    exact W.iret (v := (-1 : Int32)) hx hb hr (fun t ht hW => ⟨⟨(-1 : Int32), (), rfl, ⟨(congrArg Prod.fst (og_inj h)).symm, (congrArg Prod.snd (og_inj h)).symm⟩, (by rw [ht]; exact hP), hD⟩, hS.F ht⟩) hS.2.2 dX5_ran_102
  · replace h := og_pos c1 h
    refine lv_iconst (v := (-1 : Int32)) hx hb dX5_ran_7 (by decide) ?_
    exact W.iret (v := (-1 : Int32)) hx hb hr (fun t ht hW => ⟨⟨(-1 : Int32), (), rfl, ⟨(congrArg Prod.fst (og_inj h)).symm, (congrArg Prod.snd (og_inj h)).symm⟩, (by rw [ht]; exact hP), hD⟩, hS.F ht⟩) hS.2.2 dX5_ran_8
set_option maxRecDepth 100000 in
set_option maxHeartbeats 8000000 in
theorem k_X5_register (l : Launch) (D : va_G) (cA : Nat → ClassId) (aR : Nat → Nat) (K : List Nat) (sz : Nat) (u1 : Int32) (rI : Nat → Int32) (rA : Nat → Nat → Int32) (rG : Nat → Option Nat) (rR : Nat → Nat → Int32) (R : Int32 × Unit) (h : f_X5_register K u1 rI rA = some R) : Met l yX5_register (wsU yX5_register cX5_register 2 (some .int)) ({ frames := 0, cells := 0, slots := 0, locals := 0 }) (PcW D cA (wl [gR cA aR rI rA rG] ++ gG cA K rR) sz [.ref (aR 0), .int u1]) (QI D (fun _ : Unit => (wl [gR cA aR rI rA rG] ++ gG cA K rR)) R (va_A (wl [gR cA aR rI rA rG] ++ gG cA K rR) sz)) 0 0 (va_A (wl [gR cA aR rI rA rG] ++ gG cA K rR) sz) := by
  refine Met.ofW (cc := cX5_register) (maxL := 2) (ret := (some .int)) (by decide) rfl ?_
  intro p e s m args below meth c s₁ B hml hv
  obtain ⟨rfl, hsz, hP, hK, hD0⟩ := hv
  have hx := B.exec
  have hb := B.bytes
  have hr := B.returns
  have hts := atoms_spec (ws := (wsU yX5_register cX5_register 2 (some .int))) B.pre
  have hT : ∀ w ∈ wsL_law, w.before ([.ref (aR 0), .int u1] : List Value).toArray s = true := fun w h => hts w (List.mem_cons_of_mem _ h)
  have hown : s.vm.findClass RX5 = some m.cls := findClass_of_methodNamed B.named
  have hlocks := B.notSynchronized
  have hN := hK.2
  subst hsz
  have hD := hD0.self (sz := s.heap.size)
  generalize hAe : va_A (wl [gR cA aR rI rA rG] ++ gG cA K rR) s.heap.size = A at hD ⊢
  have hA : ∀ q : Nat, s.heap.size ≤ q → A q := fun q h => by rw [← hAe]; exact Or.inr h
  have hS : va_S A s.heap s.heap [] := va_S.rf
  have hl := lv_entry ([.ref (aR 0), .int u1]) (n := 2) (Nat.le_of_ble_eq_true rfl)
  rw [lg_entry_eq]
  generalize (lg_sl ([.ref (aR 0), .int u1]) ++ List.replicate (2 - (lg_sl ([.ref (aR 0), .int u1])).length) Slot.unset).toArray = ls at hl ⊢
  have hl : lv_has ls 2 [(0, .ref (aR 0)), (1, .int u1)] := hl
  unfold f_X5_register at h
  refine lv_aload_n hx hb dX5_register_0 rfl (lv_at hl 0 rfl) ?_
  refine va_get (D := D) (C := RX5) (T := TX5) (N := 40) hx hb hT inlX5 hown hK.1 hP 0 rfl rfl 30 (by decide) (hT _ fl_RX5_116) (fun _ h9 => h9) rfl dX5_register_1 ?_
  refine lv_if_eq (tgt := 26) hx hb dX5_register_4 (by decide) (fun c1 => ?_) (fun c1 => ?_)
  · replace h := og_pos c1 h
    refine lv_iconst (v := (0 : Int32)) hx hb dX5_register_26 (by decide) ?_
    exact W.iret (v := (0 : Int32)) hx hb hr (fun t ht hW => ⟨⟨(0 : Int32), (), rfl, ⟨(congrArg Prod.fst (og_inj h)).symm, (congrArg Prod.snd (og_inj h)).symm⟩, (by rw [ht]; exact hP), hD⟩, hS.F ht⟩) hS.2.2 dX5_register_27
  · replace h := og_neg c1 h
    refine lv_iload_n hx hb dX5_register_7 rfl (lv_at hl 1 rfl) ?_
    refine lv_if_lt (tgt := 26) hx hb dX5_register_8 (by decide) (fun c2 => ?_) (fun c2 => ?_)
    · replace h := og_pos c2 h
      refine lv_iconst (v := (0 : Int32)) hx hb dX5_register_26 (by decide) ?_
      exact W.iret (v := (0 : Int32)) hx hb hr (fun t ht hW => ⟨⟨(0 : Int32), (), rfl, ⟨(congrArg Prod.fst (og_inj h)).symm, (congrArg Prod.snd (og_inj h)).symm⟩, (by rw [ht]; exact hP), hD⟩, hS.F ht⟩) hS.2.2 dX5_register_27
    · replace h := og_neg c2 h
      refine lv_iload_n hx hb dX5_register_11 rfl (lv_at hl 1 rfl) ?_
      refine lv_bipush (v := (16 : Int32)) hx hb dX5_register_12 (by decide) ?_
      refine lv_icmp_ge (tgt := 26) hx hb dX5_register_14 (by decide) (fun c3 => ?_) (fun c3 => ?_)
      · replace h := og_pos c3 h
        refine lv_iconst (v := (0 : Int32)) hx hb dX5_register_26 (by decide) ?_
        exact W.iret (v := (0 : Int32)) hx hb hr (fun t ht hW => ⟨⟨(0 : Int32), (), rfl, ⟨(congrArg Prod.fst (og_inj h)).symm, (congrArg Prod.snd (og_inj h)).symm⟩, (by rw [ht]; exact hP), hD⟩, hS.F ht⟩) hS.2.2 dX5_register_27
      · replace h := og_neg c3 h
        refine lv_aload_n hx hb dX5_register_17 rfl (lv_at hl 0 rfl) ?_
        refine va_get (D := D) (C := RX5) (T := TX5) (N := 40) hx hb hT inlX5 hown hK.1 hP 0 rfl rfl 37 (by decide) (hT _ fl_RX5_71) (fun _ h9 => h9) rfl dX5_register_18 ?_
        refine lv_iload_n hx hb dX5_register_21 rfl (lv_at hl 1 rfl) ?_
        obtain ⟨g4, h⟩ := og_guard h
        refine va_iald hx hb hK.1 hP 19 0 rfl rfl (inb_vp g4) dX5_register_22 ?_
        refine lv_goto (tgt := 27) hx hb dX5_register_23 (by decide) ?_
        exact W.iret (v := (rA 17 u1.toNatClampNeg)) hx hb hr (fun t ht hW => ⟨⟨(rA 17 u1.toNatClampNeg), (), rfl, ⟨(congrArg Prod.fst (og_inj h)).symm, (congrArg Prod.snd (og_inj h)).symm⟩, (by rw [ht]; exact hP), hD⟩, hS.F ht⟩) hS.2.2 dX5_register_27
set_option maxRecDepth 100000 in
set_option maxHeartbeats 8000000 in
theorem k_X5_cell (l : Launch) (D : va_G) (cA : Nat → ClassId) (aR : Nat → Nat) (K : List Nat) (sz : Nat) (u1 : Int32) (rI : Nat → Int32) (rA : Nat → Nat → Int32) (rG : Nat → Option Nat) (rR : Nat → Nat → Int32) (R : Int32 × Unit) (h : f_X5_cell K u1 rI rA = some R) : Met l yX5_cell (wsU yX5_cell cX5_cell 2 (some .int)) ({ frames := 0, cells := 0, slots := 0, locals := 0 }) (PcW D cA (wl [gR cA aR rI rA rG] ++ gG cA K rR) sz [.ref (aR 0), .int u1]) (QI D (fun _ : Unit => (wl [gR cA aR rI rA rG] ++ gG cA K rR)) R (va_A (wl [gR cA aR rI rA rG] ++ gG cA K rR) sz)) 0 0 (va_A (wl [gR cA aR rI rA rG] ++ gG cA K rR) sz) := by
  refine Met.ofW (cc := cX5_cell) (maxL := 2) (ret := (some .int)) (by decide) rfl ?_
  intro p e s m args below meth c s₁ B hml hv
  obtain ⟨rfl, hsz, hP, hK, hD0⟩ := hv
  have hx := B.exec
  have hb := B.bytes
  have hr := B.returns
  have hts := atoms_spec (ws := (wsU yX5_cell cX5_cell 2 (some .int))) B.pre
  have hT : ∀ w ∈ wsL_law, w.before ([.ref (aR 0), .int u1] : List Value).toArray s = true := fun w h => hts w (List.mem_cons_of_mem _ h)
  have hown : s.vm.findClass RX5 = some m.cls := findClass_of_methodNamed B.named
  have hlocks := B.notSynchronized
  have hN := hK.2
  subst hsz
  have hD := hD0.self (sz := s.heap.size)
  generalize hAe : va_A (wl [gR cA aR rI rA rG] ++ gG cA K rR) s.heap.size = A at hD ⊢
  have hA : ∀ q : Nat, s.heap.size ≤ q → A q := fun q h => by rw [← hAe]; exact Or.inr h
  have hS : va_S A s.heap s.heap [] := va_S.rf
  have hl := lv_entry ([.ref (aR 0), .int u1]) (n := 2) (Nat.le_of_ble_eq_true rfl)
  rw [lg_entry_eq]
  generalize (lg_sl ([.ref (aR 0), .int u1]) ++ List.replicate (2 - (lg_sl ([.ref (aR 0), .int u1])).length) Slot.unset).toArray = ls at hl ⊢
  have hl : lv_has ls 2 [(0, .ref (aR 0)), (1, .int u1)] := hl
  unfold f_X5_cell at h
  refine lv_aload_n hx hb dX5_cell_0 rfl (lv_at hl 0 rfl) ?_
  refine va_get (D := D) (C := RX5) (T := TX5) (N := 40) hx hb hT inlX5 hown hK.1 hP 0 rfl rfl 30 (by decide) (hT _ fl_RX5_116) (fun _ h9 => h9) rfl dX5_cell_1 ?_
  refine lv_if_eq (tgt := 26) hx hb dX5_cell_4 (by decide) (fun c1 => ?_) (fun c1 => ?_)
  · replace h := og_pos c1 h
    refine lv_iconst (v := (0 : Int32)) hx hb dX5_cell_26 (by decide) ?_
    exact W.iret (v := (0 : Int32)) hx hb hr (fun t ht hW => ⟨⟨(0 : Int32), (), rfl, ⟨(congrArg Prod.fst (og_inj h)).symm, (congrArg Prod.snd (og_inj h)).symm⟩, (by rw [ht]; exact hP), hD⟩, hS.F ht⟩) hS.2.2 dX5_cell_27
  · replace h := og_neg c1 h
    refine lv_iload_n hx hb dX5_cell_7 rfl (lv_at hl 1 rfl) ?_
    refine lv_if_lt (tgt := 26) hx hb dX5_cell_8 (by decide) (fun c2 => ?_) (fun c2 => ?_)
    · replace h := og_pos c2 h
      refine lv_iconst (v := (0 : Int32)) hx hb dX5_cell_26 (by decide) ?_
      exact W.iret (v := (0 : Int32)) hx hb hr (fun t ht hW => ⟨⟨(0 : Int32), (), rfl, ⟨(congrArg Prod.fst (og_inj h)).symm, (congrArg Prod.snd (og_inj h)).symm⟩, (by rw [ht]; exact hP), hD⟩, hS.F ht⟩) hS.2.2 dX5_cell_27
    · replace h := og_neg c2 h
      refine lv_iload_n hx hb dX5_cell_11 rfl (lv_at hl 1 rfl) ?_
      refine lv_bipush (v := (8 : Int32)) hx hb dX5_cell_12 (by decide) ?_
      refine lv_icmp_ge (tgt := 26) hx hb dX5_cell_14 (by decide) (fun c3 => ?_) (fun c3 => ?_)
      · replace h := og_pos c3 h
        refine lv_iconst (v := (0 : Int32)) hx hb dX5_cell_26 (by decide) ?_
        exact W.iret (v := (0 : Int32)) hx hb hr (fun t ht hW => ⟨⟨(0 : Int32), (), rfl, ⟨(congrArg Prod.fst (og_inj h)).symm, (congrArg Prod.snd (og_inj h)).symm⟩, (by rw [ht]; exact hP), hD⟩, hS.F ht⟩) hS.2.2 dX5_cell_27
      · replace h := og_neg c3 h
        refine lv_aload_n hx hb dX5_cell_17 rfl (lv_at hl 0 rfl) ?_
        refine va_get (D := D) (C := RX5) (T := TX5) (N := 40) hx hb hT inlX5 hown hK.1 hP 0 rfl rfl 38 (by decide) (hT _ fl_RX5_74) (fun _ h9 => h9) rfl dX5_cell_18 ?_
        refine lv_iload_n hx hb dX5_cell_21 rfl (lv_at hl 1 rfl) ?_
        obtain ⟨g4, h⟩ := og_guard h
        refine va_iald hx hb hK.1 hP 20 0 rfl rfl (inb_vp g4) dX5_cell_22 ?_
        refine lv_goto (tgt := 27) hx hb dX5_cell_23 (by decide) ?_
        exact W.iret (v := (rA 18 u1.toNatClampNeg)) hx hb hr (fun t ht hW => ⟨⟨(rA 18 u1.toNatClampNeg), (), rfl, ⟨(congrArg Prod.fst (og_inj h)).symm, (congrArg Prod.snd (og_inj h)).symm⟩, (by rw [ht]; exact hP), hD⟩, hS.F ht⟩) hS.2.2 dX5_cell_27
set_option maxRecDepth 100000 in
set_option maxHeartbeats 8000000 in
theorem k_X5_failing (l : Launch) (D : va_G) (cA : Nat → ClassId) (aR : Nat → Nat) (K : List Nat) (sz : Nat) (n : Nat) (u1 : Int32) (u2 : Int32) (rI : Nat → Int32) (rA : Nat → Nat → Int32) (rG : Nat → Option Nat) (rR : Nat → Nat → Int32) (R : Int32 × Unit) (h : f_X5_failing n K u1 u2 rI rA = some R) : Met l yX5_failing (wsU yX5_failing cX5_failing 5 (some .int)) ({ frames := 0, cells := 0, slots := 0, locals := 0 }) (PcW D cA (wl [gR cA aR rI rA rG] ++ gG cA K rR) sz [.ref (aR 0), .int u1, .int u2]) (QI D (fun _ : Unit => (wl [gR cA aR rI rA rG] ++ gG cA K rR)) R (va_A (wl [gR cA aR rI rA rG] ++ gG cA K rR) sz)) 0 0 (va_A (wl [gR cA aR rI rA rG] ++ gG cA K rR) sz) := by
  refine Met.ofW (cc := cX5_failing) (maxL := 5) (ret := (some .int)) (by decide) rfl ?_
  intro p e s m args below meth c s₁ B hml hv
  obtain ⟨rfl, hsz, hP, hK, hD0⟩ := hv
  have hx := B.exec
  have hb := B.bytes
  have hr := B.returns
  have hts := atoms_spec (ws := (wsU yX5_failing cX5_failing 5 (some .int))) B.pre
  have hT : ∀ w ∈ wsL_law, w.before ([.ref (aR 0), .int u1, .int u2] : List Value).toArray s = true := fun w h => hts w (List.mem_cons_of_mem _ h)
  have hown : s.vm.findClass RX5 = some m.cls := findClass_of_methodNamed B.named
  have hlocks := B.notSynchronized
  have hN := hK.2
  subst hsz
  have hD := hD0.self (sz := s.heap.size)
  generalize hAe : va_A (wl [gR cA aR rI rA rG] ++ gG cA K rR) s.heap.size = A at hD ⊢
  have hA : ∀ q : Nat, s.heap.size ≤ q → A q := fun q h => by rw [← hAe]; exact Or.inr h
  have hS : va_S A s.heap s.heap [] := va_S.rf
  have hl := lv_entry ([.ref (aR 0), .int u1, .int u2]) (n := 5) (Nat.le_of_ble_eq_true rfl)
  rw [lg_entry_eq]
  generalize (lg_sl ([.ref (aR 0), .int u1, .int u2]) ++ List.replicate (5 - (lg_sl ([.ref (aR 0), .int u1, .int u2])).length) Slot.unset).toArray = ls at hl ⊢
  have hl : lv_has ls 5 [(0, .ref (aR 0)), (1, .int u1), (2, .int u2)] := hl
  have b60 : ∀ (x1 : Int32) (x2 : Int32) (rc5 : (Int32 × Int32) → Option (Int32 × Unit)) (hr5 : ∀ (x3 : Int32) (x4 : Int32) (H : Heap) (locs : List Loc) (ls : Array Slot), rc5 (x3, x4) = some R → va_P D vwCl (wl [gR cA aR rI rA rG] ++ gG cA K rR) H → va_D A (wl [gR cA aR rI rA rG] ++ gG cA K rR) → va_S A s.heap H locs → lv_has ls 5 [(0, .ref (aR 0)), (1, .int x1), (2, .int x2), (3, .int x3), (4, .int x4)] → W p l e (headSpec (wsU yX5_failing cX5_failing 5 (some .int)) ({ frames := 0, cells := 0, slots := 0, locals := 0 })).room s m ([.ref (aR 0), .int u1, .int u2] : List Value).toArray below meth c H locs 0 0 (MQ below (QI D (fun _ : Unit => (wl [gR cA aR rI rA rG] ++ gG cA K rR)) R A) ([.ref (aR 0), .int u1, .int u2] : List Value).toArray s 0 0 A) (F0 m 5 ls [])) (x3 : Int32) (x4 : Int32) (H : Heap) (locs : List Loc) (ls : Array Slot), f_X5_failing_b60 n K rc5 x1 x2 x3 x4 rI rA = some R → va_P D vwCl (wl [gR cA aR rI rA rG] ++ gG cA K rR) H → va_D A (wl [gR cA aR rI rA rG] ++ gG cA K rR) → va_S A s.heap H locs → lv_has ls 5 [(0, .ref (aR 0)), (1, .int x1), (2, .int x2), (3, .int x3), (4, .int x4)] → W p l e (headSpec (wsU yX5_failing cX5_failing 5 (some .int)) ({ frames := 0, cells := 0, slots := 0, locals := 0 })).room s m ([.ref (aR 0), .int u1, .int u2] : List Value).toArray below meth c H locs 0 0 (MQ below (QI D (fun _ : Unit => (wl [gR cA aR rI rA rG] ++ gG cA K rR)) R A) ([.ref (aR 0), .int u1, .int u2] : List Value).toArray s 0 0 A) (F0 m 60 ls []) := by
    intro x1 x2 rc5 hr5 x3 x4 H locs ls h hP hD hS hl
    unfold f_X5_failing_b60 at h
    refine lv_iinc (v := (x4 + 1)) (lv' := [(4, .int (x4 + 1)), (0, .ref (aR 0)), (1, .int x1), (2, .int x2), (3, .int x3)]) hx hb dX5_failing_60 hl (k := 4) rfl rfl (by decide) rfl (fun ls hl => ?_)
    refine lv_goto (tgt := 5) hx hb dX5_failing_63 (by decide) ?_
    exact hr5 _ _ _ _ _ h hP hD hS (lv_sub hl [1, 2, 3, 4, 0] rfl)
  have b52 : ∀ (x1 : Int32) (x2 : Int32) (rc5 : (Int32 × Int32) → Option (Int32 × Unit)) (hr5 : ∀ (x3 : Int32) (x4 : Int32) (H : Heap) (locs : List Loc) (ls : Array Slot), rc5 (x3, x4) = some R → va_P D vwCl (wl [gR cA aR rI rA rG] ++ gG cA K rR) H → va_D A (wl [gR cA aR rI rA rG] ++ gG cA K rR) → va_S A s.heap H locs → lv_has ls 5 [(0, .ref (aR 0)), (1, .int x1), (2, .int x2), (3, .int x3), (4, .int x4)] → W p l e (headSpec (wsU yX5_failing cX5_failing 5 (some .int)) ({ frames := 0, cells := 0, slots := 0, locals := 0 })).room s m ([.ref (aR 0), .int u1, .int u2] : List Value).toArray below meth c H locs 0 0 (MQ below (QI D (fun _ : Unit => (wl [gR cA aR rI rA rG] ++ gG cA K rR)) R A) ([.ref (aR 0), .int u1, .int u2] : List Value).toArray s 0 0 A) (F0 m 5 ls [])) (x4 : Int32) (H : Heap) (locs : List Loc) (ls : Array Slot), f_X5_failing_b52 n K rc5 x1 x2 x4 rI rA = some R → va_P D vwCl (wl [gR cA aR rI rA rG] ++ gG cA K rR) H → va_D A (wl [gR cA aR rI rA rG] ++ gG cA K rR) → va_S A s.heap H locs → lv_has ls 5 [(0, .ref (aR 0)), (1, .int x1), (2, .int x2), (4, .int x4)] → W p l e (headSpec (wsU yX5_failing cX5_failing 5 (some .int)) ({ frames := 0, cells := 0, slots := 0, locals := 0 })).room s m ([.ref (aR 0), .int u1, .int u2] : List Value).toArray below meth c H locs 0 0 (MQ below (QI D (fun _ : Unit => (wl [gR cA aR rI rA rG] ++ gG cA K rR)) R A) ([.ref (aR 0), .int u1, .int u2] : List Value).toArray s 0 0 A) (F0 m 52 ls []) := by
    intro x1 x2 rc5 hr5 x4 H locs ls h hP hD hS hl
    unfold f_X5_failing_b52 at h
    refine lv_aload_n hx hb dX5_failing_52 rfl (lv_at hl 0 rfl) ?_
    refine va_get (D := D) (C := RX5) (T := TX5) (N := 40) hx hb hT inlX5 hown hK.1 hP 0 rfl rfl 16 (by decide) (hT _ fl_RX5_42) (fun _ h9 => h9) rfl dX5_failing_53 ?_
    refine lv_iload hx hb dX5_failing_56 (lv_at hl 3 rfl) ?_
    obtain ⟨g1, h⟩ := og_guard h
    refine va_iald hx hb hK.1 hP 10 0 rfl rfl (inb_vp g1) dX5_failing_58 ?_
    refine lv_istore_n (lv' := [(3, .int (rA 9 x4.toNatClampNeg)), (0, .ref (aR 0)), (1, .int x1), (2, .int x2), (4, .int x4)]) hx hb dX5_failing_59 rfl hl (by decide) rfl (fun ls hl => ?_)
    exact b60 _ _ _ hr5 _ _ _ _ _ h hP hD hS (lv_sub hl [1, 2, 3, 0, 4] rfl)
  have b5 : ∀ (x1 : Int32) (x2 : Int32) (nn : Nat), ∀ (x3 : Int32) (x4 : Int32) (H : Heap) (locs : List Loc) (ls : Array Slot), lp (f_X5_failing_l5 n K x1 x2 rI rA) nn (x3, x4) = some R → va_P D vwCl (wl [gR cA aR rI rA rG] ++ gG cA K rR) H → va_D A (wl [gR cA aR rI rA rG] ++ gG cA K rR) → va_S A s.heap H locs → lv_has ls 5 [(0, .ref (aR 0)), (1, .int x1), (2, .int x2), (3, .int x3), (4, .int x4)] → W p l e (headSpec (wsU yX5_failing cX5_failing 5 (some .int)) ({ frames := 0, cells := 0, slots := 0, locals := 0 })).room s m ([.ref (aR 0), .int u1, .int u2] : List Value).toArray below meth c H locs 0 0 (MQ below (QI D (fun _ : Unit => (wl [gR cA aR rI rA rG] ++ gG cA K rR)) R A) ([.ref (aR 0), .int u1, .int u2] : List Value).toArray s 0 0 A) (F0 m 5 ls []) := by
    intro x1 x2 nn
    induction nn with
    | zero =>
      intro x3 x4 H locs ls h hP hD hS hl
      exact (lp_zero h).elim
    | succ nn hr5 =>
      intro x3 x4 H locs ls h hP hD hS hl
      rw [lp_succ] at h
      unfold f_X5_failing_l5 at h
      try dsimp only at h
      refine lv_iload hx hb dX5_failing_5 (lv_at hl 4 rfl) ?_
      refine lv_aload_n hx hb dX5_failing_7 rfl (lv_at hl 0 rfl) ?_
      refine va_get (D := D) (C := RX5) (T := TX5) (N := 40) hx hb hT inlX5 hown hK.1 hP 0 rfl rfl 12 (by decide) (hT _ fl_RX5_29) (fun _ h9 => h9) rfl dX5_failing_8 ?_
      refine lv_icmp_ge (tgt := 66) hx hb dX5_failing_11 (by decide) (fun c2 => ?_) (fun c2 => ?_)
      · replace h := og_pos c2 h
        refine lv_iload_n hx hb dX5_failing_66 rfl (lv_at hl 3 rfl) ?_
        exact W.iret (v := x3) hx hb hr (fun t ht hW => ⟨⟨x3, (), rfl, ⟨(congrArg Prod.fst (og_inj h)).symm, (congrArg Prod.snd (og_inj h)).symm⟩, (by rw [ht]; exact hP), hD⟩, hS.F ht⟩) hS.2.2 dX5_failing_67
      · replace h := og_neg c2 h
        refine lv_aload_n hx hb dX5_failing_14 rfl (lv_at hl 0 rfl) ?_
        refine va_get (D := D) (C := RX5) (T := TX5) (N := 40) hx hb hT inlX5 hown hK.1 hP 0 rfl rfl 13 (by decide) (hT _ fl_RX5_33) (fun _ h9 => h9) rfl dX5_failing_15 ?_
        refine lv_iload hx hb dX5_failing_18 (lv_at hl 4 rfl) ?_
        obtain ⟨g3, h⟩ := og_guard h
        refine va_iald hx hb hK.1 hP 7 0 rfl rfl (inb_vp g3) dX5_failing_20 ?_
        refine lv_iload_n hx hb dX5_failing_21 rfl (lv_at hl 1 rfl) ?_
        refine lv_icmp_ne (tgt := 60) hx hb dX5_failing_22 (by decide) (fun c4 => ?_) (fun c4 => ?_)
        · replace h := og_neg c4 h
          exact b60 _ _ _ hr5 _ _ _ _ _ h hP hD hS (lv_sub hl [0, 1, 2, 3, 4] rfl)
        · replace h := og_pos c4 h
          refine lv_aload_n hx hb dX5_failing_25 rfl (lv_at hl 0 rfl) ?_
          refine va_get (D := D) (C := RX5) (T := TX5) (N := 40) hx hb hT inlX5 hown hK.1 hP 0 rfl rfl 14 (by decide) (hT _ fl_RX5_36) (fun _ h9 => h9) rfl dX5_failing_26 ?_
          refine lv_iload hx hb dX5_failing_29 (lv_at hl 4 rfl) ?_
          obtain ⟨g5, h⟩ := og_guard h
          refine va_iald hx hb hK.1 hP 8 0 rfl rfl (inb_vp g5) dX5_failing_31 ?_
          refine lv_iload_n hx hb dX5_failing_32 rfl (lv_at hl 2 rfl) ?_
          refine lv_icmp_ne (tgt := 60) hx hb dX5_failing_33 (by decide) (fun c6 => ?_) (fun c6 => ?_)
          · replace h := og_neg c6 h
            exact b60 _ _ _ hr5 _ _ _ _ _ h hP hD hS (lv_sub hl [0, 1, 2, 3, 4] rfl)
          · replace h := og_pos c6 h
            refine lv_iload_n hx hb dX5_failing_36 rfl (lv_at hl 3 rfl) ?_
            refine lv_iconst (v := (-1 : Int32)) hx hb dX5_failing_37 (by decide) ?_
            refine lv_icmp_eq (tgt := 52) hx hb dX5_failing_38 (by decide) (fun c7 => ?_) (fun c7 => ?_)
            · replace h := og_pos c7 h
              exact b52 _ _ _ hr5 _ _ _ _ h hP hD hS (lv_sub hl [0, 1, 2, 4] rfl)
            · replace h := og_neg c7 h
              refine lv_aload_n hx hb dX5_failing_41 rfl (lv_at hl 0 rfl) ?_
              refine va_get (D := D) (C := RX5) (T := TX5) (N := 40) hx hb hT inlX5 hown hK.1 hP 0 rfl rfl 16 (by decide) (hT _ fl_RX5_42) (fun _ h9 => h9) rfl dX5_failing_42 ?_
              refine lv_iload hx hb dX5_failing_45 (lv_at hl 4 rfl) ?_
              obtain ⟨g8, h⟩ := og_guard h
              refine va_iald hx hb hK.1 hP 10 0 rfl rfl (inb_vp g8) dX5_failing_47 ?_
              refine lv_iload_n hx hb dX5_failing_48 rfl (lv_at hl 3 rfl) ?_
              refine lv_icmp_ge (tgt := 60) hx hb dX5_failing_49 (by decide) (fun c9 => ?_) (fun c9 => ?_)
              · replace h := og_pos c9 h
                exact b60 _ _ _ hr5 _ _ _ _ _ h hP hD hS (lv_sub hl [0, 1, 2, 3, 4] rfl)
              · replace h := og_neg c9 h
                exact b52 _ _ _ hr5 _ _ _ _ h hP hD hS (lv_sub hl [0, 1, 2, 4] rfl)
  unfold f_X5_failing at h
  refine lv_iconst (v := (-1 : Int32)) hx hb dX5_failing_0 (by decide) ?_
  refine lv_istore_n (lv' := [(3, .int (-1 : Int32)), (0, .ref (aR 0)), (1, .int u1), (2, .int u2)]) hx hb dX5_failing_1 rfl hl (by decide) rfl (fun ls hl => ?_)
  refine lv_iconst (v := (0 : Int32)) hx hb dX5_failing_2 (by decide) ?_
  refine lv_istore (lv' := [(4, .int (0 : Int32)), (3, .int (-1 : Int32)), (0, .ref (aR 0)), (1, .int u1), (2, .int u2)]) hx hb dX5_failing_3 hl (by decide) rfl (fun ls hl => ?_)
  exact b5  _ _ n _ _ _ _ _ h hP hD hS (lv_sub hl [2, 3, 4, 1, 0] rfl)
set_option maxRecDepth 100000 in
set_option maxHeartbeats 8000000 in
theorem k_X5_failures (l : Launch) (D : va_G) (cA : Nat → ClassId) (aR : Nat → Nat) (K : List Nat) (sz : Nat) (n : Nat) (rI : Nat → Int32) (rA : Nat → Nat → Int32) (rG : Nat → Option Nat) (rR : Nat → Nat → Int32) (R : Int32 × Unit) (h : f_X5_failures n K rI rA = some R) : Met l yX5_failures (wsU yX5_failures cX5_failures 4 (some .int)) ({ frames := 1, cells := 0, slots := 0, locals := 24 }) (PcW D cA (wl [gR cA aR rI rA rG] ++ gG cA K rR) sz [.ref (aR 0)]) (QI D (fun _ : Unit => (wl [gR cA aR rI rA rG] ++ gG cA K rR)) R (va_A (wl [gR cA aR rI rA rG] ++ gG cA K rR) sz)) 0 0 (va_A (wl [gR cA aR rI rA rG] ++ gG cA K rR) sz) := by
  refine Met.ofW (cc := cX5_failures) (maxL := 4) (ret := (some .int)) (by decide) rfl ?_
  intro p e s m args below meth c s₁ B hml hv
  obtain ⟨rfl, hsz, hP, hK, hD0⟩ := hv
  have hx := B.exec
  have hb := B.bytes
  have hr := B.returns
  have hts := atoms_spec (ws := (wsU yX5_failures cX5_failures 4 (some .int))) B.pre
  have hT : ∀ w ∈ wsL_law, w.before ([.ref (aR 0)] : List Value).toArray s = true := fun w h => hts w (List.mem_cons_of_mem _ h)
  have hown : s.vm.findClass RX5 = some m.cls := findClass_of_methodNamed B.named
  have hlocks := B.notSynchronized
  have hN := hK.2
  subst hsz
  have hD := hD0.self (sz := s.heap.size)
  generalize hAe : va_A (wl [gR cA aR rI rA rG] ++ gG cA K rR) s.heap.size = A at hD ⊢
  have hA : ∀ q : Nat, s.heap.size ≤ q → A q := fun q h => by rw [← hAe]; exact Or.inr h
  have hS : va_S A s.heap s.heap [] := va_S.rf
  have hl := lv_entry ([.ref (aR 0)]) (n := 4) (Nat.le_of_ble_eq_true rfl)
  rw [lg_entry_eq]
  generalize (lg_sl ([.ref (aR 0)]) ++ List.replicate (4 - (lg_sl ([.ref (aR 0)])).length) Slot.unset).toArray = ls at hl ⊢
  have hl : lv_has ls 4 [(0, .ref (aR 0))] := hl
  have b43 : ∀ (rc4 : (Int32 × Int32) → Option (Int32 × Unit)) (hr4 : ∀ (x1 : Int32) (x2 : Int32) (H : Heap) (locs : List Loc) (ls : Array Slot), rc4 (x1, x2) = some R → va_P D vwCl (wl [gR cA aR rI rA rG] ++ gG cA K rR) H → va_D A (wl [gR cA aR rI rA rG] ++ gG cA K rR) → va_S A s.heap H locs → lv_has ls 4 [(0, .ref (aR 0)), (1, .int x1), (2, .int x2)] → W p l e (headSpec (wsU yX5_failures cX5_failures 4 (some .int)) ({ frames := 1, cells := 0, slots := 0, locals := 24 })).room s m ([.ref (aR 0)] : List Value).toArray below meth c H locs 0 0 (MQ below (QI D (fun _ : Unit => (wl [gR cA aR rI rA rG] ++ gG cA K rR)) R A) ([.ref (aR 0)] : List Value).toArray s 0 0 A) (F0 m 4 ls [])) (x1 : Int32) (x2 : Int32) (H : Heap) (locs : List Loc) (ls : Array Slot), f_X5_failures_b43 n K rc4 x1 x2 rI rA = some R → va_P D vwCl (wl [gR cA aR rI rA rG] ++ gG cA K rR) H → va_D A (wl [gR cA aR rI rA rG] ++ gG cA K rR) → va_S A s.heap H locs → lv_has ls 4 [(0, .ref (aR 0)), (1, .int x1), (2, .int x2)] → W p l e (headSpec (wsU yX5_failures cX5_failures 4 (some .int)) ({ frames := 1, cells := 0, slots := 0, locals := 24 })).room s m ([.ref (aR 0)] : List Value).toArray below meth c H locs 0 0 (MQ below (QI D (fun _ : Unit => (wl [gR cA aR rI rA rG] ++ gG cA K rR)) R A) ([.ref (aR 0)] : List Value).toArray s 0 0 A) (F0 m 43 ls []) := by
    intro rc4 hr4 x1 x2 H locs ls h hP hD hS hl
    unfold f_X5_failures_b43 at h
    refine lv_iinc (v := (x2 + 1)) (lv' := [(2, .int (x2 + 1)), (0, .ref (aR 0)), (1, .int x1)]) hx hb dX5_failures_43 hl (k := 2) rfl rfl (by decide) rfl (fun ls hl => ?_)
    refine lv_goto (tgt := 4) hx hb dX5_failures_46 (by decide) ?_
    exact hr4 _ _ _ _ _ h hP hD hS (lv_sub hl [1, 2, 0] rfl)
  have b35 : ∀ (x2 : Int32) (rc4 : (Int32 × Int32) → Option (Int32 × Unit)) (hr4 : ∀ (x1 : Int32) (x2 : Int32) (H : Heap) (locs : List Loc) (ls : Array Slot), rc4 (x1, x2) = some R → va_P D vwCl (wl [gR cA aR rI rA rG] ++ gG cA K rR) H → va_D A (wl [gR cA aR rI rA rG] ++ gG cA K rR) → va_S A s.heap H locs → lv_has ls 4 [(0, .ref (aR 0)), (1, .int x1), (2, .int x2)] → W p l e (headSpec (wsU yX5_failures cX5_failures 4 (some .int)) ({ frames := 1, cells := 0, slots := 0, locals := 24 })).room s m ([.ref (aR 0)] : List Value).toArray below meth c H locs 0 0 (MQ below (QI D (fun _ : Unit => (wl [gR cA aR rI rA rG] ++ gG cA K rR)) R A) ([.ref (aR 0)] : List Value).toArray s 0 0 A) (F0 m 4 ls [])) (rc14 : (Int32 × Int32) → Option (Int32 × Unit)) (hr14 : ∀ (x1 : Int32) (x3 : Int32) (H : Heap) (locs : List Loc) (ls : Array Slot), rc14 (x1, x3) = some R → va_P D vwCl (wl [gR cA aR rI rA rG] ++ gG cA K rR) H → va_D A (wl [gR cA aR rI rA rG] ++ gG cA K rR) → va_S A s.heap H locs → lv_has ls 4 [(0, .ref (aR 0)), (1, .int x1), (2, .int x2), (3, .int x3)] → W p l e (headSpec (wsU yX5_failures cX5_failures 4 (some .int)) ({ frames := 1, cells := 0, slots := 0, locals := 24 })).room s m ([.ref (aR 0)] : List Value).toArray below meth c H locs 0 0 (MQ below (QI D (fun _ : Unit => (wl [gR cA aR rI rA rG] ++ gG cA K rR)) R A) ([.ref (aR 0)] : List Value).toArray s 0 0 A) (F0 m 14 ls [])) (x3 : Int32) (y0 : Int32) (y1 : Int32) (H : Heap) (locs : List Loc) (ls : Array Slot), f_X5_failures_b35 n K rc4 rc14 x2 x3 y0 y1 rI rA = some R → va_P D vwCl (wl [gR cA aR rI rA rG] ++ gG cA K rR) H → va_D A (wl [gR cA aR rI rA rG] ++ gG cA K rR) → va_S A s.heap H locs → lv_has ls 4 [(0, .ref (aR 0)), (2, .int x2), (3, .int x3)] → W p l e (headSpec (wsU yX5_failures cX5_failures 4 (some .int)) ({ frames := 1, cells := 0, slots := 0, locals := 24 })).room s m ([.ref (aR 0)] : List Value).toArray below meth c H locs 0 0 (MQ below (QI D (fun _ : Unit => (wl [gR cA aR rI rA rG] ++ gG cA K rR)) R A) ([.ref (aR 0)] : List Value).toArray s 0 0 A) (F0 m 35 ls [.int y1, .int y0]) := by
    intro x2 rc4 hr4 rc14 hr14 x3 y0 y1 H locs ls h hP hD hS hl
    unfold f_X5_failures_b35 at h
    refine lv_iadd hx hb dX5_failures_35 ?_
    refine lv_istore_n (lv' := [(1, .int (y0 + y1)), (0, .ref (aR 0)), (2, .int x2), (3, .int x3)]) hx hb dX5_failures_36 rfl hl (by decide) rfl (fun ls hl => ?_)
    refine lv_iinc (v := (x3 + 1)) (lv' := [(3, .int (x3 + 1)), (1, .int (y0 + y1)), (0, .ref (aR 0)), (2, .int x2)]) hx hb dX5_failures_37 hl (k := 3) rfl rfl (by decide) rfl (fun ls hl => ?_)
    refine lv_goto (tgt := 14) hx hb dX5_failures_40 (by decide) ?_
    exact hr14 _ _ _ _ _ h hP hD hS (lv_sub hl [2, 1, 3, 0] rfl)
  have b14 : ∀ (rc4 : (Int32 × Int32) → Option (Int32 × Unit)) (hr4 : ∀ (x1 : Int32) (x2 : Int32) (H : Heap) (locs : List Loc) (ls : Array Slot), rc4 (x1, x2) = some R → va_P D vwCl (wl [gR cA aR rI rA rG] ++ gG cA K rR) H → va_D A (wl [gR cA aR rI rA rG] ++ gG cA K rR) → va_S A s.heap H locs → lv_has ls 4 [(0, .ref (aR 0)), (1, .int x1), (2, .int x2)] → W p l e (headSpec (wsU yX5_failures cX5_failures 4 (some .int)) ({ frames := 1, cells := 0, slots := 0, locals := 24 })).room s m ([.ref (aR 0)] : List Value).toArray below meth c H locs 0 0 (MQ below (QI D (fun _ : Unit => (wl [gR cA aR rI rA rG] ++ gG cA K rR)) R A) ([.ref (aR 0)] : List Value).toArray s 0 0 A) (F0 m 4 ls [])) (x2 : Int32) (nn : Nat), ∀ (x1 : Int32) (x3 : Int32) (H : Heap) (locs : List Loc) (ls : Array Slot), lp (f_X5_failures_l14 n K rc4 x2 rI rA) nn (x1, x3) = some R → va_P D vwCl (wl [gR cA aR rI rA rG] ++ gG cA K rR) H → va_D A (wl [gR cA aR rI rA rG] ++ gG cA K rR) → va_S A s.heap H locs → lv_has ls 4 [(0, .ref (aR 0)), (1, .int x1), (2, .int x2), (3, .int x3)] → W p l e (headSpec (wsU yX5_failures cX5_failures 4 (some .int)) ({ frames := 1, cells := 0, slots := 0, locals := 24 })).room s m ([.ref (aR 0)] : List Value).toArray below meth c H locs 0 0 (MQ below (QI D (fun _ : Unit => (wl [gR cA aR rI rA rG] ++ gG cA K rR)) R A) ([.ref (aR 0)] : List Value).toArray s 0 0 A) (F0 m 14 ls []) := by
    intro rc4 hr4 x2 nn
    induction nn with
    | zero =>
      intro x1 x3 H locs ls h hP hD hS hl
      exact (lp_zero h).elim
    | succ nn hr14 =>
      intro x1 x3 H locs ls h hP hD hS hl
      rw [lp_succ] at h
      unfold f_X5_failures_l14 at h
      try dsimp only at h
      refine lv_iload_n hx hb dX5_failures_14 rfl (lv_at hl 3 rfl) ?_
      refine lv_iconst (v := (5 : Int32)) hx hb dX5_failures_15 (by decide) ?_
      refine lv_icmp_ge (tgt := 43) hx hb dX5_failures_16 (by decide) (fun c1 => ?_) (fun c1 => ?_)
      · replace h := og_pos c1 h
        exact b43 _ hr4 _ _ _ _ _ h hP hD hS (lv_sub hl [0, 1, 2] rfl)
      · replace h := og_neg c1 h
        refine lv_iload_n hx hb dX5_failures_19 rfl (lv_at hl 1 rfl) ?_
        refine lv_aload_n hx hb dX5_failures_20 rfl (lv_at hl 0 rfl) ?_
        refine lv_iload_n hx hb dX5_failures_21 rfl (lv_at hl 3 rfl) ?_
        refine lv_iload_n hx hb dX5_failures_22 rfl (lv_at hl 2 rfl) ?_
        obtain ⟨⟨r2, _u2⟩, e2, h⟩ := og_bind h
        try dsimp only at h
        refine gc_i (ws := (wl [gR cA aR rI rA rG] ++ gG cA K rR)) (wc := (wl [gR cA aR rI rA rG] ++ gG cA K rR)) (wr := (wl ([] : List va_W))) (ws' := (wl [gR cA aR rI rA rG] ++ gG cA K rR)) (va_runV (As := [.int x3, .int x2]) (rest := [.int x1]) ⟨hx, hb, hml, hown, hT⟩ (k_X5_failing l D cA aR K H.size n x3 x2 rI rA rG rR _ e2) (cwV 2 hT gv_RX5_212 rfl rfl rfl (by decide +kernel) ⟨Nat.le_of_ble_eq_true rfl, Nat.le_of_ble_eq_true rfl⟩) (pre_V (ci := 5) (q0 := 0) (wr := (wl ([] : List va_W))) (pmB (f := fun i => ([gR cA aR rI rA rG] : List va_W).getD i []) [0] [0] [] (by decide)) hK hP hD rfl rfl) rfl rfl hl.1 rfl (lv_room (Nat.le_of_ble_eq_true rfl)) dX5_failures_23 ⟨Nat.le_refl _, Nat.le_refl _⟩) (pmB (f := fun i => ([gR cA aR rI rA rG] : List va_W).getD i []) [0] [0] [] (by decide)) hP hD hS hA (pmB (f := fun i => ([gR cA aR rI rA rG] : List va_W).getD i []) [0] [0] [] (by decide)) (fun H locs hP hD hS => ?_)
        refine lv_iconst (v := (-1 : Int32)) hx hb dX5_failures_26 (by decide) ?_
        refine lv_icmp_ne (tgt := 34) hx hb dX5_failures_27 (by decide) (fun c3 => ?_) (fun c3 => ?_)
        · replace h := og_neg c3 h
          refine lv_iconst (v := (1 : Int32)) hx hb dX5_failures_34 (by decide) ?_
          exact b35 _ _ hr4 _ hr14 _ _ _ _ _ _ h hP hD hS (lv_sub hl [0, 2, 3] rfl)
        · replace h := og_pos c3 h
          refine lv_iconst (v := (0 : Int32)) hx hb dX5_failures_30 (by decide) ?_
          refine lv_goto (tgt := 35) hx hb dX5_failures_31 (by decide) ?_
          exact b35 _ _ hr4 _ hr14 _ _ _ _ _ _ h hP hD hS (lv_sub hl [0, 2, 3] rfl)
  have b4 : ∀  (nn : Nat), ∀ (x1 : Int32) (x2 : Int32) (H : Heap) (locs : List Loc) (ls : Array Slot), lp (f_X5_failures_l4 n K rI rA) nn (x1, x2) = some R → va_P D vwCl (wl [gR cA aR rI rA rG] ++ gG cA K rR) H → va_D A (wl [gR cA aR rI rA rG] ++ gG cA K rR) → va_S A s.heap H locs → lv_has ls 4 [(0, .ref (aR 0)), (1, .int x1), (2, .int x2)] → W p l e (headSpec (wsU yX5_failures cX5_failures 4 (some .int)) ({ frames := 1, cells := 0, slots := 0, locals := 24 })).room s m ([.ref (aR 0)] : List Value).toArray below meth c H locs 0 0 (MQ below (QI D (fun _ : Unit => (wl [gR cA aR rI rA rG] ++ gG cA K rR)) R A) ([.ref (aR 0)] : List Value).toArray s 0 0 A) (F0 m 4 ls []) := by
    intro nn
    induction nn with
    | zero =>
      intro x1 x2 H locs ls h hP hD hS hl
      exact (lp_zero h).elim
    | succ nn hr4 =>
      intro x1 x2 H locs ls h hP hD hS hl
      rw [lp_succ] at h
      unfold f_X5_failures_l4 at h
      try dsimp only at h
      refine lv_iload_n hx hb dX5_failures_4 rfl (lv_at hl 2 rfl) ?_
      refine lv_aload_n hx hb dX5_failures_5 rfl (lv_at hl 0 rfl) ?_
      refine va_get (D := D) (C := RX5) (T := TX5) (N := 40) hx hb hT inlX5 hown hK.1 hP 0 rfl rfl 3 (by decide) (hT _ fl_RX5_93) (fun _ h9 => h9) rfl dX5_failures_6 ?_
      refine lv_icmp_ge (tgt := 49) hx hb dX5_failures_9 (by decide) (fun c4 => ?_) (fun c4 => ?_)
      · replace h := og_pos c4 h
        refine lv_iload_n hx hb dX5_failures_49 rfl (lv_at hl 1 rfl) ?_
        exact W.iret (v := x1) hx hb hr (fun t ht hW => ⟨⟨x1, (), rfl, ⟨(congrArg Prod.fst (og_inj h)).symm, (congrArg Prod.snd (og_inj h)).symm⟩, (by rw [ht]; exact hP), hD⟩, hS.F ht⟩) hS.2.2 dX5_failures_50
      · replace h := og_neg c4 h
        refine lv_iconst (v := (1 : Int32)) hx hb dX5_failures_12 (by decide) ?_
        refine lv_istore_n (lv' := [(3, .int (1 : Int32)), (0, .ref (aR 0)), (1, .int x1), (2, .int x2)]) hx hb dX5_failures_13 rfl hl (by decide) rfl (fun ls hl => ?_)
        exact b14 _ hr4 _ n _ _ _ _ _ h hP hD hS (lv_sub hl [1, 2, 3, 0] rfl)
  unfold f_X5_failures at h
  refine lv_iconst (v := (0 : Int32)) hx hb dX5_failures_0 (by decide) ?_
  refine lv_istore_n (lv' := [(1, .int (0 : Int32)), (0, .ref (aR 0))]) hx hb dX5_failures_1 rfl hl (by decide) rfl (fun ls hl => ?_)
  refine lv_iconst (v := (0 : Int32)) hx hb dX5_failures_2 (by decide) ?_
  refine lv_istore_n (lv' := [(2, .int (0 : Int32)), (1, .int (0 : Int32)), (0, .ref (aR 0))]) hx hb dX5_failures_3 rfl hl (by decide) rfl (fun ls hl => ?_)
  exact b4   n _ _ _ _ _ h hP hD hS (lv_sub hl [2, 1, 0] rfl)
set_option maxRecDepth 100000 in
set_option maxHeartbeats 8000000 in
theorem k_X5_failure (l : Launch) (D : va_G) (cA : Nat → ClassId) (aR : Nat → Nat) (K : List Nat) (sz : Nat) (n : Nat) (u1 : Int32) (u2 : Int32) (rI : Nat → Int32) (rA : Nat → Nat → Int32) (rG : Nat → Option Nat) (rR : Nat → Nat → Int32) (R : Int32 × Unit) (h : f_X5_failure n K u1 u2 rI rA = some R) : Met l yX5_failure (wsU yX5_failure cX5_failure 7 (some .int)) ({ frames := 1, cells := 0, slots := 0, locals := 24 }) (PcW D cA (wl [gR cA aR rI rA rG] ++ gG cA K rR) sz [.ref (aR 0), .int u1, .int u2]) (QI D (fun _ : Unit => (wl [gR cA aR rI rA rG] ++ gG cA K rR)) R (va_A (wl [gR cA aR rI rA rG] ++ gG cA K rR) sz)) 0 0 (va_A (wl [gR cA aR rI rA rG] ++ gG cA K rR) sz) := by
  refine Met.ofW (cc := cX5_failure) (maxL := 7) (ret := (some .int)) (by decide) rfl ?_
  intro p e s m args below meth c s₁ B hml hv
  obtain ⟨rfl, hsz, hP, hK, hD0⟩ := hv
  have hx := B.exec
  have hb := B.bytes
  have hr := B.returns
  have hts := atoms_spec (ws := (wsU yX5_failure cX5_failure 7 (some .int))) B.pre
  have hT : ∀ w ∈ wsL_law, w.before ([.ref (aR 0), .int u1, .int u2] : List Value).toArray s = true := fun w h => hts w (List.mem_cons_of_mem _ h)
  have hown : s.vm.findClass RX5 = some m.cls := findClass_of_methodNamed B.named
  have hlocks := B.notSynchronized
  have hN := hK.2
  subst hsz
  have hD := hD0.self (sz := s.heap.size)
  generalize hAe : va_A (wl [gR cA aR rI rA rG] ++ gG cA K rR) s.heap.size = A at hD ⊢
  have hA : ∀ q : Nat, s.heap.size ≤ q → A q := fun q h => by rw [← hAe]; exact Or.inr h
  have hS : va_S A s.heap s.heap [] := va_S.rf
  have hl := lv_entry ([.ref (aR 0), .int u1, .int u2]) (n := 7) (Nat.le_of_ble_eq_true rfl)
  rw [lg_entry_eq]
  generalize (lg_sl ([.ref (aR 0), .int u1, .int u2]) ++ List.replicate (7 - (lg_sl ([.ref (aR 0), .int u1, .int u2])).length) Slot.unset).toArray = ls at hl ⊢
  have hl : lv_has ls 7 [(0, .ref (aR 0)), (1, .int u1), (2, .int u2)] := hl
  have b92 : ∀ (x2 : Int32) (rc11 : (Int32 × Int32) → Option (Int32 × Unit)) (hr11 : ∀ (x3 : Int32) (x4 : Int32) (H : Heap) (locs : List Loc) (ls : Array Slot), rc11 (x3, x4) = some R → va_P D vwCl (wl [gR cA aR rI rA rG] ++ gG cA K rR) H → va_D A (wl [gR cA aR rI rA rG] ++ gG cA K rR) → va_S A s.heap H locs → lv_has ls 7 [(0, .ref (aR 0)), (2, .int x2), (3, .int x3), (4, .int x4)] → W p l e (headSpec (wsU yX5_failure cX5_failure 7 (some .int)) ({ frames := 1, cells := 0, slots := 0, locals := 24 })).room s m ([.ref (aR 0), .int u1, .int u2] : List Value).toArray below meth c H locs 0 0 (MQ below (QI D (fun _ : Unit => (wl [gR cA aR rI rA rG] ++ gG cA K rR)) R A) ([.ref (aR 0), .int u1, .int u2] : List Value).toArray s 0 0 A) (F0 m 11 ls [])) (x3 : Int32) (x4 : Int32) (H : Heap) (locs : List Loc) (ls : Array Slot), f_X5_failure_b92 n K rc11 x2 x3 x4 rI rA = some R → va_P D vwCl (wl [gR cA aR rI rA rG] ++ gG cA K rR) H → va_D A (wl [gR cA aR rI rA rG] ++ gG cA K rR) → va_S A s.heap H locs → lv_has ls 7 [(0, .ref (aR 0)), (2, .int x2), (3, .int x3), (4, .int x4)] → W p l e (headSpec (wsU yX5_failure cX5_failure 7 (some .int)) ({ frames := 1, cells := 0, slots := 0, locals := 24 })).room s m ([.ref (aR 0), .int u1, .int u2] : List Value).toArray below meth c H locs 0 0 (MQ below (QI D (fun _ : Unit => (wl [gR cA aR rI rA rG] ++ gG cA K rR)) R A) ([.ref (aR 0), .int u1, .int u2] : List Value).toArray s 0 0 A) (F0 m 92 ls []) := by
    intro x2 rc11 hr11 x3 x4 H locs ls h hP hD hS hl
    unfold f_X5_failure_b92 at h
    refine lv_iinc (v := (x4 + 1)) (lv' := [(4, .int (x4 + 1)), (0, .ref (aR 0)), (2, .int x2), (3, .int x3)]) hx hb dX5_failure_92 hl (k := 3) rfl rfl (by decide) rfl (fun ls hl => ?_)
    refine lv_goto (tgt := 11) hx hb dX5_failure_95 (by decide) ?_
    exact hr11 _ _ _ _ _ h hP hD hS (lv_sub hl [1, 2, 3, 0] rfl)
  have b86 : ∀ (x2 : Int32) (x4 : Int32) (rc11 : (Int32 × Int32) → Option (Int32 × Unit)) (hr11 : ∀ (x3 : Int32) (x4 : Int32) (H : Heap) (locs : List Loc) (ls : Array Slot), rc11 (x3, x4) = some R → va_P D vwCl (wl [gR cA aR rI rA rG] ++ gG cA K rR) H → va_D A (wl [gR cA aR rI rA rG] ++ gG cA K rR) → va_S A s.heap H locs → lv_has ls 7 [(0, .ref (aR 0)), (2, .int x2), (3, .int x3), (4, .int x4)] → W p l e (headSpec (wsU yX5_failure cX5_failure 7 (some .int)) ({ frames := 1, cells := 0, slots := 0, locals := 24 })).room s m ([.ref (aR 0), .int u1, .int u2] : List Value).toArray below meth c H locs 0 0 (MQ below (QI D (fun _ : Unit => (wl [gR cA aR rI rA rG] ++ gG cA K rR)) R A) ([.ref (aR 0), .int u1, .int u2] : List Value).toArray s 0 0 A) (F0 m 11 ls [])) (rc23 : (Int32 × Int32) → Option (Int32 × Unit)) (hr23 : ∀ (x3 : Int32) (x5 : Int32) (H : Heap) (locs : List Loc) (ls : Array Slot), rc23 (x3, x5) = some R → va_P D vwCl (wl [gR cA aR rI rA rG] ++ gG cA K rR) H → va_D A (wl [gR cA aR rI rA rG] ++ gG cA K rR) → va_S A s.heap H locs → lv_has ls 7 [(0, .ref (aR 0)), (2, .int x2), (3, .int x3), (4, .int x4), (5, .int x5)] → W p l e (headSpec (wsU yX5_failure cX5_failure 7 (some .int)) ({ frames := 1, cells := 0, slots := 0, locals := 24 })).room s m ([.ref (aR 0), .int u1, .int u2] : List Value).toArray below meth c H locs 0 0 (MQ below (QI D (fun _ : Unit => (wl [gR cA aR rI rA rG] ++ gG cA K rR)) R A) ([.ref (aR 0), .int u1, .int u2] : List Value).toArray s 0 0 A) (F0 m 23 ls [])) (x3 : Int32) (x5 : Int32) (H : Heap) (locs : List Loc) (ls : Array Slot), f_X5_failure_b86 n K rc11 rc23 x2 x3 x4 x5 rI rA = some R → va_P D vwCl (wl [gR cA aR rI rA rG] ++ gG cA K rR) H → va_D A (wl [gR cA aR rI rA rG] ++ gG cA K rR) → va_S A s.heap H locs → lv_has ls 7 [(0, .ref (aR 0)), (2, .int x2), (3, .int x3), (4, .int x4), (5, .int x5)] → W p l e (headSpec (wsU yX5_failure cX5_failure 7 (some .int)) ({ frames := 1, cells := 0, slots := 0, locals := 24 })).room s m ([.ref (aR 0), .int u1, .int u2] : List Value).toArray below meth c H locs 0 0 (MQ below (QI D (fun _ : Unit => (wl [gR cA aR rI rA rG] ++ gG cA K rR)) R A) ([.ref (aR 0), .int u1, .int u2] : List Value).toArray s 0 0 A) (F0 m 86 ls []) := by
    intro x2 x4 rc11 hr11 rc23 hr23 x3 x5 H locs ls h hP hD hS hl
    unfold f_X5_failure_b86 at h
    refine lv_iinc (v := (x5 + 1)) (lv' := [(5, .int (x5 + 1)), (0, .ref (aR 0)), (2, .int x2), (3, .int x3), (4, .int x4)]) hx hb dX5_failure_86 hl (k := 4) rfl rfl (by decide) rfl (fun ls hl => ?_)
    refine lv_goto (tgt := 23) hx hb dX5_failure_89 (by decide) ?_
    exact hr23 _ _ _ _ _ h hP hD hS (lv_sub hl [1, 2, 3, 4, 0] rfl)
  have b52 : ∀ (x2 : Int32) (x4 : Int32) (x5 : Int32) (x6 : Int32) (H : Heap) (locs : List Loc) (ls : Array Slot), f_X5_failure_b52 n K x2 x4 x5 x6 rI rA = some R → va_P D vwCl (wl [gR cA aR rI rA rG] ++ gG cA K rR) H → va_D A (wl [gR cA aR rI rA rG] ++ gG cA K rR) → va_S A s.heap H locs → lv_has ls 7 [(2, .int x2), (4, .int x4), (5, .int x5), (6, .int x6)] → W p l e (headSpec (wsU yX5_failure cX5_failure 7 (some .int)) ({ frames := 1, cells := 0, slots := 0, locals := 24 })).room s m ([.ref (aR 0), .int u1, .int u2] : List Value).toArray below meth c H locs 0 0 (MQ below (QI D (fun _ : Unit => (wl [gR cA aR rI rA rG] ++ gG cA K rR)) R A) ([.ref (aR 0), .int u1, .int u2] : List Value).toArray s 0 0 A) (F0 m 52 ls []) := by
    intro x2 x4 x5 x6 H locs ls h hP hD hS hl
    unfold f_X5_failure_b52 at h
    refine lv_iload_n hx hb dX5_failure_52 rfl (lv_at hl 0 rfl) ?_
    refine lv_if_ne (tgt := 61) hx hb dX5_failure_53 (by decide) (fun c1 => ?_) (fun c1 => ?_)
    · replace h := og_neg c1 h
      refine lv_iload_n hx hb dX5_failure_61 rfl (lv_at hl 0 rfl) ?_
      refine lv_iconst (v := (1 : Int32)) hx hb dX5_failure_62 (by decide) ?_
      refine lv_icmp_ne (tgt := 71) hx hb dX5_failure_63 (by decide) (fun c2 => ?_) (fun c2 => ?_)
      · replace h := og_neg c2 h
        refine lv_iload_n hx hb dX5_failure_71 rfl (lv_at hl 0 rfl) ?_
        refine lv_iconst (v := (2 : Int32)) hx hb dX5_failure_72 (by decide) ?_
        refine lv_icmp_ne (tgt := 81) hx hb dX5_failure_73 (by decide) (fun c3 => ?_) (fun c3 => ?_)
        · replace h := og_neg c3 h
          refine lv_iconst (v := (-1 : Int32)) hx hb dX5_failure_81 (by decide) ?_
          exact W.iret (v := (-1 : Int32)) hx hb hr (fun t ht hW => ⟨⟨(-1 : Int32), (), rfl, ⟨(congrArg Prod.fst (og_inj h)).symm, (congrArg Prod.snd (og_inj h)).symm⟩, (by rw [ht]; exact hP), hD⟩, hS.F ht⟩) hS.2.2 dX5_failure_82
        · replace h := og_pos c3 h
          refine lv_iload hx hb dX5_failure_76 (lv_at hl 3 rfl) ?_
          refine lv_goto (tgt := 82) hx hb dX5_failure_78 (by decide) ?_
          exact W.iret (v := x6) hx hb hr (fun t ht hW => ⟨⟨x6, (), rfl, ⟨(congrArg Prod.fst (og_inj h)).symm, (congrArg Prod.snd (og_inj h)).symm⟩, (by rw [ht]; exact hP), hD⟩, hS.F ht⟩) hS.2.2 dX5_failure_82
      · replace h := og_pos c2 h
        refine lv_iload hx hb dX5_failure_66 (lv_at hl 1 rfl) ?_
        refine lv_goto (tgt := 82) hx hb dX5_failure_68 (by decide) ?_
        exact W.iret (v := x4) hx hb hr (fun t ht hW => ⟨⟨x4, (), rfl, ⟨(congrArg Prod.fst (og_inj h)).symm, (congrArg Prod.snd (og_inj h)).symm⟩, (by rw [ht]; exact hP), hD⟩, hS.F ht⟩) hS.2.2 dX5_failure_82
    · replace h := og_pos c1 h
      refine lv_iload hx hb dX5_failure_56 (lv_at hl 2 rfl) ?_
      refine lv_goto (tgt := 82) hx hb dX5_failure_58 (by decide) ?_
      exact W.iret (v := x5) hx hb hr (fun t ht hW => ⟨⟨x5, (), rfl, ⟨(congrArg Prod.fst (og_inj h)).symm, (congrArg Prod.snd (og_inj h)).symm⟩, (by rw [ht]; exact hP), hD⟩, hS.F ht⟩) hS.2.2 dX5_failure_82
  have b23 : ∀ (x2 : Int32) (rc11 : (Int32 × Int32) → Option (Int32 × Unit)) (hr11 : ∀ (x3 : Int32) (x4 : Int32) (H : Heap) (locs : List Loc) (ls : Array Slot), rc11 (x3, x4) = some R → va_P D vwCl (wl [gR cA aR rI rA rG] ++ gG cA K rR) H → va_D A (wl [gR cA aR rI rA rG] ++ gG cA K rR) → va_S A s.heap H locs → lv_has ls 7 [(0, .ref (aR 0)), (2, .int x2), (3, .int x3), (4, .int x4)] → W p l e (headSpec (wsU yX5_failure cX5_failure 7 (some .int)) ({ frames := 1, cells := 0, slots := 0, locals := 24 })).room s m ([.ref (aR 0), .int u1, .int u2] : List Value).toArray below meth c H locs 0 0 (MQ below (QI D (fun _ : Unit => (wl [gR cA aR rI rA rG] ++ gG cA K rR)) R A) ([.ref (aR 0), .int u1, .int u2] : List Value).toArray s 0 0 A) (F0 m 11 ls [])) (x4 : Int32) (nn : Nat), ∀ (x3 : Int32) (x5 : Int32) (H : Heap) (locs : List Loc) (ls : Array Slot), lp (f_X5_failure_l23 n K rc11 x2 x4 rI rA) nn (x3, x5) = some R → va_P D vwCl (wl [gR cA aR rI rA rG] ++ gG cA K rR) H → va_D A (wl [gR cA aR rI rA rG] ++ gG cA K rR) → va_S A s.heap H locs → lv_has ls 7 [(0, .ref (aR 0)), (2, .int x2), (3, .int x3), (4, .int x4), (5, .int x5)] → W p l e (headSpec (wsU yX5_failure cX5_failure 7 (some .int)) ({ frames := 1, cells := 0, slots := 0, locals := 24 })).room s m ([.ref (aR 0), .int u1, .int u2] : List Value).toArray below meth c H locs 0 0 (MQ below (QI D (fun _ : Unit => (wl [gR cA aR rI rA rG] ++ gG cA K rR)) R A) ([.ref (aR 0), .int u1, .int u2] : List Value).toArray s 0 0 A) (F0 m 23 ls []) := by
    intro x2 rc11 hr11 x4 nn
    induction nn with
    | zero =>
      intro x3 x5 H locs ls h hP hD hS hl
      exact (lp_zero h).elim
    | succ nn hr23 =>
      intro x3 x5 H locs ls h hP hD hS hl
      rw [lp_succ] at h
      unfold f_X5_failure_l23 at h
      try dsimp only at h
      refine lv_iload hx hb dX5_failure_23 (lv_at hl 4 rfl) ?_
      refine lv_iconst (v := (5 : Int32)) hx hb dX5_failure_25 (by decide) ?_
      refine lv_icmp_ge (tgt := 92) hx hb dX5_failure_26 (by decide) (fun c4 => ?_) (fun c4 => ?_)
      · replace h := og_pos c4 h
        exact b92 _ _ hr11 _ _ _ _ _ h hP hD hS (lv_sub hl [0, 1, 2, 3] rfl)
      · replace h := og_neg c4 h
        refine lv_aload_n hx hb dX5_failure_29 rfl (lv_at hl 0 rfl) ?_
        refine lv_iload hx hb dX5_failure_30 (lv_at hl 4 rfl) ?_
        refine lv_iload hx hb dX5_failure_32 (lv_at hl 3 rfl) ?_
        obtain ⟨⟨r5, _u5⟩, e5, h⟩ := og_bind h
        try dsimp only at h
        refine gc_i (ws := (wl [gR cA aR rI rA rG] ++ gG cA K rR)) (wc := (wl [gR cA aR rI rA rG] ++ gG cA K rR)) (wr := (wl ([] : List va_W))) (ws' := (wl [gR cA aR rI rA rG] ++ gG cA K rR)) (va_runV (As := [.int x5, .int x4]) (rest := []) ⟨hx, hb, hml, hown, hT⟩ (k_X5_failing l D cA aR K H.size n x5 x4 rI rA rG rR _ e5) (cwV 2 hT gv_RX5_212 rfl rfl rfl (by decide +kernel) ⟨Nat.le_of_ble_eq_true rfl, Nat.le_of_ble_eq_true rfl⟩) (pre_V (ci := 5) (q0 := 0) (wr := (wl ([] : List va_W))) (pmB (f := fun i => ([gR cA aR rI rA rG] : List va_W).getD i []) [0] [0] [] (by decide)) hK hP hD rfl rfl) rfl rfl hl.1 rfl (lv_room (Nat.le_of_ble_eq_true rfl)) dX5_failure_34 ⟨Nat.le_refl _, Nat.le_refl _⟩) (pmB (f := fun i => ([gR cA aR rI rA rG] : List va_W).getD i []) [0] [0] [] (by decide)) hP hD hS hA (pmB (f := fun i => ([gR cA aR rI rA rG] : List va_W).getD i []) [0] [0] [] (by decide)) (fun H locs hP hD hS => ?_)
        refine lv_istore (lv' := [(6, .int r5), (0, .ref (aR 0)), (2, .int x2), (3, .int x3), (4, .int x4), (5, .int x5)]) hx hb dX5_failure_37 hl (by decide) rfl (fun ls hl => ?_)
        refine lv_iload hx hb dX5_failure_39 (lv_at hl 0 rfl) ?_
        refine lv_iconst (v := (-1 : Int32)) hx hb dX5_failure_41 (by decide) ?_
        refine lv_icmp_ne (tgt := 48) hx hb dX5_failure_42 (by decide) (fun c6 => ?_) (fun c6 => ?_)
        · replace h := og_neg c6 h
          refine lv_iload_n hx hb dX5_failure_48 rfl (lv_at hl 3 rfl) ?_
          refine lv_if_ne (tgt := 83) hx hb dX5_failure_49 (by decide) (fun c7 => ?_) (fun c7 => ?_)
          · replace h := og_neg c7 h
            refine lv_iinc (v := (x3 + (-1))) (lv' := [(3, .int (x3 + (-1))), (6, .int r5), (0, .ref (aR 0)), (2, .int x2), (4, .int x4), (5, .int x5)]) hx hb dX5_failure_83 hl (k := 3) rfl rfl (by decide) rfl (fun ls hl => ?_)
            exact b86 _ _ _ hr11 _ hr23 _ _ _ _ _ h hP hD hS (lv_sub hl [2, 3, 0, 4, 5] rfl)
          · replace h := og_pos c7 h
            exact b52  _ _ _ _ _ _ _ h hP hD hS (lv_sub hl [2, 4, 5, 0] rfl)
        · replace h := og_pos c6 h
          refine lv_goto (tgt := 86) hx hb dX5_failure_45 (by decide) ?_
          exact b86 _ _ _ hr11 _ hr23 _ _ _ _ _ h hP hD hS (lv_sub hl [1, 2, 3, 4, 5] rfl)
  have b11 : ∀ (x2 : Int32) (nn : Nat), ∀ (x3 : Int32) (x4 : Int32) (H : Heap) (locs : List Loc) (ls : Array Slot), lp (f_X5_failure_l11 n K x2 rI rA) nn (x3, x4) = some R → va_P D vwCl (wl [gR cA aR rI rA rG] ++ gG cA K rR) H → va_D A (wl [gR cA aR rI rA rG] ++ gG cA K rR) → va_S A s.heap H locs → lv_has ls 7 [(0, .ref (aR 0)), (2, .int x2), (3, .int x3), (4, .int x4)] → W p l e (headSpec (wsU yX5_failure cX5_failure 7 (some .int)) ({ frames := 1, cells := 0, slots := 0, locals := 24 })).room s m ([.ref (aR 0), .int u1, .int u2] : List Value).toArray below meth c H locs 0 0 (MQ below (QI D (fun _ : Unit => (wl [gR cA aR rI rA rG] ++ gG cA K rR)) R A) ([.ref (aR 0), .int u1, .int u2] : List Value).toArray s 0 0 A) (F0 m 11 ls []) := by
    intro x2 nn
    induction nn with
    | zero =>
      intro x3 x4 H locs ls h hP hD hS hl
      exact (lp_zero h).elim
    | succ nn hr11 =>
      intro x3 x4 H locs ls h hP hD hS hl
      rw [lp_succ] at h
      unfold f_X5_failure_l11 at h
      try dsimp only at h
      refine lv_iload hx hb dX5_failure_11 (lv_at hl 3 rfl) ?_
      refine lv_aload_n hx hb dX5_failure_13 rfl (lv_at hl 0 rfl) ?_
      refine va_get (D := D) (C := RX5) (T := TX5) (N := 40) hx hb hT inlX5 hown hK.1 hP 0 rfl rfl 3 (by decide) (hT _ fl_RX5_93) (fun _ h9 => h9) rfl dX5_failure_14 ?_
      refine lv_icmp_ge (tgt := 98) hx hb dX5_failure_17 (by decide) (fun c8 => ?_) (fun c8 => ?_)
      · replace h := og_pos c8 h
        refine lv_iconst (v := (-1 : Int32)) hx hb dX5_failure_98 (by decide) ?_
        exact W.iret (v := (-1 : Int32)) hx hb hr (fun t ht hW => ⟨⟨(-1 : Int32), (), rfl, ⟨(congrArg Prod.fst (og_inj h)).symm, (congrArg Prod.snd (og_inj h)).symm⟩, (by rw [ht]; exact hP), hD⟩, hS.F ht⟩) hS.2.2 dX5_failure_99
      · replace h := og_neg c8 h
        refine lv_iconst (v := (1 : Int32)) hx hb dX5_failure_20 (by decide) ?_
        refine lv_istore (lv' := [(5, .int (1 : Int32)), (0, .ref (aR 0)), (2, .int x2), (3, .int x3), (4, .int x4)]) hx hb dX5_failure_21 hl (by decide) rfl (fun ls hl => ?_)
        exact b23 _ _ hr11 _ n _ _ _ _ _ h hP hD hS (lv_sub hl [1, 2, 3, 4, 0] rfl)
  unfold f_X5_failure at h
  refine lv_iload_n hx hb dX5_failure_0 rfl (lv_at hl 1 rfl) ?_
  refine lv_if_ge (tgt := 6) hx hb dX5_failure_1 (by decide) (fun c9 => ?_) (fun c9 => ?_)
  · replace h := og_pos c9 h
    refine lv_iload_n hx hb dX5_failure_6 rfl (lv_at hl 1 rfl) ?_
    refine lv_istore_n (lv' := [(3, .int u1), (0, .ref (aR 0)), (1, .int u1), (2, .int u2)]) hx hb dX5_failure_7 rfl hl (by decide) rfl (fun ls hl => ?_)
    refine lv_iconst (v := (0 : Int32)) hx hb dX5_failure_8 (by decide) ?_
    refine lv_istore (lv' := [(4, .int (0 : Int32)), (3, .int u1), (0, .ref (aR 0)), (1, .int u1), (2, .int u2)]) hx hb dX5_failure_9 hl (by decide) rfl (fun ls hl => ?_)
    exact b11  _ n _ _ _ _ _ h hP hD hS (lv_sub hl [2, 4, 1, 0] rfl)
  · replace h := og_neg c9 h
    refine lv_iconst (v := (-1 : Int32)) hx hb dX5_failure_4 (by decide) ?_
    exact W.iret (v := (-1 : Int32)) hx hb hr (fun t ht hW => ⟨⟨(-1 : Int32), (), rfl, ⟨(congrArg Prod.fst (og_inj h)).symm, (congrArg Prod.snd (og_inj h)).symm⟩, (by rw [ht]; exact hP), hD⟩, hS.F ht⟩) hS.2.2 dX5_failure_5
set_option maxRecDepth 100000 in
set_option maxHeartbeats 8000000 in
theorem k_X5_covered (l : Launch) (D : va_G) (cA : Nat → ClassId) (aR : Nat → Nat) (K : List Nat) (sz : Nat) (u1 : Int32) (rI : Nat → Int32) (rA : Nat → Nat → Int32) (rG : Nat → Option Nat) (rR : Nat → Nat → Int32) (R : Int32 × Unit) (h : f_X5_covered K u1 rI rA = some R) : Met l yX5_covered (wsU yX5_covered cX5_covered 2 (some .int)) ({ frames := 1, cells := 0, slots := 0, locals := 20 }) (PcW D cA (wl [gR cA aR rI rA rG] ++ gG cA K rR) sz [.ref (aR 0), .int u1]) (QI D (fun _ : Unit => (wl [gR cA aR rI rA rG] ++ gG cA K rR)) R (va_A (wl [gR cA aR rI rA rG] ++ gG cA K rR) sz)) 0 0 (va_A (wl [gR cA aR rI rA rG] ++ gG cA K rR) sz) := by
  refine Met.ofW (cc := cX5_covered) (maxL := 2) (ret := (some .int)) (by decide) rfl ?_
  intro p e s m args below meth c s₁ B hml hv
  obtain ⟨rfl, hsz, hP, hK, hD0⟩ := hv
  have hx := B.exec
  have hb := B.bytes
  have hr := B.returns
  have hts := atoms_spec (ws := (wsU yX5_covered cX5_covered 2 (some .int))) B.pre
  have hT : ∀ w ∈ wsL_law, w.before ([.ref (aR 0), .int u1] : List Value).toArray s = true := fun w h => hts w (List.mem_cons_of_mem _ h)
  have hown : s.vm.findClass RX5 = some m.cls := findClass_of_methodNamed B.named
  have hlocks := B.notSynchronized
  have hN := hK.2
  subst hsz
  have hD := hD0.self (sz := s.heap.size)
  generalize hAe : va_A (wl [gR cA aR rI rA rG] ++ gG cA K rR) s.heap.size = A at hD ⊢
  have hA : ∀ q : Nat, s.heap.size ≤ q → A q := fun q h => by rw [← hAe]; exact Or.inr h
  have hS : va_S A s.heap s.heap [] := va_S.rf
  have hl := lv_entry ([.ref (aR 0), .int u1]) (n := 2) (Nat.le_of_ble_eq_true rfl)
  rw [lg_entry_eq]
  generalize (lg_sl ([.ref (aR 0), .int u1]) ++ List.replicate (2 - (lg_sl ([.ref (aR 0), .int u1])).length) Slot.unset).toArray = ls at hl ⊢
  have hl : lv_has ls 2 [(0, .ref (aR 0)), (1, .int u1)] := hl
  unfold f_X5_covered at h
  refine lv_aload_n hx hb dX5_covered_0 rfl (lv_at hl 0 rfl) ?_
  refine va_get (D := D) (C := RX5) (T := TX5) (N := 40) hx hb hT inlX5 hown hK.1 hP 0 rfl rfl 12 (by decide) (hT _ fl_RX5_29) (fun _ h9 => h9) rfl dX5_covered_1 ?_
  refine lv_if_lt (tgt := 19) hx hb dX5_covered_4 (by decide) (fun c1 => ?_) (fun c1 => ?_)
  · replace h := og_pos c1 h
    refine lv_iconst (v := (-1 : Int32)) hx hb dX5_covered_19 (by decide) ?_
    refine lv_goto (tgt := 32) hx hb dX5_covered_20 (by decide) ?_
    exact W.iret (v := (-1 : Int32)) hx hb hr (fun t ht hW => ⟨⟨(-1 : Int32), (), rfl, ⟨(congrArg Prod.fst (og_inj h)).symm, (congrArg Prod.snd (og_inj h)).symm⟩, (by rw [ht]; exact hP), hD⟩, hS.F ht⟩) hS.2.2 dX5_covered_32
  · replace h := og_neg c1 h
    refine lv_iload_n hx hb dX5_covered_7 rfl (lv_at hl 1 rfl) ?_
    refine lv_if_lt (tgt := 19) hx hb dX5_covered_8 (by decide) (fun c2 => ?_) (fun c2 => ?_)
    · replace h := og_pos c2 h
      refine lv_iconst (v := (-1 : Int32)) hx hb dX5_covered_19 (by decide) ?_
      refine lv_goto (tgt := 32) hx hb dX5_covered_20 (by decide) ?_
      exact W.iret (v := (-1 : Int32)) hx hb hr (fun t ht hW => ⟨⟨(-1 : Int32), (), rfl, ⟨(congrArg Prod.fst (og_inj h)).symm, (congrArg Prod.snd (og_inj h)).symm⟩, (by rw [ht]; exact hP), hD⟩, hS.F ht⟩) hS.2.2 dX5_covered_32
    · replace h := og_neg c2 h
      refine lv_iload_n hx hb dX5_covered_11 rfl (lv_at hl 1 rfl) ?_
      refine lv_aload_n hx hb dX5_covered_12 rfl (lv_at hl 0 rfl) ?_
      refine va_get (D := D) (C := RX5) (T := TX5) (N := 40) hx hb hT inlX5 hown hK.1 hP 0 rfl rfl 3 (by decide) (hT _ fl_RX5_93) (fun _ h9 => h9) rfl dX5_covered_13 ?_
      refine lv_icmp_lt (tgt := 23) hx hb dX5_covered_16 (by decide) (fun c3 => ?_) (fun c3 => ?_)
      · replace h := og_pos c3 h
        refine lv_aload_n hx hb dX5_covered_23 rfl (lv_at hl 0 rfl) ?_
        refine va_get (D := D) (C := RX5) (T := TX5) (N := 40) hx hb hT inlX5 hown hK.1 hP 0 rfl rfl 21 (by decide) (hT _ fl_RX5_59) (fun _ h9 => h9) rfl dX5_covered_24 ?_
        refine lv_iload_n hx hb dX5_covered_27 rfl (lv_at hl 1 rfl) ?_
        obtain ⟨g4, h⟩ := og_guard h
        refine va_zald hx hb hK.1 hP 15 1 rfl rfl (inb_vp g4) dX5_covered_28 ?_
        obtain ⟨⟨r5, _u5⟩, e5, h⟩ := og_bind h
        try dsimp only at h
        refine gc_i (ws := (wl [gR cA aR rI rA rG] ++ gG cA K rR)) (wc := (wl ([] : List va_W))) (wr := (wl [gR cA aR rI rA rG] ++ gG cA K rR)) (ws' := (wl [gR cA aR rI rA rG] ++ gG cA K rR)) (va_runS (As := [.int (rA 13 u1.toNatClampNeg)]) (rest := []) ⟨hx, hb, hml, hown, hT⟩ (k_X5_truth l D cA  s.heap.size (rA 13 u1.toNatClampNeg)  _ e5) (cwS 1 hT gs_RX5_128 rfl rfl rfl (by decide +kernel) ⟨Nat.le_of_ble_eq_true rfl, Nat.le_of_ble_eq_true rfl⟩) (pre_S (wr := (wl [gR cA aR rI rA rG] ++ gG cA K rR)) (pmC (f := fun i => ([gR cA aR rI rA rG] : List va_W).getD i []) [0] [] [0] (by decide)) hK hP hD) rfl rfl hl.1 rfl (lv_room (Nat.le_of_ble_eq_true rfl)) dX5_covered_29 ⟨Nat.le_refl _, Nat.le_refl _⟩) (pmC (f := fun i => ([gR cA aR rI rA rG] : List va_W).getD i []) [0] [] [0] (by decide)) hP hD hS hA (pmC (f := fun i => ([gR cA aR rI rA rG] : List va_W).getD i []) [0] [] [0] (by decide)) (fun H locs hP hD hS => ?_)
        exact W.iret (v := r5) hx hb hr (fun t ht hW => ⟨⟨r5, (), rfl, ⟨(congrArg Prod.fst (og_inj h)).symm, (congrArg Prod.snd (og_inj h)).symm⟩, (by rw [ht]; exact hP), hD⟩, hS.F ht⟩) hS.2.2 dX5_covered_32
      · replace h := og_neg c3 h
        refine lv_iconst (v := (-1 : Int32)) hx hb dX5_covered_19 (by decide) ?_
        refine lv_goto (tgt := 32) hx hb dX5_covered_20 (by decide) ?_
        exact W.iret (v := (-1 : Int32)) hx hb hr (fun t ht hW => ⟨⟨(-1 : Int32), (), rfl, ⟨(congrArg Prod.fst (og_inj h)).symm, (congrArg Prod.snd (og_inj h)).symm⟩, (by rw [ht]; exact hP), hD⟩, hS.F ht⟩) hS.2.2 dX5_covered_32
set_option maxRecDepth 100000 in
set_option maxHeartbeats 8000000 in
theorem k_X5_count (l : Launch) (D : va_G) (cA : Nat → ClassId) (aR : Nat → Nat) (K : List Nat) (sz : Nat) (n : Nat) (u1 : Int32) (rI : Nat → Int32) (rA : Nat → Nat → Int32) (rG : Nat → Option Nat) (rR : Nat → Nat → Int32) (R : Int32 × Unit) (h : f_X5_count n K u1 rI rA = some R) : Met l yX5_count (wsU yX5_count cX5_count 4 (some .int)) ({ frames := 2, cells := 0, slots := 0, locals := 47 }) (PcW D cA (wl [gR cA aR rI rA rG] ++ gG cA K rR) sz [.ref (aR 0), .int u1]) (QI D (fun _ : Unit => (wl [gR cA aR rI rA rG] ++ gG cA K rR)) R (va_A (wl [gR cA aR rI rA rG] ++ gG cA K rR) sz)) 0 0 (va_A (wl [gR cA aR rI rA rG] ++ gG cA K rR) sz) := by
  refine Met.ofW (cc := cX5_count) (maxL := 4) (ret := (some .int)) (by decide) rfl ?_
  intro p e s m args below meth c s₁ B hml hv
  obtain ⟨rfl, hsz, hP, hK, hD0⟩ := hv
  have hx := B.exec
  have hb := B.bytes
  have hr := B.returns
  have hts := atoms_spec (ws := (wsU yX5_count cX5_count 4 (some .int))) B.pre
  have hT : ∀ w ∈ wsL_law, w.before ([.ref (aR 0), .int u1] : List Value).toArray s = true := fun w h => hts w (List.mem_cons_of_mem _ h)
  have hown : s.vm.findClass RX5 = some m.cls := findClass_of_methodNamed B.named
  have hlocks := B.notSynchronized
  have hN := hK.2
  subst hsz
  have hD := hD0.self (sz := s.heap.size)
  generalize hAe : va_A (wl [gR cA aR rI rA rG] ++ gG cA K rR) s.heap.size = A at hD ⊢
  have hA : ∀ q : Nat, s.heap.size ≤ q → A q := fun q h => by rw [← hAe]; exact Or.inr h
  have hS : va_S A s.heap s.heap [] := va_S.rf
  have hl := lv_entry ([.ref (aR 0), .int u1]) (n := 4) (Nat.le_of_ble_eq_true rfl)
  rw [lg_entry_eq]
  generalize (lg_sl ([.ref (aR 0), .int u1]) ++ List.replicate (4 - (lg_sl ([.ref (aR 0), .int u1])).length) Slot.unset).toArray = ls at hl ⊢
  have hl : lv_has ls 4 [(0, .ref (aR 0)), (1, .int u1)] := hl
  have b109 : ∀ (x2 : Int32) (H : Heap) (locs : List Loc) (ls : Array Slot), f_X5_count_b109 n K x2 rI rA = some R → va_P D vwCl (wl [gR cA aR rI rA rG] ++ gG cA K rR) H → va_D A (wl [gR cA aR rI rA rG] ++ gG cA K rR) → va_S A s.heap H locs → lv_has ls 4 [(0, .ref (aR 0)), (2, .int x2)] → W p l e (headSpec (wsU yX5_count cX5_count 4 (some .int)) ({ frames := 2, cells := 0, slots := 0, locals := 47 })).room s m ([.ref (aR 0), .int u1] : List Value).toArray below meth c H locs 0 0 (MQ below (QI D (fun _ : Unit => (wl [gR cA aR rI rA rG] ++ gG cA K rR)) R A) ([.ref (aR 0), .int u1] : List Value).toArray s 0 0 A) (F0 m 109 ls []) := by
    intro x2 H locs ls h hP hD hS hl
    unfold f_X5_count_b109 at h
    refine lv_aload_n hx hb dX5_count_109 rfl (lv_at hl 0 rfl) ?_
    refine va_get (D := D) (C := RX5) (T := TX5) (N := 40) hx hb hT inlX5 hown hK.1 hP 0 rfl rfl 12 (by decide) (hT _ fl_RX5_29) (fun _ h9 => h9) rfl dX5_count_110 ?_
    refine lv_if_ge (tgt := 120) hx hb dX5_count_113 (by decide) (fun c1 => ?_) (fun c1 => ?_)
    · replace h := og_pos c1 h
      refine lv_iload_n hx hb dX5_count_120 rfl (lv_at hl 1 rfl) ?_
      exact W.iret (v := x2) hx hb hr (fun t ht hW => ⟨⟨x2, (), rfl, ⟨(congrArg Prod.fst (og_inj h)).symm, (congrArg Prod.snd (og_inj h)).symm⟩, (by rw [ht]; exact hP), hD⟩, hS.F ht⟩) hS.2.2 dX5_count_121
    · replace h := og_neg c1 h
      refine lv_iconst (v := (-1 : Int32)) hx hb dX5_count_116 (by decide) ?_
      refine lv_goto (tgt := 121) hx hb dX5_count_117 (by decide) ?_
      exact W.iret (v := (-1 : Int32)) hx hb hr (fun t ht hW => ⟨⟨(-1 : Int32), (), rfl, ⟨(congrArg Prod.fst (og_inj h)).symm, (congrArg Prod.snd (og_inj h)).symm⟩, (by rw [ht]; exact hP), hD⟩, hS.F ht⟩) hS.2.2 dX5_count_121
  have b101 : ∀ (rc78 : (Int32 × Int32) → Option (Int32 × Unit)) (hr78 : ∀ (x2 : Int32) (x3 : Int32) (H : Heap) (locs : List Loc) (ls : Array Slot), rc78 (x2, x3) = some R → va_P D vwCl (wl [gR cA aR rI rA rG] ++ gG cA K rR) H → va_D A (wl [gR cA aR rI rA rG] ++ gG cA K rR) → va_S A s.heap H locs → lv_has ls 4 [(0, .ref (aR 0)), (2, .int x2), (3, .int x3)] → W p l e (headSpec (wsU yX5_count cX5_count 4 (some .int)) ({ frames := 2, cells := 0, slots := 0, locals := 47 })).room s m ([.ref (aR 0), .int u1] : List Value).toArray below meth c H locs 0 0 (MQ below (QI D (fun _ : Unit => (wl [gR cA aR rI rA rG] ++ gG cA K rR)) R A) ([.ref (aR 0), .int u1] : List Value).toArray s 0 0 A) (F0 m 78 ls [])) (x3 : Int32) (y0 : Int32) (y1 : Int32) (H : Heap) (locs : List Loc) (ls : Array Slot), f_X5_count_b101 n K rc78 x3 y0 y1 rI rA = some R → va_P D vwCl (wl [gR cA aR rI rA rG] ++ gG cA K rR) H → va_D A (wl [gR cA aR rI rA rG] ++ gG cA K rR) → va_S A s.heap H locs → lv_has ls 4 [(0, .ref (aR 0)), (3, .int x3)] → W p l e (headSpec (wsU yX5_count cX5_count 4 (some .int)) ({ frames := 2, cells := 0, slots := 0, locals := 47 })).room s m ([.ref (aR 0), .int u1] : List Value).toArray below meth c H locs 0 0 (MQ below (QI D (fun _ : Unit => (wl [gR cA aR rI rA rG] ++ gG cA K rR)) R A) ([.ref (aR 0), .int u1] : List Value).toArray s 0 0 A) (F0 m 101 ls [.int y1, .int y0]) := by
    intro rc78 hr78 x3 y0 y1 H locs ls h hP hD hS hl
    unfold f_X5_count_b101 at h
    refine lv_iadd hx hb dX5_count_101 ?_
    refine lv_istore_n (lv' := [(2, .int (y0 + y1)), (0, .ref (aR 0)), (3, .int x3)]) hx hb dX5_count_102 rfl hl (by decide) rfl (fun ls hl => ?_)
    refine lv_iinc (v := (x3 + 1)) (lv' := [(3, .int (x3 + 1)), (2, .int (y0 + y1)), (0, .ref (aR 0))]) hx hb dX5_count_103 hl (k := 2) rfl rfl (by decide) rfl (fun ls hl => ?_)
    refine lv_goto (tgt := 78) hx hb dX5_count_106 (by decide) ?_
    exact hr78 _ _ _ _ _ h hP hD hS (lv_sub hl [2, 1, 0] rfl)
  have b78 : ∀  (nn : Nat), ∀ (x2 : Int32) (x3 : Int32) (H : Heap) (locs : List Loc) (ls : Array Slot), lp (f_X5_count_l78 n K rI rA) nn (x2, x3) = some R → va_P D vwCl (wl [gR cA aR rI rA rG] ++ gG cA K rR) H → va_D A (wl [gR cA aR rI rA rG] ++ gG cA K rR) → va_S A s.heap H locs → lv_has ls 4 [(0, .ref (aR 0)), (2, .int x2), (3, .int x3)] → W p l e (headSpec (wsU yX5_count cX5_count 4 (some .int)) ({ frames := 2, cells := 0, slots := 0, locals := 47 })).room s m ([.ref (aR 0), .int u1] : List Value).toArray below meth c H locs 0 0 (MQ below (QI D (fun _ : Unit => (wl [gR cA aR rI rA rG] ++ gG cA K rR)) R A) ([.ref (aR 0), .int u1] : List Value).toArray s 0 0 A) (F0 m 78 ls []) := by
    intro nn
    induction nn with
    | zero =>
      intro x2 x3 H locs ls h hP hD hS hl
      exact (lp_zero h).elim
    | succ nn hr78 =>
      intro x2 x3 H locs ls h hP hD hS hl
      rw [lp_succ] at h
      unfold f_X5_count_l78 at h
      try dsimp only at h
      refine lv_iload_n hx hb dX5_count_78 rfl (lv_at hl 2 rfl) ?_
      refine lv_aload_n hx hb dX5_count_79 rfl (lv_at hl 0 rfl) ?_
      refine va_get (D := D) (C := RX5) (T := TX5) (N := 40) hx hb hT inlX5 hown hK.1 hP 0 rfl rfl 3 (by decide) (hT _ fl_RX5_93) (fun _ h9 => h9) rfl dX5_count_80 ?_
      refine lv_icmp_ge (tgt := 109) hx hb dX5_count_83 (by decide) (fun c2 => ?_) (fun c2 => ?_)
      · replace h := og_pos c2 h
        exact b109  _ _ _ _ h hP hD hS (lv_sub hl [0, 1] rfl)
      · replace h := og_neg c2 h
        refine lv_iload_n hx hb dX5_count_86 rfl (lv_at hl 1 rfl) ?_
        refine lv_aload_n hx hb dX5_count_87 rfl (lv_at hl 0 rfl) ?_
        refine va_get (D := D) (C := RX5) (T := TX5) (N := 40) hx hb hT inlX5 hown hK.1 hP 0 rfl rfl 21 (by decide) (hT _ fl_RX5_59) (fun _ h9 => h9) rfl dX5_count_88 ?_
        refine lv_iload_n hx hb dX5_count_91 rfl (lv_at hl 2 rfl) ?_
        obtain ⟨g3, h⟩ := og_guard h
        refine va_zald hx hb hK.1 hP 15 1 rfl rfl (inb_vp g3) dX5_count_92 ?_
        refine lv_if_eq (tgt := 100) hx hb dX5_count_93 (by decide) (fun c4 => ?_) (fun c4 => ?_)
        · replace h := og_pos c4 h
          refine lv_iconst (v := (0 : Int32)) hx hb dX5_count_100 (by decide) ?_
          exact b101 _ hr78 _ _ _ _ _ _ h hP hD hS (lv_sub hl [0, 2] rfl)
        · replace h := og_neg c4 h
          refine lv_iconst (v := (1 : Int32)) hx hb dX5_count_96 (by decide) ?_
          refine lv_goto (tgt := 101) hx hb dX5_count_97 (by decide) ?_
          exact b101 _ hr78 _ _ _ _ _ _ h hP hD hS (lv_sub hl [0, 2] rfl)
  unfold f_X5_count at h
  refine lv_iconst (v := (0 : Int32)) hx hb dX5_count_0 (by decide) ?_
  refine lv_istore_n (lv' := [(2, .int (0 : Int32)), (0, .ref (aR 0)), (1, .int u1)]) hx hb dX5_count_1 rfl hl (by decide) rfl (fun ls hl => ?_)
  refine lv_iload_n hx hb dX5_count_2 rfl (lv_at hl 2 rfl) ?_
  by_cases c7 : u1 = (0 : Int32)
  · replace h := og_pos c7 h
    refine gs_in (off := 37) (tgt := 40) 0 c7 hx hb dX5_count_3 (by decide +kernel) (by decide) ?_
    refine lv_aload_n hx hb dX5_count_40 rfl (lv_at hl 1 rfl) ?_
    refine va_get (D := D) (C := RX5) (T := TX5) (N := 40) hx hb hT inlX5 hown hK.1 hP 0 rfl rfl 1 (by decide) (hT _ fl_RX5_84) (fun _ h9 => h9) rfl dX5_count_41 ?_
    exact W.iret (v := (rI 1)) hx hb hr (fun t ht hW => ⟨⟨(rI 1), (), rfl, ⟨(congrArg Prod.fst (og_inj h)).symm, (congrArg Prod.snd (og_inj h)).symm⟩, (by rw [ht]; exact hP), hD⟩, hS.F ht⟩) hS.2.2 dX5_count_44
  replace h := og_neg c7 h
  by_cases c8 : u1 = (1 : Int32)
  · replace h := og_pos c8 h
    refine gs_in (off := 42) (tgt := 45) 1 c8 hx hb dX5_count_3 (by decide +kernel) (by decide) ?_
    refine lv_aload_n hx hb dX5_count_45 rfl (lv_at hl 1 rfl) ?_
    refine va_get (D := D) (C := RX5) (T := TX5) (N := 40) hx hb hT inlX5 hown hK.1 hP 0 rfl rfl 2 (by decide) (hT _ fl_RX5_87) (fun _ h9 => h9) rfl dX5_count_46 ?_
    exact W.iret (v := (rI 2)) hx hb hr (fun t ht hW => ⟨⟨(rI 2), (), rfl, ⟨(congrArg Prod.fst (og_inj h)).symm, (congrArg Prod.snd (og_inj h)).symm⟩, (by rw [ht]; exact hP), hD⟩, hS.F ht⟩) hS.2.2 dX5_count_49
  replace h := og_neg c8 h
  by_cases c9 : u1 = (2 : Int32)
  · replace h := og_pos c9 h
    refine gs_in (off := 47) (tgt := 50) 2 c9 hx hb dX5_count_3 (by decide +kernel) (by decide) ?_
    refine lv_aload_n hx hb dX5_count_50 rfl (lv_at hl 1 rfl) ?_
    refine va_get (D := D) (C := RX5) (T := TX5) (N := 40) hx hb hT inlX5 hown hK.1 hP 0 rfl rfl 3 (by decide) (hT _ fl_RX5_93) (fun _ h9 => h9) rfl dX5_count_51 ?_
    exact W.iret (v := (rI 3)) hx hb hr (fun t ht hW => ⟨⟨(rI 3), (), rfl, ⟨(congrArg Prod.fst (og_inj h)).symm, (congrArg Prod.snd (og_inj h)).symm⟩, (by rw [ht]; exact hP), hD⟩, hS.F ht⟩) hS.2.2 dX5_count_54
  replace h := og_neg c9 h
  by_cases c10 : u1 = (3 : Int32)
  · replace h := og_pos c10 h
    refine gs_in (off := 52) (tgt := 55) 3 c10 hx hb dX5_count_3 (by decide +kernel) (by decide) ?_
    refine lv_aload_n hx hb dX5_count_55 rfl (lv_at hl 1 rfl) ?_
    refine va_get (D := D) (C := RX5) (T := TX5) (N := 40) hx hb hT inlX5 hown hK.1 hP 0 rfl rfl 12 (by decide) (hT _ fl_RX5_29) (fun _ h9 => h9) rfl dX5_count_56 ?_
    exact W.iret (v := (rI 6)) hx hb hr (fun t ht hW => ⟨⟨(rI 6), (), rfl, ⟨(congrArg Prod.fst (og_inj h)).symm, (congrArg Prod.snd (og_inj h)).symm⟩, (by rw [ht]; exact hP), hD⟩, hS.F ht⟩) hS.2.2 dX5_count_59
  replace h := og_neg c10 h
  by_cases c11 : u1 = (4 : Int32)
  · replace h := og_pos c11 h
    refine gs_in (off := 57) (tgt := 60) 4 c11 hx hb dX5_count_3 (by decide +kernel) (by decide) ?_
    refine lv_aload_n hx hb dX5_count_60 rfl (lv_at hl 1 rfl) ?_
    refine va_get (D := D) (C := RX5) (T := TX5) (N := 40) hx hb hT inlX5 hown hK.1 hP 0 rfl rfl 12 (by decide) (hT _ fl_RX5_29) (fun _ h9 => h9) rfl dX5_count_61 ?_
    refine lv_if_ge (tgt := 71) hx hb dX5_count_64 (by decide) (fun c5 => ?_) (fun c5 => ?_)
    · replace h := og_pos c5 h
      refine lv_aload_n hx hb dX5_count_71 rfl (lv_at hl 1 rfl) ?_
      obtain ⟨⟨r6, _u6⟩, e6, h⟩ := og_bind h
      try dsimp only at h
      refine gc_i (ws := (wl [gR cA aR rI rA rG] ++ gG cA K rR)) (wc := (wl [gR cA aR rI rA rG] ++ gG cA K rR)) (wr := (wl ([] : List va_W))) (ws' := (wl [gR cA aR rI rA rG] ++ gG cA K rR)) (va_runV (As := []) (rest := []) ⟨hx, hb, hml, hown, hT⟩ (k_X5_failures l D cA aR K s.heap.size n  rI rA rG rR _ e6) (cwV 0 hT gv_RX5_215 rfl rfl rfl (by decide +kernel) ⟨Nat.le_of_ble_eq_true rfl, Nat.le_of_ble_eq_true rfl⟩) (pre_V (ci := 5) (q0 := 0) (wr := (wl ([] : List va_W))) (pmB (f := fun i => ([gR cA aR rI rA rG] : List va_W).getD i []) [0] [0] [] (by decide)) hK hP hD rfl rfl) rfl rfl hl.1 rfl (lv_room (Nat.le_of_ble_eq_true rfl)) dX5_count_72 ⟨Nat.le_refl _, Nat.le_refl _⟩) (pmB (f := fun i => ([gR cA aR rI rA rG] : List va_W).getD i []) [0] [0] [] (by decide)) hP hD hS hA (pmB (f := fun i => ([gR cA aR rI rA rG] : List va_W).getD i []) [0] [0] [] (by decide)) (fun H locs hP hD hS => ?_)
      exact W.iret (v := r6) hx hb hr (fun t ht hW => ⟨⟨r6, (), rfl, ⟨(congrArg Prod.fst (og_inj h)).symm, (congrArg Prod.snd (og_inj h)).symm⟩, (by rw [ht]; exact hP), hD⟩, hS.F ht⟩) hS.2.2 dX5_count_75
    · replace h := og_neg c5 h
      refine lv_iconst (v := (-1 : Int32)) hx hb dX5_count_67 (by decide) ?_
      refine lv_goto (tgt := 75) hx hb dX5_count_68 (by decide) ?_
      exact W.iret (v := (-1 : Int32)) hx hb hr (fun t ht hW => ⟨⟨(-1 : Int32), (), rfl, ⟨(congrArg Prod.fst (og_inj h)).symm, (congrArg Prod.snd (og_inj h)).symm⟩, (by rw [ht]; exact hP), hD⟩, hS.F ht⟩) hS.2.2 dX5_count_75
  replace h := og_neg c11 h
  by_cases c12 : u1 = (5 : Int32)
  · replace h := og_pos c12 h
    refine gs_in (off := 73) (tgt := 76) 5 c12 hx hb dX5_count_3 (by decide +kernel) (by decide) ?_
    refine lv_iconst (v := (0 : Int32)) hx hb dX5_count_76 (by decide) ?_
    refine lv_istore_n (lv' := [(3, .int (0 : Int32)), (2, .int (0 : Int32)), (0, .ref (aR 0)), (1, .int u1)]) hx hb dX5_count_77 rfl hl (by decide) rfl (fun ls hl => ?_)
    exact b78   n _ _ _ _ _ h hP hD hS (lv_sub hl [2, 1, 0] rfl)
  replace h := og_neg c12 h
  refine lv_tableOut (tgt := 122) hx hb dX5_count_3 (gs_out 6 (by decide) (fun k9 hk9 => ?_)) (by decide) ?_
  · rcases (show k9 = 0 ∨ k9 = 1 ∨ k9 = 2 ∨ k9 = 3 ∨ k9 = 4 ∨ k9 = 5 by omega) with rfl | rfl | rfl | rfl | rfl | rfl
    · exact gs_ne c7 (by decide +kernel)
    · exact gs_ne c8 (by decide +kernel)
    · exact gs_ne c9 (by decide +kernel)
    · exact gs_ne c10 (by decide +kernel)
    · exact gs_ne c11 (by decide +kernel)
    · exact gs_ne c12 (by decide +kernel)
  refine lv_iconst (v := (-1 : Int32)) hx hb dX5_count_122 (by decide) ?_
  exact W.iret (v := (-1 : Int32)) hx hb hr (fun t ht hW => ⟨⟨(-1 : Int32), (), rfl, ⟨(congrArg Prod.fst (og_inj h)).symm, (congrArg Prod.snd (og_inj h)).symm⟩, (by rw [ht]; exact hP), hD⟩, hS.F ht⟩) hS.2.2 dX5_count_123
