set_option maxRecDepth 100000 in
set_option maxHeartbeats 8000000 in
theorem k_X5_isPath (l : Launch) (D : va_G) (cA : Nat → ClassId) (aR : Nat → Nat) (K : List Nat) (sz : Nat) (n : Nat) (u1 : Int32) (rI : Nat → Int32) (rA : Nat → Nat → Int32) (rG : Nat → Option Nat) (rR : Nat → Nat → Int32) (R : Int32 × Unit) (h : f_X5_isPath n K u1 rI rA rG rR = some R) : Met l yX5_isPath (wsU yX5_isPath cX5_isPath 4 (some .boolean)) ({ frames := 0, cells := 0, slots := 0, locals := 0 }) (PcW D cA (wl [gR cA aR rI rA rG] ++ gG cA K rR) sz [.ref (aR 0), .int u1]) (QI D (fun _ : Unit => (wl [gR cA aR rI rA rG] ++ gG cA K rR)) R (va_A (wl [gR cA aR rI rA rG] ++ gG cA K rR) sz)) 0 0 (va_A (wl [gR cA aR rI rA rG] ++ gG cA K rR) sz) := by
  refine Met.ofW (cc := cX5_isPath) (maxL := 4) (ret := (some .boolean)) (by decide) rfl ?_
  intro p e s m args below meth c s₁ B hml hv
  obtain ⟨rfl, hsz, hP, hK, hD0⟩ := hv
  have hx := B.exec
  have hb := B.bytes
  have hr := B.returns
  have hts := atoms_spec (ws := (wsU yX5_isPath cX5_isPath 4 (some .boolean))) B.pre
  have hT : ∀ w ∈ wsL_law, w.before ([.ref (aR 0), .int u1] : List Value).toArray s = true := fun w h => hts w (List.mem_cons_of_mem _ h)
  have hown : s.vm.findClass RX5 = some m.cls := findClass_of_methodNamed B.named
  have hlocks := B.notSynchronized
  have hN := hK.2
  subst hsz
  have hD := hD0.self (sz := s.heap.size)
  generalize hAe : va_A (wl [gR cA aR rI rA rG] ++ gG cA K rR) s.heap.size = A at hD ⊢
  have hA : ∀ q : Nat, s.heap.size ≤ q → A q := fun q h => by rw [← hAe]; exact Or.inr h
  have hS : va_S A s.heap s.heap [] := va_S.rf
  have hl := lv_entry ([.ref (aR 0), .int u1]) (n := 4) (Nat.le_of_ble_eq_true rfl)
  rw [lg_entry_eq]
  generalize (lg_sl ([.ref (aR 0), .int u1]) ++ List.replicate (4 - (lg_sl ([.ref (aR 0), .int u1])).length) Slot.unset).toArray = ls at hl ⊢
  have hl : lv_has ls 4 [(0, .ref (aR 0)), (1, .int u1)] := hl
  have b55 : ∀ (x1 : Int32) (rc21 : (Int32 × Int32) → Option (Int32 × Unit)) (hr21 : ∀ (x2 : Int32) (x3 : Int32) (H : Heap) (locs : List Loc) (ls : Array Slot), rc21 (x2, x3) = some R → va_P D vwCl (wl [gR cA aR rI rA rG] ++ gG cA K rR) H → va_D A (wl [gR cA aR rI rA rG] ++ gG cA K rR) → va_S A s.heap H locs → lv_has ls 4 [(0, .ref (aR 0)), (1, .int x1), (2, .int x2), (3, .int x3)] → W p l e (headSpec (wsU yX5_isPath cX5_isPath 4 (some .boolean)) ({ frames := 0, cells := 0, slots := 0, locals := 0 })).room s m ([.ref (aR 0), .int u1] : List Value).toArray below meth c H locs 0 0 (MQ below (QI D (fun _ : Unit => (wl [gR cA aR rI rA rG] ++ gG cA K rR)) R A) ([.ref (aR 0), .int u1] : List Value).toArray s 0 0 A) (F0 m 21 ls [])) (x3 : Int32) (y0 : Int32) (H : Heap) (locs : List Loc) (ls : Array Slot), f_X5_isPath_b55 n K rc21 x1 x3 y0 rI rA rG rR = some R → va_P D vwCl (wl [gR cA aR rI rA rG] ++ gG cA K rR) H → va_D A (wl [gR cA aR rI rA rG] ++ gG cA K rR) → va_S A s.heap H locs → lv_has ls 4 [(0, .ref (aR 0)), (1, .int x1), (3, .int x3)] → W p l e (headSpec (wsU yX5_isPath cX5_isPath 4 (some .boolean)) ({ frames := 0, cells := 0, slots := 0, locals := 0 })).room s m ([.ref (aR 0), .int u1] : List Value).toArray below meth c H locs 0 0 (MQ below (QI D (fun _ : Unit => (wl [gR cA aR rI rA rG] ++ gG cA K rR)) R A) ([.ref (aR 0), .int u1] : List Value).toArray s 0 0 A) (F0 m 55 ls [.int y0]) := by
    intro x1 rc21 hr21 x3 y0 H locs ls h hP hD hS hl
    unfold f_X5_isPath_b55 at h
    refine lv_istore_n (lv' := [(2, .int y0), (0, .ref (aR 0)), (1, .int x1), (3, .int x3)]) hx hb dX5_isPath_55 rfl hl (by decide) rfl (fun ls hl => ?_)
    refine lv_iinc (v := (x3 + 1)) (lv' := [(3, .int (x3 + 1)), (2, .int y0), (0, .ref (aR 0)), (1, .int x1)]) hx hb dX5_isPath_56 hl (k := 3) rfl rfl (by decide) rfl (fun ls hl => ?_)
    refine lv_goto (tgt := 21) hx hb dX5_isPath_59 (by decide) ?_
    exact hr21 _ _ _ _ _ h hP hD hS (lv_sub hl [2, 3, 1, 0] rfl)
  have b21 : ∀ (x1 : Int32) (nn : Nat), ∀ (x2 : Int32) (x3 : Int32) (H : Heap) (locs : List Loc) (ls : Array Slot), lp (f_X5_isPath_l21 n K x1 rI rA rG rR) nn (x2, x3) = some R → va_P D vwCl (wl [gR cA aR rI rA rG] ++ gG cA K rR) H → va_D A (wl [gR cA aR rI rA rG] ++ gG cA K rR) → va_S A s.heap H locs → lv_has ls 4 [(0, .ref (aR 0)), (1, .int x1), (2, .int x2), (3, .int x3)] → W p l e (headSpec (wsU yX5_isPath cX5_isPath 4 (some .boolean)) ({ frames := 0, cells := 0, slots := 0, locals := 0 })).room s m ([.ref (aR 0), .int u1] : List Value).toArray below meth c H locs 0 0 (MQ below (QI D (fun _ : Unit => (wl [gR cA aR rI rA rG] ++ gG cA K rR)) R A) ([.ref (aR 0), .int u1] : List Value).toArray s 0 0 A) (F0 m 21 ls []) := by
    intro x1 nn
    induction nn with
    | zero =>
      intro x2 x3 H locs ls h hP hD hS hl
      exact (lp_zero h).elim
    | succ nn hr21 =>
      intro x2 x3 H locs ls h hP hD hS hl
      rw [lp_succ] at h
      unfold f_X5_isPath_l21 at h
      try dsimp only at h
      refine lv_iload_n hx hb dX5_isPath_21 rfl (lv_at hl 3 rfl) ?_
      refine lv_aload_n hx hb dX5_isPath_22 rfl (lv_at hl 0 rfl) ?_
      refine va_get (D := D) (C := RX5) (T := TX5) (N := 40) hx hb hT inlX5 hown hK.1 hP 0 rfl rfl 29 (by decide) (hT _ fl_RX5_148) (fun _ h9 => h9) rfl dX5_isPath_23 ?_
      refine lv_icmp_ge (tgt := 62) hx hb dX5_isPath_26 (by decide) (fun c1 => ?_) (fun c1 => ?_)
      · replace h := og_pos c1 h
        refine lv_iload_n hx hb dX5_isPath_62 rfl (lv_at hl 2 rfl) ?_
        obtain ⟨gz, h⟩ := og_guard h
        exact W.zret (v := x2) hx hb hr (bo_nar gz) (fun t ht hW => ⟨⟨x2, (), rfl, ⟨(congrArg Prod.fst (og_inj h)).symm, (congrArg Prod.snd (og_inj h)).symm⟩, (by rw [ht]; exact hP), hD⟩, hS.F ht⟩) hS.2.2 dX5_isPath_63
      · replace h := og_neg c1 h
        refine lv_iload_n hx hb dX5_isPath_29 rfl (lv_at hl 2 rfl) ?_
        refine lv_if_eq (tgt := 62) hx hb dX5_isPath_30 (by decide) (fun c2 => ?_) (fun c2 => ?_)
        · replace h := og_pos c2 h
          refine lv_iload_n hx hb dX5_isPath_62 rfl (lv_at hl 2 rfl) ?_
          obtain ⟨gz, h⟩ := og_guard h
          exact W.zret (v := x2) hx hb hr (bo_nar gz) (fun t ht hW => ⟨⟨x2, (), rfl, ⟨(congrArg Prod.fst (og_inj h)).symm, (congrArg Prod.snd (og_inj h)).symm⟩, (by rw [ht]; exact hP), hD⟩, hS.F ht⟩) hS.2.2 dX5_isPath_63
        · replace h := og_neg c2 h
          refine lv_aload_n hx hb dX5_isPath_33 rfl (lv_at hl 0 rfl) ?_
          refine va_get (D := D) (C := RX5) (T := TX5) (N := 40) hx hb hT inlX5 hown hK.1 hP 0 rfl rfl 18 (by decide) (hT _ fl_RX5_50) (fun _ h9 => h9) rfl dX5_isPath_34 ?_
          refine lv_iload_n hx hb dX5_isPath_37 rfl (lv_at hl 1 rfl) ?_
          obtain ⟨g3, h⟩ := og_guard h
          refine va_alda hx hb hK.1 hP 12 4 rfl rfl (inb_vp g3) dX5_isPath_38 ?_
          obtain ⟨a4, e5, h⟩ := og_bind h
          obtain ⟨m6, h⟩ := og_guard h
          refine gr_some e5 ?_
          refine lv_iload_n hx hb dX5_isPath_39 rfl (lv_at hl 3 rfl) ?_
          obtain ⟨g8, h⟩ := og_guard h
          obtain ⟨kq7, hkq7⟩ := va_pl_get (X := (wl [gR cA aR rI rA rG])) (f := fR cA rR) m6
          refine va_iald hx hb hK.1 hP kq7 0 hkq7 rfl (inb_vp g8) dX5_isPath_40 ?_
          refine lv_aload_n hx hb dX5_isPath_41 rfl (lv_at hl 0 rfl) ?_
          refine va_get (D := D) (C := RX5) (T := TX5) (N := 40) hx hb hT inlX5 hown hK.1 hP 0 rfl rfl 24 (by decide) (hT _ fl_RX5_68) (fun _ h9 => h9) rfl dX5_isPath_42 ?_
          refine lv_iload_n hx hb dX5_isPath_45 rfl (lv_at hl 3 rfl) ?_
          obtain ⟨g9, h⟩ := og_guard h
          refine va_iald hx hb hK.1 hP 18 0 rfl rfl (inb_vp g9) dX5_isPath_46 ?_
          refine lv_icmp_ne (tgt := 54) hx hb dX5_isPath_47 (by decide) (fun c10 => ?_) (fun c10 => ?_)
          · replace h := og_neg c10 h
            refine lv_iconst (v := (0 : Int32)) hx hb dX5_isPath_54 (by decide) ?_
            exact b55 _ _ hr21 _ _ _ _ _ h hP hD hS (lv_sub hl [0, 1, 3] rfl)
          · replace h := og_pos c10 h
            refine lv_iconst (v := (1 : Int32)) hx hb dX5_isPath_50 (by decide) ?_
            refine lv_goto (tgt := 55) hx hb dX5_isPath_51 (by decide) ?_
            exact b55 _ _ hr21 _ _ _ _ _ h hP hD hS (lv_sub hl [0, 1, 3] rfl)
  have b18 : ∀ (x1 : Int32) (y0 : Int32) (H : Heap) (locs : List Loc) (ls : Array Slot), f_X5_isPath_b18 n K x1 y0 rI rA rG rR = some R → va_P D vwCl (wl [gR cA aR rI rA rG] ++ gG cA K rR) H → va_D A (wl [gR cA aR rI rA rG] ++ gG cA K rR) → va_S A s.heap H locs → lv_has ls 4 [(0, .ref (aR 0)), (1, .int x1)] → W p l e (headSpec (wsU yX5_isPath cX5_isPath 4 (some .boolean)) ({ frames := 0, cells := 0, slots := 0, locals := 0 })).room s m ([.ref (aR 0), .int u1] : List Value).toArray below meth c H locs 0 0 (MQ below (QI D (fun _ : Unit => (wl [gR cA aR rI rA rG] ++ gG cA K rR)) R A) ([.ref (aR 0), .int u1] : List Value).toArray s 0 0 A) (F0 m 18 ls [.int y0]) := by
    intro x1 y0 H locs ls h hP hD hS hl
    unfold f_X5_isPath_b18 at h
    refine lv_istore_n (lv' := [(2, .int y0), (0, .ref (aR 0)), (1, .int x1)]) hx hb dX5_isPath_18 rfl hl (by decide) rfl (fun ls hl => ?_)
    refine lv_iconst (v := (0 : Int32)) hx hb dX5_isPath_19 (by decide) ?_
    refine lv_istore_n (lv' := [(3, .int (0 : Int32)), (2, .int y0), (0, .ref (aR 0)), (1, .int x1)]) hx hb dX5_isPath_20 rfl hl (by decide) rfl (fun ls hl => ?_)
    exact b21  _ n _ _ _ _ _ h hP hD hS (lv_sub hl [2, 3, 1, 0] rfl)
  unfold f_X5_isPath at h
  refine lv_aload_n hx hb dX5_isPath_0 rfl (lv_at hl 0 rfl) ?_
  refine va_get (D := D) (C := RX5) (T := TX5) (N := 40) hx hb hT inlX5 hown hK.1 hP 0 rfl rfl 15 (by decide) (hT _ fl_RX5_39) (fun _ h9 => h9) rfl dX5_isPath_1 ?_
  refine lv_iload_n hx hb dX5_isPath_4 rfl (lv_at hl 1 rfl) ?_
  obtain ⟨g11, h⟩ := og_guard h
  refine va_iald hx hb hK.1 hP 9 0 rfl rfl (inb_vp g11) dX5_isPath_5 ?_
  refine lv_aload_n hx hb dX5_isPath_6 rfl (lv_at hl 0 rfl) ?_
  refine va_get (D := D) (C := RX5) (T := TX5) (N := 40) hx hb hT inlX5 hown hK.1 hP 0 rfl rfl 29 (by decide) (hT _ fl_RX5_148) (fun _ h9 => h9) rfl dX5_isPath_7 ?_
  refine lv_icmp_ne (tgt := 17) hx hb dX5_isPath_10 (by decide) (fun c12 => ?_) (fun c12 => ?_)
  · replace h := og_neg c12 h
    refine lv_iconst (v := (0 : Int32)) hx hb dX5_isPath_17 (by decide) ?_
    exact b18  _ _ _ _ _ h hP hD hS (lv_sub hl [0, 1] rfl)
  · replace h := og_pos c12 h
    refine lv_iconst (v := (1 : Int32)) hx hb dX5_isPath_13 (by decide) ?_
    refine lv_goto (tgt := 18) hx hb dX5_isPath_14 (by decide) ?_
    exact b18  _ _ _ _ _ h hP hD hS (lv_sub hl [0, 1] rfl)
set_option maxRecDepth 100000 in
set_option maxHeartbeats 8000000 in
theorem k_X5_isAhead (l : Launch) (D : va_G) (cA : Nat → ClassId) (aR : Nat → Nat) (K : List Nat) (sz : Nat) (n : Nat) (u1 : Int32) (u2 : Int32) (rI : Nat → Int32) (rA : Nat → Nat → Int32) (rG : Nat → Option Nat) (rR : Nat → Nat → Int32) (R : Int32 × Unit) (h : f_X5_isAhead n K u1 u2 rA rG rR = some R) : Met l yX5_isAhead (wsU yX5_isAhead cX5_isAhead 4 (some .boolean)) ({ frames := 0, cells := 0, slots := 0, locals := 0 }) (PcW D cA (wl [gR cA aR rI rA rG] ++ gG cA K rR) sz [.ref (aR 0), .int u1, .int u2]) (QI D (fun _ : Unit => (wl [gR cA aR rI rA rG] ++ gG cA K rR)) R (va_A (wl [gR cA aR rI rA rG] ++ gG cA K rR) sz)) 0 0 (va_A (wl [gR cA aR rI rA rG] ++ gG cA K rR) sz) := by
  refine Met.ofW (cc := cX5_isAhead) (maxL := 4) (ret := (some .boolean)) (by decide) rfl ?_
  intro p e s m args below meth c s₁ B hml hv
  obtain ⟨rfl, hsz, hP, hK, hD0⟩ := hv
  have hx := B.exec
  have hb := B.bytes
  have hr := B.returns
  have hts := atoms_spec (ws := (wsU yX5_isAhead cX5_isAhead 4 (some .boolean))) B.pre
  have hT : ∀ w ∈ wsL_law, w.before ([.ref (aR 0), .int u1, .int u2] : List Value).toArray s = true := fun w h => hts w (List.mem_cons_of_mem _ h)
  have hown : s.vm.findClass RX5 = some m.cls := findClass_of_methodNamed B.named
  have hlocks := B.notSynchronized
  have hN := hK.2
  subst hsz
  have hD := hD0.self (sz := s.heap.size)
  generalize hAe : va_A (wl [gR cA aR rI rA rG] ++ gG cA K rR) s.heap.size = A at hD ⊢
  have hA : ∀ q : Nat, s.heap.size ≤ q → A q := fun q h => by rw [← hAe]; exact Or.inr h
  have hS : va_S A s.heap s.heap [] := va_S.rf
  have hl := lv_entry ([.ref (aR 0), .int u1, .int u2]) (n := 4) (Nat.le_of_ble_eq_true rfl)
  rw [lg_entry_eq]
  generalize (lg_sl ([.ref (aR 0), .int u1, .int u2]) ++ List.replicate (4 - (lg_sl ([.ref (aR 0), .int u1, .int u2])).length) Slot.unset).toArray = ls at hl ⊢
  have hl : lv_has ls 4 [(0, .ref (aR 0)), (1, .int u1), (2, .int u2)] := hl
  have b47 : ∀ (x1 : Int32) (x2 : Int32) (x3 : Int32) (H : Heap) (locs : List Loc) (ls : Array Slot), f_X5_isAhead_b47 n K x1 x2 x3 rA rG rR = some R → va_P D vwCl (wl [gR cA aR rI rA rG] ++ gG cA K rR) H → va_D A (wl [gR cA aR rI rA rG] ++ gG cA K rR) → va_S A s.heap H locs → lv_has ls 4 [(0, .ref (aR 0)), (1, .int x1), (2, .int x2), (3, .int x3)] → W p l e (headSpec (wsU yX5_isAhead cX5_isAhead 4 (some .boolean)) ({ frames := 0, cells := 0, slots := 0, locals := 0 })).room s m ([.ref (aR 0), .int u1, .int u2] : List Value).toArray below meth c H locs 0 0 (MQ below (QI D (fun _ : Unit => (wl [gR cA aR rI rA rG] ++ gG cA K rR)) R A) ([.ref (aR 0), .int u1, .int u2] : List Value).toArray s 0 0 A) (F0 m 47 ls []) := by
    intro x1 x2 x3 H locs ls h hP hD hS hl
    unfold f_X5_isAhead_b47 at h
    refine lv_iload_n hx hb dX5_isAhead_47 rfl (lv_at hl 3 rfl) ?_
    refine lv_aload_n hx hb dX5_isAhead_48 rfl (lv_at hl 0 rfl) ?_
    refine va_get (D := D) (C := RX5) (T := TX5) (N := 40) hx hb hT inlX5 hown hK.1 hP 0 rfl rfl 15 (by decide) (hT _ fl_RX5_39) (fun _ h9 => h9) rfl dX5_isAhead_49 ?_
    refine lv_iload_n hx hb dX5_isAhead_52 rfl (lv_at hl 1 rfl) ?_
    obtain ⟨g1, h⟩ := og_guard h
    refine va_iald hx hb hK.1 hP 9 0 rfl rfl (inb_vp g1) dX5_isAhead_53 ?_
    refine lv_icmp_ge (tgt := 90) hx hb dX5_isAhead_54 (by decide) (fun c2 => ?_) (fun c2 => ?_)
    · replace h := og_pos c2 h
      refine lv_iconst (v := (0 : Int32)) hx hb dX5_isAhead_90 (by decide) ?_
      exact W.zret (v := (0 : Int32)) hx hb hr (by decide +kernel) (fun t ht hW => ⟨⟨(0 : Int32), (), rfl, ⟨(congrArg Prod.fst (og_inj h)).symm, (congrArg Prod.snd (og_inj h)).symm⟩, (by rw [ht]; exact hP), hD⟩, hS.F ht⟩) hS.2.2 dX5_isAhead_91
    · replace h := og_neg c2 h
      refine lv_iload_n hx hb dX5_isAhead_57 rfl (lv_at hl 3 rfl) ?_
      refine lv_aload_n hx hb dX5_isAhead_58 rfl (lv_at hl 0 rfl) ?_
      refine va_get (D := D) (C := RX5) (T := TX5) (N := 40) hx hb hT inlX5 hown hK.1 hP 0 rfl rfl 15 (by decide) (hT _ fl_RX5_39) (fun _ h9 => h9) rfl dX5_isAhead_59 ?_
      refine lv_iload_n hx hb dX5_isAhead_62 rfl (lv_at hl 2 rfl) ?_
      obtain ⟨g3, h⟩ := og_guard h
      refine va_iald hx hb hK.1 hP 9 0 rfl rfl (inb_vp g3) dX5_isAhead_63 ?_
      refine lv_icmp_ge (tgt := 90) hx hb dX5_isAhead_64 (by decide) (fun c4 => ?_) (fun c4 => ?_)
      · replace h := og_pos c4 h
        refine lv_iconst (v := (0 : Int32)) hx hb dX5_isAhead_90 (by decide) ?_
        exact W.zret (v := (0 : Int32)) hx hb hr (by decide +kernel) (fun t ht hW => ⟨⟨(0 : Int32), (), rfl, ⟨(congrArg Prod.fst (og_inj h)).symm, (congrArg Prod.snd (og_inj h)).symm⟩, (by rw [ht]; exact hP), hD⟩, hS.F ht⟩) hS.2.2 dX5_isAhead_91
      · replace h := og_neg c4 h
        refine lv_aload_n hx hb dX5_isAhead_67 rfl (lv_at hl 0 rfl) ?_
        refine va_get (D := D) (C := RX5) (T := TX5) (N := 40) hx hb hT inlX5 hown hK.1 hP 0 rfl rfl 18 (by decide) (hT _ fl_RX5_50) (fun _ h9 => h9) rfl dX5_isAhead_68 ?_
        refine lv_iload_n hx hb dX5_isAhead_71 rfl (lv_at hl 1 rfl) ?_
        obtain ⟨g5, h⟩ := og_guard h
        refine va_alda hx hb hK.1 hP 12 4 rfl rfl (inb_vp g5) dX5_isAhead_72 ?_
        obtain ⟨a6, e7, h⟩ := og_bind h
        obtain ⟨m8, h⟩ := og_guard h
        refine gr_some e7 ?_
        refine lv_iload_n hx hb dX5_isAhead_73 rfl (lv_at hl 3 rfl) ?_
        obtain ⟨g10, h⟩ := og_guard h
        obtain ⟨kq9, hkq9⟩ := va_pl_get (X := (wl [gR cA aR rI rA rG])) (f := fR cA rR) m8
        refine va_iald hx hb hK.1 hP kq9 0 hkq9 rfl (inb_vp g10) dX5_isAhead_74 ?_
        refine lv_aload_n hx hb dX5_isAhead_75 rfl (lv_at hl 0 rfl) ?_
        refine va_get (D := D) (C := RX5) (T := TX5) (N := 40) hx hb hT inlX5 hown hK.1 hP 0 rfl rfl 18 (by decide) (hT _ fl_RX5_50) (fun _ h9 => h9) rfl dX5_isAhead_76 ?_
        refine lv_iload_n hx hb dX5_isAhead_79 rfl (lv_at hl 2 rfl) ?_
        obtain ⟨g11, h⟩ := og_guard h
        refine va_alda hx hb hK.1 hP 12 4 rfl rfl (inb_vp g11) dX5_isAhead_80 ?_
        obtain ⟨a12, e13, h⟩ := og_bind h
        obtain ⟨m14, h⟩ := og_guard h
        refine gr_some e13 ?_
        refine lv_iload_n hx hb dX5_isAhead_81 rfl (lv_at hl 3 rfl) ?_
        obtain ⟨g16, h⟩ := og_guard h
        obtain ⟨kq15, hkq15⟩ := va_pl_get (X := (wl [gR cA aR rI rA rG])) (f := fR cA rR) m14
        refine va_iald hx hb hK.1 hP kq15 0 hkq15 rfl (inb_vp g16) dX5_isAhead_82 ?_
        refine lv_icmp_le (tgt := 90) hx hb dX5_isAhead_83 (by decide) (fun c17 => ?_) (fun c17 => ?_)
        · replace h := og_pos c17 h
          refine lv_iconst (v := (0 : Int32)) hx hb dX5_isAhead_90 (by decide) ?_
          exact W.zret (v := (0 : Int32)) hx hb hr (by decide +kernel) (fun t ht hW => ⟨⟨(0 : Int32), (), rfl, ⟨(congrArg Prod.fst (og_inj h)).symm, (congrArg Prod.snd (og_inj h)).symm⟩, (by rw [ht]; exact hP), hD⟩, hS.F ht⟩) hS.2.2 dX5_isAhead_91
        · replace h := og_neg c17 h
          refine lv_iconst (v := (1 : Int32)) hx hb dX5_isAhead_86 (by decide) ?_
          refine lv_goto (tgt := 91) hx hb dX5_isAhead_87 (by decide) ?_
          exact W.zret (v := (1 : Int32)) hx hb hr (by decide +kernel) (fun t ht hW => ⟨⟨(1 : Int32), (), rfl, ⟨(congrArg Prod.fst (og_inj h)).symm, (congrArg Prod.snd (og_inj h)).symm⟩, (by rw [ht]; exact hP), hD⟩, hS.F ht⟩) hS.2.2 dX5_isAhead_91
  have b2 : ∀ (x1 : Int32) (x2 : Int32) (nn : Nat), ∀ (x3 : Int32) (H : Heap) (locs : List Loc) (ls : Array Slot), lp (f_X5_isAhead_l2 n K x1 x2 rA rG rR) nn (x3) = some R → va_P D vwCl (wl [gR cA aR rI rA rG] ++ gG cA K rR) H → va_D A (wl [gR cA aR rI rA rG] ++ gG cA K rR) → va_S A s.heap H locs → lv_has ls 4 [(0, .ref (aR 0)), (1, .int x1), (2, .int x2), (3, .int x3)] → W p l e (headSpec (wsU yX5_isAhead cX5_isAhead 4 (some .boolean)) ({ frames := 0, cells := 0, slots := 0, locals := 0 })).room s m ([.ref (aR 0), .int u1, .int u2] : List Value).toArray below meth c H locs 0 0 (MQ below (QI D (fun _ : Unit => (wl [gR cA aR rI rA rG] ++ gG cA K rR)) R A) ([.ref (aR 0), .int u1, .int u2] : List Value).toArray s 0 0 A) (F0 m 2 ls []) := by
    intro x1 x2 nn
    induction nn with
    | zero =>
      intro x3 H locs ls h hP hD hS hl
      exact (lp_zero h).elim
    | succ nn hr2 =>
      intro x3 H locs ls h hP hD hS hl
      rw [lp_succ] at h
      unfold f_X5_isAhead_l2 at h
      try dsimp only at h
      refine lv_iload_n hx hb dX5_isAhead_2 rfl (lv_at hl 3 rfl) ?_
      refine lv_aload_n hx hb dX5_isAhead_3 rfl (lv_at hl 0 rfl) ?_
      refine va_get (D := D) (C := RX5) (T := TX5) (N := 40) hx hb hT inlX5 hown hK.1 hP 0 rfl rfl 15 (by decide) (hT _ fl_RX5_39) (fun _ h9 => h9) rfl dX5_isAhead_4 ?_
      refine lv_iload_n hx hb dX5_isAhead_7 rfl (lv_at hl 1 rfl) ?_
      obtain ⟨g18, h⟩ := og_guard h
      refine va_iald hx hb hK.1 hP 9 0 rfl rfl (inb_vp g18) dX5_isAhead_8 ?_
      refine lv_icmp_ge (tgt := 47) hx hb dX5_isAhead_9 (by decide) (fun c19 => ?_) (fun c19 => ?_)
      · replace h := og_pos c19 h
        exact b47  _ _ _ _ _ _ h hP hD hS (lv_sub hl [0, 1, 2, 3] rfl)
      · replace h := og_neg c19 h
        refine lv_iload_n hx hb dX5_isAhead_12 rfl (lv_at hl 3 rfl) ?_
        refine lv_aload_n hx hb dX5_isAhead_13 rfl (lv_at hl 0 rfl) ?_
        refine va_get (D := D) (C := RX5) (T := TX5) (N := 40) hx hb hT inlX5 hown hK.1 hP 0 rfl rfl 15 (by decide) (hT _ fl_RX5_39) (fun _ h9 => h9) rfl dX5_isAhead_14 ?_
        refine lv_iload_n hx hb dX5_isAhead_17 rfl (lv_at hl 2 rfl) ?_
        obtain ⟨g20, h⟩ := og_guard h
        refine va_iald hx hb hK.1 hP 9 0 rfl rfl (inb_vp g20) dX5_isAhead_18 ?_
        refine lv_icmp_ge (tgt := 47) hx hb dX5_isAhead_19 (by decide) (fun c21 => ?_) (fun c21 => ?_)
        · replace h := og_pos c21 h
          exact b47  _ _ _ _ _ _ h hP hD hS (lv_sub hl [0, 1, 2, 3] rfl)
        · replace h := og_neg c21 h
          refine lv_aload_n hx hb dX5_isAhead_22 rfl (lv_at hl 0 rfl) ?_
          refine va_get (D := D) (C := RX5) (T := TX5) (N := 40) hx hb hT inlX5 hown hK.1 hP 0 rfl rfl 18 (by decide) (hT _ fl_RX5_50) (fun _ h9 => h9) rfl dX5_isAhead_23 ?_
          refine lv_iload_n hx hb dX5_isAhead_26 rfl (lv_at hl 1 rfl) ?_
          obtain ⟨g22, h⟩ := og_guard h
          refine va_alda hx hb hK.1 hP 12 4 rfl rfl (inb_vp g22) dX5_isAhead_27 ?_
          obtain ⟨a23, e24, h⟩ := og_bind h
          obtain ⟨m25, h⟩ := og_guard h
          refine gr_some e24 ?_
          refine lv_iload_n hx hb dX5_isAhead_28 rfl (lv_at hl 3 rfl) ?_
          obtain ⟨g27, h⟩ := og_guard h
          obtain ⟨kq26, hkq26⟩ := va_pl_get (X := (wl [gR cA aR rI rA rG])) (f := fR cA rR) m25
          refine va_iald hx hb hK.1 hP kq26 0 hkq26 rfl (inb_vp g27) dX5_isAhead_29 ?_
          refine lv_aload_n hx hb dX5_isAhead_30 rfl (lv_at hl 0 rfl) ?_
          refine va_get (D := D) (C := RX5) (T := TX5) (N := 40) hx hb hT inlX5 hown hK.1 hP 0 rfl rfl 18 (by decide) (hT _ fl_RX5_50) (fun _ h9 => h9) rfl dX5_isAhead_31 ?_
          refine lv_iload_n hx hb dX5_isAhead_34 rfl (lv_at hl 2 rfl) ?_
          obtain ⟨g28, h⟩ := og_guard h
          refine va_alda hx hb hK.1 hP 12 4 rfl rfl (inb_vp g28) dX5_isAhead_35 ?_
          obtain ⟨a29, e30, h⟩ := og_bind h
          obtain ⟨m31, h⟩ := og_guard h
          refine gr_some e30 ?_
          refine lv_iload_n hx hb dX5_isAhead_36 rfl (lv_at hl 3 rfl) ?_
          obtain ⟨g33, h⟩ := og_guard h
          obtain ⟨kq32, hkq32⟩ := va_pl_get (X := (wl [gR cA aR rI rA rG])) (f := fR cA rR) m31
          refine va_iald hx hb hK.1 hP kq32 0 hkq32 rfl (inb_vp g33) dX5_isAhead_37 ?_
          refine lv_icmp_ne (tgt := 47) hx hb dX5_isAhead_38 (by decide) (fun c34 => ?_) (fun c34 => ?_)
          · replace h := og_neg c34 h
            exact b47  _ _ _ _ _ _ h hP hD hS (lv_sub hl [0, 1, 2, 3] rfl)
          · replace h := og_pos c34 h
            refine lv_iinc (v := (x3 + 1)) (lv' := [(3, .int (x3 + 1)), (0, .ref (aR 0)), (1, .int x1), (2, .int x2)]) hx hb dX5_isAhead_41 hl (k := 3) rfl rfl (by decide) rfl (fun ls hl => ?_)
            refine lv_goto (tgt := 2) hx hb dX5_isAhead_44 (by decide) ?_
            exact hr2 _ _ _ _ h hP hD hS (lv_sub hl [1, 2, 3, 0] rfl)
  unfold f_X5_isAhead at h
  refine lv_iconst (v := (0 : Int32)) hx hb dX5_isAhead_0 (by decide) ?_
  refine lv_istore_n (lv' := [(3, .int (0 : Int32)), (0, .ref (aR 0)), (1, .int u1), (2, .int u2)]) hx hb dX5_isAhead_1 rfl hl (by decide) rfl (fun ls hl => ?_)
  exact b2  _ _ n _ _ _ _ h hP hD hS (lv_sub hl [1, 2, 3, 0] rfl)
set_option maxRecDepth 100000 in
set_option maxHeartbeats 8000000 in
theorem k_X5_exchange (l : Launch) (D : va_G) (cA : Nat → ClassId) (aR : Nat → Nat) (K : List Nat) (sz : Nat) (n : Nat) (u1 : Int32) (u2 : Int32) (rI : Nat → Int32) (rA : Nat → Nat → Int32) (rG : Nat → Option Nat) (rR : Nat → Nat → Int32) (R : (Nat → Nat → Int32) × (Nat → Nat → Int32)) (h : f_X5_exchange n K u1 u2 rI rA rG rR = some R) : Met l yX5_exchange (wsU yX5_exchange cX5_exchange 6 none) ({ frames := 1, cells := 0, slots := 0, locals := 23 }) (PcW D cA (wl [gR cA aR rI rA rG] ++ gG cA K rR) sz [.ref (aR 0), .int u1, .int u2]) (QV D (fun u : (Nat → Nat → Int32) × (Nat → Nat → Int32) => (wl [gR cA aR rI u.1 rG] ++ gG cA K u.2)) R (va_A (wl [gR cA aR rI rA rG] ++ gG cA K rR) sz)) 0 0 (va_A (wl [gR cA aR rI rA rG] ++ gG cA K rR) sz) := by
  refine Met.ofW (cc := cX5_exchange) (maxL := 6) (ret := none) (by decide) rfl ?_
  intro p e s m args below meth c s₁ B hml hv
  obtain ⟨rfl, hsz, hP, hK, hD0⟩ := hv
  have hx := B.exec
  have hb := B.bytes
  have hr := B.returns
  have hts := atoms_spec (ws := (wsU yX5_exchange cX5_exchange 6 none)) B.pre
  have hT : ∀ w ∈ wsL_law, w.before ([.ref (aR 0), .int u1, .int u2] : List Value).toArray s = true := fun w h => hts w (List.mem_cons_of_mem _ h)
  have hown : s.vm.findClass RX5 = some m.cls := findClass_of_methodNamed B.named
  have hlocks := B.notSynchronized
  have hN := hK.2
  subst hsz
  have hD := hD0.self (sz := s.heap.size)
  generalize hAe : va_A (wl [gR cA aR rI rA rG] ++ gG cA K rR) s.heap.size = A at hD ⊢
  have hA : ∀ q : Nat, s.heap.size ≤ q → A q := fun q h => by rw [← hAe]; exact Or.inr h
  have hS : va_S A s.heap s.heap [] := va_S.rf
  have hl := lv_entry ([.ref (aR 0), .int u1, .int u2]) (n := 6) (Nat.le_of_ble_eq_true rfl)
  rw [lg_entry_eq]
  generalize (lg_sl ([.ref (aR 0), .int u1, .int u2]) ++ List.replicate (6 - (lg_sl ([.ref (aR 0), .int u1, .int u2])).length) Slot.unset).toArray = ls at hl ⊢
  have hl : lv_has ls 6 [(0, .ref (aR 0)), (1, .int u1), (2, .int u2)] := hl
  have b173 : ∀ (x1 : Int32) (x2 : Int32) (rR : Nat → Nat → Int32) (rc121 : (Int32 × (Nat → Nat → Int32)) → Option ((Nat → Nat → Int32) × (Nat → Nat → Int32))) (hr121 : ∀ (x4 : Int32) (rA : Nat → Nat → Int32) (H : Heap) (locs : List Loc) (ls : Array Slot), rc121 (x4, rA) = some R → va_P D vwCl (wl [gR cA aR rI rA rG] ++ gG cA K rR) H → va_D A (wl [gR cA aR rI rA rG] ++ gG cA K rR) → va_S A s.heap H locs → lv_has ls 6 [(0, .ref (aR 0)), (1, .int x1), (2, .int x2), (4, .int x4)] → W p l e (headSpec (wsU yX5_exchange cX5_exchange 6 none) ({ frames := 1, cells := 0, slots := 0, locals := 23 })).room s m ([.ref (aR 0), .int u1, .int u2] : List Value).toArray below meth c H locs 0 0 (MQ below (QV D (fun u : (Nat → Nat → Int32) × (Nat → Nat → Int32) => (wl [gR cA aR rI u.1 rG] ++ gG cA K u.2)) R A) ([.ref (aR 0), .int u1, .int u2] : List Value).toArray s 0 0 A) (F0 m 121 ls [])) (x4 : Int32) (y1 : Int32) (y2 : Int32) (rA : Nat → Nat → Int32) (H : Heap) (locs : List Loc) (ls : Array Slot), f_X5_exchange_b173 n K rc121 x1 x2 x4 y1 y2 rI rA rG rR = some R → va_P D vwCl (wl [gR cA aR rI rA rG] ++ gG cA K rR) H → va_D A (wl [gR cA aR rI rA rG] ++ gG cA K rR) → va_S A s.heap H locs → lv_has ls 6 [(0, .ref (aR 0)), (1, .int x1), (2, .int x2), (4, .int x4)] → W p l e (headSpec (wsU yX5_exchange cX5_exchange 6 none) ({ frames := 1, cells := 0, slots := 0, locals := 23 })).room s m ([.ref (aR 0), .int u1, .int u2] : List Value).toArray below meth c H locs 0 0 (MQ below (QV D (fun u : (Nat → Nat → Int32) × (Nat → Nat → Int32) => (wl [gR cA aR rI u.1 rG] ++ gG cA K u.2)) R A) ([.ref (aR 0), .int u1, .int u2] : List Value).toArray s 0 0 A) (F0 m 173 ls [.int y2, .int y1, .ref (aR 13)]) := by
    intro x1 x2 rR rc121 hr121 x4 y1 y2 rA H locs ls h hP hD hS hl
    unfold f_X5_exchange_b173 at h
    obtain ⟨g1, h⟩ := og_guard h
    refine va_iast hx hb hK.1 hP hD hS 13 0 rfl rfl (inb_vp g1) dX5_exchange_173 (fun H locs hP hD hS => ?_)
    have hP : va_P D vwCl (wl [gR cA aR rI (up2 rA 11 y1.toNatClampNeg y2) rG] ++ gG cA K rR) H := hP
    have hD : va_D A (wl [gR cA aR rI (up2 rA 11 y1.toNatClampNeg y2) rG] ++ gG cA K rR) := hD
    refine lv_iinc (v := (x4 + 1)) (lv' := [(4, .int (x4 + 1)), (0, .ref (aR 0)), (1, .int x1), (2, .int x2)]) hx hb dX5_exchange_174 hl (k := 3) rfl rfl (by decide) rfl (fun ls hl => ?_)
    refine lv_goto (tgt := 121) hx hb dX5_exchange_177 (by decide) ?_
    exact hr121 _ _ _ _ _ h hP hD hS (lv_sub hl [1, 2, 3, 0] rfl)
  have b121 : ∀ (x1 : Int32) (x2 : Int32) (rR : Nat → Nat → Int32) (nn : Nat), ∀ (x4 : Int32) (rA : Nat → Nat → Int32) (H : Heap) (locs : List Loc) (ls : Array Slot), lp (f_X5_exchange_l121 n K x1 x2 rI rG rR) nn (x4, rA) = some R → va_P D vwCl (wl [gR cA aR rI rA rG] ++ gG cA K rR) H → va_D A (wl [gR cA aR rI rA rG] ++ gG cA K rR) → va_S A s.heap H locs → lv_has ls 6 [(0, .ref (aR 0)), (1, .int x1), (2, .int x2), (4, .int x4)] → W p l e (headSpec (wsU yX5_exchange cX5_exchange 6 none) ({ frames := 1, cells := 0, slots := 0, locals := 23 })).room s m ([.ref (aR 0), .int u1, .int u2] : List Value).toArray below meth c H locs 0 0 (MQ below (QV D (fun u : (Nat → Nat → Int32) × (Nat → Nat → Int32) => (wl [gR cA aR rI u.1 rG] ++ gG cA K u.2)) R A) ([.ref (aR 0), .int u1, .int u2] : List Value).toArray s 0 0 A) (F0 m 121 ls []) := by
    intro x1 x2 rR nn
    induction nn with
    | zero =>
      intro x4 rA H locs ls h hP hD hS hl
      exact (lp_zero h).elim
    | succ nn hr121 =>
      intro x4 rA H locs ls h hP hD hS hl
      rw [lp_succ] at h
      unfold f_X5_exchange_l121 at h
      try dsimp only at h
      refine lv_iload hx hb dX5_exchange_121 (lv_at hl 3 rfl) ?_
      refine lv_aload_n hx hb dX5_exchange_123 rfl (lv_at hl 0 rfl) ?_
      obtain ⟨⟨r2, _u2⟩, e2, h⟩ := og_bind h
      try dsimp only at h
      refine gc_i (ws := (wl [gR cA aR rI rA rG] ++ gG cA K rR)) (wc := (wl [gR cA aR rI rA rG] ++ gG cA K rR)) (wr := (wl ([] : List va_W))) (ws' := (wl [gR cA aR rI rA rG] ++ gG cA K rR)) (va_runV (As := []) (rest := [.int x4]) ⟨hx, hb, hml, hown, hT⟩ (k_X5_words l D cA aR K H.size  rI rA rG rR _ e2) (cwV 0 hT gv_RX5_163 rfl rfl rfl (by decide +kernel) ⟨Nat.le_of_ble_eq_true rfl, Nat.le_of_ble_eq_true rfl⟩) (pre_V (ci := 5) (q0 := 0) (wr := (wl ([] : List va_W))) (pmB (f := fun i => ([gR cA aR rI rA rG] : List va_W).getD i []) [0] [0] [] (by decide)) hK hP hD rfl rfl) rfl rfl hl.1 rfl (lv_room (Nat.le_of_ble_eq_true rfl)) dX5_exchange_124 ⟨Nat.le_refl _, Nat.le_refl _⟩) (pmB (f := fun i => ([gR cA aR rI rA rG] : List va_W).getD i []) [0] [0] [] (by decide)) hP hD hS hA (pmB (f := fun i => ([gR cA aR rI rA rG] : List va_W).getD i []) [0] [0] [] (by decide)) (fun H locs hP hD hS => ?_)
      refine lv_icmp_ge (tgt := 180) hx hb dX5_exchange_127 (by decide) (fun c3 => ?_) (fun c3 => ?_)
      · replace h := og_pos c3 h
        exact W.vret hx hb hr (fun t ht hW => ⟨⟨(rA, rR), rfl, (og_inj h).symm, (by rw [ht]; exact hP), hD⟩, hS.F ht⟩) hS.2.2 dX5_exchange_180
      · replace h := og_neg c3 h
        refine lv_aload_n hx hb dX5_exchange_130 rfl (lv_at hl 0 rfl) ?_
        refine va_get (D := D) (C := RX5) (T := TX5) (N := 40) hx hb hT inlX5 hown hK.1 hP 0 rfl rfl 19 (by decide) (hT _ fl_RX5_53) (fun _ h9 => h9) rfl dX5_exchange_131 ?_
        refine lv_iload hx hb dX5_exchange_134 (lv_at hl 3 rfl) ?_
        refine lv_aload_n hx hb dX5_exchange_136 rfl (lv_at hl 0 rfl) ?_
        refine va_get (D := D) (C := RX5) (T := TX5) (N := 40) hx hb hT inlX5 hown hK.1 hP 0 rfl rfl 19 (by decide) (hT _ fl_RX5_53) (fun _ h9 => h9) rfl dX5_exchange_137 ?_
        refine lv_iload hx hb dX5_exchange_140 (lv_at hl 3 rfl) ?_
        obtain ⟨g4, h⟩ := og_guard h
        refine va_iald hx hb hK.1 hP 13 0 rfl rfl (inb_vp g4) dX5_exchange_142 ?_
        refine lv_iload_n hx hb dX5_exchange_143 rfl (lv_at hl 1 rfl) ?_
        refine lv_icmp_ne (tgt := 151) hx hb dX5_exchange_144 (by decide) (fun c5 => ?_) (fun c5 => ?_)
        · replace h := og_neg c5 h
          refine lv_aload_n hx hb dX5_exchange_151 rfl (lv_at hl 0 rfl) ?_
          refine va_get (D := D) (C := RX5) (T := TX5) (N := 40) hx hb hT inlX5 hown hK.1 hP 0 rfl rfl 19 (by decide) (hT _ fl_RX5_53) (fun _ h9 => h9) rfl dX5_exchange_152 ?_
          refine lv_iload hx hb dX5_exchange_155 (lv_at hl 3 rfl) ?_
          obtain ⟨g6, h⟩ := og_guard h
          refine va_iald hx hb hK.1 hP 13 0 rfl rfl (inb_vp g6) dX5_exchange_157 ?_
          refine lv_iload_n hx hb dX5_exchange_158 rfl (lv_at hl 2 rfl) ?_
          refine lv_icmp_ne (tgt := 166) hx hb dX5_exchange_159 (by decide) (fun c7 => ?_) (fun c7 => ?_)
          · replace h := og_neg c7 h
            refine lv_aload_n hx hb dX5_exchange_166 rfl (lv_at hl 0 rfl) ?_
            refine va_get (D := D) (C := RX5) (T := TX5) (N := 40) hx hb hT inlX5 hown hK.1 hP 0 rfl rfl 19 (by decide) (hT _ fl_RX5_53) (fun _ h9 => h9) rfl dX5_exchange_167 ?_
            refine lv_iload hx hb dX5_exchange_170 (lv_at hl 3 rfl) ?_
            obtain ⟨g8, h⟩ := og_guard h
            refine va_iald hx hb hK.1 hP 13 0 rfl rfl (inb_vp g8) dX5_exchange_172 ?_
            exact b173 _ _ _ _ hr121 _ _ _ _ _ _ _ h hP hD hS (lv_sub hl [0, 1, 2, 3] rfl)
          · replace h := og_pos c7 h
            refine lv_iload_n hx hb dX5_exchange_162 rfl (lv_at hl 1 rfl) ?_
            refine lv_goto (tgt := 173) hx hb dX5_exchange_163 (by decide) ?_
            exact b173 _ _ _ _ hr121 _ _ _ _ _ _ _ h hP hD hS (lv_sub hl [0, 1, 2, 3] rfl)
        · replace h := og_pos c5 h
          refine lv_iload_n hx hb dX5_exchange_147 rfl (lv_at hl 2 rfl) ?_
          refine lv_goto (tgt := 173) hx hb dX5_exchange_148 (by decide) ?_
          exact b173 _ _ _ _ hr121 _ _ _ _ _ _ _ h hP hD hS (lv_sub hl [0, 1, 2, 3] rfl)
  have b118 : ∀ (x1 : Int32) (x2 : Int32) (rA : Nat → Nat → Int32) (rR : Nat → Nat → Int32) (H : Heap) (locs : List Loc) (ls : Array Slot), f_X5_exchange_b118 n K x1 x2 rI rA rG rR = some R → va_P D vwCl (wl [gR cA aR rI rA rG] ++ gG cA K rR) H → va_D A (wl [gR cA aR rI rA rG] ++ gG cA K rR) → va_S A s.heap H locs → lv_has ls 6 [(0, .ref (aR 0)), (1, .int x1), (2, .int x2)] → W p l e (headSpec (wsU yX5_exchange cX5_exchange 6 none) ({ frames := 1, cells := 0, slots := 0, locals := 23 })).room s m ([.ref (aR 0), .int u1, .int u2] : List Value).toArray below meth c H locs 0 0 (MQ below (QV D (fun u : (Nat → Nat → Int32) × (Nat → Nat → Int32) => (wl [gR cA aR rI u.1 rG] ++ gG cA K u.2)) R A) ([.ref (aR 0), .int u1, .int u2] : List Value).toArray s 0 0 A) (F0 m 118 ls []) := by
    intro x1 x2 rA rR H locs ls h hP hD hS hl
    unfold f_X5_exchange_b118 at h
    refine lv_iconst (v := (0 : Int32)) hx hb dX5_exchange_118 (by decide) ?_
    refine lv_istore (lv' := [(4, .int (0 : Int32)), (0, .ref (aR 0)), (1, .int x1), (2, .int x2)]) hx hb dX5_exchange_119 hl (by decide) rfl (fun ls hl => ?_)
    exact b121  _ _ _ n _ _ _ _ _ h hP hD hS (lv_sub hl [1, 2, 3, 0] rfl)
  have b65 : ∀ (x1 : Int32) (x2 : Int32) (rA : Nat → Nat → Int32) (nn : Nat), ∀ (x4 : Int32) (rR : Nat → Nat → Int32) (H : Heap) (locs : List Loc) (ls : Array Slot), lp (f_X5_exchange_l65 n K x1 x2 rI rA rG) nn (x4, rR) = some R → va_P D vwCl (wl [gR cA aR rI rA rG] ++ gG cA K rR) H → va_D A (wl [gR cA aR rI rA rG] ++ gG cA K rR) → va_S A s.heap H locs → lv_has ls 6 [(0, .ref (aR 0)), (1, .int x1), (2, .int x2), (4, .int x4)] → W p l e (headSpec (wsU yX5_exchange cX5_exchange 6 none) ({ frames := 1, cells := 0, slots := 0, locals := 23 })).room s m ([.ref (aR 0), .int u1, .int u2] : List Value).toArray below meth c H locs 0 0 (MQ below (QV D (fun u : (Nat → Nat → Int32) × (Nat → Nat → Int32) => (wl [gR cA aR rI u.1 rG] ++ gG cA K u.2)) R A) ([.ref (aR 0), .int u1, .int u2] : List Value).toArray s 0 0 A) (F0 m 65 ls []) := by
    intro x1 x2 rA nn
    induction nn with
    | zero =>
      intro x4 rR H locs ls h hP hD hS hl
      exact (lp_zero h).elim
    | succ nn hr65 =>
      intro x4 rR H locs ls h hP hD hS hl
      rw [lp_succ] at h
      unfold f_X5_exchange_l65 at h
      try dsimp only at h
      refine lv_iload hx hb dX5_exchange_65 (lv_at hl 3 rfl) ?_
      refine lv_bipush (v := (60 : Int32)) hx hb dX5_exchange_67 (by decide) ?_
      refine lv_icmp_ge (tgt := 118) hx hb dX5_exchange_69 (by decide) (fun c9 => ?_) (fun c9 => ?_)
      · replace h := og_pos c9 h
        exact b118  _ _ _ _ _ _ _ h hP hD hS (lv_sub hl [0, 1, 2] rfl)
      · replace h := og_neg c9 h
        refine lv_aload_n hx hb dX5_exchange_72 rfl (lv_at hl 0 rfl) ?_
        refine va_get (D := D) (C := RX5) (T := TX5) (N := 40) hx hb hT inlX5 hown hK.1 hP 0 rfl rfl 18 (by decide) (hT _ fl_RX5_50) (fun _ h9 => h9) rfl dX5_exchange_73 ?_
        refine lv_iload_n hx hb dX5_exchange_76 rfl (lv_at hl 1 rfl) ?_
        obtain ⟨g10, h⟩ := og_guard h
        refine va_alda hx hb hK.1 hP 12 4 rfl rfl (inb_vp g10) dX5_exchange_77 ?_
        obtain ⟨a11, e12, h⟩ := og_bind h
        obtain ⟨m13, h⟩ := og_guard h
        refine gr_some e12 ?_
        refine lv_iload hx hb dX5_exchange_78 (lv_at hl 3 rfl) ?_
        obtain ⟨g15, h⟩ := og_guard h
        obtain ⟨kq14, hkq14⟩ := va_pl_get (X := (wl [gR cA aR rI rA rG])) (f := fR cA rR) m13
        refine va_iald hx hb hK.1 hP kq14 0 hkq14 rfl (inb_vp g15) dX5_exchange_80 ?_
        refine lv_istore (lv' := [(5, .int (rR a11 x4.toNatClampNeg)), (0, .ref (aR 0)), (1, .int x1), (2, .int x2), (4, .int x4)]) hx hb dX5_exchange_81 hl (by decide) rfl (fun ls hl => ?_)
        refine lv_aload_n hx hb dX5_exchange_83 rfl (lv_at hl 1 rfl) ?_
        refine va_get (D := D) (C := RX5) (T := TX5) (N := 40) hx hb hT inlX5 hown hK.1 hP 0 rfl rfl 18 (by decide) (hT _ fl_RX5_50) (fun _ h9 => h9) rfl dX5_exchange_84 ?_
        refine lv_iload_n hx hb dX5_exchange_87 rfl (lv_at hl 2 rfl) ?_
        obtain ⟨g16, h⟩ := og_guard h
        refine va_alda hx hb hK.1 hP 12 4 rfl rfl (inb_vp g16) dX5_exchange_88 ?_
        obtain ⟨a17, e18, h⟩ := og_bind h
        obtain ⟨m19, h⟩ := og_guard h
        refine gr_some e18 ?_
        refine lv_iload hx hb dX5_exchange_89 (lv_at hl 4 rfl) ?_
        refine lv_aload_n hx hb dX5_exchange_91 rfl (lv_at hl 1 rfl) ?_
        refine va_get (D := D) (C := RX5) (T := TX5) (N := 40) hx hb hT inlX5 hown hK.1 hP 0 rfl rfl 18 (by decide) (hT _ fl_RX5_50) (fun _ h9 => h9) rfl dX5_exchange_92 ?_
        refine lv_iload_n hx hb dX5_exchange_95 rfl (lv_at hl 3 rfl) ?_
        obtain ⟨g20, h⟩ := og_guard h
        refine va_alda hx hb hK.1 hP 12 4 rfl rfl (inb_vp g20) dX5_exchange_96 ?_
        obtain ⟨a21, e22, h⟩ := og_bind h
        obtain ⟨m23, h⟩ := og_guard h
        refine gr_some e22 ?_
        refine lv_iload hx hb dX5_exchange_97 (lv_at hl 4 rfl) ?_
        obtain ⟨g25, h⟩ := og_guard h
        obtain ⟨kq24, hkq24⟩ := va_pl_get (X := (wl [gR cA aR rI rA rG])) (f := fR cA rR) m23
        refine va_iald hx hb hK.1 hP kq24 0 hkq24 rfl (inb_vp g25) dX5_exchange_99 ?_
        obtain ⟨g26, h⟩ := og_guard h
        obtain ⟨kq27, hkq27⟩ := va_pl_get (X := (wl [gR cA aR rI rA rG])) (f := fR cA rR) m19
        refine va_iast hx hb hK.1 hP hD hS kq27 0 hkq27 rfl (inb_vp g26) dX5_exchange_100 (fun H locs hP1 hD1 hS => ?_)
        have hP := pq_P hD m19 hkq27 fR_up hP1
        have hD := pq_D hD m19 hkq27 fR_up hD1
        have hP : va_P D vwCl (wl [gR cA aR rI rA rG] ++ gG cA K (up2 rR a17 x4.toNatClampNeg (rR a21 x4.toNatClampNeg))) H := hP
        have hD : va_D A (wl [gR cA aR rI rA rG] ++ gG cA K (up2 rR a17 x4.toNatClampNeg (rR a21 x4.toNatClampNeg))) := hD
        refine lv_aload_n hx hb dX5_exchange_101 rfl (lv_at hl 1 rfl) ?_
        refine va_get (D := D) (C := RX5) (T := TX5) (N := 40) hx hb hT inlX5 hown hK.1 hP 0 rfl rfl 18 (by decide) (hT _ fl_RX5_50) (fun _ h9 => h9) rfl dX5_exchange_102 ?_
        refine lv_iload_n hx hb dX5_exchange_105 rfl (lv_at hl 3 rfl) ?_
        obtain ⟨g28, h⟩ := og_guard h
        refine va_alda hx hb hK.1 hP 12 4 rfl rfl (inb_vp g28) dX5_exchange_106 ?_
        obtain ⟨a29, e30, h⟩ := og_bind h
        obtain ⟨m31, h⟩ := og_guard h
        refine gr_some e30 ?_
        refine lv_iload hx hb dX5_exchange_107 (lv_at hl 4 rfl) ?_
        refine lv_iload hx hb dX5_exchange_109 (lv_at hl 0 rfl) ?_
        obtain ⟨rR_33, e34, h⟩ := og_bind h
        rw [← og_inj e34] at hP hD
        obtain ⟨g32, h⟩ := og_guard h
        obtain ⟨kq35, hkq35⟩ := va_pl_get (X := (wl [gR cA aR rI rA rG])) (f := fR cA rR_33) m31
        refine va_iast hx hb hK.1 hP hD hS kq35 0 hkq35 rfl (inb_vp g32) dX5_exchange_111 (fun H locs hP1 hD1 hS => ?_)
        have hP := pq_P hD m31 hkq35 fR_up hP1
        have hD := pq_D hD m31 hkq35 fR_up hD1
        have hP : va_P D vwCl (wl [gR cA aR rI rA rG] ++ gG cA K (up2 rR_33 a29 x4.toNatClampNeg (rR a11 x4.toNatClampNeg))) H := hP
        have hD : va_D A (wl [gR cA aR rI rA rG] ++ gG cA K (up2 rR_33 a29 x4.toNatClampNeg (rR a11 x4.toNatClampNeg))) := hD
        refine lv_iinc (v := (x4 + 1)) (lv' := [(4, .int (x4 + 1)), (5, .int (rR a11 x4.toNatClampNeg)), (0, .ref (aR 0)), (1, .int x1), (2, .int x2)]) hx hb dX5_exchange_112 hl (k := 4) rfl rfl (by decide) rfl (fun ls hl => ?_)
        refine lv_goto (tgt := 65) hx hb dX5_exchange_115 (by decide) ?_
        exact hr65 _ _ _ _ _ h hP hD hS (lv_sub hl [2, 3, 4, 0] rfl)
  unfold f_X5_exchange at h
  refine lv_aload_n hx hb dX5_exchange_0 rfl (lv_at hl 0 rfl) ?_
  refine va_get (D := D) (C := RX5) (T := TX5) (N := 40) hx hb hT inlX5 hown hK.1 hP 0 rfl rfl 13 (by decide) (hT _ fl_RX5_33) (fun _ h9 => h9) rfl dX5_exchange_1 ?_
  refine lv_iload_n hx hb dX5_exchange_4 rfl (lv_at hl 1 rfl) ?_
  refine lv_iload_n hx hb dX5_exchange_5 rfl (lv_at hl 2 rfl) ?_
  obtain ⟨rA36, e36, h⟩ := og_bind h
  refine gc_v (ws := (wl [gR cA aR rI rA rG] ++ gG cA K rR)) (wc := (wl [gR cA aR rI rA rG] ++ gG cA K rR)) (wr := (wl ([] : List va_W))) (ws' := (wl [gR cA aR rI rA36 rG] ++ gG cA K rR)) (va_runS (As := [.ref (aR 7), .int u1, .int u2]) (rest := []) ⟨hx, hb, hml, hown, hT⟩ (k_X5_turn7 l D cA aR K s.heap.size u1 u2 rI rA rG rR _ e36) (cwS 3 hT gs_RX5_184 rfl rfl rfl (by decide +kernel) ⟨Nat.le_of_ble_eq_true rfl, Nat.le_of_ble_eq_true rfl⟩) (pre_S (wr := (wl ([] : List va_W))) (pmB (f := fun i => ([gR cA aR rI rA rG] : List va_W).getD i []) [0] [0] [] (by decide)) hK hP hD) rfl rfl hl.1 rfl (lv_room (Nat.le_of_ble_eq_true rfl)) dX5_exchange_6 ⟨Nat.le_refl _, Nat.le_refl _⟩) (pmB (f := fun i => ([gR cA aR rI rA rG] : List va_W).getD i []) [0] [0] [] (by decide)) hP hD hS hA (pmB (f := fun i => ([gR cA aR rI rA36 rG] : List va_W).getD i []) [0] [0] [] (by decide)) (fun H locs hP hD hS => ?_)
  refine lv_aload_n hx hb dX5_exchange_9 rfl (lv_at hl 0 rfl) ?_
  refine va_get (D := D) (C := RX5) (T := TX5) (N := 40) hx hb hT inlX5 hown hK.1 hP 0 rfl rfl 14 (by decide) (hT _ fl_RX5_36) (fun _ h9 => h9) rfl dX5_exchange_10 ?_
  refine lv_iload_n hx hb dX5_exchange_13 rfl (lv_at hl 1 rfl) ?_
  refine lv_iload_n hx hb dX5_exchange_14 rfl (lv_at hl 2 rfl) ?_
  obtain ⟨rA37, e37, h⟩ := og_bind h
  refine gc_v (ws := (wl [gR cA aR rI rA36 rG] ++ gG cA K rR)) (wc := (wl [gR cA aR rI rA36 rG] ++ gG cA K rR)) (wr := (wl ([] : List va_W))) (ws' := (wl [gR cA aR rI rA37 rG] ++ gG cA K rR)) (va_runS (As := [.ref (aR 8), .int u1, .int u2]) (rest := []) ⟨hx, hb, hml, hown, hT⟩ (k_X5_turn8 l D cA aR K H.size u1 u2 rI rA36 rG rR _ e37) (cwS 3 hT gs_RX5_184 rfl rfl rfl (by decide +kernel) ⟨Nat.le_of_ble_eq_true rfl, Nat.le_of_ble_eq_true rfl⟩) (pre_S (wr := (wl ([] : List va_W))) (pmB (f := fun i => ([gR cA aR rI rA36 rG] : List va_W).getD i []) [0] [0] [] (by decide)) hK hP hD) rfl rfl hl.1 rfl (lv_room (Nat.le_of_ble_eq_true rfl)) dX5_exchange_15 ⟨Nat.le_refl _, Nat.le_refl _⟩) (pmB (f := fun i => ([gR cA aR rI rA36 rG] : List va_W).getD i []) [0] [0] [] (by decide)) hP hD hS hA (pmB (f := fun i => ([gR cA aR rI rA37 rG] : List va_W).getD i []) [0] [0] [] (by decide)) (fun H locs hP hD hS => ?_)
  refine lv_aload_n hx hb dX5_exchange_18 rfl (lv_at hl 0 rfl) ?_
  refine va_get (D := D) (C := RX5) (T := TX5) (N := 40) hx hb hT inlX5 hown hK.1 hP 0 rfl rfl 15 (by decide) (hT _ fl_RX5_39) (fun _ h9 => h9) rfl dX5_exchange_19 ?_
  refine lv_iload_n hx hb dX5_exchange_22 rfl (lv_at hl 1 rfl) ?_
  refine lv_iload_n hx hb dX5_exchange_23 rfl (lv_at hl 2 rfl) ?_
  obtain ⟨rA38, e38, h⟩ := og_bind h
  refine gc_v (ws := (wl [gR cA aR rI rA37 rG] ++ gG cA K rR)) (wc := (wl [gR cA aR rI rA37 rG] ++ gG cA K rR)) (wr := (wl ([] : List va_W))) (ws' := (wl [gR cA aR rI rA38 rG] ++ gG cA K rR)) (va_runS (As := [.ref (aR 9), .int u1, .int u2]) (rest := []) ⟨hx, hb, hml, hown, hT⟩ (k_X5_turn9 l D cA aR K H.size u1 u2 rI rA37 rG rR _ e38) (cwS 3 hT gs_RX5_184 rfl rfl rfl (by decide +kernel) ⟨Nat.le_of_ble_eq_true rfl, Nat.le_of_ble_eq_true rfl⟩) (pre_S (wr := (wl ([] : List va_W))) (pmB (f := fun i => ([gR cA aR rI rA37 rG] : List va_W).getD i []) [0] [0] [] (by decide)) hK hP hD) rfl rfl hl.1 rfl (lv_room (Nat.le_of_ble_eq_true rfl)) dX5_exchange_24 ⟨Nat.le_refl _, Nat.le_refl _⟩) (pmB (f := fun i => ([gR cA aR rI rA37 rG] : List va_W).getD i []) [0] [0] [] (by decide)) hP hD hS hA (pmB (f := fun i => ([gR cA aR rI rA38 rG] : List va_W).getD i []) [0] [0] [] (by decide)) (fun H locs hP hD hS => ?_)
  refine lv_aload_n hx hb dX5_exchange_27 rfl (lv_at hl 0 rfl) ?_
  refine va_get (D := D) (C := RX5) (T := TX5) (N := 40) hx hb hT inlX5 hown hK.1 hP 0 rfl rfl 16 (by decide) (hT _ fl_RX5_42) (fun _ h9 => h9) rfl dX5_exchange_28 ?_
  refine lv_iload_n hx hb dX5_exchange_31 rfl (lv_at hl 1 rfl) ?_
  refine lv_iload_n hx hb dX5_exchange_32 rfl (lv_at hl 2 rfl) ?_
  obtain ⟨rA39, e39, h⟩ := og_bind h
  refine gc_v (ws := (wl [gR cA aR rI rA38 rG] ++ gG cA K rR)) (wc := (wl [gR cA aR rI rA38 rG] ++ gG cA K rR)) (wr := (wl ([] : List va_W))) (ws' := (wl [gR cA aR rI rA39 rG] ++ gG cA K rR)) (va_runS (As := [.ref (aR 10), .int u1, .int u2]) (rest := []) ⟨hx, hb, hml, hown, hT⟩ (k_X5_turn10 l D cA aR K H.size u1 u2 rI rA38 rG rR _ e39) (cwS 3 hT gs_RX5_184 rfl rfl rfl (by decide +kernel) ⟨Nat.le_of_ble_eq_true rfl, Nat.le_of_ble_eq_true rfl⟩) (pre_S (wr := (wl ([] : List va_W))) (pmB (f := fun i => ([gR cA aR rI rA38 rG] : List va_W).getD i []) [0] [0] [] (by decide)) hK hP hD) rfl rfl hl.1 rfl (lv_room (Nat.le_of_ble_eq_true rfl)) dX5_exchange_33 ⟨Nat.le_refl _, Nat.le_refl _⟩) (pmB (f := fun i => ([gR cA aR rI rA38 rG] : List va_W).getD i []) [0] [0] [] (by decide)) hP hD hS hA (pmB (f := fun i => ([gR cA aR rI rA39 rG] : List va_W).getD i []) [0] [0] [] (by decide)) (fun H locs hP hD hS => ?_)
  refine lv_aload_n hx hb dX5_exchange_36 rfl (lv_at hl 0 rfl) ?_
  refine va_get (D := D) (C := RX5) (T := TX5) (N := 40) hx hb hT inlX5 hown hK.1 hP 0 rfl rfl 17 (by decide) (hT _ fl_RX5_45) (fun _ h9 => h9) rfl dX5_exchange_37 ?_
  refine lv_iload_n hx hb dX5_exchange_40 rfl (lv_at hl 1 rfl) ?_
  obtain ⟨g40, h⟩ := og_guard h
  refine va_zald hx hb hK.1 hP 11 1 rfl rfl (inb_vp g40) dX5_exchange_41 ?_
  refine lv_istore_n (lv' := [(3, .int (rA39 10 u1.toNatClampNeg)), (0, .ref (aR 0)), (1, .int u1), (2, .int u2)]) hx hb dX5_exchange_42 rfl hl (by decide) rfl (fun ls hl => ?_)
  refine lv_aload_n hx hb dX5_exchange_43 rfl (lv_at hl 1 rfl) ?_
  refine va_get (D := D) (C := RX5) (T := TX5) (N := 40) hx hb hT inlX5 hown hK.1 hP 0 rfl rfl 17 (by decide) (hT _ fl_RX5_45) (fun _ h9 => h9) rfl dX5_exchange_44 ?_
  refine lv_iload_n hx hb dX5_exchange_47 rfl (lv_at hl 2 rfl) ?_
  refine lv_aload_n hx hb dX5_exchange_48 rfl (lv_at hl 1 rfl) ?_
  refine va_get (D := D) (C := RX5) (T := TX5) (N := 40) hx hb hT inlX5 hown hK.1 hP 0 rfl rfl 17 (by decide) (hT _ fl_RX5_45) (fun _ h9 => h9) rfl dX5_exchange_49 ?_
  refine lv_iload_n hx hb dX5_exchange_52 rfl (lv_at hl 3 rfl) ?_
  obtain ⟨g41, h⟩ := og_guard h
  refine va_zald hx hb hK.1 hP 11 1 rfl rfl (inb_vp g41) dX5_exchange_53 ?_
  obtain ⟨g42, h⟩ := og_guard h
  refine va_zast hx hb hK.1 hP hD hS 11 1 rfl rfl (inb_vp g42) dX5_exchange_54 (fun H locs hP hD hS => ?_)
  have hP : va_P D vwCl (wl [gR cA aR rI (up2 rA39 10 u1.toNatClampNeg (vp_nar .boolean (rA39 10 u2.toNatClampNeg))) rG] ++ gG cA K rR) H := hP
  have hD : va_D A (wl [gR cA aR rI (up2 rA39 10 u1.toNatClampNeg (vp_nar .boolean (rA39 10 u2.toNatClampNeg))) rG] ++ gG cA K rR) := hD
  refine lv_aload_n hx hb dX5_exchange_55 rfl (lv_at hl 1 rfl) ?_
  refine va_get (D := D) (C := RX5) (T := TX5) (N := 40) hx hb hT inlX5 hown hK.1 hP 0 rfl rfl 17 (by decide) (hT _ fl_RX5_45) (fun _ h9 => h9) rfl dX5_exchange_56 ?_
  refine lv_iload_n hx hb dX5_exchange_59 rfl (lv_at hl 3 rfl) ?_
  refine lv_iload_n hx hb dX5_exchange_60 rfl (lv_at hl 0 rfl) ?_
  obtain ⟨rA_44, e45, h⟩ := og_bind h
  rw [← og_inj e45] at hP hD
  obtain ⟨g43, h⟩ := og_guard h
  refine va_zast hx hb hK.1 hP hD hS 11 1 rfl rfl (inb_vp g43) dX5_exchange_61 (fun H locs hP hD hS => ?_)
  have hP : va_P D vwCl (wl [gR cA aR rI (up2 rA_44 10 u2.toNatClampNeg (vp_nar .boolean (rA39 10 u1.toNatClampNeg))) rG] ++ gG cA K rR) H := hP
  have hD : va_D A (wl [gR cA aR rI (up2 rA_44 10 u2.toNatClampNeg (vp_nar .boolean (rA39 10 u1.toNatClampNeg))) rG] ++ gG cA K rR) := hD
  refine lv_iconst (v := (0 : Int32)) hx hb dX5_exchange_62 (by decide) ?_
  refine lv_istore (lv' := [(4, .int (0 : Int32)), (3, .int (rA39 10 u1.toNatClampNeg)), (0, .ref (aR 0)), (1, .int u1), (2, .int u2)]) hx hb dX5_exchange_63 hl (by decide) rfl (fun ls hl => ?_)
  exact b65  _ _ _ n _ _ _ _ _ h hP hD hS (lv_sub hl [2, 3, 4, 0] rfl)
set_option maxRecDepth 100000 in
set_option maxHeartbeats 8000000 in
theorem k_X5_order (l : Launch) (D : va_G) (cA : Nat → ClassId) (aR : Nat → Nat) (K : List Nat) (sz : Nat) (n : Nat) (rI : Nat → Int32) (rA : Nat → Nat → Int32) (rG : Nat → Option Nat) (rR : Nat → Nat → Int32) (R : (Nat → Nat → Int32) × (Nat → Nat → Int32)) (h : f_X5_order n K rI rA rG rR = some R) : Met l yX5_order (wsU yX5_order cX5_order 3 none) ({ frames := 2, cells := 0, slots := 0, locals := 48 }) (PcW D cA (wl [gR cA aR rI rA rG] ++ gG cA K rR) sz [.ref (aR 0)]) (QV D (fun u : (Nat → Nat → Int32) × (Nat → Nat → Int32) => (wl [gR cA aR rI u.1 rG] ++ gG cA K u.2)) R (va_A (wl [gR cA aR rI rA rG] ++ gG cA K rR) sz)) 0 0 (va_A (wl [gR cA aR rI rA rG] ++ gG cA K rR) sz) := by
  refine Met.ofW (cc := cX5_order) (maxL := 3) (ret := none) (by decide) rfl ?_
  intro p e s m args below meth c s₁ B hml hv
  obtain ⟨rfl, hsz, hP, hK, hD0⟩ := hv
  have hx := B.exec
  have hb := B.bytes
  have hr := B.returns
  have hts := atoms_spec (ws := (wsU yX5_order cX5_order 3 none)) B.pre
  have hT : ∀ w ∈ wsL_law, w.before ([.ref (aR 0)] : List Value).toArray s = true := fun w h => hts w (List.mem_cons_of_mem _ h)
  have hown : s.vm.findClass RX5 = some m.cls := findClass_of_methodNamed B.named
  have hlocks := B.notSynchronized
  have hN := hK.2
  subst hsz
  have hD := hD0.self (sz := s.heap.size)
  generalize hAe : va_A (wl [gR cA aR rI rA rG] ++ gG cA K rR) s.heap.size = A at hD ⊢
  have hA : ∀ q : Nat, s.heap.size ≤ q → A q := fun q h => by rw [← hAe]; exact Or.inr h
  have hS : va_S A s.heap s.heap [] := va_S.rf
  have hl := lv_entry ([.ref (aR 0)]) (n := 3) (Nat.le_of_ble_eq_true rfl)
  rw [lg_entry_eq]
  generalize (lg_sl ([.ref (aR 0)]) ++ List.replicate (3 - (lg_sl ([.ref (aR 0)])).length) Slot.unset).toArray = ls at hl ⊢
  have hl : lv_has ls 3 [(0, .ref (aR 0))] := hl
  have b43 : ∀ (rc2 : (Int32 × (Nat → Nat → Int32) × (Nat → Nat → Int32)) → Option ((Nat → Nat → Int32) × (Nat → Nat → Int32))) (hr2 : ∀ (x1 : Int32) (rA : Nat → Nat → Int32) (rR : Nat → Nat → Int32) (H : Heap) (locs : List Loc) (ls : Array Slot), rc2 (x1, rA, rR) = some R → va_P D vwCl (wl [gR cA aR rI rA rG] ++ gG cA K rR) H → va_D A (wl [gR cA aR rI rA rG] ++ gG cA K rR) → va_S A s.heap H locs → lv_has ls 3 [(0, .ref (aR 0)), (1, .int x1)] → W p l e (headSpec (wsU yX5_order cX5_order 3 none) ({ frames := 2, cells := 0, slots := 0, locals := 48 })).room s m ([.ref (aR 0)] : List Value).toArray below meth c H locs 0 0 (MQ below (QV D (fun u : (Nat → Nat → Int32) × (Nat → Nat → Int32) => (wl [gR cA aR rI u.1 rG] ++ gG cA K u.2)) R A) ([.ref (aR 0)] : List Value).toArray s 0 0 A) (F0 m 2 ls [])) (x1 : Int32) (rA : Nat → Nat → Int32) (rR : Nat → Nat → Int32) (H : Heap) (locs : List Loc) (ls : Array Slot), f_X5_order_b43 n K rc2 x1 rI rA rG rR = some R → va_P D vwCl (wl [gR cA aR rI rA rG] ++ gG cA K rR) H → va_D A (wl [gR cA aR rI rA rG] ++ gG cA K rR) → va_S A s.heap H locs → lv_has ls 3 [(0, .ref (aR 0)), (1, .int x1)] → W p l e (headSpec (wsU yX5_order cX5_order 3 none) ({ frames := 2, cells := 0, slots := 0, locals := 48 })).room s m ([.ref (aR 0)] : List Value).toArray below meth c H locs 0 0 (MQ below (QV D (fun u : (Nat → Nat → Int32) × (Nat → Nat → Int32) => (wl [gR cA aR rI u.1 rG] ++ gG cA K u.2)) R A) ([.ref (aR 0)] : List Value).toArray s 0 0 A) (F0 m 43 ls []) := by
    intro rc2 hr2 x1 rA rR H locs ls h hP hD hS hl
    unfold f_X5_order_b43 at h
    refine lv_iinc (v := (x1 + 1)) (lv' := [(1, .int (x1 + 1)), (0, .ref (aR 0))]) hx hb dX5_order_43 hl (k := 1) rfl rfl (by decide) rfl (fun ls hl => ?_)
    refine lv_goto (tgt := 2) hx hb dX5_order_46 (by decide) ?_
    exact hr2 _ _ _ _ _ _ h hP hD hS (lv_sub hl [1, 0] rfl)
  have b37 : ∀ (x1 : Int32) (rc2 : (Int32 × (Nat → Nat → Int32) × (Nat → Nat → Int32)) → Option ((Nat → Nat → Int32) × (Nat → Nat → Int32))) (hr2 : ∀ (x1 : Int32) (rA : Nat → Nat → Int32) (rR : Nat → Nat → Int32) (H : Heap) (locs : List Loc) (ls : Array Slot), rc2 (x1, rA, rR) = some R → va_P D vwCl (wl [gR cA aR rI rA rG] ++ gG cA K rR) H → va_D A (wl [gR cA aR rI rA rG] ++ gG cA K rR) → va_S A s.heap H locs → lv_has ls 3 [(0, .ref (aR 0)), (1, .int x1)] → W p l e (headSpec (wsU yX5_order cX5_order 3 none) ({ frames := 2, cells := 0, slots := 0, locals := 48 })).room s m ([.ref (aR 0)] : List Value).toArray below meth c H locs 0 0 (MQ below (QV D (fun u : (Nat → Nat → Int32) × (Nat → Nat → Int32) => (wl [gR cA aR rI u.1 rG] ++ gG cA K u.2)) R A) ([.ref (aR 0)] : List Value).toArray s 0 0 A) (F0 m 2 ls [])) (rc14 : (Int32 × (Nat → Nat → Int32) × (Nat → Nat → Int32)) → Option ((Nat → Nat → Int32) × (Nat → Nat → Int32))) (hr14 : ∀ (x2 : Int32) (rA : Nat → Nat → Int32) (rR : Nat → Nat → Int32) (H : Heap) (locs : List Loc) (ls : Array Slot), rc14 (x2, rA, rR) = some R → va_P D vwCl (wl [gR cA aR rI rA rG] ++ gG cA K rR) H → va_D A (wl [gR cA aR rI rA rG] ++ gG cA K rR) → va_S A s.heap H locs → lv_has ls 3 [(0, .ref (aR 0)), (1, .int x1), (2, .int x2)] → W p l e (headSpec (wsU yX5_order cX5_order 3 none) ({ frames := 2, cells := 0, slots := 0, locals := 48 })).room s m ([.ref (aR 0)] : List Value).toArray below meth c H locs 0 0 (MQ below (QV D (fun u : (Nat → Nat → Int32) × (Nat → Nat → Int32) => (wl [gR cA aR rI u.1 rG] ++ gG cA K u.2)) R A) ([.ref (aR 0)] : List Value).toArray s 0 0 A) (F0 m 14 ls [])) (x2 : Int32) (rA : Nat → Nat → Int32) (rR : Nat → Nat → Int32) (H : Heap) (locs : List Loc) (ls : Array Slot), f_X5_order_b37 n K rc2 rc14 x1 x2 rI rA rG rR = some R → va_P D vwCl (wl [gR cA aR rI rA rG] ++ gG cA K rR) H → va_D A (wl [gR cA aR rI rA rG] ++ gG cA K rR) → va_S A s.heap H locs → lv_has ls 3 [(0, .ref (aR 0)), (1, .int x1), (2, .int x2)] → W p l e (headSpec (wsU yX5_order cX5_order 3 none) ({ frames := 2, cells := 0, slots := 0, locals := 48 })).room s m ([.ref (aR 0)] : List Value).toArray below meth c H locs 0 0 (MQ below (QV D (fun u : (Nat → Nat → Int32) × (Nat → Nat → Int32) => (wl [gR cA aR rI u.1 rG] ++ gG cA K u.2)) R A) ([.ref (aR 0)] : List Value).toArray s 0 0 A) (F0 m 37 ls []) := by
    intro x1 rc2 hr2 rc14 hr14 x2 rA rR H locs ls h hP hD hS hl
    unfold f_X5_order_b37 at h
    refine lv_iinc (v := (x2 + 1)) (lv' := [(2, .int (x2 + 1)), (0, .ref (aR 0)), (1, .int x1)]) hx hb dX5_order_37 hl (k := 2) rfl rfl (by decide) rfl (fun ls hl => ?_)
    refine lv_goto (tgt := 14) hx hb dX5_order_40 (by decide) ?_
    exact hr14 _ _ _ _ _ _ h hP hD hS (lv_sub hl [1, 2, 0] rfl)
  have b14 : ∀ (rc2 : (Int32 × (Nat → Nat → Int32) × (Nat → Nat → Int32)) → Option ((Nat → Nat → Int32) × (Nat → Nat → Int32))) (hr2 : ∀ (x1 : Int32) (rA : Nat → Nat → Int32) (rR : Nat → Nat → Int32) (H : Heap) (locs : List Loc) (ls : Array Slot), rc2 (x1, rA, rR) = some R → va_P D vwCl (wl [gR cA aR rI rA rG] ++ gG cA K rR) H → va_D A (wl [gR cA aR rI rA rG] ++ gG cA K rR) → va_S A s.heap H locs → lv_has ls 3 [(0, .ref (aR 0)), (1, .int x1)] → W p l e (headSpec (wsU yX5_order cX5_order 3 none) ({ frames := 2, cells := 0, slots := 0, locals := 48 })).room s m ([.ref (aR 0)] : List Value).toArray below meth c H locs 0 0 (MQ below (QV D (fun u : (Nat → Nat → Int32) × (Nat → Nat → Int32) => (wl [gR cA aR rI u.1 rG] ++ gG cA K u.2)) R A) ([.ref (aR 0)] : List Value).toArray s 0 0 A) (F0 m 2 ls [])) (x1 : Int32) (nn : Nat), ∀ (x2 : Int32) (rA : Nat → Nat → Int32) (rR : Nat → Nat → Int32) (H : Heap) (locs : List Loc) (ls : Array Slot), lp (f_X5_order_l14 n K rc2 x1 rI rG) nn (x2, rA, rR) = some R → va_P D vwCl (wl [gR cA aR rI rA rG] ++ gG cA K rR) H → va_D A (wl [gR cA aR rI rA rG] ++ gG cA K rR) → va_S A s.heap H locs → lv_has ls 3 [(0, .ref (aR 0)), (1, .int x1), (2, .int x2)] → W p l e (headSpec (wsU yX5_order cX5_order 3 none) ({ frames := 2, cells := 0, slots := 0, locals := 48 })).room s m ([.ref (aR 0)] : List Value).toArray below meth c H locs 0 0 (MQ below (QV D (fun u : (Nat → Nat → Int32) × (Nat → Nat → Int32) => (wl [gR cA aR rI u.1 rG] ++ gG cA K u.2)) R A) ([.ref (aR 0)] : List Value).toArray s 0 0 A) (F0 m 14 ls []) := by
    intro rc2 hr2 x1 nn
    induction nn with
    | zero =>
      intro x2 rA rR H locs ls h hP hD hS hl
      exact (lp_zero h).elim
    | succ nn hr14 =>
      intro x2 rA rR H locs ls h hP hD hS hl
      rw [lp_succ] at h
      unfold f_X5_order_l14 at h
      try dsimp only at h
      refine lv_iload_n hx hb dX5_order_14 rfl (lv_at hl 2 rfl) ?_
      refine lv_aload_n hx hb dX5_order_15 rfl (lv_at hl 0 rfl) ?_
      refine va_get (D := D) (C := RX5) (T := TX5) (N := 40) hx hb hT inlX5 hown hK.1 hP 0 rfl rfl 12 (by decide) (hT _ fl_RX5_29) (fun _ h9 => h9) rfl dX5_order_16 ?_
      refine lv_icmp_ge (tgt := 43) hx hb dX5_order_19 (by decide) (fun c1 => ?_) (fun c1 => ?_)
      · replace h := og_pos c1 h
        exact b43 _ hr2 _ _ _ _ _ _ h hP hD hS (lv_sub hl [0, 1] rfl)
      · replace h := og_neg c1 h
        refine lv_aload_n hx hb dX5_order_22 rfl (lv_at hl 0 rfl) ?_
        refine lv_iload_n hx hb dX5_order_23 rfl (lv_at hl 2 rfl) ?_
        refine lv_iload_n hx hb dX5_order_24 rfl (lv_at hl 1 rfl) ?_
        obtain ⟨⟨r2, _u2⟩, e2, h⟩ := og_bind h
        try dsimp only at h
        refine gc_i (ws := (wl [gR cA aR rI rA rG] ++ gG cA K rR)) (wc := (wl [gR cA aR rI rA rG] ++ gG cA K rR)) (wr := (wl ([] : List va_W))) (ws' := (wl [gR cA aR rI rA rG] ++ gG cA K rR)) (va_runV (As := [.int x2, .int x1]) (rest := []) ⟨hx, hb, hml, hown, hT⟩ (k_X5_isAhead l D cA aR K H.size n x2 x1 rI rA rG rR _ e2) (cwV 2 hT gv_RX5_177 rfl rfl rfl (by decide +kernel) ⟨Nat.le_of_ble_eq_true rfl, Nat.le_of_ble_eq_true rfl⟩) (pre_V (ci := 5) (q0 := 0) (wr := (wl ([] : List va_W))) (pmB (f := fun i => ([gR cA aR rI rA rG] : List va_W).getD i []) [0] [0] [] (by decide)) hK hP hD rfl rfl) rfl rfl hl.1 rfl (lv_room (Nat.le_of_ble_eq_true rfl)) dX5_order_25 ⟨Nat.le_refl _, Nat.le_refl _⟩) (pmB (f := fun i => ([gR cA aR rI rA rG] : List va_W).getD i []) [0] [0] [] (by decide)) hP hD hS hA (pmB (f := fun i => ([gR cA aR rI rA rG] : List va_W).getD i []) [0] [0] [] (by decide)) (fun H locs hP hD hS => ?_)
        refine lv_if_eq (tgt := 37) hx hb dX5_order_28 (by decide) (fun c3 => ?_) (fun c3 => ?_)
        · replace h := og_pos c3 h
          exact b37 _ _ hr2 _ hr14 _ _ _ _ _ _ h hP hD hS (lv_sub hl [0, 1, 2] rfl)
        · replace h := og_neg c3 h
          refine lv_aload_n hx hb dX5_order_31 rfl (lv_at hl 0 rfl) ?_
          refine lv_iload_n hx hb dX5_order_32 rfl (lv_at hl 1 rfl) ?_
          refine lv_iload_n hx hb dX5_order_33 rfl (lv_at hl 2 rfl) ?_
          obtain ⟨⟨rA4, rR4⟩, e4, h⟩ := og_bind h
          try dsimp only at h
          refine gc_v (ws := (wl [gR cA aR rI rA rG] ++ gG cA K rR)) (wc := (wl [gR cA aR rI rA rG] ++ gG cA K rR)) (wr := (wl ([] : List va_W))) (ws' := (wl [gR cA aR rI rA4 rG] ++ gG cA K rR4)) (va_runV (As := [.int x1, .int x2]) (rest := []) ⟨hx, hb, hml, hown, hT⟩ (k_X5_exchange l D cA aR K H.size n x1 x2 rI rA rG rR _ e4) (cwV 2 hT gv_RX5_180 rfl rfl rfl (by decide +kernel) ⟨Nat.le_of_ble_eq_true rfl, Nat.le_of_ble_eq_true rfl⟩) (pre_V (ci := 5) (q0 := 0) (wr := (wl ([] : List va_W))) (pmB (f := fun i => ([gR cA aR rI rA rG] : List va_W).getD i []) [0] [0] [] (by decide)) hK hP hD rfl rfl) rfl rfl hl.1 rfl (lv_room (Nat.le_of_ble_eq_true rfl)) dX5_order_34 ⟨Nat.le_refl _, Nat.le_refl _⟩) (pmB (f := fun i => ([gR cA aR rI rA rG] : List va_W).getD i []) [0] [0] [] (by decide)) hP hD hS hA (pmB (f := fun i => ([gR cA aR rI rA4 rG] : List va_W).getD i []) [0] [0] [] (by decide)) (fun H locs hP hD hS => ?_)
          exact b37 _ _ hr2 _ hr14 _ _ _ _ _ _ h hP hD hS (lv_sub hl [0, 1, 2] rfl)
  have b2 : ∀  (nn : Nat), ∀ (x1 : Int32) (rA : Nat → Nat → Int32) (rR : Nat → Nat → Int32) (H : Heap) (locs : List Loc) (ls : Array Slot), lp (f_X5_order_l2 n K rI rG) nn (x1, rA, rR) = some R → va_P D vwCl (wl [gR cA aR rI rA rG] ++ gG cA K rR) H → va_D A (wl [gR cA aR rI rA rG] ++ gG cA K rR) → va_S A s.heap H locs → lv_has ls 3 [(0, .ref (aR 0)), (1, .int x1)] → W p l e (headSpec (wsU yX5_order cX5_order 3 none) ({ frames := 2, cells := 0, slots := 0, locals := 48 })).room s m ([.ref (aR 0)] : List Value).toArray below meth c H locs 0 0 (MQ below (QV D (fun u : (Nat → Nat → Int32) × (Nat → Nat → Int32) => (wl [gR cA aR rI u.1 rG] ++ gG cA K u.2)) R A) ([.ref (aR 0)] : List Value).toArray s 0 0 A) (F0 m 2 ls []) := by
    intro nn
    induction nn with
    | zero =>
      intro x1 rA rR H locs ls h hP hD hS hl
      exact (lp_zero h).elim
    | succ nn hr2 =>
      intro x1 rA rR H locs ls h hP hD hS hl
      rw [lp_succ] at h
      unfold f_X5_order_l2 at h
      try dsimp only at h
      refine lv_iload_n hx hb dX5_order_2 rfl (lv_at hl 1 rfl) ?_
      refine lv_aload_n hx hb dX5_order_3 rfl (lv_at hl 0 rfl) ?_
      refine va_get (D := D) (C := RX5) (T := TX5) (N := 40) hx hb hT inlX5 hown hK.1 hP 0 rfl rfl 12 (by decide) (hT _ fl_RX5_29) (fun _ h9 => h9) rfl dX5_order_4 ?_
      refine lv_icmp_ge (tgt := 49) hx hb dX5_order_7 (by decide) (fun c5 => ?_) (fun c5 => ?_)
      · replace h := og_pos c5 h
        exact W.vret hx hb hr (fun t ht hW => ⟨⟨(rA, rR), rfl, (og_inj h).symm, (by rw [ht]; exact hP), hD⟩, hS.F ht⟩) hS.2.2 dX5_order_49
      · replace h := og_neg c5 h
        refine lv_iload_n hx hb dX5_order_10 rfl (lv_at hl 1 rfl) ?_
        refine lv_iconst (v := (1 : Int32)) hx hb dX5_order_11 (by decide) ?_
        refine lv_iadd hx hb dX5_order_12 ?_
        refine lv_istore_n (lv' := [(2, .int (x1 + (1 : Int32))), (0, .ref (aR 0)), (1, .int x1)]) hx hb dX5_order_13 rfl hl (by decide) rfl (fun ls hl => ?_)
        exact b14 _ hr2 _ n _ _ _ _ _ _ h hP hD hS (lv_sub hl [1, 2, 0] rfl)
  unfold f_X5_order at h
  refine lv_iconst (v := (0 : Int32)) hx hb dX5_order_0 (by decide) ?_
  refine lv_istore_n (lv' := [(1, .int (0 : Int32)), (0, .ref (aR 0))]) hx hb dX5_order_1 rfl hl (by decide) rfl (fun ls hl => ?_)
  exact b2   n _ _ _ _ _ _ h hP hD hS (lv_sub hl [1, 0] rfl)
set_option maxRecDepth 100000 in
set_option maxHeartbeats 8000000 in
theorem k_X5_explore (l : Launch) (D : va_G) (cA : Nat → ClassId) (aR : Nat → Nat) (K : List Nat) (sz : Nat) (n : Nat) (rI : Nat → Int32) (rA : Nat → Nat → Int32) (rG : Nat → Option Nat) (rR : Nat → Nat → Int32) (R : Int32 × (Nat → Int32) × (Nat → Nat → Int32) × (Nat → Nat → Int32)) (h : f_X5_explore n K rI rA rG rR = some R) : Met l yX5_explore (wsU yX5_explore cX5_explore 5 (some .int)) ({ frames := 3, cells := 0, slots := 0, locals := 76 }) (PcW D cA (wl [gR cA aR rI rA rG] ++ gG cA K rR) sz [.ref (aR 0)]) (QI D (fun u : (Nat → Int32) × (Nat → Nat → Int32) × (Nat → Nat → Int32) => (wl [gR cA aR u.1 u.2.1 rG] ++ gG cA K u.2.2)) R (va_A (wl [gR cA aR rI rA rG] ++ gG cA K rR) sz)) 0 0 (va_A (wl [gR cA aR rI rA rG] ++ gG cA K rR) sz) := by
  refine Met.ofW (cc := cX5_explore) (maxL := 5) (ret := (some .int)) (by decide) rfl ?_
  intro p e s m args below meth c s₁ B hml hv
  obtain ⟨rfl, hsz, hP, hK, hD0⟩ := hv
  have hx := B.exec
  have hb := B.bytes
  have hr := B.returns
  have hts := atoms_spec (ws := (wsU yX5_explore cX5_explore 5 (some .int))) B.pre
  have hT : ∀ w ∈ wsL_law, w.before ([.ref (aR 0)] : List Value).toArray s = true := fun w h => hts w (List.mem_cons_of_mem _ h)
  have hown : s.vm.findClass RX5 = some m.cls := findClass_of_methodNamed B.named
  have hlocks := B.notSynchronized
  have hN := hK.2
  subst hsz
  have hD := hD0.self (sz := s.heap.size)
  generalize hAe : va_A (wl [gR cA aR rI rA rG] ++ gG cA K rR) s.heap.size = A at hD ⊢
  have hA : ∀ q : Nat, s.heap.size ≤ q → A q := fun q h => by rw [← hAe]; exact Or.inr h
  have hS : va_S A s.heap s.heap [] := va_S.rf
  have hl := lv_entry ([.ref (aR 0)]) (n := 5) (Nat.le_of_ble_eq_true rfl)
  rw [lg_entry_eq]
  generalize (lg_sl ([.ref (aR 0)]) ++ List.replicate (5 - (lg_sl ([.ref (aR 0)])).length) Slot.unset).toArray = ls at hl ⊢
  have hl : lv_has ls 5 [(0, .ref (aR 0))] := hl
  have b221 : ∀ (x1 : Int32) (rI : Nat → Int32) (rA : Nat → Nat → Int32) (rR : Nat → Nat → Int32) (H : Heap) (locs : List Loc) (ls : Array Slot), f_X5_explore_b221 n K x1 rI rA rG rR = some R → va_P D vwCl (wl [gR cA aR rI rA rG] ++ gG cA K rR) H → va_D A (wl [gR cA aR rI rA rG] ++ gG cA K rR) → va_S A s.heap H locs → lv_has ls 5 [(0, .ref (aR 0)), (1, .int x1)] → W p l e (headSpec (wsU yX5_explore cX5_explore 5 (some .int)) ({ frames := 3, cells := 0, slots := 0, locals := 76 })).room s m ([.ref (aR 0)] : List Value).toArray below meth c H locs 0 0 (MQ below (QI D (fun u : (Nat → Int32) × (Nat → Nat → Int32) × (Nat → Nat → Int32) => (wl [gR cA aR u.1 u.2.1 rG] ++ gG cA K u.2.2)) R A) ([.ref (aR 0)] : List Value).toArray s 0 0 A) (F0 m 221 ls []) := by
    intro x1 rI rA rR H locs ls h hP hD hS hl
    unfold f_X5_explore_b221 at h
    refine lv_aload_n hx hb dX5_explore_221 rfl (lv_at hl 0 rfl) ?_
    refine lv_iload_n hx hb dX5_explore_222 rfl (lv_at hl 1 rfl) ?_
    refine va_put (D := D) (v := .int x1) (ty := .int) (C := RX5) (T := TX5) (N := 40) hx hb hT inlX5 tyX5 tyX5_ok nmX5 hown hK.1 hP hD hS 0 rfl rfl 12 (by decide) (hT _ fl_RX5_29) (fun _ h9 => h9) rfl (by decide +kernel) rfl rfl (Nat.le_of_ble_eq_true rfl) dX5_explore_223 (fun H locs hP hD hS => ?_)
    have hP : va_P D vwCl (wl [gR cA aR (upd rI 6 x1) rA rG] ++ gG cA K rR) H := hP
    have hD : va_D A (wl [gR cA aR (upd rI 6 x1) rA rG] ++ gG cA K rR) := hD
    refine lv_aload_n hx hb dX5_explore_226 rfl (lv_at hl 0 rfl) ?_
    obtain ⟨⟨rA1, rR1⟩, e1, h⟩ := og_bind h
    try dsimp only at h
    refine gc_v (ws := (wl [gR cA aR (upd rI 6 x1) rA rG] ++ gG cA K rR)) (wc := (wl [gR cA aR (upd rI 6 x1) rA rG] ++ gG cA K rR)) (wr := (wl ([] : List va_W))) (ws' := (wl [gR cA aR (upd rI 6 x1) rA1 rG] ++ gG cA K rR1)) (va_runV (As := []) (rest := []) ⟨hx, hb, hml, hown, hT⟩ (k_X5_order l D cA aR K H.size n  (upd rI 6 x1) rA rG rR _ e1) (cwV 0 hT gv_RX5_174 rfl rfl rfl (by decide +kernel) ⟨Nat.le_of_ble_eq_true rfl, Nat.le_of_ble_eq_true rfl⟩) (pre_V (ci := 5) (q0 := 0) (wr := (wl ([] : List va_W))) (pmB (f := fun i => ([gR cA aR (upd rI 6 x1) rA rG] : List va_W).getD i []) [0] [0] [] (by decide)) hK hP hD rfl rfl) rfl rfl hl.1 rfl (lv_room (Nat.le_of_ble_eq_true rfl)) dX5_explore_227 ⟨Nat.le_refl _, Nat.le_refl _⟩) (pmB (f := fun i => ([gR cA aR (upd rI 6 x1) rA rG] : List va_W).getD i []) [0] [0] [] (by decide)) hP hD hS hA (pmB (f := fun i => ([gR cA aR (upd rI 6 x1) rA1 rG] : List va_W).getD i []) [0] [0] [] (by decide)) (fun H locs hP hD hS => ?_)
    refine lv_iload_n hx hb dX5_explore_230 rfl (lv_at hl 1 rfl) ?_
    exact W.iret (v := x1) hx hb hr (fun t ht hW => ⟨⟨x1, ((upd rI 6 x1), rA1, rR1), rfl, ⟨(congrArg Prod.fst (og_inj h)).symm, (congrArg Prod.snd (og_inj h)).symm⟩, (by rw [ht]; exact hP), hD⟩, hS.F ht⟩) hS.2.2 dX5_explore_231
  have b214 : ∀ (rc30 : (Int32 × Int32 × (Nat → Int32) × (Nat → Nat → Int32) × (Nat → Nat → Int32)) → Option (Int32 × (Nat → Int32) × (Nat → Nat → Int32) × (Nat → Nat → Int32))) (hr30 : ∀ (x1 : Int32) (x2 : Int32) (rI : Nat → Int32) (rA : Nat → Nat → Int32) (rR : Nat → Nat → Int32) (H : Heap) (locs : List Loc) (ls : Array Slot), rc30 (x1, x2, rI, rA, rR) = some R → va_P D vwCl (wl [gR cA aR rI rA rG] ++ gG cA K rR) H → va_D A (wl [gR cA aR rI rA rG] ++ gG cA K rR) → va_S A s.heap H locs → lv_has ls 5 [(0, .ref (aR 0)), (1, .int x1), (2, .int x2)] → W p l e (headSpec (wsU yX5_explore cX5_explore 5 (some .int)) ({ frames := 3, cells := 0, slots := 0, locals := 76 })).room s m ([.ref (aR 0)] : List Value).toArray below meth c H locs 0 0 (MQ below (QI D (fun u : (Nat → Int32) × (Nat → Nat → Int32) × (Nat → Nat → Int32) => (wl [gR cA aR u.1 u.2.1 rG] ++ gG cA K u.2.2)) R A) ([.ref (aR 0)] : List Value).toArray s 0 0 A) (F0 m 30 ls [])) (x1 : Int32) (x2 : Int32) (y1 : Int32) (y2 : Int32) (rI : Nat → Int32) (rA : Nat → Nat → Int32) (rR : Nat → Nat → Int32) (H : Heap) (locs : List Loc) (ls : Array Slot), f_X5_explore_b214 n K rc30 x1 x2 y1 y2 rI rA rG rR = some R → va_P D vwCl (wl [gR cA aR rI rA rG] ++ gG cA K rR) H → va_D A (wl [gR cA aR rI rA rG] ++ gG cA K rR) → va_S A s.heap H locs → lv_has ls 5 [(0, .ref (aR 0)), (1, .int x1), (2, .int x2)] → W p l e (headSpec (wsU yX5_explore cX5_explore 5 (some .int)) ({ frames := 3, cells := 0, slots := 0, locals := 76 })).room s m ([.ref (aR 0)] : List Value).toArray below meth c H locs 0 0 (MQ below (QI D (fun u : (Nat → Int32) × (Nat → Nat → Int32) × (Nat → Nat → Int32) => (wl [gR cA aR u.1 u.2.1 rG] ++ gG cA K u.2.2)) R A) ([.ref (aR 0)] : List Value).toArray s 0 0 A) (F0 m 214 ls [.int y2, .int y1, .ref (aR 11)]) := by
    intro rc30 hr30 x1 x2 y1 y2 rI rA rR H locs ls h hP hD hS hl
    unfold f_X5_explore_b214 at h
    obtain ⟨g2, h⟩ := og_guard h
    refine va_zast hx hb hK.1 hP hD hS 11 1 rfl rfl (inb_vp g2) dX5_explore_214 (fun H locs hP hD hS => ?_)
    have hP : va_P D vwCl (wl [gR cA aR rI (up2 rA 10 y1.toNatClampNeg (vp_nar .boolean y2)) rG] ++ gG cA K rR) H := hP
    have hD : va_D A (wl [gR cA aR rI (up2 rA 10 y1.toNatClampNeg (vp_nar .boolean y2)) rG] ++ gG cA K rR) := hD
    refine lv_iinc (v := (x2 + 1)) (lv' := [(2, .int (x2 + 1)), (0, .ref (aR 0)), (1, .int x1)]) hx hb dX5_explore_215 hl (k := 2) rfl rfl (by decide) rfl (fun ls hl => ?_)
    refine lv_goto (tgt := 30) hx hb dX5_explore_218 (by decide) ?_
    exact hr30 _ _ _ _ _ _ _ _ h hP hD hS (lv_sub hl [1, 2, 0] rfl)
  have b213 : ∀ (rc30 : (Int32 × Int32 × (Nat → Int32) × (Nat → Nat → Int32) × (Nat → Nat → Int32)) → Option (Int32 × (Nat → Int32) × (Nat → Nat → Int32) × (Nat → Nat → Int32))) (hr30 : ∀ (x1 : Int32) (x2 : Int32) (rI : Nat → Int32) (rA : Nat → Nat → Int32) (rR : Nat → Nat → Int32) (H : Heap) (locs : List Loc) (ls : Array Slot), rc30 (x1, x2, rI, rA, rR) = some R → va_P D vwCl (wl [gR cA aR rI rA rG] ++ gG cA K rR) H → va_D A (wl [gR cA aR rI rA rG] ++ gG cA K rR) → va_S A s.heap H locs → lv_has ls 5 [(0, .ref (aR 0)), (1, .int x1), (2, .int x2)] → W p l e (headSpec (wsU yX5_explore cX5_explore 5 (some .int)) ({ frames := 3, cells := 0, slots := 0, locals := 76 })).room s m ([.ref (aR 0)] : List Value).toArray below meth c H locs 0 0 (MQ below (QI D (fun u : (Nat → Int32) × (Nat → Nat → Int32) × (Nat → Nat → Int32) => (wl [gR cA aR u.1 u.2.1 rG] ++ gG cA K u.2.2)) R A) ([.ref (aR 0)] : List Value).toArray s 0 0 A) (F0 m 30 ls [])) (x1 : Int32) (x2 : Int32) (y1 : Int32) (rI : Nat → Int32) (rA : Nat → Nat → Int32) (rR : Nat → Nat → Int32) (H : Heap) (locs : List Loc) (ls : Array Slot), f_X5_explore_b213 n K rc30 x1 x2 y1 rI rA rG rR = some R → va_P D vwCl (wl [gR cA aR rI rA rG] ++ gG cA K rR) H → va_D A (wl [gR cA aR rI rA rG] ++ gG cA K rR) → va_S A s.heap H locs → lv_has ls 5 [(0, .ref (aR 0)), (1, .int x1), (2, .int x2)] → W p l e (headSpec (wsU yX5_explore cX5_explore 5 (some .int)) ({ frames := 3, cells := 0, slots := 0, locals := 76 })).room s m ([.ref (aR 0)] : List Value).toArray below meth c H locs 0 0 (MQ below (QI D (fun u : (Nat → Int32) × (Nat → Nat → Int32) × (Nat → Nat → Int32) => (wl [gR cA aR u.1 u.2.1 rG] ++ gG cA K u.2.2)) R A) ([.ref (aR 0)] : List Value).toArray s 0 0 A) (F0 m 213 ls [.int y1, .ref (aR 11)]) := by
    intro rc30 hr30 x1 x2 y1 rI rA rR H locs ls h hP hD hS hl
    unfold f_X5_explore_b213 at h
    refine lv_iconst (v := (0 : Int32)) hx hb dX5_explore_213 (by decide) ?_
    exact b214 _ hr30 _ _ _ _ _ _ _ _ _ _ h hP hD hS (lv_sub hl [0, 1, 2] rfl)
  have b160 : ∀ (rc30 : (Int32 × Int32 × (Nat → Int32) × (Nat → Nat → Int32) × (Nat → Nat → Int32)) → Option (Int32 × (Nat → Int32) × (Nat → Nat → Int32) × (Nat → Nat → Int32))) (hr30 : ∀ (x1 : Int32) (x2 : Int32) (rI : Nat → Int32) (rA : Nat → Nat → Int32) (rR : Nat → Nat → Int32) (H : Heap) (locs : List Loc) (ls : Array Slot), rc30 (x1, x2, rI, rA, rR) = some R → va_P D vwCl (wl [gR cA aR rI rA rG] ++ gG cA K rR) H → va_D A (wl [gR cA aR rI rA rG] ++ gG cA K rR) → va_S A s.heap H locs → lv_has ls 5 [(0, .ref (aR 0)), (1, .int x1), (2, .int x2)] → W p l e (headSpec (wsU yX5_explore cX5_explore 5 (some .int)) ({ frames := 3, cells := 0, slots := 0, locals := 76 })).room s m ([.ref (aR 0)] : List Value).toArray below meth c H locs 0 0 (MQ below (QI D (fun u : (Nat → Int32) × (Nat → Nat → Int32) × (Nat → Nat → Int32) => (wl [gR cA aR u.1 u.2.1 rG] ++ gG cA K u.2.2)) R A) ([.ref (aR 0)] : List Value).toArray s 0 0 A) (F0 m 30 ls [])) (x1 : Int32) (x2 : Int32) (x3 : Int32) (rI : Nat → Int32) (rA : Nat → Nat → Int32) (rR : Nat → Nat → Int32) (H : Heap) (locs : List Loc) (ls : Array Slot), f_X5_explore_b160 n K rc30 x1 x2 x3 rI rA rG rR = some R → va_P D vwCl (wl [gR cA aR rI rA rG] ++ gG cA K rR) H → va_D A (wl [gR cA aR rI rA rG] ++ gG cA K rR) → va_S A s.heap H locs → lv_has ls 5 [(0, .ref (aR 0)), (1, .int x1), (2, .int x2), (3, .int x3)] → W p l e (headSpec (wsU yX5_explore cX5_explore 5 (some .int)) ({ frames := 3, cells := 0, slots := 0, locals := 76 })).room s m ([.ref (aR 0)] : List Value).toArray below meth c H locs 0 0 (MQ below (QI D (fun u : (Nat → Int32) × (Nat → Nat → Int32) × (Nat → Nat → Int32) => (wl [gR cA aR u.1 u.2.1 rG] ++ gG cA K u.2.2)) R A) ([.ref (aR 0)] : List Value).toArray s 0 0 A) (F0 m 160 ls []) := by
    intro rc30 hr30 x1 x2 x3 rI rA rR H locs ls h hP hD hS hl
    unfold f_X5_explore_b160 at h
    refine lv_aload_n hx hb dX5_explore_160 rfl (lv_at hl 0 rfl) ?_
    refine va_get (D := D) (C := RX5) (T := TX5) (N := 40) hx hb hT inlX5 hown hK.1 hP 0 rfl rfl 19 (by decide) (hT _ fl_RX5_53) (fun _ h9 => h9) rfl dX5_explore_161 ?_
    refine lv_iload_n hx hb dX5_explore_164 rfl (lv_at hl 2 rfl) ?_
    refine lv_iload_n hx hb dX5_explore_165 rfl (lv_at hl 3 rfl) ?_
    obtain ⟨g3, h⟩ := og_guard h
    refine va_iast hx hb hK.1 hP hD hS 13 0 rfl rfl (inb_vp g3) dX5_explore_166 (fun H locs hP hD hS => ?_)
    have hP : va_P D vwCl (wl [gR cA aR rI (up2 rA 11 x2.toNatClampNeg x3) rG] ++ gG cA K rR) H := hP
    have hD : va_D A (wl [gR cA aR rI (up2 rA 11 x2.toNatClampNeg x3) rG] ++ gG cA K rR) := hD
    refine lv_aload_n hx hb dX5_explore_167 rfl (lv_at hl 0 rfl) ?_
    refine va_get (D := D) (C := RX5) (T := TX5) (N := 40) hx hb hT inlX5 hown hK.1 hP 0 rfl rfl 20 (by decide) (hT _ fl_RX5_56) (fun _ h9 => h9) rfl dX5_explore_168 ?_
    refine lv_iload_n hx hb dX5_explore_171 rfl (lv_at hl 2 rfl) ?_
    refine lv_aload_n hx hb dX5_explore_172 rfl (lv_at hl 0 rfl) ?_
    refine va_get (D := D) (C := RX5) (T := TX5) (N := 40) hx hb hT inlX5 hown hK.1 hP 0 rfl rfl 27 (by decide) (hT _ fl_RX5_142) (fun _ h9 => h9) rfl dX5_explore_173 ?_
    obtain ⟨rA_5, e6, h⟩ := og_bind h
    rw [← og_inj e6] at hP hD
    obtain ⟨g4, h⟩ := og_guard h
    refine va_iast hx hb hK.1 hP hD hS 14 0 rfl rfl (inb_vp g4) dX5_explore_176 (fun H locs hP hD hS => ?_)
    have hP : va_P D vwCl (wl [gR cA aR rI (up2 rA_5 12 x2.toNatClampNeg (rI 9)) rG] ++ gG cA K rR) H := hP
    have hD : va_D A (wl [gR cA aR rI (up2 rA_5 12 x2.toNatClampNeg (rI 9)) rG] ++ gG cA K rR) := hD
    refine lv_aload_n hx hb dX5_explore_177 rfl (lv_at hl 0 rfl) ?_
    refine va_get (D := D) (C := RX5) (T := TX5) (N := 40) hx hb hT inlX5 hown hK.1 hP 0 rfl rfl 17 (by decide) (hT _ fl_RX5_45) (fun _ h9 => h9) rfl dX5_explore_178 ?_
    refine lv_iload_n hx hb dX5_explore_181 rfl (lv_at hl 3 rfl) ?_
    refine lv_aload_n hx hb dX5_explore_182 rfl (lv_at hl 0 rfl) ?_
    refine va_get (D := D) (C := RX5) (T := TX5) (N := 40) hx hb hT inlX5 hown hK.1 hP 0 rfl rfl 17 (by decide) (hT _ fl_RX5_45) (fun _ h9 => h9) rfl dX5_explore_183 ?_
    refine lv_iload_n hx hb dX5_explore_186 rfl (lv_at hl 3 rfl) ?_
    obtain ⟨g7, h⟩ := og_guard h
    refine va_zald hx hb hK.1 hP 11 1 rfl rfl (inb_vp g7) dX5_explore_187 ?_
    refine lv_if_eq (tgt := 213) hx hb dX5_explore_188 (by decide) (fun c8 => ?_) (fun c8 => ?_)
    · replace h := og_pos c8 h
      exact b213 _ hr30 _ _ _ _ _ _ _ _ _ h hP hD hS (lv_sub hl [0, 1, 2] rfl)
    · replace h := og_neg c8 h
      refine lv_aload_n hx hb dX5_explore_191 rfl (lv_at hl 0 rfl) ?_
      refine va_get (D := D) (C := RX5) (T := TX5) (N := 40) hx hb hT inlX5 hown hK.1 hP 0 rfl rfl 27 (by decide) (hT _ fl_RX5_142) (fun _ h9 => h9) rfl dX5_explore_192 ?_
      refine lv_aload_n hx hb dX5_explore_195 rfl (lv_at hl 0 rfl) ?_
      refine va_get (D := D) (C := RX5) (T := TX5) (N := 40) hx hb hT inlX5 hown hK.1 hP 0 rfl rfl 20 (by decide) (hT _ fl_RX5_56) (fun _ h9 => h9) rfl dX5_explore_196 ?_
      refine lv_aload_n hx hb dX5_explore_199 rfl (lv_at hl 0 rfl) ?_
      refine va_get (D := D) (C := RX5) (T := TX5) (N := 40) hx hb hT inlX5 hown hK.1 hP 0 rfl rfl 16 (by decide) (hT _ fl_RX5_42) (fun _ h9 => h9) rfl dX5_explore_200 ?_
      refine lv_iload_n hx hb dX5_explore_203 rfl (lv_at hl 3 rfl) ?_
      obtain ⟨g9, h⟩ := og_guard h
      refine va_iald hx hb hK.1 hP 10 0 rfl rfl (inb_vp g9) dX5_explore_204 ?_
      obtain ⟨g10, h⟩ := og_guard h
      refine va_iald hx hb hK.1 hP 14 0 rfl rfl (inb_vp g10) dX5_explore_205 ?_
      refine lv_icmp_ne (tgt := 213) hx hb dX5_explore_206 (by decide) (fun c11 => ?_) (fun c11 => ?_)
      · replace h := og_neg c11 h
        exact b213 _ hr30 _ _ _ _ _ _ _ _ _ h hP hD hS (lv_sub hl [0, 1, 2] rfl)
      · replace h := og_pos c11 h
        refine lv_iconst (v := (1 : Int32)) hx hb dX5_explore_209 (by decide) ?_
        refine lv_goto (tgt := 214) hx hb dX5_explore_210 (by decide) ?_
        exact b214 _ hr30 _ _ _ _ _ _ _ _ _ _ h hP hD hS (lv_sub hl [0, 1, 2] rfl)
  have b126 : ∀ (rc30 : (Int32 × Int32 × (Nat → Int32) × (Nat → Nat → Int32) × (Nat → Nat → Int32)) → Option (Int32 × (Nat → Int32) × (Nat → Nat → Int32) × (Nat → Nat → Int32))) (hr30 : ∀ (x1 : Int32) (x2 : Int32) (rI : Nat → Int32) (rA : Nat → Nat → Int32) (rR : Nat → Nat → Int32) (H : Heap) (locs : List Loc) (ls : Array Slot), rc30 (x1, x2, rI, rA, rR) = some R → va_P D vwCl (wl [gR cA aR rI rA rG] ++ gG cA K rR) H → va_D A (wl [gR cA aR rI rA rG] ++ gG cA K rR) → va_S A s.heap H locs → lv_has ls 5 [(0, .ref (aR 0)), (1, .int x1), (2, .int x2)] → W p l e (headSpec (wsU yX5_explore cX5_explore 5 (some .int)) ({ frames := 3, cells := 0, slots := 0, locals := 76 })).room s m ([.ref (aR 0)] : List Value).toArray below meth c H locs 0 0 (MQ below (QI D (fun u : (Nat → Int32) × (Nat → Nat → Int32) × (Nat → Nat → Int32) => (wl [gR cA aR u.1 u.2.1 rG] ++ gG cA K u.2.2)) R A) ([.ref (aR 0)] : List Value).toArray s 0 0 A) (F0 m 30 ls [])) (x1 : Int32) (x2 : Int32) (x3 : Int32) (rI : Nat → Int32) (rA : Nat → Nat → Int32) (rR : Nat → Nat → Int32) (H : Heap) (locs : List Loc) (ls : Array Slot), f_X5_explore_b126 n K rc30 x1 x2 x3 rI rA rG rR = some R → va_P D vwCl (wl [gR cA aR rI rA rG] ++ gG cA K rR) H → va_D A (wl [gR cA aR rI rA rG] ++ gG cA K rR) → va_S A s.heap H locs → lv_has ls 5 [(0, .ref (aR 0)), (1, .int x1), (2, .int x2), (3, .int x3)] → W p l e (headSpec (wsU yX5_explore cX5_explore 5 (some .int)) ({ frames := 3, cells := 0, slots := 0, locals := 76 })).room s m ([.ref (aR 0)] : List Value).toArray below meth c H locs 0 0 (MQ below (QI D (fun u : (Nat → Int32) × (Nat → Nat → Int32) × (Nat → Nat → Int32) => (wl [gR cA aR u.1 u.2.1 rG] ++ gG cA K u.2.2)) R A) ([.ref (aR 0)] : List Value).toArray s 0 0 A) (F0 m 126 ls []) := by
    intro rc30 hr30 x1 x2 x3 rI rA rR H locs ls h hP hD hS hl
    unfold f_X5_explore_b126 at h
    refine lv_aload_n hx hb dX5_explore_126 rfl (lv_at hl 0 rfl) ?_
    refine va_get (D := D) (C := RX5) (T := TX5) (N := 40) hx hb hT inlX5 hown hK.1 hP 0 rfl rfl 13 (by decide) (hT _ fl_RX5_33) (fun _ h9 => h9) rfl dX5_explore_127 ?_
    refine lv_iload_n hx hb dX5_explore_130 rfl (lv_at hl 3 rfl) ?_
    refine lv_aload_n hx hb dX5_explore_131 rfl (lv_at hl 0 rfl) ?_
    refine va_get (D := D) (C := RX5) (T := TX5) (N := 40) hx hb hT inlX5 hown hK.1 hP 0 rfl rfl 25 (by decide) (hT _ fl_RX5_136) (fun _ h9 => h9) rfl dX5_explore_132 ?_
    obtain ⟨g12, h⟩ := og_guard h
    refine va_iast hx hb hK.1 hP hD hS 7 0 rfl rfl (inb_vp g12) dX5_explore_135 (fun H locs hP hD hS => ?_)
    have hP : va_P D vwCl (wl [gR cA aR rI (up2 rA 6 x3.toNatClampNeg (rI 7)) rG] ++ gG cA K rR) H := hP
    have hD : va_D A (wl [gR cA aR rI (up2 rA 6 x3.toNatClampNeg (rI 7)) rG] ++ gG cA K rR) := hD
    refine lv_aload_n hx hb dX5_explore_136 rfl (lv_at hl 0 rfl) ?_
    refine va_get (D := D) (C := RX5) (T := TX5) (N := 40) hx hb hT inlX5 hown hK.1 hP 0 rfl rfl 14 (by decide) (hT _ fl_RX5_36) (fun _ h9 => h9) rfl dX5_explore_137 ?_
    refine lv_iload_n hx hb dX5_explore_140 rfl (lv_at hl 3 rfl) ?_
    refine lv_aload_n hx hb dX5_explore_141 rfl (lv_at hl 0 rfl) ?_
    refine va_get (D := D) (C := RX5) (T := TX5) (N := 40) hx hb hT inlX5 hown hK.1 hP 0 rfl rfl 26 (by decide) (hT _ fl_RX5_139) (fun _ h9 => h9) rfl dX5_explore_142 ?_
    obtain ⟨rA_14, e15, h⟩ := og_bind h
    rw [← og_inj e15] at hP hD
    obtain ⟨g13, h⟩ := og_guard h
    refine va_iast hx hb hK.1 hP hD hS 8 0 rfl rfl (inb_vp g13) dX5_explore_145 (fun H locs hP hD hS => ?_)
    have hP : va_P D vwCl (wl [gR cA aR rI (up2 rA_14 7 x3.toNatClampNeg (rI 8)) rG] ++ gG cA K rR) H := hP
    have hD : va_D A (wl [gR cA aR rI (up2 rA_14 7 x3.toNatClampNeg (rI 8)) rG] ++ gG cA K rR) := hD
    refine lv_aload_n hx hb dX5_explore_146 rfl (lv_at hl 0 rfl) ?_
    refine va_get (D := D) (C := RX5) (T := TX5) (N := 40) hx hb hT inlX5 hown hK.1 hP 0 rfl rfl 16 (by decide) (hT _ fl_RX5_42) (fun _ h9 => h9) rfl dX5_explore_147 ?_
    refine lv_iload_n hx hb dX5_explore_150 rfl (lv_at hl 3 rfl) ?_
    refine lv_iload_n hx hb dX5_explore_151 rfl (lv_at hl 2 rfl) ?_
    obtain ⟨rA_17, e18, h⟩ := og_bind h
    rw [← og_inj e18] at hP hD
    obtain ⟨g16, h⟩ := og_guard h
    refine va_iast hx hb hK.1 hP hD hS 10 0 rfl rfl (inb_vp g16) dX5_explore_152 (fun H locs hP hD hS => ?_)
    have hP : va_P D vwCl (wl [gR cA aR rI (up2 rA_17 9 x3.toNatClampNeg x2) rG] ++ gG cA K rR) H := hP
    have hD : va_D A (wl [gR cA aR rI (up2 rA_17 9 x3.toNatClampNeg x2) rG] ++ gG cA K rR) := hD
    refine lv_aload_n hx hb dX5_explore_153 rfl (lv_at hl 0 rfl) ?_
    refine va_get (D := D) (C := RX5) (T := TX5) (N := 40) hx hb hT inlX5 hown hK.1 hP 0 rfl rfl 17 (by decide) (hT _ fl_RX5_45) (fun _ h9 => h9) rfl dX5_explore_154 ?_
    refine lv_iload_n hx hb dX5_explore_157 rfl (lv_at hl 3 rfl) ?_
    refine lv_iconst (v := (1 : Int32)) hx hb dX5_explore_158 (by decide) ?_
    obtain ⟨rA_20, e21, h⟩ := og_bind h
    rw [← og_inj e21] at hP hD
    obtain ⟨g19, h⟩ := og_guard h
    refine va_zast hx hb hK.1 hP hD hS 11 1 rfl rfl (inb_vp g19) dX5_explore_159 (fun H locs hP hD hS => ?_)
    have hP : va_P D vwCl (wl [gR cA aR rI (up2 rA_20 10 x3.toNatClampNeg (vp_nar .boolean (1 : Int32))) rG] ++ gG cA K rR) H := hP
    have hD : va_D A (wl [gR cA aR rI (up2 rA_20 10 x3.toNatClampNeg (vp_nar .boolean (1 : Int32))) rG] ++ gG cA K rR) := hD
    exact b160 _ hr30 _ _ _ _ _ _ _ _ _ h hP hD hS (lv_sub hl [0, 1, 2, 3] rfl)
  have b95 : ∀ (rc30 : (Int32 × Int32 × (Nat → Int32) × (Nat → Nat → Int32) × (Nat → Nat → Int32)) → Option (Int32 × (Nat → Int32) × (Nat → Nat → Int32) × (Nat → Nat → Int32))) (hr30 : ∀ (x1 : Int32) (x2 : Int32) (rI : Nat → Int32) (rA : Nat → Nat → Int32) (rR : Nat → Nat → Int32) (H : Heap) (locs : List Loc) (ls : Array Slot), rc30 (x1, x2, rI, rA, rR) = some R → va_P D vwCl (wl [gR cA aR rI rA rG] ++ gG cA K rR) H → va_D A (wl [gR cA aR rI rA rG] ++ gG cA K rR) → va_S A s.heap H locs → lv_has ls 5 [(0, .ref (aR 0)), (1, .int x1), (2, .int x2)] → W p l e (headSpec (wsU yX5_explore cX5_explore 5 (some .int)) ({ frames := 3, cells := 0, slots := 0, locals := 76 })).room s m ([.ref (aR 0)] : List Value).toArray below meth c H locs 0 0 (MQ below (QI D (fun u : (Nat → Int32) × (Nat → Nat → Int32) × (Nat → Nat → Int32) => (wl [gR cA aR u.1 u.2.1 rG] ++ gG cA K u.2.2)) R A) ([.ref (aR 0)] : List Value).toArray s 0 0 A) (F0 m 30 ls [])) (x1 : Int32) (x2 : Int32) (x3 : Int32) (rI : Nat → Int32) (rA : Nat → Nat → Int32) (nn : Nat), ∀ (x4 : Int32) (rR : Nat → Nat → Int32) (H : Heap) (locs : List Loc) (ls : Array Slot), lp (f_X5_explore_l95 n K rc30 x1 x2 x3 rI rA rG) nn (x4, rR) = some R → va_P D vwCl (wl [gR cA aR rI rA rG] ++ gG cA K rR) H → va_D A (wl [gR cA aR rI rA rG] ++ gG cA K rR) → va_S A s.heap H locs → lv_has ls 5 [(0, .ref (aR 0)), (1, .int x1), (2, .int x2), (3, .int x3), (4, .int x4)] → W p l e (headSpec (wsU yX5_explore cX5_explore 5 (some .int)) ({ frames := 3, cells := 0, slots := 0, locals := 76 })).room s m ([.ref (aR 0)] : List Value).toArray below meth c H locs 0 0 (MQ below (QI D (fun u : (Nat → Int32) × (Nat → Nat → Int32) × (Nat → Nat → Int32) => (wl [gR cA aR u.1 u.2.1 rG] ++ gG cA K u.2.2)) R A) ([.ref (aR 0)] : List Value).toArray s 0 0 A) (F0 m 95 ls []) := by
    intro rc30 hr30 x1 x2 x3 rI rA nn
    induction nn with
    | zero =>
      intro x4 rR H locs ls h hP hD hS hl
      exact (lp_zero h).elim
    | succ nn hr95 =>
      intro x4 rR H locs ls h hP hD hS hl
      rw [lp_succ] at h
      unfold f_X5_explore_l95 at h
      try dsimp only at h
      refine lv_iload hx hb dX5_explore_95 (lv_at hl 4 rfl) ?_
      refine lv_aload_n hx hb dX5_explore_97 rfl (lv_at hl 0 rfl) ?_
      refine va_get (D := D) (C := RX5) (T := TX5) (N := 40) hx hb hT inlX5 hown hK.1 hP 0 rfl rfl 29 (by decide) (hT _ fl_RX5_148) (fun _ h9 => h9) rfl dX5_explore_98 ?_
      refine lv_icmp_ge (tgt := 126) hx hb dX5_explore_101 (by decide) (fun c22 => ?_) (fun c22 => ?_)
      · replace h := og_pos c22 h
        exact b126 _ hr30 _ _ _ _ _ _ _ _ _ h hP hD hS (lv_sub hl [0, 1, 2, 3] rfl)
      · replace h := og_neg c22 h
        refine lv_aload_n hx hb dX5_explore_104 rfl (lv_at hl 0 rfl) ?_
        refine va_get (D := D) (C := RX5) (T := TX5) (N := 40) hx hb hT inlX5 hown hK.1 hP 0 rfl rfl 18 (by decide) (hT _ fl_RX5_50) (fun _ h9 => h9) rfl dX5_explore_105 ?_
        refine lv_iload_n hx hb dX5_explore_108 rfl (lv_at hl 3 rfl) ?_
        obtain ⟨g23, h⟩ := og_guard h
        refine va_alda hx hb hK.1 hP 12 4 rfl rfl (inb_vp g23) dX5_explore_109 ?_
        obtain ⟨a24, e25, h⟩ := og_bind h
        obtain ⟨m26, h⟩ := og_guard h
        refine gr_some e25 ?_
        refine lv_iload hx hb dX5_explore_110 (lv_at hl 4 rfl) ?_
        refine lv_aload_n hx hb dX5_explore_112 rfl (lv_at hl 0 rfl) ?_
        refine va_get (D := D) (C := RX5) (T := TX5) (N := 40) hx hb hT inlX5 hown hK.1 hP 0 rfl rfl 24 (by decide) (hT _ fl_RX5_68) (fun _ h9 => h9) rfl dX5_explore_113 ?_
        refine lv_iload hx hb dX5_explore_116 (lv_at hl 4 rfl) ?_
        obtain ⟨g27, h⟩ := og_guard h
        refine va_iald hx hb hK.1 hP 18 0 rfl rfl (inb_vp g27) dX5_explore_118 ?_
        obtain ⟨g28, h⟩ := og_guard h
        obtain ⟨kq29, hkq29⟩ := va_pl_get (X := (wl [gR cA aR rI rA rG])) (f := fR cA rR) m26
        refine va_iast hx hb hK.1 hP hD hS kq29 0 hkq29 rfl (inb_vp g28) dX5_explore_119 (fun H locs hP1 hD1 hS => ?_)
        have hP := pq_P hD m26 hkq29 fR_up hP1
        have hD := pq_D hD m26 hkq29 fR_up hD1
        have hP : va_P D vwCl (wl [gR cA aR rI rA rG] ++ gG cA K (up2 rR a24 x4.toNatClampNeg (rA 16 x4.toNatClampNeg))) H := hP
        have hD : va_D A (wl [gR cA aR rI rA rG] ++ gG cA K (up2 rR a24 x4.toNatClampNeg (rA 16 x4.toNatClampNeg))) := hD
        refine lv_iinc (v := (x4 + 1)) (lv' := [(4, .int (x4 + 1)), (0, .ref (aR 0)), (1, .int x1), (2, .int x2), (3, .int x3)]) hx hb dX5_explore_120 hl (k := 4) rfl rfl (by decide) rfl (fun ls hl => ?_)
        refine lv_goto (tgt := 95) hx hb dX5_explore_123 (by decide) ?_
        exact hr95 _ _ _ _ _ h hP hD hS (lv_sub hl [1, 2, 3, 4, 0] rfl)
  have b66 : ∀ (rc30 : (Int32 × Int32 × (Nat → Int32) × (Nat → Nat → Int32) × (Nat → Nat → Int32)) → Option (Int32 × (Nat → Int32) × (Nat → Nat → Int32) × (Nat → Nat → Int32))) (hr30 : ∀ (x1 : Int32) (x2 : Int32) (rI : Nat → Int32) (rA : Nat → Nat → Int32) (rR : Nat → Nat → Int32) (H : Heap) (locs : List Loc) (ls : Array Slot), rc30 (x1, x2, rI, rA, rR) = some R → va_P D vwCl (wl [gR cA aR rI rA rG] ++ gG cA K rR) H → va_D A (wl [gR cA aR rI rA rG] ++ gG cA K rR) → va_S A s.heap H locs → lv_has ls 5 [(0, .ref (aR 0)), (1, .int x1), (2, .int x2)] → W p l e (headSpec (wsU yX5_explore cX5_explore 5 (some .int)) ({ frames := 3, cells := 0, slots := 0, locals := 76 })).room s m ([.ref (aR 0)] : List Value).toArray below meth c H locs 0 0 (MQ below (QI D (fun u : (Nat → Int32) × (Nat → Nat → Int32) × (Nat → Nat → Int32) => (wl [gR cA aR u.1 u.2.1 rG] ++ gG cA K u.2.2)) R A) ([.ref (aR 0)] : List Value).toArray s 0 0 A) (F0 m 30 ls [])) (x1 : Int32) (x2 : Int32) (x3 : Int32) (rI : Nat → Int32) (rA : Nat → Nat → Int32) (rR : Nat → Nat → Int32) (H : Heap) (locs : List Loc) (ls : Array Slot), f_X5_explore_b66 n K rc30 x1 x2 x3 rI rA rG rR = some R → va_P D vwCl (wl [gR cA aR rI rA rG] ++ gG cA K rR) H → va_D A (wl [gR cA aR rI rA rG] ++ gG cA K rR) → va_S A s.heap H locs → lv_has ls 5 [(0, .ref (aR 0)), (1, .int x1), (2, .int x2), (3, .int x3)] → W p l e (headSpec (wsU yX5_explore cX5_explore 5 (some .int)) ({ frames := 3, cells := 0, slots := 0, locals := 76 })).room s m ([.ref (aR 0)] : List Value).toArray below meth c H locs 0 0 (MQ below (QI D (fun u : (Nat → Int32) × (Nat → Nat → Int32) × (Nat → Nat → Int32) => (wl [gR cA aR u.1 u.2.1 rG] ++ gG cA K u.2.2)) R A) ([.ref (aR 0)] : List Value).toArray s 0 0 A) (F0 m 66 ls []) := by
    intro rc30 hr30 x1 x2 x3 rI rA rR H locs ls h hP hD hS hl
    unfold f_X5_explore_b66 at h
    refine lv_iload_n hx hb dX5_explore_66 rfl (lv_at hl 3 rfl) ?_
    refine lv_bipush (v := (40 : Int32)) hx hb dX5_explore_67 (by decide) ?_
    refine lv_icmp_ne (tgt := 74) hx hb dX5_explore_69 (by decide) (fun c30 => ?_) (fun c30 => ?_)
    · replace h := og_neg c30 h
      refine lv_iload_n hx hb dX5_explore_74 rfl (lv_at hl 3 rfl) ?_
      refine lv_iload_n hx hb dX5_explore_75 rfl (lv_at hl 1 rfl) ?_
      refine lv_icmp_ne (tgt := 160) hx hb dX5_explore_76 (by decide) (fun c31 => ?_) (fun c31 => ?_)
      · replace h := og_neg c31 h
        exact b160 _ hr30 _ _ _ _ _ _ _ _ _ h hP hD hS (lv_sub hl [0, 1, 2, 3] rfl)
      · replace h := og_pos c31 h
        refine lv_iinc (v := (x1 + 1)) (lv' := [(1, .int (x1 + 1)), (0, .ref (aR 0)), (2, .int x2), (3, .int x3)]) hx hb dX5_explore_79 hl (k := 1) rfl rfl (by decide) rfl (fun ls hl => ?_)
        refine lv_aload_n hx hb dX5_explore_82 rfl (lv_at hl 1 rfl) ?_
        refine va_get (D := D) (C := RX5) (T := TX5) (N := 40) hx hb hT inlX5 hown hK.1 hP 0 rfl rfl 15 (by decide) (hT _ fl_RX5_39) (fun _ h9 => h9) rfl dX5_explore_83 ?_
        refine lv_iload_n hx hb dX5_explore_86 rfl (lv_at hl 3 rfl) ?_
        refine lv_aload_n hx hb dX5_explore_87 rfl (lv_at hl 1 rfl) ?_
        refine va_get (D := D) (C := RX5) (T := TX5) (N := 40) hx hb hT inlX5 hown hK.1 hP 0 rfl rfl 29 (by decide) (hT _ fl_RX5_148) (fun _ h9 => h9) rfl dX5_explore_88 ?_
        obtain ⟨g32, h⟩ := og_guard h
        refine va_iast hx hb hK.1 hP hD hS 9 0 rfl rfl (inb_vp g32) dX5_explore_91 (fun H locs hP hD hS => ?_)
        have hP : va_P D vwCl (wl [gR cA aR rI (up2 rA 8 x3.toNatClampNeg (rI 11)) rG] ++ gG cA K rR) H := hP
        have hD : va_D A (wl [gR cA aR rI (up2 rA 8 x3.toNatClampNeg (rI 11)) rG] ++ gG cA K rR) := hD
        refine lv_iconst (v := (0 : Int32)) hx hb dX5_explore_92 (by decide) ?_
        refine lv_istore (lv' := [(4, .int (0 : Int32)), (1, .int (x1 + 1)), (0, .ref (aR 0)), (2, .int x2), (3, .int x3)]) hx hb dX5_explore_93 hl (by decide) rfl (fun ls hl => ?_)
        exact b95 _ hr30 _ _ _ _ _ n _ _ _ _ _ h hP hD hS (lv_sub hl [2, 1, 3, 4, 0] rfl)
    · replace h := og_pos c30 h
      refine lv_iconst (v := (-1 : Int32)) hx hb dX5_explore_72 (by decide) ?_
      exact W.iret (v := (-1 : Int32)) hx hb hr (fun t ht hW => ⟨⟨(-1 : Int32), (rI, rA, rR), rfl, ⟨(congrArg Prod.fst (og_inj h)).symm, (congrArg Prod.snd (og_inj h)).symm⟩, (by rw [ht]; exact hP), hD⟩, hS.F ht⟩) hS.2.2 dX5_explore_73
  have b47 : ∀ (rc30 : (Int32 × Int32 × (Nat → Int32) × (Nat → Nat → Int32) × (Nat → Nat → Int32)) → Option (Int32 × (Nat → Int32) × (Nat → Nat → Int32) × (Nat → Nat → Int32))) (hr30 : ∀ (x1 : Int32) (x2 : Int32) (rI : Nat → Int32) (rA : Nat → Nat → Int32) (rR : Nat → Nat → Int32) (H : Heap) (locs : List Loc) (ls : Array Slot), rc30 (x1, x2, rI, rA, rR) = some R → va_P D vwCl (wl [gR cA aR rI rA rG] ++ gG cA K rR) H → va_D A (wl [gR cA aR rI rA rG] ++ gG cA K rR) → va_S A s.heap H locs → lv_has ls 5 [(0, .ref (aR 0)), (1, .int x1), (2, .int x2)] → W p l e (headSpec (wsU yX5_explore cX5_explore 5 (some .int)) ({ frames := 3, cells := 0, slots := 0, locals := 76 })).room s m ([.ref (aR 0)] : List Value).toArray below meth c H locs 0 0 (MQ below (QI D (fun u : (Nat → Int32) × (Nat → Nat → Int32) × (Nat → Nat → Int32) => (wl [gR cA aR u.1 u.2.1 rG] ++ gG cA K u.2.2)) R A) ([.ref (aR 0)] : List Value).toArray s 0 0 A) (F0 m 30 ls [])) (x1 : Int32) (x2 : Int32) (rI : Nat → Int32) (rA : Nat → Nat → Int32) (rR : Nat → Nat → Int32) (nn : Nat), ∀ (x3 : Int32) (H : Heap) (locs : List Loc) (ls : Array Slot), lp (f_X5_explore_l47 n K rc30 x1 x2 rI rA rG rR) nn (x3) = some R → va_P D vwCl (wl [gR cA aR rI rA rG] ++ gG cA K rR) H → va_D A (wl [gR cA aR rI rA rG] ++ gG cA K rR) → va_S A s.heap H locs → lv_has ls 5 [(0, .ref (aR 0)), (1, .int x1), (2, .int x2), (3, .int x3)] → W p l e (headSpec (wsU yX5_explore cX5_explore 5 (some .int)) ({ frames := 3, cells := 0, slots := 0, locals := 76 })).room s m ([.ref (aR 0)] : List Value).toArray below meth c H locs 0 0 (MQ below (QI D (fun u : (Nat → Int32) × (Nat → Nat → Int32) × (Nat → Nat → Int32) => (wl [gR cA aR u.1 u.2.1 rG] ++ gG cA K u.2.2)) R A) ([.ref (aR 0)] : List Value).toArray s 0 0 A) (F0 m 47 ls []) := by
    intro rc30 hr30 x1 x2 rI rA rR nn
    induction nn with
    | zero =>
      intro x3 H locs ls h hP hD hS hl
      exact (lp_zero h).elim
    | succ nn hr47 =>
      intro x3 H locs ls h hP hD hS hl
      rw [lp_succ] at h
      unfold f_X5_explore_l47 at h
      try dsimp only at h
      refine lv_iload_n hx hb dX5_explore_47 rfl (lv_at hl 3 rfl) ?_
      refine lv_iload_n hx hb dX5_explore_48 rfl (lv_at hl 1 rfl) ?_
      refine lv_icmp_ge (tgt := 66) hx hb dX5_explore_49 (by decide) (fun c33 => ?_) (fun c33 => ?_)
      · replace h := og_pos c33 h
        exact b66 _ hr30 _ _ _ _ _ _ _ _ _ h hP hD hS (lv_sub hl [0, 1, 2, 3] rfl)
      · replace h := og_neg c33 h
        refine lv_aload_n hx hb dX5_explore_52 rfl (lv_at hl 0 rfl) ?_
        refine lv_iload_n hx hb dX5_explore_53 rfl (lv_at hl 3 rfl) ?_
        obtain ⟨⟨r34, _u34⟩, e34, h⟩ := og_bind h
        try dsimp only at h
        refine gc_i (ws := (wl [gR cA aR rI rA rG] ++ gG cA K rR)) (wc := (wl [gR cA aR rI rA rG] ++ gG cA K rR)) (wr := (wl ([] : List va_W))) (ws' := (wl [gR cA aR rI rA rG] ++ gG cA K rR)) (va_runV (As := [.int x3]) (rest := []) ⟨hx, hb, hml, hown, hT⟩ (k_X5_isPath l D cA aR K H.size n x3 rI rA rG rR _ e34) (cwV 1 hT gv_RX5_171 rfl rfl rfl (by decide +kernel) ⟨Nat.le_of_ble_eq_true rfl, Nat.le_of_ble_eq_true rfl⟩) (pre_V (ci := 5) (q0 := 0) (wr := (wl ([] : List va_W))) (pmB (f := fun i => ([gR cA aR rI rA rG] : List va_W).getD i []) [0] [0] [] (by decide)) hK hP hD rfl rfl) rfl rfl hl.1 rfl (lv_room (Nat.le_of_ble_eq_true rfl)) dX5_explore_54 ⟨Nat.le_refl _, Nat.le_refl _⟩) (pmB (f := fun i => ([gR cA aR rI rA rG] : List va_W).getD i []) [0] [0] [] (by decide)) hP hD hS hA (pmB (f := fun i => ([gR cA aR rI rA rG] : List va_W).getD i []) [0] [0] [] (by decide)) (fun H locs hP hD hS => ?_)
        refine lv_if_ne (tgt := 66) hx hb dX5_explore_57 (by decide) (fun c35 => ?_) (fun c35 => ?_)
        · replace h := og_neg c35 h
          exact b66 _ hr30 _ _ _ _ _ _ _ _ _ h hP hD hS (lv_sub hl [0, 1, 2, 3] rfl)
        · replace h := og_pos c35 h
          refine lv_iinc (v := (x3 + 1)) (lv' := [(3, .int (x3 + 1)), (0, .ref (aR 0)), (1, .int x1), (2, .int x2)]) hx hb dX5_explore_60 hl (k := 3) rfl rfl (by decide) rfl (fun ls hl => ?_)
          refine lv_goto (tgt := 47) hx hb dX5_explore_63 (by decide) ?_
          exact hr47 _ _ _ _ h hP hD hS (lv_sub hl [1, 2, 3, 0] rfl)
  have b30 : ∀  (nn : Nat), ∀ (x1 : Int32) (x2 : Int32) (rI : Nat → Int32) (rA : Nat → Nat → Int32) (rR : Nat → Nat → Int32) (H : Heap) (locs : List Loc) (ls : Array Slot), lp (f_X5_explore_l30 n K rG) nn (x1, x2, rI, rA, rR) = some R → va_P D vwCl (wl [gR cA aR rI rA rG] ++ gG cA K rR) H → va_D A (wl [gR cA aR rI rA rG] ++ gG cA K rR) → va_S A s.heap H locs → lv_has ls 5 [(0, .ref (aR 0)), (1, .int x1), (2, .int x2)] → W p l e (headSpec (wsU yX5_explore cX5_explore 5 (some .int)) ({ frames := 3, cells := 0, slots := 0, locals := 76 })).room s m ([.ref (aR 0)] : List Value).toArray below meth c H locs 0 0 (MQ below (QI D (fun u : (Nat → Int32) × (Nat → Nat → Int32) × (Nat → Nat → Int32) => (wl [gR cA aR u.1 u.2.1 rG] ++ gG cA K u.2.2)) R A) ([.ref (aR 0)] : List Value).toArray s 0 0 A) (F0 m 30 ls []) := by
    intro nn
    induction nn with
    | zero =>
      intro x1 x2 rI rA rR H locs ls h hP hD hS hl
      exact (lp_zero h).elim
    | succ nn hr30 =>
      intro x1 x2 rI rA rR H locs ls h hP hD hS hl
      rw [lp_succ] at h
      unfold f_X5_explore_l30 at h
      try dsimp only at h
      refine lv_iload_n hx hb dX5_explore_30 rfl (lv_at hl 2 rfl) ?_
      refine lv_aload_n hx hb dX5_explore_31 rfl (lv_at hl 0 rfl) ?_
      obtain ⟨⟨r36, _u36⟩, e36, h⟩ := og_bind h
      try dsimp only at h
      refine gc_i (ws := (wl [gR cA aR rI rA rG] ++ gG cA K rR)) (wc := (wl [gR cA aR rI rA rG] ++ gG cA K rR)) (wr := (wl ([] : List va_W))) (ws' := (wl [gR cA aR rI rA rG] ++ gG cA K rR)) (va_runV (As := []) (rest := [.int x2]) ⟨hx, hb, hml, hown, hT⟩ (k_X5_words l D cA aR K H.size  rI rA rG rR _ e36) (cwV 0 hT gv_RX5_163 rfl rfl rfl (by decide +kernel) ⟨Nat.le_of_ble_eq_true rfl, Nat.le_of_ble_eq_true rfl⟩) (pre_V (ci := 5) (q0 := 0) (wr := (wl ([] : List va_W))) (pmB (f := fun i => ([gR cA aR rI rA rG] : List va_W).getD i []) [0] [0] [] (by decide)) hK hP hD rfl rfl) rfl rfl hl.1 rfl (lv_room (Nat.le_of_ble_eq_true rfl)) dX5_explore_32 ⟨Nat.le_refl _, Nat.le_refl _⟩) (pmB (f := fun i => ([gR cA aR rI rA rG] : List va_W).getD i []) [0] [0] [] (by decide)) hP hD hS hA (pmB (f := fun i => ([gR cA aR rI rA rG] : List va_W).getD i []) [0] [0] [] (by decide)) (fun H locs hP hD hS => ?_)
      refine lv_icmp_ge (tgt := 221) hx hb dX5_explore_35 (by decide) (fun c37 => ?_) (fun c37 => ?_)
      · replace h := og_pos c37 h
        exact b221  _ _ _ _ _ _ _ h hP hD hS (lv_sub hl [0, 1] rfl)
      · replace h := og_neg c37 h
        refine lv_aload_n hx hb dX5_explore_38 rfl (lv_at hl 0 rfl) ?_
        refine lv_iload_n hx hb dX5_explore_39 rfl (lv_at hl 2 rfl) ?_
        refine lv_null hx hb dX5_explore_40 ?_
        refine lv_iconst (v := (1 : Int32)) hx hb dX5_explore_41 (by decide) ?_
        obtain ⟨⟨rI38, rA38⟩, e38, h⟩ := og_bind h
        try dsimp only at h
        refine gc_v (ws := (wl [gR cA aR rI rA rG] ++ gG cA K rR)) (wc := (wl [gR cA aR rI rA rG] ++ gG cA K rR)) (wr := (wl ([] : List va_W))) (ws' := (wl [gR cA aR rI38 rA38 rG] ++ gG cA K rR)) (va_runV (As := [.int x2, .null, .int (1 : Int32)]) (rest := []) ⟨hx, hb, hml, hown, hT⟩ (k_X5_go0 l D cA aR K H.size n x2 (1 : Int32) rI rA rG rR _ e38) (cwV 3 hT gv_RX5_167 rfl rfl rfl (by decide +kernel) ⟨Nat.le_of_ble_eq_true rfl, Nat.le_of_ble_eq_true rfl⟩) (pre_V (ci := 5) (q0 := 0) (wr := (wl ([] : List va_W))) (pmB (f := fun i => ([gR cA aR rI rA rG] : List va_W).getD i []) [0] [0] [] (by decide)) hK hP hD rfl rfl) rfl rfl hl.1 rfl (lv_room (Nat.le_of_ble_eq_true rfl)) dX5_explore_42 ⟨Nat.le_refl _, Nat.le_refl _⟩) (pmB (f := fun i => ([gR cA aR rI rA rG] : List va_W).getD i []) [0] [0] [] (by decide)) hP hD hS hA (pmB (f := fun i => ([gR cA aR rI38 rA38 rG] : List va_W).getD i []) [0] [0] [] (by decide)) (fun H locs hP hD hS => ?_)
        refine lv_iconst (v := (0 : Int32)) hx hb dX5_explore_45 (by decide) ?_
        refine lv_istore_n (lv' := [(3, .int (0 : Int32)), (0, .ref (aR 0)), (1, .int x1), (2, .int x2)]) hx hb dX5_explore_46 rfl hl (by decide) rfl (fun ls hl => ?_)
        exact b47 _ hr30 _ _ _ _ _ n _ _ _ _ h hP hD hS (lv_sub hl [1, 2, 3, 0] rfl)
  have b28 : ∀ (x1 : Int32) (rI : Nat → Int32) (rA : Nat → Nat → Int32) (rR : Nat → Nat → Int32) (H : Heap) (locs : List Loc) (ls : Array Slot), f_X5_explore_b28 n K x1 rI rA rG rR = some R → va_P D vwCl (wl [gR cA aR rI rA rG] ++ gG cA K rR) H → va_D A (wl [gR cA aR rI rA rG] ++ gG cA K rR) → va_S A s.heap H locs → lv_has ls 5 [(0, .ref (aR 0)), (1, .int x1)] → W p l e (headSpec (wsU yX5_explore cX5_explore 5 (some .int)) ({ frames := 3, cells := 0, slots := 0, locals := 76 })).room s m ([.ref (aR 0)] : List Value).toArray below meth c H locs 0 0 (MQ below (QI D (fun u : (Nat → Int32) × (Nat → Nat → Int32) × (Nat → Nat → Int32) => (wl [gR cA aR u.1 u.2.1 rG] ++ gG cA K u.2.2)) R A) ([.ref (aR 0)] : List Value).toArray s 0 0 A) (F0 m 28 ls []) := by
    intro x1 rI rA rR H locs ls h hP hD hS hl
    unfold f_X5_explore_b28 at h
    refine lv_iconst (v := (0 : Int32)) hx hb dX5_explore_28 (by decide) ?_
    refine lv_istore_n (lv' := [(2, .int (0 : Int32)), (0, .ref (aR 0)), (1, .int x1)]) hx hb dX5_explore_29 rfl hl (by decide) rfl (fun ls hl => ?_)
    exact b30   n _ _ _ _ _ _ _ _ h hP hD hS (lv_sub hl [1, 2, 0] rfl)
  have b9 : ∀ (x1 : Int32) (rI : Nat → Int32) (rR : Nat → Nat → Int32) (nn : Nat), ∀ (x2 : Int32) (rA : Nat → Nat → Int32) (H : Heap) (locs : List Loc) (ls : Array Slot), lp (f_X5_explore_l9 n K x1 rI rG rR) nn (x2, rA) = some R → va_P D vwCl (wl [gR cA aR rI rA rG] ++ gG cA K rR) H → va_D A (wl [gR cA aR rI rA rG] ++ gG cA K rR) → va_S A s.heap H locs → lv_has ls 5 [(0, .ref (aR 0)), (1, .int x1), (2, .int x2)] → W p l e (headSpec (wsU yX5_explore cX5_explore 5 (some .int)) ({ frames := 3, cells := 0, slots := 0, locals := 76 })).room s m ([.ref (aR 0)] : List Value).toArray below meth c H locs 0 0 (MQ below (QI D (fun u : (Nat → Int32) × (Nat → Nat → Int32) × (Nat → Nat → Int32) => (wl [gR cA aR u.1 u.2.1 rG] ++ gG cA K u.2.2)) R A) ([.ref (aR 0)] : List Value).toArray s 0 0 A) (F0 m 9 ls []) := by
    intro x1 rI rR nn
    induction nn with
    | zero =>
      intro x2 rA H locs ls h hP hD hS hl
      exact (lp_zero h).elim
    | succ nn hr9 =>
      intro x2 rA H locs ls h hP hD hS hl
      rw [lp_succ] at h
      unfold f_X5_explore_l9 at h
      try dsimp only at h
      refine lv_iload_n hx hb dX5_explore_9 rfl (lv_at hl 2 rfl) ?_
      refine lv_bipush (v := (60 : Int32)) hx hb dX5_explore_10 (by decide) ?_
      refine lv_icmp_ge (tgt := 28) hx hb dX5_explore_12 (by decide) (fun c39 => ?_) (fun c39 => ?_)
      · replace h := og_pos c39 h
        exact b28  _ _ _ _ _ _ _ h hP hD hS (lv_sub hl [0, 1] rfl)
      · replace h := og_neg c39 h
        refine lv_aload_n hx hb dX5_explore_15 rfl (lv_at hl 0 rfl) ?_
        refine va_get (D := D) (C := RX5) (T := TX5) (N := 40) hx hb hT inlX5 hown hK.1 hP 0 rfl rfl 21 (by decide) (hT _ fl_RX5_59) (fun _ h9 => h9) rfl dX5_explore_16 ?_
        refine lv_iload_n hx hb dX5_explore_19 rfl (lv_at hl 2 rfl) ?_
        refine lv_iconst (v := (0 : Int32)) hx hb dX5_explore_20 (by decide) ?_
        obtain ⟨g40, h⟩ := og_guard h
        refine va_zast hx hb hK.1 hP hD hS 15 1 rfl rfl (inb_vp g40) dX5_explore_21 (fun H locs hP hD hS => ?_)
        have hP : va_P D vwCl (wl [gR cA aR rI (up2 rA 13 x2.toNatClampNeg (vp_nar .boolean (0 : Int32))) rG] ++ gG cA K rR) H := hP
        have hD : va_D A (wl [gR cA aR rI (up2 rA 13 x2.toNatClampNeg (vp_nar .boolean (0 : Int32))) rG] ++ gG cA K rR) := hD
        refine lv_iinc (v := (x2 + 1)) (lv' := [(2, .int (x2 + 1)), (0, .ref (aR 0)), (1, .int x1)]) hx hb dX5_explore_22 hl (k := 2) rfl rfl (by decide) rfl (fun ls hl => ?_)
        refine lv_goto (tgt := 9) hx hb dX5_explore_25 (by decide) ?_
        exact hr9 _ _ _ _ _ h hP hD hS (lv_sub hl [1, 2, 0] rfl)
  unfold f_X5_explore at h
  refine lv_aload_n hx hb dX5_explore_0 rfl (lv_at hl 0 rfl) ?_
  refine lv_iconst (v := (-1 : Int32)) hx hb dX5_explore_1 (by decide) ?_
  refine va_put (D := D) (v := .int (-1 : Int32)) (ty := .int) (C := RX5) (T := TX5) (N := 40) hx hb hT inlX5 tyX5 tyX5_ok nmX5 hown hK.1 hP hD hS 0 rfl rfl 12 (by decide) (hT _ fl_RX5_29) (fun _ h9 => h9) rfl (by decide +kernel) rfl rfl (Nat.le_of_ble_eq_true rfl) dX5_explore_2 (fun H locs hP hD hS => ?_)
  have hP : va_P D vwCl (wl [gR cA aR (upd rI 6 (-1 : Int32)) rA rG] ++ gG cA K rR) H := hP
  have hD : va_D A (wl [gR cA aR (upd rI 6 (-1 : Int32)) rA rG] ++ gG cA K rR) := hD
  refine lv_iconst (v := (0 : Int32)) hx hb dX5_explore_5 (by decide) ?_
  refine lv_istore_n (lv' := [(1, .int (0 : Int32)), (0, .ref (aR 0))]) hx hb dX5_explore_6 rfl hl (by decide) rfl (fun ls hl => ?_)
  refine lv_iconst (v := (0 : Int32)) hx hb dX5_explore_7 (by decide) ?_
  refine lv_istore_n (lv' := [(2, .int (0 : Int32)), (1, .int (0 : Int32)), (0, .ref (aR 0))]) hx hb dX5_explore_8 rfl hl (by decide) rfl (fun ls hl => ?_)
  exact b9  _ _ _ n _ _ _ _ _ h hP hD hS (lv_sub hl [2, 1, 0] rfl)
