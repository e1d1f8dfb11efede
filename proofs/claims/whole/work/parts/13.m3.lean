set_option maxRecDepth 100000 in
set_option maxHeartbeats 8000000 in
theorem k_X5_go1 (l : Launch) (D : va_G) (cA : Nat → ClassId) (aR : Nat → Nat) (K : List Nat) (sz : Nat) (n : Nat) (u1 : Int32) (u2 : Nat) (u3 : Int32) (rI : Nat → Int32) (rA : Nat → Nat → Int32) (rG : Nat → Option Nat) (rR : Nat → Nat → Int32) (R : (Nat → Int32) × (Nat → Nat → Int32)) (h : f_X5_go1 n K u1 u2 u3 rI rA rR = some R) : Met l yX5_go (wsU yX5_go cX5_go 14 none) ({ frames := 2, cells := 0, slots := 0, locals := 43 }) (PcW D cA (wl [gR cA aR rI rA rG] ++ gG cA K rR) sz [.ref (aR 0), .int u1, .ref u2, .int u3]) (QV D (fun u : (Nat → Int32) × (Nat → Nat → Int32) => (wl [gR cA aR u.1 u.2 rG] ++ gG cA K rR)) R (va_A (wl [gR cA aR rI rA rG] ++ gG cA K rR) sz)) 0 0 (va_A (wl [gR cA aR rI rA rG] ++ gG cA K rR) sz) := by
  refine Met.ofW (cc := cX5_go) (maxL := 14) (ret := none) (by decide) rfl ?_
  intro p e s m args below meth c s₁ B hml hv
  obtain ⟨rfl, hsz, hP, hK, hD0⟩ := hv
  have hx := B.exec
  have hb := B.bytes
  have hr := B.returns
  have hts := atoms_spec (ws := (wsU yX5_go cX5_go 14 none)) B.pre
  have hT : ∀ w ∈ wsL_law, w.before ([.ref (aR 0), .int u1, .ref u2, .int u3] : List Value).toArray s = true := fun w h => hts w (List.mem_cons_of_mem _ h)
  have hown : s.vm.findClass RX5 = some m.cls := findClass_of_methodNamed B.named
  have hlocks := B.notSynchronized
  have hN := hK.2
  subst hsz
  have hD := hD0.self (sz := s.heap.size)
  generalize hAe : va_A (wl [gR cA aR rI rA rG] ++ gG cA K rR) s.heap.size = A at hD ⊢
  have hA : ∀ q : Nat, s.heap.size ≤ q → A q := fun q h => by rw [← hAe]; exact Or.inr h
  have hS : va_S A s.heap s.heap [] := va_S.rf
  have hl := lv_entry ([.ref (aR 0), .int u1, .ref u2, .int u3]) (n := 14) (Nat.le_of_ble_eq_true rfl)
  rw [lg_entry_eq]
  generalize (lg_sl ([.ref (aR 0), .int u1, .ref u2, .int u3]) ++ List.replicate (14 - (lg_sl ([.ref (aR 0), .int u1, .ref u2, .int u3])).length) Slot.unset).toArray = ls at hl ⊢
  have hl : lv_has ls 14 [(0, .ref (aR 0)), (1, .int u1), (2, .ref u2), (3, .int u3)] := hl
  have b768 : ∀ (rI : Nat → Int32) (rA : Nat → Nat → Int32) (H : Heap) (locs : List Loc) (ls : Array Slot), f_X5_go1_b768 n K rI rA rR = some R → va_P D vwCl (wl [gR cA aR rI rA rG] ++ gG cA K rR) H → va_D A (wl [gR cA aR rI rA rG] ++ gG cA K rR) → va_S A s.heap H locs → lv_has ls 14 [(0, .ref (aR 0))] → W p l e (headSpec (wsU yX5_go cX5_go 14 none) ({ frames := 2, cells := 0, slots := 0, locals := 43 })).room s m ([.ref (aR 0), .int u1, .ref u2, .int u3] : List Value).toArray below meth c H locs 0 0 (MQ below (QV D (fun u : (Nat → Int32) × (Nat → Nat → Int32) => (wl [gR cA aR u.1 u.2 rG] ++ gG cA K rR)) R A) ([.ref (aR 0), .int u1, .ref u2, .int u3] : List Value).toArray s 0 0 A) (F0 m 768 ls []) := by
    intro rI rA H locs ls h hP hD hS hl
    unfold f_X5_go1_b768 at h
    refine lv_aload_n hx hb dX5_go_768 rfl (lv_at hl 0 rfl) ?_
    refine lv_iconst (v := (0 : Int32)) hx hb dX5_go_769 (by decide) ?_
    refine lv_aload_n hx hb dX5_go_770 rfl (lv_at hl 0 rfl) ?_
    refine va_get (D := D) (C := RX5) (T := TX5) (N := 40) hx hb hT inlX5 hown hK.1 hP 0 rfl rfl 3 (by decide) (hT _ fl_RX5_93) (fun _ h9 => h9) rfl dX5_go_771 ?_
    refine lv_iconst (v := (0 : Int32)) hx hb dX5_go_774 (by decide) ?_
    obtain ⟨rI1, e1, h⟩ := og_bind h
    refine gc_v (ws := (wl [gR cA aR rI rA rG] ++ gG cA K rR)) (wc := (wl [gR cA aR rI rA rG] ++ gG cA K rR)) (wr := (wl ([] : List va_W))) (ws' := (wl [gR cA aR rI1 rA rG] ++ gG cA K rR)) (va_runV (As := [.int (0 : Int32), .int (rI 3), .int (0 : Int32)]) (rest := []) ⟨hx, hb, hml, hown, hT⟩ (k_X5_ends l D cA aR K H.size (0 : Int32) (rI 3) (0 : Int32) rI rA rG rR _ e1) (cwV 3 hT gv_RX5_155 rfl rfl rfl (by decide +kernel) ⟨Nat.le_of_ble_eq_true rfl, Nat.le_of_ble_eq_true rfl⟩) (pre_V (ci := 5) (q0 := 0) (wr := (wl ([] : List va_W))) (pmB (f := fun i => ([gR cA aR rI rA rG] : List va_W).getD i []) [0] [0] [] (by decide)) hK hP hD rfl rfl) rfl rfl hl.1 rfl (lv_room (Nat.le_of_ble_eq_true rfl)) dX5_go_775 ⟨Nat.le_refl _, Nat.le_refl _⟩) (pmB (f := fun i => ([gR cA aR rI rA rG] : List va_W).getD i []) [0] [0] [] (by decide)) hP hD hS hA (pmB (f := fun i => ([gR cA aR rI1 rA rG] : List va_W).getD i []) [0] [0] [] (by decide)) (fun H locs hP hD hS => ?_)
    exact W.vret hx hb hr (fun t ht hW => ⟨⟨(rI1, rA), rfl, (og_inj h).symm, (by rw [ht]; exact hP), hD⟩, hS.F ht⟩) hS.2.2 dX5_go_778
  have b761 : ∀ (x1 : Int32) (x2 : Nat) (x3 : Int32) (rc61 : (Int32 × (Nat → Int32) × (Nat → Nat → Int32)) → Option ((Nat → Int32) × (Nat → Nat → Int32))) (hr61 : ∀ (x4 : Int32) (rI : Nat → Int32) (rA : Nat → Nat → Int32) (H : Heap) (locs : List Loc) (ls : Array Slot), rc61 (x4, rI, rA) = some R → va_P D vwCl (wl [gR cA aR rI rA rG] ++ gG cA K rR) H → va_D A (wl [gR cA aR rI rA rG] ++ gG cA K rR) → va_S A s.heap H locs → lv_has ls 14 [(0, .ref (aR 0)), (1, .int x1), (2, .ref x2), (3, .int x3), (4, .int x4)] → W p l e (headSpec (wsU yX5_go cX5_go 14 none) ({ frames := 2, cells := 0, slots := 0, locals := 43 })).room s m ([.ref (aR 0), .int u1, .ref u2, .int u3] : List Value).toArray below meth c H locs 0 0 (MQ below (QV D (fun u : (Nat → Int32) × (Nat → Nat → Int32) => (wl [gR cA aR u.1 u.2 rG] ++ gG cA K rR)) R A) ([.ref (aR 0), .int u1, .ref u2, .int u3] : List Value).toArray s 0 0 A) (F0 m 61 ls [])) (x9 : Int32) (rI : Nat → Int32) (rA : Nat → Nat → Int32) (H : Heap) (locs : List Loc) (ls : Array Slot), f_X5_go1_b761 n K rc61 x1 x2 x3 x9 rI rA rR = some R → va_P D vwCl (wl [gR cA aR rI rA rG] ++ gG cA K rR) H → va_D A (wl [gR cA aR rI rA rG] ++ gG cA K rR) → va_S A s.heap H locs → lv_has ls 14 [(0, .ref (aR 0)), (1, .int x1), (2, .ref x2), (3, .int x3), (9, .int x9)] → W p l e (headSpec (wsU yX5_go cX5_go 14 none) ({ frames := 2, cells := 0, slots := 0, locals := 43 })).room s m ([.ref (aR 0), .int u1, .ref u2, .int u3] : List Value).toArray below meth c H locs 0 0 (MQ below (QV D (fun u : (Nat → Int32) × (Nat → Nat → Int32) => (wl [gR cA aR u.1 u.2 rG] ++ gG cA K rR)) R A) ([.ref (aR 0), .int u1, .ref u2, .int u3] : List Value).toArray s 0 0 A) (F0 m 761 ls []) := by
    intro x1 x2 x3 rc61 hr61 x9 rI rA H locs ls h hP hD hS hl
    unfold f_X5_go1_b761 at h
    refine lv_iload hx hb dX5_go_761 (lv_at hl 4 rfl) ?_
    refine lv_istore (lv' := [(4, .int x9), (0, .ref (aR 0)), (1, .int x1), (2, .ref x2), (3, .int x3), (9, .int x9)]) hx hb dX5_go_763 hl (by decide) rfl (fun ls hl => ?_)
    refine lv_goto (tgt := 61) hx hb dX5_go_765 (by decide) ?_
    exact hr61 _ _ _ _ _ _ h hP hD hS (lv_sub hl [1, 2, 3, 4, 0] rfl)
  have b757 : ∀ (y1 : Int32) (y2 : Int32) (y3 : Int32) (rI : Nat → Int32) (rA : Nat → Nat → Int32) (H : Heap) (locs : List Loc) (ls : Array Slot), f_X5_go1_b757 n K y1 y2 y3 rI rA rR = some R → va_P D vwCl (wl [gR cA aR rI rA rG] ++ gG cA K rR) H → va_D A (wl [gR cA aR rI rA rG] ++ gG cA K rR) → va_S A s.heap H locs → lv_has ls 14 [] → W p l e (headSpec (wsU yX5_go cX5_go 14 none) ({ frames := 2, cells := 0, slots := 0, locals := 43 })).room s m ([.ref (aR 0), .int u1, .ref u2, .int u3] : List Value).toArray below meth c H locs 0 0 (MQ below (QV D (fun u : (Nat → Int32) × (Nat → Nat → Int32) => (wl [gR cA aR u.1 u.2 rG] ++ gG cA K rR)) R A) ([.ref (aR 0), .int u1, .ref u2, .int u3] : List Value).toArray s 0 0 A) (F0 m 757 ls [.int y3, .int y2, .int y1, .ref (aR 0)]) := by
    intro y1 y2 y3 rI rA H locs ls h hP hD hS hl
    unfold f_X5_go1_b757 at h
    obtain ⟨rI2, e2, h⟩ := og_bind h
    refine gc_v (ws := (wl [gR cA aR rI rA rG] ++ gG cA K rR)) (wc := (wl [gR cA aR rI rA rG] ++ gG cA K rR)) (wr := (wl ([] : List va_W))) (ws' := (wl [gR cA aR rI2 rA rG] ++ gG cA K rR)) (va_runV (As := [.int y1, .int y2, .int y3]) (rest := []) ⟨hx, hb, hml, hown, hT⟩ (k_X5_ends l D cA aR K H.size y1 y2 y3 rI rA rG rR _ e2) (cwV 3 hT gv_RX5_155 rfl rfl rfl (by decide +kernel) ⟨Nat.le_of_ble_eq_true rfl, Nat.le_of_ble_eq_true rfl⟩) (pre_V (ci := 5) (q0 := 0) (wr := (wl ([] : List va_W))) (pmB (f := fun i => ([gR cA aR rI rA rG] : List va_W).getD i []) [0] [0] [] (by decide)) hK hP hD rfl rfl) rfl rfl hl.1 rfl (lv_room (Nat.le_of_ble_eq_true rfl)) dX5_go_757 ⟨Nat.le_refl _, Nat.le_refl _⟩) (pmB (f := fun i => ([gR cA aR rI rA rG] : List va_W).getD i []) [0] [0] [] (by decide)) hP hD hS hA (pmB (f := fun i => ([gR cA aR rI2 rA rG] : List va_W).getD i []) [0] [0] [] (by decide)) (fun H locs hP hD hS => ?_)
    exact W.vret hx hb hr (fun t ht hW => ⟨⟨(rI2, rA), rfl, (og_inj h).symm, (by rw [ht]; exact hP), hD⟩, hS.F ht⟩) hS.2.2 dX5_go_760
  have b736 : ∀ (x4 : Int32) (x5 : Int32) (x6 : Int32) (y1 : Int32) (rI : Nat → Int32) (rA : Nat → Nat → Int32) (H : Heap) (locs : List Loc) (ls : Array Slot), f_X5_go1_b736 n K x4 x5 x6 y1 rI rA rR = some R → va_P D vwCl (wl [gR cA aR rI rA rG] ++ gG cA K rR) H → va_D A (wl [gR cA aR rI rA rG] ++ gG cA K rR) → va_S A s.heap H locs → lv_has ls 14 [(0, .ref (aR 0)), (4, .int x4), (5, .int x5), (6, .int x6)] → W p l e (headSpec (wsU yX5_go cX5_go 14 none) ({ frames := 2, cells := 0, slots := 0, locals := 43 })).room s m ([.ref (aR 0), .int u1, .ref u2, .int u3] : List Value).toArray below meth c H locs 0 0 (MQ below (QV D (fun u : (Nat → Int32) × (Nat → Nat → Int32) => (wl [gR cA aR u.1 u.2 rG] ++ gG cA K rR)) R A) ([.ref (aR 0), .int u1, .ref u2, .int u3] : List Value).toArray s 0 0 A) (F0 m 736 ls [.int y1, .ref (aR 0)]) := by
    intro x4 x5 x6 y1 rI rA H locs ls h hP hD hS hl
    unfold f_X5_go1_b736 at h
    refine lv_iload hx hb dX5_go_736 (lv_at hl 1 rfl) ?_
    refine lv_iload hx hb dX5_go_738 (lv_at hl 2 rfl) ?_
    refine lv_bipush (v := (30 : Int32)) hx hb dX5_go_740 (by decide) ?_
    refine lv_icmp_ne (tgt := 750) hx hb dX5_go_742 (by decide) (fun c3 => ?_) (fun c3 => ?_)
    · replace h := og_neg c3 h
      refine lv_aload_n hx hb dX5_go_750 rfl (lv_at hl 0 rfl) ?_
      refine va_get (D := D) (C := RX5) (T := TX5) (N := 40) hx hb hT inlX5 hown hK.1 hP 0 rfl rfl 22 (by decide) (hT _ fl_RX5_62) (fun _ h9 => h9) rfl dX5_go_751 ?_
      refine lv_iload hx hb dX5_go_754 (lv_at hl 3 rfl) ?_
      obtain ⟨g4, h⟩ := og_guard h
      refine va_iald hx hb hK.1 hP 16 0 rfl rfl (inb_vp g4) dX5_go_756 ?_
      exact b757  _ _ _ _ _ _ _ _ h hP hD hS (lv_sub hl [] rfl)
    · replace h := og_pos c3 h
      refine lv_iload hx hb dX5_go_745 (lv_at hl 3 rfl) ?_
      refine lv_goto (tgt := 757) hx hb dX5_go_747 (by decide) ?_
      exact b757  _ _ _ _ _ _ _ _ h hP hD hS (lv_sub hl [] rfl)
  have b723 : ∀ (x4 : Int32) (x5 : Int32) (x6 : Int32) (rI : Nat → Int32) (rA : Nat → Nat → Int32) (H : Heap) (locs : List Loc) (ls : Array Slot), f_X5_go1_b723 n K x4 x5 x6 rI rA rR = some R → va_P D vwCl (wl [gR cA aR rI rA rG] ++ gG cA K rR) H → va_D A (wl [gR cA aR rI rA rG] ++ gG cA K rR) → va_S A s.heap H locs → lv_has ls 14 [(0, .ref (aR 0)), (4, .int x4), (5, .int x5), (6, .int x6)] → W p l e (headSpec (wsU yX5_go cX5_go 14 none) ({ frames := 2, cells := 0, slots := 0, locals := 43 })).room s m ([.ref (aR 0), .int u1, .ref u2, .int u3] : List Value).toArray below meth c H locs 0 0 (MQ below (QV D (fun u : (Nat → Int32) × (Nat → Nat → Int32) => (wl [gR cA aR u.1 u.2 rG] ++ gG cA K rR)) R A) ([.ref (aR 0), .int u1, .ref u2, .int u3] : List Value).toArray s 0 0 A) (F0 m 723 ls []) := by
    intro x4 x5 x6 rI rA H locs ls h hP hD hS hl
    unfold f_X5_go1_b723 at h
    refine lv_aload_n hx hb dX5_go_723 rfl (lv_at hl 0 rfl) ?_
    refine lv_iload hx hb dX5_go_724 (lv_at hl 2 rfl) ?_
    refine lv_bipush (v := (30 : Int32)) hx hb dX5_go_726 (by decide) ?_
    refine lv_icmp_ne (tgt := 735) hx hb dX5_go_728 (by decide) (fun c5 => ?_) (fun c5 => ?_)
    · replace h := og_neg c5 h
      refine lv_iconst (v := (0 : Int32)) hx hb dX5_go_735 (by decide) ?_
      exact b736  _ _ _ _ _ _ _ _ _ h hP hD hS (lv_sub hl [0, 1, 2, 3] rfl)
    · replace h := og_pos c5 h
      refine lv_iconst (v := (4 : Int32)) hx hb dX5_go_731 (by decide) ?_
      refine lv_goto (tgt := 736) hx hb dX5_go_732 (by decide) ?_
      exact b736  _ _ _ _ _ _ _ _ _ h hP hD hS (lv_sub hl [0, 1, 2, 3] rfl)
  have b714 : ∀ (x4 : Int32) (rI : Nat → Int32) (rA : Nat → Nat → Int32) (H : Heap) (locs : List Loc) (ls : Array Slot), f_X5_go1_b714 n K x4 rI rA rR = some R → va_P D vwCl (wl [gR cA aR rI rA rG] ++ gG cA K rR) H → va_D A (wl [gR cA aR rI rA rG] ++ gG cA K rR) → va_S A s.heap H locs → lv_has ls 14 [(0, .ref (aR 0)), (4, .int x4)] → W p l e (headSpec (wsU yX5_go cX5_go 14 none) ({ frames := 2, cells := 0, slots := 0, locals := 43 })).room s m ([.ref (aR 0), .int u1, .ref u2, .int u3] : List Value).toArray below meth c H locs 0 0 (MQ below (QV D (fun u : (Nat → Int32) × (Nat → Nat → Int32) => (wl [gR cA aR u.1 u.2 rG] ++ gG cA K rR)) R A) ([.ref (aR 0), .int u1, .ref u2, .int u3] : List Value).toArray s 0 0 A) (F0 m 714 ls []) := by
    intro x4 rI rA H locs ls h hP hD hS hl
    unfold f_X5_go1_b714 at h
    refine lv_aload_n hx hb dX5_go_714 rfl (lv_at hl 0 rfl) ?_
    refine lv_iconst (v := (3 : Int32)) hx hb dX5_go_715 (by decide) ?_
    refine lv_iload hx hb dX5_go_716 (lv_at hl 1 rfl) ?_
    refine lv_iconst (v := (0 : Int32)) hx hb dX5_go_718 (by decide) ?_
    obtain ⟨rI6, e6, h⟩ := og_bind h
    refine gc_v (ws := (wl [gR cA aR rI rA rG] ++ gG cA K rR)) (wc := (wl [gR cA aR rI rA rG] ++ gG cA K rR)) (wr := (wl ([] : List va_W))) (ws' := (wl [gR cA aR rI6 rA rG] ++ gG cA K rR)) (va_runV (As := [.int (3 : Int32), .int x4, .int (0 : Int32)]) (rest := []) ⟨hx, hb, hml, hown, hT⟩ (k_X5_ends l D cA aR K H.size (3 : Int32) x4 (0 : Int32) rI rA rG rR _ e6) (cwV 3 hT gv_RX5_155 rfl rfl rfl (by decide +kernel) ⟨Nat.le_of_ble_eq_true rfl, Nat.le_of_ble_eq_true rfl⟩) (pre_V (ci := 5) (q0 := 0) (wr := (wl ([] : List va_W))) (pmB (f := fun i => ([gR cA aR rI rA rG] : List va_W).getD i []) [0] [0] [] (by decide)) hK hP hD rfl rfl) rfl rfl hl.1 rfl (lv_room (Nat.le_of_ble_eq_true rfl)) dX5_go_719 ⟨Nat.le_refl _, Nat.le_refl _⟩) (pmB (f := fun i => ([gR cA aR rI rA rG] : List va_W).getD i []) [0] [0] [] (by decide)) hP hD hS hA (pmB (f := fun i => ([gR cA aR rI6 rA rG] : List va_W).getD i []) [0] [0] [] (by decide)) (fun H locs hP hD hS => ?_)
    exact W.vret hx hb hr (fun t ht hW => ⟨⟨(rI6, rA), rfl, (og_inj h).symm, (by rw [ht]; exact hP), hD⟩, hS.F ht⟩) hS.2.2 dX5_go_722
  have b683 : ∀ (x1 : Int32) (x2 : Nat) (x3 : Int32) (rc61 : (Int32 × (Nat → Int32) × (Nat → Nat → Int32)) → Option ((Nat → Int32) × (Nat → Nat → Int32))) (hr61 : ∀ (x4 : Int32) (rI : Nat → Int32) (rA : Nat → Nat → Int32) (H : Heap) (locs : List Loc) (ls : Array Slot), rc61 (x4, rI, rA) = some R → va_P D vwCl (wl [gR cA aR rI rA rG] ++ gG cA K rR) H → va_D A (wl [gR cA aR rI rA rG] ++ gG cA K rR) → va_S A s.heap H locs → lv_has ls 14 [(0, .ref (aR 0)), (1, .int x1), (2, .ref x2), (3, .int x3), (4, .int x4)] → W p l e (headSpec (wsU yX5_go cX5_go 14 none) ({ frames := 2, cells := 0, slots := 0, locals := 43 })).room s m ([.ref (aR 0), .int u1, .ref u2, .int u3] : List Value).toArray below meth c H locs 0 0 (MQ below (QV D (fun u : (Nat → Int32) × (Nat → Nat → Int32) => (wl [gR cA aR u.1 u.2 rG] ++ gG cA K rR)) R A) ([.ref (aR 0), .int u1, .ref u2, .int u3] : List Value).toArray s 0 0 A) (F0 m 61 ls [])) (y0 : Int32) (rI : Nat → Int32) (rA : Nat → Nat → Int32) (H : Heap) (locs : List Loc) (ls : Array Slot), f_X5_go1_b683 n K rc61 x1 x2 x3 y0 rI rA rR = some R → va_P D vwCl (wl [gR cA aR rI rA rG] ++ gG cA K rR) H → va_D A (wl [gR cA aR rI rA rG] ++ gG cA K rR) → va_S A s.heap H locs → lv_has ls 14 [(0, .ref (aR 0)), (1, .int x1), (2, .ref x2), (3, .int x3)] → W p l e (headSpec (wsU yX5_go cX5_go 14 none) ({ frames := 2, cells := 0, slots := 0, locals := 43 })).room s m ([.ref (aR 0), .int u1, .ref u2, .int u3] : List Value).toArray below meth c H locs 0 0 (MQ below (QV D (fun u : (Nat → Int32) × (Nat → Nat → Int32) => (wl [gR cA aR u.1 u.2 rG] ++ gG cA K rR)) R A) ([.ref (aR 0), .int u1, .ref u2, .int u3] : List Value).toArray s 0 0 A) (F0 m 683 ls [.int y0]) := by
    intro x1 x2 x3 rc61 hr61 y0 rI rA H locs ls h hP hD hS hl
    unfold f_X5_go1_b683 at h
    refine lv_istore (lv' := [(9, .int y0), (0, .ref (aR 0)), (1, .int x1), (2, .ref x2), (3, .int x3)]) hx hb dX5_go_683 hl (by decide) rfl (fun ls hl => ?_)
    refine lv_goto (tgt := 761) hx hb dX5_go_685 (by decide) ?_
    exact b761 _ _ _ _ hr61 _ _ _ _ _ _ h hP hD hS (lv_sub hl [1, 2, 3, 4, 0] rfl)
  have b661 : ∀ (x1 : Int32) (x2 : Nat) (x3 : Int32) (rc61 : (Int32 × (Nat → Int32) × (Nat → Nat → Int32)) → Option ((Nat → Int32) × (Nat → Nat → Int32))) (hr61 : ∀ (x4 : Int32) (rI : Nat → Int32) (rA : Nat → Nat → Int32) (H : Heap) (locs : List Loc) (ls : Array Slot), rc61 (x4, rI, rA) = some R → va_P D vwCl (wl [gR cA aR rI rA rG] ++ gG cA K rR) H → va_D A (wl [gR cA aR rI rA rG] ++ gG cA K rR) → va_S A s.heap H locs → lv_has ls 14 [(0, .ref (aR 0)), (1, .int x1), (2, .ref x2), (3, .int x3), (4, .int x4)] → W p l e (headSpec (wsU yX5_go cX5_go 14 none) ({ frames := 2, cells := 0, slots := 0, locals := 43 })).room s m ([.ref (aR 0), .int u1, .ref u2, .int u3] : List Value).toArray below meth c H locs 0 0 (MQ below (QV D (fun u : (Nat → Int32) × (Nat → Nat → Int32) => (wl [gR cA aR u.1 u.2 rG] ++ gG cA K rR)) R A) ([.ref (aR 0), .int u1, .ref u2, .int u3] : List Value).toArray s 0 0 A) (F0 m 61 ls [])) (x9 : Int32) (rI : Nat → Int32) (rA : Nat → Nat → Int32) (H : Heap) (locs : List Loc) (ls : Array Slot), f_X5_go1_b661 n K rc61 x1 x2 x3 x9 rI rA rR = some R → va_P D vwCl (wl [gR cA aR rI rA rG] ++ gG cA K rR) H → va_D A (wl [gR cA aR rI rA rG] ++ gG cA K rR) → va_S A s.heap H locs → lv_has ls 14 [(0, .ref (aR 0)), (1, .int x1), (2, .ref x2), (3, .int x3), (9, .int x9)] → W p l e (headSpec (wsU yX5_go cX5_go 14 none) ({ frames := 2, cells := 0, slots := 0, locals := 43 })).room s m ([.ref (aR 0), .int u1, .ref u2, .int u3] : List Value).toArray below meth c H locs 0 0 (MQ below (QV D (fun u : (Nat → Int32) × (Nat → Nat → Int32) => (wl [gR cA aR u.1 u.2 rG] ++ gG cA K rR)) R A) ([.ref (aR 0), .int u1, .ref u2, .int u3] : List Value).toArray s 0 0 A) (F0 m 661 ls []) := by
    intro x1 x2 x3 rc61 hr61 x9 rI rA H locs ls h hP hD hS hl
    unfold f_X5_go1_b661 at h
    refine lv_goto (tgt := 761) hx hb dX5_go_661 (by decide) ?_
    exact b761 _ _ _ _ hr61 _ _ _ _ _ _ h hP hD hS (lv_sub hl [0, 1, 2, 3, 4] rfl)
  have b638 : ∀ (x1 : Int32) (x2 : Nat) (x3 : Int32) (rc61 : (Int32 × (Nat → Int32) × (Nat → Nat → Int32)) → Option ((Nat → Int32) × (Nat → Nat → Int32))) (hr61 : ∀ (x4 : Int32) (rI : Nat → Int32) (rA : Nat → Nat → Int32) (H : Heap) (locs : List Loc) (ls : Array Slot), rc61 (x4, rI, rA) = some R → va_P D vwCl (wl [gR cA aR rI rA rG] ++ gG cA K rR) H → va_D A (wl [gR cA aR rI rA rG] ++ gG cA K rR) → va_S A s.heap H locs → lv_has ls 14 [(0, .ref (aR 0)), (1, .int x1), (2, .ref x2), (3, .int x3), (4, .int x4)] → W p l e (headSpec (wsU yX5_go cX5_go 14 none) ({ frames := 2, cells := 0, slots := 0, locals := 43 })).room s m ([.ref (aR 0), .int u1, .ref u2, .int u3] : List Value).toArray below meth c H locs 0 0 (MQ below (QV D (fun u : (Nat → Int32) × (Nat → Nat → Int32) => (wl [gR cA aR u.1 u.2 rG] ++ gG cA K rR)) R A) ([.ref (aR 0), .int u1, .ref u2, .int u3] : List Value).toArray s 0 0 A) (F0 m 61 ls [])) (x9 : Int32) (y1 : Int32) (y2 : Int32) (rI : Nat → Int32) (rA : Nat → Nat → Int32) (H : Heap) (locs : List Loc) (ls : Array Slot), f_X5_go1_b638 n K rc61 x1 x2 x3 x9 y1 y2 rI rA rR = some R → va_P D vwCl (wl [gR cA aR rI rA rG] ++ gG cA K rR) H → va_D A (wl [gR cA aR rI rA rG] ++ gG cA K rR) → va_S A s.heap H locs → lv_has ls 14 [(0, .ref (aR 0)), (1, .int x1), (2, .ref x2), (3, .int x3), (9, .int x9)] → W p l e (headSpec (wsU yX5_go cX5_go 14 none) ({ frames := 2, cells := 0, slots := 0, locals := 43 })).room s m ([.ref (aR 0), .int u1, .ref u2, .int u3] : List Value).toArray below meth c H locs 0 0 (MQ below (QV D (fun u : (Nat → Int32) × (Nat → Nat → Int32) => (wl [gR cA aR u.1 u.2 rG] ++ gG cA K rR)) R A) ([.ref (aR 0), .int u1, .ref u2, .int u3] : List Value).toArray s 0 0 A) (F0 m 638 ls [.int y2, .int y1, .ref (aR 16)]) := by
    intro x1 x2 x3 rc61 hr61 x9 y1 y2 rI rA H locs ls h hP hD hS hl
    unfold f_X5_go1_b638 at h
    obtain ⟨g7, h⟩ := og_guard h
    refine va_iast hx hb hK.1 hP hD hS 16 0 rfl rfl (inb_vp g7) dX5_go_638 (fun H locs hP hD hS => ?_)
    have hP : va_P D vwCl (wl [gR cA aR rI (up2 rA 14 y1.toNatClampNeg y2) rG] ++ gG cA K rR) H := hP
    have hD : va_D A (wl [gR cA aR rI (up2 rA 14 y1.toNatClampNeg y2) rG] ++ gG cA K rR) := hD
    refine lv_goto (tgt := 661) hx hb dX5_go_639 (by decide) ?_
    exact b661 _ _ _ _ hr61 _ _ _ _ _ _ h hP hD hS (lv_sub hl [0, 1, 2, 3, 4] rfl)
  have b607 : ∀ (x1 : Int32) (x2 : Nat) (x3 : Int32) (rc61 : (Int32 × (Nat → Int32) × (Nat → Nat → Int32)) → Option ((Nat → Int32) × (Nat → Nat → Int32))) (hr61 : ∀ (x4 : Int32) (rI : Nat → Int32) (rA : Nat → Nat → Int32) (H : Heap) (locs : List Loc) (ls : Array Slot), rc61 (x4, rI, rA) = some R → va_P D vwCl (wl [gR cA aR rI rA rG] ++ gG cA K rR) H → va_D A (wl [gR cA aR rI rA rG] ++ gG cA K rR) → va_S A s.heap H locs → lv_has ls 14 [(0, .ref (aR 0)), (1, .int x1), (2, .ref x2), (3, .int x3), (4, .int x4)] → W p l e (headSpec (wsU yX5_go cX5_go 14 none) ({ frames := 2, cells := 0, slots := 0, locals := 43 })).room s m ([.ref (aR 0), .int u1, .ref u2, .int u3] : List Value).toArray below meth c H locs 0 0 (MQ below (QV D (fun u : (Nat → Int32) × (Nat → Nat → Int32) => (wl [gR cA aR u.1 u.2 rG] ++ gG cA K rR)) R A) ([.ref (aR 0), .int u1, .ref u2, .int u3] : List Value).toArray s 0 0 A) (F0 m 61 ls [])) (x5 : Int32) (x6 : Int32) (x7 : Int32) (x9 : Int32) (x12 : Int32) (y0 : Int32) (rI : Nat → Int32) (rA : Nat → Nat → Int32) (H : Heap) (locs : List Loc) (ls : Array Slot), f_X5_go1_b607 n K rc61 x1 x2 x3 x5 x6 x7 x9 x12 y0 rI rA rR = some R → va_P D vwCl (wl [gR cA aR rI rA rG] ++ gG cA K rR) H → va_D A (wl [gR cA aR rI rA rG] ++ gG cA K rR) → va_S A s.heap H locs → lv_has ls 14 [(0, .ref (aR 0)), (1, .int x1), (2, .ref x2), (3, .int x3), (5, .int x5), (6, .int x6), (7, .int x7), (9, .int x9), (12, .int x12)] → W p l e (headSpec (wsU yX5_go cX5_go 14 none) ({ frames := 2, cells := 0, slots := 0, locals := 43 })).room s m ([.ref (aR 0), .int u1, .ref u2, .int u3] : List Value).toArray below meth c H locs 0 0 (MQ below (QV D (fun u : (Nat → Int32) × (Nat → Nat → Int32) => (wl [gR cA aR u.1 u.2 rG] ++ gG cA K rR)) R A) ([.ref (aR 0), .int u1, .ref u2, .int u3] : List Value).toArray s 0 0 A) (F0 m 607 ls [.int y0]) := by
    intro x1 x2 x3 rc61 hr61 x5 x6 x7 x9 x12 y0 rI rA H locs ls h hP hD hS hl
    unfold f_X5_go1_b607 at h
    refine lv_istore (lv' := [(13, .int y0), (0, .ref (aR 0)), (1, .int x1), (2, .ref x2), (3, .int x3), (5, .int x5), (6, .int x6), (7, .int x7), (9, .int x9), (12, .int x12)]) hx hb dX5_go_607 hl (by decide) rfl (fun ls hl => ?_)
    refine lv_iload hx hb dX5_go_609 (lv_at hl 5 rfl) ?_
    refine lv_bipush (v := (25 : Int32)) hx hb dX5_go_611 (by decide) ?_
    refine lv_icmp_ne (tgt := 642) hx hb dX5_go_613 (by decide) (fun c8 => ?_) (fun c8 => ?_)
    · replace h := og_neg c8 h
      refine lv_iload hx hb dX5_go_642 (lv_at hl 0 rfl) ?_
      refine lv_if_eq (tgt := 661) hx hb dX5_go_644 (by decide) (fun c9 => ?_) (fun c9 => ?_)
      · replace h := og_pos c9 h
        exact b661 _ _ _ _ hr61 _ _ _ _ _ _ h hP hD hS (lv_sub hl [1, 2, 3, 4, 8] rfl)
      · replace h := og_neg c9 h
        refine lv_aload_n hx hb dX5_go_647 rfl (lv_at hl 1 rfl) ?_
        refine va_get (D := D) (C := RX5) (T := TX5) (N := 40) hx hb hT inlX5 hown hK.1 hP 0 rfl rfl 23 (by decide) (hT _ fl_RX5_65) (fun _ h9 => h9) rfl dX5_go_648 ?_
        refine lv_iload hx hb dX5_go_651 (lv_at hl 9 rfl) ?_
        refine lv_aload_n hx hb dX5_go_653 rfl (lv_at hl 1 rfl) ?_
        refine va_get (D := D) (C := RX5) (T := TX5) (N := 40) hx hb hT inlX5 hown hK.1 hP 0 rfl rfl 22 (by decide) (hT _ fl_RX5_62) (fun _ h9 => h9) rfl dX5_go_654 ?_
        refine lv_iload hx hb dX5_go_657 (lv_at hl 7 rfl) ?_
        obtain ⟨g10, h⟩ := og_guard h
        refine va_iald hx hb hK.1 hP 16 0 rfl rfl (inb_vp g10) dX5_go_659 ?_
        obtain ⟨g11, h⟩ := og_guard h
        refine va_iast hx hb hK.1 hP hD hS 17 0 rfl rfl (inb_vp g11) dX5_go_660 (fun H locs hP hD hS => ?_)
        have hP : va_P D vwCl (wl [gR cA aR rI (up2 rA 15 x12.toNatClampNeg (rA 14 x7.toNatClampNeg)) rG] ++ gG cA K rR) H := hP
        have hD : va_D A (wl [gR cA aR rI (up2 rA 15 x12.toNatClampNeg (rA 14 x7.toNatClampNeg)) rG] ++ gG cA K rR) := hD
        exact b661 _ _ _ _ hr61 _ _ _ _ _ _ h hP hD hS (lv_sub hl [1, 2, 3, 4, 8] rfl)
    · replace h := og_pos c8 h
      refine lv_aload_n hx hb dX5_go_616 rfl (lv_at hl 1 rfl) ?_
      refine va_get (D := D) (C := RX5) (T := TX5) (N := 40) hx hb hT inlX5 hown hK.1 hP 0 rfl rfl 22 (by decide) (hT _ fl_RX5_62) (fun _ h9 => h9) rfl dX5_go_617 ?_
      refine lv_iload hx hb dX5_go_620 (lv_at hl 6 rfl) ?_
      refine lv_iload hx hb dX5_go_622 (lv_at hl 0 rfl) ?_
      refine lv_if_eq (tgt := 637) hx hb dX5_go_624 (by decide) (fun c12 => ?_) (fun c12 => ?_)
      · replace h := og_pos c12 h
        refine lv_iconst (v := (0 : Int32)) hx hb dX5_go_637 (by decide) ?_
        exact b638 _ _ _ _ hr61 _ _ _ _ _ _ _ _ h hP hD hS (lv_sub hl [1, 2, 3, 4, 8] rfl)
      · replace h := og_neg c12 h
        refine lv_aload_n hx hb dX5_go_627 rfl (lv_at hl 1 rfl) ?_
        refine va_get (D := D) (C := RX5) (T := TX5) (N := 40) hx hb hT inlX5 hown hK.1 hP 0 rfl rfl 23 (by decide) (hT _ fl_RX5_65) (fun _ h9 => h9) rfl dX5_go_628 ?_
        refine lv_iload hx hb dX5_go_631 (lv_at hl 9 rfl) ?_
        obtain ⟨g13, h⟩ := og_guard h
        refine va_iald hx hb hK.1 hP 17 0 rfl rfl (inb_vp g13) dX5_go_633 ?_
        refine lv_goto (tgt := 638) hx hb dX5_go_634 (by decide) ?_
        exact b638 _ _ _ _ hr61 _ _ _ _ _ _ _ _ h hP hD hS (lv_sub hl [1, 2, 3, 4, 8] rfl)
  have b606 : ∀ (x1 : Int32) (x2 : Nat) (x3 : Int32) (rc61 : (Int32 × (Nat → Int32) × (Nat → Nat → Int32)) → Option ((Nat → Int32) × (Nat → Nat → Int32))) (hr61 : ∀ (x4 : Int32) (rI : Nat → Int32) (rA : Nat → Nat → Int32) (H : Heap) (locs : List Loc) (ls : Array Slot), rc61 (x4, rI, rA) = some R → va_P D vwCl (wl [gR cA aR rI rA rG] ++ gG cA K rR) H → va_D A (wl [gR cA aR rI rA rG] ++ gG cA K rR) → va_S A s.heap H locs → lv_has ls 14 [(0, .ref (aR 0)), (1, .int x1), (2, .ref x2), (3, .int x3), (4, .int x4)] → W p l e (headSpec (wsU yX5_go cX5_go 14 none) ({ frames := 2, cells := 0, slots := 0, locals := 43 })).room s m ([.ref (aR 0), .int u1, .ref u2, .int u3] : List Value).toArray below meth c H locs 0 0 (MQ below (QV D (fun u : (Nat → Int32) × (Nat → Nat → Int32) => (wl [gR cA aR u.1 u.2 rG] ++ gG cA K rR)) R A) ([.ref (aR 0), .int u1, .ref u2, .int u3] : List Value).toArray s 0 0 A) (F0 m 61 ls [])) (x5 : Int32) (x6 : Int32) (x7 : Int32) (x9 : Int32) (x12 : Int32) (rI : Nat → Int32) (rA : Nat → Nat → Int32) (H : Heap) (locs : List Loc) (ls : Array Slot), f_X5_go1_b606 n K rc61 x1 x2 x3 x5 x6 x7 x9 x12 rI rA rR = some R → va_P D vwCl (wl [gR cA aR rI rA rG] ++ gG cA K rR) H → va_D A (wl [gR cA aR rI rA rG] ++ gG cA K rR) → va_S A s.heap H locs → lv_has ls 14 [(0, .ref (aR 0)), (1, .int x1), (2, .ref x2), (3, .int x3), (5, .int x5), (6, .int x6), (7, .int x7), (9, .int x9), (12, .int x12)] → W p l e (headSpec (wsU yX5_go cX5_go 14 none) ({ frames := 2, cells := 0, slots := 0, locals := 43 })).room s m ([.ref (aR 0), .int u1, .ref u2, .int u3] : List Value).toArray below meth c H locs 0 0 (MQ below (QV D (fun u : (Nat → Int32) × (Nat → Nat → Int32) => (wl [gR cA aR u.1 u.2 rG] ++ gG cA K rR)) R A) ([.ref (aR 0), .int u1, .ref u2, .int u3] : List Value).toArray s 0 0 A) (F0 m 606 ls []) := by
    intro x1 x2 x3 rc61 hr61 x5 x6 x7 x9 x12 rI rA H locs ls h hP hD hS hl
    unfold f_X5_go1_b606 at h
    refine lv_iconst (v := (0 : Int32)) hx hb dX5_go_606 (by decide) ?_
    exact b607 _ _ _ _ hr61 _ _ _ _ _ _ _ _ _ _ _ h hP hD hS (lv_sub hl [0, 1, 2, 3, 4, 5, 6, 7, 8] rfl)
  have b588 : ∀ (x1 : Int32) (x2 : Nat) (x3 : Int32) (rc61 : (Int32 × (Nat → Int32) × (Nat → Nat → Int32)) → Option ((Nat → Int32) × (Nat → Nat → Int32))) (hr61 : ∀ (x4 : Int32) (rI : Nat → Int32) (rA : Nat → Nat → Int32) (H : Heap) (locs : List Loc) (ls : Array Slot), rc61 (x4, rI, rA) = some R → va_P D vwCl (wl [gR cA aR rI rA rG] ++ gG cA K rR) H → va_D A (wl [gR cA aR rI rA rG] ++ gG cA K rR) → va_S A s.heap H locs → lv_has ls 14 [(0, .ref (aR 0)), (1, .int x1), (2, .ref x2), (3, .int x3), (4, .int x4)] → W p l e (headSpec (wsU yX5_go cX5_go 14 none) ({ frames := 2, cells := 0, slots := 0, locals := 43 })).room s m ([.ref (aR 0), .int u1, .ref u2, .int u3] : List Value).toArray below meth c H locs 0 0 (MQ below (QV D (fun u : (Nat → Int32) × (Nat → Nat → Int32) => (wl [gR cA aR u.1 u.2 rG] ++ gG cA K rR)) R A) ([.ref (aR 0), .int u1, .ref u2, .int u3] : List Value).toArray s 0 0 A) (F0 m 61 ls [])) (x5 : Int32) (x6 : Int32) (x7 : Int32) (x9 : Int32) (y0 : Int32) (rI : Nat → Int32) (rA : Nat → Nat → Int32) (H : Heap) (locs : List Loc) (ls : Array Slot), f_X5_go1_b588 n K rc61 x1 x2 x3 x5 x6 x7 x9 y0 rI rA rR = some R → va_P D vwCl (wl [gR cA aR rI rA rG] ++ gG cA K rR) H → va_D A (wl [gR cA aR rI rA rG] ++ gG cA K rR) → va_S A s.heap H locs → lv_has ls 14 [(0, .ref (aR 0)), (1, .int x1), (2, .ref x2), (3, .int x3), (5, .int x5), (6, .int x6), (7, .int x7), (9, .int x9)] → W p l e (headSpec (wsU yX5_go cX5_go 14 none) ({ frames := 2, cells := 0, slots := 0, locals := 43 })).room s m ([.ref (aR 0), .int u1, .ref u2, .int u3] : List Value).toArray below meth c H locs 0 0 (MQ below (QV D (fun u : (Nat → Int32) × (Nat → Nat → Int32) => (wl [gR cA aR u.1 u.2 rG] ++ gG cA K rR)) R A) ([.ref (aR 0), .int u1, .ref u2, .int u3] : List Value).toArray s 0 0 A) (F0 m 588 ls [.int y0]) := by
    intro x1 x2 x3 rc61 hr61 x5 x6 x7 x9 y0 rI rA H locs ls h hP hD hS hl
    unfold f_X5_go1_b588 at h
    refine lv_istore (lv' := [(12, .int y0), (0, .ref (aR 0)), (1, .int x1), (2, .ref x2), (3, .int x3), (5, .int x5), (6, .int x6), (7, .int x7), (9, .int x9)]) hx hb dX5_go_588 hl (by decide) rfl (fun ls hl => ?_)
    refine lv_iload hx hb dX5_go_590 (lv_at hl 0 rfl) ?_
    refine lv_if_lt (tgt := 606) hx hb dX5_go_592 (by decide) (fun c14 => ?_) (fun c14 => ?_)
    · replace h := og_pos c14 h
      exact b606 _ _ _ _ hr61 _ _ _ _ _ _ _ _ _ _ h hP hD hS (lv_sub hl [1, 2, 3, 4, 5, 6, 7, 8, 0] rfl)
    · replace h := og_neg c14 h
      refine lv_iload hx hb dX5_go_595 (lv_at hl 0 rfl) ?_
      refine lv_bipush (v := (8 : Int32)) hx hb dX5_go_597 (by decide) ?_
      refine lv_icmp_ge (tgt := 606) hx hb dX5_go_599 (by decide) (fun c15 => ?_) (fun c15 => ?_)
      · replace h := og_pos c15 h
        exact b606 _ _ _ _ hr61 _ _ _ _ _ _ _ _ _ _ h hP hD hS (lv_sub hl [1, 2, 3, 4, 5, 6, 7, 8, 0] rfl)
      · replace h := og_neg c15 h
        refine lv_iconst (v := (1 : Int32)) hx hb dX5_go_602 (by decide) ?_
        refine lv_goto (tgt := 607) hx hb dX5_go_603 (by decide) ?_
        exact b607 _ _ _ _ hr61 _ _ _ _ _ _ _ _ _ _ _ h hP hD hS (lv_sub hl [1, 2, 3, 4, 5, 6, 7, 8, 0] rfl)
  have b555 : ∀ (x4 : Int32) (rI : Nat → Int32) (rA : Nat → Nat → Int32) (H : Heap) (locs : List Loc) (ls : Array Slot), f_X5_go1_b555 n K x4 rI rA rR = some R → va_P D vwCl (wl [gR cA aR rI rA rG] ++ gG cA K rR) H → va_D A (wl [gR cA aR rI rA rG] ++ gG cA K rR) → va_S A s.heap H locs → lv_has ls 14 [(0, .ref (aR 0)), (4, .int x4)] → W p l e (headSpec (wsU yX5_go cX5_go 14 none) ({ frames := 2, cells := 0, slots := 0, locals := 43 })).room s m ([.ref (aR 0), .int u1, .ref u2, .int u3] : List Value).toArray below meth c H locs 0 0 (MQ below (QV D (fun u : (Nat → Int32) × (Nat → Nat → Int32) => (wl [gR cA aR u.1 u.2 rG] ++ gG cA K rR)) R A) ([.ref (aR 0), .int u1, .ref u2, .int u3] : List Value).toArray s 0 0 A) (F0 m 555 ls []) := by
    intro x4 rI rA H locs ls h hP hD hS hl
    unfold f_X5_go1_b555 at h
    refine lv_aload_n hx hb dX5_go_555 rfl (lv_at hl 0 rfl) ?_
    refine lv_iconst (v := (2 : Int32)) hx hb dX5_go_556 (by decide) ?_
    refine lv_iload hx hb dX5_go_557 (lv_at hl 1 rfl) ?_
    refine lv_iconst (v := (0 : Int32)) hx hb dX5_go_559 (by decide) ?_
    obtain ⟨rI16, e16, h⟩ := og_bind h
    refine gc_v (ws := (wl [gR cA aR rI rA rG] ++ gG cA K rR)) (wc := (wl [gR cA aR rI rA rG] ++ gG cA K rR)) (wr := (wl ([] : List va_W))) (ws' := (wl [gR cA aR rI16 rA rG] ++ gG cA K rR)) (va_runV (As := [.int (2 : Int32), .int x4, .int (0 : Int32)]) (rest := []) ⟨hx, hb, hml, hown, hT⟩ (k_X5_ends l D cA aR K H.size (2 : Int32) x4 (0 : Int32) rI rA rG rR _ e16) (cwV 3 hT gv_RX5_155 rfl rfl rfl (by decide +kernel) ⟨Nat.le_of_ble_eq_true rfl, Nat.le_of_ble_eq_true rfl⟩) (pre_V (ci := 5) (q0 := 0) (wr := (wl ([] : List va_W))) (pmB (f := fun i => ([gR cA aR rI rA rG] : List va_W).getD i []) [0] [0] [] (by decide)) hK hP hD rfl rfl) rfl rfl hl.1 rfl (lv_room (Nat.le_of_ble_eq_true rfl)) dX5_go_560 ⟨Nat.le_refl _, Nat.le_refl _⟩) (pmB (f := fun i => ([gR cA aR rI rA rG] : List va_W).getD i []) [0] [0] [] (by decide)) hP hD hS hA (pmB (f := fun i => ([gR cA aR rI16 rA rG] : List va_W).getD i []) [0] [0] [] (by decide)) (fun H locs hP hD hS => ?_)
    exact W.vret hx hb hr (fun t ht hW => ⟨⟨(rI16, rA), rfl, (og_inj h).symm, (by rw [ht]; exact hP), hD⟩, hS.F ht⟩) hS.2.2 dX5_go_563
  have b539 : ∀ (x1 : Int32) (x2 : Nat) (x3 : Int32) (rc61 : (Int32 × (Nat → Int32) × (Nat → Nat → Int32)) → Option ((Nat → Int32) × (Nat → Nat → Int32))) (hr61 : ∀ (x4 : Int32) (rI : Nat → Int32) (rA : Nat → Nat → Int32) (H : Heap) (locs : List Loc) (ls : Array Slot), rc61 (x4, rI, rA) = some R → va_P D vwCl (wl [gR cA aR rI rA rG] ++ gG cA K rR) H → va_D A (wl [gR cA aR rI rA rG] ++ gG cA K rR) → va_S A s.heap H locs → lv_has ls 14 [(0, .ref (aR 0)), (1, .int x1), (2, .ref x2), (3, .int x3), (4, .int x4)] → W p l e (headSpec (wsU yX5_go cX5_go 14 none) ({ frames := 2, cells := 0, slots := 0, locals := 43 })).room s m ([.ref (aR 0), .int u1, .ref u2, .int u3] : List Value).toArray below meth c H locs 0 0 (MQ below (QV D (fun u : (Nat → Int32) × (Nat → Nat → Int32) => (wl [gR cA aR u.1 u.2 rG] ++ gG cA K rR)) R A) ([.ref (aR 0), .int u1, .ref u2, .int u3] : List Value).toArray s 0 0 A) (F0 m 61 ls [])) (x9 : Int32) (y1 : Int32) (y2 : Int32) (rI : Nat → Int32) (rA : Nat → Nat → Int32) (H : Heap) (locs : List Loc) (ls : Array Slot), f_X5_go1_b539 n K rc61 x1 x2 x3 x9 y1 y2 rI rA rR = some R → va_P D vwCl (wl [gR cA aR rI rA rG] ++ gG cA K rR) H → va_D A (wl [gR cA aR rI rA rG] ++ gG cA K rR) → va_S A s.heap H locs → lv_has ls 14 [(0, .ref (aR 0)), (1, .int x1), (2, .ref x2), (3, .int x3), (9, .int x9)] → W p l e (headSpec (wsU yX5_go cX5_go 14 none) ({ frames := 2, cells := 0, slots := 0, locals := 43 })).room s m ([.ref (aR 0), .int u1, .ref u2, .int u3] : List Value).toArray below meth c H locs 0 0 (MQ below (QV D (fun u : (Nat → Int32) × (Nat → Nat → Int32) => (wl [gR cA aR u.1 u.2 rG] ++ gG cA K rR)) R A) ([.ref (aR 0), .int u1, .ref u2, .int u3] : List Value).toArray s 0 0 A) (F0 m 539 ls [.int y2, .int y1, .ref (aR 16)]) := by
    intro x1 x2 x3 rc61 hr61 x9 y1 y2 rI rA H locs ls h hP hD hS hl
    unfold f_X5_go1_b539 at h
    obtain ⟨g17, h⟩ := og_guard h
    refine va_iast hx hb hK.1 hP hD hS 16 0 rfl rfl (inb_vp g17) dX5_go_539 (fun H locs hP hD hS => ?_)
    have hP : va_P D vwCl (wl [gR cA aR rI (up2 rA 14 y1.toNatClampNeg y2) rG] ++ gG cA K rR) H := hP
    have hD : va_D A (wl [gR cA aR rI (up2 rA 14 y1.toNatClampNeg y2) rG] ++ gG cA K rR) := hD
    refine lv_goto (tgt := 761) hx hb dX5_go_540 (by decide) ?_
    exact b761 _ _ _ _ hr61 _ _ _ _ _ _ h hP hD hS (lv_sub hl [0, 1, 2, 3, 4] rfl)
  have b412 : ∀ (x1 : Int32) (x2 : Nat) (x3 : Int32) (rc61 : (Int32 × (Nat → Int32) × (Nat → Nat → Int32)) → Option ((Nat → Int32) × (Nat → Nat → Int32))) (hr61 : ∀ (x4 : Int32) (rI : Nat → Int32) (rA : Nat → Nat → Int32) (H : Heap) (locs : List Loc) (ls : Array Slot), rc61 (x4, rI, rA) = some R → va_P D vwCl (wl [gR cA aR rI rA rG] ++ gG cA K rR) H → va_D A (wl [gR cA aR rI rA rG] ++ gG cA K rR) → va_S A s.heap H locs → lv_has ls 14 [(0, .ref (aR 0)), (1, .int x1), (2, .ref x2), (3, .int x3), (4, .int x4)] → W p l e (headSpec (wsU yX5_go cX5_go 14 none) ({ frames := 2, cells := 0, slots := 0, locals := 43 })).room s m ([.ref (aR 0), .int u1, .ref u2, .int u3] : List Value).toArray below meth c H locs 0 0 (MQ below (QV D (fun u : (Nat → Int32) × (Nat → Nat → Int32) => (wl [gR cA aR u.1 u.2 rG] ++ gG cA K rR)) R A) ([.ref (aR 0), .int u1, .ref u2, .int u3] : List Value).toArray s 0 0 A) (F0 m 61 ls [])) (x4 : Int32) (x5 : Int32) (x6 : Int32) (x7 : Int32) (x8 : Int32) (x9 : Int32) (x11 : Int32) (rI : Nat → Int32) (rA : Nat → Nat → Int32) (H : Heap) (locs : List Loc) (ls : Array Slot), f_X5_go1_b412 n K rc61 x1 x2 x3 x4 x5 x6 x7 x8 x9 x11 rI rA rR = some R → va_P D vwCl (wl [gR cA aR rI rA rG] ++ gG cA K rR) H → va_D A (wl [gR cA aR rI rA rG] ++ gG cA K rR) → va_S A s.heap H locs → lv_has ls 14 [(0, .ref (aR 0)), (1, .int x1), (2, .ref x2), (3, .int x3), (4, .int x4), (5, .int x5), (6, .int x6), (7, .int x7), (8, .int x8), (9, .int x9), (11, .int x11)] → W p l e (headSpec (wsU yX5_go cX5_go 14 none) ({ frames := 2, cells := 0, slots := 0, locals := 43 })).room s m ([.ref (aR 0), .int u1, .ref u2, .int u3] : List Value).toArray below meth c H locs 0 0 (MQ below (QV D (fun u : (Nat → Int32) × (Nat → Nat → Int32) => (wl [gR cA aR u.1 u.2 rG] ++ gG cA K rR)) R A) ([.ref (aR 0), .int u1, .ref u2, .int u3] : List Value).toArray s 0 0 A) (F0 m 412 ls []) := by
    intro x1 x2 x3 rc61 hr61 x4 x5 x6 x7 x8 x9 x11 rI rA H locs ls h hP hD hS hl
    unfold f_X5_go1_b412 at h
    refine lv_iload hx hb dX5_go_412 (lv_at hl 5 rfl) ?_
    refine lv_bipush (v := (21 : Int32)) hx hb dX5_go_414 (by decide) ?_
    refine lv_icmp_gt (tgt := 448) hx hb dX5_go_416 (by decide) (fun c18 => ?_) (fun c18 => ?_)
    · replace h := og_pos c18 h
      refine lv_iload hx hb dX5_go_448 (lv_at hl 5 rfl) ?_
      refine lv_bipush (v := (22 : Int32)) hx hb dX5_go_450 (by decide) ?_
      refine lv_icmp_ne (tgt := 474) hx hb dX5_go_452 (by decide) (fun c19 => ?_) (fun c19 => ?_)
      · replace h := og_neg c19 h
        refine lv_iload hx hb dX5_go_474 (lv_at hl 5 rfl) ?_
        refine lv_bipush (v := (23 : Int32)) hx hb dX5_go_476 (by decide) ?_
        refine lv_icmp_ne (tgt := 499) hx hb dX5_go_478 (by decide) (fun c20 => ?_) (fun c20 => ?_)
        · replace h := og_neg c20 h
          refine lv_iload hx hb dX5_go_499 (lv_at hl 5 rfl) ?_
          refine lv_bipush (v := (24 : Int32)) hx hb dX5_go_501 (by decide) ?_
          refine lv_icmp_ne (tgt := 543) hx hb dX5_go_503 (by decide) (fun c21 => ?_) (fun c21 => ?_)
          · replace h := og_neg c21 h
            refine lv_iload hx hb dX5_go_543 (lv_at hl 5 rfl) ?_
            refine lv_bipush (v := (26 : Int32)) hx hb dX5_go_545 (by decide) ?_
            refine lv_icmp_gt (tgt := 664) hx hb dX5_go_547 (by decide) (fun c22 => ?_) (fun c22 => ?_)
            · replace h := og_pos c22 h
              refine lv_iload hx hb dX5_go_664 (lv_at hl 5 rfl) ?_
              refine lv_bipush (v := (27 : Int32)) hx hb dX5_go_666 (by decide) ?_
              refine lv_icmp_ne (tgt := 688) hx hb dX5_go_668 (by decide) (fun c23 => ?_) (fun c23 => ?_)
              · replace h := og_neg c23 h
                refine lv_iload hx hb dX5_go_688 (lv_at hl 5 rfl) ?_
                refine lv_bipush (v := (28 : Int32)) hx hb dX5_go_690 (by decide) ?_
                refine lv_icmp_ne (tgt := 702) hx hb dX5_go_692 (by decide) (fun c24 => ?_) (fun c24 => ?_)
                · replace h := og_neg c24 h
                  refine lv_iload hx hb dX5_go_702 (lv_at hl 5 rfl) ?_
                  refine lv_bipush (v := (29 : Int32)) hx hb dX5_go_704 (by decide) ?_
                  refine lv_icmp_ne (tgt := 723) hx hb dX5_go_706 (by decide) (fun c25 => ?_) (fun c25 => ?_)
                  · replace h := og_neg c25 h
                    exact b723  _ _ _ _ _ _ _ _ h hP hD hS (lv_sub hl [0, 4, 5, 6] rfl)
                  · replace h := og_pos c25 h
                    refine lv_iload hx hb dX5_go_709 (lv_at hl 10 rfl) ?_
                    refine lv_if_ne (tgt := 761) hx hb dX5_go_711 (by decide) (fun c26 => ?_) (fun c26 => ?_)
                    · replace h := og_neg c26 h
                      exact b761 _ _ _ _ hr61 _ _ _ _ _ _ h hP hD hS (lv_sub hl [0, 1, 2, 3, 9] rfl)
                    · replace h := og_pos c26 h
                      exact b714  _ _ _ _ _ _ h hP hD hS (lv_sub hl [0, 4] rfl)
                · replace h := og_pos c24 h
                  refine lv_iload hx hb dX5_go_695 (lv_at hl 6 rfl) ?_
                  refine lv_istore (lv' := [(9, .int x6), (0, .ref (aR 0)), (1, .int x1), (2, .ref x2), (3, .int x3), (4, .int x4), (5, .int x5), (6, .int x6), (7, .int x7), (8, .int x8), (11, .int x11)]) hx hb dX5_go_697 hl (by decide) rfl (fun ls hl => ?_)
                  refine lv_goto (tgt := 761) hx hb dX5_go_699 (by decide) ?_
                  exact b761 _ _ _ _ hr61 _ _ _ _ _ _ h hP hD hS (lv_sub hl [1, 2, 3, 4, 0] rfl)
              · replace h := og_pos c23 h
                refine lv_iload hx hb dX5_go_671 (lv_at hl 10 rfl) ?_
                refine lv_if_eq (tgt := 681) hx hb dX5_go_673 (by decide) (fun c27 => ?_) (fun c27 => ?_)
                · replace h := og_pos c27 h
                  refine lv_iload hx hb dX5_go_681 (lv_at hl 9 rfl) ?_
                  exact b683 _ _ _ _ hr61 _ _ _ _ _ _ h hP hD hS (lv_sub hl [0, 1, 2, 3] rfl)
                · replace h := og_neg c27 h
                  refine lv_iload hx hb dX5_go_676 (lv_at hl 7 rfl) ?_
                  refine lv_goto (tgt := 683) hx hb dX5_go_678 (by decide) ?_
                  exact b683 _ _ _ _ hr61 _ _ _ _ _ _ h hP hD hS (lv_sub hl [0, 1, 2, 3] rfl)
            · replace h := og_neg c22 h
              refine lv_iload hx hb dX5_go_550 (lv_at hl 10 rfl) ?_
              refine lv_if_ne (tgt := 564) hx hb dX5_go_552 (by decide) (fun c28 => ?_) (fun c28 => ?_)
              · replace h := og_neg c28 h
                refine lv_iload hx hb dX5_go_564 (lv_at hl 5 rfl) ?_
                refine lv_bipush (v := (25 : Int32)) hx hb dX5_go_566 (by decide) ?_
                refine lv_icmp_ne (tgt := 581) hx hb dX5_go_568 (by decide) (fun c29 => ?_) (fun c29 => ?_)
                · replace h := og_neg c29 h
                  refine lv_aload_n hx hb dX5_go_581 rfl (lv_at hl 0 rfl) ?_
                  refine va_get (D := D) (C := RX5) (T := TX5) (N := 40) hx hb hT inlX5 hown hK.1 hP 0 rfl rfl 22 (by decide) (hT _ fl_RX5_62) (fun _ h9 => h9) rfl dX5_go_582 ?_
                  refine lv_iload hx hb dX5_go_585 (lv_at hl 6 rfl) ?_
                  obtain ⟨g30, h⟩ := og_guard h
                  refine va_iald hx hb hK.1 hP 16 0 rfl rfl (inb_vp g30) dX5_go_587 ?_
                  exact b588 _ _ _ _ hr61 _ _ _ _ _ _ _ _ _ _ h hP hD hS (lv_sub hl [0, 1, 2, 3, 5, 6, 7, 9] rfl)
                · replace h := og_pos c29 h
                  refine lv_aload_n hx hb dX5_go_571 rfl (lv_at hl 0 rfl) ?_
                  refine va_get (D := D) (C := RX5) (T := TX5) (N := 40) hx hb hT inlX5 hown hK.1 hP 0 rfl rfl 22 (by decide) (hT _ fl_RX5_62) (fun _ h9 => h9) rfl dX5_go_572 ?_
                  refine lv_iload hx hb dX5_go_575 (lv_at hl 7 rfl) ?_
                  obtain ⟨g31, h⟩ := og_guard h
                  refine va_iald hx hb hK.1 hP 16 0 rfl rfl (inb_vp g31) dX5_go_577 ?_
                  refine lv_goto (tgt := 588) hx hb dX5_go_578 (by decide) ?_
                  exact b588 _ _ _ _ hr61 _ _ _ _ _ _ _ _ _ _ h hP hD hS (lv_sub hl [0, 1, 2, 3, 5, 6, 7, 9] rfl)
              · replace h := og_pos c28 h
                exact b555  _ _ _ _ _ _ h hP hD hS (lv_sub hl [0, 4] rfl)
          · replace h := og_pos c21 h
            refine lv_aload_n hx hb dX5_go_506 rfl (lv_at hl 0 rfl) ?_
            refine va_get (D := D) (C := RX5) (T := TX5) (N := 40) hx hb hT inlX5 hown hK.1 hP 0 rfl rfl 22 (by decide) (hT _ fl_RX5_62) (fun _ h9 => h9) rfl dX5_go_507 ?_
            refine lv_iload hx hb dX5_go_510 (lv_at hl 6 rfl) ?_
            refine lv_aload_n hx hb dX5_go_512 rfl (lv_at hl 0 rfl) ?_
            refine va_get (D := D) (C := RX5) (T := TX5) (N := 40) hx hb hT inlX5 hown hK.1 hP 0 rfl rfl 22 (by decide) (hT _ fl_RX5_62) (fun _ h9 => h9) rfl dX5_go_513 ?_
            refine lv_iload hx hb dX5_go_516 (lv_at hl 7 rfl) ?_
            obtain ⟨g32, h⟩ := og_guard h
            refine va_iald hx hb hK.1 hP 16 0 rfl rfl (inb_vp g32) dX5_go_518 ?_
            refine lv_if_eq (tgt := 532) hx hb dX5_go_519 (by decide) (fun c33 => ?_) (fun c33 => ?_)
            · replace h := og_pos c33 h
              refine lv_aload_n hx hb dX5_go_532 rfl (lv_at hl 0 rfl) ?_
              refine va_get (D := D) (C := RX5) (T := TX5) (N := 40) hx hb hT inlX5 hown hK.1 hP 0 rfl rfl 22 (by decide) (hT _ fl_RX5_62) (fun _ h9 => h9) rfl dX5_go_533 ?_
              refine lv_iload hx hb dX5_go_536 (lv_at hl 6 rfl) ?_
              obtain ⟨g34, h⟩ := og_guard h
              refine va_iald hx hb hK.1 hP 16 0 rfl rfl (inb_vp g34) dX5_go_538 ?_
              exact b539 _ _ _ _ hr61 _ _ _ _ _ _ _ _ h hP hD hS (lv_sub hl [0, 1, 2, 3, 9] rfl)
            · replace h := og_neg c33 h
              refine lv_aload_n hx hb dX5_go_522 rfl (lv_at hl 0 rfl) ?_
              refine va_get (D := D) (C := RX5) (T := TX5) (N := 40) hx hb hT inlX5 hown hK.1 hP 0 rfl rfl 22 (by decide) (hT _ fl_RX5_62) (fun _ h9 => h9) rfl dX5_go_523 ?_
              refine lv_iload hx hb dX5_go_526 (lv_at hl 8 rfl) ?_
              obtain ⟨g35, h⟩ := og_guard h
              refine va_iald hx hb hK.1 hP 16 0 rfl rfl (inb_vp g35) dX5_go_528 ?_
              refine lv_goto (tgt := 539) hx hb dX5_go_529 (by decide) ?_
              exact b539 _ _ _ _ hr61 _ _ _ _ _ _ _ _ h hP hD hS (lv_sub hl [0, 1, 2, 3, 9] rfl)
        · replace h := og_pos c20 h
          refine lv_aload_n hx hb dX5_go_481 rfl (lv_at hl 0 rfl) ?_
          refine va_get (D := D) (C := RX5) (T := TX5) (N := 40) hx hb hT inlX5 hown hK.1 hP 0 rfl rfl 22 (by decide) (hT _ fl_RX5_62) (fun _ h9 => h9) rfl dX5_go_482 ?_
          refine lv_iload hx hb dX5_go_485 (lv_at hl 6 rfl) ?_
          refine lv_aload_n hx hb dX5_go_487 rfl (lv_at hl 0 rfl) ?_
          refine va_get (D := D) (C := RX5) (T := TX5) (N := 40) hx hb hT inlX5 hown hK.1 hP 0 rfl rfl 22 (by decide) (hT _ fl_RX5_62) (fun _ h9 => h9) rfl dX5_go_488 ?_
          refine lv_iload hx hb dX5_go_491 (lv_at hl 7 rfl) ?_
          obtain ⟨g36, h⟩ := og_guard h
          refine va_iald hx hb hK.1 hP 16 0 rfl rfl (inb_vp g36) dX5_go_493 ?_
          refine lv_ineg hx hb dX5_go_494 ?_
          obtain ⟨g37, h⟩ := og_guard h
          refine va_iast hx hb hK.1 hP hD hS 16 0 rfl rfl (inb_vp g37) dX5_go_495 (fun H locs hP hD hS => ?_)
          have hP : va_P D vwCl (wl [gR cA aR rI (up2 rA 14 x6.toNatClampNeg (-(rA 14 x7.toNatClampNeg))) rG] ++ gG cA K rR) H := hP
          have hD : va_D A (wl [gR cA aR rI (up2 rA 14 x6.toNatClampNeg (-(rA 14 x7.toNatClampNeg))) rG] ++ gG cA K rR) := hD
          refine lv_goto (tgt := 761) hx hb dX5_go_496 (by decide) ?_
          exact b761 _ _ _ _ hr61 _ _ _ _ _ _ h hP hD hS (lv_sub hl [0, 1, 2, 3, 9] rfl)
      · replace h := og_pos c19 h
        refine lv_aload_n hx hb dX5_go_455 rfl (lv_at hl 0 rfl) ?_
        refine va_get (D := D) (C := RX5) (T := TX5) (N := 40) hx hb hT inlX5 hown hK.1 hP 0 rfl rfl 22 (by decide) (hT _ fl_RX5_62) (fun _ h9 => h9) rfl dX5_go_456 ?_
        refine lv_iload hx hb dX5_go_459 (lv_at hl 6 rfl) ?_
        refine lv_aload_n hx hb dX5_go_461 rfl (lv_at hl 0 rfl) ?_
        refine va_get (D := D) (C := RX5) (T := TX5) (N := 40) hx hb hT inlX5 hown hK.1 hP 0 rfl rfl 22 (by decide) (hT _ fl_RX5_62) (fun _ h9 => h9) rfl dX5_go_462 ?_
        refine lv_iload hx hb dX5_go_465 (lv_at hl 7 rfl) ?_
        obtain ⟨g38, h⟩ := og_guard h
        refine va_iald hx hb hK.1 hP 16 0 rfl rfl (inb_vp g38) dX5_go_467 ?_
        refine lv_iconst (v := (-1 : Int32)) hx hb dX5_go_468 (by decide) ?_
        refine lv_ixor hx hb dX5_go_469 ?_
        obtain ⟨g39, h⟩ := og_guard h
        refine va_iast hx hb hK.1 hP hD hS 16 0 rfl rfl (inb_vp g39) dX5_go_470 (fun H locs hP hD hS => ?_)
        have hP : va_P D vwCl (wl [gR cA aR rI (up2 rA 14 x6.toNatClampNeg ((rA 14 x7.toNatClampNeg) ^^^ (-1 : Int32))) rG] ++ gG cA K rR) H := hP
        have hD : va_D A (wl [gR cA aR rI (up2 rA 14 x6.toNatClampNeg ((rA 14 x7.toNatClampNeg) ^^^ (-1 : Int32))) rG] ++ gG cA K rR) := hD
        refine lv_goto (tgt := 761) hx hb dX5_go_471 (by decide) ?_
        exact b761 _ _ _ _ hr61 _ _ _ _ _ _ h hP hD hS (lv_sub hl [0, 1, 2, 3, 9] rfl)
    · replace h := og_neg c18 h
      refine lv_aload_n hx hb dX5_go_419 rfl (lv_at hl 0 rfl) ?_
      refine va_get (D := D) (C := RX5) (T := TX5) (N := 40) hx hb hT inlX5 hown hK.1 hP 0 rfl rfl 22 (by decide) (hT _ fl_RX5_62) (fun _ h9 => h9) rfl dX5_go_420 ?_
      refine lv_iload hx hb dX5_go_423 (lv_at hl 6 rfl) ?_
      refine lv_iload hx hb dX5_go_425 (lv_at hl 5 rfl) ?_
      refine lv_aload_n hx hb dX5_go_427 rfl (lv_at hl 0 rfl) ?_
      refine va_get (D := D) (C := RX5) (T := TX5) (N := 40) hx hb hT inlX5 hown hK.1 hP 0 rfl rfl 22 (by decide) (hT _ fl_RX5_62) (fun _ h9 => h9) rfl dX5_go_428 ?_
      refine lv_iload hx hb dX5_go_431 (lv_at hl 7 rfl) ?_
      obtain ⟨g40, h⟩ := og_guard h
      refine va_iald hx hb hK.1 hP 16 0 rfl rfl (inb_vp g40) dX5_go_433 ?_
      refine lv_aload_n hx hb dX5_go_434 rfl (lv_at hl 0 rfl) ?_
      refine va_get (D := D) (C := RX5) (T := TX5) (N := 40) hx hb hT inlX5 hown hK.1 hP 0 rfl rfl 22 (by decide) (hT _ fl_RX5_62) (fun _ h9 => h9) rfl dX5_go_435 ?_
      refine lv_iload hx hb dX5_go_438 (lv_at hl 8 rfl) ?_
      obtain ⟨g41, h⟩ := og_guard h
      refine va_iald hx hb hK.1 hP 16 0 rfl rfl (inb_vp g41) dX5_go_440 ?_
      obtain ⟨⟨r42, _u42⟩, e42, h⟩ := og_bind h
      try dsimp only at h
      refine gc_i (ws := (wl [gR cA aR rI rA rG] ++ gG cA K rR)) (wc := (wl ([] : List va_W))) (wr := (wl [gR cA aR rI rA rG] ++ gG cA K rR)) (ws' := (wl [gR cA aR rI rA rG] ++ gG cA K rR)) (va_runS (As := [.int x5, .int (rA 14 x7.toNatClampNeg), .int (rA 14 x8.toNatClampNeg)]) (rest := [.int x6, .ref (aR 16)]) ⟨hx, hb, hml, hown, hT⟩ (k_X5_reckoned l D cA  H.size x5 (rA 14 x7.toNatClampNeg) (rA 14 x8.toNatClampNeg)  _ e42) (cwS 3 hT gs_RX5_159 rfl rfl rfl (by decide +kernel) ⟨Nat.le_of_ble_eq_true rfl, Nat.le_of_ble_eq_true rfl⟩) (pre_S (wr := (wl [gR cA aR rI rA rG] ++ gG cA K rR)) (pmC (f := fun i => ([gR cA aR rI rA rG] : List va_W).getD i []) [0] [] [0] (by decide)) hK hP hD) rfl rfl hl.1 rfl (lv_room (Nat.le_of_ble_eq_true rfl)) dX5_go_441 ⟨Nat.le_refl _, Nat.le_refl _⟩) (pmC (f := fun i => ([gR cA aR rI rA rG] : List va_W).getD i []) [0] [] [0] (by decide)) hP hD hS hA (pmC (f := fun i => ([gR cA aR rI rA rG] : List va_W).getD i []) [0] [] [0] (by decide)) (fun H locs hP hD hS => ?_)
      obtain ⟨g43, h⟩ := og_guard h
      refine va_iast hx hb hK.1 hP hD hS 16 0 rfl rfl (inb_vp g43) dX5_go_444 (fun H locs hP hD hS => ?_)
      have hP : va_P D vwCl (wl [gR cA aR rI (up2 rA 14 x6.toNatClampNeg r42) rG] ++ gG cA K rR) H := hP
      have hD : va_D A (wl [gR cA aR rI (up2 rA 14 x6.toNatClampNeg r42) rG] ++ gG cA K rR) := hD
      refine lv_goto (tgt := 761) hx hb dX5_go_445 (by decide) ?_
      exact b761 _ _ _ _ hr61 _ _ _ _ _ _ h hP hD hS (lv_sub hl [0, 1, 2, 3, 9] rfl)
  have b403 : ∀ (x4 : Int32) (rI : Nat → Int32) (rA : Nat → Nat → Int32) (H : Heap) (locs : List Loc) (ls : Array Slot), f_X5_go1_b403 n K x4 rI rA rR = some R → va_P D vwCl (wl [gR cA aR rI rA rG] ++ gG cA K rR) H → va_D A (wl [gR cA aR rI rA rG] ++ gG cA K rR) → va_S A s.heap H locs → lv_has ls 14 [(0, .ref (aR 0)), (4, .int x4)] → W p l e (headSpec (wsU yX5_go cX5_go 14 none) ({ frames := 2, cells := 0, slots := 0, locals := 43 })).room s m ([.ref (aR 0), .int u1, .ref u2, .int u3] : List Value).toArray below meth c H locs 0 0 (MQ below (QV D (fun u : (Nat → Int32) × (Nat → Nat → Int32) => (wl [gR cA aR u.1 u.2 rG] ++ gG cA K rR)) R A) ([.ref (aR 0), .int u1, .ref u2, .int u3] : List Value).toArray s 0 0 A) (F0 m 403 ls []) := by
    intro x4 rI rA H locs ls h hP hD hS hl
    unfold f_X5_go1_b403 at h
    refine lv_aload_n hx hb dX5_go_403 rfl (lv_at hl 0 rfl) ?_
    refine lv_iconst (v := (1 : Int32)) hx hb dX5_go_404 (by decide) ?_
    refine lv_iload hx hb dX5_go_405 (lv_at hl 1 rfl) ?_
    refine lv_iconst (v := (0 : Int32)) hx hb dX5_go_407 (by decide) ?_
    obtain ⟨rI44, e44, h⟩ := og_bind h
    refine gc_v (ws := (wl [gR cA aR rI rA rG] ++ gG cA K rR)) (wc := (wl [gR cA aR rI rA rG] ++ gG cA K rR)) (wr := (wl ([] : List va_W))) (ws' := (wl [gR cA aR rI44 rA rG] ++ gG cA K rR)) (va_runV (As := [.int (1 : Int32), .int x4, .int (0 : Int32)]) (rest := []) ⟨hx, hb, hml, hown, hT⟩ (k_X5_ends l D cA aR K H.size (1 : Int32) x4 (0 : Int32) rI rA rG rR _ e44) (cwV 3 hT gv_RX5_155 rfl rfl rfl (by decide +kernel) ⟨Nat.le_of_ble_eq_true rfl, Nat.le_of_ble_eq_true rfl⟩) (pre_V (ci := 5) (q0 := 0) (wr := (wl ([] : List va_W))) (pmB (f := fun i => ([gR cA aR rI rA rG] : List va_W).getD i []) [0] [0] [] (by decide)) hK hP hD rfl rfl) rfl rfl hl.1 rfl (lv_room (Nat.le_of_ble_eq_true rfl)) dX5_go_408 ⟨Nat.le_refl _, Nat.le_refl _⟩) (pmB (f := fun i => ([gR cA aR rI rA rG] : List va_W).getD i []) [0] [0] [] (by decide)) hP hD hS hA (pmB (f := fun i => ([gR cA aR rI44 rA rG] : List va_W).getD i []) [0] [0] [] (by decide)) (fun H locs hP hD hS => ?_)
    exact W.vret hx hb hr (fun t ht hW => ⟨⟨(rI44, rA), rfl, (og_inj h).symm, (by rw [ht]; exact hP), hD⟩, hS.F ht⟩) hS.2.2 dX5_go_411
  have b327 : ∀ (x1 : Int32) (x2 : Nat) (x3 : Int32) (rc61 : (Int32 × (Nat → Int32) × (Nat → Nat → Int32)) → Option ((Nat → Int32) × (Nat → Nat → Int32))) (hr61 : ∀ (x4 : Int32) (rI : Nat → Int32) (rA : Nat → Nat → Int32) (H : Heap) (locs : List Loc) (ls : Array Slot), rc61 (x4, rI, rA) = some R → va_P D vwCl (wl [gR cA aR rI rA rG] ++ gG cA K rR) H → va_D A (wl [gR cA aR rI rA rG] ++ gG cA K rR) → va_S A s.heap H locs → lv_has ls 14 [(0, .ref (aR 0)), (1, .int x1), (2, .ref x2), (3, .int x3), (4, .int x4)] → W p l e (headSpec (wsU yX5_go cX5_go 14 none) ({ frames := 2, cells := 0, slots := 0, locals := 43 })).room s m ([.ref (aR 0), .int u1, .ref u2, .int u3] : List Value).toArray below meth c H locs 0 0 (MQ below (QV D (fun u : (Nat → Int32) × (Nat → Nat → Int32) => (wl [gR cA aR u.1 u.2 rG] ++ gG cA K rR)) R A) ([.ref (aR 0), .int u1, .ref u2, .int u3] : List Value).toArray s 0 0 A) (F0 m 61 ls [])) (x4 : Int32) (x5 : Int32) (x6 : Int32) (x7 : Int32) (x8 : Int32) (x9 : Int32) (x11 : Int32) (rI : Nat → Int32) (rA : Nat → Nat → Int32) (H : Heap) (locs : List Loc) (ls : Array Slot), f_X5_go1_b327 n K rc61 x1 x2 x3 x4 x5 x6 x7 x8 x9 x11 rI rA rR = some R → va_P D vwCl (wl [gR cA aR rI rA rG] ++ gG cA K rR) H → va_D A (wl [gR cA aR rI rA rG] ++ gG cA K rR) → va_S A s.heap H locs → lv_has ls 14 [(0, .ref (aR 0)), (1, .int x1), (2, .ref x2), (3, .int x3), (4, .int x4), (5, .int x5), (6, .int x6), (7, .int x7), (8, .int x8), (9, .int x9), (11, .int x11)] → W p l e (headSpec (wsU yX5_go cX5_go 14 none) ({ frames := 2, cells := 0, slots := 0, locals := 43 })).room s m ([.ref (aR 0), .int u1, .ref u2, .int u3] : List Value).toArray below meth c H locs 0 0 (MQ below (QV D (fun u : (Nat → Int32) × (Nat → Nat → Int32) => (wl [gR cA aR u.1 u.2 rG] ++ gG cA K rR)) R A) ([.ref (aR 0), .int u1, .ref u2, .int u3] : List Value).toArray s 0 0 A) (F0 m 327 ls []) := by
    intro x1 x2 x3 rc61 hr61 x4 x5 x6 x7 x8 x9 x11 rI rA H locs ls h hP hD hS hl
    unfold f_X5_go1_b327 at h
    refine lv_iload hx hb dX5_go_327 (lv_at hl 5 rfl) ?_
    refine lv_if_ne (tgt := 344) hx hb dX5_go_329 (by decide) (fun c45 => ?_) (fun c45 => ?_)
    · replace h := og_neg c45 h
      refine lv_iload hx hb dX5_go_344 (lv_at hl 5 rfl) ?_
      refine lv_iconst (v := (1 : Int32)) hx hb dX5_go_346 (by decide) ?_
      refine lv_icmp_ne (tgt := 367) hx hb dX5_go_347 (by decide) (fun c46 => ?_) (fun c46 => ?_)
      · replace h := og_neg c46 h
        refine lv_iload hx hb dX5_go_367 (lv_at hl 5 rfl) ?_
        refine lv_iconst (v := (2 : Int32)) hx hb dX5_go_369 (by decide) ?_
        refine lv_icmp_ne (tgt := 390) hx hb dX5_go_370 (by decide) (fun c47 => ?_) (fun c47 => ?_)
        · replace h := og_neg c47 h
          refine lv_iload hx hb dX5_go_390 (lv_at hl 5 rfl) ?_
          obtain ⟨⟨r48, _u48⟩, e48, h⟩ := og_bind h
          try dsimp only at h
          refine gc_i (ws := (wl [gR cA aR rI rA rG] ++ gG cA K rR)) (wc := (wl ([] : List va_W))) (wr := (wl [gR cA aR rI rA rG] ++ gG cA K rR)) (ws' := (wl [gR cA aR rI rA rG] ++ gG cA K rR)) (va_runS (As := [.int x5]) (rest := []) ⟨hx, hb, hml, hown, hT⟩ (k_X5_isDivision l D cA  H.size x5  _ e48) (cwS 1 hT gs_RX5_110 rfl rfl rfl (by decide +kernel) ⟨Nat.le_of_ble_eq_true rfl, Nat.le_of_ble_eq_true rfl⟩) (pre_S (wr := (wl [gR cA aR rI rA rG] ++ gG cA K rR)) (pmC (f := fun i => ([gR cA aR rI rA rG] : List va_W).getD i []) [0] [] [0] (by decide)) hK hP hD) rfl rfl hl.1 rfl (lv_room (Nat.le_of_ble_eq_true rfl)) dX5_go_392 ⟨Nat.le_refl _, Nat.le_refl _⟩) (pmC (f := fun i => ([gR cA aR rI rA rG] : List va_W).getD i []) [0] [] [0] (by decide)) hP hD hS hA (pmC (f := fun i => ([gR cA aR rI rA rG] : List va_W).getD i []) [0] [] [0] (by decide)) (fun H locs hP hD hS => ?_)
          refine lv_if_eq (tgt := 412) hx hb dX5_go_395 (by decide) (fun c49 => ?_) (fun c49 => ?_)
          · replace h := og_pos c49 h
            exact b412 _ _ _ _ hr61 _ _ _ _ _ _ _ _ _ _ _ _ h hP hD hS (lv_sub hl [0, 1, 2, 3, 4, 5, 6, 7, 8, 9, 10] rfl)
          · replace h := og_neg c49 h
            refine lv_iload hx hb dX5_go_398 (lv_at hl 10 rfl) ?_
            refine lv_if_ne (tgt := 412) hx hb dX5_go_400 (by decide) (fun c50 => ?_) (fun c50 => ?_)
            · replace h := og_neg c50 h
              exact b412 _ _ _ _ hr61 _ _ _ _ _ _ _ _ _ _ _ _ h hP hD hS (lv_sub hl [0, 1, 2, 3, 4, 5, 6, 7, 8, 9, 10] rfl)
            · replace h := og_pos c50 h
              exact b403  _ _ _ _ _ _ h hP hD hS (lv_sub hl [0, 4] rfl)
        · replace h := og_pos c47 h
          refine lv_aload_n hx hb dX5_go_373 rfl (lv_at hl 0 rfl) ?_
          refine va_get (D := D) (C := RX5) (T := TX5) (N := 40) hx hb hT inlX5 hown hK.1 hP 0 rfl rfl 22 (by decide) (hT _ fl_RX5_62) (fun _ h9 => h9) rfl dX5_go_374 ?_
          refine lv_iload hx hb dX5_go_377 (lv_at hl 6 rfl) ?_
          refine lv_aload_n hx hb dX5_go_379 rfl (lv_at hl 0 rfl) ?_
          refine va_get (D := D) (C := RX5) (T := TX5) (N := 40) hx hb hT inlX5 hown hK.1 hP 0 rfl rfl 22 (by decide) (hT _ fl_RX5_62) (fun _ h9 => h9) rfl dX5_go_380 ?_
          refine lv_iload hx hb dX5_go_383 (lv_at hl 7 rfl) ?_
          obtain ⟨g51, h⟩ := og_guard h
          refine va_iald hx hb hK.1 hP 16 0 rfl rfl (inb_vp g51) dX5_go_385 ?_
          obtain ⟨g52, h⟩ := og_guard h
          refine va_iast hx hb hK.1 hP hD hS 16 0 rfl rfl (inb_vp g52) dX5_go_386 (fun H locs hP hD hS => ?_)
          have hP : va_P D vwCl (wl [gR cA aR rI (up2 rA 14 x6.toNatClampNeg (rA 14 x7.toNatClampNeg)) rG] ++ gG cA K rR) H := hP
          have hD : va_D A (wl [gR cA aR rI (up2 rA 14 x6.toNatClampNeg (rA 14 x7.toNatClampNeg)) rG] ++ gG cA K rR) := hD
          refine lv_goto (tgt := 761) hx hb dX5_go_387 (by decide) ?_
          exact b761 _ _ _ _ hr61 _ _ _ _ _ _ h hP hD hS (lv_sub hl [0, 1, 2, 3, 9] rfl)
      · replace h := og_pos c46 h
        refine lv_aload_n hx hb dX5_go_350 rfl (lv_at hl 0 rfl) ?_
        refine va_get (D := D) (C := RX5) (T := TX5) (N := 40) hx hb hT inlX5 hown hK.1 hP 0 rfl rfl 22 (by decide) (hT _ fl_RX5_62) (fun _ h9 => h9) rfl dX5_go_351 ?_
        refine lv_iload hx hb dX5_go_354 (lv_at hl 6 rfl) ?_
        refine lv_aload_n hx hb dX5_go_356 rfl (lv_at hl 0 rfl) ?_
        refine lv_iload_n hx hb dX5_go_357 rfl (lv_at hl 1 rfl) ?_
        refine lv_iload hx hb dX5_go_358 (lv_at hl 7 rfl) ?_
        obtain ⟨⟨r53, _u53⟩, e53, h⟩ := og_bind h
        try dsimp only at h
        refine gc_i (ws := (wl [gR cA aR rI rA rG] ++ gG cA K rR)) (wc := (wl [gR cA aR rI rA rG] ++ gG cA K rR)) (wr := (wl ([] : List va_W))) (ws' := (wl [gR cA aR rI rA rG] ++ gG cA K rR)) (va_runV (As := [.int x1, .int x7]) (rest := [.int x6, .ref (aR 16)]) ⟨hx, hb, hml, hown, hT⟩ (k_X5_inputOf l D cA aR K H.size n x1 x7 rI rA rG rR _ e53) (cwV 2 hT gv_RX5_151 rfl rfl rfl (by decide +kernel) ⟨Nat.le_of_ble_eq_true rfl, Nat.le_of_ble_eq_true rfl⟩) (pre_V (ci := 5) (q0 := 0) (wr := (wl ([] : List va_W))) (pmB (f := fun i => ([gR cA aR rI rA rG] : List va_W).getD i []) [0] [0] [] (by decide)) hK hP hD rfl rfl) rfl rfl hl.1 rfl (lv_room (Nat.le_of_ble_eq_true rfl)) dX5_go_360 ⟨Nat.le_refl _, Nat.le_refl _⟩) (pmB (f := fun i => ([gR cA aR rI rA rG] : List va_W).getD i []) [0] [0] [] (by decide)) hP hD hS hA (pmB (f := fun i => ([gR cA aR rI rA rG] : List va_W).getD i []) [0] [0] [] (by decide)) (fun H locs hP hD hS => ?_)
        obtain ⟨g54, h⟩ := og_guard h
        refine va_iast hx hb hK.1 hP hD hS 16 0 rfl rfl (inb_vp g54) dX5_go_363 (fun H locs hP hD hS => ?_)
        have hP : va_P D vwCl (wl [gR cA aR rI (up2 rA 14 x6.toNatClampNeg r53) rG] ++ gG cA K rR) H := hP
        have hD : va_D A (wl [gR cA aR rI (up2 rA 14 x6.toNatClampNeg r53) rG] ++ gG cA K rR) := hD
        refine lv_goto (tgt := 761) hx hb dX5_go_364 (by decide) ?_
        exact b761 _ _ _ _ hr61 _ _ _ _ _ _ h hP hD hS (lv_sub hl [0, 1, 2, 3, 9] rfl)
    · replace h := og_pos c45 h
      refine lv_aload_n hx hb dX5_go_332 rfl (lv_at hl 0 rfl) ?_
      refine va_get (D := D) (C := RX5) (T := TX5) (N := 40) hx hb hT inlX5 hown hK.1 hP 0 rfl rfl 22 (by decide) (hT _ fl_RX5_62) (fun _ h9 => h9) rfl dX5_go_333 ?_
      refine lv_iload hx hb dX5_go_336 (lv_at hl 6 rfl) ?_
      refine lv_iload hx hb dX5_go_338 (lv_at hl 7 rfl) ?_
      obtain ⟨g55, h⟩ := og_guard h
      refine va_iast hx hb hK.1 hP hD hS 16 0 rfl rfl (inb_vp g55) dX5_go_340 (fun H locs hP hD hS => ?_)
      have hP : va_P D vwCl (wl [gR cA aR rI (up2 rA 14 x6.toNatClampNeg x7) rG] ++ gG cA K rR) H := hP
      have hD : va_D A (wl [gR cA aR rI (up2 rA 14 x6.toNatClampNeg x7) rG] ++ gG cA K rR) := hD
      refine lv_goto (tgt := 761) hx hb dX5_go_341 (by decide) ?_
      exact b761 _ _ _ _ hr61 _ _ _ _ _ _ h hP hD hS (lv_sub hl [0, 1, 2, 3, 9] rfl)
  have b298 : ∀ (x1 : Int32) (x2 : Nat) (x3 : Int32) (rc61 : (Int32 × (Nat → Int32) × (Nat → Nat → Int32)) → Option ((Nat → Int32) × (Nat → Nat → Int32))) (hr61 : ∀ (x4 : Int32) (rI : Nat → Int32) (rA : Nat → Nat → Int32) (H : Heap) (locs : List Loc) (ls : Array Slot), rc61 (x4, rI, rA) = some R → va_P D vwCl (wl [gR cA aR rI rA rG] ++ gG cA K rR) H → va_D A (wl [gR cA aR rI rA rG] ++ gG cA K rR) → va_S A s.heap H locs → lv_has ls 14 [(0, .ref (aR 0)), (1, .int x1), (2, .ref x2), (3, .int x3), (4, .int x4)] → W p l e (headSpec (wsU yX5_go cX5_go 14 none) ({ frames := 2, cells := 0, slots := 0, locals := 43 })).room s m ([.ref (aR 0), .int u1, .ref u2, .int u3] : List Value).toArray below meth c H locs 0 0 (MQ below (QV D (fun u : (Nat → Int32) × (Nat → Nat → Int32) => (wl [gR cA aR u.1 u.2 rG] ++ gG cA K rR)) R A) ([.ref (aR 0), .int u1, .ref u2, .int u3] : List Value).toArray s 0 0 A) (F0 m 61 ls [])) (x4 : Int32) (x5 : Int32) (x6 : Int32) (x7 : Int32) (x8 : Int32) (x9 : Int32) (x11 : Int32) (rI : Nat → Int32) (rA : Nat → Nat → Int32) (H : Heap) (locs : List Loc) (ls : Array Slot), f_X5_go1_b298 n K rc61 x1 x2 x3 x4 x5 x6 x7 x8 x9 x11 rI rA rR = some R → va_P D vwCl (wl [gR cA aR rI rA rG] ++ gG cA K rR) H → va_D A (wl [gR cA aR rI rA rG] ++ gG cA K rR) → va_S A s.heap H locs → lv_has ls 14 [(0, .ref (aR 0)), (1, .int x1), (2, .ref x2), (3, .int x3), (4, .int x4), (5, .int x5), (6, .int x6), (7, .int x7), (8, .int x8), (9, .int x9), (11, .int x11)] → W p l e (headSpec (wsU yX5_go cX5_go 14 none) ({ frames := 2, cells := 0, slots := 0, locals := 43 })).room s m ([.ref (aR 0), .int u1, .ref u2, .int u3] : List Value).toArray below meth c H locs 0 0 (MQ below (QV D (fun u : (Nat → Int32) × (Nat → Nat → Int32) => (wl [gR cA aR u.1 u.2 rG] ++ gG cA K rR)) R A) ([.ref (aR 0), .int u1, .ref u2, .int u3] : List Value).toArray s 0 0 A) (F0 m 298 ls []) := by
    intro x1 x2 x3 rc61 hr61 x4 x5 x6 x7 x8 x9 x11 rI rA H locs ls h hP hD hS hl
    unfold f_X5_go1_b298 at h
    refine lv_aload_n hx hb dX5_go_298 rfl (lv_at hl 0 rfl) ?_
    refine va_get (D := D) (C := RX5) (T := TX5) (N := 40) hx hb hT inlX5 hown hK.1 hP 0 rfl rfl 24 (by decide) (hT _ fl_RX5_68) (fun _ h9 => h9) rfl dX5_go_299 ?_
    refine lv_aload_n hx hb dX5_go_302 rfl (lv_at hl 0 rfl) ?_
    refine va_get (D := D) (C := RX5) (T := TX5) (N := 40) hx hb hT inlX5 hown hK.1 hP 0 rfl rfl 29 (by decide) (hT _ fl_RX5_148) (fun _ h9 => h9) rfl dX5_go_303 ?_
    refine lv_iconst (v := (2 : Int32)) hx hb dX5_go_306 (by decide) ?_
    refine lv_iload hx hb dX5_go_307 (lv_at hl 4 rfl) ?_
    refine lv_imul hx hb dX5_go_309 ?_
    refine lv_iload hx hb dX5_go_310 (lv_at hl 10 rfl) ?_
    obtain ⟨⟨r56, _u56⟩, e56, h⟩ := og_bind h
    try dsimp only at h
    refine gc_i (ws := (wl [gR cA aR rI rA rG] ++ gG cA K rR)) (wc := (wl ([] : List va_W))) (wr := (wl [gR cA aR rI rA rG] ++ gG cA K rR)) (ws' := (wl [gR cA aR rI rA rG] ++ gG cA K rR)) (va_runS (As := [.int x11]) (rest := [.int ((2 : Int32) * x4), .int (rI 11), .ref (aR 18)]) ⟨hx, hb, hml, hown, hT⟩ (k_X5_truth l D cA  H.size x11  _ e56) (cwS 1 hT gs_RX5_128 rfl rfl rfl (by decide +kernel) ⟨Nat.le_of_ble_eq_true rfl, Nat.le_of_ble_eq_true rfl⟩) (pre_S (wr := (wl [gR cA aR rI rA rG] ++ gG cA K rR)) (pmC (f := fun i => ([gR cA aR rI rA rG] : List va_W).getD i []) [0] [] [0] (by decide)) hK hP hD) rfl rfl hl.1 rfl (lv_room (Nat.le_of_ble_eq_true rfl)) dX5_go_312 ⟨Nat.le_refl _, Nat.le_refl _⟩) (pmC (f := fun i => ([gR cA aR rI rA rG] : List va_W).getD i []) [0] [] [0] (by decide)) hP hD hS hA (pmC (f := fun i => ([gR cA aR rI rA rG] : List va_W).getD i []) [0] [] [0] (by decide)) (fun H locs hP hD hS => ?_)
    refine lv_iadd hx hb dX5_go_315 ?_
    obtain ⟨g57, h⟩ := og_guard h
    refine va_iast hx hb hK.1 hP hD hS 18 0 rfl rfl (inb_vp g57) dX5_go_316 (fun H locs hP hD hS => ?_)
    have hP : va_P D vwCl (wl [gR cA aR rI (up2 rA 16 (rI 11).toNatClampNeg (((2 : Int32) * x4) + r56)) rG] ++ gG cA K rR) H := hP
    have hD : va_D A (wl [gR cA aR rI (up2 rA 16 (rI 11).toNatClampNeg (((2 : Int32) * x4) + r56)) rG] ++ gG cA K rR) := hD
    refine lv_aload_n hx hb dX5_go_317 rfl (lv_at hl 0 rfl) ?_
    refine lv_dup hx hb dX5_go_318 rfl ?_
    refine va_get (D := D) (C := RX5) (T := TX5) (N := 40) hx hb hT inlX5 hown hK.1 hP 0 rfl rfl 29 (by decide) (hT _ fl_RX5_148) (fun _ h9 => h9) rfl dX5_go_319 ?_
    refine lv_iconst (v := (1 : Int32)) hx hb dX5_go_322 (by decide) ?_
    refine lv_iadd hx hb dX5_go_323 ?_
    refine va_put (D := D) (v := .int ((rI 11) + (1 : Int32))) (ty := .int) (C := RX5) (T := TX5) (N := 40) hx hb hT inlX5 tyX5 tyX5_ok nmX5 hown hK.1 hP hD hS 0 rfl rfl 29 (by decide) (hT _ fl_RX5_148) (fun _ h9 => h9) rfl (by decide +kernel) rfl rfl (Nat.le_of_ble_eq_true rfl) dX5_go_324 (fun H locs hP hD hS => ?_)
    have hP : va_P D vwCl (wl [gR cA aR (upd rI 11 ((rI 11) + (1 : Int32))) (up2 rA 16 (rI 11).toNatClampNeg (((2 : Int32) * x4) + r56)) rG] ++ gG cA K rR) H := hP
    have hD : va_D A (wl [gR cA aR (upd rI 11 ((rI 11) + (1 : Int32))) (up2 rA 16 (rI 11).toNatClampNeg (((2 : Int32) * x4) + r56)) rG] ++ gG cA K rR) := hD
    exact b327 _ _ _ _ hr61 _ _ _ _ _ _ _ _ _ _ _ _ h hP hD hS (lv_sub hl [0, 1, 2, 3, 4, 5, 6, 7, 8, 9, 10] rfl)
  have b296 : ∀ (x1 : Int32) (x2 : Nat) (x3 : Int32) (rc61 : (Int32 × (Nat → Int32) × (Nat → Nat → Int32)) → Option ((Nat → Int32) × (Nat → Nat → Int32))) (hr61 : ∀ (x4 : Int32) (rI : Nat → Int32) (rA : Nat → Nat → Int32) (H : Heap) (locs : List Loc) (ls : Array Slot), rc61 (x4, rI, rA) = some R → va_P D vwCl (wl [gR cA aR rI rA rG] ++ gG cA K rR) H → va_D A (wl [gR cA aR rI rA rG] ++ gG cA K rR) → va_S A s.heap H locs → lv_has ls 14 [(0, .ref (aR 0)), (1, .int x1), (2, .ref x2), (3, .int x3), (4, .int x4)] → W p l e (headSpec (wsU yX5_go cX5_go 14 none) ({ frames := 2, cells := 0, slots := 0, locals := 43 })).room s m ([.ref (aR 0), .int u1, .ref u2, .int u3] : List Value).toArray below meth c H locs 0 0 (MQ below (QV D (fun u : (Nat → Int32) × (Nat → Nat → Int32) => (wl [gR cA aR u.1 u.2 rG] ++ gG cA K rR)) R A) ([.ref (aR 0), .int u1, .ref u2, .int u3] : List Value).toArray s 0 0 A) (F0 m 61 ls [])) (x4 : Int32) (x5 : Int32) (x6 : Int32) (x7 : Int32) (x8 : Int32) (x9 : Int32) (y0 : Int32) (rI : Nat → Int32) (rA : Nat → Nat → Int32) (H : Heap) (locs : List Loc) (ls : Array Slot), f_X5_go1_b296 n K rc61 x1 x2 x3 x4 x5 x6 x7 x8 x9 y0 rI rA rR = some R → va_P D vwCl (wl [gR cA aR rI rA rG] ++ gG cA K rR) H → va_D A (wl [gR cA aR rI rA rG] ++ gG cA K rR) → va_S A s.heap H locs → lv_has ls 14 [(0, .ref (aR 0)), (1, .int x1), (2, .ref x2), (3, .int x3), (4, .int x4), (5, .int x5), (6, .int x6), (7, .int x7), (8, .int x8), (9, .int x9)] → W p l e (headSpec (wsU yX5_go cX5_go 14 none) ({ frames := 2, cells := 0, slots := 0, locals := 43 })).room s m ([.ref (aR 0), .int u1, .ref u2, .int u3] : List Value).toArray below meth c H locs 0 0 (MQ below (QV D (fun u : (Nat → Int32) × (Nat → Nat → Int32) => (wl [gR cA aR u.1 u.2 rG] ++ gG cA K rR)) R A) ([.ref (aR 0), .int u1, .ref u2, .int u3] : List Value).toArray s 0 0 A) (F0 m 296 ls [.int y0]) := by
    intro x1 x2 x3 rc61 hr61 x4 x5 x6 x7 x8 x9 y0 rI rA H locs ls h hP hD hS hl
    unfold f_X5_go1_b296 at h
    refine lv_istore (lv' := [(11, .int y0), (0, .ref (aR 0)), (1, .int x1), (2, .ref x2), (3, .int x3), (4, .int x4), (5, .int x5), (6, .int x6), (7, .int x7), (8, .int x8), (9, .int x9)]) hx hb dX5_go_296 hl (by decide) rfl (fun ls hl => ?_)
    exact b298 _ _ _ _ hr61 _ _ _ _ _ _ _ _ _ _ _ _ h hP hD hS (lv_sub hl [1, 2, 3, 4, 5, 6, 7, 8, 9, 10, 0] rfl)
  have b273 : ∀ (x1 : Int32) (x2 : Nat) (x3 : Int32) (rc61 : (Int32 × (Nat → Int32) × (Nat → Nat → Int32)) → Option ((Nat → Int32) × (Nat → Nat → Int32))) (hr61 : ∀ (x4 : Int32) (rI : Nat → Int32) (rA : Nat → Nat → Int32) (H : Heap) (locs : List Loc) (ls : Array Slot), rc61 (x4, rI, rA) = some R → va_P D vwCl (wl [gR cA aR rI rA rG] ++ gG cA K rR) H → va_D A (wl [gR cA aR rI rA rG] ++ gG cA K rR) → va_S A s.heap H locs → lv_has ls 14 [(0, .ref (aR 0)), (1, .int x1), (2, .ref x2), (3, .int x3), (4, .int x4)] → W p l e (headSpec (wsU yX5_go cX5_go 14 none) ({ frames := 2, cells := 0, slots := 0, locals := 43 })).room s m ([.ref (aR 0), .int u1, .ref u2, .int u3] : List Value).toArray below meth c H locs 0 0 (MQ below (QV D (fun u : (Nat → Int32) × (Nat → Nat → Int32) => (wl [gR cA aR u.1 u.2 rG] ++ gG cA K rR)) R A) ([.ref (aR 0), .int u1, .ref u2, .int u3] : List Value).toArray s 0 0 A) (F0 m 61 ls [])) (x4 : Int32) (x5 : Int32) (x6 : Int32) (x7 : Int32) (x8 : Int32) (x9 : Int32) (y0 : Int32) (rI : Nat → Int32) (rA : Nat → Nat → Int32) (H : Heap) (locs : List Loc) (ls : Array Slot), f_X5_go1_b273 n K rc61 x1 x2 x3 x4 x5 x6 x7 x8 x9 y0 rI rA rR = some R → va_P D vwCl (wl [gR cA aR rI rA rG] ++ gG cA K rR) H → va_D A (wl [gR cA aR rI rA rG] ++ gG cA K rR) → va_S A s.heap H locs → lv_has ls 14 [(0, .ref (aR 0)), (1, .int x1), (2, .ref x2), (3, .int x3), (4, .int x4), (5, .int x5), (6, .int x6), (7, .int x7), (8, .int x8), (9, .int x9)] → W p l e (headSpec (wsU yX5_go cX5_go 14 none) ({ frames := 2, cells := 0, slots := 0, locals := 43 })).room s m ([.ref (aR 0), .int u1, .ref u2, .int u3] : List Value).toArray below meth c H locs 0 0 (MQ below (QV D (fun u : (Nat → Int32) × (Nat → Nat → Int32) => (wl [gR cA aR u.1 u.2 rG] ++ gG cA K rR)) R A) ([.ref (aR 0), .int u1, .ref u2, .int u3] : List Value).toArray s 0 0 A) (F0 m 273 ls [.int y0]) := by
    intro x1 x2 x3 rc61 hr61 x4 x5 x6 x7 x8 x9 y0 rI rA H locs ls h hP hD hS hl
    unfold f_X5_go1_b273 at h
    refine lv_istore (lv' := [(11, .int y0), (0, .ref (aR 0)), (1, .int x1), (2, .ref x2), (3, .int x3), (4, .int x4), (5, .int x5), (6, .int x6), (7, .int x7), (8, .int x8), (9, .int x9)]) hx hb dX5_go_273 hl (by decide) rfl (fun ls hl => ?_)
    refine lv_aload_n hx hb dX5_go_275 rfl (lv_at hl 3 rfl) ?_
    refine lv_ifnull hx hb dX5_go_276 ?_
    refine lv_aload_n hx hb dX5_go_279 rfl (lv_at hl 3 rfl) ?_
    refine lv_aload_n hx hb dX5_go_280 rfl (lv_at hl 1 rfl) ?_
    refine va_get (D := D) (C := RX5) (T := TX5) (N := 40) hx hb hT inlX5 hown hK.1 hP 0 rfl rfl 29 (by decide) (hT _ fl_RX5_148) (fun _ h9 => h9) rfl dX5_go_281 ?_
    obtain ⟨m58, h⟩ := og_guard h
    obtain ⟨g60, h⟩ := og_guard h
    obtain ⟨kq59, hkq59⟩ := va_pl_get (X := (wl [gR cA aR rI rA rG])) (f := fR cA rR) m58
    refine va_iald hx hb hK.1 hP kq59 0 hkq59 rfl (inb_vp g60) dX5_go_284 ?_
    refine lv_iconst (v := (2 : Int32)) hx hb dX5_go_285 (by decide) ?_
    obtain ⟨g61, h⟩ := og_guard h
    refine lv_irem hx hb dX5_go_286 g61 ?_
    refine lv_iconst (v := (1 : Int32)) hx hb dX5_go_287 (by decide) ?_
    refine lv_icmp_ne (tgt := 295) hx hb dX5_go_288 (by decide) (fun c62 => ?_) (fun c62 => ?_)
    · replace h := og_neg c62 h
      refine lv_iconst (v := (0 : Int32)) hx hb dX5_go_295 (by decide) ?_
      exact b296 _ _ _ _ hr61 _ _ _ _ _ _ _ _ _ _ _ _ h hP hD hS (lv_sub hl [1, 2, 3, 4, 5, 6, 7, 8, 9, 10] rfl)
    · replace h := og_pos c62 h
      refine lv_iconst (v := (1 : Int32)) hx hb dX5_go_291 (by decide) ?_
      refine lv_goto (tgt := 296) hx hb dX5_go_292 (by decide) ?_
      exact b296 _ _ _ _ hr61 _ _ _ _ _ _ _ _ _ _ _ _ h hP hD hS (lv_sub hl [1, 2, 3, 4, 5, 6, 7, 8, 9, 10] rfl)
  have b259 : ∀ (x1 : Int32) (x2 : Nat) (x3 : Int32) (rc61 : (Int32 × (Nat → Int32) × (Nat → Nat → Int32)) → Option ((Nat → Int32) × (Nat → Nat → Int32))) (hr61 : ∀ (x4 : Int32) (rI : Nat → Int32) (rA : Nat → Nat → Int32) (H : Heap) (locs : List Loc) (ls : Array Slot), rc61 (x4, rI, rA) = some R → va_P D vwCl (wl [gR cA aR rI rA rG] ++ gG cA K rR) H → va_D A (wl [gR cA aR rI rA rG] ++ gG cA K rR) → va_S A s.heap H locs → lv_has ls 14 [(0, .ref (aR 0)), (1, .int x1), (2, .ref x2), (3, .int x3), (4, .int x4)] → W p l e (headSpec (wsU yX5_go cX5_go 14 none) ({ frames := 2, cells := 0, slots := 0, locals := 43 })).room s m ([.ref (aR 0), .int u1, .ref u2, .int u3] : List Value).toArray below meth c H locs 0 0 (MQ below (QV D (fun u : (Nat → Int32) × (Nat → Nat → Int32) => (wl [gR cA aR u.1 u.2 rG] ++ gG cA K rR)) R A) ([.ref (aR 0), .int u1, .ref u2, .int u3] : List Value).toArray s 0 0 A) (F0 m 61 ls [])) (x4 : Int32) (x5 : Int32) (x6 : Int32) (x7 : Int32) (x8 : Int32) (x9 : Int32) (rI : Nat → Int32) (rA : Nat → Nat → Int32) (H : Heap) (locs : List Loc) (ls : Array Slot), f_X5_go1_b259 n K rc61 x1 x2 x3 x4 x5 x6 x7 x8 x9 rI rA rR = some R → va_P D vwCl (wl [gR cA aR rI rA rG] ++ gG cA K rR) H → va_D A (wl [gR cA aR rI rA rG] ++ gG cA K rR) → va_S A s.heap H locs → lv_has ls 14 [(0, .ref (aR 0)), (1, .int x1), (2, .ref x2), (3, .int x3), (4, .int x4), (5, .int x5), (6, .int x6), (7, .int x7), (8, .int x8), (9, .int x9)] → W p l e (headSpec (wsU yX5_go cX5_go 14 none) ({ frames := 2, cells := 0, slots := 0, locals := 43 })).room s m ([.ref (aR 0), .int u1, .ref u2, .int u3] : List Value).toArray below meth c H locs 0 0 (MQ below (QV D (fun u : (Nat → Int32) × (Nat → Nat → Int32) => (wl [gR cA aR u.1 u.2 rG] ++ gG cA K rR)) R A) ([.ref (aR 0), .int u1, .ref u2, .int u3] : List Value).toArray s 0 0 A) (F0 m 259 ls []) := by
    intro x1 x2 x3 rc61 hr61 x4 x5 x6 x7 x8 x9 rI rA H locs ls h hP hD hS hl
    unfold f_X5_go1_b259 at h
    refine lv_iconst (v := (0 : Int32)) hx hb dX5_go_259 (by decide) ?_
    refine lv_goto (tgt := 273) hx hb dX5_go_260 (by decide) ?_
    exact b273 _ _ _ _ hr61 _ _ _ _ _ _ _ _ _ _ _ _ h hP hD hS (lv_sub hl [0, 1, 2, 3, 4, 5, 6, 7, 8, 9] rfl)
  have b243 : ∀ (x1 : Int32) (x2 : Nat) (x3 : Int32) (rc61 : (Int32 × (Nat → Int32) × (Nat → Nat → Int32)) → Option ((Nat → Int32) × (Nat → Nat → Int32))) (hr61 : ∀ (x4 : Int32) (rI : Nat → Int32) (rA : Nat → Nat → Int32) (H : Heap) (locs : List Loc) (ls : Array Slot), rc61 (x4, rI, rA) = some R → va_P D vwCl (wl [gR cA aR rI rA rG] ++ gG cA K rR) H → va_D A (wl [gR cA aR rI rA rG] ++ gG cA K rR) → va_S A s.heap H locs → lv_has ls 14 [(0, .ref (aR 0)), (1, .int x1), (2, .ref x2), (3, .int x3), (4, .int x4)] → W p l e (headSpec (wsU yX5_go cX5_go 14 none) ({ frames := 2, cells := 0, slots := 0, locals := 43 })).room s m ([.ref (aR 0), .int u1, .ref u2, .int u3] : List Value).toArray below meth c H locs 0 0 (MQ below (QV D (fun u : (Nat → Int32) × (Nat → Nat → Int32) => (wl [gR cA aR u.1 u.2 rG] ++ gG cA K rR)) R A) ([.ref (aR 0), .int u1, .ref u2, .int u3] : List Value).toArray s 0 0 A) (F0 m 61 ls [])) (x4 : Int32) (x5 : Int32) (x6 : Int32) (x7 : Int32) (x8 : Int32) (x9 : Int32) (x12 : Int32) (rI : Nat → Int32) (rA : Nat → Nat → Int32) (H : Heap) (locs : List Loc) (ls : Array Slot), f_X5_go1_b243 n K rc61 x1 x2 x3 x4 x5 x6 x7 x8 x9 x12 rI rA rR = some R → va_P D vwCl (wl [gR cA aR rI rA rG] ++ gG cA K rR) H → va_D A (wl [gR cA aR rI rA rG] ++ gG cA K rR) → va_S A s.heap H locs → lv_has ls 14 [(0, .ref (aR 0)), (1, .int x1), (2, .ref x2), (3, .int x3), (4, .int x4), (5, .int x5), (6, .int x6), (7, .int x7), (8, .int x8), (9, .int x9), (12, .int x12)] → W p l e (headSpec (wsU yX5_go cX5_go 14 none) ({ frames := 2, cells := 0, slots := 0, locals := 43 })).room s m ([.ref (aR 0), .int u1, .ref u2, .int u3] : List Value).toArray below meth c H locs 0 0 (MQ below (QV D (fun u : (Nat → Int32) × (Nat → Nat → Int32) => (wl [gR cA aR u.1 u.2 rG] ++ gG cA K rR)) R A) ([.ref (aR 0), .int u1, .ref u2, .int u3] : List Value).toArray s 0 0 A) (F0 m 243 ls []) := by
    intro x1 x2 x3 rc61 hr61 x4 x5 x6 x7 x8 x9 x12 rI rA H locs ls h hP hD hS hl
    unfold f_X5_go1_b243 at h
    refine lv_iload hx hb dX5_go_243 (lv_at hl 10 rfl) ?_
    refine lv_if_lt (tgt := 259) hx hb dX5_go_245 (by decide) (fun c63 => ?_) (fun c63 => ?_)
    · replace h := og_pos c63 h
      exact b259 _ _ _ _ hr61 _ _ _ _ _ _ _ _ _ _ _ h hP hD hS (lv_sub hl [0, 1, 2, 3, 4, 5, 6, 7, 8, 9] rfl)
    · replace h := og_neg c63 h
      refine lv_iload hx hb dX5_go_248 (lv_at hl 10 rfl) ?_
      refine lv_bipush (v := (8 : Int32)) hx hb dX5_go_250 (by decide) ?_
      refine lv_icmp_ge (tgt := 259) hx hb dX5_go_252 (by decide) (fun c64 => ?_) (fun c64 => ?_)
      · replace h := og_pos c64 h
        exact b259 _ _ _ _ hr61 _ _ _ _ _ _ _ _ _ _ _ h hP hD hS (lv_sub hl [0, 1, 2, 3, 4, 5, 6, 7, 8, 9] rfl)
      · replace h := og_neg c64 h
        refine lv_iconst (v := (1 : Int32)) hx hb dX5_go_255 (by decide) ?_
        refine lv_goto (tgt := 273) hx hb dX5_go_256 (by decide) ?_
        exact b273 _ _ _ _ hr61 _ _ _ _ _ _ _ _ _ _ _ _ h hP hD hS (lv_sub hl [0, 1, 2, 3, 4, 5, 6, 7, 8, 9] rfl)
  have b227 : ∀ (x1 : Int32) (x2 : Nat) (x3 : Int32) (rc61 : (Int32 × (Nat → Int32) × (Nat → Nat → Int32)) → Option ((Nat → Int32) × (Nat → Nat → Int32))) (hr61 : ∀ (x4 : Int32) (rI : Nat → Int32) (rA : Nat → Nat → Int32) (H : Heap) (locs : List Loc) (ls : Array Slot), rc61 (x4, rI, rA) = some R → va_P D vwCl (wl [gR cA aR rI rA rG] ++ gG cA K rR) H → va_D A (wl [gR cA aR rI rA rG] ++ gG cA K rR) → va_S A s.heap H locs → lv_has ls 14 [(0, .ref (aR 0)), (1, .int x1), (2, .ref x2), (3, .int x3), (4, .int x4)] → W p l e (headSpec (wsU yX5_go cX5_go 14 none) ({ frames := 2, cells := 0, slots := 0, locals := 43 })).room s m ([.ref (aR 0), .int u1, .ref u2, .int u3] : List Value).toArray below meth c H locs 0 0 (MQ below (QV D (fun u : (Nat → Int32) × (Nat → Nat → Int32) => (wl [gR cA aR u.1 u.2 rG] ++ gG cA K rR)) R A) ([.ref (aR 0), .int u1, .ref u2, .int u3] : List Value).toArray s 0 0 A) (F0 m 61 ls [])) (x4 : Int32) (x5 : Int32) (x6 : Int32) (x7 : Int32) (x8 : Int32) (x9 : Int32) (y0 : Int32) (rI : Nat → Int32) (rA : Nat → Nat → Int32) (H : Heap) (locs : List Loc) (ls : Array Slot), f_X5_go1_b227 n K rc61 x1 x2 x3 x4 x5 x6 x7 x8 x9 y0 rI rA rR = some R → va_P D vwCl (wl [gR cA aR rI rA rG] ++ gG cA K rR) H → va_D A (wl [gR cA aR rI rA rG] ++ gG cA K rR) → va_S A s.heap H locs → lv_has ls 14 [(0, .ref (aR 0)), (1, .int x1), (2, .ref x2), (3, .int x3), (4, .int x4), (5, .int x5), (6, .int x6), (7, .int x7), (8, .int x8), (9, .int x9)] → W p l e (headSpec (wsU yX5_go cX5_go 14 none) ({ frames := 2, cells := 0, slots := 0, locals := 43 })).room s m ([.ref (aR 0), .int u1, .ref u2, .int u3] : List Value).toArray below meth c H locs 0 0 (MQ below (QV D (fun u : (Nat → Int32) × (Nat → Nat → Int32) => (wl [gR cA aR u.1 u.2 rG] ++ gG cA K rR)) R A) ([.ref (aR 0), .int u1, .ref u2, .int u3] : List Value).toArray s 0 0 A) (F0 m 227 ls [.int y0]) := by
    intro x1 x2 x3 rc61 hr61 x4 x5 x6 x7 x8 x9 y0 rI rA H locs ls h hP hD hS hl
    unfold f_X5_go1_b227 at h
    refine lv_istore (lv' := [(12, .int y0), (0, .ref (aR 0)), (1, .int x1), (2, .ref x2), (3, .int x3), (4, .int x4), (5, .int x5), (6, .int x6), (7, .int x7), (8, .int x8), (9, .int x9)]) hx hb dX5_go_227 hl (by decide) rfl (fun ls hl => ?_)
    refine lv_iload hx hb dX5_go_229 (lv_at hl 6 rfl) ?_
    refine lv_bipush (v := (25 : Int32)) hx hb dX5_go_231 (by decide) ?_
    refine lv_icmp_eq (tgt := 243) hx hb dX5_go_233 (by decide) (fun c65 => ?_) (fun c65 => ?_)
    · replace h := og_pos c65 h
      exact b243 _ _ _ _ hr61 _ _ _ _ _ _ _ _ _ _ _ _ h hP hD hS (lv_sub hl [1, 2, 3, 4, 5, 6, 7, 8, 9, 10, 0] rfl)
    · replace h := og_neg c65 h
      refine lv_iload hx hb dX5_go_236 (lv_at hl 6 rfl) ?_
      refine lv_bipush (v := (26 : Int32)) hx hb dX5_go_238 (by decide) ?_
      refine lv_icmp_ne (tgt := 263) hx hb dX5_go_240 (by decide) (fun c66 => ?_) (fun c66 => ?_)
      · replace h := og_neg c66 h
        refine lv_iload hx hb dX5_go_263 (lv_at hl 0 rfl) ?_
        refine lv_if_eq (tgt := 272) hx hb dX5_go_265 (by decide) (fun c67 => ?_) (fun c67 => ?_)
        · replace h := og_pos c67 h
          refine lv_iconst (v := (0 : Int32)) hx hb dX5_go_272 (by decide) ?_
          exact b273 _ _ _ _ hr61 _ _ _ _ _ _ _ _ _ _ _ _ h hP hD hS (lv_sub hl [1, 2, 3, 4, 5, 6, 7, 8, 9, 10] rfl)
        · replace h := og_neg c67 h
          refine lv_iconst (v := (1 : Int32)) hx hb dX5_go_268 (by decide) ?_
          refine lv_goto (tgt := 273) hx hb dX5_go_269 (by decide) ?_
          exact b273 _ _ _ _ hr61 _ _ _ _ _ _ _ _ _ _ _ _ h hP hD hS (lv_sub hl [1, 2, 3, 4, 5, 6, 7, 8, 9, 10] rfl)
      · replace h := og_pos c66 h
        exact b243 _ _ _ _ hr61 _ _ _ _ _ _ _ _ _ _ _ _ h hP hD hS (lv_sub hl [1, 2, 3, 4, 5, 6, 7, 8, 9, 10, 0] rfl)
  have b175 : ∀ (x1 : Int32) (x2 : Nat) (x3 : Int32) (rc61 : (Int32 × (Nat → Int32) × (Nat → Nat → Int32)) → Option ((Nat → Int32) × (Nat → Nat → Int32))) (hr61 : ∀ (x4 : Int32) (rI : Nat → Int32) (rA : Nat → Nat → Int32) (H : Heap) (locs : List Loc) (ls : Array Slot), rc61 (x4, rI, rA) = some R → va_P D vwCl (wl [gR cA aR rI rA rG] ++ gG cA K rR) H → va_D A (wl [gR cA aR rI rA rG] ++ gG cA K rR) → va_S A s.heap H locs → lv_has ls 14 [(0, .ref (aR 0)), (1, .int x1), (2, .ref x2), (3, .int x3), (4, .int x4)] → W p l e (headSpec (wsU yX5_go cX5_go 14 none) ({ frames := 2, cells := 0, slots := 0, locals := 43 })).room s m ([.ref (aR 0), .int u1, .ref u2, .int u3] : List Value).toArray below meth c H locs 0 0 (MQ below (QV D (fun u : (Nat → Int32) × (Nat → Nat → Int32) => (wl [gR cA aR u.1 u.2 rG] ++ gG cA K rR)) R A) ([.ref (aR 0), .int u1, .ref u2, .int u3] : List Value).toArray s 0 0 A) (F0 m 61 ls [])) (x4 : Int32) (x5 : Int32) (x6 : Int32) (x7 : Int32) (x8 : Int32) (x9 : Int32) (y0 : Int32) (rI : Nat → Int32) (rA : Nat → Nat → Int32) (H : Heap) (locs : List Loc) (ls : Array Slot), f_X5_go1_b175 n K rc61 x1 x2 x3 x4 x5 x6 x7 x8 x9 y0 rI rA rR = some R → va_P D vwCl (wl [gR cA aR rI rA rG] ++ gG cA K rR) H → va_D A (wl [gR cA aR rI rA rG] ++ gG cA K rR) → va_S A s.heap H locs → lv_has ls 14 [(0, .ref (aR 0)), (1, .int x1), (2, .ref x2), (3, .int x3), (4, .int x4), (5, .int x5), (6, .int x6), (7, .int x7), (8, .int x8), (9, .int x9)] → W p l e (headSpec (wsU yX5_go cX5_go 14 none) ({ frames := 2, cells := 0, slots := 0, locals := 43 })).room s m ([.ref (aR 0), .int u1, .ref u2, .int u3] : List Value).toArray below meth c H locs 0 0 (MQ below (QV D (fun u : (Nat → Int32) × (Nat → Nat → Int32) => (wl [gR cA aR u.1 u.2 rG] ++ gG cA K rR)) R A) ([.ref (aR 0), .int u1, .ref u2, .int u3] : List Value).toArray s 0 0 A) (F0 m 175 ls [.int y0]) := by
    intro x1 x2 x3 rc61 hr61 x4 x5 x6 x7 x8 x9 y0 rI rA H locs ls h hP hD hS hl
    unfold f_X5_go1_b175 at h
    refine lv_istore (lv' := [(10, .int y0), (0, .ref (aR 0)), (1, .int x1), (2, .ref x2), (3, .int x3), (4, .int x4), (5, .int x5), (6, .int x6), (7, .int x7), (8, .int x8), (9, .int x9)]) hx hb dX5_go_175 hl (by decide) rfl (fun ls hl => ?_)
    refine lv_iconst (v := (0 : Int32)) hx hb dX5_go_177 (by decide) ?_
    refine lv_istore (lv' := [(11, .int (0 : Int32)), (10, .int y0), (0, .ref (aR 0)), (1, .int x1), (2, .ref x2), (3, .int x3), (4, .int x4), (5, .int x5), (6, .int x6), (7, .int x7), (8, .int x8), (9, .int x9)]) hx hb dX5_go_178 hl (by decide) rfl (fun ls hl => ?_)
    refine lv_iload hx hb dX5_go_180 (lv_at hl 1 rfl) ?_
    refine lv_if_eq (tgt := 327) hx hb dX5_go_182 (by decide) (fun c68 => ?_) (fun c68 => ?_)
    · replace h := og_pos c68 h
      exact b327 _ _ _ _ hr61 _ _ _ _ _ _ _ _ _ _ _ _ h hP hD hS (lv_sub hl [2, 3, 4, 5, 6, 7, 8, 9, 10, 11, 0] rfl)
    · replace h := og_neg c68 h
      refine lv_iload hx hb dX5_go_185 (lv_at hl 7 rfl) ?_
      obtain ⟨⟨r69, _u69⟩, e69, h⟩ := og_bind h
      try dsimp only at h
      refine gc_i (ws := (wl [gR cA aR rI rA rG] ++ gG cA K rR)) (wc := (wl ([] : List va_W))) (wr := (wl [gR cA aR rI rA rG] ++ gG cA K rR)) (ws' := (wl [gR cA aR rI rA rG] ++ gG cA K rR)) (va_runS (As := [.int x5]) (rest := []) ⟨hx, hb, hml, hown, hT⟩ (k_X5_isDivision l D cA  H.size x5  _ e69) (cwS 1 hT gs_RX5_110 rfl rfl rfl (by decide +kernel) ⟨Nat.le_of_ble_eq_true rfl, Nat.le_of_ble_eq_true rfl⟩) (pre_S (wr := (wl [gR cA aR rI rA rG] ++ gG cA K rR)) (pmC (f := fun i => ([gR cA aR rI rA rG] : List va_W).getD i []) [0] [] [0] (by decide)) hK hP hD) rfl rfl hl.1 rfl (lv_room (Nat.le_of_ble_eq_true rfl)) dX5_go_187 ⟨Nat.le_refl _, Nat.le_refl _⟩) (pmC (f := fun i => ([gR cA aR rI rA rG] : List va_W).getD i []) [0] [] [0] (by decide)) hP hD hS hA (pmC (f := fun i => ([gR cA aR rI rA rG] : List va_W).getD i []) [0] [] [0] (by decide)) (fun H locs hP hD hS => ?_)
      refine lv_if_eq (tgt := 203) hx hb dX5_go_190 (by decide) (fun c70 => ?_) (fun c70 => ?_)
      · replace h := og_pos c70 h
        refine lv_iload hx hb dX5_go_203 (lv_at hl 7 rfl) ?_
        refine lv_bipush (v := (25 : Int32)) hx hb dX5_go_205 (by decide) ?_
        refine lv_icmp_ne (tgt := 220) hx hb dX5_go_207 (by decide) (fun c71 => ?_) (fun c71 => ?_)
        · replace h := og_neg c71 h
          refine lv_aload_n hx hb dX5_go_220 rfl (lv_at hl 2 rfl) ?_
          refine va_get (D := D) (C := RX5) (T := TX5) (N := 40) hx hb hT inlX5 hown hK.1 hP 0 rfl rfl 22 (by decide) (hT _ fl_RX5_62) (fun _ h9 => h9) rfl dX5_go_221 ?_
          refine lv_iload hx hb dX5_go_224 (lv_at hl 8 rfl) ?_
          obtain ⟨g72, h⟩ := og_guard h
          refine va_iald hx hb hK.1 hP 16 0 rfl rfl (inb_vp g72) dX5_go_226 ?_
          exact b227 _ _ _ _ hr61 _ _ _ _ _ _ _ _ _ _ _ _ h hP hD hS (lv_sub hl [2, 3, 4, 5, 6, 7, 8, 9, 10, 11] rfl)
        · replace h := og_pos c71 h
          refine lv_aload_n hx hb dX5_go_210 rfl (lv_at hl 2 rfl) ?_
          refine va_get (D := D) (C := RX5) (T := TX5) (N := 40) hx hb hT inlX5 hown hK.1 hP 0 rfl rfl 22 (by decide) (hT _ fl_RX5_62) (fun _ h9 => h9) rfl dX5_go_211 ?_
          refine lv_iload hx hb dX5_go_214 (lv_at hl 9 rfl) ?_
          obtain ⟨g73, h⟩ := og_guard h
          refine va_iald hx hb hK.1 hP 16 0 rfl rfl (inb_vp g73) dX5_go_216 ?_
          refine lv_goto (tgt := 227) hx hb dX5_go_217 (by decide) ?_
          exact b227 _ _ _ _ hr61 _ _ _ _ _ _ _ _ _ _ _ _ h hP hD hS (lv_sub hl [2, 3, 4, 5, 6, 7, 8, 9, 10, 11] rfl)
      · replace h := og_neg c70 h
        refine lv_aload_n hx hb dX5_go_193 rfl (lv_at hl 2 rfl) ?_
        refine va_get (D := D) (C := RX5) (T := TX5) (N := 40) hx hb hT inlX5 hown hK.1 hP 0 rfl rfl 22 (by decide) (hT _ fl_RX5_62) (fun _ h9 => h9) rfl dX5_go_194 ?_
        refine lv_iload hx hb dX5_go_197 (lv_at hl 10 rfl) ?_
        obtain ⟨g74, h⟩ := og_guard h
        refine va_iald hx hb hK.1 hP 16 0 rfl rfl (inb_vp g74) dX5_go_199 ?_
        refine lv_goto (tgt := 227) hx hb dX5_go_200 (by decide) ?_
        exact b227 _ _ _ _ hr61 _ _ _ _ _ _ _ _ _ _ _ _ h hP hD hS (lv_sub hl [2, 3, 4, 5, 6, 7, 8, 9, 10, 11] rfl)
  have b170 : ∀ (x1 : Int32) (x2 : Nat) (x3 : Int32) (rc61 : (Int32 × (Nat → Int32) × (Nat → Nat → Int32)) → Option ((Nat → Int32) × (Nat → Nat → Int32))) (hr61 : ∀ (x4 : Int32) (rI : Nat → Int32) (rA : Nat → Nat → Int32) (H : Heap) (locs : List Loc) (ls : Array Slot), rc61 (x4, rI, rA) = some R → va_P D vwCl (wl [gR cA aR rI rA rG] ++ gG cA K rR) H → va_D A (wl [gR cA aR rI rA rG] ++ gG cA K rR) → va_S A s.heap H locs → lv_has ls 14 [(0, .ref (aR 0)), (1, .int x1), (2, .ref x2), (3, .int x3), (4, .int x4)] → W p l e (headSpec (wsU yX5_go cX5_go 14 none) ({ frames := 2, cells := 0, slots := 0, locals := 43 })).room s m ([.ref (aR 0), .int u1, .ref u2, .int u3] : List Value).toArray below meth c H locs 0 0 (MQ below (QV D (fun u : (Nat → Int32) × (Nat → Nat → Int32) => (wl [gR cA aR u.1 u.2 rG] ++ gG cA K rR)) R A) ([.ref (aR 0), .int u1, .ref u2, .int u3] : List Value).toArray s 0 0 A) (F0 m 61 ls [])) (x4 : Int32) (x5 : Int32) (x6 : Int32) (x7 : Int32) (x8 : Int32) (x9 : Int32) (rI : Nat → Int32) (rA : Nat → Nat → Int32) (H : Heap) (locs : List Loc) (ls : Array Slot), f_X5_go1_b170 n K rc61 x1 x2 x3 x4 x5 x6 x7 x8 x9 rI rA rR = some R → va_P D vwCl (wl [gR cA aR rI rA rG] ++ gG cA K rR) H → va_D A (wl [gR cA aR rI rA rG] ++ gG cA K rR) → va_S A s.heap H locs → lv_has ls 14 [(0, .ref (aR 0)), (1, .int x1), (2, .ref x2), (3, .int x3), (4, .int x4), (5, .int x5), (6, .int x6), (7, .int x7), (8, .int x8), (9, .int x9)] → W p l e (headSpec (wsU yX5_go cX5_go 14 none) ({ frames := 2, cells := 0, slots := 0, locals := 43 })).room s m ([.ref (aR 0), .int u1, .ref u2, .int u3] : List Value).toArray below meth c H locs 0 0 (MQ below (QV D (fun u : (Nat → Int32) × (Nat → Nat → Int32) => (wl [gR cA aR u.1 u.2 rG] ++ gG cA K rR)) R A) ([.ref (aR 0), .int u1, .ref u2, .int u3] : List Value).toArray s 0 0 A) (F0 m 170 ls []) := by
    intro x1 x2 x3 rc61 hr61 x4 x5 x6 x7 x8 x9 rI rA H locs ls h hP hD hS hl
    unfold f_X5_go1_b170 at h
    refine lv_iconst (v := (1 : Int32)) hx hb dX5_go_170 (by decide) ?_
    refine lv_goto (tgt := 175) hx hb dX5_go_171 (by decide) ?_
    exact b175 _ _ _ _ hr61 _ _ _ _ _ _ _ _ _ _ _ _ h hP hD hS (lv_sub hl [0, 1, 2, 3, 4, 5, 6, 7, 8, 9] rfl)
  have b82 : ∀ (x1 : Int32) (x2 : Nat) (x3 : Int32) (rc61 : (Int32 × (Nat → Int32) × (Nat → Nat → Int32)) → Option ((Nat → Int32) × (Nat → Nat → Int32))) (hr61 : ∀ (x4 : Int32) (rI : Nat → Int32) (rA : Nat → Nat → Int32) (H : Heap) (locs : List Loc) (ls : Array Slot), rc61 (x4, rI, rA) = some R → va_P D vwCl (wl [gR cA aR rI rA rG] ++ gG cA K rR) H → va_D A (wl [gR cA aR rI rA rG] ++ gG cA K rR) → va_S A s.heap H locs → lv_has ls 14 [(0, .ref (aR 0)), (1, .int x1), (2, .ref x2), (3, .int x3), (4, .int x4)] → W p l e (headSpec (wsU yX5_go cX5_go 14 none) ({ frames := 2, cells := 0, slots := 0, locals := 43 })).room s m ([.ref (aR 0), .int u1, .ref u2, .int u3] : List Value).toArray below meth c H locs 0 0 (MQ below (QV D (fun u : (Nat → Int32) × (Nat → Nat → Int32) => (wl [gR cA aR u.1 u.2 rG] ++ gG cA K rR)) R A) ([.ref (aR 0), .int u1, .ref u2, .int u3] : List Value).toArray s 0 0 A) (F0 m 61 ls [])) (x4 : Int32) (rI : Nat → Int32) (rA : Nat → Nat → Int32) (H : Heap) (locs : List Loc) (ls : Array Slot), f_X5_go1_b82 n K rc61 x1 x2 x3 x4 rI rA rR = some R → va_P D vwCl (wl [gR cA aR rI rA rG] ++ gG cA K rR) H → va_D A (wl [gR cA aR rI rA rG] ++ gG cA K rR) → va_S A s.heap H locs → lv_has ls 14 [(0, .ref (aR 0)), (1, .int x1), (2, .ref x2), (3, .int x3), (4, .int x4)] → W p l e (headSpec (wsU yX5_go cX5_go 14 none) ({ frames := 2, cells := 0, slots := 0, locals := 43 })).room s m ([.ref (aR 0), .int u1, .ref u2, .int u3] : List Value).toArray below meth c H locs 0 0 (MQ below (QV D (fun u : (Nat → Int32) × (Nat → Nat → Int32) => (wl [gR cA aR u.1 u.2 rG] ++ gG cA K rR)) R A) ([.ref (aR 0), .int u1, .ref u2, .int u3] : List Value).toArray s 0 0 A) (F0 m 82 ls []) := by
    intro x1 x2 x3 rc61 hr61 x4 rI rA H locs ls h hP hD hS hl
    unfold f_X5_go1_b82 at h
    refine lv_aload_n hx hb dX5_go_82 rfl (lv_at hl 0 rfl) ?_
    refine lv_dup hx hb dX5_go_83 rfl ?_
    refine va_get (D := D) (C := RX5) (T := TX5) (N := 40) hx hb hT inlX5 hown hK.1 hP 0 rfl rfl 28 (by decide) (hT _ fl_RX5_145) (fun _ h9 => h9) rfl dX5_go_84 ?_
    refine lv_iconst (v := (1 : Int32)) hx hb dX5_go_87 (by decide) ?_
    refine lv_iadd hx hb dX5_go_88 ?_
    refine va_put (D := D) (v := .int ((rI 10) + (1 : Int32))) (ty := .int) (C := RX5) (T := TX5) (N := 40) hx hb hT inlX5 tyX5 tyX5_ok nmX5 hown hK.1 hP hD hS 0 rfl rfl 28 (by decide) (hT _ fl_RX5_145) (fun _ h9 => h9) rfl (by decide +kernel) rfl rfl (Nat.le_of_ble_eq_true rfl) dX5_go_89 (fun H locs hP hD hS => ?_)
    have hP : va_P D vwCl (wl [gR cA aR (upd rI 10 ((rI 10) + (1 : Int32))) rA rG] ++ gG cA K rR) H := hP
    have hD : va_D A (wl [gR cA aR (upd rI 10 ((rI 10) + (1 : Int32))) rA rG] ++ gG cA K rR) := hD
    refine lv_aload_n hx hb dX5_go_92 rfl (lv_at hl 0 rfl) ?_
    refine va_get (D := D) (C := RX5) (T := TX5) (N := 40) hx hb hT inlX5 hown hK.1 hP 0 rfl rfl 8 (by decide) (hT _ fl_RX5_17) (fun _ h9 => h9) rfl dX5_go_93 ?_
    refine lv_iload hx hb dX5_go_96 (lv_at hl 4 rfl) ?_
    obtain ⟨g75, h⟩ := og_guard h
    refine va_iald hx hb hK.1 hP 3 0 rfl rfl (inb_vp g75) dX5_go_98 ?_
    refine lv_istore (lv' := [(5, .int (rA 2 x4.toNatClampNeg)), (0, .ref (aR 0)), (1, .int x1), (2, .ref x2), (3, .int x3), (4, .int x4)]) hx hb dX5_go_99 hl (by decide) rfl (fun ls hl => ?_)
    refine lv_aload_n hx hb dX5_go_101 rfl (lv_at hl 1 rfl) ?_
    refine va_get (D := D) (C := RX5) (T := TX5) (N := 40) hx hb hT inlX5 hown hK.1 hP 0 rfl rfl 9 (by decide) (hT _ fl_RX5_20) (fun _ h9 => h9) rfl dX5_go_102 ?_
    refine lv_iload hx hb dX5_go_105 (lv_at hl 5 rfl) ?_
    obtain ⟨g76, h⟩ := og_guard h
    refine va_iald hx hb hK.1 hP 4 0 rfl rfl (inb_vp g76) dX5_go_107 ?_
    refine lv_istore (lv' := [(6, .int (rA 3 x4.toNatClampNeg)), (5, .int (rA 2 x4.toNatClampNeg)), (0, .ref (aR 0)), (1, .int x1), (2, .ref x2), (3, .int x3), (4, .int x4)]) hx hb dX5_go_108 hl (by decide) rfl (fun ls hl => ?_)
    refine lv_aload_n hx hb dX5_go_110 rfl (lv_at hl 2 rfl) ?_
    refine va_get (D := D) (C := RX5) (T := TX5) (N := 40) hx hb hT inlX5 hown hK.1 hP 0 rfl rfl 10 (by decide) (hT _ fl_RX5_23) (fun _ h9 => h9) rfl dX5_go_111 ?_
    refine lv_iload hx hb dX5_go_114 (lv_at hl 6 rfl) ?_
    obtain ⟨g77, h⟩ := og_guard h
    refine va_iald hx hb hK.1 hP 5 0 rfl rfl (inb_vp g77) dX5_go_116 ?_
    refine lv_istore (lv' := [(7, .int (rA 4 x4.toNatClampNeg)), (6, .int (rA 3 x4.toNatClampNeg)), (5, .int (rA 2 x4.toNatClampNeg)), (0, .ref (aR 0)), (1, .int x1), (2, .ref x2), (3, .int x3), (4, .int x4)]) hx hb dX5_go_117 hl (by decide) rfl (fun ls hl => ?_)
    refine lv_aload_n hx hb dX5_go_119 rfl (lv_at hl 3 rfl) ?_
    refine va_get (D := D) (C := RX5) (T := TX5) (N := 40) hx hb hT inlX5 hown hK.1 hP 0 rfl rfl 11 (by decide) (hT _ fl_RX5_26) (fun _ h9 => h9) rfl dX5_go_120 ?_
    refine lv_iload hx hb dX5_go_123 (lv_at hl 7 rfl) ?_
    obtain ⟨g78, h⟩ := og_guard h
    refine va_iald hx hb hK.1 hP 6 0 rfl rfl (inb_vp g78) dX5_go_125 ?_
    refine lv_istore (lv' := [(8, .int (rA 5 x4.toNatClampNeg)), (7, .int (rA 4 x4.toNatClampNeg)), (6, .int (rA 3 x4.toNatClampNeg)), (5, .int (rA 2 x4.toNatClampNeg)), (0, .ref (aR 0)), (1, .int x1), (2, .ref x2), (3, .int x3), (4, .int x4)]) hx hb dX5_go_126 hl (by decide) rfl (fun ls hl => ?_)
    refine lv_iload hx hb dX5_go_128 (lv_at hl 8 rfl) ?_
    refine lv_iconst (v := (1 : Int32)) hx hb dX5_go_130 (by decide) ?_
    refine lv_iadd hx hb dX5_go_131 ?_
    refine lv_istore (lv' := [(9, .int (x4 + (1 : Int32))), (8, .int (rA 5 x4.toNatClampNeg)), (7, .int (rA 4 x4.toNatClampNeg)), (6, .int (rA 3 x4.toNatClampNeg)), (5, .int (rA 2 x4.toNatClampNeg)), (0, .ref (aR 0)), (1, .int x1), (2, .ref x2), (3, .int x3), (4, .int x4)]) hx hb dX5_go_132 hl (by decide) rfl (fun ls hl => ?_)
    refine lv_iload hx hb dX5_go_134 (lv_at hl 4 rfl) ?_
    obtain ⟨⟨r79, _u79⟩, e79, h⟩ := og_bind h
    try dsimp only at h
    refine gc_i (ws := (wl [gR cA aR (upd rI 10 ((rI 10) + (1 : Int32))) rA rG] ++ gG cA K rR)) (wc := (wl ([] : List va_W))) (wr := (wl [gR cA aR (upd rI 10 ((rI 10) + (1 : Int32))) rA rG] ++ gG cA K rR)) (ws' := (wl [gR cA aR (upd rI 10 ((rI 10) + (1 : Int32))) rA rG] ++ gG cA K rR)) (va_runS (As := [.int (rA 2 x4.toNatClampNeg)]) (rest := []) ⟨hx, hb, hml, hown, hT⟩ (k_X5_isDivision l D cA  H.size (rA 2 x4.toNatClampNeg)  _ e79) (cwS 1 hT gs_RX5_110 rfl rfl rfl (by decide +kernel) ⟨Nat.le_of_ble_eq_true rfl, Nat.le_of_ble_eq_true rfl⟩) (pre_S (wr := (wl [gR cA aR (upd rI 10 ((rI 10) + (1 : Int32))) rA rG] ++ gG cA K rR)) (pmC (f := fun i => ([gR cA aR (upd rI 10 ((rI 10) + (1 : Int32))) rA rG] : List va_W).getD i []) [0] [] [0] (by decide)) hK hP hD) rfl rfl hl.1 rfl (lv_room (Nat.le_of_ble_eq_true rfl)) dX5_go_136 ⟨Nat.le_refl _, Nat.le_refl _⟩) (pmC (f := fun i => ([gR cA aR (upd rI 10 ((rI 10) + (1 : Int32))) rA rG] : List va_W).getD i []) [0] [] [0] (by decide)) hP hD hS hA (pmC (f := fun i => ([gR cA aR (upd rI 10 ((rI 10) + (1 : Int32))) rA rG] : List va_W).getD i []) [0] [] [0] (by decide)) (fun H locs hP hD hS => ?_)
    refine lv_if_ne (tgt := 170) hx hb dX5_go_139 (by decide) (fun c80 => ?_) (fun c80 => ?_)
    · replace h := og_neg c80 h
      exact b170 _ _ _ _ hr61 _ _ _ _ _ _ _ _ _ _ _ h hP hD hS (lv_sub hl [5, 6, 7, 8, 9, 4, 3, 2, 1, 0] rfl)
    · replace h := og_pos c80 h
      refine lv_iload hx hb dX5_go_142 (lv_at hl 4 rfl) ?_
      refine lv_bipush (v := (25 : Int32)) hx hb dX5_go_144 (by decide) ?_
      refine lv_icmp_eq (tgt := 170) hx hb dX5_go_146 (by decide) (fun c81 => ?_) (fun c81 => ?_)
      · replace h := og_pos c81 h
        exact b170 _ _ _ _ hr61 _ _ _ _ _ _ _ _ _ _ _ h hP hD hS (lv_sub hl [5, 6, 7, 8, 9, 4, 3, 2, 1, 0] rfl)
      · replace h := og_neg c81 h
        refine lv_iload hx hb dX5_go_149 (lv_at hl 4 rfl) ?_
        refine lv_bipush (v := (26 : Int32)) hx hb dX5_go_151 (by decide) ?_
        refine lv_icmp_eq (tgt := 170) hx hb dX5_go_153 (by decide) (fun c82 => ?_) (fun c82 => ?_)
        · replace h := og_pos c82 h
          exact b170 _ _ _ _ hr61 _ _ _ _ _ _ _ _ _ _ _ h hP hD hS (lv_sub hl [5, 6, 7, 8, 9, 4, 3, 2, 1, 0] rfl)
        · replace h := og_neg c82 h
          refine lv_iload hx hb dX5_go_156 (lv_at hl 4 rfl) ?_
          refine lv_bipush (v := (27 : Int32)) hx hb dX5_go_158 (by decide) ?_
          refine lv_icmp_eq (tgt := 170) hx hb dX5_go_160 (by decide) (fun c83 => ?_) (fun c83 => ?_)
          · replace h := og_pos c83 h
            exact b170 _ _ _ _ hr61 _ _ _ _ _ _ _ _ _ _ _ h hP hD hS (lv_sub hl [5, 6, 7, 8, 9, 4, 3, 2, 1, 0] rfl)
          · replace h := og_neg c83 h
            refine lv_iload hx hb dX5_go_163 (lv_at hl 4 rfl) ?_
            refine lv_bipush (v := (29 : Int32)) hx hb dX5_go_165 (by decide) ?_
            refine lv_icmp_ne (tgt := 174) hx hb dX5_go_167 (by decide) (fun c84 => ?_) (fun c84 => ?_)
            · replace h := og_neg c84 h
              refine lv_iconst (v := (0 : Int32)) hx hb dX5_go_174 (by decide) ?_
              exact b175 _ _ _ _ hr61 _ _ _ _ _ _ _ _ _ _ _ _ h hP hD hS (lv_sub hl [5, 6, 7, 8, 9, 4, 3, 2, 1, 0] rfl)
            · replace h := og_pos c84 h
              exact b170 _ _ _ _ hr61 _ _ _ _ _ _ _ _ _ _ _ h hP hD hS (lv_sub hl [5, 6, 7, 8, 9, 4, 3, 2, 1, 0] rfl)
  have b61 : ∀ (x1 : Int32) (x2 : Nat) (x3 : Int32) (nn : Nat), ∀ (x4 : Int32) (rI : Nat → Int32) (rA : Nat → Nat → Int32) (H : Heap) (locs : List Loc) (ls : Array Slot), lp (f_X5_go1_l61 n K x1 x2 x3 rR) nn (x4, rI, rA) = some R → va_P D vwCl (wl [gR cA aR rI rA rG] ++ gG cA K rR) H → va_D A (wl [gR cA aR rI rA rG] ++ gG cA K rR) → va_S A s.heap H locs → lv_has ls 14 [(0, .ref (aR 0)), (1, .int x1), (2, .ref x2), (3, .int x3), (4, .int x4)] → W p l e (headSpec (wsU yX5_go cX5_go 14 none) ({ frames := 2, cells := 0, slots := 0, locals := 43 })).room s m ([.ref (aR 0), .int u1, .ref u2, .int u3] : List Value).toArray below meth c H locs 0 0 (MQ below (QV D (fun u : (Nat → Int32) × (Nat → Nat → Int32) => (wl [gR cA aR u.1 u.2 rG] ++ gG cA K rR)) R A) ([.ref (aR 0), .int u1, .ref u2, .int u3] : List Value).toArray s 0 0 A) (F0 m 61 ls []) := by
    intro x1 x2 x3 nn
    induction nn with
    | zero =>
      intro x4 rI rA H locs ls h hP hD hS hl
      exact (lp_zero h).elim
    | succ nn hr61 =>
      intro x4 rI rA H locs ls h hP hD hS hl
      rw [lp_succ] at h
      unfold f_X5_go1_l61 at h
      try dsimp only at h
      refine lv_iload hx hb dX5_go_61 (lv_at hl 4 rfl) ?_
      refine lv_aload_n hx hb dX5_go_63 rfl (lv_at hl 0 rfl) ?_
      refine va_get (D := D) (C := RX5) (T := TX5) (N := 40) hx hb hT inlX5 hown hK.1 hP 0 rfl rfl 3 (by decide) (hT _ fl_RX5_93) (fun _ h9 => h9) rfl dX5_go_64 ?_
      refine lv_icmp_ge (tgt := 768) hx hb dX5_go_67 (by decide) (fun c85 => ?_) (fun c85 => ?_)
      · replace h := og_pos c85 h
        exact b768  _ _ _ _ _ h hP hD hS (lv_sub hl [0] rfl)
      · replace h := og_neg c85 h
        refine lv_iload_n hx hb dX5_go_70 rfl (lv_at hl 3 rfl) ?_
        refine lv_if_eq (tgt := 82) hx hb dX5_go_71 (by decide) (fun c86 => ?_) (fun c86 => ?_)
        · replace h := og_pos c86 h
          exact b82 _ _ _ _ hr61 _ _ _ _ _ _ h hP hD hS (lv_sub hl [0, 1, 2, 3, 4] rfl)
        · replace h := og_neg c86 h
          refine lv_aload_n hx hb dX5_go_74 rfl (lv_at hl 0 rfl) ?_
          refine va_get (D := D) (C := RX5) (T := TX5) (N := 40) hx hb hT inlX5 hown hK.1 hP 0 rfl rfl 21 (by decide) (hT _ fl_RX5_59) (fun _ h9 => h9) rfl dX5_go_75 ?_
          refine lv_iload hx hb dX5_go_78 (lv_at hl 4 rfl) ?_
          refine lv_iconst (v := (1 : Int32)) hx hb dX5_go_80 (by decide) ?_
          obtain ⟨g87, h⟩ := og_guard h
          refine va_zast hx hb hK.1 hP hD hS 15 1 rfl rfl (inb_vp g87) dX5_go_81 (fun H locs hP hD hS => ?_)
          have hP : va_P D vwCl (wl [gR cA aR rI (up2 rA 13 x4.toNatClampNeg (vp_nar .boolean (1 : Int32))) rG] ++ gG cA K rR) H := hP
          have hD : va_D A (wl [gR cA aR rI (up2 rA 13 x4.toNatClampNeg (vp_nar .boolean (1 : Int32))) rG] ++ gG cA K rR) := hD
          exact b82 _ _ _ _ hr61 _ _ _ _ _ _ h hP hD hS (lv_sub hl [0, 1, 2, 3, 4] rfl)
  have b48 : ∀ (x1 : Int32) (x2 : Nat) (x3 : Int32) (rI : Nat → Int32) (rA : Nat → Nat → Int32) (H : Heap) (locs : List Loc) (ls : Array Slot), f_X5_go1_b48 n K x1 x2 x3 rI rA rR = some R → va_P D vwCl (wl [gR cA aR rI rA rG] ++ gG cA K rR) H → va_D A (wl [gR cA aR rI rA rG] ++ gG cA K rR) → va_S A s.heap H locs → lv_has ls 14 [(0, .ref (aR 0)), (1, .int x1), (2, .ref x2), (3, .int x3)] → W p l e (headSpec (wsU yX5_go cX5_go 14 none) ({ frames := 2, cells := 0, slots := 0, locals := 43 })).room s m ([.ref (aR 0), .int u1, .ref u2, .int u3] : List Value).toArray below meth c H locs 0 0 (MQ below (QV D (fun u : (Nat → Int32) × (Nat → Nat → Int32) => (wl [gR cA aR u.1 u.2 rG] ++ gG cA K rR)) R A) ([.ref (aR 0), .int u1, .ref u2, .int u3] : List Value).toArray s 0 0 A) (F0 m 48 ls []) := by
    intro x1 x2 x3 rI rA H locs ls h hP hD hS hl
    unfold f_X5_go1_b48 at h
    refine lv_aload_n hx hb dX5_go_48 rfl (lv_at hl 0 rfl) ?_
    refine lv_iconst (v := (0 : Int32)) hx hb dX5_go_49 (by decide) ?_
    refine va_put (D := D) (v := .int (0 : Int32)) (ty := .int) (C := RX5) (T := TX5) (N := 40) hx hb hT inlX5 tyX5 tyX5_ok nmX5 hown hK.1 hP hD hS 0 rfl rfl 28 (by decide) (hT _ fl_RX5_145) (fun _ h9 => h9) rfl (by decide +kernel) rfl rfl (Nat.le_of_ble_eq_true rfl) dX5_go_50 (fun H locs hP hD hS => ?_)
    have hP : va_P D vwCl (wl [gR cA aR (upd rI 10 (0 : Int32)) rA rG] ++ gG cA K rR) H := hP
    have hD : va_D A (wl [gR cA aR (upd rI 10 (0 : Int32)) rA rG] ++ gG cA K rR) := hD
    refine lv_aload_n hx hb dX5_go_53 rfl (lv_at hl 0 rfl) ?_
    refine lv_iconst (v := (0 : Int32)) hx hb dX5_go_54 (by decide) ?_
    refine va_put (D := D) (v := .int (0 : Int32)) (ty := .int) (C := RX5) (T := TX5) (N := 40) hx hb hT inlX5 tyX5 tyX5_ok nmX5 hown hK.1 hP hD hS 0 rfl rfl 29 (by decide) (hT _ fl_RX5_148) (fun _ h9 => h9) rfl (by decide +kernel) rfl rfl (Nat.le_of_ble_eq_true rfl) dX5_go_55 (fun H locs hP hD hS => ?_)
    have hP : va_P D vwCl (wl [gR cA aR (upd (upd rI 10 (0 : Int32)) 11 (0 : Int32)) rA rG] ++ gG cA K rR) H := hP
    have hD : va_D A (wl [gR cA aR (upd (upd rI 10 (0 : Int32)) 11 (0 : Int32)) rA rG] ++ gG cA K rR) := hD
    refine lv_iconst (v := (0 : Int32)) hx hb dX5_go_58 (by decide) ?_
    refine lv_istore (lv' := [(4, .int (0 : Int32)), (0, .ref (aR 0)), (1, .int x1), (2, .ref x2), (3, .int x3)]) hx hb dX5_go_59 hl (by decide) rfl (fun ls hl => ?_)
    exact b61  _ _ _ n _ _ _ _ _ _ h hP hD hS (lv_sub hl [1, 2, 3, 4, 0] rfl)
  have b27 : ∀ (x1 : Int32) (x2 : Nat) (x3 : Int32) (rI : Nat → Int32) (nn : Nat), ∀ (x4 : Int32) (rA : Nat → Nat → Int32) (H : Heap) (locs : List Loc) (ls : Array Slot), lp (f_X5_go1_l27 n K x1 x2 x3 rI rR) nn (x4, rA) = some R → va_P D vwCl (wl [gR cA aR rI rA rG] ++ gG cA K rR) H → va_D A (wl [gR cA aR rI rA rG] ++ gG cA K rR) → va_S A s.heap H locs → lv_has ls 14 [(0, .ref (aR 0)), (1, .int x1), (2, .ref x2), (3, .int x3), (4, .int x4)] → W p l e (headSpec (wsU yX5_go cX5_go 14 none) ({ frames := 2, cells := 0, slots := 0, locals := 43 })).room s m ([.ref (aR 0), .int u1, .ref u2, .int u3] : List Value).toArray below meth c H locs 0 0 (MQ below (QV D (fun u : (Nat → Int32) × (Nat → Nat → Int32) => (wl [gR cA aR u.1 u.2 rG] ++ gG cA K rR)) R A) ([.ref (aR 0), .int u1, .ref u2, .int u3] : List Value).toArray s 0 0 A) (F0 m 27 ls []) := by
    intro x1 x2 x3 rI nn
    induction nn with
    | zero =>
      intro x4 rA H locs ls h hP hD hS hl
      exact (lp_zero h).elim
    | succ nn hr27 =>
      intro x4 rA H locs ls h hP hD hS hl
      rw [lp_succ] at h
      unfold f_X5_go1_l27 at h
      try dsimp only at h
      refine lv_iload hx hb dX5_go_27 (lv_at hl 4 rfl) ?_
      refine lv_bipush (v := (8 : Int32)) hx hb dX5_go_29 (by decide) ?_
      refine lv_icmp_ge (tgt := 48) hx hb dX5_go_31 (by decide) (fun c88 => ?_) (fun c88 => ?_)
      · replace h := og_pos c88 h
        exact b48  _ _ _ _ _ _ _ _ h hP hD hS (lv_sub hl [0, 1, 2, 3] rfl)
      · replace h := og_neg c88 h
        refine lv_aload_n hx hb dX5_go_34 rfl (lv_at hl 0 rfl) ?_
        refine va_get (D := D) (C := RX5) (T := TX5) (N := 40) hx hb hT inlX5 hown hK.1 hP 0 rfl rfl 23 (by decide) (hT _ fl_RX5_65) (fun _ h9 => h9) rfl dX5_go_35 ?_
        refine lv_iload hx hb dX5_go_38 (lv_at hl 4 rfl) ?_
        refine lv_iconst (v := (0 : Int32)) hx hb dX5_go_40 (by decide) ?_
        obtain ⟨g89, h⟩ := og_guard h
        refine va_iast hx hb hK.1 hP hD hS 17 0 rfl rfl (inb_vp g89) dX5_go_41 (fun H locs hP hD hS => ?_)
        have hP : va_P D vwCl (wl [gR cA aR rI (up2 rA 15 x4.toNatClampNeg (0 : Int32)) rG] ++ gG cA K rR) H := hP
        have hD : va_D A (wl [gR cA aR rI (up2 rA 15 x4.toNatClampNeg (0 : Int32)) rG] ++ gG cA K rR) := hD
        refine lv_iinc (v := (x4 + 1)) (lv' := [(4, .int (x4 + 1)), (0, .ref (aR 0)), (1, .int x1), (2, .ref x2), (3, .int x3)]) hx hb dX5_go_42 hl (k := 4) rfl rfl (by decide) rfl (fun ls hl => ?_)
        refine lv_goto (tgt := 27) hx hb dX5_go_45 (by decide) ?_
        exact hr27 _ _ _ _ _ h hP hD hS (lv_sub hl [1, 2, 3, 4, 0] rfl)
  have b24 : ∀ (x1 : Int32) (x2 : Nat) (x3 : Int32) (rI : Nat → Int32) (rA : Nat → Nat → Int32) (H : Heap) (locs : List Loc) (ls : Array Slot), f_X5_go1_b24 n K x1 x2 x3 rI rA rR = some R → va_P D vwCl (wl [gR cA aR rI rA rG] ++ gG cA K rR) H → va_D A (wl [gR cA aR rI rA rG] ++ gG cA K rR) → va_S A s.heap H locs → lv_has ls 14 [(0, .ref (aR 0)), (1, .int x1), (2, .ref x2), (3, .int x3)] → W p l e (headSpec (wsU yX5_go cX5_go 14 none) ({ frames := 2, cells := 0, slots := 0, locals := 43 })).room s m ([.ref (aR 0), .int u1, .ref u2, .int u3] : List Value).toArray below meth c H locs 0 0 (MQ below (QV D (fun u : (Nat → Int32) × (Nat → Nat → Int32) => (wl [gR cA aR u.1 u.2 rG] ++ gG cA K rR)) R A) ([.ref (aR 0), .int u1, .ref u2, .int u3] : List Value).toArray s 0 0 A) (F0 m 24 ls []) := by
    intro x1 x2 x3 rI rA H locs ls h hP hD hS hl
    unfold f_X5_go1_b24 at h
    refine lv_iconst (v := (0 : Int32)) hx hb dX5_go_24 (by decide) ?_
    refine lv_istore (lv' := [(4, .int (0 : Int32)), (0, .ref (aR 0)), (1, .int x1), (2, .ref x2), (3, .int x3)]) hx hb dX5_go_25 hl (by decide) rfl (fun ls hl => ?_)
    exact b27  _ _ _ _ n _ _ _ _ _ h hP hD hS (lv_sub hl [1, 2, 3, 4, 0] rfl)
  have b3 : ∀ (x1 : Int32) (x2 : Nat) (x3 : Int32) (rI : Nat → Int32) (nn : Nat), ∀ (x4 : Int32) (rA : Nat → Nat → Int32) (H : Heap) (locs : List Loc) (ls : Array Slot), lp (f_X5_go1_l3 n K x1 x2 x3 rI rR) nn (x4, rA) = some R → va_P D vwCl (wl [gR cA aR rI rA rG] ++ gG cA K rR) H → va_D A (wl [gR cA aR rI rA rG] ++ gG cA K rR) → va_S A s.heap H locs → lv_has ls 14 [(0, .ref (aR 0)), (1, .int x1), (2, .ref x2), (3, .int x3), (4, .int x4)] → W p l e (headSpec (wsU yX5_go cX5_go 14 none) ({ frames := 2, cells := 0, slots := 0, locals := 43 })).room s m ([.ref (aR 0), .int u1, .ref u2, .int u3] : List Value).toArray below meth c H locs 0 0 (MQ below (QV D (fun u : (Nat → Int32) × (Nat → Nat → Int32) => (wl [gR cA aR u.1 u.2 rG] ++ gG cA K rR)) R A) ([.ref (aR 0), .int u1, .ref u2, .int u3] : List Value).toArray s 0 0 A) (F0 m 3 ls []) := by
    intro x1 x2 x3 rI nn
    induction nn with
    | zero =>
      intro x4 rA H locs ls h hP hD hS hl
      exact (lp_zero h).elim
    | succ nn hr3 =>
      intro x4 rA H locs ls h hP hD hS hl
      rw [lp_succ] at h
      unfold f_X5_go1_l3 at h
      try dsimp only at h
      refine lv_iload hx hb dX5_go_3 (lv_at hl 4 rfl) ?_
      refine lv_bipush (v := (16 : Int32)) hx hb dX5_go_5 (by decide) ?_
      refine lv_icmp_ge (tgt := 24) hx hb dX5_go_7 (by decide) (fun c90 => ?_) (fun c90 => ?_)
      · replace h := og_pos c90 h
        exact b24  _ _ _ _ _ _ _ _ h hP hD hS (lv_sub hl [0, 1, 2, 3] rfl)
      · replace h := og_neg c90 h
        refine lv_aload_n hx hb dX5_go_10 rfl (lv_at hl 0 rfl) ?_
        refine va_get (D := D) (C := RX5) (T := TX5) (N := 40) hx hb hT inlX5 hown hK.1 hP 0 rfl rfl 22 (by decide) (hT _ fl_RX5_62) (fun _ h9 => h9) rfl dX5_go_11 ?_
        refine lv_iload hx hb dX5_go_14 (lv_at hl 4 rfl) ?_
        refine lv_iconst (v := (0 : Int32)) hx hb dX5_go_16 (by decide) ?_
        obtain ⟨g91, h⟩ := og_guard h
        refine va_iast hx hb hK.1 hP hD hS 16 0 rfl rfl (inb_vp g91) dX5_go_17 (fun H locs hP hD hS => ?_)
        have hP : va_P D vwCl (wl [gR cA aR rI (up2 rA 14 x4.toNatClampNeg (0 : Int32)) rG] ++ gG cA K rR) H := hP
        have hD : va_D A (wl [gR cA aR rI (up2 rA 14 x4.toNatClampNeg (0 : Int32)) rG] ++ gG cA K rR) := hD
        refine lv_iinc (v := (x4 + 1)) (lv' := [(4, .int (x4 + 1)), (0, .ref (aR 0)), (1, .int x1), (2, .ref x2), (3, .int x3)]) hx hb dX5_go_18 hl (k := 4) rfl rfl (by decide) rfl (fun ls hl => ?_)
        refine lv_goto (tgt := 3) hx hb dX5_go_21 (by decide) ?_
        exact hr3 _ _ _ _ _ h hP hD hS (lv_sub hl [1, 2, 3, 4, 0] rfl)
  unfold f_X5_go1 at h
  refine lv_iconst (v := (0 : Int32)) hx hb dX5_go_0 (by decide) ?_
  refine lv_istore (lv' := [(4, .int (0 : Int32)), (0, .ref (aR 0)), (1, .int u1), (2, .ref u2), (3, .int u3)]) hx hb dX5_go_1 hl (by decide) rfl (fun ls hl => ?_)
  exact b3  _ _ _ _ n _ _ _ _ _ h hP hD hS (lv_sub hl [1, 2, 3, 4, 0] rfl)
