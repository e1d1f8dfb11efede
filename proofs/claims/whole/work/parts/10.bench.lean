set_option maxRecDepth 100000 in
set_option maxHeartbeats 8000000 in
theorem k_X4_forgetFindings (l : Launch) (D : va_G) (cA : Nat → ClassId) (aB : Nat → Nat) (aP : Nat → Nat) (aT : Nat → Nat) (aM : Nat → Nat) (aN : Nat → Nat) (L : List Nat) (sz : Nat) (bI : Nat → Int32) (pI : Nat → Int32) (pA : Nat → Nat → Int32) (tI : Nat → Int32) (tJ : Nat → Int64) (tP : Nat → Option Nat) (tO : Nat → Int64) (tR : Nat → Int32) (mI : Nat → Int32) (mJ : Nat → Int64) (mA : Nat → Nat → Int32) (nI : Nat → Int32) (nJ : Nat → Int64) (nA : Nat → Nat → Int32) (qI : Nat → Nat → Int32) (qJ : Nat → Nat → Int64) (R : (Nat → Int32) × (Nat → Int32) × (Nat → Int64)) (h : f_X4_forgetFindings L bI tI tJ = some R) : Met l yX4_forgetFindings (wsU yX4_forgetFindings cX4_forgetFindings 1 none) ({ frames := 1, cells := 0, slots := 0, locals := 20 }) (PcW D cA (wl [gB aB aP aT aM aN bI, gP cA aP pI pA, gT cA aT tI tJ tP tO tR, gM cA aM mI mJ mA, gM cA aN nI nJ nA] ++ gQ L qI qJ) sz [.ref (aB 0)]) (QV D (fun u : (Nat → Int32) × (Nat → Int32) × (Nat → Int64) => (wl [gB aB aP aT aM aN u.1, gP cA aP pI pA, gT cA aT u.2.1 u.2.2 tP tO tR, gM cA aM mI mJ mA, gM cA aN nI nJ nA] ++ gQ L qI qJ)) R (va_A (wl [gB aB aP aT aM aN bI, gP cA aP pI pA, gT cA aT tI tJ tP tO tR, gM cA aM mI mJ mA, gM cA aN nI nJ nA] ++ gQ L qI qJ) sz)) 0 0 (va_A (wl [gB aB aP aT aM aN bI, gP cA aP pI pA, gT cA aT tI tJ tP tO tR, gM cA aM mI mJ mA, gM cA aN nI nJ nA] ++ gQ L qI qJ) sz) := by
  refine Met.ofW (cc := cX4_forgetFindings) (maxL := 1) (ret := none) (by decide) rfl ?_
  intro p e s m args below meth c s₁ B hml hv
  obtain ⟨rfl, hsz, hP, hK, hD0⟩ := hv
  have hx := B.exec
  have hb := B.bytes
  have hr := B.returns
  have hts := atoms_spec (ws := (wsU yX4_forgetFindings cX4_forgetFindings 1 none)) B.pre
  have hT : ∀ w ∈ wsL_law, w.before ([.ref (aB 0)] : List Value).toArray s = true := fun w h => hts w (List.mem_cons_of_mem _ h)
  have hown : s.vm.findClass RX4 = some m.cls := findClass_of_methodNamed B.named
  have hlocks := B.notSynchronized
  have hN := hK.2
  subst hsz
  have hD := hD0.self (sz := s.heap.size)
  generalize hAe : va_A (wl [gB aB aP aT aM aN bI, gP cA aP pI pA, gT cA aT tI tJ tP tO tR, gM cA aM mI mJ mA, gM cA aN nI nJ nA] ++ gQ L qI qJ) s.heap.size = A at hD ⊢
  have hA : ∀ q : Nat, s.heap.size ≤ q → A q := fun q h => by rw [← hAe]; exact Or.inr h
  have hS : va_S A s.heap s.heap [] := va_S.rf
  have hl := lv_entry ([.ref (aB 0)]) (n := 1) (Nat.le_of_ble_eq_true rfl)
  rw [lg_entry_eq]
  generalize (lg_sl ([.ref (aB 0)]) ++ List.replicate (1 - (lg_sl ([.ref (aB 0)])).length) Slot.unset).toArray = ls at hl ⊢
  have hl : lv_has ls 1 [(0, .ref (aB 0))] := hl
  unfold f_X4_forgetFindings at h
  refine lv_aload_n hx hb dX4_forgetFindings_0 rfl (lv_at hl 0 rfl) ?_
  refine va_get (D := D) (C := RX4) (T := TX4) (N := 6) hx hb hT inlX4 hown hK.1 hP 0 rfl rfl 1 (by decide) (hT _ fl_RX4_19) (fun _ h9 => h9) rfl dX4_forgetFindings_1 ?_
  obtain ⟨⟨tI1, tJ1⟩, e1, h⟩ := og_bind h
  try dsimp only at h
  refine gc_v (ws := (wl [gB aB aP aT aM aN bI, gP cA aP pI pA, gT cA aT tI tJ tP tO tR, gM cA aM mI mJ mA, gM cA aN nI nJ nA] ++ gQ L qI qJ)) (wc := (wl [gT cA aT tI tJ tP tO tR])) (wr := (wl [gB aB aP aT aM aN bI, gP cA aP pI pA, gM cA aM mI mJ mA, gM cA aN nI nJ nA] ++ gQ L qI qJ)) (ws' := (wl [gB aB aP aT aM aN bI, gP cA aP pI pA, gT cA aT tI1 tJ1 tP tO tR, gM cA aM mI mJ mA, gM cA aN nI nJ nA] ++ gQ L qI qJ)) (va_runV (As := []) (rest := []) ⟨hx, hb, hml, hown, hT⟩ (k_X0_forget l D cA aT s.heap.size  tI tJ tP tO tR _ e1) (cwV 0 hT gv_RX4_172 rfl rfl rfl (by decide +kernel) ⟨Nat.le_of_ble_eq_true rfl, Nat.le_of_ble_eq_true rfl⟩) (pre_V (ci := 0) (q0 := 0) (wr := (wl [gB aB aP aT aM aN bI, gP cA aP pI pA, gM cA aM mI mJ mA, gM cA aN nI nJ nA] ++ gQ L qI qJ)) (pmC (f := fun i => ([gB aB aP aT aM aN bI, gP cA aP pI pA, gT cA aT tI tJ tP tO tR, gM cA aM mI mJ mA, gM cA aN nI nJ nA] : List va_W).getD i []) [0, 1, 2, 3, 4] [2] [0, 1, 3, 4] (by decide)) hK hP hD rfl rfl) rfl rfl hl.1 rfl (lv_room (Nat.le_of_ble_eq_true rfl)) dX4_forgetFindings_4 ⟨Nat.le_refl _, Nat.le_refl _⟩) (pmC (f := fun i => ([gB aB aP aT aM aN bI, gP cA aP pI pA, gT cA aT tI tJ tP tO tR, gM cA aM mI mJ mA, gM cA aN nI nJ nA] : List va_W).getD i []) [0, 1, 2, 3, 4] [2] [0, 1, 3, 4] (by decide)) hP hD hS hA (pmC (f := fun i => ([gB aB aP aT aM aN bI, gP cA aP pI pA, gT cA aT tI1 tJ1 tP tO tR, gM cA aM mI mJ mA, gM cA aN nI nJ nA] : List va_W).getD i []) [0, 1, 2, 3, 4] [2] [0, 1, 3, 4] (by decide)) (fun H locs hP hD hS => ?_)
  refine lv_aload_n hx hb dX4_forgetFindings_7 rfl (lv_at hl 0 rfl) ?_
  refine lv_iconst (v := (1 : Int32)) hx hb dX4_forgetFindings_8 (by decide) ?_
  refine va_put (D := D) (v := .int (1 : Int32)) (ty := .boolean) (C := RX4) (T := TX4) (N := 6) hx hb hT inlX4 tyX4 tyX4_ok nmX4 hown hK.1 hP hD hS 0 rfl rfl 5 (by decide) (hT _ fl_RX4_131) (fun _ h9 => h9) rfl (by decide +kernel) (by decide +kernel) (by decide +kernel) (Nat.le_of_ble_eq_true rfl) dX4_forgetFindings_9 (fun H locs hP hD hS => ?_)
  have hP : va_P D vwCl (wl [gB aB aP aT aM aN (upd bI 1 (1 : Int32)), gP cA aP pI pA, gT cA aT tI1 tJ1 tP tO tR, gM cA aM mI mJ mA, gM cA aN nI nJ nA] ++ gQ L qI qJ) H := hP
  have hD : va_D A (wl [gB aB aP aT aM aN (upd bI 1 (1 : Int32)), gP cA aP pI pA, gT cA aT tI1 tJ1 tP tO tR, gM cA aM mI mJ mA, gM cA aN nI nJ nA] ++ gQ L qI qJ) := hD
  exact W.vret hx hb hr (fun t ht hW => ⟨⟨((upd bI 1 (1 : Int32)), tI1, tJ1), rfl, (og_inj h).symm, (by rw [ht]; exact hP), hD⟩, hS.F ht⟩) hS.2.2 dX4_forgetFindings_12
set_option maxRecDepth 100000 in
set_option maxHeartbeats 8000000 in
theorem k_X4_input (l : Launch) (D : va_G) (cA : Nat → ClassId) (aB : Nat → Nat) (aP : Nat → Nat) (aT : Nat → Nat) (aM : Nat → Nat) (aN : Nat → Nat) (L : List Nat) (sz : Nat) (u1 : Int32) (u2 : Int32) (bI : Nat → Int32) (pI : Nat → Int32) (pA : Nat → Nat → Int32) (tI : Nat → Int32) (tJ : Nat → Int64) (tP : Nat → Option Nat) (tO : Nat → Int64) (tR : Nat → Int32) (mI : Nat → Int32) (mJ : Nat → Int64) (mA : Nat → Nat → Int32) (nI : Nat → Int32) (nJ : Nat → Int64) (nA : Nat → Nat → Int32) (qI : Nat → Nat → Int32) (qJ : Nat → Nat → Int64) (R : Int32 × (Nat → Int32) × (Nat → Int32) × (Nat → Nat → Int32) × (Nat → Int32) × (Nat → Int64)) (h : f_X4_input L u1 u2 bI pI pA tI tJ = some R) : Met l yX4_input (wsU yX4_input cX4_input 4 (some .int)) ({ frames := 2, cells := 0, slots := 0, locals := 40 }) (PcW D cA (wl [gB aB aP aT aM aN bI, gP cA aP pI pA, gT cA aT tI tJ tP tO tR, gM cA aM mI mJ mA, gM cA aN nI nJ nA] ++ gQ L qI qJ) sz [.ref (aB 0), .int u1, .int u2]) (QI D (fun u : (Nat → Int32) × (Nat → Int32) × (Nat → Nat → Int32) × (Nat → Int32) × (Nat → Int64) => (wl [gB aB aP aT aM aN u.1, gP cA aP u.2.1 u.2.2.1, gT cA aT u.2.2.2.1 u.2.2.2.2 tP tO tR, gM cA aM mI mJ mA, gM cA aN nI nJ nA] ++ gQ L qI qJ)) R (va_A (wl [gB aB aP aT aM aN bI, gP cA aP pI pA, gT cA aT tI tJ tP tO tR, gM cA aM mI mJ mA, gM cA aN nI nJ nA] ++ gQ L qI qJ) sz)) 0 0 (va_A (wl [gB aB aP aT aM aN bI, gP cA aP pI pA, gT cA aT tI tJ tP tO tR, gM cA aM mI mJ mA, gM cA aN nI nJ nA] ++ gQ L qI qJ) sz) := by
  refine Met.ofW (cc := cX4_input) (maxL := 4) (ret := (some .int)) (by decide) rfl ?_
  intro p e s m args below meth c s₁ B hml hv
  obtain ⟨rfl, hsz, hP, hK, hD0⟩ := hv
  have hx := B.exec
  have hb := B.bytes
  have hr := B.returns
  have hts := atoms_spec (ws := (wsU yX4_input cX4_input 4 (some .int))) B.pre
  have hT : ∀ w ∈ wsL_law, w.before ([.ref (aB 0), .int u1, .int u2] : List Value).toArray s = true := fun w h => hts w (List.mem_cons_of_mem _ h)
  have hown : s.vm.findClass RX4 = some m.cls := findClass_of_methodNamed B.named
  have hlocks := B.notSynchronized
  have hN := hK.2
  subst hsz
  have hD := hD0.self (sz := s.heap.size)
  generalize hAe : va_A (wl [gB aB aP aT aM aN bI, gP cA aP pI pA, gT cA aT tI tJ tP tO tR, gM cA aM mI mJ mA, gM cA aN nI nJ nA] ++ gQ L qI qJ) s.heap.size = A at hD ⊢
  have hA : ∀ q : Nat, s.heap.size ≤ q → A q := fun q h => by rw [← hAe]; exact Or.inr h
  have hS : va_S A s.heap s.heap [] := va_S.rf
  have hl := lv_entry ([.ref (aB 0), .int u1, .int u2]) (n := 4) (Nat.le_of_ble_eq_true rfl)
  rw [lg_entry_eq]
  generalize (lg_sl ([.ref (aB 0), .int u1, .int u2]) ++ List.replicate (4 - (lg_sl ([.ref (aB 0), .int u1, .int u2])).length) Slot.unset).toArray = ls at hl ⊢
  have hl : lv_has ls 4 [(0, .ref (aB 0)), (1, .int u1), (2, .int u2)] := hl
  unfold f_X4_input at h
  refine lv_aload_n hx hb dX4_input_0 rfl (lv_at hl 0 rfl) ?_
  refine va_get (D := D) (C := RX4) (T := TX4) (N := 6) hx hb hT inlX4 hown hK.1 hP 0 rfl rfl 0 (by decide) (hT _ fl_RX4_12) (fun _ h9 => h9) rfl dX4_input_1 ?_
  refine lv_iload_n hx hb dX4_input_4 rfl (lv_at hl 1 rfl) ?_
  refine lv_iload_n hx hb dX4_input_5 rfl (lv_at hl 2 rfl) ?_
  obtain ⟨⟨r1, pI1, pA1⟩, e1, h⟩ := og_bind h
  try dsimp only at h
  refine gc_i (ws := (wl [gB aB aP aT aM aN bI, gP cA aP pI pA, gT cA aT tI tJ tP tO tR, gM cA aM mI mJ mA, gM cA aN nI nJ nA] ++ gQ L qI qJ)) (wc := (wl [gP cA aP pI pA])) (wr := (wl [gB aB aP aT aM aN bI, gT cA aT tI tJ tP tO tR, gM cA aM mI mJ mA, gM cA aN nI nJ nA] ++ gQ L qI qJ)) (ws' := (wl [gB aB aP aT aM aN bI, gP cA aP pI1 pA1, gT cA aT tI tJ tP tO tR, gM cA aM mI mJ mA, gM cA aN nI nJ nA] ++ gQ L qI qJ)) (va_runV (As := [.int u1, .int u2]) (rest := []) ⟨hx, hb, hml, hown, hT⟩ (k_X3_addInput l D cA aP s.heap.size u1 u2 pI pA _ e1) (cwV 2 hT gv_RX4_33 rfl rfl rfl (by decide +kernel) ⟨Nat.le_of_ble_eq_true rfl, Nat.le_of_ble_eq_true rfl⟩) (pre_V (ci := 3) (q0 := 0) (wr := (wl [gB aB aP aT aM aN bI, gT cA aT tI tJ tP tO tR, gM cA aM mI mJ mA, gM cA aN nI nJ nA] ++ gQ L qI qJ)) (pmC (f := fun i => ([gB aB aP aT aM aN bI, gP cA aP pI pA, gT cA aT tI tJ tP tO tR, gM cA aM mI mJ mA, gM cA aN nI nJ nA] : List va_W).getD i []) [0, 1, 2, 3, 4] [1] [0, 2, 3, 4] (by decide)) hK hP hD rfl rfl) rfl rfl hl.1 rfl (lv_room (Nat.le_of_ble_eq_true rfl)) dX4_input_6 ⟨Nat.le_refl _, Nat.le_refl _⟩) (pmC (f := fun i => ([gB aB aP aT aM aN bI, gP cA aP pI pA, gT cA aT tI tJ tP tO tR, gM cA aM mI mJ mA, gM cA aN nI nJ nA] : List va_W).getD i []) [0, 1, 2, 3, 4] [1] [0, 2, 3, 4] (by decide)) hP hD hS hA (pmC (f := fun i => ([gB aB aP aT aM aN bI, gP cA aP pI1 pA1, gT cA aT tI tJ tP tO tR, gM cA aM mI mJ mA, gM cA aN nI nJ nA] : List va_W).getD i []) [0, 1, 2, 3, 4] [1] [0, 2, 3, 4] (by decide)) (fun H locs hP hD hS => ?_)
  refine lv_istore_n (lv' := [(3, .int r1), (0, .ref (aB 0)), (1, .int u1), (2, .int u2)]) hx hb dX4_input_9 rfl hl (by decide) rfl (fun ls hl => ?_)
  refine lv_iload_n hx hb dX4_input_10 rfl (lv_at hl 0 rfl) ?_
  refine lv_iconst (v := (-1 : Int32)) hx hb dX4_input_11 (by decide) ?_
  refine lv_icmp_eq (tgt := 19) hx hb dX4_input_12 (by decide) (fun c2 => ?_) (fun c2 => ?_)
  · replace h := og_pos c2 h
    refine lv_iload_n hx hb dX4_input_19 rfl (lv_at hl 0 rfl) ?_
    exact W.iret (v := r1) hx hb hr (fun t ht hW => ⟨⟨r1, (bI, pI1, pA1, tI, tJ), rfl, ⟨(congrArg Prod.fst (og_inj h)).symm, (congrArg Prod.snd (og_inj h)).symm⟩, (by rw [ht]; exact hP), hD⟩, hS.F ht⟩) hS.2.2 dX4_input_20
  · replace h := og_neg c2 h
    refine lv_aload_n hx hb dX4_input_15 rfl (lv_at hl 1 rfl) ?_
    obtain ⟨⟨bI3, tI3, tJ3⟩, e3, h⟩ := og_bind h
    try dsimp only at h
    refine gc_v (ws := (wl [gB aB aP aT aM aN bI, gP cA aP pI1 pA1, gT cA aT tI tJ tP tO tR, gM cA aM mI mJ mA, gM cA aN nI nJ nA] ++ gQ L qI qJ)) (wc := (wl [gB aB aP aT aM aN bI, gP cA aP pI1 pA1, gT cA aT tI tJ tP tO tR, gM cA aM mI mJ mA, gM cA aN nI nJ nA] ++ gQ L qI qJ)) (wr := (wl ([] : List va_W))) (ws' := (wl [gB aB aP aT aM aN bI3, gP cA aP pI1 pA1, gT cA aT tI3 tJ3 tP tO tR, gM cA aM mI mJ mA, gM cA aN nI nJ nA] ++ gQ L qI qJ)) (va_runV (As := []) (rest := []) ⟨hx, hb, hml, hown, hT⟩ (k_X4_forgetFindings l D cA aB aP aT aM aN L H.size  bI pI1 pA1 tI tJ tP tO tR mI mJ mA nI nJ nA qI qJ _ e3) (cwV 0 hT gv_RX4_37 rfl rfl rfl (by decide +kernel) ⟨Nat.le_of_ble_eq_true rfl, Nat.le_of_ble_eq_true rfl⟩) (pre_V (ci := 4) (q0 := 0) (wr := (wl ([] : List va_W))) (pmB (f := fun i => ([gB aB aP aT aM aN bI, gP cA aP pI1 pA1, gT cA aT tI tJ tP tO tR, gM cA aM mI mJ mA, gM cA aN nI nJ nA] : List va_W).getD i []) [0, 1, 2, 3, 4] [0, 1, 2, 3, 4] [] (by decide)) hK hP hD rfl rfl) rfl rfl hl.1 rfl (lv_room (Nat.le_of_ble_eq_true rfl)) dX4_input_16 ⟨Nat.le_refl _, Nat.le_refl _⟩) (pmB (f := fun i => ([gB aB aP aT aM aN bI, gP cA aP pI1 pA1, gT cA aT tI tJ tP tO tR, gM cA aM mI mJ mA, gM cA aN nI nJ nA] : List va_W).getD i []) [0, 1, 2, 3, 4] [0, 1, 2, 3, 4] [] (by decide)) hP hD hS hA (pmB (f := fun i => ([gB aB aP aT aM aN bI3, gP cA aP pI1 pA1, gT cA aT tI3 tJ3 tP tO tR, gM cA aM mI mJ mA, gM cA aN nI nJ nA] : List va_W).getD i []) [0, 1, 2, 3, 4] [0, 1, 2, 3, 4] [] (by decide)) (fun H locs hP hD hS => ?_)
    refine lv_iload_n hx hb dX4_input_19 rfl (lv_at hl 0 rfl) ?_
    exact W.iret (v := r1) hx hb hr (fun t ht hW => ⟨⟨r1, (bI3, pI1, pA1, tI3, tJ3), rfl, ⟨(congrArg Prod.fst (og_inj h)).symm, (congrArg Prod.snd (og_inj h)).symm⟩, (by rw [ht]; exact hP), hD⟩, hS.F ht⟩) hS.2.2 dX4_input_20
set_option maxRecDepth 100000 in
set_option maxHeartbeats 8000000 in
theorem k_X4_tell (l : Launch) (D : va_G) (cA : Nat → ClassId) (aB : Nat → Nat) (aP : Nat → Nat) (aT : Nat → Nat) (aM : Nat → Nat) (aN : Nat → Nat) (L : List Nat) (sz : Nat) (u1 : Int32) (u2 : Int32) (u3 : Int32) (u4 : Int32) (bI : Nat → Int32) (pI : Nat → Int32) (pA : Nat → Nat → Int32) (tI : Nat → Int32) (tJ : Nat → Int64) (tP : Nat → Option Nat) (tO : Nat → Int64) (tR : Nat → Int32) (mI : Nat → Int32) (mJ : Nat → Int64) (mA : Nat → Nat → Int32) (nI : Nat → Int32) (nJ : Nat → Int64) (nA : Nat → Nat → Int32) (qI : Nat → Nat → Int32) (qJ : Nat → Nat → Int64) (R : Int32 × (Nat → Int32) × (Nat → Int32) × (Nat → Nat → Int32) × (Nat → Int32) × (Nat → Int64)) (h : f_X4_tell L u1 u2 u3 u4 bI pI pA tI tJ = some R) : Met l yX4_tell (wsU yX4_tell cX4_tell 6 (some .int)) ({ frames := 3, cells := 0, slots := 0, locals := 69 }) (PcW D cA (wl [gB aB aP aT aM aN bI, gP cA aP pI pA, gT cA aT tI tJ tP tO tR, gM cA aM mI mJ mA, gM cA aN nI nJ nA] ++ gQ L qI qJ) sz [.ref (aB 0), .int u1, .int u2, .int u3, .int u4]) (QI D (fun u : (Nat → Int32) × (Nat → Int32) × (Nat → Nat → Int32) × (Nat → Int32) × (Nat → Int64) => (wl [gB aB aP aT aM aN u.1, gP cA aP u.2.1 u.2.2.1, gT cA aT u.2.2.2.1 u.2.2.2.2 tP tO tR, gM cA aM mI mJ mA, gM cA aN nI nJ nA] ++ gQ L qI qJ)) R (va_A (wl [gB aB aP aT aM aN bI, gP cA aP pI pA, gT cA aT tI tJ tP tO tR, gM cA aM mI mJ mA, gM cA aN nI nJ nA] ++ gQ L qI qJ) sz)) 0 0 (va_A (wl [gB aB aP aT aM aN bI, gP cA aP pI pA, gT cA aT tI tJ tP tO tR, gM cA aM mI mJ mA, gM cA aN nI nJ nA] ++ gQ L qI qJ) sz) := by
  refine Met.ofW (cc := cX4_tell) (maxL := 6) (ret := (some .int)) (by decide) rfl ?_
  intro p e s m args below meth c s₁ B hml hv
  obtain ⟨rfl, hsz, hP, hK, hD0⟩ := hv
  have hx := B.exec
  have hb := B.bytes
  have hr := B.returns
  have hts := atoms_spec (ws := (wsU yX4_tell cX4_tell 6 (some .int))) B.pre
  have hT : ∀ w ∈ wsL_law, w.before ([.ref (aB 0), .int u1, .int u2, .int u3, .int u4] : List Value).toArray s = true := fun w h => hts w (List.mem_cons_of_mem _ h)
  have hown : s.vm.findClass RX4 = some m.cls := findClass_of_methodNamed B.named
  have hlocks := B.notSynchronized
  have hN := hK.2
  subst hsz
  have hD := hD0.self (sz := s.heap.size)
  generalize hAe : va_A (wl [gB aB aP aT aM aN bI, gP cA aP pI pA, gT cA aT tI tJ tP tO tR, gM cA aM mI mJ mA, gM cA aN nI nJ nA] ++ gQ L qI qJ) s.heap.size = A at hD ⊢
  have hA : ∀ q : Nat, s.heap.size ≤ q → A q := fun q h => by rw [← hAe]; exact Or.inr h
  have hS : va_S A s.heap s.heap [] := va_S.rf
  have hl := lv_entry ([.ref (aB 0), .int u1, .int u2, .int u3, .int u4]) (n := 6) (Nat.le_of_ble_eq_true rfl)
  rw [lg_entry_eq]
  generalize (lg_sl ([.ref (aB 0), .int u1, .int u2, .int u3, .int u4]) ++ List.replicate (6 - (lg_sl ([.ref (aB 0), .int u1, .int u2, .int u3, .int u4])).length) Slot.unset).toArray = ls at hl ⊢
  have hl : lv_has ls 6 [(0, .ref (aB 0)), (1, .int u1), (2, .int u2), (3, .int u3), (4, .int u4)] := hl
  unfold f_X4_tell at h
  refine lv_aload_n hx hb dX4_tell_0 rfl (lv_at hl 0 rfl) ?_
  refine va_get (D := D) (C := RX4) (T := TX4) (N := 6) hx hb hT inlX4 hown hK.1 hP 0 rfl rfl 0 (by decide) (hT _ fl_RX4_12) (fun _ h9 => h9) rfl dX4_tell_1 ?_
  refine lv_iload_n hx hb dX4_tell_4 rfl (lv_at hl 1 rfl) ?_
  refine lv_iload_n hx hb dX4_tell_5 rfl (lv_at hl 2 rfl) ?_
  refine lv_iload_n hx hb dX4_tell_6 rfl (lv_at hl 3 rfl) ?_
  refine lv_iload hx hb dX4_tell_7 (lv_at hl 4 rfl) ?_
  obtain ⟨⟨r1, pI1, pA1⟩, e1, h⟩ := og_bind h
  try dsimp only at h
  refine gc_i (ws := (wl [gB aB aP aT aM aN bI, gP cA aP pI pA, gT cA aT tI tJ tP tO tR, gM cA aM mI mJ mA, gM cA aN nI nJ nA] ++ gQ L qI qJ)) (wc := (wl [gP cA aP pI pA])) (wr := (wl [gB aB aP aT aM aN bI, gT cA aT tI tJ tP tO tR, gM cA aM mI mJ mA, gM cA aN nI nJ nA] ++ gQ L qI qJ)) (ws' := (wl [gB aB aP aT aM aN bI, gP cA aP pI1 pA1, gT cA aT tI tJ tP tO tR, gM cA aM mI mJ mA, gM cA aN nI nJ nA] ++ gQ L qI qJ)) (va_runV (As := [.int u1, .int u2, .int u3, .int u4]) (rest := []) ⟨hx, hb, hml, hown, hT⟩ (k_X3_addInstruction l D cA aP s.heap.size u1 u2 u3 u4 pI pA _ e1) (cwV 4 hT gv_RX4_40 rfl rfl rfl (by decide +kernel) ⟨Nat.le_of_ble_eq_true rfl, Nat.le_of_ble_eq_true rfl⟩) (pre_V (ci := 3) (q0 := 0) (wr := (wl [gB aB aP aT aM aN bI, gT cA aT tI tJ tP tO tR, gM cA aM mI mJ mA, gM cA aN nI nJ nA] ++ gQ L qI qJ)) (pmC (f := fun i => ([gB aB aP aT aM aN bI, gP cA aP pI pA, gT cA aT tI tJ tP tO tR, gM cA aM mI mJ mA, gM cA aN nI nJ nA] : List va_W).getD i []) [0, 1, 2, 3, 4] [1] [0, 2, 3, 4] (by decide)) hK hP hD rfl rfl) rfl rfl hl.1 rfl (lv_room (Nat.le_of_ble_eq_true rfl)) dX4_tell_9 ⟨Nat.le_refl _, Nat.le_refl _⟩) (pmC (f := fun i => ([gB aB aP aT aM aN bI, gP cA aP pI pA, gT cA aT tI tJ tP tO tR, gM cA aM mI mJ mA, gM cA aN nI nJ nA] : List va_W).getD i []) [0, 1, 2, 3, 4] [1] [0, 2, 3, 4] (by decide)) hP hD hS hA (pmC (f := fun i => ([gB aB aP aT aM aN bI, gP cA aP pI1 pA1, gT cA aT tI tJ tP tO tR, gM cA aM mI mJ mA, gM cA aN nI nJ nA] : List va_W).getD i []) [0, 1, 2, 3, 4] [1] [0, 2, 3, 4] (by decide)) (fun H locs hP hD hS => ?_)
  refine lv_istore (lv' := [(5, .int r1), (0, .ref (aB 0)), (1, .int u1), (2, .int u2), (3, .int u3), (4, .int u4)]) hx hb dX4_tell_12 hl (by decide) rfl (fun ls hl => ?_)
  refine lv_iload hx hb dX4_tell_14 (lv_at hl 0 rfl) ?_
  refine lv_iconst (v := (-1 : Int32)) hx hb dX4_tell_16 (by decide) ?_
  refine lv_icmp_eq (tgt := 24) hx hb dX4_tell_17 (by decide) (fun c2 => ?_) (fun c2 => ?_)
  · replace h := og_pos c2 h
    refine lv_iload hx hb dX4_tell_24 (lv_at hl 0 rfl) ?_
    exact W.iret (v := r1) hx hb hr (fun t ht hW => ⟨⟨r1, (bI, pI1, pA1, tI, tJ), rfl, ⟨(congrArg Prod.fst (og_inj h)).symm, (congrArg Prod.snd (og_inj h)).symm⟩, (by rw [ht]; exact hP), hD⟩, hS.F ht⟩) hS.2.2 dX4_tell_26
  · replace h := og_neg c2 h
    refine lv_aload_n hx hb dX4_tell_20 rfl (lv_at hl 1 rfl) ?_
    obtain ⟨⟨bI3, tI3, tJ3⟩, e3, h⟩ := og_bind h
    try dsimp only at h
    refine gc_v (ws := (wl [gB aB aP aT aM aN bI, gP cA aP pI1 pA1, gT cA aT tI tJ tP tO tR, gM cA aM mI mJ mA, gM cA aN nI nJ nA] ++ gQ L qI qJ)) (wc := (wl [gB aB aP aT aM aN bI, gP cA aP pI1 pA1, gT cA aT tI tJ tP tO tR, gM cA aM mI mJ mA, gM cA aN nI nJ nA] ++ gQ L qI qJ)) (wr := (wl ([] : List va_W))) (ws' := (wl [gB aB aP aT aM aN bI3, gP cA aP pI1 pA1, gT cA aT tI3 tJ3 tP tO tR, gM cA aM mI mJ mA, gM cA aN nI nJ nA] ++ gQ L qI qJ)) (va_runV (As := []) (rest := []) ⟨hx, hb, hml, hown, hT⟩ (k_X4_forgetFindings l D cA aB aP aT aM aN L H.size  bI pI1 pA1 tI tJ tP tO tR mI mJ mA nI nJ nA qI qJ _ e3) (cwV 0 hT gv_RX4_37 rfl rfl rfl (by decide +kernel) ⟨Nat.le_of_ble_eq_true rfl, Nat.le_of_ble_eq_true rfl⟩) (pre_V (ci := 4) (q0 := 0) (wr := (wl ([] : List va_W))) (pmB (f := fun i => ([gB aB aP aT aM aN bI, gP cA aP pI1 pA1, gT cA aT tI tJ tP tO tR, gM cA aM mI mJ mA, gM cA aN nI nJ nA] : List va_W).getD i []) [0, 1, 2, 3, 4] [0, 1, 2, 3, 4] [] (by decide)) hK hP hD rfl rfl) rfl rfl hl.1 rfl (lv_room (Nat.le_of_ble_eq_true rfl)) dX4_tell_21 ⟨Nat.le_refl _, Nat.le_refl _⟩) (pmB (f := fun i => ([gB aB aP aT aM aN bI, gP cA aP pI1 pA1, gT cA aT tI tJ tP tO tR, gM cA aM mI mJ mA, gM cA aN nI nJ nA] : List va_W).getD i []) [0, 1, 2, 3, 4] [0, 1, 2, 3, 4] [] (by decide)) hP hD hS hA (pmB (f := fun i => ([gB aB aP aT aM aN bI3, gP cA aP pI1 pA1, gT cA aT tI3 tJ3 tP tO tR, gM cA aM mI mJ mA, gM cA aN nI nJ nA] : List va_W).getD i []) [0, 1, 2, 3, 4] [0, 1, 2, 3, 4] [] (by decide)) (fun H locs hP hD hS => ?_)
    refine lv_iload hx hb dX4_tell_24 (lv_at hl 0 rfl) ?_
    exact W.iret (v := r1) hx hb hr (fun t ht hW => ⟨⟨r1, (bI3, pI1, pA1, tI3, tJ3), rfl, ⟨(congrArg Prod.fst (og_inj h)).symm, (congrArg Prod.snd (og_inj h)).symm⟩, (by rw [ht]; exact hP), hD⟩, hS.F ht⟩) hS.2.2 dX4_tell_26
set_option maxRecDepth 100000 in
set_option maxHeartbeats 8000000 in
theorem k_X4_clear (l : Launch) (D : va_G) (cA : Nat → ClassId) (aB : Nat → Nat) (aP : Nat → Nat) (aT : Nat → Nat) (aM : Nat → Nat) (aN : Nat → Nat) (L : List Nat) (sz : Nat) (bI : Nat → Int32) (pI : Nat → Int32) (pA : Nat → Nat → Int32) (tI : Nat → Int32) (tJ : Nat → Int64) (tP : Nat → Option Nat) (tO : Nat → Int64) (tR : Nat → Int32) (mI : Nat → Int32) (mJ : Nat → Int64) (mA : Nat → Nat → Int32) (nI : Nat → Int32) (nJ : Nat → Int64) (nA : Nat → Nat → Int32) (qI : Nat → Nat → Int32) (qJ : Nat → Nat → Int64) (R : Int32 × (Nat → Int32) × (Nat → Int32) × (Nat → Int32) × (Nat → Int64)) (h : f_X4_clear L bI pI tI tJ = some R) : Met l yX4_clear (wsU yX4_clear cX4_clear 2 (some .int)) ({ frames := 2, cells := 0, slots := 0, locals := 40 }) (PcW D cA (wl [gB aB aP aT aM aN bI, gP cA aP pI pA, gT cA aT tI tJ tP tO tR, gM cA aM mI mJ mA, gM cA aN nI nJ nA] ++ gQ L qI qJ) sz [.ref (aB 0)]) (QI D (fun u : (Nat → Int32) × (Nat → Int32) × (Nat → Int32) × (Nat → Int64) => (wl [gB aB aP aT aM aN u.1, gP cA aP u.2.1 pA, gT cA aT u.2.2.1 u.2.2.2 tP tO tR, gM cA aM mI mJ mA, gM cA aN nI nJ nA] ++ gQ L qI qJ)) R (va_A (wl [gB aB aP aT aM aN bI, gP cA aP pI pA, gT cA aT tI tJ tP tO tR, gM cA aM mI mJ mA, gM cA aN nI nJ nA] ++ gQ L qI qJ) sz)) 0 0 (va_A (wl [gB aB aP aT aM aN bI, gP cA aP pI pA, gT cA aT tI tJ tP tO tR, gM cA aM mI mJ mA, gM cA aN nI nJ nA] ++ gQ L qI qJ) sz) := by
  refine Met.ofW (cc := cX4_clear) (maxL := 2) (ret := (some .int)) (by decide) rfl ?_
  intro p e s m args below meth c s₁ B hml hv
  obtain ⟨rfl, hsz, hP, hK, hD0⟩ := hv
  have hx := B.exec
  have hb := B.bytes
  have hr := B.returns
  have hts := atoms_spec (ws := (wsU yX4_clear cX4_clear 2 (some .int))) B.pre
  have hT : ∀ w ∈ wsL_law, w.before ([.ref (aB 0)] : List Value).toArray s = true := fun w h => hts w (List.mem_cons_of_mem _ h)
  have hown : s.vm.findClass RX4 = some m.cls := findClass_of_methodNamed B.named
  have hlocks := B.notSynchronized
  have hN := hK.2
  subst hsz
  have hD := hD0.self (sz := s.heap.size)
  generalize hAe : va_A (wl [gB aB aP aT aM aN bI, gP cA aP pI pA, gT cA aT tI tJ tP tO tR, gM cA aM mI mJ mA, gM cA aN nI nJ nA] ++ gQ L qI qJ) s.heap.size = A at hD ⊢
  have hA : ∀ q : Nat, s.heap.size ≤ q → A q := fun q h => by rw [← hAe]; exact Or.inr h
  have hS : va_S A s.heap s.heap [] := va_S.rf
  have hl := lv_entry ([.ref (aB 0)]) (n := 2) (Nat.le_of_ble_eq_true rfl)
  rw [lg_entry_eq]
  generalize (lg_sl ([.ref (aB 0)]) ++ List.replicate (2 - (lg_sl ([.ref (aB 0)])).length) Slot.unset).toArray = ls at hl ⊢
  have hl : lv_has ls 2 [(0, .ref (aB 0))] := hl
  unfold f_X4_clear at h
  refine lv_aload_n hx hb dX4_clear_0 rfl (lv_at hl 0 rfl) ?_
  refine va_get (D := D) (C := RX4) (T := TX4) (N := 6) hx hb hT inlX4 hown hK.1 hP 0 rfl rfl 0 (by decide) (hT _ fl_RX4_12) (fun _ h9 => h9) rfl dX4_clear_1 ?_
  refine va_getN (D := D) (C := RX3) (T := TX3) (N := 12) hx hb hT inlX3 hown hK.1 hP 1 rfl rfl 9 (by decide) (va_Nw.use rfl (hN _ nl_RX4_44)) (fun _ h9 => h9) rfl dX4_clear_4 ?_
  refine lv_istore_n (lv' := [(1, .int (pI 2)), (0, .ref (aB 0))]) hx hb dX4_clear_7 rfl hl (by decide) rfl (fun ls hl => ?_)
  refine lv_aload_n hx hb dX4_clear_8 rfl (lv_at hl 1 rfl) ?_
  refine va_get (D := D) (C := RX4) (T := TX4) (N := 6) hx hb hT inlX4 hown hK.1 hP 0 rfl rfl 0 (by decide) (hT _ fl_RX4_12) (fun _ h9 => h9) rfl dX4_clear_9 ?_
  obtain ⟨pI1, e1, h⟩ := og_bind h
  refine gc_v (ws := (wl [gB aB aP aT aM aN bI, gP cA aP pI pA, gT cA aT tI tJ tP tO tR, gM cA aM mI mJ mA, gM cA aN nI nJ nA] ++ gQ L qI qJ)) (wc := (wl [gP cA aP pI pA])) (wr := (wl [gB aB aP aT aM aN bI, gT cA aT tI tJ tP tO tR, gM cA aM mI mJ mA, gM cA aN nI nJ nA] ++ gQ L qI qJ)) (ws' := (wl [gB aB aP aT aM aN bI, gP cA aP pI1 pA, gT cA aT tI tJ tP tO tR, gM cA aM mI mJ mA, gM cA aN nI nJ nA] ++ gQ L qI qJ)) (va_runV (As := []) (rest := []) ⟨hx, hb, hml, hown, hT⟩ (k_X3_empty l D cA aP s.heap.size  pI pA _ e1) (cwV 0 hT gv_RX4_48 rfl rfl rfl (by decide +kernel) ⟨Nat.le_of_ble_eq_true rfl, Nat.le_of_ble_eq_true rfl⟩) (pre_V (ci := 3) (q0 := 0) (wr := (wl [gB aB aP aT aM aN bI, gT cA aT tI tJ tP tO tR, gM cA aM mI mJ mA, gM cA aN nI nJ nA] ++ gQ L qI qJ)) (pmC (f := fun i => ([gB aB aP aT aM aN bI, gP cA aP pI pA, gT cA aT tI tJ tP tO tR, gM cA aM mI mJ mA, gM cA aN nI nJ nA] : List va_W).getD i []) [0, 1, 2, 3, 4] [1] [0, 2, 3, 4] (by decide)) hK hP hD rfl rfl) rfl rfl hl.1 rfl (lv_room (Nat.le_of_ble_eq_true rfl)) dX4_clear_12 ⟨Nat.le_refl _, Nat.le_refl _⟩) (pmC (f := fun i => ([gB aB aP aT aM aN bI, gP cA aP pI pA, gT cA aT tI tJ tP tO tR, gM cA aM mI mJ mA, gM cA aN nI nJ nA] : List va_W).getD i []) [0, 1, 2, 3, 4] [1] [0, 2, 3, 4] (by decide)) hP hD hS hA (pmC (f := fun i => ([gB aB aP aT aM aN bI, gP cA aP pI1 pA, gT cA aT tI tJ tP tO tR, gM cA aM mI mJ mA, gM cA aN nI nJ nA] : List va_W).getD i []) [0, 1, 2, 3, 4] [1] [0, 2, 3, 4] (by decide)) (fun H locs hP hD hS => ?_)
  refine lv_aload_n hx hb dX4_clear_15 rfl (lv_at hl 1 rfl) ?_
  obtain ⟨⟨bI2, tI2, tJ2⟩, e2, h⟩ := og_bind h
  try dsimp only at h
  refine gc_v (ws := (wl [gB aB aP aT aM aN bI, gP cA aP pI1 pA, gT cA aT tI tJ tP tO tR, gM cA aM mI mJ mA, gM cA aN nI nJ nA] ++ gQ L qI qJ)) (wc := (wl [gB aB aP aT aM aN bI, gP cA aP pI1 pA, gT cA aT tI tJ tP tO tR, gM cA aM mI mJ mA, gM cA aN nI nJ nA] ++ gQ L qI qJ)) (wr := (wl ([] : List va_W))) (ws' := (wl [gB aB aP aT aM aN bI2, gP cA aP pI1 pA, gT cA aT tI2 tJ2 tP tO tR, gM cA aM mI mJ mA, gM cA aN nI nJ nA] ++ gQ L qI qJ)) (va_runV (As := []) (rest := []) ⟨hx, hb, hml, hown, hT⟩ (k_X4_forgetFindings l D cA aB aP aT aM aN L H.size  bI pI1 pA tI tJ tP tO tR mI mJ mA nI nJ nA qI qJ _ e2) (cwV 0 hT gv_RX4_37 rfl rfl rfl (by decide +kernel) ⟨Nat.le_of_ble_eq_true rfl, Nat.le_of_ble_eq_true rfl⟩) (pre_V (ci := 4) (q0 := 0) (wr := (wl ([] : List va_W))) (pmB (f := fun i => ([gB aB aP aT aM aN bI, gP cA aP pI1 pA, gT cA aT tI tJ tP tO tR, gM cA aM mI mJ mA, gM cA aN nI nJ nA] : List va_W).getD i []) [0, 1, 2, 3, 4] [0, 1, 2, 3, 4] [] (by decide)) hK hP hD rfl rfl) rfl rfl hl.1 rfl (lv_room (Nat.le_of_ble_eq_true rfl)) dX4_clear_16 ⟨Nat.le_refl _, Nat.le_refl _⟩) (pmB (f := fun i => ([gB aB aP aT aM aN bI, gP cA aP pI1 pA, gT cA aT tI tJ tP tO tR, gM cA aM mI mJ mA, gM cA aN nI nJ nA] : List va_W).getD i []) [0, 1, 2, 3, 4] [0, 1, 2, 3, 4] [] (by decide)) hP hD hS hA (pmB (f := fun i => ([gB aB aP aT aM aN bI2, gP cA aP pI1 pA, gT cA aT tI2 tJ2 tP tO tR, gM cA aM mI mJ mA, gM cA aN nI nJ nA] : List va_W).getD i []) [0, 1, 2, 3, 4] [0, 1, 2, 3, 4] [] (by decide)) (fun H locs hP hD hS => ?_)
  refine lv_aload_n hx hb dX4_clear_19 rfl (lv_at hl 1 rfl) ?_
  refine lv_iconst (v := (0 : Int32)) hx hb dX4_clear_20 (by decide) ?_
  refine va_put (D := D) (v := .int (0 : Int32)) (ty := .boolean) (C := RX4) (T := TX4) (N := 6) hx hb hT inlX4 tyX4 tyX4_ok nmX4 hown hK.1 hP hD hS 0 rfl rfl 4 (by decide) (hT _ fl_RX4_51) (fun _ h9 => h9) rfl (by decide +kernel) (by decide +kernel) (by decide +kernel) (Nat.le_of_ble_eq_true rfl) dX4_clear_21 (fun H locs hP hD hS => ?_)
  have hP : va_P D vwCl (wl [gB aB aP aT aM aN (upd bI2 0 (0 : Int32)), gP cA aP pI1 pA, gT cA aT tI2 tJ2 tP tO tR, gM cA aM mI mJ mA, gM cA aN nI nJ nA] ++ gQ L qI qJ) H := hP
  have hD : va_D A (wl [gB aB aP aT aM aN (upd bI2 0 (0 : Int32)), gP cA aP pI1 pA, gT cA aT tI2 tJ2 tP tO tR, gM cA aM mI mJ mA, gM cA aN nI nJ nA] ++ gQ L qI qJ) := hD
  refine lv_iload_n hx hb dX4_clear_24 rfl (lv_at hl 0 rfl) ?_
  exact W.iret (v := (pI 2)) hx hb hr (fun t ht hW => ⟨⟨(pI 2), ((upd bI2 0 (0 : Int32)), pI1, tI2, tJ2), rfl, ⟨(congrArg Prod.fst (og_inj h)).symm, (congrArg Prod.snd (og_inj h)).symm⟩, (by rw [ht]; exact hP), hD⟩, hS.F ht⟩) hS.2.2 dX4_clear_25
set_option maxRecDepth 100000 in
set_option maxHeartbeats 8000000 in
theorem k_X4_explore (l : Launch) (D : va_G) (cA : Nat → ClassId) (aB : Nat → Nat) (aP : Nat → Nat) (aT : Nat → Nat) (aM : Nat → Nat) (aN : Nat → Nat) (L : List Nat) (sz : Nat) (n : Nat) (bI : Nat → Int32) (pI : Nat → Int32) (pA : Nat → Nat → Int32) (tI : Nat → Int32) (tJ : Nat → Int64) (tP : Nat → Option Nat) (tO : Nat → Int64) (tR : Nat → Int32) (mI : Nat → Int32) (mJ : Nat → Int64) (mA : Nat → Nat → Int32) (nI : Nat → Int32) (nJ : Nat → Int64) (nA : Nat → Nat → Int32) (qI : Nat → Nat → Int32) (qJ : Nat → Nat → Int64) (R : Int32 × (Nat → Int32) × (Nat → Int64) × (Nat → Option Nat) × (Nat → Int64) × (Nat → Int32) × (Nat → Int32) × (Nat → Int64) × (Nat → Nat → Int32) × (Nat → Nat → Int32) × (Nat → Nat → Int64)) (h : f_X4_explore n L pI pA tI tJ tP tO tR mI mJ mA qI qJ = some R) : Met l yX4_explore (wsU yX4_explore cX4_explore 1 (some .int)) ({ frames := 6, cells := 0, slots := 0, locals := 141 }) (PcW D cA (wl [gB aB aP aT aM aN bI, gP cA aP pI pA, gT cA aT tI tJ tP tO tR, gM cA aM mI mJ mA, gM cA aN nI nJ nA] ++ gQ L qI qJ) sz [.ref (aB 0)]) (QI D (fun u : (Nat → Int32) × (Nat → Int64) × (Nat → Option Nat) × (Nat → Int64) × (Nat → Int32) × (Nat → Int32) × (Nat → Int64) × (Nat → Nat → Int32) × (Nat → Nat → Int32) × (Nat → Nat → Int64) => (wl [gB aB aP aT aM aN bI, gP cA aP pI pA, gT cA aT u.1 u.2.1 u.2.2.1 u.2.2.2.1 u.2.2.2.2.1, gM cA aM u.2.2.2.2.2.1 u.2.2.2.2.2.2.1 u.2.2.2.2.2.2.2.1, gM cA aN nI nJ nA] ++ gQ L u.2.2.2.2.2.2.2.2.1 u.2.2.2.2.2.2.2.2.2)) R (va_A (wl [gB aB aP aT aM aN bI, gP cA aP pI pA, gT cA aT tI tJ tP tO tR, gM cA aM mI mJ mA, gM cA aN nI nJ nA] ++ gQ L qI qJ) sz)) 0 0 (va_A (wl [gB aB aP aT aM aN bI, gP cA aP pI pA, gT cA aT tI tJ tP tO tR, gM cA aM mI mJ mA, gM cA aN nI nJ nA] ++ gQ L qI qJ) sz) := by
  refine Met.ofW (cc := cX4_explore) (maxL := 1) (ret := (some .int)) (by decide) rfl ?_
  intro p e s m args below meth c s₁ B hml hv
  obtain ⟨rfl, hsz, hP, hK, hD0⟩ := hv
  have hx := B.exec
  have hb := B.bytes
  have hr := B.returns
  have hts := atoms_spec (ws := (wsU yX4_explore cX4_explore 1 (some .int))) B.pre
  have hT : ∀ w ∈ wsL_law, w.before ([.ref (aB 0)] : List Value).toArray s = true := fun w h => hts w (List.mem_cons_of_mem _ h)
  have hown : s.vm.findClass RX4 = some m.cls := findClass_of_methodNamed B.named
  have hlocks := B.notSynchronized
  have hN := hK.2
  subst hsz
  have hD := hD0.self (sz := s.heap.size)
  generalize hAe : va_A (wl [gB aB aP aT aM aN bI, gP cA aP pI pA, gT cA aT tI tJ tP tO tR, gM cA aM mI mJ mA, gM cA aN nI nJ nA] ++ gQ L qI qJ) s.heap.size = A at hD ⊢
  have hA : ∀ q : Nat, s.heap.size ≤ q → A q := fun q h => by rw [← hAe]; exact Or.inr h
  have hS : va_S A s.heap s.heap [] := va_S.rf
  have hl := lv_entry ([.ref (aB 0)]) (n := 1) (Nat.le_of_ble_eq_true rfl)
  rw [lg_entry_eq]
  generalize (lg_sl ([.ref (aB 0)]) ++ List.replicate (1 - (lg_sl ([.ref (aB 0)])).length) Slot.unset).toArray = ls at hl ⊢
  have hl : lv_has ls 1 [(0, .ref (aB 0))] := hl
  have b25 : ∀ (tI : Nat → Int32) (tJ : Nat → Int64) (tP : Nat → Option Nat) (tO : Nat → Int64) (tR : Nat → Int32) (mI : Nat → Int32) (mJ : Nat → Int64) (mA : Nat → Nat → Int32) (qI : Nat → Nat → Int32) (qJ : Nat → Nat → Int64) (H : Heap) (locs : List Loc) (ls : Array Slot), f_X4_explore_b25 n L pI pA tI tJ tP tO tR mI mJ mA qI qJ = some R → va_P D vwCl (wl [gB aB aP aT aM aN bI, gP cA aP pI pA, gT cA aT tI tJ tP tO tR, gM cA aM mI mJ mA, gM cA aN nI nJ nA] ++ gQ L qI qJ) H → va_D A (wl [gB aB aP aT aM aN bI, gP cA aP pI pA, gT cA aT tI tJ tP tO tR, gM cA aM mI mJ mA, gM cA aN nI nJ nA] ++ gQ L qI qJ) → va_S A s.heap H locs → lv_has ls 1 [(0, .ref (aB 0))] → W p l e (headSpec (wsU yX4_explore cX4_explore 1 (some .int)) ({ frames := 6, cells := 0, slots := 0, locals := 141 })).room s m ([.ref (aB 0)] : List Value).toArray below meth c H locs 0 0 (MQ below (QI D (fun u : (Nat → Int32) × (Nat → Int64) × (Nat → Option Nat) × (Nat → Int64) × (Nat → Int32) × (Nat → Int32) × (Nat → Int64) × (Nat → Nat → Int32) × (Nat → Nat → Int32) × (Nat → Nat → Int64) => (wl [gB aB aP aT aM aN bI, gP cA aP pI pA, gT cA aT u.1 u.2.1 u.2.2.1 u.2.2.2.1 u.2.2.2.2.1, gM cA aM u.2.2.2.2.2.1 u.2.2.2.2.2.2.1 u.2.2.2.2.2.2.2.1, gM cA aN nI nJ nA] ++ gQ L u.2.2.2.2.2.2.2.2.1 u.2.2.2.2.2.2.2.2.2)) R A) ([.ref (aB 0)] : List Value).toArray s 0 0 A) (F0 m 25 ls []) := by
    intro tI tJ tP tO tR mI mJ mA qI qJ H locs ls h hP hD hS hl
    unfold f_X4_explore_b25 at h
    refine lv_aload_n hx hb dX4_explore_25 rfl (lv_at hl 0 rfl) ?_
    refine va_get (D := D) (C := RX4) (T := TX4) (N := 6) hx hb hT inlX4 hown hK.1 hP 0 rfl rfl 1 (by decide) (hT _ fl_RX4_19) (fun _ h9 => h9) rfl dX4_explore_26 ?_
    refine lv_aload_n hx hb dX4_explore_29 rfl (lv_at hl 0 rfl) ?_
    refine va_get (D := D) (C := RX4) (T := TX4) (N := 6) hx hb hT inlX4 hown hK.1 hP 0 rfl rfl 1 (by decide) (hT _ fl_RX4_19) (fun _ h9 => h9) rfl dX4_explore_30 ?_
    refine va_getN (D := D) (C := RX0) (T := TX0) (N := 6) hx hb hT inlX0 hown hK.1 hP 9 rfl rfl 3 (by decide) (va_Nw.use rfl (hN _ nl_RX4_63)) (fun _ h9 => h9) rfl dX4_explore_33 ?_
    obtain ⟨⟨r1, _u1⟩, e1, h⟩ := og_bind h
    try dsimp only at h
    refine gc_i (ws := (wl [gB aB aP aT aM aN bI, gP cA aP pI pA, gT cA aT tI tJ tP tO tR, gM cA aM mI mJ mA, gM cA aN nI nJ nA] ++ gQ L qI qJ)) (wc := (wl [gT cA aT tI tJ tP tO tR])) (wr := (wl [gB aB aP aT aM aN bI, gP cA aP pI pA, gM cA aM mI mJ mA, gM cA aN nI nJ nA] ++ gQ L qI qJ)) (ws' := (wl [gB aB aP aT aM aN bI, gP cA aP pI pA, gT cA aT tI tJ tP tO tR, gM cA aM mI mJ mA, gM cA aN nI nJ nA] ++ gQ L qI qJ)) (va_runV (As := [.int (tI 0)]) (rest := []) ⟨hx, hb, hml, hown, hT⟩ (k_X0_knownOrNone l D cA aT H.size (tI 0) tI tJ tP tO tR _ e1) (cwV 1 hT gv_RX4_64 rfl rfl rfl (by decide +kernel) ⟨Nat.le_of_ble_eq_true rfl, Nat.le_of_ble_eq_true rfl⟩) (pre_V (ci := 0) (q0 := 0) (wr := (wl [gB aB aP aT aM aN bI, gP cA aP pI pA, gM cA aM mI mJ mA, gM cA aN nI nJ nA] ++ gQ L qI qJ)) (pmC (f := fun i => ([gB aB aP aT aM aN bI, gP cA aP pI pA, gT cA aT tI tJ tP tO tR, gM cA aM mI mJ mA, gM cA aN nI nJ nA] : List va_W).getD i []) [0, 1, 2, 3, 4] [2] [0, 1, 3, 4] (by decide)) hK hP hD rfl rfl) rfl rfl hl.1 rfl (lv_room (Nat.le_of_ble_eq_true rfl)) dX4_explore_36 ⟨Nat.le_refl _, Nat.le_refl _⟩) (pmC (f := fun i => ([gB aB aP aT aM aN bI, gP cA aP pI pA, gT cA aT tI tJ tP tO tR, gM cA aM mI mJ mA, gM cA aN nI nJ nA] : List va_W).getD i []) [0, 1, 2, 3, 4] [2] [0, 1, 3, 4] (by decide)) hP hD hS hA (pmC (f := fun i => ([gB aB aP aT aM aN bI, gP cA aP pI pA, gT cA aT tI tJ tP tO tR, gM cA aM mI mJ mA, gM cA aN nI nJ nA] : List va_W).getD i []) [0, 1, 2, 3, 4] [2] [0, 1, 3, 4] (by decide)) (fun H locs hP hD hS => ?_)
    exact W.iret (v := r1) hx hb hr (fun t ht hW => ⟨⟨r1, (tI, tJ, tP, tO, tR, mI, mJ, mA, qI, qJ), rfl, ⟨(congrArg Prod.fst (og_inj h)).symm, (congrArg Prod.snd (og_inj h)).symm⟩, (by rw [ht]; exact hP), hD⟩, hS.F ht⟩) hS.2.2 dX4_explore_39
  unfold f_X4_explore at h
  refine lv_aload_n hx hb dX4_explore_0 rfl (lv_at hl 0 rfl) ?_
  refine va_get (D := D) (C := RX4) (T := TX4) (N := 6) hx hb hT inlX4 hown hK.1 hP 0 rfl rfl 1 (by decide) (hT _ fl_RX4_19) (fun _ h9 => h9) rfl dX4_explore_1 ?_
  obtain ⟨⟨r2, _u2⟩, e2, h⟩ := og_bind h
  try dsimp only at h
  refine gc_i (ws := (wl [gB aB aP aT aM aN bI, gP cA aP pI pA, gT cA aT tI tJ tP tO tR, gM cA aM mI mJ mA, gM cA aN nI nJ nA] ++ gQ L qI qJ)) (wc := (wl [gT cA aT tI tJ tP tO tR])) (wr := (wl [gB aB aP aT aM aN bI, gP cA aP pI pA, gM cA aM mI mJ mA, gM cA aN nI nJ nA] ++ gQ L qI qJ)) (ws' := (wl [gB aB aP aT aM aN bI, gP cA aP pI pA, gT cA aT tI tJ tP tO tR, gM cA aM mI mJ mA, gM cA aN nI nJ nA] ++ gQ L qI qJ)) (va_runV (As := []) (rest := []) ⟨hx, hb, hml, hown, hT⟩ (k_X0_isKnown l D cA aT s.heap.size  tI tJ tP tO tR _ e2) (cwV 0 hT gv_RX4_55 rfl rfl rfl (by decide +kernel) ⟨Nat.le_of_ble_eq_true rfl, Nat.le_of_ble_eq_true rfl⟩) (pre_V (ci := 0) (q0 := 0) (wr := (wl [gB aB aP aT aM aN bI, gP cA aP pI pA, gM cA aM mI mJ mA, gM cA aN nI nJ nA] ++ gQ L qI qJ)) (pmC (f := fun i => ([gB aB aP aT aM aN bI, gP cA aP pI pA, gT cA aT tI tJ tP tO tR, gM cA aM mI mJ mA, gM cA aN nI nJ nA] : List va_W).getD i []) [0, 1, 2, 3, 4] [2] [0, 1, 3, 4] (by decide)) hK hP hD rfl rfl) rfl rfl hl.1 rfl (lv_room (Nat.le_of_ble_eq_true rfl)) dX4_explore_4 ⟨Nat.le_refl _, Nat.le_refl _⟩) (pmC (f := fun i => ([gB aB aP aT aM aN bI, gP cA aP pI pA, gT cA aT tI tJ tP tO tR, gM cA aM mI mJ mA, gM cA aN nI nJ nA] : List va_W).getD i []) [0, 1, 2, 3, 4] [2] [0, 1, 3, 4] (by decide)) hP hD hS hA (pmC (f := fun i => ([gB aB aP aT aM aN bI, gP cA aP pI pA, gT cA aT tI tJ tP tO tR, gM cA aM mI mJ mA, gM cA aN nI nJ nA] : List va_W).getD i []) [0, 1, 2, 3, 4] [2] [0, 1, 3, 4] (by decide)) (fun H locs hP hD hS => ?_)
  refine lv_if_ne (tgt := 25) hx hb dX4_explore_7 (by decide) (fun c3 => ?_) (fun c3 => ?_)
  · replace h := og_neg c3 h
    exact b25  _ _ _ _ _ _ _ _ _ _ _ _ _ h hP hD hS (lv_sub hl [0] rfl)
  · replace h := og_pos c3 h
    refine lv_aload_n hx hb dX4_explore_10 rfl (lv_at hl 0 rfl) ?_
    refine va_get (D := D) (C := RX4) (T := TX4) (N := 6) hx hb hT inlX4 hown hK.1 hP 0 rfl rfl 1 (by decide) (hT _ fl_RX4_19) (fun _ h9 => h9) rfl dX4_explore_11 ?_
    refine lv_aload_n hx hb dX4_explore_14 rfl (lv_at hl 0 rfl) ?_
    refine va_get (D := D) (C := RX4) (T := TX4) (N := 6) hx hb hT inlX4 hown hK.1 hP 0 rfl rfl 0 (by decide) (hT _ fl_RX4_12) (fun _ h9 => h9) rfl dX4_explore_15 ?_
    refine lv_aload_n hx hb dX4_explore_18 rfl (lv_at hl 0 rfl) ?_
    refine va_get (D := D) (C := RX4) (T := TX4) (N := 6) hx hb hT inlX4 hown hK.1 hP 0 rfl rfl 2 (by decide) (hT _ fl_RX4_26) (fun _ h9 => h9) rfl dX4_explore_19 ?_
    obtain ⟨⟨tI4, tJ4, tP4, tO4, tR4, mI4, mJ4, mA4, qI4, qJ4⟩, e4, h⟩ := og_bind h
    try dsimp only at h
    refine gc_v (ws := (wl [gB aB aP aT aM aN bI, gP cA aP pI pA, gT cA aT tI tJ tP tO tR, gM cA aM mI mJ mA, gM cA aN nI nJ nA] ++ gQ L qI qJ)) (wc := (wl [gP cA aP pI pA, gT cA aT tI tJ tP tO tR, gM cA aM mI mJ mA] ++ gQ L qI qJ)) (wr := (wl [gB aB aP aT aM aN bI, gM cA aN nI nJ nA])) (ws' := (wl [gB aB aP aT aM aN bI, gP cA aP pI pA, gT cA aT tI4 tJ4 tP4 tO4 tR4, gM cA aM mI4 mJ4 mA4, gM cA aN nI nJ nA] ++ gQ L qI4 qJ4)) (va_runV (As := [.ref (aP 0), .ref (aM 0)]) (rest := []) ⟨hx, hb, hml, hown, hT⟩ (k_X0_survey l D cA aP aT aM L H.size n  pI pA tI tJ tP tO tR mI mJ mA qI qJ _ e4) (cwV 2 hT gv_RX4_59 rfl rfl rfl (by decide +kernel) ⟨Nat.le_of_ble_eq_true rfl, Nat.le_of_ble_eq_true rfl⟩) (pre_V (ci := 0) (q0 := 8) (wr := (wl [gB aB aP aT aM aN bI, gM cA aN nI nJ nA])) (pmB (f := fun i => ([gB aB aP aT aM aN bI, gP cA aP pI pA, gT cA aT tI tJ tP tO tR, gM cA aM mI mJ mA, gM cA aN nI nJ nA] : List va_W).getD i []) [0, 1, 2, 3, 4] [1, 2, 3] [0, 4] (by decide)) hK hP hD rfl rfl) rfl rfl hl.1 rfl (lv_room (Nat.le_of_ble_eq_true rfl)) dX4_explore_22 ⟨Nat.le_refl _, Nat.le_refl _⟩) (pmB (f := fun i => ([gB aB aP aT aM aN bI, gP cA aP pI pA, gT cA aT tI tJ tP tO tR, gM cA aM mI mJ mA, gM cA aN nI nJ nA] : List va_W).getD i []) [0, 1, 2, 3, 4] [1, 2, 3] [0, 4] (by decide)) hP hD hS hA (pmB (f := fun i => ([gB aB aP aT aM aN bI, gP cA aP pI pA, gT cA aT tI4 tJ4 tP4 tO4 tR4, gM cA aM mI4 mJ4 mA4, gM cA aN nI nJ nA] : List va_W).getD i []) [0, 1, 2, 3, 4] [1, 2, 3] [0, 4] (by decide)) (fun H locs hP hD hS => ?_)
    exact b25  _ _ _ _ _ _ _ _ _ _ _ _ _ h hP hD hS (lv_sub hl [0] rfl)
set_option maxRecDepth 100000 in
set_option maxHeartbeats 8000000 in
theorem k_X4_path (l : Launch) (D : va_G) (cA : Nat → ClassId) (aB : Nat → Nat) (aP : Nat → Nat) (aT : Nat → Nat) (aM : Nat → Nat) (aN : Nat → Nat) (L : List Nat) (sz : Nat) (u1 : Int32) (u2 : Int32) (bI : Nat → Int32) (pI : Nat → Int32) (pA : Nat → Nat → Int32) (tI : Nat → Int32) (tJ : Nat → Int64) (tP : Nat → Option Nat) (tO : Nat → Int64) (tR : Nat → Int32) (mI : Nat → Int32) (mJ : Nat → Int64) (mA : Nat → Nat → Int32) (nI : Nat → Int32) (nJ : Nat → Int64) (nA : Nat → Nat → Int32) (qI : Nat → Nat → Int32) (qJ : Nat → Nat → Int64) (R : Int32 × Unit) (h : f_X4_path L u1 u2 tI tP qI qJ = some R) : Met l yX4_path (wsU yX4_path cX4_path 4 (some .int)) ({ frames := 1, cells := 0, slots := 0, locals := 21 }) (PcW D cA (wl [gB aB aP aT aM aN bI, gP cA aP pI pA, gT cA aT tI tJ tP tO tR, gM cA aM mI mJ mA, gM cA aN nI nJ nA] ++ gQ L qI qJ) sz [.ref (aB 0), .int u1, .int u2]) (QI D (fun _ : Unit => (wl [gB aB aP aT aM aN bI, gP cA aP pI pA, gT cA aT tI tJ tP tO tR, gM cA aM mI mJ mA, gM cA aN nI nJ nA] ++ gQ L qI qJ)) R (va_A (wl [gB aB aP aT aM aN bI, gP cA aP pI pA, gT cA aT tI tJ tP tO tR, gM cA aM mI mJ mA, gM cA aN nI nJ nA] ++ gQ L qI qJ) sz)) 0 0 (va_A (wl [gB aB aP aT aM aN bI, gP cA aP pI pA, gT cA aT tI tJ tP tO tR, gM cA aM mI mJ mA, gM cA aN nI nJ nA] ++ gQ L qI qJ) sz) := by
  refine Met.ofW (cc := cX4_path) (maxL := 4) (ret := (some .int)) (by decide) rfl ?_
  intro p e s m args below meth c s₁ B hml hv
  obtain ⟨rfl, hsz, hP, hK, hD0⟩ := hv
  have hx := B.exec
  have hb := B.bytes
  have hr := B.returns
  have hts := atoms_spec (ws := (wsU yX4_path cX4_path 4 (some .int))) B.pre
  have hT : ∀ w ∈ wsL_law, w.before ([.ref (aB 0), .int u1, .int u2] : List Value).toArray s = true := fun w h => hts w (List.mem_cons_of_mem _ h)
  have hown : s.vm.findClass RX4 = some m.cls := findClass_of_methodNamed B.named
  have hlocks := B.notSynchronized
  have hN := hK.2
  subst hsz
  have hD := hD0.self (sz := s.heap.size)
  generalize hAe : va_A (wl [gB aB aP aT aM aN bI, gP cA aP pI pA, gT cA aT tI tJ tP tO tR, gM cA aM mI mJ mA, gM cA aN nI nJ nA] ++ gQ L qI qJ) s.heap.size = A at hD ⊢
  have hA : ∀ q : Nat, s.heap.size ≤ q → A q := fun q h => by rw [← hAe]; exact Or.inr h
  have hS : va_S A s.heap s.heap [] := va_S.rf
  have hl := lv_entry ([.ref (aB 0), .int u1, .int u2]) (n := 4) (Nat.le_of_ble_eq_true rfl)
  rw [lg_entry_eq]
  generalize (lg_sl ([.ref (aB 0), .int u1, .int u2]) ++ List.replicate (4 - (lg_sl ([.ref (aB 0), .int u1, .int u2])).length) Slot.unset).toArray = ls at hl ⊢
  have hl : lv_has ls 4 [(0, .ref (aB 0)), (1, .int u1), (2, .int u2)] := hl
  unfold f_X4_path at h
  refine lv_aload_n hx hb dX4_path_0 rfl (lv_at hl 0 rfl) ?_
  refine va_get (D := D) (C := RX4) (T := TX4) (N := 6) hx hb hT inlX4 hown hK.1 hP 0 rfl rfl 1 (by decide) (hT _ fl_RX4_19) (fun _ h9 => h9) rfl dX4_path_1 ?_
  refine lv_iload_n hx hb dX4_path_4 rfl (lv_at hl 1 rfl) ?_
  obtain ⟨⟨r1, _u1⟩, e1, h⟩ := og_bind h
  try dsimp only at h
  refine gc_q (ws := (wl [gB aB aP aT aM aN bI, gP cA aP pI pA, gT cA aT tI tJ tP tO tR, gM cA aM mI mJ mA, gM cA aN nI nJ nA] ++ gQ L qI qJ)) (wc := (wl [gT cA aT tI tJ tP tO tR] ++ gQ L qI qJ)) (wr := (wl [gB aB aP aT aM aN bI, gP cA aP pI pA, gM cA aM mI mJ mA, gM cA aN nI nJ nA])) (ws' := (wl [gB aB aP aT aM aN bI, gP cA aP pI pA, gT cA aT tI tJ tP tO tR, gM cA aM mI mJ mA, gM cA aN nI nJ nA] ++ gQ L qI qJ)) (va_runV (As := [.int u1]) (rest := []) ⟨hx, hb, hml, hown, hT⟩ (k_X0_pathAt l D cA aT L s.heap.size u1 tI tJ tP tO tR qI qJ _ e1) (cwV 1 hT gv_RX4_68 rfl rfl rfl (by decide +kernel) ⟨Nat.le_of_ble_eq_true rfl, Nat.le_of_ble_eq_true rfl⟩) (pre_V (ci := 0) (q0 := 0) (wr := (wl [gB aB aP aT aM aN bI, gP cA aP pI pA, gM cA aM mI mJ mA, gM cA aN nI nJ nA])) (pmB (f := fun i => ([gB aB aP aT aM aN bI, gP cA aP pI pA, gT cA aT tI tJ tP tO tR, gM cA aM mI mJ mA, gM cA aN nI nJ nA] : List va_W).getD i []) [0, 1, 2, 3, 4] [2] [0, 1, 3, 4] (by decide)) hK hP hD rfl rfl) rfl rfl hl.1 rfl (lv_room (Nat.le_of_ble_eq_true rfl)) dX4_path_5 ⟨Nat.le_refl _, Nat.le_refl _⟩) (pmB (f := fun i => ([gB aB aP aT aM aN bI, gP cA aP pI pA, gT cA aT tI tJ tP tO tR, gM cA aM mI mJ mA, gM cA aN nI nJ nA] : List va_W).getD i []) [0, 1, 2, 3, 4] [2] [0, 1, 3, 4] (by decide)) hP hD hS hA (pmB (f := fun i => ([gB aB aP aT aM aN bI, gP cA aP pI pA, gT cA aT tI tJ tP tO tR, gM cA aM mI mJ mA, gM cA aN nI nJ nA] : List va_W).getD i []) [0, 1, 2, 3, 4] [2] [0, 1, 3, 4] (by decide)) (fun H locs hP hD hS => ?_)
  cases r1 with
  | none =>
    show W p l e (headSpec (wsU yX4_path cX4_path 4 (some .int)) ({ frames := 1, cells := 0, slots := 0, locals := 21 })).room s m ([.ref (aB 0), .int u1, .int u2] : List Value).toArray below meth c H locs 0 0 (MQ below (QI D (fun _ : Unit => (wl [gB aB aP aT aM aN bI, gP cA aP pI pA, gT cA aT tI tJ tP tO tR, gM cA aM mI mJ mA, gM cA aN nI nJ nA] ++ gQ L qI qJ)) R A) ([.ref (aB 0), .int u1, .int u2] : List Value).toArray s 0 0 A) (F0 m 8 ls [.null])
    refine lv_astore_nN (lv' := [(3, .null), (0, .ref (aB 0)), (1, .int u1), (2, .int u2)]) hx hb dX4_path_8 rfl hl (by decide) rfl (fun ls hl => ?_)
    refine lv_aload_nN hx hb dX4_path_9 rfl (lv_at hl 0 rfl) ?_
    refine lv_ifnonnullN hx hb dX4_path_10 ?_
    refine lv_iconst (v := (-1 : Int32)) hx hb dX4_path_13 (by decide) ?_
    exact W.iret (v := (-1 : Int32)) hx hb hr (fun t ht hW => ⟨⟨(-1 : Int32), (), rfl, ⟨(congrArg Prod.fst (og_inj h)).symm, (congrArg Prod.snd (og_inj h)).symm⟩, (by rw [ht]; exact hP), hD⟩, hS.F ht⟩) hS.2.2 dX4_path_14
  | some a2 =>
    show W p l e (headSpec (wsU yX4_path cX4_path 4 (some .int)) ({ frames := 1, cells := 0, slots := 0, locals := 21 })).room s m ([.ref (aB 0), .int u1, .int u2] : List Value).toArray below meth c H locs 0 0 (MQ below (QI D (fun _ : Unit => (wl [gB aB aP aT aM aN bI, gP cA aP pI pA, gT cA aT tI tJ tP tO tR, gM cA aM mI mJ mA, gM cA aN nI nJ nA] ++ gQ L qI qJ)) R A) ([.ref (aB 0), .int u1, .int u2] : List Value).toArray s 0 0 A) (F0 m 8 ls [.ref a2])
    refine lv_astore_n (lv' := [(3, .ref a2), (0, .ref (aB 0)), (1, .int u1), (2, .int u2)]) hx hb dX4_path_8 rfl hl (by decide) rfl (fun ls hl => ?_)
    refine lv_aload_n hx hb dX4_path_9 rfl (lv_at hl 0 rfl) ?_
    refine lv_ifnonnull (tgt := 15) hx hb dX4_path_10 (by decide) ?_
    refine lv_iload_n hx hb dX4_path_15 rfl (lv_at hl 3 rfl) ?_
    by_cases c17 : u2 = (0 : Int32)
    · replace h := og_pos c17 h
      refine gs_in (off := 40) (tgt := 56) 0 c17 hx hb dX4_path_16 (by decide +kernel) (by decide) ?_
      refine lv_aload_n hx hb dX4_path_56 rfl (lv_at hl 0 rfl) ?_
      obtain ⟨m3, h⟩ := og_guard h
      obtain ⟨kq4, hkq4⟩ := va_pl_get (X := (wl [gB aB aP aT aM aN bI, gP cA aP pI pA, gT cA aT tI tJ tP tO tR, gM cA aM mI mJ mA, gM cA aN nI nJ nA])) (f := fQ qI qJ) m3
      refine va_getN (D := D) (C := RX2) (T := TX2) (N := 7) hx hb hT inlX2 hown hK.1 hP kq4 hkq4 rfl 2 (by decide) (va_Nw.use rfl (hN _ nl_RX4_72)) (fun _ h9 => h9) rfl dX4_path_57 ?_
      exact W.iret (v := (qI a2 0)) hx hb hr (fun t ht hW => ⟨⟨(qI a2 0), (), rfl, ⟨(congrArg Prod.fst (og_inj h)).symm, (congrArg Prod.snd (og_inj h)).symm⟩, (by rw [ht]; exact hP), hD⟩, hS.F ht⟩) hS.2.2 dX4_path_60
    replace h := og_neg c17 h
    by_cases c18 : u2 = (1 : Int32)
    · replace h := og_pos c18 h
      refine gs_in (off := 45) (tgt := 61) 1 c18 hx hb dX4_path_16 (by decide +kernel) (by decide) ?_
      refine lv_aload_n hx hb dX4_path_61 rfl (lv_at hl 0 rfl) ?_
      obtain ⟨m5, h⟩ := og_guard h
      obtain ⟨kq6, hkq6⟩ := va_pl_get (X := (wl [gB aB aP aT aM aN bI, gP cA aP pI pA, gT cA aT tI tJ tP tO tR, gM cA aM mI mJ mA, gM cA aN nI nJ nA])) (f := fQ qI qJ) m5
      refine va_getN (D := D) (C := RX2) (T := TX2) (N := 7) hx hb hT inlX2 hown hK.1 hP kq6 hkq6 rfl 3 (by decide) (va_Nw.use rfl (hN _ nl_RX4_77)) (fun _ h9 => h9) rfl dX4_path_62 ?_
      exact W.iret (v := (qI a2 1)) hx hb hr (fun t ht hW => ⟨⟨(qI a2 1), (), rfl, ⟨(congrArg Prod.fst (og_inj h)).symm, (congrArg Prod.snd (og_inj h)).symm⟩, (by rw [ht]; exact hP), hD⟩, hS.F ht⟩) hS.2.2 dX4_path_65
    replace h := og_neg c18 h
    by_cases c19 : u2 = (2 : Int32)
    · replace h := og_pos c19 h
      refine gs_in (off := 50) (tgt := 66) 2 c19 hx hb dX4_path_16 (by decide +kernel) (by decide) ?_
      refine lv_aload_n hx hb dX4_path_66 rfl (lv_at hl 0 rfl) ?_
      obtain ⟨m7, h⟩ := og_guard h
      obtain ⟨kq8, hkq8⟩ := va_pl_get (X := (wl [gB aB aP aT aM aN bI, gP cA aP pI pA, gT cA aT tI tJ tP tO tR, gM cA aM mI mJ mA, gM cA aN nI nJ nA])) (f := fQ qI qJ) m7
      refine va_getN (D := D) (C := RX2) (T := TX2) (N := 7) hx hb hT inlX2 hown hK.1 hP kq8 hkq8 rfl 0 (by decide) (va_Nw.use rfl (hN _ nl_RX4_80)) (fun _ h9 => h9) rfl dX4_path_67 ?_
      obtain ⟨⟨r9, _u9⟩, e9, h⟩ := og_bind h
      try dsimp only at h
      refine gc_i (ws := (wl [gB aB aP aT aM aN bI, gP cA aP pI pA, gT cA aT tI tJ tP tO tR, gM cA aM mI mJ mA, gM cA aN nI nJ nA] ++ gQ L qI qJ)) (wc := (wl ([] : List va_W))) (wr := (wl [gB aB aP aT aM aN bI, gP cA aP pI pA, gT cA aT tI tJ tP tO tR, gM cA aM mI mJ mA, gM cA aN nI nJ nA] ++ gQ L qI qJ)) (ws' := (wl [gB aB aP aT aM aN bI, gP cA aP pI pA, gT cA aT tI tJ tP tO tR, gM cA aM mI mJ mA, gM cA aN nI nJ nA] ++ gQ L qI qJ)) (va_runS (As := [.long (qJ a2 0)]) (rest := []) ⟨hx, hb, hml, hown, hT⟩ (k_J13_bitCount_95d88 l D cA  H.size (qJ a2 0)  _ e9) (va_cwS 1 hT gs_RX4_84 rfl rfl rfl (by decide +kernel) ⟨Nat.le_of_ble_eq_true rfl, Nat.le_of_ble_eq_true rfl⟩) (pre_S (wr := (wl [gB aB aP aT aM aN bI, gP cA aP pI pA, gT cA aT tI tJ tP tO tR, gM cA aM mI mJ mA, gM cA aN nI nJ nA] ++ gQ L qI qJ)) (pmC (f := fun i => ([gB aB aP aT aM aN bI, gP cA aP pI pA, gT cA aT tI tJ tP tO tR, gM cA aM mI mJ mA, gM cA aN nI nJ nA] : List va_W).getD i []) [0, 1, 2, 3, 4] [] [0, 1, 2, 3, 4] (by decide)) hK hP hD) rfl rfl hl.1 rfl (lv_room (Nat.le_of_ble_eq_true rfl)) dX4_path_70 ⟨Nat.le_refl _, Nat.le_refl _⟩) (pmC (f := fun i => ([gB aB aP aT aM aN bI, gP cA aP pI pA, gT cA aT tI tJ tP tO tR, gM cA aM mI mJ mA, gM cA aN nI nJ nA] : List va_W).getD i []) [0, 1, 2, 3, 4] [] [0, 1, 2, 3, 4] (by decide)) hP hD hS hA (pmC (f := fun i => ([gB aB aP aT aM aN bI, gP cA aP pI pA, gT cA aT tI tJ tP tO tR, gM cA aM mI mJ mA, gM cA aN nI nJ nA] : List va_W).getD i []) [0, 1, 2, 3, 4] [] [0, 1, 2, 3, 4] (by decide)) (fun H locs hP hD hS => ?_)
      exact W.iret (v := r9) hx hb hr (fun t ht hW => ⟨⟨r9, (), rfl, ⟨(congrArg Prod.fst (og_inj h)).symm, (congrArg Prod.snd (og_inj h)).symm⟩, (by rw [ht]; exact hP), hD⟩, hS.F ht⟩) hS.2.2 dX4_path_73
    replace h := og_neg c19 h
    by_cases c20 : u2 = (3 : Int32)
    · replace h := og_pos c20 h
      refine gs_in (off := 58) (tgt := 74) 3 c20 hx hb dX4_path_16 (by decide +kernel) (by decide) ?_
      refine lv_aload_n hx hb dX4_path_74 rfl (lv_at hl 0 rfl) ?_
      obtain ⟨m10, h⟩ := og_guard h
      obtain ⟨kq11, hkq11⟩ := va_pl_get (X := (wl [gB aB aP aT aM aN bI, gP cA aP pI pA, gT cA aT tI tJ tP tO tR, gM cA aM mI mJ mA, gM cA aN nI nJ nA])) (f := fQ qI qJ) m10
      refine va_getN (D := D) (C := RX2) (T := TX2) (N := 7) hx hb hT inlX2 hown hK.1 hP kq11 hkq11 rfl 4 (by decide) (va_Nw.use rfl (hN _ nl_RX4_90)) (fun _ h9 => h9) rfl dX4_path_75 ?_
      exact W.iret (v := (qI a2 2)) hx hb hr (fun t ht hW => ⟨⟨(qI a2 2), (), rfl, ⟨(congrArg Prod.fst (og_inj h)).symm, (congrArg Prod.snd (og_inj h)).symm⟩, (by rw [ht]; exact hP), hD⟩, hS.F ht⟩) hS.2.2 dX4_path_78
    replace h := og_neg c20 h
    by_cases c21 : u2 = (4 : Int32)
    · replace h := og_pos c21 h
      refine gs_in (off := 63) (tgt := 79) 4 c21 hx hb dX4_path_16 (by decide +kernel) (by decide) ?_
      refine lv_aload_n hx hb dX4_path_79 rfl (lv_at hl 0 rfl) ?_
      obtain ⟨m12, h⟩ := og_guard h
      obtain ⟨kq13, hkq13⟩ := va_pl_get (X := (wl [gB aB aP aT aM aN bI, gP cA aP pI pA, gT cA aT tI tJ tP tO tR, gM cA aM mI mJ mA, gM cA aN nI nJ nA])) (f := fQ qI qJ) m12
      refine va_getN (D := D) (C := RX2) (T := TX2) (N := 7) hx hb hT inlX2 hown hK.1 hP kq13 hkq13 rfl 5 (by decide) (va_Nw.use rfl (hN _ nl_RX4_93)) (fun _ h9 => h9) rfl dX4_path_80 ?_
      exact W.iret (v := (qI a2 3)) hx hb hr (fun t ht hW => ⟨⟨(qI a2 3), (), rfl, ⟨(congrArg Prod.fst (og_inj h)).symm, (congrArg Prod.snd (og_inj h)).symm⟩, (by rw [ht]; exact hP), hD⟩, hS.F ht⟩) hS.2.2 dX4_path_83
    replace h := og_neg c21 h
    by_cases c22 : u2 = (5 : Int32)
    · replace h := og_pos c22 h
      refine gs_in (off := 68) (tgt := 84) 5 c22 hx hb dX4_path_16 (by decide +kernel) (by decide) ?_
      refine lv_aload_n hx hb dX4_path_84 rfl (lv_at hl 0 rfl) ?_
      obtain ⟨m14, h⟩ := og_guard h
      obtain ⟨kq15, hkq15⟩ := va_pl_get (X := (wl [gB aB aP aT aM aN bI, gP cA aP pI pA, gT cA aT tI tJ tP tO tR, gM cA aM mI mJ mA, gM cA aN nI nJ nA])) (f := fQ qI qJ) m14
      refine va_getN (D := D) (C := RX2) (T := TX2) (N := 7) hx hb hT inlX2 hown hK.1 hP kq15 hkq15 rfl 6 (by decide) (va_Nw.use rfl (hN _ nl_RX4_96)) (fun _ h9 => h9) rfl dX4_path_85 ?_
      refine lv_if_eq (tgt := 95) hx hb dX4_path_88 (by decide) (fun c16 => ?_) (fun c16 => ?_)
      · replace h := og_pos c16 h
        refine lv_iconst (v := (0 : Int32)) hx hb dX4_path_95 (by decide) ?_
        exact W.iret (v := (0 : Int32)) hx hb hr (fun t ht hW => ⟨⟨(0 : Int32), (), rfl, ⟨(congrArg Prod.fst (og_inj h)).symm, (congrArg Prod.snd (og_inj h)).symm⟩, (by rw [ht]; exact hP), hD⟩, hS.F ht⟩) hS.2.2 dX4_path_96
      · replace h := og_neg c16 h
        refine lv_iconst (v := (1 : Int32)) hx hb dX4_path_91 (by decide) ?_
        refine lv_goto (tgt := 96) hx hb dX4_path_92 (by decide) ?_
        exact W.iret (v := (1 : Int32)) hx hb hr (fun t ht hW => ⟨⟨(1 : Int32), (), rfl, ⟨(congrArg Prod.fst (og_inj h)).symm, (congrArg Prod.snd (og_inj h)).symm⟩, (by rw [ht]; exact hP), hD⟩, hS.F ht⟩) hS.2.2 dX4_path_96
    replace h := og_neg c22 h
    refine lv_tableOut (tgt := 97) hx hb dX4_path_16 (gs_out 6 (by decide) (fun k9 hk9 => ?_)) (by decide) ?_
    · rcases (show k9 = 0 ∨ k9 = 1 ∨ k9 = 2 ∨ k9 = 3 ∨ k9 = 4 ∨ k9 = 5 by omega) with rfl | rfl | rfl | rfl | rfl | rfl
      · exact gs_ne c17 (by decide +kernel)
      · exact gs_ne c18 (by decide +kernel)
      · exact gs_ne c19 (by decide +kernel)
      · exact gs_ne c20 (by decide +kernel)
      · exact gs_ne c21 (by decide +kernel)
      · exact gs_ne c22 (by decide +kernel)
    refine lv_iconst (v := (0 : Int32)) hx hb dX4_path_97 (by decide) ?_
    exact W.iret (v := (0 : Int32)) hx hb hr (fun t ht hW => ⟨⟨(0 : Int32), (), rfl, ⟨(congrArg Prod.fst (og_inj h)).symm, (congrArg Prod.snd (og_inj h)).symm⟩, (by rw [ht]; exact hP), hD⟩, hS.F ht⟩) hS.2.2 dX4_path_98
set_option maxRecDepth 100000 in
set_option maxHeartbeats 8000000 in
theorem k_X4_decision (l : Launch) (D : va_G) (cA : Nat → ClassId) (aB : Nat → Nat) (aP : Nat → Nat) (aT : Nat → Nat) (aM : Nat → Nat) (aN : Nat → Nat) (L : List Nat) (sz : Nat) (n : Nat) (u1 : Int32) (u2 : Int32) (bI : Nat → Int32) (pI : Nat → Int32) (pA : Nat → Nat → Int32) (tI : Nat → Int32) (tJ : Nat → Int64) (tP : Nat → Option Nat) (tO : Nat → Int64) (tR : Nat → Int32) (mI : Nat → Int32) (mJ : Nat → Int64) (mA : Nat → Nat → Int32) (nI : Nat → Int32) (nJ : Nat → Int64) (nA : Nat → Nat → Int32) (qI : Nat → Nat → Int32) (qJ : Nat → Nat → Int64) (R : Int32 × Unit) (h : f_X4_decision n L u1 u2 tI tP qJ = some R) : Met l yX4_decision (wsU yX4_decision cX4_decision 5 (some .int)) ({ frames := 3, cells := 0, slots := 0, locals := 66 }) (PcW D cA (wl [gB aB aP aT aM aN bI, gP cA aP pI pA, gT cA aT tI tJ tP tO tR, gM cA aM mI mJ mA, gM cA aN nI nJ nA] ++ gQ L qI qJ) sz [.ref (aB 0), .int u1, .int u2]) (QI D (fun _ : Unit => (wl [gB aB aP aT aM aN bI, gP cA aP pI pA, gT cA aT tI tJ tP tO tR, gM cA aM mI mJ mA, gM cA aN nI nJ nA] ++ gQ L qI qJ)) R (va_A (wl [gB aB aP aT aM aN bI, gP cA aP pI pA, gT cA aT tI tJ tP tO tR, gM cA aM mI mJ mA, gM cA aN nI nJ nA] ++ gQ L qI qJ) sz)) 0 0 (va_A (wl [gB aB aP aT aM aN bI, gP cA aP pI pA, gT cA aT tI tJ tP tO tR, gM cA aM mI mJ mA, gM cA aN nI nJ nA] ++ gQ L qI qJ) sz) := by
  refine Met.ofW (cc := cX4_decision) (maxL := 5) (ret := (some .int)) (by decide) rfl ?_
  intro p e s m args below meth c s₁ B hml hv
  obtain ⟨rfl, hsz, hP, hK, hD0⟩ := hv
  have hx := B.exec
  have hb := B.bytes
  have hr := B.returns
  have hts := atoms_spec (ws := (wsU yX4_decision cX4_decision 5 (some .int))) B.pre
  have hT : ∀ w ∈ wsL_law, w.before ([.ref (aB 0), .int u1, .int u2] : List Value).toArray s = true := fun w h => hts w (List.mem_cons_of_mem _ h)
  have hown : s.vm.findClass RX4 = some m.cls := findClass_of_methodNamed B.named
  have hlocks := B.notSynchronized
  have hN := hK.2
  subst hsz
  have hD := hD0.self (sz := s.heap.size)
  generalize hAe : va_A (wl [gB aB aP aT aM aN bI, gP cA aP pI pA, gT cA aT tI tJ tP tO tR, gM cA aM mI mJ mA, gM cA aN nI nJ nA] ++ gQ L qI qJ) s.heap.size = A at hD ⊢
  have hA : ∀ q : Nat, s.heap.size ≤ q → A q := fun q h => by rw [← hAe]; exact Or.inr h
  have hS : va_S A s.heap s.heap [] := va_S.rf
  have hl := lv_entry ([.ref (aB 0), .int u1, .int u2]) (n := 5) (Nat.le_of_ble_eq_true rfl)
  rw [lg_entry_eq]
  generalize (lg_sl ([.ref (aB 0), .int u1, .int u2]) ++ List.replicate (5 - (lg_sl ([.ref (aB 0), .int u1, .int u2])).length) Slot.unset).toArray = ls at hl ⊢
  have hl : lv_has ls 5 [(0, .ref (aB 0)), (1, .int u1), (2, .int u2)] := hl
  unfold f_X4_decision at h
  refine lv_aload_n hx hb dX4_decision_0 rfl (lv_at hl 0 rfl) ?_
  refine va_get (D := D) (C := RX4) (T := TX4) (N := 6) hx hb hT inlX4 hown hK.1 hP 0 rfl rfl 1 (by decide) (hT _ fl_RX4_19) (fun _ h9 => h9) rfl dX4_decision_1 ?_
  refine lv_iload_n hx hb dX4_decision_4 rfl (lv_at hl 1 rfl) ?_
  obtain ⟨⟨r1, _u1⟩, e1, h⟩ := og_bind h
  try dsimp only at h
  refine gc_q (ws := (wl [gB aB aP aT aM aN bI, gP cA aP pI pA, gT cA aT tI tJ tP tO tR, gM cA aM mI mJ mA, gM cA aN nI nJ nA] ++ gQ L qI qJ)) (wc := (wl [gT cA aT tI tJ tP tO tR] ++ gQ L qI qJ)) (wr := (wl [gB aB aP aT aM aN bI, gP cA aP pI pA, gM cA aM mI mJ mA, gM cA aN nI nJ nA])) (ws' := (wl [gB aB aP aT aM aN bI, gP cA aP pI pA, gT cA aT tI tJ tP tO tR, gM cA aM mI mJ mA, gM cA aN nI nJ nA] ++ gQ L qI qJ)) (va_runV (As := [.int u1]) (rest := []) ⟨hx, hb, hml, hown, hT⟩ (k_X0_pathAt l D cA aT L s.heap.size u1 tI tJ tP tO tR qI qJ _ e1) (cwV 1 hT gv_RX4_68 rfl rfl rfl (by decide +kernel) ⟨Nat.le_of_ble_eq_true rfl, Nat.le_of_ble_eq_true rfl⟩) (pre_V (ci := 0) (q0 := 0) (wr := (wl [gB aB aP aT aM aN bI, gP cA aP pI pA, gM cA aM mI mJ mA, gM cA aN nI nJ nA])) (pmB (f := fun i => ([gB aB aP aT aM aN bI, gP cA aP pI pA, gT cA aT tI tJ tP tO tR, gM cA aM mI mJ mA, gM cA aN nI nJ nA] : List va_W).getD i []) [0, 1, 2, 3, 4] [2] [0, 1, 3, 4] (by decide)) hK hP hD rfl rfl) rfl rfl hl.1 rfl (lv_room (Nat.le_of_ble_eq_true rfl)) dX4_decision_5 ⟨Nat.le_refl _, Nat.le_refl _⟩) (pmB (f := fun i => ([gB aB aP aT aM aN bI, gP cA aP pI pA, gT cA aT tI tJ tP tO tR, gM cA aM mI mJ mA, gM cA aN nI nJ nA] : List va_W).getD i []) [0, 1, 2, 3, 4] [2] [0, 1, 3, 4] (by decide)) hP hD hS hA (pmB (f := fun i => ([gB aB aP aT aM aN bI, gP cA aP pI pA, gT cA aT tI tJ tP tO tR, gM cA aM mI mJ mA, gM cA aN nI nJ nA] : List va_W).getD i []) [0, 1, 2, 3, 4] [2] [0, 1, 3, 4] (by decide)) (fun H locs hP hD hS => ?_)
  cases r1 with
  | none =>
    show W p l e (headSpec (wsU yX4_decision cX4_decision 5 (some .int)) ({ frames := 3, cells := 0, slots := 0, locals := 66 })).room s m ([.ref (aB 0), .int u1, .int u2] : List Value).toArray below meth c H locs 0 0 (MQ below (QI D (fun _ : Unit => (wl [gB aB aP aT aM aN bI, gP cA aP pI pA, gT cA aT tI tJ tP tO tR, gM cA aM mI mJ mA, gM cA aN nI nJ nA] ++ gQ L qI qJ)) R A) ([.ref (aB 0), .int u1, .int u2] : List Value).toArray s 0 0 A) (F0 m 8 ls [.null])
    refine lv_astore_nN (lv' := [(3, .null), (0, .ref (aB 0)), (1, .int u1), (2, .int u2)]) hx hb dX4_decision_8 rfl hl (by decide) rfl (fun ls hl => ?_)
    refine lv_aload_nN hx hb dX4_decision_9 rfl (lv_at hl 0 rfl) ?_
    refine lv_ifnonnullN hx hb dX4_decision_10 ?_
    refine lv_iconst (v := (-1 : Int32)) hx hb dX4_decision_13 (by decide) ?_
    exact W.iret (v := (-1 : Int32)) hx hb hr (fun t ht hW => ⟨⟨(-1 : Int32), (), rfl, ⟨(congrArg Prod.fst (og_inj h)).symm, (congrArg Prod.snd (og_inj h)).symm⟩, (by rw [ht]; exact hP), hD⟩, hS.F ht⟩) hS.2.2 dX4_decision_14
  | some a2 =>
    show W p l e (headSpec (wsU yX4_decision cX4_decision 5 (some .int)) ({ frames := 3, cells := 0, slots := 0, locals := 66 })).room s m ([.ref (aB 0), .int u1, .int u2] : List Value).toArray below meth c H locs 0 0 (MQ below (QI D (fun _ : Unit => (wl [gB aB aP aT aM aN bI, gP cA aP pI pA, gT cA aT tI tJ tP tO tR, gM cA aM mI mJ mA, gM cA aN nI nJ nA] ++ gQ L qI qJ)) R A) ([.ref (aB 0), .int u1, .int u2] : List Value).toArray s 0 0 A) (F0 m 8 ls [.ref a2])
    refine lv_astore_n (lv' := [(3, .ref a2), (0, .ref (aB 0)), (1, .int u1), (2, .int u2)]) hx hb dX4_decision_8 rfl hl (by decide) rfl (fun ls hl => ?_)
    refine lv_aload_n hx hb dX4_decision_9 rfl (lv_at hl 0 rfl) ?_
    refine lv_ifnonnull (tgt := 15) hx hb dX4_decision_10 (by decide) ?_
    refine lv_aload_n hx hb dX4_decision_15 rfl (lv_at hl 0 rfl) ?_
    obtain ⟨m3, h⟩ := og_guard h
    obtain ⟨kq4, hkq4⟩ := va_pl_get (X := (wl [gB aB aP aT aM aN bI, gP cA aP pI pA, gT cA aT tI tJ tP tO tR, gM cA aM mI mJ mA, gM cA aN nI nJ nA])) (f := fQ qI qJ) m3
    refine va_getN (D := D) (C := RX2) (T := TX2) (N := 7) hx hb hT inlX2 hown hK.1 hP kq4 hkq4 rfl 0 (by decide) (va_Nw.use rfl (hN _ nl_RX4_80)) (fun _ h9 => h9) rfl dX4_decision_16 ?_
    refine lv_iload_n hx hb dX4_decision_19 rfl (lv_at hl 3 rfl) ?_
    obtain ⟨⟨r5, _u5⟩, e5, h⟩ := og_bind h
    try dsimp only at h
    refine gc_i (ws := (wl [gB aB aP aT aM aN bI, gP cA aP pI pA, gT cA aT tI tJ tP tO tR, gM cA aM mI mJ mA, gM cA aN nI nJ nA] ++ gQ L qI qJ)) (wc := (wl ([] : List va_W))) (wr := (wl [gB aB aP aT aM aN bI, gP cA aP pI pA, gT cA aT tI tJ tP tO tR, gM cA aM mI mJ mA, gM cA aN nI nJ nA] ++ gQ L qI qJ)) (ws' := (wl [gB aB aP aT aM aN bI, gP cA aP pI pA, gT cA aT tI tJ tP tO tR, gM cA aM mI mJ mA, gM cA aN nI nJ nA] ++ gQ L qI qJ)) (va_runS (As := [.long (qJ a2 0), .int u2]) (rest := []) ⟨hx, hb, hml, hown, hT⟩ (k_X4_placeOfMark l D cA  H.size n (qJ a2 0) u2  _ e5) (cwS 2 hT gs_RX4_99 rfl rfl rfl (by decide +kernel) ⟨Nat.le_of_ble_eq_true rfl, Nat.le_of_ble_eq_true rfl⟩) (pre_S (wr := (wl [gB aB aP aT aM aN bI, gP cA aP pI pA, gT cA aT tI tJ tP tO tR, gM cA aM mI mJ mA, gM cA aN nI nJ nA] ++ gQ L qI qJ)) (pmC (f := fun i => ([gB aB aP aT aM aN bI, gP cA aP pI pA, gT cA aT tI tJ tP tO tR, gM cA aM mI mJ mA, gM cA aN nI nJ nA] : List va_W).getD i []) [0, 1, 2, 3, 4] [] [0, 1, 2, 3, 4] (by decide)) hK hP hD) rfl rfl hl.1 rfl (lv_room (Nat.le_of_ble_eq_true rfl)) dX4_decision_20 ⟨Nat.le_refl _, Nat.le_refl _⟩) (pmC (f := fun i => ([gB aB aP aT aM aN bI, gP cA aP pI pA, gT cA aT tI tJ tP tO tR, gM cA aM mI mJ mA, gM cA aN nI nJ nA] : List va_W).getD i []) [0, 1, 2, 3, 4] [] [0, 1, 2, 3, 4] (by decide)) hP hD hS hA (pmC (f := fun i => ([gB aB aP aT aM aN bI, gP cA aP pI pA, gT cA aT tI tJ tP tO tR, gM cA aM mI mJ mA, gM cA aN nI nJ nA] : List va_W).getD i []) [0, 1, 2, 3, 4] [] [0, 1, 2, 3, 4] (by decide)) (fun H locs hP hD hS => ?_)
    refine lv_istore (lv' := [(4, .int r5), (3, .ref a2), (0, .ref (aB 0)), (1, .int u1), (2, .int u2)]) hx hb dX4_decision_23 hl (by decide) rfl (fun ls hl => ?_)
    refine lv_iload hx hb dX4_decision_25 (lv_at hl 0 rfl) ?_
    refine lv_iconst (v := (-1 : Int32)) hx hb dX4_decision_27 (by decide) ?_
    refine lv_icmp_ne (tgt := 33) hx hb dX4_decision_28 (by decide) (fun c6 => ?_) (fun c6 => ?_)
    · replace h := og_neg c6 h
      refine lv_iconst (v := (2 : Int32)) hx hb dX4_decision_33 (by decide) ?_
      refine lv_iload hx hb dX4_decision_34 (lv_at hl 0 rfl) ?_
      refine lv_imul hx hb dX4_decision_36 ?_
      refine lv_aload_n hx hb dX4_decision_37 rfl (lv_at hl 1 rfl) ?_
      obtain ⟨kq7, hkq7⟩ := va_pl_get (X := (wl [gB aB aP aT aM aN bI, gP cA aP pI pA, gT cA aT tI tJ tP tO tR, gM cA aM mI mJ mA, gM cA aN nI nJ nA])) (f := fQ qI qJ) m3
      refine va_getN (D := D) (C := RX2) (T := TX2) (N := 7) hx hb hT inlX2 hown hK.1 hP kq7 hkq7 rfl 1 (by decide) (va_Nw.use rfl (hN _ nl_RX4_103)) (fun _ h9 => h9) rfl dX4_decision_38 ?_
      refine lv_iload hx hb dX4_decision_41 (lv_at hl 0 rfl) ?_
      obtain ⟨⟨r8, _u8⟩, e8, h⟩ := og_bind h
      try dsimp only at h
      refine gc_i (ws := (wl [gB aB aP aT aM aN bI, gP cA aP pI pA, gT cA aT tI tJ tP tO tR, gM cA aM mI mJ mA, gM cA aN nI nJ nA] ++ gQ L qI qJ)) (wc := (wl ([] : List va_W))) (wr := (wl [gB aB aP aT aM aN bI, gP cA aP pI pA, gT cA aT tI tJ tP tO tR, gM cA aM mI mJ mA, gM cA aN nI nJ nA] ++ gQ L qI qJ)) (ws' := (wl [gB aB aP aT aM aN bI, gP cA aP pI pA, gT cA aT tI tJ tP tO tR, gM cA aM mI mJ mA, gM cA aN nI nJ nA] ++ gQ L qI qJ)) (va_runS (As := [.long (qJ a2 1), .int r5]) (rest := [.int ((2 : Int32) * r5)]) ⟨hx, hb, hml, hown, hT⟩ (k_X4_isMarked l D cA  H.size (qJ a2 1) r5  _ e8) (cwS 2 hT gs_RX4_106 rfl rfl rfl (by decide +kernel) ⟨Nat.le_of_ble_eq_true rfl, Nat.le_of_ble_eq_true rfl⟩) (pre_S (wr := (wl [gB aB aP aT aM aN bI, gP cA aP pI pA, gT cA aT tI tJ tP tO tR, gM cA aM mI mJ mA, gM cA aN nI nJ nA] ++ gQ L qI qJ)) (pmC (f := fun i => ([gB aB aP aT aM aN bI, gP cA aP pI pA, gT cA aT tI tJ tP tO tR, gM cA aM mI mJ mA, gM cA aN nI nJ nA] : List va_W).getD i []) [0, 1, 2, 3, 4] [] [0, 1, 2, 3, 4] (by decide)) hK hP hD) rfl rfl hl.1 rfl (lv_room (Nat.le_of_ble_eq_true rfl)) dX4_decision_43 ⟨Nat.le_refl _, Nat.le_refl _⟩) (pmC (f := fun i => ([gB aB aP aT aM aN bI, gP cA aP pI pA, gT cA aT tI tJ tP tO tR, gM cA aM mI mJ mA, gM cA aN nI nJ nA] : List va_W).getD i []) [0, 1, 2, 3, 4] [] [0, 1, 2, 3, 4] (by decide)) hP hD hS hA (pmC (f := fun i => ([gB aB aP aT aM aN bI, gP cA aP pI pA, gT cA aT tI tJ tP tO tR, gM cA aM mI mJ mA, gM cA aN nI nJ nA] : List va_W).getD i []) [0, 1, 2, 3, 4] [] [0, 1, 2, 3, 4] (by decide)) (fun H locs hP hD hS => ?_)
      refine lv_if_eq (tgt := 53) hx hb dX4_decision_46 (by decide) (fun c9 => ?_) (fun c9 => ?_)
      · replace h := og_pos c9 h
        refine lv_iconst (v := (0 : Int32)) hx hb dX4_decision_53 (by decide) ?_
        refine lv_iadd hx hb dX4_decision_54 ?_
        exact W.iret (v := (((2 : Int32) * r5) + (0 : Int32))) hx hb hr (fun t ht hW => ⟨⟨(((2 : Int32) * r5) + (0 : Int32)), (), rfl, ⟨(congrArg Prod.fst (og_inj h)).symm, (congrArg Prod.snd (og_inj h)).symm⟩, (by rw [ht]; exact hP), hD⟩, hS.F ht⟩) hS.2.2 dX4_decision_55
      · replace h := og_neg c9 h
        refine lv_iconst (v := (1 : Int32)) hx hb dX4_decision_49 (by decide) ?_
        refine lv_goto (tgt := 54) hx hb dX4_decision_50 (by decide) ?_
        refine lv_iadd hx hb dX4_decision_54 ?_
        exact W.iret (v := (((2 : Int32) * r5) + (1 : Int32))) hx hb hr (fun t ht hW => ⟨⟨(((2 : Int32) * r5) + (1 : Int32)), (), rfl, ⟨(congrArg Prod.fst (og_inj h)).symm, (congrArg Prod.snd (og_inj h)).symm⟩, (by rw [ht]; exact hP), hD⟩, hS.F ht⟩) hS.2.2 dX4_decision_55
    · replace h := og_pos c6 h
      refine lv_iconst (v := (-1 : Int32)) hx hb dX4_decision_31 (by decide) ?_
      exact W.iret (v := (-1 : Int32)) hx hb hr (fun t ht hW => ⟨⟨(-1 : Int32), (), rfl, ⟨(congrArg Prod.fst (og_inj h)).symm, (congrArg Prod.snd (og_inj h)).symm⟩, (by rw [ht]; exact hP), hD⟩, hS.F ht⟩) hS.2.2 dX4_decision_32
set_option maxRecDepth 100000 in
set_option maxHeartbeats 8000000 in
theorem k_X4_holds (l : Launch) (D : va_G) (cA : Nat → ClassId) (aB : Nat → Nat) (aP : Nat → Nat) (aT : Nat → Nat) (aM : Nat → Nat) (aN : Nat → Nat) (L : List Nat) (sz : Nat) (u1 : Int32) (u2 : Int32) (bI : Nat → Int32) (pI : Nat → Int32) (pA : Nat → Nat → Int32) (tI : Nat → Int32) (tJ : Nat → Int64) (tP : Nat → Option Nat) (tO : Nat → Int64) (tR : Nat → Int32) (mI : Nat → Int32) (mJ : Nat → Int64) (mA : Nat → Nat → Int32) (nI : Nat → Int32) (nJ : Nat → Int64) (nA : Nat → Nat → Int32) (qI : Nat → Nat → Int32) (qJ : Nat → Nat → Int64) (R : Int32 × Unit) (h : f_X4_holds L u1 u2 pI tI tP tO qJ = some R) : Met l yX4_holds (wsU yX4_holds cX4_holds 4 (some .int)) ({ frames := 2, cells := 0, slots := 0, locals := 41 }) (PcW D cA (wl [gB aB aP aT aM aN bI, gP cA aP pI pA, gT cA aT tI tJ tP tO tR, gM cA aM mI mJ mA, gM cA aN nI nJ nA] ++ gQ L qI qJ) sz [.ref (aB 0), .int u1, .int u2]) (QI D (fun _ : Unit => (wl [gB aB aP aT aM aN bI, gP cA aP pI pA, gT cA aT tI tJ tP tO tR, gM cA aM mI mJ mA, gM cA aN nI nJ nA] ++ gQ L qI qJ)) R (va_A (wl [gB aB aP aT aM aN bI, gP cA aP pI pA, gT cA aT tI tJ tP tO tR, gM cA aM mI mJ mA, gM cA aN nI nJ nA] ++ gQ L qI qJ) sz)) 0 0 (va_A (wl [gB aB aP aT aM aN bI, gP cA aP pI pA, gT cA aT tI tJ tP tO tR, gM cA aM mI mJ mA, gM cA aN nI nJ nA] ++ gQ L qI qJ) sz) := by
  refine Met.ofW (cc := cX4_holds) (maxL := 4) (ret := (some .int)) (by decide) rfl ?_
  intro p e s m args below meth c s₁ B hml hv
  obtain ⟨rfl, hsz, hP, hK, hD0⟩ := hv
  have hx := B.exec
  have hb := B.bytes
  have hr := B.returns
  have hts := atoms_spec (ws := (wsU yX4_holds cX4_holds 4 (some .int))) B.pre
  have hT : ∀ w ∈ wsL_law, w.before ([.ref (aB 0), .int u1, .int u2] : List Value).toArray s = true := fun w h => hts w (List.mem_cons_of_mem _ h)
  have hown : s.vm.findClass RX4 = some m.cls := findClass_of_methodNamed B.named
  have hlocks := B.notSynchronized
  have hN := hK.2
  subst hsz
  have hD := hD0.self (sz := s.heap.size)
  generalize hAe : va_A (wl [gB aB aP aT aM aN bI, gP cA aP pI pA, gT cA aT tI tJ tP tO tR, gM cA aM mI mJ mA, gM cA aN nI nJ nA] ++ gQ L qI qJ) s.heap.size = A at hD ⊢
  have hA : ∀ q : Nat, s.heap.size ≤ q → A q := fun q h => by rw [← hAe]; exact Or.inr h
  have hS : va_S A s.heap s.heap [] := va_S.rf
  have hl := lv_entry ([.ref (aB 0), .int u1, .int u2]) (n := 4) (Nat.le_of_ble_eq_true rfl)
  rw [lg_entry_eq]
  generalize (lg_sl ([.ref (aB 0), .int u1, .int u2]) ++ List.replicate (4 - (lg_sl ([.ref (aB 0), .int u1, .int u2])).length) Slot.unset).toArray = ls at hl ⊢
  have hl : lv_has ls 4 [(0, .ref (aB 0)), (1, .int u1), (2, .int u2)] := hl
  unfold f_X4_holds at h
  refine lv_aload_n hx hb dX4_holds_0 rfl (lv_at hl 0 rfl) ?_
  refine va_get (D := D) (C := RX4) (T := TX4) (N := 6) hx hb hT inlX4 hown hK.1 hP 0 rfl rfl 1 (by decide) (hT _ fl_RX4_19) (fun _ h9 => h9) rfl dX4_holds_1 ?_
  refine lv_iload_n hx hb dX4_holds_4 rfl (lv_at hl 1 rfl) ?_
  obtain ⟨⟨r1, _u1⟩, e1, h⟩ := og_bind h
  try dsimp only at h
  refine gc_q (ws := (wl [gB aB aP aT aM aN bI, gP cA aP pI pA, gT cA aT tI tJ tP tO tR, gM cA aM mI mJ mA, gM cA aN nI nJ nA] ++ gQ L qI qJ)) (wc := (wl [gT cA aT tI tJ tP tO tR] ++ gQ L qI qJ)) (wr := (wl [gB aB aP aT aM aN bI, gP cA aP pI pA, gM cA aM mI mJ mA, gM cA aN nI nJ nA])) (ws' := (wl [gB aB aP aT aM aN bI, gP cA aP pI pA, gT cA aT tI tJ tP tO tR, gM cA aM mI mJ mA, gM cA aN nI nJ nA] ++ gQ L qI qJ)) (va_runV (As := [.int u1]) (rest := []) ⟨hx, hb, hml, hown, hT⟩ (k_X0_pathAt l D cA aT L s.heap.size u1 tI tJ tP tO tR qI qJ _ e1) (cwV 1 hT gv_RX4_68 rfl rfl rfl (by decide +kernel) ⟨Nat.le_of_ble_eq_true rfl, Nat.le_of_ble_eq_true rfl⟩) (pre_V (ci := 0) (q0 := 0) (wr := (wl [gB aB aP aT aM aN bI, gP cA aP pI pA, gM cA aM mI mJ mA, gM cA aN nI nJ nA])) (pmB (f := fun i => ([gB aB aP aT aM aN bI, gP cA aP pI pA, gT cA aT tI tJ tP tO tR, gM cA aM mI mJ mA, gM cA aN nI nJ nA] : List va_W).getD i []) [0, 1, 2, 3, 4] [2] [0, 1, 3, 4] (by decide)) hK hP hD rfl rfl) rfl rfl hl.1 rfl (lv_room (Nat.le_of_ble_eq_true rfl)) dX4_holds_5 ⟨Nat.le_refl _, Nat.le_refl _⟩) (pmB (f := fun i => ([gB aB aP aT aM aN bI, gP cA aP pI pA, gT cA aT tI tJ tP tO tR, gM cA aM mI mJ mA, gM cA aN nI nJ nA] : List va_W).getD i []) [0, 1, 2, 3, 4] [2] [0, 1, 3, 4] (by decide)) hP hD hS hA (pmB (f := fun i => ([gB aB aP aT aM aN bI, gP cA aP pI pA, gT cA aT tI tJ tP tO tR, gM cA aM mI mJ mA, gM cA aN nI nJ nA] : List va_W).getD i []) [0, 1, 2, 3, 4] [2] [0, 1, 3, 4] (by decide)) (fun H locs hP hD hS => ?_)
  cases r1 with
  | none =>
    show W p l e (headSpec (wsU yX4_holds cX4_holds 4 (some .int)) ({ frames := 2, cells := 0, slots := 0, locals := 41 })).room s m ([.ref (aB 0), .int u1, .int u2] : List Value).toArray below meth c H locs 0 0 (MQ below (QI D (fun _ : Unit => (wl [gB aB aP aT aM aN bI, gP cA aP pI pA, gT cA aT tI tJ tP tO tR, gM cA aM mI mJ mA, gM cA aN nI nJ nA] ++ gQ L qI qJ)) R A) ([.ref (aB 0), .int u1, .int u2] : List Value).toArray s 0 0 A) (F0 m 8 ls [.null])
    refine lv_astore_nN (lv' := [(3, .null), (0, .ref (aB 0)), (1, .int u1), (2, .int u2)]) hx hb dX4_holds_8 rfl hl (by decide) rfl (fun ls hl => ?_)
    refine lv_aload_nN hx hb dX4_holds_9 rfl (lv_at hl 0 rfl) ?_
    refine lv_ifnullN (tgt := 24) hx hb dX4_holds_10 (by decide) ?_
    refine lv_iconst (v := (-1 : Int32)) hx hb dX4_holds_24 (by decide) ?_
    exact W.iret (v := (-1 : Int32)) hx hb hr (fun t ht hW => ⟨⟨(-1 : Int32), (), rfl, ⟨(congrArg Prod.fst (og_inj h)).symm, (congrArg Prod.snd (og_inj h)).symm⟩, (by rw [ht]; exact hP), hD⟩, hS.F ht⟩) hS.2.2 dX4_holds_25
  | some a2 =>
    show W p l e (headSpec (wsU yX4_holds cX4_holds 4 (some .int)) ({ frames := 2, cells := 0, slots := 0, locals := 41 })).room s m ([.ref (aB 0), .int u1, .int u2] : List Value).toArray below meth c H locs 0 0 (MQ below (QI D (fun _ : Unit => (wl [gB aB aP aT aM aN bI, gP cA aP pI pA, gT cA aT tI tJ tP tO tR, gM cA aM mI mJ mA, gM cA aN nI nJ nA] ++ gQ L qI qJ)) R A) ([.ref (aB 0), .int u1, .int u2] : List Value).toArray s 0 0 A) (F0 m 8 ls [.ref a2])
    refine lv_astore_n (lv' := [(3, .ref a2), (0, .ref (aB 0)), (1, .int u1), (2, .int u2)]) hx hb dX4_holds_8 rfl hl (by decide) rfl (fun ls hl => ?_)
    refine lv_aload_n hx hb dX4_holds_9 rfl (lv_at hl 0 rfl) ?_
    refine lv_ifnull hx hb dX4_holds_10 ?_
    refine lv_aload_n hx hb dX4_holds_13 rfl (lv_at hl 1 rfl) ?_
    refine va_get (D := D) (C := RX4) (T := TX4) (N := 6) hx hb hT inlX4 hown hK.1 hP 0 rfl rfl 0 (by decide) (hT _ fl_RX4_12) (fun _ h9 => h9) rfl dX4_holds_14 ?_
    refine lv_iload_n hx hb dX4_holds_17 rfl (lv_at hl 3 rfl) ?_
    obtain ⟨⟨r3, _u3⟩, e3, h⟩ := og_bind h
    try dsimp only at h
    refine gc_i (ws := (wl [gB aB aP aT aM aN bI, gP cA aP pI pA, gT cA aT tI tJ tP tO tR, gM cA aM mI mJ mA, gM cA aN nI nJ nA] ++ gQ L qI qJ)) (wc := (wl [gP cA aP pI pA])) (wr := (wl [gB aB aP aT aM aN bI, gT cA aT tI tJ tP tO tR, gM cA aM mI mJ mA, gM cA aN nI nJ nA] ++ gQ L qI qJ)) (ws' := (wl [gB aB aP aT aM aN bI, gP cA aP pI pA, gT cA aT tI tJ tP tO tR, gM cA aM mI mJ mA, gM cA aN nI nJ nA] ++ gQ L qI qJ)) (va_runV (As := [.int u2]) (rest := []) ⟨hx, hb, hml, hown, hT⟩ (k_X3_hasWord l D cA aP H.size u2 pI pA _ e3) (cwV 1 hT gv_RX4_110 rfl rfl rfl (by decide +kernel) ⟨Nat.le_of_ble_eq_true rfl, Nat.le_of_ble_eq_true rfl⟩) (pre_V (ci := 3) (q0 := 0) (wr := (wl [gB aB aP aT aM aN bI, gT cA aT tI tJ tP tO tR, gM cA aM mI mJ mA, gM cA aN nI nJ nA] ++ gQ L qI qJ)) (pmC (f := fun i => ([gB aB aP aT aM aN bI, gP cA aP pI pA, gT cA aT tI tJ tP tO tR, gM cA aM mI mJ mA, gM cA aN nI nJ nA] : List va_W).getD i []) [0, 1, 2, 3, 4] [1] [0, 2, 3, 4] (by decide)) hK hP hD rfl rfl) rfl rfl hl.1 rfl (lv_room (Nat.le_of_ble_eq_true rfl)) dX4_holds_18 ⟨Nat.le_refl _, Nat.le_refl _⟩) (pmC (f := fun i => ([gB aB aP aT aM aN bI, gP cA aP pI pA, gT cA aT tI tJ tP tO tR, gM cA aM mI mJ mA, gM cA aN nI nJ nA] : List va_W).getD i []) [0, 1, 2, 3, 4] [1] [0, 2, 3, 4] (by decide)) hP hD hS hA (pmC (f := fun i => ([gB aB aP aT aM aN bI, gP cA aP pI pA, gT cA aT tI tJ tP tO tR, gM cA aM mI mJ mA, gM cA aN nI nJ nA] : List va_W).getD i []) [0, 1, 2, 3, 4] [1] [0, 2, 3, 4] (by decide)) (fun H locs hP hD hS => ?_)
    refine lv_if_ne (tgt := 26) hx hb dX4_holds_21 (by decide) (fun c4 => ?_) (fun c4 => ?_)
    · replace h := og_neg c4 h
      refine lv_aload_n hx hb dX4_holds_26 rfl (lv_at hl 1 rfl) ?_
      refine va_get (D := D) (C := RX4) (T := TX4) (N := 6) hx hb hT inlX4 hown hK.1 hP 0 rfl rfl 1 (by decide) (hT _ fl_RX4_19) (fun _ h9 => h9) rfl dX4_holds_27 ?_
      refine lv_aload_n hx hb dX4_holds_30 rfl (lv_at hl 0 rfl) ?_
      refine lv_iload_n hx hb dX4_holds_31 rfl (lv_at hl 3 rfl) ?_
      obtain ⟨⟨r5, _u5⟩, e5, h⟩ := og_bind h
      try dsimp only at h
      refine gc_i (ws := (wl [gB aB aP aT aM aN bI, gP cA aP pI pA, gT cA aT tI tJ tP tO tR, gM cA aM mI mJ mA, gM cA aN nI nJ nA] ++ gQ L qI qJ)) (wc := (wl [gT cA aT tI tJ tP tO tR] ++ gQ L qI qJ)) (wr := (wl [gB aB aP aT aM aN bI, gP cA aP pI pA, gM cA aM mI mJ mA, gM cA aN nI nJ nA])) (ws' := (wl [gB aB aP aT aM aN bI, gP cA aP pI pA, gT cA aT tI tJ tP tO tR, gM cA aM mI mJ mA, gM cA aN nI nJ nA] ++ gQ L qI qJ)) (va_runV (As := [.ref a2, .int u2]) (rest := []) ⟨hx, hb, hml, hown, hT⟩ (k_X0_goes l D cA aT L H.size a2 u2 tI tJ tP tO tR qI qJ _ e5) (cwV 2 hT gv_RX4_114 rfl rfl rfl (by decide +kernel) ⟨Nat.le_of_ble_eq_true rfl, Nat.le_of_ble_eq_true rfl⟩) (pre_V (ci := 0) (q0 := 0) (wr := (wl [gB aB aP aT aM aN bI, gP cA aP pI pA, gM cA aM mI mJ mA, gM cA aN nI nJ nA])) (pmB (f := fun i => ([gB aB aP aT aM aN bI, gP cA aP pI pA, gT cA aT tI tJ tP tO tR, gM cA aM mI mJ mA, gM cA aN nI nJ nA] : List va_W).getD i []) [0, 1, 2, 3, 4] [2] [0, 1, 3, 4] (by decide)) hK hP hD rfl rfl) rfl rfl hl.1 rfl (lv_room (Nat.le_of_ble_eq_true rfl)) dX4_holds_32 ⟨Nat.le_refl _, Nat.le_refl _⟩) (pmB (f := fun i => ([gB aB aP aT aM aN bI, gP cA aP pI pA, gT cA aT tI tJ tP tO tR, gM cA aM mI mJ mA, gM cA aN nI nJ nA] : List va_W).getD i []) [0, 1, 2, 3, 4] [2] [0, 1, 3, 4] (by decide)) hP hD hS hA (pmB (f := fun i => ([gB aB aP aT aM aN bI, gP cA aP pI pA, gT cA aT tI tJ tP tO tR, gM cA aM mI mJ mA, gM cA aN nI nJ nA] : List va_W).getD i []) [0, 1, 2, 3, 4] [2] [0, 1, 3, 4] (by decide)) (fun H locs hP hD hS => ?_)
      refine lv_if_eq (tgt := 42) hx hb dX4_holds_35 (by decide) (fun c6 => ?_) (fun c6 => ?_)
      · replace h := og_pos c6 h
        refine lv_iconst (v := (0 : Int32)) hx hb dX4_holds_42 (by decide) ?_
        exact W.iret (v := (0 : Int32)) hx hb hr (fun t ht hW => ⟨⟨(0 : Int32), (), rfl, ⟨(congrArg Prod.fst (og_inj h)).symm, (congrArg Prod.snd (og_inj h)).symm⟩, (by rw [ht]; exact hP), hD⟩, hS.F ht⟩) hS.2.2 dX4_holds_43
      · replace h := og_neg c6 h
        refine lv_iconst (v := (1 : Int32)) hx hb dX4_holds_38 (by decide) ?_
        refine lv_goto (tgt := 43) hx hb dX4_holds_39 (by decide) ?_
        exact W.iret (v := (1 : Int32)) hx hb hr (fun t ht hW => ⟨⟨(1 : Int32), (), rfl, ⟨(congrArg Prod.fst (og_inj h)).symm, (congrArg Prod.snd (og_inj h)).symm⟩, (by rw [ht]; exact hP), hD⟩, hS.F ht⟩) hS.2.2 dX4_holds_43
    · replace h := og_pos c4 h
      refine lv_iconst (v := (-1 : Int32)) hx hb dX4_holds_24 (by decide) ?_
      exact W.iret (v := (-1 : Int32)) hx hb hr (fun t ht hW => ⟨⟨(-1 : Int32), (), rfl, ⟨(congrArg Prod.fst (og_inj h)).symm, (congrArg Prod.snd (og_inj h)).symm⟩, (by rw [ht]; exact hP), hD⟩, hS.F ht⟩) hS.2.2 dX4_holds_25
set_option maxRecDepth 100000 in
set_option maxHeartbeats 8000000 in
theorem k_X4_value (l : Launch) (D : va_G) (cA : Nat → ClassId) (aB : Nat → Nat) (aP : Nat → Nat) (aT : Nat → Nat) (aM : Nat → Nat) (aN : Nat → Nat) (L : List Nat) (sz : Nat) (n : Nat) (u1 : Int32) (u2 : Int32) (bI : Nat → Int32) (pI : Nat → Int32) (pA : Nat → Nat → Int32) (tI : Nat → Int32) (tJ : Nat → Int64) (tP : Nat → Option Nat) (tO : Nat → Int64) (tR : Nat → Int32) (mI : Nat → Int32) (mJ : Nat → Int64) (mA : Nat → Nat → Int32) (nI : Nat → Int32) (nJ : Nat → Int64) (nA : Nat → Nat → Int32) (qI : Nat → Nat → Int32) (qJ : Nat → Nat → Int64) (R : Int32 × (Nat → Int32) × (Nat → Int64) × (Nat → Nat → Int32)) (h : f_X4_value n L u1 u2 pI pA tI tP mI mJ mA qJ = some R) : Met l yX4_value (wsU yX4_value cX4_value 4 (some .int)) ({ frames := 5, cells := 0, slots := 0, locals := 117 }) (PcW D cA (wl [gB aB aP aT aM aN bI, gP cA aP pI pA, gT cA aT tI tJ tP tO tR, gM cA aM mI mJ mA, gM cA aN nI nJ nA] ++ gQ L qI qJ) sz [.ref (aB 0), .int u1, .int u2]) (QI D (fun u : (Nat → Int32) × (Nat → Int64) × (Nat → Nat → Int32) => (wl [gB aB aP aT aM aN bI, gP cA aP pI pA, gT cA aT tI tJ tP tO tR, gM cA aM u.1 u.2.1 u.2.2, gM cA aN nI nJ nA] ++ gQ L qI qJ)) R (va_A (wl [gB aB aP aT aM aN bI, gP cA aP pI pA, gT cA aT tI tJ tP tO tR, gM cA aM mI mJ mA, gM cA aN nI nJ nA] ++ gQ L qI qJ) sz)) 0 0 (va_A (wl [gB aB aP aT aM aN bI, gP cA aP pI pA, gT cA aT tI tJ tP tO tR, gM cA aM mI mJ mA, gM cA aN nI nJ nA] ++ gQ L qI qJ) sz) := by
  refine Met.ofW (cc := cX4_value) (maxL := 4) (ret := (some .int)) (by decide) rfl ?_
  intro p e s m args below meth c s₁ B hml hv
  obtain ⟨rfl, hsz, hP, hK, hD0⟩ := hv
  have hx := B.exec
  have hb := B.bytes
  have hr := B.returns
  have hts := atoms_spec (ws := (wsU yX4_value cX4_value 4 (some .int))) B.pre
  have hT : ∀ w ∈ wsL_law, w.before ([.ref (aB 0), .int u1, .int u2] : List Value).toArray s = true := fun w h => hts w (List.mem_cons_of_mem _ h)
  have hown : s.vm.findClass RX4 = some m.cls := findClass_of_methodNamed B.named
  have hlocks := B.notSynchronized
  have hN := hK.2
  subst hsz
  have hD := hD0.self (sz := s.heap.size)
  generalize hAe : va_A (wl [gB aB aP aT aM aN bI, gP cA aP pI pA, gT cA aT tI tJ tP tO tR, gM cA aM mI mJ mA, gM cA aN nI nJ nA] ++ gQ L qI qJ) s.heap.size = A at hD ⊢
  have hA : ∀ q : Nat, s.heap.size ≤ q → A q := fun q h => by rw [← hAe]; exact Or.inr h
  have hS : va_S A s.heap s.heap [] := va_S.rf
  have hl := lv_entry ([.ref (aB 0), .int u1, .int u2]) (n := 4) (Nat.le_of_ble_eq_true rfl)
  rw [lg_entry_eq]
  generalize (lg_sl ([.ref (aB 0), .int u1, .int u2]) ++ List.replicate (4 - (lg_sl ([.ref (aB 0), .int u1, .int u2])).length) Slot.unset).toArray = ls at hl ⊢
  have hl : lv_has ls 4 [(0, .ref (aB 0)), (1, .int u1), (2, .int u2)] := hl
  unfold f_X4_value at h
  refine lv_aload_n hx hb dX4_value_0 rfl (lv_at hl 0 rfl) ?_
  refine va_get (D := D) (C := RX4) (T := TX4) (N := 6) hx hb hT inlX4 hown hK.1 hP 0 rfl rfl 1 (by decide) (hT _ fl_RX4_19) (fun _ h9 => h9) rfl dX4_value_1 ?_
  refine lv_iload_n hx hb dX4_value_4 rfl (lv_at hl 1 rfl) ?_
  obtain ⟨⟨r1, _u1⟩, e1, h⟩ := og_bind h
  try dsimp only at h
  refine gc_q (ws := (wl [gB aB aP aT aM aN bI, gP cA aP pI pA, gT cA aT tI tJ tP tO tR, gM cA aM mI mJ mA, gM cA aN nI nJ nA] ++ gQ L qI qJ)) (wc := (wl [gT cA aT tI tJ tP tO tR] ++ gQ L qI qJ)) (wr := (wl [gB aB aP aT aM aN bI, gP cA aP pI pA, gM cA aM mI mJ mA, gM cA aN nI nJ nA])) (ws' := (wl [gB aB aP aT aM aN bI, gP cA aP pI pA, gT cA aT tI tJ tP tO tR, gM cA aM mI mJ mA, gM cA aN nI nJ nA] ++ gQ L qI qJ)) (va_runV (As := [.int u1]) (rest := []) ⟨hx, hb, hml, hown, hT⟩ (k_X0_pathAt l D cA aT L s.heap.size u1 tI tJ tP tO tR qI qJ _ e1) (cwV 1 hT gv_RX4_68 rfl rfl rfl (by decide +kernel) ⟨Nat.le_of_ble_eq_true rfl, Nat.le_of_ble_eq_true rfl⟩) (pre_V (ci := 0) (q0 := 0) (wr := (wl [gB aB aP aT aM aN bI, gP cA aP pI pA, gM cA aM mI mJ mA, gM cA aN nI nJ nA])) (pmB (f := fun i => ([gB aB aP aT aM aN bI, gP cA aP pI pA, gT cA aT tI tJ tP tO tR, gM cA aM mI mJ mA, gM cA aN nI nJ nA] : List va_W).getD i []) [0, 1, 2, 3, 4] [2] [0, 1, 3, 4] (by decide)) hK hP hD rfl rfl) rfl rfl hl.1 rfl (lv_room (Nat.le_of_ble_eq_true rfl)) dX4_value_5 ⟨Nat.le_refl _, Nat.le_refl _⟩) (pmB (f := fun i => ([gB aB aP aT aM aN bI, gP cA aP pI pA, gT cA aT tI tJ tP tO tR, gM cA aM mI mJ mA, gM cA aN nI nJ nA] : List va_W).getD i []) [0, 1, 2, 3, 4] [2] [0, 1, 3, 4] (by decide)) hP hD hS hA (pmB (f := fun i => ([gB aB aP aT aM aN bI, gP cA aP pI pA, gT cA aT tI tJ tP tO tR, gM cA aM mI mJ mA, gM cA aN nI nJ nA] : List va_W).getD i []) [0, 1, 2, 3, 4] [2] [0, 1, 3, 4] (by decide)) (fun H locs hP hD hS => ?_)
  cases r1 with
  | none =>
    show W p l e (headSpec (wsU yX4_value cX4_value 4 (some .int)) ({ frames := 5, cells := 0, slots := 0, locals := 117 })).room s m ([.ref (aB 0), .int u1, .int u2] : List Value).toArray below meth c H locs 0 0 (MQ below (QI D (fun u : (Nat → Int32) × (Nat → Int64) × (Nat → Nat → Int32) => (wl [gB aB aP aT aM aN bI, gP cA aP pI pA, gT cA aT tI tJ tP tO tR, gM cA aM u.1 u.2.1 u.2.2, gM cA aN nI nJ nA] ++ gQ L qI qJ)) R A) ([.ref (aB 0), .int u1, .int u2] : List Value).toArray s 0 0 A) (F0 m 8 ls [.null])
    refine lv_astore_nN (lv' := [(3, .null), (0, .ref (aB 0)), (1, .int u1), (2, .int u2)]) hx hb dX4_value_8 rfl hl (by decide) rfl (fun ls hl => ?_)
    refine lv_aload_nN hx hb dX4_value_9 rfl (lv_at hl 0 rfl) ?_
    refine lv_ifnullN (tgt := 24) hx hb dX4_value_10 (by decide) ?_
    refine lv_iconst (v := (0 : Int32)) hx hb dX4_value_24 (by decide) ?_
    exact W.iret (v := (0 : Int32)) hx hb hr (fun t ht hW => ⟨⟨(0 : Int32), (mI, mJ, mA), rfl, ⟨(congrArg Prod.fst (og_inj h)).symm, (congrArg Prod.snd (og_inj h)).symm⟩, (by rw [ht]; exact hP), hD⟩, hS.F ht⟩) hS.2.2 dX4_value_25
  | some a2 =>
    show W p l e (headSpec (wsU yX4_value cX4_value 4 (some .int)) ({ frames := 5, cells := 0, slots := 0, locals := 117 })).room s m ([.ref (aB 0), .int u1, .int u2] : List Value).toArray below meth c H locs 0 0 (MQ below (QI D (fun u : (Nat → Int32) × (Nat → Int64) × (Nat → Nat → Int32) => (wl [gB aB aP aT aM aN bI, gP cA aP pI pA, gT cA aT tI tJ tP tO tR, gM cA aM u.1 u.2.1 u.2.2, gM cA aN nI nJ nA] ++ gQ L qI qJ)) R A) ([.ref (aB 0), .int u1, .int u2] : List Value).toArray s 0 0 A) (F0 m 8 ls [.ref a2])
    refine lv_astore_n (lv' := [(3, .ref a2), (0, .ref (aB 0)), (1, .int u1), (2, .int u2)]) hx hb dX4_value_8 rfl hl (by decide) rfl (fun ls hl => ?_)
    refine lv_aload_n hx hb dX4_value_9 rfl (lv_at hl 0 rfl) ?_
    refine lv_ifnull hx hb dX4_value_10 ?_
    refine lv_aload_n hx hb dX4_value_13 rfl (lv_at hl 1 rfl) ?_
    refine va_get (D := D) (C := RX4) (T := TX4) (N := 6) hx hb hT inlX4 hown hK.1 hP 0 rfl rfl 0 (by decide) (hT _ fl_RX4_12) (fun _ h9 => h9) rfl dX4_value_14 ?_
    refine lv_iload_n hx hb dX4_value_17 rfl (lv_at hl 3 rfl) ?_
    obtain ⟨⟨r3, _u3⟩, e3, h⟩ := og_bind h
    try dsimp only at h
    refine gc_i (ws := (wl [gB aB aP aT aM aN bI, gP cA aP pI pA, gT cA aT tI tJ tP tO tR, gM cA aM mI mJ mA, gM cA aN nI nJ nA] ++ gQ L qI qJ)) (wc := (wl [gP cA aP pI pA])) (wr := (wl [gB aB aP aT aM aN bI, gT cA aT tI tJ tP tO tR, gM cA aM mI mJ mA, gM cA aN nI nJ nA] ++ gQ L qI qJ)) (ws' := (wl [gB aB aP aT aM aN bI, gP cA aP pI pA, gT cA aT tI tJ tP tO tR, gM cA aM mI mJ mA, gM cA aN nI nJ nA] ++ gQ L qI qJ)) (va_runV (As := [.int u2]) (rest := []) ⟨hx, hb, hml, hown, hT⟩ (k_X3_hasWord l D cA aP H.size u2 pI pA _ e3) (cwV 1 hT gv_RX4_110 rfl rfl rfl (by decide +kernel) ⟨Nat.le_of_ble_eq_true rfl, Nat.le_of_ble_eq_true rfl⟩) (pre_V (ci := 3) (q0 := 0) (wr := (wl [gB aB aP aT aM aN bI, gT cA aT tI tJ tP tO tR, gM cA aM mI mJ mA, gM cA aN nI nJ nA] ++ gQ L qI qJ)) (pmC (f := fun i => ([gB aB aP aT aM aN bI, gP cA aP pI pA, gT cA aT tI tJ tP tO tR, gM cA aM mI mJ mA, gM cA aN nI nJ nA] : List va_W).getD i []) [0, 1, 2, 3, 4] [1] [0, 2, 3, 4] (by decide)) hK hP hD rfl rfl) rfl rfl hl.1 rfl (lv_room (Nat.le_of_ble_eq_true rfl)) dX4_value_18 ⟨Nat.le_refl _, Nat.le_refl _⟩) (pmC (f := fun i => ([gB aB aP aT aM aN bI, gP cA aP pI pA, gT cA aT tI tJ tP tO tR, gM cA aM mI mJ mA, gM cA aN nI nJ nA] : List va_W).getD i []) [0, 1, 2, 3, 4] [1] [0, 2, 3, 4] (by decide)) hP hD hS hA (pmC (f := fun i => ([gB aB aP aT aM aN bI, gP cA aP pI pA, gT cA aT tI tJ tP tO tR, gM cA aM mI mJ mA, gM cA aN nI nJ nA] : List va_W).getD i []) [0, 1, 2, 3, 4] [1] [0, 2, 3, 4] (by decide)) (fun H locs hP hD hS => ?_)
    refine lv_if_ne (tgt := 26) hx hb dX4_value_21 (by decide) (fun c4 => ?_) (fun c4 => ?_)
    · replace h := og_neg c4 h
      refine lv_aload_n hx hb dX4_value_26 rfl (lv_at hl 1 rfl) ?_
      refine va_get (D := D) (C := RX4) (T := TX4) (N := 6) hx hb hT inlX4 hown hK.1 hP 0 rfl rfl 2 (by decide) (hT _ fl_RX4_26) (fun _ h9 => h9) rfl dX4_value_27 ?_
      refine lv_aload_n hx hb dX4_value_30 rfl (lv_at hl 1 rfl) ?_
      refine va_get (D := D) (C := RX4) (T := TX4) (N := 6) hx hb hT inlX4 hown hK.1 hP 0 rfl rfl 0 (by decide) (hT _ fl_RX4_12) (fun _ h9 => h9) rfl dX4_value_31 ?_
      refine lv_iload_n hx hb dX4_value_34 rfl (lv_at hl 3 rfl) ?_
      refine lv_aload_n hx hb dX4_value_35 rfl (lv_at hl 0 rfl) ?_
      obtain ⟨⟨mI5, mJ5, mA5⟩, e5, h⟩ := og_bind h
      try dsimp only at h
      refine gc_v (ws := (wl [gB aB aP aT aM aN bI, gP cA aP pI pA, gT cA aT tI tJ tP tO tR, gM cA aM mI mJ mA, gM cA aN nI nJ nA] ++ gQ L qI qJ)) (wc := (wl [gP cA aP pI pA, gM cA aM mI mJ mA] ++ gQ L qI qJ)) (wr := (wl [gB aB aP aT aM aN bI, gT cA aT tI tJ tP tO tR, gM cA aN nI nJ nA])) (ws' := (wl [gB aB aP aT aM aN bI, gP cA aP pI pA, gT cA aT tI tJ tP tO tR, gM cA aM mI5 mJ5 mA5, gM cA aN nI nJ nA] ++ gQ L qI qJ)) (va_runV (As := [.ref (aP 0), .int u2, .ref a2]) (rest := []) ⟨hx, hb, hml, hown, hT⟩ (k_X1_execute1 l D cA aP aM L H.size n u2 a2 pI pA mI mJ mA qI qJ _ e5) (cwV 3 hT gv_RX4_118 rfl rfl rfl (by decide +kernel) ⟨Nat.le_of_ble_eq_true rfl, Nat.le_of_ble_eq_true rfl⟩) (pre_V (ci := 1) (q0 := 8) (wr := (wl [gB aB aP aT aM aN bI, gT cA aT tI tJ tP tO tR, gM cA aN nI nJ nA])) (pmB (f := fun i => ([gB aB aP aT aM aN bI, gP cA aP pI pA, gT cA aT tI tJ tP tO tR, gM cA aM mI mJ mA, gM cA aN nI nJ nA] : List va_W).getD i []) [0, 1, 2, 3, 4] [1, 3] [0, 2, 4] (by decide)) hK hP hD rfl rfl) rfl rfl hl.1 rfl (lv_room (Nat.le_of_ble_eq_true rfl)) dX4_value_36 ⟨Nat.le_refl _, Nat.le_refl _⟩) (pmB (f := fun i => ([gB aB aP aT aM aN bI, gP cA aP pI pA, gT cA aT tI tJ tP tO tR, gM cA aM mI mJ mA, gM cA aN nI nJ nA] : List va_W).getD i []) [0, 1, 2, 3, 4] [1, 3] [0, 2, 4] (by decide)) hP hD hS hA (pmB (f := fun i => ([gB aB aP aT aM aN bI, gP cA aP pI pA, gT cA aT tI tJ tP tO tR, gM cA aM mI5 mJ5 mA5, gM cA aN nI nJ nA] : List va_W).getD i []) [0, 1, 2, 3, 4] [1, 3] [0, 2, 4] (by decide)) (fun H locs hP hD hS => ?_)
      refine lv_aload_n hx hb dX4_value_39 rfl (lv_at hl 1 rfl) ?_
      refine va_get (D := D) (C := RX4) (T := TX4) (N := 6) hx hb hT inlX4 hown hK.1 hP 0 rfl rfl 2 (by decide) (hT _ fl_RX4_26) (fun _ h9 => h9) rfl dX4_value_40 ?_
      refine va_getN (D := D) (C := RX1) (T := TX1) (N := 12) hx hb hT inlX1 hown hK.1 hP 13 rfl rfl 11 (by decide) (va_Nw.use rfl (hN _ nl_RX4_122)) (fun _ h9 => h9) rfl dX4_value_43 ?_
      exact W.iret (v := (mI5 4)) hx hb hr (fun t ht hW => ⟨⟨(mI5 4), (mI5, mJ5, mA5), rfl, ⟨(congrArg Prod.fst (og_inj h)).symm, (congrArg Prod.snd (og_inj h)).symm⟩, (by rw [ht]; exact hP), hD⟩, hS.F ht⟩) hS.2.2 dX4_value_46
    · replace h := og_pos c4 h
      refine lv_iconst (v := (0 : Int32)) hx hb dX4_value_24 (by decide) ?_
      exact W.iret (v := (0 : Int32)) hx hb hr (fun t ht hW => ⟨⟨(0 : Int32), (mI, mJ, mA), rfl, ⟨(congrArg Prod.fst (og_inj h)).symm, (congrArg Prod.snd (og_inj h)).symm⟩, (by rw [ht]; exact hP), hD⟩, hS.F ht⟩) hS.2.2 dX4_value_25
set_option maxRecDepth 100000 in
set_option maxHeartbeats 8000000 in
theorem k_X4_find (l : Launch) (D : va_G) (cA : Nat → ClassId) (aB : Nat → Nat) (aP : Nat → Nat) (aT : Nat → Nat) (aM : Nat → Nat) (aN : Nat → Nat) (L : List Nat) (sz : Nat) (n : Nat) (u1 : Int32) (u2 : Int32) (u3 : Int32) (bI : Nat → Int32) (pI : Nat → Int32) (pA : Nat → Nat → Int32) (tI : Nat → Int32) (tJ : Nat → Int64) (tP : Nat → Option Nat) (tO : Nat → Int64) (tR : Nat → Int32) (mI : Nat → Int32) (mJ : Nat → Int64) (mA : Nat → Nat → Int32) (nI : Nat → Int32) (nJ : Nat → Int64) (nA : Nat → Nat → Int32) (qI : Nat → Nat → Int32) (qJ : Nat → Nat → Int64) (R : Int32 × Unit) (h : f_X4_find n L u1 u2 u3 pI tI tP tO tR qI qJ = some R) : Met l yX4_find (wsU yX4_find cX4_find 5 (some .int)) ({ frames := 3, cells := 0, slots := 0, locals := 68 }) (PcW D cA (wl [gB aB aP aT aM aN bI, gP cA aP pI pA, gT cA aT tI tJ tP tO tR, gM cA aM mI mJ mA, gM cA aN nI nJ nA] ++ gQ L qI qJ) sz [.ref (aB 0), .int u1, .int u2, .int u3]) (QI D (fun _ : Unit => (wl [gB aB aP aT aM aN bI, gP cA aP pI pA, gT cA aT tI tJ tP tO tR, gM cA aM mI mJ mA, gM cA aN nI nJ nA] ++ gQ L qI qJ)) R (va_A (wl [gB aB aP aT aM aN bI, gP cA aP pI pA, gT cA aT tI tJ tP tO tR, gM cA aM mI mJ mA, gM cA aN nI nJ nA] ++ gQ L qI qJ) sz)) 0 0 (va_A (wl [gB aB aP aT aM aN bI, gP cA aP pI pA, gT cA aT tI tJ tP tO tR, gM cA aM mI mJ mA, gM cA aN nI nJ nA] ++ gQ L qI qJ) sz) := by
  refine Met.ofW (cc := cX4_find) (maxL := 5) (ret := (some .int)) (by decide) rfl ?_
  intro p e s m args below meth c s₁ B hml hv
  obtain ⟨rfl, hsz, hP, hK, hD0⟩ := hv
  have hx := B.exec
  have hb := B.bytes
  have hr := B.returns
  have hts := atoms_spec (ws := (wsU yX4_find cX4_find 5 (some .int))) B.pre
  have hT : ∀ w ∈ wsL_law, w.before ([.ref (aB 0), .int u1, .int u2, .int u3] : List Value).toArray s = true := fun w h => hts w (List.mem_cons_of_mem _ h)
  have hown : s.vm.findClass RX4 = some m.cls := findClass_of_methodNamed B.named
  have hlocks := B.notSynchronized
  have hN := hK.2
  subst hsz
  have hD := hD0.self (sz := s.heap.size)
  generalize hAe : va_A (wl [gB aB aP aT aM aN bI, gP cA aP pI pA, gT cA aT tI tJ tP tO tR, gM cA aM mI mJ mA, gM cA aN nI nJ nA] ++ gQ L qI qJ) s.heap.size = A at hD ⊢
  have hA : ∀ q : Nat, s.heap.size ≤ q → A q := fun q h => by rw [← hAe]; exact Or.inr h
  have hS : va_S A s.heap s.heap [] := va_S.rf
  have hl := lv_entry ([.ref (aB 0), .int u1, .int u2, .int u3]) (n := 5) (Nat.le_of_ble_eq_true rfl)
  rw [lg_entry_eq]
  generalize (lg_sl ([.ref (aB 0), .int u1, .int u2, .int u3]) ++ List.replicate (5 - (lg_sl ([.ref (aB 0), .int u1, .int u2, .int u3])).length) Slot.unset).toArray = ls at hl ⊢
  have hl : lv_has ls 5 [(0, .ref (aB 0)), (1, .int u1), (2, .int u2), (3, .int u3)] := hl
  unfold f_X4_find at h
  refine lv_aload_n hx hb dX4_find_0 rfl (lv_at hl 0 rfl) ?_
  refine va_get (D := D) (C := RX4) (T := TX4) (N := 6) hx hb hT inlX4 hown hK.1 hP 0 rfl rfl 1 (by decide) (hT _ fl_RX4_19) (fun _ h9 => h9) rfl dX4_find_1 ?_
  refine lv_iload_n hx hb dX4_find_4 rfl (lv_at hl 1 rfl) ?_
  obtain ⟨⟨r1, _u1⟩, e1, h⟩ := og_bind h
  try dsimp only at h
  refine gc_q (ws := (wl [gB aB aP aT aM aN bI, gP cA aP pI pA, gT cA aT tI tJ tP tO tR, gM cA aM mI mJ mA, gM cA aN nI nJ nA] ++ gQ L qI qJ)) (wc := (wl [gT cA aT tI tJ tP tO tR] ++ gQ L qI qJ)) (wr := (wl [gB aB aP aT aM aN bI, gP cA aP pI pA, gM cA aM mI mJ mA, gM cA aN nI nJ nA])) (ws' := (wl [gB aB aP aT aM aN bI, gP cA aP pI pA, gT cA aT tI tJ tP tO tR, gM cA aM mI mJ mA, gM cA aN nI nJ nA] ++ gQ L qI qJ)) (va_runV (As := [.int u1]) (rest := []) ⟨hx, hb, hml, hown, hT⟩ (k_X0_pathAt l D cA aT L s.heap.size u1 tI tJ tP tO tR qI qJ _ e1) (cwV 1 hT gv_RX4_68 rfl rfl rfl (by decide +kernel) ⟨Nat.le_of_ble_eq_true rfl, Nat.le_of_ble_eq_true rfl⟩) (pre_V (ci := 0) (q0 := 0) (wr := (wl [gB aB aP aT aM aN bI, gP cA aP pI pA, gM cA aM mI mJ mA, gM cA aN nI nJ nA])) (pmB (f := fun i => ([gB aB aP aT aM aN bI, gP cA aP pI pA, gT cA aT tI tJ tP tO tR, gM cA aM mI mJ mA, gM cA aN nI nJ nA] : List va_W).getD i []) [0, 1, 2, 3, 4] [2] [0, 1, 3, 4] (by decide)) hK hP hD rfl rfl) rfl rfl hl.1 rfl (lv_room (Nat.le_of_ble_eq_true rfl)) dX4_find_5 ⟨Nat.le_refl _, Nat.le_refl _⟩) (pmB (f := fun i => ([gB aB aP aT aM aN bI, gP cA aP pI pA, gT cA aT tI tJ tP tO tR, gM cA aM mI mJ mA, gM cA aN nI nJ nA] : List va_W).getD i []) [0, 1, 2, 3, 4] [2] [0, 1, 3, 4] (by decide)) hP hD hS hA (pmB (f := fun i => ([gB aB aP aT aM aN bI, gP cA aP pI pA, gT cA aT tI tJ tP tO tR, gM cA aM mI mJ mA, gM cA aN nI nJ nA] : List va_W).getD i []) [0, 1, 2, 3, 4] [2] [0, 1, 3, 4] (by decide)) (fun H locs hP hD hS => ?_)
  cases r1 with
  | none =>
    show W p l e (headSpec (wsU yX4_find cX4_find 5 (some .int)) ({ frames := 3, cells := 0, slots := 0, locals := 68 })).room s m ([.ref (aB 0), .int u1, .int u2, .int u3] : List Value).toArray below meth c H locs 0 0 (MQ below (QI D (fun _ : Unit => (wl [gB aB aP aT aM aN bI, gP cA aP pI pA, gT cA aT tI tJ tP tO tR, gM cA aM mI mJ mA, gM cA aN nI nJ nA] ++ gQ L qI qJ)) R A) ([.ref (aB 0), .int u1, .int u2, .int u3] : List Value).toArray s 0 0 A) (F0 m 8 ls [.null])
    refine lv_astoreN (lv' := [(4, .null), (0, .ref (aB 0)), (1, .int u1), (2, .int u2), (3, .int u3)]) hx hb dX4_find_8 hl (by decide) rfl (fun ls hl => ?_)
    refine lv_aloadN hx hb dX4_find_10 (lv_at hl 0 rfl) ?_
    refine lv_ifnonnullN hx hb dX4_find_12 ?_
    refine lv_iconst (v := (-1 : Int32)) hx hb dX4_find_15 (by decide) ?_
    exact W.iret (v := (-1 : Int32)) hx hb hr (fun t ht hW => ⟨⟨(-1 : Int32), (), rfl, ⟨(congrArg Prod.fst (og_inj h)).symm, (congrArg Prod.snd (og_inj h)).symm⟩, (by rw [ht]; exact hP), hD⟩, hS.F ht⟩) hS.2.2 dX4_find_16
  | some a2 =>
    show W p l e (headSpec (wsU yX4_find cX4_find 5 (some .int)) ({ frames := 3, cells := 0, slots := 0, locals := 68 })).room s m ([.ref (aB 0), .int u1, .int u2, .int u3] : List Value).toArray below meth c H locs 0 0 (MQ below (QI D (fun _ : Unit => (wl [gB aB aP aT aM aN bI, gP cA aP pI pA, gT cA aT tI tJ tP tO tR, gM cA aM mI mJ mA, gM cA aN nI nJ nA] ++ gQ L qI qJ)) R A) ([.ref (aB 0), .int u1, .int u2, .int u3] : List Value).toArray s 0 0 A) (F0 m 8 ls [.ref a2])
    refine lv_astore (lv' := [(4, .ref a2), (0, .ref (aB 0)), (1, .int u1), (2, .int u2), (3, .int u3)]) hx hb dX4_find_8 hl (by decide) rfl (fun ls hl => ?_)
    refine lv_aload hx hb dX4_find_10 (lv_at hl 0 rfl) ?_
    refine lv_ifnonnull (tgt := 17) hx hb dX4_find_12 (by decide) ?_
    refine lv_aload_n hx hb dX4_find_17 rfl (lv_at hl 1 rfl) ?_
    refine va_get (D := D) (C := RX4) (T := TX4) (N := 6) hx hb hT inlX4 hown hK.1 hP 0 rfl rfl 1 (by decide) (hT _ fl_RX4_19) (fun _ h9 => h9) rfl dX4_find_18 ?_
    refine lv_aload hx hb dX4_find_21 (lv_at hl 0 rfl) ?_
    refine lv_iload_n hx hb dX4_find_23 rfl (lv_at hl 3 rfl) ?_
    refine lv_iload_n hx hb dX4_find_24 rfl (lv_at hl 4 rfl) ?_
    refine lv_aload_n hx hb dX4_find_25 rfl (lv_at hl 1 rfl) ?_
    refine va_get (D := D) (C := RX4) (T := TX4) (N := 6) hx hb hT inlX4 hown hK.1 hP 0 rfl rfl 0 (by decide) (hT _ fl_RX4_12) (fun _ h9 => h9) rfl dX4_find_26 ?_
    obtain ⟨⟨r3, _u3⟩, e3, h⟩ := og_bind h
    try dsimp only at h
    refine gc_i (ws := (wl [gB aB aP aT aM aN bI, gP cA aP pI pA, gT cA aT tI tJ tP tO tR, gM cA aM mI mJ mA, gM cA aN nI nJ nA] ++ gQ L qI qJ)) (wc := (wl [gP cA aP pI pA])) (wr := (wl [gB aB aP aT aM aN bI, gT cA aT tI tJ tP tO tR, gM cA aM mI mJ mA, gM cA aN nI nJ nA] ++ gQ L qI qJ)) (ws' := (wl [gB aB aP aT aM aN bI, gP cA aP pI pA, gT cA aT tI tJ tP tO tR, gM cA aM mI mJ mA, gM cA aN nI nJ nA] ++ gQ L qI qJ)) (va_runV (As := []) (rest := [.int u3, .int u2, .ref a2, .ref (aT 0)]) ⟨hx, hb, hml, hown, hT⟩ (k_X3_words l D cA aP H.size  pI pA _ e3) (cwV 0 hT gv_RX4_123 rfl rfl rfl (by decide +kernel) ⟨Nat.le_of_ble_eq_true rfl, Nat.le_of_ble_eq_true rfl⟩) (pre_V (ci := 3) (q0 := 0) (wr := (wl [gB aB aP aT aM aN bI, gT cA aT tI tJ tP tO tR, gM cA aM mI mJ mA, gM cA aN nI nJ nA] ++ gQ L qI qJ)) (pmC (f := fun i => ([gB aB aP aT aM aN bI, gP cA aP pI pA, gT cA aT tI tJ tP tO tR, gM cA aM mI mJ mA, gM cA aN nI nJ nA] : List va_W).getD i []) [0, 1, 2, 3, 4] [1] [0, 2, 3, 4] (by decide)) hK hP hD rfl rfl) rfl rfl hl.1 rfl (lv_room (Nat.le_of_ble_eq_true rfl)) dX4_find_29 ⟨Nat.le_refl _, Nat.le_refl _⟩) (pmC (f := fun i => ([gB aB aP aT aM aN bI, gP cA aP pI pA, gT cA aT tI tJ tP tO tR, gM cA aM mI mJ mA, gM cA aN nI nJ nA] : List va_W).getD i []) [0, 1, 2, 3, 4] [1] [0, 2, 3, 4] (by decide)) hP hD hS hA (pmC (f := fun i => ([gB aB aP aT aM aN bI, gP cA aP pI pA, gT cA aT tI tJ tP tO tR, gM cA aM mI mJ mA, gM cA aN nI nJ nA] : List va_W).getD i []) [0, 1, 2, 3, 4] [1] [0, 2, 3, 4] (by decide)) (fun H locs hP hD hS => ?_)
    obtain ⟨⟨r4, _u4⟩, e4, h⟩ := og_bind h
    try dsimp only at h
    refine gc_i (ws := (wl [gB aB aP aT aM aN bI, gP cA aP pI pA, gT cA aT tI tJ tP tO tR, gM cA aM mI mJ mA, gM cA aN nI nJ nA] ++ gQ L qI qJ)) (wc := (wl [gT cA aT tI tJ tP tO tR] ++ gQ L qI qJ)) (wr := (wl [gB aB aP aT aM aN bI, gP cA aP pI pA, gM cA aM mI mJ mA, gM cA aN nI nJ nA])) (ws' := (wl [gB aB aP aT aM aN bI, gP cA aP pI pA, gT cA aT tI tJ tP tO tR, gM cA aM mI mJ mA, gM cA aN nI nJ nA] ++ gQ L qI qJ)) (va_runV (As := [.ref a2, .int u2, .int u3, .int r3]) (rest := []) ⟨hx, hb, hml, hown, hT⟩ (k_X0_leastWordWith l D cA aT L H.size n a2 u2 u3 r3 tI tJ tP tO tR qI qJ _ e4) (cwV 4 hT gv_RX4_127 rfl rfl rfl (by decide +kernel) ⟨Nat.le_of_ble_eq_true rfl, Nat.le_of_ble_eq_true rfl⟩) (pre_V (ci := 0) (q0 := 0) (wr := (wl [gB aB aP aT aM aN bI, gP cA aP pI pA, gM cA aM mI mJ mA, gM cA aN nI nJ nA])) (pmB (f := fun i => ([gB aB aP aT aM aN bI, gP cA aP pI pA, gT cA aT tI tJ tP tO tR, gM cA aM mI mJ mA, gM cA aN nI nJ nA] : List va_W).getD i []) [0, 1, 2, 3, 4] [2] [0, 1, 3, 4] (by decide)) hK hP hD rfl rfl) rfl rfl hl.1 rfl (lv_room (Nat.le_of_ble_eq_true rfl)) dX4_find_32 ⟨Nat.le_refl _, Nat.le_refl _⟩) (pmB (f := fun i => ([gB aB aP aT aM aN bI, gP cA aP pI pA, gT cA aT tI tJ tP tO tR, gM cA aM mI mJ mA, gM cA aN nI nJ nA] : List va_W).getD i []) [0, 1, 2, 3, 4] [2] [0, 1, 3, 4] (by decide)) hP hD hS hA (pmB (f := fun i => ([gB aB aP aT aM aN bI, gP cA aP pI pA, gT cA aT tI tJ tP tO tR, gM cA aM mI mJ mA, gM cA aN nI nJ nA] : List va_W).getD i []) [0, 1, 2, 3, 4] [2] [0, 1, 3, 4] (by decide)) (fun H locs hP hD hS => ?_)
    exact W.iret (v := r4) hx hb hr (fun t ht hW => ⟨⟨r4, (), rfl, ⟨(congrArg Prod.fst (og_inj h)).symm, (congrArg Prod.snd (og_inj h)).symm⟩, (by rw [ht]; exact hP), hD⟩, hS.F ht⟩) hS.2.2 dX4_find_35
set_option maxRecDepth 100000 in
set_option maxHeartbeats 8000000 in
theorem k_X4_run (l : Launch) (D : va_G) (cA : Nat → ClassId) (aB : Nat → Nat) (aP : Nat → Nat) (aT : Nat → Nat) (aM : Nat → Nat) (aN : Nat → Nat) (L : List Nat) (sz : Nat) (n : Nat) (u1 : Int32) (bI : Nat → Int32) (pI : Nat → Int32) (pA : Nat → Nat → Int32) (tI : Nat → Int32) (tJ : Nat → Int64) (tP : Nat → Option Nat) (tO : Nat → Int64) (tR : Nat → Int32) (mI : Nat → Int32) (mJ : Nat → Int64) (mA : Nat → Nat → Int32) (nI : Nat → Int32) (nJ : Nat → Int64) (nA : Nat → Nat → Int32) (qI : Nat → Nat → Int32) (qJ : Nat → Nat → Int64) (R : Int32 × (Nat → Int32) × (Nat → Int32) × (Nat → Int64) × (Nat → Nat → Int32)) (h : f_X4_run n L u1 bI pI pA nI nJ nA = some R) : Met l yX4_run (wsU yX4_run cX4_run 2 (some .int)) ({ frames := 5, cells := 0, slots := 0, locals := 117 }) (PcW D cA (wl [gB aB aP aT aM aN bI, gP cA aP pI pA, gT cA aT tI tJ tP tO tR, gM cA aM mI mJ mA, gM cA aN nI nJ nA] ++ gQ L qI qJ) sz [.ref (aB 0), .int u1]) (QI D (fun u : (Nat → Int32) × (Nat → Int32) × (Nat → Int64) × (Nat → Nat → Int32) => (wl [gB aB aP aT aM aN u.1, gP cA aP pI pA, gT cA aT tI tJ tP tO tR, gM cA aM mI mJ mA, gM cA aN u.2.1 u.2.2.1 u.2.2.2] ++ gQ L qI qJ)) R (va_A (wl [gB aB aP aT aM aN bI, gP cA aP pI pA, gT cA aT tI tJ tP tO tR, gM cA aM mI mJ mA, gM cA aN nI nJ nA] ++ gQ L qI qJ) sz)) 0 0 (va_A (wl [gB aB aP aT aM aN bI, gP cA aP pI pA, gT cA aT tI tJ tP tO tR, gM cA aM mI mJ mA, gM cA aN nI nJ nA] ++ gQ L qI qJ) sz) := by
  refine Met.ofW (cc := cX4_run) (maxL := 2) (ret := (some .int)) (by decide) rfl ?_
  intro p e s m args below meth c s₁ B hml hv
  obtain ⟨rfl, hsz, hP, hK, hD0⟩ := hv
  have hx := B.exec
  have hb := B.bytes
  have hr := B.returns
  have hts := atoms_spec (ws := (wsU yX4_run cX4_run 2 (some .int))) B.pre
  have hT : ∀ w ∈ wsL_law, w.before ([.ref (aB 0), .int u1] : List Value).toArray s = true := fun w h => hts w (List.mem_cons_of_mem _ h)
  have hown : s.vm.findClass RX4 = some m.cls := findClass_of_methodNamed B.named
  have hlocks := B.notSynchronized
  have hN := hK.2
  subst hsz
  have hD := hD0.self (sz := s.heap.size)
  generalize hAe : va_A (wl [gB aB aP aT aM aN bI, gP cA aP pI pA, gT cA aT tI tJ tP tO tR, gM cA aM mI mJ mA, gM cA aN nI nJ nA] ++ gQ L qI qJ) s.heap.size = A at hD ⊢
  have hA : ∀ q : Nat, s.heap.size ≤ q → A q := fun q h => by rw [← hAe]; exact Or.inr h
  have hS : va_S A s.heap s.heap [] := va_S.rf
  have hl := lv_entry ([.ref (aB 0), .int u1]) (n := 2) (Nat.le_of_ble_eq_true rfl)
  rw [lg_entry_eq]
  generalize (lg_sl ([.ref (aB 0), .int u1]) ++ List.replicate (2 - (lg_sl ([.ref (aB 0), .int u1])).length) Slot.unset).toArray = ls at hl ⊢
  have hl : lv_has ls 2 [(0, .ref (aB 0)), (1, .int u1)] := hl
  unfold f_X4_run at h
  refine lv_aload_n hx hb dX4_run_0 rfl (lv_at hl 0 rfl) ?_
  refine va_get (D := D) (C := RX4) (T := TX4) (N := 6) hx hb hT inlX4 hown hK.1 hP 0 rfl rfl 0 (by decide) (hT _ fl_RX4_12) (fun _ h9 => h9) rfl dX4_run_1 ?_
  refine lv_iload_n hx hb dX4_run_4 rfl (lv_at hl 1 rfl) ?_
  obtain ⟨⟨r1, _u1⟩, e1, h⟩ := og_bind h
  try dsimp only at h
  refine gc_i (ws := (wl [gB aB aP aT aM aN bI, gP cA aP pI pA, gT cA aT tI tJ tP tO tR, gM cA aM mI mJ mA, gM cA aN nI nJ nA] ++ gQ L qI qJ)) (wc := (wl [gP cA aP pI pA])) (wr := (wl [gB aB aP aT aM aN bI, gT cA aT tI tJ tP tO tR, gM cA aM mI mJ mA, gM cA aN nI nJ nA] ++ gQ L qI qJ)) (ws' := (wl [gB aB aP aT aM aN bI, gP cA aP pI pA, gT cA aT tI tJ tP tO tR, gM cA aM mI mJ mA, gM cA aN nI nJ nA] ++ gQ L qI qJ)) (va_runV (As := [.int u1]) (rest := []) ⟨hx, hb, hml, hown, hT⟩ (k_X3_hasWord l D cA aP s.heap.size u1 pI pA _ e1) (cwV 1 hT gv_RX4_110 rfl rfl rfl (by decide +kernel) ⟨Nat.le_of_ble_eq_true rfl, Nat.le_of_ble_eq_true rfl⟩) (pre_V (ci := 3) (q0 := 0) (wr := (wl [gB aB aP aT aM aN bI, gT cA aT tI tJ tP tO tR, gM cA aM mI mJ mA, gM cA aN nI nJ nA] ++ gQ L qI qJ)) (pmC (f := fun i => ([gB aB aP aT aM aN bI, gP cA aP pI pA, gT cA aT tI tJ tP tO tR, gM cA aM mI mJ mA, gM cA aN nI nJ nA] : List va_W).getD i []) [0, 1, 2, 3, 4] [1] [0, 2, 3, 4] (by decide)) hK hP hD rfl rfl) rfl rfl hl.1 rfl (lv_room (Nat.le_of_ble_eq_true rfl)) dX4_run_5 ⟨Nat.le_refl _, Nat.le_refl _⟩) (pmC (f := fun i => ([gB aB aP aT aM aN bI, gP cA aP pI pA, gT cA aT tI tJ tP tO tR, gM cA aM mI mJ mA, gM cA aN nI nJ nA] : List va_W).getD i []) [0, 1, 2, 3, 4] [1] [0, 2, 3, 4] (by decide)) hP hD hS hA (pmC (f := fun i => ([gB aB aP aT aM aN bI, gP cA aP pI pA, gT cA aT tI tJ tP tO tR, gM cA aM mI mJ mA, gM cA aN nI nJ nA] : List va_W).getD i []) [0, 1, 2, 3, 4] [1] [0, 2, 3, 4] (by decide)) (fun H locs hP hD hS => ?_)
  refine lv_if_ne (tgt := 13) hx hb dX4_run_8 (by decide) (fun c2 => ?_) (fun c2 => ?_)
  · replace h := og_neg c2 h
    refine lv_aload_n hx hb dX4_run_13 rfl (lv_at hl 0 rfl) ?_
    refine va_get (D := D) (C := RX4) (T := TX4) (N := 6) hx hb hT inlX4 hown hK.1 hP 0 rfl rfl 3 (by decide) (hT _ fl_RX4_30) (fun _ h9 => h9) rfl dX4_run_14 ?_
    refine lv_aload_n hx hb dX4_run_17 rfl (lv_at hl 0 rfl) ?_
    refine va_get (D := D) (C := RX4) (T := TX4) (N := 6) hx hb hT inlX4 hown hK.1 hP 0 rfl rfl 0 (by decide) (hT _ fl_RX4_12) (fun _ h9 => h9) rfl dX4_run_18 ?_
    refine lv_iload_n hx hb dX4_run_21 rfl (lv_at hl 1 rfl) ?_
    refine lv_null hx hb dX4_run_22 ?_
    obtain ⟨⟨nI3, nJ3, nA3⟩, e3, h⟩ := og_bind h
    try dsimp only at h
    refine gc_v (ws := (wl [gB aB aP aT aM aN bI, gP cA aP pI pA, gT cA aT tI tJ tP tO tR, gM cA aM mI mJ mA, gM cA aN nI nJ nA] ++ gQ L qI qJ)) (wc := (wl [gP cA aP pI pA, gM cA aN nI nJ nA])) (wr := (wl [gB aB aP aT aM aN bI, gT cA aT tI tJ tP tO tR, gM cA aM mI mJ mA] ++ gQ L qI qJ)) (ws' := (wl [gB aB aP aT aM aN bI, gP cA aP pI pA, gT cA aT tI tJ tP tO tR, gM cA aM mI mJ mA, gM cA aN nI3 nJ3 nA3] ++ gQ L qI qJ)) (va_runV (As := [.ref (aP 0), .int u1, .null]) (rest := []) ⟨hx, hb, hml, hown, hT⟩ (k_X1_execute0 l D cA aP aN H.size n u1 pI pA nI nJ nA _ e3) (cwV 3 hT gv_RX4_118 rfl rfl rfl (by decide +kernel) ⟨Nat.le_of_ble_eq_true rfl, Nat.le_of_ble_eq_true rfl⟩) (pre_V (ci := 1) (q0 := 8) (wr := (wl [gB aB aP aT aM aN bI, gT cA aT tI tJ tP tO tR, gM cA aM mI mJ mA] ++ gQ L qI qJ)) (pmC (f := fun i => ([gB aB aP aT aM aN bI, gP cA aP pI pA, gT cA aT tI tJ tP tO tR, gM cA aM mI mJ mA, gM cA aN nI nJ nA] : List va_W).getD i []) [0, 1, 2, 3, 4] [1, 4] [0, 2, 3] (by decide)) hK hP hD rfl rfl) rfl rfl hl.1 rfl (lv_room (Nat.le_of_ble_eq_true rfl)) dX4_run_23 ⟨Nat.le_refl _, Nat.le_refl _⟩) (pmC (f := fun i => ([gB aB aP aT aM aN bI, gP cA aP pI pA, gT cA aT tI tJ tP tO tR, gM cA aM mI mJ mA, gM cA aN nI nJ nA] : List va_W).getD i []) [0, 1, 2, 3, 4] [1, 4] [0, 2, 3] (by decide)) hP hD hS hA (pmC (f := fun i => ([gB aB aP aT aM aN bI, gP cA aP pI pA, gT cA aT tI tJ tP tO tR, gM cA aM mI mJ mA, gM cA aN nI3 nJ3 nA3] : List va_W).getD i []) [0, 1, 2, 3, 4] [1, 4] [0, 2, 3] (by decide)) (fun H locs hP hD hS => ?_)
    refine lv_aload_n hx hb dX4_run_26 rfl (lv_at hl 0 rfl) ?_
    refine lv_iconst (v := (1 : Int32)) hx hb dX4_run_27 (by decide) ?_
    refine va_put (D := D) (v := .int (1 : Int32)) (ty := .boolean) (C := RX4) (T := TX4) (N := 6) hx hb hT inlX4 tyX4 tyX4_ok nmX4 hown hK.1 hP hD hS 0 rfl rfl 4 (by decide) (hT _ fl_RX4_51) (fun _ h9 => h9) rfl (by decide +kernel) (by decide +kernel) (by decide +kernel) (Nat.le_of_ble_eq_true rfl) dX4_run_28 (fun H locs hP hD hS => ?_)
    have hP : va_P D vwCl (wl [gB aB aP aT aM aN (upd bI 0 (1 : Int32)), gP cA aP pI pA, gT cA aT tI tJ tP tO tR, gM cA aM mI mJ mA, gM cA aN nI3 nJ3 nA3] ++ gQ L qI qJ) H := hP
    have hD : va_D A (wl [gB aB aP aT aM aN (upd bI 0 (1 : Int32)), gP cA aP pI pA, gT cA aT tI tJ tP tO tR, gM cA aM mI mJ mA, gM cA aN nI3 nJ3 nA3] ++ gQ L qI qJ) := hD
    refine lv_aload_n hx hb dX4_run_31 rfl (lv_at hl 0 rfl) ?_
    refine lv_iconst (v := (0 : Int32)) hx hb dX4_run_32 (by decide) ?_
    refine va_put (D := D) (v := .int (0 : Int32)) (ty := .boolean) (C := RX4) (T := TX4) (N := 6) hx hb hT inlX4 tyX4 tyX4_ok nmX4 hown hK.1 hP hD hS 0 rfl rfl 5 (by decide) (hT _ fl_RX4_131) (fun _ h9 => h9) rfl (by decide +kernel) (by decide +kernel) (by decide +kernel) (Nat.le_of_ble_eq_true rfl) dX4_run_33 (fun H locs hP hD hS => ?_)
    have hP : va_P D vwCl (wl [gB aB aP aT aM aN (upd (upd bI 0 (1 : Int32)) 1 (0 : Int32)), gP cA aP pI pA, gT cA aT tI tJ tP tO tR, gM cA aM mI mJ mA, gM cA aN nI3 nJ3 nA3] ++ gQ L qI qJ) H := hP
    have hD : va_D A (wl [gB aB aP aT aM aN (upd (upd bI 0 (1 : Int32)) 1 (0 : Int32)), gP cA aP pI pA, gT cA aT tI tJ tP tO tR, gM cA aM mI mJ mA, gM cA aN nI3 nJ3 nA3] ++ gQ L qI qJ) := hD
    refine lv_aload_n hx hb dX4_run_36 rfl (lv_at hl 0 rfl) ?_
    refine va_get (D := D) (C := RX4) (T := TX4) (N := 6) hx hb hT inlX4 hown hK.1 hP 0 rfl rfl 3 (by decide) (hT _ fl_RX4_30) (fun _ h9 => h9) rfl dX4_run_37 ?_
    refine va_getN (D := D) (C := RX1) (T := TX1) (N := 12) hx hb hT inlX1 hown hK.1 hP 16 rfl rfl 10 (by decide) (va_Nw.use rfl (hN _ nl_RX4_134)) (fun _ h9 => h9) rfl dX4_run_40 ?_
    exact W.iret (v := (nI3 3)) hx hb hr (fun t ht hW => ⟨⟨(nI3 3), ((upd (upd bI 0 (1 : Int32)) 1 (0 : Int32)), nI3, nJ3, nA3), rfl, ⟨(congrArg Prod.fst (og_inj h)).symm, (congrArg Prod.snd (og_inj h)).symm⟩, (by rw [ht]; exact hP), hD⟩, hS.F ht⟩) hS.2.2 dX4_run_43
  · replace h := og_pos c2 h
    refine lv_iconst (v := (-1 : Int32)) hx hb dX4_run_11 (by decide) ?_
    exact W.iret (v := (-1 : Int32)) hx hb hr (fun t ht hW => ⟨⟨(-1 : Int32), (bI, nI, nJ, nA), rfl, ⟨(congrArg Prod.fst (og_inj h)).symm, (congrArg Prod.snd (og_inj h)).symm⟩, (by rw [ht]; exact hP), hD⟩, hS.F ht⟩) hS.2.2 dX4_run_12
set_option maxRecDepth 100000 in
set_option maxHeartbeats 8000000 in
theorem k_X4_ran (l : Launch) (D : va_G) (cA : Nat → ClassId) (aB : Nat → Nat) (aP : Nat → Nat) (aT : Nat → Nat) (aM : Nat → Nat) (aN : Nat → Nat) (L : List Nat) (sz : Nat) (n : Nat) (u1 : Int32) (bI : Nat → Int32) (pI : Nat → Int32) (pA : Nat → Nat → Int32) (tI : Nat → Int32) (tJ : Nat → Int64) (tP : Nat → Option Nat) (tO : Nat → Int64) (tR : Nat → Int32) (mI : Nat → Int32) (mJ : Nat → Int64) (mA : Nat → Nat → Int32) (nI : Nat → Int32) (nJ : Nat → Int64) (nA : Nat → Nat → Int32) (qI : Nat → Nat → Int32) (qJ : Nat → Nat → Int64) (R : Int32 × Unit) (h : f_X4_ran n L u1 bI tI tP nI nJ qJ = some R) : Met l yX4_ran (wsU yX4_ran cX4_ran 2 (some .int)) ({ frames := 2, cells := 0, slots := 0, locals := 46 }) (PcW D cA (wl [gB aB aP aT aM aN bI, gP cA aP pI pA, gT cA aT tI tJ tP tO tR, gM cA aM mI mJ mA, gM cA aN nI nJ nA] ++ gQ L qI qJ) sz [.ref (aB 0), .int u1]) (QI D (fun _ : Unit => (wl [gB aB aP aT aM aN bI, gP cA aP pI pA, gT cA aT tI tJ tP tO tR, gM cA aM mI mJ mA, gM cA aN nI nJ nA] ++ gQ L qI qJ)) R (va_A (wl [gB aB aP aT aM aN bI, gP cA aP pI pA, gT cA aT tI tJ tP tO tR, gM cA aM mI mJ mA, gM cA aN nI nJ nA] ++ gQ L qI qJ) sz)) 0 0 (va_A (wl [gB aB aP aT aM aN bI, gP cA aP pI pA, gT cA aT tI tJ tP tO tR, gM cA aM mI mJ mA, gM cA aN nI nJ nA] ++ gQ L qI qJ) sz) := by
  refine Met.ofW (cc := cX4_ran) (maxL := 2) (ret := (some .int)) (by decide) rfl ?_
  intro p e s m args below meth c s₁ B hml hv
  obtain ⟨rfl, hsz, hP, hK, hD0⟩ := hv
  have hx := B.exec
  have hb := B.bytes
  have hr := B.returns
  have hts := atoms_spec (ws := (wsU yX4_ran cX4_ran 2 (some .int))) B.pre
  have hT : ∀ w ∈ wsL_law, w.before ([.ref (aB 0), .int u1] : List Value).toArray s = true := fun w h => hts w (List.mem_cons_of_mem _ h)
  have hown : s.vm.findClass RX4 = some m.cls := findClass_of_methodNamed B.named
  have hlocks := B.notSynchronized
  have hN := hK.2
  subst hsz
  have hD := hD0.self (sz := s.heap.size)
  generalize hAe : va_A (wl [gB aB aP aT aM aN bI, gP cA aP pI pA, gT cA aT tI tJ tP tO tR, gM cA aM mI mJ mA, gM cA aN nI nJ nA] ++ gQ L qI qJ) s.heap.size = A at hD ⊢
  have hA : ∀ q : Nat, s.heap.size ≤ q → A q := fun q h => by rw [← hAe]; exact Or.inr h
  have hS : va_S A s.heap s.heap [] := va_S.rf
  have hl := lv_entry ([.ref (aB 0), .int u1]) (n := 2) (Nat.le_of_ble_eq_true rfl)
  rw [lg_entry_eq]
  generalize (lg_sl ([.ref (aB 0), .int u1]) ++ List.replicate (2 - (lg_sl ([.ref (aB 0), .int u1])).length) Slot.unset).toArray = ls at hl ⊢
  have hl : lv_has ls 2 [(0, .ref (aB 0)), (1, .int u1)] := hl
  unfold f_X4_ran at h
  refine lv_aload_n hx hb dX4_ran_0 rfl (lv_at hl 0 rfl) ?_
  refine va_get (D := D) (C := RX4) (T := TX4) (N := 6) hx hb hT inlX4 hown hK.1 hP 0 rfl rfl 4 (by decide) (hT _ fl_RX4_51) (fun _ h9 => h9) rfl dX4_ran_1 ?_
  refine lv_if_ne (tgt := 9) hx hb dX4_ran_4 (by decide) (fun c1 => ?_) (fun c1 => ?_)
  · replace h := og_neg c1 h
    refine lv_iload_n hx hb dX4_ran_9 rfl (lv_at hl 1 rfl) ?_
    by_cases c6 : u1 = (0 : Int32)
    · replace h := og_pos c6 h
      refine gs_in (off := 38) (tgt := 48) 0 c6 hx hb dX4_ran_10 (by decide +kernel) (by decide) ?_
      refine lv_aload_n hx hb dX4_ran_48 rfl (lv_at hl 0 rfl) ?_
      refine va_get (D := D) (C := RX4) (T := TX4) (N := 6) hx hb hT inlX4 hown hK.1 hP 0 rfl rfl 3 (by decide) (hT _ fl_RX4_30) (fun _ h9 => h9) rfl dX4_ran_49 ?_
      refine va_getN (D := D) (C := RX1) (T := TX1) (N := 12) hx hb hT inlX1 hown hK.1 hP 16 rfl rfl 10 (by decide) (va_Nw.use rfl (hN _ nl_RX4_134)) (fun _ h9 => h9) rfl dX4_ran_52 ?_
      exact W.iret (v := (nI 3)) hx hb hr (fun t ht hW => ⟨⟨(nI 3), (), rfl, ⟨(congrArg Prod.fst (og_inj h)).symm, (congrArg Prod.snd (og_inj h)).symm⟩, (by rw [ht]; exact hP), hD⟩, hS.F ht⟩) hS.2.2 dX4_ran_55
    replace h := og_neg c6 h
    by_cases c7 : u1 = (1 : Int32)
    · replace h := og_pos c7 h
      refine gs_in (off := 46) (tgt := 56) 1 c7 hx hb dX4_ran_10 (by decide +kernel) (by decide) ?_
      refine lv_aload_n hx hb dX4_ran_56 rfl (lv_at hl 0 rfl) ?_
      refine va_get (D := D) (C := RX4) (T := TX4) (N := 6) hx hb hT inlX4 hown hK.1 hP 0 rfl rfl 3 (by decide) (hT _ fl_RX4_30) (fun _ h9 => h9) rfl dX4_ran_57 ?_
      refine va_getN (D := D) (C := RX1) (T := TX1) (N := 12) hx hb hT inlX1 hown hK.1 hP 16 rfl rfl 4 (by decide) (va_Nw.use rfl (hN _ nl_RX4_135)) (fun _ h9 => h9) rfl dX4_ran_60 ?_
      exact W.iret (v := (nI 1)) hx hb hr (fun t ht hW => ⟨⟨(nI 1), (), rfl, ⟨(congrArg Prod.fst (og_inj h)).symm, (congrArg Prod.snd (og_inj h)).symm⟩, (by rw [ht]; exact hP), hD⟩, hS.F ht⟩) hS.2.2 dX4_ran_63
    replace h := og_neg c7 h
    by_cases c8 : u1 = (2 : Int32)
    · replace h := og_pos c8 h
      refine gs_in (off := 54) (tgt := 64) 2 c8 hx hb dX4_ran_10 (by decide +kernel) (by decide) ?_
      refine lv_aload_n hx hb dX4_ran_64 rfl (lv_at hl 0 rfl) ?_
      refine va_get (D := D) (C := RX4) (T := TX4) (N := 6) hx hb hT inlX4 hown hK.1 hP 0 rfl rfl 3 (by decide) (hT _ fl_RX4_30) (fun _ h9 => h9) rfl dX4_ran_65 ?_
      refine va_getN (D := D) (C := RX1) (T := TX1) (N := 12) hx hb hT inlX1 hown hK.1 hP 16 rfl rfl 11 (by decide) (va_Nw.use rfl (hN _ nl_RX4_122)) (fun _ h9 => h9) rfl dX4_ran_68 ?_
      exact W.iret (v := (nI 4)) hx hb hr (fun t ht hW => ⟨⟨(nI 4), (), rfl, ⟨(congrArg Prod.fst (og_inj h)).symm, (congrArg Prod.snd (og_inj h)).symm⟩, (by rw [ht]; exact hP), hD⟩, hS.F ht⟩) hS.2.2 dX4_ran_71
    replace h := og_neg c8 h
    by_cases c9 : u1 = (3 : Int32)
    · replace h := og_pos c9 h
      refine gs_in (off := 62) (tgt := 72) 3 c9 hx hb dX4_ran_10 (by decide +kernel) (by decide) ?_
      refine lv_aload_n hx hb dX4_ran_72 rfl (lv_at hl 0 rfl) ?_
      refine va_get (D := D) (C := RX4) (T := TX4) (N := 6) hx hb hT inlX4 hown hK.1 hP 0 rfl rfl 3 (by decide) (hT _ fl_RX4_30) (fun _ h9 => h9) rfl dX4_ran_73 ?_
      refine va_getN (D := D) (C := RX1) (T := TX1) (N := 12) hx hb hT inlX1 hown hK.1 hP 16 rfl rfl 6 (by decide) (va_Nw.use rfl (hN _ nl_RX4_138)) (fun _ h9 => h9) rfl dX4_ran_76 ?_
      obtain ⟨⟨r2, _u2⟩, e2, h⟩ := og_bind h
      try dsimp only at h
      refine gc_i (ws := (wl [gB aB aP aT aM aN bI, gP cA aP pI pA, gT cA aT tI tJ tP tO tR, gM cA aM mI mJ mA, gM cA aN nI nJ nA] ++ gQ L qI qJ)) (wc := (wl ([] : List va_W))) (wr := (wl [gB aB aP aT aM aN bI, gP cA aP pI pA, gT cA aT tI tJ tP tO tR, gM cA aM mI mJ mA, gM cA aN nI nJ nA] ++ gQ L qI qJ)) (ws' := (wl [gB aB aP aT aM aN bI, gP cA aP pI pA, gT cA aT tI tJ tP tO tR, gM cA aM mI mJ mA, gM cA aN nI nJ nA] ++ gQ L qI qJ)) (va_runS (As := [.long (nJ 2)]) (rest := []) ⟨hx, hb, hml, hown, hT⟩ (k_J13_bitCount_95d88 l D cA  s.heap.size (nJ 2)  _ e2) (va_cwS 1 hT gs_RX4_84 rfl rfl rfl (by decide +kernel) ⟨Nat.le_of_ble_eq_true rfl, Nat.le_of_ble_eq_true rfl⟩) (pre_S (wr := (wl [gB aB aP aT aM aN bI, gP cA aP pI pA, gT cA aT tI tJ tP tO tR, gM cA aM mI mJ mA, gM cA aN nI nJ nA] ++ gQ L qI qJ)) (pmC (f := fun i => ([gB aB aP aT aM aN bI, gP cA aP pI pA, gT cA aT tI tJ tP tO tR, gM cA aM mI mJ mA, gM cA aN nI nJ nA] : List va_W).getD i []) [0, 1, 2, 3, 4] [] [0, 1, 2, 3, 4] (by decide)) hK hP hD) rfl rfl hl.1 rfl (lv_room (Nat.le_of_ble_eq_true rfl)) dX4_ran_79 ⟨Nat.le_refl _, Nat.le_refl _⟩) (pmC (f := fun i => ([gB aB aP aT aM aN bI, gP cA aP pI pA, gT cA aT tI tJ tP tO tR, gM cA aM mI mJ mA, gM cA aN nI nJ nA] : List va_W).getD i []) [0, 1, 2, 3, 4] [] [0, 1, 2, 3, 4] (by decide)) hP hD hS hA (pmC (f := fun i => ([gB aB aP aT aM aN bI, gP cA aP pI pA, gT cA aT tI tJ tP tO tR, gM cA aM mI mJ mA, gM cA aN nI nJ nA] : List va_W).getD i []) [0, 1, 2, 3, 4] [] [0, 1, 2, 3, 4] (by decide)) (fun H locs hP hD hS => ?_)
      exact W.iret (v := r2) hx hb hr (fun t ht hW => ⟨⟨r2, (), rfl, ⟨(congrArg Prod.fst (og_inj h)).symm, (congrArg Prod.snd (og_inj h)).symm⟩, (by rw [ht]; exact hP), hD⟩, hS.F ht⟩) hS.2.2 dX4_ran_82
    replace h := og_neg c9 h
    by_cases c10 : u1 = (4 : Int32)
    · replace h := og_pos c10 h
      refine gs_in (off := 73) (tgt := 83) 4 c10 hx hb dX4_ran_10 (by decide +kernel) (by decide) ?_
      refine lv_aload_n hx hb dX4_ran_83 rfl (lv_at hl 0 rfl) ?_
      refine va_get (D := D) (C := RX4) (T := TX4) (N := 6) hx hb hT inlX4 hown hK.1 hP 0 rfl rfl 3 (by decide) (hT _ fl_RX4_30) (fun _ h9 => h9) rfl dX4_ran_84 ?_
      refine va_getN (D := D) (C := RX1) (T := TX1) (N := 12) hx hb hT inlX1 hown hK.1 hP 16 rfl rfl 7 (by decide) (va_Nw.use rfl (hN _ nl_RX4_141)) (fun _ h9 => h9) rfl dX4_ran_87 ?_
      obtain ⟨⟨r3, _u3⟩, e3, h⟩ := og_bind h
      try dsimp only at h
      refine gc_i (ws := (wl [gB aB aP aT aM aN bI, gP cA aP pI pA, gT cA aT tI tJ tP tO tR, gM cA aM mI mJ mA, gM cA aN nI nJ nA] ++ gQ L qI qJ)) (wc := (wl ([] : List va_W))) (wr := (wl [gB aB aP aT aM aN bI, gP cA aP pI pA, gT cA aT tI tJ tP tO tR, gM cA aM mI mJ mA, gM cA aN nI nJ nA] ++ gQ L qI qJ)) (ws' := (wl [gB aB aP aT aM aN bI, gP cA aP pI pA, gT cA aT tI tJ tP tO tR, gM cA aM mI mJ mA, gM cA aN nI nJ nA] ++ gQ L qI qJ)) (va_runS (As := [.long (nJ 3)]) (rest := []) ⟨hx, hb, hml, hown, hT⟩ (k_J13_bitCount_95d88 l D cA  s.heap.size (nJ 3)  _ e3) (va_cwS 1 hT gs_RX4_84 rfl rfl rfl (by decide +kernel) ⟨Nat.le_of_ble_eq_true rfl, Nat.le_of_ble_eq_true rfl⟩) (pre_S (wr := (wl [gB aB aP aT aM aN bI, gP cA aP pI pA, gT cA aT tI tJ tP tO tR, gM cA aM mI mJ mA, gM cA aN nI nJ nA] ++ gQ L qI qJ)) (pmC (f := fun i => ([gB aB aP aT aM aN bI, gP cA aP pI pA, gT cA aT tI tJ tP tO tR, gM cA aM mI mJ mA, gM cA aN nI nJ nA] : List va_W).getD i []) [0, 1, 2, 3, 4] [] [0, 1, 2, 3, 4] (by decide)) hK hP hD) rfl rfl hl.1 rfl (lv_room (Nat.le_of_ble_eq_true rfl)) dX4_ran_90 ⟨Nat.le_refl _, Nat.le_refl _⟩) (pmC (f := fun i => ([gB aB aP aT aM aN bI, gP cA aP pI pA, gT cA aT tI tJ tP tO tR, gM cA aM mI mJ mA, gM cA aN nI nJ nA] : List va_W).getD i []) [0, 1, 2, 3, 4] [] [0, 1, 2, 3, 4] (by decide)) hP hD hS hA (pmC (f := fun i => ([gB aB aP aT aM aN bI, gP cA aP pI pA, gT cA aT tI tJ tP tO tR, gM cA aM mI mJ mA, gM cA aN nI nJ nA] : List va_W).getD i []) [0, 1, 2, 3, 4] [] [0, 1, 2, 3, 4] (by decide)) (fun H locs hP hD hS => ?_)
      exact W.iret (v := r3) hx hb hr (fun t ht hW => ⟨⟨r3, (), rfl, ⟨(congrArg Prod.fst (og_inj h)).symm, (congrArg Prod.snd (og_inj h)).symm⟩, (by rw [ht]; exact hP), hD⟩, hS.F ht⟩) hS.2.2 dX4_ran_93
    replace h := og_neg c10 h
    by_cases c11 : u1 = (5 : Int32)
    · replace h := og_pos c11 h
      refine gs_in (off := 84) (tgt := 94) 5 c11 hx hb dX4_ran_10 (by decide +kernel) (by decide) ?_
      refine lv_aload_n hx hb dX4_ran_94 rfl (lv_at hl 0 rfl) ?_
      refine va_get (D := D) (C := RX4) (T := TX4) (N := 6) hx hb hT inlX4 hown hK.1 hP 0 rfl rfl 5 (by decide) (hT _ fl_RX4_131) (fun _ h9 => h9) rfl dX4_ran_95 ?_
      refine lv_if_eq (tgt := 105) hx hb dX4_ran_98 (by decide) (fun c4 => ?_) (fun c4 => ?_)
      · replace h := og_pos c4 h
        refine lv_aload_n hx hb dX4_ran_105 rfl (lv_at hl 0 rfl) ?_
        refine va_get (D := D) (C := RX4) (T := TX4) (N := 6) hx hb hT inlX4 hown hK.1 hP 0 rfl rfl 1 (by decide) (hT _ fl_RX4_19) (fun _ h9 => h9) rfl dX4_ran_106 ?_
        refine lv_aload_n hx hb dX4_ran_109 rfl (lv_at hl 0 rfl) ?_
        refine va_get (D := D) (C := RX4) (T := TX4) (N := 6) hx hb hT inlX4 hown hK.1 hP 0 rfl rfl 3 (by decide) (hT _ fl_RX4_30) (fun _ h9 => h9) rfl dX4_ran_110 ?_
        refine va_getN (D := D) (C := RX1) (T := TX1) (N := 12) hx hb hT inlX1 hown hK.1 hP 16 rfl rfl 8 (by decide) (va_Nw.use rfl (hN _ nl_RX4_142)) (fun _ h9 => h9) rfl dX4_ran_113 ?_
        obtain ⟨⟨r5, _u5⟩, e5, h⟩ := og_bind h
        try dsimp only at h
        refine gc_i (ws := (wl [gB aB aP aT aM aN bI, gP cA aP pI pA, gT cA aT tI tJ tP tO tR, gM cA aM mI mJ mA, gM cA aN nI nJ nA] ++ gQ L qI qJ)) (wc := (wl [gT cA aT tI tJ tP tO tR] ++ gQ L qI qJ)) (wr := (wl [gB aB aP aT aM aN bI, gP cA aP pI pA, gM cA aM mI mJ mA, gM cA aN nI nJ nA])) (ws' := (wl [gB aB aP aT aM aN bI, gP cA aP pI pA, gT cA aT tI tJ tP tO tR, gM cA aM mI mJ mA, gM cA aN nI nJ nA] ++ gQ L qI qJ)) (va_runV (As := [.long (nJ 4)]) (rest := []) ⟨hx, hb, hml, hown, hT⟩ (k_X0_numberOf l D cA aT L s.heap.size n (nJ 4) tI tJ tP tO tR qI qJ _ e5) (cwV 1 hT gv_RX4_143 rfl rfl rfl (by decide +kernel) ⟨Nat.le_of_ble_eq_true rfl, Nat.le_of_ble_eq_true rfl⟩) (pre_V (ci := 0) (q0 := 0) (wr := (wl [gB aB aP aT aM aN bI, gP cA aP pI pA, gM cA aM mI mJ mA, gM cA aN nI nJ nA])) (pmB (f := fun i => ([gB aB aP aT aM aN bI, gP cA aP pI pA, gT cA aT tI tJ tP tO tR, gM cA aM mI mJ mA, gM cA aN nI nJ nA] : List va_W).getD i []) [0, 1, 2, 3, 4] [2] [0, 1, 3, 4] (by decide)) hK hP hD rfl rfl) rfl rfl hl.1 rfl (lv_room (Nat.le_of_ble_eq_true rfl)) dX4_ran_116 ⟨Nat.le_refl _, Nat.le_refl _⟩) (pmB (f := fun i => ([gB aB aP aT aM aN bI, gP cA aP pI pA, gT cA aT tI tJ tP tO tR, gM cA aM mI mJ mA, gM cA aN nI nJ nA] : List va_W).getD i []) [0, 1, 2, 3, 4] [2] [0, 1, 3, 4] (by decide)) hP hD hS hA (pmB (f := fun i => ([gB aB aP aT aM aN bI, gP cA aP pI pA, gT cA aT tI tJ tP tO tR, gM cA aM mI mJ mA, gM cA aN nI nJ nA] : List va_W).getD i []) [0, 1, 2, 3, 4] [2] [0, 1, 3, 4] (by decide)) (fun H locs hP hD hS => ?_)
        exact W.iret (v := r5) hx hb hr (fun t ht hW => ⟨⟨r5, (), rfl, ⟨(congrArg Prod.fst (og_inj h)).symm, (congrArg Prod.snd (og_inj h)).symm⟩, (by rw [ht]; exact hP), hD⟩, hS.F ht⟩) hS.2.2 dX4_ran_119
      · replace h := og_neg c4 h
        refine lv_iconst (v := (-1 : Int32)) hx hb dX4_ran_101 (by decide) ?_
        refine lv_goto (tgt := 119) hx hb dX4_ran_102 (by decide) ?_
        exact W.iret (v := (-1 : Int32)) hx hb hr (fun t ht hW => ⟨⟨(-1 : Int32), (), rfl, ⟨(congrArg Prod.fst (og_inj h)).symm, (congrArg Prod.snd (og_inj h)).symm⟩, (by rw [ht]; exact hP), hD⟩, hS.F ht⟩) hS.2.2 dX4_ran_119
    replace h := og_neg c11 h
    refine lv_tableOut (tgt := 120) hx hb dX4_ran_10 (gs_out 6 (by decide) (fun k9 hk9 => ?_)) (by decide) ?_
    · rcases (show k9 = 0 ∨ k9 = 1 ∨ k9 = 2 ∨ k9 = 3 ∨ k9 = 4 ∨ k9 = 5 by omega) with rfl | rfl | rfl | rfl | rfl | rfl
      · exact gs_ne c6 (by decide +kernel)
      · exact gs_ne c7 (by decide +kernel)
      · exact gs_ne c8 (by decide +kernel)
      · exact gs_ne c9 (by decide +kernel)
      · exact gs_ne c10 (by decide +kernel)
      · exact gs_ne c11 (by decide +kernel)
    refine lv_iconst (v := (-1 : Int32)) hx hb dX4_ran_120 (by decide) ?_
    exact W.iret (v := (-1 : Int32)) hx hb hr (fun t ht hW => ⟨⟨(-1 : Int32), (), rfl, ⟨(congrArg Prod.fst (og_inj h)).symm, (congrArg Prod.snd (og_inj h)).symm⟩, (by rw [ht]; exact hP), hD⟩, hS.F ht⟩) hS.2.2 dX4_ran_121
  · replace h := og_pos c1 h
    refine lv_iconst (v := (-1 : Int32)) hx hb dX4_ran_7 (by decide) ?_
    exact W.iret (v := (-1 : Int32)) hx hb hr (fun t ht hW => ⟨⟨(-1 : Int32), (), rfl, ⟨(congrArg Prod.fst (og_inj h)).symm, (congrArg Prod.snd (og_inj h)).symm⟩, (by rw [ht]; exact hP), hD⟩, hS.F ht⟩) hS.2.2 dX4_ran_8
set_option maxRecDepth 100000 in
set_option maxHeartbeats 8000000 in
theorem k_X4_register (l : Launch) (D : va_G) (cA : Nat → ClassId) (aB : Nat → Nat) (aP : Nat → Nat) (aT : Nat → Nat) (aM : Nat → Nat) (aN : Nat → Nat) (L : List Nat) (sz : Nat) (u1 : Int32) (bI : Nat → Int32) (pI : Nat → Int32) (pA : Nat → Nat → Int32) (tI : Nat → Int32) (tJ : Nat → Int64) (tP : Nat → Option Nat) (tO : Nat → Int64) (tR : Nat → Int32) (mI : Nat → Int32) (mJ : Nat → Int64) (mA : Nat → Nat → Int32) (nI : Nat → Int32) (nJ : Nat → Int64) (nA : Nat → Nat → Int32) (qI : Nat → Nat → Int32) (qJ : Nat → Nat → Int64) (R : Int32 × Unit) (h : f_X4_register L u1 bI nA = some R) : Met l yX4_register (wsU yX4_register cX4_register 2 (some .int)) ({ frames := 1, cells := 0, slots := 0, locals := 20 }) (PcW D cA (wl [gB aB aP aT aM aN bI, gP cA aP pI pA, gT cA aT tI tJ tP tO tR, gM cA aM mI mJ mA, gM cA aN nI nJ nA] ++ gQ L qI qJ) sz [.ref (aB 0), .int u1]) (QI D (fun _ : Unit => (wl [gB aB aP aT aM aN bI, gP cA aP pI pA, gT cA aT tI tJ tP tO tR, gM cA aM mI mJ mA, gM cA aN nI nJ nA] ++ gQ L qI qJ)) R (va_A (wl [gB aB aP aT aM aN bI, gP cA aP pI pA, gT cA aT tI tJ tP tO tR, gM cA aM mI mJ mA, gM cA aN nI nJ nA] ++ gQ L qI qJ) sz)) 0 0 (va_A (wl [gB aB aP aT aM aN bI, gP cA aP pI pA, gT cA aT tI tJ tP tO tR, gM cA aM mI mJ mA, gM cA aN nI nJ nA] ++ gQ L qI qJ) sz) := by
  refine Met.ofW (cc := cX4_register) (maxL := 2) (ret := (some .int)) (by decide) rfl ?_
  intro p e s m args below meth c s₁ B hml hv
  obtain ⟨rfl, hsz, hP, hK, hD0⟩ := hv
  have hx := B.exec
  have hb := B.bytes
  have hr := B.returns
  have hts := atoms_spec (ws := (wsU yX4_register cX4_register 2 (some .int))) B.pre
  have hT : ∀ w ∈ wsL_law, w.before ([.ref (aB 0), .int u1] : List Value).toArray s = true := fun w h => hts w (List.mem_cons_of_mem _ h)
  have hown : s.vm.findClass RX4 = some m.cls := findClass_of_methodNamed B.named
  have hlocks := B.notSynchronized
  have hN := hK.2
  subst hsz
  have hD := hD0.self (sz := s.heap.size)
  generalize hAe : va_A (wl [gB aB aP aT aM aN bI, gP cA aP pI pA, gT cA aT tI tJ tP tO tR, gM cA aM mI mJ mA, gM cA aN nI nJ nA] ++ gQ L qI qJ) s.heap.size = A at hD ⊢
  have hA : ∀ q : Nat, s.heap.size ≤ q → A q := fun q h => by rw [← hAe]; exact Or.inr h
  have hS : va_S A s.heap s.heap [] := va_S.rf
  have hl := lv_entry ([.ref (aB 0), .int u1]) (n := 2) (Nat.le_of_ble_eq_true rfl)
  rw [lg_entry_eq]
  generalize (lg_sl ([.ref (aB 0), .int u1]) ++ List.replicate (2 - (lg_sl ([.ref (aB 0), .int u1])).length) Slot.unset).toArray = ls at hl ⊢
  have hl : lv_has ls 2 [(0, .ref (aB 0)), (1, .int u1)] := hl
  unfold f_X4_register at h
  refine lv_aload_n hx hb dX4_register_0 rfl (lv_at hl 0 rfl) ?_
  refine va_get (D := D) (C := RX4) (T := TX4) (N := 6) hx hb hT inlX4 hown hK.1 hP 0 rfl rfl 4 (by decide) (hT _ fl_RX4_51) (fun _ h9 => h9) rfl dX4_register_1 ?_
  refine lv_if_eq (tgt := 26) hx hb dX4_register_4 (by decide) (fun c1 => ?_) (fun c1 => ?_)
  · replace h := og_pos c1 h
    refine lv_iconst (v := (0 : Int32)) hx hb dX4_register_26 (by decide) ?_
    exact W.iret (v := (0 : Int32)) hx hb hr (fun t ht hW => ⟨⟨(0 : Int32), (), rfl, ⟨(congrArg Prod.fst (og_inj h)).symm, (congrArg Prod.snd (og_inj h)).symm⟩, (by rw [ht]; exact hP), hD⟩, hS.F ht⟩) hS.2.2 dX4_register_27
  · replace h := og_neg c1 h
    refine lv_iload_n hx hb dX4_register_7 rfl (lv_at hl 1 rfl) ?_
    obtain ⟨⟨r2, _u2⟩, e2, h⟩ := og_bind h
    try dsimp only at h
    refine gc_i (ws := (wl [gB aB aP aT aM aN bI, gP cA aP pI pA, gT cA aT tI tJ tP tO tR, gM cA aM mI mJ mA, gM cA aN nI nJ nA] ++ gQ L qI qJ)) (wc := (wl ([] : List va_W))) (wr := (wl [gB aB aP aT aM aN bI, gP cA aP pI pA, gT cA aT tI tJ tP tO tR, gM cA aM mI mJ mA, gM cA aN nI nJ nA] ++ gQ L qI qJ)) (ws' := (wl [gB aB aP aT aM aN bI, gP cA aP pI pA, gT cA aT tI tJ tP tO tR, gM cA aM mI mJ mA, gM cA aN nI nJ nA] ++ gQ L qI qJ)) (va_runS (As := [.int u1]) (rest := []) ⟨hx, hb, hml, hown, hT⟩ (k_X4_isRegister l D cA  s.heap.size u1  _ e2) (cwS 1 hT gs_RX4_146 rfl rfl rfl (by decide +kernel) ⟨Nat.le_of_ble_eq_true rfl, Nat.le_of_ble_eq_true rfl⟩) (pre_S (wr := (wl [gB aB aP aT aM aN bI, gP cA aP pI pA, gT cA aT tI tJ tP tO tR, gM cA aM mI mJ mA, gM cA aN nI nJ nA] ++ gQ L qI qJ)) (pmC (f := fun i => ([gB aB aP aT aM aN bI, gP cA aP pI pA, gT cA aT tI tJ tP tO tR, gM cA aM mI mJ mA, gM cA aN nI nJ nA] : List va_W).getD i []) [0, 1, 2, 3, 4] [] [0, 1, 2, 3, 4] (by decide)) hK hP hD) rfl rfl hl.1 rfl (lv_room (Nat.le_of_ble_eq_true rfl)) dX4_register_8 ⟨Nat.le_refl _, Nat.le_refl _⟩) (pmC (f := fun i => ([gB aB aP aT aM aN bI, gP cA aP pI pA, gT cA aT tI tJ tP tO tR, gM cA aM mI mJ mA, gM cA aN nI nJ nA] : List va_W).getD i []) [0, 1, 2, 3, 4] [] [0, 1, 2, 3, 4] (by decide)) hP hD hS hA (pmC (f := fun i => ([gB aB aP aT aM aN bI, gP cA aP pI pA, gT cA aT tI tJ tP tO tR, gM cA aM mI mJ mA, gM cA aN nI nJ nA] : List va_W).getD i []) [0, 1, 2, 3, 4] [] [0, 1, 2, 3, 4] (by decide)) (fun H locs hP hD hS => ?_)
    refine lv_if_eq (tgt := 26) hx hb dX4_register_11 (by decide) (fun c3 => ?_) (fun c3 => ?_)
    · replace h := og_pos c3 h
      refine lv_iconst (v := (0 : Int32)) hx hb dX4_register_26 (by decide) ?_
      exact W.iret (v := (0 : Int32)) hx hb hr (fun t ht hW => ⟨⟨(0 : Int32), (), rfl, ⟨(congrArg Prod.fst (og_inj h)).symm, (congrArg Prod.snd (og_inj h)).symm⟩, (by rw [ht]; exact hP), hD⟩, hS.F ht⟩) hS.2.2 dX4_register_27
    · replace h := og_neg c3 h
      refine lv_aload_n hx hb dX4_register_14 rfl (lv_at hl 0 rfl) ?_
      refine va_get (D := D) (C := RX4) (T := TX4) (N := 6) hx hb hT inlX4 hown hK.1 hP 0 rfl rfl 3 (by decide) (hT _ fl_RX4_30) (fun _ h9 => h9) rfl dX4_register_15 ?_
      refine va_getN (D := D) (C := RX1) (T := TX1) (N := 12) hx hb hT inlX1 hown hK.1 hP 16 rfl rfl 0 (by decide) (va_Nw.use rfl (hN _ nl_RX4_149)) (fun _ h9 => h9) rfl dX4_register_18 ?_
      refine lv_iload_n hx hb dX4_register_21 rfl (lv_at hl 1 rfl) ?_
      obtain ⟨g4, h⟩ := og_guard h
      refine va_iald hx hb hK.1 hP 17 0 rfl rfl (inb_vp g4) dX4_register_22 ?_
      refine lv_goto (tgt := 27) hx hb dX4_register_23 (by decide) ?_
      exact W.iret (v := (nA 0 u1.toNatClampNeg)) hx hb hr (fun t ht hW => ⟨⟨(nA 0 u1.toNatClampNeg), (), rfl, ⟨(congrArg Prod.fst (og_inj h)).symm, (congrArg Prod.snd (og_inj h)).symm⟩, (by rw [ht]; exact hP), hD⟩, hS.F ht⟩) hS.2.2 dX4_register_27
set_option maxRecDepth 100000 in
set_option maxHeartbeats 8000000 in
theorem k_X4_cell (l : Launch) (D : va_G) (cA : Nat → ClassId) (aB : Nat → Nat) (aP : Nat → Nat) (aT : Nat → Nat) (aM : Nat → Nat) (aN : Nat → Nat) (L : List Nat) (sz : Nat) (u1 : Int32) (bI : Nat → Int32) (pI : Nat → Int32) (pA : Nat → Nat → Int32) (tI : Nat → Int32) (tJ : Nat → Int64) (tP : Nat → Option Nat) (tO : Nat → Int64) (tR : Nat → Int32) (mI : Nat → Int32) (mJ : Nat → Int64) (mA : Nat → Nat → Int32) (nI : Nat → Int32) (nJ : Nat → Int64) (nA : Nat → Nat → Int32) (qI : Nat → Nat → Int32) (qJ : Nat → Nat → Int64) (R : Int32 × Unit) (h : f_X4_cell L u1 bI nA = some R) : Met l yX4_cell (wsU yX4_cell cX4_cell 2 (some .int)) ({ frames := 1, cells := 0, slots := 0, locals := 20 }) (PcW D cA (wl [gB aB aP aT aM aN bI, gP cA aP pI pA, gT cA aT tI tJ tP tO tR, gM cA aM mI mJ mA, gM cA aN nI nJ nA] ++ gQ L qI qJ) sz [.ref (aB 0), .int u1]) (QI D (fun _ : Unit => (wl [gB aB aP aT aM aN bI, gP cA aP pI pA, gT cA aT tI tJ tP tO tR, gM cA aM mI mJ mA, gM cA aN nI nJ nA] ++ gQ L qI qJ)) R (va_A (wl [gB aB aP aT aM aN bI, gP cA aP pI pA, gT cA aT tI tJ tP tO tR, gM cA aM mI mJ mA, gM cA aN nI nJ nA] ++ gQ L qI qJ) sz)) 0 0 (va_A (wl [gB aB aP aT aM aN bI, gP cA aP pI pA, gT cA aT tI tJ tP tO tR, gM cA aM mI mJ mA, gM cA aN nI nJ nA] ++ gQ L qI qJ) sz) := by
  refine Met.ofW (cc := cX4_cell) (maxL := 2) (ret := (some .int)) (by decide) rfl ?_
  intro p e s m args below meth c s₁ B hml hv
  obtain ⟨rfl, hsz, hP, hK, hD0⟩ := hv
  have hx := B.exec
  have hb := B.bytes
  have hr := B.returns
  have hts := atoms_spec (ws := (wsU yX4_cell cX4_cell 2 (some .int))) B.pre
  have hT : ∀ w ∈ wsL_law, w.before ([.ref (aB 0), .int u1] : List Value).toArray s = true := fun w h => hts w (List.mem_cons_of_mem _ h)
  have hown : s.vm.findClass RX4 = some m.cls := findClass_of_methodNamed B.named
  have hlocks := B.notSynchronized
  have hN := hK.2
  subst hsz
  have hD := hD0.self (sz := s.heap.size)
  generalize hAe : va_A (wl [gB aB aP aT aM aN bI, gP cA aP pI pA, gT cA aT tI tJ tP tO tR, gM cA aM mI mJ mA, gM cA aN nI nJ nA] ++ gQ L qI qJ) s.heap.size = A at hD ⊢
  have hA : ∀ q : Nat, s.heap.size ≤ q → A q := fun q h => by rw [← hAe]; exact Or.inr h
  have hS : va_S A s.heap s.heap [] := va_S.rf
  have hl := lv_entry ([.ref (aB 0), .int u1]) (n := 2) (Nat.le_of_ble_eq_true rfl)
  rw [lg_entry_eq]
  generalize (lg_sl ([.ref (aB 0), .int u1]) ++ List.replicate (2 - (lg_sl ([.ref (aB 0), .int u1])).length) Slot.unset).toArray = ls at hl ⊢
  have hl : lv_has ls 2 [(0, .ref (aB 0)), (1, .int u1)] := hl
  unfold f_X4_cell at h
  refine lv_aload_n hx hb dX4_cell_0 rfl (lv_at hl 0 rfl) ?_
  refine va_get (D := D) (C := RX4) (T := TX4) (N := 6) hx hb hT inlX4 hown hK.1 hP 0 rfl rfl 4 (by decide) (hT _ fl_RX4_51) (fun _ h9 => h9) rfl dX4_cell_1 ?_
  refine lv_if_eq (tgt := 26) hx hb dX4_cell_4 (by decide) (fun c1 => ?_) (fun c1 => ?_)
  · replace h := og_pos c1 h
    refine lv_iconst (v := (0 : Int32)) hx hb dX4_cell_26 (by decide) ?_
    exact W.iret (v := (0 : Int32)) hx hb hr (fun t ht hW => ⟨⟨(0 : Int32), (), rfl, ⟨(congrArg Prod.fst (og_inj h)).symm, (congrArg Prod.snd (og_inj h)).symm⟩, (by rw [ht]; exact hP), hD⟩, hS.F ht⟩) hS.2.2 dX4_cell_27
  · replace h := og_neg c1 h
    refine lv_iload_n hx hb dX4_cell_7 rfl (lv_at hl 1 rfl) ?_
    obtain ⟨⟨r2, _u2⟩, e2, h⟩ := og_bind h
    try dsimp only at h
    refine gc_i (ws := (wl [gB aB aP aT aM aN bI, gP cA aP pI pA, gT cA aT tI tJ tP tO tR, gM cA aM mI mJ mA, gM cA aN nI nJ nA] ++ gQ L qI qJ)) (wc := (wl ([] : List va_W))) (wr := (wl [gB aB aP aT aM aN bI, gP cA aP pI pA, gT cA aT tI tJ tP tO tR, gM cA aM mI mJ mA, gM cA aN nI nJ nA] ++ gQ L qI qJ)) (ws' := (wl [gB aB aP aT aM aN bI, gP cA aP pI pA, gT cA aT tI tJ tP tO tR, gM cA aM mI mJ mA, gM cA aN nI nJ nA] ++ gQ L qI qJ)) (va_runS (As := [.int u1]) (rest := []) ⟨hx, hb, hml, hown, hT⟩ (k_X4_isCell l D cA  s.heap.size u1  _ e2) (cwS 1 hT gs_RX4_153 rfl rfl rfl (by decide +kernel) ⟨Nat.le_of_ble_eq_true rfl, Nat.le_of_ble_eq_true rfl⟩) (pre_S (wr := (wl [gB aB aP aT aM aN bI, gP cA aP pI pA, gT cA aT tI tJ tP tO tR, gM cA aM mI mJ mA, gM cA aN nI nJ nA] ++ gQ L qI qJ)) (pmC (f := fun i => ([gB aB aP aT aM aN bI, gP cA aP pI pA, gT cA aT tI tJ tP tO tR, gM cA aM mI mJ mA, gM cA aN nI nJ nA] : List va_W).getD i []) [0, 1, 2, 3, 4] [] [0, 1, 2, 3, 4] (by decide)) hK hP hD) rfl rfl hl.1 rfl (lv_room (Nat.le_of_ble_eq_true rfl)) dX4_cell_8 ⟨Nat.le_refl _, Nat.le_refl _⟩) (pmC (f := fun i => ([gB aB aP aT aM aN bI, gP cA aP pI pA, gT cA aT tI tJ tP tO tR, gM cA aM mI mJ mA, gM cA aN nI nJ nA] : List va_W).getD i []) [0, 1, 2, 3, 4] [] [0, 1, 2, 3, 4] (by decide)) hP hD hS hA (pmC (f := fun i => ([gB aB aP aT aM aN bI, gP cA aP pI pA, gT cA aT tI tJ tP tO tR, gM cA aM mI mJ mA, gM cA aN nI nJ nA] : List va_W).getD i []) [0, 1, 2, 3, 4] [] [0, 1, 2, 3, 4] (by decide)) (fun H locs hP hD hS => ?_)
    refine lv_if_eq (tgt := 26) hx hb dX4_cell_11 (by decide) (fun c3 => ?_) (fun c3 => ?_)
    · replace h := og_pos c3 h
      refine lv_iconst (v := (0 : Int32)) hx hb dX4_cell_26 (by decide) ?_
      exact W.iret (v := (0 : Int32)) hx hb hr (fun t ht hW => ⟨⟨(0 : Int32), (), rfl, ⟨(congrArg Prod.fst (og_inj h)).symm, (congrArg Prod.snd (og_inj h)).symm⟩, (by rw [ht]; exact hP), hD⟩, hS.F ht⟩) hS.2.2 dX4_cell_27
    · replace h := og_neg c3 h
      refine lv_aload_n hx hb dX4_cell_14 rfl (lv_at hl 0 rfl) ?_
      refine va_get (D := D) (C := RX4) (T := TX4) (N := 6) hx hb hT inlX4 hown hK.1 hP 0 rfl rfl 3 (by decide) (hT _ fl_RX4_30) (fun _ h9 => h9) rfl dX4_cell_15 ?_
      refine va_getN (D := D) (C := RX1) (T := TX1) (N := 12) hx hb hT inlX1 hown hK.1 hP 16 rfl rfl 1 (by decide) (va_Nw.use rfl (hN _ nl_RX4_156)) (fun _ h9 => h9) rfl dX4_cell_18 ?_
      refine lv_iload_n hx hb dX4_cell_21 rfl (lv_at hl 1 rfl) ?_
      obtain ⟨g4, h⟩ := og_guard h
      refine va_iald hx hb hK.1 hP 18 0 rfl rfl (inb_vp g4) dX4_cell_22 ?_
      refine lv_goto (tgt := 27) hx hb dX4_cell_23 (by decide) ?_
      exact W.iret (v := (nA 1 u1.toNatClampNeg)) hx hb hr (fun t ht hW => ⟨⟨(nA 1 u1.toNatClampNeg), (), rfl, ⟨(congrArg Prod.fst (og_inj h)).symm, (congrArg Prod.snd (og_inj h)).symm⟩, (by rw [ht]; exact hP), hD⟩, hS.F ht⟩) hS.2.2 dX4_cell_27
set_option maxRecDepth 100000 in
set_option maxHeartbeats 8000000 in
theorem k_X4_failure (l : Launch) (D : va_G) (cA : Nat → ClassId) (aB : Nat → Nat) (aP : Nat → Nat) (aT : Nat → Nat) (aM : Nat → Nat) (aN : Nat → Nat) (L : List Nat) (sz : Nat) (n : Nat) (u1 : Int32) (u2 : Int32) (bI : Nat → Int32) (pI : Nat → Int32) (pA : Nat → Nat → Int32) (tI : Nat → Int32) (tJ : Nat → Int64) (tP : Nat → Option Nat) (tO : Nat → Int64) (tR : Nat → Int32) (mI : Nat → Int32) (mJ : Nat → Int64) (mA : Nat → Nat → Int32) (nI : Nat → Int32) (nJ : Nat → Int64) (nA : Nat → Nat → Int32) (qI : Nat → Nat → Int32) (qJ : Nat → Nat → Int64) (R : Int32 × Unit) (h : f_X4_failure n L u1 u2 tI tJ tP qI = some R) : Met l yX4_failure (wsU yX4_failure cX4_failure 4 (some .int)) ({ frames := 4, cells := 0, slots := 0, locals := 92 }) (PcW D cA (wl [gB aB aP aT aM aN bI, gP cA aP pI pA, gT cA aT tI tJ tP tO tR, gM cA aM mI mJ mA, gM cA aN nI nJ nA] ++ gQ L qI qJ) sz [.ref (aB 0), .int u1, .int u2]) (QI D (fun _ : Unit => (wl [gB aB aP aT aM aN bI, gP cA aP pI pA, gT cA aT tI tJ tP tO tR, gM cA aM mI mJ mA, gM cA aN nI nJ nA] ++ gQ L qI qJ)) R (va_A (wl [gB aB aP aT aM aN bI, gP cA aP pI pA, gT cA aT tI tJ tP tO tR, gM cA aM mI mJ mA, gM cA aN nI nJ nA] ++ gQ L qI qJ) sz)) 0 0 (va_A (wl [gB aB aP aT aM aN bI, gP cA aP pI pA, gT cA aT tI tJ tP tO tR, gM cA aM mI mJ mA, gM cA aN nI nJ nA] ++ gQ L qI qJ) sz) := by
  refine Met.ofW (cc := cX4_failure) (maxL := 4) (ret := (some .int)) (by decide) rfl ?_
  intro p e s m args below meth c s₁ B hml hv
  obtain ⟨rfl, hsz, hP, hK, hD0⟩ := hv
  have hx := B.exec
  have hb := B.bytes
  have hr := B.returns
  have hts := atoms_spec (ws := (wsU yX4_failure cX4_failure 4 (some .int))) B.pre
  have hT : ∀ w ∈ wsL_law, w.before ([.ref (aB 0), .int u1, .int u2] : List Value).toArray s = true := fun w h => hts w (List.mem_cons_of_mem _ h)
  have hown : s.vm.findClass RX4 = some m.cls := findClass_of_methodNamed B.named
  have hlocks := B.notSynchronized
  have hN := hK.2
  subst hsz
  have hD := hD0.self (sz := s.heap.size)
  generalize hAe : va_A (wl [gB aB aP aT aM aN bI, gP cA aP pI pA, gT cA aT tI tJ tP tO tR, gM cA aM mI mJ mA, gM cA aN nI nJ nA] ++ gQ L qI qJ) s.heap.size = A at hD ⊢
  have hA : ∀ q : Nat, s.heap.size ≤ q → A q := fun q h => by rw [← hAe]; exact Or.inr h
  have hS : va_S A s.heap s.heap [] := va_S.rf
  have hl := lv_entry ([.ref (aB 0), .int u1, .int u2]) (n := 4) (Nat.le_of_ble_eq_true rfl)
  rw [lg_entry_eq]
  generalize (lg_sl ([.ref (aB 0), .int u1, .int u2]) ++ List.replicate (4 - (lg_sl ([.ref (aB 0), .int u1, .int u2])).length) Slot.unset).toArray = ls at hl ⊢
  have hl : lv_has ls 4 [(0, .ref (aB 0)), (1, .int u1), (2, .int u2)] := hl
  unfold f_X4_failure at h
  refine lv_aload_n hx hb dX4_failure_0 rfl (lv_at hl 0 rfl) ?_
  refine va_get (D := D) (C := RX4) (T := TX4) (N := 6) hx hb hT inlX4 hown hK.1 hP 0 rfl rfl 1 (by decide) (hT _ fl_RX4_19) (fun _ h9 => h9) rfl dX4_failure_1 ?_
  refine lv_iload_n hx hb dX4_failure_4 rfl (lv_at hl 1 rfl) ?_
  obtain ⟨⟨r1, _u1⟩, e1, h⟩ := og_bind h
  try dsimp only at h
  refine gc_q (ws := (wl [gB aB aP aT aM aN bI, gP cA aP pI pA, gT cA aT tI tJ tP tO tR, gM cA aM mI mJ mA, gM cA aN nI nJ nA] ++ gQ L qI qJ)) (wc := (wl [gT cA aT tI tJ tP tO tR] ++ gQ L qI qJ)) (wr := (wl [gB aB aP aT aM aN bI, gP cA aP pI pA, gM cA aM mI mJ mA, gM cA aN nI nJ nA])) (ws' := (wl [gB aB aP aT aM aN bI, gP cA aP pI pA, gT cA aT tI tJ tP tO tR, gM cA aM mI mJ mA, gM cA aN nI nJ nA] ++ gQ L qI qJ)) (va_runV (As := [.int u1]) (rest := []) ⟨hx, hb, hml, hown, hT⟩ (k_X0_firstFailing l D cA aT L s.heap.size n u1 tI tJ tP tO tR qI qJ _ e1) (cwV 1 hT gv_RX4_159 rfl rfl rfl (by decide +kernel) ⟨Nat.le_of_ble_eq_true rfl, Nat.le_of_ble_eq_true rfl⟩) (pre_V (ci := 0) (q0 := 0) (wr := (wl [gB aB aP aT aM aN bI, gP cA aP pI pA, gM cA aM mI mJ mA, gM cA aN nI nJ nA])) (pmB (f := fun i => ([gB aB aP aT aM aN bI, gP cA aP pI pA, gT cA aT tI tJ tP tO tR, gM cA aM mI mJ mA, gM cA aN nI nJ nA] : List va_W).getD i []) [0, 1, 2, 3, 4] [2] [0, 1, 3, 4] (by decide)) hK hP hD rfl rfl) rfl rfl hl.1 rfl (lv_room (Nat.le_of_ble_eq_true rfl)) dX4_failure_5 ⟨Nat.le_refl _, Nat.le_refl _⟩) (pmB (f := fun i => ([gB aB aP aT aM aN bI, gP cA aP pI pA, gT cA aT tI tJ tP tO tR, gM cA aM mI mJ mA, gM cA aN nI nJ nA] : List va_W).getD i []) [0, 1, 2, 3, 4] [2] [0, 1, 3, 4] (by decide)) hP hD hS hA (pmB (f := fun i => ([gB aB aP aT aM aN bI, gP cA aP pI pA, gT cA aT tI tJ tP tO tR, gM cA aM mI mJ mA, gM cA aN nI nJ nA] : List va_W).getD i []) [0, 1, 2, 3, 4] [2] [0, 1, 3, 4] (by decide)) (fun H locs hP hD hS => ?_)
  cases r1 with
  | none =>
    show W p l e (headSpec (wsU yX4_failure cX4_failure 4 (some .int)) ({ frames := 4, cells := 0, slots := 0, locals := 92 })).room s m ([.ref (aB 0), .int u1, .int u2] : List Value).toArray below meth c H locs 0 0 (MQ below (QI D (fun _ : Unit => (wl [gB aB aP aT aM aN bI, gP cA aP pI pA, gT cA aT tI tJ tP tO tR, gM cA aM mI mJ mA, gM cA aN nI nJ nA] ++ gQ L qI qJ)) R A) ([.ref (aB 0), .int u1, .int u2] : List Value).toArray s 0 0 A) (F0 m 8 ls [.null])
    refine lv_astore_nN (lv' := [(3, .null), (0, .ref (aB 0)), (1, .int u1), (2, .int u2)]) hx hb dX4_failure_8 rfl hl (by decide) rfl (fun ls hl => ?_)
    refine lv_aload_nN hx hb dX4_failure_9 rfl (lv_at hl 0 rfl) ?_
    refine lv_ifnonnullN hx hb dX4_failure_10 ?_
    refine lv_iconst (v := (-1 : Int32)) hx hb dX4_failure_13 (by decide) ?_
    exact W.iret (v := (-1 : Int32)) hx hb hr (fun t ht hW => ⟨⟨(-1 : Int32), (), rfl, ⟨(congrArg Prod.fst (og_inj h)).symm, (congrArg Prod.snd (og_inj h)).symm⟩, (by rw [ht]; exact hP), hD⟩, hS.F ht⟩) hS.2.2 dX4_failure_14
  | some a2 =>
    show W p l e (headSpec (wsU yX4_failure cX4_failure 4 (some .int)) ({ frames := 4, cells := 0, slots := 0, locals := 92 })).room s m ([.ref (aB 0), .int u1, .int u2] : List Value).toArray below meth c H locs 0 0 (MQ below (QI D (fun _ : Unit => (wl [gB aB aP aT aM aN bI, gP cA aP pI pA, gT cA aT tI tJ tP tO tR, gM cA aM mI mJ mA, gM cA aN nI nJ nA] ++ gQ L qI qJ)) R A) ([.ref (aB 0), .int u1, .int u2] : List Value).toArray s 0 0 A) (F0 m 8 ls [.ref a2])
    refine lv_astore_n (lv' := [(3, .ref a2), (0, .ref (aB 0)), (1, .int u1), (2, .int u2)]) hx hb dX4_failure_8 rfl hl (by decide) rfl (fun ls hl => ?_)
    refine lv_aload_n hx hb dX4_failure_9 rfl (lv_at hl 0 rfl) ?_
    refine lv_ifnonnull (tgt := 15) hx hb dX4_failure_10 (by decide) ?_
    refine lv_iload_n hx hb dX4_failure_15 rfl (lv_at hl 3 rfl) ?_
    by_cases c9 : u2 = (0 : Int32)
    · replace h := og_pos c9 h
      refine gs_in (off := 28) (tgt := 44) 0 c9 hx hb dX4_failure_16 (by decide +kernel) (by decide) ?_
      refine lv_aload_n hx hb dX4_failure_44 rfl (lv_at hl 0 rfl) ?_
      obtain ⟨m3, h⟩ := og_guard h
      obtain ⟨kq4, hkq4⟩ := va_pl_get (X := (wl [gB aB aP aT aM aN bI, gP cA aP pI pA, gT cA aT tI tJ tP tO tR, gM cA aM mI mJ mA, gM cA aN nI nJ nA])) (f := fQ qI qJ) m3
      refine va_getN (D := D) (C := RX2) (T := TX2) (N := 7) hx hb hT inlX2 hown hK.1 hP kq4 hkq4 rfl 2 (by decide) (va_Nw.use rfl (hN _ nl_RX4_72)) (fun _ h9 => h9) rfl dX4_failure_45 ?_
      exact W.iret (v := (qI a2 0)) hx hb hr (fun t ht hW => ⟨⟨(qI a2 0), (), rfl, ⟨(congrArg Prod.fst (og_inj h)).symm, (congrArg Prod.snd (og_inj h)).symm⟩, (by rw [ht]; exact hP), hD⟩, hS.F ht⟩) hS.2.2 dX4_failure_48
    replace h := og_neg c9 h
    by_cases c10 : u2 = (1 : Int32)
    · replace h := og_pos c10 h
      refine gs_in (off := 33) (tgt := 49) 1 c10 hx hb dX4_failure_16 (by decide +kernel) (by decide) ?_
      refine lv_aload_n hx hb dX4_failure_49 rfl (lv_at hl 0 rfl) ?_
      obtain ⟨m5, h⟩ := og_guard h
      obtain ⟨kq6, hkq6⟩ := va_pl_get (X := (wl [gB aB aP aT aM aN bI, gP cA aP pI pA, gT cA aT tI tJ tP tO tR, gM cA aM mI mJ mA, gM cA aN nI nJ nA])) (f := fQ qI qJ) m5
      refine va_getN (D := D) (C := RX2) (T := TX2) (N := 7) hx hb hT inlX2 hown hK.1 hP kq6 hkq6 rfl 3 (by decide) (va_Nw.use rfl (hN _ nl_RX4_77)) (fun _ h9 => h9) rfl dX4_failure_50 ?_
      exact W.iret (v := (qI a2 1)) hx hb hr (fun t ht hW => ⟨⟨(qI a2 1), (), rfl, ⟨(congrArg Prod.fst (og_inj h)).symm, (congrArg Prod.snd (og_inj h)).symm⟩, (by rw [ht]; exact hP), hD⟩, hS.F ht⟩) hS.2.2 dX4_failure_53
    replace h := og_neg c10 h
    by_cases c11 : u2 = (2 : Int32)
    · replace h := og_pos c11 h
      refine gs_in (off := 38) (tgt := 54) 2 c11 hx hb dX4_failure_16 (by decide +kernel) (by decide) ?_
      refine lv_aload_n hx hb dX4_failure_54 rfl (lv_at hl 0 rfl) ?_
      obtain ⟨m7, h⟩ := og_guard h
      obtain ⟨kq8, hkq8⟩ := va_pl_get (X := (wl [gB aB aP aT aM aN bI, gP cA aP pI pA, gT cA aT tI tJ tP tO tR, gM cA aM mI mJ mA, gM cA aN nI nJ nA])) (f := fQ qI qJ) m7
      refine va_getN (D := D) (C := RX2) (T := TX2) (N := 7) hx hb hT inlX2 hown hK.1 hP kq8 hkq8 rfl 4 (by decide) (va_Nw.use rfl (hN _ nl_RX4_90)) (fun _ h9 => h9) rfl dX4_failure_55 ?_
      exact W.iret (v := (qI a2 2)) hx hb hr (fun t ht hW => ⟨⟨(qI a2 2), (), rfl, ⟨(congrArg Prod.fst (og_inj h)).symm, (congrArg Prod.snd (og_inj h)).symm⟩, (by rw [ht]; exact hP), hD⟩, hS.F ht⟩) hS.2.2 dX4_failure_58
    replace h := og_neg c11 h
    refine lv_tableOut (tgt := 59) hx hb dX4_failure_16 (gs_out 3 (by decide) (fun k9 hk9 => ?_)) (by decide) ?_
    · rcases (show k9 = 0 ∨ k9 = 1 ∨ k9 = 2 by omega) with rfl | rfl | rfl
      · exact gs_ne c9 (by decide +kernel)
      · exact gs_ne c10 (by decide +kernel)
      · exact gs_ne c11 (by decide +kernel)
    refine lv_iconst (v := (-1 : Int32)) hx hb dX4_failure_59 (by decide) ?_
    exact W.iret (v := (-1 : Int32)) hx hb hr (fun t ht hW => ⟨⟨(-1 : Int32), (), rfl, ⟨(congrArg Prod.fst (og_inj h)).symm, (congrArg Prod.snd (og_inj h)).symm⟩, (by rw [ht]; exact hP), hD⟩, hS.F ht⟩) hS.2.2 dX4_failure_60
set_option maxRecDepth 100000 in
set_option maxHeartbeats 8000000 in
theorem k_X4_covered (l : Launch) (D : va_G) (cA : Nat → ClassId) (aB : Nat → Nat) (aP : Nat → Nat) (aT : Nat → Nat) (aM : Nat → Nat) (aN : Nat → Nat) (L : List Nat) (sz : Nat) (u1 : Int32) (bI : Nat → Int32) (pI : Nat → Int32) (pA : Nat → Nat → Int32) (tI : Nat → Int32) (tJ : Nat → Int64) (tP : Nat → Option Nat) (tO : Nat → Int64) (tR : Nat → Int32) (mI : Nat → Int32) (mJ : Nat → Int64) (mA : Nat → Nat → Int32) (nI : Nat → Int32) (nJ : Nat → Int64) (nA : Nat → Nat → Int32) (qI : Nat → Nat → Int32) (qJ : Nat → Nat → Int64) (R : Int32 × Unit) (h : f_X4_covered L u1 pI tI tJ = some R) : Met l yX4_covered (wsU yX4_covered cX4_covered 2 (some .int)) ({ frames := 2, cells := 0, slots := 0, locals := 42 }) (PcW D cA (wl [gB aB aP aT aM aN bI, gP cA aP pI pA, gT cA aT tI tJ tP tO tR, gM cA aM mI mJ mA, gM cA aN nI nJ nA] ++ gQ L qI qJ) sz [.ref (aB 0), .int u1]) (QI D (fun _ : Unit => (wl [gB aB aP aT aM aN bI, gP cA aP pI pA, gT cA aT tI tJ tP tO tR, gM cA aM mI mJ mA, gM cA aN nI nJ nA] ++ gQ L qI qJ)) R (va_A (wl [gB aB aP aT aM aN bI, gP cA aP pI pA, gT cA aT tI tJ tP tO tR, gM cA aM mI mJ mA, gM cA aN nI nJ nA] ++ gQ L qI qJ) sz)) 0 0 (va_A (wl [gB aB aP aT aM aN bI, gP cA aP pI pA, gT cA aT tI tJ tP tO tR, gM cA aM mI mJ mA, gM cA aN nI nJ nA] ++ gQ L qI qJ) sz) := by
  refine Met.ofW (cc := cX4_covered) (maxL := 2) (ret := (some .int)) (by decide) rfl ?_
  intro p e s m args below meth c s₁ B hml hv
  obtain ⟨rfl, hsz, hP, hK, hD0⟩ := hv
  have hx := B.exec
  have hb := B.bytes
  have hr := B.returns
  have hts := atoms_spec (ws := (wsU yX4_covered cX4_covered 2 (some .int))) B.pre
  have hT : ∀ w ∈ wsL_law, w.before ([.ref (aB 0), .int u1] : List Value).toArray s = true := fun w h => hts w (List.mem_cons_of_mem _ h)
  have hown : s.vm.findClass RX4 = some m.cls := findClass_of_methodNamed B.named
  have hlocks := B.notSynchronized
  have hN := hK.2
  subst hsz
  have hD := hD0.self (sz := s.heap.size)
  generalize hAe : va_A (wl [gB aB aP aT aM aN bI, gP cA aP pI pA, gT cA aT tI tJ tP tO tR, gM cA aM mI mJ mA, gM cA aN nI nJ nA] ++ gQ L qI qJ) s.heap.size = A at hD ⊢
  have hA : ∀ q : Nat, s.heap.size ≤ q → A q := fun q h => by rw [← hAe]; exact Or.inr h
  have hS : va_S A s.heap s.heap [] := va_S.rf
  have hl := lv_entry ([.ref (aB 0), .int u1]) (n := 2) (Nat.le_of_ble_eq_true rfl)
  rw [lg_entry_eq]
  generalize (lg_sl ([.ref (aB 0), .int u1]) ++ List.replicate (2 - (lg_sl ([.ref (aB 0), .int u1])).length) Slot.unset).toArray = ls at hl ⊢
  have hl : lv_has ls 2 [(0, .ref (aB 0)), (1, .int u1)] := hl
  unfold f_X4_covered at h
  refine lv_iload_n hx hb dX4_covered_0 rfl (lv_at hl 1 rfl) ?_
  refine lv_if_lt (tgt := 25) hx hb dX4_covered_1 (by decide) (fun c1 => ?_) (fun c1 => ?_)
  · replace h := og_pos c1 h
    refine lv_iconst (v := (-1 : Int32)) hx hb dX4_covered_25 (by decide) ?_
    exact W.iret (v := (-1 : Int32)) hx hb hr (fun t ht hW => ⟨⟨(-1 : Int32), (), rfl, ⟨(congrArg Prod.fst (og_inj h)).symm, (congrArg Prod.snd (og_inj h)).symm⟩, (by rw [ht]; exact hP), hD⟩, hS.F ht⟩) hS.2.2 dX4_covered_26
  · replace h := og_neg c1 h
    refine lv_iload_n hx hb dX4_covered_4 rfl (lv_at hl 1 rfl) ?_
    refine lv_aload_n hx hb dX4_covered_5 rfl (lv_at hl 0 rfl) ?_
    refine va_get (D := D) (C := RX4) (T := TX4) (N := 6) hx hb hT inlX4 hown hK.1 hP 0 rfl rfl 0 (by decide) (hT _ fl_RX4_12) (fun _ h9 => h9) rfl dX4_covered_6 ?_
    refine va_getN (D := D) (C := RX3) (T := TX3) (N := 12) hx hb hT inlX3 hown hK.1 hP 1 rfl rfl 9 (by decide) (va_Nw.use rfl (hN _ nl_RX4_44)) (fun _ h9 => h9) rfl dX4_covered_9 ?_
    refine lv_icmp_ge (tgt := 25) hx hb dX4_covered_12 (by decide) (fun c2 => ?_) (fun c2 => ?_)
    · replace h := og_pos c2 h
      refine lv_iconst (v := (-1 : Int32)) hx hb dX4_covered_25 (by decide) ?_
      exact W.iret (v := (-1 : Int32)) hx hb hr (fun t ht hW => ⟨⟨(-1 : Int32), (), rfl, ⟨(congrArg Prod.fst (og_inj h)).symm, (congrArg Prod.snd (og_inj h)).symm⟩, (by rw [ht]; exact hP), hD⟩, hS.F ht⟩) hS.2.2 dX4_covered_26
    · replace h := og_neg c2 h
      refine lv_aload_n hx hb dX4_covered_15 rfl (lv_at hl 0 rfl) ?_
      refine va_get (D := D) (C := RX4) (T := TX4) (N := 6) hx hb hT inlX4 hown hK.1 hP 0 rfl rfl 1 (by decide) (hT _ fl_RX4_19) (fun _ h9 => h9) rfl dX4_covered_16 ?_
      obtain ⟨⟨r3, _u3⟩, e3, h⟩ := og_bind h
      try dsimp only at h
      refine gc_i (ws := (wl [gB aB aP aT aM aN bI, gP cA aP pI pA, gT cA aT tI tJ tP tO tR, gM cA aM mI mJ mA, gM cA aN nI nJ nA] ++ gQ L qI qJ)) (wc := (wl [gT cA aT tI tJ tP tO tR])) (wr := (wl [gB aB aP aT aM aN bI, gP cA aP pI pA, gM cA aM mI mJ mA, gM cA aN nI nJ nA] ++ gQ L qI qJ)) (ws' := (wl [gB aB aP aT aM aN bI, gP cA aP pI pA, gT cA aT tI tJ tP tO tR, gM cA aM mI mJ mA, gM cA aN nI nJ nA] ++ gQ L qI qJ)) (va_runV (As := []) (rest := []) ⟨hx, hb, hml, hown, hT⟩ (k_X0_isKnown l D cA aT s.heap.size  tI tJ tP tO tR _ e3) (cwV 0 hT gv_RX4_55 rfl rfl rfl (by decide +kernel) ⟨Nat.le_of_ble_eq_true rfl, Nat.le_of_ble_eq_true rfl⟩) (pre_V (ci := 0) (q0 := 0) (wr := (wl [gB aB aP aT aM aN bI, gP cA aP pI pA, gM cA aM mI mJ mA, gM cA aN nI nJ nA] ++ gQ L qI qJ)) (pmC (f := fun i => ([gB aB aP aT aM aN bI, gP cA aP pI pA, gT cA aT tI tJ tP tO tR, gM cA aM mI mJ mA, gM cA aN nI nJ nA] : List va_W).getD i []) [0, 1, 2, 3, 4] [2] [0, 1, 3, 4] (by decide)) hK hP hD rfl rfl) rfl rfl hl.1 rfl (lv_room (Nat.le_of_ble_eq_true rfl)) dX4_covered_19 ⟨Nat.le_refl _, Nat.le_refl _⟩) (pmC (f := fun i => ([gB aB aP aT aM aN bI, gP cA aP pI pA, gT cA aT tI tJ tP tO tR, gM cA aM mI mJ mA, gM cA aN nI nJ nA] : List va_W).getD i []) [0, 1, 2, 3, 4] [2] [0, 1, 3, 4] (by decide)) hP hD hS hA (pmC (f := fun i => ([gB aB aP aT aM aN bI, gP cA aP pI pA, gT cA aT tI tJ tP tO tR, gM cA aM mI mJ mA, gM cA aN nI nJ nA] : List va_W).getD i []) [0, 1, 2, 3, 4] [2] [0, 1, 3, 4] (by decide)) (fun H locs hP hD hS => ?_)
      refine lv_if_ne (tgt := 27) hx hb dX4_covered_22 (by decide) (fun c4 => ?_) (fun c4 => ?_)
      · replace h := og_neg c4 h
        refine lv_aload_n hx hb dX4_covered_27 rfl (lv_at hl 0 rfl) ?_
        refine va_get (D := D) (C := RX4) (T := TX4) (N := 6) hx hb hT inlX4 hown hK.1 hP 0 rfl rfl 1 (by decide) (hT _ fl_RX4_19) (fun _ h9 => h9) rfl dX4_covered_28 ?_
        refine va_getN (D := D) (C := RX0) (T := TX0) (N := 6) hx hb hT inlX0 hown hK.1 hP 9 rfl rfl 4 (by decide) (va_Nw.use rfl (hN _ nl_RX4_162)) (fun _ h9 => h9) rfl dX4_covered_31 ?_
        refine lv_iload_n hx hb dX4_covered_34 rfl (lv_at hl 1 rfl) ?_
        obtain ⟨⟨r5, _u5⟩, e5, h⟩ := og_bind h
        try dsimp only at h
        refine gc_i (ws := (wl [gB aB aP aT aM aN bI, gP cA aP pI pA, gT cA aT tI tJ tP tO tR, gM cA aM mI mJ mA, gM cA aN nI nJ nA] ++ gQ L qI qJ)) (wc := (wl ([] : List va_W))) (wr := (wl [gB aB aP aT aM aN bI, gP cA aP pI pA, gT cA aT tI tJ tP tO tR, gM cA aM mI mJ mA, gM cA aN nI nJ nA] ++ gQ L qI qJ)) (ws' := (wl [gB aB aP aT aM aN bI, gP cA aP pI pA, gT cA aT tI tJ tP tO tR, gM cA aM mI mJ mA, gM cA aN nI nJ nA] ++ gQ L qI qJ)) (va_runS (As := [.long (tJ 0), .int u1]) (rest := []) ⟨hx, hb, hml, hown, hT⟩ (k_X4_isMarked l D cA  H.size (tJ 0) u1  _ e5) (cwS 2 hT gs_RX4_106 rfl rfl rfl (by decide +kernel) ⟨Nat.le_of_ble_eq_true rfl, Nat.le_of_ble_eq_true rfl⟩) (pre_S (wr := (wl [gB aB aP aT aM aN bI, gP cA aP pI pA, gT cA aT tI tJ tP tO tR, gM cA aM mI mJ mA, gM cA aN nI nJ nA] ++ gQ L qI qJ)) (pmC (f := fun i => ([gB aB aP aT aM aN bI, gP cA aP pI pA, gT cA aT tI tJ tP tO tR, gM cA aM mI mJ mA, gM cA aN nI nJ nA] : List va_W).getD i []) [0, 1, 2, 3, 4] [] [0, 1, 2, 3, 4] (by decide)) hK hP hD) rfl rfl hl.1 rfl (lv_room (Nat.le_of_ble_eq_true rfl)) dX4_covered_35 ⟨Nat.le_refl _, Nat.le_refl _⟩) (pmC (f := fun i => ([gB aB aP aT aM aN bI, gP cA aP pI pA, gT cA aT tI tJ tP tO tR, gM cA aM mI mJ mA, gM cA aN nI nJ nA] : List va_W).getD i []) [0, 1, 2, 3, 4] [] [0, 1, 2, 3, 4] (by decide)) hP hD hS hA (pmC (f := fun i => ([gB aB aP aT aM aN bI, gP cA aP pI pA, gT cA aT tI tJ tP tO tR, gM cA aM mI mJ mA, gM cA aN nI nJ nA] : List va_W).getD i []) [0, 1, 2, 3, 4] [] [0, 1, 2, 3, 4] (by decide)) (fun H locs hP hD hS => ?_)
        refine lv_if_eq (tgt := 45) hx hb dX4_covered_38 (by decide) (fun c6 => ?_) (fun c6 => ?_)
        · replace h := og_pos c6 h
          refine lv_iconst (v := (0 : Int32)) hx hb dX4_covered_45 (by decide) ?_
          exact W.iret (v := (0 : Int32)) hx hb hr (fun t ht hW => ⟨⟨(0 : Int32), (), rfl, ⟨(congrArg Prod.fst (og_inj h)).symm, (congrArg Prod.snd (og_inj h)).symm⟩, (by rw [ht]; exact hP), hD⟩, hS.F ht⟩) hS.2.2 dX4_covered_46
        · replace h := og_neg c6 h
          refine lv_iconst (v := (1 : Int32)) hx hb dX4_covered_41 (by decide) ?_
          refine lv_goto (tgt := 46) hx hb dX4_covered_42 (by decide) ?_
          exact W.iret (v := (1 : Int32)) hx hb hr (fun t ht hW => ⟨⟨(1 : Int32), (), rfl, ⟨(congrArg Prod.fst (og_inj h)).symm, (congrArg Prod.snd (og_inj h)).symm⟩, (by rw [ht]; exact hP), hD⟩, hS.F ht⟩) hS.2.2 dX4_covered_46
      · replace h := og_pos c4 h
        refine lv_iconst (v := (-1 : Int32)) hx hb dX4_covered_25 (by decide) ?_
        exact W.iret (v := (-1 : Int32)) hx hb hr (fun t ht hW => ⟨⟨(-1 : Int32), (), rfl, ⟨(congrArg Prod.fst (og_inj h)).symm, (congrArg Prod.snd (og_inj h)).symm⟩, (by rw [ht]; exact hP), hD⟩, hS.F ht⟩) hS.2.2 dX4_covered_26
set_option maxRecDepth 100000 in
set_option maxHeartbeats 8000000 in
theorem k_X4_count (l : Launch) (D : va_G) (cA : Nat → ClassId) (aB : Nat → Nat) (aP : Nat → Nat) (aT : Nat → Nat) (aM : Nat → Nat) (aN : Nat → Nat) (L : List Nat) (sz : Nat) (u1 : Int32) (bI : Nat → Int32) (pI : Nat → Int32) (pA : Nat → Nat → Int32) (tI : Nat → Int32) (tJ : Nat → Int64) (tP : Nat → Option Nat) (tO : Nat → Int64) (tR : Nat → Int32) (mI : Nat → Int32) (mJ : Nat → Int64) (mA : Nat → Nat → Int32) (nI : Nat → Int32) (nJ : Nat → Int64) (nA : Nat → Nat → Int32) (qI : Nat → Nat → Int32) (qJ : Nat → Nat → Int64) (R : Int32 × Unit) (h : f_X4_count L u1 pI tI tJ = some R) : Met l yX4_count (wsU yX4_count cX4_count 2 (some .int)) ({ frames := 2, cells := 0, slots := 0, locals := 41 }) (PcW D cA (wl [gB aB aP aT aM aN bI, gP cA aP pI pA, gT cA aT tI tJ tP tO tR, gM cA aM mI mJ mA, gM cA aN nI nJ nA] ++ gQ L qI qJ) sz [.ref (aB 0), .int u1]) (QI D (fun _ : Unit => (wl [gB aB aP aT aM aN bI, gP cA aP pI pA, gT cA aT tI tJ tP tO tR, gM cA aM mI mJ mA, gM cA aN nI nJ nA] ++ gQ L qI qJ)) R (va_A (wl [gB aB aP aT aM aN bI, gP cA aP pI pA, gT cA aT tI tJ tP tO tR, gM cA aM mI mJ mA, gM cA aN nI nJ nA] ++ gQ L qI qJ) sz)) 0 0 (va_A (wl [gB aB aP aT aM aN bI, gP cA aP pI pA, gT cA aT tI tJ tP tO tR, gM cA aM mI mJ mA, gM cA aN nI nJ nA] ++ gQ L qI qJ) sz) := by
  refine Met.ofW (cc := cX4_count) (maxL := 2) (ret := (some .int)) (by decide) rfl ?_
  intro p e s m args below meth c s₁ B hml hv
  obtain ⟨rfl, hsz, hP, hK, hD0⟩ := hv
  have hx := B.exec
  have hb := B.bytes
  have hr := B.returns
  have hts := atoms_spec (ws := (wsU yX4_count cX4_count 2 (some .int))) B.pre
  have hT : ∀ w ∈ wsL_law, w.before ([.ref (aB 0), .int u1] : List Value).toArray s = true := fun w h => hts w (List.mem_cons_of_mem _ h)
  have hown : s.vm.findClass RX4 = some m.cls := findClass_of_methodNamed B.named
  have hlocks := B.notSynchronized
  have hN := hK.2
  subst hsz
  have hD := hD0.self (sz := s.heap.size)
  generalize hAe : va_A (wl [gB aB aP aT aM aN bI, gP cA aP pI pA, gT cA aT tI tJ tP tO tR, gM cA aM mI mJ mA, gM cA aN nI nJ nA] ++ gQ L qI qJ) s.heap.size = A at hD ⊢
  have hA : ∀ q : Nat, s.heap.size ≤ q → A q := fun q h => by rw [← hAe]; exact Or.inr h
  have hS : va_S A s.heap s.heap [] := va_S.rf
  have hl := lv_entry ([.ref (aB 0), .int u1]) (n := 2) (Nat.le_of_ble_eq_true rfl)
  rw [lg_entry_eq]
  generalize (lg_sl ([.ref (aB 0), .int u1]) ++ List.replicate (2 - (lg_sl ([.ref (aB 0), .int u1])).length) Slot.unset).toArray = ls at hl ⊢
  have hl : lv_has ls 2 [(0, .ref (aB 0)), (1, .int u1)] := hl
  unfold f_X4_count at h
  refine lv_iload_n hx hb dX4_count_0 rfl (lv_at hl 1 rfl) ?_
  by_cases c6 : u1 = (0 : Int32)
  · replace h := og_pos c6 h
    refine gs_in (off := 39) (tgt := 40) 0 c6 hx hb dX4_count_1 (by decide +kernel) (by decide) ?_
    refine lv_aload_n hx hb dX4_count_40 rfl (lv_at hl 0 rfl) ?_
    refine va_get (D := D) (C := RX4) (T := TX4) (N := 6) hx hb hT inlX4 hown hK.1 hP 0 rfl rfl 0 (by decide) (hT _ fl_RX4_12) (fun _ h9 => h9) rfl dX4_count_41 ?_
    refine va_getN (D := D) (C := RX3) (T := TX3) (N := 12) hx hb hT inlX3 hown hK.1 hP 1 rfl rfl 3 (by decide) (va_Nw.use rfl (hN _ nl_RX4_163)) (fun _ h9 => h9) rfl dX4_count_44 ?_
    exact W.iret (v := (pI 0)) hx hb hr (fun t ht hW => ⟨⟨(pI 0), (), rfl, ⟨(congrArg Prod.fst (og_inj h)).symm, (congrArg Prod.snd (og_inj h)).symm⟩, (by rw [ht]; exact hP), hD⟩, hS.F ht⟩) hS.2.2 dX4_count_47
  replace h := og_neg c6 h
  by_cases c7 : u1 = (1 : Int32)
  · replace h := og_pos c7 h
    refine gs_in (off := 47) (tgt := 48) 1 c7 hx hb dX4_count_1 (by decide +kernel) (by decide) ?_
    refine lv_aload_n hx hb dX4_count_48 rfl (lv_at hl 0 rfl) ?_
    refine va_get (D := D) (C := RX4) (T := TX4) (N := 6) hx hb hT inlX4 hown hK.1 hP 0 rfl rfl 0 (by decide) (hT _ fl_RX4_12) (fun _ h9 => h9) rfl dX4_count_49 ?_
    refine va_getN (D := D) (C := RX3) (T := TX3) (N := 12) hx hb hT inlX3 hown hK.1 hP 1 rfl rfl 4 (by decide) (va_Nw.use rfl (hN _ nl_RX4_166)) (fun _ h9 => h9) rfl dX4_count_52 ?_
    exact W.iret (v := (pI 1)) hx hb hr (fun t ht hW => ⟨⟨(pI 1), (), rfl, ⟨(congrArg Prod.fst (og_inj h)).symm, (congrArg Prod.snd (og_inj h)).symm⟩, (by rw [ht]; exact hP), hD⟩, hS.F ht⟩) hS.2.2 dX4_count_55
  replace h := og_neg c7 h
  by_cases c8 : u1 = (2 : Int32)
  · replace h := og_pos c8 h
    refine gs_in (off := 55) (tgt := 56) 2 c8 hx hb dX4_count_1 (by decide +kernel) (by decide) ?_
    refine lv_aload_n hx hb dX4_count_56 rfl (lv_at hl 0 rfl) ?_
    refine va_get (D := D) (C := RX4) (T := TX4) (N := 6) hx hb hT inlX4 hown hK.1 hP 0 rfl rfl 0 (by decide) (hT _ fl_RX4_12) (fun _ h9 => h9) rfl dX4_count_57 ?_
    refine va_getN (D := D) (C := RX3) (T := TX3) (N := 12) hx hb hT inlX3 hown hK.1 hP 1 rfl rfl 9 (by decide) (va_Nw.use rfl (hN _ nl_RX4_44)) (fun _ h9 => h9) rfl dX4_count_60 ?_
    exact W.iret (v := (pI 2)) hx hb hr (fun t ht hW => ⟨⟨(pI 2), (), rfl, ⟨(congrArg Prod.fst (og_inj h)).symm, (congrArg Prod.snd (og_inj h)).symm⟩, (by rw [ht]; exact hP), hD⟩, hS.F ht⟩) hS.2.2 dX4_count_63
  replace h := og_neg c8 h
  by_cases c9 : u1 = (3 : Int32)
  · replace h := og_pos c9 h
    refine gs_in (off := 63) (tgt := 64) 3 c9 hx hb dX4_count_1 (by decide +kernel) (by decide) ?_
    refine lv_aload_n hx hb dX4_count_64 rfl (lv_at hl 0 rfl) ?_
    refine va_get (D := D) (C := RX4) (T := TX4) (N := 6) hx hb hT inlX4 hown hK.1 hP 0 rfl rfl 1 (by decide) (hT _ fl_RX4_19) (fun _ h9 => h9) rfl dX4_count_65 ?_
    refine lv_aload_n hx hb dX4_count_68 rfl (lv_at hl 0 rfl) ?_
    refine va_get (D := D) (C := RX4) (T := TX4) (N := 6) hx hb hT inlX4 hown hK.1 hP 0 rfl rfl 1 (by decide) (hT _ fl_RX4_19) (fun _ h9 => h9) rfl dX4_count_69 ?_
    refine va_getN (D := D) (C := RX0) (T := TX0) (N := 6) hx hb hT inlX0 hown hK.1 hP 9 rfl rfl 3 (by decide) (va_Nw.use rfl (hN _ nl_RX4_63)) (fun _ h9 => h9) rfl dX4_count_72 ?_
    obtain ⟨⟨r1, _u1⟩, e1, h⟩ := og_bind h
    try dsimp only at h
    refine gc_i (ws := (wl [gB aB aP aT aM aN bI, gP cA aP pI pA, gT cA aT tI tJ tP tO tR, gM cA aM mI mJ mA, gM cA aN nI nJ nA] ++ gQ L qI qJ)) (wc := (wl [gT cA aT tI tJ tP tO tR])) (wr := (wl [gB aB aP aT aM aN bI, gP cA aP pI pA, gM cA aM mI mJ mA, gM cA aN nI nJ nA] ++ gQ L qI qJ)) (ws' := (wl [gB aB aP aT aM aN bI, gP cA aP pI pA, gT cA aT tI tJ tP tO tR, gM cA aM mI mJ mA, gM cA aN nI nJ nA] ++ gQ L qI qJ)) (va_runV (As := [.int (tI 0)]) (rest := []) ⟨hx, hb, hml, hown, hT⟩ (k_X0_knownOrNone l D cA aT s.heap.size (tI 0) tI tJ tP tO tR _ e1) (cwV 1 hT gv_RX4_64 rfl rfl rfl (by decide +kernel) ⟨Nat.le_of_ble_eq_true rfl, Nat.le_of_ble_eq_true rfl⟩) (pre_V (ci := 0) (q0 := 0) (wr := (wl [gB aB aP aT aM aN bI, gP cA aP pI pA, gM cA aM mI mJ mA, gM cA aN nI nJ nA] ++ gQ L qI qJ)) (pmC (f := fun i => ([gB aB aP aT aM aN bI, gP cA aP pI pA, gT cA aT tI tJ tP tO tR, gM cA aM mI mJ mA, gM cA aN nI nJ nA] : List va_W).getD i []) [0, 1, 2, 3, 4] [2] [0, 1, 3, 4] (by decide)) hK hP hD rfl rfl) rfl rfl hl.1 rfl (lv_room (Nat.le_of_ble_eq_true rfl)) dX4_count_75 ⟨Nat.le_refl _, Nat.le_refl _⟩) (pmC (f := fun i => ([gB aB aP aT aM aN bI, gP cA aP pI pA, gT cA aT tI tJ tP tO tR, gM cA aM mI mJ mA, gM cA aN nI nJ nA] : List va_W).getD i []) [0, 1, 2, 3, 4] [2] [0, 1, 3, 4] (by decide)) hP hD hS hA (pmC (f := fun i => ([gB aB aP aT aM aN bI, gP cA aP pI pA, gT cA aT tI tJ tP tO tR, gM cA aM mI mJ mA, gM cA aN nI nJ nA] : List va_W).getD i []) [0, 1, 2, 3, 4] [2] [0, 1, 3, 4] (by decide)) (fun H locs hP hD hS => ?_)
    exact W.iret (v := r1) hx hb hr (fun t ht hW => ⟨⟨r1, (), rfl, ⟨(congrArg Prod.fst (og_inj h)).symm, (congrArg Prod.snd (og_inj h)).symm⟩, (by rw [ht]; exact hP), hD⟩, hS.F ht⟩) hS.2.2 dX4_count_78
  replace h := og_neg c9 h
  by_cases c10 : u1 = (4 : Int32)
  · replace h := og_pos c10 h
    refine gs_in (off := 78) (tgt := 79) 4 c10 hx hb dX4_count_1 (by decide +kernel) (by decide) ?_
    refine lv_aload_n hx hb dX4_count_79 rfl (lv_at hl 0 rfl) ?_
    refine va_get (D := D) (C := RX4) (T := TX4) (N := 6) hx hb hT inlX4 hown hK.1 hP 0 rfl rfl 1 (by decide) (hT _ fl_RX4_19) (fun _ h9 => h9) rfl dX4_count_80 ?_
    refine lv_aload_n hx hb dX4_count_83 rfl (lv_at hl 0 rfl) ?_
    refine va_get (D := D) (C := RX4) (T := TX4) (N := 6) hx hb hT inlX4 hown hK.1 hP 0 rfl rfl 1 (by decide) (hT _ fl_RX4_19) (fun _ h9 => h9) rfl dX4_count_84 ?_
    refine va_getN (D := D) (C := RX0) (T := TX0) (N := 6) hx hb hT inlX0 hown hK.1 hP 9 rfl rfl 5 (by decide) (va_Nw.use rfl (hN _ nl_RX4_169)) (fun _ h9 => h9) rfl dX4_count_87 ?_
    obtain ⟨⟨r2, _u2⟩, e2, h⟩ := og_bind h
    try dsimp only at h
    refine gc_i (ws := (wl [gB aB aP aT aM aN bI, gP cA aP pI pA, gT cA aT tI tJ tP tO tR, gM cA aM mI mJ mA, gM cA aN nI nJ nA] ++ gQ L qI qJ)) (wc := (wl ([] : List va_W))) (wr := (wl [gB aB aP aT aM aN bI, gP cA aP pI pA, gT cA aT tI tJ tP tO tR, gM cA aM mI mJ mA, gM cA aN nI nJ nA] ++ gQ L qI qJ)) (ws' := (wl [gB aB aP aT aM aN bI, gP cA aP pI pA, gT cA aT tI tJ tP tO tR, gM cA aM mI mJ mA, gM cA aN nI nJ nA] ++ gQ L qI qJ)) (va_runS (As := [.long (tJ 1)]) (rest := [.ref (aT 0)]) ⟨hx, hb, hml, hown, hT⟩ (k_J13_bitCount_95d88 l D cA  s.heap.size (tJ 1)  _ e2) (va_cwS 1 hT gs_RX4_84 rfl rfl rfl (by decide +kernel) ⟨Nat.le_of_ble_eq_true rfl, Nat.le_of_ble_eq_true rfl⟩) (pre_S (wr := (wl [gB aB aP aT aM aN bI, gP cA aP pI pA, gT cA aT tI tJ tP tO tR, gM cA aM mI mJ mA, gM cA aN nI nJ nA] ++ gQ L qI qJ)) (pmC (f := fun i => ([gB aB aP aT aM aN bI, gP cA aP pI pA, gT cA aT tI tJ tP tO tR, gM cA aM mI mJ mA, gM cA aN nI nJ nA] : List va_W).getD i []) [0, 1, 2, 3, 4] [] [0, 1, 2, 3, 4] (by decide)) hK hP hD) rfl rfl hl.1 rfl (lv_room (Nat.le_of_ble_eq_true rfl)) dX4_count_90 ⟨Nat.le_refl _, Nat.le_refl _⟩) (pmC (f := fun i => ([gB aB aP aT aM aN bI, gP cA aP pI pA, gT cA aT tI tJ tP tO tR, gM cA aM mI mJ mA, gM cA aN nI nJ nA] : List va_W).getD i []) [0, 1, 2, 3, 4] [] [0, 1, 2, 3, 4] (by decide)) hP hD hS hA (pmC (f := fun i => ([gB aB aP aT aM aN bI, gP cA aP pI pA, gT cA aT tI tJ tP tO tR, gM cA aM mI mJ mA, gM cA aN nI nJ nA] : List va_W).getD i []) [0, 1, 2, 3, 4] [] [0, 1, 2, 3, 4] (by decide)) (fun H locs hP hD hS => ?_)
    obtain ⟨⟨r3, _u3⟩, e3, h⟩ := og_bind h
    try dsimp only at h
    refine gc_i (ws := (wl [gB aB aP aT aM aN bI, gP cA aP pI pA, gT cA aT tI tJ tP tO tR, gM cA aM mI mJ mA, gM cA aN nI nJ nA] ++ gQ L qI qJ)) (wc := (wl [gT cA aT tI tJ tP tO tR])) (wr := (wl [gB aB aP aT aM aN bI, gP cA aP pI pA, gM cA aM mI mJ mA, gM cA aN nI nJ nA] ++ gQ L qI qJ)) (ws' := (wl [gB aB aP aT aM aN bI, gP cA aP pI pA, gT cA aT tI tJ tP tO tR, gM cA aM mI mJ mA, gM cA aN nI nJ nA] ++ gQ L qI qJ)) (va_runV (As := [.int r2]) (rest := []) ⟨hx, hb, hml, hown, hT⟩ (k_X0_knownOrNone l D cA aT H.size r2 tI tJ tP tO tR _ e3) (cwV 1 hT gv_RX4_64 rfl rfl rfl (by decide +kernel) ⟨Nat.le_of_ble_eq_true rfl, Nat.le_of_ble_eq_true rfl⟩) (pre_V (ci := 0) (q0 := 0) (wr := (wl [gB aB aP aT aM aN bI, gP cA aP pI pA, gM cA aM mI mJ mA, gM cA aN nI nJ nA] ++ gQ L qI qJ)) (pmC (f := fun i => ([gB aB aP aT aM aN bI, gP cA aP pI pA, gT cA aT tI tJ tP tO tR, gM cA aM mI mJ mA, gM cA aN nI nJ nA] : List va_W).getD i []) [0, 1, 2, 3, 4] [2] [0, 1, 3, 4] (by decide)) hK hP hD rfl rfl) rfl rfl hl.1 rfl (lv_room (Nat.le_of_ble_eq_true rfl)) dX4_count_93 ⟨Nat.le_refl _, Nat.le_refl _⟩) (pmC (f := fun i => ([gB aB aP aT aM aN bI, gP cA aP pI pA, gT cA aT tI tJ tP tO tR, gM cA aM mI mJ mA, gM cA aN nI nJ nA] : List va_W).getD i []) [0, 1, 2, 3, 4] [2] [0, 1, 3, 4] (by decide)) hP hD hS hA (pmC (f := fun i => ([gB aB aP aT aM aN bI, gP cA aP pI pA, gT cA aT tI tJ tP tO tR, gM cA aM mI mJ mA, gM cA aN nI nJ nA] : List va_W).getD i []) [0, 1, 2, 3, 4] [2] [0, 1, 3, 4] (by decide)) (fun H locs hP hD hS => ?_)
    exact W.iret (v := r3) hx hb hr (fun t ht hW => ⟨⟨r3, (), rfl, ⟨(congrArg Prod.fst (og_inj h)).symm, (congrArg Prod.snd (og_inj h)).symm⟩, (by rw [ht]; exact hP), hD⟩, hS.F ht⟩) hS.2.2 dX4_count_96
  replace h := og_neg c10 h
  by_cases c11 : u1 = (5 : Int32)
  · replace h := og_pos c11 h
    refine gs_in (off := 96) (tgt := 97) 5 c11 hx hb dX4_count_1 (by decide +kernel) (by decide) ?_
    refine lv_aload_n hx hb dX4_count_97 rfl (lv_at hl 0 rfl) ?_
    refine va_get (D := D) (C := RX4) (T := TX4) (N := 6) hx hb hT inlX4 hown hK.1 hP 0 rfl rfl 1 (by decide) (hT _ fl_RX4_19) (fun _ h9 => h9) rfl dX4_count_98 ?_
    refine lv_aload_n hx hb dX4_count_101 rfl (lv_at hl 0 rfl) ?_
    refine va_get (D := D) (C := RX4) (T := TX4) (N := 6) hx hb hT inlX4 hown hK.1 hP 0 rfl rfl 1 (by decide) (hT _ fl_RX4_19) (fun _ h9 => h9) rfl dX4_count_102 ?_
    refine va_getN (D := D) (C := RX0) (T := TX0) (N := 6) hx hb hT inlX0 hown hK.1 hP 9 rfl rfl 4 (by decide) (va_Nw.use rfl (hN _ nl_RX4_162)) (fun _ h9 => h9) rfl dX4_count_105 ?_
    obtain ⟨⟨r4, _u4⟩, e4, h⟩ := og_bind h
    try dsimp only at h
    refine gc_i (ws := (wl [gB aB aP aT aM aN bI, gP cA aP pI pA, gT cA aT tI tJ tP tO tR, gM cA aM mI mJ mA, gM cA aN nI nJ nA] ++ gQ L qI qJ)) (wc := (wl ([] : List va_W))) (wr := (wl [gB aB aP aT aM aN bI, gP cA aP pI pA, gT cA aT tI tJ tP tO tR, gM cA aM mI mJ mA, gM cA aN nI nJ nA] ++ gQ L qI qJ)) (ws' := (wl [gB aB aP aT aM aN bI, gP cA aP pI pA, gT cA aT tI tJ tP tO tR, gM cA aM mI mJ mA, gM cA aN nI nJ nA] ++ gQ L qI qJ)) (va_runS (As := [.long (tJ 0)]) (rest := [.ref (aT 0)]) ⟨hx, hb, hml, hown, hT⟩ (k_J13_bitCount_95d88 l D cA  s.heap.size (tJ 0)  _ e4) (va_cwS 1 hT gs_RX4_84 rfl rfl rfl (by decide +kernel) ⟨Nat.le_of_ble_eq_true rfl, Nat.le_of_ble_eq_true rfl⟩) (pre_S (wr := (wl [gB aB aP aT aM aN bI, gP cA aP pI pA, gT cA aT tI tJ tP tO tR, gM cA aM mI mJ mA, gM cA aN nI nJ nA] ++ gQ L qI qJ)) (pmC (f := fun i => ([gB aB aP aT aM aN bI, gP cA aP pI pA, gT cA aT tI tJ tP tO tR, gM cA aM mI mJ mA, gM cA aN nI nJ nA] : List va_W).getD i []) [0, 1, 2, 3, 4] [] [0, 1, 2, 3, 4] (by decide)) hK hP hD) rfl rfl hl.1 rfl (lv_room (Nat.le_of_ble_eq_true rfl)) dX4_count_108 ⟨Nat.le_refl _, Nat.le_refl _⟩) (pmC (f := fun i => ([gB aB aP aT aM aN bI, gP cA aP pI pA, gT cA aT tI tJ tP tO tR, gM cA aM mI mJ mA, gM cA aN nI nJ nA] : List va_W).getD i []) [0, 1, 2, 3, 4] [] [0, 1, 2, 3, 4] (by decide)) hP hD hS hA (pmC (f := fun i => ([gB aB aP aT aM aN bI, gP cA aP pI pA, gT cA aT tI tJ tP tO tR, gM cA aM mI mJ mA, gM cA aN nI nJ nA] : List va_W).getD i []) [0, 1, 2, 3, 4] [] [0, 1, 2, 3, 4] (by decide)) (fun H locs hP hD hS => ?_)
    obtain ⟨⟨r5, _u5⟩, e5, h⟩ := og_bind h
    try dsimp only at h
    refine gc_i (ws := (wl [gB aB aP aT aM aN bI, gP cA aP pI pA, gT cA aT tI tJ tP tO tR, gM cA aM mI mJ mA, gM cA aN nI nJ nA] ++ gQ L qI qJ)) (wc := (wl [gT cA aT tI tJ tP tO tR])) (wr := (wl [gB aB aP aT aM aN bI, gP cA aP pI pA, gM cA aM mI mJ mA, gM cA aN nI nJ nA] ++ gQ L qI qJ)) (ws' := (wl [gB aB aP aT aM aN bI, gP cA aP pI pA, gT cA aT tI tJ tP tO tR, gM cA aM mI mJ mA, gM cA aN nI nJ nA] ++ gQ L qI qJ)) (va_runV (As := [.int r4]) (rest := []) ⟨hx, hb, hml, hown, hT⟩ (k_X0_knownOrNone l D cA aT H.size r4 tI tJ tP tO tR _ e5) (cwV 1 hT gv_RX4_64 rfl rfl rfl (by decide +kernel) ⟨Nat.le_of_ble_eq_true rfl, Nat.le_of_ble_eq_true rfl⟩) (pre_V (ci := 0) (q0 := 0) (wr := (wl [gB aB aP aT aM aN bI, gP cA aP pI pA, gM cA aM mI mJ mA, gM cA aN nI nJ nA] ++ gQ L qI qJ)) (pmC (f := fun i => ([gB aB aP aT aM aN bI, gP cA aP pI pA, gT cA aT tI tJ tP tO tR, gM cA aM mI mJ mA, gM cA aN nI nJ nA] : List va_W).getD i []) [0, 1, 2, 3, 4] [2] [0, 1, 3, 4] (by decide)) hK hP hD rfl rfl) rfl rfl hl.1 rfl (lv_room (Nat.le_of_ble_eq_true rfl)) dX4_count_111 ⟨Nat.le_refl _, Nat.le_refl _⟩) (pmC (f := fun i => ([gB aB aP aT aM aN bI, gP cA aP pI pA, gT cA aT tI tJ tP tO tR, gM cA aM mI mJ mA, gM cA aN nI nJ nA] : List va_W).getD i []) [0, 1, 2, 3, 4] [2] [0, 1, 3, 4] (by decide)) hP hD hS hA (pmC (f := fun i => ([gB aB aP aT aM aN bI, gP cA aP pI pA, gT cA aT tI tJ tP tO tR, gM cA aM mI mJ mA, gM cA aN nI nJ nA] : List va_W).getD i []) [0, 1, 2, 3, 4] [2] [0, 1, 3, 4] (by decide)) (fun H locs hP hD hS => ?_)
    exact W.iret (v := r5) hx hb hr (fun t ht hW => ⟨⟨r5, (), rfl, ⟨(congrArg Prod.fst (og_inj h)).symm, (congrArg Prod.snd (og_inj h)).symm⟩, (by rw [ht]; exact hP), hD⟩, hS.F ht⟩) hS.2.2 dX4_count_114
  replace h := og_neg c11 h
  refine lv_tableOut (tgt := 115) hx hb dX4_count_1 (gs_out 6 (by decide) (fun k9 hk9 => ?_)) (by decide) ?_
  · rcases (show k9 = 0 ∨ k9 = 1 ∨ k9 = 2 ∨ k9 = 3 ∨ k9 = 4 ∨ k9 = 5 by omega) with rfl | rfl | rfl | rfl | rfl | rfl
    · exact gs_ne c6 (by decide +kernel)
    · exact gs_ne c7 (by decide +kernel)
    · exact gs_ne c8 (by decide +kernel)
    · exact gs_ne c9 (by decide +kernel)
    · exact gs_ne c10 (by decide +kernel)
    · exact gs_ne c11 (by decide +kernel)
  refine lv_iconst (v := (-1 : Int32)) hx hb dX4_count_115 (by decide) ?_
  exact W.iret (v := (-1 : Int32)) hx hb hr (fun t ht hW => ⟨⟨(-1 : Int32), (), rfl, ⟨(congrArg Prod.fst (og_inj h)).symm, (congrArg Prod.snd (og_inj h)).symm⟩, (by rw [ht]; exact hP), hD⟩, hS.F ht⟩) hS.2.2 dX4_count_116
