theorem lay_of {A : Nat → Prop} {X : va_W} {L : List Nat} {f : Nat → va_E} {tP : Nat → Option Nat} (hD : va_D A (X ++ va_pl L f)) (hlen : L.length = 40) (h : ∀ j, j < 40 → tP j = L[j]?) : ∃ ad, Lay L ad tP := by
  refine ⟨fun j => L.getD j 0, fun i hi => ?_, fun i j hi hj e => ?_⟩
  · have hl : i < L.length := by omega
    have e : L.getD i 0 = L[i] := by simp [List.getD, hl]
    dsimp only
    refine ⟨by rw [h i hi, List.getElem?_eq_getElem hl, e], by rw [e]; exact List.getElem_mem hl⟩
  · have hl : i < L.length := by omega
    have hl2 : j < L.length := by omega
    have e1 : L.getD i 0 = L[i] := by simp [List.getD, hl]
    have e2 : L.getD j 0 = L[j] := by simp [List.getD, hl2]
    dsimp only at e
    rw [e1, e2] at e
    have a1 : (X ++ va_pl L f)[X.length + i]? = some (L[i], f L[i]) := by
      rw [List.getElem?_append_right (by omega), Nat.add_sub_cancel_left]
      simp [va_pl, hl]
    have a2 : (X ++ va_pl L f)[X.length + j]? = some (L[j], f L[j]) := by
      rw [List.getElem?_append_right (by omega), Nat.add_sub_cancel_left]
      simp [va_pl, hl2]
    have := hD.1 _ _ _ _ a1 a2 e
    omega

set_option maxRecDepth 100000 in
set_option maxHeartbeats 8000000 in
theorem k_X0_init (l : Launch) (D : va_G) (cA : Nat → ClassId) (a sz : Nat) : Met l yX0_init (wsU yX0_init cX0_init 2 none) ({ frames := 2, cells := 43, slots := 8512, locals := 32 }) (PcC D cA [(a, .inr (0, [.null, .null, .null, .int 0, .long 0, .long 0]))] sz [.ref a]) (QC D (fun u : (Nat → Nat) × List Nat × (Nat → Option Nat) => gT cA u.1 (fun _ => 0) (fun _ => 0) u.2.2 (fun _ => 0) (fun _ => 0) ++ gQ u.2.1 (fun _ _ => 0) (fun _ _ => 0)) (fun u : (Nat → Nat) × List Nat × (Nat → Option Nat) => u.1 0 = a ∧ ∃ ad, Lay u.2.1 ad u.2.2) (va_A [(a, .inr (0, [.null, .null, .null, .int 0, .long 0, .long 0]))] sz)) 43 8512 (va_A [(a, .inr (0, [.null, .null, .null, .int 0, .long 0, .long 0]))] sz) := by
  refine Met.ofW (cc := cX0_init) (maxL := 2) (ret := none) (by decide) rfl ?_
  intro p e s m args below meth c s₁ B hml hv
  obtain ⟨rfl, hsz, hP, hK, hD0⟩ := hv
  have hx := B.exec
  have hb := B.bytes
  have hr := B.returns
  have hts := atoms_spec (ws := (wsU yX0_init cX0_init 2 none)) B.pre
  have hT : ∀ w ∈ wsL_law, w.before ([.ref a] : List Value).toArray s = true := fun w h => hts w (List.mem_cons_of_mem _ h)
  have hown : s.vm.findClass RX0 = some m.cls := findClass_of_methodNamed B.named
  have hlocks := B.notSynchronized
  have hin : meth.name = "<init>" := (name_of_methodNamed B.named B.method).1
  have hN := hK.1.2
  subst hsz
  have hD := hD0.self (sz := s.heap.size)
  generalize hAe : va_A [(a, .inr (0, [.null, .null, .null, .int 0, .long 0, .long 0]))] s.heap.size = A at hD ⊢
  have hA : ∀ q : Nat, s.heap.size ≤ q → A q := fun q h => by rw [← hAe]; exact Or.inr h
  have hS : va_S A s.heap s.heap [] := va_S.rf
  have hl := lv_entry ([.ref a]) (n := 2) (Nat.le_of_ble_eq_true rfl)
  rw [lg_entry_eq]
  generalize (lg_sl ([.ref a]) ++ List.replicate (2 - (lg_sl ([.ref a])).length) Slot.unset).toArray = ls at hl ⊢
  have hl : lv_has ls 2 [(0, .ref a)] := hl
  refine lv_aload_n hx hb dX0_init_0 rfl (lv_at hl 0 rfl) ?_
  refine W.objInit hx hb hown (hT _ oi_RX0) (hT _ oi_im) (hT _ oi_cd) rfl (by rw [hml]; exact hl.1) rfl dX0_init_1 (Nat.le_of_ble_eq_true rfl) (Nat.le_of_ble_eq_true rfl) ?_
  refine W.eq (g2 := F0 m 4 ls []) rfl ?_
  refine lv_aload_n hx hb dX0_init_4 rfl (lv_at hl 0 rfl) ?_
  refine lv_bipush (v := (40 : Int32)) hx hb dX0_init_5 (by decide) ?_
  refine va_newq (C := "SymbolBench$Path") (N' := 40) hx hb hown (hT _ cl_RX0_9) hK.2.1 hK.1.1 hP hD hS hA (by decide) (by decide) (Nat.le_of_ble_eq_true rfl) (Nat.le_of_ble_eq_true rfl) (Nat.le_of_ble_eq_true rfl) dX0_init_7 (fun q1 c1 H hK1 hP hD hS => ?_)
  have e1 : c1 = cA 3 := ra_o (hK1.2 5 (c1, .object "SymbolBench$Path") rfl).2 (hK.1.1.2 3 _ rfl).2
  subst e1
  refine W.widen (k := 1) (n := 40) (Nat.le_of_ble_eq_true rfl) (Nat.le_of_ble_eq_true rfl) ?_
  refine va_putF (D := D) (v := .ref q1) (ty := .array (.object "SymbolBench$Path")) (C := RX0) (T := TX0) (N := 6) hx hb hT inlX0 tyX0 tyX0_ok nmX0 hown hK.1.1 hP hD hS 0 rfl rfl 0 (by decide) (hT _ fl_RX0_11) (fun _ h9 => h9) rfl hin rfl (by decide +kernel) rfl rfl (Nat.le_of_ble_eq_true rfl) dX0_init_10 (fun H locs hP hD hS => ?_)
  have hP : va_P D vwCl ([(a, .inr (0, [.ref q1, .null, .null, .int 0, .long 0, .long 0])), (q1, .inl (cA 3, 40, .inr (.inr (.inr (.inr (fun _ => none))))))]) H := hP
  have hD : va_D A ([(a, .inr (0, [.ref q1, .null, .null, .int 0, .long 0, .long 0])), (q1, .inl (cA 3, 40, .inr (.inr (.inr (.inr (fun _ => none))))))]) := hD
  refine lv_aload_n hx hb dX0_init_13 rfl (lv_at hl 0 rfl) ?_
  refine lv_sipush (v := (4096 : Int32)) hx hb dX0_init_14 (by decide) ?_
  refine gn_a (atype := .long) (ty := .long) (a0 := (4096, .inr (.inl (fun _ => 0)))) (N' := 4096) hx hb (hT _ ac_j) rfl hK 2 rfl (fun _ _ h1 h2 => ra_j h1 h2) hP hD hS hA (fun _ => rfl) (by decide) (by decide) (Nat.le_of_ble_eq_true rfl) (Nat.le_of_ble_eq_true rfl) (Nat.le_of_ble_eq_true rfl) dX0_init_17 (fun q2 H hP hD hS => ?_)
  refine W.widen (k := 2) (n := 4136) (Nat.le_of_ble_eq_true rfl) (Nat.le_of_ble_eq_true rfl) ?_
  refine va_putF (D := D) (v := .ref q2) (ty := .array .long) (C := RX0) (T := TX0) (N := 6) hx hb hT inlX0 tyX0 tyX0_ok nmX0 hown hK.1.1 hP hD hS 0 rfl rfl 1 (by decide) (hT _ fl_RX0_17) (fun _ h9 => h9) rfl hin rfl (by decide +kernel) rfl rfl (Nat.le_of_ble_eq_true rfl) dX0_init_19 (fun H locs hP hD hS => ?_)
  have hP : va_P D vwCl ([(a, .inr (0, [.ref q1, .ref q2, .null, .int 0, .long 0, .long 0])), (q1, .inl (cA 3, 40, .inr (.inr (.inr (.inr (fun _ => none)))))), (q2, .inl (cA 2, 4096, .inr (.inl (fun _ => 0))))]) H := hP
  have hD : va_D A ([(a, .inr (0, [.ref q1, .ref q2, .null, .int 0, .long 0, .long 0])), (q1, .inl (cA 3, 40, .inr (.inr (.inr (.inr (fun _ => none)))))), (q2, .inl (cA 2, 4096, .inr (.inl (fun _ => 0))))]) := hD
  refine lv_aload_n hx hb dX0_init_22 rfl (lv_at hl 0 rfl) ?_
  refine lv_sipush (v := (4096 : Int32)) hx hb dX0_init_23 (by decide) ?_
  refine gn_a (atype := .int) (ty := .int) (a0 := (4096, .inl (fun _ => 0))) (N' := 4096) hx hb (hT _ ac_i) rfl hK 0 rfl (fun _ _ h1 h2 => ra_i h1 h2) hP hD hS hA (fun _ => rfl) (by decide) (by decide) (Nat.le_of_ble_eq_true rfl) (Nat.le_of_ble_eq_true rfl) (Nat.le_of_ble_eq_true rfl) dX0_init_26 (fun q3 H hP hD hS => ?_)
  refine W.widen (k := 3) (n := 8232) (Nat.le_of_ble_eq_true rfl) (Nat.le_of_ble_eq_true rfl) ?_
  refine va_putF (D := D) (v := .ref q3) (ty := .array .int) (C := RX0) (T := TX0) (N := 6) hx hb hT inlX0 tyX0 tyX0_ok nmX0 hown hK.1.1 hP hD hS 0 rfl rfl 2 (by decide) (hT _ fl_RX0_21) (fun _ h9 => h9) rfl hin rfl (by decide +kernel) rfl rfl (Nat.le_of_ble_eq_true rfl) dX0_init_28 (fun H locs hP hD hS => ?_)
  have hP : va_P D vwCl ([(a, .inr (0, [.ref q1, .ref q2, .ref q3, .int 0, .long 0, .long 0])), (q1, .inl (cA 3, 40, .inr (.inr (.inr (.inr (fun _ => none)))))), (q2, .inl (cA 2, 4096, .inr (.inl (fun _ => 0)))), (q3, .inl (cA 0, 4096, .inl (fun _ => 0)))]) H := hP
  have hD : va_D A ([(a, .inr (0, [.ref q1, .ref q2, .ref q3, .int 0, .long 0, .long 0])), (q1, .inl (cA 3, 40, .inr (.inr (.inr (.inr (fun _ => none)))))), (q2, .inl (cA 2, 4096, .inr (.inl (fun _ => 0)))), (q3, .inl (cA 0, 4096, .inl (fun _ => 0)))]) := hD
  have loop : ∀ (nn i : Nat) (L : List Nat) (tP : Nat → Option Nat) (H : Heap) (locs : List Loc) (ls : Array Slot), i ≤ 40 → 40 < i + nn → L.length = i → (∀ j, j < i → tP j = L[j]?) → va_P D vwCl ([(a, .inr (0, [.ref q1, .ref q2, .ref q3, .int 0, .long 0, .long 0])), (q1, .inl (cA 3, 40, .inr (.inr (.inr (.inr tP))))), (q2, .inl (cA 2, 4096, .inr (.inl (fun _ => 0)))), (q3, .inl (cA 0, 4096, .inl (fun _ => 0)))] ++ gQ L (fun _ _ => 0) (fun _ _ => 0)) H → va_D A ([(a, .inr (0, [.ref q1, .ref q2, .ref q3, .int 0, .long 0, .long 0])), (q1, .inl (cA 3, 40, .inr (.inr (.inr (.inr tP))))), (q2, .inl (cA 2, 4096, .inr (.inl (fun _ => 0)))), (q3, .inl (cA 0, 4096, .inl (fun _ => 0)))] ++ gQ L (fun _ _ => 0) (fun _ _ => 0)) → va_S A s.heap H locs → lv_has ls 2 [(0, .ref a), (1, .int (nI i))] → W p l e (headSpec (wsU yX0_init cX0_init 2 none) ({ frames := 2, cells := 43, slots := 8512, locals := 32 })).room s m ([.ref a] : List Value).toArray below meth c H locs (3 + i) (8232 + 7 * i) (MQ below (QC D (fun u : (Nat → Nat) × List Nat × (Nat → Option Nat) => gT cA u.1 (fun _ => 0) (fun _ => 0) u.2.2 (fun _ => 0) (fun _ => 0) ++ gQ u.2.1 (fun _ _ => 0) (fun _ _ => 0)) (fun u : (Nat → Nat) × List Nat × (Nat → Option Nat) => u.1 0 = a ∧ ∃ ad, Lay u.2.1 ad u.2.2) A) ([.ref a] : List Value).toArray s 43 8512 A) (F0 m 33 ls []) := by
    intro nn
    induction nn with
    | zero => intro i L tP H locs ls h1 h2; omega
    | succ nn ih =>
      intro i L tP H locs ls h1 h2 hlen htP hP hD hS hl
      refine lv_iload_n hx hb dX0_init_33 rfl (lv_at hl 1 rfl) ?_
      refine lv_bipush (v := (40 : Int32)) hx hb dX0_init_34 (by decide) ?_
      refine lv_icmp_ge (tgt := 58) hx hb dX0_init_36 (by decide) (fun c1 => ?_) (fun c1 => ?_)
      · have e40 : i = 40 := Decidable.byContradiction fun q => (nI_ge (a := i) (b := 40) (by omega) (by decide)) c1
        subst e40
        exact W.vret hx hb hr (fun t ht hW => ⟨⟨(fun k => ([a, q1, q2, q3] : List Nat).getD k 0, L, tP), rfl, ⟨rfl, lay_of hD hlen htP⟩, (by rw [ht]; exact hP), hD⟩, hS.F ht⟩) hS.2.2 dX0_init_58
      · have hi : i < 40 := Decidable.byContradiction fun q => c1 (by
          have : i = 40 := by omega
          subst this; decide)
        refine lv_aload_n hx hb dX0_init_39 rfl (lv_at hl 0 rfl) ?_
        refine va_get (D := D) (C := RX0) (T := TX0) (N := 6) hx hb hT inlX0 hown hK.1.1 hP 0 rfl rfl 0 (by decide) (hT _ fl_RX0_11) (fun _ h9 => h9) rfl dX0_init_40 ?_
        refine lv_iload_n hx hb dX0_init_43 rfl (lv_at hl 1 rfl) ?_
        refine va_new (ci := 2) (fs := [.long 0, .long 0, .int 0, .int 0, .int 0, .int 0, .int 0]) (C := RX2) (T := TX2) (N := 7) hx hb hT inlX2 tyX2 tyX2_ok hown (hT _ cl_RX0_9) (hT _ is_RX2) (hT _ ini_RX2) hK.1.1 hP hD hS hA rfl (fun j hj => by rcases (show j = 0 ∨ j = 1 ∨ j = 2 ∨ j = 3 ∨ j = 4 ∨ j = 5 ∨ j = 6 by omega) with rfl | rfl | rfl | rfl | rfl | rfl | rfl <;> rfl) (by show 3 + i + 1 ≤ 43; omega) (by show 8232 + 7 * i + 7 ≤ 8512; omega) dX0_init_44 (fun q H hP hD hS => ?_)
        refine W.widen (k := 3 + (i + 1)) (n := 8232 + 7 * (i + 1)) (by omega) (by omega) ?_
        refine lv_dup hx hb dX0_init_47 rfl ?_
        refine gc_c (wc := [(q, .inr (2, [.long 0, .long 0, .int 0, .int 0, .int 0, .int 0, .int 0]))]) (wr := ([(a, .inr (0, [.ref q1, .ref q2, .ref q3, .int 0, .long 0, .long 0])), (q1, .inl (cA 3, 40, .inr (.inr (.inr (.inr tP))))), (q2, .inl (cA 2, 4096, .inr (.inl (fun _ => 0)))), (q3, .inl (cA 0, 4096, .inl (fun _ => 0)))] ++ gQ L (fun _ _ => 0) (fun _ _ => 0))) (ws' := fun _ : Unit => ([(a, .inr (0, [.ref q1, .ref q2, .ref q3, .int 0, .long 0, .long 0])), (q1, .inl (cA 3, 40, .inr (.inr (.inr (.inr tP))))), (q2, .inl (cA 2, 4096, .inr (.inl (fun _ => 0)))), (q3, .inl (cA 0, 4096, .inl (fun _ => 0)))] ++ gQ L (fun _ _ => 0) (fun _ _ => 0)) ++ [(q, .inr (2, [.long 0, .long 0, .int 0, .int 0, .int 0, .int 0, .int 0]))]) (va_runIN (host := RX4) (As := []) (rest := [.ref q, .int (nI i), .ref q1]) ⟨hx, hb, hml, hown, hT⟩ (k_X2_init l D cA q H.size) ⟨va_cnB 0 hT (gw cd_X2_init) rfl rfl rfl (hN _ ni_RX0_25) (hT _ ini_RX2) (by decide +kernel) ⟨Nat.le_of_ble_eq_true rfl, Nat.le_of_ble_eq_true rfl⟩, rfl, hT _ im_X2_init⟩ (pre_C (wr := ([(a, .inr (0, [.ref q1, .ref q2, .ref q3, .int 0, .long 0, .long 0])), (q1, .inl (cA 3, 40, .inr (.inr (.inr (.inr tP))))), (q2, .inl (cA 2, 4096, .inr (.inl (fun _ => 0)))), (q3, .inl (cA 0, 4096, .inl (fun _ => 0)))] ++ gQ L (fun _ _ => 0) (fun _ _ => 0))) List.perm_append_comm hK hP hD) rfl rfl hl.1 rfl (lv_room (Nat.le_of_ble_eq_true rfl)) dX0_init_48 ⟨by show 3 + (i + 1) + 0 ≤ 43; omega, by show 8232 + 7 * (i + 1) + 0 ≤ 8512; omega⟩) List.perm_append_comm hP hD hS hA (fun _ => List.perm_append_comm) (fun _ H locs _ hP hD hS => ?_)
        refine va_astq (r := (RX2, TX2, 7)) hx hb hK.1.1 hP hD hS 1 3 (([(a, .inr (0, [.ref q1, .ref q2, .ref q3, .int 0, .long 0, .long 0])), (q1, .inl (cA 3, 40, .inr (.inr (.inr (.inr tP))))), (q2, .inl (cA 2, 4096, .inr (.inl (fun _ => 0)))), (q3, .inl (cA 0, 4096, .inl (fun _ => 0)))] ++ gQ L (fun _ _ => 0) (fun _ _ => 0)) : va_W).length 2 rfl rfl (List.getElem?_concat_length) rfl (vp_in_nI hi (by decide)) dX0_init_51 (fun H locs hP hD hS => ?_)
        have hP : va_P D vwCl (([(a, .inr (0, [.ref q1, .ref q2, .ref q3, .int 0, .long 0, .long 0])), (q1, .inl (cA 3, 40, .inr (.inr (.inr (.inr (va_up tP (nI i).toNatClampNeg (some q))))))), (q2, .inl (cA 2, 4096, .inr (.inl (fun _ => 0)))), (q3, .inl (cA 0, 4096, .inl (fun _ => 0)))] ++ gQ L (fun _ _ => 0) (fun _ _ => 0)) ++ [(q, .inr (2, [.long 0, .long 0, .int 0, .int 0, .int 0, .int 0, .int 0]))]) H := hP
        have hD : va_D A (([(a, .inr (0, [.ref q1, .ref q2, .ref q3, .int 0, .long 0, .long 0])), (q1, .inl (cA 3, 40, .inr (.inr (.inr (.inr (va_up tP (nI i).toNatClampNeg (some q))))))), (q2, .inl (cA 2, 4096, .inr (.inl (fun _ => 0)))), (q3, .inl (cA 0, 4096, .inl (fun _ => 0)))] ++ gQ L (fun _ _ => 0) (fun _ _ => 0)) ++ [(q, .inr (2, [.long 0, .long 0, .int 0, .int 0, .int 0, .int 0, .int 0]))]) := hD
        have eg : gQ L (fun _ _ => 0) (fun _ _ => 0) ++ [(q, .inr (2, [.long 0, .long 0, .int 0, .int 0, .int 0, .int 0, .int 0]))] = gQ (L ++ [q]) (fun _ _ => 0) (fun _ _ => 0) := by
          unfold gQ va_pl
          rw [List.map_append]
          rfl
        rw [List.append_assoc, eg] at hP hD
        refine lv_iinc (v := (nI i + 1)) (lv' := [(1, .int (nI i + 1)), (0, .ref a)]) hx hb dX0_init_52 hl (k := 1) rfl rfl (by decide) rfl (fun ls hl => ?_)
        refine lv_goto (tgt := 33) hx hb dX0_init_55 (by decide) ?_
        have hl : lv_has ls 2 [(0, .ref a), (1, .int (nI (i + 1)))] := by
          rw [← nI_1]
          exact lv_sub hl [1, 0] rfl
        refine ih (i + 1) (L ++ [q]) (va_up tP (nI i).toNatClampNeg (some q)) H locs ls (by omega) (by omega) (by rw [List.length_append, hlen]; rfl) (fun j hj => ?_) hP hD hS hl
        have cn : (nI i).toNatClampNeg = i := nI_clamp (by omega)
        rw [cn]
        by_cases cj : j = i
        · subst cj
          rw [va_up_self, ← hlen, List.getElem?_concat_length]
        · rw [va_up_ne _ _ cj, List.getElem?_append_left (by omega)]
          exact htP j (by omega)
  refine lv_iconst (v := (0 : Int32)) hx hb dX0_init_31 (by decide) ?_
  refine lv_istore_n (lv' := [(1, .int (0 : Int32)), (0, .ref a)]) hx hb dX0_init_32 rfl hl (by decide) rfl (fun ls hl => ?_)
  exact loop 41 0 [] (fun _ => none) _ _ ls (by omega) (by omega) rfl (fun j hj => absurd hj (Nat.not_lt_zero j)) hP hD hS (lv_sub hl [1, 0] rfl)

theorem pfin (b p t q m n : va_W) : (wl [b, p, t, m, n] ++ q).Perm ((((b ++ p) ++ (t ++ q)) ++ m) ++ n) := by
  have e1 : wl [b, p, t, m, n] ++ q = b ++ (p ++ (t ++ (m ++ (n ++ q)))) := by simp [List.append_assoc]
  have e2 : (((b ++ p) ++ (t ++ q)) ++ m) ++ n = b ++ (p ++ (t ++ (q ++ (m ++ n)))) := by simp [List.append_assoc]
  rw [e1, e2]
  refine List.Perm.append_left b (List.Perm.append_left p (List.Perm.append_left t ?_))
  rw [← List.append_assoc]
  exact List.perm_append_comm

set_option maxRecDepth 100000 in
set_option maxHeartbeats 8000000 in
theorem k_X4_init (l : Launch) (D : va_G) (cA : Nat → ClassId) (a sz : Nat) : Met l yX4_init (wsU yX4_init cX4_init 1 none) ({ frames := 3, cells := 58, slots := 8854, locals := 53 }) (PcC D cA [(a, .inr (4, [.null, .null, .null, .null, .int 0, .int 0]))] sz [.ref a]) (QC D (fun u : (Nat → Nat) × (Nat → Nat) × (Nat → Nat) × (Nat → Nat) × List Nat × (Nat → Option Nat) => wl [gB (fun _ => a) u.1 u.2.1 u.2.2.1 u.2.2.2.1 (fun _ => 0), gP cA u.1 (fun _ => 0) (fun _ _ => 0), gT cA u.2.1 (fun _ => 0) (fun _ => 0) u.2.2.2.2.2 (fun _ => 0) (fun _ => 0), gM cA u.2.2.1 (fun _ => 0) (fun _ => 0) (fun _ _ => 0), gM cA u.2.2.2.1 (fun _ => 0) (fun _ => 0) (fun _ _ => 0)] ++ gQ u.2.2.2.2.1 (fun _ _ => 0) (fun _ _ => 0)) (fun u : (Nat → Nat) × (Nat → Nat) × (Nat → Nat) × (Nat → Nat) × List Nat × (Nat → Option Nat) => ∃ ad, Lay u.2.2.2.2.1 ad u.2.2.2.2.2) (va_A [(a, .inr (4, [.null, .null, .null, .null, .int 0, .int 0]))] sz)) 58 8854 (va_A [(a, .inr (4, [.null, .null, .null, .null, .int 0, .int 0]))] sz) := by
  refine Met.ofW (cc := cX4_init) (maxL := 1) (ret := none) (by decide) rfl ?_
  intro p e s m args below meth c s₁ B hml hv
  obtain ⟨rfl, hsz, hP, hK, hD0⟩ := hv
  have hx := B.exec
  have hb := B.bytes
  have hr := B.returns
  have hts := atoms_spec (ws := (wsU yX4_init cX4_init 1 none)) B.pre
  have hT : ∀ w ∈ wsL_law, w.before ([.ref a] : List Value).toArray s = true := fun w h => hts w (List.mem_cons_of_mem _ h)
  have hown : s.vm.findClass RX4 = some m.cls := findClass_of_methodNamed B.named
  have hlocks := B.notSynchronized
  have hin : meth.name = "<init>" := (name_of_methodNamed B.named B.method).1
  have hN := hK.1.2
  subst hsz
  have hD := hD0.self (sz := s.heap.size)
  generalize hAe : va_A [(a, .inr (4, [.null, .null, .null, .null, .int 0, .int 0]))] s.heap.size = A at hD ⊢
  have hA : ∀ q : Nat, s.heap.size ≤ q → A q := fun q h => by rw [← hAe]; exact Or.inr h
  have hS : va_S A s.heap s.heap [] := va_S.rf
  have hl := lv_entry ([.ref a]) (n := 1) (Nat.le_of_ble_eq_true rfl)
  rw [lg_entry_eq]
  generalize (lg_sl ([.ref a]) ++ List.replicate (1 - (lg_sl ([.ref a])).length) Slot.unset).toArray = ls at hl ⊢
  have hl : lv_has ls 1 [(0, .ref a)] := hl
  refine lv_aload_n hx hb dX4_init_0 rfl (lv_at hl 0 rfl) ?_
  refine W.objInit hx hb hown (hT _ oi_RX4) (hT _ oi_im) (hT _ oi_cd) rfl (by rw [hml]; exact hl.1) rfl dX4_init_1 (Nat.le_of_ble_eq_true rfl) (Nat.le_of_ble_eq_true rfl) ?_
  refine W.eq (g2 := F0 m 4 ls []) rfl ?_
  refine lv_aload_n hx hb dX4_init_4 rfl (lv_at hl 0 rfl) ?_
  refine va_new (ci := 3) (fs := [.null, .null, .null, .int 0, .int 0, .null, .null, .null, .null, .int 0, .int 0, .int 0]) (C := RX3) (T := TX3) (N := 12) hx hb hT inlX3 tyX3 tyX3_ok hown (hT _ cl_RX4_9) (hT _ is_RX3) (hT _ ini_RX3) hK.1.1 hP hD hS hA rfl (fun j hj => by rcases (show j = 0 ∨ j = 1 ∨ j = 2 ∨ j = 3 ∨ j = 4 ∨ j = 5 ∨ j = 6 ∨ j = 7 ∨ j = 8 ∨ j = 9 ∨ j = 10 ∨ j = 11 by omega) with rfl | rfl | rfl | rfl | rfl | rfl | rfl | rfl | rfl | rfl | rfl | rfl <;> rfl) (Nat.le_of_ble_eq_true rfl) (Nat.le_of_ble_eq_true rfl) dX4_init_5 (fun q H hP hD hS => ?_)
  refine W.widen (k := 1) (n := 12) (Nat.le_of_ble_eq_true rfl) (Nat.le_of_ble_eq_true rfl) ?_
  refine lv_dup hx hb dX4_init_8 rfl ?_
  refine gc_c (wc := [(q, .inr (3, [.null, .null, .null, .int 0, .int 0, .null, .null, .null, .null, .int 0, .int 0, .int 0]))]) (wr := [(a, .inr (4, [.null, .null, .null, .null, .int 0, .int 0]))]) (ws' := fun aP : Nat → Nat => [(a, .inr (4, [.null, .null, .null, .null, .int 0, .int 0]))] ++ (gP cA aP (fun _ => 0) (fun _ _ => 0))) (va_runIN (host := RX4) (As := []) (rest := [.ref q, .ref a]) ⟨hx, hb, hml, hown, hT⟩ (k_X3_init l D cA q H.size) ⟨va_cnB 0 hT (gw cd_X3_init) rfl rfl rfl (hN _ ni_RX4_11) (hT _ ini_RX3) (by decide +kernel) ⟨Nat.le_of_ble_eq_true rfl, Nat.le_of_ble_eq_true rfl⟩, rfl, hT _ im_X3_init⟩ (pre_C (wr := [(a, .inr (4, [.null, .null, .null, .null, .int 0, .int 0]))]) List.perm_append_comm hK hP hD) rfl rfl hl.1 rfl (lv_room (Nat.le_of_ble_eq_true rfl)) dX4_init_9 ⟨Nat.le_of_ble_eq_true rfl, Nat.le_of_ble_eq_true rfl⟩) List.perm_append_comm hP hD hS hA (fun _ => List.perm_append_comm) (fun aP H locs hq hP hD hS => ?_)
  refine W.widen (k := 8) (n := 264) (Nat.le_of_ble_eq_true rfl) (Nat.le_of_ble_eq_true rfl) ?_
  rw [← hq]
  refine va_putF (D := D) (v := .ref (aP 0)) (ty := .object "SymbolBench$Program") (C := RX4) (T := TX4) (N := 6) hx hb hT inlX4 tyX4 tyX4_ok nmX4 hown hK.1.1 hP hD hS 0 rfl rfl 0 (by decide) (hT _ fl_RX4_12) (fun _ h9 => h9) rfl hin rfl (by decide +kernel) rfl rfl (Nat.le_of_ble_eq_true rfl) dX4_init_12 (fun H locs hP hD hS => ?_)
  have hP : va_P D vwCl ([(a, .inr (4, [.ref (aP 0), .null, .null, .null, .int 0, .int 0]))] ++ (gP cA aP (fun _ => 0) (fun _ _ => 0))) H := hP
  have hD : va_D A ([(a, .inr (4, [.ref (aP 0), .null, .null, .null, .int 0, .int 0]))] ++ (gP cA aP (fun _ => 0) (fun _ _ => 0))) := hD
  refine lv_aload_n hx hb dX4_init_15 rfl (lv_at hl 0 rfl) ?_
  refine va_new (ci := 0) (fs := [.null, .null, .null, .int 0, .long 0, .long 0]) (C := RX0) (T := TX0) (N := 6) hx hb hT inlX0 tyX0 tyX0_ok hown (hT _ cl_RX4_16) (hT _ is_RX0) (hT _ ini_RX0) hK.1.1 hP hD hS hA rfl (fun j hj => by rcases (show j = 0 ∨ j = 1 ∨ j = 2 ∨ j = 3 ∨ j = 4 ∨ j = 5 by omega) with rfl | rfl | rfl | rfl | rfl | rfl <;> rfl) (Nat.le_of_ble_eq_true rfl) (Nat.le_of_ble_eq_true rfl) dX4_init_16 (fun q H hP hD hS => ?_)
  refine W.widen (k := 9) (n := 270) (Nat.le_of_ble_eq_true rfl) (Nat.le_of_ble_eq_true rfl) ?_
  refine lv_dup hx hb dX4_init_19 rfl ?_
  refine gc_c (wc := [(q, .inr (0, [.null, .null, .null, .int 0, .long 0, .long 0]))]) (wr := ([(a, .inr (4, [.ref (aP 0), .null, .null, .null, .int 0, .int 0]))] ++ (gP cA aP (fun _ => 0) (fun _ _ => 0)))) (ws' := fun v : (Nat → Nat) × List Nat × (Nat → Option Nat) => ([(a, .inr (4, [.ref (aP 0), .null, .null, .null, .int 0, .int 0]))] ++ (gP cA aP (fun _ => 0) (fun _ _ => 0))) ++ (gT cA v.1 (fun _ => 0) (fun _ => 0) v.2.2 (fun _ => 0) (fun _ => 0) ++ gQ v.2.1 (fun _ _ => 0) (fun _ _ => 0))) (va_runI (As := []) (rest := [.ref q, .ref a]) ⟨hx, hb, hml, hown, hT⟩ (k_X0_init l D cA q H.size) (cwI 0 hT (gw cd_X0_init) rfl rfl rfl (hT _ ini_RX0) (hT _ mk_RX4_18) (hT _ im_X0_init) rfl (by decide +kernel) ⟨Nat.le_of_ble_eq_true rfl, Nat.le_of_ble_eq_true rfl⟩) (pre_C (wr := ([(a, .inr (4, [.ref (aP 0), .null, .null, .null, .int 0, .int 0]))] ++ (gP cA aP (fun _ => 0) (fun _ _ => 0)))) List.perm_append_comm hK hP hD) rfl rfl hl.1 rfl (lv_room (Nat.le_of_ble_eq_true rfl)) dX4_init_20 ⟨Nat.le_of_ble_eq_true rfl, Nat.le_of_ble_eq_true rfl⟩) List.perm_append_comm hP hD hS hA (fun _ => List.perm_append_comm) (fun v H locs hq hP hD hS => ?_)
  refine W.widen (k := 52) (n := 8782) (Nat.le_of_ble_eq_true rfl) (Nat.le_of_ble_eq_true rfl) ?_
  obtain ⟨hq, hlay⟩ := hq
  rw [← hq]
  refine va_putF (D := D) (v := .ref (v.1 0)) (ty := .object "SymbolBench$Atlas") (C := RX4) (T := TX4) (N := 6) hx hb hT inlX4 tyX4 tyX4_ok nmX4 hown hK.1.1 hP hD hS 0 rfl rfl 1 (by decide) (hT _ fl_RX4_19) (fun _ h9 => h9) rfl hin rfl (by decide +kernel) rfl rfl (Nat.le_of_ble_eq_true rfl) dX4_init_23 (fun H locs hP hD hS => ?_)
  have hP : va_P D vwCl (([(a, .inr (4, [.ref (aP 0), .ref (v.1 0), .null, .null, .int 0, .int 0]))] ++ (gP cA aP (fun _ => 0) (fun _ _ => 0))) ++ (gT cA v.1 (fun _ => 0) (fun _ => 0) v.2.2 (fun _ => 0) (fun _ => 0) ++ gQ v.2.1 (fun _ _ => 0) (fun _ _ => 0))) H := hP
  have hD : va_D A (([(a, .inr (4, [.ref (aP 0), .ref (v.1 0), .null, .null, .int 0, .int 0]))] ++ (gP cA aP (fun _ => 0) (fun _ _ => 0))) ++ (gT cA v.1 (fun _ => 0) (fun _ => 0) v.2.2 (fun _ => 0) (fun _ => 0) ++ gQ v.2.1 (fun _ _ => 0) (fun _ _ => 0))) := hD
  refine lv_aload_n hx hb dX4_init_26 rfl (lv_at hl 0 rfl) ?_
  refine va_new (ci := 1) (fs := [.null, .null, .int 0, .long 0, .int 0, .long 0, .long 0, .long 0, .long 0, .int 0, .int 0, .int 0]) (C := RX1) (T := TX1) (N := 12) hx hb hT inlX1 tyX1 tyX1_ok hown (hT _ cl_RX4_23) (hT _ is_RX1) (hT _ ini_RX1) hK.1.1 hP hD hS hA rfl (fun j hj => by rcases (show j = 0 ∨ j = 1 ∨ j = 2 ∨ j = 3 ∨ j = 4 ∨ j = 5 ∨ j = 6 ∨ j = 7 ∨ j = 8 ∨ j = 9 ∨ j = 10 ∨ j = 11 by omega) with rfl | rfl | rfl | rfl | rfl | rfl | rfl | rfl | rfl | rfl | rfl | rfl <;> rfl) (Nat.le_of_ble_eq_true rfl) (Nat.le_of_ble_eq_true rfl) dX4_init_27 (fun q H hP hD hS => ?_)
  refine W.widen (k := 53) (n := 8794) (Nat.le_of_ble_eq_true rfl) (Nat.le_of_ble_eq_true rfl) ?_
  refine lv_dup hx hb dX4_init_30 rfl ?_
  refine gc_c (wc := [(q, .inr (1, [.null, .null, .int 0, .long 0, .int 0, .long 0, .long 0, .long 0, .long 0, .int 0, .int 0, .int 0]))]) (wr := (([(a, .inr (4, [.ref (aP 0), .ref (v.1 0), .null, .null, .int 0, .int 0]))] ++ (gP cA aP (fun _ => 0) (fun _ _ => 0))) ++ (gT cA v.1 (fun _ => 0) (fun _ => 0) v.2.2 (fun _ => 0) (fun _ => 0) ++ gQ v.2.1 (fun _ _ => 0) (fun _ _ => 0)))) (ws' := fun aM : Nat → Nat => (([(a, .inr (4, [.ref (aP 0), .ref (v.1 0), .null, .null, .int 0, .int 0]))] ++ (gP cA aP (fun _ => 0) (fun _ _ => 0))) ++ (gT cA v.1 (fun _ => 0) (fun _ => 0) v.2.2 (fun _ => 0) (fun _ => 0) ++ gQ v.2.1 (fun _ _ => 0) (fun _ _ => 0))) ++ (gM cA aM (fun _ => 0) (fun _ => 0) (fun _ _ => 0))) (va_runIN (host := RX4) (As := []) (rest := [.ref q, .ref a]) ⟨hx, hb, hml, hown, hT⟩ (k_X1_init l D cA q H.size) ⟨va_cnB 0 hT (gw cd_X1_init) rfl rfl rfl (hN _ ni_RX4_25) (hT _ ini_RX1) (by decide +kernel) ⟨Nat.le_of_ble_eq_true rfl, Nat.le_of_ble_eq_true rfl⟩, rfl, hT _ im_X1_init⟩ (pre_C (wr := (([(a, .inr (4, [.ref (aP 0), .ref (v.1 0), .null, .null, .int 0, .int 0]))] ++ (gP cA aP (fun _ => 0) (fun _ _ => 0))) ++ (gT cA v.1 (fun _ => 0) (fun _ => 0) v.2.2 (fun _ => 0) (fun _ => 0) ++ gQ v.2.1 (fun _ _ => 0) (fun _ _ => 0)))) List.perm_append_comm hK hP hD) rfl rfl hl.1 rfl (lv_room (Nat.le_of_ble_eq_true rfl)) dX4_init_31 ⟨Nat.le_of_ble_eq_true rfl, Nat.le_of_ble_eq_true rfl⟩) List.perm_append_comm hP hD hS hA (fun _ => List.perm_append_comm) (fun aM H locs hq hP hD hS => ?_)
  refine W.widen (k := 55) (n := 8818) (Nat.le_of_ble_eq_true rfl) (Nat.le_of_ble_eq_true rfl) ?_
  rw [← hq]
  refine va_putF (D := D) (v := .ref (aM 0)) (ty := .object "SymbolBench$Machine") (C := RX4) (T := TX4) (N := 6) hx hb hT inlX4 tyX4 tyX4_ok nmX4 hown hK.1.1 hP hD hS 0 rfl rfl 2 (by decide) (hT _ fl_RX4_26) (fun _ h9 => h9) rfl hin rfl (by decide +kernel) rfl rfl (Nat.le_of_ble_eq_true rfl) dX4_init_34 (fun H locs hP hD hS => ?_)
  have hP : va_P D vwCl ((([(a, .inr (4, [.ref (aP 0), .ref (v.1 0), .ref (aM 0), .null, .int 0, .int 0]))] ++ (gP cA aP (fun _ => 0) (fun _ _ => 0))) ++ (gT cA v.1 (fun _ => 0) (fun _ => 0) v.2.2 (fun _ => 0) (fun _ => 0) ++ gQ v.2.1 (fun _ _ => 0) (fun _ _ => 0))) ++ (gM cA aM (fun _ => 0) (fun _ => 0) (fun _ _ => 0))) H := hP
  have hD : va_D A ((([(a, .inr (4, [.ref (aP 0), .ref (v.1 0), .ref (aM 0), .null, .int 0, .int 0]))] ++ (gP cA aP (fun _ => 0) (fun _ _ => 0))) ++ (gT cA v.1 (fun _ => 0) (fun _ => 0) v.2.2 (fun _ => 0) (fun _ => 0) ++ gQ v.2.1 (fun _ _ => 0) (fun _ _ => 0))) ++ (gM cA aM (fun _ => 0) (fun _ => 0) (fun _ _ => 0))) := hD
  refine lv_aload_n hx hb dX4_init_37 rfl (lv_at hl 0 rfl) ?_
  refine va_new (ci := 1) (fs := [.null, .null, .int 0, .long 0, .int 0, .long 0, .long 0, .long 0, .long 0, .int 0, .int 0, .int 0]) (C := RX1) (T := TX1) (N := 12) hx hb hT inlX1 tyX1 tyX1_ok hown (hT _ cl_RX4_23) (hT _ is_RX1) (hT _ ini_RX1) hK.1.1 hP hD hS hA rfl (fun j hj => by rcases (show j = 0 ∨ j = 1 ∨ j = 2 ∨ j = 3 ∨ j = 4 ∨ j = 5 ∨ j = 6 ∨ j = 7 ∨ j = 8 ∨ j = 9 ∨ j = 10 ∨ j = 11 by omega) with rfl | rfl | rfl | rfl | rfl | rfl | rfl | rfl | rfl | rfl | rfl | rfl <;> rfl) (Nat.le_of_ble_eq_true rfl) (Nat.le_of_ble_eq_true rfl) dX4_init_38 (fun q H hP hD hS => ?_)
  refine W.widen (k := 56) (n := 8830) (Nat.le_of_ble_eq_true rfl) (Nat.le_of_ble_eq_true rfl) ?_
  refine lv_dup hx hb dX4_init_41 rfl ?_
  refine gc_c (wc := [(q, .inr (1, [.null, .null, .int 0, .long 0, .int 0, .long 0, .long 0, .long 0, .long 0, .int 0, .int 0, .int 0]))]) (wr := ((([(a, .inr (4, [.ref (aP 0), .ref (v.1 0), .ref (aM 0), .null, .int 0, .int 0]))] ++ (gP cA aP (fun _ => 0) (fun _ _ => 0))) ++ (gT cA v.1 (fun _ => 0) (fun _ => 0) v.2.2 (fun _ => 0) (fun _ => 0) ++ gQ v.2.1 (fun _ _ => 0) (fun _ _ => 0))) ++ (gM cA aM (fun _ => 0) (fun _ => 0) (fun _ _ => 0)))) (ws' := fun aN : Nat → Nat => ((([(a, .inr (4, [.ref (aP 0), .ref (v.1 0), .ref (aM 0), .null, .int 0, .int 0]))] ++ (gP cA aP (fun _ => 0) (fun _ _ => 0))) ++ (gT cA v.1 (fun _ => 0) (fun _ => 0) v.2.2 (fun _ => 0) (fun _ => 0) ++ gQ v.2.1 (fun _ _ => 0) (fun _ _ => 0))) ++ (gM cA aM (fun _ => 0) (fun _ => 0) (fun _ _ => 0))) ++ (gM cA aN (fun _ => 0) (fun _ => 0) (fun _ _ => 0))) (va_runIN (host := RX4) (As := []) (rest := [.ref q, .ref a]) ⟨hx, hb, hml, hown, hT⟩ (k_X1_init l D cA q H.size) ⟨va_cnB 0 hT (gw cd_X1_init) rfl rfl rfl (hN _ ni_RX4_25) (hT _ ini_RX1) (by decide +kernel) ⟨Nat.le_of_ble_eq_true rfl, Nat.le_of_ble_eq_true rfl⟩, rfl, hT _ im_X1_init⟩ (pre_C (wr := ((([(a, .inr (4, [.ref (aP 0), .ref (v.1 0), .ref (aM 0), .null, .int 0, .int 0]))] ++ (gP cA aP (fun _ => 0) (fun _ _ => 0))) ++ (gT cA v.1 (fun _ => 0) (fun _ => 0) v.2.2 (fun _ => 0) (fun _ => 0) ++ gQ v.2.1 (fun _ _ => 0) (fun _ _ => 0))) ++ (gM cA aM (fun _ => 0) (fun _ => 0) (fun _ _ => 0)))) List.perm_append_comm hK hP hD) rfl rfl hl.1 rfl (lv_room (Nat.le_of_ble_eq_true rfl)) dX4_init_42 ⟨Nat.le_of_ble_eq_true rfl, Nat.le_of_ble_eq_true rfl⟩) List.perm_append_comm hP hD hS hA (fun _ => List.perm_append_comm) (fun aN H locs hq hP hD hS => ?_)
  refine W.widen (k := 58) (n := 8854) (Nat.le_of_ble_eq_true rfl) (Nat.le_of_ble_eq_true rfl) ?_
  rw [← hq]
  refine va_putF (D := D) (v := .ref (aN 0)) (ty := .object "SymbolBench$Machine") (C := RX4) (T := TX4) (N := 6) hx hb hT inlX4 tyX4 tyX4_ok nmX4 hown hK.1.1 hP hD hS 0 rfl rfl 3 (by decide) (hT _ fl_RX4_30) (fun _ h9 => h9) rfl hin rfl (by decide +kernel) rfl rfl (Nat.le_of_ble_eq_true rfl) dX4_init_45 (fun H locs hP hD hS => ?_)
  have hP : va_P D vwCl (((([(a, .inr (4, [.ref (aP 0), .ref (v.1 0), .ref (aM 0), .ref (aN 0), .int 0, .int 0]))] ++ (gP cA aP (fun _ => 0) (fun _ _ => 0))) ++ (gT cA v.1 (fun _ => 0) (fun _ => 0) v.2.2 (fun _ => 0) (fun _ => 0) ++ gQ v.2.1 (fun _ _ => 0) (fun _ _ => 0))) ++ (gM cA aM (fun _ => 0) (fun _ => 0) (fun _ _ => 0))) ++ (gM cA aN (fun _ => 0) (fun _ => 0) (fun _ _ => 0))) H := hP
  have hD : va_D A (((([(a, .inr (4, [.ref (aP 0), .ref (v.1 0), .ref (aM 0), .ref (aN 0), .int 0, .int 0]))] ++ (gP cA aP (fun _ => 0) (fun _ _ => 0))) ++ (gT cA v.1 (fun _ => 0) (fun _ => 0) v.2.2 (fun _ => 0) (fun _ => 0) ++ gQ v.2.1 (fun _ _ => 0) (fun _ _ => 0))) ++ (gM cA aM (fun _ => 0) (fun _ => 0) (fun _ _ => 0))) ++ (gM cA aN (fun _ => 0) (fun _ => 0) (fun _ _ => 0))) := hD
  replace hP := vP_perm (pfin (gB (fun _ => a) aP v.1 aM aN (fun _ => 0)) (gP cA aP (fun _ => 0) (fun _ _ => 0)) (gT cA v.1 (fun _ => 0) (fun _ => 0) v.2.2 (fun _ => 0) (fun _ => 0)) (gQ v.2.1 (fun _ _ => 0) (fun _ _ => 0)) (gM cA aM (fun _ => 0) (fun _ => 0) (fun _ _ => 0)) (gM cA aN (fun _ => 0) (fun _ => 0) (fun _ _ => 0))).symm hP
  replace hD := vD_perm (pfin (gB (fun _ => a) aP v.1 aM aN (fun _ => 0)) (gP cA aP (fun _ => 0) (fun _ _ => 0)) (gT cA v.1 (fun _ => 0) (fun _ => 0) v.2.2 (fun _ => 0) (fun _ => 0)) (gQ v.2.1 (fun _ _ => 0) (fun _ _ => 0)) (gM cA aM (fun _ => 0) (fun _ => 0) (fun _ _ => 0)) (gM cA aN (fun _ => 0) (fun _ => 0) (fun _ _ => 0))).symm hD
  exact W.vret hx hb hr (fun t ht hW => ⟨⟨(aP, v.1, aM, aN, v.2.1, v.2.2), rfl, hlay, (by rw [ht]; exact hP), hD⟩, hS.F ht⟩) hS.2.2 dX4_init_48
