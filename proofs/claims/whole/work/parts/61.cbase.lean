set_option maxRecDepth 20000 in
theorem oi_im : Cond.instanceMethod objectInit ∈ wsL_law := ml 45 (by decide +kernel) (by decide +kernel)
set_option maxRecDepth 20000 in
theorem oi_cd : Cond.code objectInit ⟨#[0xb1]⟩ 1 none ∈ wsL_law := ml 46 rfl (by decide +kernel)
set_option maxRecDepth 20000 in
theorem oi_RX0 : Cond.methodLink RX0 3 objectInit ∈ wsL_law := ml 105 (by decide +kernel) (by decide +kernel)
set_option maxRecDepth 20000 in
theorem oi_RX1 : Cond.methodLink RX1 3 objectInit ∈ wsL_law := ml 177 (by decide +kernel) (by decide +kernel)
set_option maxRecDepth 20000 in
theorem oi_RX2 : Cond.methodLink RX2 1 objectInit ∈ wsL_law := ml 112 (by decide +kernel) (by decide +kernel)
set_option maxRecDepth 20000 in
theorem oi_RX3 : Cond.methodLink RX3 3 objectInit ∈ wsL_law := ml 52 (by decide +kernel) (by decide +kernel)
set_option maxRecDepth 20000 in
theorem oi_RX4 : Cond.methodLink RX4 3 objectInit ∈ wsL_law := ml 44 (by decide +kernel) (by decide +kernel)
set_option maxRecDepth 20000 in
theorem oi_RX5 : Cond.methodLink RX5 1 objectInit ∈ wsL_law := ml 505 (by decide +kernel) (by decide +kernel)
set_option maxRecDepth 20000 in
theorem cl_RX4_9 : Cond.classLink RX4 9 RX3 ∈ wsL_law := ml 47 (by decide +kernel) (by decide +kernel)
set_option maxRecDepth 20000 in
theorem cl_RX4_16 : Cond.classLink RX4 16 RX0 ∈ wsL_law := ml 100 (by decide +kernel) (by decide +kernel)
set_option maxRecDepth 20000 in
theorem cl_RX0_9 : Cond.classLink RX0 9 RX2 ∈ wsL_law := ml 106 (by decide +kernel) (by decide +kernel)
set_option maxRecDepth 20000 in
theorem cl_RX4_23 : Cond.classLink RX4 23 RX1 ∈ wsL_law := ml 172 (by decide +kernel) (by decide +kernel)
set_option maxRecDepth 20000 in
theorem cl_RX5_48 : Cond.classLink RX5 48 "[[I" ∈ wsL_law := ml 506 (by decide +kernel) (by decide +kernel)
set_option maxRecDepth 20000 in
theorem is_RX0 : Cond.instantiable RX0 6 ∈ wsL_law := ml 101 (by decide +kernel) (by decide +kernel)
set_option maxRecDepth 20000 in
theorem cd_X0_init : Cond.code yX0_init cX0_init 2 none ∈ wsL_law := ml 104 rfl (by decide +kernel)
set_option maxRecDepth 20000 in
theorem im_X0_init : Cond.instanceMethod yX0_init ∈ wsL_law := ml 103 (by decide +kernel) (by decide +kernel)
set_option maxRecDepth 20000 in
theorem is_RX1 : Cond.instantiable RX1 12 ∈ wsL_law := ml 173 (by decide +kernel) (by decide +kernel)
set_option maxRecDepth 20000 in
theorem cd_X1_init : Cond.code yX1_init cX1_init 1 none ∈ wsL_law := ml 176 rfl (by decide +kernel)
set_option maxRecDepth 20000 in
theorem im_X1_init : Cond.instanceMethod yX1_init ∈ wsL_law := ml 175 (by decide +kernel) (by decide +kernel)
set_option maxRecDepth 20000 in
theorem is_RX2 : Cond.instantiable RX2 7 ∈ wsL_law := ml 108 (by decide +kernel) (by decide +kernel)
set_option maxRecDepth 20000 in
theorem cd_X2_init : Cond.code yX2_init cX2_init 1 none ∈ wsL_law := ml 111 rfl (by decide +kernel)
set_option maxRecDepth 20000 in
theorem im_X2_init : Cond.instanceMethod yX2_init ∈ wsL_law := ml 110 (by decide +kernel) (by decide +kernel)
set_option maxRecDepth 20000 in
theorem is_RX3 : Cond.instantiable RX3 12 ∈ wsL_law := ml 48 (by decide +kernel) (by decide +kernel)
set_option maxRecDepth 20000 in
theorem cd_X3_init : Cond.code yX3_init cX3_init 1 none ∈ wsL_law := ml 51 rfl (by decide +kernel)
set_option maxRecDepth 20000 in
theorem im_X3_init : Cond.instanceMethod yX3_init ∈ wsL_law := ml 50 (by decide +kernel) (by decide +kernel)
set_option maxRecDepth 20000 in
theorem is_RX4 : Cond.instantiable RX4 6 ∈ wsL_law := ml 40 (by decide +kernel) (by decide +kernel)
set_option maxRecDepth 20000 in
theorem cd_X4_init : Cond.code yX4_init cX4_init 1 none ∈ wsL_law := ml 43 rfl (by decide +kernel)
set_option maxRecDepth 20000 in
theorem im_X4_init : Cond.instanceMethod yX4_init ∈ wsL_law := ml 42 (by decide +kernel) (by decide +kernel)
set_option maxRecDepth 20000 in
theorem is_RX5 : Cond.instantiable RX5 40 ∈ wsL_law := ml 501 (by decide +kernel) (by decide +kernel)
set_option maxRecDepth 20000 in
theorem cd_X5_init : Cond.code yX5_init cX5_init 1 none ∈ wsL_law := ml 504 rfl (by decide +kernel)
set_option maxRecDepth 20000 in
theorem im_X5_init : Cond.instanceMethod yX5_init ∈ wsL_law := ml 503 (by decide +kernel) (by decide +kernel)
set_option maxRecDepth 20000 in
theorem mk_RX4_18 : Cond.methodLink RX4 18 yX0_init ∈ wsL_law := ml 102 (by decide +kernel) (by decide +kernel)
set_option maxRecDepth 20000 in
theorem ac_i : Cond.arrayClass .int ∈ wsL_law := ml 98 (by decide +kernel) (by decide +kernel)
set_option maxRecDepth 20000 in
theorem ac_b : Cond.arrayClass .boolean ∈ wsL_law := ml 99 (by decide +kernel) (by decide +kernel)
set_option maxRecDepth 20000 in
theorem ac_j : Cond.arrayClass .long ∈ wsL_law := ml 149 (by decide +kernel) (by decide +kernel)
set_option maxRecDepth 20000 in
theorem ni_RX4_11 : Cond.methodLinkNest RX4 11 yX3_init RX4 ∈ nwL := List.mem_of_getElem? (i := 43) (by decide +kernel)
set_option maxRecDepth 20000 in
theorem ni_RX0_25 : Cond.methodLinkNest RX0 25 yX2_init RX4 ∈ nwL := List.mem_of_getElem? (i := 44) (by decide +kernel)
set_option maxRecDepth 20000 in
theorem ni_RX4_25 : Cond.methodLinkNest RX4 25 yX1_init RX4 ∈ nwL := List.mem_of_getElem? (i := 45) (by decide +kernel)
-- what a constructor's start knows beside the rest: the classes of arrays over references
theorem AOA_moved {t : FieldType} {u U : State} (hvm : u.vm.Alike U.vm) (h : va_AOA t u) : va_AOA t U := by
  obtain ⟨comp, c, k, h1, h2, h3, h4, h5⟩ := arrayOverA_spec h
  obtain ⟨k', hk', he⟩ := hvm.2.2 _ _ h3
  have hi : (U.vm.classes.findIdx? fun (x : Class) => match x.kind with | .array component _ => component == comp | _ => false) = some c := by
    rw [hvm.findIdx?_eq _ (fun _ => rfl)]
    exact h2
  have hkind : k'.kind = .array comp (.array t) := by rw [he]; exact h4
  have f1 : U.vm.findClass (FieldType.array t).toString = some comp := by rw [hvm.findClass]; exact h1
  have f2 : U.vm.findClass ("[" ++ (FieldType.array t).toString) = some c := by rw [hvm.findClass]; exact h5
  unfold va_AOA Cond.before Cond.holds
  simp only [Cond.value]
  rw [f1, Option.bind_some]
  refine (congrArg (fun o : Option Nat => (o.bind (fun c => (U.vm.classes[c]?).map fun (k : Class) => match k.kind with | .array _ ty => decide (ty = FieldType.array t) && decide (U.vm.findClass ("[" ++ (FieldType.array t).toString) = some c) | _ => false) == some true)) hi).trans ?_
  simp [hk', hkind, f2]
theorem out_eta (c : ClassId) (N h0 : Nat) : ∀ i, Multi.outerC c N h0 i = { cls := c, slots := (Multi.outerC c N h0 i).slots, vm := .none }
  | 0 => rfl
  | i + 1 => by
    show (Multi.outerC c N h0 i).setSlot i (.ref (h0 + 1 + i)) = { cls := c, slots := ((Multi.outerC c N h0 i).setSlot i (.ref (h0 + 1 + i))).slots, vm := .none }
    rw [out_eta c N h0 i]
    rfl
def CO (D : va_G) (cA : Nat → ClassId) (U : State) : Prop := CK D cA U ∧ va_AO "SymbolBench$Path" U ∧ va_AOA .int U
theorem CO.warm {D : va_G} {cA : Nat → ClassId} {s U : State} (hW : s.WarmedH U.vm) (h : CO D cA s) : CO D cA U := ⟨CK.warm hW h.1, va_AO.moved hW.alike h.2.1, AOA_moved hW.alike h.2.2⟩
theorem CO.vm {D : va_G} {cA : Nat → ClassId} {u U : State} (e : u.vm = U.vm) (h : CO D cA u) : CO D cA U := ⟨CK.vm e h.1, va_AO.moved (by rw [e]; exact Vm.Alike.refl U.vm) h.2.1, AOA_moved (by rw [e]; exact Vm.Alike.refl U.vm) h.2.2⟩
def PcC (D : va_G) (cA : Nat → ClassId) (ws : va_W) (sz : Nat) (av : List Value) : Array Value → State → Prop := va_Pc av (fun U => U.heap.size = sz ∧ va_P D vwCl ws U.heap ∧ CO D cA U ∧ va_D (fun _ => True) ws)
theorem PcC.blind {D : va_G} {cA : Nat → ClassId} {ws : va_W} {sz : Nat} {av : List Value} : FrameBlind (PcC D cA ws sz av) := fun a U g mk q => by
  obtain ⟨q0, q1, qP, qK, qD⟩ := q
  exact ⟨q0, q1, qP, CO.vm (u := U) (U := U.calling g mk a) rfl qK, qD⟩
theorem PcC.on {D : va_G} {cA : Nat → ClassId} {ws wc wr : va_W} {A : Nat → Prop} {s : State} {H : Heap} {av : List Value} (sp : ws.Perm (wc ++ wr)) (hK : CO D cA s) (hP : va_P D vwCl ws H) (hD : va_D A ws) : ∀ U : State, U.heap = H → s.WarmedH U.vm → PcC D cA wc H.size av av.toArray U := fun U hU hW => by
  have hP' := vP_iff.mp (vP_perm sp hP)
  have hD' := vD_iff.mp (vD_perm sp hD)
  rw [List.map_append, List.nodup_append] at hD'
  exact ⟨rfl, by rw [hU], by rw [hU]; exact vP_iff.mpr fun q hq => hP' q (List.mem_append_left _ hq), CO.warm hW hK, vD_iff.mpr ⟨hD'.1.1, fun _ _ => trivial⟩⟩
theorem pre_C {D : va_G} {cA : Nat → ClassId} {ws wc wr : va_W} {A : Nat → Prop} {s : State} {H : Heap} {As : List Value} (sp : ws.Perm (wc ++ wr)) (hK : CO D cA s) (hP : va_P D vwCl ws H) (hD : va_D A ws) : PreS s H (PcC D cA wc H.size As) As := ⟨PcC.blind, PcC.on sp hK hP hD⟩
def QC {S : Type} (D : va_G) (wf : S → va_W) (post : S → Prop) (A : Nat → Prop) := va_Qv post (wQ D wf A) A
theorem ra_i {s : State} {c1 c2 : ClassId} (h1 : va_RA s c1 .int) (h2 : va_RA s c2 .int) : c1 = c2 := Option.some.inj (Eq.trans (Eq.symm h1) h2)
theorem ra_b {s : State} {c1 c2 : ClassId} (h1 : va_RA s c1 .boolean) (h2 : va_RA s c2 .boolean) : c1 = c2 := Option.some.inj (Eq.trans (Eq.symm h1) h2)
theorem ra_j {s : State} {c1 c2 : ClassId} (h1 : va_RA s c1 .long) (h2 : va_RA s c2 .long) : c1 = c2 := Option.some.inj (Eq.trans (Eq.symm h1) h2)
theorem ra_o {s : State} {C : String} {c1 c2 : ClassId} (h1 : va_RA s c1 (.object C)) (h2 : va_RA s c2 (.object C)) : c1 = c2 := by
  obtain ⟨_, _, _, _, _, e1⟩ := h1
  obtain ⟨_, _, _, _, _, e2⟩ := h2
  exact Option.some.inj (Eq.trans (Eq.symm e1) e2)
section GN
variable {p : Program} {l : Launch} {e : Env} {R : Room} {s : State} {m : MethodId} {args : Array Value} {below : List Frame} {meth : Method} {c : Code} {H : Heap} {locs : List Loc} {cells slots : Nat} {Q : State → Prop}
variable {cc : ByteArray} {pc : Nat} {ls : Array Slot} {rest : List Value} {D : va_G} {cA : Nat → ClassId} {A : Nat → Prop} {ws wc wr : va_W} {st0 : List Value}
/-- a new array of numbers -/
theorem gn_a (hexec : p.tables.exec = Jvm.exec) (hb : c.code = cc) {atype : ArrayType} (harr : (Cond.arrayClass (newarray.typeOf atype)).before args s = true) {ty : FieldType} (hty : newarray.typeOf atype = ty) (hK : CO D cA s) (t0 : Nat) {cX : ClassId} (ht : (tyL cA)[t0]? = some (cX, ty)) (hra : ∀ c1 c2, va_RA s c1 ty → va_RA s c2 ty → c1 = c2) (hP : va_P D vwCl ws H) (hD : va_D A ws) (hS : va_S A s.heap H locs) (hA : ∀ q, s.heap.size ≤ q → A q)
    {n : Int32} {N' : Nat} {a0 : vp_A} (ha : ∀ cA : ClassId, vp_cell cA a0 = arrV cA N' (fun _ => defaultValue ty)) (hn : ¬ n < 0) (hN : n.toNatClampNeg = N') (hbytes : N' * componentBytes ty ≤ 536870912) (hcells : cells + 1 ≤ R.cells) (hslots : slots + N' ≤ R.slots) (hdg : decode cc pc = .ok (.newarray atype, 2))
    (kk : ∀ (q : Nat) (H1 : Heap), va_P D vwCl (ws ++ [(q, .inl (cX, a0))]) H1 → va_D A (ws ++ [(q, .inl (cX, a0))]) → va_S A s.heap H1 locs → W p l e R s m args below meth c H1 locs (cells + 1) (slots + N') Q (F0 m (pc + 2) ls (.ref q :: rest))) : W p l e R s m args below meth c H locs cells slots Q (F0 m pc ls (.int n :: rest)) := by
  refine va_newa hexec hb harr hty hK.1.1 hP hD hS hA ha hn hN hbytes hcells hslots hdg (fun q c1 H1 hK1 hP1 hD1 hS1 => ?_)
  have e1 : c1 = cX := hra _ _ (hK1.2 5 (c1, ty) rfl).2 (hK.1.1.2 t0 _ ht).2
  subst e1
  exact kk q H1 hP1 hD1 hS1
/-- a constructor's call -/
theorem gc_c {S : Type} {wf : S → va_W} {post : S → Prop} {mc ms : Nat} {a : Array Value} (hr : va_Run p l e R s m args below meth c H locs cells slots mc ms (F0 m pc ls st0) rest (QC D wf post (va_A wc H.size) a) (va_A wc H.size)) (sp : ws.Perm (wc ++ wr)) (hP : va_P D vwCl ws H) (hD : va_D A ws) (hS : va_S A s.heap H locs) (hA : ∀ q, s.heap.size ≤ q → A q) {ws' : S → va_W} (sp' : ∀ u, (ws' u).Perm (wf u ++ wr))
    (kk : ∀ (u : S) (H1 : Heap) (locs1 : List Loc), post u → va_P D vwCl (ws' u) H1 → va_D A (ws' u) → va_S A s.heap H1 locs1 → W p l e R s m args below meth c H1 locs1 (cells + mc) (slots + ms) Q (F0 m (pc + 3) ls rest)) : W p l e R s m args below meth c H locs cells slots Q (F0 m pc ls st0) := by
  have hF := fF sp hD hS hA
  refine va_callv hr hS (fun q _ h => hF q h) hF (fun u t H1 locs1 ht hvm hw hB hz1 hk1 hS1 => ?_)
  obtain ⟨hP1, hD1⟩ := hB
  rw [ht] at hP1
  obtain ⟨hP2, hD2⟩ := fj sp hP hD hk1 hF hP1 hD1
  exact kk u H1 locs1 hw (vP_perm (sp' u).symm hP2) (vD_perm (sp' u).symm hD2) hS1
/-- a new array of arrays of ints -/
theorem gn_m (hexec : p.tables.exec = Jvm.exec) (hb : c.code = cc) {own : String} {index : Nat} (hown : s.vm.findClass own = some m.cls) (hclink : (Cond.classLink own index "[[I").before args s = true) (harr : (Cond.arrayClass .int).before args s = true) (hK : CO D cA s) (hP : va_P D vwCl ws H) (hD : va_D A ws) (hS : va_S A s.heap H locs) (hA : ∀ q, s.heap.size ≤ q → A q)
    {n k : Int32} {N M : Nat} (hn : ¬ n < 0) (hk : ¬ k < 0) (hN : n.toNatClampNeg = N) (hM : k.toNatClampNeg = M) (hb1 : N ≤ 100000) (hb2 : M ≤ 100000) (hcells : cells + (1 + N) ≤ R.cells) (hslots : slots + (N + N * M) ≤ R.slots) (hdg : decode cc pc = .ok (.multianewarray index 2, 4))
    (kk : ∀ (q : Nat) (H1 : Heap), va_P D vwCl (ws ++ ([(q, .inl (cA 4, N, .inr (.inr (.inr (.inr (fun j => if j < N then some (q + 1 + j) else none))))))] ++ va_pl ((List.range N).map (fun j => q + 1 + j)) (fun _ => .inl (cA 0, M, .inl (fun _ => 0))))) H1 → va_D A (ws ++ ([(q, .inl (cA 4, N, .inr (.inr (.inr (.inr (fun j => if j < N then some (q + 1 + j) else none))))))] ++ va_pl ((List.range N).map (fun j => q + 1 + j)) (fun _ => .inl (cA 0, M, .inl (fun _ => 0))))) → va_S A s.heap H1 locs →
      W p l e R s m args below meth c H1 locs (cells + 1 + N) (slots + N + N * M) Q (F0 m (pc + 4) ls (.ref q :: rest))) : W p l e R s m args below meth c H locs cells slots Q (F0 m pc ls (.int k :: .int n :: rest)) := by
  intro T hT X
  subst hN
  subst hM
  have hsz : T.heap.size = H.size := by rw [hT]
  obtain ⟨vm₁, c4, c0, hW, hfA, hfC, hO, hI, X1, step⟩ := X.multianewarray2F (ty := .int) hexec hown hclink (va_AOA.use hK.2.2) harr (g := F0 m pc ls (.int k :: .int n :: rest)) rfl (by rw [hb]; exact hdg) rfl hn hk (by omega) (by show k.toNatClampNeg * 4 ≤ _; omega) (by omega) rfl rfl hcells hslots
  have e4 : c4 = cA 4 := Option.some.inj (Eq.trans (Eq.symm hfA) (hK.1.1.2 4 _ rfl).2)
  have e0 : c0 = cA 0 := Option.some.inj (Eq.trans (Eq.symm hfC) (hK.1.1.2 0 _ rfl).2)
  subst e4
  subst e0
  obtain ⟨f1, f2, f3, f4⟩ := Multi.fill_facts (T.setVm vm₁) (cA 4) (cA 0) n.toNatClampNeg k.toNatClampNeg (defaultValue .int) n.toNatClampNeg
  have f5 := @Multi.fill_old (T.setVm vm₁) (cA 4) (cA 0) n.toNatClampNeg k.toNatClampNeg (defaultValue .int)
  have f6 := Multi.fill_inner (T.setVm vm₁) (cA 4) (cA 0) n.toNatClampNeg k.toNatClampNeg (defaultValue .int) n.toNatClampNeg
  generalize hF : Multi.fill (T.setVm vm₁) (cA 4) (cA 0) n.toNatClampNeg k.toNatClampNeg (defaultValue .int) n.toNatClampNeg = TF at f1 f2 f6 X1 step
  have hs1 : (T.setVm vm₁).heap = H := hT
  rw [hs1] at f1 f2 f6
  have f5' : ∀ a, a < H.size → TF.heap[a]? = H[a]? := fun a ha => by
    rw [← hF, f5 (by rw [hs1]; exact ha) n.toNatClampNeg, hs1]
  have hout : Multi.outerC (cA 4) n.toNatClampNeg H.size n.toNatClampNeg = vp_cell (cA 4) (n.toNatClampNeg, .inr (.inr (.inr (.inr (fun j => if j < n.toNatClampNeg then some (H.size + 1 + j) else none))))) := by
    have o3 := (Multi.outerC_facts (cA 4) n.toNatClampNeg H.size n.toNatClampNeg).2.2
    have o4 := Multi.outerC_slot (cA 4) n.toNatClampNeg H.size n.toNatClampNeg
    rw [out_eta, vp_cell_q]
    unfold arrV
    congr 1
    apply Array.ext_getElem?
    intro j
    by_cases hj : j < n.toNatClampNeg
    · rw [o4 j hj, if_pos hj, Array.getElem?_ofFn]
      simp [hj, va_rf]
    · rw [Array.getElem?_eq_none (by omega), Array.getElem?_eq_none (by simp; omega)]
  have hinn : Multi.innerC (cA 0) k.toNatClampNeg (defaultValue .int) = vp_cell (cA 0) (k.toNatClampNeg, .inl (fun _ => 0)) := by
    unfold Multi.innerC
    rw [arrV_new]
    rfl
  rw [hout] at f2
  rw [hinn] at f6
  have hPn : va_P D vwCl (ws ++ ([(H.size, .inl (cA 4, n.toNatClampNeg, .inr (.inr (.inr (.inr (fun j => if j < n.toNatClampNeg then some (H.size + 1 + j) else none))))))] ++ va_pl ((List.range n.toNatClampNeg).map (fun j => H.size + 1 + j)) (fun _ => .inl (cA 0, k.toNatClampNeg, .inl (fun _ => 0))))) TF.heap := by
    refine vP_iff.mpr fun x hx => ?_
    rcases List.mem_append.mp hx with h | h
    · exact (vP_iff.mp hP x h).kept (f5' x.1 (vP_iff.mp hP x h).lt)
    · rcases List.mem_append.mp h with h | h
      · rw [List.mem_singleton] at h
        subst h
        exact f2
      · unfold va_pl at h
        obtain ⟨a, ha, rfl⟩ := List.mem_map.mp h
        obtain ⟨j, hj, rfl⟩ := List.mem_map.mp ha
        exact f6 j (List.mem_range.mp hj)
  have hAs := hS.1
  have hDn : va_D A (ws ++ ([(H.size, .inl (cA 4, n.toNatClampNeg, .inr (.inr (.inr (.inr (fun j => if j < n.toNatClampNeg then some (H.size + 1 + j) else none))))))] ++ va_pl ((List.range n.toNatClampNeg).map (fun j => H.size + 1 + j)) (fun _ => .inl (cA 0, k.toNatClampNeg, .inl (fun _ => 0))))) := by
    have hD' := vD_iff.mp hD
    have elem : ∀ x ∈ va_pl ((List.range n.toNatClampNeg).map (fun j => H.size + 1 + j)) (fun _ => (.inl (cA 0, k.toNatClampNeg, .inl (fun _ => 0)) : va_E)), H.size + 1 ≤ x.1 := fun x hx => by
      unfold va_pl at hx
      obtain ⟨a, ha, rfl⟩ := List.mem_map.mp hx
      obtain ⟨j, hj, rfl⟩ := List.mem_map.mp ha
      show H.size + 1 ≤ H.size + 1 + j
      omega
    have nd : (va_pl ((List.range n.toNatClampNeg).map (fun j => H.size + 1 + j)) (fun _ => (.inl (cA 0, k.toNatClampNeg, .inl (fun _ => 0)) : va_E))).map Prod.fst = (List.range n.toNatClampNeg).map (fun j => H.size + 1 + j) := by
      unfold va_pl
      rw [List.map_map]
      exact List.map_id' _
    refine vD_iff.mpr ⟨?_, fun x hx => ?_⟩
    · rw [List.map_append, List.map_append, List.nodup_append, List.nodup_append, nd]
      refine ⟨hD'.1, ⟨List.nodup_cons.mpr ⟨List.not_mem_nil, List.nodup_nil⟩, ?_, fun a ha b hb e => ?_⟩, fun a ha b hb e => ?_⟩
      · exact List.pairwise_map.mpr (List.nodup_range.imp (fun h e => h (by omega)))
      · rw [List.map_cons, List.map_nil, List.mem_singleton] at ha
        obtain ⟨j, hj, rfl⟩ := List.mem_map.mp hb
        dsimp only at ha
        omega
      · obtain ⟨x, hx, rfl⟩ := List.mem_map.mp ha
        have hlt := (vP_iff.mp hP x hx).lt
        rcases List.mem_append.mp hb with h | h
        · rw [List.map_cons, List.map_nil, List.mem_singleton] at h
          dsimp only at h
          omega
        · obtain ⟨j, hj, rfl⟩ := List.mem_map.mp h
          omega
    · rcases List.mem_append.mp hx with h | h
      · exact hD'.2 x h
      · rcases List.mem_append.mp h with h | h
        · rw [List.mem_singleton] at h
          subst h
          exact hA _ hAs
        · exact hA _ (by have := elem x h; omega)
  have hSn : va_S A s.heap TF.heap locs := ⟨by omega, fun q h1 h2 => (f5' q (by omega)).trans (hS.2.1 q h1 h2), hS.2.2⟩
  obtain ⟨t, a1, b1⟩ := kk H.size TF.heap hPn hDn hSn TF rfl X1
  refine ⟨t, step t ?_, b1⟩
  rw [hsz]
  exact a1
end GN
