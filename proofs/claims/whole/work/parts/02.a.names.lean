/-! ===== BEGIN words of one list among another's, by their places ===== -/
theorem goodIn_r {big : List Cond} (ws : List Cond) (ps : List Nat) (hp : ws = ps.filterMap (fun i => big[i]?)) (h : ws.all goodWord = true) : GoodIn big ws := by
  intro w hw
  have h1 := List.all_eq_true.mp h w hw
  rw [hp] at hw
  obtain ⟨i, -, hi⟩ := List.mem_filterMap.mp hw
  have hm : w ∈ big := by first | exact List.mem_of_getElem? hi | exact List.getElem?_mem hi
  exact ⟨hm, good_of_word h1⟩
theorem goodIn_app {big a b : List Cond} (ha : GoodIn big a) (hb : GoodIn big b) : GoodIn big (a ++ b) := fun w h => (List.mem_append.mp h).elim (ha w) (hb w)
theorem goodIn_ca {big a b : List Cond} {c : Cond} (ha : GoodIn big (c :: a)) (hb : GoodIn big b) : GoodIn big (c :: (a ++ b)) := fun w h => (List.mem_cons.mp h).elim (fun e => ha w (List.mem_cons.mpr (Or.inl e))) (fun h => (List.mem_append.mp h).elim (fun h => ha w (List.mem_cons.mpr (Or.inr h))) (hb w))
theorem goodIn_sub {big ws : List Cond} (hm : ∀ w ∈ ws, w ∈ big) (h : ws.all goodWord = true) : GoodIn big ws := fun w hw => ⟨hm w hw, good_of_word (List.all_eq_true.mp h w hw)⟩
/-! ===== END ===== -/

/-! ===== BEGIN new T[n][m]: the outer array a place, the inner ones among the pooled ===== -/
/-- f, but v at every address of l -/
def vr_up {α : Type} (f : Nat → α) (l : List Nat) (v : α) : Nat → α := fun a => if a ∈ l then v else f a
theorem vr_up_in {α : Type} {f : Nat → α} {l : List Nat} {v : α} {a : Nat} (h : a ∈ l) : vr_up f l v a = v := if_pos h
theorem vr_up_ne {α : Type} {f : Nat → α} {l : List Nat} {v : α} {a : Nat} (h : a ∉ l) : vr_up f l v a = f a := if_neg h
theorem vr_rows {L l : List Nat} {f : Nat → va_E} {e : va_E} (h : ∀ a, a ∈ l → a ∉ L) : va_pl L f ++ l.map (fun a => (a, e)) = va_pl (L ++ l) (vr_up f l e) := by
  unfold va_pl
  rw [List.map_append]
  congr 1
  · apply List.map_congr_left
    intro a ha
    rw [vr_up_ne (fun q => h a q ha)]
  · apply List.map_congr_left
    intro a ha
    rw [vr_up_in ha]
theorem vr_lay {X rows : va_W} {x : Nat × va_E} {pl : va_W} {D : va_G} {cl : List vw_C} {H : Heap} (hP : va_P D cl (((X ++ pl) ++ [x]) ++ rows) H) : va_P D cl ((X ++ [x]) ++ (pl ++ rows)) H := by
  rw [List.append_assoc (X ++ pl)] at hP
  have h := va_P.swap hP
  rw [← List.append_assoc X] at h
  have h2 := va_P.swap h
  rw [List.append_assoc (X ++ [x])] at h2
  exact h2
theorem vr_layD {X rows : va_W} {x : Nat × va_E} {pl : va_W} {A : Nat → Prop} (hD : va_D A (((X ++ pl) ++ [x]) ++ rows)) : va_D A ((X ++ [x]) ++ (pl ++ rows)) := by
  rw [List.append_assoc (X ++ pl)] at hD
  have h := va_D.swap hD
  rw [← List.append_assoc X] at h
  have h2 := va_D.swap h
  rw [List.append_assoc (X ++ [x])] at h2
  exact h2
theorem vr_outer (c : ClassId) (N h0 : Nat) : ∀ i : Nat, Jvm.Free.Multi.outerC c N h0 i = arrV c N (fun j => va_rf (if j < i then some (h0 + 1 + j) else none))
  | 0 => by
    show ({ cls := c, slots := Array.replicate N .null, vm := .none } : Cell) = _
    rw [arrV_new]
    refine congrArg (arrV c N) (funext fun j => ?_)
    simp [va_rf]
  | i + 1 => by
    show (Jvm.Free.Multi.outerC c N h0 i).setSlot i (.ref (h0 + 1 + i)) = _
    rw [vr_outer c N h0 i, arrV_store]
    refine congrArg (arrV c N) (funext fun j => ?_)
    by_cases e : j = i
    · subst e
      simp [updV, va_rf]
    · by_cases h : j < i
      · simp [updV, e, h, Nat.lt_succ_of_lt h]
      · simp [updV, e, h, show ¬ j < i + 1 by omega]
section VGM
variable {p : Program} {l : Launch} {e : Env} {R : Room} {s : State} {m : MethodId} {args : Array Value} {below : List Frame} {meth : Method} {c : Code} {H : Heap} {locs : List Loc} {cells slots : Nat} {Q : State → Prop}
variable {cc : ByteArray} {pc : Nat} {ls : Array Slot} {rest : List Value} {D : va_G} {cl : List vw_C} {A : Nat → Prop} {a : Nat} {tys : List (ClassId × FieldType)} {ws : va_W} {H0 : Heap}
theorem va_mna {X : va_W} {L : List Nat} {f : Nat → va_E} {cc : ByteArray} (hexec : p.tables.exec = Jvm.exec) (hb : c.code = cc) {own : String} {index : Nat} {ty : FieldType} {cy : ClassId} (hown : s.vm.findClass own = some m.cls) (hclink : (Cond.classLink own index ("[" ++ (FieldType.array ty).toString)).before args s = true) (hover : va_AOA ty s) (harr : (Cond.arrayClass ty).before args s = true) (hcy : s.vm.findClass (FieldType.array ty).toString = some cy)
    (hK : va_K D cl tys s) (hP : va_P D cl (X ++ va_pl L f) H) (hD : va_D A (X ++ va_pl L f)) (hS : va_S A H0 H locs) (hA : ∀ q, H0.size ≤ q → A q) {n k : Int32} {N' K' : Nat} {z : vp_A} (hn : ¬ n < 0) (hk : ¬ k < 0) (hN : n.toNatClampNeg = N') (hM : k.toNatClampNeg = K')
    (hb1 : N' * 4 ≤ 536870912) (hb2 : K' * componentBytes ty ≤ 536870912) (hb3 : K' ≤ 536870912) (hdf : fits ty (defaultValue ty) = true) (hdd : (defaultValue ty).isDefault = true) (hcells : cells + (1 + N') ≤ R.cells) (hslots : slots + (N' + N' * K') ≤ R.slots) (hz : ∀ c : ClassId, Jvm.Free.Multi.innerC c K' (defaultValue ty) = vp_cell c z) (hdg : decode cc pc = .ok (.multianewarray index 2, 4))
    (kk : ∀ (q : Nat) (r : Nat → Nat) (cA : ClassId) (H1 : Heap), (∀ i j : Nat, i < N' → j < N' → r i = r j → i = j) → (∀ i : Nat, i < N' → r i ∉ L) → va_K D cl (tys ++ [(cA, .array ty)]) s →
      va_P D cl ((X ++ [(q, .inl (cA, N', .inr (.inr (.inr (.inr (fun i => if i < N' then some (r i) else none))))))]) ++ va_pl (L ++ (List.range N').map r) (vr_up f ((List.range N').map r) (.inl (cy, z)))) H1 → va_D A ((X ++ [(q, .inl (cA, N', .inr (.inr (.inr (.inr (fun i => if i < N' then some (r i) else none))))))]) ++ va_pl (L ++ (List.range N').map r) (vr_up f ((List.range N').map r) (.inl (cy, z)))) → va_S A H0 H1 locs →
      W p l e R s m args below meth c H1 locs (cells + 1 + N') (slots + N' + N' * K') Q (F0 m (pc + 4) ls (.ref q :: rest))) : W p l e R s m args below meth c H locs cells slots Q (F0 m pc ls (.int k :: .int n :: rest)) := by
  subst hN
  subst hM
  intro T hT Xs
  obtain ⟨vm₁, cA, comp, -, fA, fC, hO, -, X', step⟩ := Xs.multianewarray2F hexec hown hclink (va_AOA.use hover) harr (g := F0 m pc ls (.int k :: .int n :: rest)) rfl (by rw [hb]; exact hdg) rfl hn hk hb1 hb2 hb3 hdf hdd hcells hslots
  have ec : some cy = some comp := hcy.symm.trans fC
  cases ec
  generalize hF : Jvm.Free.Multi.fill (T.setVm vm₁) cA cy n.toNatClampNeg k.toNatClampNeg (defaultValue ty) n.toNatClampNeg = F at X' step
  have hTh : (T.setVm vm₁).heap = H := hT
  obtain ⟨f1, f2, -, -⟩ := Jvm.Free.Multi.fill_facts (T.setVm vm₁) cA cy n.toNatClampNeg k.toNatClampNeg (defaultValue ty) n.toNatClampNeg
  rw [hF, hTh] at f1 f2
  have hold : ∀ x : Nat, x < H.size → F.heap[x]? = H[x]? := fun x hx => by
    have := Jvm.Free.Multi.fill_old (T.setVm vm₁) cA cy n.toNatClampNeg k.toNatClampNeg (defaultValue ty) (a := x) (by rw [hTh]; exact hx) n.toNatClampNeg
    rw [hF, hTh] at this
    exact this
  have hrow : ∀ j : Nat, j < n.toNatClampNeg → F.heap[H.size + 1 + j]? = some (vp_cell cy z) := fun j hj => by
    have := Jvm.Free.Multi.fill_inner (T.setVm vm₁) cA cy n.toNatClampNeg k.toNatClampNeg (defaultValue ty) n.toNatClampNeg j hj
    rw [hF, hTh, hz] at this
    exact this
  have hout : Jvm.Free.Multi.outerC cA n.toNatClampNeg H.size n.toNatClampNeg = vp_cell cA (n.toNatClampNeg, .inr (.inr (.inr (.inr (fun i => if i < n.toNatClampNeg then some (H.size + 1 + i) else none))))) := by
    rw [vp_cell_q]
    exact vr_outer cA n.toNatClampNeg H.size n.toNatClampNeg
  rw [hout] at f2
  have hlt : ∀ a, a ∈ L → a < H.size := fun a ha => by
    obtain ⟨k9, hk9⟩ := va_pl_get (X := X) (f := f) ha
    exact (hP k9 _ hk9).lt
  have hnl : ∀ i : Nat, i < n.toNatClampNeg → H.size + 1 + i ∉ L := fun i _ h => by
    have := hlt _ h
    omega
  have hnm : ∀ a, a ∈ (List.range n.toNatClampNeg).map (fun i => H.size + 1 + i) → a ∉ L := fun a ha h => by
    obtain ⟨i, -, rfl⟩ := List.mem_map.mp ha
    have := hlt _ h
    omega
  have hP0 : va_P D cl (X ++ va_pl L f) F.heap := hP.kept (fun k9 x hx => hold x.1 ((hP k9 x hx).lt))
  have hP1 : va_P D cl ((X ++ va_pl L f) ++ [(H.size, .inl (cA, n.toNatClampNeg, .inr (.inr (.inr (.inr (fun i => if i < n.toNatClampNeg then some (H.size + 1 + i) else none))))))]) F.heap := hP0.app (fun k9 x hx => by
    have h0 : k9 < 1 := (List.getElem?_eq_some_iff.mp hx).1
    rw [show k9 = 0 by omega] at hx
    cases hx
    exact f2)
  have hP2 : va_P D cl (((X ++ va_pl L f) ++ [(H.size, .inl (cA, n.toNatClampNeg, .inr (.inr (.inr (.inr (fun i => if i < n.toNatClampNeg then some (H.size + 1 + i) else none))))))]) ++ ((List.range n.toNatClampNeg).map (fun i => H.size + 1 + i)).map (fun a => (a, .inl (cy, z)))) F.heap := hP1.app (fun k9 x hx => by
    obtain ⟨a, ha, rfl⟩ := List.mem_map.mp (List.mem_of_getElem? hx)
    obtain ⟨i, hi, rfl⟩ := List.mem_map.mp ha
    exact hrow i (List.mem_range.mp hi))
  have hD2 : va_D A (((X ++ va_pl L f) ++ [(H.size, .inl (cA, n.toNatClampNeg, .inr (.inr (.inr (.inr (fun i => if i < n.toNatClampNeg then some (H.size + 1 + i) else none))))))]) ++ ((List.range n.toNatClampNeg).map (fun i => H.size + 1 + i)).map (fun a => (a, .inl (cy, z)))) := by
    have hD1 := hD.push (e := .inl (cA, n.toNatClampNeg, .inr (.inr (.inr (.inr (fun i => if i < n.toNatClampNeg then some (H.size + 1 + i) else none)))))) hP rfl (hA _ hS.1)
    generalize hW1 : (X ++ va_pl L f) ++ [(H.size, .inl (cA, n.toNatClampNeg, .inr (.inr (.inr (.inr (fun i => if i < n.toNatClampNeg then some (H.size + 1 + i) else none))))))] = W1 at hD1 hP1 ⊢
    have hle : ∀ (k9 : Nat) (x : Nat × va_E), W1[k9]? = some x → x.1 ≤ H.size := fun k9 x hx => by
      rw [← hW1] at hx
      by_cases hl : k9 < (X ++ va_pl L f).length
      · rw [List.getElem?_append_left hl] at hx
        exact Nat.le_of_lt ((hP k9 x hx).lt)
      · rw [List.getElem?_append_right (by omega)] at hx
        have h0 : k9 - (X ++ va_pl L f).length < 1 := (List.getElem?_eq_some_iff.mp hx).1
        rw [show k9 - (X ++ va_pl L f).length = 0 by omega] at hx
        cases hx
        exact Nat.le_refl _
    have hr : ∀ (k9 : Nat) (x : Nat × va_E), (((List.range n.toNatClampNeg).map (fun i => H.size + 1 + i)).map (fun a => ((a, .inl (cy, z)) : Nat × va_E)))[k9]? = some x → x.1 = H.size + 1 + k9 := fun k9 x hx => by
      rw [List.getElem?_map, List.getElem?_map] at hx
      by_cases h9 : k9 < n.toNatClampNeg
      · rw [List.getElem?_range h9] at hx
        cases hx
        rfl
      · have hn0 : (List.range n.toNatClampNeg)[k9]? = none := List.getElem?_eq_none (by rw [List.length_range]; omega)
        rw [hn0] at hx
        cases hx
    refine ⟨fun i j x y hi hj hxy => ?_, fun k9 x hx => ?_⟩
    · by_cases h1 : i < W1.length <;> by_cases h2 : j < W1.length
      · rw [List.getElem?_append_left h1] at hi
        rw [List.getElem?_append_left h2] at hj
        exact hD1.1 i j x y hi hj hxy
      · rw [List.getElem?_append_left h1] at hi
        rw [List.getElem?_append_right (by omega)] at hj
        have := hle _ _ hi
        have := hr _ _ hj
        omega
      · rw [List.getElem?_append_right (by omega)] at hi
        rw [List.getElem?_append_left h2] at hj
        have := hle _ _ hj
        have := hr _ _ hi
        omega
      · rw [List.getElem?_append_right (by omega)] at hi hj
        have := hr _ _ hi
        have := hr _ _ hj
        omega
    · by_cases h1 : k9 < W1.length
      · rw [List.getElem?_append_left h1] at hx
        exact hD1.2 k9 x hx
      · rw [List.getElem?_append_right (by omega)] at hx
        have := hr _ _ hx
        exact hA _ (by have := hS.1; omega)
  have hAr : ArrOfT s cA (.array ty) := fun N9 z9 => by
    obtain ⟨-, k9, hk9, cm9, hkk9⟩ := (hO 0 0 0).1
    exact ⟨(fun q hq => by cases hq), k9, hk9, cm9, hkk9⟩
  have hK2 : va_K D cl (tys ++ [(cA, .array ty)]) s := ⟨hK.1, fun k9 x hx => by
    by_cases hl : k9 < tys.length
    · rw [List.getElem?_append_left hl] at hx
      exact hK.2 k9 x hx
    · rw [List.getElem?_append_right (by omega)] at hx
      have h0 : k9 - tys.length < 1 := (List.getElem?_eq_some_iff.mp hx).1
      rw [show k9 - tys.length = 0 by omega] at hx
      cases hx
      exact ⟨hAr, fA⟩⟩
  obtain ⟨t, a1, b1⟩ := kk H.size (fun i => H.size + 1 + i) cA F.heap (fun i j _ _ h => by have h9 : H.size + 1 + i = H.size + 1 + j := h; omega) hnl hK2 (by rw [← vr_rows hnm]; exact vr_lay hP2) (by rw [← vr_rows hnm]; exact vr_layD hD2) ⟨by rw [f1]; have := hS.1; omega, fun x h1 h2 => (hold x (Nat.lt_of_lt_of_le h1 hS.1)).trans (hS.2.1 x h1 h2), hS.2.2⟩ F rfl X'
  refine ⟨t, step t ?_, b1⟩
  have e : T.heap.size = H.size := by rw [hT]
  rw [e]
  exact a1
end VGM
/-! ===== END ===== -/

/-! ===== BEGIN printed: names, fields, word lists, decode rows ===== -/
def RX0 : String := "SymbolBench$Atlas"
def TX0 : u_T := fun k => match k with
  | 0 => ("SymbolBench$Atlas", "paths", "[LSymbolBench$Path;", true)
  | 1 => ("SymbolBench$Atlas", "onesOfWord", "[J", true)
  | 2 => ("SymbolBench$Atlas", "resultOfWord", "[I", true)
  | 3 => ("SymbolBench$Atlas", "size", "I", false)
  | 4 => ("SymbolBench$Atlas", "visited", "J", false)
  | _ => ("SymbolBench$Atlas", "failed", "J", false)
def tyX0 : Nat → FieldType := fun k => match k with
  | 0 => .array (.object "SymbolBench$Path")
  | 1 => .array .long
  | 2 => .array .int
  | 3 => .int
  | 4 => .long
  | _ => .long
abbrev wsX00 : List Cond := u_ws RX0 TX0 6
theorem nmX0 : ∀ a, a < 6 → ∀ b, b < 6 → a ≠ b → (TX0 a).2.1 ≠ (TX0 b).2.1 := by decide +kernel
theorem tyX0_ok : ∀ k, k < 6 → parseFieldDescriptor (TX0 k).2.2.1 = some (tyX0 k) := by decide +kernel
abbrev cX0_init : ByteArray := prog_2_method_1_code
def yX0_init : MethodName := ⟨RX0, "<init>", "()V"⟩
abbrev cX0_forget : ByteArray := prog_2_method_2_code
def yX0_forget : MethodName := ⟨RX0, "forget", "()V"⟩
abbrev cX0_isKnown : ByteArray := prog_2_method_3_code
def yX0_isKnown : MethodName := ⟨RX0, "isKnown", "()Z"⟩
abbrev cX0_knownOrNone : ByteArray := prog_2_method_4_code
def yX0_knownOrNone : MethodName := ⟨RX0, "knownOrNone", "(I)I"⟩
abbrev cX0_pathAt : ByteArray := prog_2_method_5_code
def yX0_pathAt : MethodName := ⟨RX0, "pathAt", "(I)LSymbolBench$Path;"⟩
abbrev cX0_survey : ByteArray := prog_2_method_6_code
def yX0_survey : MethodName := ⟨RX0, "survey", "(LSymbolBench$Program;LSymbolBench$Machine;)V"⟩
abbrev cX0_enter : ByteArray := prog_2_method_7_code
def yX0_enter : MethodName := ⟨RX0, "enter", "(LSymbolBench$Machine;I)Z"⟩
abbrev cX0_firstNotAheadOf : ByteArray := prog_2_method_8_code
def yX0_firstNotAheadOf : MethodName := ⟨RX0, "firstNotAheadOf", "(J)I"⟩
abbrev cX0_insertAt : ByteArray := prog_2_method_9_code
def yX0_insertAt : MethodName := ⟨RX0, "insertAt", "(I)LSymbolBench$Path;"⟩
abbrev cX0_numberOf : ByteArray := prog_2_method_10_code
def yX0_numberOf : MethodName := ⟨RX0, "numberOf", "(J)I"⟩
abbrev cX0_goes : ByteArray := prog_2_method_11_code
def yX0_goes : MethodName := ⟨RX0, "goes", "(LSymbolBench$Path;I)Z"⟩
abbrev cX0_leastWordWith : ByteArray := prog_2_method_12_code
def yX0_leastWordWith : MethodName := ⟨RX0, "leastWordWith", "(LSymbolBench$Path;III)I"⟩
abbrev cX0_isWanted : ByteArray := prog_2_method_13_code
def yX0_isWanted : MethodName := ⟨RX0, "isWanted", "(III)Z"⟩
abbrev cX0_firstFailing : ByteArray := prog_2_method_14_code
def yX0_firstFailing : MethodName := ⟨RX0, "firstFailing", "(I)LSymbolBench$Path;"⟩
def RX1 : String := "SymbolBench$Machine"
def TX1 : u_T := fun k => match k with
  | 0 => ("SymbolBench$Machine", "registers", "[I", true)
  | 1 => ("SymbolBench$Machine", "cells", "[I", true)
  | 2 => ("SymbolBench$Machine", "isGuided", "Z", false)
  | 3 => ("SymbolBench$Machine", "guidingOnes", "J", false)
  | 4 => ("SymbolBench$Machine", "place", "I", false)
  | 5 => ("SymbolBench$Machine", "placeMark", "J", false)
  | 6 => ("SymbolBench$Machine", "visited", "J", false)
  | 7 => ("SymbolBench$Machine", "decided", "J", false)
  | 8 => ("SymbolBench$Machine", "ones", "J", false)
  | 9 => ("SymbolBench$Machine", "hasEnded", "Z", false)
  | 10 => ("SymbolBench$Machine", "end", "I", false)
  | _ => ("SymbolBench$Machine", "result", "I", false)
def tyX1 : Nat → FieldType := fun k => match k with
  | 0 => .array .int
  | 1 => .array .int
  | 2 => .boolean
  | 3 => .long
  | 4 => .int
  | 5 => .long
  | 6 => .long
  | 7 => .long
  | 8 => .long
  | 9 => .boolean
  | 10 => .int
  | _ => .int
abbrev wsX10 : List Cond := u_ws RX1 TX1 12
theorem nmX1 : ∀ a, a < 12 → ∀ b, b < 12 → a ≠ b → (TX1 a).2.1 ≠ (TX1 b).2.1 := by decide +kernel
theorem tyX1_ok : ∀ k, k < 12 → parseFieldDescriptor (TX1 k).2.2.1 = some (tyX1 k) := by decide +kernel
abbrev cX1_init : ByteArray := prog_3_method_1_code
def yX1_init : MethodName := ⟨RX1, "<init>", "()V"⟩
abbrev cX1_execute : ByteArray := prog_3_method_2_code
def yX1_execute : MethodName := ⟨RX1, "execute", "(LSymbolBench$Program;ILSymbolBench$Path;)V"⟩
abbrev cX1_begin : ByteArray := prog_3_method_3_code
def yX1_begin : MethodName := ⟨RX1, "begin", "(LSymbolBench$Path;)V"⟩
abbrev cX1_stop : ByteArray := prog_3_method_4_code
def yX1_stop : MethodName := ⟨RX1, "stop", "(II)V"⟩
abbrev cX1_decide : ByteArray := prog_3_method_5_code
def yX1_decide : MethodName := ⟨RX1, "decide", "(Z)Z"⟩
abbrev cX1_step : ByteArray := prog_3_method_6_code
def yX1_step : MethodName := ⟨RX1, "step", "(LSymbolBench$Program;I)I"⟩
abbrev cX1_calculate : ByteArray := prog_3_method_7_code
def yX1_calculate : MethodName := ⟨RX1, "calculate", "(IIII)V"⟩
abbrev cX1_load : ByteArray := prog_3_method_8_code
def yX1_load : MethodName := ⟨RX1, "load", "(II)V"⟩
abbrev cX1_store : ByteArray := prog_3_method_9_code
def yX1_store : MethodName := ⟨RX1, "store", "(II)V"⟩
abbrev cX1_stopUnlessTrue : ByteArray := prog_3_method_10_code
def yX1_stopUnlessTrue : MethodName := ⟨RX1, "stopUnlessTrue", "(I)V"⟩
def RX2 : String := "SymbolBench$Path"
def TX2 : u_T := fun k => match k with
  | 0 => ("SymbolBench$Path", "decided", "J", false)
  | 1 => ("SymbolBench$Path", "ones", "J", false)
  | 2 => ("SymbolBench$Path", "end", "I", false)
  | 3 => ("SymbolBench$Path", "endPlace", "I", false)
  | 4 => ("SymbolBench$Path", "leastWord", "I", false)
  | 5 => ("SymbolBench$Path", "result", "I", false)
  | _ => ("SymbolBench$Path", "alwaysSameResult", "Z", false)
def tyX2 : Nat → FieldType := fun k => match k with
  | 0 => .long
  | 1 => .long
  | 2 => .int
  | 3 => .int
  | 4 => .int
  | 5 => .int
  | _ => .boolean
abbrev wsX20 : List Cond := u_ws RX2 TX2 7
theorem nmX2 : ∀ a, a < 7 → ∀ b, b < 7 → a ≠ b → (TX2 a).2.1 ≠ (TX2 b).2.1 := by decide +kernel
theorem tyX2_ok : ∀ k, k < 7 → parseFieldDescriptor (TX2 k).2.2.1 = some (tyX2 k) := by decide +kernel
abbrev cX2_init : ByteArray := prog_4_method_1_code
def yX2_init : MethodName := ⟨RX2, "<init>", "()V"⟩
abbrev cX2_take : ByteArray := prog_4_method_2_code
def yX2_take : MethodName := ⟨RX2, "take", "(LSymbolBench$Machine;I)V"⟩
def RX3 : String := "SymbolBench$Program"
def TX3 : u_T := fun k => match k with
  | 0 => ("SymbolBench$Program", "widths", "[I", true)
  | 1 => ("SymbolBench$Program", "reaches", "[I", true)
  | 2 => ("SymbolBench$Program", "signs", "[Z", true)
  | 3 => ("SymbolBench$Program", "inputs", "I", false)
  | 4 => ("SymbolBench$Program", "bits", "I", false)
  | 5 => ("SymbolBench$Program", "numbers", "[I", true)
  | 6 => ("SymbolBench$Program", "firsts", "[I", true)
  | 7 => ("SymbolBench$Program", "seconds", "[I", true)
  | 8 => ("SymbolBench$Program", "thirds", "[I", true)
  | 9 => ("SymbolBench$Program", "size", "I", false)
  | 10 => ("SymbolBench$Program", "multiplications", "I", false)
  | _ => ("SymbolBench$Program", "divisions", "I", false)
def tyX3 : Nat → FieldType := fun k => match k with
  | 0 => .array .int
  | 1 => .array .int
  | 2 => .array .boolean
  | 3 => .int
  | 4 => .int
  | 5 => .array .int
  | 6 => .array .int
  | 7 => .array .int
  | 8 => .array .int
  | 9 => .int
  | 10 => .int
  | _ => .int
abbrev wsX30 : List Cond := u_ws RX3 TX3 12
theorem nmX3 : ∀ a, a < 12 → ∀ b, b < 12 → a ≠ b → (TX3 a).2.1 ≠ (TX3 b).2.1 := by decide +kernel
theorem tyX3_ok : ∀ k, k < 12 → parseFieldDescriptor (TX3 k).2.2.1 = some (tyX3 k) := by decide +kernel
abbrev cX3_init : ByteArray := prog_5_method_1_code
def yX3_init : MethodName := ⟨RX3, "<init>", "()V"⟩
abbrev cX3_empty : ByteArray := prog_5_method_2_code
def yX3_empty : MethodName := ⟨RX3, "empty", "()V"⟩
abbrev cX3_addInput : ByteArray := prog_5_method_3_code
def yX3_addInput : MethodName := ⟨RX3, "addInput", "(IZ)I"⟩
abbrev cX3_addInstruction : ByteArray := prog_5_method_4_code
def yX3_addInstruction : MethodName := ⟨RX3, "addInstruction", "(IIII)I"⟩
abbrev cX3_fits : ByteArray := prog_5_method_5_code
def yX3_fits : MethodName := ⟨RX3, "fits", "(IIII)Z"⟩
abbrev cX3_takesThreeRegisters : ByteArray := prog_5_method_6_code
def yX3_takesThreeRegisters : MethodName := ⟨RX3, "takesThreeRegisters", "(I)Z"⟩
abbrev cX3_isTarget : ByteArray := prog_5_method_7_code
def yX3_isTarget : MethodName := ⟨RX3, "isTarget", "(I)Z"⟩
abbrev cX3_wouldBeTooMany : ByteArray := prog_5_method_8_code
def yX3_wouldBeTooMany : MethodName := ⟨RX3, "wouldBeTooMany", "(I)Z"⟩
abbrev cX3_words : ByteArray := prog_5_method_9_code
def yX3_words : MethodName := ⟨RX3, "words", "()I"⟩
abbrev cX3_hasWord : ByteArray := prog_5_method_10_code
def yX3_hasWord : MethodName := ⟨RX3, "hasWord", "(I)Z"⟩
abbrev cX3_inputIn : ByteArray := prog_5_method_11_code
def yX3_inputIn : MethodName := ⟨RX3, "inputIn", "(II)I"⟩
def RX4 : String := "SymbolBench"
def TX4 : u_T := fun k => match k with
  | 0 => ("SymbolBench", "program", "LSymbolBench$Program;", true)
  | 1 => ("SymbolBench", "atlas", "LSymbolBench$Atlas;", true)
  | 2 => ("SymbolBench", "prober", "LSymbolBench$Machine;", true)
  | 3 => ("SymbolBench", "runner", "LSymbolBench$Machine;", true)
  | 4 => ("SymbolBench", "hasRun", "Z", false)
  | _ => ("SymbolBench", "changedSinceRun", "Z", false)
def tyX4 : Nat → FieldType := fun k => match k with
  | 0 => .object "SymbolBench$Program"
  | 1 => .object "SymbolBench$Atlas"
  | 2 => .object "SymbolBench$Machine"
  | 3 => .object "SymbolBench$Machine"
  | 4 => .boolean
  | _ => .boolean
abbrev wsX40 : List Cond := u_ws RX4 TX4 6
theorem nmX4 : ∀ a, a < 6 → ∀ b, b < 6 → a ≠ b → (TX4 a).2.1 ≠ (TX4 b).2.1 := by decide +kernel
theorem tyX4_ok : ∀ k, k < 6 → parseFieldDescriptor (TX4 k).2.2.1 = some (tyX4 k) := by decide +kernel
abbrev cX4_init : ByteArray := prog_1_method_1_code
def yX4_init : MethodName := ⟨RX4, "<init>", "()V"⟩
abbrev cX4_input : ByteArray := prog_1_method_2_code
def yX4_input : MethodName := ⟨RX4, "input", "(IZ)I"⟩
abbrev cX4_tell : ByteArray := prog_1_method_3_code
def yX4_tell : MethodName := ⟨RX4, "tell", "(IIII)I"⟩
abbrev cX4_clear : ByteArray := prog_1_method_4_code
def yX4_clear : MethodName := ⟨RX4, "clear", "()I"⟩
abbrev cX4_explore : ByteArray := prog_1_method_5_code
def yX4_explore : MethodName := ⟨RX4, "explore", "()I"⟩
abbrev cX4_path : ByteArray := prog_1_method_6_code
def yX4_path : MethodName := ⟨RX4, "path", "(II)I"⟩
abbrev cX4_decision : ByteArray := prog_1_method_7_code
def yX4_decision : MethodName := ⟨RX4, "decision", "(II)I"⟩
abbrev cX4_holds : ByteArray := prog_1_method_8_code
def yX4_holds : MethodName := ⟨RX4, "holds", "(II)I"⟩
abbrev cX4_value : ByteArray := prog_1_method_9_code
def yX4_value : MethodName := ⟨RX4, "value", "(II)I"⟩
abbrev cX4_find : ByteArray := prog_1_method_10_code
def yX4_find : MethodName := ⟨RX4, "find", "(III)I"⟩
abbrev cX4_run : ByteArray := prog_1_method_11_code
def yX4_run : MethodName := ⟨RX4, "run", "(I)I"⟩
abbrev cX4_ran : ByteArray := prog_1_method_12_code
def yX4_ran : MethodName := ⟨RX4, "ran", "(I)I"⟩
abbrev cX4_register : ByteArray := prog_1_method_13_code
def yX4_register : MethodName := ⟨RX4, "register", "(I)I"⟩
abbrev cX4_cell : ByteArray := prog_1_method_14_code
def yX4_cell : MethodName := ⟨RX4, "cell", "(I)I"⟩
abbrev cX4_failure : ByteArray := prog_1_method_15_code
def yX4_failure : MethodName := ⟨RX4, "failure", "(II)I"⟩
abbrev cX4_covered : ByteArray := prog_1_method_16_code
def yX4_covered : MethodName := ⟨RX4, "covered", "(I)I"⟩
abbrev cX4_count : ByteArray := prog_1_method_17_code
def yX4_count : MethodName := ⟨RX4, "count", "(I)I"⟩
abbrev cX4_forgetFindings : ByteArray := prog_1_method_18_code
def yX4_forgetFindings : MethodName := ⟨RX4, "forgetFindings", "()V"⟩
abbrev cX4_mark : ByteArray := prog_1_method_19_code
def yX4_mark : MethodName := ⟨RX4, "mark", "(I)J"⟩
abbrev cX4_isMarked : ByteArray := prog_1_method_20_code
def yX4_isMarked : MethodName := ⟨RX4, "isMarked", "(JI)Z"⟩
abbrev cX4_placeOfMark : ByteArray := prog_1_method_21_code
def yX4_placeOfMark : MethodName := ⟨RX4, "placeOfMark", "(JI)I"⟩
abbrev cX4_isBelowUnsigned : ByteArray := prog_1_method_22_code
def yX4_isBelowUnsigned : MethodName := ⟨RX4, "isBelowUnsigned", "(II)Z"⟩
abbrev cX4_combine : ByteArray := prog_1_method_23_code
def yX4_combine : MethodName := ⟨RX4, "combine", "(III)I"⟩
abbrev cX4_divide : ByteArray := prog_1_method_24_code
def yX4_divide : MethodName := ⟨RX4, "divide", "(III)I"⟩
abbrev cX4_isDivision : ByteArray := prog_1_method_25_code
def yX4_isDivision : MethodName := ⟨RX4, "isDivision", "(I)Z"⟩
abbrev cX4_isRegister : ByteArray := prog_1_method_26_code
def yX4_isRegister : MethodName := ⟨RX4, "isRegister", "(I)Z"⟩
abbrev cX4_isCell : ByteArray := prog_1_method_27_code
def yX4_isCell : MethodName := ⟨RX4, "isCell", "(I)Z"⟩
def RX5 : String := "SymbolBenchModel"
def TX5 : u_T := fun k => match k with
  | 0 => ("SymbolBenchModel", "thrown", "I", false)
  | 1 => ("SymbolBenchModel", "inputs", "I", false)
  | 2 => ("SymbolBenchModel", "bits", "I", false)
  | 3 => ("SymbolBenchModel", "size", "I", false)
  | 4 => ("SymbolBenchModel", "muls", "I", false)
  | 5 => ("SymbolBenchModel", "divisions", "I", false)
  | 6 => ("SymbolBenchModel", "wide", "[I", true)
  | 7 => ("SymbolBenchModel", "signed", "[Z", true)
  | 8 => ("SymbolBenchModel", "op", "[I", true)
  | 9 => ("SymbolBenchModel", "a", "[I", true)
  | 10 => ("SymbolBenchModel", "b", "[I", true)
  | 11 => ("SymbolBenchModel", "c", "[I", true)
  | 12 => ("SymbolBenchModel", "paths", "I", false)
  | 13 => ("SymbolBenchModel", "end", "[I", true)
  | 14 => ("SymbolBenchModel", "place", "[I", true)
  | 15 => ("SymbolBenchModel", "many", "[I", true)
  | 16 => ("SymbolBenchModel", "least", "[I", true)
  | 17 => ("SymbolBenchModel", "alike", "[Z", true)
  | 18 => ("SymbolBenchModel", "row", "[[I", true)
  | 19 => ("SymbolBenchModel", "of", "[I", true)
  | 20 => ("SymbolBenchModel", "result", "[I", true)
  | 21 => ("SymbolBenchModel", "met", "[Z", true)
  | 22 => ("SymbolBenchModel", "reg", "[I", true)
  | 23 => ("SymbolBenchModel", "cell", "[I", true)
  | 24 => ("SymbolBenchModel", "made", "[I", true)
  | 25 => ("SymbolBenchModel", "runEnd", "I", false)
  | 26 => ("SymbolBenchModel", "runPlace", "I", false)
  | 27 => ("SymbolBenchModel", "runResult", "I", false)
  | 28 => ("SymbolBenchModel", "runDone", "I", false)
  | 29 => ("SymbolBenchModel", "runMade", "I", false)
  | 30 => ("SymbolBenchModel", "ran", "Z", false)
  | 31 => ("SymbolBenchModel", "told", "I", false)
  | 32 => ("SymbolBenchModel", "toldEnd", "I", false)
  | 33 => ("SymbolBenchModel", "toldPlace", "I", false)
  | 34 => ("SymbolBenchModel", "toldResult", "I", false)
  | 35 => ("SymbolBenchModel", "toldDone", "I", false)
  | 36 => ("SymbolBenchModel", "toldMade", "I", false)
  | 37 => ("SymbolBenchModel", "toldReg", "[I", true)
  | 38 => ("SymbolBenchModel", "toldCell", "[I", true)
  | _ => ("SymbolBenchModel", "same", "Z", false)
def tyX5 : Nat → FieldType := fun k => match k with
  | 0 => .int
  | 1 => .int
  | 2 => .int
  | 3 => .int
  | 4 => .int
  | 5 => .int
  | 6 => .array .int
  | 7 => .array .boolean
  | 8 => .array .int
  | 9 => .array .int
  | 10 => .array .int
  | 11 => .array .int
  | 12 => .int
  | 13 => .array .int
  | 14 => .array .int
  | 15 => .array .int
  | 16 => .array .int
  | 17 => .array .boolean
  | 18 => .array (.array .int)
  | 19 => .array .int
  | 20 => .array .int
  | 21 => .array .boolean
  | 22 => .array .int
  | 23 => .array .int
  | 24 => .array .int
  | 25 => .int
  | 26 => .int
  | 27 => .int
  | 28 => .int
  | 29 => .int
  | 30 => .boolean
  | 31 => .int
  | 32 => .int
  | 33 => .int
  | 34 => .int
  | 35 => .int
  | 36 => .int
  | 37 => .array .int
  | 38 => .array .int
  | _ => .boolean
abbrev wsX50 : List Cond := u_ws RX5 TX5 40
theorem nmX5 : ∀ a, a < 40 → ∀ b, b < 40 → a ≠ b → (TX5 a).2.1 ≠ (TX5 b).2.1 := by decide +kernel
theorem tyX5_ok : ∀ k, k < 40 → parseFieldDescriptor (TX5 k).2.2.1 = some (tyX5 k) := by decide +kernel
abbrev cX5_init : ByteArray := prog_7_method_1_code
def yX5_init : MethodName := ⟨RX5, "<init>", "()V"⟩
abbrev cX5_changed : ByteArray := prog_7_method_3_code
def yX5_changed : MethodName := ⟨RX5, "changed", "()V"⟩
abbrev cX5_input : ByteArray := prog_7_method_4_code
def yX5_input : MethodName := ⟨RX5, "input", "(IZ)I"⟩
abbrev cX5_isRegister : ByteArray := prog_7_method_5_code
def yX5_isRegister : MethodName := ⟨RX5, "isRegister", "(I)Z"⟩
abbrev cX5_isTarget : ByteArray := prog_7_method_6_code
def yX5_isTarget : MethodName := ⟨RX5, "isTarget", "(I)Z"⟩
abbrev cX5_isGood : ByteArray := prog_7_method_7_code
def yX5_isGood : MethodName := ⟨RX5, "isGood", "(IIII)Z"⟩
abbrev cX5_isDivision : ByteArray := prog_7_method_8_code
def yX5_isDivision : MethodName := ⟨RX5, "isDivision", "(I)Z"⟩
abbrev cX5_tell : ByteArray := prog_7_method_9_code
def yX5_tell : MethodName := ⟨RX5, "tell", "(IIII)I"⟩
abbrev cX5_clear : ByteArray := prog_7_method_10_code
def yX5_clear : MethodName := ⟨RX5, "clear", "()I"⟩
abbrev cX5_words : ByteArray := prog_7_method_11_code
def yX5_words : MethodName := ⟨RX5, "words", "()I"⟩
abbrev cX5_inputOf : ByteArray := prog_7_method_12_code
def yX5_inputOf : MethodName := ⟨RX5, "inputOf", "(II)I"⟩
abbrev cX5_isBelow : ByteArray := prog_7_method_13_code
def yX5_isBelow : MethodName := ⟨RX5, "isBelow", "(II)Z"⟩
abbrev cX5_plain : ByteArray := prog_7_method_14_code
def yX5_plain : MethodName := ⟨RX5, "plain", "(I)J"⟩
abbrev cX5_truth : ByteArray := prog_7_method_15_code
def yX5_truth : MethodName := ⟨RX5, "truth", "(Z)I"⟩
abbrev cX5_reckoned : ByteArray := prog_7_method_16_code
def yX5_reckoned : MethodName := ⟨RX5, "reckoned", "(III)I"⟩
abbrev cX5_ends : ByteArray := prog_7_method_17_code
def yX5_ends : MethodName := ⟨RX5, "ends", "(III)V"⟩
abbrev cX5_go : ByteArray := prog_7_method_18_code
def yX5_go : MethodName := ⟨RX5, "go", "(I[IZ)V"⟩
abbrev cX5_isPath : ByteArray := prog_7_method_19_code
def yX5_isPath : MethodName := ⟨RX5, "isPath", "(I)Z"⟩
abbrev cX5_explore : ByteArray := prog_7_method_20_code
def yX5_explore : MethodName := ⟨RX5, "explore", "()I"⟩
abbrev cX5_isAhead : ByteArray := prog_7_method_21_code
def yX5_isAhead : MethodName := ⟨RX5, "isAhead", "(II)Z"⟩
abbrev cX5_order : ByteArray := prog_7_method_22_code
def yX5_order : MethodName := ⟨RX5, "order", "()V"⟩
abbrev cX5_turn : ByteArray := prog_7_method_23_code
def yX5_turn : MethodName := ⟨RX5, "turn", "([III)V"⟩
abbrev cX5_exchange : ByteArray := prog_7_method_24_code
def yX5_exchange : MethodName := ⟨RX5, "exchange", "(II)V"⟩
abbrev cX5_has : ByteArray := prog_7_method_25_code
def yX5_has : MethodName := ⟨RX5, "has", "(I)Z"⟩
abbrev cX5_isWord : ByteArray := prog_7_method_26_code
def yX5_isWord : MethodName := ⟨RX5, "isWord", "(I)Z"⟩
abbrev cX5_path : ByteArray := prog_7_method_27_code
def yX5_path : MethodName := ⟨RX5, "path", "(II)I"⟩
abbrev cX5_decision : ByteArray := prog_7_method_28_code
def yX5_decision : MethodName := ⟨RX5, "decision", "(II)I"⟩
abbrev cX5_holds : ByteArray := prog_7_method_29_code
def yX5_holds : MethodName := ⟨RX5, "holds", "(II)I"⟩
abbrev cX5_value : ByteArray := prog_7_method_30_code
def yX5_value : MethodName := ⟨RX5, "value", "(II)I"⟩
abbrev cX5_find : ByteArray := prog_7_method_31_code
def yX5_find : MethodName := ⟨RX5, "find", "(III)I"⟩
abbrev cX5_run : ByteArray := prog_7_method_32_code
def yX5_run : MethodName := ⟨RX5, "run", "(I)I"⟩
abbrev cX5_ran : ByteArray := prog_7_method_33_code
def yX5_ran : MethodName := ⟨RX5, "ran", "(I)I"⟩
abbrev cX5_register : ByteArray := prog_7_method_34_code
def yX5_register : MethodName := ⟨RX5, "register", "(I)I"⟩
abbrev cX5_cell : ByteArray := prog_7_method_35_code
def yX5_cell : MethodName := ⟨RX5, "cell", "(I)I"⟩
abbrev cX5_failing : ByteArray := prog_7_method_36_code
def yX5_failing : MethodName := ⟨RX5, "failing", "(II)I"⟩
abbrev cX5_failures : ByteArray := prog_7_method_37_code
def yX5_failures : MethodName := ⟨RX5, "failures", "()I"⟩
abbrev cX5_failure : ByteArray := prog_7_method_38_code
def yX5_failure : MethodName := ⟨RX5, "failure", "(II)I"⟩
abbrev cX5_covered : ByteArray := prog_7_method_39_code
def yX5_covered : MethodName := ⟨RX5, "covered", "(I)I"⟩
abbrev cX5_count : ByteArray := prog_7_method_40_code
def yX5_count : MethodName := ⟨RX5, "count", "(I)I"⟩
def RJ13 : String := "java/lang/Long"
def TJ13 : u_T := fun k => match k with
  | _ => ("", "", "", false)
def tyJ13 : Nat → FieldType := fun k => match k with
  | _ => .int
abbrev wsJ130 : List Cond := u_ws RJ13 TJ13 0
theorem nmJ13 : ∀ a, a < 0 → ∀ b, b < 0 → a ≠ b → (TJ13 a).2.1 ≠ (TJ13 b).2.1 := by decide +kernel
theorem tyJ13_ok : ∀ k, k < 0 → parseFieldDescriptor (TJ13 k).2.2.1 = some (tyJ13 k) := by decide +kernel
abbrev cJ13_bitCount_95d88 : ByteArray := prog_8_method_50_code
def yJ13_bitCount_95d88 : MethodName := ⟨RJ13, "bitCount", "(J)I"⟩
def RJ7 : String := "java/util/Arrays"
def TJ7 : u_T := fun k => match k with
  | _ => ("", "", "", false)
def tyJ7 : Nat → FieldType := fun k => match k with
  | _ => .int
abbrev wsJ70 : List Cond := u_ws RJ7 TJ7 0
theorem nmJ7 : ∀ a, a < 0 → ∀ b, b < 0 → a ≠ b → (TJ7 a).2.1 ≠ (TJ7 b).2.1 := by decide +kernel
theorem tyJ7_ok : ∀ k, k < 0 → parseFieldDescriptor (TJ7 k).2.2.1 = some (tyJ7 k) := by decide +kernel
abbrev cJ7_fill_53178 : ByteArray := prog_9_method_103_code
def yJ7_fill_53178 : MethodName := ⟨RJ7, "fill", "([II)V"⟩
def RL : String := "SymbolBenchLaw"
abbrev cL_law : ByteArray := code
def yL_law : MethodName := ⟨RL, "law", "([I)Z"⟩
def wsL_law_r1 : List Cond := [Cond.classLink RL 7 RX4, Cond.instantiable RX4 6, Cond.initialized RX4, Cond.classLink RL 10 RX5, Cond.instantiable RX5 40, Cond.initialized RX5, Cond.methodLink RL 9 yX4_init, Cond.instanceMethod yX4_init, Cond.code yX4_init cX4_init 1 none, Cond.methodLink RX4 3 objectInit, Cond.instanceMethod objectInit, Cond.code objectInit ⟨#[0xb1]⟩ 1 none, Cond.classLink RX4 9 RX3, Cond.instantiable RX3 12, Cond.initialized RX3, Cond.fieldLink RX4 12 "SymbolBench" "program" "LSymbolBench$Program;", Cond.classLink RX4 16 RX0, Cond.instantiable RX0 6, Cond.initialized RX0, Cond.fieldLink RX4 19 "SymbolBench" "atlas" "LSymbolBench$Atlas;", Cond.classLink RX4 23 RX1, Cond.instantiable RX1 12, Cond.initialized RX1, Cond.fieldLink RX4 26 "SymbolBench" "prober" "LSymbolBench$Machine;"]
def wsL_law_r2 : List Cond := [Cond.fieldLink RX4 30 "SymbolBench" "runner" "LSymbolBench$Machine;", Cond.instanceMethod yX3_init, Cond.code yX3_init cX3_init 1 none, Cond.methodLink RX3 3 objectInit, Cond.arrayClass .int, Cond.fieldLink RX3 9 "SymbolBench$Program" "widths" "[I", Cond.fieldLink RX3 15 "SymbolBench$Program" "reaches" "[I", Cond.arrayClass .boolean, Cond.fieldLink RX3 18 "SymbolBench$Program" "signs" "[Z", Cond.fieldLink RX3 22 "SymbolBench$Program" "numbers" "[I", Cond.fieldLink RX3 25 "SymbolBench$Program" "firsts" "[I", Cond.fieldLink RX3 28 "SymbolBench$Program" "seconds" "[I", Cond.fieldLink RX3 31 "SymbolBench$Program" "thirds" "[I", Cond.methodLink RX4 18 yX0_init, Cond.instanceMethod yX0_init, Cond.code yX0_init cX0_init 2 none, Cond.methodLink RX0 3 objectInit, Cond.classLink RX0 9 RX2, Cond.fieldLink RX0 11 "SymbolBench$Atlas" "paths" "[LSymbolBench$Path;", Cond.arrayClass .long, Cond.fieldLink RX0 17 "SymbolBench$Atlas" "onesOfWord" "[J", Cond.fieldLink RX0 21 "SymbolBench$Atlas" "resultOfWord" "[I", Cond.instantiable RX2 7, Cond.initialized RX2]
def wsL_law_r3 : List Cond := [Cond.instanceMethod yX2_init, Cond.code yX2_init cX2_init 1 none, Cond.methodLink RX2 1 objectInit, Cond.instanceMethod yX1_init, Cond.code yX1_init cX1_init 1 none, Cond.methodLink RX1 3 objectInit, Cond.fieldLink RX1 9 "SymbolBench$Machine" "registers" "[I", Cond.fieldLink RX1 15 "SymbolBench$Machine" "cells" "[I", Cond.methodLink RL 12 yX5_init, Cond.instanceMethod yX5_init, Cond.code yX5_init cX5_init 1 none, Cond.methodLink RX5 1 objectInit, Cond.fieldLink RX5 7 "SymbolBenchModel" "wide" "[I", Cond.fieldLink RX5 13 "SymbolBenchModel" "signed" "[Z", Cond.fieldLink RX5 17 "SymbolBenchModel" "op" "[I", Cond.fieldLink RX5 20 "SymbolBenchModel" "a" "[I", Cond.fieldLink RX5 23 "SymbolBenchModel" "b" "[I", Cond.fieldLink RX5 26 "SymbolBenchModel" "c" "[I", Cond.fieldLink RX5 29 "SymbolBenchModel" "paths" "I", Cond.fieldLink RX5 33 "SymbolBenchModel" "end" "[I", Cond.fieldLink RX5 36 "SymbolBenchModel" "place" "[I", Cond.fieldLink RX5 39 "SymbolBenchModel" "many" "[I", Cond.fieldLink RX5 42 "SymbolBenchModel" "least" "[I", Cond.fieldLink RX5 45 "SymbolBenchModel" "alike" "[Z"]
def wsL_law_r4 : List Cond := [Cond.classLink RX5 48 "[[I", Cond.fieldLink RX5 50 "SymbolBenchModel" "row" "[[I", Cond.fieldLink RX5 53 "SymbolBenchModel" "of" "[I", Cond.fieldLink RX5 56 "SymbolBenchModel" "result" "[I", Cond.fieldLink RX5 59 "SymbolBenchModel" "met" "[Z", Cond.fieldLink RX5 62 "SymbolBenchModel" "reg" "[I", Cond.fieldLink RX5 65 "SymbolBenchModel" "cell" "[I", Cond.fieldLink RX5 68 "SymbolBenchModel" "made" "[I", Cond.fieldLink RX5 71 "SymbolBenchModel" "toldReg" "[I", Cond.fieldLink RX5 74 "SymbolBenchModel" "toldCell" "[I", Cond.methodLink RL 13 yX4_input, Cond.instanceMethod yX4_input, Cond.selects RX4 yX4_input yX4_input, Cond.code yX4_input cX4_input 4 (some .int), Cond.methodLink RX4 33 yX3_addInput, Cond.instanceMethod yX3_addInput, Cond.selects RX3 yX3_addInput yX3_addInput, Cond.code yX3_addInput cX3_addInput 3 (some .int), Cond.fieldLink RX3 34 "SymbolBench$Program" "inputs" "I", Cond.fieldLink RX3 38 "SymbolBench$Program" "bits" "I", Cond.methodLink RX4 37 yX4_forgetFindings, Cond.instanceMethod yX4_forgetFindings, Cond.selects RX4 yX4_forgetFindings yX4_forgetFindings, Cond.code yX4_forgetFindings cX4_forgetFindings 1 none]
def wsL_law_r5 : List Cond := [Cond.fieldLink RX4 131 "SymbolBench" "changedSinceRun" "Z", Cond.methodLink RX4 172 yX0_forget, Cond.instanceMethod yX0_forget, Cond.selects RX0 yX0_forget yX0_forget, Cond.code yX0_forget cX0_forget 1 none, Cond.fieldLink RX0 26 "SymbolBench$Atlas" "size" "I", Cond.fieldLink RX0 30 "SymbolBench$Atlas" "visited" "J", Cond.fieldLink RX0 34 "SymbolBench$Atlas" "failed" "J", Cond.methodLink RL 17 yX5_input, Cond.instanceMethod yX5_input, Cond.selects RX5 yX5_input yX5_input, Cond.code yX5_input cX5_input 3 (some .int), Cond.fieldLink RX5 84 "SymbolBenchModel" "inputs" "I", Cond.fieldLink RX5 87 "SymbolBenchModel" "bits" "I", Cond.methodLink RX5 90 yX5_changed, Cond.instanceMethod yX5_changed, Cond.selects RX5 yX5_changed yX5_changed, Cond.code yX5_changed cX5_changed 1 none, Cond.fieldLink RX5 80 "SymbolBenchModel" "same" "Z", Cond.methodLink RL 18 yX4_tell, Cond.instanceMethod yX4_tell, Cond.selects RX4 yX4_tell yX4_tell, Cond.code yX4_tell cX4_tell 6 (some .int), Cond.methodLink RX4 40 yX3_addInstruction]
def wsL_law_r6 : List Cond := [Cond.instanceMethod yX3_addInstruction, Cond.selects RX3 yX3_addInstruction yX3_addInstruction, Cond.code yX3_addInstruction cX3_addInstruction 5 (some .int), Cond.fieldLink RX3 41 "SymbolBench$Program" "size" "I", Cond.fieldLink RX3 44 "SymbolBench$Program" "multiplications" "I", Cond.fieldLink RX3 47 "SymbolBench$Program" "divisions" "I", Cond.methodLink RX3 50 yX3_fits, Cond.instanceMethod yX3_fits, Cond.selects RX3 yX3_fits yX3_fits, Cond.code yX3_fits cX3_fits 5 (some .boolean), Cond.static yX4_isRegister, Cond.code yX4_isRegister cX4_isRegister 1 (some .boolean), Cond.methodLink RX3 64 yX3_isTarget, Cond.instanceMethod yX3_isTarget, Cond.selects RX3 yX3_isTarget yX3_isTarget, Cond.code yX3_isTarget cX3_isTarget 2 (some .boolean), Cond.methodLink RX3 67 yX3_takesThreeRegisters, Cond.static yX3_takesThreeRegisters, Cond.code yX3_takesThreeRegisters cX3_takesThreeRegisters 1 (some .boolean), Cond.methodLink RX3 54 yX3_wouldBeTooMany, Cond.instanceMethod yX3_wouldBeTooMany, Cond.selects RX3 yX3_wouldBeTooMany yX3_wouldBeTooMany, Cond.code yX3_wouldBeTooMany cX3_wouldBeTooMany 2 (some .boolean), Cond.static yX4_isDivision]
def wsL_law_r7 : List Cond := [Cond.code yX4_isDivision cX4_isDivision 1 (some .boolean), Cond.methodLink RL 22 yX5_tell, Cond.instanceMethod yX5_tell, Cond.selects RX5 yX5_tell yX5_tell, Cond.code yX5_tell cX5_tell 5 (some .int), Cond.fieldLink RX5 93 "SymbolBenchModel" "size" "I", Cond.fieldLink RX5 107 "SymbolBenchModel" "muls" "I", Cond.fieldLink RX5 113 "SymbolBenchModel" "divisions" "I", Cond.methodLink RX5 103 yX5_isGood, Cond.instanceMethod yX5_isGood, Cond.selects RX5 yX5_isGood yX5_isGood, Cond.code yX5_isGood cX5_isGood 5 (some .boolean), Cond.methodLink RX5 96 yX5_isRegister, Cond.static yX5_isRegister, Cond.code yX5_isRegister cX5_isRegister 1 (some .boolean), Cond.methodLink RX5 100 yX5_isTarget, Cond.instanceMethod yX5_isTarget, Cond.selects RX5 yX5_isTarget yX5_isTarget, Cond.code yX5_isTarget cX5_isTarget 2 (some .boolean), Cond.methodLink RX5 110 yX5_isDivision, Cond.static yX5_isDivision, Cond.code yX5_isDivision cX5_isDivision 1 (some .boolean), Cond.methodLink RL 23 yX4_clear, Cond.instanceMethod yX4_clear]
def wsL_law_r8 : List Cond := [Cond.selects RX4 yX4_clear yX4_clear, Cond.code yX4_clear cX4_clear 2 (some .int), Cond.fieldLink RX4 51 "SymbolBench" "hasRun" "Z", Cond.methodLink RX4 48 yX3_empty, Cond.instanceMethod yX3_empty, Cond.selects RX3 yX3_empty yX3_empty, Cond.code yX3_empty cX3_empty 1 none, Cond.methodLink RL 27 yX5_clear, Cond.instanceMethod yX5_clear, Cond.selects RX5 yX5_clear yX5_clear, Cond.code yX5_clear cX5_clear 2 (some .int), Cond.fieldLink RX5 116 "SymbolBenchModel" "ran" "Z", Cond.methodLink RL 28 yX4_explore, Cond.instanceMethod yX4_explore, Cond.selects RX4 yX4_explore yX4_explore, Cond.code yX4_explore cX4_explore 1 (some .int), Cond.methodLink RX4 55 yX0_isKnown, Cond.instanceMethod yX0_isKnown, Cond.selects RX0 yX0_isKnown yX0_isKnown, Cond.code yX0_isKnown cX0_isKnown 1 (some .boolean), Cond.methodLink RX4 59 yX0_survey, Cond.instanceMethod yX0_survey, Cond.selects RX0 yX0_survey yX0_survey, Cond.code yX0_survey cX0_survey 5 none]
def wsL_law_r9 : List Cond := [Cond.methodLink RX0 41 yX0_forget, Cond.methodLink RX0 44 yX3_words, Cond.instanceMethod yX3_words, Cond.selects RX3 yX3_words yX3_words, Cond.code yX3_words cX3_words 1 (some .int), Cond.methodLink RX0 50 yX1_execute, Cond.instanceMethod yX1_execute, Cond.selects RX1 yX1_execute yX1_execute, Cond.code yX1_execute cX1_execute 6 none, Cond.fieldLink RX1 28 "SymbolBench$Machine" "hasEnded" "Z", Cond.fieldLink RX1 32 "SymbolBench$Machine" "place" "I", Cond.fieldLink RX1 39 "SymbolBench$Machine" "placeMark" "J", Cond.fieldLink RX1 43 "SymbolBench$Machine" "visited" "J", Cond.methodLink RX1 18 yX1_begin, Cond.instanceMethod yX1_begin, Cond.selects RX1 yX1_begin yX1_begin, Cond.code yX1_begin cX1_begin 2 none, Cond.fieldLink RX1 60 "SymbolBench$Machine" "isGuided" "Z", Cond.fieldLink RX1 68 "SymbolBench$Machine" "guidingOnes" "J", Cond.fieldLink RX1 71 "SymbolBench$Machine" "decided" "J", Cond.fieldLink RX1 74 "SymbolBench$Machine" "ones" "J", Cond.methodLink RX1 54 yJ7_fill_53178, Cond.static yJ7_fill_53178, Cond.initialized RJ7]
def wsL_law_r10 : List Cond := [Cond.code yJ7_fill_53178 cJ7_fill_53178 4 none, Cond.static yX4_mark, Cond.code yX4_mark cX4_mark 1 (some .long), Cond.methodLink RX1 46 yX1_step, Cond.instanceMethod yX1_step, Cond.selects RX1 yX1_step yX1_step, Cond.code yX1_step cX1_step 6 (some .int), Cond.methodLink RX1 90 yX3_inputIn, Cond.instanceMethod yX3_inputIn, Cond.selects RX3 yX3_inputIn yX3_inputIn, Cond.code yX3_inputIn cX3_inputIn 5 (some .int), Cond.methodLink RX1 94 yX1_load, Cond.instanceMethod yX1_load, Cond.selects RX1 yX1_load yX1_load, Cond.code yX1_load cX1_load 3 none, Cond.static yX4_isCell, Cond.code yX4_isCell cX4_isCell 1 (some .boolean), Cond.methodLink RX1 100 yX1_decide, Cond.instanceMethod yX1_decide, Cond.selects RX1 yX1_decide yX1_decide, Cond.code yX1_decide cX1_decide 3 (some .boolean), Cond.methodLink RX1 50 yX1_stop, Cond.instanceMethod yX1_stop, Cond.selects RX1 yX1_stop yX1_stop]
def wsL_law_r11 : List Cond := [Cond.code yX1_stop cX1_stop 3 none, Cond.fieldLink RX1 75 "SymbolBench$Machine" "end" "I", Cond.fieldLink RX1 78 "SymbolBench$Machine" "result" "I", Cond.methodLink RX1 97 yX1_store, Cond.instanceMethod yX1_store, Cond.selects RX1 yX1_store yX1_store, Cond.code yX1_store cX1_store 3 none, Cond.methodLink RX1 104 yX1_stopUnlessTrue, Cond.instanceMethod yX1_stopUnlessTrue, Cond.selects RX1 yX1_stopUnlessTrue yX1_stopUnlessTrue, Cond.code yX1_stopUnlessTrue cX1_stopUnlessTrue 2 none, Cond.methodLink RX1 111 yX1_calculate, Cond.instanceMethod yX1_calculate, Cond.selects RX1 yX1_calculate yX1_calculate, Cond.code yX1_calculate cX1_calculate 5 none, Cond.static yX4_divide, Cond.code yX4_divide cX4_divide 8 (some .int), Cond.constantLong RX4 179 (4294967295), Cond.static yX4_combine, Cond.code yX4_combine cX4_combine 3 (some .int), Cond.methodLink RX4 181 yX4_isBelowUnsigned, Cond.static yX4_isBelowUnsigned, Cond.code yX4_isBelowUnsigned cX4_isBelowUnsigned 2 (some .boolean), Cond.methodLink RX0 56 yX0_enter]
def wsL_law_r12 : List Cond := [Cond.instanceMethod yX0_enter, Cond.selects RX0 yX0_enter yX0_enter, Cond.code yX0_enter cX0_enter 4 (some .boolean), Cond.methodLink RX0 63 yX0_firstNotAheadOf, Cond.instanceMethod yX0_firstNotAheadOf, Cond.selects RX0 yX0_firstNotAheadOf yX0_firstNotAheadOf, Cond.code yX0_firstNotAheadOf cX0_firstNotAheadOf 4 (some .int), Cond.methodLink RX0 76 yX0_insertAt, Cond.instanceMethod yX0_insertAt, Cond.selects RX0 yX0_insertAt yX0_insertAt, Cond.code yX0_insertAt cX0_insertAt 4 (some (.object "SymbolBench$Path")), Cond.methodLink RX0 80 yX2_take, Cond.instanceMethod yX2_take, Cond.selects RX2 yX2_take yX2_take, Cond.code yX2_take cX2_take 3 none, Cond.fieldLink RX2 13 "SymbolBench$Path" "decided" "J", Cond.fieldLink RX2 19 "SymbolBench$Path" "ones" "J", Cond.fieldLink RX2 24 "SymbolBench$Path" "end" "I", Cond.fieldLink RX2 28 "SymbolBench$Path" "endPlace" "I", Cond.fieldLink RX2 31 "SymbolBench$Path" "leastWord" "I", Cond.fieldLink RX2 37 "SymbolBench$Path" "result" "I", Cond.fieldLink RX2 38 "SymbolBench$Path" "alwaysSameResult" "Z", Cond.methodLink RX4 64 yX0_knownOrNone, Cond.instanceMethod yX0_knownOrNone]
def wsL_law_r13 : List Cond := [Cond.selects RX0 yX0_knownOrNone yX0_knownOrNone, Cond.code yX0_knownOrNone cX0_knownOrNone 2 (some .int), Cond.methodLink RX0 37 yX0_isKnown, Cond.methodLink RL 31 yX5_explore, Cond.instanceMethod yX5_explore, Cond.selects RX5 yX5_explore yX5_explore, Cond.code yX5_explore cX5_explore 5 (some .int), Cond.fieldLink RX5 148 "SymbolBenchModel" "runMade" "I", Cond.fieldLink RX5 136 "SymbolBenchModel" "runEnd" "I", Cond.fieldLink RX5 139 "SymbolBenchModel" "runPlace" "I", Cond.fieldLink RX5 142 "SymbolBenchModel" "runResult" "I", Cond.methodLink RX5 163 yX5_words, Cond.instanceMethod yX5_words, Cond.selects RX5 yX5_words yX5_words, Cond.code yX5_words cX5_words 1 (some .int), Cond.methodLink RX5 167 yX5_go, Cond.instanceMethod yX5_go, Cond.selects RX5 yX5_go yX5_go, Cond.code yX5_go cX5_go 14 none, Cond.fieldLink RX5 145 "SymbolBenchModel" "runDone" "I", Cond.methodLink RX5 128 yX5_truth, Cond.static yX5_truth, Cond.code yX5_truth cX5_truth 1 (some .int), Cond.methodLink RX5 151 yX5_inputOf]
def wsL_law_r14 : List Cond := [Cond.instanceMethod yX5_inputOf, Cond.selects RX5 yX5_inputOf yX5_inputOf, Cond.code yX5_inputOf cX5_inputOf 5 (some .int), Cond.methodLink RX5 155 yX5_ends, Cond.instanceMethod yX5_ends, Cond.selects RX5 yX5_ends yX5_ends, Cond.code yX5_ends cX5_ends 4 none, Cond.methodLink RX5 159 yX5_reckoned, Cond.static yX5_reckoned, Cond.code yX5_reckoned cX5_reckoned 3 (some .int), Cond.methodLink RX5 124 yX5_plain, Cond.static yX5_plain, Cond.code yX5_plain cX5_plain 1 (some .long), Cond.constantLong RX5 122 (4294967295), Cond.methodLink RX5 132 yX5_isBelow, Cond.static yX5_isBelow, Cond.code yX5_isBelow cX5_isBelow 2 (some .boolean), Cond.constant RX5 121 (-2147483648), Cond.methodLink RX5 171 yX5_isPath, Cond.instanceMethod yX5_isPath, Cond.selects RX5 yX5_isPath yX5_isPath, Cond.code yX5_isPath cX5_isPath 4 (some .boolean), Cond.methodLink RX5 174 yX5_order, Cond.instanceMethod yX5_order]
def wsL_law_r15 : List Cond := [Cond.selects RX5 yX5_order yX5_order, Cond.code yX5_order cX5_order 3 none, Cond.methodLink RX5 177 yX5_isAhead, Cond.instanceMethod yX5_isAhead, Cond.selects RX5 yX5_isAhead yX5_isAhead, Cond.code yX5_isAhead cX5_isAhead 4 (some .boolean), Cond.methodLink RX5 180 yX5_exchange, Cond.instanceMethod yX5_exchange, Cond.selects RX5 yX5_exchange yX5_exchange, Cond.code yX5_exchange cX5_exchange 6 none, Cond.methodLink RX5 184 yX5_turn, Cond.static yX5_turn, Cond.code yX5_turn cX5_turn 4 none, Cond.methodLink RL 32 yX4_path, Cond.instanceMethod yX4_path, Cond.selects RX4 yX4_path yX4_path, Cond.code yX4_path cX4_path 4 (some .int), Cond.methodLink RX4 68 yX0_pathAt, Cond.instanceMethod yX0_pathAt, Cond.selects RX0 yX0_pathAt yX0_pathAt, Cond.code yX0_pathAt cX0_pathAt 2 (some (.object "SymbolBench$Path")), Cond.methodLink RX4 84 yJ13_bitCount_95d88, Cond.static yJ13_bitCount_95d88, Cond.initialized RJ13]
def wsL_law_r16 : List Cond := [Cond.code yJ13_bitCount_95d88 cJ13_bitCount_95d88 2 (some .int), Cond.constantLong RJ13 314 (6148914691236517205), Cond.constantLong RJ13 316 (3689348814741910323), Cond.constantLong RJ13 318 (1085102592571150095), Cond.methodLink RL 36 yX5_path, Cond.instanceMethod yX5_path, Cond.selects RX5 yX5_path yX5_path, Cond.code yX5_path cX5_path 3 (some .int), Cond.methodLink RX5 188 yX5_has, Cond.instanceMethod yX5_has, Cond.selects RX5 yX5_has yX5_has, Cond.code yX5_has cX5_has 2 (some .boolean), Cond.methodLink RL 37 yX4_decision, Cond.instanceMethod yX4_decision, Cond.selects RX4 yX4_decision yX4_decision, Cond.code yX4_decision cX4_decision 5 (some .int), Cond.methodLink RX4 99 yX4_placeOfMark, Cond.static yX4_placeOfMark, Cond.code yX4_placeOfMark cX4_placeOfMark 5 (some .int), Cond.methodLink RX4 106 yX4_isMarked, Cond.static yX4_isMarked, Cond.code yX4_isMarked cX4_isMarked 3 (some .boolean), Cond.methodLink RX4 175 yX4_mark, Cond.methodLink RL 40 yX5_decision]
def wsL_law_r17 : List Cond := [Cond.instanceMethod yX5_decision, Cond.selects RX5 yX5_decision yX5_decision, Cond.code yX5_decision cX5_decision 3 (some .int), Cond.methodLink RL 41 yX4_holds, Cond.instanceMethod yX4_holds, Cond.selects RX4 yX4_holds yX4_holds, Cond.code yX4_holds cX4_holds 4 (some .int), Cond.methodLink RX4 110 yX3_hasWord, Cond.instanceMethod yX3_hasWord, Cond.selects RX3 yX3_hasWord yX3_hasWord, Cond.code yX3_hasWord cX3_hasWord 2 (some .boolean), Cond.methodLink RX3 70 yX3_words, Cond.methodLink RX4 114 yX0_goes, Cond.instanceMethod yX0_goes, Cond.selects RX0 yX0_goes yX0_goes, Cond.code yX0_goes cX0_goes 3 (some .boolean), Cond.methodLink RL 44 yX5_holds, Cond.instanceMethod yX5_holds, Cond.selects RX5 yX5_holds yX5_holds, Cond.code yX5_holds cX5_holds 3 (some .int), Cond.methodLink RX5 191 yX5_isWord, Cond.instanceMethod yX5_isWord, Cond.selects RX5 yX5_isWord yX5_isWord, Cond.code yX5_isWord cX5_isWord 2 (some .boolean)]
def wsL_law_r18 : List Cond := [Cond.methodLink RL 45 yX4_value, Cond.instanceMethod yX4_value, Cond.selects RX4 yX4_value yX4_value, Cond.code yX4_value cX4_value 4 (some .int), Cond.methodLink RX4 118 yX1_execute, Cond.methodLink RL 48 yX5_value, Cond.instanceMethod yX5_value, Cond.selects RX5 yX5_value yX5_value, Cond.code yX5_value cX5_value 3 (some .int), Cond.methodLink RL 49 yX4_find, Cond.instanceMethod yX4_find, Cond.selects RX4 yX4_find yX4_find, Cond.code yX4_find cX4_find 5 (some .int), Cond.methodLink RX4 123 yX3_words, Cond.methodLink RX4 127 yX0_leastWordWith, Cond.instanceMethod yX0_leastWordWith, Cond.selects RX0 yX0_leastWordWith yX0_leastWordWith, Cond.code yX0_leastWordWith cX0_leastWordWith 6 (some .int), Cond.methodLink RX0 98 yX0_goes, Cond.methodLink RX0 102 yX0_isWanted, Cond.static yX0_isWanted, Cond.code yX0_isWanted cX0_isWanted 3 (some .boolean), Cond.methodLink RL 53 yX5_find, Cond.instanceMethod yX5_find]
def wsL_law_r19 : List Cond := [Cond.selects RX5 yX5_find yX5_find, Cond.code yX5_find cX5_find 6 (some .int), Cond.methodLink RL 54 yX4_run, Cond.instanceMethod yX4_run, Cond.selects RX4 yX4_run yX4_run, Cond.code yX4_run cX4_run 2 (some .int), Cond.methodLink RL 58 yX5_run, Cond.instanceMethod yX5_run, Cond.selects RX5 yX5_run yX5_run, Cond.code yX5_run cX5_run 3 (some .int), Cond.fieldLink RX5 194 "SymbolBenchModel" "told" "I", Cond.fieldLink RX5 197 "SymbolBenchModel" "toldEnd" "I", Cond.fieldLink RX5 200 "SymbolBenchModel" "toldPlace" "I", Cond.fieldLink RX5 203 "SymbolBenchModel" "toldResult" "I", Cond.fieldLink RX5 206 "SymbolBenchModel" "toldDone" "I", Cond.fieldLink RX5 209 "SymbolBenchModel" "toldMade" "I", Cond.methodLink RL 59 yX4_ran, Cond.instanceMethod yX4_ran, Cond.selects RX4 yX4_ran yX4_ran, Cond.code yX4_ran cX4_ran 2 (some .int), Cond.methodLink RX4 143 yX0_numberOf, Cond.instanceMethod yX0_numberOf, Cond.selects RX0 yX0_numberOf yX0_numberOf, Cond.code yX0_numberOf cX0_numberOf 4 (some .int)]
def wsL_law_r20 : List Cond := [Cond.methodLink RL 62 yX5_ran, Cond.instanceMethod yX5_ran, Cond.selects RX5 yX5_ran yX5_ran, Cond.code yX5_ran cX5_ran 2 (some .int), Cond.methodLink RL 63 yX4_register, Cond.instanceMethod yX4_register, Cond.selects RX4 yX4_register yX4_register, Cond.code yX4_register cX4_register 2 (some .int), Cond.methodLink RX4 146 yX4_isRegister, Cond.methodLink RL 66 yX5_register, Cond.instanceMethod yX5_register, Cond.selects RX5 yX5_register yX5_register, Cond.code yX5_register cX5_register 2 (some .int), Cond.methodLink RL 67 yX4_cell, Cond.instanceMethod yX4_cell, Cond.selects RX4 yX4_cell yX4_cell, Cond.code yX4_cell cX4_cell 2 (some .int), Cond.methodLink RX4 153 yX4_isCell, Cond.methodLink RL 70 yX5_cell, Cond.instanceMethod yX5_cell, Cond.selects RX5 yX5_cell yX5_cell, Cond.code yX5_cell cX5_cell 2 (some .int), Cond.methodLink RL 71 yX4_failure, Cond.instanceMethod yX4_failure]
def wsL_law_r21 : List Cond := [Cond.selects RX4 yX4_failure yX4_failure, Cond.code yX4_failure cX4_failure 4 (some .int), Cond.methodLink RX4 159 yX0_firstFailing, Cond.instanceMethod yX0_firstFailing, Cond.selects RX0 yX0_firstFailing yX0_firstFailing, Cond.code yX0_firstFailing cX0_firstFailing 7 (some (.object "SymbolBench$Path")), Cond.methodLink RL 74 yX5_failure, Cond.instanceMethod yX5_failure, Cond.selects RX5 yX5_failure yX5_failure, Cond.code yX5_failure cX5_failure 7 (some .int), Cond.methodLink RX5 212 yX5_failing, Cond.instanceMethod yX5_failing, Cond.selects RX5 yX5_failing yX5_failing, Cond.code yX5_failing cX5_failing 5 (some .int), Cond.methodLink RL 75 yX4_covered, Cond.instanceMethod yX4_covered, Cond.selects RX4 yX4_covered yX4_covered, Cond.code yX4_covered cX4_covered 2 (some .int), Cond.methodLink RL 78 yX5_covered, Cond.instanceMethod yX5_covered, Cond.selects RX5 yX5_covered yX5_covered, Cond.code yX5_covered cX5_covered 2 (some .int), Cond.methodLink RL 79 yX4_count, Cond.instanceMethod yX4_count]
def wsL_law_r22 : List Cond := [Cond.selects RX4 yX4_count yX4_count, Cond.code yX4_count cX4_count 2 (some .int), Cond.methodLink RL 82 yX5_count, Cond.instanceMethod yX5_count, Cond.selects RX5 yX5_count yX5_count, Cond.code yX5_count cX5_count 4 (some .int), Cond.methodLink RX5 215 yX5_failures, Cond.instanceMethod yX5_failures, Cond.selects RX5 yX5_failures yX5_failures, Cond.code yX5_failures cX5_failures 4 (some .int)]
def wsL_law : List Cond := (wsL_law_r1 ++ (wsL_law_r2 ++ (wsL_law_r3 ++ (wsL_law_r4 ++ (wsL_law_r5 ++ (wsL_law_r6 ++ (wsL_law_r7 ++ (wsL_law_r8 ++ (wsL_law_r9 ++ (wsL_law_r10 ++ (wsL_law_r11 ++ (wsL_law_r12 ++ (wsL_law_r13 ++ (wsL_law_r14 ++ (wsL_law_r15 ++ (wsL_law_r16 ++ (wsL_law_r17 ++ (wsL_law_r18 ++ (wsL_law_r19 ++ (wsL_law_r20 ++ (wsL_law_r21 ++ wsL_law_r22))))))))))))))))))))) ++ wsX40 ++ wsX50 ++ wsX30 ++ wsX00 ++ wsX10 ++ wsX20 ++ ([] : List Cond)
set_option maxRecDepth 20000 in
theorem wsL_law_in : ∀ w ∈ wsL_law, w ∈ lw_tbl := fun w h => (goodIn_p wsL_law [43, 46, 51, 104, 111, 176, 504, 255, 259, 263, 267, 631, 635, 271, 275, 279, 282, 286, 289, 293, 296, 639, 643, 646, 650, 653, 300, 304, 657, 308, 312, 316, 321, 325, 329, 332, 335, 339, 343, 347, 350, 354, 358, 362, 366, 370, 374, 378, 381, 385, 389, 393, 397, 402, 661, 665, 669, 672, 676, 680, 683, 686, 690, 695, 699, 703, 707, 710, 407, 411, 414, 714, 718, 421, 424, 427, 722, 432, 436, 441, 726, 730, 445, 734, 450, 455, 459, 738, 464, 742, 468, 472, 746, 476, 750, 481, 754, 486, 490, 758, 762, 495, 766, 499, 770, 774] (by decide +kernel) (by decide +kernel) w h).1
theorem inlX0 : ∀ w ∈ wsX00, w ∈ wsL_law := fun _ h => List.mem_append_left _ (List.mem_append_left _ (List.mem_append_left _ (List.mem_append_right _ h)))
theorem inX0 : ∀ w ∈ wsX00, w ∈ lw_tbl := fun w h => wsL_law_in w (inlX0 w h)
theorem inlX1 : ∀ w ∈ wsX10, w ∈ wsL_law := fun _ h => List.mem_append_left _ (List.mem_append_left _ (List.mem_append_right _ h))
theorem inX1 : ∀ w ∈ wsX10, w ∈ lw_tbl := fun w h => wsL_law_in w (inlX1 w h)
theorem inlX2 : ∀ w ∈ wsX20, w ∈ wsL_law := fun _ h => List.mem_append_left _ (List.mem_append_right _ h)
theorem inX2 : ∀ w ∈ wsX20, w ∈ lw_tbl := fun w h => wsL_law_in w (inlX2 w h)
theorem inlX3 : ∀ w ∈ wsX30, w ∈ wsL_law := fun _ h => List.mem_append_left _ (List.mem_append_left _ (List.mem_append_left _ (List.mem_append_left _ (List.mem_append_right _ h))))
theorem inX3 : ∀ w ∈ wsX30, w ∈ lw_tbl := fun w h => wsL_law_in w (inlX3 w h)
theorem inlX4 : ∀ w ∈ wsX40, w ∈ wsL_law := fun _ h => List.mem_append_left _ (List.mem_append_left _ (List.mem_append_left _ (List.mem_append_left _ (List.mem_append_left _ (List.mem_append_left _ (List.mem_append_right _ h))))))
theorem inX4 : ∀ w ∈ wsX40, w ∈ lw_tbl := fun w h => wsL_law_in w (inlX4 w h)
theorem inlX5 : ∀ w ∈ wsX50, w ∈ wsL_law := fun _ h => List.mem_append_left _ (List.mem_append_left _ (List.mem_append_left _ (List.mem_append_left _ (List.mem_append_left _ (List.mem_append_right _ h)))))
theorem inX5 : ∀ w ∈ wsX50, w ∈ lw_tbl := fun w h => wsL_law_in w (inlX5 w h)
theorem inJ13 : ∀ w ∈ wsJ130, w ∈ lw_tbl := by decide +kernel
theorem inJ7 : ∀ w ∈ wsJ70, w ∈ lw_tbl := by decide +kernel
