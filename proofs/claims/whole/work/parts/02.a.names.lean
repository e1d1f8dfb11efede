/-! ===== BEGIN words of one list among another's, by their places ===== -/
theorem goodIn_r {big : List Cond} (ws : List Cond) (ps : List Nat) (hp : ws = ps.filterMap (fun i => big[i]?)) (h : ws.all goodWord = true) : GoodIn big ws := by
  intro w hw
  have h1 := List.all_eq_true.mp h w hw
  rw [hp] at hw
  obtain ⟨i, -, hi⟩ := List.mem_filterMap.mp hw
  have hm : w ∈ big := by first | exact List.mem_of_getElem? hi | exact List.getElem?_mem hi
  exact ⟨hm, good_of_word h1⟩
theorem goodIn_app {big a b : List Cond} (ha : GoodIn big a) (hb : GoodIn big b) : GoodIn big (a ++ b) := fun w h => (List.mem_append.mp h).elim (ha w) (hb w)
theorem goodIn_ca {big a b : List Cond} {c : Cond} (ha : GoodIn big (c :: a)) (hb : GoodIn big b) : GoodIn big (c :: (a ++ b)) := fun w h => (List.mem_cons.mp h).elim (fun e => ha w (List.mem_cons.mpr (Or.inl e))) (fun h => (List.mem_append.mp h).elim (fun h => ha w (List.mem_cons.mpr (Or.inr h))) (hb w))
theorem goodIn_sub {big ws : List Cond} (hm : ∀ w ∈ ws, w ∈ big) (h : ws.all goodWord = true) : GoodIn big ws := fun w hw => ⟨hm w hw, good_of_word (List.all_eq_true.mp h w hw)⟩
/-! ===== END ===== -/

/-! ===== BEGIN new T[n][m]: the outer array a place, the inner ones among the pooled ===== -/
/-- f, but v at every address of l -/
def vr_up {α : Type} (f : Nat → α) (l : List Nat) (v : α) : Nat → α := fun a => if a ∈ l then v else f a
theorem vr_up_in {α : Type} {f : Nat → α} {l : List Nat} {v : α} {a : Nat} (h : a ∈ l) : vr_up f l v a = v := if_pos h
theorem vr_up_ne {α : Type} {f : Nat → α} {l : List Nat} {v : α} {a : Nat} (h : a ∉ l) : vr_up f l v a = f a := if_neg h
theorem vr_rows {L l : List Nat} {f : Nat → va_E} {e : va_E} (h : ∀ a, a ∈ l → a ∉ L) : va_pl L f ++ l.map (fun a => (a, e)) = va_pl (L ++ l) (vr_up f l e) := by
  unfold va_pl
  rw [List.map_append]
  congr 1
  · apply List.map_congr_left
    intro a ha
    rw [vr_up_ne (fun q => h a q ha)]
  · apply List.map_congr_left
    intro a ha
    rw [vr_up_in ha]
theorem vr_lay {X rows : va_W} {x : Nat × va_E} {pl : va_W} {D : va_G} {cl : List vw_C} {H : Heap} (hP : va_P D cl (((X ++ pl) ++ [x]) ++ rows) H) : va_P D cl ((X ++ [x]) ++ (pl ++ rows)) H := by
  rw [List.append_assoc (X ++ pl)] at hP
  have h := va_P.swap hP
  rw [← List.append_assoc X] at h
  have h2 := va_P.swap h
  rw [List.append_assoc (X ++ [x])] at h2
  exact h2
theorem vr_layD {X rows : va_W} {x : Nat × va_E} {pl : va_W} {A : Nat → Prop} (hD : va_D A (((X ++ pl) ++ [x]) ++ rows)) : va_D A ((X ++ [x]) ++ (pl ++ rows)) := by
  rw [List.append_assoc (X ++ pl)] at hD
  have h := va_D.swap hD
  rw [← List.append_assoc X] at h
  have h2 := va_D.swap h
  rw [List.append_assoc (X ++ [x])] at h2
  exact h2
theorem vr_outer (c : ClassId) (N h0 : Nat) : ∀ i : Nat, Jvm.Free.Multi.outerC c N h0 i = arrV c N (fun j => va_rf (if j < i then some (h0 + 1 + j) else none))
  | 0 => by
    show ({ cls := c, slots := Array.replicate N .null, vm := .none } : Cell) = _
    rw [arrV_new]
    refine congrArg (arrV c N) (funext fun j => ?_)
    simp [va_rf]
  | i + 1 => by
    show (Jvm.Free.Multi.outerC c N h0 i).setSlot i (.ref (h0 + 1 + i)) = _
    rw [vr_outer c N h0 i, arrV_store]
    refine congrArg (arrV c N) (funext fun j => ?_)
    by_cases e : j = i
    · subst e
      simp [updV, va_rf]
    · by_cases h : j < i
      · simp [updV, e, h, Nat.lt_succ_of_lt h]
      · simp [updV, e, h, show ¬ j < i + 1 by omega]
section VGM
variable {p : Program} {l : Launch} {e : Env} {R : Room} {s : State} {m : MethodId} {args : Array Value} {below : List Frame} {meth : Method} {c : Code} {H : Heap} {locs : List Loc} {cells slots : Nat} {Q : State → Prop}
variable {cc : ByteArray} {pc : Nat} {ls : Array Slot} {rest : List Value} {D : va_G} {cl : List vw_C} {A : Nat → Prop} {a : Nat} {tys : List (ClassId × FieldType)} {ws : va_W} {H0 : Heap}
theorem va_mna {X : va_W} {L : List Nat} {f : Nat → va_E} {cc : ByteArray} (hexec : p.tables.exec = Jvm.exec) (hb : c.code = cc) {own : String} {index : Nat} {ty : FieldType} {cy : ClassId} (hown : s.vm.findClass own = some m.cls) (hclink : (Cond.classLink own index ("[" ++ (FieldType.array ty).toString)).before args s = true) (hover : va_AOA ty s) (harr : (Cond.arrayClass ty).before args s = true) (hcy : s.vm.findClass (FieldType.array ty).toString = some cy)
    (hK : va_K D cl tys s) (hP : va_P D cl (X ++ va_pl L f) H) (hD : va_D A (X ++ va_pl L f)) (hS : va_S A H0 H locs) (hA : ∀ q, H0.size ≤ q → A q) {n k : Int32} {N' K' : Nat} {z : vp_A} (hn : ¬ n < 0) (hk : ¬ k < 0) (hN : n.toNatClampNeg = N') (hM : k.toNatClampNeg = K')
    (hb1 : N' * 4 ≤ 536870912) (hb2 : K' * componentBytes ty ≤ 536870912) (hb3 : K' ≤ 536870912) (hdf : fits ty (defaultValue ty) = true) (hdd : (defaultValue ty).isDefault = true) (hcells : cells + (1 + N') ≤ R.cells) (hslots : slots + (N' + N' * K') ≤ R.slots) (hz : ∀ c : ClassId, Jvm.Free.Multi.innerC c K' (defaultValue ty) = vp_cell c z) (hdg : decode cc pc = .ok (.multianewarray index 2, 4))
    (kk : ∀ (q : Nat) (r : Nat → Nat) (cA : ClassId) (H1 : Heap), (∀ i j : Nat, i < N' → j < N' → r i = r j → i = j) → (∀ i : Nat, i < N' → r i ∉ L) → va_K D cl (tys ++ [(cA, .array ty)]) s →
      va_P D cl ((X ++ [(q, .inl (cA, N', .inr (.inr (.inr (.inr (fun i => if i < N' then some (r i) else none))))))]) ++ va_pl (L ++ (List.range N').map r) (vr_up f ((List.range N').map r) (.inl (cy, z)))) H1 → va_D A ((X ++ [(q, .inl (cA, N', .inr (.inr (.inr (.inr (fun i => if i < N' then some (r i) else none))))))]) ++ va_pl (L ++ (List.range N').map r) (vr_up f ((List.range N').map r) (.inl (cy, z)))) → va_S A H0 H1 locs →
      W p l e R s m args below meth c H1 locs (cells + 1 + N') (slots + N' + N' * K') Q (F0 m (pc + 4) ls (.ref q :: rest))) : W p l e R s m args below meth c H locs cells slots Q (F0 m pc ls (.int k :: .int n :: rest)) := by
  subst hN
  subst hM
  intro T hT Xs
  obtain ⟨vm₁, cA, comp, -, fA, fC, hO, -, X', step⟩ := Xs.multianewarray2F hexec hown hclink (va_AOA.use hover) harr (g := F0 m pc ls (.int k :: .int n :: rest)) rfl (by rw [hb]; exact hdg) rfl hn hk hb1 hb2 hb3 hdf hdd hcells hslots
  have ec : some cy = some comp := hcy.symm.trans fC
  cases ec
  generalize hF : Jvm.Free.Multi.fill (T.setVm vm₁) cA cy n.toNatClampNeg k.toNatClampNeg (defaultValue ty) n.toNatClampNeg = F at X' step
  have hTh : (T.setVm vm₁).heap = H := hT
  obtain ⟨f1, f2, -, -⟩ := Jvm.Free.Multi.fill_facts (T.setVm vm₁) cA cy n.toNatClampNeg k.toNatClampNeg (defaultValue ty) n.toNatClampNeg
  rw [hF, hTh] at f1 f2
  have hold : ∀ x : Nat, x < H.size → F.heap[x]? = H[x]? := fun x hx => by
    have := Jvm.Free.Multi.fill_old (T.setVm vm₁) cA cy n.toNatClampNeg k.toNatClampNeg (defaultValue ty) (a := x) (by rw [hTh]; exact hx) n.toNatClampNeg
    rw [hF, hTh] at this
    exact this
  have hrow : ∀ j : Nat, j < n.toNatClampNeg → F.heap[H.size + 1 + j]? = some (vp_cell cy z) := fun j hj => by
    have := Jvm.Free.Multi.fill_inner (T.setVm vm₁) cA cy n.toNatClampNeg k.toNatClampNeg (defaultValue ty) n.toNatClampNeg j hj
    rw [hF, hTh, hz] at this
    exact this
  have hout : Jvm.Free.Multi.outerC cA n.toNatClampNeg H.size n.toNatClampNeg = vp_cell cA (n.toNatClampNeg, .inr (.inr (.inr (.inr (fun i => if i < n.toNatClampNeg then some (H.size + 1 + i) else none))))) := by
    rw [vp_cell_q]
    exact vr_outer cA n.toNatClampNeg H.size n.toNatClampNeg
  rw [hout] at f2
  have hlt : ∀ a, a ∈ L → a < H.size := fun a ha => by
    obtain ⟨k9, hk9⟩ := va_pl_get (X := X) (f := f) ha
    exact (hP k9 _ hk9).lt
  have hnl : ∀ i : Nat, i < n.toNatClampNeg → H.size + 1 + i ∉ L := fun i _ h => by
    have := hlt _ h
    omega
  have hnm : ∀ a, a ∈ (List.range n.toNatClampNeg).map (fun i => H.size + 1 + i) → a ∉ L := fun a ha h => by
    obtain ⟨i, -, rfl⟩ := List.mem_map.mp ha
    have := hlt _ h
    omega
  have hP0 : va_P D cl (X ++ va_pl L f) F.heap := hP.kept (fun k9 x hx => hold x.1 ((hP k9 x hx).lt))
  have hP1 : va_P D cl ((X ++ va_pl L f) ++ [(H.size, .inl (cA, n.toNatClampNeg, .inr (.inr (.inr (.inr (fun i => if i < n.toNatClampNeg then some (H.size + 1 + i) else none))))))]) F.heap := hP0.app (fun k9 x hx => by
    have h0 : k9 < 1 := (List.getElem?_eq_some_iff.mp hx).1
    rw [show k9 = 0 by omega] at hx
    cases hx
    exact f2)
  have hP2 : va_P D cl (((X ++ va_pl L f) ++ [(H.size, .inl (cA, n.toNatClampNeg, .inr (.inr (.inr (.inr (fun i => if i < n.toNatClampNeg then some (H.size + 1 + i) else none))))))]) ++ ((List.range n.toNatClampNeg).map (fun i => H.size + 1 + i)).map (fun a => (a, .inl (cy, z)))) F.heap := hP1.app (fun k9 x hx => by
    obtain ⟨a, ha, rfl⟩ := List.mem_map.mp (List.mem_of_getElem? hx)
    obtain ⟨i, hi, rfl⟩ := List.mem_map.mp ha
    exact hrow i (List.mem_range.mp hi))
  have hD2 : va_D A (((X ++ va_pl L f) ++ [(H.size, .inl (cA, n.toNatClampNeg, .inr (.inr (.inr (.inr (fun i => if i < n.toNatClampNeg then some (H.size + 1 + i) else none))))))]) ++ ((List.range n.toNatClampNeg).map (fun i => H.size + 1 + i)).map (fun a => (a, .inl (cy, z)))) := by
    have hD1 := hD.push (e := .inl (cA, n.toNatClampNeg, .inr (.inr (.inr (.inr (fun i => if i < n.toNatClampNeg then some (H.size + 1 + i) else none)))))) hP rfl (hA _ hS.1)
    generalize hW1 : (X ++ va_pl L f) ++ [(H.size, .inl (cA, n.toNatClampNeg, .inr (.inr (.inr (.inr (fun i => if i < n.toNatClampNeg then some (H.size + 1 + i) else none))))))] = W1 at hD1 hP1 ⊢
    have hle : ∀ (k9 : Nat) (x : Nat × va_E), W1[k9]? = some x → x.1 ≤ H.size := fun k9 x hx => by
      rw [← hW1] at hx
      by_cases hl : k9 < (X ++ va_pl L f).length
      · rw [List.getElem?_append_left hl] at hx
        exact Nat.le_of_lt ((hP k9 x hx).lt)
      · rw [List.getElem?_append_right (by omega)] at hx
        have h0 : k9 - (X ++ va_pl L f).length < 1 := (List.getElem?_eq_some_iff.mp hx).1
        rw [show k9 - (X ++ va_pl L f).length = 0 by omega] at hx
        cases hx
        exact Nat.le_refl _
    have hr : ∀ (k9 : Nat) (x : Nat × va_E), (((List.range n.toNatClampNeg).map (fun i => H.size + 1 + i)).map (fun a => ((a, .inl (cy, z)) : Nat × va_E)))[k9]? = some x → x.1 = H.size + 1 + k9 := fun k9 x hx => by
      rw [List.getElem?_map, List.getElem?_map] at hx
      by_cases h9 : k9 < n.toNatClampNeg
      · rw [List.getElem?_range h9] at hx
        cases hx
        rfl
      · have hn0 : (List.range n.toNatClampNeg)[k9]? = none := List.getElem?_eq_none (by rw [List.length_range]; omega)
        rw [hn0] at hx
        cases hx
    refine ⟨fun i j x y hi hj hxy => ?_, fun k9 x hx => ?_⟩
    · by_cases h1 : i < W1.length <;> by_cases h2 : j < W1.length
      · rw [List.getElem?_append_left h1] at hi
        rw [List.getElem?_append_left h2] at hj
        exact hD1.1 i j x y hi hj hxy
      · rw [List.getElem?_append_left h1] at hi
        rw [List.getElem?_append_right (by omega)] at hj
        have := hle _ _ hi
        have := hr _ _ hj
        omega
      · rw [List.getElem?_append_right (by omega)] at hi
        rw [List.getElem?_append_left h2] at hj
        have := hle _ _ hj
        have := hr _ _ hi
        omega
      · rw [List.getElem?_append_right (by omega)] at hi hj
        have := hr _ _ hi
        have := hr _ _ hj
        omega
    · by_cases h1 : k9 < W1.length
      · rw [List.getElem?_append_left h1] at hx
        exact hD1.2 k9 x hx
      · rw [List.getElem?_append_right (by omega)] at hx
        have := hr _ _ hx
        exact hA _ (by have := hS.1; omega)
  have hAr : ArrOfT s cA (.array ty) := fun N9 z9 => by
    obtain ⟨-, k9, hk9, cm9, hkk9⟩ := (hO 0 0 0).1
    exact ⟨(fun q hq => by cases hq), k9, hk9, cm9, hkk9⟩
  have hK2 : va_K D cl (tys ++ [(cA, .array ty)]) s := ⟨hK.1, fun k9 x hx => by
    by_cases hl : k9 < tys.length
    · rw [List.getElem?_append_left hl] at hx
      exact hK.2 k9 x hx
    · rw [List.getElem?_append_right (by omega)] at hx
      have h0 : k9 - tys.length < 1 := (List.getElem?_eq_some_iff.mp hx).1
      rw [show k9 - tys.length = 0 by omega] at hx
      cases hx
      exact ⟨hAr, fA⟩⟩
  obtain ⟨t, a1, b1⟩ := kk H.size (fun i => H.size + 1 + i) cA F.heap (fun i j _ _ h => by have h9 : H.size + 1 + i = H.size + 1 + j := h; omega) hnl hK2 (by rw [← vr_rows hnm]; exact vr_lay hP2) (by rw [← vr_rows hnm]; exact vr_layD hD2) ⟨by rw [f1]; have := hS.1; omega, fun x h1 h2 => (hold x (Nat.lt_of_lt_of_le h1 hS.1)).trans (hS.2.1 x h1 h2), hS.2.2⟩ F rfl X'
  refine ⟨t, step t ?_, b1⟩
  have e : T.heap.size = H.size := by rw [hT]
  rw [e]
  exact a1
end VGM
/-! ===== END ===== -/

/-! ===== BEGIN printed: names, fields, word lists, decode rows ===== -/
def RX0 : String := "SymbolBench$Atlas"
def TX0 : u_T := fun k => match k with
  | 0 => ("SymbolBench$Atlas", "paths", "[LSymbolBench$Path;", true)
  | 1 => ("SymbolBench$Atlas", "onesOfWord", "[J", true)
  | 2 => ("SymbolBench$Atlas", "resultOfWord", "[I", true)
  | 3 => ("SymbolBench$Atlas", "size", "I", false)
  | 4 => ("SymbolBench$Atlas", "visited", "J", false)
  | _ => ("SymbolBench$Atlas", "failed", "J", false)
def tyX0 : Nat → FieldType := fun k => match k with
  | 0 => .array (.object "SymbolBench$Path")
  | 1 => .array .long
  | 2 => .array .int
  | 3 => .int
  | 4 => .long
  | _ => .long
abbrev wsX00 : List Cond := u_ws RX0 TX0 6
theorem nmX0 : ∀ a, a < 6 → ∀ b, b < 6 → a ≠ b → (TX0 a).2.1 ≠ (TX0 b).2.1 := by decide +kernel
theorem tyX0_ok : ∀ k, k < 6 → parseFieldDescriptor (TX0 k).2.2.1 = some (tyX0 k) := by decide +kernel
abbrev cX0_init : ByteArray := prog_2_method_1_code
def yX0_init : MethodName := ⟨RX0, "<init>", "()V"⟩
abbrev cX0_forget : ByteArray := prog_2_method_2_code
def yX0_forget : MethodName := ⟨RX0, "forget", "()V"⟩
abbrev cX0_isKnown : ByteArray := prog_2_method_3_code
def yX0_isKnown : MethodName := ⟨RX0, "isKnown", "()Z"⟩
abbrev cX0_knownOrNone : ByteArray := prog_2_method_4_code
def yX0_knownOrNone : MethodName := ⟨RX0, "knownOrNone", "(I)I"⟩
abbrev cX0_pathAt : ByteArray := prog_2_method_5_code
def yX0_pathAt : MethodName := ⟨RX0, "pathAt", "(I)LSymbolBench$Path;"⟩
abbrev cX0_survey : ByteArray := prog_2_method_6_code
def yX0_survey : MethodName := ⟨RX0, "survey", "(LSymbolBench$Program;LSymbolBench$Machine;)V"⟩
abbrev cX0_enter : ByteArray := prog_2_method_7_code
def yX0_enter : MethodName := ⟨RX0, "enter", "(LSymbolBench$Machine;I)Z"⟩
abbrev cX0_firstNotAheadOf : ByteArray := prog_2_method_8_code
def yX0_firstNotAheadOf : MethodName := ⟨RX0, "firstNotAheadOf", "(J)I"⟩
abbrev cX0_insertAt : ByteArray := prog_2_method_9_code
def yX0_insertAt : MethodName := ⟨RX0, "insertAt", "(I)LSymbolBench$Path;"⟩
abbrev cX0_numberOf : ByteArray := prog_2_method_10_code
def yX0_numberOf : MethodName := ⟨RX0, "numberOf", "(J)I"⟩
abbrev cX0_goes : ByteArray := prog_2_method_11_code
def yX0_goes : MethodName := ⟨RX0, "goes", "(LSymbolBench$Path;I)Z"⟩
abbrev cX0_leastWordWith : ByteArray := prog_2_method_12_code
def yX0_leastWordWith : MethodName := ⟨RX0, "leastWordWith", "(LSymbolBench$Path;III)I"⟩
abbrev cX0_isWanted : ByteArray := prog_2_method_13_code
def yX0_isWanted : MethodName := ⟨RX0, "isWanted", "(III)Z"⟩
abbrev cX0_firstFailing : ByteArray := prog_2_method_14_code
def yX0_firstFailing : MethodName := ⟨RX0, "firstFailing", "(I)LSymbolBench$Path;"⟩
def RX1 : String := "SymbolBench$Machine"
def TX1 : u_T := fun k => match k with
  | 0 => ("SymbolBench$Machine", "registers", "[I", true)
  | 1 => ("SymbolBench$Machine", "cells", "[I", true)
  | 2 => ("SymbolBench$Machine", "isGuided", "Z", false)
  | 3 => ("SymbolBench$Machine", "guidingOnes", "J", false)
  | 4 => ("SymbolBench$Machine", "place", "I", false)
  | 5 => ("SymbolBench$Machine", "placeMark", "J", false)
  | 6 => ("SymbolBench$Machine", "visited", "J", false)
  | 7 => ("SymbolBench$Machine", "decided", "J", false)
  | 8 => ("SymbolBench$Machine", "ones", "J", false)
  | 9 => ("SymbolBench$Machine", "hasEnded", "Z", false)
  | 10 => ("SymbolBench$Machine", "end", "I", false)
  | _ => ("SymbolBench$Machine", "result", "I", false)
def tyX1 : Nat → FieldType := fun k => match k with
  | 0 => .array .int
  | 1 => .array .int
  | 2 => .boolean
  | 3 => .long
  | 4 => .int
  | 5 => .long
  | 6 => .long
  | 7 => .long
  | 8 => .long
  | 9 => .boolean
  | 10 => .int
  | _ => .int
abbrev wsX10 : List Cond := u_ws RX1 TX1 12
theorem nmX1 : ∀ a, a < 12 → ∀ b, b < 12 → a ≠ b → (TX1 a).2.1 ≠ (TX1 b).2.1 := by decide +kernel
theorem tyX1_ok : ∀ k, k < 12 → parseFieldDescriptor (TX1 k).2.2.1 = some (tyX1 k) := by decide +kernel
abbrev cX1_init : ByteArray := prog_3_method_1_code
def yX1_init : MethodName := ⟨RX1, "<init>", "()V"⟩
abbrev cX1_execute : ByteArray := prog_3_method_2_code
def yX1_execute : MethodName := ⟨RX1, "execute", "(LSymbolBench$Program;ILSymbolBench$Path;)V"⟩
abbrev cX1_begin : ByteArray := prog_3_method_3_code
def yX1_begin : MethodName := ⟨RX1, "begin", "(LSymbolBench$Path;)V"⟩
abbrev cX1_stop : ByteArray := prog_3_method_4_code
def yX1_stop : MethodName := ⟨RX1, "stop", "(II)V"⟩
abbrev cX1_decide : ByteArray := prog_3_method_5_code
def yX1_decide : MethodName := ⟨RX1, "decide", "(Z)Z"⟩
abbrev cX1_step : ByteArray := prog_3_method_6_code
def yX1_step : MethodName := ⟨RX1, "step", "(LSymbolBench$Program;I)I"⟩
abbrev cX1_calculate : ByteArray := prog_3_method_7_code
def yX1_calculate : MethodName := ⟨RX1, "calculate", "(IIII)V"⟩
abbrev cX1_load : ByteArray := prog_3_method_8_code
def yX1_load : MethodName := ⟨RX1, "load", "(II)V"⟩
abbrev cX1_store : ByteArray := prog_3_method_9_code
def yX1_store : MethodName := ⟨RX1, "store", "(II)V"⟩
abbrev cX1_stopUnlessTrue : ByteArray := prog_3_method_10_code
def yX1_stopUnlessTrue : MethodName := ⟨RX1, "stopUnlessTrue", "(I)V"⟩
def RX2 : String := "SymbolBench$Path"
def TX2 : u_T := fun k => match k with
  | 0 => ("SymbolBench$Path", "decided", "J", false)
  | 1 => ("SymbolBench$Path", "ones", "J", false)
  | 2 => ("SymbolBench$Path", "end", "I", false)
  | 3 => ("SymbolBench$Path", "endPlace", "I", false)
  | 4 => ("SymbolBench$Path", "leastWord", "I", false)
  | 5 => ("SymbolBench$Path", "result", "I", false)
  | _ => ("SymbolBench$Path", "alwaysSameResult", "Z", false)
def tyX2 : Nat → FieldType := fun k => match k with
  | 0 => .long
  | 1 => .long
  | 2 => .int
  | 3 => .int
  | 4 => .int
  | 5 => .int
  | _ => .boolean
abbrev wsX20 : List Cond := u_ws RX2 TX2 7
theorem nmX2 : ∀ a, a < 7 → ∀ b, b < 7 → a ≠ b → (TX2 a).2.1 ≠ (TX2 b).2.1 := by decide +kernel
theorem tyX2_ok : ∀ k, k < 7 → parseFieldDescriptor (TX2 k).2.2.1 = some (tyX2 k) := by decide +kernel
abbrev cX2_init : ByteArray := prog_4_method_1_code
def yX2_init : MethodName := ⟨RX2, "<init>", "()V"⟩
abbrev cX2_take : ByteArray := prog_4_method_2_code
def yX2_take : MethodName := ⟨RX2, "take", "(LSymbolBench$Machine;I)V"⟩
def RX3 : String := "SymbolBench$Program"
def TX3 : u_T := fun k => match k with
  | 0 => ("SymbolBench$Program", "widths", "[I", true)
  | 1 => ("SymbolBench$Program", "reaches", "[I", true)
  | 2 => ("SymbolBench$Program", "signs", "[Z", true)
  | 3 => ("SymbolBench$Program", "inputs", "I", false)
  | 4 => ("SymbolBench$Program", "bits", "I", false)
  | 5 => ("SymbolBench$Program", "numbers", "[I", true)
  | 6 => ("SymbolBench$Program", "firsts", "[I", true)
  | 7 => ("SymbolBench$Program", "seconds", "[I", true)
  | 8 => ("SymbolBench$Program", "thirds", "[I", true)
  | 9 => ("SymbolBench$Program", "size", "I", false)
  | 10 => ("SymbolBench$Program", "multiplications", "I", false)
  | _ => ("SymbolBench$Program", "divisions", "I", false)
def tyX3 : Nat → FieldType := fun k => match k with
  | 0 => .array .int
  | 1 => .array .int
  | 2 => .array .boolean
  | 3 => .int
  | 4 => .int
  | 5 => .array .int
  | 6 => .array .int
  | 7 => .array .int
  | 8 => .array .int
  | 9 => .int
  | 10 => .int
  | _ => .int
abbrev wsX30 : List Cond := u_ws RX3 TX3 12
theorem nmX3 : ∀ a, a < 12 → ∀ b, b < 12 → a ≠ b → (TX3 a).2.1 ≠ (TX3 b).2.1 := by decide +kernel
theorem tyX3_ok : ∀ k, k < 12 → parseFieldDescriptor (TX3 k).2.2.1 = some (tyX3 k) := by decide +kernel
abbrev cX3_init : ByteArray := prog_5_method_1_code
def yX3_init : MethodName := ⟨RX3, "<init>", "()V"⟩
abbrev cX3_empty : ByteArray := prog_5_method_2_code
def yX3_empty : MethodName := ⟨RX3, "empty", "()V"⟩
abbrev cX3_addInput : ByteArray := prog_5_method_3_code
def yX3_addInput : MethodName := ⟨RX3, "addInput", "(IZ)I"⟩
abbrev cX3_addInstruction : ByteArray := prog_5_method_4_code
def yX3_addInstruction : MethodName := ⟨RX3, "addInstruction", "(IIII)I"⟩
abbrev cX3_fits : ByteArray := prog_5_method_5_code
def yX3_fits : MethodName := ⟨RX3, "fits", "(IIII)Z"⟩
abbrev cX3_takesThreeRegisters : ByteArray := prog_5_method_6_code
def yX3_takesThreeRegisters : MethodName := ⟨RX3, "takesThreeRegisters", "(I)Z"⟩
abbrev cX3_isTarget : ByteArray := prog_5_method_7_code
def yX3_isTarget : MethodName := ⟨RX3, "isTarget", "(I)Z"⟩
abbrev cX3_wouldBeTooMany : ByteArray := prog_5_method_8_code
def yX3_wouldBeTooMany : MethodName := ⟨RX3, "wouldBeTooMany", "(I)Z"⟩
abbrev cX3_words : ByteArray := prog_5_method_9_code
def yX3_words : MethodName := ⟨RX3, "words", "()I"⟩
abbrev cX3_hasWord : ByteArray := prog_5_method_10_code
def yX3_hasWord : MethodName := ⟨RX3, "hasWord", "(I)Z"⟩
abbrev cX3_inputIn : ByteArray := prog_5_method_11_code
def yX3_inputIn : MethodName := ⟨RX3, "inputIn", "(II)I"⟩
def RX4 : String := "SymbolBench"
def TX4 : u_T := fun k => match k with
  | 0 => ("SymbolBench", "program", "LSymbolBench$Program;", true)
  | 1 => ("SymbolBench", "atlas", "LSymbolBench$Atlas;", true)
  | 2 => ("SymbolBench", "prober", "LSymbolBench$Machine;", true)
  | 3 => ("SymbolBench", "runner", "LSymbolBench$Machine;", true)
  | 4 => ("SymbolBench", "hasRun", "Z", false)
  | _ => ("SymbolBench", "changedSinceRun", "Z", false)
def tyX4 : Nat → FieldType := fun k => match k with
  | 0 => .object "SymbolBench$Program"
  | 1 => .object "SymbolBench$Atlas"
  | 2 => .object "SymbolBench$Machine"
  | 3 => .object "SymbolBench$Machine"
  | 4 => .boolean
  | _ => .boolean
abbrev wsX40 : List Cond := u_ws RX4 TX4 6
theorem nmX4 : ∀ a, a < 6 → ∀ b, b < 6 → a ≠ b → (TX4 a).2.1 ≠ (TX4 b).2.1 := by decide +kernel
theorem tyX4_ok : ∀ k, k < 6 → parseFieldDescriptor (TX4 k).2.2.1 = some (tyX4 k) := by decide +kernel
abbrev cX4_init : ByteArray := prog_1_method_1_code
def yX4_init : MethodName := ⟨RX4, "<init>", "()V"⟩
abbrev cX4_input : ByteArray := prog_1_method_2_code
def yX4_input : MethodName := ⟨RX4, "input", "(IZ)I"⟩
abbrev cX4_tell : ByteArray := prog_1_method_3_code
def yX4_tell : MethodName := ⟨RX4, "tell", "(IIII)I"⟩
abbrev cX4_clear : ByteArray := prog_1_method_4_code
def yX4_clear : MethodName := ⟨RX4, "clear", "()I"⟩
abbrev cX4_explore : ByteArray := prog_1_method_5_code
def yX4_explore : MethodName := ⟨RX4, "explore", "()I"⟩
abbrev cX4_path : ByteArray := prog_1_method_6_code
def yX4_path : MethodName := ⟨RX4, "path", "(II)I"⟩
abbrev cX4_decision : ByteArray := prog_1_method_7_code
def yX4_decision : MethodName := ⟨RX4, "decision", "(II)I"⟩
abbrev cX4_holds : ByteArray := prog_1_method_8_code
def yX4_holds : MethodName := ⟨RX4, "holds", "(II)I"⟩
abbrev cX4_value : ByteArray := prog_1_method_9_code
def yX4_value : MethodName := ⟨RX4, "value", "(II)I"⟩
abbrev cX4_find : ByteArray := prog_1_method_10_code
def yX4_find : MethodName := ⟨RX4, "find", "(III)I"⟩
abbrev cX4_run : ByteArray := prog_1_method_11_code
def yX4_run : MethodName := ⟨RX4, "run", "(I)I"⟩
abbrev cX4_ran : ByteArray := prog_1_method_12_code
def yX4_ran : MethodName := ⟨RX4, "ran", "(I)I"⟩
abbrev cX4_register : ByteArray := prog_1_method_13_code
def yX4_register : MethodName := ⟨RX4, "register", "(I)I"⟩
abbrev cX4_cell : ByteArray := prog_1_method_14_code
def yX4_cell : MethodName := ⟨RX4, "cell", "(I)I"⟩
abbrev cX4_failure : ByteArray := prog_1_method_15_code
def yX4_failure : MethodName := ⟨RX4, "failure", "(II)I"⟩
abbrev cX4_covered : ByteArray := prog_1_method_16_code
def yX4_covered : MethodName := ⟨RX4, "covered", "(I)I"⟩
abbrev cX4_count : ByteArray := prog_1_method_17_code
def yX4_count : MethodName := ⟨RX4, "count", "(I)I"⟩
abbrev cX4_forgetFindings : ByteArray := prog_1_method_18_code
def yX4_forgetFindings : MethodName := ⟨RX4, "forgetFindings", "()V"⟩
abbrev cX4_mark : ByteArray := prog_1_method_19_code
def yX4_mark : MethodName := ⟨RX4, "mark", "(I)J"⟩
abbrev cX4_isMarked : ByteArray := prog_1_method_20_code
def yX4_isMarked : MethodName := ⟨RX4, "isMarked", "(JI)Z"⟩
abbrev cX4_placeOfMark : ByteArray := prog_1_method_21_code
def yX4_placeOfMark : MethodName := ⟨RX4, "placeOfMark", "(JI)I"⟩
abbrev cX4_isBelowUnsigned : ByteArray := prog_1_method_22_code
def yX4_isBelowUnsigned : MethodName := ⟨RX4, "isBelowUnsigned", "(II)Z"⟩
abbrev cX4_combine : ByteArray := prog_1_method_23_code
def yX4_combine : MethodName := ⟨RX4, "combine", "(III)I"⟩
abbrev cX4_divide : ByteArray := prog_1_method_24_code
def yX4_divide : MethodName := ⟨RX4, "divide", "(III)I"⟩
abbrev cX4_isDivision : ByteArray := prog_1_method_25_code
def yX4_isDivision : MethodName := ⟨RX4, "isDivision", "(I)Z"⟩
abbrev cX4_isRegister : ByteArray := prog_1_method_26_code
def yX4_isRegister : MethodName := ⟨RX4, "isRegister", "(I)Z"⟩
abbrev cX4_isCell : ByteArray := prog_1_method_27_code
def yX4_isCell : MethodName := ⟨RX4, "isCell", "(I)Z"⟩
def RX5 : String := "SymbolBenchModel"
def TX5 : u_T := fun k => match k with
  | 0 => ("SymbolBenchModel", "thrown", "I", false)
  | 1 => ("SymbolBenchModel", "inputs", "I", false)
  | 2 => ("SymbolBenchModel", "bits", "I", false)
  | 3 => ("SymbolBenchModel", "size", "I", false)
  | 4 => ("SymbolBenchModel", "muls", "I", false)
  | 5 => ("SymbolBenchModel", "divisions", "I", false)
  | 6 => ("SymbolBenchModel", "wide", "[I", true)
  | 7 => ("SymbolBenchModel", "signed", "[Z", true)
  | 8 => ("SymbolBenchModel", "op", "[I", true)
  | 9 => ("SymbolBenchModel", "a", "[I", true)
  | 10 => ("SymbolBenchModel", "b", "[I", true)
  | 11 => ("SymbolBenchModel", "c", "[I", true)
  | 12 => ("SymbolBenchModel", "paths", "I", false)
  | 13 => ("SymbolBenchModel", "end", "[I", true)
  | 14 => ("SymbolBenchModel", "place", "[I", true)
  | 15 => ("SymbolBenchModel", "many", "[I", true)
  | 16 => ("SymbolBenchModel", "least", "[I", true)
  | 17 => ("SymbolBenchModel", "alike", "[Z", true)
  | 18 => ("SymbolBenchModel", "row", "[[I", true)
  | 19 => ("SymbolBenchModel", "of", "[I", true)
  | 20 => ("SymbolBenchModel", "result", "[I", true)
  | 21 => ("SymbolBenchModel", "met", "[Z", true)
  | 22 => ("SymbolBenchModel", "reg", "[I", true)
  | 23 => ("SymbolBenchModel", "cell", "[I", true)
  | 24 => ("SymbolBenchModel", "made", "[I", true)
  | 25 => ("SymbolBenchModel", "runEnd", "I", false)
  | 26 => ("SymbolBenchModel", "runPlace", "I", false)
  | 27 => ("SymbolBenchModel", "runResult", "I", false)
  | 28 => ("SymbolBenchModel", "runDone", "I", false)
  | 29 => ("SymbolBenchModel", "runMade", "I", false)
  | 30 => ("SymbolBenchModel", "ran", "Z", false)
  | 31 => ("SymbolBenchModel", "told", "I", false)
  | 32 => ("SymbolBenchModel", "toldEnd", "I", false)
  | 33 => ("SymbolBenchModel", "toldPlace", "I", false)
  | 34 => ("SymbolBenchModel", "toldResult", "I", false)
  | 35 => ("SymbolBenchModel", "toldDone", "I", false)
  | 36 => ("SymbolBenchModel", "toldMade", "I", false)
  | 37 => ("SymbolBenchModel", "toldReg", "[I", true)
  | 38 => ("SymbolBenchModel", "toldCell", "[I", true)
  | _ => ("SymbolBenchModel", "same", "Z", false)
def tyX5 : Nat → FieldType := fun k => match k with
  | 0 => .int
  | 1 => .int
  | 2 => .int
  | 3 => .int
  | 4 => .int
  | 5 => .int
  | 6 => .array .int
  | 7 => .array .boolean
  | 8 => .array .int
  | 9 => .array .int
  | 10 => .array .int
  | 11 => .array .int
  | 12 => .int
  | 13 => .array .int
  | 14 => .array .int
  | 15 => .array .int
  | 16 => .array .int
  | 17 => .array .boolean
  | 18 => .array (.array .int)
  | 19 => .array .int
  | 20 => .array .int
  | 21 => .array .boolean
  | 22 => .array .int
  | 23 => .array .int
  | 24 => .array .int
  | 25 => .int
  | 26 => .int
  | 27 => .int
  | 28 => .int
  | 29 => .int
  | 30 => .boolean
  | 31 => .int
  | 32 => .int
  | 33 => .int
  | 34 => .int
  | 35 => .int
  | 36 => .int
  | 37 => .array .int
  | 38 => .array .int
  | _ => .boolean
abbrev wsX50 : List Cond := u_ws RX5 TX5 40
theorem nmX5 : ∀ a, a < 40 → ∀ b, b < 40 → a ≠ b → (TX5 a).2.1 ≠ (TX5 b).2.1 := by decide +kernel
theorem tyX5_ok : ∀ k, k < 40 → parseFieldDescriptor (TX5 k).2.2.1 = some (tyX5 k) := by decide +kernel
abbrev cX5_init : ByteArray := prog_7_method_1_code
def yX5_init : MethodName := ⟨RX5, "<init>", "()V"⟩
abbrev cX5_changed : ByteArray := prog_7_method_3_code
def yX5_changed : MethodName := ⟨RX5, "changed", "()V"⟩
abbrev cX5_input : ByteArray := prog_7_method_4_code
def yX5_input : MethodName := ⟨RX5, "input", "(IZ)I"⟩
abbrev cX5_isRegister : ByteArray := prog_7_method_5_code
def yX5_isRegister : MethodName := ⟨RX5, "isRegister", "(I)Z"⟩
abbrev cX5_isTarget : ByteArray := prog_7_method_6_code
def yX5_isTarget : MethodName := ⟨RX5, "isTarget", "(I)Z"⟩
abbrev cX5_isGood : ByteArray := prog_7_method_7_code
def yX5_isGood : MethodName := ⟨RX5, "isGood", "(IIII)Z"⟩
abbrev cX5_isDivision : ByteArray := prog_7_method_8_code
def yX5_isDivision : MethodName := ⟨RX5, "isDivision", "(I)Z"⟩
abbrev cX5_tell : ByteArray := prog_7_method_9_code
def yX5_tell : MethodName := ⟨RX5, "tell", "(IIII)I"⟩
abbrev cX5_clear : ByteArray := prog_7_method_10_code
def yX5_clear : MethodName := ⟨RX5, "clear", "()I"⟩
abbrev cX5_words : ByteArray := prog_7_method_11_code
def yX5_words : MethodName := ⟨RX5, "words", "()I"⟩
abbrev cX5_inputOf : ByteArray := prog_7_method_12_code
def yX5_inputOf : MethodName := ⟨RX5, "inputOf", "(II)I"⟩
abbrev cX5_isBelow : ByteArray := prog_7_method_13_code
def yX5_isBelow : MethodName := ⟨RX5, "isBelow", "(II)Z"⟩
abbrev cX5_plain : ByteArray := prog_7_method_14_code
def yX5_plain : MethodName := ⟨RX5, "plain", "(I)J"⟩
abbrev cX5_truth : ByteArray := prog_7_method_15_code
def yX5_truth : MethodName := ⟨RX5, "truth", "(Z)I"⟩
abbrev cX5_reckoned : ByteArray := prog_7_method_16_code
def yX5_reckoned : MethodName := ⟨RX5, "reckoned", "(III)I"⟩
abbrev cX5_ends : ByteArray := prog_7_method_17_code
def yX5_ends : MethodName := ⟨RX5, "ends", "(III)V"⟩
abbrev cX5_go : ByteArray := prog_7_method_18_code
def yX5_go : MethodName := ⟨RX5, "go", "(I[IZ)V"⟩
abbrev cX5_isPath : ByteArray := prog_7_method_19_code
def yX5_isPath : MethodName := ⟨RX5, "isPath", "(I)Z"⟩
abbrev cX5_explore : ByteArray := prog_7_method_20_code
def yX5_explore : MethodName := ⟨RX5, "explore", "()I"⟩
abbrev cX5_isAhead : ByteArray := prog_7_method_21_code
def yX5_isAhead : MethodName := ⟨RX5, "isAhead", "(II)Z"⟩
abbrev cX5_order : ByteArray := prog_7_method_22_code
def yX5_order : MethodName := ⟨RX5, "order", "()V"⟩
abbrev cX5_turn : ByteArray := prog_7_method_23_code
def yX5_turn : MethodName := ⟨RX5, "turn", "([III)V"⟩
abbrev cX5_exchange : ByteArray := prog_7_method_24_code
def yX5_exchange : MethodName := ⟨RX5, "exchange", "(II)V"⟩
abbrev cX5_has : ByteArray := prog_7_method_25_code
def yX5_has : MethodName := ⟨RX5, "has", "(I)Z"⟩
abbrev cX5_isWord : ByteArray := prog_7_method_26_code
def yX5_isWord : MethodName := ⟨RX5, "isWord", "(I)Z"⟩
abbrev cX5_path : ByteArray := prog_7_method_27_code
def yX5_path : MethodName := ⟨RX5, "path", "(II)I"⟩
abbrev cX5_decision : ByteArray := prog_7_method_28_code
def yX5_decision : MethodName := ⟨RX5, "decision", "(II)I"⟩
abbrev cX5_holds : ByteArray := prog_7_method_29_code
def yX5_holds : MethodName := ⟨RX5, "holds", "(II)I"⟩
abbrev cX5_value : ByteArray := prog_7_method_30_code
def yX5_value : MethodName := ⟨RX5, "value", "(II)I"⟩
abbrev cX5_find : ByteArray := prog_7_method_31_code
def yX5_find : MethodName := ⟨RX5, "find", "(III)I"⟩
abbrev cX5_run : ByteArray := prog_7_method_32_code
def yX5_run : MethodName := ⟨RX5, "run", "(I)I"⟩
abbrev cX5_ran : ByteArray := prog_7_method_33_code
def yX5_ran : MethodName := ⟨RX5, "ran", "(I)I"⟩
abbrev cX5_register : ByteArray := prog_7_method_34_code
def yX5_register : MethodName := ⟨RX5, "register", "(I)I"⟩
abbrev cX5_cell : ByteArray := prog_7_method_35_code
def yX5_cell : MethodName := ⟨RX5, "cell", "(I)I"⟩
abbrev cX5_failing : ByteArray := prog_7_method_36_code
def yX5_failing : MethodName := ⟨RX5, "failing", "(II)I"⟩
abbrev cX5_failures : ByteArray := prog_7_method_37_code
def yX5_failures : MethodName := ⟨RX5, "failures", "()I"⟩
abbrev cX5_failure : ByteArray := prog_7_method_38_code
def yX5_failure : MethodName := ⟨RX5, "failure", "(II)I"⟩
abbrev cX5_covered : ByteArray := prog_7_method_39_code
def yX5_covered : MethodName := ⟨RX5, "covered", "(I)I"⟩
abbrev cX5_count : ByteArray := prog_7_method_40_code
def yX5_count : MethodName := ⟨RX5, "count", "(I)I"⟩
def RJ13 : String := "java/lang/Long"
def TJ13 : u_T := fun k => match k with
  | _ => ("", "", "", false)
def tyJ13 : Nat → FieldType := fun k => match k with
  | _ => .int
abbrev wsJ130 : List Cond := u_ws RJ13 TJ13 0
theorem nmJ13 : ∀ a, a < 0 → ∀ b, b < 0 → a ≠ b → (TJ13 a).2.1 ≠ (TJ13 b).2.1 := by decide +kernel
theorem tyJ13_ok : ∀ k, k < 0 → parseFieldDescriptor (TJ13 k).2.2.1 = some (tyJ13 k) := by decide +kernel
abbrev cJ13_bitCount_95d88 : ByteArray := prog_8_method_50_code
def yJ13_bitCount_95d88 : MethodName := ⟨RJ13, "bitCount", "(J)I"⟩
def RJ7 : String := "java/util/Arrays"
def TJ7 : u_T := fun k => match k with
  | _ => ("", "", "", false)
def tyJ7 : Nat → FieldType := fun k => match k with
  | _ => .int
abbrev wsJ70 : List Cond := u_ws RJ7 TJ7 0
theorem nmJ7 : ∀ a, a < 0 → ∀ b, b < 0 → a ≠ b → (TJ7 a).2.1 ≠ (TJ7 b).2.1 := by decide +kernel
theorem tyJ7_ok : ∀ k, k < 0 → parseFieldDescriptor (TJ7 k).2.2.1 = some (tyJ7 k) := by decide +kernel
abbrev cJ7_fill_53178 : ByteArray := prog_9_method_103_code
def yJ7_fill_53178 : MethodName := ⟨RJ7, "fill", "([II)V"⟩
def RL : String := "SymbolBenchLaw"
abbrev cL_law : ByteArray := code
def yL_law : MethodName := ⟨RL, "law", "([I)Z"⟩
