section
/-- the class of arrays over arrays of t is there -/
def va_AOA (t : FieldType) (U : State) : Prop := (Cond.arrayOver (.array t)).before #[] U = true
theorem va_AOA.use {t : FieldType} {A : Array Value} {U : State} (h : va_AOA t U) : (Cond.arrayOver (.array t)).before A U = true := h
section VAL2
variable {p : Program} {l : Launch} {e : Env} {R : Room} {s : State} {m : MethodId} {args : Array Value} {below : List Frame} {meth : Method} {c : Code} {H : Heap} {locs : List Loc} {cells slots : Nat} {Q : State → Prop}
variable {cc : ByteArray} {pc : Nat} {ls : Array Slot} {rest : List Value} {D : va_G} {cl : List vw_C} {a : Nat} {tys : List (ClassId × FieldType)} {ws : va_W}
/-- a row out of an array of arrays -/
theorem va_alda (hexec : p.tables.exec = Jvm.exec) (hb : c.code = cc) (hK : va_K D cl tys s) (hP : va_P D cl ws H) (q0 t0 : Nat) {cA : ClassId} {ty : FieldType} {n : Nat} {f : Nat → Option Nat} (ha : ws[q0]? = some (a, .inl (cA, n, .inr (.inr (.inr (.inr f)))))) (ht : tys[t0]? = some (cA, .array ty)) {i : Int32} (hin : vp_in i n) (hdg : decode cc pc = .ok (.aaload, 1))
    (kk : W p l e R s m args below meth c H locs cells slots Q (F0 m (pc + 1) ls (va_rf (f i.toNatClampNeg) :: rest))) : W p l e R s m args below meth c H locs cells slots Q (F0 m pc ls (.int i :: .ref a :: rest)) := by
  have hlt : i.toNatClampNeg < n := Nat.not_le.mp fun q => hin (Or.inr q)
  exact W.aald (v := va_rf (f i.toNatClampNeg)) (ty := .array ty) hexec hb (hP q0 _ ha) ((hK.2 t0 _ ht).1 n (fun j => va_rf (f j))) rfl (fun q => by cases q) (by show ¬ (i < 0 ∨ (arrV _ _ _).slots.size ≤ _); rw [arrV_size]; exact hin) (by show (arrV _ _ _).slots[_]? = _; rw [arrV_read _ _ hlt]) rfl rfl hdg kk
/-- what may be null is not -/
theorem gr_some {o : Option Nat} {a : Nat} (h : o = some a) (k : W p l e R s m args below meth c H locs cells slots Q (F0 m pc ls (.ref a :: rest))) : W p l e R s m args below meth c H locs cells slots Q (F0 m pc ls (va_rf o :: rest)) := by
  subst h
  exact k
end VAL2
end
section
-- ===== PART A: goes FIRST, ahead of the names: the tables' words, and 'selects' of the private methods out of them =====
/-- a private method of a class that the tables say can be made, by its rows of tables_1 -/
def lw_okq (q : MethodName × Nat) : Prop := (q.1.cls ≠ "java/lang/invoke/MethodHandle" ∧ q.1.cls ≠ "java/lang/invoke/VarHandle") ∧ Cond.instantiable q.1.cls q.2 ∈ tables_1 ∧ Cond.privateMethod q.1 ∈ tables_1 ∧ Cond.instanceMethod q.1 ∈ tables_1
theorem lw_p0 : lw_okq (⟨"SymbolBench", "forgetFindings", "()V"⟩, 6) := ⟨⟨by decide +kernel, by decide +kernel⟩, List.mem_of_getElem? (i := 10) (by decide +kernel), List.mem_of_getElem? (i := 231) (by decide +kernel), List.mem_of_getElem? (i := 232) (by decide +kernel)⟩
theorem lw_p1 : lw_okq (⟨"SymbolBench$Program", "fits", "(IIII)Z"⟩, 12) := ⟨⟨by decide +kernel, by decide +kernel⟩, List.mem_of_getElem? (i := 18) (by decide +kernel), List.mem_of_getElem? (i := 247) (by decide +kernel), List.mem_of_getElem? (i := 248) (by decide +kernel)⟩
theorem lw_p2 : lw_okq (⟨"SymbolBench$Program", "isTarget", "(I)Z"⟩, 12) := ⟨⟨by decide +kernel, by decide +kernel⟩, List.mem_of_getElem? (i := 18) (by decide +kernel), List.mem_of_getElem? (i := 254) (by decide +kernel), List.mem_of_getElem? (i := 255) (by decide +kernel)⟩
theorem lw_p3 : lw_okq (⟨"SymbolBench$Program", "wouldBeTooMany", "(I)Z"⟩, 12) := ⟨⟨by decide +kernel, by decide +kernel⟩, List.mem_of_getElem? (i := 18) (by decide +kernel), List.mem_of_getElem? (i := 261) (by decide +kernel), List.mem_of_getElem? (i := 262) (by decide +kernel)⟩
theorem lw_p4 : lw_okq (⟨"SymbolBench$Machine", "begin", "(LSymbolBench$Path;)V"⟩, 12) := ⟨⟨by decide +kernel, by decide +kernel⟩, List.mem_of_getElem? (i := 143) (by decide +kernel), List.mem_of_getElem? (i := 297) (by decide +kernel), List.mem_of_getElem? (i := 298) (by decide +kernel)⟩
theorem lw_p5 : lw_okq (⟨"SymbolBench$Machine", "step", "(LSymbolBench$Program;I)I"⟩, 12) := ⟨⟨by decide +kernel, by decide +kernel⟩, List.mem_of_getElem? (i := 143) (by decide +kernel), List.mem_of_getElem? (i := 307) (by decide +kernel), List.mem_of_getElem? (i := 308) (by decide +kernel)⟩
theorem lw_p6 : lw_okq (⟨"SymbolBench$Machine", "load", "(II)V"⟩, 12) := ⟨⟨by decide +kernel, by decide +kernel⟩, List.mem_of_getElem? (i := 143) (by decide +kernel), List.mem_of_getElem? (i := 315) (by decide +kernel), List.mem_of_getElem? (i := 316) (by decide +kernel)⟩
theorem lw_p7 : lw_okq (⟨"SymbolBench$Machine", "decide", "(Z)Z"⟩, 12) := ⟨⟨by decide +kernel, by decide +kernel⟩, List.mem_of_getElem? (i := 143) (by decide +kernel), List.mem_of_getElem? (i := 322) (by decide +kernel), List.mem_of_getElem? (i := 323) (by decide +kernel)⟩
theorem lw_p8 : lw_okq (⟨"SymbolBench$Machine", "stop", "(II)V"⟩, 12) := ⟨⟨by decide +kernel, by decide +kernel⟩, List.mem_of_getElem? (i := 143) (by decide +kernel), List.mem_of_getElem? (i := 326) (by decide +kernel), List.mem_of_getElem? (i := 327) (by decide +kernel)⟩
theorem lw_p9 : lw_okq (⟨"SymbolBench$Machine", "store", "(II)V"⟩, 12) := ⟨⟨by decide +kernel, by decide +kernel⟩, List.mem_of_getElem? (i := 143) (by decide +kernel), List.mem_of_getElem? (i := 330) (by decide +kernel), List.mem_of_getElem? (i := 331) (by decide +kernel)⟩
theorem lw_p10 : lw_okq (⟨"SymbolBench$Machine", "stopUnlessTrue", "(I)V"⟩, 12) := ⟨⟨by decide +kernel, by decide +kernel⟩, List.mem_of_getElem? (i := 143) (by decide +kernel), List.mem_of_getElem? (i := 334) (by decide +kernel), List.mem_of_getElem? (i := 335) (by decide +kernel)⟩
theorem lw_p11 : lw_okq (⟨"SymbolBench$Machine", "calculate", "(IIII)V"⟩, 12) := ⟨⟨by decide +kernel, by decide +kernel⟩, List.mem_of_getElem? (i := 143) (by decide +kernel), List.mem_of_getElem? (i := 338) (by decide +kernel), List.mem_of_getElem? (i := 339) (by decide +kernel)⟩
theorem lw_p12 : lw_okq (⟨"SymbolBench$Atlas", "enter", "(LSymbolBench$Machine;I)Z"⟩, 6) := ⟨⟨by decide +kernel, by decide +kernel⟩, List.mem_of_getElem? (i := 71) (by decide +kernel), List.mem_of_getElem? (i := 353) (by decide +kernel), List.mem_of_getElem? (i := 354) (by decide +kernel)⟩
theorem lw_p13 : lw_okq (⟨"SymbolBench$Atlas", "firstNotAheadOf", "(J)I"⟩, 6) := ⟨⟨by decide +kernel, by decide +kernel⟩, List.mem_of_getElem? (i := 71) (by decide +kernel), List.mem_of_getElem? (i := 357) (by decide +kernel), List.mem_of_getElem? (i := 358) (by decide +kernel)⟩
theorem lw_p14 : lw_okq (⟨"SymbolBench$Atlas", "insertAt", "(I)LSymbolBench$Path;"⟩, 6) := ⟨⟨by decide +kernel, by decide +kernel⟩, List.mem_of_getElem? (i := 71) (by decide +kernel), List.mem_of_getElem? (i := 361) (by decide +kernel), List.mem_of_getElem? (i := 362) (by decide +kernel)⟩
theorem lw_p15 : lw_okq (⟨"SymbolBenchModel", "changed", "()V"⟩, 40) := ⟨⟨by decide +kernel, by decide +kernel⟩, List.mem_of_getElem? (i := 471) (by decide +kernel), List.mem_of_getElem? (i := 603) (by decide +kernel), List.mem_of_getElem? (i := 604) (by decide +kernel)⟩
def lw_privs_1 : List (MethodName × Nat) := [(⟨"SymbolBench", "forgetFindings", "()V"⟩, 6), (⟨"SymbolBench$Program", "fits", "(IIII)Z"⟩, 12), (⟨"SymbolBench$Program", "isTarget", "(I)Z"⟩, 12), (⟨"SymbolBench$Program", "wouldBeTooMany", "(I)Z"⟩, 12), (⟨"SymbolBench$Machine", "begin", "(LSymbolBench$Path;)V"⟩, 12), (⟨"SymbolBench$Machine", "step", "(LSymbolBench$Program;I)I"⟩, 12), (⟨"SymbolBench$Machine", "load", "(II)V"⟩, 12), (⟨"SymbolBench$Machine", "decide", "(Z)Z"⟩, 12), (⟨"SymbolBench$Machine", "stop", "(II)V"⟩, 12), (⟨"SymbolBench$Machine", "store", "(II)V"⟩, 12), (⟨"SymbolBench$Machine", "stopUnlessTrue", "(I)V"⟩, 12), (⟨"SymbolBench$Machine", "calculate", "(IIII)V"⟩, 12), (⟨"SymbolBench$Atlas", "enter", "(LSymbolBench$Machine;I)Z"⟩, 6), (⟨"SymbolBench$Atlas", "firstNotAheadOf", "(J)I"⟩, 6), (⟨"SymbolBench$Atlas", "insertAt", "(I)LSymbolBench$Path;"⟩, 6), (⟨"SymbolBenchModel", "changed", "()V"⟩, 40)]
theorem lw_r1 : ∀ q ∈ lw_privs_1, lw_okq q := List.forall_mem_cons.mpr ⟨lw_p0, List.forall_mem_cons.mpr ⟨lw_p1, List.forall_mem_cons.mpr ⟨lw_p2, List.forall_mem_cons.mpr ⟨lw_p3, List.forall_mem_cons.mpr ⟨lw_p4, List.forall_mem_cons.mpr ⟨lw_p5, List.forall_mem_cons.mpr ⟨lw_p6, List.forall_mem_cons.mpr ⟨lw_p7, List.forall_mem_cons.mpr ⟨lw_p8, List.forall_mem_cons.mpr ⟨lw_p9, List.forall_mem_cons.mpr ⟨lw_p10, List.forall_mem_cons.mpr ⟨lw_p11, List.forall_mem_cons.mpr ⟨lw_p12, List.forall_mem_cons.mpr ⟨lw_p13, List.forall_mem_cons.mpr ⟨lw_p14, List.forall_mem_cons.mpr ⟨lw_p15, fun _ h => absurd h List.not_mem_nil⟩⟩⟩⟩⟩⟩⟩⟩⟩⟩⟩⟩⟩⟩⟩⟩
theorem lw_p16 : lw_okq (⟨"SymbolBenchModel", "isGood", "(IIII)Z"⟩, 40) := ⟨⟨by decide +kernel, by decide +kernel⟩, List.mem_of_getElem? (i := 471) (by decide +kernel), List.mem_of_getElem? (i := 611) (by decide +kernel), List.mem_of_getElem? (i := 612) (by decide +kernel)⟩
theorem lw_p17 : lw_okq (⟨"SymbolBenchModel", "isTarget", "(I)Z"⟩, 40) := ⟨⟨by decide +kernel, by decide +kernel⟩, List.mem_of_getElem? (i := 471) (by decide +kernel), List.mem_of_getElem? (i := 618) (by decide +kernel), List.mem_of_getElem? (i := 619) (by decide +kernel)⟩
theorem lw_p18 : lw_okq (⟨"SymbolBenchModel", "words", "()I"⟩, 40) := ⟨⟨by decide +kernel, by decide +kernel⟩, List.mem_of_getElem? (i := 471) (by decide +kernel), List.mem_of_getElem? (i := 633) (by decide +kernel), List.mem_of_getElem? (i := 634) (by decide +kernel)⟩
theorem lw_p19 : lw_okq (⟨"SymbolBenchModel", "go", "(I[IZ)V"⟩, 40) := ⟨⟨by decide +kernel, by decide +kernel⟩, List.mem_of_getElem? (i := 471) (by decide +kernel), List.mem_of_getElem? (i := 637) (by decide +kernel), List.mem_of_getElem? (i := 638) (by decide +kernel)⟩
theorem lw_p20 : lw_okq (⟨"SymbolBenchModel", "inputOf", "(II)I"⟩, 40) := ⟨⟨by decide +kernel, by decide +kernel⟩, List.mem_of_getElem? (i := 471) (by decide +kernel), List.mem_of_getElem? (i := 644) (by decide +kernel), List.mem_of_getElem? (i := 645) (by decide +kernel)⟩
theorem lw_p21 : lw_okq (⟨"SymbolBenchModel", "ends", "(III)V"⟩, 40) := ⟨⟨by decide +kernel, by decide +kernel⟩, List.mem_of_getElem? (i := 471) (by decide +kernel), List.mem_of_getElem? (i := 648) (by decide +kernel), List.mem_of_getElem? (i := 649) (by decide +kernel)⟩
theorem lw_p22 : lw_okq (⟨"SymbolBenchModel", "isPath", "(I)Z"⟩, 40) := ⟨⟨by decide +kernel, by decide +kernel⟩, List.mem_of_getElem? (i := 471) (by decide +kernel), List.mem_of_getElem? (i := 663) (by decide +kernel), List.mem_of_getElem? (i := 664) (by decide +kernel)⟩
theorem lw_p23 : lw_okq (⟨"SymbolBenchModel", "order", "()V"⟩, 40) := ⟨⟨by decide +kernel, by decide +kernel⟩, List.mem_of_getElem? (i := 471) (by decide +kernel), List.mem_of_getElem? (i := 667) (by decide +kernel), List.mem_of_getElem? (i := 668) (by decide +kernel)⟩
theorem lw_p24 : lw_okq (⟨"SymbolBenchModel", "isAhead", "(II)Z"⟩, 40) := ⟨⟨by decide +kernel, by decide +kernel⟩, List.mem_of_getElem? (i := 471) (by decide +kernel), List.mem_of_getElem? (i := 671) (by decide +kernel), List.mem_of_getElem? (i := 672) (by decide +kernel)⟩
theorem lw_p25 : lw_okq (⟨"SymbolBenchModel", "exchange", "(II)V"⟩, 40) := ⟨⟨by decide +kernel, by decide +kernel⟩, List.mem_of_getElem? (i := 471) (by decide +kernel), List.mem_of_getElem? (i := 675) (by decide +kernel), List.mem_of_getElem? (i := 676) (by decide +kernel)⟩
theorem lw_p26 : lw_okq (⟨"SymbolBenchModel", "has", "(I)Z"⟩, 40) := ⟨⟨by decide +kernel, by decide +kernel⟩, List.mem_of_getElem? (i := 471) (by decide +kernel), List.mem_of_getElem? (i := 686) (by decide +kernel), List.mem_of_getElem? (i := 687) (by decide +kernel)⟩
theorem lw_p27 : lw_okq (⟨"SymbolBenchModel", "isWord", "(I)Z"⟩, 40) := ⟨⟨by decide +kernel, by decide +kernel⟩, List.mem_of_getElem? (i := 471) (by decide +kernel), List.mem_of_getElem? (i := 698) (by decide +kernel), List.mem_of_getElem? (i := 699) (by decide +kernel)⟩
theorem lw_p28 : lw_okq (⟨"SymbolBenchModel", "failing", "(II)I"⟩, 40) := ⟨⟨by decide +kernel, by decide +kernel⟩, List.mem_of_getElem? (i := 471) (by decide +kernel), List.mem_of_getElem? (i := 730) (by decide +kernel), List.mem_of_getElem? (i := 731) (by decide +kernel)⟩
theorem lw_p29 : lw_okq (⟨"SymbolBenchModel", "failures", "()I"⟩, 40) := ⟨⟨by decide +kernel, by decide +kernel⟩, List.mem_of_getElem? (i := 471) (by decide +kernel), List.mem_of_getElem? (i := 742) (by decide +kernel), List.mem_of_getElem? (i := 743) (by decide +kernel)⟩
def lw_privs_2 : List (MethodName × Nat) := [(⟨"SymbolBenchModel", "isGood", "(IIII)Z"⟩, 40), (⟨"SymbolBenchModel", "isTarget", "(I)Z"⟩, 40), (⟨"SymbolBenchModel", "words", "()I"⟩, 40), (⟨"SymbolBenchModel", "go", "(I[IZ)V"⟩, 40), (⟨"SymbolBenchModel", "inputOf", "(II)I"⟩, 40), (⟨"SymbolBenchModel", "ends", "(III)V"⟩, 40), (⟨"SymbolBenchModel", "isPath", "(I)Z"⟩, 40), (⟨"SymbolBenchModel", "order", "()V"⟩, 40), (⟨"SymbolBenchModel", "isAhead", "(II)Z"⟩, 40), (⟨"SymbolBenchModel", "exchange", "(II)V"⟩, 40), (⟨"SymbolBenchModel", "has", "(I)Z"⟩, 40), (⟨"SymbolBenchModel", "isWord", "(I)Z"⟩, 40), (⟨"SymbolBenchModel", "failing", "(II)I"⟩, 40), (⟨"SymbolBenchModel", "failures", "()I"⟩, 40)]
theorem lw_r2 : ∀ q ∈ lw_privs_2, lw_okq q := List.forall_mem_cons.mpr ⟨lw_p16, List.forall_mem_cons.mpr ⟨lw_p17, List.forall_mem_cons.mpr ⟨lw_p18, List.forall_mem_cons.mpr ⟨lw_p19, List.forall_mem_cons.mpr ⟨lw_p20, List.forall_mem_cons.mpr ⟨lw_p21, List.forall_mem_cons.mpr ⟨lw_p22, List.forall_mem_cons.mpr ⟨lw_p23, List.forall_mem_cons.mpr ⟨lw_p24, List.forall_mem_cons.mpr ⟨lw_p25, List.forall_mem_cons.mpr ⟨lw_p26, List.forall_mem_cons.mpr ⟨lw_p27, List.forall_mem_cons.mpr ⟨lw_p28, List.forall_mem_cons.mpr ⟨lw_p29, fun _ h => absurd h List.not_mem_nil⟩⟩⟩⟩⟩⟩⟩⟩⟩⟩⟩⟩⟩⟩
def lw_privs : List (MethodName × Nat) := lw_privs_1 ++ (lw_privs_2)
def lw_tbl : List Cond := k2_sels lw_privs ++ tables_1
theorem lw_privs_ok : ∀ q ∈ lw_privs, lw_okq q := by
  show ∀ q ∈ lw_privs_1 ++ (lw_privs_2), lw_okq q
  exact List.forall_mem_append.mpr ⟨lw_r1, lw_r2⟩
end
section
/-! ===== BEGIN words of one list among another's, by their places ===== -/
theorem goodIn_r {big : List Cond} (ws : List Cond) (ps : List Nat) (hp : ws = ps.filterMap (fun i => big[i]?)) (h : ws.all goodWord = true) : GoodIn big ws := by
  intro w hw
  have h1 := List.all_eq_true.mp h w hw
  rw [hp] at hw
  obtain ⟨i, -, hi⟩ := List.mem_filterMap.mp hw
  have hm : w ∈ big := by first | exact List.mem_of_getElem? hi | exact List.getElem?_mem hi
  exact ⟨hm, good_of_word h1⟩
theorem goodIn_app {big a b : List Cond} (ha : GoodIn big a) (hb : GoodIn big b) : GoodIn big (a ++ b) := fun w h => (List.mem_append.mp h).elim (ha w) (hb w)
theorem goodIn_ca {big a b : List Cond} {c : Cond} (ha : GoodIn big (c :: a)) (hb : GoodIn big b) : GoodIn big (c :: (a ++ b)) := fun w h => (List.mem_cons.mp h).elim (fun e => ha w (List.mem_cons.mpr (Or.inl e))) (fun h => (List.mem_append.mp h).elim (fun h => ha w (List.mem_cons.mpr (Or.inr h))) (hb w))
theorem goodIn_sub {big ws : List Cond} (hm : ∀ w ∈ ws, w ∈ big) (h : ws.all goodWord = true) : GoodIn big ws := fun w hw => ⟨hm w hw, good_of_word (List.all_eq_true.mp h w hw)⟩
/-! ===== END ===== -/

/-! ===== BEGIN new T[n][m]: the outer array a place, the inner ones among the pooled ===== -/
/-- f, but v at every address of l -/
def vr_up {α : Type} (f : Nat → α) (l : List Nat) (v : α) : Nat → α := fun a => if a ∈ l then v else f a
theorem vr_up_in {α : Type} {f : Nat → α} {l : List Nat} {v : α} {a : Nat} (h : a ∈ l) : vr_up f l v a = v := if_pos h
theorem vr_up_ne {α : Type} {f : Nat → α} {l : List Nat} {v : α} {a : Nat} (h : a ∉ l) : vr_up f l v a = f a := if_neg h
theorem vr_rows {L l : List Nat} {f : Nat → va_E} {e : va_E} (h : ∀ a, a ∈ l → a ∉ L) : va_pl L f ++ l.map (fun a => (a, e)) = va_pl (L ++ l) (vr_up f l e) := by
  unfold va_pl
  rw [List.map_append]
  congr 1
  · apply List.map_congr_left
    intro a ha
    rw [vr_up_ne (fun q => h a q ha)]
  · apply List.map_congr_left
    intro a ha
    rw [vr_up_in ha]
theorem vr_lay {X rows : va_W} {x : Nat × va_E} {pl : va_W} {D : va_G} {cl : List vw_C} {H : Heap} (hP : va_P D cl (((X ++ pl) ++ [x]) ++ rows) H) : va_P D cl ((X ++ [x]) ++ (pl ++ rows)) H := by
  rw [List.append_assoc (X ++ pl)] at hP
  have h := va_P.swap hP
  rw [← List.append_assoc X] at h
  have h2 := va_P.swap h
  rw [List.append_assoc (X ++ [x])] at h2
  exact h2
theorem vr_layD {X rows : va_W} {x : Nat × va_E} {pl : va_W} {A : Nat → Prop} (hD : va_D A (((X ++ pl) ++ [x]) ++ rows)) : va_D A ((X ++ [x]) ++ (pl ++ rows)) := by
  rw [List.append_assoc (X ++ pl)] at hD
  have h := va_D.swap hD
  rw [← List.append_assoc X] at h
  have h2 := va_D.swap h
  rw [List.append_assoc (X ++ [x])] at h2
  exact h2
theorem vr_outer (c : ClassId) (N h0 : Nat) : ∀ i : Nat, Jvm.Free.Multi.outerC c N h0 i = arrV c N (fun j => va_rf (if j < i then some (h0 + 1 + j) else none))
  | 0 => by
    show ({ cls := c, slots := Array.replicate N .null, vm := .none } : Cell) = _
    rw [arrV_new]
    refine congrArg (arrV c N) (funext fun j => ?_)
    simp [va_rf]
  | i + 1 => by
    show (Jvm.Free.Multi.outerC c N h0 i).setSlot i (.ref (h0 + 1 + i)) = _
    rw [vr_outer c N h0 i, arrV_store]
    refine congrArg (arrV c N) (funext fun j => ?_)
    by_cases e : j = i
    · subst e
      simp [updV, va_rf]
    · by_cases h : j < i
      · simp [updV, e, h, Nat.lt_succ_of_lt h]
      · simp [updV, e, h, show ¬ j < i + 1 by omega]
section VGM
variable {p : Program} {l : Launch} {e : Env} {R : Room} {s : State} {m : MethodId} {args : Array Value} {below : List Frame} {meth : Method} {c : Code} {H : Heap} {locs : List Loc} {cells slots : Nat} {Q : State → Prop}
variable {cc : ByteArray} {pc : Nat} {ls : Array Slot} {rest : List Value} {D : va_G} {cl : List vw_C} {A : Nat → Prop} {a : Nat} {tys : List (ClassId × FieldType)} {ws : va_W} {H0 : Heap}
theorem va_mna {X : va_W} {L : List Nat} {f : Nat → va_E} {cc : ByteArray} (hexec : p.tables.exec = Jvm.exec) (hb : c.code = cc) {own : String} {index : Nat} {ty : FieldType} {cy : ClassId} (hown : s.vm.findClass own = some m.cls) (hclink : (Cond.classLink own index ("[" ++ (FieldType.array ty).toString)).before args s = true) (hover : va_AOA ty s) (harr : (Cond.arrayClass ty).before args s = true) (hcy : s.vm.findClass (FieldType.array ty).toString = some cy)
    (hK : va_K D cl tys s) (hP : va_P D cl (X ++ va_pl L f) H) (hD : va_D A (X ++ va_pl L f)) (hS : va_S A H0 H locs) (hA : ∀ q, H0.size ≤ q → A q) {n k : Int32} {N' K' : Nat} {z : vp_A} (hn : ¬ n < 0) (hk : ¬ k < 0) (hN : n.toNatClampNeg = N') (hM : k.toNatClampNeg = K')
    (hb1 : N' * 4 ≤ 536870912) (hb2 : K' * componentBytes ty ≤ 536870912) (hb3 : K' ≤ 536870912) (hdf : fits ty (defaultValue ty) = true) (hdd : (defaultValue ty).isDefault = true) (hcells : cells + (1 + N') ≤ R.cells) (hslots : slots + (N' + N' * K') ≤ R.slots) (hz : ∀ c : ClassId, Jvm.Free.Multi.innerC c K' (defaultValue ty) = vp_cell c z) (hdg : decode cc pc = .ok (.multianewarray index 2, 4))
    (kk : ∀ (q : Nat) (r : Nat → Nat) (cA : ClassId) (H1 : Heap), (∀ i j : Nat, i < N' → j < N' → r i = r j → i = j) → (∀ i : Nat, i < N' → r i ∉ L) → va_K D cl (tys ++ [(cA, .array ty)]) s →
      va_P D cl ((X ++ [(q, .inl (cA, N', .inr (.inr (.inr (.inr (fun i => if i < N' then some (r i) else none))))))]) ++ va_pl (L ++ (List.range N').map r) (vr_up f ((List.range N').map r) (.inl (cy, z)))) H1 → va_D A ((X ++ [(q, .inl (cA, N', .inr (.inr (.inr (.inr (fun i => if i < N' then some (r i) else none))))))]) ++ va_pl (L ++ (List.range N').map r) (vr_up f ((List.range N').map r) (.inl (cy, z)))) → va_S A H0 H1 locs →
      W p l e R s m args below meth c H1 locs (cells + 1 + N') (slots + N' + N' * K') Q (F0 m (pc + 4) ls (.ref q :: rest))) : W p l e R s m args below meth c H locs cells slots Q (F0 m pc ls (.int k :: .int n :: rest)) := by
  subst hN
  subst hM
  intro T hT Xs
  obtain ⟨vm₁, cA, comp, -, fA, fC, hO, -, X', step⟩ := Xs.multianewarray2F hexec hown hclink (va_AOA.use hover) harr (g := F0 m pc ls (.int k :: .int n :: rest)) rfl (by rw [hb]; exact hdg) rfl hn hk hb1 hb2 hb3 hdf hdd hcells hslots
  have ec : some cy = some comp := hcy.symm.trans fC
  cases ec
  generalize hF : Jvm.Free.Multi.fill (T.setVm vm₁) cA cy n.toNatClampNeg k.toNatClampNeg (defaultValue ty) n.toNatClampNeg = F at X' step
  have hTh : (T.setVm vm₁).heap = H := hT
  obtain ⟨f1, f2, -, -⟩ := Jvm.Free.Multi.fill_facts (T.setVm vm₁) cA cy n.toNatClampNeg k.toNatClampNeg (defaultValue ty) n.toNatClampNeg
  rw [hF, hTh] at f1 f2
  have hold : ∀ x : Nat, x < H.size → F.heap[x]? = H[x]? := fun x hx => by
    have := Jvm.Free.Multi.fill_old (T.setVm vm₁) cA cy n.toNatClampNeg k.toNatClampNeg (defaultValue ty) (a := x) (by rw [hTh]; exact hx) n.toNatClampNeg
    rw [hF, hTh] at this
    exact this
  have hrow : ∀ j : Nat, j < n.toNatClampNeg → F.heap[H.size + 1 + j]? = some (vp_cell cy z) := fun j hj => by
    have := Jvm.Free.Multi.fill_inner (T.setVm vm₁) cA cy n.toNatClampNeg k.toNatClampNeg (defaultValue ty) n.toNatClampNeg j hj
    rw [hF, hTh, hz] at this
    exact this
  have hout : Jvm.Free.Multi.outerC cA n.toNatClampNeg H.size n.toNatClampNeg = vp_cell cA (n.toNatClampNeg, .inr (.inr (.inr (.inr (fun i => if i < n.toNatClampNeg then some (H.size + 1 + i) else none))))) := by
    rw [vp_cell_q]
    exact vr_outer cA n.toNatClampNeg H.size n.toNatClampNeg
  rw [hout] at f2
  have hlt : ∀ a, a ∈ L → a < H.size := fun a ha => by
    obtain ⟨k9, hk9⟩ := va_pl_get (X := X) (f := f) ha
    exact (hP k9 _ hk9).lt
  have hnl : ∀ i : Nat, i < n.toNatClampNeg → H.size + 1 + i ∉ L := fun i _ h => by
    have := hlt _ h
    omega
  have hnm : ∀ a, a ∈ (List.range n.toNatClampNeg).map (fun i => H.size + 1 + i) → a ∉ L := fun a ha h => by
    obtain ⟨i, -, rfl⟩ := List.mem_map.mp ha
    have := hlt _ h
    omega
  have hP0 : va_P D cl (X ++ va_pl L f) F.heap := hP.kept (fun k9 x hx => hold x.1 ((hP k9 x hx).lt))
  have hP1 : va_P D cl ((X ++ va_pl L f) ++ [(H.size, .inl (cA, n.toNatClampNeg, .inr (.inr (.inr (.inr (fun i => if i < n.toNatClampNeg then some (H.size + 1 + i) else none))))))]) F.heap := hP0.app (fun k9 x hx => by
    have h0 : k9 < 1 := (List.getElem?_eq_some_iff.mp hx).1
    rw [show k9 = 0 by omega] at hx
    cases hx
    exact f2)
  have hP2 : va_P D cl (((X ++ va_pl L f) ++ [(H.size, .inl (cA, n.toNatClampNeg, .inr (.inr (.inr (.inr (fun i => if i < n.toNatClampNeg then some (H.size + 1 + i) else none))))))]) ++ ((List.range n.toNatClampNeg).map (fun i => H.size + 1 + i)).map (fun a => (a, .inl (cy, z)))) F.heap := hP1.app (fun k9 x hx => by
    obtain ⟨a, ha, rfl⟩ := List.mem_map.mp (List.mem_of_getElem? hx)
    obtain ⟨i, hi, rfl⟩ := List.mem_map.mp ha
    exact hrow i (List.mem_range.mp hi))
  have hD2 : va_D A (((X ++ va_pl L f) ++ [(H.size, .inl (cA, n.toNatClampNeg, .inr (.inr (.inr (.inr (fun i => if i < n.toNatClampNeg then some (H.size + 1 + i) else none))))))]) ++ ((List.range n.toNatClampNeg).map (fun i => H.size + 1 + i)).map (fun a => (a, .inl (cy, z)))) := by
    have hD1 := hD.push (e := .inl (cA, n.toNatClampNeg, .inr (.inr (.inr (.inr (fun i => if i < n.toNatClampNeg then some (H.size + 1 + i) else none)))))) hP rfl (hA _ hS.1)
    generalize hW1 : (X ++ va_pl L f) ++ [(H.size, .inl (cA, n.toNatClampNeg, .inr (.inr (.inr (.inr (fun i => if i < n.toNatClampNeg then some (H.size + 1 + i) else none))))))] = W1 at hD1 hP1 ⊢
    have hle : ∀ (k9 : Nat) (x : Nat × va_E), W1[k9]? = some x → x.1 ≤ H.size := fun k9 x hx => by
      rw [← hW1] at hx
      by_cases hl : k9 < (X ++ va_pl L f).length
      · rw [List.getElem?_append_left hl] at hx
        exact Nat.le_of_lt ((hP k9 x hx).lt)
      · rw [List.getElem?_append_right (by omega)] at hx
        have h0 : k9 - (X ++ va_pl L f).length < 1 := (List.getElem?_eq_some_iff.mp hx).1
        rw [show k9 - (X ++ va_pl L f).length = 0 by omega] at hx
        cases hx
        exact Nat.le_refl _
    have hr : ∀ (k9 : Nat) (x : Nat × va_E), (((List.range n.toNatClampNeg).map (fun i => H.size + 1 + i)).map (fun a => ((a, .inl (cy, z)) : Nat × va_E)))[k9]? = some x → x.1 = H.size + 1 + k9 := fun k9 x hx => by
      rw [List.getElem?_map, List.getElem?_map] at hx
      by_cases h9 : k9 < n.toNatClampNeg
      · rw [List.getElem?_range h9] at hx
        cases hx
        rfl
      · have hn0 : (List.range n.toNatClampNeg)[k9]? = none := List.getElem?_eq_none (by rw [List.length_range]; omega)
        rw [hn0] at hx
        cases hx
    refine ⟨fun i j x y hi hj hxy => ?_, fun k9 x hx => ?_⟩
    · by_cases h1 : i < W1.length <;> by_cases h2 : j < W1.length
      · rw [List.getElem?_append_left h1] at hi
        rw [List.getElem?_append_left h2] at hj
        exact hD1.1 i j x y hi hj hxy
      · rw [List.getElem?_append_left h1] at hi
        rw [List.getElem?_append_right (by omega)] at hj
        have := hle _ _ hi
        have := hr _ _ hj
        omega
      · rw [List.getElem?_append_right (by omega)] at hi
        rw [List.getElem?_append_left h2] at hj
        have := hle _ _ hj
        have := hr _ _ hi
        omega
      · rw [List.getElem?_append_right (by omega)] at hi hj
        have := hr _ _ hi
        have := hr _ _ hj
        omega
    · by_cases h1 : k9 < W1.length
      · rw [List.getElem?_append_left h1] at hx
        exact hD1.2 k9 x hx
      · rw [List.getElem?_append_right (by omega)] at hx
        have := hr _ _ hx
        exact hA _ (by have := hS.1; omega)
  have hAr : ArrOfT s cA (.array ty) := fun N9 z9 => by
    obtain ⟨-, k9, hk9, cm9, hkk9⟩ := (hO 0 0 0).1
    exact ⟨(fun q hq => by cases hq), k9, hk9, cm9, hkk9⟩
  have hK2 : va_K D cl (tys ++ [(cA, .array ty)]) s := ⟨hK.1, fun k9 x hx => by
    by_cases hl : k9 < tys.length
    · rw [List.getElem?_append_left hl] at hx
      exact hK.2 k9 x hx
    · rw [List.getElem?_append_right (by omega)] at hx
      have h0 : k9 - tys.length < 1 := (List.getElem?_eq_some_iff.mp hx).1
      rw [show k9 - tys.length = 0 by omega] at hx
      cases hx
      exact ⟨hAr, fA⟩⟩
  obtain ⟨t, a1, b1⟩ := kk H.size (fun i => H.size + 1 + i) cA F.heap (fun i j _ _ h => by have h9 : H.size + 1 + i = H.size + 1 + j := h; omega) hnl hK2 (by rw [← vr_rows hnm]; exact vr_lay hP2) (by rw [← vr_rows hnm]; exact vr_layD hD2) ⟨by rw [f1]; have := hS.1; omega, fun x h1 h2 => (hold x (Nat.lt_of_lt_of_le h1 hS.1)).trans (hS.2.1 x h1 h2), hS.2.2⟩ F rfl X'
  refine ⟨t, step t ?_, b1⟩
  have e : T.heap.size = H.size := by rw [hT]
  rw [e]
  exact a1
end VGM
/-! ===== END ===== -/

/-! ===== BEGIN printed: names, fields, word lists, decode rows ===== -/
def RX0 : String := "SymbolBench$Atlas"
def TX0 : u_T := fun k => match k with
  | 0 => ("SymbolBench$Atlas", "paths", "[LSymbolBench$Path;", true)
  | 1 => ("SymbolBench$Atlas", "onesOfWord", "[J", true)
  | 2 => ("SymbolBench$Atlas", "resultOfWord", "[I", true)
  | 3 => ("SymbolBench$Atlas", "size", "I", false)
  | 4 => ("SymbolBench$Atlas", "visited", "J", false)
  | _ => ("SymbolBench$Atlas", "failed", "J", false)
def tyX0 : Nat → FieldType := fun k => match k with
  | 0 => .array (.object "SymbolBench$Path")
  | 1 => .array .long
  | 2 => .array .int
  | 3 => .int
  | 4 => .long
  | _ => .long
abbrev wsX00 : List Cond := u_ws RX0 TX0 6
theorem nmX0 : ∀ a, a < 6 → ∀ b, b < 6 → a ≠ b → (TX0 a).2.1 ≠ (TX0 b).2.1 := by decide +kernel
theorem tyX0_ok : ∀ k, k < 6 → parseFieldDescriptor (TX0 k).2.2.1 = some (tyX0 k) := by decide +kernel
abbrev cX0_init : ByteArray := prog_2_method_1_code
def yX0_init : MethodName := ⟨RX0, "<init>", "()V"⟩
abbrev cX0_forget : ByteArray := prog_2_method_2_code
def yX0_forget : MethodName := ⟨RX0, "forget", "()V"⟩
abbrev cX0_isKnown : ByteArray := prog_2_method_3_code
def yX0_isKnown : MethodName := ⟨RX0, "isKnown", "()Z"⟩
abbrev cX0_knownOrNone : ByteArray := prog_2_method_4_code
def yX0_knownOrNone : MethodName := ⟨RX0, "knownOrNone", "(I)I"⟩
abbrev cX0_pathAt : ByteArray := prog_2_method_5_code
def yX0_pathAt : MethodName := ⟨RX0, "pathAt", "(I)LSymbolBench$Path;"⟩
abbrev cX0_survey : ByteArray := prog_2_method_6_code
def yX0_survey : MethodName := ⟨RX0, "survey", "(LSymbolBench$Program;LSymbolBench$Machine;)V"⟩
abbrev cX0_enter : ByteArray := prog_2_method_7_code
def yX0_enter : MethodName := ⟨RX0, "enter", "(LSymbolBench$Machine;I)Z"⟩
abbrev cX0_firstNotAheadOf : ByteArray := prog_2_method_8_code
def yX0_firstNotAheadOf : MethodName := ⟨RX0, "firstNotAheadOf", "(J)I"⟩
abbrev cX0_insertAt : ByteArray := prog_2_method_9_code
def yX0_insertAt : MethodName := ⟨RX0, "insertAt", "(I)LSymbolBench$Path;"⟩
abbrev cX0_numberOf : ByteArray := prog_2_method_10_code
def yX0_numberOf : MethodName := ⟨RX0, "numberOf", "(J)I"⟩
abbrev cX0_goes : ByteArray := prog_2_method_11_code
def yX0_goes : MethodName := ⟨RX0, "goes", "(LSymbolBench$Path;I)Z"⟩
abbrev cX0_leastWordWith : ByteArray := prog_2_method_12_code
def yX0_leastWordWith : MethodName := ⟨RX0, "leastWordWith", "(LSymbolBench$Path;III)I"⟩
abbrev cX0_isWanted : ByteArray := prog_2_method_13_code
def yX0_isWanted : MethodName := ⟨RX0, "isWanted", "(III)Z"⟩
abbrev cX0_firstFailing : ByteArray := prog_2_method_14_code
def yX0_firstFailing : MethodName := ⟨RX0, "firstFailing", "(I)LSymbolBench$Path;"⟩
def RX1 : String := "SymbolBench$Machine"
def TX1 : u_T := fun k => match k with
  | 0 => ("SymbolBench$Machine", "registers", "[I", true)
  | 1 => ("SymbolBench$Machine", "cells", "[I", true)
  | 2 => ("SymbolBench$Machine", "isGuided", "Z", false)
  | 3 => ("SymbolBench$Machine", "guidingOnes", "J", false)
  | 4 => ("SymbolBench$Machine", "place", "I", false)
  | 5 => ("SymbolBench$Machine", "placeMark", "J", false)
  | 6 => ("SymbolBench$Machine", "visited", "J", false)
  | 7 => ("SymbolBench$Machine", "decided", "J", false)
  | 8 => ("SymbolBench$Machine", "ones", "J", false)
  | 9 => ("SymbolBench$Machine", "hasEnded", "Z", false)
  | 10 => ("SymbolBench$Machine", "end", "I", false)
  | _ => ("SymbolBench$Machine", "result", "I", false)
def tyX1 : Nat → FieldType := fun k => match k with
  | 0 => .array .int
  | 1 => .array .int
  | 2 => .boolean
  | 3 => .long
  | 4 => .int
  | 5 => .long
  | 6 => .long
  | 7 => .long
  | 8 => .long
  | 9 => .boolean
  | 10 => .int
  | _ => .int
abbrev wsX10 : List Cond := u_ws RX1 TX1 12
theorem nmX1 : ∀ a, a < 12 → ∀ b, b < 12 → a ≠ b → (TX1 a).2.1 ≠ (TX1 b).2.1 := by decide +kernel
theorem tyX1_ok : ∀ k, k < 12 → parseFieldDescriptor (TX1 k).2.2.1 = some (tyX1 k) := by decide +kernel
abbrev cX1_init : ByteArray := prog_3_method_1_code
def yX1_init : MethodName := ⟨RX1, "<init>", "()V"⟩
abbrev cX1_execute : ByteArray := prog_3_method_2_code
def yX1_execute : MethodName := ⟨RX1, "execute", "(LSymbolBench$Program;ILSymbolBench$Path;)V"⟩
abbrev cX1_begin : ByteArray := prog_3_method_3_code
def yX1_begin : MethodName := ⟨RX1, "begin", "(LSymbolBench$Path;)V"⟩
abbrev cX1_stop : ByteArray := prog_3_method_4_code
def yX1_stop : MethodName := ⟨RX1, "stop", "(II)V"⟩
abbrev cX1_decide : ByteArray := prog_3_method_5_code
def yX1_decide : MethodName := ⟨RX1, "decide", "(Z)Z"⟩
abbrev cX1_step : ByteArray := prog_3_method_6_code
def yX1_step : MethodName := ⟨RX1, "step", "(LSymbolBench$Program;I)I"⟩
abbrev cX1_calculate : ByteArray := prog_3_method_7_code
def yX1_calculate : MethodName := ⟨RX1, "calculate", "(IIII)V"⟩
abbrev cX1_load : ByteArray := prog_3_method_8_code
def yX1_load : MethodName := ⟨RX1, "load", "(II)V"⟩
abbrev cX1_store : ByteArray := prog_3_method_9_code
def yX1_store : MethodName := ⟨RX1, "store", "(II)V"⟩
abbrev cX1_stopUnlessTrue : ByteArray := prog_3_method_10_code
def yX1_stopUnlessTrue : MethodName := ⟨RX1, "stopUnlessTrue", "(I)V"⟩
def RX2 : String := "SymbolBench$Path"
def TX2 : u_T := fun k => match k with
  | 0 => ("SymbolBench$Path", "decided", "J", false)
  | 1 => ("SymbolBench$Path", "ones", "J", false)
  | 2 => ("SymbolBench$Path", "end", "I", false)
  | 3 => ("SymbolBench$Path", "endPlace", "I", false)
  | 4 => ("SymbolBench$Path", "leastWord", "I", false)
  | 5 => ("SymbolBench$Path", "result", "I", false)
  | _ => ("SymbolBench$Path", "alwaysSameResult", "Z", false)
def tyX2 : Nat → FieldType := fun k => match k with
  | 0 => .long
  | 1 => .long
  | 2 => .int
  | 3 => .int
  | 4 => .int
  | 5 => .int
  | _ => .boolean
abbrev wsX20 : List Cond := u_ws RX2 TX2 7
theorem nmX2 : ∀ a, a < 7 → ∀ b, b < 7 → a ≠ b → (TX2 a).2.1 ≠ (TX2 b).2.1 := by decide +kernel
theorem tyX2_ok : ∀ k, k < 7 → parseFieldDescriptor (TX2 k).2.2.1 = some (tyX2 k) := by decide +kernel
abbrev cX2_init : ByteArray := prog_4_method_1_code
def yX2_init : MethodName := ⟨RX2, "<init>", "()V"⟩
abbrev cX2_take : ByteArray := prog_4_method_2_code
def yX2_take : MethodName := ⟨RX2, "take", "(LSymbolBench$Machine;I)V"⟩
def RX3 : String := "SymbolBench$Program"
def TX3 : u_T := fun k => match k with
  | 0 => ("SymbolBench$Program", "widths", "[I", true)
  | 1 => ("SymbolBench$Program", "reaches", "[I", true)
  | 2 => ("SymbolBench$Program", "signs", "[Z", true)
  | 3 => ("SymbolBench$Program", "inputs", "I", false)
  | 4 => ("SymbolBench$Program", "bits", "I", false)
  | 5 => ("SymbolBench$Program", "numbers", "[I", true)
  | 6 => ("SymbolBench$Program", "firsts", "[I", true)
  | 7 => ("SymbolBench$Program", "seconds", "[I", true)
  | 8 => ("SymbolBench$Program", "thirds", "[I", true)
  | 9 => ("SymbolBench$Program", "size", "I", false)
  | 10 => ("SymbolBench$Program", "multiplications", "I", false)
  | _ => ("SymbolBench$Program", "divisions", "I", false)
def tyX3 : Nat → FieldType := fun k => match k with
  | 0 => .array .int
  | 1 => .array .int
  | 2 => .array .boolean
  | 3 => .int
  | 4 => .int
  | 5 => .array .int
  | 6 => .array .int
  | 7 => .array .int
  | 8 => .array .int
  | 9 => .int
  | 10 => .int
  | _ => .int
abbrev wsX30 : List Cond := u_ws RX3 TX3 12
theorem nmX3 : ∀ a, a < 12 → ∀ b, b < 12 → a ≠ b → (TX3 a).2.1 ≠ (TX3 b).2.1 := by decide +kernel
theorem tyX3_ok : ∀ k, k < 12 → parseFieldDescriptor (TX3 k).2.2.1 = some (tyX3 k) := by decide +kernel
abbrev cX3_init : ByteArray := prog_5_method_1_code
def yX3_init : MethodName := ⟨RX3, "<init>", "()V"⟩
abbrev cX3_empty : ByteArray := prog_5_method_2_code
def yX3_empty : MethodName := ⟨RX3, "empty", "()V"⟩
abbrev cX3_addInput : ByteArray := prog_5_method_3_code
def yX3_addInput : MethodName := ⟨RX3, "addInput", "(IZ)I"⟩
abbrev cX3_addInstruction : ByteArray := prog_5_method_4_code
def yX3_addInstruction : MethodName := ⟨RX3, "addInstruction", "(IIII)I"⟩
abbrev cX3_fits : ByteArray := prog_5_method_5_code
def yX3_fits : MethodName := ⟨RX3, "fits", "(IIII)Z"⟩
abbrev cX3_takesThreeRegisters : ByteArray := prog_5_method_6_code
def yX3_takesThreeRegisters : MethodName := ⟨RX3, "takesThreeRegisters", "(I)Z"⟩
abbrev cX3_isTarget : ByteArray := prog_5_method_7_code
def yX3_isTarget : MethodName := ⟨RX3, "isTarget", "(I)Z"⟩
abbrev cX3_wouldBeTooMany : ByteArray := prog_5_method_8_code
def yX3_wouldBeTooMany : MethodName := ⟨RX3, "wouldBeTooMany", "(I)Z"⟩
abbrev cX3_words : ByteArray := prog_5_method_9_code
def yX3_words : MethodName := ⟨RX3, "words", "()I"⟩
abbrev cX3_hasWord : ByteArray := prog_5_method_10_code
def yX3_hasWord : MethodName := ⟨RX3, "hasWord", "(I)Z"⟩
abbrev cX3_inputIn : ByteArray := prog_5_method_11_code
def yX3_inputIn : MethodName := ⟨RX3, "inputIn", "(II)I"⟩
def RX4 : String := "SymbolBench"
def TX4 : u_T := fun k => match k with
  | 0 => ("SymbolBench", "program", "LSymbolBench$Program;", true)
  | 1 => ("SymbolBench", "atlas", "LSymbolBench$Atlas;", true)
  | 2 => ("SymbolBench", "prober", "LSymbolBench$Machine;", true)
  | 3 => ("SymbolBench", "runner", "LSymbolBench$Machine;", true)
  | 4 => ("SymbolBench", "hasRun", "Z", false)
  | _ => ("SymbolBench", "changedSinceRun", "Z", false)
def tyX4 : Nat → FieldType := fun k => match k with
  | 0 => .object "SymbolBench$Program"
  | 1 => .object "SymbolBench$Atlas"
  | 2 => .object "SymbolBench$Machine"
  | 3 => .object "SymbolBench$Machine"
  | 4 => .boolean
  | _ => .boolean
abbrev wsX40 : List Cond := u_ws RX4 TX4 6
theorem nmX4 : ∀ a, a < 6 → ∀ b, b < 6 → a ≠ b → (TX4 a).2.1 ≠ (TX4 b).2.1 := by decide +kernel
theorem tyX4_ok : ∀ k, k < 6 → parseFieldDescriptor (TX4 k).2.2.1 = some (tyX4 k) := by decide +kernel
abbrev cX4_init : ByteArray := prog_1_method_1_code
def yX4_init : MethodName := ⟨RX4, "<init>", "()V"⟩
abbrev cX4_input : ByteArray := prog_1_method_2_code
def yX4_input : MethodName := ⟨RX4, "input", "(IZ)I"⟩
abbrev cX4_tell : ByteArray := prog_1_method_3_code
def yX4_tell : MethodName := ⟨RX4, "tell", "(IIII)I"⟩
abbrev cX4_clear : ByteArray := prog_1_method_4_code
def yX4_clear : MethodName := ⟨RX4, "clear", "()I"⟩
abbrev cX4_explore : ByteArray := prog_1_method_5_code
def yX4_explore : MethodName := ⟨RX4, "explore", "()I"⟩
abbrev cX4_path : ByteArray := prog_1_method_6_code
def yX4_path : MethodName := ⟨RX4, "path", "(II)I"⟩
abbrev cX4_decision : ByteArray := prog_1_method_7_code
def yX4_decision : MethodName := ⟨RX4, "decision", "(II)I"⟩
abbrev cX4_holds : ByteArray := prog_1_method_8_code
def yX4_holds : MethodName := ⟨RX4, "holds", "(II)I"⟩
abbrev cX4_value : ByteArray := prog_1_method_9_code
def yX4_value : MethodName := ⟨RX4, "value", "(II)I"⟩
abbrev cX4_find : ByteArray := prog_1_method_10_code
def yX4_find : MethodName := ⟨RX4, "find", "(III)I"⟩
abbrev cX4_run : ByteArray := prog_1_method_11_code
def yX4_run : MethodName := ⟨RX4, "run", "(I)I"⟩
abbrev cX4_ran : ByteArray := prog_1_method_12_code
def yX4_ran : MethodName := ⟨RX4, "ran", "(I)I"⟩
abbrev cX4_register : ByteArray := prog_1_method_13_code
def yX4_register : MethodName := ⟨RX4, "register", "(I)I"⟩
abbrev cX4_cell : ByteArray := prog_1_method_14_code
def yX4_cell : MethodName := ⟨RX4, "cell", "(I)I"⟩
abbrev cX4_failure : ByteArray := prog_1_method_15_code
def yX4_failure : MethodName := ⟨RX4, "failure", "(II)I"⟩
abbrev cX4_covered : ByteArray := prog_1_method_16_code
def yX4_covered : MethodName := ⟨RX4, "covered", "(I)I"⟩
abbrev cX4_count : ByteArray := prog_1_method_17_code
def yX4_count : MethodName := ⟨RX4, "count", "(I)I"⟩
abbrev cX4_forgetFindings : ByteArray := prog_1_method_18_code
def yX4_forgetFindings : MethodName := ⟨RX4, "forgetFindings", "()V"⟩
abbrev cX4_mark : ByteArray := prog_1_method_19_code
def yX4_mark : MethodName := ⟨RX4, "mark", "(I)J"⟩
abbrev cX4_isMarked : ByteArray := prog_1_method_20_code
def yX4_isMarked : MethodName := ⟨RX4, "isMarked", "(JI)Z"⟩
abbrev cX4_placeOfMark : ByteArray := prog_1_method_21_code
def yX4_placeOfMark : MethodName := ⟨RX4, "placeOfMark", "(JI)I"⟩
abbrev cX4_isBelowUnsigned : ByteArray := prog_1_method_22_code
def yX4_isBelowUnsigned : MethodName := ⟨RX4, "isBelowUnsigned", "(II)Z"⟩
abbrev cX4_combine : ByteArray := prog_1_method_23_code
def yX4_combine : MethodName := ⟨RX4, "combine", "(III)I"⟩
abbrev cX4_divide : ByteArray := prog_1_method_24_code
def yX4_divide : MethodName := ⟨RX4, "divide", "(III)I"⟩
abbrev cX4_isDivision : ByteArray := prog_1_method_25_code
def yX4_isDivision : MethodName := ⟨RX4, "isDivision", "(I)Z"⟩
abbrev cX4_isRegister : ByteArray := prog_1_method_26_code
def yX4_isRegister : MethodName := ⟨RX4, "isRegister", "(I)Z"⟩
abbrev cX4_isCell : ByteArray := prog_1_method_27_code
def yX4_isCell : MethodName := ⟨RX4, "isCell", "(I)Z"⟩
def RX5 : String := "SymbolBenchModel"
def TX5 : u_T := fun k => match k with
  | 0 => ("SymbolBenchModel", "thrown", "I", false)
  | 1 => ("SymbolBenchModel", "inputs", "I", false)
  | 2 => ("SymbolBenchModel", "bits", "I", false)
  | 3 => ("SymbolBenchModel", "size", "I", false)
  | 4 => ("SymbolBenchModel", "muls", "I", false)
  | 5 => ("SymbolBenchModel", "divisions", "I", false)
  | 6 => ("SymbolBenchModel", "wide", "[I", true)
  | 7 => ("SymbolBenchModel", "signed", "[Z", true)
  | 8 => ("SymbolBenchModel", "op", "[I", true)
  | 9 => ("SymbolBenchModel", "a", "[I", true)
  | 10 => ("SymbolBenchModel", "b", "[I", true)
  | 11 => ("SymbolBenchModel", "c", "[I", true)
  | 12 => ("SymbolBenchModel", "paths", "I", false)
  | 13 => ("SymbolBenchModel", "end", "[I", true)
  | 14 => ("SymbolBenchModel", "place", "[I", true)
  | 15 => ("SymbolBenchModel", "many", "[I", true)
  | 16 => ("SymbolBenchModel", "least", "[I", true)
  | 17 => ("SymbolBenchModel", "alike", "[Z", true)
  | 18 => ("SymbolBenchModel", "row", "[[I", true)
  | 19 => ("SymbolBenchModel", "of", "[I", true)
  | 20 => ("SymbolBenchModel", "result", "[I", true)
  | 21 => ("SymbolBenchModel", "met", "[Z", true)
  | 22 => ("SymbolBenchModel", "reg", "[I", true)
  | 23 => ("SymbolBenchModel", "cell", "[I", true)
  | 24 => ("SymbolBenchModel", "made", "[I", true)
  | 25 => ("SymbolBenchModel", "runEnd", "I", false)
  | 26 => ("SymbolBenchModel", "runPlace", "I", false)
  | 27 => ("SymbolBenchModel", "runResult", "I", false)
  | 28 => ("SymbolBenchModel", "runDone", "I", false)
  | 29 => ("SymbolBenchModel", "runMade", "I", false)
  | 30 => ("SymbolBenchModel", "ran", "Z", false)
  | 31 => ("SymbolBenchModel", "told", "I", false)
  | 32 => ("SymbolBenchModel", "toldEnd", "I", false)
  | 33 => ("SymbolBenchModel", "toldPlace", "I", false)
  | 34 => ("SymbolBenchModel", "toldResult", "I", false)
  | 35 => ("SymbolBenchModel", "toldDone", "I", false)
  | 36 => ("SymbolBenchModel", "toldMade", "I", false)
  | 37 => ("SymbolBenchModel", "toldReg", "[I", true)
  | 38 => ("SymbolBenchModel", "toldCell", "[I", true)
  | _ => ("SymbolBenchModel", "same", "Z", false)
def tyX5 : Nat → FieldType := fun k => match k with
  | 0 => .int
  | 1 => .int
  | 2 => .int
  | 3 => .int
  | 4 => .int
  | 5 => .int
  | 6 => .array .int
  | 7 => .array .boolean
  | 8 => .array .int
  | 9 => .array .int
  | 10 => .array .int
  | 11 => .array .int
  | 12 => .int
  | 13 => .array .int
  | 14 => .array .int
  | 15 => .array .int
  | 16 => .array .int
  | 17 => .array .boolean
  | 18 => .array (.array .int)
  | 19 => .array .int
  | 20 => .array .int
  | 21 => .array .boolean
  | 22 => .array .int
  | 23 => .array .int
  | 24 => .array .int
  | 25 => .int
  | 26 => .int
  | 27 => .int
  | 28 => .int
  | 29 => .int
  | 30 => .boolean
  | 31 => .int
  | 32 => .int
  | 33 => .int
  | 34 => .int
  | 35 => .int
  | 36 => .int
  | 37 => .array .int
  | 38 => .array .int
  | _ => .boolean
abbrev wsX50 : List Cond := u_ws RX5 TX5 40
theorem nmX5 : ∀ a, a < 40 → ∀ b, b < 40 → a ≠ b → (TX5 a).2.1 ≠ (TX5 b).2.1 := by decide +kernel
theorem tyX5_ok : ∀ k, k < 40 → parseFieldDescriptor (TX5 k).2.2.1 = some (tyX5 k) := by decide +kernel
abbrev cX5_init : ByteArray := prog_7_method_1_code
def yX5_init : MethodName := ⟨RX5, "<init>", "()V"⟩
abbrev cX5_changed : ByteArray := prog_7_method_3_code
def yX5_changed : MethodName := ⟨RX5, "changed", "()V"⟩
abbrev cX5_input : ByteArray := prog_7_method_4_code
def yX5_input : MethodName := ⟨RX5, "input", "(IZ)I"⟩
abbrev cX5_isRegister : ByteArray := prog_7_method_5_code
def yX5_isRegister : MethodName := ⟨RX5, "isRegister", "(I)Z"⟩
abbrev cX5_isTarget : ByteArray := prog_7_method_6_code
def yX5_isTarget : MethodName := ⟨RX5, "isTarget", "(I)Z"⟩
abbrev cX5_isGood : ByteArray := prog_7_method_7_code
def yX5_isGood : MethodName := ⟨RX5, "isGood", "(IIII)Z"⟩
abbrev cX5_isDivision : ByteArray := prog_7_method_8_code
def yX5_isDivision : MethodName := ⟨RX5, "isDivision", "(I)Z"⟩
abbrev cX5_tell : ByteArray := prog_7_method_9_code
def yX5_tell : MethodName := ⟨RX5, "tell", "(IIII)I"⟩
abbrev cX5_clear : ByteArray := prog_7_method_10_code
def yX5_clear : MethodName := ⟨RX5, "clear", "()I"⟩
abbrev cX5_words : ByteArray := prog_7_method_11_code
def yX5_words : MethodName := ⟨RX5, "words", "()I"⟩
abbrev cX5_inputOf : ByteArray := prog_7_method_12_code
def yX5_inputOf : MethodName := ⟨RX5, "inputOf", "(II)I"⟩
abbrev cX5_isBelow : ByteArray := prog_7_method_13_code
def yX5_isBelow : MethodName := ⟨RX5, "isBelow", "(II)Z"⟩
abbrev cX5_plain : ByteArray := prog_7_method_14_code
def yX5_plain : MethodName := ⟨RX5, "plain", "(I)J"⟩
abbrev cX5_truth : ByteArray := prog_7_method_15_code
def yX5_truth : MethodName := ⟨RX5, "truth", "(Z)I"⟩
abbrev cX5_reckoned : ByteArray := prog_7_method_16_code
def yX5_reckoned : MethodName := ⟨RX5, "reckoned", "(III)I"⟩
abbrev cX5_ends : ByteArray := prog_7_method_17_code
def yX5_ends : MethodName := ⟨RX5, "ends", "(III)V"⟩
abbrev cX5_go : ByteArray := prog_7_method_18_code
def yX5_go : MethodName := ⟨RX5, "go", "(I[IZ)V"⟩
abbrev cX5_isPath : ByteArray := prog_7_method_19_code
def yX5_isPath : MethodName := ⟨RX5, "isPath", "(I)Z"⟩
abbrev cX5_explore : ByteArray := prog_7_method_20_code
def yX5_explore : MethodName := ⟨RX5, "explore", "()I"⟩
abbrev cX5_isAhead : ByteArray := prog_7_method_21_code
def yX5_isAhead : MethodName := ⟨RX5, "isAhead", "(II)Z"⟩
abbrev cX5_order : ByteArray := prog_7_method_22_code
def yX5_order : MethodName := ⟨RX5, "order", "()V"⟩
abbrev cX5_turn : ByteArray := prog_7_method_23_code
def yX5_turn : MethodName := ⟨RX5, "turn", "([III)V"⟩
abbrev cX5_exchange : ByteArray := prog_7_method_24_code
def yX5_exchange : MethodName := ⟨RX5, "exchange", "(II)V"⟩
abbrev cX5_has : ByteArray := prog_7_method_25_code
def yX5_has : MethodName := ⟨RX5, "has", "(I)Z"⟩
abbrev cX5_isWord : ByteArray := prog_7_method_26_code
def yX5_isWord : MethodName := ⟨RX5, "isWord", "(I)Z"⟩
abbrev cX5_path : ByteArray := prog_7_method_27_code
def yX5_path : MethodName := ⟨RX5, "path", "(II)I"⟩
abbrev cX5_decision : ByteArray := prog_7_method_28_code
def yX5_decision : MethodName := ⟨RX5, "decision", "(II)I"⟩
abbrev cX5_holds : ByteArray := prog_7_method_29_code
def yX5_holds : MethodName := ⟨RX5, "holds", "(II)I"⟩
abbrev cX5_value : ByteArray := prog_7_method_30_code
def yX5_value : MethodName := ⟨RX5, "value", "(II)I"⟩
abbrev cX5_find : ByteArray := prog_7_method_31_code
def yX5_find : MethodName := ⟨RX5, "find", "(III)I"⟩
abbrev cX5_run : ByteArray := prog_7_method_32_code
def yX5_run : MethodName := ⟨RX5, "run", "(I)I"⟩
abbrev cX5_ran : ByteArray := prog_7_method_33_code
def yX5_ran : MethodName := ⟨RX5, "ran", "(I)I"⟩
abbrev cX5_register : ByteArray := prog_7_method_34_code
def yX5_register : MethodName := ⟨RX5, "register", "(I)I"⟩
abbrev cX5_cell : ByteArray := prog_7_method_35_code
def yX5_cell : MethodName := ⟨RX5, "cell", "(I)I"⟩
abbrev cX5_failing : ByteArray := prog_7_method_36_code
def yX5_failing : MethodName := ⟨RX5, "failing", "(II)I"⟩
abbrev cX5_failures : ByteArray := prog_7_method_37_code
def yX5_failures : MethodName := ⟨RX5, "failures", "()I"⟩
abbrev cX5_failure : ByteArray := prog_7_method_38_code
def yX5_failure : MethodName := ⟨RX5, "failure", "(II)I"⟩
abbrev cX5_covered : ByteArray := prog_7_method_39_code
def yX5_covered : MethodName := ⟨RX5, "covered", "(I)I"⟩
abbrev cX5_count : ByteArray := prog_7_method_40_code
def yX5_count : MethodName := ⟨RX5, "count", "(I)I"⟩
def RJ13 : String := "java/lang/Long"
def TJ13 : u_T := fun k => match k with
  | _ => ("", "", "", false)
def tyJ13 : Nat → FieldType := fun k => match k with
  | _ => .int
abbrev wsJ130 : List Cond := u_ws RJ13 TJ13 0
theorem nmJ13 : ∀ a, a < 0 → ∀ b, b < 0 → a ≠ b → (TJ13 a).2.1 ≠ (TJ13 b).2.1 := by decide +kernel
theorem tyJ13_ok : ∀ k, k < 0 → parseFieldDescriptor (TJ13 k).2.2.1 = some (tyJ13 k) := by decide +kernel
abbrev cJ13_bitCount_95d88 : ByteArray := prog_8_method_50_code
def yJ13_bitCount_95d88 : MethodName := ⟨RJ13, "bitCount", "(J)I"⟩
def RJ7 : String := "java/util/Arrays"
def TJ7 : u_T := fun k => match k with
  | _ => ("", "", "", false)
def tyJ7 : Nat → FieldType := fun k => match k with
  | _ => .int
abbrev wsJ70 : List Cond := u_ws RJ7 TJ7 0
theorem nmJ7 : ∀ a, a < 0 → ∀ b, b < 0 → a ≠ b → (TJ7 a).2.1 ≠ (TJ7 b).2.1 := by decide +kernel
theorem tyJ7_ok : ∀ k, k < 0 → parseFieldDescriptor (TJ7 k).2.2.1 = some (tyJ7 k) := by decide +kernel
abbrev cJ7_fill_53178 : ByteArray := prog_9_method_103_code
def yJ7_fill_53178 : MethodName := ⟨RJ7, "fill", "([II)V"⟩
def RL : String := "SymbolBenchLaw"
abbrev cL_law : ByteArray := code
def yL_law : MethodName := ⟨RL, "law", "([I)Z"⟩
end
section
theorem dX4_init_0 : decode cX4_init 0 = .ok (.aload_n 0, 1) := by decide +kernel
theorem dX4_init_1 : decode cX4_init 1 = .ok (.invokespecial 3, 3) := by decide +kernel
theorem dX4_init_4 : decode cX4_init 4 = .ok (.aload_n 0, 1) := by decide +kernel
theorem dX4_init_5 : decode cX4_init 5 = .ok (.new 9, 3) := by decide +kernel
theorem dX4_init_8 : decode cX4_init 8 = .ok (.dup, 1) := by decide +kernel
theorem dX4_init_9 : decode cX4_init 9 = .ok (.invokespecial 11, 3) := by decide +kernel
theorem dX4_init_12 : decode cX4_init 12 = .ok (.putfield 12, 3) := by decide +kernel
theorem dX4_init_15 : decode cX4_init 15 = .ok (.aload_n 0, 1) := by decide +kernel
theorem dX4_init_16 : decode cX4_init 16 = .ok (.new 16, 3) := by decide +kernel
theorem dX4_init_19 : decode cX4_init 19 = .ok (.dup, 1) := by decide +kernel
theorem dX4_init_20 : decode cX4_init 20 = .ok (.invokespecial 18, 3) := by decide +kernel
theorem dX4_init_23 : decode cX4_init 23 = .ok (.putfield 19, 3) := by decide +kernel
theorem dX4_init_26 : decode cX4_init 26 = .ok (.aload_n 0, 1) := by decide +kernel
theorem dX4_init_27 : decode cX4_init 27 = .ok (.new 23, 3) := by decide +kernel
theorem dX4_init_30 : decode cX4_init 30 = .ok (.dup, 1) := by decide +kernel
theorem dX4_init_31 : decode cX4_init 31 = .ok (.invokespecial 25, 3) := by decide +kernel
theorem dX4_init_34 : decode cX4_init 34 = .ok (.putfield 26, 3) := by decide +kernel
theorem dX4_init_37 : decode cX4_init 37 = .ok (.aload_n 0, 1) := by decide +kernel
theorem dX4_init_38 : decode cX4_init 38 = .ok (.new 23, 3) := by decide +kernel
theorem dX4_init_41 : decode cX4_init 41 = .ok (.dup, 1) := by decide +kernel
theorem dX4_init_42 : decode cX4_init 42 = .ok (.invokespecial 25, 3) := by decide +kernel
theorem dX4_init_45 : decode cX4_init 45 = .ok (.putfield 30, 3) := by decide +kernel
theorem dX4_init_48 : decode cX4_init 48 = .ok (.return_, 1) := by decide +kernel
theorem dX4_input_0 : decode cX4_input 0 = .ok (.aload_n 0, 1) := by decide +kernel
theorem dX4_input_1 : decode cX4_input 1 = .ok (.getfield 12, 3) := by decide +kernel
theorem dX4_input_4 : decode cX4_input 4 = .ok (.iload_n 1, 1) := by decide +kernel
theorem dX4_input_5 : decode cX4_input 5 = .ok (.iload_n 2, 1) := by decide +kernel
theorem dX4_input_6 : decode cX4_input 6 = .ok (.invokevirtual 33, 3) := by decide +kernel
theorem dX4_input_9 : decode cX4_input 9 = .ok (.istore_n 3, 1) := by decide +kernel
theorem dX4_input_10 : decode cX4_input 10 = .ok (.iload_n 3, 1) := by decide +kernel
theorem dX4_input_11 : decode cX4_input 11 = .ok (.iconst (-1), 1) := by decide +kernel
theorem dX4_input_12 : decode cX4_input 12 = .ok (.if_icmp .eq 7, 3) := by decide +kernel
theorem dX4_input_15 : decode cX4_input 15 = .ok (.aload_n 0, 1) := by decide +kernel
theorem dX4_input_16 : decode cX4_input 16 = .ok (.invokevirtual 37, 3) := by decide +kernel
theorem dX4_input_19 : decode cX4_input 19 = .ok (.iload_n 3, 1) := by decide +kernel
theorem dX4_input_20 : decode cX4_input 20 = .ok (.ireturn, 1) := by decide +kernel
theorem dX4_tell_0 : decode cX4_tell 0 = .ok (.aload_n 0, 1) := by decide +kernel
theorem dX4_tell_1 : decode cX4_tell 1 = .ok (.getfield 12, 3) := by decide +kernel
theorem dX4_tell_4 : decode cX4_tell 4 = .ok (.iload_n 1, 1) := by decide +kernel
theorem dX4_tell_5 : decode cX4_tell 5 = .ok (.iload_n 2, 1) := by decide +kernel
theorem dX4_tell_6 : decode cX4_tell 6 = .ok (.iload_n 3, 1) := by decide +kernel
theorem dX4_tell_7 : decode cX4_tell 7 = .ok (.iload 4, 2) := by decide +kernel
theorem dX4_tell_9 : decode cX4_tell 9 = .ok (.invokevirtual 40, 3) := by decide +kernel
theorem dX4_tell_12 : decode cX4_tell 12 = .ok (.istore 5, 2) := by decide +kernel
theorem dX4_tell_14 : decode cX4_tell 14 = .ok (.iload 5, 2) := by decide +kernel
theorem dX4_tell_16 : decode cX4_tell 16 = .ok (.iconst (-1), 1) := by decide +kernel
theorem dX4_tell_17 : decode cX4_tell 17 = .ok (.if_icmp .eq 7, 3) := by decide +kernel
theorem dX4_tell_20 : decode cX4_tell 20 = .ok (.aload_n 0, 1) := by decide +kernel
theorem dX4_tell_21 : decode cX4_tell 21 = .ok (.invokevirtual 37, 3) := by decide +kernel
theorem dX4_tell_24 : decode cX4_tell 24 = .ok (.iload 5, 2) := by decide +kernel
theorem dX4_tell_26 : decode cX4_tell 26 = .ok (.ireturn, 1) := by decide +kernel
theorem dX4_clear_0 : decode cX4_clear 0 = .ok (.aload_n 0, 1) := by decide +kernel
theorem dX4_clear_1 : decode cX4_clear 1 = .ok (.getfield 12, 3) := by decide +kernel
theorem dX4_clear_4 : decode cX4_clear 4 = .ok (.getfield 44, 3) := by decide +kernel
theorem dX4_clear_7 : decode cX4_clear 7 = .ok (.istore_n 1, 1) := by decide +kernel
theorem dX4_clear_8 : decode cX4_clear 8 = .ok (.aload_n 0, 1) := by decide +kernel
theorem dX4_clear_9 : decode cX4_clear 9 = .ok (.getfield 12, 3) := by decide +kernel
theorem dX4_clear_12 : decode cX4_clear 12 = .ok (.invokevirtual 48, 3) := by decide +kernel
theorem dX4_clear_15 : decode cX4_clear 15 = .ok (.aload_n 0, 1) := by decide +kernel
theorem dX4_clear_16 : decode cX4_clear 16 = .ok (.invokevirtual 37, 3) := by decide +kernel
theorem dX4_clear_19 : decode cX4_clear 19 = .ok (.aload_n 0, 1) := by decide +kernel
theorem dX4_clear_20 : decode cX4_clear 20 = .ok (.iconst 0, 1) := by decide +kernel
theorem dX4_clear_21 : decode cX4_clear 21 = .ok (.putfield 51, 3) := by decide +kernel
theorem dX4_clear_24 : decode cX4_clear 24 = .ok (.iload_n 1, 1) := by decide +kernel
theorem dX4_clear_25 : decode cX4_clear 25 = .ok (.ireturn, 1) := by decide +kernel
theorem dX4_explore_0 : decode cX4_explore 0 = .ok (.aload_n 0, 1) := by decide +kernel
theorem dX4_explore_1 : decode cX4_explore 1 = .ok (.getfield 19, 3) := by decide +kernel
theorem dX4_explore_4 : decode cX4_explore 4 = .ok (.invokevirtual 55, 3) := by decide +kernel
theorem dX4_explore_7 : decode cX4_explore 7 = .ok (.ifCond .ne 18, 3) := by decide +kernel
theorem dX4_explore_10 : decode cX4_explore 10 = .ok (.aload_n 0, 1) := by decide +kernel
theorem dX4_explore_11 : decode cX4_explore 11 = .ok (.getfield 19, 3) := by decide +kernel
theorem dX4_explore_14 : decode cX4_explore 14 = .ok (.aload_n 0, 1) := by decide +kernel
theorem dX4_explore_15 : decode cX4_explore 15 = .ok (.getfield 12, 3) := by decide +kernel
theorem dX4_explore_18 : decode cX4_explore 18 = .ok (.aload_n 0, 1) := by decide +kernel
theorem dX4_explore_19 : decode cX4_explore 19 = .ok (.getfield 26, 3) := by decide +kernel
theorem dX4_explore_22 : decode cX4_explore 22 = .ok (.invokevirtual 59, 3) := by decide +kernel
theorem dX4_explore_25 : decode cX4_explore 25 = .ok (.aload_n 0, 1) := by decide +kernel
theorem dX4_explore_26 : decode cX4_explore 26 = .ok (.getfield 19, 3) := by decide +kernel
theorem dX4_explore_29 : decode cX4_explore 29 = .ok (.aload_n 0, 1) := by decide +kernel
theorem dX4_explore_30 : decode cX4_explore 30 = .ok (.getfield 19, 3) := by decide +kernel
theorem dX4_explore_33 : decode cX4_explore 33 = .ok (.getfield 63, 3) := by decide +kernel
theorem dX4_explore_36 : decode cX4_explore 36 = .ok (.invokevirtual 64, 3) := by decide +kernel
theorem dX4_explore_39 : decode cX4_explore 39 = .ok (.ireturn, 1) := by decide +kernel
theorem dX4_path_0 : decode cX4_path 0 = .ok (.aload_n 0, 1) := by decide +kernel
theorem dX4_path_1 : decode cX4_path 1 = .ok (.getfield 19, 3) := by decide +kernel
theorem dX4_path_4 : decode cX4_path 4 = .ok (.iload_n 1, 1) := by decide +kernel
theorem dX4_path_5 : decode cX4_path 5 = .ok (.invokevirtual 68, 3) := by decide +kernel
theorem dX4_path_8 : decode cX4_path 8 = .ok (.astore_n 3, 1) := by decide +kernel
theorem dX4_path_9 : decode cX4_path 9 = .ok (.aload_n 3, 1) := by decide +kernel
theorem dX4_path_10 : decode cX4_path 10 = .ok (.ifnonnull 5, 3) := by decide +kernel
theorem dX4_path_13 : decode cX4_path 13 = .ok (.iconst (-1), 1) := by decide +kernel
theorem dX4_path_14 : decode cX4_path 14 = .ok (.ireturn, 1) := by decide +kernel
theorem dX4_path_15 : decode cX4_path 15 = .ok (.iload_n 2, 1) := by decide +kernel
theorem dX4_path_16 : decode cX4_path 16 = .ok (.tableswitch 81 0 5 #[40, 45, 50, 58, 63, 68], 40) := by decide +kernel
theorem dX4_path_56 : decode cX4_path 56 = .ok (.aload_n 3, 1) := by decide +kernel
theorem dX4_path_57 : decode cX4_path 57 = .ok (.getfield 72, 3) := by decide +kernel
theorem dX4_path_60 : decode cX4_path 60 = .ok (.ireturn, 1) := by decide +kernel
theorem dX4_path_61 : decode cX4_path 61 = .ok (.aload_n 3, 1) := by decide +kernel
theorem dX4_path_62 : decode cX4_path 62 = .ok (.getfield 77, 3) := by decide +kernel
theorem dX4_path_65 : decode cX4_path 65 = .ok (.ireturn, 1) := by decide +kernel
theorem dX4_path_66 : decode cX4_path 66 = .ok (.aload_n 3, 1) := by decide +kernel
theorem dX4_path_67 : decode cX4_path 67 = .ok (.getfield 80, 3) := by decide +kernel
theorem dX4_path_70 : decode cX4_path 70 = .ok (.invokestatic 84, 3) := by decide +kernel
theorem dX4_path_73 : decode cX4_path 73 = .ok (.ireturn, 1) := by decide +kernel
theorem dX4_path_74 : decode cX4_path 74 = .ok (.aload_n 3, 1) := by decide +kernel
theorem dX4_path_75 : decode cX4_path 75 = .ok (.getfield 90, 3) := by decide +kernel
theorem dX4_path_78 : decode cX4_path 78 = .ok (.ireturn, 1) := by decide +kernel
theorem dX4_path_79 : decode cX4_path 79 = .ok (.aload_n 3, 1) := by decide +kernel
theorem dX4_path_80 : decode cX4_path 80 = .ok (.getfield 93, 3) := by decide +kernel
theorem dX4_path_83 : decode cX4_path 83 = .ok (.ireturn, 1) := by decide +kernel
theorem dX4_path_84 : decode cX4_path 84 = .ok (.aload_n 3, 1) := by decide +kernel
theorem dX4_path_85 : decode cX4_path 85 = .ok (.getfield 96, 3) := by decide +kernel
theorem dX4_path_88 : decode cX4_path 88 = .ok (.ifCond .eq 7, 3) := by decide +kernel
theorem dX4_path_91 : decode cX4_path 91 = .ok (.iconst 1, 1) := by decide +kernel
theorem dX4_path_92 : decode cX4_path 92 = .ok (.goto 4, 3) := by decide +kernel
theorem dX4_path_95 : decode cX4_path 95 = .ok (.iconst 0, 1) := by decide +kernel
theorem dX4_path_96 : decode cX4_path 96 = .ok (.ireturn, 1) := by decide +kernel
theorem dX4_path_97 : decode cX4_path 97 = .ok (.iconst 0, 1) := by decide +kernel
theorem dX4_path_98 : decode cX4_path 98 = .ok (.ireturn, 1) := by decide +kernel
theorem dX4_decision_0 : decode cX4_decision 0 = .ok (.aload_n 0, 1) := by decide +kernel
theorem dX4_decision_1 : decode cX4_decision 1 = .ok (.getfield 19, 3) := by decide +kernel
theorem dX4_decision_4 : decode cX4_decision 4 = .ok (.iload_n 1, 1) := by decide +kernel
theorem dX4_decision_5 : decode cX4_decision 5 = .ok (.invokevirtual 68, 3) := by decide +kernel
theorem dX4_decision_8 : decode cX4_decision 8 = .ok (.astore_n 3, 1) := by decide +kernel
theorem dX4_decision_9 : decode cX4_decision 9 = .ok (.aload_n 3, 1) := by decide +kernel
theorem dX4_decision_10 : decode cX4_decision 10 = .ok (.ifnonnull 5, 3) := by decide +kernel
theorem dX4_decision_13 : decode cX4_decision 13 = .ok (.iconst (-1), 1) := by decide +kernel
theorem dX4_decision_14 : decode cX4_decision 14 = .ok (.ireturn, 1) := by decide +kernel
theorem dX4_decision_15 : decode cX4_decision 15 = .ok (.aload_n 3, 1) := by decide +kernel
theorem dX4_decision_16 : decode cX4_decision 16 = .ok (.getfield 80, 3) := by decide +kernel
theorem dX4_decision_19 : decode cX4_decision 19 = .ok (.iload_n 2, 1) := by decide +kernel
theorem dX4_decision_20 : decode cX4_decision 20 = .ok (.invokestatic 99, 3) := by decide +kernel
theorem dX4_decision_23 : decode cX4_decision 23 = .ok (.istore 4, 2) := by decide +kernel
theorem dX4_decision_25 : decode cX4_decision 25 = .ok (.iload 4, 2) := by decide +kernel
theorem dX4_decision_27 : decode cX4_decision 27 = .ok (.iconst (-1), 1) := by decide +kernel
theorem dX4_decision_28 : decode cX4_decision 28 = .ok (.if_icmp .ne 5, 3) := by decide +kernel
theorem dX4_decision_31 : decode cX4_decision 31 = .ok (.iconst (-1), 1) := by decide +kernel
theorem dX4_decision_32 : decode cX4_decision 32 = .ok (.ireturn, 1) := by decide +kernel
theorem dX4_decision_33 : decode cX4_decision 33 = .ok (.iconst 2, 1) := by decide +kernel
theorem dX4_decision_34 : decode cX4_decision 34 = .ok (.iload 4, 2) := by decide +kernel
theorem dX4_decision_36 : decode cX4_decision 36 = .ok (.imul, 1) := by decide +kernel
theorem dX4_decision_37 : decode cX4_decision 37 = .ok (.aload_n 3, 1) := by decide +kernel
theorem dX4_decision_38 : decode cX4_decision 38 = .ok (.getfield 103, 3) := by decide +kernel
theorem dX4_decision_41 : decode cX4_decision 41 = .ok (.iload 4, 2) := by decide +kernel
theorem dX4_decision_43 : decode cX4_decision 43 = .ok (.invokestatic 106, 3) := by decide +kernel
theorem dX4_decision_46 : decode cX4_decision 46 = .ok (.ifCond .eq 7, 3) := by decide +kernel
theorem dX4_decision_49 : decode cX4_decision 49 = .ok (.iconst 1, 1) := by decide +kernel
theorem dX4_decision_50 : decode cX4_decision 50 = .ok (.goto 4, 3) := by decide +kernel
theorem dX4_decision_53 : decode cX4_decision 53 = .ok (.iconst 0, 1) := by decide +kernel
theorem dX4_decision_54 : decode cX4_decision 54 = .ok (.iadd, 1) := by decide +kernel
theorem dX4_decision_55 : decode cX4_decision 55 = .ok (.ireturn, 1) := by decide +kernel
theorem dX4_holds_0 : decode cX4_holds 0 = .ok (.aload_n 0, 1) := by decide +kernel
theorem dX4_holds_1 : decode cX4_holds 1 = .ok (.getfield 19, 3) := by decide +kernel
theorem dX4_holds_4 : decode cX4_holds 4 = .ok (.iload_n 1, 1) := by decide +kernel
theorem dX4_holds_5 : decode cX4_holds 5 = .ok (.invokevirtual 68, 3) := by decide +kernel
theorem dX4_holds_8 : decode cX4_holds 8 = .ok (.astore_n 3, 1) := by decide +kernel
theorem dX4_holds_9 : decode cX4_holds 9 = .ok (.aload_n 3, 1) := by decide +kernel
theorem dX4_holds_10 : decode cX4_holds 10 = .ok (.ifnull 14, 3) := by decide +kernel
theorem dX4_holds_13 : decode cX4_holds 13 = .ok (.aload_n 0, 1) := by decide +kernel
theorem dX4_holds_14 : decode cX4_holds 14 = .ok (.getfield 12, 3) := by decide +kernel
theorem dX4_holds_17 : decode cX4_holds 17 = .ok (.iload_n 2, 1) := by decide +kernel
theorem dX4_holds_18 : decode cX4_holds 18 = .ok (.invokevirtual 110, 3) := by decide +kernel
theorem dX4_holds_21 : decode cX4_holds 21 = .ok (.ifCond .ne 5, 3) := by decide +kernel
theorem dX4_holds_24 : decode cX4_holds 24 = .ok (.iconst (-1), 1) := by decide +kernel
theorem dX4_holds_25 : decode cX4_holds 25 = .ok (.ireturn, 1) := by decide +kernel
theorem dX4_holds_26 : decode cX4_holds 26 = .ok (.aload_n 0, 1) := by decide +kernel
theorem dX4_holds_27 : decode cX4_holds 27 = .ok (.getfield 19, 3) := by decide +kernel
theorem dX4_holds_30 : decode cX4_holds 30 = .ok (.aload_n 3, 1) := by decide +kernel
theorem dX4_holds_31 : decode cX4_holds 31 = .ok (.iload_n 2, 1) := by decide +kernel
theorem dX4_holds_32 : decode cX4_holds 32 = .ok (.invokevirtual 114, 3) := by decide +kernel
theorem dX4_holds_35 : decode cX4_holds 35 = .ok (.ifCond .eq 7, 3) := by decide +kernel
theorem dX4_holds_38 : decode cX4_holds 38 = .ok (.iconst 1, 1) := by decide +kernel
theorem dX4_holds_39 : decode cX4_holds 39 = .ok (.goto 4, 3) := by decide +kernel
theorem dX4_holds_42 : decode cX4_holds 42 = .ok (.iconst 0, 1) := by decide +kernel
theorem dX4_holds_43 : decode cX4_holds 43 = .ok (.ireturn, 1) := by decide +kernel
theorem dX4_value_0 : decode cX4_value 0 = .ok (.aload_n 0, 1) := by decide +kernel
theorem dX4_value_1 : decode cX4_value 1 = .ok (.getfield 19, 3) := by decide +kernel
theorem dX4_value_4 : decode cX4_value 4 = .ok (.iload_n 1, 1) := by decide +kernel
theorem dX4_value_5 : decode cX4_value 5 = .ok (.invokevirtual 68, 3) := by decide +kernel
theorem dX4_value_8 : decode cX4_value 8 = .ok (.astore_n 3, 1) := by decide +kernel
theorem dX4_value_9 : decode cX4_value 9 = .ok (.aload_n 3, 1) := by decide +kernel
theorem dX4_value_10 : decode cX4_value 10 = .ok (.ifnull 14, 3) := by decide +kernel
theorem dX4_value_13 : decode cX4_value 13 = .ok (.aload_n 0, 1) := by decide +kernel
theorem dX4_value_14 : decode cX4_value 14 = .ok (.getfield 12, 3) := by decide +kernel
theorem dX4_value_17 : decode cX4_value 17 = .ok (.iload_n 2, 1) := by decide +kernel
theorem dX4_value_18 : decode cX4_value 18 = .ok (.invokevirtual 110, 3) := by decide +kernel
theorem dX4_value_21 : decode cX4_value 21 = .ok (.ifCond .ne 5, 3) := by decide +kernel
theorem dX4_value_24 : decode cX4_value 24 = .ok (.iconst 0, 1) := by decide +kernel
theorem dX4_value_25 : decode cX4_value 25 = .ok (.ireturn, 1) := by decide +kernel
theorem dX4_value_26 : decode cX4_value 26 = .ok (.aload_n 0, 1) := by decide +kernel
theorem dX4_value_27 : decode cX4_value 27 = .ok (.getfield 26, 3) := by decide +kernel
theorem dX4_value_30 : decode cX4_value 30 = .ok (.aload_n 0, 1) := by decide +kernel
theorem dX4_value_31 : decode cX4_value 31 = .ok (.getfield 12, 3) := by decide +kernel
theorem dX4_value_34 : decode cX4_value 34 = .ok (.iload_n 2, 1) := by decide +kernel
theorem dX4_value_35 : decode cX4_value 35 = .ok (.aload_n 3, 1) := by decide +kernel
theorem dX4_value_36 : decode cX4_value 36 = .ok (.invokevirtual 118, 3) := by decide +kernel
theorem dX4_value_39 : decode cX4_value 39 = .ok (.aload_n 0, 1) := by decide +kernel
theorem dX4_value_40 : decode cX4_value 40 = .ok (.getfield 26, 3) := by decide +kernel
theorem dX4_value_43 : decode cX4_value 43 = .ok (.getfield 122, 3) := by decide +kernel
theorem dX4_value_46 : decode cX4_value 46 = .ok (.ireturn, 1) := by decide +kernel
theorem dX4_find_0 : decode cX4_find 0 = .ok (.aload_n 0, 1) := by decide +kernel
theorem dX4_find_1 : decode cX4_find 1 = .ok (.getfield 19, 3) := by decide +kernel
theorem dX4_find_4 : decode cX4_find 4 = .ok (.iload_n 1, 1) := by decide +kernel
theorem dX4_find_5 : decode cX4_find 5 = .ok (.invokevirtual 68, 3) := by decide +kernel
theorem dX4_find_8 : decode cX4_find 8 = .ok (.astore 4, 2) := by decide +kernel
theorem dX4_find_10 : decode cX4_find 10 = .ok (.aload 4, 2) := by decide +kernel
theorem dX4_find_12 : decode cX4_find 12 = .ok (.ifnonnull 5, 3) := by decide +kernel
theorem dX4_find_15 : decode cX4_find 15 = .ok (.iconst (-1), 1) := by decide +kernel
theorem dX4_find_16 : decode cX4_find 16 = .ok (.ireturn, 1) := by decide +kernel
theorem dX4_find_17 : decode cX4_find 17 = .ok (.aload_n 0, 1) := by decide +kernel
theorem dX4_find_18 : decode cX4_find 18 = .ok (.getfield 19, 3) := by decide +kernel
theorem dX4_find_21 : decode cX4_find 21 = .ok (.aload 4, 2) := by decide +kernel
theorem dX4_find_23 : decode cX4_find 23 = .ok (.iload_n 2, 1) := by decide +kernel
theorem dX4_find_24 : decode cX4_find 24 = .ok (.iload_n 3, 1) := by decide +kernel
theorem dX4_find_25 : decode cX4_find 25 = .ok (.aload_n 0, 1) := by decide +kernel
theorem dX4_find_26 : decode cX4_find 26 = .ok (.getfield 12, 3) := by decide +kernel
theorem dX4_find_29 : decode cX4_find 29 = .ok (.invokevirtual 123, 3) := by decide +kernel
theorem dX4_find_32 : decode cX4_find 32 = .ok (.invokevirtual 127, 3) := by decide +kernel
theorem dX4_find_35 : decode cX4_find 35 = .ok (.ireturn, 1) := by decide +kernel
theorem dX4_run_0 : decode cX4_run 0 = .ok (.aload_n 0, 1) := by decide +kernel
theorem dX4_run_1 : decode cX4_run 1 = .ok (.getfield 12, 3) := by decide +kernel
theorem dX4_run_4 : decode cX4_run 4 = .ok (.iload_n 1, 1) := by decide +kernel
theorem dX4_run_5 : decode cX4_run 5 = .ok (.invokevirtual 110, 3) := by decide +kernel
theorem dX4_run_8 : decode cX4_run 8 = .ok (.ifCond .ne 5, 3) := by decide +kernel
theorem dX4_run_11 : decode cX4_run 11 = .ok (.iconst (-1), 1) := by decide +kernel
theorem dX4_run_12 : decode cX4_run 12 = .ok (.ireturn, 1) := by decide +kernel
theorem dX4_run_13 : decode cX4_run 13 = .ok (.aload_n 0, 1) := by decide +kernel
theorem dX4_run_14 : decode cX4_run 14 = .ok (.getfield 30, 3) := by decide +kernel
theorem dX4_run_17 : decode cX4_run 17 = .ok (.aload_n 0, 1) := by decide +kernel
theorem dX4_run_18 : decode cX4_run 18 = .ok (.getfield 12, 3) := by decide +kernel
theorem dX4_run_21 : decode cX4_run 21 = .ok (.iload_n 1, 1) := by decide +kernel
theorem dX4_run_22 : decode cX4_run 22 = .ok (.aconst_null, 1) := by decide +kernel
theorem dX4_run_23 : decode cX4_run 23 = .ok (.invokevirtual 118, 3) := by decide +kernel
theorem dX4_run_26 : decode cX4_run 26 = .ok (.aload_n 0, 1) := by decide +kernel
theorem dX4_run_27 : decode cX4_run 27 = .ok (.iconst 1, 1) := by decide +kernel
theorem dX4_run_28 : decode cX4_run 28 = .ok (.putfield 51, 3) := by decide +kernel
theorem dX4_run_31 : decode cX4_run 31 = .ok (.aload_n 0, 1) := by decide +kernel
theorem dX4_run_32 : decode cX4_run 32 = .ok (.iconst 0, 1) := by decide +kernel
theorem dX4_run_33 : decode cX4_run 33 = .ok (.putfield 131, 3) := by decide +kernel
theorem dX4_run_36 : decode cX4_run 36 = .ok (.aload_n 0, 1) := by decide +kernel
theorem dX4_run_37 : decode cX4_run 37 = .ok (.getfield 30, 3) := by decide +kernel
theorem dX4_run_40 : decode cX4_run 40 = .ok (.getfield 134, 3) := by decide +kernel
theorem dX4_run_43 : decode cX4_run 43 = .ok (.ireturn, 1) := by decide +kernel
theorem dX4_ran_0 : decode cX4_ran 0 = .ok (.aload_n 0, 1) := by decide +kernel
theorem dX4_ran_1 : decode cX4_ran 1 = .ok (.getfield 51, 3) := by decide +kernel
theorem dX4_ran_4 : decode cX4_ran 4 = .ok (.ifCond .ne 5, 3) := by decide +kernel
theorem dX4_ran_7 : decode cX4_ran 7 = .ok (.iconst (-1), 1) := by decide +kernel
theorem dX4_ran_8 : decode cX4_ran 8 = .ok (.ireturn, 1) := by decide +kernel
theorem dX4_ran_9 : decode cX4_ran 9 = .ok (.iload_n 1, 1) := by decide +kernel
theorem dX4_ran_10 : decode cX4_ran 10 = .ok (.tableswitch 110 0 5 #[38, 46, 54, 62, 73, 84], 38) := by decide +kernel
theorem dX4_ran_48 : decode cX4_ran 48 = .ok (.aload_n 0, 1) := by decide +kernel
theorem dX4_ran_49 : decode cX4_ran 49 = .ok (.getfield 30, 3) := by decide +kernel
theorem dX4_ran_52 : decode cX4_ran 52 = .ok (.getfield 134, 3) := by decide +kernel
theorem dX4_ran_55 : decode cX4_ran 55 = .ok (.ireturn, 1) := by decide +kernel
theorem dX4_ran_56 : decode cX4_ran 56 = .ok (.aload_n 0, 1) := by decide +kernel
theorem dX4_ran_57 : decode cX4_ran 57 = .ok (.getfield 30, 3) := by decide +kernel
theorem dX4_ran_60 : decode cX4_ran 60 = .ok (.getfield 135, 3) := by decide +kernel
theorem dX4_ran_63 : decode cX4_ran 63 = .ok (.ireturn, 1) := by decide +kernel
theorem dX4_ran_64 : decode cX4_ran 64 = .ok (.aload_n 0, 1) := by decide +kernel
theorem dX4_ran_65 : decode cX4_ran 65 = .ok (.getfield 30, 3) := by decide +kernel
theorem dX4_ran_68 : decode cX4_ran 68 = .ok (.getfield 122, 3) := by decide +kernel
theorem dX4_ran_71 : decode cX4_ran 71 = .ok (.ireturn, 1) := by decide +kernel
theorem dX4_ran_72 : decode cX4_ran 72 = .ok (.aload_n 0, 1) := by decide +kernel
theorem dX4_ran_73 : decode cX4_ran 73 = .ok (.getfield 30, 3) := by decide +kernel
theorem dX4_ran_76 : decode cX4_ran 76 = .ok (.getfield 138, 3) := by decide +kernel
theorem dX4_ran_79 : decode cX4_ran 79 = .ok (.invokestatic 84, 3) := by decide +kernel
theorem dX4_ran_82 : decode cX4_ran 82 = .ok (.ireturn, 1) := by decide +kernel
theorem dX4_ran_83 : decode cX4_ran 83 = .ok (.aload_n 0, 1) := by decide +kernel
theorem dX4_ran_84 : decode cX4_ran 84 = .ok (.getfield 30, 3) := by decide +kernel
theorem dX4_ran_87 : decode cX4_ran 87 = .ok (.getfield 141, 3) := by decide +kernel
theorem dX4_ran_90 : decode cX4_ran 90 = .ok (.invokestatic 84, 3) := by decide +kernel
theorem dX4_ran_93 : decode cX4_ran 93 = .ok (.ireturn, 1) := by decide +kernel
theorem dX4_ran_94 : decode cX4_ran 94 = .ok (.aload_n 0, 1) := by decide +kernel
theorem dX4_ran_95 : decode cX4_ran 95 = .ok (.getfield 131, 3) := by decide +kernel
theorem dX4_ran_98 : decode cX4_ran 98 = .ok (.ifCond .eq 7, 3) := by decide +kernel
theorem dX4_ran_101 : decode cX4_ran 101 = .ok (.iconst (-1), 1) := by decide +kernel
theorem dX4_ran_102 : decode cX4_ran 102 = .ok (.goto 17, 3) := by decide +kernel
theorem dX4_ran_105 : decode cX4_ran 105 = .ok (.aload_n 0, 1) := by decide +kernel
theorem dX4_ran_106 : decode cX4_ran 106 = .ok (.getfield 19, 3) := by decide +kernel
theorem dX4_ran_109 : decode cX4_ran 109 = .ok (.aload_n 0, 1) := by decide +kernel
theorem dX4_ran_110 : decode cX4_ran 110 = .ok (.getfield 30, 3) := by decide +kernel
theorem dX4_ran_113 : decode cX4_ran 113 = .ok (.getfield 142, 3) := by decide +kernel
theorem dX4_ran_116 : decode cX4_ran 116 = .ok (.invokevirtual 143, 3) := by decide +kernel
theorem dX4_ran_119 : decode cX4_ran 119 = .ok (.ireturn, 1) := by decide +kernel
theorem dX4_ran_120 : decode cX4_ran 120 = .ok (.iconst (-1), 1) := by decide +kernel
theorem dX4_ran_121 : decode cX4_ran 121 = .ok (.ireturn, 1) := by decide +kernel
theorem dX4_register_0 : decode cX4_register 0 = .ok (.aload_n 0, 1) := by decide +kernel
theorem dX4_register_1 : decode cX4_register 1 = .ok (.getfield 51, 3) := by decide +kernel
theorem dX4_register_4 : decode cX4_register 4 = .ok (.ifCond .eq 22, 3) := by decide +kernel
theorem dX4_register_7 : decode cX4_register 7 = .ok (.iload_n 1, 1) := by decide +kernel
theorem dX4_register_8 : decode cX4_register 8 = .ok (.invokestatic 146, 3) := by decide +kernel
theorem dX4_register_11 : decode cX4_register 11 = .ok (.ifCond .eq 15, 3) := by decide +kernel
theorem dX4_register_14 : decode cX4_register 14 = .ok (.aload_n 0, 1) := by decide +kernel
theorem dX4_register_15 : decode cX4_register 15 = .ok (.getfield 30, 3) := by decide +kernel
theorem dX4_register_18 : decode cX4_register 18 = .ok (.getfield 149, 3) := by decide +kernel
theorem dX4_register_21 : decode cX4_register 21 = .ok (.iload_n 1, 1) := by decide +kernel
theorem dX4_register_22 : decode cX4_register 22 = .ok (.iaload, 1) := by decide +kernel
theorem dX4_register_23 : decode cX4_register 23 = .ok (.goto 4, 3) := by decide +kernel
theorem dX4_register_26 : decode cX4_register 26 = .ok (.iconst 0, 1) := by decide +kernel
theorem dX4_register_27 : decode cX4_register 27 = .ok (.ireturn, 1) := by decide +kernel
theorem dX4_cell_0 : decode cX4_cell 0 = .ok (.aload_n 0, 1) := by decide +kernel
theorem dX4_cell_1 : decode cX4_cell 1 = .ok (.getfield 51, 3) := by decide +kernel
theorem dX4_cell_4 : decode cX4_cell 4 = .ok (.ifCond .eq 22, 3) := by decide +kernel
theorem dX4_cell_7 : decode cX4_cell 7 = .ok (.iload_n 1, 1) := by decide +kernel
theorem dX4_cell_8 : decode cX4_cell 8 = .ok (.invokestatic 153, 3) := by decide +kernel
theorem dX4_cell_11 : decode cX4_cell 11 = .ok (.ifCond .eq 15, 3) := by decide +kernel
theorem dX4_cell_14 : decode cX4_cell 14 = .ok (.aload_n 0, 1) := by decide +kernel
theorem dX4_cell_15 : decode cX4_cell 15 = .ok (.getfield 30, 3) := by decide +kernel
theorem dX4_cell_18 : decode cX4_cell 18 = .ok (.getfield 156, 3) := by decide +kernel
theorem dX4_cell_21 : decode cX4_cell 21 = .ok (.iload_n 1, 1) := by decide +kernel
theorem dX4_cell_22 : decode cX4_cell 22 = .ok (.iaload, 1) := by decide +kernel
theorem dX4_cell_23 : decode cX4_cell 23 = .ok (.goto 4, 3) := by decide +kernel
theorem dX4_cell_26 : decode cX4_cell 26 = .ok (.iconst 0, 1) := by decide +kernel
theorem dX4_cell_27 : decode cX4_cell 27 = .ok (.ireturn, 1) := by decide +kernel
theorem dX4_failure_0 : decode cX4_failure 0 = .ok (.aload_n 0, 1) := by decide +kernel
theorem dX4_failure_1 : decode cX4_failure 1 = .ok (.getfield 19, 3) := by decide +kernel
theorem dX4_failure_4 : decode cX4_failure 4 = .ok (.iload_n 1, 1) := by decide +kernel
theorem dX4_failure_5 : decode cX4_failure 5 = .ok (.invokevirtual 159, 3) := by decide +kernel
theorem dX4_failure_8 : decode cX4_failure 8 = .ok (.astore_n 3, 1) := by decide +kernel
theorem dX4_failure_9 : decode cX4_failure 9 = .ok (.aload_n 3, 1) := by decide +kernel
theorem dX4_failure_10 : decode cX4_failure 10 = .ok (.ifnonnull 5, 3) := by decide +kernel
theorem dX4_failure_13 : decode cX4_failure 13 = .ok (.iconst (-1), 1) := by decide +kernel
theorem dX4_failure_14 : decode cX4_failure 14 = .ok (.ireturn, 1) := by decide +kernel
theorem dX4_failure_15 : decode cX4_failure 15 = .ok (.iload_n 2, 1) := by decide +kernel
theorem dX4_failure_16 : decode cX4_failure 16 = .ok (.tableswitch 43 0 2 #[28, 33, 38], 28) := by decide +kernel
theorem dX4_failure_44 : decode cX4_failure 44 = .ok (.aload_n 3, 1) := by decide +kernel
theorem dX4_failure_45 : decode cX4_failure 45 = .ok (.getfield 72, 3) := by decide +kernel
theorem dX4_failure_48 : decode cX4_failure 48 = .ok (.ireturn, 1) := by decide +kernel
theorem dX4_failure_49 : decode cX4_failure 49 = .ok (.aload_n 3, 1) := by decide +kernel
theorem dX4_failure_50 : decode cX4_failure 50 = .ok (.getfield 77, 3) := by decide +kernel
theorem dX4_failure_53 : decode cX4_failure 53 = .ok (.ireturn, 1) := by decide +kernel
theorem dX4_failure_54 : decode cX4_failure 54 = .ok (.aload_n 3, 1) := by decide +kernel
theorem dX4_failure_55 : decode cX4_failure 55 = .ok (.getfield 90, 3) := by decide +kernel
theorem dX4_failure_58 : decode cX4_failure 58 = .ok (.ireturn, 1) := by decide +kernel
theorem dX4_failure_59 : decode cX4_failure 59 = .ok (.iconst (-1), 1) := by decide +kernel
theorem dX4_failure_60 : decode cX4_failure 60 = .ok (.ireturn, 1) := by decide +kernel
theorem dX4_covered_0 : decode cX4_covered 0 = .ok (.iload_n 1, 1) := by decide +kernel
theorem dX4_covered_1 : decode cX4_covered 1 = .ok (.ifCond .lt 24, 3) := by decide +kernel
theorem dX4_covered_4 : decode cX4_covered 4 = .ok (.iload_n 1, 1) := by decide +kernel
theorem dX4_covered_5 : decode cX4_covered 5 = .ok (.aload_n 0, 1) := by decide +kernel
theorem dX4_covered_6 : decode cX4_covered 6 = .ok (.getfield 12, 3) := by decide +kernel
theorem dX4_covered_9 : decode cX4_covered 9 = .ok (.getfield 44, 3) := by decide +kernel
theorem dX4_covered_12 : decode cX4_covered 12 = .ok (.if_icmp .ge 13, 3) := by decide +kernel
theorem dX4_covered_15 : decode cX4_covered 15 = .ok (.aload_n 0, 1) := by decide +kernel
theorem dX4_covered_16 : decode cX4_covered 16 = .ok (.getfield 19, 3) := by decide +kernel
theorem dX4_covered_19 : decode cX4_covered 19 = .ok (.invokevirtual 55, 3) := by decide +kernel
theorem dX4_covered_22 : decode cX4_covered 22 = .ok (.ifCond .ne 5, 3) := by decide +kernel
theorem dX4_covered_25 : decode cX4_covered 25 = .ok (.iconst (-1), 1) := by decide +kernel
theorem dX4_covered_26 : decode cX4_covered 26 = .ok (.ireturn, 1) := by decide +kernel
theorem dX4_covered_27 : decode cX4_covered 27 = .ok (.aload_n 0, 1) := by decide +kernel
theorem dX4_covered_28 : decode cX4_covered 28 = .ok (.getfield 19, 3) := by decide +kernel
theorem dX4_covered_31 : decode cX4_covered 31 = .ok (.getfield 162, 3) := by decide +kernel
theorem dX4_covered_34 : decode cX4_covered 34 = .ok (.iload_n 1, 1) := by decide +kernel
theorem dX4_covered_35 : decode cX4_covered 35 = .ok (.invokestatic 106, 3) := by decide +kernel
theorem dX4_covered_38 : decode cX4_covered 38 = .ok (.ifCond .eq 7, 3) := by decide +kernel
theorem dX4_covered_41 : decode cX4_covered 41 = .ok (.iconst 1, 1) := by decide +kernel
theorem dX4_covered_42 : decode cX4_covered 42 = .ok (.goto 4, 3) := by decide +kernel
theorem dX4_covered_45 : decode cX4_covered 45 = .ok (.iconst 0, 1) := by decide +kernel
theorem dX4_covered_46 : decode cX4_covered 46 = .ok (.ireturn, 1) := by decide +kernel
theorem dX4_count_0 : decode cX4_count 0 = .ok (.iload_n 1, 1) := by decide +kernel
theorem dX4_count_1 : decode cX4_count 1 = .ok (.tableswitch 114 0 5 #[39, 47, 55, 63, 78, 96], 39) := by decide +kernel
theorem dX4_count_40 : decode cX4_count 40 = .ok (.aload_n 0, 1) := by decide +kernel
theorem dX4_count_41 : decode cX4_count 41 = .ok (.getfield 12, 3) := by decide +kernel
theorem dX4_count_44 : decode cX4_count 44 = .ok (.getfield 163, 3) := by decide +kernel
theorem dX4_count_47 : decode cX4_count 47 = .ok (.ireturn, 1) := by decide +kernel
theorem dX4_count_48 : decode cX4_count 48 = .ok (.aload_n 0, 1) := by decide +kernel
theorem dX4_count_49 : decode cX4_count 49 = .ok (.getfield 12, 3) := by decide +kernel
theorem dX4_count_52 : decode cX4_count 52 = .ok (.getfield 166, 3) := by decide +kernel
theorem dX4_count_55 : decode cX4_count 55 = .ok (.ireturn, 1) := by decide +kernel
theorem dX4_count_56 : decode cX4_count 56 = .ok (.aload_n 0, 1) := by decide +kernel
theorem dX4_count_57 : decode cX4_count 57 = .ok (.getfield 12, 3) := by decide +kernel
theorem dX4_count_60 : decode cX4_count 60 = .ok (.getfield 44, 3) := by decide +kernel
theorem dX4_count_63 : decode cX4_count 63 = .ok (.ireturn, 1) := by decide +kernel
theorem dX4_count_64 : decode cX4_count 64 = .ok (.aload_n 0, 1) := by decide +kernel
theorem dX4_count_65 : decode cX4_count 65 = .ok (.getfield 19, 3) := by decide +kernel
theorem dX4_count_68 : decode cX4_count 68 = .ok (.aload_n 0, 1) := by decide +kernel
theorem dX4_count_69 : decode cX4_count 69 = .ok (.getfield 19, 3) := by decide +kernel
theorem dX4_count_72 : decode cX4_count 72 = .ok (.getfield 63, 3) := by decide +kernel
theorem dX4_count_75 : decode cX4_count 75 = .ok (.invokevirtual 64, 3) := by decide +kernel
theorem dX4_count_78 : decode cX4_count 78 = .ok (.ireturn, 1) := by decide +kernel
theorem dX4_count_79 : decode cX4_count 79 = .ok (.aload_n 0, 1) := by decide +kernel
theorem dX4_count_80 : decode cX4_count 80 = .ok (.getfield 19, 3) := by decide +kernel
theorem dX4_count_83 : decode cX4_count 83 = .ok (.aload_n 0, 1) := by decide +kernel
theorem dX4_count_84 : decode cX4_count 84 = .ok (.getfield 19, 3) := by decide +kernel
theorem dX4_count_87 : decode cX4_count 87 = .ok (.getfield 169, 3) := by decide +kernel
theorem dX4_count_90 : decode cX4_count 90 = .ok (.invokestatic 84, 3) := by decide +kernel
theorem dX4_count_93 : decode cX4_count 93 = .ok (.invokevirtual 64, 3) := by decide +kernel
theorem dX4_count_96 : decode cX4_count 96 = .ok (.ireturn, 1) := by decide +kernel
theorem dX4_count_97 : decode cX4_count 97 = .ok (.aload_n 0, 1) := by decide +kernel
theorem dX4_count_98 : decode cX4_count 98 = .ok (.getfield 19, 3) := by decide +kernel
theorem dX4_count_101 : decode cX4_count 101 = .ok (.aload_n 0, 1) := by decide +kernel
theorem dX4_count_102 : decode cX4_count 102 = .ok (.getfield 19, 3) := by decide +kernel
theorem dX4_count_105 : decode cX4_count 105 = .ok (.getfield 162, 3) := by decide +kernel
theorem dX4_count_108 : decode cX4_count 108 = .ok (.invokestatic 84, 3) := by decide +kernel
theorem dX4_count_111 : decode cX4_count 111 = .ok (.invokevirtual 64, 3) := by decide +kernel
theorem dX4_count_114 : decode cX4_count 114 = .ok (.ireturn, 1) := by decide +kernel
theorem dX4_count_115 : decode cX4_count 115 = .ok (.iconst (-1), 1) := by decide +kernel
theorem dX4_count_116 : decode cX4_count 116 = .ok (.ireturn, 1) := by decide +kernel
theorem dX4_forgetFindings_0 : decode cX4_forgetFindings 0 = .ok (.aload_n 0, 1) := by decide +kernel
theorem dX4_forgetFindings_1 : decode cX4_forgetFindings 1 = .ok (.getfield 19, 3) := by decide +kernel
theorem dX4_forgetFindings_4 : decode cX4_forgetFindings 4 = .ok (.invokevirtual 172, 3) := by decide +kernel
theorem dX4_forgetFindings_7 : decode cX4_forgetFindings 7 = .ok (.aload_n 0, 1) := by decide +kernel
theorem dX4_forgetFindings_8 : decode cX4_forgetFindings 8 = .ok (.iconst 1, 1) := by decide +kernel
theorem dX4_forgetFindings_9 : decode cX4_forgetFindings 9 = .ok (.putfield 131, 3) := by decide +kernel
theorem dX4_forgetFindings_12 : decode cX4_forgetFindings 12 = .ok (.return_, 1) := by decide +kernel
theorem dX4_mark_0 : decode cX4_mark 0 = .ok (.lconst 1, 1) := by decide +kernel
theorem dX4_mark_1 : decode cX4_mark 1 = .ok (.bipush 59, 2) := by decide +kernel
theorem dX4_mark_3 : decode cX4_mark 3 = .ok (.iload_n 0, 1) := by decide +kernel
theorem dX4_mark_4 : decode cX4_mark 4 = .ok (.isub, 1) := by decide +kernel
theorem dX4_mark_5 : decode cX4_mark 5 = .ok (.lshl, 1) := by decide +kernel
theorem dX4_mark_6 : decode cX4_mark 6 = .ok (.lreturn, 1) := by decide +kernel
theorem dX4_isMarked_0 : decode cX4_isMarked 0 = .ok (.lload_n 0, 1) := by decide +kernel
theorem dX4_isMarked_1 : decode cX4_isMarked 1 = .ok (.iload_n 2, 1) := by decide +kernel
theorem dX4_isMarked_2 : decode cX4_isMarked 2 = .ok (.invokestatic 175, 3) := by decide +kernel
theorem dX4_isMarked_5 : decode cX4_isMarked 5 = .ok (.land, 1) := by decide +kernel
theorem dX4_isMarked_6 : decode cX4_isMarked 6 = .ok (.lconst 0, 1) := by decide +kernel
theorem dX4_isMarked_7 : decode cX4_isMarked 7 = .ok (.lcmp, 1) := by decide +kernel
theorem dX4_isMarked_8 : decode cX4_isMarked 8 = .ok (.ifCond .eq 7, 3) := by decide +kernel
theorem dX4_isMarked_11 : decode cX4_isMarked 11 = .ok (.iconst 1, 1) := by decide +kernel
theorem dX4_isMarked_12 : decode cX4_isMarked 12 = .ok (.goto 4, 3) := by decide +kernel
theorem dX4_isMarked_15 : decode cX4_isMarked 15 = .ok (.iconst 0, 1) := by decide +kernel
theorem dX4_isMarked_16 : decode cX4_isMarked 16 = .ok (.ireturn, 1) := by decide +kernel
theorem dX4_placeOfMark_0 : decode cX4_placeOfMark 0 = .ok (.iconst 0, 1) := by decide +kernel
theorem dX4_placeOfMark_1 : decode cX4_placeOfMark 1 = .ok (.istore_n 3, 1) := by decide +kernel
theorem dX4_placeOfMark_2 : decode cX4_placeOfMark 2 = .ok (.iconst 0, 1) := by decide +kernel
theorem dX4_placeOfMark_3 : decode cX4_placeOfMark 3 = .ok (.istore 4, 2) := by decide +kernel
theorem dX4_placeOfMark_5 : decode cX4_placeOfMark 5 = .ok (.iload 4, 2) := by decide +kernel
theorem dX4_placeOfMark_7 : decode cX4_placeOfMark 7 = .ok (.bipush 60, 2) := by decide +kernel
theorem dX4_placeOfMark_9 : decode cX4_placeOfMark 9 = .ok (.if_icmp .ge 29, 3) := by decide +kernel
theorem dX4_placeOfMark_12 : decode cX4_placeOfMark 12 = .ok (.lload_n 0, 1) := by decide +kernel
theorem dX4_placeOfMark_13 : decode cX4_placeOfMark 13 = .ok (.iload 4, 2) := by decide +kernel
theorem dX4_placeOfMark_15 : decode cX4_placeOfMark 15 = .ok (.invokestatic 106, 3) := by decide +kernel
theorem dX4_placeOfMark_18 : decode cX4_placeOfMark 18 = .ok (.ifCond .eq 14, 3) := by decide +kernel
theorem dX4_placeOfMark_21 : decode cX4_placeOfMark 21 = .ok (.iload_n 3, 1) := by decide +kernel
theorem dX4_placeOfMark_22 : decode cX4_placeOfMark 22 = .ok (.iload_n 2, 1) := by decide +kernel
theorem dX4_placeOfMark_23 : decode cX4_placeOfMark 23 = .ok (.if_icmp .ne 6, 3) := by decide +kernel
theorem dX4_placeOfMark_26 : decode cX4_placeOfMark 26 = .ok (.iload 4, 2) := by decide +kernel
theorem dX4_placeOfMark_28 : decode cX4_placeOfMark 28 = .ok (.ireturn, 1) := by decide +kernel
theorem dX4_placeOfMark_29 : decode cX4_placeOfMark 29 = .ok (.iinc 3 1, 3) := by decide +kernel
theorem dX4_placeOfMark_32 : decode cX4_placeOfMark 32 = .ok (.iinc 4 1, 3) := by decide +kernel
theorem dX4_placeOfMark_35 : decode cX4_placeOfMark 35 = .ok (.goto (-30), 3) := by decide +kernel
theorem dX4_placeOfMark_38 : decode cX4_placeOfMark 38 = .ok (.iconst (-1), 1) := by decide +kernel
theorem dX4_placeOfMark_39 : decode cX4_placeOfMark 39 = .ok (.ireturn, 1) := by decide +kernel
theorem dX4_isBelowUnsigned_0 : decode cX4_isBelowUnsigned 0 = .ok (.iload_n 0, 1) := by decide +kernel
theorem dX4_isBelowUnsigned_1 : decode cX4_isBelowUnsigned 1 = .ok (.i2l, 1) := by decide +kernel
theorem dX4_isBelowUnsigned_2 : decode cX4_isBelowUnsigned 2 = .ok (.ldc2_w 179, 3) := by decide +kernel
theorem dX4_isBelowUnsigned_5 : decode cX4_isBelowUnsigned 5 = .ok (.land, 1) := by decide +kernel
theorem dX4_isBelowUnsigned_6 : decode cX4_isBelowUnsigned 6 = .ok (.iload_n 1, 1) := by decide +kernel
theorem dX4_isBelowUnsigned_7 : decode cX4_isBelowUnsigned 7 = .ok (.i2l, 1) := by decide +kernel
theorem dX4_isBelowUnsigned_8 : decode cX4_isBelowUnsigned 8 = .ok (.ldc2_w 179, 3) := by decide +kernel
theorem dX4_isBelowUnsigned_11 : decode cX4_isBelowUnsigned 11 = .ok (.land, 1) := by decide +kernel
theorem dX4_isBelowUnsigned_12 : decode cX4_isBelowUnsigned 12 = .ok (.lcmp, 1) := by decide +kernel
theorem dX4_isBelowUnsigned_13 : decode cX4_isBelowUnsigned 13 = .ok (.ifCond .ge 7, 3) := by decide +kernel
theorem dX4_isBelowUnsigned_16 : decode cX4_isBelowUnsigned 16 = .ok (.iconst 1, 1) := by decide +kernel
theorem dX4_isBelowUnsigned_17 : decode cX4_isBelowUnsigned 17 = .ok (.goto 4, 3) := by decide +kernel
theorem dX4_isBelowUnsigned_20 : decode cX4_isBelowUnsigned 20 = .ok (.iconst 0, 1) := by decide +kernel
theorem dX4_isBelowUnsigned_21 : decode cX4_isBelowUnsigned 21 = .ok (.ireturn, 1) := by decide +kernel
theorem dX4_combine_0 : decode cX4_combine 0 = .ok (.iload_n 0, 1) := by decide +kernel
theorem dX4_combine_1 : decode cX4_combine 1 = .ok (.tableswitch 199 3 21 #[91, 95, 99, 103, 107, 111, 115, 119, 123, 199, 199, 199, 199, 127, 138, 149, 163, 177, 188], 91) := by decide +kernel
theorem dX4_combine_92 : decode cX4_combine 92 = .ok (.iload_n 1, 1) := by decide +kernel
theorem dX4_combine_93 : decode cX4_combine 93 = .ok (.iload_n 2, 1) := by decide +kernel
theorem dX4_combine_94 : decode cX4_combine 94 = .ok (.iadd, 1) := by decide +kernel
theorem dX4_combine_95 : decode cX4_combine 95 = .ok (.ireturn, 1) := by decide +kernel
theorem dX4_combine_96 : decode cX4_combine 96 = .ok (.iload_n 1, 1) := by decide +kernel
theorem dX4_combine_97 : decode cX4_combine 97 = .ok (.iload_n 2, 1) := by decide +kernel
theorem dX4_combine_98 : decode cX4_combine 98 = .ok (.isub, 1) := by decide +kernel
theorem dX4_combine_99 : decode cX4_combine 99 = .ok (.ireturn, 1) := by decide +kernel
theorem dX4_combine_100 : decode cX4_combine 100 = .ok (.iload_n 1, 1) := by decide +kernel
theorem dX4_combine_101 : decode cX4_combine 101 = .ok (.iload_n 2, 1) := by decide +kernel
theorem dX4_combine_102 : decode cX4_combine 102 = .ok (.imul, 1) := by decide +kernel
theorem dX4_combine_103 : decode cX4_combine 103 = .ok (.ireturn, 1) := by decide +kernel
theorem dX4_combine_104 : decode cX4_combine 104 = .ok (.iload_n 1, 1) := by decide +kernel
theorem dX4_combine_105 : decode cX4_combine 105 = .ok (.iload_n 2, 1) := by decide +kernel
theorem dX4_combine_106 : decode cX4_combine 106 = .ok (.iand, 1) := by decide +kernel
theorem dX4_combine_107 : decode cX4_combine 107 = .ok (.ireturn, 1) := by decide +kernel
theorem dX4_combine_108 : decode cX4_combine 108 = .ok (.iload_n 1, 1) := by decide +kernel
theorem dX4_combine_109 : decode cX4_combine 109 = .ok (.iload_n 2, 1) := by decide +kernel
theorem dX4_combine_110 : decode cX4_combine 110 = .ok (.ior, 1) := by decide +kernel
theorem dX4_combine_111 : decode cX4_combine 111 = .ok (.ireturn, 1) := by decide +kernel
theorem dX4_combine_112 : decode cX4_combine 112 = .ok (.iload_n 1, 1) := by decide +kernel
theorem dX4_combine_113 : decode cX4_combine 113 = .ok (.iload_n 2, 1) := by decide +kernel
theorem dX4_combine_114 : decode cX4_combine 114 = .ok (.ixor, 1) := by decide +kernel
theorem dX4_combine_115 : decode cX4_combine 115 = .ok (.ireturn, 1) := by decide +kernel
theorem dX4_combine_116 : decode cX4_combine 116 = .ok (.iload_n 1, 1) := by decide +kernel
theorem dX4_combine_117 : decode cX4_combine 117 = .ok (.iload_n 2, 1) := by decide +kernel
theorem dX4_combine_118 : decode cX4_combine 118 = .ok (.ishl, 1) := by decide +kernel
theorem dX4_combine_119 : decode cX4_combine 119 = .ok (.ireturn, 1) := by decide +kernel
theorem dX4_combine_120 : decode cX4_combine 120 = .ok (.iload_n 1, 1) := by decide +kernel
theorem dX4_combine_121 : decode cX4_combine 121 = .ok (.iload_n 2, 1) := by decide +kernel
theorem dX4_combine_122 : decode cX4_combine 122 = .ok (.iushr, 1) := by decide +kernel
theorem dX4_combine_123 : decode cX4_combine 123 = .ok (.ireturn, 1) := by decide +kernel
theorem dX4_combine_124 : decode cX4_combine 124 = .ok (.iload_n 1, 1) := by decide +kernel
theorem dX4_combine_125 : decode cX4_combine 125 = .ok (.iload_n 2, 1) := by decide +kernel
theorem dX4_combine_126 : decode cX4_combine 126 = .ok (.ishr, 1) := by decide +kernel
theorem dX4_combine_127 : decode cX4_combine 127 = .ok (.ireturn, 1) := by decide +kernel
theorem dX4_combine_128 : decode cX4_combine 128 = .ok (.iload_n 1, 1) := by decide +kernel
theorem dX4_combine_129 : decode cX4_combine 129 = .ok (.iload_n 2, 1) := by decide +kernel
theorem dX4_combine_130 : decode cX4_combine 130 = .ok (.if_icmp .ne 7, 3) := by decide +kernel
theorem dX4_combine_133 : decode cX4_combine 133 = .ok (.iconst 1, 1) := by decide +kernel
theorem dX4_combine_134 : decode cX4_combine 134 = .ok (.goto 4, 3) := by decide +kernel
theorem dX4_combine_137 : decode cX4_combine 137 = .ok (.iconst 0, 1) := by decide +kernel
theorem dX4_combine_138 : decode cX4_combine 138 = .ok (.ireturn, 1) := by decide +kernel
theorem dX4_combine_139 : decode cX4_combine 139 = .ok (.iload_n 1, 1) := by decide +kernel
theorem dX4_combine_140 : decode cX4_combine 140 = .ok (.iload_n 2, 1) := by decide +kernel
theorem dX4_combine_141 : decode cX4_combine 141 = .ok (.if_icmp .eq 7, 3) := by decide +kernel
theorem dX4_combine_144 : decode cX4_combine 144 = .ok (.iconst 1, 1) := by decide +kernel
theorem dX4_combine_145 : decode cX4_combine 145 = .ok (.goto 4, 3) := by decide +kernel
theorem dX4_combine_148 : decode cX4_combine 148 = .ok (.iconst 0, 1) := by decide +kernel
theorem dX4_combine_149 : decode cX4_combine 149 = .ok (.ireturn, 1) := by decide +kernel
theorem dX4_combine_150 : decode cX4_combine 150 = .ok (.iload_n 1, 1) := by decide +kernel
theorem dX4_combine_151 : decode cX4_combine 151 = .ok (.iload_n 2, 1) := by decide +kernel
theorem dX4_combine_152 : decode cX4_combine 152 = .ok (.invokestatic 181, 3) := by decide +kernel
theorem dX4_combine_155 : decode cX4_combine 155 = .ok (.ifCond .eq 7, 3) := by decide +kernel
theorem dX4_combine_158 : decode cX4_combine 158 = .ok (.iconst 1, 1) := by decide +kernel
theorem dX4_combine_159 : decode cX4_combine 159 = .ok (.goto 4, 3) := by decide +kernel
theorem dX4_combine_162 : decode cX4_combine 162 = .ok (.iconst 0, 1) := by decide +kernel
theorem dX4_combine_163 : decode cX4_combine 163 = .ok (.ireturn, 1) := by decide +kernel
theorem dX4_combine_164 : decode cX4_combine 164 = .ok (.iload_n 2, 1) := by decide +kernel
theorem dX4_combine_165 : decode cX4_combine 165 = .ok (.iload_n 1, 1) := by decide +kernel
theorem dX4_combine_166 : decode cX4_combine 166 = .ok (.invokestatic 181, 3) := by decide +kernel
theorem dX4_combine_169 : decode cX4_combine 169 = .ok (.ifCond .eq 7, 3) := by decide +kernel
theorem dX4_combine_172 : decode cX4_combine 172 = .ok (.iconst 0, 1) := by decide +kernel
theorem dX4_combine_173 : decode cX4_combine 173 = .ok (.goto 4, 3) := by decide +kernel
theorem dX4_combine_176 : decode cX4_combine 176 = .ok (.iconst 1, 1) := by decide +kernel
theorem dX4_combine_177 : decode cX4_combine 177 = .ok (.ireturn, 1) := by decide +kernel
theorem dX4_combine_178 : decode cX4_combine 178 = .ok (.iload_n 1, 1) := by decide +kernel
theorem dX4_combine_179 : decode cX4_combine 179 = .ok (.iload_n 2, 1) := by decide +kernel
theorem dX4_combine_180 : decode cX4_combine 180 = .ok (.if_icmp .ge 7, 3) := by decide +kernel
theorem dX4_combine_183 : decode cX4_combine 183 = .ok (.iconst 1, 1) := by decide +kernel
theorem dX4_combine_184 : decode cX4_combine 184 = .ok (.goto 4, 3) := by decide +kernel
theorem dX4_combine_187 : decode cX4_combine 187 = .ok (.iconst 0, 1) := by decide +kernel
theorem dX4_combine_188 : decode cX4_combine 188 = .ok (.ireturn, 1) := by decide +kernel
theorem dX4_combine_189 : decode cX4_combine 189 = .ok (.iload_n 1, 1) := by decide +kernel
theorem dX4_combine_190 : decode cX4_combine 190 = .ok (.iload_n 2, 1) := by decide +kernel
theorem dX4_combine_191 : decode cX4_combine 191 = .ok (.if_icmp .gt 7, 3) := by decide +kernel
theorem dX4_combine_194 : decode cX4_combine 194 = .ok (.iconst 1, 1) := by decide +kernel
theorem dX4_combine_195 : decode cX4_combine 195 = .ok (.goto 4, 3) := by decide +kernel
theorem dX4_combine_198 : decode cX4_combine 198 = .ok (.iconst 0, 1) := by decide +kernel
theorem dX4_combine_199 : decode cX4_combine 199 = .ok (.ireturn, 1) := by decide +kernel
theorem dX4_combine_200 : decode cX4_combine 200 = .ok (.iconst 0, 1) := by decide +kernel
theorem dX4_combine_201 : decode cX4_combine 201 = .ok (.ireturn, 1) := by decide +kernel
theorem dX4_divide_0 : decode cX4_divide 0 = .ok (.iload_n 0, 1) := by decide +kernel
theorem dX4_divide_1 : decode cX4_divide 1 = .ok (.bipush 13, 2) := by decide +kernel
theorem dX4_divide_3 : decode cX4_divide 3 = .ok (.if_icmp .eq 9, 3) := by decide +kernel
theorem dX4_divide_6 : decode cX4_divide 6 = .ok (.iload_n 0, 1) := by decide +kernel
theorem dX4_divide_7 : decode cX4_divide 7 = .ok (.bipush 15, 2) := by decide +kernel
theorem dX4_divide_9 : decode cX4_divide 9 = .ok (.if_icmp .ne 7, 3) := by decide +kernel
theorem dX4_divide_12 : decode cX4_divide 12 = .ok (.iconst 1, 1) := by decide +kernel
theorem dX4_divide_13 : decode cX4_divide 13 = .ok (.goto 4, 3) := by decide +kernel
theorem dX4_divide_16 : decode cX4_divide 16 = .ok (.iconst 0, 1) := by decide +kernel
theorem dX4_divide_17 : decode cX4_divide 17 = .ok (.istore_n 3, 1) := by decide +kernel
theorem dX4_divide_18 : decode cX4_divide 18 = .ok (.iload_n 2, 1) := by decide +kernel
theorem dX4_divide_19 : decode cX4_divide 19 = .ok (.ifCond .ne 13, 3) := by decide +kernel
theorem dX4_divide_22 : decode cX4_divide 22 = .ok (.iload_n 3, 1) := by decide +kernel
theorem dX4_divide_23 : decode cX4_divide 23 = .ok (.ifCond .eq 7, 3) := by decide +kernel
theorem dX4_divide_26 : decode cX4_divide 26 = .ok (.iload_n 1, 1) := by decide +kernel
theorem dX4_divide_27 : decode cX4_divide 27 = .ok (.goto 4, 3) := by decide +kernel
theorem dX4_divide_30 : decode cX4_divide 30 = .ok (.iconst (-1), 1) := by decide +kernel
theorem dX4_divide_31 : decode cX4_divide 31 = .ok (.ireturn, 1) := by decide +kernel
theorem dX4_divide_32 : decode cX4_divide 32 = .ok (.iload_n 0, 1) := by decide +kernel
theorem dX4_divide_33 : decode cX4_divide 33 = .ok (.bipush 14, 2) := by decide +kernel
theorem dX4_divide_35 : decode cX4_divide 35 = .ok (.if_icmp .eq 9, 3) := by decide +kernel
theorem dX4_divide_38 : decode cX4_divide 38 = .ok (.iload_n 0, 1) := by decide +kernel
theorem dX4_divide_39 : decode cX4_divide 39 = .ok (.bipush 15, 2) := by decide +kernel
theorem dX4_divide_41 : decode cX4_divide 41 = .ok (.if_icmp .ne 17, 3) := by decide +kernel
theorem dX4_divide_44 : decode cX4_divide 44 = .ok (.iload_n 3, 1) := by decide +kernel
theorem dX4_divide_45 : decode cX4_divide 45 = .ok (.ifCond .eq 9, 3) := by decide +kernel
theorem dX4_divide_48 : decode cX4_divide 48 = .ok (.iload_n 1, 1) := by decide +kernel
theorem dX4_divide_49 : decode cX4_divide 49 = .ok (.iload_n 2, 1) := by decide +kernel
theorem dX4_divide_50 : decode cX4_divide 50 = .ok (.irem, 1) := by decide +kernel
theorem dX4_divide_51 : decode cX4_divide 51 = .ok (.goto 6, 3) := by decide +kernel
theorem dX4_divide_54 : decode cX4_divide 54 = .ok (.iload_n 1, 1) := by decide +kernel
theorem dX4_divide_55 : decode cX4_divide 55 = .ok (.iload_n 2, 1) := by decide +kernel
theorem dX4_divide_56 : decode cX4_divide 56 = .ok (.idiv, 1) := by decide +kernel
theorem dX4_divide_57 : decode cX4_divide 57 = .ok (.ireturn, 1) := by decide +kernel
theorem dX4_divide_58 : decode cX4_divide 58 = .ok (.iload_n 1, 1) := by decide +kernel
theorem dX4_divide_59 : decode cX4_divide 59 = .ok (.i2l, 1) := by decide +kernel
theorem dX4_divide_60 : decode cX4_divide 60 = .ok (.ldc2_w 179, 3) := by decide +kernel
theorem dX4_divide_63 : decode cX4_divide 63 = .ok (.land, 1) := by decide +kernel
theorem dX4_divide_64 : decode cX4_divide 64 = .ok (.lstore 4, 2) := by decide +kernel
theorem dX4_divide_66 : decode cX4_divide 66 = .ok (.iload_n 2, 1) := by decide +kernel
theorem dX4_divide_67 : decode cX4_divide 67 = .ok (.i2l, 1) := by decide +kernel
theorem dX4_divide_68 : decode cX4_divide 68 = .ok (.ldc2_w 179, 3) := by decide +kernel
theorem dX4_divide_71 : decode cX4_divide 71 = .ok (.land, 1) := by decide +kernel
theorem dX4_divide_72 : decode cX4_divide 72 = .ok (.lstore 6, 2) := by decide +kernel
theorem dX4_divide_74 : decode cX4_divide 74 = .ok (.iload_n 3, 1) := by decide +kernel
theorem dX4_divide_75 : decode cX4_divide 75 = .ok (.ifCond .eq 11, 3) := by decide +kernel
theorem dX4_divide_78 : decode cX4_divide 78 = .ok (.lload 4, 2) := by decide +kernel
theorem dX4_divide_80 : decode cX4_divide 80 = .ok (.lload 6, 2) := by decide +kernel
theorem dX4_divide_82 : decode cX4_divide 82 = .ok (.lrem, 1) := by decide +kernel
theorem dX4_divide_83 : decode cX4_divide 83 = .ok (.goto 8, 3) := by decide +kernel
theorem dX4_divide_86 : decode cX4_divide 86 = .ok (.lload 4, 2) := by decide +kernel
theorem dX4_divide_88 : decode cX4_divide 88 = .ok (.lload 6, 2) := by decide +kernel
theorem dX4_divide_90 : decode cX4_divide 90 = .ok (.ldiv, 1) := by decide +kernel
theorem dX4_divide_91 : decode cX4_divide 91 = .ok (.l2i, 1) := by decide +kernel
theorem dX4_divide_92 : decode cX4_divide 92 = .ok (.ireturn, 1) := by decide +kernel
theorem dX4_isDivision_0 : decode cX4_isDivision 0 = .ok (.iload_n 0, 1) := by decide +kernel
theorem dX4_isDivision_1 : decode cX4_isDivision 1 = .ok (.bipush 12, 2) := by decide +kernel
theorem dX4_isDivision_3 : decode cX4_isDivision 3 = .ok (.if_icmp .lt 13, 3) := by decide +kernel
theorem dX4_isDivision_6 : decode cX4_isDivision 6 = .ok (.iload_n 0, 1) := by decide +kernel
theorem dX4_isDivision_7 : decode cX4_isDivision 7 = .ok (.bipush 15, 2) := by decide +kernel
theorem dX4_isDivision_9 : decode cX4_isDivision 9 = .ok (.if_icmp .gt 7, 3) := by decide +kernel
theorem dX4_isDivision_12 : decode cX4_isDivision 12 = .ok (.iconst 1, 1) := by decide +kernel
theorem dX4_isDivision_13 : decode cX4_isDivision 13 = .ok (.goto 4, 3) := by decide +kernel
theorem dX4_isDivision_16 : decode cX4_isDivision 16 = .ok (.iconst 0, 1) := by decide +kernel
theorem dX4_isDivision_17 : decode cX4_isDivision 17 = .ok (.ireturn, 1) := by decide +kernel
theorem dX4_isRegister_0 : decode cX4_isRegister 0 = .ok (.iload_n 0, 1) := by decide +kernel
theorem dX4_isRegister_1 : decode cX4_isRegister 1 = .ok (.ifCond .lt 13, 3) := by decide +kernel
theorem dX4_isRegister_4 : decode cX4_isRegister 4 = .ok (.iload_n 0, 1) := by decide +kernel
theorem dX4_isRegister_5 : decode cX4_isRegister 5 = .ok (.bipush 16, 2) := by decide +kernel
theorem dX4_isRegister_7 : decode cX4_isRegister 7 = .ok (.if_icmp .ge 7, 3) := by decide +kernel
theorem dX4_isRegister_10 : decode cX4_isRegister 10 = .ok (.iconst 1, 1) := by decide +kernel
theorem dX4_isRegister_11 : decode cX4_isRegister 11 = .ok (.goto 4, 3) := by decide +kernel
theorem dX4_isRegister_14 : decode cX4_isRegister 14 = .ok (.iconst 0, 1) := by decide +kernel
theorem dX4_isRegister_15 : decode cX4_isRegister 15 = .ok (.ireturn, 1) := by decide +kernel
theorem dX4_isCell_0 : decode cX4_isCell 0 = .ok (.iload_n 0, 1) := by decide +kernel
theorem dX4_isCell_1 : decode cX4_isCell 1 = .ok (.ifCond .lt 13, 3) := by decide +kernel
theorem dX4_isCell_4 : decode cX4_isCell 4 = .ok (.iload_n 0, 1) := by decide +kernel
theorem dX4_isCell_5 : decode cX4_isCell 5 = .ok (.bipush 8, 2) := by decide +kernel
theorem dX4_isCell_7 : decode cX4_isCell 7 = .ok (.if_icmp .ge 7, 3) := by decide +kernel
theorem dX4_isCell_10 : decode cX4_isCell 10 = .ok (.iconst 1, 1) := by decide +kernel
theorem dX4_isCell_11 : decode cX4_isCell 11 = .ok (.goto 4, 3) := by decide +kernel
theorem dX4_isCell_14 : decode cX4_isCell 14 = .ok (.iconst 0, 1) := by decide +kernel
theorem dX4_isCell_15 : decode cX4_isCell 15 = .ok (.ireturn, 1) := by decide +kernel
theorem dJ13_bitCount_95d88_0 : decode cJ13_bitCount_95d88 0 = .ok (.lload_n 0, 1) := by decide +kernel
theorem dJ13_bitCount_95d88_1 : decode cJ13_bitCount_95d88 1 = .ok (.lload_n 0, 1) := by decide +kernel
theorem dJ13_bitCount_95d88_2 : decode cJ13_bitCount_95d88 2 = .ok (.iconst 1, 1) := by decide +kernel
theorem dJ13_bitCount_95d88_3 : decode cJ13_bitCount_95d88 3 = .ok (.lushr, 1) := by decide +kernel
theorem dJ13_bitCount_95d88_4 : decode cJ13_bitCount_95d88 4 = .ok (.ldc2_w 314, 3) := by decide +kernel
theorem dJ13_bitCount_95d88_7 : decode cJ13_bitCount_95d88 7 = .ok (.land, 1) := by decide +kernel
theorem dJ13_bitCount_95d88_8 : decode cJ13_bitCount_95d88 8 = .ok (.lsub, 1) := by decide +kernel
theorem dJ13_bitCount_95d88_9 : decode cJ13_bitCount_95d88 9 = .ok (.lstore_n 0, 1) := by decide +kernel
theorem dJ13_bitCount_95d88_10 : decode cJ13_bitCount_95d88 10 = .ok (.lload_n 0, 1) := by decide +kernel
theorem dJ13_bitCount_95d88_11 : decode cJ13_bitCount_95d88 11 = .ok (.ldc2_w 316, 3) := by decide +kernel
theorem dJ13_bitCount_95d88_14 : decode cJ13_bitCount_95d88 14 = .ok (.land, 1) := by decide +kernel
theorem dJ13_bitCount_95d88_15 : decode cJ13_bitCount_95d88 15 = .ok (.lload_n 0, 1) := by decide +kernel
theorem dJ13_bitCount_95d88_16 : decode cJ13_bitCount_95d88 16 = .ok (.iconst 2, 1) := by decide +kernel
theorem dJ13_bitCount_95d88_17 : decode cJ13_bitCount_95d88 17 = .ok (.lushr, 1) := by decide +kernel
theorem dJ13_bitCount_95d88_18 : decode cJ13_bitCount_95d88 18 = .ok (.ldc2_w 316, 3) := by decide +kernel
theorem dJ13_bitCount_95d88_21 : decode cJ13_bitCount_95d88 21 = .ok (.land, 1) := by decide +kernel
theorem dJ13_bitCount_95d88_22 : decode cJ13_bitCount_95d88 22 = .ok (.ladd, 1) := by decide +kernel
theorem dJ13_bitCount_95d88_23 : decode cJ13_bitCount_95d88 23 = .ok (.lstore_n 0, 1) := by decide +kernel
theorem dJ13_bitCount_95d88_24 : decode cJ13_bitCount_95d88 24 = .ok (.lload_n 0, 1) := by decide +kernel
theorem dJ13_bitCount_95d88_25 : decode cJ13_bitCount_95d88 25 = .ok (.lload_n 0, 1) := by decide +kernel
theorem dJ13_bitCount_95d88_26 : decode cJ13_bitCount_95d88 26 = .ok (.iconst 4, 1) := by decide +kernel
theorem dJ13_bitCount_95d88_27 : decode cJ13_bitCount_95d88 27 = .ok (.lushr, 1) := by decide +kernel
theorem dJ13_bitCount_95d88_28 : decode cJ13_bitCount_95d88 28 = .ok (.ladd, 1) := by decide +kernel
theorem dJ13_bitCount_95d88_29 : decode cJ13_bitCount_95d88 29 = .ok (.ldc2_w 318, 3) := by decide +kernel
theorem dJ13_bitCount_95d88_32 : decode cJ13_bitCount_95d88 32 = .ok (.land, 1) := by decide +kernel
theorem dJ13_bitCount_95d88_33 : decode cJ13_bitCount_95d88 33 = .ok (.lstore_n 0, 1) := by decide +kernel
theorem dJ13_bitCount_95d88_34 : decode cJ13_bitCount_95d88 34 = .ok (.lload_n 0, 1) := by decide +kernel
theorem dJ13_bitCount_95d88_35 : decode cJ13_bitCount_95d88 35 = .ok (.lload_n 0, 1) := by decide +kernel
theorem dJ13_bitCount_95d88_36 : decode cJ13_bitCount_95d88 36 = .ok (.bipush 8, 2) := by decide +kernel
theorem dJ13_bitCount_95d88_38 : decode cJ13_bitCount_95d88 38 = .ok (.lushr, 1) := by decide +kernel
theorem dJ13_bitCount_95d88_39 : decode cJ13_bitCount_95d88 39 = .ok (.ladd, 1) := by decide +kernel
theorem dJ13_bitCount_95d88_40 : decode cJ13_bitCount_95d88 40 = .ok (.lstore_n 0, 1) := by decide +kernel
theorem dJ13_bitCount_95d88_41 : decode cJ13_bitCount_95d88 41 = .ok (.lload_n 0, 1) := by decide +kernel
theorem dJ13_bitCount_95d88_42 : decode cJ13_bitCount_95d88 42 = .ok (.lload_n 0, 1) := by decide +kernel
theorem dJ13_bitCount_95d88_43 : decode cJ13_bitCount_95d88 43 = .ok (.bipush 16, 2) := by decide +kernel
theorem dJ13_bitCount_95d88_45 : decode cJ13_bitCount_95d88 45 = .ok (.lushr, 1) := by decide +kernel
theorem dJ13_bitCount_95d88_46 : decode cJ13_bitCount_95d88 46 = .ok (.ladd, 1) := by decide +kernel
theorem dJ13_bitCount_95d88_47 : decode cJ13_bitCount_95d88 47 = .ok (.lstore_n 0, 1) := by decide +kernel
theorem dJ13_bitCount_95d88_48 : decode cJ13_bitCount_95d88 48 = .ok (.lload_n 0, 1) := by decide +kernel
theorem dJ13_bitCount_95d88_49 : decode cJ13_bitCount_95d88 49 = .ok (.lload_n 0, 1) := by decide +kernel
theorem dJ13_bitCount_95d88_50 : decode cJ13_bitCount_95d88 50 = .ok (.bipush 32, 2) := by decide +kernel
theorem dJ13_bitCount_95d88_52 : decode cJ13_bitCount_95d88 52 = .ok (.lushr, 1) := by decide +kernel
theorem dJ13_bitCount_95d88_53 : decode cJ13_bitCount_95d88 53 = .ok (.ladd, 1) := by decide +kernel
theorem dJ13_bitCount_95d88_54 : decode cJ13_bitCount_95d88 54 = .ok (.lstore_n 0, 1) := by decide +kernel
theorem dJ13_bitCount_95d88_55 : decode cJ13_bitCount_95d88 55 = .ok (.lload_n 0, 1) := by decide +kernel
theorem dJ13_bitCount_95d88_56 : decode cJ13_bitCount_95d88 56 = .ok (.l2i, 1) := by decide +kernel
theorem dJ13_bitCount_95d88_57 : decode cJ13_bitCount_95d88 57 = .ok (.bipush 127, 2) := by decide +kernel
theorem dJ13_bitCount_95d88_59 : decode cJ13_bitCount_95d88 59 = .ok (.iand, 1) := by decide +kernel
theorem dJ13_bitCount_95d88_60 : decode cJ13_bitCount_95d88 60 = .ok (.ireturn, 1) := by decide +kernel
theorem dJ7_fill_53178_0 : decode cJ7_fill_53178 0 = .ok (.iconst 0, 1) := by decide +kernel
theorem dJ7_fill_53178_1 : decode cJ7_fill_53178 1 = .ok (.istore_n 2, 1) := by decide +kernel
theorem dJ7_fill_53178_2 : decode cJ7_fill_53178 2 = .ok (.aload_n 0, 1) := by decide +kernel
theorem dJ7_fill_53178_3 : decode cJ7_fill_53178 3 = .ok (.arraylength, 1) := by decide +kernel
theorem dJ7_fill_53178_4 : decode cJ7_fill_53178 4 = .ok (.istore_n 3, 1) := by decide +kernel
theorem dJ7_fill_53178_5 : decode cJ7_fill_53178 5 = .ok (.iload_n 2, 1) := by decide +kernel
theorem dJ7_fill_53178_6 : decode cJ7_fill_53178 6 = .ok (.iload_n 3, 1) := by decide +kernel
theorem dJ7_fill_53178_7 : decode cJ7_fill_53178 7 = .ok (.if_icmp .ge 13, 3) := by decide +kernel
theorem dJ7_fill_53178_10 : decode cJ7_fill_53178 10 = .ok (.aload_n 0, 1) := by decide +kernel
theorem dJ7_fill_53178_11 : decode cJ7_fill_53178 11 = .ok (.iload_n 2, 1) := by decide +kernel
theorem dJ7_fill_53178_12 : decode cJ7_fill_53178 12 = .ok (.iload_n 1, 1) := by decide +kernel
theorem dJ7_fill_53178_13 : decode cJ7_fill_53178 13 = .ok (.iastore, 1) := by decide +kernel
theorem dJ7_fill_53178_14 : decode cJ7_fill_53178 14 = .ok (.iinc 2 1, 3) := by decide +kernel
theorem dJ7_fill_53178_17 : decode cJ7_fill_53178 17 = .ok (.goto (-12), 3) := by decide +kernel
theorem dJ7_fill_53178_20 : decode cJ7_fill_53178 20 = .ok (.return_, 1) := by decide +kernel
end
section
theorem dX0_init_0 : decode cX0_init 0 = .ok (.aload_n 0, 1) := by decide +kernel
theorem dX0_init_1 : decode cX0_init 1 = .ok (.invokespecial 3, 3) := by decide +kernel
theorem dX0_init_4 : decode cX0_init 4 = .ok (.aload_n 0, 1) := by decide +kernel
theorem dX0_init_5 : decode cX0_init 5 = .ok (.bipush 40, 2) := by decide +kernel
theorem dX0_init_7 : decode cX0_init 7 = .ok (.anewarray 9, 3) := by decide +kernel
theorem dX0_init_10 : decode cX0_init 10 = .ok (.putfield 11, 3) := by decide +kernel
theorem dX0_init_13 : decode cX0_init 13 = .ok (.aload_n 0, 1) := by decide +kernel
theorem dX0_init_14 : decode cX0_init 14 = .ok (.sipush 4096, 3) := by decide +kernel
theorem dX0_init_17 : decode cX0_init 17 = .ok (.newarray .long, 2) := by decide +kernel
theorem dX0_init_19 : decode cX0_init 19 = .ok (.putfield 17, 3) := by decide +kernel
theorem dX0_init_22 : decode cX0_init 22 = .ok (.aload_n 0, 1) := by decide +kernel
theorem dX0_init_23 : decode cX0_init 23 = .ok (.sipush 4096, 3) := by decide +kernel
theorem dX0_init_26 : decode cX0_init 26 = .ok (.newarray .int, 2) := by decide +kernel
theorem dX0_init_28 : decode cX0_init 28 = .ok (.putfield 21, 3) := by decide +kernel
theorem dX0_init_31 : decode cX0_init 31 = .ok (.iconst 0, 1) := by decide +kernel
theorem dX0_init_32 : decode cX0_init 32 = .ok (.istore_n 1, 1) := by decide +kernel
theorem dX0_init_33 : decode cX0_init 33 = .ok (.iload_n 1, 1) := by decide +kernel
theorem dX0_init_34 : decode cX0_init 34 = .ok (.bipush 40, 2) := by decide +kernel
theorem dX0_init_36 : decode cX0_init 36 = .ok (.if_icmp .ge 22, 3) := by decide +kernel
theorem dX0_init_39 : decode cX0_init 39 = .ok (.aload_n 0, 1) := by decide +kernel
theorem dX0_init_40 : decode cX0_init 40 = .ok (.getfield 11, 3) := by decide +kernel
theorem dX0_init_43 : decode cX0_init 43 = .ok (.iload_n 1, 1) := by decide +kernel
theorem dX0_init_44 : decode cX0_init 44 = .ok (.new 9, 3) := by decide +kernel
theorem dX0_init_47 : decode cX0_init 47 = .ok (.dup, 1) := by decide +kernel
theorem dX0_init_48 : decode cX0_init 48 = .ok (.invokespecial 25, 3) := by decide +kernel
theorem dX0_init_51 : decode cX0_init 51 = .ok (.aastore, 1) := by decide +kernel
theorem dX0_init_52 : decode cX0_init 52 = .ok (.iinc 1 1, 3) := by decide +kernel
theorem dX0_init_55 : decode cX0_init 55 = .ok (.goto (-22), 3) := by decide +kernel
theorem dX0_init_58 : decode cX0_init 58 = .ok (.return_, 1) := by decide +kernel
theorem dX0_forget_0 : decode cX0_forget 0 = .ok (.aload_n 0, 1) := by decide +kernel
theorem dX0_forget_1 : decode cX0_forget 1 = .ok (.iconst 0, 1) := by decide +kernel
theorem dX0_forget_2 : decode cX0_forget 2 = .ok (.putfield 26, 3) := by decide +kernel
theorem dX0_forget_5 : decode cX0_forget 5 = .ok (.aload_n 0, 1) := by decide +kernel
theorem dX0_forget_6 : decode cX0_forget 6 = .ok (.lconst 0, 1) := by decide +kernel
theorem dX0_forget_7 : decode cX0_forget 7 = .ok (.putfield 30, 3) := by decide +kernel
theorem dX0_forget_10 : decode cX0_forget 10 = .ok (.aload_n 0, 1) := by decide +kernel
theorem dX0_forget_11 : decode cX0_forget 11 = .ok (.lconst 0, 1) := by decide +kernel
theorem dX0_forget_12 : decode cX0_forget 12 = .ok (.putfield 34, 3) := by decide +kernel
theorem dX0_forget_15 : decode cX0_forget 15 = .ok (.return_, 1) := by decide +kernel
theorem dX0_isKnown_0 : decode cX0_isKnown 0 = .ok (.aload_n 0, 1) := by decide +kernel
theorem dX0_isKnown_1 : decode cX0_isKnown 1 = .ok (.getfield 26, 3) := by decide +kernel
theorem dX0_isKnown_4 : decode cX0_isKnown 4 = .ok (.ifCond .le 7, 3) := by decide +kernel
theorem dX0_isKnown_7 : decode cX0_isKnown 7 = .ok (.iconst 1, 1) := by decide +kernel
theorem dX0_isKnown_8 : decode cX0_isKnown 8 = .ok (.goto 4, 3) := by decide +kernel
theorem dX0_isKnown_11 : decode cX0_isKnown 11 = .ok (.iconst 0, 1) := by decide +kernel
theorem dX0_isKnown_12 : decode cX0_isKnown 12 = .ok (.ireturn, 1) := by decide +kernel
theorem dX0_knownOrNone_0 : decode cX0_knownOrNone 0 = .ok (.aload_n 0, 1) := by decide +kernel
theorem dX0_knownOrNone_1 : decode cX0_knownOrNone 1 = .ok (.invokevirtual 37, 3) := by decide +kernel
theorem dX0_knownOrNone_4 : decode cX0_knownOrNone 4 = .ok (.ifCond .eq 7, 3) := by decide +kernel
theorem dX0_knownOrNone_7 : decode cX0_knownOrNone 7 = .ok (.iload_n 1, 1) := by decide +kernel
theorem dX0_knownOrNone_8 : decode cX0_knownOrNone 8 = .ok (.goto 4, 3) := by decide +kernel
theorem dX0_knownOrNone_11 : decode cX0_knownOrNone 11 = .ok (.iconst (-1), 1) := by decide +kernel
theorem dX0_knownOrNone_12 : decode cX0_knownOrNone 12 = .ok (.ireturn, 1) := by decide +kernel
theorem dX0_pathAt_0 : decode cX0_pathAt 0 = .ok (.iload_n 1, 1) := by decide +kernel
theorem dX0_pathAt_1 : decode cX0_pathAt 1 = .ok (.ifCond .lt 20, 3) := by decide +kernel
theorem dX0_pathAt_4 : decode cX0_pathAt 4 = .ok (.iload_n 1, 1) := by decide +kernel
theorem dX0_pathAt_5 : decode cX0_pathAt 5 = .ok (.aload_n 0, 1) := by decide +kernel
theorem dX0_pathAt_6 : decode cX0_pathAt 6 = .ok (.getfield 26, 3) := by decide +kernel
theorem dX0_pathAt_9 : decode cX0_pathAt 9 = .ok (.if_icmp .ge 12, 3) := by decide +kernel
theorem dX0_pathAt_12 : decode cX0_pathAt 12 = .ok (.aload_n 0, 1) := by decide +kernel
theorem dX0_pathAt_13 : decode cX0_pathAt 13 = .ok (.getfield 11, 3) := by decide +kernel
theorem dX0_pathAt_16 : decode cX0_pathAt 16 = .ok (.iload_n 1, 1) := by decide +kernel
theorem dX0_pathAt_17 : decode cX0_pathAt 17 = .ok (.aaload, 1) := by decide +kernel
theorem dX0_pathAt_18 : decode cX0_pathAt 18 = .ok (.goto 4, 3) := by decide +kernel
theorem dX0_pathAt_21 : decode cX0_pathAt 21 = .ok (.aconst_null, 1) := by decide +kernel
theorem dX0_pathAt_22 : decode cX0_pathAt 22 = .ok (.areturn, 1) := by decide +kernel
theorem dX0_survey_0 : decode cX0_survey 0 = .ok (.aload_n 0, 1) := by decide +kernel
theorem dX0_survey_1 : decode cX0_survey 1 = .ok (.invokevirtual 41, 3) := by decide +kernel
theorem dX0_survey_4 : decode cX0_survey 4 = .ok (.aload_n 1, 1) := by decide +kernel
theorem dX0_survey_5 : decode cX0_survey 5 = .ok (.invokevirtual 44, 3) := by decide +kernel
theorem dX0_survey_8 : decode cX0_survey 8 = .ok (.istore_n 3, 1) := by decide +kernel
theorem dX0_survey_9 : decode cX0_survey 9 = .ok (.iconst 0, 1) := by decide +kernel
theorem dX0_survey_10 : decode cX0_survey 10 = .ok (.istore 4, 2) := by decide +kernel
theorem dX0_survey_12 : decode cX0_survey 12 = .ok (.iload 4, 2) := by decide +kernel
theorem dX0_survey_14 : decode cX0_survey 14 = .ok (.iload_n 3, 1) := by decide +kernel
theorem dX0_survey_15 : decode cX0_survey 15 = .ok (.if_icmp .ge 32, 3) := by decide +kernel
theorem dX0_survey_18 : decode cX0_survey 18 = .ok (.aload_n 2, 1) := by decide +kernel
theorem dX0_survey_19 : decode cX0_survey 19 = .ok (.aload_n 1, 1) := by decide +kernel
theorem dX0_survey_20 : decode cX0_survey 20 = .ok (.iload 4, 2) := by decide +kernel
theorem dX0_survey_22 : decode cX0_survey 22 = .ok (.aconst_null, 1) := by decide +kernel
theorem dX0_survey_23 : decode cX0_survey 23 = .ok (.invokevirtual 50, 3) := by decide +kernel
theorem dX0_survey_26 : decode cX0_survey 26 = .ok (.aload_n 0, 1) := by decide +kernel
theorem dX0_survey_27 : decode cX0_survey 27 = .ok (.aload_n 2, 1) := by decide +kernel
theorem dX0_survey_28 : decode cX0_survey 28 = .ok (.iload 4, 2) := by decide +kernel
theorem dX0_survey_30 : decode cX0_survey 30 = .ok (.invokevirtual 56, 3) := by decide +kernel
theorem dX0_survey_33 : decode cX0_survey 33 = .ok (.ifCond .ne 8, 3) := by decide +kernel
theorem dX0_survey_36 : decode cX0_survey 36 = .ok (.aload_n 0, 1) := by decide +kernel
theorem dX0_survey_37 : decode cX0_survey 37 = .ok (.invokevirtual 41, 3) := by decide +kernel
theorem dX0_survey_40 : decode cX0_survey 40 = .ok (.return_, 1) := by decide +kernel
theorem dX0_survey_41 : decode cX0_survey 41 = .ok (.iinc 4 1, 3) := by decide +kernel
theorem dX0_survey_44 : decode cX0_survey 44 = .ok (.goto (-32), 3) := by decide +kernel
theorem dX0_survey_47 : decode cX0_survey 47 = .ok (.return_, 1) := by decide +kernel
theorem dX0_enter_0 : decode cX0_enter 0 = .ok (.aload_n 0, 1) := by decide +kernel
theorem dX0_enter_1 : decode cX0_enter 1 = .ok (.aload_n 1, 1) := by decide +kernel
theorem dX0_enter_2 : decode cX0_enter 2 = .ok (.getfield 60, 3) := by decide +kernel
theorem dX0_enter_5 : decode cX0_enter 5 = .ok (.invokevirtual 63, 3) := by decide +kernel
theorem dX0_enter_8 : decode cX0_enter 8 = .ok (.istore_n 3, 1) := by decide +kernel
theorem dX0_enter_9 : decode cX0_enter 9 = .ok (.iload_n 3, 1) := by decide +kernel
theorem dX0_enter_10 : decode cX0_enter 10 = .ok (.aload_n 0, 1) := by decide +kernel
theorem dX0_enter_11 : decode cX0_enter 11 = .ok (.getfield 26, 3) := by decide +kernel
theorem dX0_enter_14 : decode cX0_enter 14 = .ok (.if_icmp .ge 58, 3) := by decide +kernel
theorem dX0_enter_17 : decode cX0_enter 17 = .ok (.aload_n 0, 1) := by decide +kernel
theorem dX0_enter_18 : decode cX0_enter 18 = .ok (.getfield 11, 3) := by decide +kernel
theorem dX0_enter_21 : decode cX0_enter 21 = .ok (.iload_n 3, 1) := by decide +kernel
theorem dX0_enter_22 : decode cX0_enter 22 = .ok (.aaload, 1) := by decide +kernel
theorem dX0_enter_23 : decode cX0_enter 23 = .ok (.getfield 67, 3) := by decide +kernel
theorem dX0_enter_26 : decode cX0_enter 26 = .ok (.aload_n 1, 1) := by decide +kernel
theorem dX0_enter_27 : decode cX0_enter 27 = .ok (.getfield 60, 3) := by decide +kernel
theorem dX0_enter_30 : decode cX0_enter 30 = .ok (.lcmp, 1) := by decide +kernel
theorem dX0_enter_31 : decode cX0_enter 31 = .ok (.ifCond .ne 41, 3) := by decide +kernel
theorem dX0_enter_34 : decode cX0_enter 34 = .ok (.aload_n 0, 1) := by decide +kernel
theorem dX0_enter_35 : decode cX0_enter 35 = .ok (.getfield 11, 3) := by decide +kernel
theorem dX0_enter_38 : decode cX0_enter 38 = .ok (.iload_n 3, 1) := by decide +kernel
theorem dX0_enter_39 : decode cX0_enter 39 = .ok (.aaload, 1) := by decide +kernel
theorem dX0_enter_40 : decode cX0_enter 40 = .ok (.dup, 1) := by decide +kernel
theorem dX0_enter_41 : decode cX0_enter 41 = .ok (.getfield 68, 3) := by decide +kernel
theorem dX0_enter_44 : decode cX0_enter 44 = .ok (.aload_n 0, 1) := by decide +kernel
theorem dX0_enter_45 : decode cX0_enter 45 = .ok (.getfield 11, 3) := by decide +kernel
theorem dX0_enter_48 : decode cX0_enter 48 = .ok (.iload_n 3, 1) := by decide +kernel
theorem dX0_enter_49 : decode cX0_enter 49 = .ok (.aaload, 1) := by decide +kernel
theorem dX0_enter_50 : decode cX0_enter 50 = .ok (.getfield 72, 3) := by decide +kernel
theorem dX0_enter_53 : decode cX0_enter 53 = .ok (.aload_n 1, 1) := by decide +kernel
theorem dX0_enter_54 : decode cX0_enter 54 = .ok (.getfield 75, 3) := by decide +kernel
theorem dX0_enter_57 : decode cX0_enter 57 = .ok (.if_icmp .ne 7, 3) := by decide +kernel
theorem dX0_enter_60 : decode cX0_enter 60 = .ok (.iconst 1, 1) := by decide +kernel
theorem dX0_enter_61 : decode cX0_enter 61 = .ok (.goto 4, 3) := by decide +kernel
theorem dX0_enter_64 : decode cX0_enter 64 = .ok (.iconst 0, 1) := by decide +kernel
theorem dX0_enter_65 : decode cX0_enter 65 = .ok (.iand, 1) := by decide +kernel
theorem dX0_enter_66 : decode cX0_enter 66 = .ok (.putfield 68, 3) := by decide +kernel
theorem dX0_enter_69 : decode cX0_enter 69 = .ok (.goto 67, 3) := by decide +kernel
theorem dX0_enter_72 : decode cX0_enter 72 = .ok (.aload_n 0, 1) := by decide +kernel
theorem dX0_enter_73 : decode cX0_enter 73 = .ok (.getfield 26, 3) := by decide +kernel
theorem dX0_enter_76 : decode cX0_enter 76 = .ok (.bipush 40, 2) := by decide +kernel
theorem dX0_enter_78 : decode cX0_enter 78 = .ok (.if_icmp .ge 56, 3) := by decide +kernel
theorem dX0_enter_81 : decode cX0_enter 81 = .ok (.aload_n 0, 1) := by decide +kernel
theorem dX0_enter_82 : decode cX0_enter 82 = .ok (.iload_n 3, 1) := by decide +kernel
theorem dX0_enter_83 : decode cX0_enter 83 = .ok (.invokevirtual 76, 3) := by decide +kernel
theorem dX0_enter_86 : decode cX0_enter 86 = .ok (.aload_n 1, 1) := by decide +kernel
theorem dX0_enter_87 : decode cX0_enter 87 = .ok (.iload_n 2, 1) := by decide +kernel
theorem dX0_enter_88 : decode cX0_enter 88 = .ok (.invokevirtual 80, 3) := by decide +kernel
theorem dX0_enter_91 : decode cX0_enter 91 = .ok (.aload_n 0, 1) := by decide +kernel
theorem dX0_enter_92 : decode cX0_enter 92 = .ok (.dup, 1) := by decide +kernel
theorem dX0_enter_93 : decode cX0_enter 93 = .ok (.getfield 30, 3) := by decide +kernel
theorem dX0_enter_96 : decode cX0_enter 96 = .ok (.aload_n 1, 1) := by decide +kernel
theorem dX0_enter_97 : decode cX0_enter 97 = .ok (.getfield 84, 3) := by decide +kernel
theorem dX0_enter_100 : decode cX0_enter 100 = .ok (.lor, 1) := by decide +kernel
theorem dX0_enter_101 : decode cX0_enter 101 = .ok (.putfield 30, 3) := by decide +kernel
theorem dX0_enter_104 : decode cX0_enter 104 = .ok (.aload_n 0, 1) := by decide +kernel
theorem dX0_enter_105 : decode cX0_enter 105 = .ok (.dup, 1) := by decide +kernel
theorem dX0_enter_106 : decode cX0_enter 106 = .ok (.getfield 34, 3) := by decide +kernel
theorem dX0_enter_109 : decode cX0_enter 109 = .ok (.aload_n 1, 1) := by decide +kernel
theorem dX0_enter_110 : decode cX0_enter 110 = .ok (.getfield 85, 3) := by decide +kernel
theorem dX0_enter_113 : decode cX0_enter 113 = .ok (.ifCond .ne 7, 3) := by decide +kernel
theorem dX0_enter_116 : decode cX0_enter 116 = .ok (.lconst 0, 1) := by decide +kernel
theorem dX0_enter_117 : decode cX0_enter 117 = .ok (.goto 10, 3) := by decide +kernel
theorem dX0_enter_120 : decode cX0_enter 120 = .ok (.aload_n 1, 1) := by decide +kernel
theorem dX0_enter_121 : decode cX0_enter 121 = .ok (.getfield 88, 3) := by decide +kernel
theorem dX0_enter_124 : decode cX0_enter 124 = .ok (.invokestatic 91, 3) := by decide +kernel
theorem dX0_enter_127 : decode cX0_enter 127 = .ok (.lor, 1) := by decide +kernel
theorem dX0_enter_128 : decode cX0_enter 128 = .ok (.putfield 34, 3) := by decide +kernel
theorem dX0_enter_131 : decode cX0_enter 131 = .ok (.goto 5, 3) := by decide +kernel
theorem dX0_enter_134 : decode cX0_enter 134 = .ok (.iconst 0, 1) := by decide +kernel
theorem dX0_enter_135 : decode cX0_enter 135 = .ok (.ireturn, 1) := by decide +kernel
theorem dX0_enter_136 : decode cX0_enter 136 = .ok (.aload_n 0, 1) := by decide +kernel
theorem dX0_enter_137 : decode cX0_enter 137 = .ok (.getfield 17, 3) := by decide +kernel
theorem dX0_enter_140 : decode cX0_enter 140 = .ok (.iload_n 2, 1) := by decide +kernel
theorem dX0_enter_141 : decode cX0_enter 141 = .ok (.aload_n 1, 1) := by decide +kernel
theorem dX0_enter_142 : decode cX0_enter 142 = .ok (.getfield 60, 3) := by decide +kernel
theorem dX0_enter_145 : decode cX0_enter 145 = .ok (.lastore, 1) := by decide +kernel
theorem dX0_enter_146 : decode cX0_enter 146 = .ok (.aload_n 0, 1) := by decide +kernel
theorem dX0_enter_147 : decode cX0_enter 147 = .ok (.getfield 21, 3) := by decide +kernel
theorem dX0_enter_150 : decode cX0_enter 150 = .ok (.iload_n 2, 1) := by decide +kernel
theorem dX0_enter_151 : decode cX0_enter 151 = .ok (.aload_n 1, 1) := by decide +kernel
theorem dX0_enter_152 : decode cX0_enter 152 = .ok (.getfield 75, 3) := by decide +kernel
theorem dX0_enter_155 : decode cX0_enter 155 = .ok (.iastore, 1) := by decide +kernel
theorem dX0_enter_156 : decode cX0_enter 156 = .ok (.iconst 1, 1) := by decide +kernel
theorem dX0_enter_157 : decode cX0_enter 157 = .ok (.ireturn, 1) := by decide +kernel
theorem dX0_firstNotAheadOf_0 : decode cX0_firstNotAheadOf 0 = .ok (.iconst 0, 1) := by decide +kernel
theorem dX0_firstNotAheadOf_1 : decode cX0_firstNotAheadOf 1 = .ok (.istore_n 3, 1) := by decide +kernel
theorem dX0_firstNotAheadOf_2 : decode cX0_firstNotAheadOf 2 = .ok (.iload_n 3, 1) := by decide +kernel
theorem dX0_firstNotAheadOf_3 : decode cX0_firstNotAheadOf 3 = .ok (.aload_n 0, 1) := by decide +kernel
theorem dX0_firstNotAheadOf_4 : decode cX0_firstNotAheadOf 4 = .ok (.getfield 26, 3) := by decide +kernel
theorem dX0_firstNotAheadOf_7 : decode cX0_firstNotAheadOf 7 = .ok (.if_icmp .ge 25, 3) := by decide +kernel
theorem dX0_firstNotAheadOf_10 : decode cX0_firstNotAheadOf 10 = .ok (.aload_n 0, 1) := by decide +kernel
theorem dX0_firstNotAheadOf_11 : decode cX0_firstNotAheadOf 11 = .ok (.getfield 11, 3) := by decide +kernel
theorem dX0_firstNotAheadOf_14 : decode cX0_firstNotAheadOf 14 = .ok (.iload_n 3, 1) := by decide +kernel
theorem dX0_firstNotAheadOf_15 : decode cX0_firstNotAheadOf 15 = .ok (.aaload, 1) := by decide +kernel
theorem dX0_firstNotAheadOf_16 : decode cX0_firstNotAheadOf 16 = .ok (.getfield 67, 3) := by decide +kernel
theorem dX0_firstNotAheadOf_19 : decode cX0_firstNotAheadOf 19 = .ok (.lload_n 1, 1) := by decide +kernel
theorem dX0_firstNotAheadOf_20 : decode cX0_firstNotAheadOf 20 = .ok (.lcmp, 1) := by decide +kernel
theorem dX0_firstNotAheadOf_21 : decode cX0_firstNotAheadOf 21 = .ok (.ifCond .gt 5, 3) := by decide +kernel
theorem dX0_firstNotAheadOf_24 : decode cX0_firstNotAheadOf 24 = .ok (.iload_n 3, 1) := by decide +kernel
theorem dX0_firstNotAheadOf_25 : decode cX0_firstNotAheadOf 25 = .ok (.ireturn, 1) := by decide +kernel
theorem dX0_firstNotAheadOf_26 : decode cX0_firstNotAheadOf 26 = .ok (.iinc 3 1, 3) := by decide +kernel
theorem dX0_firstNotAheadOf_29 : decode cX0_firstNotAheadOf 29 = .ok (.goto (-27), 3) := by decide +kernel
theorem dX0_firstNotAheadOf_32 : decode cX0_firstNotAheadOf 32 = .ok (.aload_n 0, 1) := by decide +kernel
theorem dX0_firstNotAheadOf_33 : decode cX0_firstNotAheadOf 33 = .ok (.getfield 26, 3) := by decide +kernel
theorem dX0_firstNotAheadOf_36 : decode cX0_firstNotAheadOf 36 = .ok (.ireturn, 1) := by decide +kernel
theorem dX0_insertAt_0 : decode cX0_insertAt 0 = .ok (.aload_n 0, 1) := by decide +kernel
theorem dX0_insertAt_1 : decode cX0_insertAt 1 = .ok (.getfield 11, 3) := by decide +kernel
theorem dX0_insertAt_4 : decode cX0_insertAt 4 = .ok (.aload_n 0, 1) := by decide +kernel
theorem dX0_insertAt_5 : decode cX0_insertAt 5 = .ok (.getfield 26, 3) := by decide +kernel
theorem dX0_insertAt_8 : decode cX0_insertAt 8 = .ok (.aaload, 1) := by decide +kernel
theorem dX0_insertAt_9 : decode cX0_insertAt 9 = .ok (.astore_n 2, 1) := by decide +kernel
theorem dX0_insertAt_10 : decode cX0_insertAt 10 = .ok (.aload_n 0, 1) := by decide +kernel
theorem dX0_insertAt_11 : decode cX0_insertAt 11 = .ok (.getfield 26, 3) := by decide +kernel
theorem dX0_insertAt_14 : decode cX0_insertAt 14 = .ok (.istore_n 3, 1) := by decide +kernel
theorem dX0_insertAt_15 : decode cX0_insertAt 15 = .ok (.iload_n 3, 1) := by decide +kernel
theorem dX0_insertAt_16 : decode cX0_insertAt 16 = .ok (.iload_n 1, 1) := by decide +kernel
theorem dX0_insertAt_17 : decode cX0_insertAt 17 = .ok (.if_icmp .le 23, 3) := by decide +kernel
theorem dX0_insertAt_20 : decode cX0_insertAt 20 = .ok (.aload_n 0, 1) := by decide +kernel
theorem dX0_insertAt_21 : decode cX0_insertAt 21 = .ok (.getfield 11, 3) := by decide +kernel
theorem dX0_insertAt_24 : decode cX0_insertAt 24 = .ok (.iload_n 3, 1) := by decide +kernel
theorem dX0_insertAt_25 : decode cX0_insertAt 25 = .ok (.aload_n 0, 1) := by decide +kernel
theorem dX0_insertAt_26 : decode cX0_insertAt 26 = .ok (.getfield 11, 3) := by decide +kernel
theorem dX0_insertAt_29 : decode cX0_insertAt 29 = .ok (.iload_n 3, 1) := by decide +kernel
theorem dX0_insertAt_30 : decode cX0_insertAt 30 = .ok (.iconst 1, 1) := by decide +kernel
theorem dX0_insertAt_31 : decode cX0_insertAt 31 = .ok (.isub, 1) := by decide +kernel
theorem dX0_insertAt_32 : decode cX0_insertAt 32 = .ok (.aaload, 1) := by decide +kernel
theorem dX0_insertAt_33 : decode cX0_insertAt 33 = .ok (.aastore, 1) := by decide +kernel
theorem dX0_insertAt_34 : decode cX0_insertAt 34 = .ok (.iinc 3 (-1), 3) := by decide +kernel
theorem dX0_insertAt_37 : decode cX0_insertAt 37 = .ok (.goto (-22), 3) := by decide +kernel
theorem dX0_insertAt_40 : decode cX0_insertAt 40 = .ok (.aload_n 0, 1) := by decide +kernel
theorem dX0_insertAt_41 : decode cX0_insertAt 41 = .ok (.getfield 11, 3) := by decide +kernel
theorem dX0_insertAt_44 : decode cX0_insertAt 44 = .ok (.iload_n 1, 1) := by decide +kernel
theorem dX0_insertAt_45 : decode cX0_insertAt 45 = .ok (.aload_n 2, 1) := by decide +kernel
theorem dX0_insertAt_46 : decode cX0_insertAt 46 = .ok (.aastore, 1) := by decide +kernel
theorem dX0_insertAt_47 : decode cX0_insertAt 47 = .ok (.aload_n 0, 1) := by decide +kernel
theorem dX0_insertAt_48 : decode cX0_insertAt 48 = .ok (.dup, 1) := by decide +kernel
theorem dX0_insertAt_49 : decode cX0_insertAt 49 = .ok (.getfield 26, 3) := by decide +kernel
theorem dX0_insertAt_52 : decode cX0_insertAt 52 = .ok (.iconst 1, 1) := by decide +kernel
theorem dX0_insertAt_53 : decode cX0_insertAt 53 = .ok (.iadd, 1) := by decide +kernel
theorem dX0_insertAt_54 : decode cX0_insertAt 54 = .ok (.putfield 26, 3) := by decide +kernel
theorem dX0_insertAt_57 : decode cX0_insertAt 57 = .ok (.aload_n 2, 1) := by decide +kernel
theorem dX0_insertAt_58 : decode cX0_insertAt 58 = .ok (.areturn, 1) := by decide +kernel
theorem dX0_numberOf_0 : decode cX0_numberOf 0 = .ok (.aload_n 0, 1) := by decide +kernel
theorem dX0_numberOf_1 : decode cX0_numberOf 1 = .ok (.lload_n 1, 1) := by decide +kernel
theorem dX0_numberOf_2 : decode cX0_numberOf 2 = .ok (.invokevirtual 63, 3) := by decide +kernel
theorem dX0_numberOf_5 : decode cX0_numberOf 5 = .ok (.istore_n 3, 1) := by decide +kernel
theorem dX0_numberOf_6 : decode cX0_numberOf 6 = .ok (.iload_n 3, 1) := by decide +kernel
theorem dX0_numberOf_7 : decode cX0_numberOf 7 = .ok (.aload_n 0, 1) := by decide +kernel
theorem dX0_numberOf_8 : decode cX0_numberOf 8 = .ok (.getfield 26, 3) := by decide +kernel
theorem dX0_numberOf_11 : decode cX0_numberOf 11 = .ok (.if_icmp .ge 21, 3) := by decide +kernel
theorem dX0_numberOf_14 : decode cX0_numberOf 14 = .ok (.aload_n 0, 1) := by decide +kernel
theorem dX0_numberOf_15 : decode cX0_numberOf 15 = .ok (.getfield 11, 3) := by decide +kernel
theorem dX0_numberOf_18 : decode cX0_numberOf 18 = .ok (.iload_n 3, 1) := by decide +kernel
theorem dX0_numberOf_19 : decode cX0_numberOf 19 = .ok (.aaload, 1) := by decide +kernel
theorem dX0_numberOf_20 : decode cX0_numberOf 20 = .ok (.getfield 67, 3) := by decide +kernel
theorem dX0_numberOf_23 : decode cX0_numberOf 23 = .ok (.lload_n 1, 1) := by decide +kernel
theorem dX0_numberOf_24 : decode cX0_numberOf 24 = .ok (.lcmp, 1) := by decide +kernel
theorem dX0_numberOf_25 : decode cX0_numberOf 25 = .ok (.ifCond .ne 7, 3) := by decide +kernel
theorem dX0_numberOf_28 : decode cX0_numberOf 28 = .ok (.iload_n 3, 1) := by decide +kernel
theorem dX0_numberOf_29 : decode cX0_numberOf 29 = .ok (.goto 4, 3) := by decide +kernel
theorem dX0_numberOf_32 : decode cX0_numberOf 32 = .ok (.iconst (-1), 1) := by decide +kernel
theorem dX0_numberOf_33 : decode cX0_numberOf 33 = .ok (.ireturn, 1) := by decide +kernel
theorem dX0_goes_0 : decode cX0_goes 0 = .ok (.aload_n 0, 1) := by decide +kernel
theorem dX0_goes_1 : decode cX0_goes 1 = .ok (.getfield 17, 3) := by decide +kernel
theorem dX0_goes_4 : decode cX0_goes 4 = .ok (.iload_n 2, 1) := by decide +kernel
theorem dX0_goes_5 : decode cX0_goes 5 = .ok (.laload, 1) := by decide +kernel
theorem dX0_goes_6 : decode cX0_goes 6 = .ok (.aload_n 1, 1) := by decide +kernel
theorem dX0_goes_7 : decode cX0_goes 7 = .ok (.getfield 67, 3) := by decide +kernel
theorem dX0_goes_10 : decode cX0_goes 10 = .ok (.lcmp, 1) := by decide +kernel
theorem dX0_goes_11 : decode cX0_goes 11 = .ok (.ifCond .ne 7, 3) := by decide +kernel
theorem dX0_goes_14 : decode cX0_goes 14 = .ok (.iconst 1, 1) := by decide +kernel
theorem dX0_goes_15 : decode cX0_goes 15 = .ok (.goto 4, 3) := by decide +kernel
theorem dX0_goes_18 : decode cX0_goes 18 = .ok (.iconst 0, 1) := by decide +kernel
theorem dX0_goes_19 : decode cX0_goes 19 = .ok (.ireturn, 1) := by decide +kernel
theorem dX0_leastWordWith_0 : decode cX0_leastWordWith 0 = .ok (.aload_n 1, 1) := by decide +kernel
theorem dX0_leastWordWith_1 : decode cX0_leastWordWith 1 = .ok (.getfield 95, 3) := by decide +kernel
theorem dX0_leastWordWith_4 : decode cX0_leastWordWith 4 = .ok (.istore 5, 2) := by decide +kernel
theorem dX0_leastWordWith_6 : decode cX0_leastWordWith 6 = .ok (.iload 5, 2) := by decide +kernel
theorem dX0_leastWordWith_8 : decode cX0_leastWordWith 8 = .ok (.iload 4, 2) := by decide +kernel
theorem dX0_leastWordWith_10 : decode cX0_leastWordWith 10 = .ok (.if_icmp .ge 37, 3) := by decide +kernel
theorem dX0_leastWordWith_13 : decode cX0_leastWordWith 13 = .ok (.aload_n 0, 1) := by decide +kernel
theorem dX0_leastWordWith_14 : decode cX0_leastWordWith 14 = .ok (.aload_n 1, 1) := by decide +kernel
theorem dX0_leastWordWith_15 : decode cX0_leastWordWith 15 = .ok (.iload 5, 2) := by decide +kernel
theorem dX0_leastWordWith_17 : decode cX0_leastWordWith 17 = .ok (.invokevirtual 98, 3) := by decide +kernel
theorem dX0_leastWordWith_20 : decode cX0_leastWordWith 20 = .ok (.ifCond .eq 21, 3) := by decide +kernel
theorem dX0_leastWordWith_23 : decode cX0_leastWordWith 23 = .ok (.aload_n 0, 1) := by decide +kernel
theorem dX0_leastWordWith_24 : decode cX0_leastWordWith 24 = .ok (.getfield 21, 3) := by decide +kernel
theorem dX0_leastWordWith_27 : decode cX0_leastWordWith 27 = .ok (.iload 5, 2) := by decide +kernel
theorem dX0_leastWordWith_29 : decode cX0_leastWordWith 29 = .ok (.iaload, 1) := by decide +kernel
theorem dX0_leastWordWith_30 : decode cX0_leastWordWith 30 = .ok (.iload_n 2, 1) := by decide +kernel
theorem dX0_leastWordWith_31 : decode cX0_leastWordWith 31 = .ok (.iload_n 3, 1) := by decide +kernel
theorem dX0_leastWordWith_32 : decode cX0_leastWordWith 32 = .ok (.invokestatic 102, 3) := by decide +kernel
theorem dX0_leastWordWith_35 : decode cX0_leastWordWith 35 = .ok (.ifCond .eq 6, 3) := by decide +kernel
theorem dX0_leastWordWith_38 : decode cX0_leastWordWith 38 = .ok (.iload 5, 2) := by decide +kernel
theorem dX0_leastWordWith_40 : decode cX0_leastWordWith 40 = .ok (.ireturn, 1) := by decide +kernel
theorem dX0_leastWordWith_41 : decode cX0_leastWordWith 41 = .ok (.iinc 5 1, 3) := by decide +kernel
theorem dX0_leastWordWith_44 : decode cX0_leastWordWith 44 = .ok (.goto (-38), 3) := by decide +kernel
theorem dX0_leastWordWith_47 : decode cX0_leastWordWith 47 = .ok (.iconst (-1), 1) := by decide +kernel
theorem dX0_leastWordWith_48 : decode cX0_leastWordWith 48 = .ok (.ireturn, 1) := by decide +kernel
theorem dX0_isWanted_0 : decode cX0_isWanted 0 = .ok (.iload_n 1, 1) := by decide +kernel
theorem dX0_isWanted_1 : decode cX0_isWanted 1 = .ok (.tableswitch 70 0 3 #[31, 42, 53, 59], 31) := by decide +kernel
theorem dX0_isWanted_32 : decode cX0_isWanted 32 = .ok (.iload_n 0, 1) := by decide +kernel
theorem dX0_isWanted_33 : decode cX0_isWanted 33 = .ok (.iload_n 2, 1) := by decide +kernel
theorem dX0_isWanted_34 : decode cX0_isWanted 34 = .ok (.if_icmp .ne 7, 3) := by decide +kernel
theorem dX0_isWanted_37 : decode cX0_isWanted 37 = .ok (.iconst 1, 1) := by decide +kernel
theorem dX0_isWanted_38 : decode cX0_isWanted 38 = .ok (.goto 4, 3) := by decide +kernel
theorem dX0_isWanted_41 : decode cX0_isWanted 41 = .ok (.iconst 0, 1) := by decide +kernel
theorem dX0_isWanted_42 : decode cX0_isWanted 42 = .ok (.ireturn, 1) := by decide +kernel
theorem dX0_isWanted_43 : decode cX0_isWanted 43 = .ok (.iload_n 0, 1) := by decide +kernel
theorem dX0_isWanted_44 : decode cX0_isWanted 44 = .ok (.iload_n 2, 1) := by decide +kernel
theorem dX0_isWanted_45 : decode cX0_isWanted 45 = .ok (.if_icmp .eq 7, 3) := by decide +kernel
theorem dX0_isWanted_48 : decode cX0_isWanted 48 = .ok (.iconst 1, 1) := by decide +kernel
theorem dX0_isWanted_49 : decode cX0_isWanted 49 = .ok (.goto 4, 3) := by decide +kernel
theorem dX0_isWanted_52 : decode cX0_isWanted 52 = .ok (.iconst 0, 1) := by decide +kernel
theorem dX0_isWanted_53 : decode cX0_isWanted 53 = .ok (.ireturn, 1) := by decide +kernel
theorem dX0_isWanted_54 : decode cX0_isWanted 54 = .ok (.iload_n 0, 1) := by decide +kernel
theorem dX0_isWanted_55 : decode cX0_isWanted 55 = .ok (.iload_n 2, 1) := by decide +kernel
theorem dX0_isWanted_56 : decode cX0_isWanted 56 = .ok (.invokestatic 106, 3) := by decide +kernel
theorem dX0_isWanted_59 : decode cX0_isWanted 59 = .ok (.ireturn, 1) := by decide +kernel
theorem dX0_isWanted_60 : decode cX0_isWanted 60 = .ok (.iload_n 0, 1) := by decide +kernel
theorem dX0_isWanted_61 : decode cX0_isWanted 61 = .ok (.iload_n 2, 1) := by decide +kernel
theorem dX0_isWanted_62 : decode cX0_isWanted 62 = .ok (.if_icmp .ge 7, 3) := by decide +kernel
theorem dX0_isWanted_65 : decode cX0_isWanted 65 = .ok (.iconst 1, 1) := by decide +kernel
theorem dX0_isWanted_66 : decode cX0_isWanted 66 = .ok (.goto 4, 3) := by decide +kernel
theorem dX0_isWanted_69 : decode cX0_isWanted 69 = .ok (.iconst 0, 1) := by decide +kernel
theorem dX0_isWanted_70 : decode cX0_isWanted 70 = .ok (.ireturn, 1) := by decide +kernel
theorem dX0_isWanted_71 : decode cX0_isWanted 71 = .ok (.iconst 0, 1) := by decide +kernel
theorem dX0_isWanted_72 : decode cX0_isWanted 72 = .ok (.ireturn, 1) := by decide +kernel
theorem dX0_firstFailing_0 : decode cX0_firstFailing 0 = .ok (.aload_n 0, 1) := by decide +kernel
theorem dX0_firstFailing_1 : decode cX0_firstFailing 1 = .ok (.getfield 34, 3) := by decide +kernel
theorem dX0_firstFailing_4 : decode cX0_firstFailing 4 = .ok (.iload_n 1, 1) := by decide +kernel
theorem dX0_firstFailing_5 : decode cX0_firstFailing 5 = .ok (.invokestatic 110, 3) := by decide +kernel
theorem dX0_firstFailing_8 : decode cX0_firstFailing 8 = .ok (.istore_n 2, 1) := by decide +kernel
theorem dX0_firstFailing_9 : decode cX0_firstFailing 9 = .ok (.aconst_null, 1) := by decide +kernel
theorem dX0_firstFailing_10 : decode cX0_firstFailing 10 = .ok (.astore_n 3, 1) := by decide +kernel
theorem dX0_firstFailing_11 : decode cX0_firstFailing 11 = .ok (.iconst 0, 1) := by decide +kernel
theorem dX0_firstFailing_12 : decode cX0_firstFailing 12 = .ok (.istore 4, 2) := by decide +kernel
theorem dX0_firstFailing_14 : decode cX0_firstFailing 14 = .ok (.iload 4, 2) := by decide +kernel
theorem dX0_firstFailing_16 : decode cX0_firstFailing 16 = .ok (.aload_n 0, 1) := by decide +kernel
theorem dX0_firstFailing_17 : decode cX0_firstFailing 17 = .ok (.getfield 26, 3) := by decide +kernel
theorem dX0_firstFailing_20 : decode cX0_firstFailing 20 = .ok (.if_icmp .ge 66, 3) := by decide +kernel
theorem dX0_firstFailing_23 : decode cX0_firstFailing 23 = .ok (.aload_n 0, 1) := by decide +kernel
theorem dX0_firstFailing_24 : decode cX0_firstFailing 24 = .ok (.getfield 11, 3) := by decide +kernel
theorem dX0_firstFailing_27 : decode cX0_firstFailing 27 = .ok (.iload 4, 2) := by decide +kernel
theorem dX0_firstFailing_29 : decode cX0_firstFailing 29 = .ok (.aaload, 1) := by decide +kernel
theorem dX0_firstFailing_30 : decode cX0_firstFailing 30 = .ok (.astore 5, 2) := by decide +kernel
theorem dX0_firstFailing_32 : decode cX0_firstFailing 32 = .ok (.aload 5, 2) := by decide +kernel
theorem dX0_firstFailing_34 : decode cX0_firstFailing 34 = .ok (.getfield 114, 3) := by decide +kernel
theorem dX0_firstFailing_37 : decode cX0_firstFailing 37 = .ok (.ifCond .eq 16, 3) := by decide +kernel
theorem dX0_firstFailing_40 : decode cX0_firstFailing 40 = .ok (.aload 5, 2) := by decide +kernel
theorem dX0_firstFailing_42 : decode cX0_firstFailing 42 = .ok (.getfield 115, 3) := by decide +kernel
theorem dX0_firstFailing_45 : decode cX0_firstFailing 45 = .ok (.iload_n 2, 1) := by decide +kernel
theorem dX0_firstFailing_46 : decode cX0_firstFailing 46 = .ok (.if_icmp .ne 7, 3) := by decide +kernel
theorem dX0_firstFailing_49 : decode cX0_firstFailing 49 = .ok (.iconst 1, 1) := by decide +kernel
theorem dX0_firstFailing_50 : decode cX0_firstFailing 50 = .ok (.goto 4, 3) := by decide +kernel
theorem dX0_firstFailing_53 : decode cX0_firstFailing 53 = .ok (.iconst 0, 1) := by decide +kernel
theorem dX0_firstFailing_54 : decode cX0_firstFailing 54 = .ok (.istore 6, 2) := by decide +kernel
theorem dX0_firstFailing_56 : decode cX0_firstFailing 56 = .ok (.iload 6, 2) := by decide +kernel
theorem dX0_firstFailing_58 : decode cX0_firstFailing 58 = .ok (.ifCond .eq 22, 3) := by decide +kernel
theorem dX0_firstFailing_61 : decode cX0_firstFailing 61 = .ok (.aload_n 3, 1) := by decide +kernel
theorem dX0_firstFailing_62 : decode cX0_firstFailing 62 = .ok (.ifnull 15, 3) := by decide +kernel
theorem dX0_firstFailing_65 : decode cX0_firstFailing 65 = .ok (.aload 5, 2) := by decide +kernel
theorem dX0_firstFailing_67 : decode cX0_firstFailing 67 = .ok (.getfield 95, 3) := by decide +kernel
theorem dX0_firstFailing_70 : decode cX0_firstFailing 70 = .ok (.aload_n 3, 1) := by decide +kernel
theorem dX0_firstFailing_71 : decode cX0_firstFailing 71 = .ok (.getfield 95, 3) := by decide +kernel
theorem dX0_firstFailing_74 : decode cX0_firstFailing 74 = .ok (.if_icmp .ge 6, 3) := by decide +kernel
theorem dX0_firstFailing_77 : decode cX0_firstFailing 77 = .ok (.aload 5, 2) := by decide +kernel
theorem dX0_firstFailing_79 : decode cX0_firstFailing 79 = .ok (.astore_n 3, 1) := by decide +kernel
theorem dX0_firstFailing_80 : decode cX0_firstFailing 80 = .ok (.iinc 4 1, 3) := by decide +kernel
theorem dX0_firstFailing_83 : decode cX0_firstFailing 83 = .ok (.goto (-69), 3) := by decide +kernel
theorem dX0_firstFailing_86 : decode cX0_firstFailing 86 = .ok (.aload_n 3, 1) := by decide +kernel
theorem dX0_firstFailing_87 : decode cX0_firstFailing 87 = .ok (.areturn, 1) := by decide +kernel
theorem dX1_init_0 : decode cX1_init 0 = .ok (.aload_n 0, 1) := by decide +kernel
theorem dX1_init_1 : decode cX1_init 1 = .ok (.invokespecial 3, 3) := by decide +kernel
theorem dX1_init_4 : decode cX1_init 4 = .ok (.aload_n 0, 1) := by decide +kernel
theorem dX1_init_5 : decode cX1_init 5 = .ok (.bipush 16, 2) := by decide +kernel
theorem dX1_init_7 : decode cX1_init 7 = .ok (.newarray .int, 2) := by decide +kernel
theorem dX1_init_9 : decode cX1_init 9 = .ok (.putfield 9, 3) := by decide +kernel
theorem dX1_init_12 : decode cX1_init 12 = .ok (.aload_n 0, 1) := by decide +kernel
theorem dX1_init_13 : decode cX1_init 13 = .ok (.bipush 8, 2) := by decide +kernel
theorem dX1_init_15 : decode cX1_init 15 = .ok (.newarray .int, 2) := by decide +kernel
theorem dX1_init_17 : decode cX1_init 17 = .ok (.putfield 15, 3) := by decide +kernel
theorem dX1_init_20 : decode cX1_init 20 = .ok (.return_, 1) := by decide +kernel
theorem dX1_execute_0 : decode cX1_execute 0 = .ok (.aload_n 0, 1) := by decide +kernel
theorem dX1_execute_1 : decode cX1_execute 1 = .ok (.aload_n 3, 1) := by decide +kernel
theorem dX1_execute_2 : decode cX1_execute 2 = .ok (.invokevirtual 18, 3) := by decide +kernel
theorem dX1_execute_5 : decode cX1_execute 5 = .ok (.iconst 0, 1) := by decide +kernel
theorem dX1_execute_6 : decode cX1_execute 6 = .ok (.istore 4, 2) := by decide +kernel
theorem dX1_execute_8 : decode cX1_execute 8 = .ok (.iconst 0, 1) := by decide +kernel
theorem dX1_execute_9 : decode cX1_execute 9 = .ok (.istore 5, 2) := by decide +kernel
theorem dX1_execute_11 : decode cX1_execute 11 = .ok (.iload 5, 2) := by decide +kernel
theorem dX1_execute_13 : decode cX1_execute 13 = .ok (.bipush 60, 2) := by decide +kernel
theorem dX1_execute_15 : decode cX1_execute 15 = .ok (.if_icmp .ge 63, 3) := by decide +kernel
theorem dX1_execute_18 : decode cX1_execute 18 = .ok (.iload 4, 2) := by decide +kernel
theorem dX1_execute_20 : decode cX1_execute 20 = .ok (.aload_n 1, 1) := by decide +kernel
theorem dX1_execute_21 : decode cX1_execute 21 = .ok (.getfield 22, 3) := by decide +kernel
theorem dX1_execute_24 : decode cX1_execute 24 = .ok (.if_icmp .ge 54, 3) := by decide +kernel
theorem dX1_execute_27 : decode cX1_execute 27 = .ok (.aload_n 0, 1) := by decide +kernel
theorem dX1_execute_28 : decode cX1_execute 28 = .ok (.getfield 28, 3) := by decide +kernel
theorem dX1_execute_31 : decode cX1_execute 31 = .ok (.ifCond .ne 47, 3) := by decide +kernel
theorem dX1_execute_34 : decode cX1_execute 34 = .ok (.aload_n 0, 1) := by decide +kernel
theorem dX1_execute_35 : decode cX1_execute 35 = .ok (.iload 4, 2) := by decide +kernel
theorem dX1_execute_37 : decode cX1_execute 37 = .ok (.putfield 32, 3) := by decide +kernel
theorem dX1_execute_40 : decode cX1_execute 40 = .ok (.aload_n 0, 1) := by decide +kernel
theorem dX1_execute_41 : decode cX1_execute 41 = .ok (.aload_n 0, 1) := by decide +kernel
theorem dX1_execute_42 : decode cX1_execute 42 = .ok (.getfield 32, 3) := by decide +kernel
theorem dX1_execute_45 : decode cX1_execute 45 = .ok (.invokestatic 35, 3) := by decide +kernel
theorem dX1_execute_48 : decode cX1_execute 48 = .ok (.putfield 39, 3) := by decide +kernel
theorem dX1_execute_51 : decode cX1_execute 51 = .ok (.aload_n 0, 1) := by decide +kernel
theorem dX1_execute_52 : decode cX1_execute 52 = .ok (.dup, 1) := by decide +kernel
theorem dX1_execute_53 : decode cX1_execute 53 = .ok (.getfield 43, 3) := by decide +kernel
theorem dX1_execute_56 : decode cX1_execute 56 = .ok (.aload_n 0, 1) := by decide +kernel
theorem dX1_execute_57 : decode cX1_execute 57 = .ok (.getfield 39, 3) := by decide +kernel
theorem dX1_execute_60 : decode cX1_execute 60 = .ok (.lor, 1) := by decide +kernel
theorem dX1_execute_61 : decode cX1_execute 61 = .ok (.putfield 43, 3) := by decide +kernel
theorem dX1_execute_64 : decode cX1_execute 64 = .ok (.aload_n 0, 1) := by decide +kernel
theorem dX1_execute_65 : decode cX1_execute 65 = .ok (.aload_n 1, 1) := by decide +kernel
theorem dX1_execute_66 : decode cX1_execute 66 = .ok (.iload_n 2, 1) := by decide +kernel
theorem dX1_execute_67 : decode cX1_execute 67 = .ok (.invokevirtual 46, 3) := by decide +kernel
theorem dX1_execute_70 : decode cX1_execute 70 = .ok (.istore 4, 2) := by decide +kernel
theorem dX1_execute_72 : decode cX1_execute 72 = .ok (.iinc 5 1, 3) := by decide +kernel
theorem dX1_execute_75 : decode cX1_execute 75 = .ok (.goto (-64), 3) := by decide +kernel
theorem dX1_execute_78 : decode cX1_execute 78 = .ok (.aload_n 0, 1) := by decide +kernel
theorem dX1_execute_79 : decode cX1_execute 79 = .ok (.getfield 28, 3) := by decide +kernel
theorem dX1_execute_82 : decode cX1_execute 82 = .ok (.ifCond .ne 17, 3) := by decide +kernel
theorem dX1_execute_85 : decode cX1_execute 85 = .ok (.aload_n 0, 1) := by decide +kernel
theorem dX1_execute_86 : decode cX1_execute 86 = .ok (.aload_n 1, 1) := by decide +kernel
theorem dX1_execute_87 : decode cX1_execute 87 = .ok (.getfield 22, 3) := by decide +kernel
theorem dX1_execute_90 : decode cX1_execute 90 = .ok (.putfield 32, 3) := by decide +kernel
theorem dX1_execute_93 : decode cX1_execute 93 = .ok (.aload_n 0, 1) := by decide +kernel
theorem dX1_execute_94 : decode cX1_execute 94 = .ok (.iconst 0, 1) := by decide +kernel
theorem dX1_execute_95 : decode cX1_execute 95 = .ok (.iconst 0, 1) := by decide +kernel
theorem dX1_execute_96 : decode cX1_execute 96 = .ok (.invokevirtual 50, 3) := by decide +kernel
theorem dX1_execute_99 : decode cX1_execute 99 = .ok (.return_, 1) := by decide +kernel
theorem dX1_begin_0 : decode cX1_begin 0 = .ok (.aload_n 0, 1) := by decide +kernel
theorem dX1_begin_1 : decode cX1_begin 1 = .ok (.getfield 9, 3) := by decide +kernel
theorem dX1_begin_4 : decode cX1_begin 4 = .ok (.iconst 0, 1) := by decide +kernel
theorem dX1_begin_5 : decode cX1_begin 5 = .ok (.invokestatic 54, 3) := by decide +kernel
theorem dX1_begin_8 : decode cX1_begin 8 = .ok (.aload_n 0, 1) := by decide +kernel
theorem dX1_begin_9 : decode cX1_begin 9 = .ok (.getfield 15, 3) := by decide +kernel
theorem dX1_begin_12 : decode cX1_begin 12 = .ok (.iconst 0, 1) := by decide +kernel
theorem dX1_begin_13 : decode cX1_begin 13 = .ok (.invokestatic 54, 3) := by decide +kernel
theorem dX1_begin_16 : decode cX1_begin 16 = .ok (.aload_n 0, 1) := by decide +kernel
theorem dX1_begin_17 : decode cX1_begin 17 = .ok (.aload_n 1, 1) := by decide +kernel
theorem dX1_begin_18 : decode cX1_begin 18 = .ok (.ifnull 7, 3) := by decide +kernel
theorem dX1_begin_21 : decode cX1_begin 21 = .ok (.iconst 1, 1) := by decide +kernel
theorem dX1_begin_22 : decode cX1_begin 22 = .ok (.goto 4, 3) := by decide +kernel
theorem dX1_begin_25 : decode cX1_begin 25 = .ok (.iconst 0, 1) := by decide +kernel
theorem dX1_begin_26 : decode cX1_begin 26 = .ok (.putfield 60, 3) := by decide +kernel
theorem dX1_begin_29 : decode cX1_begin 29 = .ok (.aload_n 0, 1) := by decide +kernel
theorem dX1_begin_30 : decode cX1_begin 30 = .ok (.aload_n 1, 1) := by decide +kernel
theorem dX1_begin_31 : decode cX1_begin 31 = .ok (.ifnull 10, 3) := by decide +kernel
theorem dX1_begin_34 : decode cX1_begin 34 = .ok (.aload_n 1, 1) := by decide +kernel
theorem dX1_begin_35 : decode cX1_begin 35 = .ok (.getfield 63, 3) := by decide +kernel
theorem dX1_begin_38 : decode cX1_begin 38 = .ok (.goto 4, 3) := by decide +kernel
theorem dX1_begin_41 : decode cX1_begin 41 = .ok (.lconst 0, 1) := by decide +kernel
theorem dX1_begin_42 : decode cX1_begin 42 = .ok (.putfield 68, 3) := by decide +kernel
theorem dX1_begin_45 : decode cX1_begin 45 = .ok (.aload_n 0, 1) := by decide +kernel
theorem dX1_begin_46 : decode cX1_begin 46 = .ok (.lconst 0, 1) := by decide +kernel
theorem dX1_begin_47 : decode cX1_begin 47 = .ok (.putfield 43, 3) := by decide +kernel
theorem dX1_begin_50 : decode cX1_begin 50 = .ok (.aload_n 0, 1) := by decide +kernel
theorem dX1_begin_51 : decode cX1_begin 51 = .ok (.lconst 0, 1) := by decide +kernel
theorem dX1_begin_52 : decode cX1_begin 52 = .ok (.putfield 71, 3) := by decide +kernel
theorem dX1_begin_55 : decode cX1_begin 55 = .ok (.aload_n 0, 1) := by decide +kernel
theorem dX1_begin_56 : decode cX1_begin 56 = .ok (.lconst 0, 1) := by decide +kernel
theorem dX1_begin_57 : decode cX1_begin 57 = .ok (.putfield 74, 3) := by decide +kernel
theorem dX1_begin_60 : decode cX1_begin 60 = .ok (.aload_n 0, 1) := by decide +kernel
theorem dX1_begin_61 : decode cX1_begin 61 = .ok (.iconst 0, 1) := by decide +kernel
theorem dX1_begin_62 : decode cX1_begin 62 = .ok (.putfield 28, 3) := by decide +kernel
theorem dX1_begin_65 : decode cX1_begin 65 = .ok (.return_, 1) := by decide +kernel
theorem dX1_stop_0 : decode cX1_stop 0 = .ok (.aload_n 0, 1) := by decide +kernel
theorem dX1_stop_1 : decode cX1_stop 1 = .ok (.iconst 1, 1) := by decide +kernel
theorem dX1_stop_2 : decode cX1_stop 2 = .ok (.putfield 28, 3) := by decide +kernel
theorem dX1_stop_5 : decode cX1_stop 5 = .ok (.aload_n 0, 1) := by decide +kernel
theorem dX1_stop_6 : decode cX1_stop 6 = .ok (.iload_n 1, 1) := by decide +kernel
theorem dX1_stop_7 : decode cX1_stop 7 = .ok (.putfield 75, 3) := by decide +kernel
theorem dX1_stop_10 : decode cX1_stop 10 = .ok (.aload_n 0, 1) := by decide +kernel
theorem dX1_stop_11 : decode cX1_stop 11 = .ok (.iload_n 2, 1) := by decide +kernel
theorem dX1_stop_12 : decode cX1_stop 12 = .ok (.putfield 78, 3) := by decide +kernel
theorem dX1_stop_15 : decode cX1_stop 15 = .ok (.return_, 1) := by decide +kernel
theorem dX1_decide_0 : decode cX1_decide 0 = .ok (.aload_n 0, 1) := by decide +kernel
theorem dX1_decide_1 : decode cX1_decide 1 = .ok (.getfield 60, 3) := by decide +kernel
theorem dX1_decide_4 : decode cX1_decide 4 = .ok (.ifCond .eq 25, 3) := by decide +kernel
theorem dX1_decide_7 : decode cX1_decide 7 = .ok (.aload_n 0, 1) := by decide +kernel
theorem dX1_decide_8 : decode cX1_decide 8 = .ok (.getfield 68, 3) := by decide +kernel
theorem dX1_decide_11 : decode cX1_decide 11 = .ok (.aload_n 0, 1) := by decide +kernel
theorem dX1_decide_12 : decode cX1_decide 12 = .ok (.getfield 39, 3) := by decide +kernel
theorem dX1_decide_15 : decode cX1_decide 15 = .ok (.land, 1) := by decide +kernel
theorem dX1_decide_16 : decode cX1_decide 16 = .ok (.lconst 0, 1) := by decide +kernel
theorem dX1_decide_17 : decode cX1_decide 17 = .ok (.lcmp, 1) := by decide +kernel
theorem dX1_decide_18 : decode cX1_decide 18 = .ok (.ifCond .eq 7, 3) := by decide +kernel
theorem dX1_decide_21 : decode cX1_decide 21 = .ok (.iconst 1, 1) := by decide +kernel
theorem dX1_decide_22 : decode cX1_decide 22 = .ok (.goto 8, 3) := by decide +kernel
theorem dX1_decide_25 : decode cX1_decide 25 = .ok (.iconst 0, 1) := by decide +kernel
theorem dX1_decide_26 : decode cX1_decide 26 = .ok (.goto 4, 3) := by decide +kernel
theorem dX1_decide_29 : decode cX1_decide 29 = .ok (.iload_n 1, 1) := by decide +kernel
theorem dX1_decide_30 : decode cX1_decide 30 = .ok (.istore_n 2, 1) := by decide +kernel
theorem dX1_decide_31 : decode cX1_decide 31 = .ok (.aload_n 0, 1) := by decide +kernel
theorem dX1_decide_32 : decode cX1_decide 32 = .ok (.dup, 1) := by decide +kernel
theorem dX1_decide_33 : decode cX1_decide 33 = .ok (.getfield 71, 3) := by decide +kernel
theorem dX1_decide_36 : decode cX1_decide 36 = .ok (.aload_n 0, 1) := by decide +kernel
theorem dX1_decide_37 : decode cX1_decide 37 = .ok (.getfield 39, 3) := by decide +kernel
theorem dX1_decide_40 : decode cX1_decide 40 = .ok (.lor, 1) := by decide +kernel
theorem dX1_decide_41 : decode cX1_decide 41 = .ok (.putfield 71, 3) := by decide +kernel
theorem dX1_decide_44 : decode cX1_decide 44 = .ok (.iload_n 2, 1) := by decide +kernel
theorem dX1_decide_45 : decode cX1_decide 45 = .ok (.ifCond .eq 16, 3) := by decide +kernel
theorem dX1_decide_48 : decode cX1_decide 48 = .ok (.aload_n 0, 1) := by decide +kernel
theorem dX1_decide_49 : decode cX1_decide 49 = .ok (.dup, 1) := by decide +kernel
theorem dX1_decide_50 : decode cX1_decide 50 = .ok (.getfield 74, 3) := by decide +kernel
theorem dX1_decide_53 : decode cX1_decide 53 = .ok (.aload_n 0, 1) := by decide +kernel
theorem dX1_decide_54 : decode cX1_decide 54 = .ok (.getfield 39, 3) := by decide +kernel
theorem dX1_decide_57 : decode cX1_decide 57 = .ok (.lor, 1) := by decide +kernel
theorem dX1_decide_58 : decode cX1_decide 58 = .ok (.putfield 74, 3) := by decide +kernel
theorem dX1_decide_61 : decode cX1_decide 61 = .ok (.iload_n 2, 1) := by decide +kernel
theorem dX1_decide_62 : decode cX1_decide 62 = .ok (.ireturn, 1) := by decide +kernel
theorem dX1_step_0 : decode cX1_step 0 = .ok (.aload_n 1, 1) := by decide +kernel
theorem dX1_step_1 : decode cX1_step 1 = .ok (.getfield 81, 3) := by decide +kernel
theorem dX1_step_4 : decode cX1_step 4 = .ok (.aload_n 0, 1) := by decide +kernel
theorem dX1_step_5 : decode cX1_step 5 = .ok (.getfield 32, 3) := by decide +kernel
theorem dX1_step_8 : decode cX1_step 8 = .ok (.iaload, 1) := by decide +kernel
theorem dX1_step_9 : decode cX1_step 9 = .ok (.istore_n 3, 1) := by decide +kernel
theorem dX1_step_10 : decode cX1_step 10 = .ok (.aload_n 1, 1) := by decide +kernel
theorem dX1_step_11 : decode cX1_step 11 = .ok (.getfield 84, 3) := by decide +kernel
theorem dX1_step_14 : decode cX1_step 14 = .ok (.aload_n 0, 1) := by decide +kernel
theorem dX1_step_15 : decode cX1_step 15 = .ok (.getfield 32, 3) := by decide +kernel
theorem dX1_step_18 : decode cX1_step 18 = .ok (.iaload, 1) := by decide +kernel
theorem dX1_step_19 : decode cX1_step 19 = .ok (.istore 4, 2) := by decide +kernel
theorem dX1_step_21 : decode cX1_step 21 = .ok (.aload_n 1, 1) := by decide +kernel
theorem dX1_step_22 : decode cX1_step 22 = .ok (.getfield 87, 3) := by decide +kernel
theorem dX1_step_25 : decode cX1_step 25 = .ok (.aload_n 0, 1) := by decide +kernel
theorem dX1_step_26 : decode cX1_step 26 = .ok (.getfield 32, 3) := by decide +kernel
theorem dX1_step_29 : decode cX1_step 29 = .ok (.iaload, 1) := by decide +kernel
theorem dX1_step_30 : decode cX1_step 30 = .ok (.istore 5, 2) := by decide +kernel
theorem dX1_step_32 : decode cX1_step 32 = .ok (.iload_n 3, 1) := by decide +kernel
theorem dX1_step_33 : decode cX1_step 33 = .ok (.tableswitch 339 0 31 #[143, 155, 172, 339, 339, 339, 339, 339, 339, 339, 339, 339, 339, 339, 339, 339, 339, 339, 339, 339, 339, 339, 189, 208, 339, 226, 242, 263, 297, 300, 314, 324], 143) := by decide +kernel
theorem dX1_step_176 : decode cX1_step 176 = .ok (.aload_n 0, 1) := by decide +kernel
theorem dX1_step_177 : decode cX1_step 177 = .ok (.getfield 9, 3) := by decide +kernel
theorem dX1_step_180 : decode cX1_step 180 = .ok (.iload 4, 2) := by decide +kernel
theorem dX1_step_182 : decode cX1_step 182 = .ok (.iload 5, 2) := by decide +kernel
theorem dX1_step_184 : decode cX1_step 184 = .ok (.iastore, 1) := by decide +kernel
theorem dX1_step_185 : decode cX1_step 185 = .ok (.goto 215, 3) := by decide +kernel
theorem dX1_step_188 : decode cX1_step 188 = .ok (.aload_n 0, 1) := by decide +kernel
theorem dX1_step_189 : decode cX1_step 189 = .ok (.getfield 9, 3) := by decide +kernel
theorem dX1_step_192 : decode cX1_step 192 = .ok (.iload 4, 2) := by decide +kernel
theorem dX1_step_194 : decode cX1_step 194 = .ok (.aload_n 1, 1) := by decide +kernel
theorem dX1_step_195 : decode cX1_step 195 = .ok (.iload_n 2, 1) := by decide +kernel
theorem dX1_step_196 : decode cX1_step 196 = .ok (.iload 5, 2) := by decide +kernel
theorem dX1_step_198 : decode cX1_step 198 = .ok (.invokevirtual 90, 3) := by decide +kernel
theorem dX1_step_201 : decode cX1_step 201 = .ok (.iastore, 1) := by decide +kernel
theorem dX1_step_202 : decode cX1_step 202 = .ok (.goto 198, 3) := by decide +kernel
theorem dX1_step_205 : decode cX1_step 205 = .ok (.aload_n 0, 1) := by decide +kernel
theorem dX1_step_206 : decode cX1_step 206 = .ok (.getfield 9, 3) := by decide +kernel
theorem dX1_step_209 : decode cX1_step 209 = .ok (.iload 4, 2) := by decide +kernel
theorem dX1_step_211 : decode cX1_step 211 = .ok (.aload_n 0, 1) := by decide +kernel
theorem dX1_step_212 : decode cX1_step 212 = .ok (.getfield 9, 3) := by decide +kernel
theorem dX1_step_215 : decode cX1_step 215 = .ok (.iload 5, 2) := by decide +kernel
theorem dX1_step_217 : decode cX1_step 217 = .ok (.iaload, 1) := by decide +kernel
theorem dX1_step_218 : decode cX1_step 218 = .ok (.iastore, 1) := by decide +kernel
theorem dX1_step_219 : decode cX1_step 219 = .ok (.goto 181, 3) := by decide +kernel
theorem dX1_step_222 : decode cX1_step 222 = .ok (.aload_n 0, 1) := by decide +kernel
theorem dX1_step_223 : decode cX1_step 223 = .ok (.getfield 9, 3) := by decide +kernel
theorem dX1_step_226 : decode cX1_step 226 = .ok (.iload 4, 2) := by decide +kernel
theorem dX1_step_228 : decode cX1_step 228 = .ok (.aload_n 0, 1) := by decide +kernel
theorem dX1_step_229 : decode cX1_step 229 = .ok (.getfield 9, 3) := by decide +kernel
theorem dX1_step_232 : decode cX1_step 232 = .ok (.iload 5, 2) := by decide +kernel
theorem dX1_step_234 : decode cX1_step 234 = .ok (.iaload, 1) := by decide +kernel
theorem dX1_step_235 : decode cX1_step 235 = .ok (.iconst (-1), 1) := by decide +kernel
theorem dX1_step_236 : decode cX1_step 236 = .ok (.ixor, 1) := by decide +kernel
theorem dX1_step_237 : decode cX1_step 237 = .ok (.iastore, 1) := by decide +kernel
theorem dX1_step_238 : decode cX1_step 238 = .ok (.goto 162, 3) := by decide +kernel
theorem dX1_step_241 : decode cX1_step 241 = .ok (.aload_n 0, 1) := by decide +kernel
theorem dX1_step_242 : decode cX1_step 242 = .ok (.getfield 9, 3) := by decide +kernel
theorem dX1_step_245 : decode cX1_step 245 = .ok (.iload 4, 2) := by decide +kernel
theorem dX1_step_247 : decode cX1_step 247 = .ok (.aload_n 0, 1) := by decide +kernel
theorem dX1_step_248 : decode cX1_step 248 = .ok (.getfield 9, 3) := by decide +kernel
theorem dX1_step_251 : decode cX1_step 251 = .ok (.iload 5, 2) := by decide +kernel
theorem dX1_step_253 : decode cX1_step 253 = .ok (.iaload, 1) := by decide +kernel
theorem dX1_step_254 : decode cX1_step 254 = .ok (.ineg, 1) := by decide +kernel
theorem dX1_step_255 : decode cX1_step 255 = .ok (.iastore, 1) := by decide +kernel
theorem dX1_step_256 : decode cX1_step 256 = .ok (.goto 144, 3) := by decide +kernel
theorem dX1_step_259 : decode cX1_step 259 = .ok (.aload_n 0, 1) := by decide +kernel
theorem dX1_step_260 : decode cX1_step 260 = .ok (.iload 4, 2) := by decide +kernel
theorem dX1_step_262 : decode cX1_step 262 = .ok (.aload_n 0, 1) := by decide +kernel
theorem dX1_step_263 : decode cX1_step 263 = .ok (.getfield 9, 3) := by decide +kernel
theorem dX1_step_266 : decode cX1_step 266 = .ok (.iload 5, 2) := by decide +kernel
theorem dX1_step_268 : decode cX1_step 268 = .ok (.iaload, 1) := by decide +kernel
theorem dX1_step_269 : decode cX1_step 269 = .ok (.invokevirtual 94, 3) := by decide +kernel
theorem dX1_step_272 : decode cX1_step 272 = .ok (.goto 128, 3) := by decide +kernel
theorem dX1_step_275 : decode cX1_step 275 = .ok (.aload_n 0, 1) := by decide +kernel
theorem dX1_step_276 : decode cX1_step 276 = .ok (.aload_n 0, 1) := by decide +kernel
theorem dX1_step_277 : decode cX1_step 277 = .ok (.getfield 9, 3) := by decide +kernel
theorem dX1_step_280 : decode cX1_step 280 = .ok (.iload 4, 2) := by decide +kernel
theorem dX1_step_282 : decode cX1_step 282 = .ok (.iaload, 1) := by decide +kernel
theorem dX1_step_283 : decode cX1_step 283 = .ok (.aload_n 0, 1) := by decide +kernel
theorem dX1_step_284 : decode cX1_step 284 = .ok (.getfield 9, 3) := by decide +kernel
theorem dX1_step_287 : decode cX1_step 287 = .ok (.iload 5, 2) := by decide +kernel
theorem dX1_step_289 : decode cX1_step 289 = .ok (.iaload, 1) := by decide +kernel
theorem dX1_step_290 : decode cX1_step 290 = .ok (.invokevirtual 97, 3) := by decide +kernel
theorem dX1_step_293 : decode cX1_step 293 = .ok (.goto 107, 3) := by decide +kernel
theorem dX1_step_296 : decode cX1_step 296 = .ok (.aload_n 0, 1) := by decide +kernel
theorem dX1_step_297 : decode cX1_step 297 = .ok (.aload_n 0, 1) := by decide +kernel
theorem dX1_step_298 : decode cX1_step 298 = .ok (.getfield 9, 3) := by decide +kernel
theorem dX1_step_301 : decode cX1_step 301 = .ok (.iload 4, 2) := by decide +kernel
theorem dX1_step_303 : decode cX1_step 303 = .ok (.iaload, 1) := by decide +kernel
theorem dX1_step_304 : decode cX1_step 304 = .ok (.ifCond .eq 7, 3) := by decide +kernel
theorem dX1_step_307 : decode cX1_step 307 = .ok (.iconst 1, 1) := by decide +kernel
theorem dX1_step_308 : decode cX1_step 308 = .ok (.goto 4, 3) := by decide +kernel
theorem dX1_step_311 : decode cX1_step 311 = .ok (.iconst 0, 1) := by decide +kernel
theorem dX1_step_312 : decode cX1_step 312 = .ok (.invokevirtual 100, 3) := by decide +kernel
theorem dX1_step_315 : decode cX1_step 315 = .ok (.ifCond .eq 8, 3) := by decide +kernel
theorem dX1_step_318 : decode cX1_step 318 = .ok (.iload 5, 2) := by decide +kernel
theorem dX1_step_320 : decode cX1_step 320 = .ok (.goto 9, 3) := by decide +kernel
theorem dX1_step_323 : decode cX1_step 323 = .ok (.aload_n 0, 1) := by decide +kernel
theorem dX1_step_324 : decode cX1_step 324 = .ok (.getfield 32, 3) := by decide +kernel
theorem dX1_step_327 : decode cX1_step 327 = .ok (.iconst 1, 1) := by decide +kernel
theorem dX1_step_328 : decode cX1_step 328 = .ok (.iadd, 1) := by decide +kernel
theorem dX1_step_329 : decode cX1_step 329 = .ok (.ireturn, 1) := by decide +kernel
theorem dX1_step_330 : decode cX1_step 330 = .ok (.iload 4, 2) := by decide +kernel
theorem dX1_step_332 : decode cX1_step 332 = .ok (.ireturn, 1) := by decide +kernel
theorem dX1_step_333 : decode cX1_step 333 = .ok (.aload_n 0, 1) := by decide +kernel
theorem dX1_step_334 : decode cX1_step 334 = .ok (.aload_n 0, 1) := by decide +kernel
theorem dX1_step_335 : decode cX1_step 335 = .ok (.getfield 9, 3) := by decide +kernel
theorem dX1_step_338 : decode cX1_step 338 = .ok (.iload 4, 2) := by decide +kernel
theorem dX1_step_340 : decode cX1_step 340 = .ok (.iaload, 1) := by decide +kernel
theorem dX1_step_341 : decode cX1_step 341 = .ok (.invokevirtual 104, 3) := by decide +kernel
theorem dX1_step_344 : decode cX1_step 344 = .ok (.goto 56, 3) := by decide +kernel
theorem dX1_step_347 : decode cX1_step 347 = .ok (.aload_n 0, 1) := by decide +kernel
theorem dX1_step_348 : decode cX1_step 348 = .ok (.iconst 4, 1) := by decide +kernel
theorem dX1_step_349 : decode cX1_step 349 = .ok (.iload 4, 2) := by decide +kernel
theorem dX1_step_351 : decode cX1_step 351 = .ok (.invokevirtual 50, 3) := by decide +kernel
theorem dX1_step_354 : decode cX1_step 354 = .ok (.goto 46, 3) := by decide +kernel
theorem dX1_step_357 : decode cX1_step 357 = .ok (.aload_n 0, 1) := by decide +kernel
theorem dX1_step_358 : decode cX1_step 358 = .ok (.iconst 0, 1) := by decide +kernel
theorem dX1_step_359 : decode cX1_step 359 = .ok (.aload_n 0, 1) := by decide +kernel
theorem dX1_step_360 : decode cX1_step 360 = .ok (.getfield 9, 3) := by decide +kernel
theorem dX1_step_363 : decode cX1_step 363 = .ok (.iload 4, 2) := by decide +kernel
theorem dX1_step_365 : decode cX1_step 365 = .ok (.iaload, 1) := by decide +kernel
theorem dX1_step_366 : decode cX1_step 366 = .ok (.invokevirtual 50, 3) := by decide +kernel
theorem dX1_step_369 : decode cX1_step 369 = .ok (.goto 31, 3) := by decide +kernel
theorem dX1_step_372 : decode cX1_step 372 = .ok (.aload_n 0, 1) := by decide +kernel
theorem dX1_step_373 : decode cX1_step 373 = .ok (.iload_n 3, 1) := by decide +kernel
theorem dX1_step_374 : decode cX1_step 374 = .ok (.iload 4, 2) := by decide +kernel
theorem dX1_step_376 : decode cX1_step 376 = .ok (.aload_n 0, 1) := by decide +kernel
theorem dX1_step_377 : decode cX1_step 377 = .ok (.getfield 9, 3) := by decide +kernel
theorem dX1_step_380 : decode cX1_step 380 = .ok (.iload 5, 2) := by decide +kernel
theorem dX1_step_382 : decode cX1_step 382 = .ok (.iaload, 1) := by decide +kernel
theorem dX1_step_383 : decode cX1_step 383 = .ok (.aload_n 0, 1) := by decide +kernel
theorem dX1_step_384 : decode cX1_step 384 = .ok (.getfield 9, 3) := by decide +kernel
theorem dX1_step_387 : decode cX1_step 387 = .ok (.aload_n 1, 1) := by decide +kernel
theorem dX1_step_388 : decode cX1_step 388 = .ok (.getfield 108, 3) := by decide +kernel
theorem dX1_step_391 : decode cX1_step 391 = .ok (.aload_n 0, 1) := by decide +kernel
theorem dX1_step_392 : decode cX1_step 392 = .ok (.getfield 32, 3) := by decide +kernel
theorem dX1_step_395 : decode cX1_step 395 = .ok (.iaload, 1) := by decide +kernel
theorem dX1_step_396 : decode cX1_step 396 = .ok (.iaload, 1) := by decide +kernel
theorem dX1_step_397 : decode cX1_step 397 = .ok (.invokevirtual 111, 3) := by decide +kernel
theorem dX1_step_400 : decode cX1_step 400 = .ok (.aload_n 0, 1) := by decide +kernel
theorem dX1_step_401 : decode cX1_step 401 = .ok (.getfield 32, 3) := by decide +kernel
theorem dX1_step_404 : decode cX1_step 404 = .ok (.iconst 1, 1) := by decide +kernel
theorem dX1_step_405 : decode cX1_step 405 = .ok (.iadd, 1) := by decide +kernel
theorem dX1_step_406 : decode cX1_step 406 = .ok (.ireturn, 1) := by decide +kernel
theorem dX1_calculate_0 : decode cX1_calculate 0 = .ok (.iload_n 1, 1) := by decide +kernel
theorem dX1_calculate_1 : decode cX1_calculate 1 = .ok (.invokestatic 115, 3) := by decide +kernel
theorem dX1_calculate_4 : decode cX1_calculate 4 = .ok (.ifCond .eq 45, 3) := by decide +kernel
theorem dX1_calculate_7 : decode cX1_calculate 7 = .ok (.aload_n 0, 1) := by decide +kernel
theorem dX1_calculate_8 : decode cX1_calculate 8 = .ok (.iload 4, 2) := by decide +kernel
theorem dX1_calculate_10 : decode cX1_calculate 10 = .ok (.ifCond .eq 7, 3) := by decide +kernel
theorem dX1_calculate_13 : decode cX1_calculate 13 = .ok (.iconst 1, 1) := by decide +kernel
theorem dX1_calculate_14 : decode cX1_calculate 14 = .ok (.goto 4, 3) := by decide +kernel
theorem dX1_calculate_17 : decode cX1_calculate 17 = .ok (.iconst 0, 1) := by decide +kernel
theorem dX1_calculate_18 : decode cX1_calculate 18 = .ok (.invokevirtual 100, 3) := by decide +kernel
theorem dX1_calculate_21 : decode cX1_calculate 21 = .ok (.ifCond .eq 19, 3) := by decide +kernel
theorem dX1_calculate_24 : decode cX1_calculate 24 = .ok (.aload_n 0, 1) := by decide +kernel
theorem dX1_calculate_25 : decode cX1_calculate 25 = .ok (.getfield 9, 3) := by decide +kernel
theorem dX1_calculate_28 : decode cX1_calculate 28 = .ok (.iload_n 2, 1) := by decide +kernel
theorem dX1_calculate_29 : decode cX1_calculate 29 = .ok (.iload_n 1, 1) := by decide +kernel
theorem dX1_calculate_30 : decode cX1_calculate 30 = .ok (.iload_n 3, 1) := by decide +kernel
theorem dX1_calculate_31 : decode cX1_calculate 31 = .ok (.iload 4, 2) := by decide +kernel
theorem dX1_calculate_33 : decode cX1_calculate 33 = .ok (.invokestatic 119, 3) := by decide +kernel
theorem dX1_calculate_36 : decode cX1_calculate 36 = .ok (.iastore, 1) := by decide +kernel
theorem dX1_calculate_37 : decode cX1_calculate 37 = .ok (.goto 46, 3) := by decide +kernel
theorem dX1_calculate_40 : decode cX1_calculate 40 = .ok (.aload_n 0, 1) := by decide +kernel
theorem dX1_calculate_41 : decode cX1_calculate 41 = .ok (.iconst 1, 1) := by decide +kernel
theorem dX1_calculate_42 : decode cX1_calculate 42 = .ok (.iconst 0, 1) := by decide +kernel
theorem dX1_calculate_43 : decode cX1_calculate 43 = .ok (.invokevirtual 50, 3) := by decide +kernel
theorem dX1_calculate_46 : decode cX1_calculate 46 = .ok (.goto 37, 3) := by decide +kernel
theorem dX1_calculate_49 : decode cX1_calculate 49 = .ok (.iload_n 1, 1) := by decide +kernel
theorem dX1_calculate_50 : decode cX1_calculate 50 = .ok (.bipush 24, 2) := by decide +kernel
theorem dX1_calculate_52 : decode cX1_calculate 52 = .ok (.if_icmp .eq 19, 3) := by decide +kernel
theorem dX1_calculate_55 : decode cX1_calculate 55 = .ok (.aload_n 0, 1) := by decide +kernel
theorem dX1_calculate_56 : decode cX1_calculate 56 = .ok (.getfield 9, 3) := by decide +kernel
theorem dX1_calculate_59 : decode cX1_calculate 59 = .ok (.iload_n 2, 1) := by decide +kernel
theorem dX1_calculate_60 : decode cX1_calculate 60 = .ok (.iload_n 1, 1) := by decide +kernel
theorem dX1_calculate_61 : decode cX1_calculate 61 = .ok (.iload_n 3, 1) := by decide +kernel
theorem dX1_calculate_62 : decode cX1_calculate 62 = .ok (.iload 4, 2) := by decide +kernel
theorem dX1_calculate_64 : decode cX1_calculate 64 = .ok (.invokestatic 123, 3) := by decide +kernel
theorem dX1_calculate_67 : decode cX1_calculate 67 = .ok (.iastore, 1) := by decide +kernel
theorem dX1_calculate_68 : decode cX1_calculate 68 = .ok (.goto 15, 3) := by decide +kernel
theorem dX1_calculate_71 : decode cX1_calculate 71 = .ok (.iload_n 3, 1) := by decide +kernel
theorem dX1_calculate_72 : decode cX1_calculate 72 = .ok (.ifCond .eq 11, 3) := by decide +kernel
theorem dX1_calculate_75 : decode cX1_calculate 75 = .ok (.aload_n 0, 1) := by decide +kernel
theorem dX1_calculate_76 : decode cX1_calculate 76 = .ok (.getfield 9, 3) := by decide +kernel
theorem dX1_calculate_79 : decode cX1_calculate 79 = .ok (.iload_n 2, 1) := by decide +kernel
theorem dX1_calculate_80 : decode cX1_calculate 80 = .ok (.iload 4, 2) := by decide +kernel
theorem dX1_calculate_82 : decode cX1_calculate 82 = .ok (.iastore, 1) := by decide +kernel
theorem dX1_calculate_83 : decode cX1_calculate 83 = .ok (.return_, 1) := by decide +kernel
theorem dX1_load_0 : decode cX1_load 0 = .ok (.aload_n 0, 1) := by decide +kernel
theorem dX1_load_1 : decode cX1_load 1 = .ok (.iload_n 2, 1) := by decide +kernel
theorem dX1_load_2 : decode cX1_load 2 = .ok (.invokestatic 126, 3) := by decide +kernel
theorem dX1_load_5 : decode cX1_load 5 = .ok (.invokevirtual 100, 3) := by decide +kernel
theorem dX1_load_8 : decode cX1_load 8 = .ok (.ifCond .eq 29, 3) := by decide +kernel
theorem dX1_load_11 : decode cX1_load 11 = .ok (.aload_n 0, 1) := by decide +kernel
theorem dX1_load_12 : decode cX1_load 12 = .ok (.getfield 9, 3) := by decide +kernel
theorem dX1_load_15 : decode cX1_load 15 = .ok (.iload_n 1, 1) := by decide +kernel
theorem dX1_load_16 : decode cX1_load 16 = .ok (.iload_n 2, 1) := by decide +kernel
theorem dX1_load_17 : decode cX1_load 17 = .ok (.invokestatic 126, 3) := by decide +kernel
theorem dX1_load_20 : decode cX1_load 20 = .ok (.ifCond .eq 12, 3) := by decide +kernel
theorem dX1_load_23 : decode cX1_load 23 = .ok (.aload_n 0, 1) := by decide +kernel
theorem dX1_load_24 : decode cX1_load 24 = .ok (.getfield 15, 3) := by decide +kernel
theorem dX1_load_27 : decode cX1_load 27 = .ok (.iload_n 2, 1) := by decide +kernel
theorem dX1_load_28 : decode cX1_load 28 = .ok (.iaload, 1) := by decide +kernel
theorem dX1_load_29 : decode cX1_load 29 = .ok (.goto 4, 3) := by decide +kernel
theorem dX1_load_32 : decode cX1_load 32 = .ok (.iconst 0, 1) := by decide +kernel
theorem dX1_load_33 : decode cX1_load 33 = .ok (.iastore, 1) := by decide +kernel
theorem dX1_load_34 : decode cX1_load 34 = .ok (.goto 9, 3) := by decide +kernel
theorem dX1_load_37 : decode cX1_load 37 = .ok (.aload_n 0, 1) := by decide +kernel
theorem dX1_load_38 : decode cX1_load 38 = .ok (.iconst 2, 1) := by decide +kernel
theorem dX1_load_39 : decode cX1_load 39 = .ok (.iconst 0, 1) := by decide +kernel
theorem dX1_load_40 : decode cX1_load 40 = .ok (.invokevirtual 50, 3) := by decide +kernel
theorem dX1_load_43 : decode cX1_load 43 = .ok (.return_, 1) := by decide +kernel
theorem dX1_store_0 : decode cX1_store 0 = .ok (.aload_n 0, 1) := by decide +kernel
theorem dX1_store_1 : decode cX1_store 1 = .ok (.iload_n 1, 1) := by decide +kernel
theorem dX1_store_2 : decode cX1_store 2 = .ok (.invokestatic 126, 3) := by decide +kernel
theorem dX1_store_5 : decode cX1_store 5 = .ok (.invokevirtual 100, 3) := by decide +kernel
theorem dX1_store_8 : decode cX1_store 8 = .ok (.ifCond .ne 12, 3) := by decide +kernel
theorem dX1_store_11 : decode cX1_store 11 = .ok (.aload_n 0, 1) := by decide +kernel
theorem dX1_store_12 : decode cX1_store 12 = .ok (.iconst 2, 1) := by decide +kernel
theorem dX1_store_13 : decode cX1_store 13 = .ok (.iconst 0, 1) := by decide +kernel
theorem dX1_store_14 : decode cX1_store 14 = .ok (.invokevirtual 50, 3) := by decide +kernel
theorem dX1_store_17 : decode cX1_store 17 = .ok (.goto 17, 3) := by decide +kernel
theorem dX1_store_20 : decode cX1_store 20 = .ok (.iload_n 1, 1) := by decide +kernel
theorem dX1_store_21 : decode cX1_store 21 = .ok (.invokestatic 126, 3) := by decide +kernel
theorem dX1_store_24 : decode cX1_store 24 = .ok (.ifCond .eq 10, 3) := by decide +kernel
theorem dX1_store_27 : decode cX1_store 27 = .ok (.aload_n 0, 1) := by decide +kernel
theorem dX1_store_28 : decode cX1_store 28 = .ok (.getfield 15, 3) := by decide +kernel
theorem dX1_store_31 : decode cX1_store 31 = .ok (.iload_n 1, 1) := by decide +kernel
theorem dX1_store_32 : decode cX1_store 32 = .ok (.iload_n 2, 1) := by decide +kernel
theorem dX1_store_33 : decode cX1_store 33 = .ok (.iastore, 1) := by decide +kernel
theorem dX1_store_34 : decode cX1_store 34 = .ok (.return_, 1) := by decide +kernel
theorem dX1_stopUnlessTrue_0 : decode cX1_stopUnlessTrue 0 = .ok (.aload_n 0, 1) := by decide +kernel
theorem dX1_stopUnlessTrue_1 : decode cX1_stopUnlessTrue 1 = .ok (.iload_n 1, 1) := by decide +kernel
theorem dX1_stopUnlessTrue_2 : decode cX1_stopUnlessTrue 2 = .ok (.ifCond .eq 7, 3) := by decide +kernel
theorem dX1_stopUnlessTrue_5 : decode cX1_stopUnlessTrue 5 = .ok (.iconst 1, 1) := by decide +kernel
theorem dX1_stopUnlessTrue_6 : decode cX1_stopUnlessTrue 6 = .ok (.goto 4, 3) := by decide +kernel
theorem dX1_stopUnlessTrue_9 : decode cX1_stopUnlessTrue 9 = .ok (.iconst 0, 1) := by decide +kernel
theorem dX1_stopUnlessTrue_10 : decode cX1_stopUnlessTrue 10 = .ok (.invokevirtual 100, 3) := by decide +kernel
theorem dX1_stopUnlessTrue_13 : decode cX1_stopUnlessTrue 13 = .ok (.ifCond .ne 9, 3) := by decide +kernel
theorem dX1_stopUnlessTrue_16 : decode cX1_stopUnlessTrue 16 = .ok (.aload_n 0, 1) := by decide +kernel
theorem dX1_stopUnlessTrue_17 : decode cX1_stopUnlessTrue 17 = .ok (.iconst 3, 1) := by decide +kernel
theorem dX1_stopUnlessTrue_18 : decode cX1_stopUnlessTrue 18 = .ok (.iconst 0, 1) := by decide +kernel
theorem dX1_stopUnlessTrue_19 : decode cX1_stopUnlessTrue 19 = .ok (.invokevirtual 50, 3) := by decide +kernel
theorem dX1_stopUnlessTrue_22 : decode cX1_stopUnlessTrue 22 = .ok (.return_, 1) := by decide +kernel
theorem dX2_init_0 : decode cX2_init 0 = .ok (.aload_n 0, 1) := by decide +kernel
theorem dX2_init_1 : decode cX2_init 1 = .ok (.invokespecial 1, 3) := by decide +kernel
theorem dX2_init_4 : decode cX2_init 4 = .ok (.return_, 1) := by decide +kernel
theorem dX2_take_0 : decode cX2_take 0 = .ok (.aload_n 0, 1) := by decide +kernel
theorem dX2_take_1 : decode cX2_take 1 = .ok (.aload_n 1, 1) := by decide +kernel
theorem dX2_take_2 : decode cX2_take 2 = .ok (.getfield 7, 3) := by decide +kernel
theorem dX2_take_5 : decode cX2_take 5 = .ok (.putfield 13, 3) := by decide +kernel
theorem dX2_take_8 : decode cX2_take 8 = .ok (.aload_n 0, 1) := by decide +kernel
theorem dX2_take_9 : decode cX2_take 9 = .ok (.aload_n 1, 1) := by decide +kernel
theorem dX2_take_10 : decode cX2_take 10 = .ok (.getfield 16, 3) := by decide +kernel
theorem dX2_take_13 : decode cX2_take 13 = .ok (.putfield 19, 3) := by decide +kernel
theorem dX2_take_16 : decode cX2_take 16 = .ok (.aload_n 0, 1) := by decide +kernel
theorem dX2_take_17 : decode cX2_take 17 = .ok (.aload_n 1, 1) := by decide +kernel
theorem dX2_take_18 : decode cX2_take 18 = .ok (.getfield 20, 3) := by decide +kernel
theorem dX2_take_21 : decode cX2_take 21 = .ok (.putfield 24, 3) := by decide +kernel
theorem dX2_take_24 : decode cX2_take 24 = .ok (.aload_n 0, 1) := by decide +kernel
theorem dX2_take_25 : decode cX2_take 25 = .ok (.aload_n 1, 1) := by decide +kernel
theorem dX2_take_26 : decode cX2_take 26 = .ok (.getfield 25, 3) := by decide +kernel
theorem dX2_take_29 : decode cX2_take 29 = .ok (.putfield 28, 3) := by decide +kernel
theorem dX2_take_32 : decode cX2_take 32 = .ok (.aload_n 0, 1) := by decide +kernel
theorem dX2_take_33 : decode cX2_take 33 = .ok (.iload_n 2, 1) := by decide +kernel
theorem dX2_take_34 : decode cX2_take 34 = .ok (.putfield 31, 3) := by decide +kernel
theorem dX2_take_37 : decode cX2_take 37 = .ok (.aload_n 0, 1) := by decide +kernel
theorem dX2_take_38 : decode cX2_take 38 = .ok (.aload_n 1, 1) := by decide +kernel
theorem dX2_take_39 : decode cX2_take 39 = .ok (.getfield 34, 3) := by decide +kernel
theorem dX2_take_42 : decode cX2_take 42 = .ok (.putfield 37, 3) := by decide +kernel
theorem dX2_take_45 : decode cX2_take 45 = .ok (.aload_n 0, 1) := by decide +kernel
theorem dX2_take_46 : decode cX2_take 46 = .ok (.iconst 1, 1) := by decide +kernel
theorem dX2_take_47 : decode cX2_take 47 = .ok (.putfield 38, 3) := by decide +kernel
theorem dX2_take_50 : decode cX2_take 50 = .ok (.return_, 1) := by decide +kernel
theorem dX3_init_0 : decode cX3_init 0 = .ok (.aload_n 0, 1) := by decide +kernel
theorem dX3_init_1 : decode cX3_init 1 = .ok (.invokespecial 3, 3) := by decide +kernel
theorem dX3_init_4 : decode cX3_init 4 = .ok (.aload_n 0, 1) := by decide +kernel
theorem dX3_init_5 : decode cX3_init 5 = .ok (.iconst 4, 1) := by decide +kernel
theorem dX3_init_6 : decode cX3_init 6 = .ok (.newarray .int, 2) := by decide +kernel
theorem dX3_init_8 : decode cX3_init 8 = .ok (.putfield 9, 3) := by decide +kernel
theorem dX3_init_11 : decode cX3_init 11 = .ok (.aload_n 0, 1) := by decide +kernel
theorem dX3_init_12 : decode cX3_init 12 = .ok (.iconst 4, 1) := by decide +kernel
theorem dX3_init_13 : decode cX3_init 13 = .ok (.newarray .int, 2) := by decide +kernel
theorem dX3_init_15 : decode cX3_init 15 = .ok (.putfield 15, 3) := by decide +kernel
theorem dX3_init_18 : decode cX3_init 18 = .ok (.aload_n 0, 1) := by decide +kernel
theorem dX3_init_19 : decode cX3_init 19 = .ok (.iconst 4, 1) := by decide +kernel
theorem dX3_init_20 : decode cX3_init 20 = .ok (.newarray .boolean, 2) := by decide +kernel
theorem dX3_init_22 : decode cX3_init 22 = .ok (.putfield 18, 3) := by decide +kernel
theorem dX3_init_25 : decode cX3_init 25 = .ok (.aload_n 0, 1) := by decide +kernel
theorem dX3_init_26 : decode cX3_init 26 = .ok (.bipush 60, 2) := by decide +kernel
theorem dX3_init_28 : decode cX3_init 28 = .ok (.newarray .int, 2) := by decide +kernel
theorem dX3_init_30 : decode cX3_init 30 = .ok (.putfield 22, 3) := by decide +kernel
theorem dX3_init_33 : decode cX3_init 33 = .ok (.aload_n 0, 1) := by decide +kernel
theorem dX3_init_34 : decode cX3_init 34 = .ok (.bipush 60, 2) := by decide +kernel
theorem dX3_init_36 : decode cX3_init 36 = .ok (.newarray .int, 2) := by decide +kernel
theorem dX3_init_38 : decode cX3_init 38 = .ok (.putfield 25, 3) := by decide +kernel
theorem dX3_init_41 : decode cX3_init 41 = .ok (.aload_n 0, 1) := by decide +kernel
theorem dX3_init_42 : decode cX3_init 42 = .ok (.bipush 60, 2) := by decide +kernel
theorem dX3_init_44 : decode cX3_init 44 = .ok (.newarray .int, 2) := by decide +kernel
theorem dX3_init_46 : decode cX3_init 46 = .ok (.putfield 28, 3) := by decide +kernel
theorem dX3_init_49 : decode cX3_init 49 = .ok (.aload_n 0, 1) := by decide +kernel
theorem dX3_init_50 : decode cX3_init 50 = .ok (.bipush 60, 2) := by decide +kernel
theorem dX3_init_52 : decode cX3_init 52 = .ok (.newarray .int, 2) := by decide +kernel
theorem dX3_init_54 : decode cX3_init 54 = .ok (.putfield 31, 3) := by decide +kernel
theorem dX3_init_57 : decode cX3_init 57 = .ok (.return_, 1) := by decide +kernel
theorem dX3_empty_0 : decode cX3_empty 0 = .ok (.aload_n 0, 1) := by decide +kernel
theorem dX3_empty_1 : decode cX3_empty 1 = .ok (.iconst 0, 1) := by decide +kernel
theorem dX3_empty_2 : decode cX3_empty 2 = .ok (.putfield 34, 3) := by decide +kernel
theorem dX3_empty_5 : decode cX3_empty 5 = .ok (.aload_n 0, 1) := by decide +kernel
theorem dX3_empty_6 : decode cX3_empty 6 = .ok (.iconst 0, 1) := by decide +kernel
theorem dX3_empty_7 : decode cX3_empty 7 = .ok (.putfield 38, 3) := by decide +kernel
theorem dX3_empty_10 : decode cX3_empty 10 = .ok (.aload_n 0, 1) := by decide +kernel
theorem dX3_empty_11 : decode cX3_empty 11 = .ok (.iconst 0, 1) := by decide +kernel
theorem dX3_empty_12 : decode cX3_empty 12 = .ok (.putfield 41, 3) := by decide +kernel
theorem dX3_empty_15 : decode cX3_empty 15 = .ok (.aload_n 0, 1) := by decide +kernel
theorem dX3_empty_16 : decode cX3_empty 16 = .ok (.iconst 0, 1) := by decide +kernel
theorem dX3_empty_17 : decode cX3_empty 17 = .ok (.putfield 44, 3) := by decide +kernel
theorem dX3_empty_20 : decode cX3_empty 20 = .ok (.aload_n 0, 1) := by decide +kernel
theorem dX3_empty_21 : decode cX3_empty 21 = .ok (.iconst 0, 1) := by decide +kernel
theorem dX3_empty_22 : decode cX3_empty 22 = .ok (.putfield 47, 3) := by decide +kernel
theorem dX3_empty_25 : decode cX3_empty 25 = .ok (.return_, 1) := by decide +kernel
theorem dX3_addInput_0 : decode cX3_addInput 0 = .ok (.aload_n 0, 1) := by decide +kernel
theorem dX3_addInput_1 : decode cX3_addInput 1 = .ok (.getfield 34, 3) := by decide +kernel
theorem dX3_addInput_4 : decode cX3_addInput 4 = .ok (.iconst 4, 1) := by decide +kernel
theorem dX3_addInput_5 : decode cX3_addInput 5 = .ok (.if_icmp .ge 19, 3) := by decide +kernel
theorem dX3_addInput_8 : decode cX3_addInput 8 = .ok (.iload_n 1, 1) := by decide +kernel
theorem dX3_addInput_9 : decode cX3_addInput 9 = .ok (.iconst 1, 1) := by decide +kernel
theorem dX3_addInput_10 : decode cX3_addInput 10 = .ok (.if_icmp .lt 14, 3) := by decide +kernel
theorem dX3_addInput_13 : decode cX3_addInput 13 = .ok (.iload_n 1, 1) := by decide +kernel
theorem dX3_addInput_14 : decode cX3_addInput 14 = .ok (.bipush 12, 2) := by decide +kernel
theorem dX3_addInput_16 : decode cX3_addInput 16 = .ok (.aload_n 0, 1) := by decide +kernel
theorem dX3_addInput_17 : decode cX3_addInput 17 = .ok (.getfield 38, 3) := by decide +kernel
theorem dX3_addInput_20 : decode cX3_addInput 20 = .ok (.isub, 1) := by decide +kernel
theorem dX3_addInput_21 : decode cX3_addInput 21 = .ok (.if_icmp .le 5, 3) := by decide +kernel
theorem dX3_addInput_24 : decode cX3_addInput 24 = .ok (.iconst (-1), 1) := by decide +kernel
theorem dX3_addInput_25 : decode cX3_addInput 25 = .ok (.ireturn, 1) := by decide +kernel
theorem dX3_addInput_26 : decode cX3_addInput 26 = .ok (.aload_n 0, 1) := by decide +kernel
theorem dX3_addInput_27 : decode cX3_addInput 27 = .ok (.dup, 1) := by decide +kernel
theorem dX3_addInput_28 : decode cX3_addInput 28 = .ok (.getfield 38, 3) := by decide +kernel
theorem dX3_addInput_31 : decode cX3_addInput 31 = .ok (.iload_n 1, 1) := by decide +kernel
theorem dX3_addInput_32 : decode cX3_addInput 32 = .ok (.iadd, 1) := by decide +kernel
theorem dX3_addInput_33 : decode cX3_addInput 33 = .ok (.putfield 38, 3) := by decide +kernel
theorem dX3_addInput_36 : decode cX3_addInput 36 = .ok (.aload_n 0, 1) := by decide +kernel
theorem dX3_addInput_37 : decode cX3_addInput 37 = .ok (.getfield 9, 3) := by decide +kernel
theorem dX3_addInput_40 : decode cX3_addInput 40 = .ok (.aload_n 0, 1) := by decide +kernel
theorem dX3_addInput_41 : decode cX3_addInput 41 = .ok (.getfield 34, 3) := by decide +kernel
theorem dX3_addInput_44 : decode cX3_addInput 44 = .ok (.iload_n 1, 1) := by decide +kernel
theorem dX3_addInput_45 : decode cX3_addInput 45 = .ok (.iastore, 1) := by decide +kernel
theorem dX3_addInput_46 : decode cX3_addInput 46 = .ok (.aload_n 0, 1) := by decide +kernel
theorem dX3_addInput_47 : decode cX3_addInput 47 = .ok (.getfield 15, 3) := by decide +kernel
theorem dX3_addInput_50 : decode cX3_addInput 50 = .ok (.aload_n 0, 1) := by decide +kernel
theorem dX3_addInput_51 : decode cX3_addInput 51 = .ok (.getfield 34, 3) := by decide +kernel
theorem dX3_addInput_54 : decode cX3_addInput 54 = .ok (.aload_n 0, 1) := by decide +kernel
theorem dX3_addInput_55 : decode cX3_addInput 55 = .ok (.getfield 38, 3) := by decide +kernel
theorem dX3_addInput_58 : decode cX3_addInput 58 = .ok (.iastore, 1) := by decide +kernel
theorem dX3_addInput_59 : decode cX3_addInput 59 = .ok (.aload_n 0, 1) := by decide +kernel
theorem dX3_addInput_60 : decode cX3_addInput 60 = .ok (.getfield 18, 3) := by decide +kernel
theorem dX3_addInput_63 : decode cX3_addInput 63 = .ok (.aload_n 0, 1) := by decide +kernel
theorem dX3_addInput_64 : decode cX3_addInput 64 = .ok (.getfield 34, 3) := by decide +kernel
theorem dX3_addInput_67 : decode cX3_addInput 67 = .ok (.iload_n 2, 1) := by decide +kernel
theorem dX3_addInput_68 : decode cX3_addInput 68 = .ok (.bastore, 1) := by decide +kernel
theorem dX3_addInput_69 : decode cX3_addInput 69 = .ok (.aload_n 0, 1) := by decide +kernel
theorem dX3_addInput_70 : decode cX3_addInput 70 = .ok (.dup, 1) := by decide +kernel
theorem dX3_addInput_71 : decode cX3_addInput 71 = .ok (.getfield 34, 3) := by decide +kernel
theorem dX3_addInput_74 : decode cX3_addInput 74 = .ok (.iconst 1, 1) := by decide +kernel
theorem dX3_addInput_75 : decode cX3_addInput 75 = .ok (.iadd, 1) := by decide +kernel
theorem dX3_addInput_76 : decode cX3_addInput 76 = .ok (.putfield 34, 3) := by decide +kernel
theorem dX3_addInput_79 : decode cX3_addInput 79 = .ok (.aload_n 0, 1) := by decide +kernel
theorem dX3_addInput_80 : decode cX3_addInput 80 = .ok (.getfield 34, 3) := by decide +kernel
theorem dX3_addInput_83 : decode cX3_addInput 83 = .ok (.iconst 1, 1) := by decide +kernel
theorem dX3_addInput_84 : decode cX3_addInput 84 = .ok (.isub, 1) := by decide +kernel
theorem dX3_addInput_85 : decode cX3_addInput 85 = .ok (.ireturn, 1) := by decide +kernel
theorem dX3_addInstruction_0 : decode cX3_addInstruction 0 = .ok (.aload_n 0, 1) := by decide +kernel
theorem dX3_addInstruction_1 : decode cX3_addInstruction 1 = .ok (.getfield 41, 3) := by decide +kernel
theorem dX3_addInstruction_4 : decode cX3_addInstruction 4 = .ok (.bipush 60, 2) := by decide +kernel
theorem dX3_addInstruction_6 : decode cX3_addInstruction 6 = .ok (.if_icmp .ge 23, 3) := by decide +kernel
theorem dX3_addInstruction_9 : decode cX3_addInstruction 9 = .ok (.aload_n 0, 1) := by decide +kernel
theorem dX3_addInstruction_10 : decode cX3_addInstruction 10 = .ok (.iload_n 1, 1) := by decide +kernel
theorem dX3_addInstruction_11 : decode cX3_addInstruction 11 = .ok (.iload_n 2, 1) := by decide +kernel
theorem dX3_addInstruction_12 : decode cX3_addInstruction 12 = .ok (.iload_n 3, 1) := by decide +kernel
theorem dX3_addInstruction_13 : decode cX3_addInstruction 13 = .ok (.iload 4, 2) := by decide +kernel
theorem dX3_addInstruction_15 : decode cX3_addInstruction 15 = .ok (.invokevirtual 50, 3) := by decide +kernel
theorem dX3_addInstruction_18 : decode cX3_addInstruction 18 = .ok (.ifCond .eq 11, 3) := by decide +kernel
theorem dX3_addInstruction_21 : decode cX3_addInstruction 21 = .ok (.aload_n 0, 1) := by decide +kernel
theorem dX3_addInstruction_22 : decode cX3_addInstruction 22 = .ok (.iload_n 1, 1) := by decide +kernel
theorem dX3_addInstruction_23 : decode cX3_addInstruction 23 = .ok (.invokevirtual 54, 3) := by decide +kernel
theorem dX3_addInstruction_26 : decode cX3_addInstruction 26 = .ok (.ifCond .eq 5, 3) := by decide +kernel
theorem dX3_addInstruction_29 : decode cX3_addInstruction 29 = .ok (.iconst (-1), 1) := by decide +kernel
theorem dX3_addInstruction_30 : decode cX3_addInstruction 30 = .ok (.ireturn, 1) := by decide +kernel
theorem dX3_addInstruction_31 : decode cX3_addInstruction 31 = .ok (.aload_n 0, 1) := by decide +kernel
theorem dX3_addInstruction_32 : decode cX3_addInstruction 32 = .ok (.getfield 22, 3) := by decide +kernel
theorem dX3_addInstruction_35 : decode cX3_addInstruction 35 = .ok (.aload_n 0, 1) := by decide +kernel
theorem dX3_addInstruction_36 : decode cX3_addInstruction 36 = .ok (.getfield 41, 3) := by decide +kernel
theorem dX3_addInstruction_39 : decode cX3_addInstruction 39 = .ok (.iload_n 1, 1) := by decide +kernel
theorem dX3_addInstruction_40 : decode cX3_addInstruction 40 = .ok (.iastore, 1) := by decide +kernel
theorem dX3_addInstruction_41 : decode cX3_addInstruction 41 = .ok (.aload_n 0, 1) := by decide +kernel
theorem dX3_addInstruction_42 : decode cX3_addInstruction 42 = .ok (.getfield 25, 3) := by decide +kernel
theorem dX3_addInstruction_45 : decode cX3_addInstruction 45 = .ok (.aload_n 0, 1) := by decide +kernel
theorem dX3_addInstruction_46 : decode cX3_addInstruction 46 = .ok (.getfield 41, 3) := by decide +kernel
theorem dX3_addInstruction_49 : decode cX3_addInstruction 49 = .ok (.iload_n 2, 1) := by decide +kernel
theorem dX3_addInstruction_50 : decode cX3_addInstruction 50 = .ok (.iastore, 1) := by decide +kernel
theorem dX3_addInstruction_51 : decode cX3_addInstruction 51 = .ok (.aload_n 0, 1) := by decide +kernel
theorem dX3_addInstruction_52 : decode cX3_addInstruction 52 = .ok (.getfield 28, 3) := by decide +kernel
theorem dX3_addInstruction_55 : decode cX3_addInstruction 55 = .ok (.aload_n 0, 1) := by decide +kernel
theorem dX3_addInstruction_56 : decode cX3_addInstruction 56 = .ok (.getfield 41, 3) := by decide +kernel
theorem dX3_addInstruction_59 : decode cX3_addInstruction 59 = .ok (.iload_n 3, 1) := by decide +kernel
theorem dX3_addInstruction_60 : decode cX3_addInstruction 60 = .ok (.iastore, 1) := by decide +kernel
theorem dX3_addInstruction_61 : decode cX3_addInstruction 61 = .ok (.aload_n 0, 1) := by decide +kernel
theorem dX3_addInstruction_62 : decode cX3_addInstruction 62 = .ok (.getfield 31, 3) := by decide +kernel
theorem dX3_addInstruction_65 : decode cX3_addInstruction 65 = .ok (.aload_n 0, 1) := by decide +kernel
theorem dX3_addInstruction_66 : decode cX3_addInstruction 66 = .ok (.getfield 41, 3) := by decide +kernel
theorem dX3_addInstruction_69 : decode cX3_addInstruction 69 = .ok (.iload 4, 2) := by decide +kernel
theorem dX3_addInstruction_71 : decode cX3_addInstruction 71 = .ok (.iastore, 1) := by decide +kernel
theorem dX3_addInstruction_72 : decode cX3_addInstruction 72 = .ok (.aload_n 0, 1) := by decide +kernel
theorem dX3_addInstruction_73 : decode cX3_addInstruction 73 = .ok (.dup, 1) := by decide +kernel
theorem dX3_addInstruction_74 : decode cX3_addInstruction 74 = .ok (.getfield 44, 3) := by decide +kernel
theorem dX3_addInstruction_77 : decode cX3_addInstruction 77 = .ok (.iload_n 1, 1) := by decide +kernel
theorem dX3_addInstruction_78 : decode cX3_addInstruction 78 = .ok (.iconst 5, 1) := by decide +kernel
theorem dX3_addInstruction_79 : decode cX3_addInstruction 79 = .ok (.if_icmp .ne 7, 3) := by decide +kernel
theorem dX3_addInstruction_82 : decode cX3_addInstruction 82 = .ok (.iconst 1, 1) := by decide +kernel
theorem dX3_addInstruction_83 : decode cX3_addInstruction 83 = .ok (.goto 4, 3) := by decide +kernel
theorem dX3_addInstruction_86 : decode cX3_addInstruction 86 = .ok (.iconst 0, 1) := by decide +kernel
theorem dX3_addInstruction_87 : decode cX3_addInstruction 87 = .ok (.iadd, 1) := by decide +kernel
theorem dX3_addInstruction_88 : decode cX3_addInstruction 88 = .ok (.putfield 44, 3) := by decide +kernel
theorem dX3_addInstruction_91 : decode cX3_addInstruction 91 = .ok (.aload_n 0, 1) := by decide +kernel
theorem dX3_addInstruction_92 : decode cX3_addInstruction 92 = .ok (.dup, 1) := by decide +kernel
theorem dX3_addInstruction_93 : decode cX3_addInstruction 93 = .ok (.getfield 47, 3) := by decide +kernel
theorem dX3_addInstruction_96 : decode cX3_addInstruction 96 = .ok (.iload_n 1, 1) := by decide +kernel
theorem dX3_addInstruction_97 : decode cX3_addInstruction 97 = .ok (.invokestatic 58, 3) := by decide +kernel
theorem dX3_addInstruction_100 : decode cX3_addInstruction 100 = .ok (.ifCond .eq 7, 3) := by decide +kernel
theorem dX3_addInstruction_103 : decode cX3_addInstruction 103 = .ok (.iconst 1, 1) := by decide +kernel
theorem dX3_addInstruction_104 : decode cX3_addInstruction 104 = .ok (.goto 4, 3) := by decide +kernel
theorem dX3_addInstruction_107 : decode cX3_addInstruction 107 = .ok (.iconst 0, 1) := by decide +kernel
theorem dX3_addInstruction_108 : decode cX3_addInstruction 108 = .ok (.iadd, 1) := by decide +kernel
theorem dX3_addInstruction_109 : decode cX3_addInstruction 109 = .ok (.putfield 47, 3) := by decide +kernel
theorem dX3_addInstruction_112 : decode cX3_addInstruction 112 = .ok (.aload_n 0, 1) := by decide +kernel
theorem dX3_addInstruction_113 : decode cX3_addInstruction 113 = .ok (.dup, 1) := by decide +kernel
theorem dX3_addInstruction_114 : decode cX3_addInstruction 114 = .ok (.getfield 41, 3) := by decide +kernel
theorem dX3_addInstruction_117 : decode cX3_addInstruction 117 = .ok (.iconst 1, 1) := by decide +kernel
theorem dX3_addInstruction_118 : decode cX3_addInstruction 118 = .ok (.iadd, 1) := by decide +kernel
theorem dX3_addInstruction_119 : decode cX3_addInstruction 119 = .ok (.putfield 41, 3) := by decide +kernel
theorem dX3_addInstruction_122 : decode cX3_addInstruction 122 = .ok (.aload_n 0, 1) := by decide +kernel
theorem dX3_addInstruction_123 : decode cX3_addInstruction 123 = .ok (.getfield 41, 3) := by decide +kernel
theorem dX3_addInstruction_126 : decode cX3_addInstruction 126 = .ok (.iconst 1, 1) := by decide +kernel
theorem dX3_addInstruction_127 : decode cX3_addInstruction 127 = .ok (.isub, 1) := by decide +kernel
theorem dX3_addInstruction_128 : decode cX3_addInstruction 128 = .ok (.ireturn, 1) := by decide +kernel
theorem dX3_fits_0 : decode cX3_fits 0 = .ok (.iload_n 1, 1) := by decide +kernel
theorem dX3_fits_1 : decode cX3_fits 1 = .ok (.tableswitch 237 0 31 #[143, 148, 173, 237, 237, 237, 237, 237, 237, 237, 237, 237, 237, 237, 237, 237, 237, 237, 237, 237, 237, 237, 173, 173, 237, 173, 173, 193, 214, 143, 220, 143], 143) := by decide +kernel
theorem dX3_fits_144 : decode cX3_fits 144 = .ok (.iload_n 2, 1) := by decide +kernel
theorem dX3_fits_145 : decode cX3_fits 145 = .ok (.invokestatic 61, 3) := by decide +kernel
theorem dX3_fits_148 : decode cX3_fits 148 = .ok (.ireturn, 1) := by decide +kernel
theorem dX3_fits_149 : decode cX3_fits 149 = .ok (.iload_n 2, 1) := by decide +kernel
theorem dX3_fits_150 : decode cX3_fits 150 = .ok (.invokestatic 61, 3) := by decide +kernel
theorem dX3_fits_153 : decode cX3_fits 153 = .ok (.ifCond .eq 19, 3) := by decide +kernel
theorem dX3_fits_156 : decode cX3_fits 156 = .ok (.iload_n 3, 1) := by decide +kernel
theorem dX3_fits_157 : decode cX3_fits 157 = .ok (.ifCond .lt 15, 3) := by decide +kernel
theorem dX3_fits_160 : decode cX3_fits 160 = .ok (.iload_n 3, 1) := by decide +kernel
theorem dX3_fits_161 : decode cX3_fits 161 = .ok (.aload_n 0, 1) := by decide +kernel
theorem dX3_fits_162 : decode cX3_fits 162 = .ok (.getfield 34, 3) := by decide +kernel
theorem dX3_fits_165 : decode cX3_fits 165 = .ok (.if_icmp .ge 7, 3) := by decide +kernel
theorem dX3_fits_168 : decode cX3_fits 168 = .ok (.iconst 1, 1) := by decide +kernel
theorem dX3_fits_169 : decode cX3_fits 169 = .ok (.goto 4, 3) := by decide +kernel
theorem dX3_fits_172 : decode cX3_fits 172 = .ok (.iconst 0, 1) := by decide +kernel
theorem dX3_fits_173 : decode cX3_fits 173 = .ok (.ireturn, 1) := by decide +kernel
theorem dX3_fits_174 : decode cX3_fits 174 = .ok (.iload_n 2, 1) := by decide +kernel
theorem dX3_fits_175 : decode cX3_fits 175 = .ok (.invokestatic 61, 3) := by decide +kernel
theorem dX3_fits_178 : decode cX3_fits 178 = .ok (.ifCond .eq 14, 3) := by decide +kernel
theorem dX3_fits_181 : decode cX3_fits 181 = .ok (.iload_n 3, 1) := by decide +kernel
theorem dX3_fits_182 : decode cX3_fits 182 = .ok (.invokestatic 61, 3) := by decide +kernel
theorem dX3_fits_185 : decode cX3_fits 185 = .ok (.ifCond .eq 7, 3) := by decide +kernel
theorem dX3_fits_188 : decode cX3_fits 188 = .ok (.iconst 1, 1) := by decide +kernel
theorem dX3_fits_189 : decode cX3_fits 189 = .ok (.goto 4, 3) := by decide +kernel
theorem dX3_fits_192 : decode cX3_fits 192 = .ok (.iconst 0, 1) := by decide +kernel
theorem dX3_fits_193 : decode cX3_fits 193 = .ok (.ireturn, 1) := by decide +kernel
theorem dX3_fits_194 : decode cX3_fits 194 = .ok (.iload_n 2, 1) := by decide +kernel
theorem dX3_fits_195 : decode cX3_fits 195 = .ok (.invokestatic 61, 3) := by decide +kernel
theorem dX3_fits_198 : decode cX3_fits 198 = .ok (.ifCond .eq 15, 3) := by decide +kernel
theorem dX3_fits_201 : decode cX3_fits 201 = .ok (.aload_n 0, 1) := by decide +kernel
theorem dX3_fits_202 : decode cX3_fits 202 = .ok (.iload_n 3, 1) := by decide +kernel
theorem dX3_fits_203 : decode cX3_fits 203 = .ok (.invokevirtual 64, 3) := by decide +kernel
theorem dX3_fits_206 : decode cX3_fits 206 = .ok (.ifCond .eq 7, 3) := by decide +kernel
theorem dX3_fits_209 : decode cX3_fits 209 = .ok (.iconst 1, 1) := by decide +kernel
theorem dX3_fits_210 : decode cX3_fits 210 = .ok (.goto 4, 3) := by decide +kernel
theorem dX3_fits_213 : decode cX3_fits 213 = .ok (.iconst 0, 1) := by decide +kernel
theorem dX3_fits_214 : decode cX3_fits 214 = .ok (.ireturn, 1) := by decide +kernel
theorem dX3_fits_215 : decode cX3_fits 215 = .ok (.aload_n 0, 1) := by decide +kernel
theorem dX3_fits_216 : decode cX3_fits 216 = .ok (.iload_n 2, 1) := by decide +kernel
theorem dX3_fits_217 : decode cX3_fits 217 = .ok (.invokevirtual 64, 3) := by decide +kernel
theorem dX3_fits_220 : decode cX3_fits 220 = .ok (.ireturn, 1) := by decide +kernel
theorem dX3_fits_221 : decode cX3_fits 221 = .ok (.iload_n 2, 1) := by decide +kernel
theorem dX3_fits_222 : decode cX3_fits 222 = .ok (.ifCond .lt 14, 3) := by decide +kernel
theorem dX3_fits_225 : decode cX3_fits 225 = .ok (.iload_n 2, 1) := by decide +kernel
theorem dX3_fits_226 : decode cX3_fits 226 = .ok (.sipush 255, 3) := by decide +kernel
theorem dX3_fits_229 : decode cX3_fits 229 = .ok (.if_icmp .gt 7, 3) := by decide +kernel
theorem dX3_fits_232 : decode cX3_fits 232 = .ok (.iconst 1, 1) := by decide +kernel
theorem dX3_fits_233 : decode cX3_fits 233 = .ok (.goto 4, 3) := by decide +kernel
theorem dX3_fits_236 : decode cX3_fits 236 = .ok (.iconst 0, 1) := by decide +kernel
theorem dX3_fits_237 : decode cX3_fits 237 = .ok (.ireturn, 1) := by decide +kernel
theorem dX3_fits_238 : decode cX3_fits 238 = .ok (.iload_n 1, 1) := by decide +kernel
theorem dX3_fits_239 : decode cX3_fits 239 = .ok (.invokestatic 67, 3) := by decide +kernel
theorem dX3_fits_242 : decode cX3_fits 242 = .ok (.ifCond .eq 29, 3) := by decide +kernel
theorem dX3_fits_245 : decode cX3_fits 245 = .ok (.iload_n 2, 1) := by decide +kernel
theorem dX3_fits_246 : decode cX3_fits 246 = .ok (.invokestatic 61, 3) := by decide +kernel
theorem dX3_fits_249 : decode cX3_fits 249 = .ok (.ifCond .eq 22, 3) := by decide +kernel
theorem dX3_fits_252 : decode cX3_fits 252 = .ok (.iload_n 3, 1) := by decide +kernel
theorem dX3_fits_253 : decode cX3_fits 253 = .ok (.invokestatic 61, 3) := by decide +kernel
theorem dX3_fits_256 : decode cX3_fits 256 = .ok (.ifCond .eq 15, 3) := by decide +kernel
theorem dX3_fits_259 : decode cX3_fits 259 = .ok (.iload 4, 2) := by decide +kernel
theorem dX3_fits_261 : decode cX3_fits 261 = .ok (.invokestatic 61, 3) := by decide +kernel
theorem dX3_fits_264 : decode cX3_fits 264 = .ok (.ifCond .eq 7, 3) := by decide +kernel
theorem dX3_fits_267 : decode cX3_fits 267 = .ok (.iconst 1, 1) := by decide +kernel
theorem dX3_fits_268 : decode cX3_fits 268 = .ok (.goto 4, 3) := by decide +kernel
theorem dX3_fits_271 : decode cX3_fits 271 = .ok (.iconst 0, 1) := by decide +kernel
theorem dX3_fits_272 : decode cX3_fits 272 = .ok (.ireturn, 1) := by decide +kernel
theorem dX3_takesThreeRegisters_0 : decode cX3_takesThreeRegisters 0 = .ok (.iload_n 0, 1) := by decide +kernel
theorem dX3_takesThreeRegisters_1 : decode cX3_takesThreeRegisters 1 = .ok (.iconst 3, 1) := by decide +kernel
theorem dX3_takesThreeRegisters_2 : decode cX3_takesThreeRegisters 2 = .ok (.if_icmp .lt 9, 3) := by decide +kernel
theorem dX3_takesThreeRegisters_5 : decode cX3_takesThreeRegisters 5 = .ok (.iload_n 0, 1) := by decide +kernel
theorem dX3_takesThreeRegisters_6 : decode cX3_takesThreeRegisters 6 = .ok (.bipush 21, 2) := by decide +kernel
theorem dX3_takesThreeRegisters_8 : decode cX3_takesThreeRegisters 8 = .ok (.if_icmp .le 9, 3) := by decide +kernel
theorem dX3_takesThreeRegisters_11 : decode cX3_takesThreeRegisters 11 = .ok (.iload_n 0, 1) := by decide +kernel
theorem dX3_takesThreeRegisters_12 : decode cX3_takesThreeRegisters 12 = .ok (.bipush 24, 2) := by decide +kernel
theorem dX3_takesThreeRegisters_14 : decode cX3_takesThreeRegisters 14 = .ok (.if_icmp .ne 7, 3) := by decide +kernel
theorem dX3_takesThreeRegisters_17 : decode cX3_takesThreeRegisters 17 = .ok (.iconst 1, 1) := by decide +kernel
theorem dX3_takesThreeRegisters_18 : decode cX3_takesThreeRegisters 18 = .ok (.goto 4, 3) := by decide +kernel
theorem dX3_takesThreeRegisters_21 : decode cX3_takesThreeRegisters 21 = .ok (.iconst 0, 1) := by decide +kernel
theorem dX3_takesThreeRegisters_22 : decode cX3_takesThreeRegisters 22 = .ok (.ireturn, 1) := by decide +kernel
theorem dX3_isTarget_0 : decode cX3_isTarget 0 = .ok (.iload_n 1, 1) := by decide +kernel
theorem dX3_isTarget_1 : decode cX3_isTarget 1 = .ok (.aload_n 0, 1) := by decide +kernel
theorem dX3_isTarget_2 : decode cX3_isTarget 2 = .ok (.getfield 41, 3) := by decide +kernel
theorem dX3_isTarget_5 : decode cX3_isTarget 5 = .ok (.if_icmp .le 13, 3) := by decide +kernel
theorem dX3_isTarget_8 : decode cX3_isTarget 8 = .ok (.iload_n 1, 1) := by decide +kernel
theorem dX3_isTarget_9 : decode cX3_isTarget 9 = .ok (.bipush 60, 2) := by decide +kernel
theorem dX3_isTarget_11 : decode cX3_isTarget 11 = .ok (.if_icmp .gt 7, 3) := by decide +kernel
theorem dX3_isTarget_14 : decode cX3_isTarget 14 = .ok (.iconst 1, 1) := by decide +kernel
theorem dX3_isTarget_15 : decode cX3_isTarget 15 = .ok (.goto 4, 3) := by decide +kernel
theorem dX3_isTarget_18 : decode cX3_isTarget 18 = .ok (.iconst 0, 1) := by decide +kernel
theorem dX3_isTarget_19 : decode cX3_isTarget 19 = .ok (.ireturn, 1) := by decide +kernel
theorem dX3_wouldBeTooMany_0 : decode cX3_wouldBeTooMany 0 = .ok (.iload_n 1, 1) := by decide +kernel
theorem dX3_wouldBeTooMany_1 : decode cX3_wouldBeTooMany 1 = .ok (.iconst 5, 1) := by decide +kernel
theorem dX3_wouldBeTooMany_2 : decode cX3_wouldBeTooMany 2 = .ok (.if_icmp .ne 12, 3) := by decide +kernel
theorem dX3_wouldBeTooMany_5 : decode cX3_wouldBeTooMany 5 = .ok (.aload_n 0, 1) := by decide +kernel
theorem dX3_wouldBeTooMany_6 : decode cX3_wouldBeTooMany 6 = .ok (.getfield 44, 3) := by decide +kernel
theorem dX3_wouldBeTooMany_9 : decode cX3_wouldBeTooMany 9 = .ok (.bipush 6, 2) := by decide +kernel
theorem dX3_wouldBeTooMany_11 : decode cX3_wouldBeTooMany 11 = .ok (.if_icmp .ge 19, 3) := by decide +kernel
theorem dX3_wouldBeTooMany_14 : decode cX3_wouldBeTooMany 14 = .ok (.iload_n 1, 1) := by decide +kernel
theorem dX3_wouldBeTooMany_15 : decode cX3_wouldBeTooMany 15 = .ok (.invokestatic 58, 3) := by decide +kernel
theorem dX3_wouldBeTooMany_18 : decode cX3_wouldBeTooMany 18 = .ok (.ifCond .eq 16, 3) := by decide +kernel
theorem dX3_wouldBeTooMany_21 : decode cX3_wouldBeTooMany 21 = .ok (.aload_n 0, 1) := by decide +kernel
theorem dX3_wouldBeTooMany_22 : decode cX3_wouldBeTooMany 22 = .ok (.getfield 47, 3) := by decide +kernel
theorem dX3_wouldBeTooMany_25 : decode cX3_wouldBeTooMany 25 = .ok (.bipush 6, 2) := by decide +kernel
theorem dX3_wouldBeTooMany_27 : decode cX3_wouldBeTooMany 27 = .ok (.if_icmp .lt 7, 3) := by decide +kernel
theorem dX3_wouldBeTooMany_30 : decode cX3_wouldBeTooMany 30 = .ok (.iconst 1, 1) := by decide +kernel
theorem dX3_wouldBeTooMany_31 : decode cX3_wouldBeTooMany 31 = .ok (.goto 4, 3) := by decide +kernel
theorem dX3_wouldBeTooMany_34 : decode cX3_wouldBeTooMany 34 = .ok (.iconst 0, 1) := by decide +kernel
theorem dX3_wouldBeTooMany_35 : decode cX3_wouldBeTooMany 35 = .ok (.ireturn, 1) := by decide +kernel
theorem dX3_words_0 : decode cX3_words 0 = .ok (.iconst 1, 1) := by decide +kernel
theorem dX3_words_1 : decode cX3_words 1 = .ok (.aload_n 0, 1) := by decide +kernel
theorem dX3_words_2 : decode cX3_words 2 = .ok (.getfield 38, 3) := by decide +kernel
theorem dX3_words_5 : decode cX3_words 5 = .ok (.ishl, 1) := by decide +kernel
theorem dX3_words_6 : decode cX3_words 6 = .ok (.ireturn, 1) := by decide +kernel
theorem dX3_hasWord_0 : decode cX3_hasWord 0 = .ok (.iload_n 1, 1) := by decide +kernel
theorem dX3_hasWord_1 : decode cX3_hasWord 1 = .ok (.ifCond .lt 15, 3) := by decide +kernel
theorem dX3_hasWord_4 : decode cX3_hasWord 4 = .ok (.iload_n 1, 1) := by decide +kernel
theorem dX3_hasWord_5 : decode cX3_hasWord 5 = .ok (.aload_n 0, 1) := by decide +kernel
theorem dX3_hasWord_6 : decode cX3_hasWord 6 = .ok (.invokevirtual 70, 3) := by decide +kernel
theorem dX3_hasWord_9 : decode cX3_hasWord 9 = .ok (.if_icmp .ge 7, 3) := by decide +kernel
theorem dX3_hasWord_12 : decode cX3_hasWord 12 = .ok (.iconst 1, 1) := by decide +kernel
theorem dX3_hasWord_13 : decode cX3_hasWord 13 = .ok (.goto 4, 3) := by decide +kernel
theorem dX3_hasWord_16 : decode cX3_hasWord 16 = .ok (.iconst 0, 1) := by decide +kernel
theorem dX3_hasWord_17 : decode cX3_hasWord 17 = .ok (.ireturn, 1) := by decide +kernel
theorem dX3_inputIn_0 : decode cX3_inputIn 0 = .ok (.bipush 32, 2) := by decide +kernel
theorem dX3_inputIn_2 : decode cX3_inputIn 2 = .ok (.aload_n 0, 1) := by decide +kernel
theorem dX3_inputIn_3 : decode cX3_inputIn 3 = .ok (.getfield 9, 3) := by decide +kernel
theorem dX3_inputIn_6 : decode cX3_inputIn 6 = .ok (.iload_n 2, 1) := by decide +kernel
theorem dX3_inputIn_7 : decode cX3_inputIn 7 = .ok (.iaload, 1) := by decide +kernel
theorem dX3_inputIn_8 : decode cX3_inputIn 8 = .ok (.isub, 1) := by decide +kernel
theorem dX3_inputIn_9 : decode cX3_inputIn 9 = .ok (.istore_n 3, 1) := by decide +kernel
theorem dX3_inputIn_10 : decode cX3_inputIn 10 = .ok (.iload_n 1, 1) := by decide +kernel
theorem dX3_inputIn_11 : decode cX3_inputIn 11 = .ok (.aload_n 0, 1) := by decide +kernel
theorem dX3_inputIn_12 : decode cX3_inputIn 12 = .ok (.getfield 38, 3) := by decide +kernel
theorem dX3_inputIn_15 : decode cX3_inputIn 15 = .ok (.aload_n 0, 1) := by decide +kernel
theorem dX3_inputIn_16 : decode cX3_inputIn 16 = .ok (.getfield 15, 3) := by decide +kernel
theorem dX3_inputIn_19 : decode cX3_inputIn 19 = .ok (.iload_n 2, 1) := by decide +kernel
theorem dX3_inputIn_20 : decode cX3_inputIn 20 = .ok (.iaload, 1) := by decide +kernel
theorem dX3_inputIn_21 : decode cX3_inputIn 21 = .ok (.isub, 1) := by decide +kernel
theorem dX3_inputIn_22 : decode cX3_inputIn 22 = .ok (.ishr, 1) := by decide +kernel
theorem dX3_inputIn_23 : decode cX3_inputIn 23 = .ok (.iload_n 3, 1) := by decide +kernel
theorem dX3_inputIn_24 : decode cX3_inputIn 24 = .ok (.ishl, 1) := by decide +kernel
theorem dX3_inputIn_25 : decode cX3_inputIn 25 = .ok (.istore 4, 2) := by decide +kernel
theorem dX3_inputIn_27 : decode cX3_inputIn 27 = .ok (.aload_n 0, 1) := by decide +kernel
theorem dX3_inputIn_28 : decode cX3_inputIn 28 = .ok (.getfield 18, 3) := by decide +kernel
theorem dX3_inputIn_31 : decode cX3_inputIn 31 = .ok (.iload_n 2, 1) := by decide +kernel
theorem dX3_inputIn_32 : decode cX3_inputIn 32 = .ok (.baload, 1) := by decide +kernel
theorem dX3_inputIn_33 : decode cX3_inputIn 33 = .ok (.ifCond .eq 10, 3) := by decide +kernel
theorem dX3_inputIn_36 : decode cX3_inputIn 36 = .ok (.iload 4, 2) := by decide +kernel
theorem dX3_inputIn_38 : decode cX3_inputIn 38 = .ok (.iload_n 3, 1) := by decide +kernel
theorem dX3_inputIn_39 : decode cX3_inputIn 39 = .ok (.ishr, 1) := by decide +kernel
theorem dX3_inputIn_40 : decode cX3_inputIn 40 = .ok (.goto 7, 3) := by decide +kernel
theorem dX3_inputIn_43 : decode cX3_inputIn 43 = .ok (.iload 4, 2) := by decide +kernel
theorem dX3_inputIn_45 : decode cX3_inputIn 45 = .ok (.iload_n 3, 1) := by decide +kernel
theorem dX3_inputIn_46 : decode cX3_inputIn 46 = .ok (.iushr, 1) := by decide +kernel
theorem dX3_inputIn_47 : decode cX3_inputIn 47 = .ok (.ireturn, 1) := by decide +kernel
end
section
theorem dX5_init_0 : decode cX5_init 0 = .ok (.aload_n 0, 1) := by decide +kernel
theorem dX5_init_1 : decode cX5_init 1 = .ok (.invokespecial 1, 3) := by decide +kernel
theorem dX5_init_4 : decode cX5_init 4 = .ok (.aload_n 0, 1) := by decide +kernel
theorem dX5_init_5 : decode cX5_init 5 = .ok (.iconst 4, 1) := by decide +kernel
theorem dX5_init_6 : decode cX5_init 6 = .ok (.newarray .int, 2) := by decide +kernel
theorem dX5_init_8 : decode cX5_init 8 = .ok (.putfield 7, 3) := by decide +kernel
theorem dX5_init_11 : decode cX5_init 11 = .ok (.aload_n 0, 1) := by decide +kernel
theorem dX5_init_12 : decode cX5_init 12 = .ok (.iconst 4, 1) := by decide +kernel
theorem dX5_init_13 : decode cX5_init 13 = .ok (.newarray .boolean, 2) := by decide +kernel
theorem dX5_init_15 : decode cX5_init 15 = .ok (.putfield 13, 3) := by decide +kernel
theorem dX5_init_18 : decode cX5_init 18 = .ok (.aload_n 0, 1) := by decide +kernel
theorem dX5_init_19 : decode cX5_init 19 = .ok (.bipush 60, 2) := by decide +kernel
theorem dX5_init_21 : decode cX5_init 21 = .ok (.newarray .int, 2) := by decide +kernel
theorem dX5_init_23 : decode cX5_init 23 = .ok (.putfield 17, 3) := by decide +kernel
theorem dX5_init_26 : decode cX5_init 26 = .ok (.aload_n 0, 1) := by decide +kernel
theorem dX5_init_27 : decode cX5_init 27 = .ok (.bipush 60, 2) := by decide +kernel
theorem dX5_init_29 : decode cX5_init 29 = .ok (.newarray .int, 2) := by decide +kernel
theorem dX5_init_31 : decode cX5_init 31 = .ok (.putfield 20, 3) := by decide +kernel
theorem dX5_init_34 : decode cX5_init 34 = .ok (.aload_n 0, 1) := by decide +kernel
theorem dX5_init_35 : decode cX5_init 35 = .ok (.bipush 60, 2) := by decide +kernel
theorem dX5_init_37 : decode cX5_init 37 = .ok (.newarray .int, 2) := by decide +kernel
theorem dX5_init_39 : decode cX5_init 39 = .ok (.putfield 23, 3) := by decide +kernel
theorem dX5_init_42 : decode cX5_init 42 = .ok (.aload_n 0, 1) := by decide +kernel
theorem dX5_init_43 : decode cX5_init 43 = .ok (.bipush 60, 2) := by decide +kernel
theorem dX5_init_45 : decode cX5_init 45 = .ok (.newarray .int, 2) := by decide +kernel
theorem dX5_init_47 : decode cX5_init 47 = .ok (.putfield 26, 3) := by decide +kernel
theorem dX5_init_50 : decode cX5_init 50 = .ok (.aload_n 0, 1) := by decide +kernel
theorem dX5_init_51 : decode cX5_init 51 = .ok (.iconst (-1), 1) := by decide +kernel
theorem dX5_init_52 : decode cX5_init 52 = .ok (.putfield 29, 3) := by decide +kernel
theorem dX5_init_55 : decode cX5_init 55 = .ok (.aload_n 0, 1) := by decide +kernel
theorem dX5_init_56 : decode cX5_init 56 = .ok (.bipush 40, 2) := by decide +kernel
theorem dX5_init_58 : decode cX5_init 58 = .ok (.newarray .int, 2) := by decide +kernel
theorem dX5_init_60 : decode cX5_init 60 = .ok (.putfield 33, 3) := by decide +kernel
theorem dX5_init_63 : decode cX5_init 63 = .ok (.aload_n 0, 1) := by decide +kernel
theorem dX5_init_64 : decode cX5_init 64 = .ok (.bipush 40, 2) := by decide +kernel
theorem dX5_init_66 : decode cX5_init 66 = .ok (.newarray .int, 2) := by decide +kernel
theorem dX5_init_68 : decode cX5_init 68 = .ok (.putfield 36, 3) := by decide +kernel
theorem dX5_init_71 : decode cX5_init 71 = .ok (.aload_n 0, 1) := by decide +kernel
theorem dX5_init_72 : decode cX5_init 72 = .ok (.bipush 40, 2) := by decide +kernel
theorem dX5_init_74 : decode cX5_init 74 = .ok (.newarray .int, 2) := by decide +kernel
theorem dX5_init_76 : decode cX5_init 76 = .ok (.putfield 39, 3) := by decide +kernel
theorem dX5_init_79 : decode cX5_init 79 = .ok (.aload_n 0, 1) := by decide +kernel
theorem dX5_init_80 : decode cX5_init 80 = .ok (.bipush 40, 2) := by decide +kernel
theorem dX5_init_82 : decode cX5_init 82 = .ok (.newarray .int, 2) := by decide +kernel
theorem dX5_init_84 : decode cX5_init 84 = .ok (.putfield 42, 3) := by decide +kernel
theorem dX5_init_87 : decode cX5_init 87 = .ok (.aload_n 0, 1) := by decide +kernel
theorem dX5_init_88 : decode cX5_init 88 = .ok (.bipush 40, 2) := by decide +kernel
theorem dX5_init_90 : decode cX5_init 90 = .ok (.newarray .boolean, 2) := by decide +kernel
theorem dX5_init_92 : decode cX5_init 92 = .ok (.putfield 45, 3) := by decide +kernel
theorem dX5_init_95 : decode cX5_init 95 = .ok (.aload_n 0, 1) := by decide +kernel
theorem dX5_init_96 : decode cX5_init 96 = .ok (.bipush 40, 2) := by decide +kernel
theorem dX5_init_98 : decode cX5_init 98 = .ok (.bipush 60, 2) := by decide +kernel
theorem dX5_init_100 : decode cX5_init 100 = .ok (.multianewarray 48 2, 4) := by decide +kernel
theorem dX5_init_104 : decode cX5_init 104 = .ok (.putfield 50, 3) := by decide +kernel
theorem dX5_init_107 : decode cX5_init 107 = .ok (.aload_n 0, 1) := by decide +kernel
theorem dX5_init_108 : decode cX5_init 108 = .ok (.sipush 4096, 3) := by decide +kernel
theorem dX5_init_111 : decode cX5_init 111 = .ok (.newarray .int, 2) := by decide +kernel
theorem dX5_init_113 : decode cX5_init 113 = .ok (.putfield 53, 3) := by decide +kernel
theorem dX5_init_116 : decode cX5_init 116 = .ok (.aload_n 0, 1) := by decide +kernel
theorem dX5_init_117 : decode cX5_init 117 = .ok (.sipush 4096, 3) := by decide +kernel
theorem dX5_init_120 : decode cX5_init 120 = .ok (.newarray .int, 2) := by decide +kernel
theorem dX5_init_122 : decode cX5_init 122 = .ok (.putfield 56, 3) := by decide +kernel
theorem dX5_init_125 : decode cX5_init 125 = .ok (.aload_n 0, 1) := by decide +kernel
theorem dX5_init_126 : decode cX5_init 126 = .ok (.bipush 60, 2) := by decide +kernel
theorem dX5_init_128 : decode cX5_init 128 = .ok (.newarray .boolean, 2) := by decide +kernel
theorem dX5_init_130 : decode cX5_init 130 = .ok (.putfield 59, 3) := by decide +kernel
theorem dX5_init_133 : decode cX5_init 133 = .ok (.aload_n 0, 1) := by decide +kernel
theorem dX5_init_134 : decode cX5_init 134 = .ok (.bipush 16, 2) := by decide +kernel
theorem dX5_init_136 : decode cX5_init 136 = .ok (.newarray .int, 2) := by decide +kernel
theorem dX5_init_138 : decode cX5_init 138 = .ok (.putfield 62, 3) := by decide +kernel
theorem dX5_init_141 : decode cX5_init 141 = .ok (.aload_n 0, 1) := by decide +kernel
theorem dX5_init_142 : decode cX5_init 142 = .ok (.bipush 8, 2) := by decide +kernel
theorem dX5_init_144 : decode cX5_init 144 = .ok (.newarray .int, 2) := by decide +kernel
theorem dX5_init_146 : decode cX5_init 146 = .ok (.putfield 65, 3) := by decide +kernel
theorem dX5_init_149 : decode cX5_init 149 = .ok (.aload_n 0, 1) := by decide +kernel
theorem dX5_init_150 : decode cX5_init 150 = .ok (.bipush 60, 2) := by decide +kernel
theorem dX5_init_152 : decode cX5_init 152 = .ok (.newarray .int, 2) := by decide +kernel
theorem dX5_init_154 : decode cX5_init 154 = .ok (.putfield 68, 3) := by decide +kernel
theorem dX5_init_157 : decode cX5_init 157 = .ok (.aload_n 0, 1) := by decide +kernel
theorem dX5_init_158 : decode cX5_init 158 = .ok (.bipush 16, 2) := by decide +kernel
theorem dX5_init_160 : decode cX5_init 160 = .ok (.newarray .int, 2) := by decide +kernel
theorem dX5_init_162 : decode cX5_init 162 = .ok (.putfield 71, 3) := by decide +kernel
theorem dX5_init_165 : decode cX5_init 165 = .ok (.aload_n 0, 1) := by decide +kernel
theorem dX5_init_166 : decode cX5_init 166 = .ok (.bipush 8, 2) := by decide +kernel
theorem dX5_init_168 : decode cX5_init 168 = .ok (.newarray .int, 2) := by decide +kernel
theorem dX5_init_170 : decode cX5_init 170 = .ok (.putfield 74, 3) := by decide +kernel
theorem dX5_init_173 : decode cX5_init 173 = .ok (.return_, 1) := by decide +kernel
theorem dX5_changed_0 : decode cX5_changed 0 = .ok (.aload_n 0, 1) := by decide +kernel
theorem dX5_changed_1 : decode cX5_changed 1 = .ok (.iconst (-1), 1) := by decide +kernel
theorem dX5_changed_2 : decode cX5_changed 2 = .ok (.putfield 29, 3) := by decide +kernel
theorem dX5_changed_5 : decode cX5_changed 5 = .ok (.aload_n 0, 1) := by decide +kernel
theorem dX5_changed_6 : decode cX5_changed 6 = .ok (.iconst 0, 1) := by decide +kernel
theorem dX5_changed_7 : decode cX5_changed 7 = .ok (.putfield 80, 3) := by decide +kernel
theorem dX5_changed_10 : decode cX5_changed 10 = .ok (.return_, 1) := by decide +kernel
theorem dX5_input_0 : decode cX5_input 0 = .ok (.aload_n 0, 1) := by decide +kernel
theorem dX5_input_1 : decode cX5_input 1 = .ok (.getfield 84, 3) := by decide +kernel
theorem dX5_input_4 : decode cX5_input 4 = .ok (.iconst 4, 1) := by decide +kernel
theorem dX5_input_5 : decode cX5_input 5 = .ok (.if_icmp .eq 25, 3) := by decide +kernel
theorem dX5_input_8 : decode cX5_input 8 = .ok (.iload_n 1, 1) := by decide +kernel
theorem dX5_input_9 : decode cX5_input 9 = .ok (.iconst 1, 1) := by decide +kernel
theorem dX5_input_10 : decode cX5_input 10 = .ok (.if_icmp .lt 20, 3) := by decide +kernel
theorem dX5_input_13 : decode cX5_input 13 = .ok (.iload_n 1, 1) := by decide +kernel
theorem dX5_input_14 : decode cX5_input 14 = .ok (.bipush 12, 2) := by decide +kernel
theorem dX5_input_16 : decode cX5_input 16 = .ok (.if_icmp .gt 14, 3) := by decide +kernel
theorem dX5_input_19 : decode cX5_input 19 = .ok (.aload_n 0, 1) := by decide +kernel
theorem dX5_input_20 : decode cX5_input 20 = .ok (.getfield 87, 3) := by decide +kernel
theorem dX5_input_23 : decode cX5_input 23 = .ok (.iload_n 1, 1) := by decide +kernel
theorem dX5_input_24 : decode cX5_input 24 = .ok (.iadd, 1) := by decide +kernel
theorem dX5_input_25 : decode cX5_input 25 = .ok (.bipush 12, 2) := by decide +kernel
theorem dX5_input_27 : decode cX5_input 27 = .ok (.if_icmp .le 5, 3) := by decide +kernel
theorem dX5_input_30 : decode cX5_input 30 = .ok (.iconst (-1), 1) := by decide +kernel
theorem dX5_input_31 : decode cX5_input 31 = .ok (.ireturn, 1) := by decide +kernel
theorem dX5_input_32 : decode cX5_input 32 = .ok (.aload_n 0, 1) := by decide +kernel
theorem dX5_input_33 : decode cX5_input 33 = .ok (.getfield 7, 3) := by decide +kernel
theorem dX5_input_36 : decode cX5_input 36 = .ok (.aload_n 0, 1) := by decide +kernel
theorem dX5_input_37 : decode cX5_input 37 = .ok (.getfield 84, 3) := by decide +kernel
theorem dX5_input_40 : decode cX5_input 40 = .ok (.iload_n 1, 1) := by decide +kernel
theorem dX5_input_41 : decode cX5_input 41 = .ok (.iastore, 1) := by decide +kernel
theorem dX5_input_42 : decode cX5_input 42 = .ok (.aload_n 0, 1) := by decide +kernel
theorem dX5_input_43 : decode cX5_input 43 = .ok (.getfield 13, 3) := by decide +kernel
theorem dX5_input_46 : decode cX5_input 46 = .ok (.aload_n 0, 1) := by decide +kernel
theorem dX5_input_47 : decode cX5_input 47 = .ok (.getfield 84, 3) := by decide +kernel
theorem dX5_input_50 : decode cX5_input 50 = .ok (.iload_n 2, 1) := by decide +kernel
theorem dX5_input_51 : decode cX5_input 51 = .ok (.bastore, 1) := by decide +kernel
theorem dX5_input_52 : decode cX5_input 52 = .ok (.aload_n 0, 1) := by decide +kernel
theorem dX5_input_53 : decode cX5_input 53 = .ok (.dup, 1) := by decide +kernel
theorem dX5_input_54 : decode cX5_input 54 = .ok (.getfield 84, 3) := by decide +kernel
theorem dX5_input_57 : decode cX5_input 57 = .ok (.iconst 1, 1) := by decide +kernel
theorem dX5_input_58 : decode cX5_input 58 = .ok (.iadd, 1) := by decide +kernel
theorem dX5_input_59 : decode cX5_input 59 = .ok (.putfield 84, 3) := by decide +kernel
theorem dX5_input_62 : decode cX5_input 62 = .ok (.aload_n 0, 1) := by decide +kernel
theorem dX5_input_63 : decode cX5_input 63 = .ok (.dup, 1) := by decide +kernel
theorem dX5_input_64 : decode cX5_input 64 = .ok (.getfield 87, 3) := by decide +kernel
theorem dX5_input_67 : decode cX5_input 67 = .ok (.iload_n 1, 1) := by decide +kernel
theorem dX5_input_68 : decode cX5_input 68 = .ok (.iadd, 1) := by decide +kernel
theorem dX5_input_69 : decode cX5_input 69 = .ok (.putfield 87, 3) := by decide +kernel
theorem dX5_input_72 : decode cX5_input 72 = .ok (.aload_n 0, 1) := by decide +kernel
theorem dX5_input_73 : decode cX5_input 73 = .ok (.invokevirtual 90, 3) := by decide +kernel
theorem dX5_input_76 : decode cX5_input 76 = .ok (.aload_n 0, 1) := by decide +kernel
theorem dX5_input_77 : decode cX5_input 77 = .ok (.getfield 84, 3) := by decide +kernel
theorem dX5_input_80 : decode cX5_input 80 = .ok (.iconst 1, 1) := by decide +kernel
theorem dX5_input_81 : decode cX5_input 81 = .ok (.isub, 1) := by decide +kernel
theorem dX5_input_82 : decode cX5_input 82 = .ok (.ireturn, 1) := by decide +kernel
theorem dX5_isRegister_0 : decode cX5_isRegister 0 = .ok (.iload_n 0, 1) := by decide +kernel
theorem dX5_isRegister_1 : decode cX5_isRegister 1 = .ok (.ifCond .lt 13, 3) := by decide +kernel
theorem dX5_isRegister_4 : decode cX5_isRegister 4 = .ok (.iload_n 0, 1) := by decide +kernel
theorem dX5_isRegister_5 : decode cX5_isRegister 5 = .ok (.bipush 16, 2) := by decide +kernel
theorem dX5_isRegister_7 : decode cX5_isRegister 7 = .ok (.if_icmp .ge 7, 3) := by decide +kernel
theorem dX5_isRegister_10 : decode cX5_isRegister 10 = .ok (.iconst 1, 1) := by decide +kernel
theorem dX5_isRegister_11 : decode cX5_isRegister 11 = .ok (.goto 4, 3) := by decide +kernel
theorem dX5_isRegister_14 : decode cX5_isRegister 14 = .ok (.iconst 0, 1) := by decide +kernel
theorem dX5_isRegister_15 : decode cX5_isRegister 15 = .ok (.ireturn, 1) := by decide +kernel
theorem dX5_isTarget_0 : decode cX5_isTarget 0 = .ok (.iload_n 1, 1) := by decide +kernel
theorem dX5_isTarget_1 : decode cX5_isTarget 1 = .ok (.aload_n 0, 1) := by decide +kernel
theorem dX5_isTarget_2 : decode cX5_isTarget 2 = .ok (.getfield 93, 3) := by decide +kernel
theorem dX5_isTarget_5 : decode cX5_isTarget 5 = .ok (.if_icmp .le 13, 3) := by decide +kernel
theorem dX5_isTarget_8 : decode cX5_isTarget 8 = .ok (.iload_n 1, 1) := by decide +kernel
theorem dX5_isTarget_9 : decode cX5_isTarget 9 = .ok (.bipush 60, 2) := by decide +kernel
theorem dX5_isTarget_11 : decode cX5_isTarget 11 = .ok (.if_icmp .gt 7, 3) := by decide +kernel
theorem dX5_isTarget_14 : decode cX5_isTarget 14 = .ok (.iconst 1, 1) := by decide +kernel
theorem dX5_isTarget_15 : decode cX5_isTarget 15 = .ok (.goto 4, 3) := by decide +kernel
theorem dX5_isTarget_18 : decode cX5_isTarget 18 = .ok (.iconst 0, 1) := by decide +kernel
theorem dX5_isTarget_19 : decode cX5_isTarget 19 = .ok (.ireturn, 1) := by decide +kernel
theorem dX5_isGood_0 : decode cX5_isGood 0 = .ok (.iload_n 1, 1) := by decide +kernel
theorem dX5_isGood_1 : decode cX5_isGood 1 = .ok (.ifCond .lt 9, 3) := by decide +kernel
theorem dX5_isGood_4 : decode cX5_isGood 4 = .ok (.iload_n 1, 1) := by decide +kernel
theorem dX5_isGood_5 : decode cX5_isGood 5 = .ok (.bipush 31, 2) := by decide +kernel
theorem dX5_isGood_7 : decode cX5_isGood 7 = .ok (.if_icmp .le 5, 3) := by decide +kernel
theorem dX5_isGood_10 : decode cX5_isGood 10 = .ok (.iconst 0, 1) := by decide +kernel
theorem dX5_isGood_11 : decode cX5_isGood 11 = .ok (.ireturn, 1) := by decide +kernel
theorem dX5_isGood_12 : decode cX5_isGood 12 = .ok (.iload_n 1, 1) := by decide +kernel
theorem dX5_isGood_13 : decode cX5_isGood 13 = .ok (.ifCond .ne 8, 3) := by decide +kernel
theorem dX5_isGood_16 : decode cX5_isGood 16 = .ok (.iload_n 2, 1) := by decide +kernel
theorem dX5_isGood_17 : decode cX5_isGood 17 = .ok (.invokestatic 96, 3) := by decide +kernel
theorem dX5_isGood_20 : decode cX5_isGood 20 = .ok (.ireturn, 1) := by decide +kernel
theorem dX5_isGood_21 : decode cX5_isGood 21 = .ok (.iload_n 1, 1) := by decide +kernel
theorem dX5_isGood_22 : decode cX5_isGood 22 = .ok (.iconst 1, 1) := by decide +kernel
theorem dX5_isGood_23 : decode cX5_isGood 23 = .ok (.if_icmp .ne 28, 3) := by decide +kernel
theorem dX5_isGood_26 : decode cX5_isGood 26 = .ok (.iload_n 2, 1) := by decide +kernel
theorem dX5_isGood_27 : decode cX5_isGood 27 = .ok (.invokestatic 96, 3) := by decide +kernel
theorem dX5_isGood_30 : decode cX5_isGood 30 = .ok (.ifCond .eq 19, 3) := by decide +kernel
theorem dX5_isGood_33 : decode cX5_isGood 33 = .ok (.iload_n 3, 1) := by decide +kernel
theorem dX5_isGood_34 : decode cX5_isGood 34 = .ok (.ifCond .lt 15, 3) := by decide +kernel
theorem dX5_isGood_37 : decode cX5_isGood 37 = .ok (.iload_n 3, 1) := by decide +kernel
theorem dX5_isGood_38 : decode cX5_isGood 38 = .ok (.aload_n 0, 1) := by decide +kernel
theorem dX5_isGood_39 : decode cX5_isGood 39 = .ok (.getfield 84, 3) := by decide +kernel
theorem dX5_isGood_42 : decode cX5_isGood 42 = .ok (.if_icmp .ge 7, 3) := by decide +kernel
theorem dX5_isGood_45 : decode cX5_isGood 45 = .ok (.iconst 1, 1) := by decide +kernel
theorem dX5_isGood_46 : decode cX5_isGood 46 = .ok (.goto 4, 3) := by decide +kernel
theorem dX5_isGood_49 : decode cX5_isGood 49 = .ok (.iconst 0, 1) := by decide +kernel
theorem dX5_isGood_50 : decode cX5_isGood 50 = .ok (.ireturn, 1) := by decide +kernel
theorem dX5_isGood_51 : decode cX5_isGood 51 = .ok (.iload_n 1, 1) := by decide +kernel
theorem dX5_isGood_52 : decode cX5_isGood 52 = .ok (.iconst 3, 1) := by decide +kernel
theorem dX5_isGood_53 : decode cX5_isGood 53 = .ok (.if_icmp .lt 9, 3) := by decide +kernel
theorem dX5_isGood_56 : decode cX5_isGood 56 = .ok (.iload_n 1, 1) := by decide +kernel
theorem dX5_isGood_57 : decode cX5_isGood 57 = .ok (.bipush 21, 2) := by decide +kernel
theorem dX5_isGood_59 : decode cX5_isGood 59 = .ok (.if_icmp .le 9, 3) := by decide +kernel
theorem dX5_isGood_62 : decode cX5_isGood 62 = .ok (.iload_n 1, 1) := by decide +kernel
theorem dX5_isGood_63 : decode cX5_isGood 63 = .ok (.bipush 24, 2) := by decide +kernel
theorem dX5_isGood_65 : decode cX5_isGood 65 = .ok (.if_icmp .ne 31, 3) := by decide +kernel
theorem dX5_isGood_68 : decode cX5_isGood 68 = .ok (.iload_n 2, 1) := by decide +kernel
theorem dX5_isGood_69 : decode cX5_isGood 69 = .ok (.invokestatic 96, 3) := by decide +kernel
theorem dX5_isGood_72 : decode cX5_isGood 72 = .ok (.ifCond .eq 22, 3) := by decide +kernel
theorem dX5_isGood_75 : decode cX5_isGood 75 = .ok (.iload_n 3, 1) := by decide +kernel
theorem dX5_isGood_76 : decode cX5_isGood 76 = .ok (.invokestatic 96, 3) := by decide +kernel
theorem dX5_isGood_79 : decode cX5_isGood 79 = .ok (.ifCond .eq 15, 3) := by decide +kernel
theorem dX5_isGood_82 : decode cX5_isGood 82 = .ok (.iload 4, 2) := by decide +kernel
theorem dX5_isGood_84 : decode cX5_isGood 84 = .ok (.invokestatic 96, 3) := by decide +kernel
theorem dX5_isGood_87 : decode cX5_isGood 87 = .ok (.ifCond .eq 7, 3) := by decide +kernel
theorem dX5_isGood_90 : decode cX5_isGood 90 = .ok (.iconst 1, 1) := by decide +kernel
theorem dX5_isGood_91 : decode cX5_isGood 91 = .ok (.goto 4, 3) := by decide +kernel
theorem dX5_isGood_94 : decode cX5_isGood 94 = .ok (.iconst 0, 1) := by decide +kernel
theorem dX5_isGood_95 : decode cX5_isGood 95 = .ok (.ireturn, 1) := by decide +kernel
theorem dX5_isGood_96 : decode cX5_isGood 96 = .ok (.iload_n 1, 1) := by decide +kernel
theorem dX5_isGood_97 : decode cX5_isGood 97 = .ok (.bipush 26, 2) := by decide +kernel
theorem dX5_isGood_99 : decode cX5_isGood 99 = .ok (.if_icmp .gt 23, 3) := by decide +kernel
theorem dX5_isGood_102 : decode cX5_isGood 102 = .ok (.iload_n 2, 1) := by decide +kernel
theorem dX5_isGood_103 : decode cX5_isGood 103 = .ok (.invokestatic 96, 3) := by decide +kernel
theorem dX5_isGood_106 : decode cX5_isGood 106 = .ok (.ifCond .eq 14, 3) := by decide +kernel
theorem dX5_isGood_109 : decode cX5_isGood 109 = .ok (.iload_n 3, 1) := by decide +kernel
theorem dX5_isGood_110 : decode cX5_isGood 110 = .ok (.invokestatic 96, 3) := by decide +kernel
theorem dX5_isGood_113 : decode cX5_isGood 113 = .ok (.ifCond .eq 7, 3) := by decide +kernel
theorem dX5_isGood_116 : decode cX5_isGood 116 = .ok (.iconst 1, 1) := by decide +kernel
theorem dX5_isGood_117 : decode cX5_isGood 117 = .ok (.goto 4, 3) := by decide +kernel
theorem dX5_isGood_120 : decode cX5_isGood 120 = .ok (.iconst 0, 1) := by decide +kernel
theorem dX5_isGood_121 : decode cX5_isGood 121 = .ok (.ireturn, 1) := by decide +kernel
theorem dX5_isGood_122 : decode cX5_isGood 122 = .ok (.iload_n 1, 1) := by decide +kernel
theorem dX5_isGood_123 : decode cX5_isGood 123 = .ok (.bipush 27, 2) := by decide +kernel
theorem dX5_isGood_125 : decode cX5_isGood 125 = .ok (.if_icmp .ne 24, 3) := by decide +kernel
theorem dX5_isGood_128 : decode cX5_isGood 128 = .ok (.iload_n 2, 1) := by decide +kernel
theorem dX5_isGood_129 : decode cX5_isGood 129 = .ok (.invokestatic 96, 3) := by decide +kernel
theorem dX5_isGood_132 : decode cX5_isGood 132 = .ok (.ifCond .eq 15, 3) := by decide +kernel
theorem dX5_isGood_135 : decode cX5_isGood 135 = .ok (.aload_n 0, 1) := by decide +kernel
theorem dX5_isGood_136 : decode cX5_isGood 136 = .ok (.iload_n 3, 1) := by decide +kernel
theorem dX5_isGood_137 : decode cX5_isGood 137 = .ok (.invokevirtual 100, 3) := by decide +kernel
theorem dX5_isGood_140 : decode cX5_isGood 140 = .ok (.ifCond .eq 7, 3) := by decide +kernel
theorem dX5_isGood_143 : decode cX5_isGood 143 = .ok (.iconst 1, 1) := by decide +kernel
theorem dX5_isGood_144 : decode cX5_isGood 144 = .ok (.goto 4, 3) := by decide +kernel
theorem dX5_isGood_147 : decode cX5_isGood 147 = .ok (.iconst 0, 1) := by decide +kernel
theorem dX5_isGood_148 : decode cX5_isGood 148 = .ok (.ireturn, 1) := by decide +kernel
theorem dX5_isGood_149 : decode cX5_isGood 149 = .ok (.iload_n 1, 1) := by decide +kernel
theorem dX5_isGood_150 : decode cX5_isGood 150 = .ok (.bipush 28, 2) := by decide +kernel
theorem dX5_isGood_152 : decode cX5_isGood 152 = .ok (.if_icmp .ne 9, 3) := by decide +kernel
theorem dX5_isGood_155 : decode cX5_isGood 155 = .ok (.aload_n 0, 1) := by decide +kernel
theorem dX5_isGood_156 : decode cX5_isGood 156 = .ok (.iload_n 2, 1) := by decide +kernel
theorem dX5_isGood_157 : decode cX5_isGood 157 = .ok (.invokevirtual 100, 3) := by decide +kernel
theorem dX5_isGood_160 : decode cX5_isGood 160 = .ok (.ireturn, 1) := by decide +kernel
theorem dX5_isGood_161 : decode cX5_isGood 161 = .ok (.iload_n 1, 1) := by decide +kernel
theorem dX5_isGood_162 : decode cX5_isGood 162 = .ok (.bipush 30, 2) := by decide +kernel
theorem dX5_isGood_164 : decode cX5_isGood 164 = .ok (.if_icmp .ne 22, 3) := by decide +kernel
theorem dX5_isGood_167 : decode cX5_isGood 167 = .ok (.iload_n 2, 1) := by decide +kernel
theorem dX5_isGood_168 : decode cX5_isGood 168 = .ok (.ifCond .lt 14, 3) := by decide +kernel
theorem dX5_isGood_171 : decode cX5_isGood 171 = .ok (.iload_n 2, 1) := by decide +kernel
theorem dX5_isGood_172 : decode cX5_isGood 172 = .ok (.sipush 255, 3) := by decide +kernel
theorem dX5_isGood_175 : decode cX5_isGood 175 = .ok (.if_icmp .gt 7, 3) := by decide +kernel
theorem dX5_isGood_178 : decode cX5_isGood 178 = .ok (.iconst 1, 1) := by decide +kernel
theorem dX5_isGood_179 : decode cX5_isGood 179 = .ok (.goto 11, 3) := by decide +kernel
theorem dX5_isGood_182 : decode cX5_isGood 182 = .ok (.iconst 0, 1) := by decide +kernel
theorem dX5_isGood_183 : decode cX5_isGood 183 = .ok (.goto 7, 3) := by decide +kernel
theorem dX5_isGood_186 : decode cX5_isGood 186 = .ok (.iload_n 2, 1) := by decide +kernel
theorem dX5_isGood_187 : decode cX5_isGood 187 = .ok (.invokestatic 96, 3) := by decide +kernel
theorem dX5_isGood_190 : decode cX5_isGood 190 = .ok (.ireturn, 1) := by decide +kernel
theorem dX5_isDivision_0 : decode cX5_isDivision 0 = .ok (.iload_n 0, 1) := by decide +kernel
theorem dX5_isDivision_1 : decode cX5_isDivision 1 = .ok (.bipush 12, 2) := by decide +kernel
theorem dX5_isDivision_3 : decode cX5_isDivision 3 = .ok (.if_icmp .lt 13, 3) := by decide +kernel
theorem dX5_isDivision_6 : decode cX5_isDivision 6 = .ok (.iload_n 0, 1) := by decide +kernel
theorem dX5_isDivision_7 : decode cX5_isDivision 7 = .ok (.bipush 15, 2) := by decide +kernel
theorem dX5_isDivision_9 : decode cX5_isDivision 9 = .ok (.if_icmp .gt 7, 3) := by decide +kernel
theorem dX5_isDivision_12 : decode cX5_isDivision 12 = .ok (.iconst 1, 1) := by decide +kernel
theorem dX5_isDivision_13 : decode cX5_isDivision 13 = .ok (.goto 4, 3) := by decide +kernel
theorem dX5_isDivision_16 : decode cX5_isDivision 16 = .ok (.iconst 0, 1) := by decide +kernel
theorem dX5_isDivision_17 : decode cX5_isDivision 17 = .ok (.ireturn, 1) := by decide +kernel
theorem dX5_tell_0 : decode cX5_tell 0 = .ok (.aload_n 0, 1) := by decide +kernel
theorem dX5_tell_1 : decode cX5_tell 1 = .ok (.iload_n 1, 1) := by decide +kernel
theorem dX5_tell_2 : decode cX5_tell 2 = .ok (.iload_n 2, 1) := by decide +kernel
theorem dX5_tell_3 : decode cX5_tell 3 = .ok (.iload_n 3, 1) := by decide +kernel
theorem dX5_tell_4 : decode cX5_tell 4 = .ok (.iload 4, 2) := by decide +kernel
theorem dX5_tell_6 : decode cX5_tell 6 = .ok (.invokevirtual 103, 3) := by decide +kernel
theorem dX5_tell_9 : decode cX5_tell 9 = .ok (.ifCond .eq 42, 3) := by decide +kernel
theorem dX5_tell_12 : decode cX5_tell 12 = .ok (.aload_n 0, 1) := by decide +kernel
theorem dX5_tell_13 : decode cX5_tell 13 = .ok (.getfield 93, 3) := by decide +kernel
theorem dX5_tell_16 : decode cX5_tell 16 = .ok (.bipush 60, 2) := by decide +kernel
theorem dX5_tell_18 : decode cX5_tell 18 = .ok (.if_icmp .eq 33, 3) := by decide +kernel
theorem dX5_tell_21 : decode cX5_tell 21 = .ok (.iload_n 1, 1) := by decide +kernel
theorem dX5_tell_22 : decode cX5_tell 22 = .ok (.iconst 5, 1) := by decide +kernel
theorem dX5_tell_23 : decode cX5_tell 23 = .ok (.if_icmp .ne 12, 3) := by decide +kernel
theorem dX5_tell_26 : decode cX5_tell 26 = .ok (.aload_n 0, 1) := by decide +kernel
theorem dX5_tell_27 : decode cX5_tell 27 = .ok (.getfield 107, 3) := by decide +kernel
theorem dX5_tell_30 : decode cX5_tell 30 = .ok (.bipush 6, 2) := by decide +kernel
theorem dX5_tell_32 : decode cX5_tell 32 = .ok (.if_icmp .eq 19, 3) := by decide +kernel
theorem dX5_tell_35 : decode cX5_tell 35 = .ok (.iload_n 1, 1) := by decide +kernel
theorem dX5_tell_36 : decode cX5_tell 36 = .ok (.invokestatic 110, 3) := by decide +kernel
theorem dX5_tell_39 : decode cX5_tell 39 = .ok (.ifCond .eq 14, 3) := by decide +kernel
theorem dX5_tell_42 : decode cX5_tell 42 = .ok (.aload_n 0, 1) := by decide +kernel
theorem dX5_tell_43 : decode cX5_tell 43 = .ok (.getfield 113, 3) := by decide +kernel
theorem dX5_tell_46 : decode cX5_tell 46 = .ok (.bipush 6, 2) := by decide +kernel
theorem dX5_tell_48 : decode cX5_tell 48 = .ok (.if_icmp .ne 5, 3) := by decide +kernel
theorem dX5_tell_51 : decode cX5_tell 51 = .ok (.iconst (-1), 1) := by decide +kernel
theorem dX5_tell_52 : decode cX5_tell 52 = .ok (.ireturn, 1) := by decide +kernel
theorem dX5_tell_53 : decode cX5_tell 53 = .ok (.aload_n 0, 1) := by decide +kernel
theorem dX5_tell_54 : decode cX5_tell 54 = .ok (.getfield 17, 3) := by decide +kernel
theorem dX5_tell_57 : decode cX5_tell 57 = .ok (.aload_n 0, 1) := by decide +kernel
theorem dX5_tell_58 : decode cX5_tell 58 = .ok (.getfield 93, 3) := by decide +kernel
theorem dX5_tell_61 : decode cX5_tell 61 = .ok (.iload_n 1, 1) := by decide +kernel
theorem dX5_tell_62 : decode cX5_tell 62 = .ok (.iastore, 1) := by decide +kernel
theorem dX5_tell_63 : decode cX5_tell 63 = .ok (.aload_n 0, 1) := by decide +kernel
theorem dX5_tell_64 : decode cX5_tell 64 = .ok (.getfield 20, 3) := by decide +kernel
theorem dX5_tell_67 : decode cX5_tell 67 = .ok (.aload_n 0, 1) := by decide +kernel
theorem dX5_tell_68 : decode cX5_tell 68 = .ok (.getfield 93, 3) := by decide +kernel
theorem dX5_tell_71 : decode cX5_tell 71 = .ok (.iload_n 2, 1) := by decide +kernel
theorem dX5_tell_72 : decode cX5_tell 72 = .ok (.iastore, 1) := by decide +kernel
theorem dX5_tell_73 : decode cX5_tell 73 = .ok (.aload_n 0, 1) := by decide +kernel
theorem dX5_tell_74 : decode cX5_tell 74 = .ok (.getfield 23, 3) := by decide +kernel
theorem dX5_tell_77 : decode cX5_tell 77 = .ok (.aload_n 0, 1) := by decide +kernel
theorem dX5_tell_78 : decode cX5_tell 78 = .ok (.getfield 93, 3) := by decide +kernel
theorem dX5_tell_81 : decode cX5_tell 81 = .ok (.iload_n 3, 1) := by decide +kernel
theorem dX5_tell_82 : decode cX5_tell 82 = .ok (.iastore, 1) := by decide +kernel
theorem dX5_tell_83 : decode cX5_tell 83 = .ok (.aload_n 0, 1) := by decide +kernel
theorem dX5_tell_84 : decode cX5_tell 84 = .ok (.getfield 26, 3) := by decide +kernel
theorem dX5_tell_87 : decode cX5_tell 87 = .ok (.aload_n 0, 1) := by decide +kernel
theorem dX5_tell_88 : decode cX5_tell 88 = .ok (.getfield 93, 3) := by decide +kernel
theorem dX5_tell_91 : decode cX5_tell 91 = .ok (.iload 4, 2) := by decide +kernel
theorem dX5_tell_93 : decode cX5_tell 93 = .ok (.iastore, 1) := by decide +kernel
theorem dX5_tell_94 : decode cX5_tell 94 = .ok (.aload_n 0, 1) := by decide +kernel
theorem dX5_tell_95 : decode cX5_tell 95 = .ok (.dup, 1) := by decide +kernel
theorem dX5_tell_96 : decode cX5_tell 96 = .ok (.getfield 107, 3) := by decide +kernel
theorem dX5_tell_99 : decode cX5_tell 99 = .ok (.iload_n 1, 1) := by decide +kernel
theorem dX5_tell_100 : decode cX5_tell 100 = .ok (.iconst 5, 1) := by decide +kernel
theorem dX5_tell_101 : decode cX5_tell 101 = .ok (.if_icmp .ne 7, 3) := by decide +kernel
theorem dX5_tell_104 : decode cX5_tell 104 = .ok (.iconst 1, 1) := by decide +kernel
theorem dX5_tell_105 : decode cX5_tell 105 = .ok (.goto 4, 3) := by decide +kernel
theorem dX5_tell_108 : decode cX5_tell 108 = .ok (.iconst 0, 1) := by decide +kernel
theorem dX5_tell_109 : decode cX5_tell 109 = .ok (.iadd, 1) := by decide +kernel
theorem dX5_tell_110 : decode cX5_tell 110 = .ok (.putfield 107, 3) := by decide +kernel
theorem dX5_tell_113 : decode cX5_tell 113 = .ok (.aload_n 0, 1) := by decide +kernel
theorem dX5_tell_114 : decode cX5_tell 114 = .ok (.dup, 1) := by decide +kernel
theorem dX5_tell_115 : decode cX5_tell 115 = .ok (.getfield 113, 3) := by decide +kernel
theorem dX5_tell_118 : decode cX5_tell 118 = .ok (.iload_n 1, 1) := by decide +kernel
theorem dX5_tell_119 : decode cX5_tell 119 = .ok (.invokestatic 110, 3) := by decide +kernel
theorem dX5_tell_122 : decode cX5_tell 122 = .ok (.ifCond .eq 7, 3) := by decide +kernel
theorem dX5_tell_125 : decode cX5_tell 125 = .ok (.iconst 1, 1) := by decide +kernel
theorem dX5_tell_126 : decode cX5_tell 126 = .ok (.goto 4, 3) := by decide +kernel
theorem dX5_tell_129 : decode cX5_tell 129 = .ok (.iconst 0, 1) := by decide +kernel
theorem dX5_tell_130 : decode cX5_tell 130 = .ok (.iadd, 1) := by decide +kernel
theorem dX5_tell_131 : decode cX5_tell 131 = .ok (.putfield 113, 3) := by decide +kernel
theorem dX5_tell_134 : decode cX5_tell 134 = .ok (.aload_n 0, 1) := by decide +kernel
theorem dX5_tell_135 : decode cX5_tell 135 = .ok (.dup, 1) := by decide +kernel
theorem dX5_tell_136 : decode cX5_tell 136 = .ok (.getfield 93, 3) := by decide +kernel
theorem dX5_tell_139 : decode cX5_tell 139 = .ok (.iconst 1, 1) := by decide +kernel
theorem dX5_tell_140 : decode cX5_tell 140 = .ok (.iadd, 1) := by decide +kernel
theorem dX5_tell_141 : decode cX5_tell 141 = .ok (.putfield 93, 3) := by decide +kernel
theorem dX5_tell_144 : decode cX5_tell 144 = .ok (.aload_n 0, 1) := by decide +kernel
theorem dX5_tell_145 : decode cX5_tell 145 = .ok (.invokevirtual 90, 3) := by decide +kernel
theorem dX5_tell_148 : decode cX5_tell 148 = .ok (.aload_n 0, 1) := by decide +kernel
theorem dX5_tell_149 : decode cX5_tell 149 = .ok (.getfield 93, 3) := by decide +kernel
theorem dX5_tell_152 : decode cX5_tell 152 = .ok (.iconst 1, 1) := by decide +kernel
theorem dX5_tell_153 : decode cX5_tell 153 = .ok (.isub, 1) := by decide +kernel
theorem dX5_tell_154 : decode cX5_tell 154 = .ok (.ireturn, 1) := by decide +kernel
theorem dX5_clear_0 : decode cX5_clear 0 = .ok (.aload_n 0, 1) := by decide +kernel
theorem dX5_clear_1 : decode cX5_clear 1 = .ok (.getfield 93, 3) := by decide +kernel
theorem dX5_clear_4 : decode cX5_clear 4 = .ok (.istore_n 1, 1) := by decide +kernel
theorem dX5_clear_5 : decode cX5_clear 5 = .ok (.aload_n 0, 1) := by decide +kernel
theorem dX5_clear_6 : decode cX5_clear 6 = .ok (.iconst 0, 1) := by decide +kernel
theorem dX5_clear_7 : decode cX5_clear 7 = .ok (.putfield 84, 3) := by decide +kernel
theorem dX5_clear_10 : decode cX5_clear 10 = .ok (.aload_n 0, 1) := by decide +kernel
theorem dX5_clear_11 : decode cX5_clear 11 = .ok (.iconst 0, 1) := by decide +kernel
theorem dX5_clear_12 : decode cX5_clear 12 = .ok (.putfield 87, 3) := by decide +kernel
theorem dX5_clear_15 : decode cX5_clear 15 = .ok (.aload_n 0, 1) := by decide +kernel
theorem dX5_clear_16 : decode cX5_clear 16 = .ok (.iconst 0, 1) := by decide +kernel
theorem dX5_clear_17 : decode cX5_clear 17 = .ok (.putfield 93, 3) := by decide +kernel
theorem dX5_clear_20 : decode cX5_clear 20 = .ok (.aload_n 0, 1) := by decide +kernel
theorem dX5_clear_21 : decode cX5_clear 21 = .ok (.iconst 0, 1) := by decide +kernel
theorem dX5_clear_22 : decode cX5_clear 22 = .ok (.putfield 107, 3) := by decide +kernel
theorem dX5_clear_25 : decode cX5_clear 25 = .ok (.aload_n 0, 1) := by decide +kernel
theorem dX5_clear_26 : decode cX5_clear 26 = .ok (.iconst 0, 1) := by decide +kernel
theorem dX5_clear_27 : decode cX5_clear 27 = .ok (.putfield 113, 3) := by decide +kernel
theorem dX5_clear_30 : decode cX5_clear 30 = .ok (.aload_n 0, 1) := by decide +kernel
theorem dX5_clear_31 : decode cX5_clear 31 = .ok (.iconst 0, 1) := by decide +kernel
theorem dX5_clear_32 : decode cX5_clear 32 = .ok (.putfield 116, 3) := by decide +kernel
theorem dX5_clear_35 : decode cX5_clear 35 = .ok (.aload_n 0, 1) := by decide +kernel
theorem dX5_clear_36 : decode cX5_clear 36 = .ok (.invokevirtual 90, 3) := by decide +kernel
theorem dX5_clear_39 : decode cX5_clear 39 = .ok (.iload_n 1, 1) := by decide +kernel
theorem dX5_clear_40 : decode cX5_clear 40 = .ok (.ireturn, 1) := by decide +kernel
theorem dX5_words_0 : decode cX5_words 0 = .ok (.iconst 1, 1) := by decide +kernel
theorem dX5_words_1 : decode cX5_words 1 = .ok (.aload_n 0, 1) := by decide +kernel
theorem dX5_words_2 : decode cX5_words 2 = .ok (.getfield 87, 3) := by decide +kernel
theorem dX5_words_5 : decode cX5_words 5 = .ok (.ishl, 1) := by decide +kernel
theorem dX5_words_6 : decode cX5_words 6 = .ok (.ireturn, 1) := by decide +kernel
theorem dX5_inputOf_0 : decode cX5_inputOf 0 = .ok (.iconst 0, 1) := by decide +kernel
theorem dX5_inputOf_1 : decode cX5_inputOf 1 = .ok (.istore_n 3, 1) := by decide +kernel
theorem dX5_inputOf_2 : decode cX5_inputOf 2 = .ok (.iload_n 2, 1) := by decide +kernel
theorem dX5_inputOf_3 : decode cX5_inputOf 3 = .ok (.iconst 1, 1) := by decide +kernel
theorem dX5_inputOf_4 : decode cX5_inputOf 4 = .ok (.iadd, 1) := by decide +kernel
theorem dX5_inputOf_5 : decode cX5_inputOf 5 = .ok (.istore 4, 2) := by decide +kernel
theorem dX5_inputOf_7 : decode cX5_inputOf 7 = .ok (.iload 4, 2) := by decide +kernel
theorem dX5_inputOf_9 : decode cX5_inputOf 9 = .ok (.aload_n 0, 1) := by decide +kernel
theorem dX5_inputOf_10 : decode cX5_inputOf 10 = .ok (.getfield 84, 3) := by decide +kernel
theorem dX5_inputOf_13 : decode cX5_inputOf 13 = .ok (.if_icmp .ge 19, 3) := by decide +kernel
theorem dX5_inputOf_16 : decode cX5_inputOf 16 = .ok (.iload_n 3, 1) := by decide +kernel
theorem dX5_inputOf_17 : decode cX5_inputOf 17 = .ok (.aload_n 0, 1) := by decide +kernel
theorem dX5_inputOf_18 : decode cX5_inputOf 18 = .ok (.getfield 7, 3) := by decide +kernel
theorem dX5_inputOf_21 : decode cX5_inputOf 21 = .ok (.iload 4, 2) := by decide +kernel
theorem dX5_inputOf_23 : decode cX5_inputOf 23 = .ok (.iaload, 1) := by decide +kernel
theorem dX5_inputOf_24 : decode cX5_inputOf 24 = .ok (.iadd, 1) := by decide +kernel
theorem dX5_inputOf_25 : decode cX5_inputOf 25 = .ok (.istore_n 3, 1) := by decide +kernel
theorem dX5_inputOf_26 : decode cX5_inputOf 26 = .ok (.iinc 4 1, 3) := by decide +kernel
theorem dX5_inputOf_29 : decode cX5_inputOf 29 = .ok (.goto (-22), 3) := by decide +kernel
theorem dX5_inputOf_32 : decode cX5_inputOf 32 = .ok (.iload_n 1, 1) := by decide +kernel
theorem dX5_inputOf_33 : decode cX5_inputOf 33 = .ok (.iload_n 3, 1) := by decide +kernel
theorem dX5_inputOf_34 : decode cX5_inputOf 34 = .ok (.ishr, 1) := by decide +kernel
theorem dX5_inputOf_35 : decode cX5_inputOf 35 = .ok (.iconst 1, 1) := by decide +kernel
theorem dX5_inputOf_36 : decode cX5_inputOf 36 = .ok (.aload_n 0, 1) := by decide +kernel
theorem dX5_inputOf_37 : decode cX5_inputOf 37 = .ok (.getfield 7, 3) := by decide +kernel
theorem dX5_inputOf_40 : decode cX5_inputOf 40 = .ok (.iload_n 2, 1) := by decide +kernel
theorem dX5_inputOf_41 : decode cX5_inputOf 41 = .ok (.iaload, 1) := by decide +kernel
theorem dX5_inputOf_42 : decode cX5_inputOf 42 = .ok (.ishl, 1) := by decide +kernel
theorem dX5_inputOf_43 : decode cX5_inputOf 43 = .ok (.iconst 1, 1) := by decide +kernel
theorem dX5_inputOf_44 : decode cX5_inputOf 44 = .ok (.isub, 1) := by decide +kernel
theorem dX5_inputOf_45 : decode cX5_inputOf 45 = .ok (.iand, 1) := by decide +kernel
theorem dX5_inputOf_46 : decode cX5_inputOf 46 = .ok (.istore 4, 2) := by decide +kernel
theorem dX5_inputOf_48 : decode cX5_inputOf 48 = .ok (.aload_n 0, 1) := by decide +kernel
theorem dX5_inputOf_49 : decode cX5_inputOf 49 = .ok (.getfield 13, 3) := by decide +kernel
theorem dX5_inputOf_52 : decode cX5_inputOf 52 = .ok (.iload_n 2, 1) := by decide +kernel
theorem dX5_inputOf_53 : decode cX5_inputOf 53 = .ok (.baload, 1) := by decide +kernel
theorem dX5_inputOf_54 : decode cX5_inputOf 54 = .ok (.ifCond .eq 32, 3) := by decide +kernel
theorem dX5_inputOf_57 : decode cX5_inputOf 57 = .ok (.iload 4, 2) := by decide +kernel
theorem dX5_inputOf_59 : decode cX5_inputOf 59 = .ok (.aload_n 0, 1) := by decide +kernel
theorem dX5_inputOf_60 : decode cX5_inputOf 60 = .ok (.getfield 7, 3) := by decide +kernel
theorem dX5_inputOf_63 : decode cX5_inputOf 63 = .ok (.iload_n 2, 1) := by decide +kernel
theorem dX5_inputOf_64 : decode cX5_inputOf 64 = .ok (.iaload, 1) := by decide +kernel
theorem dX5_inputOf_65 : decode cX5_inputOf 65 = .ok (.iconst 1, 1) := by decide +kernel
theorem dX5_inputOf_66 : decode cX5_inputOf 66 = .ok (.isub, 1) := by decide +kernel
theorem dX5_inputOf_67 : decode cX5_inputOf 67 = .ok (.ishr, 1) := by decide +kernel
theorem dX5_inputOf_68 : decode cX5_inputOf 68 = .ok (.iconst 1, 1) := by decide +kernel
theorem dX5_inputOf_69 : decode cX5_inputOf 69 = .ok (.if_icmp .ne 17, 3) := by decide +kernel
theorem dX5_inputOf_72 : decode cX5_inputOf 72 = .ok (.iload 4, 2) := by decide +kernel
theorem dX5_inputOf_74 : decode cX5_inputOf 74 = .ok (.iconst 1, 1) := by decide +kernel
theorem dX5_inputOf_75 : decode cX5_inputOf 75 = .ok (.aload_n 0, 1) := by decide +kernel
theorem dX5_inputOf_76 : decode cX5_inputOf 76 = .ok (.getfield 7, 3) := by decide +kernel
theorem dX5_inputOf_79 : decode cX5_inputOf 79 = .ok (.iload_n 2, 1) := by decide +kernel
theorem dX5_inputOf_80 : decode cX5_inputOf 80 = .ok (.iaload, 1) := by decide +kernel
theorem dX5_inputOf_81 : decode cX5_inputOf 81 = .ok (.ishl, 1) := by decide +kernel
theorem dX5_inputOf_82 : decode cX5_inputOf 82 = .ok (.isub, 1) := by decide +kernel
theorem dX5_inputOf_83 : decode cX5_inputOf 83 = .ok (.goto 5, 3) := by decide +kernel
theorem dX5_inputOf_86 : decode cX5_inputOf 86 = .ok (.iload 4, 2) := by decide +kernel
theorem dX5_inputOf_88 : decode cX5_inputOf 88 = .ok (.ireturn, 1) := by decide +kernel
theorem dX5_isBelow_0 : decode cX5_isBelow 0 = .ok (.iload_n 0, 1) := by decide +kernel
theorem dX5_isBelow_1 : decode cX5_isBelow 1 = .ok (.ldc 121, 2) := by decide +kernel
theorem dX5_isBelow_3 : decode cX5_isBelow 3 = .ok (.iadd, 1) := by decide +kernel
theorem dX5_isBelow_4 : decode cX5_isBelow 4 = .ok (.iload_n 1, 1) := by decide +kernel
theorem dX5_isBelow_5 : decode cX5_isBelow 5 = .ok (.ldc 121, 2) := by decide +kernel
theorem dX5_isBelow_7 : decode cX5_isBelow 7 = .ok (.iadd, 1) := by decide +kernel
theorem dX5_isBelow_8 : decode cX5_isBelow 8 = .ok (.if_icmp .ge 7, 3) := by decide +kernel
theorem dX5_isBelow_11 : decode cX5_isBelow 11 = .ok (.iconst 1, 1) := by decide +kernel
theorem dX5_isBelow_12 : decode cX5_isBelow 12 = .ok (.goto 4, 3) := by decide +kernel
theorem dX5_isBelow_15 : decode cX5_isBelow 15 = .ok (.iconst 0, 1) := by decide +kernel
theorem dX5_isBelow_16 : decode cX5_isBelow 16 = .ok (.ireturn, 1) := by decide +kernel
theorem dX5_plain_0 : decode cX5_plain 0 = .ok (.iload_n 0, 1) := by decide +kernel
theorem dX5_plain_1 : decode cX5_plain 1 = .ok (.i2l, 1) := by decide +kernel
theorem dX5_plain_2 : decode cX5_plain 2 = .ok (.ldc2_w 122, 3) := by decide +kernel
theorem dX5_plain_5 : decode cX5_plain 5 = .ok (.land, 1) := by decide +kernel
theorem dX5_plain_6 : decode cX5_plain 6 = .ok (.lreturn, 1) := by decide +kernel
theorem dX5_truth_0 : decode cX5_truth 0 = .ok (.iload_n 0, 1) := by decide +kernel
theorem dX5_truth_1 : decode cX5_truth 1 = .ok (.ifCond .eq 7, 3) := by decide +kernel
theorem dX5_truth_4 : decode cX5_truth 4 = .ok (.iconst 1, 1) := by decide +kernel
theorem dX5_truth_5 : decode cX5_truth 5 = .ok (.goto 4, 3) := by decide +kernel
theorem dX5_truth_8 : decode cX5_truth 8 = .ok (.iconst 0, 1) := by decide +kernel
theorem dX5_truth_9 : decode cX5_truth 9 = .ok (.ireturn, 1) := by decide +kernel
theorem dX5_reckoned_0 : decode cX5_reckoned 0 = .ok (.iload_n 0, 1) := by decide +kernel
theorem dX5_reckoned_1 : decode cX5_reckoned 1 = .ok (.tableswitch 281 3 20 #[87, 91, 95, 99, 103, 107, 111, 118, 125, 132, 151, 170, 192, 213, 227, 241, 250, 267], 87) := by decide +kernel
theorem dX5_reckoned_88 : decode cX5_reckoned 88 = .ok (.iload_n 1, 1) := by decide +kernel
theorem dX5_reckoned_89 : decode cX5_reckoned 89 = .ok (.iload_n 2, 1) := by decide +kernel
theorem dX5_reckoned_90 : decode cX5_reckoned 90 = .ok (.iadd, 1) := by decide +kernel
theorem dX5_reckoned_91 : decode cX5_reckoned 91 = .ok (.ireturn, 1) := by decide +kernel
theorem dX5_reckoned_92 : decode cX5_reckoned 92 = .ok (.iload_n 1, 1) := by decide +kernel
theorem dX5_reckoned_93 : decode cX5_reckoned 93 = .ok (.iload_n 2, 1) := by decide +kernel
theorem dX5_reckoned_94 : decode cX5_reckoned 94 = .ok (.isub, 1) := by decide +kernel
theorem dX5_reckoned_95 : decode cX5_reckoned 95 = .ok (.ireturn, 1) := by decide +kernel
theorem dX5_reckoned_96 : decode cX5_reckoned 96 = .ok (.iload_n 1, 1) := by decide +kernel
theorem dX5_reckoned_97 : decode cX5_reckoned 97 = .ok (.iload_n 2, 1) := by decide +kernel
theorem dX5_reckoned_98 : decode cX5_reckoned 98 = .ok (.imul, 1) := by decide +kernel
theorem dX5_reckoned_99 : decode cX5_reckoned 99 = .ok (.ireturn, 1) := by decide +kernel
theorem dX5_reckoned_100 : decode cX5_reckoned 100 = .ok (.iload_n 1, 1) := by decide +kernel
theorem dX5_reckoned_101 : decode cX5_reckoned 101 = .ok (.iload_n 2, 1) := by decide +kernel
theorem dX5_reckoned_102 : decode cX5_reckoned 102 = .ok (.iand, 1) := by decide +kernel
theorem dX5_reckoned_103 : decode cX5_reckoned 103 = .ok (.ireturn, 1) := by decide +kernel
theorem dX5_reckoned_104 : decode cX5_reckoned 104 = .ok (.iload_n 1, 1) := by decide +kernel
theorem dX5_reckoned_105 : decode cX5_reckoned 105 = .ok (.iload_n 2, 1) := by decide +kernel
theorem dX5_reckoned_106 : decode cX5_reckoned 106 = .ok (.ior, 1) := by decide +kernel
theorem dX5_reckoned_107 : decode cX5_reckoned 107 = .ok (.ireturn, 1) := by decide +kernel
theorem dX5_reckoned_108 : decode cX5_reckoned 108 = .ok (.iload_n 1, 1) := by decide +kernel
theorem dX5_reckoned_109 : decode cX5_reckoned 109 = .ok (.iload_n 2, 1) := by decide +kernel
theorem dX5_reckoned_110 : decode cX5_reckoned 110 = .ok (.ixor, 1) := by decide +kernel
theorem dX5_reckoned_111 : decode cX5_reckoned 111 = .ok (.ireturn, 1) := by decide +kernel
theorem dX5_reckoned_112 : decode cX5_reckoned 112 = .ok (.iload_n 1, 1) := by decide +kernel
theorem dX5_reckoned_113 : decode cX5_reckoned 113 = .ok (.iload_n 2, 1) := by decide +kernel
theorem dX5_reckoned_114 : decode cX5_reckoned 114 = .ok (.bipush 31, 2) := by decide +kernel
theorem dX5_reckoned_116 : decode cX5_reckoned 116 = .ok (.iand, 1) := by decide +kernel
theorem dX5_reckoned_117 : decode cX5_reckoned 117 = .ok (.ishl, 1) := by decide +kernel
theorem dX5_reckoned_118 : decode cX5_reckoned 118 = .ok (.ireturn, 1) := by decide +kernel
theorem dX5_reckoned_119 : decode cX5_reckoned 119 = .ok (.iload_n 1, 1) := by decide +kernel
theorem dX5_reckoned_120 : decode cX5_reckoned 120 = .ok (.iload_n 2, 1) := by decide +kernel
theorem dX5_reckoned_121 : decode cX5_reckoned 121 = .ok (.bipush 31, 2) := by decide +kernel
theorem dX5_reckoned_123 : decode cX5_reckoned 123 = .ok (.iand, 1) := by decide +kernel
theorem dX5_reckoned_124 : decode cX5_reckoned 124 = .ok (.iushr, 1) := by decide +kernel
theorem dX5_reckoned_125 : decode cX5_reckoned 125 = .ok (.ireturn, 1) := by decide +kernel
theorem dX5_reckoned_126 : decode cX5_reckoned 126 = .ok (.iload_n 1, 1) := by decide +kernel
theorem dX5_reckoned_127 : decode cX5_reckoned 127 = .ok (.iload_n 2, 1) := by decide +kernel
theorem dX5_reckoned_128 : decode cX5_reckoned 128 = .ok (.bipush 31, 2) := by decide +kernel
theorem dX5_reckoned_130 : decode cX5_reckoned 130 = .ok (.iand, 1) := by decide +kernel
theorem dX5_reckoned_131 : decode cX5_reckoned 131 = .ok (.ishr, 1) := by decide +kernel
theorem dX5_reckoned_132 : decode cX5_reckoned 132 = .ok (.ireturn, 1) := by decide +kernel
theorem dX5_reckoned_133 : decode cX5_reckoned 133 = .ok (.iload_n 2, 1) := by decide +kernel
theorem dX5_reckoned_134 : decode cX5_reckoned 134 = .ok (.ifCond .ne 7, 3) := by decide +kernel
theorem dX5_reckoned_137 : decode cX5_reckoned 137 = .ok (.iconst (-1), 1) := by decide +kernel
theorem dX5_reckoned_138 : decode cX5_reckoned 138 = .ok (.goto 13, 3) := by decide +kernel
theorem dX5_reckoned_141 : decode cX5_reckoned 141 = .ok (.iload_n 1, 1) := by decide +kernel
theorem dX5_reckoned_142 : decode cX5_reckoned 142 = .ok (.invokestatic 124, 3) := by decide +kernel
theorem dX5_reckoned_145 : decode cX5_reckoned 145 = .ok (.iload_n 2, 1) := by decide +kernel
theorem dX5_reckoned_146 : decode cX5_reckoned 146 = .ok (.invokestatic 124, 3) := by decide +kernel
theorem dX5_reckoned_149 : decode cX5_reckoned 149 = .ok (.ldiv, 1) := by decide +kernel
theorem dX5_reckoned_150 : decode cX5_reckoned 150 = .ok (.l2i, 1) := by decide +kernel
theorem dX5_reckoned_151 : decode cX5_reckoned 151 = .ok (.ireturn, 1) := by decide +kernel
theorem dX5_reckoned_152 : decode cX5_reckoned 152 = .ok (.iload_n 2, 1) := by decide +kernel
theorem dX5_reckoned_153 : decode cX5_reckoned 153 = .ok (.ifCond .ne 7, 3) := by decide +kernel
theorem dX5_reckoned_156 : decode cX5_reckoned 156 = .ok (.iload_n 1, 1) := by decide +kernel
theorem dX5_reckoned_157 : decode cX5_reckoned 157 = .ok (.goto 13, 3) := by decide +kernel
theorem dX5_reckoned_160 : decode cX5_reckoned 160 = .ok (.iload_n 1, 1) := by decide +kernel
theorem dX5_reckoned_161 : decode cX5_reckoned 161 = .ok (.invokestatic 124, 3) := by decide +kernel
theorem dX5_reckoned_164 : decode cX5_reckoned 164 = .ok (.iload_n 2, 1) := by decide +kernel
theorem dX5_reckoned_165 : decode cX5_reckoned 165 = .ok (.invokestatic 124, 3) := by decide +kernel
theorem dX5_reckoned_168 : decode cX5_reckoned 168 = .ok (.lrem, 1) := by decide +kernel
theorem dX5_reckoned_169 : decode cX5_reckoned 169 = .ok (.l2i, 1) := by decide +kernel
theorem dX5_reckoned_170 : decode cX5_reckoned 170 = .ok (.ireturn, 1) := by decide +kernel
theorem dX5_reckoned_171 : decode cX5_reckoned 171 = .ok (.iload_n 2, 1) := by decide +kernel
theorem dX5_reckoned_172 : decode cX5_reckoned 172 = .ok (.ifCond .ne 7, 3) := by decide +kernel
theorem dX5_reckoned_175 : decode cX5_reckoned 175 = .ok (.iconst (-1), 1) := by decide +kernel
theorem dX5_reckoned_176 : decode cX5_reckoned 176 = .ok (.goto 16, 3) := by decide +kernel
theorem dX5_reckoned_179 : decode cX5_reckoned 179 = .ok (.iload_n 2, 1) := by decide +kernel
theorem dX5_reckoned_180 : decode cX5_reckoned 180 = .ok (.iconst (-1), 1) := by decide +kernel
theorem dX5_reckoned_181 : decode cX5_reckoned 181 = .ok (.if_icmp .ne 8, 3) := by decide +kernel
theorem dX5_reckoned_184 : decode cX5_reckoned 184 = .ok (.iload_n 1, 1) := by decide +kernel
theorem dX5_reckoned_185 : decode cX5_reckoned 185 = .ok (.ineg, 1) := by decide +kernel
theorem dX5_reckoned_186 : decode cX5_reckoned 186 = .ok (.goto 6, 3) := by decide +kernel
theorem dX5_reckoned_189 : decode cX5_reckoned 189 = .ok (.iload_n 1, 1) := by decide +kernel
theorem dX5_reckoned_190 : decode cX5_reckoned 190 = .ok (.iload_n 2, 1) := by decide +kernel
theorem dX5_reckoned_191 : decode cX5_reckoned 191 = .ok (.idiv, 1) := by decide +kernel
theorem dX5_reckoned_192 : decode cX5_reckoned 192 = .ok (.ireturn, 1) := by decide +kernel
theorem dX5_reckoned_193 : decode cX5_reckoned 193 = .ok (.iload_n 2, 1) := by decide +kernel
theorem dX5_reckoned_194 : decode cX5_reckoned 194 = .ok (.ifCond .ne 7, 3) := by decide +kernel
theorem dX5_reckoned_197 : decode cX5_reckoned 197 = .ok (.iload_n 1, 1) := by decide +kernel
theorem dX5_reckoned_198 : decode cX5_reckoned 198 = .ok (.goto 15, 3) := by decide +kernel
theorem dX5_reckoned_201 : decode cX5_reckoned 201 = .ok (.iload_n 2, 1) := by decide +kernel
theorem dX5_reckoned_202 : decode cX5_reckoned 202 = .ok (.iconst (-1), 1) := by decide +kernel
theorem dX5_reckoned_203 : decode cX5_reckoned 203 = .ok (.if_icmp .ne 7, 3) := by decide +kernel
theorem dX5_reckoned_206 : decode cX5_reckoned 206 = .ok (.iconst 0, 1) := by decide +kernel
theorem dX5_reckoned_207 : decode cX5_reckoned 207 = .ok (.goto 6, 3) := by decide +kernel
theorem dX5_reckoned_210 : decode cX5_reckoned 210 = .ok (.iload_n 1, 1) := by decide +kernel
theorem dX5_reckoned_211 : decode cX5_reckoned 211 = .ok (.iload_n 2, 1) := by decide +kernel
theorem dX5_reckoned_212 : decode cX5_reckoned 212 = .ok (.irem, 1) := by decide +kernel
theorem dX5_reckoned_213 : decode cX5_reckoned 213 = .ok (.ireturn, 1) := by decide +kernel
theorem dX5_reckoned_214 : decode cX5_reckoned 214 = .ok (.iload_n 1, 1) := by decide +kernel
theorem dX5_reckoned_215 : decode cX5_reckoned 215 = .ok (.iload_n 2, 1) := by decide +kernel
theorem dX5_reckoned_216 : decode cX5_reckoned 216 = .ok (.if_icmp .ne 7, 3) := by decide +kernel
theorem dX5_reckoned_219 : decode cX5_reckoned 219 = .ok (.iconst 1, 1) := by decide +kernel
theorem dX5_reckoned_220 : decode cX5_reckoned 220 = .ok (.goto 4, 3) := by decide +kernel
theorem dX5_reckoned_223 : decode cX5_reckoned 223 = .ok (.iconst 0, 1) := by decide +kernel
theorem dX5_reckoned_224 : decode cX5_reckoned 224 = .ok (.invokestatic 128, 3) := by decide +kernel
theorem dX5_reckoned_227 : decode cX5_reckoned 227 = .ok (.ireturn, 1) := by decide +kernel
theorem dX5_reckoned_228 : decode cX5_reckoned 228 = .ok (.iload_n 1, 1) := by decide +kernel
theorem dX5_reckoned_229 : decode cX5_reckoned 229 = .ok (.iload_n 2, 1) := by decide +kernel
theorem dX5_reckoned_230 : decode cX5_reckoned 230 = .ok (.if_icmp .eq 7, 3) := by decide +kernel
theorem dX5_reckoned_233 : decode cX5_reckoned 233 = .ok (.iconst 1, 1) := by decide +kernel
theorem dX5_reckoned_234 : decode cX5_reckoned 234 = .ok (.goto 4, 3) := by decide +kernel
theorem dX5_reckoned_237 : decode cX5_reckoned 237 = .ok (.iconst 0, 1) := by decide +kernel
theorem dX5_reckoned_238 : decode cX5_reckoned 238 = .ok (.invokestatic 128, 3) := by decide +kernel
theorem dX5_reckoned_241 : decode cX5_reckoned 241 = .ok (.ireturn, 1) := by decide +kernel
theorem dX5_reckoned_242 : decode cX5_reckoned 242 = .ok (.iload_n 1, 1) := by decide +kernel
theorem dX5_reckoned_243 : decode cX5_reckoned 243 = .ok (.iload_n 2, 1) := by decide +kernel
theorem dX5_reckoned_244 : decode cX5_reckoned 244 = .ok (.invokestatic 132, 3) := by decide +kernel
theorem dX5_reckoned_247 : decode cX5_reckoned 247 = .ok (.invokestatic 128, 3) := by decide +kernel
theorem dX5_reckoned_250 : decode cX5_reckoned 250 = .ok (.ireturn, 1) := by decide +kernel
theorem dX5_reckoned_251 : decode cX5_reckoned 251 = .ok (.iload_n 2, 1) := by decide +kernel
theorem dX5_reckoned_252 : decode cX5_reckoned 252 = .ok (.iload_n 1, 1) := by decide +kernel
theorem dX5_reckoned_253 : decode cX5_reckoned 253 = .ok (.invokestatic 132, 3) := by decide +kernel
theorem dX5_reckoned_256 : decode cX5_reckoned 256 = .ok (.ifCond .ne 7, 3) := by decide +kernel
theorem dX5_reckoned_259 : decode cX5_reckoned 259 = .ok (.iconst 1, 1) := by decide +kernel
theorem dX5_reckoned_260 : decode cX5_reckoned 260 = .ok (.goto 4, 3) := by decide +kernel
theorem dX5_reckoned_263 : decode cX5_reckoned 263 = .ok (.iconst 0, 1) := by decide +kernel
theorem dX5_reckoned_264 : decode cX5_reckoned 264 = .ok (.invokestatic 128, 3) := by decide +kernel
theorem dX5_reckoned_267 : decode cX5_reckoned 267 = .ok (.ireturn, 1) := by decide +kernel
theorem dX5_reckoned_268 : decode cX5_reckoned 268 = .ok (.iload_n 1, 1) := by decide +kernel
theorem dX5_reckoned_269 : decode cX5_reckoned 269 = .ok (.iload_n 2, 1) := by decide +kernel
theorem dX5_reckoned_270 : decode cX5_reckoned 270 = .ok (.if_icmp .ge 7, 3) := by decide +kernel
theorem dX5_reckoned_273 : decode cX5_reckoned 273 = .ok (.iconst 1, 1) := by decide +kernel
theorem dX5_reckoned_274 : decode cX5_reckoned 274 = .ok (.goto 4, 3) := by decide +kernel
theorem dX5_reckoned_277 : decode cX5_reckoned 277 = .ok (.iconst 0, 1) := by decide +kernel
theorem dX5_reckoned_278 : decode cX5_reckoned 278 = .ok (.invokestatic 128, 3) := by decide +kernel
theorem dX5_reckoned_281 : decode cX5_reckoned 281 = .ok (.ireturn, 1) := by decide +kernel
theorem dX5_reckoned_282 : decode cX5_reckoned 282 = .ok (.iload_n 1, 1) := by decide +kernel
theorem dX5_reckoned_283 : decode cX5_reckoned 283 = .ok (.iload_n 2, 1) := by decide +kernel
theorem dX5_reckoned_284 : decode cX5_reckoned 284 = .ok (.if_icmp .gt 7, 3) := by decide +kernel
theorem dX5_reckoned_287 : decode cX5_reckoned 287 = .ok (.iconst 1, 1) := by decide +kernel
theorem dX5_reckoned_288 : decode cX5_reckoned 288 = .ok (.goto 4, 3) := by decide +kernel
theorem dX5_reckoned_291 : decode cX5_reckoned 291 = .ok (.iconst 0, 1) := by decide +kernel
theorem dX5_reckoned_292 : decode cX5_reckoned 292 = .ok (.invokestatic 128, 3) := by decide +kernel
theorem dX5_reckoned_295 : decode cX5_reckoned 295 = .ok (.ireturn, 1) := by decide +kernel
theorem dX5_ends_0 : decode cX5_ends 0 = .ok (.aload_n 0, 1) := by decide +kernel
theorem dX5_ends_1 : decode cX5_ends 1 = .ok (.iload_n 1, 1) := by decide +kernel
theorem dX5_ends_2 : decode cX5_ends 2 = .ok (.putfield 136, 3) := by decide +kernel
theorem dX5_ends_5 : decode cX5_ends 5 = .ok (.aload_n 0, 1) := by decide +kernel
theorem dX5_ends_6 : decode cX5_ends 6 = .ok (.iload_n 2, 1) := by decide +kernel
theorem dX5_ends_7 : decode cX5_ends 7 = .ok (.putfield 139, 3) := by decide +kernel
theorem dX5_ends_10 : decode cX5_ends 10 = .ok (.aload_n 0, 1) := by decide +kernel
theorem dX5_ends_11 : decode cX5_ends 11 = .ok (.iload_n 3, 1) := by decide +kernel
theorem dX5_ends_12 : decode cX5_ends 12 = .ok (.putfield 142, 3) := by decide +kernel
theorem dX5_ends_15 : decode cX5_ends 15 = .ok (.return_, 1) := by decide +kernel
theorem dX5_go_0 : decode cX5_go 0 = .ok (.iconst 0, 1) := by decide +kernel
theorem dX5_go_1 : decode cX5_go 1 = .ok (.istore 4, 2) := by decide +kernel
theorem dX5_go_3 : decode cX5_go 3 = .ok (.iload 4, 2) := by decide +kernel
theorem dX5_go_5 : decode cX5_go 5 = .ok (.bipush 16, 2) := by decide +kernel
theorem dX5_go_7 : decode cX5_go 7 = .ok (.if_icmp .ge 17, 3) := by decide +kernel
theorem dX5_go_10 : decode cX5_go 10 = .ok (.aload_n 0, 1) := by decide +kernel
theorem dX5_go_11 : decode cX5_go 11 = .ok (.getfield 62, 3) := by decide +kernel
theorem dX5_go_14 : decode cX5_go 14 = .ok (.iload 4, 2) := by decide +kernel
theorem dX5_go_16 : decode cX5_go 16 = .ok (.iconst 0, 1) := by decide +kernel
theorem dX5_go_17 : decode cX5_go 17 = .ok (.iastore, 1) := by decide +kernel
theorem dX5_go_18 : decode cX5_go 18 = .ok (.iinc 4 1, 3) := by decide +kernel
theorem dX5_go_21 : decode cX5_go 21 = .ok (.goto (-18), 3) := by decide +kernel
theorem dX5_go_24 : decode cX5_go 24 = .ok (.iconst 0, 1) := by decide +kernel
theorem dX5_go_25 : decode cX5_go 25 = .ok (.istore 4, 2) := by decide +kernel
theorem dX5_go_27 : decode cX5_go 27 = .ok (.iload 4, 2) := by decide +kernel
theorem dX5_go_29 : decode cX5_go 29 = .ok (.bipush 8, 2) := by decide +kernel
theorem dX5_go_31 : decode cX5_go 31 = .ok (.if_icmp .ge 17, 3) := by decide +kernel
theorem dX5_go_34 : decode cX5_go 34 = .ok (.aload_n 0, 1) := by decide +kernel
theorem dX5_go_35 : decode cX5_go 35 = .ok (.getfield 65, 3) := by decide +kernel
theorem dX5_go_38 : decode cX5_go 38 = .ok (.iload 4, 2) := by decide +kernel
theorem dX5_go_40 : decode cX5_go 40 = .ok (.iconst 0, 1) := by decide +kernel
theorem dX5_go_41 : decode cX5_go 41 = .ok (.iastore, 1) := by decide +kernel
theorem dX5_go_42 : decode cX5_go 42 = .ok (.iinc 4 1, 3) := by decide +kernel
theorem dX5_go_45 : decode cX5_go 45 = .ok (.goto (-18), 3) := by decide +kernel
theorem dX5_go_48 : decode cX5_go 48 = .ok (.aload_n 0, 1) := by decide +kernel
theorem dX5_go_49 : decode cX5_go 49 = .ok (.iconst 0, 1) := by decide +kernel
theorem dX5_go_50 : decode cX5_go 50 = .ok (.putfield 145, 3) := by decide +kernel
theorem dX5_go_53 : decode cX5_go 53 = .ok (.aload_n 0, 1) := by decide +kernel
theorem dX5_go_54 : decode cX5_go 54 = .ok (.iconst 0, 1) := by decide +kernel
theorem dX5_go_55 : decode cX5_go 55 = .ok (.putfield 148, 3) := by decide +kernel
theorem dX5_go_58 : decode cX5_go 58 = .ok (.iconst 0, 1) := by decide +kernel
theorem dX5_go_59 : decode cX5_go 59 = .ok (.istore 4, 2) := by decide +kernel
theorem dX5_go_61 : decode cX5_go 61 = .ok (.iload 4, 2) := by decide +kernel
theorem dX5_go_63 : decode cX5_go 63 = .ok (.aload_n 0, 1) := by decide +kernel
theorem dX5_go_64 : decode cX5_go 64 = .ok (.getfield 93, 3) := by decide +kernel
theorem dX5_go_67 : decode cX5_go 67 = .ok (.if_icmp .ge 701, 3) := by decide +kernel
theorem dX5_go_70 : decode cX5_go 70 = .ok (.iload_n 3, 1) := by decide +kernel
theorem dX5_go_71 : decode cX5_go 71 = .ok (.ifCond .eq 11, 3) := by decide +kernel
theorem dX5_go_74 : decode cX5_go 74 = .ok (.aload_n 0, 1) := by decide +kernel
theorem dX5_go_75 : decode cX5_go 75 = .ok (.getfield 59, 3) := by decide +kernel
theorem dX5_go_78 : decode cX5_go 78 = .ok (.iload 4, 2) := by decide +kernel
theorem dX5_go_80 : decode cX5_go 80 = .ok (.iconst 1, 1) := by decide +kernel
theorem dX5_go_81 : decode cX5_go 81 = .ok (.bastore, 1) := by decide +kernel
theorem dX5_go_82 : decode cX5_go 82 = .ok (.aload_n 0, 1) := by decide +kernel
theorem dX5_go_83 : decode cX5_go 83 = .ok (.dup, 1) := by decide +kernel
theorem dX5_go_84 : decode cX5_go 84 = .ok (.getfield 145, 3) := by decide +kernel
theorem dX5_go_87 : decode cX5_go 87 = .ok (.iconst 1, 1) := by decide +kernel
theorem dX5_go_88 : decode cX5_go 88 = .ok (.iadd, 1) := by decide +kernel
theorem dX5_go_89 : decode cX5_go 89 = .ok (.putfield 145, 3) := by decide +kernel
theorem dX5_go_92 : decode cX5_go 92 = .ok (.aload_n 0, 1) := by decide +kernel
theorem dX5_go_93 : decode cX5_go 93 = .ok (.getfield 17, 3) := by decide +kernel
theorem dX5_go_96 : decode cX5_go 96 = .ok (.iload 4, 2) := by decide +kernel
theorem dX5_go_98 : decode cX5_go 98 = .ok (.iaload, 1) := by decide +kernel
theorem dX5_go_99 : decode cX5_go 99 = .ok (.istore 5, 2) := by decide +kernel
theorem dX5_go_101 : decode cX5_go 101 = .ok (.aload_n 0, 1) := by decide +kernel
theorem dX5_go_102 : decode cX5_go 102 = .ok (.getfield 20, 3) := by decide +kernel
theorem dX5_go_105 : decode cX5_go 105 = .ok (.iload 4, 2) := by decide +kernel
theorem dX5_go_107 : decode cX5_go 107 = .ok (.iaload, 1) := by decide +kernel
theorem dX5_go_108 : decode cX5_go 108 = .ok (.istore 6, 2) := by decide +kernel
theorem dX5_go_110 : decode cX5_go 110 = .ok (.aload_n 0, 1) := by decide +kernel
theorem dX5_go_111 : decode cX5_go 111 = .ok (.getfield 23, 3) := by decide +kernel
theorem dX5_go_114 : decode cX5_go 114 = .ok (.iload 4, 2) := by decide +kernel
theorem dX5_go_116 : decode cX5_go 116 = .ok (.iaload, 1) := by decide +kernel
theorem dX5_go_117 : decode cX5_go 117 = .ok (.istore 7, 2) := by decide +kernel
theorem dX5_go_119 : decode cX5_go 119 = .ok (.aload_n 0, 1) := by decide +kernel
theorem dX5_go_120 : decode cX5_go 120 = .ok (.getfield 26, 3) := by decide +kernel
theorem dX5_go_123 : decode cX5_go 123 = .ok (.iload 4, 2) := by decide +kernel
theorem dX5_go_125 : decode cX5_go 125 = .ok (.iaload, 1) := by decide +kernel
theorem dX5_go_126 : decode cX5_go 126 = .ok (.istore 8, 2) := by decide +kernel
theorem dX5_go_128 : decode cX5_go 128 = .ok (.iload 4, 2) := by decide +kernel
theorem dX5_go_130 : decode cX5_go 130 = .ok (.iconst 1, 1) := by decide +kernel
theorem dX5_go_131 : decode cX5_go 131 = .ok (.iadd, 1) := by decide +kernel
theorem dX5_go_132 : decode cX5_go 132 = .ok (.istore 9, 2) := by decide +kernel
theorem dX5_go_134 : decode cX5_go 134 = .ok (.iload 5, 2) := by decide +kernel
theorem dX5_go_136 : decode cX5_go 136 = .ok (.invokestatic 110, 3) := by decide +kernel
theorem dX5_go_139 : decode cX5_go 139 = .ok (.ifCond .ne 31, 3) := by decide +kernel
theorem dX5_go_142 : decode cX5_go 142 = .ok (.iload 5, 2) := by decide +kernel
theorem dX5_go_144 : decode cX5_go 144 = .ok (.bipush 25, 2) := by decide +kernel
theorem dX5_go_146 : decode cX5_go 146 = .ok (.if_icmp .eq 24, 3) := by decide +kernel
theorem dX5_go_149 : decode cX5_go 149 = .ok (.iload 5, 2) := by decide +kernel
theorem dX5_go_151 : decode cX5_go 151 = .ok (.bipush 26, 2) := by decide +kernel
theorem dX5_go_153 : decode cX5_go 153 = .ok (.if_icmp .eq 17, 3) := by decide +kernel
theorem dX5_go_156 : decode cX5_go 156 = .ok (.iload 5, 2) := by decide +kernel
theorem dX5_go_158 : decode cX5_go 158 = .ok (.bipush 27, 2) := by decide +kernel
theorem dX5_go_160 : decode cX5_go 160 = .ok (.if_icmp .eq 10, 3) := by decide +kernel
theorem dX5_go_163 : decode cX5_go 163 = .ok (.iload 5, 2) := by decide +kernel
theorem dX5_go_165 : decode cX5_go 165 = .ok (.bipush 29, 2) := by decide +kernel
theorem dX5_go_167 : decode cX5_go 167 = .ok (.if_icmp .ne 7, 3) := by decide +kernel
theorem dX5_go_170 : decode cX5_go 170 = .ok (.iconst 1, 1) := by decide +kernel
theorem dX5_go_171 : decode cX5_go 171 = .ok (.goto 4, 3) := by decide +kernel
theorem dX5_go_174 : decode cX5_go 174 = .ok (.iconst 0, 1) := by decide +kernel
theorem dX5_go_175 : decode cX5_go 175 = .ok (.istore 10, 2) := by decide +kernel
theorem dX5_go_177 : decode cX5_go 177 = .ok (.iconst 0, 1) := by decide +kernel
theorem dX5_go_178 : decode cX5_go 178 = .ok (.istore 11, 2) := by decide +kernel
theorem dX5_go_180 : decode cX5_go 180 = .ok (.iload 10, 2) := by decide +kernel
theorem dX5_go_182 : decode cX5_go 182 = .ok (.ifCond .eq 145, 3) := by decide +kernel
theorem dX5_go_185 : decode cX5_go 185 = .ok (.iload 5, 2) := by decide +kernel
theorem dX5_go_187 : decode cX5_go 187 = .ok (.invokestatic 110, 3) := by decide +kernel
theorem dX5_go_190 : decode cX5_go 190 = .ok (.ifCond .eq 13, 3) := by decide +kernel
theorem dX5_go_193 : decode cX5_go 193 = .ok (.aload_n 0, 1) := by decide +kernel
theorem dX5_go_194 : decode cX5_go 194 = .ok (.getfield 62, 3) := by decide +kernel
theorem dX5_go_197 : decode cX5_go 197 = .ok (.iload 8, 2) := by decide +kernel
theorem dX5_go_199 : decode cX5_go 199 = .ok (.iaload, 1) := by decide +kernel
theorem dX5_go_200 : decode cX5_go 200 = .ok (.goto 27, 3) := by decide +kernel
theorem dX5_go_203 : decode cX5_go 203 = .ok (.iload 5, 2) := by decide +kernel
theorem dX5_go_205 : decode cX5_go 205 = .ok (.bipush 25, 2) := by decide +kernel
theorem dX5_go_207 : decode cX5_go 207 = .ok (.if_icmp .ne 13, 3) := by decide +kernel
theorem dX5_go_210 : decode cX5_go 210 = .ok (.aload_n 0, 1) := by decide +kernel
theorem dX5_go_211 : decode cX5_go 211 = .ok (.getfield 62, 3) := by decide +kernel
theorem dX5_go_214 : decode cX5_go 214 = .ok (.iload 7, 2) := by decide +kernel
theorem dX5_go_216 : decode cX5_go 216 = .ok (.iaload, 1) := by decide +kernel
theorem dX5_go_217 : decode cX5_go 217 = .ok (.goto 10, 3) := by decide +kernel
theorem dX5_go_220 : decode cX5_go 220 = .ok (.aload_n 0, 1) := by decide +kernel
theorem dX5_go_221 : decode cX5_go 221 = .ok (.getfield 62, 3) := by decide +kernel
theorem dX5_go_224 : decode cX5_go 224 = .ok (.iload 6, 2) := by decide +kernel
theorem dX5_go_226 : decode cX5_go 226 = .ok (.iaload, 1) := by decide +kernel
theorem dX5_go_227 : decode cX5_go 227 = .ok (.istore 12, 2) := by decide +kernel
theorem dX5_go_229 : decode cX5_go 229 = .ok (.iload 5, 2) := by decide +kernel
theorem dX5_go_231 : decode cX5_go 231 = .ok (.bipush 25, 2) := by decide +kernel
theorem dX5_go_233 : decode cX5_go 233 = .ok (.if_icmp .eq 10, 3) := by decide +kernel
theorem dX5_go_236 : decode cX5_go 236 = .ok (.iload 5, 2) := by decide +kernel
theorem dX5_go_238 : decode cX5_go 238 = .ok (.bipush 26, 2) := by decide +kernel
theorem dX5_go_240 : decode cX5_go 240 = .ok (.if_icmp .ne 23, 3) := by decide +kernel
theorem dX5_go_243 : decode cX5_go 243 = .ok (.iload 12, 2) := by decide +kernel
theorem dX5_go_245 : decode cX5_go 245 = .ok (.ifCond .lt 14, 3) := by decide +kernel
theorem dX5_go_248 : decode cX5_go 248 = .ok (.iload 12, 2) := by decide +kernel
theorem dX5_go_250 : decode cX5_go 250 = .ok (.bipush 8, 2) := by decide +kernel
theorem dX5_go_252 : decode cX5_go 252 = .ok (.if_icmp .ge 7, 3) := by decide +kernel
theorem dX5_go_255 : decode cX5_go 255 = .ok (.iconst 1, 1) := by decide +kernel
theorem dX5_go_256 : decode cX5_go 256 = .ok (.goto 17, 3) := by decide +kernel
theorem dX5_go_259 : decode cX5_go 259 = .ok (.iconst 0, 1) := by decide +kernel
theorem dX5_go_260 : decode cX5_go 260 = .ok (.goto 13, 3) := by decide +kernel
theorem dX5_go_263 : decode cX5_go 263 = .ok (.iload 12, 2) := by decide +kernel
theorem dX5_go_265 : decode cX5_go 265 = .ok (.ifCond .eq 7, 3) := by decide +kernel
theorem dX5_go_268 : decode cX5_go 268 = .ok (.iconst 1, 1) := by decide +kernel
theorem dX5_go_269 : decode cX5_go 269 = .ok (.goto 4, 3) := by decide +kernel
theorem dX5_go_272 : decode cX5_go 272 = .ok (.iconst 0, 1) := by decide +kernel
theorem dX5_go_273 : decode cX5_go 273 = .ok (.istore 11, 2) := by decide +kernel
theorem dX5_go_275 : decode cX5_go 275 = .ok (.aload_n 2, 1) := by decide +kernel
theorem dX5_go_276 : decode cX5_go 276 = .ok (.ifnull 22, 3) := by decide +kernel
theorem dX5_go_279 : decode cX5_go 279 = .ok (.aload_n 2, 1) := by decide +kernel
theorem dX5_go_280 : decode cX5_go 280 = .ok (.aload_n 0, 1) := by decide +kernel
theorem dX5_go_281 : decode cX5_go 281 = .ok (.getfield 148, 3) := by decide +kernel
theorem dX5_go_284 : decode cX5_go 284 = .ok (.iaload, 1) := by decide +kernel
theorem dX5_go_285 : decode cX5_go 285 = .ok (.iconst 2, 1) := by decide +kernel
theorem dX5_go_286 : decode cX5_go 286 = .ok (.irem, 1) := by decide +kernel
theorem dX5_go_287 : decode cX5_go 287 = .ok (.iconst 1, 1) := by decide +kernel
theorem dX5_go_288 : decode cX5_go 288 = .ok (.if_icmp .ne 7, 3) := by decide +kernel
theorem dX5_go_291 : decode cX5_go 291 = .ok (.iconst 1, 1) := by decide +kernel
theorem dX5_go_292 : decode cX5_go 292 = .ok (.goto 4, 3) := by decide +kernel
theorem dX5_go_295 : decode cX5_go 295 = .ok (.iconst 0, 1) := by decide +kernel
theorem dX5_go_296 : decode cX5_go 296 = .ok (.istore 11, 2) := by decide +kernel
theorem dX5_go_298 : decode cX5_go 298 = .ok (.aload_n 0, 1) := by decide +kernel
theorem dX5_go_299 : decode cX5_go 299 = .ok (.getfield 68, 3) := by decide +kernel
theorem dX5_go_302 : decode cX5_go 302 = .ok (.aload_n 0, 1) := by decide +kernel
theorem dX5_go_303 : decode cX5_go 303 = .ok (.getfield 148, 3) := by decide +kernel
theorem dX5_go_306 : decode cX5_go 306 = .ok (.iconst 2, 1) := by decide +kernel
theorem dX5_go_307 : decode cX5_go 307 = .ok (.iload 4, 2) := by decide +kernel
theorem dX5_go_309 : decode cX5_go 309 = .ok (.imul, 1) := by decide +kernel
theorem dX5_go_310 : decode cX5_go 310 = .ok (.iload 11, 2) := by decide +kernel
theorem dX5_go_312 : decode cX5_go 312 = .ok (.invokestatic 128, 3) := by decide +kernel
theorem dX5_go_315 : decode cX5_go 315 = .ok (.iadd, 1) := by decide +kernel
theorem dX5_go_316 : decode cX5_go 316 = .ok (.iastore, 1) := by decide +kernel
theorem dX5_go_317 : decode cX5_go 317 = .ok (.aload_n 0, 1) := by decide +kernel
theorem dX5_go_318 : decode cX5_go 318 = .ok (.dup, 1) := by decide +kernel
theorem dX5_go_319 : decode cX5_go 319 = .ok (.getfield 148, 3) := by decide +kernel
theorem dX5_go_322 : decode cX5_go 322 = .ok (.iconst 1, 1) := by decide +kernel
theorem dX5_go_323 : decode cX5_go 323 = .ok (.iadd, 1) := by decide +kernel
theorem dX5_go_324 : decode cX5_go 324 = .ok (.putfield 148, 3) := by decide +kernel
theorem dX5_go_327 : decode cX5_go 327 = .ok (.iload 5, 2) := by decide +kernel
theorem dX5_go_329 : decode cX5_go 329 = .ok (.ifCond .ne 15, 3) := by decide +kernel
theorem dX5_go_332 : decode cX5_go 332 = .ok (.aload_n 0, 1) := by decide +kernel
theorem dX5_go_333 : decode cX5_go 333 = .ok (.getfield 62, 3) := by decide +kernel
theorem dX5_go_336 : decode cX5_go 336 = .ok (.iload 6, 2) := by decide +kernel
theorem dX5_go_338 : decode cX5_go 338 = .ok (.iload 7, 2) := by decide +kernel
theorem dX5_go_340 : decode cX5_go 340 = .ok (.iastore, 1) := by decide +kernel
theorem dX5_go_341 : decode cX5_go 341 = .ok (.goto 420, 3) := by decide +kernel
theorem dX5_go_344 : decode cX5_go 344 = .ok (.iload 5, 2) := by decide +kernel
theorem dX5_go_346 : decode cX5_go 346 = .ok (.iconst 1, 1) := by decide +kernel
theorem dX5_go_347 : decode cX5_go 347 = .ok (.if_icmp .ne 20, 3) := by decide +kernel
theorem dX5_go_350 : decode cX5_go 350 = .ok (.aload_n 0, 1) := by decide +kernel
theorem dX5_go_351 : decode cX5_go 351 = .ok (.getfield 62, 3) := by decide +kernel
theorem dX5_go_354 : decode cX5_go 354 = .ok (.iload 6, 2) := by decide +kernel
theorem dX5_go_356 : decode cX5_go 356 = .ok (.aload_n 0, 1) := by decide +kernel
theorem dX5_go_357 : decode cX5_go 357 = .ok (.iload_n 1, 1) := by decide +kernel
theorem dX5_go_358 : decode cX5_go 358 = .ok (.iload 7, 2) := by decide +kernel
theorem dX5_go_360 : decode cX5_go 360 = .ok (.invokevirtual 151, 3) := by decide +kernel
theorem dX5_go_363 : decode cX5_go 363 = .ok (.iastore, 1) := by decide +kernel
theorem dX5_go_364 : decode cX5_go 364 = .ok (.goto 397, 3) := by decide +kernel
theorem dX5_go_367 : decode cX5_go 367 = .ok (.iload 5, 2) := by decide +kernel
theorem dX5_go_369 : decode cX5_go 369 = .ok (.iconst 2, 1) := by decide +kernel
theorem dX5_go_370 : decode cX5_go 370 = .ok (.if_icmp .ne 20, 3) := by decide +kernel
theorem dX5_go_373 : decode cX5_go 373 = .ok (.aload_n 0, 1) := by decide +kernel
theorem dX5_go_374 : decode cX5_go 374 = .ok (.getfield 62, 3) := by decide +kernel
theorem dX5_go_377 : decode cX5_go 377 = .ok (.iload 6, 2) := by decide +kernel
theorem dX5_go_379 : decode cX5_go 379 = .ok (.aload_n 0, 1) := by decide +kernel
theorem dX5_go_380 : decode cX5_go 380 = .ok (.getfield 62, 3) := by decide +kernel
theorem dX5_go_383 : decode cX5_go 383 = .ok (.iload 7, 2) := by decide +kernel
theorem dX5_go_385 : decode cX5_go 385 = .ok (.iaload, 1) := by decide +kernel
theorem dX5_go_386 : decode cX5_go 386 = .ok (.iastore, 1) := by decide +kernel
theorem dX5_go_387 : decode cX5_go 387 = .ok (.goto 374, 3) := by decide +kernel
theorem dX5_go_390 : decode cX5_go 390 = .ok (.iload 5, 2) := by decide +kernel
theorem dX5_go_392 : decode cX5_go 392 = .ok (.invokestatic 110, 3) := by decide +kernel
theorem dX5_go_395 : decode cX5_go 395 = .ok (.ifCond .eq 17, 3) := by decide +kernel
theorem dX5_go_398 : decode cX5_go 398 = .ok (.iload 11, 2) := by decide +kernel
theorem dX5_go_400 : decode cX5_go 400 = .ok (.ifCond .ne 12, 3) := by decide +kernel
theorem dX5_go_403 : decode cX5_go 403 = .ok (.aload_n 0, 1) := by decide +kernel
theorem dX5_go_404 : decode cX5_go 404 = .ok (.iconst 1, 1) := by decide +kernel
theorem dX5_go_405 : decode cX5_go 405 = .ok (.iload 4, 2) := by decide +kernel
theorem dX5_go_407 : decode cX5_go 407 = .ok (.iconst 0, 1) := by decide +kernel
theorem dX5_go_408 : decode cX5_go 408 = .ok (.invokevirtual 155, 3) := by decide +kernel
theorem dX5_go_411 : decode cX5_go 411 = .ok (.return_, 1) := by decide +kernel
theorem dX5_go_412 : decode cX5_go 412 = .ok (.iload 5, 2) := by decide +kernel
theorem dX5_go_414 : decode cX5_go 414 = .ok (.bipush 21, 2) := by decide +kernel
theorem dX5_go_416 : decode cX5_go 416 = .ok (.if_icmp .gt 32, 3) := by decide +kernel
theorem dX5_go_419 : decode cX5_go 419 = .ok (.aload_n 0, 1) := by decide +kernel
theorem dX5_go_420 : decode cX5_go 420 = .ok (.getfield 62, 3) := by decide +kernel
theorem dX5_go_423 : decode cX5_go 423 = .ok (.iload 6, 2) := by decide +kernel
theorem dX5_go_425 : decode cX5_go 425 = .ok (.iload 5, 2) := by decide +kernel
theorem dX5_go_427 : decode cX5_go 427 = .ok (.aload_n 0, 1) := by decide +kernel
theorem dX5_go_428 : decode cX5_go 428 = .ok (.getfield 62, 3) := by decide +kernel
theorem dX5_go_431 : decode cX5_go 431 = .ok (.iload 7, 2) := by decide +kernel
theorem dX5_go_433 : decode cX5_go 433 = .ok (.iaload, 1) := by decide +kernel
theorem dX5_go_434 : decode cX5_go 434 = .ok (.aload_n 0, 1) := by decide +kernel
theorem dX5_go_435 : decode cX5_go 435 = .ok (.getfield 62, 3) := by decide +kernel
theorem dX5_go_438 : decode cX5_go 438 = .ok (.iload 8, 2) := by decide +kernel
theorem dX5_go_440 : decode cX5_go 440 = .ok (.iaload, 1) := by decide +kernel
theorem dX5_go_441 : decode cX5_go 441 = .ok (.invokestatic 159, 3) := by decide +kernel
theorem dX5_go_444 : decode cX5_go 444 = .ok (.iastore, 1) := by decide +kernel
theorem dX5_go_445 : decode cX5_go 445 = .ok (.goto 316, 3) := by decide +kernel
theorem dX5_go_448 : decode cX5_go 448 = .ok (.iload 5, 2) := by decide +kernel
theorem dX5_go_450 : decode cX5_go 450 = .ok (.bipush 22, 2) := by decide +kernel
theorem dX5_go_452 : decode cX5_go 452 = .ok (.if_icmp .ne 22, 3) := by decide +kernel
theorem dX5_go_455 : decode cX5_go 455 = .ok (.aload_n 0, 1) := by decide +kernel
theorem dX5_go_456 : decode cX5_go 456 = .ok (.getfield 62, 3) := by decide +kernel
theorem dX5_go_459 : decode cX5_go 459 = .ok (.iload 6, 2) := by decide +kernel
theorem dX5_go_461 : decode cX5_go 461 = .ok (.aload_n 0, 1) := by decide +kernel
theorem dX5_go_462 : decode cX5_go 462 = .ok (.getfield 62, 3) := by decide +kernel
theorem dX5_go_465 : decode cX5_go 465 = .ok (.iload 7, 2) := by decide +kernel
theorem dX5_go_467 : decode cX5_go 467 = .ok (.iaload, 1) := by decide +kernel
theorem dX5_go_468 : decode cX5_go 468 = .ok (.iconst (-1), 1) := by decide +kernel
theorem dX5_go_469 : decode cX5_go 469 = .ok (.ixor, 1) := by decide +kernel
theorem dX5_go_470 : decode cX5_go 470 = .ok (.iastore, 1) := by decide +kernel
theorem dX5_go_471 : decode cX5_go 471 = .ok (.goto 290, 3) := by decide +kernel
theorem dX5_go_474 : decode cX5_go 474 = .ok (.iload 5, 2) := by decide +kernel
theorem dX5_go_476 : decode cX5_go 476 = .ok (.bipush 23, 2) := by decide +kernel
theorem dX5_go_478 : decode cX5_go 478 = .ok (.if_icmp .ne 21, 3) := by decide +kernel
theorem dX5_go_481 : decode cX5_go 481 = .ok (.aload_n 0, 1) := by decide +kernel
theorem dX5_go_482 : decode cX5_go 482 = .ok (.getfield 62, 3) := by decide +kernel
theorem dX5_go_485 : decode cX5_go 485 = .ok (.iload 6, 2) := by decide +kernel
theorem dX5_go_487 : decode cX5_go 487 = .ok (.aload_n 0, 1) := by decide +kernel
theorem dX5_go_488 : decode cX5_go 488 = .ok (.getfield 62, 3) := by decide +kernel
theorem dX5_go_491 : decode cX5_go 491 = .ok (.iload 7, 2) := by decide +kernel
theorem dX5_go_493 : decode cX5_go 493 = .ok (.iaload, 1) := by decide +kernel
theorem dX5_go_494 : decode cX5_go 494 = .ok (.ineg, 1) := by decide +kernel
theorem dX5_go_495 : decode cX5_go 495 = .ok (.iastore, 1) := by decide +kernel
theorem dX5_go_496 : decode cX5_go 496 = .ok (.goto 265, 3) := by decide +kernel
theorem dX5_go_499 : decode cX5_go 499 = .ok (.iload 5, 2) := by decide +kernel
theorem dX5_go_501 : decode cX5_go 501 = .ok (.bipush 24, 2) := by decide +kernel
theorem dX5_go_503 : decode cX5_go 503 = .ok (.if_icmp .ne 40, 3) := by decide +kernel
theorem dX5_go_506 : decode cX5_go 506 = .ok (.aload_n 0, 1) := by decide +kernel
theorem dX5_go_507 : decode cX5_go 507 = .ok (.getfield 62, 3) := by decide +kernel
theorem dX5_go_510 : decode cX5_go 510 = .ok (.iload 6, 2) := by decide +kernel
theorem dX5_go_512 : decode cX5_go 512 = .ok (.aload_n 0, 1) := by decide +kernel
theorem dX5_go_513 : decode cX5_go 513 = .ok (.getfield 62, 3) := by decide +kernel
theorem dX5_go_516 : decode cX5_go 516 = .ok (.iload 7, 2) := by decide +kernel
theorem dX5_go_518 : decode cX5_go 518 = .ok (.iaload, 1) := by decide +kernel
theorem dX5_go_519 : decode cX5_go 519 = .ok (.ifCond .eq 13, 3) := by decide +kernel
theorem dX5_go_522 : decode cX5_go 522 = .ok (.aload_n 0, 1) := by decide +kernel
theorem dX5_go_523 : decode cX5_go 523 = .ok (.getfield 62, 3) := by decide +kernel
theorem dX5_go_526 : decode cX5_go 526 = .ok (.iload 8, 2) := by decide +kernel
theorem dX5_go_528 : decode cX5_go 528 = .ok (.iaload, 1) := by decide +kernel
theorem dX5_go_529 : decode cX5_go 529 = .ok (.goto 10, 3) := by decide +kernel
theorem dX5_go_532 : decode cX5_go 532 = .ok (.aload_n 0, 1) := by decide +kernel
theorem dX5_go_533 : decode cX5_go 533 = .ok (.getfield 62, 3) := by decide +kernel
theorem dX5_go_536 : decode cX5_go 536 = .ok (.iload 6, 2) := by decide +kernel
theorem dX5_go_538 : decode cX5_go 538 = .ok (.iaload, 1) := by decide +kernel
theorem dX5_go_539 : decode cX5_go 539 = .ok (.iastore, 1) := by decide +kernel
theorem dX5_go_540 : decode cX5_go 540 = .ok (.goto 221, 3) := by decide +kernel
theorem dX5_go_543 : decode cX5_go 543 = .ok (.iload 5, 2) := by decide +kernel
theorem dX5_go_545 : decode cX5_go 545 = .ok (.bipush 26, 2) := by decide +kernel
theorem dX5_go_547 : decode cX5_go 547 = .ok (.if_icmp .gt 117, 3) := by decide +kernel
theorem dX5_go_550 : decode cX5_go 550 = .ok (.iload 11, 2) := by decide +kernel
theorem dX5_go_552 : decode cX5_go 552 = .ok (.ifCond .ne 12, 3) := by decide +kernel
theorem dX5_go_555 : decode cX5_go 555 = .ok (.aload_n 0, 1) := by decide +kernel
theorem dX5_go_556 : decode cX5_go 556 = .ok (.iconst 2, 1) := by decide +kernel
theorem dX5_go_557 : decode cX5_go 557 = .ok (.iload 4, 2) := by decide +kernel
theorem dX5_go_559 : decode cX5_go 559 = .ok (.iconst 0, 1) := by decide +kernel
theorem dX5_go_560 : decode cX5_go 560 = .ok (.invokevirtual 155, 3) := by decide +kernel
theorem dX5_go_563 : decode cX5_go 563 = .ok (.return_, 1) := by decide +kernel
theorem dX5_go_564 : decode cX5_go 564 = .ok (.iload 5, 2) := by decide +kernel
theorem dX5_go_566 : decode cX5_go 566 = .ok (.bipush 25, 2) := by decide +kernel
theorem dX5_go_568 : decode cX5_go 568 = .ok (.if_icmp .ne 13, 3) := by decide +kernel
theorem dX5_go_571 : decode cX5_go 571 = .ok (.aload_n 0, 1) := by decide +kernel
theorem dX5_go_572 : decode cX5_go 572 = .ok (.getfield 62, 3) := by decide +kernel
theorem dX5_go_575 : decode cX5_go 575 = .ok (.iload 7, 2) := by decide +kernel
theorem dX5_go_577 : decode cX5_go 577 = .ok (.iaload, 1) := by decide +kernel
theorem dX5_go_578 : decode cX5_go 578 = .ok (.goto 10, 3) := by decide +kernel
theorem dX5_go_581 : decode cX5_go 581 = .ok (.aload_n 0, 1) := by decide +kernel
theorem dX5_go_582 : decode cX5_go 582 = .ok (.getfield 62, 3) := by decide +kernel
theorem dX5_go_585 : decode cX5_go 585 = .ok (.iload 6, 2) := by decide +kernel
theorem dX5_go_587 : decode cX5_go 587 = .ok (.iaload, 1) := by decide +kernel
theorem dX5_go_588 : decode cX5_go 588 = .ok (.istore 12, 2) := by decide +kernel
theorem dX5_go_590 : decode cX5_go 590 = .ok (.iload 12, 2) := by decide +kernel
theorem dX5_go_592 : decode cX5_go 592 = .ok (.ifCond .lt 14, 3) := by decide +kernel
theorem dX5_go_595 : decode cX5_go 595 = .ok (.iload 12, 2) := by decide +kernel
theorem dX5_go_597 : decode cX5_go 597 = .ok (.bipush 8, 2) := by decide +kernel
theorem dX5_go_599 : decode cX5_go 599 = .ok (.if_icmp .ge 7, 3) := by decide +kernel
theorem dX5_go_602 : decode cX5_go 602 = .ok (.iconst 1, 1) := by decide +kernel
theorem dX5_go_603 : decode cX5_go 603 = .ok (.goto 4, 3) := by decide +kernel
theorem dX5_go_606 : decode cX5_go 606 = .ok (.iconst 0, 1) := by decide +kernel
theorem dX5_go_607 : decode cX5_go 607 = .ok (.istore 13, 2) := by decide +kernel
theorem dX5_go_609 : decode cX5_go 609 = .ok (.iload 5, 2) := by decide +kernel
theorem dX5_go_611 : decode cX5_go 611 = .ok (.bipush 25, 2) := by decide +kernel
theorem dX5_go_613 : decode cX5_go 613 = .ok (.if_icmp .ne 29, 3) := by decide +kernel
theorem dX5_go_616 : decode cX5_go 616 = .ok (.aload_n 0, 1) := by decide +kernel
theorem dX5_go_617 : decode cX5_go 617 = .ok (.getfield 62, 3) := by decide +kernel
theorem dX5_go_620 : decode cX5_go 620 = .ok (.iload 6, 2) := by decide +kernel
theorem dX5_go_622 : decode cX5_go 622 = .ok (.iload 13, 2) := by decide +kernel
theorem dX5_go_624 : decode cX5_go 624 = .ok (.ifCond .eq 13, 3) := by decide +kernel
theorem dX5_go_627 : decode cX5_go 627 = .ok (.aload_n 0, 1) := by decide +kernel
theorem dX5_go_628 : decode cX5_go 628 = .ok (.getfield 65, 3) := by decide +kernel
theorem dX5_go_631 : decode cX5_go 631 = .ok (.iload 12, 2) := by decide +kernel
theorem dX5_go_633 : decode cX5_go 633 = .ok (.iaload, 1) := by decide +kernel
theorem dX5_go_634 : decode cX5_go 634 = .ok (.goto 4, 3) := by decide +kernel
theorem dX5_go_637 : decode cX5_go 637 = .ok (.iconst 0, 1) := by decide +kernel
theorem dX5_go_638 : decode cX5_go 638 = .ok (.iastore, 1) := by decide +kernel
theorem dX5_go_639 : decode cX5_go 639 = .ok (.goto 22, 3) := by decide +kernel
theorem dX5_go_642 : decode cX5_go 642 = .ok (.iload 13, 2) := by decide +kernel
theorem dX5_go_644 : decode cX5_go 644 = .ok (.ifCond .eq 17, 3) := by decide +kernel
theorem dX5_go_647 : decode cX5_go 647 = .ok (.aload_n 0, 1) := by decide +kernel
theorem dX5_go_648 : decode cX5_go 648 = .ok (.getfield 65, 3) := by decide +kernel
theorem dX5_go_651 : decode cX5_go 651 = .ok (.iload 12, 2) := by decide +kernel
theorem dX5_go_653 : decode cX5_go 653 = .ok (.aload_n 0, 1) := by decide +kernel
theorem dX5_go_654 : decode cX5_go 654 = .ok (.getfield 62, 3) := by decide +kernel
theorem dX5_go_657 : decode cX5_go 657 = .ok (.iload 7, 2) := by decide +kernel
end
section
theorem dX5_go_659 : decode cX5_go 659 = .ok (.iaload, 1) := by decide +kernel
theorem dX5_go_660 : decode cX5_go 660 = .ok (.iastore, 1) := by decide +kernel
theorem dX5_go_661 : decode cX5_go 661 = .ok (.goto 100, 3) := by decide +kernel
theorem dX5_go_664 : decode cX5_go 664 = .ok (.iload 5, 2) := by decide +kernel
theorem dX5_go_666 : decode cX5_go 666 = .ok (.bipush 27, 2) := by decide +kernel
theorem dX5_go_668 : decode cX5_go 668 = .ok (.if_icmp .ne 20, 3) := by decide +kernel
theorem dX5_go_671 : decode cX5_go 671 = .ok (.iload 11, 2) := by decide +kernel
theorem dX5_go_673 : decode cX5_go 673 = .ok (.ifCond .eq 8, 3) := by decide +kernel
theorem dX5_go_676 : decode cX5_go 676 = .ok (.iload 7, 2) := by decide +kernel
theorem dX5_go_678 : decode cX5_go 678 = .ok (.goto 5, 3) := by decide +kernel
theorem dX5_go_681 : decode cX5_go 681 = .ok (.iload 9, 2) := by decide +kernel
theorem dX5_go_683 : decode cX5_go 683 = .ok (.istore 9, 2) := by decide +kernel
theorem dX5_go_685 : decode cX5_go 685 = .ok (.goto 76, 3) := by decide +kernel
theorem dX5_go_688 : decode cX5_go 688 = .ok (.iload 5, 2) := by decide +kernel
theorem dX5_go_690 : decode cX5_go 690 = .ok (.bipush 28, 2) := by decide +kernel
theorem dX5_go_692 : decode cX5_go 692 = .ok (.if_icmp .ne 10, 3) := by decide +kernel
theorem dX5_go_695 : decode cX5_go 695 = .ok (.iload 6, 2) := by decide +kernel
theorem dX5_go_697 : decode cX5_go 697 = .ok (.istore 9, 2) := by decide +kernel
theorem dX5_go_699 : decode cX5_go 699 = .ok (.goto 62, 3) := by decide +kernel
theorem dX5_go_702 : decode cX5_go 702 = .ok (.iload 5, 2) := by decide +kernel
theorem dX5_go_704 : decode cX5_go 704 = .ok (.bipush 29, 2) := by decide +kernel
theorem dX5_go_706 : decode cX5_go 706 = .ok (.if_icmp .ne 17, 3) := by decide +kernel
theorem dX5_go_709 : decode cX5_go 709 = .ok (.iload 11, 2) := by decide +kernel
theorem dX5_go_711 : decode cX5_go 711 = .ok (.ifCond .ne 50, 3) := by decide +kernel
theorem dX5_go_714 : decode cX5_go 714 = .ok (.aload_n 0, 1) := by decide +kernel
theorem dX5_go_715 : decode cX5_go 715 = .ok (.iconst 3, 1) := by decide +kernel
theorem dX5_go_716 : decode cX5_go 716 = .ok (.iload 4, 2) := by decide +kernel
theorem dX5_go_718 : decode cX5_go 718 = .ok (.iconst 0, 1) := by decide +kernel
theorem dX5_go_719 : decode cX5_go 719 = .ok (.invokevirtual 155, 3) := by decide +kernel
theorem dX5_go_722 : decode cX5_go 722 = .ok (.return_, 1) := by decide +kernel
theorem dX5_go_723 : decode cX5_go 723 = .ok (.aload_n 0, 1) := by decide +kernel
theorem dX5_go_724 : decode cX5_go 724 = .ok (.iload 5, 2) := by decide +kernel
theorem dX5_go_726 : decode cX5_go 726 = .ok (.bipush 30, 2) := by decide +kernel
theorem dX5_go_728 : decode cX5_go 728 = .ok (.if_icmp .ne 7, 3) := by decide +kernel
theorem dX5_go_731 : decode cX5_go 731 = .ok (.iconst 4, 1) := by decide +kernel
theorem dX5_go_732 : decode cX5_go 732 = .ok (.goto 4, 3) := by decide +kernel
theorem dX5_go_735 : decode cX5_go 735 = .ok (.iconst 0, 1) := by decide +kernel
theorem dX5_go_736 : decode cX5_go 736 = .ok (.iload 4, 2) := by decide +kernel
theorem dX5_go_738 : decode cX5_go 738 = .ok (.iload 5, 2) := by decide +kernel
theorem dX5_go_740 : decode cX5_go 740 = .ok (.bipush 30, 2) := by decide +kernel
theorem dX5_go_742 : decode cX5_go 742 = .ok (.if_icmp .ne 8, 3) := by decide +kernel
theorem dX5_go_745 : decode cX5_go 745 = .ok (.iload 6, 2) := by decide +kernel
theorem dX5_go_747 : decode cX5_go 747 = .ok (.goto 10, 3) := by decide +kernel
theorem dX5_go_750 : decode cX5_go 750 = .ok (.aload_n 0, 1) := by decide +kernel
theorem dX5_go_751 : decode cX5_go 751 = .ok (.getfield 62, 3) := by decide +kernel
theorem dX5_go_754 : decode cX5_go 754 = .ok (.iload 6, 2) := by decide +kernel
theorem dX5_go_756 : decode cX5_go 756 = .ok (.iaload, 1) := by decide +kernel
theorem dX5_go_757 : decode cX5_go 757 = .ok (.invokevirtual 155, 3) := by decide +kernel
theorem dX5_go_760 : decode cX5_go 760 = .ok (.return_, 1) := by decide +kernel
theorem dX5_go_761 : decode cX5_go 761 = .ok (.iload 9, 2) := by decide +kernel
theorem dX5_go_763 : decode cX5_go 763 = .ok (.istore 4, 2) := by decide +kernel
theorem dX5_go_765 : decode cX5_go 765 = .ok (.goto (-704), 3) := by decide +kernel
theorem dX5_go_768 : decode cX5_go 768 = .ok (.aload_n 0, 1) := by decide +kernel
theorem dX5_go_769 : decode cX5_go 769 = .ok (.iconst 0, 1) := by decide +kernel
theorem dX5_go_770 : decode cX5_go 770 = .ok (.aload_n 0, 1) := by decide +kernel
theorem dX5_go_771 : decode cX5_go 771 = .ok (.getfield 93, 3) := by decide +kernel
theorem dX5_go_774 : decode cX5_go 774 = .ok (.iconst 0, 1) := by decide +kernel
theorem dX5_go_775 : decode cX5_go 775 = .ok (.invokevirtual 155, 3) := by decide +kernel
theorem dX5_go_778 : decode cX5_go 778 = .ok (.return_, 1) := by decide +kernel
theorem dX5_isPath_0 : decode cX5_isPath 0 = .ok (.aload_n 0, 1) := by decide +kernel
theorem dX5_isPath_1 : decode cX5_isPath 1 = .ok (.getfield 39, 3) := by decide +kernel
theorem dX5_isPath_4 : decode cX5_isPath 4 = .ok (.iload_n 1, 1) := by decide +kernel
theorem dX5_isPath_5 : decode cX5_isPath 5 = .ok (.iaload, 1) := by decide +kernel
theorem dX5_isPath_6 : decode cX5_isPath 6 = .ok (.aload_n 0, 1) := by decide +kernel
theorem dX5_isPath_7 : decode cX5_isPath 7 = .ok (.getfield 148, 3) := by decide +kernel
theorem dX5_isPath_10 : decode cX5_isPath 10 = .ok (.if_icmp .ne 7, 3) := by decide +kernel
theorem dX5_isPath_13 : decode cX5_isPath 13 = .ok (.iconst 1, 1) := by decide +kernel
theorem dX5_isPath_14 : decode cX5_isPath 14 = .ok (.goto 4, 3) := by decide +kernel
theorem dX5_isPath_17 : decode cX5_isPath 17 = .ok (.iconst 0, 1) := by decide +kernel
theorem dX5_isPath_18 : decode cX5_isPath 18 = .ok (.istore_n 2, 1) := by decide +kernel
theorem dX5_isPath_19 : decode cX5_isPath 19 = .ok (.iconst 0, 1) := by decide +kernel
theorem dX5_isPath_20 : decode cX5_isPath 20 = .ok (.istore_n 3, 1) := by decide +kernel
theorem dX5_isPath_21 : decode cX5_isPath 21 = .ok (.iload_n 3, 1) := by decide +kernel
theorem dX5_isPath_22 : decode cX5_isPath 22 = .ok (.aload_n 0, 1) := by decide +kernel
theorem dX5_isPath_23 : decode cX5_isPath 23 = .ok (.getfield 148, 3) := by decide +kernel
theorem dX5_isPath_26 : decode cX5_isPath 26 = .ok (.if_icmp .ge 36, 3) := by decide +kernel
theorem dX5_isPath_29 : decode cX5_isPath 29 = .ok (.iload_n 2, 1) := by decide +kernel
theorem dX5_isPath_30 : decode cX5_isPath 30 = .ok (.ifCond .eq 32, 3) := by decide +kernel
theorem dX5_isPath_33 : decode cX5_isPath 33 = .ok (.aload_n 0, 1) := by decide +kernel
theorem dX5_isPath_34 : decode cX5_isPath 34 = .ok (.getfield 50, 3) := by decide +kernel
theorem dX5_isPath_37 : decode cX5_isPath 37 = .ok (.iload_n 1, 1) := by decide +kernel
theorem dX5_isPath_38 : decode cX5_isPath 38 = .ok (.aaload, 1) := by decide +kernel
theorem dX5_isPath_39 : decode cX5_isPath 39 = .ok (.iload_n 3, 1) := by decide +kernel
theorem dX5_isPath_40 : decode cX5_isPath 40 = .ok (.iaload, 1) := by decide +kernel
theorem dX5_isPath_41 : decode cX5_isPath 41 = .ok (.aload_n 0, 1) := by decide +kernel
theorem dX5_isPath_42 : decode cX5_isPath 42 = .ok (.getfield 68, 3) := by decide +kernel
theorem dX5_isPath_45 : decode cX5_isPath 45 = .ok (.iload_n 3, 1) := by decide +kernel
theorem dX5_isPath_46 : decode cX5_isPath 46 = .ok (.iaload, 1) := by decide +kernel
theorem dX5_isPath_47 : decode cX5_isPath 47 = .ok (.if_icmp .ne 7, 3) := by decide +kernel
theorem dX5_isPath_50 : decode cX5_isPath 50 = .ok (.iconst 1, 1) := by decide +kernel
theorem dX5_isPath_51 : decode cX5_isPath 51 = .ok (.goto 4, 3) := by decide +kernel
theorem dX5_isPath_54 : decode cX5_isPath 54 = .ok (.iconst 0, 1) := by decide +kernel
theorem dX5_isPath_55 : decode cX5_isPath 55 = .ok (.istore_n 2, 1) := by decide +kernel
theorem dX5_isPath_56 : decode cX5_isPath 56 = .ok (.iinc 3 1, 3) := by decide +kernel
theorem dX5_isPath_59 : decode cX5_isPath 59 = .ok (.goto (-38), 3) := by decide +kernel
theorem dX5_isPath_62 : decode cX5_isPath 62 = .ok (.iload_n 2, 1) := by decide +kernel
theorem dX5_isPath_63 : decode cX5_isPath 63 = .ok (.ireturn, 1) := by decide +kernel
theorem dX5_explore_0 : decode cX5_explore 0 = .ok (.aload_n 0, 1) := by decide +kernel
theorem dX5_explore_1 : decode cX5_explore 1 = .ok (.iconst (-1), 1) := by decide +kernel
theorem dX5_explore_2 : decode cX5_explore 2 = .ok (.putfield 29, 3) := by decide +kernel
theorem dX5_explore_5 : decode cX5_explore 5 = .ok (.iconst 0, 1) := by decide +kernel
theorem dX5_explore_6 : decode cX5_explore 6 = .ok (.istore_n 1, 1) := by decide +kernel
theorem dX5_explore_7 : decode cX5_explore 7 = .ok (.iconst 0, 1) := by decide +kernel
theorem dX5_explore_8 : decode cX5_explore 8 = .ok (.istore_n 2, 1) := by decide +kernel
theorem dX5_explore_9 : decode cX5_explore 9 = .ok (.iload_n 2, 1) := by decide +kernel
theorem dX5_explore_10 : decode cX5_explore 10 = .ok (.bipush 60, 2) := by decide +kernel
theorem dX5_explore_12 : decode cX5_explore 12 = .ok (.if_icmp .ge 16, 3) := by decide +kernel
theorem dX5_explore_15 : decode cX5_explore 15 = .ok (.aload_n 0, 1) := by decide +kernel
theorem dX5_explore_16 : decode cX5_explore 16 = .ok (.getfield 59, 3) := by decide +kernel
theorem dX5_explore_19 : decode cX5_explore 19 = .ok (.iload_n 2, 1) := by decide +kernel
theorem dX5_explore_20 : decode cX5_explore 20 = .ok (.iconst 0, 1) := by decide +kernel
theorem dX5_explore_21 : decode cX5_explore 21 = .ok (.bastore, 1) := by decide +kernel
theorem dX5_explore_22 : decode cX5_explore 22 = .ok (.iinc 2 1, 3) := by decide +kernel
theorem dX5_explore_25 : decode cX5_explore 25 = .ok (.goto (-16), 3) := by decide +kernel
theorem dX5_explore_28 : decode cX5_explore 28 = .ok (.iconst 0, 1) := by decide +kernel
theorem dX5_explore_29 : decode cX5_explore 29 = .ok (.istore_n 2, 1) := by decide +kernel
theorem dX5_explore_30 : decode cX5_explore 30 = .ok (.iload_n 2, 1) := by decide +kernel
theorem dX5_explore_31 : decode cX5_explore 31 = .ok (.aload_n 0, 1) := by decide +kernel
theorem dX5_explore_32 : decode cX5_explore 32 = .ok (.invokevirtual 163, 3) := by decide +kernel
theorem dX5_explore_35 : decode cX5_explore 35 = .ok (.if_icmp .ge 186, 3) := by decide +kernel
theorem dX5_explore_38 : decode cX5_explore 38 = .ok (.aload_n 0, 1) := by decide +kernel
theorem dX5_explore_39 : decode cX5_explore 39 = .ok (.iload_n 2, 1) := by decide +kernel
theorem dX5_explore_40 : decode cX5_explore 40 = .ok (.aconst_null, 1) := by decide +kernel
theorem dX5_explore_41 : decode cX5_explore 41 = .ok (.iconst 1, 1) := by decide +kernel
theorem dX5_explore_42 : decode cX5_explore 42 = .ok (.invokevirtual 167, 3) := by decide +kernel
theorem dX5_explore_45 : decode cX5_explore 45 = .ok (.iconst 0, 1) := by decide +kernel
theorem dX5_explore_46 : decode cX5_explore 46 = .ok (.istore_n 3, 1) := by decide +kernel
theorem dX5_explore_47 : decode cX5_explore 47 = .ok (.iload_n 3, 1) := by decide +kernel
theorem dX5_explore_48 : decode cX5_explore 48 = .ok (.iload_n 1, 1) := by decide +kernel
theorem dX5_explore_49 : decode cX5_explore 49 = .ok (.if_icmp .ge 17, 3) := by decide +kernel
theorem dX5_explore_52 : decode cX5_explore 52 = .ok (.aload_n 0, 1) := by decide +kernel
theorem dX5_explore_53 : decode cX5_explore 53 = .ok (.iload_n 3, 1) := by decide +kernel
theorem dX5_explore_54 : decode cX5_explore 54 = .ok (.invokevirtual 171, 3) := by decide +kernel
theorem dX5_explore_57 : decode cX5_explore 57 = .ok (.ifCond .ne 9, 3) := by decide +kernel
theorem dX5_explore_60 : decode cX5_explore 60 = .ok (.iinc 3 1, 3) := by decide +kernel
theorem dX5_explore_63 : decode cX5_explore 63 = .ok (.goto (-16), 3) := by decide +kernel
theorem dX5_explore_66 : decode cX5_explore 66 = .ok (.iload_n 3, 1) := by decide +kernel
theorem dX5_explore_67 : decode cX5_explore 67 = .ok (.bipush 40, 2) := by decide +kernel
theorem dX5_explore_69 : decode cX5_explore 69 = .ok (.if_icmp .ne 5, 3) := by decide +kernel
theorem dX5_explore_72 : decode cX5_explore 72 = .ok (.iconst (-1), 1) := by decide +kernel
theorem dX5_explore_73 : decode cX5_explore 73 = .ok (.ireturn, 1) := by decide +kernel
theorem dX5_explore_74 : decode cX5_explore 74 = .ok (.iload_n 3, 1) := by decide +kernel
theorem dX5_explore_75 : decode cX5_explore 75 = .ok (.iload_n 1, 1) := by decide +kernel
theorem dX5_explore_76 : decode cX5_explore 76 = .ok (.if_icmp .ne 84, 3) := by decide +kernel
theorem dX5_explore_79 : decode cX5_explore 79 = .ok (.iinc 1 1, 3) := by decide +kernel
theorem dX5_explore_82 : decode cX5_explore 82 = .ok (.aload_n 0, 1) := by decide +kernel
theorem dX5_explore_83 : decode cX5_explore 83 = .ok (.getfield 39, 3) := by decide +kernel
theorem dX5_explore_86 : decode cX5_explore 86 = .ok (.iload_n 3, 1) := by decide +kernel
theorem dX5_explore_87 : decode cX5_explore 87 = .ok (.aload_n 0, 1) := by decide +kernel
theorem dX5_explore_88 : decode cX5_explore 88 = .ok (.getfield 148, 3) := by decide +kernel
theorem dX5_explore_91 : decode cX5_explore 91 = .ok (.iastore, 1) := by decide +kernel
theorem dX5_explore_92 : decode cX5_explore 92 = .ok (.iconst 0, 1) := by decide +kernel
theorem dX5_explore_93 : decode cX5_explore 93 = .ok (.istore 4, 2) := by decide +kernel
theorem dX5_explore_95 : decode cX5_explore 95 = .ok (.iload 4, 2) := by decide +kernel
theorem dX5_explore_97 : decode cX5_explore 97 = .ok (.aload_n 0, 1) := by decide +kernel
theorem dX5_explore_98 : decode cX5_explore 98 = .ok (.getfield 148, 3) := by decide +kernel
theorem dX5_explore_101 : decode cX5_explore 101 = .ok (.if_icmp .ge 25, 3) := by decide +kernel
theorem dX5_explore_104 : decode cX5_explore 104 = .ok (.aload_n 0, 1) := by decide +kernel
theorem dX5_explore_105 : decode cX5_explore 105 = .ok (.getfield 50, 3) := by decide +kernel
theorem dX5_explore_108 : decode cX5_explore 108 = .ok (.iload_n 3, 1) := by decide +kernel
theorem dX5_explore_109 : decode cX5_explore 109 = .ok (.aaload, 1) := by decide +kernel
theorem dX5_explore_110 : decode cX5_explore 110 = .ok (.iload 4, 2) := by decide +kernel
theorem dX5_explore_112 : decode cX5_explore 112 = .ok (.aload_n 0, 1) := by decide +kernel
theorem dX5_explore_113 : decode cX5_explore 113 = .ok (.getfield 68, 3) := by decide +kernel
theorem dX5_explore_116 : decode cX5_explore 116 = .ok (.iload 4, 2) := by decide +kernel
theorem dX5_explore_118 : decode cX5_explore 118 = .ok (.iaload, 1) := by decide +kernel
theorem dX5_explore_119 : decode cX5_explore 119 = .ok (.iastore, 1) := by decide +kernel
theorem dX5_explore_120 : decode cX5_explore 120 = .ok (.iinc 4 1, 3) := by decide +kernel
theorem dX5_explore_123 : decode cX5_explore 123 = .ok (.goto (-28), 3) := by decide +kernel
theorem dX5_explore_126 : decode cX5_explore 126 = .ok (.aload_n 0, 1) := by decide +kernel
theorem dX5_explore_127 : decode cX5_explore 127 = .ok (.getfield 33, 3) := by decide +kernel
theorem dX5_explore_130 : decode cX5_explore 130 = .ok (.iload_n 3, 1) := by decide +kernel
theorem dX5_explore_131 : decode cX5_explore 131 = .ok (.aload_n 0, 1) := by decide +kernel
theorem dX5_explore_132 : decode cX5_explore 132 = .ok (.getfield 136, 3) := by decide +kernel
theorem dX5_explore_135 : decode cX5_explore 135 = .ok (.iastore, 1) := by decide +kernel
theorem dX5_explore_136 : decode cX5_explore 136 = .ok (.aload_n 0, 1) := by decide +kernel
theorem dX5_explore_137 : decode cX5_explore 137 = .ok (.getfield 36, 3) := by decide +kernel
theorem dX5_explore_140 : decode cX5_explore 140 = .ok (.iload_n 3, 1) := by decide +kernel
theorem dX5_explore_141 : decode cX5_explore 141 = .ok (.aload_n 0, 1) := by decide +kernel
theorem dX5_explore_142 : decode cX5_explore 142 = .ok (.getfield 139, 3) := by decide +kernel
theorem dX5_explore_145 : decode cX5_explore 145 = .ok (.iastore, 1) := by decide +kernel
theorem dX5_explore_146 : decode cX5_explore 146 = .ok (.aload_n 0, 1) := by decide +kernel
theorem dX5_explore_147 : decode cX5_explore 147 = .ok (.getfield 42, 3) := by decide +kernel
theorem dX5_explore_150 : decode cX5_explore 150 = .ok (.iload_n 3, 1) := by decide +kernel
theorem dX5_explore_151 : decode cX5_explore 151 = .ok (.iload_n 2, 1) := by decide +kernel
theorem dX5_explore_152 : decode cX5_explore 152 = .ok (.iastore, 1) := by decide +kernel
theorem dX5_explore_153 : decode cX5_explore 153 = .ok (.aload_n 0, 1) := by decide +kernel
theorem dX5_explore_154 : decode cX5_explore 154 = .ok (.getfield 45, 3) := by decide +kernel
theorem dX5_explore_157 : decode cX5_explore 157 = .ok (.iload_n 3, 1) := by decide +kernel
theorem dX5_explore_158 : decode cX5_explore 158 = .ok (.iconst 1, 1) := by decide +kernel
theorem dX5_explore_159 : decode cX5_explore 159 = .ok (.bastore, 1) := by decide +kernel
theorem dX5_explore_160 : decode cX5_explore 160 = .ok (.aload_n 0, 1) := by decide +kernel
theorem dX5_explore_161 : decode cX5_explore 161 = .ok (.getfield 53, 3) := by decide +kernel
theorem dX5_explore_164 : decode cX5_explore 164 = .ok (.iload_n 2, 1) := by decide +kernel
theorem dX5_explore_165 : decode cX5_explore 165 = .ok (.iload_n 3, 1) := by decide +kernel
theorem dX5_explore_166 : decode cX5_explore 166 = .ok (.iastore, 1) := by decide +kernel
theorem dX5_explore_167 : decode cX5_explore 167 = .ok (.aload_n 0, 1) := by decide +kernel
theorem dX5_explore_168 : decode cX5_explore 168 = .ok (.getfield 56, 3) := by decide +kernel
theorem dX5_explore_171 : decode cX5_explore 171 = .ok (.iload_n 2, 1) := by decide +kernel
theorem dX5_explore_172 : decode cX5_explore 172 = .ok (.aload_n 0, 1) := by decide +kernel
theorem dX5_explore_173 : decode cX5_explore 173 = .ok (.getfield 142, 3) := by decide +kernel
theorem dX5_explore_176 : decode cX5_explore 176 = .ok (.iastore, 1) := by decide +kernel
theorem dX5_explore_177 : decode cX5_explore 177 = .ok (.aload_n 0, 1) := by decide +kernel
theorem dX5_explore_178 : decode cX5_explore 178 = .ok (.getfield 45, 3) := by decide +kernel
theorem dX5_explore_181 : decode cX5_explore 181 = .ok (.iload_n 3, 1) := by decide +kernel
theorem dX5_explore_182 : decode cX5_explore 182 = .ok (.aload_n 0, 1) := by decide +kernel
theorem dX5_explore_183 : decode cX5_explore 183 = .ok (.getfield 45, 3) := by decide +kernel
theorem dX5_explore_186 : decode cX5_explore 186 = .ok (.iload_n 3, 1) := by decide +kernel
theorem dX5_explore_187 : decode cX5_explore 187 = .ok (.baload, 1) := by decide +kernel
theorem dX5_explore_188 : decode cX5_explore 188 = .ok (.ifCond .eq 25, 3) := by decide +kernel
theorem dX5_explore_191 : decode cX5_explore 191 = .ok (.aload_n 0, 1) := by decide +kernel
theorem dX5_explore_192 : decode cX5_explore 192 = .ok (.getfield 142, 3) := by decide +kernel
theorem dX5_explore_195 : decode cX5_explore 195 = .ok (.aload_n 0, 1) := by decide +kernel
theorem dX5_explore_196 : decode cX5_explore 196 = .ok (.getfield 56, 3) := by decide +kernel
theorem dX5_explore_199 : decode cX5_explore 199 = .ok (.aload_n 0, 1) := by decide +kernel
theorem dX5_explore_200 : decode cX5_explore 200 = .ok (.getfield 42, 3) := by decide +kernel
theorem dX5_explore_203 : decode cX5_explore 203 = .ok (.iload_n 3, 1) := by decide +kernel
theorem dX5_explore_204 : decode cX5_explore 204 = .ok (.iaload, 1) := by decide +kernel
theorem dX5_explore_205 : decode cX5_explore 205 = .ok (.iaload, 1) := by decide +kernel
theorem dX5_explore_206 : decode cX5_explore 206 = .ok (.if_icmp .ne 7, 3) := by decide +kernel
theorem dX5_explore_209 : decode cX5_explore 209 = .ok (.iconst 1, 1) := by decide +kernel
theorem dX5_explore_210 : decode cX5_explore 210 = .ok (.goto 4, 3) := by decide +kernel
theorem dX5_explore_213 : decode cX5_explore 213 = .ok (.iconst 0, 1) := by decide +kernel
theorem dX5_explore_214 : decode cX5_explore 214 = .ok (.bastore, 1) := by decide +kernel
theorem dX5_explore_215 : decode cX5_explore 215 = .ok (.iinc 2 1, 3) := by decide +kernel
theorem dX5_explore_218 : decode cX5_explore 218 = .ok (.goto (-188), 3) := by decide +kernel
theorem dX5_explore_221 : decode cX5_explore 221 = .ok (.aload_n 0, 1) := by decide +kernel
theorem dX5_explore_222 : decode cX5_explore 222 = .ok (.iload_n 1, 1) := by decide +kernel
theorem dX5_explore_223 : decode cX5_explore 223 = .ok (.putfield 29, 3) := by decide +kernel
theorem dX5_explore_226 : decode cX5_explore 226 = .ok (.aload_n 0, 1) := by decide +kernel
theorem dX5_explore_227 : decode cX5_explore 227 = .ok (.invokevirtual 174, 3) := by decide +kernel
theorem dX5_explore_230 : decode cX5_explore 230 = .ok (.iload_n 1, 1) := by decide +kernel
theorem dX5_explore_231 : decode cX5_explore 231 = .ok (.ireturn, 1) := by decide +kernel
theorem dX5_isAhead_0 : decode cX5_isAhead 0 = .ok (.iconst 0, 1) := by decide +kernel
theorem dX5_isAhead_1 : decode cX5_isAhead 1 = .ok (.istore_n 3, 1) := by decide +kernel
theorem dX5_isAhead_2 : decode cX5_isAhead 2 = .ok (.iload_n 3, 1) := by decide +kernel
theorem dX5_isAhead_3 : decode cX5_isAhead 3 = .ok (.aload_n 0, 1) := by decide +kernel
theorem dX5_isAhead_4 : decode cX5_isAhead 4 = .ok (.getfield 39, 3) := by decide +kernel
theorem dX5_isAhead_7 : decode cX5_isAhead 7 = .ok (.iload_n 1, 1) := by decide +kernel
theorem dX5_isAhead_8 : decode cX5_isAhead 8 = .ok (.iaload, 1) := by decide +kernel
theorem dX5_isAhead_9 : decode cX5_isAhead 9 = .ok (.if_icmp .ge 38, 3) := by decide +kernel
theorem dX5_isAhead_12 : decode cX5_isAhead 12 = .ok (.iload_n 3, 1) := by decide +kernel
theorem dX5_isAhead_13 : decode cX5_isAhead 13 = .ok (.aload_n 0, 1) := by decide +kernel
theorem dX5_isAhead_14 : decode cX5_isAhead 14 = .ok (.getfield 39, 3) := by decide +kernel
theorem dX5_isAhead_17 : decode cX5_isAhead 17 = .ok (.iload_n 2, 1) := by decide +kernel
theorem dX5_isAhead_18 : decode cX5_isAhead 18 = .ok (.iaload, 1) := by decide +kernel
theorem dX5_isAhead_19 : decode cX5_isAhead 19 = .ok (.if_icmp .ge 28, 3) := by decide +kernel
theorem dX5_isAhead_22 : decode cX5_isAhead 22 = .ok (.aload_n 0, 1) := by decide +kernel
theorem dX5_isAhead_23 : decode cX5_isAhead 23 = .ok (.getfield 50, 3) := by decide +kernel
theorem dX5_isAhead_26 : decode cX5_isAhead 26 = .ok (.iload_n 1, 1) := by decide +kernel
theorem dX5_isAhead_27 : decode cX5_isAhead 27 = .ok (.aaload, 1) := by decide +kernel
theorem dX5_isAhead_28 : decode cX5_isAhead 28 = .ok (.iload_n 3, 1) := by decide +kernel
theorem dX5_isAhead_29 : decode cX5_isAhead 29 = .ok (.iaload, 1) := by decide +kernel
theorem dX5_isAhead_30 : decode cX5_isAhead 30 = .ok (.aload_n 0, 1) := by decide +kernel
theorem dX5_isAhead_31 : decode cX5_isAhead 31 = .ok (.getfield 50, 3) := by decide +kernel
theorem dX5_isAhead_34 : decode cX5_isAhead 34 = .ok (.iload_n 2, 1) := by decide +kernel
theorem dX5_isAhead_35 : decode cX5_isAhead 35 = .ok (.aaload, 1) := by decide +kernel
theorem dX5_isAhead_36 : decode cX5_isAhead 36 = .ok (.iload_n 3, 1) := by decide +kernel
theorem dX5_isAhead_37 : decode cX5_isAhead 37 = .ok (.iaload, 1) := by decide +kernel
theorem dX5_isAhead_38 : decode cX5_isAhead 38 = .ok (.if_icmp .ne 9, 3) := by decide +kernel
theorem dX5_isAhead_41 : decode cX5_isAhead 41 = .ok (.iinc 3 1, 3) := by decide +kernel
theorem dX5_isAhead_44 : decode cX5_isAhead 44 = .ok (.goto (-42), 3) := by decide +kernel
theorem dX5_isAhead_47 : decode cX5_isAhead 47 = .ok (.iload_n 3, 1) := by decide +kernel
theorem dX5_isAhead_48 : decode cX5_isAhead 48 = .ok (.aload_n 0, 1) := by decide +kernel
theorem dX5_isAhead_49 : decode cX5_isAhead 49 = .ok (.getfield 39, 3) := by decide +kernel
theorem dX5_isAhead_52 : decode cX5_isAhead 52 = .ok (.iload_n 1, 1) := by decide +kernel
theorem dX5_isAhead_53 : decode cX5_isAhead 53 = .ok (.iaload, 1) := by decide +kernel
theorem dX5_isAhead_54 : decode cX5_isAhead 54 = .ok (.if_icmp .ge 36, 3) := by decide +kernel
theorem dX5_isAhead_57 : decode cX5_isAhead 57 = .ok (.iload_n 3, 1) := by decide +kernel
theorem dX5_isAhead_58 : decode cX5_isAhead 58 = .ok (.aload_n 0, 1) := by decide +kernel
theorem dX5_isAhead_59 : decode cX5_isAhead 59 = .ok (.getfield 39, 3) := by decide +kernel
theorem dX5_isAhead_62 : decode cX5_isAhead 62 = .ok (.iload_n 2, 1) := by decide +kernel
theorem dX5_isAhead_63 : decode cX5_isAhead 63 = .ok (.iaload, 1) := by decide +kernel
theorem dX5_isAhead_64 : decode cX5_isAhead 64 = .ok (.if_icmp .ge 26, 3) := by decide +kernel
theorem dX5_isAhead_67 : decode cX5_isAhead 67 = .ok (.aload_n 0, 1) := by decide +kernel
theorem dX5_isAhead_68 : decode cX5_isAhead 68 = .ok (.getfield 50, 3) := by decide +kernel
theorem dX5_isAhead_71 : decode cX5_isAhead 71 = .ok (.iload_n 1, 1) := by decide +kernel
theorem dX5_isAhead_72 : decode cX5_isAhead 72 = .ok (.aaload, 1) := by decide +kernel
theorem dX5_isAhead_73 : decode cX5_isAhead 73 = .ok (.iload_n 3, 1) := by decide +kernel
theorem dX5_isAhead_74 : decode cX5_isAhead 74 = .ok (.iaload, 1) := by decide +kernel
theorem dX5_isAhead_75 : decode cX5_isAhead 75 = .ok (.aload_n 0, 1) := by decide +kernel
theorem dX5_isAhead_76 : decode cX5_isAhead 76 = .ok (.getfield 50, 3) := by decide +kernel
theorem dX5_isAhead_79 : decode cX5_isAhead 79 = .ok (.iload_n 2, 1) := by decide +kernel
theorem dX5_isAhead_80 : decode cX5_isAhead 80 = .ok (.aaload, 1) := by decide +kernel
theorem dX5_isAhead_81 : decode cX5_isAhead 81 = .ok (.iload_n 3, 1) := by decide +kernel
theorem dX5_isAhead_82 : decode cX5_isAhead 82 = .ok (.iaload, 1) := by decide +kernel
theorem dX5_isAhead_83 : decode cX5_isAhead 83 = .ok (.if_icmp .le 7, 3) := by decide +kernel
theorem dX5_isAhead_86 : decode cX5_isAhead 86 = .ok (.iconst 1, 1) := by decide +kernel
theorem dX5_isAhead_87 : decode cX5_isAhead 87 = .ok (.goto 4, 3) := by decide +kernel
theorem dX5_isAhead_90 : decode cX5_isAhead 90 = .ok (.iconst 0, 1) := by decide +kernel
theorem dX5_isAhead_91 : decode cX5_isAhead 91 = .ok (.ireturn, 1) := by decide +kernel
theorem dX5_order_0 : decode cX5_order 0 = .ok (.iconst 0, 1) := by decide +kernel
theorem dX5_order_1 : decode cX5_order 1 = .ok (.istore_n 1, 1) := by decide +kernel
theorem dX5_order_2 : decode cX5_order 2 = .ok (.iload_n 1, 1) := by decide +kernel
theorem dX5_order_3 : decode cX5_order 3 = .ok (.aload_n 0, 1) := by decide +kernel
theorem dX5_order_4 : decode cX5_order 4 = .ok (.getfield 29, 3) := by decide +kernel
theorem dX5_order_7 : decode cX5_order 7 = .ok (.if_icmp .ge 42, 3) := by decide +kernel
theorem dX5_order_10 : decode cX5_order 10 = .ok (.iload_n 1, 1) := by decide +kernel
theorem dX5_order_11 : decode cX5_order 11 = .ok (.iconst 1, 1) := by decide +kernel
theorem dX5_order_12 : decode cX5_order 12 = .ok (.iadd, 1) := by decide +kernel
theorem dX5_order_13 : decode cX5_order 13 = .ok (.istore_n 2, 1) := by decide +kernel
theorem dX5_order_14 : decode cX5_order 14 = .ok (.iload_n 2, 1) := by decide +kernel
theorem dX5_order_15 : decode cX5_order 15 = .ok (.aload_n 0, 1) := by decide +kernel
theorem dX5_order_16 : decode cX5_order 16 = .ok (.getfield 29, 3) := by decide +kernel
theorem dX5_order_19 : decode cX5_order 19 = .ok (.if_icmp .ge 24, 3) := by decide +kernel
theorem dX5_order_22 : decode cX5_order 22 = .ok (.aload_n 0, 1) := by decide +kernel
theorem dX5_order_23 : decode cX5_order 23 = .ok (.iload_n 2, 1) := by decide +kernel
theorem dX5_order_24 : decode cX5_order 24 = .ok (.iload_n 1, 1) := by decide +kernel
theorem dX5_order_25 : decode cX5_order 25 = .ok (.invokevirtual 177, 3) := by decide +kernel
theorem dX5_order_28 : decode cX5_order 28 = .ok (.ifCond .eq 9, 3) := by decide +kernel
theorem dX5_order_31 : decode cX5_order 31 = .ok (.aload_n 0, 1) := by decide +kernel
theorem dX5_order_32 : decode cX5_order 32 = .ok (.iload_n 1, 1) := by decide +kernel
theorem dX5_order_33 : decode cX5_order 33 = .ok (.iload_n 2, 1) := by decide +kernel
theorem dX5_order_34 : decode cX5_order 34 = .ok (.invokevirtual 180, 3) := by decide +kernel
theorem dX5_order_37 : decode cX5_order 37 = .ok (.iinc 2 1, 3) := by decide +kernel
theorem dX5_order_40 : decode cX5_order 40 = .ok (.goto (-26), 3) := by decide +kernel
theorem dX5_order_43 : decode cX5_order 43 = .ok (.iinc 1 1, 3) := by decide +kernel
theorem dX5_order_46 : decode cX5_order 46 = .ok (.goto (-44), 3) := by decide +kernel
theorem dX5_order_49 : decode cX5_order 49 = .ok (.return_, 1) := by decide +kernel
theorem dX5_turn_0 : decode cX5_turn 0 = .ok (.aload_n 0, 1) := by decide +kernel
theorem dX5_turn_1 : decode cX5_turn 1 = .ok (.iload_n 1, 1) := by decide +kernel
theorem dX5_turn_2 : decode cX5_turn 2 = .ok (.iaload, 1) := by decide +kernel
theorem dX5_turn_3 : decode cX5_turn 3 = .ok (.istore_n 3, 1) := by decide +kernel
theorem dX5_turn_4 : decode cX5_turn 4 = .ok (.aload_n 0, 1) := by decide +kernel
theorem dX5_turn_5 : decode cX5_turn 5 = .ok (.iload_n 1, 1) := by decide +kernel
theorem dX5_turn_6 : decode cX5_turn 6 = .ok (.aload_n 0, 1) := by decide +kernel
theorem dX5_turn_7 : decode cX5_turn 7 = .ok (.iload_n 2, 1) := by decide +kernel
theorem dX5_turn_8 : decode cX5_turn 8 = .ok (.iaload, 1) := by decide +kernel
theorem dX5_turn_9 : decode cX5_turn 9 = .ok (.iastore, 1) := by decide +kernel
theorem dX5_turn_10 : decode cX5_turn 10 = .ok (.aload_n 0, 1) := by decide +kernel
theorem dX5_turn_11 : decode cX5_turn 11 = .ok (.iload_n 2, 1) := by decide +kernel
theorem dX5_turn_12 : decode cX5_turn 12 = .ok (.iload_n 3, 1) := by decide +kernel
theorem dX5_turn_13 : decode cX5_turn 13 = .ok (.iastore, 1) := by decide +kernel
theorem dX5_turn_14 : decode cX5_turn 14 = .ok (.return_, 1) := by decide +kernel
theorem dX5_exchange_0 : decode cX5_exchange 0 = .ok (.aload_n 0, 1) := by decide +kernel
theorem dX5_exchange_1 : decode cX5_exchange 1 = .ok (.getfield 33, 3) := by decide +kernel
theorem dX5_exchange_4 : decode cX5_exchange 4 = .ok (.iload_n 1, 1) := by decide +kernel
theorem dX5_exchange_5 : decode cX5_exchange 5 = .ok (.iload_n 2, 1) := by decide +kernel
theorem dX5_exchange_6 : decode cX5_exchange 6 = .ok (.invokestatic 184, 3) := by decide +kernel
theorem dX5_exchange_9 : decode cX5_exchange 9 = .ok (.aload_n 0, 1) := by decide +kernel
theorem dX5_exchange_10 : decode cX5_exchange 10 = .ok (.getfield 36, 3) := by decide +kernel
theorem dX5_exchange_13 : decode cX5_exchange 13 = .ok (.iload_n 1, 1) := by decide +kernel
theorem dX5_exchange_14 : decode cX5_exchange 14 = .ok (.iload_n 2, 1) := by decide +kernel
theorem dX5_exchange_15 : decode cX5_exchange 15 = .ok (.invokestatic 184, 3) := by decide +kernel
theorem dX5_exchange_18 : decode cX5_exchange 18 = .ok (.aload_n 0, 1) := by decide +kernel
theorem dX5_exchange_19 : decode cX5_exchange 19 = .ok (.getfield 39, 3) := by decide +kernel
theorem dX5_exchange_22 : decode cX5_exchange 22 = .ok (.iload_n 1, 1) := by decide +kernel
theorem dX5_exchange_23 : decode cX5_exchange 23 = .ok (.iload_n 2, 1) := by decide +kernel
theorem dX5_exchange_24 : decode cX5_exchange 24 = .ok (.invokestatic 184, 3) := by decide +kernel
theorem dX5_exchange_27 : decode cX5_exchange 27 = .ok (.aload_n 0, 1) := by decide +kernel
theorem dX5_exchange_28 : decode cX5_exchange 28 = .ok (.getfield 42, 3) := by decide +kernel
theorem dX5_exchange_31 : decode cX5_exchange 31 = .ok (.iload_n 1, 1) := by decide +kernel
theorem dX5_exchange_32 : decode cX5_exchange 32 = .ok (.iload_n 2, 1) := by decide +kernel
theorem dX5_exchange_33 : decode cX5_exchange 33 = .ok (.invokestatic 184, 3) := by decide +kernel
theorem dX5_exchange_36 : decode cX5_exchange 36 = .ok (.aload_n 0, 1) := by decide +kernel
theorem dX5_exchange_37 : decode cX5_exchange 37 = .ok (.getfield 45, 3) := by decide +kernel
theorem dX5_exchange_40 : decode cX5_exchange 40 = .ok (.iload_n 1, 1) := by decide +kernel
theorem dX5_exchange_41 : decode cX5_exchange 41 = .ok (.baload, 1) := by decide +kernel
theorem dX5_exchange_42 : decode cX5_exchange 42 = .ok (.istore_n 3, 1) := by decide +kernel
theorem dX5_exchange_43 : decode cX5_exchange 43 = .ok (.aload_n 0, 1) := by decide +kernel
theorem dX5_exchange_44 : decode cX5_exchange 44 = .ok (.getfield 45, 3) := by decide +kernel
theorem dX5_exchange_47 : decode cX5_exchange 47 = .ok (.iload_n 1, 1) := by decide +kernel
theorem dX5_exchange_48 : decode cX5_exchange 48 = .ok (.aload_n 0, 1) := by decide +kernel
theorem dX5_exchange_49 : decode cX5_exchange 49 = .ok (.getfield 45, 3) := by decide +kernel
theorem dX5_exchange_52 : decode cX5_exchange 52 = .ok (.iload_n 2, 1) := by decide +kernel
theorem dX5_exchange_53 : decode cX5_exchange 53 = .ok (.baload, 1) := by decide +kernel
theorem dX5_exchange_54 : decode cX5_exchange 54 = .ok (.bastore, 1) := by decide +kernel
theorem dX5_exchange_55 : decode cX5_exchange 55 = .ok (.aload_n 0, 1) := by decide +kernel
theorem dX5_exchange_56 : decode cX5_exchange 56 = .ok (.getfield 45, 3) := by decide +kernel
theorem dX5_exchange_59 : decode cX5_exchange 59 = .ok (.iload_n 2, 1) := by decide +kernel
theorem dX5_exchange_60 : decode cX5_exchange 60 = .ok (.iload_n 3, 1) := by decide +kernel
theorem dX5_exchange_61 : decode cX5_exchange 61 = .ok (.bastore, 1) := by decide +kernel
theorem dX5_exchange_62 : decode cX5_exchange 62 = .ok (.iconst 0, 1) := by decide +kernel
theorem dX5_exchange_63 : decode cX5_exchange 63 = .ok (.istore 4, 2) := by decide +kernel
theorem dX5_exchange_65 : decode cX5_exchange 65 = .ok (.iload 4, 2) := by decide +kernel
theorem dX5_exchange_67 : decode cX5_exchange 67 = .ok (.bipush 60, 2) := by decide +kernel
theorem dX5_exchange_69 : decode cX5_exchange 69 = .ok (.if_icmp .ge 49, 3) := by decide +kernel
theorem dX5_exchange_72 : decode cX5_exchange 72 = .ok (.aload_n 0, 1) := by decide +kernel
theorem dX5_exchange_73 : decode cX5_exchange 73 = .ok (.getfield 50, 3) := by decide +kernel
theorem dX5_exchange_76 : decode cX5_exchange 76 = .ok (.iload_n 1, 1) := by decide +kernel
theorem dX5_exchange_77 : decode cX5_exchange 77 = .ok (.aaload, 1) := by decide +kernel
theorem dX5_exchange_78 : decode cX5_exchange 78 = .ok (.iload 4, 2) := by decide +kernel
theorem dX5_exchange_80 : decode cX5_exchange 80 = .ok (.iaload, 1) := by decide +kernel
theorem dX5_exchange_81 : decode cX5_exchange 81 = .ok (.istore 5, 2) := by decide +kernel
theorem dX5_exchange_83 : decode cX5_exchange 83 = .ok (.aload_n 0, 1) := by decide +kernel
theorem dX5_exchange_84 : decode cX5_exchange 84 = .ok (.getfield 50, 3) := by decide +kernel
theorem dX5_exchange_87 : decode cX5_exchange 87 = .ok (.iload_n 1, 1) := by decide +kernel
theorem dX5_exchange_88 : decode cX5_exchange 88 = .ok (.aaload, 1) := by decide +kernel
theorem dX5_exchange_89 : decode cX5_exchange 89 = .ok (.iload 4, 2) := by decide +kernel
theorem dX5_exchange_91 : decode cX5_exchange 91 = .ok (.aload_n 0, 1) := by decide +kernel
theorem dX5_exchange_92 : decode cX5_exchange 92 = .ok (.getfield 50, 3) := by decide +kernel
theorem dX5_exchange_95 : decode cX5_exchange 95 = .ok (.iload_n 2, 1) := by decide +kernel
theorem dX5_exchange_96 : decode cX5_exchange 96 = .ok (.aaload, 1) := by decide +kernel
theorem dX5_exchange_97 : decode cX5_exchange 97 = .ok (.iload 4, 2) := by decide +kernel
theorem dX5_exchange_99 : decode cX5_exchange 99 = .ok (.iaload, 1) := by decide +kernel
theorem dX5_exchange_100 : decode cX5_exchange 100 = .ok (.iastore, 1) := by decide +kernel
theorem dX5_exchange_101 : decode cX5_exchange 101 = .ok (.aload_n 0, 1) := by decide +kernel
theorem dX5_exchange_102 : decode cX5_exchange 102 = .ok (.getfield 50, 3) := by decide +kernel
theorem dX5_exchange_105 : decode cX5_exchange 105 = .ok (.iload_n 2, 1) := by decide +kernel
theorem dX5_exchange_106 : decode cX5_exchange 106 = .ok (.aaload, 1) := by decide +kernel
theorem dX5_exchange_107 : decode cX5_exchange 107 = .ok (.iload 4, 2) := by decide +kernel
theorem dX5_exchange_109 : decode cX5_exchange 109 = .ok (.iload 5, 2) := by decide +kernel
theorem dX5_exchange_111 : decode cX5_exchange 111 = .ok (.iastore, 1) := by decide +kernel
theorem dX5_exchange_112 : decode cX5_exchange 112 = .ok (.iinc 4 1, 3) := by decide +kernel
theorem dX5_exchange_115 : decode cX5_exchange 115 = .ok (.goto (-50), 3) := by decide +kernel
theorem dX5_exchange_118 : decode cX5_exchange 118 = .ok (.iconst 0, 1) := by decide +kernel
theorem dX5_exchange_119 : decode cX5_exchange 119 = .ok (.istore 4, 2) := by decide +kernel
theorem dX5_exchange_121 : decode cX5_exchange 121 = .ok (.iload 4, 2) := by decide +kernel
theorem dX5_exchange_123 : decode cX5_exchange 123 = .ok (.aload_n 0, 1) := by decide +kernel
theorem dX5_exchange_124 : decode cX5_exchange 124 = .ok (.invokevirtual 163, 3) := by decide +kernel
theorem dX5_exchange_127 : decode cX5_exchange 127 = .ok (.if_icmp .ge 53, 3) := by decide +kernel
theorem dX5_exchange_130 : decode cX5_exchange 130 = .ok (.aload_n 0, 1) := by decide +kernel
theorem dX5_exchange_131 : decode cX5_exchange 131 = .ok (.getfield 53, 3) := by decide +kernel
theorem dX5_exchange_134 : decode cX5_exchange 134 = .ok (.iload 4, 2) := by decide +kernel
theorem dX5_exchange_136 : decode cX5_exchange 136 = .ok (.aload_n 0, 1) := by decide +kernel
theorem dX5_exchange_137 : decode cX5_exchange 137 = .ok (.getfield 53, 3) := by decide +kernel
theorem dX5_exchange_140 : decode cX5_exchange 140 = .ok (.iload 4, 2) := by decide +kernel
theorem dX5_exchange_142 : decode cX5_exchange 142 = .ok (.iaload, 1) := by decide +kernel
theorem dX5_exchange_143 : decode cX5_exchange 143 = .ok (.iload_n 1, 1) := by decide +kernel
theorem dX5_exchange_144 : decode cX5_exchange 144 = .ok (.if_icmp .ne 7, 3) := by decide +kernel
theorem dX5_exchange_147 : decode cX5_exchange 147 = .ok (.iload_n 2, 1) := by decide +kernel
theorem dX5_exchange_148 : decode cX5_exchange 148 = .ok (.goto 25, 3) := by decide +kernel
theorem dX5_exchange_151 : decode cX5_exchange 151 = .ok (.aload_n 0, 1) := by decide +kernel
theorem dX5_exchange_152 : decode cX5_exchange 152 = .ok (.getfield 53, 3) := by decide +kernel
theorem dX5_exchange_155 : decode cX5_exchange 155 = .ok (.iload 4, 2) := by decide +kernel
theorem dX5_exchange_157 : decode cX5_exchange 157 = .ok (.iaload, 1) := by decide +kernel
theorem dX5_exchange_158 : decode cX5_exchange 158 = .ok (.iload_n 2, 1) := by decide +kernel
theorem dX5_exchange_159 : decode cX5_exchange 159 = .ok (.if_icmp .ne 7, 3) := by decide +kernel
theorem dX5_exchange_162 : decode cX5_exchange 162 = .ok (.iload_n 1, 1) := by decide +kernel
theorem dX5_exchange_163 : decode cX5_exchange 163 = .ok (.goto 10, 3) := by decide +kernel
theorem dX5_exchange_166 : decode cX5_exchange 166 = .ok (.aload_n 0, 1) := by decide +kernel
theorem dX5_exchange_167 : decode cX5_exchange 167 = .ok (.getfield 53, 3) := by decide +kernel
theorem dX5_exchange_170 : decode cX5_exchange 170 = .ok (.iload 4, 2) := by decide +kernel
theorem dX5_exchange_172 : decode cX5_exchange 172 = .ok (.iaload, 1) := by decide +kernel
theorem dX5_exchange_173 : decode cX5_exchange 173 = .ok (.iastore, 1) := by decide +kernel
theorem dX5_exchange_174 : decode cX5_exchange 174 = .ok (.iinc 4 1, 3) := by decide +kernel
theorem dX5_exchange_177 : decode cX5_exchange 177 = .ok (.goto (-56), 3) := by decide +kernel
theorem dX5_exchange_180 : decode cX5_exchange 180 = .ok (.return_, 1) := by decide +kernel
theorem dX5_has_0 : decode cX5_has 0 = .ok (.iload_n 1, 1) := by decide +kernel
theorem dX5_has_1 : decode cX5_has 1 = .ok (.ifCond .lt 15, 3) := by decide +kernel
theorem dX5_has_4 : decode cX5_has 4 = .ok (.iload_n 1, 1) := by decide +kernel
theorem dX5_has_5 : decode cX5_has 5 = .ok (.aload_n 0, 1) := by decide +kernel
theorem dX5_has_6 : decode cX5_has 6 = .ok (.getfield 29, 3) := by decide +kernel
theorem dX5_has_9 : decode cX5_has 9 = .ok (.if_icmp .ge 7, 3) := by decide +kernel
theorem dX5_has_12 : decode cX5_has 12 = .ok (.iconst 1, 1) := by decide +kernel
theorem dX5_has_13 : decode cX5_has 13 = .ok (.goto 4, 3) := by decide +kernel
theorem dX5_has_16 : decode cX5_has 16 = .ok (.iconst 0, 1) := by decide +kernel
theorem dX5_has_17 : decode cX5_has 17 = .ok (.ireturn, 1) := by decide +kernel
theorem dX5_isWord_0 : decode cX5_isWord 0 = .ok (.iload_n 1, 1) := by decide +kernel
theorem dX5_isWord_1 : decode cX5_isWord 1 = .ok (.ifCond .lt 15, 3) := by decide +kernel
theorem dX5_isWord_4 : decode cX5_isWord 4 = .ok (.iload_n 1, 1) := by decide +kernel
theorem dX5_isWord_5 : decode cX5_isWord 5 = .ok (.aload_n 0, 1) := by decide +kernel
theorem dX5_isWord_6 : decode cX5_isWord 6 = .ok (.invokevirtual 163, 3) := by decide +kernel
theorem dX5_isWord_9 : decode cX5_isWord 9 = .ok (.if_icmp .ge 7, 3) := by decide +kernel
theorem dX5_isWord_12 : decode cX5_isWord 12 = .ok (.iconst 1, 1) := by decide +kernel
theorem dX5_isWord_13 : decode cX5_isWord 13 = .ok (.goto 4, 3) := by decide +kernel
theorem dX5_isWord_16 : decode cX5_isWord 16 = .ok (.iconst 0, 1) := by decide +kernel
theorem dX5_isWord_17 : decode cX5_isWord 17 = .ok (.ireturn, 1) := by decide +kernel
theorem dX5_path_0 : decode cX5_path 0 = .ok (.aload_n 0, 1) := by decide +kernel
theorem dX5_path_1 : decode cX5_path 1 = .ok (.iload_n 1, 1) := by decide +kernel
theorem dX5_path_2 : decode cX5_path 2 = .ok (.invokevirtual 188, 3) := by decide +kernel
theorem dX5_path_5 : decode cX5_path 5 = .ok (.ifCond .ne 5, 3) := by decide +kernel
theorem dX5_path_8 : decode cX5_path 8 = .ok (.iconst (-1), 1) := by decide +kernel
theorem dX5_path_9 : decode cX5_path 9 = .ok (.ireturn, 1) := by decide +kernel
theorem dX5_path_10 : decode cX5_path 10 = .ok (.iload_n 2, 1) := by decide +kernel
theorem dX5_path_11 : decode cX5_path 11 = .ok (.tableswitch 87 0 5 #[37, 44, 51, 58, 65, 77], 37) := by decide +kernel
theorem dX5_path_48 : decode cX5_path 48 = .ok (.aload_n 0, 1) := by decide +kernel
theorem dX5_path_49 : decode cX5_path 49 = .ok (.getfield 33, 3) := by decide +kernel
theorem dX5_path_52 : decode cX5_path 52 = .ok (.iload_n 1, 1) := by decide +kernel
theorem dX5_path_53 : decode cX5_path 53 = .ok (.iaload, 1) := by decide +kernel
theorem dX5_path_54 : decode cX5_path 54 = .ok (.ireturn, 1) := by decide +kernel
theorem dX5_path_55 : decode cX5_path 55 = .ok (.aload_n 0, 1) := by decide +kernel
theorem dX5_path_56 : decode cX5_path 56 = .ok (.getfield 36, 3) := by decide +kernel
theorem dX5_path_59 : decode cX5_path 59 = .ok (.iload_n 1, 1) := by decide +kernel
theorem dX5_path_60 : decode cX5_path 60 = .ok (.iaload, 1) := by decide +kernel
theorem dX5_path_61 : decode cX5_path 61 = .ok (.ireturn, 1) := by decide +kernel
theorem dX5_path_62 : decode cX5_path 62 = .ok (.aload_n 0, 1) := by decide +kernel
theorem dX5_path_63 : decode cX5_path 63 = .ok (.getfield 39, 3) := by decide +kernel
theorem dX5_path_66 : decode cX5_path 66 = .ok (.iload_n 1, 1) := by decide +kernel
theorem dX5_path_67 : decode cX5_path 67 = .ok (.iaload, 1) := by decide +kernel
theorem dX5_path_68 : decode cX5_path 68 = .ok (.ireturn, 1) := by decide +kernel
theorem dX5_path_69 : decode cX5_path 69 = .ok (.aload_n 0, 1) := by decide +kernel
theorem dX5_path_70 : decode cX5_path 70 = .ok (.getfield 42, 3) := by decide +kernel
theorem dX5_path_73 : decode cX5_path 73 = .ok (.iload_n 1, 1) := by decide +kernel
theorem dX5_path_74 : decode cX5_path 74 = .ok (.iaload, 1) := by decide +kernel
theorem dX5_path_75 : decode cX5_path 75 = .ok (.ireturn, 1) := by decide +kernel
theorem dX5_path_76 : decode cX5_path 76 = .ok (.aload_n 0, 1) := by decide +kernel
theorem dX5_path_77 : decode cX5_path 77 = .ok (.getfield 56, 3) := by decide +kernel
theorem dX5_path_80 : decode cX5_path 80 = .ok (.aload_n 0, 1) := by decide +kernel
theorem dX5_path_81 : decode cX5_path 81 = .ok (.getfield 42, 3) := by decide +kernel
theorem dX5_path_84 : decode cX5_path 84 = .ok (.iload_n 1, 1) := by decide +kernel
theorem dX5_path_85 : decode cX5_path 85 = .ok (.iaload, 1) := by decide +kernel
theorem dX5_path_86 : decode cX5_path 86 = .ok (.iaload, 1) := by decide +kernel
theorem dX5_path_87 : decode cX5_path 87 = .ok (.ireturn, 1) := by decide +kernel
theorem dX5_path_88 : decode cX5_path 88 = .ok (.aload_n 0, 1) := by decide +kernel
theorem dX5_path_89 : decode cX5_path 89 = .ok (.getfield 45, 3) := by decide +kernel
theorem dX5_path_92 : decode cX5_path 92 = .ok (.iload_n 1, 1) := by decide +kernel
theorem dX5_path_93 : decode cX5_path 93 = .ok (.baload, 1) := by decide +kernel
theorem dX5_path_94 : decode cX5_path 94 = .ok (.invokestatic 128, 3) := by decide +kernel
theorem dX5_path_97 : decode cX5_path 97 = .ok (.ireturn, 1) := by decide +kernel
theorem dX5_path_98 : decode cX5_path 98 = .ok (.iconst 0, 1) := by decide +kernel
theorem dX5_path_99 : decode cX5_path 99 = .ok (.ireturn, 1) := by decide +kernel
theorem dX5_decision_0 : decode cX5_decision 0 = .ok (.aload_n 0, 1) := by decide +kernel
theorem dX5_decision_1 : decode cX5_decision 1 = .ok (.iload_n 1, 1) := by decide +kernel
theorem dX5_decision_2 : decode cX5_decision 2 = .ok (.invokevirtual 188, 3) := by decide +kernel
theorem dX5_decision_5 : decode cX5_decision 5 = .ok (.ifCond .eq 28, 3) := by decide +kernel
theorem dX5_decision_8 : decode cX5_decision 8 = .ok (.iload_n 2, 1) := by decide +kernel
theorem dX5_decision_9 : decode cX5_decision 9 = .ok (.ifCond .lt 24, 3) := by decide +kernel
theorem dX5_decision_12 : decode cX5_decision 12 = .ok (.iload_n 2, 1) := by decide +kernel
theorem dX5_decision_13 : decode cX5_decision 13 = .ok (.aload_n 0, 1) := by decide +kernel
theorem dX5_decision_14 : decode cX5_decision 14 = .ok (.getfield 39, 3) := by decide +kernel
theorem dX5_decision_17 : decode cX5_decision 17 = .ok (.iload_n 1, 1) := by decide +kernel
theorem dX5_decision_18 : decode cX5_decision 18 = .ok (.iaload, 1) := by decide +kernel
theorem dX5_decision_19 : decode cX5_decision 19 = .ok (.if_icmp .ge 14, 3) := by decide +kernel
theorem dX5_decision_22 : decode cX5_decision 22 = .ok (.aload_n 0, 1) := by decide +kernel
theorem dX5_decision_23 : decode cX5_decision 23 = .ok (.getfield 50, 3) := by decide +kernel
theorem dX5_decision_26 : decode cX5_decision 26 = .ok (.iload_n 1, 1) := by decide +kernel
theorem dX5_decision_27 : decode cX5_decision 27 = .ok (.aaload, 1) := by decide +kernel
theorem dX5_decision_28 : decode cX5_decision 28 = .ok (.iload_n 2, 1) := by decide +kernel
theorem dX5_decision_29 : decode cX5_decision 29 = .ok (.iaload, 1) := by decide +kernel
theorem dX5_decision_30 : decode cX5_decision 30 = .ok (.goto 4, 3) := by decide +kernel
theorem dX5_decision_33 : decode cX5_decision 33 = .ok (.iconst (-1), 1) := by decide +kernel
theorem dX5_decision_34 : decode cX5_decision 34 = .ok (.ireturn, 1) := by decide +kernel
theorem dX5_holds_0 : decode cX5_holds 0 = .ok (.aload_n 0, 1) := by decide +kernel
theorem dX5_holds_1 : decode cX5_holds 1 = .ok (.iload_n 1, 1) := by decide +kernel
theorem dX5_holds_2 : decode cX5_holds 2 = .ok (.invokevirtual 188, 3) := by decide +kernel
theorem dX5_holds_5 : decode cX5_holds 5 = .ok (.ifCond .eq 32, 3) := by decide +kernel
theorem dX5_holds_8 : decode cX5_holds 8 = .ok (.aload_n 0, 1) := by decide +kernel
theorem dX5_holds_9 : decode cX5_holds 9 = .ok (.iload_n 2, 1) := by decide +kernel
theorem dX5_holds_10 : decode cX5_holds 10 = .ok (.invokevirtual 191, 3) := by decide +kernel
theorem dX5_holds_13 : decode cX5_holds 13 = .ok (.ifCond .eq 24, 3) := by decide +kernel
theorem dX5_holds_16 : decode cX5_holds 16 = .ok (.aload_n 0, 1) := by decide +kernel
theorem dX5_holds_17 : decode cX5_holds 17 = .ok (.getfield 53, 3) := by decide +kernel
theorem dX5_holds_20 : decode cX5_holds 20 = .ok (.iload_n 2, 1) := by decide +kernel
theorem dX5_holds_21 : decode cX5_holds 21 = .ok (.iaload, 1) := by decide +kernel
theorem dX5_holds_22 : decode cX5_holds 22 = .ok (.iload_n 1, 1) := by decide +kernel
theorem dX5_holds_23 : decode cX5_holds 23 = .ok (.if_icmp .ne 7, 3) := by decide +kernel
theorem dX5_holds_26 : decode cX5_holds 26 = .ok (.iconst 1, 1) := by decide +kernel
theorem dX5_holds_27 : decode cX5_holds 27 = .ok (.goto 4, 3) := by decide +kernel
theorem dX5_holds_30 : decode cX5_holds 30 = .ok (.iconst 0, 1) := by decide +kernel
theorem dX5_holds_31 : decode cX5_holds 31 = .ok (.invokestatic 128, 3) := by decide +kernel
theorem dX5_holds_34 : decode cX5_holds 34 = .ok (.goto 4, 3) := by decide +kernel
theorem dX5_holds_37 : decode cX5_holds 37 = .ok (.iconst (-1), 1) := by decide +kernel
theorem dX5_holds_38 : decode cX5_holds 38 = .ok (.ireturn, 1) := by decide +kernel
theorem dX5_value_0 : decode cX5_value 0 = .ok (.aload_n 0, 1) := by decide +kernel
theorem dX5_value_1 : decode cX5_value 1 = .ok (.iload_n 1, 1) := by decide +kernel
theorem dX5_value_2 : decode cX5_value 2 = .ok (.invokevirtual 188, 3) := by decide +kernel
theorem dX5_value_5 : decode cX5_value 5 = .ok (.ifCond .eq 11, 3) := by decide +kernel
theorem dX5_value_8 : decode cX5_value 8 = .ok (.aload_n 0, 1) := by decide +kernel
theorem dX5_value_9 : decode cX5_value 9 = .ok (.iload_n 2, 1) := by decide +kernel
theorem dX5_value_10 : decode cX5_value 10 = .ok (.invokevirtual 191, 3) := by decide +kernel
theorem dX5_value_13 : decode cX5_value 13 = .ok (.ifCond .ne 5, 3) := by decide +kernel
theorem dX5_value_16 : decode cX5_value 16 = .ok (.iconst 0, 1) := by decide +kernel
theorem dX5_value_17 : decode cX5_value 17 = .ok (.ireturn, 1) := by decide +kernel
theorem dX5_value_18 : decode cX5_value 18 = .ok (.aload_n 0, 1) := by decide +kernel
theorem dX5_value_19 : decode cX5_value 19 = .ok (.iload_n 2, 1) := by decide +kernel
theorem dX5_value_20 : decode cX5_value 20 = .ok (.aload_n 0, 1) := by decide +kernel
theorem dX5_value_21 : decode cX5_value 21 = .ok (.getfield 50, 3) := by decide +kernel
theorem dX5_value_24 : decode cX5_value 24 = .ok (.iload_n 1, 1) := by decide +kernel
theorem dX5_value_25 : decode cX5_value 25 = .ok (.aaload, 1) := by decide +kernel
theorem dX5_value_26 : decode cX5_value 26 = .ok (.iconst 0, 1) := by decide +kernel
theorem dX5_value_27 : decode cX5_value 27 = .ok (.invokevirtual 167, 3) := by decide +kernel
theorem dX5_value_30 : decode cX5_value 30 = .ok (.aload_n 0, 1) := by decide +kernel
theorem dX5_value_31 : decode cX5_value 31 = .ok (.getfield 142, 3) := by decide +kernel
theorem dX5_value_34 : decode cX5_value 34 = .ok (.ireturn, 1) := by decide +kernel
theorem dX5_find_0 : decode cX5_find 0 = .ok (.aload_n 0, 1) := by decide +kernel
theorem dX5_find_1 : decode cX5_find 1 = .ok (.iload_n 1, 1) := by decide +kernel
theorem dX5_find_2 : decode cX5_find 2 = .ok (.invokevirtual 188, 3) := by decide +kernel
theorem dX5_find_5 : decode cX5_find 5 = .ok (.ifCond .eq 12, 3) := by decide +kernel
theorem dX5_find_8 : decode cX5_find 8 = .ok (.iload_n 2, 1) := by decide +kernel
theorem dX5_find_9 : decode cX5_find 9 = .ok (.ifCond .lt 8, 3) := by decide +kernel
theorem dX5_find_12 : decode cX5_find 12 = .ok (.iload_n 2, 1) := by decide +kernel
theorem dX5_find_13 : decode cX5_find 13 = .ok (.iconst 3, 1) := by decide +kernel
theorem dX5_find_14 : decode cX5_find 14 = .ok (.if_icmp .le 5, 3) := by decide +kernel
theorem dX5_find_17 : decode cX5_find 17 = .ok (.iconst (-1), 1) := by decide +kernel
theorem dX5_find_18 : decode cX5_find 18 = .ok (.ireturn, 1) := by decide +kernel
theorem dX5_find_19 : decode cX5_find 19 = .ok (.iconst 0, 1) := by decide +kernel
theorem dX5_find_20 : decode cX5_find 20 = .ok (.istore 4, 2) := by decide +kernel
theorem dX5_find_22 : decode cX5_find 22 = .ok (.iload 4, 2) := by decide +kernel
theorem dX5_find_24 : decode cX5_find 24 = .ok (.aload_n 0, 1) := by decide +kernel
theorem dX5_find_25 : decode cX5_find 25 = .ok (.invokevirtual 163, 3) := by decide +kernel
theorem dX5_find_28 : decode cX5_find 28 = .ok (.if_icmp .ge 81, 3) := by decide +kernel
theorem dX5_find_31 : decode cX5_find 31 = .ok (.aload_n 0, 1) := by decide +kernel
theorem dX5_find_32 : decode cX5_find 32 = .ok (.getfield 53, 3) := by decide +kernel
theorem dX5_find_35 : decode cX5_find 35 = .ok (.iload 4, 2) := by decide +kernel
theorem dX5_find_37 : decode cX5_find 37 = .ok (.iaload, 1) := by decide +kernel
theorem dX5_find_38 : decode cX5_find 38 = .ok (.iload_n 1, 1) := by decide +kernel
theorem dX5_find_39 : decode cX5_find 39 = .ok (.if_icmp .eq 6, 3) := by decide +kernel
theorem dX5_find_42 : decode cX5_find 42 = .ok (.goto 61, 3) := by decide +kernel
theorem dX5_find_45 : decode cX5_find 45 = .ok (.aload_n 0, 1) := by decide +kernel
theorem dX5_find_46 : decode cX5_find 46 = .ok (.getfield 56, 3) := by decide +kernel
theorem dX5_find_49 : decode cX5_find 49 = .ok (.iload 4, 2) := by decide +kernel
theorem dX5_find_51 : decode cX5_find 51 = .ok (.iaload, 1) := by decide +kernel
theorem dX5_find_52 : decode cX5_find 52 = .ok (.istore 5, 2) := by decide +kernel
theorem dX5_find_54 : decode cX5_find 54 = .ok (.iload_n 2, 1) := by decide +kernel
theorem dX5_find_55 : decode cX5_find 55 = .ok (.ifCond .ne 9, 3) := by decide +kernel
theorem dX5_find_58 : decode cX5_find 58 = .ok (.iload 5, 2) := by decide +kernel
theorem dX5_find_60 : decode cX5_find 60 = .ok (.iload_n 3, 1) := by decide +kernel
theorem dX5_find_61 : decode cX5_find 61 = .ok (.if_icmp .eq 39, 3) := by decide +kernel
theorem dX5_find_64 : decode cX5_find 64 = .ok (.iload_n 2, 1) := by decide +kernel
theorem dX5_find_65 : decode cX5_find 65 = .ok (.iconst 1, 1) := by decide +kernel
theorem dX5_find_66 : decode cX5_find 66 = .ok (.if_icmp .ne 9, 3) := by decide +kernel
theorem dX5_find_69 : decode cX5_find 69 = .ok (.iload 5, 2) := by decide +kernel
theorem dX5_find_71 : decode cX5_find 71 = .ok (.iload_n 3, 1) := by decide +kernel
theorem dX5_find_72 : decode cX5_find 72 = .ok (.if_icmp .ne 28, 3) := by decide +kernel
theorem dX5_find_75 : decode cX5_find 75 = .ok (.iload_n 2, 1) := by decide +kernel
theorem dX5_find_76 : decode cX5_find 76 = .ok (.iconst 2, 1) := by decide +kernel
theorem dX5_find_77 : decode cX5_find 77 = .ok (.if_icmp .ne 12, 3) := by decide +kernel
theorem dX5_find_80 : decode cX5_find 80 = .ok (.iload 5, 2) := by decide +kernel
theorem dX5_find_82 : decode cX5_find 82 = .ok (.iload_n 3, 1) := by decide +kernel
theorem dX5_find_83 : decode cX5_find 83 = .ok (.invokestatic 132, 3) := by decide +kernel
theorem dX5_find_86 : decode cX5_find 86 = .ok (.ifCond .ne 14, 3) := by decide +kernel
theorem dX5_find_89 : decode cX5_find 89 = .ok (.iload_n 2, 1) := by decide +kernel
theorem dX5_find_90 : decode cX5_find 90 = .ok (.iconst 3, 1) := by decide +kernel
theorem dX5_find_91 : decode cX5_find 91 = .ok (.if_icmp .ne 12, 3) := by decide +kernel
theorem dX5_find_94 : decode cX5_find 94 = .ok (.iload 5, 2) := by decide +kernel
theorem dX5_find_96 : decode cX5_find 96 = .ok (.iload_n 3, 1) := by decide +kernel
theorem dX5_find_97 : decode cX5_find 97 = .ok (.if_icmp .ge 6, 3) := by decide +kernel
theorem dX5_find_100 : decode cX5_find 100 = .ok (.iload 4, 2) := by decide +kernel
theorem dX5_find_102 : decode cX5_find 102 = .ok (.ireturn, 1) := by decide +kernel
theorem dX5_find_103 : decode cX5_find 103 = .ok (.iinc 4 1, 3) := by decide +kernel
theorem dX5_find_106 : decode cX5_find 106 = .ok (.goto (-84), 3) := by decide +kernel
theorem dX5_find_109 : decode cX5_find 109 = .ok (.iconst (-1), 1) := by decide +kernel
theorem dX5_find_110 : decode cX5_find 110 = .ok (.ireturn, 1) := by decide +kernel
theorem dX5_run_0 : decode cX5_run 0 = .ok (.aload_n 0, 1) := by decide +kernel
theorem dX5_run_1 : decode cX5_run 1 = .ok (.iload_n 1, 1) := by decide +kernel
theorem dX5_run_2 : decode cX5_run 2 = .ok (.invokevirtual 191, 3) := by decide +kernel
theorem dX5_run_5 : decode cX5_run 5 = .ok (.ifCond .ne 5, 3) := by decide +kernel
theorem dX5_run_8 : decode cX5_run 8 = .ok (.iconst (-1), 1) := by decide +kernel
theorem dX5_run_9 : decode cX5_run 9 = .ok (.ireturn, 1) := by decide +kernel
theorem dX5_run_10 : decode cX5_run 10 = .ok (.aload_n 0, 1) := by decide +kernel
theorem dX5_run_11 : decode cX5_run 11 = .ok (.iload_n 1, 1) := by decide +kernel
theorem dX5_run_12 : decode cX5_run 12 = .ok (.aconst_null, 1) := by decide +kernel
theorem dX5_run_13 : decode cX5_run 13 = .ok (.iconst 0, 1) := by decide +kernel
theorem dX5_run_14 : decode cX5_run 14 = .ok (.invokevirtual 167, 3) := by decide +kernel
theorem dX5_run_17 : decode cX5_run 17 = .ok (.aload_n 0, 1) := by decide +kernel
theorem dX5_run_18 : decode cX5_run 18 = .ok (.iconst 1, 1) := by decide +kernel
theorem dX5_run_19 : decode cX5_run 19 = .ok (.putfield 116, 3) := by decide +kernel
theorem dX5_run_22 : decode cX5_run 22 = .ok (.aload_n 0, 1) := by decide +kernel
theorem dX5_run_23 : decode cX5_run 23 = .ok (.iconst 1, 1) := by decide +kernel
theorem dX5_run_24 : decode cX5_run 24 = .ok (.putfield 80, 3) := by decide +kernel
theorem dX5_run_27 : decode cX5_run 27 = .ok (.aload_n 0, 1) := by decide +kernel
theorem dX5_run_28 : decode cX5_run 28 = .ok (.iload_n 1, 1) := by decide +kernel
theorem dX5_run_29 : decode cX5_run 29 = .ok (.putfield 194, 3) := by decide +kernel
theorem dX5_run_32 : decode cX5_run 32 = .ok (.aload_n 0, 1) := by decide +kernel
theorem dX5_run_33 : decode cX5_run 33 = .ok (.aload_n 0, 1) := by decide +kernel
theorem dX5_run_34 : decode cX5_run 34 = .ok (.getfield 136, 3) := by decide +kernel
theorem dX5_run_37 : decode cX5_run 37 = .ok (.putfield 197, 3) := by decide +kernel
theorem dX5_run_40 : decode cX5_run 40 = .ok (.aload_n 0, 1) := by decide +kernel
theorem dX5_run_41 : decode cX5_run 41 = .ok (.aload_n 0, 1) := by decide +kernel
theorem dX5_run_42 : decode cX5_run 42 = .ok (.getfield 139, 3) := by decide +kernel
theorem dX5_run_45 : decode cX5_run 45 = .ok (.putfield 200, 3) := by decide +kernel
theorem dX5_run_48 : decode cX5_run 48 = .ok (.aload_n 0, 1) := by decide +kernel
theorem dX5_run_49 : decode cX5_run 49 = .ok (.aload_n 0, 1) := by decide +kernel
theorem dX5_run_50 : decode cX5_run 50 = .ok (.getfield 142, 3) := by decide +kernel
theorem dX5_run_53 : decode cX5_run 53 = .ok (.putfield 203, 3) := by decide +kernel
theorem dX5_run_56 : decode cX5_run 56 = .ok (.aload_n 0, 1) := by decide +kernel
theorem dX5_run_57 : decode cX5_run 57 = .ok (.aload_n 0, 1) := by decide +kernel
theorem dX5_run_58 : decode cX5_run 58 = .ok (.getfield 145, 3) := by decide +kernel
theorem dX5_run_61 : decode cX5_run 61 = .ok (.putfield 206, 3) := by decide +kernel
theorem dX5_run_64 : decode cX5_run 64 = .ok (.aload_n 0, 1) := by decide +kernel
theorem dX5_run_65 : decode cX5_run 65 = .ok (.aload_n 0, 1) := by decide +kernel
theorem dX5_run_66 : decode cX5_run 66 = .ok (.getfield 148, 3) := by decide +kernel
theorem dX5_run_69 : decode cX5_run 69 = .ok (.putfield 209, 3) := by decide +kernel
theorem dX5_run_72 : decode cX5_run 72 = .ok (.iconst 0, 1) := by decide +kernel
theorem dX5_run_73 : decode cX5_run 73 = .ok (.istore_n 2, 1) := by decide +kernel
theorem dX5_run_74 : decode cX5_run 74 = .ok (.iload_n 2, 1) := by decide +kernel
theorem dX5_run_75 : decode cX5_run 75 = .ok (.bipush 16, 2) := by decide +kernel
theorem dX5_run_77 : decode cX5_run 77 = .ok (.if_icmp .ge 21, 3) := by decide +kernel
theorem dX5_run_80 : decode cX5_run 80 = .ok (.aload_n 0, 1) := by decide +kernel
theorem dX5_run_81 : decode cX5_run 81 = .ok (.getfield 71, 3) := by decide +kernel
theorem dX5_run_84 : decode cX5_run 84 = .ok (.iload_n 2, 1) := by decide +kernel
theorem dX5_run_85 : decode cX5_run 85 = .ok (.aload_n 0, 1) := by decide +kernel
theorem dX5_run_86 : decode cX5_run 86 = .ok (.getfield 62, 3) := by decide +kernel
theorem dX5_run_89 : decode cX5_run 89 = .ok (.iload_n 2, 1) := by decide +kernel
theorem dX5_run_90 : decode cX5_run 90 = .ok (.iaload, 1) := by decide +kernel
theorem dX5_run_91 : decode cX5_run 91 = .ok (.iastore, 1) := by decide +kernel
theorem dX5_run_92 : decode cX5_run 92 = .ok (.iinc 2 1, 3) := by decide +kernel
theorem dX5_run_95 : decode cX5_run 95 = .ok (.goto (-21), 3) := by decide +kernel
theorem dX5_run_98 : decode cX5_run 98 = .ok (.iconst 0, 1) := by decide +kernel
theorem dX5_run_99 : decode cX5_run 99 = .ok (.istore_n 2, 1) := by decide +kernel
theorem dX5_run_100 : decode cX5_run 100 = .ok (.iload_n 2, 1) := by decide +kernel
theorem dX5_run_101 : decode cX5_run 101 = .ok (.bipush 8, 2) := by decide +kernel
theorem dX5_run_103 : decode cX5_run 103 = .ok (.if_icmp .ge 21, 3) := by decide +kernel
theorem dX5_run_106 : decode cX5_run 106 = .ok (.aload_n 0, 1) := by decide +kernel
theorem dX5_run_107 : decode cX5_run 107 = .ok (.getfield 74, 3) := by decide +kernel
theorem dX5_run_110 : decode cX5_run 110 = .ok (.iload_n 2, 1) := by decide +kernel
theorem dX5_run_111 : decode cX5_run 111 = .ok (.aload_n 0, 1) := by decide +kernel
theorem dX5_run_112 : decode cX5_run 112 = .ok (.getfield 65, 3) := by decide +kernel
theorem dX5_run_115 : decode cX5_run 115 = .ok (.iload_n 2, 1) := by decide +kernel
theorem dX5_run_116 : decode cX5_run 116 = .ok (.iaload, 1) := by decide +kernel
theorem dX5_run_117 : decode cX5_run 117 = .ok (.iastore, 1) := by decide +kernel
theorem dX5_run_118 : decode cX5_run 118 = .ok (.iinc 2 1, 3) := by decide +kernel
theorem dX5_run_121 : decode cX5_run 121 = .ok (.goto (-21), 3) := by decide +kernel
theorem dX5_run_124 : decode cX5_run 124 = .ok (.aload_n 0, 1) := by decide +kernel
theorem dX5_run_125 : decode cX5_run 125 = .ok (.getfield 136, 3) := by decide +kernel
theorem dX5_run_128 : decode cX5_run 128 = .ok (.ireturn, 1) := by decide +kernel
theorem dX5_ran_0 : decode cX5_ran 0 = .ok (.aload_n 0, 1) := by decide +kernel
theorem dX5_ran_1 : decode cX5_ran 1 = .ok (.getfield 116, 3) := by decide +kernel
theorem dX5_ran_4 : decode cX5_ran 4 = .ok (.ifCond .ne 5, 3) := by decide +kernel
theorem dX5_ran_7 : decode cX5_ran 7 = .ok (.iconst (-1), 1) := by decide +kernel
theorem dX5_ran_8 : decode cX5_ran 8 = .ok (.ireturn, 1) := by decide +kernel
theorem dX5_ran_9 : decode cX5_ran 9 = .ok (.iload_n 1, 1) := by decide +kernel
theorem dX5_ran_10 : decode cX5_ran 10 = .ok (.tableswitch 91 0 5 #[38, 43, 48, 53, 58, 63], 38) := by decide +kernel
theorem dX5_ran_48 : decode cX5_ran 48 = .ok (.aload_n 0, 1) := by decide +kernel
theorem dX5_ran_49 : decode cX5_ran 49 = .ok (.getfield 197, 3) := by decide +kernel
theorem dX5_ran_52 : decode cX5_ran 52 = .ok (.ireturn, 1) := by decide +kernel
theorem dX5_ran_53 : decode cX5_ran 53 = .ok (.aload_n 0, 1) := by decide +kernel
theorem dX5_ran_54 : decode cX5_ran 54 = .ok (.getfield 200, 3) := by decide +kernel
theorem dX5_ran_57 : decode cX5_ran 57 = .ok (.ireturn, 1) := by decide +kernel
theorem dX5_ran_58 : decode cX5_ran 58 = .ok (.aload_n 0, 1) := by decide +kernel
theorem dX5_ran_59 : decode cX5_ran 59 = .ok (.getfield 203, 3) := by decide +kernel
theorem dX5_ran_62 : decode cX5_ran 62 = .ok (.ireturn, 1) := by decide +kernel
theorem dX5_ran_63 : decode cX5_ran 63 = .ok (.aload_n 0, 1) := by decide +kernel
theorem dX5_ran_64 : decode cX5_ran 64 = .ok (.getfield 206, 3) := by decide +kernel
theorem dX5_ran_67 : decode cX5_ran 67 = .ok (.ireturn, 1) := by decide +kernel
theorem dX5_ran_68 : decode cX5_ran 68 = .ok (.aload_n 0, 1) := by decide +kernel
theorem dX5_ran_69 : decode cX5_ran 69 = .ok (.getfield 209, 3) := by decide +kernel
theorem dX5_ran_72 : decode cX5_ran 72 = .ok (.ireturn, 1) := by decide +kernel
theorem dX5_ran_73 : decode cX5_ran 73 = .ok (.aload_n 0, 1) := by decide +kernel
theorem dX5_ran_74 : decode cX5_ran 74 = .ok (.getfield 29, 3) := by decide +kernel
theorem dX5_ran_77 : decode cX5_ran 77 = .ok (.ifCond .lt 22, 3) := by decide +kernel
theorem dX5_ran_80 : decode cX5_ran 80 = .ok (.aload_n 0, 1) := by decide +kernel
theorem dX5_ran_81 : decode cX5_ran 81 = .ok (.getfield 80, 3) := by decide +kernel
theorem dX5_ran_84 : decode cX5_ran 84 = .ok (.ifCond .eq 15, 3) := by decide +kernel
theorem dX5_ran_87 : decode cX5_ran 87 = .ok (.aload_n 0, 1) := by decide +kernel
theorem dX5_ran_88 : decode cX5_ran 88 = .ok (.getfield 53, 3) := by decide +kernel
theorem dX5_ran_91 : decode cX5_ran 91 = .ok (.aload_n 0, 1) := by decide +kernel
theorem dX5_ran_92 : decode cX5_ran 92 = .ok (.getfield 194, 3) := by decide +kernel
theorem dX5_ran_95 : decode cX5_ran 95 = .ok (.iaload, 1) := by decide +kernel
theorem dX5_ran_96 : decode cX5_ran 96 = .ok (.goto 4, 3) := by decide +kernel
theorem dX5_ran_99 : decode cX5_ran 99 = .ok (.iconst (-1), 1) := by decide +kernel
theorem dX5_ran_100 : decode cX5_ran 100 = .ok (.ireturn, 1) := by decide +kernel
theorem dX5_ran_101 : decode cX5_ran 101 = .ok (.iconst (-1), 1) := by decide +kernel
theorem dX5_ran_102 : decode cX5_ran 102 = .ok (.ireturn, 1) := by decide +kernel
theorem dX5_register_0 : decode cX5_register 0 = .ok (.aload_n 0, 1) := by decide +kernel
theorem dX5_register_1 : decode cX5_register 1 = .ok (.getfield 116, 3) := by decide +kernel
theorem dX5_register_4 : decode cX5_register 4 = .ok (.ifCond .eq 22, 3) := by decide +kernel
theorem dX5_register_7 : decode cX5_register 7 = .ok (.iload_n 1, 1) := by decide +kernel
theorem dX5_register_8 : decode cX5_register 8 = .ok (.ifCond .lt 18, 3) := by decide +kernel
theorem dX5_register_11 : decode cX5_register 11 = .ok (.iload_n 1, 1) := by decide +kernel
theorem dX5_register_12 : decode cX5_register 12 = .ok (.bipush 16, 2) := by decide +kernel
theorem dX5_register_14 : decode cX5_register 14 = .ok (.if_icmp .ge 12, 3) := by decide +kernel
theorem dX5_register_17 : decode cX5_register 17 = .ok (.aload_n 0, 1) := by decide +kernel
theorem dX5_register_18 : decode cX5_register 18 = .ok (.getfield 71, 3) := by decide +kernel
theorem dX5_register_21 : decode cX5_register 21 = .ok (.iload_n 1, 1) := by decide +kernel
theorem dX5_register_22 : decode cX5_register 22 = .ok (.iaload, 1) := by decide +kernel
theorem dX5_register_23 : decode cX5_register 23 = .ok (.goto 4, 3) := by decide +kernel
theorem dX5_register_26 : decode cX5_register 26 = .ok (.iconst 0, 1) := by decide +kernel
theorem dX5_register_27 : decode cX5_register 27 = .ok (.ireturn, 1) := by decide +kernel
theorem dX5_cell_0 : decode cX5_cell 0 = .ok (.aload_n 0, 1) := by decide +kernel
theorem dX5_cell_1 : decode cX5_cell 1 = .ok (.getfield 116, 3) := by decide +kernel
theorem dX5_cell_4 : decode cX5_cell 4 = .ok (.ifCond .eq 22, 3) := by decide +kernel
theorem dX5_cell_7 : decode cX5_cell 7 = .ok (.iload_n 1, 1) := by decide +kernel
theorem dX5_cell_8 : decode cX5_cell 8 = .ok (.ifCond .lt 18, 3) := by decide +kernel
theorem dX5_cell_11 : decode cX5_cell 11 = .ok (.iload_n 1, 1) := by decide +kernel
theorem dX5_cell_12 : decode cX5_cell 12 = .ok (.bipush 8, 2) := by decide +kernel
theorem dX5_cell_14 : decode cX5_cell 14 = .ok (.if_icmp .ge 12, 3) := by decide +kernel
theorem dX5_cell_17 : decode cX5_cell 17 = .ok (.aload_n 0, 1) := by decide +kernel
theorem dX5_cell_18 : decode cX5_cell 18 = .ok (.getfield 74, 3) := by decide +kernel
theorem dX5_cell_21 : decode cX5_cell 21 = .ok (.iload_n 1, 1) := by decide +kernel
theorem dX5_cell_22 : decode cX5_cell 22 = .ok (.iaload, 1) := by decide +kernel
theorem dX5_cell_23 : decode cX5_cell 23 = .ok (.goto 4, 3) := by decide +kernel
theorem dX5_cell_26 : decode cX5_cell 26 = .ok (.iconst 0, 1) := by decide +kernel
theorem dX5_cell_27 : decode cX5_cell 27 = .ok (.ireturn, 1) := by decide +kernel
theorem dX5_failing_0 : decode cX5_failing 0 = .ok (.iconst (-1), 1) := by decide +kernel
theorem dX5_failing_1 : decode cX5_failing 1 = .ok (.istore_n 3, 1) := by decide +kernel
theorem dX5_failing_2 : decode cX5_failing 2 = .ok (.iconst 0, 1) := by decide +kernel
theorem dX5_failing_3 : decode cX5_failing 3 = .ok (.istore 4, 2) := by decide +kernel
theorem dX5_failing_5 : decode cX5_failing 5 = .ok (.iload 4, 2) := by decide +kernel
theorem dX5_failing_7 : decode cX5_failing 7 = .ok (.aload_n 0, 1) := by decide +kernel
theorem dX5_failing_8 : decode cX5_failing 8 = .ok (.getfield 29, 3) := by decide +kernel
theorem dX5_failing_11 : decode cX5_failing 11 = .ok (.if_icmp .ge 55, 3) := by decide +kernel
theorem dX5_failing_14 : decode cX5_failing 14 = .ok (.aload_n 0, 1) := by decide +kernel
theorem dX5_failing_15 : decode cX5_failing 15 = .ok (.getfield 33, 3) := by decide +kernel
theorem dX5_failing_18 : decode cX5_failing 18 = .ok (.iload 4, 2) := by decide +kernel
theorem dX5_failing_20 : decode cX5_failing 20 = .ok (.iaload, 1) := by decide +kernel
theorem dX5_failing_21 : decode cX5_failing 21 = .ok (.iload_n 1, 1) := by decide +kernel
theorem dX5_failing_22 : decode cX5_failing 22 = .ok (.if_icmp .ne 38, 3) := by decide +kernel
theorem dX5_failing_25 : decode cX5_failing 25 = .ok (.aload_n 0, 1) := by decide +kernel
theorem dX5_failing_26 : decode cX5_failing 26 = .ok (.getfield 36, 3) := by decide +kernel
theorem dX5_failing_29 : decode cX5_failing 29 = .ok (.iload 4, 2) := by decide +kernel
theorem dX5_failing_31 : decode cX5_failing 31 = .ok (.iaload, 1) := by decide +kernel
theorem dX5_failing_32 : decode cX5_failing 32 = .ok (.iload_n 2, 1) := by decide +kernel
theorem dX5_failing_33 : decode cX5_failing 33 = .ok (.if_icmp .ne 27, 3) := by decide +kernel
theorem dX5_failing_36 : decode cX5_failing 36 = .ok (.iload_n 3, 1) := by decide +kernel
theorem dX5_failing_37 : decode cX5_failing 37 = .ok (.iconst (-1), 1) := by decide +kernel
theorem dX5_failing_38 : decode cX5_failing 38 = .ok (.if_icmp .eq 14, 3) := by decide +kernel
theorem dX5_failing_41 : decode cX5_failing 41 = .ok (.aload_n 0, 1) := by decide +kernel
theorem dX5_failing_42 : decode cX5_failing 42 = .ok (.getfield 42, 3) := by decide +kernel
theorem dX5_failing_45 : decode cX5_failing 45 = .ok (.iload 4, 2) := by decide +kernel
theorem dX5_failing_47 : decode cX5_failing 47 = .ok (.iaload, 1) := by decide +kernel
theorem dX5_failing_48 : decode cX5_failing 48 = .ok (.iload_n 3, 1) := by decide +kernel
theorem dX5_failing_49 : decode cX5_failing 49 = .ok (.if_icmp .ge 11, 3) := by decide +kernel
theorem dX5_failing_52 : decode cX5_failing 52 = .ok (.aload_n 0, 1) := by decide +kernel
theorem dX5_failing_53 : decode cX5_failing 53 = .ok (.getfield 42, 3) := by decide +kernel
theorem dX5_failing_56 : decode cX5_failing 56 = .ok (.iload 4, 2) := by decide +kernel
theorem dX5_failing_58 : decode cX5_failing 58 = .ok (.iaload, 1) := by decide +kernel
theorem dX5_failing_59 : decode cX5_failing 59 = .ok (.istore_n 3, 1) := by decide +kernel
theorem dX5_failing_60 : decode cX5_failing 60 = .ok (.iinc 4 1, 3) := by decide +kernel
theorem dX5_failing_63 : decode cX5_failing 63 = .ok (.goto (-58), 3) := by decide +kernel
theorem dX5_failing_66 : decode cX5_failing 66 = .ok (.iload_n 3, 1) := by decide +kernel
theorem dX5_failing_67 : decode cX5_failing 67 = .ok (.ireturn, 1) := by decide +kernel
theorem dX5_failures_0 : decode cX5_failures 0 = .ok (.iconst 0, 1) := by decide +kernel
theorem dX5_failures_1 : decode cX5_failures 1 = .ok (.istore_n 1, 1) := by decide +kernel
theorem dX5_failures_2 : decode cX5_failures 2 = .ok (.iconst 0, 1) := by decide +kernel
theorem dX5_failures_3 : decode cX5_failures 3 = .ok (.istore_n 2, 1) := by decide +kernel
theorem dX5_failures_4 : decode cX5_failures 4 = .ok (.iload_n 2, 1) := by decide +kernel
theorem dX5_failures_5 : decode cX5_failures 5 = .ok (.aload_n 0, 1) := by decide +kernel
theorem dX5_failures_6 : decode cX5_failures 6 = .ok (.getfield 93, 3) := by decide +kernel
theorem dX5_failures_9 : decode cX5_failures 9 = .ok (.if_icmp .ge 40, 3) := by decide +kernel
theorem dX5_failures_12 : decode cX5_failures 12 = .ok (.iconst 1, 1) := by decide +kernel
theorem dX5_failures_13 : decode cX5_failures 13 = .ok (.istore_n 3, 1) := by decide +kernel
theorem dX5_failures_14 : decode cX5_failures 14 = .ok (.iload_n 3, 1) := by decide +kernel
theorem dX5_failures_15 : decode cX5_failures 15 = .ok (.iconst 5, 1) := by decide +kernel
theorem dX5_failures_16 : decode cX5_failures 16 = .ok (.if_icmp .ge 27, 3) := by decide +kernel
theorem dX5_failures_19 : decode cX5_failures 19 = .ok (.iload_n 1, 1) := by decide +kernel
theorem dX5_failures_20 : decode cX5_failures 20 = .ok (.aload_n 0, 1) := by decide +kernel
theorem dX5_failures_21 : decode cX5_failures 21 = .ok (.iload_n 3, 1) := by decide +kernel
theorem dX5_failures_22 : decode cX5_failures 22 = .ok (.iload_n 2, 1) := by decide +kernel
theorem dX5_failures_23 : decode cX5_failures 23 = .ok (.invokevirtual 212, 3) := by decide +kernel
theorem dX5_failures_26 : decode cX5_failures 26 = .ok (.iconst (-1), 1) := by decide +kernel
theorem dX5_failures_27 : decode cX5_failures 27 = .ok (.if_icmp .ne 7, 3) := by decide +kernel
theorem dX5_failures_30 : decode cX5_failures 30 = .ok (.iconst 0, 1) := by decide +kernel
theorem dX5_failures_31 : decode cX5_failures 31 = .ok (.goto 4, 3) := by decide +kernel
theorem dX5_failures_34 : decode cX5_failures 34 = .ok (.iconst 1, 1) := by decide +kernel
theorem dX5_failures_35 : decode cX5_failures 35 = .ok (.iadd, 1) := by decide +kernel
theorem dX5_failures_36 : decode cX5_failures 36 = .ok (.istore_n 1, 1) := by decide +kernel
theorem dX5_failures_37 : decode cX5_failures 37 = .ok (.iinc 3 1, 3) := by decide +kernel
theorem dX5_failures_40 : decode cX5_failures 40 = .ok (.goto (-26), 3) := by decide +kernel
theorem dX5_failures_43 : decode cX5_failures 43 = .ok (.iinc 2 1, 3) := by decide +kernel
theorem dX5_failures_46 : decode cX5_failures 46 = .ok (.goto (-42), 3) := by decide +kernel
theorem dX5_failures_49 : decode cX5_failures 49 = .ok (.iload_n 1, 1) := by decide +kernel
theorem dX5_failures_50 : decode cX5_failures 50 = .ok (.ireturn, 1) := by decide +kernel
theorem dX5_failure_0 : decode cX5_failure 0 = .ok (.iload_n 1, 1) := by decide +kernel
theorem dX5_failure_1 : decode cX5_failure 1 = .ok (.ifCond .ge 5, 3) := by decide +kernel
theorem dX5_failure_4 : decode cX5_failure 4 = .ok (.iconst (-1), 1) := by decide +kernel
theorem dX5_failure_5 : decode cX5_failure 5 = .ok (.ireturn, 1) := by decide +kernel
theorem dX5_failure_6 : decode cX5_failure 6 = .ok (.iload_n 1, 1) := by decide +kernel
theorem dX5_failure_7 : decode cX5_failure 7 = .ok (.istore_n 3, 1) := by decide +kernel
theorem dX5_failure_8 : decode cX5_failure 8 = .ok (.iconst 0, 1) := by decide +kernel
theorem dX5_failure_9 : decode cX5_failure 9 = .ok (.istore 4, 2) := by decide +kernel
theorem dX5_failure_11 : decode cX5_failure 11 = .ok (.iload 4, 2) := by decide +kernel
theorem dX5_failure_13 : decode cX5_failure 13 = .ok (.aload_n 0, 1) := by decide +kernel
theorem dX5_failure_14 : decode cX5_failure 14 = .ok (.getfield 93, 3) := by decide +kernel
theorem dX5_failure_17 : decode cX5_failure 17 = .ok (.if_icmp .ge 81, 3) := by decide +kernel
theorem dX5_failure_20 : decode cX5_failure 20 = .ok (.iconst 1, 1) := by decide +kernel
theorem dX5_failure_21 : decode cX5_failure 21 = .ok (.istore 5, 2) := by decide +kernel
theorem dX5_failure_23 : decode cX5_failure 23 = .ok (.iload 5, 2) := by decide +kernel
theorem dX5_failure_25 : decode cX5_failure 25 = .ok (.iconst 5, 1) := by decide +kernel
theorem dX5_failure_26 : decode cX5_failure 26 = .ok (.if_icmp .ge 66, 3) := by decide +kernel
theorem dX5_failure_29 : decode cX5_failure 29 = .ok (.aload_n 0, 1) := by decide +kernel
theorem dX5_failure_30 : decode cX5_failure 30 = .ok (.iload 5, 2) := by decide +kernel
theorem dX5_failure_32 : decode cX5_failure 32 = .ok (.iload 4, 2) := by decide +kernel
theorem dX5_failure_34 : decode cX5_failure 34 = .ok (.invokevirtual 212, 3) := by decide +kernel
theorem dX5_failure_37 : decode cX5_failure 37 = .ok (.istore 6, 2) := by decide +kernel
theorem dX5_failure_39 : decode cX5_failure 39 = .ok (.iload 6, 2) := by decide +kernel
theorem dX5_failure_41 : decode cX5_failure 41 = .ok (.iconst (-1), 1) := by decide +kernel
theorem dX5_failure_42 : decode cX5_failure 42 = .ok (.if_icmp .ne 6, 3) := by decide +kernel
theorem dX5_failure_45 : decode cX5_failure 45 = .ok (.goto 41, 3) := by decide +kernel
theorem dX5_failure_48 : decode cX5_failure 48 = .ok (.iload_n 3, 1) := by decide +kernel
theorem dX5_failure_49 : decode cX5_failure 49 = .ok (.ifCond .ne 34, 3) := by decide +kernel
theorem dX5_failure_52 : decode cX5_failure 52 = .ok (.iload_n 2, 1) := by decide +kernel
theorem dX5_failure_53 : decode cX5_failure 53 = .ok (.ifCond .ne 8, 3) := by decide +kernel
theorem dX5_failure_56 : decode cX5_failure 56 = .ok (.iload 5, 2) := by decide +kernel
theorem dX5_failure_58 : decode cX5_failure 58 = .ok (.goto 24, 3) := by decide +kernel
theorem dX5_failure_61 : decode cX5_failure 61 = .ok (.iload_n 2, 1) := by decide +kernel
theorem dX5_failure_62 : decode cX5_failure 62 = .ok (.iconst 1, 1) := by decide +kernel
theorem dX5_failure_63 : decode cX5_failure 63 = .ok (.if_icmp .ne 8, 3) := by decide +kernel
theorem dX5_failure_66 : decode cX5_failure 66 = .ok (.iload 4, 2) := by decide +kernel
theorem dX5_failure_68 : decode cX5_failure 68 = .ok (.goto 14, 3) := by decide +kernel
theorem dX5_failure_71 : decode cX5_failure 71 = .ok (.iload_n 2, 1) := by decide +kernel
theorem dX5_failure_72 : decode cX5_failure 72 = .ok (.iconst 2, 1) := by decide +kernel
theorem dX5_failure_73 : decode cX5_failure 73 = .ok (.if_icmp .ne 8, 3) := by decide +kernel
theorem dX5_failure_76 : decode cX5_failure 76 = .ok (.iload 6, 2) := by decide +kernel
theorem dX5_failure_78 : decode cX5_failure 78 = .ok (.goto 4, 3) := by decide +kernel
theorem dX5_failure_81 : decode cX5_failure 81 = .ok (.iconst (-1), 1) := by decide +kernel
theorem dX5_failure_82 : decode cX5_failure 82 = .ok (.ireturn, 1) := by decide +kernel
theorem dX5_failure_83 : decode cX5_failure 83 = .ok (.iinc 3 (-1), 3) := by decide +kernel
theorem dX5_failure_86 : decode cX5_failure 86 = .ok (.iinc 5 1, 3) := by decide +kernel
theorem dX5_failure_89 : decode cX5_failure 89 = .ok (.goto (-66), 3) := by decide +kernel
theorem dX5_failure_92 : decode cX5_failure 92 = .ok (.iinc 4 1, 3) := by decide +kernel
theorem dX5_failure_95 : decode cX5_failure 95 = .ok (.goto (-84), 3) := by decide +kernel
theorem dX5_failure_98 : decode cX5_failure 98 = .ok (.iconst (-1), 1) := by decide +kernel
theorem dX5_failure_99 : decode cX5_failure 99 = .ok (.ireturn, 1) := by decide +kernel
theorem dX5_covered_0 : decode cX5_covered 0 = .ok (.aload_n 0, 1) := by decide +kernel
theorem dX5_covered_1 : decode cX5_covered 1 = .ok (.getfield 29, 3) := by decide +kernel
theorem dX5_covered_4 : decode cX5_covered 4 = .ok (.ifCond .lt 15, 3) := by decide +kernel
theorem dX5_covered_7 : decode cX5_covered 7 = .ok (.iload_n 1, 1) := by decide +kernel
theorem dX5_covered_8 : decode cX5_covered 8 = .ok (.ifCond .lt 11, 3) := by decide +kernel
theorem dX5_covered_11 : decode cX5_covered 11 = .ok (.iload_n 1, 1) := by decide +kernel
theorem dX5_covered_12 : decode cX5_covered 12 = .ok (.aload_n 0, 1) := by decide +kernel
theorem dX5_covered_13 : decode cX5_covered 13 = .ok (.getfield 93, 3) := by decide +kernel
theorem dX5_covered_16 : decode cX5_covered 16 = .ok (.if_icmp .lt 7, 3) := by decide +kernel
theorem dX5_covered_19 : decode cX5_covered 19 = .ok (.iconst (-1), 1) := by decide +kernel
theorem dX5_covered_20 : decode cX5_covered 20 = .ok (.goto 12, 3) := by decide +kernel
theorem dX5_covered_23 : decode cX5_covered 23 = .ok (.aload_n 0, 1) := by decide +kernel
theorem dX5_covered_24 : decode cX5_covered 24 = .ok (.getfield 59, 3) := by decide +kernel
theorem dX5_covered_27 : decode cX5_covered 27 = .ok (.iload_n 1, 1) := by decide +kernel
theorem dX5_covered_28 : decode cX5_covered 28 = .ok (.baload, 1) := by decide +kernel
theorem dX5_covered_29 : decode cX5_covered 29 = .ok (.invokestatic 128, 3) := by decide +kernel
theorem dX5_covered_32 : decode cX5_covered 32 = .ok (.ireturn, 1) := by decide +kernel
theorem dX5_count_0 : decode cX5_count 0 = .ok (.iconst 0, 1) := by decide +kernel
theorem dX5_count_1 : decode cX5_count 1 = .ok (.istore_n 2, 1) := by decide +kernel
theorem dX5_count_2 : decode cX5_count 2 = .ok (.iload_n 1, 1) := by decide +kernel
theorem dX5_count_3 : decode cX5_count 3 = .ok (.tableswitch 119 0 5 #[37, 42, 47, 52, 57, 73], 37) := by decide +kernel
theorem dX5_count_40 : decode cX5_count 40 = .ok (.aload_n 0, 1) := by decide +kernel
theorem dX5_count_41 : decode cX5_count 41 = .ok (.getfield 84, 3) := by decide +kernel
theorem dX5_count_44 : decode cX5_count 44 = .ok (.ireturn, 1) := by decide +kernel
theorem dX5_count_45 : decode cX5_count 45 = .ok (.aload_n 0, 1) := by decide +kernel
theorem dX5_count_46 : decode cX5_count 46 = .ok (.getfield 87, 3) := by decide +kernel
theorem dX5_count_49 : decode cX5_count 49 = .ok (.ireturn, 1) := by decide +kernel
theorem dX5_count_50 : decode cX5_count 50 = .ok (.aload_n 0, 1) := by decide +kernel
theorem dX5_count_51 : decode cX5_count 51 = .ok (.getfield 93, 3) := by decide +kernel
theorem dX5_count_54 : decode cX5_count 54 = .ok (.ireturn, 1) := by decide +kernel
theorem dX5_count_55 : decode cX5_count 55 = .ok (.aload_n 0, 1) := by decide +kernel
theorem dX5_count_56 : decode cX5_count 56 = .ok (.getfield 29, 3) := by decide +kernel
theorem dX5_count_59 : decode cX5_count 59 = .ok (.ireturn, 1) := by decide +kernel
theorem dX5_count_60 : decode cX5_count 60 = .ok (.aload_n 0, 1) := by decide +kernel
theorem dX5_count_61 : decode cX5_count 61 = .ok (.getfield 29, 3) := by decide +kernel
theorem dX5_count_64 : decode cX5_count 64 = .ok (.ifCond .ge 7, 3) := by decide +kernel
theorem dX5_count_67 : decode cX5_count 67 = .ok (.iconst (-1), 1) := by decide +kernel
theorem dX5_count_68 : decode cX5_count 68 = .ok (.goto 7, 3) := by decide +kernel
theorem dX5_count_71 : decode cX5_count 71 = .ok (.aload_n 0, 1) := by decide +kernel
theorem dX5_count_72 : decode cX5_count 72 = .ok (.invokevirtual 215, 3) := by decide +kernel
theorem dX5_count_75 : decode cX5_count 75 = .ok (.ireturn, 1) := by decide +kernel
theorem dX5_count_76 : decode cX5_count 76 = .ok (.iconst 0, 1) := by decide +kernel
theorem dX5_count_77 : decode cX5_count 77 = .ok (.istore_n 3, 1) := by decide +kernel
theorem dX5_count_78 : decode cX5_count 78 = .ok (.iload_n 3, 1) := by decide +kernel
theorem dX5_count_79 : decode cX5_count 79 = .ok (.aload_n 0, 1) := by decide +kernel
theorem dX5_count_80 : decode cX5_count 80 = .ok (.getfield 93, 3) := by decide +kernel
theorem dX5_count_83 : decode cX5_count 83 = .ok (.if_icmp .ge 26, 3) := by decide +kernel
theorem dX5_count_86 : decode cX5_count 86 = .ok (.iload_n 2, 1) := by decide +kernel
theorem dX5_count_87 : decode cX5_count 87 = .ok (.aload_n 0, 1) := by decide +kernel
theorem dX5_count_88 : decode cX5_count 88 = .ok (.getfield 59, 3) := by decide +kernel
theorem dX5_count_91 : decode cX5_count 91 = .ok (.iload_n 3, 1) := by decide +kernel
theorem dX5_count_92 : decode cX5_count 92 = .ok (.baload, 1) := by decide +kernel
theorem dX5_count_93 : decode cX5_count 93 = .ok (.ifCond .eq 7, 3) := by decide +kernel
theorem dX5_count_96 : decode cX5_count 96 = .ok (.iconst 1, 1) := by decide +kernel
theorem dX5_count_97 : decode cX5_count 97 = .ok (.goto 4, 3) := by decide +kernel
theorem dX5_count_100 : decode cX5_count 100 = .ok (.iconst 0, 1) := by decide +kernel
theorem dX5_count_101 : decode cX5_count 101 = .ok (.iadd, 1) := by decide +kernel
theorem dX5_count_102 : decode cX5_count 102 = .ok (.istore_n 2, 1) := by decide +kernel
theorem dX5_count_103 : decode cX5_count 103 = .ok (.iinc 3 1, 3) := by decide +kernel
theorem dX5_count_106 : decode cX5_count 106 = .ok (.goto (-28), 3) := by decide +kernel
theorem dX5_count_109 : decode cX5_count 109 = .ok (.aload_n 0, 1) := by decide +kernel
theorem dX5_count_110 : decode cX5_count 110 = .ok (.getfield 29, 3) := by decide +kernel
theorem dX5_count_113 : decode cX5_count 113 = .ok (.ifCond .ge 7, 3) := by decide +kernel
theorem dX5_count_116 : decode cX5_count 116 = .ok (.iconst (-1), 1) := by decide +kernel
theorem dX5_count_117 : decode cX5_count 117 = .ok (.goto 4, 3) := by decide +kernel
theorem dX5_count_120 : decode cX5_count 120 = .ok (.iload_n 2, 1) := by decide +kernel
theorem dX5_count_121 : decode cX5_count 121 = .ok (.ireturn, 1) := by decide +kernel
theorem dX5_count_122 : decode cX5_count 122 = .ok (.iconst (-1), 1) := by decide +kernel
theorem dX5_count_123 : decode cX5_count 123 = .ok (.ireturn, 1) := by decide +kernel
end
section
theorem dL_law_0 : decode cL_law 0 = .ok (.new 7, 3) := by decide +kernel
theorem dL_law_3 : decode cL_law 3 = .ok (.dup, 1) := by decide +kernel
theorem dL_law_4 : decode cL_law 4 = .ok (.invokespecial 9, 3) := by decide +kernel
theorem dL_law_7 : decode cL_law 7 = .ok (.astore_n 1, 1) := by decide +kernel
theorem dL_law_8 : decode cL_law 8 = .ok (.new 10, 3) := by decide +kernel
theorem dL_law_11 : decode cL_law 11 = .ok (.dup, 1) := by decide +kernel
theorem dL_law_12 : decode cL_law 12 = .ok (.invokespecial 12, 3) := by decide +kernel
theorem dL_law_15 : decode cL_law 15 = .ok (.astore_n 2, 1) := by decide +kernel
theorem dL_law_16 : decode cL_law 16 = .ok (.iconst 0, 1) := by decide +kernel
theorem dL_law_17 : decode cL_law 17 = .ok (.istore_n 3, 1) := by decide +kernel
theorem dL_law_18 : decode cL_law 18 = .ok (.iload_n 3, 1) := by decide +kernel
theorem dL_law_19 : decode cL_law 19 = .ok (.aload_n 0, 1) := by decide +kernel
theorem dL_law_20 : decode cL_law 20 = .ok (.arraylength, 1) := by decide +kernel
theorem dL_law_21 : decode cL_law 21 = .ok (.iconst 5, 1) := by decide +kernel
theorem dL_law_22 : decode cL_law 22 = .ok (.isub, 1) := by decide +kernel
theorem dL_law_23 : decode cL_law 23 = .ok (.if_icmp .gt 569, 3) := by decide +kernel
theorem dL_law_26 : decode cL_law 26 = .ok (.aload_n 0, 1) := by decide +kernel
theorem dL_law_27 : decode cL_law 27 = .ok (.iload_n 3, 1) := by decide +kernel
theorem dL_law_28 : decode cL_law 28 = .ok (.iaload, 1) := by decide +kernel
theorem dL_law_29 : decode cL_law 29 = .ok (.bipush 15, 2) := by decide +kernel
theorem dL_law_31 : decode cL_law 31 = .ok (.iand, 1) := by decide +kernel
theorem dL_law_32 : decode cL_law 32 = .ok (.tableswitch 554 0 15 #[80, 129, 182, 195, 208, 241, 274, 307, 340, 383, 406, 429, 452, 475, 508, 531], 80) := by decide +kernel
theorem dL_law_112 : decode cL_law 112 = .ok (.aload_n 1, 1) := by decide +kernel
theorem dL_law_113 : decode cL_law 113 = .ok (.aload_n 0, 1) := by decide +kernel
theorem dL_law_114 : decode cL_law 114 = .ok (.iload_n 3, 1) := by decide +kernel
theorem dL_law_115 : decode cL_law 115 = .ok (.iconst 1, 1) := by decide +kernel
theorem dL_law_116 : decode cL_law 116 = .ok (.iadd, 1) := by decide +kernel
theorem dL_law_117 : decode cL_law 117 = .ok (.iaload, 1) := by decide +kernel
theorem dL_law_118 : decode cL_law 118 = .ok (.aload_n 0, 1) := by decide +kernel
theorem dL_law_119 : decode cL_law 119 = .ok (.iload_n 3, 1) := by decide +kernel
theorem dL_law_120 : decode cL_law 120 = .ok (.iconst 2, 1) := by decide +kernel
theorem dL_law_121 : decode cL_law 121 = .ok (.iadd, 1) := by decide +kernel
theorem dL_law_122 : decode cL_law 122 = .ok (.iaload, 1) := by decide +kernel
theorem dL_law_123 : decode cL_law 123 = .ok (.ifCond .eq 7, 3) := by decide +kernel
theorem dL_law_126 : decode cL_law 126 = .ok (.iconst 1, 1) := by decide +kernel
theorem dL_law_127 : decode cL_law 127 = .ok (.goto 4, 3) := by decide +kernel
theorem dL_law_130 : decode cL_law 130 = .ok (.iconst 0, 1) := by decide +kernel
theorem dL_law_131 : decode cL_law 131 = .ok (.invokevirtual 13, 3) := by decide +kernel
theorem dL_law_134 : decode cL_law 134 = .ok (.aload_n 2, 1) := by decide +kernel
theorem dL_law_135 : decode cL_law 135 = .ok (.aload_n 0, 1) := by decide +kernel
theorem dL_law_136 : decode cL_law 136 = .ok (.iload_n 3, 1) := by decide +kernel
theorem dL_law_137 : decode cL_law 137 = .ok (.iconst 1, 1) := by decide +kernel
theorem dL_law_138 : decode cL_law 138 = .ok (.iadd, 1) := by decide +kernel
theorem dL_law_139 : decode cL_law 139 = .ok (.iaload, 1) := by decide +kernel
theorem dL_law_140 : decode cL_law 140 = .ok (.aload_n 0, 1) := by decide +kernel
theorem dL_law_141 : decode cL_law 141 = .ok (.iload_n 3, 1) := by decide +kernel
theorem dL_law_142 : decode cL_law 142 = .ok (.iconst 2, 1) := by decide +kernel
theorem dL_law_143 : decode cL_law 143 = .ok (.iadd, 1) := by decide +kernel
theorem dL_law_144 : decode cL_law 144 = .ok (.iaload, 1) := by decide +kernel
theorem dL_law_145 : decode cL_law 145 = .ok (.ifCond .eq 7, 3) := by decide +kernel
theorem dL_law_148 : decode cL_law 148 = .ok (.iconst 1, 1) := by decide +kernel
theorem dL_law_149 : decode cL_law 149 = .ok (.goto 4, 3) := by decide +kernel
theorem dL_law_152 : decode cL_law 152 = .ok (.iconst 0, 1) := by decide +kernel
theorem dL_law_153 : decode cL_law 153 = .ok (.invokevirtual 17, 3) := by decide +kernel
theorem dL_law_156 : decode cL_law 156 = .ok (.if_icmp .eq 430, 3) := by decide +kernel
theorem dL_law_159 : decode cL_law 159 = .ok (.iconst 0, 1) := by decide +kernel
theorem dL_law_160 : decode cL_law 160 = .ok (.ireturn, 1) := by decide +kernel
theorem dL_law_161 : decode cL_law 161 = .ok (.aload_n 1, 1) := by decide +kernel
theorem dL_law_162 : decode cL_law 162 = .ok (.aload_n 0, 1) := by decide +kernel
theorem dL_law_163 : decode cL_law 163 = .ok (.iload_n 3, 1) := by decide +kernel
theorem dL_law_164 : decode cL_law 164 = .ok (.iconst 1, 1) := by decide +kernel
theorem dL_law_165 : decode cL_law 165 = .ok (.iadd, 1) := by decide +kernel
theorem dL_law_166 : decode cL_law 166 = .ok (.iaload, 1) := by decide +kernel
theorem dL_law_167 : decode cL_law 167 = .ok (.aload_n 0, 1) := by decide +kernel
theorem dL_law_168 : decode cL_law 168 = .ok (.iload_n 3, 1) := by decide +kernel
theorem dL_law_169 : decode cL_law 169 = .ok (.iconst 2, 1) := by decide +kernel
theorem dL_law_170 : decode cL_law 170 = .ok (.iadd, 1) := by decide +kernel
theorem dL_law_171 : decode cL_law 171 = .ok (.iaload, 1) := by decide +kernel
theorem dL_law_172 : decode cL_law 172 = .ok (.aload_n 0, 1) := by decide +kernel
theorem dL_law_173 : decode cL_law 173 = .ok (.iload_n 3, 1) := by decide +kernel
theorem dL_law_174 : decode cL_law 174 = .ok (.iconst 3, 1) := by decide +kernel
theorem dL_law_175 : decode cL_law 175 = .ok (.iadd, 1) := by decide +kernel
theorem dL_law_176 : decode cL_law 176 = .ok (.iaload, 1) := by decide +kernel
theorem dL_law_177 : decode cL_law 177 = .ok (.aload_n 0, 1) := by decide +kernel
theorem dL_law_178 : decode cL_law 178 = .ok (.iload_n 3, 1) := by decide +kernel
theorem dL_law_179 : decode cL_law 179 = .ok (.iconst 4, 1) := by decide +kernel
theorem dL_law_180 : decode cL_law 180 = .ok (.iadd, 1) := by decide +kernel
theorem dL_law_181 : decode cL_law 181 = .ok (.iaload, 1) := by decide +kernel
theorem dL_law_182 : decode cL_law 182 = .ok (.invokevirtual 18, 3) := by decide +kernel
theorem dL_law_185 : decode cL_law 185 = .ok (.aload_n 2, 1) := by decide +kernel
theorem dL_law_186 : decode cL_law 186 = .ok (.aload_n 0, 1) := by decide +kernel
theorem dL_law_187 : decode cL_law 187 = .ok (.iload_n 3, 1) := by decide +kernel
theorem dL_law_188 : decode cL_law 188 = .ok (.iconst 1, 1) := by decide +kernel
theorem dL_law_189 : decode cL_law 189 = .ok (.iadd, 1) := by decide +kernel
theorem dL_law_190 : decode cL_law 190 = .ok (.iaload, 1) := by decide +kernel
theorem dL_law_191 : decode cL_law 191 = .ok (.aload_n 0, 1) := by decide +kernel
theorem dL_law_192 : decode cL_law 192 = .ok (.iload_n 3, 1) := by decide +kernel
theorem dL_law_193 : decode cL_law 193 = .ok (.iconst 2, 1) := by decide +kernel
theorem dL_law_194 : decode cL_law 194 = .ok (.iadd, 1) := by decide +kernel
theorem dL_law_195 : decode cL_law 195 = .ok (.iaload, 1) := by decide +kernel
theorem dL_law_196 : decode cL_law 196 = .ok (.aload_n 0, 1) := by decide +kernel
theorem dL_law_197 : decode cL_law 197 = .ok (.iload_n 3, 1) := by decide +kernel
theorem dL_law_198 : decode cL_law 198 = .ok (.iconst 3, 1) := by decide +kernel
theorem dL_law_199 : decode cL_law 199 = .ok (.iadd, 1) := by decide +kernel
theorem dL_law_200 : decode cL_law 200 = .ok (.iaload, 1) := by decide +kernel
theorem dL_law_201 : decode cL_law 201 = .ok (.aload_n 0, 1) := by decide +kernel
theorem dL_law_202 : decode cL_law 202 = .ok (.iload_n 3, 1) := by decide +kernel
theorem dL_law_203 : decode cL_law 203 = .ok (.iconst 4, 1) := by decide +kernel
theorem dL_law_204 : decode cL_law 204 = .ok (.iadd, 1) := by decide +kernel
theorem dL_law_205 : decode cL_law 205 = .ok (.iaload, 1) := by decide +kernel
theorem dL_law_206 : decode cL_law 206 = .ok (.invokevirtual 22, 3) := by decide +kernel
theorem dL_law_209 : decode cL_law 209 = .ok (.if_icmp .eq 377, 3) := by decide +kernel
theorem dL_law_212 : decode cL_law 212 = .ok (.iconst 0, 1) := by decide +kernel
theorem dL_law_213 : decode cL_law 213 = .ok (.ireturn, 1) := by decide +kernel
theorem dL_law_214 : decode cL_law 214 = .ok (.aload_n 1, 1) := by decide +kernel
theorem dL_law_215 : decode cL_law 215 = .ok (.invokevirtual 23, 3) := by decide +kernel
theorem dL_law_218 : decode cL_law 218 = .ok (.aload_n 2, 1) := by decide +kernel
theorem dL_law_219 : decode cL_law 219 = .ok (.invokevirtual 27, 3) := by decide +kernel
theorem dL_law_222 : decode cL_law 222 = .ok (.if_icmp .eq 364, 3) := by decide +kernel
theorem dL_law_225 : decode cL_law 225 = .ok (.iconst 0, 1) := by decide +kernel
theorem dL_law_226 : decode cL_law 226 = .ok (.ireturn, 1) := by decide +kernel
theorem dL_law_227 : decode cL_law 227 = .ok (.aload_n 1, 1) := by decide +kernel
theorem dL_law_228 : decode cL_law 228 = .ok (.invokevirtual 28, 3) := by decide +kernel
theorem dL_law_231 : decode cL_law 231 = .ok (.aload_n 2, 1) := by decide +kernel
theorem dL_law_232 : decode cL_law 232 = .ok (.invokevirtual 31, 3) := by decide +kernel
theorem dL_law_235 : decode cL_law 235 = .ok (.if_icmp .eq 351, 3) := by decide +kernel
theorem dL_law_238 : decode cL_law 238 = .ok (.iconst 0, 1) := by decide +kernel
theorem dL_law_239 : decode cL_law 239 = .ok (.ireturn, 1) := by decide +kernel
theorem dL_law_240 : decode cL_law 240 = .ok (.aload_n 1, 1) := by decide +kernel
theorem dL_law_241 : decode cL_law 241 = .ok (.aload_n 0, 1) := by decide +kernel
theorem dL_law_242 : decode cL_law 242 = .ok (.iload_n 3, 1) := by decide +kernel
theorem dL_law_243 : decode cL_law 243 = .ok (.iconst 1, 1) := by decide +kernel
theorem dL_law_244 : decode cL_law 244 = .ok (.iadd, 1) := by decide +kernel
theorem dL_law_245 : decode cL_law 245 = .ok (.iaload, 1) := by decide +kernel
theorem dL_law_246 : decode cL_law 246 = .ok (.aload_n 0, 1) := by decide +kernel
theorem dL_law_247 : decode cL_law 247 = .ok (.iload_n 3, 1) := by decide +kernel
theorem dL_law_248 : decode cL_law 248 = .ok (.iconst 2, 1) := by decide +kernel
theorem dL_law_249 : decode cL_law 249 = .ok (.iadd, 1) := by decide +kernel
theorem dL_law_250 : decode cL_law 250 = .ok (.iaload, 1) := by decide +kernel
theorem dL_law_251 : decode cL_law 251 = .ok (.invokevirtual 32, 3) := by decide +kernel
theorem dL_law_254 : decode cL_law 254 = .ok (.aload_n 2, 1) := by decide +kernel
theorem dL_law_255 : decode cL_law 255 = .ok (.aload_n 0, 1) := by decide +kernel
theorem dL_law_256 : decode cL_law 256 = .ok (.iload_n 3, 1) := by decide +kernel
theorem dL_law_257 : decode cL_law 257 = .ok (.iconst 1, 1) := by decide +kernel
theorem dL_law_258 : decode cL_law 258 = .ok (.iadd, 1) := by decide +kernel
theorem dL_law_259 : decode cL_law 259 = .ok (.iaload, 1) := by decide +kernel
theorem dL_law_260 : decode cL_law 260 = .ok (.aload_n 0, 1) := by decide +kernel
theorem dL_law_261 : decode cL_law 261 = .ok (.iload_n 3, 1) := by decide +kernel
theorem dL_law_262 : decode cL_law 262 = .ok (.iconst 2, 1) := by decide +kernel
theorem dL_law_263 : decode cL_law 263 = .ok (.iadd, 1) := by decide +kernel
theorem dL_law_264 : decode cL_law 264 = .ok (.iaload, 1) := by decide +kernel
theorem dL_law_265 : decode cL_law 265 = .ok (.invokevirtual 36, 3) := by decide +kernel
theorem dL_law_268 : decode cL_law 268 = .ok (.if_icmp .eq 318, 3) := by decide +kernel
theorem dL_law_271 : decode cL_law 271 = .ok (.iconst 0, 1) := by decide +kernel
theorem dL_law_272 : decode cL_law 272 = .ok (.ireturn, 1) := by decide +kernel
theorem dL_law_273 : decode cL_law 273 = .ok (.aload_n 1, 1) := by decide +kernel
theorem dL_law_274 : decode cL_law 274 = .ok (.aload_n 0, 1) := by decide +kernel
theorem dL_law_275 : decode cL_law 275 = .ok (.iload_n 3, 1) := by decide +kernel
theorem dL_law_276 : decode cL_law 276 = .ok (.iconst 1, 1) := by decide +kernel
theorem dL_law_277 : decode cL_law 277 = .ok (.iadd, 1) := by decide +kernel
theorem dL_law_278 : decode cL_law 278 = .ok (.iaload, 1) := by decide +kernel
theorem dL_law_279 : decode cL_law 279 = .ok (.aload_n 0, 1) := by decide +kernel
theorem dL_law_280 : decode cL_law 280 = .ok (.iload_n 3, 1) := by decide +kernel
theorem dL_law_281 : decode cL_law 281 = .ok (.iconst 2, 1) := by decide +kernel
theorem dL_law_282 : decode cL_law 282 = .ok (.iadd, 1) := by decide +kernel
theorem dL_law_283 : decode cL_law 283 = .ok (.iaload, 1) := by decide +kernel
theorem dL_law_284 : decode cL_law 284 = .ok (.invokevirtual 37, 3) := by decide +kernel
theorem dL_law_287 : decode cL_law 287 = .ok (.aload_n 2, 1) := by decide +kernel
theorem dL_law_288 : decode cL_law 288 = .ok (.aload_n 0, 1) := by decide +kernel
theorem dL_law_289 : decode cL_law 289 = .ok (.iload_n 3, 1) := by decide +kernel
theorem dL_law_290 : decode cL_law 290 = .ok (.iconst 1, 1) := by decide +kernel
theorem dL_law_291 : decode cL_law 291 = .ok (.iadd, 1) := by decide +kernel
theorem dL_law_292 : decode cL_law 292 = .ok (.iaload, 1) := by decide +kernel
theorem dL_law_293 : decode cL_law 293 = .ok (.aload_n 0, 1) := by decide +kernel
theorem dL_law_294 : decode cL_law 294 = .ok (.iload_n 3, 1) := by decide +kernel
theorem dL_law_295 : decode cL_law 295 = .ok (.iconst 2, 1) := by decide +kernel
theorem dL_law_296 : decode cL_law 296 = .ok (.iadd, 1) := by decide +kernel
theorem dL_law_297 : decode cL_law 297 = .ok (.iaload, 1) := by decide +kernel
theorem dL_law_298 : decode cL_law 298 = .ok (.invokevirtual 40, 3) := by decide +kernel
theorem dL_law_301 : decode cL_law 301 = .ok (.if_icmp .eq 285, 3) := by decide +kernel
theorem dL_law_304 : decode cL_law 304 = .ok (.iconst 0, 1) := by decide +kernel
theorem dL_law_305 : decode cL_law 305 = .ok (.ireturn, 1) := by decide +kernel
theorem dL_law_306 : decode cL_law 306 = .ok (.aload_n 1, 1) := by decide +kernel
theorem dL_law_307 : decode cL_law 307 = .ok (.aload_n 0, 1) := by decide +kernel
theorem dL_law_308 : decode cL_law 308 = .ok (.iload_n 3, 1) := by decide +kernel
theorem dL_law_309 : decode cL_law 309 = .ok (.iconst 1, 1) := by decide +kernel
theorem dL_law_310 : decode cL_law 310 = .ok (.iadd, 1) := by decide +kernel
theorem dL_law_311 : decode cL_law 311 = .ok (.iaload, 1) := by decide +kernel
theorem dL_law_312 : decode cL_law 312 = .ok (.aload_n 0, 1) := by decide +kernel
theorem dL_law_313 : decode cL_law 313 = .ok (.iload_n 3, 1) := by decide +kernel
theorem dL_law_314 : decode cL_law 314 = .ok (.iconst 2, 1) := by decide +kernel
theorem dL_law_315 : decode cL_law 315 = .ok (.iadd, 1) := by decide +kernel
theorem dL_law_316 : decode cL_law 316 = .ok (.iaload, 1) := by decide +kernel
theorem dL_law_317 : decode cL_law 317 = .ok (.invokevirtual 41, 3) := by decide +kernel
theorem dL_law_320 : decode cL_law 320 = .ok (.aload_n 2, 1) := by decide +kernel
theorem dL_law_321 : decode cL_law 321 = .ok (.aload_n 0, 1) := by decide +kernel
theorem dL_law_322 : decode cL_law 322 = .ok (.iload_n 3, 1) := by decide +kernel
theorem dL_law_323 : decode cL_law 323 = .ok (.iconst 1, 1) := by decide +kernel
theorem dL_law_324 : decode cL_law 324 = .ok (.iadd, 1) := by decide +kernel
theorem dL_law_325 : decode cL_law 325 = .ok (.iaload, 1) := by decide +kernel
theorem dL_law_326 : decode cL_law 326 = .ok (.aload_n 0, 1) := by decide +kernel
theorem dL_law_327 : decode cL_law 327 = .ok (.iload_n 3, 1) := by decide +kernel
theorem dL_law_328 : decode cL_law 328 = .ok (.iconst 2, 1) := by decide +kernel
theorem dL_law_329 : decode cL_law 329 = .ok (.iadd, 1) := by decide +kernel
theorem dL_law_330 : decode cL_law 330 = .ok (.iaload, 1) := by decide +kernel
theorem dL_law_331 : decode cL_law 331 = .ok (.invokevirtual 44, 3) := by decide +kernel
theorem dL_law_334 : decode cL_law 334 = .ok (.if_icmp .eq 252, 3) := by decide +kernel
theorem dL_law_337 : decode cL_law 337 = .ok (.iconst 0, 1) := by decide +kernel
theorem dL_law_338 : decode cL_law 338 = .ok (.ireturn, 1) := by decide +kernel
theorem dL_law_339 : decode cL_law 339 = .ok (.aload_n 1, 1) := by decide +kernel
theorem dL_law_340 : decode cL_law 340 = .ok (.aload_n 0, 1) := by decide +kernel
theorem dL_law_341 : decode cL_law 341 = .ok (.iload_n 3, 1) := by decide +kernel
theorem dL_law_342 : decode cL_law 342 = .ok (.iconst 1, 1) := by decide +kernel
theorem dL_law_343 : decode cL_law 343 = .ok (.iadd, 1) := by decide +kernel
theorem dL_law_344 : decode cL_law 344 = .ok (.iaload, 1) := by decide +kernel
theorem dL_law_345 : decode cL_law 345 = .ok (.aload_n 0, 1) := by decide +kernel
theorem dL_law_346 : decode cL_law 346 = .ok (.iload_n 3, 1) := by decide +kernel
theorem dL_law_347 : decode cL_law 347 = .ok (.iconst 2, 1) := by decide +kernel
theorem dL_law_348 : decode cL_law 348 = .ok (.iadd, 1) := by decide +kernel
theorem dL_law_349 : decode cL_law 349 = .ok (.iaload, 1) := by decide +kernel
theorem dL_law_350 : decode cL_law 350 = .ok (.invokevirtual 45, 3) := by decide +kernel
theorem dL_law_353 : decode cL_law 353 = .ok (.aload_n 2, 1) := by decide +kernel
theorem dL_law_354 : decode cL_law 354 = .ok (.aload_n 0, 1) := by decide +kernel
theorem dL_law_355 : decode cL_law 355 = .ok (.iload_n 3, 1) := by decide +kernel
theorem dL_law_356 : decode cL_law 356 = .ok (.iconst 1, 1) := by decide +kernel
theorem dL_law_357 : decode cL_law 357 = .ok (.iadd, 1) := by decide +kernel
theorem dL_law_358 : decode cL_law 358 = .ok (.iaload, 1) := by decide +kernel
theorem dL_law_359 : decode cL_law 359 = .ok (.aload_n 0, 1) := by decide +kernel
theorem dL_law_360 : decode cL_law 360 = .ok (.iload_n 3, 1) := by decide +kernel
theorem dL_law_361 : decode cL_law 361 = .ok (.iconst 2, 1) := by decide +kernel
theorem dL_law_362 : decode cL_law 362 = .ok (.iadd, 1) := by decide +kernel
theorem dL_law_363 : decode cL_law 363 = .ok (.iaload, 1) := by decide +kernel
theorem dL_law_364 : decode cL_law 364 = .ok (.invokevirtual 48, 3) := by decide +kernel
theorem dL_law_367 : decode cL_law 367 = .ok (.if_icmp .eq 219, 3) := by decide +kernel
theorem dL_law_370 : decode cL_law 370 = .ok (.iconst 0, 1) := by decide +kernel
theorem dL_law_371 : decode cL_law 371 = .ok (.ireturn, 1) := by decide +kernel
theorem dL_law_372 : decode cL_law 372 = .ok (.aload_n 1, 1) := by decide +kernel
theorem dL_law_373 : decode cL_law 373 = .ok (.aload_n 0, 1) := by decide +kernel
theorem dL_law_374 : decode cL_law 374 = .ok (.iload_n 3, 1) := by decide +kernel
theorem dL_law_375 : decode cL_law 375 = .ok (.iconst 1, 1) := by decide +kernel
theorem dL_law_376 : decode cL_law 376 = .ok (.iadd, 1) := by decide +kernel
theorem dL_law_377 : decode cL_law 377 = .ok (.iaload, 1) := by decide +kernel
theorem dL_law_378 : decode cL_law 378 = .ok (.aload_n 0, 1) := by decide +kernel
theorem dL_law_379 : decode cL_law 379 = .ok (.iload_n 3, 1) := by decide +kernel
theorem dL_law_380 : decode cL_law 380 = .ok (.iconst 2, 1) := by decide +kernel
theorem dL_law_381 : decode cL_law 381 = .ok (.iadd, 1) := by decide +kernel
theorem dL_law_382 : decode cL_law 382 = .ok (.iaload, 1) := by decide +kernel
theorem dL_law_383 : decode cL_law 383 = .ok (.aload_n 0, 1) := by decide +kernel
theorem dL_law_384 : decode cL_law 384 = .ok (.iload_n 3, 1) := by decide +kernel
theorem dL_law_385 : decode cL_law 385 = .ok (.iconst 3, 1) := by decide +kernel
theorem dL_law_386 : decode cL_law 386 = .ok (.iadd, 1) := by decide +kernel
theorem dL_law_387 : decode cL_law 387 = .ok (.iaload, 1) := by decide +kernel
theorem dL_law_388 : decode cL_law 388 = .ok (.invokevirtual 49, 3) := by decide +kernel
theorem dL_law_391 : decode cL_law 391 = .ok (.aload_n 2, 1) := by decide +kernel
theorem dL_law_392 : decode cL_law 392 = .ok (.aload_n 0, 1) := by decide +kernel
theorem dL_law_393 : decode cL_law 393 = .ok (.iload_n 3, 1) := by decide +kernel
theorem dL_law_394 : decode cL_law 394 = .ok (.iconst 1, 1) := by decide +kernel
theorem dL_law_395 : decode cL_law 395 = .ok (.iadd, 1) := by decide +kernel
theorem dL_law_396 : decode cL_law 396 = .ok (.iaload, 1) := by decide +kernel
theorem dL_law_397 : decode cL_law 397 = .ok (.aload_n 0, 1) := by decide +kernel
theorem dL_law_398 : decode cL_law 398 = .ok (.iload_n 3, 1) := by decide +kernel
theorem dL_law_399 : decode cL_law 399 = .ok (.iconst 2, 1) := by decide +kernel
theorem dL_law_400 : decode cL_law 400 = .ok (.iadd, 1) := by decide +kernel
theorem dL_law_401 : decode cL_law 401 = .ok (.iaload, 1) := by decide +kernel
theorem dL_law_402 : decode cL_law 402 = .ok (.aload_n 0, 1) := by decide +kernel
theorem dL_law_403 : decode cL_law 403 = .ok (.iload_n 3, 1) := by decide +kernel
theorem dL_law_404 : decode cL_law 404 = .ok (.iconst 3, 1) := by decide +kernel
theorem dL_law_405 : decode cL_law 405 = .ok (.iadd, 1) := by decide +kernel
theorem dL_law_406 : decode cL_law 406 = .ok (.iaload, 1) := by decide +kernel
theorem dL_law_407 : decode cL_law 407 = .ok (.invokevirtual 53, 3) := by decide +kernel
theorem dL_law_410 : decode cL_law 410 = .ok (.if_icmp .eq 176, 3) := by decide +kernel
theorem dL_law_413 : decode cL_law 413 = .ok (.iconst 0, 1) := by decide +kernel
theorem dL_law_414 : decode cL_law 414 = .ok (.ireturn, 1) := by decide +kernel
theorem dL_law_415 : decode cL_law 415 = .ok (.aload_n 1, 1) := by decide +kernel
theorem dL_law_416 : decode cL_law 416 = .ok (.aload_n 0, 1) := by decide +kernel
theorem dL_law_417 : decode cL_law 417 = .ok (.iload_n 3, 1) := by decide +kernel
theorem dL_law_418 : decode cL_law 418 = .ok (.iconst 1, 1) := by decide +kernel
theorem dL_law_419 : decode cL_law 419 = .ok (.iadd, 1) := by decide +kernel
theorem dL_law_420 : decode cL_law 420 = .ok (.iaload, 1) := by decide +kernel
theorem dL_law_421 : decode cL_law 421 = .ok (.invokevirtual 54, 3) := by decide +kernel
theorem dL_law_424 : decode cL_law 424 = .ok (.aload_n 2, 1) := by decide +kernel
theorem dL_law_425 : decode cL_law 425 = .ok (.aload_n 0, 1) := by decide +kernel
theorem dL_law_426 : decode cL_law 426 = .ok (.iload_n 3, 1) := by decide +kernel
theorem dL_law_427 : decode cL_law 427 = .ok (.iconst 1, 1) := by decide +kernel
theorem dL_law_428 : decode cL_law 428 = .ok (.iadd, 1) := by decide +kernel
theorem dL_law_429 : decode cL_law 429 = .ok (.iaload, 1) := by decide +kernel
theorem dL_law_430 : decode cL_law 430 = .ok (.invokevirtual 58, 3) := by decide +kernel
theorem dL_law_433 : decode cL_law 433 = .ok (.if_icmp .eq 153, 3) := by decide +kernel
theorem dL_law_436 : decode cL_law 436 = .ok (.iconst 0, 1) := by decide +kernel
theorem dL_law_437 : decode cL_law 437 = .ok (.ireturn, 1) := by decide +kernel
theorem dL_law_438 : decode cL_law 438 = .ok (.aload_n 1, 1) := by decide +kernel
theorem dL_law_439 : decode cL_law 439 = .ok (.aload_n 0, 1) := by decide +kernel
theorem dL_law_440 : decode cL_law 440 = .ok (.iload_n 3, 1) := by decide +kernel
theorem dL_law_441 : decode cL_law 441 = .ok (.iconst 1, 1) := by decide +kernel
theorem dL_law_442 : decode cL_law 442 = .ok (.iadd, 1) := by decide +kernel
theorem dL_law_443 : decode cL_law 443 = .ok (.iaload, 1) := by decide +kernel
theorem dL_law_444 : decode cL_law 444 = .ok (.invokevirtual 59, 3) := by decide +kernel
theorem dL_law_447 : decode cL_law 447 = .ok (.aload_n 2, 1) := by decide +kernel
theorem dL_law_448 : decode cL_law 448 = .ok (.aload_n 0, 1) := by decide +kernel
theorem dL_law_449 : decode cL_law 449 = .ok (.iload_n 3, 1) := by decide +kernel
theorem dL_law_450 : decode cL_law 450 = .ok (.iconst 1, 1) := by decide +kernel
theorem dL_law_451 : decode cL_law 451 = .ok (.iadd, 1) := by decide +kernel
theorem dL_law_452 : decode cL_law 452 = .ok (.iaload, 1) := by decide +kernel
theorem dL_law_453 : decode cL_law 453 = .ok (.invokevirtual 62, 3) := by decide +kernel
theorem dL_law_456 : decode cL_law 456 = .ok (.if_icmp .eq 130, 3) := by decide +kernel
theorem dL_law_459 : decode cL_law 459 = .ok (.iconst 0, 1) := by decide +kernel
theorem dL_law_460 : decode cL_law 460 = .ok (.ireturn, 1) := by decide +kernel
theorem dL_law_461 : decode cL_law 461 = .ok (.aload_n 1, 1) := by decide +kernel
theorem dL_law_462 : decode cL_law 462 = .ok (.aload_n 0, 1) := by decide +kernel
theorem dL_law_463 : decode cL_law 463 = .ok (.iload_n 3, 1) := by decide +kernel
theorem dL_law_464 : decode cL_law 464 = .ok (.iconst 1, 1) := by decide +kernel
theorem dL_law_465 : decode cL_law 465 = .ok (.iadd, 1) := by decide +kernel
theorem dL_law_466 : decode cL_law 466 = .ok (.iaload, 1) := by decide +kernel
theorem dL_law_467 : decode cL_law 467 = .ok (.invokevirtual 63, 3) := by decide +kernel
theorem dL_law_470 : decode cL_law 470 = .ok (.aload_n 2, 1) := by decide +kernel
theorem dL_law_471 : decode cL_law 471 = .ok (.aload_n 0, 1) := by decide +kernel
theorem dL_law_472 : decode cL_law 472 = .ok (.iload_n 3, 1) := by decide +kernel
theorem dL_law_473 : decode cL_law 473 = .ok (.iconst 1, 1) := by decide +kernel
theorem dL_law_474 : decode cL_law 474 = .ok (.iadd, 1) := by decide +kernel
theorem dL_law_475 : decode cL_law 475 = .ok (.iaload, 1) := by decide +kernel
theorem dL_law_476 : decode cL_law 476 = .ok (.invokevirtual 66, 3) := by decide +kernel
theorem dL_law_479 : decode cL_law 479 = .ok (.if_icmp .eq 107, 3) := by decide +kernel
theorem dL_law_482 : decode cL_law 482 = .ok (.iconst 0, 1) := by decide +kernel
theorem dL_law_483 : decode cL_law 483 = .ok (.ireturn, 1) := by decide +kernel
theorem dL_law_484 : decode cL_law 484 = .ok (.aload_n 1, 1) := by decide +kernel
theorem dL_law_485 : decode cL_law 485 = .ok (.aload_n 0, 1) := by decide +kernel
theorem dL_law_486 : decode cL_law 486 = .ok (.iload_n 3, 1) := by decide +kernel
theorem dL_law_487 : decode cL_law 487 = .ok (.iconst 1, 1) := by decide +kernel
theorem dL_law_488 : decode cL_law 488 = .ok (.iadd, 1) := by decide +kernel
theorem dL_law_489 : decode cL_law 489 = .ok (.iaload, 1) := by decide +kernel
theorem dL_law_490 : decode cL_law 490 = .ok (.invokevirtual 67, 3) := by decide +kernel
theorem dL_law_493 : decode cL_law 493 = .ok (.aload_n 2, 1) := by decide +kernel
theorem dL_law_494 : decode cL_law 494 = .ok (.aload_n 0, 1) := by decide +kernel
theorem dL_law_495 : decode cL_law 495 = .ok (.iload_n 3, 1) := by decide +kernel
theorem dL_law_496 : decode cL_law 496 = .ok (.iconst 1, 1) := by decide +kernel
theorem dL_law_497 : decode cL_law 497 = .ok (.iadd, 1) := by decide +kernel
theorem dL_law_498 : decode cL_law 498 = .ok (.iaload, 1) := by decide +kernel
theorem dL_law_499 : decode cL_law 499 = .ok (.invokevirtual 70, 3) := by decide +kernel
theorem dL_law_502 : decode cL_law 502 = .ok (.if_icmp .eq 84, 3) := by decide +kernel
theorem dL_law_505 : decode cL_law 505 = .ok (.iconst 0, 1) := by decide +kernel
theorem dL_law_506 : decode cL_law 506 = .ok (.ireturn, 1) := by decide +kernel
theorem dL_law_507 : decode cL_law 507 = .ok (.aload_n 1, 1) := by decide +kernel
theorem dL_law_508 : decode cL_law 508 = .ok (.aload_n 0, 1) := by decide +kernel
theorem dL_law_509 : decode cL_law 509 = .ok (.iload_n 3, 1) := by decide +kernel
theorem dL_law_510 : decode cL_law 510 = .ok (.iconst 1, 1) := by decide +kernel
theorem dL_law_511 : decode cL_law 511 = .ok (.iadd, 1) := by decide +kernel
theorem dL_law_512 : decode cL_law 512 = .ok (.iaload, 1) := by decide +kernel
theorem dL_law_513 : decode cL_law 513 = .ok (.aload_n 0, 1) := by decide +kernel
theorem dL_law_514 : decode cL_law 514 = .ok (.iload_n 3, 1) := by decide +kernel
theorem dL_law_515 : decode cL_law 515 = .ok (.iconst 2, 1) := by decide +kernel
theorem dL_law_516 : decode cL_law 516 = .ok (.iadd, 1) := by decide +kernel
theorem dL_law_517 : decode cL_law 517 = .ok (.iaload, 1) := by decide +kernel
theorem dL_law_518 : decode cL_law 518 = .ok (.invokevirtual 71, 3) := by decide +kernel
theorem dL_law_521 : decode cL_law 521 = .ok (.aload_n 2, 1) := by decide +kernel
theorem dL_law_522 : decode cL_law 522 = .ok (.aload_n 0, 1) := by decide +kernel
theorem dL_law_523 : decode cL_law 523 = .ok (.iload_n 3, 1) := by decide +kernel
theorem dL_law_524 : decode cL_law 524 = .ok (.iconst 1, 1) := by decide +kernel
theorem dL_law_525 : decode cL_law 525 = .ok (.iadd, 1) := by decide +kernel
theorem dL_law_526 : decode cL_law 526 = .ok (.iaload, 1) := by decide +kernel
theorem dL_law_527 : decode cL_law 527 = .ok (.aload_n 0, 1) := by decide +kernel
theorem dL_law_528 : decode cL_law 528 = .ok (.iload_n 3, 1) := by decide +kernel
theorem dL_law_529 : decode cL_law 529 = .ok (.iconst 2, 1) := by decide +kernel
theorem dL_law_530 : decode cL_law 530 = .ok (.iadd, 1) := by decide +kernel
theorem dL_law_531 : decode cL_law 531 = .ok (.iaload, 1) := by decide +kernel
theorem dL_law_532 : decode cL_law 532 = .ok (.invokevirtual 74, 3) := by decide +kernel
theorem dL_law_535 : decode cL_law 535 = .ok (.if_icmp .eq 51, 3) := by decide +kernel
theorem dL_law_538 : decode cL_law 538 = .ok (.iconst 0, 1) := by decide +kernel
theorem dL_law_539 : decode cL_law 539 = .ok (.ireturn, 1) := by decide +kernel
theorem dL_law_540 : decode cL_law 540 = .ok (.aload_n 1, 1) := by decide +kernel
theorem dL_law_541 : decode cL_law 541 = .ok (.aload_n 0, 1) := by decide +kernel
theorem dL_law_542 : decode cL_law 542 = .ok (.iload_n 3, 1) := by decide +kernel
theorem dL_law_543 : decode cL_law 543 = .ok (.iconst 1, 1) := by decide +kernel
theorem dL_law_544 : decode cL_law 544 = .ok (.iadd, 1) := by decide +kernel
theorem dL_law_545 : decode cL_law 545 = .ok (.iaload, 1) := by decide +kernel
theorem dL_law_546 : decode cL_law 546 = .ok (.invokevirtual 75, 3) := by decide +kernel
theorem dL_law_549 : decode cL_law 549 = .ok (.aload_n 2, 1) := by decide +kernel
theorem dL_law_550 : decode cL_law 550 = .ok (.aload_n 0, 1) := by decide +kernel
theorem dL_law_551 : decode cL_law 551 = .ok (.iload_n 3, 1) := by decide +kernel
theorem dL_law_552 : decode cL_law 552 = .ok (.iconst 1, 1) := by decide +kernel
theorem dL_law_553 : decode cL_law 553 = .ok (.iadd, 1) := by decide +kernel
theorem dL_law_554 : decode cL_law 554 = .ok (.iaload, 1) := by decide +kernel
theorem dL_law_555 : decode cL_law 555 = .ok (.invokevirtual 78, 3) := by decide +kernel
theorem dL_law_558 : decode cL_law 558 = .ok (.if_icmp .eq 28, 3) := by decide +kernel
theorem dL_law_561 : decode cL_law 561 = .ok (.iconst 0, 1) := by decide +kernel
theorem dL_law_562 : decode cL_law 562 = .ok (.ireturn, 1) := by decide +kernel
theorem dL_law_563 : decode cL_law 563 = .ok (.aload_n 1, 1) := by decide +kernel
theorem dL_law_564 : decode cL_law 564 = .ok (.aload_n 0, 1) := by decide +kernel
theorem dL_law_565 : decode cL_law 565 = .ok (.iload_n 3, 1) := by decide +kernel
theorem dL_law_566 : decode cL_law 566 = .ok (.iconst 1, 1) := by decide +kernel
theorem dL_law_567 : decode cL_law 567 = .ok (.iadd, 1) := by decide +kernel
theorem dL_law_568 : decode cL_law 568 = .ok (.iaload, 1) := by decide +kernel
theorem dL_law_569 : decode cL_law 569 = .ok (.invokevirtual 79, 3) := by decide +kernel
theorem dL_law_572 : decode cL_law 572 = .ok (.aload_n 2, 1) := by decide +kernel
theorem dL_law_573 : decode cL_law 573 = .ok (.aload_n 0, 1) := by decide +kernel
theorem dL_law_574 : decode cL_law 574 = .ok (.iload_n 3, 1) := by decide +kernel
theorem dL_law_575 : decode cL_law 575 = .ok (.iconst 1, 1) := by decide +kernel
theorem dL_law_576 : decode cL_law 576 = .ok (.iadd, 1) := by decide +kernel
theorem dL_law_577 : decode cL_law 577 = .ok (.iaload, 1) := by decide +kernel
theorem dL_law_578 : decode cL_law 578 = .ok (.invokevirtual 82, 3) := by decide +kernel
theorem dL_law_581 : decode cL_law 581 = .ok (.if_icmp .eq 5, 3) := by decide +kernel
theorem dL_law_584 : decode cL_law 584 = .ok (.iconst 0, 1) := by decide +kernel
theorem dL_law_585 : decode cL_law 585 = .ok (.ireturn, 1) := by decide +kernel
theorem dL_law_586 : decode cL_law 586 = .ok (.iinc 3 5, 3) := by decide +kernel
theorem dL_law_589 : decode cL_law 589 = .ok (.goto (-571), 3) := by decide +kernel
theorem dL_law_592 : decode cL_law 592 = .ok (.iconst 1, 1) := by decide +kernel
theorem dL_law_593 : decode cL_law 593 = .ok (.ireturn, 1) := by decide +kernel
end
section
/-- the words: of the tables, those that stay -/
def wsL_law : List Cond := lw_tbl.filter goodWord
theorem gdL : ∀ w ∈ wsL_law, goodWord w = true := fun w h => (List.mem_filter.mp h).2
theorem wsL_law_in : ∀ w ∈ wsL_law, w ∈ lw_tbl := fun w h => (List.mem_filter.mp h).1
theorem ml (i : Nat) {w : Cond} (h : lw_tbl[i]? = some w) (g : goodWord w = true) : w ∈ wsL_law := List.mem_filter.mpr ⟨List.mem_of_getElem? h, g⟩
theorem mls (ws : List Cond) (ps : List Nat) (hp : ws = ps.filterMap (fun i => lw_tbl[i]?)) (h : ws.all goodWord = true) : ∀ w ∈ ws, w ∈ wsL_law := fun w hw => by
  have h1 := List.all_eq_true.mp h w hw
  rw [hp] at hw
  obtain ⟨i, -, hi⟩ := List.mem_filterMap.mp hw
  exact ml i hi h1
set_option maxRecDepth 20000 in
theorem inlX0 : ∀ w ∈ wsX00, w ∈ wsL_law := mls _ [159, 161, 163, 165, 167, 169] (by decide +kernel) (by decide +kernel)
set_option maxRecDepth 20000 in
theorem inlX1 : ∀ w ∈ wsX10, w ∈ wsL_law := mls _ [208, 210, 212, 214, 216, 218, 220, 222, 224, 226, 228, 230] (by decide +kernel) (by decide +kernel)
set_option maxRecDepth 20000 in
theorem inlX2 : ∀ w ∈ wsX20, w ∈ wsL_law := mls _ [134, 136, 138, 140, 142, 144, 146] (by decide +kernel) (by decide +kernel)
set_option maxRecDepth 20000 in
theorem inlX3 : ∀ w ∈ wsX30, w ∈ wsL_law := mls _ [73, 75, 77, 79, 81, 83, 85, 87, 89, 91, 93, 95] (by decide +kernel) (by decide +kernel)
set_option maxRecDepth 20000 in
theorem inlX4 : ∀ w ∈ wsX40, w ∈ wsL_law := mls _ [239, 241, 243, 245, 247, 249] (by decide +kernel) (by decide +kernel)
set_option maxRecDepth 20000 in
theorem inlX5 : ∀ w ∈ wsX50, w ∈ wsL_law := mls _ [547, 549, 551, 553, 555, 557, 559, 561, 563, 565, 567, 569, 571, 573, 575, 577, 579, 581, 583, 585, 587, 589, 591, 593, 595, 597, 599, 601, 603, 605, 607, 609, 611, 613, 615, 617, 619, 621, 623, 625] (by decide +kernel) (by decide +kernel)
end
section

-- base: what every walk here stands on
abbrev vwCl : List vw_C := [(RX0, TX0, 6), (RX1, TX1, 12), (RX2, TX2, 7), (RX3, TX3, 12), (RX4, TX4, 6), (RX5, TX5, 40)]
theorem og_pos {α : Type} {c : Prop} {i : Decidable c} {A B : Option α} {R : α} (hc : c) (h : (@ite _ c i A B) = some R) : A = some R := by rw [if_pos hc] at h; exact h
theorem og_neg {α : Type} {c : Prop} {i : Decidable c} {A B : Option α} {R : α} (hc : ¬ c) (h : (@ite _ c i A B) = some R) : B = some R := by rw [if_neg hc] at h; exact h
theorem og_guard {α : Type} {c : Prop} {i : Decidable c} {A : Option α} {R : α} (h : (@ite _ c i A none) = some R) : c ∧ A = some R := by
  by_cases hc : c
  · exact ⟨hc, og_pos hc h⟩
  · rw [if_neg hc] at h; cases h
theorem og_bind {α β : Type} {x : Option α} {f : α → Option β} {R : β} (h : x.bind f = some R) : ∃ y, x = some y ∧ f y = some R := Option.bind_eq_some_iff.mp h
theorem og_inj {α : Type} {a b : α} (h : some a = some b) : b = a := (Option.some.inj h).symm
/-- a loop with a fuel -/
def lp {V R : Type} (body : (V → Option R) → V → Option R) : Nat → V → Option R
  | 0, _ => none
  | n + 1, v => body (lp body n) v
theorem lp_succ {V R : Type} (body : (V → Option R) → V → Option R) (n : Nat) (v : V) : lp body (n + 1) v = body (lp body n) v := rfl
theorem lp_zero {V R : Type} {body : (V → Option R) → V → Option R} {v : V} {r : R} (h : lp body 0 v = some r) : False := by cases h
/-- a loop by a measure: what it answers -/
theorem lp_run {V R : Type} {body : (V → Option R) → V → Option R} (I : V → Prop) (F : V → Option R) (μ : V → Nat) (hs : ∀ (rec : V → Option R) (v : V), I v → (∀ w, I w → μ w < μ v → rec w = F w) → body rec v = F v) : ∀ (n : Nat) (v : V), I v → μ v < n → lp body n v = F v := by
  intro n
  induction n with
  | zero => intro v _ h; omega
  | succ n ih =>
    intro v hv hn
    rw [lp_succ]
    exact hs _ v hv (fun w hw hlt => ih w hw (by omega))
/-- a loop by a measure: a property of what it answers -/
theorem lp_post {V R : Type} {body : (V → Option R) → V → Option R} (I : V → Prop) (Q : V → R → Prop) (μ : V → Nat) (hs : ∀ (rec : V → Option R) (v : V), I v → (∀ w, I w → μ w < μ v → ∃ r, rec w = some r ∧ Q w r) → ∃ r, body rec v = some r ∧ Q v r) : ∀ (n : Nat) (v : V), I v → μ v < n → ∃ r, lp body n v = some r ∧ Q v r := by
  intro n
  induction n with
  | zero => intro v _ h; omega
  | succ n ih =>
    intro v hv hn
    rw [lp_succ]
    exact hs _ v hv (fun w hw hlt => ih w hw (by omega))
/-- a boolean's number -/
def bo (x : Int32) : Prop := x = 0 ∨ x = 1
theorem bo_def (x : Int32) : bo x ↔ (x = 0 ∨ x = 1) := Iff.rfl
theorem bo_nar {x : Int32} (h : x = 0 ∨ x = 1) : narrow .boolean (.int x) = .int x := by rcases h with rfl | rfl <;> decide +kernel
theorem bo_fit {x : Int32} (h : x = 0 ∨ x = 1) : fits .boolean (.int x) = true := by rcases h with rfl | rfl <;> decide +kernel
def inb (i : Int32) (n : Nat) : Bool := decide (¬ (i < 0 ∨ n ≤ i.toNatClampNeg))
theorem inb_vp {i : Int32} {n : Nat} (h : inb i n = true) : vp_in i n := by
  have h1 : ¬ (i < 0 ∨ n ≤ i.toNatClampNeg) := of_decide_eq_true h
  exact h1
def up2 (E : Nat → Nat → Int32) (k i : Nat) (x : Int32) : Nat → Nat → Int32 := va_up E k (upd (E k) i x)
def up2J (E : Nat → Nat → Int64) (k i : Nat) (x : Int64) : Nat → Nat → Int64 := va_up E k (vp_updL (E k) i x)
theorem px {α : Type} : ∀ (k : Nat) {ws : List α} {x : α}, ws[k]? = some x → ws.Perm ([x] ++ ws.eraseIdx k)
  | _, [], _, h => by simp at h
  | 0, a :: l, x, h => by
    have e : a = x := Option.some.inj h
    subst e
    exact List.Perm.refl _
  | k + 1, a :: l, x, h => by
    have h1 : l[k]? = some x := h
    exact ((px k h1).cons a).trans (List.Perm.swap x a _)
theorem px' {α : Type} (k : Nat) {ws ws' : List α} {x x' : α} (h : ws[k]? = some x) (e : ws' = ws.set k x') : ws'.Perm ([x'] ++ ws.eraseIdx k) := by
  subst e
  have hk : k < ws.length := (List.getElem?_eq_some_iff.mp h).1
  have h1 := px k (ws := ws.set k x') (x := x') (by rw [List.getElem?_set_self hk])
  rwa [List.eraseIdx_set_eq] at h1
theorem pq_P {D : va_G} {cl : List vw_C} {A : Nat → Prop} {X : va_W} {L : List Nat} {f f' : Nat → va_E} {a k : Nat} {e : va_E} {H : Heap} (hD : va_D A (X ++ va_pl L f)) (ma : a ∈ L) (hk : (X ++ va_pl L f)[k]? = some (a, f a)) (he : ∀ b, va_up f a e b = f' b) (hP : va_P D cl ((X ++ va_pl L f).set k (a, e)) H) : va_P D cl (X ++ va_pl L f') H := by
  rw [va_pl_set hD ma hk, va_pl_congr he] at hP
  exact hP
theorem pq_D {A B : Nat → Prop} {X : va_W} {L : List Nat} {f f' : Nat → va_E} {a k : Nat} {e : va_E} (hD : va_D A (X ++ va_pl L f)) (ma : a ∈ L) (hk : (X ++ va_pl L f)[k]? = some (a, f a)) (he : ∀ b, va_up f a e b = f' b) (hD1 : va_D B ((X ++ va_pl L f).set k (a, e))) : va_D B (X ++ va_pl L f') := by
  rw [va_pl_set hD ma hk, va_pl_congr he] at hD1
  exact hD1
-- nest mates' links
def nwL : List Cond := [.fieldLinkNest RX4 163 RX3 "inputs" "I" RX4, .fieldLinkNest RX4 166 RX3 "bits" "I" RX4, .fieldLinkNest RX1 81 RX3 "numbers" "[I" RX4, .fieldLinkNest RX1 84 RX3 "firsts" "[I" RX4, .fieldLinkNest RX1 87 RX3 "seconds" "[I" RX4, .fieldLinkNest RX1 108 RX3 "thirds" "[I" RX4, .fieldLinkNest RX1 22 RX3 "size" "I" RX4, .fieldLinkNest RX4 44 RX3 "size" "I" RX4, .fieldLinkNest RX4 80 RX2 "decided" "J" RX4, .fieldLinkNest RX1 63 RX2 "ones" "J" RX4, .fieldLinkNest RX0 67 RX2 "ones" "J" RX4, .fieldLinkNest RX4 103 RX2 "ones" "J" RX4, .fieldLinkNest RX4 72 RX2 "end" "I" RX4, .fieldLinkNest RX0 114 RX2 "end" "I" RX4, .fieldLinkNest RX4 77 RX2 "endPlace" "I" RX4, .fieldLinkNest RX0 115 RX2 "endPlace" "I" RX4, .fieldLinkNest RX4 90 RX2 "leastWord" "I" RX4, .fieldLinkNest RX0 95 RX2 "leastWord" "I" RX4, .fieldLinkNest RX4 93 RX2 "result" "I" RX4, .fieldLinkNest RX0 72 RX2 "result" "I" RX4, .fieldLinkNest RX4 96 RX2 "alwaysSameResult" "Z" RX4, .fieldLinkNest RX0 68 RX2 "alwaysSameResult" "Z" RX4, .fieldLinkNest RX4 63 RX0 "size" "I" RX4, .fieldLinkNest RX4 162 RX0 "visited" "J" RX4, .fieldLinkNest RX4 169 RX0 "failed" "J" RX4, .fieldLinkNest RX4 149 RX1 "registers" "[I" RX4, .fieldLinkNest RX4 156 RX1 "cells" "[I" RX4, .fieldLinkNest RX2 25 RX1 "place" "I" RX4, .fieldLinkNest RX0 88 RX1 "place" "I" RX4, .fieldLinkNest RX4 135 RX1 "place" "I" RX4, .fieldLinkNest RX0 84 RX1 "visited" "J" RX4, .fieldLinkNest RX4 138 RX1 "visited" "J" RX4, .fieldLinkNest RX2 7 RX1 "decided" "J" RX4, .fieldLinkNest RX4 141 RX1 "decided" "J" RX4, .fieldLinkNest RX2 16 RX1 "ones" "J" RX4, .fieldLinkNest RX0 60 RX1 "ones" "J" RX4, .fieldLinkNest RX4 142 RX1 "ones" "J" RX4, .fieldLinkNest RX2 20 RX1 "end" "I" RX4, .fieldLinkNest RX0 85 RX1 "end" "I" RX4, .fieldLinkNest RX4 134 RX1 "end" "I" RX4, .fieldLinkNest RX2 34 RX1 "result" "I" RX4, .fieldLinkNest RX0 75 RX1 "result" "I" RX4, .fieldLinkNest RX4 122 RX1 "result" "I" RX4, .methodLinkNest RX4 11 yX3_init RX4, .methodLinkNest RX0 25 yX2_init RX4, .methodLinkNest RX4 25 yX1_init RX4, .methodLinkNest RX3 61 yX4_isRegister RX4, .methodLinkNest RX3 58 yX4_isDivision RX4, .methodLinkNest RX1 35 yX4_mark RX4, .methodLinkNest RX1 126 yX4_isCell RX4, .methodLinkNest RX1 115 yX4_isDivision RX4, .methodLinkNest RX1 119 yX4_divide RX4, .methodLinkNest RX1 123 yX4_combine RX4, .methodLinkNest RX0 91 yX4_mark RX4, .methodLinkNest RX0 106 yX4_isBelowUnsigned RX4, .methodLinkNest RX0 110 yX4_placeOfMark RX4]
def nw_is : Cond → Bool
  | .fieldLinkNest _ _ _ _ _ _ => true
  | .methodLinkNest _ _ _ _ => true
  | _ => false
theorem nwL_all : nwL.all nw_is = true := by decide +kernel
def NW (U : State) : Prop := ∀ w ∈ nwL, va_Nw w U
theorem NW.warm {s U : State} (hW : s.WarmedH U.vm) (h : NW s) : NW U := fun w hw => by
  have hn := List.all_eq_true.mp nwL_all w hw
  have h1 := h w hw
  cases w with
  | fieldLinkNest a b c d e f => exact va_Nw.warmF hW h1
  | methodLinkNest a b c d => exact va_Nw.warmM hW h1
  | _ => cases hn
theorem NW.vm {u U : State} (ev : u.vm = U.vm) (h : NW u) : NW U := fun w hw => by
  have hn := List.all_eq_true.mp nwL_all w hw
  have h1 := h w hw
  cases w with
  | fieldLinkNest a b c d e f => exact va_Nw.same rfl ev h1
  | methodLinkNest a b c d => exact va_Nw.same rfl ev h1
  | _ => cases hn
-- the words, the same for every method
abbrev wsU (y : MethodName) (cc : ByteArray) (n : Nat) (r : Option FieldType) : List Cond := Cond.code y cc n r :: wsL_law
theorem gwC {y : MethodName} {cc : ByteArray} {n : Nat} {r : Option FieldType} (hm : Cond.code y cc n r ∈ wsL_law) : ∀ w ∈ wsU y cc n r, w ∈ wsL_law := fun w hw => by
  rcases List.mem_cons.mp hw with e | e
  · rw [e]; exact hm
  · exact e
theorem gi {ws : List Cond} (h : ∀ w ∈ ws, w ∈ wsL_law) : GoodIn wsL_law ws := fun w hw => ⟨h w hw, good_of_word (gdL w (h w hw))⟩
theorem gw {y : MethodName} {cc : ByteArray} {n : Nat} {r : Option FieldType} (hm : Cond.code y cc n r ∈ wsL_law) : GoodIn wsL_law (wsU y cc n r) := gi (gwC hm)
theorem gwV {own : String} {idx : Nat} {C : String} {y : MethodName} {cc : ByteArray} {n : Nat} {r : Option FieldType} (h1 : Cond.methodLink own idx y ∈ wsL_law) (h2 : Cond.instanceMethod y ∈ wsL_law) (h3 : Cond.selects C y y ∈ wsL_law) (h4 : Cond.initialized C ∈ wsL_law) (h5 : Cond.code y cc n r ∈ wsL_law) : GoodIn wsL_law (wsV own idx C y (wsU y cc n r)) := gi (List.forall_mem_append.mpr ⟨List.forall_mem_cons.mpr ⟨h1, List.forall_mem_cons.mpr ⟨h2, List.forall_mem_cons.mpr ⟨h3, List.forall_mem_cons.mpr ⟨h4, fun _ h => absurd h List.not_mem_nil⟩⟩⟩⟩, gwC h5⟩)
theorem gwS {own : String} {idx : Nat} {y : MethodName} {cc : ByteArray} {n : Nat} {r : Option FieldType} (h1 : Cond.methodLink own idx y ∈ wsL_law) (h2 : Cond.static y ∈ wsL_law) (h4 : Cond.initialized own ∈ wsL_law) (h5 : Cond.code y cc n r ∈ wsL_law) : GoodIn wsL_law (wsS own idx y (wsU y cc n r)) := gi (List.forall_mem_append.mpr ⟨List.forall_mem_cons.mpr ⟨h1, List.forall_mem_cons.mpr ⟨h2, List.forall_mem_cons.mpr ⟨h4, fun _ h => absurd h List.not_mem_nil⟩⟩⟩, gwC h5⟩)
theorem gwT {own : String} {idx : Nat} {y : MethodName} {cc : ByteArray} {n : Nat} {r : Option FieldType} (h1 : Cond.methodLink own idx y ∈ wsL_law) (h2 : Cond.static y ∈ wsL_law) (h4 : Cond.initialized y.cls ∈ wsL_law) (h5 : Cond.code y cc n r ∈ wsL_law) : GoodIn wsL_law (va_wsS own idx y (wsU y cc n r)) := gi (List.forall_mem_append.mpr ⟨List.forall_mem_cons.mpr ⟨h1, List.forall_mem_cons.mpr ⟨h2, List.forall_mem_cons.mpr ⟨h4, fun _ h => absurd h List.not_mem_nil⟩⟩⟩, gwC h5⟩)
def tyL (cA : Nat → ClassId) : List (ClassId × FieldType) := [(cA 0, .int), (cA 1, .boolean), (cA 2, .long), (cA 3, .object "SymbolBench$Path"), (cA 4, .array .int)]
def CK (D : va_G) (cA : Nat → ClassId) (U : State) : Prop := va_K D vwCl (tyL cA) U ∧ NW U
theorem CK.warm {D : va_G} {cA : Nat → ClassId} {s U : State} (hW : s.WarmedH U.vm) (h : CK D cA s) : CK D cA U := ⟨va_K.moved hW.alike h.1, NW.warm hW h.2⟩
theorem CK.vm {D : va_G} {cA : Nat → ClassId} {u U : State} (e : u.vm = U.vm) (h : CK D cA u) : CK D cA U := ⟨va_K.moved (by rw [e]; exact Vm.Alike.refl U.vm) h.1, NW.vm e h.2⟩
-- worlds as sets
theorem vP_iff {D : va_G} {cl : List vw_C} {ws : va_W} {H : Heap} : va_P D cl ws H ↔ ∀ q ∈ ws, va_at D cl q H := by
  constructor
  · intro h q hq
    obtain ⟨k, hk⟩ := List.getElem?_of_mem hq
    exact h k q hk
  · intro h k q hk
    exact h q (List.mem_of_getElem? hk)
theorem vD_iff {A : Nat → Prop} {ws : va_W} : va_D A ws ↔ (ws.map Prod.fst).Nodup ∧ ∀ q ∈ ws, A q.1 := by
  constructor
  · intro h
    refine ⟨?_, fun q hq => ?_⟩
    · rw [List.Nodup, List.pairwise_iff_getElem]
      intro i j hi hj hij e
      rw [List.length_map] at hi hj
      rw [List.getElem_map, List.getElem_map] at e
      have := h.1 i j _ _ (List.getElem?_eq_getElem hi) (List.getElem?_eq_getElem hj) e
      omega
    · obtain ⟨k, hk⟩ := List.getElem?_of_mem hq
      exact h.2 k q hk
  · intro h
    refine ⟨fun i j p q hi hj e => ?_, fun k q hk => h.2 q (List.mem_of_getElem? hk)⟩
    have hn := h.1
    rw [List.Nodup, List.pairwise_iff_getElem] at hn
    obtain ⟨hi1, hi2⟩ := List.getElem?_eq_some_iff.mp hi
    obtain ⟨hj1, hj2⟩ := List.getElem?_eq_some_iff.mp hj
    rcases Nat.lt_trichotomy i j with c | c | c
    · exact absurd (by rw [List.getElem_map, List.getElem_map, hi2, hj2]; exact e) (hn i j (by rw [List.length_map]; exact hi1) (by rw [List.length_map]; exact hj1) c)
    · exact c
    · exact absurd (by rw [List.getElem_map, List.getElem_map, hi2, hj2]; exact e.symm) (hn j i (by rw [List.length_map]; exact hj1) (by rw [List.length_map]; exact hi1) c)
theorem vP_perm {D : va_G} {cl : List vw_C} {ws ws' : va_W} {H : Heap} (p : ws.Perm ws') (h : va_P D cl ws H) : va_P D cl ws' H := vP_iff.mpr fun q hq => vP_iff.mp h q (p.mem_iff.mpr hq)
theorem vD_perm {A : Nat → Prop} {ws ws' : va_W} (p : ws.Perm ws') (h : va_D A ws) : va_D A ws' := by
  have h1 := vD_iff.mp h
  exact vD_iff.mpr ⟨((p.map Prod.fst).nodup_iff).mp h1.1, fun q hq => h1.2 q (p.mem_iff.mpr hq)⟩
abbrev wl (l : List va_W) : va_W := l.flatten
theorem pm {f : Nat → va_W} (is js ks : List Nat) (h : is.isPerm (js ++ ks) = true) : (wl (is.map f)).Perm (wl (js.map f) ++ wl (ks.map f)) := by
  show (is.map f).flatten.Perm ((js.map f).flatten ++ (ks.map f).flatten)
  rw [← List.flatten_append, ← List.map_append]
  exact ((List.isPerm_iff.mp h).map f).flatten
theorem pmB {f : Nat → va_W} {pl : va_W} (is js ks : List Nat) (h : is.isPerm (js ++ ks) = true) : (wl (is.map f) ++ pl).Perm ((wl (js.map f) ++ pl) ++ wl (ks.map f)) := by
  refine ((pm (f := f) is js ks h).append_right pl).trans ?_
  rw [List.append_assoc, List.append_assoc]
  exact List.Perm.append_left _ List.perm_append_comm
theorem pmC {f : Nat → va_W} {pl : va_W} (is js ks : List Nat) (h : is.isPerm (js ++ ks) = true) : (wl (is.map f) ++ pl).Perm (wl (js.map f) ++ (wl (ks.map f) ++ pl)) := by
  refine ((pm (f := f) is js ks h).append_right pl).trans ?_
  rw [List.append_assoc]
theorem pmZ {ws : va_W} : ws.Perm (ws ++ []) := by rw [List.append_nil]
/-- the frame: what the callee had comes back, the rest stays -/
theorem fj {D : va_G} {cl : List vw_C} {A : Nat → Prop} {ws wc wr w1 : va_W} {H H1 : Heap} (sp : ws.Perm (wc ++ wr)) (hP : va_P D cl ws H) (hD : va_D A ws) (hk : ∀ q : Nat, q < H.size → ¬ va_A wc H.size q → H1[q]? = H[q]?) (hF : ∀ q, va_A wc H.size q → A q) (hP1 : va_P D cl w1 H1) (hD1 : va_D (va_A wc H.size) w1) : va_P D cl (w1 ++ wr) H1 ∧ va_D A (w1 ++ wr) := by
  have hP' := vP_iff.mp (vP_perm sp hP)
  have hD' := vD_iff.mp (vD_perm sp hD)
  have hD1' := vD_iff.mp hD1
  rw [List.map_append, List.nodup_append] at hD'
  have ap : ∀ q ∈ wr, q.1 < H.size ∧ ¬ va_A wc H.size q.1 := fun q hq => by
    have hlt := (hP' q (List.mem_append_right _ hq)).lt
    refine ⟨hlt, fun h => ?_⟩
    rcases h with ⟨k, e, hk⟩ | h
    · exact hD'.1.2.2 q.1 (List.mem_map.mpr ⟨_, List.mem_of_getElem? hk, rfl⟩) q.1 (List.mem_map.mpr ⟨q, hq, rfl⟩) rfl
    · omega
  refine ⟨vP_iff.mpr fun q hq => ?_, vD_iff.mpr ⟨?_, fun q hq => ?_⟩⟩
  · rcases List.mem_append.mp hq with h | h
    · exact vP_iff.mp hP1 q h
    · exact (hP' q (List.mem_append_right _ h)).kept (hk q.1 (ap q h).1 (ap q h).2)
  · rw [List.map_append, List.nodup_append]
    refine ⟨hD1'.1, hD'.1.2.1, fun a ha b hb e => ?_⟩
    obtain ⟨x, hx, rfl⟩ := List.mem_map.mp ha
    obtain ⟨y, hy, rfl⟩ := List.mem_map.mp hb
    exact (ap y hy).2 (e ▸ hD1'.2 x hx)
  · rcases List.mem_append.mp hq with h | h
    · exact hF _ (hD1'.2 q h)
    · exact hD'.2 q (List.mem_append_right _ h)
theorem fF {A : Nat → Prop} {ws wc wr : va_W} {H0 H : Heap} {locs : List Loc} (sp : ws.Perm (wc ++ wr)) (hD : va_D A ws) (hS : va_S A H0 H locs) (hA : ∀ q, H0.size ≤ q → A q) : ∀ q, va_A wc H.size q → A q := by
  intro q h
  have hD' := vD_iff.mp (vD_perm sp hD)
  rcases h with ⟨k, e, hk⟩ | h
  · exact hD'.2 (q, e) (List.mem_append_left _ (List.mem_of_getElem? hk))
  · exact hA q (Nat.le_trans hS.1 h)
-- contracts
def PcW (D : va_G) (cA : Nat → ClassId) (ws : va_W) (sz : Nat) (av : List Value) : Array Value → State → Prop := va_Pc av (fun U => U.heap.size = sz ∧ va_P D vwCl ws U.heap ∧ CK D cA U ∧ va_D (fun _ => True) ws)
theorem PcW.blind {D : va_G} {cA : Nat → ClassId} {ws : va_W} {sz : Nat} {av : List Value} : FrameBlind (PcW D cA ws sz av) := fun a U g mk q => by
  obtain ⟨q0, q1, qP, qK, qD⟩ := q
  exact ⟨q0, q1, qP, CK.vm (u := U) (U := U.calling g mk a) rfl qK, qD⟩
theorem PcW.on {D : va_G} {cA : Nat → ClassId} {ws wc wr : va_W} {A : Nat → Prop} {s : State} {H : Heap} {av : List Value} (sp : ws.Perm (wc ++ wr)) (hK : CK D cA s) (hP : va_P D vwCl ws H) (hD : va_D A ws) : ∀ U : State, U.heap = H → s.WarmedH U.vm → PcW D cA wc H.size av av.toArray U := fun U hU hW => by
  have hP' := vP_iff.mp (vP_perm sp hP)
  have hD' := vD_iff.mp (vD_perm sp hD)
  rw [List.map_append, List.nodup_append] at hD'
  exact ⟨rfl, by rw [hU], by rw [hU]; exact vP_iff.mpr fun q hq => hP' q (List.mem_append_left _ hq), CK.warm hW hK, vD_iff.mpr ⟨hD'.1.1, fun _ _ => trivial⟩⟩
def wQ {S : Type} (D : va_G) (wf : S → va_W) (A : Nat → Prop) (u : S) (t : State) : Prop := va_P D vwCl (wf u) t.heap ∧ va_D A (wf u)
def QI {S : Type} (D : va_G) (wf : S → va_W) (R : Int32 × S) (A : Nat → Prop) := va_Qi (fun r u => r = R.1 ∧ u = R.2) (wQ D wf A) A
def QL {S : Type} (D : va_G) (wf : S → va_W) (R : Int64 × S) (A : Nat → Prop) := va_Ql (fun r u => r = R.1 ∧ u = R.2) (wQ D wf A) A
def QV {S : Type} (D : va_G) (wf : S → va_W) (R : S) (A : Nat → Prop) := va_Qv (fun u => u = R) (wQ D wf A) A
def QQ {S : Type} (D : va_G) (wf : S → va_W) (R : Option Nat × S) (A : Nat → Prop) := va_Qq (fun r u => r = R.1 ∧ u = R.2) (wQ D wf A) A
section GC
variable {p : Program} {l : Launch} {e : Env} {R : Room} {s : State} {m : MethodId} {args : Array Value} {below : List Frame} {meth : Method} {c : Code} {H : Heap} {locs : List Loc} {cells slots : Nat} {Q : State → Prop}
variable {cc : ByteArray} {pc nL : Nat} {ls : Array Slot} {rest As : List Value} {D : va_G} {cA : Nat → ClassId} {A : Nat → Prop} {b : Nat} {own : String} {Ts wsy : List Cond} {y : MethodName} {rm : Room} {ws wc wr ws' : va_W} {st0 : List Value}
theorem gc_i {S : Type} {wf : S → va_W} {Rr : Int32 × S} {a : Array Value} (hr : va_Run p l e R s m args below meth c H locs cells slots 0 0 (F0 m pc ls st0) rest (QI D wf Rr (va_A wc H.size) a) (va_A wc H.size)) (sp : ws.Perm (wc ++ wr)) (hP : va_P D vwCl ws H) (hD : va_D A ws) (hS : va_S A s.heap H locs) (hA : ∀ q, s.heap.size ≤ q → A q) (sp' : ws'.Perm (wf Rr.2 ++ wr))
    (kk : ∀ (H1 : Heap) (locs1 : List Loc), va_P D vwCl ws' H1 → va_D A ws' → va_S A s.heap H1 locs1 → W p l e R s m args below meth c H1 locs1 cells slots Q (F0 m (pc + 3) ls (.int Rr.1 :: rest))) : W p l e R s m args below meth c H locs cells slots Q (F0 m pc ls st0) := by
  have hF := fF sp hD hS hA
  refine va_calli hr hS (fun q _ h => hF q h) hF (fun r u t H1 locs1 ht hvm hw hB hz1 hk1 hS1 => ?_)
  obtain ⟨rfl, rfl⟩ := hw
  obtain ⟨hP1, hD1⟩ := hB
  rw [ht] at hP1
  obtain ⟨hP2, hD2⟩ := fj sp hP hD hk1 hF hP1 hD1
  exact kk H1 locs1 (vP_perm sp'.symm hP2) (vD_perm sp'.symm hD2) hS1
theorem gc_l {S : Type} {wf : S → va_W} {Rr : Int64 × S} {a : Array Value} (hr : va_Run p l e R s m args below meth c H locs cells slots 0 0 (F0 m pc ls st0) rest (QL D wf Rr (va_A wc H.size) a) (va_A wc H.size)) (sp : ws.Perm (wc ++ wr)) (hP : va_P D vwCl ws H) (hD : va_D A ws) (hS : va_S A s.heap H locs) (hA : ∀ q, s.heap.size ≤ q → A q) (sp' : ws'.Perm (wf Rr.2 ++ wr))
    (kk : ∀ (H1 : Heap) (locs1 : List Loc), va_P D vwCl ws' H1 → va_D A ws' → va_S A s.heap H1 locs1 → W p l e R s m args below meth c H1 locs1 cells slots Q (F0 m (pc + 3) ls (.long Rr.1 :: rest))) : W p l e R s m args below meth c H locs cells slots Q (F0 m pc ls st0) := by
  have hF := fF sp hD hS hA
  refine va_calll hr hS (fun q _ h => hF q h) hF (fun r u t H1 locs1 ht hvm hw hB hz1 hk1 hS1 => ?_)
  obtain ⟨rfl, rfl⟩ := hw
  obtain ⟨hP1, hD1⟩ := hB
  rw [ht] at hP1
  obtain ⟨hP2, hD2⟩ := fj sp hP hD hk1 hF hP1 hD1
  exact kk H1 locs1 (vP_perm sp'.symm hP2) (vD_perm sp'.symm hD2) hS1
theorem gc_v {S : Type} {wf : S → va_W} {Rr : S} {a : Array Value} (hr : va_Run p l e R s m args below meth c H locs cells slots 0 0 (F0 m pc ls st0) rest (QV D wf Rr (va_A wc H.size) a) (va_A wc H.size)) (sp : ws.Perm (wc ++ wr)) (hP : va_P D vwCl ws H) (hD : va_D A ws) (hS : va_S A s.heap H locs) (hA : ∀ q, s.heap.size ≤ q → A q) (sp' : ws'.Perm (wf Rr ++ wr))
    (kk : ∀ (H1 : Heap) (locs1 : List Loc), va_P D vwCl ws' H1 → va_D A ws' → va_S A s.heap H1 locs1 → W p l e R s m args below meth c H1 locs1 cells slots Q (F0 m (pc + 3) ls rest)) : W p l e R s m args below meth c H locs cells slots Q (F0 m pc ls st0) := by
  have hF := fF sp hD hS hA
  refine va_callv hr hS (fun q _ h => hF q h) hF (fun u t H1 locs1 ht hvm hw hB hz1 hk1 hS1 => ?_)
  obtain rfl := hw
  obtain ⟨hP1, hD1⟩ := hB
  rw [ht] at hP1
  obtain ⟨hP2, hD2⟩ := fj sp hP hD hk1 hF hP1 hD1
  exact kk H1 locs1 (vP_perm sp'.symm hP2) (vD_perm sp'.symm hD2) hS1
theorem gc_q {S : Type} {wf : S → va_W} {Rr : Option Nat × S} {a : Array Value} (hr : va_Run p l e R s m args below meth c H locs cells slots 0 0 (F0 m pc ls st0) rest (QQ D wf Rr (va_A wc H.size) a) (va_A wc H.size)) (sp : ws.Perm (wc ++ wr)) (hP : va_P D vwCl ws H) (hD : va_D A ws) (hS : va_S A s.heap H locs) (hA : ∀ q, s.heap.size ≤ q → A q) (sp' : ws'.Perm (wf Rr.2 ++ wr))
    (kk : ∀ (H1 : Heap) (locs1 : List Loc), va_P D vwCl ws' H1 → va_D A ws' → va_S A s.heap H1 locs1 → W p l e R s m args below meth c H1 locs1 cells slots Q (F0 m (pc + 3) ls (va_rf Rr.1 :: rest))) : W p l e R s m args below meth c H locs cells slots Q (F0 m pc ls st0) := by
  have hF := fF sp hD hS hA
  refine va_callq hr hS (fun q _ h => hF q h) hF (fun r u t H1 locs1 ht hvm hw hB hz1 hk1 hS1 => ?_)
  obtain ⟨rfl, rfl⟩ := hw
  obtain ⟨hP1, hD1⟩ := hB
  rw [ht] at hP1
  obtain ⟨hP2, hD2⟩ := fj sp hP hD hk1 hF hP1 hD1
  exact kk H1 locs1 (vP_perm sp'.symm hP2) (vD_perm sp'.symm hD2) hS1
/-- the start of a call: the callee's part of the world -/
theorem pre_V {ci q0 : Nat} {q : vw_C} {fs : List Value} (sp : ws.Perm (wc ++ wr)) (hK : CK D cA s) (hP : va_P D vwCl ws H) (hD : va_D A ws) (hc : vwCl[ci]? = some q) (he : wc[q0]? = some (b, .inr (ci, fs))) : PreV s H q.1 b (PcW D cA wc H.size (.ref b :: As)) As := by
  have hP' : va_P D vwCl wc H := vP_iff.mpr fun x hx => vP_iff.mp (vP_perm sp hP) x (List.mem_append_left _ hx)
  exact ⟨PcW.blind, va_recv hK.1 hP' hc he, PcW.on sp hK hP hD⟩
theorem pre_S (sp : ws.Perm (wc ++ wr)) (hK : CK D cA s) (hP : va_P D vwCl ws H) (hD : va_D A ws) : PreS s H (PcW D cA wc H.size As) As := ⟨PcW.blind, PcW.on sp hK hP hD⟩
theorem gt_i {z x : Int32} (h : z = x) (k : W p l e R s m args below meth c H locs cells slots Q (F0 m pc ls (.int z :: rest))) : W p l e R s m args below meth c H locs cells slots Q (F0 m pc ls (.int x :: rest)) := by
  subst h
  exact k
theorem gt_j {z x : Int64} (h : z = x) (k : W p l e R s m args below meth c H locs cells slots Q (F0 m pc ls (.long z :: rest))) : W p l e R s m args below meth c H locs cells slots Q (F0 m pc ls (.long x :: rest)) := by
  subst h
  exact k
theorem pre_0 : PreS s H (fun v _ => v = As.toArray) As := ⟨fun _ _ _ _ q => q, fun _ _ _ => rfl⟩
/-- a switch by a table, a place at a time -/
theorem gs_in {dflt lo hi : Int} {offs : Array Int} {len tgt : Nat} {x : Int32} {off : Int} (v : Int32) (hv : x = v) (hexec : p.tables.exec = Jvm.exec) (hb : c.code = cc) (hdg : decode cc pc = .ok (.tableswitch dflt lo hi offs, len)) (h : (!decide (v.toInt < lo) && !decide (hi < v.toInt) && (offs[(v.toInt - lo).toNat]? == some off)) = true) (ht : (pc : Int) + off = (tgt : Int))
    (k : W p l e R s m args below meth c H locs cells slots Q (F0 m tgt ls rest)) : W p l e R s m args below meth c H locs cells slots Q (F0 m pc ls (.int x :: rest)) := by
  subst hv
  simp only [Bool.and_eq_true, Bool.not_eq_true', decide_eq_false_iff_not, beq_iff_eq] at h
  exact lv_tableIn hexec hb hdg h.1.1 h.1.2 h.2 ht k
end GC
/-- not one of the numbers of a table: outside it -/
theorem gs_out {x : Int32} {lo hi : Int} (n : Nat) (hn : hi = lo + n - 1) (h : ∀ k : Nat, k < n → x.toInt ≠ lo + k) : x.toInt < lo ∨ hi < x.toInt := by
  rcases Int.lt_or_le x.toInt lo with c | c
  · exact Or.inl c
  · refine Or.inr ?_
    rcases Int.lt_or_le hi x.toInt with d | d
    · exact d
    · exact absurd (by omega) (h (x.toInt - lo).toNat (by omega))
theorem gs_ne {x v : Int32} {z : Int} (h : ¬ x = v) (hv : v.toInt = z) : x.toInt ≠ z := fun e => h (Int32.toInt_inj.mp (e.trans hv.symm))
-- the groups of cells
abbrev gB (aB aP aT aM aN : Nat → Nat) (bI : Nat → Int32) : va_W := [(aB 0, .inr (4, [.ref (aP 0), .ref (aT 0), .ref (aM 0), .ref (aN 0), .int (bI 0), .int (bI 1)]))]
abbrev gP (cA : Nat → ClassId) (aP : Nat → Nat) (pI : Nat → Int32) (pA : Nat → Nat → Int32) : va_W := [(aP 0, .inr (3, [.ref (aP 1), .ref (aP 2), .ref (aP 3), .int (pI 0), .int (pI 1), .ref (aP 4), .ref (aP 5), .ref (aP 6), .ref (aP 7), .int (pI 2), .int (pI 3), .int (pI 4)])), (aP 1, .inl (cA 0, 4, .inl (pA 0))), (aP 2, .inl (cA 0, 4, .inl (pA 1))), (aP 3, .inl (cA 1, 4, .inl (pA 2))), (aP 4, .inl (cA 0, 60, .inl (pA 3))), (aP 5, .inl (cA 0, 60, .inl (pA 4))), (aP 6, .inl (cA 0, 60, .inl (pA 5))), (aP 7, .inl (cA 0, 60, .inl (pA 6)))]
abbrev gM (cA : Nat → ClassId) (aM : Nat → Nat) (mI : Nat → Int32) (mJ : Nat → Int64) (mA : Nat → Nat → Int32) : va_W := [(aM 0, .inr (1, [.ref (aM 1), .ref (aM 2), .int (mI 0), .long (mJ 0), .int (mI 1), .long (mJ 1), .long (mJ 2), .long (mJ 3), .long (mJ 4), .int (mI 2), .int (mI 3), .int (mI 4)])), (aM 1, .inl (cA 0, 16, .inl (mA 0))), (aM 2, .inl (cA 0, 8, .inl (mA 1)))]
abbrev gT (cA : Nat → ClassId) (aT : Nat → Nat) (tI : Nat → Int32) (tJ : Nat → Int64) (tP : Nat → Option Nat) (tO : Nat → Int64) (tR : Nat → Int32) : va_W := [(aT 0, .inr (0, [.ref (aT 1), .ref (aT 2), .ref (aT 3), .int (tI 0), .long (tJ 0), .long (tJ 1)])), (aT 1, .inl (cA 3, 40, .inr (.inr (.inr (.inr tP))))), (aT 2, .inl (cA 2, 4096, .inr (.inl tO))), (aT 3, .inl (cA 0, 4096, .inl tR))]
abbrev fQ (qI : Nat → Nat → Int32) (qJ : Nat → Nat → Int64) : Nat → va_E := fun a => .inr (2, [.long (qJ a 0), .long (qJ a 1), .int (qI a 0), .int (qI a 1), .int (qI a 2), .int (qI a 3), .int (qI a 4)])
abbrev gQ (L : List Nat) (qI : Nat → Nat → Int32) (qJ : Nat → Nat → Int64) : va_W := va_pl L (fQ qI qJ)
abbrev gX (cA : Nat → ClassId) (a n : Nat) (x : Nat → Int32) : va_W := [(a, .inl (cA 0, n, .inl x))]
abbrev gR (cA : Nat → ClassId) (aR : Nat → Nat) (rI : Nat → Int32) (rA : Nat → Nat → Int32) (rG : Nat → Option Nat) : va_W := [(aR 0, .inr (5, [.int (rI 0), .int (rI 1), .int (rI 2), .int (rI 3), .int (rI 4), .int (rI 5), .ref (aR 1), .ref (aR 2), .ref (aR 3), .ref (aR 4), .ref (aR 5), .ref (aR 6), .int (rI 6), .ref (aR 7), .ref (aR 8), .ref (aR 9), .ref (aR 10), .ref (aR 11), .ref (aR 12), .ref (aR 13), .ref (aR 14), .ref (aR 15), .ref (aR 16), .ref (aR 17), .ref (aR 18), .int (rI 7), .int (rI 8), .int (rI 9), .int (rI 10), .int (rI 11), .int (rI 12), .int (rI 13), .int (rI 14), .int (rI 15), .int (rI 16), .int (rI 17), .int (rI 18), .ref (aR 19), .ref (aR 20), .int (rI 19)])),
  (aR 1, .inl (cA 0, 4, .inl (rA 0))), (aR 2, .inl (cA 1, 4, .inl (rA 1))), (aR 3, .inl (cA 0, 60, .inl (rA 2))), (aR 4, .inl (cA 0, 60, .inl (rA 3))), (aR 5, .inl (cA 0, 60, .inl (rA 4))), (aR 6, .inl (cA 0, 60, .inl (rA 5))),
  (aR 7, .inl (cA 0, 40, .inl (rA 6))), (aR 8, .inl (cA 0, 40, .inl (rA 7))), (aR 9, .inl (cA 0, 40, .inl (rA 8))), (aR 10, .inl (cA 0, 40, .inl (rA 9))), (aR 11, .inl (cA 1, 40, .inl (rA 10))), (aR 12, .inl (cA 4, 40, .inr (.inr (.inr (.inr rG))))),
  (aR 13, .inl (cA 0, 4096, .inl (rA 11))), (aR 14, .inl (cA 0, 4096, .inl (rA 12))), (aR 15, .inl (cA 1, 60, .inl (rA 13))), (aR 16, .inl (cA 0, 16, .inl (rA 14))), (aR 17, .inl (cA 0, 8, .inl (rA 15))), (aR 18, .inl (cA 0, 60, .inl (rA 16))), (aR 19, .inl (cA 0, 16, .inl (rA 17))), (aR 20, .inl (cA 0, 8, .inl (rA 18)))]
abbrev fR (cA : Nat → ClassId) (rR : Nat → Nat → Int32) : Nat → va_E := fun a => .inl (cA 0, 60, .inl (rR a))
abbrev gG (cA : Nat → ClassId) (L : List Nat) (rR : Nat → Nat → Int32) : va_W := va_pl L (fR cA rR)
theorem fR_up {cA : Nat → ClassId} {rR : Nat → Nat → Int32} {a : Nat} {x : Nat → Int32} : ∀ b, va_up (fR cA rR) a (.inl (cA 0, 60, .inl x)) b = fR cA (va_up rR a x) b := fun b => by
  by_cases h : b = a <;> simp [va_up, h]
theorem fQ_up0 {qI : Nat → Nat → Int32} {qJ : Nat → Nat → Int64} {a : Nat} {v : Int64} : ∀ b, va_up (fQ qI qJ) a (.inr (2, [.long v, .long (qJ a 1), .int (qI a 0), .int (qI a 1), .int (qI a 2), .int (qI a 3), .int (qI a 4)])) b = fQ qI (va_up qJ a (vp_updL (qJ a) 0 v)) b := fun b => by
  by_cases h : b = a <;> simp [va_up, upd, vp_updL, h]
theorem fQ_up1 {qI : Nat → Nat → Int32} {qJ : Nat → Nat → Int64} {a : Nat} {v : Int64} : ∀ b, va_up (fQ qI qJ) a (.inr (2, [.long (qJ a 0), .long v, .int (qI a 0), .int (qI a 1), .int (qI a 2), .int (qI a 3), .int (qI a 4)])) b = fQ qI (va_up qJ a (vp_updL (qJ a) 1 v)) b := fun b => by
  by_cases h : b = a <;> simp [va_up, upd, vp_updL, h]
theorem fQ_up2 {qI : Nat → Nat → Int32} {qJ : Nat → Nat → Int64} {a : Nat} {v : Int32} : ∀ b, va_up (fQ qI qJ) a (.inr (2, [.long (qJ a 0), .long (qJ a 1), .int v, .int (qI a 1), .int (qI a 2), .int (qI a 3), .int (qI a 4)])) b = fQ (va_up qI a (upd (qI a) 0 v)) qJ b := fun b => by
  by_cases h : b = a <;> simp [va_up, upd, vp_updL, h]
theorem fQ_up3 {qI : Nat → Nat → Int32} {qJ : Nat → Nat → Int64} {a : Nat} {v : Int32} : ∀ b, va_up (fQ qI qJ) a (.inr (2, [.long (qJ a 0), .long (qJ a 1), .int (qI a 0), .int v, .int (qI a 2), .int (qI a 3), .int (qI a 4)])) b = fQ (va_up qI a (upd (qI a) 1 v)) qJ b := fun b => by
  by_cases h : b = a <;> simp [va_up, upd, vp_updL, h]
theorem fQ_up4 {qI : Nat → Nat → Int32} {qJ : Nat → Nat → Int64} {a : Nat} {v : Int32} : ∀ b, va_up (fQ qI qJ) a (.inr (2, [.long (qJ a 0), .long (qJ a 1), .int (qI a 0), .int (qI a 1), .int v, .int (qI a 3), .int (qI a 4)])) b = fQ (va_up qI a (upd (qI a) 2 v)) qJ b := fun b => by
  by_cases h : b = a <;> simp [va_up, upd, vp_updL, h]
theorem fQ_up5 {qI : Nat → Nat → Int32} {qJ : Nat → Nat → Int64} {a : Nat} {v : Int32} : ∀ b, va_up (fQ qI qJ) a (.inr (2, [.long (qJ a 0), .long (qJ a 1), .int (qI a 0), .int (qI a 1), .int (qI a 2), .int v, .int (qI a 4)])) b = fQ (va_up qI a (upd (qI a) 3 v)) qJ b := fun b => by
  by_cases h : b = a <;> simp [va_up, upd, vp_updL, h]
theorem fQ_up6 {qI : Nat → Nat → Int32} {qJ : Nat → Nat → Int64} {a : Nat} {v : Int32} : ∀ b, va_up (fQ qI qJ) a (.inr (2, [.long (qJ a 0), .long (qJ a 1), .int (qI a 0), .int (qI a 1), .int (qI a 2), .int (qI a 3), .int v])) b = fQ (va_up qI a (upd (qI a) 4 v)) qJ b := fun b => by
  by_cases h : b = a <;> simp [va_up, upd, vp_updL, h]
end
section
set_option maxRecDepth 20000 in
theorem kl_RJ13_314 : Cond.constantLong RJ13 314 (6148914691236517205) ∈ wsL_law := ml 415 (by decide +kernel) (by decide +kernel)
set_option maxRecDepth 20000 in
theorem kl_RJ13_316 : Cond.constantLong RJ13 316 (3689348814741910323) ∈ wsL_law := ml 416 (by decide +kernel) (by decide +kernel)
set_option maxRecDepth 20000 in
theorem kl_RJ13_318 : Cond.constantLong RJ13 318 (1085102592571150095) ∈ wsL_law := ml 417 (by decide +kernel) (by decide +kernel)
set_option maxRecDepth 20000 in
theorem cd_yX4_mark_cX4_mark : Cond.code yX4_mark cX4_mark 1 (some .long) ∈ wsL_law := ml 335 rfl (by decide +kernel)
set_option maxRecDepth 20000 in
theorem mk_RX4_175 : Cond.methodLink RX4 175 yX4_mark ∈ wsL_law := ml 428 (by decide +kernel) (by decide +kernel)
set_option maxRecDepth 20000 in
theorem sc_yX4_mark : Cond.static yX4_mark ∈ wsL_law := ml 334 (by decide +kernel) (by decide +kernel)
set_option maxRecDepth 20000 in
theorem ini_RX4 : Cond.initialized RX4 ∈ wsL_law := ml 31 (by decide +kernel) (by decide +kernel)
set_option maxRecDepth 20000 in
theorem gs_RX4_175 : GoodIn wsL_law (wsS RX4 175 yX4_mark (wsU yX4_mark cX4_mark 1 (some .long))) := gwS mk_RX4_175 sc_yX4_mark ini_RX4 cd_yX4_mark_cX4_mark
set_option maxRecDepth 20000 in
theorem cd_yX4_isMarked_cX4_isMarked : Cond.code yX4_isMarked cX4_isMarked 3 (some .boolean) ∈ wsL_law := ml 427 rfl (by decide +kernel)
set_option maxRecDepth 20000 in
theorem mk_RX4_106 : Cond.methodLink RX4 106 yX4_isMarked ∈ wsL_law := ml 425 (by decide +kernel) (by decide +kernel)
set_option maxRecDepth 20000 in
theorem sc_yX4_isMarked : Cond.static yX4_isMarked ∈ wsL_law := ml 426 (by decide +kernel) (by decide +kernel)
set_option maxRecDepth 20000 in
theorem kl_RX4_179 : Cond.constantLong RX4 179 (4294967295) ∈ wsL_law := ml 375 (by decide +kernel) (by decide +kernel)
set_option maxRecDepth 20000 in
theorem cd_yX4_isBelowUnsigned_cX4_isBelowUnsigned : Cond.code yX4_isBelowUnsigned cX4_isBelowUnsigned 2 (some .boolean) ∈ wsL_law := ml 381 rfl (by decide +kernel)
set_option maxRecDepth 20000 in
theorem mk_RX4_181 : Cond.methodLink RX4 181 yX4_isBelowUnsigned ∈ wsL_law := ml 379 (by decide +kernel) (by decide +kernel)
set_option maxRecDepth 20000 in
theorem sc_yX4_isBelowUnsigned : Cond.static yX4_isBelowUnsigned ∈ wsL_law := ml 380 (by decide +kernel) (by decide +kernel)
set_option maxRecDepth 20000 in
theorem gs_RX4_181 : GoodIn wsL_law (wsS RX4 181 yX4_isBelowUnsigned (wsU yX4_isBelowUnsigned cX4_isBelowUnsigned 2 (some .boolean))) := gwS mk_RX4_181 sc_yX4_isBelowUnsigned ini_RX4 cd_yX4_isBelowUnsigned_cX4_isBelowUnsigned
set_option maxRecDepth 20000 in
theorem fl_RX3_34 : Cond.fieldLink RX3 34 "SymbolBench$Program" "inputs" "I" ∈ wsL_law := ml 56 (by decide +kernel) (by decide +kernel)
set_option maxRecDepth 20000 in
theorem fl_RX3_38 : Cond.fieldLink RX3 38 "SymbolBench$Program" "bits" "I" ∈ wsL_law := ml 58 (by decide +kernel) (by decide +kernel)
set_option maxRecDepth 20000 in
theorem fl_RX3_41 : Cond.fieldLink RX3 41 "SymbolBench$Program" "size" "I" ∈ wsL_law := ml 68 (by decide +kernel) (by decide +kernel)
set_option maxRecDepth 20000 in
theorem fl_RX3_44 : Cond.fieldLink RX3 44 "SymbolBench$Program" "multiplications" "I" ∈ wsL_law := ml 71 (by decide +kernel) (by decide +kernel)
set_option maxRecDepth 20000 in
theorem fl_RX3_47 : Cond.fieldLink RX3 47 "SymbolBench$Program" "divisions" "I" ∈ wsL_law := ml 72 (by decide +kernel) (by decide +kernel)
set_option maxRecDepth 20000 in
theorem cd_yX4_isDivision_cX4_isDivision : Cond.code yX4_isDivision cX4_isDivision 1 (some .boolean) ∈ wsL_law := ml 296 rfl (by decide +kernel)
set_option maxRecDepth 20000 in
theorem nl_RX3_58 : Cond.methodLinkNest RX3 58 yX4_isDivision RX4 ∈ nwL := List.mem_of_getElem? (i := 47) (by decide +kernel)
set_option maxRecDepth 20000 in
theorem sc_yX4_isDivision : Cond.static yX4_isDivision ∈ wsL_law := ml 295 (by decide +kernel) (by decide +kernel)
set_option maxRecDepth 20000 in
theorem cd_yX3_takesThreeRegisters_cX3_takesThreeRegisters : Cond.code yX3_takesThreeRegisters cX3_takesThreeRegisters 1 (some .boolean) ∈ wsL_law := ml 289 rfl (by decide +kernel)
set_option maxRecDepth 20000 in
theorem mk_RX3_67 : Cond.methodLink RX3 67 yX3_takesThreeRegisters ∈ wsL_law := ml 287 (by decide +kernel) (by decide +kernel)
set_option maxRecDepth 20000 in
theorem sc_yX3_takesThreeRegisters : Cond.static yX3_takesThreeRegisters ∈ wsL_law := ml 288 (by decide +kernel) (by decide +kernel)
set_option maxRecDepth 20000 in
theorem ini_RX3 : Cond.initialized RX3 ∈ wsL_law := ml 32 (by decide +kernel) (by decide +kernel)
set_option maxRecDepth 20000 in
theorem gs_RX3_67 : GoodIn wsL_law (wsS RX3 67 yX3_takesThreeRegisters (wsU yX3_takesThreeRegisters cX3_takesThreeRegisters 1 (some .boolean))) := gwS mk_RX3_67 sc_yX3_takesThreeRegisters ini_RX3 cd_yX3_takesThreeRegisters_cX3_takesThreeRegisters
set_option maxRecDepth 20000 in
theorem cd_yX4_isRegister_cX4_isRegister : Cond.code yX4_isRegister cX4_isRegister 1 (some .boolean) ∈ wsL_law := ml 282 rfl (by decide +kernel)
set_option maxRecDepth 20000 in
theorem nl_RX3_61 : Cond.methodLinkNest RX3 61 yX4_isRegister RX4 ∈ nwL := List.mem_of_getElem? (i := 46) (by decide +kernel)
set_option maxRecDepth 20000 in
theorem sc_yX4_isRegister : Cond.static yX4_isRegister ∈ wsL_law := ml 281 (by decide +kernel) (by decide +kernel)
set_option maxRecDepth 20000 in
theorem cd_yX3_isTarget_cX3_isTarget : Cond.code yX3_isTarget cX3_isTarget 2 (some .boolean) ∈ wsL_law := ml 286 rfl (by decide +kernel)
set_option maxRecDepth 20000 in
theorem mk_RX3_64 : Cond.methodLink RX3 64 yX3_isTarget ∈ wsL_law := ml 283 (by decide +kernel) (by decide +kernel)
set_option maxRecDepth 20000 in
theorem im_yX3_isTarget : Cond.instanceMethod yX3_isTarget ∈ wsL_law := ml 285 (by decide +kernel) (by decide +kernel)
set_option maxRecDepth 20000 in
theorem se_yX3_isTarget : Cond.selects RX3 yX3_isTarget yX3_isTarget ∈ wsL_law := ml 2 (by decide +kernel) (by decide +kernel)
set_option maxRecDepth 20000 in
theorem gv_RX3_64 : GoodIn wsL_law (wsV RX3 64 RX3 yX3_isTarget (wsU yX3_isTarget cX3_isTarget 2 (some .boolean))) := gwV mk_RX3_64 im_yX3_isTarget se_yX3_isTarget ini_RX3 cd_yX3_isTarget_cX3_isTarget
set_option maxRecDepth 20000 in
theorem fl_RX3_9 : Cond.fieldLink RX3 9 "SymbolBench$Program" "widths" "[I" ∈ wsL_law := ml 53 (by decide +kernel) (by decide +kernel)
set_option maxRecDepth 20000 in
theorem fl_RX3_15 : Cond.fieldLink RX3 15 "SymbolBench$Program" "reaches" "[I" ∈ wsL_law := ml 54 (by decide +kernel) (by decide +kernel)
set_option maxRecDepth 20000 in
theorem fl_RX3_18 : Cond.fieldLink RX3 18 "SymbolBench$Program" "signs" "[Z" ∈ wsL_law := ml 55 (by decide +kernel) (by decide +kernel)
set_option maxRecDepth 20000 in
theorem fl_RX3_22 : Cond.fieldLink RX3 22 "SymbolBench$Program" "numbers" "[I" ∈ wsL_law := ml 60 (by decide +kernel) (by decide +kernel)
set_option maxRecDepth 20000 in
theorem fl_RX3_25 : Cond.fieldLink RX3 25 "SymbolBench$Program" "firsts" "[I" ∈ wsL_law := ml 62 (by decide +kernel) (by decide +kernel)
set_option maxRecDepth 20000 in
theorem fl_RX3_28 : Cond.fieldLink RX3 28 "SymbolBench$Program" "seconds" "[I" ∈ wsL_law := ml 64 (by decide +kernel) (by decide +kernel)
set_option maxRecDepth 20000 in
theorem fl_RX3_31 : Cond.fieldLink RX3 31 "SymbolBench$Program" "thirds" "[I" ∈ wsL_law := ml 66 (by decide +kernel) (by decide +kernel)
set_option maxRecDepth 20000 in
theorem cd_yX3_fits_cX3_fits : Cond.code yX3_fits cX3_fits 5 (some .boolean) ∈ wsL_law := ml 279 rfl (by decide +kernel)
set_option maxRecDepth 20000 in
theorem mk_RX3_50 : Cond.methodLink RX3 50 yX3_fits ∈ wsL_law := ml 276 (by decide +kernel) (by decide +kernel)
set_option maxRecDepth 20000 in
theorem im_yX3_fits : Cond.instanceMethod yX3_fits ∈ wsL_law := ml 278 (by decide +kernel) (by decide +kernel)
set_option maxRecDepth 20000 in
theorem se_yX3_fits : Cond.selects RX3 yX3_fits yX3_fits ∈ wsL_law := ml 1 (by decide +kernel) (by decide +kernel)
set_option maxRecDepth 20000 in
theorem gv_RX3_50 : GoodIn wsL_law (wsV RX3 50 RX3 yX3_fits (wsU yX3_fits cX3_fits 5 (some .boolean))) := gwV mk_RX3_50 im_yX3_fits se_yX3_fits ini_RX3 cd_yX3_fits_cX3_fits
set_option maxRecDepth 20000 in
theorem cd_yX3_wouldBeTooMany_cX3_wouldBeTooMany : Cond.code yX3_wouldBeTooMany cX3_wouldBeTooMany 2 (some .boolean) ∈ wsL_law := ml 293 rfl (by decide +kernel)
set_option maxRecDepth 20000 in
theorem mk_RX3_54 : Cond.methodLink RX3 54 yX3_wouldBeTooMany ∈ wsL_law := ml 290 (by decide +kernel) (by decide +kernel)
set_option maxRecDepth 20000 in
theorem im_yX3_wouldBeTooMany : Cond.instanceMethod yX3_wouldBeTooMany ∈ wsL_law := ml 292 (by decide +kernel) (by decide +kernel)
set_option maxRecDepth 20000 in
theorem se_yX3_wouldBeTooMany : Cond.selects RX3 yX3_wouldBeTooMany yX3_wouldBeTooMany ∈ wsL_law := ml 3 (by decide +kernel) (by decide +kernel)
set_option maxRecDepth 20000 in
theorem gv_RX3_54 : GoodIn wsL_law (wsV RX3 54 RX3 yX3_wouldBeTooMany (wsU yX3_wouldBeTooMany cX3_wouldBeTooMany 2 (some .boolean))) := gwV mk_RX3_54 im_yX3_wouldBeTooMany se_yX3_wouldBeTooMany ini_RX3 cd_yX3_wouldBeTooMany_cX3_wouldBeTooMany
set_option maxRecDepth 20000 in
theorem cd_yX3_words_cX3_words : Cond.code yX3_words cX3_words 1 (some .int) ∈ wsL_law := ml 321 rfl (by decide +kernel)
set_option maxRecDepth 20000 in
theorem mk_RX3_70 : Cond.methodLink RX3 70 yX3_words ∈ wsL_law := ml 437 (by decide +kernel) (by decide +kernel)
set_option maxRecDepth 20000 in
theorem im_yX3_words : Cond.instanceMethod yX3_words ∈ wsL_law := ml 319 (by decide +kernel) (by decide +kernel)
set_option maxRecDepth 20000 in
theorem se_yX3_words : Cond.selects RX3 yX3_words yX3_words ∈ wsL_law := ml 320 (by decide +kernel) (by decide +kernel)
set_option maxRecDepth 20000 in
theorem gv_RX3_70 : GoodIn wsL_law (wsV RX3 70 RX3 yX3_words (wsU yX3_words cX3_words 1 (some .int))) := gwV mk_RX3_70 im_yX3_words se_yX3_words ini_RX3 cd_yX3_words_cX3_words
set_option maxRecDepth 20000 in
theorem fl_RX1_28 : Cond.fieldLink RX1 28 "SymbolBench$Machine" "hasEnded" "Z" ∈ wsL_law := ml 199 (by decide +kernel) (by decide +kernel)
set_option maxRecDepth 20000 in
theorem fl_RX1_75 : Cond.fieldLink RX1 75 "SymbolBench$Machine" "end" "I" ∈ wsL_law := ml 201 (by decide +kernel) (by decide +kernel)
set_option maxRecDepth 20000 in
theorem fl_RX1_78 : Cond.fieldLink RX1 78 "SymbolBench$Machine" "result" "I" ∈ wsL_law := ml 205 (by decide +kernel) (by decide +kernel)
set_option maxRecDepth 20000 in
theorem fl_RX1_60 : Cond.fieldLink RX1 60 "SymbolBench$Machine" "isGuided" "Z" ∈ wsL_law := ml 182 (by decide +kernel) (by decide +kernel)
set_option maxRecDepth 20000 in
theorem fl_RX1_68 : Cond.fieldLink RX1 68 "SymbolBench$Machine" "guidingOnes" "J" ∈ wsL_law := ml 183 (by decide +kernel) (by decide +kernel)
set_option maxRecDepth 20000 in
theorem fl_RX1_39 : Cond.fieldLink RX1 39 "SymbolBench$Machine" "placeMark" "J" ∈ wsL_law := ml 188 (by decide +kernel) (by decide +kernel)
set_option maxRecDepth 20000 in
theorem fl_RX1_71 : Cond.fieldLink RX1 71 "SymbolBench$Machine" "decided" "J" ∈ wsL_law := ml 193 (by decide +kernel) (by decide +kernel)
set_option maxRecDepth 20000 in
theorem fl_RX1_74 : Cond.fieldLink RX1 74 "SymbolBench$Machine" "ones" "J" ∈ wsL_law := ml 196 (by decide +kernel) (by decide +kernel)
set_option maxRecDepth 20000 in
theorem fl_RX1_9 : Cond.fieldLink RX1 9 "SymbolBench$Machine" "registers" "[I" ∈ wsL_law := ml 178 (by decide +kernel) (by decide +kernel)
set_option maxRecDepth 20000 in
theorem fl_RX1_15 : Cond.fieldLink RX1 15 "SymbolBench$Machine" "cells" "[I" ∈ wsL_law := ml 180 (by decide +kernel) (by decide +kernel)
set_option maxRecDepth 20000 in
theorem cd_yX4_isCell_cX4_isCell : Cond.code yX4_isCell cX4_isCell 1 (some .boolean) ∈ wsL_law := ml 350 rfl (by decide +kernel)
set_option maxRecDepth 20000 in
theorem nl_RX1_126 : Cond.methodLinkNest RX1 126 yX4_isCell RX4 ∈ nwL := List.mem_of_getElem? (i := 49) (by decide +kernel)
set_option maxRecDepth 20000 in
theorem sc_yX4_isCell : Cond.static yX4_isCell ∈ wsL_law := ml 349 (by decide +kernel) (by decide +kernel)
set_option maxRecDepth 20000 in
theorem cd_yX1_decide_cX1_decide : Cond.code yX1_decide cX1_decide 3 (some .boolean) ∈ wsL_law := ml 354 rfl (by decide +kernel)
set_option maxRecDepth 20000 in
theorem mk_RX1_100 : Cond.methodLink RX1 100 yX1_decide ∈ wsL_law := ml 351 (by decide +kernel) (by decide +kernel)
set_option maxRecDepth 20000 in
theorem im_yX1_decide : Cond.instanceMethod yX1_decide ∈ wsL_law := ml 353 (by decide +kernel) (by decide +kernel)
set_option maxRecDepth 20000 in
theorem se_yX1_decide : Cond.selects RX1 yX1_decide yX1_decide ∈ wsL_law := ml 7 (by decide +kernel) (by decide +kernel)
set_option maxRecDepth 20000 in
theorem ini_RX1 : Cond.initialized RX1 ∈ wsL_law := ml 35 (by decide +kernel) (by decide +kernel)
set_option maxRecDepth 20000 in
theorem cd_yX1_stop_cX1_stop : Cond.code yX1_stop cX1_stop 3 none ∈ wsL_law := ml 358 rfl (by decide +kernel)
set_option maxRecDepth 20000 in
theorem mk_RX1_50 : Cond.methodLink RX1 50 yX1_stop ∈ wsL_law := ml 355 (by decide +kernel) (by decide +kernel)
set_option maxRecDepth 20000 in
theorem im_yX1_stop : Cond.instanceMethod yX1_stop ∈ wsL_law := ml 357 (by decide +kernel) (by decide +kernel)
set_option maxRecDepth 20000 in
theorem se_yX1_stop : Cond.selects RX1 yX1_stop yX1_stop ∈ wsL_law := ml 8 (by decide +kernel) (by decide +kernel)
set_option maxRecDepth 20000 in
theorem cd_yX4_divide_cX4_divide : Cond.code yX4_divide cX4_divide 8 (some .int) ∈ wsL_law := ml 374 rfl (by decide +kernel)
set_option maxRecDepth 20000 in
theorem nl_RX1_119 : Cond.methodLinkNest RX1 119 yX4_divide RX4 ∈ nwL := List.mem_of_getElem? (i := 51) (by decide +kernel)
set_option maxRecDepth 20000 in
theorem sc_yX4_divide : Cond.static yX4_divide ∈ wsL_law := ml 373 (by decide +kernel) (by decide +kernel)
set_option maxRecDepth 20000 in
theorem nl_RX1_115 : Cond.methodLinkNest RX1 115 yX4_isDivision RX4 ∈ nwL := List.mem_of_getElem? (i := 50) (by decide +kernel)
set_option maxRecDepth 20000 in
theorem cd_yX4_combine_cX4_combine : Cond.code yX4_combine cX4_combine 3 (some .int) ∈ wsL_law := ml 378 rfl (by decide +kernel)
set_option maxRecDepth 20000 in
theorem nl_RX1_123 : Cond.methodLinkNest RX1 123 yX4_combine RX4 ∈ nwL := List.mem_of_getElem? (i := 52) (by decide +kernel)
set_option maxRecDepth 20000 in
theorem sc_yX4_combine : Cond.static yX4_combine ∈ wsL_law := ml 377 (by decide +kernel) (by decide +kernel)
set_option maxRecDepth 20000 in
theorem nl_RX1_81 : Cond.fieldLinkNest RX1 81 RX3 "numbers" "[I" RX4 ∈ nwL := List.mem_of_getElem? (i := 2) (by decide +kernel)
set_option maxRecDepth 20000 in
theorem fl_RX1_32 : Cond.fieldLink RX1 32 "SymbolBench$Machine" "place" "I" ∈ wsL_law := ml 185 (by decide +kernel) (by decide +kernel)
set_option maxRecDepth 20000 in
theorem nl_RX1_84 : Cond.fieldLinkNest RX1 84 RX3 "firsts" "[I" RX4 ∈ nwL := List.mem_of_getElem? (i := 3) (by decide +kernel)
set_option maxRecDepth 20000 in
theorem nl_RX1_87 : Cond.fieldLinkNest RX1 87 RX3 "seconds" "[I" RX4 ∈ nwL := List.mem_of_getElem? (i := 4) (by decide +kernel)
set_option maxRecDepth 20000 in
theorem nl_RX1_108 : Cond.fieldLinkNest RX1 108 RX3 "thirds" "[I" RX4 ∈ nwL := List.mem_of_getElem? (i := 5) (by decide +kernel)
set_option maxRecDepth 20000 in
theorem cd_yX1_calculate_cX1_calculate : Cond.code yX1_calculate cX1_calculate 5 none ∈ wsL_law := ml 370 rfl (by decide +kernel)
set_option maxRecDepth 20000 in
theorem mk_RX1_111 : Cond.methodLink RX1 111 yX1_calculate ∈ wsL_law := ml 367 (by decide +kernel) (by decide +kernel)
set_option maxRecDepth 20000 in
theorem im_yX1_calculate : Cond.instanceMethod yX1_calculate ∈ wsL_law := ml 369 (by decide +kernel) (by decide +kernel)
set_option maxRecDepth 20000 in
theorem se_yX1_calculate : Cond.selects RX1 yX1_calculate yX1_calculate ∈ wsL_law := ml 11 (by decide +kernel) (by decide +kernel)
set_option maxRecDepth 20000 in
theorem gv_RX1_111 : GoodIn wsL_law (wsV RX1 111 RX1 yX1_calculate (wsU yX1_calculate cX1_calculate 5 none)) := gwV mk_RX1_111 im_yX1_calculate se_yX1_calculate ini_RX1 cd_yX1_calculate_cX1_calculate
set_option maxRecDepth 20000 in
theorem gv_RX1_100 : GoodIn wsL_law (wsV RX1 100 RX1 yX1_decide (wsU yX1_decide cX1_decide 3 (some .boolean))) := gwV mk_RX1_100 im_yX1_decide se_yX1_decide ini_RX1 cd_yX1_decide_cX1_decide
set_option maxRecDepth 20000 in
theorem cd_yX3_inputIn_cX3_inputIn : Cond.code yX3_inputIn cX3_inputIn 5 (some .int) ∈ wsL_law := ml 343 rfl (by decide +kernel)
set_option maxRecDepth 20000 in
theorem mk_RX1_90 : Cond.methodLink RX1 90 yX3_inputIn ∈ wsL_law := ml 340 (by decide +kernel) (by decide +kernel)
set_option maxRecDepth 20000 in
theorem im_yX3_inputIn : Cond.instanceMethod yX3_inputIn ∈ wsL_law := ml 341 (by decide +kernel) (by decide +kernel)
set_option maxRecDepth 20000 in
theorem se_yX3_inputIn : Cond.selects RX3 yX3_inputIn yX3_inputIn ∈ wsL_law := ml 342 (by decide +kernel) (by decide +kernel)
set_option maxRecDepth 20000 in
theorem gv_RX1_90 : GoodIn wsL_law (wsV RX1 90 RX3 yX3_inputIn (wsU yX3_inputIn cX3_inputIn 5 (some .int))) := gwV mk_RX1_90 im_yX3_inputIn se_yX3_inputIn ini_RX3 cd_yX3_inputIn_cX3_inputIn
set_option maxRecDepth 20000 in
theorem cd_yX1_load_cX1_load : Cond.code yX1_load cX1_load 3 none ∈ wsL_law := ml 347 rfl (by decide +kernel)
set_option maxRecDepth 20000 in
theorem mk_RX1_94 : Cond.methodLink RX1 94 yX1_load ∈ wsL_law := ml 344 (by decide +kernel) (by decide +kernel)
set_option maxRecDepth 20000 in
theorem im_yX1_load : Cond.instanceMethod yX1_load ∈ wsL_law := ml 346 (by decide +kernel) (by decide +kernel)
set_option maxRecDepth 20000 in
theorem se_yX1_load : Cond.selects RX1 yX1_load yX1_load ∈ wsL_law := ml 6 (by decide +kernel) (by decide +kernel)
set_option maxRecDepth 20000 in
theorem gv_RX1_94 : GoodIn wsL_law (wsV RX1 94 RX1 yX1_load (wsU yX1_load cX1_load 3 none)) := gwV mk_RX1_94 im_yX1_load se_yX1_load ini_RX1 cd_yX1_load_cX1_load
set_option maxRecDepth 20000 in
theorem cd_yX1_store_cX1_store : Cond.code yX1_store cX1_store 3 none ∈ wsL_law := ml 362 rfl (by decide +kernel)
set_option maxRecDepth 20000 in
theorem mk_RX1_97 : Cond.methodLink RX1 97 yX1_store ∈ wsL_law := ml 359 (by decide +kernel) (by decide +kernel)
set_option maxRecDepth 20000 in
theorem im_yX1_store : Cond.instanceMethod yX1_store ∈ wsL_law := ml 361 (by decide +kernel) (by decide +kernel)
set_option maxRecDepth 20000 in
theorem se_yX1_store : Cond.selects RX1 yX1_store yX1_store ∈ wsL_law := ml 9 (by decide +kernel) (by decide +kernel)
set_option maxRecDepth 20000 in
theorem gv_RX1_97 : GoodIn wsL_law (wsV RX1 97 RX1 yX1_store (wsU yX1_store cX1_store 3 none)) := gwV mk_RX1_97 im_yX1_store se_yX1_store ini_RX1 cd_yX1_store_cX1_store
set_option maxRecDepth 20000 in
theorem cd_yX1_stopUnlessTrue_cX1_stopUnlessTrue : Cond.code yX1_stopUnlessTrue cX1_stopUnlessTrue 2 none ∈ wsL_law := ml 366 rfl (by decide +kernel)
set_option maxRecDepth 20000 in
theorem mk_RX1_104 : Cond.methodLink RX1 104 yX1_stopUnlessTrue ∈ wsL_law := ml 363 (by decide +kernel) (by decide +kernel)
set_option maxRecDepth 20000 in
theorem im_yX1_stopUnlessTrue : Cond.instanceMethod yX1_stopUnlessTrue ∈ wsL_law := ml 365 (by decide +kernel) (by decide +kernel)
set_option maxRecDepth 20000 in
theorem se_yX1_stopUnlessTrue : Cond.selects RX1 yX1_stopUnlessTrue yX1_stopUnlessTrue ∈ wsL_law := ml 10 (by decide +kernel) (by decide +kernel)
set_option maxRecDepth 20000 in
theorem gv_RX1_104 : GoodIn wsL_law (wsV RX1 104 RX1 yX1_stopUnlessTrue (wsU yX1_stopUnlessTrue cX1_stopUnlessTrue 2 none)) := gwV mk_RX1_104 im_yX1_stopUnlessTrue se_yX1_stopUnlessTrue ini_RX1 cd_yX1_stopUnlessTrue_cX1_stopUnlessTrue
set_option maxRecDepth 20000 in
theorem fl_RX1_43 : Cond.fieldLink RX1 43 "SymbolBench$Machine" "visited" "J" ∈ wsL_law := ml 189 (by decide +kernel) (by decide +kernel)
set_option maxRecDepth 20000 in
theorem cd_yJ7_fill_53178_cJ7_fill_53178 : Cond.code yJ7_fill_53178 cJ7_fill_53178 4 none ∈ wsL_law := ml 332 rfl (by decide +kernel)
set_option maxRecDepth 20000 in
theorem mk_RX1_54 : Cond.methodLink RX1 54 yJ7_fill_53178 ∈ wsL_law := ml 330 (by decide +kernel) (by decide +kernel)
set_option maxRecDepth 20000 in
theorem sc_yJ7_fill_53178 : Cond.static yJ7_fill_53178 ∈ wsL_law := ml 331 (by decide +kernel) (by decide +kernel)
set_option maxRecDepth 20000 in
theorem ini_RJ7 : Cond.initialized RJ7 ∈ wsL_law := ml 37 (by decide +kernel) (by decide +kernel)
set_option maxRecDepth 20000 in
theorem nl_RX1_63 : Cond.fieldLinkNest RX1 63 RX2 "ones" "J" RX4 ∈ nwL := List.mem_of_getElem? (i := 9) (by decide +kernel)
set_option maxRecDepth 20000 in
theorem gs_RX1_54 : GoodIn wsL_law (va_wsS RX1 54 yJ7_fill_53178 (wsU yJ7_fill_53178 cJ7_fill_53178 4 none)) := gwT mk_RX1_54 sc_yJ7_fill_53178 ini_RJ7 cd_yJ7_fill_53178_cJ7_fill_53178
set_option maxRecDepth 20000 in
theorem nl_RX1_22 : Cond.fieldLinkNest RX1 22 RX3 "size" "I" RX4 ∈ nwL := List.mem_of_getElem? (i := 6) (by decide +kernel)
set_option maxRecDepth 20000 in
theorem nl_RX1_35 : Cond.methodLinkNest RX1 35 yX4_mark RX4 ∈ nwL := List.mem_of_getElem? (i := 48) (by decide +kernel)
set_option maxRecDepth 20000 in
theorem cd_yX1_step_cX1_step : Cond.code yX1_step cX1_step 6 (some .int) ∈ wsL_law := ml 339 rfl (by decide +kernel)
set_option maxRecDepth 20000 in
theorem mk_RX1_46 : Cond.methodLink RX1 46 yX1_step ∈ wsL_law := ml 336 (by decide +kernel) (by decide +kernel)
set_option maxRecDepth 20000 in
theorem im_yX1_step : Cond.instanceMethod yX1_step ∈ wsL_law := ml 338 (by decide +kernel) (by decide +kernel)
set_option maxRecDepth 20000 in
theorem se_yX1_step : Cond.selects RX1 yX1_step yX1_step ∈ wsL_law := ml 5 (by decide +kernel) (by decide +kernel)
set_option maxRecDepth 20000 in
theorem cd_yX1_begin_cX1_begin : Cond.code yX1_begin cX1_begin 2 none ∈ wsL_law := ml 329 rfl (by decide +kernel)
set_option maxRecDepth 20000 in
theorem mk_RX1_18 : Cond.methodLink RX1 18 yX1_begin ∈ wsL_law := ml 326 (by decide +kernel) (by decide +kernel)
set_option maxRecDepth 20000 in
theorem im_yX1_begin : Cond.instanceMethod yX1_begin ∈ wsL_law := ml 328 (by decide +kernel) (by decide +kernel)
set_option maxRecDepth 20000 in
theorem se_yX1_begin : Cond.selects RX1 yX1_begin yX1_begin ∈ wsL_law := ml 4 (by decide +kernel) (by decide +kernel)
set_option maxRecDepth 20000 in
theorem gv_RX1_50 : GoodIn wsL_law (wsV RX1 50 RX1 yX1_stop (wsU yX1_stop cX1_stop 3 none)) := gwV mk_RX1_50 im_yX1_stop se_yX1_stop ini_RX1 cd_yX1_stop_cX1_stop
set_option maxRecDepth 20000 in
theorem gv_RX1_46 : GoodIn wsL_law (wsV RX1 46 RX1 yX1_step (wsU yX1_step cX1_step 6 (some .int))) := gwV mk_RX1_46 im_yX1_step se_yX1_step ini_RX1 cd_yX1_step_cX1_step
set_option maxRecDepth 20000 in
theorem gv_RX1_18 : GoodIn wsL_law (wsV RX1 18 RX1 yX1_begin (wsU yX1_begin cX1_begin 2 none)) := gwV mk_RX1_18 im_yX1_begin se_yX1_begin ini_RX1 cd_yX1_begin_cX1_begin
set_option maxRecDepth 20000 in
theorem nl_RX2_7 : Cond.fieldLinkNest RX2 7 RX1 "decided" "J" RX4 ∈ nwL := List.mem_of_getElem? (i := 32) (by decide +kernel)
set_option maxRecDepth 20000 in
theorem fl_RX2_13 : Cond.fieldLink RX2 13 "SymbolBench$Path" "decided" "J" ∈ wsL_law := ml 113 (by decide +kernel) (by decide +kernel)
set_option maxRecDepth 20000 in
theorem nl_RX2_16 : Cond.fieldLinkNest RX2 16 RX1 "ones" "J" RX4 ∈ nwL := List.mem_of_getElem? (i := 34) (by decide +kernel)
set_option maxRecDepth 20000 in
theorem fl_RX2_19 : Cond.fieldLink RX2 19 "SymbolBench$Path" "ones" "J" ∈ wsL_law := ml 115 (by decide +kernel) (by decide +kernel)
set_option maxRecDepth 20000 in
theorem nl_RX2_20 : Cond.fieldLinkNest RX2 20 RX1 "end" "I" RX4 ∈ nwL := List.mem_of_getElem? (i := 37) (by decide +kernel)
set_option maxRecDepth 20000 in
theorem fl_RX2_24 : Cond.fieldLink RX2 24 "SymbolBench$Path" "end" "I" ∈ wsL_law := ml 119 (by decide +kernel) (by decide +kernel)
set_option maxRecDepth 20000 in
theorem nl_RX2_25 : Cond.fieldLinkNest RX2 25 RX1 "place" "I" RX4 ∈ nwL := List.mem_of_getElem? (i := 27) (by decide +kernel)
set_option maxRecDepth 20000 in
theorem fl_RX2_28 : Cond.fieldLink RX2 28 "SymbolBench$Path" "endPlace" "I" ∈ wsL_law := ml 122 (by decide +kernel) (by decide +kernel)
set_option maxRecDepth 20000 in
theorem fl_RX2_31 : Cond.fieldLink RX2 31 "SymbolBench$Path" "leastWord" "I" ∈ wsL_law := ml 125 (by decide +kernel) (by decide +kernel)
set_option maxRecDepth 20000 in
theorem nl_RX2_34 : Cond.fieldLinkNest RX2 34 RX1 "result" "I" RX4 ∈ nwL := List.mem_of_getElem? (i := 40) (by decide +kernel)
set_option maxRecDepth 20000 in
theorem fl_RX2_37 : Cond.fieldLink RX2 37 "SymbolBench$Path" "result" "I" ∈ wsL_law := ml 128 (by decide +kernel) (by decide +kernel)
set_option maxRecDepth 20000 in
theorem fl_RX2_38 : Cond.fieldLink RX2 38 "SymbolBench$Path" "alwaysSameResult" "Z" ∈ wsL_law := ml 131 (by decide +kernel) (by decide +kernel)
set_option maxRecDepth 20000 in
theorem fl_RX0_26 : Cond.fieldLink RX0 26 "SymbolBench$Atlas" "size" "I" ∈ wsL_law := ml 153 (by decide +kernel) (by decide +kernel)
set_option maxRecDepth 20000 in
theorem fl_RX0_30 : Cond.fieldLink RX0 30 "SymbolBench$Atlas" "visited" "J" ∈ wsL_law := ml 155 (by decide +kernel) (by decide +kernel)
set_option maxRecDepth 20000 in
theorem fl_RX0_34 : Cond.fieldLink RX0 34 "SymbolBench$Atlas" "failed" "J" ∈ wsL_law := ml 157 (by decide +kernel) (by decide +kernel)
set_option maxRecDepth 20000 in
theorem cd_yX0_isKnown_cX0_isKnown : Cond.code yX0_isKnown cX0_isKnown 1 (some .boolean) ∈ wsL_law := ml 312 rfl (by decide +kernel)
set_option maxRecDepth 20000 in
theorem mk_RX0_37 : Cond.methodLink RX0 37 yX0_isKnown ∈ wsL_law := ml 403 (by decide +kernel) (by decide +kernel)
set_option maxRecDepth 20000 in
theorem im_yX0_isKnown : Cond.instanceMethod yX0_isKnown ∈ wsL_law := ml 310 (by decide +kernel) (by decide +kernel)
set_option maxRecDepth 20000 in
theorem se_yX0_isKnown : Cond.selects RX0 yX0_isKnown yX0_isKnown ∈ wsL_law := ml 311 (by decide +kernel) (by decide +kernel)
set_option maxRecDepth 20000 in
theorem ini_RX0 : Cond.initialized RX0 ∈ wsL_law := ml 33 (by decide +kernel) (by decide +kernel)
set_option maxRecDepth 20000 in
theorem gv_RX0_37 : GoodIn wsL_law (wsV RX0 37 RX0 yX0_isKnown (wsU yX0_isKnown cX0_isKnown 1 (some .boolean))) := gwV mk_RX0_37 im_yX0_isKnown se_yX0_isKnown ini_RX0 cd_yX0_isKnown_cX0_isKnown
set_option maxRecDepth 20000 in
theorem nl_RX0_106 : Cond.methodLinkNest RX0 106 yX4_isBelowUnsigned RX4 ∈ nwL := List.mem_of_getElem? (i := 54) (by decide +kernel)
set_option maxRecDepth 20000 in
theorem fl_RX0_11 : Cond.fieldLink RX0 11 "SymbolBench$Atlas" "paths" "[LSymbolBench$Path;" ∈ wsL_law := ml 150 (by decide +kernel) (by decide +kernel)
set_option maxRecDepth 20000 in
theorem nl_RX0_67 : Cond.fieldLinkNest RX0 67 RX2 "ones" "J" RX4 ∈ nwL := List.mem_of_getElem? (i := 10) (by decide +kernel)
set_option maxRecDepth 20000 in
theorem cd_yX0_firstNotAheadOf_cX0_firstNotAheadOf : Cond.code yX0_firstNotAheadOf cX0_firstNotAheadOf 4 (some .int) ∈ wsL_law := ml 389 rfl (by decide +kernel)
set_option maxRecDepth 20000 in
theorem mk_RX0_63 : Cond.methodLink RX0 63 yX0_firstNotAheadOf ∈ wsL_law := ml 386 (by decide +kernel) (by decide +kernel)
set_option maxRecDepth 20000 in
theorem im_yX0_firstNotAheadOf : Cond.instanceMethod yX0_firstNotAheadOf ∈ wsL_law := ml 388 (by decide +kernel) (by decide +kernel)
set_option maxRecDepth 20000 in
theorem se_yX0_firstNotAheadOf : Cond.selects RX0 yX0_firstNotAheadOf yX0_firstNotAheadOf ∈ wsL_law := ml 13 (by decide +kernel) (by decide +kernel)
set_option maxRecDepth 20000 in
theorem fl_RX0_17 : Cond.fieldLink RX0 17 "SymbolBench$Atlas" "onesOfWord" "[J" ∈ wsL_law := ml 151 (by decide +kernel) (by decide +kernel)
set_option maxRecDepth 20000 in
theorem nl_RX0_95 : Cond.fieldLinkNest RX0 95 RX2 "leastWord" "I" RX4 ∈ nwL := List.mem_of_getElem? (i := 17) (by decide +kernel)
set_option maxRecDepth 20000 in
theorem fl_RX0_21 : Cond.fieldLink RX0 21 "SymbolBench$Atlas" "resultOfWord" "[I" ∈ wsL_law := ml 152 (by decide +kernel) (by decide +kernel)
set_option maxRecDepth 20000 in
theorem cd_yX0_goes_cX0_goes : Cond.code yX0_goes cX0_goes 3 (some .boolean) ∈ wsL_law := ml 441 rfl (by decide +kernel)
set_option maxRecDepth 20000 in
theorem mk_RX0_98 : Cond.methodLink RX0 98 yX0_goes ∈ wsL_law := ml 456 (by decide +kernel) (by decide +kernel)
set_option maxRecDepth 20000 in
theorem im_yX0_goes : Cond.instanceMethod yX0_goes ∈ wsL_law := ml 439 (by decide +kernel) (by decide +kernel)
set_option maxRecDepth 20000 in
theorem se_yX0_goes : Cond.selects RX0 yX0_goes yX0_goes ∈ wsL_law := ml 440 (by decide +kernel) (by decide +kernel)
set_option maxRecDepth 20000 in
theorem gv_RX0_98 : GoodIn wsL_law (wsV RX0 98 RX0 yX0_goes (wsU yX0_goes cX0_goes 3 (some .boolean))) := gwV mk_RX0_98 im_yX0_goes se_yX0_goes ini_RX0 cd_yX0_goes_cX0_goes
set_option maxRecDepth 20000 in
theorem cd_yX0_isWanted_cX0_isWanted : Cond.code yX0_isWanted cX0_isWanted 3 (some .boolean) ∈ wsL_law := ml 459 rfl (by decide +kernel)
set_option maxRecDepth 20000 in
theorem mk_RX0_102 : Cond.methodLink RX0 102 yX0_isWanted ∈ wsL_law := ml 457 (by decide +kernel) (by decide +kernel)
set_option maxRecDepth 20000 in
theorem sc_yX0_isWanted : Cond.static yX0_isWanted ∈ wsL_law := ml 458 (by decide +kernel) (by decide +kernel)
set_option maxRecDepth 20000 in
theorem gs_RX0_102 : GoodIn wsL_law (wsS RX0 102 yX0_isWanted (wsU yX0_isWanted cX0_isWanted 3 (some .boolean))) := gwS mk_RX0_102 sc_yX0_isWanted ini_RX0 cd_yX0_isWanted_cX0_isWanted
set_option maxRecDepth 20000 in
theorem nl_RX0_114 : Cond.fieldLinkNest RX0 114 RX2 "end" "I" RX4 ∈ nwL := List.mem_of_getElem? (i := 13) (by decide +kernel)
set_option maxRecDepth 20000 in
theorem nl_RX0_115 : Cond.fieldLinkNest RX0 115 RX2 "endPlace" "I" RX4 ∈ nwL := List.mem_of_getElem? (i := 15) (by decide +kernel)
set_option maxRecDepth 20000 in
theorem cd_yX4_placeOfMark_cX4_placeOfMark : Cond.code yX4_placeOfMark cX4_placeOfMark 5 (some .int) ∈ wsL_law := ml 424 rfl (by decide +kernel)
set_option maxRecDepth 20000 in
theorem nl_RX0_110 : Cond.methodLinkNest RX0 110 yX4_placeOfMark RX4 ∈ nwL := List.mem_of_getElem? (i := 55) (by decide +kernel)
set_option maxRecDepth 20000 in
theorem sc_yX4_placeOfMark : Cond.static yX4_placeOfMark ∈ wsL_law := ml 423 (by decide +kernel) (by decide +kernel)
set_option maxRecDepth 20000 in
theorem nl_RX0_60 : Cond.fieldLinkNest RX0 60 RX1 "ones" "J" RX4 ∈ nwL := List.mem_of_getElem? (i := 35) (by decide +kernel)
set_option maxRecDepth 20000 in
theorem nl_RX0_68 : Cond.fieldLinkNest RX0 68 RX2 "alwaysSameResult" "Z" RX4 ∈ nwL := List.mem_of_getElem? (i := 21) (by decide +kernel)
set_option maxRecDepth 20000 in
theorem nl_RX0_72 : Cond.fieldLinkNest RX0 72 RX2 "result" "I" RX4 ∈ nwL := List.mem_of_getElem? (i := 19) (by decide +kernel)
set_option maxRecDepth 20000 in
theorem nl_RX0_75 : Cond.fieldLinkNest RX0 75 RX1 "result" "I" RX4 ∈ nwL := List.mem_of_getElem? (i := 41) (by decide +kernel)
set_option maxRecDepth 20000 in
theorem nl_RX0_84 : Cond.fieldLinkNest RX0 84 RX1 "visited" "J" RX4 ∈ nwL := List.mem_of_getElem? (i := 30) (by decide +kernel)
set_option maxRecDepth 20000 in
theorem nl_RX0_85 : Cond.fieldLinkNest RX0 85 RX1 "end" "I" RX4 ∈ nwL := List.mem_of_getElem? (i := 38) (by decide +kernel)
set_option maxRecDepth 20000 in
theorem nl_RX0_88 : Cond.fieldLinkNest RX0 88 RX1 "place" "I" RX4 ∈ nwL := List.mem_of_getElem? (i := 28) (by decide +kernel)
set_option maxRecDepth 20000 in
theorem cd_yX0_insertAt_cX0_insertAt : Cond.code yX0_insertAt cX0_insertAt 4 (some (.object "SymbolBench$Path")) ∈ wsL_law := ml 393 rfl (by decide +kernel)
set_option maxRecDepth 20000 in
theorem mk_RX0_76 : Cond.methodLink RX0 76 yX0_insertAt ∈ wsL_law := ml 390 (by decide +kernel) (by decide +kernel)
set_option maxRecDepth 20000 in
theorem im_yX0_insertAt : Cond.instanceMethod yX0_insertAt ∈ wsL_law := ml 392 (by decide +kernel) (by decide +kernel)
set_option maxRecDepth 20000 in
theorem se_yX0_insertAt : Cond.selects RX0 yX0_insertAt yX0_insertAt ∈ wsL_law := ml 14 (by decide +kernel) (by decide +kernel)
set_option maxRecDepth 20000 in
theorem gv_RX0_76 : GoodIn wsL_law (wsV RX0 76 RX0 yX0_insertAt (wsU yX0_insertAt cX0_insertAt 4 (some (.object "SymbolBench$Path")))) := gwV mk_RX0_76 im_yX0_insertAt se_yX0_insertAt ini_RX0 cd_yX0_insertAt_cX0_insertAt
set_option maxRecDepth 20000 in
theorem cd_yX2_take_cX2_take : Cond.code yX2_take cX2_take 3 none ∈ wsL_law := ml 397 rfl (by decide +kernel)
set_option maxRecDepth 20000 in
theorem mk_RX0_80 : Cond.methodLink RX0 80 yX2_take ∈ wsL_law := ml 394 (by decide +kernel) (by decide +kernel)
set_option maxRecDepth 20000 in
theorem im_yX2_take : Cond.instanceMethod yX2_take ∈ wsL_law := ml 395 (by decide +kernel) (by decide +kernel)
set_option maxRecDepth 20000 in
theorem se_yX2_take : Cond.selects RX2 yX2_take yX2_take ∈ wsL_law := ml 396 (by decide +kernel) (by decide +kernel)
set_option maxRecDepth 20000 in
theorem ini_RX2 : Cond.initialized RX2 ∈ wsL_law := ml 34 (by decide +kernel) (by decide +kernel)
set_option maxRecDepth 20000 in
theorem gv_RX0_80 : GoodIn wsL_law (wsV RX0 80 RX2 yX2_take (wsU yX2_take cX2_take 3 none)) := gwV mk_RX0_80 im_yX2_take se_yX2_take ini_RX2 cd_yX2_take_cX2_take
set_option maxRecDepth 20000 in
theorem nl_RX0_91 : Cond.methodLinkNest RX0 91 yX4_mark RX4 ∈ nwL := List.mem_of_getElem? (i := 53) (by decide +kernel)
set_option maxRecDepth 20000 in
theorem gv_RX0_63 : GoodIn wsL_law (wsV RX0 63 RX0 yX0_firstNotAheadOf (wsU yX0_firstNotAheadOf cX0_firstNotAheadOf 4 (some .int))) := gwV mk_RX0_63 im_yX0_firstNotAheadOf se_yX0_firstNotAheadOf ini_RX0 cd_yX0_firstNotAheadOf_cX0_firstNotAheadOf
set_option maxRecDepth 20000 in
theorem cd_yX0_forget_cX0_forget : Cond.code yX0_forget cX0_forget 1 none ∈ wsL_law := ml 267 rfl (by decide +kernel)
set_option maxRecDepth 20000 in
theorem mk_RX0_41 : Cond.methodLink RX0 41 yX0_forget ∈ wsL_law := ml 317 (by decide +kernel) (by decide +kernel)
set_option maxRecDepth 20000 in
theorem im_yX0_forget : Cond.instanceMethod yX0_forget ∈ wsL_law := ml 265 (by decide +kernel) (by decide +kernel)
set_option maxRecDepth 20000 in
theorem se_yX0_forget : Cond.selects RX0 yX0_forget yX0_forget ∈ wsL_law := ml 266 (by decide +kernel) (by decide +kernel)
set_option maxRecDepth 20000 in
theorem cd_yX1_execute_cX1_execute : Cond.code yX1_execute cX1_execute 6 none ∈ wsL_law := ml 325 rfl (by decide +kernel)
set_option maxRecDepth 20000 in
theorem mk_RX0_50 : Cond.methodLink RX0 50 yX1_execute ∈ wsL_law := ml 322 (by decide +kernel) (by decide +kernel)
set_option maxRecDepth 20000 in
theorem im_yX1_execute : Cond.instanceMethod yX1_execute ∈ wsL_law := ml 323 (by decide +kernel) (by decide +kernel)
set_option maxRecDepth 20000 in
theorem se_yX1_execute : Cond.selects RX1 yX1_execute yX1_execute ∈ wsL_law := ml 324 (by decide +kernel) (by decide +kernel)
set_option maxRecDepth 20000 in
theorem gv_RX0_50 : GoodIn wsL_law (wsV RX0 50 RX1 yX1_execute (wsU yX1_execute cX1_execute 6 none)) := gwV mk_RX0_50 im_yX1_execute se_yX1_execute ini_RX1 cd_yX1_execute_cX1_execute
set_option maxRecDepth 20000 in
theorem cd_yX0_enter_cX0_enter : Cond.code yX0_enter cX0_enter 4 (some .boolean) ∈ wsL_law := ml 385 rfl (by decide +kernel)
set_option maxRecDepth 20000 in
theorem mk_RX0_56 : Cond.methodLink RX0 56 yX0_enter ∈ wsL_law := ml 382 (by decide +kernel) (by decide +kernel)
set_option maxRecDepth 20000 in
theorem im_yX0_enter : Cond.instanceMethod yX0_enter ∈ wsL_law := ml 384 (by decide +kernel) (by decide +kernel)
set_option maxRecDepth 20000 in
theorem se_yX0_enter : Cond.selects RX0 yX0_enter yX0_enter ∈ wsL_law := ml 12 (by decide +kernel) (by decide +kernel)
set_option maxRecDepth 20000 in
theorem gv_RX0_56 : GoodIn wsL_law (wsV RX0 56 RX0 yX0_enter (wsU yX0_enter cX0_enter 4 (some .boolean))) := gwV mk_RX0_56 im_yX0_enter se_yX0_enter ini_RX0 cd_yX0_enter_cX0_enter
set_option maxRecDepth 20000 in
theorem gv_RX0_41 : GoodIn wsL_law (wsV RX0 41 RX0 yX0_forget (wsU yX0_forget cX0_forget 1 none)) := gwV mk_RX0_41 im_yX0_forget se_yX0_forget ini_RX0 cd_yX0_forget_cX0_forget
set_option maxRecDepth 20000 in
theorem mk_RX0_44 : Cond.methodLink RX0 44 yX3_words ∈ wsL_law := ml 318 (by decide +kernel) (by decide +kernel)
set_option maxRecDepth 20000 in
theorem gv_RX0_44 : GoodIn wsL_law (wsV RX0 44 RX3 yX3_words (wsU yX3_words cX3_words 1 (some .int))) := gwV mk_RX0_44 im_yX3_words se_yX3_words ini_RX3 cd_yX3_words_cX3_words
set_option maxRecDepth 20000 in
theorem fl_RX4_19 : Cond.fieldLink RX4 19 "SymbolBench" "atlas" "LSymbolBench$Atlas;" ∈ wsL_law := ml 234 (by decide +kernel) (by decide +kernel)
set_option maxRecDepth 20000 in
theorem fl_RX4_131 : Cond.fieldLink RX4 131 "SymbolBench" "changedSinceRun" "Z" ∈ wsL_law := ml 238 (by decide +kernel) (by decide +kernel)
set_option maxRecDepth 20000 in
theorem mk_RX4_172 : Cond.methodLink RX4 172 yX0_forget ∈ wsL_law := ml 264 (by decide +kernel) (by decide +kernel)
set_option maxRecDepth 20000 in
theorem gv_RX4_172 : GoodIn wsL_law (wsV RX4 172 RX0 yX0_forget (wsU yX0_forget cX0_forget 1 none)) := gwV mk_RX4_172 im_yX0_forget se_yX0_forget ini_RX0 cd_yX0_forget_cX0_forget
set_option maxRecDepth 20000 in
theorem fl_RX4_12 : Cond.fieldLink RX4 12 "SymbolBench" "program" "LSymbolBench$Program;" ∈ wsL_law := ml 233 (by decide +kernel) (by decide +kernel)
set_option maxRecDepth 20000 in
theorem cd_yX3_addInput_cX3_addInput : Cond.code yX3_addInput cX3_addInput 3 (some .int) ∈ wsL_law := ml 259 rfl (by decide +kernel)
set_option maxRecDepth 20000 in
theorem mk_RX4_33 : Cond.methodLink RX4 33 yX3_addInput ∈ wsL_law := ml 256 (by decide +kernel) (by decide +kernel)
set_option maxRecDepth 20000 in
theorem im_yX3_addInput : Cond.instanceMethod yX3_addInput ∈ wsL_law := ml 257 (by decide +kernel) (by decide +kernel)
set_option maxRecDepth 20000 in
theorem se_yX3_addInput : Cond.selects RX3 yX3_addInput yX3_addInput ∈ wsL_law := ml 258 (by decide +kernel) (by decide +kernel)
set_option maxRecDepth 20000 in
theorem gv_RX4_33 : GoodIn wsL_law (wsV RX4 33 RX3 yX3_addInput (wsU yX3_addInput cX3_addInput 3 (some .int))) := gwV mk_RX4_33 im_yX3_addInput se_yX3_addInput ini_RX3 cd_yX3_addInput_cX3_addInput
set_option maxRecDepth 20000 in
theorem cd_yX4_forgetFindings_cX4_forgetFindings : Cond.code yX4_forgetFindings cX4_forgetFindings 1 none ∈ wsL_law := ml 263 rfl (by decide +kernel)
set_option maxRecDepth 20000 in
theorem mk_RX4_37 : Cond.methodLink RX4 37 yX4_forgetFindings ∈ wsL_law := ml 260 (by decide +kernel) (by decide +kernel)
set_option maxRecDepth 20000 in
theorem im_yX4_forgetFindings : Cond.instanceMethod yX4_forgetFindings ∈ wsL_law := ml 262 (by decide +kernel) (by decide +kernel)
set_option maxRecDepth 20000 in
theorem se_yX4_forgetFindings : Cond.selects RX4 yX4_forgetFindings yX4_forgetFindings ∈ wsL_law := ml 0 (by decide +kernel) (by decide +kernel)
set_option maxRecDepth 20000 in
theorem cd_yX3_addInstruction_cX3_addInstruction : Cond.code yX3_addInstruction cX3_addInstruction 5 (some .int) ∈ wsL_law := ml 275 rfl (by decide +kernel)
set_option maxRecDepth 20000 in
theorem mk_RX4_40 : Cond.methodLink RX4 40 yX3_addInstruction ∈ wsL_law := ml 272 (by decide +kernel) (by decide +kernel)
set_option maxRecDepth 20000 in
theorem im_yX3_addInstruction : Cond.instanceMethod yX3_addInstruction ∈ wsL_law := ml 273 (by decide +kernel) (by decide +kernel)
set_option maxRecDepth 20000 in
theorem se_yX3_addInstruction : Cond.selects RX3 yX3_addInstruction yX3_addInstruction ∈ wsL_law := ml 274 (by decide +kernel) (by decide +kernel)
set_option maxRecDepth 20000 in
theorem gv_RX4_40 : GoodIn wsL_law (wsV RX4 40 RX3 yX3_addInstruction (wsU yX3_addInstruction cX3_addInstruction 5 (some .int))) := gwV mk_RX4_40 im_yX3_addInstruction se_yX3_addInstruction ini_RX3 cd_yX3_addInstruction_cX3_addInstruction
set_option maxRecDepth 20000 in
theorem nl_RX4_44 : Cond.fieldLinkNest RX4 44 RX3 "size" "I" RX4 ∈ nwL := List.mem_of_getElem? (i := 7) (by decide +kernel)
set_option maxRecDepth 20000 in
theorem fl_RX4_51 : Cond.fieldLink RX4 51 "SymbolBench" "hasRun" "Z" ∈ wsL_law := ml 237 (by decide +kernel) (by decide +kernel)
set_option maxRecDepth 20000 in
theorem cd_yX3_empty_cX3_empty : Cond.code yX3_empty cX3_empty 1 none ∈ wsL_law := ml 304 rfl (by decide +kernel)
set_option maxRecDepth 20000 in
theorem mk_RX4_48 : Cond.methodLink RX4 48 yX3_empty ∈ wsL_law := ml 301 (by decide +kernel) (by decide +kernel)
set_option maxRecDepth 20000 in
theorem im_yX3_empty : Cond.instanceMethod yX3_empty ∈ wsL_law := ml 302 (by decide +kernel) (by decide +kernel)
set_option maxRecDepth 20000 in
theorem se_yX3_empty : Cond.selects RX3 yX3_empty yX3_empty ∈ wsL_law := ml 303 (by decide +kernel) (by decide +kernel)
set_option maxRecDepth 20000 in
theorem gv_RX4_48 : GoodIn wsL_law (wsV RX4 48 RX3 yX3_empty (wsU yX3_empty cX3_empty 1 none)) := gwV mk_RX4_48 im_yX3_empty se_yX3_empty ini_RX3 cd_yX3_empty_cX3_empty
set_option maxRecDepth 20000 in
theorem gv_RX4_37 : GoodIn wsL_law (wsV RX4 37 RX4 yX4_forgetFindings (wsU yX4_forgetFindings cX4_forgetFindings 1 none)) := gwV mk_RX4_37 im_yX4_forgetFindings se_yX4_forgetFindings ini_RX4 cd_yX4_forgetFindings_cX4_forgetFindings
set_option maxRecDepth 20000 in
theorem fl_RX4_26 : Cond.fieldLink RX4 26 "SymbolBench" "prober" "LSymbolBench$Machine;" ∈ wsL_law := ml 235 (by decide +kernel) (by decide +kernel)
set_option maxRecDepth 20000 in
theorem nl_RX4_63 : Cond.fieldLinkNest RX4 63 RX0 "size" "I" RX4 ∈ nwL := List.mem_of_getElem? (i := 22) (by decide +kernel)
set_option maxRecDepth 20000 in
theorem cd_yX0_knownOrNone_cX0_knownOrNone : Cond.code yX0_knownOrNone cX0_knownOrNone 2 (some .int) ∈ wsL_law := ml 402 rfl (by decide +kernel)
set_option maxRecDepth 20000 in
theorem mk_RX4_64 : Cond.methodLink RX4 64 yX0_knownOrNone ∈ wsL_law := ml 399 (by decide +kernel) (by decide +kernel)
set_option maxRecDepth 20000 in
theorem im_yX0_knownOrNone : Cond.instanceMethod yX0_knownOrNone ∈ wsL_law := ml 400 (by decide +kernel) (by decide +kernel)
set_option maxRecDepth 20000 in
theorem se_yX0_knownOrNone : Cond.selects RX0 yX0_knownOrNone yX0_knownOrNone ∈ wsL_law := ml 401 (by decide +kernel) (by decide +kernel)
set_option maxRecDepth 20000 in
theorem mk_RX4_55 : Cond.methodLink RX4 55 yX0_isKnown ∈ wsL_law := ml 309 (by decide +kernel) (by decide +kernel)
set_option maxRecDepth 20000 in
theorem cd_yX0_survey_cX0_survey : Cond.code yX0_survey cX0_survey 5 none ∈ wsL_law := ml 316 rfl (by decide +kernel)
set_option maxRecDepth 20000 in
theorem mk_RX4_59 : Cond.methodLink RX4 59 yX0_survey ∈ wsL_law := ml 313 (by decide +kernel) (by decide +kernel)
set_option maxRecDepth 20000 in
theorem im_yX0_survey : Cond.instanceMethod yX0_survey ∈ wsL_law := ml 314 (by decide +kernel) (by decide +kernel)
set_option maxRecDepth 20000 in
theorem se_yX0_survey : Cond.selects RX0 yX0_survey yX0_survey ∈ wsL_law := ml 315 (by decide +kernel) (by decide +kernel)
set_option maxRecDepth 20000 in
theorem gv_RX4_59 : GoodIn wsL_law (wsV RX4 59 RX0 yX0_survey (wsU yX0_survey cX0_survey 5 none)) := gwV mk_RX4_59 im_yX0_survey se_yX0_survey ini_RX0 cd_yX0_survey_cX0_survey
set_option maxRecDepth 20000 in
theorem nl_RX4_72 : Cond.fieldLinkNest RX4 72 RX2 "end" "I" RX4 ∈ nwL := List.mem_of_getElem? (i := 12) (by decide +kernel)
set_option maxRecDepth 20000 in
theorem nl_RX4_77 : Cond.fieldLinkNest RX4 77 RX2 "endPlace" "I" RX4 ∈ nwL := List.mem_of_getElem? (i := 14) (by decide +kernel)
set_option maxRecDepth 20000 in
theorem nl_RX4_80 : Cond.fieldLinkNest RX4 80 RX2 "decided" "J" RX4 ∈ nwL := List.mem_of_getElem? (i := 8) (by decide +kernel)
set_option maxRecDepth 20000 in
theorem nl_RX4_90 : Cond.fieldLinkNest RX4 90 RX2 "leastWord" "I" RX4 ∈ nwL := List.mem_of_getElem? (i := 16) (by decide +kernel)
set_option maxRecDepth 20000 in
theorem nl_RX4_93 : Cond.fieldLinkNest RX4 93 RX2 "result" "I" RX4 ∈ nwL := List.mem_of_getElem? (i := 18) (by decide +kernel)
set_option maxRecDepth 20000 in
theorem nl_RX4_96 : Cond.fieldLinkNest RX4 96 RX2 "alwaysSameResult" "Z" RX4 ∈ nwL := List.mem_of_getElem? (i := 20) (by decide +kernel)
set_option maxRecDepth 20000 in
theorem cd_yX0_pathAt_cX0_pathAt : Cond.code yX0_pathAt cX0_pathAt 2 (some (.object "SymbolBench$Path")) ∈ wsL_law := ml 411 rfl (by decide +kernel)
set_option maxRecDepth 20000 in
theorem mk_RX4_68 : Cond.methodLink RX4 68 yX0_pathAt ∈ wsL_law := ml 408 (by decide +kernel) (by decide +kernel)
set_option maxRecDepth 20000 in
theorem im_yX0_pathAt : Cond.instanceMethod yX0_pathAt ∈ wsL_law := ml 409 (by decide +kernel) (by decide +kernel)
set_option maxRecDepth 20000 in
theorem se_yX0_pathAt : Cond.selects RX0 yX0_pathAt yX0_pathAt ∈ wsL_law := ml 410 (by decide +kernel) (by decide +kernel)
set_option maxRecDepth 20000 in
theorem cd_yJ13_bitCount_95d88_cJ13_bitCount_95d88 : Cond.code yJ13_bitCount_95d88 cJ13_bitCount_95d88 2 (some .int) ∈ wsL_law := ml 414 rfl (by decide +kernel)
set_option maxRecDepth 20000 in
theorem mk_RX4_84 : Cond.methodLink RX4 84 yJ13_bitCount_95d88 ∈ wsL_law := ml 412 (by decide +kernel) (by decide +kernel)
set_option maxRecDepth 20000 in
theorem sc_yJ13_bitCount_95d88 : Cond.static yJ13_bitCount_95d88 ∈ wsL_law := ml 413 (by decide +kernel) (by decide +kernel)
set_option maxRecDepth 20000 in
theorem ini_RJ13 : Cond.initialized RJ13 ∈ wsL_law := ml 38 (by decide +kernel) (by decide +kernel)
set_option maxRecDepth 20000 in
theorem nl_RX4_103 : Cond.fieldLinkNest RX4 103 RX2 "ones" "J" RX4 ∈ nwL := List.mem_of_getElem? (i := 11) (by decide +kernel)
set_option maxRecDepth 20000 in
theorem mk_RX4_99 : Cond.methodLink RX4 99 yX4_placeOfMark ∈ wsL_law := ml 422 (by decide +kernel) (by decide +kernel)
set_option maxRecDepth 20000 in
theorem gs_RX4_99 : GoodIn wsL_law (wsS RX4 99 yX4_placeOfMark (wsU yX4_placeOfMark cX4_placeOfMark 5 (some .int))) := gwS mk_RX4_99 sc_yX4_placeOfMark ini_RX4 cd_yX4_placeOfMark_cX4_placeOfMark
set_option maxRecDepth 20000 in
theorem cd_yX3_hasWord_cX3_hasWord : Cond.code yX3_hasWord cX3_hasWord 2 (some .boolean) ∈ wsL_law := ml 436 rfl (by decide +kernel)
set_option maxRecDepth 20000 in
theorem mk_RX4_110 : Cond.methodLink RX4 110 yX3_hasWord ∈ wsL_law := ml 433 (by decide +kernel) (by decide +kernel)
set_option maxRecDepth 20000 in
theorem im_yX3_hasWord : Cond.instanceMethod yX3_hasWord ∈ wsL_law := ml 434 (by decide +kernel) (by decide +kernel)
set_option maxRecDepth 20000 in
theorem se_yX3_hasWord : Cond.selects RX3 yX3_hasWord yX3_hasWord ∈ wsL_law := ml 435 (by decide +kernel) (by decide +kernel)
set_option maxRecDepth 20000 in
theorem mk_RX4_114 : Cond.methodLink RX4 114 yX0_goes ∈ wsL_law := ml 438 (by decide +kernel) (by decide +kernel)
set_option maxRecDepth 20000 in
theorem gv_RX4_114 : GoodIn wsL_law (wsV RX4 114 RX0 yX0_goes (wsU yX0_goes cX0_goes 3 (some .boolean))) := gwV mk_RX4_114 im_yX0_goes se_yX0_goes ini_RX0 cd_yX0_goes_cX0_goes
set_option maxRecDepth 20000 in
theorem nl_RX4_122 : Cond.fieldLinkNest RX4 122 RX1 "result" "I" RX4 ∈ nwL := List.mem_of_getElem? (i := 42) (by decide +kernel)
set_option maxRecDepth 20000 in
theorem mk_RX4_118 : Cond.methodLink RX4 118 yX1_execute ∈ wsL_law := ml 446 (by decide +kernel) (by decide +kernel)
set_option maxRecDepth 20000 in
theorem gv_RX4_68 : GoodIn wsL_law (wsV RX4 68 RX0 yX0_pathAt (wsU yX0_pathAt cX0_pathAt 2 (some (.object "SymbolBench$Path")))) := gwV mk_RX4_68 im_yX0_pathAt se_yX0_pathAt ini_RX0 cd_yX0_pathAt_cX0_pathAt
set_option maxRecDepth 20000 in
theorem mk_RX4_123 : Cond.methodLink RX4 123 yX3_words ∈ wsL_law := ml 451 (by decide +kernel) (by decide +kernel)
set_option maxRecDepth 20000 in
theorem gv_RX4_123 : GoodIn wsL_law (wsV RX4 123 RX3 yX3_words (wsU yX3_words cX3_words 1 (some .int))) := gwV mk_RX4_123 im_yX3_words se_yX3_words ini_RX3 cd_yX3_words_cX3_words
set_option maxRecDepth 20000 in
theorem cd_yX0_leastWordWith_cX0_leastWordWith : Cond.code yX0_leastWordWith cX0_leastWordWith 6 (some .int) ∈ wsL_law := ml 455 rfl (by decide +kernel)
set_option maxRecDepth 20000 in
theorem mk_RX4_127 : Cond.methodLink RX4 127 yX0_leastWordWith ∈ wsL_law := ml 452 (by decide +kernel) (by decide +kernel)
set_option maxRecDepth 20000 in
theorem im_yX0_leastWordWith : Cond.instanceMethod yX0_leastWordWith ∈ wsL_law := ml 453 (by decide +kernel) (by decide +kernel)
set_option maxRecDepth 20000 in
theorem se_yX0_leastWordWith : Cond.selects RX0 yX0_leastWordWith yX0_leastWordWith ∈ wsL_law := ml 454 (by decide +kernel) (by decide +kernel)
set_option maxRecDepth 20000 in
theorem gv_RX4_127 : GoodIn wsL_law (wsV RX4 127 RX0 yX0_leastWordWith (wsU yX0_leastWordWith cX0_leastWordWith 6 (some .int))) := gwV mk_RX4_127 im_yX0_leastWordWith se_yX0_leastWordWith ini_RX0 cd_yX0_leastWordWith_cX0_leastWordWith
set_option maxRecDepth 20000 in
theorem fl_RX4_30 : Cond.fieldLink RX4 30 "SymbolBench" "runner" "LSymbolBench$Machine;" ∈ wsL_law := ml 236 (by decide +kernel) (by decide +kernel)
set_option maxRecDepth 20000 in
theorem nl_RX4_134 : Cond.fieldLinkNest RX4 134 RX1 "end" "I" RX4 ∈ nwL := List.mem_of_getElem? (i := 39) (by decide +kernel)
set_option maxRecDepth 20000 in
theorem gv_RX4_110 : GoodIn wsL_law (wsV RX4 110 RX3 yX3_hasWord (wsU yX3_hasWord cX3_hasWord 2 (some .boolean))) := gwV mk_RX4_110 im_yX3_hasWord se_yX3_hasWord ini_RX3 cd_yX3_hasWord_cX3_hasWord
set_option maxRecDepth 20000 in
theorem gv_RX4_118 : GoodIn wsL_law (wsV RX4 118 RX1 yX1_execute (wsU yX1_execute cX1_execute 6 none)) := gwV mk_RX4_118 im_yX1_execute se_yX1_execute ini_RX1 cd_yX1_execute_cX1_execute
set_option maxRecDepth 20000 in
theorem nl_RX4_135 : Cond.fieldLinkNest RX4 135 RX1 "place" "I" RX4 ∈ nwL := List.mem_of_getElem? (i := 29) (by decide +kernel)
set_option maxRecDepth 20000 in
theorem nl_RX4_138 : Cond.fieldLinkNest RX4 138 RX1 "visited" "J" RX4 ∈ nwL := List.mem_of_getElem? (i := 31) (by decide +kernel)
set_option maxRecDepth 20000 in
theorem nl_RX4_141 : Cond.fieldLinkNest RX4 141 RX1 "decided" "J" RX4 ∈ nwL := List.mem_of_getElem? (i := 33) (by decide +kernel)
set_option maxRecDepth 20000 in
theorem nl_RX4_142 : Cond.fieldLinkNest RX4 142 RX1 "ones" "J" RX4 ∈ nwL := List.mem_of_getElem? (i := 36) (by decide +kernel)
set_option maxRecDepth 20000 in
theorem cd_yX0_numberOf_cX0_numberOf : Cond.code yX0_numberOf cX0_numberOf 4 (some .int) ∈ wsL_law := ml 472 rfl (by decide +kernel)
set_option maxRecDepth 20000 in
theorem mk_RX4_143 : Cond.methodLink RX4 143 yX0_numberOf ∈ wsL_law := ml 469 (by decide +kernel) (by decide +kernel)
set_option maxRecDepth 20000 in
theorem im_yX0_numberOf : Cond.instanceMethod yX0_numberOf ∈ wsL_law := ml 470 (by decide +kernel) (by decide +kernel)
set_option maxRecDepth 20000 in
theorem se_yX0_numberOf : Cond.selects RX0 yX0_numberOf yX0_numberOf ∈ wsL_law := ml 471 (by decide +kernel) (by decide +kernel)
set_option maxRecDepth 20000 in
theorem gv_RX4_143 : GoodIn wsL_law (wsV RX4 143 RX0 yX0_numberOf (wsU yX0_numberOf cX0_numberOf 4 (some .int))) := gwV mk_RX4_143 im_yX0_numberOf se_yX0_numberOf ini_RX0 cd_yX0_numberOf_cX0_numberOf
set_option maxRecDepth 20000 in
theorem nl_RX4_149 : Cond.fieldLinkNest RX4 149 RX1 "registers" "[I" RX4 ∈ nwL := List.mem_of_getElem? (i := 25) (by decide +kernel)
set_option maxRecDepth 20000 in
theorem mk_RX4_146 : Cond.methodLink RX4 146 yX4_isRegister ∈ wsL_law := ml 477 (by decide +kernel) (by decide +kernel)
set_option maxRecDepth 20000 in
theorem gs_RX4_146 : GoodIn wsL_law (wsS RX4 146 yX4_isRegister (wsU yX4_isRegister cX4_isRegister 1 (some .boolean))) := gwS mk_RX4_146 sc_yX4_isRegister ini_RX4 cd_yX4_isRegister_cX4_isRegister
set_option maxRecDepth 20000 in
theorem nl_RX4_156 : Cond.fieldLinkNest RX4 156 RX1 "cells" "[I" RX4 ∈ nwL := List.mem_of_getElem? (i := 26) (by decide +kernel)
set_option maxRecDepth 20000 in
theorem mk_RX4_153 : Cond.methodLink RX4 153 yX4_isCell ∈ wsL_law := ml 482 (by decide +kernel) (by decide +kernel)
set_option maxRecDepth 20000 in
theorem gs_RX4_153 : GoodIn wsL_law (wsS RX4 153 yX4_isCell (wsU yX4_isCell cX4_isCell 1 (some .boolean))) := gwS mk_RX4_153 sc_yX4_isCell ini_RX4 cd_yX4_isCell_cX4_isCell
set_option maxRecDepth 20000 in
theorem cd_yX0_firstFailing_cX0_firstFailing : Cond.code yX0_firstFailing cX0_firstFailing 7 (some (.object "SymbolBench$Path")) ∈ wsL_law := ml 490 rfl (by decide +kernel)
set_option maxRecDepth 20000 in
theorem mk_RX4_159 : Cond.methodLink RX4 159 yX0_firstFailing ∈ wsL_law := ml 487 (by decide +kernel) (by decide +kernel)
set_option maxRecDepth 20000 in
theorem im_yX0_firstFailing : Cond.instanceMethod yX0_firstFailing ∈ wsL_law := ml 488 (by decide +kernel) (by decide +kernel)
set_option maxRecDepth 20000 in
theorem se_yX0_firstFailing : Cond.selects RX0 yX0_firstFailing yX0_firstFailing ∈ wsL_law := ml 489 (by decide +kernel) (by decide +kernel)
set_option maxRecDepth 20000 in
theorem gv_RX4_159 : GoodIn wsL_law (wsV RX4 159 RX0 yX0_firstFailing (wsU yX0_firstFailing cX0_firstFailing 7 (some (.object "SymbolBench$Path")))) := gwV mk_RX4_159 im_yX0_firstFailing se_yX0_firstFailing ini_RX0 cd_yX0_firstFailing_cX0_firstFailing
set_option maxRecDepth 20000 in
theorem nl_RX4_162 : Cond.fieldLinkNest RX4 162 RX0 "visited" "J" RX4 ∈ nwL := List.mem_of_getElem? (i := 23) (by decide +kernel)
set_option maxRecDepth 20000 in
theorem gv_RX4_55 : GoodIn wsL_law (wsV RX4 55 RX0 yX0_isKnown (wsU yX0_isKnown cX0_isKnown 1 (some .boolean))) := gwV mk_RX4_55 im_yX0_isKnown se_yX0_isKnown ini_RX0 cd_yX0_isKnown_cX0_isKnown
set_option maxRecDepth 20000 in
theorem gs_RX4_106 : GoodIn wsL_law (wsS RX4 106 yX4_isMarked (wsU yX4_isMarked cX4_isMarked 3 (some .boolean))) := gwS mk_RX4_106 sc_yX4_isMarked ini_RX4 cd_yX4_isMarked_cX4_isMarked
set_option maxRecDepth 20000 in
theorem nl_RX4_163 : Cond.fieldLinkNest RX4 163 RX3 "inputs" "I" RX4 ∈ nwL := List.mem_of_getElem? (i := 0) (by decide +kernel)
set_option maxRecDepth 20000 in
theorem nl_RX4_166 : Cond.fieldLinkNest RX4 166 RX3 "bits" "I" RX4 ∈ nwL := List.mem_of_getElem? (i := 1) (by decide +kernel)
set_option maxRecDepth 20000 in
theorem nl_RX4_169 : Cond.fieldLinkNest RX4 169 RX0 "failed" "J" RX4 ∈ nwL := List.mem_of_getElem? (i := 24) (by decide +kernel)
set_option maxRecDepth 20000 in
theorem gs_RX4_84 : GoodIn wsL_law (va_wsS RX4 84 yJ13_bitCount_95d88 (wsU yJ13_bitCount_95d88 cJ13_bitCount_95d88 2 (some .int))) := gwT mk_RX4_84 sc_yJ13_bitCount_95d88 ini_RJ13 cd_yJ13_bitCount_95d88_cJ13_bitCount_95d88
set_option maxRecDepth 20000 in
theorem gv_RX4_64 : GoodIn wsL_law (wsV RX4 64 RX0 yX0_knownOrNone (wsU yX0_knownOrNone cX0_knownOrNone 2 (some .int))) := gwV mk_RX4_64 im_yX0_knownOrNone se_yX0_knownOrNone ini_RX0 cd_yX0_knownOrNone_cX0_knownOrNone
set_option maxRecDepth 20000 in
theorem ki_RX5_121 : Cond.constant RX5 121 (-2147483648) ∈ wsL_law := ml 691 (by decide +kernel) (by decide +kernel)
set_option maxRecDepth 20000 in
theorem kl_RX5_122 : Cond.constantLong RX5 122 (4294967295) ∈ wsL_law := ml 687 (by decide +kernel) (by decide +kernel)
set_option maxRecDepth 20000 in
theorem cd_yX5_truth_cX5_truth : Cond.code yX5_truth cX5_truth 1 (some .int) ∈ wsL_law := ml 672 rfl (by decide +kernel)
set_option maxRecDepth 20000 in
theorem mk_RX5_128 : Cond.methodLink RX5 128 yX5_truth ∈ wsL_law := ml 670 (by decide +kernel) (by decide +kernel)
set_option maxRecDepth 20000 in
theorem sc_yX5_truth : Cond.static yX5_truth ∈ wsL_law := ml 671 (by decide +kernel) (by decide +kernel)
set_option maxRecDepth 20000 in
theorem ini_RX5 : Cond.initialized RX5 ∈ wsL_law := ml 36 (by decide +kernel) (by decide +kernel)
set_option maxRecDepth 20000 in
theorem cd_yX5_plain_cX5_plain : Cond.code yX5_plain cX5_plain 1 (some .long) ∈ wsL_law := ml 686 rfl (by decide +kernel)
set_option maxRecDepth 20000 in
theorem mk_RX5_124 : Cond.methodLink RX5 124 yX5_plain ∈ wsL_law := ml 684 (by decide +kernel) (by decide +kernel)
set_option maxRecDepth 20000 in
theorem sc_yX5_plain : Cond.static yX5_plain ∈ wsL_law := ml 685 (by decide +kernel) (by decide +kernel)
set_option maxRecDepth 20000 in
theorem gs_RX5_124 : GoodIn wsL_law (wsS RX5 124 yX5_plain (wsU yX5_plain cX5_plain 1 (some .long))) := gwS mk_RX5_124 sc_yX5_plain ini_RX5 cd_yX5_plain_cX5_plain
set_option maxRecDepth 20000 in
theorem cd_yX5_isBelow_cX5_isBelow : Cond.code yX5_isBelow cX5_isBelow 2 (some .boolean) ∈ wsL_law := ml 690 rfl (by decide +kernel)
set_option maxRecDepth 20000 in
theorem mk_RX5_132 : Cond.methodLink RX5 132 yX5_isBelow ∈ wsL_law := ml 688 (by decide +kernel) (by decide +kernel)
set_option maxRecDepth 20000 in
theorem sc_yX5_isBelow : Cond.static yX5_isBelow ∈ wsL_law := ml 689 (by decide +kernel) (by decide +kernel)
set_option maxRecDepth 20000 in
theorem fl_RX5_29 : Cond.fieldLink RX5 29 "SymbolBenchModel" "paths" "I" ∈ wsL_law := ml 519 (by decide +kernel) (by decide +kernel)
set_option maxRecDepth 20000 in
theorem fl_RX5_80 : Cond.fieldLink RX5 80 "SymbolBenchModel" "same" "Z" ∈ wsL_law := ml 546 (by decide +kernel) (by decide +kernel)
set_option maxRecDepth 20000 in
theorem fl_RX5_93 : Cond.fieldLink RX5 93 "SymbolBenchModel" "size" "I" ∈ wsL_law := ml 510 (by decide +kernel) (by decide +kernel)
set_option maxRecDepth 20000 in
theorem fl_RX5_84 : Cond.fieldLink RX5 84 "SymbolBenchModel" "inputs" "I" ∈ wsL_law := ml 508 (by decide +kernel) (by decide +kernel)
set_option maxRecDepth 20000 in
theorem cd_yX5_isRegister_cX5_isRegister : Cond.code yX5_isRegister cX5_isRegister 1 (some .boolean) ∈ wsL_law := ml 646 rfl (by decide +kernel)
set_option maxRecDepth 20000 in
theorem mk_RX5_96 : Cond.methodLink RX5 96 yX5_isRegister ∈ wsL_law := ml 644 (by decide +kernel) (by decide +kernel)
set_option maxRecDepth 20000 in
theorem sc_yX5_isRegister : Cond.static yX5_isRegister ∈ wsL_law := ml 645 (by decide +kernel) (by decide +kernel)
set_option maxRecDepth 20000 in
theorem cd_yX5_isTarget_cX5_isTarget : Cond.code yX5_isTarget cX5_isTarget 2 (some .boolean) ∈ wsL_law := ml 650 rfl (by decide +kernel)
set_option maxRecDepth 20000 in
theorem mk_RX5_100 : Cond.methodLink RX5 100 yX5_isTarget ∈ wsL_law := ml 647 (by decide +kernel) (by decide +kernel)
set_option maxRecDepth 20000 in
theorem im_yX5_isTarget : Cond.instanceMethod yX5_isTarget ∈ wsL_law := ml 649 (by decide +kernel) (by decide +kernel)
set_option maxRecDepth 20000 in
theorem se_yX5_isTarget : Cond.selects RX5 yX5_isTarget yX5_isTarget ∈ wsL_law := ml 17 (by decide +kernel) (by decide +kernel)
set_option maxRecDepth 20000 in
theorem gv_RX5_100 : GoodIn wsL_law (wsV RX5 100 RX5 yX5_isTarget (wsU yX5_isTarget cX5_isTarget 2 (some .boolean))) := gwV mk_RX5_100 im_yX5_isTarget se_yX5_isTarget ini_RX5 cd_yX5_isTarget_cX5_isTarget
set_option maxRecDepth 20000 in
theorem gs_RX5_96 : GoodIn wsL_law (wsS RX5 96 yX5_isRegister (wsU yX5_isRegister cX5_isRegister 1 (some .boolean))) := gwS mk_RX5_96 sc_yX5_isRegister ini_RX5 cd_yX5_isRegister_cX5_isRegister
set_option maxRecDepth 20000 in
theorem fl_RX5_87 : Cond.fieldLink RX5 87 "SymbolBenchModel" "bits" "I" ∈ wsL_law := ml 509 (by decide +kernel) (by decide +kernel)
set_option maxRecDepth 20000 in
theorem fl_RX5_7 : Cond.fieldLink RX5 7 "SymbolBenchModel" "wide" "[I" ∈ wsL_law := ml 513 (by decide +kernel) (by decide +kernel)
set_option maxRecDepth 20000 in
theorem fl_RX5_13 : Cond.fieldLink RX5 13 "SymbolBenchModel" "signed" "[Z" ∈ wsL_law := ml 514 (by decide +kernel) (by decide +kernel)
set_option maxRecDepth 20000 in
theorem cd_yX5_changed_cX5_changed : Cond.code yX5_changed cX5_changed 1 none ∈ wsL_law := ml 635 rfl (by decide +kernel)
set_option maxRecDepth 20000 in
theorem mk_RX5_90 : Cond.methodLink RX5 90 yX5_changed ∈ wsL_law := ml 632 (by decide +kernel) (by decide +kernel)
set_option maxRecDepth 20000 in
theorem im_yX5_changed : Cond.instanceMethod yX5_changed ∈ wsL_law := ml 634 (by decide +kernel) (by decide +kernel)
set_option maxRecDepth 20000 in
theorem se_yX5_changed : Cond.selects RX5 yX5_changed yX5_changed ∈ wsL_law := ml 15 (by decide +kernel) (by decide +kernel)
set_option maxRecDepth 20000 in
theorem fl_RX5_107 : Cond.fieldLink RX5 107 "SymbolBenchModel" "muls" "I" ∈ wsL_law := ml 511 (by decide +kernel) (by decide +kernel)
set_option maxRecDepth 20000 in
theorem fl_RX5_113 : Cond.fieldLink RX5 113 "SymbolBenchModel" "divisions" "I" ∈ wsL_law := ml 512 (by decide +kernel) (by decide +kernel)
set_option maxRecDepth 20000 in
theorem fl_RX5_17 : Cond.fieldLink RX5 17 "SymbolBenchModel" "op" "[I" ∈ wsL_law := ml 515 (by decide +kernel) (by decide +kernel)
set_option maxRecDepth 20000 in
theorem fl_RX5_20 : Cond.fieldLink RX5 20 "SymbolBenchModel" "a" "[I" ∈ wsL_law := ml 516 (by decide +kernel) (by decide +kernel)
set_option maxRecDepth 20000 in
theorem fl_RX5_23 : Cond.fieldLink RX5 23 "SymbolBenchModel" "b" "[I" ∈ wsL_law := ml 517 (by decide +kernel) (by decide +kernel)
set_option maxRecDepth 20000 in
theorem fl_RX5_26 : Cond.fieldLink RX5 26 "SymbolBenchModel" "c" "[I" ∈ wsL_law := ml 518 (by decide +kernel) (by decide +kernel)
set_option maxRecDepth 20000 in
theorem cd_yX5_isDivision_cX5_isDivision : Cond.code yX5_isDivision cX5_isDivision 1 (some .boolean) ∈ wsL_law := ml 653 rfl (by decide +kernel)
set_option maxRecDepth 20000 in
theorem mk_RX5_110 : Cond.methodLink RX5 110 yX5_isDivision ∈ wsL_law := ml 651 (by decide +kernel) (by decide +kernel)
set_option maxRecDepth 20000 in
theorem sc_yX5_isDivision : Cond.static yX5_isDivision ∈ wsL_law := ml 652 (by decide +kernel) (by decide +kernel)
set_option maxRecDepth 20000 in
theorem cd_yX5_isGood_cX5_isGood : Cond.code yX5_isGood cX5_isGood 5 (some .boolean) ∈ wsL_law := ml 643 rfl (by decide +kernel)
set_option maxRecDepth 20000 in
theorem mk_RX5_103 : Cond.methodLink RX5 103 yX5_isGood ∈ wsL_law := ml 640 (by decide +kernel) (by decide +kernel)
set_option maxRecDepth 20000 in
theorem im_yX5_isGood : Cond.instanceMethod yX5_isGood ∈ wsL_law := ml 642 (by decide +kernel) (by decide +kernel)
set_option maxRecDepth 20000 in
theorem se_yX5_isGood : Cond.selects RX5 yX5_isGood yX5_isGood ∈ wsL_law := ml 16 (by decide +kernel) (by decide +kernel)
set_option maxRecDepth 20000 in
theorem gv_RX5_103 : GoodIn wsL_law (wsV RX5 103 RX5 yX5_isGood (wsU yX5_isGood cX5_isGood 5 (some .boolean))) := gwV mk_RX5_103 im_yX5_isGood se_yX5_isGood ini_RX5 cd_yX5_isGood_cX5_isGood
set_option maxRecDepth 20000 in
theorem fl_RX5_116 : Cond.fieldLink RX5 116 "SymbolBenchModel" "ran" "Z" ∈ wsL_law := ml 537 (by decide +kernel) (by decide +kernel)
set_option maxRecDepth 20000 in
theorem gv_RX5_90 : GoodIn wsL_law (wsV RX5 90 RX5 yX5_changed (wsU yX5_changed cX5_changed 1 none)) := gwV mk_RX5_90 im_yX5_changed se_yX5_changed ini_RX5 cd_yX5_changed_cX5_changed
set_option maxRecDepth 20000 in
theorem fl_RX5_136 : Cond.fieldLink RX5 136 "SymbolBenchModel" "runEnd" "I" ∈ wsL_law := ml 532 (by decide +kernel) (by decide +kernel)
set_option maxRecDepth 20000 in
theorem fl_RX5_139 : Cond.fieldLink RX5 139 "SymbolBenchModel" "runPlace" "I" ∈ wsL_law := ml 533 (by decide +kernel) (by decide +kernel)
set_option maxRecDepth 20000 in
theorem fl_RX5_142 : Cond.fieldLink RX5 142 "SymbolBenchModel" "runResult" "I" ∈ wsL_law := ml 534 (by decide +kernel) (by decide +kernel)
set_option maxRecDepth 20000 in
theorem fl_RX5_62 : Cond.fieldLink RX5 62 "SymbolBenchModel" "reg" "[I" ∈ wsL_law := ml 529 (by decide +kernel) (by decide +kernel)
set_option maxRecDepth 20000 in
theorem fl_RX5_65 : Cond.fieldLink RX5 65 "SymbolBenchModel" "cell" "[I" ∈ wsL_law := ml 530 (by decide +kernel) (by decide +kernel)
set_option maxRecDepth 20000 in
theorem fl_RX5_145 : Cond.fieldLink RX5 145 "SymbolBenchModel" "runDone" "I" ∈ wsL_law := ml 535 (by decide +kernel) (by decide +kernel)
set_option maxRecDepth 20000 in
theorem fl_RX5_148 : Cond.fieldLink RX5 148 "SymbolBenchModel" "runMade" "I" ∈ wsL_law := ml 536 (by decide +kernel) (by decide +kernel)
set_option maxRecDepth 20000 in
theorem fl_RX5_59 : Cond.fieldLink RX5 59 "SymbolBenchModel" "met" "[Z" ∈ wsL_law := ml 528 (by decide +kernel) (by decide +kernel)
set_option maxRecDepth 20000 in
theorem fl_RX5_68 : Cond.fieldLink RX5 68 "SymbolBenchModel" "made" "[I" ∈ wsL_law := ml 531 (by decide +kernel) (by decide +kernel)
set_option maxRecDepth 20000 in
theorem cd_yX5_ends_cX5_ends : Cond.code yX5_ends cX5_ends 4 none ∈ wsL_law := ml 680 rfl (by decide +kernel)
set_option maxRecDepth 20000 in
theorem mk_RX5_155 : Cond.methodLink RX5 155 yX5_ends ∈ wsL_law := ml 677 (by decide +kernel) (by decide +kernel)
set_option maxRecDepth 20000 in
theorem im_yX5_ends : Cond.instanceMethod yX5_ends ∈ wsL_law := ml 679 (by decide +kernel) (by decide +kernel)
set_option maxRecDepth 20000 in
theorem se_yX5_ends : Cond.selects RX5 yX5_ends yX5_ends ∈ wsL_law := ml 21 (by decide +kernel) (by decide +kernel)
set_option maxRecDepth 20000 in
theorem cd_yX5_reckoned_cX5_reckoned : Cond.code yX5_reckoned cX5_reckoned 3 (some .int) ∈ wsL_law := ml 683 rfl (by decide +kernel)
set_option maxRecDepth 20000 in
theorem mk_RX5_159 : Cond.methodLink RX5 159 yX5_reckoned ∈ wsL_law := ml 681 (by decide +kernel) (by decide +kernel)
set_option maxRecDepth 20000 in
theorem sc_yX5_reckoned : Cond.static yX5_reckoned ∈ wsL_law := ml 682 (by decide +kernel) (by decide +kernel)
set_option maxRecDepth 20000 in
theorem cd_yX5_inputOf_cX5_inputOf : Cond.code yX5_inputOf cX5_inputOf 5 (some .int) ∈ wsL_law := ml 676 rfl (by decide +kernel)
set_option maxRecDepth 20000 in
theorem mk_RX5_151 : Cond.methodLink RX5 151 yX5_inputOf ∈ wsL_law := ml 673 (by decide +kernel) (by decide +kernel)
set_option maxRecDepth 20000 in
theorem im_yX5_inputOf : Cond.instanceMethod yX5_inputOf ∈ wsL_law := ml 675 (by decide +kernel) (by decide +kernel)
set_option maxRecDepth 20000 in
theorem se_yX5_inputOf : Cond.selects RX5 yX5_inputOf yX5_inputOf ∈ wsL_law := ml 20 (by decide +kernel) (by decide +kernel)
set_option maxRecDepth 20000 in
theorem gs_RX5_159 : GoodIn wsL_law (wsS RX5 159 yX5_reckoned (wsU yX5_reckoned cX5_reckoned 3 (some .int))) := gwS mk_RX5_159 sc_yX5_reckoned ini_RX5 cd_yX5_reckoned_cX5_reckoned
set_option maxRecDepth 20000 in
theorem gv_RX5_155 : GoodIn wsL_law (wsV RX5 155 RX5 yX5_ends (wsU yX5_ends cX5_ends 4 none)) := gwV mk_RX5_155 im_yX5_ends se_yX5_ends ini_RX5 cd_yX5_ends_cX5_ends
set_option maxRecDepth 20000 in
theorem gv_RX5_151 : GoodIn wsL_law (wsV RX5 151 RX5 yX5_inputOf (wsU yX5_inputOf cX5_inputOf 5 (some .int))) := gwV mk_RX5_151 im_yX5_inputOf se_yX5_inputOf ini_RX5 cd_yX5_inputOf_cX5_inputOf
set_option maxRecDepth 20000 in
theorem gs_RX5_110 : GoodIn wsL_law (wsS RX5 110 yX5_isDivision (wsU yX5_isDivision cX5_isDivision 1 (some .boolean))) := gwS mk_RX5_110 sc_yX5_isDivision ini_RX5 cd_yX5_isDivision_cX5_isDivision
set_option maxRecDepth 20000 in
theorem fl_RX5_39 : Cond.fieldLink RX5 39 "SymbolBenchModel" "many" "[I" ∈ wsL_law := ml 522 (by decide +kernel) (by decide +kernel)
set_option maxRecDepth 20000 in
theorem fl_RX5_50 : Cond.fieldLink RX5 50 "SymbolBenchModel" "row" "[[I" ∈ wsL_law := ml 525 (by decide +kernel) (by decide +kernel)
set_option maxRecDepth 20000 in
theorem fl_RX5_33 : Cond.fieldLink RX5 33 "SymbolBenchModel" "end" "[I" ∈ wsL_law := ml 520 (by decide +kernel) (by decide +kernel)
set_option maxRecDepth 20000 in
theorem fl_RX5_36 : Cond.fieldLink RX5 36 "SymbolBenchModel" "place" "[I" ∈ wsL_law := ml 521 (by decide +kernel) (by decide +kernel)
set_option maxRecDepth 20000 in
theorem fl_RX5_42 : Cond.fieldLink RX5 42 "SymbolBenchModel" "least" "[I" ∈ wsL_law := ml 523 (by decide +kernel) (by decide +kernel)
set_option maxRecDepth 20000 in
theorem fl_RX5_45 : Cond.fieldLink RX5 45 "SymbolBenchModel" "alike" "[Z" ∈ wsL_law := ml 524 (by decide +kernel) (by decide +kernel)
set_option maxRecDepth 20000 in
theorem fl_RX5_53 : Cond.fieldLink RX5 53 "SymbolBenchModel" "of" "[I" ∈ wsL_law := ml 526 (by decide +kernel) (by decide +kernel)
set_option maxRecDepth 20000 in
theorem cd_yX5_words_cX5_words : Cond.code yX5_words cX5_words 1 (some .int) ∈ wsL_law := ml 665 rfl (by decide +kernel)
set_option maxRecDepth 20000 in
theorem mk_RX5_163 : Cond.methodLink RX5 163 yX5_words ∈ wsL_law := ml 662 (by decide +kernel) (by decide +kernel)
set_option maxRecDepth 20000 in
theorem im_yX5_words : Cond.instanceMethod yX5_words ∈ wsL_law := ml 664 (by decide +kernel) (by decide +kernel)
set_option maxRecDepth 20000 in
theorem se_yX5_words : Cond.selects RX5 yX5_words yX5_words ∈ wsL_law := ml 18 (by decide +kernel) (by decide +kernel)
set_option maxRecDepth 20000 in
theorem cd_yX5_turn_cX5_turn : Cond.code yX5_turn cX5_turn 4 none ∈ wsL_law := ml 710 rfl (by decide +kernel)
set_option maxRecDepth 20000 in
theorem mk_RX5_184 : Cond.methodLink RX5 184 yX5_turn ∈ wsL_law := ml 708 (by decide +kernel) (by decide +kernel)
set_option maxRecDepth 20000 in
theorem sc_yX5_turn : Cond.static yX5_turn ∈ wsL_law := ml 709 (by decide +kernel) (by decide +kernel)
set_option maxRecDepth 20000 in
theorem gs_RX5_184 : GoodIn wsL_law (wsS RX5 184 yX5_turn (wsU yX5_turn cX5_turn 4 none)) := gwS mk_RX5_184 sc_yX5_turn ini_RX5 cd_yX5_turn_cX5_turn
set_option maxRecDepth 20000 in
theorem cd_yX5_isAhead_cX5_isAhead : Cond.code yX5_isAhead cX5_isAhead 4 (some .boolean) ∈ wsL_law := ml 703 rfl (by decide +kernel)
set_option maxRecDepth 20000 in
theorem mk_RX5_177 : Cond.methodLink RX5 177 yX5_isAhead ∈ wsL_law := ml 700 (by decide +kernel) (by decide +kernel)
set_option maxRecDepth 20000 in
theorem im_yX5_isAhead : Cond.instanceMethod yX5_isAhead ∈ wsL_law := ml 702 (by decide +kernel) (by decide +kernel)
set_option maxRecDepth 20000 in
theorem se_yX5_isAhead : Cond.selects RX5 yX5_isAhead yX5_isAhead ∈ wsL_law := ml 24 (by decide +kernel) (by decide +kernel)
set_option maxRecDepth 20000 in
theorem gv_RX5_177 : GoodIn wsL_law (wsV RX5 177 RX5 yX5_isAhead (wsU yX5_isAhead cX5_isAhead 4 (some .boolean))) := gwV mk_RX5_177 im_yX5_isAhead se_yX5_isAhead ini_RX5 cd_yX5_isAhead_cX5_isAhead
set_option maxRecDepth 20000 in
theorem cd_yX5_exchange_cX5_exchange : Cond.code yX5_exchange cX5_exchange 6 none ∈ wsL_law := ml 707 rfl (by decide +kernel)
set_option maxRecDepth 20000 in
theorem mk_RX5_180 : Cond.methodLink RX5 180 yX5_exchange ∈ wsL_law := ml 704 (by decide +kernel) (by decide +kernel)
set_option maxRecDepth 20000 in
theorem im_yX5_exchange : Cond.instanceMethod yX5_exchange ∈ wsL_law := ml 706 (by decide +kernel) (by decide +kernel)
set_option maxRecDepth 20000 in
theorem se_yX5_exchange : Cond.selects RX5 yX5_exchange yX5_exchange ∈ wsL_law := ml 25 (by decide +kernel) (by decide +kernel)
set_option maxRecDepth 20000 in
theorem gv_RX5_180 : GoodIn wsL_law (wsV RX5 180 RX5 yX5_exchange (wsU yX5_exchange cX5_exchange 6 none)) := gwV mk_RX5_180 im_yX5_exchange se_yX5_exchange ini_RX5 cd_yX5_exchange_cX5_exchange
set_option maxRecDepth 20000 in
theorem fl_RX5_56 : Cond.fieldLink RX5 56 "SymbolBenchModel" "result" "[I" ∈ wsL_law := ml 527 (by decide +kernel) (by decide +kernel)
set_option maxRecDepth 20000 in
theorem cd_yX5_order_cX5_order : Cond.code yX5_order cX5_order 3 none ∈ wsL_law := ml 699 rfl (by decide +kernel)
set_option maxRecDepth 20000 in
theorem mk_RX5_174 : Cond.methodLink RX5 174 yX5_order ∈ wsL_law := ml 696 (by decide +kernel) (by decide +kernel)
set_option maxRecDepth 20000 in
theorem im_yX5_order : Cond.instanceMethod yX5_order ∈ wsL_law := ml 698 (by decide +kernel) (by decide +kernel)
set_option maxRecDepth 20000 in
theorem se_yX5_order : Cond.selects RX5 yX5_order yX5_order ∈ wsL_law := ml 23 (by decide +kernel) (by decide +kernel)
set_option maxRecDepth 20000 in
theorem gv_RX5_174 : GoodIn wsL_law (wsV RX5 174 RX5 yX5_order (wsU yX5_order cX5_order 3 none)) := gwV mk_RX5_174 im_yX5_order se_yX5_order ini_RX5 cd_yX5_order_cX5_order
set_option maxRecDepth 20000 in
theorem cd_yX5_isPath_cX5_isPath : Cond.code yX5_isPath cX5_isPath 4 (some .boolean) ∈ wsL_law := ml 695 rfl (by decide +kernel)
set_option maxRecDepth 20000 in
theorem mk_RX5_171 : Cond.methodLink RX5 171 yX5_isPath ∈ wsL_law := ml 692 (by decide +kernel) (by decide +kernel)
set_option maxRecDepth 20000 in
theorem im_yX5_isPath : Cond.instanceMethod yX5_isPath ∈ wsL_law := ml 694 (by decide +kernel) (by decide +kernel)
set_option maxRecDepth 20000 in
theorem se_yX5_isPath : Cond.selects RX5 yX5_isPath yX5_isPath ∈ wsL_law := ml 22 (by decide +kernel) (by decide +kernel)
set_option maxRecDepth 20000 in
theorem gv_RX5_171 : GoodIn wsL_law (wsV RX5 171 RX5 yX5_isPath (wsU yX5_isPath cX5_isPath 4 (some .boolean))) := gwV mk_RX5_171 im_yX5_isPath se_yX5_isPath ini_RX5 cd_yX5_isPath_cX5_isPath
set_option maxRecDepth 20000 in
theorem cd_yX5_go_cX5_go : Cond.code yX5_go cX5_go 14 none ∈ wsL_law := ml 669 rfl (by decide +kernel)
set_option maxRecDepth 20000 in
theorem mk_RX5_167 : Cond.methodLink RX5 167 yX5_go ∈ wsL_law := ml 666 (by decide +kernel) (by decide +kernel)
set_option maxRecDepth 20000 in
theorem im_yX5_go : Cond.instanceMethod yX5_go ∈ wsL_law := ml 668 (by decide +kernel) (by decide +kernel)
set_option maxRecDepth 20000 in
theorem se_yX5_go : Cond.selects RX5 yX5_go yX5_go ∈ wsL_law := ml 19 (by decide +kernel) (by decide +kernel)
set_option maxRecDepth 20000 in
theorem cd_yX5_has_cX5_has : Cond.code yX5_has cX5_has 2 (some .boolean) ∈ wsL_law := ml 718 rfl (by decide +kernel)
set_option maxRecDepth 20000 in
theorem mk_RX5_188 : Cond.methodLink RX5 188 yX5_has ∈ wsL_law := ml 715 (by decide +kernel) (by decide +kernel)
set_option maxRecDepth 20000 in
theorem im_yX5_has : Cond.instanceMethod yX5_has ∈ wsL_law := ml 717 (by decide +kernel) (by decide +kernel)
set_option maxRecDepth 20000 in
theorem se_yX5_has : Cond.selects RX5 yX5_has yX5_has ∈ wsL_law := ml 26 (by decide +kernel) (by decide +kernel)
set_option maxRecDepth 20000 in
theorem cd_yX5_isWord_cX5_isWord : Cond.code yX5_isWord cX5_isWord 2 (some .boolean) ∈ wsL_law := ml 730 rfl (by decide +kernel)
set_option maxRecDepth 20000 in
theorem mk_RX5_191 : Cond.methodLink RX5 191 yX5_isWord ∈ wsL_law := ml 727 (by decide +kernel) (by decide +kernel)
set_option maxRecDepth 20000 in
theorem im_yX5_isWord : Cond.instanceMethod yX5_isWord ∈ wsL_law := ml 729 (by decide +kernel) (by decide +kernel)
set_option maxRecDepth 20000 in
theorem se_yX5_isWord : Cond.selects RX5 yX5_isWord yX5_isWord ∈ wsL_law := ml 27 (by decide +kernel) (by decide +kernel)
set_option maxRecDepth 20000 in
theorem gs_RX5_132 : GoodIn wsL_law (wsS RX5 132 yX5_isBelow (wsU yX5_isBelow cX5_isBelow 2 (some .boolean))) := gwS mk_RX5_132 sc_yX5_isBelow ini_RX5 cd_yX5_isBelow_cX5_isBelow
set_option maxRecDepth 20000 in
theorem gv_RX5_163 : GoodIn wsL_law (wsV RX5 163 RX5 yX5_words (wsU yX5_words cX5_words 1 (some .int))) := gwV mk_RX5_163 im_yX5_words se_yX5_words ini_RX5 cd_yX5_words_cX5_words
set_option maxRecDepth 20000 in
theorem gv_RX5_188 : GoodIn wsL_law (wsV RX5 188 RX5 yX5_has (wsU yX5_has cX5_has 2 (some .boolean))) := gwV mk_RX5_188 im_yX5_has se_yX5_has ini_RX5 cd_yX5_has_cX5_has
set_option maxRecDepth 20000 in
theorem fl_RX5_194 : Cond.fieldLink RX5 194 "SymbolBenchModel" "told" "I" ∈ wsL_law := ml 538 (by decide +kernel) (by decide +kernel)
set_option maxRecDepth 20000 in
theorem fl_RX5_197 : Cond.fieldLink RX5 197 "SymbolBenchModel" "toldEnd" "I" ∈ wsL_law := ml 539 (by decide +kernel) (by decide +kernel)
set_option maxRecDepth 20000 in
theorem fl_RX5_200 : Cond.fieldLink RX5 200 "SymbolBenchModel" "toldPlace" "I" ∈ wsL_law := ml 540 (by decide +kernel) (by decide +kernel)
set_option maxRecDepth 20000 in
theorem fl_RX5_203 : Cond.fieldLink RX5 203 "SymbolBenchModel" "toldResult" "I" ∈ wsL_law := ml 541 (by decide +kernel) (by decide +kernel)
set_option maxRecDepth 20000 in
theorem fl_RX5_206 : Cond.fieldLink RX5 206 "SymbolBenchModel" "toldDone" "I" ∈ wsL_law := ml 542 (by decide +kernel) (by decide +kernel)
set_option maxRecDepth 20000 in
theorem fl_RX5_209 : Cond.fieldLink RX5 209 "SymbolBenchModel" "toldMade" "I" ∈ wsL_law := ml 543 (by decide +kernel) (by decide +kernel)
set_option maxRecDepth 20000 in
theorem fl_RX5_71 : Cond.fieldLink RX5 71 "SymbolBenchModel" "toldReg" "[I" ∈ wsL_law := ml 544 (by decide +kernel) (by decide +kernel)
set_option maxRecDepth 20000 in
theorem fl_RX5_74 : Cond.fieldLink RX5 74 "SymbolBenchModel" "toldCell" "[I" ∈ wsL_law := ml 545 (by decide +kernel) (by decide +kernel)
set_option maxRecDepth 20000 in
theorem gv_RX5_191 : GoodIn wsL_law (wsV RX5 191 RX5 yX5_isWord (wsU yX5_isWord cX5_isWord 2 (some .boolean))) := gwV mk_RX5_191 im_yX5_isWord se_yX5_isWord ini_RX5 cd_yX5_isWord_cX5_isWord
set_option maxRecDepth 20000 in
theorem gv_RX5_167 : GoodIn wsL_law (wsV RX5 167 RX5 yX5_go (wsU yX5_go cX5_go 14 none)) := gwV mk_RX5_167 im_yX5_go se_yX5_go ini_RX5 cd_yX5_go_cX5_go
set_option maxRecDepth 20000 in
theorem cd_yX5_failing_cX5_failing : Cond.code yX5_failing cX5_failing 5 (some .int) ∈ wsL_law := ml 762 rfl (by decide +kernel)
set_option maxRecDepth 20000 in
theorem mk_RX5_212 : Cond.methodLink RX5 212 yX5_failing ∈ wsL_law := ml 759 (by decide +kernel) (by decide +kernel)
set_option maxRecDepth 20000 in
theorem im_yX5_failing : Cond.instanceMethod yX5_failing ∈ wsL_law := ml 761 (by decide +kernel) (by decide +kernel)
set_option maxRecDepth 20000 in
theorem se_yX5_failing : Cond.selects RX5 yX5_failing yX5_failing ∈ wsL_law := ml 28 (by decide +kernel) (by decide +kernel)
set_option maxRecDepth 20000 in
theorem gv_RX5_212 : GoodIn wsL_law (wsV RX5 212 RX5 yX5_failing (wsU yX5_failing cX5_failing 5 (some .int))) := gwV mk_RX5_212 im_yX5_failing se_yX5_failing ini_RX5 cd_yX5_failing_cX5_failing
set_option maxRecDepth 20000 in
theorem gs_RX5_128 : GoodIn wsL_law (wsS RX5 128 yX5_truth (wsU yX5_truth cX5_truth 1 (some .int))) := gwS mk_RX5_128 sc_yX5_truth ini_RX5 cd_yX5_truth_cX5_truth
set_option maxRecDepth 20000 in
theorem cd_yX5_failures_cX5_failures : Cond.code yX5_failures cX5_failures 4 (some .int) ∈ wsL_law := ml 774 rfl (by decide +kernel)
set_option maxRecDepth 20000 in
theorem mk_RX5_215 : Cond.methodLink RX5 215 yX5_failures ∈ wsL_law := ml 771 (by decide +kernel) (by decide +kernel)
set_option maxRecDepth 20000 in
theorem im_yX5_failures : Cond.instanceMethod yX5_failures ∈ wsL_law := ml 773 (by decide +kernel) (by decide +kernel)
set_option maxRecDepth 20000 in
theorem se_yX5_failures : Cond.selects RX5 yX5_failures yX5_failures ∈ wsL_law := ml 29 (by decide +kernel) (by decide +kernel)
set_option maxRecDepth 20000 in
theorem gv_RX5_215 : GoodIn wsL_law (wsV RX5 215 RX5 yX5_failures (wsU yX5_failures cX5_failures 4 (some .int))) := gwV mk_RX5_215 im_yX5_failures se_yX5_failures ini_RX5 cd_yX5_failures_cX5_failures
end
section
def f_J13_bitCount_95d88 (u0 : Int64) : Option (Int32 × Unit) := (
 (some (u0 - ((u0.toUInt64 >>> ((1 : Int32).toInt64.toUInt64 &&& Int64.toUInt64 63)).toInt64 &&& (6148914691236517205 : Int64)))).bind fun z1 => (
  (some ((z1 &&& (3689348814741910323 : Int64)) + ((z1.toUInt64 >>> ((2 : Int32).toInt64.toUInt64 &&& Int64.toUInt64 63)).toInt64 &&& (3689348814741910323 : Int64)))).bind fun z3 => (
   (some ((z3 + (z3.toUInt64 >>> ((4 : Int32).toInt64.toUInt64 &&& Int64.toUInt64 63)).toInt64) &&& (1085102592571150095 : Int64))).bind fun z5 => (
    (some (z5 + (z5.toUInt64 >>> ((8 : Int32).toInt64.toUInt64 &&& Int64.toUInt64 63)).toInt64)).bind fun z7 => (
     (some (z7 + (z7.toUInt64 >>> ((16 : Int32).toInt64.toUInt64 &&& Int64.toUInt64 63)).toInt64)).bind fun z9 => (
      (some (z9 + (z9.toUInt64 >>> ((32 : Int32).toInt64.toUInt64 &&& Int64.toUInt64 63)).toInt64)).bind fun z11 => (
       some ((z11.toInt32 &&& (127 : Int32)), ())
      )
     )
    )
   )
  )
 )
)
def f_J7_fill_53178_l5 (n : Nat) (nX : Nat) (x1 : Int32) (x3 : Int32) (rc5 : (Int32 × (Nat → Int32)) → Option ((Nat → Int32))) : (Int32 × (Nat → Int32)) → Option ((Nat → Int32)) := fun (x2, xA) => (
 if x3 ≤ x2 then (
  some (xA)
 ) else (
  if inb x2 nX = true then (
   rc5 ((x2 + 1), (upd xA x2.toNatClampNeg x1))
  ) else none
 )
)
def f_J7_fill_53178 (n : Nat) (nX : Nat) (u1 : Int32) (xA : Nat → Int32) : Option ((Nat → Int32)) := (
 lp (f_J7_fill_53178_l5 n nX u1 (Int32.ofNat nX) ) n ((0 : Int32), xA)
)
def f_X4_isRegister (u0 : Int32) : Option (Int32 × Unit) := (
 if u0 < 0 then (
  some ((0 : Int32), ())
 ) else (
  if (16 : Int32) ≤ u0 then (
   some ((0 : Int32), ())
  ) else (
   some ((1 : Int32), ())
  )
 )
)
def f_X4_isCell (u0 : Int32) : Option (Int32 × Unit) := (
 if u0 < 0 then (
  some ((0 : Int32), ())
 ) else (
  if (8 : Int32) ≤ u0 then (
   some ((0 : Int32), ())
  ) else (
   some ((1 : Int32), ())
  )
 )
)
def f_X4_isDivision (u0 : Int32) : Option (Int32 × Unit) := (
 if u0 < (12 : Int32) then (
  some ((0 : Int32), ())
 ) else (
  if (15 : Int32) < u0 then (
   some ((0 : Int32), ())
  ) else (
   some ((1 : Int32), ())
  )
 )
)
def f_X4_mark (u0 : Int32) : Option (Int64 × Unit) := (
 some (((1 : Int64) <<< (((59 : Int32) - u0).toInt64 &&& 63)), ())
)
def f_X4_isMarked (u0 : Int64) (u2 : Int32) : Option (Int32 × Unit) := (
 (f_X4_mark u2).bind fun (r1, _u1) => (
  if (lg_cmp (u0 &&& r1) (0 : Int64)) = 0 then (
   some ((0 : Int32), ())
  ) else (
   some ((1 : Int32), ())
  )
 )
)
def f_X4_placeOfMark_b32 (n : Nat) (rc5 : (Int32 × Int32) → Option (Int32 × Unit)) (x0 : Int64) (x2 : Int32) (x3 : Int32) (x4 : Int32) : Option (Int32 × Unit) := (
 rc5 (x3, (x4 + 1))
)
def f_X4_placeOfMark_l5 (n : Nat) (x0 : Int64) (x2 : Int32) (rc5 : (Int32 × Int32) → Option (Int32 × Unit)) : (Int32 × Int32) → Option (Int32 × Unit) := fun (x3, x4) => (
 if (60 : Int32) ≤ x4 then (
  some ((-1 : Int32), ())
 ) else (
  (f_X4_isMarked x0 x4).bind fun (r2, _u2) => (
   if r2 = 0 then (
    f_X4_placeOfMark_b32 n rc5 x0 x2 x3 x4 
   ) else (
    if x3 = x2 then (
     some (x4, ())
    ) else (
     f_X4_placeOfMark_b32 n rc5 x0 x2 (x3 + 1) x4 
    )
   )
  )
 )
)
def f_X4_placeOfMark (n : Nat) (u0 : Int64) (u2 : Int32) : Option (Int32 × Unit) := (
 lp (f_X4_placeOfMark_l5 n u0 u2 ) n ((0 : Int32), (0 : Int32))
)
def f_X4_isBelowUnsigned (u0 : Int32) (u1 : Int32) : Option (Int32 × Unit) := (
 if 0 ≤ (lg_cmp (u0.toInt64 &&& (4294967295 : Int64)) (u1.toInt64 &&& (4294967295 : Int64))) then (
  some ((0 : Int32), ())
 ) else (
  some ((1 : Int32), ())
 )
)
def f_X4_combine (u0 : Int32) (u1 : Int32) (u2 : Int32) : Option (Int32 × Unit) := (
 if u0 = (3 : Int32) then (
  some ((u1 + u2), ())
 ) else (
  if u0 = (4 : Int32) then (
   some ((u1 - u2), ())
  ) else (
   if u0 = (5 : Int32) then (
    some ((u1 * u2), ())
   ) else (
    if u0 = (6 : Int32) then (
     some ((u1 &&& u2), ())
    ) else (
     if u0 = (7 : Int32) then (
      some ((u1 ||| u2), ())
     ) else (
      if u0 = (8 : Int32) then (
       some ((u1 ^^^ u2), ())
      ) else (
       if u0 = (9 : Int32) then (
        some ((u1 <<< (u2 &&& 31)), ())
       ) else (
        if u0 = (10 : Int32) then (
         some ((u1.toUInt32 >>> (u2.toUInt32 &&& Int32.toUInt32 31)).toInt32, ())
        ) else (
         if u0 = (11 : Int32) then (
          some ((u1 >>> (u2 &&& 31)), ())
         ) else (
          if u0 = (16 : Int32) then (
           if u1 = u2 then (
            some ((1 : Int32), ())
           ) else (
            some ((0 : Int32), ())
           )
          ) else (
           if u0 = (17 : Int32) then (
            if u1 = u2 then (
             some ((0 : Int32), ())
            ) else (
             some ((1 : Int32), ())
            )
           ) else (
            if u0 = (18 : Int32) then (
             (f_X4_isBelowUnsigned u1 u2).bind fun (r3, _u3) => (
              if r3 = 0 then (
               some ((0 : Int32), ())
              ) else (
               some ((1 : Int32), ())
              )
             )
            ) else (
             if u0 = (19 : Int32) then (
              (f_X4_isBelowUnsigned u2 u1).bind fun (r5, _u5) => (
               if r5 = 0 then (
                some ((1 : Int32), ())
               ) else (
                some ((0 : Int32), ())
               )
              )
             ) else (
              if u0 = (20 : Int32) then (
               if u2 ≤ u1 then (
                some ((0 : Int32), ())
               ) else (
                some ((1 : Int32), ())
               )
              ) else (
               if u0 = (21 : Int32) then (
                if u2 < u1 then (
                 some ((0 : Int32), ())
                ) else (
                 some ((1 : Int32), ())
                )
               ) else (
                some ((0 : Int32), ())
               )
              )
             )
            )
           )
          )
         )
        )
       )
      )
     )
    )
   )
  )
 )
)
def f_X4_divide_b91 (y0 : Int64) : Option (Int32 × Unit) := (
 some (y0.toInt32, ())
)
def f_X4_divide_b44 (x1 : Int32) (x2 : Int32) (x3 : Int32) : Option (Int32 × Unit) := (
 if x3 = 0 then (
  if ¬ x2 = 0 then (
   some ((x1 / x2), ())
  ) else none
 ) else (
  if ¬ x2 = 0 then (
   some ((x1 - x1 / x2 * x2), ())
  ) else none
 )
)
def f_X4_divide_b17 (x0 : Int32) (x1 : Int32) (x2 : Int32) (y0 : Int32) : Option (Int32 × Unit) := (
 if x2 = 0 then (
  if y0 = 0 then (
   some ((-1 : Int32), ())
  ) else (
   some (x1, ())
  )
 ) else (
  if x0 = (14 : Int32) then (
   f_X4_divide_b44 x1 x2 y0 
  ) else (
   if x0 = (15 : Int32) then (
    f_X4_divide_b44 x1 x2 y0 
   ) else (
    if y0 = 0 then (
     if ¬ (x2.toInt64 &&& (4294967295 : Int64)) = 0 then (
      f_X4_divide_b91 ((x1.toInt64 &&& (4294967295 : Int64)) / (x2.toInt64 &&& (4294967295 : Int64))) 
     ) else none
    ) else (
     if ¬ (x2.toInt64 &&& (4294967295 : Int64)) = 0 then (
      f_X4_divide_b91 ((x1.toInt64 &&& (4294967295 : Int64)) - (x1.toInt64 &&& (4294967295 : Int64)) / (x2.toInt64 &&& (4294967295 : Int64)) * (x2.toInt64 &&& (4294967295 : Int64))) 
     ) else none
    )
   )
  )
 )
)
def f_X4_divide_b12 (x0 : Int32) (x1 : Int32) (x2 : Int32) : Option (Int32 × Unit) := (
 f_X4_divide_b17 x0 x1 x2 (1 : Int32) 
)
def f_X4_divide (u0 : Int32) (u1 : Int32) (u2 : Int32) : Option (Int32 × Unit) := (
 if u0 = (13 : Int32) then (
  f_X4_divide_b12 u0 u1 u2 
 ) else (
  if u0 = (15 : Int32) then (
   f_X4_divide_b12 u0 u1 u2 
  ) else (
   f_X4_divide_b17 u0 u1 u2 (0 : Int32) 
  )
 )
)
def f_X3_takesThreeRegisters_b11 (x0 : Int32) : Option (Int32 × Unit) := (
 if x0 = (24 : Int32) then (
  some ((1 : Int32), ())
 ) else (
  some ((0 : Int32), ())
 )
)
def f_X3_takesThreeRegisters (u0 : Int32) : Option (Int32 × Unit) := (
 if u0 < (3 : Int32) then (
  f_X3_takesThreeRegisters_b11 u0 
 ) else (
  if u0 ≤ (21 : Int32) then (
   some ((1 : Int32), ())
  ) else (
   f_X3_takesThreeRegisters_b11 u0 
  )
 )
)
def f_X3_empty (pI : Nat → Int32) : Option ((Nat → Int32)) := (
 some ((upd (upd (upd (upd (upd pI 0 (0 : Int32)) 1 (0 : Int32)) 2 (0 : Int32)) 3 (0 : Int32)) 4 (0 : Int32)))
)
def f_X3_isTarget (u1 : Int32) (pI : Nat → Int32) : Option (Int32 × Unit) := (
 if u1 ≤ (pI 2) then (
  some ((0 : Int32), ())
 ) else (
  if (60 : Int32) < u1 then (
   some ((0 : Int32), ())
  ) else (
   some ((1 : Int32), ())
  )
 )
)
def f_X3_wouldBeTooMany_b14 (x1 : Int32) (pI : Nat → Int32) : Option (Int32 × Unit) := (
 (f_X4_isDivision x1).bind fun (r1, _u1) => (
  if r1 = 0 then (
   some ((0 : Int32), ())
  ) else (
   if (pI 4) < (6 : Int32) then (
    some ((0 : Int32), ())
   ) else (
    some ((1 : Int32), ())
   )
  )
 )
)
def f_X3_wouldBeTooMany (u1 : Int32) (pI : Nat → Int32) : Option (Int32 × Unit) := (
 if u1 = (5 : Int32) then (
  if (6 : Int32) ≤ (pI 3) then (
   some ((1 : Int32), ())
  ) else (
   f_X3_wouldBeTooMany_b14 u1 pI
  )
 ) else (
  f_X3_wouldBeTooMany_b14 u1 pI
 )
)
def f_X3_fits_b238 (x1 : Int32) (x2 : Int32) (x3 : Int32) (x4 : Int32) (pI : Nat → Int32) : Option (Int32 × Unit) := (
 (f_X3_takesThreeRegisters x1).bind fun (r1, _u1) => (
  if r1 = 0 then (
   some ((0 : Int32), ())
  ) else (
   (f_X4_isRegister x2).bind fun (r3, _u3) => (
    if r3 = 0 then (
     some ((0 : Int32), ())
    ) else (
     (f_X4_isRegister x3).bind fun (r5, _u5) => (
      if r5 = 0 then (
       some ((0 : Int32), ())
      ) else (
       (f_X4_isRegister x4).bind fun (r7, _u7) => (
        if r7 = 0 then (
         some ((0 : Int32), ())
        ) else (
         some ((1 : Int32), ())
        )
       )
      )
     )
    )
   )
  )
 )
)
def f_X3_fits_b174 (x2 : Int32) (x3 : Int32) (pI : Nat → Int32) : Option (Int32 × Unit) := (
 (f_X4_isRegister x2).bind fun (r9, _u9) => (
  if r9 = 0 then (
   some ((0 : Int32), ())
  ) else (
   (f_X4_isRegister x3).bind fun (r11, _u11) => (
    if r11 = 0 then (
     some ((0 : Int32), ())
    ) else (
     some ((1 : Int32), ())
    )
   )
  )
 )
)
def f_X3_fits_b144 (x2 : Int32) (pI : Nat → Int32) : Option (Int32 × Unit) := (
 (f_X4_isRegister x2).bind fun (r13, _u13) => (
  if r13 = 0 ∨ r13 = 1 then some (r13, ()) else none
 )
)
def f_X3_fits (u1 : Int32) (u2 : Int32) (u3 : Int32) (u4 : Int32) (pI : Nat → Int32) : Option (Int32 × Unit) := (
 if u1 = (0 : Int32) then (
  f_X3_fits_b144 u2 pI
 ) else (
  if u1 = (1 : Int32) then (
   (f_X4_isRegister u2).bind fun (r14, _u14) => (
    if r14 = 0 then (
     some ((0 : Int32), ())
    ) else (
     if u3 < 0 then (
      some ((0 : Int32), ())
     ) else (
      if (pI 0) ≤ u3 then (
       some ((0 : Int32), ())
      ) else (
       some ((1 : Int32), ())
      )
     )
    )
   )
  ) else (
   if u1 = (2 : Int32) then (
    f_X3_fits_b174 u2 u3 pI
   ) else (
    if u1 = (22 : Int32) then (
     f_X3_fits_b174 u2 u3 pI
    ) else (
     if u1 = (23 : Int32) then (
      f_X3_fits_b174 u2 u3 pI
     ) else (
      if u1 = (25 : Int32) then (
       f_X3_fits_b174 u2 u3 pI
      ) else (
       if u1 = (26 : Int32) then (
        f_X3_fits_b174 u2 u3 pI
       ) else (
        if u1 = (27 : Int32) then (
         (f_X4_isRegister u2).bind fun (r18, _u18) => (
          if r18 = 0 then (
           some ((0 : Int32), ())
          ) else (
           (f_X3_isTarget u3 pI).bind fun (r20, _u20) => (
            if r20 = 0 then (
             some ((0 : Int32), ())
            ) else (
             some ((1 : Int32), ())
            )
           )
          )
         )
        ) else (
         if u1 = (28 : Int32) then (
          (f_X3_isTarget u2 pI).bind fun (r22, _u22) => (
           if r22 = 0 ∨ r22 = 1 then some (r22, ()) else none
          )
         ) else (
          if u1 = (29 : Int32) then (
           f_X3_fits_b144 u2 pI
          ) else (
           if u1 = (30 : Int32) then (
            if u2 < 0 then (
             some ((0 : Int32), ())
            ) else (
             if (255 : Int32) < u2 then (
              some ((0 : Int32), ())
             ) else (
              some ((1 : Int32), ())
             )
            )
           ) else (
            if u1 = (31 : Int32) then (
             f_X3_fits_b144 u2 pI
            ) else (
             f_X3_fits_b238 u1 u2 u3 u4 pI
            )
           )
          )
         )
        )
       )
      )
     )
    )
   )
  )
 )
)
def f_X3_addInput (u1 : Int32) (u2 : Int32) (pI : Nat → Int32) (pA : Nat → Nat → Int32) : Option (Int32 × (Nat → Int32) × (Nat → Nat → Int32)) := (
 if (4 : Int32) ≤ (pI 0) then (
  some ((-1 : Int32), (pI, pA))
 ) else (
  if u1 < (1 : Int32) then (
   some ((-1 : Int32), (pI, pA))
  ) else (
   if u1 ≤ ((12 : Int32) - (pI 1)) then (
    if inb ((upd pI 1 ((pI 1) + u1)) 0) 4 = true then (
     if inb ((upd pI 1 ((pI 1) + u1)) 0) 4 = true then (
      if inb ((upd pI 1 ((pI 1) + u1)) 0) 4 = true then (
       some ((((upd (upd pI 1 ((pI 1) + u1)) 0 (((upd pI 1 ((pI 1) + u1)) 0) + (1 : Int32))) 0) - (1 : Int32)), ((upd (upd pI 1 ((pI 1) + u1)) 0 (((upd pI 1 ((pI 1) + u1)) 0) + (1 : Int32))), (up2 (up2 (up2 pA 0 ((upd pI 1 ((pI 1) + u1)) 0).toNatClampNeg u1) 1 ((upd pI 1 ((pI 1) + u1)) 0).toNatClampNeg ((upd pI 1 ((pI 1) + u1)) 1)) 2 ((upd pI 1 ((pI 1) + u1)) 0).toNatClampNeg (vp_nar .boolean u2))))
      ) else none
     ) else none
    ) else none
   ) else (
    some ((-1 : Int32), (pI, pA))
   )
  )
 )
)
def f_X3_addInstruction_b108 (y1 : Int32) (y2 : Int32) (pI : Nat → Int32) (pA : Nat → Nat → Int32) : Option (Int32 × (Nat → Int32) × (Nat → Nat → Int32)) := (
 some ((((upd (upd pI 4 (y1 + y2)) 2 (((upd pI 4 (y1 + y2)) 2) + (1 : Int32))) 2) - (1 : Int32)), ((upd (upd pI 4 (y1 + y2)) 2 (((upd pI 4 (y1 + y2)) 2) + (1 : Int32))), pA))
)
def f_X3_addInstruction_b87 (x1 : Int32) (y1 : Int32) (y2 : Int32) (pI : Nat → Int32) (pA : Nat → Nat → Int32) : Option (Int32 × (Nat → Int32) × (Nat → Nat → Int32)) := (
 (f_X4_isDivision x1).bind fun (r1, _u1) => (
  if r1 = 0 then (
   f_X3_addInstruction_b108 ((upd pI 3 (y1 + y2)) 4) (0 : Int32) (upd pI 3 (y1 + y2)) pA
  ) else (
   f_X3_addInstruction_b108 ((upd pI 3 (y1 + y2)) 4) (1 : Int32) (upd pI 3 (y1 + y2)) pA
  )
 )
)
def f_X3_addInstruction (u1 : Int32) (u2 : Int32) (u3 : Int32) (u4 : Int32) (pI : Nat → Int32) (pA : Nat → Nat → Int32) : Option (Int32 × (Nat → Int32) × (Nat → Nat → Int32)) := (
 if (60 : Int32) ≤ (pI 2) then (
  some ((-1 : Int32), (pI, pA))
 ) else (
  (f_X3_fits u1 u2 u3 u4 pI).bind fun (r4, _u4) => (
   if r4 = 0 then (
    some ((-1 : Int32), (pI, pA))
   ) else (
    (f_X3_wouldBeTooMany u1 pI).bind fun (r6, _u6) => (
     if r6 = 0 then (
      if inb (pI 2) 60 = true then (
       if inb (pI 2) 60 = true then (
        if inb (pI 2) 60 = true then (
         if inb (pI 2) 60 = true then (
          if u1 = (5 : Int32) then (
           f_X3_addInstruction_b87 u1 (pI 3) (1 : Int32) pI (up2 (up2 (up2 (up2 pA 3 (pI 2).toNatClampNeg u1) 4 (pI 2).toNatClampNeg u2) 5 (pI 2).toNatClampNeg u3) 6 (pI 2).toNatClampNeg u4)
          ) else (
           f_X3_addInstruction_b87 u1 (pI 3) (0 : Int32) pI (up2 (up2 (up2 (up2 pA 3 (pI 2).toNatClampNeg u1) 4 (pI 2).toNatClampNeg u2) 5 (pI 2).toNatClampNeg u3) 6 (pI 2).toNatClampNeg u4)
          )
         ) else none
        ) else none
       ) else none
      ) else none
     ) else (
      some ((-1 : Int32), (pI, pA))
     )
    )
   )
  )
 )
)
def f_X3_words (pI : Nat → Int32) : Option (Int32 × Unit) := (
 some (((1 : Int32) <<< ((pI 1) &&& 31)), ())
)
def f_X3_hasWord (u1 : Int32) (pI : Nat → Int32) : Option (Int32 × Unit) := (
 if u1 < 0 then (
  some ((0 : Int32), ())
 ) else (
  (f_X3_words pI).bind fun (r2, _u2) => (
   if r2 ≤ u1 then (
    some ((0 : Int32), ())
   ) else (
    some ((1 : Int32), ())
   )
  )
 )
)
def f_X3_inputIn (u1 : Int32) (u2 : Int32) (pI : Nat → Int32) (pA : Nat → Nat → Int32) : Option (Int32 × Unit) := (
 if inb u2 4 = true then (
  if inb u2 4 = true then (
   (some ((u1 >>> (((pI 1) - (pA 1 u2.toNatClampNeg)) &&& 31)) <<< (((32 : Int32) - (pA 0 u2.toNatClampNeg)) &&& 31))).bind fun z3 => (
    if inb u2 4 = true then (
     if (pA 2 u2.toNatClampNeg) = 0 then (
      some ((z3.toUInt32 >>> (((32 : Int32) - (pA 0 u2.toNatClampNeg)).toUInt32 &&& Int32.toUInt32 31)).toInt32, ())
     ) else (
      some ((z3 >>> (((32 : Int32) - (pA 0 u2.toNatClampNeg)) &&& 31)), ())
     )
    ) else none
   )
  ) else none
 ) else none
)
def f_X1_stop (u1 : Int32) (u2 : Int32) (mI : Nat → Int32) : Option ((Nat → Int32)) := (
 some ((upd (upd (upd mI 2 (1 : Int32)) 3 u1) 4 u2))
)
def f_X1_decide_b30 (y0 : Int32) (mI : Nat → Int32) (mJ : Nat → Int64) : Option (Int32 × (Nat → Int64)) := (
 if y0 = 0 then (
  if y0 = 0 ∨ y0 = 1 then some (y0, ((vp_updL mJ 3 ((mJ 3) ||| (mJ 1))))) else none
 ) else (
  if y0 = 0 ∨ y0 = 1 then some (y0, ((vp_updL (vp_updL mJ 3 ((mJ 3) ||| (mJ 1))) 4 (((vp_updL mJ 3 ((mJ 3) ||| (mJ 1))) 4) ||| ((vp_updL mJ 3 ((mJ 3) ||| (mJ 1))) 1))))) else none
 )
)
def f_X1_decide (u1 : Int32) (mI : Nat → Int32) (mJ : Nat → Int64) : Option (Int32 × (Nat → Int64)) := (
 if (mI 0) = 0 then (
  f_X1_decide_b30 u1 mI mJ
 ) else (
  if (lg_cmp ((mJ 0) &&& (mJ 1)) (0 : Int64)) = 0 then (
   f_X1_decide_b30 (0 : Int32) mI mJ
  ) else (
   f_X1_decide_b30 (1 : Int32) mI mJ
  )
 )
)
def f_X1_load_b33 (y1 : Int32) (y2 : Int32) (mI : Nat → Int32) (mJ : Nat → Int64) (mA : Nat → Nat → Int32) : Option ((Nat → Int32) × (Nat → Int64) × (Nat → Nat → Int32)) := (
 if inb y1 16 = true then (
  some (mI, mJ, (up2 mA 0 y1.toNatClampNeg y2))
 ) else none
)
def f_X1_load (u1 : Int32) (u2 : Int32) (mI : Nat → Int32) (mJ : Nat → Int64) (mA : Nat → Nat → Int32) : Option ((Nat → Int32) × (Nat → Int64) × (Nat → Nat → Int32)) := (
 (f_X4_isCell u2).bind fun (r2, _u2) => (
  (f_X1_decide r2 mI mJ).bind fun (r3, mJ3) => (
   if r3 = 0 then (
    (f_X1_stop (2 : Int32) (0 : Int32) mI).bind fun mI5 => (
     some (mI5, mJ3, mA)
    )
   ) else (
    (f_X4_isCell u2).bind fun (r6, _u6) => (
     if r6 = 0 then (
      f_X1_load_b33 u1 (0 : Int32) mI mJ3 mA
     ) else (
      if inb u2 8 = true then (
       f_X1_load_b33 u1 (mA 1 u2.toNatClampNeg) mI mJ3 mA
      ) else none
     )
    )
   )
  )
 )
)
def f_X1_store (u1 : Int32) (u2 : Int32) (mI : Nat → Int32) (mJ : Nat → Int64) (mA : Nat → Nat → Int32) : Option ((Nat → Int32) × (Nat → Int64) × (Nat → Nat → Int32)) := (
 (f_X4_isCell u1).bind fun (r1, _u1) => (
  (f_X1_decide r1 mI mJ).bind fun (r2, mJ2) => (
   if r2 = 0 then (
    (f_X1_stop (2 : Int32) (0 : Int32) mI).bind fun mI7 => (
     some (mI7, mJ2, mA)
    )
   ) else (
    (f_X4_isCell u1).bind fun (r4, _u4) => (
     if r4 = 0 then (
      some (mI, mJ2, mA)
     ) else (
      if inb u1 8 = true then (
       some (mI, mJ2, (up2 mA 1 u1.toNatClampNeg u2))
      ) else none
     )
    )
   )
  )
 )
)
def f_X1_stopUnlessTrue_b10 (y1 : Int32) (mI : Nat → Int32) (mJ : Nat → Int64) : Option ((Nat → Int32) × (Nat → Int64)) := (
 (f_X1_decide y1 mI mJ).bind fun (r1, mJ1) => (
  if r1 = 0 then (
   (f_X1_stop (3 : Int32) (0 : Int32) mI).bind fun mI3 => (
    some (mI3, mJ1)
   )
  ) else (
   some (mI, mJ1)
  )
 )
)
def f_X1_stopUnlessTrue (u1 : Int32) (mI : Nat → Int32) (mJ : Nat → Int64) : Option ((Nat → Int32) × (Nat → Int64)) := (
 if u1 = 0 then (
  f_X1_stopUnlessTrue_b10 (0 : Int32) mI mJ
 ) else (
  f_X1_stopUnlessTrue_b10 (1 : Int32) mI mJ
 )
)
def f_X1_calculate_b18 (x1 : Int32) (x2 : Int32) (x3 : Int32) (x4 : Int32) (y1 : Int32) (mI : Nat → Int32) (mJ : Nat → Int64) (mA : Nat → Nat → Int32) : Option ((Nat → Int32) × (Nat → Int64) × (Nat → Nat → Int32)) := (
 (f_X1_decide y1 mI mJ).bind fun (r1, mJ1) => (
  if r1 = 0 then (
   (f_X1_stop (1 : Int32) (0 : Int32) mI).bind fun mI3 => (
    some (mI3, mJ1, mA)
   )
  ) else (
   (f_X4_divide x1 x3 x4).bind fun (r4, _u4) => (
    if inb x2 16 = true then (
     some (mI, mJ1, (up2 mA 0 x2.toNatClampNeg r4))
    ) else none
   )
  )
 )
)
def f_X1_calculate (u1 : Int32) (u2 : Int32) (u3 : Int32) (u4 : Int32) (mI : Nat → Int32) (mJ : Nat → Int64) (mA : Nat → Nat → Int32) : Option ((Nat → Int32) × (Nat → Int64) × (Nat → Nat → Int32)) := (
 (f_X4_isDivision u1).bind fun (r6, _u6) => (
  if r6 = 0 then (
   if u1 = (24 : Int32) then (
    if u3 = 0 then (
     some (mI, mJ, mA)
    ) else (
     if inb u2 16 = true then (
      some (mI, mJ, (up2 mA 0 u2.toNatClampNeg u4))
     ) else none
    )
   ) else (
    (f_X4_combine u1 u3 u4).bind fun (r11, _u11) => (
     if inb u2 16 = true then (
      some (mI, mJ, (up2 mA 0 u2.toNatClampNeg r11))
     ) else none
    )
   )
  ) else (
   if u4 = 0 then (
    f_X1_calculate_b18 u1 u2 u3 u4 (0 : Int32) mI mJ mA
   ) else (
    f_X1_calculate_b18 u1 u2 u3 u4 (1 : Int32) mI mJ mA
   )
  )
 )
)
def f_X1_step_b400 (pI : Nat → Int32) (pA : Nat → Nat → Int32) (mI : Nat → Int32) (mJ : Nat → Int64) (mA : Nat → Nat → Int32) : Option (Int32 × (Nat → Int32) × (Nat → Int64) × (Nat → Nat → Int32)) := (
 some (((mI 1) + (1 : Int32)), (mI, mJ, mA))
)
def f_X1_step_b372 (x3 : Int32) (x4 : Int32) (x5 : Int32) (pI : Nat → Int32) (pA : Nat → Nat → Int32) (mI : Nat → Int32) (mJ : Nat → Int64) (mA : Nat → Nat → Int32) : Option (Int32 × (Nat → Int32) × (Nat → Int64) × (Nat → Nat → Int32)) := (
 if inb x5 16 = true then (
  if inb (mI 1) 60 = true then (
   if inb (pA 6 (mI 1).toNatClampNeg) 16 = true then (
    (f_X1_calculate x3 x4 (mA 0 x5.toNatClampNeg) (mA 0 (pA 6 (mI 1).toNatClampNeg).toNatClampNeg) mI mJ mA).bind fun (mI4, mJ4, mA4) => (
     f_X1_step_b400 pI pA mI4 mJ4 mA4
    )
   ) else none
  ) else none
 ) else none
)
def f_X1_step_b312 (x5 : Int32) (y1 : Int32) (pI : Nat → Int32) (pA : Nat → Nat → Int32) (mI : Nat → Int32) (mJ : Nat → Int64) (mA : Nat → Nat → Int32) : Option (Int32 × (Nat → Int32) × (Nat → Int64) × (Nat → Nat → Int32)) := (
 (f_X1_decide y1 mI mJ).bind fun (r5, mJ5) => (
  if r5 = 0 then (
   some (((mI 1) + (1 : Int32)), (mI, mJ5, mA))
  ) else (
   some (x5, (mI, mJ5, mA))
  )
 )
)
def f_X1_step (u2 : Int32) (pI : Nat → Int32) (pA : Nat → Nat → Int32) (mI : Nat → Int32) (mJ : Nat → Int64) (mA : Nat → Nat → Int32) : Option (Int32 × (Nat → Int32) × (Nat → Int64) × (Nat → Nat → Int32)) := (
 if inb (mI 1) 60 = true then (
  if inb (mI 1) 60 = true then (
   if inb (mI 1) 60 = true then (
    if (pA 3 (mI 1).toNatClampNeg) = (0 : Int32) then (
     if inb (pA 4 (mI 1).toNatClampNeg) 16 = true then (
      f_X1_step_b400 pI pA mI mJ (up2 mA 0 (pA 4 (mI 1).toNatClampNeg).toNatClampNeg (pA 5 (mI 1).toNatClampNeg))
     ) else none
    ) else (
     if (pA 3 (mI 1).toNatClampNeg) = (1 : Int32) then (
      (f_X3_inputIn u2 (pA 5 (mI 1).toNatClampNeg) pI pA).bind fun (r11, _u11) => (
       if inb (pA 4 (mI 1).toNatClampNeg) 16 = true then (
        f_X1_step_b400 pI pA mI mJ (up2 mA 0 (pA 4 (mI 1).toNatClampNeg).toNatClampNeg r11)
       ) else none
      )
     ) else (
      if (pA 3 (mI 1).toNatClampNeg) = (2 : Int32) then (
       if inb (pA 5 (mI 1).toNatClampNeg) 16 = true then (
        if inb (pA 4 (mI 1).toNatClampNeg) 16 = true then (
         f_X1_step_b400 pI pA mI mJ (up2 mA 0 (pA 4 (mI 1).toNatClampNeg).toNatClampNeg (mA 0 (pA 5 (mI 1).toNatClampNeg).toNatClampNeg))
        ) else none
       ) else none
      ) else (
       if (pA 3 (mI 1).toNatClampNeg) = (22 : Int32) then (
        if inb (pA 5 (mI 1).toNatClampNeg) 16 = true then (
         if inb (pA 4 (mI 1).toNatClampNeg) 16 = true then (
          f_X1_step_b400 pI pA mI mJ (up2 mA 0 (pA 4 (mI 1).toNatClampNeg).toNatClampNeg ((mA 0 (pA 5 (mI 1).toNatClampNeg).toNatClampNeg) ^^^ (-1 : Int32)))
         ) else none
        ) else none
       ) else (
        if (pA 3 (mI 1).toNatClampNeg) = (23 : Int32) then (
         if inb (pA 5 (mI 1).toNatClampNeg) 16 = true then (
          if inb (pA 4 (mI 1).toNatClampNeg) 16 = true then (
           f_X1_step_b400 pI pA mI mJ (up2 mA 0 (pA 4 (mI 1).toNatClampNeg).toNatClampNeg (-(mA 0 (pA 5 (mI 1).toNatClampNeg).toNatClampNeg)))
          ) else none
         ) else none
        ) else (
         if (pA 3 (mI 1).toNatClampNeg) = (25 : Int32) then (
          if inb (pA 5 (mI 1).toNatClampNeg) 16 = true then (
           (f_X1_load (pA 4 (mI 1).toNatClampNeg) (mA 0 (pA 5 (mI 1).toNatClampNeg).toNatClampNeg) mI mJ mA).bind fun (mI20, mJ20, mA20) => (
            f_X1_step_b400 pI pA mI20 mJ20 mA20
           )
          ) else none
         ) else (
          if (pA 3 (mI 1).toNatClampNeg) = (26 : Int32) then (
           if inb (pA 4 (mI 1).toNatClampNeg) 16 = true then (
            if inb (pA 5 (mI 1).toNatClampNeg) 16 = true then (
             (f_X1_store (mA 0 (pA 4 (mI 1).toNatClampNeg).toNatClampNeg) (mA 0 (pA 5 (mI 1).toNatClampNeg).toNatClampNeg) mI mJ mA).bind fun (mI23, mJ23, mA23) => (
              f_X1_step_b400 pI pA mI23 mJ23 mA23
             )
            ) else none
           ) else none
          ) else (
           if (pA 3 (mI 1).toNatClampNeg) = (27 : Int32) then (
            if inb (pA 4 (mI 1).toNatClampNeg) 16 = true then (
             if (mA 0 (pA 4 (mI 1).toNatClampNeg).toNatClampNeg) = 0 then (
              f_X1_step_b312 (pA 5 (mI 1).toNatClampNeg) (0 : Int32) pI pA mI mJ mA
             ) else (
              f_X1_step_b312 (pA 5 (mI 1).toNatClampNeg) (1 : Int32) pI pA mI mJ mA
             )
            ) else none
           ) else (
            if (pA 3 (mI 1).toNatClampNeg) = (28 : Int32) then (
             some ((pA 4 (mI 1).toNatClampNeg), (mI, mJ, mA))
            ) else (
             if (pA 3 (mI 1).toNatClampNeg) = (29 : Int32) then (
              if inb (pA 4 (mI 1).toNatClampNeg) 16 = true then (
               (f_X1_stopUnlessTrue (mA 0 (pA 4 (mI 1).toNatClampNeg).toNatClampNeg) mI mJ).bind fun (mI27, mJ27) => (
                f_X1_step_b400 pI pA mI27 mJ27 mA
               )
              ) else none
             ) else (
              if (pA 3 (mI 1).toNatClampNeg) = (30 : Int32) then (
               (f_X1_stop (4 : Int32) (pA 4 (mI 1).toNatClampNeg) mI).bind fun mI28 => (
                f_X1_step_b400 pI pA mI28 mJ mA
               )
              ) else (
               if (pA 3 (mI 1).toNatClampNeg) = (31 : Int32) then (
                if inb (pA 4 (mI 1).toNatClampNeg) 16 = true then (
                 (f_X1_stop (0 : Int32) (mA 0 (pA 4 (mI 1).toNatClampNeg).toNatClampNeg) mI).bind fun mI30 => (
                  f_X1_step_b400 pI pA mI30 mJ mA
                 )
                ) else none
               ) else (
                f_X1_step_b372 (pA 3 (mI 1).toNatClampNeg) (pA 4 (mI 1).toNatClampNeg) (pA 5 (mI 1).toNatClampNeg) pI pA mI mJ mA
               )
              )
             )
            )
           )
          )
         )
        )
       )
      )
     )
    )
   ) else none
  ) else none
 ) else none
)
def f_X1_begin0_b42 (n : Nat) (y1 : Int64) (mI : Nat → Int32) (mJ : Nat → Int64) (mA : Nat → Nat → Int32) : Option ((Nat → Int32) × (Nat → Int64) × (Nat → Nat → Int32)) := (
 some ((upd mI 2 (0 : Int32)), (vp_updL (vp_updL (vp_updL (vp_updL mJ 0 y1) 2 (0 : Int64)) 3 (0 : Int64)) 4 (0 : Int64)), mA)
)
def f_X1_begin0_b26 (n : Nat) (y1 : Int32) (mI : Nat → Int32) (mJ : Nat → Int64) (mA : Nat → Nat → Int32) : Option ((Nat → Int32) × (Nat → Int64) × (Nat → Nat → Int32)) := (
 if y1 = 0 ∨ y1 = 1 then (
  f_X1_begin0_b42 n (0 : Int64) (upd mI 0 y1) mJ mA
 ) else none
)
def f_X1_begin0 (n : Nat) (mI : Nat → Int32) (mJ : Nat → Int64) (mA : Nat → Nat → Int32) : Option ((Nat → Int32) × (Nat → Int64) × (Nat → Nat → Int32)) := (
 (f_J7_fill_53178 n 16 (0 : Int32) (mA 0)).bind fun xA2 => (
  (f_J7_fill_53178 n 8 (0 : Int32) ((va_up mA 0 xA2) 1)).bind fun xA3 => (
   f_X1_begin0_b26 n (0 : Int32) mI mJ (va_up (va_up mA 0 xA2) 1 xA3)
  )
 )
)
def f_X1_begin1_b42 (n : Nat) (L : List Nat) (y1 : Int64) (mI : Nat → Int32) (mJ : Nat → Int64) (mA : Nat → Nat → Int32) (qJ : Nat → Nat → Int64) : Option ((Nat → Int32) × (Nat → Int64) × (Nat → Nat → Int32)) := (
 some ((upd mI 2 (0 : Int32)), (vp_updL (vp_updL (vp_updL (vp_updL mJ 0 y1) 2 (0 : Int64)) 3 (0 : Int64)) 4 (0 : Int64)), mA)
)
def f_X1_begin1_b26 (n : Nat) (L : List Nat) (x1 : Nat) (y1 : Int32) (mI : Nat → Int32) (mJ : Nat → Int64) (mA : Nat → Nat → Int32) (qJ : Nat → Nat → Int64) : Option ((Nat → Int32) × (Nat → Int64) × (Nat → Nat → Int32)) := (
 if y1 = 0 ∨ y1 = 1 then (
  if x1 ∈ L then (
   f_X1_begin1_b42 n L (qJ x1 1) (upd mI 0 y1) mJ mA qJ
  ) else none
 ) else none
)
def f_X1_begin1 (n : Nat) (L : List Nat) (u1 : Nat) (mI : Nat → Int32) (mJ : Nat → Int64) (mA : Nat → Nat → Int32) (qJ : Nat → Nat → Int64) : Option ((Nat → Int32) × (Nat → Int64) × (Nat → Nat → Int32)) := (
 (f_J7_fill_53178 n 16 (0 : Int32) (mA 0)).bind fun xA4 => (
  (f_J7_fill_53178 n 8 (0 : Int32) ((va_up mA 0 xA4) 1)).bind fun xA5 => (
   f_X1_begin1_b26 n L u1 (1 : Int32) mI mJ (va_up (va_up mA 0 xA4) 1 xA5) qJ
  )
 )
)
def f_X1_execute0_b78 (n : Nat) (pI : Nat → Int32) (pA : Nat → Nat → Int32) (mI : Nat → Int32) (mJ : Nat → Int64) (mA : Nat → Nat → Int32) : Option ((Nat → Int32) × (Nat → Int64) × (Nat → Nat → Int32)) := (
 if (mI 2) = 0 then (
  (f_X1_stop (0 : Int32) (0 : Int32) (upd mI 1 (pI 2))).bind fun mI2 => (
   some (mI2, mJ, mA)
  )
 ) else (
  some (mI, mJ, mA)
 )
)
def f_X1_execute0_l11 (n : Nat) (x2 : Int32) (pI : Nat → Int32) (pA : Nat → Nat → Int32) (rc11 : (Int32 × Int32 × (Nat → Int32) × (Nat → Int64) × (Nat → Nat → Int32)) → Option ((Nat → Int32) × (Nat → Int64) × (Nat → Nat → Int32))) : (Int32 × Int32 × (Nat → Int32) × (Nat → Int64) × (Nat → Nat → Int32)) → Option ((Nat → Int32) × (Nat → Int64) × (Nat → Nat → Int32)) := fun (x4, x5, mI, mJ, mA) => (
 if (60 : Int32) ≤ x5 then (
  f_X1_execute0_b78 n pI pA mI mJ mA
 ) else (
  if (pI 2) ≤ x4 then (
   f_X1_execute0_b78 n pI pA mI mJ mA
  ) else (
   if (mI 2) = 0 then (
    (f_X4_mark ((upd mI 1 x4) 1)).bind fun (r6, _u6) => (
     (f_X1_step x2 pI pA (upd mI 1 x4) (vp_updL (vp_updL mJ 1 r6) 2 (((vp_updL mJ 1 r6) 2) ||| ((vp_updL mJ 1 r6) 1))) mA).bind fun (r7, mI7, mJ7, mA7) => (
      rc11 (r7, (x5 + 1), mI7, mJ7, mA7)
     )
    )
   ) else (
    f_X1_execute0_b78 n pI pA mI mJ mA
   )
  )
 )
)
def f_X1_execute0 (n : Nat) (u2 : Int32) (pI : Nat → Int32) (pA : Nat → Nat → Int32) (mI : Nat → Int32) (mJ : Nat → Int64) (mA : Nat → Nat → Int32) : Option ((Nat → Int32) × (Nat → Int64) × (Nat → Nat → Int32)) := (
 (f_X1_begin0 n mI mJ mA).bind fun (mI8, mJ8, mA8) => (
  lp (f_X1_execute0_l11 n u2 pI pA) n ((0 : Int32), (0 : Int32), mI8, mJ8, mA8)
 )
)
def f_X1_execute1_b78 (n : Nat) (L : List Nat) (pI : Nat → Int32) (pA : Nat → Nat → Int32) (mI : Nat → Int32) (mJ : Nat → Int64) (mA : Nat → Nat → Int32) (qJ : Nat → Nat → Int64) : Option ((Nat → Int32) × (Nat → Int64) × (Nat → Nat → Int32)) := (
 if (mI 2) = 0 then (
  (f_X1_stop (0 : Int32) (0 : Int32) (upd mI 1 (pI 2))).bind fun mI2 => (
   some (mI2, mJ, mA)
  )
 ) else (
  some (mI, mJ, mA)
 )
)
def f_X1_execute1_l11 (n : Nat) (L : List Nat) (x2 : Int32) (pI : Nat → Int32) (pA : Nat → Nat → Int32) (qJ : Nat → Nat → Int64) (rc11 : (Int32 × Int32 × (Nat → Int32) × (Nat → Int64) × (Nat → Nat → Int32)) → Option ((Nat → Int32) × (Nat → Int64) × (Nat → Nat → Int32))) : (Int32 × Int32 × (Nat → Int32) × (Nat → Int64) × (Nat → Nat → Int32)) → Option ((Nat → Int32) × (Nat → Int64) × (Nat → Nat → Int32)) := fun (x4, x5, mI, mJ, mA) => (
 if (60 : Int32) ≤ x5 then (
  f_X1_execute1_b78 n L pI pA mI mJ mA qJ
 ) else (
  if (pI 2) ≤ x4 then (
   f_X1_execute1_b78 n L pI pA mI mJ mA qJ
  ) else (
   if (mI 2) = 0 then (
    (f_X4_mark ((upd mI 1 x4) 1)).bind fun (r6, _u6) => (
     (f_X1_step x2 pI pA (upd mI 1 x4) (vp_updL (vp_updL mJ 1 r6) 2 (((vp_updL mJ 1 r6) 2) ||| ((vp_updL mJ 1 r6) 1))) mA).bind fun (r7, mI7, mJ7, mA7) => (
      rc11 (r7, (x5 + 1), mI7, mJ7, mA7)
     )
    )
   ) else (
    f_X1_execute1_b78 n L pI pA mI mJ mA qJ
   )
  )
 )
)
def f_X1_execute1 (n : Nat) (L : List Nat) (u2 : Int32) (u3 : Nat) (pI : Nat → Int32) (pA : Nat → Nat → Int32) (mI : Nat → Int32) (mJ : Nat → Int64) (mA : Nat → Nat → Int32) (qJ : Nat → Nat → Int64) : Option ((Nat → Int32) × (Nat → Int64) × (Nat → Nat → Int32)) := (
 (f_X1_begin1 n L u3 mI mJ mA qJ).bind fun (mI8, mJ8, mA8) => (
  lp (f_X1_execute1_l11 n L u2 pI pA qJ) n ((0 : Int32), (0 : Int32), mI8, mJ8, mA8)
 )
)
def f_X2_take (L : List Nat) (u0 : Nat) (u2 : Int32) (mI : Nat → Int32) (mJ : Nat → Int64) (qI : Nat → Nat → Int32) (qJ : Nat → Nat → Int64) : Option ((Nat → Nat → Int32) × (Nat → Nat → Int64)) := (
 if u0 ∈ L then (
  some ((up2 (up2 (up2 (up2 (up2 qI u0 0 (mI 3)) u0 1 (mI 1)) u0 2 u2) u0 3 (mI 4)) u0 4 (1 : Int32)), (up2J (up2J qJ u0 0 (mJ 3)) u0 1 (mJ 4)))
 ) else none
)
def f_X0_forget (tI : Nat → Int32) (tJ : Nat → Int64) : Option ((Nat → Int32) × (Nat → Int64)) := (
 some ((upd tI 0 (0 : Int32)), (vp_updL (vp_updL tJ 0 (0 : Int64)) 1 (0 : Int64)))
)
def f_X0_isKnown (tI : Nat → Int32) : Option (Int32 × Unit) := (
 if (tI 0) ≤ 0 then (
  some ((0 : Int32), ())
 ) else (
  some ((1 : Int32), ())
 )
)
def f_X0_knownOrNone (u1 : Int32) (tI : Nat → Int32) : Option (Int32 × Unit) := (
 (f_X0_isKnown tI).bind fun (r1, _u1) => (
  if r1 = 0 then (
   some ((-1 : Int32), ())
  ) else (
   some (u1, ())
  )
 )
)
def f_X0_isWanted (u0 : Int32) (u1 : Int32) (u2 : Int32) : Option (Int32 × Unit) := (
 if u1 = (0 : Int32) then (
  if u0 = u2 then (
   some ((1 : Int32), ())
  ) else (
   some ((0 : Int32), ())
  )
 ) else (
  if u1 = (1 : Int32) then (
   if u0 = u2 then (
    some ((0 : Int32), ())
   ) else (
    some ((1 : Int32), ())
   )
  ) else (
   if u1 = (2 : Int32) then (
    (f_X4_isBelowUnsigned u0 u2).bind fun (r3, _u3) => (
     if r3 = 0 ∨ r3 = 1 then some (r3, ()) else none
    )
   ) else (
    if u1 = (3 : Int32) then (
     if u2 ≤ u0 then (
      some ((0 : Int32), ())
     ) else (
      some ((1 : Int32), ())
     )
    ) else (
     some ((0 : Int32), ())
    )
   )
  )
 )
)
def f_X0_pathAt (L : List Nat) (u1 : Int32) (tI : Nat → Int32) (tP : Nat → Option Nat) : Option (Option Nat × Unit) := (
 if u1 < 0 then (
  some (none, ())
 ) else (
  if (tI 0) ≤ u1 then (
   some (none, ())
  ) else (
   if inb u1 40 = true then (
    (tP u1.toNatClampNeg).bind fun a4 => (
     if a4 ∈ L then (
      some ((some a4), ())
     ) else none
    )
   ) else none
  )
 )
)
def f_X0_firstNotAheadOf_b32 (n : Nat) (L : List Nat) (tI : Nat → Int32) (tP : Nat → Option Nat) (qJ : Nat → Nat → Int64) : Option (Int32 × Unit) := (
 some ((tI 0), ())
)
def f_X0_firstNotAheadOf_l2 (n : Nat) (L : List Nat) (x1 : Int64) (tI : Nat → Int32) (tP : Nat → Option Nat) (qJ : Nat → Nat → Int64) (rc2 : (Int32) → Option (Int32 × Unit)) : (Int32) → Option (Int32 × Unit) := fun x3 => (
 if (tI 0) ≤ x3 then (
  f_X0_firstNotAheadOf_b32 n L tI tP qJ
 ) else (
  if inb x3 40 = true then (
   (tP x3.toNatClampNeg).bind fun a3 => (
    if a3 ∈ L then (
     if 0 < (lg_cmp (qJ a3 1) x1) then (
      rc2 ((x3 + 1))
     ) else (
      some (x3, ())
     )
    ) else none
   )
  ) else none
 )
)
def f_X0_firstNotAheadOf (n : Nat) (L : List Nat) (u1 : Int64) (tI : Nat → Int32) (tP : Nat → Option Nat) (qJ : Nat → Nat → Int64) : Option (Int32 × Unit) := (
 lp (f_X0_firstNotAheadOf_l2 n L u1 tI tP qJ) n ((0 : Int32))
)
def f_X0_insertAt_b40 (n : Nat) (L : List Nat) (x1 : Int32) (x2 : Nat) (tI : Nat → Int32) (tP : Nat → Option Nat) : Option (Option Nat × (Nat → Int32) × (Nat → Option Nat)) := (
 if inb x1 40 = true then (
  if x2 ∈ L then (
   some ((some x2), ((upd tI 0 ((tI 0) + (1 : Int32))), (va_up tP x1.toNatClampNeg (some x2))))
  ) else none
 ) else none
)
def f_X0_insertAt_l15 (n : Nat) (L : List Nat) (x1 : Int32) (x2 : Nat) (tI : Nat → Int32) (rc15 : (Int32 × (Nat → Option Nat)) → Option (Option Nat × (Nat → Int32) × (Nat → Option Nat))) : (Int32 × (Nat → Option Nat)) → Option (Option Nat × (Nat → Int32) × (Nat → Option Nat)) := fun (x3, tP) => (
 if x3 ≤ x1 then (
  f_X0_insertAt_b40 n L x1 x2 tI tP
 ) else (
  if inb (x3 - (1 : Int32)) 40 = true then (
   (tP (x3 - (1 : Int32)).toNatClampNeg).bind fun a6 => (
    if a6 ∈ L then (
     if inb x3 40 = true then (
      rc15 ((x3 + (-1)), (va_up tP x3.toNatClampNeg (some a6)))
     ) else none
    ) else none
   )
  ) else none
 )
)
def f_X0_insertAt (n : Nat) (L : List Nat) (u1 : Int32) (tI : Nat → Int32) (tP : Nat → Option Nat) : Option (Option Nat × (Nat → Int32) × (Nat → Option Nat)) := (
 if inb (tI 0) 40 = true then (
  (tP (tI 0).toNatClampNeg).bind fun a12 => (
   if a12 ∈ L then (
    lp (f_X0_insertAt_l15 n L u1 a12 tI) n ((tI 0), tP)
   ) else none
  )
 ) else none
)
def f_X0_numberOf (n : Nat) (L : List Nat) (u1 : Int64) (tI : Nat → Int32) (tP : Nat → Option Nat) (qJ : Nat → Nat → Int64) : Option (Int32 × Unit) := (
 (f_X0_firstNotAheadOf n L u1 tI tP qJ).bind fun (r1, _u1) => (
  if (tI 0) ≤ r1 then (
   some ((-1 : Int32), ())
  ) else (
   if inb r1 40 = true then (
    (tP r1.toNatClampNeg).bind fun a4 => (
     if a4 ∈ L then (
      if (lg_cmp (qJ a4 1) u1) = 0 then (
       some (r1, ())
      ) else (
       some ((-1 : Int32), ())
      )
     ) else none
    )
   ) else none
  )
 )
)
def f_X0_goes (L : List Nat) (u1 : Nat) (u2 : Int32) (tO : Nat → Int64) (qJ : Nat → Nat → Int64) : Option (Int32 × Unit) := (
 if inb u2 4096 = true then (
  if u1 ∈ L then (
   if (lg_cmp (tO u2.toNatClampNeg) (qJ u1 1)) = 0 then (
    some ((1 : Int32), ())
   ) else (
    some ((0 : Int32), ())
   )
  ) else none
 ) else none
)
def f_X0_leastWordWith_b41 (n : Nat) (L : List Nat) (rc6 : (Int32) → Option (Int32 × Unit)) (x1 : Nat) (x2 : Int32) (x3 : Int32) (x4 : Int32) (x5 : Int32) (tO : Nat → Int64) (tR : Nat → Int32) (qI : Nat → Nat → Int32) (qJ : Nat → Nat → Int64) : Option (Int32 × Unit) := (
 rc6 ((x5 + 1))
)
def f_X0_leastWordWith_l6 (n : Nat) (L : List Nat) (x1 : Nat) (x2 : Int32) (x3 : Int32) (x4 : Int32) (tO : Nat → Int64) (tR : Nat → Int32) (qI : Nat → Nat → Int32) (qJ : Nat → Nat → Int64) (rc6 : (Int32) → Option (Int32 × Unit)) : (Int32) → Option (Int32 × Unit) := fun x5 => (
 if x4 ≤ x5 then (
  some ((-1 : Int32), ())
 ) else (
  (f_X0_goes L x1 x5 tO qJ).bind fun (r2, _u2) => (
   if r2 = 0 then (
    f_X0_leastWordWith_b41 n L rc6 x1 x2 x3 x4 x5 tO tR qI qJ
   ) else (
    if inb x5 4096 = true then (
     (f_X0_isWanted (tR x5.toNatClampNeg) x2 x3).bind fun (r5, _u5) => (
      if r5 = 0 then (
       f_X0_leastWordWith_b41 n L rc6 x1 x2 x3 x4 x5 tO tR qI qJ
      ) else (
       some (x5, ())
      )
     )
    ) else none
   )
  )
 )
)
def f_X0_leastWordWith (n : Nat) (L : List Nat) (u1 : Nat) (u2 : Int32) (u3 : Int32) (u4 : Int32) (tO : Nat → Int64) (tR : Nat → Int32) (qI : Nat → Nat → Int32) (qJ : Nat → Nat → Int64) : Option (Int32 × Unit) := (
 if u1 ∈ L then (
  lp (f_X0_leastWordWith_l6 n L u1 u2 u3 u4 tO tR qI qJ) n ((qI u1 2))
 ) else none
)
def f_X0_firstFailing_b80 (n : Nat) (L : List Nat) (rc14 : ((Option Nat) × Int32) → Option (Option Nat × Unit)) (x2 : Int32) (x3 : Option Nat) (x4 : Int32) (tI : Nat → Int32) (tJ : Nat → Int64) (tP : Nat → Option Nat) (qI : Nat → Nat → Int32) : Option (Option Nat × Unit) := (
 match x3 with
 | none => (
  rc14 (none, (x4 + 1))
 )
 | some a3 => (
  rc14 ((some a3), (x4 + 1))
 )
)
def f_X0_firstFailing_b77 (n : Nat) (L : List Nat) (rc14 : ((Option Nat) × Int32) → Option (Option Nat × Unit)) (x2 : Int32) (x4 : Int32) (x5 : Nat) (tI : Nat → Int32) (tJ : Nat → Int64) (tP : Nat → Option Nat) (qI : Nat → Nat → Int32) : Option (Option Nat × Unit) := (
 f_X0_firstFailing_b80 n L rc14 x2 (some x5) x4 tI tJ tP qI
)
def f_X0_firstFailing_b54 (n : Nat) (L : List Nat) (rc14 : ((Option Nat) × Int32) → Option (Option Nat × Unit)) (x2 : Int32) (x3 : Option Nat) (x4 : Int32) (x5 : Nat) (y0 : Int32) (tI : Nat → Int32) (tJ : Nat → Int64) (tP : Nat → Option Nat) (qI : Nat → Nat → Int32) : Option (Option Nat × Unit) := (
 match x3 with
 | none => (
  if y0 = 0 then (
   f_X0_firstFailing_b80 n L rc14 x2 none x4 tI tJ tP qI
  ) else (
   f_X0_firstFailing_b77 n L rc14 x2 x4 x5 tI tJ tP qI
  )
 )
 | some a3 => (
  if y0 = 0 then (
   f_X0_firstFailing_b80 n L rc14 x2 (some a3) x4 tI tJ tP qI
  ) else (
   if x5 ∈ L then (
    if a3 ∈ L then (
     if (qI a3 2) ≤ (qI x5 2) then (
      f_X0_firstFailing_b80 n L rc14 x2 (some a3) x4 tI tJ tP qI
     ) else (
      f_X0_firstFailing_b77 n L rc14 x2 x4 x5 tI tJ tP qI
     )
    ) else none
   ) else none
  )
 )
)
def f_X0_firstFailing_b53 (n : Nat) (L : List Nat) (rc14 : ((Option Nat) × Int32) → Option (Option Nat × Unit)) (x2 : Int32) (x3 : Option Nat) (x4 : Int32) (x5 : Nat) (tI : Nat → Int32) (tJ : Nat → Int64) (tP : Nat → Option Nat) (qI : Nat → Nat → Int32) : Option (Option Nat × Unit) := (
 match x3 with
 | none => (
  f_X0_firstFailing_b54 n L rc14 x2 none x4 x5 (0 : Int32) tI tJ tP qI
 )
 | some a3 => (
  f_X0_firstFailing_b54 n L rc14 x2 (some a3) x4 x5 (0 : Int32) tI tJ tP qI
 )
)
def f_X0_firstFailing_l14 (n : Nat) (L : List Nat) (x2 : Int32) (tI : Nat → Int32) (tJ : Nat → Int64) (tP : Nat → Option Nat) (qI : Nat → Nat → Int32) (rc14 : ((Option Nat) × Int32) → Option (Option Nat × Unit)) : ((Option Nat) × Int32) → Option (Option Nat × Unit) := fun (x3, x4) => (
 match x3 with
 | none => (
  if (tI 0) ≤ x4 then (
   some (none, ())
  ) else (
   if inb x4 40 = true then (
    (tP x4.toNatClampNeg).bind fun a10 => (
     if a10 ∈ L then (
      if (qI a10 0) = 0 then (
       f_X0_firstFailing_b53 n L rc14 x2 none x4 a10 tI tJ tP qI
      ) else (
       if (qI a10 1) = x2 then (
        f_X0_firstFailing_b54 n L rc14 x2 none x4 a10 (1 : Int32) tI tJ tP qI
       ) else (
        f_X0_firstFailing_b53 n L rc14 x2 none x4 a10 tI tJ tP qI
       )
      )
     ) else none
    )
   ) else none
  )
 )
 | some a3 => (
  if (tI 0) ≤ x4 then (
   some ((some a3), ())
  ) else (
   if inb x4 40 = true then (
    (tP x4.toNatClampNeg).bind fun a19 => (
     if a19 ∈ L then (
      if (qI a19 0) = 0 then (
       f_X0_firstFailing_b53 n L rc14 x2 (some a3) x4 a19 tI tJ tP qI
      ) else (
       if (qI a19 1) = x2 then (
        f_X0_firstFailing_b54 n L rc14 x2 (some a3) x4 a19 (1 : Int32) tI tJ tP qI
       ) else (
        f_X0_firstFailing_b53 n L rc14 x2 (some a3) x4 a19 tI tJ tP qI
       )
      )
     ) else none
    )
   ) else none
  )
 )
)
def f_X0_firstFailing (n : Nat) (L : List Nat) (u1 : Int32) (tI : Nat → Int32) (tJ : Nat → Int64) (tP : Nat → Option Nat) (qI : Nat → Nat → Int32) : Option (Option Nat × Unit) := (
 (f_X4_placeOfMark n (tJ 1) u1).bind fun (r26, _u26) => (
  lp (f_X0_firstFailing_l14 n L r26 tI tJ tP qI) n (none, (0 : Int32))
 )
)
def f_X0_enter_b136 (n : Nat) (L : List Nat) (x2 : Int32) (tI : Nat → Int32) (tJ : Nat → Int64) (tP : Nat → Option Nat) (tO : Nat → Int64) (tR : Nat → Int32) (mI : Nat → Int32) (mJ : Nat → Int64) (qI : Nat → Nat → Int32) (qJ : Nat → Nat → Int64) : Option (Int32 × (Nat → Int32) × (Nat → Int64) × (Nat → Option Nat) × (Nat → Int64) × (Nat → Int32) × (Nat → Nat → Int32) × (Nat → Nat → Int64)) := (
 if inb x2 4096 = true then (
  if inb x2 4096 = true then (
   some ((1 : Int32), (tI, tJ, tP, (vp_updL tO x2.toNatClampNeg (mJ 4)), (upd tR x2.toNatClampNeg (mI 4)), qI, qJ))
  ) else none
 ) else none
)
def f_X0_enter_b127 (n : Nat) (L : List Nat) (x2 : Int32) (y1 : Int64) (y2 : Int64) (tI : Nat → Int32) (tJ : Nat → Int64) (tP : Nat → Option Nat) (tO : Nat → Int64) (tR : Nat → Int32) (mI : Nat → Int32) (mJ : Nat → Int64) (qI : Nat → Nat → Int32) (qJ : Nat → Nat → Int64) : Option (Int32 × (Nat → Int32) × (Nat → Int64) × (Nat → Option Nat) × (Nat → Int64) × (Nat → Int32) × (Nat → Nat → Int32) × (Nat → Nat → Int64)) := (
 f_X0_enter_b136 n L x2 tI (vp_updL tJ 1 (y1 ||| y2)) tP tO tR mI mJ qI qJ
)
def f_X0_enter_b72 (n : Nat) (L : List Nat) (x2 : Int32) (x3 : Int32) (tI : Nat → Int32) (tJ : Nat → Int64) (tP : Nat → Option Nat) (tO : Nat → Int64) (tR : Nat → Int32) (mI : Nat → Int32) (mJ : Nat → Int64) (qI : Nat → Nat → Int32) (qJ : Nat → Nat → Int64) : Option (Int32 × (Nat → Int32) × (Nat → Int64) × (Nat → Option Nat) × (Nat → Int64) × (Nat → Int32) × (Nat → Nat → Int32) × (Nat → Nat → Int64)) := (
 if (40 : Int32) ≤ (tI 0) then (
  some ((0 : Int32), (tI, tJ, tP, tO, tR, qI, qJ))
 ) else (
  (f_X0_insertAt n L x3 tI tP).bind fun (r4, tI4, tP4) => (
   match r4 with
   | none => (
    none
   )
   | some a5 => (
    if a5 ∈ L then (
     (f_X2_take L a5 x2 mI mJ qI qJ).bind fun (qI7, qJ7) => (
      if (mI 3) = 0 then (
       f_X0_enter_b127 n L x2 ((vp_updL tJ 0 ((tJ 0) ||| (mJ 2))) 1) (0 : Int64) tI4 (vp_updL tJ 0 ((tJ 0) ||| (mJ 2))) tP4 tO tR mI mJ qI7 qJ7
      ) else (
       (f_X4_mark (mI 1)).bind fun (r10, _u10) => (
        f_X0_enter_b127 n L x2 ((vp_updL tJ 0 ((tJ 0) ||| (mJ 2))) 1) r10 tI4 (vp_updL tJ 0 ((tJ 0) ||| (mJ 2))) tP4 tO tR mI mJ qI7 qJ7
       )
      )
     )
    ) else none
   )
  )
 )
)
def f_X0_enter_b65 (n : Nat) (L : List Nat) (x2 : Int32) (y0 : Nat) (y1 : Int32) (y2 : Int32) (tI : Nat → Int32) (tJ : Nat → Int64) (tP : Nat → Option Nat) (tO : Nat → Int64) (tR : Nat → Int32) (mI : Nat → Int32) (mJ : Nat → Int64) (qI : Nat → Nat → Int32) (qJ : Nat → Nat → Int64) : Option (Int32 × (Nat → Int32) × (Nat → Int64) × (Nat → Option Nat) × (Nat → Int64) × (Nat → Int32) × (Nat → Nat → Int32) × (Nat → Nat → Int64)) := (
 if (y1 &&& y2) = 0 ∨ (y1 &&& y2) = 1 then (
  if y0 ∈ L then (
   f_X0_enter_b136 n L x2 tI tJ tP tO tR mI mJ (up2 qI y0 4 (y1 &&& y2)) qJ
  ) else none
 ) else none
)
def f_X0_enter (n : Nat) (L : List Nat) (u2 : Int32) (tI : Nat → Int32) (tJ : Nat → Int64) (tP : Nat → Option Nat) (tO : Nat → Int64) (tR : Nat → Int32) (mI : Nat → Int32) (mJ : Nat → Int64) (qI : Nat → Nat → Int32) (qJ : Nat → Nat → Int64) : Option (Int32 × (Nat → Int32) × (Nat → Int64) × (Nat → Option Nat) × (Nat → Int64) × (Nat → Int32) × (Nat → Nat → Int32) × (Nat → Nat → Int64)) := (
 (f_X0_firstNotAheadOf n L (mJ 4) tI tP qJ).bind fun (r14, _u14) => (
  if (tI 0) ≤ r14 then (
   f_X0_enter_b72 n L u2 r14 tI tJ tP tO tR mI mJ qI qJ
  ) else (
   if inb r14 40 = true then (
    (tP r14.toNatClampNeg).bind fun a17 => (
     if a17 ∈ L then (
      if (lg_cmp (qJ a17 1) (mJ 4)) = 0 then (
       if inb r14 40 = true then (
        (tP r14.toNatClampNeg).bind fun a23 => (
         if a23 ∈ L then (
          if inb r14 40 = true then (
           (tP r14.toNatClampNeg).bind fun a28 => (
            if a28 ∈ L then (
             if (qI a28 3) = (mI 4) then (
              f_X0_enter_b65 n L u2 a23 (qI a23 4) (1 : Int32) tI tJ tP tO tR mI mJ qI qJ
             ) else (
              f_X0_enter_b65 n L u2 a23 (qI a23 4) (0 : Int32) tI tJ tP tO tR mI mJ qI qJ
             )
            ) else none
           )
          ) else none
         ) else none
        )
       ) else none
      ) else (
       f_X0_enter_b72 n L u2 r14 tI tJ tP tO tR mI mJ qI qJ
      )
     ) else none
    )
   ) else none
  )
 )
)
def f_X0_survey_b36 (n : Nat) (L : List Nat) (pI : Nat → Int32) (pA : Nat → Nat → Int32) (tI : Nat → Int32) (tJ : Nat → Int64) (tP : Nat → Option Nat) (tO : Nat → Int64) (tR : Nat → Int32) (mI : Nat → Int32) (mJ : Nat → Int64) (mA : Nat → Nat → Int32) (qI : Nat → Nat → Int32) (qJ : Nat → Nat → Int64) : Option ((Nat → Int32) × (Nat → Int64) × (Nat → Option Nat) × (Nat → Int64) × (Nat → Int32) × (Nat → Int32) × (Nat → Int64) × (Nat → Nat → Int32) × (Nat → Nat → Int32) × (Nat → Nat → Int64)) := (
 (f_X0_forget tI tJ).bind fun (tI1, tJ1) => (
  some (tI1, tJ1, tP, tO, tR, mI, mJ, mA, qI, qJ)
 )
)
def f_X0_survey_l12 (n : Nat) (L : List Nat) (x3 : Int32) (pI : Nat → Int32) (pA : Nat → Nat → Int32) (rc12 : (Int32 × (Nat → Int32) × (Nat → Int64) × (Nat → Option Nat) × (Nat → Int64) × (Nat → Int32) × (Nat → Int32) × (Nat → Int64) × (Nat → Nat → Int32) × (Nat → Nat → Int32) × (Nat → Nat → Int64)) → Option ((Nat → Int32) × (Nat → Int64) × (Nat → Option Nat) × (Nat → Int64) × (Nat → Int32) × (Nat → Int32) × (Nat → Int64) × (Nat → Nat → Int32) × (Nat → Nat → Int32) × (Nat → Nat → Int64))) : (Int32 × (Nat → Int32) × (Nat → Int64) × (Nat → Option Nat) × (Nat → Int64) × (Nat → Int32) × (Nat → Int32) × (Nat → Int64) × (Nat → Nat → Int32) × (Nat → Nat → Int32) × (Nat → Nat → Int64)) → Option ((Nat → Int32) × (Nat → Int64) × (Nat → Option Nat) × (Nat → Int64) × (Nat → Int32) × (Nat → Int32) × (Nat → Int64) × (Nat → Nat → Int32) × (Nat → Nat → Int32) × (Nat → Nat → Int64)) := fun (x4, tI, tJ, tP, tO, tR, mI, mJ, mA, qI, qJ) => (
 if x3 ≤ x4 then (
  some (tI, tJ, tP, tO, tR, mI, mJ, mA, qI, qJ)
 ) else (
  (f_X1_execute0 n x4 pI pA mI mJ mA).bind fun (mI3, mJ3, mA3) => (
   (f_X0_enter n L x4 tI tJ tP tO tR mI3 mJ3 qI qJ).bind fun (r4, tI4, tJ4, tP4, tO4, tR4, qI4, qJ4) => (
    if r4 = 0 then (
     f_X0_survey_b36 n L pI pA tI4 tJ4 tP4 tO4 tR4 mI3 mJ3 mA3 qI4 qJ4
    ) else (
     rc12 ((x4 + 1), tI4, tJ4, tP4, tO4, tR4, mI3, mJ3, mA3, qI4, qJ4)
    )
   )
  )
 )
)
def f_X0_survey (n : Nat) (L : List Nat) (pI : Nat → Int32) (pA : Nat → Nat → Int32) (tI : Nat → Int32) (tJ : Nat → Int64) (tP : Nat → Option Nat) (tO : Nat → Int64) (tR : Nat → Int32) (mI : Nat → Int32) (mJ : Nat → Int64) (mA : Nat → Nat → Int32) (qI : Nat → Nat → Int32) (qJ : Nat → Nat → Int64) : Option ((Nat → Int32) × (Nat → Int64) × (Nat → Option Nat) × (Nat → Int64) × (Nat → Int32) × (Nat → Int32) × (Nat → Int64) × (Nat → Nat → Int32) × (Nat → Nat → Int32) × (Nat → Nat → Int64)) := (
 (f_X0_forget tI tJ).bind fun (tI6, tJ6) => (
  (f_X3_words pI).bind fun (r7, _u7) => (
   lp (f_X0_survey_l12 n L r7 pI pA) n ((0 : Int32), tI6, tJ6, tP, tO, tR, mI, mJ, mA, qI, qJ)
  )
 )
)
def f_X4_forgetFindings (L : List Nat) (bI : Nat → Int32) (tI : Nat → Int32) (tJ : Nat → Int64) : Option ((Nat → Int32) × (Nat → Int32) × (Nat → Int64)) := (
 (f_X0_forget tI tJ).bind fun (tI1, tJ1) => (
  some ((upd bI 1 (1 : Int32)), tI1, tJ1)
 )
)
def f_X4_input (L : List Nat) (u1 : Int32) (u2 : Int32) (bI : Nat → Int32) (pI : Nat → Int32) (pA : Nat → Nat → Int32) (tI : Nat → Int32) (tJ : Nat → Int64) : Option (Int32 × (Nat → Int32) × (Nat → Int32) × (Nat → Nat → Int32) × (Nat → Int32) × (Nat → Int64)) := (
 (f_X3_addInput u1 u2 pI pA).bind fun (r1, pI1, pA1) => (
  if r1 = (-1 : Int32) then (
   some (r1, (bI, pI1, pA1, tI, tJ))
  ) else (
   (f_X4_forgetFindings L bI tI tJ).bind fun (bI3, tI3, tJ3) => (
    some (r1, (bI3, pI1, pA1, tI3, tJ3))
   )
  )
 )
)
def f_X4_tell (L : List Nat) (u1 : Int32) (u2 : Int32) (u3 : Int32) (u4 : Int32) (bI : Nat → Int32) (pI : Nat → Int32) (pA : Nat → Nat → Int32) (tI : Nat → Int32) (tJ : Nat → Int64) : Option (Int32 × (Nat → Int32) × (Nat → Int32) × (Nat → Nat → Int32) × (Nat → Int32) × (Nat → Int64)) := (
 (f_X3_addInstruction u1 u2 u3 u4 pI pA).bind fun (r1, pI1, pA1) => (
  if r1 = (-1 : Int32) then (
   some (r1, (bI, pI1, pA1, tI, tJ))
  ) else (
   (f_X4_forgetFindings L bI tI tJ).bind fun (bI3, tI3, tJ3) => (
    some (r1, (bI3, pI1, pA1, tI3, tJ3))
   )
  )
 )
)
def f_X4_clear (L : List Nat) (bI : Nat → Int32) (pI : Nat → Int32) (tI : Nat → Int32) (tJ : Nat → Int64) : Option (Int32 × (Nat → Int32) × (Nat → Int32) × (Nat → Int32) × (Nat → Int64)) := (
 (f_X3_empty pI).bind fun pI1 => (
  (f_X4_forgetFindings L bI tI tJ).bind fun (bI2, tI2, tJ2) => (
   some ((pI 2), ((upd bI2 0 (0 : Int32)), pI1, tI2, tJ2))
  )
 )
)
def f_X4_explore_b25 (n : Nat) (L : List Nat) (pI : Nat → Int32) (pA : Nat → Nat → Int32) (tI : Nat → Int32) (tJ : Nat → Int64) (tP : Nat → Option Nat) (tO : Nat → Int64) (tR : Nat → Int32) (mI : Nat → Int32) (mJ : Nat → Int64) (mA : Nat → Nat → Int32) (qI : Nat → Nat → Int32) (qJ : Nat → Nat → Int64) : Option (Int32 × (Nat → Int32) × (Nat → Int64) × (Nat → Option Nat) × (Nat → Int64) × (Nat → Int32) × (Nat → Int32) × (Nat → Int64) × (Nat → Nat → Int32) × (Nat → Nat → Int32) × (Nat → Nat → Int64)) := (
 (f_X0_knownOrNone (tI 0) tI).bind fun (r1, _u1) => (
  some (r1, (tI, tJ, tP, tO, tR, mI, mJ, mA, qI, qJ))
 )
)
def f_X4_explore (n : Nat) (L : List Nat) (pI : Nat → Int32) (pA : Nat → Nat → Int32) (tI : Nat → Int32) (tJ : Nat → Int64) (tP : Nat → Option Nat) (tO : Nat → Int64) (tR : Nat → Int32) (mI : Nat → Int32) (mJ : Nat → Int64) (mA : Nat → Nat → Int32) (qI : Nat → Nat → Int32) (qJ : Nat → Nat → Int64) : Option (Int32 × (Nat → Int32) × (Nat → Int64) × (Nat → Option Nat) × (Nat → Int64) × (Nat → Int32) × (Nat → Int32) × (Nat → Int64) × (Nat → Nat → Int32) × (Nat → Nat → Int32) × (Nat → Nat → Int64)) := (
 (f_X0_isKnown tI).bind fun (r2, _u2) => (
  if r2 = 0 then (
   (f_X0_survey n L pI pA tI tJ tP tO tR mI mJ mA qI qJ).bind fun (tI4, tJ4, tP4, tO4, tR4, mI4, mJ4, mA4, qI4, qJ4) => (
    f_X4_explore_b25 n L pI pA tI4 tJ4 tP4 tO4 tR4 mI4 mJ4 mA4 qI4 qJ4
   )
  ) else (
   f_X4_explore_b25 n L pI pA tI tJ tP tO tR mI mJ mA qI qJ
  )
 )
)
def f_X4_path (L : List Nat) (u1 : Int32) (u2 : Int32) (tI : Nat → Int32) (tP : Nat → Option Nat) (qI : Nat → Nat → Int32) (qJ : Nat → Nat → Int64) : Option (Int32 × Unit) := (
 (f_X0_pathAt L u1 tI tP).bind fun (r1, _u1) => (
  match r1 with
  | none => (
   some ((-1 : Int32), ())
  )
  | some a2 => (
   if u2 = (0 : Int32) then (
    if a2 ∈ L then (
     some ((qI a2 0), ())
    ) else none
   ) else (
    if u2 = (1 : Int32) then (
     if a2 ∈ L then (
      some ((qI a2 1), ())
     ) else none
    ) else (
     if u2 = (2 : Int32) then (
      if a2 ∈ L then (
       (f_J13_bitCount_95d88 (qJ a2 0)).bind fun (r9, _u9) => (
        some (r9, ())
       )
      ) else none
     ) else (
      if u2 = (3 : Int32) then (
       if a2 ∈ L then (
        some ((qI a2 2), ())
       ) else none
      ) else (
       if u2 = (4 : Int32) then (
        if a2 ∈ L then (
         some ((qI a2 3), ())
        ) else none
       ) else (
        if u2 = (5 : Int32) then (
         if a2 ∈ L then (
          if (qI a2 4) = 0 then (
           some ((0 : Int32), ())
          ) else (
           some ((1 : Int32), ())
          )
         ) else none
        ) else (
         some ((0 : Int32), ())
        )
       )
      )
     )
    )
   )
  )
 )
)
def f_X4_decision (n : Nat) (L : List Nat) (u1 : Int32) (u2 : Int32) (tI : Nat → Int32) (tP : Nat → Option Nat) (qJ : Nat → Nat → Int64) : Option (Int32 × Unit) := (
 (f_X0_pathAt L u1 tI tP).bind fun (r1, _u1) => (
  match r1 with
  | none => (
   some ((-1 : Int32), ())
  )
  | some a2 => (
   if a2 ∈ L then (
    (f_X4_placeOfMark n (qJ a2 0) u2).bind fun (r5, _u5) => (
     if r5 = (-1 : Int32) then (
      some ((-1 : Int32), ())
     ) else (
      (f_X4_isMarked (qJ a2 1) r5).bind fun (r8, _u8) => (
       if r8 = 0 then (
        some ((((2 : Int32) * r5) + (0 : Int32)), ())
       ) else (
        some ((((2 : Int32) * r5) + (1 : Int32)), ())
       )
      )
     )
    )
   ) else none
  )
 )
)
def f_X4_holds (L : List Nat) (u1 : Int32) (u2 : Int32) (pI : Nat → Int32) (tI : Nat → Int32) (tP : Nat → Option Nat) (tO : Nat → Int64) (qJ : Nat → Nat → Int64) : Option (Int32 × Unit) := (
 (f_X0_pathAt L u1 tI tP).bind fun (r1, _u1) => (
  match r1 with
  | none => (
   some ((-1 : Int32), ())
  )
  | some a2 => (
   (f_X3_hasWord u2 pI).bind fun (r3, _u3) => (
    if r3 = 0 then (
     some ((-1 : Int32), ())
    ) else (
     (f_X0_goes L a2 u2 tO qJ).bind fun (r5, _u5) => (
      if r5 = 0 then (
       some ((0 : Int32), ())
      ) else (
       some ((1 : Int32), ())
      )
     )
    )
   )
  )
 )
)
def f_X4_value (n : Nat) (L : List Nat) (u1 : Int32) (u2 : Int32) (pI : Nat → Int32) (pA : Nat → Nat → Int32) (tI : Nat → Int32) (tP : Nat → Option Nat) (mI : Nat → Int32) (mJ : Nat → Int64) (mA : Nat → Nat → Int32) (qJ : Nat → Nat → Int64) : Option (Int32 × (Nat → Int32) × (Nat → Int64) × (Nat → Nat → Int32)) := (
 (f_X0_pathAt L u1 tI tP).bind fun (r1, _u1) => (
  match r1 with
  | none => (
   some ((0 : Int32), (mI, mJ, mA))
  )
  | some a2 => (
   (f_X3_hasWord u2 pI).bind fun (r3, _u3) => (
    if r3 = 0 then (
     some ((0 : Int32), (mI, mJ, mA))
    ) else (
     (f_X1_execute1 n L u2 a2 pI pA mI mJ mA qJ).bind fun (mI5, mJ5, mA5) => (
      some ((mI5 4), (mI5, mJ5, mA5))
     )
    )
   )
  )
 )
)
def f_X4_find (n : Nat) (L : List Nat) (u1 : Int32) (u2 : Int32) (u3 : Int32) (pI : Nat → Int32) (tI : Nat → Int32) (tP : Nat → Option Nat) (tO : Nat → Int64) (tR : Nat → Int32) (qI : Nat → Nat → Int32) (qJ : Nat → Nat → Int64) : Option (Int32 × Unit) := (
 (f_X0_pathAt L u1 tI tP).bind fun (r1, _u1) => (
  match r1 with
  | none => (
   some ((-1 : Int32), ())
  )
  | some a2 => (
   (f_X3_words pI).bind fun (r3, _u3) => (
    (f_X0_leastWordWith n L a2 u2 u3 r3 tO tR qI qJ).bind fun (r4, _u4) => (
     some (r4, ())
    )
   )
  )
 )
)
def f_X4_run (n : Nat) (L : List Nat) (u1 : Int32) (bI : Nat → Int32) (pI : Nat → Int32) (pA : Nat → Nat → Int32) (nI : Nat → Int32) (nJ : Nat → Int64) (nA : Nat → Nat → Int32) : Option (Int32 × (Nat → Int32) × (Nat → Int32) × (Nat → Int64) × (Nat → Nat → Int32)) := (
 (f_X3_hasWord u1 pI).bind fun (r1, _u1) => (
  if r1 = 0 then (
   some ((-1 : Int32), (bI, nI, nJ, nA))
  ) else (
   (f_X1_execute0 n u1 pI pA nI nJ nA).bind fun (nI3, nJ3, nA3) => (
    some ((nI3 3), ((upd (upd bI 0 (1 : Int32)) 1 (0 : Int32)), nI3, nJ3, nA3))
   )
  )
 )
)
def f_X4_ran (n : Nat) (L : List Nat) (u1 : Int32) (bI : Nat → Int32) (tI : Nat → Int32) (tP : Nat → Option Nat) (nI : Nat → Int32) (nJ : Nat → Int64) (qJ : Nat → Nat → Int64) : Option (Int32 × Unit) := (
 if (bI 0) = 0 then (
  some ((-1 : Int32), ())
 ) else (
  if u1 = (0 : Int32) then (
   some ((nI 3), ())
  ) else (
   if u1 = (1 : Int32) then (
    some ((nI 1), ())
   ) else (
    if u1 = (2 : Int32) then (
     some ((nI 4), ())
    ) else (
     if u1 = (3 : Int32) then (
      (f_J13_bitCount_95d88 (nJ 2)).bind fun (r2, _u2) => (
       some (r2, ())
      )
     ) else (
      if u1 = (4 : Int32) then (
       (f_J13_bitCount_95d88 (nJ 3)).bind fun (r3, _u3) => (
        some (r3, ())
       )
      ) else (
       if u1 = (5 : Int32) then (
        if (bI 1) = 0 then (
         (f_X0_numberOf n L (nJ 4) tI tP qJ).bind fun (r5, _u5) => (
          some (r5, ())
         )
        ) else (
         some ((-1 : Int32), ())
        )
       ) else (
        some ((-1 : Int32), ())
       )
      )
     )
    )
   )
  )
 )
)
def f_X4_register (L : List Nat) (u1 : Int32) (bI : Nat → Int32) (nA : Nat → Nat → Int32) : Option (Int32 × Unit) := (
 if (bI 0) = 0 then (
  some ((0 : Int32), ())
 ) else (
  (f_X4_isRegister u1).bind fun (r2, _u2) => (
   if r2 = 0 then (
    some ((0 : Int32), ())
   ) else (
    if inb u1 16 = true then (
     some ((nA 0 u1.toNatClampNeg), ())
    ) else none
   )
  )
 )
)
def f_X4_cell (L : List Nat) (u1 : Int32) (bI : Nat → Int32) (nA : Nat → Nat → Int32) : Option (Int32 × Unit) := (
 if (bI 0) = 0 then (
  some ((0 : Int32), ())
 ) else (
  (f_X4_isCell u1).bind fun (r2, _u2) => (
   if r2 = 0 then (
    some ((0 : Int32), ())
   ) else (
    if inb u1 8 = true then (
     some ((nA 1 u1.toNatClampNeg), ())
    ) else none
   )
  )
 )
)
def f_X4_failure (n : Nat) (L : List Nat) (u1 : Int32) (u2 : Int32) (tI : Nat → Int32) (tJ : Nat → Int64) (tP : Nat → Option Nat) (qI : Nat → Nat → Int32) : Option (Int32 × Unit) := (
 (f_X0_firstFailing n L u1 tI tJ tP qI).bind fun (r1, _u1) => (
  match r1 with
  | none => (
   some ((-1 : Int32), ())
  )
  | some a2 => (
   if u2 = (0 : Int32) then (
    if a2 ∈ L then (
     some ((qI a2 0), ())
    ) else none
   ) else (
    if u2 = (1 : Int32) then (
     if a2 ∈ L then (
      some ((qI a2 1), ())
     ) else none
    ) else (
     if u2 = (2 : Int32) then (
      if a2 ∈ L then (
       some ((qI a2 2), ())
      ) else none
     ) else (
      some ((-1 : Int32), ())
     )
    )
   )
  )
 )
)
def f_X4_covered (L : List Nat) (u1 : Int32) (pI : Nat → Int32) (tI : Nat → Int32) (tJ : Nat → Int64) : Option (Int32 × Unit) := (
 if u1 < 0 then (
  some ((-1 : Int32), ())
 ) else (
  if (pI 2) ≤ u1 then (
   some ((-1 : Int32), ())
  ) else (
   (f_X0_isKnown tI).bind fun (r3, _u3) => (
    if r3 = 0 then (
     some ((-1 : Int32), ())
    ) else (
     (f_X4_isMarked (tJ 0) u1).bind fun (r5, _u5) => (
      if r5 = 0 then (
       some ((0 : Int32), ())
      ) else (
       some ((1 : Int32), ())
      )
     )
    )
   )
  )
 )
)
def f_X4_count (L : List Nat) (u1 : Int32) (pI : Nat → Int32) (tI : Nat → Int32) (tJ : Nat → Int64) : Option (Int32 × Unit) := (
 if u1 = (0 : Int32) then (
  some ((pI 0), ())
 ) else (
  if u1 = (1 : Int32) then (
   some ((pI 1), ())
  ) else (
   if u1 = (2 : Int32) then (
    some ((pI 2), ())
   ) else (
    if u1 = (3 : Int32) then (
     (f_X0_knownOrNone (tI 0) tI).bind fun (r1, _u1) => (
      some (r1, ())
     )
    ) else (
     if u1 = (4 : Int32) then (
      (f_J13_bitCount_95d88 (tJ 1)).bind fun (r2, _u2) => (
       (f_X0_knownOrNone r2 tI).bind fun (r3, _u3) => (
        some (r3, ())
       )
      )
     ) else (
      if u1 = (5 : Int32) then (
       (f_J13_bitCount_95d88 (tJ 0)).bind fun (r4, _u4) => (
        (f_X0_knownOrNone r4 tI).bind fun (r5, _u5) => (
         some (r5, ())
        )
       )
      ) else (
       some ((-1 : Int32), ())
      )
     )
    )
   )
  )
 )
)
def f_X5_isRegister (u0 : Int32) : Option (Int32 × Unit) := (
 if u0 < 0 then (
  some ((0 : Int32), ())
 ) else (
  if (16 : Int32) ≤ u0 then (
   some ((0 : Int32), ())
  ) else (
   some ((1 : Int32), ())
  )
 )
)
def f_X5_isDivision (u0 : Int32) : Option (Int32 × Unit) := (
 if u0 < (12 : Int32) then (
  some ((0 : Int32), ())
 ) else (
  if (15 : Int32) < u0 then (
   some ((0 : Int32), ())
  ) else (
   some ((1 : Int32), ())
  )
 )
)
def f_X5_isBelow (u0 : Int32) (u1 : Int32) : Option (Int32 × Unit) := (
 if (u1 + (-2147483648 : Int32)) ≤ (u0 + (-2147483648 : Int32)) then (
  some ((0 : Int32), ())
 ) else (
  some ((1 : Int32), ())
 )
)
def f_X5_plain (u0 : Int32) : Option (Int64 × Unit) := (
 some ((u0.toInt64 &&& (4294967295 : Int64)), ())
)
def f_X5_truth (u0 : Int32) : Option (Int32 × Unit) := (
 if u0 = 0 then (
  some ((0 : Int32), ())
 ) else (
  some ((1 : Int32), ())
 )
)
def f_X5_reckoned_b292 (y0 : Int32) : Option (Int32 × Unit) := (
 (f_X5_truth y0).bind fun (r1, _u1) => (
  some (r1, ())
 )
)
def f_X5_reckoned_b278 (y0 : Int32) : Option (Int32 × Unit) := (
 (f_X5_truth y0).bind fun (r2, _u2) => (
  some (r2, ())
 )
)
def f_X5_reckoned_b264 (y0 : Int32) : Option (Int32 × Unit) := (
 (f_X5_truth y0).bind fun (r3, _u3) => (
  some (r3, ())
 )
)
def f_X5_reckoned_b238 (y0 : Int32) : Option (Int32 × Unit) := (
 (f_X5_truth y0).bind fun (r4, _u4) => (
  some (r4, ())
 )
)
def f_X5_reckoned_b224 (y0 : Int32) : Option (Int32 × Unit) := (
 (f_X5_truth y0).bind fun (r5, _u5) => (
  some (r5, ())
 )
)
def f_X5_reckoned (u0 : Int32) (u1 : Int32) (u2 : Int32) : Option (Int32 × Unit) := (
 if u0 = (3 : Int32) then (
  some ((u1 + u2), ())
 ) else (
  if u0 = (4 : Int32) then (
   some ((u1 - u2), ())
  ) else (
   if u0 = (5 : Int32) then (
    some ((u1 * u2), ())
   ) else (
    if u0 = (6 : Int32) then (
     some ((u1 &&& u2), ())
    ) else (
     if u0 = (7 : Int32) then (
      some ((u1 ||| u2), ())
     ) else (
      if u0 = (8 : Int32) then (
       some ((u1 ^^^ u2), ())
      ) else (
       if u0 = (9 : Int32) then (
        some ((u1 <<< ((u2 &&& (31 : Int32)) &&& 31)), ())
       ) else (
        if u0 = (10 : Int32) then (
         some ((u1.toUInt32 >>> ((u2 &&& (31 : Int32)).toUInt32 &&& Int32.toUInt32 31)).toInt32, ())
        ) else (
         if u0 = (11 : Int32) then (
          some ((u1 >>> ((u2 &&& (31 : Int32)) &&& 31)), ())
         ) else (
          if u0 = (12 : Int32) then (
           if u2 = 0 then (
            some ((-1 : Int32), ())
           ) else (
            (f_X5_plain u1).bind fun (r7, _u7) => (
             (f_X5_plain u2).bind fun (r8, _u8) => (
              if ¬ r8 = 0 then (
               some ((r7 / r8).toInt32, ())
              ) else none
             )
            )
           )
          ) else (
           if u0 = (13 : Int32) then (
            if u2 = 0 then (
             some (u1, ())
            ) else (
             (f_X5_plain u1).bind fun (r11, _u11) => (
              (f_X5_plain u2).bind fun (r12, _u12) => (
               if ¬ r12 = 0 then (
                some ((r11 - r11 / r12 * r12).toInt32, ())
               ) else none
              )
             )
            )
           ) else (
            if u0 = (14 : Int32) then (
             if u2 = 0 then (
              some ((-1 : Int32), ())
             ) else (
              if u2 = (-1 : Int32) then (
               some ((-u1), ())
              ) else (
               if ¬ u2 = 0 then (
                some ((u1 / u2), ())
               ) else none
              )
             )
            ) else (
             if u0 = (15 : Int32) then (
              if u2 = 0 then (
               some (u1, ())
              ) else (
               if u2 = (-1 : Int32) then (
                some ((0 : Int32), ())
               ) else (
                if ¬ u2 = 0 then (
                 some ((u1 - u1 / u2 * u2), ())
                ) else none
               )
              )
             ) else (
              if u0 = (16 : Int32) then (
               if u1 = u2 then (
                f_X5_reckoned_b224 (1 : Int32) 
               ) else (
                f_X5_reckoned_b224 (0 : Int32) 
               )
              ) else (
               if u0 = (17 : Int32) then (
                if u1 = u2 then (
                 f_X5_reckoned_b238 (0 : Int32) 
                ) else (
                 f_X5_reckoned_b238 (1 : Int32) 
                )
               ) else (
                if u0 = (18 : Int32) then (
                 (f_X5_isBelow u1 u2).bind fun (r22, _u22) => (
                  (f_X5_truth r22).bind fun (r23, _u23) => (
                   some (r23, ())
                  )
                 )
                ) else (
                 if u0 = (19 : Int32) then (
                  (f_X5_isBelow u2 u1).bind fun (r24, _u24) => (
                   if r24 = 0 then (
                    f_X5_reckoned_b264 (1 : Int32) 
                   ) else (
                    f_X5_reckoned_b264 (0 : Int32) 
                   )
                  )
                 ) else (
                  if u0 = (20 : Int32) then (
                   if u2 ≤ u1 then (
                    f_X5_reckoned_b278 (0 : Int32) 
                   ) else (
                    f_X5_reckoned_b278 (1 : Int32) 
                   )
                  ) else (
                   if u2 < u1 then (
                    f_X5_reckoned_b292 (0 : Int32) 
                   ) else (
                    f_X5_reckoned_b292 (1 : Int32) 
                   )
                  )
                 )
                )
               )
              )
             )
            )
           )
          )
         )
        )
       )
      )
     )
    )
   )
  )
 )
)
def f_X5_turn (nX : Nat) (u1 : Int32) (u2 : Int32) (xA : Nat → Int32) : Option ((Nat → Int32)) := (
 if inb u1 nX = true then (
  if inb u2 nX = true then (
   if inb u1 nX = true then (
    if inb u2 nX = true then (
     some ((upd (upd xA u1.toNatClampNeg (xA u2.toNatClampNeg)) u2.toNatClampNeg (xA u1.toNatClampNeg)))
    ) else none
   ) else none
  ) else none
 ) else none
)
def f_X5_changed (K : List Nat) (rI : Nat → Int32) : Option ((Nat → Int32)) := (
 some ((upd (upd rI 6 (-1 : Int32)) 19 (0 : Int32)))
)
def f_X5_isTarget (K : List Nat) (u1 : Int32) (rI : Nat → Int32) : Option (Int32 × Unit) := (
 if u1 ≤ (rI 3) then (
  some ((0 : Int32), ())
 ) else (
  if (60 : Int32) < u1 then (
   some ((0 : Int32), ())
  ) else (
   some ((1 : Int32), ())
  )
 )
)
def f_X5_isGood_b68 (K : List Nat) (x2 : Int32) (x3 : Int32) (x4 : Int32) (rI : Nat → Int32) : Option (Int32 × Unit) := (
 (f_X5_isRegister x2).bind fun (r1, _u1) => (
  if r1 = 0 then (
   some ((0 : Int32), ())
  ) else (
   (f_X5_isRegister x3).bind fun (r3, _u3) => (
    if r3 = 0 then (
     some ((0 : Int32), ())
    ) else (
     (f_X5_isRegister x4).bind fun (r5, _u5) => (
      if r5 = 0 then (
       some ((0 : Int32), ())
      ) else (
       some ((1 : Int32), ())
      )
     )
    )
   )
  )
 )
)
def f_X5_isGood_b62 (K : List Nat) (x1 : Int32) (x2 : Int32) (x3 : Int32) (x4 : Int32) (rI : Nat → Int32) : Option (Int32 × Unit) := (
 if x1 = (24 : Int32) then (
  f_X5_isGood_b68 K x2 x3 x4 rI
 ) else (
  if (26 : Int32) < x1 then (
   if x1 = (27 : Int32) then (
    (f_X5_isRegister x2).bind fun (r16, _u16) => (
     if r16 = 0 then (
      some ((0 : Int32), ())
     ) else (
      (f_X5_isTarget K x3 rI).bind fun (r18, _u18) => (
       if r18 = 0 then (
        some ((0 : Int32), ())
       ) else (
        some ((1 : Int32), ())
       )
      )
     )
    )
   ) else (
    if x1 = (28 : Int32) then (
     (f_X5_isTarget K x2 rI).bind fun (r15, _u15) => (
      if r15 = 0 ∨ r15 = 1 then some (r15, ()) else none
     )
    ) else (
     if x1 = (30 : Int32) then (
      if x2 < 0 then (
       some ((0 : Int32), ())
      ) else (
       if (255 : Int32) < x2 then (
        some ((0 : Int32), ())
       ) else (
        some ((1 : Int32), ())
       )
      )
     ) else (
      (f_X5_isRegister x2).bind fun (r12, _u12) => (
       if r12 = 0 ∨ r12 = 1 then some (r12, ()) else none
      )
     )
    )
   )
  ) else (
   (f_X5_isRegister x2).bind fun (r20, _u20) => (
    if r20 = 0 then (
     some ((0 : Int32), ())
    ) else (
     (f_X5_isRegister x3).bind fun (r22, _u22) => (
      if r22 = 0 then (
       some ((0 : Int32), ())
      ) else (
       some ((1 : Int32), ())
      )
     )
    )
   )
  )
 )
)
def f_X5_isGood (K : List Nat) (u1 : Int32) (u2 : Int32) (u3 : Int32) (u4 : Int32) (rI : Nat → Int32) : Option (Int32 × Unit) := (
 if u1 < 0 then (
  some ((0 : Int32), ())
 ) else (
  if u1 ≤ (31 : Int32) then (
   if u1 = 0 then (
    (f_X5_isRegister u2).bind fun (r34, _u34) => (
     if r34 = 0 ∨ r34 = 1 then some (r34, ()) else none
    )
   ) else (
    if u1 = (1 : Int32) then (
     (f_X5_isRegister u2).bind fun (r30, _u30) => (
      if r30 = 0 then (
       some ((0 : Int32), ())
      ) else (
       if u3 < 0 then (
        some ((0 : Int32), ())
       ) else (
        if (rI 1) ≤ u3 then (
         some ((0 : Int32), ())
        ) else (
         some ((1 : Int32), ())
        )
       )
      )
     )
    ) else (
     if u1 < (3 : Int32) then (
      f_X5_isGood_b62 K u1 u2 u3 u4 rI
     ) else (
      if u1 ≤ (21 : Int32) then (
       f_X5_isGood_b68 K u2 u3 u4 rI
      ) else (
       f_X5_isGood_b62 K u1 u2 u3 u4 rI
      )
     )
    )
   )
  ) else (
   some ((0 : Int32), ())
  )
 )
)
def f_X5_input (K : List Nat) (u1 : Int32) (u2 : Int32) (rI : Nat → Int32) (rA : Nat → Nat → Int32) : Option (Int32 × (Nat → Int32) × (Nat → Nat → Int32)) := (
 if (rI 1) = (4 : Int32) then (
  some ((-1 : Int32), (rI, rA))
 ) else (
  if u1 < (1 : Int32) then (
   some ((-1 : Int32), (rI, rA))
  ) else (
   if (12 : Int32) < u1 then (
    some ((-1 : Int32), (rI, rA))
   ) else (
    if ((rI 2) + u1) ≤ (12 : Int32) then (
     if inb (rI 1) 4 = true then (
      if inb (rI 1) 4 = true then (
       (f_X5_changed K (upd (upd rI 1 ((rI 1) + (1 : Int32))) 2 (((upd rI 1 ((rI 1) + (1 : Int32))) 2) + u1))).bind fun rI7 => (
        some (((rI7 1) - (1 : Int32)), (rI7, (up2 (up2 rA 0 (rI 1).toNatClampNeg u1) 1 (rI 1).toNatClampNeg (vp_nar .boolean u2))))
       )
      ) else none
     ) else none
    ) else (
     some ((-1 : Int32), (rI, rA))
    )
   )
  )
 )
)
def f_X5_tell_b130 (K : List Nat) (y1 : Int32) (y2 : Int32) (rI : Nat → Int32) (rA : Nat → Nat → Int32) : Option (Int32 × (Nat → Int32) × (Nat → Nat → Int32)) := (
 (f_X5_changed K (upd (upd rI 5 (y1 + y2)) 3 (((upd rI 5 (y1 + y2)) 3) + (1 : Int32)))).bind fun rI1 => (
  some (((rI1 3) - (1 : Int32)), (rI1, rA))
 )
)
def f_X5_tell_b109 (K : List Nat) (x1 : Int32) (y1 : Int32) (y2 : Int32) (rI : Nat → Int32) (rA : Nat → Nat → Int32) : Option (Int32 × (Nat → Int32) × (Nat → Nat → Int32)) := (
 (f_X5_isDivision x1).bind fun (r2, _u2) => (
  if r2 = 0 then (
   f_X5_tell_b130 K ((upd rI 4 (y1 + y2)) 5) (0 : Int32) (upd rI 4 (y1 + y2)) rA
  ) else (
   f_X5_tell_b130 K ((upd rI 4 (y1 + y2)) 5) (1 : Int32) (upd rI 4 (y1 + y2)) rA
  )
 )
)
def f_X5_tell_b53 (K : List Nat) (x1 : Int32) (x2 : Int32) (x3 : Int32) (x4 : Int32) (rI : Nat → Int32) (rA : Nat → Nat → Int32) : Option (Int32 × (Nat → Int32) × (Nat → Nat → Int32)) := (
 if inb (rI 3) 60 = true then (
  if inb (rI 3) 60 = true then (
   if inb (rI 3) 60 = true then (
    if inb (rI 3) 60 = true then (
     if x1 = (5 : Int32) then (
      f_X5_tell_b109 K x1 (rI 4) (1 : Int32) rI (up2 (up2 (up2 (up2 rA 2 (rI 3).toNatClampNeg x1) 3 (rI 3).toNatClampNeg x2) 4 (rI 3).toNatClampNeg x3) 5 (rI 3).toNatClampNeg x4)
     ) else (
      f_X5_tell_b109 K x1 (rI 4) (0 : Int32) rI (up2 (up2 (up2 (up2 rA 2 (rI 3).toNatClampNeg x1) 3 (rI 3).toNatClampNeg x2) 4 (rI 3).toNatClampNeg x3) 5 (rI 3).toNatClampNeg x4)
     )
    ) else none
   ) else none
  ) else none
 ) else none
)
def f_X5_tell_b35 (K : List Nat) (x1 : Int32) (x2 : Int32) (x3 : Int32) (x4 : Int32) (rI : Nat → Int32) (rA : Nat → Nat → Int32) : Option (Int32 × (Nat → Int32) × (Nat → Nat → Int32)) := (
 (f_X5_isDivision x1).bind fun (r9, _u9) => (
  if r9 = 0 then (
   f_X5_tell_b53 K x1 x2 x3 x4 rI rA
  ) else (
   if (rI 5) = (6 : Int32) then (
    some ((-1 : Int32), (rI, rA))
   ) else (
    f_X5_tell_b53 K x1 x2 x3 x4 rI rA
   )
  )
 )
)
def f_X5_tell (K : List Nat) (u1 : Int32) (u2 : Int32) (u3 : Int32) (u4 : Int32) (rI : Nat → Int32) (rA : Nat → Nat → Int32) : Option (Int32 × (Nat → Int32) × (Nat → Nat → Int32)) := (
 (f_X5_isGood K u1 u2 u3 u4 rI).bind fun (r12, _u12) => (
  if r12 = 0 then (
   some ((-1 : Int32), (rI, rA))
  ) else (
   if (rI 3) = (60 : Int32) then (
    some ((-1 : Int32), (rI, rA))
   ) else (
    if u1 = (5 : Int32) then (
     if (rI 4) = (6 : Int32) then (
      some ((-1 : Int32), (rI, rA))
     ) else (
      f_X5_tell_b35 K u1 u2 u3 u4 rI rA
     )
    ) else (
     f_X5_tell_b35 K u1 u2 u3 u4 rI rA
    )
   )
  )
 )
)
def f_X5_clear (K : List Nat) (rI : Nat → Int32) : Option (Int32 × (Nat → Int32)) := (
 (f_X5_changed K (upd (upd (upd (upd (upd (upd rI 1 (0 : Int32)) 2 (0 : Int32)) 3 (0 : Int32)) 4 (0 : Int32)) 5 (0 : Int32)) 12 (0 : Int32))).bind fun rI1 => (
  some ((rI 3), (rI1))
 )
)
def f_X5_words (K : List Nat) (rI : Nat → Int32) : Option (Int32 × Unit) := (
 some (((1 : Int32) <<< ((rI 2) &&& 31)), ())
)
def f_X5_inputOf_b32 (n : Nat) (K : List Nat) (x1 : Int32) (x2 : Int32) (x3 : Int32) (rI : Nat → Int32) (rA : Nat → Nat → Int32) : Option (Int32 × Unit) := (
 if inb x2 4 = true then (
  (some ((x1 >>> (x3 &&& 31)) &&& (((1 : Int32) <<< ((rA 0 x2.toNatClampNeg) &&& 31)) - (1 : Int32)))).bind fun z2 => (
   if inb x2 4 = true then (
    if (rA 1 x2.toNatClampNeg) = 0 then (
     some (z2, ())
    ) else (
     if inb x2 4 = true then (
      if (z2 >>> (((rA 0 x2.toNatClampNeg) - (1 : Int32)) &&& 31)) = (1 : Int32) then (
       if inb x2 4 = true then (
        some ((z2 - ((1 : Int32) <<< ((rA 0 x2.toNatClampNeg) &&& 31))), ())
       ) else none
      ) else (
       some (z2, ())
      )
     ) else none
    )
   ) else none
  )
 ) else none
)
def f_X5_inputOf_l7 (n : Nat) (K : List Nat) (x1 : Int32) (x2 : Int32) (rI : Nat → Int32) (rA : Nat → Nat → Int32) (rc7 : (Int32 × Int32) → Option (Int32 × Unit)) : (Int32 × Int32) → Option (Int32 × Unit) := fun (x3, x4) => (
 if (rI 1) ≤ x4 then (
  f_X5_inputOf_b32 n K x1 x2 x3 rI rA
 ) else (
  if inb x4 4 = true then (
   rc7 ((x3 + (rA 0 x4.toNatClampNeg)), (x4 + 1))
  ) else none
 )
)
def f_X5_inputOf (n : Nat) (K : List Nat) (u1 : Int32) (u2 : Int32) (rI : Nat → Int32) (rA : Nat → Nat → Int32) : Option (Int32 × Unit) := (
 lp (f_X5_inputOf_l7 n K u1 u2 rI rA) n ((0 : Int32), (u2 + (1 : Int32)))
)
def f_X5_ends (K : List Nat) (u1 : Int32) (u2 : Int32) (u3 : Int32) (rI : Nat → Int32) : Option ((Nat → Int32)) := (
 some ((upd (upd (upd rI 7 u1) 8 u2) 9 u3))
)
def f_X5_go0_b768 (n : Nat) (K : List Nat) (rI : Nat → Int32) (rA : Nat → Nat → Int32) : Option ((Nat → Int32) × (Nat → Nat → Int32)) := (
 (f_X5_ends K (0 : Int32) (rI 3) (0 : Int32) rI).bind fun rI1 => (
  some (rI1, rA)
 )
)
def f_X5_go0_b761 (n : Nat) (K : List Nat) (rc61 : (Int32 × (Nat → Int32) × (Nat → Nat → Int32)) → Option ((Nat → Int32) × (Nat → Nat → Int32))) (x1 : Int32) (x3 : Int32) (x9 : Int32) (rI : Nat → Int32) (rA : Nat → Nat → Int32) : Option ((Nat → Int32) × (Nat → Nat → Int32)) := (
 rc61 (x9, rI, rA)
)
def f_X5_go0_b757 (n : Nat) (K : List Nat) (y1 : Int32) (y2 : Int32) (y3 : Int32) (rI : Nat → Int32) (rA : Nat → Nat → Int32) : Option ((Nat → Int32) × (Nat → Nat → Int32)) := (
 (f_X5_ends K y1 y2 y3 rI).bind fun rI2 => (
  some (rI2, rA)
 )
)
def f_X5_go0_b736 (n : Nat) (K : List Nat) (x4 : Int32) (x5 : Int32) (x6 : Int32) (y1 : Int32) (rI : Nat → Int32) (rA : Nat → Nat → Int32) : Option ((Nat → Int32) × (Nat → Nat → Int32)) := (
 if x5 = (30 : Int32) then (
  f_X5_go0_b757 n K y1 x4 x6 rI rA
 ) else (
  if inb x6 16 = true then (
   f_X5_go0_b757 n K y1 x4 (rA 14 x6.toNatClampNeg) rI rA
  ) else none
 )
)
def f_X5_go0_b723 (n : Nat) (K : List Nat) (x4 : Int32) (x5 : Int32) (x6 : Int32) (rI : Nat → Int32) (rA : Nat → Nat → Int32) : Option ((Nat → Int32) × (Nat → Nat → Int32)) := (
 if x5 = (30 : Int32) then (
  f_X5_go0_b736 n K x4 x5 x6 (4 : Int32) rI rA
 ) else (
  f_X5_go0_b736 n K x4 x5 x6 (0 : Int32) rI rA
 )
)
def f_X5_go0_b714 (n : Nat) (K : List Nat) (x4 : Int32) (rI : Nat → Int32) (rA : Nat → Nat → Int32) : Option ((Nat → Int32) × (Nat → Nat → Int32)) := (
 (f_X5_ends K (3 : Int32) x4 (0 : Int32) rI).bind fun rI6 => (
  some (rI6, rA)
 )
)
def f_X5_go0_b683 (n : Nat) (K : List Nat) (rc61 : (Int32 × (Nat → Int32) × (Nat → Nat → Int32)) → Option ((Nat → Int32) × (Nat → Nat → Int32))) (x1 : Int32) (x3 : Int32) (y0 : Int32) (rI : Nat → Int32) (rA : Nat → Nat → Int32) : Option ((Nat → Int32) × (Nat → Nat → Int32)) := (
 f_X5_go0_b761 n K rc61 x1 x3 y0 rI rA
)
def f_X5_go0_b661 (n : Nat) (K : List Nat) (rc61 : (Int32 × (Nat → Int32) × (Nat → Nat → Int32)) → Option ((Nat → Int32) × (Nat → Nat → Int32))) (x1 : Int32) (x3 : Int32) (x9 : Int32) (rI : Nat → Int32) (rA : Nat → Nat → Int32) : Option ((Nat → Int32) × (Nat → Nat → Int32)) := (
 f_X5_go0_b761 n K rc61 x1 x3 x9 rI rA
)
def f_X5_go0_b638 (n : Nat) (K : List Nat) (rc61 : (Int32 × (Nat → Int32) × (Nat → Nat → Int32)) → Option ((Nat → Int32) × (Nat → Nat → Int32))) (x1 : Int32) (x3 : Int32) (x9 : Int32) (y1 : Int32) (y2 : Int32) (rI : Nat → Int32) (rA : Nat → Nat → Int32) : Option ((Nat → Int32) × (Nat → Nat → Int32)) := (
 if inb y1 16 = true then (
  f_X5_go0_b661 n K rc61 x1 x3 x9 rI (up2 rA 14 y1.toNatClampNeg y2)
 ) else none
)
def f_X5_go0_b607 (n : Nat) (K : List Nat) (rc61 : (Int32 × (Nat → Int32) × (Nat → Nat → Int32)) → Option ((Nat → Int32) × (Nat → Nat → Int32))) (x1 : Int32) (x3 : Int32) (x5 : Int32) (x6 : Int32) (x7 : Int32) (x9 : Int32) (x12 : Int32) (y0 : Int32) (rI : Nat → Int32) (rA : Nat → Nat → Int32) : Option ((Nat → Int32) × (Nat → Nat → Int32)) := (
 if x5 = (25 : Int32) then (
  if y0 = 0 then (
   f_X5_go0_b638 n K rc61 x1 x3 x9 x6 (0 : Int32) rI rA
  ) else (
   if inb x12 8 = true then (
    f_X5_go0_b638 n K rc61 x1 x3 x9 x6 (rA 15 x12.toNatClampNeg) rI rA
   ) else none
  )
 ) else (
  if y0 = 0 then (
   f_X5_go0_b661 n K rc61 x1 x3 x9 rI rA
  ) else (
   if inb x7 16 = true then (
    if inb x12 8 = true then (
     f_X5_go0_b661 n K rc61 x1 x3 x9 rI (up2 rA 15 x12.toNatClampNeg (rA 14 x7.toNatClampNeg))
    ) else none
   ) else none
  )
 )
)
def f_X5_go0_b606 (n : Nat) (K : List Nat) (rc61 : (Int32 × (Nat → Int32) × (Nat → Nat → Int32)) → Option ((Nat → Int32) × (Nat → Nat → Int32))) (x1 : Int32) (x3 : Int32) (x5 : Int32) (x6 : Int32) (x7 : Int32) (x9 : Int32) (x12 : Int32) (rI : Nat → Int32) (rA : Nat → Nat → Int32) : Option ((Nat → Int32) × (Nat → Nat → Int32)) := (
 f_X5_go0_b607 n K rc61 x1 x3 x5 x6 x7 x9 x12 (0 : Int32) rI rA
)
def f_X5_go0_b588 (n : Nat) (K : List Nat) (rc61 : (Int32 × (Nat → Int32) × (Nat → Nat → Int32)) → Option ((Nat → Int32) × (Nat → Nat → Int32))) (x1 : Int32) (x3 : Int32) (x5 : Int32) (x6 : Int32) (x7 : Int32) (x9 : Int32) (y0 : Int32) (rI : Nat → Int32) (rA : Nat → Nat → Int32) : Option ((Nat → Int32) × (Nat → Nat → Int32)) := (
 if y0 < 0 then (
  f_X5_go0_b606 n K rc61 x1 x3 x5 x6 x7 x9 y0 rI rA
 ) else (
  if (8 : Int32) ≤ y0 then (
   f_X5_go0_b606 n K rc61 x1 x3 x5 x6 x7 x9 y0 rI rA
  ) else (
   f_X5_go0_b607 n K rc61 x1 x3 x5 x6 x7 x9 y0 (1 : Int32) rI rA
  )
 )
)
def f_X5_go0_b555 (n : Nat) (K : List Nat) (x4 : Int32) (rI : Nat → Int32) (rA : Nat → Nat → Int32) : Option ((Nat → Int32) × (Nat → Nat → Int32)) := (
 (f_X5_ends K (2 : Int32) x4 (0 : Int32) rI).bind fun rI16 => (
  some (rI16, rA)
 )
)
def f_X5_go0_b539 (n : Nat) (K : List Nat) (rc61 : (Int32 × (Nat → Int32) × (Nat → Nat → Int32)) → Option ((Nat → Int32) × (Nat → Nat → Int32))) (x1 : Int32) (x3 : Int32) (x9 : Int32) (y1 : Int32) (y2 : Int32) (rI : Nat → Int32) (rA : Nat → Nat → Int32) : Option ((Nat → Int32) × (Nat → Nat → Int32)) := (
 if inb y1 16 = true then (
  f_X5_go0_b761 n K rc61 x1 x3 x9 rI (up2 rA 14 y1.toNatClampNeg y2)
 ) else none
)
def f_X5_go0_b412 (n : Nat) (K : List Nat) (rc61 : (Int32 × (Nat → Int32) × (Nat → Nat → Int32)) → Option ((Nat → Int32) × (Nat → Nat → Int32))) (x1 : Int32) (x3 : Int32) (x4 : Int32) (x5 : Int32) (x6 : Int32) (x7 : Int32) (x8 : Int32) (x9 : Int32) (x11 : Int32) (rI : Nat → Int32) (rA : Nat → Nat → Int32) : Option ((Nat → Int32) × (Nat → Nat → Int32)) := (
 if (21 : Int32) < x5 then (
  if x5 = (22 : Int32) then (
   if inb x7 16 = true then (
    if inb x6 16 = true then (
     f_X5_go0_b761 n K rc61 x1 x3 x9 rI (up2 rA 14 x6.toNatClampNeg ((rA 14 x7.toNatClampNeg) ^^^ (-1 : Int32)))
    ) else none
   ) else none
  ) else (
   if x5 = (23 : Int32) then (
    if inb x7 16 = true then (
     if inb x6 16 = true then (
      f_X5_go0_b761 n K rc61 x1 x3 x9 rI (up2 rA 14 x6.toNatClampNeg (-(rA 14 x7.toNatClampNeg)))
     ) else none
    ) else none
   ) else (
    if x5 = (24 : Int32) then (
     if inb x7 16 = true then (
      if (rA 14 x7.toNatClampNeg) = 0 then (
       if inb x6 16 = true then (
        f_X5_go0_b539 n K rc61 x1 x3 x9 x6 (rA 14 x6.toNatClampNeg) rI rA
       ) else none
      ) else (
       if inb x8 16 = true then (
        f_X5_go0_b539 n K rc61 x1 x3 x9 x6 (rA 14 x8.toNatClampNeg) rI rA
       ) else none
      )
     ) else none
    ) else (
     if (26 : Int32) < x5 then (
      if x5 = (27 : Int32) then (
       if x11 = 0 then (
        f_X5_go0_b683 n K rc61 x1 x3 x9 rI rA
       ) else (
        f_X5_go0_b683 n K rc61 x1 x3 x7 rI rA
       )
      ) else (
       if x5 = (28 : Int32) then (
        f_X5_go0_b761 n K rc61 x1 x3 x6 rI rA
       ) else (
        if x5 = (29 : Int32) then (
         if x11 = 0 then (
          f_X5_go0_b714 n K x4 rI rA
         ) else (
          f_X5_go0_b761 n K rc61 x1 x3 x9 rI rA
         )
        ) else (
         f_X5_go0_b723 n K x4 x5 x6 rI rA
        )
       )
      )
     ) else (
      if x11 = 0 then (
       f_X5_go0_b555 n K x4 rI rA
      ) else (
       if x5 = (25 : Int32) then (
        if inb x7 16 = true then (
         f_X5_go0_b588 n K rc61 x1 x3 x5 x6 x7 x9 (rA 14 x7.toNatClampNeg) rI rA
        ) else none
       ) else (
        if inb x6 16 = true then (
         f_X5_go0_b588 n K rc61 x1 x3 x5 x6 x7 x9 (rA 14 x6.toNatClampNeg) rI rA
        ) else none
       )
      )
     )
    )
   )
  )
 ) else (
  if inb x7 16 = true then (
   if inb x8 16 = true then (
    (f_X5_reckoned x5 (rA 14 x7.toNatClampNeg) (rA 14 x8.toNatClampNeg)).bind fun (r42, _u42) => (
     if inb x6 16 = true then (
      f_X5_go0_b761 n K rc61 x1 x3 x9 rI (up2 rA 14 x6.toNatClampNeg r42)
     ) else none
    )
   ) else none
  ) else none
 )
)
def f_X5_go0_b403 (n : Nat) (K : List Nat) (x4 : Int32) (rI : Nat → Int32) (rA : Nat → Nat → Int32) : Option ((Nat → Int32) × (Nat → Nat → Int32)) := (
 (f_X5_ends K (1 : Int32) x4 (0 : Int32) rI).bind fun rI44 => (
  some (rI44, rA)
 )
)
def f_X5_go0_b327 (n : Nat) (K : List Nat) (rc61 : (Int32 × (Nat → Int32) × (Nat → Nat → Int32)) → Option ((Nat → Int32) × (Nat → Nat → Int32))) (x1 : Int32) (x3 : Int32) (x4 : Int32) (x5 : Int32) (x6 : Int32) (x7 : Int32) (x8 : Int32) (x9 : Int32) (x11 : Int32) (rI : Nat → Int32) (rA : Nat → Nat → Int32) : Option ((Nat → Int32) × (Nat → Nat → Int32)) := (
 if x5 = 0 then (
  if inb x6 16 = true then (
   f_X5_go0_b761 n K rc61 x1 x3 x9 rI (up2 rA 14 x6.toNatClampNeg x7)
  ) else none
 ) else (
  if x5 = (1 : Int32) then (
   (f_X5_inputOf n K x1 x7 rI rA).bind fun (r53, _u53) => (
    if inb x6 16 = true then (
     f_X5_go0_b761 n K rc61 x1 x3 x9 rI (up2 rA 14 x6.toNatClampNeg r53)
    ) else none
   )
  ) else (
   if x5 = (2 : Int32) then (
    if inb x7 16 = true then (
     if inb x6 16 = true then (
      f_X5_go0_b761 n K rc61 x1 x3 x9 rI (up2 rA 14 x6.toNatClampNeg (rA 14 x7.toNatClampNeg))
     ) else none
    ) else none
   ) else (
    (f_X5_isDivision x5).bind fun (r48, _u48) => (
     if r48 = 0 then (
      f_X5_go0_b412 n K rc61 x1 x3 x4 x5 x6 x7 x8 x9 x11 rI rA
     ) else (
      if x11 = 0 then (
       f_X5_go0_b403 n K x4 rI rA
      ) else (
       f_X5_go0_b412 n K rc61 x1 x3 x4 x5 x6 x7 x8 x9 x11 rI rA
      )
     )
    )
   )
  )
 )
)
def f_X5_go0_b298 (n : Nat) (K : List Nat) (rc61 : (Int32 × (Nat → Int32) × (Nat → Nat → Int32)) → Option ((Nat → Int32) × (Nat → Nat → Int32))) (x1 : Int32) (x3 : Int32) (x4 : Int32) (x5 : Int32) (x6 : Int32) (x7 : Int32) (x8 : Int32) (x9 : Int32) (x11 : Int32) (rI : Nat → Int32) (rA : Nat → Nat → Int32) : Option ((Nat → Int32) × (Nat → Nat → Int32)) := (
 (f_X5_truth x11).bind fun (r56, _u56) => (
  if inb (rI 11) 60 = true then (
   f_X5_go0_b327 n K rc61 x1 x3 x4 x5 x6 x7 x8 x9 x11 (upd rI 11 ((rI 11) + (1 : Int32))) (up2 rA 16 (rI 11).toNatClampNeg (((2 : Int32) * x4) + r56))
  ) else none
 )
)
def f_X5_go0_b273 (n : Nat) (K : List Nat) (rc61 : (Int32 × (Nat → Int32) × (Nat → Nat → Int32)) → Option ((Nat → Int32) × (Nat → Nat → Int32))) (x1 : Int32) (x3 : Int32) (x4 : Int32) (x5 : Int32) (x6 : Int32) (x7 : Int32) (x8 : Int32) (x9 : Int32) (y0 : Int32) (rI : Nat → Int32) (rA : Nat → Nat → Int32) : Option ((Nat → Int32) × (Nat → Nat → Int32)) := (
 f_X5_go0_b298 n K rc61 x1 x3 x4 x5 x6 x7 x8 x9 y0 rI rA
)
def f_X5_go0_b259 (n : Nat) (K : List Nat) (rc61 : (Int32 × (Nat → Int32) × (Nat → Nat → Int32)) → Option ((Nat → Int32) × (Nat → Nat → Int32))) (x1 : Int32) (x3 : Int32) (x4 : Int32) (x5 : Int32) (x6 : Int32) (x7 : Int32) (x8 : Int32) (x9 : Int32) (rI : Nat → Int32) (rA : Nat → Nat → Int32) : Option ((Nat → Int32) × (Nat → Nat → Int32)) := (
 f_X5_go0_b273 n K rc61 x1 x3 x4 x5 x6 x7 x8 x9 (0 : Int32) rI rA
)
def f_X5_go0_b243 (n : Nat) (K : List Nat) (rc61 : (Int32 × (Nat → Int32) × (Nat → Nat → Int32)) → Option ((Nat → Int32) × (Nat → Nat → Int32))) (x1 : Int32) (x3 : Int32) (x4 : Int32) (x5 : Int32) (x6 : Int32) (x7 : Int32) (x8 : Int32) (x9 : Int32) (x12 : Int32) (rI : Nat → Int32) (rA : Nat → Nat → Int32) : Option ((Nat → Int32) × (Nat → Nat → Int32)) := (
 if x12 < 0 then (
  f_X5_go0_b259 n K rc61 x1 x3 x4 x5 x6 x7 x8 x9 rI rA
 ) else (
  if (8 : Int32) ≤ x12 then (
   f_X5_go0_b259 n K rc61 x1 x3 x4 x5 x6 x7 x8 x9 rI rA
  ) else (
   f_X5_go0_b273 n K rc61 x1 x3 x4 x5 x6 x7 x8 x9 (1 : Int32) rI rA
  )
 )
)
def f_X5_go0_b227 (n : Nat) (K : List Nat) (rc61 : (Int32 × (Nat → Int32) × (Nat → Nat → Int32)) → Option ((Nat → Int32) × (Nat → Nat → Int32))) (x1 : Int32) (x3 : Int32) (x4 : Int32) (x5 : Int32) (x6 : Int32) (x7 : Int32) (x8 : Int32) (x9 : Int32) (y0 : Int32) (rI : Nat → Int32) (rA : Nat → Nat → Int32) : Option ((Nat → Int32) × (Nat → Nat → Int32)) := (
 if x5 = (25 : Int32) then (
  f_X5_go0_b243 n K rc61 x1 x3 x4 x5 x6 x7 x8 x9 y0 rI rA
 ) else (
  if x5 = (26 : Int32) then (
   f_X5_go0_b243 n K rc61 x1 x3 x4 x5 x6 x7 x8 x9 y0 rI rA
  ) else (
   if y0 = 0 then (
    f_X5_go0_b273 n K rc61 x1 x3 x4 x5 x6 x7 x8 x9 (0 : Int32) rI rA
   ) else (
    f_X5_go0_b273 n K rc61 x1 x3 x4 x5 x6 x7 x8 x9 (1 : Int32) rI rA
   )
  )
 )
)
def f_X5_go0_b175 (n : Nat) (K : List Nat) (rc61 : (Int32 × (Nat → Int32) × (Nat → Nat → Int32)) → Option ((Nat → Int32) × (Nat → Nat → Int32))) (x1 : Int32) (x3 : Int32) (x4 : Int32) (x5 : Int32) (x6 : Int32) (x7 : Int32) (x8 : Int32) (x9 : Int32) (y0 : Int32) (rI : Nat → Int32) (rA : Nat → Nat → Int32) : Option ((Nat → Int32) × (Nat → Nat → Int32)) := (
 if y0 = 0 then (
  f_X5_go0_b327 n K rc61 x1 x3 x4 x5 x6 x7 x8 x9 (0 : Int32) rI rA
 ) else (
  (f_X5_isDivision x5).bind fun (r64, _u64) => (
   if r64 = 0 then (
    if x5 = (25 : Int32) then (
     if inb x7 16 = true then (
      f_X5_go0_b227 n K rc61 x1 x3 x4 x5 x6 x7 x8 x9 (rA 14 x7.toNatClampNeg) rI rA
     ) else none
    ) else (
     if inb x6 16 = true then (
      f_X5_go0_b227 n K rc61 x1 x3 x4 x5 x6 x7 x8 x9 (rA 14 x6.toNatClampNeg) rI rA
     ) else none
    )
   ) else (
    if inb x8 16 = true then (
     f_X5_go0_b227 n K rc61 x1 x3 x4 x5 x6 x7 x8 x9 (rA 14 x8.toNatClampNeg) rI rA
    ) else none
   )
  )
 )
)
def f_X5_go0_b170 (n : Nat) (K : List Nat) (rc61 : (Int32 × (Nat → Int32) × (Nat → Nat → Int32)) → Option ((Nat → Int32) × (Nat → Nat → Int32))) (x1 : Int32) (x3 : Int32) (x4 : Int32) (x5 : Int32) (x6 : Int32) (x7 : Int32) (x8 : Int32) (x9 : Int32) (rI : Nat → Int32) (rA : Nat → Nat → Int32) : Option ((Nat → Int32) × (Nat → Nat → Int32)) := (
 f_X5_go0_b175 n K rc61 x1 x3 x4 x5 x6 x7 x8 x9 (1 : Int32) rI rA
)
def f_X5_go0_b82 (n : Nat) (K : List Nat) (rc61 : (Int32 × (Nat → Int32) × (Nat → Nat → Int32)) → Option ((Nat → Int32) × (Nat → Nat → Int32))) (x1 : Int32) (x3 : Int32) (x4 : Int32) (rI : Nat → Int32) (rA : Nat → Nat → Int32) : Option ((Nat → Int32) × (Nat → Nat → Int32)) := (
 if inb x4 60 = true then (
  if inb x4 60 = true then (
   if inb x4 60 = true then (
    if inb x4 60 = true then (
     (f_X5_isDivision (rA 2 x4.toNatClampNeg)).bind fun (r74, _u74) => (
      if r74 = 0 then (
       if (rA 2 x4.toNatClampNeg) = (25 : Int32) then (
        f_X5_go0_b170 n K rc61 x1 x3 x4 (rA 2 x4.toNatClampNeg) (rA 3 x4.toNatClampNeg) (rA 4 x4.toNatClampNeg) (rA 5 x4.toNatClampNeg) (x4 + (1 : Int32)) (upd rI 10 ((rI 10) + (1 : Int32))) rA
       ) else (
        if (rA 2 x4.toNatClampNeg) = (26 : Int32) then (
         f_X5_go0_b170 n K rc61 x1 x3 x4 (rA 2 x4.toNatClampNeg) (rA 3 x4.toNatClampNeg) (rA 4 x4.toNatClampNeg) (rA 5 x4.toNatClampNeg) (x4 + (1 : Int32)) (upd rI 10 ((rI 10) + (1 : Int32))) rA
        ) else (
         if (rA 2 x4.toNatClampNeg) = (27 : Int32) then (
          f_X5_go0_b170 n K rc61 x1 x3 x4 (rA 2 x4.toNatClampNeg) (rA 3 x4.toNatClampNeg) (rA 4 x4.toNatClampNeg) (rA 5 x4.toNatClampNeg) (x4 + (1 : Int32)) (upd rI 10 ((rI 10) + (1 : Int32))) rA
         ) else (
          if (rA 2 x4.toNatClampNeg) = (29 : Int32) then (
           f_X5_go0_b170 n K rc61 x1 x3 x4 (rA 2 x4.toNatClampNeg) (rA 3 x4.toNatClampNeg) (rA 4 x4.toNatClampNeg) (rA 5 x4.toNatClampNeg) (x4 + (1 : Int32)) (upd rI 10 ((rI 10) + (1 : Int32))) rA
          ) else (
           f_X5_go0_b175 n K rc61 x1 x3 x4 (rA 2 x4.toNatClampNeg) (rA 3 x4.toNatClampNeg) (rA 4 x4.toNatClampNeg) (rA 5 x4.toNatClampNeg) (x4 + (1 : Int32)) (0 : Int32) (upd rI 10 ((rI 10) + (1 : Int32))) rA
          )
         )
        )
       )
      ) else (
       f_X5_go0_b170 n K rc61 x1 x3 x4 (rA 2 x4.toNatClampNeg) (rA 3 x4.toNatClampNeg) (rA 4 x4.toNatClampNeg) (rA 5 x4.toNatClampNeg) (x4 + (1 : Int32)) (upd rI 10 ((rI 10) + (1 : Int32))) rA
      )
     )
    ) else none
   ) else none
  ) else none
 ) else none
)
def f_X5_go0_l61 (n : Nat) (K : List Nat) (x1 : Int32) (x3 : Int32) (rc61 : (Int32 × (Nat → Int32) × (Nat → Nat → Int32)) → Option ((Nat → Int32) × (Nat → Nat → Int32))) : (Int32 × (Nat → Int32) × (Nat → Nat → Int32)) → Option ((Nat → Int32) × (Nat → Nat → Int32)) := fun (x4, rI, rA) => (
 if (rI 3) ≤ x4 then (
  f_X5_go0_b768 n K rI rA
 ) else (
  if x3 = 0 then (
   f_X5_go0_b82 n K rc61 x1 x3 x4 rI rA
  ) else (
   if inb x4 60 = true then (
    f_X5_go0_b82 n K rc61 x1 x3 x4 rI (up2 rA 13 x4.toNatClampNeg (vp_nar .boolean (1 : Int32)))
   ) else none
  )
 )
)
def f_X5_go0_b48 (n : Nat) (K : List Nat) (x1 : Int32) (x3 : Int32) (rI : Nat → Int32) (rA : Nat → Nat → Int32) : Option ((Nat → Int32) × (Nat → Nat → Int32)) := (
 lp (f_X5_go0_l61 n K x1 x3 ) n ((0 : Int32), (upd (upd rI 10 (0 : Int32)) 11 (0 : Int32)), rA)
)
def f_X5_go0_l27 (n : Nat) (K : List Nat) (x1 : Int32) (x3 : Int32) (rI : Nat → Int32) (rc27 : (Int32 × (Nat → Nat → Int32)) → Option ((Nat → Int32) × (Nat → Nat → Int32))) : (Int32 × (Nat → Nat → Int32)) → Option ((Nat → Int32) × (Nat → Nat → Int32)) := fun (x4, rA) => (
 if (8 : Int32) ≤ x4 then (
  f_X5_go0_b48 n K x1 x3 rI rA
 ) else (
  if inb x4 8 = true then (
   rc27 ((x4 + 1), (up2 rA 15 x4.toNatClampNeg (0 : Int32)))
  ) else none
 )
)
def f_X5_go0_b24 (n : Nat) (K : List Nat) (x1 : Int32) (x3 : Int32) (rI : Nat → Int32) (rA : Nat → Nat → Int32) : Option ((Nat → Int32) × (Nat → Nat → Int32)) := (
 lp (f_X5_go0_l27 n K x1 x3 rI) n ((0 : Int32), rA)
)
def f_X5_go0_l3 (n : Nat) (K : List Nat) (x1 : Int32) (x3 : Int32) (rI : Nat → Int32) (rc3 : (Int32 × (Nat → Nat → Int32)) → Option ((Nat → Int32) × (Nat → Nat → Int32))) : (Int32 × (Nat → Nat → Int32)) → Option ((Nat → Int32) × (Nat → Nat → Int32)) := fun (x4, rA) => (
 if (16 : Int32) ≤ x4 then (
  f_X5_go0_b24 n K x1 x3 rI rA
 ) else (
  if inb x4 16 = true then (
   rc3 ((x4 + 1), (up2 rA 14 x4.toNatClampNeg (0 : Int32)))
  ) else none
 )
)
def f_X5_go0 (n : Nat) (K : List Nat) (u1 : Int32) (u3 : Int32) (rI : Nat → Int32) (rA : Nat → Nat → Int32) : Option ((Nat → Int32) × (Nat → Nat → Int32)) := (
 lp (f_X5_go0_l3 n K u1 u3 rI) n ((0 : Int32), rA)
)
def f_X5_go1_b768 (n : Nat) (K : List Nat) (rI : Nat → Int32) (rA : Nat → Nat → Int32) (rR : Nat → Nat → Int32) : Option ((Nat → Int32) × (Nat → Nat → Int32)) := (
 (f_X5_ends K (0 : Int32) (rI 3) (0 : Int32) rI).bind fun rI1 => (
  some (rI1, rA)
 )
)
def f_X5_go1_b761 (n : Nat) (K : List Nat) (rc61 : (Int32 × (Nat → Int32) × (Nat → Nat → Int32)) → Option ((Nat → Int32) × (Nat → Nat → Int32))) (x1 : Int32) (x2 : Nat) (x3 : Int32) (x9 : Int32) (rI : Nat → Int32) (rA : Nat → Nat → Int32) (rR : Nat → Nat → Int32) : Option ((Nat → Int32) × (Nat → Nat → Int32)) := (
 rc61 (x9, rI, rA)
)
def f_X5_go1_b757 (n : Nat) (K : List Nat) (y1 : Int32) (y2 : Int32) (y3 : Int32) (rI : Nat → Int32) (rA : Nat → Nat → Int32) (rR : Nat → Nat → Int32) : Option ((Nat → Int32) × (Nat → Nat → Int32)) := (
 (f_X5_ends K y1 y2 y3 rI).bind fun rI2 => (
  some (rI2, rA)
 )
)
def f_X5_go1_b736 (n : Nat) (K : List Nat) (x4 : Int32) (x5 : Int32) (x6 : Int32) (y1 : Int32) (rI : Nat → Int32) (rA : Nat → Nat → Int32) (rR : Nat → Nat → Int32) : Option ((Nat → Int32) × (Nat → Nat → Int32)) := (
 if x5 = (30 : Int32) then (
  f_X5_go1_b757 n K y1 x4 x6 rI rA rR
 ) else (
  if inb x6 16 = true then (
   f_X5_go1_b757 n K y1 x4 (rA 14 x6.toNatClampNeg) rI rA rR
  ) else none
 )
)
def f_X5_go1_b723 (n : Nat) (K : List Nat) (x4 : Int32) (x5 : Int32) (x6 : Int32) (rI : Nat → Int32) (rA : Nat → Nat → Int32) (rR : Nat → Nat → Int32) : Option ((Nat → Int32) × (Nat → Nat → Int32)) := (
 if x5 = (30 : Int32) then (
  f_X5_go1_b736 n K x4 x5 x6 (4 : Int32) rI rA rR
 ) else (
  f_X5_go1_b736 n K x4 x5 x6 (0 : Int32) rI rA rR
 )
)
def f_X5_go1_b714 (n : Nat) (K : List Nat) (x4 : Int32) (rI : Nat → Int32) (rA : Nat → Nat → Int32) (rR : Nat → Nat → Int32) : Option ((Nat → Int32) × (Nat → Nat → Int32)) := (
 (f_X5_ends K (3 : Int32) x4 (0 : Int32) rI).bind fun rI6 => (
  some (rI6, rA)
 )
)
def f_X5_go1_b683 (n : Nat) (K : List Nat) (rc61 : (Int32 × (Nat → Int32) × (Nat → Nat → Int32)) → Option ((Nat → Int32) × (Nat → Nat → Int32))) (x1 : Int32) (x2 : Nat) (x3 : Int32) (y0 : Int32) (rI : Nat → Int32) (rA : Nat → Nat → Int32) (rR : Nat → Nat → Int32) : Option ((Nat → Int32) × (Nat → Nat → Int32)) := (
 f_X5_go1_b761 n K rc61 x1 x2 x3 y0 rI rA rR
)
def f_X5_go1_b661 (n : Nat) (K : List Nat) (rc61 : (Int32 × (Nat → Int32) × (Nat → Nat → Int32)) → Option ((Nat → Int32) × (Nat → Nat → Int32))) (x1 : Int32) (x2 : Nat) (x3 : Int32) (x9 : Int32) (rI : Nat → Int32) (rA : Nat → Nat → Int32) (rR : Nat → Nat → Int32) : Option ((Nat → Int32) × (Nat → Nat → Int32)) := (
 f_X5_go1_b761 n K rc61 x1 x2 x3 x9 rI rA rR
)
def f_X5_go1_b638 (n : Nat) (K : List Nat) (rc61 : (Int32 × (Nat → Int32) × (Nat → Nat → Int32)) → Option ((Nat → Int32) × (Nat → Nat → Int32))) (x1 : Int32) (x2 : Nat) (x3 : Int32) (x9 : Int32) (y1 : Int32) (y2 : Int32) (rI : Nat → Int32) (rA : Nat → Nat → Int32) (rR : Nat → Nat → Int32) : Option ((Nat → Int32) × (Nat → Nat → Int32)) := (
 if inb y1 16 = true then (
  f_X5_go1_b661 n K rc61 x1 x2 x3 x9 rI (up2 rA 14 y1.toNatClampNeg y2) rR
 ) else none
)
def f_X5_go1_b607 (n : Nat) (K : List Nat) (rc61 : (Int32 × (Nat → Int32) × (Nat → Nat → Int32)) → Option ((Nat → Int32) × (Nat → Nat → Int32))) (x1 : Int32) (x2 : Nat) (x3 : Int32) (x5 : Int32) (x6 : Int32) (x7 : Int32) (x9 : Int32) (x12 : Int32) (y0 : Int32) (rI : Nat → Int32) (rA : Nat → Nat → Int32) (rR : Nat → Nat → Int32) : Option ((Nat → Int32) × (Nat → Nat → Int32)) := (
 if x5 = (25 : Int32) then (
  if y0 = 0 then (
   f_X5_go1_b638 n K rc61 x1 x2 x3 x9 x6 (0 : Int32) rI rA rR
  ) else (
   if inb x12 8 = true then (
    f_X5_go1_b638 n K rc61 x1 x2 x3 x9 x6 (rA 15 x12.toNatClampNeg) rI rA rR
   ) else none
  )
 ) else (
  if y0 = 0 then (
   f_X5_go1_b661 n K rc61 x1 x2 x3 x9 rI rA rR
  ) else (
   if inb x7 16 = true then (
    if inb x12 8 = true then (
     f_X5_go1_b661 n K rc61 x1 x2 x3 x9 rI (up2 rA 15 x12.toNatClampNeg (rA 14 x7.toNatClampNeg)) rR
    ) else none
   ) else none
  )
 )
)
def f_X5_go1_b606 (n : Nat) (K : List Nat) (rc61 : (Int32 × (Nat → Int32) × (Nat → Nat → Int32)) → Option ((Nat → Int32) × (Nat → Nat → Int32))) (x1 : Int32) (x2 : Nat) (x3 : Int32) (x5 : Int32) (x6 : Int32) (x7 : Int32) (x9 : Int32) (x12 : Int32) (rI : Nat → Int32) (rA : Nat → Nat → Int32) (rR : Nat → Nat → Int32) : Option ((Nat → Int32) × (Nat → Nat → Int32)) := (
 f_X5_go1_b607 n K rc61 x1 x2 x3 x5 x6 x7 x9 x12 (0 : Int32) rI rA rR
)
def f_X5_go1_b588 (n : Nat) (K : List Nat) (rc61 : (Int32 × (Nat → Int32) × (Nat → Nat → Int32)) → Option ((Nat → Int32) × (Nat → Nat → Int32))) (x1 : Int32) (x2 : Nat) (x3 : Int32) (x5 : Int32) (x6 : Int32) (x7 : Int32) (x9 : Int32) (y0 : Int32) (rI : Nat → Int32) (rA : Nat → Nat → Int32) (rR : Nat → Nat → Int32) : Option ((Nat → Int32) × (Nat → Nat → Int32)) := (
 if y0 < 0 then (
  f_X5_go1_b606 n K rc61 x1 x2 x3 x5 x6 x7 x9 y0 rI rA rR
 ) else (
  if (8 : Int32) ≤ y0 then (
   f_X5_go1_b606 n K rc61 x1 x2 x3 x5 x6 x7 x9 y0 rI rA rR
  ) else (
   f_X5_go1_b607 n K rc61 x1 x2 x3 x5 x6 x7 x9 y0 (1 : Int32) rI rA rR
  )
 )
)
def f_X5_go1_b555 (n : Nat) (K : List Nat) (x4 : Int32) (rI : Nat → Int32) (rA : Nat → Nat → Int32) (rR : Nat → Nat → Int32) : Option ((Nat → Int32) × (Nat → Nat → Int32)) := (
 (f_X5_ends K (2 : Int32) x4 (0 : Int32) rI).bind fun rI16 => (
  some (rI16, rA)
 )
)
def f_X5_go1_b539 (n : Nat) (K : List Nat) (rc61 : (Int32 × (Nat → Int32) × (Nat → Nat → Int32)) → Option ((Nat → Int32) × (Nat → Nat → Int32))) (x1 : Int32) (x2 : Nat) (x3 : Int32) (x9 : Int32) (y1 : Int32) (y2 : Int32) (rI : Nat → Int32) (rA : Nat → Nat → Int32) (rR : Nat → Nat → Int32) : Option ((Nat → Int32) × (Nat → Nat → Int32)) := (
 if inb y1 16 = true then (
  f_X5_go1_b761 n K rc61 x1 x2 x3 x9 rI (up2 rA 14 y1.toNatClampNeg y2) rR
 ) else none
)
def f_X5_go1_b412 (n : Nat) (K : List Nat) (rc61 : (Int32 × (Nat → Int32) × (Nat → Nat → Int32)) → Option ((Nat → Int32) × (Nat → Nat → Int32))) (x1 : Int32) (x2 : Nat) (x3 : Int32) (x4 : Int32) (x5 : Int32) (x6 : Int32) (x7 : Int32) (x8 : Int32) (x9 : Int32) (x11 : Int32) (rI : Nat → Int32) (rA : Nat → Nat → Int32) (rR : Nat → Nat → Int32) : Option ((Nat → Int32) × (Nat → Nat → Int32)) := (
 if (21 : Int32) < x5 then (
  if x5 = (22 : Int32) then (
   if inb x7 16 = true then (
    if inb x6 16 = true then (
     f_X5_go1_b761 n K rc61 x1 x2 x3 x9 rI (up2 rA 14 x6.toNatClampNeg ((rA 14 x7.toNatClampNeg) ^^^ (-1 : Int32))) rR
    ) else none
   ) else none
  ) else (
   if x5 = (23 : Int32) then (
    if inb x7 16 = true then (
     if inb x6 16 = true then (
      f_X5_go1_b761 n K rc61 x1 x2 x3 x9 rI (up2 rA 14 x6.toNatClampNeg (-(rA 14 x7.toNatClampNeg))) rR
     ) else none
    ) else none
   ) else (
    if x5 = (24 : Int32) then (
     if inb x7 16 = true then (
      if (rA 14 x7.toNatClampNeg) = 0 then (
       if inb x6 16 = true then (
        f_X5_go1_b539 n K rc61 x1 x2 x3 x9 x6 (rA 14 x6.toNatClampNeg) rI rA rR
       ) else none
      ) else (
       if inb x8 16 = true then (
        f_X5_go1_b539 n K rc61 x1 x2 x3 x9 x6 (rA 14 x8.toNatClampNeg) rI rA rR
       ) else none
      )
     ) else none
    ) else (
     if (26 : Int32) < x5 then (
      if x5 = (27 : Int32) then (
       if x11 = 0 then (
        f_X5_go1_b683 n K rc61 x1 x2 x3 x9 rI rA rR
       ) else (
        f_X5_go1_b683 n K rc61 x1 x2 x3 x7 rI rA rR
       )
      ) else (
       if x5 = (28 : Int32) then (
        f_X5_go1_b761 n K rc61 x1 x2 x3 x6 rI rA rR
       ) else (
        if x5 = (29 : Int32) then (
         if x11 = 0 then (
          f_X5_go1_b714 n K x4 rI rA rR
         ) else (
          f_X5_go1_b761 n K rc61 x1 x2 x3 x9 rI rA rR
         )
        ) else (
         f_X5_go1_b723 n K x4 x5 x6 rI rA rR
        )
       )
      )
     ) else (
      if x11 = 0 then (
       f_X5_go1_b555 n K x4 rI rA rR
      ) else (
       if x5 = (25 : Int32) then (
        if inb x7 16 = true then (
         f_X5_go1_b588 n K rc61 x1 x2 x3 x5 x6 x7 x9 (rA 14 x7.toNatClampNeg) rI rA rR
        ) else none
       ) else (
        if inb x6 16 = true then (
         f_X5_go1_b588 n K rc61 x1 x2 x3 x5 x6 x7 x9 (rA 14 x6.toNatClampNeg) rI rA rR
        ) else none
       )
      )
     )
    )
   )
  )
 ) else (
  if inb x7 16 = true then (
   if inb x8 16 = true then (
    (f_X5_reckoned x5 (rA 14 x7.toNatClampNeg) (rA 14 x8.toNatClampNeg)).bind fun (r42, _u42) => (
     if inb x6 16 = true then (
      f_X5_go1_b761 n K rc61 x1 x2 x3 x9 rI (up2 rA 14 x6.toNatClampNeg r42) rR
     ) else none
    )
   ) else none
  ) else none
 )
)
def f_X5_go1_b403 (n : Nat) (K : List Nat) (x4 : Int32) (rI : Nat → Int32) (rA : Nat → Nat → Int32) (rR : Nat → Nat → Int32) : Option ((Nat → Int32) × (Nat → Nat → Int32)) := (
 (f_X5_ends K (1 : Int32) x4 (0 : Int32) rI).bind fun rI44 => (
  some (rI44, rA)
 )
)
def f_X5_go1_b327 (n : Nat) (K : List Nat) (rc61 : (Int32 × (Nat → Int32) × (Nat → Nat → Int32)) → Option ((Nat → Int32) × (Nat → Nat → Int32))) (x1 : Int32) (x2 : Nat) (x3 : Int32) (x4 : Int32) (x5 : Int32) (x6 : Int32) (x7 : Int32) (x8 : Int32) (x9 : Int32) (x11 : Int32) (rI : Nat → Int32) (rA : Nat → Nat → Int32) (rR : Nat → Nat → Int32) : Option ((Nat → Int32) × (Nat → Nat → Int32)) := (
 if x5 = 0 then (
  if inb x6 16 = true then (
   f_X5_go1_b761 n K rc61 x1 x2 x3 x9 rI (up2 rA 14 x6.toNatClampNeg x7) rR
  ) else none
 ) else (
  if x5 = (1 : Int32) then (
   (f_X5_inputOf n K x1 x7 rI rA).bind fun (r53, _u53) => (
    if inb x6 16 = true then (
     f_X5_go1_b761 n K rc61 x1 x2 x3 x9 rI (up2 rA 14 x6.toNatClampNeg r53) rR
    ) else none
   )
  ) else (
   if x5 = (2 : Int32) then (
    if inb x7 16 = true then (
     if inb x6 16 = true then (
      f_X5_go1_b761 n K rc61 x1 x2 x3 x9 rI (up2 rA 14 x6.toNatClampNeg (rA 14 x7.toNatClampNeg)) rR
     ) else none
    ) else none
   ) else (
    (f_X5_isDivision x5).bind fun (r48, _u48) => (
     if r48 = 0 then (
      f_X5_go1_b412 n K rc61 x1 x2 x3 x4 x5 x6 x7 x8 x9 x11 rI rA rR
     ) else (
      if x11 = 0 then (
       f_X5_go1_b403 n K x4 rI rA rR
      ) else (
       f_X5_go1_b412 n K rc61 x1 x2 x3 x4 x5 x6 x7 x8 x9 x11 rI rA rR
      )
     )
    )
   )
  )
 )
)
def f_X5_go1_b298 (n : Nat) (K : List Nat) (rc61 : (Int32 × (Nat → Int32) × (Nat → Nat → Int32)) → Option ((Nat → Int32) × (Nat → Nat → Int32))) (x1 : Int32) (x2 : Nat) (x3 : Int32) (x4 : Int32) (x5 : Int32) (x6 : Int32) (x7 : Int32) (x8 : Int32) (x9 : Int32) (x11 : Int32) (rI : Nat → Int32) (rA : Nat → Nat → Int32) (rR : Nat → Nat → Int32) : Option ((Nat → Int32) × (Nat → Nat → Int32)) := (
 (f_X5_truth x11).bind fun (r56, _u56) => (
  if inb (rI 11) 60 = true then (
   f_X5_go1_b327 n K rc61 x1 x2 x3 x4 x5 x6 x7 x8 x9 x11 (upd rI 11 ((rI 11) + (1 : Int32))) (up2 rA 16 (rI 11).toNatClampNeg (((2 : Int32) * x4) + r56)) rR
  ) else none
 )
)
def f_X5_go1_b296 (n : Nat) (K : List Nat) (rc61 : (Int32 × (Nat → Int32) × (Nat → Nat → Int32)) → Option ((Nat → Int32) × (Nat → Nat → Int32))) (x1 : Int32) (x2 : Nat) (x3 : Int32) (x4 : Int32) (x5 : Int32) (x6 : Int32) (x7 : Int32) (x8 : Int32) (x9 : Int32) (y0 : Int32) (rI : Nat → Int32) (rA : Nat → Nat → Int32) (rR : Nat → Nat → Int32) : Option ((Nat → Int32) × (Nat → Nat → Int32)) := (
 f_X5_go1_b298 n K rc61 x1 x2 x3 x4 x5 x6 x7 x8 x9 y0 rI rA rR
)
def f_X5_go1_b273 (n : Nat) (K : List Nat) (rc61 : (Int32 × (Nat → Int32) × (Nat → Nat → Int32)) → Option ((Nat → Int32) × (Nat → Nat → Int32))) (x1 : Int32) (x2 : Nat) (x3 : Int32) (x4 : Int32) (x5 : Int32) (x6 : Int32) (x7 : Int32) (x8 : Int32) (x9 : Int32) (y0 : Int32) (rI : Nat → Int32) (rA : Nat → Nat → Int32) (rR : Nat → Nat → Int32) : Option ((Nat → Int32) × (Nat → Nat → Int32)) := (
 if x2 ∈ K then (
  if inb (rI 11) 60 = true then (
   if ¬ (2 : Int32) = 0 then (
    if ((rR x2 (rI 11).toNatClampNeg) - (rR x2 (rI 11).toNatClampNeg) / (2 : Int32) * (2 : Int32)) = (1 : Int32) then (
     f_X5_go1_b296 n K rc61 x1 x2 x3 x4 x5 x6 x7 x8 x9 (1 : Int32) rI rA rR
    ) else (
     f_X5_go1_b296 n K rc61 x1 x2 x3 x4 x5 x6 x7 x8 x9 (0 : Int32) rI rA rR
    )
   ) else none
  ) else none
 ) else none
)
def f_X5_go1_b259 (n : Nat) (K : List Nat) (rc61 : (Int32 × (Nat → Int32) × (Nat → Nat → Int32)) → Option ((Nat → Int32) × (Nat → Nat → Int32))) (x1 : Int32) (x2 : Nat) (x3 : Int32) (x4 : Int32) (x5 : Int32) (x6 : Int32) (x7 : Int32) (x8 : Int32) (x9 : Int32) (rI : Nat → Int32) (rA : Nat → Nat → Int32) (rR : Nat → Nat → Int32) : Option ((Nat → Int32) × (Nat → Nat → Int32)) := (
 f_X5_go1_b273 n K rc61 x1 x2 x3 x4 x5 x6 x7 x8 x9 (0 : Int32) rI rA rR
)
def f_X5_go1_b243 (n : Nat) (K : List Nat) (rc61 : (Int32 × (Nat → Int32) × (Nat → Nat → Int32)) → Option ((Nat → Int32) × (Nat → Nat → Int32))) (x1 : Int32) (x2 : Nat) (x3 : Int32) (x4 : Int32) (x5 : Int32) (x6 : Int32) (x7 : Int32) (x8 : Int32) (x9 : Int32) (x12 : Int32) (rI : Nat → Int32) (rA : Nat → Nat → Int32) (rR : Nat → Nat → Int32) : Option ((Nat → Int32) × (Nat → Nat → Int32)) := (
 if x12 < 0 then (
  f_X5_go1_b259 n K rc61 x1 x2 x3 x4 x5 x6 x7 x8 x9 rI rA rR
 ) else (
  if (8 : Int32) ≤ x12 then (
   f_X5_go1_b259 n K rc61 x1 x2 x3 x4 x5 x6 x7 x8 x9 rI rA rR
  ) else (
   f_X5_go1_b273 n K rc61 x1 x2 x3 x4 x5 x6 x7 x8 x9 (1 : Int32) rI rA rR
  )
 )
)
def f_X5_go1_b227 (n : Nat) (K : List Nat) (rc61 : (Int32 × (Nat → Int32) × (Nat → Nat → Int32)) → Option ((Nat → Int32) × (Nat → Nat → Int32))) (x1 : Int32) (x2 : Nat) (x3 : Int32) (x4 : Int32) (x5 : Int32) (x6 : Int32) (x7 : Int32) (x8 : Int32) (x9 : Int32) (y0 : Int32) (rI : Nat → Int32) (rA : Nat → Nat → Int32) (rR : Nat → Nat → Int32) : Option ((Nat → Int32) × (Nat → Nat → Int32)) := (
 if x5 = (25 : Int32) then (
  f_X5_go1_b243 n K rc61 x1 x2 x3 x4 x5 x6 x7 x8 x9 y0 rI rA rR
 ) else (
  if x5 = (26 : Int32) then (
   f_X5_go1_b243 n K rc61 x1 x2 x3 x4 x5 x6 x7 x8 x9 y0 rI rA rR
  ) else (
   if y0 = 0 then (
    f_X5_go1_b273 n K rc61 x1 x2 x3 x4 x5 x6 x7 x8 x9 (0 : Int32) rI rA rR
   ) else (
    f_X5_go1_b273 n K rc61 x1 x2 x3 x4 x5 x6 x7 x8 x9 (1 : Int32) rI rA rR
   )
  )
 )
)
def f_X5_go1_b175 (n : Nat) (K : List Nat) (rc61 : (Int32 × (Nat → Int32) × (Nat → Nat → Int32)) → Option ((Nat → Int32) × (Nat → Nat → Int32))) (x1 : Int32) (x2 : Nat) (x3 : Int32) (x4 : Int32) (x5 : Int32) (x6 : Int32) (x7 : Int32) (x8 : Int32) (x9 : Int32) (y0 : Int32) (rI : Nat → Int32) (rA : Nat → Nat → Int32) (rR : Nat → Nat → Int32) : Option ((Nat → Int32) × (Nat → Nat → Int32)) := (
 if y0 = 0 then (
  f_X5_go1_b327 n K rc61 x1 x2 x3 x4 x5 x6 x7 x8 x9 (0 : Int32) rI rA rR
 ) else (
  (f_X5_isDivision x5).bind fun (r69, _u69) => (
   if r69 = 0 then (
    if x5 = (25 : Int32) then (
     if inb x7 16 = true then (
      f_X5_go1_b227 n K rc61 x1 x2 x3 x4 x5 x6 x7 x8 x9 (rA 14 x7.toNatClampNeg) rI rA rR
     ) else none
    ) else (
     if inb x6 16 = true then (
      f_X5_go1_b227 n K rc61 x1 x2 x3 x4 x5 x6 x7 x8 x9 (rA 14 x6.toNatClampNeg) rI rA rR
     ) else none
    )
   ) else (
    if inb x8 16 = true then (
     f_X5_go1_b227 n K rc61 x1 x2 x3 x4 x5 x6 x7 x8 x9 (rA 14 x8.toNatClampNeg) rI rA rR
    ) else none
   )
  )
 )
)
def f_X5_go1_b170 (n : Nat) (K : List Nat) (rc61 : (Int32 × (Nat → Int32) × (Nat → Nat → Int32)) → Option ((Nat → Int32) × (Nat → Nat → Int32))) (x1 : Int32) (x2 : Nat) (x3 : Int32) (x4 : Int32) (x5 : Int32) (x6 : Int32) (x7 : Int32) (x8 : Int32) (x9 : Int32) (rI : Nat → Int32) (rA : Nat → Nat → Int32) (rR : Nat → Nat → Int32) : Option ((Nat → Int32) × (Nat → Nat → Int32)) := (
 f_X5_go1_b175 n K rc61 x1 x2 x3 x4 x5 x6 x7 x8 x9 (1 : Int32) rI rA rR
)
def f_X5_go1_b82 (n : Nat) (K : List Nat) (rc61 : (Int32 × (Nat → Int32) × (Nat → Nat → Int32)) → Option ((Nat → Int32) × (Nat → Nat → Int32))) (x1 : Int32) (x2 : Nat) (x3 : Int32) (x4 : Int32) (rI : Nat → Int32) (rA : Nat → Nat → Int32) (rR : Nat → Nat → Int32) : Option ((Nat → Int32) × (Nat → Nat → Int32)) := (
 if inb x4 60 = true then (
  if inb x4 60 = true then (
   if inb x4 60 = true then (
    if inb x4 60 = true then (
     (f_X5_isDivision (rA 2 x4.toNatClampNeg)).bind fun (r79, _u79) => (
      if r79 = 0 then (
       if (rA 2 x4.toNatClampNeg) = (25 : Int32) then (
        f_X5_go1_b170 n K rc61 x1 x2 x3 x4 (rA 2 x4.toNatClampNeg) (rA 3 x4.toNatClampNeg) (rA 4 x4.toNatClampNeg) (rA 5 x4.toNatClampNeg) (x4 + (1 : Int32)) (upd rI 10 ((rI 10) + (1 : Int32))) rA rR
       ) else (
        if (rA 2 x4.toNatClampNeg) = (26 : Int32) then (
         f_X5_go1_b170 n K rc61 x1 x2 x3 x4 (rA 2 x4.toNatClampNeg) (rA 3 x4.toNatClampNeg) (rA 4 x4.toNatClampNeg) (rA 5 x4.toNatClampNeg) (x4 + (1 : Int32)) (upd rI 10 ((rI 10) + (1 : Int32))) rA rR
        ) else (
         if (rA 2 x4.toNatClampNeg) = (27 : Int32) then (
          f_X5_go1_b170 n K rc61 x1 x2 x3 x4 (rA 2 x4.toNatClampNeg) (rA 3 x4.toNatClampNeg) (rA 4 x4.toNatClampNeg) (rA 5 x4.toNatClampNeg) (x4 + (1 : Int32)) (upd rI 10 ((rI 10) + (1 : Int32))) rA rR
         ) else (
          if (rA 2 x4.toNatClampNeg) = (29 : Int32) then (
           f_X5_go1_b170 n K rc61 x1 x2 x3 x4 (rA 2 x4.toNatClampNeg) (rA 3 x4.toNatClampNeg) (rA 4 x4.toNatClampNeg) (rA 5 x4.toNatClampNeg) (x4 + (1 : Int32)) (upd rI 10 ((rI 10) + (1 : Int32))) rA rR
          ) else (
           f_X5_go1_b175 n K rc61 x1 x2 x3 x4 (rA 2 x4.toNatClampNeg) (rA 3 x4.toNatClampNeg) (rA 4 x4.toNatClampNeg) (rA 5 x4.toNatClampNeg) (x4 + (1 : Int32)) (0 : Int32) (upd rI 10 ((rI 10) + (1 : Int32))) rA rR
          )
         )
        )
       )
      ) else (
       f_X5_go1_b170 n K rc61 x1 x2 x3 x4 (rA 2 x4.toNatClampNeg) (rA 3 x4.toNatClampNeg) (rA 4 x4.toNatClampNeg) (rA 5 x4.toNatClampNeg) (x4 + (1 : Int32)) (upd rI 10 ((rI 10) + (1 : Int32))) rA rR
      )
     )
    ) else none
   ) else none
  ) else none
 ) else none
)
def f_X5_go1_l61 (n : Nat) (K : List Nat) (x1 : Int32) (x2 : Nat) (x3 : Int32) (rR : Nat → Nat → Int32) (rc61 : (Int32 × (Nat → Int32) × (Nat → Nat → Int32)) → Option ((Nat → Int32) × (Nat → Nat → Int32))) : (Int32 × (Nat → Int32) × (Nat → Nat → Int32)) → Option ((Nat → Int32) × (Nat → Nat → Int32)) := fun (x4, rI, rA) => (
 if (rI 3) ≤ x4 then (
  f_X5_go1_b768 n K rI rA rR
 ) else (
  if x3 = 0 then (
   f_X5_go1_b82 n K rc61 x1 x2 x3 x4 rI rA rR
  ) else (
   if inb x4 60 = true then (
    f_X5_go1_b82 n K rc61 x1 x2 x3 x4 rI (up2 rA 13 x4.toNatClampNeg (vp_nar .boolean (1 : Int32))) rR
   ) else none
  )
 )
)
def f_X5_go1_b48 (n : Nat) (K : List Nat) (x1 : Int32) (x2 : Nat) (x3 : Int32) (rI : Nat → Int32) (rA : Nat → Nat → Int32) (rR : Nat → Nat → Int32) : Option ((Nat → Int32) × (Nat → Nat → Int32)) := (
 lp (f_X5_go1_l61 n K x1 x2 x3 rR) n ((0 : Int32), (upd (upd rI 10 (0 : Int32)) 11 (0 : Int32)), rA)
)
def f_X5_go1_l27 (n : Nat) (K : List Nat) (x1 : Int32) (x2 : Nat) (x3 : Int32) (rI : Nat → Int32) (rR : Nat → Nat → Int32) (rc27 : (Int32 × (Nat → Nat → Int32)) → Option ((Nat → Int32) × (Nat → Nat → Int32))) : (Int32 × (Nat → Nat → Int32)) → Option ((Nat → Int32) × (Nat → Nat → Int32)) := fun (x4, rA) => (
 if (8 : Int32) ≤ x4 then (
  f_X5_go1_b48 n K x1 x2 x3 rI rA rR
 ) else (
  if inb x4 8 = true then (
   rc27 ((x4 + 1), (up2 rA 15 x4.toNatClampNeg (0 : Int32)))
  ) else none
 )
)
def f_X5_go1_b24 (n : Nat) (K : List Nat) (x1 : Int32) (x2 : Nat) (x3 : Int32) (rI : Nat → Int32) (rA : Nat → Nat → Int32) (rR : Nat → Nat → Int32) : Option ((Nat → Int32) × (Nat → Nat → Int32)) := (
 lp (f_X5_go1_l27 n K x1 x2 x3 rI rR) n ((0 : Int32), rA)
)
def f_X5_go1_l3 (n : Nat) (K : List Nat) (x1 : Int32) (x2 : Nat) (x3 : Int32) (rI : Nat → Int32) (rR : Nat → Nat → Int32) (rc3 : (Int32 × (Nat → Nat → Int32)) → Option ((Nat → Int32) × (Nat → Nat → Int32))) : (Int32 × (Nat → Nat → Int32)) → Option ((Nat → Int32) × (Nat → Nat → Int32)) := fun (x4, rA) => (
 if (16 : Int32) ≤ x4 then (
  f_X5_go1_b24 n K x1 x2 x3 rI rA rR
 ) else (
  if inb x4 16 = true then (
   rc3 ((x4 + 1), (up2 rA 14 x4.toNatClampNeg (0 : Int32)))
  ) else none
 )
)
def f_X5_go1 (n : Nat) (K : List Nat) (u1 : Int32) (u2 : Nat) (u3 : Int32) (rI : Nat → Int32) (rA : Nat → Nat → Int32) (rR : Nat → Nat → Int32) : Option ((Nat → Int32) × (Nat → Nat → Int32)) := (
 lp (f_X5_go1_l3 n K u1 u2 u3 rI rR) n ((0 : Int32), rA)
)
def f_X5_isPath_b55 (n : Nat) (K : List Nat) (rc21 : (Int32 × Int32) → Option (Int32 × Unit)) (x1 : Int32) (x3 : Int32) (y0 : Int32) (rI : Nat → Int32) (rA : Nat → Nat → Int32) (rG : Nat → Option Nat) (rR : Nat → Nat → Int32) : Option (Int32 × Unit) := (
 rc21 (y0, (x3 + 1))
)
def f_X5_isPath_l21 (n : Nat) (K : List Nat) (x1 : Int32) (rI : Nat → Int32) (rA : Nat → Nat → Int32) (rG : Nat → Option Nat) (rR : Nat → Nat → Int32) (rc21 : (Int32 × Int32) → Option (Int32 × Unit)) : (Int32 × Int32) → Option (Int32 × Unit) := fun (x2, x3) => (
 if (rI 11) ≤ x3 then (
  if x2 = 0 ∨ x2 = 1 then some (x2, ()) else none
 ) else (
  if x2 = 0 then (
   if x2 = 0 ∨ x2 = 1 then some (x2, ()) else none
  ) else (
   if inb x1 40 = true then (
    (rG x1.toNatClampNeg).bind fun a4 => (
     if a4 ∈ K then (
      if inb x3 60 = true then (
       if inb x3 60 = true then (
        if (rR a4 x3.toNatClampNeg) = (rA 16 x3.toNatClampNeg) then (
         f_X5_isPath_b55 n K rc21 x1 x3 (1 : Int32) rI rA rG rR
        ) else (
         f_X5_isPath_b55 n K rc21 x1 x3 (0 : Int32) rI rA rG rR
        )
       ) else none
      ) else none
     ) else none
    )
   ) else none
  )
 )
)
def f_X5_isPath_b18 (n : Nat) (K : List Nat) (x1 : Int32) (y0 : Int32) (rI : Nat → Int32) (rA : Nat → Nat → Int32) (rG : Nat → Option Nat) (rR : Nat → Nat → Int32) : Option (Int32 × Unit) := (
 lp (f_X5_isPath_l21 n K x1 rI rA rG rR) n (y0, (0 : Int32))
)
def f_X5_isPath (n : Nat) (K : List Nat) (u1 : Int32) (rI : Nat → Int32) (rA : Nat → Nat → Int32) (rG : Nat → Option Nat) (rR : Nat → Nat → Int32) : Option (Int32 × Unit) := (
 if inb u1 40 = true then (
  if (rA 8 u1.toNatClampNeg) = (rI 11) then (
   f_X5_isPath_b18 n K u1 (1 : Int32) rI rA rG rR
  ) else (
   f_X5_isPath_b18 n K u1 (0 : Int32) rI rA rG rR
  )
 ) else none
)
def f_X5_isAhead_b47 (n : Nat) (K : List Nat) (x1 : Int32) (x2 : Int32) (x3 : Int32) (rA : Nat → Nat → Int32) (rG : Nat → Option Nat) (rR : Nat → Nat → Int32) : Option (Int32 × Unit) := (
 if inb x1 40 = true then (
  if (rA 8 x1.toNatClampNeg) ≤ x3 then (
   some ((0 : Int32), ())
  ) else (
   if inb x2 40 = true then (
    if (rA 8 x2.toNatClampNeg) ≤ x3 then (
     some ((0 : Int32), ())
    ) else (
     if inb x1 40 = true then (
      (rG x1.toNatClampNeg).bind fun a6 => (
       if a6 ∈ K then (
        if inb x3 60 = true then (
         if inb x2 40 = true then (
          (rG x2.toNatClampNeg).bind fun a12 => (
           if a12 ∈ K then (
            if inb x3 60 = true then (
             if (rR a6 x3.toNatClampNeg) ≤ (rR a12 x3.toNatClampNeg) then (
              some ((0 : Int32), ())
             ) else (
              some ((1 : Int32), ())
             )
            ) else none
           ) else none
          )
         ) else none
        ) else none
       ) else none
      )
     ) else none
    )
   ) else none
  )
 ) else none
)
def f_X5_isAhead_l2 (n : Nat) (K : List Nat) (x1 : Int32) (x2 : Int32) (rA : Nat → Nat → Int32) (rG : Nat → Option Nat) (rR : Nat → Nat → Int32) (rc2 : (Int32) → Option (Int32 × Unit)) : (Int32) → Option (Int32 × Unit) := fun x3 => (
 if inb x1 40 = true then (
  if (rA 8 x1.toNatClampNeg) ≤ x3 then (
   f_X5_isAhead_b47 n K x1 x2 x3 rA rG rR
  ) else (
   if inb x2 40 = true then (
    if (rA 8 x2.toNatClampNeg) ≤ x3 then (
     f_X5_isAhead_b47 n K x1 x2 x3 rA rG rR
    ) else (
     if inb x1 40 = true then (
      (rG x1.toNatClampNeg).bind fun a23 => (
       if a23 ∈ K then (
        if inb x3 60 = true then (
         if inb x2 40 = true then (
          (rG x2.toNatClampNeg).bind fun a29 => (
           if a29 ∈ K then (
            if inb x3 60 = true then (
             if (rR a23 x3.toNatClampNeg) = (rR a29 x3.toNatClampNeg) then (
              rc2 ((x3 + 1))
             ) else (
              f_X5_isAhead_b47 n K x1 x2 x3 rA rG rR
             )
            ) else none
           ) else none
          )
         ) else none
        ) else none
       ) else none
      )
     ) else none
    )
   ) else none
  )
 ) else none
)
def f_X5_isAhead (n : Nat) (K : List Nat) (u1 : Int32) (u2 : Int32) (rA : Nat → Nat → Int32) (rG : Nat → Option Nat) (rR : Nat → Nat → Int32) : Option (Int32 × Unit) := (
 lp (f_X5_isAhead_l2 n K u1 u2 rA rG rR) n ((0 : Int32))
)
def f_X5_exchange_b173 (n : Nat) (K : List Nat) (rc121 : (Int32 × (Nat → Nat → Int32)) → Option ((Nat → Nat → Int32) × (Nat → Nat → Int32))) (x1 : Int32) (x2 : Int32) (x4 : Int32) (y1 : Int32) (y2 : Int32) (rI : Nat → Int32) (rA : Nat → Nat → Int32) (rG : Nat → Option Nat) (rR : Nat → Nat → Int32) : Option ((Nat → Nat → Int32) × (Nat → Nat → Int32)) := (
 if inb y1 4096 = true then (
  rc121 ((x4 + 1), (up2 rA 11 y1.toNatClampNeg y2))
 ) else none
)
def f_X5_exchange_l121 (n : Nat) (K : List Nat) (x1 : Int32) (x2 : Int32) (rI : Nat → Int32) (rG : Nat → Option Nat) (rR : Nat → Nat → Int32) (rc121 : (Int32 × (Nat → Nat → Int32)) → Option ((Nat → Nat → Int32) × (Nat → Nat → Int32))) : (Int32 × (Nat → Nat → Int32)) → Option ((Nat → Nat → Int32) × (Nat → Nat → Int32)) := fun (x4, rA) => (
 (f_X5_words K rI).bind fun (r2, _u2) => (
  if r2 ≤ x4 then (
   some (rA, rR)
  ) else (
   if inb x4 4096 = true then (
    if (rA 11 x4.toNatClampNeg) = x1 then (
     f_X5_exchange_b173 n K rc121 x1 x2 x4 x4 x2 rI rA rG rR
    ) else (
     if inb x4 4096 = true then (
      if (rA 11 x4.toNatClampNeg) = x2 then (
       f_X5_exchange_b173 n K rc121 x1 x2 x4 x4 x1 rI rA rG rR
      ) else (
       if inb x4 4096 = true then (
        f_X5_exchange_b173 n K rc121 x1 x2 x4 x4 (rA 11 x4.toNatClampNeg) rI rA rG rR
       ) else none
      )
     ) else none
    )
   ) else none
  )
 )
)
def f_X5_exchange_b118 (n : Nat) (K : List Nat) (x1 : Int32) (x2 : Int32) (rI : Nat → Int32) (rA : Nat → Nat → Int32) (rG : Nat → Option Nat) (rR : Nat → Nat → Int32) : Option ((Nat → Nat → Int32) × (Nat → Nat → Int32)) := (
 lp (f_X5_exchange_l121 n K x1 x2 rI rG rR) n ((0 : Int32), rA)
)
def f_X5_exchange_l65 (n : Nat) (K : List Nat) (x1 : Int32) (x2 : Int32) (rI : Nat → Int32) (rA : Nat → Nat → Int32) (rG : Nat → Option Nat) (rc65 : (Int32 × (Nat → Nat → Int32)) → Option ((Nat → Nat → Int32) × (Nat → Nat → Int32))) : (Int32 × (Nat → Nat → Int32)) → Option ((Nat → Nat → Int32) × (Nat → Nat → Int32)) := fun (x4, rR) => (
 if (60 : Int32) ≤ x4 then (
  f_X5_exchange_b118 n K x1 x2 rI rA rG rR
 ) else (
  if inb x1 40 = true then (
   (rG x1.toNatClampNeg).bind fun a11 => (
    if a11 ∈ K then (
     if inb x4 60 = true then (
      if inb x1 40 = true then (
       (rG x1.toNatClampNeg).bind fun a17 => (
        if a17 ∈ K then (
         if inb x2 40 = true then (
          (rG x2.toNatClampNeg).bind fun a21 => (
           if a21 ∈ K then (
            if inb x4 60 = true then (
             if inb x4 60 = true then (
              if inb x2 40 = true then (
               (rG x2.toNatClampNeg).bind fun a29 => (
                if a29 ∈ K then (
                 if inb x4 60 = true then (
                  rc65 ((x4 + 1), (up2 (up2 rR a17 x4.toNatClampNeg (rR a21 x4.toNatClampNeg)) a29 x4.toNatClampNeg (rR a11 x4.toNatClampNeg)))
                 ) else none
                ) else none
               )
              ) else none
             ) else none
            ) else none
           ) else none
          )
         ) else none
        ) else none
       )
      ) else none
     ) else none
    ) else none
   )
  ) else none
 )
)
def f_X5_exchange (n : Nat) (K : List Nat) (u1 : Int32) (u2 : Int32) (rI : Nat → Int32) (rA : Nat → Nat → Int32) (rG : Nat → Option Nat) (rR : Nat → Nat → Int32) : Option ((Nat → Nat → Int32) × (Nat → Nat → Int32)) := (
 (f_X5_turn 40 u1 u2 (rA 6)).bind fun xA34 => (
  (f_X5_turn 40 u1 u2 ((va_up rA 6 xA34) 7)).bind fun xA35 => (
   (f_X5_turn 40 u1 u2 ((va_up (va_up rA 6 xA34) 7 xA35) 8)).bind fun xA36 => (
    (f_X5_turn 40 u1 u2 ((va_up (va_up (va_up rA 6 xA34) 7 xA35) 8 xA36) 9)).bind fun xA37 => (
     if inb u1 40 = true then (
      (some ((va_up (va_up (va_up (va_up rA 6 xA34) 7 xA35) 8 xA36) 9 xA37) 10 u1.toNatClampNeg)).bind fun z39 => (
       if inb u2 40 = true then (
        if inb u1 40 = true then (
         if inb u2 40 = true then (
          lp (f_X5_exchange_l65 n K u1 u2 rI (up2 (up2 (va_up (va_up (va_up (va_up rA 6 xA34) 7 xA35) 8 xA36) 9 xA37) 10 u1.toNatClampNeg (vp_nar .boolean ((va_up (va_up (va_up (va_up rA 6 xA34) 7 xA35) 8 xA36) 9 xA37) 10 u2.toNatClampNeg))) 10 u2.toNatClampNeg (vp_nar .boolean z39)) rG) n ((0 : Int32), rR)
         ) else none
        ) else none
       ) else none
      )
     ) else none
    )
   )
  )
 )
)
def f_X5_order_b43 (n : Nat) (K : List Nat) (rc2 : (Int32 × (Nat → Nat → Int32) × (Nat → Nat → Int32)) → Option ((Nat → Nat → Int32) × (Nat → Nat → Int32))) (x1 : Int32) (rI : Nat → Int32) (rA : Nat → Nat → Int32) (rG : Nat → Option Nat) (rR : Nat → Nat → Int32) : Option ((Nat → Nat → Int32) × (Nat → Nat → Int32)) := (
 rc2 ((x1 + 1), rA, rR)
)
def f_X5_order_b37 (n : Nat) (K : List Nat) (rc2 : (Int32 × (Nat → Nat → Int32) × (Nat → Nat → Int32)) → Option ((Nat → Nat → Int32) × (Nat → Nat → Int32))) (rc14 : (Int32 × (Nat → Nat → Int32) × (Nat → Nat → Int32)) → Option ((Nat → Nat → Int32) × (Nat → Nat → Int32))) (x1 : Int32) (x2 : Int32) (rI : Nat → Int32) (rA : Nat → Nat → Int32) (rG : Nat → Option Nat) (rR : Nat → Nat → Int32) : Option ((Nat → Nat → Int32) × (Nat → Nat → Int32)) := (
 rc14 ((x2 + 1), rA, rR)
)
def f_X5_order_l14 (n : Nat) (K : List Nat) (rc2 : (Int32 × (Nat → Nat → Int32) × (Nat → Nat → Int32)) → Option ((Nat → Nat → Int32) × (Nat → Nat → Int32))) (x1 : Int32) (rI : Nat → Int32) (rG : Nat → Option Nat) (rc14 : (Int32 × (Nat → Nat → Int32) × (Nat → Nat → Int32)) → Option ((Nat → Nat → Int32) × (Nat → Nat → Int32))) : (Int32 × (Nat → Nat → Int32) × (Nat → Nat → Int32)) → Option ((Nat → Nat → Int32) × (Nat → Nat → Int32)) := fun (x2, rA, rR) => (
 if (rI 6) ≤ x2 then (
  f_X5_order_b43 n K rc2 x1 rI rA rG rR
 ) else (
  (f_X5_isAhead n K x2 x1 rA rG rR).bind fun (r2, _u2) => (
   if r2 = 0 then (
    f_X5_order_b37 n K rc2 rc14 x1 x2 rI rA rG rR
   ) else (
    (f_X5_exchange n K x1 x2 rI rA rG rR).bind fun (rA4, rR4) => (
     f_X5_order_b37 n K rc2 rc14 x1 x2 rI rA4 rG rR4
    )
   )
  )
 )
)
def f_X5_order_l2 (n : Nat) (K : List Nat) (rI : Nat → Int32) (rG : Nat → Option Nat) (rc2 : (Int32 × (Nat → Nat → Int32) × (Nat → Nat → Int32)) → Option ((Nat → Nat → Int32) × (Nat → Nat → Int32))) : (Int32 × (Nat → Nat → Int32) × (Nat → Nat → Int32)) → Option ((Nat → Nat → Int32) × (Nat → Nat → Int32)) := fun (x1, rA, rR) => (
 if (rI 6) ≤ x1 then (
  some (rA, rR)
 ) else (
  lp (f_X5_order_l14 n K rc2 x1 rI rG) n ((x1 + (1 : Int32)), rA, rR)
 )
)
def f_X5_order (n : Nat) (K : List Nat) (rI : Nat → Int32) (rA : Nat → Nat → Int32) (rG : Nat → Option Nat) (rR : Nat → Nat → Int32) : Option ((Nat → Nat → Int32) × (Nat → Nat → Int32)) := (
 lp (f_X5_order_l2 n K rI rG) n ((0 : Int32), rA, rR)
)
def f_X5_explore_b221 (n : Nat) (K : List Nat) (x1 : Int32) (rI : Nat → Int32) (rA : Nat → Nat → Int32) (rG : Nat → Option Nat) (rR : Nat → Nat → Int32) : Option (Int32 × (Nat → Int32) × (Nat → Nat → Int32) × (Nat → Nat → Int32)) := (
 (f_X5_order n K (upd rI 6 x1) rA rG rR).bind fun (rA1, rR1) => (
  some (x1, ((upd rI 6 x1), rA1, rR1))
 )
)
def f_X5_explore_b214 (n : Nat) (K : List Nat) (rc30 : (Int32 × Int32 × (Nat → Int32) × (Nat → Nat → Int32) × (Nat → Nat → Int32)) → Option (Int32 × (Nat → Int32) × (Nat → Nat → Int32) × (Nat → Nat → Int32))) (x1 : Int32) (x2 : Int32) (y1 : Int32) (y2 : Int32) (rI : Nat → Int32) (rA : Nat → Nat → Int32) (rG : Nat → Option Nat) (rR : Nat → Nat → Int32) : Option (Int32 × (Nat → Int32) × (Nat → Nat → Int32) × (Nat → Nat → Int32)) := (
 if inb y1 40 = true then (
  rc30 (x1, (x2 + 1), rI, (up2 rA 10 y1.toNatClampNeg (vp_nar .boolean y2)), rR)
 ) else none
)
def f_X5_explore_b213 (n : Nat) (K : List Nat) (rc30 : (Int32 × Int32 × (Nat → Int32) × (Nat → Nat → Int32) × (Nat → Nat → Int32)) → Option (Int32 × (Nat → Int32) × (Nat → Nat → Int32) × (Nat → Nat → Int32))) (x1 : Int32) (x2 : Int32) (y1 : Int32) (rI : Nat → Int32) (rA : Nat → Nat → Int32) (rG : Nat → Option Nat) (rR : Nat → Nat → Int32) : Option (Int32 × (Nat → Int32) × (Nat → Nat → Int32) × (Nat → Nat → Int32)) := (
 f_X5_explore_b214 n K rc30 x1 x2 y1 (0 : Int32) rI rA rG rR
)
def f_X5_explore_b160 (n : Nat) (K : List Nat) (rc30 : (Int32 × Int32 × (Nat → Int32) × (Nat → Nat → Int32) × (Nat → Nat → Int32)) → Option (Int32 × (Nat → Int32) × (Nat → Nat → Int32) × (Nat → Nat → Int32))) (x1 : Int32) (x2 : Int32) (x3 : Int32) (rI : Nat → Int32) (rA : Nat → Nat → Int32) (rG : Nat → Option Nat) (rR : Nat → Nat → Int32) : Option (Int32 × (Nat → Int32) × (Nat → Nat → Int32) × (Nat → Nat → Int32)) := (
 if inb x2 4096 = true then (
  if inb x2 4096 = true then (
   if inb x3 40 = true then (
    if ((up2 (up2 rA 11 x2.toNatClampNeg x3) 12 x2.toNatClampNeg (rI 9)) 10 x3.toNatClampNeg) = 0 then (
     f_X5_explore_b213 n K rc30 x1 x2 x3 rI (up2 (up2 rA 11 x2.toNatClampNeg x3) 12 x2.toNatClampNeg (rI 9)) rG rR
    ) else (
     if inb x3 40 = true then (
      if inb ((up2 (up2 rA 11 x2.toNatClampNeg x3) 12 x2.toNatClampNeg (rI 9)) 9 x3.toNatClampNeg) 4096 = true then (
       if (rI 9) = ((up2 (up2 rA 11 x2.toNatClampNeg x3) 12 x2.toNatClampNeg (rI 9)) 12 ((up2 (up2 rA 11 x2.toNatClampNeg x3) 12 x2.toNatClampNeg (rI 9)) 9 x3.toNatClampNeg).toNatClampNeg) then (
        f_X5_explore_b214 n K rc30 x1 x2 x3 (1 : Int32) rI (up2 (up2 rA 11 x2.toNatClampNeg x3) 12 x2.toNatClampNeg (rI 9)) rG rR
       ) else (
        f_X5_explore_b213 n K rc30 x1 x2 x3 rI (up2 (up2 rA 11 x2.toNatClampNeg x3) 12 x2.toNatClampNeg (rI 9)) rG rR
       )
      ) else none
     ) else none
    )
   ) else none
  ) else none
 ) else none
)
def f_X5_explore_b126 (n : Nat) (K : List Nat) (rc30 : (Int32 × Int32 × (Nat → Int32) × (Nat → Nat → Int32) × (Nat → Nat → Int32)) → Option (Int32 × (Nat → Int32) × (Nat → Nat → Int32) × (Nat → Nat → Int32))) (x1 : Int32) (x2 : Int32) (x3 : Int32) (rI : Nat → Int32) (rA : Nat → Nat → Int32) (rG : Nat → Option Nat) (rR : Nat → Nat → Int32) : Option (Int32 × (Nat → Int32) × (Nat → Nat → Int32) × (Nat → Nat → Int32)) := (
 if inb x3 40 = true then (
  if inb x3 40 = true then (
   if inb x3 40 = true then (
    if inb x3 40 = true then (
     f_X5_explore_b160 n K rc30 x1 x2 x3 rI (up2 (up2 (up2 (up2 rA 6 x3.toNatClampNeg (rI 7)) 7 x3.toNatClampNeg (rI 8)) 9 x3.toNatClampNeg x2) 10 x3.toNatClampNeg (vp_nar .boolean (1 : Int32))) rG rR
    ) else none
   ) else none
  ) else none
 ) else none
)
def f_X5_explore_l95 (n : Nat) (K : List Nat) (rc30 : (Int32 × Int32 × (Nat → Int32) × (Nat → Nat → Int32) × (Nat → Nat → Int32)) → Option (Int32 × (Nat → Int32) × (Nat → Nat → Int32) × (Nat → Nat → Int32))) (x1 : Int32) (x2 : Int32) (x3 : Int32) (rI : Nat → Int32) (rA : Nat → Nat → Int32) (rG : Nat → Option Nat) (rc95 : (Int32 × (Nat → Nat → Int32)) → Option (Int32 × (Nat → Int32) × (Nat → Nat → Int32) × (Nat → Nat → Int32))) : (Int32 × (Nat → Nat → Int32)) → Option (Int32 × (Nat → Int32) × (Nat → Nat → Int32) × (Nat → Nat → Int32)) := fun (x4, rR) => (
 if (rI 11) ≤ x4 then (
  f_X5_explore_b126 n K rc30 x1 x2 x3 rI rA rG rR
 ) else (
  if inb x3 40 = true then (
   (rG x3.toNatClampNeg).bind fun a16 => (
    if a16 ∈ K then (
     if inb x4 60 = true then (
      if inb x4 60 = true then (
       rc95 ((x4 + 1), (up2 rR a16 x4.toNatClampNeg (rA 16 x4.toNatClampNeg)))
      ) else none
     ) else none
    ) else none
   )
  ) else none
 )
)
def f_X5_explore_b66 (n : Nat) (K : List Nat) (rc30 : (Int32 × Int32 × (Nat → Int32) × (Nat → Nat → Int32) × (Nat → Nat → Int32)) → Option (Int32 × (Nat → Int32) × (Nat → Nat → Int32) × (Nat → Nat → Int32))) (x1 : Int32) (x2 : Int32) (x3 : Int32) (rI : Nat → Int32) (rA : Nat → Nat → Int32) (rG : Nat → Option Nat) (rR : Nat → Nat → Int32) : Option (Int32 × (Nat → Int32) × (Nat → Nat → Int32) × (Nat → Nat → Int32)) := (
 if x3 = (40 : Int32) then (
  some ((-1 : Int32), (rI, rA, rR))
 ) else (
  if x3 = x1 then (
   if inb x3 40 = true then (
    lp (f_X5_explore_l95 n K rc30 (x1 + 1) x2 x3 rI (up2 rA 8 x3.toNatClampNeg (rI 11)) rG) n ((0 : Int32), rR)
   ) else none
  ) else (
   f_X5_explore_b160 n K rc30 x1 x2 x3 rI rA rG rR
  )
 )
)
def f_X5_explore_l47 (n : Nat) (K : List Nat) (rc30 : (Int32 × Int32 × (Nat → Int32) × (Nat → Nat → Int32) × (Nat → Nat → Int32)) → Option (Int32 × (Nat → Int32) × (Nat → Nat → Int32) × (Nat → Nat → Int32))) (x1 : Int32) (x2 : Int32) (rI : Nat → Int32) (rA : Nat → Nat → Int32) (rG : Nat → Option Nat) (rR : Nat → Nat → Int32) (rc47 : (Int32) → Option (Int32 × (Nat → Int32) × (Nat → Nat → Int32) × (Nat → Nat → Int32))) : (Int32) → Option (Int32 × (Nat → Int32) × (Nat → Nat → Int32) × (Nat → Nat → Int32)) := fun x3 => (
 if x1 ≤ x3 then (
  f_X5_explore_b66 n K rc30 x1 x2 x3 rI rA rG rR
 ) else (
  (f_X5_isPath n K x3 rI rA rG rR).bind fun (r26, _u26) => (
   if r26 = 0 then (
    rc47 ((x3 + 1))
   ) else (
    f_X5_explore_b66 n K rc30 x1 x2 x3 rI rA rG rR
   )
  )
 )
)
def f_X5_explore_l30 (n : Nat) (K : List Nat) (rG : Nat → Option Nat) (rc30 : (Int32 × Int32 × (Nat → Int32) × (Nat → Nat → Int32) × (Nat → Nat → Int32)) → Option (Int32 × (Nat → Int32) × (Nat → Nat → Int32) × (Nat → Nat → Int32))) : (Int32 × Int32 × (Nat → Int32) × (Nat → Nat → Int32) × (Nat → Nat → Int32)) → Option (Int32 × (Nat → Int32) × (Nat → Nat → Int32) × (Nat → Nat → Int32)) := fun (x1, x2, rI, rA, rR) => (
 (f_X5_words K rI).bind fun (r28, _u28) => (
  if r28 ≤ x2 then (
   f_X5_explore_b221 n K x1 rI rA rG rR
  ) else (
   (f_X5_go0 n K x2 (1 : Int32) rI rA).bind fun (rI30, rA30) => (
    lp (f_X5_explore_l47 n K rc30 x1 x2 rI30 rA30 rG rR) n ((0 : Int32))
   )
  )
 )
)
def f_X5_explore_b28 (n : Nat) (K : List Nat) (x1 : Int32) (rI : Nat → Int32) (rA : Nat → Nat → Int32) (rG : Nat → Option Nat) (rR : Nat → Nat → Int32) : Option (Int32 × (Nat → Int32) × (Nat → Nat → Int32) × (Nat → Nat → Int32)) := (
 lp (f_X5_explore_l30 n K rG) n (x1, (0 : Int32), rI, rA, rR)
)
def f_X5_explore_l9 (n : Nat) (K : List Nat) (x1 : Int32) (rI : Nat → Int32) (rG : Nat → Option Nat) (rR : Nat → Nat → Int32) (rc9 : (Int32 × (Nat → Nat → Int32)) → Option (Int32 × (Nat → Int32) × (Nat → Nat → Int32) × (Nat → Nat → Int32))) : (Int32 × (Nat → Nat → Int32)) → Option (Int32 × (Nat → Int32) × (Nat → Nat → Int32) × (Nat → Nat → Int32)) := fun (x2, rA) => (
 if (60 : Int32) ≤ x2 then (
  f_X5_explore_b28 n K x1 rI rA rG rR
 ) else (
  if inb x2 60 = true then (
   rc9 ((x2 + 1), (up2 rA 13 x2.toNatClampNeg (vp_nar .boolean (0 : Int32))))
  ) else none
 )
)
def f_X5_explore (n : Nat) (K : List Nat) (rI : Nat → Int32) (rA : Nat → Nat → Int32) (rG : Nat → Option Nat) (rR : Nat → Nat → Int32) : Option (Int32 × (Nat → Int32) × (Nat → Nat → Int32) × (Nat → Nat → Int32)) := (
 lp (f_X5_explore_l9 n K (0 : Int32) (upd rI 6 (-1 : Int32)) rG rR) n ((0 : Int32), rA)
)
def f_X5_has (K : List Nat) (u1 : Int32) (rI : Nat → Int32) : Option (Int32 × Unit) := (
 if u1 < 0 then (
  some ((0 : Int32), ())
 ) else (
  if (rI 6) ≤ u1 then (
   some ((0 : Int32), ())
  ) else (
   some ((1 : Int32), ())
  )
 )
)
def f_X5_isWord (K : List Nat) (u1 : Int32) (rI : Nat → Int32) : Option (Int32 × Unit) := (
 if u1 < 0 then (
  some ((0 : Int32), ())
 ) else (
  (f_X5_words K rI).bind fun (r2, _u2) => (
   if r2 ≤ u1 then (
    some ((0 : Int32), ())
   ) else (
    some ((1 : Int32), ())
   )
  )
 )
)
def f_X5_path (K : List Nat) (u1 : Int32) (u2 : Int32) (rI : Nat → Int32) (rA : Nat → Nat → Int32) : Option (Int32 × Unit) := (
 (f_X5_has K u1 rI).bind fun (r1, _u1) => (
  if r1 = 0 then (
   some ((-1 : Int32), ())
  ) else (
   if u2 = (0 : Int32) then (
    if inb u1 40 = true then (
     some ((rA 6 u1.toNatClampNeg), ())
    ) else none
   ) else (
    if u2 = (1 : Int32) then (
     if inb u1 40 = true then (
      some ((rA 7 u1.toNatClampNeg), ())
     ) else none
    ) else (
     if u2 = (2 : Int32) then (
      if inb u1 40 = true then (
       some ((rA 8 u1.toNatClampNeg), ())
      ) else none
     ) else (
      if u2 = (3 : Int32) then (
       if inb u1 40 = true then (
        some ((rA 9 u1.toNatClampNeg), ())
       ) else none
      ) else (
       if u2 = (4 : Int32) then (
        if inb u1 40 = true then (
         if inb (rA 9 u1.toNatClampNeg) 4096 = true then (
          some ((rA 12 (rA 9 u1.toNatClampNeg).toNatClampNeg), ())
         ) else none
        ) else none
       ) else (
        if u2 = (5 : Int32) then (
         if inb u1 40 = true then (
          (f_X5_truth (rA 10 u1.toNatClampNeg)).bind fun (r10, _u10) => (
           some (r10, ())
          )
         ) else none
        ) else (
         some ((0 : Int32), ())
        )
       )
      )
     )
    )
   )
  )
 )
)
def f_X5_decision (K : List Nat) (u1 : Int32) (u2 : Int32) (rI : Nat → Int32) (rA : Nat → Nat → Int32) (rG : Nat → Option Nat) (rR : Nat → Nat → Int32) : Option (Int32 × Unit) := (
 (f_X5_has K u1 rI).bind fun (r1, _u1) => (
  if r1 = 0 then (
   some ((-1 : Int32), ())
  ) else (
   if u2 < 0 then (
    some ((-1 : Int32), ())
   ) else (
    if inb u1 40 = true then (
     if (rA 8 u1.toNatClampNeg) ≤ u2 then (
      some ((-1 : Int32), ())
     ) else (
      if inb u1 40 = true then (
       (rG u1.toNatClampNeg).bind fun a7 => (
        if a7 ∈ K then (
         if inb u2 60 = true then (
          some ((rR a7 u2.toNatClampNeg), ())
         ) else none
        ) else none
       )
      ) else none
     )
    ) else none
   )
  )
 )
)
def f_X5_holds_b31 (K : List Nat) (y0 : Int32) (rI : Nat → Int32) (rA : Nat → Nat → Int32) : Option (Int32 × Unit) := (
 (f_X5_truth y0).bind fun (r1, _u1) => (
  some (r1, ())
 )
)
def f_X5_holds (K : List Nat) (u1 : Int32) (u2 : Int32) (rI : Nat → Int32) (rA : Nat → Nat → Int32) : Option (Int32 × Unit) := (
 (f_X5_has K u1 rI).bind fun (r2, _u2) => (
  if r2 = 0 then (
   some ((-1 : Int32), ())
  ) else (
   (f_X5_isWord K u2 rI).bind fun (r4, _u4) => (
    if r4 = 0 then (
     some ((-1 : Int32), ())
    ) else (
     if inb u2 4096 = true then (
      if (rA 11 u2.toNatClampNeg) = u1 then (
       f_X5_holds_b31 K (1 : Int32) rI rA
      ) else (
       f_X5_holds_b31 K (0 : Int32) rI rA
      )
     ) else none
    )
   )
  )
 )
)
def f_X5_value (n : Nat) (K : List Nat) (u1 : Int32) (u2 : Int32) (rI : Nat → Int32) (rA : Nat → Nat → Int32) (rG : Nat → Option Nat) (rR : Nat → Nat → Int32) : Option (Int32 × (Nat → Int32) × (Nat → Nat → Int32)) := (
 (f_X5_has K u1 rI).bind fun (r1, _u1) => (
  if r1 = 0 then (
   some ((0 : Int32), (rI, rA))
  ) else (
   (f_X5_isWord K u2 rI).bind fun (r3, _u3) => (
    if r3 = 0 then (
     some ((0 : Int32), (rI, rA))
    ) else (
     if inb u1 40 = true then (
      (rG u1.toNatClampNeg).bind fun a6 => (
       if a6 ∈ K then (
        (f_X5_go1 n K u2 a6 (0 : Int32) rI rA rR).bind fun (rI9, rA9) => (
         some ((rI9 9), (rI9, rA9))
        )
       ) else none
      )
     ) else none
    )
   )
  )
 )
)
def f_X5_find_b103 (n : Nat) (K : List Nat) (rc22 : (Int32) → Option (Int32 × Unit)) (x1 : Int32) (x2 : Int32) (x3 : Int32) (x4 : Int32) (rI : Nat → Int32) (rA : Nat → Nat → Int32) : Option (Int32 × Unit) := (
 rc22 ((x4 + 1))
)
def f_X5_find_b89 (n : Nat) (K : List Nat) (rc22 : (Int32) → Option (Int32 × Unit)) (x1 : Int32) (x2 : Int32) (x3 : Int32) (x4 : Int32) (x5 : Int32) (rI : Nat → Int32) (rA : Nat → Nat → Int32) : Option (Int32 × Unit) := (
 if x2 = (3 : Int32) then (
  if x3 ≤ x5 then (
   f_X5_find_b103 n K rc22 x1 x2 x3 x4 rI rA
  ) else (
   some (x4, ())
  )
 ) else (
  f_X5_find_b103 n K rc22 x1 x2 x3 x4 rI rA
 )
)
def f_X5_find_b75 (n : Nat) (K : List Nat) (rc22 : (Int32) → Option (Int32 × Unit)) (x1 : Int32) (x2 : Int32) (x3 : Int32) (x4 : Int32) (x5 : Int32) (rI : Nat → Int32) (rA : Nat → Nat → Int32) : Option (Int32 × Unit) := (
 if x2 = (2 : Int32) then (
  (f_X5_isBelow x5 x3).bind fun (r4, _u4) => (
   if r4 = 0 then (
    f_X5_find_b89 n K rc22 x1 x2 x3 x4 x5 rI rA
   ) else (
    some (x4, ())
   )
  )
 ) else (
  f_X5_find_b89 n K rc22 x1 x2 x3 x4 x5 rI rA
 )
)
def f_X5_find_b64 (n : Nat) (K : List Nat) (rc22 : (Int32) → Option (Int32 × Unit)) (x1 : Int32) (x2 : Int32) (x3 : Int32) (x4 : Int32) (x5 : Int32) (rI : Nat → Int32) (rA : Nat → Nat → Int32) : Option (Int32 × Unit) := (
 if x2 = (1 : Int32) then (
  if x5 = x3 then (
   f_X5_find_b75 n K rc22 x1 x2 x3 x4 x5 rI rA
  ) else (
   some (x4, ())
  )
 ) else (
  f_X5_find_b75 n K rc22 x1 x2 x3 x4 x5 rI rA
 )
)
def f_X5_find_l22 (n : Nat) (K : List Nat) (x1 : Int32) (x2 : Int32) (x3 : Int32) (rI : Nat → Int32) (rA : Nat → Nat → Int32) (rc22 : (Int32) → Option (Int32 × Unit)) : (Int32) → Option (Int32 × Unit) := fun x4 => (
 (f_X5_words K rI).bind fun (r8, _u8) => (
  if r8 ≤ x4 then (
   some ((-1 : Int32), ())
  ) else (
   if inb x4 4096 = true then (
    if (rA 11 x4.toNatClampNeg) = x1 then (
     if inb x4 4096 = true then (
      if x2 = 0 then (
       if (rA 12 x4.toNatClampNeg) = x3 then (
        some (x4, ())
       ) else (
        f_X5_find_b64 n K rc22 x1 x2 x3 x4 (rA 12 x4.toNatClampNeg) rI rA
       )
      ) else (
       f_X5_find_b64 n K rc22 x1 x2 x3 x4 (rA 12 x4.toNatClampNeg) rI rA
      )
     ) else none
    ) else (
     f_X5_find_b103 n K rc22 x1 x2 x3 x4 rI rA
    )
   ) else none
  )
 )
)
def f_X5_find (n : Nat) (K : List Nat) (u1 : Int32) (u2 : Int32) (u3 : Int32) (rI : Nat → Int32) (rA : Nat → Nat → Int32) : Option (Int32 × Unit) := (
 (f_X5_has K u1 rI).bind fun (r15, _u15) => (
  if r15 = 0 then (
   some ((-1 : Int32), ())
  ) else (
   if u2 < 0 then (
    some ((-1 : Int32), ())
   ) else (
    if u2 ≤ (3 : Int32) then (
     lp (f_X5_find_l22 n K u1 u2 u3 rI rA) n ((0 : Int32))
    ) else (
     some ((-1 : Int32), ())
    )
   )
  )
 )
)
def f_X5_run_b124 (n : Nat) (K : List Nat) (rI : Nat → Int32) (rA : Nat → Nat → Int32) : Option (Int32 × (Nat → Int32) × (Nat → Nat → Int32)) := (
 some ((rI 7), (rI, rA))
)
def f_X5_run_l100 (n : Nat) (K : List Nat) (rI : Nat → Int32) (rc100 : (Int32 × (Nat → Nat → Int32)) → Option (Int32 × (Nat → Int32) × (Nat → Nat → Int32))) : (Int32 × (Nat → Nat → Int32)) → Option (Int32 × (Nat → Int32) × (Nat → Nat → Int32)) := fun (x2, rA) => (
 if (8 : Int32) ≤ x2 then (
  f_X5_run_b124 n K rI rA
 ) else (
  if inb x2 8 = true then (
   if inb x2 8 = true then (
    rc100 ((x2 + 1), (up2 rA 18 x2.toNatClampNeg (rA 15 x2.toNatClampNeg)))
   ) else none
  ) else none
 )
)
def f_X5_run_b98 (n : Nat) (K : List Nat) (rI : Nat → Int32) (rA : Nat → Nat → Int32) : Option (Int32 × (Nat → Int32) × (Nat → Nat → Int32)) := (
 lp (f_X5_run_l100 n K rI) n ((0 : Int32), rA)
)
def f_X5_run_l74 (n : Nat) (K : List Nat) (rI : Nat → Int32) (rc74 : (Int32 × (Nat → Nat → Int32)) → Option (Int32 × (Nat → Int32) × (Nat → Nat → Int32))) : (Int32 × (Nat → Nat → Int32)) → Option (Int32 × (Nat → Int32) × (Nat → Nat → Int32)) := fun (x2, rA) => (
 if (16 : Int32) ≤ x2 then (
  f_X5_run_b98 n K rI rA
 ) else (
  if inb x2 16 = true then (
   if inb x2 16 = true then (
    rc74 ((x2 + 1), (up2 rA 17 x2.toNatClampNeg (rA 14 x2.toNatClampNeg)))
   ) else none
  ) else none
 )
)
def f_X5_run (n : Nat) (K : List Nat) (u1 : Int32) (rI : Nat → Int32) (rA : Nat → Nat → Int32) : Option (Int32 × (Nat → Int32) × (Nat → Nat → Int32)) := (
 (f_X5_isWord K u1 rI).bind fun (r7, _u7) => (
  if r7 = 0 then (
   some ((-1 : Int32), (rI, rA))
  ) else (
   (f_X5_go0 n K u1 (0 : Int32) rI rA).bind fun (rI9, rA9) => (
    lp (f_X5_run_l74 n K (upd (upd (upd (upd (upd (upd (upd (upd rI9 12 (1 : Int32)) 19 (1 : Int32)) 13 u1) 14 ((upd (upd (upd rI9 12 (1 : Int32)) 19 (1 : Int32)) 13 u1) 7)) 15 ((upd (upd (upd (upd rI9 12 (1 : Int32)) 19 (1 : Int32)) 13 u1) 14 ((upd (upd (upd rI9 12 (1 : Int32)) 19 (1 : Int32)) 13 u1) 7)) 8)) 16 ((upd (upd (upd (upd (upd rI9 12 (1 : Int32)) 19 (1 : Int32)) 13 u1) 14 ((upd (upd (upd rI9 12 (1 : Int32)) 19 (1 : Int32)) 13 u1) 7)) 15 ((upd (upd (upd (upd rI9 12 (1 : Int32)) 19 (1 : Int32)) 13 u1) 14 ((upd (upd (upd rI9 12 (1 : Int32)) 19 (1 : Int32)) 13 u1) 7)) 8)) 9)) 17 ((upd (upd (upd (upd (upd (upd rI9 12 (1 : Int32)) 19 (1 : Int32)) 13 u1) 14 ((upd (upd (upd rI9 12 (1 : Int32)) 19 (1 : Int32)) 13 u1) 7)) 15 ((upd (upd (upd (upd rI9 12 (1 : Int32)) 19 (1 : Int32)) 13 u1) 14 ((upd (upd (upd rI9 12 (1 : Int32)) 19 (1 : Int32)) 13 u1) 7)) 8)) 16 ((upd (upd (upd (upd (upd rI9 12 (1 : Int32)) 19 (1 : Int32)) 13 u1) 14 ((upd (upd (upd rI9 12 (1 : Int32)) 19 (1 : Int32)) 13 u1) 7)) 15 ((upd (upd (upd (upd rI9 12 (1 : Int32)) 19 (1 : Int32)) 13 u1) 14 ((upd (upd (upd rI9 12 (1 : Int32)) 19 (1 : Int32)) 13 u1) 7)) 8)) 9)) 10)) 18 ((upd (upd (upd (upd (upd (upd (upd rI9 12 (1 : Int32)) 19 (1 : Int32)) 13 u1) 14 ((upd (upd (upd rI9 12 (1 : Int32)) 19 (1 : Int32)) 13 u1) 7)) 15 ((upd (upd (upd (upd rI9 12 (1 : Int32)) 19 (1 : Int32)) 13 u1) 14 ((upd (upd (upd rI9 12 (1 : Int32)) 19 (1 : Int32)) 13 u1) 7)) 8)) 16 ((upd (upd (upd (upd (upd rI9 12 (1 : Int32)) 19 (1 : Int32)) 13 u1) 14 ((upd (upd (upd rI9 12 (1 : Int32)) 19 (1 : Int32)) 13 u1) 7)) 15 ((upd (upd (upd (upd rI9 12 (1 : Int32)) 19 (1 : Int32)) 13 u1) 14 ((upd (upd (upd rI9 12 (1 : Int32)) 19 (1 : Int32)) 13 u1) 7)) 8)) 9)) 17 ((upd (upd (upd (upd (upd (upd rI9 12 (1 : Int32)) 19 (1 : Int32)) 13 u1) 14 ((upd (upd (upd rI9 12 (1 : Int32)) 19 (1 : Int32)) 13 u1) 7)) 15 ((upd (upd (upd (upd rI9 12 (1 : Int32)) 19 (1 : Int32)) 13 u1) 14 ((upd (upd (upd rI9 12 (1 : Int32)) 19 (1 : Int32)) 13 u1) 7)) 8)) 16 ((upd (upd (upd (upd (upd rI9 12 (1 : Int32)) 19 (1 : Int32)) 13 u1) 14 ((upd (upd (upd rI9 12 (1 : Int32)) 19 (1 : Int32)) 13 u1) 7)) 15 ((upd (upd (upd (upd rI9 12 (1 : Int32)) 19 (1 : Int32)) 13 u1) 14 ((upd (upd (upd rI9 12 (1 : Int32)) 19 (1 : Int32)) 13 u1) 7)) 8)) 9)) 10)) 11))) n ((0 : Int32), rA9)
   )
  )
 )
)
def f_X5_ran (K : List Nat) (u1 : Int32) (rI : Nat → Int32) (rA : Nat → Nat → Int32) : Option (Int32 × Unit) := (
 if (rI 12) = 0 then (
  some ((-1 : Int32), ())
 ) else (
  if u1 = (0 : Int32) then (
   some ((rI 14), ())
  ) else (
   if u1 = (1 : Int32) then (
    some ((rI 15), ())
   ) else (
    if u1 = (2 : Int32) then (
     some ((rI 16), ())
    ) else (
     if u1 = (3 : Int32) then (
      some ((rI 17), ())
     ) else (
      if u1 = (4 : Int32) then (
       some ((rI 18), ())
      ) else (
       if u1 = (5 : Int32) then (
        if (rI 6) < 0 then (
         some ((-1 : Int32), ())
        ) else (
         if (rI 19) = 0 then (
          some ((-1 : Int32), ())
         ) else (
          if inb (rI 13) 4096 = true then (
           some ((rA 11 (rI 13).toNatClampNeg), ())
          ) else none
         )
        )
       ) else (
        some ((-1 : Int32), ())
       )
      )
     )
    )
   )
  )
 )
)
def f_X5_register (K : List Nat) (u1 : Int32) (rI : Nat → Int32) (rA : Nat → Nat → Int32) : Option (Int32 × Unit) := (
 if (rI 12) = 0 then (
  some ((0 : Int32), ())
 ) else (
  if u1 < 0 then (
   some ((0 : Int32), ())
  ) else (
   if (16 : Int32) ≤ u1 then (
    some ((0 : Int32), ())
   ) else (
    if inb u1 16 = true then (
     some ((rA 17 u1.toNatClampNeg), ())
    ) else none
   )
  )
 )
)
def f_X5_cell (K : List Nat) (u1 : Int32) (rI : Nat → Int32) (rA : Nat → Nat → Int32) : Option (Int32 × Unit) := (
 if (rI 12) = 0 then (
  some ((0 : Int32), ())
 ) else (
  if u1 < 0 then (
   some ((0 : Int32), ())
  ) else (
   if (8 : Int32) ≤ u1 then (
    some ((0 : Int32), ())
   ) else (
    if inb u1 8 = true then (
     some ((rA 18 u1.toNatClampNeg), ())
    ) else none
   )
  )
 )
)
def f_X5_failing_b60 (n : Nat) (K : List Nat) (rc5 : (Int32 × Int32) → Option (Int32 × Unit)) (x1 : Int32) (x2 : Int32) (x3 : Int32) (x4 : Int32) (rI : Nat → Int32) (rA : Nat → Nat → Int32) : Option (Int32 × Unit) := (
 rc5 (x3, (x4 + 1))
)
def f_X5_failing_b52 (n : Nat) (K : List Nat) (rc5 : (Int32 × Int32) → Option (Int32 × Unit)) (x1 : Int32) (x2 : Int32) (x4 : Int32) (rI : Nat → Int32) (rA : Nat → Nat → Int32) : Option (Int32 × Unit) := (
 if inb x4 40 = true then (
  f_X5_failing_b60 n K rc5 x1 x2 (rA 9 x4.toNatClampNeg) x4 rI rA
 ) else none
)
def f_X5_failing_l5 (n : Nat) (K : List Nat) (x1 : Int32) (x2 : Int32) (rI : Nat → Int32) (rA : Nat → Nat → Int32) (rc5 : (Int32 × Int32) → Option (Int32 × Unit)) : (Int32 × Int32) → Option (Int32 × Unit) := fun (x3, x4) => (
 if (rI 6) ≤ x4 then (
  some (x3, ())
 ) else (
  if inb x4 40 = true then (
   if (rA 6 x4.toNatClampNeg) = x1 then (
    if inb x4 40 = true then (
     if (rA 7 x4.toNatClampNeg) = x2 then (
      if x3 = (-1 : Int32) then (
       f_X5_failing_b52 n K rc5 x1 x2 x4 rI rA
      ) else (
       if inb x4 40 = true then (
        if x3 ≤ (rA 9 x4.toNatClampNeg) then (
         f_X5_failing_b60 n K rc5 x1 x2 x3 x4 rI rA
        ) else (
         f_X5_failing_b52 n K rc5 x1 x2 x4 rI rA
        )
       ) else none
      )
     ) else (
      f_X5_failing_b60 n K rc5 x1 x2 x3 x4 rI rA
     )
    ) else none
   ) else (
    f_X5_failing_b60 n K rc5 x1 x2 x3 x4 rI rA
   )
  ) else none
 )
)
def f_X5_failing (n : Nat) (K : List Nat) (u1 : Int32) (u2 : Int32) (rI : Nat → Int32) (rA : Nat → Nat → Int32) : Option (Int32 × Unit) := (
 lp (f_X5_failing_l5 n K u1 u2 rI rA) n ((-1 : Int32), (0 : Int32))
)
def f_X5_failures_b43 (n : Nat) (K : List Nat) (rc4 : (Int32 × Int32) → Option (Int32 × Unit)) (x1 : Int32) (x2 : Int32) (rI : Nat → Int32) (rA : Nat → Nat → Int32) : Option (Int32 × Unit) := (
 rc4 (x1, (x2 + 1))
)
def f_X5_failures_b35 (n : Nat) (K : List Nat) (rc4 : (Int32 × Int32) → Option (Int32 × Unit)) (rc14 : (Int32 × Int32) → Option (Int32 × Unit)) (x2 : Int32) (x3 : Int32) (y0 : Int32) (y1 : Int32) (rI : Nat → Int32) (rA : Nat → Nat → Int32) : Option (Int32 × Unit) := (
 rc14 ((y0 + y1), (x3 + 1))
)
def f_X5_failures_l14 (n : Nat) (K : List Nat) (rc4 : (Int32 × Int32) → Option (Int32 × Unit)) (x2 : Int32) (rI : Nat → Int32) (rA : Nat → Nat → Int32) (rc14 : (Int32 × Int32) → Option (Int32 × Unit)) : (Int32 × Int32) → Option (Int32 × Unit) := fun (x1, x3) => (
 if (5 : Int32) ≤ x3 then (
  f_X5_failures_b43 n K rc4 x1 x2 rI rA
 ) else (
  (f_X5_failing n K x3 x2 rI rA).bind fun (r2, _u2) => (
   if r2 = (-1 : Int32) then (
    f_X5_failures_b35 n K rc4 rc14 x2 x3 x1 (0 : Int32) rI rA
   ) else (
    f_X5_failures_b35 n K rc4 rc14 x2 x3 x1 (1 : Int32) rI rA
   )
  )
 )
)
def f_X5_failures_l4 (n : Nat) (K : List Nat) (rI : Nat → Int32) (rA : Nat → Nat → Int32) (rc4 : (Int32 × Int32) → Option (Int32 × Unit)) : (Int32 × Int32) → Option (Int32 × Unit) := fun (x1, x2) => (
 if (rI 3) ≤ x2 then (
  some (x1, ())
 ) else (
  lp (f_X5_failures_l14 n K rc4 x2 rI rA) n (x1, (1 : Int32))
 )
)
def f_X5_failures (n : Nat) (K : List Nat) (rI : Nat → Int32) (rA : Nat → Nat → Int32) : Option (Int32 × Unit) := (
 lp (f_X5_failures_l4 n K rI rA) n ((0 : Int32), (0 : Int32))
)
def f_X5_failure_b92 (n : Nat) (K : List Nat) (rc11 : (Int32 × Int32) → Option (Int32 × Unit)) (x2 : Int32) (x3 : Int32) (x4 : Int32) (rI : Nat → Int32) (rA : Nat → Nat → Int32) : Option (Int32 × Unit) := (
 rc11 (x3, (x4 + 1))
)
def f_X5_failure_b86 (n : Nat) (K : List Nat) (rc11 : (Int32 × Int32) → Option (Int32 × Unit)) (rc23 : (Int32 × Int32) → Option (Int32 × Unit)) (x2 : Int32) (x3 : Int32) (x4 : Int32) (x5 : Int32) (rI : Nat → Int32) (rA : Nat → Nat → Int32) : Option (Int32 × Unit) := (
 rc23 (x3, (x5 + 1))
)
def f_X5_failure_b52 (n : Nat) (K : List Nat) (x2 : Int32) (x4 : Int32) (x5 : Int32) (x6 : Int32) (rI : Nat → Int32) (rA : Nat → Nat → Int32) : Option (Int32 × Unit) := (
 if x2 = 0 then (
  some (x5, ())
 ) else (
  if x2 = (1 : Int32) then (
   some (x4, ())
  ) else (
   if x2 = (2 : Int32) then (
    some (x6, ())
   ) else (
    some ((-1 : Int32), ())
   )
  )
 )
)
def f_X5_failure_l23 (n : Nat) (K : List Nat) (rc11 : (Int32 × Int32) → Option (Int32 × Unit)) (x2 : Int32) (x4 : Int32) (rI : Nat → Int32) (rA : Nat → Nat → Int32) (rc23 : (Int32 × Int32) → Option (Int32 × Unit)) : (Int32 × Int32) → Option (Int32 × Unit) := fun (x3, x5) => (
 if (5 : Int32) ≤ x5 then (
  f_X5_failure_b92 n K rc11 x2 x3 x4 rI rA
 ) else (
  (f_X5_failing n K x5 x4 rI rA).bind fun (r5, _u5) => (
   if r5 = (-1 : Int32) then (
    f_X5_failure_b86 n K rc11 rc23 x2 x3 x4 x5 rI rA
   ) else (
    if x3 = 0 then (
     f_X5_failure_b52 n K x2 x4 x5 r5 rI rA
    ) else (
     f_X5_failure_b86 n K rc11 rc23 x2 (x3 + (-1)) x4 x5 rI rA
    )
   )
  )
 )
)
def f_X5_failure_l11 (n : Nat) (K : List Nat) (x2 : Int32) (rI : Nat → Int32) (rA : Nat → Nat → Int32) (rc11 : (Int32 × Int32) → Option (Int32 × Unit)) : (Int32 × Int32) → Option (Int32 × Unit) := fun (x3, x4) => (
 if (rI 3) ≤ x4 then (
  some ((-1 : Int32), ())
 ) else (
  lp (f_X5_failure_l23 n K rc11 x2 x4 rI rA) n (x3, (1 : Int32))
 )
)
def f_X5_failure (n : Nat) (K : List Nat) (u1 : Int32) (u2 : Int32) (rI : Nat → Int32) (rA : Nat → Nat → Int32) : Option (Int32 × Unit) := (
 if 0 ≤ u1 then (
  lp (f_X5_failure_l11 n K u2 rI rA) n (u1, (0 : Int32))
 ) else (
  some ((-1 : Int32), ())
 )
)
def f_X5_covered (K : List Nat) (u1 : Int32) (rI : Nat → Int32) (rA : Nat → Nat → Int32) : Option (Int32 × Unit) := (
 if (rI 6) < 0 then (
  some ((-1 : Int32), ())
 ) else (
  if u1 < 0 then (
   some ((-1 : Int32), ())
  ) else (
   if u1 < (rI 3) then (
    if inb u1 60 = true then (
     (f_X5_truth (rA 13 u1.toNatClampNeg)).bind fun (r5, _u5) => (
      some (r5, ())
     )
    ) else none
   ) else (
    some ((-1 : Int32), ())
   )
  )
 )
)
def f_X5_count_b109 (n : Nat) (K : List Nat) (x2 : Int32) (rI : Nat → Int32) (rA : Nat → Nat → Int32) : Option (Int32 × Unit) := (
 if 0 ≤ (rI 6) then (
  some (x2, ())
 ) else (
  some ((-1 : Int32), ())
 )
)
def f_X5_count_b101 (n : Nat) (K : List Nat) (rc78 : (Int32 × Int32) → Option (Int32 × Unit)) (x3 : Int32) (y0 : Int32) (y1 : Int32) (rI : Nat → Int32) (rA : Nat → Nat → Int32) : Option (Int32 × Unit) := (
 rc78 ((y0 + y1), (x3 + 1))
)
def f_X5_count_l78 (n : Nat) (K : List Nat) (rI : Nat → Int32) (rA : Nat → Nat → Int32) (rc78 : (Int32 × Int32) → Option (Int32 × Unit)) : (Int32 × Int32) → Option (Int32 × Unit) := fun (x2, x3) => (
 if (rI 3) ≤ x3 then (
  f_X5_count_b109 n K x2 rI rA
 ) else (
  if inb x3 60 = true then (
   if (rA 13 x3.toNatClampNeg) = 0 then (
    f_X5_count_b101 n K rc78 x3 x2 (0 : Int32) rI rA
   ) else (
    f_X5_count_b101 n K rc78 x3 x2 (1 : Int32) rI rA
   )
  ) else none
 )
)
def f_X5_count (n : Nat) (K : List Nat) (u1 : Int32) (rI : Nat → Int32) (rA : Nat → Nat → Int32) : Option (Int32 × Unit) := (
 if u1 = (0 : Int32) then (
  some ((rI 1), ())
 ) else (
  if u1 = (1 : Int32) then (
   some ((rI 2), ())
  ) else (
   if u1 = (2 : Int32) then (
    some ((rI 3), ())
   ) else (
    if u1 = (3 : Int32) then (
     some ((rI 6), ())
    ) else (
     if u1 = (4 : Int32) then (
      if 0 ≤ (rI 6) then (
       (f_X5_failures n K rI rA).bind fun (r6, _u6) => (
        some (r6, ())
       )
      ) else (
       some ((-1 : Int32), ())
      )
     ) else (
      if u1 = (5 : Int32) then (
       lp (f_X5_count_l78 n K rI rA) n ((0 : Int32), (0 : Int32))
      ) else (
       some ((-1 : Int32), ())
      )
     )
    )
   )
  )
 )
)
end
section
set_option maxRecDepth 100000 in
set_option maxHeartbeats 8000000 in
theorem k_J13_bitCount_95d88 (l : Launch) (D : va_G) (cA : Nat → ClassId)  (sz : Nat) (u0 : Int64) (R : Int32 × Unit) (h : f_J13_bitCount_95d88 u0 = some R) : Met l yJ13_bitCount_95d88 (wsU yJ13_bitCount_95d88 cJ13_bitCount_95d88 2 (some .int)) ({ frames := 0, cells := 0, slots := 0, locals := 0 }) (PcW D cA (wl ([] : List va_W)) sz [.long u0]) (QI D (fun _ : Unit => (wl ([] : List va_W))) R (va_A (wl ([] : List va_W)) sz)) 0 0 (va_A (wl ([] : List va_W)) sz) := by
  refine Met.ofW (cc := cJ13_bitCount_95d88) (maxL := 2) (ret := (some .int)) (by decide) rfl ?_
  intro p e s m args below meth c s₁ B hml hv
  obtain ⟨rfl, hsz, hP, hK, hD0⟩ := hv
  have hx := B.exec
  have hb := B.bytes
  have hr := B.returns
  have hts := atoms_spec (ws := (wsU yJ13_bitCount_95d88 cJ13_bitCount_95d88 2 (some .int))) B.pre
  have hT : ∀ w ∈ wsL_law, w.before ([.long u0] : List Value).toArray s = true := fun w h => hts w (List.mem_cons_of_mem _ h)
  have hown : s.vm.findClass RJ13 = some m.cls := findClass_of_methodNamed B.named
  have hlocks := B.notSynchronized
  have hN := hK.2
  subst hsz
  have hD := hD0.self (sz := s.heap.size)
  generalize hAe : va_A (wl ([] : List va_W)) s.heap.size = A at hD ⊢
  have hA : ∀ q : Nat, s.heap.size ≤ q → A q := fun q h => by rw [← hAe]; exact Or.inr h
  have hS : va_S A s.heap s.heap [] := va_S.rf
  have hl := lv_entry ([.long u0]) (n := 2) (Nat.le_of_ble_eq_true rfl)
  rw [lg_entry_eq]
  generalize (lg_sl ([.long u0]) ++ List.replicate (2 - (lg_sl ([.long u0])).length) Slot.unset).toArray = ls at hl ⊢
  have hl : lv_has ls 2 [(0, .long u0)] := hl
  unfold f_J13_bitCount_95d88 at h
  refine lv_lload_n hx hb dJ13_bitCount_95d88_0 rfl (lv_at hl 0 rfl) ?_
  refine lv_lload_n hx hb dJ13_bitCount_95d88_1 rfl (lv_at hl 0 rfl) ?_
  refine lv_iconst (v := (1 : Int32)) hx hb dJ13_bitCount_95d88_2 (by decide) ?_
  refine lv_lushr (v := (u0.toUInt64 >>> ((1 : Int32).toInt64.toUInt64 &&& Int64.toUInt64 63)).toInt64) hx hb dJ13_bitCount_95d88_3 rfl ?_
  refine lv_ldc2 (v := (6148914691236517205 : Int64)) hx hb hown (hT _ kl_RJ13_314) dJ13_bitCount_95d88_4 ?_
  refine lv_land hx hb dJ13_bitCount_95d88_7 ?_
  refine lv_lsub hx hb dJ13_bitCount_95d88_8 ?_
  obtain ⟨z1, e2, h⟩ := og_bind h
  refine gt_j (og_inj e2) ?_
  refine lv_lstore_n (lv' := [(0, .long z1)]) hx hb dJ13_bitCount_95d88_9 rfl hl (by decide) rfl (fun ls hl => ?_)
  refine lv_lload_n hx hb dJ13_bitCount_95d88_10 rfl (lv_at hl 0 rfl) ?_
  refine lv_ldc2 (v := (3689348814741910323 : Int64)) hx hb hown (hT _ kl_RJ13_316) dJ13_bitCount_95d88_11 ?_
  refine lv_land hx hb dJ13_bitCount_95d88_14 ?_
  refine lv_lload_n hx hb dJ13_bitCount_95d88_15 rfl (lv_at hl 0 rfl) ?_
  refine lv_iconst (v := (2 : Int32)) hx hb dJ13_bitCount_95d88_16 (by decide) ?_
  refine lv_lushr (v := (z1.toUInt64 >>> ((2 : Int32).toInt64.toUInt64 &&& Int64.toUInt64 63)).toInt64) hx hb dJ13_bitCount_95d88_17 rfl ?_
  refine lv_ldc2 (v := (3689348814741910323 : Int64)) hx hb hown (hT _ kl_RJ13_316) dJ13_bitCount_95d88_18 ?_
  refine lv_land hx hb dJ13_bitCount_95d88_21 ?_
  refine lv_ladd hx hb dJ13_bitCount_95d88_22 ?_
  obtain ⟨z3, e4, h⟩ := og_bind h
  refine gt_j (og_inj e4) ?_
  refine lv_lstore_n (lv' := [(0, .long z3)]) hx hb dJ13_bitCount_95d88_23 rfl hl (by decide) rfl (fun ls hl => ?_)
  refine lv_lload_n hx hb dJ13_bitCount_95d88_24 rfl (lv_at hl 0 rfl) ?_
  refine lv_lload_n hx hb dJ13_bitCount_95d88_25 rfl (lv_at hl 0 rfl) ?_
  refine lv_iconst (v := (4 : Int32)) hx hb dJ13_bitCount_95d88_26 (by decide) ?_
  refine lv_lushr (v := (z3.toUInt64 >>> ((4 : Int32).toInt64.toUInt64 &&& Int64.toUInt64 63)).toInt64) hx hb dJ13_bitCount_95d88_27 rfl ?_
  refine lv_ladd hx hb dJ13_bitCount_95d88_28 ?_
  refine lv_ldc2 (v := (1085102592571150095 : Int64)) hx hb hown (hT _ kl_RJ13_318) dJ13_bitCount_95d88_29 ?_
  refine lv_land hx hb dJ13_bitCount_95d88_32 ?_
  obtain ⟨z5, e6, h⟩ := og_bind h
  refine gt_j (og_inj e6) ?_
  refine lv_lstore_n (lv' := [(0, .long z5)]) hx hb dJ13_bitCount_95d88_33 rfl hl (by decide) rfl (fun ls hl => ?_)
  refine lv_lload_n hx hb dJ13_bitCount_95d88_34 rfl (lv_at hl 0 rfl) ?_
  refine lv_lload_n hx hb dJ13_bitCount_95d88_35 rfl (lv_at hl 0 rfl) ?_
  refine lv_bipush (v := (8 : Int32)) hx hb dJ13_bitCount_95d88_36 (by decide) ?_
  refine lv_lushr (v := (z5.toUInt64 >>> ((8 : Int32).toInt64.toUInt64 &&& Int64.toUInt64 63)).toInt64) hx hb dJ13_bitCount_95d88_38 rfl ?_
  refine lv_ladd hx hb dJ13_bitCount_95d88_39 ?_
  obtain ⟨z7, e8, h⟩ := og_bind h
  refine gt_j (og_inj e8) ?_
  refine lv_lstore_n (lv' := [(0, .long z7)]) hx hb dJ13_bitCount_95d88_40 rfl hl (by decide) rfl (fun ls hl => ?_)
  refine lv_lload_n hx hb dJ13_bitCount_95d88_41 rfl (lv_at hl 0 rfl) ?_
  refine lv_lload_n hx hb dJ13_bitCount_95d88_42 rfl (lv_at hl 0 rfl) ?_
  refine lv_bipush (v := (16 : Int32)) hx hb dJ13_bitCount_95d88_43 (by decide) ?_
  refine lv_lushr (v := (z7.toUInt64 >>> ((16 : Int32).toInt64.toUInt64 &&& Int64.toUInt64 63)).toInt64) hx hb dJ13_bitCount_95d88_45 rfl ?_
  refine lv_ladd hx hb dJ13_bitCount_95d88_46 ?_
  obtain ⟨z9, e10, h⟩ := og_bind h
  refine gt_j (og_inj e10) ?_
  refine lv_lstore_n (lv' := [(0, .long z9)]) hx hb dJ13_bitCount_95d88_47 rfl hl (by decide) rfl (fun ls hl => ?_)
  refine lv_lload_n hx hb dJ13_bitCount_95d88_48 rfl (lv_at hl 0 rfl) ?_
  refine lv_lload_n hx hb dJ13_bitCount_95d88_49 rfl (lv_at hl 0 rfl) ?_
  refine lv_bipush (v := (32 : Int32)) hx hb dJ13_bitCount_95d88_50 (by decide) ?_
  refine lv_lushr (v := (z9.toUInt64 >>> ((32 : Int32).toInt64.toUInt64 &&& Int64.toUInt64 63)).toInt64) hx hb dJ13_bitCount_95d88_52 rfl ?_
  refine lv_ladd hx hb dJ13_bitCount_95d88_53 ?_
  obtain ⟨z11, e12, h⟩ := og_bind h
  refine gt_j (og_inj e12) ?_
  refine lv_lstore_n (lv' := [(0, .long z11)]) hx hb dJ13_bitCount_95d88_54 rfl hl (by decide) rfl (fun ls hl => ?_)
  refine lv_lload_n hx hb dJ13_bitCount_95d88_55 rfl (lv_at hl 0 rfl) ?_
  refine lv_l2i (v := z11.toInt32) hx hb dJ13_bitCount_95d88_56 rfl ?_
  refine lv_bipush (v := (127 : Int32)) hx hb dJ13_bitCount_95d88_57 (by decide) ?_
  refine lv_iand hx hb dJ13_bitCount_95d88_59 ?_
  exact W.iret (v := (z11.toInt32 &&& (127 : Int32))) hx hb hr (fun t ht hW => ⟨⟨(z11.toInt32 &&& (127 : Int32)), (), rfl, ⟨(congrArg Prod.fst (og_inj h)).symm, (congrArg Prod.snd (og_inj h)).symm⟩, (by rw [ht]; exact hP), hD⟩, hS.F ht⟩) hS.2.2 dJ13_bitCount_95d88_60
set_option maxRecDepth 100000 in
set_option maxHeartbeats 8000000 in
theorem k_J7_fill_53178 (l : Launch) (D : va_G) (cA : Nat → ClassId) (aX : Nat) (nX : Nat) (sz : Nat) (n : Nat) (u1 : Int32) (xA : Nat → Int32) (R : (Nat → Int32)) (h : f_J7_fill_53178 n nX u1 xA = some R) : Met l yJ7_fill_53178 (wsU yJ7_fill_53178 cJ7_fill_53178 4 none) ({ frames := 0, cells := 0, slots := 0, locals := 0 }) (PcW D cA (wl [gX cA aX nX xA]) sz [.ref aX, .int u1]) (QV D (fun u : (Nat → Int32) => (wl [gX cA aX nX u])) R (va_A (wl [gX cA aX nX xA]) sz)) 0 0 (va_A (wl [gX cA aX nX xA]) sz) := by
  refine Met.ofW (cc := cJ7_fill_53178) (maxL := 4) (ret := none) (by decide) rfl ?_
  intro p e s m args below meth c s₁ B hml hv
  obtain ⟨rfl, hsz, hP, hK, hD0⟩ := hv
  have hx := B.exec
  have hb := B.bytes
  have hr := B.returns
  have hts := atoms_spec (ws := (wsU yJ7_fill_53178 cJ7_fill_53178 4 none)) B.pre
  have hT : ∀ w ∈ wsL_law, w.before ([.ref aX, .int u1] : List Value).toArray s = true := fun w h => hts w (List.mem_cons_of_mem _ h)
  have hown : s.vm.findClass RJ7 = some m.cls := findClass_of_methodNamed B.named
  have hlocks := B.notSynchronized
  have hN := hK.2
  subst hsz
  have hD := hD0.self (sz := s.heap.size)
  generalize hAe : va_A (wl [gX cA aX nX xA]) s.heap.size = A at hD ⊢
  have hA : ∀ q : Nat, s.heap.size ≤ q → A q := fun q h => by rw [← hAe]; exact Or.inr h
  have hS : va_S A s.heap s.heap [] := va_S.rf
  have hl := lv_entry ([.ref aX, .int u1]) (n := 4) (Nat.le_of_ble_eq_true rfl)
  rw [lg_entry_eq]
  generalize (lg_sl ([.ref aX, .int u1]) ++ List.replicate (4 - (lg_sl ([.ref aX, .int u1])).length) Slot.unset).toArray = ls at hl ⊢
  have hl : lv_has ls 4 [(0, .ref aX), (1, .int u1)] := hl
  have b5 : ∀ (x1 : Int32) (x3 : Int32) (nn : Nat), ∀ (x2 : Int32) (xA : Nat → Int32) (H : Heap) (locs : List Loc) (ls : Array Slot), lp (f_J7_fill_53178_l5 n nX x1 x3) nn (x2, xA) = some R → va_P D vwCl (wl [gX cA aX nX xA]) H → va_D A (wl [gX cA aX nX xA]) → va_S A s.heap H locs → lv_has ls 4 [(0, .ref aX), (1, .int x1), (2, .int x2), (3, .int x3)] → W p l e (headSpec (wsU yJ7_fill_53178 cJ7_fill_53178 4 none) ({ frames := 0, cells := 0, slots := 0, locals := 0 })).room s m ([.ref aX, .int u1] : List Value).toArray below meth c H locs 0 0 (MQ below (QV D (fun u : (Nat → Int32) => (wl [gX cA aX nX u])) R A) ([.ref aX, .int u1] : List Value).toArray s 0 0 A) (F0 m 5 ls []) := by
    intro x1 x3 nn
    induction nn with
    | zero =>
      intro x2 xA H locs ls h hP hD hS hl
      exact (lp_zero h).elim
    | succ nn hr5 =>
      intro x2 xA H locs ls h hP hD hS hl
      rw [lp_succ] at h
      unfold f_J7_fill_53178_l5 at h
      dsimp only at h
      refine lv_iload_n hx hb dJ7_fill_53178_5 rfl (lv_at hl 2 rfl) ?_
      refine lv_iload_n hx hb dJ7_fill_53178_6 rfl (lv_at hl 3 rfl) ?_
      refine lv_icmp_ge (tgt := 20) hx hb dJ7_fill_53178_7 (by decide) (fun c1 => ?_) (fun c1 => ?_)
      · replace h := og_pos c1 h
        exact W.vret hx hb hr (fun t ht hW => ⟨⟨(xA), rfl, (og_inj h).symm, (by rw [ht]; exact hP), hD⟩, hS.F ht⟩) hS.2.2 dJ7_fill_53178_20
      · replace h := og_neg c1 h
        refine lv_aload_n hx hb dJ7_fill_53178_10 rfl (lv_at hl 0 rfl) ?_
        refine lv_iload_n hx hb dJ7_fill_53178_11 rfl (lv_at hl 2 rfl) ?_
        refine lv_iload_n hx hb dJ7_fill_53178_12 rfl (lv_at hl 1 rfl) ?_
        obtain ⟨g2, h⟩ := og_guard h
        refine va_iast hx hb hK.1 hP hD hS 0 0 rfl rfl (inb_vp g2) dJ7_fill_53178_13 (fun H locs hP hD hS => ?_)
        have hP : va_P D vwCl (wl [gX cA aX nX (upd xA x2.toNatClampNeg x1)]) H := hP
        have hD : va_D A (wl [gX cA aX nX (upd xA x2.toNatClampNeg x1)]) := hD
        refine lv_iinc (v := (x2 + 1)) (lv' := [(2, .int (x2 + 1)), (0, .ref aX), (1, .int x1), (3, .int x3)]) hx hb dJ7_fill_53178_14 hl (k := 2) rfl rfl (by decide) rfl (fun ls hl => ?_)
        refine lv_goto (tgt := 5) hx hb dJ7_fill_53178_17 (by decide) ?_
        exact hr5 _ _ _ _ _ h hP hD hS (lv_sub hl [1, 2, 0, 3] rfl)
  unfold f_J7_fill_53178 at h
  refine lv_iconst (v := (0 : Int32)) hx hb dJ7_fill_53178_0 (by decide) ?_
  refine lv_istore_n (lv' := [(2, .int (0 : Int32)), (0, .ref aX), (1, .int u1)]) hx hb dJ7_fill_53178_1 rfl hl (by decide) rfl (fun ls hl => ?_)
  refine lv_aload_n hx hb dJ7_fill_53178_2 rfl (lv_at hl 1 rfl) ?_
  refine va_alen (v := Int32.ofNat nX) hx hb hK.1 hP 0 0 rfl rfl rfl dJ7_fill_53178_3 ?_
  refine lv_istore_n (lv' := [(3, .int (Int32.ofNat nX)), (2, .int (0 : Int32)), (0, .ref aX), (1, .int u1)]) hx hb dJ7_fill_53178_4 rfl hl (by decide) rfl (fun ls hl => ?_)
  exact b5  _ _ n _ _ _ _ _ h hP hD hS (lv_sub hl [2, 3, 1, 0] rfl)
set_option maxRecDepth 100000 in
set_option maxHeartbeats 8000000 in
theorem k_X4_isRegister (l : Launch) (D : va_G) (cA : Nat → ClassId)  (sz : Nat) (u0 : Int32) (R : Int32 × Unit) (h : f_X4_isRegister u0 = some R) : Met l yX4_isRegister (wsU yX4_isRegister cX4_isRegister 1 (some .boolean)) ({ frames := 0, cells := 0, slots := 0, locals := 0 }) (PcW D cA (wl ([] : List va_W)) sz [.int u0]) (QI D (fun _ : Unit => (wl ([] : List va_W))) R (va_A (wl ([] : List va_W)) sz)) 0 0 (va_A (wl ([] : List va_W)) sz) := by
  refine Met.ofW (cc := cX4_isRegister) (maxL := 1) (ret := (some .boolean)) (by decide) rfl ?_
  intro p e s m args below meth c s₁ B hml hv
  obtain ⟨rfl, hsz, hP, hK, hD0⟩ := hv
  have hx := B.exec
  have hb := B.bytes
  have hr := B.returns
  have hts := atoms_spec (ws := (wsU yX4_isRegister cX4_isRegister 1 (some .boolean))) B.pre
  have hT : ∀ w ∈ wsL_law, w.before ([.int u0] : List Value).toArray s = true := fun w h => hts w (List.mem_cons_of_mem _ h)
  have hown : s.vm.findClass RX4 = some m.cls := findClass_of_methodNamed B.named
  have hlocks := B.notSynchronized
  have hN := hK.2
  subst hsz
  have hD := hD0.self (sz := s.heap.size)
  generalize hAe : va_A (wl ([] : List va_W)) s.heap.size = A at hD ⊢
  have hA : ∀ q : Nat, s.heap.size ≤ q → A q := fun q h => by rw [← hAe]; exact Or.inr h
  have hS : va_S A s.heap s.heap [] := va_S.rf
  have hl := lv_entry ([.int u0]) (n := 1) (Nat.le_of_ble_eq_true rfl)
  rw [lg_entry_eq]
  generalize (lg_sl ([.int u0]) ++ List.replicate (1 - (lg_sl ([.int u0])).length) Slot.unset).toArray = ls at hl ⊢
  have hl : lv_has ls 1 [(0, .int u0)] := hl
  unfold f_X4_isRegister at h
  refine lv_iload_n hx hb dX4_isRegister_0 rfl (lv_at hl 0 rfl) ?_
  refine lv_if_lt (tgt := 14) hx hb dX4_isRegister_1 (by decide) (fun c1 => ?_) (fun c1 => ?_)
  · replace h := og_pos c1 h
    refine lv_iconst (v := (0 : Int32)) hx hb dX4_isRegister_14 (by decide) ?_
    exact W.zret (v := (0 : Int32)) hx hb hr (by decide +kernel) (fun t ht hW => ⟨⟨(0 : Int32), (), rfl, ⟨(congrArg Prod.fst (og_inj h)).symm, (congrArg Prod.snd (og_inj h)).symm⟩, (by rw [ht]; exact hP), hD⟩, hS.F ht⟩) hS.2.2 dX4_isRegister_15
  · replace h := og_neg c1 h
    refine lv_iload_n hx hb dX4_isRegister_4 rfl (lv_at hl 0 rfl) ?_
    refine lv_bipush (v := (16 : Int32)) hx hb dX4_isRegister_5 (by decide) ?_
    refine lv_icmp_ge (tgt := 14) hx hb dX4_isRegister_7 (by decide) (fun c2 => ?_) (fun c2 => ?_)
    · replace h := og_pos c2 h
      refine lv_iconst (v := (0 : Int32)) hx hb dX4_isRegister_14 (by decide) ?_
      exact W.zret (v := (0 : Int32)) hx hb hr (by decide +kernel) (fun t ht hW => ⟨⟨(0 : Int32), (), rfl, ⟨(congrArg Prod.fst (og_inj h)).symm, (congrArg Prod.snd (og_inj h)).symm⟩, (by rw [ht]; exact hP), hD⟩, hS.F ht⟩) hS.2.2 dX4_isRegister_15
    · replace h := og_neg c2 h
      refine lv_iconst (v := (1 : Int32)) hx hb dX4_isRegister_10 (by decide) ?_
      refine lv_goto (tgt := 15) hx hb dX4_isRegister_11 (by decide) ?_
      exact W.zret (v := (1 : Int32)) hx hb hr (by decide +kernel) (fun t ht hW => ⟨⟨(1 : Int32), (), rfl, ⟨(congrArg Prod.fst (og_inj h)).symm, (congrArg Prod.snd (og_inj h)).symm⟩, (by rw [ht]; exact hP), hD⟩, hS.F ht⟩) hS.2.2 dX4_isRegister_15
set_option maxRecDepth 100000 in
set_option maxHeartbeats 8000000 in
theorem k_X4_isCell (l : Launch) (D : va_G) (cA : Nat → ClassId)  (sz : Nat) (u0 : Int32) (R : Int32 × Unit) (h : f_X4_isCell u0 = some R) : Met l yX4_isCell (wsU yX4_isCell cX4_isCell 1 (some .boolean)) ({ frames := 0, cells := 0, slots := 0, locals := 0 }) (PcW D cA (wl ([] : List va_W)) sz [.int u0]) (QI D (fun _ : Unit => (wl ([] : List va_W))) R (va_A (wl ([] : List va_W)) sz)) 0 0 (va_A (wl ([] : List va_W)) sz) := by
  refine Met.ofW (cc := cX4_isCell) (maxL := 1) (ret := (some .boolean)) (by decide) rfl ?_
  intro p e s m args below meth c s₁ B hml hv
  obtain ⟨rfl, hsz, hP, hK, hD0⟩ := hv
  have hx := B.exec
  have hb := B.bytes
  have hr := B.returns
  have hts := atoms_spec (ws := (wsU yX4_isCell cX4_isCell 1 (some .boolean))) B.pre
  have hT : ∀ w ∈ wsL_law, w.before ([.int u0] : List Value).toArray s = true := fun w h => hts w (List.mem_cons_of_mem _ h)
  have hown : s.vm.findClass RX4 = some m.cls := findClass_of_methodNamed B.named
  have hlocks := B.notSynchronized
  have hN := hK.2
  subst hsz
  have hD := hD0.self (sz := s.heap.size)
  generalize hAe : va_A (wl ([] : List va_W)) s.heap.size = A at hD ⊢
  have hA : ∀ q : Nat, s.heap.size ≤ q → A q := fun q h => by rw [← hAe]; exact Or.inr h
  have hS : va_S A s.heap s.heap [] := va_S.rf
  have hl := lv_entry ([.int u0]) (n := 1) (Nat.le_of_ble_eq_true rfl)
  rw [lg_entry_eq]
  generalize (lg_sl ([.int u0]) ++ List.replicate (1 - (lg_sl ([.int u0])).length) Slot.unset).toArray = ls at hl ⊢
  have hl : lv_has ls 1 [(0, .int u0)] := hl
  unfold f_X4_isCell at h
  refine lv_iload_n hx hb dX4_isCell_0 rfl (lv_at hl 0 rfl) ?_
  refine lv_if_lt (tgt := 14) hx hb dX4_isCell_1 (by decide) (fun c1 => ?_) (fun c1 => ?_)
  · replace h := og_pos c1 h
    refine lv_iconst (v := (0 : Int32)) hx hb dX4_isCell_14 (by decide) ?_
    exact W.zret (v := (0 : Int32)) hx hb hr (by decide +kernel) (fun t ht hW => ⟨⟨(0 : Int32), (), rfl, ⟨(congrArg Prod.fst (og_inj h)).symm, (congrArg Prod.snd (og_inj h)).symm⟩, (by rw [ht]; exact hP), hD⟩, hS.F ht⟩) hS.2.2 dX4_isCell_15
  · replace h := og_neg c1 h
    refine lv_iload_n hx hb dX4_isCell_4 rfl (lv_at hl 0 rfl) ?_
    refine lv_bipush (v := (8 : Int32)) hx hb dX4_isCell_5 (by decide) ?_
    refine lv_icmp_ge (tgt := 14) hx hb dX4_isCell_7 (by decide) (fun c2 => ?_) (fun c2 => ?_)
    · replace h := og_pos c2 h
      refine lv_iconst (v := (0 : Int32)) hx hb dX4_isCell_14 (by decide) ?_
      exact W.zret (v := (0 : Int32)) hx hb hr (by decide +kernel) (fun t ht hW => ⟨⟨(0 : Int32), (), rfl, ⟨(congrArg Prod.fst (og_inj h)).symm, (congrArg Prod.snd (og_inj h)).symm⟩, (by rw [ht]; exact hP), hD⟩, hS.F ht⟩) hS.2.2 dX4_isCell_15
    · replace h := og_neg c2 h
      refine lv_iconst (v := (1 : Int32)) hx hb dX4_isCell_10 (by decide) ?_
      refine lv_goto (tgt := 15) hx hb dX4_isCell_11 (by decide) ?_
      exact W.zret (v := (1 : Int32)) hx hb hr (by decide +kernel) (fun t ht hW => ⟨⟨(1 : Int32), (), rfl, ⟨(congrArg Prod.fst (og_inj h)).symm, (congrArg Prod.snd (og_inj h)).symm⟩, (by rw [ht]; exact hP), hD⟩, hS.F ht⟩) hS.2.2 dX4_isCell_15
set_option maxRecDepth 100000 in
set_option maxHeartbeats 8000000 in
theorem k_X4_isDivision (l : Launch) (D : va_G) (cA : Nat → ClassId)  (sz : Nat) (u0 : Int32) (R : Int32 × Unit) (h : f_X4_isDivision u0 = some R) : Met l yX4_isDivision (wsU yX4_isDivision cX4_isDivision 1 (some .boolean)) ({ frames := 0, cells := 0, slots := 0, locals := 0 }) (PcW D cA (wl ([] : List va_W)) sz [.int u0]) (QI D (fun _ : Unit => (wl ([] : List va_W))) R (va_A (wl ([] : List va_W)) sz)) 0 0 (va_A (wl ([] : List va_W)) sz) := by
  refine Met.ofW (cc := cX4_isDivision) (maxL := 1) (ret := (some .boolean)) (by decide) rfl ?_
  intro p e s m args below meth c s₁ B hml hv
  obtain ⟨rfl, hsz, hP, hK, hD0⟩ := hv
  have hx := B.exec
  have hb := B.bytes
  have hr := B.returns
  have hts := atoms_spec (ws := (wsU yX4_isDivision cX4_isDivision 1 (some .boolean))) B.pre
  have hT : ∀ w ∈ wsL_law, w.before ([.int u0] : List Value).toArray s = true := fun w h => hts w (List.mem_cons_of_mem _ h)
  have hown : s.vm.findClass RX4 = some m.cls := findClass_of_methodNamed B.named
  have hlocks := B.notSynchronized
  have hN := hK.2
  subst hsz
  have hD := hD0.self (sz := s.heap.size)
  generalize hAe : va_A (wl ([] : List va_W)) s.heap.size = A at hD ⊢
  have hA : ∀ q : Nat, s.heap.size ≤ q → A q := fun q h => by rw [← hAe]; exact Or.inr h
  have hS : va_S A s.heap s.heap [] := va_S.rf
  have hl := lv_entry ([.int u0]) (n := 1) (Nat.le_of_ble_eq_true rfl)
  rw [lg_entry_eq]
  generalize (lg_sl ([.int u0]) ++ List.replicate (1 - (lg_sl ([.int u0])).length) Slot.unset).toArray = ls at hl ⊢
  have hl : lv_has ls 1 [(0, .int u0)] := hl
  unfold f_X4_isDivision at h
  refine lv_iload_n hx hb dX4_isDivision_0 rfl (lv_at hl 0 rfl) ?_
  refine lv_bipush (v := (12 : Int32)) hx hb dX4_isDivision_1 (by decide) ?_
  refine lv_icmp_lt (tgt := 16) hx hb dX4_isDivision_3 (by decide) (fun c1 => ?_) (fun c1 => ?_)
  · replace h := og_pos c1 h
    refine lv_iconst (v := (0 : Int32)) hx hb dX4_isDivision_16 (by decide) ?_
    exact W.zret (v := (0 : Int32)) hx hb hr (by decide +kernel) (fun t ht hW => ⟨⟨(0 : Int32), (), rfl, ⟨(congrArg Prod.fst (og_inj h)).symm, (congrArg Prod.snd (og_inj h)).symm⟩, (by rw [ht]; exact hP), hD⟩, hS.F ht⟩) hS.2.2 dX4_isDivision_17
  · replace h := og_neg c1 h
    refine lv_iload_n hx hb dX4_isDivision_6 rfl (lv_at hl 0 rfl) ?_
    refine lv_bipush (v := (15 : Int32)) hx hb dX4_isDivision_7 (by decide) ?_
    refine lv_icmp_gt (tgt := 16) hx hb dX4_isDivision_9 (by decide) (fun c2 => ?_) (fun c2 => ?_)
    · replace h := og_pos c2 h
      refine lv_iconst (v := (0 : Int32)) hx hb dX4_isDivision_16 (by decide) ?_
      exact W.zret (v := (0 : Int32)) hx hb hr (by decide +kernel) (fun t ht hW => ⟨⟨(0 : Int32), (), rfl, ⟨(congrArg Prod.fst (og_inj h)).symm, (congrArg Prod.snd (og_inj h)).symm⟩, (by rw [ht]; exact hP), hD⟩, hS.F ht⟩) hS.2.2 dX4_isDivision_17
    · replace h := og_neg c2 h
      refine lv_iconst (v := (1 : Int32)) hx hb dX4_isDivision_12 (by decide) ?_
      refine lv_goto (tgt := 17) hx hb dX4_isDivision_13 (by decide) ?_
      exact W.zret (v := (1 : Int32)) hx hb hr (by decide +kernel) (fun t ht hW => ⟨⟨(1 : Int32), (), rfl, ⟨(congrArg Prod.fst (og_inj h)).symm, (congrArg Prod.snd (og_inj h)).symm⟩, (by rw [ht]; exact hP), hD⟩, hS.F ht⟩) hS.2.2 dX4_isDivision_17
set_option maxRecDepth 100000 in
set_option maxHeartbeats 8000000 in
theorem k_X4_mark (l : Launch) (D : va_G) (cA : Nat → ClassId)  (sz : Nat) (u0 : Int32) (R : Int64 × Unit) (h : f_X4_mark u0 = some R) : Met l yX4_mark (wsU yX4_mark cX4_mark 1 (some .long)) ({ frames := 0, cells := 0, slots := 0, locals := 0 }) (PcW D cA (wl ([] : List va_W)) sz [.int u0]) (QL D (fun _ : Unit => (wl ([] : List va_W))) R (va_A (wl ([] : List va_W)) sz)) 0 0 (va_A (wl ([] : List va_W)) sz) := by
  refine Met.ofW (cc := cX4_mark) (maxL := 1) (ret := (some .long)) (by decide) rfl ?_
  intro p e s m args below meth c s₁ B hml hv
  obtain ⟨rfl, hsz, hP, hK, hD0⟩ := hv
  have hx := B.exec
  have hb := B.bytes
  have hr := B.returns
  have hts := atoms_spec (ws := (wsU yX4_mark cX4_mark 1 (some .long))) B.pre
  have hT : ∀ w ∈ wsL_law, w.before ([.int u0] : List Value).toArray s = true := fun w h => hts w (List.mem_cons_of_mem _ h)
  have hown : s.vm.findClass RX4 = some m.cls := findClass_of_methodNamed B.named
  have hlocks := B.notSynchronized
  have hN := hK.2
  subst hsz
  have hD := hD0.self (sz := s.heap.size)
  generalize hAe : va_A (wl ([] : List va_W)) s.heap.size = A at hD ⊢
  have hA : ∀ q : Nat, s.heap.size ≤ q → A q := fun q h => by rw [← hAe]; exact Or.inr h
  have hS : va_S A s.heap s.heap [] := va_S.rf
  have hl := lv_entry ([.int u0]) (n := 1) (Nat.le_of_ble_eq_true rfl)
  rw [lg_entry_eq]
  generalize (lg_sl ([.int u0]) ++ List.replicate (1 - (lg_sl ([.int u0])).length) Slot.unset).toArray = ls at hl ⊢
  have hl : lv_has ls 1 [(0, .int u0)] := hl
  unfold f_X4_mark at h
  refine lv_lconst (v := (1 : Int64)) hx hb dX4_mark_0 (by decide) ?_
  refine lv_bipush (v := (59 : Int32)) hx hb dX4_mark_1 (by decide) ?_
  refine lv_iload_n hx hb dX4_mark_3 rfl (lv_at hl 0 rfl) ?_
  refine lv_isub hx hb dX4_mark_4 ?_
  refine lv_lshl (v := ((1 : Int64) <<< (((59 : Int32) - u0).toInt64 &&& 63))) hx hb dX4_mark_5 rfl ?_
  exact W.lret (v := ((1 : Int64) <<< (((59 : Int32) - u0).toInt64 &&& 63))) hx hb hr (fun t ht hW => ⟨⟨((1 : Int64) <<< (((59 : Int32) - u0).toInt64 &&& 63)), (), rfl, ⟨(congrArg Prod.fst (og_inj h)).symm, (congrArg Prod.snd (og_inj h)).symm⟩, (by rw [ht]; exact hP), hD⟩, hS.F ht⟩) hS.2.2 dX4_mark_6
set_option maxRecDepth 100000 in
set_option maxHeartbeats 8000000 in
theorem k_X4_isMarked (l : Launch) (D : va_G) (cA : Nat → ClassId)  (sz : Nat) (u0 : Int64) (u2 : Int32) (R : Int32 × Unit) (h : f_X4_isMarked u0 u2 = some R) : Met l yX4_isMarked (wsU yX4_isMarked cX4_isMarked 3 (some .boolean)) ({ frames := 1, cells := 0, slots := 0, locals := 20 }) (PcW D cA (wl ([] : List va_W)) sz [.long u0, .int u2]) (QI D (fun _ : Unit => (wl ([] : List va_W))) R (va_A (wl ([] : List va_W)) sz)) 0 0 (va_A (wl ([] : List va_W)) sz) := by
  refine Met.ofW (cc := cX4_isMarked) (maxL := 3) (ret := (some .boolean)) (by decide) rfl ?_
  intro p e s m args below meth c s₁ B hml hv
  obtain ⟨rfl, hsz, hP, hK, hD0⟩ := hv
  have hx := B.exec
  have hb := B.bytes
  have hr := B.returns
  have hts := atoms_spec (ws := (wsU yX4_isMarked cX4_isMarked 3 (some .boolean))) B.pre
  have hT : ∀ w ∈ wsL_law, w.before ([.long u0, .int u2] : List Value).toArray s = true := fun w h => hts w (List.mem_cons_of_mem _ h)
  have hown : s.vm.findClass RX4 = some m.cls := findClass_of_methodNamed B.named
  have hlocks := B.notSynchronized
  have hN := hK.2
  subst hsz
  have hD := hD0.self (sz := s.heap.size)
  generalize hAe : va_A (wl ([] : List va_W)) s.heap.size = A at hD ⊢
  have hA : ∀ q : Nat, s.heap.size ≤ q → A q := fun q h => by rw [← hAe]; exact Or.inr h
  have hS : va_S A s.heap s.heap [] := va_S.rf
  have hl := lv_entry ([.long u0, .int u2]) (n := 3) (Nat.le_of_ble_eq_true rfl)
  rw [lg_entry_eq]
  generalize (lg_sl ([.long u0, .int u2]) ++ List.replicate (3 - (lg_sl ([.long u0, .int u2])).length) Slot.unset).toArray = ls at hl ⊢
  have hl : lv_has ls 3 [(0, .long u0), (2, .int u2)] := hl
  unfold f_X4_isMarked at h
  refine lv_lload_n hx hb dX4_isMarked_0 rfl (lv_at hl 0 rfl) ?_
  refine lv_iload_n hx hb dX4_isMarked_1 rfl (lv_at hl 1 rfl) ?_
  obtain ⟨⟨r1, _u1⟩, e1, h⟩ := og_bind h
  dsimp only at h
  refine gc_l (ws := (wl ([] : List va_W))) (wc := (wl ([] : List va_W))) (wr := (wl ([] : List va_W))) (ws' := (wl ([] : List va_W))) (va_runS (As := [.int u2]) (rest := [.long u0]) ⟨hx, hb, hml, hown, hT⟩ (k_X4_mark l D cA  s.heap.size u2  _ e1) (cwS 1 hT gs_RX4_175 rfl rfl rfl (by decide +kernel) ⟨Nat.le_of_ble_eq_true rfl, Nat.le_of_ble_eq_true rfl⟩) (pre_S (wr := (wl ([] : List va_W))) (pm (f := fun i => ([] : List va_W).getD i []) [] [] [] (by decide)) hK hP hD) rfl rfl hl.1 rfl (lv_room (Nat.le_of_ble_eq_true rfl)) dX4_isMarked_2 ⟨Nat.le_refl _, Nat.le_refl _⟩) (pm (f := fun i => ([] : List va_W).getD i []) [] [] [] (by decide)) hP hD hS hA (pm (f := fun i => ([] : List va_W).getD i []) [] [] [] (by decide)) (fun H locs hP hD hS => ?_)
  refine lv_land hx hb dX4_isMarked_5 ?_
  refine lv_lconst (v := (0 : Int64)) hx hb dX4_isMarked_6 (by decide) ?_
  refine W.lcmp hx hb dX4_isMarked_7 ?_
  refine lv_if_eq (tgt := 15) hx hb dX4_isMarked_8 (by decide) (fun c2 => ?_) (fun c2 => ?_)
  · replace h := og_pos c2 h
    refine lv_iconst (v := (0 : Int32)) hx hb dX4_isMarked_15 (by decide) ?_
    exact W.zret (v := (0 : Int32)) hx hb hr (by decide +kernel) (fun t ht hW => ⟨⟨(0 : Int32), (), rfl, ⟨(congrArg Prod.fst (og_inj h)).symm, (congrArg Prod.snd (og_inj h)).symm⟩, (by rw [ht]; exact hP), hD⟩, hS.F ht⟩) hS.2.2 dX4_isMarked_16
  · replace h := og_neg c2 h
    refine lv_iconst (v := (1 : Int32)) hx hb dX4_isMarked_11 (by decide) ?_
    refine lv_goto (tgt := 16) hx hb dX4_isMarked_12 (by decide) ?_
    exact W.zret (v := (1 : Int32)) hx hb hr (by decide +kernel) (fun t ht hW => ⟨⟨(1 : Int32), (), rfl, ⟨(congrArg Prod.fst (og_inj h)).symm, (congrArg Prod.snd (og_inj h)).symm⟩, (by rw [ht]; exact hP), hD⟩, hS.F ht⟩) hS.2.2 dX4_isMarked_16
set_option maxRecDepth 100000 in
set_option maxHeartbeats 8000000 in
theorem k_X4_placeOfMark (l : Launch) (D : va_G) (cA : Nat → ClassId)  (sz : Nat) (n : Nat) (u0 : Int64) (u2 : Int32) (R : Int32 × Unit) (h : f_X4_placeOfMark n u0 u2 = some R) : Met l yX4_placeOfMark (wsU yX4_placeOfMark cX4_placeOfMark 5 (some .int)) ({ frames := 2, cells := 0, slots := 0, locals := 42 }) (PcW D cA (wl ([] : List va_W)) sz [.long u0, .int u2]) (QI D (fun _ : Unit => (wl ([] : List va_W))) R (va_A (wl ([] : List va_W)) sz)) 0 0 (va_A (wl ([] : List va_W)) sz) := by
  refine Met.ofW (cc := cX4_placeOfMark) (maxL := 5) (ret := (some .int)) (by decide) rfl ?_
  intro p e s m args below meth c s₁ B hml hv
  obtain ⟨rfl, hsz, hP, hK, hD0⟩ := hv
  have hx := B.exec
  have hb := B.bytes
  have hr := B.returns
  have hts := atoms_spec (ws := (wsU yX4_placeOfMark cX4_placeOfMark 5 (some .int))) B.pre
  have hT : ∀ w ∈ wsL_law, w.before ([.long u0, .int u2] : List Value).toArray s = true := fun w h => hts w (List.mem_cons_of_mem _ h)
  have hown : s.vm.findClass RX4 = some m.cls := findClass_of_methodNamed B.named
  have hlocks := B.notSynchronized
  have hN := hK.2
  subst hsz
  have hD := hD0.self (sz := s.heap.size)
  generalize hAe : va_A (wl ([] : List va_W)) s.heap.size = A at hD ⊢
  have hA : ∀ q : Nat, s.heap.size ≤ q → A q := fun q h => by rw [← hAe]; exact Or.inr h
  have hS : va_S A s.heap s.heap [] := va_S.rf
  have hl := lv_entry ([.long u0, .int u2]) (n := 5) (Nat.le_of_ble_eq_true rfl)
  rw [lg_entry_eq]
  generalize (lg_sl ([.long u0, .int u2]) ++ List.replicate (5 - (lg_sl ([.long u0, .int u2])).length) Slot.unset).toArray = ls at hl ⊢
  have hl : lv_has ls 5 [(0, .long u0), (2, .int u2)] := hl
  have b32 : ∀ (x0 : Int64) (x2 : Int32) (rc5 : (Int32 × Int32) → Option (Int32 × Unit)) (hr5 : ∀ (x3 : Int32) (x4 : Int32) (H : Heap) (locs : List Loc) (ls : Array Slot), rc5 (x3, x4) = some R → va_P D vwCl (wl ([] : List va_W)) H → va_D A (wl ([] : List va_W)) → va_S A s.heap H locs → lv_has ls 5 [(0, .long x0), (2, .int x2), (3, .int x3), (4, .int x4)] → W p l e (headSpec (wsU yX4_placeOfMark cX4_placeOfMark 5 (some .int)) ({ frames := 2, cells := 0, slots := 0, locals := 42 })).room s m ([.long u0, .int u2] : List Value).toArray below meth c H locs 0 0 (MQ below (QI D (fun _ : Unit => (wl ([] : List va_W))) R A) ([.long u0, .int u2] : List Value).toArray s 0 0 A) (F0 m 5 ls [])) (x3 : Int32) (x4 : Int32) (H : Heap) (locs : List Loc) (ls : Array Slot), f_X4_placeOfMark_b32 n rc5 x0 x2 x3 x4 = some R → va_P D vwCl (wl ([] : List va_W)) H → va_D A (wl ([] : List va_W)) → va_S A s.heap H locs → lv_has ls 5 [(0, .long x0), (2, .int x2), (3, .int x3), (4, .int x4)] → W p l e (headSpec (wsU yX4_placeOfMark cX4_placeOfMark 5 (some .int)) ({ frames := 2, cells := 0, slots := 0, locals := 42 })).room s m ([.long u0, .int u2] : List Value).toArray below meth c H locs 0 0 (MQ below (QI D (fun _ : Unit => (wl ([] : List va_W))) R A) ([.long u0, .int u2] : List Value).toArray s 0 0 A) (F0 m 32 ls []) := by
    intro x0 x2 rc5 hr5 x3 x4 H locs ls h hP hD hS hl
    unfold f_X4_placeOfMark_b32 at h
    refine lv_iinc (v := (x4 + 1)) (lv' := [(4, .int (x4 + 1)), (0, .long x0), (2, .int x2), (3, .int x3)]) hx hb dX4_placeOfMark_32 hl (k := 3) rfl rfl (by decide) rfl (fun ls hl => ?_)
    refine lv_goto (tgt := 5) hx hb dX4_placeOfMark_35 (by decide) ?_
    exact hr5 _ _ _ _ _ h hP hD hS (lv_sub hl [1, 2, 3, 0] rfl)
  have b5 : ∀ (x0 : Int64) (x2 : Int32) (nn : Nat), ∀ (x3 : Int32) (x4 : Int32) (H : Heap) (locs : List Loc) (ls : Array Slot), lp (f_X4_placeOfMark_l5 n x0 x2) nn (x3, x4) = some R → va_P D vwCl (wl ([] : List va_W)) H → va_D A (wl ([] : List va_W)) → va_S A s.heap H locs → lv_has ls 5 [(0, .long x0), (2, .int x2), (3, .int x3), (4, .int x4)] → W p l e (headSpec (wsU yX4_placeOfMark cX4_placeOfMark 5 (some .int)) ({ frames := 2, cells := 0, slots := 0, locals := 42 })).room s m ([.long u0, .int u2] : List Value).toArray below meth c H locs 0 0 (MQ below (QI D (fun _ : Unit => (wl ([] : List va_W))) R A) ([.long u0, .int u2] : List Value).toArray s 0 0 A) (F0 m 5 ls []) := by
    intro x0 x2 nn
    induction nn with
    | zero =>
      intro x3 x4 H locs ls h hP hD hS hl
      exact (lp_zero h).elim
    | succ nn hr5 =>
      intro x3 x4 H locs ls h hP hD hS hl
      rw [lp_succ] at h
      unfold f_X4_placeOfMark_l5 at h
      dsimp only at h
      refine lv_iload hx hb dX4_placeOfMark_5 (lv_at hl 3 rfl) ?_
      refine lv_bipush (v := (60 : Int32)) hx hb dX4_placeOfMark_7 (by decide) ?_
      refine lv_icmp_ge (tgt := 38) hx hb dX4_placeOfMark_9 (by decide) (fun c1 => ?_) (fun c1 => ?_)
      · replace h := og_pos c1 h
        refine lv_iconst (v := (-1 : Int32)) hx hb dX4_placeOfMark_38 (by decide) ?_
        exact W.iret (v := (-1 : Int32)) hx hb hr (fun t ht hW => ⟨⟨(-1 : Int32), (), rfl, ⟨(congrArg Prod.fst (og_inj h)).symm, (congrArg Prod.snd (og_inj h)).symm⟩, (by rw [ht]; exact hP), hD⟩, hS.F ht⟩) hS.2.2 dX4_placeOfMark_39
      · replace h := og_neg c1 h
        refine lv_lload_n hx hb dX4_placeOfMark_12 rfl (lv_at hl 0 rfl) ?_
        refine lv_iload hx hb dX4_placeOfMark_13 (lv_at hl 3 rfl) ?_
        obtain ⟨⟨r2, _u2⟩, e2, h⟩ := og_bind h
        dsimp only at h
        refine gc_i (ws := (wl ([] : List va_W))) (wc := (wl ([] : List va_W))) (wr := (wl ([] : List va_W))) (ws' := (wl ([] : List va_W))) (va_runS (As := [.long x0, .int x4]) (rest := []) ⟨hx, hb, hml, hown, hT⟩ (k_X4_isMarked l D cA  H.size x0 x4  _ e2) (cwS 2 hT gs_RX4_106 rfl rfl rfl (by decide +kernel) ⟨Nat.le_of_ble_eq_true rfl, Nat.le_of_ble_eq_true rfl⟩) (pre_S (wr := (wl ([] : List va_W))) (pm (f := fun i => ([] : List va_W).getD i []) [] [] [] (by decide)) hK hP hD) rfl rfl hl.1 rfl (lv_room (Nat.le_of_ble_eq_true rfl)) dX4_placeOfMark_15 ⟨Nat.le_refl _, Nat.le_refl _⟩) (pm (f := fun i => ([] : List va_W).getD i []) [] [] [] (by decide)) hP hD hS hA (pm (f := fun i => ([] : List va_W).getD i []) [] [] [] (by decide)) (fun H locs hP hD hS => ?_)
        refine lv_if_eq (tgt := 32) hx hb dX4_placeOfMark_18 (by decide) (fun c3 => ?_) (fun c3 => ?_)
        · replace h := og_pos c3 h
          exact b32 _ _ _ hr5 _ _ _ _ _ h hP hD hS (lv_sub hl [0, 1, 2, 3] rfl)
        · replace h := og_neg c3 h
          refine lv_iload_n hx hb dX4_placeOfMark_21 rfl (lv_at hl 2 rfl) ?_
          refine lv_iload_n hx hb dX4_placeOfMark_22 rfl (lv_at hl 1 rfl) ?_
          refine lv_icmp_ne (tgt := 29) hx hb dX4_placeOfMark_23 (by decide) (fun c4 => ?_) (fun c4 => ?_)
          · replace h := og_neg c4 h
            refine lv_iinc (v := (x3 + 1)) (lv' := [(3, .int (x3 + 1)), (0, .long x0), (2, .int x2), (4, .int x4)]) hx hb dX4_placeOfMark_29 hl (k := 2) rfl rfl (by decide) rfl (fun ls hl => ?_)
            exact b32 _ _ _ hr5 _ _ _ _ _ h hP hD hS (lv_sub hl [1, 2, 0, 3] rfl)
          · replace h := og_pos c4 h
            refine lv_iload hx hb dX4_placeOfMark_26 (lv_at hl 3 rfl) ?_
            exact W.iret (v := x4) hx hb hr (fun t ht hW => ⟨⟨x4, (), rfl, ⟨(congrArg Prod.fst (og_inj h)).symm, (congrArg Prod.snd (og_inj h)).symm⟩, (by rw [ht]; exact hP), hD⟩, hS.F ht⟩) hS.2.2 dX4_placeOfMark_28
  unfold f_X4_placeOfMark at h
  refine lv_iconst (v := (0 : Int32)) hx hb dX4_placeOfMark_0 (by decide) ?_
  refine lv_istore_n (lv' := [(3, .int (0 : Int32)), (0, .long u0), (2, .int u2)]) hx hb dX4_placeOfMark_1 rfl hl (by decide) rfl (fun ls hl => ?_)
  refine lv_iconst (v := (0 : Int32)) hx hb dX4_placeOfMark_2 (by decide) ?_
  refine lv_istore (lv' := [(4, .int (0 : Int32)), (3, .int (0 : Int32)), (0, .long u0), (2, .int u2)]) hx hb dX4_placeOfMark_3 hl (by decide) rfl (fun ls hl => ?_)
  exact b5  _ _ n _ _ _ _ _ h hP hD hS (lv_sub hl [2, 3, 1, 0] rfl)
set_option maxRecDepth 100000 in
set_option maxHeartbeats 8000000 in
theorem k_X4_isBelowUnsigned (l : Launch) (D : va_G) (cA : Nat → ClassId)  (sz : Nat) (u0 : Int32) (u1 : Int32) (R : Int32 × Unit) (h : f_X4_isBelowUnsigned u0 u1 = some R) : Met l yX4_isBelowUnsigned (wsU yX4_isBelowUnsigned cX4_isBelowUnsigned 2 (some .boolean)) ({ frames := 0, cells := 0, slots := 0, locals := 0 }) (PcW D cA (wl ([] : List va_W)) sz [.int u0, .int u1]) (QI D (fun _ : Unit => (wl ([] : List va_W))) R (va_A (wl ([] : List va_W)) sz)) 0 0 (va_A (wl ([] : List va_W)) sz) := by
  refine Met.ofW (cc := cX4_isBelowUnsigned) (maxL := 2) (ret := (some .boolean)) (by decide) rfl ?_
  intro p e s m args below meth c s₁ B hml hv
  obtain ⟨rfl, hsz, hP, hK, hD0⟩ := hv
  have hx := B.exec
  have hb := B.bytes
  have hr := B.returns
  have hts := atoms_spec (ws := (wsU yX4_isBelowUnsigned cX4_isBelowUnsigned 2 (some .boolean))) B.pre
  have hT : ∀ w ∈ wsL_law, w.before ([.int u0, .int u1] : List Value).toArray s = true := fun w h => hts w (List.mem_cons_of_mem _ h)
  have hown : s.vm.findClass RX4 = some m.cls := findClass_of_methodNamed B.named
  have hlocks := B.notSynchronized
  have hN := hK.2
  subst hsz
  have hD := hD0.self (sz := s.heap.size)
  generalize hAe : va_A (wl ([] : List va_W)) s.heap.size = A at hD ⊢
  have hA : ∀ q : Nat, s.heap.size ≤ q → A q := fun q h => by rw [← hAe]; exact Or.inr h
  have hS : va_S A s.heap s.heap [] := va_S.rf
  have hl := lv_entry ([.int u0, .int u1]) (n := 2) (Nat.le_of_ble_eq_true rfl)
  rw [lg_entry_eq]
  generalize (lg_sl ([.int u0, .int u1]) ++ List.replicate (2 - (lg_sl ([.int u0, .int u1])).length) Slot.unset).toArray = ls at hl ⊢
  have hl : lv_has ls 2 [(0, .int u0), (1, .int u1)] := hl
  unfold f_X4_isBelowUnsigned at h
  refine lv_iload_n hx hb dX4_isBelowUnsigned_0 rfl (lv_at hl 0 rfl) ?_
  refine lv_i2l (v := u0.toInt64) hx hb dX4_isBelowUnsigned_1 rfl ?_
  refine lv_ldc2 (v := (4294967295 : Int64)) hx hb hown (hT _ kl_RX4_179) dX4_isBelowUnsigned_2 ?_
  refine lv_land hx hb dX4_isBelowUnsigned_5 ?_
  refine lv_iload_n hx hb dX4_isBelowUnsigned_6 rfl (lv_at hl 1 rfl) ?_
  refine lv_i2l (v := u1.toInt64) hx hb dX4_isBelowUnsigned_7 rfl ?_
  refine lv_ldc2 (v := (4294967295 : Int64)) hx hb hown (hT _ kl_RX4_179) dX4_isBelowUnsigned_8 ?_
  refine lv_land hx hb dX4_isBelowUnsigned_11 ?_
  refine W.lcmp hx hb dX4_isBelowUnsigned_12 ?_
  refine lv_if_ge (tgt := 20) hx hb dX4_isBelowUnsigned_13 (by decide) (fun c1 => ?_) (fun c1 => ?_)
  · replace h := og_pos c1 h
    refine lv_iconst (v := (0 : Int32)) hx hb dX4_isBelowUnsigned_20 (by decide) ?_
    exact W.zret (v := (0 : Int32)) hx hb hr (by decide +kernel) (fun t ht hW => ⟨⟨(0 : Int32), (), rfl, ⟨(congrArg Prod.fst (og_inj h)).symm, (congrArg Prod.snd (og_inj h)).symm⟩, (by rw [ht]; exact hP), hD⟩, hS.F ht⟩) hS.2.2 dX4_isBelowUnsigned_21
  · replace h := og_neg c1 h
    refine lv_iconst (v := (1 : Int32)) hx hb dX4_isBelowUnsigned_16 (by decide) ?_
    refine lv_goto (tgt := 21) hx hb dX4_isBelowUnsigned_17 (by decide) ?_
    exact W.zret (v := (1 : Int32)) hx hb hr (by decide +kernel) (fun t ht hW => ⟨⟨(1 : Int32), (), rfl, ⟨(congrArg Prod.fst (og_inj h)).symm, (congrArg Prod.snd (og_inj h)).symm⟩, (by rw [ht]; exact hP), hD⟩, hS.F ht⟩) hS.2.2 dX4_isBelowUnsigned_21
set_option maxRecDepth 100000 in
set_option maxHeartbeats 8000000 in
theorem k_X4_combine (l : Launch) (D : va_G) (cA : Nat → ClassId)  (sz : Nat) (u0 : Int32) (u1 : Int32) (u2 : Int32) (R : Int32 × Unit) (h : f_X4_combine u0 u1 u2 = some R) : Met l yX4_combine (wsU yX4_combine cX4_combine 3 (some .int)) ({ frames := 1, cells := 0, slots := 0, locals := 21 }) (PcW D cA (wl ([] : List va_W)) sz [.int u0, .int u1, .int u2]) (QI D (fun _ : Unit => (wl ([] : List va_W))) R (va_A (wl ([] : List va_W)) sz)) 0 0 (va_A (wl ([] : List va_W)) sz) := by
  refine Met.ofW (cc := cX4_combine) (maxL := 3) (ret := (some .int)) (by decide) rfl ?_
  intro p e s m args below meth c s₁ B hml hv
  obtain ⟨rfl, hsz, hP, hK, hD0⟩ := hv
  have hx := B.exec
  have hb := B.bytes
  have hr := B.returns
  have hts := atoms_spec (ws := (wsU yX4_combine cX4_combine 3 (some .int))) B.pre
  have hT : ∀ w ∈ wsL_law, w.before ([.int u0, .int u1, .int u2] : List Value).toArray s = true := fun w h => hts w (List.mem_cons_of_mem _ h)
  have hown : s.vm.findClass RX4 = some m.cls := findClass_of_methodNamed B.named
  have hlocks := B.notSynchronized
  have hN := hK.2
  subst hsz
  have hD := hD0.self (sz := s.heap.size)
  generalize hAe : va_A (wl ([] : List va_W)) s.heap.size = A at hD ⊢
  have hA : ∀ q : Nat, s.heap.size ≤ q → A q := fun q h => by rw [← hAe]; exact Or.inr h
  have hS : va_S A s.heap s.heap [] := va_S.rf
  have hl := lv_entry ([.int u0, .int u1, .int u2]) (n := 3) (Nat.le_of_ble_eq_true rfl)
  rw [lg_entry_eq]
  generalize (lg_sl ([.int u0, .int u1, .int u2]) ++ List.replicate (3 - (lg_sl ([.int u0, .int u1, .int u2])).length) Slot.unset).toArray = ls at hl ⊢
  have hl : lv_has ls 3 [(0, .int u0), (1, .int u1), (2, .int u2)] := hl
  unfold f_X4_combine at h
  refine lv_iload_n hx hb dX4_combine_0 rfl (lv_at hl 0 rfl) ?_
  by_cases c9 : u0 = (3 : Int32)
  · replace h := og_pos c9 h
    refine gs_in (off := 91) (tgt := 92) 3 c9 hx hb dX4_combine_1 (by decide +kernel) (by decide) ?_
    refine lv_iload_n hx hb dX4_combine_92 rfl (lv_at hl 1 rfl) ?_
    refine lv_iload_n hx hb dX4_combine_93 rfl (lv_at hl 2 rfl) ?_
    refine lv_iadd hx hb dX4_combine_94 ?_
    exact W.iret (v := (u1 + u2)) hx hb hr (fun t ht hW => ⟨⟨(u1 + u2), (), rfl, ⟨(congrArg Prod.fst (og_inj h)).symm, (congrArg Prod.snd (og_inj h)).symm⟩, (by rw [ht]; exact hP), hD⟩, hS.F ht⟩) hS.2.2 dX4_combine_95
  replace h := og_neg c9 h
  by_cases c10 : u0 = (4 : Int32)
  · replace h := og_pos c10 h
    refine gs_in (off := 95) (tgt := 96) 4 c10 hx hb dX4_combine_1 (by decide +kernel) (by decide) ?_
    refine lv_iload_n hx hb dX4_combine_96 rfl (lv_at hl 1 rfl) ?_
    refine lv_iload_n hx hb dX4_combine_97 rfl (lv_at hl 2 rfl) ?_
    refine lv_isub hx hb dX4_combine_98 ?_
    exact W.iret (v := (u1 - u2)) hx hb hr (fun t ht hW => ⟨⟨(u1 - u2), (), rfl, ⟨(congrArg Prod.fst (og_inj h)).symm, (congrArg Prod.snd (og_inj h)).symm⟩, (by rw [ht]; exact hP), hD⟩, hS.F ht⟩) hS.2.2 dX4_combine_99
  replace h := og_neg c10 h
  by_cases c11 : u0 = (5 : Int32)
  · replace h := og_pos c11 h
    refine gs_in (off := 99) (tgt := 100) 5 c11 hx hb dX4_combine_1 (by decide +kernel) (by decide) ?_
    refine lv_iload_n hx hb dX4_combine_100 rfl (lv_at hl 1 rfl) ?_
    refine lv_iload_n hx hb dX4_combine_101 rfl (lv_at hl 2 rfl) ?_
    refine lv_imul hx hb dX4_combine_102 ?_
    exact W.iret (v := (u1 * u2)) hx hb hr (fun t ht hW => ⟨⟨(u1 * u2), (), rfl, ⟨(congrArg Prod.fst (og_inj h)).symm, (congrArg Prod.snd (og_inj h)).symm⟩, (by rw [ht]; exact hP), hD⟩, hS.F ht⟩) hS.2.2 dX4_combine_103
  replace h := og_neg c11 h
  by_cases c12 : u0 = (6 : Int32)
  · replace h := og_pos c12 h
    refine gs_in (off := 103) (tgt := 104) 6 c12 hx hb dX4_combine_1 (by decide +kernel) (by decide) ?_
    refine lv_iload_n hx hb dX4_combine_104 rfl (lv_at hl 1 rfl) ?_
    refine lv_iload_n hx hb dX4_combine_105 rfl (lv_at hl 2 rfl) ?_
    refine lv_iand hx hb dX4_combine_106 ?_
    exact W.iret (v := (u1 &&& u2)) hx hb hr (fun t ht hW => ⟨⟨(u1 &&& u2), (), rfl, ⟨(congrArg Prod.fst (og_inj h)).symm, (congrArg Prod.snd (og_inj h)).symm⟩, (by rw [ht]; exact hP), hD⟩, hS.F ht⟩) hS.2.2 dX4_combine_107
  replace h := og_neg c12 h
  by_cases c13 : u0 = (7 : Int32)
  · replace h := og_pos c13 h
    refine gs_in (off := 107) (tgt := 108) 7 c13 hx hb dX4_combine_1 (by decide +kernel) (by decide) ?_
    refine lv_iload_n hx hb dX4_combine_108 rfl (lv_at hl 1 rfl) ?_
    refine lv_iload_n hx hb dX4_combine_109 rfl (lv_at hl 2 rfl) ?_
    refine lv_ior hx hb dX4_combine_110 ?_
    exact W.iret (v := (u1 ||| u2)) hx hb hr (fun t ht hW => ⟨⟨(u1 ||| u2), (), rfl, ⟨(congrArg Prod.fst (og_inj h)).symm, (congrArg Prod.snd (og_inj h)).symm⟩, (by rw [ht]; exact hP), hD⟩, hS.F ht⟩) hS.2.2 dX4_combine_111
  replace h := og_neg c13 h
  by_cases c14 : u0 = (8 : Int32)
  · replace h := og_pos c14 h
    refine gs_in (off := 111) (tgt := 112) 8 c14 hx hb dX4_combine_1 (by decide +kernel) (by decide) ?_
    refine lv_iload_n hx hb dX4_combine_112 rfl (lv_at hl 1 rfl) ?_
    refine lv_iload_n hx hb dX4_combine_113 rfl (lv_at hl 2 rfl) ?_
    refine lv_ixor hx hb dX4_combine_114 ?_
    exact W.iret (v := (u1 ^^^ u2)) hx hb hr (fun t ht hW => ⟨⟨(u1 ^^^ u2), (), rfl, ⟨(congrArg Prod.fst (og_inj h)).symm, (congrArg Prod.snd (og_inj h)).symm⟩, (by rw [ht]; exact hP), hD⟩, hS.F ht⟩) hS.2.2 dX4_combine_115
  replace h := og_neg c14 h
  by_cases c15 : u0 = (9 : Int32)
  · replace h := og_pos c15 h
    refine gs_in (off := 115) (tgt := 116) 9 c15 hx hb dX4_combine_1 (by decide +kernel) (by decide) ?_
    refine lv_iload_n hx hb dX4_combine_116 rfl (lv_at hl 1 rfl) ?_
    refine lv_iload_n hx hb dX4_combine_117 rfl (lv_at hl 2 rfl) ?_
    refine lv_ishl hx hb dX4_combine_118 ?_
    exact W.iret (v := (u1 <<< (u2 &&& 31))) hx hb hr (fun t ht hW => ⟨⟨(u1 <<< (u2 &&& 31)), (), rfl, ⟨(congrArg Prod.fst (og_inj h)).symm, (congrArg Prod.snd (og_inj h)).symm⟩, (by rw [ht]; exact hP), hD⟩, hS.F ht⟩) hS.2.2 dX4_combine_119
  replace h := og_neg c15 h
  by_cases c16 : u0 = (10 : Int32)
  · replace h := og_pos c16 h
    refine gs_in (off := 119) (tgt := 120) 10 c16 hx hb dX4_combine_1 (by decide +kernel) (by decide) ?_
    refine lv_iload_n hx hb dX4_combine_120 rfl (lv_at hl 1 rfl) ?_
    refine lv_iload_n hx hb dX4_combine_121 rfl (lv_at hl 2 rfl) ?_
    refine lv_iushr (v := (u1.toUInt32 >>> (u2.toUInt32 &&& Int32.toUInt32 31)).toInt32) hx hb dX4_combine_122 rfl ?_
    exact W.iret (v := (u1.toUInt32 >>> (u2.toUInt32 &&& Int32.toUInt32 31)).toInt32) hx hb hr (fun t ht hW => ⟨⟨(u1.toUInt32 >>> (u2.toUInt32 &&& Int32.toUInt32 31)).toInt32, (), rfl, ⟨(congrArg Prod.fst (og_inj h)).symm, (congrArg Prod.snd (og_inj h)).symm⟩, (by rw [ht]; exact hP), hD⟩, hS.F ht⟩) hS.2.2 dX4_combine_123
  replace h := og_neg c16 h
  by_cases c17 : u0 = (11 : Int32)
  · replace h := og_pos c17 h
    refine gs_in (off := 123) (tgt := 124) 11 c17 hx hb dX4_combine_1 (by decide +kernel) (by decide) ?_
    refine lv_iload_n hx hb dX4_combine_124 rfl (lv_at hl 1 rfl) ?_
    refine lv_iload_n hx hb dX4_combine_125 rfl (lv_at hl 2 rfl) ?_
    refine lv_ishr hx hb dX4_combine_126 ?_
    exact W.iret (v := (u1 >>> (u2 &&& 31))) hx hb hr (fun t ht hW => ⟨⟨(u1 >>> (u2 &&& 31)), (), rfl, ⟨(congrArg Prod.fst (og_inj h)).symm, (congrArg Prod.snd (og_inj h)).symm⟩, (by rw [ht]; exact hP), hD⟩, hS.F ht⟩) hS.2.2 dX4_combine_127
  replace h := og_neg c17 h
  by_cases c18 : u0 = (16 : Int32)
  · replace h := og_pos c18 h
    refine gs_in (off := 127) (tgt := 128) 16 c18 hx hb dX4_combine_1 (by decide +kernel) (by decide) ?_
    refine lv_iload_n hx hb dX4_combine_128 rfl (lv_at hl 1 rfl) ?_
    refine lv_iload_n hx hb dX4_combine_129 rfl (lv_at hl 2 rfl) ?_
    refine lv_icmp_ne (tgt := 137) hx hb dX4_combine_130 (by decide) (fun c1 => ?_) (fun c1 => ?_)
    · replace h := og_neg c1 h
      refine lv_iconst (v := (0 : Int32)) hx hb dX4_combine_137 (by decide) ?_
      exact W.iret (v := (0 : Int32)) hx hb hr (fun t ht hW => ⟨⟨(0 : Int32), (), rfl, ⟨(congrArg Prod.fst (og_inj h)).symm, (congrArg Prod.snd (og_inj h)).symm⟩, (by rw [ht]; exact hP), hD⟩, hS.F ht⟩) hS.2.2 dX4_combine_138
    · replace h := og_pos c1 h
      refine lv_iconst (v := (1 : Int32)) hx hb dX4_combine_133 (by decide) ?_
      refine lv_goto (tgt := 138) hx hb dX4_combine_134 (by decide) ?_
      exact W.iret (v := (1 : Int32)) hx hb hr (fun t ht hW => ⟨⟨(1 : Int32), (), rfl, ⟨(congrArg Prod.fst (og_inj h)).symm, (congrArg Prod.snd (og_inj h)).symm⟩, (by rw [ht]; exact hP), hD⟩, hS.F ht⟩) hS.2.2 dX4_combine_138
  replace h := og_neg c18 h
  by_cases c19 : u0 = (17 : Int32)
  · replace h := og_pos c19 h
    refine gs_in (off := 138) (tgt := 139) 17 c19 hx hb dX4_combine_1 (by decide +kernel) (by decide) ?_
    refine lv_iload_n hx hb dX4_combine_139 rfl (lv_at hl 1 rfl) ?_
    refine lv_iload_n hx hb dX4_combine_140 rfl (lv_at hl 2 rfl) ?_
    refine lv_icmp_eq (tgt := 148) hx hb dX4_combine_141 (by decide) (fun c2 => ?_) (fun c2 => ?_)
    · replace h := og_pos c2 h
      refine lv_iconst (v := (0 : Int32)) hx hb dX4_combine_148 (by decide) ?_
      exact W.iret (v := (0 : Int32)) hx hb hr (fun t ht hW => ⟨⟨(0 : Int32), (), rfl, ⟨(congrArg Prod.fst (og_inj h)).symm, (congrArg Prod.snd (og_inj h)).symm⟩, (by rw [ht]; exact hP), hD⟩, hS.F ht⟩) hS.2.2 dX4_combine_149
    · replace h := og_neg c2 h
      refine lv_iconst (v := (1 : Int32)) hx hb dX4_combine_144 (by decide) ?_
      refine lv_goto (tgt := 149) hx hb dX4_combine_145 (by decide) ?_
      exact W.iret (v := (1 : Int32)) hx hb hr (fun t ht hW => ⟨⟨(1 : Int32), (), rfl, ⟨(congrArg Prod.fst (og_inj h)).symm, (congrArg Prod.snd (og_inj h)).symm⟩, (by rw [ht]; exact hP), hD⟩, hS.F ht⟩) hS.2.2 dX4_combine_149
  replace h := og_neg c19 h
  by_cases c20 : u0 = (18 : Int32)
  · replace h := og_pos c20 h
    refine gs_in (off := 149) (tgt := 150) 18 c20 hx hb dX4_combine_1 (by decide +kernel) (by decide) ?_
    refine lv_iload_n hx hb dX4_combine_150 rfl (lv_at hl 1 rfl) ?_
    refine lv_iload_n hx hb dX4_combine_151 rfl (lv_at hl 2 rfl) ?_
    obtain ⟨⟨r3, _u3⟩, e3, h⟩ := og_bind h
    dsimp only at h
    refine gc_i (ws := (wl ([] : List va_W))) (wc := (wl ([] : List va_W))) (wr := (wl ([] : List va_W))) (ws' := (wl ([] : List va_W))) (va_runS (As := [.int u1, .int u2]) (rest := []) ⟨hx, hb, hml, hown, hT⟩ (k_X4_isBelowUnsigned l D cA  s.heap.size u1 u2  _ e3) (cwS 2 hT gs_RX4_181 rfl rfl rfl (by decide +kernel) ⟨Nat.le_of_ble_eq_true rfl, Nat.le_of_ble_eq_true rfl⟩) (pre_S (wr := (wl ([] : List va_W))) (pm (f := fun i => ([] : List va_W).getD i []) [] [] [] (by decide)) hK hP hD) rfl rfl hl.1 rfl (lv_room (Nat.le_of_ble_eq_true rfl)) dX4_combine_152 ⟨Nat.le_refl _, Nat.le_refl _⟩) (pm (f := fun i => ([] : List va_W).getD i []) [] [] [] (by decide)) hP hD hS hA (pm (f := fun i => ([] : List va_W).getD i []) [] [] [] (by decide)) (fun H locs hP hD hS => ?_)
    refine lv_if_eq (tgt := 162) hx hb dX4_combine_155 (by decide) (fun c4 => ?_) (fun c4 => ?_)
    · replace h := og_pos c4 h
      refine lv_iconst (v := (0 : Int32)) hx hb dX4_combine_162 (by decide) ?_
      exact W.iret (v := (0 : Int32)) hx hb hr (fun t ht hW => ⟨⟨(0 : Int32), (), rfl, ⟨(congrArg Prod.fst (og_inj h)).symm, (congrArg Prod.snd (og_inj h)).symm⟩, (by rw [ht]; exact hP), hD⟩, hS.F ht⟩) hS.2.2 dX4_combine_163
    · replace h := og_neg c4 h
      refine lv_iconst (v := (1 : Int32)) hx hb dX4_combine_158 (by decide) ?_
      refine lv_goto (tgt := 163) hx hb dX4_combine_159 (by decide) ?_
      exact W.iret (v := (1 : Int32)) hx hb hr (fun t ht hW => ⟨⟨(1 : Int32), (), rfl, ⟨(congrArg Prod.fst (og_inj h)).symm, (congrArg Prod.snd (og_inj h)).symm⟩, (by rw [ht]; exact hP), hD⟩, hS.F ht⟩) hS.2.2 dX4_combine_163
  replace h := og_neg c20 h
  by_cases c21 : u0 = (19 : Int32)
  · replace h := og_pos c21 h
    refine gs_in (off := 163) (tgt := 164) 19 c21 hx hb dX4_combine_1 (by decide +kernel) (by decide) ?_
    refine lv_iload_n hx hb dX4_combine_164 rfl (lv_at hl 2 rfl) ?_
    refine lv_iload_n hx hb dX4_combine_165 rfl (lv_at hl 1 rfl) ?_
    obtain ⟨⟨r5, _u5⟩, e5, h⟩ := og_bind h
    dsimp only at h
    refine gc_i (ws := (wl ([] : List va_W))) (wc := (wl ([] : List va_W))) (wr := (wl ([] : List va_W))) (ws' := (wl ([] : List va_W))) (va_runS (As := [.int u2, .int u1]) (rest := []) ⟨hx, hb, hml, hown, hT⟩ (k_X4_isBelowUnsigned l D cA  s.heap.size u2 u1  _ e5) (cwS 2 hT gs_RX4_181 rfl rfl rfl (by decide +kernel) ⟨Nat.le_of_ble_eq_true rfl, Nat.le_of_ble_eq_true rfl⟩) (pre_S (wr := (wl ([] : List va_W))) (pm (f := fun i => ([] : List va_W).getD i []) [] [] [] (by decide)) hK hP hD) rfl rfl hl.1 rfl (lv_room (Nat.le_of_ble_eq_true rfl)) dX4_combine_166 ⟨Nat.le_refl _, Nat.le_refl _⟩) (pm (f := fun i => ([] : List va_W).getD i []) [] [] [] (by decide)) hP hD hS hA (pm (f := fun i => ([] : List va_W).getD i []) [] [] [] (by decide)) (fun H locs hP hD hS => ?_)
    refine lv_if_eq (tgt := 176) hx hb dX4_combine_169 (by decide) (fun c6 => ?_) (fun c6 => ?_)
    · replace h := og_pos c6 h
      refine lv_iconst (v := (1 : Int32)) hx hb dX4_combine_176 (by decide) ?_
      exact W.iret (v := (1 : Int32)) hx hb hr (fun t ht hW => ⟨⟨(1 : Int32), (), rfl, ⟨(congrArg Prod.fst (og_inj h)).symm, (congrArg Prod.snd (og_inj h)).symm⟩, (by rw [ht]; exact hP), hD⟩, hS.F ht⟩) hS.2.2 dX4_combine_177
    · replace h := og_neg c6 h
      refine lv_iconst (v := (0 : Int32)) hx hb dX4_combine_172 (by decide) ?_
      refine lv_goto (tgt := 177) hx hb dX4_combine_173 (by decide) ?_
      exact W.iret (v := (0 : Int32)) hx hb hr (fun t ht hW => ⟨⟨(0 : Int32), (), rfl, ⟨(congrArg Prod.fst (og_inj h)).symm, (congrArg Prod.snd (og_inj h)).symm⟩, (by rw [ht]; exact hP), hD⟩, hS.F ht⟩) hS.2.2 dX4_combine_177
  replace h := og_neg c21 h
  by_cases c22 : u0 = (20 : Int32)
  · replace h := og_pos c22 h
    refine gs_in (off := 177) (tgt := 178) 20 c22 hx hb dX4_combine_1 (by decide +kernel) (by decide) ?_
    refine lv_iload_n hx hb dX4_combine_178 rfl (lv_at hl 1 rfl) ?_
    refine lv_iload_n hx hb dX4_combine_179 rfl (lv_at hl 2 rfl) ?_
    refine lv_icmp_ge (tgt := 187) hx hb dX4_combine_180 (by decide) (fun c7 => ?_) (fun c7 => ?_)
    · replace h := og_pos c7 h
      refine lv_iconst (v := (0 : Int32)) hx hb dX4_combine_187 (by decide) ?_
      exact W.iret (v := (0 : Int32)) hx hb hr (fun t ht hW => ⟨⟨(0 : Int32), (), rfl, ⟨(congrArg Prod.fst (og_inj h)).symm, (congrArg Prod.snd (og_inj h)).symm⟩, (by rw [ht]; exact hP), hD⟩, hS.F ht⟩) hS.2.2 dX4_combine_188
    · replace h := og_neg c7 h
      refine lv_iconst (v := (1 : Int32)) hx hb dX4_combine_183 (by decide) ?_
      refine lv_goto (tgt := 188) hx hb dX4_combine_184 (by decide) ?_
      exact W.iret (v := (1 : Int32)) hx hb hr (fun t ht hW => ⟨⟨(1 : Int32), (), rfl, ⟨(congrArg Prod.fst (og_inj h)).symm, (congrArg Prod.snd (og_inj h)).symm⟩, (by rw [ht]; exact hP), hD⟩, hS.F ht⟩) hS.2.2 dX4_combine_188
  replace h := og_neg c22 h
  by_cases c23 : u0 = (21 : Int32)
  · replace h := og_pos c23 h
    refine gs_in (off := 188) (tgt := 189) 21 c23 hx hb dX4_combine_1 (by decide +kernel) (by decide) ?_
    refine lv_iload_n hx hb dX4_combine_189 rfl (lv_at hl 1 rfl) ?_
    refine lv_iload_n hx hb dX4_combine_190 rfl (lv_at hl 2 rfl) ?_
    refine lv_icmp_gt (tgt := 198) hx hb dX4_combine_191 (by decide) (fun c8 => ?_) (fun c8 => ?_)
    · replace h := og_pos c8 h
      refine lv_iconst (v := (0 : Int32)) hx hb dX4_combine_198 (by decide) ?_
      exact W.iret (v := (0 : Int32)) hx hb hr (fun t ht hW => ⟨⟨(0 : Int32), (), rfl, ⟨(congrArg Prod.fst (og_inj h)).symm, (congrArg Prod.snd (og_inj h)).symm⟩, (by rw [ht]; exact hP), hD⟩, hS.F ht⟩) hS.2.2 dX4_combine_199
    · replace h := og_neg c8 h
      refine lv_iconst (v := (1 : Int32)) hx hb dX4_combine_194 (by decide) ?_
      refine lv_goto (tgt := 199) hx hb dX4_combine_195 (by decide) ?_
      exact W.iret (v := (1 : Int32)) hx hb hr (fun t ht hW => ⟨⟨(1 : Int32), (), rfl, ⟨(congrArg Prod.fst (og_inj h)).symm, (congrArg Prod.snd (og_inj h)).symm⟩, (by rw [ht]; exact hP), hD⟩, hS.F ht⟩) hS.2.2 dX4_combine_199
  replace h := og_neg c23 h
  have hdf : W p l e (headSpec (wsU yX4_combine cX4_combine 3 (some .int)) ({ frames := 1, cells := 0, slots := 0, locals := 21 })).room s m ([.int u0, .int u1, .int u2] : List Value).toArray below meth c s.heap [] 0 0 (MQ below (QI D (fun _ : Unit => (wl ([] : List va_W))) R A) ([.int u0, .int u1, .int u2] : List Value).toArray s 0 0 A) (F0 m 200 ls []) := by
    refine lv_iconst (v := (0 : Int32)) hx hb dX4_combine_200 (by decide) ?_
    exact W.iret (v := (0 : Int32)) hx hb hr (fun t ht hW => ⟨⟨(0 : Int32), (), rfl, ⟨(congrArg Prod.fst (og_inj h)).symm, (congrArg Prod.snd (og_inj h)).symm⟩, (by rw [ht]; exact hP), hD⟩, hS.F ht⟩) hS.2.2 dX4_combine_201
  by_cases c24 : u0 = (12 : Int32)
  · exact gs_in (off := 199) (tgt := 200) 12 c24 hx hb dX4_combine_1 (by decide +kernel) (by decide) hdf
  by_cases c25 : u0 = (13 : Int32)
  · exact gs_in (off := 199) (tgt := 200) 13 c25 hx hb dX4_combine_1 (by decide +kernel) (by decide) hdf
  by_cases c26 : u0 = (14 : Int32)
  · exact gs_in (off := 199) (tgt := 200) 14 c26 hx hb dX4_combine_1 (by decide +kernel) (by decide) hdf
  by_cases c27 : u0 = (15 : Int32)
  · exact gs_in (off := 199) (tgt := 200) 15 c27 hx hb dX4_combine_1 (by decide +kernel) (by decide) hdf
  refine lv_tableOut (tgt := 200) hx hb dX4_combine_1 (gs_out 19 (by decide) (fun k9 hk9 => ?_)) (by decide) ?_
  · rcases (show k9 = 0 ∨ k9 = 1 ∨ k9 = 2 ∨ k9 = 3 ∨ k9 = 4 ∨ k9 = 5 ∨ k9 = 6 ∨ k9 = 7 ∨ k9 = 8 ∨ k9 = 9 ∨ k9 = 10 ∨ k9 = 11 ∨ k9 = 12 ∨ k9 = 13 ∨ k9 = 14 ∨ k9 = 15 ∨ k9 = 16 ∨ k9 = 17 ∨ k9 = 18 by omega) with rfl | rfl | rfl | rfl | rfl | rfl | rfl | rfl | rfl | rfl | rfl | rfl | rfl | rfl | rfl | rfl | rfl | rfl | rfl
    · exact gs_ne c9 (by decide +kernel)
    · exact gs_ne c10 (by decide +kernel)
    · exact gs_ne c11 (by decide +kernel)
    · exact gs_ne c12 (by decide +kernel)
    · exact gs_ne c13 (by decide +kernel)
    · exact gs_ne c14 (by decide +kernel)
    · exact gs_ne c15 (by decide +kernel)
    · exact gs_ne c16 (by decide +kernel)
    · exact gs_ne c17 (by decide +kernel)
    · exact gs_ne c24 (by decide +kernel)
    · exact gs_ne c25 (by decide +kernel)
    · exact gs_ne c26 (by decide +kernel)
    · exact gs_ne c27 (by decide +kernel)
    · exact gs_ne c18 (by decide +kernel)
    · exact gs_ne c19 (by decide +kernel)
    · exact gs_ne c20 (by decide +kernel)
    · exact gs_ne c21 (by decide +kernel)
    · exact gs_ne c22 (by decide +kernel)
    · exact gs_ne c23 (by decide +kernel)
  exact hdf
set_option maxRecDepth 100000 in
set_option maxHeartbeats 8000000 in
theorem k_X4_divide (l : Launch) (D : va_G) (cA : Nat → ClassId)  (sz : Nat) (u0 : Int32) (u1 : Int32) (u2 : Int32) (R : Int32 × Unit) (h : f_X4_divide u0 u1 u2 = some R) : Met l yX4_divide (wsU yX4_divide cX4_divide 8 (some .int)) ({ frames := 0, cells := 0, slots := 0, locals := 0 }) (PcW D cA (wl ([] : List va_W)) sz [.int u0, .int u1, .int u2]) (QI D (fun _ : Unit => (wl ([] : List va_W))) R (va_A (wl ([] : List va_W)) sz)) 0 0 (va_A (wl ([] : List va_W)) sz) := by
  refine Met.ofW (cc := cX4_divide) (maxL := 8) (ret := (some .int)) (by decide) rfl ?_
  intro p e s m args below meth c s₁ B hml hv
  obtain ⟨rfl, hsz, hP, hK, hD0⟩ := hv
  have hx := B.exec
  have hb := B.bytes
  have hr := B.returns
  have hts := atoms_spec (ws := (wsU yX4_divide cX4_divide 8 (some .int))) B.pre
  have hT : ∀ w ∈ wsL_law, w.before ([.int u0, .int u1, .int u2] : List Value).toArray s = true := fun w h => hts w (List.mem_cons_of_mem _ h)
  have hown : s.vm.findClass RX4 = some m.cls := findClass_of_methodNamed B.named
  have hlocks := B.notSynchronized
  have hN := hK.2
  subst hsz
  have hD := hD0.self (sz := s.heap.size)
  generalize hAe : va_A (wl ([] : List va_W)) s.heap.size = A at hD ⊢
  have hA : ∀ q : Nat, s.heap.size ≤ q → A q := fun q h => by rw [← hAe]; exact Or.inr h
  have hS : va_S A s.heap s.heap [] := va_S.rf
  have hl := lv_entry ([.int u0, .int u1, .int u2]) (n := 8) (Nat.le_of_ble_eq_true rfl)
  rw [lg_entry_eq]
  generalize (lg_sl ([.int u0, .int u1, .int u2]) ++ List.replicate (8 - (lg_sl ([.int u0, .int u1, .int u2])).length) Slot.unset).toArray = ls at hl ⊢
  have hl : lv_has ls 8 [(0, .int u0), (1, .int u1), (2, .int u2)] := hl
  have b91 : ∀ (y0 : Int64) (H : Heap) (locs : List Loc) (ls : Array Slot), f_X4_divide_b91 y0 = some R → va_P D vwCl (wl ([] : List va_W)) H → va_D A (wl ([] : List va_W)) → va_S A s.heap H locs → lv_has ls 8 [] → W p l e (headSpec (wsU yX4_divide cX4_divide 8 (some .int)) ({ frames := 0, cells := 0, slots := 0, locals := 0 })).room s m ([.int u0, .int u1, .int u2] : List Value).toArray below meth c H locs 0 0 (MQ below (QI D (fun _ : Unit => (wl ([] : List va_W))) R A) ([.int u0, .int u1, .int u2] : List Value).toArray s 0 0 A) (F0 m 91 ls [.long y0]) := by
    intro y0 H locs ls h hP hD hS hl
    unfold f_X4_divide_b91 at h
    refine lv_l2i (v := y0.toInt32) hx hb dX4_divide_91 rfl ?_
    exact W.iret (v := y0.toInt32) hx hb hr (fun t ht hW => ⟨⟨y0.toInt32, (), rfl, ⟨(congrArg Prod.fst (og_inj h)).symm, (congrArg Prod.snd (og_inj h)).symm⟩, (by rw [ht]; exact hP), hD⟩, hS.F ht⟩) hS.2.2 dX4_divide_92
  have b44 : ∀ (x1 : Int32) (x2 : Int32) (x3 : Int32) (H : Heap) (locs : List Loc) (ls : Array Slot), f_X4_divide_b44 x1 x2 x3 = some R → va_P D vwCl (wl ([] : List va_W)) H → va_D A (wl ([] : List va_W)) → va_S A s.heap H locs → lv_has ls 8 [(1, .int x1), (2, .int x2), (3, .int x3)] → W p l e (headSpec (wsU yX4_divide cX4_divide 8 (some .int)) ({ frames := 0, cells := 0, slots := 0, locals := 0 })).room s m ([.int u0, .int u1, .int u2] : List Value).toArray below meth c H locs 0 0 (MQ below (QI D (fun _ : Unit => (wl ([] : List va_W))) R A) ([.int u0, .int u1, .int u2] : List Value).toArray s 0 0 A) (F0 m 44 ls []) := by
    intro x1 x2 x3 H locs ls h hP hD hS hl
    unfold f_X4_divide_b44 at h
    refine lv_iload_n hx hb dX4_divide_44 rfl (lv_at hl 2 rfl) ?_
    refine lv_if_eq (tgt := 54) hx hb dX4_divide_45 (by decide) (fun c1 => ?_) (fun c1 => ?_)
    · replace h := og_pos c1 h
      refine lv_iload_n hx hb dX4_divide_54 rfl (lv_at hl 0 rfl) ?_
      refine lv_iload_n hx hb dX4_divide_55 rfl (lv_at hl 1 rfl) ?_
      obtain ⟨g2, h⟩ := og_guard h
      refine lv_idiv hx hb dX4_divide_56 g2 ?_
      exact W.iret (v := (x1 / x2)) hx hb hr (fun t ht hW => ⟨⟨(x1 / x2), (), rfl, ⟨(congrArg Prod.fst (og_inj h)).symm, (congrArg Prod.snd (og_inj h)).symm⟩, (by rw [ht]; exact hP), hD⟩, hS.F ht⟩) hS.2.2 dX4_divide_57
    · replace h := og_neg c1 h
      refine lv_iload_n hx hb dX4_divide_48 rfl (lv_at hl 0 rfl) ?_
      refine lv_iload_n hx hb dX4_divide_49 rfl (lv_at hl 1 rfl) ?_
      obtain ⟨g3, h⟩ := og_guard h
      refine lv_irem hx hb dX4_divide_50 g3 ?_
      refine lv_goto (tgt := 57) hx hb dX4_divide_51 (by decide) ?_
      exact W.iret (v := (x1 - x1 / x2 * x2)) hx hb hr (fun t ht hW => ⟨⟨(x1 - x1 / x2 * x2), (), rfl, ⟨(congrArg Prod.fst (og_inj h)).symm, (congrArg Prod.snd (og_inj h)).symm⟩, (by rw [ht]; exact hP), hD⟩, hS.F ht⟩) hS.2.2 dX4_divide_57
  have b17 : ∀ (x0 : Int32) (x1 : Int32) (x2 : Int32) (y0 : Int32) (H : Heap) (locs : List Loc) (ls : Array Slot), f_X4_divide_b17 x0 x1 x2 y0 = some R → va_P D vwCl (wl ([] : List va_W)) H → va_D A (wl ([] : List va_W)) → va_S A s.heap H locs → lv_has ls 8 [(0, .int x0), (1, .int x1), (2, .int x2)] → W p l e (headSpec (wsU yX4_divide cX4_divide 8 (some .int)) ({ frames := 0, cells := 0, slots := 0, locals := 0 })).room s m ([.int u0, .int u1, .int u2] : List Value).toArray below meth c H locs 0 0 (MQ below (QI D (fun _ : Unit => (wl ([] : List va_W))) R A) ([.int u0, .int u1, .int u2] : List Value).toArray s 0 0 A) (F0 m 17 ls [.int y0]) := by
    intro x0 x1 x2 y0 H locs ls h hP hD hS hl
    unfold f_X4_divide_b17 at h
    refine lv_istore_n (lv' := [(3, .int y0), (0, .int x0), (1, .int x1), (2, .int x2)]) hx hb dX4_divide_17 rfl hl (by decide) rfl (fun ls hl => ?_)
    refine lv_iload_n hx hb dX4_divide_18 rfl (lv_at hl 3 rfl) ?_
    refine lv_if_ne (tgt := 32) hx hb dX4_divide_19 (by decide) (fun c4 => ?_) (fun c4 => ?_)
    · replace h := og_neg c4 h
      refine lv_iload_n hx hb dX4_divide_32 rfl (lv_at hl 1 rfl) ?_
      refine lv_bipush (v := (14 : Int32)) hx hb dX4_divide_33 (by decide) ?_
      refine lv_icmp_eq (tgt := 44) hx hb dX4_divide_35 (by decide) (fun c5 => ?_) (fun c5 => ?_)
      · replace h := og_pos c5 h
        exact b44  _ _ _ _ _ _ h hP hD hS (lv_sub hl [2, 3, 0] rfl)
      · replace h := og_neg c5 h
        refine lv_iload_n hx hb dX4_divide_38 rfl (lv_at hl 1 rfl) ?_
        refine lv_bipush (v := (15 : Int32)) hx hb dX4_divide_39 (by decide) ?_
        refine lv_icmp_ne (tgt := 58) hx hb dX4_divide_41 (by decide) (fun c6 => ?_) (fun c6 => ?_)
        · replace h := og_neg c6 h
          refine lv_iload_n hx hb dX4_divide_58 rfl (lv_at hl 2 rfl) ?_
          refine lv_i2l (v := x1.toInt64) hx hb dX4_divide_59 rfl ?_
          refine lv_ldc2 (v := (4294967295 : Int64)) hx hb hown (hT _ kl_RX4_179) dX4_divide_60 ?_
          refine lv_land hx hb dX4_divide_63 ?_
          refine lv_lstore (lv' := [(4, .long (x1.toInt64 &&& (4294967295 : Int64))), (3, .int y0), (0, .int x0), (1, .int x1), (2, .int x2)]) hx hb dX4_divide_64 hl (by decide) rfl (fun ls hl => ?_)
          refine lv_iload_n hx hb dX4_divide_66 rfl (lv_at hl 4 rfl) ?_
          refine lv_i2l (v := x2.toInt64) hx hb dX4_divide_67 rfl ?_
          refine lv_ldc2 (v := (4294967295 : Int64)) hx hb hown (hT _ kl_RX4_179) dX4_divide_68 ?_
          refine lv_land hx hb dX4_divide_71 ?_
          refine lv_lstore (lv' := [(6, .long (x2.toInt64 &&& (4294967295 : Int64))), (4, .long (x1.toInt64 &&& (4294967295 : Int64))), (3, .int y0), (0, .int x0), (1, .int x1), (2, .int x2)]) hx hb dX4_divide_72 hl (by decide) rfl (fun ls hl => ?_)
          refine lv_iload_n hx hb dX4_divide_74 rfl (lv_at hl 2 rfl) ?_
          refine lv_if_eq (tgt := 86) hx hb dX4_divide_75 (by decide) (fun c7 => ?_) (fun c7 => ?_)
          · replace h := og_pos c7 h
            refine lv_lload hx hb dX4_divide_86 (lv_at hl 1 rfl) ?_
            refine lv_lload hx hb dX4_divide_88 (lv_at hl 0 rfl) ?_
            obtain ⟨g8, h⟩ := og_guard h
            refine lv_ldiv hx hb dX4_divide_90 g8 ?_
            exact b91  _ _ _ _ h hP hD hS (lv_sub hl [] rfl)
          · replace h := og_neg c7 h
            refine lv_lload hx hb dX4_divide_78 (lv_at hl 1 rfl) ?_
            refine lv_lload hx hb dX4_divide_80 (lv_at hl 0 rfl) ?_
            obtain ⟨g9, h⟩ := og_guard h
            refine lv_lrem hx hb dX4_divide_82 g9 ?_
            refine lv_goto (tgt := 91) hx hb dX4_divide_83 (by decide) ?_
            exact b91  _ _ _ _ h hP hD hS (lv_sub hl [] rfl)
        · replace h := og_pos c6 h
          exact b44  _ _ _ _ _ _ h hP hD hS (lv_sub hl [2, 3, 0] rfl)
    · replace h := og_pos c4 h
      refine lv_iload_n hx hb dX4_divide_22 rfl (lv_at hl 0 rfl) ?_
      refine lv_if_eq (tgt := 30) hx hb dX4_divide_23 (by decide) (fun c10 => ?_) (fun c10 => ?_)
      · replace h := og_pos c10 h
        refine lv_iconst (v := (-1 : Int32)) hx hb dX4_divide_30 (by decide) ?_
        exact W.iret (v := (-1 : Int32)) hx hb hr (fun t ht hW => ⟨⟨(-1 : Int32), (), rfl, ⟨(congrArg Prod.fst (og_inj h)).symm, (congrArg Prod.snd (og_inj h)).symm⟩, (by rw [ht]; exact hP), hD⟩, hS.F ht⟩) hS.2.2 dX4_divide_31
      · replace h := og_neg c10 h
        refine lv_iload_n hx hb dX4_divide_26 rfl (lv_at hl 2 rfl) ?_
        refine lv_goto (tgt := 31) hx hb dX4_divide_27 (by decide) ?_
        exact W.iret (v := x1) hx hb hr (fun t ht hW => ⟨⟨x1, (), rfl, ⟨(congrArg Prod.fst (og_inj h)).symm, (congrArg Prod.snd (og_inj h)).symm⟩, (by rw [ht]; exact hP), hD⟩, hS.F ht⟩) hS.2.2 dX4_divide_31
  have b12 : ∀ (x0 : Int32) (x1 : Int32) (x2 : Int32) (H : Heap) (locs : List Loc) (ls : Array Slot), f_X4_divide_b12 x0 x1 x2 = some R → va_P D vwCl (wl ([] : List va_W)) H → va_D A (wl ([] : List va_W)) → va_S A s.heap H locs → lv_has ls 8 [(0, .int x0), (1, .int x1), (2, .int x2)] → W p l e (headSpec (wsU yX4_divide cX4_divide 8 (some .int)) ({ frames := 0, cells := 0, slots := 0, locals := 0 })).room s m ([.int u0, .int u1, .int u2] : List Value).toArray below meth c H locs 0 0 (MQ below (QI D (fun _ : Unit => (wl ([] : List va_W))) R A) ([.int u0, .int u1, .int u2] : List Value).toArray s 0 0 A) (F0 m 12 ls []) := by
    intro x0 x1 x2 H locs ls h hP hD hS hl
    unfold f_X4_divide_b12 at h
    refine lv_iconst (v := (1 : Int32)) hx hb dX4_divide_12 (by decide) ?_
    refine lv_goto (tgt := 17) hx hb dX4_divide_13 (by decide) ?_
    exact b17  _ _ _ _ _ _ _ h hP hD hS (lv_sub hl [0, 1, 2] rfl)
  unfold f_X4_divide at h
  refine lv_iload_n hx hb dX4_divide_0 rfl (lv_at hl 0 rfl) ?_
  refine lv_bipush (v := (13 : Int32)) hx hb dX4_divide_1 (by decide) ?_
  refine lv_icmp_eq (tgt := 12) hx hb dX4_divide_3 (by decide) (fun c11 => ?_) (fun c11 => ?_)
  · replace h := og_pos c11 h
    exact b12  _ _ _ _ _ _ h hP hD hS (lv_sub hl [0, 1, 2] rfl)
  · replace h := og_neg c11 h
    refine lv_iload_n hx hb dX4_divide_6 rfl (lv_at hl 0 rfl) ?_
    refine lv_bipush (v := (15 : Int32)) hx hb dX4_divide_7 (by decide) ?_
    refine lv_icmp_ne (tgt := 16) hx hb dX4_divide_9 (by decide) (fun c12 => ?_) (fun c12 => ?_)
    · replace h := og_neg c12 h
      refine lv_iconst (v := (0 : Int32)) hx hb dX4_divide_16 (by decide) ?_
      exact b17  _ _ _ _ _ _ _ h hP hD hS (lv_sub hl [0, 1, 2] rfl)
    · replace h := og_pos c12 h
      exact b12  _ _ _ _ _ _ h hP hD hS (lv_sub hl [0, 1, 2] rfl)
end
